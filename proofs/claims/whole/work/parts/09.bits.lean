/-! bits of longs and ints as sets -/
theorem bt_sh : ∀ j, j < 64 → (((nI j).toInt64 &&& 63).toBitVec.smod 64).toNat = j := by decide +kernel
theorem bt_sh32 : ∀ j, j < 32 → ((nI j &&& 31).toBitVec.smod 32).toNat = j := by decide +kernel
def btL (x : Int64) (j : Nat) : Bool := x.toBitVec.getLsbD j
def btI (x : Int32) (j : Nat) : Bool := x.toBitVec.getLsbD j
theorem bt_one (j i : Nat) (hi : i < 64) : ((1#64) <<< j).getLsbD i = decide (i = j) := by
  rw [BitVec.getLsbD_shiftLeft, BitVec.getLsbD_one]
  by_cases h : i = j
  · subst h
    simp [hi]
  · by_cases h2 : i < j
    · simp [h, h2]
    · have : ¬ i - j = 0 := by omega
      simp [h, h2, this]
theorem bt_bit {j i : Nat} (hj : j < 64) (hi : i < 64) : btL (1 <<< ((nI j).toInt64 &&& 63)) i = decide (i = j) := by
  unfold btL
  rw [Int64.toBitVec_shiftLeft]
  show ((1#64) <<< (((nI j).toInt64 &&& 63).toBitVec.smod 64).toNat).getLsbD i = _
  rw [bt_sh j hj]
  exact bt_one j i hi
theorem bt_zero {x : Int64} : x = 0 ↔ ∀ i, i < 64 → btL x i = false := by
  constructor
  · rintro rfl i hi
    unfold btL
    show (0#64).getLsbD i = false
    simp
  · intro h
    apply Int64.toBitVec_inj.mp
    apply BitVec.eq_of_getLsbD_eq
    intro i hi
    rw [show x.toBitVec.getLsbD i = false from h i hi]
    show false = (0#64).getLsbD i
    simp
theorem bt_land (x y : Int64) (i : Nat) : btL (x &&& y) i = (btL x i && btL y i) := by
  unfold btL
  rw [Int64.toBitVec_and, BitVec.getLsbD_and]
theorem bt_lor (x y : Int64) (i : Nat) : btL (x ||| y) i = (btL x i || btL y i) := by
  unfold btL
  rw [Int64.toBitVec_or, BitVec.getLsbD_or]
theorem bt_and {x : Int64} {j : Nat} (hj : j < 64) : x &&& (1 <<< ((nI j).toInt64 &&& 63)) = 0 ↔ btL x j = false := by
  rw [bt_zero]
  constructor
  · intro h
    have := h j hj
    rw [bt_land, bt_bit hj hj] at this
    simpa using this
  · intro h i hi
    rw [bt_land, bt_bit hj hi]
    by_cases e : i = j
    · rw [e, h]; rfl
    · simp [e]
theorem bt_or {x : Int64} {j i : Nat} (hj : j < 64) (hi : i < 64) : btL (x ||| (1 <<< ((nI j).toInt64 &&& 63))) i = if i = j then true else btL x i := by
  rw [bt_lor, bt_bit hj hi]
  by_cases e : i = j
  · simp [e]
  · simp [e]
theorem bt_shr {x : Int64} {j : Nat} (hj : j < 64) : (x >>> ((nI j).toInt64 &&& 63)) &&& 1 = 0 ↔ btL x j = false := by
  have e0 : btL (x >>> ((nI j).toInt64 &&& 63)) 0 = btL x j := by
    unfold btL
    rw [Int64.toBitVec_shiftRight]
    show (x.toBitVec.sshiftRight (((nI j).toInt64 &&& 63).toBitVec.smod 64).toNat).getLsbD 0 = _
    rw [bt_sh j hj, BitVec.getLsbD_sshiftRight]
    simp [hj]
  have e1 : ∀ i, i < 64 → btL (1 : Int64) i = decide (i = 0) := by
    intro i _
    unfold btL
    show (1#64).getLsbD i = _
    rw [BitVec.getLsbD_one]
    simp
  rw [bt_zero]
  constructor
  · intro h
    have := h 0 (by decide)
    rw [bt_land, e1 0 (by decide), e0] at this
    simpa using this
  · intro h i hi
    rw [bt_land, e1 i hi]
    by_cases e : i = 0
    · rw [e, e0, h]; rfl
    · simp [e]
theorem bt_low : ∀ j, j < 64 → btL 65535 j = decide (j < 16) := by decide +kernel
/-- the same for ints -/
theorem bi_zero {x : Int32} : x = 0 ↔ ∀ i, i < 32 → btI x i = false := by
  constructor
  · rintro rfl i hi
    unfold btI
    show (0#32).getLsbD i = false
    simp
  · intro h
    apply Int32.toBitVec_inj.mp
    apply BitVec.eq_of_getLsbD_eq
    intro i hi
    rw [show x.toBitVec.getLsbD i = false from h i hi]
    show false = (0#32).getLsbD i
    simp
theorem bi_bit {j i : Nat} (hj : j < 32) (hi : i < 32) : btI (nI 1 <<< (nI j &&& 31)) i = decide (i = j) := by
  unfold btI
  rw [Int32.toBitVec_shiftLeft]
  show ((1#32) <<< ((nI j &&& 31).toBitVec.smod 32).toNat).getLsbD i = _
  rw [bt_sh32 j hj, BitVec.getLsbD_shiftLeft, BitVec.getLsbD_one]
  by_cases h : i = j
  · subst h
    simp [hi]
  · by_cases h2 : i < j
    · simp [h, h2]
    · have : ¬ i - j = 0 := by omega
      simp [h, h2, this]
theorem bi_and {x : Int32} {j : Nat} (hj : j < 32) : x &&& (nI 1 <<< (nI j &&& 31)) = 0 ↔ btI x j = false := by
  have ha : ∀ y : Int32, ∀ i, btI (x &&& y) i = (btI x i && btI y i) := by
    intro y i
    unfold btI
    rw [Int32.toBitVec_and, BitVec.getLsbD_and]
  rw [bi_zero]
  constructor
  · intro h
    have := h j hj
    rw [ha, bi_bit hj hj] at this
    simpa using this
  · intro h i hi
    rw [ha, bi_bit hj hi]
    by_cases e : i = j
    · rw [e, h]; rfl
    · simp [e]
theorem bi_or {x : Int32} {j i : Nat} (hj : j < 32) (hi : i < 32) : btI (x ||| (nI 1 <<< (nI j &&& 31))) i = if i = j then true else btI x i := by
  have : btI (x ||| (nI 1 <<< (nI j &&& 31))) i = (btI x i || btI (nI 1 <<< (nI j &&& 31)) i) := by
    unfold btI
    rw [Int32.toBitVec_or, BitVec.getLsbD_or]
  rw [this, bi_bit hj hi]
  by_cases e : i = j
  · simp [e]
  · simp [e]
theorem lc_eq {x y : Int64} : lg_cmp x y = 0 ↔ x = y := by
  unfold lg_cmp
  split
  · rename_i h
    refine ⟨fun q => absurd q (by decide), fun q => ?_⟩
    subst q
    exact absurd h Int64.lt_irrefl
  · split
    · rename_i h
      exact ⟨fun _ => by first | exact h | simpa using h, fun _ => rfl⟩
    · rename_i h1 h2
      refine ⟨fun q => absurd q (by decide), fun q => ?_⟩
      subst q
      exact absurd (by first | rfl | simp) h2
/-- patterns -/
theorem bp_al : ∀ al, al < 16 → ∀ p, p < 4 → ((nI al >>> (nI p &&& 31)) &&& nI 1 = nI (al / 2 ^ p % 2)) := by decide +kernel
theorem bp_and : ∀ p, p < 4 → ∀ w, w < 4 → nI p &&& nI w = nI (p &&& w) := by decide +kernel
theorem bp_or : ∀ p, p < 4 → ∀ w, w < 4 → nI p ||| nI w = nI (p ||| w) := by decide +kernel
