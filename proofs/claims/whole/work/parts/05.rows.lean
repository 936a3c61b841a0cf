/-! rows by the naturals behind the ints; heaps compared outside a block of cells -/
def nF (f : Nat → Nat) : Nat → Int32 := fun i => nI (f i)
def oI : Option Nat → Int32
  | none => -1
  | some k => nI k
def oF (f : Nat → Option Nat) : Nat → Int32 := fun i => oI (f i)
theorem nF_up (f : Nat → Nat) (j v : Nat) : va_up (nF f) j (nI v) = nF (va_up f j v) := by
  funext i
  unfold nF va_up
  by_cases h : i = j
  · rw [if_pos h, if_pos h]
  · rw [if_neg h, if_neg h]
theorem oF_up (f : Nat → Option Nat) (j : Nat) (v : Option Nat) : va_up (oF f) j (oI v) = oF (va_up f j v) := by
  funext i
  unfold oF va_up
  by_cases h : i = j
  · rw [if_pos h, if_pos h]
  · rw [if_neg h, if_neg h]
theorem up_self {α : Type} (f : Nat → α) (k : Nat) (v : α) : va_up f k v k = v := if_pos rfl
theorem up_ne {α : Type} {f : Nat → α} {k j : Nat} {v : α} (h : j ≠ k) : va_up f k v j = f j := if_neg h
theorem up_up {α : Type} (f : Nat → α) (k : Nat) (v w : α) : va_up (va_up f k v) k w = va_up f k w := by
  funext i
  unfold va_up
  by_cases h : i = k
  · rw [if_pos h, if_pos h]
  · rw [if_neg h, if_neg h, if_neg h]
theorem up_same {α : Type} {f : Nat → α} {k : Nat} {v : α} (h : f k = v) : va_up f k v = f := by
  funext i
  unfold va_up
  by_cases hi : i = k
  · rw [if_pos hi, hi, h]
  · rw [if_neg hi]
theorem up_comm {α : Type} (f : Nat → α) {j k : Nat} (v w : α) (h : j ≠ k) : va_up (va_up f j v) k w = va_up (va_up f k w) j v := by
  funext i
  unfold va_up
  by_cases h1 : i = j
  · subst h1
    rw [if_neg h, if_pos rfl, if_pos rfl]
  · rw [if_neg h1, if_neg h1]
/-- a cell that a store elsewhere leaves -/
theorem x_lk {h : xH} {r q : Nat} {e v : Option va_E} (hn : q ≠ r) (hq : h q = v) : va_up h r e q = v := (if_neg hn).trans hq
theorem x_ls {h : xH} {r q : Nat} {e : Option va_E} (hn : q = r) : va_up h r e q = e := if_pos hn
/-- the same outside a block of cells -/
def xfr (a b : Nat) (h h' : xH) : Prop := ∀ q, (q < a ∨ b ≤ q) → h' q = h q
theorem xfr.rf {a b : Nat} {h : xH} : xfr a b h h := fun _ _ => rfl
theorem xfr.tr {a b : Nat} {h h1 h2 : xH} (p : xfr a b h h1) (q : xfr a b h1 h2) : xfr a b h h2 := fun i hi => (q i hi).trans (p i hi)
theorem xfr.mo {a b a' b' : Nat} {h h' : xH} (p : xfr a b h h') (ha : a' ≤ a) (hb : b ≤ b') : xfr a' b' h h' := fun i hi => p i (by omega)
theorem xfr.up {a b r : Nat} {h h' : xH} {e : Option va_E} (p : xfr a b h h') (ha : a ≤ r) (hb : r < b) : xfr a b h (va_up h' r e) := fun i hi => (if_neg (by omega)).trans (p i hi)
theorem xfr.up0 {a b r : Nat} {h : xH} {e : Option va_E} (ha : a ≤ r) (hb : r < b) : xfr a b h (va_up h r e) := xfr.rf.up ha hb
theorem xfr.get {a b q : Nat} {h h' : xH} {v : Option va_E} (p : xfr a b h h') (hq : q < a ∨ b ≤ q) (hv : h q = v) : h' q = v := (p q hq).trans hv
/-- answers -/
def qR (n : Nat) (h : xH) (x : Int32) : xQ := fun v n' h' => v = some (.int x) ∧ n = n' ∧ h = h'
def qP (n : Nat) (x : Int32) (P : xH → Prop) : xQ := fun v n' h' => v = some (.int x) ∧ n = n' ∧ P h'
def qV (n : Nat) (P : xH → Prop) : xQ := fun v n' h' => v = none ∧ n = n' ∧ P h'
theorem lt31 {a b : Nat} (h : a ≤ b) (hb : b < 2147483648) : a < 2 ^ 31 := by omega
theorem oI_m1 {o : Option Nat} (h : ∀ k, o = some k → k < 2 ^ 31) : oI o = -1 ↔ o = none := by
  cases o with
  | none => exact ⟨fun _ => rfl, fun _ => rfl⟩
  | some k =>
    refine ⟨fun q => ?_, fun q => by cases q⟩
    have hk := nI_toInt (h k rfl)
    have q2 : nI k = -1 := q
    rw [q2] at hk
    have : (-1 : Int32).toInt = -1 := by decide
    omega
theorem oI_nI {o : Option Nat} {j : Nat} (hj : j < 2 ^ 31) (h : ∀ k, o = some k → k < 2 ^ 31) : oI o = nI j ↔ o = some j := by
  cases o with
  | none =>
    refine ⟨fun q => ?_, fun q => by cases q⟩
    have hk := nI_toInt hj
    have q2 : -1 = nI j := q
    rw [← q2] at hk
    have : (-1 : Int32).toInt = -1 := by decide
    omega
  | some k =>
    refine ⟨fun q => ?_, fun q => by cases q; rfl⟩
    exact congrArg some ((nI_eq (h k rfl) hj).mp q)
theorem nar_b : ∀ k, k < 2 → narrow .boolean (.int (nI k)) = .int (nI k) ∧ fits .boolean (.int (nI k)) = true ∧ vp_nar .boolean (nI k) = nI k := by decide +kernel
theorem tn_lt (b : Bool) : b.toNat < 2 := by cases b <;> decide
theorem nar_bb (b : Bool) : narrow .boolean (.int (nI b.toNat)) = .int (nI b.toNat) := (nar_b _ (tn_lt b)).1
theorem x_om : Int32.ofInt (-1) = -1 := by decide +kernel
section XN1
variable {R : Room} {M : xM} {L : Nat} {xs : Nat → Int32} {Z : xZ} {kc ks pc pc' : Nat} {ls : List (Nat × Value)} {st : List Value} {n : Nat} {h : xH}
theorem xn_iadd {a b : Nat} (hd : x_at 1 M (.iadd) pc pc') (k : XW R M L xs Z kc ks pc' ls (.int (nI (a + b)) :: st) n h) : XW R M L xs Z kc ks pc ls (.int (nI b) :: .int (nI a) :: st) n h := xr_iadd hd (by rw [nI_add]; exact k)
theorem xn_isub {a b : Nat} (hd : x_at 1 M (.isub) pc pc') (hb : b ≤ a) (k : XW R M L xs Z kc ks pc' ls (.int (nI (a - b)) :: st) n h) : XW R M L xs Z kc ks pc ls (.int (nI b) :: .int (nI a) :: st) n h := xr_isub hd (by rw [pk_sub hb]; exact k)
theorem xn_imul {a b : Nat} (hd : x_at 1 M (.imul) pc pc') (k : XW R M L xs Z kc ks pc' ls (.int (nI (a * b)) :: st) n h) : XW R M L xs Z kc ks pc ls (.int (nI b) :: .int (nI a) :: st) n h := xr_imul hd (by rw [pk_mul]; exact k)
theorem xn_idiv {a b : Nat} (hd : x_at 1 M (.idiv) pc pc') (ha : a < 2 ^ 31) (h0 : 0 < b) (hb : b < 2 ^ 31) (k : XW R M L xs Z kc ks pc' ls (.int (nI (a / b)) :: st) n h) : XW R M L xs Z kc ks pc ls (.int (nI b) :: .int (nI a) :: st) n h := xr_idiv hd (nI_ne0 h0 hb) (by rw [pk_div ha h0 hb]; exact k)
theorem xn_irem {a b : Nat} (hd : x_at 1 M (.irem) pc pc') (ha : a < 2 ^ 31) (h0 : 0 < b) (hb : b < 2 ^ 31) (k : XW R M L xs Z kc ks pc' ls (.int (nI (a % b)) :: st) n h) : XW R M L xs Z kc ks pc ls (.int (nI b) :: .int (nI a) :: st) n h := xr_irem hd (nI_ne0 h0 hb) (by rw [pk_rem ha h0 hb]; exact k)
theorem xn_iinc {i a : Nat} (hd : x_at 3 M (.iinc i 1) pc pc') (hg : x_get ls i = some (.int (nI a))) (hn : i < M.2.2.1) (hok : x_ok1 ls i = true) (k : XW R M L xs Z kc ks pc' ((i, .int (nI (a + 1))) :: ls) st n h) : XW R M L xs Z kc ks pc ls st n h := xr_iinc hd hg (v := nI (a + 1)) (by rw [← nI_1]; rfl) hn hok k
theorem xn_idec {i a : Nat} (hd : x_at 3 M (.iinc i (-1)) pc pc') (hg : x_get ls i = some (.int (nI (a + 1)))) (hn : i < M.2.2.1) (hok : x_ok1 ls i = true) (k : XW R M L xs Z kc ks pc' ((i, .int (nI a)) :: ls) st n h) : XW R M L xs Z kc ks pc ls st n h := xr_iinc hd hg (v := nI a) (by rw [x_om, pk_m1]) hn hok k
theorem xn_icmp_eq {a b : Nat} {off : Int} {tgt : Nat} (hd : x_br M (.if_icmp .eq off) off pc pc' tgt) (ha : a < 2 ^ 31) (hb : b < 2 ^ 31) (kt : a = b → XW R M L xs Z kc ks tgt ls st n h) (kf : a ≠ b → XW R M L xs Z kc ks pc' ls st n h) : XW R M L xs Z kc ks pc ls (.int (nI b) :: .int (nI a) :: st) n h := xr_icmp_eq hd (fun q => kt ((nI_eq ha hb).mp q)) (fun q => kf (fun z => q ((nI_eq ha hb).mpr z)))
theorem xn_icmp_ne {a b : Nat} {off : Int} {tgt : Nat} (hd : x_br M (.if_icmp .ne off) off pc pc' tgt) (ha : a < 2 ^ 31) (hb : b < 2 ^ 31) (kt : a ≠ b → XW R M L xs Z kc ks tgt ls st n h) (kf : a = b → XW R M L xs Z kc ks pc' ls st n h) : XW R M L xs Z kc ks pc ls (.int (nI b) :: .int (nI a) :: st) n h := xr_icmp_ne hd (fun q => kt (fun z => q ((nI_eq ha hb).mpr z))) (fun q => kf ((nI_eq ha hb).mp q))
theorem xn_icmp_lt {a b : Nat} {off : Int} {tgt : Nat} (hd : x_br M (.if_icmp .lt off) off pc pc' tgt) (ha : a < 2 ^ 31) (hb : b < 2 ^ 31) (kt : a < b → XW R M L xs Z kc ks tgt ls st n h) (kf : b ≤ a → XW R M L xs Z kc ks pc' ls st n h) : XW R M L xs Z kc ks pc ls (.int (nI b) :: .int (nI a) :: st) n h := xr_icmp_lt hd (fun q => kt ((nI_ltI ha hb).mp q)) (fun q => kf (Nat.le_of_not_lt (fun z => q ((nI_ltI ha hb).mpr z))))
theorem xn_icmp_gt {a b : Nat} {off : Int} {tgt : Nat} (hd : x_br M (.if_icmp .gt off) off pc pc' tgt) (ha : a < 2 ^ 31) (hb : b < 2 ^ 31) (kt : b < a → XW R M L xs Z kc ks tgt ls st n h) (kf : a ≤ b → XW R M L xs Z kc ks pc' ls st n h) : XW R M L xs Z kc ks pc ls (.int (nI b) :: .int (nI a) :: st) n h := xr_icmp_gt hd (fun q => kt ((nI_ltI hb ha).mp q)) (fun q => kf (Nat.le_of_not_lt (fun z => q ((nI_ltI hb ha).mpr z))))
theorem xn_icmp_le {a b : Nat} {off : Int} {tgt : Nat} (hd : x_br M (.if_icmp .le off) off pc pc' tgt) (ha : a < 2 ^ 31) (hb : b < 2 ^ 31) (kt : a ≤ b → XW R M L xs Z kc ks tgt ls st n h) (kf : b < a → XW R M L xs Z kc ks pc' ls st n h) : XW R M L xs Z kc ks pc ls (.int (nI b) :: .int (nI a) :: st) n h := xr_icmp_le hd (fun q => kt ((nI_leI ha hb).mp q)) (fun q => kf (Nat.lt_of_not_le (fun z => q ((nI_leI ha hb).mpr z))))
theorem xn_icmp_ge {a b : Nat} {off : Int} {tgt : Nat} (hd : x_br M (.if_icmp .ge off) off pc pc' tgt) (ha : a < 2 ^ 31) (hb : b < 2 ^ 31) (kt : b ≤ a → XW R M L xs Z kc ks tgt ls st n h) (kf : a < b → XW R M L xs Z kc ks pc' ls st n h) : XW R M L xs Z kc ks pc ls (.int (nI b) :: .int (nI a) :: st) n h := xr_icmp_ge hd (fun q => kt ((nI_leI hb ha).mp q)) (fun q => kf (Nat.lt_of_not_le (fun z => q ((nI_leI hb ha).mpr z))))
theorem xn_if_eq {a : Nat} {off : Int} {tgt : Nat} (hd : x_br M (.ifCond .eq off) off pc pc' tgt) (ha : a < 2 ^ 31) (kt : a = 0 → XW R M L xs Z kc ks tgt ls st n h) (kf : 0 < a → XW R M L xs Z kc ks pc' ls st n h) : XW R M L xs Z kc ks pc ls (.int (nI a) :: st) n h := xr_if_eq hd (fun q => kt (Nat.eq_zero_of_not_pos (fun z => nI_ne0 z ha q))) (fun q => kf (Nat.pos_of_ne_zero (fun z => q (by rw [z]; rfl))))
theorem xn_if_ne {a : Nat} {off : Int} {tgt : Nat} (hd : x_br M (.ifCond .ne off) off pc pc' tgt) (ha : a < 2 ^ 31) (kt : 0 < a → XW R M L xs Z kc ks tgt ls st n h) (kf : a = 0 → XW R M L xs Z kc ks pc' ls st n h) : XW R M L xs Z kc ks pc ls (.int (nI a) :: st) n h := xr_if_ne hd (fun q => kt (Nat.pos_of_ne_zero (fun z => q (by rw [z]; rfl)))) (fun q => kf (Nat.eq_zero_of_not_pos (fun z => nI_ne0 z ha q)))
theorem xn_if_lt {a : Nat} {off : Int} {tgt : Nat} (hd : x_br M (.ifCond .lt off) off pc pc' tgt) (ha : a < 2 ^ 31) (kf : XW R M L xs Z kc ks pc' ls st n h) : XW R M L xs Z kc ks pc ls (.int (nI a) :: st) n h := xr_if_lt hd (fun q => absurd q (nI_pos ha)) (fun _ => kf)
theorem xn_if_ge {a : Nat} {off : Int} {tgt : Nat} (hd : x_br M (.ifCond .ge off) off pc pc' tgt) (ha : a < 2 ^ 31) (kt : XW R M L xs Z kc ks tgt ls st n h) : XW R M L xs Z kc ks pc ls (.int (nI a) :: st) n h := xr_if_ge hd (fun _ => kt) (fun q => absurd (nI_pos' ha) q)
theorem xn_if_gt {a : Nat} {off : Int} {tgt : Nat} (hd : x_br M (.ifCond .gt off) off pc pc' tgt) (ha : a < 2 ^ 31) (kt : 0 < a → XW R M L xs Z kc ks tgt ls st n h) (kf : a = 0 → XW R M L xs Z kc ks pc' ls st n h) : XW R M L xs Z kc ks pc ls (.int (nI a) :: st) n h := xr_if_gt hd (fun q => kt ((nI_ltI (by decide) ha).mp q)) (fun q => kf (Nat.eq_zero_of_not_pos (fun z => q ((nI_ltI (a := 0) (by decide) ha).mpr z))))
theorem xn_if_le {a : Nat} {off : Int} {tgt : Nat} (hd : x_br M (.ifCond .le off) off pc pc' tgt) (ha : a < 2 ^ 31) (kt : a = 0 → XW R M L xs Z kc ks tgt ls st n h) (kf : 0 < a → XW R M L xs Z kc ks pc' ls st n h) : XW R M L xs Z kc ks pc ls (.int (nI a) :: st) n h := xr_if_le hd (fun q => kt (Nat.eq_zero_of_not_pos (fun z => nI_nle z ha q))) (fun q => kf (Nat.pos_of_ne_zero (fun z => q (by rw [z]; decide))))
theorem xo_icmp_ne {o : Option Nat} {off : Int} {tgt : Nat} (hd : x_br M (.if_icmp .ne off) off pc pc' tgt) (ho : ∀ k, o = some k → k < 2 ^ 31) (kt : o ≠ none → XW R M L xs Z kc ks tgt ls st n h) (kf : o = none → XW R M L xs Z kc ks pc' ls st n h) : XW R M L xs Z kc ks pc ls (.int (-1) :: .int (oI o) :: st) n h := xr_icmp_ne hd (fun q => kt (fun z => q ((oI_m1 ho).mpr z))) (fun q => kf ((oI_m1 ho).mp q))
theorem xo_icmp_eq {o : Option Nat} {off : Int} {tgt : Nat} (hd : x_br M (.if_icmp .eq off) off pc pc' tgt) (ho : ∀ k, o = some k → k < 2 ^ 31) (kt : o = none → XW R M L xs Z kc ks tgt ls st n h) (kf : o ≠ none → XW R M L xs Z kc ks pc' ls st n h) : XW R M L xs Z kc ks pc ls (.int (-1) :: .int (oI o) :: st) n h := xr_icmp_eq hd (fun q => kt ((oI_m1 ho).mp q)) (fun q => kf (fun z => q ((oI_m1 ho).mpr z)))
theorem xon_icmp_ne {o : Option Nat} {j : Nat} {off : Int} {tgt : Nat} (hd : x_br M (.if_icmp .ne off) off pc pc' tgt) (ho : ∀ k, o = some k → k < 2 ^ 31) (hj : j < 2 ^ 31) (kt : o ≠ some j → XW R M L xs Z kc ks tgt ls st n h) (kf : o = some j → XW R M L xs Z kc ks pc' ls st n h) : XW R M L xs Z kc ks pc ls (.int (nI j) :: .int (oI o) :: st) n h := xr_icmp_ne hd (fun q => kt (fun z => q ((oI_nI hj ho).mpr z))) (fun q => kf ((oI_nI hj ho).mp q))
theorem xn_iaload {r N j : Nat} {f : Nat → Nat} (hd : x_at 1 M .iaload pc pc') (hr : h r = some (.inl (0, N, .inl (nF f)))) (hj : j < N) (hN : N < 2 ^ 31) (k : XW R M L xs Z kc ks pc' ls (.int (nI (f j)) :: st) n h) : XW R M L xs Z kc ks pc ls (.int (nI j) :: .ref r :: st) n h := xr_iaload hd hr rfl rfl hj hN k
theorem xo_iaload {r N j : Nat} {f : Nat → Option Nat} (hd : x_at 1 M .iaload pc pc') (hr : h r = some (.inl (0, N, .inl (oF f)))) (hj : j < N) (hN : N < 2 ^ 31) (k : XW R M L xs Z kc ks pc' ls (.int (oI (f j)) :: st) n h) : XW R M L xs Z kc ks pc ls (.int (nI j) :: .ref r :: st) n h := xr_iaload hd hr rfl rfl hj hN k
theorem xn_baload {r N j : Nat} {f : Nat → Nat} (hd : x_at 1 M .baload pc pc') (hr : h r = some (.inl (2, N, .inl (nF f)))) (hj : j < N) (hN : N < 2 ^ 31) (k : XW R M L xs Z kc ks pc' ls (.int (nI (f j)) :: st) n h) : XW R M L xs Z kc ks pc ls (.int (nI j) :: .ref r :: st) n h := xr_baload hd hr rfl rfl hj hN k
theorem xn_laload {r N j : Nat} {f : Nat → Int64} (hd : x_at 1 M .laload pc pc') (hr : h r = some (.inl (1, N, .inr (.inl f)))) (hj : j < N) (hN : N < 2 ^ 31) (k : XW R M L xs Z kc ks pc' ls (.long (f j) :: st) n h) : XW R M L xs Z kc ks pc ls (.int (nI j) :: .ref r :: st) n h := xr_laload hd hr rfl rfl hj hN k
theorem xn_iastore {r N j x : Nat} {f : Nat → Nat} (hd : x_at 1 M .iastore pc pc') (hr : h r = some (.inl (0, N, .inl (nF f)))) (hj : j < N) (hN : N < 2 ^ 31) (k : XW R M L xs Z kc ks pc' ls st n (va_up h r (some (.inl (0, N, .inl (nF (va_up f j x))))))) : XW R M L xs Z kc ks pc ls (.int (nI x) :: .int (nI j) :: .ref r :: st) n h := xr_iastore hd hr rfl rfl hj hN (by rw [nF_up]; exact k)
theorem xo_iastore {r N j : Nat} {x : Int32} {o : Option Nat} {f : Nat → Option Nat} (hd : x_at 1 M .iastore pc pc') (hr : h r = some (.inl (0, N, .inl (oF f)))) (hx : x = oI o) (hj : j < N) (hN : N < 2 ^ 31) (k : XW R M L xs Z kc ks pc' ls st n (va_up h r (some (.inl (0, N, .inl (oF (va_up f j o))))))) : XW R M L xs Z kc ks pc ls (.int x :: .int (nI j) :: .ref r :: st) n h := xr_iastore hd hr rfl rfl hj hN (by rw [hx, oF_up]; exact k)
theorem xn_bastore {r N j x : Nat} {f : Nat → Nat} (hd : x_at 1 M .bastore pc pc') (hr : h r = some (.inl (2, N, .inl (nF f)))) (hj : j < N) (hN : N < 2 ^ 31) (hx : x < 2) (k : XW R M L xs Z kc ks pc' ls st n (va_up h r (some (.inl (2, N, .inl (nF (va_up f j x))))))) : XW R M L xs Z kc ks pc ls (.int (nI x) :: .int (nI j) :: .ref r :: st) n h := xr_bastore hd hr rfl rfl hj hN (nar_b x hx).2.2 (by rw [nF_up]; exact k)
theorem xn_lastore {r N j : Nat} {x : Int64} {f : Nat → Int64} (hd : x_at 1 M .lastore pc pc') (hr : h r = some (.inl (1, N, .inr (.inl f)))) (hj : j < N) (hN : N < 2 ^ 31) (k : XW R M L xs Z kc ks pc' ls st n (va_up h r (some (.inl (1, N, .inr (.inl (va_up f j x))))))) : XW R M L xs Z kc ks pc ls (.long x :: .int (nI j) :: .ref r :: st) n h := xr_lastore hd hr rfl rfl hj hN k
theorem xn_aaload {r t N j y : Nat} {f : Nat → Option Nat} {K : String} (hd : x_at 1 M .aaload pc pc') (hr : h r = some (.inl (t, N, .inr (.inr (.inr (.inr f)))))) (ht : x_tys[t]? = some (.object K)) (hj : j < N) (hN : N < 2 ^ 31) (hy : f j = some y) (k : XW R M L xs Z kc ks pc' ls (.ref y :: st) n h) : XW R M L xs Z kc ks pc ls (.int (nI j) :: .ref r :: st) n h := xr_aaload hd hr ht rfl hj hN (by rw [hy]; exact k)
end XN1
/-- one if it is so, nothing if not -/
noncomputable def vB (p : Prop) : Nat := @ite _ p (Classical.propDecidable p) 1 0
theorem vB_t {p : Prop} (h : p) : vB p = 1 := if_pos h
theorem vB_f {p : Prop} (h : ¬ p) : vB p = 0 := if_neg h
theorem vB_lt (p : Prop) : vB p < 2 := by
  by_cases h : p
  · rw [vB_t h]; decide
  · rw [vB_f h]; decide
theorem vB_lt31 (p : Prop) : vB p < 2 ^ 31 := Nat.lt_trans (vB_lt p) (by decide)
theorem vB_0 {p : Prop} (h : vB p = 0) : ¬ p := fun q => by rw [vB_t q] at h; cases h
theorem vB_1 {p : Prop} (h : 0 < vB p) : p := Classical.byContradiction fun q => by rw [vB_f q] at h; cases h
theorem vB_c {p q : Prop} (h : p ↔ q) : vB p = vB q := by
  by_cases hp : p
  · rw [vB_t hp, vB_t (h.mp hp)]
  · rw [vB_f hp, vB_f (fun z => hp (h.mpr z))]
theorem nar_vB (p : Prop) : narrow .boolean (.int (nI (vB p))) = .int (nI (vB p)) := (nar_b _ (vB_lt p)).1
