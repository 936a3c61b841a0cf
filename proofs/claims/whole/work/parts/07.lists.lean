/-! searching, moving, lists in arrays, counting -/
def rF (P : Nat → Bool) : Nat → Nat → Option Nat
  | _, 0 => none
  | i, k + 1 => if P i = true then some i else rF P (i + 1) k
theorem rF_yes {P : Nat → Bool} {i k : Nat} (h : P i = true) : rF P i (k + 1) = some i := if_pos h
theorem rF_no {P : Nat → Bool} {i k : Nat} (h : P i = false) : rF P i (k + 1) = rF P (i + 1) k := if_neg (by rw [h]; decide)
theorem rF_some {P : Nat → Bool} : ∀ {k i j : Nat}, rF P i k = some j → i ≤ j ∧ j < i + k ∧ P j = true ∧ ∀ m, i ≤ m → m < j → P m = false
  | 0, _, _, h => by cases h
  | k + 1, i, j, h => by
    cases hp : P i with
    | true =>
      rw [rF_yes hp] at h
      cases h
      exact ⟨Nat.le_refl _, by omega, hp, fun m h1 h2 => by omega⟩
    | false =>
      rw [rF_no hp] at h
      obtain ⟨h1, h2, h3, h4⟩ := rF_some h
      refine ⟨by omega, by omega, h3, fun m g1 g2 => ?_⟩
      by_cases hm : m = i
      · rw [hm]; exact hp
      · exact h4 m (by omega) g2
theorem rF_none {P : Nat → Bool} : ∀ {k i : Nat}, rF P i k = none ↔ ∀ m, i ≤ m → m < i + k → P m = false
  | 0, i => ⟨fun _ m h1 h2 => by omega, fun _ => rfl⟩
  | k + 1, i => by
    cases hp : P i with
    | true =>
      rw [rF_yes hp]
      refine ⟨fun h => (by cases h), fun h => ?_⟩
      have := h i (Nat.le_refl _) (by omega)
      rw [hp] at this
      cases this
    | false =>
      rw [rF_no hp, rF_none]
      refine ⟨fun h m h1 h2 => ?_, fun h m h1 h2 => h m (by omega) (by omega)⟩
      by_cases hm : m = i
      · rw [hm]; exact hp
      · exact h m (by omega) (by omega)
theorem rF_congr {P P' : Nat → Bool} : ∀ {k i : Nat}, (∀ m, i ≤ m → m < i + k → P m = P' m) → rF P i k = rF P' i k
  | 0, _, _ => rfl
  | k + 1, i, h => by
    have h0 := h i (Nat.le_refl _) (by omega)
    cases hp : P i with
    | true => rw [rF_yes hp, rF_yes (h0 ▸ hp)]
    | false => rw [rF_no hp, rF_no (h0 ▸ hp)]; exact rF_congr fun m h1 h2 => h m (by omega) (by omega)
theorem rF_isSome {P : Nat → Bool} {k i : Nat} : (rF P i k).isSome = true ↔ ∃ m, i ≤ m ∧ m < i + k ∧ P m = true := by
  cases h : rF P i k with
  | none =>
    refine ⟨fun q => (by cases q), fun ⟨m, h1, h2, h3⟩ => ?_⟩
    rw [rF_none.mp h m h1 h2] at h3
    cases h3
  | some j =>
    obtain ⟨h1, h2, h3, -⟩ := rF_some h
    exact ⟨fun _ => ⟨j, h1, h2, h3⟩, fun _ => rfl⟩
def vSwap (f : Nat → Nat) (i : Nat) : Nat → Nat := va_up (va_up f i (f (i + 1))) (i + 1) (f i)
theorem vSwap_at (f : Nat → Nat) (i j : Nat) : vSwap f i j = if j = i then f (i + 1) else if j = i + 1 then f i else f j := by
  unfold vSwap va_up
  by_cases h1 : j = i
  · rw [if_pos h1, if_pos h1, if_neg (by omega)]
  · rw [if_neg h1, if_neg h1]
def vRot (f : Nat → Nat) (i : Nat) : Nat → Nat → Nat
  | 0 => f
  | k + 1 => vRot (vSwap f i) (i + 1) k
theorem vRot_at : ∀ (k : Nat) (f : Nat → Nat) (i j : Nat), vRot f i k j = if j < i then f j else if j < i + k then f (j + 1) else if j = i + k then f i else f j
  | 0, f, i, j => by
    show f j = _
    by_cases h1 : j < i
    · rw [if_pos h1]
    · rw [if_neg h1, if_neg (by omega)]
      by_cases h2 : j = i + 0
      · rw [if_pos h2]; exact congrArg f (by omega)
      · rw [if_neg h2]
  | k + 1, f, i, j => by
    show vRot (vSwap f i) (i + 1) k j = _
    rw [vRot_at k, vSwap_at, vSwap_at, vSwap_at]
    by_cases h1 : j < i
    · rw [if_pos (by omega), if_neg (by omega), if_neg (by omega), if_pos h1]
    · rw [if_neg h1]
      by_cases h2 : j = i
      · rw [if_pos (by omega), if_pos h2, if_pos (by omega), h2]
      · by_cases h3 : j < i + (k + 1)
        · rw [if_neg (by omega), if_pos (by omega), if_neg (by omega), if_neg (by omega), if_pos h3]
        · rw [if_neg (by omega), if_neg (by omega), if_neg h3]
          by_cases h4 : j = i + (k + 1)
          · rw [if_pos (by omega), if_neg (by omega), if_pos (by omega), if_pos h4]
          · rw [if_neg (by omega), if_neg (by omega), if_neg (by omega), if_neg h4]
def vBack (f : Nat → Nat) (i : Nat) : Nat → Nat → Nat
  | 0 => f
  | k + 1 => vBack (vSwap f (i + k)) i k
theorem vBack_at : ∀ (k : Nat) (f : Nat → Nat) (i j : Nat), vBack f i k j = if j < i then f j else if j = i then f (i + k) else if j ≤ i + k then f (j - 1) else f j
  | 0, f, i, j => by
    show f j = _
    by_cases h1 : j < i
    · rw [if_pos h1]
    · rw [if_neg h1]
      by_cases h2 : j = i
      · rw [if_pos h2]; exact congrArg f (by omega)
      · rw [if_neg h2, if_neg (by omega)]
  | k + 1, f, i, j => by
    show vBack (vSwap f (i + k)) i k j = _
    rw [vBack_at k, vSwap_at, vSwap_at, vSwap_at]
    by_cases h1 : j < i
    · rw [if_pos h1, if_neg (by omega), if_neg (by omega), if_pos h1]
    · rw [if_neg h1, if_neg h1]
      by_cases h2 : j = i
      · rw [if_pos h2, if_pos rfl, if_pos h2]; exact congrArg f (by omega)
      · rw [if_neg h2, if_neg h2]
        by_cases h3 : j ≤ i + k
        · rw [if_pos h3, if_neg (by omega), if_neg (by omega), if_pos (by omega)]
        · rw [if_neg h3, if_neg (by omega)]
          by_cases h4 : j = i + k + 1
          · rw [if_pos h4, if_pos (by omega)]; exact congrArg f (by omega)
          · rw [if_neg h4, if_neg (by omega)]
/-- a list of atoms in three arrays -/
def vRep (l : List vA) (n : Nat) (H F S : Nat → Nat) : Prop := n = l.length ∧ ∀ (j : Nat) (a : vA), l[j]? = some a → H j = a.1 ∧ F j = a.2.1 ∧ S j = a.2.2
theorem vRep.ix {l : List vA} {n : Nat} {H F S : Nat → Nat} (h : vRep l n H F S) {j : Nat} (hj : j < n) : l[j]? = some (H j, F j, S j) := by
  have hj' : j < l.length := by rw [← h.1]; exact hj
  have e : l[j]? = some l[j] := List.getElem?_eq_getElem hj'
  obtain ⟨h1, h2, h3⟩ := h.2 j _ e
  rw [e, h1, h2, h3]
theorem vRep.mem {l : List vA} {n : Nat} {H F S : Nat → Nat} (h : vRep l n H F S) {a : vA} : a ∈ l ↔ ∃ j, j < n ∧ a = (H j, F j, S j) := by
  constructor
  · intro ha
    obtain ⟨j, hj⟩ := List.getElem?_of_mem ha
    have hjl : j < n := by rw [h.1]; exact (List.getElem?_eq_some_iff.mp hj).1
    rw [h.ix hjl] at hj
    exact ⟨j, hjl, (Option.some.inj hj).symm⟩
  · rintro ⟨j, hj, rfl⟩
    exact List.mem_of_getElem? (h.ix hj)
theorem vRep.nil {H F S : Nat → Nat} : vRep [] 0 H F S := ⟨rfl, fun j a h => by cases h⟩
theorem vRep.app {l : List vA} {n : Nat} {H F S : Nat → Nat} (h : vRep l n H F S) (a : vA) : vRep (l ++ [a]) (n + 1) (va_up H n a.1) (va_up F n a.2.1) (va_up S n a.2.2) := by
  refine ⟨by rw [List.length_append, ← h.1]; rfl, fun j b hb => ?_⟩
  by_cases hj : j < n
  · rw [List.getElem?_append_left (by rw [← h.1]; exact hj)] at hb
    rw [up_ne (by omega), up_ne (by omega), up_ne (by omega)]
    exact h.2 j b hb
  · rw [List.getElem?_append_right (by rw [← h.1]; omega)] at hb
    have hz : j - l.length < 1 := (List.getElem?_eq_some_iff.mp hb).1
    have hjn : j = n := by rw [h.1]; have := h.1; omega
    rw [show j - l.length = 0 by omega] at hb
    cases hb
    rw [hjn, up_self, up_self, up_self]
    exact ⟨rfl, rfl, rfl⟩
theorem vRep.erase {l : List vA} {n : Nat} {H F S : Nat → Nat} (h : vRep l (n + 1) H F S) {p : Nat} (hp : p ≤ n) : vRep (l.eraseIdx p) n (vRot H p (n - p)) (vRot F p (n - p)) (vRot S p (n - p)) := by
  refine ⟨by rw [List.length_eraseIdx, ← h.1, if_pos (by omega)]; rfl, fun j b hb => ?_⟩
  rw [List.getElem?_eraseIdx] at hb
  rw [vRot_at, vRot_at, vRot_at]
  by_cases hj : j < p
  · rw [if_pos hj] at hb
    rw [if_pos hj, if_pos hj, if_pos hj]
    exact h.2 j b hb
  · rw [if_neg hj] at hb
    have hjl := (List.getElem?_eq_some_iff.mp hb).1
    rw [← h.1] at hjl
    rw [if_neg hj, if_neg hj, if_neg hj, if_pos (by omega), if_pos (by omega), if_pos (by omega)]
    exact h.2 _ b hb
/-- the atom at i to the place p before it -/
def vMove (l : List vA) (i p : Nat) : List vA := match l[i]? with
  | some a => (l.eraseIdx i).insertIdx p a
  | none => l
theorem vRep.move {l : List vA} {n : Nat} {H F S : Nat → Nat} (h : vRep l n H F S) {i p : Nat} (hi : i < n) (hp : p ≤ i) : vRep (vMove l i p) n (vBack H p (i - p)) (vBack F p (i - p)) (vBack S p (i - p)) := by
  have hl : (l.eraseIdx i).length = n - 1 := by rw [List.length_eraseIdx, ← h.1, if_pos hi]
  unfold vMove
  rw [h.ix hi]
  refine ⟨by show n = ((l.eraseIdx i).insertIdx p _).length; rw [List.length_insertIdx, hl, if_pos (by omega)]; omega, fun j b hb => ?_⟩
  have hb' : ((l.eraseIdx i).insertIdx p (H i, F i, S i))[j]? = some b := hb
  rw [List.getElem?_insertIdx] at hb'
  rw [vBack_at, vBack_at, vBack_at, show p + (i - p) = i by omega]
  by_cases hj : j < p
  · rw [if_pos hj, List.getElem?_eraseIdx, if_pos (by omega)] at hb'
    rw [if_pos hj, if_pos hj, if_pos hj]
    exact h.2 j b hb'
  · rw [if_neg hj] at hb'
    rw [if_neg hj, if_neg hj, if_neg hj]
    by_cases hj2 : j = p
    · rw [if_pos hj2, if_pos (by rw [hl]; omega)] at hb'
      cases hb'
      rw [if_pos hj2, if_pos hj2, if_pos hj2]
      exact ⟨rfl, rfl, rfl⟩
    · rw [if_neg hj2, List.getElem?_eraseIdx] at hb'
      rw [if_neg hj2, if_neg hj2, if_neg hj2]
      by_cases hj3 : j ≤ i
      · rw [if_pos (by omega)] at hb'
        rw [if_pos hj3, if_pos hj3, if_pos hj3]
        exact h.2 _ b hb'
      · rw [if_neg (by omega), show j - 1 + 1 = j by omega] at hb'
        rw [if_neg hj3, if_neg hj3, if_neg hj3]
        exact h.2 _ b hb'
/-- how many below N -/
def vCnt (p : Nat → Bool) : Nat → Nat
  | 0 => 0
  | N + 1 => vCnt p N + (p N).toNat
theorem vCnt_le (p : Nat → Bool) : ∀ N, vCnt p N ≤ N
  | 0 => Nat.le_refl _
  | N + 1 => by
    have := vCnt_le p N
    have := tn_lt (p N)
    show vCnt p N + _ ≤ _
    omega
theorem vCnt_congr {p q : Nat → Bool} : ∀ {N : Nat}, (∀ k, k < N → p k = q k) → vCnt p N = vCnt q N
  | 0, _ => rfl
  | N + 1, h => by
    show vCnt p N + _ = vCnt q N + _
    rw [h N (by omega), vCnt_congr fun k hk => h k (by omega)]
theorem vCnt_up {p : Nat → Bool} {c : Nat} (hp : p c = false) : ∀ {N : Nat}, c < N → vCnt (va_up p c true) N = vCnt p N + 1
  | 0, h => by omega
  | N + 1, h => by
    show vCnt _ N + _ = vCnt p N + _ + 1
    by_cases hc : c = N
    · subst hc
      rw [up_self, hp, vCnt_congr (q := p) fun k hk => up_ne (by omega)]
      rfl
    · rw [vCnt_up hp (by omega), up_ne (by omega)]
      omega
theorem vCnt_false : ∀ N, vCnt (fun _ => false) N = 0
  | 0 => rfl
  | N + 1 => by show vCnt _ N + 0 = 0; rw [vCnt_false N]
theorem vCnt_mono {p q : Nat → Bool} (h : ∀ k, p k = true → q k = true) : ∀ N, vCnt p N ≤ vCnt q N
  | 0 => Nat.le_refl _
  | N + 1 => by
    have h1 := vCnt_mono h N
    show vCnt p N + _ ≤ vCnt q N + _
    cases hp : p N with
    | false => exact Nat.le_trans h1 (Nat.le_add_right _ _)
    | true => rw [h N hp]; omega
