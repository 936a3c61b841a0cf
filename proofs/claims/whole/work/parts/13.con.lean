/-! choices that agree: the terms F i, S i of the first k atoms can stand for A i, B i -/
def vCon (K : Nat) (F S A B : Nat → Nat) (k : Nat) : Prop := ∃ σ : Nat → Nat, vFix K σ ∧ ∀ i, i < k → σ (F i) = A i ∧ σ (S i) = B i
theorem vCon_0 {K : Nat} {F S A B : Nat → Nat} : vCon K F S A B 0 := ⟨id, fun _ _ => rfl, fun i hi => by omega⟩
theorem vCon_congr {K : Nat} {F S A B A' B' : Nat → Nat} {k : Nat} (h : ∀ i, i < k → A' i = A i ∧ B' i = B i) (hc : vCon K F S A B k) : vCon K F S A' B' k := by
  obtain ⟨σ, h1, h2⟩ := hc
  refine ⟨σ, h1, fun i hi => ?_⟩
  rw [(h i hi).1, (h i hi).2]
  exact h2 i hi
theorem vCon_mono {K : Nat} {F S A B : Nat → Nat} {k j : Nat} (hj : j ≤ k) (hc : vCon K F S A B k) : vCon K F S A B j := by
  obtain ⟨σ, h1, h2⟩ := hc
  exact ⟨σ, h1, fun i hi => h2 i (by omega)⟩
def vFit (K : Nat) (F S A B : Nat → Nat) (k : Nat) : Prop := (F k < K → F k = A k) ∧ (S k < K → S k = B k) ∧ ∀ j, j ≤ k → (F j = F k → A j = A k) ∧ (S j = S k → B j = B k) ∧ (F j = S k → A j = B k) ∧ (S j = F k → B j = A k)
theorem vCon_new {K : Nat} {F S A B : Nat → Nat} {k : Nat} {σ : Nat → Nat} (h1 : vFix K σ) (h2 : ∀ i, i < k → σ (F i) = A i ∧ σ (S i) = B i) (hf : vFit K F S A B k) : vCon K F S A B (k + 1) := by
  obtain ⟨f1, f2, f3⟩ := hf
  refine ⟨fun t => if t = F k then A k else if t = S k then B k else σ t, fun t ht => ?_, fun i hi => ?_⟩
  · show (if t = F k then A k else if t = S k then B k else σ t) = t
    by_cases e1 : t = F k
    · rw [if_pos e1, e1]; exact (f1 (e1 ▸ ht)).symm
    · rw [if_neg e1]
      by_cases e2 : t = S k
      · rw [if_pos e2, e2]; exact (f2 (e2 ▸ ht)).symm
      · rw [if_neg e2]; exact h1 t ht
  · show (if F i = F k then A k else if F i = S k then B k else σ (F i)) = A i ∧ (if S i = F k then A k else if S i = S k then B k else σ (S i)) = B i
    obtain ⟨g1, g2, g3, g4⟩ := f3 i (by omega)
    constructor
    · by_cases e1 : F i = F k
      · rw [if_pos e1]; exact (g1 e1).symm
      · rw [if_neg e1]
        by_cases e2 : F i = S k
        · rw [if_pos e2]; exact (g3 e2).symm
        · rw [if_neg e2]
          have hik : i < k := by
            by_cases e : i = k
            · exact absurd (by rw [e]) e1
            · omega
          exact (h2 i hik).1
    · by_cases e1 : S i = F k
      · rw [if_pos e1]; exact (g4 e1).symm
      · rw [if_neg e1]
        by_cases e2 : S i = S k
        · rw [if_pos e2]; exact (g2 e2).symm
        · rw [if_neg e2]
          have hik : i < k := by
            by_cases e : i = k
            · exact absurd (by rw [e]) e2
            · omega
          exact (h2 i hik).2
theorem vCon_fit {K : Nat} {F S A B : Nat → Nat} {k : Nat} : vCon K F S A B (k + 1) ↔ vCon K F S A B k ∧ vFit K F S A B k := by
  constructor
  · intro hc
    refine ⟨vCon_mono (Nat.le_succ k) hc, ?_⟩
    obtain ⟨σ, h1, h2⟩ := hc
    obtain ⟨hA, hB⟩ := h2 k (by omega)
    refine ⟨fun h => by rw [← hA, h1 _ h], fun h => by rw [← hB, h1 _ h], fun j hj => ?_⟩
    obtain ⟨jA, jB⟩ := h2 j (by omega)
    exact ⟨fun e => by rw [← jA, ← hA, e], fun e => by rw [← jB, ← hB, e], fun e => by rw [← jA, ← hB, e], fun e => by rw [← jB, ← hA, e]⟩
  · rintro ⟨⟨σ, h1, h2⟩, hf⟩
    exact vCon_new h1 h2 hf
/-- what a term stands for so far -/
def vHl (F S A B : Nat → Nat) (t : Nat) : Nat → Nat → Option Nat
  | _, 0 => none
  | i, k + 1 => if F i = t then some (A i) else if S i = t then some (B i) else vHl F S A B t (i + 1) k
def vHeld (K : Nat) (F S A B : Nat → Nat) (k t : Nat) : Option Nat := if t < K then some t else vHl F S A B t 0 k
theorem vHl_some {F S A B : Nat → Nat} {t : Nat} : ∀ {k i v : Nat}, vHl F S A B t i k = some v → ∃ j, i ≤ j ∧ j < i + k ∧ ((F j = t ∧ A j = v) ∨ (S j = t ∧ B j = v))
  | 0, _, _, h => by cases h
  | k + 1, i, v, h => by
    unfold vHl at h
    by_cases e1 : F i = t
    · rw [if_pos e1] at h
      exact ⟨i, Nat.le_refl _, by omega, Or.inl ⟨e1, Option.some.inj h⟩⟩
    · rw [if_neg e1] at h
      by_cases e2 : S i = t
      · rw [if_pos e2] at h
        exact ⟨i, Nat.le_refl _, by omega, Or.inr ⟨e2, Option.some.inj h⟩⟩
      · rw [if_neg e2] at h
        obtain ⟨j, h1, h2, h3⟩ := vHl_some h
        exact ⟨j, by omega, by omega, h3⟩
theorem vHl_none {F S A B : Nat → Nat} {t : Nat} : ∀ {k i : Nat}, vHl F S A B t i k = none → ∀ j, i ≤ j → j < i + k → F j ≠ t ∧ S j ≠ t
  | 0, _, _, j, h1, h2 => by omega
  | k + 1, i, h, j, h1, h2 => by
    unfold vHl at h
    by_cases e1 : F i = t
    · rw [if_pos e1] at h; cases h
    · rw [if_neg e1] at h
      by_cases e2 : S i = t
      · rw [if_pos e2] at h; cases h
      · rw [if_neg e2] at h
        by_cases hj : j = i
        · rw [hj]; exact ⟨e1, e2⟩
        · exact vHl_none h j (by omega) (by omega)
theorem vHeld_eq {K : Nat} {F S A B : Nat → Nat} {k t v : Nat} {σ : Nat → Nat} (h1 : vFix K σ) (h2 : ∀ i, i < k → σ (F i) = A i ∧ σ (S i) = B i) (h : vHeld K F S A B k t = some v) : σ t = v := by
  unfold vHeld at h
  by_cases ht : t < K
  · rw [if_pos ht] at h; cases h; exact h1 t ht
  · rw [if_neg ht] at h
    obtain ⟨j, -, hj, q⟩ := vHl_some h
    obtain ⟨jA, jB⟩ := h2 j (by omega)
    rcases q with ⟨e, e'⟩ | ⟨e, e'⟩
    · rw [← e, jA, e']
    · rw [← e, jB, e']
theorem vHeld_none {K : Nat} {F S A B : Nat → Nat} {k t : Nat} (h : vHeld K F S A B k t = none) : K ≤ t ∧ ∀ j, j < k → F j ≠ t ∧ S j ≠ t := by
  unfold vHeld at h
  by_cases ht : t < K
  · rw [if_pos ht] at h; cases h
  · rw [if_neg ht] at h
    exact ⟨by omega, fun j hj => vHl_none h j (Nat.zero_le _) (by omega)⟩
def vAgr (K : Nat) (F S A B : Nat → Nat) (k : Nat) : Prop := (∀ v, vHeld K F S A B k (F k) = some v → v = A k) ∧ (∀ v, vHeld K F S A B k (S k) = some v → v = B k) ∧ (F k = S k → A k = B k)
theorem vCon_agr {K : Nat} {F S A B : Nat → Nat} {k : Nat} : vCon K F S A B (k + 1) ↔ vCon K F S A B k ∧ vAgr K F S A B k := by
  constructor
  · intro hc
    refine ⟨vCon_mono (Nat.le_succ k) hc, ?_⟩
    obtain ⟨σ, h1, h2⟩ := hc
    obtain ⟨hA, hB⟩ := h2 k (by omega)
    have h2' : ∀ i, i < k → σ (F i) = A i ∧ σ (S i) = B i := fun i hi => h2 i (by omega)
    exact ⟨fun v hv => by rw [← vHeld_eq h1 h2' hv, hA], fun v hv => by rw [← vHeld_eq h1 h2' hv, hB], fun e => by rw [← hA, ← hB, e]⟩
  · rintro ⟨⟨σ, h1, h2⟩, a1, a2, a3⟩
    have key : ∀ t, (∃ j, j < k ∧ (F j = t ∨ S j = t)) ∨ t < K → ∃ v, vHeld K F S A B k t = some v := by
      intro t ht
      cases hv : vHeld K F S A B k t with
      | some v => exact ⟨v, rfl⟩
      | none =>
        obtain ⟨n1, n2⟩ := vHeld_none hv
        rcases ht with ⟨j, hj, e | e⟩ | ht
        · exact absurd e (n2 j hj).1
        · exact absurd e (n2 j hj).2
        · omega
    have kA : ∀ t, ((∃ j, j < k ∧ (F j = t ∨ S j = t)) ∨ t < K) → t = F k → σ t = A k := by
      intro t ht e
      obtain ⟨v, hv⟩ := key t ht
      rw [vHeld_eq h1 h2 hv]
      exact a1 v (e ▸ hv)
    have kB : ∀ t, ((∃ j, j < k ∧ (F j = t ∨ S j = t)) ∨ t < K) → t = S k → σ t = B k := by
      intro t ht e
      obtain ⟨v, hv⟩ := key t ht
      rw [vHeld_eq h1 h2 hv]
      exact a2 v (e ▸ hv)
    refine vCon_new h1 h2 ⟨fun h => ?_, fun h => ?_, fun j hj => ?_⟩
    · rw [← kA _ (Or.inr h) rfl, h1 _ h]
    · rw [← kB _ (Or.inr h) rfl, h1 _ h]
    · by_cases e : j = k
      · rw [e]
        exact ⟨fun _ => rfl, fun _ => rfl, a3, fun q => (a3 q.symm).symm⟩
      · have hjk : j < k := by omega
        obtain ⟨jA, jB⟩ := h2 j hjk
        refine ⟨fun q => ?_, fun q => ?_, fun q => ?_, fun q => ?_⟩
        · rw [← jA]; exact kA _ (Or.inl ⟨j, hjk, Or.inl rfl⟩) q
        · rw [← jB]; exact kB _ (Or.inl ⟨j, hjk, Or.inr rfl⟩) q
        · rw [← jA]; exact kB _ (Or.inl ⟨j, hjk, Or.inl rfl⟩) q
        · rw [← jB]; exact kA _ (Or.inl ⟨j, hjk, Or.inr rfl⟩) q
