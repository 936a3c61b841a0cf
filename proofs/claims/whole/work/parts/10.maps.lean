/-! mapping by trying: images so far, and what they can become -/
def vExt (f : Nat → Option Nat) (σ : Nat → Nat) : Prop := ∀ t k, f t = some k → σ t = k
def vLet (f : Nat → Option Nat) (t j : Nat) : Nat → Option Nat := if f t = none then va_up f t (some j) else f
theorem vLet_none {f : Nat → Option Nat} {t j : Nat} (h : f t = none) : vLet f t j = va_up f t (some j) := if_pos h
theorem vLet_some {f : Nat → Option Nat} {t j : Nat} (h : f t ≠ none) : vLet f t j = f := if_neg h
theorem vLet_ext {f : Nat → Option Nat} {t j : Nat} {σ : Nat → Nat} (h : vLet f t j t = some j) : vExt (vLet f t j) σ ↔ vExt f σ ∧ σ t = j := by
  by_cases h0 : f t = none
  · rw [vLet_none h0]
    constructor
    · intro hx
      refine ⟨fun u k hu => ?_, hx t j (up_self _ _ _)⟩
      by_cases hut : u = t
      · subst hut; rw [h0] at hu; cases hu
      · exact hx u k (by rw [up_ne hut]; exact hu)
    · rintro ⟨hx, hj⟩ u k hu
      by_cases hut : u = t
      · subst hut; rw [up_self] at hu; cases hu; exact hj
      · rw [up_ne hut] at hu; exact hx u k hu
  · rw [vLet_some h0] at h ⊢
    exact ⟨fun hx => ⟨hx, hx t j h⟩, fun hx => hx.1⟩
theorem vLet_no {f : Nat → Option Nat} {t j : Nat} {σ : Nat → Nat} (h : vLet f t j t ≠ some j) (hx : vExt f σ) : σ t ≠ j := by
  intro e
  by_cases h0 : f t = none
  · rw [vLet_none h0, up_self] at h; exact h rfl
  · rw [vLet_some h0] at h
    cases hf : f t with
    | none => exact h0 hf
    | some k =>
      have := hx t k hf
      exact h (by rw [hf, ← this, e])
/-- the atoms d, d + 1, .. of the first can all go into the second, but for the place lo -/
def vMP (n : Nat) (H F S : Nat → Nat) (n' : Nat) (H' F' S' : Nat → Nat) (lo : Option Nat) (f : Nat → Option Nat) (d : Nat) : Prop :=
  ∃ σ : Nat → Nat, vExt f σ ∧ ∀ i, d ≤ i → i < n → ∃ j, j < n' ∧ lo ≠ some j ∧ H i = H' j ∧ σ (F i) = F' j ∧ σ (S i) = S' j
/-- .. the atom d into the place j -/
def vMO (n : Nat) (H F S : Nat → Nat) (n' : Nat) (H' F' S' : Nat → Nat) (lo : Option Nat) (f : Nat → Option Nat) (d j : Nat) : Prop :=
  vLet f (F d) (F' j) (F d) = some (F' j) ∧ vLet (vLet f (F d) (F' j)) (S d) (S' j) (S d) = some (S' j) ∧ vMP n H F S n' H' F' S' lo (vLet (vLet f (F d) (F' j)) (S d) (S' j)) (d + 1)
theorem vMP_end {n : Nat} {H F S : Nat → Nat} {n' : Nat} {H' F' S' : Nat → Nat} {lo : Option Nat} {f : Nat → Option Nat} {d : Nat} (h : n ≤ d) : vMP n H F S n' H' F' S' lo f d := by
  refine ⟨fun t => (f t).getD 0, fun t k hk => ?_, fun i h1 h2 => by omega⟩
  show (f t).getD 0 = k
  rw [hk]; rfl
theorem vMP_step {n : Nat} {H F S : Nat → Nat} {n' : Nat} {H' F' S' : Nat → Nat} {lo : Option Nat} {f : Nat → Option Nat} {d : Nat} (h : d < n) : vMP n H F S n' H' F' S' lo f d ↔ ∃ j, j < n' ∧ lo ≠ some j ∧ H d = H' j ∧ vMO n H F S n' H' F' S' lo f d j := by
  constructor
  · rintro ⟨σ, hx, ha⟩
    obtain ⟨j, h1, h2, h3, h4, h5⟩ := ha d (Nat.le_refl _) h
    refine ⟨j, h1, h2, h3, ?_⟩
    have e1 : vLet f (F d) (F' j) (F d) = some (F' j) := Classical.byContradiction fun z => vLet_no z hx h4
    have x1 := (vLet_ext e1).mpr ⟨hx, h4⟩
    have e2 : vLet (vLet f (F d) (F' j)) (S d) (S' j) (S d) = some (S' j) := Classical.byContradiction fun z => vLet_no z x1 h5
    have x2 := (vLet_ext e2).mpr ⟨x1, h5⟩
    exact ⟨e1, e2, σ, x2, fun i g1 g2 => ha i (by omega) g2⟩
  · rintro ⟨j, h1, h2, h3, e1, e2, σ, hx, ha⟩
    obtain ⟨x1, h5⟩ := (vLet_ext e2).mp hx
    obtain ⟨x0, h4⟩ := (vLet_ext e1).mp x1
    refine ⟨σ, x0, fun i g1 g2 => ?_⟩
    by_cases hi : i = d
    · rw [hi]; exact ⟨j, h1, h2, h3, h4, h5⟩
    · exact ha i (by omega) g2
def vIm0 : Nat → Option Nat := fun t => if t < 18 then some t else none
theorem vIm0_ext {σ : Nat → Nat} : vExt vIm0 σ ↔ vFix 18 σ := by
  constructor
  · intro h t ht
    exact h t t (if_pos ht)
  · intro h t k hk
    unfold vIm0 at hk
    by_cases ht : t < 18
    · rw [if_pos ht] at hk; cases hk; exact h t ht
    · rw [if_neg ht] at hk; cases hk
theorem vMP_all {l l' : List vA} {n n' : Nat} {H F S H' F' S' : Nat → Nat} (h : vRep l n H F S) (h' : vRep l' n' H' F' S') : vMP n H F S n' H' F' S' none vIm0 0 ↔ vMaps l l' := by
  constructor
  · rintro ⟨σ, hx, ha⟩
    refine ⟨σ, vIm0_ext.mp hx, fun a hal => ?_⟩
    obtain ⟨i, hi, rfl⟩ := h.mem.mp hal
    obtain ⟨j, h1, -, h3, h4, h5⟩ := ha i (Nat.zero_le _) hi
    refine h'.mem.mpr ⟨j, h1, ?_⟩
    show (H i, σ (F i), σ (S i)) = _
    rw [h3, h4, h5]
  · rintro ⟨σ, hx, ha⟩
    refine ⟨σ, vIm0_ext.mpr hx, fun i _ hi => ?_⟩
    obtain ⟨j, h1, h2⟩ := h'.mem.mp (ha _ (h.mem.mpr ⟨i, hi, rfl⟩))
    have h2' : (H i, σ (F i), σ (S i)) = (H' j, F' j, S' j) := h2
    have e1 := congrArg Prod.fst h2'
    have e2 := congrArg (fun x => x.2.1) h2'
    have e3 := congrArg (fun x => x.2.2) h2'
    exact ⟨j, h1, (fun z => by cases z), e1, e2, e3⟩
theorem vMP_but {l : List vA} {n : Nat} {H F S : Nat → Nat} (h : vRep l n H F S) {p : Nat} : vMP n H F S n H F S (some p) vIm0 0 ↔ vMaps l (l.eraseIdx p) := by
  have key : ∀ a, a ∈ l.eraseIdx p ↔ ∃ j, j < n ∧ j ≠ p ∧ a = (H j, F j, S j) := by
    intro a
    rw [List.mem_eraseIdx_iff_getElem?]
    constructor
    · rintro ⟨j, hj, e⟩
      have hjn : j < n := by rw [h.1]; exact (List.getElem?_eq_some_iff.mp e).1
      rw [h.ix hjn] at e
      exact ⟨j, hjn, hj, (Option.some.inj e).symm⟩
    · rintro ⟨j, h1, h2, rfl⟩
      exact ⟨j, h2, h.ix h1⟩
  constructor
  · rintro ⟨σ, hx, ha⟩
    refine ⟨σ, vIm0_ext.mp hx, fun a hal => ?_⟩
    obtain ⟨i, hi, rfl⟩ := h.mem.mp hal
    obtain ⟨j, h1, h2, h3, h4, h5⟩ := ha i (Nat.zero_le _) hi
    refine (key _).mpr ⟨j, h1, fun z => h2 (by rw [z]), ?_⟩
    show (H i, σ (F i), σ (S i)) = _
    rw [h3, h4, h5]
  · rintro ⟨σ, hx, ha⟩
    refine ⟨σ, vIm0_ext.mpr hx, fun i _ hi => ?_⟩
    obtain ⟨j, h1, h2, h3⟩ := (key _).mp (ha _ (h.mem.mpr ⟨i, hi, rfl⟩))
    have h3' : (H i, σ (F i), σ (S i)) = (H j, F j, S j) := h3
    have e1 := congrArg Prod.fst h3'
    have e2 := congrArg (fun x => x.2.1) h3'
    have e3 := congrArg (fun x => x.2.2) h3'
    exact ⟨j, h1, fun z => h2 (Option.some.inj z).symm, e1, e2, e3⟩
