/-! roads: values so far, rows, what comes out at the end -/
/-- the atoms d .. g - 1 can be rows under values that go on from w, and then c comes out -/
def vOut (ρ : vR) (H F S : Nat → Nat) (g : Nat) (cd : (Nat → Nat) → Nat) (w : Nat → Option Nat) (d c : Nat) : Prop :=
  ∃ θ : Nat → Nat, vExt w θ ∧ (∀ i, d ≤ i → i < g → (θ (F i), θ (S i)) ∈ ρ (H i)) ∧ c = cd θ
def vGo (F S : Nat → Nat) (w : Nat → Option Nat) (d : Nat) (xy : Nat × Nat) : Nat → Option Nat := vLet (vLet w (F d) xy.1) (S d) xy.2
def vMay (F S : Nat → Nat) (w : Nat → Option Nat) (d : Nat) (xy : Nat × Nat) : Prop := vLet w (F d) xy.1 (F d) = some xy.1 ∧ vGo F S w d xy (S d) = some xy.2
theorem vOut_step {ρ : vR} {H F S : Nat → Nat} {g : Nat} {cd : (Nat → Nat) → Nat} {w : Nat → Option Nat} {d c : Nat} (hd : d < g) : vOut ρ H F S g cd w d c ↔ ∃ xy ∈ ρ (H d), vMay F S w d xy ∧ vOut ρ H F S g cd (vGo F S w d xy) (d + 1) c := by
  constructor
  · rintro ⟨θ, hx, ha, hc⟩
    refine ⟨(θ (F d), θ (S d)), ha d (Nat.le_refl _) hd, ?_⟩
    have e1 : vLet w (F d) (θ (F d)) (F d) = some (θ (F d)) := Classical.byContradiction fun z => vLet_no z hx rfl
    have x1 := (vLet_ext e1).mpr ⟨hx, rfl⟩
    have e2 : vLet (vLet w (F d) (θ (F d))) (S d) (θ (S d)) (S d) = some (θ (S d)) := Classical.byContradiction fun z => vLet_no z x1 rfl
    have x2 := (vLet_ext e2).mpr ⟨x1, rfl⟩
    exact ⟨⟨e1, e2⟩, θ, x2, fun i g1 g2 => ha i (by omega) g2, hc⟩
  · rintro ⟨xy, hr, ⟨e1, e2⟩, θ, hx, ha, hc⟩
    obtain ⟨x1, h5⟩ := (vLet_ext e2).mp hx
    obtain ⟨x0, h4⟩ := (vLet_ext e1).mp x1
    refine ⟨θ, x0, fun i g1 g2 => ?_, hc⟩
    by_cases hi : i = d
    · rw [hi, h4, h5]; exact hr
    · exact ha i (by omega) g2
/-- lu: where a term is used last; what comes out depends on the terms that are used at g -/
def vLu (F S : Nat → Nat) (g : Nat) (cd : (Nat → Nat) → Nat) (lu : Nat → Option Nat) : Prop :=
  (∀ i, i < g → (∃ j, lu (F i) = some j ∧ i ≤ j) ∧ ∃ j, lu (S i) = some j ∧ i ≤ j) ∧ ∀ θ θ' : Nat → Nat, (∀ t, t < 34 → lu t = some g → θ t = θ' t) → cd θ = cd θ'
theorem vOut_same {ρ : vR} {H F S : Nat → Nat} {g : Nat} {cd : (Nat → Nat) → Nat} {lu w w' : Nat → Option Nat} {d c : Nat} (hd : d < g) (hlu : vLu F S g cd lu) (hw : ∀ t j, lu t = some j → d < j → w t = w' t) (h : vOut ρ H F S g cd w (d + 1) c) : vOut ρ H F S g cd w' (d + 1) c := by
  obtain ⟨θ, hx, ha, hc⟩ := h
  have key : ∀ t j, lu t = some j → d < j → (w' t).getD (θ t) = θ t := by
    intro t j h1 h2
    cases hw' : w' t with
    | none => rfl
    | some k =>
      have := hx t k (by rw [hw t j h1 h2]; exact hw')
      show k = θ t
      exact this.symm
  refine ⟨fun t => (w' t).getD (θ t), fun t k hk => ?_, fun i h1 h2 => ?_, ?_⟩
  · show (w' t).getD (θ t) = k
    rw [hk]; rfl
  · obtain ⟨⟨j, j1, j2⟩, j', j3, j4⟩ := hlu.1 i h2
    show ((w' (F i)).getD (θ (F i)), (w' (S i)).getD (θ (S i))) ∈ _
    rw [key _ j j1 (by omega), key _ j' j3 (by omega)]
    exact ha i (by omega) h2
  · rw [hc]
    exact (hlu.2 _ _ fun t _ ht => (key t g ht hd)).symm
theorem vGo_at {F S : Nat → Nat} {w : Nat → Option Nat} {d : Nat} {xy : Nat × Nat} {t : Nat} (h1 : t ≠ F d) (h2 : t ≠ S d) : vGo F S w d xy t = w t := by
  have hl : ∀ (f : Nat → Option Nat) (u j : Nat), t ≠ u → vLet f u j t = f t := by
    intro f u j hu
    unfold vLet
    split
    · exact up_ne hu
    · rfl
  unfold vGo
  rw [hl _ _ _ h2, hl _ _ _ h1]
theorem vLet_keep {f : Nat → Option Nat} {u j t k : Nat} (h : f t = some k) : vLet f u j t = some k := by
  unfold vLet
  split
  · rename_i h0
    by_cases e : t = u
    · subst e; rw [h0] at h; cases h
    · rw [up_ne e]; exact h
  · exact h
theorem vGo_keep {F S : Nat → Nat} {w : Nat → Option Nat} {d : Nat} {xy : Nat × Nat} {t k : Nat} (h : w t = some k) : vGo F S w d xy t = some k := vLet_keep (vLet_keep h)
theorem vGo_1 {F S : Nat → Nat} {w : Nat → Option Nat} {d : Nat} {xy : Nat × Nat} (h : vMay F S w d xy) : vGo F S w d xy (F d) = some xy.1 := vLet_keep h.1
theorem vGo_2 {F S : Nat → Nat} {w : Nat → Option Nat} {d : Nat} {xy : Nat × Nat} (h : vMay F S w d xy) : vGo F S w d xy (S d) = some xy.2 := h.2
/-- does what a term gets at d matter later? -/
def vMat (lu w : Nat → Option Nat) (d t : Nat) : Bool := (w t).isNone && match lu t with
  | some j => decide (d < j)
  | none => false
def vMark (F S : Nat → Nat) (lu w : Nat → Option Nat) (d : Nat) (xy : Nat × Nat) : Nat := if vMat lu w d (F d) = true then xy.1 else if vMat lu w d (S d) = true then xy.2 else 0
theorem vOut_mark {ρ : vR} {H F S : Nat → Nat} {g : Nat} {cd : (Nat → Nat) → Nat} {lu w : Nat → Option Nat} {d c : Nat} {xy xy' : Nat × Nat} (hd : d < g) (hlu : vLu F S g cd lu) (hm : ¬ (vMat lu w d (F d) = true ∧ vMat lu w d (S d) = true)) (h1 : vMay F S w d xy) (h2 : vMay F S w d xy') (he : vMark F S lu w d xy = vMark F S lu w d xy') (h : vOut ρ H F S g cd (vGo F S w d xy) (d + 1) c) : vOut ρ H F S g cd (vGo F S w d xy') (d + 1) c := by
  refine vOut_same hd hlu (fun t j hj hdj => ?_) h
  have mat : ∀ t, lu t = some j → vMat lu w d t = false → ∃ k, w t = some k := by
    intro t ht hf
    unfold vMat at hf
    rw [ht] at hf
    cases hw : w t with
    | some k => exact ⟨k, rfl⟩
    | none => rw [hw] at hf; simp [hdj] at hf
  unfold vMark at he
  cases m1 : vMat lu w d (F d) with
  | true =>
    rw [m1, if_pos rfl, if_pos rfl] at he
    have m2 : vMat lu w d (S d) = false := by
      cases q : vMat lu w d (S d) with
      | false => rfl
      | true => exact absurd ⟨m1, q⟩ hm
    by_cases e1 : t = F d
    · rw [e1, vGo_1 h1, vGo_1 h2, he]
    · by_cases e2 : t = S d
      · obtain ⟨k, hk⟩ := mat (S d) (e2 ▸ hj) m2
        rw [e2, vGo_keep hk, vGo_keep hk]
      · rw [vGo_at e1 e2, vGo_at e1 e2]
  | false =>
    have he2 : vMat lu w d (S d) = true → xy.2 = xy'.2 := by
      intro m2
      simpa [m1, m2] using he
    by_cases e1 : t = F d
    · obtain ⟨k, hk⟩ := mat (F d) (e1 ▸ hj) m1
      rw [e1, vGo_keep hk, vGo_keep hk]
    · by_cases e2 : t = S d
      · cases m2 : vMat lu w d (S d) with
        | true =>
          rw [e2, vGo_2 h1, vGo_2 h2, he2 m2]
        | false =>
          obtain ⟨k, hk⟩ := mat (S d) (e2 ▸ hj) m2
          rw [e2, vGo_keep hk, vGo_keep hk]
      · rw [vGo_at e1 e2, vGo_at e1 e2]
