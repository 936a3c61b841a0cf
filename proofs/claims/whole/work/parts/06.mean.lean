/-! what is meant: atoms, lists of atoms, mappings, results -/
abbrev vA : Type := Nat × Nat × Nat
noncomputable def vD (p : Prop) : Bool := @decide p (Classical.propDecidable p)
theorem vD_iff {p : Prop} : vD p = true ↔ p := @decide_eq_true_iff p (Classical.propDecidable p)
def vSub (σ : Nat → Nat) (a : vA) : vA := (a.1, σ a.2.1, σ a.2.2)
def vFix (k : Nat) (σ : Nat → Nat) : Prop := ∀ t, t < k → σ t = t
def vMaps (l l' : List vA) : Prop := ∃ σ : Nat → Nat, vFix 18 σ ∧ ∀ a ∈ l, vSub σ a ∈ l'
abbrev vR : Type := Nat → List (Nat × Nat)
def vHolds (ρ : vR) (θ : Nat → Nat) (l : List vA) : Prop := ∀ a ∈ l, (θ a.2.1, θ a.2.2) ∈ ρ a.1
def vSem (ρ : vR) (l : List vA) (p q : Nat) : Prop := ∃ θ : Nat → Nat, vFix 16 θ ∧ θ 16 = p ∧ θ 17 = q ∧ vHolds ρ θ l
theorem vSem_maps {ρ : vR} {l l' : List vA} {p q : Nat} (h : vMaps l l') (hs : vSem ρ l' p q) : vSem ρ l p q := by
  obtain ⟨σ, h1, h2⟩ := h
  obtain ⟨θ, t1, t2, t3, t4⟩ := hs
  refine ⟨fun t => θ (σ t), fun t ht => ?_, ?_, ?_, fun a ha => t4 _ (h2 a ha)⟩
  · show θ (σ t) = t
    rw [h1 t (by omega), t1 t ht]
  · show θ (σ 16) = p
    rw [h1 16 (by omega), t2]
  · show θ (σ 17) = q
    rw [h1 17 (by omega), t3]
theorem vSem_sub {ρ : vR} {l l' : List vA} {p q : Nat} (h : ∀ a ∈ l', a ∈ l) (hs : vSem ρ l p q) : vSem ρ l' p q := by
  obtain ⟨θ, t1, t2, t3, t4⟩ := hs
  exact ⟨θ, t1, t2, t3, fun a ha => t4 a (h a ha)⟩
theorem vMaps_trans {l l' l'' : List vA} (h : vMaps l l') (h' : vMaps l' l'') : vMaps l l'' := by
  obtain ⟨σ, h1, h2⟩ := h
  obtain ⟨τ, g1, g2⟩ := h'
  refine ⟨fun t => τ (σ t), fun t ht => ?_, fun a ha => g2 _ (h2 a ha)⟩
  show τ (σ t) = t
  rw [h1 t ht, g1 t ht]
theorem vMem_erase {l : List vA} {i : Nat} {a : vA} (h : a ∈ l.eraseIdx i) : a ∈ l := (List.eraseIdx_sublist l i).subset h
noncomputable def vRed : Nat → Nat → List vA → List vA
  | 0, _, l => l
  | k + 1, i, l => have := Classical.propDecidable (vMaps l (l.eraseIdx i)); if vMaps l (l.eraseIdx i) then vRed k i (l.eraseIdx i) else vRed k (i + 1) l
theorem vRed_sem {ρ : vR} {p q : Nat} : ∀ (k i : Nat) (l : List vA), vSem ρ (vRed k i l) p q ↔ vSem ρ l p q
  | 0, _, _ => Iff.rfl
  | k + 1, i, l => by
    unfold vRed
    by_cases hm : vMaps l (l.eraseIdx i)
    · simp only [hm, if_true]
      rw [vRed_sem k i]
      exact ⟨vSem_maps hm, vSem_sub fun a ha => vMem_erase ha⟩
    · simp only [hm, if_false]
      exact vRed_sem k (i + 1) l
theorem vRed_yes {k i : Nat} {l : List vA} (h : vMaps l (l.eraseIdx i)) : vRed (k + 1) i l = vRed k i (l.eraseIdx i) := by
  show (have := Classical.propDecidable (vMaps l (l.eraseIdx i)); if vMaps l (l.eraseIdx i) then vRed k i (l.eraseIdx i) else vRed k (i + 1) l) = _
  simp only [h, if_true]
theorem vRed_no {k i : Nat} {l : List vA} (h : ¬ vMaps l (l.eraseIdx i)) : vRed (k + 1) i l = vRed k (i + 1) l := by
  show (have := Classical.propDecidable (vMaps l (l.eraseIdx i)); if vMaps l (l.eraseIdx i) then vRed k i (l.eraseIdx i) else vRed k (i + 1) l) = _
  simp only [h, if_false]
/-- a term stands in a list -/
def vHas (t : Nat) (l : List vA) : Prop := ∃ a ∈ l, a.2.1 = t ∨ a.2.2 = t
theorem vHas_maps {l l' : List vA} {t : Nat} (ht : t < 18) (h : vMaps l l') (hl : vHas t l) : vHas t l' := by
  obtain ⟨σ, h1, h2⟩ := h
  obtain ⟨a, ha, hta⟩ := hl
  refine ⟨vSub σ a, h2 a ha, ?_⟩
  rcases hta with e | e
  · left
    show σ a.2.1 = t
    rw [e, h1 t ht]
  · right
    show σ a.2.2 = t
    rw [e, h1 t ht]
theorem vRed_has {t : Nat} (ht : t < 18) : ∀ (k i : Nat) (l : List vA), vHas t l → vHas t (vRed k i l)
  | 0, _, _, h => h
  | k + 1, i, l, h => by
    by_cases hm : vMaps l (l.eraseIdx i)
    · rw [vRed_yes hm]
      exact vRed_has ht k i _ (vHas_maps ht hm h)
    · rw [vRed_no hm]
      exact vRed_has ht k (i + 1) l h
theorem vRed_mem : ∀ (k i : Nat) (l : List vA) (a : vA), a ∈ vRed k i l → a ∈ l
  | 0, _, _, _, h => h
  | k + 1, i, l, a, h => by
    by_cases hm : vMaps l (l.eraseIdx i)
    · rw [vRed_yes hm] at h
      exact vMem_erase (vRed_mem k i _ a h)
    · rw [vRed_no hm] at h
      exact vRed_mem k (i + 1) l a h
theorem vRed_len : ∀ (k i : Nat) (l : List vA), (vRed k i l).length ≤ l.length
  | 0, _, _ => Nat.le_refl _
  | k + 1, i, l => by
    by_cases hm : vMaps l (l.eraseIdx i)
    · rw [vRed_yes hm]
      exact Nat.le_trans (vRed_len k i _) (List.eraseIdx_sublist l i).length_le
    · rw [vRed_no hm]
      exact vRed_len k (i + 1) l
/-- which disjuncts are dropped: Ds the disjuncts, m how many; fl what stands so far -/
def vCov (Ds : Nat → List vA) (m : Nat) (fl : Nat → Bool) (d : Nat) : Prop := ∃ e, e < m ∧ e ≠ d ∧ fl e = false ∧ vMaps (Ds e) (Ds d)
noncomputable def vCovB (Ds : Nat → List vA) (m : Nat) (fl : Nat → Bool) (d : Nat) : Bool := vD (vCov Ds m fl d)
theorem vCovB_iff {Ds : Nat → List vA} {m : Nat} {fl : Nat → Bool} {d : Nat} : vCovB Ds m fl d = true ↔ vCov Ds m fl d := vD_iff
noncomputable def vFl (Ds : Nat → List vA) (m : Nat) : Nat → Nat → Bool
  | 0 => fun _ => false
  | k + 1 => va_up (vFl Ds m k) k (vCovB Ds m (vFl Ds m k) k)
theorem vFl_ge (Ds : Nat → List vA) (m : Nat) : ∀ (k j : Nat), k ≤ j → vFl Ds m k j = false
  | 0, _, _ => rfl
  | k + 1, j, h => by
    show va_up (vFl Ds m k) k _ j = false
    rw [up_ne (by omega)]
    exact vFl_ge Ds m k j (by omega)
theorem vFl_lt (Ds : Nat → List vA) (m : Nat) {j k : Nat} (h : j < k) : vFl Ds m k j = vFl Ds m (j + 1) j := by
  induction k with
  | zero => omega
  | succ k ih =>
    by_cases hk : j = k
    · subst hk; rfl
    · show va_up (vFl Ds m k) k _ j = _
      rw [up_ne hk]
      exact ih (by omega)
/-- what one disjunct gives, another that isn't dropped gives too -/
theorem vFl_sem {ρ : vR} {Ds : Nat → List vA} {m p q : Nat} : ∀ (k : Nat), k ≤ m → ∀ d, d < m → vSem ρ (Ds d) p q → ∃ e, e < m ∧ vFl Ds m k e = false ∧ vSem ρ (Ds e) p q
  | 0, _, d, hd, hs => ⟨d, hd, rfl, hs⟩
  | k + 1, hk, d, hd, hs => by
    obtain ⟨e, he, hf, hse⟩ := vFl_sem k (by omega) d hd hs
    by_cases hek : e = k
    · cases hc : vCovB Ds m (vFl Ds m k) k with
      | false => exact ⟨e, he, by subst hek; show va_up _ _ _ _ = _; rw [up_self, hc], hse⟩
      | true =>
        obtain ⟨e', h1, h2, h3, h4⟩ := vCovB_iff.mp hc
        refine ⟨e', h1, ?_, ?_⟩
        · show va_up _ _ _ _ = _
          rw [up_ne h2, h3]
        · subst hek
          exact vSem_maps h4 hse
    · refine ⟨e, he, ?_, hse⟩
      show va_up _ _ _ _ = _
      rw [up_ne hek, hf]
/-! unfolding -/
def vUnf (i a b t : Nat) : Nat := if t < 16 then t else if t = 16 then a else if t = 17 then b else 4 + 4 * i + t
def vUnfA (i : Nat) (c : vA) (a : vA) : vA := (a.1, vUnf i c.2.1 c.2.2 a.2.1, vUnf i c.2.1 c.2.2 a.2.2)
def vUnfL : Nat → List vA → List (List vA) → List vA
  | i, c :: q, r :: rs => r.map (vUnfA i c) ++ vUnfL (i + 1) q rs
  | _, _, _ => []
abbrev vV : Type := Nat → List (List vA)
def vCh (V : vV) : List vA → List (List (List vA))
  | [] => [[]]
  | c :: q => (V c.1).flatMap fun r => (vCh V q).map (r :: ·)
/-- a pair is in a view; a pair is a result -/
def vIn (ρ : vR) (V : vV) (v p q : Nat) : Prop := ∃ r ∈ V v, vSem ρ r p q
def vRes (ρ : vR) (V : vV) (l : List vA) (p q : Nat) : Prop := ∃ θ : Nat → Nat, vFix 16 θ ∧ θ 16 = p ∧ θ 17 = q ∧ ∀ c ∈ l, vIn ρ V c.1 (θ c.2.1) (θ c.2.2)
/-- the variables of the rule chosen for query atom i lie at 4 + 4 i + 18 .. 4 + 4 i + 21 -/
theorem vUnf_sound {ρ : vR} {θ : Nat → Nat} {i : Nat} {c : vA} {r : List vA} (h0 : vFix 16 θ) (h : vHolds ρ θ (r.map (vUnfA i c))) : vSem ρ r (θ c.2.1) (θ c.2.2) := by
  refine ⟨fun t => θ (vUnf i c.2.1 c.2.2 t), fun t ht => ?_, rfl, rfl, fun a ha => h _ (List.mem_map.mpr ⟨a, ha, rfl⟩)⟩
  show θ (vUnf i c.2.1 c.2.2 t) = t
  unfold vUnf
  rw [if_pos ht]
  exact h0 t ht
theorem vCh_sound {ρ : vR} {V : vV} {θ : Nat → Nat} (h0 : vFix 16 θ) : ∀ (q : List vA) (i : Nat) (rs : List (List vA)), rs ∈ vCh V q → vHolds ρ θ (vUnfL i q rs) → ∀ c ∈ q, vIn ρ V c.1 (θ c.2.1) (θ c.2.2)
  | [], _, _, _, _, c, hc => by cases hc
  | c :: q, i, rs, hr, hh, c', hc' => by
    obtain ⟨r, hr1, hr2⟩ := List.mem_flatMap.mp hr
    obtain ⟨rs', hr3, rfl⟩ := List.mem_map.mp hr2
    have hL : vHolds ρ θ (r.map (vUnfA i c)) := fun a ha => hh a (List.mem_append.mpr (Or.inl ha))
    have hR : vHolds ρ θ (vUnfL (i + 1) q rs') := fun a ha => hh a (List.mem_append.mpr (Or.inr ha))
    rcases List.mem_cons.mp hc' with rfl | hc'
    · exact ⟨r, hr1, vUnf_sound h0 hL⟩
    · exact vCh_sound h0 q (i + 1) rs' hr3 hR c' hc'
/-- all terms of the atoms lie below k -/
def vTm (k : Nat) (l : List vA) : Prop := ∀ a ∈ l, a.2.1 < k ∧ a.2.2 < k
theorem vCh_complete {ρ : vR} {V : vV} {p : Nat → Nat} (h0 : vFix 16 p) : ∀ (q : List vA) (i : Nat), vTm 22 q → (∀ c ∈ q, ∀ r ∈ V c.1, vTm 22 r) → (∀ c ∈ q, vIn ρ V c.1 (p c.2.1) (p c.2.2)) → ∃ rs ∈ vCh V q, ∃ θ : Nat → Nat, (∀ t, t < 22 + 4 * i → θ t = p t) ∧ vHolds ρ θ (vUnfL i q rs)
  | [], _, _, _, _ => ⟨[], List.mem_cons_self, p, fun _ _ => rfl, fun a ha => by cases ha⟩
  | c :: q, i, hq, hr, hin => by
    obtain ⟨r, hr1, η, e1, e2, e3, e4⟩ := hin c List.mem_cons_self
    have hc := hq c List.mem_cons_self
    have hrt := hr c List.mem_cons_self r hr1
    -- the values of the rule's own variables
    let p' : Nat → Nat := fun t => if 22 + 4 * i ≤ t ∧ t < 26 + 4 * i then η (t - (4 + 4 * i)) else p t
    have hp' : ∀ t, t < 22 → p' t = p t := fun t ht => if_neg (by omega)
    obtain ⟨rs, hrs, θ, t1, t2⟩ := vCh_complete (p := p') (fun t ht => (hp' t (by omega)).trans (h0 t ht)) q (i + 1) (fun a ha => hq a (List.mem_cons_of_mem _ ha)) (fun a ha => hr a (List.mem_cons_of_mem _ ha)) (fun a ha => by
      have h1 := hq a (List.mem_cons_of_mem _ ha)
      rw [hp' _ h1.1, hp' _ h1.2]
      exact hin a (List.mem_cons_of_mem _ ha))
    refine ⟨r :: rs, List.mem_flatMap.mpr ⟨r, hr1, List.mem_map.mpr ⟨rs, hrs, rfl⟩⟩, θ, fun t ht => ?_, fun a ha => ?_⟩
    · rw [t1 t (by omega)]
      exact if_neg (by omega)
    · rcases List.mem_append.mp ha with ha | ha
      · obtain ⟨a0, ha0, rfl⟩ := List.mem_map.mp ha
        have key : ∀ t, t < 22 → θ (vUnf i c.2.1 c.2.2 t) = η t := by
          intro t ht
          unfold vUnf
          by_cases h1 : t < 16
          · rw [if_pos h1, t1 t (by omega), hp' t (by omega), h0 t h1, e1 t h1]
          · rw [if_neg h1]
            by_cases h2 : t = 16
            · rw [if_pos h2, t1 _ (by omega), hp' _ hc.1, h2, e2]
            · rw [if_neg h2]
              by_cases h3 : t = 17
              · rw [if_pos h3, t1 _ (by omega), hp' _ hc.2, h3, e3]
              · rw [if_neg h3, t1 _ (by omega)]
                show (if 22 + 4 * i ≤ 4 + 4 * i + t ∧ 4 + 4 * i + t < 26 + 4 * i then η (4 + 4 * i + t - (4 + 4 * i)) else p _) = _
                rw [if_pos (by omega), Nat.add_sub_cancel_left]
        have hb := hrt a0 ha0
        have h5 := e4 a0 ha0
        rw [← key _ hb.1, ← key _ hb.2] at h5
        exact h5
      · exact t2 a ha
/-- the results of the query are those of its disjuncts -/
theorem vRes_iff {ρ : vR} {V : vV} {q : List vA} {p1 p2 : Nat} (hq : vTm 22 q) (hr : ∀ c ∈ q, ∀ r ∈ V c.1, vTm 22 r) : vRes ρ V q p1 p2 ↔ ∃ rs ∈ vCh V q, vSem ρ (vUnfL 0 q rs) p1 p2 := by
  constructor
  · rintro ⟨p, h0, h1, h2, h3⟩
    obtain ⟨rs, hrs, θ, t1, t2⟩ := vCh_complete h0 q 0 hq hr h3
    exact ⟨rs, hrs, θ, fun t ht => (t1 t (by omega)).trans (h0 t ht), (t1 16 (by omega)).trans h1, (t1 17 (by omega)).trans h2, t2⟩
  · rintro ⟨rs, hrs, θ, h0, h1, h2, h3⟩
    exact ⟨θ, h0, h1, h2, vCh_sound h0 q 0 rs hrs h3⟩
