/-! the results by the views are those of the disjuncts -/
theorem rd_sem {ρ : vR} {V : vV} {q : List vA} {k p r : Nat} (hk : k < (vCh V q).length) : vSem ρ (vRd V q k) p r ↔ vSem ρ (vUnfL 0 q (vCh V q)[k]) p r := by
  have e2 : (vDis V q).getD k [] = vUnfL 0 q (vCh V q)[k] := by
    unfold vDis
    rw [List.getD_eq_getElem?_getD, List.getElem?_map, List.getElem?_eq_getElem hk]
    rfl
  unfold vRd
  rw [vRed_sem, e2]
theorem ord_sem {ρ : vR} {al : Nat → Nat} {l : List vA} {p r : Nat} : vSem ρ (vOrd al l.length 0 l (fun _ => none)).1 p r ↔ vSem ρ l p r := ⟨vSem_sub fun a ha => (vOrd_mem (al := al) (a := a) l.length 0 l (fun _ => none) (by omega)).1.mpr ha, vSem_sub fun a ha => (vOrd_mem (al := al) (a := a) l.length 0 l (fun _ => none) (by omega)).1.mp ha⟩
theorem pF_res {ρ : Nat → vRel} {ν : Nat → vVw} {κ : vAL} (ok : vOkQ ν (vLs κ)) (c : Nat) : pF ρ ν κ c = true ↔ ∃ p q, vRes (vRw ρ) (vVl ν) (vLs κ) p q ∧ c = p * 16 + q := by
  have ht : ∀ c ∈ vLs κ, ∀ r ∈ vVl ν c.1, vTm 22 r := by
    intro c hc r hr
    obtain ⟨i, hi, rfl⟩ := vVl_mem hr
    exact ((ok.2.2.2.1 c.1 (ok.2.2.1 c hc)).2 i hi).2
  unfold pF
  rw [vAdd_iff]
  constructor
  · rintro (w | ⟨i, hi, p, q, hs, e⟩)
    · cases w
    · refine ⟨p, q, (vRes_iff ok.2.1 ht).mpr ?_, e⟩
      have h1 : vSem (vRw ρ) (pL ν κ i) p q := ord_sem.mp hs
      exact ⟨_, List.getElem_mem (pK_lt hi), (rd_sem (pK_lt hi)).mp h1⟩
  · rintro ⟨p, q, hr, e⟩
    obtain ⟨rs, h1, h2⟩ := (vRes_iff ok.2.1 ht).mp hr
    obtain ⟨k, hk, rfl⟩ := List.getElem_of_mem h1
    obtain ⟨x, x1, x2, x3⟩ := vFl_sem (ρ := vRw ρ) (Ds := vRd (vVl ν) (vLs κ)) (m := (vCh (vVl ν) (vLs κ)).length) (p := p) (q := q) _ (Nat.le_refl _) k hk ((rd_sem hk).mpr h2)
    have hx : x ∈ pK ν κ := List.mem_filter.mpr ⟨List.mem_range.mpr x1, by rw [x2]; rfl⟩
    obtain ⟨i, hi, ei⟩ := List.getElem_of_mem hx
    refine Or.inr ⟨i, hi, p, q, ord_sem.mpr ?_, e⟩
    unfold pL
    rw [List.getD_eq_getElem?_getD, List.getElem?_eq_getElem hi, ei]
    exact x3
/-- the pairs that a rule gives; that the views below v give -/
def prP (ρ : Nat → vRel) (ν : Nat → vVw) (v x k : Nat) : Prop := vSf ((ν v).2 x).1 ((ν v).2 x).2.2.1 ((ν v).2 x).2.2.2 ∧ ∃ p q, p < 16 ∧ q < 16 ∧ k = 256 * v + 16 * p + q ∧ vSem (vRw ρ) (vLs ((ν v).2 x)) p q
def prA (ρ : Nat → vRel) (ν : Nat → vVw) (v k : Nat) : Prop := ∃ v', v' < v ∧ ∃ x, x < (ν v').1 ∧ prP ρ ν v' x k
theorem sem_lt {ρ : Nat → vRel} {y : vAL} {p q : Nat} (hR : vOkR ρ) (hy : vRk y) (hs : vSf y.1 y.2.2.1 y.2.2.2) (h : vSem (vRw ρ) (vLs y) p q) : p < 16 ∧ q < 16 := by
  obtain ⟨θ, h0, h1, h2, h3⟩ := h
  have key : ∀ i, i < y.1 → θ (y.2.2.1 i) < 16 ∧ θ (y.2.2.2 i) < 16 := by
    intro i hi
    obtain ⟨x, x1, x2⟩ := vRw_mem.mp (h3 _ ((vLs_rep y).mem.mpr ⟨i, hi, rfl⟩))
    have b := (hR _ (hy.2 i hi).1).2 x x1
    have e1 := congrArg Prod.fst x2
    have e2 := congrArg Prod.snd x2
    dsimp only at e1 e2
    rw [e1, e2]
    exact b
  constructor
  · obtain ⟨i, hi, w⟩ := hs.1
    rw [← h1]
    exact w.elim (fun w => w ▸ (key i hi).1) (fun w => w ▸ (key i hi).2)
  · obtain ⟨i, hi, w⟩ := hs.2
    rw [← h2]
    exact w.elim (fun w => w ▸ (key i hi).1) (fun w => w ▸ (key i hi).2)
theorem pF_ex {ρ : Nat → vRel} {ν : Nat → vVw} {κ : vAL} (hR : vOkR ρ) (hV : vSV ν) (hQ : vSQ κ) (hg : vGood ν κ) {qQ qA qB : Nat → Nat} (hq : ∀ i, i < κ.1 → qQ i = κ.2.1 i ∧ qA i = κ.2.2.1 i ∧ qB i = κ.2.2.2 i) (c : Nat) : pF ρ ν κ c = true ↔ ∃ θ, sEx qA qB (fun _ x => x / 16) (fun _ x => x % 16) (fun _ => 256) (fun i x => prA ρ ν 3 (256 * qQ i + x)) κ.1 (fun _ => 0) 0 θ ∧ c = 16 * θ 16 + θ 17 := by
  have hVi := vSV_iff.mp hV
  rw [pF_res (hQ.ok hV)]
  constructor
  · rintro ⟨p, q, ⟨θ, h0, h1, h2, h3⟩, e⟩
    refine ⟨θ, ⟨h0, fun i hi => absurd hi (Nat.not_lt_zero i), fun i _ hi => ?_⟩, by rw [h1, h2, e]; omega⟩
    obtain ⟨e1, e2, e3⟩ := hq i hi
    obtain ⟨r, r1, r2⟩ := h3 _ ((vLs_rep κ).mem.mpr ⟨i, hi, rfl⟩)
    obtain ⟨x, x1, rfl⟩ := vVl_mem r1
    dsimp only at x1 r2
    have k3 := (hQ.2 i hi).1
    have sf := (hg.2 i hi).2 x x1
    obtain ⟨l1, l2⟩ := sem_lt hR ((hVi _ k3).2 x x1) sf r2
    refine ⟨16 * θ (κ.2.2.1 i) + θ (κ.2.2.2 i), by show _ < 256; omega, ⟨κ.2.1 i, k3, x, x1, sf, _, _, l1, l2, by rw [e1, Nat.add_assoc], r2⟩, by rw [e2]; show _ = _ / 16; omega, by rw [e3]; show _ = _ % 16; omega⟩
  · rintro ⟨θ, ⟨h0, -, h3⟩, e⟩
    refine ⟨θ 16, θ 17, ⟨θ, h0, rfl, rfl, fun a ha => ?_⟩, by rw [e]; omega⟩
    obtain ⟨i, hi, rfl⟩ := (vLs_rep κ).mem.mp ha
    obtain ⟨e1, e2, e3⟩ := hq i hi
    obtain ⟨z, z1, ⟨v', v1, x, x1, sf, p, q, l1, l2, ek, hs⟩, z3, z4⟩ := h3 i (Nat.zero_le _) hi
    have z1' : z < 256 := z1
    have z3' : θ (qA i) = z / 16 := z3
    have z4' : θ (qB i) = z % 16 := z4
    have ek' : 256 * qQ i + z = 256 * v' + 16 * p + q := ek
    have ev : v' = qQ i := by omega
    have ep : p = z / 16 := by omega
    have eq : q = z % 16 := by omega
    subst ev ep eq
    rw [e1] at x1 hs
    rw [← z3', ← z4', e2, e3] at hs
    exact ⟨_, List.mem_of_getElem? (vVl_get x1), hs⟩
