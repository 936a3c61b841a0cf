/-! Asker: roads to an atom, tries, one disjunct -/
def vVal0 : Nat → Option Nat := fun t => if t < 16 then some t else none
theorem vVal0_ext {θ : Nat → Nat} : vExt vVal0 θ ↔ vFix 16 θ := by
  constructor
  · intro h t ht
    exact h t t (if_pos ht)
  · intro h t k hk
    unfold vVal0 at hk
    by_cases ht : t < 16
    · rw [if_pos ht] at hk; cases hk; exact h t ht
    · rw [if_neg ht] at hk; cases hk
theorem wW_0 {F S : Nat → Nat} : wW F S vVal0 0 := by
  refine ⟨fun t ht => if_pos ht, fun t k hk => ?_, fun i hi => by omega⟩
  unfold vVal0 at hk
  by_cases ht : t < 16
  · rw [if_pos ht] at hk; cases hk; exact ht
  · rw [if_neg ht] at hk; cases hk
theorem vHolds_take {ρ : vR} {θ : Nat → Nat} {l : List vA} {m : Nat} {H F S : Nat → Nat} (pr : vRep l m H F S) {i : Nat} (hi : i ≤ m) : vHolds ρ θ (l.take i) ↔ ∀ j, j < i → (θ (F j), θ (S j)) ∈ ρ (H j) := by
  constructor
  · intro h j hj
    refine h (H j, F j, S j) (List.mem_of_getElem? (i := j) ?_)
    rw [List.getElem?_take, if_pos hj]
    exact pr.ix (by omega)
  · intro h a ha
    obtain ⟨j, hj⟩ := List.getElem?_of_mem ha
    rw [List.getElem?_take] at hj
    split at hj
    · rename_i hji
      rw [pr.ix (by omega)] at hj
      cases hj
      exact h j hji
    · cases hj
theorem vRq_iff {ρ : vR} {l : List vA} {m : Nat} {H F S : Nat → Nat} (pr : vRep l m H F S) {pt : Nat → Option Nat} {i p : Nat} (hi : i < m) (hp : pt i = some p) (c : Nat) : vOut ρ H F S i (vCode (H i, F i, S i) p) vVal0 0 c ↔ vRq ρ l pt i c := by
  constructor
  · rintro ⟨θ, h1, h2, h3⟩
    exact ⟨θ, (H i, F i, S i), p, vVal0_ext.mp h1, (vHolds_take pr (by omega)).mpr (fun j hj => h2 j (Nat.zero_le _) hj), pr.ix hi, hp, h3⟩
  · rintro ⟨θ, a, p', h1, h2, h3, h4, h5⟩
    rw [pr.ix hi] at h3
    rw [hp] at h4
    cases h3
    cases h4
    exact ⟨θ, vVal0_ext.mpr h1, fun j _ hj => (vHolds_take pr (by omega)).mp h2 j hj, h5⟩
def vSc (ρ : vR) (l : List vA) (c : Nat) : Prop := ∃ p q, vSem ρ l p q ∧ c = p * 16 + q
theorem vSc_iff {ρ : vR} {l : List vA} {m : Nat} {H F S : Nat → Nat} (pr : vRep l m H F S) (c : Nat) : vOut ρ H F S m (fun θ => θ 16 * 16 + θ 17) vVal0 0 c ↔ vSc ρ l c := by
  have hl : l.take m = l := List.take_of_length_le (by rw [pr.1]; omega)
  constructor
  · rintro ⟨θ, h1, h2, h3⟩
    refine ⟨θ 16, θ 17, ⟨θ, vVal0_ext.mp h1, rfl, rfl, ?_⟩, h3⟩
    have := (vHolds_take (ρ := ρ) (θ := θ) pr (Nat.le_refl m)).mpr (fun j hj => h2 j (Nat.zero_le _) hj)
    rw [hl] at this
    exact this
  · rintro ⟨p, q, ⟨θ, h1, h2, h3, h4⟩, h5⟩
    refine ⟨θ, vVal0_ext.mpr h1, fun j _ hj => ?_, ?_⟩
    · rw [← hl] at h4
      exact (vHolds_take pr (Nat.le_refl m)).mp h4 j hj
    · rw [h5, ← h2, ← h3]
def vOkR (ρ : Nat → vRel) : Prop := ∀ r, r < 4 → (ρ r).1 ≤ 8 ∧ ∀ i, i < (ρ r).1 → (ρ r).2.1 i < 16 ∧ (ρ r).2.2.1 i < 16
/-- every atom has a pattern whose terms are known -/
def vGdO (l : List vA) (pt : Nat → Option Nat) : Prop := ∀ i, i < l.length → ∃ p, pt i = some p ∧ p < 4 ∧ (p % 2 = 1 → vKn l i (vAt l i).2.1 = true) ∧ (p / 2 % 2 = 1 → vKn l i (vAt l i).2.2 = true)
def vFa (ρ : Nat → vRel) (φ : Nat → Nat) : Nat → vRel := fun r => ((ρ r).1, (ρ r).2.1, (ρ r).2.2.1, (ρ r).2.2.2.1, φ r)
theorem vRw_fa (ρ : Nat → vRel) (φ : Nat → Nat) : vRw (vFa ρ φ) = vRw ρ := rfl
section T37
variable {d L : Nat} {xs : Nat → Int32} {n : Nat} {h : xH} {a rc rq tr : Nat} {R : Nat → Nat} {Mf Mm : Nat → Bool} {lu : Nat → Option Nat} {ra rb dj g fr : Nat} {pt : Nat → Option Nat} {dr bl : Nat} {ρ : Nat → vRel} {l : List vA}
theorem t_Asker_roadsM {i : Nat} (pa : isAk h a rc rq tr R Mf Mm vVal0 lu (.ref ra) (.ref dj) g fr) (pd : isDl h dj l pt dr bl) (pR : isRs h ra rb ρ) (hdj : dj + 6 ≤ a ∨ a + 9 ≤ dj) (hra : ra < a ∨ a + 9 ≤ ra) (hrb : rb + 12 ≤ a ∨ a + 9 ≤ rb) (hi : i < l.length) (hl : l.length ≤ 6) (hb : vBdL l) (hρ : vOkR ρ) (hO : vGdO l pt) (hfr : fr < 5000) (hd : 10 ≤ d) : XM d 0 0 k_Asker_walkRoadsTo L xs [.ref a, .int (nI i)] n h (qV n (fun h' => xfr a (a + 9) h h' ∧ ∃ lu', isAk h' a rc rq tr R Mf (vAdd Mm (vRq (vRw ρ) l pt i)) vVal0 lu' (.ref ra) (.ref dj) i (fr + (vCnt (vAdd Mm (vRq (vRw ρ) l pt i)) 4096 - vCnt Mm 4096)))) := by
  obtain ⟨H, F, S, pD, pr⟩ := pd
  obtain ⟨p, e1, e2, e3, e4⟩ := hO i hi
  rw [pr.vat hi] at e3 e4
  have hB : ∀ j, j < l.length → H j < 4 ∧ F j < 34 ∧ S j < 34 := fun j hj => hb.at pr hj
  have K := wK_M (ρ := ρ) (lu := vClr lu 34) (fr := fr) (fun t ht => if_pos ht) hl hi hB hρ e1 e2 (fun z => (vKn_iff pr (by omega)).mp (e3 z)) (fun z => (vKn_iff pr (by omega)).mp (e4 z)) hfr
  clear e3 e4 hO
  have p1 := pa.obj (rc' := rc) (rq' := rq) (tr' := tr) (vr' := .ref ra) (vd' := .ref dj) (g' := i) (fr' := fr)
  have f1 : xfr a (a + 9) h (va_up h a (cA a rc rq tr (.ref ra) (.ref dj) i fr)) := xfr.up0 (by omega) (by omega)
  have cN := t_Asker_noteLastUses (d := 1) (L := L) (xs := xs) (n := n) p1 (pD.sm (f1.sm hdj)) hdj (by omega) hl hB (fun _ => ⟨p, e1, e2⟩) (by omega)
  have k0 := pa.1
  have k0' := p1.1
  refine XM.of rfl (Nat.le_of_ble_eq_true rfl) ?_
  refine xr_aload_n a_Asker_walkRoadsTo_0 rfl ?_
  refine xr_iload_n a_Asker_walkRoadsTo_1 rfl ?_
  refine xa_g a_Asker_walkRoadsTo_2 k0 ?_
  refine xr_aload_n a_Asker_walkRoadsTo_5 rfl ?_
  refine xr_invV a_Asker_walkRoadsTo_6 k0' cN rfl rfl (by omega) (by omega) (by omega) (Nat.le_of_ble_eq_true rfl) ?_
  rintro _ _ h2 ⟨rfl, rfl, q1, -⟩
  have q2 := q1 p hi e1
  clear q1
  have f2 : xfr a (a + 9) h h2 := by
    rw [q2]
    exact f1.up (by omega) (by omega)
  have pa2 : isAkP h2 a rc rq tr R Mf Mm (vLuM F S (vClr lu 34) i p) ra dj i fr l.length (fun _ => False) vVal0 := by
    unfold isAkP
    rw [if_pos hi, if_pos hi, if_pos hi]
    have eM : vAdd Mm (fun _ => False) = Mm := (vAdd_eq (fun c => ⟨Or.inl, fun z => z.elim id False.elim⟩)).symm
    rw [eM, Nat.sub_self, Nat.add_zero, q2]
    exact ⟨x_lk (by omega) p1.1, x_lk (by omega) p1.2.1, p1.2.2.1.sm (xsm_up (by omega)), p1.2.2.2.1.sm (xsm_up (by omega)), p1.2.2.2.2.1.sm (xsm_up (by omega)), up_self _ _ _⟩
  have cW := t_Asker_walk (L := L) (xs := xs) (n := n) K hdj hra hrb i 0 (by omega) h2 _ vVal0 (pD.sm (f2.sm hdj)) (pR.sm (f2 _ hra) (f2.sm hrb)) wW_0 pa2
  have k0'' := pa2.1
  refine xr_aload_n a_Asker_walkRoadsTo_9 rfl ?_
  refine xr_iconst a_Asker_walkRoadsTo_10 (v := nI 0) (by decide +kernel) ?_
  refine xr_invV a_Asker_walkRoadsTo_11 k0'' cW rfl rfl (by omega) (by omega) (by omega) (Nat.le_of_ble_eq_true rfl) ?_
  rintro _ _ h3 ⟨rfl, rfl, f3, q3⟩
  refine xr_return a_Asker_walkRoadsTo_14 rfl (by omega) (by omega) ?_
  refine ⟨rfl, rfl, f2.tr f3, vLuM F S (vClr lu 34) i p, ?_⟩
  have q4 := isAkP.c q3 (P' := vRq (vRw ρ) l pt i) (fun c => by
    rw [vRq_iff pr hi e1]
    exact ⟨fun z => z.elim False.elim id, Or.inr⟩)
  unfold isAkP at q4
  rw [if_pos hi, if_pos hi, if_pos hi] at q4
  exact q4
theorem t_Asker_roadsF (pa : isAk h a rc rq tr R Mf Mm vVal0 lu (.ref ra) (.ref dj) g fr) (pd : isDl h dj l pt dr bl) (pR : isRs h ra rb ρ) (hdj : dj + 6 ≤ a ∨ a + 9 ≤ dj) (hra : ra < a ∨ a + 9 ≤ ra) (hrb : rb + 12 ≤ a ∨ a + 9 ≤ rb) (hl : l.length ≤ 6) (hb : vBdL l) (hρ : vOkR ρ) (h16 : vHas 16 l) (h17 : vHas 17 l) (hfr : fr < 5000) (hd : 10 ≤ d) : XM d 0 0 k_Asker_walkRoadsTo L xs [.ref a, .int (nI l.length)] n h (qV n (fun h' => xfr a (a + 9) h h' ∧ ∃ lu', isAk h' a rc rq tr R (vAdd Mf (vSc (vRw ρ) l)) Mm vVal0 lu' (.ref ra) (.ref dj) l.length fr)) := by
  obtain ⟨H, F, S, pD, pr⟩ := pd
  have hB : ∀ j, j < l.length → H j < 4 ∧ F j < 34 ∧ S j < 34 := fun j hj => hb.at pr hj
  have kw : ∀ t, vHas t l → vKw F S l.length t := by
    rintro t ⟨x, hx, ht⟩
    obtain ⟨j, hj, rfl⟩ := pr.mem.mp hx
    exact Or.inr ⟨j, hj, ht⟩
  have K := wK_F (ρ := ρ) (pt := pt) (lu := vClr lu 34) (fr := fr) (fun t ht => if_pos ht) hl hB hρ (kw 16 h16) (kw 17 h17) hfr
  clear h16 h17
  have p1 := pa.obj (rc' := rc) (rq' := rq) (tr' := tr) (vr' := .ref ra) (vd' := .ref dj) (g' := l.length) (fr' := fr)
  have f1 : xfr a (a + 9) h (va_up h a (cA a rc rq tr (.ref ra) (.ref dj) l.length fr)) := xfr.up0 (by omega) (by omega)
  have cN := t_Asker_noteLastUses (d := 1) (L := L) (xs := xs) (n := n) p1 (pD.sm (f1.sm hdj)) hdj (Nat.le_refl _) hl hB (fun z => absurd z (Nat.lt_irrefl _)) (by omega)
  have k0 := pa.1
  have k0' := p1.1
  refine XM.of rfl (Nat.le_of_ble_eq_true rfl) ?_
  refine xr_aload_n a_Asker_walkRoadsTo_0 rfl ?_
  refine xr_iload_n a_Asker_walkRoadsTo_1 rfl ?_
  refine xa_g a_Asker_walkRoadsTo_2 k0 ?_
  refine xr_aload_n a_Asker_walkRoadsTo_5 rfl ?_
  refine xr_invV a_Asker_walkRoadsTo_6 k0' cN rfl rfl (by omega) (by omega) (by omega) (Nat.le_of_ble_eq_true rfl) ?_
  rintro _ _ h2 ⟨rfl, rfl, -, q1⟩
  have q2 := q1 rfl
  clear q1
  have f2 : xfr a (a + 9) h h2 := by
    rw [q2]
    exact f1.up (by omega) (by omega)
  have hno : ¬ l.length < l.length := Nat.lt_irrefl _
  have pa2 : isAkP h2 a rc rq tr R Mf Mm (vLuF F S (vClr lu 34) l.length) ra dj l.length fr l.length (fun _ => False) vVal0 := by
    unfold isAkP
    rw [if_neg hno, if_neg hno, if_neg hno]
    have eM : vAdd Mf (fun _ => False) = Mf := (vAdd_eq (fun c => ⟨Or.inl, fun z => z.elim id False.elim⟩)).symm
    rw [eM, q2]
    exact ⟨x_lk (by omega) p1.1, x_lk (by omega) p1.2.1, p1.2.2.1.sm (xsm_up (by omega)), p1.2.2.2.1.sm (xsm_up (by omega)), p1.2.2.2.2.1.sm (xsm_up (by omega)), up_self _ _ _⟩
  have cW := t_Asker_walk (L := L) (xs := xs) (n := n) K hdj hra hrb l.length 0 (by omega) h2 _ vVal0 (pD.sm (f2.sm hdj)) (pR.sm (f2 _ hra) (f2.sm hrb)) wW_0 pa2
  have k0'' := pa2.1
  refine xr_aload_n a_Asker_walkRoadsTo_9 rfl ?_
  refine xr_iconst a_Asker_walkRoadsTo_10 (v := nI 0) (by decide +kernel) ?_
  refine xr_invV a_Asker_walkRoadsTo_11 k0'' cW rfl rfl (by omega) (by omega) (by omega) (Nat.le_of_ble_eq_true rfl) ?_
  rintro _ _ h3 ⟨rfl, rfl, f3, q3⟩
  refine xr_return a_Asker_walkRoadsTo_14 rfl (by omega) (by omega) ?_
  refine ⟨rfl, rfl, f2.tr f3, vLuF F S (vClr lu 34) l.length, ?_⟩
  have q4 := isAkP.c q3 (P' := vSc (vRw ρ) l) (fun c => by
    rw [vSc_iff pr]
    exact ⟨fun z => z.elim False.elim id, Or.inr⟩)
  unfold isAkP at q4
  rw [if_neg hno, if_neg hno, if_neg hno] at q4
  exact q4
theorem isRs.set {r : Nat} (p : isRs h ra rb ρ) (hra : ra < rb ∨ rb + 12 ≤ ra) (hr : r < 4) {x : Nat} : isRs (va_up h (rb + 3 * r) (cJ 9 [.ref (rb + 3 * r + 1), .ref (rb + 3 * r + 2), .int (nI (ρ r).1), .int (nI (ρ r).2.2.2.1), .int (nI x)])) ra rb (va_up ρ r ((ρ r).1, (ρ r).2.1, (ρ r).2.2.1, (ρ r).2.2.2.1, x)) := by
  obtain ⟨⟨f, p1, p2⟩, p3⟩ := p
  refine ⟨⟨f, x_lk (by omega) p1, p2⟩, fun i hi => ?_⟩
  by_cases e : i = r
  · subst e
    rw [up_self]
    exact ⟨up_self _ _ _, x_lk (by omega) (p3 i hi).2.1, x_lk (by omega) (p3 i hi).2.2⟩
  · rw [up_ne e]
    exact (p3 i hi).sm (xsm_up (by omega))
theorem vFa_up (φ : Nat → Nat) (r x : Nat) : va_up (vFa ρ φ) r ((vFa ρ φ r).1, (vFa ρ φ r).2.1, (vFa ρ φ r).2.2.1, (vFa ρ φ r).2.2.2.1, x) = vFa ρ (va_up φ r x) := by
  funext i
  by_cases e : i = r
  · subst e
    rw [up_self]
    unfold vFa
    rw [up_self]
  · rw [up_ne e]
    unfold vFa
    rw [up_ne e]
theorem t_Asker_tryRelation {φ : Nat → Nat} {vr vd : Value} {w : Nat → Option Nat} {r : Nat} (pa : isAk h a rc rq tr R Mf Mm w lu vr vd g fr) (pR : isRs h ra rb (vFa ρ φ)) (hra : ra < rb ∨ rb + 12 ≤ ra) (hraa : ra < a ∨ a + 9 ≤ ra) (hrb : rb + 12 ≤ a ∨ a + 9 ≤ rb) (hr : r < 4) (hφ : φ r < 100) : XM d 0 0 k_Asker_tryRelation L xs [.ref a, .ref (rb + 3 * r)] n h (qP n (nI (vB (φ r < 3))) (fun h' => xfr2 a (a + 9) rb (rb + 12) h h' ∧ if φ r < 3 then isAk h' a rc (rq + fr) (tr + (fr + φ r)) R Mf Mm w lu vr vd g fr ∧ isRs h' ra rb (vFa ρ (va_up φ r 0)) else isAk h' a rc rq (tr + 3) R Mf Mm w lu vr vd g fr ∧ isRs h' ra rb (vFa ρ (va_up φ r (φ r - 3))))) := by
  have k0 := pa.1
  obtain ⟨r0, r1, r2⟩ := pR.2 r hr
  have eφ : (vFa ρ φ r).2.2.2.2 = φ r := rfl
  rw [eφ] at r0
  refine XM.of rfl (Nat.le_of_ble_eq_true rfl) ?_
  refine xr_aload_n a_Asker_tryRelation_0 rfl ?_
  apply xr_getf a_Asker_tryRelation_1
  · (repeat' (first | assumption | exact va_up_self _ _ _ | refine x_lk (by omega) ?_))
  · rfl
  refine xr_iconst a_Asker_tryRelation_4 (v := nI 3) (by decide +kernel) ?_
  refine xn_icmp_lt a_Asker_tryRelation_5 (by omega) (by omega) (fun b5 => ?_) (fun b5 => ?_)
  · refine xr_aload_n a_Asker_tryRelation_30 rfl ?_
    refine xr_dup a_Asker_tryRelation_31 rfl ?_
    apply xr_getf a_Asker_tryRelation_32
    · (repeat' (first | assumption | exact va_up_self _ _ _ | refine x_lk (by omega) ?_))
    · rfl
    refine xr_aload_n a_Asker_tryRelation_35 rfl ?_
    apply xr_getf a_Asker_tryRelation_36
    · (repeat' (first | assumption | exact va_up_self _ _ _ | refine x_lk (by omega) ?_))
    · rfl
    refine xr_aload_n a_Asker_tryRelation_39 rfl ?_
    apply xr_getf a_Asker_tryRelation_40
    · (repeat' (first | assumption | exact va_up_self _ _ _ | refine x_lk (by omega) ?_))
    · rfl
    first | refine xn_iadd a_Asker_tryRelation_43 ?_ | refine xr_iadd a_Asker_tryRelation_43 ?_
    first | refine xn_iadd a_Asker_tryRelation_44 ?_ | refine xr_iadd a_Asker_tryRelation_44 ?_
    apply xa_tr a_Asker_tryRelation_45
    · (repeat' (first | assumption | exact va_up_self _ _ _ | refine x_lk (by omega) ?_))
    refine xr_aload_n a_Asker_tryRelation_48 rfl ?_
    refine xr_iconst a_Asker_tryRelation_49 (v := nI 0) (by decide +kernel) ?_
    apply xr_putf a_Asker_tryRelation_50
    · (repeat' (first | assumption | exact va_up_self _ _ _ | refine x_lk (by omega) ?_))
    · exact Nat.le_of_ble_eq_true rfl
    · rfl
    · rfl
    refine xr_aload_n a_Asker_tryRelation_53 rfl ?_
    refine xr_dup a_Asker_tryRelation_54 rfl ?_
    apply xr_getf a_Asker_tryRelation_55
    · (repeat' (first | assumption | exact va_up_self _ _ _ | refine x_lk (by omega) ?_))
    · rfl
    refine xr_aload_n a_Asker_tryRelation_58 rfl ?_
    apply xr_getf a_Asker_tryRelation_59
    · (repeat' (first | assumption | exact va_up_self _ _ _ | refine x_lk (by omega) ?_))
    · rfl
    first | refine xn_iadd a_Asker_tryRelation_62 ?_ | refine xr_iadd a_Asker_tryRelation_62 ?_
    apply xa_rq a_Asker_tryRelation_63
    · (repeat' (first | assumption | exact va_up_self _ _ _ | refine x_lk (by omega) ?_))
    refine xr_iconst a_Asker_tryRelation_66 (v := nI 1) (by decide +kernel) ?_
    refine xr_ireturn a_Asker_tryRelation_67 rfl rfl (by omega) (by omega) ?_
    refine ⟨by rw [vB_t (by omega)], rfl, ?_, ?_⟩
    · exact ((xfr2.rf.up (by omega)).up (by omega)).up (by omega)
    · rw [if_pos (by omega)]
      refine ⟨isAk.obj ((pa.obj (rc' := rc) (rq' := rq) (tr' := tr + (fr + φ r)) (vr' := vr) (vd' := vd) (g' := g) (fr' := fr)).sm (xsm_up (by omega))), ?_⟩
      have := (pR.sm (h' := va_up h a (cA a rc rq (tr + (fr + φ r)) vr vd g fr)) (up_ne (by omega)) (xsm_up (by omega))).set hra hr (x := 0)
      rw [vFa_up] at this
      exact this.sm (up_ne (by omega)) (xsm_up (by omega))
  · refine xr_aload_n a_Asker_tryRelation_8 rfl ?_
    refine xr_dup a_Asker_tryRelation_9 rfl ?_
    apply xr_getf a_Asker_tryRelation_10
    · (repeat' (first | assumption | exact va_up_self _ _ _ | refine x_lk (by omega) ?_))
    · rfl
    refine xr_iconst a_Asker_tryRelation_13 (v := nI 3) (by decide +kernel) ?_
    first | refine xn_isub a_Asker_tryRelation_14 (by omega) ?_ | refine xr_isub a_Asker_tryRelation_14 ?_
    apply xr_putf a_Asker_tryRelation_15
    · (repeat' (first | assumption | exact va_up_self _ _ _ | refine x_lk (by omega) ?_))
    · exact Nat.le_of_ble_eq_true rfl
    · rfl
    · rfl
    refine xr_aload_n a_Asker_tryRelation_18 rfl ?_
    refine xr_dup a_Asker_tryRelation_19 rfl ?_
    apply xr_getf a_Asker_tryRelation_20
    · (repeat' (first | assumption | exact va_up_self _ _ _ | refine x_lk (by omega) ?_))
    · rfl
    refine xr_iconst a_Asker_tryRelation_23 (v := nI 3) (by decide +kernel) ?_
    first | refine xn_iadd a_Asker_tryRelation_24 ?_ | refine xr_iadd a_Asker_tryRelation_24 ?_
    apply xa_tr a_Asker_tryRelation_25
    · (repeat' (first | assumption | exact va_up_self _ _ _ | refine x_lk (by omega) ?_))
    refine xr_iconst a_Asker_tryRelation_28 (v := nI 0) (by decide +kernel) ?_
    refine xr_ireturn a_Asker_tryRelation_29 rfl rfl (by omega) (by omega) ?_
    refine ⟨by rw [vB_f (by omega)], rfl, ?_, ?_⟩
    · exact (xfr2.rf.up (by omega)).up (by omega)
    · rw [if_neg (by omega)]
      refine ⟨isAk.obj (pa.sm (xsm_up (by omega))), ?_⟩
      have := pR.set hra hr (x := φ r - 3)
      rw [vFa_up] at this
      exact this.sm (up_ne (by omega)) (xsm_up (by omega))
end T37

