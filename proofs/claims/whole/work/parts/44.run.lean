/-! ViewMediator: run -/
noncomputable def pK (ν : Nat → vVw) (κ : vAL) : List Nat := vKept (vVl ν) (vLs κ)
noncomputable def pL (ν : Nat → vVw) (κ : vAL) (j : Nat) : List vA := vRd (vVl ν) (vLs κ) ((pK ν κ).getD j 0)
noncomputable def pO (ρ : Nat → vRel) (ν : Nat → vVw) (κ : vAL) (j : Nat) : List vA × (Nat → Option Nat) × Bool := vOrd (fun i => (ρ i).2.2.2.1) (pL ν κ j).length 0 (pL ν κ j) (fun _ => none)
noncomputable def pD (ρ : Nat → vRel) (ν : Nat → vVw) (κ : vAL) : Nat → vPd := fun j => ((pO ρ ν κ j).1, (pO ρ ν κ j).2.1)
def pBl (ρ : Nat → vRel) (ν : Nat → vVw) (κ : vAL) : Prop := ∃ j, j < (pK ν κ).length ∧ (pO ρ ν κ j).2.2 = true
noncomputable def pA (ρ : Nat → vRel) (ν : Nat → vVw) (κ : vAL) : Bool × (Nat → Bool) × (Nat → Nat) × Nat × Nat := vAsk (vRw ρ) ((List.range (pK ν κ).length).map (pD ρ ν κ)) (fun _ => false, fun r => (ρ r).2.2.2.2, 0, 0)
noncomputable def pF (ρ : Nat → vRel) (ν : Nat → vVw) (κ : vAL) : Nat → Bool := vAdd (fun _ => false) (fun c => ∃ i, i < (pK ν κ).length ∧ vSc (vRw ρ) (pD ρ ν κ i).1 c)
abbrev vRs : Type := Int32 × (Nat → vRel) × Nat × (Nat → vPd) × (Nat → Bool) × Nat × Nat
noncomputable def fRun (ρ : Nat → vRel) (ν : Nat → vVw) (κ : vAL) (cnt : Nat) (D : Nat → vPd) (fo : Nat → Bool) (rq tr : Nat) : vRs := vIf (¬ vGood ν κ) (-1, ρ, cnt, D, fo, rq, tr) (vIf (pBl ρ ν κ) (-2, ρ, (pK ν κ).length, pD ρ ν κ, (fun _ => false), 0, 0) (vIf ((pA ρ ν κ).1 = false) (-3, vFa ρ (pA ρ ν κ).2.2.1, (pK ν κ).length, pD ρ ν κ, (fun _ => false), (pA ρ ν κ).2.2.2.1, (pA ρ ν κ).2.2.2.2) (nI (vCnt (pF ρ ν κ) 256), vFa ρ (pA ρ ν κ).2.2.1, (pK ν κ).length, pD ρ ν κ, pF ρ ν κ, (pA ρ ν κ).2.2.2.1, (pA ρ ν κ).2.2.2.2)))
def vSQ (κ : vAL) : Prop := κ.1 ≤ 3 ∧ ∀ i, i < κ.1 → κ.2.1 i < 3 ∧ κ.2.2.1 i < 22 ∧ κ.2.2.2 i < 22
theorem vSQ.ok {ν : Nat → vVw} {κ : vAL} (h : vSQ κ) (hV : vSV ν) : vOkQ ν (vLs κ) := by
  have pr := vLs_rep κ
  refine ⟨by rw [vLs_len]; exact h.1, fun c hc => ?_, fun c hc => ?_, hV.1, hV.2⟩
  · obtain ⟨i, hi, rfl⟩ := pr.mem.mp hc
    exact (h.2 i hi).2
  · obtain ⟨i, hi, rfl⟩ := pr.mem.mp hc
    exact (h.2 i hi).1
theorem vFa_self (ρ : Nat → vRel) : vFa ρ (fun r => (ρ r).2.2.2.2) = ρ := rfl
theorem pK_lt {ν : Nat → vVw} {κ : vAL} {j : Nat} (hj : j < (pK ν κ).length) : (pK ν κ).getD j 0 < (vCh (vVl ν) (vLs κ)).length := by
  rw [List.getD_eq_getElem?_getD, List.getElem?_eq_getElem hj]
  have := List.getElem_mem hj
  unfold pK vKept at this
  exact List.mem_range.mp (List.mem_filter.mp this).1
theorem pK_get {ν : Nat → vVw} {κ : vAL} {j : Nat} (hj : j < (pK ν κ).length) : (vKept (vVl ν) (vLs κ))[j]? = some ((pK ν κ).getD j 0) := by
  rw [List.getD_eq_getElem?_getD, List.getElem?_eq_getElem hj]
  exact List.getElem?_eq_getElem hj
theorem pL_ok {ν : Nat → vVw} {κ : vAL} (hQ : vOkQ ν (vLs κ)) {j : Nat} (hj : j < (pK ν κ).length) : (pL ν κ j).length ≤ 6 ∧ vBdL (pL ν κ j) := by
  have hk := pK_lt hj
  have e := List.getElem?_eq_getElem hk
  have e2 : (vDis (vVl ν) (vLs κ)).getD ((pK ν κ).getD j 0) [] = vUnfL 0 (vLs κ) (vCh (vVl ν) (vLs κ))[(pK ν κ).getD j 0] := by
    unfold vDis
    rw [List.getD_eq_getElem?_getD, List.getElem?_map, e]
    rfl
  obtain ⟨b1, b2⟩ := hQ.dis (List.mem_of_getElem? e)
  unfold pL vRd
  rw [e2]
  exact ⟨Nat.le_trans (vRed_len _ _ _) b1, fun a ha => b2 a (vRed_mem _ _ _ a ha)⟩
theorem pD_ok {ρ : Nat → vRel} {ν : Nat → vVw} {κ : vAL} (hQ : vOkQ ν (vLs κ)) {j : Nat} (hj : j < (pK ν κ).length) : (pD ρ ν κ j).1.length ≤ 6 ∧ vBdL (pD ρ ν κ j).1 := by
  obtain ⟨b1, b2⟩ := pL_ok hQ hj
  have m := fun a => vOrd_mem (al := fun i => (ρ i).2.2.2.1) (a := a) (pL ν κ j).length 0 (pL ν κ j) (fun _ => none) (by omega)
  refine ⟨?_, fun a ha => b2 a ((m a).1.mp ha)⟩
  have := (m (0, 0, 0)).2
  show (vOrd _ _ 0 (pL ν κ j) _).1.length ≤ 6
  omega
section T44
variable {d L : Nat} {xs : Nat → Int32} {n : Nat} {h : xH} {v : Nat} {ρ : Nat → vRel} {ν : Nat → vVw} {κ : vAL} {cnt : Nat} {D : Nat → vPd} {fo : Nat → Bool} {rq tr : Nat}
theorem t_VM_isBad (p : isVM h v ρ ν κ cnt D fo rq tr) (hV : vSV ν) (hQ : vSQ κ) (hd : 3 ≤ d) : XM d 0 0 k_VM_isBad L xs [.ref v] n h (qR n h (nI (vB (¬ vGood ν κ)))) := by
  have p0 := p.1
  obtain ⟨⟨f, r0, r1⟩, r2⟩ := p.2.2.1
  have pq := p.2.2.2.1
  have pq' := pq
  obtain ⟨a0, a1, a2, a3⟩ := pq'
  have hk3 := hQ.1
  refine XM.of rfl (Nat.le_of_ble_eq_true rfl) ?_
  have loop : vSf κ.1 κ.2.2.1 κ.2.2.2 → ∀ k i, i + k = κ.1 → (∀ j, j < i → 0 < (ν (κ.2.1 j)).1 ∧ ∀ x, x < (ν (κ.2.1 j)).1 → vSf ((ν (κ.2.1 j)).2 x).1 ((ν (κ.2.1 j)).2 x).2.2.1 ((ν (κ.2.1 j)).2 x).2.2.2) → XW (x_rm d 0 0) k_VM_isBad L xs (x_mq 0 0 (qR n h (nI (vB (¬ vGood ν κ))))) 0 0 14 [(0, .ref v), (1, .int (nI i))] [] n h := by
    intro hs k
    induction k with
    | zero =>
      intro i hi he
      refine xr_iload_n a_VM_isBad_14 rfl ?_
      refine xr_aload_n a_VM_isBad_15 rfl ?_
      apply xr_getf a_VM_isBad_16
      · (repeat' (first | assumption | exact va_up_self _ _ _ | refine x_lk (by omega) ?_))
      · rfl
      apply xr_getf a_VM_isBad_19
      · (repeat' (first | assumption | exact va_up_self _ _ _ | refine x_lk (by omega) ?_))
      · rfl
      refine xn_icmp_ge a_VM_isBad_22 (by omega) (by omega) (fun b22 => ?_) (fun b22 => ?_)
      · refine xr_iconst a_VM_isBad_53 (v := nI 0) (by decide +kernel) ?_
        refine xr_ireturn a_VM_isBad_54 rfl rfl (by omega) (by omega) ?_
        refine ⟨?_, rfl, rfl⟩
        rw [vB_f (fun z => z ⟨hs, fun j hj => he j (by omega)⟩)]
      · omega
    | succ k ih =>
      intro i hi he
      have hv := (hQ.2 i (by omega)).1
      obtain ⟨fv, w0⟩ := r2 _ hv
      have cS := t_View_isSafe (d := 2) (L := L) (xs := xs) (n := n) w0 (hV.1 _ hv).1 (fun j hj => ⟨((hV.1 _ hv).2 j hj).1, fun x hx => by
        have := ((hV.1 _ hv).2 j hj).2 _ ((vLs_rep ((ν (κ.2.1 i)).2 j)).mem.mpr ⟨x, hx, rfl⟩)
        exact ⟨Nat.lt_trans this.1 (by decide), Nat.lt_trans this.2 (by decide)⟩⟩) (by omega)
      refine xr_iload_n a_VM_isBad_14 rfl ?_
      refine xr_aload_n a_VM_isBad_15 rfl ?_
      apply xr_getf a_VM_isBad_16
      · (repeat' (first | assumption | exact va_up_self _ _ _ | refine x_lk (by omega) ?_))
      · rfl
      apply xr_getf a_VM_isBad_19
      · (repeat' (first | assumption | exact va_up_self _ _ _ | refine x_lk (by omega) ?_))
      · rfl
      refine xn_icmp_ge a_VM_isBad_22 (by omega) (by omega) (fun b22 => ?_) (fun b22 => ?_)
      · omega
      · refine xr_aload_n a_VM_isBad_25 rfl ?_
        apply xr_getf a_VM_isBad_26
        · (repeat' (first | assumption | exact va_up_self _ _ _ | refine x_lk (by omega) ?_))
        · rfl
        refine xr_aload_n a_VM_isBad_29 rfl ?_
        apply xr_getf a_VM_isBad_30
        · (repeat' (first | assumption | exact va_up_self _ _ _ | refine x_lk (by omega) ?_))
        · rfl
        apply xr_getf a_VM_isBad_33
        · (repeat' (first | assumption | exact va_up_self _ _ _ | refine x_lk (by omega) ?_))
        · rfl
        refine xr_iload_n a_VM_isBad_36 rfl ?_
        apply xn_iaload a_VM_isBad_37
        · (repeat' (first | assumption | exact va_up_self _ _ _ | refine x_lk (by omega) ?_))
        · omega
        · omega
        apply xn_aaload a_VM_isBad_38
        · (repeat' (first | assumption | exact va_up_self _ _ _ | refine x_lk (by omega) ?_))
        · rfl
        · omega
        · omega
        · exact r1 _ hv
        refine xr_invV a_VM_isBad_39 (by exact w0.1) (cS) rfl rfl (by omega) (by omega) (by omega) (Nat.le_of_ble_eq_true rfl) ?_
        rintro _ _ h1 ⟨rfl, rfl, rfl⟩
        refine xn_if_ne a_VM_isBad_42 (vB_lt31 _) (fun b42 => ?_) (fun b42 => ?_)
        · first | refine xn_iinc a_VM_isBad_47 rfl (by decide) rfl ?_ | refine xr_iinc a_VM_isBad_47 rfl rfl (by decide) rfl ?_
          refine xr_goto a_VM_isBad_50 ?_
          refine xr_ls [(0, .ref v), (1, .int (nI (i + 1)))] ⟨rfl, rfl, trivial⟩ ?_
          refine ih (i + 1) (by omega) (fun j hj => ?_)
          by_cases e : j = i
          · rw [e]; exact vB_1 b42
          · exact he j (by omega)
        · refine xr_iconst a_VM_isBad_45 (v := nI 1) (by decide +kernel) ?_
          refine xr_ireturn a_VM_isBad_46 rfl rfl (by omega) (by omega) ?_
          refine ⟨?_, rfl, rfl⟩
          rw [vB_t (fun z => vB_0 b42 (z.2 i (by omega)))]
  refine xr_aload_n a_VM_isBad_0 rfl ?_
  apply xr_getf a_VM_isBad_1
  · (repeat' (first | assumption | exact va_up_self _ _ _ | refine x_lk (by omega) ?_))
  · rfl
  refine xr_invV a_VM_isBad_4 (by (repeat' (first | assumption | exact va_up_self _ _ _ | refine x_lk (by omega) ?_))) (t_AtomList_isSafe (d := 1) pq hk3 (by omega) (fun i hi => by have := hQ.2 i hi; omega) (by omega)) rfl rfl (by omega) (by omega) (by omega) (Nat.le_of_ble_eq_true rfl) ?_
  rintro _ _ h1 ⟨rfl, rfl, rfl⟩
  refine xn_if_ne a_VM_isBad_7 (vB_lt31 _) (fun b7 => ?_) (fun b7 => ?_)
  · refine xr_iconst a_VM_isBad_12 (v := nI 0) (by decide +kernel) ?_
    refine xr_istore_n a_VM_isBad_13 (by decide) rfl ?_
    refine xr_ls [(0, .ref v), (1, .int (nI 0))] ⟨rfl, rfl, trivial⟩ ?_
    exact loop (vB_1 b7) κ.1 0 (by omega) (fun j hj => by omega)
  · refine xr_iconst a_VM_isBad_10 (v := nI 1) (by decide +kernel) ?_
    refine xr_ireturn a_VM_isBad_11 rfl rfl (by omega) (by omega) ?_
    refine ⟨?_, rfl, rfl⟩
    rw [vB_t (fun z => vB_0 b7 z.1)]
theorem t_VM_run (p : isVM h v ρ ν κ cnt D fo rq tr) (hR : vSR ρ) (hV : vSV ν) (hQ : vSQ κ) (hd : 24 ≤ d) : XM d 0 0 k_VM_run L xs [.ref v] n h (qP n (fRun ρ ν κ cnt D fo rq tr).1 (fun h' => xfr v (v + 112) h h' ∧ isVM h' v (fRun ρ ν κ cnt D fo rq tr).2.1 ν κ (fRun ρ ν κ cnt D fo rq tr).2.2.1 (fRun ρ ν κ cnt D fo rq tr).2.2.2.1 (fRun ρ ν κ cnt D fo rq tr).2.2.2.2.1 (fRun ρ ν κ cnt D fo rq tr).2.2.2.2.2.1 (fRun ρ ν κ cnt D fo rq tr).2.2.2.2.2.2)) := by
  have cB := t_VM_isBad (d := 3) (L := L) (xs := xs) (n := n) p hV hQ (by omega)
  have p0 := p.1
  refine XM.of rfl (Nat.le_of_ble_eq_true rfl) ?_
  refine xr_aload_n a_VM_run_0 rfl ?_
  refine xr_invV a_VM_run_1 (by (repeat' (first | assumption | exact va_up_self _ _ _ | refine x_lk (by omega) ?_))) (cB) rfl rfl (by omega) (by omega) (by omega) (Nat.le_of_ble_eq_true rfl) ?_
  rintro _ _ h1 ⟨rfl, rfl, rfl⟩
  refine xn_if_eq a_VM_run_4 (vB_lt31 _) (fun b4 => ?_) (fun b4 => ?_)
  · have hg : vGood ν κ := Classical.byContradiction (vB_0 b4)
    have eF : fRun ρ ν κ cnt D fo rq tr = _ := vIf_f (fun z => z hg)
    obtain ⟨-, pRs, pVs, pQ, ⟨π, ch, D0, pP, -⟩, rc, R, Mf, Mm, lu, vr, vd, g, fr, pAk, -⟩ := p
    have k0 := pAk.1
    refine xr_aload_n a_VM_run_9 rfl ?_
    apply xr_getf a_VM_run_10
    · (repeat' (first | assumption | exact va_up_self _ _ _ | refine x_lk (by omega) ?_))
    · rfl
    refine xr_invV a_VM_run_13 (by (repeat' (first | assumption | exact va_up_self _ _ _ | refine x_lk (by omega) ?_))) (t_Asker_begin (d := 0) pAk) rfl rfl (by omega) (by omega) (by omega) (Nat.le_of_ble_eq_true rfl) ?_
    rintro _ _ h1 ⟨rfl, rfl, f1, q1⟩
    have ok := hQ.ok hV
    have cM := t_Plan_make (d := 22) (L := L) (xs := xs) (n := n) (ql := vLs κ) (q := v + 3) (va := v + 2) (vb := v + 82) (ra := v + 1) (rb := v + 70) (pP.sm (f1.sm (by omega))) (by rw [vLs_len]; exact pQ.sm (f1.sm (by omega))) (by rw [vLs_len]; exact vLs_rep κ) (pVs.sm (f1 _ (by omega)) (f1.sm (by omega))) (pRs.sm (f1 _ (by omega)) (f1.sm (by omega))) ok (fun i hi => (hR.2 i hi).1) (by omega) (by omega) (by omega) (by omega) (by omega) (by omega)
    have p0' := f1.get (by omega) p0
    have g0' := f1.get (by omega) pP.1
    refine xr_aload_n a_VM_run_16 rfl ?_
    apply xr_getf a_VM_run_17
    · (repeat' (first | assumption | exact va_up_self _ _ _ | refine x_lk (by omega) ?_))
    · rfl
    refine xr_aload_n a_VM_run_20 rfl ?_
    apply xr_getf a_VM_run_21
    · (repeat' (first | assumption | exact va_up_self _ _ _ | refine x_lk (by omega) ?_))
    · rfl
    refine xr_aload_n a_VM_run_24 rfl ?_
    apply xr_getf a_VM_run_25
    · (repeat' (first | assumption | exact va_up_self _ _ _ | refine x_lk (by omega) ?_))
    · rfl
    refine xr_aload_n a_VM_run_28 rfl ?_
    apply xr_getf a_VM_run_29
    · (repeat' (first | assumption | exact va_up_self _ _ _ | refine x_lk (by omega) ?_))
    · rfl
    refine xr_invV a_VM_run_32 (by exact g0') (cM) rfl rfl (by omega) (by omega) (by omega) (Nat.le_of_ble_eq_true rfl) ?_
    rintro _ _ h2 ⟨rfl, rfl, f2, π', ch', D', q2, q3⟩
    have fT : xfr v (v + 112) h h2 := (f1.mo (by omega) (by omega)).tr (f2.mo (by omega) (by omega))
    have p0'' := f2.get (by omega) p0'
    have q1' := q1.sm (f2.sm (by omega))
    have g0'' := q2.1
    have R2 := (pRs.sm (f1 _ (by omega)) (f1.sm (by omega))).sm (f2 _ (by omega)) (f2.sm (by omega))
    have V2 := (pVs.sm (f1 _ (by omega)) (f1.sm (by omega))).sm (f2 _ (by omega)) (f2.sm (by omega))
    have Q2 := (pQ.sm (f1.sm (by omega))).sm (f2.sm (by omega))
    have n8 : (pK ν κ).length ≤ 8 := by
      have := ok.len8
      have h1 : (pK ν κ).length ≤ (List.range (vCh (vVl ν) (vLs κ)).length).length := List.length_filter_le _ _
      rw [List.length_range] at h1
      omega
    have dq : ∀ j, j < (pK ν κ).length → (D' j).1 = (pO ρ ν κ j).1 ∧ (D' j).2.2.2 = (pO ρ ν κ j).2.2.toNat ∧ ∀ x, x < 6 → (D' j).2.1 x = (pO ρ ν κ j).2.1 x := by
      intro j hj
      obtain ⟨pt, t1, t2⟩ := q3 j _ (pK_get hj)
      obtain ⟨o1, o2, o3⟩ := vOrd_pt (al := fun i => (ρ i).2.2.2.1) (pL ν κ j).length 0 (pL ν κ j) pt (fun _ => none) t1
      rw [t2]
      exact ⟨o1, congrArg Bool.toNat o2, o3⟩
    have D2 : vDq (pK ν κ).length D' (pD ρ ν κ) := fun j hj => ⟨(dq j hj).1, (dq j hj).2.2⟩
    have cI := t_Plan_isBlocked (d := 0) (L := L) (xs := xs) (n := n) q2 n8 (fun j hj => by rw [(dq j hj).2.1]; exact tn_lt _)
    refine xr_aload_n a_VM_run_35 rfl ?_
    apply xr_getf a_VM_run_36
    · (repeat' (first | assumption | exact va_up_self _ _ _ | refine x_lk (by omega) ?_))
    · rfl
    refine xr_invV a_VM_run_39 (by exact g0'') (cI) rfl rfl (by omega) (by omega) (by omega) (Nat.le_of_ble_eq_true rfl) ?_
    rintro _ _ h1 ⟨rfl, rfl, rfl⟩
    have eB : (∃ i, i < (vKept (vVl ν) (vLs κ)).length ∧ (D' i).2.2.2 = 1) ↔ pBl ρ ν κ := by
      have key : ∀ b : Bool, b.toNat = 1 ↔ b = true := by decide
      constructor
      · rintro ⟨i, i1, i2⟩
        rw [(dq i i1).2.1, key] at i2
        exact ⟨i, i1, i2⟩
      · rintro ⟨i, i1, i2⟩
        exact ⟨i, i1, by rw [(dq i i1).2.1, key]; exact i2⟩
    rw [vB_c eB]
    refine xn_if_eq a_VM_run_42 (vB_lt31 _) (fun b42 => ?_) (fun b42 => ?_)
    · have nb := vB_0 b42
      rw [vIf_f nb] at eF
      have hAb : ∀ i, i < (pK ν κ).length → vAb (D' i) := by
        intro i hi
        obtain ⟨e1, e2, e3⟩ := dq i hi
        obtain ⟨b1, b2⟩ := pD_ok (ρ := ρ) ok hi
        have hbf : (pO ρ ν κ i).2.2 = false := by
          cases z : (pO ρ ν κ i).2.2 with
          | false => rfl
          | true => exact absurd ⟨i, hi, z⟩ nb
        have gd := vOrd_good (al := fun i => (ρ i).2.2.2.1) (pL ν κ i).length 0 (pL ν κ i) (fun _ => none) (by omega) (fun j hj => by omega) hbf
        have hs : ∀ t, t = 16 ∨ t = 17 → vHas t (D' i).1 := by
          intro t ht
          obtain ⟨x, x1, x2⟩ := vRd_has hg (pK_lt hi) ht
          rw [e1]
          exact ⟨x, (vOrd_mem _ 0 (pL ν κ i) _ (by omega)).1.mpr x1, x2⟩
        refine ⟨by rw [e1]; exact b1, by rw [e1]; exact b2, fun j hj => ?_, hs 16 (Or.inl rfl), hs 17 (Or.inr rfl)⟩
        rw [e1] at hj ⊢
        have hj6 : j < 6 := Nat.lt_of_lt_of_le hj b1
        rw [e3 j hj6]
        exact gd j hj
      have cA := t_Asker_askAll (d := 12) (L := L) (xs := xs) (n := n) (a := v + 61) (r := v + 7) (ra := v + 1) (rb := v + 70) (ρ := ρ) (φ := fun r => (ρ r).2.2.2.2) q1' q2 R2 (by omega) (by omega) (by omega) (by omega) (by omega) n8 hAb hR.1 (fun r hr => (hR.2 r hr).2) (by omega)
      have eA : vAsk (vRw ρ) (vDd D' (vKept (vVl ν) (vLs κ)).length) (fun _ => false, fun r => (ρ r).2.2.2.2, 0, 0) = pA ρ ν κ := by
        refine vAsk_pt _ _ _ (by unfold vDd; rw [List.length_map, List.length_map]; rfl) (fun i x x' hx hx' => ?_)
        unfold vDd at hx
        rw [List.getElem?_map] at hx hx'
        cases hi : (List.range (vKept (vVl ν) (vLs κ)).length)[i]? with
        | none => rw [hi] at hx; cases hx
        | some i' =>
          have hi' : (List.range (pK ν κ).length)[i]? = some i' := hi
          rw [hi] at hx
          rw [hi'] at hx'
          have hlt : i' < (pK ν κ).length := List.mem_range.mp (List.mem_of_getElem? hi)
          cases hx
          cases hx'
          refine ⟨(dq i' hlt).1, fun j hj => (dq i' hlt).2.2 j ?_⟩
          have := (hAb i' hlt).1
          have hj' : j < (D' i').1.length := hj
          omega
      rw [eA] at cA
      have k0'' := q1'.1
      refine xr_aload_n a_VM_run_48 rfl ?_
      apply xr_getf a_VM_run_49
      · (repeat' (first | assumption | exact va_up_self _ _ _ | refine x_lk (by omega) ?_))
      · rfl
      refine xr_aload_n a_VM_run_52 rfl ?_
      apply xr_getf a_VM_run_53
      · (repeat' (first | assumption | exact va_up_self _ _ _ | refine x_lk (by omega) ?_))
      · rfl
      refine xr_aload_n a_VM_run_56 rfl ?_
      apply xr_getf a_VM_run_57
      · (repeat' (first | assumption | exact va_up_self _ _ _ | refine x_lk (by omega) ?_))
      · rfl
      refine xr_invV a_VM_run_60 (by exact k0'') (cA) rfl rfl (by omega) (by omega) (by omega) (Nat.le_of_ble_eq_true rfl) ?_
      rintro _ _ h3 ⟨rfl, rfl, f3, q4, q5, rc', R', Mf', Mm', lu', vr', vd', g', fr', q6, q7, q8⟩
      have fU : xfr v (v + 112) h h3 := fT.tr (f3.one (by omega) (by omega))
      have p0''' := (f3 _ (by omega) (by omega)).trans p0''
      have k3 := q6.1
      have V3 := V2.sm (f3 _ (by omega) (by omega)) (f3.sm (by omega) (by omega))
      have Q3 := Q2.sm (f3.sm (by omega) (by omega))
      have P3 := q2.sm (f3.sm (a' := v + 7) (b' := v + 7 + 54) (by omega) (by omega))
      have tA := tn_lt (pA ρ ν κ).1
      refine xn_if_eq a_VM_run_63 (by omega) (fun b63 => ?_) (fun b63 => ?_)
      · have eA0 : (pA ρ ν κ).1 = false := by
          cases z : (pA ρ ν κ).1 with
          | false => rfl
          | true => rw [z] at b63; cases b63
        rw [vIf_t eA0] at eF
        rw [eF]
        refine xr_bipush a_VM_run_76 (v := -3) (by decide +kernel) ?_
        refine xr_ireturn a_VM_run_78 rfl rfl (by omega) (by omega) ?_
        refine ⟨rfl, rfl, fU, p0''', q5, V3, Q3, ⟨π', ch', D', P3, D2⟩, rc', R', Mf', Mm', lu', vr', vd', g', fr', q6, ?_, fun k _ z => by cases z⟩
        rw [q7 eA0, vCnt_false]
      · have eA1 : (pA ρ ν κ).1 = true := by
          cases z : (pA ρ ν κ).1 with
          | true => rfl
          | false => rw [z] at b63; cases b63
        obtain ⟨w1, w2, w3⟩ := q8 eA1
        rw [vIf_f (by rw [eA1]; decide)] at eF
        have eP : Mf' = pF ρ ν κ := by
          rw [w2]
          refine vAdd_c (fun c => ?_)
          constructor
          · rintro ⟨i, i1, i2⟩
            exact ⟨i, i1, by show vSc _ (pO ρ ν κ i).1 c; rw [← (dq i i1).1]; exact i2⟩
          · rintro ⟨i, i1, i2⟩
            exact ⟨i, i1, by rw [(dq i i1).1]; exact i2⟩
        rw [eP] at w1 w3
        rw [eF]
        refine xr_aload_n a_VM_run_66 rfl ?_
        apply xr_getf a_VM_run_67
        · (repeat' (first | assumption | exact va_up_self _ _ _ | refine x_lk (by omega) ?_))
        · rfl
        apply xr_getf a_VM_run_70
        · (repeat' (first | assumption | exact va_up_self _ _ _ | refine x_lk (by omega) ?_))
        · rfl
        refine xr_goto a_VM_run_73 ?_
        refine xr_ireturn a_VM_run_78 rfl rfl (by omega) (by omega) ?_
        exact ⟨by rw [w1], rfl, fU, p0''', q5, V3, Q3, ⟨π', ch', D', P3, D2⟩, rc', R', Mf', Mm', lu', vr', vd', g', fr', q6, w1, w3⟩
    · have hb := vB_1 b42
      rw [vIf_t hb] at eF
      rw [eF]
      refine xr_bipush a_VM_run_45 (v := -2) (by decide +kernel) ?_
      refine xr_ireturn a_VM_run_47 rfl rfl (by omega) (by omega) ?_
      exact ⟨rfl, rfl, fT, p0'', R2, V2, Q2, ⟨π', ch', D', q2, D2⟩, 0, R, Mf, Mm, lu, vr, vd, g, fr, q1', (vCnt_false 256).symm, fun k _ z => by cases z⟩
  · have eF : fRun ρ ν κ cnt D fo rq tr = _ := vIf_t (vB_1 b4)
    rw [eF]
    refine xr_iconst a_VM_run_7 (v := -1) (by decide +kernel) ?_
    refine xr_ireturn a_VM_run_8 rfl rfl (by omega) (by omega) ?_
    exact ⟨rfl, rfl, xfr.rf, p⟩
end T44

