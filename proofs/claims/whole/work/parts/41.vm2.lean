/-! ViewMediator: the calls but run -/
noncomputable def fFact (ρ : Nat → vRel) (a b c : Int32) : Int32 × (Nat → vRel) := vIf (inB a 4 ∧ inB b 16 ∧ inB c 16 ∧ (ρ (cl a)).1 < 8 ∧ vFd (ρ (cl a)).1 (ρ (cl a)).2.1 (ρ (cl a)).2.2.1 b c = none) (nI 1, va_up ρ (cl a) ((ρ (cl a)).1 + 1, va_up (ρ (cl a)).2.1 (ρ (cl a)).1 (cl b), va_up (ρ (cl a)).2.2.1 (ρ (cl a)).1 (cl c), (ρ (cl a)).2.2.2.1, (ρ (cl a)).2.2.2.2)) (nI 0, ρ)
noncomputable def fRetract (ρ : Nat → vRel) (a b c : Int32) : Int32 × (Nat → vRel) := vIf (inB a 4) (match vFd (ρ (cl a)).1 (ρ (cl a)).2.1 (ρ (cl a)).2.2.1 b c with | none => (nI 0, ρ) | some j => (nI 1, va_up ρ (cl a) ((ρ (cl a)).1 - 1, va_up (ρ (cl a)).2.1 j ((ρ (cl a)).2.1 ((ρ (cl a)).1 - 1)), va_up (ρ (cl a)).2.2.1 j ((ρ (cl a)).2.2.1 ((ρ (cl a)).1 - 1)), (ρ (cl a)).2.2.2.1, (ρ (cl a)).2.2.2.2))) (nI 0, ρ)
noncomputable def fAllow (ρ : Nat → vRel) (a b : Int32) : Int32 × (Nat → vRel) := vIf (inB a 4 ∧ inB b 16) (nI 1, va_up ρ (cl a) ((ρ (cl a)).1, (ρ (cl a)).2.1, (ρ (cl a)).2.2.1, cl b, (ρ (cl a)).2.2.2.2)) (nI 0, ρ)
noncomputable def fFail (ρ : Nat → vRel) (a b : Int32) : Int32 × (Nat → vRel) := vIf (inB a 4 ∧ inB b 10) (nI 1, va_up ρ (cl a) ((ρ (cl a)).1, (ρ (cl a)).2.1, (ρ (cl a)).2.2.1, (ρ (cl a)).2.2.2.1, cl b)) (nI 0, ρ)
noncomputable def fFailures (ρ : Nat → vRel) (a : Int32) : Int32 := vIf (inB a 4) (nI (ρ (cl a)).2.2.2.2) (-1)
noncomputable def fRule (ν : Nat → vVw) (a : Int32) : Int32 × (Nat → vVw) := vIf (inB a 3 ∧ (ν (cl a)).1 < 2) (nI (ν (cl a)).1, va_up ν (cl a) ((ν (cl a)).1 + 1, va_up (ν (cl a)).2 (ν (cl a)).1 (0, ((ν (cl a)).2 (ν (cl a)).1).2))) (-1, ν)
def vAdA (x : vAL) (a b c : Nat) : vAL := (x.1 + 1, va_up x.2.1 x.1 a, va_up x.2.2.1 x.1 b, va_up x.2.2.2 x.1 c)
noncomputable def fAtom (ν : Nat → vVw) (a b c e : Int32) : Int32 × (Nat → vVw) := vIf (inB a 3 ∧ inB b 4 ∧ inB c 22 ∧ inB e 22 ∧ 0 < (ν (cl a)).1 ∧ ((ν (cl a)).2 ((ν (cl a)).1 - 1)).1 < 2) (nI 1, va_up ν (cl a) ((ν (cl a)).1, va_up (ν (cl a)).2 ((ν (cl a)).1 - 1) (vAdA ((ν (cl a)).2 ((ν (cl a)).1 - 1)) (cl b) (cl c) (cl e)))) (nI 0, ν)
noncomputable def fForget (ν : Nat → vVw) (a : Int32) : Int32 × (Nat → vVw) := vIf (inB a 3) (nI (ν (cl a)).1, va_up ν (cl a) (0, (ν (cl a)).2)) (-1, ν)
noncomputable def fAsk (κ : vAL) (a b c : Int32) : Int32 × vAL := vIf (inB a 3 ∧ inB b 22 ∧ inB c 22 ∧ κ.1 < 3) (nI 1, vAdA κ (cl a) (cl b) (cl c)) (nI 0, κ)
noncomputable def vNth (fo : Nat → Bool) (i : Nat) : Nat := (rF (fun k => fo k && vCnt fo k == i) 0 256).getD 0
noncomputable def fResult (fo : Nat → Bool) (a : Int32) : Int32 := vIf (inB a (vCnt fo 256)) (nI (vNth fo (cl a))) (-1)
noncomputable def fSize (cnt : Nat) (D : Nat → vPd) (a : Int32) : Int32 := vIf (inB a cnt) (nI (D (cl a)).1.length) (-1)
noncomputable def fAtomAt (cnt : Nat) (D : Nat → vPd) (a b : Int32) : Int32 := vIf (inB a cnt ∧ inB b (D (cl a)).1.length) (nI (((vAt (D (cl a)).1 (cl b)).1 * 64 + (vAt (D (cl a)).1 (cl b)).2.1) * 64 + (vAt (D (cl a)).1 (cl b)).2.2)) (-1)
noncomputable def fPatternAt (cnt : Nat) (D : Nat → vPd) (a b : Int32) : Int32 := vIf (inB a cnt ∧ inB b (D (cl a)).1.length) (oI ((D (cl a)).2 (cl b))) (-1)
def vSV (ν : Nat → vVw) : Prop := vOkV ν ∧ vOkH ν
section T41
variable {d L : Nat} {xs : Nat → Int32} {n : Nat} {h : xH} {v : Nat} {ρ : Nat → vRel} {ν : Nat → vVw} {κ : vAL} {cnt : Nat} {D : Nat → vPd} {fo : Nat → Bool} {rq tr : Nat}
theorem t_VM_fact {a b c : Int32} (p : isVM h v ρ ν κ cnt D fo rq tr) (hR : vSR ρ) (hd : 2 ≤ d) : XM d 0 0 k_VM_fact L xs [.ref v, .int a, .int b, .int c] n h (qP n (fFact ρ a b c).1 (fun h' => xfr v (v + 112) h h' ∧ isVM h' v (fFact ρ a b c).2 ν κ cnt D fo rq tr)) := by
  have p0 := p.1
  obtain ⟨⟨f, r0, r1⟩, r2⟩ := p.2.1
  refine XM.of rfl (Nat.le_of_ble_eq_true rfl) ?_
  have bad : fFact ρ a b c = (nI 0, ρ) → XW (x_rm d 0 0) k_VM_fact L xs (x_mq 0 0 (qP n (fFact ρ a b c).1 (fun h' => xfr v (v + 112) h h' ∧ isVM h' v (fFact ρ a b c).2 ν κ cnt D fo rq tr))) 0 0 44 [] [] n h := by
    intro e
    rw [e]
    refine xr_iconst a_VM_fact_44 (v := nI 0) (by decide +kernel) ?_
    refine xr_ireturn a_VM_fact_45 rfl rfl (by omega) (by omega) ?_
    exact ⟨rfl, rfl, xfr.rf, p⟩
  refine xr_iload_n a_VM_fact_0 rfl ?_
  refine xr_iconst a_VM_fact_1 (v := nI 4) (by decide +kernel) ?_
  refine xr_invS a_VM_fact_2 (t_isBelow (d := 0)) rfl rfl (by omega) (by omega) (by omega) (Nat.le_of_ble_eq_true rfl) ?_
  rintro _ _ h1 ⟨rfl, rfl, rfl⟩
  refine xn_if_eq a_VM_fact_5 (vB_lt31 _) (fun b5 => xr_ls [] trivial (bad (vIf_f fun z => vB_0 b5 z.1))) (fun b5 => ?_)
  refine xr_iload_n a_VM_fact_8 rfl ?_
  refine xr_bipush a_VM_fact_9 (v := nI 16) (by decide +kernel) ?_
  refine xr_invS a_VM_fact_11 (t_isBelow (d := 0)) rfl rfl (by omega) (by omega) (by omega) (Nat.le_of_ble_eq_true rfl) ?_
  rintro _ _ h1 ⟨rfl, rfl, rfl⟩
  refine xn_if_eq a_VM_fact_14 (vB_lt31 _) (fun b14 => xr_ls [] trivial (bad (vIf_f fun z => vB_0 b14 z.2.1))) (fun b14 => ?_)
  refine xr_iload_n a_VM_fact_17 rfl ?_
  refine xr_bipush a_VM_fact_18 (v := nI 16) (by decide +kernel) ?_
  refine xr_invS a_VM_fact_20 (t_isBelow (d := 0)) rfl rfl (by omega) (by omega) (by omega) (Nat.le_of_ble_eq_true rfl) ?_
  rintro _ _ h1 ⟨rfl, rfl, rfl⟩
  refine xn_if_eq a_VM_fact_23 (vB_lt31 _) (fun b23 => xr_ls [] trivial (bad (vIf_f fun z => vB_0 b23 z.2.2.1))) (fun b23 => ?_)
  have i1 : inB a 4 := vB_1 b5
  have i2 : inB b 16 := vB_1 b14
  have i3 : inB c 16 := vB_1 b23
  obtain ⟨r, hr, rfl⟩ := inB_ex (by omega) i1
  obtain ⟨x, hx, rfl⟩ := inB_ex (by omega) i2
  obtain ⟨y, hy, rfl⟩ := inB_ex (by omega) i3
  have cP := t_Relation_put (d := 1) (L := L) (xs := xs) (n := n) (x := x) (y := y) (r2 r hr) (hR.1 r hr).1 (by omega)
  have e1 : cl (nI r) = r := cl_nI (by omega)
  have e2 : cl (nI x) = x := cl_nI (by omega)
  have e3 : cl (nI y) = y := cl_nI (by omega)
  refine xr_aload_n a_VM_fact_26 rfl ?_
  apply xr_getf a_VM_fact_27
  · (repeat' (first | assumption | exact va_up_self _ _ _ | refine x_lk (by omega) ?_))
  · rfl
  refine xr_iload_n a_VM_fact_30 rfl ?_
  apply xn_aaload a_VM_fact_31
  · (repeat' (first | assumption | exact va_up_self _ _ _ | refine x_lk (by omega) ?_))
  · rfl
  · omega
  · omega
  · exact r1 r hr
  refine xr_iload_n a_VM_fact_32 rfl ?_
  refine xr_iload_n a_VM_fact_33 rfl ?_
  refine xr_invV a_VM_fact_34 (by exact (r2 r hr).1) (cP) rfl rfl (by omega) (by omega) (by omega) (Nat.le_of_ble_eq_true rfl) ?_
  rintro _ _ h1 ⟨rfl, rfl, f1, q1⟩
  refine xn_if_eq a_VM_fact_37 (vB_lt31 _) (fun b37 => ?_) (fun b37 => ?_)
  · have e := vB_0 b37
    rw [if_neg e] at q1
    subst q1
    refine xr_ls [] trivial (bad (vIf_f fun z => e ?_))
    rw [e1] at z
    exact z.2.2.2
  · have e := vB_1 b37
    rw [if_pos e] at q1
    have eF : fFact ρ (nI r) (nI x) (nI y) = (nI 1, va_up ρ r ((ρ r).1 + 1, va_up (ρ r).2.1 (ρ r).1 x, va_up (ρ r).2.2.1 (ρ r).1 y, (ρ r).2.2.2.1, (ρ r).2.2.2.2)) := by
      unfold fFact
      rw [e1, e2, e3]
      exact vIf_t ⟨i1, i2, i3, e⟩
    rw [eF]
    refine xr_iconst a_VM_fact_40 (v := nI 1) (by decide +kernel) ?_
    refine xr_goto a_VM_fact_41 ?_
    refine xr_ireturn a_VM_fact_45 rfl rfl (by omega) (by omega) ?_
    exact ⟨rfl, rfl, f1.mo (by omega) (by omega), p.rel (f1.mo (by omega) (by omega)) (p.2.1.one (by omega) hr f1 (x := (_, _, _, _, _)) q1)⟩
theorem t_VM_retract {a b c : Int32} (p : isVM h v ρ ν κ cnt D fo rq tr) (hR : vSR ρ) (hd : 2 ≤ d) : XM d 0 0 k_VM_retract L xs [.ref v, .int a, .int b, .int c] n h (qP n (fRetract ρ a b c).1 (fun h' => xfr v (v + 112) h h' ∧ isVM h' v (fRetract ρ a b c).2 ν κ cnt D fo rq tr)) := by
  have p0 := p.1
  obtain ⟨⟨f, r0, r1⟩, r2⟩ := p.2.1
  refine XM.of rfl (Nat.le_of_ble_eq_true rfl) ?_
  have bad : fRetract ρ a b c = (nI 0, ρ) → XW (x_rm d 0 0) k_VM_retract L xs (x_mq 0 0 (qP n (fRetract ρ a b c).1 (fun h' => xfr v (v + 112) h h' ∧ isVM h' v (fRetract ρ a b c).2 ν κ cnt D fo rq tr))) 0 0 26 [] [] n h := by
    intro e
    rw [e]
    refine xr_iconst a_VM_retract_26 (v := nI 0) (by decide +kernel) ?_
    refine xr_ireturn a_VM_retract_27 rfl rfl (by omega) (by omega) ?_
    exact ⟨rfl, rfl, xfr.rf, p⟩
  refine xr_iload_n a_VM_retract_0 rfl ?_
  refine xr_iconst a_VM_retract_1 (v := nI 4) (by decide +kernel) ?_
  refine xr_invS a_VM_retract_2 (t_isBelow (d := 0)) rfl rfl (by omega) (by omega) (by omega) (Nat.le_of_ble_eq_true rfl) ?_
  rintro _ _ h1 ⟨rfl, rfl, rfl⟩
  refine xn_if_eq a_VM_retract_5 (vB_lt31 _) (fun b5 => xr_ls [] trivial (bad (vIf_f fun z => vB_0 b5 z))) (fun b5 => ?_)
  have i1 : inB a 4 := vB_1 b5
  obtain ⟨r, hr, rfl⟩ := inB_ex (by omega) i1
  have e1 : cl (nI r) = r := cl_nI (by omega)
  have cP := t_Relation_takeOut (d := 1) (L := L) (xs := xs) (n := n) (x := b) (y := c) (r2 r hr) (hR.1 r hr).1 (by omega)
  have eF : fRetract ρ (nI r) b c = (match vFd (ρ r).1 (ρ r).2.1 (ρ r).2.2.1 b c with | none => (nI 0, ρ) | some j => (nI 1, va_up ρ r ((ρ r).1 - 1, va_up (ρ r).2.1 j ((ρ r).2.1 ((ρ r).1 - 1)), va_up (ρ r).2.2.1 j ((ρ r).2.2.1 ((ρ r).1 - 1)), (ρ r).2.2.2.1, (ρ r).2.2.2.2))) := by
    unfold fRetract
    rw [e1]
    exact vIf_t i1
  refine xr_aload_n a_VM_retract_8 rfl ?_
  apply xr_getf a_VM_retract_9
  · (repeat' (first | assumption | exact va_up_self _ _ _ | refine x_lk (by omega) ?_))
  · rfl
  refine xr_iload_n a_VM_retract_12 rfl ?_
  apply xn_aaload a_VM_retract_13
  · (repeat' (first | assumption | exact va_up_self _ _ _ | refine x_lk (by omega) ?_))
  · rfl
  · omega
  · omega
  · exact r1 r hr
  refine xr_iload_n a_VM_retract_14 rfl ?_
  refine xr_iload_n a_VM_retract_15 rfl ?_
  refine xr_invV a_VM_retract_16 (by exact (r2 r hr).1) (cP) rfl rfl (by omega) (by omega) (by omega) (Nat.le_of_ble_eq_true rfl) ?_
  rintro _ _ h1 ⟨rfl, rfl, f1, q1, q2⟩
  refine xn_if_eq a_VM_retract_19 (vB_lt31 _) (fun b19 => ?_) (fun b19 => ?_)
  · have e : vFd (ρ r).1 (ρ r).2.1 (ρ r).2.2.1 b c = none := Classical.byContradiction (vB_0 b19)
    have q3 := q1 e
    subst q3
    exact xr_ls [] trivial (bad (by rw [eF, e]))
  · obtain ⟨j, hj⟩ := Option.ne_none_iff_exists'.mp (vB_1 b19)
    rw [eF, hj]
    refine xr_iconst a_VM_retract_22 (v := nI 1) (by decide +kernel) ?_
    refine xr_goto a_VM_retract_23 ?_
    refine xr_ireturn a_VM_retract_27 rfl rfl (by omega) (by omega) ?_
    exact ⟨rfl, rfl, f1.mo (by omega) (by omega), p.rel (f1.mo (by omega) (by omega)) (p.2.1.one (by omega) hr f1 (x := (_, _, _, _, _)) (q2 j hj))⟩
theorem t_VM_allow {a b : Int32} (p : isVM h v ρ ν κ cnt D fo rq tr) (hd : 1 ≤ d) : XM d 0 0 k_VM_allow L xs [.ref v, .int a, .int b] n h (qP n (fAllow ρ a b).1 (fun h' => xfr v (v + 112) h h' ∧ isVM h' v (fAllow ρ a b).2 ν κ cnt D fo rq tr)) := by
  have p0 := p.1
  obtain ⟨⟨f, r0, r1⟩, r2⟩ := p.2.1
  refine XM.of rfl (Nat.le_of_ble_eq_true rfl) ?_
  have bad : fAllow ρ a b = (nI 0, ρ) → XW (x_rm d 0 0) k_VM_allow L xs (x_mq 0 0 (qP n (fAllow ρ a b).1 (fun h' => xfr v (v + 112) h h' ∧ isVM h' v (fAllow ρ a b).2 ν κ cnt D fo rq tr))) 0 0 17 [] [] n h := by
    intro e
    rw [e]
    refine xr_iconst a_VM_allow_17 (v := nI 0) (by decide +kernel) ?_
    refine xr_ireturn a_VM_allow_18 rfl rfl (by omega) (by omega) ?_
    exact ⟨rfl, rfl, xfr.rf, p⟩
  refine xr_iload_n a_VM_allow_0 rfl ?_
  refine xr_iconst a_VM_allow_1 (v := nI 4) (by decide +kernel) ?_
  refine xr_invS a_VM_allow_2 (t_isBelow (d := 0)) rfl rfl (by omega) (by omega) (by omega) (Nat.le_of_ble_eq_true rfl) ?_
  rintro _ _ h1 ⟨rfl, rfl, rfl⟩
  refine xn_if_eq a_VM_allow_5 (vB_lt31 _) (fun b5 => xr_ls [] trivial (bad (vIf_f fun z => vB_0 b5 z.1))) (fun b5 => ?_)
  refine xr_iload_n a_VM_allow_8 rfl ?_
  refine xr_bipush a_VM_allow_9 (v := nI 16) (by decide +kernel) ?_
  refine xr_invS a_VM_allow_11 (t_isBelow (d := 0)) rfl rfl (by omega) (by omega) (by omega) (Nat.le_of_ble_eq_true rfl) ?_
  rintro _ _ h1 ⟨rfl, rfl, rfl⟩
  refine xn_if_ne a_VM_allow_14 (vB_lt31 _) (fun b14 => ?_) (fun b14 => xr_ls [] trivial (bad (vIf_f fun z => vB_0 b14 z.2)))
  have i1 : inB a 4 := vB_1 b5
  have i2 : inB b 16 := vB_1 b14
  have eF : fAllow ρ a b = _ := vIf_t ⟨i1, i2⟩
  obtain ⟨r, hr, rfl⟩ := inB_ex (by omega) i1
  obtain ⟨x, hx, rfl⟩ := inB_ex (by omega) i2
  rw [cl_nI (by omega), cl_nI (by omega)] at eF
  obtain ⟨s0, s1, s2⟩ := r2 r hr
  rw [eF]
  refine xr_aload_n a_VM_allow_19 rfl ?_
  apply xr_getf a_VM_allow_20
  · (repeat' (first | assumption | exact va_up_self _ _ _ | refine x_lk (by omega) ?_))
  · rfl
  refine xr_iload_n a_VM_allow_23 rfl ?_
  apply xn_aaload a_VM_allow_24
  · (repeat' (first | assumption | exact va_up_self _ _ _ | refine x_lk (by omega) ?_))
  · rfl
  · omega
  · omega
  · exact r1 r hr
  refine xr_iload_n a_VM_allow_25 rfl ?_
  apply xr_putf a_VM_allow_26
  · (repeat' (first | assumption | exact va_up_self _ _ _ | refine x_lk (by omega) ?_))
  · exact Nat.le_of_ble_eq_true rfl
  · rfl
  · rfl
  refine xr_iconst a_VM_allow_29 (v := nI 1) (by decide +kernel) ?_
  refine xr_ireturn a_VM_allow_30 rfl rfl (by omega) (by omega) ?_
  exact ⟨rfl, rfl, xfr.up0 (by omega) (by omega), p.rel (xfr.up0 (by omega) (by omega)) (p.2.1.one (by omega) hr (xfr.up0 (by omega) (by omega)) (x := (_, _, _, _, _)) ⟨up_self _ _ _, x_lk (by omega) s1, x_lk (by omega) s2⟩)⟩
theorem t_VM_fail {a b : Int32} (p : isVM h v ρ ν κ cnt D fo rq tr) (hd : 1 ≤ d) : XM d 0 0 k_VM_fail L xs [.ref v, .int a, .int b] n h (qP n (fFail ρ a b).1 (fun h' => xfr v (v + 112) h h' ∧ isVM h' v (fFail ρ a b).2 ν κ cnt D fo rq tr)) := by
  have p0 := p.1
  obtain ⟨⟨f, r0, r1⟩, r2⟩ := p.2.1
  refine XM.of rfl (Nat.le_of_ble_eq_true rfl) ?_
  have bad : fFail ρ a b = (nI 0, ρ) → XW (x_rm d 0 0) k_VM_fail L xs (x_mq 0 0 (qP n (fFail ρ a b).1 (fun h' => xfr v (v + 112) h h' ∧ isVM h' v (fFail ρ a b).2 ν κ cnt D fo rq tr))) 0 0 17 [] [] n h := by
    intro e
    rw [e]
    refine xr_iconst a_VM_fail_17 (v := nI 0) (by decide +kernel) ?_
    refine xr_ireturn a_VM_fail_18 rfl rfl (by omega) (by omega) ?_
    exact ⟨rfl, rfl, xfr.rf, p⟩
  refine xr_iload_n a_VM_fail_0 rfl ?_
  refine xr_iconst a_VM_fail_1 (v := nI 4) (by decide +kernel) ?_
  refine xr_invS a_VM_fail_2 (t_isBelow (d := 0)) rfl rfl (by omega) (by omega) (by omega) (Nat.le_of_ble_eq_true rfl) ?_
  rintro _ _ h1 ⟨rfl, rfl, rfl⟩
  refine xn_if_eq a_VM_fail_5 (vB_lt31 _) (fun b5 => xr_ls [] trivial (bad (vIf_f fun z => vB_0 b5 z.1))) (fun b5 => ?_)
  refine xr_iload_n a_VM_fail_8 rfl ?_
  refine xr_bipush a_VM_fail_9 (v := nI 10) (by decide +kernel) ?_
  refine xr_invS a_VM_fail_11 (t_isBelow (d := 0)) rfl rfl (by omega) (by omega) (by omega) (Nat.le_of_ble_eq_true rfl) ?_
  rintro _ _ h1 ⟨rfl, rfl, rfl⟩
  refine xn_if_ne a_VM_fail_14 (vB_lt31 _) (fun b14 => ?_) (fun b14 => xr_ls [] trivial (bad (vIf_f fun z => vB_0 b14 z.2)))
  have i1 : inB a 4 := vB_1 b5
  have i2 : inB b 10 := vB_1 b14
  have eF : fFail ρ a b = _ := vIf_t ⟨i1, i2⟩
  obtain ⟨r, hr, rfl⟩ := inB_ex (by omega) i1
  obtain ⟨x, hx, rfl⟩ := inB_ex (by omega) i2
  rw [cl_nI (by omega), cl_nI (by omega)] at eF
  obtain ⟨s0, s1, s2⟩ := r2 r hr
  rw [eF]
  refine xr_aload_n a_VM_fail_19 rfl ?_
  apply xr_getf a_VM_fail_20
  · (repeat' (first | assumption | exact va_up_self _ _ _ | refine x_lk (by omega) ?_))
  · rfl
  refine xr_iload_n a_VM_fail_23 rfl ?_
  apply xn_aaload a_VM_fail_24
  · (repeat' (first | assumption | exact va_up_self _ _ _ | refine x_lk (by omega) ?_))
  · rfl
  · omega
  · omega
  · exact r1 r hr
  refine xr_iload_n a_VM_fail_25 rfl ?_
  apply xr_putf a_VM_fail_26
  · (repeat' (first | assumption | exact va_up_self _ _ _ | refine x_lk (by omega) ?_))
  · exact Nat.le_of_ble_eq_true rfl
  · rfl
  · rfl
  refine xr_iconst a_VM_fail_29 (v := nI 1) (by decide +kernel) ?_
  refine xr_ireturn a_VM_fail_30 rfl rfl (by omega) (by omega) ?_
  exact ⟨rfl, rfl, xfr.up0 (by omega) (by omega), p.rel (xfr.up0 (by omega) (by omega)) (p.2.1.one (by omega) hr (xfr.up0 (by omega) (by omega)) (x := (_, _, _, _, _)) ⟨up_self _ _ _, x_lk (by omega) s1, x_lk (by omega) s2⟩)⟩
theorem t_VM_failures {a : Int32} (p : isVM h v ρ ν κ cnt D fo rq tr) (hd : 1 ≤ d) : XM d 0 0 k_VM_failures L xs [.ref v, .int a] n h (qR n h (fFailures ρ a)) := by
  have p0 := p.1
  obtain ⟨⟨f, r0, r1⟩, r2⟩ := p.2.1
  refine XM.of rfl (Nat.le_of_ble_eq_true rfl) ?_
  refine xr_iload_n a_VM_failures_0 rfl ?_
  refine xr_iconst a_VM_failures_1 (v := nI 4) (by decide +kernel) ?_
  refine xr_invS a_VM_failures_2 (t_isBelow (d := 0)) rfl rfl (by omega) (by omega) (by omega) (Nat.le_of_ble_eq_true rfl) ?_
  rintro _ _ h1 ⟨rfl, rfl, rfl⟩
  refine xn_if_eq a_VM_failures_5 (vB_lt31 _) (fun b5 => ?_) (fun b5 => ?_)
  · refine xr_iconst a_VM_failures_20 (v := -1) (by decide +kernel) ?_
    refine xr_ireturn a_VM_failures_21 rfl rfl (by omega) (by omega) ?_
    exact ⟨congrArg (fun x => some (Value.int x)) (vIf_f fun z => vB_0 b5 z).symm, rfl, rfl⟩
  · have i1 : inB a 4 := vB_1 b5
    have eF : fFailures ρ a = _ := vIf_t i1
    obtain ⟨r, hr, rfl⟩ := inB_ex (by omega) i1
    rw [cl_nI (by omega)] at eF
    obtain ⟨s0, s1, s2⟩ := r2 r hr
    rw [eF]
    refine xr_aload_n a_VM_failures_8 rfl ?_
    apply xr_getf a_VM_failures_9
    · (repeat' (first | assumption | exact va_up_self _ _ _ | refine x_lk (by omega) ?_))
    · rfl
    refine xr_iload_n a_VM_failures_12 rfl ?_
    apply xn_aaload a_VM_failures_13
    · (repeat' (first | assumption | exact va_up_self _ _ _ | refine x_lk (by omega) ?_))
    · rfl
    · omega
    · omega
    · exact r1 r hr
    apply xr_getf a_VM_failures_14
    · (repeat' (first | assumption | exact va_up_self _ _ _ | refine x_lk (by omega) ?_))
    · rfl
    refine xr_goto a_VM_failures_17 ?_
    refine xr_ireturn a_VM_failures_21 rfl rfl (by omega) (by omega) ?_
    exact ⟨rfl, rfl, rfl⟩
end T41

