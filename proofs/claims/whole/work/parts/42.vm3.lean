/-! ViewMediator: the calls on views and query, what is read -/
section T42
variable {d L : Nat} {xs : Nat → Int32} {n : Nat} {h : xH} {v : Nat} {ρ : Nat → vRel} {ν : Nat → vVw} {κ : vAL} {cnt : Nat} {D : Nat → vPd} {fo : Nat → Bool} {rq tr : Nat}
theorem t_VM_rule {a : Int32} (p : isVM h v ρ ν κ cnt D fo rq tr) (hV : vSV ν) (hd : 2 ≤ d) : XM d 0 0 k_VM_rule L xs [.ref v, .int a] n h (qP n (fRule ν a).1 (fun h' => xfr v (v + 112) h h' ∧ isVM h' v ρ (fRule ν a).2 κ cnt D fo rq tr)) := by
  have p0 := p.1
  obtain ⟨⟨f, r0, r1⟩, r2⟩ := p.2.2.1
  refine XM.of rfl (Nat.le_of_ble_eq_true rfl) ?_
  refine xr_iload_n a_VM_rule_0 rfl ?_
  refine xr_iconst a_VM_rule_1 (v := nI 3) (by decide +kernel) ?_
  refine xr_invS a_VM_rule_2 (t_isBelow (d := 0)) rfl rfl (by omega) (by omega) (by omega) (Nat.le_of_ble_eq_true rfl) ?_
  rintro _ _ h1 ⟨rfl, rfl, rfl⟩
  refine xn_if_eq a_VM_rule_5 (vB_lt31 _) (fun b5 => ?_) (fun b5 => ?_)
  · have eF : fRule ν a = _ := vIf_f fun z => vB_0 b5 z.1
    rw [eF]
    refine xr_iconst a_VM_rule_20 (v := -1) (by decide +kernel) ?_
    refine xr_ireturn a_VM_rule_21 rfl rfl (by omega) (by omega) ?_
    exact ⟨rfl, rfl, xfr.rf, p⟩
  · have i1 : inB a 3 := vB_1 b5
    obtain ⟨i, hi, rfl⟩ := inB_ex (by omega) i1
    obtain ⟨fv, w0⟩ := r2 i hi
    have cB := t_View_beginRule (d := 1) (L := L) (xs := xs) (n := n) w0 (hV.1 i hi).1 (by omega)
    refine xr_aload_n a_VM_rule_8 rfl ?_
    apply xr_getf a_VM_rule_9
    · (repeat' (first | assumption | exact va_up_self _ _ _ | refine x_lk (by omega) ?_))
    · rfl
    refine xr_iload_n a_VM_rule_12 rfl ?_
    apply xn_aaload a_VM_rule_13
    · (repeat' (first | assumption | exact va_up_self _ _ _ | refine x_lk (by omega) ?_))
    · rfl
    · omega
    · omega
    · exact r1 i hi
    refine xr_invV a_VM_rule_14 (by exact w0.1) (cB) rfl rfl (by omega) (by omega) (by omega) (Nat.le_of_ble_eq_true rfl) ?_
    rintro _ _ h1 ⟨rfl, rfl, f1, q1⟩
    by_cases e : (ν i).1 < 2
    · have eF : fRule ν (nI i) = _ := vIf_t ⟨i1, by rw [cl_nI (by omega)]; exact e⟩
      rw [cl_nI (by omega)] at eF
      rw [if_pos e] at q1
      rw [eF, if_pos e]
      refine xr_goto a_VM_rule_17 ?_
      refine xr_ireturn a_VM_rule_21 rfl rfl (by omega) (by omega) ?_
      exact ⟨rfl, rfl, f1.mo (by omega) (by omega), p.vw (f1.mo (by omega) (by omega)) (p.2.2.1.one (by omega) hi f1 (x := (_, _)) q1)⟩
    · have eF : fRule ν (nI i) = _ := vIf_f fun z => e (by rw [cl_nI (by omega)] at z; exact z.2)
      rw [if_neg e] at q1
      subst q1
      rw [eF, if_neg e]
      refine xr_goto a_VM_rule_17 ?_
      refine xr_ireturn a_VM_rule_21 rfl rfl (by omega) (by omega) ?_
      exact ⟨rfl, rfl, xfr.rf, p⟩
theorem t_VM_forget {a : Int32} (p : isVM h v ρ ν κ cnt D fo rq tr) (hd : 1 ≤ d) : XM d 0 0 k_VM_forget L xs [.ref v, .int a] n h (qP n (fForget ν a).1 (fun h' => xfr v (v + 112) h h' ∧ isVM h' v ρ (fForget ν a).2 κ cnt D fo rq tr)) := by
  have p0 := p.1
  obtain ⟨⟨f, r0, r1⟩, r2⟩ := p.2.2.1
  refine XM.of rfl (Nat.le_of_ble_eq_true rfl) ?_
  refine xr_iload_n a_VM_forget_0 rfl ?_
  refine xr_iconst a_VM_forget_1 (v := nI 3) (by decide +kernel) ?_
  refine xr_invS a_VM_forget_2 (t_isBelow (d := 0)) rfl rfl (by omega) (by omega) (by omega) (Nat.le_of_ble_eq_true rfl) ?_
  rintro _ _ h1 ⟨rfl, rfl, rfl⟩
  refine xn_if_eq a_VM_forget_5 (vB_lt31 _) (fun b5 => ?_) (fun b5 => ?_)
  · have eF : fForget ν a = _ := vIf_f fun z => vB_0 b5 z
    rw [eF]
    refine xr_iconst a_VM_forget_20 (v := -1) (by decide +kernel) ?_
    refine xr_ireturn a_VM_forget_21 rfl rfl (by omega) (by omega) ?_
    exact ⟨rfl, rfl, xfr.rf, p⟩
  · have i1 : inB a 3 := vB_1 b5
    have eF : fForget ν a = _ := vIf_t i1
    obtain ⟨i, hi, rfl⟩ := inB_ex (by omega) i1
    rw [cl_nI (by omega)] at eF
    obtain ⟨fv, w0⟩ := r2 i hi
    have cB := t_View_takeRulesOut (d := 0) (L := L) (xs := xs) (n := n) w0
    rw [eF]
    refine xr_aload_n a_VM_forget_8 rfl ?_
    apply xr_getf a_VM_forget_9
    · (repeat' (first | assumption | exact va_up_self _ _ _ | refine x_lk (by omega) ?_))
    · rfl
    refine xr_iload_n a_VM_forget_12 rfl ?_
    apply xn_aaload a_VM_forget_13
    · (repeat' (first | assumption | exact va_up_self _ _ _ | refine x_lk (by omega) ?_))
    · rfl
    · omega
    · omega
    · exact r1 i hi
    refine xr_invV a_VM_forget_14 (by exact w0.1) (cB) rfl rfl (by omega) (by omega) (by omega) (Nat.le_of_ble_eq_true rfl) ?_
    rintro _ _ h1 ⟨rfl, rfl, f1, q1⟩
    refine xr_goto a_VM_forget_17 ?_
    refine xr_ireturn a_VM_forget_21 rfl rfl (by omega) (by omega) ?_
    exact ⟨rfl, rfl, f1.mo (by omega) (by omega), p.vw (f1.mo (by omega) (by omega)) (p.2.2.1.one (by omega) hi f1 (x := (_, _)) q1)⟩
theorem t_VM_atom {a b c e : Int32} (p : isVM h v ρ ν κ cnt D fo rq tr) (hV : vSV ν) (hd : 3 ≤ d) : XM d 0 0 k_VM_atom L xs [.ref v, .int a, .int b, .int c, .int e] n h (qP n (fAtom ν a b c e).1 (fun h' => xfr v (v + 112) h h' ∧ isVM h' v ρ (fAtom ν a b c e).2 κ cnt D fo rq tr)) := by
  have p0 := p.1
  obtain ⟨⟨f, r0, r1⟩, r2⟩ := p.2.2.1
  refine XM.of rfl (Nat.le_of_ble_eq_true rfl) ?_
  have bad : fAtom ν a b c e = (nI 0, ν) → XW (x_rm d 0 0) k_VM_atom L xs (x_mq 0 0 (qP n (fAtom ν a b c e).1 (fun h' => xfr v (v + 112) h h' ∧ isVM h' v ρ (fAtom ν a b c e).2 κ cnt D fo rq tr))) 0 0 55 [] [] n h := by
    intro e
    rw [e]
    refine xr_iconst a_VM_atom_55 (v := nI 0) (by decide +kernel) ?_
    refine xr_ireturn a_VM_atom_56 rfl rfl (by omega) (by omega) ?_
    exact ⟨rfl, rfl, xfr.rf, p⟩
  refine xr_iload_n a_VM_atom_0 rfl ?_
  refine xr_iconst a_VM_atom_1 (v := nI 3) (by decide +kernel) ?_
  refine xr_invS a_VM_atom_2 (t_isBelow (d := 0)) rfl rfl (by omega) (by omega) (by omega) (Nat.le_of_ble_eq_true rfl) ?_
  rintro _ _ h1 ⟨rfl, rfl, rfl⟩
  refine xn_if_eq a_VM_atom_5 (vB_lt31 _) (fun b5 => xr_ls [] trivial (bad (vIf_f fun z => vB_0 b5 z.1))) (fun b5 => ?_)
  refine xr_iload_n a_VM_atom_8 rfl ?_
  refine xr_iconst a_VM_atom_9 (v := nI 4) (by decide +kernel) ?_
  refine xr_invS a_VM_atom_10 (t_isBelow (d := 0)) rfl rfl (by omega) (by omega) (by omega) (Nat.le_of_ble_eq_true rfl) ?_
  rintro _ _ h1 ⟨rfl, rfl, rfl⟩
  refine xn_if_eq a_VM_atom_13 (vB_lt31 _) (fun b13 => xr_ls [] trivial (bad (vIf_f fun z => vB_0 b13 z.2.1))) (fun b13 => ?_)
  refine xr_iload_n a_VM_atom_16 rfl ?_
  refine xr_bipush a_VM_atom_17 (v := nI 22) (by decide +kernel) ?_
  refine xr_invS a_VM_atom_19 (t_isBelow (d := 0)) rfl rfl (by omega) (by omega) (by omega) (Nat.le_of_ble_eq_true rfl) ?_
  rintro _ _ h1 ⟨rfl, rfl, rfl⟩
  refine xn_if_eq a_VM_atom_22 (vB_lt31 _) (fun b22 => xr_ls [] trivial (bad (vIf_f fun z => vB_0 b22 z.2.2.1))) (fun b22 => ?_)
  refine xr_iload a_VM_atom_25 rfl ?_
  refine xr_bipush a_VM_atom_27 (v := nI 22) (by decide +kernel) ?_
  refine xr_invS a_VM_atom_29 (t_isBelow (d := 0)) rfl rfl (by omega) (by omega) (by omega) (Nat.le_of_ble_eq_true rfl) ?_
  rintro _ _ h1 ⟨rfl, rfl, rfl⟩
  refine xn_if_eq a_VM_atom_32 (vB_lt31 _) (fun b32 => xr_ls [] trivial (bad (vIf_f fun z => vB_0 b32 z.2.2.2.1))) (fun b32 => ?_)
  have i1 : inB a 3 := vB_1 b5
  have i2 : inB b 4 := vB_1 b13
  have i3 : inB c 22 := vB_1 b22
  have i4 : inB e 22 := vB_1 b32
  obtain ⟨i, hi, rfl⟩ := inB_ex (by omega) i1
  obtain ⟨x, hx, rfl⟩ := inB_ex (by omega) i2
  obtain ⟨y, hy, rfl⟩ := inB_ex (by omega) i3
  obtain ⟨z, hz, rfl⟩ := inB_ex (by omega) i4
  have e1 : cl (nI i) = i := cl_nI (by omega)
  obtain ⟨fv, w0⟩ := r2 i hi
  have cB := t_View_addAtom (d := 2) (L := L) (xs := xs) (n := n) (a := x) (b := y) (c := z) w0 (hV.1 i hi).1 (fun j hj => ((hV.1 i hi).2 j hj).1) (by omega)
  refine xr_aload_n a_VM_atom_35 rfl ?_
  apply xr_getf a_VM_atom_36
  · (repeat' (first | assumption | exact va_up_self _ _ _ | refine x_lk (by omega) ?_))
  · rfl
  refine xr_iload_n a_VM_atom_39 rfl ?_
  apply xn_aaload a_VM_atom_40
  · (repeat' (first | assumption | exact va_up_self _ _ _ | refine x_lk (by omega) ?_))
  · rfl
  · omega
  · omega
  · exact r1 i hi
  refine xr_iload_n a_VM_atom_41 rfl ?_
  refine xr_iload_n a_VM_atom_42 rfl ?_
  refine xr_iload a_VM_atom_43 rfl ?_
  refine xr_invV a_VM_atom_45 (by exact w0.1) (cB) rfl rfl (by omega) (by omega) (by omega) (Nat.le_of_ble_eq_true rfl) ?_
  rintro _ _ h1 ⟨rfl, rfl, f1, q1⟩
  refine xn_if_eq a_VM_atom_48 (vB_lt31 _) (fun b48 => ?_) (fun b48 => ?_)
  · have en := vB_0 b48
    rw [if_neg en] at q1
    subst q1
    refine xr_ls [] trivial (bad (vIf_f fun z => en ?_))
    rw [e1] at z
    exact z.2.2.2.2
  · have ey := vB_1 b48
    rw [if_pos ey] at q1
    have eF : fAtom ν (nI i) (nI x) (nI y) (nI z) = _ := vIf_t ⟨i1, i2, i3, i4, by rw [e1]; exact ey⟩
    rw [e1, cl_nI (by omega), cl_nI (by omega), cl_nI (by omega)] at eF
    rw [eF]
    refine xr_iconst a_VM_atom_51 (v := nI 1) (by decide +kernel) ?_
    refine xr_goto a_VM_atom_52 ?_
    refine xr_ireturn a_VM_atom_56 rfl rfl (by omega) (by omega) ?_
    exact ⟨rfl, rfl, f1.mo (by omega) (by omega), p.vw (f1.mo (by omega) (by omega)) (p.2.2.1.one (by omega) hi f1 (x := (_, _)) q1)⟩
theorem t_VM_ask {a b c : Int32} (p : isVM h v ρ ν κ cnt D fo rq tr) (hk : κ.1 ≤ 3) (hd : 2 ≤ d) : XM d 0 0 k_VM_ask L xs [.ref v, .int a, .int b, .int c] n h (qP n (fAsk κ a b c).1 (fun h' => xfr v (v + 112) h h' ∧ isVM h' v ρ ν (fAsk κ a b c).2 cnt D fo rq tr)) := by
  have p0 := p.1
  have pq := p.2.2.2.1
  have pq0 := pq.1
  refine XM.of rfl (Nat.le_of_ble_eq_true rfl) ?_
  have bad : fAsk κ a b c = (nI 0, κ) → XW (x_rm d 0 0) k_VM_ask L xs (x_mq 0 0 (qP n (fAsk κ a b c).1 (fun h' => xfr v (v + 112) h h' ∧ isVM h' v ρ ν (fAsk κ a b c).2 cnt D fo rq tr))) 0 0 43 [] [] n h := by
    intro e
    rw [e]
    refine xr_iconst a_VM_ask_43 (v := nI 0) (by decide +kernel) ?_
    refine xr_ireturn a_VM_ask_44 rfl rfl (by omega) (by omega) ?_
    exact ⟨rfl, rfl, xfr.rf, p⟩
  refine xr_iload_n a_VM_ask_0 rfl ?_
  refine xr_iconst a_VM_ask_1 (v := nI 3) (by decide +kernel) ?_
  refine xr_invS a_VM_ask_2 (t_isBelow (d := 0)) rfl rfl (by omega) (by omega) (by omega) (Nat.le_of_ble_eq_true rfl) ?_
  rintro _ _ h1 ⟨rfl, rfl, rfl⟩
  refine xn_if_eq a_VM_ask_5 (vB_lt31 _) (fun b5 => xr_ls [] trivial (bad (vIf_f fun z => vB_0 b5 z.1))) (fun b5 => ?_)
  refine xr_iload_n a_VM_ask_8 rfl ?_
  refine xr_bipush a_VM_ask_9 (v := nI 22) (by decide +kernel) ?_
  refine xr_invS a_VM_ask_11 (t_isBelow (d := 0)) rfl rfl (by omega) (by omega) (by omega) (Nat.le_of_ble_eq_true rfl) ?_
  rintro _ _ h1 ⟨rfl, rfl, rfl⟩
  refine xn_if_eq a_VM_ask_14 (vB_lt31 _) (fun b14 => xr_ls [] trivial (bad (vIf_f fun z => vB_0 b14 z.2.1))) (fun b14 => ?_)
  refine xr_iload_n a_VM_ask_17 rfl ?_
  refine xr_bipush a_VM_ask_18 (v := nI 22) (by decide +kernel) ?_
  refine xr_invS a_VM_ask_20 (t_isBelow (d := 0)) rfl rfl (by omega) (by omega) (by omega) (Nat.le_of_ble_eq_true rfl) ?_
  rintro _ _ h1 ⟨rfl, rfl, rfl⟩
  refine xn_if_eq a_VM_ask_23 (vB_lt31 _) (fun b23 => xr_ls [] trivial (bad (vIf_f fun z => vB_0 b23 z.2.2.1))) (fun b23 => ?_)
  have i1 : inB a 3 := vB_1 b5
  have i2 : inB b 22 := vB_1 b14
  have i3 : inB c 22 := vB_1 b23
  obtain ⟨x, hx, rfl⟩ := inB_ex (by omega) i1
  obtain ⟨y, hy, rfl⟩ := inB_ex (by omega) i2
  obtain ⟨z, hz, rfl⟩ := inB_ex (by omega) i3
  have cB := t_AtomList_add (d := 1) (L := L) (xs := xs) (n := n) (a := x) (b := y) (c := z) pq hk (by omega) (by omega)
  refine xr_aload_n a_VM_ask_26 rfl ?_
  apply xr_getf a_VM_ask_27
  · (repeat' (first | assumption | exact va_up_self _ _ _ | refine x_lk (by omega) ?_))
  · rfl
  refine xr_iload_n a_VM_ask_30 rfl ?_
  refine xr_iload_n a_VM_ask_31 rfl ?_
  refine xr_iload_n a_VM_ask_32 rfl ?_
  refine xr_invV a_VM_ask_33 (by (repeat' (first | assumption | exact va_up_self _ _ _ | refine x_lk (by omega) ?_))) (cB) rfl rfl (by omega) (by omega) (by omega) (Nat.le_of_ble_eq_true rfl) ?_
  rintro _ _ h1 ⟨rfl, rfl, f1, q1⟩
  refine xn_if_eq a_VM_ask_36 (vB_lt31 _) (fun b36 => ?_) (fun b36 => ?_)
  · have en := vB_0 b36
    rw [if_neg en] at q1
    subst q1
    exact xr_ls [] trivial (bad (vIf_f fun z => en z.2.2.2))
  · have ey := vB_1 b36
    rw [if_pos ey] at q1
    have eF : fAsk κ (nI x) (nI y) (nI z) = _ := vIf_t ⟨i1, i2, i3, ey⟩
    rw [cl_nI (by omega), cl_nI (by omega), cl_nI (by omega)] at eF
    rw [eF]
    refine xr_iconst a_VM_ask_39 (v := nI 1) (by decide +kernel) ?_
    refine xr_goto a_VM_ask_40 ?_
    refine xr_ireturn a_VM_ask_44 rfl rfl (by omega) (by omega) ?_
    exact ⟨rfl, rfl, f1.mo (by omega) (by omega), p.qu f1 q1⟩
theorem t_VM_clear (p : isVM h v ρ ν κ cnt D fo rq tr) (hd : 1 ≤ d) : XM d 0 0 k_VM_clear L xs [.ref v] n h (qV n (fun h' => xfr v (v + 112) h h' ∧ isVM h' v ρ ν (0, κ.2) cnt D fo rq tr)) := by
  have p0 := p.1
  have pq := p.2.2.2.1
  have pq0 := pq.1
  refine XM.of rfl (Nat.le_of_ble_eq_true rfl) ?_
  refine xr_aload_n a_VM_clear_0 rfl ?_
  apply xr_getf a_VM_clear_1
  · (repeat' (first | assumption | exact va_up_self _ _ _ | refine x_lk (by omega) ?_))
  · rfl
  refine xr_invV a_VM_clear_4 (by (repeat' (first | assumption | exact va_up_self _ _ _ | refine x_lk (by omega) ?_))) (t_AtomList_makeEmpty (d := 0) pq) rfl rfl (by omega) (by omega) (by omega) (Nat.le_of_ble_eq_true rfl) ?_
  rintro _ _ h1 ⟨rfl, rfl, f1, q1⟩
  refine xr_return a_VM_clear_7 rfl (by omega) (by omega) ?_
  exact ⟨rfl, rfl, f1.mo (by omega) (by omega), p.qu f1 (κ' := (0, κ.2)) q1⟩
theorem t_VM_disjuncts (p : isVM h v ρ ν κ cnt D fo rq tr) : XM d 0 0 k_VM_disjuncts L xs [.ref v] n h (qR n h (nI cnt)) := by
  have p0 := p.1
  obtain ⟨π, ch, D0, pp, pq⟩ := p.2.2.2.2.1
  have g0 := pp.1
  refine XM.of rfl (Nat.le_of_ble_eq_true rfl) ?_
  refine xr_aload_n a_VM_disjuncts_0 rfl ?_
  apply xr_getf a_VM_disjuncts_1
  · (repeat' (first | assumption | exact va_up_self _ _ _ | refine x_lk (by omega) ?_))
  · rfl
  apply xr_getf a_VM_disjuncts_4
  · (repeat' (first | assumption | exact va_up_self _ _ _ | refine x_lk (by omega) ?_))
  · rfl
  refine xr_ireturn a_VM_disjuncts_7 rfl rfl (by omega) (by omega) ?_
  exact ⟨rfl, rfl, rfl⟩
theorem t_VM_requests (p : isVM h v ρ ν κ cnt D fo rq tr) : XM d 0 0 k_VM_requests L xs [.ref v] n h (qR n h (nI rq)) := by
  have p0 := p.1
  obtain ⟨rc, R, Mf, Mm, lu, vr, vd, g, fr, pa, -⟩ := p.2.2.2.2.2
  have g0 := pa.1
  refine XM.of rfl (Nat.le_of_ble_eq_true rfl) ?_
  refine xr_aload_n a_VM_requests_0 rfl ?_
  apply xr_getf a_VM_requests_1
  · (repeat' (first | assumption | exact va_up_self _ _ _ | refine x_lk (by omega) ?_))
  · rfl
  apply xr_getf a_VM_requests_4
  · (repeat' (first | assumption | exact va_up_self _ _ _ | refine x_lk (by omega) ?_))
  · rfl
  refine xr_ireturn a_VM_requests_7 rfl rfl (by omega) (by omega) ?_
  exact ⟨rfl, rfl, rfl⟩
theorem t_VM_tries (p : isVM h v ρ ν κ cnt D fo rq tr) : XM d 0 0 k_VM_tries L xs [.ref v] n h (qR n h (nI tr)) := by
  have p0 := p.1
  obtain ⟨rc, R, Mf, Mm, lu, vr, vd, g, fr, pa, -⟩ := p.2.2.2.2.2
  have g0 := pa.1
  refine XM.of rfl (Nat.le_of_ble_eq_true rfl) ?_
  refine xr_aload_n a_VM_tries_0 rfl ?_
  apply xr_getf a_VM_tries_1
  · (repeat' (first | assumption | exact va_up_self _ _ _ | refine x_lk (by omega) ?_))
  · rfl
  apply xr_getf a_VM_tries_4
  · (repeat' (first | assumption | exact va_up_self _ _ _ | refine x_lk (by omega) ?_))
  · rfl
  refine xr_ireturn a_VM_tries_7 rfl rfl (by omega) (by omega) ?_
  exact ⟨rfl, rfl, rfl⟩
theorem vCnt_ex {p : Nat → Bool} {i : Nat} : ∀ {N : Nat}, i < vCnt p N → ∃ k, k < N ∧ p k = true ∧ vCnt p k = i
  | 0, h => by cases h
  | N + 1, h => by
    by_cases e : i < vCnt p N
    · obtain ⟨k, h1, h2, h3⟩ := vCnt_ex e
      exact ⟨k, by omega, h2, h3⟩
    · have h' : i < vCnt p N + (p N).toNat := h
      have hp : p N = true := by
        cases z : p N with
        | true => rfl
        | false => rw [z] at h'; exact absurd h' e
      rw [hp] at h'
      have : vCnt p N = i := by
        have : (true : Bool).toNat = 1 := rfl
        omega
      exact ⟨N, by omega, hp, this⟩
theorem vNth_at {fo : Nat → Bool} {k : Nat} (hk : k < 256) (hf : fo k = true) : vNth fo (vCnt fo k) = k := by
  unfold vNth
  cases h : rF (fun j => fo j && vCnt fo j == vCnt fo k) 0 256 with
  | none =>
    have := rF_none.mp h k (Nat.zero_le _) (by omega)
    simp [hf] at this
  | some j =>
    obtain ⟨-, h2, h3, -⟩ := rF_some h
    rw [Bool.and_eq_true] at h3
    have e : vCnt fo j = vCnt fo k := by simpa using h3.2
    show j = k
    by_cases h4 : j < k
    · have := vCnt_lt h3.1 h4; omega
    · by_cases h5 : k < j
      · have := vCnt_lt hf h5; omega
      · omega
theorem t_VM_result {a : Int32} (p : isVM h v ρ ν κ cnt D fo rq tr) (hd : 1 ≤ d) : XM d 0 0 k_VM_result L xs [.ref v, .int a] n h (qR n h (fResult fo a)) := by
  have p0 := p.1
  obtain ⟨rc, R, Mf, Mm, lu, vr, vd, g, fr, pa, e1, e2⟩ := p.2.2.2.2.2
  obtain ⟨g0, g1, -, -, -, -⟩ := pa
  have h256 := vCnt_le fo 256
  refine XM.of rfl (Nat.le_of_ble_eq_true rfl) ?_
  refine xr_iload_n a_VM_result_0 rfl ?_
  refine xr_aload_n a_VM_result_1 rfl ?_
  apply xr_getf a_VM_result_2
  · (repeat' (first | assumption | exact va_up_self _ _ _ | refine x_lk (by omega) ?_))
  · rfl
  apply xr_getf a_VM_result_5
  · (repeat' (first | assumption | exact va_up_self _ _ _ | refine x_lk (by omega) ?_))
  · rfl
  refine xr_invS a_VM_result_8 (t_isBelow (d := 0)) rfl rfl (by omega) (by omega) (by omega) (Nat.le_of_ble_eq_true rfl) ?_
  rintro _ _ h1 ⟨rfl, rfl, rfl⟩
  refine xn_if_eq a_VM_result_11 (vB_lt31 _) (fun b11 => ?_) (fun b11 => ?_)
  · refine xr_iconst a_VM_result_26 (v := -1) (by decide +kernel) ?_
    refine xr_ireturn a_VM_result_27 rfl rfl (by omega) (by omega) ?_
    refine ⟨congrArg (fun x => some (Value.int x)) (vIf_f fun z => vB_0 b11 ?_).symm, rfl, rfl⟩
    rw [e1]
    exact z
  · have i1 : inB a (vCnt fo 256) := by
      have := vB_1 b11
      rw [e1] at this
      exact this
    have eF : fResult fo a = _ := vIf_t i1
    obtain ⟨i, hi, rfl⟩ := inB_ex (by omega) i1
    obtain ⟨k, k1, k2, rfl⟩ := vCnt_ex hi
    rw [cl_nI (by omega), vNth_at k1 k2] at eF
    rw [eF]
    refine xr_aload_n a_VM_result_14 rfl ?_
    apply xr_getf a_VM_result_15
    · (repeat' (first | assumption | exact va_up_self _ _ _ | refine x_lk (by omega) ?_))
    · rfl
    apply xr_getf a_VM_result_18
    · (repeat' (first | assumption | exact va_up_self _ _ _ | refine x_lk (by omega) ?_))
    · rfl
    refine xr_iload_n a_VM_result_21 rfl ?_
    apply xn_iaload a_VM_result_22
    · (repeat' (first | assumption | exact va_up_self _ _ _ | refine x_lk (by omega) ?_))
    · omega
    · omega
    refine xr_goto a_VM_result_23 ?_
    refine xr_ireturn a_VM_result_27 rfl rfl (by omega) (by omega) ?_
    refine ⟨?_, rfl, rfl⟩
    rw [e2 k k1 k2]
theorem t_VM_size {a : Int32} (p : isVM h v ρ ν κ cnt D fo rq tr) (hc : cnt ≤ 8) (hd : 1 ≤ d) : XM d 0 0 k_VM_size L xs [.ref v, .int a] n h (qR n h (fSize cnt D a)) := by
  have p0 := p.1
  obtain ⟨π, ch, D0, pp, pq⟩ := p.2.2.2.2.1
  obtain ⟨g0, ⟨e', g1, g2⟩, g3, g4, g5, g6⟩ := pp
  refine XM.of rfl (Nat.le_of_ble_eq_true rfl) ?_
  refine xr_iload_n a_VM_size_0 rfl ?_
  refine xr_aload_n a_VM_size_1 rfl ?_
  apply xr_getf a_VM_size_2
  · (repeat' (first | assumption | exact va_up_self _ _ _ | refine x_lk (by omega) ?_))
  · rfl
  apply xr_getf a_VM_size_5
  · (repeat' (first | assumption | exact va_up_self _ _ _ | refine x_lk (by omega) ?_))
  · rfl
  refine xr_invS a_VM_size_8 (t_isBelow (d := 0)) rfl rfl (by omega) (by omega) (by omega) (Nat.le_of_ble_eq_true rfl) ?_
  rintro _ _ h1 ⟨rfl, rfl, rfl⟩
  refine xn_if_eq a_VM_size_11 (vB_lt31 _) (fun b11 => ?_) (fun b11 => ?_)
  · refine xr_iconst a_VM_size_32 (v := -1) (by decide +kernel) ?_
    refine xr_ireturn a_VM_size_33 rfl rfl (by omega) (by omega) ?_
    exact ⟨congrArg (fun x => some (Value.int x)) (vIf_f fun z => vB_0 b11 z).symm, rfl, rfl⟩
  · have i1 : inB a cnt := vB_1 b11
    have eF : fSize cnt D a = _ := vIf_t i1
    obtain ⟨i, hi, rfl⟩ := inB_ex (by omega) i1
    rw [cl_nI (by omega)] at eF
    obtain ⟨H, F, S, ⟨d0, ⟨a0, a1, a2, a3⟩, d2⟩, d3⟩ := g6 i (by omega)
    rw [(pq i hi).1] at a0
    rw [eF]
    refine xr_aload_n a_VM_size_14 rfl ?_
    apply xr_getf a_VM_size_15
    · (repeat' (first | assumption | exact va_up_self _ _ _ | refine x_lk (by omega) ?_))
    · rfl
    apply xr_getf a_VM_size_18
    · (repeat' (first | assumption | exact va_up_self _ _ _ | refine x_lk (by omega) ?_))
    · rfl
    refine xr_iload_n a_VM_size_21 rfl ?_
    apply xn_aaload a_VM_size_22
    · (repeat' (first | assumption | exact va_up_self _ _ _ | refine x_lk (by omega) ?_))
    · rfl
    · omega
    · omega
    · exact g2 i (by omega)
    apply xr_getf a_VM_size_23
    · (repeat' (first | assumption | exact va_up_self _ _ _ | refine x_lk (by omega) ?_))
    · rfl
    apply xr_getf a_VM_size_26
    · (repeat' (first | assumption | exact va_up_self _ _ _ | refine x_lk (by omega) ?_))
    · rfl
    refine xr_goto a_VM_size_29 ?_
    refine xr_ireturn a_VM_size_33 rfl rfl (by omega) (by omega) ?_
    exact ⟨rfl, rfl, rfl⟩
theorem t_VM_atomAt {a b : Int32} (p : isVM h v ρ ν κ cnt D fo rq tr) (hc : cnt ≤ 8) (hl : ∀ i, i < cnt → (D i).1.length ≤ 6) (hd : 2 ≤ d) : XM d 0 0 k_VM_atomAt L xs [.ref v, .int a, .int b] n h (qR n h (fAtomAt cnt D a b)) := by
  have p0 := p.1
  have cS := t_VM_size (d := 1) (L := L) (xs := xs) (n := n) (a := a) p hc (by omega)
  obtain ⟨π, ch, D0, pp, pq⟩ := p.2.2.2.2.1
  obtain ⟨g0, ⟨e', g1, g2⟩, g3, g4, g5, g6⟩ := pp
  refine XM.of rfl (Nat.le_of_ble_eq_true rfl) ?_
  refine xr_iload_n a_VM_atomAt_0 rfl ?_
  refine xr_aload_n a_VM_atomAt_1 rfl ?_
  refine xr_iload_n a_VM_atomAt_2 rfl ?_
  refine xr_invV a_VM_atomAt_3 (by (repeat' (first | assumption | exact va_up_self _ _ _ | refine x_lk (by omega) ?_))) (cS) rfl rfl (by omega) (by omega) (by omega) (Nat.le_of_ble_eq_true rfl) ?_
  rintro _ _ h1 ⟨rfl, rfl, rfl⟩
  refine xr_invS a_VM_atomAt_6 (t_isBelow (d := 0)) rfl rfl (by omega) (by omega) (by omega) (Nat.le_of_ble_eq_true rfl) ?_
  rintro _ _ h1 ⟨rfl, rfl, rfl⟩
  refine xn_if_eq a_VM_atomAt_9 (vB_lt31 _) (fun b9 => ?_) (fun b9 => ?_)
  · refine xr_iconst a_VM_atomAt_31 (v := -1) (by decide +kernel) ?_
    refine xr_ireturn a_VM_atomAt_32 rfl rfl (by omega) (by omega) ?_
    refine ⟨congrArg (fun x => some (Value.int x)) (vIf_f fun z => vB_0 b9 ?_).symm, rfl, rfl⟩
    rw [show fSize cnt D a = _ from vIf_t z.1]
    exact z.2
  · have i0 := vB_1 b9
    have i1 : inB a cnt := Classical.byContradiction fun z => by
      rw [show fSize cnt D a = _ from vIf_f z] at i0
      have h1 := i0.1
      have h2 := i0.2
      rw [Int32.le_iff_toInt_le] at h1
      rw [Int32.lt_iff_toInt_lt] at h2
      have e1 : (0 : Int32).toInt = 0 := by decide
      have e2 : (-1 : Int32).toInt = -1 := by decide
      omega
    rw [show fSize cnt D a = _ from vIf_t i1] at i0
    have i2 : inB b (D (cl a)).1.length := i0
    have eF : fAtomAt cnt D a b = _ := vIf_t ⟨i1, i2⟩
    obtain ⟨i, hi, rfl⟩ := inB_ex (by omega) i1
    rw [cl_nI (by omega)] at eF i2
    have hl6 := hl i hi
    obtain ⟨j, hj, rfl⟩ := inB_ex (by omega) i2
    rw [cl_nI (by omega)] at eF
    obtain ⟨H, F, S, ⟨d0, dA, d2⟩, d3⟩ := g6 i (by omega)
    rw [(pq i hi).1] at d3
    have a0 := dA.1
    rw [d3.vat hj] at eF
    rw [eF]
    refine xr_aload_n a_VM_atomAt_12 rfl ?_
    apply xr_getf a_VM_atomAt_13
    · (repeat' (first | assumption | exact va_up_self _ _ _ | refine x_lk (by omega) ?_))
    · rfl
    apply xr_getf a_VM_atomAt_16
    · (repeat' (first | assumption | exact va_up_self _ _ _ | refine x_lk (by omega) ?_))
    · rfl
    refine xr_iload_n a_VM_atomAt_19 rfl ?_
    apply xn_aaload a_VM_atomAt_20
    · (repeat' (first | assumption | exact va_up_self _ _ _ | refine x_lk (by omega) ?_))
    · rfl
    · omega
    · omega
    · exact g2 i (by omega)
    apply xr_getf a_VM_atomAt_21
    · (repeat' (first | assumption | exact va_up_self _ _ _ | refine x_lk (by omega) ?_))
    · rfl
    refine xr_iload_n a_VM_atomAt_24 rfl ?_
    refine xr_invV a_VM_atomAt_25 (by (repeat' (first | assumption | exact va_up_self _ _ _ | refine x_lk (by omega) ?_))) (t_AtomList_codeAt (d := 0) (i := j) dA (by omega) (by omega)) rfl rfl (by omega) (by omega) (by omega) (Nat.le_of_ble_eq_true rfl) ?_
    rintro _ _ h1 ⟨rfl, rfl, rfl⟩
    refine xr_goto a_VM_atomAt_28 ?_
    refine xr_ireturn a_VM_atomAt_32 rfl rfl (by omega) (by omega) ?_
    exact ⟨rfl, rfl, rfl⟩
theorem t_VM_patternAt {a b : Int32} (p : isVM h v ρ ν κ cnt D fo rq tr) (hc : cnt ≤ 8) (hl : ∀ i, i < cnt → (D i).1.length ≤ 6) (hd : 2 ≤ d) : XM d 0 0 k_VM_patternAt L xs [.ref v, .int a, .int b] n h (qR n h (fPatternAt cnt D a b)) := by
  have p0 := p.1
  have cS := t_VM_size (d := 1) (L := L) (xs := xs) (n := n) (a := a) p hc (by omega)
  obtain ⟨π, ch, D0, pp, pq⟩ := p.2.2.2.2.1
  obtain ⟨g0, ⟨e', g1, g2⟩, g3, g4, g5, g6⟩ := pp
  refine XM.of rfl (Nat.le_of_ble_eq_true rfl) ?_
  refine xr_iload_n a_VM_patternAt_0 rfl ?_
  refine xr_aload_n a_VM_patternAt_1 rfl ?_
  refine xr_iload_n a_VM_patternAt_2 rfl ?_
  refine xr_invV a_VM_patternAt_3 (by (repeat' (first | assumption | exact va_up_self _ _ _ | refine x_lk (by omega) ?_))) (cS) rfl rfl (by omega) (by omega) (by omega) (Nat.le_of_ble_eq_true rfl) ?_
  rintro _ _ h1 ⟨rfl, rfl, rfl⟩
  refine xr_invS a_VM_patternAt_6 (t_isBelow (d := 0)) rfl rfl (by omega) (by omega) (by omega) (Nat.le_of_ble_eq_true rfl) ?_
  rintro _ _ h1 ⟨rfl, rfl, rfl⟩
  refine xn_if_eq a_VM_patternAt_9 (vB_lt31 _) (fun b9 => ?_) (fun b9 => ?_)
  · refine xr_iconst a_VM_patternAt_29 (v := -1) (by decide +kernel) ?_
    refine xr_ireturn a_VM_patternAt_30 rfl rfl (by omega) (by omega) ?_
    refine ⟨congrArg (fun x => some (Value.int x)) (vIf_f fun z => vB_0 b9 ?_).symm, rfl, rfl⟩
    rw [show fSize cnt D a = _ from vIf_t z.1]
    exact z.2
  · have i0 := vB_1 b9
    have i1 : inB a cnt := Classical.byContradiction fun z => by
      rw [show fSize cnt D a = _ from vIf_f z] at i0
      have h1 := i0.1
      have h2 := i0.2
      rw [Int32.le_iff_toInt_le] at h1
      rw [Int32.lt_iff_toInt_lt] at h2
      have e1 : (0 : Int32).toInt = 0 := by decide
      have e2 : (-1 : Int32).toInt = -1 := by decide
      omega
    rw [show fSize cnt D a = _ from vIf_t i1] at i0
    have i2 : inB b (D (cl a)).1.length := i0
    have eF : fPatternAt cnt D a b = _ := vIf_t ⟨i1, i2⟩
    obtain ⟨i, hi, rfl⟩ := inB_ex (by omega) i1
    rw [cl_nI (by omega)] at eF i2
    have hl6 := hl i hi
    obtain ⟨j, hj, rfl⟩ := inB_ex (by omega) i2
    rw [cl_nI (by omega)] at eF
    obtain ⟨H, F, S, ⟨d0, dA, d2⟩, d3⟩ := g6 i (by omega)
    rw [eF]
    refine xr_aload_n a_VM_patternAt_12 rfl ?_
    apply xr_getf a_VM_patternAt_13
    · (repeat' (first | assumption | exact va_up_self _ _ _ | refine x_lk (by omega) ?_))
    · rfl
    apply xr_getf a_VM_patternAt_16
    · (repeat' (first | assumption | exact va_up_self _ _ _ | refine x_lk (by omega) ?_))
    · rfl
    refine xr_iload_n a_VM_patternAt_19 rfl ?_
    apply xn_aaload a_VM_patternAt_20
    · (repeat' (first | assumption | exact va_up_self _ _ _ | refine x_lk (by omega) ?_))
    · rfl
    · omega
    · omega
    · exact g2 i (by omega)
    apply xr_getf a_VM_patternAt_21
    · (repeat' (first | assumption | exact va_up_self _ _ _ | refine x_lk (by omega) ?_))
    · rfl
    refine xr_iload_n a_VM_patternAt_24 rfl ?_
    apply xo_iaload a_VM_patternAt_25
    · (repeat' (first | assumption | exact va_up_self _ _ _ | refine x_lk (by omega) ?_))
    · omega
    · omega
    rw [(pq i hi).2 j (by omega)]
    refine xr_goto a_VM_patternAt_26 ?_
    refine xr_ireturn a_VM_patternAt_30 rfl rfl (by omega) (by omega) ?_
    exact ⟨rfl, rfl, rfl⟩
end T42

