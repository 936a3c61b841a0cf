/-! the reference: the calls on views and query, what is read -/
theorem isMo.vw {h h' : xH} {m : Nat} {ρ : Nat → vRel} {ν ν' : Nat → vVw} {κ : vAL} {cnt : Nat} {D : Nat → vPd} {fo : Nat → Bool} {rq tr : Nat} (p : isMo h m ρ ν κ cnt D fo rq tr) (q : xfr (m + 6) (m + 11) h h') (z : moV h' m ν') : isMo h' m ρ ν' κ cnt D fo rq tr := by
  obtain ⟨⟨st, ne, p0⟩, p1, p2, p3, p4, p5, p6⟩ := p
  exact ⟨⟨st, ne, q.get (by omega) p0⟩, p1.sm (q.sm (by omega)), z, p3.sm (q.sm (by omega)), p4.sm (q.sm (by omega)), p5.sm (q.sm (by omega)), p6.sm (q.sm (by omega))⟩
section T53
variable {d L : Nat} {xs : Nat → Int32} {n : Nat} {h : xH} {m : Nat} {ρ : Nat → vRel} {ν : Nat → vVw} {κ : vAL} {cnt : Nat} {D : Nat → vPd} {fo : Nat → Bool} {rq tr : Nat}
theorem t_Mod_rule {a : Int32} (p : isMo h m ρ ν κ cnt D fo rq tr) (hV : vSV ν) (hd : 1 ≤ d) : XM d 0 0 k_Mod_rule L xs [.ref m, .int a] n h (qP n (fRule ν a).1 (fun h' => xfr m (m + 25) h h' ∧ isMo h' m ρ (fRule ν a).2 κ cnt D fo rq tr)) := by
  have p' := p
  obtain ⟨⟨st, ne, p0⟩, -, ⟨ru, na, aR, aA, aB, c1, c2, c3, c4, c5, c6⟩, -, -, -, -⟩ := p'
  refine XM.of rfl (Nat.le_of_ble_eq_true rfl) ?_
  have bad : fRule ν a = (-1, ν) → XW (x_rm d 0 0) k_Mod_rule L xs (x_mq 0 0 (qP n (fRule ν a).1 (fun h' => xfr m (m + 25) h h' ∧ isMo h' m ρ (fRule ν a).2 κ cnt D fo rq tr))) 0 0 17 [] [] n h := by
    intro e
    rw [e]
    refine xr_iconst a_Mod_rule_17 (v := -1) (by decide +kernel) ?_
    refine xr_ireturn a_Mod_rule_18 rfl rfl (by omega) (by omega) ?_
    exact ⟨rfl, rfl, xfr.rf, p⟩
  refine xr_iload_n a_Mod_rule_0 rfl ?_
  refine xr_invS a_Mod_rule_1 (t_Mod_viewOk (d := 0)) rfl rfl (by omega) (by omega) (by omega) (Nat.le_of_ble_eq_true rfl) ?_
  rintro _ _ h1 ⟨rfl, rfl, rfl⟩
  refine xn_if_eq a_Mod_rule_4 (vB_lt31 _) (fun b4 => xr_ls [] trivial (bad (vIf_f fun z => vB_0 b4 z.1))) (fun b4 => ?_)
  have i1 : inB a 3 := vB_1 b4
  obtain ⟨v, hv, rfl⟩ := inB_ex (by omega) i1
  have e1 : cl (nI v) = v := cl_nI (by omega)
  obtain ⟨w1, w2⟩ := c6 v hv
  have h2 := (hV.1 v hv).1
  refine xr_aload_n a_Mod_rule_7 rfl ?_
  apply xr_getf a_Mod_rule_8
  · (repeat' (first | assumption | exact va_up_self _ _ _ | refine x_lk (by omega) ?_))
  · rfl
  refine xr_iload_n a_Mod_rule_11 rfl ?_
  apply xn_iaload a_Mod_rule_12
  · (repeat' (first | assumption | exact va_up_self _ _ _ | refine x_lk (by omega) ?_))
  · omega
  · omega
  refine xr_iconst a_Mod_rule_13 (v := nI 2) (by decide +kernel) ?_
  refine xn_icmp_ne a_Mod_rule_14 (by omega) (by omega) (fun b14 => ?_) (fun b14 => ?_)
  · have eF : fRule ν (nI v) = _ := vIf_t ⟨i1, by rw [e1]; omega⟩
    rw [e1] at eF
    rw [eF]
    refine xr_aload_n a_Mod_rule_19 rfl ?_
    apply xr_getf a_Mod_rule_20
    · (repeat' (first | assumption | exact va_up_self _ _ _ | refine x_lk (by omega) ?_))
    · rfl
    refine xr_iconst a_Mod_rule_23 (v := nI 2) (by decide +kernel) ?_
    refine xr_iload_n a_Mod_rule_24 rfl ?_
    first | refine xn_imul a_Mod_rule_25 ?_ | refine xr_imul a_Mod_rule_25 ?_
    refine xr_aload_n a_Mod_rule_26 rfl ?_
    apply xr_getf a_Mod_rule_27
    · (repeat' (first | assumption | exact va_up_self _ _ _ | refine x_lk (by omega) ?_))
    · rfl
    refine xr_iload_n a_Mod_rule_30 rfl ?_
    apply xn_iaload a_Mod_rule_31
    · (repeat' (first | assumption | exact va_up_self _ _ _ | refine x_lk (by omega) ?_))
    · omega
    · omega
    first | refine xn_iadd a_Mod_rule_32 ?_ | refine xr_iadd a_Mod_rule_32 ?_
    refine xr_iconst a_Mod_rule_33 (v := nI 0) (by decide +kernel) ?_
    apply xn_iastore a_Mod_rule_34
    · (repeat' (first | assumption | exact va_up_self _ _ _ | refine x_lk (by omega) ?_))
    · omega
    · omega
    refine xr_aload_n a_Mod_rule_35 rfl ?_
    apply xr_getf a_Mod_rule_36
    · (repeat' (first | assumption | exact va_up_self _ _ _ | refine x_lk (by omega) ?_))
    · rfl
    refine xr_iload_n a_Mod_rule_39 rfl ?_
    refine xr_dup2 a_Mod_rule_40 rfl rfl ?_
    apply xn_iaload a_Mod_rule_41
    · (repeat' (first | assumption | exact va_up_self _ _ _ | refine x_lk (by omega) ?_))
    · omega
    · omega
    refine xr_iconst a_Mod_rule_42 (v := nI 1) (by decide +kernel) ?_
    first | refine xn_iadd a_Mod_rule_43 ?_ | refine xr_iadd a_Mod_rule_43 ?_
    apply xn_iastore a_Mod_rule_44
    · (repeat' (first | assumption | exact va_up_self _ _ _ | refine x_lk (by omega) ?_))
    · omega
    · omega
    refine xr_aload_n a_Mod_rule_45 rfl ?_
    apply xr_getf a_Mod_rule_46
    · (repeat' (first | assumption | exact va_up_self _ _ _ | refine x_lk (by omega) ?_))
    · rfl
    refine xr_iload_n a_Mod_rule_49 rfl ?_
    apply xn_iaload a_Mod_rule_50
    · (repeat' (first | assumption | exact va_up_self _ _ _ | refine x_lk (by omega) ?_))
    · omega
    · omega
    rw [up_self]
    refine xr_iconst a_Mod_rule_51 (v := nI 1) (by decide +kernel) ?_
    first | refine xn_isub a_Mod_rule_52 (by omega) ?_ | refine xr_isub a_Mod_rule_52 ?_
    refine xr_ireturn a_Mod_rule_53 rfl rfl (by omega) (by omega) ?_
    refine ⟨by rw [Nat.add_sub_cancel, w1], rfl, ?_, p.vw ?_ ⟨va_up ru v (ru v + 1), va_up na (2 * v + ru v) 0, aR, aA, aB, by (repeat' (first | assumption | exact va_up_self _ _ _ | refine x_lk (by omega) ?_)), by (repeat' (first | assumption | exact va_up_self _ _ _ | refine x_lk (by omega) ?_)), by (repeat' (first | assumption | exact va_up_self _ _ _ | refine x_lk (by omega) ?_)), by (repeat' (first | assumption | exact va_up_self _ _ _ | refine x_lk (by omega) ?_)), by (repeat' (first | assumption | exact va_up_self _ _ _ | refine x_lk (by omega) ?_)), fun v' hv' => ?_⟩⟩
    · repeat' (first | exact xfr.rf | refine xfr.up ?_ (by omega) (by omega))
    · repeat' (first | exact xfr.rf | refine xfr.up ?_ (by omega) (by omega))
    · obtain ⟨y1, y2⟩ := c6 v' hv'
      dsimp only
      by_cases e : v' = v
      · subst e
        rw [up_self, up_self]
        refine ⟨by rw [w1], fun i hi => ?_⟩
        obtain ⟨y3, y4⟩ := y2 i hi
        dsimp only
        by_cases ei : i = (ν v').1
        · rw [ei, w1, up_self, up_self]
          rw [ei] at y4
          exact ⟨rfl, y4⟩
        · rw [up_ne ei, up_ne (by omega)]
          exact ⟨y3, y4⟩
      · rw [up_ne e, up_ne e]
        refine ⟨y1, fun i hi => ?_⟩
        rw [up_ne (by omega)]
        exact y2 i hi
  · refine xr_ls [] trivial (bad (vIf_f fun z => ?_))
    rw [e1] at z
    have := z.2
    omega
theorem t_Mod_forget {a : Int32} (p : isMo h m ρ ν κ cnt D fo rq tr) (hd : 1 ≤ d) : XM d 0 0 k_Mod_forget L xs [.ref m, .int a] n h (qP n (fForget ν a).1 (fun h' => xfr m (m + 25) h h' ∧ isMo h' m ρ (fForget ν a).2 κ cnt D fo rq tr)) := by
  have p' := p
  obtain ⟨⟨st, ne, p0⟩, -, ⟨ru, na, aR, aA, aB, c1, c2, c3, c4, c5, c6⟩, -, -, -, -⟩ := p'
  refine XM.of rfl (Nat.le_of_ble_eq_true rfl) ?_
  refine xr_iload_n a_Mod_forget_0 rfl ?_
  refine xr_invS a_Mod_forget_1 (t_Mod_viewOk (d := 0)) rfl rfl (by omega) (by omega) (by omega) (Nat.le_of_ble_eq_true rfl) ?_
  rintro _ _ h1 ⟨rfl, rfl, rfl⟩
  refine xn_if_ne a_Mod_forget_4 (vB_lt31 _) (fun b4 => ?_) (fun b4 => ?_)
  · have i1 : inB a 3 := vB_1 b4
    have eF : fForget ν a = _ := vIf_t i1
    obtain ⟨v, hv, rfl⟩ := inB_ex (by omega) i1
    rw [cl_nI (by omega)] at eF
    obtain ⟨w1, w2⟩ := c6 v hv
    rw [eF]
    refine xr_aload_n a_Mod_forget_9 rfl ?_
    apply xr_getf a_Mod_forget_10
    · (repeat' (first | assumption | exact va_up_self _ _ _ | refine x_lk (by omega) ?_))
    · rfl
    refine xr_iload_n a_Mod_forget_13 rfl ?_
    apply xn_iaload a_Mod_forget_14
    · (repeat' (first | assumption | exact va_up_self _ _ _ | refine x_lk (by omega) ?_))
    · omega
    · omega
    refine xr_istore_n a_Mod_forget_15 (by decide) rfl ?_
    refine xr_aload_n a_Mod_forget_16 rfl ?_
    apply xr_getf a_Mod_forget_17
    · (repeat' (first | assumption | exact va_up_self _ _ _ | refine x_lk (by omega) ?_))
    · rfl
    refine xr_iload_n a_Mod_forget_20 rfl ?_
    refine xr_iconst a_Mod_forget_21 (v := nI 0) (by decide +kernel) ?_
    apply xn_iastore a_Mod_forget_22
    · (repeat' (first | assumption | exact va_up_self _ _ _ | refine x_lk (by omega) ?_))
    · omega
    · omega
    refine xr_iload_n a_Mod_forget_23 rfl ?_
    refine xr_ireturn a_Mod_forget_24 rfl rfl (by omega) (by omega) ?_
    refine ⟨by rw [w1], rfl, xfr.up0 (by omega) (by omega), p.vw (xfr.up0 (by omega) (by omega)) ⟨va_up ru v 0, na, aR, aA, aB, by (repeat' (first | assumption | exact va_up_self _ _ _ | refine x_lk (by omega) ?_)), by (repeat' (first | assumption | exact va_up_self _ _ _ | refine x_lk (by omega) ?_)), by (repeat' (first | assumption | exact va_up_self _ _ _ | refine x_lk (by omega) ?_)), by (repeat' (first | assumption | exact va_up_self _ _ _ | refine x_lk (by omega) ?_)), by (repeat' (first | assumption | exact va_up_self _ _ _ | refine x_lk (by omega) ?_)), fun v' hv' => ?_⟩⟩
    obtain ⟨y1, y2⟩ := c6 v' hv'
    dsimp only
    by_cases e : v' = v
    · subst e
      rw [up_self, up_self]
      exact ⟨rfl, y2⟩
    · rw [up_ne e, up_ne e]
      exact ⟨y1, y2⟩
  · have eF : fForget ν a = _ := vIf_f (vB_0 b4)
    rw [eF]
    refine xr_iconst a_Mod_forget_7 (v := -1) (by decide +kernel) ?_
    refine xr_ireturn a_Mod_forget_8 rfl rfl (by omega) (by omega) ?_
    exact ⟨rfl, rfl, xfr.rf, p⟩
theorem t_Mod_atom {a b c e : Int32} (p : isMo h m ρ ν κ cnt D fo rq tr) (hV : vSV ν) (hd : 1 ≤ d) : XM d 0 0 k_Mod_atom L xs [.ref m, .int a, .int b, .int c, .int e] n h (qP n (fAtom ν a b c e).1 (fun h' => xfr m (m + 25) h h' ∧ isMo h' m ρ (fAtom ν a b c e).2 κ cnt D fo rq tr)) := by
  have p' := p
  obtain ⟨⟨st, ne, p0⟩, -, ⟨ru, na, aR, aA, aB, c1, c2, c3, c4, c5, c6⟩, -, -, -, -⟩ := p'
  refine XM.of rfl (Nat.le_of_ble_eq_true rfl) ?_
  have bad : fAtom ν a b c e = (nI 0, ν) → XW (x_rm d 0 0) k_Mod_atom L xs (x_mq 0 0 (qP n (fAtom ν a b c e).1 (fun h' => xfr m (m + 25) h h' ∧ isMo h' m ρ (fAtom ν a b c e).2 κ cnt D fo rq tr))) 0 0 38 [] [] n h := by
    intro e
    rw [e]
    refine xr_iconst a_Mod_atom_38 (v := nI 0) (by decide +kernel) ?_
    refine xr_ireturn a_Mod_atom_39 rfl rfl (by omega) (by omega) ?_
    exact ⟨rfl, rfl, xfr.rf, p⟩
  refine xr_iload_n a_Mod_atom_0 rfl ?_
  refine xr_invS a_Mod_atom_1 (t_Mod_viewOk (d := 0)) rfl rfl (by omega) (by omega) (by omega) (Nat.le_of_ble_eq_true rfl) ?_
  rintro _ _ h1 ⟨rfl, rfl, rfl⟩
  refine xn_if_eq a_Mod_atom_4 (vB_lt31 _) (fun b4 => xr_ls [] trivial (bad (vIf_f fun z => vB_0 b4 z.1))) (fun b4 => ?_)
  have i1 : inB a 3 := vB_1 b4
  obtain ⟨v, hv, rfl⟩ := inB_ex (by omega) i1
  have e1 : cl (nI v) = v := cl_nI (by omega)
  obtain ⟨w1, w2⟩ := c6 v hv
  have h2 := (hV.1 v hv).1
  refine xr_aload_n a_Mod_atom_7 rfl ?_
  apply xr_getf a_Mod_atom_8
  · (repeat' (first | assumption | exact va_up_self _ _ _ | refine x_lk (by omega) ?_))
  · rfl
  refine xr_iload_n a_Mod_atom_11 rfl ?_
  apply xn_iaload a_Mod_atom_12
  · (repeat' (first | assumption | exact va_up_self _ _ _ | refine x_lk (by omega) ?_))
  · omega
  · omega
  refine xn_if_eq a_Mod_atom_13 (by omega) (fun b13 => ?_) (fun b13 => ?_)
  · refine xr_ls [] trivial (bad (vIf_f fun z => ?_))
    rw [e1] at z
    have := z.2.2.2.2.1
    omega
  · refine xr_iload_n a_Mod_atom_16 rfl ?_
    refine xr_invS a_Mod_atom_17 (t_Mod_relationOk (d := 0)) rfl rfl (by omega) (by omega) (by omega) (Nat.le_of_ble_eq_true rfl) ?_
    rintro _ _ h1 ⟨rfl, rfl, rfl⟩
    refine xn_if_eq a_Mod_atom_20 (vB_lt31 _) (fun b20 => xr_ls [] trivial (bad (vIf_f fun z => vB_0 b20 z.2.1))) (fun b20 => ?_)
    refine xr_iload_n a_Mod_atom_23 rfl ?_
    refine xr_invS a_Mod_atom_24 (t_Mod_term (d := 0)) rfl rfl (by omega) (by omega) (by omega) (Nat.le_of_ble_eq_true rfl) ?_
    rintro _ _ h1 ⟨rfl, rfl, rfl⟩
    refine xn_if_eq a_Mod_atom_27 (vB_lt31 _) (fun b27 => xr_ls [] trivial (bad (vIf_f fun z => vB_0 b27 z.2.2.1))) (fun b27 => ?_)
    refine xr_iload a_Mod_atom_30 rfl ?_
    refine xr_invS a_Mod_atom_32 (t_Mod_term (d := 0)) rfl rfl (by omega) (by omega) (by omega) (Nat.le_of_ble_eq_true rfl) ?_
    rintro _ _ h1 ⟨rfl, rfl, rfl⟩
    refine xn_if_ne a_Mod_atom_35 (vB_lt31 _) (fun b35 => ?_) (fun b35 => xr_ls [] trivial (bad (vIf_f fun z => vB_0 b35 z.2.2.2.1)))
    have i2 : inB b 4 := vB_1 b20
    have i3 : inB c 22 := vB_1 b27
    have i4 : inB e 22 := vB_1 b35
    obtain ⟨x, hx, rfl⟩ := inB_ex (by omega) i2
    obtain ⟨y, hy, rfl⟩ := inB_ex (by omega) i3
    obtain ⟨z, hz, rfl⟩ := inB_ex (by omega) i4
    obtain ⟨j, hj⟩ : ∃ j, ru v = j + 1 := ⟨ru v - 1, by omega⟩
    have hj2 : j < 2 := by omega
    obtain ⟨u1, u2⟩ := w2 j hj2
    have hn := ((hV.1 v hv).2 j (by omega)).1
    have ej : (ν v).1 - 1 = j := by omega
    refine xr_iconst a_Mod_atom_40 (v := nI 2) (by decide +kernel) ?_
    refine xr_iload_n a_Mod_atom_41 rfl ?_
    first | refine xn_imul a_Mod_atom_42 ?_ | refine xr_imul a_Mod_atom_42 ?_
    refine xr_aload_n a_Mod_atom_43 rfl ?_
    apply xr_getf a_Mod_atom_44
    · (repeat' (first | assumption | exact va_up_self _ _ _ | refine x_lk (by omega) ?_))
    · rfl
    refine xr_iload_n a_Mod_atom_47 rfl ?_
    apply xn_iaload a_Mod_atom_48
    · (repeat' (first | assumption | exact va_up_self _ _ _ | refine x_lk (by omega) ?_))
    · omega
    · omega
    rw [hj]
    first | refine xn_iadd a_Mod_atom_49 ?_ | refine xr_iadd a_Mod_atom_49 ?_
    refine xr_iconst a_Mod_atom_50 (v := nI 1) (by decide +kernel) ?_
    first | refine xn_isub a_Mod_atom_51 (by omega) ?_ | refine xr_isub a_Mod_atom_51 ?_
    rw [show 2 * v + (j + 1) - 1 = 2 * v + j by omega]
    refine xr_istore a_Mod_atom_52 (by decide) rfl ?_
    refine xr_aload_n a_Mod_atom_54 rfl ?_
    apply xr_getf a_Mod_atom_55
    · (repeat' (first | assumption | exact va_up_self _ _ _ | refine x_lk (by omega) ?_))
    · rfl
    refine xr_iload a_Mod_atom_58 rfl ?_
    apply xn_iaload a_Mod_atom_60
    · (repeat' (first | assumption | exact va_up_self _ _ _ | refine x_lk (by omega) ?_))
    · omega
    · omega
    refine xr_iconst a_Mod_atom_61 (v := nI 2) (by decide +kernel) ?_
    refine xn_icmp_ne a_Mod_atom_62 (by omega) (by omega) (fun b62 => ?_) (fun b62 => ?_)
    · have eF : fAtom ν (nI v) (nI x) (nI y) (nI z) = _ := vIf_t ⟨i1, i2, i3, i4, by rw [e1]; omega, by rw [e1, ej]; omega⟩
      rw [e1, cl_nI (by omega), cl_nI (by omega), cl_nI (by omega), ej] at eF
      rw [eF]
      refine xr_iconst a_Mod_atom_67 (v := nI 2) (by decide +kernel) ?_
      refine xr_iload a_Mod_atom_68 rfl ?_
      first | refine xn_imul a_Mod_atom_70 ?_ | refine xr_imul a_Mod_atom_70 ?_
      refine xr_aload_n a_Mod_atom_71 rfl ?_
      apply xr_getf a_Mod_atom_72
      · (repeat' (first | assumption | exact va_up_self _ _ _ | refine x_lk (by omega) ?_))
      · rfl
      refine xr_iload a_Mod_atom_75 rfl ?_
      apply xn_iaload a_Mod_atom_77
      · (repeat' (first | assumption | exact va_up_self _ _ _ | refine x_lk (by omega) ?_))
      · omega
      · omega
      first | refine xn_iadd a_Mod_atom_78 ?_ | refine xr_iadd a_Mod_atom_78 ?_
      refine xr_istore a_Mod_atom_79 (by decide) rfl ?_
      refine xr_aload_n a_Mod_atom_81 rfl ?_
      apply xr_getf a_Mod_atom_82
      · (repeat' (first | assumption | exact va_up_self _ _ _ | refine x_lk (by omega) ?_))
      · rfl
      refine xr_iload a_Mod_atom_85 rfl ?_
      refine xr_iload_n a_Mod_atom_87 rfl ?_
      apply xn_iastore a_Mod_atom_88
      · (repeat' (first | assumption | exact va_up_self _ _ _ | refine x_lk (by omega) ?_))
      · omega
      · omega
      refine xr_aload_n a_Mod_atom_89 rfl ?_
      apply xr_getf a_Mod_atom_90
      · (repeat' (first | assumption | exact va_up_self _ _ _ | refine x_lk (by omega) ?_))
      · rfl
      refine xr_iload a_Mod_atom_93 rfl ?_
      refine xr_iload_n a_Mod_atom_95 rfl ?_
      apply xn_iastore a_Mod_atom_96
      · (repeat' (first | assumption | exact va_up_self _ _ _ | refine x_lk (by omega) ?_))
      · omega
      · omega
      refine xr_aload_n a_Mod_atom_97 rfl ?_
      apply xr_getf a_Mod_atom_98
      · (repeat' (first | assumption | exact va_up_self _ _ _ | refine x_lk (by omega) ?_))
      · rfl
      refine xr_iload a_Mod_atom_101 rfl ?_
      refine xr_iload a_Mod_atom_103 rfl ?_
      apply xn_iastore a_Mod_atom_105
      · (repeat' (first | assumption | exact va_up_self _ _ _ | refine x_lk (by omega) ?_))
      · omega
      · omega
      refine xr_aload_n a_Mod_atom_106 rfl ?_
      apply xr_getf a_Mod_atom_107
      · (repeat' (first | assumption | exact va_up_self _ _ _ | refine x_lk (by omega) ?_))
      · rfl
      refine xr_iload a_Mod_atom_110 rfl ?_
      refine xr_dup2 a_Mod_atom_112 rfl rfl ?_
      apply xn_iaload a_Mod_atom_113
      · (repeat' (first | assumption | exact va_up_self _ _ _ | refine x_lk (by omega) ?_))
      · omega
      · omega
      refine xr_iconst a_Mod_atom_114 (v := nI 1) (by decide +kernel) ?_
      first | refine xn_iadd a_Mod_atom_115 ?_ | refine xr_iadd a_Mod_atom_115 ?_
      apply xn_iastore a_Mod_atom_116
      · (repeat' (first | assumption | exact va_up_self _ _ _ | refine x_lk (by omega) ?_))
      · omega
      · omega
      refine xr_iconst a_Mod_atom_117 (v := nI 1) (by decide +kernel) ?_
      refine xr_ireturn a_Mod_atom_118 rfl rfl (by omega) (by omega) ?_
      refine ⟨rfl, rfl, ?_, p.vw ?_ ⟨ru, va_up na (2 * v + j) (na (2 * v + j) + 1), va_up aR (2 * (2 * v + j) + na (2 * v + j)) x, va_up aA (2 * (2 * v + j) + na (2 * v + j)) y, va_up aB (2 * (2 * v + j) + na (2 * v + j)) z, by (repeat' (first | assumption | exact va_up_self _ _ _ | refine x_lk (by omega) ?_)), by (repeat' (first | assumption | exact va_up_self _ _ _ | refine x_lk (by omega) ?_)), by (repeat' (first | assumption | exact va_up_self _ _ _ | refine x_lk (by omega) ?_)), by (repeat' (first | assumption | exact va_up_self _ _ _ | refine x_lk (by omega) ?_)), by (repeat' (first | assumption | exact va_up_self _ _ _ | refine x_lk (by omega) ?_)), fun v' hv' => ?_⟩⟩
      · repeat' (first | exact xfr.rf | refine xfr.up ?_ (by omega) (by omega))
      · repeat' (first | exact xfr.rf | refine xfr.up ?_ (by omega) (by omega))
      · obtain ⟨y1, y2⟩ := c6 v' hv'
        dsimp only
        by_cases ev : v' = v
        · subst ev
          rw [up_self]
          refine ⟨y1, fun i hi => ?_⟩
          obtain ⟨y3, y4⟩ := y2 i hi
          dsimp only
          by_cases ei : i = j
          · subst ei
            rw [up_self, up_self]
            unfold vAdA
            refine ⟨by rw [u1], fun k hk => ?_⟩
            dsimp only
            by_cases ek : k = ((ν v').2 i).1
            · rw [ek, u1]
              simp only [up_self]
              exact ⟨trivial, trivial, trivial⟩
            · rw [up_ne ek, up_ne ek, up_ne ek, up_ne (by omega), up_ne (by omega), up_ne (by omega)]
              exact y4 k hk
          · rw [up_ne ei, up_ne (by omega)]
            refine ⟨y3, fun k hk => ?_⟩
            rw [up_ne (by omega), up_ne (by omega), up_ne (by omega)]
            exact y4 k hk
        · rw [up_ne ev]
          refine ⟨y1, fun i hi => ?_⟩
          obtain ⟨y3, y4⟩ := y2 i hi
          rw [up_ne (by omega)]
          refine ⟨y3, fun k hk => ?_⟩
          rw [up_ne (by omega), up_ne (by omega), up_ne (by omega)]
          exact y4 k hk
    · have eF : fAtom ν (nI v) (nI x) (nI y) (nI z) = _ := vIf_f fun q => by
        rw [e1, ej] at q
        have := q.2.2.2.2.2
        omega
      rw [eF]
      refine xr_iconst a_Mod_atom_65 (v := nI 0) (by decide +kernel) ?_
      refine xr_ireturn a_Mod_atom_66 rfl rfl (by omega) (by omega) ?_
      exact ⟨rfl, rfl, xfr.rf, p⟩
theorem t_Mod_ask {a b c : Int32} (p : isMo h m ρ ν κ cnt D fo rq tr) (hk : κ.1 ≤ 3) (hd : 1 ≤ d) : XM d 0 0 k_Mod_ask L xs [.ref m, .int a, .int b, .int c] n h (qP n (fAsk κ a b c).1 (fun h' => xfr m (m + 25) h h' ∧ isMo h' m ρ ν (fAsk κ a b c).2 cnt D fo rq tr)) := by
  have p' := p
  obtain ⟨⟨st, ne, p0⟩, p1, p2, ⟨qV, qA, qB, c1, c2, c3, c4⟩, p4, p5, p6⟩ := p'
  refine XM.of rfl (Nat.le_of_ble_eq_true rfl) ?_
  have bad : fAsk κ a b c = (nI 0, κ) → XW (x_rm d 0 0) k_Mod_ask L xs (x_mq 0 0 (qP n (fAsk κ a b c).1 (fun h' => xfr m (m + 25) h h' ∧ isMo h' m ρ ν (fAsk κ a b c).2 cnt D fo rq tr))) 0 0 29 [] [] n h := by
    intro e
    rw [e]
    refine xr_iconst a_Mod_ask_29 (v := nI 0) (by decide +kernel) ?_
    refine xr_ireturn a_Mod_ask_30 rfl rfl (by omega) (by omega) ?_
    exact ⟨rfl, rfl, xfr.rf, p⟩
  refine xr_aload_n a_Mod_ask_0 rfl ?_
  apply xr_getf a_Mod_ask_1
  · (repeat' (first | assumption | exact va_up_self _ _ _ | refine x_lk (by omega) ?_))
  · rfl
  refine xr_iconst a_Mod_ask_4 (v := nI 3) (by decide +kernel) ?_
  refine xn_icmp_eq a_Mod_ask_5 (by omega) (by omega) (fun b5 => ?_) (fun b5 => ?_)
  · exact xr_ls [] trivial (bad (vIf_f fun z => by have := z.2.2.2; omega))
  · refine xr_iload_n a_Mod_ask_8 rfl ?_
    refine xr_invS a_Mod_ask_9 (t_Mod_viewOk (d := 0)) rfl rfl (by omega) (by omega) (by omega) (Nat.le_of_ble_eq_true rfl) ?_
    rintro _ _ h1 ⟨rfl, rfl, rfl⟩
    refine xn_if_eq a_Mod_ask_12 (vB_lt31 _) (fun b12 => xr_ls [] trivial (bad (vIf_f fun z => vB_0 b12 z.1))) (fun b12 => ?_)
    refine xr_iload_n a_Mod_ask_15 rfl ?_
    refine xr_invS a_Mod_ask_16 (t_Mod_term (d := 0)) rfl rfl (by omega) (by omega) (by omega) (Nat.le_of_ble_eq_true rfl) ?_
    rintro _ _ h1 ⟨rfl, rfl, rfl⟩
    refine xn_if_eq a_Mod_ask_19 (vB_lt31 _) (fun b19 => xr_ls [] trivial (bad (vIf_f fun z => vB_0 b19 z.2.1))) (fun b19 => ?_)
    refine xr_iload_n a_Mod_ask_22 rfl ?_
    refine xr_invS a_Mod_ask_23 (t_Mod_term (d := 0)) rfl rfl (by omega) (by omega) (by omega) (Nat.le_of_ble_eq_true rfl) ?_
    rintro _ _ h1 ⟨rfl, rfl, rfl⟩
    refine xn_if_ne a_Mod_ask_26 (vB_lt31 _) (fun b26 => ?_) (fun b26 => xr_ls [] trivial (bad (vIf_f fun z => vB_0 b26 z.2.2.1)))
    have i1 : inB a 3 := vB_1 b12
    have i2 : inB b 22 := vB_1 b19
    have i3 : inB c 22 := vB_1 b26
    have eF : fAsk κ a b c = _ := vIf_t ⟨i1, i2, i3, by omega⟩
    obtain ⟨x, hx, rfl⟩ := inB_ex (by omega) i1
    obtain ⟨y, hy, rfl⟩ := inB_ex (by omega) i2
    obtain ⟨z, hz, rfl⟩ := inB_ex (by omega) i3
    rw [cl_nI (by omega), cl_nI (by omega), cl_nI (by omega)] at eF
    rw [eF]
    refine xr_aload_n a_Mod_ask_31 rfl ?_
    apply xr_getf a_Mod_ask_32
    · (repeat' (first | assumption | exact va_up_self _ _ _ | refine x_lk (by omega) ?_))
    · rfl
    refine xr_aload_n a_Mod_ask_35 rfl ?_
    apply xr_getf a_Mod_ask_36
    · (repeat' (first | assumption | exact va_up_self _ _ _ | refine x_lk (by omega) ?_))
    · rfl
    refine xr_iload_n a_Mod_ask_39 rfl ?_
    apply xn_iastore a_Mod_ask_40
    · (repeat' (first | assumption | exact va_up_self _ _ _ | refine x_lk (by omega) ?_))
    · omega
    · omega
    refine xr_aload_n a_Mod_ask_41 rfl ?_
    apply xr_getf a_Mod_ask_42
    · (repeat' (first | assumption | exact va_up_self _ _ _ | refine x_lk (by omega) ?_))
    · rfl
    refine xr_aload_n a_Mod_ask_45 rfl ?_
    apply xr_getf a_Mod_ask_46
    · (repeat' (first | assumption | exact va_up_self _ _ _ | refine x_lk (by omega) ?_))
    · rfl
    refine xr_iload_n a_Mod_ask_49 rfl ?_
    apply xn_iastore a_Mod_ask_50
    · (repeat' (first | assumption | exact va_up_self _ _ _ | refine x_lk (by omega) ?_))
    · omega
    · omega
    refine xr_aload_n a_Mod_ask_51 rfl ?_
    apply xr_getf a_Mod_ask_52
    · (repeat' (first | assumption | exact va_up_self _ _ _ | refine x_lk (by omega) ?_))
    · rfl
    refine xr_aload_n a_Mod_ask_55 rfl ?_
    apply xr_getf a_Mod_ask_56
    · (repeat' (first | assumption | exact va_up_self _ _ _ | refine x_lk (by omega) ?_))
    · rfl
    refine xr_iload_n a_Mod_ask_59 rfl ?_
    apply xn_iastore a_Mod_ask_60
    · (repeat' (first | assumption | exact va_up_self _ _ _ | refine x_lk (by omega) ?_))
    · omega
    · omega
    refine xr_aload_n a_Mod_ask_61 rfl ?_
    refine xr_dup a_Mod_ask_62 rfl ?_
    apply xr_getf a_Mod_ask_63
    · (repeat' (first | assumption | exact va_up_self _ _ _ | refine x_lk (by omega) ?_))
    · rfl
    refine xr_iconst a_Mod_ask_66 (v := nI 1) (by decide +kernel) ?_
    first | refine xn_iadd a_Mod_ask_67 ?_ | refine xr_iadd a_Mod_ask_67 ?_
    apply xm_asked a_Mod_ask_68
    · (repeat' (first | assumption | exact va_up_self _ _ _ | refine x_lk (by omega) ?_))
    refine xr_iconst a_Mod_ask_71 (v := nI 1) (by decide +kernel) ?_
    refine xr_ireturn a_Mod_ask_72 rfl rfl (by omega) (by omega) ?_
    refine ⟨rfl, rfl, ?_, ⟨st, ne, up_self _ _ _⟩, (((p1.sm (xsm_up (by omega))).sm (xsm_up (by omega))).sm (xsm_up (by omega))).sm (xsm_up (by omega)), (((p2.sm (xsm_up (by omega))).sm (xsm_up (by omega))).sm (xsm_up (by omega))).sm (xsm_up (by omega)), ⟨va_up qV κ.1 x, va_up qA κ.1 y, va_up qB κ.1 z, by (repeat' (first | assumption | exact va_up_self _ _ _ | refine x_lk (by omega) ?_)), by (repeat' (first | assumption | exact va_up_self _ _ _ | refine x_lk (by omega) ?_)), by (repeat' (first | assumption | exact va_up_self _ _ _ | refine x_lk (by omega) ?_)), fun i hi => ?_⟩, (((p4.sm (xsm_up (by omega))).sm (xsm_up (by omega))).sm (xsm_up (by omega))).sm (xsm_up (by omega)), (((p5.sm (xsm_up (by omega))).sm (xsm_up (by omega))).sm (xsm_up (by omega))).sm (xsm_up (by omega)), (((p6.sm (xsm_up (by omega))).sm (xsm_up (by omega))).sm (xsm_up (by omega))).sm (xsm_up (by omega))⟩
    · repeat' (first | exact xfr.rf | refine xfr.up ?_ (by omega) (by omega))
    · obtain ⟨y1, y2, y3⟩ := c4 i hi
      show va_up qV κ.1 x i = va_up κ.2.1 κ.1 x i ∧ va_up qA κ.1 y i = va_up κ.2.2.1 κ.1 y i ∧ va_up qB κ.1 z i = va_up κ.2.2.2 κ.1 z i
      by_cases e : i = κ.1
      · rw [e]
        simp only [up_self]
        exact ⟨trivial, trivial, trivial⟩
      · rw [up_ne e, up_ne e, up_ne e, up_ne e, up_ne e, up_ne e]
        exact ⟨y1, y2, y3⟩
end T53

