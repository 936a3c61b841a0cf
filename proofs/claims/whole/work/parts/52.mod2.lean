/-! the reference: the calls on relations -/
section T52
variable {d L : Nat} {xs : Nat → Int32} {n : Nat} {h : xH} {m : Nat} {ρ : Nat → vRel} {ν : Nat → vVw} {κ : vAL} {cnt : Nat} {D : Nat → vPd} {fo : Nat → Bool} {rq tr : Nat}
theorem t_Mod_fact {a b c : Int32} (p : isMo h m ρ ν κ cnt D fo rq tr) (hR : vSR ρ) (hd : 1 ≤ d) : XM d 0 0 k_Mod_fact L xs [.ref m, .int a, .int b, .int c] n h (qP n (fFact ρ a b c).1 (fun h' => xfr m (m + 25) h h' ∧ isMo h' m (fFact ρ a b c).2 ν κ cnt D fo rq tr)) := by
  have p' := p
  obtain ⟨⟨st, ne, p0⟩, ⟨rw, rX, rY, pa, fa, c1, c2, c3, c4, c5, c6⟩, -, -, -, -, -⟩ := p'
  refine XM.of rfl (Nat.le_of_ble_eq_true rfl) ?_
  have bad : fFact ρ a b c = (nI 0, ρ) → XW (x_rm d 0 0) k_Mod_fact L xs (x_mq 0 0 (qP n (fFact ρ a b c).1 (fun h' => xfr m (m + 25) h h' ∧ isMo h' m (fFact ρ a b c).2 ν κ cnt D fo rq tr))) 0 0 42 [] [] n h := by
    intro e
    rw [e]
    refine xr_iconst a_Mod_fact_42 (v := nI 0) (by decide +kernel) ?_
    refine xr_ireturn a_Mod_fact_43 rfl rfl (by omega) (by omega) ?_
    exact ⟨rfl, rfl, xfr.rf, p⟩
  refine xr_iload_n a_Mod_fact_0 rfl ?_
  refine xr_invS a_Mod_fact_1 (t_Mod_relationOk (d := 0)) rfl rfl (by omega) (by omega) (by omega) (Nat.le_of_ble_eq_true rfl) ?_
  rintro _ _ h1 ⟨rfl, rfl, rfl⟩
  refine xn_if_eq a_Mod_fact_4 (vB_lt31 _) (fun b4 => xr_ls [] trivial (bad (vIf_f fun z => vB_0 b4 z.1))) (fun b4 => ?_)
  refine xr_iload_n a_Mod_fact_7 rfl ?_
  refine xr_invS a_Mod_fact_8 (t_Mod_value (d := 0)) rfl rfl (by omega) (by omega) (by omega) (Nat.le_of_ble_eq_true rfl) ?_
  rintro _ _ h1 ⟨rfl, rfl, rfl⟩
  refine xn_if_eq a_Mod_fact_11 (vB_lt31 _) (fun b11 => xr_ls [] trivial (bad (vIf_f fun z => vB_0 b11 z.2.1))) (fun b11 => ?_)
  refine xr_iload_n a_Mod_fact_14 rfl ?_
  refine xr_invS a_Mod_fact_15 (t_Mod_value (d := 0)) rfl rfl (by omega) (by omega) (by omega) (Nat.le_of_ble_eq_true rfl) ?_
  rintro _ _ h1 ⟨rfl, rfl, rfl⟩
  refine xn_if_eq a_Mod_fact_18 (vB_lt31 _) (fun b18 => xr_ls [] trivial (bad (vIf_f fun z => vB_0 b18 z.2.2.1))) (fun b18 => ?_)
  have i1 : inB a 4 := vB_1 b4
  have i2 : inB b 16 := vB_1 b11
  have i3 : inB c 16 := vB_1 b18
  obtain ⟨r, hr, rfl⟩ := inB_ex (by omega) i1
  obtain ⟨x, hx, rfl⟩ := inB_ex (by omega) i2
  obtain ⟨y, hy, rfl⟩ := inB_ex (by omega) i3
  have e1 : cl (nI r) = r := cl_nI (by omega)
  obtain ⟨w1, w2, w3, w4⟩ := c6 r hr
  have h8 := (hR.1 r hr).1
  have cR := t_Mod_rowOf (d := 0) (L := L) (xs := xs) (n := n) (x := nI x) (y := nI y) p hr h8
  refine xr_aload_n a_Mod_fact_21 rfl ?_
  apply xr_getf a_Mod_fact_22
  · (repeat' (first | assumption | exact va_up_self _ _ _ | refine x_lk (by omega) ?_))
  · rfl
  refine xr_iload_n a_Mod_fact_25 rfl ?_
  apply xn_iaload a_Mod_fact_26
  · (repeat' (first | assumption | exact va_up_self _ _ _ | refine x_lk (by omega) ?_))
  · omega
  · omega
  refine xr_bipush a_Mod_fact_27 (v := nI 8) (by decide +kernel) ?_
  refine xn_icmp_eq a_Mod_fact_29 (by omega) (by omega) (fun b29 => ?_) (fun b29 => ?_)
  · refine xr_ls [] trivial (bad (vIf_f fun z => ?_))
    rw [e1] at z
    have := z.2.2.2.1
    omega
  · refine xr_aload_n a_Mod_fact_32 rfl ?_
    refine xr_iload_n a_Mod_fact_33 rfl ?_
    refine xr_iload_n a_Mod_fact_34 rfl ?_
    refine xr_iload_n a_Mod_fact_35 rfl ?_
    refine xr_invV a_Mod_fact_36 (by (repeat' (first | assumption | exact va_up_self _ _ _ | refine x_lk (by omega) ?_))) (cR) rfl rfl (by omega) (by omega) (by omega) (Nat.le_of_ble_eq_true rfl) ?_
    rintro _ _ h1 ⟨rfl, rfl, rfl⟩
    have hb : ∀ k, (vFd (ρ r).1 (ρ r).2.1 (ρ r).2.2.1 (nI x) (nI y)).map (8 * r + ·) = some k → k < 2 ^ 31 := by
      intro k hk
      cases hv : vFd (ρ r).1 (ρ r).2.1 (ρ r).2.2.1 (nI x) (nI y) with
      | none => rw [hv] at hk; cases hk
      | some j => rw [hv] at hk; cases hk; have := vFd_lt hv; show 8 * r + j < _; omega
    refine xr_if_lt a_Mod_fact_39 (fun b39 => ?_) (fun b39 => ?_)
    · have hv : vFd (ρ r).1 (ρ r).2.1 (ρ r).2.2.1 (nI x) (nI y) = none := by
        have := (oI_neg hb).mp b39
        cases z : vFd (ρ r).1 (ρ r).2.1 (ρ r).2.2.1 (nI x) (nI y) with
        | none => rfl
        | some j => rw [z] at this; cases this
      have eF : fFact ρ (nI r) (nI x) (nI y) = _ := vIf_t ⟨i1, i2, i3, by rw [e1]; omega, by rw [e1]; exact hv⟩
      rw [e1, cl_nI (by omega), cl_nI (by omega)] at eF
      rw [eF]
      refine xr_aload_n a_Mod_fact_44 rfl ?_
      apply xr_getf a_Mod_fact_45
      · (repeat' (first | assumption | exact va_up_self _ _ _ | refine x_lk (by omega) ?_))
      · rfl
      refine xr_bipush a_Mod_fact_48 (v := nI 8) (by decide +kernel) ?_
      refine xr_iload_n a_Mod_fact_50 rfl ?_
      first | refine xn_imul a_Mod_fact_51 ?_ | refine xr_imul a_Mod_fact_51 ?_
      refine xr_aload_n a_Mod_fact_52 rfl ?_
      apply xr_getf a_Mod_fact_53
      · (repeat' (first | assumption | exact va_up_self _ _ _ | refine x_lk (by omega) ?_))
      · rfl
      refine xr_iload_n a_Mod_fact_56 rfl ?_
      apply xn_iaload a_Mod_fact_57
      · (repeat' (first | assumption | exact va_up_self _ _ _ | refine x_lk (by omega) ?_))
      · omega
      · omega
      first | refine xn_iadd a_Mod_fact_58 ?_ | refine xr_iadd a_Mod_fact_58 ?_
      refine xr_iload_n a_Mod_fact_59 rfl ?_
      apply xn_iastore a_Mod_fact_60
      · (repeat' (first | assumption | exact va_up_self _ _ _ | refine x_lk (by omega) ?_))
      · omega
      · omega
      refine xr_aload_n a_Mod_fact_61 rfl ?_
      apply xr_getf a_Mod_fact_62
      · (repeat' (first | assumption | exact va_up_self _ _ _ | refine x_lk (by omega) ?_))
      · rfl
      refine xr_bipush a_Mod_fact_65 (v := nI 8) (by decide +kernel) ?_
      refine xr_iload_n a_Mod_fact_67 rfl ?_
      first | refine xn_imul a_Mod_fact_68 ?_ | refine xr_imul a_Mod_fact_68 ?_
      refine xr_aload_n a_Mod_fact_69 rfl ?_
      apply xr_getf a_Mod_fact_70
      · (repeat' (first | assumption | exact va_up_self _ _ _ | refine x_lk (by omega) ?_))
      · rfl
      refine xr_iload_n a_Mod_fact_73 rfl ?_
      apply xn_iaload a_Mod_fact_74
      · (repeat' (first | assumption | exact va_up_self _ _ _ | refine x_lk (by omega) ?_))
      · omega
      · omega
      first | refine xn_iadd a_Mod_fact_75 ?_ | refine xr_iadd a_Mod_fact_75 ?_
      refine xr_iload_n a_Mod_fact_76 rfl ?_
      apply xn_iastore a_Mod_fact_77
      · (repeat' (first | assumption | exact va_up_self _ _ _ | refine x_lk (by omega) ?_))
      · omega
      · omega
      refine xr_aload_n a_Mod_fact_78 rfl ?_
      apply xr_getf a_Mod_fact_79
      · (repeat' (first | assumption | exact va_up_self _ _ _ | refine x_lk (by omega) ?_))
      · rfl
      refine xr_iload_n a_Mod_fact_82 rfl ?_
      refine xr_dup2 a_Mod_fact_83 rfl rfl ?_
      apply xn_iaload a_Mod_fact_84
      · (repeat' (first | assumption | exact va_up_self _ _ _ | refine x_lk (by omega) ?_))
      · omega
      · omega
      refine xr_iconst a_Mod_fact_85 (v := nI 1) (by decide +kernel) ?_
      first | refine xn_iadd a_Mod_fact_86 ?_ | refine xr_iadd a_Mod_fact_86 ?_
      apply xn_iastore a_Mod_fact_87
      · (repeat' (first | assumption | exact va_up_self _ _ _ | refine x_lk (by omega) ?_))
      · omega
      · omega
      refine xr_iconst a_Mod_fact_88 (v := nI 1) (by decide +kernel) ?_
      refine xr_ireturn a_Mod_fact_89 rfl rfl (by omega) (by omega) ?_
      refine ⟨rfl, rfl, ?_, p.rel ?_ ⟨va_up rw r (rw r + 1), va_up rX (8 * r + rw r) x, va_up rY (8 * r + rw r) y, pa, fa, by (repeat' (first | assumption | exact va_up_self _ _ _ | refine x_lk (by omega) ?_)), by (repeat' (first | assumption | exact va_up_self _ _ _ | refine x_lk (by omega) ?_)), by (repeat' (first | assumption | exact va_up_self _ _ _ | refine x_lk (by omega) ?_)), by (repeat' (first | assumption | exact va_up_self _ _ _ | refine x_lk (by omega) ?_)), by (repeat' (first | assumption | exact va_up_self _ _ _ | refine x_lk (by omega) ?_)), fun r' hr' => ?_⟩⟩
      · repeat' (first | exact xfr.rf | refine xfr.up ?_ (by omega) (by omega))
      · repeat' (first | exact xfr.rf | refine xfr.up ?_ (by omega) (by omega))
      · obtain ⟨y1, y2, y3, y4⟩ := c6 r' hr'
        dsimp only
        by_cases e : r' = r
        · subst e
          rw [up_self, up_self]
          refine ⟨by rw [w1], y2, y3, fun k hk => ?_⟩
          dsimp only
          by_cases ek : k = (ρ r').1
          · rw [ek, w1, up_self, up_self, up_self, up_self]
            exact ⟨rfl, rfl⟩
          · rw [up_ne ek, up_ne ek, up_ne (by omega), up_ne (by omega)]
            exact y4 k hk
        · rw [up_ne e, up_ne e]
          refine ⟨y1, y2, y3, fun k hk => ?_⟩
          rw [up_ne (by omega), up_ne (by omega)]
          exact y4 k hk
    · refine xr_ls [] trivial (bad (vIf_f fun z => b39 ?_))
      rw [e1] at z
      rw [z.2.2.2.2]
      show (-1 : Int32) < 0
      decide
theorem t_Mod_retract {a b c : Int32} (p : isMo h m ρ ν κ cnt D fo rq tr) (hR : vSR ρ) (hd : 1 ≤ d) : XM d 0 0 k_Mod_retract L xs [.ref m, .int a, .int b, .int c] n h (qP n (fRetract ρ a b c).1 (fun h' => xfr m (m + 25) h h' ∧ isMo h' m (fRetract ρ a b c).2 ν κ cnt D fo rq tr)) := by
  have p' := p
  obtain ⟨⟨st, ne, p0⟩, ⟨rw, rX, rY, pa, fa, c1, c2, c3, c4, c5, c6⟩, -, -, -, -, -⟩ := p'
  refine XM.of rfl (Nat.le_of_ble_eq_true rfl) ?_
  refine xr_iload_n a_Mod_retract_0 rfl ?_
  refine xr_invS a_Mod_retract_1 (t_Mod_relationOk (d := 0)) rfl rfl (by omega) (by omega) (by omega) (Nat.le_of_ble_eq_true rfl) ?_
  rintro _ _ h1 ⟨rfl, rfl, rfl⟩
  refine xn_if_ne a_Mod_retract_4 (vB_lt31 _) (fun b4 => ?_) (fun b4 => ?_)
  · have i1 : inB a 4 := vB_1 b4
    obtain ⟨r, hr, rfl⟩ := inB_ex (by omega) i1
    have e1 : cl (nI r) = r := cl_nI (by omega)
    obtain ⟨w1, w2, w3, w4⟩ := c6 r hr
    have h8 := (hR.1 r hr).1
    have cR := t_Mod_rowOf (d := 0) (L := L) (xs := xs) (n := n) (x := b) (y := c) p hr h8
    have eF : fRetract ρ (nI r) b c = (match vFd (ρ r).1 (ρ r).2.1 (ρ r).2.2.1 b c with | none => (nI 0, ρ) | some j => (nI 1, va_up ρ r ((ρ r).1 - 1, va_up (ρ r).2.1 j ((ρ r).2.1 ((ρ r).1 - 1)), va_up (ρ r).2.2.1 j ((ρ r).2.2.1 ((ρ r).1 - 1)), (ρ r).2.2.2.1, (ρ r).2.2.2.2))) := by
      unfold fRetract
      rw [e1]
      exact vIf_t i1
    cases hv : vFd (ρ r).1 (ρ r).2.1 (ρ r).2.2.1 b c with
    | none =>
      rw [hv] at eF cR
      rw [eF]
      refine xr_aload_n a_Mod_retract_9 rfl ?_
      refine xr_iload_n a_Mod_retract_10 rfl ?_
      refine xr_iload_n a_Mod_retract_11 rfl ?_
      refine xr_iload_n a_Mod_retract_12 rfl ?_
      refine xr_invV a_Mod_retract_13 (by (repeat' (first | assumption | exact va_up_self _ _ _ | refine x_lk (by omega) ?_))) (cR) rfl rfl (by omega) (by omega) (by omega) (Nat.le_of_ble_eq_true rfl) ?_
      rintro _ _ h1 ⟨rfl, rfl, rfl⟩
      refine xr_istore a_Mod_retract_16 (by decide) rfl ?_
      refine xr_iload a_Mod_retract_18 rfl ?_
      refine xr_if_ge a_Mod_retract_20 (fun b20 => absurd b20 (show ¬ (0 : Int32) ≤ -1 by decide)) (fun b20 => ?_)
      refine xr_iconst a_Mod_retract_23 (v := nI 0) (by decide +kernel) ?_
      refine xr_ireturn a_Mod_retract_24 rfl rfl (by omega) (by omega) ?_
      exact ⟨rfl, rfl, xfr.rf, p⟩
    | some j =>
      have hj := vFd_lt hv
      rw [hv] at eF cR
      rw [eF]
      have cR' : XM 0 0 0 k_Mod_rowOf L xs [.ref m, .int (nI r), .int b, .int c] n h (qR n h (nI (8 * r + j))) := cR
      refine xr_aload_n a_Mod_retract_9 rfl ?_
      refine xr_iload_n a_Mod_retract_10 rfl ?_
      refine xr_iload_n a_Mod_retract_11 rfl ?_
      refine xr_iload_n a_Mod_retract_12 rfl ?_
      refine xr_invV a_Mod_retract_13 (by (repeat' (first | assumption | exact va_up_self _ _ _ | refine x_lk (by omega) ?_))) (cR') rfl rfl (by omega) (by omega) (by omega) (Nat.le_of_ble_eq_true rfl) ?_
      rintro _ _ h1 ⟨rfl, rfl, rfl⟩
      refine xr_istore a_Mod_retract_16 (by decide) rfl ?_
      refine xr_iload a_Mod_retract_18 rfl ?_
      refine xn_if_ge a_Mod_retract_20 (by omega) ?_
      refine xr_aload_n a_Mod_retract_25 rfl ?_
      apply xr_getf a_Mod_retract_26
      · (repeat' (first | assumption | exact va_up_self _ _ _ | refine x_lk (by omega) ?_))
      · rfl
      refine xr_iload_n a_Mod_retract_29 rfl ?_
      refine xr_dup2 a_Mod_retract_30 rfl rfl ?_
      apply xn_iaload a_Mod_retract_31
      · (repeat' (first | assumption | exact va_up_self _ _ _ | refine x_lk (by omega) ?_))
      · omega
      · omega
      refine xr_iconst a_Mod_retract_32 (v := nI 1) (by decide +kernel) ?_
      first | refine xn_isub a_Mod_retract_33 (by omega) ?_ | refine xr_isub a_Mod_retract_33 ?_
      apply xn_iastore a_Mod_retract_34
      · (repeat' (first | assumption | exact va_up_self _ _ _ | refine x_lk (by omega) ?_))
      · omega
      · omega
      refine xr_bipush a_Mod_retract_35 (v := nI 8) (by decide +kernel) ?_
      refine xr_iload_n a_Mod_retract_37 rfl ?_
      first | refine xn_imul a_Mod_retract_38 ?_ | refine xr_imul a_Mod_retract_38 ?_
      refine xr_aload_n a_Mod_retract_39 rfl ?_
      apply xr_getf a_Mod_retract_40
      · (repeat' (first | assumption | exact va_up_self _ _ _ | refine x_lk (by omega) ?_))
      · rfl
      refine xr_iload_n a_Mod_retract_43 rfl ?_
      apply xn_iaload a_Mod_retract_44
      · (repeat' (first | assumption | exact va_up_self _ _ _ | refine x_lk (by omega) ?_))
      · omega
      · omega
      rw [up_self]
      first | refine xn_iadd a_Mod_retract_45 ?_ | refine xr_iadd a_Mod_retract_45 ?_
      refine xr_istore a_Mod_retract_46 (by decide) rfl ?_
      refine xr_aload_n a_Mod_retract_48 rfl ?_
      apply xr_getf a_Mod_retract_49
      · (repeat' (first | assumption | exact va_up_self _ _ _ | refine x_lk (by omega) ?_))
      · rfl
      refine xr_iload a_Mod_retract_52 rfl ?_
      refine xr_aload_n a_Mod_retract_54 rfl ?_
      apply xr_getf a_Mod_retract_55
      · (repeat' (first | assumption | exact va_up_self _ _ _ | refine x_lk (by omega) ?_))
      · rfl
      refine xr_iload a_Mod_retract_58 rfl ?_
      apply xn_iaload a_Mod_retract_60
      · (repeat' (first | assumption | exact va_up_self _ _ _ | refine x_lk (by omega) ?_))
      · omega
      · omega
      apply xn_iastore a_Mod_retract_61
      · (repeat' (first | assumption | exact va_up_self _ _ _ | refine x_lk (by omega) ?_))
      · omega
      · omega
      refine xr_aload_n a_Mod_retract_62 rfl ?_
      apply xr_getf a_Mod_retract_63
      · (repeat' (first | assumption | exact va_up_self _ _ _ | refine x_lk (by omega) ?_))
      · rfl
      refine xr_iload a_Mod_retract_66 rfl ?_
      refine xr_aload_n a_Mod_retract_68 rfl ?_
      apply xr_getf a_Mod_retract_69
      · (repeat' (first | assumption | exact va_up_self _ _ _ | refine x_lk (by omega) ?_))
      · rfl
      refine xr_iload a_Mod_retract_72 rfl ?_
      apply xn_iaload a_Mod_retract_74
      · (repeat' (first | assumption | exact va_up_self _ _ _ | refine x_lk (by omega) ?_))
      · omega
      · omega
      apply xn_iastore a_Mod_retract_75
      · (repeat' (first | assumption | exact va_up_self _ _ _ | refine x_lk (by omega) ?_))
      · omega
      · omega
      refine xr_iconst a_Mod_retract_76 (v := nI 1) (by decide +kernel) ?_
      refine xr_ireturn a_Mod_retract_77 rfl rfl (by omega) (by omega) ?_
      refine ⟨rfl, rfl, ?_, p.rel ?_ ⟨va_up rw r (rw r - 1), _, _, pa, fa, by (repeat' (first | assumption | exact va_up_self _ _ _ | refine x_lk (by omega) ?_)), by (repeat' (first | assumption | exact va_up_self _ _ _ | refine x_lk (by omega) ?_)), by (repeat' (first | assumption | exact va_up_self _ _ _ | refine x_lk (by omega) ?_)), by (repeat' (first | assumption | exact va_up_self _ _ _ | refine x_lk (by omega) ?_)), by (repeat' (first | assumption | exact va_up_self _ _ _ | refine x_lk (by omega) ?_)), fun r' hr' => ?_⟩⟩
      · repeat' (first | exact xfr.rf | refine xfr.up ?_ (by omega) (by omega))
      · repeat' (first | exact xfr.rf | refine xfr.up ?_ (by omega) (by omega))
      · obtain ⟨y1, y2, y3, y4⟩ := c6 r' hr'
        dsimp only
        by_cases e : r' = r
        · subst e
          rw [up_self, up_self]
          obtain ⟨l1, l2⟩ := y4 ((ρ r').1 - 1) (by omega)
          refine ⟨by rw [w1], y2, y3, fun k hk => ?_⟩
          dsimp only
          rw [w1]
          by_cases ek : k = j
          · rw [ek, up_self, up_self, up_self, up_self]
            exact ⟨l1, l2⟩
          · rw [up_ne ek, up_ne ek, up_ne (by omega), up_ne (by omega)]
            exact y4 k hk
        · rw [up_ne e, up_ne e]
          refine ⟨y1, y2, y3, fun k hk => ?_⟩
          rw [up_ne (by omega), up_ne (by omega)]
          exact y4 k hk
  · have eF : fRetract ρ a b c = _ := vIf_f (vB_0 b4)
    rw [eF]
    refine xr_iconst a_Mod_retract_7 (v := nI 0) (by decide +kernel) ?_
    refine xr_ireturn a_Mod_retract_8 rfl rfl (by omega) (by omega) ?_
    exact ⟨rfl, rfl, xfr.rf, p⟩
theorem inB_le {x : Int32} {k : Nat} (hk : k < 100) : inB x (k + 1) ↔ (¬ x < 0 ∧ x ≤ nI k) := by
  unfold inB
  rw [Int32.le_iff_toInt_le, Int32.lt_iff_toInt_lt, Int32.lt_iff_toInt_lt, Int32.le_iff_toInt_le, nI_toInt (by omega), nI_toInt (by omega)]
  omega
theorem t_Mod_allow {a b : Int32} (p : isMo h m ρ ν κ cnt D fo rq tr) (hd : 1 ≤ d) : XM d 0 0 k_Mod_allow L xs [.ref m, .int a, .int b] n h (qP n (fAllow ρ a b).1 (fun h' => xfr m (m + 25) h h' ∧ isMo h' m (fAllow ρ a b).2 ν κ cnt D fo rq tr)) := by
  have p' := p
  obtain ⟨⟨st, ne, p0⟩, ⟨rw, rX, rY, pa, fa, c1, c2, c3, c4, c5, c6⟩, -, -, -, -, -⟩ := p'
  refine XM.of rfl (Nat.le_of_ble_eq_true rfl) ?_
  have bad : fAllow ρ a b = (nI 0, ρ) → XW (x_rm d 0 0) k_Mod_allow L xs (x_mq 0 0 (qP n (fAllow ρ a b).1 (fun h' => xfr m (m + 25) h h' ∧ isMo h' m (fAllow ρ a b).2 ν κ cnt D fo rq tr))) 0 0 17 [] [] n h := by
    intro e
    rw [e]
    refine xr_iconst a_Mod_allow_17 (v := nI 0) (by decide +kernel) ?_
    refine xr_ireturn a_Mod_allow_18 rfl rfl (by omega) (by omega) ?_
    exact ⟨rfl, rfl, xfr.rf, p⟩
  refine xr_iload_n a_Mod_allow_0 rfl ?_
  refine xr_invS a_Mod_allow_1 (t_Mod_relationOk (d := 0)) rfl rfl (by omega) (by omega) (by omega) (Nat.le_of_ble_eq_true rfl) ?_
  rintro _ _ h1 ⟨rfl, rfl, rfl⟩
  refine xn_if_eq a_Mod_allow_4 (vB_lt31 _) (fun b4 => xr_ls [] trivial (bad (vIf_f fun z => vB_0 b4 z.1))) (fun b4 => ?_)
  refine xr_iload_n a_Mod_allow_7 rfl ?_
  refine xr_if_lt a_Mod_allow_8 (fun b8 => ?_) (fun b8 => ?_)
  · exact xr_ls [] trivial (bad (vIf_f fun z => ((inB_le (by omega)).mp z.2).1 b8))
  · refine xr_iload_n a_Mod_allow_11 rfl ?_
    refine xr_bipush a_Mod_allow_12 (v := nI 15) (by decide +kernel) ?_
    refine xr_icmp_le a_Mod_allow_14 (fun b14 => ?_) (fun b14 => ?_)
    · have i1 : inB a 4 := vB_1 b4
      have i2 : inB b 16 := (inB_le (k := 15) (by omega)).mpr ⟨b8, b14⟩
      have eF : fAllow ρ a b = _ := vIf_t ⟨i1, i2⟩
      obtain ⟨r, hr, rfl⟩ := inB_ex (by omega) i1
      obtain ⟨x, hx, rfl⟩ := inB_ex (by omega) i2
      rw [cl_nI (by omega), cl_nI (by omega)] at eF
      rw [eF]
      refine xr_aload_n a_Mod_allow_19 rfl ?_
      apply xr_getf a_Mod_allow_20
      · (repeat' (first | assumption | exact va_up_self _ _ _ | refine x_lk (by omega) ?_))
      · rfl
      refine xr_iload_n a_Mod_allow_23 rfl ?_
      refine xr_iload_n a_Mod_allow_24 rfl ?_
      apply xn_iastore a_Mod_allow_25
      · (repeat' (first | assumption | exact va_up_self _ _ _ | refine x_lk (by omega) ?_))
      · omega
      · omega
      refine xr_iconst a_Mod_allow_26 (v := nI 1) (by decide +kernel) ?_
      refine xr_ireturn a_Mod_allow_27 rfl rfl (by omega) (by omega) ?_
      refine ⟨rfl, rfl, xfr.up0 (by omega) (by omega), p.rel (xfr.up0 (by omega) (by omega)) ⟨rw, rX, rY, va_up pa r x, fa, by (repeat' (first | assumption | exact va_up_self _ _ _ | refine x_lk (by omega) ?_)), by (repeat' (first | assumption | exact va_up_self _ _ _ | refine x_lk (by omega) ?_)), by (repeat' (first | assumption | exact va_up_self _ _ _ | refine x_lk (by omega) ?_)), by (repeat' (first | assumption | exact va_up_self _ _ _ | refine x_lk (by omega) ?_)), by (repeat' (first | assumption | exact va_up_self _ _ _ | refine x_lk (by omega) ?_)), fun r' hr' => ?_⟩⟩
      obtain ⟨y1, y2, y3, y4⟩ := c6 r' hr'
      dsimp only
      by_cases e : r' = r
      · subst e
        rw [up_self, up_self]
        exact ⟨y1, rfl, y3, y4⟩
      · rw [up_ne e, up_ne e]
        exact ⟨y1, y2, y3, y4⟩
    · exact xr_ls [] trivial (bad (vIf_f fun z => b14 ((inB_le (k := 15) (by omega)).mp z.2).2))
theorem t_Mod_fail {a b : Int32} (p : isMo h m ρ ν κ cnt D fo rq tr) (hd : 1 ≤ d) : XM d 0 0 k_Mod_fail L xs [.ref m, .int a, .int b] n h (qP n (fFail ρ a b).1 (fun h' => xfr m (m + 25) h h' ∧ isMo h' m (fFail ρ a b).2 ν κ cnt D fo rq tr)) := by
  have p' := p
  obtain ⟨⟨st, ne, p0⟩, ⟨rw, rX, rY, pa, fa, c1, c2, c3, c4, c5, c6⟩, -, -, -, -, -⟩ := p'
  refine XM.of rfl (Nat.le_of_ble_eq_true rfl) ?_
  have bad : fFail ρ a b = (nI 0, ρ) → XW (x_rm d 0 0) k_Mod_fail L xs (x_mq 0 0 (qP n (fFail ρ a b).1 (fun h' => xfr m (m + 25) h h' ∧ isMo h' m (fFail ρ a b).2 ν κ cnt D fo rq tr))) 0 0 17 [] [] n h := by
    intro e
    rw [e]
    refine xr_iconst a_Mod_fail_17 (v := nI 0) (by decide +kernel) ?_
    refine xr_ireturn a_Mod_fail_18 rfl rfl (by omega) (by omega) ?_
    exact ⟨rfl, rfl, xfr.rf, p⟩
  refine xr_iload_n a_Mod_fail_0 rfl ?_
  refine xr_invS a_Mod_fail_1 (t_Mod_relationOk (d := 0)) rfl rfl (by omega) (by omega) (by omega) (Nat.le_of_ble_eq_true rfl) ?_
  rintro _ _ h1 ⟨rfl, rfl, rfl⟩
  refine xn_if_eq a_Mod_fail_4 (vB_lt31 _) (fun b4 => xr_ls [] trivial (bad (vIf_f fun z => vB_0 b4 z.1))) (fun b4 => ?_)
  refine xr_iload_n a_Mod_fail_7 rfl ?_
  refine xr_if_lt a_Mod_fail_8 (fun b8 => ?_) (fun b8 => ?_)
  · exact xr_ls [] trivial (bad (vIf_f fun z => ((inB_le (by omega)).mp z.2).1 b8))
  · refine xr_iload_n a_Mod_fail_11 rfl ?_
    refine xr_bipush a_Mod_fail_12 (v := nI 9) (by decide +kernel) ?_
    refine xr_icmp_le a_Mod_fail_14 (fun b14 => ?_) (fun b14 => ?_)
    · have i1 : inB a 4 := vB_1 b4
      have i2 : inB b 10 := (inB_le (k := 9) (by omega)).mpr ⟨b8, b14⟩
      have eF : fFail ρ a b = _ := vIf_t ⟨i1, i2⟩
      obtain ⟨r, hr, rfl⟩ := inB_ex (by omega) i1
      obtain ⟨x, hx, rfl⟩ := inB_ex (by omega) i2
      rw [cl_nI (by omega), cl_nI (by omega)] at eF
      rw [eF]
      refine xr_aload_n a_Mod_fail_19 rfl ?_
      apply xr_getf a_Mod_fail_20
      · (repeat' (first | assumption | exact va_up_self _ _ _ | refine x_lk (by omega) ?_))
      · rfl
      refine xr_iload_n a_Mod_fail_23 rfl ?_
      refine xr_iload_n a_Mod_fail_24 rfl ?_
      apply xn_iastore a_Mod_fail_25
      · (repeat' (first | assumption | exact va_up_self _ _ _ | refine x_lk (by omega) ?_))
      · omega
      · omega
      refine xr_iconst a_Mod_fail_26 (v := nI 1) (by decide +kernel) ?_
      refine xr_ireturn a_Mod_fail_27 rfl rfl (by omega) (by omega) ?_
      refine ⟨rfl, rfl, xfr.up0 (by omega) (by omega), p.rel (xfr.up0 (by omega) (by omega)) ⟨rw, rX, rY, pa, va_up fa r x, by (repeat' (first | assumption | exact va_up_self _ _ _ | refine x_lk (by omega) ?_)), by (repeat' (first | assumption | exact va_up_self _ _ _ | refine x_lk (by omega) ?_)), by (repeat' (first | assumption | exact va_up_self _ _ _ | refine x_lk (by omega) ?_)), by (repeat' (first | assumption | exact va_up_self _ _ _ | refine x_lk (by omega) ?_)), by (repeat' (first | assumption | exact va_up_self _ _ _ | refine x_lk (by omega) ?_)), fun r' hr' => ?_⟩⟩
      obtain ⟨y1, y2, y3, y4⟩ := c6 r' hr'
      dsimp only
      by_cases e : r' = r
      · subst e
        rw [up_self, up_self]
        exact ⟨y1, y2, rfl, y4⟩
      · rw [up_ne e, up_ne e]
        exact ⟨y1, y2, y3, y4⟩
    · exact xr_ls [] trivial (bad (vIf_f fun z => b14 ((inB_le (k := 9) (by omega)).mp z.2).2))
theorem t_Mod_failures {a : Int32} (p : isMo h m ρ ν κ cnt D fo rq tr) (hd : 1 ≤ d) : XM d 0 0 k_Mod_failures L xs [.ref m, .int a] n h (qR n h (fFailures ρ a)) := by
  obtain ⟨⟨st, ne, p0⟩, ⟨rw, rX, rY, pa, fa, c1, c2, c3, c4, c5, c6⟩, -, -, -, -, -⟩ := p
  refine XM.of rfl (Nat.le_of_ble_eq_true rfl) ?_
  refine xr_iload_n a_Mod_failures_0 rfl ?_
  refine xr_invS a_Mod_failures_1 (t_Mod_relationOk (d := 0)) rfl rfl (by omega) (by omega) (by omega) (Nat.le_of_ble_eq_true rfl) ?_
  rintro _ _ h1 ⟨rfl, rfl, rfl⟩
  refine xn_if_eq a_Mod_failures_4 (vB_lt31 _) (fun b4 => ?_) (fun b4 => ?_)
  · refine xr_iconst a_Mod_failures_16 (v := -1) (by decide +kernel) ?_
    refine xr_ireturn a_Mod_failures_17 rfl rfl (by omega) (by omega) ?_
    exact ⟨congrArg (fun x => some (Value.int x)) (vIf_f fun z => vB_0 b4 z).symm, rfl, rfl⟩
  · have i1 : inB a 4 := vB_1 b4
    have eF : fFailures ρ a = _ := vIf_t i1
    obtain ⟨r, hr, rfl⟩ := inB_ex (by omega) i1
    rw [cl_nI (by omega)] at eF
    obtain ⟨w1, w2, w3, w4⟩ := c6 r hr
    rw [eF]
    refine xr_aload_n a_Mod_failures_7 rfl ?_
    apply xr_getf a_Mod_failures_8
    · (repeat' (first | assumption | exact va_up_self _ _ _ | refine x_lk (by omega) ?_))
    · rfl
    refine xr_iload_n a_Mod_failures_11 rfl ?_
    apply xn_iaload a_Mod_failures_12
    · (repeat' (first | assumption | exact va_up_self _ _ _ | refine x_lk (by omega) ?_))
    · omega
    · omega
    refine xr_goto a_Mod_failures_13 ?_
    refine xr_ireturn a_Mod_failures_17 rfl rfl (by omega) (by omega) ?_
    exact ⟨by rw [w3], rfl, rfl⟩
theorem t_Mod_clear (p : isMo h m ρ ν κ cnt D fo rq tr) : XM d 0 0 k_Mod_clear L xs [.ref m] n h (qV n (fun h' => xfr m (m + 25) h h' ∧ isMo h' m ρ ν (0, κ.2) cnt D fo rq tr)) := by
  obtain ⟨⟨st, ne, p0⟩, p1, p2, p3, p4, p5, p6⟩ := p
  refine XM.of rfl (Nat.le_of_ble_eq_true rfl) ?_
  refine xr_aload_n a_Mod_clear_0 rfl ?_
  refine xr_iconst a_Mod_clear_1 (v := nI 0) (by decide +kernel) ?_
  apply xm_asked a_Mod_clear_2
  · (repeat' (first | assumption | exact va_up_self _ _ _ | refine x_lk (by omega) ?_))
  refine xr_return a_Mod_clear_5 rfl (by omega) (by omega) ?_
  exact ⟨rfl, rfl, xfr.up0 (by omega) (by omega), ⟨st, ne, up_self _ _ _⟩, p1.sm (xsm_up (by omega)), p2.sm (xsm_up (by omega)), moQ.sm (κ := (0, κ.2)) p3 (xsm_up (by omega)), p4.sm (xsm_up (by omega)), p5.sm (xsm_up (by omega)), p6.sm (xsm_up (by omega))⟩
theorem t_Mod_disjuncts (p : isMo h m ρ ν κ cnt D fo rq tr) : XM d 0 0 k_Mod_disjuncts L xs [.ref m] n h (qR n h (nI cnt)) := by
  obtain ⟨⟨st, ne, p0⟩, -⟩ := p
  refine XM.of rfl (Nat.le_of_ble_eq_true rfl) ?_
  refine xr_aload_n a_Mod_disjuncts_0 rfl ?_
  apply xr_getf a_Mod_disjuncts_1
  · (repeat' (first | assumption | exact va_up_self _ _ _ | refine x_lk (by omega) ?_))
  · rfl
  refine xr_ireturn a_Mod_disjuncts_4 rfl rfl (by omega) (by omega) ?_
  exact ⟨rfl, rfl, rfl⟩
theorem t_Mod_requests (p : isMo h m ρ ν κ cnt D fo rq tr) : XM d 0 0 k_Mod_requests L xs [.ref m] n h (qR n h (nI rq)) := by
  obtain ⟨⟨st, ne, p0⟩, -⟩ := p
  refine XM.of rfl (Nat.le_of_ble_eq_true rfl) ?_
  refine xr_aload_n a_Mod_requests_0 rfl ?_
  apply xr_getf a_Mod_requests_1
  · (repeat' (first | assumption | exact va_up_self _ _ _ | refine x_lk (by omega) ?_))
  · rfl
  refine xr_ireturn a_Mod_requests_4 rfl rfl (by omega) (by omega) ?_
  exact ⟨rfl, rfl, rfl⟩
theorem t_Mod_tries (p : isMo h m ρ ν κ cnt D fo rq tr) : XM d 0 0 k_Mod_tries L xs [.ref m] n h (qR n h (nI tr)) := by
  obtain ⟨⟨st, ne, p0⟩, -⟩ := p
  refine XM.of rfl (Nat.le_of_ble_eq_true rfl) ?_
  refine xr_aload_n a_Mod_tries_0 rfl ?_
  apply xr_getf a_Mod_tries_1
  · (repeat' (first | assumption | exact va_up_self _ _ _ | refine x_lk (by omega) ?_))
  · rfl
  refine xr_ireturn a_Mod_tries_4 rfl rfl (by omega) (by omega) ?_
  exact ⟨rfl, rfl, rfl⟩
end T52

