/-! the reference: what is read; its constructor -/
theorem neg_not {x : Int32} {b : Nat} (h : x < 0) : ¬ inB x b := fun z => by
  have := z.1
  rw [Int32.le_iff_toInt_le] at this
  rw [Int32.lt_iff_toInt_lt] at h
  omega
theorem ge_not {x : Int32} {b : Nat} (h : nI b ≤ x) : ¬ inB x b := fun z => by
  have := z.2
  rw [Int32.lt_iff_toInt_lt] at this
  rw [Int32.le_iff_toInt_le] at h
  omega
theorem inB_mk {x : Int32} {b : Nat} (h1 : ¬ x < 0) (h2 : ¬ nI b ≤ x) : inB x b := by
  unfold inB
  rw [Int32.le_iff_toInt_le, Int32.lt_iff_toInt_lt]
  rw [Int32.lt_iff_toInt_lt] at h1
  rw [Int32.le_iff_toInt_le] at h2
  omega
section T54
variable {d L : Nat} {xs : Nat → Int32} {n : Nat} {h : xH} {m : Nat} {ρ : Nat → vRel} {ν : Nat → vVw} {κ : vAL} {cnt : Nat} {D : Nat → vPd} {fo : Nat → Bool} {rq tr : Nat}
theorem t_Mod_size {a : Int32} (p : isMo h m ρ ν κ cnt D fo rq tr) (hc : cnt ≤ 8) : XM d 0 0 k_Mod_size L xs [.ref m, .int a] n h (qR n h (fSize cnt D a)) := by
  obtain ⟨⟨st, ne, p0⟩, -, -, -, ⟨sz, lR, lA, lB, md, c1, c2, c3, c4, c5, c6⟩, -, -⟩ := p
  refine XM.of rfl (Nat.le_of_ble_eq_true rfl) ?_
  have bad : ¬ inB a cnt → XW (x_rm d 0 0) k_Mod_size L xs (x_mq 0 0 (qR n h (fSize cnt D a))) 0 0 21 [] [] n h := by
    intro e
    rw [show fSize cnt D a = _ from vIf_f e]
    refine xr_iconst a_Mod_size_21 (v := -1) (by decide +kernel) ?_
    refine xr_ireturn a_Mod_size_22 rfl rfl (by omega) (by omega) ?_
    exact ⟨rfl, rfl, rfl⟩
  refine xr_iload_n a_Mod_size_0 rfl ?_
  refine xr_if_lt a_Mod_size_1 (fun b1 => ?_) (fun b1 => ?_)
  · exact xr_ls [] trivial (bad (neg_not b1))
  · refine xr_iload_n a_Mod_size_4 rfl ?_
    refine xr_aload_n a_Mod_size_5 rfl ?_
    apply xr_getf a_Mod_size_6
    · (repeat' (first | assumption | exact va_up_self _ _ _ | refine x_lk (by omega) ?_))
    · rfl
    refine xr_icmp_ge a_Mod_size_9 (fun b9 => ?_) (fun b9 => ?_)
    · exact xr_ls [] trivial (bad (ge_not b9))
    · have i1 := inB_mk b1 b9
      have eF : fSize cnt D a = _ := vIf_t i1
      obtain ⟨i, hi, rfl⟩ := inB_ex (by omega) i1
      rw [cl_nI (by omega)] at eF
      rw [eF]
      refine xr_aload_n a_Mod_size_12 rfl ?_
      apply xr_getf a_Mod_size_13
      · (repeat' (first | assumption | exact va_up_self _ _ _ | refine x_lk (by omega) ?_))
      · rfl
      refine xr_iload_n a_Mod_size_16 rfl ?_
      apply xn_iaload a_Mod_size_17
      · (repeat' (first | assumption | exact va_up_self _ _ _ | refine x_lk (by omega) ?_))
      · omega
      · omega
      refine xr_goto a_Mod_size_18 ?_
      refine xr_ireturn a_Mod_size_22 rfl rfl (by omega) (by omega) ?_
      exact ⟨by rw [(c6 i hi).1], rfl, rfl⟩
theorem t_Mod_isAtom {a b : Int32} (p : isMo h m ρ ν κ cnt D fo rq tr) (hc : cnt ≤ 8) : XM d 0 0 k_Mod_isAtom L xs [.ref m, .int a, .int b] n h (qR n h (nI (vB (inB a cnt ∧ inB b (D (cl a)).1.length)))) := by
  obtain ⟨⟨st, ne, p0⟩, -, -, -, ⟨sz, lR, lA, lB, md, c1, c2, c3, c4, c5, c6⟩, -, -⟩ := p
  refine XM.of rfl (Nat.le_of_ble_eq_true rfl) ?_
  have bad : ¬ (inB a cnt ∧ inB b (D (cl a)).1.length) → XW (x_rm d 0 0) k_Mod_isAtom L xs (x_mq 0 0 (qR n h (nI (vB (inB a cnt ∧ inB b (D (cl a)).1.length))))) 0 0 30 [] [] n h := by
    intro e
    rw [vB_f e]
    refine xr_iconst a_Mod_isAtom_30 (v := nI 0) (by decide +kernel) ?_
    refine xr_ireturn a_Mod_isAtom_31 rfl rfl (by omega) (by omega) ?_
    exact ⟨rfl, rfl, rfl⟩
  refine xr_iload_n a_Mod_isAtom_0 rfl ?_
  refine xr_if_lt a_Mod_isAtom_1 (fun b1 => ?_) (fun b1 => ?_)
  · exact xr_ls [] trivial (bad (fun z => neg_not b1 z.1))
  · refine xr_iload_n a_Mod_isAtom_4 rfl ?_
    refine xr_aload_n a_Mod_isAtom_5 rfl ?_
    apply xr_getf a_Mod_isAtom_6
    · (repeat' (first | assumption | exact va_up_self _ _ _ | refine x_lk (by omega) ?_))
    · rfl
    refine xr_icmp_ge a_Mod_isAtom_9 (fun b9 => ?_) (fun b9 => ?_)
    · exact xr_ls [] trivial (bad (fun z => ge_not b9 z.1))
    · have i1 := inB_mk b1 b9
      obtain ⟨i, hi, rfl⟩ := inB_ex (by omega) i1
      have e1 : cl (nI i) = i := cl_nI (by omega)
      have e2 := (c6 i hi).1
      refine xr_iload_n a_Mod_isAtom_12 rfl ?_
      refine xr_if_lt a_Mod_isAtom_13 (fun b13 => ?_) (fun b13 => ?_)
      · exact xr_ls [] trivial (bad (fun z => neg_not b13 z.2))
      · refine xr_iload_n a_Mod_isAtom_16 rfl ?_
        refine xr_aload_n a_Mod_isAtom_17 rfl ?_
        apply xr_getf a_Mod_isAtom_18
        · (repeat' (first | assumption | exact va_up_self _ _ _ | refine x_lk (by omega) ?_))
        · rfl
        refine xr_iload_n a_Mod_isAtom_21 rfl ?_
        apply xn_iaload a_Mod_isAtom_22
        · (repeat' (first | assumption | exact va_up_self _ _ _ | refine x_lk (by omega) ?_))
        · omega
        · omega
        refine xr_icmp_ge a_Mod_isAtom_23 (fun b23 => ?_) (fun b23 => ?_)
        · rw [e2] at b23
          exact xr_ls [] trivial (bad (fun z => ge_not b23 (by rw [e1] at z; exact z.2)))
        · rw [e2] at b23
          rw [vB_t ⟨i1, by rw [e1]; exact inB_mk b13 b23⟩]
          refine xr_iconst a_Mod_isAtom_26 (v := nI 1) (by decide +kernel) ?_
          refine xr_goto a_Mod_isAtom_27 ?_
          refine xr_ireturn a_Mod_isAtom_31 rfl rfl (by omega) (by omega) ?_
          exact ⟨rfl, rfl, rfl⟩
theorem t_Mod_atomAt {a b : Int32} (p : isMo h m ρ ν κ cnt D fo rq tr) (hc : cnt ≤ 8) (hl : ∀ i, i < cnt → (D i).1.length ≤ 6) (hd : 1 ≤ d) : XM d 0 0 k_Mod_atomAt L xs [.ref m, .int a, .int b] n h (qR n h (fAtomAt cnt D a b)) := by
  have cI := t_Mod_isAtom (d := 0) (L := L) (xs := xs) (n := n) (a := a) (b := b) p hc
  obtain ⟨⟨st, ne, p0⟩, -, -, -, ⟨sz, lR, lA, lB, md, c1, c2, c3, c4, c5, c6⟩, -, -⟩ := p
  refine XM.of rfl (Nat.le_of_ble_eq_true rfl) ?_
  refine xr_aload_n a_Mod_atomAt_0 rfl ?_
  refine xr_iload_n a_Mod_atomAt_1 rfl ?_
  refine xr_iload_n a_Mod_atomAt_2 rfl ?_
  refine xr_invV a_Mod_atomAt_3 (by (repeat' (first | assumption | exact va_up_self _ _ _ | refine x_lk (by omega) ?_))) (cI) rfl rfl (by omega) (by omega) (by omega) (Nat.le_of_ble_eq_true rfl) ?_
  rintro _ _ h1 ⟨rfl, rfl, rfl⟩
  refine xn_if_ne a_Mod_atomAt_6 (vB_lt31 _) (fun b6 => ?_) (fun b6 => ?_)
  · obtain ⟨i1, i2⟩ := vB_1 b6
    have eF : fAtomAt cnt D a b = _ := vIf_t ⟨i1, i2⟩
    obtain ⟨i, hi, rfl⟩ := inB_ex (by omega) i1
    rw [cl_nI (by omega)] at eF i2
    have hl6 := hl i hi
    obtain ⟨j, hj, rfl⟩ := inB_ex (by omega) i2
    rw [cl_nI (by omega)] at eF
    obtain ⟨w1, w2, w3, w4⟩ := (c6 i hi).2 j hj
    rw [eF]
    refine xr_bipush a_Mod_atomAt_11 (v := nI 6) (by decide +kernel) ?_
    refine xr_iload_n a_Mod_atomAt_13 rfl ?_
    first | refine xn_imul a_Mod_atomAt_14 ?_ | refine xr_imul a_Mod_atomAt_14 ?_
    refine xr_iload_n a_Mod_atomAt_15 rfl ?_
    first | refine xn_iadd a_Mod_atomAt_16 ?_ | refine xr_iadd a_Mod_atomAt_16 ?_
    refine xr_istore_n a_Mod_atomAt_17 (by decide) rfl ?_
    refine xr_aload_n a_Mod_atomAt_18 rfl ?_
    apply xr_getf a_Mod_atomAt_19
    · (repeat' (first | assumption | exact va_up_self _ _ _ | refine x_lk (by omega) ?_))
    · rfl
    refine xr_iload_n a_Mod_atomAt_22 rfl ?_
    apply xn_iaload a_Mod_atomAt_23
    · (repeat' (first | assumption | exact va_up_self _ _ _ | refine x_lk (by omega) ?_))
    · omega
    · omega
    refine xr_bipush a_Mod_atomAt_24 (v := nI 64) (by decide +kernel) ?_
    first | refine xn_imul a_Mod_atomAt_26 ?_ | refine xr_imul a_Mod_atomAt_26 ?_
    refine xr_aload_n a_Mod_atomAt_27 rfl ?_
    apply xr_getf a_Mod_atomAt_28
    · (repeat' (first | assumption | exact va_up_self _ _ _ | refine x_lk (by omega) ?_))
    · rfl
    refine xr_iload_n a_Mod_atomAt_31 rfl ?_
    apply xn_iaload a_Mod_atomAt_32
    · (repeat' (first | assumption | exact va_up_self _ _ _ | refine x_lk (by omega) ?_))
    · omega
    · omega
    first | refine xn_iadd a_Mod_atomAt_33 ?_ | refine xr_iadd a_Mod_atomAt_33 ?_
    refine xr_bipush a_Mod_atomAt_34 (v := nI 64) (by decide +kernel) ?_
    first | refine xn_imul a_Mod_atomAt_36 ?_ | refine xr_imul a_Mod_atomAt_36 ?_
    refine xr_aload_n a_Mod_atomAt_37 rfl ?_
    apply xr_getf a_Mod_atomAt_38
    · (repeat' (first | assumption | exact va_up_self _ _ _ | refine x_lk (by omega) ?_))
    · rfl
    refine xr_iload_n a_Mod_atomAt_41 rfl ?_
    apply xn_iaload a_Mod_atomAt_42
    · (repeat' (first | assumption | exact va_up_self _ _ _ | refine x_lk (by omega) ?_))
    · omega
    · omega
    first | refine xn_iadd a_Mod_atomAt_43 ?_ | refine xr_iadd a_Mod_atomAt_43 ?_
    refine xr_ireturn a_Mod_atomAt_44 rfl rfl (by omega) (by omega) ?_
    exact ⟨by rw [w1, w2, w3], rfl, rfl⟩
  · have eF : fAtomAt cnt D a b = _ := vIf_f (vB_0 b6)
    rw [eF]
    refine xr_iconst a_Mod_atomAt_9 (v := -1) (by decide +kernel) ?_
    refine xr_ireturn a_Mod_atomAt_10 rfl rfl (by omega) (by omega) ?_
    exact ⟨rfl, rfl, rfl⟩
theorem t_Mod_patternAt {a b : Int32} (p : isMo h m ρ ν κ cnt D fo rq tr) (hc : cnt ≤ 8) (hl : ∀ i, i < cnt → (D i).1.length ≤ 6) (hd : 1 ≤ d) : XM d 0 0 k_Mod_patternAt L xs [.ref m, .int a, .int b] n h (qR n h (fPatternAt cnt D a b)) := by
  have cI := t_Mod_isAtom (d := 0) (L := L) (xs := xs) (n := n) (a := a) (b := b) p hc
  obtain ⟨⟨st, ne, p0⟩, -, -, -, ⟨sz, lR, lA, lB, md, c1, c2, c3, c4, c5, c6⟩, -, -⟩ := p
  refine XM.of rfl (Nat.le_of_ble_eq_true rfl) ?_
  refine xr_aload_n a_Mod_patternAt_0 rfl ?_
  refine xr_iload_n a_Mod_patternAt_1 rfl ?_
  refine xr_iload_n a_Mod_patternAt_2 rfl ?_
  refine xr_invV a_Mod_patternAt_3 (by (repeat' (first | assumption | exact va_up_self _ _ _ | refine x_lk (by omega) ?_))) (cI) rfl rfl (by omega) (by omega) (by omega) (Nat.le_of_ble_eq_true rfl) ?_
  rintro _ _ h1 ⟨rfl, rfl, rfl⟩
  refine xn_if_eq a_Mod_patternAt_6 (vB_lt31 _) (fun b6 => ?_) (fun b6 => ?_)
  · have eF : fPatternAt cnt D a b = _ := vIf_f (vB_0 b6)
    rw [eF]
    refine xr_iconst a_Mod_patternAt_23 (v := -1) (by decide +kernel) ?_
    refine xr_ireturn a_Mod_patternAt_24 rfl rfl (by omega) (by omega) ?_
    exact ⟨rfl, rfl, rfl⟩
  · obtain ⟨i1, i2⟩ := vB_1 b6
    have eF : fPatternAt cnt D a b = _ := vIf_t ⟨i1, i2⟩
    obtain ⟨i, hi, rfl⟩ := inB_ex (by omega) i1
    rw [cl_nI (by omega)] at eF i2
    have hl6 := hl i hi
    obtain ⟨j, hj, rfl⟩ := inB_ex (by omega) i2
    rw [cl_nI (by omega)] at eF
    obtain ⟨w1, w2, w3, w4⟩ := (c6 i hi).2 j hj
    rw [eF]
    refine xr_aload_n a_Mod_patternAt_9 rfl ?_
    apply xr_getf a_Mod_patternAt_10
    · (repeat' (first | assumption | exact va_up_self _ _ _ | refine x_lk (by omega) ?_))
    · rfl
    refine xr_bipush a_Mod_patternAt_13 (v := nI 6) (by decide +kernel) ?_
    refine xr_iload_n a_Mod_patternAt_15 rfl ?_
    first | refine xn_imul a_Mod_patternAt_16 ?_ | refine xr_imul a_Mod_patternAt_16 ?_
    refine xr_iload_n a_Mod_patternAt_17 rfl ?_
    first | refine xn_iadd a_Mod_patternAt_18 ?_ | refine xr_iadd a_Mod_patternAt_18 ?_
    apply xo_iaload a_Mod_patternAt_19
    · (repeat' (first | assumption | exact va_up_self _ _ _ | refine x_lk (by omega) ?_))
    · omega
    · omega
    refine xr_goto a_Mod_patternAt_20 ?_
    refine xr_ireturn a_Mod_patternAt_24 rfl rfl (by omega) (by omega) ?_
    exact ⟨by rw [w4], rfl, rfl⟩
theorem vCnt_s (p : Nat → Bool) (k : Nat) : vCnt p (k + 1) = vCnt p k + (p k).toNat := rfl
theorem t_Mod_results (p : moF h m fo) {as ma st ne : Nat} (p0 : h m = cM m as ma st ne rq tr) : XM d 0 0 k_Mod_results L xs [.ref m] n h (qR n h (nI (vCnt fo 256))) := by
  obtain ⟨f, c1, c2⟩ := p
  refine XM.of rfl (Nat.le_of_ble_eq_true rfl) ?_
  have loop : ∀ q k, k + q = 256 → XW (x_rm d 0 0) k_Mod_results L xs (x_mq 0 0 (qR n h (nI (vCnt fo 256)))) 0 0 4 [(0, .ref m), (1, .int (nI (vCnt fo k))), (2, .int (nI k))] [] n h := by
    intro q
    induction q with
    | zero =>
      intro k hk
      have e : k = 256 := by omega
      subst e
      refine xr_iload_n a_Mod_results_4 rfl ?_
      refine xr_sipush a_Mod_results_5 (v := nI 256) (by decide +kernel) ?_
      refine xn_icmp_ge a_Mod_results_8 (by omega) (by omega) (fun b8 => ?_) (fun b8 => ?_)
      · refine xr_iload_n a_Mod_results_34 rfl ?_
        refine xr_ireturn a_Mod_results_35 rfl rfl (by omega) (by omega) ?_
        exact ⟨rfl, rfl, rfl⟩
      · omega
    | succ q ih =>
      intro k hk
      have hf := c2 k (by omega)
      have t2 := tn_lt (fo k)
      refine xr_iload_n a_Mod_results_4 rfl ?_
      refine xr_sipush a_Mod_results_5 (v := nI 256) (by decide +kernel) ?_
      refine xn_icmp_ge a_Mod_results_8 (by omega) (by omega) (fun b8 => ?_) (fun b8 => ?_)
      · omega
      · refine xr_iload_n a_Mod_results_11 rfl ?_
        refine xr_aload_n a_Mod_results_12 rfl ?_
        apply xr_getf a_Mod_results_13
        · (repeat' (first | assumption | exact va_up_self _ _ _ | refine x_lk (by omega) ?_))
        · rfl
        refine xr_iload_n a_Mod_results_16 rfl ?_
        apply xn_baload a_Mod_results_17
        · (repeat' (first | assumption | exact va_up_self _ _ _ | refine x_lk (by omega) ?_))
        · omega
        · omega
        refine xn_if_eq a_Mod_results_18 (by omega) (fun b18 => ?_) (fun b18 => ?_)
        · refine xr_iconst a_Mod_results_25 (v := nI 0) (by decide +kernel) ?_
          first | refine xn_iadd a_Mod_results_26 ?_ | refine xr_iadd a_Mod_results_26 ?_
          refine xr_istore_n a_Mod_results_27 (by decide) rfl ?_
          first | refine xn_iinc a_Mod_results_28 rfl (by decide) rfl ?_ | refine xr_iinc a_Mod_results_28 rfl rfl (by decide) rfl ?_
          refine xr_goto a_Mod_results_31 ?_
          refine xr_ls [(0, .ref m), (1, .int (nI (vCnt fo k + 0))), (2, .int (nI (k + 1)))] ⟨rfl, rfl, rfl, trivial⟩ ?_
          have := ih (k + 1) (by omega)
          rw [vCnt_s fo k, show (fo k).toNat = 0 by omega] at this
          exact this
        · refine xr_iconst a_Mod_results_21 (v := nI 1) (by decide +kernel) ?_
          refine xr_goto a_Mod_results_22 ?_
          first | refine xn_iadd a_Mod_results_26 ?_ | refine xr_iadd a_Mod_results_26 ?_
          refine xr_istore_n a_Mod_results_27 (by decide) rfl ?_
          first | refine xn_iinc a_Mod_results_28 rfl (by decide) rfl ?_ | refine xr_iinc a_Mod_results_28 rfl rfl (by decide) rfl ?_
          refine xr_goto a_Mod_results_31 ?_
          refine xr_ls [(0, .ref m), (1, .int (nI (vCnt fo k + 1))), (2, .int (nI (k + 1)))] ⟨rfl, rfl, rfl, trivial⟩ ?_
          have := ih (k + 1) (by omega)
          rw [vCnt_s fo k, show (fo k).toNat = 1 by omega] at this
          exact this
  refine xr_iconst a_Mod_results_0 (v := nI 0) (by decide +kernel) ?_
  refine xr_istore_n a_Mod_results_1 (by decide) rfl ?_
  refine xr_iconst a_Mod_results_2 (v := nI 0) (by decide +kernel) ?_
  refine xr_istore_n a_Mod_results_3 (by decide) rfl ?_
  refine xr_ls [(0, .ref m), (1, .int (nI 0)), (2, .int (nI 0))] ⟨rfl, rfl, rfl, trivial⟩ ?_
  exact loop 256 0 (by omega)
theorem t_Mod_result {a : Int32} (p : isMo h m ρ ν κ cnt D fo rq tr) : XM d 0 0 k_Mod_result L xs [.ref m, .int a] n h (qR n h (fResult fo a)) := by
  obtain ⟨⟨st, ne, p0⟩, -, -, -, -, ⟨f, c1, c2⟩, -⟩ := p
  have h256 := vCnt_le fo 256
  refine XM.of rfl (Nat.le_of_ble_eq_true rfl) ?_
  have bad : ¬ inB a (vCnt fo 256) → XW (x_rm d 0 0) k_Mod_result L xs (x_mq 0 0 (qR n h (fResult fo a))) 0 0 39 [] [] n h := by
    intro e
    rw [show fResult fo a = _ from vIf_f e]
    refine xr_iconst a_Mod_result_39 (v := -1) (by decide +kernel) ?_
    refine xr_ireturn a_Mod_result_40 rfl rfl (by omega) (by omega) ?_
    exact ⟨rfl, rfl, rfl⟩
  have loop : ∀ j, j < 2 ^ 31 → a = nI j → ∀ q k, k + q = 256 → vCnt fo k ≤ j → XW (x_rm d 0 0) k_Mod_result L xs (x_mq 0 0 (qR n h (fResult fo a))) 0 0 4 [(0, .ref m), (1, .int (nI j)), (2, .int (nI (j - vCnt fo k))), (3, .int (nI k))] [] n h := by
    intro j hj31 hj q
    induction q with
    | zero =>
      intro k hk hle
      have e : k = 256 := by omega
      subst e
      refine xr_iload_n a_Mod_result_4 rfl ?_
      refine xr_sipush a_Mod_result_5 (v := nI 256) (by decide +kernel) ?_
      refine xn_icmp_ge a_Mod_result_8 (by omega) (by omega) (fun b8 => ?_) (fun b8 => ?_)
      · exact xr_ls [] trivial (bad (by rw [hj]; exact ge_not (nI_le hle hj31)))
      · omega
    | succ q ih =>
      intro k hk hle
      have hf := c2 k (by omega)
      have t2 := tn_lt (fo k)
      refine xr_iload_n a_Mod_result_4 rfl ?_
      refine xr_sipush a_Mod_result_5 (v := nI 256) (by decide +kernel) ?_
      refine xn_icmp_ge a_Mod_result_8 (by omega) (by omega) (fun b8 => ?_) (fun b8 => ?_)
      · omega
      · refine xr_iload_n a_Mod_result_11 rfl ?_
        refine xn_if_lt a_Mod_result_12 (by omega) ?_
        refine xr_aload_n a_Mod_result_15 rfl ?_
        apply xr_getf a_Mod_result_16
        · (repeat' (first | assumption | exact va_up_self _ _ _ | refine x_lk (by omega) ?_))
        · rfl
        refine xr_iload_n a_Mod_result_19 rfl ?_
        apply xn_baload a_Mod_result_20
        · (repeat' (first | assumption | exact va_up_self _ _ _ | refine x_lk (by omega) ?_))
        · omega
        · omega
        refine xn_if_eq a_Mod_result_21 (by omega) (fun b21 => ?_) (fun b21 => ?_)
        · have hn : (fo k).toNat = 0 := by omega
          first | refine xn_iinc a_Mod_result_33 rfl (by decide) rfl ?_ | refine xr_iinc a_Mod_result_33 rfl rfl (by decide) rfl ?_
          refine xr_goto a_Mod_result_36 ?_
          refine xr_ls [(0, .ref m), (1, .int (nI j)), (2, .int (nI (j - vCnt fo k))), (3, .int (nI (k + 1)))] ⟨rfl, rfl, rfl, rfl, trivial⟩ ?_
          have := ih (k + 1) (by omega) (by rw [vCnt_s]; omega)
          rw [vCnt_s, hn] at this
          exact this
        · have hy : fo k = true := by
            cases z : fo k with
            | true => rfl
            | false => rw [z] at hf; rw [hf] at b21; cases b21
          have hn : (fo k).toNat = 1 := by rw [hy]; rfl
          refine xr_iload_n a_Mod_result_24 rfl ?_
          refine xn_if_ne a_Mod_result_25 (by omega) (fun b25 => ?_) (fun b25 => ?_)
          · obtain ⟨x, hx⟩ : ∃ x, j - vCnt fo k = x + 1 := ⟨j - vCnt fo k - 1, by omega⟩
            rw [hx]
            first | refine xn_idec a_Mod_result_30 rfl (by decide) rfl ?_ | refine xr_iinc a_Mod_result_30 rfl rfl (by decide) rfl ?_
            first | refine xn_iinc a_Mod_result_33 rfl (by decide) rfl ?_ | refine xr_iinc a_Mod_result_33 rfl rfl (by decide) rfl ?_
            refine xr_goto a_Mod_result_36 ?_
            refine xr_ls [(0, .ref m), (1, .int (nI j)), (2, .int (nI x)), (3, .int (nI (k + 1)))] ⟨rfl, rfl, rfl, rfl, trivial⟩ ?_
            have := ih (k + 1) (by omega) (by rw [vCnt_s]; omega)
            rw [vCnt_s, hn, show j - (vCnt fo k + 1) = x by omega] at this
            exact this
          · have ej : j = vCnt fo k := by omega
            have hlt := vCnt_lt hy (i := 256) (by omega)
            have eF : fResult fo a = _ := vIf_t (by rw [hj]; exact inB_nI (by omega) (by omega))
            rw [hj, cl_nI hj31, ej, vNth_at (by omega) hy] at eF
            rw [hj, ej, eF]
            refine xr_iload_n a_Mod_result_28 rfl ?_
            refine xr_ireturn a_Mod_result_29 rfl rfl (by omega) (by omega) ?_
            exact ⟨rfl, rfl, rfl⟩
  by_cases hneg : a < 0
  · refine xr_iload_n a_Mod_result_0 rfl ?_
    refine xr_istore_n a_Mod_result_1 (by decide) rfl ?_
    refine xr_iconst a_Mod_result_2 (v := nI 0) (by decide +kernel) ?_
    refine xr_istore_n a_Mod_result_3 (by decide) rfl ?_
    refine xr_iload_n a_Mod_result_4 rfl ?_
    refine xr_sipush a_Mod_result_5 (v := nI 256) (by decide +kernel) ?_
    refine xn_icmp_ge a_Mod_result_8 (by omega) (by omega) (fun b8 => by omega) (fun b8 => ?_)
    refine xr_iload_n a_Mod_result_11 rfl ?_
    refine xr_if_lt a_Mod_result_12 (fun _ => ?_) (fun z => absurd hneg z)
    exact xr_ls [] trivial (bad (neg_not hneg))
  · obtain ⟨j, hj31, hj⟩ := nI_of hneg
    refine xr_iload_n a_Mod_result_0 rfl ?_
    refine xr_istore_n a_Mod_result_1 (by decide) rfl ?_
    refine xr_iconst a_Mod_result_2 (v := nI 0) (by decide +kernel) ?_
    refine xr_istore_n a_Mod_result_3 (by decide) rfl ?_
    refine xr_ls [(0, .ref m), (1, .int a), (2, .int a), (3, .int (nI 0))] ⟨rfl, rfl, rfl, rfl, trivial⟩ ?_
    have := loop j hj31 hj 256 0 (by omega) (Nat.zero_le _)
    rw [← hj] at this
    rw [show vCnt fo 0 = 0 from rfl, Nat.sub_zero, ← hj] at this
    exact this
end T54

