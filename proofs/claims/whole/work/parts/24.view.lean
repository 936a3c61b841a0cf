/-! View -/
section T24
variable {d L : Nat} {xs : Nat → Int32} {n : Nat} {h : xH} {r m : Nat} {R : Nat → vAL} {f : Nat → Option Nat}
theorem t_View_beginRule (p : isVw h r m R f) (hm : m ≤ 2) (hd : 1 ≤ d) : XM d 0 0 k_View_beginRule L xs [.ref r] n h (qP n (oI (if m < 2 then some m else none)) (fun h' => xfr r (r + 10) h h' ∧ if m < 2 then isVw h' r (m + 1) (va_up R m (0, (R m).2)) f else h' = h)) := by
  obtain ⟨p0, p1, pf, pA⟩ := p
  refine XM.of rfl (Nat.le_of_ble_eq_true rfl) ?_
  refine xr_aload_n a_View_beginRule_0 rfl ?_
  apply xr_getf a_View_beginRule_1
  · (repeat' (first | assumption | exact va_up_self _ _ _ | refine x_lk (by omega) ?_))
  · rfl
  refine xr_iconst a_View_beginRule_4 (v := nI 2) (by decide +kernel) ?_
  refine xn_icmp_lt a_View_beginRule_5 (by omega) (by omega) (fun b5 => ?_) (fun b5 => ?_)
  · refine xr_aload_n a_View_beginRule_10 rfl ?_
    apply xr_getf a_View_beginRule_11
    · (repeat' (first | assumption | exact va_up_self _ _ _ | refine x_lk (by omega) ?_))
    · rfl
    refine xr_aload_n a_View_beginRule_14 rfl ?_
    apply xr_getf a_View_beginRule_15
    · (repeat' (first | assumption | exact va_up_self _ _ _ | refine x_lk (by omega) ?_))
    · rfl
    apply xn_aaload a_View_beginRule_18
    · (repeat' (first | assumption | exact va_up_self _ _ _ | refine x_lk (by omega) ?_))
    · rfl
    · omega
    · omega
    · exact pf m b5
    refine xr_invV a_View_beginRule_19 (by exact (pA m b5).1) (t_AtomList_makeEmpty (d := 0) (pA m b5)) rfl rfl (by omega) (by omega) (by omega) (Nat.le_of_ble_eq_true rfl) ?_
    rintro _ _ h1 ⟨rfl, rfl, f1, q1⟩
    refine xr_aload_n a_View_beginRule_22 rfl ?_
    refine xr_dup a_View_beginRule_23 rfl ?_
    apply xr_getf a_View_beginRule_24
    · exact (f1.get (by omega) p0)
    · rfl
    refine xr_iconst a_View_beginRule_27 (v := nI 1) (by decide +kernel) ?_
    first | refine xn_iadd a_View_beginRule_28 ?_ | refine xr_iadd a_View_beginRule_28 ?_
    apply xr_putf a_View_beginRule_29
    · exact (f1.get (by omega) p0)
    · exact Nat.le_of_ble_eq_true rfl
    · rfl
    · rfl
    refine xr_aload_n a_View_beginRule_32 rfl ?_
    apply xr_getf a_View_beginRule_33
    · (repeat' (first | assumption | exact va_up_self _ _ _ | refine x_lk (by omega) ?_))
    · rfl
    refine xr_iconst a_View_beginRule_36 (v := nI 1) (by decide +kernel) ?_
    first | refine xn_isub a_View_beginRule_37 (by omega) ?_ | refine xr_isub a_View_beginRule_37 ?_
    refine xr_ireturn a_View_beginRule_38 rfl rfl (by omega) (by omega) ?_
    refine ⟨?_, rfl, ?_, ?_⟩
    · rw [if_pos b5]; rfl
    · exact (f1.mo (by omega) (by omega)).up (by omega) (by omega)
    · rw [if_pos b5]
      refine ⟨up_self _ _ _, x_lk (by omega) (f1.get (by omega) p1), pf, fun i hi => ?_⟩
      by_cases e : i = m
      · subst e
        rw [up_self]
        exact q1.sm (xsm_up (by omega))
      · rw [up_ne e]
        exact ((pA i hi).sm (f1.sm (by omega))).sm (xsm_up (by omega))
  · refine xr_iconst a_View_beginRule_8 (v := -1) (by decide +kernel) ?_
    refine xr_ireturn a_View_beginRule_9 rfl rfl (by omega) (by omega) ?_
    refine ⟨?_, rfl, xfr.rf, ?_⟩
    · rw [if_neg (by omega)]; rfl
    · rw [if_neg (by omega)]
theorem t_View_addAtom {a b c : Nat} (p : isVw h r m R f) (hm : m ≤ 2) (hR : ∀ i, i < m → (R i).1 ≤ 2) (hd : 2 ≤ d) : XM d 0 0 k_View_addAtom L xs [.ref r, .int (nI a), .int (nI b), .int (nI c)] n h (qP n (nI (vB (0 < m ∧ (R (m - 1)).1 < 2))) (fun h' => xfr r (r + 10) h h' ∧ if 0 < m ∧ (R (m - 1)).1 < 2 then isVw h' r m (va_up R (m - 1) ((R (m - 1)).1 + 1, va_up (R (m - 1)).2.1 (R (m - 1)).1 a, va_up (R (m - 1)).2.2.1 (R (m - 1)).1 b, va_up (R (m - 1)).2.2.2 (R (m - 1)).1 c)) f else h' = h)) := by
  have p' := p
  obtain ⟨p0, p1, pf, pA⟩ := p
  refine XM.of rfl (Nat.le_of_ble_eq_true rfl) ?_
  refine xr_aload_n a_View_addAtom_0 rfl ?_
  apply xr_getf a_View_addAtom_1
  · (repeat' (first | assumption | exact va_up_self _ _ _ | refine x_lk (by omega) ?_))
  · rfl
  refine xn_if_le a_View_addAtom_4 (by omega) (fun b4 => ?_) (fun b4 => ?_)
  · refine xr_iconst a_View_addAtom_31 (v := nI 0) (by decide +kernel) ?_
    refine xr_ireturn a_View_addAtom_32 rfl rfl (by omega) (by omega) ?_
    refine ⟨?_, rfl, xfr.rf, ?_⟩
    · rw [vB_f (by omega)]
    · rw [if_neg (by omega)]
  · refine xr_aload_n a_View_addAtom_7 rfl ?_
    apply xr_getf a_View_addAtom_8
    · (repeat' (first | assumption | exact va_up_self _ _ _ | refine x_lk (by omega) ?_))
    · rfl
    refine xr_aload_n a_View_addAtom_11 rfl ?_
    apply xr_getf a_View_addAtom_12
    · (repeat' (first | assumption | exact va_up_self _ _ _ | refine x_lk (by omega) ?_))
    · rfl
    refine xr_iconst a_View_addAtom_15 (v := nI 1) (by decide +kernel) ?_
    first | refine xn_isub a_View_addAtom_16 (by omega) ?_ | refine xr_isub a_View_addAtom_16 ?_
    apply xn_aaload a_View_addAtom_17
    · (repeat' (first | assumption | exact va_up_self _ _ _ | refine x_lk (by omega) ?_))
    · rfl
    · omega
    · omega
    · exact pf (m - 1) (by omega)
    refine xr_iload_n a_View_addAtom_18 rfl ?_
    refine xr_iload_n a_View_addAtom_19 rfl ?_
    refine xr_iload_n a_View_addAtom_20 rfl ?_
    refine xr_invV a_View_addAtom_21 (by exact (pA (m - 1) (by omega)).1) (t_AtomList_add (d := 1) (pA (m - 1) (by omega)) (hR (m - 1) (by omega)) (by omega) (by omega)) rfl rfl (by omega) (by omega) (by omega) (Nat.le_of_ble_eq_true rfl) ?_
    rintro _ _ h1 ⟨rfl, rfl, f1, q1⟩
    refine xn_if_eq a_View_addAtom_24 (vB_lt31 _) (fun b24 => ?_) (fun b24 => ?_)
    · refine xr_iconst a_View_addAtom_31 (v := nI 0) (by decide +kernel) ?_
      refine xr_ireturn a_View_addAtom_32 rfl rfl (by omega) (by omega) ?_
      have e := vB_0 b24
      rw [if_neg e] at q1
      subst q1
      refine ⟨?_, rfl, xfr.rf, ?_⟩
      · rw [vB_f (fun z => e z.2)]
      · rw [if_neg (fun z => e z.2)]
    · refine xr_iconst a_View_addAtom_27 (v := nI 1) (by decide +kernel) ?_
      refine xr_goto a_View_addAtom_28 ?_
      refine xr_ireturn a_View_addAtom_32 rfl rfl (by omega) (by omega) ?_
      have e := vB_1 b24
      rw [if_pos e] at q1
      refine ⟨?_, rfl, f1.mo (by omega) (by omega), ?_⟩
      · rw [vB_t ⟨by omega, e⟩]
      · rw [if_pos ⟨by omega, e⟩]
        refine ⟨f1.get (by omega) p0, f1.get (by omega) p1, pf, fun i hi => ?_⟩
        by_cases e : i = m - 1
        · subst e
          rw [up_self]
          exact q1
        · rw [up_ne e]
          exact (pA i hi).sm (f1.sm (by omega))
theorem t_View_takeRulesOut (p : isVw h r m R f) : XM d 0 0 k_View_takeRulesOut L xs [.ref r] n h (qP n (nI m) (fun h' => xfr r (r + 10) h h' ∧ isVw h' r 0 R f)) := by
  obtain ⟨p0, p1, pf, pA⟩ := p
  refine XM.of rfl (Nat.le_of_ble_eq_true rfl) ?_
  refine xr_aload_n a_View_takeRulesOut_0 rfl ?_
  apply xr_getf a_View_takeRulesOut_1
  · (repeat' (first | assumption | exact va_up_self _ _ _ | refine x_lk (by omega) ?_))
  · rfl
  refine xr_istore_n a_View_takeRulesOut_4 (by decide) rfl ?_
  refine xr_aload_n a_View_takeRulesOut_5 rfl ?_
  refine xr_iconst a_View_takeRulesOut_6 (v := nI 0) (by decide +kernel) ?_
  apply xr_putf a_View_takeRulesOut_7
  · (repeat' (first | assumption | exact va_up_self _ _ _ | refine x_lk (by omega) ?_))
  · exact Nat.le_of_ble_eq_true rfl
  · rfl
  · rfl
  refine xr_iload_n a_View_takeRulesOut_10 rfl ?_
  refine xr_ireturn a_View_takeRulesOut_11 rfl rfl (by omega) (by omega) ?_
  exact ⟨rfl, rfl, xfr.up0 (by omega) (by omega), up_self _ _ _, x_lk (by omega) p1, pf, fun i hi => (pA i hi).sm (xsm_up (by omega))⟩
theorem t_View_isSafe (p : isVw h r m R f) (hm : m ≤ 2) (hR : ∀ i, i < m → (R i).1 ≤ 2 ∧ ∀ j, j < (R i).1 → (R i).2.2.1 j < 100 ∧ (R i).2.2.2 j < 100) (hd : 2 ≤ d) : XM d 0 0 k_View_isSafe L xs [.ref r] n h (qR n h (nI (vB (0 < m ∧ ∀ i, i < m → vSf (R i).1 (R i).2.2.1 (R i).2.2.2)))) := by
  obtain ⟨p0, p1, pf, pA⟩ := p
  refine XM.of rfl (Nat.le_of_ble_eq_true rfl) ?_
  have loop : ∀ k i, i + k = m → (∀ j, j < i → vSf (R j).1 (R j).2.2.1 (R j).2.2.2) → XW (x_rm d 0 0) k_View_isSafe L xs (x_mq 0 0 (qR n h (nI (vB (0 < m ∧ ∀ i, i < m → vSf (R i).1 (R i).2.2.1 (R i).2.2.2))))) 0 0 2 [(0, .ref r), (1, .int (nI i))] [] n h := by
    intro k
    induction k with
    | zero =>
      intro i hi he
      refine xr_iload_n a_View_isSafe_2 rfl ?_
      refine xr_aload_n a_View_isSafe_3 rfl ?_
      apply xr_getf a_View_isSafe_4
      · (repeat' (first | assumption | exact va_up_self _ _ _ | refine x_lk (by omega) ?_))
      · rfl
      refine xn_icmp_ge a_View_isSafe_7 (by omega) (by omega) (fun b7 => ?_) (fun b7 => ?_)
      · refine xr_aload_n a_View_isSafe_30 rfl ?_
        apply xr_getf a_View_isSafe_31
        · (repeat' (first | assumption | exact va_up_self _ _ _ | refine x_lk (by omega) ?_))
        · rfl
        refine xn_if_le a_View_isSafe_34 (by omega) (fun b34 => ?_) (fun b34 => ?_)
        · refine xr_iconst a_View_isSafe_41 (v := nI 0) (by decide +kernel) ?_
          refine xr_ireturn a_View_isSafe_42 rfl rfl (by omega) (by omega) ?_
          refine ⟨?_, rfl, rfl⟩
          rw [vB_f (by omega)]
        · refine xr_iconst a_View_isSafe_37 (v := nI 1) (by decide +kernel) ?_
          refine xr_goto a_View_isSafe_38 ?_
          refine xr_ireturn a_View_isSafe_42 rfl rfl (by omega) (by omega) ?_
          refine ⟨?_, rfl, rfl⟩
          rw [vB_t ⟨by omega, fun j hj => he j (by omega)⟩]
      · omega
    | succ k ih =>
      intro i hi he
      refine xr_iload_n a_View_isSafe_2 rfl ?_
      refine xr_aload_n a_View_isSafe_3 rfl ?_
      apply xr_getf a_View_isSafe_4
      · (repeat' (first | assumption | exact va_up_self _ _ _ | refine x_lk (by omega) ?_))
      · rfl
      refine xn_icmp_ge a_View_isSafe_7 (by omega) (by omega) (fun b7 => ?_) (fun b7 => ?_)
      · omega
      · refine xr_aload_n a_View_isSafe_10 rfl ?_
        apply xr_getf a_View_isSafe_11
        · (repeat' (first | assumption | exact va_up_self _ _ _ | refine x_lk (by omega) ?_))
        · rfl
        refine xr_iload_n a_View_isSafe_14 rfl ?_
        apply xn_aaload a_View_isSafe_15
        · (repeat' (first | assumption | exact va_up_self _ _ _ | refine x_lk (by omega) ?_))
        · rfl
        · omega
        · omega
        · exact pf i (by omega)
        refine xr_invV a_View_isSafe_16 (by exact (pA i (by omega)).1) (t_AtomList_isSafe (d := 1) (pA i (by omega)) (hR i (by omega)).1 (by omega) (hR i (by omega)).2 (by omega)) rfl rfl (by omega) (by omega) (by omega) (Nat.le_of_ble_eq_true rfl) ?_
        rintro _ _ h1 ⟨rfl, rfl, rfl⟩
        refine xn_if_ne a_View_isSafe_19 (vB_lt31 _) (fun b19 => ?_) (fun b19 => ?_)
        · first | refine xn_iinc a_View_isSafe_24 rfl (by decide) rfl ?_ | refine xr_iinc a_View_isSafe_24 rfl rfl (by decide) rfl ?_
          refine xr_goto a_View_isSafe_27 ?_
          refine xr_ls [(0, .ref r), (1, .int (nI (i + 1)))] ⟨rfl, rfl, trivial⟩ ?_
          refine ih (i + 1) (by omega) (fun j hj => ?_)
          by_cases e : j = i
          · rw [e]; exact vB_1 b19
          · exact he j (by omega)
        · refine xr_iconst a_View_isSafe_22 (v := nI 0) (by decide +kernel) ?_
          refine xr_ireturn a_View_isSafe_23 rfl rfl (by omega) (by omega) ?_
          refine ⟨?_, rfl, rfl⟩
          rw [vB_f (fun z => vB_0 b19 (z.2 i (by omega)))]
  refine xr_iconst a_View_isSafe_0 (v := nI 0) (by decide +kernel) ?_
  refine xr_istore_n a_View_isSafe_1 (by decide) rfl ?_
  refine xr_ls [(0, .ref r), (1, .int (nI 0))] ⟨rfl, rfl, trivial⟩ ?_
  exact loop m 0 (by omega) (fun j hj => by omega)
end T24

