/-! AtomList -/
section T21
variable {d L : Nat} {xs : Nat → Int32} {n : Nat} {h : xH} {r cap m : Nat} {H F S : Nat → Nat}
theorem t_AtomList_set {i a b c : Nat} (p : isAL h r cap m H F S) (hi : i < cap) (hc : cap < 100) : XM d 0 0 k_AtomList_set L xs [.ref r, .int (nI i), .int (nI a), .int (nI b), .int (nI c)] n h (qV n (fun h' => xfr r (r + 4) h h' ∧ isAL h' r cap m (va_up H i a) (va_up F i b) (va_up S i c))) := by
  obtain ⟨p0, p1, p2, p3⟩ := p
  refine XM.of rfl (Nat.le_of_ble_eq_true rfl) ?_
  refine xr_aload_n a_AtomList_set_0 rfl ?_
  apply xr_getf a_AtomList_set_1
  · (repeat' (first | assumption | exact va_up_self _ _ _ | refine x_lk (by omega) ?_))
  · rfl
  refine xr_iload_n a_AtomList_set_4 rfl ?_
  refine xr_iload_n a_AtomList_set_5 rfl ?_
  apply xn_iastore a_AtomList_set_6
  · (repeat' (first | assumption | exact va_up_self _ _ _ | refine x_lk (by omega) ?_))
  · omega
  · omega
  refine xr_aload_n a_AtomList_set_7 rfl ?_
  apply xr_getf a_AtomList_set_8
  · (repeat' (first | assumption | exact va_up_self _ _ _ | refine x_lk (by omega) ?_))
  · rfl
  refine xr_iload_n a_AtomList_set_11 rfl ?_
  refine xr_iload_n a_AtomList_set_12 rfl ?_
  apply xn_iastore a_AtomList_set_13
  · (repeat' (first | assumption | exact va_up_self _ _ _ | refine x_lk (by omega) ?_))
  · omega
  · omega
  refine xr_aload_n a_AtomList_set_14 rfl ?_
  apply xr_getf a_AtomList_set_15
  · (repeat' (first | assumption | exact va_up_self _ _ _ | refine x_lk (by omega) ?_))
  · rfl
  refine xr_iload_n a_AtomList_set_18 rfl ?_
  refine xr_iload a_AtomList_set_19 rfl ?_
  apply xn_iastore a_AtomList_set_21
  · (repeat' (first | assumption | exact va_up_self _ _ _ | refine x_lk (by omega) ?_))
  · omega
  · omega
  refine xr_return a_AtomList_set_22 rfl (by omega) (by omega) ?_
  refine ⟨rfl, rfl, ?_, ?_⟩
  · repeat' (first | exact xfr.rf | refine xfr.up ?_ (by omega) (by omega))
  · exact ⟨by (repeat' (first | assumption | exact va_up_self _ _ _ | refine x_lk (by omega) ?_)), by (repeat' (first | assumption | exact va_up_self _ _ _ | refine x_lk (by omega) ?_)), by (repeat' (first | assumption | exact va_up_self _ _ _ | refine x_lk (by omega) ?_)), by (repeat' (first | assumption | exact va_up_self _ _ _ | refine x_lk (by omega) ?_))⟩
theorem t_AtomList_add {a b c : Nat} (p : isAL h r cap m H F S) (hm : m ≤ cap) (hc : cap < 100) (hd : 1 ≤ d) : XM d 0 0 k_AtomList_add L xs [.ref r, .int (nI a), .int (nI b), .int (nI c)] n h (qP n (nI (vB (m < cap))) (fun h' => xfr r (r + 4) h h' ∧ if m < cap then isAL h' r cap (m + 1) (va_up H m a) (va_up F m b) (va_up S m c) else h' = h)) := by
  have p' := p
  obtain ⟨p0, p1, p2, p3⟩ := p
  refine XM.of rfl (Nat.le_of_ble_eq_true rfl) ?_
  refine xr_aload_n a_AtomList_add_0 rfl ?_
  apply xr_getf a_AtomList_add_1
  · (repeat' (first | assumption | exact va_up_self _ _ _ | refine x_lk (by omega) ?_))
  · rfl
  refine xr_aload_n a_AtomList_add_4 rfl ?_
  apply xr_getf a_AtomList_add_5
  · (repeat' (first | assumption | exact va_up_self _ _ _ | refine x_lk (by omega) ?_))
  · rfl
  apply xr_alen a_AtomList_add_8
  · (repeat' (first | assumption | exact va_up_self _ _ _ | refine x_lk (by omega) ?_))
  · rfl
  refine xn_icmp_lt a_AtomList_add_9 (by omega) (by omega) (fun b9 => ?_) (fun b9 => ?_)
  · refine xr_aload_n a_AtomList_add_14 rfl ?_
    refine xr_aload_n a_AtomList_add_15 rfl ?_
    apply xr_getf a_AtomList_add_16
    · (repeat' (first | assumption | exact va_up_self _ _ _ | refine x_lk (by omega) ?_))
    · rfl
    refine xr_iload_n a_AtomList_add_19 rfl ?_
    refine xr_iload_n a_AtomList_add_20 rfl ?_
    refine xr_iload_n a_AtomList_add_21 rfl ?_
    refine xr_invV a_AtomList_add_22 (by (repeat' (first | assumption | exact va_up_self _ _ _ | refine x_lk (by omega) ?_))) (t_AtomList_set (d := 0) p' (i := m) (by omega) hc) rfl rfl (by omega) (by omega) (by omega) (Nat.le_of_ble_eq_true rfl) ?_
    rintro _ _ h1 ⟨rfl, rfl, f1, q0, q1, q2, q3⟩
    refine xr_aload_n a_AtomList_add_25 rfl ?_
    refine xr_dup a_AtomList_add_26 rfl ?_
    apply xr_getf a_AtomList_add_27
    · (repeat' (first | assumption | exact va_up_self _ _ _ | refine x_lk (by omega) ?_))
    · rfl
    refine xr_iconst a_AtomList_add_30 (v := nI 1) (by decide +kernel) ?_
    first | refine xn_iadd a_AtomList_add_31 ?_ | refine xr_iadd a_AtomList_add_31 ?_
    apply xr_putf a_AtomList_add_32
    · (repeat' (first | assumption | exact va_up_self _ _ _ | refine x_lk (by omega) ?_))
    · exact Nat.le_of_ble_eq_true rfl
    · rfl
    · rfl
    refine xr_iconst a_AtomList_add_35 (v := nI 1) (by decide +kernel) ?_
    refine xr_ireturn a_AtomList_add_36 rfl rfl (by omega) (by omega) ?_
    refine ⟨?_, rfl, ?_, ?_⟩
    · rw [vB_t b9]
    · exact f1.up (by omega) (by omega)
    · rw [if_pos b9]
      exact ⟨by (repeat' (first | assumption | exact va_up_self _ _ _ | refine x_lk (by omega) ?_)), by (repeat' (first | assumption | exact va_up_self _ _ _ | refine x_lk (by omega) ?_)), by (repeat' (first | assumption | exact va_up_self _ _ _ | refine x_lk (by omega) ?_)), by (repeat' (first | assumption | exact va_up_self _ _ _ | refine x_lk (by omega) ?_))⟩
  · refine xr_iconst a_AtomList_add_12 (v := nI 0) (by decide +kernel) ?_
    refine xr_ireturn a_AtomList_add_13 rfl rfl (by omega) (by omega) ?_
    refine ⟨?_, rfl, xfr.rf, ?_⟩
    · rw [vB_f (by omega)]
    · rw [if_neg (by omega)]
theorem t_AtomList_makeEmpty (p : isAL h r cap m H F S) : XM d 0 0 k_AtomList_makeEmpty L xs [.ref r] n h (qV n (fun h' => xfr r (r + 4) h h' ∧ isAL h' r cap 0 H F S)) := by
  obtain ⟨p0, p1, p2, p3⟩ := p
  refine XM.of rfl (Nat.le_of_ble_eq_true rfl) ?_
  refine xr_aload_n a_AtomList_makeEmpty_0 rfl ?_
  refine xr_iconst a_AtomList_makeEmpty_1 (v := nI 0) (by decide +kernel) ?_
  apply xr_putf a_AtomList_makeEmpty_2
  · (repeat' (first | assumption | exact va_up_self _ _ _ | refine x_lk (by omega) ?_))
  · exact Nat.le_of_ble_eq_true rfl
  · rfl
  · rfl
  refine xr_return a_AtomList_makeEmpty_5 rfl (by omega) (by omega) ?_
  refine ⟨rfl, rfl, ?_, ?_⟩
  · exact xfr.up0 (by omega) (by omega)
  · exact ⟨by (repeat' (first | assumption | exact va_up_self _ _ _ | refine x_lk (by omega) ?_)), by (repeat' (first | assumption | exact va_up_self _ _ _ | refine x_lk (by omega) ?_)), by (repeat' (first | assumption | exact va_up_self _ _ _ | refine x_lk (by omega) ?_)), by (repeat' (first | assumption | exact va_up_self _ _ _ | refine x_lk (by omega) ?_))⟩
theorem t_AtomList_swap {i : Nat} (p : isAL h r cap m H F S) (hi : i + 1 < cap) (hc : cap < 100) (hd : 1 ≤ d) : XM d 0 0 k_AtomList_swapWithNext L xs [.ref r, .int (nI i)] n h (qV n (fun h' => xfr r (r + 4) h h' ∧ isAL h' r cap m (vSwap H i) (vSwap F i) (vSwap S i))) := by
  have p' := p
  obtain ⟨p0, p1, p2, p3⟩ := p
  refine XM.of rfl (Nat.le_of_ble_eq_true rfl) ?_
  refine xr_aload_n a_AtomList_swapWithNext_0 rfl ?_
  apply xr_getf a_AtomList_swapWithNext_1
  · (repeat' (first | assumption | exact va_up_self _ _ _ | refine x_lk (by omega) ?_))
  · rfl
  refine xr_iload_n a_AtomList_swapWithNext_4 rfl ?_
  apply xn_iaload a_AtomList_swapWithNext_5
  · (repeat' (first | assumption | exact va_up_self _ _ _ | refine x_lk (by omega) ?_))
  · omega
  · omega
  refine xr_istore_n a_AtomList_swapWithNext_6 (by decide) rfl ?_
  refine xr_aload_n a_AtomList_swapWithNext_7 rfl ?_
  apply xr_getf a_AtomList_swapWithNext_8
  · (repeat' (first | assumption | exact va_up_self _ _ _ | refine x_lk (by omega) ?_))
  · rfl
  refine xr_iload_n a_AtomList_swapWithNext_11 rfl ?_
  apply xn_iaload a_AtomList_swapWithNext_12
  · (repeat' (first | assumption | exact va_up_self _ _ _ | refine x_lk (by omega) ?_))
  · omega
  · omega
  refine xr_istore_n a_AtomList_swapWithNext_13 (by decide) rfl ?_
  refine xr_aload_n a_AtomList_swapWithNext_14 rfl ?_
  apply xr_getf a_AtomList_swapWithNext_15
  · (repeat' (first | assumption | exact va_up_self _ _ _ | refine x_lk (by omega) ?_))
  · rfl
  refine xr_iload_n a_AtomList_swapWithNext_18 rfl ?_
  apply xn_iaload a_AtomList_swapWithNext_19
  · (repeat' (first | assumption | exact va_up_self _ _ _ | refine x_lk (by omega) ?_))
  · omega
  · omega
  refine xr_istore a_AtomList_swapWithNext_20 (by decide) rfl ?_
  refine xr_aload_n a_AtomList_swapWithNext_22 rfl ?_
  refine xr_iload_n a_AtomList_swapWithNext_23 rfl ?_
  refine xr_aload_n a_AtomList_swapWithNext_24 rfl ?_
  apply xr_getf a_AtomList_swapWithNext_25
  · (repeat' (first | assumption | exact va_up_self _ _ _ | refine x_lk (by omega) ?_))
  · rfl
  refine xr_iload_n a_AtomList_swapWithNext_28 rfl ?_
  refine xr_iconst a_AtomList_swapWithNext_29 (v := nI 1) (by decide +kernel) ?_
  first | refine xn_iadd a_AtomList_swapWithNext_30 ?_ | refine xr_iadd a_AtomList_swapWithNext_30 ?_
  apply xn_iaload a_AtomList_swapWithNext_31
  · (repeat' (first | assumption | exact va_up_self _ _ _ | refine x_lk (by omega) ?_))
  · omega
  · omega
  refine xr_aload_n a_AtomList_swapWithNext_32 rfl ?_
  apply xr_getf a_AtomList_swapWithNext_33
  · (repeat' (first | assumption | exact va_up_self _ _ _ | refine x_lk (by omega) ?_))
  · rfl
  refine xr_iload_n a_AtomList_swapWithNext_36 rfl ?_
  refine xr_iconst a_AtomList_swapWithNext_37 (v := nI 1) (by decide +kernel) ?_
  first | refine xn_iadd a_AtomList_swapWithNext_38 ?_ | refine xr_iadd a_AtomList_swapWithNext_38 ?_
  apply xn_iaload a_AtomList_swapWithNext_39
  · (repeat' (first | assumption | exact va_up_self _ _ _ | refine x_lk (by omega) ?_))
  · omega
  · omega
  refine xr_aload_n a_AtomList_swapWithNext_40 rfl ?_
  apply xr_getf a_AtomList_swapWithNext_41
  · (repeat' (first | assumption | exact va_up_self _ _ _ | refine x_lk (by omega) ?_))
  · rfl
  refine xr_iload_n a_AtomList_swapWithNext_44 rfl ?_
  refine xr_iconst a_AtomList_swapWithNext_45 (v := nI 1) (by decide +kernel) ?_
  first | refine xn_iadd a_AtomList_swapWithNext_46 ?_ | refine xr_iadd a_AtomList_swapWithNext_46 ?_
  apply xn_iaload a_AtomList_swapWithNext_47
  · (repeat' (first | assumption | exact va_up_self _ _ _ | refine x_lk (by omega) ?_))
  · omega
  · omega
  refine xr_invV a_AtomList_swapWithNext_48 (by (repeat' (first | assumption | exact va_up_self _ _ _ | refine x_lk (by omega) ?_))) (t_AtomList_set (d := 0) p' (i := i) (by omega) hc) rfl rfl (by omega) (by omega) (by omega) (Nat.le_of_ble_eq_true rfl) ?_
  rintro _ _ h1 ⟨rfl, rfl, f1, q1⟩
  refine xr_aload_n a_AtomList_swapWithNext_51 rfl ?_
  refine xr_iload_n a_AtomList_swapWithNext_52 rfl ?_
  refine xr_iconst a_AtomList_swapWithNext_53 (v := nI 1) (by decide +kernel) ?_
  first | refine xn_iadd a_AtomList_swapWithNext_54 ?_ | refine xr_iadd a_AtomList_swapWithNext_54 ?_
  refine xr_iload_n a_AtomList_swapWithNext_55 rfl ?_
  refine xr_iload_n a_AtomList_swapWithNext_56 rfl ?_
  refine xr_iload a_AtomList_swapWithNext_57 rfl ?_
  refine xr_invV a_AtomList_swapWithNext_59 (by exact q1.1) (t_AtomList_set (d := 0) q1 (i := i + 1) (by omega) hc) rfl rfl (by omega) (by omega) (by omega) (Nat.le_of_ble_eq_true rfl) ?_
  rintro _ _ h2 ⟨rfl, rfl, f2, q2⟩
  refine xr_return a_AtomList_swapWithNext_62 rfl (by omega) (by omega) ?_
  exact ⟨rfl, rfl, f1.tr f2, q2⟩
theorem t_AtomList_moveToEnd {i : Nat} (p : isAL h r cap m H F S) (hi : i < m) (hm : m ≤ cap) (hc : cap < 100) (hd : 2 ≤ d) : XM d 0 0 k_AtomList_moveToEnd L xs [.ref r, .int (nI i)] n h (qV n (fun h' => xfr r (r + 4) h h' ∧ isAL h' r cap m (vRot H i (m - 1 - i)) (vRot F i (m - 1 - i)) (vRot S i (m - 1 - i)))) := by
  refine XM.of rfl (Nat.le_of_ble_eq_true rfl) ?_
  have loop : ∀ (k j : Nat) (h' : xH) (H' F' S' : Nat → Nat), j + 1 + k = m → xfr r (r + 4) h h' → isAL h' r cap m H' F' S' → vRot H' j k = vRot H i (m - 1 - i) → vRot F' j k = vRot F i (m - 1 - i) → vRot S' j k = vRot S i (m - 1 - i) → XW (x_rm d 0 0) k_AtomList_moveToEnd L xs (x_mq 0 0 (qV n (fun h' => xfr r (r + 4) h h' ∧ isAL h' r cap m (vRot H i (m - 1 - i)) (vRot F i (m - 1 - i)) (vRot S i (m - 1 - i))))) 0 0 2 [(0, .ref r), (1, .int (nI i)), (2, .int (nI j))] [] n h' := by
    intro k
    induction k with
    | zero =>
      intro j h' H' F' S' hj f q e1 e2 e3
      have q' := q
      obtain ⟨q0, -, -, -⟩ := q
      refine xr_iload_n a_AtomList_moveToEnd_2 rfl ?_
      refine xr_iconst a_AtomList_moveToEnd_3 (v := nI 1) (by decide +kernel) ?_
      first | refine xn_iadd a_AtomList_moveToEnd_4 ?_ | refine xr_iadd a_AtomList_moveToEnd_4 ?_
      refine xr_aload_n a_AtomList_moveToEnd_5 rfl ?_
      apply xr_getf a_AtomList_moveToEnd_6
      · (repeat' (first | assumption | exact va_up_self _ _ _ | refine x_lk (by omega) ?_))
      · rfl
      refine xn_icmp_ge a_AtomList_moveToEnd_9 (by omega) (by omega) (fun b9 => ?_) (fun b9 => ?_)
      · refine xr_return a_AtomList_moveToEnd_23 rfl (by omega) (by omega) ?_
        refine ⟨rfl, rfl, f, ?_⟩
        rw [← e1, ← e2, ← e3]
        exact q'
      · omega
    | succ k ih =>
      intro j h' H' F' S' hj f q e1 e2 e3
      have q' := q
      obtain ⟨q0, -, -, -⟩ := q
      refine xr_iload_n a_AtomList_moveToEnd_2 rfl ?_
      refine xr_iconst a_AtomList_moveToEnd_3 (v := nI 1) (by decide +kernel) ?_
      first | refine xn_iadd a_AtomList_moveToEnd_4 ?_ | refine xr_iadd a_AtomList_moveToEnd_4 ?_
      refine xr_aload_n a_AtomList_moveToEnd_5 rfl ?_
      apply xr_getf a_AtomList_moveToEnd_6
      · (repeat' (first | assumption | exact va_up_self _ _ _ | refine x_lk (by omega) ?_))
      · rfl
      refine xn_icmp_ge a_AtomList_moveToEnd_9 (by omega) (by omega) (fun b9 => ?_) (fun b9 => ?_)
      · omega
      · refine xr_aload_n a_AtomList_moveToEnd_12 rfl ?_
        refine xr_iload_n a_AtomList_moveToEnd_13 rfl ?_
        refine xr_invV a_AtomList_moveToEnd_14 (by (repeat' (first | assumption | exact va_up_self _ _ _ | refine x_lk (by omega) ?_))) (t_AtomList_swap (d := 1) q' (i := j) (by omega) hc (by omega)) rfl rfl (by omega) (by omega) (by omega) (Nat.le_of_ble_eq_true rfl) ?_
        rintro _ _ h1 ⟨rfl, rfl, f1, q1⟩
        first | refine xn_iinc a_AtomList_moveToEnd_17 rfl (by decide) rfl ?_ | refine xr_iinc a_AtomList_moveToEnd_17 rfl rfl (by decide) rfl ?_
        refine xr_goto a_AtomList_moveToEnd_20 ?_
        refine xr_ls [(0, .ref r), (1, .int (nI i)), (2, .int (nI (j + 1)))] ⟨rfl, rfl, rfl, trivial⟩ ?_
        exact ih (j + 1) h1 _ _ _ (by omega) (f.tr f1) q1 e1 e2 e3
  refine xr_iload_n a_AtomList_moveToEnd_0 rfl ?_
  refine xr_istore_n a_AtomList_moveToEnd_1 (by decide) rfl ?_
  refine xr_ls [(0, .ref r), (1, .int (nI i)), (2, .int (nI i))] ⟨rfl, rfl, rfl, trivial⟩ ?_
  exact loop (m - 1 - i) i h H F S (by omega) xfr.rf p rfl rfl rfl
theorem t_AtomList_takeOut {i : Nat} (p : isAL h r cap (m + 1) H F S) (hi : i ≤ m) (hm : m + 1 ≤ cap) (hc : cap < 100) (hd : 3 ≤ d) : XM d 0 0 k_AtomList_takeOut L xs [.ref r, .int (nI i)] n h (qV n (fun h' => xfr r (r + 4) h h' ∧ isAL h' r cap m (vRot H i (m - i)) (vRot F i (m - i)) (vRot S i (m - i)))) := by
  have p' := p
  obtain ⟨p0, p1, p2, p3⟩ := p
  refine XM.of rfl (Nat.le_of_ble_eq_true rfl) ?_
  refine xr_aload_n a_AtomList_takeOut_0 rfl ?_
  refine xr_iload_n a_AtomList_takeOut_1 rfl ?_
  refine xr_invV a_AtomList_takeOut_2 (by (repeat' (first | assumption | exact va_up_self _ _ _ | refine x_lk (by omega) ?_))) (t_AtomList_moveToEnd (d := 2) p' (i := i) (by omega) hm hc (by omega)) rfl rfl (by omega) (by omega) (by omega) (Nat.le_of_ble_eq_true rfl) ?_
  rintro _ _ h1 ⟨rfl, rfl, f1, q0, q1, q2, q3⟩
  refine xr_aload_n a_AtomList_takeOut_5 rfl ?_
  refine xr_dup a_AtomList_takeOut_6 rfl ?_
  apply xr_getf a_AtomList_takeOut_7
  · (repeat' (first | assumption | exact va_up_self _ _ _ | refine x_lk (by omega) ?_))
  · rfl
  refine xr_iconst a_AtomList_takeOut_10 (v := nI 1) (by decide +kernel) ?_
  first | refine xn_isub a_AtomList_takeOut_11 (by omega) ?_ | refine xr_isub a_AtomList_takeOut_11 ?_
  apply xr_putf a_AtomList_takeOut_12
  · (repeat' (first | assumption | exact va_up_self _ _ _ | refine x_lk (by omega) ?_))
  · exact Nat.le_of_ble_eq_true rfl
  · rfl
  · rfl
  refine xr_return a_AtomList_takeOut_15 rfl (by omega) (by omega) ?_
  exact ⟨rfl, rfl, f1.up (by omega) (by omega), by (repeat' (first | assumption | exact va_up_self _ _ _ | refine x_lk (by omega) ?_)), by (repeat' (first | assumption | exact va_up_self _ _ _ | refine x_lk (by omega) ?_)), by (repeat' (first | assumption | exact va_up_self _ _ _ | refine x_lk (by omega) ?_)), by (repeat' (first | assumption | exact va_up_self _ _ _ | refine x_lk (by omega) ?_))⟩
theorem x_dec (x : Int32) : x + Int32.ofInt (-1) = x - nI 1 := by
  rw [Int32.sub_eq_add_neg, x_om]
  exact congrArg (x + ·) (by decide +kernel : (-1 : Int32) = -nI 1)
theorem t_AtomList_moveForward {i p0 : Nat} (p : isAL h r cap m H F S) (hi : p0 + i < cap) (hc : cap < 100) (hd : 2 ≤ d) : XM d 0 0 k_AtomList_moveForward L xs [.ref r, .int (nI (p0 + i)), .int (nI p0)] n h (qV n (fun h' => xfr r (r + 4) h h' ∧ isAL h' r cap m (vBack H p0 i) (vBack F p0 i) (vBack S p0 i))) := by
  refine XM.of rfl (Nat.le_of_ble_eq_true rfl) ?_
  have loop : ∀ (k : Nat) (h' : xH) (H' F' S' : Nat → Nat), k ≤ i → xfr r (r + 4) h h' → isAL h' r cap m H' F' S' → vBack H' p0 k = vBack H p0 i → vBack F' p0 k = vBack F p0 i → vBack S' p0 k = vBack S p0 i → XW (x_rm d 0 0) k_AtomList_moveForward L xs (x_mq 0 0 (qV n (fun h' => xfr r (r + 4) h h' ∧ isAL h' r cap m (vBack H p0 i) (vBack F p0 i) (vBack S p0 i)))) 0 0 4 [(0, .ref r), (1, .int (nI (p0 + i))), (2, .int (nI p0)), (3, .int (nI (p0 + k) - nI 1))] [] n h' := by
    intro k
    induction k with
    | zero =>
      intro h' H' F' S' hj f q e1 e2 e3
      refine xr_iload_n a_AtomList_moveForward_4 rfl ?_
      refine xr_iload_n a_AtomList_moveForward_5 rfl ?_
      refine xr_icmp_lt a_AtomList_moveForward_6 (fun b6 => ?_) (fun b6 => ?_)
      · refine xr_return a_AtomList_moveForward_20 rfl (by omega) (by omega) ?_
        refine ⟨rfl, rfl, f, ?_⟩
        rw [← e1, ← e2, ← e3]
        exact q
      · exfalso
        apply b6
        rw [Int32.lt_iff_toInt_lt, pk_sub_toInt (by omega) (by omega), nI_toInt (by omega)]
        omega
    | succ k ih =>
      intro h' H' F' S' hj f q e1 e2 e3
      have q' := q
      obtain ⟨q0, -, -, -⟩ := q
      rw [show nI (p0 + (k + 1)) - nI 1 = nI (p0 + k) from pk_sub (a := p0 + k + 1) (by omega)]
      refine xr_iload_n a_AtomList_moveForward_4 rfl ?_
      refine xr_iload_n a_AtomList_moveForward_5 rfl ?_
      refine xn_icmp_lt a_AtomList_moveForward_6 (by omega) (by omega) (fun b6 => ?_) (fun b6 => ?_)
      · omega
      · refine xr_aload_n a_AtomList_moveForward_9 rfl ?_
        refine xr_iload_n a_AtomList_moveForward_10 rfl ?_
        refine xr_invV a_AtomList_moveForward_11 (by (repeat' (first | assumption | exact va_up_self _ _ _ | refine x_lk (by omega) ?_))) (t_AtomList_swap (d := 1) q' (i := p0 + k) (by omega) hc (by omega)) rfl rfl (by omega) (by omega) (by omega) (Nat.le_of_ble_eq_true rfl) ?_
        rintro _ _ h1 ⟨rfl, rfl, f1, q1⟩
        refine xr_iinc a_AtomList_moveForward_14 rfl (x_dec _) (by decide) rfl ?_
        refine xr_goto a_AtomList_moveForward_17 ?_
        refine xr_ls [(0, .ref r), (1, .int (nI (p0 + i))), (2, .int (nI p0)), (3, .int (nI (p0 + k) - nI 1))] ⟨rfl, rfl, rfl, rfl, trivial⟩ ?_
        exact ih h1 _ _ _ (by omega) (f.tr f1) q1 e1 e2 e3
  refine xr_iload_n a_AtomList_moveForward_0 rfl ?_
  refine xr_iconst a_AtomList_moveForward_1 (v := nI 1) (by decide +kernel) ?_
  refine xr_isub a_AtomList_moveForward_2 ?_
  refine xr_istore_n a_AtomList_moveForward_3 (by decide) rfl ?_
  refine xr_ls [(0, .ref r), (1, .int (nI (p0 + i))), (2, .int (nI p0)), (3, .int (nI (p0 + i) - nI 1))] ⟨rfl, rfl, rfl, rfl, trivial⟩ ?_
  exact loop i h H F S (Nat.le_refl _) xfr.rf p rfl rfl rfl
theorem t_AtomList_has {t : Nat} (p : isAL h r cap m H F S) (hm : m ≤ cap) (hc : cap < 100) (ht : t < 100) (hF : ∀ i, i < m → F i < 100 ∧ S i < 100) : XM d 0 0 k_AtomList_has L xs [.ref r, .int (nI t)] n h (qR n h (nI (vB (∃ i, i < m ∧ (F i = t ∨ S i = t))))) := by
  obtain ⟨p0, p1, p2, p3⟩ := p
  refine XM.of rfl (Nat.le_of_ble_eq_true rfl) ?_
  have loop : ∀ k i, i + k = m → (∀ j, j < i → ¬ (F j = t ∨ S j = t)) → XW (x_rm d 0 0) k_AtomList_has L xs (x_mq 0 0 (qR n h (nI (vB (∃ i, i < m ∧ (F i = t ∨ S i = t)))))) 0 0 2 [(0, .ref r), (1, .int (nI t)), (2, .int (nI i))] [] n h := by
    intro k
    induction k with
    | zero =>
      intro i hi he
      refine xr_iload_n a_AtomList_has_2 rfl ?_
      refine xr_aload_n a_AtomList_has_3 rfl ?_
      apply xr_getf a_AtomList_has_4
      · (repeat' (first | assumption | exact va_up_self _ _ _ | refine x_lk (by omega) ?_))
      · rfl
      refine xn_icmp_ge a_AtomList_has_7 (by omega) (by omega) (fun b7 => ?_) (fun b7 => ?_)
      · refine xr_iconst a_AtomList_has_38 (v := nI 0) (by decide +kernel) ?_
        refine xr_ireturn a_AtomList_has_39 rfl rfl (by omega) (by omega) ?_
        refine ⟨?_, rfl, rfl⟩
        rw [vB_f (fun ⟨j, hj, q⟩ => he j (by omega) q)]
      · omega
    | succ k ih =>
      intro i hi he
      have hb := hF i (by omega)
      refine xr_iload_n a_AtomList_has_2 rfl ?_
      refine xr_aload_n a_AtomList_has_3 rfl ?_
      apply xr_getf a_AtomList_has_4
      · (repeat' (first | assumption | exact va_up_self _ _ _ | refine x_lk (by omega) ?_))
      · rfl
      refine xn_icmp_ge a_AtomList_has_7 (by omega) (by omega) (fun b7 => ?_) (fun b7 => ?_)
      · omega
      · refine xr_aload_n a_AtomList_has_10 rfl ?_
        apply xr_getf a_AtomList_has_11
        · (repeat' (first | assumption | exact va_up_self _ _ _ | refine x_lk (by omega) ?_))
        · rfl
        refine xr_iload_n a_AtomList_has_14 rfl ?_
        apply xn_iaload a_AtomList_has_15
        · (repeat' (first | assumption | exact va_up_self _ _ _ | refine x_lk (by omega) ?_))
        · omega
        · omega
        refine xr_iload_n a_AtomList_has_16 rfl ?_
        refine xn_icmp_eq a_AtomList_has_17 (by omega) (by omega) (fun b17 => ?_) (fun b17 => ?_)
        · refine xr_iconst a_AtomList_has_30 (v := nI 1) (by decide +kernel) ?_
          refine xr_ireturn a_AtomList_has_31 rfl rfl (by omega) (by omega) ?_
          refine ⟨?_, rfl, rfl⟩
          rw [vB_t ⟨i, by omega, Or.inl b17⟩]
        · refine xr_aload_n a_AtomList_has_20 rfl ?_
          apply xr_getf a_AtomList_has_21
          · (repeat' (first | assumption | exact va_up_self _ _ _ | refine x_lk (by omega) ?_))
          · rfl
          refine xr_iload_n a_AtomList_has_24 rfl ?_
          apply xn_iaload a_AtomList_has_25
          · (repeat' (first | assumption | exact va_up_self _ _ _ | refine x_lk (by omega) ?_))
          · omega
          · omega
          refine xr_iload_n a_AtomList_has_26 rfl ?_
          refine xn_icmp_ne a_AtomList_has_27 (by omega) (by omega) (fun b27 => ?_) (fun b27 => ?_)
          · first | refine xn_iinc a_AtomList_has_32 rfl (by decide) rfl ?_ | refine xr_iinc a_AtomList_has_32 rfl rfl (by decide) rfl ?_
            refine xr_goto a_AtomList_has_35 ?_
            refine xr_ls [(0, .ref r), (1, .int (nI t)), (2, .int (nI (i + 1)))] ⟨rfl, rfl, rfl, trivial⟩ ?_
            refine ih (i + 1) (by omega) (fun j hj => ?_)
            by_cases e : j = i
            · rw [e]
              rintro (q | q)
              · exact b17 q
              · exact b27 q
            · exact he j (by omega)
          · refine xr_iconst a_AtomList_has_30 (v := nI 1) (by decide +kernel) ?_
            refine xr_ireturn a_AtomList_has_31 rfl rfl (by omega) (by omega) ?_
            refine ⟨?_, rfl, rfl⟩
            rw [vB_t ⟨i, by omega, Or.inr b27⟩]
  refine xr_iconst a_AtomList_has_0 (v := nI 0) (by decide +kernel) ?_
  refine xr_istore_n a_AtomList_has_1 (by decide) rfl ?_
  refine xr_ls [(0, .ref r), (1, .int (nI t)), (2, .int (nI 0))] ⟨rfl, rfl, rfl, trivial⟩ ?_
  exact loop m 0 (by omega) (fun j hj => by omega)
def vSf (m : Nat) (F S : Nat → Nat) : Prop := (∃ i, i < m ∧ (F i = 16 ∨ S i = 16)) ∧ ∃ i, i < m ∧ (F i = 17 ∨ S i = 17)
theorem t_AtomList_isSafe (p : isAL h r cap m H F S) (hm : m ≤ cap) (hc : cap < 100) (hF : ∀ i, i < m → F i < 100 ∧ S i < 100) (hd : 1 ≤ d) : XM d 0 0 k_AtomList_isSafe L xs [.ref r] n h (qR n h (nI (vB (vSf m F S)))) := by
  refine XM.of rfl (Nat.le_of_ble_eq_true rfl) ?_
  refine xr_aload_n a_AtomList_isSafe_0 rfl ?_
  refine xr_bipush a_AtomList_isSafe_1 (v := nI 16) (by decide +kernel) ?_
  refine xr_invV a_AtomList_isSafe_3 (by exact p.1) (t_AtomList_has (d := 0) p (t := 16) hm hc (by omega) hF) rfl rfl (by omega) (by omega) (by omega) (Nat.le_of_ble_eq_true rfl) ?_
  rintro _ _ h1 ⟨rfl, rfl, rfl⟩
  refine xn_if_eq a_AtomList_isSafe_6 (vB_lt31 _) (fun b6 => ?_) (fun b6 => ?_)
  · refine xr_iconst a_AtomList_isSafe_22 (v := nI 0) (by decide +kernel) ?_
    refine xr_ireturn a_AtomList_isSafe_23 rfl rfl (by omega) (by omega) ?_
    refine ⟨?_, rfl, rfl⟩
    rw [vB_f (fun z => vB_0 b6 z.1)]
  · refine xr_aload_n a_AtomList_isSafe_9 rfl ?_
    refine xr_bipush a_AtomList_isSafe_10 (v := nI 17) (by decide +kernel) ?_
    refine xr_invV a_AtomList_isSafe_12 (by exact p.1) (t_AtomList_has (d := 0) p (t := 17) hm hc (by omega) hF) rfl rfl (by omega) (by omega) (by omega) (Nat.le_of_ble_eq_true rfl) ?_
    rintro _ _ h1 ⟨rfl, rfl, rfl⟩
    refine xn_if_eq a_AtomList_isSafe_15 (vB_lt31 _) (fun b15 => ?_) (fun b15 => ?_)
    · refine xr_iconst a_AtomList_isSafe_22 (v := nI 0) (by decide +kernel) ?_
      refine xr_ireturn a_AtomList_isSafe_23 rfl rfl (by omega) (by omega) ?_
      refine ⟨?_, rfl, rfl⟩
      rw [vB_f (fun z => vB_0 b15 z.2)]
    · refine xr_iconst a_AtomList_isSafe_18 (v := nI 1) (by decide +kernel) ?_
      refine xr_goto a_AtomList_isSafe_19 ?_
      refine xr_ireturn a_AtomList_isSafe_23 rfl rfl (by omega) (by omega) ?_
      refine ⟨?_, rfl, rfl⟩
      rw [vB_t ⟨vB_1 b6, vB_1 b15⟩]
theorem t_AtomList_codeAt {i : Nat} (p : isAL h r cap m H F S) (hi : i < cap) (hc : cap < 100) : XM d 0 0 k_AtomList_codeAt L xs [.ref r, .int (nI i)] n h (qR n h (nI ((H i * 64 + F i) * 64 + S i))) := by
  obtain ⟨p0, p1, p2, p3⟩ := p
  refine XM.of rfl (Nat.le_of_ble_eq_true rfl) ?_
  refine xr_aload_n a_AtomList_codeAt_0 rfl ?_
  apply xr_getf a_AtomList_codeAt_1
  · (repeat' (first | assumption | exact va_up_self _ _ _ | refine x_lk (by omega) ?_))
  · rfl
  refine xr_iload_n a_AtomList_codeAt_4 rfl ?_
  apply xn_iaload a_AtomList_codeAt_5
  · (repeat' (first | assumption | exact va_up_self _ _ _ | refine x_lk (by omega) ?_))
  · omega
  · omega
  refine xr_bipush a_AtomList_codeAt_6 (v := nI 64) (by decide +kernel) ?_
  first | refine xn_imul a_AtomList_codeAt_8 ?_ | refine xr_imul a_AtomList_codeAt_8 ?_
  refine xr_aload_n a_AtomList_codeAt_9 rfl ?_
  apply xr_getf a_AtomList_codeAt_10
  · (repeat' (first | assumption | exact va_up_self _ _ _ | refine x_lk (by omega) ?_))
  · rfl
  refine xr_iload_n a_AtomList_codeAt_13 rfl ?_
  apply xn_iaload a_AtomList_codeAt_14
  · (repeat' (first | assumption | exact va_up_self _ _ _ | refine x_lk (by omega) ?_))
  · omega
  · omega
  first | refine xn_iadd a_AtomList_codeAt_15 ?_ | refine xr_iadd a_AtomList_codeAt_15 ?_
  refine xr_bipush a_AtomList_codeAt_16 (v := nI 64) (by decide +kernel) ?_
  first | refine xn_imul a_AtomList_codeAt_18 ?_ | refine xr_imul a_AtomList_codeAt_18 ?_
  refine xr_aload_n a_AtomList_codeAt_19 rfl ?_
  apply xr_getf a_AtomList_codeAt_20
  · (repeat' (first | assumption | exact va_up_self _ _ _ | refine x_lk (by omega) ?_))
  · rfl
  refine xr_iload_n a_AtomList_codeAt_23 rfl ?_
  apply xn_iaload a_AtomList_codeAt_24
  · (repeat' (first | assumption | exact va_up_self _ _ _ | refine x_lk (by omega) ?_))
  · omega
  · omega
  first | refine xn_iadd a_AtomList_codeAt_25 ?_ | refine xr_iadd a_AtomList_codeAt_25 ?_
  refine xr_ireturn a_AtomList_codeAt_26 rfl rfl (by omega) (by omega) ?_
  exact ⟨rfl, rfl, rfl⟩
end T21

