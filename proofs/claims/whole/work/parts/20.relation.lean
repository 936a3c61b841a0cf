/-! Relation -/
def vFd (m : Nat) (X Y : Nat → Nat) (x y : Int32) : Option Nat := rF (fun i => decide (nI (X i) = x ∧ nI (Y i) = y)) 0 m
theorem vFd_lt {m : Nat} {X Y : Nat → Nat} {x y : Int32} {j : Nat} (h : vFd m X Y x y = some j) : j < m := by have := (rF_some h).2.1; omega
section T20
variable {d L : Nat} {xs : Nat → Int32} {n : Nat} {h : xH} {r m : Nat} {X Y : Nat → Nat} {al fa : Nat}
theorem t_Relation_placeOf {x y : Int32} (p : isRel h r m X Y al fa) (hm : m ≤ 8) : XM d 0 0 k_Relation_placeOf L xs [.ref r, .int x, .int y] n h (qR n h (oI (vFd m X Y x y))) := by
  obtain ⟨p0, p1, p2⟩ := p
  refine XM.of rfl (Nat.le_of_ble_eq_true rfl) ?_
  have loop : ∀ k i, i + k = m → rF (fun i => decide (nI (X i) = x ∧ nI (Y i) = y)) i k = vFd m X Y x y → XW (x_rm d 0 0) k_Relation_placeOf L xs (x_mq 0 0 (qR n h (oI (vFd m X Y x y)))) 0 0 2 [(0, .ref r), (1, .int x), (2, .int y), (3, .int (nI i))] [] n h := by
    intro k
    induction k with
    | zero =>
      intro i hi he
      refine xr_iload_n a_Relation_placeOf_2 rfl ?_
      refine xr_aload_n a_Relation_placeOf_3 rfl ?_
      apply xr_getf a_Relation_placeOf_4
      · (repeat' (first | assumption | exact va_up_self _ _ _ | refine x_lk (by omega) ?_))
      · rfl
      refine xn_icmp_ge a_Relation_placeOf_7 (by omega) (by omega) (fun b7 => ?_) (fun b7 => ?_)
      · refine xr_iconst a_Relation_placeOf_38 (v := -1) (by decide +kernel) ?_
        refine xr_ireturn a_Relation_placeOf_39 rfl rfl (by omega) (by omega) ?_
        exact ⟨by rw [← he]; rfl, rfl, rfl⟩
      · omega
    | succ k ih =>
      intro i hi he
      refine xr_iload_n a_Relation_placeOf_2 rfl ?_
      refine xr_aload_n a_Relation_placeOf_3 rfl ?_
      apply xr_getf a_Relation_placeOf_4
      · (repeat' (first | assumption | exact va_up_self _ _ _ | refine x_lk (by omega) ?_))
      · rfl
      refine xn_icmp_ge a_Relation_placeOf_7 (by omega) (by omega) (fun b7 => ?_) (fun b7 => ?_)
      · omega
      · refine xr_aload_n a_Relation_placeOf_10 rfl ?_
        apply xr_getf a_Relation_placeOf_11
        · (repeat' (first | assumption | exact va_up_self _ _ _ | refine x_lk (by omega) ?_))
        · rfl
        refine xr_iload_n a_Relation_placeOf_14 rfl ?_
        apply xn_iaload a_Relation_placeOf_15
        · (repeat' (first | assumption | exact va_up_self _ _ _ | refine x_lk (by omega) ?_))
        · omega
        · omega
        refine xr_iload_n a_Relation_placeOf_16 rfl ?_
        refine xr_icmp_ne a_Relation_placeOf_17 (fun b17 => ?_) (fun b17 => ?_)
        · first | refine xn_iinc a_Relation_placeOf_32 rfl (by decide) rfl ?_ | refine xr_iinc a_Relation_placeOf_32 rfl rfl (by decide) rfl ?_
          refine xr_goto a_Relation_placeOf_35 ?_
          refine xr_ls [(0, .ref r), (1, .int x), (2, .int y), (3, .int (nI (i + 1)))] ⟨rfl, rfl, rfl, rfl, trivial⟩ ?_
          refine ih (i + 1) (by omega) ?_
          rw [← he]
          exact (rF_no (decide_eq_false fun z => b17 z.1)).symm
        · refine xr_aload_n a_Relation_placeOf_20 rfl ?_
          apply xr_getf a_Relation_placeOf_21
          · (repeat' (first | assumption | exact va_up_self _ _ _ | refine x_lk (by omega) ?_))
          · rfl
          refine xr_iload_n a_Relation_placeOf_24 rfl ?_
          apply xn_iaload a_Relation_placeOf_25
          · (repeat' (first | assumption | exact va_up_self _ _ _ | refine x_lk (by omega) ?_))
          · omega
          · omega
          refine xr_iload_n a_Relation_placeOf_26 rfl ?_
          refine xr_icmp_ne a_Relation_placeOf_27 (fun b27 => ?_) (fun b27 => ?_)
          · first | refine xn_iinc a_Relation_placeOf_32 rfl (by decide) rfl ?_ | refine xr_iinc a_Relation_placeOf_32 rfl rfl (by decide) rfl ?_
            refine xr_goto a_Relation_placeOf_35 ?_
            refine xr_ls [(0, .ref r), (1, .int x), (2, .int y), (3, .int (nI (i + 1)))] ⟨rfl, rfl, rfl, rfl, trivial⟩ ?_
            refine ih (i + 1) (by omega) ?_
            rw [← he]
            exact (rF_no (decide_eq_false fun z => b27 z.2)).symm
          · refine xr_iload_n a_Relation_placeOf_30 rfl ?_
            refine xr_ireturn a_Relation_placeOf_31 rfl rfl (by omega) (by omega) ?_
            refine ⟨?_, rfl, rfl⟩
            rw [← he, rF_yes (decide_eq_true ⟨b17, b27⟩)]
            rfl
  refine xr_iconst a_Relation_placeOf_0 (v := nI 0) (by decide +kernel) ?_
  refine xr_istore_n a_Relation_placeOf_1 (by decide) rfl ?_
  refine xr_ls [(0, .ref r), (1, .int x), (2, .int y), (3, .int (nI 0))] ⟨rfl, rfl, rfl, rfl, trivial⟩ ?_
  exact loop m 0 (by omega) rfl
theorem t_Relation_put {x y : Nat} (p : isRel h r m X Y al fa) (hm : m ≤ 8) (hd : 1 ≤ d) : XM d 0 0 k_Relation_put L xs [.ref r, .int (nI x), .int (nI y)] n h (qP n (nI (vB (m < 8 ∧ vFd m X Y (nI x) (nI y) = none))) (fun h' => xfr r (r + 3) h h' ∧ if m < 8 ∧ vFd m X Y (nI x) (nI y) = none then isRel h' r (m + 1) (va_up X m x) (va_up Y m y) al fa else h' = h)) := by
  have c := @t_Relation_placeOf 0 L xs n h r m X Y al fa (nI x) (nI y) p hm
  obtain ⟨p0, p1, p2⟩ := p
  refine XM.of rfl (Nat.le_of_ble_eq_true rfl) ?_
  refine xr_aload_n a_Relation_put_0 rfl ?_
  apply xr_getf a_Relation_put_1
  · (repeat' (first | assumption | exact va_up_self _ _ _ | refine x_lk (by omega) ?_))
  · rfl
  refine xr_bipush a_Relation_put_4 (v := nI 8) (by decide +kernel) ?_
  refine xn_icmp_ge a_Relation_put_6 (by omega) (by omega) (fun b6 => ?_) (fun b6 => ?_)
  · refine xr_iconst a_Relation_put_19 (v := nI 0) (by decide +kernel) ?_
    refine xr_ireturn a_Relation_put_20 rfl rfl (by omega) (by omega) ?_
    refine ⟨?_, rfl, xfr.rf, ?_⟩
    · rw [vB_f (by omega)]
    · rw [if_neg (by omega)]
  · refine xr_aload_n a_Relation_put_9 rfl ?_
    refine xr_iload_n a_Relation_put_10 rfl ?_
    refine xr_iload_n a_Relation_put_11 rfl ?_
    refine xr_invV a_Relation_put_12 (by (repeat' (first | assumption | exact va_up_self _ _ _ | refine x_lk (by omega) ?_))) (c) rfl rfl (by omega) (by omega) (by omega) (Nat.le_of_ble_eq_true rfl) ?_
    rintro _ _ h1 ⟨rfl, rfl, rfl⟩
    refine xr_iconst a_Relation_put_15 (v := -1) (by decide +kernel) ?_
    refine xo_icmp_eq a_Relation_put_16 (fun k hk => by have := vFd_lt hk; omega) (fun b16 => ?_) (fun b16 => ?_)
    · refine xr_aload_n a_Relation_put_21 rfl ?_
      apply xr_getf a_Relation_put_22
      · (repeat' (first | assumption | exact va_up_self _ _ _ | refine x_lk (by omega) ?_))
      · rfl
      refine xr_aload_n a_Relation_put_25 rfl ?_
      apply xr_getf a_Relation_put_26
      · (repeat' (first | assumption | exact va_up_self _ _ _ | refine x_lk (by omega) ?_))
      · rfl
      refine xr_iload_n a_Relation_put_29 rfl ?_
      apply xn_iastore a_Relation_put_30
      · (repeat' (first | assumption | exact va_up_self _ _ _ | refine x_lk (by omega) ?_))
      · omega
      · omega
      refine xr_aload_n a_Relation_put_31 rfl ?_
      apply xr_getf a_Relation_put_32
      · (repeat' (first | assumption | exact va_up_self _ _ _ | refine x_lk (by omega) ?_))
      · rfl
      refine xr_aload_n a_Relation_put_35 rfl ?_
      apply xr_getf a_Relation_put_36
      · (repeat' (first | assumption | exact va_up_self _ _ _ | refine x_lk (by omega) ?_))
      · rfl
      refine xr_iload_n a_Relation_put_39 rfl ?_
      apply xn_iastore a_Relation_put_40
      · (repeat' (first | assumption | exact va_up_self _ _ _ | refine x_lk (by omega) ?_))
      · omega
      · omega
      refine xr_aload_n a_Relation_put_41 rfl ?_
      refine xr_dup a_Relation_put_42 rfl ?_
      apply xr_getf a_Relation_put_43
      · (repeat' (first | assumption | exact va_up_self _ _ _ | refine x_lk (by omega) ?_))
      · rfl
      refine xr_iconst a_Relation_put_46 (v := nI 1) (by decide +kernel) ?_
      first | refine xn_iadd a_Relation_put_47 ?_ | refine xr_iadd a_Relation_put_47 ?_
      apply xr_putf a_Relation_put_48
      · (repeat' (first | assumption | exact va_up_self _ _ _ | refine x_lk (by omega) ?_))
      · exact Nat.le_of_ble_eq_true rfl
      · rfl
      · rfl
      refine xr_iconst a_Relation_put_51 (v := nI 1) (by decide +kernel) ?_
      refine xr_ireturn a_Relation_put_52 rfl rfl (by omega) (by omega) ?_
      refine ⟨?_, rfl, ?_, ?_⟩
      · rw [vB_t ⟨by omega, b16⟩]
      · repeat' (first | exact xfr.rf | refine xfr.up ?_ (by omega) (by omega))
      · rw [if_pos ⟨by omega, b16⟩]
        exact ⟨by (repeat' (first | assumption | exact va_up_self _ _ _ | refine x_lk (by omega) ?_)), by (repeat' (first | assumption | exact va_up_self _ _ _ | refine x_lk (by omega) ?_)), by (repeat' (first | assumption | exact va_up_self _ _ _ | refine x_lk (by omega) ?_))⟩
    · refine xr_iconst a_Relation_put_19 (v := nI 0) (by decide +kernel) ?_
      refine xr_ireturn a_Relation_put_20 rfl rfl (by omega) (by omega) ?_
      refine ⟨?_, rfl, xfr.rf, ?_⟩
      · rw [vB_f (fun z => b16 z.2)]
      · rw [if_neg (fun z => b16 z.2)]
theorem t_Relation_takeOut {x y : Int32} (p : isRel h r m X Y al fa) (hm : m ≤ 8) (hd : 1 ≤ d) : XM d 0 0 k_Relation_takeOut L xs [.ref r, .int x, .int y] n h (qP n (nI (vB (vFd m X Y x y ≠ none))) (fun h' => xfr r (r + 3) h h' ∧ (vFd m X Y x y = none → h' = h) ∧ ∀ j, vFd m X Y x y = some j → isRel h' r (m - 1) (va_up X j (X (m - 1))) (va_up Y j (Y (m - 1))) al fa)) := by
  have c := @t_Relation_placeOf 0 L xs n h r m X Y al fa x y p hm
  obtain ⟨p0, p1, p2⟩ := p
  refine XM.of rfl (Nat.le_of_ble_eq_true rfl) ?_
  refine xr_aload_n a_Relation_takeOut_0 rfl ?_
  refine xr_iload_n a_Relation_takeOut_1 rfl ?_
  refine xr_iload_n a_Relation_takeOut_2 rfl ?_
  refine xr_invV a_Relation_takeOut_3 (by (repeat' (first | assumption | exact va_up_self _ _ _ | refine x_lk (by omega) ?_))) (c) rfl rfl (by omega) (by omega) (by omega) (Nat.le_of_ble_eq_true rfl) ?_
  rintro _ _ h1 ⟨rfl, rfl, rfl⟩
  refine xr_istore_n a_Relation_takeOut_6 (by decide) rfl ?_
  refine xr_iload_n a_Relation_takeOut_7 rfl ?_
  refine xr_iconst a_Relation_takeOut_8 (v := -1) (by decide +kernel) ?_
  refine xo_icmp_ne a_Relation_takeOut_9 (fun k hk => by have := vFd_lt hk; omega) (fun b9 => ?_) (fun b9 => ?_)
  · obtain ⟨j, hj⟩ := Option.ne_none_iff_exists'.mp b9
    have hjm := vFd_lt hj
    rw [hj, show oI (some j) = nI j from rfl]
    refine xr_aload_n a_Relation_takeOut_14 rfl ?_
    refine xr_dup a_Relation_takeOut_15 rfl ?_
    apply xr_getf a_Relation_takeOut_16
    · (repeat' (first | assumption | exact va_up_self _ _ _ | refine x_lk (by omega) ?_))
    · rfl
    refine xr_iconst a_Relation_takeOut_19 (v := nI 1) (by decide +kernel) ?_
    first | refine xn_isub a_Relation_takeOut_20 (by omega) ?_ | refine xr_isub a_Relation_takeOut_20 ?_
    apply xr_putf a_Relation_takeOut_21
    · (repeat' (first | assumption | exact va_up_self _ _ _ | refine x_lk (by omega) ?_))
    · exact Nat.le_of_ble_eq_true rfl
    · rfl
    · rfl
    refine xr_aload_n a_Relation_takeOut_24 rfl ?_
    apply xr_getf a_Relation_takeOut_25
    · (repeat' (first | assumption | exact va_up_self _ _ _ | refine x_lk (by omega) ?_))
    · rfl
    refine xr_iload_n a_Relation_takeOut_28 rfl ?_
    refine xr_aload_n a_Relation_takeOut_29 rfl ?_
    apply xr_getf a_Relation_takeOut_30
    · (repeat' (first | assumption | exact va_up_self _ _ _ | refine x_lk (by omega) ?_))
    · rfl
    refine xr_aload_n a_Relation_takeOut_33 rfl ?_
    apply xr_getf a_Relation_takeOut_34
    · (repeat' (first | assumption | exact va_up_self _ _ _ | refine x_lk (by omega) ?_))
    · rfl
    apply xn_iaload a_Relation_takeOut_37
    · (repeat' (first | assumption | exact va_up_self _ _ _ | refine x_lk (by omega) ?_))
    · omega
    · omega
    apply xn_iastore a_Relation_takeOut_38
    · (repeat' (first | assumption | exact va_up_self _ _ _ | refine x_lk (by omega) ?_))
    · omega
    · omega
    refine xr_aload_n a_Relation_takeOut_39 rfl ?_
    apply xr_getf a_Relation_takeOut_40
    · (repeat' (first | assumption | exact va_up_self _ _ _ | refine x_lk (by omega) ?_))
    · rfl
    refine xr_iload_n a_Relation_takeOut_43 rfl ?_
    refine xr_aload_n a_Relation_takeOut_44 rfl ?_
    apply xr_getf a_Relation_takeOut_45
    · (repeat' (first | assumption | exact va_up_self _ _ _ | refine x_lk (by omega) ?_))
    · rfl
    refine xr_aload_n a_Relation_takeOut_48 rfl ?_
    apply xr_getf a_Relation_takeOut_49
    · (repeat' (first | assumption | exact va_up_self _ _ _ | refine x_lk (by omega) ?_))
    · rfl
    apply xn_iaload a_Relation_takeOut_52
    · (repeat' (first | assumption | exact va_up_self _ _ _ | refine x_lk (by omega) ?_))
    · omega
    · omega
    apply xn_iastore a_Relation_takeOut_53
    · (repeat' (first | assumption | exact va_up_self _ _ _ | refine x_lk (by omega) ?_))
    · omega
    · omega
    refine xr_iconst a_Relation_takeOut_54 (v := nI 1) (by decide +kernel) ?_
    refine xr_ireturn a_Relation_takeOut_55 rfl rfl (by omega) (by omega) ?_
    refine ⟨?_, rfl, ?_, ?_, ?_⟩
    · rw [vB_t (by simp)]
    · repeat' (first | exact xfr.rf | refine xfr.up ?_ (by omega) (by omega))
    · intro z; cases z
    · intro j' z
      cases z
      exact ⟨by (repeat' (first | assumption | exact va_up_self _ _ _ | refine x_lk (by omega) ?_)), by (repeat' (first | assumption | exact va_up_self _ _ _ | refine x_lk (by omega) ?_)), by (repeat' (first | assumption | exact va_up_self _ _ _ | refine x_lk (by omega) ?_))⟩
  · refine xr_iconst a_Relation_takeOut_12 (v := nI 0) (by decide +kernel) ?_
    refine xr_ireturn a_Relation_takeOut_13 rfl rfl (by omega) (by omega) ?_
    refine ⟨?_, rfl, xfr.rf, fun _ => rfl, ?_⟩
    · rw [vB_f (by simpa using b9)]
    · intro j z; rw [b9] at z; cases z
theorem t_Relation_greatestPattern {w : Nat} (p : isRel h r m X Y al fa) (hal : al < 16) (hw : w < 4) : XM d 0 0 k_Relation_greatestPattern L xs [.ref r, .int (nI w)] n h (qR n h (oI (vBest al w))) := by
  obtain ⟨p0, p1, p2⟩ := p
  refine XM.of rfl (Nat.le_of_ble_eq_true rfl) ?_
  have step : ∀ q, q < 4 → (vOk al w q = true → qR n h (oI (vBest al w)) (some (.int (nI q))) n h) → (vOk al w q = false → XW (x_rm d 0 0) k_Relation_greatestPattern L xs (x_mq 0 0 (qR n h (oI (vBest al w)))) 0 0 26 [(0, .ref r), (1, .int (nI w)), (2, .int (nI q))] [] n h) → XW (x_rm d 0 0) k_Relation_greatestPattern L xs (x_mq 0 0 (qR n h (oI (vBest al w)))) 0 0 2 [(0, .ref r), (1, .int (nI w)), (2, .int (nI q))] [] n h := by
    intro q hq k1 k2
    have hqw : q &&& w < 4 := Nat.lt_of_le_of_lt Nat.and_le_left hq
    refine xr_iload_n a_Relation_greatestPattern_2 rfl ?_
    refine xn_if_lt a_Relation_greatestPattern_3 (by omega) ?_
    refine xr_aload_n a_Relation_greatestPattern_6 rfl ?_
    apply xr_getf a_Relation_greatestPattern_7
    · (repeat' (first | assumption | exact va_up_self _ _ _ | refine x_lk (by omega) ?_))
    · rfl
    refine xr_iload_n a_Relation_greatestPattern_10 rfl ?_
    refine xr_ishr a_Relation_greatestPattern_11 ?_
    refine xr_iconst a_Relation_greatestPattern_12 (v := nI 1) (by decide +kernel) ?_
    refine xr_iand a_Relation_greatestPattern_13 ?_; rw [bp_al al hal q hq]
    refine xn_if_eq a_Relation_greatestPattern_14 (by omega) (fun b14 => ?_) (fun b14 => ?_)
    · exact k2 (by unfold vOk; rw [b14]; rfl)
    · refine xr_iload_n a_Relation_greatestPattern_17 rfl ?_
      refine xr_iload_n a_Relation_greatestPattern_18 rfl ?_
      refine xr_iand a_Relation_greatestPattern_19 ?_; rw [bp_and q hq w hw]
      refine xr_iload_n a_Relation_greatestPattern_20 rfl ?_
      refine xn_icmp_ne a_Relation_greatestPattern_21 (by omega) (by omega) (fun b21 => ?_) (fun b21 => ?_)
      · refine k2 ?_
        unfold vOk
        rw [Bool.and_eq_false_iff]
        right
        simpa using b21
      · refine xr_iload_n a_Relation_greatestPattern_24 rfl ?_
        refine xr_ireturn a_Relation_greatestPattern_25 rfl rfl (by omega) (by omega) ?_
        refine k1 ?_
        unfold vOk
        rw [Bool.and_eq_true]
        have : al / 2 ^ q % 2 = 1 := by
          have := Nat.mod_lt (al / 2 ^ q) (show 0 < 2 by decide)
          omega
        exact ⟨by simpa using this, by simpa using b21⟩
  refine xr_iconst a_Relation_greatestPattern_0 (v := nI 3) (by decide +kernel) ?_
  refine xr_istore_n a_Relation_greatestPattern_1 (by decide) rfl ?_
  refine xr_ls [(0, .ref r), (1, .int (nI w)), (2, .int (nI 3))] ⟨rfl, rfl, rfl, trivial⟩ ?_
  refine step 3 (by decide) (fun q => ⟨by unfold vBest; rw [if_pos q]; rfl, rfl, rfl⟩) (fun q3 => ?_)
  first | refine xn_idec a_Relation_greatestPattern_26 rfl (by decide) rfl ?_ | refine xr_iinc a_Relation_greatestPattern_26 rfl rfl (by decide) rfl ?_
  refine xr_goto a_Relation_greatestPattern_29 ?_
  refine xr_ls [(0, .ref r), (1, .int (nI w)), (2, .int (nI 2))] ⟨rfl, rfl, rfl, trivial⟩ ?_
  refine step 2 (by decide) (fun q => ⟨by unfold vBest; rw [q3, if_neg (by decide), if_pos q]; rfl, rfl, rfl⟩) (fun q2 => ?_)
  first | refine xn_idec a_Relation_greatestPattern_26 rfl (by decide) rfl ?_ | refine xr_iinc a_Relation_greatestPattern_26 rfl rfl (by decide) rfl ?_
  refine xr_goto a_Relation_greatestPattern_29 ?_
  refine xr_ls [(0, .ref r), (1, .int (nI w)), (2, .int (nI 1))] ⟨rfl, rfl, rfl, trivial⟩ ?_
  refine step 1 (by decide) (fun q => ⟨by unfold vBest; rw [q3, q2, if_neg (by decide), if_neg (by decide), if_pos q]; rfl, rfl, rfl⟩) (fun q1 => ?_)
  first | refine xn_idec a_Relation_greatestPattern_26 rfl (by decide) rfl ?_ | refine xr_iinc a_Relation_greatestPattern_26 rfl rfl (by decide) rfl ?_
  refine xr_goto a_Relation_greatestPattern_29 ?_
  refine xr_ls [(0, .ref r), (1, .int (nI w)), (2, .int (nI 0))] ⟨rfl, rfl, rfl, trivial⟩ ?_
  refine step 0 (by decide) (fun q => ⟨by unfold vBest; rw [q3, q2, q1, if_neg (by decide), if_neg (by decide), if_neg (by decide), if_pos q]; rfl, rfl, rfl⟩) (fun q0 => ?_)
  refine xr_iinc a_Relation_greatestPattern_26 rfl (v := -1) (by decide) (by decide) rfl ?_
  refine xr_goto a_Relation_greatestPattern_29 ?_
  refine xr_iload_n a_Relation_greatestPattern_2 rfl ?_
  refine xr_if_lt a_Relation_greatestPattern_3 (fun b3 => ?_) (fun b3 => ?_)
  · refine xr_iconst a_Relation_greatestPattern_32 (v := -1) (by decide +kernel) ?_
    refine xr_ireturn a_Relation_greatestPattern_33 rfl rfl (by omega) (by omega) ?_
    refine ⟨?_, rfl, rfl⟩
    unfold vBest
    rw [q3, q2, q1, q0, if_neg (by decide), if_neg (by decide), if_neg (by decide), if_neg (by decide)]
    rfl
  · exact absurd (by decide) b3
end T20

