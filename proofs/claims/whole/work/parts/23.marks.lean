/-! Arrays.fill, Marks -/
def vClr (pt : Nat → Option Nat) (i : Nat) : Nat → Option Nat := fun j => if j < i then none else pt j
theorem vClr_0 (pt : Nat → Option Nat) : vClr pt 0 = pt := by
  funext j
  exact if_neg (by omega)
theorem vClr_s (pt : Nat → Option Nat) (i : Nat) : va_up (vClr pt i) i none = vClr pt (i + 1) := by
  funext j
  unfold vClr va_up
  by_cases h : j = i
  · rw [if_pos h, if_pos (by omega)]
  · rw [if_neg h]
    show (if j < i then none else pt j) = _
    by_cases h2 : j < i
    · rw [if_pos h2, if_pos (by omega)]
    · rw [if_neg h2, if_neg (by omega)]
def vClL (W : Nat → Int64) (i : Nat) : Nat → Int64 := fun j => if j < i then 0 else W j
theorem vClL_0 (W : Nat → Int64) : vClL W 0 = W := by
  funext j
  exact if_neg (by omega)
theorem vClL_s (W : Nat → Int64) (i : Nat) : va_up (vClL W i) i 0 = vClL W (i + 1) := by
  funext j
  unfold vClL va_up
  by_cases h : j = i
  · rw [if_pos h, if_pos (by omega)]
  · rw [if_neg h]
    show (if j < i then 0 else W j) = _
    by_cases h2 : j < i
    · rw [if_pos h2, if_pos (by omega)]
    · rw [if_neg h2, if_neg (by omega)]
theorem xsm_up {a b q : Nat} {h : xH} {e : Option va_E} (hq : q < a ∨ b ≤ q) : xsm a b h (va_up h q e) := fun i h1 h2 => up_ne (by omega)
section T23
variable {d L : Nat} {xs : Nat → Int32} {n : Nat} {h : xH} {r : Nat}
theorem t_fill {N : Nat} {pt : Nat → Option Nat} (p : h r = cO N pt) (hN : N < 1000) : XM d 0 0 k_Arr_fill_II L xs [.ref r, .int (-1)] n h (qV n (fun h' => h' = va_up h r (cO N (vClr pt N)))) := by
  refine XM.of rfl (Nat.le_of_ble_eq_true rfl) ?_
  have loop : ∀ k i, i + k = N → XW (x_rm d 0 0) k_Arr_fill_II L xs (x_mq 0 0 (qV n (fun h' => h' = va_up h r (cO N (vClr pt N))))) 0 0 5 [(0, .ref r), (1, .int (-1)), (2, .int (nI i)), (3, .int (nI N))] [] n (va_up h r (cO N (vClr pt i))) := by
    intro k
    induction k with
    | zero =>
      intro i hi
      refine xr_iload_n a_Arr_fill_II_5 rfl ?_
      refine xr_iload_n a_Arr_fill_II_6 rfl ?_
      refine xn_icmp_ge a_Arr_fill_II_7 (by omega) (by omega) (fun b7 => ?_) (fun b7 => ?_)
      · refine xr_return a_Arr_fill_II_20 rfl (by omega) (by omega) ?_
        exact ⟨rfl, rfl, by rw [show i = N by omega]⟩
      · omega
    | succ k ih =>
      intro i hi
      refine xr_iload_n a_Arr_fill_II_5 rfl ?_
      refine xr_iload_n a_Arr_fill_II_6 rfl ?_
      refine xn_icmp_ge a_Arr_fill_II_7 (by omega) (by omega) (fun b7 => ?_) (fun b7 => ?_)
      · omega
      · refine xr_aload_n a_Arr_fill_II_10 rfl ?_
        refine xr_iload_n a_Arr_fill_II_11 rfl ?_
        refine xr_iload_n a_Arr_fill_II_12 rfl ?_
        apply xo_iastore (o := none) a_Arr_fill_II_13
        · (repeat' (first | assumption | exact va_up_self _ _ _ | refine x_lk (by omega) ?_))
        · exact rfl
        · omega
        · omega
        first | refine xn_iinc a_Arr_fill_II_14 rfl (by decide) rfl ?_ | refine xr_iinc a_Arr_fill_II_14 rfl rfl (by decide) rfl ?_
        refine xr_goto a_Arr_fill_II_17 ?_
        refine xr_ls [(0, .ref r), (1, .int (-1)), (2, .int (nI (i + 1))), (3, .int (nI N))] ⟨rfl, rfl, rfl, rfl, trivial⟩ ?_
        rw [up_up, vClr_s]
        exact ih (i + 1) (by omega)
  refine xr_iconst a_Arr_fill_II_0 (v := nI 0) (by decide +kernel) ?_
  refine xr_istore_n a_Arr_fill_II_1 (by decide) rfl ?_
  refine xr_aload_n a_Arr_fill_II_2 rfl ?_
  apply xr_alen a_Arr_fill_II_3
  · (repeat' (first | assumption | exact va_up_self _ _ _ | refine x_lk (by omega) ?_))
  · rfl
  refine xr_istore_n a_Arr_fill_II_4 (by decide) rfl ?_
  refine xr_ls [(0, .ref r), (1, .int (-1)), (2, .int (nI 0)), (3, .int (nI N))] ⟨rfl, rfl, rfl, rfl, trivial⟩ ?_
  have e := loop N 0 (by omega)
  rw [vClr_0, up_same p] at e
  exact e
theorem t_fillL {N : Nat} {W : Nat → Int64} (p : h r = cL N W) (hN : N < 1000) : XM d 0 0 k_Arr_fill_JJ L xs [.ref r, .long 0] n h (qV n (fun h' => h' = va_up h r (cL N (vClL W N)))) := by
  refine XM.of rfl (Nat.le_of_ble_eq_true rfl) ?_
  have loop : ∀ k i, i + k = N → XW (x_rm d 0 0) k_Arr_fill_JJ L xs (x_mq 0 0 (qV n (fun h' => h' = va_up h r (cL N (vClL W N))))) 0 0 6 [(0, .ref r), (1, .long 0), (3, .int (nI i)), (4, .int (nI N))] [] n (va_up h r (cL N (vClL W i))) := by
    intro k
    induction k with
    | zero =>
      intro i hi
      refine xr_iload_n a_Arr_fill_JJ_6 rfl ?_
      refine xr_iload a_Arr_fill_JJ_7 rfl ?_
      refine xn_icmp_ge a_Arr_fill_JJ_9 (by omega) (by omega) (fun b9 => ?_) (fun b9 => ?_)
      · refine xr_return a_Arr_fill_JJ_22 rfl (by omega) (by omega) ?_
        exact ⟨rfl, rfl, by rw [show i = N by omega]⟩
      · omega
    | succ k ih =>
      intro i hi
      refine xr_iload_n a_Arr_fill_JJ_6 rfl ?_
      refine xr_iload a_Arr_fill_JJ_7 rfl ?_
      refine xn_icmp_ge a_Arr_fill_JJ_9 (by omega) (by omega) (fun b9 => ?_) (fun b9 => ?_)
      · omega
      · refine xr_aload_n a_Arr_fill_JJ_12 rfl ?_
        refine xr_iload_n a_Arr_fill_JJ_13 rfl ?_
        refine xr_lload_n a_Arr_fill_JJ_14 rfl ?_
        apply xn_lastore a_Arr_fill_JJ_15
        · (repeat' (first | assumption | exact va_up_self _ _ _ | refine x_lk (by omega) ?_))
        · omega
        · omega
        first | refine xn_iinc a_Arr_fill_JJ_16 rfl (by decide) rfl ?_ | refine xr_iinc a_Arr_fill_JJ_16 rfl rfl (by decide) rfl ?_
        refine xr_goto a_Arr_fill_JJ_19 ?_
        refine xr_ls [(0, .ref r), (1, .long 0), (3, .int (nI (i + 1))), (4, .int (nI N))] ⟨rfl, rfl, rfl, rfl, trivial⟩ ?_
        rw [up_up, vClL_s]
        exact ih (i + 1) (by omega)
  refine xr_iconst a_Arr_fill_JJ_0 (v := nI 0) (by decide +kernel) ?_
  refine xr_istore_n a_Arr_fill_JJ_1 (by decide) rfl ?_
  refine xr_aload_n a_Arr_fill_JJ_2 rfl ?_
  apply xr_alen a_Arr_fill_JJ_3
  · (repeat' (first | assumption | exact va_up_self _ _ _ | refine x_lk (by omega) ?_))
  · rfl
  refine xr_istore a_Arr_fill_JJ_4 (by decide) rfl ?_
  refine xr_ls [(0, .ref r), (1, .long 0), (3, .int (nI 0)), (4, .int (nI N))] ⟨rfl, rfl, rfl, rfl, trivial⟩ ?_
  have e := loop N 0 (by omega)
  rw [vClL_0, up_same p] at e
  exact e
theorem t_Marks_makeEmpty {N : Nat} {m : Nat → Bool} (p : isMk h r N m) (hN : N ≤ 64) (hd : 1 ≤ d) : XM d 0 0 k_Marks_makeEmpty L xs [.ref r] n h (qV n (fun h' => xfr r (r + 2) h h' ∧ isMk h' r N (fun _ => false))) := by
  obtain ⟨p0, W, p1, p2⟩ := p
  refine XM.of rfl (Nat.le_of_ble_eq_true rfl) ?_
  refine xr_aload_n a_Marks_makeEmpty_0 rfl ?_
  apply xr_getf a_Marks_makeEmpty_1
  · (repeat' (first | assumption | exact va_up_self _ _ _ | refine x_lk (by omega) ?_))
  · rfl
  refine xr_lconst a_Marks_makeEmpty_4 (v := 0) (by decide +kernel) ?_
  refine xr_invS a_Marks_makeEmpty_5 (t_fillL (d := 0) p1 (by omega)) rfl rfl (by omega) (by omega) (by omega) (Nat.le_of_ble_eq_true rfl) ?_
  rintro _ _ h1 ⟨rfl, rfl, e1⟩
  refine xr_return a_Marks_makeEmpty_8 rfl (by omega) (by omega) ?_
  subst e1
  refine ⟨rfl, rfl, xfr.up0 (by omega) (by omega), by (repeat' (first | assumption | exact va_up_self _ _ _ | refine x_lk (by omega) ?_)), _, up_self _ _ _, fun k hk => ?_⟩
  rw [show vClL W N (k / 64) = 0 from if_pos (by omega)]
  exact bt_zero.mp rfl _ (by omega)
theorem t_Marks_has {N k : Nat} {m : Nat → Bool} (p : isMk h r N m) (hN : N ≤ 64) (hk : k < 64 * N) : XM d 0 0 k_Marks_has L xs [.ref r, .int (nI k)] n h (qR n h (nI (vB (m k = true)))) := by
  obtain ⟨p0, W, p1, p2⟩ := p
  refine XM.of rfl (Nat.le_of_ble_eq_true rfl) ?_
  have hm := p2 k hk
  refine xr_aload_n a_Marks_has_0 rfl ?_
  apply xr_getf a_Marks_has_1
  · (repeat' (first | assumption | exact va_up_self _ _ _ | refine x_lk (by omega) ?_))
  · rfl
  refine xr_iload_n a_Marks_has_4 rfl ?_
  refine xr_bipush a_Marks_has_5 (v := nI 6) (by decide +kernel) ?_
  refine xr_ishr a_Marks_has_7 ?_; rw [pk_shrN (n := k) (by omega) (nI 6 &&& 31) 6 (by decide), show (2 : Nat) ^ 6 = 64 from rfl]
  apply xn_laload a_Marks_has_8
  · (repeat' (first | assumption | exact va_up_self _ _ _ | refine x_lk (by omega) ?_))
  · omega
  · omega
  refine xr_iload_n a_Marks_has_9 rfl ?_
  refine xr_bipush a_Marks_has_10 (v := nI 63) (by decide +kernel) ?_
  refine xr_iand a_Marks_has_12 ?_; rw [pk_andN (n := k) (by omega) (m := nI 63) 6 (by decide), show (2 : Nat) ^ 6 = 64 from rfl]
  refine xr_lshr a_Marks_has_13 ?_
  refine xr_lconst a_Marks_has_14 (v := 1) (by decide +kernel) ?_
  refine xr_land a_Marks_has_15 ?_
  refine xr_lconst a_Marks_has_16 (v := 0) (by decide +kernel) ?_
  refine xr_lcmp a_Marks_has_17 ?_
  refine xr_if_eq a_Marks_has_18 (fun b18 => ?_) (fun b18 => ?_)
  · have b := (bt_shr (by omega)).mp (lc_eq.mp b18)
    refine xr_iconst a_Marks_has_25 (v := nI 0) (by decide +kernel) ?_
    refine xr_ireturn a_Marks_has_26 rfl rfl (by omega) (by omega) ?_
    refine ⟨?_, rfl, rfl⟩
    rw [vB_f (by rw [← hm, b]; decide)]
  · have b : ¬ btL (W (k / 64)) (k % 64) = false := fun z => b18 (lc_eq.mpr ((bt_shr (by omega)).mpr z))
    refine xr_iconst a_Marks_has_21 (v := nI 1) (by decide +kernel) ?_
    refine xr_goto a_Marks_has_22 ?_
    refine xr_ireturn a_Marks_has_26 rfl rfl (by omega) (by omega) ?_
    refine ⟨?_, rfl, rfl⟩
    rw [vB_t (by rw [← hm]; simpa using b)]
theorem t_Marks_add {N k : Nat} {m : Nat → Bool} (p : isMk h r N m) (hN : N ≤ 64) (hk : k < 64 * N) : XM d 0 0 k_Marks_add L xs [.ref r, .int (nI k)] n h (qP n (nI (vB (m k = false))) (fun h' => xfr r (r + 2) h h' ∧ isMk h' r N (va_up m k true))) := by
  obtain ⟨p0, W, p1, p2⟩ := p
  refine XM.of rfl (Nat.le_of_ble_eq_true rfl) ?_
  have hm := p2 k hk
  have rest : ∀ v : Nat, v = vB (m k = false) → XW (x_rm d 0 0) k_Marks_add L xs (x_mq 0 0 (qP n (nI (vB (m k = false))) (fun h' => xfr r (r + 2) h h' ∧ isMk h' r N (va_up m k true)))) 0 0 28 [(0, .ref r), (1, .int (nI k)), (2, .long (1 <<< ((nI (k % 64)).toInt64 &&& 63)))] [.int (nI v)] n h := by
    intro v hv
    refine xr_istore a_Marks_add_28 (by decide) rfl ?_
    refine xr_aload_n a_Marks_add_30 rfl ?_
    apply xr_getf a_Marks_add_31
    · (repeat' (first | assumption | exact va_up_self _ _ _ | refine x_lk (by omega) ?_))
    · rfl
    refine xr_iload_n a_Marks_add_34 rfl ?_
    refine xr_bipush a_Marks_add_35 (v := nI 6) (by decide +kernel) ?_
    refine xr_ishr a_Marks_add_37 ?_; rw [pk_shrN (n := k) (by omega) (nI 6 &&& 31) 6 (by decide), show (2 : Nat) ^ 6 = 64 from rfl]
    refine xr_dup2 a_Marks_add_38 rfl rfl ?_
    apply xn_laload a_Marks_add_39
    · (repeat' (first | assumption | exact va_up_self _ _ _ | refine x_lk (by omega) ?_))
    · omega
    · omega
    refine xr_lload_n a_Marks_add_40 rfl ?_
    refine xr_lor a_Marks_add_41 ?_
    apply xn_lastore a_Marks_add_42
    · (repeat' (first | assumption | exact va_up_self _ _ _ | refine x_lk (by omega) ?_))
    · omega
    · omega
    refine xr_iload a_Marks_add_43 rfl ?_
    refine xr_ireturn a_Marks_add_45 rfl (by rw [hv]; exact nar_vB _) (by omega) (by omega) ?_
    refine ⟨by rw [hv], rfl, xfr.up0 (by omega) (by omega), by (repeat' (first | assumption | exact va_up_self _ _ _ | refine x_lk (by omega) ?_)), _, up_self _ _ _, fun j hj => ?_⟩
    by_cases e : j / 64 = k / 64
    · rw [e, up_self, bt_or (by omega) (by omega)]
      by_cases e2 : j = k
      · rw [e2, if_pos rfl, up_self]
      · rw [if_neg (by omega), up_ne e2, ← e]
        exact p2 j hj
    · rw [up_ne e, up_ne (by intro z; rw [z] at e; exact e rfl)]
      exact p2 j hj
  refine xr_lconst a_Marks_add_0 (v := 1) (by decide +kernel) ?_
  refine xr_iload_n a_Marks_add_1 rfl ?_
  refine xr_bipush a_Marks_add_2 (v := nI 63) (by decide +kernel) ?_
  refine xr_iand a_Marks_add_4 ?_; rw [pk_andN (n := k) (by omega) (m := nI 63) 6 (by decide), show (2 : Nat) ^ 6 = 64 from rfl]
  refine xr_lshl a_Marks_add_5 ?_
  refine xr_lstore_n a_Marks_add_6 (by decide) rfl ?_
  refine xr_aload_n a_Marks_add_7 rfl ?_
  apply xr_getf a_Marks_add_8
  · (repeat' (first | assumption | exact va_up_self _ _ _ | refine x_lk (by omega) ?_))
  · rfl
  refine xr_iload_n a_Marks_add_11 rfl ?_
  refine xr_bipush a_Marks_add_12 (v := nI 6) (by decide +kernel) ?_
  refine xr_ishr a_Marks_add_14 ?_; rw [pk_shrN (n := k) (by omega) (nI 6 &&& 31) 6 (by decide), show (2 : Nat) ^ 6 = 64 from rfl]
  apply xn_laload a_Marks_add_15
  · (repeat' (first | assumption | exact va_up_self _ _ _ | refine x_lk (by omega) ?_))
  · omega
  · omega
  refine xr_lload_n a_Marks_add_16 rfl ?_
  refine xr_land a_Marks_add_17 ?_
  refine xr_lconst a_Marks_add_18 (v := 0) (by decide +kernel) ?_
  refine xr_lcmp a_Marks_add_19 ?_
  refine xr_if_ne a_Marks_add_20 (fun b20 => ?_) (fun b20 => ?_)
  · have b : ¬ btL (W (k / 64)) (k % 64) = false := fun z => b20 (lc_eq.mpr ((bt_and (by omega)).mpr z))
    refine xr_iconst a_Marks_add_27 (v := nI 0) (by decide +kernel) ?_
    refine xr_ls [(0, .ref r), (1, .int (nI k)), (2, .long (1 <<< ((nI (k % 64)).toInt64 &&& 63)))] ⟨rfl, rfl, rfl, trivial⟩ ?_
    exact rest 0 (by rw [vB_f (by rw [← hm]; exact b)])
  · have b := (bt_and (by omega)).mp (lc_eq.mp b20)
    refine xr_iconst a_Marks_add_23 (v := nI 1) (by decide +kernel) ?_
    refine xr_goto a_Marks_add_24 ?_
    refine xr_ls [(0, .ref r), (1, .int (nI k)), (2, .long (1 <<< ((nI (k % 64)).toInt64 &&& 63)))] ⟨rfl, rfl, rfl, trivial⟩ ?_
    exact rest 1 (by rw [vB_t (by rw [← hm]; exact b)])
end T23

