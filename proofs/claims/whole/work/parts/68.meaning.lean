/-! the reference: meaning -/
def jn (x : Int32) (b : Bool) (y : Int32) : Int32 := if b = true then (if x = y then x else if x = -1 then y else -2) else x
section T68
variable {d L : Nat} {xs : Nat → Int32} {n : Nat} {h : xH} {m : Nat} {as ma stk ne rq tr : Nat} {aA aB rX rY : Nat → Nat}
theorem t_Mod_joined {x y : Int32} (b : Bool) : XM d 0 0 k_Mod_joined L xs [.int x, .int (nI b.toNat), .int y] n h (qR n h (jn x b y)) := by
  cases b with
  | false => exact t_Mod_joined0
  | true => exact t_Mod_joined1
theorem t_Mod_meaning {o1 i o2 j t : Nat} (p0 : h m = cM m as ma stk ne rq tr) (x1 : h (m + 2) = cI 32 rX) (x2 : h (m + 3) = cI 32 rY) (c1 : h (m + 9) = cI 12 aA) (c2 : h (m + 10) = cI 12 aB) (h1 : o1 < 12) (h2 : o2 < 12) (hi : i < 32) (hj : j < 32) (ht : t < 100) (hA : aA o1 < 100 ∧ aB o1 < 100 ∧ aA o2 < 100 ∧ aB o2 < 100) (hd : 1 ≤ d) : XM d 0 0 k_Mod_meaning L xs [.ref m, .int (nI o1), .int (nI i), .int (nI o2), .int (nI j), .int (nI t)] n h (qR n h (jn (jn (jn (jn (if t < 16 then nI t else -1) (decide (aA o1 = t)) (nI (rX i))) (decide (aB o1 = t)) (nI (rY i))) (decide (aA o2 = t)) (nI (rX j))) (decide (aB o2 = t)) (nI (rY j)))) := by
  obtain ⟨b1, b2, b3, b4⟩ := hA
  refine XM.of rfl (Nat.le_of_ble_eq_true rfl) ?_
  have s121 : ∀ b : Bool, b = decide (aB o2 = t) → XW (x_rm d 0 0) k_Mod_meaning L xs (x_mq 0 0 (qR n h (jn (jn (jn (jn (if t < 16 then nI t else -1) (decide (aA o1 = t)) (nI (rX i))) (decide (aB o1 = t)) (nI (rY i))) (decide (aA o2 = t)) (nI (rX j))) (decide (aB o2 = t)) (nI (rY j))))) 0 0 121 [(0, .ref m), (1, .int (nI o1)), (2, .int (nI i)), (3, .int (nI o2)), (4, .int (nI j)), (5, .int (nI t))] [.int (nI b.toNat), .int (jn (jn (jn (if t < 16 then nI t else -1) (decide (aA o1 = t)) (nI (rX i))) (decide (aB o1 = t)) (nI (rY i))) (decide (aA o2 = t)) (nI (rX j)))] n h := by
    intro b hb
    refine xr_aload_n a_Mod_meaning_121 rfl ?_
    apply xr_getf a_Mod_meaning_122
    · (repeat' (first | assumption | exact va_up_self _ _ _ | refine x_lk (by omega) ?_))
    · rfl
    refine xr_iload a_Mod_meaning_125 rfl ?_
    apply xn_iaload a_Mod_meaning_127
    · (repeat' (first | assumption | exact va_up_self _ _ _ | refine x_lk (by omega) ?_))
    · omega
    · omega
    refine xr_invS a_Mod_meaning_128 (t_Mod_joined (d := 0) b) rfl rfl (by omega) (by omega) (by omega) (Nat.le_of_ble_eq_true rfl) ?_
    rintro _ _ h1 ⟨rfl, rfl, rfl⟩
    refine xr_ireturn a_Mod_meaning_131 rfl rfl (by omega) (by omega) ?_
    exact ⟨by rw [hb], rfl, rfl⟩
  have s91 : ∀ b : Bool, b = decide (aA o2 = t) → XW (x_rm d 0 0) k_Mod_meaning L xs (x_mq 0 0 (qR n h (jn (jn (jn (jn (if t < 16 then nI t else -1) (decide (aA o1 = t)) (nI (rX i))) (decide (aB o1 = t)) (nI (rY i))) (decide (aA o2 = t)) (nI (rX j))) (decide (aB o2 = t)) (nI (rY j))))) 0 0 91 [(0, .ref m), (1, .int (nI o1)), (2, .int (nI i)), (3, .int (nI o2)), (4, .int (nI j)), (5, .int (nI t))] [.int (nI b.toNat), .int (jn (jn (if t < 16 then nI t else -1) (decide (aA o1 = t)) (nI (rX i))) (decide (aB o1 = t)) (nI (rY i)))] n h := by
    intro b hb
    refine xr_aload_n a_Mod_meaning_91 rfl ?_
    apply xr_getf a_Mod_meaning_92
    · (repeat' (first | assumption | exact va_up_self _ _ _ | refine x_lk (by omega) ?_))
    · rfl
    refine xr_iload a_Mod_meaning_95 rfl ?_
    apply xn_iaload a_Mod_meaning_97
    · (repeat' (first | assumption | exact va_up_self _ _ _ | refine x_lk (by omega) ?_))
    · omega
    · omega
    refine xr_invS a_Mod_meaning_98 (t_Mod_joined (d := 0) b) rfl rfl (by omega) (by omega) (by omega) (Nat.le_of_ble_eq_true rfl) ?_
    rintro _ _ h1 ⟨rfl, rfl, rfl⟩
    refine xr_istore a_Mod_meaning_101 (by decide) rfl ?_
    subst hb
    refine xr_iload a_Mod_meaning_103 rfl ?_
    refine xr_aload_n a_Mod_meaning_105 rfl ?_
    apply xr_getf a_Mod_meaning_106
    · (repeat' (first | assumption | exact va_up_self _ _ _ | refine x_lk (by omega) ?_))
    · rfl
    refine xr_iload_n a_Mod_meaning_109 rfl ?_
    apply xn_iaload a_Mod_meaning_110
    · (repeat' (first | assumption | exact va_up_self _ _ _ | refine x_lk (by omega) ?_))
    · omega
    · omega
    refine xr_iload a_Mod_meaning_111 rfl ?_
    refine xn_icmp_ne a_Mod_meaning_113 (by omega) (by omega) (fun b113 => ?_) (fun b113 => ?_)
    · refine xr_iconst a_Mod_meaning_120 (v := nI 0) (by decide +kernel) ?_
      refine xr_ls [(0, .ref m), (1, .int (nI o1)), (2, .int (nI i)), (3, .int (nI o2)), (4, .int (nI j)), (5, .int (nI t))] ⟨rfl, rfl, rfl, rfl, rfl, rfl, trivial⟩ ?_
      exact s121 false (decide_eq_false b113).symm
    · refine xr_iconst a_Mod_meaning_116 (v := nI 1) (by decide +kernel) ?_
      refine xr_goto a_Mod_meaning_117 ?_
      refine xr_ls [(0, .ref m), (1, .int (nI o1)), (2, .int (nI i)), (3, .int (nI o2)), (4, .int (nI j)), (5, .int (nI t))] ⟨rfl, rfl, rfl, rfl, rfl, rfl, trivial⟩ ?_
      exact s121 true (decide_eq_true b113).symm
  have s62 : ∀ b : Bool, b = decide (aB o1 = t) → XW (x_rm d 0 0) k_Mod_meaning L xs (x_mq 0 0 (qR n h (jn (jn (jn (jn (if t < 16 then nI t else -1) (decide (aA o1 = t)) (nI (rX i))) (decide (aB o1 = t)) (nI (rY i))) (decide (aA o2 = t)) (nI (rX j))) (decide (aB o2 = t)) (nI (rY j))))) 0 0 62 [(0, .ref m), (1, .int (nI o1)), (2, .int (nI i)), (3, .int (nI o2)), (4, .int (nI j)), (5, .int (nI t))] [.int (nI b.toNat), .int (jn (if t < 16 then nI t else -1) (decide (aA o1 = t)) (nI (rX i)))] n h := by
    intro b hb
    refine xr_aload_n a_Mod_meaning_62 rfl ?_
    apply xr_getf a_Mod_meaning_63
    · (repeat' (first | assumption | exact va_up_self _ _ _ | refine x_lk (by omega) ?_))
    · rfl
    refine xr_iload_n a_Mod_meaning_66 rfl ?_
    apply xn_iaload a_Mod_meaning_67
    · (repeat' (first | assumption | exact va_up_self _ _ _ | refine x_lk (by omega) ?_))
    · omega
    · omega
    refine xr_invS a_Mod_meaning_68 (t_Mod_joined (d := 0) b) rfl rfl (by omega) (by omega) (by omega) (Nat.le_of_ble_eq_true rfl) ?_
    rintro _ _ h1 ⟨rfl, rfl, rfl⟩
    refine xr_istore a_Mod_meaning_71 (by decide) rfl ?_
    subst hb
    refine xr_iload a_Mod_meaning_73 rfl ?_
    refine xr_aload_n a_Mod_meaning_75 rfl ?_
    apply xr_getf a_Mod_meaning_76
    · (repeat' (first | assumption | exact va_up_self _ _ _ | refine x_lk (by omega) ?_))
    · rfl
    refine xr_iload_n a_Mod_meaning_79 rfl ?_
    apply xn_iaload a_Mod_meaning_80
    · (repeat' (first | assumption | exact va_up_self _ _ _ | refine x_lk (by omega) ?_))
    · omega
    · omega
    refine xr_iload a_Mod_meaning_81 rfl ?_
    refine xn_icmp_ne a_Mod_meaning_83 (by omega) (by omega) (fun b83 => ?_) (fun b83 => ?_)
    · refine xr_iconst a_Mod_meaning_90 (v := nI 0) (by decide +kernel) ?_
      refine xr_ls [(0, .ref m), (1, .int (nI o1)), (2, .int (nI i)), (3, .int (nI o2)), (4, .int (nI j)), (5, .int (nI t))] ⟨rfl, rfl, rfl, rfl, rfl, rfl, trivial⟩ ?_
      exact s91 false (decide_eq_false b83).symm
    · refine xr_iconst a_Mod_meaning_86 (v := nI 1) (by decide +kernel) ?_
      refine xr_goto a_Mod_meaning_87 ?_
      refine xr_ls [(0, .ref m), (1, .int (nI o1)), (2, .int (nI i)), (3, .int (nI o2)), (4, .int (nI j)), (5, .int (nI t))] ⟨rfl, rfl, rfl, rfl, rfl, rfl, trivial⟩ ?_
      exact s91 true (decide_eq_true b83).symm
  have s33 : ∀ b : Bool, b = decide (aA o1 = t) → XW (x_rm d 0 0) k_Mod_meaning L xs (x_mq 0 0 (qR n h (jn (jn (jn (jn (if t < 16 then nI t else -1) (decide (aA o1 = t)) (nI (rX i))) (decide (aB o1 = t)) (nI (rY i))) (decide (aA o2 = t)) (nI (rX j))) (decide (aB o2 = t)) (nI (rY j))))) 0 0 33 [(0, .ref m), (1, .int (nI o1)), (2, .int (nI i)), (3, .int (nI o2)), (4, .int (nI j)), (5, .int (nI t))] [.int (nI b.toNat), .int (if t < 16 then nI t else -1)] n h := by
    intro b hb
    refine xr_aload_n a_Mod_meaning_33 rfl ?_
    apply xr_getf a_Mod_meaning_34
    · (repeat' (first | assumption | exact va_up_self _ _ _ | refine x_lk (by omega) ?_))
    · rfl
    refine xr_iload_n a_Mod_meaning_37 rfl ?_
    apply xn_iaload a_Mod_meaning_38
    · (repeat' (first | assumption | exact va_up_self _ _ _ | refine x_lk (by omega) ?_))
    · omega
    · omega
    refine xr_invS a_Mod_meaning_39 (t_Mod_joined (d := 0) b) rfl rfl (by omega) (by omega) (by omega) (Nat.le_of_ble_eq_true rfl) ?_
    rintro _ _ h1 ⟨rfl, rfl, rfl⟩
    refine xr_istore a_Mod_meaning_42 (by decide) rfl ?_
    subst hb
    refine xr_iload a_Mod_meaning_44 rfl ?_
    refine xr_aload_n a_Mod_meaning_46 rfl ?_
    apply xr_getf a_Mod_meaning_47
    · (repeat' (first | assumption | exact va_up_self _ _ _ | refine x_lk (by omega) ?_))
    · rfl
    refine xr_iload_n a_Mod_meaning_50 rfl ?_
    apply xn_iaload a_Mod_meaning_51
    · (repeat' (first | assumption | exact va_up_self _ _ _ | refine x_lk (by omega) ?_))
    · omega
    · omega
    refine xr_iload a_Mod_meaning_52 rfl ?_
    refine xn_icmp_ne a_Mod_meaning_54 (by omega) (by omega) (fun b54 => ?_) (fun b54 => ?_)
    · refine xr_iconst a_Mod_meaning_61 (v := nI 0) (by decide +kernel) ?_
      refine xr_ls [(0, .ref m), (1, .int (nI o1)), (2, .int (nI i)), (3, .int (nI o2)), (4, .int (nI j)), (5, .int (nI t))] ⟨rfl, rfl, rfl, rfl, rfl, rfl, trivial⟩ ?_
      exact s62 false (decide_eq_false b54).symm
    · refine xr_iconst a_Mod_meaning_57 (v := nI 1) (by decide +kernel) ?_
      refine xr_goto a_Mod_meaning_58 ?_
      refine xr_ls [(0, .ref m), (1, .int (nI o1)), (2, .int (nI i)), (3, .int (nI o2)), (4, .int (nI j)), (5, .int (nI t))] ⟨rfl, rfl, rfl, rfl, rfl, rfl, trivial⟩ ?_
      exact s62 true (decide_eq_true b54).symm
  have s13 : ∀ v, v = (if t < 16 then nI t else -1) → XW (x_rm d 0 0) k_Mod_meaning L xs (x_mq 0 0 (qR n h (jn (jn (jn (jn (if t < 16 then nI t else -1) (decide (aA o1 = t)) (nI (rX i))) (decide (aB o1 = t)) (nI (rY i))) (decide (aA o2 = t)) (nI (rX j))) (decide (aB o2 = t)) (nI (rY j))))) 0 0 13 [(0, .ref m), (1, .int (nI o1)), (2, .int (nI i)), (3, .int (nI o2)), (4, .int (nI j)), (5, .int (nI t))] [.int v] n h := by
    intro v hv
    subst hv
    refine xr_istore a_Mod_meaning_13 (by decide) rfl ?_
    refine xr_iload a_Mod_meaning_15 rfl ?_
    refine xr_aload_n a_Mod_meaning_17 rfl ?_
    apply xr_getf a_Mod_meaning_18
    · (repeat' (first | assumption | exact va_up_self _ _ _ | refine x_lk (by omega) ?_))
    · rfl
    refine xr_iload_n a_Mod_meaning_21 rfl ?_
    apply xn_iaload a_Mod_meaning_22
    · (repeat' (first | assumption | exact va_up_self _ _ _ | refine x_lk (by omega) ?_))
    · omega
    · omega
    refine xr_iload a_Mod_meaning_23 rfl ?_
    refine xn_icmp_ne a_Mod_meaning_25 (by omega) (by omega) (fun b25 => ?_) (fun b25 => ?_)
    · refine xr_iconst a_Mod_meaning_32 (v := nI 0) (by decide +kernel) ?_
      refine xr_ls [(0, .ref m), (1, .int (nI o1)), (2, .int (nI i)), (3, .int (nI o2)), (4, .int (nI j)), (5, .int (nI t))] ⟨rfl, rfl, rfl, rfl, rfl, rfl, trivial⟩ ?_
      exact s33 false (decide_eq_false b25).symm
    · refine xr_iconst a_Mod_meaning_28 (v := nI 1) (by decide +kernel) ?_
      refine xr_goto a_Mod_meaning_29 ?_
      refine xr_ls [(0, .ref m), (1, .int (nI o1)), (2, .int (nI i)), (3, .int (nI o2)), (4, .int (nI j)), (5, .int (nI t))] ⟨rfl, rfl, rfl, rfl, rfl, rfl, trivial⟩ ?_
      exact s33 true (decide_eq_true b25).symm
  refine xr_iload a_Mod_meaning_0 rfl ?_
  refine xr_bipush a_Mod_meaning_2 (v := nI 16) (by decide +kernel) ?_
  refine xn_icmp_ge a_Mod_meaning_4 (by omega) (by omega) (fun b4 => ?_) (fun b4 => ?_)
  · refine xr_iconst a_Mod_meaning_12 (v := -1) (by decide +kernel) ?_
    refine xr_ls [(0, .ref m), (1, .int (nI o1)), (2, .int (nI i)), (3, .int (nI o2)), (4, .int (nI j)), (5, .int (nI t))] ⟨rfl, rfl, rfl, rfl, rfl, rfl, trivial⟩ ?_
    exact s13 _ (if_neg (by omega)).symm
  · refine xr_iload a_Mod_meaning_7 rfl ?_
    refine xr_goto a_Mod_meaning_9 ?_
    refine xr_ls [(0, .ref m), (1, .int (nI o1)), (2, .int (nI i)), (3, .int (nI o2)), (4, .int (nI j)), (5, .int (nI t))] ⟨rfl, rfl, rfl, rfl, rfl, rfl, trivial⟩ ?_
    exact s13 _ (if_pos b4).symm
end T68

