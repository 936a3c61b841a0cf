/-! the reference: known, best -/
def vKt (dd u : Nat) (lA lB : Nat → Nat) (t : Nat) : Prop := t < 16 ∨ vE u (fun j => lA (6 * dd + j)) (fun j => lB (6 * dd + j)) t
theorem vKt_s {dd u : Nat} {lA lB : Nat → Nat} {t : Nat} : vKt dd (u + 1) lA lB t ↔ vKt dd u lA lB t ∨ lA (6 * dd + u) = t ∨ lB (6 * dd + u) = t := by
  unfold vKt
  rw [vE_s, or_assoc]
theorem vKt_0 {dd : Nat} {lA lB : Nat → Nat} {t : Nat} : vKt dd 0 lA lB t ↔ t < 16 := ⟨fun h => h.elim id (fun ⟨j, hj, _⟩ => absurd hj (Nat.not_lt_zero j)), Or.inl⟩
section T61
variable {d L : Nat} {xs : Nat → Int32} {n : Nat} {h : xH} {m : Nat} {as ma stk ne rq tr : Nat} {lR lA lB pa : Nat → Nat}
theorem t_Mod_known {dd u t : Nat} (p0 : h m = cM m as ma stk ne rq tr) (c2 : h (m + 16) = cI 48 lA) (c3 : h (m + 17) = cI 48 lB) (hdd : dd < 8) (hu : u ≤ 6) (ht : t < 100) (hB : ∀ j, j < u → lA (6 * dd + j) < 100 ∧ lB (6 * dd + j) < 100) : XM d 0 0 k_Mod_known L xs [.ref m, .int (nI dd), .int (nI u), .int (nI t)] n h (qR n h (nI (vB (vKt dd u lA lB t)))) := by
  refine XM.of rfl (Nat.le_of_ble_eq_true rfl) ?_
  have loop : ∀ q j, j + q = u → XW (x_rm d 0 0) k_Mod_known L xs (x_mq 0 0 (qR n h (nI (vB (vKt dd u lA lB t))))) 0 0 19 [(0, .ref m), (1, .int (nI dd)), (2, .int (nI u)), (3, .int (nI t)), (4, .int (nI (vB (vKt dd j lA lB t)))), (5, .int (nI (6 * dd + j)))] [] n h := by
    intro q
    induction q with
    | zero =>
      intro j hj
      have e : j = u := by omega
      subst e
      refine xr_iload a_Mod_known_19 rfl ?_
      refine xr_bipush a_Mod_known_21 (v := nI 6) (by decide +kernel) ?_
      refine xr_iload_n a_Mod_known_23 rfl ?_
      first | refine xn_imul a_Mod_known_24 ?_ | refine xr_imul a_Mod_known_24 ?_
      refine xr_iload_n a_Mod_known_25 rfl ?_
      first | refine xn_iadd a_Mod_known_26 ?_ | refine xr_iadd a_Mod_known_26 ?_
      refine xn_icmp_ge a_Mod_known_27 (by omega) (by omega) (fun b27 => ?_) (fun b27 => ?_)
      · refine xr_iload a_Mod_known_70 rfl ?_
        refine xr_ireturn a_Mod_known_72 rfl (nar_vB _) (by omega) (by omega) ?_
        exact ⟨rfl, rfl, rfl⟩
      · omega
    | succ q ih =>
      intro j hj
      obtain ⟨b1, b2⟩ := hB j (by omega)
      have m62 : ∀ x, x = vB (vKt dd (j + 1) lA lB t) → XW (x_rm d 0 0) k_Mod_known L xs (x_mq 0 0 (qR n h (nI (vB (vKt dd u lA lB t))))) 0 0 62 [(0, .ref m), (1, .int (nI dd)), (2, .int (nI u)), (3, .int (nI t)), (5, .int (nI (6 * dd + j)))] [.int (nI x)] n h := by
        intro x hx
        subst hx
        refine xr_istore a_Mod_known_62 (by decide) rfl ?_
        first | refine xn_iinc a_Mod_known_64 rfl (by decide) rfl ?_ | refine xr_iinc a_Mod_known_64 rfl rfl (by decide) rfl ?_
        refine xr_goto a_Mod_known_67 ?_
        refine xr_ls [(0, .ref m), (1, .int (nI dd)), (2, .int (nI u)), (3, .int (nI t)), (4, .int (nI (vB (vKt dd (j + 1) lA lB t)))), (5, .int (nI (6 * dd + (j + 1))))] ⟨rfl, rfl, rfl, rfl, rfl, rfl, trivial⟩ ?_
        exact ih (j + 1) (by omega)
      have yes : vKt dd (j + 1) lA lB t → XW (x_rm d 0 0) k_Mod_known L xs (x_mq 0 0 (qR n h (nI (vB (vKt dd u lA lB t))))) 0 0 57 [(0, .ref m), (1, .int (nI dd)), (2, .int (nI u)), (3, .int (nI t)), (5, .int (nI (6 * dd + j)))] [] n h := by
        intro z
        refine xr_iconst a_Mod_known_57 (v := nI 1) (by decide +kernel) ?_
        refine xr_goto a_Mod_known_58 ?_
        exact m62 1 (by rw [vB_t z])
      refine xr_iload a_Mod_known_19 rfl ?_
      refine xr_bipush a_Mod_known_21 (v := nI 6) (by decide +kernel) ?_
      refine xr_iload_n a_Mod_known_23 rfl ?_
      first | refine xn_imul a_Mod_known_24 ?_ | refine xr_imul a_Mod_known_24 ?_
      refine xr_iload_n a_Mod_known_25 rfl ?_
      first | refine xn_iadd a_Mod_known_26 ?_ | refine xr_iadd a_Mod_known_26 ?_
      refine xn_icmp_ge a_Mod_known_27 (by omega) (by omega) (fun b27 => ?_) (fun b27 => ?_)
      · omega
      · refine xr_iload a_Mod_known_30 rfl ?_
        refine xn_if_ne a_Mod_known_32 (vB_lt31 _) (fun b32 => ?_) (fun b32 => ?_)
        · refine xr_ls [(0, .ref m), (1, .int (nI dd)), (2, .int (nI u)), (3, .int (nI t)), (5, .int (nI (6 * dd + j)))] ⟨rfl, rfl, rfl, rfl, rfl, trivial⟩ ?_
          exact yes (vKt_s.mpr (Or.inl (vB_1 b32)))
        · refine xr_aload_n a_Mod_known_35 rfl ?_
          apply xr_getf a_Mod_known_36
          · (repeat' (first | assumption | exact va_up_self _ _ _ | refine x_lk (by omega) ?_))
          · rfl
          refine xr_iload a_Mod_known_39 rfl ?_
          apply xn_iaload a_Mod_known_41
          · (repeat' (first | assumption | exact va_up_self _ _ _ | refine x_lk (by omega) ?_))
          · omega
          · omega
          refine xr_iload_n a_Mod_known_42 rfl ?_
          refine xn_icmp_eq a_Mod_known_43 (by omega) (by omega) (fun b43 => ?_) (fun b43 => ?_)
          · refine xr_ls [(0, .ref m), (1, .int (nI dd)), (2, .int (nI u)), (3, .int (nI t)), (5, .int (nI (6 * dd + j)))] ⟨rfl, rfl, rfl, rfl, rfl, trivial⟩ ?_
            exact yes (vKt_s.mpr (Or.inr (Or.inl b43)))
          · refine xr_aload_n a_Mod_known_46 rfl ?_
            apply xr_getf a_Mod_known_47
            · (repeat' (first | assumption | exact va_up_self _ _ _ | refine x_lk (by omega) ?_))
            · rfl
            refine xr_iload a_Mod_known_50 rfl ?_
            apply xn_iaload a_Mod_known_52
            · (repeat' (first | assumption | exact va_up_self _ _ _ | refine x_lk (by omega) ?_))
            · omega
            · omega
            refine xr_iload_n a_Mod_known_53 rfl ?_
            refine xn_icmp_ne a_Mod_known_54 (by omega) (by omega) (fun b54 => ?_) (fun b54 => ?_)
            · refine xr_iconst a_Mod_known_61 (v := nI 0) (by decide +kernel) ?_
              refine xr_ls [(0, .ref m), (1, .int (nI dd)), (2, .int (nI u)), (3, .int (nI t)), (5, .int (nI (6 * dd + j)))] ⟨rfl, rfl, rfl, rfl, rfl, trivial⟩ ?_
              refine m62 0 ?_
              rw [vB_f (fun z => ?_)]
              rcases vKt_s.mp z with z | z | z
              · exact vB_0 b32 z
              · exact b43 z
              · exact b54 z
            · refine xr_ls [(0, .ref m), (1, .int (nI dd)), (2, .int (nI u)), (3, .int (nI t)), (5, .int (nI (6 * dd + j)))] ⟨rfl, rfl, rfl, rfl, rfl, trivial⟩ ?_
              exact yes (vKt_s.mpr (Or.inr (Or.inr b54)))
  have start : ∀ x, x = vB (vKt dd 0 lA lB t) → XW (x_rm d 0 0) k_Mod_known L xs (x_mq 0 0 (qR n h (nI (vB (vKt dd u lA lB t))))) 0 0 11 [(0, .ref m), (1, .int (nI dd)), (2, .int (nI u)), (3, .int (nI t))] [.int (nI x)] n h := by
    intro x hx
    subst hx
    refine xr_istore a_Mod_known_11 (by decide) rfl ?_
    refine xr_bipush a_Mod_known_13 (v := nI 6) (by decide +kernel) ?_
    refine xr_iload_n a_Mod_known_15 rfl ?_
    first | refine xn_imul a_Mod_known_16 ?_ | refine xr_imul a_Mod_known_16 ?_
    refine xr_istore a_Mod_known_17 (by decide) rfl ?_
    refine xr_ls [(0, .ref m), (1, .int (nI dd)), (2, .int (nI u)), (3, .int (nI t)), (4, .int (nI (vB (vKt dd 0 lA lB t)))), (5, .int (nI (6 * dd + 0)))] ⟨rfl, rfl, rfl, rfl, rfl, rfl, trivial⟩ ?_
    exact loop u 0 (by omega)
  refine xr_iload_n a_Mod_known_0 rfl ?_
  refine xr_bipush a_Mod_known_1 (v := nI 16) (by decide +kernel) ?_
  refine xn_icmp_ge a_Mod_known_3 (by omega) (by omega) (fun b3 => ?_) (fun b3 => ?_)
  · refine xr_iconst a_Mod_known_10 (v := nI 0) (by decide +kernel) ?_
    exact start 0 (by rw [vB_f (fun z => by have := vKt_0.mp z; omega)])
  · refine xr_iconst a_Mod_known_6 (v := nI 1) (by decide +kernel) ?_
    refine xr_goto a_Mod_known_7 ?_
    exact start 1 (by rw [vB_t (vKt_0.mpr b3)])
def vBs (al w : Nat) : Nat → Option Nat
  | 0 => none
  | p + 1 => if vOk al w p then some p else vBs al w p
theorem vBs_4 (al w : Nat) : vBs al w 4 = vBest al w := rfl
theorem vBs_lt {al w : Nat} : ∀ {p k : Nat}, vBs al w p = some k → k < p
  | 0, k, h => by cases h
  | p + 1, k, h => by
    unfold vBs at h
    split at h
    · cases h; omega
    · have := vBs_lt h; omega
theorem bx_and : ∀ p, p < 4 → ∀ w, w < 4 → (nI p &&& (nI w ^^^ (-1)) = 0 ↔ p &&& w = p) := by decide +kernel
theorem t_Mod_best {dd u a : Nat} (p0 : h m = cM m as ma stk ne rq tr) (c0 : h (m + 4) = cI 4 pa) (c1 : h (m + 15) = cI 48 lR) (c2 : h (m + 16) = cI 48 lA) (c3 : h (m + 17) = cI 48 lB) (hdd : dd < 8) (hu : u ≤ 6) (ha : a < 48) (hR : lR a < 4) (hp : pa (lR a) < 16) (hA : lA a < 100 ∧ lB a < 100) (hB : ∀ j, j < u → lA (6 * dd + j) < 100 ∧ lB (6 * dd + j) < 100) (hd : 1 ≤ d) : XM d 0 0 k_Mod_best L xs [.ref m, .int (nI dd), .int (nI u), .int (nI a)] n h (qR n h (oI (vBest (pa (lR a)) (vB (vKt dd u lA lB (lA a)) + 2 * vB (vKt dd u lA lB (lB a)))))) := by
  have k1 := t_Mod_known (d := 0) (L := L) (xs := xs) (n := n) (t := lA a) p0 c2 c3 hdd hu hA.1 hB
  have k2 := t_Mod_known (d := 0) (L := L) (xs := xs) (n := n) (t := lB a) p0 c2 c3 hdd hu hA.2 hB
  have l1 := vB_lt (vKt dd u lA lB (lA a))
  have l2 := vB_lt (vKt dd u lA lB (lB a))
  generalize vB (vKt dd u lA lB (lA a)) = x at k1 l1 ⊢
  generalize vB (vKt dd u lA lB (lB a)) = y at k2 l2 ⊢
  refine XM.of rfl (Nat.le_of_ble_eq_true rfl) ?_
  have step : ∀ p, p < 4 → XW (x_rm d 0 0) k_Mod_best L xs (x_mq 0 0 (qR n h (oI (vBest (pa (lR a)) (x + 2 * y))))) 0 0 49 [(0, .ref m), (3, .int (nI a)), (4, .int (nI (x + 2 * y))), (5, .int (oI (vBs (pa (lR a)) (x + 2 * y) (p + 1)))), (6, .int (nI (p + 1)))] [] n h → XW (x_rm d 0 0) k_Mod_best L xs (x_mq 0 0 (qR n h (oI (vBest (pa (lR a)) (x + 2 * y))))) 0 0 49 [(0, .ref m), (3, .int (nI a)), (4, .int (nI (x + 2 * y))), (5, .int (oI (vBs (pa (lR a)) (x + 2 * y) p))), (6, .int (nI p))] [] n h := by
    intro p hp4 hnext
    have hm2 := Nat.mod_lt (pa (lR a) / 2 ^ p) (show 0 < 2 by decide)
    have no : vOk (pa (lR a)) (x + 2 * y) p = false → XW (x_rm d 0 0) k_Mod_best L xs (x_mq 0 0 (qR n h (oI (vBest (pa (lR a)) (x + 2 * y))))) 0 0 90 [(0, .ref m), (3, .int (nI a)), (4, .int (nI (x + 2 * y))), (5, .int (oI (vBs (pa (lR a)) (x + 2 * y) p))), (6, .int (nI p))] [] n h := by
      intro z
      refine xr_iload a_Mod_best_90 rfl ?_
      refine xr_istore a_Mod_best_92 (by decide) rfl ?_
      first | refine xn_iinc a_Mod_best_94 rfl (by decide) rfl ?_ | refine xr_iinc a_Mod_best_94 rfl rfl (by decide) rfl ?_
      refine xr_goto a_Mod_best_97 ?_
      refine xr_ls [(0, .ref m), (3, .int (nI a)), (4, .int (nI (x + 2 * y))), (5, .int (oI (vBs (pa (lR a)) (x + 2 * y) p))), (6, .int (nI (p + 1)))] ⟨rfl, rfl, rfl, rfl, rfl, trivial⟩ ?_
      have e : vBs (pa (lR a)) (x + 2 * y) (p + 1) = vBs (pa (lR a)) (x + 2 * y) p := if_neg (by rw [z]; decide)
      rw [e] at hnext
      exact hnext
    refine xr_iload a_Mod_best_49 rfl ?_
    refine xr_iconst a_Mod_best_51 (v := nI 4) (by decide +kernel) ?_
    refine xn_icmp_ge a_Mod_best_52 (by omega) (by omega) (fun b52 => ?_) (fun b52 => ?_)
    · omega
    · refine xr_aload_n a_Mod_best_55 rfl ?_
      apply xr_getf a_Mod_best_56
      · (repeat' (first | assumption | exact va_up_self _ _ _ | refine x_lk (by omega) ?_))
      · rfl
      refine xr_aload_n a_Mod_best_59 rfl ?_
      apply xr_getf a_Mod_best_60
      · (repeat' (first | assumption | exact va_up_self _ _ _ | refine x_lk (by omega) ?_))
      · rfl
      refine xr_iload_n a_Mod_best_63 rfl ?_
      apply xn_iaload a_Mod_best_64
      · (repeat' (first | assumption | exact va_up_self _ _ _ | refine x_lk (by omega) ?_))
      · omega
      · omega
      apply xn_iaload a_Mod_best_65
      · (repeat' (first | assumption | exact va_up_self _ _ _ | refine x_lk (by omega) ?_))
      · omega
      · omega
      refine xr_iload a_Mod_best_66 rfl ?_
      refine xr_ishr a_Mod_best_68 ?_
      refine xr_iconst a_Mod_best_69 (v := nI 1) (by decide +kernel) ?_
      refine xr_iand a_Mod_best_70 ?_; rw [bp_al _ hp p hp4]
      refine xr_iconst a_Mod_best_71 (v := nI 1) (by decide +kernel) ?_
      refine xn_icmp_ne a_Mod_best_72 (by omega) (by omega) (fun b72 => ?_) (fun b72 => ?_)
      · refine no ?_
        unfold vOk
        rw [Bool.and_eq_false_iff]
        left
        simpa using b72
      · refine xr_iload a_Mod_best_75 rfl ?_
        refine xr_iload a_Mod_best_77 rfl ?_
        refine xr_iconst a_Mod_best_79 (v := -1) (by decide +kernel) ?_
        refine xr_ixor a_Mod_best_80 ?_
        refine xr_iand a_Mod_best_81 ?_
        refine xr_if_ne a_Mod_best_82 (fun b82 => ?_) (fun b82 => ?_)
        · refine no ?_
          unfold vOk
          rw [Bool.and_eq_false_iff]
          right
          have := fun z => b82 ((bx_and p hp4 (x + 2 * y) (by omega)).mpr z)
          simpa using this
        · have z : vOk (pa (lR a)) (x + 2 * y) p = true := by
            unfold vOk
            rw [Bool.and_eq_true]
            exact ⟨by simpa using b72, by simpa using (bx_and p hp4 (x + 2 * y) (by omega)).mp b82⟩
          refine xr_iload a_Mod_best_85 rfl ?_
          refine xr_goto a_Mod_best_87 ?_
          refine xr_istore a_Mod_best_92 (by decide) rfl ?_
          first | refine xn_iinc a_Mod_best_94 rfl (by decide) rfl ?_ | refine xr_iinc a_Mod_best_94 rfl rfl (by decide) rfl ?_
          refine xr_goto a_Mod_best_97 ?_
          refine xr_ls [(0, .ref m), (3, .int (nI a)), (4, .int (nI (x + 2 * y))), (5, .int (nI p)), (6, .int (nI (p + 1)))] ⟨rfl, rfl, rfl, rfl, rfl, trivial⟩ ?_
          have e : vBs (pa (lR a)) (x + 2 * y) (p + 1) = some p := if_pos z
          rw [e] at hnext
          exact hnext
  have fin : XW (x_rm d 0 0) k_Mod_best L xs (x_mq 0 0 (qR n h (oI (vBest (pa (lR a)) (x + 2 * y))))) 0 0 43 [(0, .ref m), (3, .int (nI a)), (4, .int (nI (x + 2 * y)))] [] n h := by
    refine xr_iconst a_Mod_best_43 (v := -1) (by decide +kernel) ?_
    refine xr_istore a_Mod_best_44 (by decide) rfl ?_
    refine xr_iconst a_Mod_best_46 (v := nI 0) (by decide +kernel) ?_
    refine xr_istore a_Mod_best_47 (by decide) rfl ?_
    refine xr_ls [(0, .ref m), (3, .int (nI a)), (4, .int (nI (x + 2 * y))), (5, .int (oI (vBs (pa (lR a)) (x + 2 * y) 0))), (6, .int (nI 0))] ⟨rfl, rfl, rfl, rfl, rfl, trivial⟩ ?_
    refine step 0 (by omega) (step 1 (by omega) (step 2 (by omega) (step 3 (by omega) ?_)))
    refine xr_iload a_Mod_best_49 rfl ?_
    refine xr_iconst a_Mod_best_51 (v := nI 4) (by decide +kernel) ?_
    refine xn_icmp_ge a_Mod_best_52 (by omega) (by omega) (fun b52 => ?_) (fun b52 => ?_)
    · refine xr_iload a_Mod_best_100 rfl ?_
      refine xr_ireturn a_Mod_best_102 rfl rfl (by omega) (by omega) ?_
      exact ⟨rfl, rfl, rfl⟩
    · omega
  have m40 : ∀ w1 w2, w1 = x → w2 = 2 * y → XW (x_rm d 0 0) k_Mod_best L xs (x_mq 0 0 (qR n h (oI (vBest (pa (lR a)) (x + 2 * y))))) 0 0 40 [(0, .ref m), (3, .int (nI a))] [.int (nI w2), .int (nI w1)] n h := by
    intro w1 w2 e1 e2
    subst e1 e2
    first | refine xn_iadd a_Mod_best_40 ?_ | refine xr_iadd a_Mod_best_40 ?_
    refine xr_istore a_Mod_best_41 (by decide) rfl ?_
    refine xr_ls [(0, .ref m), (3, .int (nI a)), (4, .int (nI (w1 + 2 * y)))] ⟨rfl, rfl, rfl, trivial⟩ ?_
    exact fin
  have m20 : ∀ w1, w1 = x → XW (x_rm d 0 0) k_Mod_best L xs (x_mq 0 0 (qR n h (oI (vBest (pa (lR a)) (x + 2 * y))))) 0 0 20 [(0, .ref m), (1, .int (nI dd)), (2, .int (nI u)), (3, .int (nI a))] [.int (nI w1)] n h := by
    intro w1 e1
    refine xr_aload_n a_Mod_best_20 rfl ?_
    refine xr_iload_n a_Mod_best_21 rfl ?_
    refine xr_iload_n a_Mod_best_22 rfl ?_
    refine xr_aload_n a_Mod_best_23 rfl ?_
    apply xr_getf a_Mod_best_24
    · (repeat' (first | assumption | exact va_up_self _ _ _ | refine x_lk (by omega) ?_))
    · rfl
    refine xr_iload_n a_Mod_best_27 rfl ?_
    apply xn_iaload a_Mod_best_28
    · (repeat' (first | assumption | exact va_up_self _ _ _ | refine x_lk (by omega) ?_))
    · omega
    · omega
    refine xr_invV a_Mod_best_29 (by (repeat' (first | assumption | exact va_up_self _ _ _ | refine x_lk (by omega) ?_))) (k2) rfl rfl (by omega) (by omega) (by omega) (Nat.le_of_ble_eq_true rfl) ?_
    rintro _ _ h1 ⟨rfl, rfl, rfl⟩
    refine xn_if_eq a_Mod_best_32 (by omega) (fun b32 => ?_) (fun b32 => ?_)
    · refine xr_iconst a_Mod_best_39 (v := nI 0) (by decide +kernel) ?_
      refine xr_ls [(0, .ref m), (3, .int (nI a))] ⟨rfl, rfl, trivial⟩ ?_
      exact m40 w1 0 e1 (by omega)
    · refine xr_iconst a_Mod_best_35 (v := nI 2) (by decide +kernel) ?_
      refine xr_goto a_Mod_best_36 ?_
      refine xr_ls [(0, .ref m), (3, .int (nI a))] ⟨rfl, rfl, trivial⟩ ?_
      exact m40 w1 2 e1 (by omega)
  refine xr_aload_n a_Mod_best_0 rfl ?_
  refine xr_iload_n a_Mod_best_1 rfl ?_
  refine xr_iload_n a_Mod_best_2 rfl ?_
  refine xr_aload_n a_Mod_best_3 rfl ?_
  apply xr_getf a_Mod_best_4
  · (repeat' (first | assumption | exact va_up_self _ _ _ | refine x_lk (by omega) ?_))
  · rfl
  refine xr_iload_n a_Mod_best_7 rfl ?_
  apply xn_iaload a_Mod_best_8
  · (repeat' (first | assumption | exact va_up_self _ _ _ | refine x_lk (by omega) ?_))
  · omega
  · omega
  refine xr_invV a_Mod_best_9 (by (repeat' (first | assumption | exact va_up_self _ _ _ | refine x_lk (by omega) ?_))) (k1) rfl rfl (by omega) (by omega) (by omega) (Nat.le_of_ble_eq_true rfl) ?_
  rintro _ _ h1 ⟨rfl, rfl, rfl⟩
  refine xn_if_eq a_Mod_best_12 (by omega) (fun b12 => ?_) (fun b12 => ?_)
  · refine xr_iconst a_Mod_best_19 (v := nI 0) (by decide +kernel) ?_
    refine xr_ls [(0, .ref m), (1, .int (nI dd)), (2, .int (nI u)), (3, .int (nI a))] ⟨rfl, rfl, rfl, rfl, trivial⟩ ?_
    exact m20 0 (by omega)
  · refine xr_iconst a_Mod_best_15 (v := nI 1) (by decide +kernel) ?_
    refine xr_goto a_Mod_best_16 ?_
    refine xr_ls [(0, .ref m), (1, .int (nI dd)), (2, .int (nI u)), (3, .int (nI a))] ⟨rfl, rfl, rfl, rfl, trivial⟩ ?_
    exact m20 1 (by omega)
end T61

