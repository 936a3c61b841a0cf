/-! the reference: agrees -/
theorem vHeld_bd {K : Nat} {F S A B : Nat → Nat} {k t v : Nat} (ht : t < 100) (hA : ∀ j, j < k → A j < 100 ∧ B j < 100) (h : vHeld K F S A B k t = some v) : v < 2 ^ 31 := by
  unfold vHeld at h
  split at h
  · cases h; omega
  · obtain ⟨j, -, hj, q⟩ := vHl_some h
    have := hA j (by omega)
    rcases q with ⟨-, e⟩ | ⟨-, e⟩ <;> omega
section T63
variable {d L : Nat} {xs : Nat → Int32} {n : Nat} {h : xH} {m : Nat} {as ma stk ne rq tr : Nat} {rX rY lR lA lB : Nat → Nat} {pk : Nat → Option Nat} {P : Nat → Nat}
theorem t_Mod_agrees {dd k : Nat} (p0 : h m = cM m as ma stk ne rq tr) (x1 : h (m + 2) = cI 32 rX) (x2 : h (m + 3) = cI 32 rY) (c1 : h (m + 15) = cI 48 lR) (c2 : h (m + 16) = cI 48 lA) (c3 : h (m + 17) = cI 48 lB) (c4 : h (m + 20) = cO 6 pk) (hdd : dd < 8) (hk : k < 6) (hB : ∀ j, j < k + 1 → lR (6 * dd + j) < 4 ∧ lA (6 * dd + j) < 100 ∧ lB (6 * dd + j) < 100 ∧ pk j = some (P j) ∧ P j < 8) (hX : ∀ j, j < k + 1 → rX (8 * lR (6 * dd + j) + P j) < 100 ∧ rY (8 * lR (6 * dd + j) + P j) < 100) (hd : 1 ≤ d) : XM d 0 0 k_Mod_agrees L xs [.ref m, .int (nI dd), .int (nI k)] n h (qR n h (nI (vB (vAgr 16 (fun j => lA (6 * dd + j)) (fun j => lB (6 * dd + j)) (fun j => rX (8 * lR (6 * dd + j) + P j)) (fun j => rY (8 * lR (6 * dd + j) + P j)) k)))) := by
  obtain ⟨b1, b2, b3, b4, b5⟩ := hB k (by omega)
  obtain ⟨y1, y2⟩ := hX k (by omega)
  have eo : oI (pk k) = nI (P k) := by rw [b4]; rfl
  have k1 := t_Mod_held (d := 0) (L := L) (xs := xs) (n := n) (dd := dd) (u := k) (t := lA (6 * dd + k)) p0 x1 x2 c1 c2 c3 c4 hdd (by omega) b2 (fun j hj => hB j (by omega))
  have k2 := t_Mod_held (d := 0) (L := L) (xs := xs) (n := n) (dd := dd) (u := k) (t := lB (6 * dd + k)) p0 x1 x2 c1 c2 c3 c4 hdd (by omega) b3 (fun j hj => hB j (by omega))
  have d1 : ∀ v, vHeld 16 (fun j => lA (6 * dd + j)) (fun j => lB (6 * dd + j)) (fun j => rX (8 * lR (6 * dd + j) + P j)) (fun j => rY (8 * lR (6 * dd + j) + P j)) k (lA (6 * dd + k)) = some v → v < 2 ^ 31 := fun v hv => vHeld_bd b2 (fun j hj => hX j (by omega)) hv
  have d2 : ∀ v, vHeld 16 (fun j => lA (6 * dd + j)) (fun j => lB (6 * dd + j)) (fun j => rX (8 * lR (6 * dd + j) + P j)) (fun j => rY (8 * lR (6 * dd + j) + P j)) k (lB (6 * dd + k)) = some v → v < 2 ^ 31 := fun v hv => vHeld_bd b3 (fun j hj => hX j (by omega)) hv
  refine XM.of rfl (Nat.le_of_ble_eq_true rfl) ?_
  have no : ¬ vAgr 16 (fun j => lA (6 * dd + j)) (fun j => lB (6 * dd + j)) (fun j => rX (8 * lR (6 * dd + j) + P j)) (fun j => rY (8 * lR (6 * dd + j) + P j)) k → XW (x_rm d 0 0) k_Mod_agrees L xs (x_mq 0 0 (qR n h (nI (vB (vAgr 16 (fun j => lA (6 * dd + j)) (fun j => lB (6 * dd + j)) (fun j => rX (8 * lR (6 * dd + j) + P j)) (fun j => rY (8 * lR (6 * dd + j) + P j)) k))))) 0 0 148 [] [] n h := by
    intro z
    rw [vB_f z]
    refine xr_iconst a_Mod_agrees_148 (v := nI 0) (by decide +kernel) ?_
    refine xr_ireturn a_Mod_agrees_149 rfl rfl (by omega) (by omega) ?_
    exact ⟨rfl, rfl, rfl⟩
  have m105 : ∀ x, x = vB (lA (6 * dd + k) = lB (6 * dd + k) → rX (8 * lR (6 * dd + k) + P k) = rY (8 * lR (6 * dd + k) + P k)) → XW (x_rm d 0 0) k_Mod_agrees L xs (x_mq 0 0 (qR n h (nI (vB (vAgr 16 (fun j => lA (6 * dd + j)) (fun j => lB (6 * dd + j)) (fun j => rX (8 * lR (6 * dd + j) + P j)) (fun j => rY (8 * lR (6 * dd + j) + P j)) k))))) 0 0 105 [(0, .ref m), (3, .int (nI (8 * lR (6 * dd + k) + P k))), (4, .int (oI (vHeld 16 (fun j => lA (6 * dd + j)) (fun j => lB (6 * dd + j)) (fun j => rX (8 * lR (6 * dd + j) + P j)) (fun j => rY (8 * lR (6 * dd + j) + P j)) k (lA (6 * dd + k))))), (5, .int (oI (vHeld 16 (fun j => lA (6 * dd + j)) (fun j => lB (6 * dd + j)) (fun j => rX (8 * lR (6 * dd + j) + P j)) (fun j => rY (8 * lR (6 * dd + j) + P j)) k (lB (6 * dd + k)))))] [.int (nI x)] n h := by
    intro x hx
    subst hx
    have m139 : (∀ v, vHeld 16 (fun j => lA (6 * dd + j)) (fun j => lB (6 * dd + j)) (fun j => rX (8 * lR (6 * dd + j) + P j)) (fun j => rY (8 * lR (6 * dd + j) + P j)) k (lA (6 * dd + k)) = some v → v = rX (8 * lR (6 * dd + k) + P k)) → (∀ v, vHeld 16 (fun j => lA (6 * dd + j)) (fun j => lB (6 * dd + j)) (fun j => rX (8 * lR (6 * dd + j) + P j)) (fun j => rY (8 * lR (6 * dd + j) + P j)) k (lB (6 * dd + k)) = some v → v = rY (8 * lR (6 * dd + k) + P k)) → XW (x_rm d 0 0) k_Mod_agrees L xs (x_mq 0 0 (qR n h (nI (vB (vAgr 16 (fun j => lA (6 * dd + j)) (fun j => lB (6 * dd + j)) (fun j => rX (8 * lR (6 * dd + j) + P j)) (fun j => rY (8 * lR (6 * dd + j) + P j)) k))))) 0 0 139 [(0, .ref m), (3, .int (nI (8 * lR (6 * dd + k) + P k))), (4, .int (oI (vHeld 16 (fun j => lA (6 * dd + j)) (fun j => lB (6 * dd + j)) (fun j => rX (8 * lR (6 * dd + j) + P j)) (fun j => rY (8 * lR (6 * dd + j) + P j)) k (lA (6 * dd + k))))), (5, .int (oI (vHeld 16 (fun j => lA (6 * dd + j)) (fun j => lB (6 * dd + j)) (fun j => rX (8 * lR (6 * dd + j) + P j)) (fun j => rY (8 * lR (6 * dd + j) + P j)) k (lB (6 * dd + k))))), (6, .int (nI (vB (lA (6 * dd + k) = lB (6 * dd + k) → rX (8 * lR (6 * dd + k) + P k) = rY (8 * lR (6 * dd + k) + P k)))))] [] n h := by
      intro g1 g2
      refine xr_iload a_Mod_agrees_139 rfl ?_
      refine xn_if_eq a_Mod_agrees_141 (vB_lt31 _) (fun b141 => xr_ls [] trivial (no (fun z => vB_0 b141 z.2.2))) (fun b141 => ?_)
      have hz : vAgr 16 (fun j => lA (6 * dd + j)) (fun j => lB (6 * dd + j)) (fun j => rX (8 * lR (6 * dd + j) + P j)) (fun j => rY (8 * lR (6 * dd + j) + P j)) k := ⟨g1, g2, vB_1 b141⟩
      rw [vB_t hz]
      refine xr_iconst a_Mod_agrees_144 (v := nI 1) (by decide +kernel) ?_
      refine xr_goto a_Mod_agrees_145 ?_
      refine xr_ireturn a_Mod_agrees_149 rfl rfl (by omega) (by omega) ?_
      exact ⟨rfl, rfl, rfl⟩
    have m123 : (∀ v, vHeld 16 (fun j => lA (6 * dd + j)) (fun j => lB (6 * dd + j)) (fun j => rX (8 * lR (6 * dd + j) + P j)) (fun j => rY (8 * lR (6 * dd + j) + P j)) k (lA (6 * dd + k)) = some v → v = rX (8 * lR (6 * dd + k) + P k)) → XW (x_rm d 0 0) k_Mod_agrees L xs (x_mq 0 0 (qR n h (nI (vB (vAgr 16 (fun j => lA (6 * dd + j)) (fun j => lB (6 * dd + j)) (fun j => rX (8 * lR (6 * dd + j) + P j)) (fun j => rY (8 * lR (6 * dd + j) + P j)) k))))) 0 0 123 [(0, .ref m), (3, .int (nI (8 * lR (6 * dd + k) + P k))), (4, .int (oI (vHeld 16 (fun j => lA (6 * dd + j)) (fun j => lB (6 * dd + j)) (fun j => rX (8 * lR (6 * dd + j) + P j)) (fun j => rY (8 * lR (6 * dd + j) + P j)) k (lA (6 * dd + k))))), (5, .int (oI (vHeld 16 (fun j => lA (6 * dd + j)) (fun j => lB (6 * dd + j)) (fun j => rX (8 * lR (6 * dd + j) + P j)) (fun j => rY (8 * lR (6 * dd + j) + P j)) k (lB (6 * dd + k))))), (6, .int (nI (vB (lA (6 * dd + k) = lB (6 * dd + k) → rX (8 * lR (6 * dd + k) + P k) = rY (8 * lR (6 * dd + k) + P k)))))] [] n h := by
      intro g1
      refine xr_iload a_Mod_agrees_123 rfl ?_
      refine xr_if_lt a_Mod_agrees_125 (fun b125 => ?_) (fun b125 => ?_)
      · exact m139 g1 (fun v hv => by rw [(oI_neg d2).mp b125] at hv; cases hv)
      · refine xr_iload a_Mod_agrees_128 rfl ?_
        refine xr_aload_n a_Mod_agrees_130 rfl ?_
        apply xr_getf a_Mod_agrees_131
        · (repeat' (first | assumption | exact va_up_self _ _ _ | refine x_lk (by omega) ?_))
        · rfl
        refine xr_iload_n a_Mod_agrees_134 rfl ?_
        apply xn_iaload a_Mod_agrees_135
        · (repeat' (first | assumption | exact va_up_self _ _ _ | refine x_lk (by omega) ?_))
        · omega
        · omega
        refine xon_icmp_ne a_Mod_agrees_136 d2 (by omega) (fun b136 => ?_) (fun b136 => ?_)
        · exact xr_ls [] trivial (no (fun z => by
            cases e : vHeld 16 (fun j => lA (6 * dd + j)) (fun j => lB (6 * dd + j)) (fun j => rX (8 * lR (6 * dd + j) + P j)) (fun j => rY (8 * lR (6 * dd + j) + P j)) k (lB (6 * dd + k)) with
            | none => exact b125 ((oI_neg d2).mpr e)
            | some w => exact b136 (by rw [e]; exact congrArg some (z.2.1 w e))))
        · exact m139 g1 (fun v hv => by rw [b136] at hv; exact (Option.some.inj hv).symm)
    refine xr_istore a_Mod_agrees_105 (by decide) rfl ?_
    refine xr_iload a_Mod_agrees_107 rfl ?_
    refine xr_if_lt a_Mod_agrees_109 (fun b109 => ?_) (fun b109 => ?_)
    · refine xr_ls [(0, .ref m), (3, .int (nI (8 * lR (6 * dd + k) + P k))), (4, .int (oI (vHeld 16 (fun j => lA (6 * dd + j)) (fun j => lB (6 * dd + j)) (fun j => rX (8 * lR (6 * dd + j) + P j)) (fun j => rY (8 * lR (6 * dd + j) + P j)) k (lA (6 * dd + k))))), (5, .int (oI (vHeld 16 (fun j => lA (6 * dd + j)) (fun j => lB (6 * dd + j)) (fun j => rX (8 * lR (6 * dd + j) + P j)) (fun j => rY (8 * lR (6 * dd + j) + P j)) k (lB (6 * dd + k))))), (6, .int (nI (vB (lA (6 * dd + k) = lB (6 * dd + k) → rX (8 * lR (6 * dd + k) + P k) = rY (8 * lR (6 * dd + k) + P k)))))] ⟨rfl, rfl, rfl, rfl, rfl, trivial⟩ ?_
      exact m123 (fun v hv => by rw [(oI_neg d1).mp b109] at hv; cases hv)
    · refine xr_iload a_Mod_agrees_112 rfl ?_
      refine xr_aload_n a_Mod_agrees_114 rfl ?_
      apply xr_getf a_Mod_agrees_115
      · (repeat' (first | assumption | exact va_up_self _ _ _ | refine x_lk (by omega) ?_))
      · rfl
      refine xr_iload_n a_Mod_agrees_118 rfl ?_
      apply xn_iaload a_Mod_agrees_119
      · (repeat' (first | assumption | exact va_up_self _ _ _ | refine x_lk (by omega) ?_))
      · omega
      · omega
      refine xon_icmp_ne a_Mod_agrees_120 d1 (by omega) (fun b120 => ?_) (fun b120 => ?_)
      · exact xr_ls [] trivial (no (fun z => by
          cases e : vHeld 16 (fun j => lA (6 * dd + j)) (fun j => lB (6 * dd + j)) (fun j => rX (8 * lR (6 * dd + j) + P j)) (fun j => rY (8 * lR (6 * dd + j) + P j)) k (lA (6 * dd + k)) with
          | none => exact b109 ((oI_neg d1).mpr e)
          | some w => exact b120 (by rw [e]; exact congrArg some (z.1 w e))))
      · refine xr_ls [(0, .ref m), (3, .int (nI (8 * lR (6 * dd + k) + P k))), (4, .int (oI (vHeld 16 (fun j => lA (6 * dd + j)) (fun j => lB (6 * dd + j)) (fun j => rX (8 * lR (6 * dd + j) + P j)) (fun j => rY (8 * lR (6 * dd + j) + P j)) k (lA (6 * dd + k))))), (5, .int (oI (vHeld 16 (fun j => lA (6 * dd + j)) (fun j => lB (6 * dd + j)) (fun j => rX (8 * lR (6 * dd + j) + P j)) (fun j => rY (8 * lR (6 * dd + j) + P j)) k (lB (6 * dd + k))))), (6, .int (nI (vB (lA (6 * dd + k) = lB (6 * dd + k) → rX (8 * lR (6 * dd + k) + P k) = rY (8 * lR (6 * dd + k) + P k)))))] ⟨rfl, rfl, rfl, rfl, rfl, trivial⟩ ?_
        exact m123 (fun v hv => by rw [b120] at hv; exact (Option.some.inj hv).symm)
  refine xr_bipush a_Mod_agrees_0 (v := nI 8) (by decide +kernel) ?_
  refine xr_aload_n a_Mod_agrees_2 rfl ?_
  apply xr_getf a_Mod_agrees_3
  · (repeat' (first | assumption | exact va_up_self _ _ _ | refine x_lk (by omega) ?_))
  · rfl
  refine xr_bipush a_Mod_agrees_6 (v := nI 6) (by decide +kernel) ?_
  refine xr_iload_n a_Mod_agrees_8 rfl ?_
  first | refine xn_imul a_Mod_agrees_9 ?_ | refine xr_imul a_Mod_agrees_9 ?_
  refine xr_iload_n a_Mod_agrees_10 rfl ?_
  first | refine xn_iadd a_Mod_agrees_11 ?_ | refine xr_iadd a_Mod_agrees_11 ?_
  apply xn_iaload a_Mod_agrees_12
  · (repeat' (first | assumption | exact va_up_self _ _ _ | refine x_lk (by omega) ?_))
  · omega
  · omega
  first | refine xn_imul a_Mod_agrees_13 ?_ | refine xr_imul a_Mod_agrees_13 ?_
  refine xr_aload_n a_Mod_agrees_14 rfl ?_
  apply xr_getf a_Mod_agrees_15
  · (repeat' (first | assumption | exact va_up_self _ _ _ | refine x_lk (by omega) ?_))
  · rfl
  refine xr_iload_n a_Mod_agrees_18 rfl ?_
  apply xo_iaload a_Mod_agrees_19
  · (repeat' (first | assumption | exact va_up_self _ _ _ | refine x_lk (by omega) ?_))
  · omega
  · omega
  rw [eo]
  first | refine xn_iadd a_Mod_agrees_20 ?_ | refine xr_iadd a_Mod_agrees_20 ?_
  refine xr_istore_n a_Mod_agrees_21 (by decide) rfl ?_
  refine xr_aload_n a_Mod_agrees_22 rfl ?_
  refine xr_iload_n a_Mod_agrees_23 rfl ?_
  refine xr_iload_n a_Mod_agrees_24 rfl ?_
  refine xr_aload_n a_Mod_agrees_25 rfl ?_
  apply xr_getf a_Mod_agrees_26
  · (repeat' (first | assumption | exact va_up_self _ _ _ | refine x_lk (by omega) ?_))
  · rfl
  refine xr_bipush a_Mod_agrees_29 (v := nI 6) (by decide +kernel) ?_
  refine xr_iload_n a_Mod_agrees_31 rfl ?_
  first | refine xn_imul a_Mod_agrees_32 ?_ | refine xr_imul a_Mod_agrees_32 ?_
  refine xr_iload_n a_Mod_agrees_33 rfl ?_
  first | refine xn_iadd a_Mod_agrees_34 ?_ | refine xr_iadd a_Mod_agrees_34 ?_
  apply xn_iaload a_Mod_agrees_35
  · (repeat' (first | assumption | exact va_up_self _ _ _ | refine x_lk (by omega) ?_))
  · omega
  · omega
  refine xr_invV a_Mod_agrees_36 (by (repeat' (first | assumption | exact va_up_self _ _ _ | refine x_lk (by omega) ?_))) (k1) rfl rfl (by omega) (by omega) (by omega) (Nat.le_of_ble_eq_true rfl) ?_
  rintro _ _ h1 ⟨rfl, rfl, rfl⟩
  refine xr_istore a_Mod_agrees_39 (by decide) rfl ?_
  refine xr_aload_n a_Mod_agrees_41 rfl ?_
  refine xr_iload_n a_Mod_agrees_42 rfl ?_
  refine xr_iload_n a_Mod_agrees_43 rfl ?_
  refine xr_aload_n a_Mod_agrees_44 rfl ?_
  apply xr_getf a_Mod_agrees_45
  · (repeat' (first | assumption | exact va_up_self _ _ _ | refine x_lk (by omega) ?_))
  · rfl
  refine xr_bipush a_Mod_agrees_48 (v := nI 6) (by decide +kernel) ?_
  refine xr_iload_n a_Mod_agrees_50 rfl ?_
  first | refine xn_imul a_Mod_agrees_51 ?_ | refine xr_imul a_Mod_agrees_51 ?_
  refine xr_iload_n a_Mod_agrees_52 rfl ?_
  first | refine xn_iadd a_Mod_agrees_53 ?_ | refine xr_iadd a_Mod_agrees_53 ?_
  apply xn_iaload a_Mod_agrees_54
  · (repeat' (first | assumption | exact va_up_self _ _ _ | refine x_lk (by omega) ?_))
  · omega
  · omega
  refine xr_invV a_Mod_agrees_55 (by (repeat' (first | assumption | exact va_up_self _ _ _ | refine x_lk (by omega) ?_))) (k2) rfl rfl (by omega) (by omega) (by omega) (Nat.le_of_ble_eq_true rfl) ?_
  rintro _ _ h1 ⟨rfl, rfl, rfl⟩
  refine xr_istore a_Mod_agrees_58 (by decide) rfl ?_
  refine xr_aload_n a_Mod_agrees_60 rfl ?_
  apply xr_getf a_Mod_agrees_61
  · (repeat' (first | assumption | exact va_up_self _ _ _ | refine x_lk (by omega) ?_))
  · rfl
  refine xr_bipush a_Mod_agrees_64 (v := nI 6) (by decide +kernel) ?_
  refine xr_iload_n a_Mod_agrees_66 rfl ?_
  first | refine xn_imul a_Mod_agrees_67 ?_ | refine xr_imul a_Mod_agrees_67 ?_
  refine xr_iload_n a_Mod_agrees_68 rfl ?_
  first | refine xn_iadd a_Mod_agrees_69 ?_ | refine xr_iadd a_Mod_agrees_69 ?_
  apply xn_iaload a_Mod_agrees_70
  · (repeat' (first | assumption | exact va_up_self _ _ _ | refine x_lk (by omega) ?_))
  · omega
  · omega
  refine xr_aload_n a_Mod_agrees_71 rfl ?_
  apply xr_getf a_Mod_agrees_72
  · (repeat' (first | assumption | exact va_up_self _ _ _ | refine x_lk (by omega) ?_))
  · rfl
  refine xr_bipush a_Mod_agrees_75 (v := nI 6) (by decide +kernel) ?_
  refine xr_iload_n a_Mod_agrees_77 rfl ?_
  first | refine xn_imul a_Mod_agrees_78 ?_ | refine xr_imul a_Mod_agrees_78 ?_
  refine xr_iload_n a_Mod_agrees_79 rfl ?_
  first | refine xn_iadd a_Mod_agrees_80 ?_ | refine xr_iadd a_Mod_agrees_80 ?_
  apply xn_iaload a_Mod_agrees_81
  · (repeat' (first | assumption | exact va_up_self _ _ _ | refine x_lk (by omega) ?_))
  · omega
  · omega
  refine xn_icmp_ne a_Mod_agrees_82 (by omega) (by omega) (fun b82 => ?_) (fun b82 => ?_)
  · refine xr_iconst a_Mod_agrees_100 (v := nI 1) (by decide +kernel) ?_
    refine xr_goto a_Mod_agrees_101 ?_
    refine xr_ls [(0, .ref m), (3, .int (nI (8 * lR (6 * dd + k) + P k))), (4, .int (oI (vHeld 16 (fun j => lA (6 * dd + j)) (fun j => lB (6 * dd + j)) (fun j => rX (8 * lR (6 * dd + j) + P j)) (fun j => rY (8 * lR (6 * dd + j) + P j)) k (lA (6 * dd + k))))), (5, .int (oI (vHeld 16 (fun j => lA (6 * dd + j)) (fun j => lB (6 * dd + j)) (fun j => rX (8 * lR (6 * dd + j) + P j)) (fun j => rY (8 * lR (6 * dd + j) + P j)) k (lB (6 * dd + k)))))] ⟨rfl, rfl, rfl, rfl, trivial⟩ ?_
    exact m105 1 (by rw [vB_t (fun z => absurd z b82)])
  · refine xr_aload_n a_Mod_agrees_85 rfl ?_
    apply xr_getf a_Mod_agrees_86
    · (repeat' (first | assumption | exact va_up_self _ _ _ | refine x_lk (by omega) ?_))
    · rfl
    refine xr_iload_n a_Mod_agrees_89 rfl ?_
    apply xn_iaload a_Mod_agrees_90
    · (repeat' (first | assumption | exact va_up_self _ _ _ | refine x_lk (by omega) ?_))
    · omega
    · omega
    refine xr_aload_n a_Mod_agrees_91 rfl ?_
    apply xr_getf a_Mod_agrees_92
    · (repeat' (first | assumption | exact va_up_self _ _ _ | refine x_lk (by omega) ?_))
    · rfl
    refine xr_iload_n a_Mod_agrees_95 rfl ?_
    apply xn_iaload a_Mod_agrees_96
    · (repeat' (first | assumption | exact va_up_self _ _ _ | refine x_lk (by omega) ?_))
    · omega
    · omega
    refine xn_icmp_ne a_Mod_agrees_97 (by omega) (by omega) (fun b97 => ?_) (fun b97 => ?_)
    · refine xr_iconst a_Mod_agrees_104 (v := nI 0) (by decide +kernel) ?_
      refine xr_ls [(0, .ref m), (3, .int (nI (8 * lR (6 * dd + k) + P k))), (4, .int (oI (vHeld 16 (fun j => lA (6 * dd + j)) (fun j => lB (6 * dd + j)) (fun j => rX (8 * lR (6 * dd + j) + P j)) (fun j => rY (8 * lR (6 * dd + j) + P j)) k (lA (6 * dd + k))))), (5, .int (oI (vHeld 16 (fun j => lA (6 * dd + j)) (fun j => lB (6 * dd + j)) (fun j => rX (8 * lR (6 * dd + j) + P j)) (fun j => rY (8 * lR (6 * dd + j) + P j)) k (lB (6 * dd + k)))))] ⟨rfl, rfl, rfl, rfl, trivial⟩ ?_
      exact m105 0 (by rw [vB_f (fun z => b97 (z b82))])
    · refine xr_iconst a_Mod_agrees_100 (v := nI 1) (by decide +kernel) ?_
      refine xr_goto a_Mod_agrees_101 ?_
      refine xr_ls [(0, .ref m), (3, .int (nI (8 * lR (6 * dd + k) + P k))), (4, .int (oI (vHeld 16 (fun j => lA (6 * dd + j)) (fun j => lB (6 * dd + j)) (fun j => rX (8 * lR (6 * dd + j) + P j)) (fun j => rY (8 * lR (6 * dd + j) + P j)) k (lA (6 * dd + k))))), (5, .int (oI (vHeld 16 (fun j => lA (6 * dd + j)) (fun j => lB (6 * dd + j)) (fun j => rX (8 * lR (6 * dd + j) + P j)) (fun j => rY (8 * lR (6 * dd + j) + P j)) k (lB (6 * dd + k)))))] ⟨rfl, rfl, rfl, rfl, trivial⟩ ?_
      exact m105 1 (by rw [vB_t (fun _ => b97)])
end T63

