/-! the reference: held -/
section T62
variable {d L : Nat} {xs : Nat → Int32} {n : Nat} {h : xH} {m : Nat} {as ma stk ne rq tr : Nat} {rX rY lR lA lB : Nat → Nat} {pk : Nat → Option Nat} {P : Nat → Nat}
theorem t_Mod_held {dd u t : Nat} (p0 : h m = cM m as ma stk ne rq tr) (x1 : h (m + 2) = cI 32 rX) (x2 : h (m + 3) = cI 32 rY) (c1 : h (m + 15) = cI 48 lR) (c2 : h (m + 16) = cI 48 lA) (c3 : h (m + 17) = cI 48 lB) (c4 : h (m + 20) = cO 6 pk) (hdd : dd < 8) (hu : u ≤ 6) (ht : t < 100) (hB : ∀ j, j < u → lR (6 * dd + j) < 4 ∧ lA (6 * dd + j) < 100 ∧ lB (6 * dd + j) < 100 ∧ pk j = some (P j) ∧ P j < 8) : XM d 0 0 k_Mod_held L xs [.ref m, .int (nI dd), .int (nI u), .int (nI t)] n h (qR n h (oI (vHeld 16 (fun j => lA (6 * dd + j)) (fun j => lB (6 * dd + j)) (fun j => rX (8 * lR (6 * dd + j) + P j)) (fun j => rY (8 * lR (6 * dd + j) + P j)) u t))) := by
  refine XM.of rfl (Nat.le_of_ble_eq_true rfl) ?_
  have loop : ¬ t < 16 → ∀ q j, j + q = u → vHl (fun j => lA (6 * dd + j)) (fun j => lB (6 * dd + j)) (fun j => rX (8 * lR (6 * dd + j) + P j)) (fun j => rY (8 * lR (6 * dd + j) + P j)) t j q = vHl (fun j => lA (6 * dd + j)) (fun j => lB (6 * dd + j)) (fun j => rX (8 * lR (6 * dd + j) + P j)) (fun j => rY (8 * lR (6 * dd + j) + P j)) t 0 u → XW (x_rm d 0 0) k_Mod_held L xs (x_mq 0 0 (qR n h (oI (vHeld 16 (fun j => lA (6 * dd + j)) (fun j => lB (6 * dd + j)) (fun j => rX (8 * lR (6 * dd + j) + P j)) (fun j => rY (8 * lR (6 * dd + j) + P j)) u t)))) 0 0 11 [(0, .ref m), (1, .int (nI dd)), (2, .int (nI u)), (3, .int (nI t)), (4, .int (nI j))] [] n h := by
    intro ht16 q
    induction q with
    | zero =>
      intro j hj he
      refine xr_iload a_Mod_held_11 rfl ?_
      refine xr_iload_n a_Mod_held_13 rfl ?_
      refine xn_icmp_ge a_Mod_held_14 (by omega) (by omega) (fun b14 => ?_) (fun b14 => ?_)
      · refine xr_iconst a_Mod_held_96 (v := -1) (by decide +kernel) ?_
        refine xr_ireturn a_Mod_held_97 rfl rfl (by omega) (by omega) ?_
        refine ⟨?_, rfl, rfl⟩
        unfold vHeld
        rw [if_neg ht16, ← he]
        rfl
      · omega
    | succ q ih =>
      intro j hj he
      obtain ⟨b1, b2, b3, b4, b5⟩ := hB j (by omega)
      have eo : oI (pk j) = nI (P j) := by rw [b4]; rfl
      refine xr_iload a_Mod_held_11 rfl ?_
      refine xr_iload_n a_Mod_held_13 rfl ?_
      refine xn_icmp_ge a_Mod_held_14 (by omega) (by omega) (fun b14 => ?_) (fun b14 => ?_)
      · omega
      · refine xr_bipush a_Mod_held_17 (v := nI 8) (by decide +kernel) ?_
        refine xr_aload_n a_Mod_held_19 rfl ?_
        apply xr_getf a_Mod_held_20
        · (repeat' (first | assumption | exact va_up_self _ _ _ | refine x_lk (by omega) ?_))
        · rfl
        refine xr_bipush a_Mod_held_23 (v := nI 6) (by decide +kernel) ?_
        refine xr_iload_n a_Mod_held_25 rfl ?_
        first | refine xn_imul a_Mod_held_26 ?_ | refine xr_imul a_Mod_held_26 ?_
        refine xr_iload a_Mod_held_27 rfl ?_
        first | refine xn_iadd a_Mod_held_29 ?_ | refine xr_iadd a_Mod_held_29 ?_
        apply xn_iaload a_Mod_held_30
        · (repeat' (first | assumption | exact va_up_self _ _ _ | refine x_lk (by omega) ?_))
        · omega
        · omega
        first | refine xn_imul a_Mod_held_31 ?_ | refine xr_imul a_Mod_held_31 ?_
        refine xr_aload_n a_Mod_held_32 rfl ?_
        apply xr_getf a_Mod_held_33
        · (repeat' (first | assumption | exact va_up_self _ _ _ | refine x_lk (by omega) ?_))
        · rfl
        refine xr_iload a_Mod_held_36 rfl ?_
        apply xo_iaload a_Mod_held_38
        · (repeat' (first | assumption | exact va_up_self _ _ _ | refine x_lk (by omega) ?_))
        · omega
        · omega
        rw [eo]
        first | refine xn_iadd a_Mod_held_39 ?_ | refine xr_iadd a_Mod_held_39 ?_
        refine xr_istore a_Mod_held_40 (by decide) rfl ?_
        refine xr_aload_n a_Mod_held_42 rfl ?_
        apply xr_getf a_Mod_held_43
        · (repeat' (first | assumption | exact va_up_self _ _ _ | refine x_lk (by omega) ?_))
        · rfl
        refine xr_bipush a_Mod_held_46 (v := nI 6) (by decide +kernel) ?_
        refine xr_iload_n a_Mod_held_48 rfl ?_
        first | refine xn_imul a_Mod_held_49 ?_ | refine xr_imul a_Mod_held_49 ?_
        refine xr_iload a_Mod_held_50 rfl ?_
        first | refine xn_iadd a_Mod_held_52 ?_ | refine xr_iadd a_Mod_held_52 ?_
        apply xn_iaload a_Mod_held_53
        · (repeat' (first | assumption | exact va_up_self _ _ _ | refine x_lk (by omega) ?_))
        · omega
        · omega
        refine xr_iload_n a_Mod_held_54 rfl ?_
        refine xn_icmp_ne a_Mod_held_55 (by omega) (by omega) (fun b55 => ?_) (fun b55 => ?_)
        · refine xr_aload_n a_Mod_held_66 rfl ?_
          apply xr_getf a_Mod_held_67
          · (repeat' (first | assumption | exact va_up_self _ _ _ | refine x_lk (by omega) ?_))
          · rfl
          refine xr_bipush a_Mod_held_70 (v := nI 6) (by decide +kernel) ?_
          refine xr_iload_n a_Mod_held_72 rfl ?_
          first | refine xn_imul a_Mod_held_73 ?_ | refine xr_imul a_Mod_held_73 ?_
          refine xr_iload a_Mod_held_74 rfl ?_
          first | refine xn_iadd a_Mod_held_76 ?_ | refine xr_iadd a_Mod_held_76 ?_
          apply xn_iaload a_Mod_held_77
          · (repeat' (first | assumption | exact va_up_self _ _ _ | refine x_lk (by omega) ?_))
          · omega
          · omega
          refine xr_iload_n a_Mod_held_78 rfl ?_
          refine xn_icmp_ne a_Mod_held_79 (by omega) (by omega) (fun b79 => ?_) (fun b79 => ?_)
          · first | refine xn_iinc a_Mod_held_90 rfl (by decide) rfl ?_ | refine xr_iinc a_Mod_held_90 rfl rfl (by decide) rfl ?_
            refine xr_goto a_Mod_held_93 ?_
            refine xr_ls [(0, .ref m), (1, .int (nI dd)), (2, .int (nI u)), (3, .int (nI t)), (4, .int (nI (j + 1)))] ⟨rfl, rfl, rfl, rfl, rfl, trivial⟩ ?_
            refine ih (j + 1) (by omega) ?_
            rw [← he]
            show _ = if lA (6 * dd + j) = t then _ else if lB (6 * dd + j) = t then _ else _
            rw [if_neg b55, if_neg b79]
          · refine xr_aload_n a_Mod_held_82 rfl ?_
            apply xr_getf a_Mod_held_83
            · (repeat' (first | assumption | exact va_up_self _ _ _ | refine x_lk (by omega) ?_))
            · rfl
            refine xr_iload a_Mod_held_86 rfl ?_
            apply xn_iaload a_Mod_held_88
            · (repeat' (first | assumption | exact va_up_self _ _ _ | refine x_lk (by omega) ?_))
            · omega
            · omega
            refine xr_ireturn a_Mod_held_89 rfl rfl (by omega) (by omega) ?_
            refine ⟨?_, rfl, rfl⟩
            unfold vHeld
            rw [if_neg ht16, ← he]
            show _ = some (Value.int (oI (if lA (6 * dd + j) = t then _ else if lB (6 * dd + j) = t then _ else _)))
            rw [if_neg b55, if_pos b79]
            rfl
        · refine xr_aload_n a_Mod_held_58 rfl ?_
          apply xr_getf a_Mod_held_59
          · (repeat' (first | assumption | exact va_up_self _ _ _ | refine x_lk (by omega) ?_))
          · rfl
          refine xr_iload a_Mod_held_62 rfl ?_
          apply xn_iaload a_Mod_held_64
          · (repeat' (first | assumption | exact va_up_self _ _ _ | refine x_lk (by omega) ?_))
          · omega
          · omega
          refine xr_ireturn a_Mod_held_65 rfl rfl (by omega) (by omega) ?_
          refine ⟨?_, rfl, rfl⟩
          unfold vHeld
          rw [if_neg ht16, ← he]
          show _ = some (Value.int (oI (if lA (6 * dd + j) = t then _ else _)))
          rw [if_pos b55]
          rfl
  refine xr_iload_n a_Mod_held_0 rfl ?_
  refine xr_bipush a_Mod_held_1 (v := nI 16) (by decide +kernel) ?_
  refine xn_icmp_ge a_Mod_held_3 (by omega) (by omega) (fun b3 => ?_) (fun b3 => ?_)
  · refine xr_iconst a_Mod_held_8 (v := nI 0) (by decide +kernel) ?_
    refine xr_istore a_Mod_held_9 (by decide) rfl ?_
    refine xr_ls [(0, .ref m), (1, .int (nI dd)), (2, .int (nI u)), (3, .int (nI t)), (4, .int (nI 0))] ⟨rfl, rfl, rfl, rfl, rfl, trivial⟩ ?_
    exact loop (by omega) u 0 (by omega) rfl
  · refine xr_iload_n a_Mod_held_6 rfl ?_
    refine xr_ireturn a_Mod_held_7 rfl rfl (by omega) (by omega) ?_
    refine ⟨?_, rfl, rfl⟩
    unfold vHeld
    rw [if_pos b3]
    rfl
end T62

