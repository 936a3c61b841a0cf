/-! the reference: bound, joined -/
section T64
variable {d L : Nat} {xs : Nat → Int32} {n : Nat} {h : xH} {m : Nat} {as ma stk ne rq tr : Nat} {qA qB : Nat → Nat} {pk : Nat → Option Nat} {P : Nat → Nat}
theorem t_Mod_bound {u t : Nat} (p0 : h m = cM m as ma stk ne rq tr) (c1 : h (m + 12) = cI 3 qA) (c2 : h (m + 13) = cI 3 qB) (c4 : h (m + 20) = cO 6 pk) (hu : u ≤ 3) (ht : t < 100) (hB : ∀ j, j < u → qA j < 100 ∧ qB j < 100 ∧ pk j = some (P j) ∧ P j < 256) : XM d 0 0 k_Mod_bound L xs [.ref m, .int (nI u), .int (nI t)] n h (qR n h (oI (vHeld 16 qA qB (fun j => P j / 16) (fun j => P j % 16) u t))) := by
  refine XM.of rfl (Nat.le_of_ble_eq_true rfl) ?_
  have fin : ∀ x j, x < 1000 → j < 100 → vHeld 16 qA qB (fun j => P j / 16) (fun j => P j % 16) u t = some x → XW (x_rm d 0 0) k_Mod_bound L xs (x_mq 0 0 (qR n h (oI (vHeld 16 qA qB (fun j => P j / 16) (fun j => P j % 16) u t)))) 0 0 15 [(0, .ref m), (1, .int (nI u)), (2, .int (nI t)), (3, .int (nI x)), (4, .int (nI j))] [] n h := by
    intro x j hx hj he
    refine xr_iload a_Mod_bound_15 rfl ?_
    refine xr_iload_n a_Mod_bound_17 rfl ?_
    refine xn_icmp_ge a_Mod_bound_18 (by omega) (by omega) (fun b18 => ?_) (fun b18 => ?_)
    · refine xr_iload_n a_Mod_bound_81 rfl ?_
      refine xr_ireturn a_Mod_bound_82 rfl rfl (by omega) (by omega) ?_
      exact ⟨by rw [he]; rfl, rfl, rfl⟩
    · refine xr_iload_n a_Mod_bound_21 rfl ?_
      refine xn_if_ge a_Mod_bound_22 (by omega) ?_
      refine xr_iload_n a_Mod_bound_81 rfl ?_
      refine xr_ireturn a_Mod_bound_82 rfl rfl (by omega) (by omega) ?_
      exact ⟨by rw [he]; rfl, rfl, rfl⟩
  have loop : ¬ t < 16 → ∀ q j, j + q = u → vHl qA qB (fun j => P j / 16) (fun j => P j % 16) t j q = vHl qA qB (fun j => P j / 16) (fun j => P j % 16) t 0 u → XW (x_rm d 0 0) k_Mod_bound L xs (x_mq 0 0 (qR n h (oI (vHeld 16 qA qB (fun j => P j / 16) (fun j => P j % 16) u t)))) 0 0 15 [(0, .ref m), (1, .int (nI u)), (2, .int (nI t)), (3, .int (-1)), (4, .int (nI j))] [] n h := by
    intro ht16 q
    have eH : vHeld 16 qA qB (fun j => P j / 16) (fun j => P j % 16) u t = vHl qA qB (fun j => P j / 16) (fun j => P j % 16) t 0 u := if_neg ht16
    induction q with
    | zero =>
      intro j hj he
      refine xr_iload a_Mod_bound_15 rfl ?_
      refine xr_iload_n a_Mod_bound_17 rfl ?_
      refine xn_icmp_ge a_Mod_bound_18 (by omega) (by omega) (fun b18 => ?_) (fun b18 => ?_)
      · refine xr_iload_n a_Mod_bound_81 rfl ?_
        refine xr_ireturn a_Mod_bound_82 rfl rfl (by omega) (by omega) ?_
        refine ⟨?_, rfl, rfl⟩
        rw [eH, ← he]
        rfl
      · omega
    | succ q ih =>
      intro j hj he
      obtain ⟨b1, b2, b3, b4⟩ := hB j (by omega)
      have eo : oI (pk j) = nI (P j) := by rw [b3]; rfl
      refine xr_iload a_Mod_bound_15 rfl ?_
      refine xr_iload_n a_Mod_bound_17 rfl ?_
      refine xn_icmp_ge a_Mod_bound_18 (by omega) (by omega) (fun b18 => ?_) (fun b18 => ?_)
      · omega
      · refine xr_iload_n a_Mod_bound_21 rfl ?_
        refine xr_if_ge a_Mod_bound_22 (fun b22 => ?_) (fun b22 => ?_)
        · exact absurd b22 (by decide)
        · refine xr_aload_n a_Mod_bound_25 rfl ?_
          apply xr_getf a_Mod_bound_26
          · (repeat' (first | assumption | exact va_up_self _ _ _ | refine x_lk (by omega) ?_))
          · rfl
          refine xr_iload a_Mod_bound_29 rfl ?_
          apply xn_iaload a_Mod_bound_31
          · (repeat' (first | assumption | exact va_up_self _ _ _ | refine x_lk (by omega) ?_))
          · omega
          · omega
          refine xr_iload_n a_Mod_bound_32 rfl ?_
          refine xn_icmp_ne a_Mod_bound_33 (by omega) (by omega) (fun b33 => ?_) (fun b33 => ?_)
          · refine xr_aload_n a_Mod_bound_49 rfl ?_
            apply xr_getf a_Mod_bound_50
            · (repeat' (first | assumption | exact va_up_self _ _ _ | refine x_lk (by omega) ?_))
            · rfl
            refine xr_iload a_Mod_bound_53 rfl ?_
            apply xn_iaload a_Mod_bound_55
            · (repeat' (first | assumption | exact va_up_self _ _ _ | refine x_lk (by omega) ?_))
            · omega
            · omega
            refine xr_iload_n a_Mod_bound_56 rfl ?_
            refine xn_icmp_ne a_Mod_bound_57 (by omega) (by omega) (fun b57 => ?_) (fun b57 => ?_)
            · refine xr_iconst a_Mod_bound_73 (v := -1) (by decide +kernel) ?_
              refine xr_istore_n a_Mod_bound_74 (by decide) rfl ?_
              first | refine xn_iinc a_Mod_bound_75 rfl (by decide) rfl ?_ | refine xr_iinc a_Mod_bound_75 rfl rfl (by decide) rfl ?_
              refine xr_goto a_Mod_bound_78 ?_
              refine xr_ls [(0, .ref m), (1, .int (nI u)), (2, .int (nI t)), (3, .int (-1)), (4, .int (nI (j + 1)))] ⟨rfl, rfl, rfl, rfl, rfl, trivial⟩ ?_
              refine ih (j + 1) (by omega) ?_
              rw [← he]
              show _ = if qA j = t then _ else if qB j = t then _ else _
              rw [if_neg b33, if_neg b57]
            · refine xr_aload_n a_Mod_bound_60 rfl ?_
              apply xr_getf a_Mod_bound_61
              · (repeat' (first | assumption | exact va_up_self _ _ _ | refine x_lk (by omega) ?_))
              · rfl
              refine xr_iload a_Mod_bound_64 rfl ?_
              apply xo_iaload a_Mod_bound_66
              · (repeat' (first | assumption | exact va_up_self _ _ _ | refine x_lk (by omega) ?_))
              · omega
              · omega
              rw [eo]
              refine xr_bipush a_Mod_bound_67 (v := nI 16) (by decide +kernel) ?_
              refine xn_irem a_Mod_bound_69 (by omega) (by omega) (by omega) ?_
              refine xr_goto a_Mod_bound_70 ?_
              refine xr_istore_n a_Mod_bound_74 (by decide) rfl ?_
              first | refine xn_iinc a_Mod_bound_75 rfl (by decide) rfl ?_ | refine xr_iinc a_Mod_bound_75 rfl rfl (by decide) rfl ?_
              refine xr_goto a_Mod_bound_78 ?_
              refine xr_ls [(0, .ref m), (1, .int (nI u)), (2, .int (nI t)), (3, .int (nI (P j % 16))), (4, .int (nI (j + 1)))] ⟨rfl, rfl, rfl, rfl, rfl, trivial⟩ ?_
              refine fin _ (j + 1) (by omega) (by omega) ?_
              rw [eH, ← he]
              show (if qA j = t then _ else if qB j = t then _ else _) = _
              rw [if_neg b33, if_pos b57]
          · refine xr_aload_n a_Mod_bound_36 rfl ?_
            apply xr_getf a_Mod_bound_37
            · (repeat' (first | assumption | exact va_up_self _ _ _ | refine x_lk (by omega) ?_))
            · rfl
            refine xr_iload a_Mod_bound_40 rfl ?_
            apply xo_iaload a_Mod_bound_42
            · (repeat' (first | assumption | exact va_up_self _ _ _ | refine x_lk (by omega) ?_))
            · omega
            · omega
            rw [eo]
            refine xr_bipush a_Mod_bound_43 (v := nI 16) (by decide +kernel) ?_
            refine xn_idiv a_Mod_bound_45 (by omega) (by omega) (by omega) ?_
            refine xr_goto a_Mod_bound_46 ?_
            refine xr_istore_n a_Mod_bound_74 (by decide) rfl ?_
            first | refine xn_iinc a_Mod_bound_75 rfl (by decide) rfl ?_ | refine xr_iinc a_Mod_bound_75 rfl rfl (by decide) rfl ?_
            refine xr_goto a_Mod_bound_78 ?_
            refine xr_ls [(0, .ref m), (1, .int (nI u)), (2, .int (nI t)), (3, .int (nI (P j / 16))), (4, .int (nI (j + 1)))] ⟨rfl, rfl, rfl, rfl, rfl, trivial⟩ ?_
            refine fin _ (j + 1) (by omega) (by omega) ?_
            rw [eH, ← he]
            show (if qA j = t then _ else _) = _
            rw [if_pos b33]
  refine xr_iload_n a_Mod_bound_0 rfl ?_
  refine xr_bipush a_Mod_bound_1 (v := nI 16) (by decide +kernel) ?_
  refine xn_icmp_ge a_Mod_bound_3 (by omega) (by omega) (fun b3 => ?_) (fun b3 => ?_)
  · refine xr_iconst a_Mod_bound_10 (v := -1) (by decide +kernel) ?_
    refine xr_istore_n a_Mod_bound_11 (by decide) rfl ?_
    refine xr_iconst a_Mod_bound_12 (v := nI 0) (by decide +kernel) ?_
    refine xr_istore a_Mod_bound_13 (by decide) rfl ?_
    refine xr_ls [(0, .ref m), (1, .int (nI u)), (2, .int (nI t)), (3, .int (-1)), (4, .int (nI 0))] ⟨rfl, rfl, rfl, rfl, rfl, trivial⟩ ?_
    exact loop (by omega) u 0 (by omega) rfl
  · refine xr_iload_n a_Mod_bound_6 rfl ?_
    refine xr_goto a_Mod_bound_7 ?_
    refine xr_istore_n a_Mod_bound_11 (by decide) rfl ?_
    refine xr_iconst a_Mod_bound_12 (v := nI 0) (by decide +kernel) ?_
    refine xr_istore a_Mod_bound_13 (by decide) rfl ?_
    refine xr_ls [(0, .ref m), (1, .int (nI u)), (2, .int (nI t)), (3, .int (nI t)), (4, .int (nI 0))] ⟨rfl, rfl, rfl, rfl, rfl, trivial⟩ ?_
    exact fin t 0 (by omega) (by omega) (if_pos b3)
/-- a value so far (none, one, or two that differ) joined with another -/
theorem t_Mod_joined0 {x y : Int32} : XM d 0 0 k_Mod_joined L xs [.int x, .int (nI 0), .int y] n h (qR n h x) := by
  refine XM.of rfl (Nat.le_of_ble_eq_true rfl) ?_
  refine xr_iload_n a_Mod_joined_0 rfl ?_
  refine xn_if_eq a_Mod_joined_1 (by omega) (fun _ => ?_) (fun z => absurd z (by decide))
  refine xr_iload_n a_Mod_joined_9 rfl ?_
  refine xr_goto a_Mod_joined_10 ?_
  refine xr_ireturn a_Mod_joined_24 rfl rfl (by omega) (by omega) ?_
  exact ⟨rfl, rfl, rfl⟩
theorem t_Mod_joined1 {x y : Int32} : XM d 0 0 k_Mod_joined L xs [.int x, .int (nI 1), .int y] n h (qR n h (if x = y then x else if x = -1 then y else -2)) := by
  refine XM.of rfl (Nat.le_of_ble_eq_true rfl) ?_
  refine xr_iload_n a_Mod_joined_0 rfl ?_
  refine xn_if_eq a_Mod_joined_1 (by omega) (fun z => absurd z (by decide)) (fun _ => ?_)
  refine xr_iload_n a_Mod_joined_4 rfl ?_
  refine xr_iload_n a_Mod_joined_5 rfl ?_
  refine xr_icmp_ne a_Mod_joined_6 (fun b6 => ?_) (fun b6 => ?_)
  · rw [if_neg b6]
    refine xr_iload_n a_Mod_joined_13 rfl ?_
    refine xr_iconst a_Mod_joined_14 (v := -1) (by decide +kernel) ?_
    refine xr_icmp_ne a_Mod_joined_15 (fun b15 => ?_) (fun b15 => ?_)
    · rw [if_neg b15]
      refine xr_bipush a_Mod_joined_22 (v := -2) (by decide +kernel) ?_
      refine xr_ireturn a_Mod_joined_24 rfl rfl (by omega) (by omega) ?_
      exact ⟨rfl, rfl, rfl⟩
    · rw [if_pos b15]
      refine xr_iload_n a_Mod_joined_18 rfl ?_
      refine xr_goto a_Mod_joined_19 ?_
      refine xr_ireturn a_Mod_joined_24 rfl rfl (by omega) (by omega) ?_
      exact ⟨rfl, rfl, rfl⟩
  · rw [if_pos b6]
    refine xr_iload_n a_Mod_joined_9 rfl ?_
    refine xr_goto a_Mod_joined_10 ?_
    refine xr_ireturn a_Mod_joined_24 rfl rfl (by omega) (by omega) ?_
    exact ⟨rfl, rfl, rfl⟩
end T64

