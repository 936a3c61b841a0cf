/-! the reference: good queries -/
def vE (k : Nat) (F S : Nat → Nat) (t : Nat) : Prop := ∃ j, j < k ∧ (F j = t ∨ S j = t)
theorem vE_s {k : Nat} {F S : Nat → Nat} {t : Nat} : vE (k + 1) F S t ↔ vE k F S t ∨ F k = t ∨ S k = t := by
  constructor
  · rintro ⟨j, h1, h2⟩
    by_cases e : j = k
    · rw [e] at h2; exact Or.inr h2
    · exact Or.inl ⟨j, by omega, h2⟩
  · rintro (⟨j, h1, h2⟩ | h2)
    · exact ⟨j, by omega, h2⟩
    · exact ⟨k, by omega, h2⟩
section T56
variable {d L : Nat} {xs : Nat → Int32} {n : Nat} {h : xH} {m : Nat} {ρ : Nat → vRel} {ν : Nat → vVw} {κ : vAL} {cnt : Nat} {D : Nat → vPd} {fo : Nat → Bool} {rq tr : Nat}
theorem t_Mod_safeRule {v i : Nat} (p : isMo h m ρ ν κ cnt D fo rq tr) (hv : v < 3) (hi : i < 2) (hn : ((ν v).2 i).1 ≤ 2) (hB : ∀ j, j < ((ν v).2 i).1 → ((ν v).2 i).2.2.1 j < 100 ∧ ((ν v).2 i).2.2.2 j < 100) : XM d 0 0 k_Mod_safeRule L xs [.ref m, .int (nI (2 * v + i))] n h (qR n h (nI (vB (vSf ((ν v).2 i).1 ((ν v).2 i).2.2.1 ((ν v).2 i).2.2.2)))) := by
  obtain ⟨⟨st, ne, p0⟩, -, ⟨ru, na, aR, aA, aB, c1, c2, c3, c4, c5, c6⟩, -, -, -, -⟩ := p
  obtain ⟨u1, u2⟩ := (c6 v hv).2 i hi
  generalize ((ν v).2 i).1 = N at hn hB u1 ⊢
  generalize ((ν v).2 i).2.2.1 = F at hB u2 ⊢
  generalize ((ν v).2 i).2.2.2 = S at hB u2 ⊢
  refine XM.of rfl (Nat.le_of_ble_eq_true rfl) ?_
  have loop : ∀ q t, t + q = N → XW (x_rm d 0 0) k_Mod_safeRule L xs (x_mq 0 0 (qR n h (nI (vB (vSf N F S))))) 0 0 9 [(0, .ref m), (1, .int (nI (2 * v + i))), (2, .int (nI (vB (vE t F S 16)))), (3, .int (nI (vB (vE t F S 17)))), (4, .int (nI (2 * (2 * v + i) + t)))] [] n h := by
    intro q
    induction q with
    | zero =>
      intro t ht
      have e : t = N := by omega
      subst e
      refine xr_iload a_Mod_safeRule_9 rfl ?_
      refine xr_iconst a_Mod_safeRule_11 (v := nI 2) (by decide +kernel) ?_
      refine xr_iload_n a_Mod_safeRule_12 rfl ?_
      first | refine xn_imul a_Mod_safeRule_13 ?_ | refine xr_imul a_Mod_safeRule_13 ?_
      refine xr_aload_n a_Mod_safeRule_14 rfl ?_
      apply xr_getf a_Mod_safeRule_15
      · (repeat' (first | assumption | exact va_up_self _ _ _ | refine x_lk (by omega) ?_))
      · rfl
      refine xr_iload_n a_Mod_safeRule_18 rfl ?_
      apply xn_iaload a_Mod_safeRule_19
      · (repeat' (first | assumption | exact va_up_self _ _ _ | refine x_lk (by omega) ?_))
      · omega
      · omega
      first | refine xn_iadd a_Mod_safeRule_20 ?_ | refine xr_iadd a_Mod_safeRule_20 ?_
      refine xn_icmp_ge a_Mod_safeRule_21 (by omega) (by omega) (fun b21 => ?_) (fun b21 => ?_)
      · refine xr_iload_n a_Mod_safeRule_98 rfl ?_
        refine xn_if_eq a_Mod_safeRule_99 (vB_lt31 _) (fun b99 => ?_) (fun b99 => ?_)
        · refine xr_iconst a_Mod_safeRule_110 (v := nI 0) (by decide +kernel) ?_
          refine xr_ireturn a_Mod_safeRule_111 rfl rfl (by omega) (by omega) ?_
          exact ⟨by rw [vB_f (fun z => vB_0 b99 z.1)], rfl, rfl⟩
        · refine xr_iload_n a_Mod_safeRule_102 rfl ?_
          refine xn_if_eq a_Mod_safeRule_103 (vB_lt31 _) (fun b103 => ?_) (fun b103 => ?_)
          · refine xr_iconst a_Mod_safeRule_110 (v := nI 0) (by decide +kernel) ?_
            refine xr_ireturn a_Mod_safeRule_111 rfl rfl (by omega) (by omega) ?_
            exact ⟨by rw [vB_f (fun z => vB_0 b103 z.2)], rfl, rfl⟩
          · refine xr_iconst a_Mod_safeRule_106 (v := nI 1) (by decide +kernel) ?_
            refine xr_goto a_Mod_safeRule_107 ?_
            refine xr_ireturn a_Mod_safeRule_111 rfl rfl (by omega) (by omega) ?_
            exact ⟨by rw [vB_t ⟨vB_1 b99, vB_1 b103⟩], rfl, rfl⟩
      · omega
    | succ q ih =>
      intro t ht
      have bt := hB t (by omega)
      obtain ⟨y1, y2, y3⟩ := u2 t (by omega)
      have m91 : ∀ x, x = vB (vE (t + 1) F S 17) → XW (x_rm d 0 0) k_Mod_safeRule L xs (x_mq 0 0 (qR n h (nI (vB (vSf N F S))))) 0 0 91 [(0, .ref m), (1, .int (nI (2 * v + i))), (2, .int (nI (vB (vE (t + 1) F S 16)))), (4, .int (nI (2 * (2 * v + i) + t)))] [.int (nI x)] n h := by
        intro x hx
        subst hx
        refine xr_istore_n a_Mod_safeRule_91 (by decide) rfl ?_
        first | refine xn_iinc a_Mod_safeRule_92 rfl (by decide) rfl ?_ | refine xr_iinc a_Mod_safeRule_92 rfl rfl (by decide) rfl ?_
        refine xr_goto a_Mod_safeRule_95 ?_
        refine xr_ls [(0, .ref m), (1, .int (nI (2 * v + i))), (2, .int (nI (vB (vE (t + 1) F S 16)))), (3, .int (nI (vB (vE (t + 1) F S 17)))), (4, .int (nI (2 * (2 * v + i) + (t + 1))))] ⟨rfl, rfl, rfl, rfl, rfl, trivial⟩ ?_
        exact ih (t + 1) (by omega)
      have yes2 : vE (t + 1) F S 17 → XW (x_rm d 0 0) k_Mod_safeRule L xs (x_mq 0 0 (qR n h (nI (vB (vSf N F S))))) 0 0 86 [(0, .ref m), (1, .int (nI (2 * v + i))), (2, .int (nI (vB (vE (t + 1) F S 16)))), (4, .int (nI (2 * (2 * v + i) + t)))] [] n h := by
        intro z
        refine xr_iconst a_Mod_safeRule_86 (v := nI 1) (by decide +kernel) ?_
        refine xr_goto a_Mod_safeRule_87 ?_
        exact m91 1 (by rw [vB_t z])
      have m57 : ∀ x, x = vB (vE (t + 1) F S 16) → XW (x_rm d 0 0) k_Mod_safeRule L xs (x_mq 0 0 (qR n h (nI (vB (vSf N F S))))) 0 0 57 [(0, .ref m), (1, .int (nI (2 * v + i))), (3, .int (nI (vB (vE t F S 17)))), (4, .int (nI (2 * (2 * v + i) + t)))] [.int (nI x)] n h := by
        intro x hx
        subst hx
        refine xr_istore_n a_Mod_safeRule_57 (by decide) rfl ?_
        refine xr_iload_n a_Mod_safeRule_58 rfl ?_
        refine xn_if_ne a_Mod_safeRule_59 (vB_lt31 _) (fun b59 => ?_) (fun b59 => ?_)
        · refine xr_ls [(0, .ref m), (1, .int (nI (2 * v + i))), (2, .int (nI (vB (vE (t + 1) F S 16)))), (4, .int (nI (2 * (2 * v + i) + t)))] ⟨rfl, rfl, rfl, rfl, trivial⟩ ?_
          exact yes2 (vE_s.mpr (Or.inl (vB_1 b59)))
        · refine xr_aload_n a_Mod_safeRule_62 rfl ?_
          apply xr_getf a_Mod_safeRule_63
          · (repeat' (first | assumption | exact va_up_self _ _ _ | refine x_lk (by omega) ?_))
          · rfl
          refine xr_iload a_Mod_safeRule_66 rfl ?_
          apply xn_iaload a_Mod_safeRule_68
          · (repeat' (first | assumption | exact va_up_self _ _ _ | refine x_lk (by omega) ?_))
          · omega
          · omega
          refine xr_bipush a_Mod_safeRule_69 (v := nI 17) (by decide +kernel) ?_
          refine xn_icmp_eq a_Mod_safeRule_71 (by omega) (by omega) (fun b71 => ?_) (fun b71 => ?_)
          · refine xr_ls [(0, .ref m), (1, .int (nI (2 * v + i))), (2, .int (nI (vB (vE (t + 1) F S 16)))), (4, .int (nI (2 * (2 * v + i) + t)))] ⟨rfl, rfl, rfl, rfl, trivial⟩ ?_
            exact yes2 (vE_s.mpr (Or.inr (Or.inl (by omega))))
          · refine xr_aload_n a_Mod_safeRule_74 rfl ?_
            apply xr_getf a_Mod_safeRule_75
            · (repeat' (first | assumption | exact va_up_self _ _ _ | refine x_lk (by omega) ?_))
            · rfl
            refine xr_iload a_Mod_safeRule_78 rfl ?_
            apply xn_iaload a_Mod_safeRule_80
            · (repeat' (first | assumption | exact va_up_self _ _ _ | refine x_lk (by omega) ?_))
            · omega
            · omega
            refine xr_bipush a_Mod_safeRule_81 (v := nI 17) (by decide +kernel) ?_
            refine xn_icmp_ne a_Mod_safeRule_83 (by omega) (by omega) (fun b83 => ?_) (fun b83 => ?_)
            · refine xr_iconst a_Mod_safeRule_90 (v := nI 0) (by decide +kernel) ?_
              refine xr_ls [(0, .ref m), (1, .int (nI (2 * v + i))), (2, .int (nI (vB (vE (t + 1) F S 16)))), (4, .int (nI (2 * (2 * v + i) + t)))] ⟨rfl, rfl, rfl, rfl, trivial⟩ ?_
              refine m91 0 ?_
              rw [vB_f (fun z => ?_)]
              rcases vE_s.mp z with z | z | z
              · exact vB_0 b59 z
              · omega
              · omega
            · refine xr_ls [(0, .ref m), (1, .int (nI (2 * v + i))), (2, .int (nI (vB (vE (t + 1) F S 16)))), (4, .int (nI (2 * (2 * v + i) + t)))] ⟨rfl, rfl, rfl, rfl, trivial⟩ ?_
              exact yes2 (vE_s.mpr (Or.inr (Or.inr (by omega))))
      have yes1 : vE (t + 1) F S 16 → XW (x_rm d 0 0) k_Mod_safeRule L xs (x_mq 0 0 (qR n h (nI (vB (vSf N F S))))) 0 0 52 [(0, .ref m), (1, .int (nI (2 * v + i))), (3, .int (nI (vB (vE t F S 17)))), (4, .int (nI (2 * (2 * v + i) + t)))] [] n h := by
        intro z
        refine xr_iconst a_Mod_safeRule_52 (v := nI 1) (by decide +kernel) ?_
        refine xr_goto a_Mod_safeRule_53 ?_
        exact m57 1 (by rw [vB_t z])
      refine xr_iload a_Mod_safeRule_9 rfl ?_
      refine xr_iconst a_Mod_safeRule_11 (v := nI 2) (by decide +kernel) ?_
      refine xr_iload_n a_Mod_safeRule_12 rfl ?_
      first | refine xn_imul a_Mod_safeRule_13 ?_ | refine xr_imul a_Mod_safeRule_13 ?_
      refine xr_aload_n a_Mod_safeRule_14 rfl ?_
      apply xr_getf a_Mod_safeRule_15
      · (repeat' (first | assumption | exact va_up_self _ _ _ | refine x_lk (by omega) ?_))
      · rfl
      refine xr_iload_n a_Mod_safeRule_18 rfl ?_
      apply xn_iaload a_Mod_safeRule_19
      · (repeat' (first | assumption | exact va_up_self _ _ _ | refine x_lk (by omega) ?_))
      · omega
      · omega
      first | refine xn_iadd a_Mod_safeRule_20 ?_ | refine xr_iadd a_Mod_safeRule_20 ?_
      refine xn_icmp_ge a_Mod_safeRule_21 (by omega) (by omega) (fun b21 => ?_) (fun b21 => ?_)
      · omega
      · refine xr_iload_n a_Mod_safeRule_24 rfl ?_
        refine xn_if_ne a_Mod_safeRule_25 (vB_lt31 _) (fun b25 => ?_) (fun b25 => ?_)
        · refine xr_ls [(0, .ref m), (1, .int (nI (2 * v + i))), (3, .int (nI (vB (vE t F S 17)))), (4, .int (nI (2 * (2 * v + i) + t)))] ⟨rfl, rfl, rfl, rfl, trivial⟩ ?_
          exact yes1 (vE_s.mpr (Or.inl (vB_1 b25)))
        · refine xr_aload_n a_Mod_safeRule_28 rfl ?_
          apply xr_getf a_Mod_safeRule_29
          · (repeat' (first | assumption | exact va_up_self _ _ _ | refine x_lk (by omega) ?_))
          · rfl
          refine xr_iload a_Mod_safeRule_32 rfl ?_
          apply xn_iaload a_Mod_safeRule_34
          · (repeat' (first | assumption | exact va_up_self _ _ _ | refine x_lk (by omega) ?_))
          · omega
          · omega
          refine xr_bipush a_Mod_safeRule_35 (v := nI 16) (by decide +kernel) ?_
          refine xn_icmp_eq a_Mod_safeRule_37 (by omega) (by omega) (fun b37 => ?_) (fun b37 => ?_)
          · refine xr_ls [(0, .ref m), (1, .int (nI (2 * v + i))), (3, .int (nI (vB (vE t F S 17)))), (4, .int (nI (2 * (2 * v + i) + t)))] ⟨rfl, rfl, rfl, rfl, trivial⟩ ?_
            exact yes1 (vE_s.mpr (Or.inr (Or.inl (by omega))))
          · refine xr_aload_n a_Mod_safeRule_40 rfl ?_
            apply xr_getf a_Mod_safeRule_41
            · (repeat' (first | assumption | exact va_up_self _ _ _ | refine x_lk (by omega) ?_))
            · rfl
            refine xr_iload a_Mod_safeRule_44 rfl ?_
            apply xn_iaload a_Mod_safeRule_46
            · (repeat' (first | assumption | exact va_up_self _ _ _ | refine x_lk (by omega) ?_))
            · omega
            · omega
            refine xr_bipush a_Mod_safeRule_47 (v := nI 16) (by decide +kernel) ?_
            refine xn_icmp_ne a_Mod_safeRule_49 (by omega) (by omega) (fun b49 => ?_) (fun b49 => ?_)
            · refine xr_iconst a_Mod_safeRule_56 (v := nI 0) (by decide +kernel) ?_
              refine xr_ls [(0, .ref m), (1, .int (nI (2 * v + i))), (3, .int (nI (vB (vE t F S 17)))), (4, .int (nI (2 * (2 * v + i) + t)))] ⟨rfl, rfl, rfl, rfl, trivial⟩ ?_
              refine m57 0 ?_
              rw [vB_f (fun z => ?_)]
              rcases vE_s.mp z with z | z | z
              · exact vB_0 b25 z
              · omega
              · omega
            · refine xr_ls [(0, .ref m), (1, .int (nI (2 * v + i))), (3, .int (nI (vB (vE t F S 17)))), (4, .int (nI (2 * (2 * v + i) + t)))] ⟨rfl, rfl, rfl, rfl, trivial⟩ ?_
              exact yes1 (vE_s.mpr (Or.inr (Or.inr (by omega))))
  refine xr_iconst a_Mod_safeRule_0 (v := nI 0) (by decide +kernel) ?_
  refine xr_istore_n a_Mod_safeRule_1 (by decide) rfl ?_
  refine xr_iconst a_Mod_safeRule_2 (v := nI 0) (by decide +kernel) ?_
  refine xr_istore_n a_Mod_safeRule_3 (by decide) rfl ?_
  refine xr_iconst a_Mod_safeRule_4 (v := nI 2) (by decide +kernel) ?_
  refine xr_iload_n a_Mod_safeRule_5 rfl ?_
  first | refine xn_imul a_Mod_safeRule_6 ?_ | refine xr_imul a_Mod_safeRule_6 ?_
  refine xr_istore a_Mod_safeRule_7 (by decide) rfl ?_
  refine xr_ls [(0, .ref m), (1, .int (nI (2 * v + i))), (2, .int (nI 0)), (3, .int (nI 0)), (4, .int (nI (2 * (2 * v + i) + 0)))] ⟨rfl, rfl, rfl, rfl, rfl, trivial⟩ ?_
  have := loop N 0 (by omega)
  have e0 : ∀ t, vB (vE 0 F S t) = 0 := fun t => vB_f (fun ⟨j, hj, _⟩ => absurd hj (Nat.not_lt_zero j))
  rw [e0, e0] at this
  exact this
theorem t_Mod_changed {t i a b : Nat} (ht : t < 100) (hi : i < 100) : XM d 0 0 k_Mod_changed L xs [.int (nI t), .int (nI i), .int (nI a), .int (nI b)] n h (qR n h (nI (vUnf i a b t))) := by
  refine XM.of rfl (Nat.le_of_ble_eq_true rfl) ?_
  unfold vUnf
  refine xr_iload_n a_Mod_changed_0 rfl ?_
  refine xr_bipush a_Mod_changed_1 (v := nI 16) (by decide +kernel) ?_
  refine xn_icmp_ge a_Mod_changed_3 (by omega) (by omega) (fun b3 => ?_) (fun b3 => ?_)
  · rw [if_neg (by omega)]
    refine xr_iload_n a_Mod_changed_10 rfl ?_
    refine xr_bipush a_Mod_changed_11 (v := nI 16) (by decide +kernel) ?_
    refine xn_icmp_ne a_Mod_changed_13 (by omega) (by omega) (fun b13 => ?_) (fun b13 => ?_)
    · rw [if_neg b13]
      refine xr_iload_n a_Mod_changed_20 rfl ?_
      refine xr_bipush a_Mod_changed_21 (v := nI 17) (by decide +kernel) ?_
      refine xn_icmp_ne a_Mod_changed_23 (by omega) (by omega) (fun b23 => ?_) (fun b23 => ?_)
      · rw [if_neg b23]
        refine xr_iconst a_Mod_changed_30 (v := nI 4) (by decide +kernel) ?_
        refine xr_iconst a_Mod_changed_31 (v := nI 4) (by decide +kernel) ?_
        refine xr_iload_n a_Mod_changed_32 rfl ?_
        first | refine xn_imul a_Mod_changed_33 ?_ | refine xr_imul a_Mod_changed_33 ?_
        first | refine xn_iadd a_Mod_changed_34 ?_ | refine xr_iadd a_Mod_changed_34 ?_
        refine xr_iload_n a_Mod_changed_35 rfl ?_
        first | refine xn_iadd a_Mod_changed_36 ?_ | refine xr_iadd a_Mod_changed_36 ?_
        refine xr_ireturn a_Mod_changed_37 rfl rfl (by omega) (by omega) ?_
        exact ⟨rfl, rfl, rfl⟩
      · rw [if_pos b23]
        refine xr_iload_n a_Mod_changed_26 rfl ?_
        refine xr_goto a_Mod_changed_27 ?_
        refine xr_ireturn a_Mod_changed_37 rfl rfl (by omega) (by omega) ?_
        exact ⟨rfl, rfl, rfl⟩
    · rw [if_pos b13]
      refine xr_iload_n a_Mod_changed_16 rfl ?_
      refine xr_goto a_Mod_changed_17 ?_
      refine xr_ireturn a_Mod_changed_37 rfl rfl (by omega) (by omega) ?_
      exact ⟨rfl, rfl, rfl⟩
  · rw [if_pos b3]
    refine xr_iload_n a_Mod_changed_6 rfl ?_
    refine xr_goto a_Mod_changed_7 ?_
    refine xr_ireturn a_Mod_changed_37 rfl rfl (by omega) (by omega) ?_
    exact ⟨rfl, rfl, rfl⟩
end T56

