/-! the reference: holds, solve -/
section T69i
variable {d L : Nat} {xs : Nat → Int32} {n : Nat} {h : xH} {m : Nat} {as ma stk ne rq tr : Nat} {qQ qA qB f : Nat → Nat} {pk : Nat → Option Nat} {P : Nat → Nat} {PR : Nat → Prop}
theorem t_Mod_holds {k : Nat} (p0 : h m = cM m as ma stk ne rq tr) (s1 : h (m + 11) = cI 3 qQ) (s2 : h (m + 12) = cI 3 qA) (s3 : h (m + 13) = cI 3 qB) (c4 : h (m + 20) = cO 6 pk) (cp : h (m + 23) = cB 768 f) (hf : ∀ k, k < 768 → f k = vB (PR k)) (hk : k < 3) (hv : qQ k < 3) (hB : ∀ j, j < k + 1 → qA j < 100 ∧ qB j < 100 ∧ pk j = some (P j) ∧ P j < 256) (hd : 1 ≤ d) : XM d 0 0 k_Mod_holds L xs [.ref m, .int (nI k)] n h (qR n h (nI (vB (PR (256 * qQ k + P k) ∧ vAgr 16 qA qB (fun j => P j / 16) (fun j => P j % 16) k)))) := by
  obtain ⟨b1, b2, b3, b4⟩ := hB k (by omega)
  have eo : oI (pk k) = nI (P k) := by rw [b3]; rfl
  have k1 := t_Mod_bound (d := 0) (L := L) (xs := xs) (n := n) (u := k) (t := qA k) (P := P) p0 s2 s3 c4 (by omega) b1 (fun j hj => hB j (by omega))
  have k2 := t_Mod_bound (d := 0) (L := L) (xs := xs) (n := n) (u := k) (t := qB k) (P := P) p0 s2 s3 c4 (by omega) b2 (fun j hj => hB j (by omega))
  have d1 : ∀ v, vHeld 16 qA qB (fun j => P j / 16) (fun j => P j % 16) k (qA k) = some v → v < 2 ^ 31 := fun v hv => vHeld_bd b1 (fun j hj => by have := (hB j (by omega)).2.2.2; exact ⟨by omega, by omega⟩) hv
  have d2 : ∀ v, vHeld 16 qA qB (fun j => P j / 16) (fun j => P j % 16) k (qB k) = some v → v < 2 ^ 31 := fun v hv => vHeld_bd b2 (fun j hj => by have := (hB j (by omega)).2.2.2; exact ⟨by omega, by omega⟩) hv
  have ef := hf (256 * qQ k + P k) (by omega)
  refine XM.of rfl (Nat.le_of_ble_eq_true rfl) ?_
  have no : ¬ (PR (256 * qQ k + P k) ∧ vAgr 16 qA qB (fun j => P j / 16) (fun j => P j % 16) k) → XW (x_rm d 0 0) k_Mod_holds L xs (x_mq 0 0 (qR n h (nI (vB (PR (256 * qQ k + P k) ∧ vAgr 16 qA qB (fun j => P j / 16) (fun j => P j % 16) k))))) 0 0 135 [] [] n h := by
    intro z
    rw [vB_f z]
    refine xr_iconst a_Mod_holds_135 (v := nI 0) (by decide +kernel) ?_
    refine xr_ireturn a_Mod_holds_136 rfl rfl (by omega) (by omega) ?_
    exact ⟨rfl, rfl, rfl⟩
  have m65 : ∀ x, x = vB (qA k = qB k → P k / 16 = P k % 16) → XW (x_rm d 0 0) k_Mod_holds L xs (x_mq 0 0 (qR n h (nI (vB (PR (256 * qQ k + P k) ∧ vAgr 16 qA qB (fun j => P j / 16) (fun j => P j % 16) k))))) 0 0 65 [(0, .ref m), (1, .int (nI k)), (2, .int (oI (vHeld 16 qA qB (fun j => P j / 16) (fun j => P j % 16) k (qA k)))), (3, .int (oI (vHeld 16 qA qB (fun j => P j / 16) (fun j => P j % 16) k (qB k))))] [.int (nI x)] n h := by
    intro x hx
    subst hx
    have m126 : PR (256 * qQ k + P k) → (∀ v, vHeld 16 qA qB (fun j => P j / 16) (fun j => P j % 16) k (qA k) = some v → v = P k / 16) → (∀ v, vHeld 16 qA qB (fun j => P j / 16) (fun j => P j % 16) k (qB k) = some v → v = P k % 16) → XW (x_rm d 0 0) k_Mod_holds L xs (x_mq 0 0 (qR n h (nI (vB (PR (256 * qQ k + P k) ∧ vAgr 16 qA qB (fun j => P j / 16) (fun j => P j % 16) k))))) 0 0 126 [(0, .ref m), (1, .int (nI k)), (2, .int (oI (vHeld 16 qA qB (fun j => P j / 16) (fun j => P j % 16) k (qA k)))), (3, .int (oI (vHeld 16 qA qB (fun j => P j / 16) (fun j => P j % 16) k (qB k)))), (4, .int (nI (vB (qA k = qB k → P k / 16 = P k % 16))))] [] n h := by
      intro g0 g1 g2
      refine xr_iload a_Mod_holds_126 rfl ?_
      refine xn_if_eq a_Mod_holds_128 (vB_lt31 _) (fun b128 => xr_ls [] trivial (no (fun z => vB_0 b128 z.2.2.2))) (fun b128 => ?_)
      have hz : (PR (256 * qQ k + P k) ∧ vAgr 16 qA qB (fun j => P j / 16) (fun j => P j % 16) k) := ⟨g0, g1, g2, vB_1 b128⟩
      rw [vB_t hz]
      refine xr_iconst a_Mod_holds_131 (v := nI 1) (by decide +kernel) ?_
      refine xr_goto a_Mod_holds_132 ?_
      refine xr_ireturn a_Mod_holds_136 rfl rfl (by omega) (by omega) ?_
      exact ⟨rfl, rfl, rfl⟩
    have m109 : PR (256 * qQ k + P k) → (∀ v, vHeld 16 qA qB (fun j => P j / 16) (fun j => P j % 16) k (qA k) = some v → v = P k / 16) → XW (x_rm d 0 0) k_Mod_holds L xs (x_mq 0 0 (qR n h (nI (vB (PR (256 * qQ k + P k) ∧ vAgr 16 qA qB (fun j => P j / 16) (fun j => P j % 16) k))))) 0 0 109 [(0, .ref m), (1, .int (nI k)), (2, .int (oI (vHeld 16 qA qB (fun j => P j / 16) (fun j => P j % 16) k (qA k)))), (3, .int (oI (vHeld 16 qA qB (fun j => P j / 16) (fun j => P j % 16) k (qB k)))), (4, .int (nI (vB (qA k = qB k → P k / 16 = P k % 16))))] [] n h := by
      intro g0 g1
      refine xr_iload_n a_Mod_holds_109 rfl ?_
      refine xr_if_lt a_Mod_holds_110 (fun b110 => ?_) (fun b110 => ?_)
      · exact m126 g0 g1 (fun v hv => by rw [(oI_neg d2).mp b110] at hv; cases hv)
      · refine xr_iload_n a_Mod_holds_113 rfl ?_
        refine xr_aload_n a_Mod_holds_114 rfl ?_
        apply xr_getf a_Mod_holds_115
        · (repeat' (first | assumption | exact va_up_self _ _ _ | refine x_lk (by omega) ?_))
        · rfl
        refine xr_iload_n a_Mod_holds_118 rfl ?_
        apply xo_iaload a_Mod_holds_119
        · (repeat' (first | assumption | exact va_up_self _ _ _ | refine x_lk (by omega) ?_))
        · omega
        · omega
        rw [eo]
        refine xr_bipush a_Mod_holds_120 (v := nI 16) (by decide +kernel) ?_
        refine xn_irem a_Mod_holds_122 (by omega) (by omega) (by omega) ?_
        refine xon_icmp_ne a_Mod_holds_123 d2 (by omega) (fun b123 => ?_) (fun b123 => ?_)
        · exact xr_ls [] trivial (no (fun z => by
            cases e : vHeld 16 qA qB (fun j => P j / 16) (fun j => P j % 16) k (qB k) with
            | none => exact b110 ((oI_neg d2).mpr e)
            | some w => exact b123 (by rw [e]; exact congrArg some (z.2.2.1 w e))))
        · exact m126 g0 g1 (fun v hv => by rw [b123] at hv; exact (Option.some.inj hv).symm)
    refine xr_istore a_Mod_holds_65 (by decide) rfl ?_
    refine xr_aload_n a_Mod_holds_67 rfl ?_
    apply xr_getf a_Mod_holds_68
    · (repeat' (first | assumption | exact va_up_self _ _ _ | refine x_lk (by omega) ?_))
    · rfl
    refine xr_sipush a_Mod_holds_71 (v := nI 256) (by decide +kernel) ?_
    refine xr_aload_n a_Mod_holds_74 rfl ?_
    apply xr_getf a_Mod_holds_75
    · (repeat' (first | assumption | exact va_up_self _ _ _ | refine x_lk (by omega) ?_))
    · rfl
    refine xr_iload_n a_Mod_holds_78 rfl ?_
    apply xn_iaload a_Mod_holds_79
    · (repeat' (first | assumption | exact va_up_self _ _ _ | refine x_lk (by omega) ?_))
    · omega
    · omega
    first | refine xn_imul a_Mod_holds_80 ?_ | refine xr_imul a_Mod_holds_80 ?_
    refine xr_aload_n a_Mod_holds_81 rfl ?_
    apply xr_getf a_Mod_holds_82
    · (repeat' (first | assumption | exact va_up_self _ _ _ | refine x_lk (by omega) ?_))
    · rfl
    refine xr_iload_n a_Mod_holds_85 rfl ?_
    apply xo_iaload a_Mod_holds_86
    · (repeat' (first | assumption | exact va_up_self _ _ _ | refine x_lk (by omega) ?_))
    · omega
    · omega
    rw [eo]
    first | refine xn_iadd a_Mod_holds_87 ?_ | refine xr_iadd a_Mod_holds_87 ?_
    apply xn_baload a_Mod_holds_88
    · (repeat' (first | assumption | exact va_up_self _ _ _ | refine x_lk (by omega) ?_))
    · omega
    · omega
    rw [ef]
    refine xn_if_eq a_Mod_holds_89 (vB_lt31 _) (fun b89 => xr_ls [] trivial (no (fun z => vB_0 b89 z.1))) (fun b89 => ?_)
    have g0 := vB_1 b89
    refine xr_iload_n a_Mod_holds_92 rfl ?_
    refine xr_if_lt a_Mod_holds_93 (fun b93 => ?_) (fun b93 => ?_)
    · refine xr_ls [(0, .ref m), (1, .int (nI k)), (2, .int (oI (vHeld 16 qA qB (fun j => P j / 16) (fun j => P j % 16) k (qA k)))), (3, .int (oI (vHeld 16 qA qB (fun j => P j / 16) (fun j => P j % 16) k (qB k)))), (4, .int (nI (vB (qA k = qB k → P k / 16 = P k % 16))))] ⟨rfl, rfl, rfl, rfl, rfl, trivial⟩ ?_
      exact m109 g0 (fun v hv => by rw [(oI_neg d1).mp b93] at hv; cases hv)
    · refine xr_iload_n a_Mod_holds_96 rfl ?_
      refine xr_aload_n a_Mod_holds_97 rfl ?_
      apply xr_getf a_Mod_holds_98
      · (repeat' (first | assumption | exact va_up_self _ _ _ | refine x_lk (by omega) ?_))
      · rfl
      refine xr_iload_n a_Mod_holds_101 rfl ?_
      apply xo_iaload a_Mod_holds_102
      · (repeat' (first | assumption | exact va_up_self _ _ _ | refine x_lk (by omega) ?_))
      · omega
      · omega
      rw [eo]
      refine xr_bipush a_Mod_holds_103 (v := nI 16) (by decide +kernel) ?_
      refine xn_idiv a_Mod_holds_105 (by omega) (by omega) (by omega) ?_
      refine xon_icmp_ne a_Mod_holds_106 d1 (by omega) (fun b106 => ?_) (fun b106 => ?_)
      · exact xr_ls [] trivial (no (fun z => by
          cases e : vHeld 16 qA qB (fun j => P j / 16) (fun j => P j % 16) k (qA k) with
          | none => exact b93 ((oI_neg d1).mpr e)
          | some w => exact b106 (by rw [e]; exact congrArg some (z.2.1 w e))))
      · refine xr_ls [(0, .ref m), (1, .int (nI k)), (2, .int (oI (vHeld 16 qA qB (fun j => P j / 16) (fun j => P j % 16) k (qA k)))), (3, .int (oI (vHeld 16 qA qB (fun j => P j / 16) (fun j => P j % 16) k (qB k)))), (4, .int (nI (vB (qA k = qB k → P k / 16 = P k % 16))))] ⟨rfl, rfl, rfl, rfl, rfl, trivial⟩ ?_
        exact m109 g0 (fun v hv => by rw [b106] at hv; exact (Option.some.inj hv).symm)
  refine xr_aload_n a_Mod_holds_0 rfl ?_
  refine xr_iload_n a_Mod_holds_1 rfl ?_
  refine xr_aload_n a_Mod_holds_2 rfl ?_
  apply xr_getf a_Mod_holds_3
  · (repeat' (first | assumption | exact va_up_self _ _ _ | refine x_lk (by omega) ?_))
  · rfl
  refine xr_iload_n a_Mod_holds_6 rfl ?_
  apply xn_iaload a_Mod_holds_7
  · (repeat' (first | assumption | exact va_up_self _ _ _ | refine x_lk (by omega) ?_))
  · omega
  · omega
  refine xr_invV a_Mod_holds_8 (by (repeat' (first | assumption | exact va_up_self _ _ _ | refine x_lk (by omega) ?_))) (k1) rfl rfl (by omega) (by omega) (by omega) (Nat.le_of_ble_eq_true rfl) ?_
  rintro _ _ h1 ⟨rfl, rfl, rfl⟩
  refine xr_istore_n a_Mod_holds_11 (by decide) rfl ?_
  refine xr_aload_n a_Mod_holds_12 rfl ?_
  refine xr_iload_n a_Mod_holds_13 rfl ?_
  refine xr_aload_n a_Mod_holds_14 rfl ?_
  apply xr_getf a_Mod_holds_15
  · (repeat' (first | assumption | exact va_up_self _ _ _ | refine x_lk (by omega) ?_))
  · rfl
  refine xr_iload_n a_Mod_holds_18 rfl ?_
  apply xn_iaload a_Mod_holds_19
  · (repeat' (first | assumption | exact va_up_self _ _ _ | refine x_lk (by omega) ?_))
  · omega
  · omega
  refine xr_invV a_Mod_holds_20 (by (repeat' (first | assumption | exact va_up_self _ _ _ | refine x_lk (by omega) ?_))) (k2) rfl rfl (by omega) (by omega) (by omega) (Nat.le_of_ble_eq_true rfl) ?_
  rintro _ _ h1 ⟨rfl, rfl, rfl⟩
  refine xr_istore_n a_Mod_holds_23 (by decide) rfl ?_
  refine xr_aload_n a_Mod_holds_24 rfl ?_
  apply xr_getf a_Mod_holds_25
  · (repeat' (first | assumption | exact va_up_self _ _ _ | refine x_lk (by omega) ?_))
  · rfl
  refine xr_iload_n a_Mod_holds_28 rfl ?_
  apply xn_iaload a_Mod_holds_29
  · (repeat' (first | assumption | exact va_up_self _ _ _ | refine x_lk (by omega) ?_))
  · omega
  · omega
  refine xr_aload_n a_Mod_holds_30 rfl ?_
  apply xr_getf a_Mod_holds_31
  · (repeat' (first | assumption | exact va_up_self _ _ _ | refine x_lk (by omega) ?_))
  · rfl
  refine xr_iload_n a_Mod_holds_34 rfl ?_
  apply xn_iaload a_Mod_holds_35
  · (repeat' (first | assumption | exact va_up_self _ _ _ | refine x_lk (by omega) ?_))
  · omega
  · omega
  refine xn_icmp_ne a_Mod_holds_36 (by omega) (by omega) (fun b36 => ?_) (fun b36 => ?_)
  · refine xr_iconst a_Mod_holds_60 (v := nI 1) (by decide +kernel) ?_
    refine xr_goto a_Mod_holds_61 ?_
    refine xr_ls [(0, .ref m), (1, .int (nI k)), (2, .int (oI (vHeld 16 qA qB (fun j => P j / 16) (fun j => P j % 16) k (qA k)))), (3, .int (oI (vHeld 16 qA qB (fun j => P j / 16) (fun j => P j % 16) k (qB k))))] ⟨rfl, rfl, rfl, rfl, trivial⟩ ?_
    exact m65 1 (by rw [vB_t (fun z => absurd z b36)])
  · refine xr_aload_n a_Mod_holds_39 rfl ?_
    apply xr_getf a_Mod_holds_40
    · (repeat' (first | assumption | exact va_up_self _ _ _ | refine x_lk (by omega) ?_))
    · rfl
    refine xr_iload_n a_Mod_holds_43 rfl ?_
    apply xo_iaload a_Mod_holds_44
    · (repeat' (first | assumption | exact va_up_self _ _ _ | refine x_lk (by omega) ?_))
    · omega
    · omega
    rw [eo]
    refine xr_bipush a_Mod_holds_45 (v := nI 16) (by decide +kernel) ?_
    refine xn_idiv a_Mod_holds_47 (by omega) (by omega) (by omega) ?_
    refine xr_aload_n a_Mod_holds_48 rfl ?_
    apply xr_getf a_Mod_holds_49
    · (repeat' (first | assumption | exact va_up_self _ _ _ | refine x_lk (by omega) ?_))
    · rfl
    refine xr_iload_n a_Mod_holds_52 rfl ?_
    apply xo_iaload a_Mod_holds_53
    · (repeat' (first | assumption | exact va_up_self _ _ _ | refine x_lk (by omega) ?_))
    · omega
    · omega
    rw [eo]
    refine xr_bipush a_Mod_holds_54 (v := nI 16) (by decide +kernel) ?_
    refine xn_irem a_Mod_holds_56 (by omega) (by omega) (by omega) ?_
    refine xn_icmp_ne a_Mod_holds_57 (by omega) (by omega) (fun b57 => ?_) (fun b57 => ?_)
    · refine xr_iconst a_Mod_holds_64 (v := nI 0) (by decide +kernel) ?_
      refine xr_ls [(0, .ref m), (1, .int (nI k)), (2, .int (oI (vHeld 16 qA qB (fun j => P j / 16) (fun j => P j % 16) k (qA k)))), (3, .int (oI (vHeld 16 qA qB (fun j => P j / 16) (fun j => P j % 16) k (qB k))))] ⟨rfl, rfl, rfl, rfl, trivial⟩ ?_
      exact m65 0 (by rw [vB_f (fun z => b57 (z b36))])
    · refine xr_iconst a_Mod_holds_60 (v := nI 1) (by decide +kernel) ?_
      refine xr_goto a_Mod_holds_61 ?_
      refine xr_ls [(0, .ref m), (1, .int (nI k)), (2, .int (oI (vHeld 16 qA qB (fun j => P j / 16) (fun j => P j % 16) k (qA k)))), (3, .int (oI (vHeld 16 qA qB (fun j => P j / 16) (fun j => P j % 16) k (qB k))))] ⟨rfl, rfl, rfl, rfl, trivial⟩ ?_
      exact m65 1 (by rw [vB_t (fun _ => b57)])
end T69i
def slS (h0 h' : xH) (m : Nat) (W : Nat → Prop) (pk : Nat → Option Nat) : Prop := (∀ q, q ≠ m + 20 → q ≠ m + 24 → h' q = h0 q) ∧ h' (m + 20) = cO 6 pk ∧ ∃ g : Nat → Nat, h' (m + 24) = cB 256 g ∧ ∀ k, k < 256 → g k = vB (W k)
theorem slS.pick {h0 h' : xH} {m : Nat} {W : Nat → Prop} {pk : Nat → Option Nat} (p : slS h0 h' m W pk) (pk' : Nat → Option Nat) : slS h0 (va_up h' (m + 20) (cO 6 pk')) m W pk' := by
  obtain ⟨p1, p2, g, p3, p4⟩ := p
  exact ⟨fun q g1 g2 => (up_ne g1).trans (p1 q g1 g2), up_self _ _ _, g, x_lk (by omega) p3, p4⟩
section T69i2
variable {d L : Nat} {xs : Nat → Int32} {n : Nat} {h : xH} {m : Nat} {to ma stk ne rq tr : Nat} {qQ qA qB f : Nat → Nat} {pk : Nat → Option Nat} {PR W : Nat → Prop}
theorem t_Mod_solve (p0 : h m = cM m to ma stk ne rq tr) (s1 : h (m + 11) = cI 3 qQ) (s2 : h (m + 12) = cI 3 qA) (s3 : h (m + 13) = cI 3 qB) (cp : h (m + 23) = cB 768 f) (hf : ∀ k, k < 768 → f k = vB (PR k)) (S0 : slS h h m W pk) (ht0 : 0 < to) (ht3 : to ≤ 3) (hq : ∀ j, j < to → qQ j < 3 ∧ qA j < 22 ∧ qB j < 22) (hs : vSf to qA qB) (hd : 2 ≤ d) : XM d 0 0 k_Mod_solve L xs [.ref m] n h (qV n (fun h' => ∃ W' pk', (∀ c, W' c ↔ W c ∨ ∃ θ, sEx qA qB (fun _ x => x / 16) (fun _ x => x % 16) (fun _ => 256) (fun i x => PR (256 * qQ i + x)) to (fun _ => 0) 0 θ ∧ c = 16 * θ 16 + θ 17) ∧ slS h h' m W' pk')) := by
  refine XM.of rfl (Nat.le_of_ble_eq_true rfl) ?_
  have try_ : ∀ r k, k + r + 1 = to → ∀ q nx, nx + q = 256 → ∀ (P : Nat → Nat) (pk : Nat → Option Nat) (V : Nat → Prop) (h' : xH), slS h h' m V pk → vCon 16 qA qB (fun i => (fun _ x => x / 16) i (P i)) (fun i => (fun _ x => x % 16) i (P i)) k → (∀ i, i < k → pk i = some (P i) ∧ P i < 256) → nxt (pk k) = nx → (∀ (W' : Nat → Prop) (pk' : Nat → Option Nat) (h'' : xH), (∀ c, W' c ↔ V c ∨ sX qA qB (fun _ x => x / 16) (fun _ x => x % 16) (fun _ => 256) (fun i x => PR (256 * qQ i + x)) to (fun θ : Nat → Nat => 16 * θ 16 + θ 17) P k nx c) → slS h h'' m W' pk' → (∀ i, i < k → pk' i = some (P i)) → XW (x_rm d 0 0) k_Mod_solve L xs (x_mq 0 0 (qV n (fun h' => ∃ W' pk', (∀ c, W' c ↔ W c ∨ ∃ θ, sEx qA qB (fun _ x => x / 16) (fun _ x => x % 16) (fun _ => 256) (fun i x => PR (256 * qQ i + x)) to (fun _ => 0) 0 θ ∧ c = 16 * θ 16 + θ 17) ∧ slS h h' m W' pk'))) 0 0 9 [(0, .ref m), (1, .int (nI k - nI 1))] [] n h'') → XW (x_rm d 0 0) k_Mod_solve L xs (x_mq 0 0 (qV n (fun h' => ∃ W' pk', (∀ c, W' c ↔ W c ∨ ∃ θ, sEx qA qB (fun _ x => x / 16) (fun _ x => x % 16) (fun _ => 256) (fun i x => PR (256 * qQ i + x)) to (fun _ => 0) 0 θ ∧ c = 16 * θ 16 + θ 17) ∧ slS h h' m W' pk'))) 0 0 9 [(0, .ref m), (1, .int (nI k))] [] n h' := by
    intro r
    induction r using Nat.strongRecOn with
    | ind r ihr =>
    intro k hk q
    induction q with
    | zero =>
      intro nx hnx P pk V h' S1 hC hpk hn hK
      have p0' := (S1.1 m (by omega) (by omega)).trans p0
      have c4' := S1.2.1
      refine xr_iload_n a_Mod_solve_9 rfl ?_
      refine xn_if_lt a_Mod_solve_10 (by omega) ?_
      refine xr_aload_n a_Mod_solve_13 rfl ?_
      apply xr_getf a_Mod_solve_14
      · (repeat' (first | assumption | exact va_up_self _ _ _ | refine x_lk (by omega) ?_))
      · rfl
      refine xr_iload_n a_Mod_solve_17 rfl ?_
      refine xr_dup2 a_Mod_solve_18 rfl rfl ?_
      apply xo_iaload a_Mod_solve_19
      · (repeat' (first | assumption | exact va_up_self _ _ _ | refine x_lk (by omega) ?_))
      · omega
      · omega
      refine xr_iconst a_Mod_solve_20 (v := nI 1) (by decide +kernel) ?_
      refine xr_iadd a_Mod_solve_21 ?_
      rw [oI_inc, hn]
      apply xo_iastore (o := some nx) a_Mod_solve_22
      · (repeat' (first | assumption | exact va_up_self _ _ _ | refine x_lk (by omega) ?_))
      · exact rfl
      · omega
      · omega
      refine xr_aload_n a_Mod_solve_23 rfl ?_
      apply xr_getf a_Mod_solve_24
      · (repeat' (first | assumption | exact va_up_self _ _ _ | refine x_lk (by omega) ?_))
      · rfl
      refine xr_iload_n a_Mod_solve_27 rfl ?_
      apply xo_iaload a_Mod_solve_28
      · (repeat' (first | assumption | exact va_up_self _ _ _ | refine x_lk (by omega) ?_))
      · omega
      · omega
      rw [up_self, show oI (some nx) = nI nx from rfl]
      refine xr_sipush a_Mod_solve_29 (v := nI 256) (by decide +kernel) ?_
      refine xn_icmp_lt a_Mod_solve_32 (by omega) (by omega) (fun b32 => ?_) (fun b32 => ?_)
      · omega
      · refine xr_iinc a_Mod_solve_35 rfl (x_dec _) (by decide) rfl ?_
        refine xr_goto a_Mod_solve_38 ?_
        refine xr_ls [(0, .ref m), (1, .int (nI k - nI 1))] ⟨rfl, rfl, trivial⟩ ?_
        exact hK V _ _ (fun c => ⟨Or.inl, fun w => w.elim id (fun w => absurd w (sX_stop (show 256 ≤ nx by omega)))⟩) (S1.pick _) (fun i hi => by rw [up_ne (by omega)]; exact (hpk i hi).1)
    | succ q ihq =>
      intro nx hnx P pk V h' S1 hC hpk hn hK
      have p0' := (S1.1 m (by omega) (by omega)).trans p0
      have s1' := (S1.1 (m + 11) (by omega) (by omega)).trans s1
      have s2' := (S1.1 (m + 12) (by omega) (by omega)).trans s2
      have s3' := (S1.1 (m + 13) (by omega) (by omega)).trans s3
      have cp' := (S1.1 (m + 23) (by omega) (by omega)).trans cp
      have c4' := S1.2.1
      have hlt : nx < 256 := by omega
      have again : ∀ (W1 : Nat → Prop) (pk1 : Nat → Option Nat) (h1 : xH), (∀ c, W1 c ↔ V c ∨ (PR (256 * qQ k + nx) ∧ ∃ θ, sEx qA qB (fun _ x => x / 16) (fun _ x => x % 16) (fun _ => 256) (fun i x => PR (256 * qQ i + x)) to (va_up P k nx) (k + 1) θ ∧ c = (fun θ : Nat → Nat => 16 * θ 16 + θ 17) θ)) → slS h h1 m W1 pk1 → (∀ i, i < k → pk1 i = some (P i)) → pk1 k = some nx → XW (x_rm d 0 0) k_Mod_solve L xs (x_mq 0 0 (qV n (fun h' => ∃ W' pk', (∀ c, W' c ↔ W c ∨ ∃ θ, sEx qA qB (fun _ x => x / 16) (fun _ x => x % 16) (fun _ => 256) (fun i x => PR (256 * qQ i + x)) to (fun _ => 0) 0 θ ∧ c = 16 * θ 16 + θ 17) ∧ slS h h' m W' pk'))) 0 0 9 [(0, .ref m), (1, .int (nI k))] [] n h1 := by
        intro W1 pk1 h1 e1 s1 g1 g2
        exact ihq (nx + 1) (by omega) P pk1 W1 h1 s1 hC (fun i hi => ⟨g1 i hi, (hpk i hi).2⟩) (by rw [g2]; rfl) (fun W' pk' h'' e2 => hK W' pk' h'' (sX_join hlt e1 e2))
      have hpk1 : ∀ i, i < k → va_up pk k (some nx) i = some (P i) := fun i hi => by rw [up_ne (by omega)]; exact (hpk i hi).1
      have eP : ∀ i, i ≤ k → va_up pk k (some nx) i = some (va_up P k nx i) := by
        intro i hi
        by_cases ei : i = k
        · rw [ei, up_self, up_self]
        · rw [up_ne ei, up_ne ei]; exact (hpk i (by omega)).1
      have eB : ∀ i, i ≤ k → va_up P k nx i < 256 := by
        intro i hi
        by_cases ei : i = k
        · rw [ei, up_self]; exact hlt
        · rw [up_ne ei]; exact (hpk i (by omega)).2
      have S2 := S1.pick (va_up pk k (some nx))
      have hC1 : vCon 16 qA qB (fun i => (fun _ x => x / 16) i (va_up P k nx i)) (fun i => (fun _ x => x % 16) i (va_up P k nx i)) k := vCon_congr (fun i hi => by rw [up_ne (by omega)]; exact ⟨rfl, rfl⟩) hC
      have cH := t_Mod_holds (d := 1) (L := L) (xs := xs) (n := n) (h := va_up h' (m + 20) (cO 6 (va_up pk k (some nx)))) (k := k) (P := va_up P k nx) (x_lk (by omega) p0') (x_lk (by omega) s1') (x_lk (by omega) s2') (x_lk (by omega) s3') (up_self _ _ _) (x_lk (by omega) cp') hf (by omega) (hq k (by omega)).1 (fun j hj => by
        have b := hq j (by omega)
        exact ⟨by omega, by omega, eP j (by omega), eB j (by omega)⟩) (by omega)
      rw [up_self] at cH
      refine xr_iload_n a_Mod_solve_9 rfl ?_
      refine xn_if_lt a_Mod_solve_10 (by omega) ?_
      refine xr_aload_n a_Mod_solve_13 rfl ?_
      apply xr_getf a_Mod_solve_14
      · (repeat' (first | assumption | exact va_up_self _ _ _ | refine x_lk (by omega) ?_))
      · rfl
      refine xr_iload_n a_Mod_solve_17 rfl ?_
      refine xr_dup2 a_Mod_solve_18 rfl rfl ?_
      apply xo_iaload a_Mod_solve_19
      · (repeat' (first | assumption | exact va_up_self _ _ _ | refine x_lk (by omega) ?_))
      · omega
      · omega
      refine xr_iconst a_Mod_solve_20 (v := nI 1) (by decide +kernel) ?_
      refine xr_iadd a_Mod_solve_21 ?_
      rw [oI_inc, hn]
      apply xo_iastore (o := some nx) a_Mod_solve_22
      · (repeat' (first | assumption | exact va_up_self _ _ _ | refine x_lk (by omega) ?_))
      · exact rfl
      · omega
      · omega
      refine xr_aload_n a_Mod_solve_23 rfl ?_
      apply xr_getf a_Mod_solve_24
      · (repeat' (first | assumption | exact va_up_self _ _ _ | refine x_lk (by omega) ?_))
      · rfl
      refine xr_iload_n a_Mod_solve_27 rfl ?_
      apply xo_iaload a_Mod_solve_28
      · (repeat' (first | assumption | exact va_up_self _ _ _ | refine x_lk (by omega) ?_))
      · omega
      · omega
      rw [up_self, show oI (some nx) = nI nx from rfl]
      refine xr_sipush a_Mod_solve_29 (v := nI 256) (by decide +kernel) ?_
      refine xn_icmp_lt a_Mod_solve_32 (by omega) (by omega) (fun b32 => ?_) (fun b32 => ?_)
      · refine xr_aload_n a_Mod_solve_41 rfl ?_
        refine xr_iload_n a_Mod_solve_42 rfl ?_
        refine xr_invV a_Mod_solve_43 (by (repeat' (first | assumption | exact va_up_self _ _ _ | refine x_lk (by omega) ?_))) (cH) rfl rfl (by omega) (by omega) (by omega) (Nat.le_of_ble_eq_true rfl) ?_
        rintro _ _ h1 ⟨rfl, rfl, rfl⟩
        refine xn_if_eq a_Mod_solve_46 (vB_lt31 _) (fun b46 => ?_) (fun b46 => ?_)
        · refine xr_ls [(0, .ref m), (1, .int (nI k))] ⟨rfl, rfl, trivial⟩ ?_
          exact again V _ _ (fun c => ⟨Or.inl, fun w => w.elim id (fun ⟨w0, θ, w, _⟩ => absurd ⟨w0, (vCon_agr.mp (sEx_con w)).2⟩ (vB_0 b46))⟩) S2 hpk1 (up_self _ _ _)
        · have hC0 := (vB_1 b46).1
          have hC2 := vCon_agr.mpr ⟨hC1, (vB_1 b46).2⟩
          refine xr_iload_n a_Mod_solve_49 rfl ?_
          refine xr_aload_n a_Mod_solve_50 rfl ?_
          apply xr_getf a_Mod_solve_51
          · (repeat' (first | assumption | exact va_up_self _ _ _ | refine x_lk (by omega) ?_))
          · rfl
          refine xr_iconst a_Mod_solve_54 (v := nI 1) (by decide +kernel) ?_
          first | refine xn_isub a_Mod_solve_55 (by omega) ?_ | refine xr_isub a_Mod_solve_55 ?_
          refine xn_icmp_ne a_Mod_solve_56 (by omega) (by omega) (fun b56 => ?_) (fun b56 => ?_)
          · obtain ⟨r', hr'⟩ : ∃ r', r = r' + 1 := ⟨r - 1, by omega⟩
            first | refine xn_iinc a_Mod_solve_96 rfl (by decide) rfl ?_ | refine xr_iinc a_Mod_solve_96 rfl rfl (by decide) rfl ?_
            refine xr_aload_n a_Mod_solve_99 rfl ?_
            apply xr_getf a_Mod_solve_100
            · (repeat' (first | assumption | exact va_up_self _ _ _ | refine x_lk (by omega) ?_))
            · rfl
            refine xr_iload_n a_Mod_solve_103 rfl ?_
            refine xr_iconst a_Mod_solve_104 (v := -1) (by decide +kernel) ?_
            apply xo_iastore (o := none) a_Mod_solve_105
            · (repeat' (first | assumption | exact va_up_self _ _ _ | refine x_lk (by omega) ?_))
            · exact rfl
            · omega
            · omega
            refine xr_goto a_Mod_solve_106 ?_
            refine xr_ls [(0, .ref m), (1, .int (nI (k + 1)))] ⟨rfl, rfl, trivial⟩ ?_
            refine ihr r' (by omega) (k + 1) (by omega) 256 0 (by omega) (va_up P k nx) _ V _ (S2.pick _) hC2 (fun i hi => ⟨by rw [up_ne (by omega)]; exact eP i (by omega), eB i (by omega)⟩) (by rw [up_self]; rfl) (fun W' pk' h'' e2 s2 g2 => ?_)
            rw [show nI (k + 1) - nI 1 = nI k from pk_sub (by omega)]
            refine again W' pk' h'' (fun c => ?_) s2 (fun i hi => ?_) ?_
            · rw [e2 c, ← sX_down (show k + 1 < to by omega)]
              exact ⟨fun w => w.elim Or.inl (fun w => Or.inr ⟨hC0, w⟩), fun w => w.elim Or.inl (fun w => Or.inr w.2)⟩
            · rw [g2 i (by omega), up_ne (by omega)]
            · rw [g2 k (by omega), up_self]
          · have ek : k + 1 = to := by omega
            rw [ek] at hC2
            have vb : ∀ j, j < to → va_up P k nx j / 16 < 16 ∧ va_up P k nx j % 16 < 16 := fun j hj => by
              have := eB j (by omega)
              exact ⟨by omega, by omega⟩
            obtain ⟨pp, p1, p2⟩ := vHeld_some (F := qA) (S := qB) (k := to) (t := 16) (A' := fun j => va_up P k nx j / 16) (B' := fun j => va_up P k nx j % 16) (Or.inr hs.1) vb
            obtain ⟨qq, q1, q2⟩ := vHeld_some (F := qA) (S := qB) (k := to) (t := 17) (A' := fun j => va_up P k nx j / 16) (B' := fun j => va_up P k nx j % 16) (Or.inr hs.2) vb
            have hBb : ∀ j, j < to → qA j < 100 ∧ qB j < 100 ∧ va_up pk k (some nx) j = some (va_up P k nx j) ∧ va_up P k nx j < 256 := fun j hj => by
              have b := hq j hj
              exact ⟨by omega, by omega, eP j (by omega), eB j (by omega)⟩
            have k1 := t_Mod_bound (d := 1) (L := L) (xs := xs) (n := n) (h := va_up h' (m + 20) (cO 6 (va_up pk k (some nx)))) (u := to) (t := 16) (P := va_up P k nx) (x_lk (by omega) p0') (x_lk (by omega) s2') (x_lk (by omega) s3') (up_self _ _ _) ht3 (by omega) hBb
            have k2 := t_Mod_bound (d := 1) (L := L) (xs := xs) (n := n) (h := va_up h' (m + 20) (cO 6 (va_up pk k (some nx)))) (u := to) (t := 17) (P := va_up P k nx) (x_lk (by omega) p0') (x_lk (by omega) s2') (x_lk (by omega) s3') (up_self _ _ _) ht3 (by omega) hBb
            rw [p1] at k1
            rw [q1] at k2
            have k1' : XM 1 0 0 k_Mod_bound L xs [.ref m, .int (nI to), .int (nI 16)] n (va_up h' (m + 20) (cO 6 (va_up pk k (some nx)))) (qR n (va_up h' (m + 20) (cO 6 (va_up pk k (some nx)))) (nI pp)) := k1
            have k2' : XM 1 0 0 k_Mod_bound L xs [.ref m, .int (nI to), .int (nI 17)] n (va_up h' (m + 20) (cO 6 (va_up pk k (some nx)))) (qR n (va_up h' (m + 20) (cO 6 (va_up pk k (some nx)))) (nI qq)) := k2
            have en : ∀ c, (∃ θ, sEx qA qB (fun _ x => x / 16) (fun _ x => x % 16) (fun _ => 256) (fun i x => PR (256 * qQ i + x)) to (va_up P k nx) to θ ∧ c = (fun θ : Nat → Nat => 16 * θ 16 + θ 17) θ) ↔ c = 16 * pp + qq := fun c => sEx_end (F := qA) (S := qB) (A := (fun _ x => x / 16)) (B := (fun _ x => x % 16)) hC2 (fun θ hθ => by
              show 16 * θ 16 + θ 17 = _
              rw [vHeld_eqS hθ p1, vHeld_eqS hθ q1])
            obtain ⟨u1, u2, g, u3, u4⟩ := S2
            refine xr_aload_n a_Mod_solve_59 rfl ?_
            refine xr_aload_n a_Mod_solve_60 rfl ?_
            apply xr_getf a_Mod_solve_61
            · (repeat' (first | assumption | exact va_up_self _ _ _ | refine x_lk (by omega) ?_))
            · rfl
            refine xr_bipush a_Mod_solve_64 (v := nI 16) (by decide +kernel) ?_
            refine xr_invV a_Mod_solve_66 (by (repeat' (first | assumption | exact va_up_self _ _ _ | refine x_lk (by omega) ?_))) (k1') rfl rfl (by omega) (by omega) (by omega) (Nat.le_of_ble_eq_true rfl) ?_
            rintro _ _ h1 ⟨rfl, rfl, rfl⟩
            refine xr_istore_n a_Mod_solve_69 (by decide) rfl ?_
            refine xr_aload_n a_Mod_solve_70 rfl ?_
            refine xr_aload_n a_Mod_solve_71 rfl ?_
            apply xr_getf a_Mod_solve_72
            · (repeat' (first | assumption | exact va_up_self _ _ _ | refine x_lk (by omega) ?_))
            · rfl
            refine xr_bipush a_Mod_solve_75 (v := nI 17) (by decide +kernel) ?_
            refine xr_invV a_Mod_solve_77 (by (repeat' (first | assumption | exact va_up_self _ _ _ | refine x_lk (by omega) ?_))) (k2') rfl rfl (by omega) (by omega) (by omega) (Nat.le_of_ble_eq_true rfl) ?_
            rintro _ _ h1 ⟨rfl, rfl, rfl⟩
            refine xr_istore_n a_Mod_solve_80 (by decide) rfl ?_
            refine xr_aload_n a_Mod_solve_81 rfl ?_
            apply xr_getf a_Mod_solve_82
            · (repeat' (first | assumption | exact va_up_self _ _ _ | refine x_lk (by omega) ?_))
            · rfl
            refine xr_bipush a_Mod_solve_85 (v := nI 16) (by decide +kernel) ?_
            refine xr_iload_n a_Mod_solve_87 rfl ?_
            first | refine xn_imul a_Mod_solve_88 ?_ | refine xr_imul a_Mod_solve_88 ?_
            refine xr_iload_n a_Mod_solve_89 rfl ?_
            first | refine xn_iadd a_Mod_solve_90 ?_ | refine xr_iadd a_Mod_solve_90 ?_
            refine xr_iconst a_Mod_solve_91 (v := nI 1) (by decide +kernel) ?_
            apply xn_bastore a_Mod_solve_92
            · (repeat' (first | assumption | exact va_up_self _ _ _ | refine x_lk (by omega) ?_))
            · omega
            · omega
            · omega
            refine xr_goto a_Mod_solve_93 ?_
            refine xr_ls [(0, .ref m), (1, .int (nI k))] ⟨rfl, rfl, trivial⟩ ?_
            refine again (fun c => V c ∨ c = 16 * pp + qq) (va_up pk k (some nx)) _ (fun c => ?_) ⟨fun q g1 g2 => (up_ne g2).trans (u1 q g1 g2), x_lk (by omega) u2, _, up_self _ _ _, fun c hc => ?_⟩ hpk1 (up_self _ _ _)
            · rw [ek, en c]
              exact ⟨fun w => w.elim Or.inl (fun w => Or.inr ⟨hC0, w⟩), fun w => w.elim Or.inl (fun w => Or.inr w.2)⟩
            · by_cases ec : c = 16 * pp + qq
              · rw [ec, up_self, vB_t (Or.inr rfl)]
              · rw [up_ne ec, u4 c hc]
                exact vB_c ⟨Or.inl, fun w => w.elim id (fun w => absurd w ec)⟩
      · omega
  have c4 := S0.2.1
  refine xr_iconst a_Mod_solve_0 (v := nI 0) (by decide +kernel) ?_
  refine xr_istore_n a_Mod_solve_1 (by decide) rfl ?_
  refine xr_aload_n a_Mod_solve_2 rfl ?_
  apply xr_getf a_Mod_solve_3
  · (repeat' (first | assumption | exact va_up_self _ _ _ | refine x_lk (by omega) ?_))
  · rfl
  refine xr_iconst a_Mod_solve_6 (v := nI 0) (by decide +kernel) ?_
  refine xr_iconst a_Mod_solve_7 (v := -1) (by decide +kernel) ?_
  apply xo_iastore (o := none) a_Mod_solve_8
  · (repeat' (first | assumption | exact va_up_self _ _ _ | refine x_lk (by omega) ?_))
  · exact rfl
  · omega
  · omega
  refine xr_ls [(0, .ref m), (1, .int (nI 0))] ⟨rfl, rfl, trivial⟩ ?_
  refine try_ (to - 1) 0 (by omega) 256 0 (by omega) (fun _ => 0) _ W _ (S0.pick _) vCon_0 (fun i hi => absurd hi (Nat.not_lt_zero i)) (by rw [up_self]; rfl) (fun W' pk' h'' e2 s2 _ => ?_)
  refine xr_iload_n a_Mod_solve_9 rfl ?_
  refine xr_if_lt a_Mod_solve_10 (fun b10 => ?_) (fun b10 => ?_)
  · refine xr_return a_Mod_solve_109 rfl (by omega) (by omega) ?_
    refine ⟨rfl, rfl, W', pk', fun c => ?_, s2⟩
    rw [e2 c, ← sX_down ht0]
  · exact absurd (by decide) b10
end T69i2

