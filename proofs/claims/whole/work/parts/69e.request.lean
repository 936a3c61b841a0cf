/-! the reference: request -/
section T69e
variable {d L : Nat} {xs : Nat → Int32} {n : Nat} {h : xH} {m : Nat} {as ma stk rq tr : Nat} {rX rY lR lA lB : Nat → Nat} {pk md : Nat → Option Nat} {P : Nat → Nat} {Mm : Nat → Bool} {W : Nat → Prop}
theorem t_Mod_request {dd k p X Y : Nat} (p0 : h m = cM m as ma stk (rqN Mm W) rq tr) (x1 : h (m + 2) = cI 32 rX) (x2 : h (m + 3) = cI 32 rY) (c1 : h (m + 15) = cI 48 lR) (c2 : h (m + 16) = cI 48 lA) (c3 : h (m + 17) = cI 48 lB) (c4 : h (m + 20) = cO 6 pk) (cm : h (m + 18) = cO 48 md) (pM : moM h m Mm) (pW : moW h m Mm W) (hM : ∀ c, Mm c = true → vOkc c) (hW : ∀ c, W c → vOkc c) (hdd : dd < 8) (hk : k < 6) (hB : ∀ j, j < k → lR (6 * dd + j) < 4 ∧ lA (6 * dd + j) < 100 ∧ lB (6 * dd + j) < 100 ∧ pk j = some (P j) ∧ P j < 8) (hR : lR (6 * dd + k) < 4) (hA : lA (6 * dd + k) < 100 ∧ lB (6 * dd + k) < 100) (hp : md (6 * dd + k) = some p) (hp4 : p < 4) (hX : p % 2 = 1 → vHeld 16 (fun j => lA (6 * dd + j)) (fun j => lB (6 * dd + j)) (fun j => rX (8 * lR (6 * dd + j) + P j)) (fun j => rY (8 * lR (6 * dd + j) + P j)) k (lA (6 * dd + k)) = some X) (hX0 : p % 2 = 0 → X = 0) (hX16 : X < 16) (hY : p / 2 % 2 = 1 → vHeld 16 (fun j => lA (6 * dd + j)) (fun j => lB (6 * dd + j)) (fun j => rX (8 * lR (6 * dd + j) + P j)) (fun j => rY (8 * lR (6 * dd + j) + P j)) k (lB (6 * dd + k)) = some Y) (hY0 : p / 2 % 2 = 0 → Y = 0) (hY16 : Y < 16) (hd : 1 ≤ d) : XM d 0 0 k_Mod_request L xs [.ref m, .int (nI dd), .int (nI k)] n h (qV n (fun h' => xfr2 m (m + 1) (m + 22) (m + 23) h h' ∧ h' m = cM m as ma stk (rqN Mm (fun c' => W c' ∨ c' = ((lR (6 * dd + k) * 4 + p) * 16 + X) * 16 + Y)) rq tr ∧ moW h' m Mm (fun c' => W c' ∨ c' = ((lR (6 * dd + k) * 4 + p) * 16 + X) * 16 + Y))) := by
  obtain ⟨fm, m1, m2⟩ := pM
  obtain ⟨fw, w1, w2⟩ := pW
  obtain ⟨oc, ek⟩ := kc_code hR hp4 hX16 hY16 hX0 hY0
  have kl := kc_lt oc.1
  have e21 : fm (kc (((lR (6 * dd + k) * 4 + p) * 16 + X) * 16 + Y)) = vB (Mm (((lR (6 * dd + k) * 4 + p) * 16 + X) * 16 + Y) = true) := by
    rw [m2 _ kl]
    exact vB_c ⟨fun ⟨c, h1, h2⟩ => by rw [← kc_inj (hM c h1) oc h2]; exact h1, fun h1 => ⟨_, h1, rfl⟩⟩
  have e22 : fw (kc (((lR (6 * dd + k) * 4 + p) * 16 + X) * 16 + Y)) = vB (Mm (((lR (6 * dd + k) * 4 + p) * 16 + X) * 16 + Y) = false ∧ W (((lR (6 * dd + k) * 4 + p) * 16 + X) * 16 + Y)) := by
    rw [w2 _ kl]
    exact vB_c ⟨fun ⟨c, h1, h2, h3⟩ => by rw [← kc_inj (hW c h2) oc h3]; exact ⟨h1, h2⟩, fun h1 => ⟨_, h1.1, h1.2, rfl⟩⟩
  have eN := rqN_s (Mm := Mm) (W := W) oc.1
  have k1 := t_Mod_held (d := 0) (L := L) (xs := xs) (n := n) (dd := dd) (u := k) (t := lA (6 * dd + k)) p0 x1 x2 c1 c2 c3 c4 hdd (by omega) hA.1 hB
  have k2 := t_Mod_held (d := 0) (L := L) (xs := xs) (n := n) (dd := dd) (u := k) (t := lB (6 * dd + k)) p0 x1 x2 c1 c2 c3 c4 hdd (by omega) hA.2 hB
  refine XM.of rfl (Nat.le_of_ble_eq_true rfl) ?_
  have ep : oI (md (6 * dd + k)) = nI p := by rw [hp]; rfl
  have no : Mm (((lR (6 * dd + k) * 4 + p) * 16 + X) * 16 + Y) = true ∨ W (((lR (6 * dd + k) * 4 + p) * 16 + X) * 16 + Y) → XW (x_rm d 0 0) k_Mod_request L xs (x_mq 0 0 (qV n (fun h' => xfr2 m (m + 1) (m + 22) (m + 23) h h' ∧ h' m = cM m as ma stk (rqN Mm (fun c' => W c' ∨ c' = ((lR (6 * dd + k) * 4 + p) * 16 + X) * 16 + Y)) rq tr ∧ moW h' m Mm (fun c' => W c' ∨ c' = ((lR (6 * dd + k) * 4 + p) * 16 + X) * 16 + Y)))) 0 0 141 [] [] n h := by
    intro z
    have ev : vAdd Mm W (((lR (6 * dd + k) * 4 + p) * 16 + X) * 16 + Y) = true := vAdd_iff.mpr z
    rw [vB_f (by rw [ev]; decide), Nat.add_zero] at eN
    refine xr_return a_Mod_request_141 rfl (by omega) (by omega) ?_
    refine ⟨rfl, rfl, xfr2.rf, by rw [eN]; exact p0, moW.c ⟨fw, w1, w2⟩ (fun c hc => ⟨Or.inl, fun w => w.elim id (fun w => ?_)⟩)⟩
    subst w
    exact z.elim (fun z => by rw [z] at hc; cases hc) id
  have s103 : XW (x_rm d 0 0) k_Mod_request L xs (x_mq 0 0 (qV n (fun h' => xfr2 m (m + 1) (m + 22) (m + 23) h h' ∧ h' m = cM m as ma stk (rqN Mm (fun c' => W c' ∨ c' = ((lR (6 * dd + k) * 4 + p) * 16 + X) * 16 + Y)) rq tr ∧ moW h' m Mm (fun c' => W c' ∨ c' = ((lR (6 * dd + k) * 4 + p) * 16 + X) * 16 + Y)))) 0 0 103 [(0, .ref m), (6, .int (nI (kc (((lR (6 * dd + k) * 4 + p) * 16 + X) * 16 + Y))))] [] n h := by
    refine xr_aload_n a_Mod_request_103 rfl ?_
    apply xr_getf a_Mod_request_104
    · (repeat' (first | assumption | exact va_up_self _ _ _ | refine x_lk (by omega) ?_))
    · rfl
    refine xr_iload a_Mod_request_107 rfl ?_
    apply xn_baload a_Mod_request_109
    · (repeat' (first | assumption | exact va_up_self _ _ _ | refine x_lk (by omega) ?_))
    · omega
    · omega
    rw [e21]
    refine xn_if_ne a_Mod_request_110 (vB_lt31 _) (fun b110 => xr_ls [] trivial (no (Or.inl (vB_1 b110)))) (fun b110 => ?_)
    refine xr_aload_n a_Mod_request_113 rfl ?_
    apply xr_getf a_Mod_request_114
    · (repeat' (first | assumption | exact va_up_self _ _ _ | refine x_lk (by omega) ?_))
    · rfl
    refine xr_iload a_Mod_request_117 rfl ?_
    apply xn_baload a_Mod_request_119
    · (repeat' (first | assumption | exact va_up_self _ _ _ | refine x_lk (by omega) ?_))
    · omega
    · omega
    rw [e22]
    refine xn_if_ne a_Mod_request_120 (vB_lt31 _) (fun b120 => xr_ls [] trivial (no (Or.inr (vB_1 b120).2))) (fun b120 => ?_)
    have nM : Mm (((lR (6 * dd + k) * 4 + p) * 16 + X) * 16 + Y) = false := by
      cases z : Mm (((lR (6 * dd + k) * 4 + p) * 16 + X) * 16 + Y) with
      | false => rfl
      | true => exact absurd z (vB_0 b110)
    have nW : ¬ W (((lR (6 * dd + k) * 4 + p) * 16 + X) * 16 + Y) := fun z => vB_0 b120 ⟨nM, z⟩
    have ev : vAdd Mm W (((lR (6 * dd + k) * 4 + p) * 16 + X) * 16 + Y) = false := by
      cases z : vAdd Mm W (((lR (6 * dd + k) * 4 + p) * 16 + X) * 16 + Y) with
      | false => rfl
      | true => exact absurd (vAdd_iff.mp z) (fun w => w.elim (fun w => by rw [w] at nM; cases nM) nW)
    rw [vB_t ev] at eN
    refine xr_aload_n a_Mod_request_123 rfl ?_
    apply xr_getf a_Mod_request_124
    · (repeat' (first | assumption | exact va_up_self _ _ _ | refine x_lk (by omega) ?_))
    · rfl
    refine xr_iload a_Mod_request_127 rfl ?_
    refine xr_iconst a_Mod_request_129 (v := nI 1) (by decide +kernel) ?_
    apply xn_bastore a_Mod_request_130
    · (repeat' (first | assumption | exact va_up_self _ _ _ | refine x_lk (by omega) ?_))
    · omega
    · omega
    · omega
    refine xr_aload_n a_Mod_request_131 rfl ?_
    refine xr_dup a_Mod_request_132 rfl ?_
    apply xr_getf a_Mod_request_133
    · (repeat' (first | assumption | exact va_up_self _ _ _ | refine x_lk (by omega) ?_))
    · rfl
    refine xr_iconst a_Mod_request_136 (v := nI 1) (by decide +kernel) ?_
    first | refine xn_iadd a_Mod_request_137 ?_ | refine xr_iadd a_Mod_request_137 ?_
    apply xm_needed a_Mod_request_138
    · (repeat' (first | assumption | exact va_up_self _ _ _ | refine x_lk (by omega) ?_))
    refine xr_return a_Mod_request_141 rfl (by omega) (by omega) ?_
    refine ⟨rfl, rfl, fun x g1 g2 => (up_ne (by omega)).trans (up_ne (by omega)), by rw [up_self, eN], va_up fw (kc (((lR (6 * dd + k) * 4 + p) * 16 + X) * 16 + Y)) 1, x_lk (by omega) (up_self _ _ _), fun q hq => ?_⟩
    by_cases eq : q = kc (((lR (6 * dd + k) * 4 + p) * 16 + X) * 16 + Y)
    · rw [eq, up_self, vB_t ⟨_, nM, Or.inr rfl, rfl⟩]
    · rw [up_ne eq, w2 q hq]
      refine vB_c ⟨fun ⟨c, h1, h2, h3⟩ => ⟨c, h1, Or.inl h2, h3⟩, fun ⟨c, h1, h2, h3⟩ => ⟨c, h1, h2.elim id (fun w => ?_), h3⟩⟩
      subst w
      exact absurd h3.symm eq
  have s74 : ∀ x y, x = (if p % 2 = 1 then X else 16) → y = (if p / 2 % 2 = 1 then Y else 16) → XW (x_rm d 0 0) k_Mod_request L xs (x_mq 0 0 (qV n (fun h' => xfr2 m (m + 1) (m + 22) (m + 23) h h' ∧ h' m = cM m as ma stk (rqN Mm (fun c' => W c' ∨ c' = ((lR (6 * dd + k) * 4 + p) * 16 + X) * 16 + Y)) rq tr ∧ moW h' m Mm (fun c' => W c' ∨ c' = ((lR (6 * dd + k) * 4 + p) * 16 + X) * 16 + Y)))) 0 0 72 [(0, .ref m), (1, .int (nI dd)), (2, .int (nI k)), (3, .int (nI p)), (4, .int (nI x))] [.int (nI y)] n h := by
    intro x y hx hy
    refine xr_istore a_Mod_request_72 (by decide) rfl ?_
    refine xr_iconst a_Mod_request_74 (v := nI 4) (by decide +kernel) ?_
    refine xr_aload_n a_Mod_request_75 rfl ?_
    apply xr_getf a_Mod_request_76
    · (repeat' (first | assumption | exact va_up_self _ _ _ | refine x_lk (by omega) ?_))
    · rfl
    refine xr_bipush a_Mod_request_79 (v := nI 6) (by decide +kernel) ?_
    refine xr_iload_n a_Mod_request_81 rfl ?_
    first | refine xn_imul a_Mod_request_82 ?_ | refine xr_imul a_Mod_request_82 ?_
    refine xr_iload_n a_Mod_request_83 rfl ?_
    first | refine xn_iadd a_Mod_request_84 ?_ | refine xr_iadd a_Mod_request_84 ?_
    apply xn_iaload a_Mod_request_85
    · (repeat' (first | assumption | exact va_up_self _ _ _ | refine x_lk (by omega) ?_))
    · omega
    · omega
    first | refine xn_imul a_Mod_request_86 ?_ | refine xr_imul a_Mod_request_86 ?_
    refine xr_iload_n a_Mod_request_87 rfl ?_
    first | refine xn_iadd a_Mod_request_88 ?_ | refine xr_iadd a_Mod_request_88 ?_
    refine xr_bipush a_Mod_request_89 (v := nI 17) (by decide +kernel) ?_
    first | refine xn_imul a_Mod_request_91 ?_ | refine xr_imul a_Mod_request_91 ?_
    refine xr_iload a_Mod_request_92 rfl ?_
    first | refine xn_iadd a_Mod_request_94 ?_ | refine xr_iadd a_Mod_request_94 ?_
    refine xr_bipush a_Mod_request_95 (v := nI 17) (by decide +kernel) ?_
    first | refine xn_imul a_Mod_request_97 ?_ | refine xr_imul a_Mod_request_97 ?_
    refine xr_iload a_Mod_request_98 rfl ?_
    first | refine xn_iadd a_Mod_request_100 ?_ | refine xr_iadd a_Mod_request_100 ?_
    refine xr_istore a_Mod_request_101 (by decide) rfl ?_
    rw [hx, hy, ← ek]
    refine xr_ls [(0, .ref m), (6, .int (nI (kc (((lR (6 * dd + k) * 4 + p) * 16 + X) * 16 + Y))))] ⟨rfl, rfl, trivial⟩ ?_
    exact s103
  have s41 : ∀ x, x = (if p % 2 = 1 then X else 16) → XW (x_rm d 0 0) k_Mod_request L xs (x_mq 0 0 (qV n (fun h' => xfr2 m (m + 1) (m + 22) (m + 23) h h' ∧ h' m = cM m as ma stk (rqN Mm (fun c' => W c' ∨ c' = ((lR (6 * dd + k) * 4 + p) * 16 + X) * 16 + Y)) rq tr ∧ moW h' m Mm (fun c' => W c' ∨ c' = ((lR (6 * dd + k) * 4 + p) * 16 + X) * 16 + Y)))) 0 0 41 [(0, .ref m), (1, .int (nI dd)), (2, .int (nI k)), (3, .int (nI p))] [.int (nI x)] n h := by
    intro x hx
    refine xr_istore a_Mod_request_41 (by decide) rfl ?_
    refine xr_iload_n a_Mod_request_43 rfl ?_
    refine xr_iconst a_Mod_request_44 (v := nI 2) (by decide +kernel) ?_
    refine xr_iand a_Mod_request_45 ?_; rw [bp_and p hp4 2 (by omega), p_and2 p hp4]
    refine xr_iconst a_Mod_request_46 (v := nI 2) (by decide +kernel) ?_
    refine xn_icmp_ne a_Mod_request_47 (by omega) (by omega) (fun b47 => ?_) (fun b47 => ?_)
    · refine xr_bipush a_Mod_request_70 (v := nI 16) (by decide +kernel) ?_
      refine xr_ls [(0, .ref m), (1, .int (nI dd)), (2, .int (nI k)), (3, .int (nI p)), (4, .int (nI x))] ⟨rfl, rfl, rfl, rfl, rfl, trivial⟩ ?_
      exact s74 x 16 hx (if_neg (by omega)).symm
    · have z : p / 2 % 2 = 1 := by omega
      rw [hY z] at k2
      refine xr_aload_n a_Mod_request_50 rfl ?_
      refine xr_iload_n a_Mod_request_51 rfl ?_
      refine xr_iload_n a_Mod_request_52 rfl ?_
      refine xr_aload_n a_Mod_request_53 rfl ?_
      apply xr_getf a_Mod_request_54
      · (repeat' (first | assumption | exact va_up_self _ _ _ | refine x_lk (by omega) ?_))
      · rfl
      refine xr_bipush a_Mod_request_57 (v := nI 6) (by decide +kernel) ?_
      refine xr_iload_n a_Mod_request_59 rfl ?_
      first | refine xn_imul a_Mod_request_60 ?_ | refine xr_imul a_Mod_request_60 ?_
      refine xr_iload_n a_Mod_request_61 rfl ?_
      first | refine xn_iadd a_Mod_request_62 ?_ | refine xr_iadd a_Mod_request_62 ?_
      apply xn_iaload a_Mod_request_63
      · (repeat' (first | assumption | exact va_up_self _ _ _ | refine x_lk (by omega) ?_))
      · omega
      · omega
      refine xr_invV a_Mod_request_64 (by (repeat' (first | assumption | exact va_up_self _ _ _ | refine x_lk (by omega) ?_))) (k2) rfl rfl (by omega) (by omega) (by omega) (Nat.le_of_ble_eq_true rfl) ?_
      rintro _ _ h1 ⟨rfl, rfl, rfl⟩
      refine xr_goto a_Mod_request_67 ?_
      refine xr_ls [(0, .ref m), (1, .int (nI dd)), (2, .int (nI k)), (3, .int (nI p)), (4, .int (nI x))] ⟨rfl, rfl, rfl, rfl, rfl, trivial⟩ ?_
      exact s74 x Y hx (if_pos z).symm
  refine xr_aload_n a_Mod_request_0 rfl ?_
  apply xr_getf a_Mod_request_1
  · (repeat' (first | assumption | exact va_up_self _ _ _ | refine x_lk (by omega) ?_))
  · rfl
  refine xr_bipush a_Mod_request_4 (v := nI 6) (by decide +kernel) ?_
  refine xr_iload_n a_Mod_request_6 rfl ?_
  first | refine xn_imul a_Mod_request_7 ?_ | refine xr_imul a_Mod_request_7 ?_
  refine xr_iload_n a_Mod_request_8 rfl ?_
  first | refine xn_iadd a_Mod_request_9 ?_ | refine xr_iadd a_Mod_request_9 ?_
  apply xo_iaload a_Mod_request_10
  · (repeat' (first | assumption | exact va_up_self _ _ _ | refine x_lk (by omega) ?_))
  · omega
  · omega
  rw [ep]
  refine xr_istore_n a_Mod_request_11 (by decide) rfl ?_
  refine xr_iload_n a_Mod_request_12 rfl ?_
  refine xr_iconst a_Mod_request_13 (v := nI 1) (by decide +kernel) ?_
  refine xr_iand a_Mod_request_14 ?_; rw [bp_and p hp4 1 (by omega), p_and1 p hp4]
  refine xr_iconst a_Mod_request_15 (v := nI 1) (by decide +kernel) ?_
  refine xn_icmp_ne a_Mod_request_16 (by omega) (by omega) (fun b16 => ?_) (fun b16 => ?_)
  · refine xr_bipush a_Mod_request_39 (v := nI 16) (by decide +kernel) ?_
    refine xr_ls [(0, .ref m), (1, .int (nI dd)), (2, .int (nI k)), (3, .int (nI p))] ⟨rfl, rfl, rfl, rfl, trivial⟩ ?_
    exact s41 16 (if_neg b16).symm
  · rw [hX b16] at k1
    refine xr_aload_n a_Mod_request_19 rfl ?_
    refine xr_iload_n a_Mod_request_20 rfl ?_
    refine xr_iload_n a_Mod_request_21 rfl ?_
    refine xr_aload_n a_Mod_request_22 rfl ?_
    apply xr_getf a_Mod_request_23
    · (repeat' (first | assumption | exact va_up_self _ _ _ | refine x_lk (by omega) ?_))
    · rfl
    refine xr_bipush a_Mod_request_26 (v := nI 6) (by decide +kernel) ?_
    refine xr_iload_n a_Mod_request_28 rfl ?_
    first | refine xn_imul a_Mod_request_29 ?_ | refine xr_imul a_Mod_request_29 ?_
    refine xr_iload_n a_Mod_request_30 rfl ?_
    first | refine xn_iadd a_Mod_request_31 ?_ | refine xr_iadd a_Mod_request_31 ?_
    apply xn_iaload a_Mod_request_32
    · (repeat' (first | assumption | exact va_up_self _ _ _ | refine x_lk (by omega) ?_))
    · omega
    · omega
    refine xr_invV a_Mod_request_33 (by (repeat' (first | assumption | exact va_up_self _ _ _ | refine x_lk (by omega) ?_))) (k1) rfl rfl (by omega) (by omega) (by omega) (Nat.le_of_ble_eq_true rfl) ?_
    rintro _ _ h1 ⟨rfl, rfl, rfl⟩
    refine xr_goto a_Mod_request_36 ?_
    refine xr_ls [(0, .ref m), (1, .int (nI dd)), (2, .int (nI k)), (3, .int (nI p))] ⟨rfl, rfl, rfl, rfl, trivial⟩ ?_
    exact s41 X (if_pos b16).symm
end T69e

