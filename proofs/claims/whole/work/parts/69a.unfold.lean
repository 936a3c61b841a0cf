/-! the reference: unfold -/
theorem vLs_drop {x : vAL} {i : Nat} (h : i < x.1) : (vLs x).drop i = (x.2.1 i, x.2.2.1 i, x.2.2.2 i) :: (vLs x).drop (i + 1) := by
  have hl : i < (vLs x).length := by rw [vLs_len]; exact h
  rw [List.drop_eq_getElem_cons hl]
  have e := (vLs_rep x).ix h
  rw [List.getElem?_eq_getElem hl] at e
  rw [Option.some.inj e]
theorem vLs_end (x : vAL) : (vLs x).drop x.1 = [] := List.drop_eq_nil_of_le (by rw [vLs_len]; exact Nat.le_refl _)
theorem vUnfL_nil (i : Nat) (rs : List (List vA)) : vUnfL i [] rs = [] := by cases rs <;> rfl
theorem up_off (f : Nat → Nat) (a n x : Nat) : (fun i => va_up f (a + n) x (a + i)) = va_up (fun i => f (a + i)) n x := by
  funext i
  unfold va_up
  by_cases h : i = n
  · rw [if_pos h, if_pos (by omega)]
  · rw [if_neg h, if_neg (by omega)]
theorem moD.app {l : List vA} {dd : Nat} {sz lR lA lB : Nat → Nat} (h : moD l dd sz lR lA lB) (r a b : Nat) : moD (l ++ [(r, a, b)]) dd (va_up sz dd (l.length + 1)) (va_up lR (6 * dd + l.length) r) (va_up lA (6 * dd + l.length) a) (va_up lB (6 * dd + l.length) b) := by
  have el : (l ++ [(r, a, b)]).length = l.length + 1 := by rw [List.length_append]; rfl
  refine ⟨by rw [up_self, el], ?_⟩
  rw [up_off, up_off, up_off, el]
  exact h.2.app (r, a, b)
section T69a
variable {d L : Nat} {xs : Nat → Int32} {n : Nat} {h : xH} {m : Nat} {ν : Nat → vVw} {κ : vAL} {ma stk ne rq tr : Nat} {sz lR lA lB : Nat → Nat} {pk : Nat → Option Nat}
theorem t_Mod_unfold {dd ch : Nat} (p0 : h m = cM m κ.1 ma stk ne rq tr) (pV : moV h m ν) (pQ : moQ h m κ) (p : moL h m sz lR lA lB pk) (hV : vSV ν) (hQ : vSQ κ) (hg : ∀ i, i < κ.1 → 0 < (ν (κ.2.1 i)).1) (hdd : dd < 8) (hch : ch < 100) (hd : 1 ≤ d) : XM d 0 0 k_Mod_unfold L xs [.ref m, .int (nI dd), .int (nI ch)] n h (qV n (fun h' => xfr (m + 14) (m + 18) h h' ∧ ∃ sz' lR' lA' lB', moL h' m sz' lR' lA' lB' pk ∧ moD (vUnfL 0 (vLs κ) (vPk (vVl ν) (vLs κ) ch)) dd sz' lR' lA' lB' ∧ (∀ i, i ≠ dd → sz' i = sz i) ∧ ∀ i, (i < 6 * dd ∨ 6 * dd + 6 ≤ i) → lR' i = lR i ∧ lA' i = lA i ∧ lB' i = lB i)) := by
  obtain ⟨ru, na, aR, aA, aB, c1, c2, c3, c4, c5, c6⟩ := pV
  obtain ⟨qQ, qA, qB, s1, s2, s3, s4⟩ := pQ
  have hk3 := hQ.1
  have hVi := vSV_iff.mp hV
  have dv : ∀ j, j < κ.1 → ch / vPr (vVl ν) ((vLs κ).drop (j + 1)) / (ν (κ.2.1 j)).1 = ch / vPr (vVl ν) ((vLs κ).drop j) := by
    intro j hj
    rw [vLs_drop hj, Nat.div_div_eq_div_mul, Nat.mul_comm]
    show _ = ch / ((vVl ν (κ.2.1 j)).length * vPr (vVl ν) ((vLs κ).drop (j + 1)))
    rw [vVl_len]
  refine XM.of rfl (Nat.le_of_ble_eq_true rfl) ?_
  have outer : ∀ (t i : Nat) (l : List vA) (h' : xH) (sz' lR' lA' lB' : Nat → Nat), i + t = κ.1 → l.length ≤ 2 * i → l ++ vUnfL i ((vLs κ).drop i) (vPk (vVl ν) ((vLs κ).drop i) ch) = vUnfL 0 (vLs κ) (vPk (vVl ν) (vLs κ) ch) → xfr (m + 14) (m + 18) h h' → moL h' m sz' lR' lA' lB' pk → moD l dd sz' lR' lA' lB' → (∀ i, i ≠ dd → sz' i = sz i) → (∀ i, (i < 6 * dd ∨ 6 * dd + 6 ≤ i) → lR' i = lR i ∧ lA' i = lA i ∧ lB' i = lB i) → XW (x_rm d 0 0) k_Mod_unfold L xs (x_mq 0 0 (qV n (fun h' => xfr (m + 14) (m + 18) h h' ∧ ∃ sz' lR' lA' lB', moL h' m sz' lR' lA' lB' pk ∧ moD (vUnfL 0 (vLs κ) (vPk (vVl ν) (vLs κ) ch)) dd sz' lR' lA' lB' ∧ (∀ i, i ≠ dd → sz' i = sz i) ∧ ∀ i, (i < 6 * dd ∨ 6 * dd + 6 ≤ i) → lR' i = lR i ∧ lA' i = lA i ∧ lB' i = lB i))) 0 0 9 [(0, .ref m), (1, .int (nI dd)), (2, .int (nI ch)), (3, .int (nI i))] [] n h' := by
    intro t
    induction t with
    | zero =>
      intro i l h' sz' lR' lA' lB' hi hl e f1 q2 q3 q4 q5
      have p0' := (f1 m (by omega)).trans p0
      have ei : i = κ.1 := by omega
      subst ei
      rw [vLs_end, vUnfL_nil, List.append_nil] at e
      refine xr_iload_n a_Mod_unfold_9 rfl ?_
      refine xr_aload_n a_Mod_unfold_10 rfl ?_
      apply xr_getf a_Mod_unfold_11
      · (repeat' (first | assumption | exact va_up_self _ _ _ | refine x_lk (by omega) ?_))
      · rfl
      refine xn_icmp_ge a_Mod_unfold_14 (by omega) (by omega) (fun b14 => ?_) (fun b14 => ?_)
      · refine xr_return a_Mod_unfold_214 rfl (by omega) (by omega) ?_
        refine ⟨rfl, rfl, f1, sz', lR', lA', lB', q2, ?_, q4, q5⟩
        rw [← e]
        exact q3
      · omega
    | succ t ih =>
      intro i l h' sz' lR' lA' lB' hi hl e f1 q2 q3 q4 q5
      have p0' := (f1 m (by omega)).trans p0
      have s1' := (f1 (m + 11) (by omega)).trans s1
      have c1' := (f1 (m + 6) (by omega)).trans c1
      have hik : i < κ.1 := by omega
      obtain ⟨k1, k2, k3⟩ := hQ.2 i hik
      obtain ⟨w1, w2, w3⟩ := s4 i (by omega)
      obtain ⟨r1, r2⟩ := c6 (κ.2.1 i) k1
      obtain ⟨n1, n2⟩ := hVi _ k1
      have n0 := hg i hik
      rw [vLs_drop hik] at e
      have e1 : l ++ ((vVl ν (κ.2.1 i)).getD (ch / vPr (vVl ν) ((vLs κ).drop (i + 1)) % (vVl ν (κ.2.1 i)).length) []).map (vUnfA i (κ.2.1 i, κ.2.2.1 i, κ.2.2.2 i)) ++ vUnfL (i + 1) ((vLs κ).drop (i + 1)) (vPk (vVl ν) ((vLs κ).drop (i + 1)) ch) = vUnfL 0 (vLs κ) (vPk (vVl ν) (vLs κ) ch) := by
        rw [List.append_assoc]
        exact e
      rw [vVl_len] at e1
      obtain ⟨x, hx⟩ : ∃ x, ch / vPr (vVl ν) ((vLs κ).drop (i + 1)) % (ν (κ.2.1 i)).1 = x := ⟨_, rfl⟩
      have hxl : x < (ν (κ.2.1 i)).1 := by rw [← hx]; exact Nat.mod_lt _ n0
      have gx : (vVl ν (κ.2.1 i)).getD x [] = vLs ((ν (κ.2.1 i)).2 x) := by rw [List.getD_eq_getElem?_getD, vVl_get hxl]; rfl
      rw [hx, gx] at e1
      obtain ⟨u1, u2⟩ := r2 x (by omega)
      obtain ⟨a2, a3⟩ := n2 x hxl
      have atoms : ∀ (y kk : Nat) (l2 : List vA) (h2 : xH) (sz2 lR2 lA2 lB2 : Nat → Nat), kk + y = ((ν (κ.2.1 i)).2 x).1 → l2.length ≤ 2 * i + kk → l2 ++ ((vLs ((ν (κ.2.1 i)).2 x)).drop kk).map (vUnfA i (κ.2.1 i, κ.2.2.1 i, κ.2.2.2 i)) ++ vUnfL (i + 1) ((vLs κ).drop (i + 1)) (vPk (vVl ν) ((vLs κ).drop (i + 1)) ch) = vUnfL 0 (vLs κ) (vPk (vVl ν) (vLs κ) ch) → xfr (m + 14) (m + 18) h h2 → moL h2 m sz2 lR2 lA2 lB2 pk → moD l2 dd sz2 lR2 lA2 lB2 → (∀ i, i ≠ dd → sz2 i = sz i) → (∀ i, (i < 6 * dd ∨ 6 * dd + 6 ≤ i) → lR2 i = lR i ∧ lA2 i = lA i ∧ lB2 i = lB i) → XW (x_rm d 0 0) k_Mod_unfold L xs (x_mq 0 0 (qV n (fun h' => xfr (m + 14) (m + 18) h h' ∧ ∃ sz' lR' lA' lB', moL h' m sz' lR' lA' lB' pk ∧ moD (vUnfL 0 (vLs κ) (vPk (vVl ν) (vLs κ) ch)) dd sz' lR' lA' lB' ∧ (∀ i, i ≠ dd → sz' i = sz i) ∧ ∀ i, (i < 6 * dd ∨ 6 * dd + 6 ≤ i) → lR' i = lR i ∧ lA' i = lA i ∧ lB' i = lB i))) 0 0 88 [(0, .ref m), (1, .int (nI dd)), (2, .int (nI ch)), (3, .int (nI i)), (5, .int (nI (2 * κ.2.1 i + x))), (6, .int (nI (2 * (2 * κ.2.1 i + x) + kk)))] [] n h2 := by
        intro y
        induction y with
        | zero =>
          intro kk l2 h2 sz2 lR2 lA2 lB2 hk hl2 e2 f2 q2 q3 q4 q5
          have p02 := (f2 m (by omega)).trans p0
          have c2' := (f2 (m + 7) (by omega)).trans c2
          have ek : kk = ((ν (κ.2.1 i)).2 x).1 := by omega
          rw [ek, vLs_end, List.map_nil, List.append_nil] at e2
          refine xr_iload a_Mod_unfold_88 rfl ?_
          refine xr_iconst a_Mod_unfold_90 (v := nI 2) (by decide +kernel) ?_
          refine xr_iload a_Mod_unfold_91 rfl ?_
          first | refine xn_imul a_Mod_unfold_93 ?_ | refine xr_imul a_Mod_unfold_93 ?_
          refine xr_aload_n a_Mod_unfold_94 rfl ?_
          apply xr_getf a_Mod_unfold_95
          · (repeat' (first | assumption | exact va_up_self _ _ _ | refine x_lk (by omega) ?_))
          · rfl
          refine xr_iload a_Mod_unfold_98 rfl ?_
          apply xn_iaload a_Mod_unfold_100
          · (repeat' (first | assumption | exact va_up_self _ _ _ | refine x_lk (by omega) ?_))
          · omega
          · omega
          rw [u1]
          first | refine xn_iadd a_Mod_unfold_101 ?_ | refine xr_iadd a_Mod_unfold_101 ?_
          refine xn_icmp_ge a_Mod_unfold_102 (by omega) (by omega) (fun b102 => ?_) (fun b102 => ?_)
          · first | refine xn_iinc a_Mod_unfold_208 rfl (by decide) rfl ?_ | refine xr_iinc a_Mod_unfold_208 rfl rfl (by decide) rfl ?_
            refine xr_goto a_Mod_unfold_211 ?_
            refine xr_ls [(0, .ref m), (1, .int (nI dd)), (2, .int (nI ch)), (3, .int (nI (i + 1)))] ⟨rfl, rfl, rfl, rfl, trivial⟩ ?_
            exact ih (i + 1) l2 h2 sz2 lR2 lA2 lB2 (by omega) (by omega) e2 f2 q2 q3 q4 q5
          · omega
        | succ y ihy =>
          intro kk l2 h2 sz2 lR2 lA2 lB2 hk hl2 e2 f2 q2 q3 q4 q5
          have hkk : kk < ((ν (κ.2.1 i)).2 x).1 := by omega
          have p02 := (f2 m (by omega)).trans p0
          have c2' := (f2 (m + 7) (by omega)).trans c2
          have c3' := (f2 (m + 8) (by omega)).trans c3
          have c4' := (f2 (m + 9) (by omega)).trans c4
          have c5' := (f2 (m + 10) (by omega)).trans c5
          have s2' := (f2 (m + 12) (by omega)).trans s2
          have s3' := (f2 (m + 13) (by omega)).trans s3
          obtain ⟨t0, t1, t2, t3, t4⟩ := q2
          obtain ⟨b1, b2, b3⟩ := a3 kk hkk
          obtain ⟨y1, y2, y3⟩ := u2 kk (by omega)
          have es := q3.1
          rw [vLs_drop hkk, List.map_cons] at e2
          have e3 : (l2 ++ [vUnfA i (κ.2.1 i, κ.2.2.1 i, κ.2.2.2 i) (((ν (κ.2.1 i)).2 x).2.1 kk, ((ν (κ.2.1 i)).2 x).2.2.1 kk, ((ν (κ.2.1 i)).2 x).2.2.2 kk)]) ++ ((vLs ((ν (κ.2.1 i)).2 x)).drop (kk + 1)).map (vUnfA i (κ.2.1 i, κ.2.2.1 i, κ.2.2.2 i)) ++ vUnfL (i + 1) ((vLs κ).drop (i + 1)) (vPk (vVl ν) ((vLs κ).drop (i + 1)) ch) = vUnfL 0 (vLs κ) (vPk (vVl ν) (vLs κ) ch) := by
            rw [← e2]
            simp only [List.append_assoc, List.cons_append, List.nil_append]
          have cA := t_Mod_changed (d := 0) (L := L) (xs := xs) (n := n) (t := ((ν (κ.2.1 i)).2 x).2.2.1 kk) (i := i) (a := κ.2.2.1 i) (b := κ.2.2.2 i) (h := va_up h2 (m + 15) (cI 48 (va_up lR2 (6 * dd + l2.length) (((ν (κ.2.1 i)).2 x).2.1 kk)))) (by omega) (by omega)
          refine xr_iload a_Mod_unfold_88 rfl ?_
          refine xr_iconst a_Mod_unfold_90 (v := nI 2) (by decide +kernel) ?_
          refine xr_iload a_Mod_unfold_91 rfl ?_
          first | refine xn_imul a_Mod_unfold_93 ?_ | refine xr_imul a_Mod_unfold_93 ?_
          refine xr_aload_n a_Mod_unfold_94 rfl ?_
          apply xr_getf a_Mod_unfold_95
          · (repeat' (first | assumption | exact va_up_self _ _ _ | refine x_lk (by omega) ?_))
          · rfl
          refine xr_iload a_Mod_unfold_98 rfl ?_
          apply xn_iaload a_Mod_unfold_100
          · (repeat' (first | assumption | exact va_up_self _ _ _ | refine x_lk (by omega) ?_))
          · omega
          · omega
          rw [u1]
          first | refine xn_iadd a_Mod_unfold_101 ?_ | refine xr_iadd a_Mod_unfold_101 ?_
          refine xn_icmp_ge a_Mod_unfold_102 (by omega) (by omega) (fun b102 => ?_) (fun b102 => ?_)
          · omega
          · refine xr_bipush a_Mod_unfold_105 (v := nI 6) (by decide +kernel) ?_
            refine xr_iload_n a_Mod_unfold_107 rfl ?_
            first | refine xn_imul a_Mod_unfold_108 ?_ | refine xr_imul a_Mod_unfold_108 ?_
            refine xr_aload_n a_Mod_unfold_109 rfl ?_
            apply xr_getf a_Mod_unfold_110
            · (repeat' (first | assumption | exact va_up_self _ _ _ | refine x_lk (by omega) ?_))
            · rfl
            refine xr_iload_n a_Mod_unfold_113 rfl ?_
            apply xn_iaload a_Mod_unfold_114
            · (repeat' (first | assumption | exact va_up_self _ _ _ | refine x_lk (by omega) ?_))
            · omega
            · omega
            rw [es]
            first | refine xn_iadd a_Mod_unfold_115 ?_ | refine xr_iadd a_Mod_unfold_115 ?_
            refine xr_istore a_Mod_unfold_116 (by decide) rfl ?_
            refine xr_aload_n a_Mod_unfold_118 rfl ?_
            apply xr_getf a_Mod_unfold_119
            · (repeat' (first | assumption | exact va_up_self _ _ _ | refine x_lk (by omega) ?_))
            · rfl
            refine xr_iload a_Mod_unfold_122 rfl ?_
            refine xr_aload_n a_Mod_unfold_124 rfl ?_
            apply xr_getf a_Mod_unfold_125
            · (repeat' (first | assumption | exact va_up_self _ _ _ | refine x_lk (by omega) ?_))
            · rfl
            refine xr_iload a_Mod_unfold_128 rfl ?_
            apply xn_iaload a_Mod_unfold_130
            · (repeat' (first | assumption | exact va_up_self _ _ _ | refine x_lk (by omega) ?_))
            · omega
            · omega
            rw [y1]
            apply xn_iastore a_Mod_unfold_131
            · (repeat' (first | assumption | exact va_up_self _ _ _ | refine x_lk (by omega) ?_))
            · omega
            · omega
            refine xr_aload_n a_Mod_unfold_132 rfl ?_
            apply xr_getf a_Mod_unfold_133
            · (repeat' (first | assumption | exact va_up_self _ _ _ | refine x_lk (by omega) ?_))
            · rfl
            refine xr_iload a_Mod_unfold_136 rfl ?_
            refine xr_aload_n a_Mod_unfold_138 rfl ?_
            apply xr_getf a_Mod_unfold_139
            · (repeat' (first | assumption | exact va_up_self _ _ _ | refine x_lk (by omega) ?_))
            · rfl
            refine xr_iload a_Mod_unfold_142 rfl ?_
            apply xn_iaload a_Mod_unfold_144
            · (repeat' (first | assumption | exact va_up_self _ _ _ | refine x_lk (by omega) ?_))
            · omega
            · omega
            rw [y2]
            refine xr_iload_n a_Mod_unfold_145 rfl ?_
            refine xr_aload_n a_Mod_unfold_146 rfl ?_
            apply xr_getf a_Mod_unfold_147
            · (repeat' (first | assumption | exact va_up_self _ _ _ | refine x_lk (by omega) ?_))
            · rfl
            refine xr_iload_n a_Mod_unfold_150 rfl ?_
            apply xn_iaload a_Mod_unfold_151
            · (repeat' (first | assumption | exact va_up_self _ _ _ | refine x_lk (by omega) ?_))
            · omega
            · omega
            rw [w2]
            refine xr_aload_n a_Mod_unfold_152 rfl ?_
            apply xr_getf a_Mod_unfold_153
            · (repeat' (first | assumption | exact va_up_self _ _ _ | refine x_lk (by omega) ?_))
            · rfl
            refine xr_iload_n a_Mod_unfold_156 rfl ?_
            apply xn_iaload a_Mod_unfold_157
            · (repeat' (first | assumption | exact va_up_self _ _ _ | refine x_lk (by omega) ?_))
            · omega
            · omega
            rw [w3]
            refine xr_invS a_Mod_unfold_158 (cA) rfl rfl (by omega) (by omega) (by omega) (Nat.le_of_ble_eq_true rfl) ?_
            rintro _ _ h1 ⟨rfl, rfl, rfl⟩
            apply xn_iastore a_Mod_unfold_161
            · (repeat' (first | assumption | exact va_up_self _ _ _ | refine x_lk (by omega) ?_))
            · omega
            · omega
            refine xr_aload_n a_Mod_unfold_162 rfl ?_
            apply xr_getf a_Mod_unfold_163
            · (repeat' (first | assumption | exact va_up_self _ _ _ | refine x_lk (by omega) ?_))
            · rfl
            refine xr_iload a_Mod_unfold_166 rfl ?_
            refine xr_aload_n a_Mod_unfold_168 rfl ?_
            apply xr_getf a_Mod_unfold_169
            · (repeat' (first | assumption | exact va_up_self _ _ _ | refine x_lk (by omega) ?_))
            · rfl
            refine xr_iload a_Mod_unfold_172 rfl ?_
            apply xn_iaload a_Mod_unfold_174
            · (repeat' (first | assumption | exact va_up_self _ _ _ | refine x_lk (by omega) ?_))
            · omega
            · omega
            rw [y3]
            refine xr_iload_n a_Mod_unfold_175 rfl ?_
            refine xr_aload_n a_Mod_unfold_176 rfl ?_
            apply xr_getf a_Mod_unfold_177
            · (repeat' (first | assumption | exact va_up_self _ _ _ | refine x_lk (by omega) ?_))
            · rfl
            refine xr_iload_n a_Mod_unfold_180 rfl ?_
            apply xn_iaload a_Mod_unfold_181
            · (repeat' (first | assumption | exact va_up_self _ _ _ | refine x_lk (by omega) ?_))
            · omega
            · omega
            rw [w2]
            refine xr_aload_n a_Mod_unfold_182 rfl ?_
            apply xr_getf a_Mod_unfold_183
            · (repeat' (first | assumption | exact va_up_self _ _ _ | refine x_lk (by omega) ?_))
            · rfl
            refine xr_iload_n a_Mod_unfold_186 rfl ?_
            apply xn_iaload a_Mod_unfold_187
            · (repeat' (first | assumption | exact va_up_self _ _ _ | refine x_lk (by omega) ?_))
            · omega
            · omega
            rw [w3]
            refine xr_invS a_Mod_unfold_188 (t_Mod_changed (d := 0) (t := ((ν (κ.2.1 i)).2 x).2.2.2 kk) (i := i) (a := κ.2.2.1 i) (b := κ.2.2.2 i) (by omega) (by omega)) rfl rfl (by omega) (by omega) (by omega) (Nat.le_of_ble_eq_true rfl) ?_
            rintro _ _ h1 ⟨rfl, rfl, rfl⟩
            apply xn_iastore a_Mod_unfold_191
            · (repeat' (first | assumption | exact va_up_self _ _ _ | refine x_lk (by omega) ?_))
            · omega
            · omega
            refine xr_aload_n a_Mod_unfold_192 rfl ?_
            apply xr_getf a_Mod_unfold_193
            · (repeat' (first | assumption | exact va_up_self _ _ _ | refine x_lk (by omega) ?_))
            · rfl
            refine xr_iload_n a_Mod_unfold_196 rfl ?_
            refine xr_dup2 a_Mod_unfold_197 rfl rfl ?_
            apply xn_iaload a_Mod_unfold_198
            · (repeat' (first | assumption | exact va_up_self _ _ _ | refine x_lk (by omega) ?_))
            · omega
            · omega
            rw [es]
            refine xr_iconst a_Mod_unfold_199 (v := nI 1) (by decide +kernel) ?_
            first | refine xn_iadd a_Mod_unfold_200 ?_ | refine xr_iadd a_Mod_unfold_200 ?_
            apply xn_iastore a_Mod_unfold_201
            · (repeat' (first | assumption | exact va_up_self _ _ _ | refine x_lk (by omega) ?_))
            · omega
            · omega
            first | refine xn_iinc a_Mod_unfold_202 rfl (by decide) rfl ?_ | refine xr_iinc a_Mod_unfold_202 rfl rfl (by decide) rfl ?_
            refine xr_goto a_Mod_unfold_205 ?_
            refine xr_ls [(0, .ref m), (1, .int (nI dd)), (2, .int (nI ch)), (3, .int (nI i)), (5, .int (nI (2 * κ.2.1 i + x))), (6, .int (nI (2 * (2 * κ.2.1 i + x) + (kk + 1))))] ⟨rfl, rfl, rfl, rfl, rfl, rfl, trivial⟩ ?_
            refine ihy (kk + 1) _ _ _ _ _ _ (by omega) ?_ e3 ?_ ⟨by (repeat' (first | assumption | exact va_up_self _ _ _ | refine x_lk (by omega) ?_)), by (repeat' (first | assumption | exact va_up_self _ _ _ | refine x_lk (by omega) ?_)), by (repeat' (first | assumption | exact va_up_self _ _ _ | refine x_lk (by omega) ?_)), by (repeat' (first | assumption | exact va_up_self _ _ _ | refine x_lk (by omega) ?_)), by (repeat' (first | assumption | exact va_up_self _ _ _ | refine x_lk (by omega) ?_))⟩ (q3.app _ _ _) (fun i hi => by rw [up_ne hi]; exact q4 i hi) (fun i hi => ?_)
            · rw [List.length_append]
              show l2.length + 1 ≤ _
              omega
            · repeat' (first | exact f2 | refine xfr.up ?_ (by omega) (by omega))
            · rw [up_ne (by omega), up_ne (by omega), up_ne (by omega)]
              exact q5 i hi
      have main : XW (x_rm d 0 0) k_Mod_unfold L xs (x_mq 0 0 (qV n (fun h' => xfr (m + 14) (m + 18) h h' ∧ ∃ sz' lR' lA' lB', moL h' m sz' lR' lA' lB' pk ∧ moD (vUnfL 0 (vLs κ) (vPk (vVl ν) (vLs κ) ch)) dd sz' lR' lA' lB' ∧ (∀ i, i ≠ dd → sz' i = sz i) ∧ ∀ i, (i < 6 * dd ∨ 6 * dd + 6 ≤ i) → lR' i = lR i ∧ lA' i = lA i ∧ lB' i = lB i))) 0 0 57 [(0, .ref m), (1, .int (nI dd)), (2, .int (nI ch)), (3, .int (nI i)), (4, .int (nI (ch / vPr (vVl ν) ((vLs κ).drop (i + 1)))))] [] n h' := by
        have hb := Nat.div_le_self ch (vPr (vVl ν) ((vLs κ).drop (i + 1)))
        refine xr_iconst a_Mod_unfold_57 (v := nI 2) (by decide +kernel) ?_
        refine xr_aload_n a_Mod_unfold_58 rfl ?_
        apply xr_getf a_Mod_unfold_59
        · (repeat' (first | assumption | exact va_up_self _ _ _ | refine x_lk (by omega) ?_))
        · rfl
        refine xr_iload_n a_Mod_unfold_62 rfl ?_
        apply xn_iaload a_Mod_unfold_63
        · (repeat' (first | assumption | exact va_up_self _ _ _ | refine x_lk (by omega) ?_))
        · omega
        · omega
        rw [w1]
        first | refine xn_imul a_Mod_unfold_64 ?_ | refine xr_imul a_Mod_unfold_64 ?_
        refine xr_iload a_Mod_unfold_65 rfl ?_
        refine xr_aload_n a_Mod_unfold_67 rfl ?_
        apply xr_getf a_Mod_unfold_68
        · (repeat' (first | assumption | exact va_up_self _ _ _ | refine x_lk (by omega) ?_))
        · rfl
        refine xr_aload_n a_Mod_unfold_71 rfl ?_
        apply xr_getf a_Mod_unfold_72
        · (repeat' (first | assumption | exact va_up_self _ _ _ | refine x_lk (by omega) ?_))
        · rfl
        refine xr_iload_n a_Mod_unfold_75 rfl ?_
        apply xn_iaload a_Mod_unfold_76
        · (repeat' (first | assumption | exact va_up_self _ _ _ | refine x_lk (by omega) ?_))
        · omega
        · omega
        rw [w1]
        apply xn_iaload a_Mod_unfold_77
        · (repeat' (first | assumption | exact va_up_self _ _ _ | refine x_lk (by omega) ?_))
        · omega
        · omega
        rw [r1]
        refine xn_irem a_Mod_unfold_78 (by omega) (by omega) (by omega) ?_
        rw [hx]
        first | refine xn_iadd a_Mod_unfold_79 ?_ | refine xr_iadd a_Mod_unfold_79 ?_
        refine xr_istore a_Mod_unfold_80 (by decide) rfl ?_
        refine xr_iconst a_Mod_unfold_82 (v := nI 2) (by decide +kernel) ?_
        refine xr_iload a_Mod_unfold_83 rfl ?_
        first | refine xn_imul a_Mod_unfold_85 ?_ | refine xr_imul a_Mod_unfold_85 ?_
        refine xr_istore a_Mod_unfold_86 (by decide) rfl ?_
        refine xr_ls [(0, .ref m), (1, .int (nI dd)), (2, .int (nI ch)), (3, .int (nI i)), (5, .int (nI (2 * κ.2.1 i + x))), (6, .int (nI (2 * (2 * κ.2.1 i + x) + 0)))] ⟨rfl, rfl, rfl, rfl, rfl, rfl, trivial⟩ ?_
        exact atoms ((ν (κ.2.1 i)).2 x).1 0 l h' sz' lR' lA' lB' (by omega) (by omega) e1 f1 q2 q3 q4 q5
      have divs : ∀ u, i + u < κ.1 → XW (x_rm d 0 0) k_Mod_unfold L xs (x_mq 0 0 (qV n (fun h' => xfr (m + 14) (m + 18) h h' ∧ ∃ sz' lR' lA' lB', moL h' m sz' lR' lA' lB' pk ∧ moD (vUnfL 0 (vLs κ) (vPk (vVl ν) (vLs κ) ch)) dd sz' lR' lA' lB' ∧ (∀ i, i ≠ dd → sz' i = sz i) ∧ ∀ i, (i < 6 * dd ∨ 6 * dd + 6 ≤ i) → lR' i = lR i ∧ lA' i = lA i ∧ lB' i = lB i))) 0 0 28 [(0, .ref m), (1, .int (nI dd)), (2, .int (nI ch)), (3, .int (nI i)), (4, .int (nI (ch / vPr (vVl ν) ((vLs κ).drop (i + u + 1))))), (5, .int (nI (i + u)))] [] n h' := by
        intro u
        induction u with
        | zero =>
          intro hu
          refine xr_iload a_Mod_unfold_28 rfl ?_
          refine xr_iload_n a_Mod_unfold_30 rfl ?_
          refine xn_icmp_le a_Mod_unfold_31 (by omega) (by omega) (fun b31 => ?_) (fun b31 => ?_)
          · refine xr_ls [(0, .ref m), (1, .int (nI dd)), (2, .int (nI ch)), (3, .int (nI i)), (4, .int (nI (ch / vPr (vVl ν) ((vLs κ).drop (i + 1)))))] ⟨rfl, rfl, rfl, rfl, rfl, trivial⟩ ?_
            exact main
          · omega
        | succ u ihu =>
          intro hu
          have hju : i + u + 1 < κ.1 := by omega
          have hb := Nat.div_le_self ch (vPr (vVl ν) ((vLs κ).drop (i + u + 1 + 1)))
          have ju := (hQ.2 _ hju).1
          have g1 := (c6 _ ju).1
          have g2 := (hVi _ ju).1
          have g3 := hg _ hju
          refine xr_iload a_Mod_unfold_28 rfl ?_
          refine xr_iload_n a_Mod_unfold_30 rfl ?_
          refine xn_icmp_le a_Mod_unfold_31 (by omega) (by omega) (fun b31 => ?_) (fun b31 => ?_)
          · omega
          · refine xr_iload a_Mod_unfold_34 rfl ?_
            refine xr_aload_n a_Mod_unfold_36 rfl ?_
            apply xr_getf a_Mod_unfold_37
            · (repeat' (first | assumption | exact va_up_self _ _ _ | refine x_lk (by omega) ?_))
            · rfl
            refine xr_aload_n a_Mod_unfold_40 rfl ?_
            apply xr_getf a_Mod_unfold_41
            · (repeat' (first | assumption | exact va_up_self _ _ _ | refine x_lk (by omega) ?_))
            · rfl
            refine xr_iload a_Mod_unfold_44 rfl ?_
            apply xn_iaload a_Mod_unfold_46
            · (repeat' (first | assumption | exact va_up_self _ _ _ | refine x_lk (by omega) ?_))
            · omega
            · omega
            rw [show i + (u + 1) = i + u + 1 from rfl, (s4 (i + u + 1) (by omega)).1]
            apply xn_iaload a_Mod_unfold_47
            · (repeat' (first | assumption | exact va_up_self _ _ _ | refine x_lk (by omega) ?_))
            · omega
            · omega
            rw [g1]
            refine xn_idiv a_Mod_unfold_48 (by omega) (by omega) (by omega) ?_
            rw [dv (i + u + 1) hju]
            refine xr_istore a_Mod_unfold_49 (by decide) rfl ?_
            first | refine xn_idec a_Mod_unfold_51 rfl (by decide) rfl ?_ | refine xr_iinc a_Mod_unfold_51 rfl rfl (by decide) rfl ?_
            refine xr_goto a_Mod_unfold_54 ?_
            refine xr_ls [(0, .ref m), (1, .int (nI dd)), (2, .int (nI ch)), (3, .int (nI i)), (4, .int (nI (ch / vPr (vVl ν) ((vLs κ).drop (i + u + 1))))), (5, .int (nI (i + u)))] ⟨rfl, rfl, rfl, rfl, rfl, rfl, trivial⟩ ?_
            exact ihu (by omega)
      have start := divs (κ.1 - 1 - i) (by omega)
      rw [show i + (κ.1 - 1 - i) = κ.1 - 1 by omega, show κ.1 - 1 + 1 = κ.1 by omega, vLs_end, show vPr (vVl ν) [] = 1 from rfl, Nat.div_one] at start
      refine xr_iload_n a_Mod_unfold_9 rfl ?_
      refine xr_aload_n a_Mod_unfold_10 rfl ?_
      apply xr_getf a_Mod_unfold_11
      · (repeat' (first | assumption | exact va_up_self _ _ _ | refine x_lk (by omega) ?_))
      · rfl
      refine xn_icmp_ge a_Mod_unfold_14 (by omega) (by omega) (fun b14 => ?_) (fun b14 => ?_)
      · omega
      · refine xr_iload_n a_Mod_unfold_17 rfl ?_
        refine xr_istore a_Mod_unfold_18 (by decide) rfl ?_
        refine xr_aload_n a_Mod_unfold_20 rfl ?_
        apply xr_getf a_Mod_unfold_21
        · (repeat' (first | assumption | exact va_up_self _ _ _ | refine x_lk (by omega) ?_))
        · rfl
        refine xr_iconst a_Mod_unfold_24 (v := nI 1) (by decide +kernel) ?_
        first | refine xn_isub a_Mod_unfold_25 (by omega) ?_ | refine xr_isub a_Mod_unfold_25 ?_
        refine xr_istore a_Mod_unfold_26 (by decide) rfl ?_
        refine xr_ls [(0, .ref m), (1, .int (nI dd)), (2, .int (nI ch)), (3, .int (nI i)), (4, .int (nI ch)), (5, .int (nI (κ.1 - 1)))] ⟨rfl, rfl, rfl, rfl, rfl, rfl, trivial⟩ ?_
        exact start
  obtain ⟨t0, t1, t2, t3, t4⟩ := p
  refine xr_aload_n a_Mod_unfold_0 rfl ?_
  apply xr_getf a_Mod_unfold_1
  · (repeat' (first | assumption | exact va_up_self _ _ _ | refine x_lk (by omega) ?_))
  · rfl
  refine xr_iload_n a_Mod_unfold_4 rfl ?_
  refine xr_iconst a_Mod_unfold_5 (v := nI 0) (by decide +kernel) ?_
  apply xn_iastore a_Mod_unfold_6
  · (repeat' (first | assumption | exact va_up_self _ _ _ | refine x_lk (by omega) ?_))
  · omega
  · omega
  refine xr_iconst a_Mod_unfold_7 (v := nI 0) (by decide +kernel) ?_
  refine xr_istore_n a_Mod_unfold_8 (by decide) rfl ?_
  refine xr_ls [(0, .ref m), (1, .int (nI dd)), (2, .int (nI ch)), (3, .int (nI 0))] ⟨rfl, rfl, rfl, rfl, trivial⟩ ?_
  refine outer κ.1 0 [] _ _ lR lA lB (by omega) (Nat.zero_le _) rfl (xfr.rf.up (by omega) (by omega)) ⟨up_self _ _ _, x_lk (by omega) t1, x_lk (by omega) t2, x_lk (by omega) t3, x_lk (by omega) t4⟩ ⟨up_self _ _ _, vRep.nil⟩ (fun i hi => up_ne hi) (fun _ _ => ⟨rfl, rfl, rfl⟩)
end T69a

