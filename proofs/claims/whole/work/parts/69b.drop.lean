/-! the reference: drop -/
def vCp (f : Nat → Nat) (a b k : Nat) : Nat → Nat := fun i => if a ≤ i ∧ i < a + k then f (b + (i - a)) else f i
theorem vCp_0 (f : Nat → Nat) (a b : Nat) : vCp f a b 0 = f := funext fun i => if_neg (by omega)
theorem vCp_s (f : Nat → Nat) {a b k : Nat} (h : a = b ∨ a + k ≤ b) : va_up (vCp f a b k) (a + k) (vCp f a b k (b + k)) = vCp f a b (k + 1) := by
  have e : vCp f a b k (b + k) = f (b + k) := if_neg (by omega)
  rw [e]
  funext i
  unfold va_up
  by_cases hi : i = a + k
  · rw [if_pos hi]
    show _ = if a ≤ i ∧ i < a + (k + 1) then f (b + (i - a)) else f i
    rw [if_pos (by omega)]
    exact congrArg f (by omega)
  · rw [if_neg hi]
    show (if a ≤ i ∧ i < a + k then f (b + (i - a)) else f i) = if a ≤ i ∧ i < a + (k + 1) then f (b + (i - a)) else f i
    by_cases h2 : a ≤ i ∧ i < a + k
    · rw [if_pos h2, if_pos (by omega)]
    · rw [if_neg h2, if_neg (by omega)]
theorem vCp_in (f : Nat → Nat) {a b k j : Nat} (h : j < k) : vCp f a b k (a + j) = f (b + j) := by
  show (if a ≤ a + j ∧ a + j < a + k then f (b + (a + j - a)) else f (a + j)) = _
  rw [if_pos (by omega)]
  exact congrArg f (by omega)
theorem vCp_out (f : Nat → Nat) {a b k i : Nat} (h : i < a ∨ a + k ≤ i) : vCp f a b k i = f i := if_neg (by omega)
theorem vRep.c {l : List vA} {n : Nat} {H F S H' F' S' : Nat → Nat} (h : vRep l n H F S) (e : ∀ j, j < n → H' j = H j ∧ F' j = F j ∧ S' j = S j) : vRep l n H' F' S' := by
  refine ⟨h.1, fun j a ha => ?_⟩
  have hj : j < n := by rw [h.1]; exact (List.getElem?_eq_some_iff.mp ha).1
  obtain ⟨e1, e2, e3⟩ := e j hj
  rw [e1, e2, e3]
  exact h.2 j a ha
theorem moD.c {l : List vA} {dd dd' : Nat} {sz lR lA lB sz' lR' lA' lB' : Nat → Nat} (h : moD l dd sz lR lA lB) (e0 : sz' dd' = sz dd) (e : ∀ j, j < l.length → lR' (6 * dd' + j) = lR (6 * dd + j) ∧ lA' (6 * dd' + j) = lA (6 * dd + j) ∧ lB' (6 * dd' + j) = lB (6 * dd + j)) : moD l dd' sz' lR' lA' lB' := ⟨e0.trans h.1, h.2.c e⟩
def vKf (fl : Nat → Bool) (i : Nat) : List Nat := (List.range i).filter fun j => !fl j
theorem vKf_s (fl : Nat → Bool) (i : Nat) : vKf fl (i + 1) = if fl i = true then vKf fl i else vKf fl i ++ [i] := by
  unfold vKf
  rw [List.range_succ, List.filter_append]
  cases h : fl i <;> simp [h]
theorem vKf_le (fl : Nat → Bool) (i : Nat) : (vKf fl i).length ≤ i := by
  have h1 : (vKf fl i).length ≤ (List.range i).length := List.length_filter_le _ _
  rw [List.length_range] at h1
  exact h1
theorem vKf_lt {fl : Nat → Bool} {i j k : Nat} (h : (vKf fl i)[j]? = some k) : k < i ∧ fl k = false := by
  have := List.mem_of_getElem? h
  unfold vKf at this
  have h2 := List.mem_filter.mp this
  exact ⟨List.mem_range.mp h2.1, by simpa using h2.2⟩
theorem vCov_s {Ds : Nat → List vA} {e : Nat} {fl : Nat → Bool} {d : Nat} : vCov Ds (e + 1) fl d ↔ vCov Ds e fl d ∨ (e ≠ d ∧ fl e = false ∧ vMaps (Ds e) (Ds d)) := by
  constructor
  · rintro ⟨x, h1, h2, h3, h4⟩
    by_cases hx : x = e
    · subst hx; exact Or.inr ⟨h2, h3, h4⟩
    · exact Or.inl ⟨x, by omega, h2, h3, h4⟩
  · rintro (⟨x, h1, h2, h3, h4⟩ | ⟨h2, h3, h4⟩)
    · exact ⟨x, by omega, h2, h3, h4⟩
    · exact ⟨e, by omega, h2, h3, h4⟩
section T69b
variable {d L : Nat} {xs : Nat → Int32} {n : Nat} {h : xH} {m : Nat} {as cnt stk ne rq tr : Nat} {sz lR lA lB dr : Nat → Nat} {pk : Nat → Option Nat} {Ds : Nat → List vA}
theorem t_Mod_drop (p0 : h m = cM m as cnt stk ne rq tr) (p : moL h m sz lR lA lB pk) (pd : h (m + 19) = cB 8 dr) (hc : cnt ≤ 8) (hD : ∀ i, i < cnt → moD (Ds i) i sz lR lA lB) (hB : ∀ i, i < cnt → 1 ≤ (Ds i).length ∧ (Ds i).length ≤ 6 ∧ vBdL (Ds i)) (hd : 2 ≤ d) : XM d 0 0 k_Mod_drop L xs [.ref m] n h (qV n (fun h' => xfr2 m (m + 1) (m + 14) (m + 21) h h' ∧ h' (m + 18) = h (m + 18) ∧ h' m = cM m as (vKf (vFl Ds cnt cnt) cnt).length stk ne rq tr ∧ ∃ sz' lR' lA' lB' dr' pk', moL h' m sz' lR' lA' lB' pk' ∧ h' (m + 19) = cB 8 dr' ∧ ∀ j k, (vKf (vFl Ds cnt cnt) cnt)[j]? = some k → moD (Ds k) j sz' lR' lA' lB')) := by
  refine XM.of rfl (Nat.le_of_ble_eq_true rfl) ?_
  -- the lists are closed up
  have close : ∀ (q i : Nat) (h' : xH) (sz' lR' lA' lB' dr' : Nat → Nat) (pk' : Nat → Option Nat), i + q = cnt → xfr2 (m + 14) (m + 18) (m + 19) (m + 21) h h' → moL h' m sz' lR' lA' lB' pk' → h' (m + 19) = cB 8 dr' → (∀ j, j < cnt → dr' j = (vFl Ds cnt cnt j).toNat) → (∀ j k, (vKf (vFl Ds cnt cnt) i)[j]? = some k → moD (Ds k) j sz' lR' lA' lB') → (∀ e, i ≤ e → e < cnt → moD (Ds e) e sz' lR' lA' lB') → XW (x_rm d 0 0) k_Mod_drop L xs (x_mq 0 0 (qV n (fun h' => xfr2 m (m + 1) (m + 14) (m + 21) h h' ∧ h' (m + 18) = h (m + 18) ∧ h' m = cM m as (vKf (vFl Ds cnt cnt) cnt).length stk ne rq tr ∧ ∃ sz' lR' lA' lB' dr' pk', moL h' m sz' lR' lA' lB' pk' ∧ h' (m + 19) = cB 8 dr' ∧ ∀ j k, (vKf (vFl Ds cnt cnt) cnt)[j]? = some k → moD (Ds k) j sz' lR' lA' lB'))) 0 0 102 [(0, .ref m), (1, .int (nI (vKf (vFl Ds cnt cnt) i).length)), (2, .int (nI i))] [] n h' := by
    intro q
    induction q with
    | zero =>
      intro i h' sz' lR' lA' lB' dr' pk' hi f1 z zd q1 q2 q3
      have p0' := (f1 m (by omega) (by omega)).trans p0
      have ei : i = cnt := by omega
      subst ei
      refine xr_iload_n a_Mod_drop_102 rfl ?_
      refine xr_aload_n a_Mod_drop_103 rfl ?_
      apply xr_getf a_Mod_drop_104
      · (repeat' (first | assumption | exact va_up_self _ _ _ | refine x_lk (by omega) ?_))
      · rfl
      refine xn_icmp_ge a_Mod_drop_107 (by omega) (by omega) (fun b107 => ?_) (fun b107 => ?_)
      · refine xr_aload_n a_Mod_drop_174 rfl ?_
        refine xr_iload_n a_Mod_drop_175 rfl ?_
        apply xm_many a_Mod_drop_176
        · (repeat' (first | assumption | exact va_up_self _ _ _ | refine x_lk (by omega) ?_))
        refine xr_return a_Mod_drop_179 rfl (by omega) (by omega) ?_
        obtain ⟨t0, t1, t2, t3, t4⟩ := z
        refine ⟨rfl, rfl, fun x g1 g2 => (up_ne (by omega)).trans (f1 x (by omega) (by omega)), (up_ne (by omega)).trans (f1 _ (by omega) (by omega)), up_self _ _ _, sz', lR', lA', lB', dr', pk', ⟨x_lk (by omega) t0, x_lk (by omega) t1, x_lk (by omega) t2, x_lk (by omega) t3, x_lk (by omega) t4⟩, x_lk (by omega) zd, q2⟩
      · omega
    | succ q ih =>
      intro i h' sz' lR' lA' lB' dr' pk' hi f1 z zd q1 q2 q3
      have p0' := (f1 m (by omega) (by omega)).trans p0
      have hdi := q1 i (by omega)
      have hsi := q3 i (Nat.le_refl _) (by omega)
      obtain ⟨g1, g6, gb⟩ := hB i (by omega)
      have hle := vKf_le (vFl Ds cnt cnt) i
      have z' := z
      obtain ⟨t0, t1, t2, t3, t4⟩ := z'
      have hK := vKf_s (vFl Ds cnt cnt) i
      refine xr_iload_n a_Mod_drop_102 rfl ?_
      refine xr_aload_n a_Mod_drop_103 rfl ?_
      apply xr_getf a_Mod_drop_104
      · (repeat' (first | assumption | exact va_up_self _ _ _ | refine x_lk (by omega) ?_))
      · rfl
      refine xn_icmp_ge a_Mod_drop_107 (by omega) (by omega) (fun b107 => ?_) (fun b107 => ?_)
      · omega
      · refine xr_aload_n a_Mod_drop_110 rfl ?_
        apply xr_getf a_Mod_drop_111
        · (repeat' (first | assumption | exact va_up_self _ _ _ | refine x_lk (by omega) ?_))
        · rfl
        refine xr_iload_n a_Mod_drop_114 rfl ?_
        apply xn_baload a_Mod_drop_115
        · (repeat' (first | assumption | exact va_up_self _ _ _ | refine x_lk (by omega) ?_))
        · omega
        · omega
        rw [hdi]
        cases hf : vFl Ds cnt cnt i with
        | true =>
          refine xn_if_ne a_Mod_drop_116 (by decide) (fun _ => ?_) (fun b116 => absurd b116 (by decide))
          rw [hf, if_pos rfl] at hK
          first | refine xn_iinc a_Mod_drop_168 rfl (by decide) rfl ?_ | refine xr_iinc a_Mod_drop_168 rfl rfl (by decide) rfl ?_
          refine xr_goto a_Mod_drop_171 ?_
          refine xr_ls [(0, .ref m), (1, .int (nI (vKf (vFl Ds cnt cnt) i).length)), (2, .int (nI (i + 1)))] ⟨rfl, rfl, rfl, trivial⟩ ?_
          have := ih (i + 1) h' sz' lR' lA' lB' dr' pk' (by omega) f1 z zd q1 (by rw [hK]; exact q2) (fun e h1 h2 => q3 e (by omega) h2)
          rw [hK] at this
          exact this
        | false =>
          rw [hf, if_neg (by decide)] at hK
          have hKl : (vKf (vFl Ds cnt cnt) (i + 1)).length = (vKf (vFl Ds cnt cnt) i).length + 1 := by rw [hK, List.length_append]; rfl
          generalize hlf : (vKf (vFl Ds cnt cnt) i).length = lf at hle hKl ⊢
          have esi : va_up sz' lf (sz' i) i = (Ds i).length := by
            by_cases e : i = lf
            · rw [← e, up_self]; exact hsi.1
            · rw [up_ne e]; exact hsi.1
          refine xn_if_ne a_Mod_drop_116 (by decide) (fun b116 => absurd b116 (by decide)) (fun _ => ?_)
          have copy : ∀ (u k : Nat) (h2 : xH), k + u = (Ds i).length → xfr2 (m + 14) (m + 18) (m + 19) (m + 21) h h2 → moL h2 m (va_up sz' lf (sz' i)) (vCp lR' (6 * lf) (6 * i) k) (vCp lA' (6 * lf) (6 * i) k) (vCp lB' (6 * lf) (6 * i) k) pk' → h2 (m + 19) = cB 8 dr' → XW (x_rm d 0 0) k_Mod_drop L xs (x_mq 0 0 (qV n (fun h' => xfr2 m (m + 1) (m + 14) (m + 21) h h' ∧ h' (m + 18) = h (m + 18) ∧ h' m = cM m as (vKf (vFl Ds cnt cnt) cnt).length stk ne rq tr ∧ ∃ sz' lR' lA' lB' dr' pk', moL h' m sz' lR' lA' lB' pk' ∧ h' (m + 19) = cB 8 dr' ∧ ∀ j k, (vKf (vFl Ds cnt cnt) cnt)[j]? = some k → moD (Ds k) j sz' lR' lA' lB'))) 0 0 133 [(0, .ref m), (1, .int (nI lf)), (2, .int (nI i)), (3, .int (nI k))] [] n h2 := by
            intro u
            induction u with
            | zero =>
              intro k h2 hk f2 y yd
              have p02 := (f2 m (by omega) (by omega)).trans p0
              have y' := y
              obtain ⟨x0, x1, x2, x3, x4⟩ := y'
              have ek : k = (Ds i).length := by omega
              refine xr_iload_n a_Mod_drop_133 rfl ?_
              refine xr_aload_n a_Mod_drop_134 rfl ?_
              apply xr_getf a_Mod_drop_135
              · (repeat' (first | assumption | exact va_up_self _ _ _ | refine x_lk (by omega) ?_))
              · rfl
              refine xr_iload_n a_Mod_drop_138 rfl ?_
              apply xn_iaload a_Mod_drop_139
              · (repeat' (first | assumption | exact va_up_self _ _ _ | refine x_lk (by omega) ?_))
              · omega
              · omega
              rw [esi]
              refine xn_icmp_ge a_Mod_drop_140 (by omega) (by omega) (fun b140 => ?_) (fun b140 => ?_)
              · first | refine xn_iinc a_Mod_drop_165 rfl (by decide) rfl ?_ | refine xr_iinc a_Mod_drop_165 rfl rfl (by decide) rfl ?_
                first | refine xn_iinc a_Mod_drop_168 rfl (by decide) rfl ?_ | refine xr_iinc a_Mod_drop_168 rfl rfl (by decide) rfl ?_
                refine xr_goto a_Mod_drop_171 ?_
                refine xr_ls [(0, .ref m), (1, .int (nI (lf + 1))), (2, .int (nI (i + 1)))] ⟨rfl, rfl, rfl, trivial⟩ ?_
                have KA : ∀ j k', (vKf (vFl Ds cnt cnt) (i + 1))[j]? = some k' → moD (Ds k') j (va_up sz' lf (sz' i)) (vCp lR' (6 * lf) (6 * i) k) (vCp lA' (6 * lf) (6 * i) k) (vCp lB' (6 * lf) (6 * i) k) := by
                  intro j k' hj
                  rw [hK] at hj
                  by_cases hjl : j < lf
                  · rw [List.getElem?_append_left (by rw [hlf]; exact hjl)] at hj
                    have hk'6 := (hB k' (by have := (vKf_lt hj).1; omega)).2.1
                    refine (q2 j k' hj).c (up_ne (by omega)) (fun x hx => ?_)
                    rw [vCp_out _ (by omega), vCp_out _ (by omega), vCp_out _ (by omega)]
                    exact ⟨rfl, rfl, rfl⟩
                  · rw [List.getElem?_append_right (by rw [hlf]; omega), hlf] at hj
                    have hz : j - lf < 1 := (List.getElem?_eq_some_iff.mp hj).1
                    have ejl : j = lf := by omega
                    rw [ejl, Nat.sub_self] at hj
                    cases hj
                    rw [ejl]
                    refine hsi.c (up_self _ _ _) (fun x hx => ?_)
                    rw [vCp_in _ (by omega), vCp_in _ (by omega), vCp_in _ (by omega)]
                    exact ⟨rfl, rfl, rfl⟩
                have KB : ∀ e, i + 1 ≤ e → e < cnt → moD (Ds e) e (va_up sz' lf (sz' i)) (vCp lR' (6 * lf) (6 * i) k) (vCp lA' (6 * lf) (6 * i) k) (vCp lB' (6 * lf) (6 * i) k) := by
                  intro e h1 h2
                  have he6 := (hB e h2).2.1
                  refine (q3 e (by omega) h2).c (up_ne (by omega)) (fun x hx => ?_)
                  rw [vCp_out _ (by omega), vCp_out _ (by omega), vCp_out _ (by omega)]
                  exact ⟨rfl, rfl, rfl⟩
                have := ih (i + 1) h2 _ _ _ _ dr' pk' (by omega) f2 y yd q1 KA KB
                rw [hKl] at this
                exact this
              · omega
            | succ u ihu =>
              intro k h2 hk f2 y yd
              have p02 := (f2 m (by omega) (by omega)).trans p0
              have y' := y
              obtain ⟨x0, x1, x2, x3, x4⟩ := y'
              have cV := t_Mod_move (d := 0) (L := L) (xs := xs) (n := n) (f := 6 * i + k) (t := 6 * lf + k) p02 y (by omega) (by omega)
              rw [vCp_s _ (by omega), vCp_s _ (by omega), vCp_s _ (by omega)] at cV
              refine xr_iload_n a_Mod_drop_133 rfl ?_
              refine xr_aload_n a_Mod_drop_134 rfl ?_
              apply xr_getf a_Mod_drop_135
              · (repeat' (first | assumption | exact va_up_self _ _ _ | refine x_lk (by omega) ?_))
              · rfl
              refine xr_iload_n a_Mod_drop_138 rfl ?_
              apply xn_iaload a_Mod_drop_139
              · (repeat' (first | assumption | exact va_up_self _ _ _ | refine x_lk (by omega) ?_))
              · omega
              · omega
              rw [esi]
              refine xn_icmp_ge a_Mod_drop_140 (by omega) (by omega) (fun b140 => ?_) (fun b140 => ?_)
              · omega
              · refine xr_aload_n a_Mod_drop_143 rfl ?_
                refine xr_bipush a_Mod_drop_144 (v := nI 6) (by decide +kernel) ?_
                refine xr_iload_n a_Mod_drop_146 rfl ?_
                first | refine xn_imul a_Mod_drop_147 ?_ | refine xr_imul a_Mod_drop_147 ?_
                refine xr_iload_n a_Mod_drop_148 rfl ?_
                first | refine xn_iadd a_Mod_drop_149 ?_ | refine xr_iadd a_Mod_drop_149 ?_
                refine xr_bipush a_Mod_drop_150 (v := nI 6) (by decide +kernel) ?_
                refine xr_iload_n a_Mod_drop_152 rfl ?_
                first | refine xn_imul a_Mod_drop_153 ?_ | refine xr_imul a_Mod_drop_153 ?_
                refine xr_iload_n a_Mod_drop_154 rfl ?_
                first | refine xn_iadd a_Mod_drop_155 ?_ | refine xr_iadd a_Mod_drop_155 ?_
                refine xr_invV a_Mod_drop_156 (by (repeat' (first | assumption | exact va_up_self _ _ _ | refine x_lk (by omega) ?_))) (cV) rfl rfl (by omega) (by omega) (by omega) (Nat.le_of_ble_eq_true rfl) ?_
                rintro _ _ h3 ⟨rfl, rfl, f3, z3⟩
                first | refine xn_iinc a_Mod_drop_159 rfl (by decide) rfl ?_ | refine xr_iinc a_Mod_drop_159 rfl rfl (by decide) rfl ?_
                refine xr_goto a_Mod_drop_162 ?_
                refine xr_ls [(0, .ref m), (1, .int (nI lf)), (2, .int (nI i)), (3, .int (nI (k + 1)))] ⟨rfl, rfl, rfl, rfl, trivial⟩ ?_
                exact ihu (k + 1) h3 (by omega) (f2.tr f3.gap) z3 ((f3 _ (by omega)).trans yd)
          refine xr_aload_n a_Mod_drop_119 rfl ?_
          apply xr_getf a_Mod_drop_120
          · (repeat' (first | assumption | exact va_up_self _ _ _ | refine x_lk (by omega) ?_))
          · rfl
          refine xr_iload_n a_Mod_drop_123 rfl ?_
          refine xr_aload_n a_Mod_drop_124 rfl ?_
          apply xr_getf a_Mod_drop_125
          · (repeat' (first | assumption | exact va_up_self _ _ _ | refine x_lk (by omega) ?_))
          · rfl
          refine xr_iload_n a_Mod_drop_128 rfl ?_
          apply xn_iaload a_Mod_drop_129
          · (repeat' (first | assumption | exact va_up_self _ _ _ | refine x_lk (by omega) ?_))
          · omega
          · omega
          apply xn_iastore a_Mod_drop_130
          · (repeat' (first | assumption | exact va_up_self _ _ _ | refine x_lk (by omega) ?_))
          · omega
          · omega
          refine xr_iconst a_Mod_drop_131 (v := nI 0) (by decide +kernel) ?_
          refine xr_istore_n a_Mod_drop_132 (by decide) rfl ?_
          refine xr_ls [(0, .ref m), (1, .int (nI lf)), (2, .int (nI i)), (3, .int (nI 0))] ⟨rfl, rfl, rfl, rfl, trivial⟩ ?_
          refine copy (Ds i).length 0 _ (by omega) (f1.up (by omega)) ?_ (x_lk (by omega) zd)
          rw [vCp_0, vCp_0, vCp_0]
          exact ⟨up_self _ _ _, x_lk (by omega) t1, x_lk (by omega) t2, x_lk (by omega) t3, x_lk (by omega) t4⟩
  -- what is covered
  have cover : ∀ (q i : Nat) (h' : xH) (dr' : Nat → Nat) (pk' : Nat → Option Nat), i + q = cnt → xfr2 (m + 14) (m + 18) (m + 19) (m + 21) h h' → moL h' m sz lR lA lB pk' → h' (m + 19) = cB 8 dr' → (∀ j, j < cnt → dr' j = (vFl Ds cnt i j).toNat) → XW (x_rm d 0 0) k_Mod_drop L xs (x_mq 0 0 (qV n (fun h' => xfr2 m (m + 1) (m + 14) (m + 21) h h' ∧ h' (m + 18) = h (m + 18) ∧ h' m = cM m as (vKf (vFl Ds cnt cnt) cnt).length stk ne rq tr ∧ ∃ sz' lR' lA' lB' dr' pk', moL h' m sz' lR' lA' lB' pk' ∧ h' (m + 19) = cB 8 dr' ∧ ∀ j k, (vKf (vFl Ds cnt cnt) cnt)[j]? = some k → moD (Ds k) j sz' lR' lA' lB'))) 0 0 25 [(0, .ref m), (1, .int (nI i))] [] n h' := by
    intro q
    induction q with
    | zero =>
      intro i h' dr' pk' hi f1 z zd q1
      have p0' := (f1 m (by omega) (by omega)).trans p0
      have ei : i = cnt := by omega
      subst ei
      refine xr_iload_n a_Mod_drop_25 rfl ?_
      refine xr_aload_n a_Mod_drop_26 rfl ?_
      apply xr_getf a_Mod_drop_27
      · (repeat' (first | assumption | exact va_up_self _ _ _ | refine x_lk (by omega) ?_))
      · rfl
      refine xn_icmp_ge a_Mod_drop_30 (by omega) (by omega) (fun b30 => ?_) (fun b30 => ?_)
      · refine xr_iconst a_Mod_drop_98 (v := nI 0) (by decide +kernel) ?_
        refine xr_istore_n a_Mod_drop_99 (by decide) rfl ?_
        refine xr_iconst a_Mod_drop_100 (v := nI 0) (by decide +kernel) ?_
        refine xr_istore_n a_Mod_drop_101 (by decide) rfl ?_
        refine xr_ls [(0, .ref m), (1, .int (nI (vKf (vFl Ds i i) 0).length)), (2, .int (nI 0))] ⟨rfl, rfl, rfl, trivial⟩ ?_
        exact close i 0 h' sz lR lA lB dr' pk' (by omega) f1 z zd q1 (fun j k hj => by cases hj) (fun e _ he => hD e he)
      · omega
    | succ q ih =>
      intro i h' dr' pk' hi f1 z zd q1
      have p0' := (f1 m (by omega) (by omega)).trans p0
      have inner : ∀ (u e : Nat) (pk2 : Nat → Option Nat) (h2 : xH), e + u = cnt → xfr2 (m + 14) (m + 18) (m + 19) (m + 21) h h2 → moL h2 m sz lR lA lB pk2 → h2 (m + 19) = cB 8 dr' → XW (x_rm d 0 0) k_Mod_drop L xs (x_mq 0 0 (qV n (fun h' => xfr2 m (m + 1) (m + 14) (m + 21) h h' ∧ h' (m + 18) = h (m + 18) ∧ h' m = cM m as (vKf (vFl Ds cnt cnt) cnt).length stk ne rq tr ∧ ∃ sz' lR' lA' lB' dr' pk', moL h' m sz' lR' lA' lB' pk' ∧ h' (m + 19) = cB 8 dr' ∧ ∀ j k, (vKf (vFl Ds cnt cnt) cnt)[j]? = some k → moD (Ds k) j sz' lR' lA' lB'))) 0 0 37 [(0, .ref m), (1, .int (nI i)), (2, .int (nI (vB (vCov Ds e (vFl Ds cnt i) i)))), (3, .int (nI e))] [] n h2 := by
        intro u
        induction u with
        | zero =>
          intro e pk2 h2 he f2 y yd
          have p02 := (f2 m (by omega) (by omega)).trans p0
          have ee : e = cnt := by omega
          subst ee
          refine xr_iload_n a_Mod_drop_37 rfl ?_
          refine xr_aload_n a_Mod_drop_38 rfl ?_
          apply xr_getf a_Mod_drop_39
          · (repeat' (first | assumption | exact va_up_self _ _ _ | refine x_lk (by omega) ?_))
          · rfl
          refine xn_icmp_ge a_Mod_drop_42 (by omega) (by omega) (fun b42 => ?_) (fun b42 => ?_)
          · refine xr_aload_n a_Mod_drop_85 rfl ?_
            apply xr_getf a_Mod_drop_86
            · (repeat' (first | assumption | exact va_up_self _ _ _ | refine x_lk (by omega) ?_))
            · rfl
            refine xr_iload_n a_Mod_drop_89 rfl ?_
            refine xr_iload_n a_Mod_drop_90 rfl ?_
            apply xn_bastore a_Mod_drop_91
            · (repeat' (first | assumption | exact va_up_self _ _ _ | refine x_lk (by omega) ?_))
            · omega
            · omega
            · exact vB_lt _
            first | refine xn_iinc a_Mod_drop_92 rfl (by decide) rfl ?_ | refine xr_iinc a_Mod_drop_92 rfl rfl (by decide) rfl ?_
            refine xr_goto a_Mod_drop_95 ?_
            refine xr_ls [(0, .ref m), (1, .int (nI (i + 1)))] ⟨rfl, rfl, trivial⟩ ?_
            obtain ⟨t0, t1, t2, t3, t4⟩ := y
            refine ih (i + 1) _ _ pk2 (by omega) (f2.up (by omega)) ⟨x_lk (by omega) t0, x_lk (by omega) t1, x_lk (by omega) t2, x_lk (by omega) t3, x_lk (by omega) t4⟩ (up_self _ _ _) (fun j hj => ?_)
            show _ = (va_up (vFl Ds e i) i (vCovB Ds e (vFl Ds e i) i) j).toNat
            by_cases ej : j = i
            · rw [ej, up_self, up_self]
              exact (vD_nat _).symm
            · rw [up_ne ej, up_ne ej]; exact q1 j hj
          · omega
        | succ u ihu =>
          intro e pk2 h2 he f2 y yd
          have p02 := (f2 m (by omega) (by omega)).trans p0
          obtain ⟨t0, t1, t2, t3, t4⟩ := y
          have m78 : ∀ (x : Nat) (pk3 : Nat → Option Nat) (h3 : xH), x = vB (vCov Ds (e + 1) (vFl Ds cnt i) i) → xfr2 (m + 14) (m + 18) (m + 19) (m + 21) h h3 → moL h3 m sz lR lA lB pk3 → h3 (m + 19) = cB 8 dr' → XW (x_rm d 0 0) k_Mod_drop L xs (x_mq 0 0 (qV n (fun h' => xfr2 m (m + 1) (m + 14) (m + 21) h h' ∧ h' (m + 18) = h (m + 18) ∧ h' m = cM m as (vKf (vFl Ds cnt cnt) cnt).length stk ne rq tr ∧ ∃ sz' lR' lA' lB' dr' pk', moL h' m sz' lR' lA' lB' pk' ∧ h' (m + 19) = cB 8 dr' ∧ ∀ j k, (vKf (vFl Ds cnt cnt) cnt)[j]? = some k → moD (Ds k) j sz' lR' lA' lB'))) 0 0 78 [(0, .ref m), (1, .int (nI i)), (3, .int (nI e))] [.int (nI x)] n h3 := by
            intro x pk3 h3 hx f3 y3 yd3
            subst hx
            refine xr_istore_n a_Mod_drop_78 (by decide) rfl ?_
            first | refine xn_iinc a_Mod_drop_79 rfl (by decide) rfl ?_ | refine xr_iinc a_Mod_drop_79 rfl rfl (by decide) rfl ?_
            refine xr_goto a_Mod_drop_82 ?_
            refine xr_ls [(0, .ref m), (1, .int (nI i)), (2, .int (nI (vB (vCov Ds (e + 1) (vFl Ds cnt i) i)))), (3, .int (nI (e + 1)))] ⟨rfl, rfl, rfl, rfl, trivial⟩ ?_
            exact ihu (e + 1) pk3 h3 (by omega) f3 y3 yd3
          have no : ∀ (pk3 : Nat → Option Nat) (h3 : xH), ¬ vCov Ds (e + 1) (vFl Ds cnt i) i → xfr2 (m + 14) (m + 18) (m + 19) (m + 21) h h3 → moL h3 m sz lR lA lB pk3 → h3 (m + 19) = cB 8 dr' → XW (x_rm d 0 0) k_Mod_drop L xs (x_mq 0 0 (qV n (fun h' => xfr2 m (m + 1) (m + 14) (m + 21) h h' ∧ h' (m + 18) = h (m + 18) ∧ h' m = cM m as (vKf (vFl Ds cnt cnt) cnt).length stk ne rq tr ∧ ∃ sz' lR' lA' lB' dr' pk', moL h' m sz' lR' lA' lB' pk' ∧ h' (m + 19) = cB 8 dr' ∧ ∀ j k, (vKf (vFl Ds cnt cnt) cnt)[j]? = some k → moD (Ds k) j sz' lR' lA' lB'))) 0 0 77 [(0, .ref m), (1, .int (nI i)), (3, .int (nI e))] [] n h3 := by
            intro pk3 h3 hx f3 y3 yd3
            refine xr_iconst a_Mod_drop_77 (v := nI 0) (by decide +kernel) ?_
            exact m78 0 pk3 h3 (by rw [vB_f hx]) f3 y3 yd3
          have yes : ∀ (pk3 : Nat → Option Nat) (h3 : xH), vCov Ds (e + 1) (vFl Ds cnt i) i → xfr2 (m + 14) (m + 18) (m + 19) (m + 21) h h3 → moL h3 m sz lR lA lB pk3 → h3 (m + 19) = cB 8 dr' → XW (x_rm d 0 0) k_Mod_drop L xs (x_mq 0 0 (qV n (fun h' => xfr2 m (m + 1) (m + 14) (m + 21) h h' ∧ h' (m + 18) = h (m + 18) ∧ h' m = cM m as (vKf (vFl Ds cnt cnt) cnt).length stk ne rq tr ∧ ∃ sz' lR' lA' lB' dr' pk', moL h' m sz' lR' lA' lB' pk' ∧ h' (m + 19) = cB 8 dr' ∧ ∀ j k, (vKf (vFl Ds cnt cnt) cnt)[j]? = some k → moD (Ds k) j sz' lR' lA' lB'))) 0 0 73 [(0, .ref m), (1, .int (nI i)), (3, .int (nI e))] [] n h3 := by
            intro pk3 h3 hx f3 y3 yd3
            refine xr_iconst a_Mod_drop_73 (v := nI 1) (by decide +kernel) ?_
            refine xr_goto a_Mod_drop_74 ?_
            exact m78 1 pk3 h3 (by rw [vB_t hx]) f3 y3 yd3
          have hfe := q1 e (by omega)
          have tfe := tn_lt (vFl Ds cnt i e)
          obtain ⟨g1, g6, gb⟩ := hB i (by omega)
          obtain ⟨e1, e6, eb⟩ := hB e (by omega)
          have mi := hD i (by omega)
          have me := hD e (by omega)
          have cM := t_Mod_maps (d := 1) (L := L) (xs := xs) (n := n) (dd := e) (e := i) (nd := (Ds e).length) (n' := (Ds i).length) (lo := none) p02 t0 t1 t2 t3 t4 (by omega) (by omega) me.1 mi.1 e1 e6 g6 (fun k hk => by cases hk) (fun j hj => by have := eb.at me.2 hj; exact ⟨by omega, by omega, by omega⟩) (fun j hj => by have := gb.at mi.2 hj; exact ⟨by omega, by omega, by omega⟩) (by omega)
          rw [vB_c (vMP_all me.2 mi.2)] at cM
          refine xr_iload_n a_Mod_drop_37 rfl ?_
          refine xr_aload_n a_Mod_drop_38 rfl ?_
          apply xr_getf a_Mod_drop_39
          · (repeat' (first | assumption | exact va_up_self _ _ _ | refine x_lk (by omega) ?_))
          · rfl
          refine xn_icmp_ge a_Mod_drop_42 (by omega) (by omega) (fun b42 => ?_) (fun b42 => ?_)
          · omega
          · refine xr_iload_n a_Mod_drop_45 rfl ?_
            refine xn_if_ne a_Mod_drop_46 (vB_lt31 _) (fun b46 => ?_) (fun b46 => ?_)
            · refine xr_ls [(0, .ref m), (1, .int (nI i)), (3, .int (nI e))] ⟨rfl, rfl, rfl, trivial⟩ ?_
              exact yes pk2 h2 (vCov_s.mpr (Or.inl (vB_1 b46))) f2 ⟨t0, t1, t2, t3, t4⟩ yd
            · have hn := vB_0 b46
              refine xr_iload_n a_Mod_drop_49 rfl ?_
              refine xr_iload_n a_Mod_drop_50 rfl ?_
              refine xn_icmp_eq a_Mod_drop_51 (by omega) (by omega) (fun b51 => ?_) (fun b51 => ?_)
              · refine xr_ls [(0, .ref m), (1, .int (nI i)), (3, .int (nI e))] ⟨rfl, rfl, rfl, trivial⟩ ?_
                exact no pk2 h2 (fun z => (vCov_s.mp z).elim hn (fun w => w.1 b51)) f2 ⟨t0, t1, t2, t3, t4⟩ yd
              · refine xr_aload_n a_Mod_drop_54 rfl ?_
                apply xr_getf a_Mod_drop_55
                · (repeat' (first | assumption | exact va_up_self _ _ _ | refine x_lk (by omega) ?_))
                · rfl
                refine xr_iload_n a_Mod_drop_58 rfl ?_
                apply xn_baload a_Mod_drop_59
                · (repeat' (first | assumption | exact va_up_self _ _ _ | refine x_lk (by omega) ?_))
                · omega
                · omega
                refine xn_if_ne a_Mod_drop_60 (by omega) (fun b60 => ?_) (fun b60 => ?_)
                · refine xr_ls [(0, .ref m), (1, .int (nI i)), (3, .int (nI e))] ⟨rfl, rfl, rfl, trivial⟩ ?_
                  refine no pk2 h2 (fun z => (vCov_s.mp z).elim hn (fun w => ?_)) f2 ⟨t0, t1, t2, t3, t4⟩ yd
                  rw [w.2.1] at hfe
                  rw [hfe] at b60
                  exact absurd b60 (by decide)
                · have hff : vFl Ds cnt i e = false := by
                    cases z : vFl Ds cnt i e with
                    | false => rfl
                    | true => rw [z, b60] at hfe; exact absurd hfe (by decide)
                  refine xr_aload_n a_Mod_drop_63 rfl ?_
                  refine xr_iload_n a_Mod_drop_64 rfl ?_
                  refine xr_iload_n a_Mod_drop_65 rfl ?_
                  refine xr_iconst a_Mod_drop_66 (v := -1) (by decide +kernel) ?_
                  refine xr_invV a_Mod_drop_67 (by (repeat' (first | assumption | exact va_up_self _ _ _ | refine x_lk (by omega) ?_))) (cM) rfl rfl (by omega) (by omega) (by omega) (Nat.le_of_ble_eq_true rfl) ?_
                  rintro _ _ h1 ⟨rfl, rfl, pk1, rfl⟩
                  have fN : xfr2 (m + 14) (m + 18) (m + 19) (m + 21) h (va_up h2 (m + 20) (cO 6 pk1)) := f2.up (by omega)
                  have yN : moL (va_up h2 (m + 20) (cO 6 pk1)) m sz lR lA lB pk1 := ⟨x_lk (by omega) t0, x_lk (by omega) t1, x_lk (by omega) t2, x_lk (by omega) t3, up_self _ _ _⟩
                  refine xn_if_eq a_Mod_drop_70 (vB_lt31 _) (fun b70 => ?_) (fun b70 => ?_)
                  · refine xr_ls [(0, .ref m), (1, .int (nI i)), (3, .int (nI e))] ⟨rfl, rfl, rfl, trivial⟩ ?_
                    exact no pk1 _ (fun z => (vCov_s.mp z).elim hn (fun w => vB_0 b70 w.2.2)) fN yN (x_lk (by omega) yd)
                  · refine xr_ls [(0, .ref m), (1, .int (nI i)), (3, .int (nI e))] ⟨rfl, rfl, rfl, trivial⟩ ?_
                    exact yes pk1 _ (vCov_s.mpr (Or.inr ⟨b51, hff, vB_1 b70⟩)) fN yN (x_lk (by omega) yd)
      refine xr_iload_n a_Mod_drop_25 rfl ?_
      refine xr_aload_n a_Mod_drop_26 rfl ?_
      apply xr_getf a_Mod_drop_27
      · (repeat' (first | assumption | exact va_up_self _ _ _ | refine x_lk (by omega) ?_))
      · rfl
      refine xn_icmp_ge a_Mod_drop_30 (by omega) (by omega) (fun b30 => ?_) (fun b30 => ?_)
      · omega
      · refine xr_iconst a_Mod_drop_33 (v := nI 0) (by decide +kernel) ?_
        refine xr_istore_n a_Mod_drop_34 (by decide) rfl ?_
        refine xr_iconst a_Mod_drop_35 (v := nI 0) (by decide +kernel) ?_
        refine xr_istore_n a_Mod_drop_36 (by decide) rfl ?_
        refine xr_ls [(0, .ref m), (1, .int (nI i)), (2, .int (nI 0)), (3, .int (nI 0))] ⟨rfl, rfl, rfl, rfl, trivial⟩ ?_
        have := inner cnt 0 pk' h' (by omega) f1 z zd
        rw [vB_f (fun ⟨x, hx, _⟩ => absurd hx (Nat.not_lt_zero x))] at this
        exact this
  -- nothing is dropped yet
  have clear : ∀ (q i : Nat) (h' : xH) (dr' : Nat → Nat), i + q = cnt → xfr2 (m + 14) (m + 18) (m + 19) (m + 21) h h' → moL h' m sz lR lA lB pk → h' (m + 19) = cB 8 dr' → (∀ j, j < i → dr' j = 0) → XW (x_rm d 0 0) k_Mod_drop L xs (x_mq 0 0 (qV n (fun h' => xfr2 m (m + 1) (m + 14) (m + 21) h h' ∧ h' (m + 18) = h (m + 18) ∧ h' m = cM m as (vKf (vFl Ds cnt cnt) cnt).length stk ne rq tr ∧ ∃ sz' lR' lA' lB' dr' pk', moL h' m sz' lR' lA' lB' pk' ∧ h' (m + 19) = cB 8 dr' ∧ ∀ j k, (vKf (vFl Ds cnt cnt) cnt)[j]? = some k → moD (Ds k) j sz' lR' lA' lB'))) 0 0 2 [(0, .ref m), (1, .int (nI i))] [] n h' := by
    intro q
    induction q with
    | zero =>
      intro i h' dr' hi f1 z zd q1
      have p0' := (f1 m (by omega) (by omega)).trans p0
      refine xr_iload_n a_Mod_drop_2 rfl ?_
      refine xr_aload_n a_Mod_drop_3 rfl ?_
      apply xr_getf a_Mod_drop_4
      · (repeat' (first | assumption | exact va_up_self _ _ _ | refine x_lk (by omega) ?_))
      · rfl
      refine xn_icmp_ge a_Mod_drop_7 (by omega) (by omega) (fun b7 => ?_) (fun b7 => ?_)
      · refine xr_iconst a_Mod_drop_23 (v := nI 0) (by decide +kernel) ?_
        refine xr_istore_n a_Mod_drop_24 (by decide) rfl ?_
        refine xr_ls [(0, .ref m), (1, .int (nI 0))] ⟨rfl, rfl, trivial⟩ ?_
        exact cover cnt 0 h' dr' pk (by omega) f1 z zd (fun j hj => by rw [q1 j (by omega)]; rfl)
      · omega
    | succ q ih =>
      intro i h' dr' hi f1 z zd q1
      have p0' := (f1 m (by omega) (by omega)).trans p0
      obtain ⟨t0, t1, t2, t3, t4⟩ := z
      refine xr_iload_n a_Mod_drop_2 rfl ?_
      refine xr_aload_n a_Mod_drop_3 rfl ?_
      apply xr_getf a_Mod_drop_4
      · (repeat' (first | assumption | exact va_up_self _ _ _ | refine x_lk (by omega) ?_))
      · rfl
      refine xn_icmp_ge a_Mod_drop_7 (by omega) (by omega) (fun b7 => ?_) (fun b7 => ?_)
      · omega
      · refine xr_aload_n a_Mod_drop_10 rfl ?_
        apply xr_getf a_Mod_drop_11
        · (repeat' (first | assumption | exact va_up_self _ _ _ | refine x_lk (by omega) ?_))
        · rfl
        refine xr_iload_n a_Mod_drop_14 rfl ?_
        refine xr_iconst a_Mod_drop_15 (v := nI 0) (by decide +kernel) ?_
        apply xn_bastore a_Mod_drop_16
        · (repeat' (first | assumption | exact va_up_self _ _ _ | refine x_lk (by omega) ?_))
        · omega
        · omega
        · omega
        first | refine xn_iinc a_Mod_drop_17 rfl (by decide) rfl ?_ | refine xr_iinc a_Mod_drop_17 rfl rfl (by decide) rfl ?_
        refine xr_goto a_Mod_drop_20 ?_
        refine xr_ls [(0, .ref m), (1, .int (nI (i + 1)))] ⟨rfl, rfl, trivial⟩ ?_
        refine ih (i + 1) _ _ (by omega) (f1.up (by omega)) ⟨x_lk (by omega) t0, x_lk (by omega) t1, x_lk (by omega) t2, x_lk (by omega) t3, x_lk (by omega) t4⟩ (up_self _ _ _) (fun j hj => ?_)
        by_cases ej : j = i
        · rw [ej, up_self]
        · rw [up_ne ej]; exact q1 j (by omega)
  refine xr_iconst a_Mod_drop_0 (v := nI 0) (by decide +kernel) ?_
  refine xr_istore_n a_Mod_drop_1 (by decide) rfl ?_
  refine xr_ls [(0, .ref m), (1, .int (nI 0))] ⟨rfl, rfl, trivial⟩ ?_
  exact clear cnt 0 h dr (by omega) xfr2.rf p pd (fun j hj => absurd hj (Nat.not_lt_zero j))
end T69b

