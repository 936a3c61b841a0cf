/-! the reference: move, reduce -/
def moL (h : xH) (m : Nat) (sz lR lA lB : Nat → Nat) (pk : Nat → Option Nat) : Prop := h (m + 14) = cI 8 sz ∧ h (m + 15) = cI 48 lR ∧ h (m + 16) = cI 48 lA ∧ h (m + 17) = cI 48 lB ∧ h (m + 20) = cO 6 pk
/-- the list of disjunct dd -/
def moD (l : List vA) (dd : Nat) (sz lR lA lB : Nat → Nat) : Prop := sz dd = l.length ∧ vRep l l.length (fun i => lR (6 * dd + i)) (fun i => lA (6 * dd + i)) (fun i => lB (6 * dd + i))
def vShf (f : Nat → Nat) (a k : Nat) : Nat → Nat := fun i => if a ≤ i ∧ i < k then f (i + 1) else f i
theorem vShf_0 (f : Nat → Nat) (a : Nat) : vShf f a a = f := by
  funext i
  exact if_neg (by omega)
theorem vShf_s (f : Nat → Nat) {a k : Nat} (hk : a ≤ k) : va_up (vShf f a k) k (vShf f a k (k + 1)) = vShf f a (k + 1) := by
  funext i
  unfold va_up
  by_cases h : i = k
  · rw [if_pos h]
    show (if a ≤ k + 1 ∧ k + 1 < k then f (k + 1 + 1) else f (k + 1)) = if a ≤ i ∧ i < k + 1 then f (i + 1) else f i
    rw [if_neg (by omega), if_pos (by omega), h]
  · rw [if_neg h]
    show (if a ≤ i ∧ i < k then f (i + 1) else f i) = if a ≤ i ∧ i < k + 1 then f (i + 1) else f i
    by_cases h2 : a ≤ i ∧ i < k
    · rw [if_pos h2, if_pos (by omega)]
    · rw [if_neg h2, if_neg (by omega)]
theorem vShf_er {l : List vA} {n at_ dd : Nat} {R A B : Nat → Nat} (h : vRep l (n + 1) (fun i => R (6 * dd + i)) (fun i => A (6 * dd + i)) (fun i => B (6 * dd + i))) (ha : at_ ≤ n) : vRep (l.eraseIdx at_) n (fun i => vShf R (6 * dd + at_) (6 * dd + n) (6 * dd + i)) (fun i => vShf A (6 * dd + at_) (6 * dd + n) (6 * dd + i)) (fun i => vShf B (6 * dd + at_) (6 * dd + n) (6 * dd + i)) := by
  refine ⟨by rw [List.length_eraseIdx, ← h.1, if_pos (by omega)]; rfl, fun j b hb => ?_⟩
  rw [List.getElem?_eraseIdx] at hb
  by_cases hj : j < at_
  · rw [if_pos hj] at hb
    have e : ∀ f : Nat → Nat, vShf f (6 * dd + at_) (6 * dd + n) (6 * dd + j) = f (6 * dd + j) := fun f => if_neg (by omega)
    dsimp only
    rw [e, e, e]
    exact h.2 j b hb
  · rw [if_neg hj] at hb
    have hjl := (List.getElem?_eq_some_iff.mp hb).1
    rw [← h.1] at hjl
    have e : ∀ f : Nat → Nat, vShf f (6 * dd + at_) (6 * dd + n) (6 * dd + j) = f (6 * dd + (j + 1)) := fun f => if_pos (by omega)
    dsimp only
    rw [e, e, e]
    exact h.2 _ b hb
section T60
variable {d L : Nat} {xs : Nat → Int32} {n : Nat} {h : xH} {m : Nat} {as ma stk ne rq tr : Nat} {sz lR lA lB : Nat → Nat} {pk : Nat → Option Nat}
theorem t_Mod_move {f t : Nat} (p0 : h m = cM m as ma stk ne rq tr) (p : moL h m sz lR lA lB pk) (hf : f < 48) (ht : t < 48) : XM d 0 0 k_Mod_move L xs [.ref m, .int (nI f), .int (nI t)] n h (qV n (fun h' => xfr (m + 14) (m + 18) h h' ∧ moL h' m sz (va_up lR t (lR f)) (va_up lA t (lA f)) (va_up lB t (lB f)) pk)) := by
  obtain ⟨c0, c1, c2, c3, c4⟩ := p
  refine XM.of rfl (Nat.le_of_ble_eq_true rfl) ?_
  refine xr_aload_n a_Mod_move_0 rfl ?_
  apply xr_getf a_Mod_move_1
  · (repeat' (first | assumption | exact va_up_self _ _ _ | refine x_lk (by omega) ?_))
  · rfl
  refine xr_iload_n a_Mod_move_4 rfl ?_
  refine xr_aload_n a_Mod_move_5 rfl ?_
  apply xr_getf a_Mod_move_6
  · (repeat' (first | assumption | exact va_up_self _ _ _ | refine x_lk (by omega) ?_))
  · rfl
  refine xr_iload_n a_Mod_move_9 rfl ?_
  apply xn_iaload a_Mod_move_10
  · (repeat' (first | assumption | exact va_up_self _ _ _ | refine x_lk (by omega) ?_))
  · omega
  · omega
  apply xn_iastore a_Mod_move_11
  · (repeat' (first | assumption | exact va_up_self _ _ _ | refine x_lk (by omega) ?_))
  · omega
  · omega
  refine xr_aload_n a_Mod_move_12 rfl ?_
  apply xr_getf a_Mod_move_13
  · (repeat' (first | assumption | exact va_up_self _ _ _ | refine x_lk (by omega) ?_))
  · rfl
  refine xr_iload_n a_Mod_move_16 rfl ?_
  refine xr_aload_n a_Mod_move_17 rfl ?_
  apply xr_getf a_Mod_move_18
  · (repeat' (first | assumption | exact va_up_self _ _ _ | refine x_lk (by omega) ?_))
  · rfl
  refine xr_iload_n a_Mod_move_21 rfl ?_
  apply xn_iaload a_Mod_move_22
  · (repeat' (first | assumption | exact va_up_self _ _ _ | refine x_lk (by omega) ?_))
  · omega
  · omega
  apply xn_iastore a_Mod_move_23
  · (repeat' (first | assumption | exact va_up_self _ _ _ | refine x_lk (by omega) ?_))
  · omega
  · omega
  refine xr_aload_n a_Mod_move_24 rfl ?_
  apply xr_getf a_Mod_move_25
  · (repeat' (first | assumption | exact va_up_self _ _ _ | refine x_lk (by omega) ?_))
  · rfl
  refine xr_iload_n a_Mod_move_28 rfl ?_
  refine xr_aload_n a_Mod_move_29 rfl ?_
  apply xr_getf a_Mod_move_30
  · (repeat' (first | assumption | exact va_up_self _ _ _ | refine x_lk (by omega) ?_))
  · rfl
  refine xr_iload_n a_Mod_move_33 rfl ?_
  apply xn_iaload a_Mod_move_34
  · (repeat' (first | assumption | exact va_up_self _ _ _ | refine x_lk (by omega) ?_))
  · omega
  · omega
  apply xn_iastore a_Mod_move_35
  · (repeat' (first | assumption | exact va_up_self _ _ _ | refine x_lk (by omega) ?_))
  · omega
  · omega
  refine xr_return a_Mod_move_36 rfl (by omega) (by omega) ?_
  refine ⟨rfl, rfl, ?_, by (repeat' (first | assumption | exact va_up_self _ _ _ | refine x_lk (by omega) ?_)), by (repeat' (first | assumption | exact va_up_self _ _ _ | refine x_lk (by omega) ?_)), by (repeat' (first | assumption | exact va_up_self _ _ _ | refine x_lk (by omega) ?_)), by (repeat' (first | assumption | exact va_up_self _ _ _ | refine x_lk (by omega) ?_)), by (repeat' (first | assumption | exact va_up_self _ _ _ | refine x_lk (by omega) ?_))⟩
  repeat' (first | exact xfr.rf | refine xfr.up ?_ (by omega) (by omega))
theorem t_Mod_reduce {dd : Nat} {l : List vA} (p0 : h m = cM m as ma stk ne rq tr) (p : moL h m sz lR lA lB pk) (hl : moD l dd sz lR lA lB) (hdd : dd < 8) (h1 : 1 ≤ l.length) (h6 : l.length ≤ 6) (hb : vBdL l) (hd : 2 ≤ d) : XM d 0 0 k_Mod_reduce L xs [.ref m, .int (nI dd)] n h (qV n (fun h' => xfr2 (m + 14) (m + 18) (m + 20) (m + 21) h h' ∧ ∃ sz' lR' lA' lB' pk', moL h' m sz' lR' lA' lB' pk' ∧ moD (vRed l.length 0 l) dd sz' lR' lA' lB' ∧ (∀ i, i ≠ dd → sz' i = sz i) ∧ ∀ i, (i < 6 * dd ∨ 6 * dd + 6 ≤ i) → lR' i = lR i ∧ lA' i = lA i ∧ lB' i = lB i)) := by
  refine XM.of rfl (Nat.le_of_ble_eq_true rfl) ?_
  have loop : ∀ (k a : Nat) (l' : List vA) (h' : xH) (sz' lR' lA' lB' : Nat → Nat) (pk' : Nat → Option Nat), a + k = l'.length → 1 ≤ l'.length → l'.length ≤ 6 → vBdL l' → vRed k a l' = vRed l.length 0 l → xfr2 (m + 14) (m + 18) (m + 20) (m + 21) h h' → moL h' m sz' lR' lA' lB' pk' → moD l' dd sz' lR' lA' lB' → (∀ i, i ≠ dd → sz' i = sz i) → (∀ i, (i < 6 * dd ∨ 6 * dd + 6 ≤ i) → lR' i = lR i ∧ lA' i = lA i ∧ lB' i = lB i) → XW (x_rm d 0 0) k_Mod_reduce L xs (x_mq 0 0 (qV n (fun h' => xfr2 (m + 14) (m + 18) (m + 20) (m + 21) h h' ∧ ∃ sz' lR' lA' lB' pk', moL h' m sz' lR' lA' lB' pk' ∧ moD (vRed l.length 0 l) dd sz' lR' lA' lB' ∧ (∀ i, i ≠ dd → sz' i = sz i) ∧ ∀ i, (i < 6 * dd ∨ 6 * dd + 6 ≤ i) → lR' i = lR i ∧ lA' i = lA i ∧ lB' i = lB i))) 0 0 2 [(0, .ref m), (1, .int (nI dd)), (2, .int (nI a))] [] n h' := by
    intro k
    induction k with
    | zero =>
      intro a l' h' sz' lR' lA' lB' pk' ha q1 q6 qb e f1 q2 q3 q4 q5
      have p0' := (f1 m (by omega) (by omega)).trans p0
      have q2' := q2
      obtain ⟨c0, c1, c2, c3, c4⟩ := q2'
      have es := q3.1
      refine xr_iload_n a_Mod_reduce_2 rfl ?_
      refine xr_aload_n a_Mod_reduce_3 rfl ?_
      apply xr_getf a_Mod_reduce_4
      · (repeat' (first | assumption | exact va_up_self _ _ _ | refine x_lk (by omega) ?_))
      · rfl
      refine xr_iload_n a_Mod_reduce_7 rfl ?_
      apply xn_iaload a_Mod_reduce_8
      · (repeat' (first | assumption | exact va_up_self _ _ _ | refine x_lk (by omega) ?_))
      · omega
      · omega
      refine xn_icmp_ge a_Mod_reduce_9 (by omega) (by omega) (fun b9 => ?_) (fun b9 => ?_)
      · refine xr_return a_Mod_reduce_77 rfl (by omega) (by omega) ?_
        refine ⟨rfl, rfl, f1, sz', lR', lA', lB', pk', q2, ?_, q4, q5⟩
        rw [← e]
        exact q3
      · omega
    | succ k ih =>
      intro a l' h' sz' lR' lA' lB' pk' ha q1 q6 qb e f1 q2 q3 q4 q5
      have p0' := (f1 m (by omega) (by omega)).trans p0
      have q2' := q2
      obtain ⟨c0, c1, c2, c3, c4⟩ := q2'
      have es := q3.1
      have bd : ∀ j, j < l'.length → lR' (6 * dd + j) < 100 ∧ lA' (6 * dd + j) < 100 ∧ lB' (6 * dd + j) < 100 := by
        intro j hj
        have := qb.at q3.2 hj
        exact ⟨by omega, by omega, by omega⟩
      have cM := t_Mod_maps (d := 1) (L := L) (xs := xs) (n := n) (dd := dd) (e := dd) (nd := l'.length) (n' := l'.length) (lo := some a) p0' c0 c1 c2 c3 c4 hdd hdd es es q1 q6 q6 (fun k hk => by cases hk; omega) bd bd (by omega)
      rw [vB_c (vMP_but q3.2)] at cM
      refine xr_iload_n a_Mod_reduce_2 rfl ?_
      refine xr_aload_n a_Mod_reduce_3 rfl ?_
      apply xr_getf a_Mod_reduce_4
      · (repeat' (first | assumption | exact va_up_self _ _ _ | refine x_lk (by omega) ?_))
      · rfl
      refine xr_iload_n a_Mod_reduce_7 rfl ?_
      apply xn_iaload a_Mod_reduce_8
      · (repeat' (first | assumption | exact va_up_self _ _ _ | refine x_lk (by omega) ?_))
      · omega
      · omega
      refine xn_icmp_ge a_Mod_reduce_9 (by omega) (by omega) (fun b9 => ?_) (fun b9 => ?_)
      · omega
      · refine xr_aload_n a_Mod_reduce_12 rfl ?_
        refine xr_iload_n a_Mod_reduce_13 rfl ?_
        refine xr_iload_n a_Mod_reduce_14 rfl ?_
        refine xr_iload_n a_Mod_reduce_15 rfl ?_
        refine xr_invV a_Mod_reduce_16 (by (repeat' (first | assumption | exact va_up_self _ _ _ | refine x_lk (by omega) ?_))) (cM) rfl rfl (by omega) (by omega) (by omega) (Nat.le_of_ble_eq_true rfl) ?_
        rintro _ _ h1 ⟨rfl, rfl, pk1, rfl⟩
        refine xn_if_eq a_Mod_reduce_19 (vB_lt31 _) (fun b19 => ?_) (fun b19 => ?_)
        · first | refine xn_iinc a_Mod_reduce_71 rfl (by decide) rfl ?_ | refine xr_iinc a_Mod_reduce_71 rfl rfl (by decide) rfl ?_
          refine xr_goto a_Mod_reduce_74 ?_
          refine xr_ls [(0, .ref m), (1, .int (nI dd)), (2, .int (nI (a + 1)))] ⟨rfl, rfl, rfl, trivial⟩ ?_
          exact ih (a + 1) l' _ sz' lR' lA' lB' pk1 (by omega) q1 q6 qb (by rw [← vRed_no (vB_0 b19)]; exact e) (f1.up (by omega)) ⟨x_lk (by omega) c0, x_lk (by omega) c1, x_lk (by omega) c2, x_lk (by omega) c3, up_self _ _ _⟩ q3 q4 q5
        · have hm := vB_1 b19
          obtain ⟨N, hN⟩ : ∃ N, l'.length = N + 1 := ⟨l'.length - 1, by omega⟩
          have e5 : (l'.eraseIdx a).length = N := by rw [List.length_eraseIdx, if_pos (by omega), hN]; rfl
          have hN1 : 1 ≤ N := by
            obtain ⟨σ, _, hσ⟩ := hm
            cases hz : l'.eraseIdx a with
            | nil =>
              have := hσ _ (vAt_mem (l := l') (j := 0) (by omega))
              rw [hz] at this
              cases this
            | cons x y => rw [hz] at e5; rw [← e5]; simp
          have pr1 : vRep l' (N + 1) (fun i => lR' (6 * dd + i)) (fun i => lA' (6 * dd + i)) (fun i => lB' (6 * dd + i)) := by
            rw [← hN]; exact q3.2
          have shift : ∀ (q j : Nat) (h2 : xH), j + q = N → a ≤ j → xfr2 (m + 14) (m + 18) (m + 20) (m + 21) h h2 → moL h2 m (va_up sz' dd N) (vShf lR' (6 * dd + a) (6 * dd + j)) (vShf lA' (6 * dd + a) (6 * dd + j)) (vShf lB' (6 * dd + a) (6 * dd + j)) pk1 → XW (x_rm d 0 0) k_Mod_reduce L xs (x_mq 0 0 (qV n (fun h' => xfr2 (m + 14) (m + 18) (m + 20) (m + 21) h h' ∧ ∃ sz' lR' lA' lB' pk', moL h' m sz' lR' lA' lB' pk' ∧ moD (vRed l.length 0 l) dd sz' lR' lA' lB' ∧ (∀ i, i ≠ dd → sz' i = sz i) ∧ ∀ i, (i < 6 * dd ∨ 6 * dd + 6 ≤ i) → lR' i = lR i ∧ lA' i = lA i ∧ lB' i = lB i))) 0 0 34 [(0, .ref m), (1, .int (nI dd)), (2, .int (nI a)), (3, .int (nI j))] [] n h2 := by
            intro q
            induction q with
            | zero =>
              intro j h2 hj haj f2 z
              have p02 := (f2 m (by omega) (by omega)).trans p0
              have z' := z
              obtain ⟨t0, t1, t2, t3, t4⟩ := z'
              have ej : j = N := by omega
              subst ej
              refine xr_iload_n a_Mod_reduce_34 rfl ?_
              refine xr_aload_n a_Mod_reduce_35 rfl ?_
              apply xr_getf a_Mod_reduce_36
              · (repeat' (first | assumption | exact va_up_self _ _ _ | refine x_lk (by omega) ?_))
              · rfl
              refine xr_iload_n a_Mod_reduce_39 rfl ?_
              apply xn_iaload a_Mod_reduce_40
              · (repeat' (first | assumption | exact va_up_self _ _ _ | refine x_lk (by omega) ?_))
              · omega
              · omega
              rw [up_self]
              refine xn_icmp_ge a_Mod_reduce_41 (by omega) (by omega) (fun b41 => ?_) (fun b41 => ?_)
              · refine xr_goto a_Mod_reduce_68 ?_
                refine xr_ls [(0, .ref m), (1, .int (nI dd)), (2, .int (nI a))] ⟨rfl, rfl, rfl, trivial⟩ ?_
                refine ih a (l'.eraseIdx a) h2 _ _ _ _ pk1 (by omega) (by omega) (by omega) (qb.er a) (by rw [← vRed_yes hm]; exact e) f2 z ⟨by rw [up_self, e5], ?_⟩ (fun i hi => by rw [up_ne hi]; exact q4 i hi) (fun i hi => ?_)
                · rw [e5]; exact vShf_er pr1 (by omega)
                · have e6 : ∀ f : Nat → Nat, vShf f (6 * dd + a) (6 * dd + j) i = f i := fun f => if_neg (by omega)
                  rw [e6, e6, e6]
                  exact q5 i hi
              · omega
            | succ q ihq =>
              intro j h2 hj haj f2 z
              have p02 := (f2 m (by omega) (by omega)).trans p0
              have z' := z
              obtain ⟨t0, t1, t2, t3, t4⟩ := z'
              have cV := t_Mod_move (d := 0) (L := L) (xs := xs) (n := n) (f := 6 * dd + j + 1) (t := 6 * dd + j) p02 z (by omega) (by omega)
              rw [vShf_s _ (by omega), vShf_s _ (by omega), vShf_s _ (by omega)] at cV
              refine xr_iload_n a_Mod_reduce_34 rfl ?_
              refine xr_aload_n a_Mod_reduce_35 rfl ?_
              apply xr_getf a_Mod_reduce_36
              · (repeat' (first | assumption | exact va_up_self _ _ _ | refine x_lk (by omega) ?_))
              · rfl
              refine xr_iload_n a_Mod_reduce_39 rfl ?_
              apply xn_iaload a_Mod_reduce_40
              · (repeat' (first | assumption | exact va_up_self _ _ _ | refine x_lk (by omega) ?_))
              · omega
              · omega
              rw [up_self]
              refine xn_icmp_ge a_Mod_reduce_41 (by omega) (by omega) (fun b41 => ?_) (fun b41 => ?_)
              · omega
              · refine xr_aload_n a_Mod_reduce_44 rfl ?_
                refine xr_bipush a_Mod_reduce_45 (v := nI 6) (by decide +kernel) ?_
                refine xr_iload_n a_Mod_reduce_47 rfl ?_
                first | refine xn_imul a_Mod_reduce_48 ?_ | refine xr_imul a_Mod_reduce_48 ?_
                refine xr_iload_n a_Mod_reduce_49 rfl ?_
                first | refine xn_iadd a_Mod_reduce_50 ?_ | refine xr_iadd a_Mod_reduce_50 ?_
                refine xr_iconst a_Mod_reduce_51 (v := nI 1) (by decide +kernel) ?_
                first | refine xn_iadd a_Mod_reduce_52 ?_ | refine xr_iadd a_Mod_reduce_52 ?_
                refine xr_bipush a_Mod_reduce_53 (v := nI 6) (by decide +kernel) ?_
                refine xr_iload_n a_Mod_reduce_55 rfl ?_
                first | refine xn_imul a_Mod_reduce_56 ?_ | refine xr_imul a_Mod_reduce_56 ?_
                refine xr_iload_n a_Mod_reduce_57 rfl ?_
                first | refine xn_iadd a_Mod_reduce_58 ?_ | refine xr_iadd a_Mod_reduce_58 ?_
                refine xr_invV a_Mod_reduce_59 (by (repeat' (first | assumption | exact va_up_self _ _ _ | refine x_lk (by omega) ?_))) (cV) rfl rfl (by omega) (by omega) (by omega) (Nat.le_of_ble_eq_true rfl) ?_
                rintro _ _ h3 ⟨rfl, rfl, f3, z3⟩
                first | refine xn_iinc a_Mod_reduce_62 rfl (by decide) rfl ?_ | refine xr_iinc a_Mod_reduce_62 rfl rfl (by decide) rfl ?_
                refine xr_goto a_Mod_reduce_65 ?_
                refine xr_ls [(0, .ref m), (1, .int (nI dd)), (2, .int (nI a)), (3, .int (nI (j + 1)))] ⟨rfl, rfl, rfl, rfl, trivial⟩ ?_
                exact ihq (j + 1) h3 (by omega) (by omega) (f2.tr f3.gap) z3
          refine xr_aload_n a_Mod_reduce_22 rfl ?_
          apply xr_getf a_Mod_reduce_23
          · (repeat' (first | assumption | exact va_up_self _ _ _ | refine x_lk (by omega) ?_))
          · rfl
          refine xr_iload_n a_Mod_reduce_26 rfl ?_
          refine xr_dup2 a_Mod_reduce_27 rfl rfl ?_
          apply xn_iaload a_Mod_reduce_28
          · (repeat' (first | assumption | exact va_up_self _ _ _ | refine x_lk (by omega) ?_))
          · omega
          · omega
          refine xr_iconst a_Mod_reduce_29 (v := nI 1) (by decide +kernel) ?_
          rw [es, hN]
          first | refine xn_isub a_Mod_reduce_30 (by omega) ?_ | refine xr_isub a_Mod_reduce_30 ?_
          apply xn_iastore a_Mod_reduce_31
          · (repeat' (first | assumption | exact va_up_self _ _ _ | refine x_lk (by omega) ?_))
          · omega
          · omega
          refine xr_iload_n a_Mod_reduce_32 rfl ?_
          refine xr_istore_n a_Mod_reduce_33 (by decide) rfl ?_
          refine xr_ls [(0, .ref m), (1, .int (nI dd)), (2, .int (nI a)), (3, .int (nI a))] ⟨rfl, rfl, rfl, rfl, trivial⟩ ?_
          refine shift (N - a) a _ (by omega) (Nat.le_refl _) ((f1.up (by omega)).up (by omega)) ?_
          rw [vShf_0, vShf_0, vShf_0]
          exact ⟨up_self _ _ _, x_lk (by omega) (x_lk (by omega) c1), x_lk (by omega) (x_lk (by omega) c2), x_lk (by omega) (x_lk (by omega) c3), x_lk (by omega) (up_self _ _ _)⟩
  refine xr_iconst a_Mod_reduce_0 (v := nI 0) (by decide +kernel) ?_
  refine xr_istore_n a_Mod_reduce_1 (by decide) rfl ?_
  refine xr_ls [(0, .ref m), (1, .int (nI dd)), (2, .int (nI 0))] ⟨rfl, rfl, rfl, trivial⟩ ?_
  exact loop l.length 0 l h sz lR lA lB pk (by omega) h1 h6 hb rfl xfr2.rf p hl (fun _ _ => rfl) (fun _ _ => ⟨rfl, rfl, rfl⟩)
end T60

