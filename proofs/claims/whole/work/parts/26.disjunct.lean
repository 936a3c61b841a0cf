/-! Disjunct -/
abbrev vRel : Type := Nat × (Nat → Nat) × (Nat → Nat) × Nat × Nat
def isRs (h : xH) (ra rb : Nat) (ρ : Nat → vRel) : Prop := (∃ f, h ra = cQ 3 4 f ∧ ∀ i, i < 4 → f i = some (rb + 3 * i)) ∧ ∀ i, i < 4 → isRel h (rb + 3 * i) (ρ i).1 (ρ i).2.1 (ρ i).2.2.1 (ρ i).2.2.2.1 (ρ i).2.2.2.2
theorem isRs.sm {h h' : xH} {ra rb : Nat} {ρ : Nat → vRel} (p : isRs h ra rb ρ) (q1 : h' ra = h ra) (q : xsm rb (rb + 12) h h') : isRs h' ra rb ρ := by
  obtain ⟨⟨f, p1, p2⟩, p3⟩ := p
  exact ⟨⟨f, q1.trans p1, p2⟩, fun i hi => (p3 i hi).sm (q.mo (by omega) (by omega))⟩
def xfr2 (a b c d : Nat) (h h' : xH) : Prop := ∀ q, (q < a ∨ b ≤ q) → (q < c ∨ d ≤ q) → h' q = h q
theorem xfr2.rf {a b c d : Nat} {h : xH} : xfr2 a b c d h h := fun _ _ _ => rfl
theorem xfr2.tr {a b c d : Nat} {h h1 h2 : xH} (p : xfr2 a b c d h h1) (q : xfr2 a b c d h1 h2) : xfr2 a b c d h h2 := fun i h1 h2 => (q i h1 h2).trans (p i h1 h2)
theorem xfr2.up {a b c d r : Nat} {h h' : xH} {e : Option va_E} (p : xfr2 a b c d h h') (hr : (a ≤ r ∧ r < b) ∨ (c ≤ r ∧ r < d)) : xfr2 a b c d h (va_up h' r e) := fun i h1 h2 => (up_ne (by omega)).trans (p i h1 h2)
theorem xfr.two {a b a' b' c d : Nat} {h h' : xH} (p : xfr a' b' h h') (hr : (a ≤ a' ∧ b' ≤ b) ∨ (c ≤ a' ∧ b' ≤ d)) : xfr2 a b c d h h' := fun i h1 h2 => p i (by omega)
theorem xfr2.sm {a b c d a' b' : Nat} {h h' : xH} (p : xfr2 a b c d h h') (h1 : b' ≤ a ∨ b ≤ a') (h2 : b' ≤ c ∨ d ≤ a') : xsm a' b' h h' := fun i g1 g2 => p i (by omega) (by omega)
theorem xfr2.one {a b c d a' b' : Nat} {h h' : xH} (p : xfr2 a b c d h h') (h1 : a' ≤ a ∧ b ≤ b') (h2 : a' ≤ c ∧ d ≤ b') : xfr a' b' h h' := fun i g => p i (by omega) (by omega)
/-- a disjunct with its list -/
def isDl (h : xH) (r : Nat) (l : List vA) (pt : Nat → Option Nat) (dr bl : Nat) : Prop := ∃ H F S, isDj h r l.length H F S pt dr bl ∧ vRep l l.length H F S
theorem isDl.sm {h h' : xH} {r : Nat} {l : List vA} {pt : Nat → Option Nat} {dr bl : Nat} (p : isDl h r l pt dr bl) (q : xsm r (r + 6) h h') : isDl h' r l pt dr bl := by
  obtain ⟨H, F, S, p1, p2⟩ := p
  exact ⟨H, F, S, p1.sm q, p2⟩
def vBdL (l : List vA) : Prop := ∀ a ∈ l, a.1 < 4 ∧ a.2.1 < 34 ∧ a.2.2 < 34
theorem vBdL.bd {l : List vA} {n : Nat} {H F S : Nat → Nat} (h : vBdL l) (p : vRep l n H F S) : vBd n H F S := by
  intro i hi
  have := h _ (List.mem_of_getElem? (p.ix hi))
  exact ⟨by have := this.1; omega, this.2.1, this.2.2⟩
theorem vBdL.at {l : List vA} {n : Nat} {H F S : Nat → Nat} (h : vBdL l) (p : vRep l n H F S) {i : Nat} (hi : i < n) : H i < 4 ∧ F i < 34 ∧ S i < 34 := h _ (List.mem_of_getElem? (p.ix hi))
theorem vBdL.er {l : List vA} (h : vBdL l) (i : Nat) : vBdL (l.eraseIdx i) := fun a ha => h a (vMem_erase ha)
theorem vRep.len {l : List vA} {n : Nat} {H F S : Nat → Nat} (p : vRep l n H F S) (m : Nat) (h : n = m) : vRep l m H F S := h ▸ p
section T26
variable {d L : Nat} {xs : Nat → Int32} {n : Nat} {h : xH} {r : Nat}
theorem t_Disjunct_unfolded {q m i t : Nat} {H F S : Nat → Nat} (p : isAL h q 3 m H F S) (hi : i < 3) (ht : t < 22) : XM d 0 0 k_Disjunct_unfolded L xs [.int (nI t), .ref q, .int (nI i)] n h (qR n h (nI (vUnf i (F i) (S i) t))) := by
  obtain ⟨p0, p1, p2, p3⟩ := p
  refine XM.of rfl (Nat.le_of_ble_eq_true rfl) ?_
  unfold vUnf
  refine xr_iload_n a_Disjunct_unfolded_0 rfl ?_
  refine xr_bipush a_Disjunct_unfolded_1 (v := nI 16) (by decide +kernel) ?_
  refine xn_icmp_ge a_Disjunct_unfolded_3 (by omega) (by omega) (fun b3 => ?_) (fun b3 => ?_)
  · rw [if_neg (by omega)]
    refine xr_iload_n a_Disjunct_unfolded_8 rfl ?_
    refine xr_bipush a_Disjunct_unfolded_9 (v := nI 16) (by decide +kernel) ?_
    refine xn_icmp_ne a_Disjunct_unfolded_11 (by omega) (by omega) (fun b11 => ?_) (fun b11 => ?_)
    · rw [if_neg b11]
      refine xr_iload_n a_Disjunct_unfolded_21 rfl ?_
      refine xr_bipush a_Disjunct_unfolded_22 (v := nI 17) (by decide +kernel) ?_
      refine xn_icmp_ne a_Disjunct_unfolded_24 (by omega) (by omega) (fun b24 => ?_) (fun b24 => ?_)
      · rw [if_neg b24]
        refine xr_iconst a_Disjunct_unfolded_34 (v := nI 4) (by decide +kernel) ?_
        refine xr_iconst a_Disjunct_unfolded_35 (v := nI 4) (by decide +kernel) ?_
        refine xr_iload_n a_Disjunct_unfolded_36 rfl ?_
        first | refine xn_imul a_Disjunct_unfolded_37 ?_ | refine xr_imul a_Disjunct_unfolded_37 ?_
        first | refine xn_iadd a_Disjunct_unfolded_38 ?_ | refine xr_iadd a_Disjunct_unfolded_38 ?_
        refine xr_iload_n a_Disjunct_unfolded_39 rfl ?_
        first | refine xn_iadd a_Disjunct_unfolded_40 ?_ | refine xr_iadd a_Disjunct_unfolded_40 ?_
        refine xr_ireturn a_Disjunct_unfolded_41 rfl rfl (by omega) (by omega) ?_
        exact ⟨rfl, rfl, rfl⟩
      · rw [if_pos b24]
        refine xr_aload_n a_Disjunct_unfolded_27 rfl ?_
        apply xr_getf a_Disjunct_unfolded_28
        · (repeat' (first | assumption | exact va_up_self _ _ _ | refine x_lk (by omega) ?_))
        · rfl
        refine xr_iload_n a_Disjunct_unfolded_31 rfl ?_
        apply xn_iaload a_Disjunct_unfolded_32
        · (repeat' (first | assumption | exact va_up_self _ _ _ | refine x_lk (by omega) ?_))
        · omega
        · omega
        refine xr_ireturn a_Disjunct_unfolded_33 rfl rfl (by omega) (by omega) ?_
        exact ⟨rfl, rfl, rfl⟩
    · rw [if_pos b11]
      refine xr_aload_n a_Disjunct_unfolded_14 rfl ?_
      apply xr_getf a_Disjunct_unfolded_15
      · (repeat' (first | assumption | exact va_up_self _ _ _ | refine x_lk (by omega) ?_))
      · rfl
      refine xr_iload_n a_Disjunct_unfolded_18 rfl ?_
      apply xn_iaload a_Disjunct_unfolded_19
      · (repeat' (first | assumption | exact va_up_self _ _ _ | refine x_lk (by omega) ?_))
      · omega
      · omega
      refine xr_ireturn a_Disjunct_unfolded_20 rfl rfl (by omega) (by omega) ?_
      exact ⟨rfl, rfl, rfl⟩
  · rw [if_pos b3]
    refine xr_iload_n a_Disjunct_unfolded_6 rfl ?_
    refine xr_ireturn a_Disjunct_unfolded_7 rfl rfl (by omega) (by omega) ?_
    exact ⟨rfl, rfl, rfl⟩
theorem t_Disjunct_begin {l : List vA} {pt : Nat → Option Nat} {dr bl : Nat} (p : isDl h r l pt dr bl) (hd : 1 ≤ d) : XM d 0 0 k_Disjunct_begin L xs [.ref r] n h (qV n (fun h' => xfr r (r + 6) h h' ∧ isDl h' r [] (vClr pt 6) 0 0)) := by
  obtain ⟨H, F, S, ⟨p0, pA, p2⟩, -⟩ := p
  have a0 := pA.1
  refine XM.of rfl (Nat.le_of_ble_eq_true rfl) ?_
  refine xr_aload_n a_Disjunct_begin_0 rfl ?_
  apply xr_getf a_Disjunct_begin_1
  · (repeat' (first | assumption | exact va_up_self _ _ _ | refine x_lk (by omega) ?_))
  · rfl
  refine xr_invV a_Disjunct_begin_4 (by (repeat' (first | assumption | exact va_up_self _ _ _ | refine x_lk (by omega) ?_))) (t_AtomList_makeEmpty (d := 0) pA) rfl rfl (by omega) (by omega) (by omega) (Nat.le_of_ble_eq_true rfl) ?_
  rintro _ _ h1 ⟨rfl, rfl, f1, q1⟩
  refine xr_aload_n a_Disjunct_begin_7 rfl ?_
  refine xr_iconst a_Disjunct_begin_8 (v := nI 0) (by decide +kernel) ?_
  apply xr_putf a_Disjunct_begin_9
  · exact (f1.get (by omega) p0)
  · exact Nat.le_of_ble_eq_true rfl
  · rfl
  · rfl
  refine xr_aload_n a_Disjunct_begin_12 rfl ?_
  refine xr_iconst a_Disjunct_begin_13 (v := nI 0) (by decide +kernel) ?_
  apply xr_putf a_Disjunct_begin_14
  · (repeat' (first | assumption | exact va_up_self _ _ _ | refine x_lk (by omega) ?_))
  · exact Nat.le_of_ble_eq_true rfl
  · rfl
  · rfl
  refine xr_aload_n a_Disjunct_begin_17 rfl ?_
  apply xr_getf a_Disjunct_begin_18
  · (repeat' (first | assumption | exact va_up_self _ _ _ | refine x_lk (by omega) ?_))
  · rfl
  refine xr_iconst a_Disjunct_begin_21 (v := -1) (by decide +kernel) ?_
  refine xr_invS a_Disjunct_begin_22 (t_fill (d := 0) (pt := pt) (N := 6) (x_lk (by omega) (x_lk (by omega) (f1.get (by omega) p2))) (by omega)) rfl rfl (by omega) (by omega) (by omega) (Nat.le_of_ble_eq_true rfl) ?_
  rintro _ _ h2 ⟨rfl, rfl, rfl⟩
  refine xr_return a_Disjunct_begin_25 rfl (by omega) (by omega) ?_
  refine ⟨rfl, rfl, ?_, H, F, S, ⟨x_lk (by omega) (up_self _ _ _), ?_, up_self _ _ _⟩, vRep.nil⟩
  · exact (((f1.mo (by omega) (by omega)).up (by omega) (by omega)).up (by omega) (by omega)).up (by omega) (by omega)
  · exact ((q1.sm (xsm_up (by omega))).sm (xsm_up (by omega))).sm (xsm_up (by omega))
theorem t_Disjunct_addUnfolded {l rl : List vA} {pt : Nat → Option Nat} {dr bl u q i mq : Nat} {RH RF RS QH QF QS : Nat → Nat} (p : isDl h r l pt dr bl) (pu : isAL h u 2 rl.length RH RF RS) (eu : vRep rl rl.length RH RF RS) (pq : isAL h q 3 mq QH QF QS) (hu : u + 4 ≤ r ∨ r + 6 ≤ u) (hq : q + 4 ≤ r ∨ r + 6 ≤ q) (hl : l.length + rl.length ≤ 6) (hr2 : rl.length ≤ 2) (hi : i < 3) (ht : vTm 22 rl) (hd : 2 ≤ d) : XM d 0 0 k_Disjunct_addUnfolded L xs [.ref r, .ref u, .ref q, .int (nI i)] n h (qV n (fun h' => xfr r (r + 6) h h' ∧ isDl h' r (l ++ rl.map (vUnfA i (QH i, QF i, QS i))) pt dr bl)) := by
  refine XM.of rfl (Nat.le_of_ble_eq_true rfl) ?_
  have loop : ∀ (k j : Nat) (h' : xH), j + k = rl.length → xfr r (r + 6) h h' → isDl h' r (l ++ (rl.take j).map (vUnfA i (QH i, QF i, QS i))) pt dr bl → XW (x_rm d 0 0) k_Disjunct_addUnfolded L xs (x_mq 0 0 (qV n (fun h' => xfr r (r + 6) h h' ∧ isDl h' r (l ++ rl.map (vUnfA i (QH i, QF i, QS i))) pt dr bl))) 0 0 3 [(0, .ref r), (1, .ref u), (2, .ref q), (3, .int (nI i)), (4, .int (nI j))] [] n h' := by
    intro k
    induction k with
    | zero =>
      intro j h' hj f1 q1
      have pu' := pu.sm (f1.sm hu)
      obtain ⟨u0, u1, u2, u3⟩ := pu'
      refine xr_iload a_Disjunct_addUnfolded_3 rfl ?_
      refine xr_aload_n a_Disjunct_addUnfolded_5 rfl ?_
      apply xr_getf a_Disjunct_addUnfolded_6
      · (repeat' (first | assumption | exact va_up_self _ _ _ | refine x_lk (by omega) ?_))
      · rfl
      refine xn_icmp_ge a_Disjunct_addUnfolded_9 (by omega) (by omega) (fun b9 => ?_) (fun b9 => ?_)
      · refine xr_return a_Disjunct_addUnfolded_57 rfl (by omega) (by omega) ?_
        refine ⟨rfl, rfl, f1, ?_⟩
        rw [List.take_of_length_le (by omega)] at q1
        exact q1
      · omega
    | succ k ih =>
      intro j h' hj f1 q1
      have pu' := pu.sm (f1.sm hu)
      have pq' := pq.sm (f1.sm hq)
      obtain ⟨u0, u1, u2, u3⟩ := pu'
      have e1 := eu.ix (j := j) (by omega)
      have e2 := ht _ (List.mem_of_getElem? e1)
      obtain ⟨H, F, S, ⟨p0, pA, p2⟩, pr⟩ := q1
      have hlen : (l ++ (rl.take j).map (vUnfA i (QH i, QF i, QS i))).length = l.length + j := by
        rw [List.length_append, List.length_map, List.length_take]
        omega
      rw [hlen] at pA pr
      refine xr_iload a_Disjunct_addUnfolded_3 rfl ?_
      refine xr_aload_n a_Disjunct_addUnfolded_5 rfl ?_
      apply xr_getf a_Disjunct_addUnfolded_6
      · (repeat' (first | assumption | exact va_up_self _ _ _ | refine x_lk (by omega) ?_))
      · rfl
      refine xn_icmp_ge a_Disjunct_addUnfolded_9 (by omega) (by omega) (fun b9 => ?_) (fun b9 => ?_)
      · omega
      · refine xr_aload_n a_Disjunct_addUnfolded_12 rfl ?_
        apply xr_getf a_Disjunct_addUnfolded_13
        · (repeat' (first | assumption | exact va_up_self _ _ _ | refine x_lk (by omega) ?_))
        · rfl
        refine xr_aload_n a_Disjunct_addUnfolded_16 rfl ?_
        apply xr_getf a_Disjunct_addUnfolded_17
        · (repeat' (first | assumption | exact va_up_self _ _ _ | refine x_lk (by omega) ?_))
        · rfl
        refine xr_iload a_Disjunct_addUnfolded_20 rfl ?_
        apply xn_iaload a_Disjunct_addUnfolded_22
        · (repeat' (first | assumption | exact va_up_self _ _ _ | refine x_lk (by omega) ?_))
        · omega
        · omega
        refine xr_aload_n a_Disjunct_addUnfolded_23 rfl ?_
        apply xr_getf a_Disjunct_addUnfolded_24
        · (repeat' (first | assumption | exact va_up_self _ _ _ | refine x_lk (by omega) ?_))
        · rfl
        refine xr_iload a_Disjunct_addUnfolded_27 rfl ?_
        apply xn_iaload a_Disjunct_addUnfolded_29
        · (repeat' (first | assumption | exact va_up_self _ _ _ | refine x_lk (by omega) ?_))
        · omega
        · omega
        refine xr_aload_n a_Disjunct_addUnfolded_30 rfl ?_
        refine xr_iload_n a_Disjunct_addUnfolded_31 rfl ?_
        refine xr_invS a_Disjunct_addUnfolded_32 (t_Disjunct_unfolded (d := 0) (t := RF j) pq' hi e2.1) rfl rfl (by omega) (by omega) (by omega) (Nat.le_of_ble_eq_true rfl) ?_
        rintro _ _ h1 ⟨rfl, rfl, rfl⟩
        refine xr_aload_n a_Disjunct_addUnfolded_35 rfl ?_
        apply xr_getf a_Disjunct_addUnfolded_36
        · (repeat' (first | assumption | exact va_up_self _ _ _ | refine x_lk (by omega) ?_))
        · rfl
        refine xr_iload a_Disjunct_addUnfolded_39 rfl ?_
        apply xn_iaload a_Disjunct_addUnfolded_41
        · (repeat' (first | assumption | exact va_up_self _ _ _ | refine x_lk (by omega) ?_))
        · omega
        · omega
        refine xr_aload_n a_Disjunct_addUnfolded_42 rfl ?_
        refine xr_iload_n a_Disjunct_addUnfolded_43 rfl ?_
        refine xr_invS a_Disjunct_addUnfolded_44 (t_Disjunct_unfolded (d := 0) (t := RS j) pq' hi e2.2) rfl rfl (by omega) (by omega) (by omega) (Nat.le_of_ble_eq_true rfl) ?_
        rintro _ _ h1 ⟨rfl, rfl, rfl⟩
        refine xr_invV a_Disjunct_addUnfolded_47 (by exact pA.1) (t_AtomList_add (d := 1) pA (by omega) (by omega) (by omega)) rfl rfl (by omega) (by omega) (by omega) (Nat.le_of_ble_eq_true rfl) ?_
        rintro _ _ h1 ⟨rfl, rfl, f2, q2⟩
        rw [if_pos (by omega)] at q2
        refine xr_pop a_Disjunct_addUnfolded_50 rfl ?_
        first | refine xn_iinc a_Disjunct_addUnfolded_51 rfl (by decide) rfl ?_ | refine xr_iinc a_Disjunct_addUnfolded_51 rfl rfl (by decide) rfl ?_
        refine xr_goto a_Disjunct_addUnfolded_54 ?_
        refine xr_ls [(0, .ref r), (1, .ref u), (2, .ref q), (3, .int (nI i)), (4, .int (nI (j + 1)))] ⟨rfl, rfl, rfl, rfl, rfl, trivial⟩ ?_
        refine ih (j + 1) h1 (by omega) (f1.tr (f2.mo (by omega) (by omega))) ⟨va_up H (l.length + j) (RH j), va_up F (l.length + j) (vUnf i (QF i) (QS i) (RF j)), va_up S (l.length + j) (vUnf i (QF i) (QS i) (RS j)), ⟨f2.get (by omega) p0, ?_, f2.get (by omega) p2⟩, ?_⟩
        · have : (l ++ (rl.take (j + 1)).map (vUnfA i (QH i, QF i, QS i))).length = l.length + j + 1 := by
            rw [List.length_append, List.length_map, List.length_take]
            omega
          rw [this]
          exact q2
        · have e3 := pr.app (vUnfA i (QH i, QF i, QS i) (RH j, RF j, RS j))
          have e4 : l ++ (rl.take j).map (vUnfA i (QH i, QF i, QS i)) ++ [vUnfA i (QH i, QF i, QS i) (RH j, RF j, RS j)] = l ++ (rl.take (j + 1)).map (vUnfA i (QH i, QF i, QS i)) := by
            rw [List.take_add_one, e1, List.map_append, List.append_assoc]
            rfl
          rw [e4] at e3
          exact ⟨rfl, e3.2⟩
  refine xr_iconst a_Disjunct_addUnfolded_0 (v := nI 0) (by decide +kernel) ?_
  refine xr_istore a_Disjunct_addUnfolded_1 (by decide) rfl ?_
  refine xr_ls [(0, .ref r), (1, .ref u), (2, .ref q), (3, .int (nI i)), (4, .int (nI 0))] ⟨rfl, rfl, rfl, rfl, rfl, trivial⟩ ?_
  refine loop rl.length 0 h (by omega) xfr.rf ?_
  rw [List.take_zero, List.map_nil, List.append_nil]
  exact p
theorem t_Disjunct_takeSuperfluousOut {l : List vA} {pt : Nat → Option Nat} {dr bl q : Nat} {v1 v2 : Value} {lo : Int32} (p : isDl h r l pt dr bl) (pm : isMp h q v1 v2 lo vIm0) (hq : q + 3 ≤ r ∨ r + 6 ≤ q) (hb : vBdL l) (hl : l.length ≤ 6) (hd : 20 ≤ d) : XM d 0 0 k_Disjunct_takeSuperfluousOut L xs [.ref r, .ref q] n h (qV n (fun h' => xfr2 r (r + 6) q (q + 3) h h' ∧ isDl h' r (vRed l.length 0 l) pt dr bl ∧ ∃ v1 v2 lo, isMp h' q v1 v2 lo vIm0)) := by
  refine XM.of rfl (Nat.le_of_ble_eq_true rfl) ?_
  have loop : ∀ (k i : Nat) (l' : List vA) (h' : xH) (v1 v2 : Value) (lo : Int32), i + k = l'.length → l'.length ≤ 6 → vBdL l' → vRed k i l' = vRed l.length 0 l → xfr2 r (r + 6) q (q + 3) h h' → isDl h' r l' pt dr bl → isMp h' q v1 v2 lo vIm0 → XW (x_rm d 0 0) k_Disjunct_takeSuperfluousOut L xs (x_mq 0 0 (qV n (fun h' => xfr2 r (r + 6) q (q + 3) h h' ∧ isDl h' r (vRed l.length 0 l) pt dr bl ∧ ∃ v1 v2 lo, isMp h' q v1 v2 lo vIm0))) 0 0 10 [(0, .ref r), (1, .ref q), (2, .int (nI i)), (3, .int (nI k))] [] n h' := by
    intro k
    induction k with
    | zero =>
      intro i l' h' v1 v2 lo hi hl' hb' e f1 q1 q2
      refine xr_iload_n a_Disjunct_takeSuperfluousOut_10 rfl ?_
      refine xn_if_le a_Disjunct_takeSuperfluousOut_11 (by omega) (fun b11 => ?_) (fun b11 => ?_)
      · refine xr_return a_Disjunct_takeSuperfluousOut_50 rfl (by omega) (by omega) ?_
        refine ⟨rfl, rfl, f1, ?_, v1, v2, lo, q2⟩
        rw [← e]
        exact q1
      · omega
    | succ k ih =>
      intro i l' h' v1 v2 lo hi hl' hb' e f1 q1 q2
      obtain ⟨H, F, S, ⟨p0, pA, p2⟩, pr⟩ := q1
      have m0 := q2.1
      have bd := hb'.bd pr
      refine xr_iload_n a_Disjunct_takeSuperfluousOut_10 rfl ?_
      refine xn_if_le a_Disjunct_takeSuperfluousOut_11 (by omega) (fun b11 => ?_) (fun b11 => ?_)
      · omega
      · refine xr_aload_n a_Disjunct_takeSuperfluousOut_14 rfl ?_
        refine xr_aload_n a_Disjunct_takeSuperfluousOut_15 rfl ?_
        apply xr_getf a_Disjunct_takeSuperfluousOut_16
        · (repeat' (first | assumption | exact va_up_self _ _ _ | refine x_lk (by omega) ?_))
        · rfl
        refine xr_aload_n a_Disjunct_takeSuperfluousOut_19 rfl ?_
        apply xr_getf a_Disjunct_takeSuperfluousOut_20
        · (repeat' (first | assumption | exact va_up_self _ _ _ | refine x_lk (by omega) ?_))
        · rfl
        refine xr_iload_n a_Disjunct_takeSuperfluousOut_23 rfl ?_
        refine xr_invV a_Disjunct_takeSuperfluousOut_24 (by exact m0) (t_Mapper_maps (d := 13) (lo := some i) q2 pA pA (by omega) (by omega) hl' hl' (by omega) (by omega) bd bd (fun k hk => by cases hk; omega) (by omega)) rfl rfl (by omega) (by omega) (by omega) (Nat.le_of_ble_eq_true rfl) ?_
        rintro _ _ h1 ⟨rfl, rfl, rfl⟩
        rw [vB_c (vMP_but pr)]
        refine xn_if_eq a_Disjunct_takeSuperfluousOut_27 (vB_lt31 _) (fun b27 => ?_) (fun b27 => ?_)
        · first | refine xn_iinc a_Disjunct_takeSuperfluousOut_41 rfl (by decide) rfl ?_ | refine xr_iinc a_Disjunct_takeSuperfluousOut_41 rfl rfl (by decide) rfl ?_
          first | refine xn_idec a_Disjunct_takeSuperfluousOut_44 rfl (by decide) rfl ?_ | refine xr_iinc a_Disjunct_takeSuperfluousOut_44 rfl rfl (by decide) rfl ?_
          refine xr_goto a_Disjunct_takeSuperfluousOut_47 ?_
          refine xr_ls [(0, .ref r), (1, .ref q), (2, .int (nI (i + 1))), (3, .int (nI k))] ⟨rfl, rfl, rfl, rfl, trivial⟩ ?_
          refine ih (i + 1) l' _ _ _ _ (by omega) hl' hb' (by rw [← vRed_no (vB_0 b27)]; exact e) (f1.up (by omega)) ⟨H, F, S, ⟨x_lk (by omega) p0, pA.sm (xsm_up (by omega)), x_lk (by omega) p2⟩, pr⟩ ⟨up_self _ _ _, q2.2.sm (xsm_up (by omega))⟩
        · obtain ⟨m, hm⟩ : ∃ m, l'.length = m + 1 := ⟨l'.length - 1, by omega⟩
          have pA1 : isAL (va_up h' q (cJ 6 [.ref (q + 1), .ref (r + 1), .ref (r + 1), .int (oI (some i))])) (r + 1) 6 (m + 1) H F S := by
            rw [← hm]
            exact pA.sm (xsm_up (by omega))
          have pr1 : vRep l' (m + 1) H F S := by
            rw [← hm]
            exact pr
          have e5 : (l'.eraseIdx i).length = m := by rw [List.length_eraseIdx, if_pos (by omega), hm]; rfl
          refine xr_aload_n a_Disjunct_takeSuperfluousOut_30 rfl ?_
          apply xr_getf a_Disjunct_takeSuperfluousOut_31
          · exact (x_lk (by omega) p0)
          · rfl
          refine xr_iload_n a_Disjunct_takeSuperfluousOut_34 rfl ?_
          refine xr_invV a_Disjunct_takeSuperfluousOut_35 (by exact pA1.1) (t_AtomList_takeOut (d := 3) pA1 (i := i) (by omega) (by omega) (by omega) (by omega)) rfl rfl (by omega) (by omega) (by omega) (Nat.le_of_ble_eq_true rfl) ?_
          rintro _ _ h1 ⟨rfl, rfl, f2, q3⟩
          refine xr_goto a_Disjunct_takeSuperfluousOut_38 ?_
          first | refine xn_idec a_Disjunct_takeSuperfluousOut_44 rfl (by decide) rfl ?_ | refine xr_iinc a_Disjunct_takeSuperfluousOut_44 rfl rfl (by decide) rfl ?_
          refine xr_goto a_Disjunct_takeSuperfluousOut_47 ?_
          refine xr_ls [(0, .ref r), (1, .ref q), (2, .int (nI i)), (3, .int (nI k))] ⟨rfl, rfl, rfl, rfl, trivial⟩ ?_
          refine ih i (l'.eraseIdx i) h1 (.ref (r + 1)) (.ref (r + 1)) (oI (some i)) (by omega) (by omega) (hb'.er i) (by rw [← vRed_yes (vB_1 b27)]; exact e) ((f1.up (by omega)).tr (f2.two (by omega))) ⟨vRot H i (m - i), vRot F i (m - i), vRot S i (m - i), ⟨f2.get (by omega) (x_lk (by omega) p0), ?_, f2.get (by omega) (x_lk (by omega) p2)⟩, ?_⟩ ⟨f2.get (by omega) (up_self _ _ _), (q2.2.sm (xsm_up (by omega))).sm (f2.sm (by omega))⟩
          · rw [e5]
            exact q3
          · rw [e5]
            exact pr1.erase (by omega)
  have p' := p
  obtain ⟨H, F, S, ⟨p0, pA, p2⟩, pr⟩ := p
  have a0 := pA.1
  refine xr_iconst a_Disjunct_takeSuperfluousOut_0 (v := nI 0) (by decide +kernel) ?_
  refine xr_istore_n a_Disjunct_takeSuperfluousOut_1 (by decide) rfl ?_
  refine xr_aload_n a_Disjunct_takeSuperfluousOut_2 rfl ?_
  apply xr_getf a_Disjunct_takeSuperfluousOut_3
  · (repeat' (first | assumption | exact va_up_self _ _ _ | refine x_lk (by omega) ?_))
  · rfl
  apply xr_getf a_Disjunct_takeSuperfluousOut_6
  · (repeat' (first | assumption | exact va_up_self _ _ _ | refine x_lk (by omega) ?_))
  · rfl
  refine xr_istore_n a_Disjunct_takeSuperfluousOut_9 (by decide) rfl ?_
  refine xr_ls [(0, .ref r), (1, .ref q), (2, .int (nI 0)), (3, .int (nI l.length))] ⟨rfl, rfl, rfl, rfl, trivial⟩ ?_
  exact loop l.length 0 l h v1 v2 lo (by omega) hl hb rfl xfr2.rf p' pm
end T26

