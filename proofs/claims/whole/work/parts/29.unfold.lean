/-! Plan: all choices -/
def vOkV (ν : Nat → vVw) : Prop := ∀ v, v < 3 → (ν v).1 ≤ 2 ∧ ∀ i, i < (ν v).1 → ((ν v).2 i).1 ≤ 2 ∧ vTm 22 (vLs ((ν v).2 i))
theorem isCh.pre {h : xH} {r : Nat} {ch : Nat → Option Nat} {cs rs : List (List vA)} (p : isCh h r ch (cs ++ rs)) : isCh h r ch cs := by
  intro i rl hi
  refine p i rl ?_
  rw [List.getElem?_append_left (List.getElem?_eq_some_iff.mp hi).1]
  exact hi
section T29
variable {L : Nat} {xs : Nat → Int32} {n : Nat} {r : Nat} {π : Nat → Nat}
theorem t_Plan_unfoldFrom {q va vb : Nat} {ql : List vA} {ν : Nat → vVw} {QH QF QS : Nat → Nat} (er : vRep ql ql.length QH QF QS) (hv : vOkV ν) (hQ : ∀ i, i < ql.length → QH i < 3) (hql : ql.length ≤ 3) (hq : q + 4 ≤ r ∨ r + 54 ≤ q) (hva : va < r ∨ r + 54 ≤ va) (hvb : vb + 30 ≤ r ∨ r + 54 ≤ vb) : ∀ (m k : Nat), k + m = ql.length → ∀ (h : xH) (cnt : Nat) (ch : Nat → Option Nat) (D : Nat → vDs) (cs : List (List vA)), cs.length = k → isPl h r cnt π ch D → isAL h q 3 ql.length QH QF QS → isVs h va vb ν → isCh h r ch cs → cnt + (vCh (vVl ν) (ql.drop k)).length ≤ 8 → XM (m + 4) 0 0 k_Plan_unfoldFrom L xs [.ref r, .int (nI k), .ref q, .ref va] n h (qV n (fun h' => xfr r (r + 54) h h' ∧ ∃ ch' D', isPl h' r (cnt + (vCh (vVl ν) (ql.drop k)).length) π ch' D' ∧ isCh h' r ch' cs ∧ (∀ i, i < cnt → D' i = D i) ∧ ∀ j rs, (vCh (vVl ν) (ql.drop k))[j]? = some rs → ∃ pt, (∀ i, i < 6 → pt i = none) ∧ D' (cnt + j) = (vUnfL 0 ql (cs ++ rs), pt, 0, 0))) := by
  intro m
  induction m with
  | zero =>
    intro k hk h cnt ch D cs hcs p pq pv pc hc
    have hk' : k = ql.length := by omega
    have e0 : vCh (vVl ν) (ql.drop k) = [[]] := by rw [hk', List.drop_length]; rfl
    rw [e0] at hc ⊢
    have a0 := pq.1
    refine XM.of rfl (Nat.le_of_ble_eq_true rfl) ?_
    refine xr_iload_n a_Plan_unfoldFrom_0 rfl ?_
    refine xr_aload_n a_Plan_unfoldFrom_1 rfl ?_
    apply xr_getf a_Plan_unfoldFrom_2
    · (repeat' (first | assumption | exact va_up_self _ _ _ | refine x_lk (by omega) ?_))
    · rfl
    refine xn_icmp_lt a_Plan_unfoldFrom_5 (by omega) (by omega) (fun b5 => ?_) (fun b5 => ?_)
    · omega
    · refine xr_aload_n a_Plan_unfoldFrom_8 rfl ?_
      refine xr_aload_n a_Plan_unfoldFrom_9 rfl ?_
      refine xr_invV a_Plan_unfoldFrom_10 (by exact p.1) (t_Plan_formDisjunct (d := 3) p pq er pc hq (by omega) hql (by have : [([] : List (List vA))].length = 1 := rfl; omega) (by omega)) rfl rfl (by omega) (by omega) (by omega) (Nat.le_of_ble_eq_true rfl) ?_
      rintro _ _ h1 ⟨rfl, rfl, f1, pt, hpt, q1⟩
      refine xr_return a_Plan_unfoldFrom_13 rfl (by omega) (by omega) ?_
      refine ⟨rfl, rfl, f1, ch, _, q1, pc.sm f1, fun i hi => up_ne (by omega), fun j rs hj => ?_⟩
      have hj0 : j < 1 := (List.getElem?_eq_some_iff.mp hj).1
      have hj1 : j = 0 := by omega
      subst hj1
      cases hj
      refine ⟨pt, hpt, ?_⟩
      rw [List.append_nil]
      exact up_self _ _ _
  | succ m ih =>
    intro k hk h cnt ch D cs hcs p pq pv pc hc
    have hkl : k < ql.length := by omega
    have hv3 := hQ k hkl
    obtain ⟨v, hvv⟩ : ∃ v, v = QH k := ⟨_, rfl⟩
    have hv1 := hv v (by omega)
    let g : List vA → List (List (List vA)) := fun rl => (vCh (vVl ν) (ql.drop (k + 1))).map (rl :: ·)
    have e0 : vCh (vVl ν) (ql.drop k) = (vVl ν v).flatMap g := by
      rw [List.drop_eq_getElem?_toList_append, er.ix hkl, hvv]
      rfl
    rw [e0] at hc ⊢
    have hlen : ∀ i, (((vVl ν v).take i).flatMap g).length ≤ ((vVl ν v).flatMap g).length := by
      intro i
      have : (vVl ν v).flatMap g = ((vVl ν v).take i ++ (vVl ν v).drop i).flatMap g := by rw [List.take_append_drop]
      rw [this, List.flatMap_append, List.length_append]
      omega
    have a := pq
    obtain ⟨a0, a1, a2, a3⟩ := a
    obtain ⟨⟨fv, v0, v1⟩, v2⟩ := pv
    refine XM.of rfl (Nat.le_of_ble_eq_true rfl) ?_
    have loop : ∀ (w i : Nat) (h' : xH) (ch' : Nat → Option Nat) (D' : Nat → vDs), i + w = (ν v).1 → xfr r (r + 54) h h' → isPl h' r (cnt + (((vVl ν v).take i).flatMap g).length) π ch' D' → isCh h' r ch' cs → (∀ x, x < cnt → D' x = D x) → (∀ j rs, (((vVl ν v).take i).flatMap g)[j]? = some rs → ∃ pt, (∀ i, i < 6 → pt i = none) ∧ D' (cnt + j) = (vUnfL 0 ql (cs ++ rs), pt, 0, 0)) → XW (x_rm (m + 1 + 4) 0 0) k_Plan_unfoldFrom L xs (x_mq 0 0 (qV n (fun h' => xfr r (r + 54) h h' ∧ ∃ ch' D', isPl h' r (cnt + ((vVl ν v).flatMap g).length) π ch' D' ∧ isCh h' r ch' cs ∧ (∀ i, i < cnt → D' i = D i) ∧ ∀ j rs, ((vVl ν v).flatMap g)[j]? = some rs → ∃ pt, (∀ i, i < 6 → pt i = none) ∧ D' (cnt + j) = (vUnfL 0 ql (cs ++ rs), pt, 0, 0)))) 0 0 27 [(0, .ref r), (1, .int (nI k)), (2, .ref q), (3, .ref va), (4, .ref (vb + 10 * v)), (5, .int (nI i))] [] n h' := by
      intro w
      induction w with
      | zero =>
        intro i h' ch' D' hi f1 q1 q2 q3 q4
        obtain ⟨fr, w0, w1, w2, w3⟩ := v2 v (by omega)
        have w0' := f1.get (by omega) w0
        refine xr_iload a_Plan_unfoldFrom_27 rfl ?_
        refine xr_aload a_Plan_unfoldFrom_29 rfl ?_
        apply xr_getf a_Plan_unfoldFrom_31
        · (repeat' (first | assumption | exact va_up_self _ _ _ | refine x_lk (by omega) ?_))
        · rfl
        refine xn_icmp_ge a_Plan_unfoldFrom_34 (by omega) (by omega) (fun b34 => ?_) (fun b34 => ?_)
        · refine xr_return a_Plan_unfoldFrom_66 rfl (by omega) (by omega) ?_
          rw [List.take_of_length_le (by rw [vVl_len]; omega)] at q1 q4
          exact ⟨rfl, rfl, f1, ch', D', q1, q2, q3, q4⟩
        · omega
      | succ w ihw =>
        intro i h' ch' D' hi f1 q1 q2 q3 q4
        obtain ⟨fr, w0, w1, w2, w3⟩ := v2 v (by omega)
        have w0' := f1.get (by omega) w0
        have w1' := f1.get (by omega) w1
        have w3' := (w3 i (by omega)).sm (f1.sm (by omega))
        have hR := hv1.2 i (by omega)
        have q1' := q1
        obtain ⟨g0, ⟨e', g1, g2⟩, g3, ⟨y1, y2, lo', g4⟩, g5, g6⟩ := q1
        have step := hlen (i + 1)
        have eA : (vVl ν v).take (i + 1) = (vVl ν v).take i ++ [vLs ((ν v).2 i)] := by rw [List.take_add_one, vVl_get (by omega)]; rfl
        have eF : ((vVl ν v).take (i + 1)).flatMap g = ((vVl ν v).take i).flatMap g ++ (vCh (vVl ν) (ql.drop (k + 1))).map (vLs ((ν v).2 i) :: ·) := by
          rw [eA, List.flatMap_append]
          simp [g]
        rw [eF, List.length_append, List.length_map] at step
        have qp : isPl (va_up h' (r + 2) (cQ 6 3 (va_up ch' k (some (vb + 10 * v + 2 + 4 * i))))) r (cnt + (((vVl ν v).take i).flatMap g).length) π (va_up ch' k (some (vb + 10 * v + 2 + 4 * i))) D' := ⟨x_lk (by omega) g0, ⟨e', x_lk (by omega) g1, g2⟩, up_self _ _ _, ⟨y1, y2, lo', g4.sm (xsm_up (by omega))⟩, g5, fun j hj => (g6 j hj).sm (xsm_up (by omega))⟩
        have fU : xfr r (r + 54) h (va_up h' (r + 2) (cQ 6 3 (va_up ch' k (some (vb + 10 * v + 2 + 4 * i))))) := f1.up (by omega) (by omega)
        have qc : isCh (va_up h' (r + 2) (cQ 6 3 (va_up ch' k (some (vb + 10 * v + 2 + 4 * i))))) r (va_up ch' k (some (vb + 10 * v + 2 + 4 * i))) (cs ++ [vLs ((ν v).2 i)]) := by
          intro x rl hx
          by_cases hxk : x < k
          · rw [List.getElem?_append_left (by omega)] at hx
            obtain ⟨u, RH, RF, RS, c1, c2, c3, c4, c5⟩ := q2 x rl hx
            exact ⟨u, RH, RF, RS, by rw [up_ne (by omega)]; exact c1, c2.sm (xsm_up (by omega)), c3, c4, c5⟩
          · rw [List.getElem?_append_right (by omega)] at hx
            have hx1 : x - cs.length < 1 := (List.getElem?_eq_some_iff.mp hx).1
            have hx2 : x = k := by omega
            subst hx2
            rw [show x - cs.length = 0 by omega] at hx
            cases hx
            refine ⟨vb + 10 * v + 2 + 4 * i, ((ν v).2 i).2.1, ((ν v).2 i).2.2.1, ((ν v).2 i).2.2.2, up_self _ _ _, ?_, ?_, by omega, by rw [vLs_len]; exact hR.1, hR.2⟩
            · rw [vLs_len]; exact w3'.sm (xsm_up (by omega))
            · rw [vLs_len]; exact vLs_rep _
        have cR := ih (k + 1) (by omega) _ _ _ _ (cs ++ [vLs ((ν v).2 i)]) (by rw [List.length_append, hcs]; rfl) qp (pq.sm (fU.sm hq)) (isVs.sm ⟨⟨fv, v0, v1⟩, v2⟩ (fU _ hva) (fU.sm hvb)) qc (by omega)
        refine xr_iload a_Plan_unfoldFrom_27 rfl ?_
        refine xr_aload a_Plan_unfoldFrom_29 rfl ?_
        apply xr_getf a_Plan_unfoldFrom_31
        · (repeat' (first | assumption | exact va_up_self _ _ _ | refine x_lk (by omega) ?_))
        · rfl
        refine xn_icmp_ge a_Plan_unfoldFrom_34 (by omega) (by omega) (fun b34 => ?_) (fun b34 => ?_)
        · omega
        · refine xr_aload_n a_Plan_unfoldFrom_37 rfl ?_
          apply xr_getf a_Plan_unfoldFrom_38
          · (repeat' (first | assumption | exact va_up_self _ _ _ | refine x_lk (by omega) ?_))
          · rfl
          refine xr_iload_n a_Plan_unfoldFrom_41 rfl ?_
          refine xr_aload a_Plan_unfoldFrom_42 rfl ?_
          apply xr_getf a_Plan_unfoldFrom_44
          · (repeat' (first | assumption | exact va_up_self _ _ _ | refine x_lk (by omega) ?_))
          · rfl
          refine xr_iload a_Plan_unfoldFrom_47 rfl ?_
          apply xn_aaload a_Plan_unfoldFrom_49
          · (repeat' (first | assumption | exact va_up_self _ _ _ | refine x_lk (by omega) ?_))
          · rfl
          · omega
          · omega
          · exact w2 i (by omega)
          apply xr_aastore a_Plan_unfoldFrom_50
          · (repeat' (first | assumption | exact va_up_self _ _ _ | refine x_lk (by omega) ?_))
          · rfl
          · exact w3'.1
          · rfl
          · rfl
          · omega
          · omega
          refine xr_aload_n a_Plan_unfoldFrom_51 rfl ?_
          refine xr_iload_n a_Plan_unfoldFrom_52 rfl ?_
          refine xr_iconst a_Plan_unfoldFrom_53 (v := nI 1) (by decide +kernel) ?_
          first | refine xn_iadd a_Plan_unfoldFrom_54 ?_ | refine xr_iadd a_Plan_unfoldFrom_54 ?_
          refine xr_aload_n a_Plan_unfoldFrom_55 rfl ?_
          refine xr_aload_n a_Plan_unfoldFrom_56 rfl ?_
          refine xr_invV a_Plan_unfoldFrom_57 (by exact (x_lk (by omega) g0)) (cR) rfl rfl (by omega) (by omega) (by omega) (Nat.le_of_ble_eq_true rfl) ?_
          rintro _ _ h1 ⟨rfl, rfl, f2, ch1, D1, z1, z2, z3, z4⟩
          first | refine xn_iinc a_Plan_unfoldFrom_60 rfl (by decide) rfl ?_ | refine xr_iinc a_Plan_unfoldFrom_60 rfl rfl (by decide) rfl ?_
          refine xr_goto a_Plan_unfoldFrom_63 ?_
          refine xr_ls [(0, .ref r), (1, .int (nI k)), (2, .ref q), (3, .ref va), (4, .ref (vb + 10 * v)), (5, .int (nI (i + 1)))] ⟨rfl, rfl, rfl, rfl, rfl, rfl, trivial⟩ ?_
          refine ihw (i + 1) h1 ch1 D1 (by omega) (fU.tr f2) ?_ z2.pre (fun x hx => (z3 x (by omega)).trans (q3 x hx)) (fun j rs hj => ?_)
          · rw [eF, List.length_append, List.length_map, ← Nat.add_assoc]
            exact z1
          · rw [eF] at hj
            by_cases hjl : j < (((vVl ν v).take i).flatMap g).length
            · rw [List.getElem?_append_left hjl] at hj
              obtain ⟨pt, y3, y4⟩ := q4 j rs hj
              exact ⟨pt, y3, (z3 (cnt + j) (by omega)).trans y4⟩
            · rw [List.getElem?_append_right (by omega), List.getElem?_map] at hj
              cases hx : (vCh (vVl ν) (ql.drop (k + 1)))[j - (((vVl ν v).take i).flatMap g).length]? with
              | none => rw [hx] at hj; cases hj
              | some rs' =>
                rw [hx] at hj
                cases hj
                obtain ⟨pt, y3, y4⟩ := z4 _ rs' hx
                refine ⟨pt, y3, ?_⟩
                rw [show cnt + j = cnt + (((vVl ν v).take i).flatMap g).length + (j - (((vVl ν v).take i).flatMap g).length) by omega, y4, List.append_assoc]
                rfl
    refine xr_iload_n a_Plan_unfoldFrom_0 rfl ?_
    refine xr_aload_n a_Plan_unfoldFrom_1 rfl ?_
    apply xr_getf a_Plan_unfoldFrom_2
    · (repeat' (first | assumption | exact va_up_self _ _ _ | refine x_lk (by omega) ?_))
    · rfl
    refine xn_icmp_lt a_Plan_unfoldFrom_5 (by omega) (by omega) (fun b5 => ?_) (fun b5 => ?_)
    · refine xr_aload_n a_Plan_unfoldFrom_14 rfl ?_
      refine xr_aload_n a_Plan_unfoldFrom_15 rfl ?_
      apply xr_getf a_Plan_unfoldFrom_16
      · (repeat' (first | assumption | exact va_up_self _ _ _ | refine x_lk (by omega) ?_))
      · rfl
      refine xr_iload_n a_Plan_unfoldFrom_19 rfl ?_
      apply xn_iaload a_Plan_unfoldFrom_20
      · (repeat' (first | assumption | exact va_up_self _ _ _ | refine x_lk (by omega) ?_))
      · omega
      · omega
      apply xn_aaload a_Plan_unfoldFrom_21
      · (repeat' (first | assumption | exact va_up_self _ _ _ | refine x_lk (by omega) ?_))
      · rfl
      · omega
      · omega
      · exact v1 _ hv3
      refine xr_astore a_Plan_unfoldFrom_22 (by decide) rfl ?_
      refine xr_iconst a_Plan_unfoldFrom_24 (v := nI 0) (by decide +kernel) ?_
      refine xr_istore a_Plan_unfoldFrom_25 (by decide) rfl ?_
      rw [← hvv]
      refine xr_ls [(0, .ref r), (1, .int (nI k)), (2, .ref q), (3, .ref va), (4, .ref (vb + 10 * v)), (5, .int (nI 0))] ⟨rfl, rfl, rfl, rfl, rfl, rfl, trivial⟩ ?_
      exact loop (ν v).1 0 h ch D (by omega) xfr.rf p pc (fun _ _ => rfl) (fun j rs hj => by cases hj)
    · omega
end T29

