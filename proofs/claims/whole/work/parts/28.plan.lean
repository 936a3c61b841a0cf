/-! Plan: unfolding -/
abbrev vDs : Type := List vA × (Nat → Option Nat) × Nat × Nat
def vPm (π : Nat → Nat) : Prop := (∀ i, i < 8 → π i < 8) ∧ ∀ i j, i < 8 → j < 8 → π i = π j → i = j
def isPl (h : xH) (r cnt : Nat) (π : Nat → Nat) (ch : Nat → Option Nat) (D : Nat → vDs) : Prop := h r = cJ 8 [.ref (r + 1), .int (nI cnt), .ref (r + 2), .ref (r + 3)] ∧ (∃ e, h (r + 1) = cQ 5 8 e ∧ ∀ i, i < 8 → e i = some (r + 6 + 6 * π i)) ∧ h (r + 2) = cQ 6 3 ch ∧ (∃ v1 v2 lo, isMp h (r + 3) v1 v2 lo vIm0) ∧ vPm π ∧ ∀ i, i < 8 → isDl h (r + 6 + 6 * π i) (D i).1 (D i).2.1 (D i).2.2.1 (D i).2.2.2
theorem isPl.sm {h h' : xH} {r cnt : Nat} {π : Nat → Nat} {ch : Nat → Option Nat} {D : Nat → vDs} (p : isPl h r cnt π ch D) (q : xsm r (r + 54) h h') : isPl h' r cnt π ch D := by
  obtain ⟨p0, ⟨e, p1, p2⟩, p3, ⟨v1, v2, lo, p4⟩, p5, p6⟩ := p
  refine ⟨(q _ (by omega) (by omega)).trans p0, ⟨e, (q _ (by omega) (by omega)).trans p1, p2⟩, (q _ (by omega) (by omega)).trans p3, ⟨v1, v2, lo, p4.sm (q.mo (by omega) (by omega))⟩, p5, fun i hi => (p6 i hi).sm (q.mo (by omega) ?_)⟩
  have := p5.1 i hi
  omega
/-- one disjunct has changed -/
theorem isPl.dis {h h' : xH} {r cnt : Nat} {π : Nat → Nat} {ch : Nat → Option Nat} {D : Nat → vDs} (p : isPl h r cnt π ch D) {i : Nat} (hi : i < 8) (q : xfr (r + 6 + 6 * π i) (r + 6 + 6 * π i + 6) h h') {x : vDs} (hx : isDl h' (r + 6 + 6 * π i) x.1 x.2.1 x.2.2.1 x.2.2.2) : isPl h' r cnt π ch (va_up D i x) := by
  obtain ⟨p0, ⟨e, p1, p2⟩, p3, ⟨v1, v2, lo, p4⟩, p5, p6⟩ := p
  refine ⟨q.get (by omega) p0, ⟨e, q.get (by omega) p1, p2⟩, q.get (by omega) p3, ⟨v1, v2, lo, p4.sm (q.sm (by omega))⟩, p5, fun j hj => ?_⟩
  by_cases e : j = i
  · rw [e, up_self]; exact hx
  · rw [up_ne e]
    refine (p6 j hj).sm (q.sm ?_)
    have : π j ≠ π i := fun z => e (p5.2 j i hj hi z)
    omega
def vLs (x : vAL) : List vA := (List.range x.1).map fun j => (x.2.1 j, x.2.2.1 j, x.2.2.2 j)
theorem vLs_len (x : vAL) : (vLs x).length = x.1 := by unfold vLs; rw [List.length_map, List.length_range]
theorem vLs_rep (x : vAL) : vRep (vLs x) x.1 x.2.1 x.2.2.1 x.2.2.2 := by
  refine ⟨(vLs_len x).symm, fun j a h => ?_⟩
  unfold vLs at h
  rw [List.getElem?_map] at h
  cases hr : (List.range x.1)[j]? with
  | none => rw [hr] at h; cases h
  | some i =>
    rw [hr] at h
    obtain ⟨h1, h2⟩ := List.getElem?_eq_some_iff.mp hr
    rw [List.getElem_range] at h2
    subst h2
    cases h
    exact ⟨rfl, rfl, rfl⟩
/-- the views' array and views, as lists -/
abbrev vVw : Type := Nat × (Nat → vAL)
def vVl (ν : Nat → vVw) : vV := fun v => (List.range (ν v).1).map fun i => vLs ((ν v).2 i)
theorem vVl_get {ν : Nat → vVw} {v i : Nat} (h : i < (ν v).1) : (vVl ν v)[i]? = some (vLs ((ν v).2 i)) := by
  unfold vVl
  rw [List.getElem?_map, List.getElem?_range h]
  rfl
theorem vVl_len (ν : Nat → vVw) (v : Nat) : (vVl ν v).length = (ν v).1 := by unfold vVl; rw [List.length_map, List.length_range]
def isVs (h : xH) (va vb : Nat) (ν : Nat → vVw) : Prop := (∃ f, h va = cQ 4 3 f ∧ ∀ v, v < 3 → f v = some (vb + 10 * v)) ∧ ∀ v, v < 3 → ∃ f, isVw h (vb + 10 * v) (ν v).1 (ν v).2 f
theorem isVs.sm {h h' : xH} {va vb : Nat} {ν : Nat → vVw} (p : isVs h va vb ν) (q1 : h' va = h va) (q : xsm vb (vb + 30) h h') : isVs h' va vb ν := by
  obtain ⟨⟨f, p1, p2⟩, p3⟩ := p
  refine ⟨⟨f, q1.trans p1, p2⟩, fun v hv => ?_⟩
  obtain ⟨g, hg⟩ := p3 v hv
  exact ⟨g, hg.sm (q.mo (by omega) (by omega))⟩
theorem vUnfL_app : ∀ (q : List vA) (rs : List (List vA)) (k : Nat) (c : vA) (r : List vA), q.length = rs.length → vUnfL k (q ++ [c]) (rs ++ [r]) = vUnfL k q rs ++ r.map (vUnfA (k + q.length) c)
  | [], [], k, c, r, _ => by
    show r.map (vUnfA k c) ++ [] = [] ++ r.map (vUnfA (k + 0) c)
    simp
  | a :: q, s :: rs, k, c, r, h => by
    show s.map (vUnfA k a) ++ vUnfL (k + 1) (q ++ [c]) (rs ++ [r]) = s.map (vUnfA k a) ++ vUnfL (k + 1) q rs ++ _
    rw [vUnfL_app q rs (k + 1) c r (by simpa using h), List.append_assoc, show k + 1 + q.length = k + (a :: q).length by simp; omega]
  | [], _ :: _, _, _, _, h => by simp at h
  | _ :: _, [], _, _, _, h => by simp at h
theorem vUnfL_len : ∀ (q : List vA) (rs : List (List vA)) (k : Nat), (∀ r ∈ rs, r.length ≤ 2) → (vUnfL k q rs).length ≤ 2 * q.length
  | [], _, _, _ => by simp [vUnfL]
  | _ :: _, [], _, _ => by simp [vUnfL]
  | a :: q, s :: rs, k, h => by
    show (s.map (vUnfA k a) ++ vUnfL (k + 1) q rs).length ≤ _
    have h1 := vUnfL_len q rs (k + 1) (fun r hr => h r (List.mem_cons_of_mem _ hr))
    have h2 := h s List.mem_cons_self
    rw [List.length_append, List.length_map, List.length_cons]
    omega
/-- chosen rules: for i < k the i-th is the list rs[i], lying at a place apart from the plan -/
def isCh (h : xH) (r : Nat) (ch : Nat → Option Nat) (rs : List (List vA)) : Prop := ∀ i rl, rs[i]? = some rl → ∃ u RH RF RS, ch i = some u ∧ isAL h u 2 rl.length RH RF RS ∧ vRep rl rl.length RH RF RS ∧ (u + 4 ≤ r ∨ r + 54 ≤ u) ∧ rl.length ≤ 2 ∧ vTm 22 rl
theorem isCh.sm {h h' : xH} {r : Nat} {ch : Nat → Option Nat} {rs : List (List vA)} (p : isCh h r ch rs) (q : xfr r (r + 54) h h') : isCh h' r ch rs := by
  intro i rl hi
  obtain ⟨u, RH, RF, RS, h1, h2, h3, h4, h5⟩ := p i rl hi
  exact ⟨u, RH, RF, RS, h1, h2.sm (q.sm h4), h3, h4, h5⟩
section T28
variable {d L : Nat} {xs : Nat → Int32} {n : Nat} {h : xH} {r cnt : Nat} {π : Nat → Nat} {ch : Nat → Option Nat} {D : Nat → vDs}
theorem t_Plan_formDisjunct {q : Nat} {ql : List vA} {rs : List (List vA)} {QH QF QS : Nat → Nat} (p : isPl h r cnt π ch D) (pq : isAL h q 3 ql.length QH QF QS) (er : vRep ql ql.length QH QF QS) (pc : isCh h r ch rs) (hq : q + 4 ≤ r ∨ r + 54 ≤ q) (hlen : rs.length = ql.length) (hql : ql.length ≤ 3) (hcnt : cnt < 8) (hd : 3 ≤ d) : XM d 0 0 k_Plan_formDisjunct L xs [.ref r, .ref q] n h (qV n (fun h' => xfr r (r + 54) h h' ∧ ∃ pt, (∀ i, i < 6 → pt i = none) ∧ isPl h' r (cnt + 1) π ch (va_up D cnt (vUnfL 0 ql rs, pt, 0, 0)))) := by
  have p' := p
  obtain ⟨p0, ⟨e, p1, p2⟩, p3, ⟨v1, v2, lo, p4⟩, p5, p6⟩ := p
  have hπ := p5.1 cnt hcnt
  have hcap : ∀ j, j < ql.length → (vUnfL 0 (ql.take j) (rs.take j)).length ≤ 2 * j := by
    intro j hj
    have := vUnfL_len (ql.take j) (rs.take j) 0 (fun rl hrl => by
      obtain ⟨i, hi⟩ := List.getElem?_of_mem (List.mem_of_mem_take hrl)
      obtain ⟨_, _, _, _, _, _, _, _, h5, _⟩ := pc i rl hi
      exact h5)
    rw [List.length_take] at this
    omega
  refine XM.of rfl (Nat.le_of_ble_eq_true rfl) ?_
  have loop : ∀ (k j : Nat) (h' : xH) (pt : Nat → Option Nat), j + k = ql.length → (∀ i, i < 6 → pt i = none) → xfr r (r + 54) h h' → isPl h' r (cnt + 1) π ch (va_up D cnt (vUnfL 0 (ql.take j) (rs.take j), pt, 0, 0)) → XW (x_rm d 0 0) k_Plan_formDisjunct L xs (x_mq 0 0 (qV n (fun h' => xfr r (r + 54) h h' ∧ ∃ pt, (∀ i, i < 6 → pt i = none) ∧ isPl h' r (cnt + 1) π ch (va_up D cnt (vUnfL 0 ql rs, pt, 0, 0))))) 0 0 36 [(0, .ref r), (1, .ref q), (2, .ref (r + 6 + 6 * π cnt)), (3, .int (nI j))] [] n h' := by
    intro k
    induction k with
    | zero =>
      intro j h' pt hj hpt f1 q1
      have pq' := pq.sm (f1.sm hq)
      have a0 := pq'.1
      refine xr_iload_n a_Plan_formDisjunct_36 rfl ?_
      refine xr_aload_n a_Plan_formDisjunct_37 rfl ?_
      apply xr_getf a_Plan_formDisjunct_38
      · (repeat' (first | assumption | exact va_up_self _ _ _ | refine x_lk (by omega) ?_))
      · rfl
      refine xn_icmp_ge a_Plan_formDisjunct_41 (by omega) (by omega) (fun b41 => ?_) (fun b41 => ?_)
      · refine xr_return a_Plan_formDisjunct_62 rfl (by omega) (by omega) ?_
        rw [List.take_of_length_le (by omega), List.take_of_length_le (by omega)] at q1
        exact ⟨rfl, rfl, f1, pt, hpt, q1⟩
      · omega
    | succ k ih =>
      intro j h' pt hj hpt f1 q1
      have pq' := pq.sm (f1.sm hq)
      have a0 := pq'.1
      have pc' := pc.sm f1
      have hj' : j < rs.length := by omega
      obtain ⟨u, RH, RF, RS, c1, c2, c3, c4, c5, c6⟩ := pc' j rs[j] (List.getElem?_eq_getElem hj')
      have q1' := q1
      obtain ⟨g0, ⟨e', g1, g2⟩, g3, ⟨w1, w2, lo', g4⟩, g5, g6⟩ := q1
      have g7 := g6 cnt hcnt
      rw [up_self] at g7
      have hc := hcap j (by omega)
      have cA := t_Disjunct_addUnfolded (d := 2) (L := L) (xs := xs) (n := n) (i := j) g7 c2 c3 pq' (by omega) (by omega) (by show (vUnfL 0 (ql.take j) (rs.take j)).length + _ ≤ 6; omega) c5 (by omega) c6 (by omega)
      have d0 := g7
      obtain ⟨DH, DF, DS, ⟨d0, -, -⟩, -⟩ := d0
      refine xr_iload_n a_Plan_formDisjunct_36 rfl ?_
      refine xr_aload_n a_Plan_formDisjunct_37 rfl ?_
      apply xr_getf a_Plan_formDisjunct_38
      · (repeat' (first | assumption | exact va_up_self _ _ _ | refine x_lk (by omega) ?_))
      · rfl
      refine xn_icmp_ge a_Plan_formDisjunct_41 (by omega) (by omega) (fun b41 => ?_) (fun b41 => ?_)
      · omega
      · refine xr_aload_n a_Plan_formDisjunct_44 rfl ?_
        refine xr_aload_n a_Plan_formDisjunct_45 rfl ?_
        apply xr_getf a_Plan_formDisjunct_46
        · (repeat' (first | assumption | exact va_up_self _ _ _ | refine x_lk (by omega) ?_))
        · rfl
        refine xr_iload_n a_Plan_formDisjunct_49 rfl ?_
        apply xn_aaload a_Plan_formDisjunct_50
        · (repeat' (first | assumption | exact va_up_self _ _ _ | refine x_lk (by omega) ?_))
        · rfl
        · omega
        · omega
        · exact c1
        refine xr_aload_n a_Plan_formDisjunct_51 rfl ?_
        refine xr_iload_n a_Plan_formDisjunct_52 rfl ?_
        refine xr_invV a_Plan_formDisjunct_53 (by exact d0) (cA) rfl rfl (by omega) (by omega) (by omega) (Nat.le_of_ble_eq_true rfl) ?_
        rintro _ _ h1 ⟨rfl, rfl, f2, q2⟩
        first | refine xn_iinc a_Plan_formDisjunct_56 rfl (by decide) rfl ?_ | refine xr_iinc a_Plan_formDisjunct_56 rfl rfl (by decide) rfl ?_
        refine xr_goto a_Plan_formDisjunct_59 ?_
        refine xr_ls [(0, .ref r), (1, .ref q), (2, .ref (r + 6 + 6 * π cnt)), (3, .int (nI (j + 1)))] ⟨rfl, rfl, rfl, rfl, trivial⟩ ?_
        refine ih (j + 1) h1 pt (by omega) hpt (f1.tr (f2.mo (by omega) (by omega))) ?_
        have q3 := q1'.dis hcnt f2 (x := (_, pt, 0, 0)) q2
        rw [up_up] at q3
        have e1 : ql.take (j + 1) = ql.take j ++ [(QH j, QF j, QS j)] := by rw [List.take_add_one, er.ix (by omega)]; rfl
        have e2 : rs.take (j + 1) = rs.take j ++ [rs[j]] := by rw [List.take_add_one, List.getElem?_eq_getElem hj']; rfl
        have e3 : (ql.take j).length = j := by rw [List.length_take]; omega
        have e4 : (rs.take j).length = j := by rw [List.length_take]; omega
        have e5 := vUnfL_app (ql.take j) (rs.take j) 0 (QH j, QF j, QS j) rs[j] (by rw [e3, e4])
        rw [e3, Nat.zero_add] at e5
        rw [e1, e2, e5]
        exact q3
  have a0 := pq.1
  obtain ⟨DH, DF, DS, ⟨d0, d1, d2⟩, d3⟩ := p6 cnt hcnt
  have pD : isDl (va_up h r (cJ 8 [.ref (r + 1), .int (nI (cnt + 1)), .ref (r + 2), .ref (r + 3)])) (r + 6 + 6 * π cnt) (D cnt).1 (D cnt).2.1 (D cnt).2.2.1 (D cnt).2.2.2 := (p6 cnt hcnt).sm (xsm_up (by omega))
  refine xr_aload_n a_Plan_formDisjunct_0 rfl ?_
  apply xr_getf a_Plan_formDisjunct_1
  · (repeat' (first | assumption | exact va_up_self _ _ _ | refine x_lk (by omega) ?_))
  · rfl
  refine xr_bipush a_Plan_formDisjunct_4 (v := nI 8) (by decide +kernel) ?_
  refine xn_icmp_lt a_Plan_formDisjunct_6 (by omega) (by omega) (fun b6 => ?_) (fun b6 => ?_)
  · refine xr_aload_n a_Plan_formDisjunct_10 rfl ?_
    apply xr_getf a_Plan_formDisjunct_11
    · (repeat' (first | assumption | exact va_up_self _ _ _ | refine x_lk (by omega) ?_))
    · rfl
    refine xr_aload_n a_Plan_formDisjunct_14 rfl ?_
    apply xr_getf a_Plan_formDisjunct_15
    · (repeat' (first | assumption | exact va_up_self _ _ _ | refine x_lk (by omega) ?_))
    · rfl
    apply xn_aaload a_Plan_formDisjunct_18
    · (repeat' (first | assumption | exact va_up_self _ _ _ | refine x_lk (by omega) ?_))
    · rfl
    · omega
    · omega
    · exact p2 cnt hcnt
    refine xr_astore_n a_Plan_formDisjunct_19 (by decide) rfl ?_
    refine xr_aload_n a_Plan_formDisjunct_20 rfl ?_
    refine xr_dup a_Plan_formDisjunct_21 rfl ?_
    apply xr_getf a_Plan_formDisjunct_22
    · (repeat' (first | assumption | exact va_up_self _ _ _ | refine x_lk (by omega) ?_))
    · rfl
    refine xr_iconst a_Plan_formDisjunct_25 (v := nI 1) (by decide +kernel) ?_
    first | refine xn_iadd a_Plan_formDisjunct_26 ?_ | refine xr_iadd a_Plan_formDisjunct_26 ?_
    apply xr_putf a_Plan_formDisjunct_27
    · (repeat' (first | assumption | exact va_up_self _ _ _ | refine x_lk (by omega) ?_))
    · exact Nat.le_of_ble_eq_true rfl
    · rfl
    · rfl
    refine xr_aload_n a_Plan_formDisjunct_30 rfl ?_
    refine xr_invV a_Plan_formDisjunct_31 (by exact (x_lk (by omega) d0)) (t_Disjunct_begin (d := 1) pD (by omega)) rfl rfl (by omega) (by omega) (by omega) (Nat.le_of_ble_eq_true rfl) ?_
    rintro _ _ h1 ⟨rfl, rfl, f2, q2⟩
    refine xr_iconst a_Plan_formDisjunct_34 (v := nI 0) (by decide +kernel) ?_
    refine xr_istore_n a_Plan_formDisjunct_35 (by decide) rfl ?_
    refine xr_ls [(0, .ref r), (1, .ref q), (2, .ref (r + 6 + 6 * π cnt)), (3, .int (nI 0))] ⟨rfl, rfl, rfl, rfl, trivial⟩ ?_
    refine loop ql.length 0 h1 (vClr (D cnt).2.1 6) (by omega) (fun i hi => if_pos hi) ((xfr.up0 (by omega) (by omega)).tr (f2.mo (by omega) (by omega))) ?_
    have p1' : isPl (va_up h r (cJ 8 [.ref (r + 1), .int (nI (cnt + 1)), .ref (r + 2), .ref (r + 3)])) r (cnt + 1) π ch D := ⟨up_self _ _ _, ⟨e, x_lk (by omega) p1, p2⟩, x_lk (by omega) p3, ⟨v1, v2, lo, p4.sm (xsm_up (by omega))⟩, p5, fun i hi => (p6 i hi).sm (xsm_up (by omega))⟩
    exact p1'.dis hcnt f2 (x := ([], vClr (D cnt).2.1 6, 0, 0)) q2
  · omega
end T28

