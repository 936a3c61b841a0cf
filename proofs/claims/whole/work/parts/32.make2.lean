/-! Plan.make as a whole -/
theorem vFl_c {Ds Ds' : Nat → List vA} {m : Nat} (h : ∀ i, i < m → Ds i = Ds' i) : ∀ k, k ≤ m → vFl Ds m k = vFl Ds' m k
  | 0, _ => rfl
  | k + 1, hk => by
    have ih := vFl_c h k (by omega)
    show va_up (vFl Ds m k) k (vCovB Ds m (vFl Ds m k) k) = va_up (vFl Ds' m k) k (vCovB Ds' m (vFl Ds' m k) k)
    have : vCovB Ds m (vFl Ds m k) k = vCovB Ds' m (vFl Ds' m k) k := by
      rw [Bool.eq_iff_iff, vCovB_iff, vCovB_iff]
      exact vCov_c (by omega) h (fun i _ => by rw [ih])
    rw [this, ih]
def vOkH (ν : Nat → vVw) : Prop := ∀ v, v < 3 → ∀ i, i < (ν v).1 → ∀ a ∈ vLs ((ν v).2 i), a.1 < 4
theorem vCh_mem {V : vV} : ∀ (q : List vA) (rs : List (List vA)), rs ∈ vCh V q → ∀ r ∈ rs, ∃ c ∈ q, r ∈ V c.1
  | [], rs, h, r, hr => by
    have : rs = [] := by simpa [vCh] using h
    rw [this] at hr
    cases hr
  | c :: q, rs, h, r, hr => by
    obtain ⟨r0, h1, h2⟩ := List.mem_flatMap.mp h
    obtain ⟨rs', h3, rfl⟩ := List.mem_map.mp h2
    rcases List.mem_cons.mp hr with rfl | hr
    · exact ⟨c, List.mem_cons_self, h1⟩
    · obtain ⟨c', h4, h5⟩ := vCh_mem q rs' h3 r hr
      exact ⟨c', List.mem_cons_of_mem _ h4, h5⟩
theorem vVl_mem {ν : Nat → vVw} {v : Nat} {r : List vA} (h : r ∈ vVl ν v) : ∃ i, i < (ν v).1 ∧ r = vLs ((ν v).2 i) := by
  unfold vVl at h
  obtain ⟨i, h1, h2⟩ := List.mem_map.mp h
  exact ⟨i, List.mem_range.mp h1, h2.symm⟩
theorem vUnf_lt {i a b t : Nat} (hi : i < 3) (ha : a < 22) (hb : b < 22) (ht : t < 22) : vUnf i a b t < 34 := by
  unfold vUnf
  split
  · omega
  · split
    · omega
    · split <;> omega
theorem vUnfL_bd : ∀ (q : List vA) (rs : List (List vA)) (k : Nat), k + q.length ≤ 3 → vTm 22 q → (∀ r ∈ rs, vTm 22 r ∧ ∀ a ∈ r, a.1 < 4) → vBdL (vUnfL k q rs)
  | [], _, _, _, _, _ => by intro a ha; simp [vUnfL] at ha
  | _ :: _, [], _, _, _, _ => by intro a ha; simp [vUnfL] at ha
  | c :: q, r :: rs, k, hk, hq, hr => by
    intro a ha
    have hk' : k + q.length + 1 ≤ 3 := hk
    rcases List.mem_append.mp (show a ∈ r.map (vUnfA k c) ++ vUnfL (k + 1) q rs from ha) with ha | ha
    · obtain ⟨a0, h1, rfl⟩ := List.mem_map.mp ha
      obtain ⟨r1, r2⟩ := hr r List.mem_cons_self
      have hc := hq c List.mem_cons_self
      exact ⟨r2 a0 h1, vUnf_lt (by omega) hc.1 hc.2 (r1 a0 h1).1, vUnf_lt (by omega) hc.1 hc.2 (r1 a0 h1).2⟩
    · exact vUnfL_bd q rs (k + 1) (by omega) (fun x hx => hq x (List.mem_cons_of_mem _ hx)) (fun x hx => hr x (List.mem_cons_of_mem _ hx)) a ha
theorem vPr_le {V : vV} : ∀ (q : List vA), (∀ c ∈ q, (V c.1).length ≤ 2) → vPr V q ≤ 2 ^ q.length
  | [], _ => Nat.le_refl _
  | c :: q, h => by
    show (V c.1).length * vPr V q ≤ 2 ^ (q.length + 1)
    rw [Nat.pow_succ, Nat.mul_comm (2 ^ q.length)]
    exact Nat.mul_le_mul (h c List.mem_cons_self) (vPr_le q fun x hx => h x (List.mem_cons_of_mem _ hx))
/-- what a query over these views is, within bounds -/
def vOkQ (ν : Nat → vVw) (ql : List vA) : Prop := ql.length ≤ 3 ∧ vTm 22 ql ∧ (∀ c ∈ ql, c.1 < 3) ∧ vOkV ν ∧ vOkH ν
theorem vOkQ.len8 {ν : Nat → vVw} {ql : List vA} (h : vOkQ ν ql) : (vCh (vVl ν) ql).length ≤ 8 := by
  rw [vCh_len]
  refine Nat.le_trans (vPr_le ql fun c hc => ?_) (show 2 ^ ql.length ≤ 2 ^ 3 from Nat.pow_le_pow_right (by decide) h.1)
  rw [vVl_len]
  exact (h.2.2.2.1 c.1 (h.2.2.1 c hc)).1
theorem vOkQ.rule {ν : Nat → vVw} {ql : List vA} (h : vOkQ ν ql) {rs : List (List vA)} (hr : rs ∈ vCh (vVl ν) ql) : ∀ r ∈ rs, r.length ≤ 2 ∧ vTm 22 r ∧ ∀ a ∈ r, a.1 < 4 := by
  intro r hr1
  obtain ⟨c, h1, h2⟩ := vCh_mem ql rs hr r hr1
  obtain ⟨i, h3, rfl⟩ := vVl_mem h2
  have h4 := (h.2.2.2.1 c.1 (h.2.2.1 c h1)).2 i h3
  exact ⟨by rw [vLs_len]; exact h4.1, h4.2, h.2.2.2.2 c.1 (h.2.2.1 c h1) i h3⟩
theorem vOkQ.dis {ν : Nat → vVw} {ql : List vA} (h : vOkQ ν ql) {rs : List (List vA)} (hr : rs ∈ vCh (vVl ν) ql) : (vUnfL 0 ql rs).length ≤ 6 ∧ vBdL (vUnfL 0 ql rs) := by
  have h1 := h.rule hr
  refine ⟨?_, vUnfL_bd ql rs 0 (by have := h.1; omega) h.2.1 (fun r hr => (h1 r hr).2)⟩
  have := vUnfL_len ql rs 0 (fun r hr => (h1 r hr).1)
  have := h.1
  omega
section T32
variable {d L : Nat} {xs : Nat → Int32} {n : Nat} {h : xH} {r q va vb ra rb cnt : Nat} {π : Nat → Nat} {ch : Nat → Option Nat} {D : Nat → vDs} {ρ : Nat → vRel} {ν : Nat → vVw} {ql : List vA} {QH QF QS : Nat → Nat}
theorem t_Plan_make (p : isPl h r cnt π ch D) (pq : isAL h q 3 ql.length QH QF QS) (er : vRep ql ql.length QH QF QS) (pv : isVs h va vb ν) (pR : isRs h ra rb ρ) (hQ : vOkQ ν ql) (hal : ∀ i, i < 4 → (ρ i).2.2.2.1 < 16) (hq : q + 4 ≤ r ∨ r + 54 ≤ q) (hva : va < r ∨ r + 54 ≤ va) (hvb : vb + 30 ≤ r ∨ r + 54 ≤ vb) (hra : ra < r ∨ r + 54 ≤ ra) (hrb : rb + 12 ≤ r ∨ r + 54 ≤ rb) (hd : 22 ≤ d) : XM d 0 0 k_Plan_make L xs [.ref r, .ref q, .ref va, .ref ra] n h (qV n (fun h' => xfr r (r + 54) h h' ∧ ∃ π' ch' D', isPl h' r (vKept (vVl ν) ql).length π' ch' D' ∧ ∀ (j k : Nat), (vKept (vVl ν) ql)[j]? = some k → ∃ pt, (∀ i, i < 6 → pt i = none) ∧ D' j = vOrdD (fun i => (ρ i).2.2.2.1) (vRd (vVl ν) ql k, pt, 0, 0))) := by
  obtain ⟨g0, ⟨e', g1, g2⟩, g3, ⟨y1, y2, lo', g4⟩, g5, g6⟩ := p
  have q3 := hQ.1
  have n8 := hQ.len8
  have hQH : ∀ i, i < ql.length → QH i < 3 := fun i hi => hQ.2.2.1 _ (List.mem_of_getElem? (er.ix hi))
  have f0 : xfr r (r + 54) h (va_up h r (cJ 8 [.ref (r + 1), .int (nI 0), .ref (r + 2), .ref (r + 3)])) := xfr.up0 (by omega) (by omega)
  have p0 : isPl (va_up h r (cJ 8 [.ref (r + 1), .int (nI 0), .ref (r + 2), .ref (r + 3)])) r 0 π ch D := ⟨up_self _ _ _, ⟨e', x_lk (by omega) g1, g2⟩, x_lk (by omega) g3, ⟨y1, y2, lo', g4.sm (xsm_up (by omega))⟩, g5, fun i hi => (g6 i hi).sm (xsm_up (by omega))⟩
  have cU := t_Plan_unfoldFrom (L := L) (xs := xs) (n := n) (π := π) er hQ.2.2.2.1 hQH q3 hq hva hvb ql.length 0 (by omega) _ 0 ch D [] rfl p0 (pq.sm (f0.sm hq)) (pv.sm (f0 _ hva) (f0.sm hvb)) (fun i rl hi => by cases hi) (by rw [List.drop_zero]; omega)
  rw [List.drop_zero, Nat.zero_add] at cU
  refine XM.of rfl (Nat.le_of_ble_eq_true rfl) ?_
  refine xr_aload_n a_Plan_make_0 rfl ?_
  refine xr_iconst a_Plan_make_1 (v := nI 0) (by decide +kernel) ?_
  apply xr_putf a_Plan_make_2
  · (repeat' (first | assumption | exact va_up_self _ _ _ | refine x_lk (by omega) ?_))
  · exact Nat.le_of_ble_eq_true rfl
  · rfl
  · rfl
  refine xr_aload_n a_Plan_make_5 rfl ?_
  refine xr_iconst a_Plan_make_6 (v := nI 0) (by decide +kernel) ?_
  refine xr_aload_n a_Plan_make_7 rfl ?_
  refine xr_aload_n a_Plan_make_8 rfl ?_
  refine xr_invV a_Plan_make_9 (by exact (up_self _ _ _)) (cU) rfl rfl (by omega) (by omega) (by omega) (Nat.le_of_ble_eq_true rfl) ?_
  rintro _ _ h1 ⟨rfl, rfl, f1, ch1, D1, z1, z2, z3, z4⟩
  refine xr_iconst a_Plan_make_12 (v := nI 0) (by decide +kernel) ?_
  refine xr_istore a_Plan_make_13 (by decide) rfl ?_
  refine xr_ls [(0, .ref r), (1, .ref q), (2, .ref va), (3, .ref ra), (4, .int (nI 0))] ⟨rfl, rfl, rfl, rfl, rfl, trivial⟩ ?_
  have w1 : ∀ j, j < (vCh (vVl ν) ql).length → ∃ rs pt, (vCh (vVl ν) ql)[j]? = some rs ∧ (∀ i, i < 6 → pt i = none) ∧ D1 j = (vUnfL 0 ql rs, pt, 0, 0) := by
    intro j hj
    have e := List.getElem?_eq_getElem hj
    obtain ⟨pt, a, b⟩ := z4 j _ e
    rw [List.nil_append, Nat.zero_add] at b
    exact ⟨_, pt, e, a, b⟩
  have w2 : ∀ j, j < (vCh (vVl ν) ql).length → vRed (D1 j).1.length 0 (D1 j).1 = vRd (vVl ν) ql j := by
    intro j hj
    obtain ⟨rs, pt, a, b, c⟩ := w1 j hj
    unfold vRd vDis
    rw [c, List.getD_eq_getElem?_getD, List.getElem?_map, a]
    rfl
  have ok1 : vOkD (vCh (vVl ν) ql).length D1 := ⟨n8, fun j hj => by
    obtain ⟨rs, pt, a, b, c⟩ := w1 j hj
    obtain ⟨b1, b2⟩ := hQ.dis (List.mem_of_getElem? a)
    rw [c]
    exact ⟨b1, b2, Nat.zero_lt_succ 1, Nat.zero_lt_succ 1⟩⟩
  refine mk_B (h0 := h) (π := π) (ch := ch1) (D := D1) (by omega) ok1 (fun h2 D2 f2 a1 a2 => ?_) (vCh (vVl ν) ql).length 0 h1 D1 (by omega) (f0.tr f1) z1 (fun j hj => by omega) (fun _ _ => rfl)
  have ok2 : vOkD (vCh (vVl ν) ql).length D2 := ⟨n8, fun j hj => by
    rw [a2 j hj]
    obtain ⟨b1, b2, b3, b4⟩ := ok1.2 j hj
    exact ⟨Nat.le_trans (vRed_len _ _ _) b1, fun a ha => b2 a (vRed_mem _ _ _ a ha), b3, b4⟩⟩
  refine xr_iconst a_Plan_make_44 (v := nI 0) (by decide +kernel) ?_
  refine xr_istore a_Plan_make_45 (by decide) rfl ?_
  refine xr_ls [(0, .ref r), (1, .ref q), (2, .ref va), (3, .ref ra), (4, .int (nI 0))] ⟨rfl, rfl, rfl, rfl, rfl, trivial⟩ ?_
  refine mk_C (h0 := h) (π := π) (ch := ch1) (D := D2) (by omega) ok2 (fun j hj => ?_) (fun h3 D3 f3 c1 c2 => ?_) (vCh (vVl ν) ql).length 0 h2 D2 (by omega) f2 a1 (fun j hj => ?_)
  · obtain ⟨rs, pt, a, b, c⟩ := w1 j hj
    rw [a2 j hj, c]
  · have eF : vFl (vDl D2) (vCh (vVl ν) ql).length (vCh (vVl ν) ql).length = vFl (vRd (vVl ν) ql) (vCh (vVl ν) ql).length (vCh (vVl ν) ql).length := vFl_c (fun j hj => by
      unfold vDl
      rw [a2 j hj]
      exact w2 j hj) _ (Nat.le_refl _)
    rw [eF] at c2
    have eK : vKp D3 (vCh (vVl ν) ql).length = vKept (vVl ν) ql := by
      unfold vKp vKept
      refine List.filter_congr (fun j hj => ?_)
      unfold vDr
      rw [c2 j (List.mem_range.mp hj)]
      show (!((vFl _ _ _ j).toNat == 1)) = _
      cases vFl (vRd (vVl ν) ql) (vCh (vVl ν) ql).length (vCh (vVl ν) ql).length j <;> rfl
    refine mk_D (h0 := h) (π := π) (ch := ch1) (D := D3) (by omega) pR hra hrb hal ⟨n8, fun j hj => ?_⟩ (fun j hj => ?_) (fun h4 π' D4 f4 e1 e2 => ?_) h3 f3 c1
    · rw [c2 j hj]
      obtain ⟨b1, b2, b3, b4⟩ := ok2.2 j hj
      exact ⟨b1, b2, tn_lt _, b4⟩
    · obtain ⟨rs, pt, a, b, c⟩ := w1 j hj
      rw [c2 j hj, a2 j hj, c]
    · rw [eK] at e1 e2
      refine ⟨rfl, rfl, f4, π', ch1, D4, e1, fun j k hj => ?_⟩
      have hk := List.mem_of_getElem? hj
      unfold vKept at hk
      obtain ⟨hk1, hk2⟩ := List.mem_filter.mp hk
      have hk3 := List.mem_range.mp hk1
      obtain ⟨rs, pt, a, b, c⟩ := w1 k hk3
      refine ⟨pt, b, ?_⟩
      rw [e2 j k hj, c2 k hk3, a2 k hk3, ← w2 k hk3, c]
      have : vFl (vRd (vVl ν) ql) (vCh (vVl ν) ql).length (vCh (vVl ν) ql).length k = false := by simpa using hk2
      rw [this]
      rfl
  · rw [a2 j hj]
    obtain ⟨rs, pt, a, b, c⟩ := w1 j hj
    rw [c]
    rfl
end T32

