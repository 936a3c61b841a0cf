/-! Plan.make -/
theorem vD_nat (p : Prop) : (vD p).toNat = vB p := by
  by_cases h : p
  · rw [vB_t h, vD_iff.mpr h]; rfl
  · rw [vB_f h]
    cases e : vD p with
    | false => rfl
    | true => exact absurd (vD_iff.mp e) h
theorem vCov_c {Ds Ds' : Nat → List vA} {m : Nat} {fl fl' : Nat → Bool} {d : Nat} (hd : d < m) (h1 : ∀ i, i < m → Ds i = Ds' i) (h2 : ∀ i, i < m → fl i = fl' i) : vCov Ds m fl d ↔ vCov Ds' m fl' d := by
  constructor
  · rintro ⟨e, a, b, c, f⟩
    exact ⟨e, a, b, by rw [← h2 e a]; exact c, by rw [← h1 e a, ← h1 d hd]; exact f⟩
  · rintro ⟨e, a, b, c, f⟩
    exact ⟨e, a, b, by rw [h2 e a]; exact c, by rw [h1 e a, h1 d hd]; exact f⟩
def vDis (V : vV) (q : List vA) : List (List vA) := (vCh V q).map (vUnfL 0 q)
noncomputable def vRd (V : vV) (q : List vA) (i : Nat) : List vA := vRed ((vDis V q).getD i []).length 0 ((vDis V q).getD i [])
noncomputable def vKept (V : vV) (q : List vA) : List Nat := (List.range (vCh V q).length).filter fun j => !vFl (vRd V q) (vCh V q).length (vCh V q).length j
def vOrdD (al : Nat → Nat) (x : vDs) : vDs := ((vOrd al x.1.length 0 x.1 x.2.1).1, (vOrd al x.1.length 0 x.1 x.2.1).2.1, x.2.2.1, (vOrd al x.1.length 0 x.1 x.2.1).2.2.toNat)
section T31
variable {d L : Nat} {xs : Nat → Int32} {n : Nat} {h0 : xH} {r q va ra rb cnt : Nat} {π : Nat → Nat} {ch : Nat → Option Nat} {D : Nat → vDs} {ρ : Nat → vRel} {Q : xQ}
theorem mk_E (hd : 5 ≤ d) (pR : isRs h0 ra rb ρ) (hra : ra < r ∨ r + 54 ≤ ra) (hrb : rb + 12 ≤ r ∨ r + 54 ≤ rb) (hal : ∀ i, i < 4 → (ρ i).2.2.2.1 < 16) (hD : vOkD cnt D) (hb0 : ∀ i, i < cnt → (D i).2.2.2 = 0)
    (fin : ∀ (h' : xH) (D' : Nat → vDs), xfr r (r + 54) h0 h' → isPl h' r cnt π ch D' → (∀ j, j < cnt → D' j = vOrdD (fun i => (ρ i).2.2.2.1) (D j)) → Q none n h') :
    ∀ (k i : Nat) (h' : xH) (D' : Nat → vDs), i + k = cnt → xfr r (r + 54) h0 h' → isPl h' r cnt π ch D' → (∀ j, j < i → D' j = vOrdD (fun i => (ρ i).2.2.2.1) (D j)) → (∀ j, i ≤ j → D' j = D j) → XW (x_rm d 0 0) k_Plan_make L xs (x_mq 0 0 Q) 0 0 85 [(0, .ref r), (1, .ref q), (2, .ref va), (3, .ref ra), (4, .int (nI i))] [] n h' := by
  have h8 := hD.1
  intro k
  induction k with
  | zero =>
    intro i h' D' hi f1 q1 q2 q3
    have g0 := q1.1
    refine xr_iload a_Plan_make_85 rfl ?_
    refine xr_aload_n a_Plan_make_87 rfl ?_
    apply xr_getf a_Plan_make_88
    · (repeat' (first | assumption | exact va_up_self _ _ _ | refine x_lk (by omega) ?_))
    · rfl
    refine xn_icmp_ge a_Plan_make_91 (by omega) (by omega) (fun b91 => ?_) (fun b91 => ?_)
    · refine xr_return a_Plan_make_111 rfl (by omega) (by omega) ?_
      exact fin h' D' f1 q1 (fun j hj => q2 j (by omega))
    · omega
  | succ k ih =>
    intro i h' D' hi f1 q1 q2 q3
    have q1' := q1
    obtain ⟨g0, ⟨e', g1, g2⟩, g3, g4, g5, g6⟩ := q1
    have g7 := g6 i (by omega)
    rw [q3 i (Nat.le_refl _), hb0 i (by omega)] at g7
    obtain ⟨b1, b2, -, -⟩ := hD.2 i (by omega)
    have i8 := g5.1 i (by omega)
    have c := t_Disjunct_putInOrder (d := 4) (L := L) (xs := xs) (n := n) g7 (pR.sm (f1 _ hra) (f1.sm hrb)) (by omega) (by omega) hal b1 b2 (by omega)
    obtain ⟨DH, DF, DS, ⟨d0, d1, d2⟩, d3⟩ := g7
    refine xr_iload a_Plan_make_85 rfl ?_
    refine xr_aload_n a_Plan_make_87 rfl ?_
    apply xr_getf a_Plan_make_88
    · (repeat' (first | assumption | exact va_up_self _ _ _ | refine x_lk (by omega) ?_))
    · rfl
    refine xn_icmp_ge a_Plan_make_91 (by omega) (by omega) (fun b91 => ?_) (fun b91 => ?_)
    · omega
    · refine xr_aload_n a_Plan_make_94 rfl ?_
      apply xr_getf a_Plan_make_95
      · (repeat' (first | assumption | exact va_up_self _ _ _ | refine x_lk (by omega) ?_))
      · rfl
      refine xr_iload a_Plan_make_98 rfl ?_
      apply xn_aaload a_Plan_make_100
      · (repeat' (first | assumption | exact va_up_self _ _ _ | refine x_lk (by omega) ?_))
      · rfl
      · omega
      · omega
      · exact g2 i (by omega)
      refine xr_aload_n a_Plan_make_101 rfl ?_
      refine xr_invV a_Plan_make_102 (by exact d0) (c) rfl rfl (by omega) (by omega) (by omega) (Nat.le_of_ble_eq_true rfl) ?_
      rintro _ _ h1 ⟨rfl, rfl, f2, z⟩
      first | refine xn_iinc a_Plan_make_105 rfl (by decide) rfl ?_ | refine xr_iinc a_Plan_make_105 rfl rfl (by decide) rfl ?_
      refine xr_goto a_Plan_make_108 ?_
      refine xr_ls [(0, .ref r), (1, .ref q), (2, .ref va), (3, .ref ra), (4, .int (nI (i + 1)))] ⟨rfl, rfl, rfl, rfl, rfl, trivial⟩ ?_
      refine ih (i + 1) h1 (va_up D' i (vOrdD (fun i => (ρ i).2.2.2.1) (D i))) (by omega) (f1.tr (f2.mo (by omega) (by omega))) (q1'.dis (by omega) f2 z) (fun j hj => ?_) (fun j hj => ?_)
      · by_cases e : j = i
        · rw [e, up_self]
        · rw [up_ne e]; exact q2 j (by omega)
      · rw [up_ne (by omega)]; exact q3 j (by omega)
theorem mk_D (hd : 5 ≤ d) (pR : isRs h0 ra rb ρ) (hra : ra < r ∨ r + 54 ≤ ra) (hrb : rb + 12 ≤ r ∨ r + 54 ≤ rb) (hal : ∀ i, i < 4 → (ρ i).2.2.2.1 < 16) (hD : vOkD cnt D) (hb0 : ∀ i, i < cnt → (D i).2.2.2 = 0)
    (fin : ∀ (h' : xH) (π' : Nat → Nat) (D' : Nat → vDs), xfr r (r + 54) h0 h' → isPl h' r (vKp D cnt).length π' ch D' → (∀ j k, (vKp D cnt)[j]? = some k → D' j = vOrdD (fun i => (ρ i).2.2.2.1) (D k)) → Q none n h') :
    ∀ (h' : xH), xfr r (r + 54) h0 h' → isPl h' r cnt π ch D → XW (x_rm d 0 0) k_Plan_make L xs (x_mq 0 0 Q) 0 0 78 [(0, .ref r), (1, .ref q), (2, .ref va), (3, .ref ra)] [] n h' := by
  intro h' f1 q1
  have g0 := q1.1
  have hkl := vKp_le D cnt
  have h8 := hD.1
  have hmem : ∀ (j k : Nat), (vKp D cnt)[j]? = some k → k < cnt := by
    intro j k hj
    have := List.mem_of_getElem? hj
    unfold vKp at this
    have := (List.mem_filter.mp this).1
    exact List.mem_range.mp this
  have cG := t_Plan_closeGaps (d := 4) (L := L) (xs := xs) (n := n) q1 hD
  refine xr_aload_n a_Plan_make_78 rfl ?_
  refine xr_invV a_Plan_make_79 g0 cG rfl rfl (by omega) (by omega) (by omega) (Nat.le_of_ble_eq_true rfl) ?_
  rintro _ _ h1 ⟨rfl, rfl, f2, π', D', z1, z2⟩
  refine xr_iconst a_Plan_make_82 (v := nI 0) (by decide +kernel) ?_
  refine xr_istore a_Plan_make_83 (by decide) rfl ?_
  refine xr_ls [(0, .ref r), (1, .ref q), (2, .ref va), (3, .ref ra), (4, .int (nI 0))] ⟨rfl, rfl, rfl, rfl, rfl, trivial⟩ ?_
  refine mk_E (h0 := h0) (π := π') (ch := ch) (D := D') hd pR hra hrb hal ⟨by omega, fun i hi => ?_⟩ (fun i hi => ?_) (fun h' D'' y1 y2 y3 => fin h' π' D'' y1 y2 (fun j k hj => ?_)) (vKp D cnt).length 0 h1 D' (by omega) (f1.tr f2) z1 (fun j hj => by omega) (fun _ _ => rfl)
  · have e := List.getElem?_eq_getElem hi
    rw [z2 i _ e]
    exact hD.2 _ (hmem i _ e)
  · have e := List.getElem?_eq_getElem hi
    rw [z2 i _ e]
    exact hb0 _ (hmem i _ e)
  · rw [y3 j (List.getElem?_eq_some_iff.mp hj).1, z2 j k hj]
theorem mk_C (hd : 15 ≤ d) (hD : vOkD cnt D) (hd0 : ∀ i, i < cnt → (D i).2.2.1 = 0)
    (fin : ∀ (h' : xH) (D' : Nat → vDs), xfr r (r + 54) h0 h' → isPl h' r cnt π ch D' → (∀ j, j < cnt → D' j = ((D j).1, (D j).2.1, (vFl (vDl D) cnt cnt j).toNat, (D j).2.2.2)) → XW (x_rm d 0 0) k_Plan_make L xs (x_mq 0 0 Q) 0 0 78 [(0, .ref r), (1, .ref q), (2, .ref va), (3, .ref ra)] [] n h') :
    ∀ (k i : Nat) (h' : xH) (D' : Nat → vDs), i + k = cnt → xfr r (r + 54) h0 h' → isPl h' r cnt π ch D' → (∀ j, j < cnt → D' j = ((D j).1, (D j).2.1, (vFl (vDl D) cnt i j).toNat, (D j).2.2.2)) → XW (x_rm d 0 0) k_Plan_make L xs (x_mq 0 0 Q) 0 0 47 [(0, .ref r), (1, .ref q), (2, .ref va), (3, .ref ra), (4, .int (nI i))] [] n h' := by
  have h8 := hD.1
  intro k
  induction k with
  | zero =>
    intro i h' D' hi f1 q1 q2
    have g0 := q1.1
    refine xr_iload a_Plan_make_47 rfl ?_
    refine xr_aload_n a_Plan_make_49 rfl ?_
    apply xr_getf a_Plan_make_50
    · (repeat' (first | assumption | exact va_up_self _ _ _ | refine x_lk (by omega) ?_))
    · rfl
    refine xn_icmp_ge a_Plan_make_53 (by omega) (by omega) (fun b53 => ?_) (fun b53 => ?_)
    · refine xr_ls [(0, .ref r), (1, .ref q), (2, .ref va), (3, .ref ra)] ⟨rfl, rfl, rfl, rfl, trivial⟩ ?_
      refine fin h' D' f1 q1 ?_
      rw [show i = cnt by omega] at q2
      exact q2
    · omega
  | succ k ih =>
    intro i h' D' hi f1 q1 q2
    have q1' := q1
    obtain ⟨g0, ⟨e', g1, g2⟩, g3, g4, g5, g6⟩ := q1
    have i8 := g5.1 i (by omega)
    have hD' : vOkD cnt D' := ⟨h8, fun j hj => by
      rw [q2 j hj]
      obtain ⟨b1, b2, b3, b4⟩ := hD.2 j hj
      exact ⟨b1, b2, tn_lt _, b4⟩⟩
    have c := t_Plan_isCovered (d := 14) (L := L) (xs := xs) (n := n) (pl := i) q1' hD' (by omega) (by omega)
    have ec : vB (vCov (vDl D') cnt (vDr D') i) = (vCovB (vDl D) cnt (vFl (vDl D) cnt i) i).toNat := by
      unfold vCovB
      rw [vD_nat]
      refine vB_c (vCov_c (by omega) (fun j hj => ?_) (fun j hj => ?_))
      · unfold vDl; rw [q2 j hj]
      · unfold vDr
        rw [q2 j hj]
        show ((vFl (vDl D) cnt i j).toNat == 1) = _
        cases vFl (vDl D) cnt i j <;> rfl
    rw [ec] at c
    refine xr_iload a_Plan_make_47 rfl ?_
    refine xr_aload_n a_Plan_make_49 rfl ?_
    apply xr_getf a_Plan_make_50
    · (repeat' (first | assumption | exact va_up_self _ _ _ | refine x_lk (by omega) ?_))
    · rfl
    refine xn_icmp_ge a_Plan_make_53 (by omega) (by omega) (fun b53 => ?_) (fun b53 => ?_)
    · omega
    · refine xr_aload_n a_Plan_make_56 rfl ?_
      apply xr_getf a_Plan_make_57
      · (repeat' (first | assumption | exact va_up_self _ _ _ | refine x_lk (by omega) ?_))
      · rfl
      refine xr_iload a_Plan_make_60 rfl ?_
      apply xn_aaload a_Plan_make_62
      · (repeat' (first | assumption | exact va_up_self _ _ _ | refine x_lk (by omega) ?_))
      · rfl
      · omega
      · omega
      · exact g2 i (by omega)
      refine xr_aload_n a_Plan_make_63 rfl ?_
      refine xr_iload a_Plan_make_64 rfl ?_
      refine xr_invV a_Plan_make_66 (by exact g0) (c) rfl rfl (by omega) (by omega) (by omega) (Nat.le_of_ble_eq_true rfl) ?_
      rintro _ _ h1 ⟨rfl, rfl, f2, z⟩
      have z' := z
      obtain ⟨y0, y1, y3, y4, y5, y6⟩ := z
      obtain ⟨DH, DF, DS, ⟨d0, d1, d2⟩, d3⟩ := y6 i (by omega)
      apply xr_putf a_Plan_make_69
      · exact d0
      · exact Nat.le_of_ble_eq_true rfl
      · exact (nar_b _ (tn_lt _)).1
      · exact (nar_b _ (tn_lt _)).2.1
      first | refine xn_iinc a_Plan_make_72 rfl (by decide) rfl ?_ | refine xr_iinc a_Plan_make_72 rfl rfl (by decide) rfl ?_
      refine xr_goto a_Plan_make_75 ?_
      refine xr_ls [(0, .ref r), (1, .ref q), (2, .ref va), (3, .ref ra), (4, .int (nI (i + 1)))] ⟨rfl, rfl, rfl, rfl, rfl, trivial⟩ ?_
      have f3 : xfr (r + 6 + 6 * π i) (r + 6 + 6 * π i + 6) h1 (va_up h1 (r + 6 + 6 * π i) (cJ 4 [.ref (r + 6 + 6 * π i + 1), .ref (r + 6 + 6 * π i + 5), .int (nI (vCovB (vDl D) cnt (vFl (vDl D) cnt i) i).toNat), .int (nI (D' i).2.2.2)])) := xfr.up0 (by omega) (by omega)
      refine ih (i + 1) _ (va_up D' i ((D' i).1, (D' i).2.1, (vCovB (vDl D) cnt (vFl (vDl D) cnt i) i).toNat, (D' i).2.2.2)) (by omega) ((f1.tr f2).tr (f3.mo (by omega) (by omega))) (z'.dis (by omega) f3 ⟨DH, DF, DS, ⟨up_self _ _ _, d1.sm (xsm_up (by omega)), x_lk (by omega) d2⟩, d3⟩) (fun j hj => ?_)
      show va_up D' i _ j = ((D j).1, (D j).2.1, (va_up (vFl (vDl D) cnt i) i (vCovB (vDl D) cnt (vFl (vDl D) cnt i) i) j).toNat, (D j).2.2.2)
      by_cases e : j = i
      · subst e
        rw [up_self, up_self, q2 j hj]
      · rw [up_ne e, up_ne e, q2 j hj]
theorem mk_B (hd : 21 ≤ d) (hD : vOkD cnt D)
    (fin : ∀ (h' : xH) (D' : Nat → vDs), xfr r (r + 54) h0 h' → isPl h' r cnt π ch D' → (∀ j, j < cnt → D' j = (vRed (D j).1.length 0 (D j).1, (D j).2)) → XW (x_rm d 0 0) k_Plan_make L xs (x_mq 0 0 Q) 0 0 44 [(0, .ref r), (1, .ref q), (2, .ref va), (3, .ref ra)] [] n h') :
    ∀ (k i : Nat) (h' : xH) (D' : Nat → vDs), i + k = cnt → xfr r (r + 54) h0 h' → isPl h' r cnt π ch D' → (∀ j, j < i → D' j = (vRed (D j).1.length 0 (D j).1, (D j).2)) → (∀ j, i ≤ j → D' j = D j) → XW (x_rm d 0 0) k_Plan_make L xs (x_mq 0 0 Q) 0 0 15 [(0, .ref r), (1, .ref q), (2, .ref va), (3, .ref ra), (4, .int (nI i))] [] n h' := by
  have h8 := hD.1
  intro k
  induction k with
  | zero =>
    intro i h' D' hi f1 q1 q2 q3
    have g0 := q1.1
    refine xr_iload a_Plan_make_15 rfl ?_
    refine xr_aload_n a_Plan_make_17 rfl ?_
    apply xr_getf a_Plan_make_18
    · (repeat' (first | assumption | exact va_up_self _ _ _ | refine x_lk (by omega) ?_))
    · rfl
    refine xn_icmp_ge a_Plan_make_21 (by omega) (by omega) (fun b21 => ?_) (fun b21 => ?_)
    · refine xr_ls [(0, .ref r), (1, .ref q), (2, .ref va), (3, .ref ra)] ⟨rfl, rfl, rfl, rfl, trivial⟩ ?_
      exact fin h' D' f1 q1 (fun j hj => q2 j (by omega))
    · omega
  | succ k ih =>
    intro i h' D' hi f1 q1 q2 q3
    have q1' := q1
    obtain ⟨g0, ⟨e', g1, g2⟩, g3, ⟨y1, y2, lo', g4⟩, g5, g6⟩ := q1
    have g7 := g6 i (by omega)
    rw [q3 i (Nat.le_refl _)] at g7
    obtain ⟨b1, b2, -, -⟩ := hD.2 i (by omega)
    have i8 := g5.1 i (by omega)
    have c := t_Disjunct_takeSuperfluousOut (d := 20) (L := L) (xs := xs) (n := n) g7 g4 (by omega) b2 b1 (by omega)
    obtain ⟨DH, DF, DS, ⟨d0, d1, d2⟩, d3⟩ := g7
    refine xr_iload a_Plan_make_15 rfl ?_
    refine xr_aload_n a_Plan_make_17 rfl ?_
    apply xr_getf a_Plan_make_18
    · (repeat' (first | assumption | exact va_up_self _ _ _ | refine x_lk (by omega) ?_))
    · rfl
    refine xn_icmp_ge a_Plan_make_21 (by omega) (by omega) (fun b21 => ?_) (fun b21 => ?_)
    · omega
    · refine xr_aload_n a_Plan_make_24 rfl ?_
      apply xr_getf a_Plan_make_25
      · (repeat' (first | assumption | exact va_up_self _ _ _ | refine x_lk (by omega) ?_))
      · rfl
      refine xr_iload a_Plan_make_28 rfl ?_
      apply xn_aaload a_Plan_make_30
      · (repeat' (first | assumption | exact va_up_self _ _ _ | refine x_lk (by omega) ?_))
      · rfl
      · omega
      · omega
      · exact g2 i (by omega)
      refine xr_aload_n a_Plan_make_31 rfl ?_
      apply xr_getf a_Plan_make_32
      · (repeat' (first | assumption | exact va_up_self _ _ _ | refine x_lk (by omega) ?_))
      · rfl
      refine xr_invV a_Plan_make_35 (by exact d0) (c) rfl rfl (by omega) (by omega) (by omega) (Nat.le_of_ble_eq_true rfl) ?_
      rintro _ _ h1 ⟨rfl, rfl, f2, z, w1, w2, w3, w4⟩
      first | refine xn_iinc a_Plan_make_38 rfl (by decide) rfl ?_ | refine xr_iinc a_Plan_make_38 rfl rfl (by decide) rfl ?_
      refine xr_goto a_Plan_make_41 ?_
      refine xr_ls [(0, .ref r), (1, .ref q), (2, .ref va), (3, .ref ra), (4, .int (nI (i + 1)))] ⟨rfl, rfl, rfl, rfl, rfl, trivial⟩ ?_
      refine ih (i + 1) h1 (va_up D' i (vRed (D i).1.length 0 (D i).1, (D i).2)) (by omega) (f1.tr (f2.one (by omega) (by omega))) ⟨(f2 _ (by omega) (by omega)).trans g0, ⟨e', (f2 _ (by omega) (by omega)).trans g1, g2⟩, (f2 _ (by omega) (by omega)).trans g3, ⟨w1, w2, w3, w4⟩, g5, fun j hj => ?_⟩ (fun j hj => ?_) (fun j hj => ?_)
      · by_cases e : j = i
        · rw [e, up_self]; exact z
        · rw [up_ne e]
          have : π j ≠ π i := fun y => e (g5.2 j i hj (by omega) y)
          exact (g6 j hj).sm (f2.sm (by omega) (by omega))
      · by_cases e : j = i
        · rw [e, up_self]
        · rw [up_ne e]; exact q2 j (by omega)
      · rw [up_ne (by omega)]; exact q3 j (by omega)
end T31

