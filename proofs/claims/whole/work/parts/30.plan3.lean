/-! Plan: dropping, closing gaps -/
def vOkD (cnt : Nat) (D : Nat → vDs) : Prop := cnt ≤ 8 ∧ ∀ i, i < cnt → (D i).1.length ≤ 6 ∧ vBdL (D i).1 ∧ (D i).2.2.1 < 2 ∧ (D i).2.2.2 < 2
def vDr (D : Nat → vDs) : Nat → Bool := fun i => (D i).2.2.1 == 1
def vDl (D : Nat → vDs) : Nat → List vA := fun i => (D i).1
def vSw {α : Type} (f : Nat → α) (i j : Nat) : Nat → α := va_up (va_up f i (f j)) j (f i)
theorem vSw_at {α : Type} (f : Nat → α) (i j k : Nat) : vSw f i j k = if k = j then f i else if k = i then f j else f k := rfl
theorem vSw_pm {π : Nat → Nat} {i j : Nat} (hi : i < 8) (hj : j < 8) (p : vPm π) : vPm (vSw π i j) := by
  have key : ∀ k, vSw π i j k = π (if k = j then i else if k = i then j else k) := by
    intro k
    rw [vSw_at]
    by_cases h1 : k = j
    · rw [if_pos h1, if_pos h1]
    · rw [if_neg h1, if_neg h1]
      by_cases h2 : k = i
      · rw [if_pos h2, if_pos h2]
      · rw [if_neg h2, if_neg h2]
  have lt : ∀ k, k < 8 → (if k = j then i else if k = i then j else k) < 8 := by
    intro k hk
    split
    · omega
    · split <;> omega
  refine ⟨fun k hk => ?_, fun a b ha hb e => ?_⟩
  · rw [key]
    exact p.1 _ (lt k hk)
  · rw [key, key] at e
    have := p.2 _ _ (lt a ha) (lt b hb) e
    revert this
    repeat' split
    all_goals (intro z; omega)
section T30
variable {d L : Nat} {xs : Nat → Int32} {n : Nat} {h : xH} {r cnt : Nat} {π : Nat → Nat} {ch : Nat → Option Nat} {D : Nat → vDs}
theorem isPl.map {v1 v2 : Value} {lo : Int32} (p : isPl h r cnt π ch D) : isPl (va_up h (r + 3) (cJ 6 [.ref (r + 3 + 1), v1, v2, .int lo])) r cnt π ch D := by
  obtain ⟨p0, ⟨e, p1, p2⟩, p3, ⟨_, _, _, p4⟩, p5, p6⟩ := p
  exact ⟨x_lk (by omega) p0, ⟨e, x_lk (by omega) p1, p2⟩, x_lk (by omega) p3, ⟨v1, v2, lo, up_self _ _ _, p4.2.sm (xsm_up (by omega))⟩, p5, fun i hi => (p6 i hi).sm (xsm_up (by omega))⟩
theorem t_Plan_isCovered {pl : Nat} (p : isPl h r cnt π ch D) (hD : vOkD cnt D) (hpl : pl < cnt) (hd : 14 ≤ d) : XM d 0 0 k_Plan_isCovered L xs [.ref r, .int (nI pl)] n h (qP n (nI (vB (vCov (vDl D) cnt (vDr D) pl))) (fun h' => xfr r (r + 54) h h' ∧ isPl h' r cnt π ch D)) := by
  have h8 := hD.1
  refine XM.of rfl (Nat.le_of_ble_eq_true rfl) ?_
  have loop : ∀ (k i : Nat) (h' : xH), i + k = cnt → xfr r (r + 54) h h' → isPl h' r cnt π ch D → (∀ j, j < i → ¬ (j ≠ pl ∧ vDr D j = false ∧ vMaps (vDl D j) (vDl D pl))) → XW (x_rm d 0 0) k_Plan_isCovered L xs (x_mq 0 0 (qP n (nI (vB (vCov (vDl D) cnt (vDr D) pl))) (fun h' => xfr r (r + 54) h h' ∧ isPl h' r cnt π ch D))) 0 0 2 [(0, .ref r), (1, .int (nI pl)), (2, .int (nI i))] [] n h' := by
    intro k
    induction k with
    | zero =>
      intro i h' hi f1 q1 he
      have g0 := q1.1
      refine xr_iload_n a_Plan_isCovered_2 rfl ?_
      refine xr_aload_n a_Plan_isCovered_3 rfl ?_
      apply xr_getf a_Plan_isCovered_4
      · (repeat' (first | assumption | exact va_up_self _ _ _ | refine x_lk (by omega) ?_))
      · rfl
      refine xn_icmp_ge a_Plan_isCovered_7 (by omega) (by omega) (fun b7 => ?_) (fun b7 => ?_)
      · refine xr_iconst a_Plan_isCovered_64 (v := nI 0) (by decide +kernel) ?_
        refine xr_ireturn a_Plan_isCovered_65 rfl rfl (by omega) (by omega) ?_
        refine ⟨?_, rfl, f1, q1⟩
        rw [vB_f (fun ⟨j, h1, h2⟩ => he j (by omega) h2)]
      · omega
    | succ k ih =>
      intro i h' hi f1 q1 he
      have q1' := q1
      obtain ⟨g0, ⟨e', g1, g2⟩, g3, ⟨y1, y2, lo', g4⟩, g5, g6⟩ := q1
      obtain ⟨DH, DF, DS, ⟨d0, d1, d2⟩, d3⟩ := g6 i (by omega)
      obtain ⟨PH, PF, PS, ⟨o0, o1, o2⟩, o3⟩ := g6 pl (by omega)
      obtain ⟨b1, b2, b3, -⟩ := hD.2 i (by omega)
      obtain ⟨b1', b2', -, -⟩ := hD.2 pl hpl
      have i8 := g5.1 i (by omega)
      have p8 := g5.1 pl (by omega)
      have next : ∀ h' : xH, xfr r (r + 54) h h' → isPl h' r cnt π ch D → ¬ (i ≠ pl ∧ vDr D i = false ∧ vMaps (vDl D i) (vDl D pl)) → XW (x_rm d 0 0) k_Plan_isCovered L xs (x_mq 0 0 (qP n (nI (vB (vCov (vDl D) cnt (vDr D) pl))) (fun h' => xfr r (r + 54) h h' ∧ isPl h' r cnt π ch D))) 0 0 58 [(0, .ref r), (1, .int (nI pl)), (2, .int (nI i))] [] n h' := by
        intro h' f1 q1 hno
        first | refine xn_iinc a_Plan_isCovered_58 rfl (by decide) rfl ?_ | refine xr_iinc a_Plan_isCovered_58 rfl rfl (by decide) rfl ?_
        refine xr_goto a_Plan_isCovered_61 ?_
        refine xr_ls [(0, .ref r), (1, .int (nI pl)), (2, .int (nI (i + 1)))] ⟨rfl, rfl, rfl, trivial⟩ ?_
        refine ih (i + 1) h' (by omega) f1 q1 (fun j hj => ?_)
        by_cases e : j = i
        · rw [e]; exact hno
        · exact he j (by omega)
      refine xr_iload_n a_Plan_isCovered_2 rfl ?_
      refine xr_aload_n a_Plan_isCovered_3 rfl ?_
      apply xr_getf a_Plan_isCovered_4
      · (repeat' (first | assumption | exact va_up_self _ _ _ | refine x_lk (by omega) ?_))
      · rfl
      refine xn_icmp_ge a_Plan_isCovered_7 (by omega) (by omega) (fun b7 => ?_) (fun b7 => ?_)
      · omega
      · refine xr_iload_n a_Plan_isCovered_10 rfl ?_
        refine xr_iload_n a_Plan_isCovered_11 rfl ?_
        refine xn_icmp_eq a_Plan_isCovered_12 (by omega) (by omega) (fun b12 => ?_) (fun b12 => ?_)
        · exact next h' f1 q1' (fun z => z.1 b12)
        · refine xr_aload_n a_Plan_isCovered_15 rfl ?_
          apply xr_getf a_Plan_isCovered_16
          · (repeat' (first | assumption | exact va_up_self _ _ _ | refine x_lk (by omega) ?_))
          · rfl
          refine xr_iload_n a_Plan_isCovered_19 rfl ?_
          apply xn_aaload a_Plan_isCovered_20
          · (repeat' (first | assumption | exact va_up_self _ _ _ | refine x_lk (by omega) ?_))
          · rfl
          · omega
          · omega
          · exact g2 i (by omega)
          apply xr_getf a_Plan_isCovered_21
          · (repeat' (first | assumption | exact va_up_self _ _ _ | refine x_lk (by omega) ?_))
          · rfl
          refine xn_if_ne a_Plan_isCovered_24 (by omega) (fun b24 => ?_) (fun b24 => ?_)
          · refine next h' f1 q1' (fun z => ?_)
            have : vDr D i = true := by
              unfold vDr
              have : (D i).2.2.1 = 1 := by omega
              rw [this]; rfl
            rw [this] at z
            cases z.2.1
          · have hdr : vDr D i = false := by unfold vDr; rw [b24]; rfl
            refine xr_aload_n a_Plan_isCovered_27 rfl ?_
            apply xr_getf a_Plan_isCovered_28
            · (repeat' (first | assumption | exact va_up_self _ _ _ | refine x_lk (by omega) ?_))
            · rfl
            refine xr_aload_n a_Plan_isCovered_31 rfl ?_
            apply xr_getf a_Plan_isCovered_32
            · (repeat' (first | assumption | exact va_up_self _ _ _ | refine x_lk (by omega) ?_))
            · rfl
            refine xr_iload_n a_Plan_isCovered_35 rfl ?_
            apply xn_aaload a_Plan_isCovered_36
            · (repeat' (first | assumption | exact va_up_self _ _ _ | refine x_lk (by omega) ?_))
            · rfl
            · omega
            · omega
            · exact g2 i (by omega)
            apply xr_getf a_Plan_isCovered_37
            · (repeat' (first | assumption | exact va_up_self _ _ _ | refine x_lk (by omega) ?_))
            · rfl
            refine xr_aload_n a_Plan_isCovered_40 rfl ?_
            apply xr_getf a_Plan_isCovered_41
            · (repeat' (first | assumption | exact va_up_self _ _ _ | refine x_lk (by omega) ?_))
            · rfl
            refine xr_iload_n a_Plan_isCovered_44 rfl ?_
            apply xn_aaload a_Plan_isCovered_45
            · (repeat' (first | assumption | exact va_up_self _ _ _ | refine x_lk (by omega) ?_))
            · rfl
            · omega
            · omega
            · exact g2 pl (by omega)
            apply xr_getf a_Plan_isCovered_46
            · (repeat' (first | assumption | exact va_up_self _ _ _ | refine x_lk (by omega) ?_))
            · rfl
            refine xr_iconst a_Plan_isCovered_49 (v := -1) (by decide +kernel) ?_
            refine xr_invV a_Plan_isCovered_50 (by exact g4.1) (t_Mapper_maps (d := 13) (lo := none) g4 d1 o1 (by omega) (by omega) b1 b1' (by omega) (by omega) (b2.bd d3) (b2'.bd o3) (fun k hk => by cases hk) (by omega)) rfl rfl (by omega) (by omega) (by omega) (Nat.le_of_ble_eq_true rfl) ?_
            rintro _ _ h1 ⟨rfl, rfl, rfl⟩
            rw [vB_c (vMP_all d3 o3)]
            refine xn_if_eq a_Plan_isCovered_53 (vB_lt31 _) (fun b53 => ?_) (fun b53 => ?_)
            · exact next _ (f1.up (by omega) (by omega)) q1'.map (fun z => vB_0 b53 z.2.2)
            · refine xr_iconst a_Plan_isCovered_56 (v := nI 1) (by decide +kernel) ?_
              refine xr_ireturn a_Plan_isCovered_57 rfl rfl (by omega) (by omega) ?_
              refine ⟨?_, rfl, f1.up (by omega) (by omega), q1'.map⟩
              rw [vB_t ⟨i, by omega, b12, hdr, vB_1 b53⟩]
  refine xr_iconst a_Plan_isCovered_0 (v := nI 0) (by decide +kernel) ?_
  refine xr_istore_n a_Plan_isCovered_1 (by decide) rfl ?_
  refine xr_ls [(0, .ref r), (1, .int (nI pl)), (2, .int (nI 0))] ⟨rfl, rfl, rfl, trivial⟩ ?_
  exact loop cnt 0 h (by omega) xfr.rf p (fun j hj => by omega)
/-- those that are not dropped, among the first i -/
def vKp (D : Nat → vDs) (i : Nat) : List Nat := (List.range i).filter fun j => !vDr D j
theorem vKp_s (D : Nat → vDs) (i : Nat) : vKp D (i + 1) = if vDr D i = true then vKp D i else vKp D i ++ [i] := by
  unfold vKp
  rw [List.range_succ, List.filter_append]
  cases h : vDr D i with
  | true => simp [h]
  | false => simp [h]
theorem vKp_le (D : Nat → vDs) : ∀ i, (vKp D i).length ≤ i
  | 0 => Nat.le_refl _
  | i + 1 => by
    have := vKp_le D i
    rw [vKp_s]
    split
    · omega
    · rw [List.length_append]; simp; omega
theorem t_Plan_closeGaps (p : isPl h r cnt π ch D) (hD : vOkD cnt D) : XM d 0 0 k_Plan_closeGaps L xs [.ref r] n h (qV n (fun h' => xfr r (r + 54) h h' ∧ ∃ π' D', isPl h' r (vKp D cnt).length π' ch D' ∧ ∀ j k, (vKp D cnt)[j]? = some k → D' j = D k)) := by
  have h8 := hD.1
  refine XM.of rfl (Nat.le_of_ble_eq_true rfl) ?_
  have loop : ∀ (k i : Nat) (h' : xH) (π' : Nat → Nat) (D' : Nat → vDs), i + k = cnt → xfr r (r + 54) h h' → isPl h' r cnt π' ch D' → (∀ j k, (vKp D i)[j]? = some k → D' j = D k) → (∀ j, i ≤ j → D' j = D j) → XW (x_rm d 0 0) k_Plan_closeGaps L xs (x_mq 0 0 (qV n (fun h' => xfr r (r + 54) h h' ∧ ∃ π' D', isPl h' r (vKp D cnt).length π' ch D' ∧ ∀ j k, (vKp D cnt)[j]? = some k → D' j = D k))) 0 0 4 [(0, .ref r), (1, .int (nI (vKp D i).length)), (2, .int (nI i))] [] n h' := by
    intro k
    induction k with
    | zero =>
      intro i h' π' D' hi f1 q1 q2 q3
      have q1' := q1
      obtain ⟨g0, ⟨e', g1, g2⟩, g3, ⟨y1, y2, lo', g4⟩, g5, g6⟩ := q1
      have hic : i = cnt := by omega
      subst hic
      refine xr_iload_n a_Plan_closeGaps_4 rfl ?_
      refine xr_aload_n a_Plan_closeGaps_5 rfl ?_
      apply xr_getf a_Plan_closeGaps_6
      · (repeat' (first | assumption | exact va_up_self _ _ _ | refine x_lk (by omega) ?_))
      · rfl
      refine xn_icmp_ge a_Plan_closeGaps_9 (by omega) (by omega) (fun b9 => ?_) (fun b9 => ?_)
      · refine xr_aload_n a_Plan_closeGaps_54 rfl ?_
        refine xr_iload_n a_Plan_closeGaps_55 rfl ?_
        apply xr_putf a_Plan_closeGaps_56
        · (repeat' (first | assumption | exact va_up_self _ _ _ | refine x_lk (by omega) ?_))
        · exact Nat.le_of_ble_eq_true rfl
        · rfl
        · rfl
        refine xr_return a_Plan_closeGaps_59 rfl (by omega) (by omega) ?_
        exact ⟨rfl, rfl, f1.up (by omega) (by omega), π', D', ⟨up_self _ _ _, ⟨e', x_lk (by omega) g1, g2⟩, x_lk (by omega) g3, ⟨y1, y2, lo', g4.sm (xsm_up (by omega))⟩, g5, fun j hj => (g6 j hj).sm (xsm_up (by omega))⟩, q2⟩
      · omega
    | succ k ih =>
      intro i h' π' D' hi f1 q1 q2 q3
      have q1' := q1
      obtain ⟨g0, ⟨e', g1, g2⟩, g3, ⟨y1, y2, lo', g4⟩, g5, g6⟩ := q1
      have hle := vKp_le D i
      generalize hL : (vKp D i).length = lf at hle ⊢
      obtain ⟨DH, DF, DS, ⟨d0, d1, d2⟩, d3⟩ := g6 i (by omega)
      obtain ⟨PH, PF, PS, ⟨o0, o1, o2⟩, o3⟩ := g6 lf (by omega)
      have i8 := g5.1 i (by omega)
      have p8 := g5.1 lf (by omega)
      have b3 := (hD.2 i (by omega)).2.2.1
      have eD := q3 i (Nat.le_refl _)
      rw [eD] at d0
      refine xr_iload_n a_Plan_closeGaps_4 rfl ?_
      refine xr_aload_n a_Plan_closeGaps_5 rfl ?_
      apply xr_getf a_Plan_closeGaps_6
      · (repeat' (first | assumption | exact va_up_self _ _ _ | refine x_lk (by omega) ?_))
      · rfl
      refine xn_icmp_ge a_Plan_closeGaps_9 (by omega) (by omega) (fun b9 => ?_) (fun b9 => ?_)
      · omega
      · refine xr_aload_n a_Plan_closeGaps_12 rfl ?_
        apply xr_getf a_Plan_closeGaps_13
        · (repeat' (first | assumption | exact va_up_self _ _ _ | refine x_lk (by omega) ?_))
        · rfl
        refine xr_iload_n a_Plan_closeGaps_16 rfl ?_
        apply xn_aaload a_Plan_closeGaps_17
        · (repeat' (first | assumption | exact va_up_self _ _ _ | refine x_lk (by omega) ?_))
        · rfl
        · omega
        · omega
        · exact g2 i (by omega)
        refine xr_astore_n a_Plan_closeGaps_18 (by decide) rfl ?_
        refine xr_aload_n a_Plan_closeGaps_19 rfl ?_
        apply xr_getf a_Plan_closeGaps_20
        · (repeat' (first | assumption | exact va_up_self _ _ _ | refine x_lk (by omega) ?_))
        · rfl
        refine xn_if_ne a_Plan_closeGaps_23 (by omega) (fun b23 => ?_) (fun b23 => ?_)
        · have hdr : vDr D i = true := by
            unfold vDr
            have : (D i).2.2.1 = 1 := by omega
            rw [this]; rfl
          have ek : vKp D (i + 1) = vKp D i := by rw [vKp_s, if_pos hdr]
          first | refine xn_iinc a_Plan_closeGaps_48 rfl (by decide) rfl ?_ | refine xr_iinc a_Plan_closeGaps_48 rfl rfl (by decide) rfl ?_
          refine xr_goto a_Plan_closeGaps_51 ?_
          refine xr_ls [(0, .ref r), (1, .int (nI lf)), (2, .int (nI (i + 1)))] ⟨rfl, rfl, rfl, trivial⟩ ?_
          have := ih (i + 1) h' π' D' (by omega) f1 q1' (by rw [ek]; exact q2) (fun j hj => q3 j (by omega))
          rw [ek, hL] at this
          exact this
        · have hdr : vDr D i = false := by unfold vDr; rw [b23]; rfl
          have ek : vKp D (i + 1) = vKp D i ++ [i] := by rw [vKp_s, if_neg (by rw [hdr]; decide)]
          have el : (vKp D (i + 1)).length = lf + 1 := by rw [ek, List.length_append, hL]; rfl
          refine xr_aload_n a_Plan_closeGaps_26 rfl ?_
          apply xr_getf a_Plan_closeGaps_27
          · (repeat' (first | assumption | exact va_up_self _ _ _ | refine x_lk (by omega) ?_))
          · rfl
          refine xr_iload_n a_Plan_closeGaps_30 rfl ?_
          refine xr_aload_n a_Plan_closeGaps_31 rfl ?_
          apply xr_getf a_Plan_closeGaps_32
          · (repeat' (first | assumption | exact va_up_self _ _ _ | refine x_lk (by omega) ?_))
          · rfl
          refine xr_iload_n a_Plan_closeGaps_35 rfl ?_
          apply xn_aaload a_Plan_closeGaps_36
          · (repeat' (first | assumption | exact va_up_self _ _ _ | refine x_lk (by omega) ?_))
          · rfl
          · omega
          · omega
          · exact g2 lf (by omega)
          apply xr_aastore a_Plan_closeGaps_37
          · (repeat' (first | assumption | exact va_up_self _ _ _ | refine x_lk (by omega) ?_))
          · rfl
          · exact o0
          · rfl
          · rfl
          · omega
          · omega
          refine xr_aload_n a_Plan_closeGaps_38 rfl ?_
          apply xr_getf a_Plan_closeGaps_39
          · (repeat' (first | assumption | exact va_up_self _ _ _ | refine x_lk (by omega) ?_))
          · rfl
          refine xr_iload_n a_Plan_closeGaps_42 rfl ?_
          refine xr_aload_n a_Plan_closeGaps_43 rfl ?_
          apply xr_aastore a_Plan_closeGaps_44
          · (repeat' (first | assumption | exact va_up_self _ _ _ | refine x_lk (by omega) ?_))
          · rfl
          · exact (x_lk (by omega) d0)
          · rfl
          · rfl
          · omega
          · omega
          first | refine xn_iinc a_Plan_closeGaps_45 rfl (by decide) rfl ?_ | refine xr_iinc a_Plan_closeGaps_45 rfl rfl (by decide) rfl ?_
          first | refine xn_iinc a_Plan_closeGaps_48 rfl (by decide) rfl ?_ | refine xr_iinc a_Plan_closeGaps_48 rfl rfl (by decide) rfl ?_
          refine xr_goto a_Plan_closeGaps_51 ?_
          refine xr_ls [(0, .ref r), (1, .int (nI (lf + 1))), (2, .int (nI (i + 1)))] ⟨rfl, rfl, rfl, trivial⟩ ?_
          rw [up_up]
          have := ih (i + 1) (va_up h' (r + 1) (cQ 5 8 (va_up (va_up e' i (some (r + 6 + 6 * π' lf))) lf (some (r + 6 + 6 * π' i))))) (vSw π' i lf) (vSw D' i lf) (by omega) (f1.up (by omega) (by omega)) ⟨x_lk (by omega) g0, ⟨_, up_self _ _ _, ?_⟩, x_lk (by omega) g3, ⟨y1, y2, lo', g4.sm (xsm_up (by omega))⟩, vSw_pm (by omega) (by omega) g5, ?_⟩ ?_ ?_
          · rw [el] at this
            exact this
          · intro j hj
            rw [vSw_at]
            unfold va_up
            by_cases h1 : j = lf
            · rw [if_pos h1, if_pos h1]
            · rw [if_neg h1, if_neg h1]
              by_cases h2 : j = i
              · rw [if_pos h2, if_pos h2]
              · rw [if_neg h2, if_neg h2]; exact g2 j hj
          · intro j hj
            rw [vSw_at, vSw_at]
            by_cases h1 : j = lf
            · rw [if_pos h1, if_pos h1]; exact (g6 i (by omega)).sm (xsm_up (by omega))
            · rw [if_neg h1, if_neg h1]
              by_cases h2 : j = i
              · rw [if_pos h2, if_pos h2]; exact (g6 lf (by omega)).sm (xsm_up (by omega))
              · rw [if_neg h2, if_neg h2]; exact (g6 j hj).sm (xsm_up (by omega))
          · intro j k' hj
            rw [ek] at hj
            rw [vSw_at]
            by_cases h1 : j < lf
            · rw [List.getElem?_append_left (by omega)] at hj
              rw [if_neg (by omega), if_neg (by omega)]
              exact q2 j k' hj
            · rw [List.getElem?_append_right (by omega)] at hj
              have hx1 : j - (vKp D i).length < 1 := (List.getElem?_eq_some_iff.mp hj).1
              have hx2 : j = lf := by omega
              rw [show j - (vKp D i).length = 0 by omega] at hj
              cases hj
              rw [if_pos hx2]
              exact eD
          · intro j hj
            rw [vSw_at, if_neg (by omega), if_neg (by omega)]
            exact q3 j (by omega)
  refine xr_iconst a_Plan_closeGaps_0 (v := nI 0) (by decide +kernel) ?_
  refine xr_istore_n a_Plan_closeGaps_1 (by decide) rfl ?_
  refine xr_iconst a_Plan_closeGaps_2 (v := nI 0) (by decide +kernel) ?_
  refine xr_istore_n a_Plan_closeGaps_3 (by decide) rfl ?_
  refine xr_ls [(0, .ref r), (1, .int (nI 0)), (2, .int (nI 0))] ⟨rfl, rfl, rfl, trivial⟩ ?_
  exact loop cnt 0 h π D (by omega) xfr.rf p (fun j k hj => by cases hj) (fun _ _ => rfl)
theorem t_Plan_isBlocked (p : isPl h r cnt π ch D) (hc : cnt ≤ 8) (hb : ∀ i, i < cnt → (D i).2.2.2 < 2) : XM d 0 0 k_Plan_isBlocked L xs [.ref r] n h (qR n h (nI (vB (∃ i, i < cnt ∧ (D i).2.2.2 = 1)))) := by
  obtain ⟨g0, ⟨e', g1, g2⟩, g3, g4, g5, g6⟩ := p
  refine XM.of rfl (Nat.le_of_ble_eq_true rfl) ?_
  have loop : ∀ (k i : Nat), i + k = cnt → (∀ j, j < i → ¬ (D j).2.2.2 = 1) → XW (x_rm d 0 0) k_Plan_isBlocked L xs (x_mq 0 0 (qR n h (nI (vB (∃ i, i < cnt ∧ (D i).2.2.2 = 1))))) 0 0 2 [(0, .ref r), (1, .int (nI i))] [] n h := by
    intro k
    induction k with
    | zero =>
      intro i hi he
      refine xr_iload_n a_Plan_isBlocked_2 rfl ?_
      refine xr_aload_n a_Plan_isBlocked_3 rfl ?_
      apply xr_getf a_Plan_isBlocked_4
      · (repeat' (first | assumption | exact va_up_self _ _ _ | refine x_lk (by omega) ?_))
      · rfl
      refine xn_icmp_ge a_Plan_isBlocked_7 (by omega) (by omega) (fun b7 => ?_) (fun b7 => ?_)
      · refine xr_iconst a_Plan_isBlocked_30 (v := nI 0) (by decide +kernel) ?_
        refine xr_ireturn a_Plan_isBlocked_31 rfl rfl (by omega) (by omega) ?_
        refine ⟨?_, rfl, rfl⟩
        rw [vB_f (fun ⟨j, h1, h2⟩ => he j (by omega) h2)]
      · omega
    | succ k ih =>
      intro i hi he
      obtain ⟨DH, DF, DS, ⟨d0, d1, d2⟩, d3⟩ := g6 i (by omega)
      have b := hb i (by omega)
      refine xr_iload_n a_Plan_isBlocked_2 rfl ?_
      refine xr_aload_n a_Plan_isBlocked_3 rfl ?_
      apply xr_getf a_Plan_isBlocked_4
      · (repeat' (first | assumption | exact va_up_self _ _ _ | refine x_lk (by omega) ?_))
      · rfl
      refine xn_icmp_ge a_Plan_isBlocked_7 (by omega) (by omega) (fun b7 => ?_) (fun b7 => ?_)
      · omega
      · refine xr_aload_n a_Plan_isBlocked_10 rfl ?_
        apply xr_getf a_Plan_isBlocked_11
        · (repeat' (first | assumption | exact va_up_self _ _ _ | refine x_lk (by omega) ?_))
        · rfl
        refine xr_iload_n a_Plan_isBlocked_14 rfl ?_
        apply xn_aaload a_Plan_isBlocked_15
        · (repeat' (first | assumption | exact va_up_self _ _ _ | refine x_lk (by omega) ?_))
        · rfl
        · omega
        · omega
        · exact g2 i (by omega)
        apply xr_getf a_Plan_isBlocked_16
        · (repeat' (first | assumption | exact va_up_self _ _ _ | refine x_lk (by omega) ?_))
        · rfl
        refine xn_if_eq a_Plan_isBlocked_19 (by omega) (fun b19 => ?_) (fun b19 => ?_)
        · first | refine xn_iinc a_Plan_isBlocked_24 rfl (by decide) rfl ?_ | refine xr_iinc a_Plan_isBlocked_24 rfl rfl (by decide) rfl ?_
          refine xr_goto a_Plan_isBlocked_27 ?_
          refine xr_ls [(0, .ref r), (1, .int (nI (i + 1)))] ⟨rfl, rfl, trivial⟩ ?_
          refine ih (i + 1) (by omega) (fun j hj => ?_)
          by_cases e : j = i
          · rw [e]; omega
          · exact he j (by omega)
        · refine xr_iconst a_Plan_isBlocked_22 (v := nI 1) (by decide +kernel) ?_
          refine xr_ireturn a_Plan_isBlocked_23 rfl rfl (by omega) (by omega) ?_
          refine ⟨?_, rfl, rfl⟩
          rw [vB_t ⟨i, by omega, by omega⟩]
  refine xr_iconst a_Plan_isBlocked_0 (v := nI 0) (by decide +kernel) ?_
  refine xr_istore_n a_Plan_isBlocked_1 (by decide) rfl ?_
  refine xr_ls [(0, .ref r), (1, .int (nI 0))] ⟨rfl, rfl, trivial⟩ ?_
  exact loop cnt 0 (by omega) (fun j hj => by omega)
end T30

