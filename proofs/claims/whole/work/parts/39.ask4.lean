/-! Asker: all disjuncts -/
theorem vCnt_lt {p : Nat → Bool} {k : Nat} (hk : p k = true) : ∀ {i : Nat}, k < i → vCnt p k < vCnt p i
  | 0, h => by omega
  | i + 1, h => by
    show _ < vCnt p i + (p i).toNat
    by_cases e : k = i
    · subst e; rw [hk]; show _ < _ + 1; omega
    · have := vCnt_lt hk (i := i) (by omega); omega
theorem vAsk_s {ρ : vR} {x : List vA × (Nat → Option Nat)} {ds : List (List vA × (Nat → Option Nat))} {s : (Nat → Bool) × (Nat → Nat) × Nat × Nat} : vAsk ρ (x :: ds) s = if (vTell ρ x.1 x.2 x.1.length 0 s).1 = true then vAsk ρ ds (vTell ρ x.1 x.2 x.1.length 0 s).2 else (false, (vTell ρ x.1 x.2 x.1.length 0 s).2) := by
  show (match vTell ρ x.1 x.2 x.1.length 0 s with | (true, s') => vAsk ρ ds s' | (false, s') => (false, s')) = _
  rcases h : vTell ρ x.1 x.2 x.1.length 0 s with ⟨b, s'⟩
  cases b <;> rfl
section T39
variable {d L : Nat} {xs : Nat → Int32} {n : Nat} {h : xH} {a rc rq tr : Nat} {R : Nat → Nat} {Mf Mm : Nat → Bool} {w lu : Nat → Option Nat} {vr vd : Value} {g fr : Nat}
theorem t_Asker_begin (pa : isAk h a rc rq tr R Mf Mm w lu vr vd g fr) : XM d 0 0 k_Asker_begin L xs [.ref a] n h (qV n (fun h' => xfr a (a + 9) h h' ∧ isAk h' a 0 0 0 R Mf Mm w lu vr vd g fr)) := by
  have k0 := pa.1
  refine XM.of rfl (Nat.le_of_ble_eq_true rfl) ?_
  refine xr_aload_n a_Asker_begin_0 rfl ?_
  refine xr_iconst a_Asker_begin_1 (v := nI 0) (by decide +kernel) ?_
  apply xa_rc a_Asker_begin_2
  · (repeat' (first | assumption | exact va_up_self _ _ _ | refine x_lk (by omega) ?_))
  refine xr_aload_n a_Asker_begin_5 rfl ?_
  refine xr_iconst a_Asker_begin_6 (v := nI 0) (by decide +kernel) ?_
  apply xa_rq a_Asker_begin_7
  · (repeat' (first | assumption | exact va_up_self _ _ _ | refine x_lk (by omega) ?_))
  refine xr_aload_n a_Asker_begin_10 rfl ?_
  refine xr_iconst a_Asker_begin_11 (v := nI 0) (by decide +kernel) ?_
  apply xa_tr a_Asker_begin_12
  · (repeat' (first | assumption | exact va_up_self _ _ _ | refine x_lk (by omega) ?_))
  refine xr_return a_Asker_begin_15 rfl (by omega) (by omega) ?_
  exact ⟨rfl, rfl, ((xfr.up0 (by omega) (by omega)).up (by omega) (by omega)).up (by omega) (by omega), isAk.obj (isAk.obj (isAk.obj pa))⟩
theorem t_Asker_listResults (pa : isAk h a 0 rq tr R Mf Mm w lu vr vd g fr) (hd : 1 ≤ d) : XM d 0 0 k_Asker_listResults L xs [.ref a] n h (qV n (fun h' => xfr a (a + 9) h h' ∧ ∃ R', isAk h' a (vCnt Mf 256) rq tr R' Mf Mm w lu vr vd g fr ∧ ∀ k, k < 256 → Mf k = true → R' (vCnt Mf k) = k)) := by
  refine XM.of rfl (Nat.le_of_ble_eq_true rfl) ?_
  have loop : ∀ (k i : Nat) (h' : xH) (R' : Nat → Nat), i + k = 256 → xfr a (a + 9) h h' → isAk h' a (vCnt Mf i) rq tr R' Mf Mm w lu vr vd g fr → (∀ k, k < i → Mf k = true → R' (vCnt Mf k) = k) → XW (x_rm d 0 0) k_Asker_listResults L xs (x_mq 0 0 (qV n (fun h' => xfr a (a + 9) h h' ∧ ∃ R', isAk h' a (vCnt Mf 256) rq tr R' Mf Mm w lu vr vd g fr ∧ ∀ k, k < 256 → Mf k = true → R' (vCnt Mf k) = k))) 0 0 2 [(0, .ref a), (1, .int (nI i))] [] n h' := by
    intro k
    induction k with
    | zero =>
      intro i h' R' hi f1 q1 q2
      have q1' := q1
      obtain ⟨k0, k1, k2, k3, k4, k5⟩ := q1'
      have e : i = 256 := by omega
      subst e
      refine xr_iload_n a_Asker_listResults_2 rfl ?_
      refine xr_aload_n a_Asker_listResults_3 rfl ?_
      apply xr_getf a_Asker_listResults_4
      · (repeat' (first | assumption | exact va_up_self _ _ _ | refine x_lk (by omega) ?_))
      · rfl
      apply xr_alen a_Asker_listResults_7
      · (repeat' (first | assumption | exact va_up_self _ _ _ | refine x_lk (by omega) ?_))
      · rfl
      refine xn_icmp_ge a_Asker_listResults_8 (by omega) (by omega) (fun b8 => ?_) (fun b8 => ?_)
      · refine xr_return a_Asker_listResults_48 rfl (by omega) (by omega) ?_
        exact ⟨rfl, rfl, f1, R', q1, q2⟩
      · omega
    | succ k ih =>
      intro i h' R' hi f1 q1 q2
      have q1' := q1
      obtain ⟨k0, k1, k2, k3, k4, k5⟩ := q1'
      have hcl := vCnt_le Mf i
      refine xr_iload_n a_Asker_listResults_2 rfl ?_
      refine xr_aload_n a_Asker_listResults_3 rfl ?_
      apply xr_getf a_Asker_listResults_4
      · (repeat' (first | assumption | exact va_up_self _ _ _ | refine x_lk (by omega) ?_))
      · rfl
      apply xr_alen a_Asker_listResults_7
      · (repeat' (first | assumption | exact va_up_self _ _ _ | refine x_lk (by omega) ?_))
      · rfl
      refine xn_icmp_ge a_Asker_listResults_8 (by omega) (by omega) (fun b8 => ?_) (fun b8 => ?_)
      · omega
      · refine xr_aload_n a_Asker_listResults_11 rfl ?_
        apply xr_getf a_Asker_listResults_12
        · (repeat' (first | assumption | exact va_up_self _ _ _ | refine x_lk (by omega) ?_))
        · rfl
        refine xr_iload_n a_Asker_listResults_15 rfl ?_
        refine xr_invV a_Asker_listResults_16 (by exact k2.1) (t_Marks_has (d := 0) k2 (by omega) (k := i) (by omega)) rfl rfl (by omega) (by omega) (by omega) (Nat.le_of_ble_eq_true rfl) ?_
        rintro _ _ h1 ⟨rfl, rfl, rfl⟩
        refine xn_if_eq a_Asker_listResults_19 (vB_lt31 _) (fun b19 => ?_) (fun b19 => ?_)
        · have hn : Mf i = false := by
            cases z : Mf i with
            | false => rfl
            | true => exact absurd z (vB_0 b19)
          first | refine xn_iinc a_Asker_listResults_42 rfl (by decide) rfl ?_ | refine xr_iinc a_Asker_listResults_42 rfl rfl (by decide) rfl ?_
          refine xr_goto a_Asker_listResults_45 ?_
          refine xr_ls [(0, .ref a), (1, .int (nI (i + 1)))] ⟨rfl, rfl, trivial⟩ ?_
          refine ih (i + 1) h' R' (by omega) f1 ?_ (fun k hk hm => ?_)
          · have : vCnt Mf (i + 1) = vCnt Mf i := by show vCnt Mf i + (Mf i).toNat = _; rw [hn]; rfl
            rw [this]
            exact q1
          · by_cases e : k = i
            · rw [e, hn] at hm; cases hm
            · exact q2 k (by omega) hm
        · have hy := vB_1 b19
          refine xr_aload_n a_Asker_listResults_22 rfl ?_
          apply xr_getf a_Asker_listResults_23
          · (repeat' (first | assumption | exact va_up_self _ _ _ | refine x_lk (by omega) ?_))
          · rfl
          refine xr_aload_n a_Asker_listResults_26 rfl ?_
          apply xr_getf a_Asker_listResults_27
          · (repeat' (first | assumption | exact va_up_self _ _ _ | refine x_lk (by omega) ?_))
          · rfl
          refine xr_iload_n a_Asker_listResults_30 rfl ?_
          apply xn_iastore a_Asker_listResults_31
          · (repeat' (first | assumption | exact va_up_self _ _ _ | refine x_lk (by omega) ?_))
          · omega
          · omega
          refine xr_aload_n a_Asker_listResults_32 rfl ?_
          refine xr_dup a_Asker_listResults_33 rfl ?_
          apply xr_getf a_Asker_listResults_34
          · (repeat' (first | assumption | exact va_up_self _ _ _ | refine x_lk (by omega) ?_))
          · rfl
          refine xr_iconst a_Asker_listResults_37 (v := nI 1) (by decide +kernel) ?_
          first | refine xn_iadd a_Asker_listResults_38 ?_ | refine xr_iadd a_Asker_listResults_38 ?_
          apply xa_rc a_Asker_listResults_39
          · (repeat' (first | assumption | exact va_up_self _ _ _ | refine x_lk (by omega) ?_))
          first | refine xn_iinc a_Asker_listResults_42 rfl (by decide) rfl ?_ | refine xr_iinc a_Asker_listResults_42 rfl rfl (by decide) rfl ?_
          refine xr_goto a_Asker_listResults_45 ?_
          refine xr_ls [(0, .ref a), (1, .int (nI (i + 1)))] ⟨rfl, rfl, trivial⟩ ?_
          refine ih (i + 1) _ (va_up R' (vCnt Mf i) i) (by omega) ((f1.up (by omega) (by omega)).up (by omega) (by omega)) ?_ (fun k hk hm => ?_)
          · have : vCnt Mf (i + 1) = vCnt Mf i + 1 := by show vCnt Mf i + (Mf i).toNat = _; rw [hy]; rfl
            rw [this]
            exact ⟨up_self _ _ _, x_lk (by omega) (up_self _ _ _), (k2.sm (xsm_up (by omega))).sm (xsm_up (by omega)), (k3.sm (xsm_up (by omega))).sm (xsm_up (by omega)), (k4.sm (xsm_up (by omega))).sm (xsm_up (by omega)), x_lk (by omega) (x_lk (by omega) k5)⟩
          · by_cases e : k = i
            · rw [e, up_self]
            · have := vCnt_lt hm (i := i) (by omega)
              rw [up_ne (by omega)]
              exact q2 k (by omega) hm
  refine xr_iconst a_Asker_listResults_0 (v := nI 0) (by decide +kernel) ?_
  refine xr_istore_n a_Asker_listResults_1 (by decide) rfl ?_
  refine xr_ls [(0, .ref a), (1, .int (nI 0))] ⟨rfl, rfl, trivial⟩ ?_
  exact loop 256 0 h R (by omega) xfr.rf pa (fun k hk => by omega)
end T39
section T39b
variable {d L : Nat} {xs : Nat → Int32} {n : Nat} {h : xH} {a rq tr : Nat} {R : Nat → Nat} {Mf Mm : Nat → Bool} {lu : Nat → Option Nat} {vr vd : Value} {g fr : Nat} {ra rb r cnt : Nat} {π : Nat → Nat} {ch : Nat → Option Nat} {D : Nat → vDs} {ρ : Nat → vRel} {φ : Nat → Nat}
def vDd (D : Nat → vDs) (cnt : Nat) : List (List vA × (Nat → Option Nat)) := (List.range cnt).map fun i => ((D i).1, (D i).2.1)
/-- a disjunct that can be asked -/
def vAb (x : vDs) : Prop := x.1.length ≤ 6 ∧ vBdL x.1 ∧ vGdO x.1 x.2.1 ∧ vHas 16 x.1 ∧ vHas 17 x.1
theorem t_Asker_askAll (pa : isAk h a 0 rq tr R Mf Mm vVal0 lu vr vd g fr) (pp : isPl h r cnt π ch D) (pR : isRs h ra rb (vFa ρ φ)) (hra : ra < a ∨ a + 9 ≤ ra) (hrb : rb + 12 ≤ a ∨ a + 9 ≤ rb) (hrr : ra < rb ∨ rb + 12 ≤ ra) (hpa : r + 54 ≤ a ∨ a + 9 ≤ r) (hpb : r + 54 ≤ rb ∨ rb + 12 ≤ r) (hc : cnt ≤ 8) (hD : ∀ i, i < cnt → vAb (D i)) (hρ : vOkR ρ) (hφ : ∀ r, r < 4 → φ r < 10) (hd : 12 ≤ d) :
    XM d 0 0 k_Asker_askAll L xs [.ref a, .ref r, .ref ra] n h (qP n (nI (vAsk (vRw ρ) (vDd D cnt) (fun _ => false, φ, rq, tr)).1.toNat) (fun h' => xfr2 a (a + 9) rb (rb + 12) h h' ∧ (∀ r, r < 4 → (vAsk (vRw ρ) (vDd D cnt) (fun _ => false, φ, rq, tr)).2.2.1 r < 10) ∧ isRs h' ra rb (vFa ρ (vAsk (vRw ρ) (vDd D cnt) (fun _ => false, φ, rq, tr)).2.2.1) ∧ ∃ rc R' Mf' Mm' lu' vr' vd' g' fr', isAk h' a rc (vAsk (vRw ρ) (vDd D cnt) (fun _ => false, φ, rq, tr)).2.2.2.1 (vAsk (vRw ρ) (vDd D cnt) (fun _ => false, φ, rq, tr)).2.2.2.2 R' Mf' Mm' vVal0 lu' vr' vd' g' fr' ∧ ((vAsk (vRw ρ) (vDd D cnt) (fun _ => false, φ, rq, tr)).1 = false → rc = 0) ∧ ((vAsk (vRw ρ) (vDd D cnt) (fun _ => false, φ, rq, tr)).1 = true → rc = vCnt Mf' 256 ∧ Mf' = vAdd (fun _ => false) (fun c => ∃ i, i < cnt ∧ vSc (vRw ρ) (D i).1 c) ∧ ∀ k, k < 256 → Mf' k = true → R' (vCnt Mf' k) = k))) := by
  generalize hA : vAsk (vRw ρ) (vDd D cnt) (fun _ => false, φ, rq, tr) = A
  refine XM.of rfl (Nat.le_of_ble_eq_true rfl) ?_
  have loop : ∀ (k i : Nat) (h' : xH) (Mm : Nat → Bool) (φ : Nat → Nat) (rq tr g fr : Nat) (lu : Nat → Option Nat) (vd : Value), i + k = cnt → xfr2 a (a + 9) rb (rb + 12) h h' → isAk h' a 0 rq tr R (vAdd (fun _ => false) (fun c => ∃ j, j < i ∧ vSc (vRw ρ) (D j).1 c)) Mm vVal0 lu (.ref ra) vd g fr → isRs h' ra rb (vFa ρ φ) → (∀ r, r < 4 → φ r < 10) → vAsk (vRw ρ) ((vDd D cnt).drop i) (Mm, φ, rq, tr) = A → XW (x_rm d 0 0) k_Asker_askAll L xs (x_mq 0 0 (qP n (nI A.1.toNat) (fun h' => xfr2 a (a + 9) rb (rb + 12) h h' ∧ (∀ r, r < 4 → A.2.2.1 r < 10) ∧ isRs h' ra rb (vFa ρ A.2.2.1) ∧ ∃ rc R' Mf' Mm' lu' vr' vd' g' fr', isAk h' a rc A.2.2.2.1 A.2.2.2.2 R' Mf' Mm' vVal0 lu' vr' vd' g' fr' ∧ (A.1 = false → rc = 0) ∧ (A.1 = true → rc = vCnt Mf' 256 ∧ Mf' = vAdd (fun _ => false) (fun c => ∃ i, i < cnt ∧ vSc (vRw ρ) (D i).1 c) ∧ ∀ k, k < 256 → Mf' k = true → R' (vCnt Mf' k) = k)))) 0 0 21 [(0, .ref a), (1, .ref r), (2, .ref ra), (3, .int (nI i))] [] n h' := by
    intro k
    induction k with
    | zero =>
      intro i h' Mm φ rq tr g fr lu vd hi f1 q1 q2 q3 e
      have pp' := pp.sm (f1.sm (a' := r) (b' := r + 54) (by omega) (by omega))
      have g0 := pp'.1
      have k0 := q1.1
      have hic : i = cnt := by omega
      subst hic
      rw [List.drop_of_length_le (by unfold vDd; rw [List.length_map, List.length_range]; omega)] at e
      have e' : (true, Mm, φ, rq, tr) = A := e
      refine xr_iload_n a_Asker_askAll_21 rfl ?_
      refine xr_aload_n a_Asker_askAll_22 rfl ?_
      apply xr_getf a_Asker_askAll_23
      · (repeat' (first | assumption | exact va_up_self _ _ _ | refine x_lk (by omega) ?_))
      · rfl
      refine xn_icmp_ge a_Asker_askAll_26 (by omega) (by omega) (fun b26 => ?_) (fun b26 => ?_)
      · refine xr_aload_n a_Asker_askAll_54 rfl ?_
        refine xr_invV a_Asker_askAll_55 (by exact k0) (t_Asker_listResults (d := 1) q1 (by omega)) rfl rfl (by omega) (by omega) (by omega) (Nat.le_of_ble_eq_true rfl) ?_
        rintro _ _ h1 ⟨rfl, rfl, f2, R', q4, q5⟩
        refine xr_iconst a_Asker_askAll_58 (v := nI 1) (by decide +kernel) ?_
        refine xr_ireturn a_Asker_askAll_59 rfl rfl (by omega) (by omega) ?_
        subst e'
        refine ⟨rfl, rfl, f1.tr f2.gap, q3, q2.sm (f2 _ hra) (f2.sm hrb), _, R', _, Mm, lu, .ref ra, vd, g, fr, q4, (fun z => by cases z), fun _ => ⟨rfl, rfl, q5⟩⟩
      · omega
    | succ k ih =>
      intro i h' Mm φ rq tr g fr lu vd hi f1 q1 q2 q3 e
      have pp' := pp.sm (f1.sm (a' := r) (b' := r + 54) (by omega) (by omega))
      obtain ⟨g0, ⟨e', g1, g2⟩, g3, g4, g5, g6⟩ := pp'
      have i8 := g5.1 i (by omega)
      obtain ⟨b1, b2, b3, b4, b5⟩ := hD i (by omega)
      have k0 := q1.1
      have eD : (vDd D cnt).drop i = ((D i).1, (D i).2.1) :: (vDd D cnt).drop (i + 1) := by
        rw [List.drop_eq_getElem?_toList_append]
        unfold vDd
        rw [List.getElem?_map, List.getElem?_range (by omega)]
        rfl
      rw [eD, vAsk_s] at e
      have q1z := q1.obj (rc' := 0) (rq' := rq) (tr' := tr) (vr' := .ref ra) (vd' := .ref (r + 6 + 6 * π i)) (g' := g) (fr' := fr)
      have fz : xfr a (a + 9) h' (va_up h' a (cA a 0 rq tr (.ref ra) (.ref (r + 6 + 6 * π i)) g fr)) := xfr.up0 (by omega) (by omega)
      have q2z := q2.sm (fz _ hra) (fz.sm hrb)
      have pdz := (g6 i (by omega)).sm (fz.sm (by omega))
      have k0z := q1z.1
      have cD := t_Asker_askDisjunct (d := 11) (L := L) (xs := xs) (n := n) q1z pdz q2z (by omega) hra hrb (by omega) hrr b1 b2 hρ b3 b4 b5 q3 (by omega)
      clear b3 b4 b5
      generalize hT : vTell (vRw ρ) (D i).1 (D i).2.1 (D i).1.length 0 (Mm, φ, rq, tr) = T at e cD
      have tT := tn_lt T.1
      have hstop : ∀ x : Bool, x.toNat = 0 → x = false := by decide
      have hgo : ∀ x : Bool, 0 < x.toNat → x = true := by decide
      refine xr_iload_n a_Asker_askAll_21 rfl ?_
      refine xr_aload_n a_Asker_askAll_22 rfl ?_
      apply xr_getf a_Asker_askAll_23
      · (repeat' (first | assumption | exact va_up_self _ _ _ | refine x_lk (by omega) ?_))
      · rfl
      refine xn_icmp_ge a_Asker_askAll_26 (by omega) (by omega) (fun b26 => ?_) (fun b26 => ?_)
      · omega
      · refine xr_aload_n a_Asker_askAll_29 rfl ?_
        refine xr_aload_n a_Asker_askAll_30 rfl ?_
        apply xr_getf a_Asker_askAll_31
        · (repeat' (first | assumption | exact va_up_self _ _ _ | refine x_lk (by omega) ?_))
        · rfl
        refine xr_iload_n a_Asker_askAll_34 rfl ?_
        apply xn_aaload a_Asker_askAll_35
        · (repeat' (first | assumption | exact va_up_self _ _ _ | refine x_lk (by omega) ?_))
        · rfl
        · omega
        · omega
        · exact g2 i (by omega)
        apply xa_vd a_Asker_askAll_36
        · (repeat' (first | assumption | exact va_up_self _ _ _ | refine x_lk (by omega) ?_))
        · rfl
        refine xr_aload_n a_Asker_askAll_39 rfl ?_
        refine xr_invV a_Asker_askAll_40 (by exact k0z) (cD) rfl rfl (by omega) (by omega) (by omega) (Nat.le_of_ble_eq_true rfl) ?_
        rintro _ _ h1 ⟨rfl, rfl, f2, q4, q5, lu', g', fr', q6⟩
        refine xn_if_ne a_Asker_askAll_43 (by omega) (fun b43 => ?_) (fun b43 => ?_)
        · have t1 := hgo _ b43
          rw [if_pos t1] at e q6
          first | refine xn_iinc a_Asker_askAll_48 rfl (by decide) rfl ?_ | refine xr_iinc a_Asker_askAll_48 rfl rfl (by decide) rfl ?_
          refine xr_goto a_Asker_askAll_51 ?_
          refine xr_ls [(0, .ref a), (1, .ref r), (2, .ref ra), (3, .int (nI (i + 1)))] ⟨rfl, rfl, rfl, rfl, trivial⟩ ?_
          have eM : vAdd (vAdd (fun _ => false) (fun c => ∃ j, j < i ∧ vSc (vRw ρ) (D j).1 c)) (vSc (vRw ρ) (D i).1) = vAdd (fun _ => false) (fun c => ∃ j, j < i + 1 ∧ vSc (vRw ρ) (D j).1 c) := by
            apply vAdd_eq
            intro c
            rw [vAdd_iff, vAdd_iff]
            constructor
            · rintro ((z | ⟨j, z1, z2⟩) | z)
              · exact Or.inl z
              · exact Or.inr ⟨j, by omega, z2⟩
              · exact Or.inr ⟨i, by omega, z⟩
            · rintro (z | ⟨j, z1, z2⟩)
              · exact Or.inl (Or.inl z)
              · by_cases ej : j = i
                · subst ej; exact Or.inr z2
                · exact Or.inl (Or.inr ⟨j, by omega, z2⟩)
          rw [eM] at q6
          exact ih (i + 1) h1 _ _ _ _ _ _ lu' _ (by omega) (f1.tr (fz.gap.tr f2)) q6 q5 q4 e
        · have t1 := hstop _ b43
          rw [t1, if_neg (by decide)] at e
          rw [t1, if_neg (by decide)] at q6
          refine xr_iconst a_Asker_askAll_46 (v := nI 0) (by decide +kernel) ?_
          refine xr_ireturn a_Asker_askAll_47 rfl rfl (by omega) (by omega) ?_
          subst e
          refine ⟨rfl, rfl, f1.tr (fz.gap.tr f2), q4, q5, 0, R, _, _, lu', .ref ra, _, g', fr', q6, (fun _ => rfl), (fun z => by cases z)⟩
  have k0 := pa.1
  have p1 := pa.obj (rc' := 0) (rq' := rq) (tr' := tr) (vr' := .ref ra) (vd' := vd) (g' := g) (fr' := fr)
  have f1 : xfr a (a + 9) h (va_up h a (cA a 0 rq tr (.ref ra) vd g fr)) := xfr.up0 (by omega) (by omega)
  have p1' := p1
  obtain ⟨l0, l1, l2, l3, l4, l5⟩ := p1'
  refine xr_aload_n a_Asker_askAll_0 rfl ?_
  refine xr_aload_n a_Asker_askAll_1 rfl ?_
  apply xa_vr a_Asker_askAll_2
  · (repeat' (first | assumption | exact va_up_self _ _ _ | refine x_lk (by omega) ?_))
  · rfl
  refine xr_aload_n a_Asker_askAll_5 rfl ?_
  apply xr_getf a_Asker_askAll_6
  · (repeat' (first | assumption | exact va_up_self _ _ _ | refine x_lk (by omega) ?_))
  · rfl
  refine xr_invV a_Asker_askAll_9 (by exact l2.1) (t_Marks_makeEmpty (d := 1) l2 (by omega) (by omega)) rfl rfl (by omega) (by omega) (by omega) (Nat.le_of_ble_eq_true rfl) ?_
  rintro _ _ h1 ⟨rfl, rfl, f2, q2⟩
  have l0' := f2.get (by omega) l0
  have l3' := l3.sm (f2.sm (by omega))
  refine xr_aload_n a_Asker_askAll_12 rfl ?_
  apply xr_getf a_Asker_askAll_13
  · (repeat' (first | assumption | exact va_up_self _ _ _ | refine x_lk (by omega) ?_))
  · rfl
  refine xr_invV a_Asker_askAll_16 (by exact l3'.1) (t_Marks_makeEmpty (d := 1) l3' (by omega) (by omega)) rfl rfl (by omega) (by omega) (by omega) (Nat.le_of_ble_eq_true rfl) ?_
  rintro _ _ h2 ⟨rfl, rfl, f3, q3⟩
  refine xr_iconst a_Asker_askAll_19 (v := nI 0) (by decide +kernel) ?_
  refine xr_istore_n a_Asker_askAll_20 (by decide) rfl ?_
  refine xr_ls [(0, .ref a), (1, .ref r), (2, .ref ra), (3, .int (nI 0))] ⟨rfl, rfl, rfl, rfl, trivial⟩ ?_
  have fT : xfr a (a + 9) h h2 := (f1.tr (f2.mo (by omega) (by omega))).tr (f3.mo (by omega) (by omega))
  refine loop cnt 0 h2 (fun _ => false) φ rq tr g fr lu vd (by omega) fT.gap ⟨f3.get (by omega) l0', f3.get (by omega) (f2.get (by omega) l1), ?_, q3, (l4.sm (f2.sm (by omega))).sm (f3.sm (by omega)), f3.get (by omega) (f2.get (by omega) l5)⟩ (pR.sm (fT _ hra) (fT.sm hrb)) hφ (by rw [List.drop_zero]; exact hA)
  have eM : vAdd (fun _ => false) (fun c => ∃ j, j < 0 ∧ vSc (vRw ρ) (D j).1 c) = fun _ => false := (vAdd_eq (fun c => ⟨Or.inl, fun z => z.elim id (fun ⟨j, z1, _⟩ => absurd z1 (Nat.not_lt_zero j))⟩)).symm
  rw [eM]
  exact q2.sm (f3.sm (by omega))
end T39b

