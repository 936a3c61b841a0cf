/-! Disjunct: the order -/
theorem vMove_mem {l : List vA} {i p : Nat} {a : vA} (hp : p ≤ i) (h : a ∈ vMove l i p) : a ∈ l := by
  unfold vMove at h
  cases e : l[i]? with
  | none => rw [e] at h; exact h
  | some b =>
    rw [e] at h
    have hi : i < l.length := (List.getElem?_eq_some_iff.mp e).1
    have hl : p ≤ (l.eraseIdx i).length := by rw [List.length_eraseIdx, if_pos hi]; omega
    rcases (List.mem_insertIdx hl).mp h with rfl | h
    · exact List.mem_of_getElem? e
    · exact vMem_erase h
theorem vRep.vat {l : List vA} {n : Nat} {H F S : Nat → Nat} (h : vRep l n H F S) {j : Nat} (hj : j < n) : vAt l j = (H j, F j, S j) := by
  unfold vAt
  rw [List.getD_eq_getElem?_getD, h.ix hj]
  rfl
theorem vKn_iff {l : List vA} {n : Nat} {H F S : Nat → Nat} (h : vRep l n H F S) {k t : Nat} (hk : k ≤ n) : vKn l k t = true ↔ t < 16 ∨ ∃ j, j < k ∧ (F j = t ∨ S j = t) := by
  unfold vKn
  rw [Bool.or_eq_true, decide_eq_true_iff, List.any_eq_true]
  constructor
  · rintro (q | ⟨a, ha, q⟩)
    · exact Or.inl q
    · obtain ⟨j, hj⟩ := List.getElem?_of_mem ha
      rw [List.getElem?_take] at hj
      split at hj
      · rename_i hjk
        rw [h.ix (by omega)] at hj
        cases hj
        right
        exact ⟨j, hjk, by simpa using q⟩
      · cases hj
  · rintro (q | ⟨j, hj, q⟩)
    · exact Or.inl q
    · right
      refine ⟨(H j, F j, S j), List.mem_of_getElem? (i := j) ?_, by simpa using q⟩
      rw [List.getElem?_take, if_pos hj]
      exact h.ix (by omega)
def vMsk (K : Int64) (l : List vA) (k : Nat) : Prop := ∀ t, t < 34 → btL K t = vKn l k t
theorem or_12 : ∀ a b : Bool, (a.toNat ||| 2 * b.toNat) = a.toNat + 2 * b.toNat := by decide
theorem vHv_lt (l : List vA) (k : Nat) (a : vA) : vHv l k a < 4 := by
  have h1 := tn_lt (vKn l k a.2.1)
  have h2 := tn_lt (vKn l k a.2.2)
  unfold vHv
  omega
section T27
variable {d L : Nat} {xs : Nat → Int32} {n : Nat} {h : xH} {r : Nat} {l : List vA} {pt : Nat → Option Nat} {dr bl k : Nat} {K : Int64}
theorem t_Disjunct_knownHalves {i : Nat} (p : isDl h r l pt dr bl) (hK : vMsk K l k) (hi : i < l.length) (hl : l.length ≤ 6) (hb : vBdL l) : XM d 0 0 k_Disjunct_knownHalves L xs [.ref r, .int (nI i), .long K] n h (qR n h (nI (vHv l k (vAt l i)))) := by
  obtain ⟨H, F, S, ⟨p0, ⟨a0, a1, a2, a3⟩, p2⟩, pr⟩ := p
  have bd := hb.at pr hi
  have e : vAt l i = (H i, F i, S i) := pr.vat hi
  have k1 := hK (F i) (by omega)
  have k2 := hK (S i) (by omega)
  rw [show vHv l k (vAt l i) = (vKn l k (F i)).toNat + 2 * (vKn l k (S i)).toNat by rw [e]; rfl]
  refine XM.of rfl (Nat.le_of_ble_eq_true rfl) ?_
  have rest : ∀ b : Bool, b = vKn l k (F i) → XW (x_rm d 0 0) k_Disjunct_knownHalves L xs (x_mq 0 0 (qR n h (nI ((vKn l k (F i)).toNat + 2 * (vKn l k (S i)).toNat)))) 0 0 23 [(0, .ref r), (1, .int (nI i)), (2, .long K)] [.int (nI b.toNat)] n h := by
    intro b hb
    refine xr_istore a_Disjunct_knownHalves_23 (by decide) rfl ?_
    refine xr_lload_n a_Disjunct_knownHalves_25 rfl ?_
    refine xr_aload_n a_Disjunct_knownHalves_26 rfl ?_
    apply xr_getf a_Disjunct_knownHalves_27
    · (repeat' (first | assumption | exact va_up_self _ _ _ | refine x_lk (by omega) ?_))
    · rfl
    apply xr_getf a_Disjunct_knownHalves_30
    · (repeat' (first | assumption | exact va_up_self _ _ _ | refine x_lk (by omega) ?_))
    · rfl
    refine xr_iload_n a_Disjunct_knownHalves_33 rfl ?_
    apply xn_iaload a_Disjunct_knownHalves_34
    · (repeat' (first | assumption | exact va_up_self _ _ _ | refine x_lk (by omega) ?_))
    · omega
    · omega
    refine xr_lshr a_Disjunct_knownHalves_35 ?_
    refine xr_lconst a_Disjunct_knownHalves_36 (v := 1) (by decide +kernel) ?_
    refine xr_land a_Disjunct_knownHalves_37 ?_
    refine xr_lconst a_Disjunct_knownHalves_38 (v := 0) (by decide +kernel) ?_
    refine xr_lcmp a_Disjunct_knownHalves_39 ?_
    refine xr_if_eq a_Disjunct_knownHalves_40 (fun b40 => ?_) (fun b40 => ?_)
    · have z := (bt_shr (by omega)).mp (lc_eq.mp b40)
      refine xr_iconst a_Disjunct_knownHalves_47 (v := nI 0) (by decide +kernel) ?_
      refine xr_istore a_Disjunct_knownHalves_48 (by decide) rfl ?_
      refine xr_iload a_Disjunct_knownHalves_50 rfl ?_
      refine xr_iload a_Disjunct_knownHalves_52 rfl ?_
      refine xr_ior a_Disjunct_knownHalves_54 ?_; rw [bp_or _ (Nat.lt_trans (tn_lt b) (by decide)) 0 (by decide)]
      refine xr_ireturn a_Disjunct_knownHalves_55 rfl rfl (by omega) (by omega) ?_
      refine ⟨?_, rfl, rfl⟩
      rw [← hb, ← k2, z, ← or_12]
      rfl
    · have z : btL K (S i) = true := by
        cases q : btL K (S i) with
        | true => rfl
        | false => exact absurd (lc_eq.mpr ((bt_shr (by omega)).mpr q)) b40
      refine xr_iconst a_Disjunct_knownHalves_43 (v := nI 2) (by decide +kernel) ?_
      refine xr_goto a_Disjunct_knownHalves_44 ?_
      refine xr_istore a_Disjunct_knownHalves_48 (by decide) rfl ?_
      refine xr_iload a_Disjunct_knownHalves_50 rfl ?_
      refine xr_iload a_Disjunct_knownHalves_52 rfl ?_
      refine xr_ior a_Disjunct_knownHalves_54 ?_; rw [bp_or _ (Nat.lt_trans (tn_lt b) (by decide)) 2 (by decide)]
      refine xr_ireturn a_Disjunct_knownHalves_55 rfl rfl (by omega) (by omega) ?_
      refine ⟨?_, rfl, rfl⟩
      rw [← hb, ← k2, z, ← or_12]
      rfl
  refine xr_lload_n a_Disjunct_knownHalves_0 rfl ?_
  refine xr_aload_n a_Disjunct_knownHalves_1 rfl ?_
  apply xr_getf a_Disjunct_knownHalves_2
  · (repeat' (first | assumption | exact va_up_self _ _ _ | refine x_lk (by omega) ?_))
  · rfl
  apply xr_getf a_Disjunct_knownHalves_5
  · (repeat' (first | assumption | exact va_up_self _ _ _ | refine x_lk (by omega) ?_))
  · rfl
  refine xr_iload_n a_Disjunct_knownHalves_8 rfl ?_
  apply xn_iaload a_Disjunct_knownHalves_9
  · (repeat' (first | assumption | exact va_up_self _ _ _ | refine x_lk (by omega) ?_))
  · omega
  · omega
  refine xr_lshr a_Disjunct_knownHalves_10 ?_
  refine xr_lconst a_Disjunct_knownHalves_11 (v := 1) (by decide +kernel) ?_
  refine xr_land a_Disjunct_knownHalves_12 ?_
  refine xr_lconst a_Disjunct_knownHalves_13 (v := 0) (by decide +kernel) ?_
  refine xr_lcmp a_Disjunct_knownHalves_14 ?_
  refine xr_if_eq a_Disjunct_knownHalves_15 (fun b15 => ?_) (fun b15 => ?_)
  · have z := (bt_shr (by omega)).mp (lc_eq.mp b15)
    refine xr_iconst a_Disjunct_knownHalves_22 (v := nI 0) (by decide +kernel) ?_
    refine xr_ls [(0, .ref r), (1, .int (nI i)), (2, .long K)] ⟨rfl, rfl, rfl, trivial⟩ ?_
    exact rest false (by rw [← k1, z])
  · have z : btL K (F i) = true := by
      cases q : btL K (F i) with
      | true => rfl
      | false => exact absurd (lc_eq.mpr ((bt_shr (by omega)).mpr q)) b15
    refine xr_iconst a_Disjunct_knownHalves_18 (v := nI 1) (by decide +kernel) ?_
    refine xr_goto a_Disjunct_knownHalves_19 ?_
    refine xr_ls [(0, .ref r), (1, .int (nI i)), (2, .long K)] ⟨rfl, rfl, rfl, trivial⟩ ?_
    exact rest true (by rw [← k1, z])
theorem t_Disjunct_putNext {ra rb : Nat} {ρ : Nat → vRel} (p : isDl h r l pt dr bl) (pR : isRs h ra rb ρ) (hra : ra < r ∨ r + 6 ≤ ra) (hrb : rb + 12 ≤ r ∨ r + 6 ≤ rb) (hal : ∀ i, i < 4 → (ρ i).2.2.2.1 < 16) (hK : vMsk K l k) (hk : k ≤ l.length) (hl : l.length ≤ 6) (hb : vBdL l) (hd : 3 ≤ d) : XM d 0 0 k_Disjunct_putNext L xs [.ref r, .int (nI k), .long K, .ref ra] n h (qP n (nI (vB (vNext (fun i => (ρ i).2.2.2.1) l k ≠ none))) (fun h' => xfr r (r + 6) h h' ∧ (vNext (fun i => (ρ i).2.2.2.1) l k = none → h' = h) ∧ ∀ i, vNext (fun i => (ρ i).2.2.2.1) l k = some i → isDl h' r (vMove l i k) (va_up pt k (vBst (fun i => (ρ i).2.2.2.1) l k (vAt l i))) dr bl)) := by
  have p' := p
  obtain ⟨⟨f, r0, r1⟩, r2⟩ := pR
  obtain ⟨H, F, S, ⟨p0, pA, p2⟩, pr⟩ := p
  have pA' := pA
  obtain ⟨a0, a1, a2, a3⟩ := pA'
  refine XM.of rfl (Nat.le_of_ble_eq_true rfl) ?_
  have loop : ∀ q j, k + j + q = l.length → rF (fun i => (vBst (fun i => (ρ i).2.2.2.1) l k (vAt l i)).isSome) (k + j) q = vNext (fun i => (ρ i).2.2.2.1) l k → XW (x_rm d 0 0) k_Disjunct_putNext L xs (x_mq 0 0 (qP n (nI (vB (vNext (fun i => (ρ i).2.2.2.1) l k ≠ none))) (fun h' => xfr r (r + 6) h h' ∧ (vNext (fun i => (ρ i).2.2.2.1) l k = none → h' = h) ∧ ∀ i, vNext (fun i => (ρ i).2.2.2.1) l k = some i → isDl h' r (vMove l i k) (va_up pt k (vBst (fun i => (ρ i).2.2.2.1) l k (vAt l i))) dr bl))) 0 0 3 [(0, .ref r), (1, .int (nI k)), (2, .long K), (4, .ref ra), (5, .int (nI (k + j)))] [] n h := by
    intro q
    induction q with
    | zero =>
      intro j hj he
      have he' : vNext (fun i => (ρ i).2.2.2.1) l k = none := he.symm
      refine xr_iload a_Disjunct_putNext_3 rfl ?_
      refine xr_aload_n a_Disjunct_putNext_5 rfl ?_
      apply xr_getf a_Disjunct_putNext_6
      · (repeat' (first | assumption | exact va_up_self _ _ _ | refine x_lk (by omega) ?_))
      · rfl
      apply xr_getf a_Disjunct_putNext_9
      · (repeat' (first | assumption | exact va_up_self _ _ _ | refine x_lk (by omega) ?_))
      · rfl
      refine xn_icmp_ge a_Disjunct_putNext_12 (by omega) (by omega) (fun b12 => ?_) (fun b12 => ?_)
      · refine xr_iconst a_Disjunct_putNext_72 (v := nI 0) (by decide +kernel) ?_
        refine xr_ireturn a_Disjunct_putNext_73 rfl rfl (by omega) (by omega) ?_
        refine ⟨?_, rfl, xfr.rf, fun _ => rfl, fun i hi => ?_⟩
        · rw [vB_f (by simpa using he')]
        · rw [he'] at hi; cases hi
      · omega
    | succ q ih =>
      intro j hj he
      have bd := hb.at pr (i := k + j) (by omega)
      have e : vAt l (k + j) = (H (k + j), F (k + j), S (k + j)) := pr.vat (by omega)
      have eb : vBst (fun i => (ρ i).2.2.2.1) l k (vAt l (k + j)) = vBest (ρ (H (k + j))).2.2.2.1 (vHv l k (vAt l (k + j))) := by
        unfold vBst
        rw [e]
      refine xr_iload a_Disjunct_putNext_3 rfl ?_
      refine xr_aload_n a_Disjunct_putNext_5 rfl ?_
      apply xr_getf a_Disjunct_putNext_6
      · (repeat' (first | assumption | exact va_up_self _ _ _ | refine x_lk (by omega) ?_))
      · rfl
      apply xr_getf a_Disjunct_putNext_9
      · (repeat' (first | assumption | exact va_up_self _ _ _ | refine x_lk (by omega) ?_))
      · rfl
      refine xn_icmp_ge a_Disjunct_putNext_12 (by omega) (by omega) (fun b12 => ?_) (fun b12 => ?_)
      · omega
      · refine xr_aload a_Disjunct_putNext_15 rfl ?_
        refine xr_aload_n a_Disjunct_putNext_17 rfl ?_
        apply xr_getf a_Disjunct_putNext_18
        · (repeat' (first | assumption | exact va_up_self _ _ _ | refine x_lk (by omega) ?_))
        · rfl
        apply xr_getf a_Disjunct_putNext_21
        · (repeat' (first | assumption | exact va_up_self _ _ _ | refine x_lk (by omega) ?_))
        · rfl
        refine xr_iload a_Disjunct_putNext_24 rfl ?_
        apply xn_iaload a_Disjunct_putNext_26
        · (repeat' (first | assumption | exact va_up_self _ _ _ | refine x_lk (by omega) ?_))
        · omega
        · omega
        apply xn_aaload a_Disjunct_putNext_27
        · (repeat' (first | assumption | exact va_up_self _ _ _ | refine x_lk (by omega) ?_))
        · rfl
        · omega
        · omega
        · exact r1 _ bd.1
        refine xr_aload_n a_Disjunct_putNext_28 rfl ?_
        refine xr_iload a_Disjunct_putNext_29 rfl ?_
        refine xr_lload_n a_Disjunct_putNext_31 rfl ?_
        refine xr_invV a_Disjunct_putNext_32 (by exact p0) (t_Disjunct_knownHalves (d := 0) (i := k + j) p' hK (by omega) hl hb) rfl rfl (by omega) (by omega) (by omega) (Nat.le_of_ble_eq_true rfl) ?_
        rintro _ _ h1 ⟨rfl, rfl, rfl⟩
        refine xr_invV a_Disjunct_putNext_35 (by exact (r2 _ bd.1).1) (t_Relation_greatestPattern (d := 0) (r2 _ bd.1) (hal _ bd.1) (vHv_lt l k _)) rfl rfl (by omega) (by omega) (by omega) (Nat.le_of_ble_eq_true rfl) ?_
        rintro _ _ h1 ⟨rfl, rfl, rfl⟩
        refine xr_istore a_Disjunct_putNext_38 (by decide) rfl ?_
        refine xr_iload a_Disjunct_putNext_40 rfl ?_
        refine xr_iconst a_Disjunct_putNext_42 (v := -1) (by decide +kernel) ?_
        rw [← eb]
        refine xo_icmp_eq a_Disjunct_putNext_43 (fun q hq => by rw [eb] at hq; have := vBest_lt hq; omega) (fun b43 => ?_) (fun b43 => ?_)
        · first | refine xn_iinc a_Disjunct_putNext_66 rfl (by decide) rfl ?_ | refine xr_iinc a_Disjunct_putNext_66 rfl rfl (by decide) rfl ?_
          refine xr_goto a_Disjunct_putNext_69 ?_
          refine xr_ls [(0, .ref r), (1, .int (nI k)), (2, .long K), (4, .ref ra), (5, .int (nI (k + (j + 1))))] ⟨rfl, rfl, rfl, rfl, rfl, trivial⟩ ?_
          refine ih (j + 1) (by omega) ?_
          rw [← he]
          exact (rF_no (show (vBst (fun i => (ρ i).2.2.2.1) l k (vAt l (k + j))).isSome = false by rw [b43]; rfl)).symm
        · have hN : vNext (fun i => (ρ i).2.2.2.1) l k = some (k + j) := by
            rw [← he]
            refine rF_yes ?_
            cases z : vBst (fun i => (ρ i).2.2.2.1) l k (vAt l (k + j)) with
            | none => exact absurd z b43
            | some _ => rfl
          refine xr_aload_n a_Disjunct_putNext_46 rfl ?_
          apply xr_getf a_Disjunct_putNext_47
          · (repeat' (first | assumption | exact va_up_self _ _ _ | refine x_lk (by omega) ?_))
          · rfl
          refine xr_iload a_Disjunct_putNext_50 rfl ?_
          refine xr_iload_n a_Disjunct_putNext_52 rfl ?_
          refine xr_invV a_Disjunct_putNext_53 (by exact a0) (t_AtomList_moveForward (d := 2) pA (p0 := k) (i := j) (by omega) (by omega) (by omega)) rfl rfl (by omega) (by omega) (by omega) (Nat.le_of_ble_eq_true rfl) ?_
          rintro _ _ h1 ⟨rfl, rfl, f1, q1⟩
          refine xr_aload_n a_Disjunct_putNext_56 rfl ?_
          apply xr_getf a_Disjunct_putNext_57
          · exact (f1.get (by omega) p0)
          · rfl
          refine xr_iload_n a_Disjunct_putNext_60 rfl ?_
          refine xr_iload a_Disjunct_putNext_61 rfl ?_
          apply xo_iastore (o := vBst (fun i => (ρ i).2.2.2.1) l k (vAt l (k + j))) a_Disjunct_putNext_63
          · exact (f1.get (by omega) p2)
          · exact rfl
          · omega
          · omega
          refine xr_iconst a_Disjunct_putNext_64 (v := nI 1) (by decide +kernel) ?_
          refine xr_ireturn a_Disjunct_putNext_65 rfl rfl (by omega) (by omega) ?_
          refine ⟨?_, rfl, (f1.mo (by omega) (by omega)).up (by omega) (by omega), fun z => ?_, fun i z => ?_⟩
          · rw [vB_t (by rw [hN]; simp)]
          · rw [hN] at z; cases z
          · rw [hN] at z
            cases z
            have mv := pr.move (i := k + j) (p := k) (by omega) (by omega)
            rw [show k + j - k = j by omega] at mv
            refine ⟨vBack H k j, vBack F k j, vBack S k j, ⟨x_lk (by omega) (f1.get (by omega) p0), ?_, up_self _ _ _⟩, ?_⟩
            · rw [← mv.1]
              exact q1.sm (xsm_up (by omega))
            · rw [← mv.1]
              exact mv
  refine xr_iload_n a_Disjunct_putNext_0 rfl ?_
  refine xr_istore a_Disjunct_putNext_1 (by decide) rfl ?_
  refine xr_ls [(0, .ref r), (1, .int (nI k)), (2, .long K), (4, .ref ra), (5, .int (nI (k + 0)))] ⟨rfl, rfl, rfl, rfl, rfl, trivial⟩ ?_
  exact loop (l.length - k) 0 (by omega) rfl
theorem vMsk_0 {l : List vA} : vMsk 65535 l 0 := by
  intro t ht
  rw [bt_low t (by omega)]
  unfold vKn
  rw [List.take_zero]
  simp
theorem vMsk_next {l l1 : List vA} {k i : Nat} {K : Int64} {H F S : Nat → Nat} (hK : vMsk K l k) (pr : vRep l l.length H F S) (hi : i < l.length) (hki : k ≤ i) (hb : vBdL l) (h1 : l1 = vMove l i k) {H1 F1 S1 : Nat → Nat} (pr1 : vRep l1 l1.length H1 F1 S1) : vMsk (K ||| ((1 <<< ((nI (F1 k)).toInt64 &&& 63)) ||| (1 <<< ((nI (S1 k)).toInt64 &&& 63)))) l1 (k + 1) := by
  intro t ht
  have mv := pr.move hi hki
  rw [← h1] at mv
  have hl1 : l1.length = l.length := mv.1.symm
  have bk : H1 k < 4 ∧ F1 k < 34 ∧ S1 k < 34 := hb _ (vMove_mem hki (h1 ▸ List.mem_of_getElem? (pr1.ix (j := k) (by omega))))
  have same : ∀ j, j < k → F1 j = F j ∧ S1 j = S j := by
    intro j hj
    have e1 := pr1.ix (j := j) (by omega)
    have e2 := mv.ix (j := j) (by omega)
    rw [e1] at e2
    have e3 := Option.some.inj e2
    have e4 := congrArg (fun x => x.2.1) e3
    have e5 := congrArg (fun x => x.2.2) e3
    refine ⟨e4.trans ?_, e5.trans ?_⟩
    · show vBack F k (i - k) j = F j
      rw [vBack_at, if_pos hj]
    · show vBack S k (i - k) j = S j
      rw [vBack_at, if_pos hj]
  rw [bt_lor, bt_lor, bt_bit (by omega) (by omega), bt_bit (by omega) (by omega), hK t ht]
  have key : vKn l1 (k + 1) t = true ↔ vKn l k t = true ∨ t = F1 k ∨ t = S1 k := by
    rw [vKn_iff pr1 (by omega), vKn_iff pr (by omega)]
    constructor
    · rintro (q | ⟨j, hj, q⟩)
      · exact Or.inl (Or.inl q)
      · by_cases e : j = k
        · subst e
          rcases q with q | q
          · exact Or.inr (Or.inl q.symm)
          · exact Or.inr (Or.inr q.symm)
        · obtain ⟨e1, e2⟩ := same j (by omega)
          rw [e1, e2] at q
          exact Or.inl (Or.inr ⟨j, by omega, q⟩)
    · rintro ((q | ⟨j, hj, q⟩) | q | q)
      · exact Or.inl q
      · obtain ⟨e1, e2⟩ := same j hj
        exact Or.inr ⟨j, by omega, by rw [e1, e2]; exact q⟩
      · exact Or.inr ⟨k, by omega, Or.inl q.symm⟩
      · exact Or.inr ⟨k, by omega, Or.inr q.symm⟩
  rw [Bool.eq_iff_iff, key]
  simp
theorem t_Disjunct_putInOrder {ra rb : Nat} {ρ : Nat → vRel} (p : isDl h r l pt dr 0) (pR : isRs h ra rb ρ) (hra : ra < r ∨ r + 6 ≤ ra) (hrb : rb + 12 ≤ r ∨ r + 6 ≤ rb) (hal : ∀ i, i < 4 → (ρ i).2.2.2.1 < 16) (hl : l.length ≤ 6) (hb : vBdL l) (hd : 4 ≤ d) : XM d 0 0 k_Disjunct_putInOrder L xs [.ref r, .ref ra] n h (qV n (fun h' => xfr r (r + 6) h h' ∧ isDl h' r (vOrd (fun i => (ρ i).2.2.2.1) l.length 0 l pt).1 (vOrd (fun i => (ρ i).2.2.2.1) l.length 0 l pt).2.1 dr (vOrd (fun i => (ρ i).2.2.2.1) l.length 0 l pt).2.2.toNat)) := by
  refine XM.of rfl (Nat.le_of_ble_eq_true rfl) ?_
  generalize hO : vOrd (fun i => (ρ i).2.2.2.1) l.length 0 l pt = O
  have loop : ∀ (f k : Nat) (l' : List vA) (pt' : Nat → Option Nat) (K : Int64) (h' : xH), k + f = l'.length → l'.length ≤ 6 → vBdL l' → vMsk K l' k → xfr r (r + 6) h h' → isDl h' r l' pt' dr 0 → vOrd (fun i => (ρ i).2.2.2.1) f k l' pt' = O → XW (x_rm d 0 0) k_Disjunct_putInOrder L xs (x_mq 0 0 (qV n (fun h' => xfr r (r + 6) h h' ∧ isDl h' r O.1 O.2.1 dr O.2.2.toNat))) 0 0 7 [(0, .ref r), (1, .ref ra), (2, .long K), (4, .int (nI k))] [] n h' := by
    intro f
    induction f with
    | zero =>
      intro k l' pt' K h' hk hl' hb' hK f1 q1 e
      have q1' := q1
      obtain ⟨H, F, S, ⟨p0, ⟨a0, a1, a2, a3⟩, p2⟩, pr⟩ := q1
      refine xr_iload a_Disjunct_putInOrder_7 rfl ?_
      refine xr_aload_n a_Disjunct_putInOrder_9 rfl ?_
      apply xr_getf a_Disjunct_putInOrder_10
      · (repeat' (first | assumption | exact va_up_self _ _ _ | refine x_lk (by omega) ?_))
      · rfl
      apply xr_getf a_Disjunct_putInOrder_13
      · (repeat' (first | assumption | exact va_up_self _ _ _ | refine x_lk (by omega) ?_))
      · rfl
      refine xn_icmp_ge a_Disjunct_putInOrder_16 (by omega) (by omega) (fun b16 => ?_) (fun b16 => ?_)
      · refine xr_return a_Disjunct_putInOrder_70 rfl (by omega) (by omega) ?_
        refine ⟨rfl, rfl, f1, ?_⟩
        rw [← e]
        exact q1'
      · omega
    | succ f ih =>
      intro k l' pt' K h' hk hl' hb' hK f1 q1 e
      have q1' := q1
      obtain ⟨H, F, S, ⟨p0, ⟨a0, a1, a2, a3⟩, p2⟩, pr⟩ := q1
      have c := t_Disjunct_putNext (d := 3) (L := L) (xs := xs) (n := n) q1' (pR.sm (f1 _ hra) (f1.sm hrb)) hra hrb hal hK (by omega) hl' hb' (by omega)
      refine xr_iload a_Disjunct_putInOrder_7 rfl ?_
      refine xr_aload_n a_Disjunct_putInOrder_9 rfl ?_
      apply xr_getf a_Disjunct_putInOrder_10
      · (repeat' (first | assumption | exact va_up_self _ _ _ | refine x_lk (by omega) ?_))
      · rfl
      apply xr_getf a_Disjunct_putInOrder_13
      · (repeat' (first | assumption | exact va_up_self _ _ _ | refine x_lk (by omega) ?_))
      · rfl
      refine xn_icmp_ge a_Disjunct_putInOrder_16 (by omega) (by omega) (fun b16 => ?_) (fun b16 => ?_)
      · omega
      · refine xr_aload_n a_Disjunct_putInOrder_19 rfl ?_
        refine xr_iload a_Disjunct_putInOrder_20 rfl ?_
        refine xr_lload_n a_Disjunct_putInOrder_22 rfl ?_
        refine xr_aload_n a_Disjunct_putInOrder_23 rfl ?_
        refine xr_invV a_Disjunct_putInOrder_24 (by exact p0) (c) rfl rfl (by omega) (by omega) (by omega) (Nat.le_of_ble_eq_true rfl) ?_
        rintro _ _ h1 ⟨rfl, rfl, f2, q2, q3⟩
        refine xn_if_ne a_Disjunct_putInOrder_27 (vB_lt31 _) (fun b27 => ?_) (fun b27 => ?_)
        · obtain ⟨i, hi⟩ := Option.ne_none_iff_exists'.mp (vB_1 b27)
          obtain ⟨i1, i2, -, -⟩ := rF_some hi
          have q4 := q3 i hi
          have q4' := q4
          have mv := pr.move (i := i) (p := k) (by omega) i1
          have hlen : (vMove l' i k).length = l'.length := mv.1.symm
          obtain ⟨H1, F1, S1, ⟨p0', ⟨a0', a1', a2', a3'⟩, p2'⟩, pr'⟩ := q4
          have ee : vOrd (fun i => (ρ i).2.2.2.1) (f + 1) k l' pt' = vOrd (fun i => (ρ i).2.2.2.1) f (k + 1) (vMove l' i k) (va_up pt' k (vBst (fun i => (ρ i).2.2.2.1) l' k (vAt l' i))) := by
            show (match vNext (fun i => (ρ i).2.2.2.1) l' k with | none => _ | some i => _) = _
            rw [hi]
          refine xr_lload_n a_Disjunct_putInOrder_36 rfl ?_
          refine xr_lconst a_Disjunct_putInOrder_37 (v := 1) (by decide +kernel) ?_
          refine xr_aload_n a_Disjunct_putInOrder_38 rfl ?_
          apply xr_getf a_Disjunct_putInOrder_39
          · (repeat' (first | assumption | exact va_up_self _ _ _ | refine x_lk (by omega) ?_))
          · rfl
          apply xr_getf a_Disjunct_putInOrder_42
          · (repeat' (first | assumption | exact va_up_self _ _ _ | refine x_lk (by omega) ?_))
          · rfl
          refine xr_iload a_Disjunct_putInOrder_45 rfl ?_
          apply xn_iaload a_Disjunct_putInOrder_47
          · (repeat' (first | assumption | exact va_up_self _ _ _ | refine x_lk (by omega) ?_))
          · omega
          · omega
          refine xr_lshl a_Disjunct_putInOrder_48 ?_
          refine xr_lconst a_Disjunct_putInOrder_49 (v := 1) (by decide +kernel) ?_
          refine xr_aload_n a_Disjunct_putInOrder_50 rfl ?_
          apply xr_getf a_Disjunct_putInOrder_51
          · (repeat' (first | assumption | exact va_up_self _ _ _ | refine x_lk (by omega) ?_))
          · rfl
          apply xr_getf a_Disjunct_putInOrder_54
          · (repeat' (first | assumption | exact va_up_self _ _ _ | refine x_lk (by omega) ?_))
          · rfl
          refine xr_iload a_Disjunct_putInOrder_57 rfl ?_
          apply xn_iaload a_Disjunct_putInOrder_59
          · (repeat' (first | assumption | exact va_up_self _ _ _ | refine x_lk (by omega) ?_))
          · omega
          · omega
          refine xr_lshl a_Disjunct_putInOrder_60 ?_
          refine xr_lor a_Disjunct_putInOrder_61 ?_
          refine xr_lor a_Disjunct_putInOrder_62 ?_
          refine xr_lstore_n a_Disjunct_putInOrder_63 (by decide) rfl ?_
          first | refine xn_iinc a_Disjunct_putInOrder_64 rfl (by decide) rfl ?_ | refine xr_iinc a_Disjunct_putInOrder_64 rfl rfl (by decide) rfl ?_
          refine xr_goto a_Disjunct_putInOrder_67 ?_
          refine xr_ls [(0, .ref r), (1, .ref ra), (2, .long (K ||| ((1 <<< ((nI (F1 k)).toInt64 &&& 63)) ||| (1 <<< ((nI (S1 k)).toInt64 &&& 63))))), (4, .int (nI (k + 1)))] ⟨rfl, rfl, rfl, rfl, trivial⟩ ?_
          exact ih (k + 1) (vMove l' i k) _ _ h1 (by omega) (by omega) (fun a ha => hb' a (vMove_mem i1 ha)) (vMsk_next hK pr (by omega) i1 hb' rfl pr') (f1.tr f2) q4' (ee.symm.trans e)
        · have hN : vNext (fun i => (ρ i).2.2.2.1) l' k = none := Classical.byContradiction fun z => vB_0 b27 z
          have e1 := q2 hN
          subst e1
          refine xr_aload_n a_Disjunct_putInOrder_30 rfl ?_
          refine xr_iconst a_Disjunct_putInOrder_31 (v := nI 1) (by decide +kernel) ?_
          apply xr_putf a_Disjunct_putInOrder_32
          · (repeat' (first | assumption | exact va_up_self _ _ _ | refine x_lk (by omega) ?_))
          · exact Nat.le_of_ble_eq_true rfl
          · rfl
          · rfl
          refine xr_return a_Disjunct_putInOrder_35 rfl (by omega) (by omega) ?_
          refine ⟨rfl, rfl, f1.up (by omega) (by omega), ?_⟩
          have ee : vOrd (fun i => (ρ i).2.2.2.1) (f + 1) k l' pt' = (l', pt', true) := by
            show (match vNext (fun i => (ρ i).2.2.2.1) l' k with | none => _ | some i => _) = _
            rw [hN]
          rw [← e, ee]
          exact ⟨H, F, S, ⟨up_self _ _ _, isAL.sm (h := h1) (r := r + 1) (cap := 6) (n := l'.length) ⟨a0, a1, a2, a3⟩ (xsm_up (by omega)), x_lk (by omega) p2⟩, pr⟩
  refine xr_ldc2 a_Disjunct_putInOrder_0 aw_Disjunct_putInOrder_0 ?_
  refine xr_lstore_n a_Disjunct_putInOrder_3 (by decide) rfl ?_
  refine xr_iconst a_Disjunct_putInOrder_4 (v := nI 0) (by decide +kernel) ?_
  refine xr_istore a_Disjunct_putInOrder_5 (by decide) rfl ?_
  refine xr_ls [(0, .ref r), (1, .ref ra), (2, .long 65535), (4, .int (nI 0))] ⟨rfl, rfl, rfl, rfl, trivial⟩ ?_
  exact loop l.length 0 l pt 65535 h (by omega) hl hb vMsk_0 xfr.rf p hO
end T27

