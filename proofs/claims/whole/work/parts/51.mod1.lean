/-! the reference: its cells; the calls on relations -/
def moR (h : xH) (m : Nat) (ρ : Nat → vRel) : Prop := ∃ rw rX rY pa fa : Nat → Nat, h (m + 1) = cI 4 rw ∧ h (m + 2) = cI 32 rX ∧ h (m + 3) = cI 32 rY ∧ h (m + 4) = cI 4 pa ∧ h (m + 5) = cI 4 fa ∧ ∀ r, r < 4 → rw r = (ρ r).1 ∧ pa r = (ρ r).2.2.2.1 ∧ fa r = (ρ r).2.2.2.2 ∧ ∀ k, k < 8 → rX (8 * r + k) = (ρ r).2.1 k ∧ rY (8 * r + k) = (ρ r).2.2.1 k
def moV (h : xH) (m : Nat) (ν : Nat → vVw) : Prop := ∃ ru na aR aA aB : Nat → Nat, h (m + 6) = cI 3 ru ∧ h (m + 7) = cI 6 na ∧ h (m + 8) = cI 12 aR ∧ h (m + 9) = cI 12 aA ∧ h (m + 10) = cI 12 aB ∧ ∀ v, v < 3 → ru v = (ν v).1 ∧ ∀ i, i < 2 → na (2 * v + i) = ((ν v).2 i).1 ∧ ∀ k, k < 2 → aR (2 * (2 * v + i) + k) = ((ν v).2 i).2.1 k ∧ aA (2 * (2 * v + i) + k) = ((ν v).2 i).2.2.1 k ∧ aB (2 * (2 * v + i) + k) = ((ν v).2 i).2.2.2 k
def moQ (h : xH) (m : Nat) (κ : vAL) : Prop := ∃ qV qA qB : Nat → Nat, h (m + 11) = cI 3 qV ∧ h (m + 12) = cI 3 qA ∧ h (m + 13) = cI 3 qB ∧ ∀ i, i < 3 → qV i = κ.2.1 i ∧ qA i = κ.2.2.1 i ∧ qB i = κ.2.2.2 i
def moP (h : xH) (m cnt : Nat) (D : Nat → vPd) : Prop := ∃ (sz lR lA lB : Nat → Nat) (md : Nat → Option Nat), h (m + 14) = cI 8 sz ∧ h (m + 15) = cI 48 lR ∧ h (m + 16) = cI 48 lA ∧ h (m + 17) = cI 48 lB ∧ h (m + 18) = cO 48 md ∧ ∀ d, d < cnt → sz d = (D d).1.length ∧ ∀ k, k < (D d).1.length → lR (6 * d + k) = (vAt (D d).1 k).1 ∧ lA (6 * d + k) = (vAt (D d).1 k).2.1 ∧ lB (6 * d + k) = (vAt (D d).1 k).2.2 ∧ md (6 * d + k) = (D d).2 k
def moF (h : xH) (m : Nat) (fo : Nat → Bool) : Prop := ∃ f : Nat → Nat, h (m + 24) = cB 256 f ∧ ∀ k, k < 256 → f k = (fo k).toNat
def moS (h : xH) (m : Nat) : Prop := (∃ f, h (m + 19) = cB 8 f) ∧ (∃ f, h (m + 20) = cO 6 f) ∧ (∃ f, h (m + 21) = cB 4624 f) ∧ (∃ f, h (m + 22) = cB 4624 f) ∧ ∃ f, h (m + 23) = cB 768 f
def isMo (h : xH) (m : Nat) (ρ : Nat → vRel) (ν : Nat → vVw) (κ : vAL) (cnt : Nat) (D : Nat → vPd) (fo : Nat → Bool) (rq tr : Nat) : Prop := (∃ st ne, h m = cM m κ.1 cnt st ne rq tr) ∧ moR h m ρ ∧ moV h m ν ∧ moQ h m κ ∧ moP h m cnt D ∧ moF h m fo ∧ moS h m
theorem moR.sm {h h' : xH} {m : Nat} {ρ : Nat → vRel} (p : moR h m ρ) (q : xsm (m + 1) (m + 6) h h') : moR h' m ρ := by
  obtain ⟨a, b, c, d, e, h1, h2, h3, h4, h5, h6⟩ := p
  exact ⟨a, b, c, d, e, (q _ (by omega) (by omega)).trans h1, (q _ (by omega) (by omega)).trans h2, (q _ (by omega) (by omega)).trans h3, (q _ (by omega) (by omega)).trans h4, (q _ (by omega) (by omega)).trans h5, h6⟩
theorem moV.sm {h h' : xH} {m : Nat} {ν : Nat → vVw} (p : moV h m ν) (q : xsm (m + 6) (m + 11) h h') : moV h' m ν := by
  obtain ⟨a, b, c, d, e, h1, h2, h3, h4, h5, h6⟩ := p
  exact ⟨a, b, c, d, e, (q _ (by omega) (by omega)).trans h1, (q _ (by omega) (by omega)).trans h2, (q _ (by omega) (by omega)).trans h3, (q _ (by omega) (by omega)).trans h4, (q _ (by omega) (by omega)).trans h5, h6⟩
theorem moQ.sm {h h' : xH} {m : Nat} {κ : vAL} (p : moQ h m κ) (q : xsm (m + 11) (m + 14) h h') : moQ h' m κ := by
  obtain ⟨a, b, c, h1, h2, h3, h6⟩ := p
  exact ⟨a, b, c, (q _ (by omega) (by omega)).trans h1, (q _ (by omega) (by omega)).trans h2, (q _ (by omega) (by omega)).trans h3, h6⟩
theorem moP.sm {h h' : xH} {m cnt : Nat} {D : Nat → vPd} (p : moP h m cnt D) (q : xsm (m + 14) (m + 19) h h') : moP h' m cnt D := by
  obtain ⟨a, b, c, d, e, h1, h2, h3, h4, h5, h6⟩ := p
  exact ⟨a, b, c, d, e, (q _ (by omega) (by omega)).trans h1, (q _ (by omega) (by omega)).trans h2, (q _ (by omega) (by omega)).trans h3, (q _ (by omega) (by omega)).trans h4, (q _ (by omega) (by omega)).trans h5, h6⟩
theorem moF.sm {h h' : xH} {m : Nat} {fo : Nat → Bool} (p : moF h m fo) (q : xsm (m + 24) (m + 25) h h') : moF h' m fo := by
  obtain ⟨f, h1, h2⟩ := p
  exact ⟨f, (q _ (by omega) (by omega)).trans h1, h2⟩
theorem moS.sm {h h' : xH} {m : Nat} (p : moS h m) (q : xsm (m + 19) (m + 24) h h') : moS h' m := by
  obtain ⟨⟨a, h1⟩, ⟨b, h2⟩, ⟨c, h3⟩, ⟨d, h4⟩, e, h5⟩ := p
  exact ⟨⟨a, (q _ (by omega) (by omega)).trans h1⟩, ⟨b, (q _ (by omega) (by omega)).trans h2⟩, ⟨c, (q _ (by omega) (by omega)).trans h3⟩, ⟨d, (q _ (by omega) (by omega)).trans h4⟩, e, (q _ (by omega) (by omega)).trans h5⟩
theorem isMo.sm {h h' : xH} {m : Nat} {ρ : Nat → vRel} {ν : Nat → vVw} {κ : vAL} {cnt : Nat} {D : Nat → vPd} {fo : Nat → Bool} {rq tr : Nat} (p : isMo h m ρ ν κ cnt D fo rq tr) (q : xsm m (m + 25) h h') : isMo h' m ρ ν κ cnt D fo rq tr := by
  obtain ⟨⟨st, ne, p0⟩, p1, p2, p3, p4, p5, p6⟩ := p
  exact ⟨⟨st, ne, (q _ (by omega) (by omega)).trans p0⟩, p1.sm (q.mo (by omega) (by omega)), p2.sm (q.mo (by omega) (by omega)), p3.sm (q.mo (by omega) (by omega)), p4.sm (q.mo (by omega) (by omega)), p5.sm (q.mo (by omega) (by omega)), p6.sm (q.mo (by omega) (by omega))⟩
theorem isMo.rel {h h' : xH} {m : Nat} {ρ ρ' : Nat → vRel} {ν : Nat → vVw} {κ : vAL} {cnt : Nat} {D : Nat → vPd} {fo : Nat → Bool} {rq tr : Nat} (p : isMo h m ρ ν κ cnt D fo rq tr) (q : xfr (m + 1) (m + 6) h h') (z : moR h' m ρ') : isMo h' m ρ' ν κ cnt D fo rq tr := by
  obtain ⟨⟨st, ne, p0⟩, p1, p2, p3, p4, p5, p6⟩ := p
  exact ⟨⟨st, ne, q.get (by omega) p0⟩, z, p2.sm (q.sm (by omega)), p3.sm (q.sm (by omega)), p4.sm (q.sm (by omega)), p5.sm (q.sm (by omega)), p6.sm (q.sm (by omega))⟩
theorem oI_neg {o : Option Nat} (h : ∀ k, o = some k → k < 2 ^ 31) : oI o < 0 ↔ o = none := by
  cases o with
  | none => exact ⟨fun _ => rfl, fun _ => by decide⟩
  | some k => exact ⟨fun q => absurd q (nI_pos (h k rfl)), fun q => by cases q⟩
section T51
variable {d L : Nat} {xs : Nat → Int32} {n : Nat} {h : xH} {m : Nat} {ρ : Nat → vRel} {ν : Nat → vVw} {κ : vAL} {cnt : Nat} {D : Nat → vPd} {fo : Nat → Bool} {rq tr : Nat}
theorem t_Mod_relationOk {x : Int32} : XM d 0 0 k_Mod_relationOk L xs [.int x] n h (qR n h (nI (vB (inB x 4)))) := by
  refine XM.of rfl (Nat.le_of_ble_eq_true rfl) ?_
  refine xr_iload_n a_Mod_relationOk_0 rfl ?_
  refine xr_if_lt a_Mod_relationOk_1 (fun b1 => ?_) (fun b1 => ?_)
  · refine xr_iconst a_Mod_relationOk_13 (v := nI 0) (by decide +kernel) ?_
    refine xr_ireturn a_Mod_relationOk_14 rfl rfl (by omega) (by omega) ?_
    refine ⟨?_, rfl, rfl⟩
    rw [vB_f (fun z => by have := z.1; rw [Int32.le_iff_toInt_le] at this; rw [Int32.lt_iff_toInt_lt] at b1; omega)]
  · refine xr_iload_n a_Mod_relationOk_4 rfl ?_
    refine xr_iconst a_Mod_relationOk_5 (v := nI 4) (by decide +kernel) ?_
    refine xr_icmp_ge a_Mod_relationOk_6 (fun b6 => ?_) (fun b6 => ?_)
    · refine xr_iconst a_Mod_relationOk_13 (v := nI 0) (by decide +kernel) ?_
      refine xr_ireturn a_Mod_relationOk_14 rfl rfl (by omega) (by omega) ?_
      refine ⟨?_, rfl, rfl⟩
      rw [vB_f (fun z => by have := z.2; rw [Int32.lt_iff_toInt_lt] at this; rw [Int32.le_iff_toInt_le] at b6; omega)]
    · refine xr_iconst a_Mod_relationOk_9 (v := nI 1) (by decide +kernel) ?_
      refine xr_goto a_Mod_relationOk_10 ?_
      refine xr_ireturn a_Mod_relationOk_14 rfl rfl (by omega) (by omega) ?_
      refine ⟨?_, rfl, rfl⟩
      rw [vB_t (show inB x 4 from ⟨by rw [Int32.le_iff_toInt_le]; rw [Int32.lt_iff_toInt_lt] at b1; omega, by rw [Int32.lt_iff_toInt_lt]; rw [Int32.le_iff_toInt_le] at b6; omega⟩)]
theorem t_Mod_viewOk {x : Int32} : XM d 0 0 k_Mod_viewOk L xs [.int x] n h (qR n h (nI (vB (inB x 3)))) := by
  refine XM.of rfl (Nat.le_of_ble_eq_true rfl) ?_
  refine xr_iload_n a_Mod_viewOk_0 rfl ?_
  refine xr_if_lt a_Mod_viewOk_1 (fun b1 => ?_) (fun b1 => ?_)
  · refine xr_iconst a_Mod_viewOk_13 (v := nI 0) (by decide +kernel) ?_
    refine xr_ireturn a_Mod_viewOk_14 rfl rfl (by omega) (by omega) ?_
    refine ⟨?_, rfl, rfl⟩
    rw [vB_f (fun z => by have := z.1; rw [Int32.le_iff_toInt_le] at this; rw [Int32.lt_iff_toInt_lt] at b1; omega)]
  · refine xr_iload_n a_Mod_viewOk_4 rfl ?_
    refine xr_iconst a_Mod_viewOk_5 (v := nI 3) (by decide +kernel) ?_
    refine xr_icmp_ge a_Mod_viewOk_6 (fun b6 => ?_) (fun b6 => ?_)
    · refine xr_iconst a_Mod_viewOk_13 (v := nI 0) (by decide +kernel) ?_
      refine xr_ireturn a_Mod_viewOk_14 rfl rfl (by omega) (by omega) ?_
      refine ⟨?_, rfl, rfl⟩
      rw [vB_f (fun z => by have := z.2; rw [Int32.lt_iff_toInt_lt] at this; rw [Int32.le_iff_toInt_le] at b6; omega)]
    · refine xr_iconst a_Mod_viewOk_9 (v := nI 1) (by decide +kernel) ?_
      refine xr_goto a_Mod_viewOk_10 ?_
      refine xr_ireturn a_Mod_viewOk_14 rfl rfl (by omega) (by omega) ?_
      refine ⟨?_, rfl, rfl⟩
      rw [vB_t (show inB x 3 from ⟨by rw [Int32.le_iff_toInt_le]; rw [Int32.lt_iff_toInt_lt] at b1; omega, by rw [Int32.lt_iff_toInt_lt]; rw [Int32.le_iff_toInt_le] at b6; omega⟩)]
theorem t_Mod_value {x : Int32} : XM d 0 0 k_Mod_value L xs [.int x] n h (qR n h (nI (vB (inB x 16)))) := by
  refine XM.of rfl (Nat.le_of_ble_eq_true rfl) ?_
  refine xr_iload_n a_Mod_value_0 rfl ?_
  refine xr_if_lt a_Mod_value_1 (fun b1 => ?_) (fun b1 => ?_)
  · refine xr_iconst a_Mod_value_14 (v := nI 0) (by decide +kernel) ?_
    refine xr_ireturn a_Mod_value_15 rfl rfl (by omega) (by omega) ?_
    refine ⟨?_, rfl, rfl⟩
    rw [vB_f (fun z => by have := z.1; rw [Int32.le_iff_toInt_le] at this; rw [Int32.lt_iff_toInt_lt] at b1; omega)]
  · refine xr_iload_n a_Mod_value_4 rfl ?_
    refine xr_bipush a_Mod_value_5 (v := nI 16) (by decide +kernel) ?_
    refine xr_icmp_ge a_Mod_value_7 (fun b7 => ?_) (fun b7 => ?_)
    · refine xr_iconst a_Mod_value_14 (v := nI 0) (by decide +kernel) ?_
      refine xr_ireturn a_Mod_value_15 rfl rfl (by omega) (by omega) ?_
      refine ⟨?_, rfl, rfl⟩
      rw [vB_f (fun z => by have := z.2; rw [Int32.lt_iff_toInt_lt] at this; rw [Int32.le_iff_toInt_le] at b7; omega)]
    · refine xr_iconst a_Mod_value_10 (v := nI 1) (by decide +kernel) ?_
      refine xr_goto a_Mod_value_11 ?_
      refine xr_ireturn a_Mod_value_15 rfl rfl (by omega) (by omega) ?_
      refine ⟨?_, rfl, rfl⟩
      rw [vB_t (show inB x 16 from ⟨by rw [Int32.le_iff_toInt_le]; rw [Int32.lt_iff_toInt_lt] at b1; omega, by rw [Int32.lt_iff_toInt_lt]; rw [Int32.le_iff_toInt_le] at b7; omega⟩)]
theorem t_Mod_term {x : Int32} : XM d 0 0 k_Mod_term L xs [.int x] n h (qR n h (nI (vB (inB x 22)))) := by
  refine XM.of rfl (Nat.le_of_ble_eq_true rfl) ?_
  refine xr_iload_n a_Mod_term_0 rfl ?_
  refine xr_if_lt a_Mod_term_1 (fun b1 => ?_) (fun b1 => ?_)
  · refine xr_iconst a_Mod_term_14 (v := nI 0) (by decide +kernel) ?_
    refine xr_ireturn a_Mod_term_15 rfl rfl (by omega) (by omega) ?_
    refine ⟨?_, rfl, rfl⟩
    rw [vB_f (fun z => by have := z.1; rw [Int32.le_iff_toInt_le] at this; rw [Int32.lt_iff_toInt_lt] at b1; omega)]
  · refine xr_iload_n a_Mod_term_4 rfl ?_
    refine xr_bipush a_Mod_term_5 (v := nI 22) (by decide +kernel) ?_
    refine xr_icmp_ge a_Mod_term_7 (fun b7 => ?_) (fun b7 => ?_)
    · refine xr_iconst a_Mod_term_14 (v := nI 0) (by decide +kernel) ?_
      refine xr_ireturn a_Mod_term_15 rfl rfl (by omega) (by omega) ?_
      refine ⟨?_, rfl, rfl⟩
      rw [vB_f (fun z => by have := z.2; rw [Int32.lt_iff_toInt_lt] at this; rw [Int32.le_iff_toInt_le] at b7; omega)]
    · refine xr_iconst a_Mod_term_10 (v := nI 1) (by decide +kernel) ?_
      refine xr_goto a_Mod_term_11 ?_
      refine xr_ireturn a_Mod_term_15 rfl rfl (by omega) (by omega) ?_
      refine ⟨?_, rfl, rfl⟩
      rw [vB_t (show inB x 22 from ⟨by rw [Int32.le_iff_toInt_le]; rw [Int32.lt_iff_toInt_lt] at b1; omega, by rw [Int32.lt_iff_toInt_lt]; rw [Int32.le_iff_toInt_le] at b7; omega⟩)]
theorem t_Mod_rowOf {r : Nat} {x y : Int32} (p : isMo h m ρ ν κ cnt D fo rq tr) (hr : r < 4) (h8 : (ρ r).1 ≤ 8) : XM d 0 0 k_Mod_rowOf L xs [.ref m, .int (nI r), .int x, .int y] n h (qR n h (oI ((vFd (ρ r).1 (ρ r).2.1 (ρ r).2.2.1 x y).map (8 * r + ·)))) := by
  obtain ⟨⟨st, ne, p0⟩, ⟨rw, rX, rY, pa, fa, c1, c2, c3, c4, c5, c6⟩, -, -, -, -, -⟩ := p
  obtain ⟨e1, -, -, e4⟩ := c6 r hr
  refine XM.of rfl (Nat.le_of_ble_eq_true rfl) ?_
  have loop : ∀ k i, i + k = (ρ r).1 → rF (fun i => decide (nI ((ρ r).2.1 i) = x ∧ nI ((ρ r).2.2.1 i) = y)) i k = vFd (ρ r).1 (ρ r).2.1 (ρ r).2.2.1 x y → XW (x_rm d 0 0) k_Mod_rowOf L xs (x_mq 0 0 (qR n h (oI ((vFd (ρ r).1 (ρ r).2.1 (ρ r).2.2.1 x y).map (8 * r + ·))))) 0 0 6 [(0, .ref m), (1, .int (nI r)), (2, .int x), (3, .int y), (4, .int (nI (8 * r + i)))] [] n h := by
    intro k
    induction k with
    | zero =>
      intro i hi he
      refine xr_iload a_Mod_rowOf_6 rfl ?_
      refine xr_bipush a_Mod_rowOf_8 (v := nI 8) (by decide +kernel) ?_
      refine xr_iload_n a_Mod_rowOf_10 rfl ?_
      first | refine xn_imul a_Mod_rowOf_11 ?_ | refine xr_imul a_Mod_rowOf_11 ?_
      refine xr_aload_n a_Mod_rowOf_12 rfl ?_
      apply xr_getf a_Mod_rowOf_13
      · (repeat' (first | assumption | exact va_up_self _ _ _ | refine x_lk (by omega) ?_))
      · rfl
      refine xr_iload_n a_Mod_rowOf_16 rfl ?_
      apply xn_iaload a_Mod_rowOf_17
      · (repeat' (first | assumption | exact va_up_self _ _ _ | refine x_lk (by omega) ?_))
      · omega
      · omega
      rw [e1]
      first | refine xn_iadd a_Mod_rowOf_18 ?_ | refine xr_iadd a_Mod_rowOf_18 ?_
      refine xn_icmp_ge a_Mod_rowOf_19 (by omega) (by omega) (fun b19 => ?_) (fun b19 => ?_)
      · refine xr_iconst a_Mod_rowOf_53 (v := -1) (by decide +kernel) ?_
        refine xr_ireturn a_Mod_rowOf_54 rfl rfl (by omega) (by omega) ?_
        exact ⟨by rw [← he]; rfl, rfl, rfl⟩
      · omega
    | succ k ih =>
      intro i hi he
      obtain ⟨z1, z2⟩ := e4 i (by omega)
      refine xr_iload a_Mod_rowOf_6 rfl ?_
      refine xr_bipush a_Mod_rowOf_8 (v := nI 8) (by decide +kernel) ?_
      refine xr_iload_n a_Mod_rowOf_10 rfl ?_
      first | refine xn_imul a_Mod_rowOf_11 ?_ | refine xr_imul a_Mod_rowOf_11 ?_
      refine xr_aload_n a_Mod_rowOf_12 rfl ?_
      apply xr_getf a_Mod_rowOf_13
      · (repeat' (first | assumption | exact va_up_self _ _ _ | refine x_lk (by omega) ?_))
      · rfl
      refine xr_iload_n a_Mod_rowOf_16 rfl ?_
      apply xn_iaload a_Mod_rowOf_17
      · (repeat' (first | assumption | exact va_up_self _ _ _ | refine x_lk (by omega) ?_))
      · omega
      · omega
      rw [e1]
      first | refine xn_iadd a_Mod_rowOf_18 ?_ | refine xr_iadd a_Mod_rowOf_18 ?_
      refine xn_icmp_ge a_Mod_rowOf_19 (by omega) (by omega) (fun b19 => ?_) (fun b19 => ?_)
      · omega
      · refine xr_aload_n a_Mod_rowOf_22 rfl ?_
        apply xr_getf a_Mod_rowOf_23
        · (repeat' (first | assumption | exact va_up_self _ _ _ | refine x_lk (by omega) ?_))
        · rfl
        refine xr_iload a_Mod_rowOf_26 rfl ?_
        apply xn_iaload a_Mod_rowOf_28
        · (repeat' (first | assumption | exact va_up_self _ _ _ | refine x_lk (by omega) ?_))
        · omega
        · omega
        rw [z1]
        refine xr_iload_n a_Mod_rowOf_29 rfl ?_
        refine xr_icmp_ne a_Mod_rowOf_30 (fun b30 => ?_) (fun b30 => ?_)
        · first | refine xn_iinc a_Mod_rowOf_47 rfl (by decide) rfl ?_ | refine xr_iinc a_Mod_rowOf_47 rfl rfl (by decide) rfl ?_
          refine xr_goto a_Mod_rowOf_50 ?_
          refine xr_ls [(0, .ref m), (1, .int (nI r)), (2, .int x), (3, .int y), (4, .int (nI (8 * r + (i + 1))))] ⟨rfl, rfl, rfl, rfl, rfl, trivial⟩ ?_
          refine ih (i + 1) (by omega) ?_
          rw [← he]
          exact (rF_no (decide_eq_false fun z => b30 z.1)).symm
        · refine xr_aload_n a_Mod_rowOf_33 rfl ?_
          apply xr_getf a_Mod_rowOf_34
          · (repeat' (first | assumption | exact va_up_self _ _ _ | refine x_lk (by omega) ?_))
          · rfl
          refine xr_iload a_Mod_rowOf_37 rfl ?_
          apply xn_iaload a_Mod_rowOf_39
          · (repeat' (first | assumption | exact va_up_self _ _ _ | refine x_lk (by omega) ?_))
          · omega
          · omega
          rw [z2]
          refine xr_iload_n a_Mod_rowOf_40 rfl ?_
          refine xr_icmp_ne a_Mod_rowOf_41 (fun b41 => ?_) (fun b41 => ?_)
          · first | refine xn_iinc a_Mod_rowOf_47 rfl (by decide) rfl ?_ | refine xr_iinc a_Mod_rowOf_47 rfl rfl (by decide) rfl ?_
            refine xr_goto a_Mod_rowOf_50 ?_
            refine xr_ls [(0, .ref m), (1, .int (nI r)), (2, .int x), (3, .int y), (4, .int (nI (8 * r + (i + 1))))] ⟨rfl, rfl, rfl, rfl, rfl, trivial⟩ ?_
            refine ih (i + 1) (by omega) ?_
            rw [← he]
            exact (rF_no (decide_eq_false fun z => b41 z.2)).symm
          · refine xr_iload a_Mod_rowOf_44 rfl ?_
            refine xr_ireturn a_Mod_rowOf_46 rfl rfl (by omega) (by omega) ?_
            refine ⟨?_, rfl, rfl⟩
            rw [← he, rF_yes (decide_eq_true ⟨b30, b41⟩)]
            rfl
  refine xr_bipush a_Mod_rowOf_0 (v := nI 8) (by decide +kernel) ?_
  refine xr_iload_n a_Mod_rowOf_2 rfl ?_
  first | refine xn_imul a_Mod_rowOf_3 ?_ | refine xr_imul a_Mod_rowOf_3 ?_
  refine xr_istore a_Mod_rowOf_4 (by decide) rfl ?_
  refine xr_ls [(0, .ref m), (1, .int (nI r)), (2, .int x), (3, .int y), (4, .int (nI (8 * r + 0)))] ⟨rfl, rfl, rfl, rfl, rfl, trivial⟩ ?_
  exact loop (ρ r).1 0 (by omega) rfl
end T51

