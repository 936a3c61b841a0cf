/-! Asker.walk: the step -/
section T35
variable {L : Nat} {xs : Nat → Int32} {n : Nat} {a rc rq tr : Nat} {R : Nat → Nat} {Mf Mm : Nat → Bool} {lu : Nat → Option Nat} {ra rb dj g fr m : Nat} {H F S : Nat → Nat} {pt : Nat → Option Nat} {dr bl : Nat} {ρ : Nat → vRel} {cd : (Nat → Nat) → Nat}
/-- the codes of the first i rows -/
def wPi (ρ : Nat → vRel) (H F S : Nat → Nat) (g : Nat) (cd : (Nat → Nat) → Nat) (w : Nat → Option Nat) (dp : Nat) (P : Nat → Prop) (i : Nat) : Nat → Prop := fun c => P c ∨ ∃ j, j < i ∧ vMay F S w dp ((ρ (H dp)).2.1 j, (ρ (H dp)).2.2.1 j) ∧ vOut (vRw ρ) H F S g cd (vGo F S w dp ((ρ (H dp)).2.1 j, (ρ (H dp)).2.2.1 j)) (dp + 1) c
theorem wPi_no {w : Nat → Option Nat} {dp i : Nat} {P : Nat → Prop} (h : ¬ vMay F S w dp ((ρ (H dp)).2.1 i, (ρ (H dp)).2.2.1 i)) (c : Nat) : wPi ρ H F S g cd w dp P i c ↔ wPi ρ H F S g cd w dp P (i + 1) c := by
  unfold wPi
  constructor
  · rintro (q | ⟨j, h1, h2, h3⟩)
    · exact Or.inl q
    · exact Or.inr ⟨j, by omega, h2, h3⟩
  · rintro (q | ⟨j, h1, h2, h3⟩)
    · exact Or.inl q
    · by_cases e : j = i
      · subst e; exact absurd h2 h
      · exact Or.inr ⟨j, by omega, h2, h3⟩
theorem wPi_yes {w : Nat → Option Nat} {dp i : Nat} {P : Nat → Prop} (h : vMay F S w dp ((ρ (H dp)).2.1 i, (ρ (H dp)).2.2.1 i)) (c : Nat) : (wPi ρ H F S g cd w dp P i c ∨ vOut (vRw ρ) H F S g cd (vGo F S w dp ((ρ (H dp)).2.1 i, (ρ (H dp)).2.2.1 i)) (dp + 1) c) ↔ wPi ρ H F S g cd w dp P (i + 1) c := by
  unfold wPi
  constructor
  · rintro ((q | ⟨j, h1, h2, h3⟩) | q)
    · exact Or.inl q
    · exact Or.inr ⟨j, by omega, h2, h3⟩
    · exact Or.inr ⟨i, by omega, h, q⟩
  · rintro (q | ⟨j, h1, h2, h3⟩)
    · exact Or.inl (Or.inl q)
    · by_cases e : j = i
      · subst e; exact Or.inr h3
      · exact Or.inl (Or.inr ⟨j, by omega, h2, h3⟩)
theorem wPi_end {w : Nat → Option Nat} {dp : Nat} {P : Nat → Prop} (hd : dp < g) (c : Nat) : wPi ρ H F S g cd w dp P (ρ (H dp)).1 c ↔ (P c ∨ vOut (vRw ρ) H F S g cd w dp c) := by
  unfold wPi
  rw [vOut_step hd]
  constructor
  · rintro (q | ⟨j, h1, h2, h3⟩)
    · exact Or.inl q
    · exact Or.inr ⟨_, vRw_mem.mpr ⟨j, h1, rfl⟩, h2, h3⟩
  · rintro (q | ⟨xy, h1, h2, h3⟩)
    · exact Or.inl q
    · obtain ⟨j, h4, rfl⟩ := vRw_mem.mp h1
      exact Or.inr ⟨j, h4, h2, h3⟩
def wSeen (ρ : Nat → vRel) (H F S : Nat → Nat) (lu w : Nat → Option Nat) (dp i : Nat) (sv : Int32) : Prop := ∀ v, v < 16 → (btI sv v = true ↔ ∃ j, j < i ∧ vMay F S w dp ((ρ (H dp)).2.1 j, (ρ (H dp)).2.2.1 j) ∧ vMark F S lu w dp ((ρ (H dp)).2.1 j, (ρ (H dp)).2.2.1 j) = v)
theorem wSeen_no {w : Nat → Option Nat} {dp i : Nat} {sv : Int32} (h : ¬ vMay F S w dp ((ρ (H dp)).2.1 i, (ρ (H dp)).2.2.1 i)) (hs : wSeen ρ H F S lu w dp i sv) : wSeen ρ H F S lu w dp (i + 1) sv := by
  intro v hv
  rw [hs v hv]
  constructor
  · rintro ⟨j, h1, h2⟩
    exact ⟨j, by omega, h2⟩
  · rintro ⟨j, h1, h2, h3⟩
    by_cases e : j = i
    · subst e; exact absurd h2 h
    · exact ⟨j, by omega, h2, h3⟩
theorem wSeen_yes {w : Nat → Option Nat} {dp i : Nat} {sv : Int32} (h : vMay F S w dp ((ρ (H dp)).2.1 i, (ρ (H dp)).2.2.1 i)) (hm : vMark F S lu w dp ((ρ (H dp)).2.1 i, (ρ (H dp)).2.2.1 i) < 16) (hs : wSeen ρ H F S lu w dp i sv) : wSeen ρ H F S lu w dp (i + 1) (sv ||| (nI 1 <<< (nI (vMark F S lu w dp ((ρ (H dp)).2.1 i, (ρ (H dp)).2.2.1 i)) &&& 31))) := by
  intro v hv
  rw [bi_or (by omega) (by omega)]
  by_cases e : v = vMark F S lu w dp ((ρ (H dp)).2.1 i, (ρ (H dp)).2.2.1 i)
  · rw [if_pos e]
    exact ⟨fun _ => ⟨i, by omega, h, e.symm⟩, fun _ => rfl⟩
  · rw [if_neg e, hs v hv]
    constructor
    · rintro ⟨j, h1, h2⟩
      exact ⟨j, by omega, h2⟩
    · rintro ⟨j, h1, h2, h3⟩
      by_cases e2 : j = i
      · subst e2; exact absurd h3.symm e
      · exact ⟨j, by omega, h2, h3⟩
theorem t_walk_step {h : xH} {P : Nat → Prop} {w : Nat → Option Nat} {dp d' : Nat} (K : wK ρ m g H F S pt cd lu fr) (pd : isDj h dj m H F S pt dr bl) (pR : isRs h ra rb ρ) (hdj : dj + 6 ≤ a ∨ a + 9 ≤ dj) (hra : ra < a ∨ a + 9 ≤ ra) (hrb : rb + 12 ≤ a ∨ a + 9 ≤ rb) (hdp : dp < g) (hw : wW F S w dp) (p : isAkP h a rc rq tr R Mf Mm lu ra dj g fr m P w)
    (IH : ∀ (h : xH) (P : Nat → Prop) (w : Nat → Option Nat), isDj h dj m H F S pt dr bl → isRs h ra rb ρ → wW F S w (dp + 1) → isAkP h a rc rq tr R Mf Mm lu ra dj g fr m P w → XM d' 0 0 k_Asker_walk L xs [.ref a, .int (nI (dp + 1))] n h (qV n (fun h' => xfr a (a + 9) h h' ∧ isAkP h' a rc rq tr R Mf Mm lu ra dj g fr m (fun c => P c ∨ vOut (vRw ρ) H F S g cd w (dp + 1) c) w))) :
    XM (d' + 1) 0 0 k_Asker_walk L xs [.ref a, .int (nI dp)] n h (qV n (fun h' => xfr a (a + 9) h h' ∧ isAkP h' a rc rq tr R Mf Mm lu ra dj g fr m (fun c => P c ∨ vOut (vRw ρ) H F S g cd w dp c) w)) := by
  obtain ⟨K1, K2, K3, K4, K5, K6, -, -, -, K10⟩ := K
  have B := K3 dp (by omega)
  have Br := K4 _ B.1
  have hw100 : ∀ t k, w t = some k → k < 100 := fun t k hk => by have := hw.2.1 t k hk; omega
  have loop : ∀ (k i : Nat) (sv : Int32) (h' : xH), i + k = (ρ (H dp)).1 → xfr a (a + 9) h h' → isAkP h' a rc rq tr R Mf Mm lu ra dj g fr m (wPi ρ H F S g cd w dp P i) w → wSeen ρ H F S lu w dp i sv → XW (x_rm (d' + 1) 0 0) k_Asker_walk L xs (x_mq 0 0 (qV n (fun h' => xfr a (a + 9) h h' ∧ isAkP h' a rc rq tr R Mf Mm lu ra dj g fr m (fun c => P c ∨ vOut (vRw ρ) H F S g cd w dp c) w))) 0 0 132 [(0, .ref a), (1, .int (nI dp)), (2, .int (nI (F dp))), (3, .int (nI (S dp))), (4, .int (oI (w (F dp)))), (5, .int (oI (w (S dp)))), (6, .int (nI (vMat lu w dp (F dp)).toNat)), (7, .int (nI (vMat lu w dp (S dp)).toNat)), (8, .ref (rb + 3 * H dp)), (9, .int sv), (10, .int (nI i))] [] n h' := by
    intro k
    induction k with
    | zero =>
      intro i sv h' hi f1 q1 hs
      obtain ⟨r0, r1, r2⟩ := (pR.2 _ B.1).sm (f1.sm (a' := rb + 3 * H dp) (b' := rb + 3 * H dp + 3) (by omega))
      refine xr_iload a_Asker_walk_132 rfl ?_
      refine xr_aload a_Asker_walk_134 rfl ?_
      apply xr_getf a_Asker_walk_136
      · (repeat' (first | assumption | exact va_up_self _ _ _ | refine x_lk (by omega) ?_))
      · rfl
      refine xn_icmp_ge a_Asker_walk_139 (by omega) (by omega) (fun b139 => ?_) (fun b139 => ?_)
      · refine xr_return a_Asker_walk_277 rfl (by omega) (by omega) ?_
        refine ⟨rfl, rfl, f1, q1.c (fun c => ?_)⟩
        rw [show i = (ρ (H dp)).1 by omega]
        exact wPi_end hdp c
      · omega
    | succ k ih =>
      intro i sv h' hi f1 q1 hs
      have bX := Br.2 i (by omega)
      obtain ⟨r0, r1, r2⟩ := (pR.2 _ B.1).sm (f1.sm (a' := rb + 3 * H dp) (b' := rb + 3 * H dp + 3) (by omega))
      have q1' := q1
      obtain ⟨k0, k1, k2, k3, ⟨k4, k5⟩, k6⟩ := q1'
      have hmk : vMark F S lu w dp ((ρ (H dp)).2.1 i, (ρ (H dp)).2.2.1 i) < 16 := by
        unfold vMark
        split
        · exact bX.1
        · split
          · exact bX.2
          · omega
      have back : ∀ (sv' : Int32) (h'' : xH) (w' : Nat → Option Nat), xfr a (a + 9) h h'' → isAkP h'' a rc rq tr R Mf Mm lu ra dj g fr m (wPi ρ H F S g cd w dp P (i + 1)) w' → (∀ t, t ≠ F dp → t ≠ S dp → w' t = w t) → wSeen ρ H F S lu w dp (i + 1) sv' → XW (x_rm (d' + 1) 0 0) k_Asker_walk L xs (x_mq 0 0 (qV n (fun h' => xfr a (a + 9) h h' ∧ isAkP h' a rc rq tr R Mf Mm lu ra dj g fr m (fun c => P c ∨ vOut (vRw ρ) H F S g cd w dp c) w))) 0 0 249 [(0, .ref a), (1, .int (nI dp)), (2, .int (nI (F dp))), (3, .int (nI (S dp))), (4, .int (oI (w (F dp)))), (5, .int (oI (w (S dp)))), (6, .int (nI (vMat lu w dp (F dp)).toNat)), (7, .int (nI (vMat lu w dp (S dp)).toNat)), (8, .ref (rb + 3 * H dp)), (9, .int sv'), (10, .int (nI i))] [] n h'' := by
        intro sv' h'' w' f2 q2 hw' hs'
        have q2' := q2
        obtain ⟨j0, j1, j2, j3, ⟨j4, j5⟩, j6⟩ := q2'
        refine xr_aload_n a_Asker_walk_249 rfl ?_
        apply xr_getf a_Asker_walk_250
        · (repeat' (first | assumption | exact va_up_self _ _ _ | refine x_lk (by omega) ?_))
        · rfl
        apply xr_getf a_Asker_walk_253
        · (repeat' (first | assumption | exact va_up_self _ _ _ | refine x_lk (by omega) ?_))
        · rfl
        refine xr_iload_n a_Asker_walk_256 rfl ?_
        refine xr_iload a_Asker_walk_257 rfl ?_
        apply xo_iastore (o := w (F dp)) a_Asker_walk_259
        · (repeat' (first | assumption | exact va_up_self _ _ _ | refine x_lk (by omega) ?_))
        · exact rfl
        · omega
        · omega
        refine xr_aload_n a_Asker_walk_260 rfl ?_
        apply xr_getf a_Asker_walk_261
        · (repeat' (first | assumption | exact va_up_self _ _ _ | refine x_lk (by omega) ?_))
        · rfl
        apply xr_getf a_Asker_walk_264
        · (repeat' (first | assumption | exact va_up_self _ _ _ | refine x_lk (by omega) ?_))
        · rfl
        refine xr_iload_n a_Asker_walk_267 rfl ?_
        refine xr_iload a_Asker_walk_268 rfl ?_
        apply xo_iastore (o := w (S dp)) a_Asker_walk_270
        · (repeat' (first | assumption | exact va_up_self _ _ _ | refine x_lk (by omega) ?_))
        · exact rfl
        · omega
        · omega
        first | refine xn_iinc a_Asker_walk_271 rfl (by decide) rfl ?_ | refine xr_iinc a_Asker_walk_271 rfl rfl (by decide) rfl ?_
        refine xr_goto a_Asker_walk_274 ?_
        refine xr_ls [(0, .ref a), (1, .int (nI dp)), (2, .int (nI (F dp))), (3, .int (nI (S dp))), (4, .int (oI (w (F dp)))), (5, .int (oI (w (S dp)))), (6, .int (nI (vMat lu w dp (F dp)).toNat)), (7, .int (nI (vMat lu w dp (S dp)).toNat)), (8, .ref (rb + 3 * H dp)), (9, .int sv'), (10, .int (nI (i + 1)))] ⟨rfl, rfl, rfl, rfl, rfl, rfl, rfl, rfl, rfl, rfl, rfl, trivial⟩ ?_
        rw [up_up, vBackTo hw']
        exact ih (i + 1) sv' _ (by omega) (f2.up (by omega) (by omega)) (isAk.im q2 w) hs'
      refine xr_iload a_Asker_walk_132 rfl ?_
      refine xr_aload a_Asker_walk_134 rfl ?_
      apply xr_getf a_Asker_walk_136
      · (repeat' (first | assumption | exact va_up_self _ _ _ | refine x_lk (by omega) ?_))
      · rfl
      refine xn_icmp_ge a_Asker_walk_139 (by omega) (by omega) (fun b139 => ?_) (fun b139 => ?_)
      · omega
      · refine xr_aload_n a_Asker_walk_142 rfl ?_
        apply xr_getf a_Asker_walk_143
        · (repeat' (first | assumption | exact va_up_self _ _ _ | refine x_lk (by omega) ?_))
        · rfl
        refine xr_iload_n a_Asker_walk_146 rfl ?_
        refine xr_aload a_Asker_walk_147 rfl ?_
        apply xr_getf a_Asker_walk_149
        · (repeat' (first | assumption | exact va_up_self _ _ _ | refine x_lk (by omega) ?_))
        · rfl
        refine xr_iload a_Asker_walk_152 rfl ?_
        apply xn_iaload a_Asker_walk_154
        · (repeat' (first | assumption | exact va_up_self _ _ _ | refine x_lk (by omega) ?_))
        · omega
        · omega
        refine xr_invV a_Asker_walk_155 (by (repeat' (first | assumption | exact va_up_self _ _ _ | refine x_lk (by omega) ?_))) (t_Images_letBecome (d := 0) (r := a + 6) (f := w) (t := F dp) (j := (ρ (H dp)).2.1 i) ⟨k4, k5⟩ B.2.1 (by omega) (fun q hq => hw100 _ q hq)) rfl rfl (by omega) (by omega) (by omega) (Nat.le_of_ble_eq_true rfl) ?_
        rintro _ _ h1 ⟨rfl, rfl, rfl⟩
        refine xn_if_eq a_Asker_walk_158 (vB_lt31 _) (fun b158 => ?_) (fun b158 => ?_)
        · have no : ¬ vMay F S w dp ((ρ (H dp)).2.1 i, (ρ (H dp)).2.2.1 i) := fun z => vB_0 b158 z.1
          refine xr_ls [(0, .ref a), (1, .int (nI dp)), (2, .int (nI (F dp))), (3, .int (nI (S dp))), (4, .int (oI (w (F dp)))), (5, .int (oI (w (S dp)))), (6, .int (nI (vMat lu w dp (F dp)).toNat)), (7, .int (nI (vMat lu w dp (S dp)).toNat)), (8, .ref (rb + 3 * H dp)), (9, .int sv), (10, .int (nI i))] ⟨rfl, rfl, rfl, rfl, rfl, rfl, rfl, rfl, rfl, rfl, rfl, trivial⟩ ?_
          exact back sv _ _ (f1.up (by omega) (by omega)) (isAkP.c (isAk.im q1 _) (wPi_no no)) (fun t h1 h2 => vLet_off h1) (wSeen_no no hs)
        · refine xr_aload_n a_Asker_walk_161 rfl ?_
          apply xr_getf a_Asker_walk_162
          · (repeat' (first | assumption | exact va_up_self _ _ _ | refine x_lk (by omega) ?_))
          · rfl
          refine xr_iload_n a_Asker_walk_165 rfl ?_
          refine xr_aload a_Asker_walk_166 rfl ?_
          apply xr_getf a_Asker_walk_168
          · (repeat' (first | assumption | exact va_up_self _ _ _ | refine x_lk (by omega) ?_))
          · rfl
          refine xr_iload a_Asker_walk_171 rfl ?_
          apply xn_iaload a_Asker_walk_173
          · (repeat' (first | assumption | exact va_up_self _ _ _ | refine x_lk (by omega) ?_))
          · omega
          · omega
          refine xr_invV a_Asker_walk_174 (by (repeat' (first | assumption | exact va_up_self _ _ _ | refine x_lk (by omega) ?_))) (t_Images_letBecome (d := 0) (r := a + 6) (f := vLet w (F dp) ((ρ (H dp)).2.1 i)) (t := S dp) (j := (ρ (H dp)).2.2.1 i) ⟨x_lk (by omega) k4, up_self _ _ _⟩ B.2.2 (by omega) (fun q hq => vLet_bd hw100 (by omega) _ q hq)) rfl rfl (by omega) (by omega) (by omega) (Nat.le_of_ble_eq_true rfl) ?_
          rintro _ _ h1 ⟨rfl, rfl, rfl⟩
          rw [up_up]
          refine xn_if_eq a_Asker_walk_177 (vB_lt31 _) (fun b177 => ?_) (fun b177 => ?_)
          · have no : ¬ vMay F S w dp ((ρ (H dp)).2.1 i, (ρ (H dp)).2.2.1 i) := fun z => vB_0 b177 z.2
            refine xr_ls [(0, .ref a), (1, .int (nI dp)), (2, .int (nI (F dp))), (3, .int (nI (S dp))), (4, .int (oI (w (F dp)))), (5, .int (oI (w (S dp)))), (6, .int (nI (vMat lu w dp (F dp)).toNat)), (7, .int (nI (vMat lu w dp (S dp)).toNat)), (8, .ref (rb + 3 * H dp)), (9, .int sv), (10, .int (nI i))] ⟨rfl, rfl, rfl, rfl, rfl, rfl, rfl, rfl, rfl, rfl, rfl, trivial⟩ ?_
            exact back sv _ _ (f1.up (by omega) (by omega)) (isAkP.c (isAk.im q1 _) (wPi_no no)) (fun t h1 h2 => by rw [vLet_off h2, vLet_off h1]) (wSeen_no no hs)
          · have yes : vMay F S w dp ((ρ (H dp)).2.1 i, (ρ (H dp)).2.2.1 i) := ⟨vB_1 b158, vB_1 b177⟩
            have q3 : isAkP (va_up h' (a + 6 + 1) (cO 34 (vGo F S w dp ((ρ (H dp)).2.1 i, (ρ (H dp)).2.2.1 i)))) a rc rq tr R Mf Mm lu ra dj g fr m (wPi ρ H F S g cd w dp P i) (vGo F S w dp ((ρ (H dp)).2.1 i, (ρ (H dp)).2.2.1 i)) := isAk.im q1 _
            have f3 : xfr a (a + 9) h (va_up h' (a + 6 + 1) (cO 34 (vGo F S w dp ((ρ (H dp)).2.1 i, (ρ (H dp)).2.2.1 i)))) := f1.up (by omega) (by omega)
            have k0' := q3.1
            have r0' : (va_up h' (a + 6 + 1) (cO 34 (vGo F S w dp ((ρ (H dp)).2.1 i, (ρ (H dp)).2.2.1 i)))) (rb + 3 * H dp) = _ := x_lk (by omega) r0
            have r1' : (va_up h' (a + 6 + 1) (cO 34 (vGo F S w dp ((ρ (H dp)).2.1 i, (ρ (H dp)).2.2.1 i)))) (rb + 3 * H dp + 1) = _ := x_lk (by omega) r1
            have r2' : (va_up h' (a + 6 + 1) (cO 34 (vGo F S w dp ((ρ (H dp)).2.1 i, (ρ (H dp)).2.2.1 i)))) (rb + 3 * H dp + 2) = _ := x_lk (by omega) r2
            have cW := IH _ _ _ (pd.sm (f3.sm hdj)) (pR.sm (f3 _ hra) (f3.sm hrb)) (hw.go yes bX.1 bX.2) q3
            have goff : ∀ t, t ≠ F dp → t ≠ S dp → vGo F S w dp ((ρ (H dp)).2.1 i, (ρ (H dp)).2.2.1 i) t = w t := fun t h1 h2 => vGo_at h1 h2
            have hgen : va_up h' (a + 6 + 1) (cO 34 (vLet (vLet w (F dp) ((ρ (H dp)).2.1 i)) (S dp) ((ρ (H dp)).2.2.1 i))) = va_up h' (a + 6 + 1) (cO 34 (vGo F S w dp ((ρ (H dp)).2.1 i, (ρ (H dp)).2.2.1 i))) := rfl
            rw [hgen]
            generalize va_up h' (a + 6 + 1) (cO 34 (vGo F S w dp ((ρ (H dp)).2.1 i, (ρ (H dp)).2.2.1 i))) = h2 at q3 f3 k0' r0' r1' r2' cW
            have seen : ∀ (h'' : xH), xfr a (a + 9) h h'' → isAkP h'' a rc rq tr R Mf Mm lu ra dj g fr m (wPi ρ H F S g cd w dp P (i + 1)) (vGo F S w dp ((ρ (H dp)).2.1 i, (ρ (H dp)).2.2.1 i)) → XW (x_rm (d' + 1) 0 0) k_Asker_walk L xs (x_mq 0 0 (qV n (fun h' => xfr a (a + 9) h h' ∧ isAkP h' a rc rq tr R Mf Mm lu ra dj g fr m (fun c => P c ∨ vOut (vRw ρ) H F S g cd w dp c) w))) 0 0 242 [(0, .ref a), (1, .int (nI dp)), (2, .int (nI (F dp))), (3, .int (nI (S dp))), (4, .int (oI (w (F dp)))), (5, .int (oI (w (S dp)))), (6, .int (nI (vMat lu w dp (F dp)).toNat)), (7, .int (nI (vMat lu w dp (S dp)).toNat)), (8, .ref (rb + 3 * H dp)), (9, .int sv), (10, .int (nI i)), (11, .int (nI 1 <<< (nI (vMark F S lu w dp ((ρ (H dp)).2.1 i, (ρ (H dp)).2.2.1 i)) &&& 31)))] [] n h'' := by
              intro h'' f4 q4
              refine xr_iload a_Asker_walk_242 rfl ?_
              refine xr_iload a_Asker_walk_244 rfl ?_
              refine xr_ior a_Asker_walk_246 ?_
              refine xr_istore a_Asker_walk_247 (by decide) rfl ?_
              refine xr_ls [(0, .ref a), (1, .int (nI dp)), (2, .int (nI (F dp))), (3, .int (nI (S dp))), (4, .int (oI (w (F dp)))), (5, .int (oI (w (S dp)))), (6, .int (nI (vMat lu w dp (F dp)).toNat)), (7, .int (nI (vMat lu w dp (S dp)).toNat)), (8, .ref (rb + 3 * H dp)), (9, .int (sv ||| (nI 1 <<< (nI (vMark F S lu w dp ((ρ (H dp)).2.1 i, (ρ (H dp)).2.2.1 i)) &&& 31)))), (10, .int (nI i))] ⟨rfl, rfl, rfl, rfl, rfl, rfl, rfl, rfl, rfl, rfl, rfl, trivial⟩ ?_
              exact back _ h'' _ f4 q4 goff (wSeen_yes yes hmk hs)
            have go : XW (x_rm (d' + 1) 0 0) k_Asker_walk L xs (x_mq 0 0 (qV n (fun h' => xfr a (a + 9) h h' ∧ isAkP h' a rc rq tr R Mf Mm lu ra dj g fr m (fun c => P c ∨ vOut (vRw ρ) H F S g cd w dp c) w))) 0 0 235 [(0, .ref a), (1, .int (nI dp)), (2, .int (nI (F dp))), (3, .int (nI (S dp))), (4, .int (oI (w (F dp)))), (5, .int (oI (w (S dp)))), (6, .int (nI (vMat lu w dp (F dp)).toNat)), (7, .int (nI (vMat lu w dp (S dp)).toNat)), (8, .ref (rb + 3 * H dp)), (9, .int sv), (10, .int (nI i)), (11, .int (nI 1 <<< (nI (vMark F S lu w dp ((ρ (H dp)).2.1 i, (ρ (H dp)).2.2.1 i)) &&& 31)))] [] n h2 := by
              refine xr_aload_n a_Asker_walk_235 rfl ?_
              refine xr_iload_n a_Asker_walk_236 rfl ?_
              refine xr_iconst a_Asker_walk_237 (v := nI 1) (by decide +kernel) ?_
              first | refine xn_iadd a_Asker_walk_238 ?_ | refine xr_iadd a_Asker_walk_238 ?_
              refine xr_invV a_Asker_walk_239 (by exact k0') (cW) rfl rfl (by omega) (by omega) (by omega) (Nat.le_of_ble_eq_true rfl) ?_
              rintro _ _ h1 ⟨rfl, rfl, f5, q5⟩
              refine xr_ls [(0, .ref a), (1, .int (nI dp)), (2, .int (nI (F dp))), (3, .int (nI (S dp))), (4, .int (oI (w (F dp)))), (5, .int (oI (w (S dp)))), (6, .int (nI (vMat lu w dp (F dp)).toNat)), (7, .int (nI (vMat lu w dp (S dp)).toNat)), (8, .ref (rb + 3 * H dp)), (9, .int sv), (10, .int (nI i)), (11, .int (nI 1 <<< (nI (vMark F S lu w dp ((ρ (H dp)).2.1 i, (ρ (H dp)).2.2.1 i)) &&& 31)))] ⟨rfl, rfl, rfl, rfl, rfl, rfl, rfl, rfl, rfl, rfl, rfl, rfl, trivial⟩ ?_
              exact seen h1 (f3.tr f5) (isAkP.c q5 (wPi_yes yes))
            have look : ¬ (vMat lu w dp (F dp) = true ∧ vMat lu w dp (S dp) = true) → XW (x_rm (d' + 1) 0 0) k_Asker_walk L xs (x_mq 0 0 (qV n (fun h' => xfr a (a + 9) h h' ∧ isAkP h' a rc rq tr R Mf Mm lu ra dj g fr m (fun c => P c ∨ vOut (vRw ρ) H F S g cd w dp c) w))) 0 0 227 [(0, .ref a), (1, .int (nI dp)), (2, .int (nI (F dp))), (3, .int (nI (S dp))), (4, .int (oI (w (F dp)))), (5, .int (oI (w (S dp)))), (6, .int (nI (vMat lu w dp (F dp)).toNat)), (7, .int (nI (vMat lu w dp (S dp)).toNat)), (8, .ref (rb + 3 * H dp)), (9, .int sv), (10, .int (nI i)), (11, .int (nI 1 <<< (nI (vMark F S lu w dp ((ρ (H dp)).2.1 i, (ρ (H dp)).2.2.1 i)) &&& 31)))] [] n h2 := by
              intro hnb
              refine xr_iload a_Asker_walk_227 rfl ?_
              refine xr_iload a_Asker_walk_229 rfl ?_
              refine xr_iand a_Asker_walk_231 ?_
              refine xr_if_ne a_Asker_walk_232 (fun b232 => ?_) (fun b232 => ?_)
              · have s1 : btI sv (vMark F S lu w dp ((ρ (H dp)).2.1 i, (ρ (H dp)).2.2.1 i)) = true := by
                  cases z : btI sv (vMark F S lu w dp ((ρ (H dp)).2.1 i, (ρ (H dp)).2.2.1 i)) with
                  | true => rfl
                  | false => exact absurd ((bi_and (by omega)).mpr z) b232
                obtain ⟨j, j1, j2, j3⟩ := (hs _ hmk).mp s1
                refine seen h2 f3 (isAkP.c q3 (fun c => ?_))
                rw [← wPi_yes yes]
                refine ⟨Or.inl, fun q => q.elim id (fun q => Or.inr ⟨j, j1, j2, vOut_mark hdp K5 hnb yes j2 j3.symm q⟩)⟩
              · exact go
            have both : XW (x_rm (d' + 1) 0 0) k_Asker_walk L xs (x_mq 0 0 (qV n (fun h' => xfr a (a + 9) h h' ∧ isAkP h' a rc rq tr R Mf Mm lu ra dj g fr m (fun c => P c ∨ vOut (vRw ρ) H F S g cd w dp c) w))) 0 0 214 [(0, .ref a), (1, .int (nI dp)), (2, .int (nI (F dp))), (3, .int (nI (S dp))), (4, .int (oI (w (F dp)))), (5, .int (oI (w (S dp)))), (6, .int (nI (vMat lu w dp (F dp)).toNat)), (7, .int (nI (vMat lu w dp (S dp)).toNat)), (8, .ref (rb + 3 * H dp)), (9, .int sv), (10, .int (nI i))] [.int (nI (vMark F S lu w dp ((ρ (H dp)).2.1 i, (ρ (H dp)).2.2.1 i))), .int (nI 1)] n h2 := by
              refine xr_ishl a_Asker_walk_214 ?_
              refine xr_istore a_Asker_walk_215 (by decide) rfl ?_
              refine xr_ls [(0, .ref a), (1, .int (nI dp)), (2, .int (nI (F dp))), (3, .int (nI (S dp))), (4, .int (oI (w (F dp)))), (5, .int (oI (w (S dp)))), (6, .int (nI (vMat lu w dp (F dp)).toNat)), (7, .int (nI (vMat lu w dp (S dp)).toNat)), (8, .ref (rb + 3 * H dp)), (9, .int sv), (10, .int (nI i)), (11, .int (nI 1 <<< (nI (vMark F S lu w dp ((ρ (H dp)).2.1 i, (ρ (H dp)).2.2.1 i)) &&& 31)))] ⟨rfl, rfl, rfl, rfl, rfl, rfl, rfl, rfl, rfl, rfl, rfl, rfl, trivial⟩ ?_
              have t1 := tn_lt (vMat lu w dp (F dp))
              have t2 := tn_lt (vMat lu w dp (S dp))
              refine xr_iload a_Asker_walk_217 rfl ?_
              refine xn_if_eq a_Asker_walk_219 (by omega) (fun b219 => ?_) (fun b219 => ?_)
              · refine look (fun z => ?_)
                rw [z.1] at b219
                cases b219
              · refine xr_iload a_Asker_walk_222 rfl ?_
                refine xn_if_ne a_Asker_walk_224 (by omega) (fun b224 => ?_) (fun b224 => ?_)
                · exact go
                · refine look (fun z => ?_)
                  rw [z.2] at b224
                  cases b224
            have t1 := tn_lt (vMat lu w dp (F dp))
            have t2 := tn_lt (vMat lu w dp (S dp))
            refine xr_iconst a_Asker_walk_180 (v := nI 1) (by decide +kernel) ?_
            refine xr_iload a_Asker_walk_181 rfl ?_
            refine xn_if_eq a_Asker_walk_183 (by omega) (fun b183 => ?_) (fun b183 => ?_)
            · have m1 : vMat lu w dp (F dp) = false := by
                cases z : vMat lu w dp (F dp) with
                | false => rfl
                | true => rw [z] at b183; cases b183
              refine xr_iload a_Asker_walk_197 rfl ?_
              refine xn_if_eq a_Asker_walk_199 (by omega) (fun b199 => ?_) (fun b199 => ?_)
              · have m2 : vMat lu w dp (S dp) = false := by
                  cases z : vMat lu w dp (S dp) with
                  | false => rfl
                  | true => rw [z] at b199; cases b199
                refine xr_iconst a_Asker_walk_213 (v := nI 0) (by decide +kernel) ?_
                refine xr_ls [(0, .ref a), (1, .int (nI dp)), (2, .int (nI (F dp))), (3, .int (nI (S dp))), (4, .int (oI (w (F dp)))), (5, .int (oI (w (S dp)))), (6, .int (nI (vMat lu w dp (F dp)).toNat)), (7, .int (nI (vMat lu w dp (S dp)).toNat)), (8, .ref (rb + 3 * H dp)), (9, .int sv), (10, .int (nI i))] ⟨rfl, rfl, rfl, rfl, rfl, rfl, rfl, rfl, rfl, rfl, rfl, trivial⟩ ?_
                have e : vMark F S lu w dp ((ρ (H dp)).2.1 i, (ρ (H dp)).2.2.1 i) = 0 := by unfold vMark; rw [m1, m2]; rfl
                rw [e] at both
                exact both
              · have m2 : vMat lu w dp (S dp) = true := by
                  cases z : vMat lu w dp (S dp) with
                  | true => rfl
                  | false => rw [z] at b199; cases b199
                refine xr_aload a_Asker_walk_202 rfl ?_
                apply xr_getf a_Asker_walk_204
                · (repeat' (first | assumption | exact va_up_self _ _ _ | refine x_lk (by omega) ?_))
                · rfl
                refine xr_iload a_Asker_walk_207 rfl ?_
                apply xn_iaload a_Asker_walk_209
                · (repeat' (first | assumption | exact va_up_self _ _ _ | refine x_lk (by omega) ?_))
                · omega
                · omega
                refine xr_goto a_Asker_walk_210 ?_
                refine xr_ls [(0, .ref a), (1, .int (nI dp)), (2, .int (nI (F dp))), (3, .int (nI (S dp))), (4, .int (oI (w (F dp)))), (5, .int (oI (w (S dp)))), (6, .int (nI (vMat lu w dp (F dp)).toNat)), (7, .int (nI (vMat lu w dp (S dp)).toNat)), (8, .ref (rb + 3 * H dp)), (9, .int sv), (10, .int (nI i))] ⟨rfl, rfl, rfl, rfl, rfl, rfl, rfl, rfl, rfl, rfl, rfl, trivial⟩ ?_
                have e : vMark F S lu w dp ((ρ (H dp)).2.1 i, (ρ (H dp)).2.2.1 i) = (ρ (H dp)).2.2.1 i := by unfold vMark; rw [m1, m2]; rfl
                rw [e] at both
                exact both
            · have m1 : vMat lu w dp (F dp) = true := by
                cases z : vMat lu w dp (F dp) with
                | true => rfl
                | false => rw [z] at b183; cases b183
              refine xr_aload a_Asker_walk_186 rfl ?_
              apply xr_getf a_Asker_walk_188
              · (repeat' (first | assumption | exact va_up_self _ _ _ | refine x_lk (by omega) ?_))
              · rfl
              refine xr_iload a_Asker_walk_191 rfl ?_
              apply xn_iaload a_Asker_walk_193
              · (repeat' (first | assumption | exact va_up_self _ _ _ | refine x_lk (by omega) ?_))
              · omega
              · omega
              refine xr_goto a_Asker_walk_194 ?_
              refine xr_ls [(0, .ref a), (1, .int (nI dp)), (2, .int (nI (F dp))), (3, .int (nI (S dp))), (4, .int (oI (w (F dp)))), (5, .int (oI (w (S dp)))), (6, .int (nI (vMat lu w dp (F dp)).toNat)), (7, .int (nI (vMat lu w dp (S dp)).toNat)), (8, .ref (rb + 3 * H dp)), (9, .int sv), (10, .int (nI i))] ⟨rfl, rfl, rfl, rfl, rfl, rfl, rfl, rfl, rfl, rfl, rfl, trivial⟩ ?_
              have e : vMark F S lu w dp ((ρ (H dp)).2.1 i, (ρ (H dp)).2.2.1 i) = (ρ (H dp)).2.1 i := by unfold vMark; rw [m1]; rfl
              rw [e] at both
              exact both
  have pk := p
  obtain ⟨k0, k1, k2, k3, ⟨k4, k5⟩, k6⟩ := pk
  obtain ⟨d0, ⟨a0, a1, a2, a3⟩, d2⟩ := pd
  obtain ⟨⟨fR, r0, r1⟩, r2⟩ := pR
  refine XM.of rfl (Nat.le_of_ble_eq_true rfl) ?_
  have rest2 : ∀ b : Bool, b = vMat lu w dp (S dp) → XW (x_rm (d' + 1) 0 0) k_Asker_walk L xs (x_mq 0 0 (qV n (fun h' => xfr a (a + 9) h h' ∧ isAkP h' a rc rq tr R Mf Mm lu ra dj g fr m (fun c => P c ∨ vOut (vRw ρ) H F S g cd w dp c) w))) 0 0 105 [(0, .ref a), (1, .int (nI dp)), (2, .int (nI (F dp))), (3, .int (nI (S dp))), (4, .int (oI (w (F dp)))), (5, .int (oI (w (S dp)))), (6, .int (nI (vMat lu w dp (F dp)).toNat))] [.int (nI b.toNat)] n h := by
    intro b hb
    subst hb
    refine xr_istore a_Asker_walk_105 (by decide) rfl ?_
    refine xr_aload_n a_Asker_walk_107 rfl ?_
    apply xr_getf a_Asker_walk_108
    · (repeat' (first | assumption | exact va_up_self _ _ _ | refine x_lk (by omega) ?_))
    · rfl
    refine xr_aload_n a_Asker_walk_111 rfl ?_
    apply xr_getf a_Asker_walk_112
    · (repeat' (first | assumption | exact va_up_self _ _ _ | refine x_lk (by omega) ?_))
    · rfl
    apply xr_getf a_Asker_walk_115
    · (repeat' (first | assumption | exact va_up_self _ _ _ | refine x_lk (by omega) ?_))
    · rfl
    apply xr_getf a_Asker_walk_118
    · (repeat' (first | assumption | exact va_up_self _ _ _ | refine x_lk (by omega) ?_))
    · rfl
    refine xr_iload_n a_Asker_walk_121 rfl ?_
    apply xn_iaload a_Asker_walk_122
    · (repeat' (first | assumption | exact va_up_self _ _ _ | refine x_lk (by omega) ?_))
    · omega
    · omega
    apply xn_aaload a_Asker_walk_123
    · (repeat' (first | assumption | exact va_up_self _ _ _ | refine x_lk (by omega) ?_))
    · rfl
    · omega
    · omega
    · exact r1 _ B.1
    refine xr_astore a_Asker_walk_124 (by decide) rfl ?_
    refine xr_iconst a_Asker_walk_126 (v := nI 0) (by decide +kernel) ?_
    refine xr_istore a_Asker_walk_127 (by decide) rfl ?_
    refine xr_iconst a_Asker_walk_129 (v := nI 0) (by decide +kernel) ?_
    refine xr_istore a_Asker_walk_130 (by decide) rfl ?_
    refine xr_ls [(0, .ref a), (1, .int (nI dp)), (2, .int (nI (F dp))), (3, .int (nI (S dp))), (4, .int (oI (w (F dp)))), (5, .int (oI (w (S dp)))), (6, .int (nI (vMat lu w dp (F dp)).toNat)), (7, .int (nI (vMat lu w dp (S dp)).toNat)), (8, .ref (rb + 3 * H dp)), (9, .int (nI 0)), (10, .int (nI 0))] ⟨rfl, rfl, rfl, rfl, rfl, rfl, rfl, rfl, rfl, rfl, rfl, trivial⟩ ?_
    refine loop (ρ (H dp)).1 0 (nI 0) h (by omega) xfr.rf (isAkP.c p (fun c => ?_)) (fun v hv => ?_)
    · exact ⟨Or.inl, fun q => q.elim id (fun ⟨j, h1, _⟩ => absurd h1 (Nat.not_lt_zero j))⟩
    · refine ⟨fun q => ?_, fun ⟨j, h1, _⟩ => absurd h1 (Nat.not_lt_zero j)⟩
      rw [bi_zero.mp (rfl : nI 0 = 0) v (by omega)] at q
      cases q
  have rest1 : ∀ b : Bool, b = vMat lu w dp (F dp) → XW (x_rm (d' + 1) 0 0) k_Asker_walk L xs (x_mq 0 0 (qV n (fun h' => xfr a (a + 9) h h' ∧ isAkP h' a rc rq tr R Mf Mm lu ra dj g fr m (fun c => P c ∨ vOut (vRw ρ) H F S g cd w dp c) w))) 0 0 82 [(0, .ref a), (1, .int (nI dp)), (2, .int (nI (F dp))), (3, .int (nI (S dp))), (4, .int (oI (w (F dp)))), (5, .int (oI (w (S dp))))] [.int (nI b.toNat)] n h := by
    intro b hb
    subst hb
    refine xr_istore a_Asker_walk_82 (by decide) rfl ?_
    refine xr_iload a_Asker_walk_84 rfl ?_
    refine xr_iconst a_Asker_walk_86 (v := -1) (by decide +kernel) ?_
    refine xo_icmp_ne a_Asker_walk_87 (fun q hq => by have := hw.2.1 _ q hq; omega) (fun b87 => ?_) (fun b87 => ?_)
    · refine xr_iconst a_Asker_walk_104 (v := nI 0) (by decide +kernel) ?_
      refine xr_ls [(0, .ref a), (1, .int (nI dp)), (2, .int (nI (F dp))), (3, .int (nI (S dp))), (4, .int (oI (w (F dp)))), (5, .int (oI (w (S dp)))), (6, .int (nI (vMat lu w dp (F dp)).toNat))] ⟨rfl, rfl, rfl, rfl, rfl, rfl, rfl, trivial⟩ ?_
      refine rest2 false ?_
      cases z : vMat lu w dp (S dp) with
      | false => rfl
      | true => exact absurd (vMat_iff.mp z).1 b87
    · refine xr_aload_n a_Asker_walk_90 rfl ?_
      apply xr_getf a_Asker_walk_91
      · (repeat' (first | assumption | exact va_up_self _ _ _ | refine x_lk (by omega) ?_))
      · rfl
      refine xr_iload_n a_Asker_walk_94 rfl ?_
      apply xo_iaload a_Asker_walk_95
      · (repeat' (first | assumption | exact va_up_self _ _ _ | refine x_lk (by omega) ?_))
      · omega
      · omega
      refine xr_iload_n a_Asker_walk_96 rfl ?_
      refine xr_icmp_le a_Asker_walk_97 (fun b97 => ?_) (fun b97 => ?_)
      · refine xr_iconst a_Asker_walk_104 (v := nI 0) (by decide +kernel) ?_
        refine xr_ls [(0, .ref a), (1, .int (nI dp)), (2, .int (nI (F dp))), (3, .int (nI (S dp))), (4, .int (oI (w (F dp)))), (5, .int (oI (w (S dp)))), (6, .int (nI (vMat lu w dp (F dp)).toNat))] ⟨rfl, rfl, rfl, rfl, rfl, rfl, rfl, trivial⟩ ?_
        refine rest2 false ?_
        cases z : vMat lu w dp (S dp) with
        | false => rfl
        | true =>
          obtain ⟨-, j, j1, j2⟩ := vMat_iff.mp z
          have := (oI_le (by omega) (fun q hq => by have := K6 _ q B.2.2 hq; omega)).mp b97 j j1
          omega
      · refine xr_iconst a_Asker_walk_100 (v := nI 1) (by decide +kernel) ?_
        refine xr_goto a_Asker_walk_101 ?_
        refine xr_ls [(0, .ref a), (1, .int (nI dp)), (2, .int (nI (F dp))), (3, .int (nI (S dp))), (4, .int (oI (w (F dp)))), (5, .int (oI (w (S dp)))), (6, .int (nI (vMat lu w dp (F dp)).toNat))] ⟨rfl, rfl, rfl, rfl, rfl, rfl, rfl, trivial⟩ ?_
        refine rest2 true ?_
        refine (vMat_iff.mpr ⟨b87, ?_⟩).symm
        refine Classical.byContradiction fun z => b97 ((oI_le (by omega) (fun q hq => by have := K6 _ q B.2.2 hq; omega)).mpr (fun j hj => ?_))
        exact Nat.le_of_not_lt (fun q => z ⟨j, hj, q⟩)
  refine xr_iload_n a_Asker_walk_0 rfl ?_
  refine xr_aload_n a_Asker_walk_1 rfl ?_
  apply xr_getf a_Asker_walk_2
  · (repeat' (first | assumption | exact va_up_self _ _ _ | refine x_lk (by omega) ?_))
  · rfl
  refine xn_icmp_lt a_Asker_walk_5 (by omega) (by omega) (fun b5 => ?_) (fun b5 => ?_)
  · refine xr_aload_n a_Asker_walk_13 rfl ?_
    apply xr_getf a_Asker_walk_14
    · (repeat' (first | assumption | exact va_up_self _ _ _ | refine x_lk (by omega) ?_))
    · rfl
    apply xr_getf a_Asker_walk_17
    · (repeat' (first | assumption | exact va_up_self _ _ _ | refine x_lk (by omega) ?_))
    · rfl
    apply xr_getf a_Asker_walk_20
    · (repeat' (first | assumption | exact va_up_self _ _ _ | refine x_lk (by omega) ?_))
    · rfl
    refine xr_iload_n a_Asker_walk_23 rfl ?_
    apply xn_iaload a_Asker_walk_24
    · (repeat' (first | assumption | exact va_up_self _ _ _ | refine x_lk (by omega) ?_))
    · omega
    · omega
    refine xr_istore_n a_Asker_walk_25 (by decide) rfl ?_
    refine xr_aload_n a_Asker_walk_26 rfl ?_
    apply xr_getf a_Asker_walk_27
    · (repeat' (first | assumption | exact va_up_self _ _ _ | refine x_lk (by omega) ?_))
    · rfl
    apply xr_getf a_Asker_walk_30
    · (repeat' (first | assumption | exact va_up_self _ _ _ | refine x_lk (by omega) ?_))
    · rfl
    apply xr_getf a_Asker_walk_33
    · (repeat' (first | assumption | exact va_up_self _ _ _ | refine x_lk (by omega) ?_))
    · rfl
    refine xr_iload_n a_Asker_walk_36 rfl ?_
    apply xn_iaload a_Asker_walk_37
    · (repeat' (first | assumption | exact va_up_self _ _ _ | refine x_lk (by omega) ?_))
    · omega
    · omega
    refine xr_istore_n a_Asker_walk_38 (by decide) rfl ?_
    refine xr_aload_n a_Asker_walk_39 rfl ?_
    apply xr_getf a_Asker_walk_40
    · (repeat' (first | assumption | exact va_up_self _ _ _ | refine x_lk (by omega) ?_))
    · rfl
    apply xr_getf a_Asker_walk_43
    · (repeat' (first | assumption | exact va_up_self _ _ _ | refine x_lk (by omega) ?_))
    · rfl
    refine xr_iload_n a_Asker_walk_46 rfl ?_
    apply xo_iaload a_Asker_walk_47
    · (repeat' (first | assumption | exact va_up_self _ _ _ | refine x_lk (by omega) ?_))
    · omega
    · omega
    refine xr_istore a_Asker_walk_48 (by decide) rfl ?_
    refine xr_aload_n a_Asker_walk_50 rfl ?_
    apply xr_getf a_Asker_walk_51
    · (repeat' (first | assumption | exact va_up_self _ _ _ | refine x_lk (by omega) ?_))
    · rfl
    apply xr_getf a_Asker_walk_54
    · (repeat' (first | assumption | exact va_up_self _ _ _ | refine x_lk (by omega) ?_))
    · rfl
    refine xr_iload_n a_Asker_walk_57 rfl ?_
    apply xo_iaload a_Asker_walk_58
    · (repeat' (first | assumption | exact va_up_self _ _ _ | refine x_lk (by omega) ?_))
    · omega
    · omega
    refine xr_istore a_Asker_walk_59 (by decide) rfl ?_
    refine xr_iload a_Asker_walk_61 rfl ?_
    refine xr_iconst a_Asker_walk_63 (v := -1) (by decide +kernel) ?_
    refine xo_icmp_ne a_Asker_walk_64 (fun q hq => by have := hw.2.1 _ q hq; omega) (fun b64 => ?_) (fun b64 => ?_)
    · refine xr_iconst a_Asker_walk_81 (v := nI 0) (by decide +kernel) ?_
      refine xr_ls [(0, .ref a), (1, .int (nI dp)), (2, .int (nI (F dp))), (3, .int (nI (S dp))), (4, .int (oI (w (F dp)))), (5, .int (oI (w (S dp))))] ⟨rfl, rfl, rfl, rfl, rfl, rfl, trivial⟩ ?_
      refine rest1 false ?_
      cases z : vMat lu w dp (F dp) with
      | false => rfl
      | true => exact absurd (vMat_iff.mp z).1 b64
    · refine xr_aload_n a_Asker_walk_67 rfl ?_
      apply xr_getf a_Asker_walk_68
      · (repeat' (first | assumption | exact va_up_self _ _ _ | refine x_lk (by omega) ?_))
      · rfl
      refine xr_iload_n a_Asker_walk_71 rfl ?_
      apply xo_iaload a_Asker_walk_72
      · (repeat' (first | assumption | exact va_up_self _ _ _ | refine x_lk (by omega) ?_))
      · omega
      · omega
      refine xr_iload_n a_Asker_walk_73 rfl ?_
      refine xr_icmp_le a_Asker_walk_74 (fun b74 => ?_) (fun b74 => ?_)
      · refine xr_iconst a_Asker_walk_81 (v := nI 0) (by decide +kernel) ?_
        refine xr_ls [(0, .ref a), (1, .int (nI dp)), (2, .int (nI (F dp))), (3, .int (nI (S dp))), (4, .int (oI (w (F dp)))), (5, .int (oI (w (S dp))))] ⟨rfl, rfl, rfl, rfl, rfl, rfl, trivial⟩ ?_
        refine rest1 false ?_
        cases z : vMat lu w dp (F dp) with
        | false => rfl
        | true =>
          obtain ⟨-, j, j1, j2⟩ := vMat_iff.mp z
          have := (oI_le (by omega) (fun q hq => by have := K6 _ q B.2.1 hq; omega)).mp b74 j j1
          omega
      · refine xr_iconst a_Asker_walk_77 (v := nI 1) (by decide +kernel) ?_
        refine xr_goto a_Asker_walk_78 ?_
        refine xr_ls [(0, .ref a), (1, .int (nI dp)), (2, .int (nI (F dp))), (3, .int (nI (S dp))), (4, .int (oI (w (F dp)))), (5, .int (oI (w (S dp))))] ⟨rfl, rfl, rfl, rfl, rfl, rfl, trivial⟩ ?_
        refine rest1 true ?_
        refine (vMat_iff.mpr ⟨b64, ?_⟩).symm
        refine Classical.byContradiction fun z => b74 ((oI_le (by omega) (fun q hq => by have := K6 _ q B.2.1 hq; omega)).mpr (fun j hj => ?_))
        exact Nat.le_of_not_lt (fun q => z ⟨j, hj, q⟩)
  · omega
theorem t_Asker_walk (K : wK ρ m g H F S pt cd lu fr) (hdj : dj + 6 ≤ a ∨ a + 9 ≤ dj) (hra : ra < a ∨ a + 9 ≤ ra) (hrb : rb + 12 ≤ a ∨ a + 9 ≤ rb) : ∀ (k dp : Nat), dp + k = g → ∀ (h : xH) (P : Nat → Prop) (w : Nat → Option Nat), isDj h dj m H F S pt dr bl → isRs h ra rb ρ → wW F S w dp → isAkP h a rc rq tr R Mf Mm lu ra dj g fr m P w → XM (k + 2) 0 0 k_Asker_walk L xs [.ref a, .int (nI dp)] n h (qV n (fun h' => xfr a (a + 9) h h' ∧ isAkP h' a rc rq tr R Mf Mm lu ra dj g fr m (fun c => P c ∨ vOut (vRw ρ) H F S g cd w dp c) w)) := by
  intro k
  induction k with
  | zero =>
    intro dp hdp h P w pd pR hw p
    have e : dp = g := by omega
    subst e
    exact t_walk_end K pd hw p
  | succ k ih =>
    intro dp hdp h P w pd pR hw p
    exact t_walk_step K pd pR hdj hra hrb (by omega) hw p (ih (dp + 1) (by omega))
end T35

