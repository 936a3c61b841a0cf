/-! Asker.walk -/
def vRw (ρ : Nat → vRel) : vR := fun r => (List.range (ρ r).1).map fun i => ((ρ r).2.1 i, (ρ r).2.2.1 i)
theorem vRw_mem {ρ : Nat → vRel} {r : Nat} {xy : Nat × Nat} : xy ∈ vRw ρ r ↔ ∃ i, i < (ρ r).1 ∧ xy = ((ρ r).2.1 i, (ρ r).2.2.1 i) := by
  unfold vRw
  rw [List.mem_map]
  constructor
  · rintro ⟨i, h1, h2⟩
    exact ⟨i, List.mem_range.mp h1, h2.symm⟩
  · rintro ⟨i, h1, h2⟩
    exact ⟨i, List.mem_range.mpr h1, h2.symm⟩
theorem vAdd_c {M : Nat → Bool} {P P' : Nat → Prop} (h : ∀ c, P c ↔ P' c) : vAdd M P = vAdd M P' := by
  have : P = P' := funext fun c => propext (h c)
  rw [this]
theorem vAdd_up {M : Nat → Bool} {P : Nat → Prop} (c : Nat) : va_up (vAdd M P) c true = vAdd M (fun c' => P c' ∨ c' = c) := by
  apply vAdd_eq
  intro c'
  by_cases e : c' = c
  · rw [e, up_self]
    exact ⟨fun _ => Or.inr (Or.inr rfl), fun _ => rfl⟩
  · rw [up_ne e, vAdd_iff]
    constructor
    · rintro (q | q)
      · exact Or.inl q
      · exact Or.inr (Or.inl q)
    · rintro (q | q | q)
      · exact Or.inl q
      · exact Or.inr q
      · exact absurd q e
theorem vCnt_one {q : Nat → Bool} {c N : Nat} (hc : c < N) : vCnt (va_up q c true) N = vCnt q N + vB (q c = false) := by
  cases h : q c with
  | false => rw [vCnt_up h hc, vB_t rfl]
  | true => rw [up_same h, vB_f (by decide)]; rfl
theorem oI_le {o : Option Nat} {d : Nat} (hd : d < 2 ^ 31) (h : ∀ k, o = some k → k < 2 ^ 31) : oI o ≤ nI d ↔ ∀ j, o = some j → j ≤ d := by
  cases o with
  | none =>
    refine ⟨fun _ j hj => (by cases hj), fun _ => ?_⟩
    show (-1 : Int32) ≤ nI d
    rw [Int32.le_iff_toInt_le, nI_toInt hd]
    have : (-1 : Int32).toInt = -1 := by decide
    omega
  | some k =>
    show nI k ≤ nI d ↔ _
    rw [nI_leI (h k rfl) hd]
    exact ⟨fun q j hj => by cases hj; exact q, fun q => q k rfl⟩
theorem vMat_iff {lu w : Nat → Option Nat} {d t : Nat} : vMat lu w d t = true ↔ w t = none ∧ ∃ j, lu t = some j ∧ d < j := by
  unfold vMat
  rw [Bool.and_eq_true]
  constructor
  · rintro ⟨h1, h2⟩
    refine ⟨by simpa using h1, ?_⟩
    cases h : lu t with
    | none => rw [h] at h2; cases h2
    | some j => rw [h] at h2; exact ⟨j, rfl, by simpa using h2⟩
  · rintro ⟨h1, j, h2, h3⟩
    refine ⟨by rw [h1]; rfl, ?_⟩
    rw [h2]
    simpa using h3
/-- how the marks stand when the codes P have come -/
noncomputable def isAkP (h : xH) (a rc rq tr : Nat) (R : Nat → Nat) (Mf Mm : Nat → Bool) (lu : Nat → Option Nat) (ra dj g fr m : Nat) (P : Nat → Prop) (w : Nat → Option Nat) : Prop := isAk h a rc rq tr R (if g < m then Mf else vAdd Mf P) (if g < m then vAdd Mm P else Mm) w lu (.ref ra) (.ref dj) g (if g < m then fr + (vCnt (vAdd Mm P) 4096 - vCnt Mm 4096) else fr)
theorem isAkP.c {h : xH} {a rc rq tr : Nat} {R : Nat → Nat} {Mf Mm : Nat → Bool} {lu : Nat → Option Nat} {ra dj g fr m : Nat} {P P' : Nat → Prop} {w : Nat → Option Nat} (p : isAkP h a rc rq tr R Mf Mm lu ra dj g fr m P w) (hc : ∀ c, P c ↔ P' c) : isAkP h a rc rq tr R Mf Mm lu ra dj g fr m P' w := by
  have : P = P' := funext fun c => propext (hc c)
  rw [← this]
  exact p
theorem isAk.im {h : xH} {a rc rq tr : Nat} {R : Nat → Nat} {Mf Mm : Nat → Bool} {w lu : Nat → Option Nat} {vr vd : Value} {g fr : Nat} (p : isAk h a rc rq tr R Mf Mm w lu vr vd g fr) (w' : Nat → Option Nat) : isAk (va_up h (a + 6 + 1) (cO 34 w')) a rc rq tr R Mf Mm w' lu vr vd g fr := ⟨x_lk (by omega) p.1, x_lk (by omega) p.2.1, p.2.2.1.sm (xsm_up (by omega)), p.2.2.2.1.sm (xsm_up (by omega)), ⟨x_lk (by omega) p.2.2.2.2.1.1, up_self _ _ _⟩, x_lk (by omega) p.2.2.2.2.2⟩
/-- the pieces of the walk: the disjunct's arrays, the rows, what is used last where, what comes out -/
def wK (ρ : Nat → vRel) (m g : Nat) (H F S : Nat → Nat) (pt : Nat → Option Nat) (cd : (Nat → Nat) → Nat) (lu : Nat → Option Nat) (fr : Nat) : Prop :=
  m ≤ 6 ∧ g ≤ m ∧ (∀ i, i < m → H i < 4 ∧ F i < 34 ∧ S i < 34) ∧ (∀ r, r < 4 → (ρ r).1 ≤ 8 ∧ ∀ i, i < (ρ r).1 → (ρ r).2.1 i < 16 ∧ (ρ r).2.2.1 i < 16) ∧ vLu F S g cd lu ∧ (∀ t k, t < 34 → lu t = some k → k < 100) ∧ (∀ t, t < 34 → lu t = some g → t < 16 ∨ ∃ i, i < g ∧ (F i = t ∨ S i = t)) ∧ (g < m → ∃ p, pt g = some p ∧ p < 4 ∧ (p % 2 = 1 → lu (F g) = some g) ∧ (p / 2 % 2 = 1 → lu (S g) = some g) ∧ cd = vCode (H g, F g, S g) p) ∧ (g = m → lu 16 = some g ∧ lu 17 = some g ∧ cd = fun θ => θ 16 * 16 + θ 17) ∧ fr < 5000
def wW (F S : Nat → Nat) (w : Nat → Option Nat) (dp : Nat) : Prop := (∀ t, t < 16 → w t = some t) ∧ (∀ t k, w t = some k → k < 16) ∧ ∀ i, i < dp → w (F i) ≠ none ∧ w (S i) ≠ none
theorem wW.go {F S : Nat → Nat} {w : Nat → Option Nat} {dp : Nat} {xy : Nat × Nat} (h : wW F S w dp) (hm : vMay F S w dp xy) (h1 : xy.1 < 16) (h2 : xy.2 < 16) : wW F S (vGo F S w dp xy) (dp + 1) := by
  have bd : ∀ (f : Nat → Option Nat) (u j : Nat), (∀ t k, f t = some k → k < 16) → j < 16 → ∀ t k, vLet f u j t = some k → k < 16 := by
    intro f u j hf hj t k hk
    unfold vLet at hk
    split at hk
    · by_cases e : t = u
      · rw [e, up_self] at hk; cases hk; exact hj
      · rw [up_ne e] at hk; exact hf t k hk
    · exact hf t k hk
  refine ⟨fun t ht => vGo_keep (h.1 t ht), fun t k hk => bd _ _ _ (bd _ _ _ h.2.1 h1) h2 t k hk, fun i hi => ?_⟩
  have keep : ∀ t, w t ≠ none → vGo F S w dp xy t ≠ none := by
    intro t ht
    obtain ⟨k, hk⟩ := Option.ne_none_iff_exists'.mp ht
    rw [vGo_keep hk]
    simp
  by_cases e : i = dp
  · rw [e, vGo_1 hm, vGo_2 hm]
    simp
  · have := h.2.2 i (by omega)
    exact ⟨keep _ this.1, keep _ this.2⟩
theorem wOut_end {ρ : vR} {H F S : Nat → Nat} {g : Nat} {cd : (Nat → Nat) → Nat} {lu w : Nat → Option Nat} {c : Nat} (hlu : vLu F S g cd lu) (hn : ∀ t, t < 34 → lu t = some g → t < 16 ∨ ∃ i, i < g ∧ (F i = t ∨ S i = t)) (hw : wW F S w g) : vOut ρ H F S g cd w g c ↔ c = cd (vW w) := by
  constructor
  · rintro ⟨θ, h1, -, h2⟩
    rw [h2]
    refine hlu.2 _ _ (fun t h34 ht => ?_)
    have : ∃ k, w t = some k := by
      rcases hn t h34 ht with q | ⟨i, hi, q | q⟩
      · exact ⟨t, hw.1 t q⟩
      · exact Option.ne_none_iff_exists'.mp (q ▸ (hw.2.2 i hi).1)
      · exact Option.ne_none_iff_exists'.mp (q ▸ (hw.2.2 i hi).2)
    obtain ⟨k, hk⟩ := this
    rw [h1 t k hk]
    unfold vW
    rw [hk]
    rfl
  · intro h
    refine ⟨vW w, fun t k hk => ?_, fun i h1 h2 => by omega, h⟩
    unfold vW
    rw [hk]
    rfl
section T34
variable {L : Nat} {xs : Nat → Int32} {n : Nat} {a rc rq tr : Nat} {R : Nat → Nat} {Mf Mm : Nat → Bool} {lu : Nat → Option Nat} {ra rb dj g fr m : Nat} {H F S : Nat → Nat} {pt : Nat → Option Nat} {dr bl : Nat} {ρ : Nat → vRel} {cd : (Nat → Nat) → Nat}
theorem t_walk_end {h : xH} {P : Nat → Prop} {w : Nat → Option Nat} (K : wK ρ m g H F S pt cd lu fr) (pd : isDj h dj m H F S pt dr bl) (hw : wW F S w g) (p : isAkP h a rc rq tr R Mf Mm lu ra dj g fr m P w) : XM 2 0 0 k_Asker_walk L xs [.ref a, .int (nI g)] n h (qV n (fun h' => xfr a (a + 9) h h' ∧ isAkP h' a rc rq tr R Mf Mm lu ra dj g fr m (fun c => P c ∨ vOut (vRw ρ) H F S g cd w g c) w)) := by
  obtain ⟨K1, K2, K3, K4, K5, K6, K7, K8, K9, K10⟩ := K
  have k0 := p.1
  have bnd : ∀ t, t < 34 → lu t = some g → ∃ k, w t = some k ∧ k < 16 := by
    intro t h34 ht
    have : ∃ k, w t = some k := by
      rcases K7 t h34 ht with q | ⟨i, hi, q | q⟩
      · exact ⟨t, hw.1 t q⟩
      · exact Option.ne_none_iff_exists'.mp (q ▸ (hw.2.2 i hi).1)
      · exact Option.ne_none_iff_exists'.mp (q ▸ (hw.2.2 i hi).2)
    obtain ⟨k, hk⟩ := this
    exact ⟨k, hk, hw.2.1 t k hk⟩
  have cW : ∀ t, t < 34 → lu t = some g → vW w t < 16 := by
    intro t h34 ht
    obtain ⟨k, h1, h2⟩ := bnd t h34 ht
    unfold vW
    rw [h1]
    exact h2
  refine XM.of rfl (Nat.le_of_ble_eq_true rfl) ?_
  by_cases hg : g < m
  · obtain ⟨q, e1, e2, e3, e4, e5⟩ := K8 hg
    have hB := K3 g hg
    have p' : isAk h a rc rq tr R Mf (vAdd Mm P) w lu (.ref ra) (.ref dj) g (fr + (vCnt (vAdd Mm P) 4096 - vCnt Mm 4096)) := by
      have := p
      unfold isAkP at this
      rw [if_pos hg, if_pos hg, if_pos hg] at this
      exact this
    have hcn := vCnt_le (vAdd Mm P) 4096
    have hcode : vCode (H g, F g, S g) q (vW w) < 4096 := by
      have hx : (if q % 2 = 1 then vW w (F g) else 0) < 16 := by
        split
        · rename_i z; exact cW _ hB.2.1 (e3 z)
        · omega
      have hy : (if q / 2 % 2 = 1 then vW w (S g) else 0) < 16 := by
        split
        · rename_i z; exact cW _ hB.2.2 (e4 z)
        · omega
      show ((H g * 4 + q) * 16 + (if q % 2 = 1 then vW w (F g) else 0)) * 16 + (if q / 2 % 2 = 1 then vW w (S g) else 0) < 4096
      omega
    have c := t_Asker_arriveM (d := 1) (L := L) (xs := xs) (n := n) p' pd hg K1 (fun i hi => by have := K3 i hi; exact ⟨by omega, this.2.1, this.2.2⟩) e1 e2 (fun z => by obtain ⟨k, h1, -⟩ := bnd _ hB.2.1 (e3 z); exact ⟨k, h1⟩) (fun z => by obtain ⟨k, h1, -⟩ := bnd _ hB.2.2 (e4 z); exact ⟨k, h1⟩) hcode (by omega) (by omega)
    refine xr_iload_n a_Asker_walk_0 rfl ?_
    refine xr_aload_n a_Asker_walk_1 rfl ?_
    apply xr_getf a_Asker_walk_2
    · (repeat' (first | assumption | exact va_up_self _ _ _ | refine x_lk (by omega) ?_))
    · rfl
    refine xn_icmp_lt a_Asker_walk_5 (by omega) (by omega) (fun b5 => ?_) (fun b5 => ?_)
    · omega
    · refine xr_aload_n a_Asker_walk_8 rfl ?_
      refine xr_invV a_Asker_walk_9 (by exact k0) (c) rfl rfl (by omega) (by omega) (by omega) (Nat.le_of_ble_eq_true rfl) ?_
      rintro _ _ h1 ⟨rfl, rfl, f1, q1⟩
      refine xr_return a_Asker_walk_12 rfl (by omega) (by omega) ?_
      refine ⟨rfl, rfl, f1, ?_⟩
      have eP : ∀ c', (P c' ∨ c' = vCode (H g, F g, S g) q (vW w)) ↔ (P c' ∨ vOut (vRw ρ) H F S g cd w g c') := by
        intro c'
        rw [wOut_end K5 K7 hw, e5]
      have eM := vAdd_up (M := Mm) (P := P) (vCode (H g, F g, S g) q (vW w))
      have eC := vCnt_one (q := vAdd Mm P) hcode
      have hmono := vCnt_mono (p := Mm) (q := vAdd Mm P) (fun k hk => vAdd_iff.mpr (Or.inl hk)) 4096
      rw [eM, vAdd_c eP] at eC
      rw [eM, vAdd_c eP] at q1
      unfold isAkP
      rw [if_pos hg, if_pos hg, if_pos hg]
      rw [show fr + (vCnt (vAdd Mm P) 4096 - vCnt Mm 4096) + vB (vAdd Mm P (vCode (H g, F g, S g) q (vW w)) = false) = fr + (vCnt (vAdd Mm (fun c => P c ∨ vOut (vRw ρ) H F S g cd w g c)) 4096 - vCnt Mm 4096) by omega] at q1
      exact q1
  · have hgm : g = m := by omega
    subst hgm
    obtain ⟨e1, e2, e3⟩ := K9 rfl
    obtain ⟨x, x1, x2⟩ := bnd 16 (by omega) e1
    obtain ⟨y, y1, y2⟩ := bnd 17 (by omega) e2
    have p' : isAk h a rc rq tr R (vAdd Mf P) Mm w lu (.ref ra) (.ref dj) g fr := by
      have := p
      unfold isAkP at this
      rw [if_neg hg, if_neg hg, if_neg hg] at this
      exact this
    have c := (t_Asker_arriveF (d := 1) (L := L) (xs := xs) (n := n) p' pd K1 x1 y1 x2 y2).resolve_right (by decide)
    refine xr_iload_n a_Asker_walk_0 rfl ?_
    refine xr_aload_n a_Asker_walk_1 rfl ?_
    apply xr_getf a_Asker_walk_2
    · (repeat' (first | assumption | exact va_up_self _ _ _ | refine x_lk (by omega) ?_))
    · rfl
    refine xn_icmp_lt a_Asker_walk_5 (by omega) (by omega) (fun b5 => ?_) (fun b5 => ?_)
    · omega
    · refine xr_aload_n a_Asker_walk_8 rfl ?_
      refine xr_invV a_Asker_walk_9 (by exact k0) (c) rfl rfl (by omega) (by omega) (by omega) (Nat.le_of_ble_eq_true rfl) ?_
      rintro _ _ h1 ⟨rfl, rfl, f1, q1⟩
      refine xr_return a_Asker_walk_12 rfl (by omega) (by omega) ?_
      refine ⟨rfl, rfl, f1, ?_⟩
      have eP : ∀ c', (P c' ∨ c' = x * 16 + y) ↔ (P c' ∨ vOut (vRw ρ) H F S g cd w g c') := by
        intro c'
        rw [wOut_end K5 K7 hw, e3]
        show _ ↔ (P c' ∨ c' = vW w 16 * 16 + vW w 17)
        unfold vW
        rw [x1, y1]
        exact Iff.rfl
      rw [vAdd_up, vAdd_c eP] at q1
      unfold isAkP
      rw [if_neg hg, if_neg hg, if_neg hg]
      exact q1
end T34

