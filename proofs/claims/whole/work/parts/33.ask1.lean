/-! Asker: its cells; a request's number; what comes at the end of a road -/
def aObj (a rc rq tr : Nat) (vr vd : Value) (g fr : Nat) : List Value := [.ref (a + 1), .int (nI rc), .int (nI rq), .int (nI tr), .ref (a + 2), .ref (a + 4), .ref (a + 6), .ref (a + 8), vr, vd, .int (nI g), .int (nI fr)]
abbrev cA (a rc rq tr : Nat) (vr vd : Value) (g fr : Nat) : Option va_E := some (.inr (2, aObj a rc rq tr vr vd g fr))
section XAk
variable {Rm : Room} {M : xM} {L : Nat} {xs : Nat → Int32} {Z : xZ} {kc ks pc pc' : Nat} {ls : List (Nat × Value)} {st : List Value} {n : Nat} {h : xH} {a rc rq tr g fr : Nat} {vr vd : Value}
theorem xa_rc {x : Nat} (hg : x_isput M pc pc' 2 1 .int) (hr : h a = cA a rc rq tr vr vd g fr) (k : XW Rm M L xs Z kc ks pc' ls st n (va_up h a (cA a x rq tr vr vd g fr))) : XW Rm M L xs Z kc ks pc ls (.int (nI x) :: .ref a :: st) n h := xr_putf hg hr (Nat.le_of_ble_eq_true rfl) rfl rfl k
theorem xa_rq {x : Nat} (hg : x_isput M pc pc' 2 2 .int) (hr : h a = cA a rc rq tr vr vd g fr) (k : XW Rm M L xs Z kc ks pc' ls st n (va_up h a (cA a rc x tr vr vd g fr))) : XW Rm M L xs Z kc ks pc ls (.int (nI x) :: .ref a :: st) n h := xr_putf hg hr (Nat.le_of_ble_eq_true rfl) rfl rfl k
theorem xa_tr {x : Nat} (hg : x_isput M pc pc' 2 3 .int) (hr : h a = cA a rc rq tr vr vd g fr) (k : XW Rm M L xs Z kc ks pc' ls st n (va_up h a (cA a rc rq x vr vd g fr))) : XW Rm M L xs Z kc ks pc ls (.int (nI x) :: .ref a :: st) n h := xr_putf hg hr (Nat.le_of_ble_eq_true rfl) rfl rfl k
theorem xa_vr {x : Nat} {ty : FieldType} (hg : x_isput M pc pc' 2 8 ty) (hr : h a = cA a rc rq tr vr vd g fr) (hty : ty = .array (.object "ViewMediator$Relation")) (k : XW Rm M L xs Z kc ks pc' ls st n (va_up h a (cA a rc rq tr (.ref x) vd g fr))) : XW Rm M L xs Z kc ks pc ls (.ref x :: .ref a :: st) n h := xr_putf hg hr (Nat.le_of_ble_eq_true rfl) (by subst hty; rfl) (by subst hty; rfl) k
theorem xa_vd {x : Nat} {ty : FieldType} (hg : x_isput M pc pc' 2 9 ty) (hr : h a = cA a rc rq tr vr vd g fr) (hty : ty = .object "ViewMediator$Disjunct") (k : XW Rm M L xs Z kc ks pc' ls st n (va_up h a (cA a rc rq tr vr (.ref x) g fr))) : XW Rm M L xs Z kc ks pc ls (.ref x :: .ref a :: st) n h := xr_putf hg hr (Nat.le_of_ble_eq_true rfl) (by subst hty; rfl) (by subst hty; rfl) k
theorem xa_g {x : Nat} (hg : x_isput M pc pc' 2 10 .int) (hr : h a = cA a rc rq tr vr vd g fr) (k : XW Rm M L xs Z kc ks pc' ls st n (va_up h a (cA a rc rq tr vr vd x fr))) : XW Rm M L xs Z kc ks pc ls (.int (nI x) :: .ref a :: st) n h := xr_putf hg hr (Nat.le_of_ble_eq_true rfl) rfl rfl k
theorem xa_fr {x : Nat} (hg : x_isput M pc pc' 2 11 .int) (hr : h a = cA a rc rq tr vr vd g fr) (k : XW Rm M L xs Z kc ks pc' ls st n (va_up h a (cA a rc rq tr vr vd g x))) : XW Rm M L xs Z kc ks pc ls (.int (nI x) :: .ref a :: st) n h := xr_putf hg hr (Nat.le_of_ble_eq_true rfl) rfl rfl k
end XAk
def isAk (h : xH) (a rc rq tr : Nat) (R : Nat → Nat) (Mf Mm : Nat → Bool) (w lu : Nat → Option Nat) (vr vd : Value) (g fr : Nat) : Prop := h a = cA a rc rq tr vr vd g fr ∧ h (a + 1) = cI 256 R ∧ isMk h (a + 2) 4 Mf ∧ isMk h (a + 4) 64 Mm ∧ isIm h (a + 6) w ∧ h (a + 8) = cO 34 lu
theorem isAk.sm {h h' : xH} {a rc rq tr : Nat} {R : Nat → Nat} {Mf Mm : Nat → Bool} {w lu : Nat → Option Nat} {vr vd : Value} {g fr : Nat} (p : isAk h a rc rq tr R Mf Mm w lu vr vd g fr) (q : xsm a (a + 9) h h') : isAk h' a rc rq tr R Mf Mm w lu vr vd g fr := ⟨(q _ (by omega) (by omega)).trans p.1, (q _ (by omega) (by omega)).trans p.2.1, p.2.2.1.sm (q.mo (by omega) (by omega)), p.2.2.2.1.sm (q.mo (by omega) (by omega)), p.2.2.2.2.1.sm (q.mo (by omega) (by omega)), (q _ (by omega) (by omega)).trans p.2.2.2.2.2⟩
theorem isAk.obj {h : xH} {a rc rq tr : Nat} {R : Nat → Nat} {Mf Mm : Nat → Bool} {w lu : Nat → Option Nat} {vr vd : Value} {g fr : Nat} (p : isAk h a rc rq tr R Mf Mm w lu vr vd g fr) {rc' rq' tr' : Nat} {vr' vd' : Value} {g' fr' : Nat} : isAk (va_up h a (cA a rc' rq' tr' vr' vd' g' fr')) a rc' rq' tr' R Mf Mm w lu vr' vd' g' fr' := ⟨up_self _ _ _, x_lk (by omega) p.2.1, p.2.2.1.sm (xsm_up (by omega)), p.2.2.2.1.sm (xsm_up (by omega)), p.2.2.2.2.1.sm (xsm_up (by omega)), x_lk (by omega) p.2.2.2.2.2⟩
def vW (w : Nat → Option Nat) : Nat → Nat := fun t => (w t).getD 0
theorem p_and1 : ∀ p, p < 4 → p &&& 1 = p % 2 := by decide
theorem p_and2 : ∀ p, p < 4 → p &&& 2 = 2 * (p / 2 % 2) := by decide
section T33
variable {d L : Nat} {xs : Nat → Int32} {n : Nat} {h : xH} {a rc rq tr : Nat} {R : Nat → Nat} {Mf Mm : Nat → Bool} {w lu : Nat → Option Nat} {vr : Value} {dj g fr m : Nat} {H F S : Nat → Nat} {pt : Nat → Option Nat} {dr bl : Nat}
theorem t_Asker_requestCode {p : Nat} (pa : isAk h a rc rq tr R Mf Mm w lu vr (.ref dj) g fr) (pd : isDj h dj m H F S pt dr bl) (hg : g < m) (hm : m ≤ 6) (hB : vBd m H F S) (hp : pt g = some p) (hp4 : p < 4) (h1 : p % 2 = 1 → ∃ k, w (F g) = some k) (h2 : p / 2 % 2 = 1 → ∃ k, w (S g) = some k) : XM d 0 0 k_Asker_requestCode L xs [.ref a] n h (qR n h (nI (vCode (H g, F g, S g) p (vW w)))) := by
  obtain ⟨k0, k1, k2, k3, ⟨k4, k5⟩, k6⟩ := pa
  obtain ⟨d0, ⟨a0, a1, a2, a3⟩, d2⟩ := pd
  have b := hB g hg
  refine XM.of rfl (Nat.le_of_ble_eq_true rfl) ?_
  have fin : ∀ x y : Nat, x = (if p % 2 = 1 then vW w (F g) else 0) → y = (if p / 2 % 2 = 1 then vW w (S g) else 0) → XW (x_rm d 0 0) k_Asker_requestCode L xs (x_mq 0 0 (qR n h (nI (vCode (H g, F g, S g) p (vW w))))) 0 0 76 [(0, .ref a), (1, .ref (dj + 1)), (2, .int (nI p)), (3, .int (nI x))] [.int (nI y)] n h := by
    intro x y hx hy
    refine xr_istore a_Asker_requestCode_76 (by decide) rfl ?_
    refine xr_aload_n a_Asker_requestCode_78 rfl ?_
    apply xr_getf a_Asker_requestCode_79
    · (repeat' (first | assumption | exact va_up_self _ _ _ | refine x_lk (by omega) ?_))
    · rfl
    refine xr_aload_n a_Asker_requestCode_82 rfl ?_
    apply xr_getf a_Asker_requestCode_83
    · (repeat' (first | assumption | exact va_up_self _ _ _ | refine x_lk (by omega) ?_))
    · rfl
    apply xn_iaload a_Asker_requestCode_86
    · (repeat' (first | assumption | exact va_up_self _ _ _ | refine x_lk (by omega) ?_))
    · omega
    · omega
    refine xr_iconst a_Asker_requestCode_87 (v := nI 4) (by decide +kernel) ?_
    first | refine xn_imul a_Asker_requestCode_88 ?_ | refine xr_imul a_Asker_requestCode_88 ?_
    refine xr_iload_n a_Asker_requestCode_89 rfl ?_
    first | refine xn_iadd a_Asker_requestCode_90 ?_ | refine xr_iadd a_Asker_requestCode_90 ?_
    refine xr_bipush a_Asker_requestCode_91 (v := nI 16) (by decide +kernel) ?_
    first | refine xn_imul a_Asker_requestCode_93 ?_ | refine xr_imul a_Asker_requestCode_93 ?_
    refine xr_iload_n a_Asker_requestCode_94 rfl ?_
    first | refine xn_iadd a_Asker_requestCode_95 ?_ | refine xr_iadd a_Asker_requestCode_95 ?_
    refine xr_bipush a_Asker_requestCode_96 (v := nI 16) (by decide +kernel) ?_
    first | refine xn_imul a_Asker_requestCode_98 ?_ | refine xr_imul a_Asker_requestCode_98 ?_
    refine xr_iload a_Asker_requestCode_99 rfl ?_
    first | refine xn_iadd a_Asker_requestCode_101 ?_ | refine xr_iadd a_Asker_requestCode_101 ?_
    refine xr_ireturn a_Asker_requestCode_102 rfl rfl (by omega) (by omega) ?_
    refine ⟨?_, rfl, rfl⟩
    unfold vCode
    rw [← hx, ← hy]
  have mid : ∀ x : Nat, x = (if p % 2 = 1 then vW w (F g) else 0) → XW (x_rm d 0 0) k_Asker_requestCode L xs (x_mq 0 0 (qR n h (nI (vCode (H g, F g, S g) p (vW w))))) 0 0 48 [(0, .ref a), (1, .ref (dj + 1)), (2, .int (nI p))] [.int (nI x)] n h := by
    intro x hx
    refine xr_istore_n a_Asker_requestCode_48 (by decide) rfl ?_
    refine xr_iload_n a_Asker_requestCode_49 rfl ?_
    refine xr_iconst a_Asker_requestCode_50 (v := nI 2) (by decide +kernel) ?_
    refine xr_iand a_Asker_requestCode_51 ?_; rw [bp_and p hp4 2 (by decide), p_and2 p hp4]
    refine xn_if_eq a_Asker_requestCode_52 (by omega) (fun b52 => ?_) (fun b52 => ?_)
    · refine xr_iconst a_Asker_requestCode_75 (v := nI 0) (by decide +kernel) ?_
      refine xr_ls [(0, .ref a), (1, .ref (dj + 1)), (2, .int (nI p)), (3, .int (nI x))] ⟨rfl, rfl, rfl, rfl, trivial⟩ ?_
      exact fin x 0 hx (by rw [if_neg (by omega)])
    · obtain ⟨k, hk⟩ := h2 (by omega)
      refine xr_aload_n a_Asker_requestCode_55 rfl ?_
      apply xr_getf a_Asker_requestCode_56
      · (repeat' (first | assumption | exact va_up_self _ _ _ | refine x_lk (by omega) ?_))
      · rfl
      apply xr_getf a_Asker_requestCode_59
      · (repeat' (first | assumption | exact va_up_self _ _ _ | refine x_lk (by omega) ?_))
      · rfl
      refine xr_aload_n a_Asker_requestCode_62 rfl ?_
      apply xr_getf a_Asker_requestCode_63
      · (repeat' (first | assumption | exact va_up_self _ _ _ | refine x_lk (by omega) ?_))
      · rfl
      refine xr_aload_n a_Asker_requestCode_66 rfl ?_
      apply xr_getf a_Asker_requestCode_67
      · (repeat' (first | assumption | exact va_up_self _ _ _ | refine x_lk (by omega) ?_))
      · rfl
      apply xn_iaload a_Asker_requestCode_70
      · (repeat' (first | assumption | exact va_up_self _ _ _ | refine x_lk (by omega) ?_))
      · omega
      · omega
      apply xo_iaload a_Asker_requestCode_71
      · (repeat' (first | assumption | exact va_up_self _ _ _ | refine x_lk (by omega) ?_))
      · omega
      · omega
      rw [hk, show oI (some k) = nI k from rfl]
      refine xr_goto a_Asker_requestCode_72 ?_
      refine xr_ls [(0, .ref a), (1, .ref (dj + 1)), (2, .int (nI p)), (3, .int (nI x))] ⟨rfl, rfl, rfl, rfl, trivial⟩ ?_
      exact fin x k hx (by rw [if_pos (by omega)]; unfold vW; rw [hk]; rfl)
  refine xr_aload_n a_Asker_requestCode_0 rfl ?_
  apply xr_getf a_Asker_requestCode_1
  · (repeat' (first | assumption | exact va_up_self _ _ _ | refine x_lk (by omega) ?_))
  · rfl
  apply xr_getf a_Asker_requestCode_4
  · (repeat' (first | assumption | exact va_up_self _ _ _ | refine x_lk (by omega) ?_))
  · rfl
  refine xr_astore_n a_Asker_requestCode_7 (by decide) rfl ?_
  refine xr_aload_n a_Asker_requestCode_8 rfl ?_
  apply xr_getf a_Asker_requestCode_9
  · (repeat' (first | assumption | exact va_up_self _ _ _ | refine x_lk (by omega) ?_))
  · rfl
  apply xr_getf a_Asker_requestCode_12
  · (repeat' (first | assumption | exact va_up_self _ _ _ | refine x_lk (by omega) ?_))
  · rfl
  refine xr_aload_n a_Asker_requestCode_15 rfl ?_
  apply xr_getf a_Asker_requestCode_16
  · (repeat' (first | assumption | exact va_up_self _ _ _ | refine x_lk (by omega) ?_))
  · rfl
  apply xo_iaload a_Asker_requestCode_19
  · (repeat' (first | assumption | exact va_up_self _ _ _ | refine x_lk (by omega) ?_))
  · omega
  · omega
  rw [hp, show oI (some p) = nI p from rfl]
  refine xr_istore_n a_Asker_requestCode_20 (by decide) rfl ?_
  refine xr_iload_n a_Asker_requestCode_21 rfl ?_
  refine xr_iconst a_Asker_requestCode_22 (v := nI 1) (by decide +kernel) ?_
  refine xr_iand a_Asker_requestCode_23 ?_; rw [bp_and p hp4 1 (by decide), p_and1 p hp4]
  refine xn_if_eq a_Asker_requestCode_24 (by omega) (fun b24 => ?_) (fun b24 => ?_)
  · refine xr_iconst a_Asker_requestCode_47 (v := nI 0) (by decide +kernel) ?_
    refine xr_ls [(0, .ref a), (1, .ref (dj + 1)), (2, .int (nI p))] ⟨rfl, rfl, rfl, trivial⟩ ?_
    exact mid 0 (by rw [if_neg (by omega)])
  · obtain ⟨k, hk⟩ := h1 (by omega)
    refine xr_aload_n a_Asker_requestCode_27 rfl ?_
    apply xr_getf a_Asker_requestCode_28
    · (repeat' (first | assumption | exact va_up_self _ _ _ | refine x_lk (by omega) ?_))
    · rfl
    apply xr_getf a_Asker_requestCode_31
    · (repeat' (first | assumption | exact va_up_self _ _ _ | refine x_lk (by omega) ?_))
    · rfl
    refine xr_aload_n a_Asker_requestCode_34 rfl ?_
    apply xr_getf a_Asker_requestCode_35
    · (repeat' (first | assumption | exact va_up_self _ _ _ | refine x_lk (by omega) ?_))
    · rfl
    refine xr_aload_n a_Asker_requestCode_38 rfl ?_
    apply xr_getf a_Asker_requestCode_39
    · (repeat' (first | assumption | exact va_up_self _ _ _ | refine x_lk (by omega) ?_))
    · rfl
    apply xn_iaload a_Asker_requestCode_42
    · (repeat' (first | assumption | exact va_up_self _ _ _ | refine x_lk (by omega) ?_))
    · omega
    · omega
    apply xo_iaload a_Asker_requestCode_43
    · (repeat' (first | assumption | exact va_up_self _ _ _ | refine x_lk (by omega) ?_))
    · omega
    · omega
    rw [hk, show oI (some k) = nI k from rfl]
    refine xr_goto a_Asker_requestCode_44 ?_
    refine xr_ls [(0, .ref a), (1, .ref (dj + 1)), (2, .int (nI p))] ⟨rfl, rfl, rfl, trivial⟩ ?_
    exact mid k (by rw [if_pos (by omega)]; unfold vW; rw [hk]; rfl)
theorem t_Asker_arriveM {p : Nat} (pa : isAk h a rc rq tr R Mf Mm w lu vr (.ref dj) g fr) (pd : isDj h dj m H F S pt dr bl) (hg : g < m) (hm : m ≤ 6) (hB : vBd m H F S) (hp : pt g = some p) (hp4 : p < 4) (h1 : p % 2 = 1 → ∃ k, w (F g) = some k) (h2 : p / 2 % 2 = 1 → ∃ k, w (S g) = some k) (hc : vCode (H g, F g, S g) p (vW w) < 4096) (hfr : fr < 10000) (hd : 1 ≤ d) : XM d 0 0 k_Asker_arrive L xs [.ref a] n h (qV n (fun h' => xfr a (a + 9) h h' ∧ isAk h' a rc rq tr R Mf (va_up Mm (vCode (H g, F g, S g) p (vW w)) true) w lu vr (.ref dj) g (fr + vB (Mm (vCode (H g, F g, S g) p (vW w)) = false)))) := by
  have cR := t_Asker_requestCode (d := 0) (L := L) (xs := xs) (n := n) pa pd hg hm hB hp hp4 h1 h2
  generalize vCode (H g, F g, S g) p (vW w) = c at hc cR ⊢
  have pa' := pa
  obtain ⟨k0, k1, k2, k3, k4, k6⟩ := pa
  obtain ⟨d0, ⟨a0, a1, a2, a3⟩, d2⟩ := pd
  refine XM.of rfl (Nat.le_of_ble_eq_true rfl) ?_
  refine xr_aload_n a_Asker_arrive_0 rfl ?_
  apply xr_getf a_Asker_arrive_1
  · (repeat' (first | assumption | exact va_up_self _ _ _ | refine x_lk (by omega) ?_))
  · rfl
  refine xr_aload_n a_Asker_arrive_4 rfl ?_
  apply xr_getf a_Asker_arrive_5
  · (repeat' (first | assumption | exact va_up_self _ _ _ | refine x_lk (by omega) ?_))
  · rfl
  apply xr_getf a_Asker_arrive_8
  · (repeat' (first | assumption | exact va_up_self _ _ _ | refine x_lk (by omega) ?_))
  · rfl
  apply xr_getf a_Asker_arrive_11
  · (repeat' (first | assumption | exact va_up_self _ _ _ | refine x_lk (by omega) ?_))
  · rfl
  refine xn_icmp_lt a_Asker_arrive_14 (by omega) (by omega) (fun b14 => ?_) (fun b14 => ?_)
  · refine xr_aload_n a_Asker_arrive_52 rfl ?_
    apply xr_getf a_Asker_arrive_53
    · (repeat' (first | assumption | exact va_up_self _ _ _ | refine x_lk (by omega) ?_))
    · rfl
    refine xr_aload_n a_Asker_arrive_56 rfl ?_
    refine xr_invV a_Asker_arrive_57 (by (repeat' (first | assumption | exact va_up_self _ _ _ | refine x_lk (by omega) ?_))) (cR) rfl rfl (by omega) (by omega) (by omega) (Nat.le_of_ble_eq_true rfl) ?_
    rintro _ _ h1 ⟨rfl, rfl, rfl⟩
    refine xr_invV a_Asker_arrive_60 (by exact k3.1) (t_Marks_add (d := 0) k3 (by omega) (k := c) (by omega)) rfl rfl (by omega) (by omega) (by omega) (Nat.le_of_ble_eq_true rfl) ?_
    rintro _ _ h1 ⟨rfl, rfl, f1, q1⟩
    have k0' := f1.get (by omega) k0
    have z : isAk h1 a rc rq tr R Mf (va_up Mm c true) w lu vr (.ref dj) g fr := ⟨k0', f1.get (by omega) k1, k2.sm (f1.sm (by omega)), q1, k4.sm (f1.sm (by omega)), f1.get (by omega) k6⟩
    refine xn_if_eq a_Asker_arrive_63 (vB_lt31 _) (fun b63 => ?_) (fun b63 => ?_)
    · refine xr_return a_Asker_arrive_76 rfl (by omega) (by omega) ?_
      refine ⟨rfl, rfl, f1.mo (by omega) (by omega), ?_⟩
      rw [b63]
      exact z
    · refine xr_aload_n a_Asker_arrive_66 rfl ?_
      refine xr_dup a_Asker_arrive_67 rfl ?_
      apply xr_getf a_Asker_arrive_68
      · (repeat' (first | assumption | exact va_up_self _ _ _ | refine x_lk (by omega) ?_))
      · rfl
      refine xr_iconst a_Asker_arrive_71 (v := nI 1) (by decide +kernel) ?_
      first | refine xn_iadd a_Asker_arrive_72 ?_ | refine xr_iadd a_Asker_arrive_72 ?_
      apply xa_fr a_Asker_arrive_73
      · (repeat' (first | assumption | exact va_up_self _ _ _ | refine x_lk (by omega) ?_))
      refine xr_return a_Asker_arrive_76 rfl (by omega) (by omega) ?_
      refine ⟨rfl, rfl, (f1.mo (by omega) (by omega)).up (by omega) (by omega), ?_⟩
      have : vB (Mm c = false) = 1 := vB_t (vB_1 b63)
      rw [this]
      exact z.obj
  · omega
theorem t_Asker_arriveF {x y : Nat} (pa : isAk h a rc rq tr R Mf Mm w lu vr (.ref dj) m fr) (pd : isDj h dj m H F S pt dr bl) (hm : m ≤ 6) (hx : w 16 = some x) (hy : w 17 = some y) (hx2 : x < 16) (hy2 : y < 16) : XM d 0 0 k_Asker_arrive L xs [.ref a] n h (qV n (fun h' => xfr a (a + 9) h h' ∧ isAk h' a rc rq tr R (va_up Mf (x * 16 + y) true) Mm w lu vr (.ref dj) m fr)) ∨ d = 0 := by
  by_cases hd : d = 0
  · exact Or.inr hd
  left
  have pa' := pa
  obtain ⟨k0, k1, k2, k3, ⟨k4, k5⟩, k6⟩ := pa
  obtain ⟨d0, ⟨a0, a1, a2, a3⟩, d2⟩ := pd
  refine XM.of rfl (Nat.le_of_ble_eq_true rfl) ?_
  refine xr_aload_n a_Asker_arrive_0 rfl ?_
  apply xr_getf a_Asker_arrive_1
  · (repeat' (first | assumption | exact va_up_self _ _ _ | refine x_lk (by omega) ?_))
  · rfl
  refine xr_aload_n a_Asker_arrive_4 rfl ?_
  apply xr_getf a_Asker_arrive_5
  · (repeat' (first | assumption | exact va_up_self _ _ _ | refine x_lk (by omega) ?_))
  · rfl
  apply xr_getf a_Asker_arrive_8
  · (repeat' (first | assumption | exact va_up_self _ _ _ | refine x_lk (by omega) ?_))
  · rfl
  apply xr_getf a_Asker_arrive_11
  · (repeat' (first | assumption | exact va_up_self _ _ _ | refine x_lk (by omega) ?_))
  · rfl
  refine xn_icmp_lt a_Asker_arrive_14 (by omega) (by omega) (fun b14 => ?_) (fun b14 => ?_)
  · omega
  · refine xr_aload_n a_Asker_arrive_17 rfl ?_
    apply xr_getf a_Asker_arrive_18
    · (repeat' (first | assumption | exact va_up_self _ _ _ | refine x_lk (by omega) ?_))
    · rfl
    refine xr_aload_n a_Asker_arrive_21 rfl ?_
    apply xr_getf a_Asker_arrive_22
    · (repeat' (first | assumption | exact va_up_self _ _ _ | refine x_lk (by omega) ?_))
    · rfl
    apply xr_getf a_Asker_arrive_25
    · (repeat' (first | assumption | exact va_up_self _ _ _ | refine x_lk (by omega) ?_))
    · rfl
    refine xr_bipush a_Asker_arrive_28 (v := nI 16) (by decide +kernel) ?_
    apply xo_iaload a_Asker_arrive_30
    · (repeat' (first | assumption | exact va_up_self _ _ _ | refine x_lk (by omega) ?_))
    · omega
    · omega
    rw [hx, show oI (some x) = nI x from rfl]
    refine xr_bipush a_Asker_arrive_31 (v := nI 16) (by decide +kernel) ?_
    first | refine xn_imul a_Asker_arrive_33 ?_ | refine xr_imul a_Asker_arrive_33 ?_
    refine xr_aload_n a_Asker_arrive_34 rfl ?_
    apply xr_getf a_Asker_arrive_35
    · (repeat' (first | assumption | exact va_up_self _ _ _ | refine x_lk (by omega) ?_))
    · rfl
    apply xr_getf a_Asker_arrive_38
    · (repeat' (first | assumption | exact va_up_self _ _ _ | refine x_lk (by omega) ?_))
    · rfl
    refine xr_bipush a_Asker_arrive_41 (v := nI 17) (by decide +kernel) ?_
    apply xo_iaload a_Asker_arrive_43
    · (repeat' (first | assumption | exact va_up_self _ _ _ | refine x_lk (by omega) ?_))
    · omega
    · omega
    rw [hy, show oI (some y) = nI y from rfl]
    first | refine xn_iadd a_Asker_arrive_44 ?_ | refine xr_iadd a_Asker_arrive_44 ?_
    refine xr_invV a_Asker_arrive_45 (by exact k2.1) (t_Marks_add (d := 0) k2 (by omega) (k := x * 16 + y) (by omega)) rfl rfl (by omega) (by omega) (by omega) (Nat.le_of_ble_eq_true rfl) ?_
    rintro _ _ h1 ⟨rfl, rfl, f1, q1⟩
    refine xr_pop a_Asker_arrive_48 rfl ?_
    refine xr_goto a_Asker_arrive_49 ?_
    refine xr_return a_Asker_arrive_76 rfl (by omega) (by omega) ?_
    exact ⟨rfl, rfl, f1.mo (by omega) (by omega), f1.get (by omega) k0, f1.get (by omega) k1, q1, k3.sm (f1.sm (by omega)), isIm.sm ⟨k4, k5⟩ (f1.sm (by omega)), f1.get (by omega) k6⟩
end T33

