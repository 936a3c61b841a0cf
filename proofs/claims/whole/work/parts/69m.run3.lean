/-! the reference: run, the order -/
section T69m
variable {d L : Nat} {xs : Nat → Int32} {n : Nat} {h : xH} {m : Nat} {as cnt ne rq tr : Nat} {sz lR lA lB pa : Nat → Nat} {pk md : Nat → Option Nat} {al : Nat → Nat} {Ls : Nat → List vA} {Q : xQ}
theorem rn_E (hd : 3 ≤ d) (p0 : h m = cM m as cnt 0 ne rq tr) (c0 : h (m + 4) = cI 4 pa) (p : moL h m sz lR lA lB pk) (pm : h (m + 18) = cO 48 md) (hc : cnt ≤ 8) (hL : ∀ i, i < cnt → moD (Ls i) i sz lR lA lB ∧ (Ls i).length ≤ 6 ∧ vBdL (Ls i)) (hal : ∀ r, r < 4 → pa r = al r ∧ al r < 16)
    (fin : ∀ (h' : xH) (lR' lA' lB' : Nat → Nat) (md' : Nat → Option Nat), xfr2 m (m + 1) (m + 14) (m + 19) h h' → h' m = cM m as cnt (vB (∃ j, j < cnt ∧ (vOrd al (Ls j).length 0 (Ls j) (fun _ => none)).2.2 = true)) ne rq tr → moL h' m sz lR' lA' lB' pk → h' (m + 18) = cO 48 md' → (∀ j, j < cnt → moD (vOrd al (Ls j).length 0 (Ls j) (fun _ => none)).1 j sz lR' lA' lB' ∧ ∀ k, k < (Ls j).length → md' (6 * j + k) = (vOrd al (Ls j).length 0 (Ls j) (fun _ => none)).2.1 k) → XW (x_rm d 0 0) k_Mod_run L xs (x_mq 0 0 Q) 0 0 139 [(0, .ref m)] [] n h') :
    ∀ (q dd : Nat) (h' : xH) (lR' lA' lB' : Nat → Nat) (md' : Nat → Option Nat), dd + q = cnt → xfr2 m (m + 1) (m + 14) (m + 19) h h' → h' m = cM m as cnt (vB (∃ j, j < dd ∧ (vOrd al (Ls j).length 0 (Ls j) (fun _ => none)).2.2 = true)) ne rq tr → moL h' m sz lR' lA' lB' pk → h' (m + 18) = cO 48 md' → (∀ j, j < dd → moD (vOrd al (Ls j).length 0 (Ls j) (fun _ => none)).1 j sz lR' lA' lB' ∧ ∀ k, k < (Ls j).length → md' (6 * j + k) = (vOrd al (Ls j).length 0 (Ls j) (fun _ => none)).2.1 k) → (∀ j, dd ≤ j → j < cnt → moD (Ls j) j sz lR' lA' lB') → XW (x_rm d 0 0) k_Mod_run L xs (x_mq 0 0 Q) 0 0 120 [(0, .ref m), (1, .int (nI dd))] [] n h' := by
  intro q
  induction q with
  | zero =>
    intro dd h' lR' lA' lB' md' hdd f1 q0 z zm q1 q2
    have ed : dd = cnt := by omega
    rw [ed] at q0 q1
    refine xr_iload_n a_Mod_run_120 rfl ?_
    refine xr_aload_n a_Mod_run_121 rfl ?_
    apply xr_getf a_Mod_run_122
    · (repeat' (first | assumption | exact va_up_self _ _ _ | refine x_lk (by omega) ?_))
    · rfl
    refine xn_icmp_ge a_Mod_run_125 (by omega) (by omega) (fun b125 => ?_) (fun b125 => ?_)
    · refine xr_ls [(0, .ref m)] ⟨rfl, trivial⟩ ?_
      exact fin h' lR' lA' lB' md' f1 q0 z zm q1
    · omega
  | succ q ih =>
    intro dd h' lR' lA' lB' md' hdd f1 q0 z zm q1 q2
    have hdc : dd < cnt := by omega
    obtain ⟨-, g1, g2⟩ := hL dd hdc
    have cO := t_Mod_order (d := 2) (L := L) (xs := xs) (n := n) (al := al) q0 (vB_lt _) ((f1 (m + 4) (by omega) (by omega)).trans c0) z zm (q2 dd (Nat.le_refl _) hdc) (by omega) g1 g2 hal (by omega)
    refine xr_iload_n a_Mod_run_120 rfl ?_
    refine xr_aload_n a_Mod_run_121 rfl ?_
    apply xr_getf a_Mod_run_122
    · (repeat' (first | assumption | exact va_up_self _ _ _ | refine x_lk (by omega) ?_))
    · rfl
    refine xn_icmp_ge a_Mod_run_125 (by omega) (by omega) (fun b125 => ?_) (fun b125 => ?_)
    · omega
    · refine xr_aload_n a_Mod_run_128 rfl ?_
      refine xr_iload_n a_Mod_run_129 rfl ?_
      refine xr_invV a_Mod_run_130 (by (repeat' (first | assumption | exact va_up_self _ _ _ | refine x_lk (by omega) ?_))) (cO) rfl rfl (by omega) (by omega) (by omega) (Nat.le_of_ble_eq_true rfl) ?_
      rintro _ _ h2 ⟨rfl, rfl, f2, u0, lR2, lA2, lB2, md2, u1, u2, u3, u4, u5⟩
      first | refine xn_iinc a_Mod_run_133 rfl (by decide) rfl ?_ | refine xr_iinc a_Mod_run_133 rfl rfl (by decide) rfl ?_
      refine xr_goto a_Mod_run_136 ?_
      refine xr_ls [(0, .ref m), (1, .int (nI (dd + 1)))] ⟨rfl, rfl, trivial⟩ ?_
      refine ih (dd + 1) h2 lR2 lA2 lB2 md2 (by omega) (f1.tr f2) ?_ u1 u2 (fun j hj => ?_) (fun j h1 h2 => ?_)
      · rw [u0]
        refine congrArg (fun x => cM m as cnt x ne rq tr) (vB_c ⟨?_, ?_⟩)
        · rintro (w | w)
          · obtain ⟨j, j1, j2⟩ := vB_1 w
            exact ⟨j, by omega, j2⟩
          · exact ⟨dd, by omega, w⟩
        · rintro ⟨j, j1, j2⟩
          by_cases e : j = dd
          · subst e; exact Or.inr j2
          · exact Or.inl (by rw [vB_t ⟨j, by omega, j2⟩]; decide)
      · by_cases e : j = dd
        · subst e
          exact ⟨u3, u4⟩
        · obtain ⟨w1, w2⟩ := q1 j (by omega)
          have j6 := (hL j (by omega)).2.1
          have lo := (vOrd_mem (al := al) (a := (0, 0, 0)) (Ls j).length 0 (Ls j) (fun _ => none) (by omega)).2
          refine ⟨w1.c rfl (fun x hx => ?_), fun x hx => ?_⟩
          · have := u5 (6 * j + x) (by omega)
            exact ⟨this.1, this.2.1, this.2.2.1⟩
          · rw [(u5 (6 * j + x) (by omega)).2.2.2]
            exact w2 x hx
      · have j6 := (hL j h2).2.1
        refine (q2 j (by omega) h2).c rfl (fun x hx => ?_)
        have := u5 (6 * j + x) (by omega)
        exact ⟨this.1, this.2.1, this.2.2.1⟩
theorem rn_D {f0 : Nat → Nat} {st : Nat} (p0 : h m = cM m as cnt st ne rq tr) (pf : h (m + 24) = cB 256 f0)
    (fin : ∀ (h' : xH) (f : Nat → Nat), xfr2 m (m + 1) (m + 24) (m + 25) h h' → h' m = cM m as cnt 0 ne 0 0 → h' (m + 24) = cB 256 f → (∀ k, k < 256 → f k = 0) → XW (x_rm d 0 0) k_Mod_run L xs (x_mq 0 0 Q) 0 0 120 [(0, .ref m), (1, .int (nI 0))] [] n h') :
    XW (x_rm d 0 0) k_Mod_run L xs (x_mq 0 0 Q) 0 0 81 [(0, .ref m)] [] n h := by
  have clear : ∀ (q i : Nat) (h' : xH) (f : Nat → Nat), i + q = 256 → xfr2 m (m + 1) (m + 24) (m + 25) h h' → h' m = cM m as cnt 0 ne 0 0 → h' (m + 24) = cB 256 f → (∀ k, k < i → f k = 0) → XW (x_rm d 0 0) k_Mod_run L xs (x_mq 0 0 Q) 0 0 98 [(0, .ref m), (1, .int (nI i))] [] n h' := by
    intro q
    induction q with
    | zero =>
      intro i h' f hi f1 q0 g1 g2
      refine xr_iload_n a_Mod_run_98 rfl ?_
      refine xr_sipush a_Mod_run_99 (v := nI 256) (by decide +kernel) ?_
      refine xn_icmp_ge a_Mod_run_102 (by omega) (by omega) (fun b102 => ?_) (fun b102 => ?_)
      · refine xr_iconst a_Mod_run_118 (v := nI 0) (by decide +kernel) ?_
        refine xr_istore_n a_Mod_run_119 (by decide) rfl ?_
        refine xr_ls [(0, .ref m), (1, .int (nI 0))] ⟨rfl, rfl, trivial⟩ ?_
        exact fin h' f f1 q0 g1 (fun k hk => g2 k (by omega))
      · omega
    | succ q ih =>
      intro i h' f hi f1 q0 g1 g2
      refine xr_iload_n a_Mod_run_98 rfl ?_
      refine xr_sipush a_Mod_run_99 (v := nI 256) (by decide +kernel) ?_
      refine xn_icmp_ge a_Mod_run_102 (by omega) (by omega) (fun b102 => ?_) (fun b102 => ?_)
      · omega
      · refine xr_aload_n a_Mod_run_105 rfl ?_
        apply xr_getf a_Mod_run_106
        · (repeat' (first | assumption | exact va_up_self _ _ _ | refine x_lk (by omega) ?_))
        · rfl
        refine xr_iload_n a_Mod_run_109 rfl ?_
        refine xr_iconst a_Mod_run_110 (v := nI 0) (by decide +kernel) ?_
        apply xn_bastore a_Mod_run_111
        · (repeat' (first | assumption | exact va_up_self _ _ _ | refine x_lk (by omega) ?_))
        · omega
        · omega
        · omega
        first | refine xn_iinc a_Mod_run_112 rfl (by decide) rfl ?_ | refine xr_iinc a_Mod_run_112 rfl rfl (by decide) rfl ?_
        refine xr_goto a_Mod_run_115 ?_
        refine xr_ls [(0, .ref m), (1, .int (nI (i + 1)))] ⟨rfl, rfl, trivial⟩ ?_
        refine ih (i + 1) _ _ (by omega) (f1.up (by omega)) (x_lk (by omega) q0) (up_self _ _ _) (fun k hk => ?_)
        by_cases ek : k = i
        · rw [ek, up_self]
        · rw [up_ne ek]; exact g2 k (by omega)
  refine xr_aload_n a_Mod_run_81 rfl ?_
  refine xr_iconst a_Mod_run_82 (v := nI 0) (by decide +kernel) ?_
  apply xm_req a_Mod_run_83
  · (repeat' (first | assumption | exact va_up_self _ _ _ | refine x_lk (by omega) ?_))
  refine xr_aload_n a_Mod_run_86 rfl ?_
  refine xr_iconst a_Mod_run_87 (v := nI 0) (by decide +kernel) ?_
  apply xm_tri a_Mod_run_88
  · (repeat' (first | assumption | exact va_up_self _ _ _ | refine x_lk (by omega) ?_))
  refine xr_aload_n a_Mod_run_91 rfl ?_
  refine xr_iconst a_Mod_run_92 (v := nI 0) (by decide +kernel) ?_
  apply xm_stuck a_Mod_run_93
  · (repeat' (first | assumption | exact va_up_self _ _ _ | refine x_lk (by omega) ?_))
  · omega
  refine xr_iconst a_Mod_run_96 (v := nI 0) (by decide +kernel) ?_
  refine xr_istore_n a_Mod_run_97 (by decide) rfl ?_
  refine xr_ls [(0, .ref m), (1, .int (nI 0))] ⟨rfl, rfl, trivial⟩ ?_
  refine clear 256 0 _ f0 (by omega) ?_ (by (repeat' (first | assumption | exact va_up_self _ _ _ | refine x_lk (by omega) ?_))) (by (repeat' (first | assumption | exact va_up_self _ _ _ | refine x_lk (by omega) ?_))) (fun k hk => absurd hk (Nat.not_lt_zero k))
  repeat' (first | exact xfr2.rf | refine xfr2.up ?_ (by omega))
end T69m

