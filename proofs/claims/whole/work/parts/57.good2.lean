/-! the reference: good -/
section T57
variable {d L : Nat} {xs : Nat → Int32} {n : Nat} {h : xH} {m : Nat} {ρ : Nat → vRel} {ν : Nat → vVw} {κ : vAL} {cnt : Nat} {D : Nat → vPd} {fo : Nat → Bool} {rq tr : Nat}
def vOv (ν : Nat → vVw) (v : Nat) : Prop := 0 < (ν v).1 ∧ ∀ x, x < (ν v).1 → vSf ((ν v).2 x).1 ((ν v).2 x).2.2.1 ((ν v).2 x).2.2.2
def vGk (ν : Nat → vVw) (κ : vAL) (t : Nat) : Prop := 0 < κ.1 ∧ ∀ j, j < t → vOv ν (κ.2.1 j)
theorem t_Mod_good (p : isMo h m ρ ν κ cnt D fo rq tr) (hV : vSV ν) (hQ : vSQ κ) (hd : 1 ≤ d) : XM d 0 0 k_Mod_good L xs [.ref m] n h (qR n h (nI (vB (vGood ν κ)))) := by
  have p' := p
  obtain ⟨⟨st, ne, p0⟩, -, ⟨ru, na, aR, aA, aB, c1, c2, c3, c4, c5, c6⟩, ⟨qV, qA, qB, s1, s2, s3, s4⟩, -, -, -⟩ := p'
  have hk3 := hQ.1
  refine XM.of rfl (Nat.le_of_ble_eq_true rfl) ?_
  have loop : ∀ q t, t + q = κ.1 → XW (x_rm d 0 0) k_Mod_good L xs (x_mq 0 0 (qR n h (nI (vB (vGood ν κ))))) 0 0 20 [(0, .ref m), (1, .int (nI (vB (vE t κ.2.2.1 κ.2.2.2 16)))), (2, .int (nI (vB (vE t κ.2.2.1 κ.2.2.2 17)))), (3, .int (nI (vB (vGk ν κ t)))), (4, .int (nI t))] [] n h := by
    intro q
    induction q with
    | zero =>
      intro t ht
      have e : t = κ.1 := by omega
      subst e
      have no : ¬ vGood ν κ → XW (x_rm d 0 0) k_Mod_good L xs (x_mq 0 0 (qR n h (nI (vB (vGood ν κ))))) 0 0 193 [] [] n h := by
        intro z
        rw [vB_f z]
        refine xr_iconst a_Mod_good_193 (v := nI 0) (by decide +kernel) ?_
        refine xr_ireturn a_Mod_good_194 rfl rfl (by omega) (by omega) ?_
        exact ⟨rfl, rfl, rfl⟩
      refine xr_iload a_Mod_good_20 rfl ?_
      refine xr_aload_n a_Mod_good_22 rfl ?_
      apply xr_getf a_Mod_good_23
      · (repeat' (first | assumption | exact va_up_self _ _ _ | refine x_lk (by omega) ?_))
      · rfl
      refine xn_icmp_ge a_Mod_good_26 (by omega) (by omega) (fun b26 => ?_) (fun b26 => ?_)
      · refine xr_iload_n a_Mod_good_177 rfl ?_
        refine xn_if_eq a_Mod_good_178 (vB_lt31 _) (fun b178 => xr_ls [] trivial (no (fun z => vB_0 b178 ⟨by obtain ⟨⟨i, hi, _⟩, _⟩ := z.1; omega, z.2⟩))) (fun b178 => ?_)
        refine xr_iload_n a_Mod_good_181 rfl ?_
        refine xn_if_eq a_Mod_good_182 (vB_lt31 _) (fun b182 => xr_ls [] trivial (no (fun z => vB_0 b182 z.1.1))) (fun b182 => ?_)
        refine xr_iload_n a_Mod_good_185 rfl ?_
        refine xn_if_eq a_Mod_good_186 (vB_lt31 _) (fun b186 => xr_ls [] trivial (no (fun z => vB_0 b186 z.1.2))) (fun b186 => ?_)
        rw [vB_t (show vGood ν κ from ⟨⟨vB_1 b182, vB_1 b186⟩, (vB_1 b178).2⟩)]
        refine xr_iconst a_Mod_good_189 (v := nI 1) (by decide +kernel) ?_
        refine xr_goto a_Mod_good_190 ?_
        refine xr_ireturn a_Mod_good_194 rfl rfl (by omega) (by omega) ?_
        exact ⟨rfl, rfl, rfl⟩
      · omega
    | succ q ih =>
      intro t ht
      obtain ⟨z1, z2, z3⟩ := s4 t (by omega)
      obtain ⟨bV, bA, bB⟩ := hQ.2 t (by omega)
      obtain ⟨v, hv⟩ : ∃ v, v = κ.2.1 t := ⟨_, rfl⟩
      rw [← hv] at z1 bV
      obtain ⟨w1, w2⟩ := c6 v bV
      have hn2 := (hV.1 v bV).1
      have inner : ∀ r y, y + r = (ν v).1 → XW (x_rm d 0 0) k_Mod_good L xs (x_mq 0 0 (qR n h (nI (vB (vGood ν κ))))) 0 0 129 [(0, .ref m), (1, .int (nI (vB (vE (t + 1) κ.2.2.1 κ.2.2.2 16)))), (2, .int (nI (vB (vE (t + 1) κ.2.2.1 κ.2.2.2 17)))), (3, .int (nI (vB (vGk ν κ t ∧ 0 < (ν v).1 ∧ ∀ x, x < y → vSf ((ν v).2 x).1 ((ν v).2 x).2.2.1 ((ν v).2 x).2.2.2)))), (4, .int (nI t)), (5, .int (nI v)), (6, .int (nI y))] [] n h := by
        intro r
        induction r with
        | zero =>
          intro y hy
          refine xr_iload a_Mod_good_129 rfl ?_
          refine xr_aload_n a_Mod_good_131 rfl ?_
          apply xr_getf a_Mod_good_132
          · (repeat' (first | assumption | exact va_up_self _ _ _ | refine x_lk (by omega) ?_))
          · rfl
          refine xr_iload a_Mod_good_135 rfl ?_
          apply xn_iaload a_Mod_good_137
          · (repeat' (first | assumption | exact va_up_self _ _ _ | refine x_lk (by omega) ?_))
          · omega
          · omega
          refine xn_icmp_ge a_Mod_good_138 (by omega) (by omega) (fun b138 => ?_) (fun b138 => ?_)
          · first | refine xn_iinc a_Mod_good_171 rfl (by decide) rfl ?_ | refine xr_iinc a_Mod_good_171 rfl rfl (by decide) rfl ?_
            refine xr_goto a_Mod_good_174 ?_
            refine xr_ls [(0, .ref m), (1, .int (nI (vB (vE (t + 1) κ.2.2.1 κ.2.2.2 16)))), (2, .int (nI (vB (vE (t + 1) κ.2.2.1 κ.2.2.2 17)))), (3, .int (nI (vB (vGk ν κ t ∧ 0 < (ν v).1 ∧ ∀ x, x < y → vSf ((ν v).2 x).1 ((ν v).2 x).2.2.1 ((ν v).2 x).2.2.2)))), (4, .int (nI (t + 1)))] ⟨rfl, rfl, rfl, rfl, rfl, trivial⟩ ?_
            have := ih (t + 1) (by omega)
            have eG : vB (vGk ν κ (t + 1)) = vB (vGk ν κ t ∧ 0 < (ν v).1 ∧ ∀ x, x < y → vSf ((ν v).2 x).1 ((ν v).2 x).2.2.1 ((ν v).2 x).2.2.2) := by
              refine vB_c ⟨fun g => ⟨⟨g.1, fun j hj => g.2 j (by omega)⟩, ?_⟩, fun g => ⟨g.1.1, fun j hj => ?_⟩⟩
              · have := g.2 t (by omega)
                rw [← hv] at this
                exact ⟨this.1, fun x hx => this.2 x (by omega)⟩
              · by_cases e : j = t
                · rw [e, ← hv]
                  exact ⟨g.2.1, fun x hx => g.2.2 x (by omega)⟩
                · exact g.1.2 j (by omega)
            rw [eG] at this
            exact this
          · omega
        | succ r ihr =>
          intro y hy
          have cS := t_Mod_safeRule (d := 0) (L := L) (xs := xs) (n := n) (v := v) (i := y) p bV (by omega) ((hV.1 v bV).2 y (by omega)).1 (fun j hj => by
            have := ((hV.1 v bV).2 y (by omega)).2 _ ((vLs_rep ((ν v).2 y)).mem.mpr ⟨j, hj, rfl⟩)
            exact ⟨Nat.lt_trans this.1 (by decide), Nat.lt_trans this.2 (by decide)⟩)
          have m164 : ∀ x, x = vB (vGk ν κ t ∧ 0 < (ν v).1 ∧ ∀ x, x < y + 1 → vSf ((ν v).2 x).1 ((ν v).2 x).2.2.1 ((ν v).2 x).2.2.2) → XW (x_rm d 0 0) k_Mod_good L xs (x_mq 0 0 (qR n h (nI (vB (vGood ν κ))))) 0 0 164 [(0, .ref m), (1, .int (nI (vB (vE (t + 1) κ.2.2.1 κ.2.2.2 16)))), (2, .int (nI (vB (vE (t + 1) κ.2.2.1 κ.2.2.2 17)))), (4, .int (nI t)), (5, .int (nI v)), (6, .int (nI y))] [.int (nI x)] n h := by
            intro x hx
            subst hx
            refine xr_istore_n a_Mod_good_164 (by decide) rfl ?_
            first | refine xn_iinc a_Mod_good_165 rfl (by decide) rfl ?_ | refine xr_iinc a_Mod_good_165 rfl rfl (by decide) rfl ?_
            refine xr_goto a_Mod_good_168 ?_
            refine xr_ls [(0, .ref m), (1, .int (nI (vB (vE (t + 1) κ.2.2.1 κ.2.2.2 16)))), (2, .int (nI (vB (vE (t + 1) κ.2.2.1 κ.2.2.2 17)))), (3, .int (nI (vB (vGk ν κ t ∧ 0 < (ν v).1 ∧ ∀ x, x < y + 1 → vSf ((ν v).2 x).1 ((ν v).2 x).2.2.1 ((ν v).2 x).2.2.2)))), (4, .int (nI t)), (5, .int (nI v)), (6, .int (nI (y + 1)))] ⟨rfl, rfl, rfl, rfl, rfl, rfl, rfl, trivial⟩ ?_
            exact ihr (y + 1) (by omega)
          have m163 : ¬ (vGk ν κ t ∧ 0 < (ν v).1 ∧ ∀ x, x < y + 1 → vSf ((ν v).2 x).1 ((ν v).2 x).2.2.1 ((ν v).2 x).2.2.2) → XW (x_rm d 0 0) k_Mod_good L xs (x_mq 0 0 (qR n h (nI (vB (vGood ν κ))))) 0 0 163 [(0, .ref m), (1, .int (nI (vB (vE (t + 1) κ.2.2.1 κ.2.2.2 16)))), (2, .int (nI (vB (vE (t + 1) κ.2.2.1 κ.2.2.2 17)))), (4, .int (nI t)), (5, .int (nI v)), (6, .int (nI y))] [] n h := by
            intro z
            refine xr_iconst a_Mod_good_163 (v := nI 0) (by decide +kernel) ?_
            exact m164 0 (by rw [vB_f z])
          refine xr_iload a_Mod_good_129 rfl ?_
          refine xr_aload_n a_Mod_good_131 rfl ?_
          apply xr_getf a_Mod_good_132
          · (repeat' (first | assumption | exact va_up_self _ _ _ | refine x_lk (by omega) ?_))
          · rfl
          refine xr_iload a_Mod_good_135 rfl ?_
          apply xn_iaload a_Mod_good_137
          · (repeat' (first | assumption | exact va_up_self _ _ _ | refine x_lk (by omega) ?_))
          · omega
          · omega
          refine xn_icmp_ge a_Mod_good_138 (by omega) (by omega) (fun b138 => ?_) (fun b138 => ?_)
          · omega
          · refine xr_iload_n a_Mod_good_141 rfl ?_
            refine xn_if_eq a_Mod_good_142 (vB_lt31 _) (fun b142 => ?_) (fun b142 => ?_)
            · refine xr_ls [(0, .ref m), (1, .int (nI (vB (vE (t + 1) κ.2.2.1 κ.2.2.2 16)))), (2, .int (nI (vB (vE (t + 1) κ.2.2.1 κ.2.2.2 17)))), (4, .int (nI t)), (5, .int (nI v)), (6, .int (nI y))] ⟨rfl, rfl, rfl, rfl, rfl, rfl, trivial⟩ ?_
              exact m163 (fun z => vB_0 b142 ⟨z.1, z.2.1, fun x hx => z.2.2 x (by omega)⟩)
            · have g0 := vB_1 b142
              refine xr_aload_n a_Mod_good_145 rfl ?_
              refine xr_iconst a_Mod_good_146 (v := nI 2) (by decide +kernel) ?_
              refine xr_iload a_Mod_good_147 rfl ?_
              first | refine xn_imul a_Mod_good_149 ?_ | refine xr_imul a_Mod_good_149 ?_
              refine xr_iload a_Mod_good_150 rfl ?_
              first | refine xn_iadd a_Mod_good_152 ?_ | refine xr_iadd a_Mod_good_152 ?_
              refine xr_invV a_Mod_good_153 (by (repeat' (first | assumption | exact va_up_self _ _ _ | refine x_lk (by omega) ?_))) (cS) rfl rfl (by omega) (by omega) (by omega) (Nat.le_of_ble_eq_true rfl) ?_
              rintro _ _ h1 ⟨rfl, rfl, rfl⟩
              refine xn_if_eq a_Mod_good_156 (vB_lt31 _) (fun b156 => ?_) (fun b156 => ?_)
              · refine xr_ls [(0, .ref m), (1, .int (nI (vB (vE (t + 1) κ.2.2.1 κ.2.2.2 16)))), (2, .int (nI (vB (vE (t + 1) κ.2.2.1 κ.2.2.2 17)))), (4, .int (nI t)), (5, .int (nI v)), (6, .int (nI y))] ⟨rfl, rfl, rfl, rfl, rfl, rfl, trivial⟩ ?_
                exact m163 (fun z => vB_0 b156 (z.2.2 y (by omega)))
              · refine xr_iconst a_Mod_good_159 (v := nI 1) (by decide +kernel) ?_
                refine xr_goto a_Mod_good_160 ?_
                refine xr_ls [(0, .ref m), (1, .int (nI (vB (vE (t + 1) κ.2.2.1 κ.2.2.2 16)))), (2, .int (nI (vB (vE (t + 1) κ.2.2.1 κ.2.2.2 17)))), (4, .int (nI t)), (5, .int (nI v)), (6, .int (nI y))] ⟨rfl, rfl, rfl, rfl, rfl, rfl, trivial⟩ ?_
                refine m164 1 ?_
                have hz : ∀ x, x < y + 1 → vSf ((ν v).2 x).1 ((ν v).2 x).2.2.1 ((ν v).2 x).2.2.2 := by
                  intro x hx
                  by_cases e : x = y
                  · rw [e]; exact vB_1 b156
                  · exact g0.2.2 x (by omega)
                rw [vB_t ⟨g0.1, g0.2.1, hz⟩]
      have m125 : ∀ x, x = vB (vGk ν κ t ∧ 0 < (ν v).1 ∧ ∀ x, x < 0 → vSf ((ν v).2 x).1 ((ν v).2 x).2.2.1 ((ν v).2 x).2.2.2) → XW (x_rm d 0 0) k_Mod_good L xs (x_mq 0 0 (qR n h (nI (vB (vGood ν κ))))) 0 0 125 [(0, .ref m), (1, .int (nI (vB (vE (t + 1) κ.2.2.1 κ.2.2.2 16)))), (2, .int (nI (vB (vE (t + 1) κ.2.2.1 κ.2.2.2 17)))), (4, .int (nI t)), (5, .int (nI v))] [.int (nI x)] n h := by
        intro x hx
        subst hx
        refine xr_istore_n a_Mod_good_125 (by decide) rfl ?_
        refine xr_iconst a_Mod_good_126 (v := nI 0) (by decide +kernel) ?_
        refine xr_istore a_Mod_good_127 (by decide) rfl ?_
        refine xr_ls [(0, .ref m), (1, .int (nI (vB (vE (t + 1) κ.2.2.1 κ.2.2.2 16)))), (2, .int (nI (vB (vE (t + 1) κ.2.2.1 κ.2.2.2 17)))), (3, .int (nI (vB (vGk ν κ t ∧ 0 < (ν v).1 ∧ ∀ x, x < 0 → vSf ((ν v).2 x).1 ((ν v).2 x).2.2.1 ((ν v).2 x).2.2.2)))), (4, .int (nI t)), (5, .int (nI v)), (6, .int (nI 0))] ⟨rfl, rfl, rfl, rfl, rfl, rfl, rfl, trivial⟩ ?_
        exact inner (ν v).1 0 (by omega)
      have m97 : XW (x_rm d 0 0) k_Mod_good L xs (x_mq 0 0 (qR n h (nI (vB (vGood ν κ))))) 0 0 97 [(0, .ref m), (1, .int (nI (vB (vE (t + 1) κ.2.2.1 κ.2.2.2 16)))), (2, .int (nI (vB (vE (t + 1) κ.2.2.1 κ.2.2.2 17)))), (3, .int (nI (vB (vGk ν κ t)))), (4, .int (nI t))] [] n h := by
        refine xr_aload_n a_Mod_good_97 rfl ?_
        apply xr_getf a_Mod_good_98
        · (repeat' (first | assumption | exact va_up_self _ _ _ | refine x_lk (by omega) ?_))
        · rfl
        refine xr_iload a_Mod_good_101 rfl ?_
        apply xn_iaload a_Mod_good_103
        · (repeat' (first | assumption | exact va_up_self _ _ _ | refine x_lk (by omega) ?_))
        · omega
        · omega
        rw [z1]
        refine xr_istore a_Mod_good_104 (by decide) rfl ?_
        refine xr_iload_n a_Mod_good_106 rfl ?_
        refine xn_if_eq a_Mod_good_107 (vB_lt31 _) (fun b107 => ?_) (fun b107 => ?_)
        · refine xr_iconst a_Mod_good_124 (v := nI 0) (by decide +kernel) ?_
          refine xr_ls [(0, .ref m), (1, .int (nI (vB (vE (t + 1) κ.2.2.1 κ.2.2.2 16)))), (2, .int (nI (vB (vE (t + 1) κ.2.2.1 κ.2.2.2 17)))), (4, .int (nI t)), (5, .int (nI v))] ⟨rfl, rfl, rfl, rfl, rfl, trivial⟩ ?_
          exact m125 0 (by rw [vB_f (fun z => vB_0 b107 z.1)])
        · refine xr_aload_n a_Mod_good_110 rfl ?_
          apply xr_getf a_Mod_good_111
          · (repeat' (first | assumption | exact va_up_self _ _ _ | refine x_lk (by omega) ?_))
          · rfl
          refine xr_iload a_Mod_good_114 rfl ?_
          apply xn_iaload a_Mod_good_116
          · (repeat' (first | assumption | exact va_up_self _ _ _ | refine x_lk (by omega) ?_))
          · omega
          · omega
          refine xn_if_le a_Mod_good_117 (by omega) (fun b117 => ?_) (fun b117 => ?_)
          · refine xr_iconst a_Mod_good_124 (v := nI 0) (by decide +kernel) ?_
            refine xr_ls [(0, .ref m), (1, .int (nI (vB (vE (t + 1) κ.2.2.1 κ.2.2.2 16)))), (2, .int (nI (vB (vE (t + 1) κ.2.2.1 κ.2.2.2 17)))), (4, .int (nI t)), (5, .int (nI v))] ⟨rfl, rfl, rfl, rfl, rfl, trivial⟩ ?_
            exact m125 0 (by rw [vB_f (fun z => by have := z.2.1; omega)])
          · refine xr_iconst a_Mod_good_120 (v := nI 1) (by decide +kernel) ?_
            refine xr_goto a_Mod_good_121 ?_
            refine xr_ls [(0, .ref m), (1, .int (nI (vB (vE (t + 1) κ.2.2.1 κ.2.2.2 16)))), (2, .int (nI (vB (vE (t + 1) κ.2.2.1 κ.2.2.2 17)))), (4, .int (nI t)), (5, .int (nI v))] ⟨rfl, rfl, rfl, rfl, rfl, trivial⟩ ?_
            exact m125 1 (by rw [vB_t ⟨vB_1 b107, by omega, fun x hx => absurd hx (Nat.not_lt_zero x)⟩])
      have m96 : ∀ x, x = vB (vE (t + 1) κ.2.2.1 κ.2.2.2 17) → XW (x_rm d 0 0) k_Mod_good L xs (x_mq 0 0 (qR n h (nI (vB (vGood ν κ))))) 0 0 96 [(0, .ref m), (1, .int (nI (vB (vE (t + 1) κ.2.2.1 κ.2.2.2 16)))), (3, .int (nI (vB (vGk ν κ t)))), (4, .int (nI t))] [.int (nI x)] n h := by
        intro x hx
        subst hx
        refine xr_istore_n a_Mod_good_96 (by decide) rfl ?_
        refine xr_ls [(0, .ref m), (1, .int (nI (vB (vE (t + 1) κ.2.2.1 κ.2.2.2 16)))), (2, .int (nI (vB (vE (t + 1) κ.2.2.1 κ.2.2.2 17)))), (3, .int (nI (vB (vGk ν κ t)))), (4, .int (nI t))] ⟨rfl, rfl, rfl, rfl, rfl, trivial⟩ ?_
        exact m97
      have yes2 : vE (t + 1) κ.2.2.1 κ.2.2.2 17 → XW (x_rm d 0 0) k_Mod_good L xs (x_mq 0 0 (qR n h (nI (vB (vGood ν κ))))) 0 0 91 [(0, .ref m), (1, .int (nI (vB (vE (t + 1) κ.2.2.1 κ.2.2.2 16)))), (3, .int (nI (vB (vGk ν κ t)))), (4, .int (nI t))] [] n h := by
        intro z
        refine xr_iconst a_Mod_good_91 (v := nI 1) (by decide +kernel) ?_
        refine xr_goto a_Mod_good_92 ?_
        exact m96 1 (by rw [vB_t z])
      have m62 : ∀ x, x = vB (vE (t + 1) κ.2.2.1 κ.2.2.2 16) → XW (x_rm d 0 0) k_Mod_good L xs (x_mq 0 0 (qR n h (nI (vB (vGood ν κ))))) 0 0 62 [(0, .ref m), (2, .int (nI (vB (vE t κ.2.2.1 κ.2.2.2 17)))), (3, .int (nI (vB (vGk ν κ t)))), (4, .int (nI t))] [.int (nI x)] n h := by
        intro x hx
        subst hx
        refine xr_istore_n a_Mod_good_62 (by decide) rfl ?_
        refine xr_iload_n a_Mod_good_63 rfl ?_
        refine xn_if_ne a_Mod_good_64 (vB_lt31 _) (fun b64 => ?_) (fun b64 => ?_)
        · refine xr_ls [(0, .ref m), (1, .int (nI (vB (vE (t + 1) κ.2.2.1 κ.2.2.2 16)))), (3, .int (nI (vB (vGk ν κ t)))), (4, .int (nI t))] ⟨rfl, rfl, rfl, rfl, trivial⟩ ?_
          exact yes2 (vE_s.mpr (Or.inl (vB_1 b64)))
        · refine xr_aload_n a_Mod_good_67 rfl ?_
          apply xr_getf a_Mod_good_68
          · (repeat' (first | assumption | exact va_up_self _ _ _ | refine x_lk (by omega) ?_))
          · rfl
          refine xr_iload a_Mod_good_71 rfl ?_
          apply xn_iaload a_Mod_good_73
          · (repeat' (first | assumption | exact va_up_self _ _ _ | refine x_lk (by omega) ?_))
          · omega
          · omega
          refine xr_bipush a_Mod_good_74 (v := nI 17) (by decide +kernel) ?_
          refine xn_icmp_eq a_Mod_good_76 (by omega) (by omega) (fun b76 => ?_) (fun b76 => ?_)
          · refine xr_ls [(0, .ref m), (1, .int (nI (vB (vE (t + 1) κ.2.2.1 κ.2.2.2 16)))), (3, .int (nI (vB (vGk ν κ t)))), (4, .int (nI t))] ⟨rfl, rfl, rfl, rfl, trivial⟩ ?_
            exact yes2 (vE_s.mpr (Or.inr (Or.inl (by omega))))
          · refine xr_aload_n a_Mod_good_79 rfl ?_
            apply xr_getf a_Mod_good_80
            · (repeat' (first | assumption | exact va_up_self _ _ _ | refine x_lk (by omega) ?_))
            · rfl
            refine xr_iload a_Mod_good_83 rfl ?_
            apply xn_iaload a_Mod_good_85
            · (repeat' (first | assumption | exact va_up_self _ _ _ | refine x_lk (by omega) ?_))
            · omega
            · omega
            refine xr_bipush a_Mod_good_86 (v := nI 17) (by decide +kernel) ?_
            refine xn_icmp_ne a_Mod_good_88 (by omega) (by omega) (fun b88 => ?_) (fun b88 => ?_)
            · refine xr_iconst a_Mod_good_95 (v := nI 0) (by decide +kernel) ?_
              refine xr_ls [(0, .ref m), (1, .int (nI (vB (vE (t + 1) κ.2.2.1 κ.2.2.2 16)))), (3, .int (nI (vB (vGk ν κ t)))), (4, .int (nI t))] ⟨rfl, rfl, rfl, rfl, trivial⟩ ?_
              refine m96 0 ?_
              rw [vB_f (fun z => ?_)]
              rcases vE_s.mp z with z | z | z
              · exact vB_0 b64 z
              · omega
              · omega
            · refine xr_ls [(0, .ref m), (1, .int (nI (vB (vE (t + 1) κ.2.2.1 κ.2.2.2 16)))), (3, .int (nI (vB (vGk ν κ t)))), (4, .int (nI t))] ⟨rfl, rfl, rfl, rfl, trivial⟩ ?_
              exact yes2 (vE_s.mpr (Or.inr (Or.inr (by omega))))
      have yes1 : vE (t + 1) κ.2.2.1 κ.2.2.2 16 → XW (x_rm d 0 0) k_Mod_good L xs (x_mq 0 0 (qR n h (nI (vB (vGood ν κ))))) 0 0 57 [(0, .ref m), (2, .int (nI (vB (vE t κ.2.2.1 κ.2.2.2 17)))), (3, .int (nI (vB (vGk ν κ t)))), (4, .int (nI t))] [] n h := by
        intro z
        refine xr_iconst a_Mod_good_57 (v := nI 1) (by decide +kernel) ?_
        refine xr_goto a_Mod_good_58 ?_
        exact m62 1 (by rw [vB_t z])
      refine xr_iload a_Mod_good_20 rfl ?_
      refine xr_aload_n a_Mod_good_22 rfl ?_
      apply xr_getf a_Mod_good_23
      · (repeat' (first | assumption | exact va_up_self _ _ _ | refine x_lk (by omega) ?_))
      · rfl
      refine xn_icmp_ge a_Mod_good_26 (by omega) (by omega) (fun b26 => ?_) (fun b26 => ?_)
      · omega
      · refine xr_iload_n a_Mod_good_29 rfl ?_
        refine xn_if_ne a_Mod_good_30 (vB_lt31 _) (fun b30 => ?_) (fun b30 => ?_)
        · refine xr_ls [(0, .ref m), (2, .int (nI (vB (vE t κ.2.2.1 κ.2.2.2 17)))), (3, .int (nI (vB (vGk ν κ t)))), (4, .int (nI t))] ⟨rfl, rfl, rfl, rfl, trivial⟩ ?_
          exact yes1 (vE_s.mpr (Or.inl (vB_1 b30)))
        · refine xr_aload_n a_Mod_good_33 rfl ?_
          apply xr_getf a_Mod_good_34
          · (repeat' (first | assumption | exact va_up_self _ _ _ | refine x_lk (by omega) ?_))
          · rfl
          refine xr_iload a_Mod_good_37 rfl ?_
          apply xn_iaload a_Mod_good_39
          · (repeat' (first | assumption | exact va_up_self _ _ _ | refine x_lk (by omega) ?_))
          · omega
          · omega
          refine xr_bipush a_Mod_good_40 (v := nI 16) (by decide +kernel) ?_
          refine xn_icmp_eq a_Mod_good_42 (by omega) (by omega) (fun b42 => ?_) (fun b42 => ?_)
          · refine xr_ls [(0, .ref m), (2, .int (nI (vB (vE t κ.2.2.1 κ.2.2.2 17)))), (3, .int (nI (vB (vGk ν κ t)))), (4, .int (nI t))] ⟨rfl, rfl, rfl, rfl, trivial⟩ ?_
            exact yes1 (vE_s.mpr (Or.inr (Or.inl (by omega))))
          · refine xr_aload_n a_Mod_good_45 rfl ?_
            apply xr_getf a_Mod_good_46
            · (repeat' (first | assumption | exact va_up_self _ _ _ | refine x_lk (by omega) ?_))
            · rfl
            refine xr_iload a_Mod_good_49 rfl ?_
            apply xn_iaload a_Mod_good_51
            · (repeat' (first | assumption | exact va_up_self _ _ _ | refine x_lk (by omega) ?_))
            · omega
            · omega
            refine xr_bipush a_Mod_good_52 (v := nI 16) (by decide +kernel) ?_
            refine xn_icmp_ne a_Mod_good_54 (by omega) (by omega) (fun b54 => ?_) (fun b54 => ?_)
            · refine xr_iconst a_Mod_good_61 (v := nI 0) (by decide +kernel) ?_
              refine xr_ls [(0, .ref m), (2, .int (nI (vB (vE t κ.2.2.1 κ.2.2.2 17)))), (3, .int (nI (vB (vGk ν κ t)))), (4, .int (nI t))] ⟨rfl, rfl, rfl, rfl, trivial⟩ ?_
              refine m62 0 ?_
              rw [vB_f (fun z => ?_)]
              rcases vE_s.mp z with z | z | z
              · exact vB_0 b30 z
              · omega
              · omega
            · refine xr_ls [(0, .ref m), (2, .int (nI (vB (vE t κ.2.2.1 κ.2.2.2 17)))), (3, .int (nI (vB (vGk ν κ t)))), (4, .int (nI t))] ⟨rfl, rfl, rfl, rfl, trivial⟩ ?_
              exact yes1 (vE_s.mpr (Or.inr (Or.inr (by omega))))
  have start : ∀ x, x = vB (vGk ν κ 0) → XW (x_rm d 0 0) k_Mod_good L xs (x_mq 0 0 (qR n h (nI (vB (vGood ν κ))))) 0 0 16 [(0, .ref m), (1, .int (nI 0)), (2, .int (nI 0))] [.int (nI x)] n h := by
    intro x hx
    subst hx
    refine xr_istore_n a_Mod_good_16 (by decide) rfl ?_
    refine xr_iconst a_Mod_good_17 (v := nI 0) (by decide +kernel) ?_
    refine xr_istore a_Mod_good_18 (by decide) rfl ?_
    refine xr_ls [(0, .ref m), (1, .int (nI 0)), (2, .int (nI 0)), (3, .int (nI (vB (vGk ν κ 0)))), (4, .int (nI 0))] ⟨rfl, rfl, rfl, rfl, rfl, trivial⟩ ?_
    have := loop κ.1 0 (by omega)
    have e0 : ∀ t, vB (vE 0 κ.2.2.1 κ.2.2.2 t) = 0 := fun t => vB_f (fun ⟨j, hj, _⟩ => absurd hj (Nat.not_lt_zero j))
    rw [e0, e0] at this
    exact this
  refine xr_iconst a_Mod_good_0 (v := nI 0) (by decide +kernel) ?_
  refine xr_istore_n a_Mod_good_1 (by decide) rfl ?_
  refine xr_iconst a_Mod_good_2 (v := nI 0) (by decide +kernel) ?_
  refine xr_istore_n a_Mod_good_3 (by decide) rfl ?_
  refine xr_aload_n a_Mod_good_4 rfl ?_
  apply xr_getf a_Mod_good_5
  · (repeat' (first | assumption | exact va_up_self _ _ _ | refine x_lk (by omega) ?_))
  · rfl
  refine xn_if_le a_Mod_good_8 (by omega) (fun b8 => ?_) (fun b8 => ?_)
  · refine xr_iconst a_Mod_good_15 (v := nI 0) (by decide +kernel) ?_
    refine xr_ls [(0, .ref m), (1, .int (nI 0)), (2, .int (nI 0))] ⟨rfl, rfl, rfl, trivial⟩ ?_
    exact start 0 (by rw [vB_f (fun z => by have := z.1; omega)])
  · refine xr_iconst a_Mod_good_11 (v := nI 1) (by decide +kernel) ?_
    refine xr_goto a_Mod_good_12 ?_
    refine xr_ls [(0, .ref m), (1, .int (nI 0)), (2, .int (nI 0))] ⟨rfl, rfl, rfl, trivial⟩ ?_
    exact start 1 (by rw [vB_t ⟨by omega, fun j hj => absurd hj (Nat.not_lt_zero j)⟩])
end T57

