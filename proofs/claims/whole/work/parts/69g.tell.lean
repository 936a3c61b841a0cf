/-! the reference: tell -/
def tlS (h0 h' : xH) (m as ma stk : Nat) (fa : Nat → Nat) (Mm : Nat → Bool) (rq tr : Nat) : Prop := (∀ q, q ≠ m → q ≠ m + 5 → q ≠ m + 20 → q ≠ m + 21 → q ≠ m + 22 → h' q = h0 q) ∧ (∃ ne, h' m = cM m as ma stk ne rq tr) ∧ (∃ fb : Nat → Nat, h' (m + 5) = cI 4 fb ∧ ∀ r, r < 4 → fb r = fa r) ∧ (∃ pk, h' (m + 20) = cO 6 pk) ∧ moM h' m Mm ∧ ∃ w, h' (m + 22) = cB 4624 w
section T69g
variable {d L : Nat} {xs : Nat → Int32} {n : Nat} {h0 h : xH} {m : Nat} {as ma stk rq tr : Nat} {rw_ rX rY lR lA lB fa : Nat → Nat} {md : Nat → Option Nat} {Mm : Nat → Bool} {ρ : Nat → vRel}
theorem t_Mod_tell {dd to : Nat} {l : List vA} {pt : Nat → Option Nat} (S0 : tlS h0 h m as ma stk fa Mm rq tr) (x0 : h0 (m + 1) = cI 4 rw_) (x1 : h0 (m + 2) = cI 32 rX) (x2 : h0 (m + 3) = cI 32 rY) (c1 : h0 (m + 15) = cI 48 lR) (c2 : h0 (m + 16) = cI 48 lA) (c3 : h0 (m + 17) = cI 48 lB) (cm : h0 (m + 18) = cO 48 md) (hM : ∀ c, Mm c = true → vOkc c) (hR : vOkR ρ) (hρ : ∀ r, r < 4 → rw_ r = (ρ r).1 ∧ ∀ k, k < 8 → rX (8 * r + k) = (ρ r).2.1 k ∧ rY (8 * r + k) = (ρ r).2.2.1 k) (hfa : ∀ r, r < 4 → fa r < 10) (hdd : dd < 8) (hl : vRep l l.length (fun i => lR (6 * dd + i)) (fun i => lA (6 * dd + i)) (fun i => lB (6 * dd + i))) (h6 : l.length ≤ 6) (hb : vBdL l) (hto : to < l.length) (hmd : md (6 * dd + to) = pt to) (hg : vGd1 l pt to) (hd : 3 ≤ d) : XM d 0 0 k_Mod_tell L xs [.ref m, .int (nI dd), .int (nI to)] n h (fun (v : Option Value) (n' : Nat) (h' : xH) => n = n' ∧ (((rqN Mm (vRq (vRw ρ) l pt to)) = 0 ∧ v = some (Value.int (nI 1)) ∧ tlS h0 h' m as ma stk fa (vAdd Mm (vRq (vRw ρ) l pt to)) rq tr) ∨ ((rqN Mm (vRq (vRw ρ) l pt to)) ≠ 0 ∧ 3 ≤ fa (lR (6 * dd + to)) ∧ v = some (Value.int (nI 0)) ∧ tlS h0 h' m as ma stk (va_up fa (lR (6 * dd + to)) (fa (lR (6 * dd + to)) - 3)) Mm rq (tr + 3)) ∨ ((rqN Mm (vRq (vRw ρ) l pt to)) ≠ 0 ∧ ¬ 3 ≤ fa (lR (6 * dd + to)) ∧ v = some (Value.int (nI 1)) ∧ tlS h0 h' m as ma stk (va_up fa (lR (6 * dd + to)) 0) (vAdd Mm (vRq (vRw ρ) l pt to)) (rq + (rqN Mm (vRq (vRw ρ) l pt to))) (tr + (rqN Mm (vRq (vRw ρ) l pt to)) + fa (lR (6 * dd + to)))))) := by
  have r4 : (lR (6 * dd + to)) < 4 := (hb.at hl hto).1
  have f10 := hfa _ r4
  refine XM.of rfl (Nat.le_of_ble_eq_true rfl) ?_
  -- what was wanted is made
  have close : ∀ (tr' rq' : Nat) (fa' : Nat → Nat), (∀ h', tlS h0 h' m as ma stk fa' (vAdd Mm (vRq (vRw ρ) l pt to)) rq' tr' → (fun (v : Option Value) (n' : Nat) (h' : xH) => n = n' ∧ (((rqN Mm (vRq (vRw ρ) l pt to)) = 0 ∧ v = some (Value.int (nI 1)) ∧ tlS h0 h' m as ma stk fa (vAdd Mm (vRq (vRw ρ) l pt to)) rq tr) ∨ ((rqN Mm (vRq (vRw ρ) l pt to)) ≠ 0 ∧ 3 ≤ fa (lR (6 * dd + to)) ∧ v = some (Value.int (nI 0)) ∧ tlS h0 h' m as ma stk (va_up fa (lR (6 * dd + to)) (fa (lR (6 * dd + to)) - 3)) Mm rq (tr + 3)) ∨ ((rqN Mm (vRq (vRw ρ) l pt to)) ≠ 0 ∧ ¬ 3 ≤ fa (lR (6 * dd + to)) ∧ v = some (Value.int (nI 1)) ∧ tlS h0 h' m as ma stk (va_up fa (lR (6 * dd + to)) 0) (vAdd Mm (vRq (vRw ρ) l pt to)) (rq + (rqN Mm (vRq (vRw ρ) l pt to))) (tr + (rqN Mm (vRq (vRw ρ) l pt to)) + fa (lR (6 * dd + to)))))) (some (Value.int (nI 1))) n h') → ∀ (fm fw : Nat → Nat), (∀ k, k < 4624 → fm k = vB (∃ c, Mm c = true ∧ kc c = k)) → (∀ k, k < 4624 → fw k = vB (∃ c, Mm c = false ∧ vRq (vRw ρ) l pt to c ∧ kc c = k)) → ∀ (q i : Nat) (h' : xH) (f1 : Nat → Nat), i + q = 4624 → (∀ q, q ≠ m → q ≠ m + 5 → q ≠ m + 20 → q ≠ m + 21 → q ≠ m + 22 → h' q = h0 q) → (∃ ne, h' m = cM m as ma stk ne rq' tr') → (∃ fb : Nat → Nat, h' (m + 5) = cI 4 fb ∧ ∀ r, r < 4 → fb r = fa' r) → (∃ pk, h' (m + 20) = cO 6 pk) → h' (m + 22) = cB 4624 fw → h' (m + 21) = cB 4624 f1 → (∀ k, k < i → f1 k = vB (∃ c, (vAdd Mm (vRq (vRw ρ) l pt to)) c = true ∧ kc c = k)) → (∀ k, i ≤ k → f1 k = fm k) → XW (x_rm d 0 0) k_Mod_tell L xs (x_mq 0 0 (fun (v : Option Value) (n' : Nat) (h' : xH) => n = n' ∧ (((rqN Mm (vRq (vRw ρ) l pt to)) = 0 ∧ v = some (Value.int (nI 1)) ∧ tlS h0 h' m as ma stk fa (vAdd Mm (vRq (vRw ρ) l pt to)) rq tr) ∨ ((rqN Mm (vRq (vRw ρ) l pt to)) ≠ 0 ∧ 3 ≤ fa (lR (6 * dd + to)) ∧ v = some (Value.int (nI 0)) ∧ tlS h0 h' m as ma stk (va_up fa (lR (6 * dd + to)) (fa (lR (6 * dd + to)) - 3)) Mm rq (tr + 3)) ∨ ((rqN Mm (vRq (vRw ρ) l pt to)) ≠ 0 ∧ ¬ 3 ≤ fa (lR (6 * dd + to)) ∧ v = some (Value.int (nI 1)) ∧ tlS h0 h' m as ma stk (va_up fa (lR (6 * dd + to)) 0) (vAdd Mm (vRq (vRw ρ) l pt to)) (rq + (rqN Mm (vRq (vRw ρ) l pt to))) (tr + (rqN Mm (vRq (vRw ρ) l pt to)) + fa (lR (6 * dd + to))))))) 0 0 134 [(0, .ref m), (4, .int (nI i))] [] n h' := by
    intro tr' rq' fa' fin fm fw hm hw q
    have one : ∀ k, k < 4624 → ((∃ c, (vAdd Mm (vRq (vRw ρ) l pt to)) c = true ∧ kc c = k) ↔ 0 < fm k ∨ 0 < fw k) := by
      intro k hk
      rw [hm k hk, hw k hk]
      constructor
      · rintro ⟨c, h1, h2⟩
        cases hc : Mm c with
        | true => exact Or.inl (by rw [vB_t ⟨c, hc, h2⟩]; decide)
        | false =>
          refine Or.inr ?_
          rw [vB_t ⟨c, hc, (vAdd_iff.mp h1).elim (fun w => by rw [hc] at w; cases w) id, h2⟩]
          decide
      · rintro (w | w)
        · obtain ⟨c, h1, h2⟩ := vB_1 w
          exact ⟨c, vAdd_iff.mpr (Or.inl h1), h2⟩
        · obtain ⟨c, h1, h2, h3⟩ := vB_1 w
          exact ⟨c, vAdd_iff.mpr (Or.inr h2), h3⟩
    induction q with
    | zero =>
      intro i h' f1 hi g1 ⟨ne, g2⟩ g3 g4 g5 g6 g7 g8
      refine xr_iload a_Mod_tell_134 rfl ?_
      refine xr_sipush a_Mod_tell_136 (v := nI 4624) (by decide +kernel) ?_
      refine xn_icmp_ge a_Mod_tell_139 (by omega) (by omega) (fun b139 => ?_) (fun b139 => ?_)
      · refine xr_iconst a_Mod_tell_180 (v := nI 1) (by decide +kernel) ?_
        refine xr_ireturn a_Mod_tell_181 rfl rfl (by omega) (by omega) ?_
        exact fin h' ⟨g1, ⟨ne, g2⟩, g3, g4, ⟨f1, g6, fun k hk => g7 k (by omega)⟩, fw, g5⟩
      · omega
    | succ q ih =>
      intro i h' f1 hi g1 ⟨ne, g2⟩ g3 g4 g5 g6 g7 g8
      have ei := g8 i (Nat.le_refl _)
      have l1 : fm i < 2 := by rw [hm i (by omega)]; exact vB_lt _
      have l2 : fw i < 2 := by rw [hw i (by omega)]; exact vB_lt _
      have oi := one i (by omega)
      have m173 : ∀ x, x = vB (∃ c, (vAdd Mm (vRq (vRw ρ) l pt to)) c = true ∧ kc c = i) → x < 2 → XW (x_rm d 0 0) k_Mod_tell L xs (x_mq 0 0 (fun (v : Option Value) (n' : Nat) (h' : xH) => n = n' ∧ (((rqN Mm (vRq (vRw ρ) l pt to)) = 0 ∧ v = some (Value.int (nI 1)) ∧ tlS h0 h' m as ma stk fa (vAdd Mm (vRq (vRw ρ) l pt to)) rq tr) ∨ ((rqN Mm (vRq (vRw ρ) l pt to)) ≠ 0 ∧ 3 ≤ fa (lR (6 * dd + to)) ∧ v = some (Value.int (nI 0)) ∧ tlS h0 h' m as ma stk (va_up fa (lR (6 * dd + to)) (fa (lR (6 * dd + to)) - 3)) Mm rq (tr + 3)) ∨ ((rqN Mm (vRq (vRw ρ) l pt to)) ≠ 0 ∧ ¬ 3 ≤ fa (lR (6 * dd + to)) ∧ v = some (Value.int (nI 1)) ∧ tlS h0 h' m as ma stk (va_up fa (lR (6 * dd + to)) 0) (vAdd Mm (vRq (vRw ρ) l pt to)) (rq + (rqN Mm (vRq (vRw ρ) l pt to))) (tr + (rqN Mm (vRq (vRw ρ) l pt to)) + fa (lR (6 * dd + to))))))) 0 0 173 [(0, .ref m), (4, .int (nI i))] [.int (nI x), .int (nI i), .ref (m + 21)] n h' := by
        intro x hx hx2
        apply xn_bastore a_Mod_tell_173
        · (repeat' (first | assumption | exact va_up_self _ _ _ | refine x_lk (by omega) ?_))
        · omega
        · omega
        · omega
        first | refine xn_iinc a_Mod_tell_174 rfl (by decide) rfl ?_ | refine xr_iinc a_Mod_tell_174 rfl rfl (by decide) rfl ?_
        refine xr_goto a_Mod_tell_177 ?_
        refine xr_ls [(0, .ref m), (4, .int (nI (i + 1)))] ⟨rfl, rfl, trivial⟩ ?_
        obtain ⟨fb, g31, g32⟩ := g3
        obtain ⟨pk, g41⟩ := g4
        refine ih (i + 1) _ _ (by omega) (fun q e1 e2 e3 e4 e5 => (up_ne e4).trans (g1 q e1 e2 e3 e4 e5)) ⟨ne, x_lk (by omega) g2⟩ ⟨fb, x_lk (by omega) g31, g32⟩ ⟨pk, x_lk (by omega) g41⟩ (x_lk (by omega) g5) (up_self _ _ _) (fun k hk => ?_) (fun k hk => ?_)
        · by_cases ek : k = i
          · rw [ek, up_self, hx]
          · rw [up_ne ek]; exact g7 k (by omega)
        · rw [up_ne (by omega)]; exact g8 k (by omega)
      have yes : (∃ c, (vAdd Mm (vRq (vRw ρ) l pt to)) c = true ∧ kc c = i) → XW (x_rm d 0 0) k_Mod_tell L xs (x_mq 0 0 (fun (v : Option Value) (n' : Nat) (h' : xH) => n = n' ∧ (((rqN Mm (vRq (vRw ρ) l pt to)) = 0 ∧ v = some (Value.int (nI 1)) ∧ tlS h0 h' m as ma stk fa (vAdd Mm (vRq (vRw ρ) l pt to)) rq tr) ∨ ((rqN Mm (vRq (vRw ρ) l pt to)) ≠ 0 ∧ 3 ≤ fa (lR (6 * dd + to)) ∧ v = some (Value.int (nI 0)) ∧ tlS h0 h' m as ma stk (va_up fa (lR (6 * dd + to)) (fa (lR (6 * dd + to)) - 3)) Mm rq (tr + 3)) ∨ ((rqN Mm (vRq (vRw ρ) l pt to)) ≠ 0 ∧ ¬ 3 ≤ fa (lR (6 * dd + to)) ∧ v = some (Value.int (nI 1)) ∧ tlS h0 h' m as ma stk (va_up fa (lR (6 * dd + to)) 0) (vAdd Mm (vRq (vRw ρ) l pt to)) (rq + (rqN Mm (vRq (vRw ρ) l pt to))) (tr + (rqN Mm (vRq (vRw ρ) l pt to)) + fa (lR (6 * dd + to))))))) 0 0 168 [(0, .ref m), (4, .int (nI i))] [.int (nI i), .ref (m + 21)] n h' := by
        intro z
        refine xr_iconst a_Mod_tell_168 (v := nI 1) (by decide +kernel) ?_
        refine xr_goto a_Mod_tell_169 ?_
        exact m173 1 (by rw [vB_t z]) (by omega)
      refine xr_iload a_Mod_tell_134 rfl ?_
      refine xr_sipush a_Mod_tell_136 (v := nI 4624) (by decide +kernel) ?_
      refine xn_icmp_ge a_Mod_tell_139 (by omega) (by omega) (fun b139 => ?_) (fun b139 => ?_)
      · omega
      · refine xr_aload_n a_Mod_tell_142 rfl ?_
        apply xr_getf a_Mod_tell_143
        · (repeat' (first | assumption | exact va_up_self _ _ _ | refine x_lk (by omega) ?_))
        · rfl
        refine xr_iload a_Mod_tell_146 rfl ?_
        refine xr_aload_n a_Mod_tell_148 rfl ?_
        apply xr_getf a_Mod_tell_149
        · (repeat' (first | assumption | exact va_up_self _ _ _ | refine x_lk (by omega) ?_))
        · rfl
        refine xr_iload a_Mod_tell_152 rfl ?_
        apply xn_baload a_Mod_tell_154
        · (repeat' (first | assumption | exact va_up_self _ _ _ | refine x_lk (by omega) ?_))
        · omega
        · omega
        rw [ei]
        refine xn_if_ne a_Mod_tell_155 (by omega) (fun b155 => ?_) (fun b155 => ?_)
        · exact yes (oi.mpr (Or.inl b155))
        · refine xr_aload_n a_Mod_tell_158 rfl ?_
          apply xr_getf a_Mod_tell_159
          · (repeat' (first | assumption | exact va_up_self _ _ _ | refine x_lk (by omega) ?_))
          · rfl
          refine xr_iload a_Mod_tell_162 rfl ?_
          apply xn_baload a_Mod_tell_164
          · (repeat' (first | assumption | exact va_up_self _ _ _ | refine x_lk (by omega) ?_))
          · omega
          · omega
          refine xn_if_eq a_Mod_tell_165 (by omega) (fun b165 => ?_) (fun b165 => ?_)
          · refine xr_iconst a_Mod_tell_172 (v := nI 0) (by decide +kernel) ?_
            refine m173 0 ?_ (by omega)
            rw [vB_f (fun z => (oi.mp z).elim (fun w => by omega) (fun w => by omega))]
          · exact yes (oi.mpr (Or.inr b165))
  -- what is wanted now
  have clear : ∀ (q i : Nat) (h' : xH) (w' : Nat → Nat), i + q = 4624 → tlS h0 h' m as ma stk fa Mm rq tr → h' (m + 22) = cB 4624 w' → (∀ k, k < i → w' k = 0) → XW (x_rm d 0 0) k_Mod_tell L xs (x_mq 0 0 (fun (v : Option Value) (n' : Nat) (h' : xH) => n = n' ∧ (((rqN Mm (vRq (vRw ρ) l pt to)) = 0 ∧ v = some (Value.int (nI 1)) ∧ tlS h0 h' m as ma stk fa (vAdd Mm (vRq (vRw ρ) l pt to)) rq tr) ∨ ((rqN Mm (vRq (vRw ρ) l pt to)) ≠ 0 ∧ 3 ≤ fa (lR (6 * dd + to)) ∧ v = some (Value.int (nI 0)) ∧ tlS h0 h' m as ma stk (va_up fa (lR (6 * dd + to)) (fa (lR (6 * dd + to)) - 3)) Mm rq (tr + 3)) ∨ ((rqN Mm (vRq (vRw ρ) l pt to)) ≠ 0 ∧ ¬ 3 ≤ fa (lR (6 * dd + to)) ∧ v = some (Value.int (nI 1)) ∧ tlS h0 h' m as ma stk (va_up fa (lR (6 * dd + to)) 0) (vAdd Mm (vRq (vRw ρ) l pt to)) (rq + (rqN Mm (vRq (vRw ρ) l pt to))) (tr + (rqN Mm (vRq (vRw ρ) l pt to)) + fa (lR (6 * dd + to))))))) 0 0 2 [(0, .ref m), (1, .int (nI dd)), (2, .int (nI to)), (3, .int (nI i))] [] n h' := by
    intro q
    induction q with
    | zero =>
      intro i h' w' hi S1 g1 g2
      obtain ⟨s1, ⟨ne, s2⟩, ⟨fb, s31, s32⟩, ⟨pk, s4⟩, s5, -⟩ := S1
      have eN : rqN Mm (fun _ => False) = 0 := by
        unfold rqN
        have : vAdd Mm (fun _ => False) = Mm := (vAdd_eq (fun c => ⟨Or.inl, fun w => w.elim id False.elim⟩)).symm
        rw [this, Nat.sub_self]
      have cR := t_Mod_roads (d := 2) (L := L) (xs := xs) (n := n) (h := va_up h' m (cM m as ma stk 0 rq tr)) (as := as) (ma := ma) (stk := stk) (rq := rq) (tr := tr) (Mm := Mm) (W := fun _ => False) (pk := pk) (l := l) (pt := pt) (dd := dd) (to := to) ⟨fun _ _ _ _ => rfl, by rw [eN]; exact up_self _ _ _, x_lk (by omega) s4, w', x_lk (by omega) g1, fun k hk => by rw [g2 k (by omega), vB_f (fun ⟨_, _, w, _⟩ => w)]⟩ ((up_ne (by omega)).trans ((s1 (m + 1) (by omega) (by omega) (by omega) (by omega) (by omega)).trans x0)) ((up_ne (by omega)).trans ((s1 (m + 2) (by omega) (by omega) (by omega) (by omega) (by omega)).trans x1)) ((up_ne (by omega)).trans ((s1 (m + 3) (by omega) (by omega) (by omega) (by omega) (by omega)).trans x2)) ((up_ne (by omega)).trans ((s1 (m + 15) (by omega) (by omega) (by omega) (by omega) (by omega)).trans c1)) ((up_ne (by omega)).trans ((s1 (m + 16) (by omega) (by omega) (by omega) (by omega) (by omega)).trans c2)) ((up_ne (by omega)).trans ((s1 (m + 17) (by omega) (by omega) (by omega) (by omega) (by omega)).trans c3)) ((up_ne (by omega)).trans ((s1 (m + 18) (by omega) (by omega) (by omega) (by omega) (by omega)).trans cm)) (s5.sm (up_ne (by omega))) hM (fun c w => w.elim) hR hρ hdd hl h6 hb hto hmd hg (by omega)
      refine xr_iload_n a_Mod_tell_2 rfl ?_
      refine xr_sipush a_Mod_tell_3 (v := nI 4624) (by decide +kernel) ?_
      refine xn_icmp_ge a_Mod_tell_6 (by omega) (by omega) (fun b6 => ?_) (fun b6 => ?_)
      · refine xr_aload_n a_Mod_tell_22 rfl ?_
        refine xr_iconst a_Mod_tell_23 (v := nI 0) (by decide +kernel) ?_
        apply xm_needed a_Mod_tell_24
        · (repeat' (first | assumption | exact va_up_self _ _ _ | refine x_lk (by omega) ?_))
        refine xr_aload_n a_Mod_tell_27 rfl ?_
        refine xr_iload_n a_Mod_tell_28 rfl ?_
        refine xr_iload_n a_Mod_tell_29 rfl ?_
        refine xr_invV a_Mod_tell_30 (by (repeat' (first | assumption | exact va_up_self _ _ _ | refine x_lk (by omega) ?_))) (cR) rfl rfl (by omega) (by omega) (by omega) (Nat.le_of_ble_eq_true rfl) ?_
        rintro _ _ h2 ⟨rfl, rfl, W', pk', eW, S2⟩
        have eW' : ∀ c, W' c ↔ vRq (vRw ρ) l pt to c := fun c => (eW c).trans ⟨fun w => w.elim False.elim id, Or.inr⟩
        obtain ⟨u1, u2, u3, fw, u4, u5⟩ := S2
        have u5' : ∀ k, k < 4624 → fw k = vB (∃ c, Mm c = false ∧ vRq (vRw ρ) l pt to c ∧ kc c = k) := fun k hk => (u5 k hk).trans (vB_c ⟨fun ⟨c, a, b, e⟩ => ⟨c, a, (eW' c).mp b, e⟩, fun ⟨c, a, b, e⟩ => ⟨c, a, (eW' c).mpr b, e⟩⟩)
        rw [rqN_c eW'] at u2
        have hl4 := rqN_le Mm (vRq (vRw ρ) l pt to)
        have frm : ∀ q, q ≠ m → q ≠ m + 5 → q ≠ m + 20 → q ≠ m + 21 → q ≠ m + 22 → h2 q = h0 q := fun q e1 e2 e3 e4 e5 => (u1 q e1 e3 e5).trans ((up_ne e1).trans (s1 q e1 e2 e3 e4 e5))
        have c1' := (frm (m + 15) (by omega) (by omega) (by omega) (by omega) (by omega)).trans c1
        have s31' : h2 (m + 5) = cI 4 fb := (u1 (m + 5) (by omega) (by omega) (by omega)).trans ((up_ne (by omega)).trans s31)
        obtain ⟨fm, v1, v2⟩ := s5
        have v1' : h2 (m + 21) = cB 4624 fm := (u1 (m + 21) (by omega) (by omega) (by omega)).trans ((up_ne (by omega)).trans v1)
        have efb := s32 _ r4
        have s84 : (rqN Mm (vRq (vRw ρ) l pt to)) = 0 ∨ ¬ 3 ≤ fa (lR (6 * dd + to)) → XW (x_rm d 0 0) k_Mod_tell L xs (x_mq 0 0 (fun (v : Option Value) (n' : Nat) (h' : xH) => n = n' ∧ (((rqN Mm (vRq (vRw ρ) l pt to)) = 0 ∧ v = some (Value.int (nI 1)) ∧ tlS h0 h' m as ma stk fa (vAdd Mm (vRq (vRw ρ) l pt to)) rq tr) ∨ ((rqN Mm (vRq (vRw ρ) l pt to)) ≠ 0 ∧ 3 ≤ fa (lR (6 * dd + to)) ∧ v = some (Value.int (nI 0)) ∧ tlS h0 h' m as ma stk (va_up fa (lR (6 * dd + to)) (fa (lR (6 * dd + to)) - 3)) Mm rq (tr + 3)) ∨ ((rqN Mm (vRq (vRw ρ) l pt to)) ≠ 0 ∧ ¬ 3 ≤ fa (lR (6 * dd + to)) ∧ v = some (Value.int (nI 1)) ∧ tlS h0 h' m as ma stk (va_up fa (lR (6 * dd + to)) 0) (vAdd Mm (vRq (vRw ρ) l pt to)) (rq + (rqN Mm (vRq (vRw ρ) l pt to))) (tr + (rqN Mm (vRq (vRw ρ) l pt to)) + fa (lR (6 * dd + to))))))) 0 0 84 [(0, .ref m), (1, .int (nI dd)), (2, .int (nI to)), (3, .int (nI (lR (6 * dd + to))))] [] n h2 := by
          intro hz
          refine xr_aload_n a_Mod_tell_84 rfl ?_
          apply xr_getf a_Mod_tell_85
          · (repeat' (first | assumption | exact va_up_self _ _ _ | refine x_lk (by omega) ?_))
          · rfl
          refine xn_if_le a_Mod_tell_88 (by omega) (fun b88 => ?_) (fun b88 => ?_)
          · rw [b88] at u2
            refine xr_iconst a_Mod_tell_131 (v := nI 0) (by decide +kernel) ?_
            refine xr_istore a_Mod_tell_132 (by decide) rfl ?_
            refine xr_ls [(0, .ref m), (4, .int (nI 0))] ⟨rfl, rfl, trivial⟩ ?_
            exact close tr rq fa (fun h' S => ⟨rfl, Or.inl ⟨b88, rfl, S⟩⟩) fm fw v2 u5' 4624 0 h2 fm (by omega) frm ⟨_, u2⟩ ⟨fb, s31', s32⟩ ⟨pk', u3⟩ u4 v1' (fun k hk => absurd hk (Nat.not_lt_zero k)) (fun _ _ => rfl)
          · have hn3 : ¬ 3 ≤ fa (lR (6 * dd + to)) := hz.elim (fun w => by omega) id
            refine xr_aload_n a_Mod_tell_91 rfl ?_
            refine xr_dup a_Mod_tell_92 rfl ?_
            apply xr_getf a_Mod_tell_93
            · (repeat' (first | assumption | exact va_up_self _ _ _ | refine x_lk (by omega) ?_))
            · rfl
            refine xr_aload_n a_Mod_tell_96 rfl ?_
            apply xr_getf a_Mod_tell_97
            · (repeat' (first | assumption | exact va_up_self _ _ _ | refine x_lk (by omega) ?_))
            · rfl
            refine xr_aload_n a_Mod_tell_100 rfl ?_
            apply xr_getf a_Mod_tell_101
            · (repeat' (first | assumption | exact va_up_self _ _ _ | refine x_lk (by omega) ?_))
            · rfl
            refine xr_iload_n a_Mod_tell_104 rfl ?_
            apply xn_iaload a_Mod_tell_105
            · (repeat' (first | assumption | exact va_up_self _ _ _ | refine x_lk (by omega) ?_))
            · omega
            · omega
            rw [efb]
            first | refine xn_iadd a_Mod_tell_106 ?_ | refine xr_iadd a_Mod_tell_106 ?_
            first | refine xn_iadd a_Mod_tell_107 ?_ | refine xr_iadd a_Mod_tell_107 ?_
            apply xm_tri a_Mod_tell_108
            · (repeat' (first | assumption | exact va_up_self _ _ _ | refine x_lk (by omega) ?_))
            refine xr_aload_n a_Mod_tell_111 rfl ?_
            refine xr_dup a_Mod_tell_112 rfl ?_
            apply xr_getf a_Mod_tell_113
            · (repeat' (first | assumption | exact va_up_self _ _ _ | refine x_lk (by omega) ?_))
            · rfl
            refine xr_aload_n a_Mod_tell_116 rfl ?_
            apply xr_getf a_Mod_tell_117
            · (repeat' (first | assumption | exact va_up_self _ _ _ | refine x_lk (by omega) ?_))
            · rfl
            first | refine xn_iadd a_Mod_tell_120 ?_ | refine xr_iadd a_Mod_tell_120 ?_
            apply xm_req a_Mod_tell_121
            · (repeat' (first | assumption | exact va_up_self _ _ _ | refine x_lk (by omega) ?_))
            refine xr_aload_n a_Mod_tell_124 rfl ?_
            apply xr_getf a_Mod_tell_125
            · (repeat' (first | assumption | exact va_up_self _ _ _ | refine x_lk (by omega) ?_))
            · rfl
            refine xr_iload_n a_Mod_tell_128 rfl ?_
            refine xr_iconst a_Mod_tell_129 (v := nI 0) (by decide +kernel) ?_
            apply xn_iastore a_Mod_tell_130
            · (repeat' (first | assumption | exact va_up_self _ _ _ | refine x_lk (by omega) ?_))
            · omega
            · omega
            refine xr_iconst a_Mod_tell_131 (v := nI 0) (by decide +kernel) ?_
            refine xr_istore a_Mod_tell_132 (by decide) rfl ?_
            refine xr_ls [(0, .ref m), (4, .int (nI 0))] ⟨rfl, rfl, trivial⟩ ?_
            refine close (tr + (rqN Mm (vRq (vRw ρ) l pt to)) + fa (lR (6 * dd + to))) (rq + (rqN Mm (vRq (vRw ρ) l pt to))) (va_up fa (lR (6 * dd + to)) 0) (fun h' S => ⟨rfl, Or.inr (Or.inr ⟨by omega, hn3, rfl, S⟩)⟩) fm fw v2 u5' 4624 0 _ fm (by omega) (fun q e1 e2 e3 e4 e5 => ?_) ⟨(rqN Mm (vRq (vRw ρ) l pt to)), ?_⟩ ⟨va_up fb (lR (6 * dd + to)) 0, ?_, fun r hr => ?_⟩ ⟨pk', ?_⟩ ?_ ?_ (fun k hk => absurd hk (Nat.not_lt_zero k)) (fun _ _ => rfl)
            · rw [up_ne (by omega), up_ne (by omega), up_ne (by omega)]
              exact frm q e1 e2 e3 e4 e5
            · rw [Nat.add_assoc tr]
              (repeat' (first | assumption | exact va_up_self _ _ _ | refine x_lk (by omega) ?_))
            · (repeat' (first | assumption | exact va_up_self _ _ _ | refine x_lk (by omega) ?_))
            · by_cases er : r = (lR (6 * dd + to))
              · rw [er, up_self, up_self]
              · rw [up_ne er, up_ne er]; exact s32 r hr
            · (repeat' (first | assumption | exact va_up_self _ _ _ | refine x_lk (by omega) ?_))
            · (repeat' (first | assumption | exact va_up_self _ _ _ | refine x_lk (by omega) ?_))
            · (repeat' (first | assumption | exact va_up_self _ _ _ | refine x_lk (by omega) ?_))
        refine xr_aload_n a_Mod_tell_33 rfl ?_
        apply xr_getf a_Mod_tell_34
        · (repeat' (first | assumption | exact va_up_self _ _ _ | refine x_lk (by omega) ?_))
        · rfl
        refine xr_bipush a_Mod_tell_37 (v := nI 6) (by decide +kernel) ?_
        refine xr_iload_n a_Mod_tell_39 rfl ?_
        first | refine xn_imul a_Mod_tell_40 ?_ | refine xr_imul a_Mod_tell_40 ?_
        refine xr_iload_n a_Mod_tell_41 rfl ?_
        first | refine xn_iadd a_Mod_tell_42 ?_ | refine xr_iadd a_Mod_tell_42 ?_
        apply xn_iaload a_Mod_tell_43
        · (repeat' (first | assumption | exact va_up_self _ _ _ | refine x_lk (by omega) ?_))
        · omega
        · omega
        refine xr_istore_n a_Mod_tell_44 (by decide) rfl ?_
        refine xr_aload_n a_Mod_tell_45 rfl ?_
        apply xr_getf a_Mod_tell_46
        · (repeat' (first | assumption | exact va_up_self _ _ _ | refine x_lk (by omega) ?_))
        · rfl
        refine xn_if_le a_Mod_tell_49 (by omega) (fun b49 => ?_) (fun b49 => ?_)
        · refine xr_ls [(0, .ref m), (1, .int (nI dd)), (2, .int (nI to)), (3, .int (nI (lR (6 * dd + to))))] ⟨rfl, rfl, rfl, rfl, trivial⟩ ?_
          exact s84 (Or.inl b49)
        · refine xr_aload_n a_Mod_tell_52 rfl ?_
          apply xr_getf a_Mod_tell_53
          · (repeat' (first | assumption | exact va_up_self _ _ _ | refine x_lk (by omega) ?_))
          · rfl
          refine xr_iload_n a_Mod_tell_56 rfl ?_
          apply xn_iaload a_Mod_tell_57
          · (repeat' (first | assumption | exact va_up_self _ _ _ | refine x_lk (by omega) ?_))
          · omega
          · omega
          rw [efb]
          refine xr_iconst a_Mod_tell_58 (v := nI 3) (by decide +kernel) ?_
          refine xn_icmp_lt a_Mod_tell_59 (by omega) (by omega) (fun b59 => ?_) (fun b59 => ?_)
          · refine xr_ls [(0, .ref m), (1, .int (nI dd)), (2, .int (nI to)), (3, .int (nI (lR (6 * dd + to))))] ⟨rfl, rfl, rfl, rfl, trivial⟩ ?_
            exact s84 (Or.inr (by omega))
          · refine xr_aload_n a_Mod_tell_62 rfl ?_
            apply xr_getf a_Mod_tell_63
            · (repeat' (first | assumption | exact va_up_self _ _ _ | refine x_lk (by omega) ?_))
            · rfl
            refine xr_iload_n a_Mod_tell_66 rfl ?_
            refine xr_dup2 a_Mod_tell_67 rfl rfl ?_
            apply xn_iaload a_Mod_tell_68
            · (repeat' (first | assumption | exact va_up_self _ _ _ | refine x_lk (by omega) ?_))
            · omega
            · omega
            rw [efb]
            refine xr_iconst a_Mod_tell_69 (v := nI 3) (by decide +kernel) ?_
            first | refine xn_isub a_Mod_tell_70 (by omega) ?_ | refine xr_isub a_Mod_tell_70 ?_
            apply xn_iastore a_Mod_tell_71
            · (repeat' (first | assumption | exact va_up_self _ _ _ | refine x_lk (by omega) ?_))
            · omega
            · omega
            refine xr_aload_n a_Mod_tell_72 rfl ?_
            refine xr_dup a_Mod_tell_73 rfl ?_
            apply xr_getf a_Mod_tell_74
            · (repeat' (first | assumption | exact va_up_self _ _ _ | refine x_lk (by omega) ?_))
            · rfl
            refine xr_iconst a_Mod_tell_77 (v := nI 3) (by decide +kernel) ?_
            first | refine xn_iadd a_Mod_tell_78 ?_ | refine xr_iadd a_Mod_tell_78 ?_
            apply xm_tri a_Mod_tell_79
            · (repeat' (first | assumption | exact va_up_self _ _ _ | refine x_lk (by omega) ?_))
            refine xr_iconst a_Mod_tell_82 (v := nI 0) (by decide +kernel) ?_
            refine xr_ireturn a_Mod_tell_83 rfl rfl (by omega) (by omega) ?_
            refine ⟨rfl, Or.inr (Or.inl ⟨by omega, b59, rfl, fun q e1 e2 e3 e4 e5 => ?_, ⟨(rqN Mm (vRq (vRw ρ) l pt to)), by (repeat' (first | assumption | exact va_up_self _ _ _ | refine x_lk (by omega) ?_))⟩, ⟨va_up fb (lR (6 * dd + to)) (fa (lR (6 * dd + to)) - 3), by (repeat' (first | assumption | exact va_up_self _ _ _ | refine x_lk (by omega) ?_)), fun r hr => ?_⟩, ⟨pk', by (repeat' (first | assumption | exact va_up_self _ _ _ | refine x_lk (by omega) ?_))⟩, ⟨fm, by (repeat' (first | assumption | exact va_up_self _ _ _ | refine x_lk (by omega) ?_)), v2⟩, fw, by (repeat' (first | assumption | exact va_up_self _ _ _ | refine x_lk (by omega) ?_))⟩)⟩
            · rw [up_ne (by omega), up_ne (by omega)]
              exact frm q e1 e2 e3 e4 e5
            · by_cases er : r = (lR (6 * dd + to))
              · rw [er, up_self, up_self]
              · rw [up_ne er, up_ne er]; exact s32 r hr
      · omega
    | succ q ih =>
      intro i h' w' hi S1 g1 g2
      obtain ⟨s1, ⟨ne, s2⟩, ⟨fb, s31, s32⟩, ⟨pk, s4⟩, s5, -⟩ := S1
      refine xr_iload_n a_Mod_tell_2 rfl ?_
      refine xr_sipush a_Mod_tell_3 (v := nI 4624) (by decide +kernel) ?_
      refine xn_icmp_ge a_Mod_tell_6 (by omega) (by omega) (fun b6 => ?_) (fun b6 => ?_)
      · omega
      · refine xr_aload_n a_Mod_tell_9 rfl ?_
        apply xr_getf a_Mod_tell_10
        · (repeat' (first | assumption | exact va_up_self _ _ _ | refine x_lk (by omega) ?_))
        · rfl
        refine xr_iload_n a_Mod_tell_13 rfl ?_
        refine xr_iconst a_Mod_tell_14 (v := nI 0) (by decide +kernel) ?_
        apply xn_bastore a_Mod_tell_15
        · (repeat' (first | assumption | exact va_up_self _ _ _ | refine x_lk (by omega) ?_))
        · omega
        · omega
        · omega
        first | refine xn_iinc a_Mod_tell_16 rfl (by decide) rfl ?_ | refine xr_iinc a_Mod_tell_16 rfl rfl (by decide) rfl ?_
        refine xr_goto a_Mod_tell_19 ?_
        refine xr_ls [(0, .ref m), (1, .int (nI dd)), (2, .int (nI to)), (3, .int (nI (i + 1)))] ⟨rfl, rfl, rfl, rfl, trivial⟩ ?_
        refine ih (i + 1) _ _ (by omega) ⟨fun q e1 e2 e3 e4 e5 => (up_ne e5).trans (s1 q e1 e2 e3 e4 e5), ⟨ne, x_lk (by omega) s2⟩, ⟨fb, x_lk (by omega) s31, s32⟩, ⟨pk, x_lk (by omega) s4⟩, s5.sm (up_ne (by omega)), _, up_self _ _ _⟩ (up_self _ _ _) (fun k hk => ?_)
        by_cases ek : k = i
        · rw [ek, up_self]
        · rw [up_ne ek]; exact g2 k (by omega)
  obtain ⟨w, g1⟩ := S0.2.2.2.2.2
  refine xr_iconst a_Mod_tell_0 (v := nI 0) (by decide +kernel) ?_
  refine xr_istore_n a_Mod_tell_1 (by decide) rfl ?_
  refine xr_ls [(0, .ref m), (1, .int (nI dd)), (2, .int (nI to)), (3, .int (nI 0))] ⟨rfl, rfl, rfl, rfl, trivial⟩ ?_
  exact clear 4624 0 h w (by omega) S0 g1 (fun k hk => absurd hk (Nat.not_lt_zero k))
end T69g

