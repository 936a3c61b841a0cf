/-! the reference: run, the asking -/
theorem tlS.mo {h0 h' : xH} {m : Nat} {ρ : Nat → vRel} {ν : Nat → vVw} {κ : vAL} {cnt : Nat} {D : Nat → vPd} {fo : Nat → Bool} {r t stk : Nat} {φ : Nat → Nat} {Mm : Nat → Bool} {rq tr : Nat} (p : isMo h0 m ρ ν κ cnt D fo r t) (z : tlS h0 h' m κ.1 cnt stk φ Mm rq tr) : isMo h' m (vFa ρ φ) ν κ cnt D fo rq tr := by
  obtain ⟨-, ⟨rw_, rX, rY, pa, fa, x0, x1, x2, x3, x4, x5⟩, p2, p3, p4, p5, ⟨f19, z19⟩, -, -, -, f23, z23⟩ := p
  obtain ⟨z1, ⟨ne, z2⟩, ⟨fb, z3, z3'⟩, z4, ⟨fm, z5, -⟩, z6⟩ := z
  have g : ∀ q, q ≠ m → q ≠ m + 5 → (q < m + 20 ∨ m + 23 ≤ q) → h' q = h0 q := fun q a b c => z1 q a b (by omega) (by omega) (by omega)
  exact ⟨⟨stk, ne, z2⟩, ⟨rw_, rX, rY, pa, fb, (g _ (by omega) (by omega) (by omega)).trans x0, (g _ (by omega) (by omega) (by omega)).trans x1, (g _ (by omega) (by omega) (by omega)).trans x2, (g _ (by omega) (by omega) (by omega)).trans x3, z3, fun r hr => ⟨(x5 r hr).1, (x5 r hr).2.1, z3' r hr, (x5 r hr).2.2.2⟩⟩, p2.sm (fun q a b => g q (by omega) (by omega) (by omega)), p3.sm (fun q a b => g q (by omega) (by omega) (by omega)), p4.sm (fun q a b => g q (by omega) (by omega) (by omega)), p5.sm (fun q a b => g q (by omega) (by omega) (by omega)), ⟨f19, (g _ (by omega) (by omega) (by omega)).trans z19⟩, z4, ⟨fm, z5⟩, z6, f23, (g _ (by omega) (by omega) (by omega)).trans z23⟩
section T69l
variable {d L : Nat} {xs : Nat → Int32} {n : Nat} {h : xH} {m : Nat} {ρ : Nat → vRel} {ν : Nat → vVw} {κ : vAL} {cnt : Nat} {D : Nat → vPd} {fo : Nat → Bool} {rq0 tr0 : Nat} {Q : xQ} {A : Bool × (Nat → Bool) × (Nat → Nat) × Nat × Nat}
theorem rn_H (hd : 4 ≤ d) (pz : isMo h m ρ ν κ cnt D fo rq0 tr0) (hR : vSR ρ) (hc : cnt ≤ 8) (hD : ∀ i, i < cnt → (D i).1.length ≤ 6 ∧ vBdL (D i).1 ∧ vGdO (D i).1 (D i).2)
    (fin3 : ∀ (h' : xH) (Mm : Nat → Bool) (stk : Nat), A.1 = false → tlS h h' m κ.1 cnt stk A.2.2.1 Mm A.2.2.2.1 A.2.2.2.2 → Q (some (.int (-3))) n h')
    (fin0 : ∀ (h' : xH) (stk : Nat), A.1 = true → tlS h h' m κ.1 cnt stk A.2.2.1 A.2.1 A.2.2.2.1 A.2.2.2.2 → XW (x_rm d 0 0) k_Mod_run L xs (x_mq 0 0 Q) 0 0 217 [(0, .ref m)] [] n h') :
    ∀ (q dd : Nat) (h' : xH) (Mm : Nat → Bool) (φ : Nat → Nat) (rq tr stk : Nat), dd + q = cnt → (∀ c, Mm c = true → vOkc c) → (∀ r, r < 4 → φ r < 10) → tlS h h' m κ.1 cnt stk φ Mm rq tr → vAsk (vRw ρ) (((List.range cnt).map D).drop dd) (Mm, φ, rq, tr) = A → XW (x_rm d 0 0) k_Mod_run L xs (x_mq 0 0 Q) 0 0 173 [(0, .ref m), (1, .int (nI dd))] [] n h' := by
  obtain ⟨-, ⟨rw_, rX, rY, pa, fa, x0, x1, x2, x3, x4, x5⟩, -, -, ⟨sz, lR, lA, lB, md, y1, y2, y3, y4, y5, y6⟩, -, -⟩ := pz
  intro q
  induction q with
  | zero =>
    intro dd h' Mm φ rq tr stk hdd hM hφ S eA
    have S' := S
    obtain ⟨z1, ⟨ne, z2⟩, -⟩ := S'
    have e0 : ((List.range cnt).map D).drop dd = [] := List.drop_eq_nil_of_le (by rw [List.length_map, List.length_range]; omega)
    rw [e0] at eA
    have eA' : (true, Mm, φ, rq, tr) = A := eA
    refine xr_iload_n a_Mod_run_173 rfl ?_
    refine xr_aload_n a_Mod_run_174 rfl ?_
    apply xr_getf a_Mod_run_175
    · (repeat' (first | assumption | exact va_up_self _ _ _ | refine x_lk (by omega) ?_))
    · rfl
    refine xn_icmp_ge a_Mod_run_178 (by omega) (by omega) (fun b178 => ?_) (fun b178 => ?_)
    · refine xr_ls [(0, .ref m)] ⟨rfl, trivial⟩ ?_
      refine fin0 h' stk (by rw [← eA']) ?_
      rw [← eA']
      exact S
    · omega
  | succ q ih =>
    intro dd h' Mm φ rq tr stk hdd hM hφ S eA
    have S' := S
    obtain ⟨z1, ⟨ne, z2⟩, -⟩ := S'
    have hddc : dd < cnt := by omega
    have e0 : ((List.range cnt).map D).drop dd = D dd :: ((List.range cnt).map D).drop (dd + 1) := by
      have hl : dd < ((List.range cnt).map D).length := by rw [List.length_map, List.length_range]; exact hddc
      rw [List.drop_eq_getElem_cons hl, List.getElem_map, List.getElem_range]
    obtain ⟨g1, g2, g3⟩ := hD dd hddc
    obtain ⟨w1, w2⟩ := y6 dd hddc
    have rep : vRep (D dd).1 (D dd).1.length (fun i => lR (6 * dd + i)) (fun i => lA (6 * dd + i)) (fun i => lB (6 * dd + i)) := (vRep_self (D dd).1).c (fun j hj => ⟨(w2 j hj).1, (w2 j hj).2.1, (w2 j hj).2.2.1⟩)
    rw [e0, vAsk_s] at eA
    have inner : ∀ (f to : Nat) (h' : xH) (Mm : Nat → Bool) (φ : Nat → Nat) (rq tr stk : Nat), to + f = (D dd).1.length → (∀ c, Mm c = true → vOkc c) → (∀ r, r < 4 → φ r < 10) → tlS h h' m κ.1 cnt stk φ Mm rq tr → (if (vTell (vRw ρ) (D dd).1 (D dd).2 f to (Mm, φ, rq, tr)).1 = true then vAsk (vRw ρ) (((List.range cnt).map D).drop (dd + 1)) (vTell (vRw ρ) (D dd).1 (D dd).2 f to (Mm, φ, rq, tr)).2 else (false, (vTell (vRw ρ) (D dd).1 (D dd).2 f to (Mm, φ, rq, tr)).2)) = A → XW (x_rm d 0 0) k_Mod_run L xs (x_mq 0 0 Q) 0 0 183 [(0, .ref m), (1, .int (nI dd)), (2, .int (nI to))] [] n h' := by
      intro f
      induction f with
      | zero =>
        intro to h' Mm φ rq tr stk hto hM hφ S eA
        have S' := S
        obtain ⟨z1, ⟨ne, z2⟩, -⟩ := S'
        have y1' := (z1 (m + 14) (by omega) (by omega) (by omega) (by omega) (by omega)).trans y1
        rw [vTell_0, if_pos rfl] at eA
        refine xr_iload_n a_Mod_run_183 rfl ?_
        refine xr_aload_n a_Mod_run_184 rfl ?_
        apply xr_getf a_Mod_run_185
        · (repeat' (first | assumption | exact va_up_self _ _ _ | refine x_lk (by omega) ?_))
        · rfl
        refine xr_iload_n a_Mod_run_188 rfl ?_
        apply xn_iaload a_Mod_run_189
        · (repeat' (first | assumption | exact va_up_self _ _ _ | refine x_lk (by omega) ?_))
        · omega
        · omega
        rw [w1]
        refine xn_icmp_ge a_Mod_run_190 (by omega) (by omega) (fun b190 => ?_) (fun b190 => ?_)
        · first | refine xn_iinc a_Mod_run_211 rfl (by decide) rfl ?_ | refine xr_iinc a_Mod_run_211 rfl rfl (by decide) rfl ?_
          refine xr_goto a_Mod_run_214 ?_
          refine xr_ls [(0, .ref m), (1, .int (nI (dd + 1)))] ⟨rfl, rfl, trivial⟩ ?_
          exact ih (dd + 1) h' Mm φ rq tr stk (by omega) hM hφ S eA
        · omega
      | succ f ihf =>
        intro to h' Mm φ rq tr stk hto hM hφ S eA
        have S' := S
        obtain ⟨z1, ⟨ne, z2⟩, -⟩ := S'
        have y1' := (z1 (m + 14) (by omega) (by omega) (by omega) (by omega) (by omega)).trans y1
        have htl : to < (D dd).1.length := by omega
        have er : lR (6 * dd + to) = (vAt (D dd).1 to).1 := (w2 to htl).1
        have r4 : (vAt (D dd).1 to).1 < 4 := (g2 _ (vAt_mem htl)).1
        have cT := t_Mod_tell (d := 3) (L := L) (xs := xs) (n := n) (dd := dd) (to := to) (l := (D dd).1) (pt := (D dd).2) (ρ := ρ) S x0 x1 x2 y2 y3 y4 y5 hM hR.1 (fun r hr => ⟨(x5 r hr).1, (x5 r hr).2.2.2⟩) hφ (by omega) rep g1 g2 htl (w2 to htl).2.2.2 (g3 to htl) (by omega)
        rw [er] at cT
        have hM' : ∀ c, vAdd Mm (vRq (vRw ρ) (D dd).1 (D dd).2 to) c = true → vOkc c := fun c w => (vAdd_iff.mp w).elim (hM c) (vRq_ok hR.1 g2 htl (g3 to htl))
        refine xr_iload_n a_Mod_run_183 rfl ?_
        refine xr_aload_n a_Mod_run_184 rfl ?_
        apply xr_getf a_Mod_run_185
        · (repeat' (first | assumption | exact va_up_self _ _ _ | refine x_lk (by omega) ?_))
        · rfl
        refine xr_iload_n a_Mod_run_188 rfl ?_
        apply xn_iaload a_Mod_run_189
        · (repeat' (first | assumption | exact va_up_self _ _ _ | refine x_lk (by omega) ?_))
        · omega
        · omega
        rw [w1]
        refine xn_icmp_ge a_Mod_run_190 (by omega) (by omega) (fun b190 => ?_) (fun b190 => ?_)
        · omega
        · refine xr_aload_n a_Mod_run_193 rfl ?_
          refine xr_iload_n a_Mod_run_194 rfl ?_
          refine xr_iload_n a_Mod_run_195 rfl ?_
          refine xr_invV a_Mod_run_196 (by (repeat' (first | assumption | exact va_up_self _ _ _ | refine x_lk (by omega) ?_))) cT rfl rfl (by omega) (by omega) (by omega) (Nat.le_of_ble_eq_true rfl) ?_
          rintro _ _ h2 ⟨rfl, ⟨e1, rfl, S2⟩ | ⟨e1, e2, rfl, S2⟩ | ⟨e1, e2, rfl, S2⟩⟩
          · have t1 : vTell (vRw ρ) (D dd).1 (D dd).2 (f + 1) to (Mm, φ, rq, tr) = vTell (vRw ρ) (D dd).1 (D dd).2 f (to + 1) (vAdd Mm (vRq (vRw ρ) (D dd).1 (D dd).2 to), φ, rq, tr) := by
              rw [vTell_s]
              exact if_pos e1
            rw [t1] at eA
            refine xn_if_ne a_Mod_run_199 (by omega) (fun b199 => ?_) (fun b199 => ?_)
            · first | refine xn_iinc a_Mod_run_205 rfl (by decide) rfl ?_ | refine xr_iinc a_Mod_run_205 rfl rfl (by decide) rfl ?_
              refine xr_goto a_Mod_run_208 ?_
              refine xr_ls [(0, .ref m), (1, .int (nI dd)), (2, .int (nI (to + 1)))] ⟨rfl, rfl, rfl, trivial⟩ ?_
              exact ihf (to + 1) h2 _ φ rq tr stk (by omega) hM' hφ S2 eA
            · omega
          · have t1 : vTell (vRw ρ) (D dd).1 (D dd).2 (f + 1) to (Mm, φ, rq, tr) = (false, vAdd Mm (vRq (vRw ρ) (D dd).1 (D dd).2 to), va_up φ (vAt (D dd).1 to).1 (φ (vAt (D dd).1 to).1 - 3), rq, tr + 3) := by
              rw [vTell_s]
              exact (if_neg e1).trans (if_pos e2)
            rw [t1, if_neg (by simp)] at eA
            refine xn_if_ne a_Mod_run_199 (by omega) (fun b199 => ?_) (fun b199 => ?_)
            · omega
            · refine xr_bipush a_Mod_run_202 (v := -3) (by decide +kernel) ?_
              refine xr_ireturn a_Mod_run_204 rfl rfl (by omega) (by omega) ?_
              refine fin3 h2 Mm stk (by rw [← eA]) ?_
              rw [← eA]
              exact S2
          · have t1 : vTell (vRw ρ) (D dd).1 (D dd).2 (f + 1) to (Mm, φ, rq, tr) = vTell (vRw ρ) (D dd).1 (D dd).2 f (to + 1) (vAdd Mm (vRq (vRw ρ) (D dd).1 (D dd).2 to), va_up φ (vAt (D dd).1 to).1 0, rq + rqN Mm (vRq (vRw ρ) (D dd).1 (D dd).2 to), tr + rqN Mm (vRq (vRw ρ) (D dd).1 (D dd).2 to) + φ (vAt (D dd).1 to).1) := by
              rw [vTell_s]
              exact (if_neg e1).trans (if_neg e2)
            rw [t1] at eA
            refine xn_if_ne a_Mod_run_199 (by omega) (fun b199 => ?_) (fun b199 => ?_)
            · first | refine xn_iinc a_Mod_run_205 rfl (by decide) rfl ?_ | refine xr_iinc a_Mod_run_205 rfl rfl (by decide) rfl ?_
              refine xr_goto a_Mod_run_208 ?_
              refine xr_ls [(0, .ref m), (1, .int (nI dd)), (2, .int (nI (to + 1)))] ⟨rfl, rfl, rfl, trivial⟩ ?_
              exact ihf (to + 1) h2 _ _ _ _ stk (by omega) hM' (fa_up hφ (fun _ => by omega)) S2 eA
            · omega
    refine xr_iload_n a_Mod_run_173 rfl ?_
    refine xr_aload_n a_Mod_run_174 rfl ?_
    apply xr_getf a_Mod_run_175
    · (repeat' (first | assumption | exact va_up_self _ _ _ | refine x_lk (by omega) ?_))
    · rfl
    refine xn_icmp_ge a_Mod_run_178 (by omega) (by omega) (fun b178 => ?_) (fun b178 => ?_)
    · omega
    · refine xr_iconst a_Mod_run_181 (v := nI 0) (by decide +kernel) ?_
      refine xr_istore_n a_Mod_run_182 (by decide) rfl ?_
      refine xr_ls [(0, .ref m), (1, .int (nI dd)), (2, .int (nI 0))] ⟨rfl, rfl, rfl, trivial⟩ ?_
      exact inner (D dd).1.length 0 h' Mm φ rq tr stk (by omega) hM hφ S eA
theorem rn_G {st ne : Nat} (hd : 4 ≤ d) (p0 : h m = cM m κ.1 cnt st ne 0 0) (pz : isMo h m ρ ν κ cnt D fo 0 0) (hR : vSR ρ) (hc : cnt ≤ 8) (hD : ∀ i, i < cnt → (D i).1.length ≤ 6 ∧ vBdL (D i).1 ∧ vGdO (D i).1 (D i).2) (hA : vAsk (vRw ρ) ((List.range cnt).map D) (fun _ => false, fun r => (ρ r).2.2.2.2, 0, 0) = A)
    (fin3 : ∀ (h0 h' : xH) (Mm : Nat → Bool) (stk : Nat), A.1 = false → xfr (m + 21) (m + 22) h h0 → isMo h0 m ρ ν κ cnt D fo 0 0 → tlS h0 h' m κ.1 cnt stk A.2.2.1 Mm A.2.2.2.1 A.2.2.2.2 → Q (some (.int (-3))) n h')
    (fin0 : ∀ (h0 h' : xH) (stk : Nat), A.1 = true → xfr (m + 21) (m + 22) h h0 → isMo h0 m ρ ν κ cnt D fo 0 0 → tlS h0 h' m κ.1 cnt stk A.2.2.1 A.2.1 A.2.2.2.1 A.2.2.2.2 → XW (x_rm d 0 0) k_Mod_run L xs (x_mq 0 0 Q) 0 0 217 [(0, .ref m)] [] n h') :
    XW (x_rm d 0 0) k_Mod_run L xs (x_mq 0 0 Q) 0 0 149 [(0, .ref m)] [] n h := by
  have pz' := pz
  obtain ⟨-, ⟨rw_, rX, rY, pa, fa, x0, x1, x2, x3, x4, x5⟩, p2, p3, p4, p5, ⟨f19, z19⟩, ⟨f20, z20⟩, ⟨f21, z21⟩, ⟨f22, z22⟩, f23, z23⟩ := pz'
  have clear : ∀ (q i : Nat) (h' : xH) (f : Nat → Nat), i + q = 4624 → xfr (m + 21) (m + 22) h h' → h' (m + 21) = cB 4624 f → (∀ k, k < i → f k = 0) → XW (x_rm d 0 0) k_Mod_run L xs (x_mq 0 0 Q) 0 0 151 [(0, .ref m), (1, .int (nI i))] [] n h' := by
    intro q
    induction q with
    | zero =>
      intro i h' f hi f1 g1 g2
      have pz2 : isMo h' m ρ ν κ cnt D fo 0 0 := ⟨⟨st, ne, f1.get (by omega) p0⟩, ⟨rw_, rX, rY, pa, fa, f1.get (by omega) x0, f1.get (by omega) x1, f1.get (by omega) x2, f1.get (by omega) x3, f1.get (by omega) x4, x5⟩, p2.sm (f1.sm (by omega)), p3.sm (f1.sm (by omega)), p4.sm (f1.sm (by omega)), p5.sm (f1.sm (by omega)), ⟨f19, f1.get (by omega) z19⟩, ⟨f20, f1.get (by omega) z20⟩, ⟨f, g1⟩, ⟨f22, f1.get (by omega) z22⟩, f23, f1.get (by omega) z23⟩
      refine xr_iload_n a_Mod_run_151 rfl ?_
      refine xr_sipush a_Mod_run_152 (v := nI 4624) (by decide +kernel) ?_
      refine xn_icmp_ge a_Mod_run_155 (by omega) (by omega) (fun b155 => ?_) (fun b155 => ?_)
      · refine xr_iconst a_Mod_run_171 (v := nI 0) (by decide +kernel) ?_
        refine xr_istore_n a_Mod_run_172 (by decide) rfl ?_
        refine xr_ls [(0, .ref m), (1, .int (nI 0))] ⟨rfl, rfl, trivial⟩ ?_
        refine rn_H (h := h') (A := A) hd pz2 hR hc hD (fun h2 Mm stk e S => fin3 h' h2 Mm stk e f1 pz2 S) (fun h2 stk e S => fin0 h' h2 stk e f1 pz2 S) cnt 0 h' (fun _ => false) (fun r => (ρ r).2.2.2.2) 0 0 st (by omega) (fun c w => by cases w) (fun r hr => (hR.2 r hr).2) ⟨fun _ _ _ _ _ _ => rfl, ⟨ne, f1.get (by omega) p0⟩, ⟨fa, f1.get (by omega) x4, fun r hr => (x5 r hr).2.2.1⟩, ⟨f20, f1.get (by omega) z20⟩, ⟨f, g1, fun k hk => by rw [g2 k (by omega), vB_f (fun ⟨c, w, _⟩ => by cases w)]⟩, f22, f1.get (by omega) z22⟩ ?_
        rw [List.drop_zero]
        exact hA
      · omega
    | succ q ih =>
      intro i h' f hi f1 g1 g2
      have p0' := f1.get (by omega) p0
      refine xr_iload_n a_Mod_run_151 rfl ?_
      refine xr_sipush a_Mod_run_152 (v := nI 4624) (by decide +kernel) ?_
      refine xn_icmp_ge a_Mod_run_155 (by omega) (by omega) (fun b155 => ?_) (fun b155 => ?_)
      · omega
      · refine xr_aload_n a_Mod_run_158 rfl ?_
        apply xr_getf a_Mod_run_159
        · (repeat' (first | assumption | exact va_up_self _ _ _ | refine x_lk (by omega) ?_))
        · rfl
        refine xr_iload_n a_Mod_run_162 rfl ?_
        refine xr_iconst a_Mod_run_163 (v := nI 0) (by decide +kernel) ?_
        apply xn_bastore a_Mod_run_164
        · (repeat' (first | assumption | exact va_up_self _ _ _ | refine x_lk (by omega) ?_))
        · omega
        · omega
        · omega
        first | refine xn_iinc a_Mod_run_165 rfl (by decide) rfl ?_ | refine xr_iinc a_Mod_run_165 rfl rfl (by decide) rfl ?_
        refine xr_goto a_Mod_run_168 ?_
        refine xr_ls [(0, .ref m), (1, .int (nI (i + 1)))] ⟨rfl, rfl, trivial⟩ ?_
        refine ih (i + 1) _ _ (by omega) (f1.up (by omega) (by omega)) (up_self _ _ _) (fun k hk => ?_)
        by_cases ek : k = i
        · rw [ek, up_self]
        · rw [up_ne ek]; exact g2 k (by omega)
  refine xr_iconst a_Mod_run_149 (v := nI 0) (by decide +kernel) ?_
  refine xr_istore_n a_Mod_run_150 (by decide) rfl ?_
  refine xr_ls [(0, .ref m), (1, .int (nI 0))] ⟨rfl, rfl, trivial⟩ ?_
  exact clear 4624 0 h f21 (by omega) xfr.rf z21 (fun k hk => absurd hk (Nat.not_lt_zero k))
end T69l

