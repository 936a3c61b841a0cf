/-! the reference: run, its end -/
section T69k
variable {d L : Nat} {xs : Nat → Int32} {n : Nat} {h : xH} {m : Nat} {ρ : Nat → vRel} {ν : Nat → vVw} {κ : vAL} {cnt : Nat} {D : Nat → vPd} {rq tr : Nat} {Q : xQ} {fo : Nat → Bool}
theorem rn_K {f : Nat → Nat} {PR : Nat → Prop} {F : Nat → Bool} (hd : 3 ≤ d) (pz : isMo h m ρ ν κ cnt D (fun _ => false) rq tr) (cp : h (m + 23) = cB 768 f) (hf : ∀ k, k < 768 → f k = vB (PR k)) (hQ : vSQ κ) (hg : vSf κ.1 κ.2.2.1 κ.2.2.2)
    (hF : ∀ (qQ qA qB : Nat → Nat), (∀ i, i < κ.1 → qQ i = κ.2.1 i ∧ qA i = κ.2.2.1 i ∧ qB i = κ.2.2.2 i) → ∀ c, F c = true ↔ ∃ θ, sEx qA qB (fun _ x => x / 16) (fun _ x => x % 16) (fun _ => 256) (fun i x => PR (256 * qQ i + x)) κ.1 (fun _ => 0) 0 θ ∧ c = 16 * θ 16 + θ 17)
    (fin : ∀ h', xfr m (m + 25) h h' → isMo h' m ρ ν κ cnt D F rq tr → Q (some (.int (nI (vCnt F 256)))) n h') : XW (x_rm d 0 0) k_Mod_run L xs (x_mq 0 0 Q) 0 0 292 [(0, .ref m)] [] n h := by
  obtain ⟨⟨st, ne, p0⟩, p1, p2, p3, p4, ⟨g, p5, p5'⟩, p6⟩ := pz
  obtain ⟨⟨f19, z19⟩, ⟨f20, z20⟩, ⟨f21, z21⟩, ⟨f22, z22⟩, f23, z23⟩ := p6
  have p3' := p3
  obtain ⟨qQ, qA, qB, s1, s2, s3, s4⟩ := p3'
  have hk3 := hQ.1
  have hq : ∀ i, i < κ.1 → qQ i = κ.2.1 i ∧ qA i = κ.2.2.1 i ∧ qB i = κ.2.2.2 i := fun i hi => s4 i (by omega)
  have sf : vSf κ.1 qA qB := by
    obtain ⟨⟨i, i1, i2⟩, j, j1, j2⟩ := hg
    obtain ⟨-, e1, e2⟩ := hq i i1
    obtain ⟨-, e3, e4⟩ := hq j j1
    exact ⟨⟨i, i1, by rw [e1, e2]; exact i2⟩, j, j1, by rw [e3, e4]; exact j2⟩
  have h0 : 0 < κ.1 := by
    obtain ⟨⟨i, i1, -⟩, -⟩ := hg
    omega
  have cS := t_Mod_solve (d := 2) (L := L) (xs := xs) (n := n) (W := fun _ => False) (pk := f20) p0 s1 s2 s3 cp hf ⟨fun _ _ _ => rfl, z20, g, p5, fun k hk => by rw [p5' k hk, vB_f id]; rfl⟩ h0 hk3 (fun j hj => by
    obtain ⟨e0, e1, e2⟩ := hq j hj
    rw [e0, e1, e2]
    exact hQ.2 j hj) sf (by omega)
  refine xr_aload_n a_Mod_run_292 rfl ?_
  refine xr_invV a_Mod_run_293 (by (repeat' (first | assumption | exact va_up_self _ _ _ | refine x_lk (by omega) ?_))) (cS) rfl rfl (by omega) (by omega) (by omega) (Nat.le_of_ble_eq_true rfl) ?_
  rintro _ _ h2 ⟨rfl, rfl, W', pk', eW, u1, u2, g', u3, u4⟩
  have q0 := (u1 m (by omega) (by omega)).trans p0
  have qF : moF h2 m F := ⟨g', u3, fun k hk => by
    rw [u4 k hk]
    exact vB_bool ((hF qQ qA qB hq k).trans ((eW k).trans ⟨fun w => w.elim False.elim id, Or.inr⟩).symm)⟩
  refine xr_aload_n a_Mod_run_296 rfl ?_
  refine xr_invV a_Mod_run_297 (by (repeat' (first | assumption | exact va_up_self _ _ _ | refine x_lk (by omega) ?_))) (t_Mod_results (d := 2) qF q0) rfl rfl (by omega) (by omega) (by omega) (Nat.le_of_ble_eq_true rfl) ?_
  rintro _ _ h1 ⟨rfl, rfl, rfl⟩
  refine xr_ireturn a_Mod_run_300 rfl rfl (by omega) (by omega) ?_
  exact fin h2 (fun q hq => u1 q (by omega) (by omega)) ⟨⟨st, ne, q0⟩, p1.sm (fun q g1 g2 => u1 q (by omega) (by omega)), p2.sm (fun q g1 g2 => u1 q (by omega) (by omega)), p3.sm (fun q g1 g2 => u1 q (by omega) (by omega)), p4.sm (fun q g1 g2 => u1 q (by omega) (by omega)), qF, ⟨f19, (u1 _ (by omega) (by omega)).trans z19⟩, ⟨pk', u2⟩, ⟨f21, (u1 _ (by omega) (by omega)).trans z21⟩, ⟨f22, (u1 _ (by omega) (by omega)).trans z22⟩, f23, (u1 _ (by omega) (by omega)).trans z23⟩
theorem isMo.pairs {h' : xH} {f : Nat → Nat} (p : isMo h m ρ ν κ cnt D fo rq tr) (q : xfr (m + 23) (m + 24) h h') (z : h' (m + 23) = cB 768 f) : isMo h' m ρ ν κ cnt D fo rq tr := by
  obtain ⟨⟨st, ne, p0⟩, p1, p2, p3, p4, p5, ⟨f19, z19⟩, ⟨f20, z20⟩, ⟨f21, z21⟩, ⟨f22, z22⟩, f23, z23⟩ := p
  exact ⟨⟨st, ne, q.get (by omega) p0⟩, p1.sm (q.sm (by omega)), p2.sm (q.sm (by omega)), p3.sm (q.sm (by omega)), p4.sm (q.sm (by omega)), p5.sm (q.sm (by omega)), ⟨f19, q.get (by omega) z19⟩, ⟨f20, q.get (by omega) z20⟩, ⟨f21, q.get (by omega) z21⟩, ⟨f22, q.get (by omega) z22⟩, f, z⟩
theorem rn_J (hd : 3 ≤ d) (pz : isMo h m ρ ν κ cnt D fo rq tr) (hV : vSV ν) (hR : vOkR ρ)
    (fin : ∀ (h' : xH) (f : Nat → Nat), xfr (m + 23) (m + 24) h h' → h' (m + 23) = cB 768 f → (∀ k, k < 768 → f k = vB (prA ρ ν 3 k)) → XW (x_rm d 0 0) k_Mod_run L xs (x_mq 0 0 Q) 0 0 292 [(0, .ref m)] [] n h') :
    ∀ (q v : Nat) (h' : xH) (f : Nat → Nat), v + q = 3 → xfr (m + 23) (m + 24) h h' → h' (m + 23) = cB 768 f → (∀ k, k < 768 → f k = vB (prA ρ ν v k)) → XW (x_rm d 0 0) k_Mod_run L xs (x_mq 0 0 Q) 0 0 241 [(0, .ref m), (1, .int (nI v))] [] n h' := by
  have pz' := pz
  obtain ⟨⟨st, ne, p0⟩, ⟨rw_, rX, rY, pa, fa, x0, x1, x2, x3, x4, x5⟩, ⟨ru, na, aR, aA, aB, c1, c2, c3, c4, c5, c6⟩, -, -, -, -⟩ := pz'
  have hVi := vSV_iff.mp hV
  intro q
  induction q with
  | zero =>
    intro v h' f hv f1 g1 g2
    have ev : v = 3 := by omega
    subst ev
    refine xr_iload_n a_Mod_run_241 rfl ?_
    refine xr_iconst a_Mod_run_242 (v := nI 3) (by decide +kernel) ?_
    refine xn_icmp_ge a_Mod_run_243 (by omega) (by omega) (fun b243 => ?_) (fun b243 => ?_)
    · refine xr_ls [(0, .ref m)] ⟨rfl, trivial⟩ ?_
      exact fin h' f f1 g1 g2
    · omega
  | succ q ih =>
    intro v h' f hv f1 g1 g2
    have hv3 : v < 3 := by omega
    obtain ⟨r1, r2⟩ := c6 v hv3
    obtain ⟨n1, n2⟩ := hVi v hv3
    have inner : ∀ (u x : Nat) (h2 : xH) (f2 : Nat → Nat), x + u = (ν v).1 → xfr (m + 23) (m + 24) h h2 → h2 (m + 23) = cB 768 f2 → (∀ k, k < 768 → f2 k = vB (prA ρ ν v k ∨ ∃ x', x' < x ∧ prP ρ ν v x' k)) → XW (x_rm d 0 0) k_Mod_run L xs (x_mq 0 0 Q) 0 0 248 [(0, .ref m), (1, .int (nI v)), (2, .int (nI x))] [] n h2 := by
      intro u
      induction u with
      | zero =>
        intro x h2 f2 hx ff s1 s2
        have p02 := (ff m (by omega)).trans p0
        have c12 := (ff (m + 6) (by omega)).trans c1
        have ex : x = (ν v).1 := by omega
        refine xr_iload_n a_Mod_run_248 rfl ?_
        refine xr_aload_n a_Mod_run_249 rfl ?_
        apply xr_getf a_Mod_run_250
        · (repeat' (first | assumption | exact va_up_self _ _ _ | refine x_lk (by omega) ?_))
        · rfl
        refine xr_iload_n a_Mod_run_253 rfl ?_
        apply xn_iaload a_Mod_run_254
        · (repeat' (first | assumption | exact va_up_self _ _ _ | refine x_lk (by omega) ?_))
        · omega
        · omega
        rw [r1]
        refine xn_icmp_ge a_Mod_run_255 (by omega) (by omega) (fun b255 => ?_) (fun b255 => ?_)
        · first | refine xn_iinc a_Mod_run_286 rfl (by decide) rfl ?_ | refine xr_iinc a_Mod_run_286 rfl rfl (by decide) rfl ?_
          refine xr_goto a_Mod_run_289 ?_
          refine xr_ls [(0, .ref m), (1, .int (nI (v + 1)))] ⟨rfl, rfl, trivial⟩ ?_
          refine ih (v + 1) h2 f2 (by omega) ff s1 (fun k hk => (s2 k hk).trans (vB_c ⟨?_, ?_⟩))
          · rintro (⟨v', w1, w2⟩ | ⟨x', w1, w2⟩)
            · exact ⟨v', by omega, w2⟩
            · exact ⟨v, by omega, x', by omega, w2⟩
          · rintro ⟨v', w1, x', w2, w3⟩
            by_cases e : v' = v
            · subst e; exact Or.inr ⟨x', by omega, w3⟩
            · exact Or.inl ⟨v', by omega, x', w2, w3⟩
        · omega
      | succ u ihu =>
        intro x h2 f2 hx ff s1 s2
        have p02 := (ff m (by omega)).trans p0
        have c12 := (ff (m + 6) (by omega)).trans c1
        have hxl : x < (ν v).1 := by omega
        have hx2 : x < 2 := by omega
        obtain ⟨u1, u2⟩ := r2 x hx2
        have rk := n2 x hxl
        have cF := t_Mod_safeRule (d := 2) (L := L) (xs := xs) (n := n) (pz.pairs ff s1) hv3 hx2 rk.1 (fun j hj => by have := rk.2 j hj; exact ⟨by omega, by omega⟩)
        have next : ∀ (h3 : xH) (f3 : Nat → Nat), xfr (m + 23) (m + 24) h h3 → h3 (m + 23) = cB 768 f3 → (∀ k, k < 768 → f3 k = vB ((prA ρ ν v k ∨ ∃ x', x' < x ∧ prP ρ ν v x' k) ∨ prP ρ ν v x k)) → XW (x_rm d 0 0) k_Mod_run L xs (x_mq 0 0 Q) 0 0 280 [(0, .ref m), (1, .int (nI v)), (2, .int (nI x))] [] n h3 := by
          intro h3 f3 fg y1 y2
          first | refine xn_iinc a_Mod_run_280 rfl (by decide) rfl ?_ | refine xr_iinc a_Mod_run_280 rfl rfl (by decide) rfl ?_
          refine xr_goto a_Mod_run_283 ?_
          refine xr_ls [(0, .ref m), (1, .int (nI v)), (2, .int (nI (x + 1)))] ⟨rfl, rfl, rfl, trivial⟩ ?_
          refine ihu (x + 1) h3 f3 (by omega) fg y1 (fun k hk => (y2 k hk).trans (vB_c ?_))
          rw [or_assoc]
          refine or_congr Iff.rfl ⟨?_, ?_⟩
          · rintro (⟨x', w1, w2⟩ | w)
            · exact ⟨x', by omega, w2⟩
            · exact ⟨x, by omega, w⟩
          · rintro ⟨x', w1, w2⟩
            by_cases e : x' = x
            · subst e; exact Or.inr w2
            · exact Or.inl ⟨x', by omega, w2⟩
        refine xr_iload_n a_Mod_run_248 rfl ?_
        refine xr_aload_n a_Mod_run_249 rfl ?_
        apply xr_getf a_Mod_run_250
        · (repeat' (first | assumption | exact va_up_self _ _ _ | refine x_lk (by omega) ?_))
        · rfl
        refine xr_iload_n a_Mod_run_253 rfl ?_
        apply xn_iaload a_Mod_run_254
        · (repeat' (first | assumption | exact va_up_self _ _ _ | refine x_lk (by omega) ?_))
        · omega
        · omega
        rw [r1]
        refine xn_icmp_ge a_Mod_run_255 (by omega) (by omega) (fun b255 => ?_) (fun b255 => ?_)
        · omega
        · refine xr_aload_n a_Mod_run_258 rfl ?_
          refine xr_iconst a_Mod_run_259 (v := nI 2) (by decide +kernel) ?_
          refine xr_iload_n a_Mod_run_260 rfl ?_
          first | refine xn_imul a_Mod_run_261 ?_ | refine xr_imul a_Mod_run_261 ?_
          refine xr_iload_n a_Mod_run_262 rfl ?_
          first | refine xn_iadd a_Mod_run_263 ?_ | refine xr_iadd a_Mod_run_263 ?_
          refine xr_invV a_Mod_run_264 (by (repeat' (first | assumption | exact va_up_self _ _ _ | refine x_lk (by omega) ?_))) (cF) rfl rfl (by omega) (by omega) (by omega) (Nat.le_of_ble_eq_true rfl) ?_
          rintro _ _ h1 ⟨rfl, rfl, rfl⟩
          refine xn_if_eq a_Mod_run_267 (vB_lt31 _) (fun b267 => ?_) (fun b267 => ?_)
          · exact next h2 f2 ff s1 (fun k hk => (s2 k hk).trans (vB_c ⟨Or.inl, fun w => w.elim id (fun w => absurd w.1 (vB_0 b267))⟩))
          · have sf := vB_1 b267
            have cN := t_Mod_mean (d := 2) (L := L) (xs := xs) (n := n) (v := v) (x := x) (y := (ν v).2 x) (ρ := ρ) p02 ((ff (m + 1) (by omega)).trans x0) ((ff (m + 2) (by omega)).trans x1) ((ff (m + 3) (by omega)).trans x2) ((ff (m + 7) (by omega)).trans c2) ((ff (m + 8) (by omega)).trans c3) ((ff (m + 9) (by omega)).trans c4) ((ff (m + 10) (by omega)).trans c5) s1 s2 (fun r hr => ⟨(x5 r hr).1, (x5 r hr).2.2.2⟩) hR hv3 hx2 u1 u2 rk sf (by omega)
            refine xr_aload_n a_Mod_run_270 rfl ?_
            refine xr_iload_n a_Mod_run_271 rfl ?_
            refine xr_iconst a_Mod_run_272 (v := nI 2) (by decide +kernel) ?_
            refine xr_iload_n a_Mod_run_273 rfl ?_
            first | refine xn_imul a_Mod_run_274 ?_ | refine xr_imul a_Mod_run_274 ?_
            refine xr_iload_n a_Mod_run_275 rfl ?_
            first | refine xn_iadd a_Mod_run_276 ?_ | refine xr_iadd a_Mod_run_276 ?_
            refine xr_invV a_Mod_run_277 (by (repeat' (first | assumption | exact va_up_self _ _ _ | refine x_lk (by omega) ?_))) (cN) rfl rfl (by omega) (by omega) (by omega) (Nat.le_of_ble_eq_true rfl) ?_
            rintro _ _ h3 ⟨rfl, rfl, fg, f3, y1, y2⟩
            refine xr_ls [(0, .ref m), (1, .int (nI v)), (2, .int (nI x))] ⟨rfl, rfl, rfl, trivial⟩ ?_
            refine next h3 f3 (ff.tr fg) y1 (fun k hk => (y2 k hk).trans (vB_c ?_))
            exact or_congr Iff.rfl ⟨fun w => ⟨sf, w⟩, fun w => w.2⟩
    refine xr_iload_n a_Mod_run_241 rfl ?_
    refine xr_iconst a_Mod_run_242 (v := nI 3) (by decide +kernel) ?_
    refine xn_icmp_ge a_Mod_run_243 (by omega) (by omega) (fun b243 => ?_) (fun b243 => ?_)
    · omega
    · refine xr_iconst a_Mod_run_246 (v := nI 0) (by decide +kernel) ?_
      refine xr_istore_n a_Mod_run_247 (by decide) rfl ?_
      refine xr_ls [(0, .ref m), (1, .int (nI v)), (2, .int (nI 0))] ⟨rfl, rfl, rfl, trivial⟩ ?_
      exact inner (ν v).1 0 h' f (by omega) f1 g1 (fun k hk => (g2 k hk).trans (vB_c ⟨Or.inl, fun w => w.elim id (fun ⟨x', hx', _⟩ => absurd hx' (Nat.not_lt_zero x'))⟩))
theorem rn_I (hd : 3 ≤ d) (pz : isMo h m ρ ν κ cnt D fo rq tr) (hV : vSV ν) (hR : vOkR ρ)
    (fin : ∀ (h' : xH) (f : Nat → Nat), xfr (m + 23) (m + 24) h h' → h' (m + 23) = cB 768 f → (∀ k, k < 768 → f k = vB (prA ρ ν 3 k)) → XW (x_rm d 0 0) k_Mod_run L xs (x_mq 0 0 Q) 0 0 292 [(0, .ref m)] [] n h') :
    XW (x_rm d 0 0) k_Mod_run L xs (x_mq 0 0 Q) 0 0 217 [(0, .ref m)] [] n h := by
  have pz' := pz
  obtain ⟨⟨st, ne, p0⟩, -, -, -, -, -, -, -, -, -, f0, z0⟩ := pz'
  have clear : ∀ (q i : Nat) (h' : xH) (f : Nat → Nat), i + q = 768 → xfr (m + 23) (m + 24) h h' → h' (m + 23) = cB 768 f → (∀ k, k < i → f k = 0) → XW (x_rm d 0 0) k_Mod_run L xs (x_mq 0 0 Q) 0 0 219 [(0, .ref m), (1, .int (nI i))] [] n h' := by
    intro q
    induction q with
    | zero =>
      intro i h' f hi f1 g1 g2
      refine xr_iload_n a_Mod_run_219 rfl ?_
      refine xr_sipush a_Mod_run_220 (v := nI 768) (by decide +kernel) ?_
      refine xn_icmp_ge a_Mod_run_223 (by omega) (by omega) (fun b223 => ?_) (fun b223 => ?_)
      · refine xr_iconst a_Mod_run_239 (v := nI 0) (by decide +kernel) ?_
        refine xr_istore_n a_Mod_run_240 (by decide) rfl ?_
        refine xr_ls [(0, .ref m), (1, .int (nI 0))] ⟨rfl, rfl, trivial⟩ ?_
        exact rn_J hd pz hV hR fin 3 0 h' f (by omega) f1 g1 (fun k hk => by rw [g2 k (by omega), vB_f (fun ⟨v', hv', _⟩ => absurd hv' (Nat.not_lt_zero v'))])
      · omega
    | succ q ih =>
      intro i h' f hi f1 g1 g2
      have p0' := f1.get (by omega) p0
      refine xr_iload_n a_Mod_run_219 rfl ?_
      refine xr_sipush a_Mod_run_220 (v := nI 768) (by decide +kernel) ?_
      refine xn_icmp_ge a_Mod_run_223 (by omega) (by omega) (fun b223 => ?_) (fun b223 => ?_)
      · omega
      · refine xr_aload_n a_Mod_run_226 rfl ?_
        apply xr_getf a_Mod_run_227
        · (repeat' (first | assumption | exact va_up_self _ _ _ | refine x_lk (by omega) ?_))
        · rfl
        refine xr_iload_n a_Mod_run_230 rfl ?_
        refine xr_iconst a_Mod_run_231 (v := nI 0) (by decide +kernel) ?_
        apply xn_bastore a_Mod_run_232
        · (repeat' (first | assumption | exact va_up_self _ _ _ | refine x_lk (by omega) ?_))
        · omega
        · omega
        · omega
        first | refine xn_iinc a_Mod_run_233 rfl (by decide) rfl ?_ | refine xr_iinc a_Mod_run_233 rfl rfl (by decide) rfl ?_
        refine xr_goto a_Mod_run_236 ?_
        refine xr_ls [(0, .ref m), (1, .int (nI (i + 1)))] ⟨rfl, rfl, trivial⟩ ?_
        refine ih (i + 1) _ _ (by omega) (f1.up (by omega) (by omega)) (up_self _ _ _) (fun k hk => ?_)
        by_cases ek : k = i
        · rw [ek, up_self]
        · rw [up_ne ek]; exact g2 k (by omega)
  refine xr_iconst a_Mod_run_217 (v := nI 0) (by decide +kernel) ?_
  refine xr_istore_n a_Mod_run_218 (by decide) rfl ?_
  refine xr_ls [(0, .ref m), (1, .int (nI 0))] ⟨rfl, rfl, trivial⟩ ?_
  exact clear 768 0 h f0 (by omega) xfr.rf z0 (fun k hk => absurd hk (Nat.not_lt_zero k))
end T69k

