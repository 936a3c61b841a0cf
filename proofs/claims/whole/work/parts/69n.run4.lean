/-! the reference: run -/
theorem vGo_nd {ν : Nat → vVw} {κ : vAL} (hg : vGood ν κ) {k : Nat} (hk : k < (vCh (vVl ν) (vLs κ)).length) : 1 ≤ (vRd (vVl ν) (vLs κ) k).length := by
  obtain ⟨a, ha, -⟩ := vRd_has hg hk (t := 16) (Or.inl rfl)
  exact List.length_pos_of_mem ha
theorem vUn_nd {ν : Nat → vVw} {κ : vAL} (hg : vGood ν κ) {k : Nat} (hk : k < (vCh (vVl ν) (vLs κ)).length) : 1 ≤ ((vDis (vVl ν) (vLs κ)).getD k []).length := Nat.le_trans (vGo_nd hg hk) (vRed_len _ _ _)
theorem vDis_pk {V : vV} {q : List vA} {k : Nat} (hk : k < (vCh V q).length) : (vDis V q).getD k [] = vUnfL 0 q (vPk V q k) := by
  unfold vDis
  rw [List.getD_eq_getElem?_getD, List.getElem?_map, vCh_get V q k (by rw [← vCh_len]; exact hk)]
  rfl
section T69n
variable {d L : Nat} {xs : Nat → Int32} {n : Nat} {h : xH} {m : Nat} {ρ : Nat → vRel} {ν : Nat → vVw} {κ : vAL} {cnt : Nat} {D : Nat → vPd} {fo : Nat → Bool} {rq tr : Nat}
theorem t_Mod_run (p : isMo h m ρ ν κ cnt D fo rq tr) (hR : vSR ρ) (hV : vSV ν) (hQ : vSQ κ) (hd : 4 ≤ d) : XM d 0 0 k_Mod_run L xs [.ref m] n h (qP n (fRun ρ ν κ cnt D fo rq tr).1 (fun h' => xfr m (m + 25) h h' ∧ isMo h' m (fRun ρ ν κ cnt D fo rq tr).2.1 ν κ (fRun ρ ν κ cnt D fo rq tr).2.2.1 (fRun ρ ν κ cnt D fo rq tr).2.2.2.1 (fRun ρ ν κ cnt D fo rq tr).2.2.2.2.1 (fRun ρ ν κ cnt D fo rq tr).2.2.2.2.2.1 (fRun ρ ν κ cnt D fo rq tr).2.2.2.2.2.2)) := by
  have cG := t_Mod_good (d := 1) (L := L) (xs := xs) (n := n) p hV hQ (by omega)
  have p' := p
  obtain ⟨⟨st, ne, p0⟩, pR, pV, pQ, pP, pF_, pS⟩ := p'
  refine XM.of rfl (Nat.le_of_ble_eq_true rfl) ?_
  refine xr_aload_n a_Mod_run_0 rfl ?_
  refine xr_invV a_Mod_run_1 (by (repeat' (first | assumption | exact va_up_self _ _ _ | refine x_lk (by omega) ?_))) (cG) rfl rfl (by omega) (by omega) (by omega) (Nat.le_of_ble_eq_true rfl) ?_
  rintro _ _ h1 ⟨rfl, rfl, rfl⟩
  refine xn_if_ne a_Mod_run_4 (vB_lt31 _) (fun b4 => ?_) (fun b4 => ?_)
  · have hg := vB_1 b4
    have eF : fRun ρ ν κ cnt D fo rq tr = _ := vIf_f (fun w => w hg)
    have ok := hQ.ok hV
    have hk3 := hQ.1
    have n8 := ok.len8
    have hVi := vSV_iff.mp hV
    have eN : (vCh (vVl ν) (vLs κ)).length = vPr (vVl ν) (vLs κ) := vCh_len _ _
    have kl8 := pK_8 ok
    -- what is kept of h in the end
    have base : ∀ h' : xH, (∀ q, q ≠ m → (q < m + 14 ∨ m + 25 ≤ q) → h' q = h q) → moR h' m ρ ∧ moV h' m ν ∧ moQ h' m κ ∧ xfr m (m + 25) h h' := fun h' g => ⟨pR.sm (fun q a b => g q (by omega) (by omega)), pV.sm (fun q a b => g q (by omega) (by omega)), pQ.sm (fun q a b => g q (by omega) (by omega)), fun q hq => g q (by omega) (by omega)⟩
    obtain ⟨sz, lR, lA, lB, md, y1, y2, y3, y4, y5, -⟩ := pP
    obtain ⟨⟨f19, z19⟩, ⟨f20, z20⟩, ⟨f21, z21⟩, ⟨f22, z22⟩, f23, z23⟩ := pS
    obtain ⟨f24, z24, -⟩ := pF_
    -- the asking and the results
    have last : ∀ (h' : xH) (st' ne' : Nat), ¬ pBl ρ ν κ → xfr m (m + 25) h h' → h' m = cM m κ.1 (pK ν κ).length st' ne' 0 0 → isMo h' m ρ ν κ (pK ν κ).length (pD ρ ν κ) (fun _ => false) 0 0 → XW (x_rm d 0 0) k_Mod_run L xs (x_mq 0 0 (qP n (fRun ρ ν κ cnt D fo rq tr).1 (fun h' => xfr m (m + 25) h h' ∧ isMo h' m (fRun ρ ν κ cnt D fo rq tr).2.1 ν κ (fRun ρ ν κ cnt D fo rq tr).2.2.1 (fRun ρ ν κ cnt D fo rq tr).2.2.2.1 (fRun ρ ν κ cnt D fo rq tr).2.2.2.2.1 (fRun ρ ν κ cnt D fo rq tr).2.2.2.2.2.1 (fRun ρ ν κ cnt D fo rq tr).2.2.2.2.2.2))) 0 0 149 [(0, .ref m)] [] n h' := by
      intro h' st' ne' nb f1 q0 pz
      have eF2 : fRun ρ ν κ cnt D fo rq tr = vIf ((pA ρ ν κ).1 = false) (-3, vFa ρ (pA ρ ν κ).2.2.1, (pK ν κ).length, pD ρ ν κ, (fun _ => false), (pA ρ ν κ).2.2.2.1, (pA ρ ν κ).2.2.2.2) (nI (vCnt (pF ρ ν κ) 256), vFa ρ (pA ρ ν κ).2.2.1, (pK ν κ).length, pD ρ ν κ, pF ρ ν κ, (pA ρ ν κ).2.2.2.1, (pA ρ ν κ).2.2.2.2) := eF.trans (vIf_f nb)
      have hD : ∀ i, i < (pK ν κ).length → (pD ρ ν κ i).1.length ≤ 6 ∧ vBdL (pD ρ ν κ i).1 ∧ vGdO (pD ρ ν κ i).1 (pD ρ ν κ i).2 := by
        intro i hi
        obtain ⟨b1, b2⟩ := pD_ok (ρ := ρ) ok hi
        have hbf : (pO ρ ν κ i).2.2 = false := by
          cases z : (pO ρ ν κ i).2.2 with
          | false => rfl
          | true => exact absurd ⟨i, hi, z⟩ nb
        exact ⟨b1, b2, vOrd_good (al := fun i => (ρ i).2.2.2.1) (pL ν κ i).length 0 (pL ν κ i) (fun _ => none) (by omega) (fun j hj => by omega) hbf⟩
      refine rn_G (A := pA ρ ν κ) hd q0 pz hR kl8 hD rfl (fun h0 h2 Mm stk e g0 pz0 S => ?_) (fun h0 h2 stk e g0 pz0 S => ?_)
      · have fr : xfr m (m + 25) h h2 := fun q hq => (S.1 q (by omega) (by omega) (by omega) (by omega) (by omega)).trans ((g0 q (by omega)).trans (f1 q hq))
        rw [eF2, vIf_t e]
        exact ⟨rfl, rfl, fr, tlS.mo pz0 S⟩
      · have fr : xfr m (m + 25) h h2 := fun q hq => (S.1 q (by omega) (by omega) (by omega) (by omega) (by omega)).trans ((g0 q (by omega)).trans (f1 q hq))
        have pz2 := tlS.mo pz0 S
        have hRv : vOkR (vFa ρ (pA ρ ν κ).2.2.1) := hR.1
        refine rn_I (ρ := vFa ρ (pA ρ ν κ).2.2.1) (by omega) pz2 hV hRv (fun h3 f g3 y3 y3' => ?_)
        refine rn_K (F := pF ρ ν κ) (by omega) (pz2.pairs g3 y3) y3 y3' hQ hg.1 (fun qQ qA qB hq c => pF_ex hR.1 hV hQ hg hq c) (fun h4 g4 pz4 => ?_)
        rw [eF2, vIf_f (by rw [e]; decide)]
        exact ⟨rfl, rfl, fun q hq => (g4 q hq).trans ((g3 q (by omega)).trans (fr q hq)), pz4⟩
    -- the order
    have order : ∀ (h' : xH) (st' : Nat) (sz' lR' lA' lB' dr' : Nat → Nat) (pk' : Nat → Option Nat), (∀ q, q ≠ m → (q < m + 14 ∨ m + 21 ≤ q) → h' q = h q) → h' (m + 18) = cO 48 md → h' m = cM m κ.1 (pK ν κ).length st' ne rq tr → moL h' m sz' lR' lA' lB' pk' → h' (m + 19) = cB 8 dr' → (∀ j k, (pK ν κ)[j]? = some k → moD (vRd (vVl ν) (vLs κ) k) j sz' lR' lA' lB') → XW (x_rm d 0 0) k_Mod_run L xs (x_mq 0 0 (qP n (fRun ρ ν κ cnt D fo rq tr).1 (fun h' => xfr m (m + 25) h h' ∧ isMo h' m (fRun ρ ν κ cnt D fo rq tr).2.1 ν κ (fRun ρ ν κ cnt D fo rq tr).2.2.1 (fRun ρ ν κ cnt D fo rq tr).2.2.2.1 (fRun ρ ν κ cnt D fo rq tr).2.2.2.2.1 (fRun ρ ν κ cnt D fo rq tr).2.2.2.2.2.1 (fRun ρ ν κ cnt D fo rq tr).2.2.2.2.2.2))) 0 0 81 [(0, .ref m)] [] n h' := by
      intro h' st' sz' lR' lA' lB' dr' pk' g18 gm q0 ql qd q1
      refine rn_D q0 ((g18 _ (by omega) (by omega)).trans z24) (fun h2 f2 e1 e2 e3 e4 => ?_)
      obtain ⟨t0, t1, t2, t3, t4⟩ := ql
      obtain ⟨rw_, rX, rY, pa, fa, x0, x1, x2, x3, x4, x5⟩ := pR
      have hLs : ∀ i, i < (pK ν κ).length → moD ((fun j => vRd (vVl ν) (vLs κ) ((pK ν κ).getD j 0)) i) i sz' lR' lA' lB' ∧ ((fun j => vRd (vVl ν) (vLs κ) ((pK ν κ).getD j 0)) i).length ≤ 6 ∧ vBdL ((fun j => vRd (vVl ν) (vLs κ) ((pK ν κ).getD j 0)) i) := fun i hi => ⟨q1 i _ (pK_get hi), (pL_ok ok hi).1, (pL_ok ok hi).2⟩
      have ql2 : moL h2 m sz' lR' lA' lB' pk' := ⟨(e1 _ (by omega) (by omega)).trans t0, (e1 _ (by omega) (by omega)).trans t1, (e1 _ (by omega) (by omega)).trans t2, (e1 _ (by omega) (by omega)).trans t3, (e1 _ (by omega) (by omega)).trans t4⟩
      have fr2 : ∀ q, q ≠ m → (q < m + 14 ∨ m + 21 ≤ q) → q ≠ m + 24 → h2 q = h q := fun q a b c => (e1 q (by omega) (by omega)).trans (g18 q a b)
      refine rn_E (d := d) (L := L) (xs := xs) (n := n) (h := h2) (m := m) (as := κ.1) (cnt := (pK ν κ).length) (ne := ne) (rq := 0) (tr := 0) (pa := pa) (al := fun i => (ρ i).2.2.2.1) (Ls := (fun j => vRd (vVl ν) (vLs κ) ((pK ν κ).getD j 0))) (Q := qP n (fRun ρ ν κ cnt D fo rq tr).1 (fun h' => xfr m (m + 25) h h' ∧ isMo h' m (fRun ρ ν κ cnt D fo rq tr).2.1 ν κ (fRun ρ ν κ cnt D fo rq tr).2.2.1 (fRun ρ ν κ cnt D fo rq tr).2.2.2.1 (fRun ρ ν κ cnt D fo rq tr).2.2.2.2.1 (fRun ρ ν κ cnt D fo rq tr).2.2.2.2.2.1 (fRun ρ ν κ cnt D fo rq tr).2.2.2.2.2.2)) (md := md) (by omega) e2 ((fr2 (m + 4) (by omega) (by omega) (by omega)).trans x3) ql2 ((e1 _ (by omega) (by omega)).trans gm) kl8 hLs (fun r hr => ⟨(x5 r hr).2.1, (hR.2 r hr).1⟩) (fun h3 lR3 lA3 lB3 md3 u1 u2' u3 u4 u5 => ?_) (pK ν κ).length 0 h2 lR' lA' lB' md (by omega) xfr2.rf ?_ ql2 ((e1 _ (by omega) (by omega)).trans gm) (fun j hj => absurd hj (Nat.not_lt_zero j)) (fun j _ hj => (hLs j hj).1)
      · have u2 : h3 m = cM m κ.1 (pK ν κ).length (vB (pBl ρ ν κ)) ne 0 0 := u2'
        obtain ⟨v0, v1, v2, v3, v4⟩ := u3
        have fr3 : ∀ q, q ≠ m → (q < m + 14 ∨ m + 21 ≤ q) → q ≠ m + 24 → h3 q = h q := fun q a b c => (u1 q (by omega) (by omega)).trans (fr2 q a b c)
        have pz3 : isMo h3 m ρ ν κ (pK ν κ).length (pD ρ ν κ) (fun _ => false) 0 0 := by
          obtain ⟨b1, b2, b3, b4⟩ : moR h3 m ρ ∧ moV h3 m ν ∧ moQ h3 m κ ∧ True := ⟨⟨rw_, rX, rY, pa, fa, (fr3 _ (by omega) (by omega) (by omega)).trans x0, (fr3 _ (by omega) (by omega) (by omega)).trans x1, (fr3 _ (by omega) (by omega) (by omega)).trans x2, (fr3 _ (by omega) (by omega) (by omega)).trans x3, (fr3 _ (by omega) (by omega) (by omega)).trans x4, x5⟩, pV.sm (fun q a b => fr3 q (by omega) (by omega) (by omega)), pQ.sm (fun q a b => fr3 q (by omega) (by omega) (by omega)), trivial⟩
          refine ⟨⟨_, ne, u2⟩, b1, b2, b3, ⟨sz', lR3, lA3, lB3, md3, v0, v1, v2, v3, u4, fun j hj => ?_⟩, ⟨f2, (u1 _ (by omega) (by omega)).trans e3, fun k hk => e4 k hk⟩, ⟨dr', (u1 _ (by omega) (by omega)).trans ((e1 _ (by omega) (by omega)).trans qd)⟩, ⟨pk', v4⟩, ⟨f21, (fr3 _ (by omega) (by omega) (by omega)).trans z21⟩, ⟨f22, (fr3 _ (by omega) (by omega) (by omega)).trans z22⟩, f23, (fr3 _ (by omega) (by omega) (by omega)).trans z23⟩
          obtain ⟨w1, w2⟩ := u5 j hj
          have lo := (vOrd_mem (al := fun i => (ρ i).2.2.2.1) (a := (0, 0, 0)) ((fun j => vRd (vVl ν) (vLs κ) ((pK ν κ).getD j 0)) j).length 0 ((fun j => vRd (vVl ν) (vLs κ) ((pK ν κ).getD j 0)) j) (fun _ => none) (by omega)).2
          refine ⟨w1.1, fun k hk => ?_⟩
          have hk' : k < (vOrd (fun i => (ρ i).2.2.2.1) ((fun j => vRd (vVl ν) (vLs κ) ((pK ν κ).getD j 0)) j).length 0 ((fun j => vRd (vVl ν) (vLs κ) ((pK ν κ).getD j 0)) j) (fun _ => none)).1.length := hk
          have e := w1.2.vat hk'
          have e' : vAt (pD ρ ν κ j).1 k = (lR3 (6 * j + k), lA3 (6 * j + k), lB3 (6 * j + k)) := e
          rw [e']
          exact ⟨rfl, rfl, rfl, w2 k (by rw [← lo]; exact hk')⟩
        have fr : xfr m (m + 25) h h3 := fun q hq => fr3 q (by omega) (by omega) (by omega)
        refine xr_aload_n a_Mod_run_139 rfl ?_
        apply xr_getf a_Mod_run_140
        · (repeat' (first | assumption | exact va_up_self _ _ _ | refine x_lk (by omega) ?_))
        · rfl
        refine xn_if_eq a_Mod_run_143 (vB_lt31 _) (fun b143 => ?_) (fun b143 => ?_)
        · exact last h3 _ ne (vB_0 b143) fr u2 pz3
        · have eF2 : fRun ρ ν κ cnt D fo rq tr = _ := eF.trans (vIf_t (vB_1 b143))
          rw [eF2]
          refine xr_bipush a_Mod_run_146 (v := -2) (by decide +kernel) ?_
          refine xr_ireturn a_Mod_run_148 rfl rfl (by omega) (by omega) ?_
          exact ⟨rfl, rfl, fr, pz3⟩
      · rw [vB_f (fun ⟨j, hj, _⟩ => absurd hj (Nat.not_lt_zero j))]
        exact e2
    -- unfolding and reducing
    have make : ∀ (q dd : Nat) (h' : xH) (sz' lR' lA' lB' : Nat → Nat) (pk' : Nat → Option Nat), dd + q = (vCh (vVl ν) (vLs κ)).length → xfr2 m (m + 1) (m + 14) (m + 21) h h' → h' (m + 18) = cO 48 md → h' (m + 19) = cB 8 f19 → h' m = cM m κ.1 (vCh (vVl ν) (vLs κ)).length st ne rq tr → moL h' m sz' lR' lA' lB' pk' → (∀ j, j < dd → moD (vRd (vVl ν) (vLs κ) j) j sz' lR' lA' lB') → XW (x_rm d 0 0) k_Mod_run L xs (x_mq 0 0 (qP n (fRun ρ ν κ cnt D fo rq tr).1 (fun h' => xfr m (m + 25) h h' ∧ isMo h' m (fRun ρ ν κ cnt D fo rq tr).2.1 ν κ (fRun ρ ν κ cnt D fo rq tr).2.2.1 (fRun ρ ν κ cnt D fo rq tr).2.2.2.1 (fRun ρ ν κ cnt D fo rq tr).2.2.2.2.1 (fRun ρ ν κ cnt D fo rq tr).2.2.2.2.2.1 (fRun ρ ν κ cnt D fo rq tr).2.2.2.2.2.2))) 0 0 52 [(0, .ref m), (1, .int (nI dd))] [] n h' := by
      intro q
      induction q with
      | zero =>
        intro dd h' sz' lR' lA' lB' pk' hdd f1 gm gd q0 ql q1
        have ed : dd = (vCh (vVl ν) (vLs κ)).length := by omega
        rw [ed] at q1
        have dB : ∀ i, i < (vCh (vVl ν) (vLs κ)).length → 1 ≤ (vRd (vVl ν) (vLs κ) i).length ∧ (vRd (vVl ν) (vLs κ) i).length ≤ 6 ∧ vBdL (vRd (vVl ν) (vLs κ) i) := by
          intro i hi
          have e := List.getElem?_eq_getElem hi
          have e2 : (vDis (vVl ν) (vLs κ)).getD i [] = vUnfL 0 (vLs κ) (vCh (vVl ν) (vLs κ))[i] := by
            unfold vDis
            rw [List.getD_eq_getElem?_getD, List.getElem?_map, e]
            rfl
          obtain ⟨b1, b2⟩ := ok.dis (List.mem_of_getElem? e)
          refine ⟨vGo_nd hg hi, ?_, ?_⟩
          · unfold vRd
            rw [e2]
            exact Nat.le_trans (vRed_len _ _ _) b1
          · unfold vRd
            rw [e2]
            exact fun a ha => b2 a (vRed_mem _ _ _ a ha)
        have cD := t_Mod_drop (d := 2) (L := L) (xs := xs) (n := n) (Ds := vRd (vVl ν) (vLs κ)) q0 ql gd n8 q1 dB (by omega)
        refine xr_iload_n a_Mod_run_52 rfl ?_
        refine xr_aload_n a_Mod_run_53 rfl ?_
        apply xr_getf a_Mod_run_54
        · (repeat' (first | assumption | exact va_up_self _ _ _ | refine x_lk (by omega) ?_))
        · rfl
        refine xn_icmp_ge a_Mod_run_57 (by omega) (by omega) (fun b57 => ?_) (fun b57 => ?_)
        · refine xr_aload_n a_Mod_run_77 rfl ?_
          refine xr_invV a_Mod_run_78 (by (repeat' (first | assumption | exact va_up_self _ _ _ | refine x_lk (by omega) ?_))) (cD) rfl rfl (by omega) (by omega) (by omega) (Nat.le_of_ble_eq_true rfl) ?_
          rintro _ _ h2 ⟨rfl, rfl, u1, u2, u3, sz2, lR2, lA2, lB2, dr2, pk2, u4, u5, u6⟩
          refine xr_ls [(0, .ref m)] ⟨rfl, trivial⟩ ?_
          exact order h2 st sz2 lR2 lA2 lB2 dr2 pk2 (fun q a b => (u1 q (by omega) (by omega)).trans (f1 q (by omega) (by omega))) (u2.trans gm) u3 u4 u5 u6
        · omega
      | succ q ih =>
        intro dd h' sz' lR' lA' lB' pk' hdd f1 gm gd q0 ql q1
        have hdN : dd < (vCh (vVl ν) (vLs κ)).length := by omega
        have e := List.getElem?_eq_getElem hdN
        have epk : (vCh (vVl ν) (vLs κ))[dd] = vPk (vVl ν) (vLs κ) dd := by
          have := vCh_get (vVl ν) (vLs κ) dd (by omega)
          rw [e] at this
          exact Option.some.inj this
        obtain ⟨b1, b2⟩ := ok.dis (List.mem_of_getElem? e)
        rw [epk] at b1 b2
        have nd := vUn_nd hg hdN
        rw [vDis_pk hdN] at nd
        have eR : vRd (vVl ν) (vLs κ) dd = vRed (vUnfL 0 (vLs κ) (vPk (vVl ν) (vLs κ) dd)).length 0 (vUnfL 0 (vLs κ) (vPk (vVl ν) (vLs κ) dd)) := by
          unfold vRd
          rw [vDis_pk hdN]
        have cU := t_Mod_unfold (d := 1) (L := L) (xs := xs) (n := n) (dd := dd) (ch := dd) q0 (pV.sm (fun q a b => f1 q (by omega) (by omega))) (pQ.sm (fun q a b => f1 q (by omega) (by omega))) ql hV hQ (fun i hi => (hg.2 i hi).1) (by omega) (by omega) (by omega)
        refine xr_iload_n a_Mod_run_52 rfl ?_
        refine xr_aload_n a_Mod_run_53 rfl ?_
        apply xr_getf a_Mod_run_54
        · (repeat' (first | assumption | exact va_up_self _ _ _ | refine x_lk (by omega) ?_))
        · rfl
        refine xn_icmp_ge a_Mod_run_57 (by omega) (by omega) (fun b57 => ?_) (fun b57 => ?_)
        · omega
        · refine xr_aload_n a_Mod_run_60 rfl ?_
          refine xr_iload_n a_Mod_run_61 rfl ?_
          refine xr_iload_n a_Mod_run_62 rfl ?_
          refine xr_invV a_Mod_run_63 (by (repeat' (first | assumption | exact va_up_self _ _ _ | refine x_lk (by omega) ?_))) (cU) rfl rfl (by omega) (by omega) (by omega) (Nat.le_of_ble_eq_true rfl) ?_
          rintro _ _ h2 ⟨rfl, rfl, u1, sz2, lR2, lA2, lB2, u2, u3, u4, u5⟩
          have q02 := (u1 m (by omega)).trans q0
          have cR := t_Mod_reduce (d := 2) (L := L) (xs := xs) (n := n) q02 u2 u3 (by omega) nd b1 b2 (by omega)
          rw [← eR] at cR
          refine xr_aload_n a_Mod_run_66 rfl ?_
          refine xr_iload_n a_Mod_run_67 rfl ?_
          refine xr_invV a_Mod_run_68 (by (repeat' (first | assumption | exact va_up_self _ _ _ | refine x_lk (by omega) ?_))) (cR) rfl rfl (by omega) (by omega) (by omega) (Nat.le_of_ble_eq_true rfl) ?_
          rintro _ _ h3 ⟨rfl, rfl, w1, sz3, lR3, lA3, lB3, pk3, w2, w3, w4, w5⟩
          first | refine xn_iinc a_Mod_run_71 rfl (by decide) rfl ?_ | refine xr_iinc a_Mod_run_71 rfl rfl (by decide) rfl ?_
          refine xr_goto a_Mod_run_74 ?_
          refine xr_ls [(0, .ref m), (1, .int (nI (dd + 1)))] ⟨rfl, rfl, trivial⟩ ?_
          refine ih (dd + 1) h3 sz3 lR3 lA3 lB3 pk3 (by omega) (fun q a b => (w1 q (by omega) (by omega)).trans ((u1 q (by omega)).trans (f1 q a b))) ((w1 _ (by omega) (by omega)).trans ((u1 _ (by omega)).trans gm)) ((w1 _ (by omega) (by omega)).trans ((u1 _ (by omega)).trans gd)) ((w1 _ (by omega) (by omega)).trans q02) w2 (fun j hj => ?_)
          by_cases ej : j = dd
          · subst ej; exact w3
          · have q1j := q1 j (by omega)
            have lj : (vRd (vVl ν) (vLs κ) j).length ≤ 6 := by
              have hjN : j < (vCh (vVl ν) (vLs κ)).length := by omega
              unfold vRd
              rw [vDis_pk hjN]
              have ej := List.getElem?_eq_getElem hjN
              have epj := vCh_get (vVl ν) (vLs κ) j (by omega)
              exact Nat.le_trans (vRed_len _ _ _) (ok.dis (List.mem_of_getElem? epj)).1
            refine q1j.c ((w4 j ej).trans (u4 j ej)) (fun x hx => ?_)
            have a1 := w5 (6 * j + x) (by omega)
            have a2 := u5 (6 * j + x) (by omega)
            exact ⟨a1.1.trans a2.1, a1.2.1.trans a2.2.1, a1.2.2.trans a2.2.2⟩
    -- how many
    obtain ⟨qQ, qA, qB, s1, s2, s3, s4⟩ := pQ
    obtain ⟨ru, na, aR, aA, aB, c1, c2, c3, c4, c5, c6⟩ := pV
    have many : ∀ (q i ma : Nat) (h' : xH), i + q = κ.1 → ma * vPr (vVl ν) (((vLs κ)).drop i) = (vCh (vVl ν) (vLs κ)).length → xfr2 m (m + 1) (m + 14) (m + 14) h h' → h' m = cM m κ.1 ma st ne rq tr → XW (x_rm d 0 0) k_Mod_run L xs (x_mq 0 0 (qP n (fRun ρ ν κ cnt D fo rq tr).1 (fun h' => xfr m (m + 25) h h' ∧ isMo h' m (fRun ρ ν κ cnt D fo rq tr).2.1 ν κ (fRun ρ ν κ cnt D fo rq tr).2.2.1 (fRun ρ ν κ cnt D fo rq tr).2.2.2.1 (fRun ρ ν κ cnt D fo rq tr).2.2.2.2.1 (fRun ρ ν κ cnt D fo rq tr).2.2.2.2.2.1 (fRun ρ ν κ cnt D fo rq tr).2.2.2.2.2.2))) 0 0 16 [(0, .ref m), (1, .int (nI i))] [] n h' := by
      intro q
      induction q with
      | zero =>
        intro i ma h' hi hm f1 q0
        have ei : i = κ.1 := by omega
        rw [ei, vLs_end, show vPr (vVl ν) [] = 1 from rfl, Nat.mul_one] at hm
        subst hm
        refine xr_iload_n a_Mod_run_16 rfl ?_
        refine xr_aload_n a_Mod_run_17 rfl ?_
        apply xr_getf a_Mod_run_18
        · (repeat' (first | assumption | exact va_up_self _ _ _ | refine x_lk (by omega) ?_))
        · rfl
        refine xn_icmp_ge a_Mod_run_21 (by omega) (by omega) (fun b21 => ?_) (fun b21 => ?_)
        · refine xr_iconst a_Mod_run_50 (v := nI 0) (by decide +kernel) ?_
          refine xr_istore_n a_Mod_run_51 (by decide) rfl ?_
          refine xr_ls [(0, .ref m), (1, .int (nI 0))] ⟨rfl, rfl, trivial⟩ ?_
          exact make (vCh (vVl ν) (vLs κ)).length 0 h' sz lR lA lB f20 (by omega) (fun q a b => f1 q a (by omega)) ((f1 _ (by omega) (by omega)).trans y5) ((f1 _ (by omega) (by omega)).trans z19) q0 ⟨(f1 _ (by omega) (by omega)).trans y1, (f1 _ (by omega) (by omega)).trans y2, (f1 _ (by omega) (by omega)).trans y3, (f1 _ (by omega) (by omega)).trans y4, (f1 _ (by omega) (by omega)).trans z20⟩ (fun j hj => absurd hj (Nat.not_lt_zero j))
        · omega
      | succ q ih =>
        intro i ma h' hi hm f1 q0
        have hik : i < κ.1 := by omega
        have k3 := (hQ.2 i hik).1
        have e1 := (s4 i (by omega)).1
        have e2 := (c6 _ k3).1
        have s1' := (f1 (m + 11) (by omega) (by omega)).trans s1
        have c1' := (f1 (m + 6) (by omega) (by omega)).trans c1
        refine xr_iload_n a_Mod_run_16 rfl ?_
        refine xr_aload_n a_Mod_run_17 rfl ?_
        apply xr_getf a_Mod_run_18
        · (repeat' (first | assumption | exact va_up_self _ _ _ | refine x_lk (by omega) ?_))
        · rfl
        refine xn_icmp_ge a_Mod_run_21 (by omega) (by omega) (fun b21 => ?_) (fun b21 => ?_)
        · omega
        · refine xr_aload_n a_Mod_run_24 rfl ?_
          refine xr_aload_n a_Mod_run_25 rfl ?_
          apply xr_getf a_Mod_run_26
          · (repeat' (first | assumption | exact va_up_self _ _ _ | refine x_lk (by omega) ?_))
          · rfl
          refine xr_aload_n a_Mod_run_29 rfl ?_
          apply xr_getf a_Mod_run_30
          · (repeat' (first | assumption | exact va_up_self _ _ _ | refine x_lk (by omega) ?_))
          · rfl
          refine xr_aload_n a_Mod_run_33 rfl ?_
          apply xr_getf a_Mod_run_34
          · (repeat' (first | assumption | exact va_up_self _ _ _ | refine x_lk (by omega) ?_))
          · rfl
          refine xr_iload_n a_Mod_run_37 rfl ?_
          apply xn_iaload a_Mod_run_38
          · (repeat' (first | assumption | exact va_up_self _ _ _ | refine x_lk (by omega) ?_))
          · omega
          · omega
          rw [e1]
          apply xn_iaload a_Mod_run_39
          · (repeat' (first | assumption | exact va_up_self _ _ _ | refine x_lk (by omega) ?_))
          · omega
          · omega
          rw [e2]
          first | refine xn_imul a_Mod_run_40 ?_ | refine xr_imul a_Mod_run_40 ?_
          apply xm_many a_Mod_run_41
          · (repeat' (first | assumption | exact va_up_self _ _ _ | refine x_lk (by omega) ?_))
          first | refine xn_iinc a_Mod_run_44 rfl (by decide) rfl ?_ | refine xr_iinc a_Mod_run_44 rfl rfl (by decide) rfl ?_
          refine xr_goto a_Mod_run_47 ?_
          refine xr_ls [(0, .ref m), (1, .int (nI (i + 1)))] ⟨rfl, rfl, trivial⟩ ?_
          refine ih (i + 1) (ma * (ν (κ.2.1 i)).1) _ (by omega) ?_ (f1.up (by omega)) (up_self _ _ _)
          rw [← hm, vLs_drop hik, Nat.mul_assoc]
          show _ = ma * ((vVl ν (κ.2.1 i)).length * vPr (vVl ν) (((vLs κ)).drop (i + 1)))
          rw [vVl_len]
    refine xr_aload_n a_Mod_run_9 rfl ?_
    refine xr_iconst a_Mod_run_10 (v := nI 1) (by decide +kernel) ?_
    apply xm_many a_Mod_run_11
    · (repeat' (first | assumption | exact va_up_self _ _ _ | refine x_lk (by omega) ?_))
    refine xr_iconst a_Mod_run_14 (v := nI 0) (by decide +kernel) ?_
    refine xr_istore_n a_Mod_run_15 (by decide) rfl ?_
    refine xr_ls [(0, .ref m), (1, .int (nI 0))] ⟨rfl, rfl, trivial⟩ ?_
    refine many κ.1 0 1 _ (by omega) ?_ (xfr2.rf.up (by omega)) (up_self _ _ _)
    rw [List.drop_zero, Nat.one_mul, eN]
  · have eF : fRun ρ ν κ cnt D fo rq tr = _ := vIf_t (vB_0 b4)
    rw [eF]
    refine xr_iconst a_Mod_run_7 (v := -1) (by decide +kernel) ?_
    refine xr_ireturn a_Mod_run_8 rfl rfl (by omega) (by omega) ?_
    exact ⟨rfl, rfl, xfr.rf, p⟩
end T69n

