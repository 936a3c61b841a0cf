/-! Asker: one disjunct -/
theorem vTell_0 {ρ : vR} {l : List vA} {pt : Nat → Option Nat} {i : Nat} {s : (Nat → Bool) × (Nat → Nat) × Nat × Nat} : vTell ρ l pt 0 i s = (true, s) := rfl
theorem vTell_s {ρ : vR} {l : List vA} {pt : Nat → Option Nat} {f i : Nat} {m : Nat → Bool} {fa : Nat → Nat} {rq tr : Nat} : vTell ρ l pt (f + 1) i (m, fa, rq, tr) = if vCnt (vAdd m (vRq ρ l pt i)) 4096 - vCnt m 4096 = 0 then vTell ρ l pt f (i + 1) (vAdd m (vRq ρ l pt i), fa, rq, tr) else if 3 ≤ fa (vAt l i).1 then (false, vAdd m (vRq ρ l pt i), va_up fa (vAt l i).1 (fa (vAt l i).1 - 3), rq, tr + 3) else vTell ρ l pt f (i + 1) (vAdd m (vRq ρ l pt i), va_up fa (vAt l i).1 0, rq + (vCnt (vAdd m (vRq ρ l pt i)) 4096 - vCnt m 4096), tr + (vCnt (vAdd m (vRq ρ l pt i)) 4096 - vCnt m 4096) + fa (vAt l i).1) := rfl
theorem xfr.gap {a b c d : Nat} {h h' : xH} (p : xfr a b h h') : xfr2 a b c d h h' := fun q h1 _ => p q h1
section T38
variable {d L : Nat} {xs : Nat → Int32} {n : Nat} {h : xH} {a rc : Nat} {R : Nat → Nat} {Mf : Nat → Bool} {ra rb dj : Nat} {pt : Nat → Option Nat} {dr bl : Nat} {ρ : Nat → vRel} {l : List vA}
theorem t_Asker_askDisjunct {Mm : Nat → Bool} {φ : Nat → Nat} {rq tr g fr : Nat} {lu : Nat → Option Nat} (pa : isAk h a rc rq tr R Mf Mm vVal0 lu (.ref ra) (.ref dj) g fr) (pd : isDl h dj l pt dr bl) (pR : isRs h ra rb (vFa ρ φ)) (hdj : dj + 6 ≤ a ∨ a + 9 ≤ dj) (hra : ra < a ∨ a + 9 ≤ ra) (hrb : rb + 12 ≤ a ∨ a + 9 ≤ rb) (hdr : dj + 6 ≤ rb ∨ rb + 12 ≤ dj) (hrr : ra < rb ∨ rb + 12 ≤ ra) (hl : l.length ≤ 6) (hb : vBdL l) (hρ : vOkR ρ) (hO : vGdO l pt) (h16 : vHas 16 l) (h17 : vHas 17 l) (hφ : ∀ r, r < 4 → φ r < 10) (hd : 11 ≤ d) :
    XM d 0 0 k_Asker_askDisjunct L xs [.ref a] n h (qP n (nI (vTell (vRw ρ) l pt l.length 0 (Mm, φ, rq, tr)).1.toNat) (fun h' => xfr2 a (a + 9) rb (rb + 12) h h' ∧ (∀ r, r < 4 → (vTell (vRw ρ) l pt l.length 0 (Mm, φ, rq, tr)).2.2.1 r < 10) ∧ isRs h' ra rb (vFa ρ (vTell (vRw ρ) l pt l.length 0 (Mm, φ, rq, tr)).2.2.1) ∧ ∃ lu' g' fr', isAk h' a rc (vTell (vRw ρ) l pt l.length 0 (Mm, φ, rq, tr)).2.2.2.1 (vTell (vRw ρ) l pt l.length 0 (Mm, φ, rq, tr)).2.2.2.2 R (if (vTell (vRw ρ) l pt l.length 0 (Mm, φ, rq, tr)).1 = true then vAdd Mf (vSc (vRw ρ) l) else Mf) (vTell (vRw ρ) l pt l.length 0 (Mm, φ, rq, tr)).2.1 vVal0 lu' (.ref ra) (.ref dj) g' fr')) := by
  generalize hT : vTell (vRw ρ) l pt l.length 0 (Mm, φ, rq, tr) = T
  refine XM.of rfl (Nat.le_of_ble_eq_true rfl) ?_
  have loop : ∀ (k i : Nat) (h' : xH) (Mm : Nat → Bool) (φ : Nat → Nat) (rq tr g fr : Nat) (lu : Nat → Option Nat), i + k = l.length → xfr2 a (a + 9) rb (rb + 12) h h' → isAk h' a rc rq tr R Mf Mm vVal0 lu (.ref ra) (.ref dj) g fr → isRs h' ra rb (vFa ρ φ) → (∀ r, r < 4 → φ r < 10) → vTell (vRw ρ) l pt k i (Mm, φ, rq, tr) = T → (k = 0 → fr < 5000) → XW (x_rm d 0 0) k_Asker_askDisjunct L xs (x_mq 0 0 (qP n (nI T.1.toNat) (fun h' => xfr2 a (a + 9) rb (rb + 12) h h' ∧ (∀ r, r < 4 → T.2.2.1 r < 10) ∧ isRs h' ra rb (vFa ρ T.2.2.1) ∧ ∃ lu' g' fr', isAk h' a rc T.2.2.2.1 T.2.2.2.2 R (if T.1 = true then vAdd Mf (vSc (vRw ρ) l) else Mf) T.2.1 vVal0 lu' (.ref ra) (.ref dj) g' fr'))) 0 0 10 [(0, .ref a), (1, .ref (dj + 1)), (2, .int (nI i))] [] n h' := by
    intro k
    induction k with
    | zero =>
      intro i h' Mm φ rq tr g fr lu hi f1 q1 q2 q3 e hfr
      rw [vTell_0] at e
      have hfr' := hfr rfl
      have pd' := pd.sm (f1.sm (a' := dj) (b' := dj + 6) (by omega) (by omega))
      have cF := t_Asker_roadsF (d := 10) (L := L) (xs := xs) (n := n) q1 pd' q2 hdj hra hrb hl hb hρ h16 h17 hfr' (by omega)
      obtain ⟨H, F, S, ⟨d0, ⟨a0, a1, a2, a3⟩, d2⟩, pr⟩ := pd'
      have k0 := q1.1
      refine xr_iload_n a_Asker_askDisjunct_10 rfl ?_
      refine xr_aload_n a_Asker_askDisjunct_11 rfl ?_
      apply xr_getf a_Asker_askDisjunct_12
      · (repeat' (first | assumption | exact va_up_self _ _ _ | refine x_lk (by omega) ?_))
      · rfl
      refine xn_icmp_ge a_Asker_askDisjunct_15 (by omega) (by omega) (fun b15 => ?_) (fun b15 => ?_)
      · refine xr_aload_n a_Asker_askDisjunct_61 rfl ?_
        refine xr_aload_n a_Asker_askDisjunct_62 rfl ?_
        apply xr_getf a_Asker_askDisjunct_63
        · (repeat' (first | assumption | exact va_up_self _ _ _ | refine x_lk (by omega) ?_))
        · rfl
        refine xr_invV a_Asker_askDisjunct_66 (by (repeat' (first | assumption | exact va_up_self _ _ _ | refine x_lk (by omega) ?_))) (cF) rfl rfl (by omega) (by omega) (by omega) (Nat.le_of_ble_eq_true rfl) ?_
        rintro _ _ h1 ⟨rfl, rfl, f2, lu', q4⟩
        refine xr_iconst a_Asker_askDisjunct_69 (v := nI 1) (by decide +kernel) ?_
        refine xr_ireturn a_Asker_askDisjunct_70 rfl rfl (by omega) (by omega) ?_
        refine ⟨?_, rfl, f1.tr f2.gap, ?_, ?_, lu', l.length, fr, ?_⟩
        · rw [← e]; rfl
        · rw [← e]; exact q3
        · rw [← e]; exact q2.sm (f2 _ hra) (f2.sm hrb)
        · rw [← e]; exact q4
      · omega
    | succ k ih =>
      intro i h' Mm φ rq tr g fr lu hi f1 q1 q2 q3 e hfr
      clear hfr
      have pd' := pd.sm (f1.sm (a' := dj) (b' := dj + 6) (by omega) (by omega))
      have q1z := q1.obj (rc' := rc) (rq' := rq) (tr' := tr) (vr' := .ref ra) (vd' := .ref dj) (g' := g) (fr' := 0)
      have fz : xfr a (a + 9) h' (va_up h' a (cA a rc rq tr (.ref ra) (.ref dj) g 0)) := xfr.up0 (by omega) (by omega)
      have q2z := q2.sm (fz _ hra) (fz.sm hrb)
      have pdz := pd'.sm (fz.sm hdj)
      have cM := t_Asker_roadsM (d := 10) (L := L) (xs := xs) (n := n) (i := i) q1z pdz q2z hdj hra hrb (by omega) hl hb hρ hO (by omega) (by omega)
      rw [Nat.zero_add, vRw_fa] at cM
      obtain ⟨H, F, S, ⟨d0, ⟨a0, a1, a2, a3⟩, d2⟩, pr⟩ := pd'
      have eA : (vAt l i).1 = H i := by rw [pr.vat (by omega)]
      have bH := hb.at pr (i := i) (by omega)
      have k0 := q1.1
      have k0z := q1z.1
      rw [vTell_s, eA] at e
      have hc1 := vCnt_le (vAdd Mm (vRq (vRw ρ) l pt i)) 4096
      refine xr_iload_n a_Asker_askDisjunct_10 rfl ?_
      refine xr_aload_n a_Asker_askDisjunct_11 rfl ?_
      apply xr_getf a_Asker_askDisjunct_12
      · (repeat' (first | assumption | exact va_up_self _ _ _ | refine x_lk (by omega) ?_))
      · rfl
      refine xn_icmp_ge a_Asker_askDisjunct_15 (by omega) (by omega) (fun b15 => ?_) (fun b15 => ?_)
      · omega
      · refine xr_aload_n a_Asker_askDisjunct_18 rfl ?_
        refine xr_iconst a_Asker_askDisjunct_19 (v := nI 0) (by decide +kernel) ?_
        apply xa_fr a_Asker_askDisjunct_20
        · (repeat' (first | assumption | exact va_up_self _ _ _ | refine x_lk (by omega) ?_))
        refine xr_aload_n a_Asker_askDisjunct_23 rfl ?_
        refine xr_iload_n a_Asker_askDisjunct_24 rfl ?_
        refine xr_invV a_Asker_askDisjunct_25 (by exact k0z) (cM) rfl rfl (by omega) (by omega) (by omega) (Nat.le_of_ble_eq_true rfl) ?_
        rintro _ _ h1 ⟨rfl, rfl, f2, lu', q4⟩
        have f3 : xfr a (a + 9) h' h1 := fz.tr f2
        have k0' := q4.1
        have a0' := f3.get (by omega) a0
        have a1' := f3.get (by omega) a1
        have q2' := q2.sm (f3 _ hra) (f3.sm hrb)
        have q2'' := q2'
        obtain ⟨⟨fR, r0, r1⟩, r2⟩ := q2'
        refine xr_aload_n a_Asker_askDisjunct_28 rfl ?_
        apply xr_getf a_Asker_askDisjunct_29
        · (repeat' (first | assumption | exact va_up_self _ _ _ | refine x_lk (by omega) ?_))
        · rfl
        refine xn_if_le a_Asker_askDisjunct_32 (by omega) (fun b32 => ?_) (fun b32 => ?_)
        · rw [if_pos b32] at e
          first | refine xn_iinc a_Asker_askDisjunct_55 rfl (by decide) rfl ?_ | refine xr_iinc a_Asker_askDisjunct_55 rfl rfl (by decide) rfl ?_
          refine xr_goto a_Asker_askDisjunct_58 ?_
          refine xr_ls [(0, .ref a), (1, .ref (dj + 1)), (2, .int (nI (i + 1)))] ⟨rfl, rfl, rfl, trivial⟩ ?_
          exact ih (i + 1) h1 _ φ rq tr i _ lu' (by omega) (f1.tr f3.gap) q4 q2'' q3 e (fun _ => by omega)
        · rw [if_neg (by omega)] at e
          have cT := t_Asker_tryRelation (d := 0) (L := L) (xs := xs) (n := n) (r := H i) q4 q2'' hrr hra hrb bH.1 (by have := q3 _ bH.1; omega)
          refine xr_aload_n a_Asker_askDisjunct_35 rfl ?_
          refine xr_aload_n a_Asker_askDisjunct_36 rfl ?_
          apply xr_getf a_Asker_askDisjunct_37
          · (repeat' (first | assumption | exact va_up_self _ _ _ | refine x_lk (by omega) ?_))
          · rfl
          refine xr_aload_n a_Asker_askDisjunct_40 rfl ?_
          apply xr_getf a_Asker_askDisjunct_41
          · (repeat' (first | assumption | exact va_up_self _ _ _ | refine x_lk (by omega) ?_))
          · rfl
          refine xr_iload_n a_Asker_askDisjunct_44 rfl ?_
          apply xn_iaload a_Asker_askDisjunct_45
          · (repeat' (first | assumption | exact va_up_self _ _ _ | refine x_lk (by omega) ?_))
          · omega
          · omega
          apply xn_aaload a_Asker_askDisjunct_46
          · (repeat' (first | assumption | exact va_up_self _ _ _ | refine x_lk (by omega) ?_))
          · rfl
          · omega
          · omega
          · exact r1 _ bH.1
          refine xr_invV a_Asker_askDisjunct_47 (by exact k0') (cT) rfl rfl (by omega) (by omega) (by omega) (Nat.le_of_ble_eq_true rfl) ?_
          rintro _ _ h2 ⟨rfl, rfl, f4, q5⟩
          refine xn_if_ne a_Asker_askDisjunct_50 (vB_lt31 _) (fun b50 => ?_) (fun b50 => ?_)
          · have hlt := vB_1 b50
            rw [if_pos hlt] at q5
            rw [if_neg (by omega)] at e
            first | refine xn_iinc a_Asker_askDisjunct_55 rfl (by decide) rfl ?_ | refine xr_iinc a_Asker_askDisjunct_55 rfl rfl (by decide) rfl ?_
            refine xr_goto a_Asker_askDisjunct_58 ?_
            refine xr_ls [(0, .ref a), (1, .ref (dj + 1)), (2, .int (nI (i + 1)))] ⟨rfl, rfl, rfl, trivial⟩ ?_
            refine ih (i + 1) h2 _ (va_up φ (H i) 0) _ _ i _ lu' (by omega) ((f1.tr f3.gap).tr f4) q5.1 q5.2 (fun r hr => ?_) ?_ (fun _ => by omega)
            · by_cases er : r = H i
              · rw [er, up_self]; omega
              · rw [up_ne er]; exact q3 r hr
            · rw [← e, Nat.add_assoc]
          · have hge := vB_0 b50
            rw [if_neg hge] at q5
            rw [if_pos (by omega)] at e
            refine xr_iconst a_Asker_askDisjunct_53 (v := nI 0) (by decide +kernel) ?_
            refine xr_ireturn a_Asker_askDisjunct_54 rfl rfl (by omega) (by omega) ?_
            refine ⟨by rw [← e]; rfl, rfl, (f1.tr f3.gap).tr f4, ?_, ?_, lu', i, vCnt (vAdd Mm (vRq (vRw ρ) l pt i)) 4096 - vCnt Mm 4096, ?_⟩
            · rw [← e]
              intro r hr
              show va_up φ (H i) (φ (H i) - 3) r < 10
              by_cases er : r = H i
              · rw [er, up_self]; have := q3 _ bH.1; omega
              · rw [up_ne er]; exact q3 r hr
            · rw [← e]; exact q5.2
            · rw [← e]; exact q5.1
  have pd' := pd
  obtain ⟨H, F, S, ⟨d0, ⟨a0, a1, a2, a3⟩, d2⟩, pr⟩ := pd'
  have k0 := pa.1
  have hne : l.length ≠ 0 := by
    obtain ⟨x, hx, -⟩ := h16
    intro z
    rw [List.length_eq_zero_iff.mp z] at hx
    cases hx
  clear h16 h17 hO
  refine xr_aload_n a_Asker_askDisjunct_0 rfl ?_
  apply xr_getf a_Asker_askDisjunct_1
  · (repeat' (first | assumption | exact va_up_self _ _ _ | refine x_lk (by omega) ?_))
  · rfl
  apply xr_getf a_Asker_askDisjunct_4
  · (repeat' (first | assumption | exact va_up_self _ _ _ | refine x_lk (by omega) ?_))
  · rfl
  refine xr_astore_n a_Asker_askDisjunct_7 (by decide) rfl ?_
  refine xr_iconst a_Asker_askDisjunct_8 (v := nI 0) (by decide +kernel) ?_
  refine xr_istore_n a_Asker_askDisjunct_9 (by decide) rfl ?_
  refine xr_ls [(0, .ref a), (1, .ref (dj + 1)), (2, .int (nI 0))] ⟨rfl, rfl, rfl, trivial⟩ ?_
  exact loop l.length 0 h Mm φ rq tr g fr lu (by omega) xfr2.rf pa pR hφ hT (fun z => absurd z hne)
end T38

