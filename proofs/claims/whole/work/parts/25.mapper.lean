/-! Mapper -/
theorem vLet_bd {f : Nat → Option Nat} {t j : Nat} (hf : ∀ u k, f u = some k → k < 100) (hj : j < 100) : ∀ u k, vLet f t j u = some k → k < 100 := by
  intro u k hk
  unfold vLet at hk
  split at hk
  · by_cases e : u = t
    · rw [e, up_self] at hk; cases hk; exact hj
    · rw [up_ne e] at hk; exact hf u k hk
  · exact hf u k hk
theorem vLet_off {f : Nat → Option Nat} {t j u : Nat} (h : u ≠ t) : vLet f t j u = f u := by
  unfold vLet
  split
  · exact up_ne h
  · rfl
theorem vBackTo {f g : Nat → Option Nat} {a b : Nat} (hg : ∀ u, u ≠ a → u ≠ b → g u = f u) : va_up (va_up g a (f a)) b (f b) = f := by
  funext u
  by_cases h1 : u = b
  · rw [h1, up_self]
  · rw [up_ne h1]
    by_cases h2 : u = a
    · rw [h2, up_self]
    · rw [up_ne h2, hg u h2 h1]
/-- the atoms are within bounds -/
def vBd (n : Nat) (H F S : Nat → Nat) : Prop := ∀ i, i < n → H i < 100 ∧ F i < 34 ∧ S i < 34
section T25
variable {d L : Nat} {xs : Nat → Int32} {n : Nat} {r s t cs ct m m' : Nat} {H F S H' F' S' : Nat → Nat} {lo : Option Nat}
def mpC (h : xH) (r s t cs ct m : Nat) (H F S : Nat → Nat) (m' : Nat) (H' F' S' : Nat → Nat) (lo : Option Nat) (f : Nat → Option Nat) : Prop := isMp h r (.ref s) (.ref t) (oI lo) f ∧ isAL h s cs m H F S ∧ isAL h t ct m' H' F' S' ∧ (s + 4 ≤ r ∨ r + 3 ≤ s) ∧ (t + 4 ≤ r ∨ r + 3 ≤ t) ∧ ∀ u k, f u = some k → k < 100
theorem t_Mapper_mapsOnto {d' dp i : Nat} {h : xH} {f : Nat → Option Nat} (p : mpC h r s t cs ct m H F S m' H' F' S' lo f) (hm : m ≤ cs) (hm' : m' ≤ ct) (hcs : cs < 100) (hct : ct < 100) (hB : vBd m H F S) (hB' : vBd m' H' F' S') (hdp : dp < m) (hi : i < m') (hd : d' + 1 ≤ d)
    (IH : ∀ (h : xH) (f : Nat → Option Nat), mpC h r s t cs ct m H F S m' H' F' S' lo f → XM d' 0 0 k_Mapper_mapsFrom L xs [.ref r, .int (nI (dp + 1))] n h (qR n h (nI (vB (vMP m H F S m' H' F' S' lo f (dp + 1)))))) :
    XM d 0 0 k_Mapper_mapsOnto L xs [.ref r, .int (nI dp), .int (nI i)] n h (qR n h (nI (vB (vMO m H F S m' H' F' S' lo f dp i)))) := by
  obtain ⟨⟨p0, p1, p2⟩, pS, pT, hs, ht, hf⟩ := p
  have pS' := pS
  have pT' := pT
  obtain ⟨s0, s1, s2, s3⟩ := pS'
  obtain ⟨t0, t1, t2, t3⟩ := pT'
  have b1 := hB dp hdp
  have b2 := hB' i hi
  refine XM.of rfl (Nat.le_of_ble_eq_true rfl) ?_
  have rest : ∀ (v : Nat) (g : Nat → Option Nat), v = vB (vMO m H F S m' H' F' S' lo f dp i) → (∀ u, u ≠ F dp → u ≠ S dp → g u = f u) → XW (x_rm d 0 0) k_Mapper_mapsOnto L xs (x_mq 0 0 (qR n h (nI (vB (vMO m H F S m' H' F' S' lo f dp i))))) 0 0 100 [(0, .ref r), (3, .int (nI (F dp))), (4, .int (nI (S dp))), (5, .int (oI (f (F dp)))), (6, .int (oI (f (S dp))))] [.int (nI v)] n (va_up h (r + 1 + 1) (cO 34 g)) := by
    intro v g hv hg
    refine xr_istore a_Mapper_mapsOnto_100 (by decide) rfl ?_
    refine xr_aload_n a_Mapper_mapsOnto_102 rfl ?_
    apply xr_getf a_Mapper_mapsOnto_103
    · (repeat' (first | assumption | exact va_up_self _ _ _ | refine x_lk (by omega) ?_))
    · rfl
    apply xr_getf a_Mapper_mapsOnto_106
    · (repeat' (first | assumption | exact va_up_self _ _ _ | refine x_lk (by omega) ?_))
    · rfl
    refine xr_iload_n a_Mapper_mapsOnto_109 rfl ?_
    refine xr_iload a_Mapper_mapsOnto_110 rfl ?_
    apply xo_iastore (o := f (F dp)) a_Mapper_mapsOnto_112
    · (repeat' (first | assumption | exact va_up_self _ _ _ | refine x_lk (by omega) ?_))
    · exact rfl
    · omega
    · omega
    refine xr_aload_n a_Mapper_mapsOnto_113 rfl ?_
    apply xr_getf a_Mapper_mapsOnto_114
    · (repeat' (first | assumption | exact va_up_self _ _ _ | refine x_lk (by omega) ?_))
    · rfl
    apply xr_getf a_Mapper_mapsOnto_117
    · (repeat' (first | assumption | exact va_up_self _ _ _ | refine x_lk (by omega) ?_))
    · rfl
    refine xr_iload a_Mapper_mapsOnto_120 rfl ?_
    refine xr_iload a_Mapper_mapsOnto_122 rfl ?_
    apply xo_iastore (o := f (S dp)) a_Mapper_mapsOnto_124
    · (repeat' (first | assumption | exact va_up_self _ _ _ | refine x_lk (by omega) ?_))
    · exact rfl
    · omega
    · omega
    refine xr_iload a_Mapper_mapsOnto_125 rfl ?_
    refine xr_ireturn a_Mapper_mapsOnto_127 rfl (by rw [hv]; exact nar_vB _) (by omega) (by omega) ?_
    refine ⟨by rw [hv], rfl, ?_⟩
    rw [up_up, up_up, vBackTo hg, up_same p2]
  refine xr_aload_n a_Mapper_mapsOnto_0 rfl ?_
  apply xr_getf a_Mapper_mapsOnto_1
  · (repeat' (first | assumption | exact va_up_self _ _ _ | refine x_lk (by omega) ?_))
  · rfl
  apply xr_getf a_Mapper_mapsOnto_4
  · (repeat' (first | assumption | exact va_up_self _ _ _ | refine x_lk (by omega) ?_))
  · rfl
  refine xr_iload_n a_Mapper_mapsOnto_7 rfl ?_
  apply xn_iaload a_Mapper_mapsOnto_8
  · (repeat' (first | assumption | exact va_up_self _ _ _ | refine x_lk (by omega) ?_))
  · omega
  · omega
  refine xr_istore_n a_Mapper_mapsOnto_9 (by decide) rfl ?_
  refine xr_aload_n a_Mapper_mapsOnto_10 rfl ?_
  apply xr_getf a_Mapper_mapsOnto_11
  · (repeat' (first | assumption | exact va_up_self _ _ _ | refine x_lk (by omega) ?_))
  · rfl
  apply xr_getf a_Mapper_mapsOnto_14
  · (repeat' (first | assumption | exact va_up_self _ _ _ | refine x_lk (by omega) ?_))
  · rfl
  refine xr_iload_n a_Mapper_mapsOnto_17 rfl ?_
  apply xn_iaload a_Mapper_mapsOnto_18
  · (repeat' (first | assumption | exact va_up_self _ _ _ | refine x_lk (by omega) ?_))
  · omega
  · omega
  refine xr_istore a_Mapper_mapsOnto_19 (by decide) rfl ?_
  refine xr_aload_n a_Mapper_mapsOnto_21 rfl ?_
  apply xr_getf a_Mapper_mapsOnto_22
  · (repeat' (first | assumption | exact va_up_self _ _ _ | refine x_lk (by omega) ?_))
  · rfl
  apply xr_getf a_Mapper_mapsOnto_25
  · (repeat' (first | assumption | exact va_up_self _ _ _ | refine x_lk (by omega) ?_))
  · rfl
  refine xr_iload_n a_Mapper_mapsOnto_28 rfl ?_
  apply xo_iaload a_Mapper_mapsOnto_29
  · (repeat' (first | assumption | exact va_up_self _ _ _ | refine x_lk (by omega) ?_))
  · omega
  · omega
  refine xr_istore a_Mapper_mapsOnto_30 (by decide) rfl ?_
  refine xr_aload_n a_Mapper_mapsOnto_32 rfl ?_
  apply xr_getf a_Mapper_mapsOnto_33
  · (repeat' (first | assumption | exact va_up_self _ _ _ | refine x_lk (by omega) ?_))
  · rfl
  apply xr_getf a_Mapper_mapsOnto_36
  · (repeat' (first | assumption | exact va_up_self _ _ _ | refine x_lk (by omega) ?_))
  · rfl
  refine xr_iload a_Mapper_mapsOnto_39 rfl ?_
  apply xo_iaload a_Mapper_mapsOnto_41
  · (repeat' (first | assumption | exact va_up_self _ _ _ | refine x_lk (by omega) ?_))
  · omega
  · omega
  refine xr_istore a_Mapper_mapsOnto_42 (by decide) rfl ?_
  refine xr_aload_n a_Mapper_mapsOnto_44 rfl ?_
  apply xr_getf a_Mapper_mapsOnto_45
  · (repeat' (first | assumption | exact va_up_self _ _ _ | refine x_lk (by omega) ?_))
  · rfl
  refine xr_iload_n a_Mapper_mapsOnto_48 rfl ?_
  refine xr_aload_n a_Mapper_mapsOnto_49 rfl ?_
  apply xr_getf a_Mapper_mapsOnto_50
  · (repeat' (first | assumption | exact va_up_self _ _ _ | refine x_lk (by omega) ?_))
  · rfl
  apply xr_getf a_Mapper_mapsOnto_53
  · (repeat' (first | assumption | exact va_up_self _ _ _ | refine x_lk (by omega) ?_))
  · rfl
  refine xr_iload_n a_Mapper_mapsOnto_56 rfl ?_
  apply xn_iaload a_Mapper_mapsOnto_57
  · (repeat' (first | assumption | exact va_up_self _ _ _ | refine x_lk (by omega) ?_))
  · omega
  · omega
  refine xr_invV a_Mapper_mapsOnto_58 (by (repeat' (first | assumption | exact va_up_self _ _ _ | refine x_lk (by omega) ?_))) (t_Images_letBecome (d := 0) (r := r + 1) (f := f) (t := F dp) (j := F' i) ⟨p1, p2⟩ b1.2.1 (by omega) (fun k hk => hf _ k hk)) rfl rfl (by omega) (by omega) (by omega) (Nat.le_of_ble_eq_true rfl) ?_
  rintro _ _ h1 ⟨rfl, rfl, rfl⟩
  refine xn_if_eq a_Mapper_mapsOnto_61 (vB_lt31 _) (fun b61 => ?_) (fun b61 => ?_)
  · refine xr_iconst a_Mapper_mapsOnto_99 (v := nI 0) (by decide +kernel) ?_
    refine xr_ls [(0, .ref r), (3, .int (nI (F dp))), (4, .int (nI (S dp))), (5, .int (oI (f (F dp)))), (6, .int (oI (f (S dp))))] ⟨rfl, rfl, rfl, rfl, rfl, trivial⟩ ?_
    exact rest 0 _ (by rw [vB_f (fun z => vB_0 b61 z.1)]) (fun u h1 h2 => vLet_off h1)
  · refine xr_aload_n a_Mapper_mapsOnto_64 rfl ?_
    apply xr_getf a_Mapper_mapsOnto_65
    · (repeat' (first | assumption | exact va_up_self _ _ _ | refine x_lk (by omega) ?_))
    · rfl
    refine xr_iload a_Mapper_mapsOnto_68 rfl ?_
    refine xr_aload_n a_Mapper_mapsOnto_70 rfl ?_
    apply xr_getf a_Mapper_mapsOnto_71
    · (repeat' (first | assumption | exact va_up_self _ _ _ | refine x_lk (by omega) ?_))
    · rfl
    apply xr_getf a_Mapper_mapsOnto_74
    · (repeat' (first | assumption | exact va_up_self _ _ _ | refine x_lk (by omega) ?_))
    · rfl
    refine xr_iload_n a_Mapper_mapsOnto_77 rfl ?_
    apply xn_iaload a_Mapper_mapsOnto_78
    · (repeat' (first | assumption | exact va_up_self _ _ _ | refine x_lk (by omega) ?_))
    · omega
    · omega
    refine xr_invV a_Mapper_mapsOnto_79 (by (repeat' (first | assumption | exact va_up_self _ _ _ | refine x_lk (by omega) ?_))) (t_Images_letBecome (d := 0) (r := r + 1) (f := vLet f (F dp) (F' i)) (t := S dp) (j := S' i) ⟨x_lk (by omega) p1, up_self _ _ _⟩ b1.2.2 (by omega) (fun k hk => vLet_bd hf (by omega) _ k hk)) rfl rfl (by omega) (by omega) (by omega) (Nat.le_of_ble_eq_true rfl) ?_
    rintro _ _ h1 ⟨rfl, rfl, rfl⟩
    rw [up_up]
    refine xn_if_eq a_Mapper_mapsOnto_82 (vB_lt31 _) (fun b82 => ?_) (fun b82 => ?_)
    · refine xr_iconst a_Mapper_mapsOnto_99 (v := nI 0) (by decide +kernel) ?_
      refine xr_ls [(0, .ref r), (3, .int (nI (F dp))), (4, .int (nI (S dp))), (5, .int (oI (f (F dp)))), (6, .int (oI (f (S dp))))] ⟨rfl, rfl, rfl, rfl, rfl, trivial⟩ ?_
      exact rest 0 _ (by rw [vB_f (fun z => vB_0 b82 z.2.1)]) (fun u h1 h2 => by rw [vLet_off h2, vLet_off h1])
    · refine xr_aload_n a_Mapper_mapsOnto_85 rfl ?_
      refine xr_iload_n a_Mapper_mapsOnto_86 rfl ?_
      refine xr_iconst a_Mapper_mapsOnto_87 (v := nI 1) (by decide +kernel) ?_
      first | refine xn_iadd a_Mapper_mapsOnto_88 ?_ | refine xr_iadd a_Mapper_mapsOnto_88 ?_
      refine xr_invV a_Mapper_mapsOnto_89 (by (repeat' (first | assumption | exact va_up_self _ _ _ | refine x_lk (by omega) ?_))) (IH _ (vLet (vLet f (F dp) (F' i)) (S dp) (S' i)) ⟨⟨x_lk (by omega) p0, x_lk (by omega) p1, up_self _ _ _⟩, pS.sm (xsm_up (by omega)), pT.sm (xsm_up (by omega)), hs, ht, vLet_bd (vLet_bd hf (by omega)) (by omega)⟩) rfl rfl (by omega) (by omega) (by omega) (Nat.le_of_ble_eq_true rfl) ?_
      rintro _ _ h1 ⟨rfl, rfl, rfl⟩
      refine xn_if_eq a_Mapper_mapsOnto_92 (vB_lt31 _) (fun b92 => ?_) (fun b92 => ?_)
      · refine xr_iconst a_Mapper_mapsOnto_99 (v := nI 0) (by decide +kernel) ?_
        refine xr_ls [(0, .ref r), (3, .int (nI (F dp))), (4, .int (nI (S dp))), (5, .int (oI (f (F dp)))), (6, .int (oI (f (S dp))))] ⟨rfl, rfl, rfl, rfl, rfl, trivial⟩ ?_
        exact rest 0 _ (by rw [vB_f (fun z => vB_0 b92 z.2.2)]) (fun u h1 h2 => by rw [vLet_off h2, vLet_off h1])
      · refine xr_iconst a_Mapper_mapsOnto_95 (v := nI 1) (by decide +kernel) ?_
        refine xr_goto a_Mapper_mapsOnto_96 ?_
        refine xr_ls [(0, .ref r), (3, .int (nI (F dp))), (4, .int (nI (S dp))), (5, .int (oI (f (F dp)))), (6, .int (oI (f (S dp))))] ⟨rfl, rfl, rfl, rfl, rfl, trivial⟩ ?_
        exact rest 1 _ (by rw [vB_t ⟨vB_1 b61, vB_1 b82, vB_1 b92⟩]) (fun u h1 h2 => by rw [vLet_off h2, vLet_off h1])
theorem t_Mapper_mapsFrom (hm : m ≤ cs) (hm' : m' ≤ ct) (hcs : cs < 100) (hct : ct < 100) (hB : vBd m H F S) (hB' : vBd m' H' F' S') (hlo : ∀ k, lo = some k → k < 2 ^ 31) : ∀ (k dp : Nat), dp + k = m → ∀ (h : xH) (f : Nat → Option Nat), mpC h r s t cs ct m H F S m' H' F' S' lo f → XM (2 * k) 0 0 k_Mapper_mapsFrom L xs [.ref r, .int (nI dp)] n h (qR n h (nI (vB (vMP m H F S m' H' F' S' lo f dp)))) := by
  intro k
  induction k with
  | zero =>
    intro dp hdp h f p
    obtain ⟨⟨p0, p1, p2⟩, pS, pT, hs, ht, hf⟩ := p
    obtain ⟨s0, s1, s2, s3⟩ := pS
    refine XM.of rfl (Nat.le_of_ble_eq_true rfl) ?_
    refine xr_iload_n a_Mapper_mapsFrom_0 rfl ?_
    refine xr_aload_n a_Mapper_mapsFrom_1 rfl ?_
    apply xr_getf a_Mapper_mapsFrom_2
    · (repeat' (first | assumption | exact va_up_self _ _ _ | refine x_lk (by omega) ?_))
    · rfl
    apply xr_getf a_Mapper_mapsFrom_5
    · (repeat' (first | assumption | exact va_up_self _ _ _ | refine x_lk (by omega) ?_))
    · rfl
    refine xn_icmp_lt a_Mapper_mapsFrom_8 (by omega) (by omega) (fun b8 => ?_) (fun b8 => ?_)
    · omega
    · refine xr_iconst a_Mapper_mapsFrom_11 (v := nI 1) (by decide +kernel) ?_
      refine xr_ireturn a_Mapper_mapsFrom_12 rfl rfl (by omega) (by omega) ?_
      refine ⟨?_, rfl, rfl⟩
      rw [vB_t (vMP_end (by omega))]
  | succ k ih =>
    intro dp hdp h f p
    have onto := fun (i : Nat) (hi : i < m') => t_Mapper_mapsOnto (d := 2 * k + 1) (d' := 2 * k) (L := L) (xs := xs) (n := n) (dp := dp) (i := i) p hm hm' hcs hct hB hB' (by omega) hi (by omega) (ih (dp + 1) (by omega))
    obtain ⟨⟨p0, p1, p2⟩, pS, pT, hs, ht, hf⟩ := p
    obtain ⟨s0, s1, s2, s3⟩ := pS
    obtain ⟨t0, t1, t2, t3⟩ := pT
    have b1 := hB dp (by omega)
    refine XM.of rfl (Nat.le_of_ble_eq_true rfl) ?_
    have loop : ∀ q i, i + q = m' → (∀ j, j < i → ¬ (lo ≠ some j ∧ H dp = H' j ∧ vMO m H F S m' H' F' S' lo f dp j)) → XW (x_rm (2 * (k + 1)) 0 0) k_Mapper_mapsFrom L xs (x_mq 0 0 (qR n h (nI (vB (vMP m H F S m' H' F' S' lo f dp))))) 0 0 15 [(0, .ref r), (1, .int (nI dp)), (2, .int (nI i))] [] n h := by
      intro q
      induction q with
      | zero =>
        intro i hi he
        refine xr_iload_n a_Mapper_mapsFrom_15 rfl ?_
        refine xr_aload_n a_Mapper_mapsFrom_16 rfl ?_
        apply xr_getf a_Mapper_mapsFrom_17
        · (repeat' (first | assumption | exact va_up_self _ _ _ | refine x_lk (by omega) ?_))
        · rfl
        apply xr_getf a_Mapper_mapsFrom_20
        · (repeat' (first | assumption | exact va_up_self _ _ _ | refine x_lk (by omega) ?_))
        · rfl
        refine xn_icmp_ge a_Mapper_mapsFrom_23 (by omega) (by omega) (fun b23 => ?_) (fun b23 => ?_)
        · refine xr_iconst a_Mapper_mapsFrom_72 (v := nI 0) (by decide +kernel) ?_
          refine xr_ireturn a_Mapper_mapsFrom_73 rfl rfl (by omega) (by omega) ?_
          refine ⟨?_, rfl, rfl⟩
          rw [vB_f (fun z => ?_)]
          obtain ⟨j, j1, j2⟩ := (vMP_step (by omega)).mp z
          exact he j (by omega) j2
        · omega
      | succ q ihq =>
        intro i hi he
        have b2 := hB' i (by omega)
        have next : ¬ (lo ≠ some i ∧ H dp = H' i ∧ vMO m H F S m' H' F' S' lo f dp i) → XW (x_rm (2 * (k + 1)) 0 0) k_Mapper_mapsFrom L xs (x_mq 0 0 (qR n h (nI (vB (vMP m H F S m' H' F' S' lo f dp))))) 0 0 66 [(0, .ref r), (1, .int (nI dp)), (2, .int (nI i))] [] n h := by
          intro hno
          first | refine xn_iinc a_Mapper_mapsFrom_66 rfl (by decide) rfl ?_ | refine xr_iinc a_Mapper_mapsFrom_66 rfl rfl (by decide) rfl ?_
          refine xr_goto a_Mapper_mapsFrom_69 ?_
          refine xr_ls [(0, .ref r), (1, .int (nI dp)), (2, .int (nI (i + 1)))] ⟨rfl, rfl, rfl, trivial⟩ ?_
          refine ihq (i + 1) (by omega) (fun j hj => ?_)
          by_cases e : j = i
          · rw [e]; exact hno
          · exact he j (by omega)
        refine xr_iload_n a_Mapper_mapsFrom_15 rfl ?_
        refine xr_aload_n a_Mapper_mapsFrom_16 rfl ?_
        apply xr_getf a_Mapper_mapsFrom_17
        · (repeat' (first | assumption | exact va_up_self _ _ _ | refine x_lk (by omega) ?_))
        · rfl
        apply xr_getf a_Mapper_mapsFrom_20
        · (repeat' (first | assumption | exact va_up_self _ _ _ | refine x_lk (by omega) ?_))
        · rfl
        refine xn_icmp_ge a_Mapper_mapsFrom_23 (by omega) (by omega) (fun b23 => ?_) (fun b23 => ?_)
        · omega
        · refine xr_iload_n a_Mapper_mapsFrom_26 rfl ?_
          refine xr_aload_n a_Mapper_mapsFrom_27 rfl ?_
          apply xr_getf a_Mapper_mapsFrom_28
          · (repeat' (first | assumption | exact va_up_self _ _ _ | refine x_lk (by omega) ?_))
          · rfl
          refine xr_icmp_eq a_Mapper_mapsFrom_31 (fun b31 => ?_) (fun b31 => ?_)
          · exact next (fun z => z.1 ((oI_nI (by omega) hlo).mp b31.symm))
          · have b31' : lo ≠ some i := fun z => b31 ((oI_nI (by omega) hlo).mpr z).symm
            refine xr_aload_n a_Mapper_mapsFrom_34 rfl ?_
            apply xr_getf a_Mapper_mapsFrom_35
            · (repeat' (first | assumption | exact va_up_self _ _ _ | refine x_lk (by omega) ?_))
            · rfl
            apply xr_getf a_Mapper_mapsFrom_38
            · (repeat' (first | assumption | exact va_up_self _ _ _ | refine x_lk (by omega) ?_))
            · rfl
            refine xr_iload_n a_Mapper_mapsFrom_41 rfl ?_
            apply xn_iaload a_Mapper_mapsFrom_42
            · (repeat' (first | assumption | exact va_up_self _ _ _ | refine x_lk (by omega) ?_))
            · omega
            · omega
            refine xr_aload_n a_Mapper_mapsFrom_43 rfl ?_
            apply xr_getf a_Mapper_mapsFrom_44
            · (repeat' (first | assumption | exact va_up_self _ _ _ | refine x_lk (by omega) ?_))
            · rfl
            apply xr_getf a_Mapper_mapsFrom_47
            · (repeat' (first | assumption | exact va_up_self _ _ _ | refine x_lk (by omega) ?_))
            · rfl
            refine xr_iload_n a_Mapper_mapsFrom_50 rfl ?_
            apply xn_iaload a_Mapper_mapsFrom_51
            · (repeat' (first | assumption | exact va_up_self _ _ _ | refine x_lk (by omega) ?_))
            · omega
            · omega
            refine xn_icmp_ne a_Mapper_mapsFrom_52 (by omega) (by omega) (fun b52 => ?_) (fun b52 => ?_)
            · exact next (fun z => b52 z.2.1)
            · refine xr_aload_n a_Mapper_mapsFrom_55 rfl ?_
              refine xr_iload_n a_Mapper_mapsFrom_56 rfl ?_
              refine xr_iload_n a_Mapper_mapsFrom_57 rfl ?_
              refine xr_invV a_Mapper_mapsFrom_58 (by (repeat' (first | assumption | exact va_up_self _ _ _ | refine x_lk (by omega) ?_))) (onto i (by omega)) rfl rfl (by omega) (by omega) (by omega) (Nat.le_of_ble_eq_true rfl) ?_
              rintro _ _ h1 ⟨rfl, rfl, rfl⟩
              refine xn_if_eq a_Mapper_mapsFrom_61 (vB_lt31 _) (fun b61 => ?_) (fun b61 => ?_)
              · exact next (fun z => vB_0 b61 z.2.2)
              · refine xr_iconst a_Mapper_mapsFrom_64 (v := nI 1) (by decide +kernel) ?_
                refine xr_ireturn a_Mapper_mapsFrom_65 rfl rfl (by omega) (by omega) ?_
                refine ⟨?_, rfl, rfl⟩
                rw [vB_t ((vMP_step (by omega)).mpr ⟨i, by omega, b31', b52, vB_1 b61⟩)]
    refine xr_iload_n a_Mapper_mapsFrom_0 rfl ?_
    refine xr_aload_n a_Mapper_mapsFrom_1 rfl ?_
    apply xr_getf a_Mapper_mapsFrom_2
    · (repeat' (first | assumption | exact va_up_self _ _ _ | refine x_lk (by omega) ?_))
    · rfl
    apply xr_getf a_Mapper_mapsFrom_5
    · (repeat' (first | assumption | exact va_up_self _ _ _ | refine x_lk (by omega) ?_))
    · rfl
    refine xn_icmp_lt a_Mapper_mapsFrom_8 (by omega) (by omega) (fun b8 => ?_) (fun b8 => ?_)
    · refine xr_iconst a_Mapper_mapsFrom_13 (v := nI 0) (by decide +kernel) ?_
      refine xr_istore_n a_Mapper_mapsFrom_14 (by decide) rfl ?_
      refine xr_ls [(0, .ref r), (1, .int (nI dp)), (2, .int (nI 0))] ⟨rfl, rfl, rfl, trivial⟩ ?_
      exact loop m' 0 (by omega) (fun j hj => by omega)
    · omega
theorem t_Mapper_maps {h : xH} {v1 v2 : Value} {lo0 : Int32} (p : isMp h r v1 v2 lo0 vIm0) (pS : isAL h s cs m H F S) (pT : isAL h t ct m' H' F' S') (hs : s + 4 ≤ r ∨ r + 3 ≤ s) (ht : t + 4 ≤ r ∨ r + 3 ≤ t) (hm : m ≤ cs) (hm' : m' ≤ ct) (hcs : cs < 100) (hct : ct < 100) (hB : vBd m H F S) (hB' : vBd m' H' F' S') (hlo : ∀ k, lo = some k → k < 2 ^ 31) (hd : 2 * m + 1 ≤ d) : XM d 0 0 k_Mapper_maps L xs [.ref r, .ref s, .ref t, .int (oI lo)] n h (qP n (nI (vB (vMP m H F S m' H' F' S' lo vIm0 0))) (fun h' => h' = va_up h r (cJ 6 [.ref (r + 1), .ref s, .ref t, .int (oI lo)]))) := by
  obtain ⟨p0, p1, p2⟩ := p
  have hf : ∀ u k, vIm0 u = some k → k < 100 := by
    intro u k hk
    unfold vIm0 at hk
    by_cases hu : u < 18
    · rw [if_pos hu] at hk; cases hk; omega
    · rw [if_neg hu] at hk; cases hk
  refine XM.of rfl (Nat.le_of_ble_eq_true rfl) ?_
  refine xr_aload_n a_Mapper_maps_0 rfl ?_
  refine xr_aload_n a_Mapper_maps_1 rfl ?_
  apply xr_putf a_Mapper_maps_2
  · (repeat' (first | assumption | exact va_up_self _ _ _ | refine x_lk (by omega) ?_))
  · exact Nat.le_of_ble_eq_true rfl
  · rfl
  · rfl
  refine xr_aload_n a_Mapper_maps_5 rfl ?_
  refine xr_aload_n a_Mapper_maps_6 rfl ?_
  apply xr_putf a_Mapper_maps_7
  · (repeat' (first | assumption | exact va_up_self _ _ _ | refine x_lk (by omega) ?_))
  · exact Nat.le_of_ble_eq_true rfl
  · rfl
  · rfl
  refine xr_aload_n a_Mapper_maps_10 rfl ?_
  refine xr_iload_n a_Mapper_maps_11 rfl ?_
  apply xr_putf a_Mapper_maps_12
  · (repeat' (first | assumption | exact va_up_self _ _ _ | refine x_lk (by omega) ?_))
  · exact Nat.le_of_ble_eq_true rfl
  · rfl
  · rfl
  refine xr_aload_n a_Mapper_maps_15 rfl ?_
  refine xr_iconst a_Mapper_maps_16 (v := nI 0) (by decide +kernel) ?_
  rw [up_up, up_up]
  refine xr_invV a_Mapper_maps_17 (by (repeat' (first | assumption | exact va_up_self _ _ _ | refine x_lk (by omega) ?_))) (t_Mapper_mapsFrom hm hm' hcs hct hB hB' hlo m 0 (by omega) _ vIm0 ⟨⟨up_self _ _ _, x_lk (by omega) p1, x_lk (by omega) p2⟩, pS.sm (xsm_up (by omega)), pT.sm (xsm_up (by omega)), hs, ht, hf⟩) rfl rfl (by omega) (by omega) (by omega) (Nat.le_of_ble_eq_true rfl) ?_
  rintro _ _ h1 ⟨rfl, rfl, rfl⟩
  refine xr_ireturn a_Mapper_maps_20 rfl (nar_vB _) (by omega) (by omega) ?_
  exact ⟨rfl, rfl, rfl⟩
end T25

