/-! the reference: maps, by trying choices -/
def nxt : Option Nat → Nat
  | none => 0
  | some x => x + 1
theorem oI_inc (o : Option Nat) : oI o + nI 1 = nI (nxt o) := by
  cases o with
  | none => show (-1 : Int32) + nI 1 = nI 0; decide +kernel
  | some x => exact nI_add x 1
/-- the choices P for the first k can be gone on with -/
def mEx (nd : Nat) (H F S : Nat → Nat) (n' : Nat) (H' F' S' : Nat → Nat) (lo : Option Nat) (P : Nat → Nat) (k : Nat) : Prop := ∃ σ : Nat → Nat, vFix 18 σ ∧ (∀ i, i < k → H i = H' (P i) ∧ P i < n' ∧ lo ≠ some (P i) ∧ σ (F i) = F' (P i) ∧ σ (S i) = S' (P i)) ∧ ∀ i, k ≤ i → i < nd → ∃ j, j < n' ∧ lo ≠ some j ∧ H i = H' j ∧ σ (F i) = F' j ∧ σ (S i) = S' j
theorem mEx_mp {nd : Nat} {H F S : Nat → Nat} {n' : Nat} {H' F' S' : Nat → Nat} {lo : Option Nat} {P : Nat → Nat} {k : Nat} (h : mEx nd H F S n' H' F' S' lo P k) : vMP nd H F S n' H' F' S' lo vIm0 0 := by
  obtain ⟨σ, h1, h2, h3⟩ := h
  refine ⟨σ, vIm0_ext.mpr h1, fun i _ hi => ?_⟩
  by_cases hik : i < k
  · obtain ⟨a, b, c, d, e⟩ := h2 i hik
    exact ⟨P i, b, c, a, d, e⟩
  · exact h3 i (by omega) hi
theorem mEx_0 {nd : Nat} {H F S : Nat → Nat} {n' : Nat} {H' F' S' : Nat → Nat} {lo : Option Nat} {P : Nat → Nat} (h : vMP nd H F S n' H' F' S' lo vIm0 0) : mEx nd H F S n' H' F' S' lo P 0 := by
  obtain ⟨σ, h1, h2⟩ := h
  exact ⟨σ, vIm0_ext.mp h1, fun i hi => by omega, h2⟩
theorem mEx_s {nd : Nat} {H F S : Nat → Nat} {n' : Nat} {H' F' S' : Nat → Nat} {lo : Option Nat} {P : Nat → Nat} {k : Nat} (hk : k < nd) (h : mEx nd H F S n' H' F' S' lo P k) : ∃ j, j < n' ∧ mEx nd H F S n' H' F' S' lo (va_up P k j) (k + 1) := by
  obtain ⟨σ, h1, h2, h3⟩ := h
  obtain ⟨j, a, b, c, d, e⟩ := h3 k (Nat.le_refl _) hk
  refine ⟨j, a, σ, h1, fun i hi => ?_, fun i h4 h5 => h3 i (by omega) h5⟩
  by_cases e2 : i = k
  · rw [e2, up_self]; exact ⟨c, a, b, d, e⟩
  · rw [up_ne e2]; exact h2 i (by omega)
/-- the choices so far agree -/
def mCn (H F S : Nat → Nat) (n' : Nat) (H' F' S' : Nat → Nat) (lo : Option Nat) (P : Nat → Nat) (k : Nat) : Prop := vCon 18 F S (fun j => F' (P j)) (fun j => S' (P j)) k ∧ ∀ i, i < k → H i = H' (P i) ∧ P i < n' ∧ lo ≠ some (P i)
theorem mEx_cn {nd : Nat} {H F S : Nat → Nat} {n' : Nat} {H' F' S' : Nat → Nat} {lo : Option Nat} {P : Nat → Nat} {k : Nat} (h : mEx nd H F S n' H' F' S' lo P k) : mCn H F S n' H' F' S' lo P k := by
  obtain ⟨σ, h1, h2, h3⟩ := h
  exact ⟨⟨σ, h1, fun i hi => (h2 i hi).2.2.2⟩, fun i hi => ⟨(h2 i hi).1, (h2 i hi).2.1, (h2 i hi).2.2.1⟩⟩
theorem mCn_ex {nd : Nat} {H F S : Nat → Nat} {n' : Nat} {H' F' S' : Nat → Nat} {lo : Option Nat} {P : Nat → Nat} (h : mCn H F S n' H' F' S' lo P nd) : mEx nd H F S n' H' F' S' lo P nd := by
  obtain ⟨⟨σ, h1, h2⟩, h3⟩ := h
  exact ⟨σ, h1, fun i hi => ⟨(h3 i hi).1, (h3 i hi).2.1, (h3 i hi).2.2, (h2 i hi).1, (h2 i hi).2⟩, fun i h4 h5 => by omega⟩
theorem mCn_s {H F S : Nat → Nat} {n' : Nat} {H' F' S' : Nat → Nat} {lo : Option Nat} {P : Nat → Nat} {k x : Nat} (h : mCn H F S n' H' F' S' lo P k) (hx : x < n') (hlo : lo ≠ some x) : mCn H F S n' H' F' S' lo (va_up P k x) (k + 1) ↔ (H k = H' x ∧ vFit 18 F S (fun j => F' (va_up P k x j)) (fun j => S' (va_up P k x j)) k) := by
  have hc : vCon 18 F S (fun j => F' (va_up P k x j)) (fun j => S' (va_up P k x j)) k := vCon_congr (fun i hi => by rw [up_ne (by omega)]; exact ⟨rfl, rfl⟩) h.1
  constructor
  · rintro ⟨h1, h2⟩
    have := (h2 k (by omega)).1
    rw [up_self] at this
    exact ⟨this, (vCon_fit.mp h1).2⟩
  · rintro ⟨h1, h2⟩
    refine ⟨vCon_fit.mpr ⟨hc, h2⟩, fun i hi => ?_⟩
    by_cases e : i = k
    · rw [e, up_self]; exact ⟨h1, hx, hlo⟩
    · rw [up_ne e]; exact h.2 i (by omega)
section T59
variable {d L : Nat} {xs : Nat → Int32} {n : Nat} {h : xH} {m : Nat} {as ma stk ne rq tr : Nat} {sz lR lA lB : Nat → Nat} {pk0 : Nat → Option Nat}
theorem t_Mod_maps {dd e nd n' : Nat} {lo : Option Nat} (p0 : h m = cM m as ma stk ne rq tr) (c0 : h (m + 14) = cI 8 sz) (c1 : h (m + 15) = cI 48 lR) (c2 : h (m + 16) = cI 48 lA) (c3 : h (m + 17) = cI 48 lB) (c4 : h (m + 20) = cO 6 pk0) (hd8 : dd < 8) (he8 : e < 8) (hnd : sz dd = nd) (hn' : sz e = n') (hn1 : 1 ≤ nd) (hn6 : nd ≤ 6) (hm6 : n' ≤ 6) (hlo : ∀ k, lo = some k → k < 2 ^ 31) (hB : ∀ j, j < nd → lR (6 * dd + j) < 100 ∧ lA (6 * dd + j) < 100 ∧ lB (6 * dd + j) < 100) (hB' : ∀ j, j < n' → lR (6 * e + j) < 100 ∧ lA (6 * e + j) < 100 ∧ lB (6 * e + j) < 100) (hd1 : 1 ≤ d) : XM d 0 0 k_Mod_maps L xs [.ref m, .int (nI dd), .int (nI e), .int (oI lo)] n h (qP n (nI (vB (vMP nd (fun i => lR (6 * dd + i)) (fun i => lA (6 * dd + i)) (fun i => lB (6 * dd + i)) n' (fun i => lR (6 * e + i)) (fun i => lA (6 * e + i)) (fun i => lB (6 * e + i)) lo vIm0 0))) (fun h' => ∃ pk', h' = va_up h (m + 20) (cO 6 pk'))) := by
  refine XM.of rfl (Nat.le_of_ble_eq_true rfl) ?_
  have try_ : ∀ r k, k + r + 1 = nd → ∀ q nx, nx + q = n' → ∀ (P : Nat → Nat) (pk : Nat → Option Nat), mCn (fun i => lR (6 * dd + i)) (fun i => lA (6 * dd + i)) (fun i => lB (6 * dd + i)) n' (fun i => lR (6 * e + i)) (fun i => lA (6 * e + i)) (fun i => lB (6 * e + i)) lo P k → (∀ i, i < k → pk i = some (P i)) → nxt (pk k) = nx → ((¬ ∃ j, nx ≤ j ∧ j < n' ∧ mEx nd (fun i => lR (6 * dd + i)) (fun i => lA (6 * dd + i)) (fun i => lB (6 * dd + i)) n' (fun i => lR (6 * e + i)) (fun i => lA (6 * e + i)) (fun i => lB (6 * e + i)) lo (va_up P k j) (k + 1)) → ∀ pk', (∀ i, i < k → pk' i = some (P i)) → XW (x_rm d 0 0) k_Mod_maps L xs (x_mq 0 0 (qP n (nI (vB (vMP nd (fun i => lR (6 * dd + i)) (fun i => lA (6 * dd + i)) (fun i => lB (6 * dd + i)) n' (fun i => lR (6 * e + i)) (fun i => lA (6 * e + i)) (fun i => lB (6 * e + i)) lo vIm0 0))) (fun h' => ∃ pk', h' = va_up h (m + 20) (cO 6 pk')))) 0 0 10 [(0, .ref m), (1, .int (nI dd)), (2, .int (nI e)), (3, .int (oI lo)), (4, .int (nI k - nI 1))] [] n (va_up h (m + 20) (cO 6 pk'))) → XW (x_rm d 0 0) k_Mod_maps L xs (x_mq 0 0 (qP n (nI (vB (vMP nd (fun i => lR (6 * dd + i)) (fun i => lA (6 * dd + i)) (fun i => lB (6 * dd + i)) n' (fun i => lR (6 * e + i)) (fun i => lA (6 * e + i)) (fun i => lB (6 * e + i)) lo vIm0 0))) (fun h' => ∃ pk', h' = va_up h (m + 20) (cO 6 pk')))) 0 0 10 [(0, .ref m), (1, .int (nI dd)), (2, .int (nI e)), (3, .int (oI lo)), (4, .int (nI k))] [] n (va_up h (m + 20) (cO 6 pk)) := by
    intro r
    induction r using Nat.strongRecOn with
    | ind r ihr =>
    intro k hk q
    induction q with
    | zero =>
      intro nx hnx P pk hC hpk hn hK
      refine xr_iload a_Mod_maps_10 rfl ?_
      refine xn_if_lt a_Mod_maps_12 (by omega) ?_
      refine xr_aload_n a_Mod_maps_15 rfl ?_
      apply xr_getf a_Mod_maps_16
      · (repeat' (first | assumption | exact va_up_self _ _ _ | refine x_lk (by omega) ?_))
      · rfl
      refine xr_iload a_Mod_maps_19 rfl ?_
      refine xr_dup2 a_Mod_maps_21 rfl rfl ?_
      apply xo_iaload a_Mod_maps_22
      · (repeat' (first | assumption | exact va_up_self _ _ _ | refine x_lk (by omega) ?_))
      · omega
      · omega
      refine xr_iconst a_Mod_maps_23 (v := nI 1) (by decide +kernel) ?_
      refine xr_iadd a_Mod_maps_24 ?_
      rw [oI_inc, hn]
      apply xo_iastore (o := some nx) a_Mod_maps_25
      · (repeat' (first | assumption | exact va_up_self _ _ _ | refine x_lk (by omega) ?_))
      · exact rfl
      · omega
      · omega
      refine xr_aload_n a_Mod_maps_26 rfl ?_
      apply xr_getf a_Mod_maps_27
      · (repeat' (first | assumption | exact va_up_self _ _ _ | refine x_lk (by omega) ?_))
      · rfl
      refine xr_iload a_Mod_maps_30 rfl ?_
      apply xo_iaload a_Mod_maps_32
      · (repeat' (first | assumption | exact va_up_self _ _ _ | refine x_lk (by omega) ?_))
      · omega
      · omega
      rw [up_up, up_self, show oI (some nx) = nI nx from rfl]
      refine xr_aload_n a_Mod_maps_33 rfl ?_
      apply xr_getf a_Mod_maps_34
      · (repeat' (first | assumption | exact va_up_self _ _ _ | refine x_lk (by omega) ?_))
      · rfl
      refine xr_iload_n a_Mod_maps_37 rfl ?_
      apply xn_iaload a_Mod_maps_38
      · (repeat' (first | assumption | exact va_up_self _ _ _ | refine x_lk (by omega) ?_))
      · omega
      · omega
      refine xn_icmp_lt a_Mod_maps_39 (by omega) (by omega) (fun b39 => ?_) (fun b39 => ?_)
      · omega
      · refine xr_iinc a_Mod_maps_42 rfl (x_dec _) (by decide) rfl ?_
        refine xr_goto a_Mod_maps_45 ?_
        refine xr_ls [(0, .ref m), (1, .int (nI dd)), (2, .int (nI e)), (3, .int (oI lo)), (4, .int (nI k - nI 1))] ⟨rfl, rfl, rfl, rfl, rfl, trivial⟩ ?_
        exact hK (fun ⟨j, j1, j2, _⟩ => by omega) _ (fun i hi => by rw [up_ne (by omega)]; exact hpk i hi)
    | succ q ihq =>
      intro nx hnx P pk hC hpk hn hK
      have again : ¬ mEx nd (fun i => lR (6 * dd + i)) (fun i => lA (6 * dd + i)) (fun i => lB (6 * dd + i)) n' (fun i => lR (6 * e + i)) (fun i => lA (6 * e + i)) (fun i => lB (6 * e + i)) lo (va_up P k nx) (k + 1) → ∀ pk', (∀ i, i < k → pk' i = some (P i)) → pk' k = some nx → XW (x_rm d 0 0) k_Mod_maps L xs (x_mq 0 0 (qP n (nI (vB (vMP nd (fun i => lR (6 * dd + i)) (fun i => lA (6 * dd + i)) (fun i => lB (6 * dd + i)) n' (fun i => lR (6 * e + i)) (fun i => lA (6 * e + i)) (fun i => lB (6 * e + i)) lo vIm0 0))) (fun h' => ∃ pk', h' = va_up h (m + 20) (cO 6 pk')))) 0 0 10 [(0, .ref m), (1, .int (nI dd)), (2, .int (nI e)), (3, .int (oI lo)), (4, .int (nI k))] [] n (va_up h (m + 20) (cO 6 pk')) := by
        intro hno pk' h1 h2
        refine ihq (nx + 1) (by omega) P pk' hC h1 (by rw [h2]; rfl) (fun hno2 => hK (fun ⟨j, j1, j2, j3⟩ => ?_))
        by_cases ej : j = nx
        · rw [ej] at j3; exact hno j3
        · exact hno2 ⟨j, by omega, j2, j3⟩
      have hpk1 : ∀ i, i < k → va_up pk k (some nx) i = some (P i) := fun i hi => by rw [up_ne (by omega)]; exact hpk i hi
      have eP : ∀ i, i ≤ k → va_up pk k (some nx) i = some (va_up P k nx i) := by
        intro i hi
        by_cases ei : i = k
        · rw [ei, up_self, up_self]
        · rw [up_ne ei, up_ne ei]; exact hpk i (by omega)
      have eB : ∀ i, i ≤ k → va_up P k nx i < n' := by
        intro i hi
        by_cases ei : i = k
        · rw [ei, up_self]; omega
        · rw [up_ne ei]; exact (hC.2 i (by omega)).2.1
      have cF := t_Mod_fits (d := 0) (L := L) (xs := xs) (n := n) (h := va_up h (m + 20) (cO 6 (va_up pk k (some nx)))) (dd := dd) (e := e) (k := k) (P := va_up P k nx) (pk := va_up pk k (some nx)) (x_lk (by omega) p0) (x_lk (by omega) c1) (x_lk (by omega) c2) (x_lk (by omega) c3) (up_self _ _ _) hd8 he8 (by omega) (fun j hj => ⟨eP j hj, by have := eB j hj; omega⟩) (fun j hj => by
        obtain ⟨a1, a2, a3⟩ := hB j (by omega)
        obtain ⟨b1, b2, b3⟩ := hB' _ (eB j hj)
        exact ⟨a1, a2, a3, b1, b2, b3⟩)
      refine xr_iload a_Mod_maps_10 rfl ?_
      refine xn_if_lt a_Mod_maps_12 (by omega) ?_
      refine xr_aload_n a_Mod_maps_15 rfl ?_
      apply xr_getf a_Mod_maps_16
      · (repeat' (first | assumption | exact va_up_self _ _ _ | refine x_lk (by omega) ?_))
      · rfl
      refine xr_iload a_Mod_maps_19 rfl ?_
      refine xr_dup2 a_Mod_maps_21 rfl rfl ?_
      apply xo_iaload a_Mod_maps_22
      · (repeat' (first | assumption | exact va_up_self _ _ _ | refine x_lk (by omega) ?_))
      · omega
      · omega
      refine xr_iconst a_Mod_maps_23 (v := nI 1) (by decide +kernel) ?_
      refine xr_iadd a_Mod_maps_24 ?_
      rw [oI_inc, hn]
      apply xo_iastore (o := some nx) a_Mod_maps_25
      · (repeat' (first | assumption | exact va_up_self _ _ _ | refine x_lk (by omega) ?_))
      · exact rfl
      · omega
      · omega
      refine xr_aload_n a_Mod_maps_26 rfl ?_
      apply xr_getf a_Mod_maps_27
      · (repeat' (first | assumption | exact va_up_self _ _ _ | refine x_lk (by omega) ?_))
      · rfl
      refine xr_iload a_Mod_maps_30 rfl ?_
      apply xo_iaload a_Mod_maps_32
      · (repeat' (first | assumption | exact va_up_self _ _ _ | refine x_lk (by omega) ?_))
      · omega
      · omega
      rw [up_up, up_self, show oI (some nx) = nI nx from rfl]
      refine xr_aload_n a_Mod_maps_33 rfl ?_
      apply xr_getf a_Mod_maps_34
      · (repeat' (first | assumption | exact va_up_self _ _ _ | refine x_lk (by omega) ?_))
      · rfl
      refine xr_iload_n a_Mod_maps_37 rfl ?_
      apply xn_iaload a_Mod_maps_38
      · (repeat' (first | assumption | exact va_up_self _ _ _ | refine x_lk (by omega) ?_))
      · omega
      · omega
      refine xn_icmp_lt a_Mod_maps_39 (by omega) (by omega) (fun b39 => ?_) (fun b39 => ?_)
      · refine xr_aload_n a_Mod_maps_48 rfl ?_
        apply xr_getf a_Mod_maps_49
        · (repeat' (first | assumption | exact va_up_self _ _ _ | refine x_lk (by omega) ?_))
        · rfl
        refine xr_iload a_Mod_maps_52 rfl ?_
        apply xo_iaload a_Mod_maps_54
        · (repeat' (first | assumption | exact va_up_self _ _ _ | refine x_lk (by omega) ?_))
        · omega
        · omega
        rw [up_self, show oI (some nx) = nI nx from rfl]
        refine xr_iload_n a_Mod_maps_55 rfl ?_
        refine xr_icmp_eq a_Mod_maps_56 (fun b56 => ?_) (fun b56 => ?_)
        · refine xr_ls [(0, .ref m), (1, .int (nI dd)), (2, .int (nI e)), (3, .int (oI lo)), (4, .int (nI k))] ⟨rfl, rfl, rfl, rfl, rfl, trivial⟩ ?_
          refine again (fun z => ?_) _ hpk1 (up_self _ _ _)
          have := ((mEx_cn z).2 k (by omega)).2.2
          rw [up_self] at this
          exact this ((oI_nI (by omega) hlo).mp b56.symm)
        · have hlx : lo ≠ some nx := fun z => b56 ((oI_nI (by omega) hlo).mpr z).symm
          have iffC := mCn_s (x := nx) hC (by omega) hlx
          refine xr_aload_n a_Mod_maps_59 rfl ?_
          refine xr_iload_n a_Mod_maps_60 rfl ?_
          refine xr_iload_n a_Mod_maps_61 rfl ?_
          refine xr_iload a_Mod_maps_62 rfl ?_
          refine xr_invV a_Mod_maps_64 (by (repeat' (first | assumption | exact va_up_self _ _ _ | refine x_lk (by omega) ?_))) (cF) rfl rfl (by omega) (by omega) (by omega) (Nat.le_of_ble_eq_true rfl) ?_
          rintro _ _ h1 ⟨rfl, rfl, rfl⟩
          refine xn_if_eq a_Mod_maps_67 (vB_lt31 _) (fun b67 => ?_) (fun b67 => ?_)
          · refine xr_ls [(0, .ref m), (1, .int (nI dd)), (2, .int (nI e)), (3, .int (oI lo)), (4, .int (nI k))] ⟨rfl, rfl, rfl, rfl, rfl, trivial⟩ ?_
            refine again (fun z => vB_0 b67 ?_) _ hpk1 (up_self _ _ _)
            have := iffC.mp (mEx_cn z)
            rw [up_self]
            exact this
          · have hC1 := iffC.mpr (by have := vB_1 b67; rw [up_self] at this; exact this)
            refine xr_iload a_Mod_maps_70 rfl ?_
            refine xr_aload_n a_Mod_maps_72 rfl ?_
            apply xr_getf a_Mod_maps_73
            · (repeat' (first | assumption | exact va_up_self _ _ _ | refine x_lk (by omega) ?_))
            · rfl
            refine xr_iload_n a_Mod_maps_76 rfl ?_
            apply xn_iaload a_Mod_maps_77
            · (repeat' (first | assumption | exact va_up_self _ _ _ | refine x_lk (by omega) ?_))
            · omega
            · omega
            refine xr_iconst a_Mod_maps_78 (v := nI 1) (by decide +kernel) ?_
            first | refine xn_isub a_Mod_maps_79 (by omega) ?_ | refine xr_isub a_Mod_maps_79 ?_
            refine xn_icmp_ne a_Mod_maps_80 (by omega) (by omega) (fun b80 => ?_) (fun b80 => ?_)
            · obtain ⟨r', hr'⟩ : ∃ r', r = r' + 1 := ⟨r - 1, by omega⟩
              first | refine xn_iinc a_Mod_maps_85 rfl (by decide) rfl ?_ | refine xr_iinc a_Mod_maps_85 rfl rfl (by decide) rfl ?_
              refine xr_aload_n a_Mod_maps_88 rfl ?_
              apply xr_getf a_Mod_maps_89
              · (repeat' (first | assumption | exact va_up_self _ _ _ | refine x_lk (by omega) ?_))
              · rfl
              refine xr_iload a_Mod_maps_92 rfl ?_
              refine xr_iconst a_Mod_maps_94 (v := -1) (by decide +kernel) ?_
              apply xo_iastore (o := none) a_Mod_maps_95
              · (repeat' (first | assumption | exact va_up_self _ _ _ | refine x_lk (by omega) ?_))
              · exact rfl
              · omega
              · omega
              refine xr_goto a_Mod_maps_96 ?_
              refine xr_ls [(0, .ref m), (1, .int (nI dd)), (2, .int (nI e)), (3, .int (oI lo)), (4, .int (nI (k + 1)))] ⟨rfl, rfl, rfl, rfl, rfl, trivial⟩ ?_
              rw [up_up]
              refine ihr r' (by omega) (k + 1) (by omega) n' 0 (by omega) (va_up P k nx) _ hC1 (fun i hi => by rw [up_ne (by omega)]; exact eP i (by omega)) (by rw [up_self]; rfl) (fun hno pk' h1 => ?_)
              rw [show nI (k + 1) - nI 1 = nI k from pk_sub (by omega)]
              refine again (fun z => ?_) pk' (fun i hi => ?_) ?_
              · obtain ⟨j, j1, j2⟩ := mEx_s (by omega) z
                exact hno ⟨j, Nat.zero_le _, j1, j2⟩
              · rw [h1 i (by omega), up_ne (by omega)]
              · rw [h1 k (by omega), up_self]
            · refine xr_iconst a_Mod_maps_83 (v := nI 1) (by decide +kernel) ?_
              refine xr_ireturn a_Mod_maps_84 rfl rfl (by omega) (by omega) ?_
              have ek : k + 1 = nd := by omega
              rw [ek] at hC1
              refine ⟨?_, rfl, _, rfl⟩
              rw [vB_t (mEx_mp (mCn_ex hC1))]
      · omega
  refine xr_iconst a_Mod_maps_0 (v := nI 0) (by decide +kernel) ?_
  refine xr_istore a_Mod_maps_1 (by decide) rfl ?_
  refine xr_aload_n a_Mod_maps_3 rfl ?_
  apply xr_getf a_Mod_maps_4
  · (repeat' (first | assumption | exact va_up_self _ _ _ | refine x_lk (by omega) ?_))
  · rfl
  refine xr_iconst a_Mod_maps_7 (v := nI 0) (by decide +kernel) ?_
  refine xr_iconst a_Mod_maps_8 (v := -1) (by decide +kernel) ?_
  apply xo_iastore (o := none) a_Mod_maps_9
  · (repeat' (first | assumption | exact va_up_self _ _ _ | refine x_lk (by omega) ?_))
  · exact rfl
  · omega
  · omega
  refine xr_ls [(0, .ref m), (1, .int (nI dd)), (2, .int (nI e)), (3, .int (oI lo)), (4, .int (nI 0))] ⟨rfl, rfl, rfl, rfl, rfl, trivial⟩ ?_
  refine try_ (nd - 1) 0 (by omega) n' 0 (by omega) (fun _ => 0) _ ⟨vCon_0, fun i hi => by omega⟩ (fun i hi => by omega) (by rw [up_self]; rfl) (fun hno pk' _ => ?_)
  refine xr_iload a_Mod_maps_10 rfl ?_
  refine xr_if_lt a_Mod_maps_12 (fun b12 => ?_) (fun b12 => ?_)
  · refine xr_iconst a_Mod_maps_99 (v := nI 0) (by decide +kernel) ?_
    refine xr_ireturn a_Mod_maps_100 rfl rfl (by omega) (by omega) ?_
    refine ⟨?_, rfl, pk', rfl⟩
    rw [vB_f (fun z => ?_)]
    obtain ⟨j, j1, j2⟩ := mEx_s (by omega) (mEx_0 (P := fun _ => 0) z)
    exact hno ⟨j, Nat.zero_le _, j1, j2⟩
  · exact absurd (by decide) b12
end T59

