/-! the reference: fits, move, known -/
section T58
variable {d L : Nat} {xs : Nat → Int32} {n : Nat} {h : xH} {m : Nat} {as ma stk ne rq tr : Nat} {lR lA lB : Nat → Nat} {pk : Nat → Option Nat} {P : Nat → Nat}
theorem t_Mod_fits {dd e k : Nat} (p0 : h m = cM m as ma stk ne rq tr) (c1 : h (m + 15) = cI 48 lR) (c2 : h (m + 16) = cI 48 lA) (c3 : h (m + 17) = cI 48 lB) (c4 : h (m + 20) = cO 6 pk) (hd8 : dd < 8) (he8 : e < 8) (hk : k < 6) (hpk : ∀ j, j ≤ k → pk j = some (P j) ∧ P j < 6) (hB : ∀ j, j ≤ k → lR (6 * dd + j) < 100 ∧ lA (6 * dd + j) < 100 ∧ lB (6 * dd + j) < 100 ∧ lR (6 * e + P j) < 100 ∧ lA (6 * e + P j) < 100 ∧ lB (6 * e + P j) < 100) : XM d 0 0 k_Mod_fits L xs [.ref m, .int (nI dd), .int (nI e), .int (nI k)] n h (qR n h (nI (vB (lR (6 * dd + k) = lR (6 * e + P k) ∧ vFit 18 (fun j => lA (6 * dd + j)) (fun j => lB (6 * dd + j)) (fun j => lA (6 * e + P j)) (fun j => lB (6 * e + P j)) k)))) := by
  obtain ⟨bk1, bk2, bk3, bk4, bk5, bk6⟩ := hB k (Nat.le_refl _)
  obtain ⟨hpe, hP6⟩ := hpk k (Nat.le_refl _)
  have eo : ∀ j, j ≤ k → oI (pk j) = nI (P j) := fun j hj => by rw [(hpk j hj).1]; rfl
  refine XM.of rfl (Nat.le_of_ble_eq_true rfl) ?_
  have no : ¬ (lR (6 * dd + k) = lR (6 * e + P k) ∧ vFit 18 (fun j => lA (6 * dd + j)) (fun j => lB (6 * dd + j)) (fun j => lA (6 * e + P j)) (fun j => lB (6 * e + P j)) k) → XW (x_rm d 0 0) k_Mod_fits L xs (x_mq 0 0 (qR n h (nI (vB (lR (6 * dd + k) = lR (6 * e + P k) ∧ vFit 18 (fun j => lA (6 * dd + j)) (fun j => lB (6 * dd + j)) (fun j => lA (6 * e + P j)) (fun j => lB (6 * e + P j)) k))))) 0 0 96 [] [] n h := by
    intro z
    rw [vB_f z]
    refine xr_iconst a_Mod_fits_96 (v := nI 0) (by decide +kernel) ?_
    refine xr_ireturn a_Mod_fits_97 rfl rfl (by omega) (by omega) ?_
    exact ⟨rfl, rfl, rfl⟩
  have loop : lR (6 * dd + k) = lR (6 * e + P k) → (lA (6 * dd + k) < 18 → lA (6 * dd + k) = lA (6 * e + P k)) → (lB (6 * dd + k) < 18 → lB (6 * dd + k) = lB (6 * e + P k)) → ∀ q j, j + q = k + 1 → (∀ i, i < j → (lA (6 * dd + i) = lA (6 * dd + k) → lA (6 * e + P i) = lA (6 * e + P k)) ∧ (lB (6 * dd + i) = lB (6 * dd + k) → lB (6 * e + P i) = lB (6 * e + P k)) ∧ (lA (6 * dd + i) = lB (6 * dd + k) → lA (6 * e + P i) = lB (6 * e + P k)) ∧ (lB (6 * dd + i) = lA (6 * dd + k) → lB (6 * e + P i) = lA (6 * e + P k))) → XW (x_rm d 0 0) k_Mod_fits L xs (x_mq 0 0 (qR n h (nI (vB (lR (6 * dd + k) = lR (6 * e + P k) ∧ vFit 18 (fun j => lA (6 * dd + j)) (fun j => lB (6 * dd + j)) (fun j => lA (6 * e + P j)) (fun j => lB (6 * e + P j)) k))))) 0 0 101 [(0, .ref m), (1, .int (nI dd)), (2, .int (nI e)), (3, .int (nI k)), (4, .int (nI (6 * dd + k))), (5, .int (nI (6 * e + P k))), (6, .int (nI j))] [] n h := by
    intro g1 g2 g3 q
    induction q with
    | zero =>
      intro j hj hi
      refine xr_iload a_Mod_fits_101 rfl ?_
      refine xr_iload_n a_Mod_fits_103 rfl ?_
      refine xn_icmp_gt a_Mod_fits_104 (by omega) (by omega) (fun b104 => ?_) (fun b104 => ?_)
      · refine xr_iconst a_Mod_fits_298 (v := nI 1) (by decide +kernel) ?_
        refine xr_ireturn a_Mod_fits_299 rfl rfl (by omega) (by omega) ?_
        refine ⟨?_, rfl, rfl⟩
        have hz : lR (6 * dd + k) = lR (6 * e + P k) ∧ vFit 18 (fun j => lA (6 * dd + j)) (fun j => lB (6 * dd + j)) (fun j => lA (6 * e + P j)) (fun j => lB (6 * e + P j)) k := ⟨g1, g2, g3, fun i hik => hi i (by omega)⟩
        rw [vB_t hz]
      · omega
    | succ q ih =>
      intro j hj hi
      obtain ⟨b1, b2, b3, b4, b5, b6⟩ := hB j (by omega)
      have hPj := (hpk j (by omega)).2
      have next : (lA (6 * dd + j) = lA (6 * dd + k) → lA (6 * e + P j) = lA (6 * e + P k)) ∧ (lB (6 * dd + j) = lB (6 * dd + k) → lB (6 * e + P j) = lB (6 * e + P k)) ∧ (lA (6 * dd + j) = lB (6 * dd + k) → lA (6 * e + P j) = lB (6 * e + P k)) ∧ (lB (6 * dd + j) = lA (6 * dd + k) → lB (6 * e + P j) = lA (6 * e + P k)) → XW (x_rm d 0 0) k_Mod_fits L xs (x_mq 0 0 (qR n h (nI (vB (lR (6 * dd + k) = lR (6 * e + P k) ∧ vFit 18 (fun j => lA (6 * dd + j)) (fun j => lB (6 * dd + j)) (fun j => lA (6 * e + P j)) (fun j => lB (6 * e + P j)) k))))) 0 0 282 [(0, .ref m), (1, .int (nI dd)), (2, .int (nI e)), (3, .int (nI k)), (4, .int (nI (6 * dd + k))), (5, .int (nI (6 * e + P k))), (6, .int (nI j))] [] n h := by
        intro z
        refine xr_iconst a_Mod_fits_282 (v := nI 0) (by decide +kernel) ?_
        refine xr_istore a_Mod_fits_283 (by decide) rfl ?_
        refine xr_iload a_Mod_fits_285 rfl ?_
        refine xn_if_eq a_Mod_fits_287 (by omega) (fun _ => ?_) (fun z0 => absurd z0 (by decide))
        first | refine xn_iinc a_Mod_fits_292 rfl (by decide) rfl ?_ | refine xr_iinc a_Mod_fits_292 rfl rfl (by decide) rfl ?_
        refine xr_goto a_Mod_fits_295 ?_
        refine xr_ls [(0, .ref m), (1, .int (nI dd)), (2, .int (nI e)), (3, .int (nI k)), (4, .int (nI (6 * dd + k))), (5, .int (nI (6 * e + P k))), (6, .int (nI (j + 1)))] ⟨rfl, rfl, rfl, rfl, rfl, rfl, rfl, trivial⟩ ?_
        refine ih (j + 1) (by omega) (fun i hij => ?_)
        by_cases ei : i = j
        · rw [ei]; exact z
        · exact hi i (by omega)
      have stop : ¬ ((lA (6 * dd + j) = lA (6 * dd + k) → lA (6 * e + P j) = lA (6 * e + P k)) ∧ (lB (6 * dd + j) = lB (6 * dd + k) → lB (6 * e + P j) = lB (6 * e + P k)) ∧ (lA (6 * dd + j) = lB (6 * dd + k) → lA (6 * e + P j) = lB (6 * e + P k)) ∧ (lB (6 * dd + j) = lA (6 * dd + k) → lB (6 * e + P j) = lA (6 * e + P k))) → XW (x_rm d 0 0) k_Mod_fits L xs (x_mq 0 0 (qR n h (nI (vB (lR (6 * dd + k) = lR (6 * e + P k) ∧ vFit 18 (fun j => lA (6 * dd + j)) (fun j => lB (6 * dd + j)) (fun j => lA (6 * e + P j)) (fun j => lB (6 * e + P j)) k))))) 0 0 278 [(0, .ref m), (1, .int (nI dd)), (2, .int (nI e)), (3, .int (nI k)), (4, .int (nI (6 * dd + k))), (5, .int (nI (6 * e + P k))), (6, .int (nI j))] [] n h := by
        intro z
        refine xr_iconst a_Mod_fits_278 (v := nI 1) (by decide +kernel) ?_
        refine xr_goto a_Mod_fits_279 ?_
        refine xr_istore a_Mod_fits_283 (by decide) rfl ?_
        refine xr_iload a_Mod_fits_285 rfl ?_
        refine xn_if_eq a_Mod_fits_287 (by omega) (fun z0 => absurd z0 (by decide)) (fun _ => ?_)
        rw [vB_f (fun w => z (w.2.2.2 j (by omega)))]
        refine xr_iconst a_Mod_fits_290 (v := nI 0) (by decide +kernel) ?_
        refine xr_ireturn a_Mod_fits_291 rfl rfl (by omega) (by omega) ?_
        exact ⟨rfl, rfl, rfl⟩
      have ap1 : ¬ ((lA (6 * dd + j) = lA (6 * dd + k) → lA (6 * e + P j) = lA (6 * e + P k)) ∧ (lB (6 * dd + j) = lB (6 * dd + k) → lB (6 * e + P j) = lB (6 * e + P k))) → XW (x_rm d 0 0) k_Mod_fits L xs (x_mq 0 0 (qR n h (nI (vB (lR (6 * dd + k) = lR (6 * e + P k) ∧ vFit 18 (fun j => lA (6 * dd + j)) (fun j => lB (6 * dd + j)) (fun j => lA (6 * e + P j)) (fun j => lB (6 * e + P j)) k))))) 0 0 198 [(0, .ref m), (1, .int (nI dd)), (2, .int (nI e)), (3, .int (nI k)), (4, .int (nI (6 * dd + k))), (5, .int (nI (6 * e + P k))), (6, .int (nI j))] [] n h := by
        intro z
        refine xr_iconst a_Mod_fits_198 (v := nI 1) (by decide +kernel) ?_
        refine xr_goto a_Mod_fits_199 ?_
        refine xr_istore a_Mod_fits_203 (by decide) rfl ?_
        refine xr_iload a_Mod_fits_205 rfl ?_
        refine xn_if_ne a_Mod_fits_207 (by omega) (fun _ => ?_) (fun z0 => absurd z0 (by decide))
        refine xr_ls [(0, .ref m), (1, .int (nI dd)), (2, .int (nI e)), (3, .int (nI k)), (4, .int (nI (6 * dd + k))), (5, .int (nI (6 * e + P k))), (6, .int (nI j))] ⟨rfl, rfl, rfl, rfl, rfl, rfl, rfl, trivial⟩ ?_
        exact stop (fun w => z ⟨w.1, w.2.1⟩)
      have ap2 : (lA (6 * dd + j) = lA (6 * dd + k) → lA (6 * e + P j) = lA (6 * e + P k)) → (lB (6 * dd + j) = lB (6 * dd + k) → lB (6 * e + P j) = lB (6 * e + P k)) → XW (x_rm d 0 0) k_Mod_fits L xs (x_mq 0 0 (qR n h (nI (vB (lR (6 * dd + k) = lR (6 * e + P k) ∧ vFit 18 (fun j => lA (6 * dd + j)) (fun j => lB (6 * dd + j)) (fun j => lA (6 * e + P j)) (fun j => lB (6 * e + P j)) k))))) 0 0 202 [(0, .ref m), (1, .int (nI dd)), (2, .int (nI e)), (3, .int (nI k)), (4, .int (nI (6 * dd + k))), (5, .int (nI (6 * e + P k))), (6, .int (nI j)), (7, .int (nI (6 * dd + j))), (8, .int (nI (6 * e + P j)))] [] n h := by
        intro z1 z2
        refine xr_iconst a_Mod_fits_202 (v := nI 0) (by decide +kernel) ?_
        refine xr_istore a_Mod_fits_203 (by decide) rfl ?_
        refine xr_iload a_Mod_fits_205 rfl ?_
        refine xn_if_ne a_Mod_fits_207 (by omega) (fun z0 => absurd z0 (by decide)) (fun _ => ?_)
        have rest : (lA (6 * dd + j) = lB (6 * dd + k) → lA (6 * e + P j) = lB (6 * e + P k)) → XW (x_rm d 0 0) k_Mod_fits L xs (x_mq 0 0 (qR n h (nI (vB (lR (6 * dd + k) = lR (6 * e + P k) ∧ vFit 18 (fun j => lA (6 * dd + j)) (fun j => lB (6 * dd + j)) (fun j => lA (6 * e + P j)) (fun j => lB (6 * e + P j)) k))))) 0 0 244 [(0, .ref m), (1, .int (nI dd)), (2, .int (nI e)), (3, .int (nI k)), (4, .int (nI (6 * dd + k))), (5, .int (nI (6 * e + P k))), (6, .int (nI j)), (7, .int (nI (6 * dd + j))), (8, .int (nI (6 * e + P j)))] [] n h := by
          intro z3
          refine xr_aload_n a_Mod_fits_244 rfl ?_
          apply xr_getf a_Mod_fits_245
          · (repeat' (first | assumption | exact va_up_self _ _ _ | refine x_lk (by omega) ?_))
          · rfl
          refine xr_iload a_Mod_fits_248 rfl ?_
          apply xn_iaload a_Mod_fits_250
          · (repeat' (first | assumption | exact va_up_self _ _ _ | refine x_lk (by omega) ?_))
          · omega
          · omega
          refine xr_aload_n a_Mod_fits_251 rfl ?_
          apply xr_getf a_Mod_fits_252
          · (repeat' (first | assumption | exact va_up_self _ _ _ | refine x_lk (by omega) ?_))
          · rfl
          refine xr_iload a_Mod_fits_255 rfl ?_
          apply xn_iaload a_Mod_fits_257
          · (repeat' (first | assumption | exact va_up_self _ _ _ | refine x_lk (by omega) ?_))
          · omega
          · omega
          refine xn_icmp_ne a_Mod_fits_258 (by omega) (by omega) (fun b258 => ?_) (fun b258 => ?_)
          · refine xr_ls [(0, .ref m), (1, .int (nI dd)), (2, .int (nI e)), (3, .int (nI k)), (4, .int (nI (6 * dd + k))), (5, .int (nI (6 * e + P k))), (6, .int (nI j))] ⟨rfl, rfl, rfl, rfl, rfl, rfl, rfl, trivial⟩ ?_
            exact next ⟨z1, z2, z3, fun w => absurd w b258⟩
          · refine xr_aload_n a_Mod_fits_261 rfl ?_
            apply xr_getf a_Mod_fits_262
            · (repeat' (first | assumption | exact va_up_self _ _ _ | refine x_lk (by omega) ?_))
            · rfl
            refine xr_iload a_Mod_fits_265 rfl ?_
            apply xn_iaload a_Mod_fits_267
            · (repeat' (first | assumption | exact va_up_self _ _ _ | refine x_lk (by omega) ?_))
            · omega
            · omega
            refine xr_aload_n a_Mod_fits_268 rfl ?_
            apply xr_getf a_Mod_fits_269
            · (repeat' (first | assumption | exact va_up_self _ _ _ | refine x_lk (by omega) ?_))
            · rfl
            refine xr_iload a_Mod_fits_272 rfl ?_
            apply xn_iaload a_Mod_fits_274
            · (repeat' (first | assumption | exact va_up_self _ _ _ | refine x_lk (by omega) ?_))
            · omega
            · omega
            refine xn_icmp_eq a_Mod_fits_275 (by omega) (by omega) (fun b275 => ?_) (fun b275 => ?_)
            · refine xr_ls [(0, .ref m), (1, .int (nI dd)), (2, .int (nI e)), (3, .int (nI k)), (4, .int (nI (6 * dd + k))), (5, .int (nI (6 * e + P k))), (6, .int (nI j))] ⟨rfl, rfl, rfl, rfl, rfl, rfl, rfl, trivial⟩ ?_
              exact next ⟨z1, z2, z3, fun _ => b275⟩
            · refine xr_ls [(0, .ref m), (1, .int (nI dd)), (2, .int (nI e)), (3, .int (nI k)), (4, .int (nI (6 * dd + k))), (5, .int (nI (6 * e + P k))), (6, .int (nI j))] ⟨rfl, rfl, rfl, rfl, rfl, rfl, rfl, trivial⟩ ?_
              exact stop (fun w => b275 (w.2.2.2 b258))
        refine xr_aload_n a_Mod_fits_210 rfl ?_
        apply xr_getf a_Mod_fits_211
        · (repeat' (first | assumption | exact va_up_self _ _ _ | refine x_lk (by omega) ?_))
        · rfl
        refine xr_iload a_Mod_fits_214 rfl ?_
        apply xn_iaload a_Mod_fits_216
        · (repeat' (first | assumption | exact va_up_self _ _ _ | refine x_lk (by omega) ?_))
        · omega
        · omega
        refine xr_aload_n a_Mod_fits_217 rfl ?_
        apply xr_getf a_Mod_fits_218
        · (repeat' (first | assumption | exact va_up_self _ _ _ | refine x_lk (by omega) ?_))
        · rfl
        refine xr_iload a_Mod_fits_221 rfl ?_
        apply xn_iaload a_Mod_fits_223
        · (repeat' (first | assumption | exact va_up_self _ _ _ | refine x_lk (by omega) ?_))
        · omega
        · omega
        refine xn_icmp_ne a_Mod_fits_224 (by omega) (by omega) (fun b224 => ?_) (fun b224 => ?_)
        · refine xr_ls [(0, .ref m), (1, .int (nI dd)), (2, .int (nI e)), (3, .int (nI k)), (4, .int (nI (6 * dd + k))), (5, .int (nI (6 * e + P k))), (6, .int (nI j)), (7, .int (nI (6 * dd + j))), (8, .int (nI (6 * e + P j)))] ⟨rfl, rfl, rfl, rfl, rfl, rfl, rfl, rfl, rfl, trivial⟩ ?_
          exact rest (fun w => absurd w b224)
        · refine xr_aload_n a_Mod_fits_227 rfl ?_
          apply xr_getf a_Mod_fits_228
          · (repeat' (first | assumption | exact va_up_self _ _ _ | refine x_lk (by omega) ?_))
          · rfl
          refine xr_iload a_Mod_fits_231 rfl ?_
          apply xn_iaload a_Mod_fits_233
          · (repeat' (first | assumption | exact va_up_self _ _ _ | refine x_lk (by omega) ?_))
          · omega
          · omega
          refine xr_aload_n a_Mod_fits_234 rfl ?_
          apply xr_getf a_Mod_fits_235
          · (repeat' (first | assumption | exact va_up_self _ _ _ | refine x_lk (by omega) ?_))
          · rfl
          refine xr_iload a_Mod_fits_238 rfl ?_
          apply xn_iaload a_Mod_fits_240
          · (repeat' (first | assumption | exact va_up_self _ _ _ | refine x_lk (by omega) ?_))
          · omega
          · omega
          refine xn_icmp_ne a_Mod_fits_241 (by omega) (by omega) (fun b241 => ?_) (fun b241 => ?_)
          · refine xr_ls [(0, .ref m), (1, .int (nI dd)), (2, .int (nI e)), (3, .int (nI k)), (4, .int (nI (6 * dd + k))), (5, .int (nI (6 * e + P k))), (6, .int (nI j))] ⟨rfl, rfl, rfl, rfl, rfl, rfl, rfl, trivial⟩ ?_
            exact stop (fun w => b241 (w.2.2.1 b224))
          · refine xr_ls [(0, .ref m), (1, .int (nI dd)), (2, .int (nI e)), (3, .int (nI k)), (4, .int (nI (6 * dd + k))), (5, .int (nI (6 * e + P k))), (6, .int (nI j)), (7, .int (nI (6 * dd + j))), (8, .int (nI (6 * e + P j)))] ⟨rfl, rfl, rfl, rfl, rfl, rfl, rfl, rfl, rfl, trivial⟩ ?_
            exact rest (fun _ => b241)
      refine xr_iload a_Mod_fits_101 rfl ?_
      refine xr_iload_n a_Mod_fits_103 rfl ?_
      refine xn_icmp_gt a_Mod_fits_104 (by omega) (by omega) (fun b104 => ?_) (fun b104 => ?_)
      · omega
      · refine xr_bipush a_Mod_fits_107 (v := nI 6) (by decide +kernel) ?_
        refine xr_iload_n a_Mod_fits_109 rfl ?_
        first | refine xn_imul a_Mod_fits_110 ?_ | refine xr_imul a_Mod_fits_110 ?_
        refine xr_iload a_Mod_fits_111 rfl ?_
        first | refine xn_iadd a_Mod_fits_113 ?_ | refine xr_iadd a_Mod_fits_113 ?_
        refine xr_istore a_Mod_fits_114 (by decide) rfl ?_
        refine xr_bipush a_Mod_fits_116 (v := nI 6) (by decide +kernel) ?_
        refine xr_iload_n a_Mod_fits_118 rfl ?_
        first | refine xn_imul a_Mod_fits_119 ?_ | refine xr_imul a_Mod_fits_119 ?_
        refine xr_aload_n a_Mod_fits_120 rfl ?_
        apply xr_getf a_Mod_fits_121
        · (repeat' (first | assumption | exact va_up_self _ _ _ | refine x_lk (by omega) ?_))
        · rfl
        refine xr_iload a_Mod_fits_124 rfl ?_
        apply xo_iaload a_Mod_fits_126
        · (repeat' (first | assumption | exact va_up_self _ _ _ | refine x_lk (by omega) ?_))
        · omega
        · omega
        rw [eo j (by omega)]
        have mid : (lA (6 * dd + j) = lA (6 * dd + k) → lA (6 * e + P j) = lA (6 * e + P k)) → XW (x_rm d 0 0) k_Mod_fits L xs (x_mq 0 0 (qR n h (nI (vB (lR (6 * dd + k) = lR (6 * e + P k) ∧ vFit 18 (fun j => lA (6 * dd + j)) (fun j => lB (6 * dd + j)) (fun j => lA (6 * e + P j)) (fun j => lB (6 * e + P j)) k))))) 0 0 164 [(0, .ref m), (1, .int (nI dd)), (2, .int (nI e)), (3, .int (nI k)), (4, .int (nI (6 * dd + k))), (5, .int (nI (6 * e + P k))), (6, .int (nI j)), (7, .int (nI (6 * dd + j))), (8, .int (nI (6 * e + P j)))] [] n h := by
          intro z1
          refine xr_aload_n a_Mod_fits_164 rfl ?_
          apply xr_getf a_Mod_fits_165
          · (repeat' (first | assumption | exact va_up_self _ _ _ | refine x_lk (by omega) ?_))
          · rfl
          refine xr_iload a_Mod_fits_168 rfl ?_
          apply xn_iaload a_Mod_fits_170
          · (repeat' (first | assumption | exact va_up_self _ _ _ | refine x_lk (by omega) ?_))
          · omega
          · omega
          refine xr_aload_n a_Mod_fits_171 rfl ?_
          apply xr_getf a_Mod_fits_172
          · (repeat' (first | assumption | exact va_up_self _ _ _ | refine x_lk (by omega) ?_))
          · rfl
          refine xr_iload a_Mod_fits_175 rfl ?_
          apply xn_iaload a_Mod_fits_177
          · (repeat' (first | assumption | exact va_up_self _ _ _ | refine x_lk (by omega) ?_))
          · omega
          · omega
          refine xn_icmp_ne a_Mod_fits_178 (by omega) (by omega) (fun b178 => ?_) (fun b178 => ?_)
          · exact ap2 z1 (fun w => absurd w b178)
          · refine xr_aload_n a_Mod_fits_181 rfl ?_
            apply xr_getf a_Mod_fits_182
            · (repeat' (first | assumption | exact va_up_self _ _ _ | refine x_lk (by omega) ?_))
            · rfl
            refine xr_iload a_Mod_fits_185 rfl ?_
            apply xn_iaload a_Mod_fits_187
            · (repeat' (first | assumption | exact va_up_self _ _ _ | refine x_lk (by omega) ?_))
            · omega
            · omega
            refine xr_aload_n a_Mod_fits_188 rfl ?_
            apply xr_getf a_Mod_fits_189
            · (repeat' (first | assumption | exact va_up_self _ _ _ | refine x_lk (by omega) ?_))
            · rfl
            refine xr_iload a_Mod_fits_192 rfl ?_
            apply xn_iaload a_Mod_fits_194
            · (repeat' (first | assumption | exact va_up_self _ _ _ | refine x_lk (by omega) ?_))
            · omega
            · omega
            refine xn_icmp_eq a_Mod_fits_195 (by omega) (by omega) (fun b195 => ?_) (fun b195 => ?_)
            · exact ap2 z1 (fun _ => b195)
            · refine xr_ls [(0, .ref m), (1, .int (nI dd)), (2, .int (nI e)), (3, .int (nI k)), (4, .int (nI (6 * dd + k))), (5, .int (nI (6 * e + P k))), (6, .int (nI j))] ⟨rfl, rfl, rfl, rfl, rfl, rfl, rfl, trivial⟩ ?_
              exact ap1 (fun w => b195 (w.2 b178))
        first | refine xn_iadd a_Mod_fits_127 ?_ | refine xr_iadd a_Mod_fits_127 ?_
        refine xr_istore a_Mod_fits_128 (by decide) rfl ?_
        refine xr_aload_n a_Mod_fits_130 rfl ?_
        apply xr_getf a_Mod_fits_131
        · (repeat' (first | assumption | exact va_up_self _ _ _ | refine x_lk (by omega) ?_))
        · rfl
        refine xr_iload a_Mod_fits_134 rfl ?_
        apply xn_iaload a_Mod_fits_136
        · (repeat' (first | assumption | exact va_up_self _ _ _ | refine x_lk (by omega) ?_))
        · omega
        · omega
        refine xr_aload_n a_Mod_fits_137 rfl ?_
        apply xr_getf a_Mod_fits_138
        · (repeat' (first | assumption | exact va_up_self _ _ _ | refine x_lk (by omega) ?_))
        · rfl
        refine xr_iload a_Mod_fits_141 rfl ?_
        apply xn_iaload a_Mod_fits_143
        · (repeat' (first | assumption | exact va_up_self _ _ _ | refine x_lk (by omega) ?_))
        · omega
        · omega
        refine xn_icmp_ne a_Mod_fits_144 (by omega) (by omega) (fun b144 => ?_) (fun b144 => ?_)
        · refine xr_ls [(0, .ref m), (1, .int (nI dd)), (2, .int (nI e)), (3, .int (nI k)), (4, .int (nI (6 * dd + k))), (5, .int (nI (6 * e + P k))), (6, .int (nI j)), (7, .int (nI (6 * dd + j))), (8, .int (nI (6 * e + P j)))] ⟨rfl, rfl, rfl, rfl, rfl, rfl, rfl, rfl, rfl, trivial⟩ ?_
          exact mid (fun w => absurd w b144)
        · refine xr_aload_n a_Mod_fits_147 rfl ?_
          apply xr_getf a_Mod_fits_148
          · (repeat' (first | assumption | exact va_up_self _ _ _ | refine x_lk (by omega) ?_))
          · rfl
          refine xr_iload a_Mod_fits_151 rfl ?_
          apply xn_iaload a_Mod_fits_153
          · (repeat' (first | assumption | exact va_up_self _ _ _ | refine x_lk (by omega) ?_))
          · omega
          · omega
          refine xr_aload_n a_Mod_fits_154 rfl ?_
          apply xr_getf a_Mod_fits_155
          · (repeat' (first | assumption | exact va_up_self _ _ _ | refine x_lk (by omega) ?_))
          · rfl
          refine xr_iload a_Mod_fits_158 rfl ?_
          apply xn_iaload a_Mod_fits_160
          · (repeat' (first | assumption | exact va_up_self _ _ _ | refine x_lk (by omega) ?_))
          · omega
          · omega
          refine xn_icmp_ne a_Mod_fits_161 (by omega) (by omega) (fun b161 => ?_) (fun b161 => ?_)
          · refine xr_ls [(0, .ref m), (1, .int (nI dd)), (2, .int (nI e)), (3, .int (nI k)), (4, .int (nI (6 * dd + k))), (5, .int (nI (6 * e + P k))), (6, .int (nI j))] ⟨rfl, rfl, rfl, rfl, rfl, rfl, rfl, trivial⟩ ?_
            exact ap1 (fun w => b161 (w.1 b144))
          · refine xr_ls [(0, .ref m), (1, .int (nI dd)), (2, .int (nI e)), (3, .int (nI k)), (4, .int (nI (6 * dd + k))), (5, .int (nI (6 * e + P k))), (6, .int (nI j)), (7, .int (nI (6 * dd + j))), (8, .int (nI (6 * e + P j)))] ⟨rfl, rfl, rfl, rfl, rfl, rfl, rfl, rfl, rfl, trivial⟩ ?_
            exact mid (fun _ => b161)
  refine xr_bipush a_Mod_fits_0 (v := nI 6) (by decide +kernel) ?_
  refine xr_iload_n a_Mod_fits_2 rfl ?_
  first | refine xn_imul a_Mod_fits_3 ?_ | refine xr_imul a_Mod_fits_3 ?_
  refine xr_iload_n a_Mod_fits_4 rfl ?_
  first | refine xn_iadd a_Mod_fits_5 ?_ | refine xr_iadd a_Mod_fits_5 ?_
  refine xr_istore a_Mod_fits_6 (by decide) rfl ?_
  refine xr_bipush a_Mod_fits_8 (v := nI 6) (by decide +kernel) ?_
  refine xr_iload_n a_Mod_fits_10 rfl ?_
  first | refine xn_imul a_Mod_fits_11 ?_ | refine xr_imul a_Mod_fits_11 ?_
  refine xr_aload_n a_Mod_fits_12 rfl ?_
  apply xr_getf a_Mod_fits_13
  · (repeat' (first | assumption | exact va_up_self _ _ _ | refine x_lk (by omega) ?_))
  · rfl
  refine xr_iload_n a_Mod_fits_16 rfl ?_
  apply xo_iaload a_Mod_fits_17
  · (repeat' (first | assumption | exact va_up_self _ _ _ | refine x_lk (by omega) ?_))
  · omega
  · omega
  rw [eo k (Nat.le_refl _)]
  have go98 : lR (6 * dd + k) = lR (6 * e + P k) → (lA (6 * dd + k) < 18 → lA (6 * dd + k) = lA (6 * e + P k)) → (lB (6 * dd + k) < 18 → lB (6 * dd + k) = lB (6 * e + P k)) → XW (x_rm d 0 0) k_Mod_fits L xs (x_mq 0 0 (qR n h (nI (vB (lR (6 * dd + k) = lR (6 * e + P k) ∧ vFit 18 (fun j => lA (6 * dd + j)) (fun j => lB (6 * dd + j)) (fun j => lA (6 * e + P j)) (fun j => lB (6 * e + P j)) k))))) 0 0 98 [(0, .ref m), (1, .int (nI dd)), (2, .int (nI e)), (3, .int (nI k)), (4, .int (nI (6 * dd + k))), (5, .int (nI (6 * e + P k)))] [] n h := by
    intro g1 g2 g3
    refine xr_iconst a_Mod_fits_98 (v := nI 0) (by decide +kernel) ?_
    refine xr_istore a_Mod_fits_99 (by decide) rfl ?_
    refine xr_ls [(0, .ref m), (1, .int (nI dd)), (2, .int (nI e)), (3, .int (nI k)), (4, .int (nI (6 * dd + k))), (5, .int (nI (6 * e + P k))), (6, .int (nI 0))] ⟨rfl, rfl, rfl, rfl, rfl, rfl, rfl, trivial⟩ ?_
    exact loop g1 g2 g3 (k + 1) 0 (by omega) (fun i hi => by omega)
  have go67 : lR (6 * dd + k) = lR (6 * e + P k) → (lA (6 * dd + k) < 18 → lA (6 * dd + k) = lA (6 * e + P k)) → XW (x_rm d 0 0) k_Mod_fits L xs (x_mq 0 0 (qR n h (nI (vB (lR (6 * dd + k) = lR (6 * e + P k) ∧ vFit 18 (fun j => lA (6 * dd + j)) (fun j => lB (6 * dd + j)) (fun j => lA (6 * e + P j)) (fun j => lB (6 * e + P j)) k))))) 0 0 67 [(0, .ref m), (1, .int (nI dd)), (2, .int (nI e)), (3, .int (nI k)), (4, .int (nI (6 * dd + k))), (5, .int (nI (6 * e + P k)))] [] n h := by
    intro g1 g2
    refine xr_aload_n a_Mod_fits_67 rfl ?_
    apply xr_getf a_Mod_fits_68
    · (repeat' (first | assumption | exact va_up_self _ _ _ | refine x_lk (by omega) ?_))
    · rfl
    refine xr_iload a_Mod_fits_71 rfl ?_
    apply xn_iaload a_Mod_fits_73
    · (repeat' (first | assumption | exact va_up_self _ _ _ | refine x_lk (by omega) ?_))
    · omega
    · omega
    refine xr_bipush a_Mod_fits_74 (v := nI 17) (by decide +kernel) ?_
    refine xn_icmp_gt a_Mod_fits_76 (by omega) (by omega) (fun b76 => ?_) (fun b76 => ?_)
    · exact go98 g1 g2 (fun w => by omega)
    · refine xr_aload_n a_Mod_fits_79 rfl ?_
      apply xr_getf a_Mod_fits_80
      · (repeat' (first | assumption | exact va_up_self _ _ _ | refine x_lk (by omega) ?_))
      · rfl
      refine xr_iload a_Mod_fits_83 rfl ?_
      apply xn_iaload a_Mod_fits_85
      · (repeat' (first | assumption | exact va_up_self _ _ _ | refine x_lk (by omega) ?_))
      · omega
      · omega
      refine xr_aload_n a_Mod_fits_86 rfl ?_
      apply xr_getf a_Mod_fits_87
      · (repeat' (first | assumption | exact va_up_self _ _ _ | refine x_lk (by omega) ?_))
      · rfl
      refine xr_iload a_Mod_fits_90 rfl ?_
      apply xn_iaload a_Mod_fits_92
      · (repeat' (first | assumption | exact va_up_self _ _ _ | refine x_lk (by omega) ?_))
      · omega
      · omega
      refine xn_icmp_eq a_Mod_fits_93 (by omega) (by omega) (fun b93 => ?_) (fun b93 => ?_)
      · exact go98 g1 g2 (fun _ => b93)
      · exact xr_ls [] trivial (no (fun w => b93 (w.2.2.1 (show lB (6 * dd + k) < 18 by omega))))
  first | refine xn_iadd a_Mod_fits_18 ?_ | refine xr_iadd a_Mod_fits_18 ?_
  refine xr_istore a_Mod_fits_19 (by decide) rfl ?_
  refine xr_aload_n a_Mod_fits_21 rfl ?_
  apply xr_getf a_Mod_fits_22
  · (repeat' (first | assumption | exact va_up_self _ _ _ | refine x_lk (by omega) ?_))
  · rfl
  refine xr_iload a_Mod_fits_25 rfl ?_
  apply xn_iaload a_Mod_fits_27
  · (repeat' (first | assumption | exact va_up_self _ _ _ | refine x_lk (by omega) ?_))
  · omega
  · omega
  refine xr_aload_n a_Mod_fits_28 rfl ?_
  apply xr_getf a_Mod_fits_29
  · (repeat' (first | assumption | exact va_up_self _ _ _ | refine x_lk (by omega) ?_))
  · rfl
  refine xr_iload a_Mod_fits_32 rfl ?_
  apply xn_iaload a_Mod_fits_34
  · (repeat' (first | assumption | exact va_up_self _ _ _ | refine x_lk (by omega) ?_))
  · omega
  · omega
  refine xn_icmp_ne a_Mod_fits_35 (by omega) (by omega) (fun b35 => ?_) (fun b35 => ?_)
  · exact xr_ls [] trivial (no (fun w => b35 w.1))
  · refine xr_aload_n a_Mod_fits_38 rfl ?_
    apply xr_getf a_Mod_fits_39
    · (repeat' (first | assumption | exact va_up_self _ _ _ | refine x_lk (by omega) ?_))
    · rfl
    refine xr_iload a_Mod_fits_42 rfl ?_
    apply xn_iaload a_Mod_fits_44
    · (repeat' (first | assumption | exact va_up_self _ _ _ | refine x_lk (by omega) ?_))
    · omega
    · omega
    refine xr_bipush a_Mod_fits_45 (v := nI 17) (by decide +kernel) ?_
    refine xn_icmp_gt a_Mod_fits_47 (by omega) (by omega) (fun b47 => ?_) (fun b47 => ?_)
    · refine xr_ls [(0, .ref m), (1, .int (nI dd)), (2, .int (nI e)), (3, .int (nI k)), (4, .int (nI (6 * dd + k))), (5, .int (nI (6 * e + P k)))] ⟨rfl, rfl, rfl, rfl, rfl, rfl, trivial⟩ ?_
      exact go67 b35 (fun w => by omega)
    · refine xr_aload_n a_Mod_fits_50 rfl ?_
      apply xr_getf a_Mod_fits_51
      · (repeat' (first | assumption | exact va_up_self _ _ _ | refine x_lk (by omega) ?_))
      · rfl
      refine xr_iload a_Mod_fits_54 rfl ?_
      apply xn_iaload a_Mod_fits_56
      · (repeat' (first | assumption | exact va_up_self _ _ _ | refine x_lk (by omega) ?_))
      · omega
      · omega
      refine xr_aload_n a_Mod_fits_57 rfl ?_
      apply xr_getf a_Mod_fits_58
      · (repeat' (first | assumption | exact va_up_self _ _ _ | refine x_lk (by omega) ?_))
      · rfl
      refine xr_iload a_Mod_fits_61 rfl ?_
      apply xn_iaload a_Mod_fits_63
      · (repeat' (first | assumption | exact va_up_self _ _ _ | refine x_lk (by omega) ?_))
      · omega
      · omega
      refine xn_icmp_ne a_Mod_fits_64 (by omega) (by omega) (fun b64 => ?_) (fun b64 => ?_)
      · exact xr_ls [] trivial (no (fun w => b64 (w.2.1 (show lA (6 * dd + k) < 18 by omega))))
      · refine xr_ls [(0, .ref m), (1, .int (nI dd)), (2, .int (nI e)), (3, .int (nI k)), (4, .int (nI (6 * dd + k))), (5, .int (nI (6 * e + P k)))] ⟨rfl, rfl, rfl, rfl, rfl, rfl, trivial⟩ ?_
        exact go67 b35 (fun _ => b64)
end T58

