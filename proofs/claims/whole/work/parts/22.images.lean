/-! Images, Mapper -/
section T22
variable {d L : Nat} {xs : Nat → Int32} {n : Nat} {h : xH} {r : Nat} {f : Nat → Option Nat}
theorem t_Images_letBecome {t j : Nat} (p : isIm h r f) (ht : t < 34) (hj : j < 100) (hf : ∀ k, f t = some k → k < 100) : XM d 0 0 k_Images_letBecome L xs [.ref r, .int (nI t), .int (nI j)] n h (qP n (nI (vB (vLet f t j t = some j))) (fun h' => h' = va_up h (r + 1) (cO 34 (vLet f t j)))) := by
  obtain ⟨p0, p1⟩ := p
  refine XM.of rfl (Nat.le_of_ble_eq_true rfl) ?_
  refine xr_aload_n a_Images_letBecome_0 rfl ?_
  apply xr_getf a_Images_letBecome_1
  · (repeat' (first | assumption | exact va_up_self _ _ _ | refine x_lk (by omega) ?_))
  · rfl
  refine xr_iload_n a_Images_letBecome_4 rfl ?_
  apply xo_iaload a_Images_letBecome_5
  · (repeat' (first | assumption | exact va_up_self _ _ _ | refine x_lk (by omega) ?_))
  · omega
  · omega
  refine xr_iconst a_Images_letBecome_6 (v := -1) (by decide +kernel) ?_
  refine xo_icmp_ne a_Images_letBecome_7 (fun k hk => by have := hf k hk; omega) (fun b7 => ?_) (fun b7 => ?_)
  · have e := vLet_some (j := j) b7
    have eh : va_up h (r + 1) (cO 34 (vLet f t j)) = h := by
      rw [e]
      exact up_same p1
    refine xr_aload_n a_Images_letBecome_17 rfl ?_
    apply xr_getf a_Images_letBecome_18
    · (repeat' (first | assumption | exact va_up_self _ _ _ | refine x_lk (by omega) ?_))
    · rfl
    refine xr_iload_n a_Images_letBecome_21 rfl ?_
    apply xo_iaload a_Images_letBecome_22
    · (repeat' (first | assumption | exact va_up_self _ _ _ | refine x_lk (by omega) ?_))
    · omega
    · omega
    refine xr_iload_n a_Images_letBecome_23 rfl ?_
    refine xon_icmp_ne a_Images_letBecome_24 (fun k hk => by have := hf k hk; omega) (by omega) (fun b24 => ?_) (fun b24 => ?_)
    · refine xr_iconst a_Images_letBecome_31 (v := nI 0) (by decide +kernel) ?_
      refine xr_ireturn a_Images_letBecome_32 rfl rfl (by omega) (by omega) ?_
      refine ⟨?_, rfl, eh.symm⟩
      rw [vB_f (by rw [e]; exact b24)]
    · refine xr_iconst a_Images_letBecome_27 (v := nI 1) (by decide +kernel) ?_
      refine xr_goto a_Images_letBecome_28 ?_
      refine xr_ireturn a_Images_letBecome_32 rfl rfl (by omega) (by omega) ?_
      refine ⟨?_, rfl, eh.symm⟩
      rw [vB_t (by rw [e]; exact b24)]
  · have e := vLet_none (j := j) b7
    refine xr_aload_n a_Images_letBecome_10 rfl ?_
    apply xr_getf a_Images_letBecome_11
    · (repeat' (first | assumption | exact va_up_self _ _ _ | refine x_lk (by omega) ?_))
    · rfl
    refine xr_iload_n a_Images_letBecome_14 rfl ?_
    refine xr_iload_n a_Images_letBecome_15 rfl ?_
    apply xo_iastore (o := some j) a_Images_letBecome_16
    · (repeat' (first | assumption | exact va_up_self _ _ _ | refine x_lk (by omega) ?_))
    · exact rfl
    · omega
    · omega
    refine xr_aload_n a_Images_letBecome_17 rfl ?_
    apply xr_getf a_Images_letBecome_18
    · (repeat' (first | assumption | exact va_up_self _ _ _ | refine x_lk (by omega) ?_))
    · rfl
    refine xr_iload_n a_Images_letBecome_21 rfl ?_
    apply xo_iaload a_Images_letBecome_22
    · (repeat' (first | assumption | exact va_up_self _ _ _ | refine x_lk (by omega) ?_))
    · omega
    · omega
    refine xr_iload_n a_Images_letBecome_23 rfl ?_
    refine xon_icmp_ne a_Images_letBecome_24 (fun k hk => by rw [up_self] at hk; cases hk; omega) (by omega) (fun b24 => ?_) (fun b24 => ?_)
    · exact absurd (up_self _ _ _) b24
    · refine xr_iconst a_Images_letBecome_27 (v := nI 1) (by decide +kernel) ?_
      refine xr_goto a_Images_letBecome_28 ?_
      refine xr_ireturn a_Images_letBecome_32 rfl rfl (by omega) (by omega) ?_
      refine ⟨?_, rfl, by show _ = va_up h (r + 1) (cO 34 (vLet f t j)); rw [e]⟩
      rw [vB_t (by rw [e]; exact b24)]
end T22

