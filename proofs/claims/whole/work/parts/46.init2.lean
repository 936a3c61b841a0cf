/-! the constructors of the larger objects -/
def vAL0 : vAL := (0, vZ, vZ, vZ)
section T46
variable {d L : Nat} {xs : Nat → Int32} {h : xH} {r : Nat}
theorem t_View_init (p : h r = cJ 10 [.null, .int 0]) (hd : 2 ≤ d) : XM d 9 22 k_View_init L xs [.ref r] (r + 1) h (qN (r + 10) (fun h' => xlo r h h' ∧ ∃ f, isVw h' r 0 (fun _ => vAL0) f)) := by
  refine XM.of rfl (Nat.le_of_ble_eq_true rfl) ?_
  have loop : ∀ k i, i + k = 2 → ∀ (h' : xH) (f : Nat → Option Nat), xlo r h h' → h' r = cJ 10 [.ref (r + 1), .int (nI 0)] → h' (r + 1) = cQ 6 2 f → (∀ j, j < i → f j = some (r + 2 + 4 * j) ∧ isAL h' (r + 2 + 4 * j) 2 0 vZ vZ vZ) → XW (x_rm d 9 22) k_View_init L xs (x_mq 9 22 (qN (r + 10) (fun h' => xlo r h h' ∧ ∃ f, isVw h' r 0 (fun _ => vAL0) f))) (1 + 4 * i) (2 + 10 * i) 14 [(0, .ref r), (1, .int (nI i))] [] (r + 2 + 4 * i) h' := by
    intro k
    induction k with
    | zero =>
      intro i hi h' f f1 q1 q2 q3
      have e : i = 2 := by omega
      subst e
      refine xr_iload_n a_View_init_14 rfl ?_
      refine xr_iconst a_View_init_15 (v := nI 2) (by decide +kernel) ?_
      refine xn_icmp_ge a_View_init_16 (by omega) (by omega) (fun b16 => ?_) (fun b16 => ?_)
      · refine xr_return a_View_init_39 rfl (by omega) (by omega) ?_
        exact ⟨rfl, rfl, f1, f, q1, q2, fun j hj => (q3 j hj).1, fun j hj => (q3 j hj).2⟩
      · omega
    | succ k ih =>
      intro i hi h' f f1 q1 q2 q3
      have cA := t_AtomList_init (d := 1) (L := L) (xs := xs) (cap := 2) (h := va_up h' (r + 2 + 4 * i) (cJ 3 [.null, .null, .null, .int 0])) (r := r + 2 + 4 * i) (up_self _ _ _) (by omega) (by omega)
      refine xr_iload_n a_View_init_14 rfl ?_
      refine xr_iconst a_View_init_15 (v := nI 2) (by decide +kernel) ?_
      refine xn_icmp_ge a_View_init_16 (by omega) (by omega) (fun b16 => ?_) (fun b16 => ?_)
      · omega
      · refine xr_aload_n a_View_init_19 rfl ?_
        apply xr_getf a_View_init_20
        · (repeat' (first | assumption | exact va_up_self _ _ _ | refine x_lk (by omega) ?_))
        · rfl
        refine xr_iload_n a_View_init_23 rfl ?_
        refine xr_new a_View_init_24 (by omega) (by omega) ?_
        refine xr_dup a_View_init_27 rfl ?_
        refine xr_iconst a_View_init_28 (v := nI 2) (by decide +kernel) ?_
        refine xr_invI a_View_init_29 (by omega) (cA) rfl rfl (by omega) (by omega) (by omega) (Nat.le_of_ble_eq_true rfl) ?_
        rintro _ _ h1 ⟨rfl, rfl, f2, q4⟩
        have q1' := f2.get (by omega) (x_lk (by omega) q1)
        have q2' := f2.get (by omega) (x_lk (by omega) q2)
        apply xr_aastore a_View_init_32
        · exact q2'
        · rfl
        · exact q4.1
        · rfl
        · rfl
        · omega
        · omega
        first | refine xn_iinc a_View_init_33 rfl (by decide) rfl ?_ | refine xr_iinc a_View_init_33 rfl rfl (by decide) rfl ?_
        refine xr_goto a_View_init_36 ?_
        refine xr_ls [(0, .ref r), (1, .int (nI (i + 1)))] ⟨rfl, rfl, trivial⟩ ?_
        have := ih (i + 1) (by omega) (va_up h1 (r + 1) (cQ 6 2 (va_up f i (some (r + 2 + 4 * i))))) (va_up f i (some (r + 2 + 4 * i))) ((f1.tr ((xlo.rf (a := r + 2 + 4 * i)).up (Nat.le_refl _)) (by omega)).tr f2 (by omega) |>.up (by omega)) (x_lk (by omega) q1') (up_self _ _ _) (fun j hj => ?_)
        · rw [show 1 + 4 * (i + 1) = 1 + 4 * i + 1 + 3 by omega, show 2 + 10 * (i + 1) = 2 + 10 * i + 4 + 3 * 2 by omega, show r + 2 + 4 * (i + 1) = r + 2 + 4 * i + 4 by omega] at this
          exact this
        · by_cases e : j = i
          · subst e
            rw [up_self]
            exact ⟨rfl, q4.sm (xsm_up (by omega))⟩
          · rw [up_ne e]
            obtain ⟨z1, z2⟩ := q3 j (by omega)
            exact ⟨z1, ((z2.sm (xsm_up (by omega))).sm (f2.sm (by omega))).sm (xsm_up (by omega))⟩
  refine xr_aload_n a_View_init_0 rfl ?_
  refine xr_objInit a_View_init_1 (by omega) (Nat.le_of_ble_eq_true rfl) ?_
  refine xr_aload_n a_View_init_4 rfl ?_
  refine xr_iconst a_View_init_5 (v := nI 2) (by decide +kernel) ?_
  refine xr_newq a_View_init_6 rfl (by omega) (by omega) (by omega) ?_
  apply xr_putf a_View_init_9
  · (repeat' (first | assumption | exact va_up_self _ _ _ | refine x_lk (by omega) ?_))
  · exact Nat.le_of_ble_eq_true rfl
  · rfl
  · rfl
  refine xr_iconst a_View_init_12 (v := nI 0) (by decide +kernel) ?_
  refine xr_istore_n a_View_init_13 (by decide) rfl ?_
  refine xr_ls [(0, .ref r), (1, .int (nI 0))] ⟨rfl, rfl, trivial⟩ ?_
  refine loop 2 0 (by omega) _ (fun _ => none) ?_ ?_ ?_ (fun j hj => by omega)
  · repeat' (first | exact xlo.rf | refine xlo.up ?_ (by omega))
  · repeat' (first | exact x_ls (by omega) | refine x_lk (by omega) ?_ | assumption)
  · repeat' (first | exact x_ls (by omega) | refine x_lk (by omega) ?_ | assumption)
theorem t_Disjunct_init (p : h r = cJ 4 [.null, .null, .int 0, .int 0]) (hd : 2 ≤ d) : XM d 5 28 k_Disjunct_init L xs [.ref r] (r + 1) h (qN (r + 6) (fun h' => xlo r h h' ∧ isDl h' r [] (vO0 6) 0 0)) := by
  have cA := t_AtomList_init (d := 1) (L := L) (xs := xs) (cap := 6) (h := va_up h (r + 1) (cJ 3 [.null, .null, .null, .int 0])) (r := r + 1) (up_self _ _ _) (by omega) (by omega)
  refine XM.of rfl (Nat.le_of_ble_eq_true rfl) ?_
  refine xr_aload_n a_Disjunct_init_0 rfl ?_
  refine xr_objInit a_Disjunct_init_1 (by omega) (Nat.le_of_ble_eq_true rfl) ?_
  refine xr_aload_n a_Disjunct_init_4 rfl ?_
  refine xr_new a_Disjunct_init_5 (by omega) (by omega) ?_
  refine xr_dup a_Disjunct_init_8 rfl ?_
  refine xr_bipush a_Disjunct_init_9 (v := nI 6) (by decide +kernel) ?_
  refine xr_invI a_Disjunct_init_11 (by omega) (cA) rfl rfl (by omega) (by omega) (by omega) (Nat.le_of_ble_eq_true rfl) ?_
  rintro _ _ h1 ⟨rfl, rfl, f2, q4⟩
  have p' := f2.get (by omega) (x_lk (by omega) p)
  apply xr_putf a_Disjunct_init_14
  · (repeat' (first | assumption | exact va_up_self _ _ _ | refine x_lk (by omega) ?_))
  · exact Nat.le_of_ble_eq_true rfl
  · rfl
  · rfl
  refine xr_aload_n a_Disjunct_init_17 rfl ?_
  refine xr_bipush a_Disjunct_init_18 (v := nI 6) (by decide +kernel) ?_
  refine xn_newO a_Disjunct_init_20 (by omega) (by omega) (by omega) ?_
  apply xr_putf a_Disjunct_init_22
  · (repeat' (first | assumption | exact va_up_self _ _ _ | refine x_lk (by omega) ?_))
  · exact Nat.le_of_ble_eq_true rfl
  · rfl
  · rfl
  refine xr_return a_Disjunct_init_25 rfl (by omega) (by omega) ?_
  refine ⟨rfl, rfl, ?_, vZ, vZ, vZ, ⟨?_, ?_, ?_⟩, vRep.nil⟩
  · exact (((xlo.rf.up (by omega)).tr f2 (by omega)).up (by omega)).up (by omega) |>.up (by omega)
  · repeat' (first | exact x_ls (by omega) | refine x_lk (by omega) ?_ | assumption)
  · exact ((q4.sm (xsm_up (by omega))).sm (xsm_up (by omega))).sm (xsm_up (by omega))
  · repeat' (first | exact x_ls (by omega) | refine x_lk (by omega) ?_ | assumption)
theorem t_Mapper_init (p : h r = cJ 6 [.null, .null, .null, .int 0]) (hd : 2 ≤ d) : XM d 2 35 k_Mapper_init L xs [.ref r] (r + 1) h (qN (r + 3) (fun h' => xlo r h h' ∧ ∃ v1 v2 lo, isMp h' r v1 v2 lo vIm0)) := by
  have cA := t_Images_init (d := 1) (L := L) (xs := xs) (fx := 18) (h := va_up h (r + 1) (cJ 5 [.null])) (r := r + 1) (up_self _ _ _) (by omega) (by omega)
  rw [vImN_18] at cA
  refine XM.of rfl (Nat.le_of_ble_eq_true rfl) ?_
  refine xr_aload_n a_Mapper_init_0 rfl ?_
  refine xr_objInit a_Mapper_init_1 (by omega) (Nat.le_of_ble_eq_true rfl) ?_
  refine xr_aload_n a_Mapper_init_4 rfl ?_
  refine xr_new a_Mapper_init_5 (by omega) (by omega) ?_
  refine xr_dup a_Mapper_init_8 rfl ?_
  refine xr_bipush a_Mapper_init_9 (v := nI 18) (by decide +kernel) ?_
  refine xr_invI a_Mapper_init_11 (by omega) (cA) rfl rfl (by omega) (by omega) (by omega) (Nat.le_of_ble_eq_true rfl) ?_
  rintro _ _ h1 ⟨rfl, rfl, f2, q4⟩
  have p' := f2.get (by omega) (x_lk (by omega) p)
  apply xr_putf a_Mapper_init_14
  · (repeat' (first | assumption | exact va_up_self _ _ _ | refine x_lk (by omega) ?_))
  · exact Nat.le_of_ble_eq_true rfl
  · rfl
  · rfl
  refine xr_return a_Mapper_init_17 rfl (by omega) (by omega) ?_
  refine ⟨rfl, rfl, ?_, .null, .null, 0, ?_, q4.sm (xsm_up (by omega))⟩
  · exact ((xlo.rf.up (by omega)).tr f2 (by omega)).up (by omega)
  · exact up_self _ _ _
theorem t_Asker_init (p : h r = cJ 2 [.null, .int 0, .int 0, .int 0, .null, .null, .null, .null, .null, .null, .int 0, .int 0]) (hd : 2 ≤ d) : XM d 8 395 k_Asker_init L xs [.ref r] (r + 1) h (qN (r + 9) (fun h' => xlo r h h' ∧ isAk h' r 0 0 0 vZ (fun _ => false) (fun _ => false) vVal0 (vO0 34) .null .null 0 0)) := by
  refine XM.of rfl (Nat.le_of_ble_eq_true rfl) ?_
  refine xr_aload_n a_Asker_init_0 rfl ?_
  refine xr_objInit a_Asker_init_1 (by omega) (Nat.le_of_ble_eq_true rfl) ?_
  refine xr_aload_n a_Asker_init_4 rfl ?_
  refine xr_sipush a_Asker_init_5 (v := nI 256) (by decide +kernel) ?_
  refine xn_newI a_Asker_init_8 (by omega) (by omega) (by omega) ?_
  apply xr_putf a_Asker_init_10
  · (repeat' (first | assumption | exact va_up_self _ _ _ | refine x_lk (by omega) ?_))
  · exact Nat.le_of_ble_eq_true rfl
  · rfl
  · rfl
  refine xr_aload_n a_Asker_init_13 rfl ?_
  refine xr_new a_Asker_init_14 (by omega) (by omega) ?_
  refine xr_dup a_Asker_init_17 rfl ?_
  refine xr_sipush a_Asker_init_18 (v := nI 256) (by decide +kernel) ?_
  have c1 := t_Marks_init (d := 1) (L := L) (xs := xs) (N := 4) (r := r + 2) (h := va_up (va_up (va_up h (r + 1) (cI 256 (fun _ => 0))) r (cJ 2 [.ref (r + 1), .int 0, .int 0, .int 0, .null, .null, .null, .null, .null, .null, .int 0, .int 0])) (r + 2) (cJ 7 [.null])) (up_self _ _ _) (by omega) (by omega)
  refine xr_invI a_Asker_init_21 (by omega) c1 rfl rfl (by omega) (by omega) (by omega) (Nat.le_of_ble_eq_true rfl) ?_
  rintro _ _ h1 ⟨rfl, rfl, f1, q1⟩
  have o1 := f1.get (by omega) (x_lk (by omega) (up_self _ _ _))
  have s1 := f1.get (q := r + 1) (by omega) (x_lk (by omega) (x_lk (by omega) (up_self _ _ _)))
  apply xr_putf a_Asker_init_24
  · (repeat' (first | assumption | exact va_up_self _ _ _ | refine x_lk (by omega) ?_))
  · exact Nat.le_of_ble_eq_true rfl
  · rfl
  · rfl
  refine xr_aload_n a_Asker_init_27 rfl ?_
  refine xr_new a_Asker_init_28 (by omega) (by omega) ?_
  refine xr_dup a_Asker_init_31 rfl ?_
  refine xr_sipush a_Asker_init_32 (v := nI 4096) (by decide +kernel) ?_
  have c2 := t_Marks_init (d := 1) (L := L) (xs := xs) (N := 64) (r := r + 4) (h := va_up (va_up h1 r (cJ 2 [.ref (r + 1), .int 0, .int 0, .int 0, .ref (r + 2), .null, .null, .null, .null, .null, .int 0, .int 0])) (r + 4) (cJ 7 [.null])) (up_self _ _ _) (by omega) (by omega)
  refine xr_invI a_Asker_init_35 (by omega) c2 rfl rfl (by omega) (by omega) (by omega) (Nat.le_of_ble_eq_true rfl) ?_
  rintro _ _ h2 ⟨rfl, rfl, f2, q2⟩
  have o2 := f2.get (by omega) (x_lk (by omega) (up_self _ _ _))
  have s2 := f2.get (q := r + 1) (by omega) (x_lk (by omega) (x_lk (by omega) s1))
  have q1' := ((q1.sm (xsm_up (by omega))).sm (xsm_up (by omega))).sm (f2.sm (by omega))
  apply xr_putf a_Asker_init_38
  · (repeat' (first | assumption | exact va_up_self _ _ _ | refine x_lk (by omega) ?_))
  · exact Nat.le_of_ble_eq_true rfl
  · rfl
  · rfl
  refine xr_aload_n a_Asker_init_41 rfl ?_
  refine xr_new a_Asker_init_42 (by omega) (by omega) ?_
  refine xr_dup a_Asker_init_45 rfl ?_
  refine xr_bipush a_Asker_init_46 (v := nI 16) (by decide +kernel) ?_
  have c3 := t_Images_init (d := 1) (L := L) (xs := xs) (fx := 16) (r := r + 6) (h := va_up (va_up h2 r (cJ 2 [.ref (r + 1), .int 0, .int 0, .int 0, .ref (r + 2), .ref (r + 4), .null, .null, .null, .null, .int 0, .int 0])) (r + 6) (cJ 5 [.null])) (up_self _ _ _) (by omega) (by omega)
  rw [vImN_16] at c3
  refine xr_invI a_Asker_init_48 (by omega) c3 rfl rfl (by omega) (by omega) (by omega) (Nat.le_of_ble_eq_true rfl) ?_
  rintro _ _ h3 ⟨rfl, rfl, f3, q3⟩
  have o3 := f3.get (by omega) (x_lk (by omega) (up_self _ _ _))
  have s3 := f3.get (q := r + 1) (by omega) (x_lk (by omega) (x_lk (by omega) s2))
  have q1'' := ((q1'.sm (xsm_up (by omega))).sm (xsm_up (by omega))).sm (f3.sm (by omega))
  have q2' := ((q2.sm (xsm_up (by omega))).sm (xsm_up (by omega))).sm (f3.sm (by omega))
  apply xr_putf a_Asker_init_51
  · (repeat' (first | assumption | exact va_up_self _ _ _ | refine x_lk (by omega) ?_))
  · exact Nat.le_of_ble_eq_true rfl
  · rfl
  · rfl
  refine xr_aload_n a_Asker_init_54 rfl ?_
  refine xr_bipush a_Asker_init_55 (v := nI 34) (by decide +kernel) ?_
  refine xn_newO a_Asker_init_57 (by omega) (by omega) (by omega) ?_
  apply xr_putf a_Asker_init_59
  · (repeat' (first | assumption | exact va_up_self _ _ _ | refine x_lk (by omega) ?_))
  · exact Nat.le_of_ble_eq_true rfl
  · rfl
  · rfl
  refine xr_return a_Asker_init_62 rfl (by omega) (by omega) ?_
  refine ⟨rfl, rfl, ?_, ?_, ?_, ?_, ?_, ?_, ?_⟩
  · exact ((((((((xlo.rf.up (by omega)).up (by omega)).up (by omega)).tr f1 (by omega)).up (by omega)).up (by omega)).tr f2 (by omega)).up (by omega)).up (by omega) |>.tr f3 (by omega) |>.up (by omega) |>.up (by omega) |>.up (by omega)
  · exact x_ls rfl
  · exact x_lk (by omega) (x_lk (by omega) (x_lk (by omega) s3))
  · exact ((q1''.sm (xsm_up (by omega))).sm (xsm_up (by omega))).sm (xsm_up (by omega))
  · exact ((q2'.sm (xsm_up (by omega))).sm (xsm_up (by omega))).sm (xsm_up (by omega))
  · exact ((q3.sm (xsm_up (by omega))).sm (xsm_up (by omega))).sm (xsm_up (by omega))
  · exact x_lk (by omega) (x_ls rfl)
end T46

