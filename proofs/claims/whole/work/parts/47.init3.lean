/-! the constructors of Plan and ViewMediator -/
def vD0 : vDs := ([], vO0 6, 0, 0)
section T47
variable {d L : Nat} {xs : Nat → Int32} {h : xH} {r : Nat}
theorem t_Plan_init (p : h r = cJ 8 [.null, .int 0, .null, .null]) (hd : 3 ≤ d) : XM d 53 306 k_Plan_init L xs [.ref r] (r + 1) h (qN (r + 54) (fun h' => xlo r h h' ∧ isPl h' r 0 id (fun _ => none) (fun _ => vD0))) := by
  refine XM.of rfl (Nat.le_of_ble_eq_true rfl) ?_
  have loop : ∀ k i, i + k = 8 → ∀ (h' : xH) (e : Nat → Option Nat), xlo r h h' → h' r = cJ 8 [.ref (r + 1), .int (nI 0), .ref (r + 2), .ref (r + 3)] → h' (r + 1) = cQ 5 8 e → h' (r + 2) = cQ 6 3 (fun _ => none) → (∃ v1 v2 lo, isMp h' (r + 3) v1 v2 lo vIm0) → (∀ j, j < i → e j = some (r + 6 + 6 * j) ∧ isDl h' (r + 6 + 6 * j) [] (vO0 6) 0 0) → XW (x_rm d 53 306) k_Plan_init L xs (x_mq 53 306 (qN (r + 54) (fun h' => xlo r h h' ∧ isPl h' r 0 id (fun _ => none) (fun _ => vD0)))) (5 + 6 * i) (50 + 32 * i) 34 [(0, .ref r), (1, .int (nI i))] [] (r + 6 + 6 * i) h' := by
    intro k
    induction k with
    | zero =>
      intro i hi h' f f1 q1 q2 q3 q4 q5
      have e : i = 8 := by omega
      subst e
      refine xr_iload_n a_Plan_init_34 rfl ?_
      refine xr_bipush a_Plan_init_35 (v := nI 8) (by decide +kernel) ?_
      refine xn_icmp_ge a_Plan_init_37 (by omega) (by omega) (fun b37 => ?_) (fun b37 => ?_)
      · refine xr_return a_Plan_init_59 rfl (by omega) (by omega) ?_
        exact ⟨rfl, rfl, f1, q1, ⟨f, q2, fun j hj => (q5 j hj).1⟩, q3, q4, ⟨fun j hj => hj, fun a b _ _ z => z⟩, fun j hj => (q5 j hj).2⟩
      · omega
    | succ k ih =>
      intro i hi h' f f1 q1 q2 q3 ⟨v1, v2, lo, q4⟩ q5
      have cA := t_Disjunct_init (d := 2) (L := L) (xs := xs) (h := va_up h' (r + 6 + 6 * i) (cJ 4 [.null, .null, .int 0, .int 0])) (r := r + 6 + 6 * i) (up_self _ _ _) (by omega)
      refine xr_iload_n a_Plan_init_34 rfl ?_
      refine xr_bipush a_Plan_init_35 (v := nI 8) (by decide +kernel) ?_
      refine xn_icmp_ge a_Plan_init_37 (by omega) (by omega) (fun b37 => ?_) (fun b37 => ?_)
      · omega
      · refine xr_aload_n a_Plan_init_40 rfl ?_
        apply xr_getf a_Plan_init_41
        · (repeat' (first | assumption | exact va_up_self _ _ _ | refine x_lk (by omega) ?_))
        · rfl
        refine xr_iload_n a_Plan_init_44 rfl ?_
        refine xr_new a_Plan_init_45 (by omega) (by omega) ?_
        refine xr_dup a_Plan_init_48 rfl ?_
        refine xr_invI a_Plan_init_49 (by omega) (cA) rfl rfl (by omega) (by omega) (by omega) (Nat.le_of_ble_eq_true rfl) ?_
        rintro _ _ h1 ⟨rfl, rfl, f2, z4⟩
        have q1' := f2.get (by omega) (x_lk (by omega) q1)
        have q2' := f2.get (by omega) (x_lk (by omega) q2)
        have q3' := f2.get (by omega) (x_lk (by omega) q3)
        have q4' := (q4.sm (xsm_up (q := r + 6 + 6 * i) (e := cJ 4 [.null, .null, .int 0, .int 0]) (by omega))).sm (f2.sm (by omega))
        have z0 : ∃ fs, h1 (r + 6 + 6 * i) = cJ 4 fs := by
          obtain ⟨_, _, _, ⟨z0, _⟩, _⟩ := z4
          exact ⟨_, z0⟩
        obtain ⟨fs, z0⟩ := z0
        apply xr_aastore a_Plan_init_52
        · exact q2'
        · rfl
        · exact z0
        · rfl
        · rfl
        · omega
        · omega
        first | refine xn_iinc a_Plan_init_53 rfl (by decide) rfl ?_ | refine xr_iinc a_Plan_init_53 rfl rfl (by decide) rfl ?_
        refine xr_goto a_Plan_init_56 ?_
        refine xr_ls [(0, .ref r), (1, .int (nI (i + 1)))] ⟨rfl, rfl, trivial⟩ ?_
        have := ih (i + 1) (by omega) (va_up h1 (r + 1) (cQ 5 8 (va_up f i (some (r + 6 + 6 * i))))) (va_up f i (some (r + 6 + 6 * i))) ((f1.tr ((xlo.rf (a := r + 6 + 6 * i)).up (Nat.le_refl _)) (by omega)).tr f2 (by omega) |>.up (by omega)) (x_lk (by omega) q1') (up_self _ _ _) (x_lk (by omega) q3') ⟨v1, v2, lo, q4'.sm (xsm_up (by omega))⟩ (fun j hj => ?_)
        · rw [show 5 + 6 * (i + 1) = 5 + 6 * i + 1 + 5 by omega, show 50 + 32 * (i + 1) = 50 + 32 * i + 4 + 28 by omega, show r + 6 + 6 * (i + 1) = r + 6 + 6 * i + 6 by omega] at this
          exact this
        · by_cases e : j = i
          · subst e
            rw [up_self]
            exact ⟨rfl, z4.sm (xsm_up (by omega))⟩
          · rw [up_ne e]
            obtain ⟨z1, z2⟩ := q5 j (by omega)
            exact ⟨z1, ((z2.sm (xsm_up (by omega))).sm (f2.sm (by omega))).sm (xsm_up (by omega))⟩
  refine xr_aload_n a_Plan_init_0 rfl ?_
  refine xr_objInit a_Plan_init_1 (by omega) (Nat.le_of_ble_eq_true rfl) ?_
  refine xr_aload_n a_Plan_init_4 rfl ?_
  refine xr_bipush a_Plan_init_5 (v := nI 8) (by decide +kernel) ?_
  refine xr_newq a_Plan_init_7 rfl (by omega) (by omega) (by omega) ?_
  apply xr_putf a_Plan_init_10
  · (repeat' (first | assumption | exact va_up_self _ _ _ | refine x_lk (by omega) ?_))
  · exact Nat.le_of_ble_eq_true rfl
  · rfl
  · rfl
  refine xr_aload_n a_Plan_init_13 rfl ?_
  refine xr_iconst a_Plan_init_14 (v := nI 3) (by decide +kernel) ?_
  refine xr_newq a_Plan_init_15 rfl (by omega) (by omega) (by omega) ?_
  apply xr_putf a_Plan_init_18
  · (repeat' (first | assumption | exact va_up_self _ _ _ | refine x_lk (by omega) ?_))
  · exact Nat.le_of_ble_eq_true rfl
  · rfl
  · rfl
  refine xr_aload_n a_Plan_init_21 rfl ?_
  refine xr_new a_Plan_init_22 (by omega) (by omega) ?_
  refine xr_dup a_Plan_init_25 rfl ?_
  have cM := t_Mapper_init (d := 2) (L := L) (xs := xs) (r := r + 3) (h := va_up (va_up (va_up (va_up (va_up h (r + 1) (cQ 5 8 (fun _ => none))) r (cJ 8 [.ref (r + 1), .int 0, .null, .null])) (r + 2) (cQ 6 3 (fun _ => none))) r (cJ 8 [.ref (r + 1), .int 0, .ref (r + 2), .null])) (r + 3) (cJ 6 [.null, .null, .null, .int 0])) (up_self _ _ _) (by omega)
  refine xr_invI a_Plan_init_26 (by omega) cM rfl rfl (by omega) (by omega) (by omega) (Nat.le_of_ble_eq_true rfl) ?_
  rintro _ _ h1 ⟨rfl, rfl, f1, v1, v2, lo, q1⟩
  have o1 := f1.get (by omega) (x_lk (by omega) (up_self _ _ _))
  have s1 := f1.get (q := r + 1) (by omega) (x_lk (by omega) (x_lk (by omega) (x_lk (by omega) (x_lk (by omega) (up_self _ _ _)))))
  have s2 := f1.get (q := r + 2) (by omega) (x_lk (by omega) (x_lk (by omega) (up_self _ _ _)))
  apply xr_putf a_Plan_init_29
  · (repeat' (first | assumption | exact va_up_self _ _ _ | refine x_lk (by omega) ?_))
  · exact Nat.le_of_ble_eq_true rfl
  · rfl
  · rfl
  refine xr_iconst a_Plan_init_32 (v := nI 0) (by decide +kernel) ?_
  refine xr_istore_n a_Plan_init_33 (by decide) rfl ?_
  refine xr_ls [(0, .ref r), (1, .int (nI 0))] ⟨rfl, rfl, trivial⟩ ?_
  refine loop 8 0 (by omega) _ (fun _ => none) ?_ ?_ ?_ ?_ ⟨v1, v2, lo, q1.sm (xsm_up (by omega))⟩ (fun j hj => by omega)
  · exact ((((((xlo.rf.up (by omega)).up (by omega)).up (by omega)).up (by omega)).up (by omega)).tr f1 (by omega)).up (by omega)
  · exact x_ls rfl
  · exact x_lk (by omega) s1
  · exact x_lk (by omega) s2
end T47

