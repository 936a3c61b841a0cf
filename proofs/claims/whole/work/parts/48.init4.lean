/-! ViewMediator's constructor -/
def vRel0 : vRel := (0, vZ, vZ, 0, 0)
def vVw0 : vVw := (0, fun _ => vAL0)
section T48
variable {d L : Nat} {xs : Nat → Int32} {h : xH} {v : Nat}
/-- what stands before the loops -/
def vmA (h h' : xH) (v : Nat) : Prop := xlo v h h' ∧ h' v = cJ 0 (vObj v) ∧ isAL h' (v + 3) 3 0 vZ vZ vZ ∧ isPl h' (v + 7) 0 id (fun _ => none) (fun _ => vD0) ∧ isAk h' (v + 61) 0 0 0 vZ (fun _ => false) (fun _ => false) vVal0 (vO0 34) .null .null 0 0
theorem vmA.hi {h h1 h2 : xH} {v r : Nat} {e : Option va_E} (p : vmA h h1 v) (hr : v + 70 ≤ r) (q : xlo r (va_up h1 r e) h2) : vmA h h2 v := by
  obtain ⟨p1, p2, p3, p4, p5⟩ := p
  have k : ∀ a b, b ≤ v + 70 → xsm a b h1 h2 := fun a b hb x _ hx => (q x (by omega)).trans (up_ne (by omega))
  exact ⟨fun x hx => (k 0 v (by omega) x (by omega) hx).trans (p1 x hx), (k v (v + 1) (by omega) v (by omega) (by omega)).trans p2, p3.sm (k _ _ (by omega)), p4.sm (k _ _ (by omega)), p5.sm (k _ _ (by omega))⟩
theorem vmA.arr {h h1 : xH} {v r : Nat} {e : Option va_E} (p : vmA h h1 v) (hr : r = v + 1 ∨ r = v + 2) : vmA h (va_up h1 r e) v := by
  obtain ⟨p1, p2, p3, p4, p5⟩ := p
  exact ⟨p1.up (by omega), x_lk (by omega) p2, p3.sm (xsm_up (by omega)), p4.sm (xsm_up (by omega)), p5.sm (xsm_up (by omega))⟩
theorem t_VM_init (p : h v = cJ 0 [.null, .null, .null, .null, .null]) (hd : 4 ≤ d) : XM d 111 893 k_VM_init L xs [.ref v] (v + 1) h (qN (v + 112) (fun h' => xlo v h h' ∧ isVM h' v (fun _ => vRel0) (fun _ => vVw0) vAL0 0 (fun _ => ([], fun _ => none)) (fun _ => false) 0 0)) := by
  refine XM.of rfl (Nat.le_of_ble_eq_true rfl) ?_
  have loopV : ∀ k i, i + k = 3 → ∀ (h' : xH) (f g : Nat → Option Nat), vmA h h' v → isRs h' (v + 1) (v + 70) (fun _ => vRel0) → h' (v + 2) = cQ 4 3 g → (∀ j, j < i → g j = some (v + 82 + 10 * j) ∧ ∃ f, isVw h' (v + 82 + 10 * j) 0 (fun _ => vAL0) f) → XW (x_rm d 111 893) k_VM_init L xs (x_mq 111 893 (qN (v + 112) (fun h' => xlo v h h' ∧ isVM h' v (fun _ => vRel0) (fun _ => vVw0) vAL0 0 (fun _ => ([], fun _ => none)) (fun _ => false) 0 0))) (81 + 10 * i) (821 + 24 * i) 82 [(0, .ref v), (1, .int (nI i))] [] (v + 82 + 10 * i) h' := by
    intro k
    induction k with
    | zero =>
      intro i hi h' f g q1 q2 q3 q4
      have e : i = 3 := by omega
      subst e
      obtain ⟨z1, z2, z3, z4, z5⟩ := q1
      refine xr_iload_n a_VM_init_82 rfl ?_
      refine xr_iconst a_VM_init_83 (v := nI 3) (by decide +kernel) ?_
      refine xn_icmp_ge a_VM_init_84 (by omega) (by omega) (fun b84 => ?_) (fun b84 => ?_)
      · refine xr_return a_VM_init_106 rfl (by omega) (by omega) ?_
        exact ⟨rfl, rfl, z1, z2, q2, ⟨⟨g, q3, fun j hj => (q4 j hj).1⟩, fun j hj => (q4 j hj).2⟩, z3, ⟨id, _, _, z4, fun j hj => absurd hj (Nat.not_lt_zero j)⟩, 0, vZ, _, _, _, _, _, 0, 0, z5, (vCnt_false 256).symm, fun k _ z => by cases z⟩
      · omega
    | succ k ih =>
      intro i hi h' f g q1 q2 q3 q4
      have cA := t_View_init (d := 2) (L := L) (xs := xs) (h := va_up h' (v + 82 + 10 * i) (cJ 10 [.null, .int 0])) (r := v + 82 + 10 * i) (up_self _ _ _) (by omega)
      have v0 := q1.2.1
      refine xr_iload_n a_VM_init_82 rfl ?_
      refine xr_iconst a_VM_init_83 (v := nI 3) (by decide +kernel) ?_
      refine xn_icmp_ge a_VM_init_84 (by omega) (by omega) (fun b84 => ?_) (fun b84 => ?_)
      · omega
      · refine xr_aload_n a_VM_init_87 rfl ?_
        apply xr_getf a_VM_init_88
        · (repeat' (first | assumption | exact va_up_self _ _ _ | refine x_lk (by omega) ?_))
        · rfl
        refine xr_iload_n a_VM_init_91 rfl ?_
        refine xr_new a_VM_init_92 (by omega) (by omega) ?_
        refine xr_dup a_VM_init_95 rfl ?_
        refine xr_invI a_VM_init_96 (by omega) (cA) rfl rfl (by omega) (by omega) (by omega) (Nat.le_of_ble_eq_true rfl) ?_
        rintro _ _ h1 ⟨rfl, rfl, f2, fw, z4⟩
        have q1' := q1.hi (by omega) f2
        have q3' := f2.get (by omega) (x_lk (by omega) q3)
        have q2' := q2.sm (h' := h1) ((f2 _ (by omega)).trans (up_ne (by omega))) (fun x _ hx => (f2 x (by omega)).trans (up_ne (by omega)))
        have v0' := q1'.2.1
        apply xr_aastore a_VM_init_99
        · exact q3'
        · rfl
        · exact z4.1
        · rfl
        · rfl
        · omega
        · omega
        first | refine xn_iinc a_VM_init_100 rfl (by decide) rfl ?_ | refine xr_iinc a_VM_init_100 rfl rfl (by decide) rfl ?_
        refine xr_goto a_VM_init_103 ?_
        refine xr_ls [(0, .ref v), (1, .int (nI (i + 1)))] ⟨rfl, rfl, trivial⟩ ?_
        have := ih (i + 1) (by omega) (va_up h1 (v + 2) (cQ 4 3 (va_up g i (some (v + 82 + 10 * i))))) f (va_up g i (some (v + 82 + 10 * i))) (q1'.arr (Or.inr rfl)) (q2'.sm (up_ne (by omega)) (xsm_up (by omega))) (up_self _ _ _) (fun j hj => ?_)
        · rw [show 81 + 10 * (i + 1) = 81 + 10 * i + 1 + 9 by omega, show 821 + 24 * (i + 1) = 821 + 24 * i + 2 + 22 by omega, show v + 82 + 10 * (i + 1) = v + 82 + 10 * i + 10 by omega] at this
          exact this
        · by_cases e : j = i
          · subst e
            rw [up_self]
            exact ⟨rfl, fw, z4.sm (xsm_up (by omega))⟩
          · rw [up_ne e]
            obtain ⟨z1, fz, z2⟩ := q4 j (by omega)
            exact ⟨z1, fz, ((z2.sm (xsm_up (by omega))).sm (f2.sm (by omega))).sm (xsm_up (by omega))⟩
  have loopR : ∀ k i, i + k = 4 → ∀ (h' : xH) (f : Nat → Option Nat), vmA h h' v → h' (v + 1) = cQ 3 4 f → h' (v + 2) = cQ 4 3 (fun _ => none) → (∀ j, j < i → f j = some (v + 70 + 3 * j) ∧ isRel h' (v + 70 + 3 * j) 0 vZ vZ 0 0) → XW (x_rm d 111 893) k_VM_init L xs (x_mq 111 893 (qN (v + 112) (fun h' => xlo v h h' ∧ isVM h' v (fun _ => vRel0) (fun _ => vVw0) vAL0 0 (fun _ => ([], fun _ => none)) (fun _ => false) 0 0))) (69 + 3 * i) (737 + 21 * i) 56 [(0, .ref v), (1, .int (nI i))] [] (v + 70 + 3 * i) h' := by
    intro k
    induction k with
    | zero =>
      intro i hi h' f q1 q2 q3 q4
      have e : i = 4 := by omega
      subst e
      refine xr_iload_n a_VM_init_56 rfl ?_
      refine xr_iconst a_VM_init_57 (v := nI 4) (by decide +kernel) ?_
      refine xn_icmp_ge a_VM_init_58 (by omega) (by omega) (fun b58 => ?_) (fun b58 => ?_)
      · refine xr_iconst a_VM_init_80 (v := nI 0) (by decide +kernel) ?_
        refine xr_istore_n a_VM_init_81 (by decide) rfl ?_
        refine xr_ls [(0, .ref v), (1, .int (nI 0))] ⟨rfl, rfl, trivial⟩ ?_
        exact loopV 3 0 (by omega) h' f (fun _ => none) q1 ⟨⟨f, q2, fun j hj => (q4 j hj).1⟩, fun j hj => (q4 j hj).2⟩ q3 (fun j hj => by omega)
      · omega
    | succ k ih =>
      intro i hi h' f q1 q2 q3 q4
      have cA := t_Relation_init (d := 1) (L := L) (xs := xs) (h := va_up h' (v + 70 + 3 * i) (cJ 9 [.null, .null, .int 0, .int 0, .int 0])) (r := v + 70 + 3 * i) (up_self _ _ _) (by omega)
      have v0 := q1.2.1
      refine xr_iload_n a_VM_init_56 rfl ?_
      refine xr_iconst a_VM_init_57 (v := nI 4) (by decide +kernel) ?_
      refine xn_icmp_ge a_VM_init_58 (by omega) (by omega) (fun b58 => ?_) (fun b58 => ?_)
      · omega
      · refine xr_aload_n a_VM_init_61 rfl ?_
        apply xr_getf a_VM_init_62
        · (repeat' (first | assumption | exact va_up_self _ _ _ | refine x_lk (by omega) ?_))
        · rfl
        refine xr_iload_n a_VM_init_65 rfl ?_
        refine xr_new a_VM_init_66 (by omega) (by omega) ?_
        refine xr_dup a_VM_init_69 rfl ?_
        refine xr_invI a_VM_init_70 (by omega) (cA) rfl rfl (by omega) (by omega) (by omega) (Nat.le_of_ble_eq_true rfl) ?_
        rintro _ _ h1 ⟨rfl, rfl, f2, z4⟩
        have q1' := q1.hi (by omega) f2
        have q2' := f2.get (by omega) (x_lk (by omega) q2)
        have q3' := f2.get (by omega) (x_lk (by omega) q3)
        apply xr_aastore a_VM_init_73
        · exact q2'
        · rfl
        · exact z4.1
        · rfl
        · rfl
        · omega
        · omega
        first | refine xn_iinc a_VM_init_74 rfl (by decide) rfl ?_ | refine xr_iinc a_VM_init_74 rfl rfl (by decide) rfl ?_
        refine xr_goto a_VM_init_77 ?_
        refine xr_ls [(0, .ref v), (1, .int (nI (i + 1)))] ⟨rfl, rfl, trivial⟩ ?_
        have := ih (i + 1) (by omega) (va_up h1 (v + 1) (cQ 3 4 (va_up f i (some (v + 70 + 3 * i))))) (va_up f i (some (v + 70 + 3 * i))) (q1'.arr (Or.inl rfl)) (up_self _ _ _) (x_lk (by omega) q3') (fun j hj => ?_)
        · rw [show 69 + 3 * (i + 1) = 69 + 3 * i + 1 + 2 by omega, show 737 + 21 * (i + 1) = 737 + 21 * i + 5 + 16 by omega, show v + 70 + 3 * (i + 1) = v + 70 + 3 * i + 3 by omega] at this
          exact this
        · by_cases e : j = i
          · subst e
            rw [up_self]
            exact ⟨rfl, z4.sm (xsm_up (by omega))⟩
          · rw [up_ne e]
            obtain ⟨z1, z2⟩ := q4 j (by omega)
            exact ⟨z1, ((z2.sm (xsm_up (by omega))).sm (f2.sm (by omega))).sm (xsm_up (by omega))⟩
  refine xr_aload_n a_VM_init_0 rfl ?_
  refine xr_objInit a_VM_init_1 (by omega) (Nat.le_of_ble_eq_true rfl) ?_
  refine xr_aload_n a_VM_init_4 rfl ?_
  refine xr_iconst a_VM_init_5 (v := nI 4) (by decide +kernel) ?_
  refine xr_newq a_VM_init_6 rfl (by omega) (by omega) (by omega) ?_
  apply xr_putf a_VM_init_9
  · (repeat' (first | assumption | exact va_up_self _ _ _ | refine x_lk (by omega) ?_))
  · exact Nat.le_of_ble_eq_true rfl
  · rfl
  · rfl
  refine xr_aload_n a_VM_init_12 rfl ?_
  refine xr_iconst a_VM_init_13 (v := nI 3) (by decide +kernel) ?_
  refine xr_newq a_VM_init_14 rfl (by omega) (by omega) (by omega) ?_
  apply xr_putf a_VM_init_17
  · (repeat' (first | assumption | exact va_up_self _ _ _ | refine x_lk (by omega) ?_))
  · exact Nat.le_of_ble_eq_true rfl
  · rfl
  · rfl
  refine xr_aload_n a_VM_init_20 rfl ?_
  refine xr_new a_VM_init_21 (by omega) (by omega) ?_
  refine xr_dup a_VM_init_24 rfl ?_
  refine xr_iconst a_VM_init_25 (v := nI 3) (by decide +kernel) ?_
  have c1 := t_AtomList_init (d := 1) (L := L) (xs := xs) (cap := 3) (r := v + 3) (h := va_up (va_up (va_up (va_up (va_up h (v + 1) (cQ 3 4 (fun _ => none))) v (cJ 0 [.ref (v + 1), .null, .null, .null, .null])) (v + 2) (cQ 4 3 (fun _ => none))) v (cJ 0 [.ref (v + 1), .ref (v + 2), .null, .null, .null])) (v + 3) (cJ 3 [.null, .null, .null, .int 0])) (up_self _ _ _) (by omega) (by omega)
  refine xr_invI a_VM_init_26 (by omega) c1 rfl rfl (by omega) (by omega) (by omega) (Nat.le_of_ble_eq_true rfl) ?_
  rintro _ _ h1 ⟨rfl, rfl, f1, q1⟩
  have o1 := f1.get (q := v) (by omega) (x_lk (by omega) (up_self _ _ _))
  have s1 := f1.get (q := v + 1) (by omega) (x_lk (by omega) (x_lk (by omega) (x_lk (by omega) (x_lk (by omega) (up_self _ _ _)))))
  have s2 := f1.get (q := v + 2) (by omega) (x_lk (by omega) (x_lk (by omega) (up_self _ _ _)))
  apply xr_putf a_VM_init_29
  · (repeat' (first | assumption | exact va_up_self _ _ _ | refine x_lk (by omega) ?_))
  · exact Nat.le_of_ble_eq_true rfl
  · rfl
  · rfl
  refine xr_aload_n a_VM_init_32 rfl ?_
  refine xr_new a_VM_init_33 (by omega) (by omega) ?_
  refine xr_dup a_VM_init_36 rfl ?_
  have c2 := t_Plan_init (d := 3) (L := L) (xs := xs) (r := v + 7) (h := va_up (va_up h1 v (cJ 0 [.ref (v + 1), .ref (v + 2), .ref (v + 3), .null, .null])) (v + 7) (cJ 8 [.null, .int 0, .null, .null])) (up_self _ _ _) (by omega)
  refine xr_invI a_VM_init_37 (by omega) c2 rfl rfl (by omega) (by omega) (by omega) (Nat.le_of_ble_eq_true rfl) ?_
  rintro _ _ h2 ⟨rfl, rfl, f2, q2⟩
  have o2 := f2.get (q := v) (by omega) (x_lk (by omega) (up_self _ _ _))
  have s1' := f2.get (q := v + 1) (by omega) (x_lk (by omega) (x_lk (by omega) s1))
  have s2' := f2.get (q := v + 2) (by omega) (x_lk (by omega) (x_lk (by omega) s2))
  have q1' := ((q1.sm (xsm_up (by omega))).sm (xsm_up (by omega))).sm (f2.sm (by omega))
  apply xr_putf a_VM_init_40
  · (repeat' (first | assumption | exact va_up_self _ _ _ | refine x_lk (by omega) ?_))
  · exact Nat.le_of_ble_eq_true rfl
  · rfl
  · rfl
  refine xr_aload_n a_VM_init_43 rfl ?_
  refine xr_new a_VM_init_44 (by omega) (by omega) ?_
  refine xr_dup a_VM_init_47 rfl ?_
  have c3 := t_Asker_init (d := 2) (L := L) (xs := xs) (r := v + 61) (h := va_up (va_up h2 v (cJ 0 [.ref (v + 1), .ref (v + 2), .ref (v + 3), .ref (v + 7), .null])) (v + 61) (cJ 2 [.null, .int 0, .int 0, .int 0, .null, .null, .null, .null, .null, .null, .int 0, .int 0])) (up_self _ _ _) (by omega)
  refine xr_invI a_VM_init_48 (by omega) c3 rfl rfl (by omega) (by omega) (by omega) (Nat.le_of_ble_eq_true rfl) ?_
  rintro _ _ h3 ⟨rfl, rfl, f3, q3⟩
  have o3 := f3.get (q := v) (by omega) (x_lk (by omega) (up_self _ _ _))
  have s1'' := f3.get (q := v + 1) (by omega) (x_lk (by omega) (x_lk (by omega) s1'))
  have s2'' := f3.get (q := v + 2) (by omega) (x_lk (by omega) (x_lk (by omega) s2'))
  have q1'' := ((q1'.sm (xsm_up (by omega))).sm (xsm_up (by omega))).sm (f3.sm (by omega))
  have q2' := ((q2.sm (xsm_up (by omega))).sm (xsm_up (by omega))).sm (f3.sm (by omega))
  apply xr_putf a_VM_init_51
  · (repeat' (first | assumption | exact va_up_self _ _ _ | refine x_lk (by omega) ?_))
  · exact Nat.le_of_ble_eq_true rfl
  · rfl
  · rfl
  refine xr_iconst a_VM_init_54 (v := nI 0) (by decide +kernel) ?_
  refine xr_istore_n a_VM_init_55 (by decide) rfl ?_
  refine xr_ls [(0, .ref v), (1, .int (nI 0))] ⟨rfl, rfl, trivial⟩ ?_
  refine loopR 4 0 (by omega) _ (fun _ => none) ⟨?_, x_ls rfl, q1''.sm (xsm_up (by omega)), q2'.sm (xsm_up (by omega)), q3.sm (xsm_up (by omega))⟩ (x_lk (by omega) s1'') (x_lk (by omega) s2'') (fun j hj => by omega)
  have b1 : xlo v h h1 := (((((xlo.rf.up (by omega)).up (by omega)).up (by omega)).up (by omega)).up (by omega)).tr f1 (by omega)
  have b2 : xlo v h h2 := ((b1.up (by omega)).up (by omega)).tr f2 (by omega)
  have b3 : xlo v h h3 := ((b2.up (by omega)).up (by omega)).tr f3 (by omega)
  exact b3.up (by omega)
end T48

