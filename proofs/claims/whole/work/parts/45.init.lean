/-! the constructors -/
def vO0 (N : Nat) : Nat → Option Nat := fun t => if t < N then some 0 else none
theorem arr_eq {cA : ClassId} {N : Nat} {f g : Nat → Value} (h : ∀ j, j < N → f j = g j) : arrV cA N f = arrV cA N g := by
  unfold arrV
  have : (fun j : Fin N => f j.val) = fun j : Fin N => g j.val := funext fun j => h j.val j.isLt
  rw [this]
theorem vO0_cell (cA : ClassId) (N : Nat) : vp_cell cA (N, .inl (oF (vO0 N))) = arrV cA N (fun _ => defaultValue .int) := by
  show arrV cA N (fun j => .int (oF (vO0 N) j)) = _
  apply arr_eq
  intro j hj
  show Value.int (oI (if j < N then some 0 else none)) = Value.int 0
  rw [if_pos hj]
  exact congrArg Value.int (by decide +kernel : nI 0 = 0)
section XNew
variable {d mc ms : Nat} {M : xM} {L : Nat} {xs : Nat → Int32} {Z : xZ} {kc ks pc pc' : Nat} {ls : List (Nat × Value)} {st : List Value} {n : Nat} {h : xH}
theorem xn_newI {N : Nat} (hg : x_isnewa M pc pc' 0 .int .int) (hN : N * 8 ≤ 536870912) (hkc : kc + 1 ≤ mc) (hks : ks + N ≤ ms) (k : XW (x_rm d mc ms) M L xs Z (kc + 1) (ks + N) pc' ls (.ref n :: st) (n + 1) (va_up h n (cI N (fun _ => 0)))) : XW (x_rm d mc ms) M L xs Z kc ks pc ls (.int (nI N) :: st) n h := xr_newa (a0 := (N, .inl (nF fun _ => 0))) hg (Or.inl rfl) (fun _ => rfl) (fun _ _ => rfl) rfl hN hkc hks k
theorem xn_newO {N : Nat} (hg : x_isnewa M pc pc' 0 .int .int) (hN : N * 8 ≤ 536870912) (hkc : kc + 1 ≤ mc) (hks : ks + N ≤ ms) (k : XW (x_rm d mc ms) M L xs Z (kc + 1) (ks + N) pc' ls (.ref n :: st) (n + 1) (va_up h n (cO N (vO0 N)))) : XW (x_rm d mc ms) M L xs Z kc ks pc ls (.int (nI N) :: st) n h := xr_newa (a0 := (N, .inl (oF (vO0 N)))) hg (Or.inl rfl) (fun cA => vO0_cell cA N) (fun _ _ => rfl) rfl hN hkc hks k
theorem xn_newL {N : Nat} (hg : x_isnewa M pc pc' 1 .long .long) (hN : N * 8 ≤ 536870912) (hkc : kc + 1 ≤ mc) (hks : ks + N ≤ ms) (k : XW (x_rm d mc ms) M L xs Z (kc + 1) (ks + N) pc' ls (.ref n :: st) (n + 1) (va_up h n (cL N (fun _ => 0)))) : XW (x_rm d mc ms) M L xs Z kc ks pc ls (.int (nI N) :: st) n h := xr_newa (a0 := (N, .inr (.inl fun _ => 0))) hg (Or.inr (Or.inl rfl)) (fun _ => rfl) (fun _ _ => rfl) rfl hN hkc hks k
theorem xn_newB {N : Nat} (hg : x_isnewa M pc pc' 2 .boolean .boolean) (hN : N * 8 ≤ 536870912) (hkc : kc + 1 ≤ mc) (hks : ks + N ≤ ms) (k : XW (x_rm d mc ms) M L xs Z (kc + 1) (ks + N) pc' ls (.ref n :: st) (n + 1) (va_up h n (cB N (fun _ => 0)))) : XW (x_rm d mc ms) M L xs Z kc ks pc ls (.int (nI N) :: st) n h := xr_newa (a0 := (N, .inl (nF fun _ => 0))) hg (Or.inr (Or.inr rfl)) (fun _ => rfl) (fun _ _ => rfl) rfl hN hkc hks k
end XNew
/-- nothing below a has changed -/
def xlo (a : Nat) (h h' : xH) : Prop := ∀ q, q < a → h' q = h q
theorem xlo.rf {a : Nat} {h : xH} : xlo a h h := fun _ _ => rfl
theorem xlo.up {a r : Nat} {h h' : xH} {e : Option va_E} (p : xlo a h h') (hr : a ≤ r) : xlo a h (va_up h' r e) := fun q hq => (up_ne (by omega)).trans (p q hq)
theorem xlo.tr {a b : Nat} {h h1 h2 : xH} (p : xlo a h h1) (q : xlo b h1 h2) (hb : a ≤ b) : xlo a h h2 := fun i hi => (q i (by omega)).trans (p i hi)
theorem xlo.get {a q : Nat} {h h' : xH} {v : Option va_E} (p : xlo a h h') (hq : q < a) (hv : h q = v) : h' q = v := (p q hq).trans hv
theorem xlo.sm {a b c : Nat} {h h' : xH} (p : xlo a h h') (hc : c ≤ a) : xsm b c h h' := fun q _ h2 => p q (by omega)
def qN (m : Nat) (P : xH → Prop) : xQ := fun v n' h' => v = none ∧ m = n' ∧ P h'
def vZ : Nat → Nat := fun _ => 0
section T45
variable {d L : Nat} {xs : Nat → Int32} {h : xH} {r : Nat}
theorem t_AtomList_init {cap : Nat} (p : h r = cJ 3 [.null, .null, .null, .int 0]) (hc : cap < 100) (hd : 1 ≤ d) : XM d 3 (3 * cap) k_AtomList_init L xs [.ref r, .int (nI cap)] (r + 1) h (qN (r + 4) (fun h' => xlo r h h' ∧ isAL h' r cap 0 vZ vZ vZ)) := by
  refine XM.of rfl (Nat.le_of_ble_eq_true rfl) ?_
  refine xr_aload_n a_AtomList_init_0 rfl ?_
  refine xr_objInit a_AtomList_init_1 (by omega) (Nat.le_of_ble_eq_true rfl) ?_
  refine xr_aload_n a_AtomList_init_4 rfl ?_
  refine xr_iload_n a_AtomList_init_5 rfl ?_
  refine xn_newI a_AtomList_init_6 (by omega) (by omega) (by omega) ?_
  apply xr_putf a_AtomList_init_8
  · (repeat' (first | assumption | exact va_up_self _ _ _ | refine x_lk (by omega) ?_))
  · exact Nat.le_of_ble_eq_true rfl
  · rfl
  · rfl
  refine xr_aload_n a_AtomList_init_11 rfl ?_
  refine xr_iload_n a_AtomList_init_12 rfl ?_
  refine xn_newI a_AtomList_init_13 (by omega) (by omega) (by omega) ?_
  apply xr_putf a_AtomList_init_15
  · (repeat' (first | assumption | exact va_up_self _ _ _ | refine x_lk (by omega) ?_))
  · exact Nat.le_of_ble_eq_true rfl
  · rfl
  · rfl
  refine xr_aload_n a_AtomList_init_18 rfl ?_
  refine xr_iload_n a_AtomList_init_19 rfl ?_
  refine xn_newI a_AtomList_init_20 (by omega) (by omega) (by omega) ?_
  apply xr_putf a_AtomList_init_22
  · (repeat' (first | assumption | exact va_up_self _ _ _ | refine x_lk (by omega) ?_))
  · exact Nat.le_of_ble_eq_true rfl
  · rfl
  · rfl
  refine xr_return a_AtomList_init_25 rfl (by omega) (by omega) ?_
  refine ⟨rfl, rfl, ?_, ?_, ?_, ?_, ?_⟩
  · repeat' (first | exact xlo.rf | refine xlo.up ?_ (by omega))
  · repeat' (first | exact x_ls (by omega) | refine x_lk (by omega) ?_ | assumption)
  · repeat' (first | exact x_ls (by omega) | refine x_lk (by omega) ?_ | assumption)
  · repeat' (first | exact x_ls (by omega) | refine x_lk (by omega) ?_ | assumption)
  · repeat' (first | exact x_ls (by omega) | refine x_lk (by omega) ?_ | assumption)
theorem t_Relation_init (p : h r = cJ 9 [.null, .null, .int 0, .int 0, .int 0]) (hd : 1 ≤ d) : XM d 2 16 k_Relation_init L xs [.ref r] (r + 1) h (qN (r + 3) (fun h' => xlo r h h' ∧ isRel h' r 0 vZ vZ 0 0)) := by
  refine XM.of rfl (Nat.le_of_ble_eq_true rfl) ?_
  refine xr_aload_n a_Relation_init_0 rfl ?_
  refine xr_objInit a_Relation_init_1 (by omega) (Nat.le_of_ble_eq_true rfl) ?_
  refine xr_aload_n a_Relation_init_4 rfl ?_
  refine xr_bipush a_Relation_init_5 (v := nI 8) (by decide +kernel) ?_
  refine xn_newI a_Relation_init_7 (by omega) (by omega) (by omega) ?_
  apply xr_putf a_Relation_init_9
  · (repeat' (first | assumption | exact va_up_self _ _ _ | refine x_lk (by omega) ?_))
  · exact Nat.le_of_ble_eq_true rfl
  · rfl
  · rfl
  refine xr_aload_n a_Relation_init_12 rfl ?_
  refine xr_bipush a_Relation_init_13 (v := nI 8) (by decide +kernel) ?_
  refine xn_newI a_Relation_init_15 (by omega) (by omega) (by omega) ?_
  apply xr_putf a_Relation_init_17
  · (repeat' (first | assumption | exact va_up_self _ _ _ | refine x_lk (by omega) ?_))
  · exact Nat.le_of_ble_eq_true rfl
  · rfl
  · rfl
  refine xr_return a_Relation_init_20 rfl (by omega) (by omega) ?_
  refine ⟨rfl, rfl, ?_, ?_, ?_, ?_⟩
  · repeat' (first | exact xlo.rf | refine xlo.up ?_ (by omega))
  · repeat' (first | exact x_ls (by omega) | refine x_lk (by omega) ?_ | assumption)
  · repeat' (first | exact x_ls (by omega) | refine x_lk (by omega) ?_ | assumption)
  · repeat' (first | exact x_ls (by omega) | refine x_lk (by omega) ?_ | assumption)
theorem t_Marks_init {N : Nat} (p : h r = cJ 7 [.null]) (hN : N ≤ 64) (hd : 1 ≤ d) : XM d 1 N k_Marks_init L xs [.ref r, .int (nI (64 * N))] (r + 1) h (qN (r + 2) (fun h' => xlo r h h' ∧ isMk h' r N (fun _ => false))) := by
  refine XM.of rfl (Nat.le_of_ble_eq_true rfl) ?_
  refine xr_aload_n a_Marks_init_0 rfl ?_
  refine xr_objInit a_Marks_init_1 (by omega) (Nat.le_of_ble_eq_true rfl) ?_
  refine xr_aload_n a_Marks_init_4 rfl ?_
  refine xr_iload_n a_Marks_init_5 rfl ?_
  refine xr_bipush a_Marks_init_6 (v := nI 63) (by decide +kernel) ?_
  first | refine xn_iadd a_Marks_init_8 ?_ | refine xr_iadd a_Marks_init_8 ?_
  refine xr_bipush a_Marks_init_9 (v := nI 64) (by decide +kernel) ?_
  refine xn_idiv a_Marks_init_11 (by omega) (by omega) (by omega) ?_
  rw [show (64 * N + 63) / 64 = N by omega]
  refine xn_newL a_Marks_init_12 (by omega) (by omega) (by omega) ?_
  apply xr_putf a_Marks_init_14
  · (repeat' (first | assumption | exact va_up_self _ _ _ | refine x_lk (by omega) ?_))
  · exact Nat.le_of_ble_eq_true rfl
  · rfl
  · rfl
  refine xr_return a_Marks_init_17 rfl (by omega) (by omega) ?_
  refine ⟨rfl, rfl, ?_, ?_, fun _ => 0, ?_, fun k hk => ?_⟩
  · repeat' (first | exact xlo.rf | refine xlo.up ?_ (by omega))
  · repeat' (first | exact x_ls (by omega) | refine x_lk (by omega) ?_ | assumption)
  · repeat' (first | exact x_ls (by omega) | refine x_lk (by omega) ?_ | assumption)
  · exact bt_zero.mp rfl _ (by omega)
def vImN (fx i : Nat) : Nat → Option Nat := fun t => if t < i then (if t < fx then some t else none) else if t < 34 then some 0 else none
theorem vImN_s (fx i : Nat) : va_up (vImN fx i) i (if i < fx then some i else none) = vImN fx (i + 1) := by
  funext t
  unfold va_up
  by_cases h : t = i
  · rw [if_pos h]
    show _ = if t < i + 1 then (if t < fx then some t else none) else if t < 34 then some 0 else none
    rw [if_pos (show t < i + 1 by omega), h]
  · rw [if_neg h]
    show (if t < i then (if t < fx then some t else none) else if t < 34 then some 0 else none) = if t < i + 1 then (if t < fx then some t else none) else if t < 34 then some 0 else none
    by_cases h2 : t < i
    · rw [if_pos h2, if_pos (show t < i + 1 by omega)]
    · rw [if_neg h2, if_neg (show ¬ t < i + 1 by omega)]
theorem vImN_e (fx t : Nat) (hfx : fx ≤ 34) : vImN fx 34 t = if t < fx then some t else none := by
  unfold vImN
  by_cases h : t < 34
  · rw [if_pos h]
  · rw [if_neg h, if_neg h, if_neg (show ¬ t < fx by omega)]
theorem vImN_18 : vImN 18 34 = vIm0 := funext fun t => vImN_e 18 t (by omega)
theorem vImN_16 : vImN 16 34 = vVal0 := funext fun t => vImN_e 16 t (by omega)
theorem t_Images_init {fx : Nat} (p : h r = cJ 5 [.null]) (hfx : fx < 34) (hd : 1 ≤ d) : XM d 1 34 k_Images_init L xs [.ref r, .int (nI fx)] (r + 1) h (qN (r + 2) (fun h' => xlo r h h' ∧ isIm h' r (vImN fx 34))) := by
  refine XM.of rfl (Nat.le_of_ble_eq_true rfl) ?_
  have loop : ∀ k i, i + k = 34 → ∀ h' : xH, xlo r h h' → h' r = cJ 5 [.ref (r + 1)] → h' (r + 1) = cO 34 (vImN fx i) → XW (x_rm d 1 34) k_Images_init L xs (x_mq 1 34 (qN (r + 2) (fun h' => xlo r h h' ∧ isIm h' r (vImN fx 34)))) 1 34 14 [(0, .ref r), (1, .int (nI fx)), (2, .int (nI i))] [] (r + 2) h' := by
    intro k
    induction k with
    | zero =>
      intro i hi h' f1 q1 q2
      have e : i = 34 := by omega
      subst e
      refine xr_iload_n a_Images_init_14 rfl ?_
      refine xr_bipush a_Images_init_15 (v := nI 34) (by decide +kernel) ?_
      refine xn_icmp_ge a_Images_init_17 (by omega) (by omega) (fun b17 => ?_) (fun b17 => ?_)
      · refine xr_return a_Images_init_42 rfl (by omega) (by omega) ?_
        exact ⟨rfl, rfl, f1, q1, q2⟩
      · omega
    | succ k ih =>
      intro i hi h' f1 q1 q2
      refine xr_iload_n a_Images_init_14 rfl ?_
      refine xr_bipush a_Images_init_15 (v := nI 34) (by decide +kernel) ?_
      refine xn_icmp_ge a_Images_init_17 (by omega) (by omega) (fun b17 => ?_) (fun b17 => ?_)
      · omega
      · refine xr_aload_n a_Images_init_20 rfl ?_
        apply xr_getf a_Images_init_21
        · (repeat' (first | assumption | exact va_up_self _ _ _ | refine x_lk (by omega) ?_))
        · rfl
        refine xr_iload_n a_Images_init_24 rfl ?_
        refine xr_iload_n a_Images_init_25 rfl ?_
        refine xr_iload_n a_Images_init_26 rfl ?_
        refine xn_icmp_ge a_Images_init_27 (by omega) (by omega) (fun b27 => ?_) (fun b27 => ?_)
        · refine xr_iconst a_Images_init_34 (v := -1) (by decide +kernel) ?_
          apply xo_iastore (o := none) a_Images_init_35
          · (repeat' (first | assumption | exact va_up_self _ _ _ | refine x_lk (by omega) ?_))
          · exact rfl
          · omega
          · omega
          first | refine xn_iinc a_Images_init_36 rfl (by decide) rfl ?_ | refine xr_iinc a_Images_init_36 rfl rfl (by decide) rfl ?_
          refine xr_goto a_Images_init_39 ?_
          refine xr_ls [(0, .ref r), (1, .int (nI fx)), (2, .int (nI (i + 1)))] ⟨rfl, rfl, rfl, trivial⟩ ?_
          refine ih (i + 1) (by omega) _ (f1.up (by omega)) (x_lk (by omega) q1) ?_
          rw [← vImN_s, if_neg (by omega)]
          exact up_self _ _ _
        · refine xr_iload_n a_Images_init_30 rfl ?_
          refine xr_goto a_Images_init_31 ?_
          apply xo_iastore (o := some i) a_Images_init_35
          · (repeat' (first | assumption | exact va_up_self _ _ _ | refine x_lk (by omega) ?_))
          · exact rfl
          · omega
          · omega
          first | refine xn_iinc a_Images_init_36 rfl (by decide) rfl ?_ | refine xr_iinc a_Images_init_36 rfl rfl (by decide) rfl ?_
          refine xr_goto a_Images_init_39 ?_
          refine xr_ls [(0, .ref r), (1, .int (nI fx)), (2, .int (nI (i + 1)))] ⟨rfl, rfl, rfl, trivial⟩ ?_
          refine ih (i + 1) (by omega) _ (f1.up (by omega)) (x_lk (by omega) q1) ?_
          rw [← vImN_s, if_pos (by omega)]
          exact up_self _ _ _
  refine xr_aload_n a_Images_init_0 rfl ?_
  refine xr_objInit a_Images_init_1 (by omega) (Nat.le_of_ble_eq_true rfl) ?_
  refine xr_aload_n a_Images_init_4 rfl ?_
  refine xr_bipush a_Images_init_5 (v := nI 34) (by decide +kernel) ?_
  refine xn_newO a_Images_init_7 (by omega) (by omega) (by omega) ?_
  apply xr_putf a_Images_init_9
  · (repeat' (first | assumption | exact va_up_self _ _ _ | refine x_lk (by omega) ?_))
  · exact Nat.le_of_ble_eq_true rfl
  · rfl
  · rfl
  refine xr_iconst a_Images_init_12 (v := nI 0) (by decide +kernel) ?_
  refine xr_istore_n a_Images_init_13 (by decide) rfl ?_
  refine xr_ls [(0, .ref r), (1, .int (nI fx)), (2, .int (nI 0))] ⟨rfl, rfl, rfl, trivial⟩ ?_
  refine loop 34 0 (by omega) _ ?_ ?_ ?_
  · repeat' (first | exact xlo.rf | refine xlo.up ?_ (by omega))
  · repeat' (first | exact x_ls (by omega) | refine x_lk (by omega) ?_ | assumption)
  · repeat' (first | exact x_ls (by omega) | refine x_lk (by omega) ?_ | assumption)
end T45

