/-! the reference: order -/
theorem vB_bool {p : Prop} {b : Bool} (h : b = true ↔ p) : vB p = b.toNat := by
  cases b with
  | true => exact vB_t (h.mp rfl)
  | false => exact vB_f (fun z => by cases h.mpr z)
def vSr (f : Nat → Nat) (a b : Nat) : Nat → Nat := fun i => if a < i ∧ i ≤ b then f (i - 1) else f i
theorem vSr_0 (f : Nat → Nat) (b : Nat) : vSr f b b = f := funext fun i => if_neg (by omega)
theorem vSr_s (f : Nat → Nat) {a b : Nat} (h : a + 1 ≤ b) : va_up (vSr f (a + 1) b) (a + 1) (vSr f (a + 1) b a) = vSr f a b := by
  have e : vSr f (a + 1) b a = f a := if_neg (by omega)
  rw [e]
  funext i
  unfold va_up
  show (if i = a + 1 then f a else if a + 1 < i ∧ i ≤ b then f (i - 1) else f i) = if a < i ∧ i ≤ b then f (i - 1) else f i
  by_cases h1 : i = a + 1
  · rw [if_pos h1, if_pos (by omega)]
    exact congrArg f (by omega)
  · rw [if_neg h1]
    by_cases h2 : a + 1 < i ∧ i ≤ b
    · rw [if_pos h2, if_pos (by omega)]
    · rw [if_neg h2, if_neg (by omega)]
theorem vSr_back (f : Nat → Nat) {b k x j : Nat} (hk : k ≤ x) : va_up (vSr f (b + k) (b + x)) (b + k) (f (b + x)) (b + j) = vBack (fun i => f (b + i)) k (x - k) j := by
  rw [vBack_at, show k + (x - k) = x by omega]
  by_cases h1 : j < k
  · rw [if_pos h1, up_ne (by omega)]
    exact if_neg (by omega)
  · rw [if_neg h1]
    by_cases h2 : j = k
    · rw [if_pos h2, h2, up_self]
    · rw [if_neg h2, up_ne (by omega)]
      by_cases h3 : j ≤ x
      · rw [if_pos h3]
        show (if b + k < b + j ∧ b + j ≤ b + x then f (b + j - 1) else f (b + j)) = _
        rw [if_pos (by omega)]
        exact congrArg f (by omega)
      · rw [if_neg h3]
        exact if_neg (by omega)
theorem vSr_out (f : Nat → Nat) {a b i : Nat} (h : i ≤ a ∨ b < i) : vSr f a b i = f i := if_neg (by omega)
section T69c
variable {d L : Nat} {xs : Nat → Int32} {n : Nat} {h : xH} {m : Nat} {as ma stk ne rq tr : Nat} {sz lR lA lB pa : Nat → Nat} {pk md : Nat → Option Nat} {al : Nat → Nat}
theorem t_Mod_order {dd : Nat} {l : List vA} (p0 : h m = cM m as ma stk ne rq tr) (hs : stk < 2) (c0 : h (m + 4) = cI 4 pa) (p : moL h m sz lR lA lB pk) (pm : h (m + 18) = cO 48 md) (hl : moD l dd sz lR lA lB) (hdd : dd < 8) (h6 : l.length ≤ 6) (hb : vBdL l) (hal : ∀ r, r < 4 → pa r = al r ∧ al r < 16) (hd : 2 ≤ d) : XM d 0 0 k_Mod_order L xs [.ref m, .int (nI dd)] n h (qV n (fun h' => xfr2 m (m + 1) (m + 14) (m + 19) h h' ∧ h' m = cM m as ma (vB (0 < stk ∨ (vOrd al l.length 0 l (fun _ => none)).2.2 = true)) ne rq tr ∧ ∃ lR' lA' lB' md', moL h' m sz lR' lA' lB' pk ∧ h' (m + 18) = cO 48 md' ∧ moD (vOrd al l.length 0 l (fun _ => none)).1 dd sz lR' lA' lB' ∧ (∀ k, k < l.length → md' (6 * dd + k) = (vOrd al l.length 0 l (fun _ => none)).2.1 k) ∧ ∀ i, (i < 6 * dd ∨ 6 * dd + 6 ≤ i) → lR' i = lR i ∧ lA' i = lA i ∧ lB' i = lB i ∧ md' i = md i)) := by
  refine XM.of rfl (Nat.le_of_ble_eq_true rfl) ?_
  have fin : ∀ (mo k : Nat) (h' : xH) (lR' lA' lB' : Nat → Nat) (md' : Nat → Option Nat), mo < 2 → ((vOrd al l.length 0 l (fun _ => none)).2.2 = true ↔ mo = 0) → xfr (m + 14) (m + 19) h h' → moL h' m sz lR' lA' lB' pk → h' (m + 18) = cO 48 md' → moD (vOrd al l.length 0 l (fun _ => none)).1 dd sz lR' lA' lB' → (∀ k, k < l.length → md' (6 * dd + k) = (vOrd al l.length 0 l (fun _ => none)).2.1 k) → (∀ i, (i < 6 * dd ∨ 6 * dd + 6 ≤ i) → lR' i = lR i ∧ lA' i = lA i ∧ lB' i = lB i ∧ md' i = md i) → XW (x_rm d 0 0) k_Mod_order L xs (x_mq 0 0 (qV n (fun h' => xfr2 m (m + 1) (m + 14) (m + 19) h h' ∧ h' m = cM m as ma (vB (0 < stk ∨ (vOrd al l.length 0 l (fun _ => none)).2.2 = true)) ne rq tr ∧ ∃ lR' lA' lB' md', moL h' m sz lR' lA' lB' pk ∧ h' (m + 18) = cO 48 md' ∧ moD (vOrd al l.length 0 l (fun _ => none)).1 dd sz lR' lA' lB' ∧ (∀ k, k < l.length → md' (6 * dd + k) = (vOrd al l.length 0 l (fun _ => none)).2.1 k) ∧ ∀ i, (i < 6 * dd ∨ 6 * dd + 6 ≤ i) → lR' i = lR i ∧ lA' i = lA i ∧ lB' i = lB i ∧ md' i = md i))) 0 0 242 [(0, .ref m), (1, .int (nI dd)), (2, .int (nI mo)), (3, .int (nI k))] [] n h' := by
    intro mo k h' lR' lA' lB' md' hmo hO f1 z zm q1 q2 q3
    have p0' := (f1 m (by omega)).trans p0
    obtain ⟨t0, t1, t2, t3, t4⟩ := z
    have done : ∀ s, s = vB (0 < stk ∨ (vOrd al l.length 0 l (fun _ => none)).2.2 = true) → s < 2 → XW (x_rm d 0 0) k_Mod_order L xs (x_mq 0 0 (qV n (fun h' => xfr2 m (m + 1) (m + 14) (m + 19) h h' ∧ h' m = cM m as ma (vB (0 < stk ∨ (vOrd al l.length 0 l (fun _ => none)).2.2 = true)) ne rq tr ∧ ∃ lR' lA' lB' md', moL h' m sz lR' lA' lB' pk ∧ h' (m + 18) = cO 48 md' ∧ moD (vOrd al l.length 0 l (fun _ => none)).1 dd sz lR' lA' lB' ∧ (∀ k, k < l.length → md' (6 * dd + k) = (vOrd al l.length 0 l (fun _ => none)).2.1 k) ∧ ∀ i, (i < 6 * dd ∨ 6 * dd + 6 ≤ i) → lR' i = lR i ∧ lA' i = lA i ∧ lB' i = lB i ∧ md' i = md i))) 0 0 259 [(0, .ref m)] [.int (nI s), .ref m] n h' := by
      intro s e hs2
      apply xm_stuck a_Mod_order_259
      · (repeat' (first | assumption | exact va_up_self _ _ _ | refine x_lk (by omega) ?_))
      · omega
      refine xr_return a_Mod_order_262 rfl (by omega) (by omega) ?_
      refine ⟨rfl, rfl, fun x g1 g2 => (up_ne (by omega)).trans (f1 x (by omega)), by rw [up_self, e], lR', lA', lB', md', ⟨x_lk (by omega) t0, x_lk (by omega) t1, x_lk (by omega) t2, x_lk (by omega) t3, x_lk (by omega) t4⟩, x_lk (by omega) zm, q1, q2, q3⟩
    refine xr_aload_n a_Mod_order_242 rfl ?_
    refine xr_aload_n a_Mod_order_243 rfl ?_
    apply xr_getf a_Mod_order_244
    · (repeat' (first | assumption | exact va_up_self _ _ _ | refine x_lk (by omega) ?_))
    · rfl
    refine xn_if_ne a_Mod_order_247 (by omega) (fun b247 => ?_) (fun b247 => ?_)
    · refine xr_iconst a_Mod_order_254 (v := nI 1) (by decide +kernel) ?_
      refine xr_goto a_Mod_order_255 ?_
      refine xr_ls [(0, .ref m)] ⟨rfl, trivial⟩ ?_
      exact done 1 (by rw [vB_t (Or.inl b247)]) (by omega)
    · refine xr_iload_n a_Mod_order_250 rfl ?_
      refine xn_if_ne a_Mod_order_251 (by omega) (fun b251 => ?_) (fun b251 => ?_)
      · refine xr_iconst a_Mod_order_258 (v := nI 0) (by decide +kernel) ?_
        refine xr_ls [(0, .ref m)] ⟨rfl, trivial⟩ ?_
        exact done 0 (by rw [vB_f (fun w => w.elim (fun w => by omega) (fun w => by have := hO.mp w; omega))]) (by omega)
      · refine xr_iconst a_Mod_order_254 (v := nI 1) (by decide +kernel) ?_
        refine xr_goto a_Mod_order_255 ?_
        refine xr_ls [(0, .ref m)] ⟨rfl, trivial⟩ ?_
        exact done 1 (by rw [vB_t (Or.inr (hO.mpr b251))]) (by omega)
  have blk : (vOrd al l.length 0 l (fun _ => none)).2.2 = true → ∀ (f k : Nat) (h' : xH) (lR' lA' lB' : Nat → Nat) (md' : Nat → Option Nat), k + f = l.length → xfr (m + 14) (m + 19) h h' → moL h' m sz lR' lA' lB' pk → h' (m + 18) = cO 48 md' → moD (vOrd al l.length 0 l (fun _ => none)).1 dd sz lR' lA' lB' → (vOrd al l.length 0 l (fun _ => none)).1.length = l.length → (∀ j, j < k → md' (6 * dd + j) = (vOrd al l.length 0 l (fun _ => none)).2.1 j) → (∀ j, k ≤ j → (vOrd al l.length 0 l (fun _ => none)).2.1 j = none) → (∀ i, (i < 6 * dd ∨ 6 * dd + 6 ≤ i) → lR' i = lR i ∧ lA' i = lA i ∧ lB' i = lB i ∧ md' i = md i) → XW (x_rm d 0 0) k_Mod_order L xs (x_mq 0 0 (qV n (fun h' => xfr2 m (m + 1) (m + 14) (m + 19) h h' ∧ h' m = cM m as ma (vB (0 < stk ∨ (vOrd al l.length 0 l (fun _ => none)).2.2 = true)) ne rq tr ∧ ∃ lR' lA' lB' md', moL h' m sz lR' lA' lB' pk ∧ h' (m + 18) = cO 48 md' ∧ moD (vOrd al l.length 0 l (fun _ => none)).1 dd sz lR' lA' lB' ∧ (∀ k, k < l.length → md' (6 * dd + k) = (vOrd al l.length 0 l (fun _ => none)).2.1 k) ∧ ∀ i, (i < 6 * dd ∨ 6 * dd + 6 ≤ i) → lR' i = lR i ∧ lA' i = lA i ∧ lB' i = lB i ∧ md' i = md i))) 0 0 4 [(0, .ref m), (1, .int (nI dd)), (2, .int (nI 0)), (3, .int (nI k))] [] n h' := by
    intro hO f
    induction f with
    | zero =>
      intro k h' lR' lA' lB' md' hk f1 z zm q1 ql q2 q4 q3
      have p0' := (f1 m (by omega)).trans p0
      have z' := z
      obtain ⟨t0, t1, t2, t3, t4⟩ := z'
      have es : sz dd = l.length := q1.1.trans ql
      refine xr_iload_n a_Mod_order_4 rfl ?_
      refine xr_aload_n a_Mod_order_5 rfl ?_
      apply xr_getf a_Mod_order_6
      · (repeat' (first | assumption | exact va_up_self _ _ _ | refine x_lk (by omega) ?_))
      · rfl
      refine xr_iload_n a_Mod_order_9 rfl ?_
      apply xn_iaload a_Mod_order_10
      · (repeat' (first | assumption | exact va_up_self _ _ _ | refine x_lk (by omega) ?_))
      · omega
      · omega
      refine xn_icmp_ge a_Mod_order_11 (by omega) (by omega) (fun b11 => ?_) (fun b11 => ?_)
      · refine xr_ls [(0, .ref m), (1, .int (nI dd)), (2, .int (nI 0)), (3, .int (nI k))] ⟨rfl, rfl, rfl, rfl, trivial⟩ ?_
        exact fin 0 k h' lR' lA' lB' md' (by omega) ⟨fun _ => rfl, fun _ => hO⟩ f1 z zm q1 (fun j hj => q2 j (by omega)) q3
      · omega
    | succ f ih =>
      intro k h' lR' lA' lB' md' hk f1 z zm q1 ql q2 q4 q3
      have p0' := (f1 m (by omega)).trans p0
      have z' := z
      obtain ⟨t0, t1, t2, t3, t4⟩ := z'
      have es : sz dd = l.length := q1.1.trans ql
      refine xr_iload_n a_Mod_order_4 rfl ?_
      refine xr_aload_n a_Mod_order_5 rfl ?_
      apply xr_getf a_Mod_order_6
      · (repeat' (first | assumption | exact va_up_self _ _ _ | refine x_lk (by omega) ?_))
      · rfl
      refine xr_iload_n a_Mod_order_9 rfl ?_
      apply xn_iaload a_Mod_order_10
      · (repeat' (first | assumption | exact va_up_self _ _ _ | refine x_lk (by omega) ?_))
      · omega
      · omega
      refine xn_icmp_ge a_Mod_order_11 (by omega) (by omega) (fun b11 => ?_) (fun b11 => ?_)
      · omega
      · refine xr_iload_n a_Mod_order_14 rfl ?_
        refine xr_istore a_Mod_order_15 (by decide) rfl ?_
        refine xr_iload_n a_Mod_order_17 rfl ?_
        refine xn_if_eq a_Mod_order_18 (by omega) (fun b18 => ?_) (fun b18 => ?_)
        · refine xr_iload_n a_Mod_order_54 rfl ?_
          refine xn_if_eq a_Mod_order_55 (by omega) (fun b55 => ?_) (fun b55 => ?_)
          · refine xr_iconst a_Mod_order_73 (v := nI 0) (by decide +kernel) ?_
            refine xr_istore_n a_Mod_order_74 (by decide) rfl ?_
            refine xr_aload_n a_Mod_order_75 rfl ?_
            apply xr_getf a_Mod_order_76
            · (repeat' (first | assumption | exact va_up_self _ _ _ | refine x_lk (by omega) ?_))
            · rfl
            refine xr_bipush a_Mod_order_79 (v := nI 6) (by decide +kernel) ?_
            refine xr_iload_n a_Mod_order_81 rfl ?_
            first | refine xn_imul a_Mod_order_82 ?_ | refine xr_imul a_Mod_order_82 ?_
            refine xr_iload_n a_Mod_order_83 rfl ?_
            first | refine xn_iadd a_Mod_order_84 ?_ | refine xr_iadd a_Mod_order_84 ?_
            refine xr_iconst a_Mod_order_85 (v := -1) (by decide +kernel) ?_
            apply xo_iastore (o := none) a_Mod_order_86
            · (repeat' (first | assumption | exact va_up_self _ _ _ | refine x_lk (by omega) ?_))
            · exact rfl
            · omega
            · omega
            refine xr_iload_n a_Mod_order_87 rfl ?_
            refine xn_if_eq a_Mod_order_88 (by omega) (fun b88 => ?_) (fun b88 => ?_)
            · first | refine xn_iinc a_Mod_order_236 rfl (by decide) rfl ?_ | refine xr_iinc a_Mod_order_236 rfl rfl (by decide) rfl ?_
              refine xr_goto a_Mod_order_239 ?_
              refine xr_ls [(0, .ref m), (1, .int (nI dd)), (2, .int (nI 0)), (3, .int (nI (k + 1)))] ⟨rfl, rfl, rfl, rfl, trivial⟩ ?_
              refine ih (k + 1) _ lR' lA' lB' _ (by omega) (f1.up (by omega) (by omega)) ⟨x_lk (by omega) t0, x_lk (by omega) t1, x_lk (by omega) t2, x_lk (by omega) t3, x_lk (by omega) t4⟩ (up_self _ _ _) q1 ql (fun j hj => ?_) (fun j hj => q4 j (by omega)) (fun i hi => ?_)
              · by_cases ej : j = k
                · rw [ej, up_self, q4 k (Nat.le_refl _)]
                · rw [up_ne (by omega)]; exact q2 j (by omega)
              · rw [up_ne (by omega)]; exact q3 i hi
            · omega
          · omega
        · omega
  have loop : ∀ (f k : Nat) (l' : List vA) (pt : Nat → Option Nat) (h' : xH) (lR' lA' lB' : Nat → Nat) (md' : Nat → Option Nat), k + f = l.length → l'.length = l.length → vBdL l' → vOrd al f k l' pt = (vOrd al l.length 0 l (fun _ => none)) → xfr (m + 14) (m + 19) h h' → moL h' m sz lR' lA' lB' pk → h' (m + 18) = cO 48 md' → moD l' dd sz lR' lA' lB' → (∀ j, j < k → md' (6 * dd + j) = pt j) → (∀ j, k ≤ j → pt j = none) → (∀ i, (i < 6 * dd ∨ 6 * dd + 6 ≤ i) → lR' i = lR i ∧ lA' i = lA i ∧ lB' i = lB i ∧ md' i = md i) → XW (x_rm d 0 0) k_Mod_order L xs (x_mq 0 0 (qV n (fun h' => xfr2 m (m + 1) (m + 14) (m + 19) h h' ∧ h' m = cM m as ma (vB (0 < stk ∨ (vOrd al l.length 0 l (fun _ => none)).2.2 = true)) ne rq tr ∧ ∃ lR' lA' lB' md', moL h' m sz lR' lA' lB' pk ∧ h' (m + 18) = cO 48 md' ∧ moD (vOrd al l.length 0 l (fun _ => none)).1 dd sz lR' lA' lB' ∧ (∀ k, k < l.length → md' (6 * dd + k) = (vOrd al l.length 0 l (fun _ => none)).2.1 k) ∧ ∀ i, (i < 6 * dd ∨ 6 * dd + 6 ≤ i) → lR' i = lR i ∧ lA' i = lA i ∧ lB' i = lB i ∧ md' i = md i))) 0 0 4 [(0, .ref m), (1, .int (nI dd)), (2, .int (nI 1)), (3, .int (nI k))] [] n h' := by
    intro f
    induction f with
    | zero =>
      intro k l' pt h' lR' lA' lB' md' hk ql qb qO f1 z zm q1 q2 q4 q3
      have p0' := (f1 m (by omega)).trans p0
      have z' := z
      obtain ⟨t0, t1, t2, t3, t4⟩ := z'
      have es : sz dd = l.length := q1.1.trans ql
      have qO' : (l', pt, false) = (vOrd al l.length 0 l (fun _ => none)) := qO
      refine xr_iload_n a_Mod_order_4 rfl ?_
      refine xr_aload_n a_Mod_order_5 rfl ?_
      apply xr_getf a_Mod_order_6
      · (repeat' (first | assumption | exact va_up_self _ _ _ | refine x_lk (by omega) ?_))
      · rfl
      refine xr_iload_n a_Mod_order_9 rfl ?_
      apply xn_iaload a_Mod_order_10
      · (repeat' (first | assumption | exact va_up_self _ _ _ | refine x_lk (by omega) ?_))
      · omega
      · omega
      refine xn_icmp_ge a_Mod_order_11 (by omega) (by omega) (fun b11 => ?_) (fun b11 => ?_)
      · refine xr_ls [(0, .ref m), (1, .int (nI dd)), (2, .int (nI 1)), (3, .int (nI k))] ⟨rfl, rfl, rfl, rfl, trivial⟩ ?_
        exact fin 1 k h' lR' lA' lB' md' (by omega) (by rw [← qO']; exact ⟨fun w => (by cases w), fun w => (by cases w)⟩) f1 z zm (by rw [← qO']; exact q1) (by rw [← qO']; exact fun j hj => q2 j (by omega)) q3
      · omega
    | succ f ih =>
      intro k l' pt h' lR' lA' lB' md' hk ql qb qO f1 z zm q1 q2 q4 q3
      have p0' := (f1 m (by omega)).trans p0
      have c0' := (f1 (m + 4) (by omega)).trans c0
      have z' := z
      obtain ⟨t0, t1, t2, t3, t4⟩ := z'
      have es : sz dd = l.length := q1.1.trans ql
      have bd : ∀ j, j < l.length → lR' (6 * dd + j) < 4 ∧ lA' (6 * dd + j) < 34 ∧ lB' (6 * dd + j) < 34 := fun j hj => qb.at q1.2 (by omega)
      have kt : ∀ t, vB (vKt dd k lA' lB' t) = (vKn l' k t).toNat := fun t => vB_bool (vKn_iff q1.2 (by omega))
      have eb : ∀ x, x < l.length → vBest (pa (lR' (6 * dd + x))) (vB (vKt dd k lA' lB' (lA' (6 * dd + x))) + 2 * vB (vKt dd k lA' lB' (lB' (6 * dd + x)))) = vBst al l' k (vAt l' x) := by
        intro x hx
        rw [q1.2.vat (by omega), kt, kt, (hal _ (bd x hx).1).1]
        rfl
      have cB : ∀ (x : Nat) (h2 : xH), x < l.length → h2 m = cM m as ma stk ne rq tr → h2 (m + 4) = cI 4 pa → h2 (m + 15) = cI 48 lR' → h2 (m + 16) = cI 48 lA' → h2 (m + 17) = cI 48 lB' → XM 1 0 0 k_Mod_best L xs [.ref m, .int (nI dd), .int (nI k), .int (nI (6 * dd + x))] n h2 (qR n h2 (oI (vBst al l' k (vAt l' x)))) := by
        intro x h2 hx w0 w1 w2 w3 w4
        obtain ⟨b1, b2, b3⟩ := bd x hx
        have := t_Mod_best (d := 1) (L := L) (xs := xs) (n := n) (u := k) (a := 6 * dd + x) w0 w1 w2 w3 w4 hdd (by omega) (by omega) b1 (by rw [(hal _ b1).1]; exact (hal _ b1).2) ⟨by omega, by omega⟩ (fun j hj => by have := bd j (by omega); exact ⟨by omega, by omega⟩) (by omega)
        rw [eb x hx] at this
        exact this
      rw [vOrd_s] at qO
      have search : ∀ u x, x + u = l.length → k ≤ x → rF (fun i => (vBst al l' k (vAt l' i)).isSome) x u = vNext al l' k → XW (x_rm d 0 0) k_Mod_order L xs (x_mq 0 0 (qV n (fun h' => xfr2 m (m + 1) (m + 14) (m + 19) h h' ∧ h' m = cM m as ma (vB (0 < stk ∨ (vOrd al l.length 0 l (fun _ => none)).2.2 = true)) ne rq tr ∧ ∃ lR' lA' lB' md', moL h' m sz lR' lA' lB' pk ∧ h' (m + 18) = cO 48 md' ∧ moD (vOrd al l.length 0 l (fun _ => none)).1 dd sz lR' lA' lB' ∧ (∀ k, k < l.length → md' (6 * dd + k) = (vOrd al l.length 0 l (fun _ => none)).2.1 k) ∧ ∀ i, (i < 6 * dd ∨ 6 * dd + 6 ≤ i) → lR' i = lR i ∧ lA' i = lA i ∧ lB' i = lB i ∧ md' i = md i))) 0 0 17 [(0, .ref m), (1, .int (nI dd)), (2, .int (nI 1)), (3, .int (nI k)), (4, .int (nI x))] [] n h' := by
        intro u
        induction u with
        | zero =>
          intro x hx hkx hF
          have hN : vNext al l' k = none := hF.symm
          rw [hN] at qO
          have qO' : (l', pt, true) = (vOrd al l.length 0 l (fun _ => none)) := qO
          refine xr_iload_n a_Mod_order_17 rfl ?_
          refine xn_if_eq a_Mod_order_18 (by omega) (fun b18 => ?_) (fun b18 => ?_)
          · omega
          · refine xr_iload a_Mod_order_21 rfl ?_
            refine xr_aload_n a_Mod_order_23 rfl ?_
            apply xr_getf a_Mod_order_24
            · (repeat' (first | assumption | exact va_up_self _ _ _ | refine x_lk (by omega) ?_))
            · rfl
            refine xr_iload_n a_Mod_order_27 rfl ?_
            apply xn_iaload a_Mod_order_28
            · (repeat' (first | assumption | exact va_up_self _ _ _ | refine x_lk (by omega) ?_))
            · omega
            · omega
            refine xn_icmp_ge a_Mod_order_29 (by omega) (by omega) (fun b29 => ?_) (fun b29 => ?_)
            · refine xr_iload_n a_Mod_order_54 rfl ?_
              refine xn_if_eq a_Mod_order_55 (by omega) (fun b55 => ?_) (fun b55 => ?_)
              · omega
              · refine xr_iload a_Mod_order_58 rfl ?_
                refine xr_aload_n a_Mod_order_60 rfl ?_
                apply xr_getf a_Mod_order_61
                · (repeat' (first | assumption | exact va_up_self _ _ _ | refine x_lk (by omega) ?_))
                · rfl
                refine xr_iload_n a_Mod_order_64 rfl ?_
                apply xn_iaload a_Mod_order_65
                · (repeat' (first | assumption | exact va_up_self _ _ _ | refine x_lk (by omega) ?_))
                · omega
                · omega
                refine xn_icmp_ge a_Mod_order_66 (by omega) (by omega) (fun b66 => ?_) (fun b66 => ?_)
                · refine xr_iconst a_Mod_order_73 (v := nI 0) (by decide +kernel) ?_
                  refine xr_istore_n a_Mod_order_74 (by decide) rfl ?_
                  refine xr_aload_n a_Mod_order_75 rfl ?_
                  apply xr_getf a_Mod_order_76
                  · (repeat' (first | assumption | exact va_up_self _ _ _ | refine x_lk (by omega) ?_))
                  · rfl
                  refine xr_bipush a_Mod_order_79 (v := nI 6) (by decide +kernel) ?_
                  refine xr_iload_n a_Mod_order_81 rfl ?_
                  first | refine xn_imul a_Mod_order_82 ?_ | refine xr_imul a_Mod_order_82 ?_
                  refine xr_iload_n a_Mod_order_83 rfl ?_
                  first | refine xn_iadd a_Mod_order_84 ?_ | refine xr_iadd a_Mod_order_84 ?_
                  refine xr_iconst a_Mod_order_85 (v := -1) (by decide +kernel) ?_
                  apply xo_iastore (o := none) a_Mod_order_86
                  · (repeat' (first | assumption | exact va_up_self _ _ _ | refine x_lk (by omega) ?_))
                  · exact rfl
                  · omega
                  · omega
                  refine xr_iload_n a_Mod_order_87 rfl ?_
                  refine xn_if_eq a_Mod_order_88 (by omega) (fun b88 => ?_) (fun b88 => ?_)
                  · first | refine xn_iinc a_Mod_order_236 rfl (by decide) rfl ?_ | refine xr_iinc a_Mod_order_236 rfl rfl (by decide) rfl ?_
                    refine xr_goto a_Mod_order_239 ?_
                    refine xr_ls [(0, .ref m), (1, .int (nI dd)), (2, .int (nI 0)), (3, .int (nI (k + 1)))] ⟨rfl, rfl, rfl, rfl, trivial⟩ ?_
                    refine blk (by rw [← qO']) f (k + 1) _ lR' lA' lB' _ (by omega) (f1.up (by omega) (by omega)) ⟨x_lk (by omega) t0, x_lk (by omega) t1, x_lk (by omega) t2, x_lk (by omega) t3, x_lk (by omega) t4⟩ (up_self _ _ _) (by rw [← qO']; exact q1) (by rw [← qO']; exact ql) (by
                      rw [← qO']
                      intro j hj
                      show _ = pt j
                      by_cases ej : j = k
                      · rw [ej, up_self, q4 k (Nat.le_refl _)]
                      · rw [up_ne (by omega)]; exact q2 j (by omega)) (by rw [← qO']; exact fun j hj => q4 j (by omega)) (fun i hi => by rw [up_ne (by omega)]; exact q3 i hi)
                  · omega
                · omega
            · omega
        | succ u ihu =>
          intro x hx hkx hF
          have c1 := cB x h' (by omega) p0' c0' t1 t2 t3
          refine xr_iload_n a_Mod_order_17 rfl ?_
          refine xn_if_eq a_Mod_order_18 (by omega) (fun b18 => ?_) (fun b18 => ?_)
          · omega
          · refine xr_iload a_Mod_order_21 rfl ?_
            refine xr_aload_n a_Mod_order_23 rfl ?_
            apply xr_getf a_Mod_order_24
            · (repeat' (first | assumption | exact va_up_self _ _ _ | refine x_lk (by omega) ?_))
            · rfl
            refine xr_iload_n a_Mod_order_27 rfl ?_
            apply xn_iaload a_Mod_order_28
            · (repeat' (first | assumption | exact va_up_self _ _ _ | refine x_lk (by omega) ?_))
            · omega
            · omega
            refine xn_icmp_ge a_Mod_order_29 (by omega) (by omega) (fun b29 => ?_) (fun b29 => ?_)
            · omega
            · cases hv : vBst al l' k (vAt l' x) with
              | none =>
                rw [hv] at c1
                refine xr_aload_n a_Mod_order_32 rfl ?_
                refine xr_iload_n a_Mod_order_33 rfl ?_
                refine xr_iload_n a_Mod_order_34 rfl ?_
                refine xr_bipush a_Mod_order_35 (v := nI 6) (by decide +kernel) ?_
                refine xr_iload_n a_Mod_order_37 rfl ?_
                first | refine xn_imul a_Mod_order_38 ?_ | refine xr_imul a_Mod_order_38 ?_
                refine xr_iload a_Mod_order_39 rfl ?_
                first | refine xn_iadd a_Mod_order_41 ?_ | refine xr_iadd a_Mod_order_41 ?_
                refine xr_invV a_Mod_order_42 (by (repeat' (first | assumption | exact va_up_self _ _ _ | refine x_lk (by omega) ?_))) (c1) rfl rfl (by omega) (by omega) (by omega) (Nat.le_of_ble_eq_true rfl) ?_
                rintro _ _ h1 ⟨rfl, rfl, rfl⟩
                refine xr_if_ge a_Mod_order_45 (fun w => absurd w (by decide)) (fun _ => ?_)
                first | refine xn_iinc a_Mod_order_48 rfl (by decide) rfl ?_ | refine xr_iinc a_Mod_order_48 rfl rfl (by decide) rfl ?_
                refine xr_goto a_Mod_order_51 ?_
                refine xr_ls [(0, .ref m), (1, .int (nI dd)), (2, .int (nI 1)), (3, .int (nI k)), (4, .int (nI (x + 1)))] ⟨rfl, rfl, rfl, rfl, rfl, trivial⟩ ?_
                refine ihu (x + 1) (by omega) (by omega) ?_
                rw [← hF]
                exact (rF_no (by rw [hv]; rfl)).symm
              | some pp =>
                have hN : vNext al l' k = some x := by rw [← hF]; exact rF_yes (by rw [hv]; rfl)
                have hp4 : pp < 4 := vBest_lt hv
                rw [hN] at qO
                have qO' : vOrd al f (k + 1) (vMove l' x k) (va_up pt k (vBst al l' k (vAt l' x))) = (vOrd al l.length 0 l (fun _ => none)) := qO
                rw [hv] at qO' c1
                have c2 := cB x (va_up h' (m + 18) (cO 48 (va_up md' (6 * dd + k) none))) (by omega) (x_lk (by omega) p0') (x_lk (by omega) c0') (x_lk (by omega) t1) (x_lk (by omega) t2) (x_lk (by omega) t3)
                rw [hv] at c2
                refine xr_aload_n a_Mod_order_32 rfl ?_
                refine xr_iload_n a_Mod_order_33 rfl ?_
                refine xr_iload_n a_Mod_order_34 rfl ?_
                refine xr_bipush a_Mod_order_35 (v := nI 6) (by decide +kernel) ?_
                refine xr_iload_n a_Mod_order_37 rfl ?_
                first | refine xn_imul a_Mod_order_38 ?_ | refine xr_imul a_Mod_order_38 ?_
                refine xr_iload a_Mod_order_39 rfl ?_
                first | refine xn_iadd a_Mod_order_41 ?_ | refine xr_iadd a_Mod_order_41 ?_
                refine xr_invV a_Mod_order_42 (by (repeat' (first | assumption | exact va_up_self _ _ _ | refine x_lk (by omega) ?_))) (c1) rfl rfl (by omega) (by omega) (by omega) (Nat.le_of_ble_eq_true rfl) ?_
                rintro _ _ h1 ⟨rfl, rfl, rfl⟩
                refine xn_if_ge a_Mod_order_45 (by omega) ?_
                refine xr_iload_n a_Mod_order_54 rfl ?_
                refine xn_if_eq a_Mod_order_55 (by omega) (fun b55 => ?_) (fun b55 => ?_)
                · omega
                · refine xr_iload a_Mod_order_58 rfl ?_
                  refine xr_aload_n a_Mod_order_60 rfl ?_
                  apply xr_getf a_Mod_order_61
                  · (repeat' (first | assumption | exact va_up_self _ _ _ | refine x_lk (by omega) ?_))
                  · rfl
                  refine xr_iload_n a_Mod_order_64 rfl ?_
                  apply xn_iaload a_Mod_order_65
                  · (repeat' (first | assumption | exact va_up_self _ _ _ | refine x_lk (by omega) ?_))
                  · omega
                  · omega
                  refine xn_icmp_ge a_Mod_order_66 (by omega) (by omega) (fun b66 => ?_) (fun b66 => ?_)
                  · omega
                  · refine xr_iconst a_Mod_order_69 (v := nI 1) (by decide +kernel) ?_
                    refine xr_goto a_Mod_order_70 ?_
                    refine xr_istore_n a_Mod_order_74 (by decide) rfl ?_
                    refine xr_aload_n a_Mod_order_75 rfl ?_
                    apply xr_getf a_Mod_order_76
                    · (repeat' (first | assumption | exact va_up_self _ _ _ | refine x_lk (by omega) ?_))
                    · rfl
                    refine xr_bipush a_Mod_order_79 (v := nI 6) (by decide +kernel) ?_
                    refine xr_iload_n a_Mod_order_81 rfl ?_
                    first | refine xn_imul a_Mod_order_82 ?_ | refine xr_imul a_Mod_order_82 ?_
                    refine xr_iload_n a_Mod_order_83 rfl ?_
                    first | refine xn_iadd a_Mod_order_84 ?_ | refine xr_iadd a_Mod_order_84 ?_
                    refine xr_iconst a_Mod_order_85 (v := -1) (by decide +kernel) ?_
                    apply xo_iastore (o := none) a_Mod_order_86
                    · (repeat' (first | assumption | exact va_up_self _ _ _ | refine x_lk (by omega) ?_))
                    · exact rfl
                    · omega
                    · omega
                    refine xr_iload_n a_Mod_order_87 rfl ?_
                    refine xn_if_eq a_Mod_order_88 (by omega) (fun b88 => ?_) (fun b88 => ?_)
                    · omega
                    · have shift : ∀ (u : Nat) (h2 : xH), k + u ≤ x → xfr (m + 14) (m + 19) h h2 → moL h2 m sz (vSr lR' (6 * dd + (k + u)) (6 * dd + x)) (vSr lA' (6 * dd + (k + u)) (6 * dd + x)) (vSr lB' (6 * dd + (k + u)) (6 * dd + x)) pk → h2 (m + 18) = cO 48 (va_up md' (6 * dd + k) none) → XW (x_rm d 0 0) k_Mod_order L xs (x_mq 0 0 (qV n (fun h' => xfr2 m (m + 1) (m + 14) (m + 19) h h' ∧ h' m = cM m as ma (vB (0 < stk ∨ (vOrd al l.length 0 l (fun _ => none)).2.2 = true)) ne rq tr ∧ ∃ lR' lA' lB' md', moL h' m sz lR' lA' lB' pk ∧ h' (m + 18) = cO 48 md' ∧ moD (vOrd al l.length 0 l (fun _ => none)).1 dd sz lR' lA' lB' ∧ (∀ k, k < l.length → md' (6 * dd + k) = (vOrd al l.length 0 l (fun _ => none)).2.1 k) ∧ ∀ i, (i < 6 * dd ∨ 6 * dd + 6 ≤ i) → lR' i = lR i ∧ lA' i = lA i ∧ lB' i = lB i ∧ md' i = md i))) 0 0 152 [(0, .ref m), (1, .int (nI dd)), (2, .int (nI 1)), (3, .int (nI k)), (5, .int (nI pp)), (6, .int (nI (lR' (6 * dd + x)))), (7, .int (nI (lA' (6 * dd + x)))), (8, .int (nI (lB' (6 * dd + x)))), (9, .int (nI (k + u)))] [] n h2 := by
                        intro u
                        induction u with
                        | zero =>
                          intro h2 hu f2 y ym
                          have p02 := (f2 m (by omega)).trans p0
                          obtain ⟨x0, x1, x2, x3, x4⟩ := y
                          refine xr_iload a_Mod_order_152 rfl ?_
                          refine xr_iload_n a_Mod_order_154 rfl ?_
                          refine xn_icmp_le a_Mod_order_155 (by omega) (by omega) (fun b155 => ?_) (fun b155 => ?_)
                          · refine xr_aload_n a_Mod_order_184 rfl ?_
                            apply xr_getf a_Mod_order_185
                            · (repeat' (first | assumption | exact va_up_self _ _ _ | refine x_lk (by omega) ?_))
                            · rfl
                            refine xr_bipush a_Mod_order_188 (v := nI 6) (by decide +kernel) ?_
                            refine xr_iload_n a_Mod_order_190 rfl ?_
                            first | refine xn_imul a_Mod_order_191 ?_ | refine xr_imul a_Mod_order_191 ?_
                            refine xr_iload_n a_Mod_order_192 rfl ?_
                            first | refine xn_iadd a_Mod_order_193 ?_ | refine xr_iadd a_Mod_order_193 ?_
                            refine xr_iload a_Mod_order_194 rfl ?_
                            apply xn_iastore a_Mod_order_196
                            · (repeat' (first | assumption | exact va_up_self _ _ _ | refine x_lk (by omega) ?_))
                            · omega
                            · omega
                            refine xr_aload_n a_Mod_order_197 rfl ?_
                            apply xr_getf a_Mod_order_198
                            · (repeat' (first | assumption | exact va_up_self _ _ _ | refine x_lk (by omega) ?_))
                            · rfl
                            refine xr_bipush a_Mod_order_201 (v := nI 6) (by decide +kernel) ?_
                            refine xr_iload_n a_Mod_order_203 rfl ?_
                            first | refine xn_imul a_Mod_order_204 ?_ | refine xr_imul a_Mod_order_204 ?_
                            refine xr_iload_n a_Mod_order_205 rfl ?_
                            first | refine xn_iadd a_Mod_order_206 ?_ | refine xr_iadd a_Mod_order_206 ?_
                            refine xr_iload a_Mod_order_207 rfl ?_
                            apply xn_iastore a_Mod_order_209
                            · (repeat' (first | assumption | exact va_up_self _ _ _ | refine x_lk (by omega) ?_))
                            · omega
                            · omega
                            refine xr_aload_n a_Mod_order_210 rfl ?_
                            apply xr_getf a_Mod_order_211
                            · (repeat' (first | assumption | exact va_up_self _ _ _ | refine x_lk (by omega) ?_))
                            · rfl
                            refine xr_bipush a_Mod_order_214 (v := nI 6) (by decide +kernel) ?_
                            refine xr_iload_n a_Mod_order_216 rfl ?_
                            first | refine xn_imul a_Mod_order_217 ?_ | refine xr_imul a_Mod_order_217 ?_
                            refine xr_iload_n a_Mod_order_218 rfl ?_
                            first | refine xn_iadd a_Mod_order_219 ?_ | refine xr_iadd a_Mod_order_219 ?_
                            refine xr_iload a_Mod_order_220 rfl ?_
                            apply xn_iastore a_Mod_order_222
                            · (repeat' (first | assumption | exact va_up_self _ _ _ | refine x_lk (by omega) ?_))
                            · omega
                            · omega
                            refine xr_aload_n a_Mod_order_223 rfl ?_
                            apply xr_getf a_Mod_order_224
                            · (repeat' (first | assumption | exact va_up_self _ _ _ | refine x_lk (by omega) ?_))
                            · rfl
                            refine xr_bipush a_Mod_order_227 (v := nI 6) (by decide +kernel) ?_
                            refine xr_iload_n a_Mod_order_229 rfl ?_
                            first | refine xn_imul a_Mod_order_230 ?_ | refine xr_imul a_Mod_order_230 ?_
                            refine xr_iload_n a_Mod_order_231 rfl ?_
                            first | refine xn_iadd a_Mod_order_232 ?_ | refine xr_iadd a_Mod_order_232 ?_
                            refine xr_iload a_Mod_order_233 rfl ?_
                            apply xo_iastore (o := some pp) a_Mod_order_235
                            · (repeat' (first | assumption | exact va_up_self _ _ _ | refine x_lk (by omega) ?_))
                            · exact rfl
                            · omega
                            · omega
                            first | refine xn_iinc a_Mod_order_236 rfl (by decide) rfl ?_ | refine xr_iinc a_Mod_order_236 rfl rfl (by decide) rfl ?_
                            refine xr_goto a_Mod_order_239 ?_
                            refine xr_ls [(0, .ref m), (1, .int (nI dd)), (2, .int (nI 1)), (3, .int (nI (k + 1)))] ⟨rfl, rfl, rfl, rfl, trivial⟩ ?_
                            refine ih (k + 1) (vMove l' x k) _ _ _ _ _ _ (by omega) (by rw [vMove_len (by omega) hkx, ql]) (fun a ha => qb a (vMove_mem hkx ha)) qO' ?_ ⟨by (repeat' (first | assumption | exact va_up_self _ _ _ | refine x_lk (by omega) ?_)), by (repeat' (first | assumption | exact va_up_self _ _ _ | refine x_lk (by omega) ?_)), by (repeat' (first | assumption | exact va_up_self _ _ _ | refine x_lk (by omega) ?_)), by (repeat' (first | assumption | exact va_up_self _ _ _ | refine x_lk (by omega) ?_)), by (repeat' (first | assumption | exact va_up_self _ _ _ | refine x_lk (by omega) ?_))⟩ (by (repeat' (first | assumption | exact va_up_self _ _ _ | refine x_lk (by omega) ?_))) ⟨?_, ?_⟩ (fun j hj => ?_) (fun j hj => ?_) (fun i hi => ?_)
                            · repeat' (first | exact f2 | refine xfr.up ?_ (by omega) (by omega))
                            · rw [vMove_len (by omega) hkx]; exact q1.1
                            · have mv := q1.2.move (i := x) (p := k) (by omega) hkx
                              rw [vMove_len (by omega) hkx]
                              refine mv.c (fun j hj => ?_)
                              exact ⟨vSr_back lR' hkx, vSr_back lA' hkx, vSr_back lB' hkx⟩
                            · by_cases ej : j = k
                              · rw [ej, up_self, up_self]
                              · rw [up_ne (by omega), up_ne (by omega), up_ne ej]; exact q2 j (by omega)
                            · rw [up_ne (by omega)]; exact q4 j (by omega)
                            · rw [up_ne (by omega), up_ne (by omega), up_ne (by omega), up_ne (by omega), up_ne (by omega), vSr_out _ (by omega), vSr_out _ (by omega), vSr_out _ (by omega)]
                              exact q3 i hi
                          · omega
                        | succ u ihs =>
                          intro h2 hu f2 y ym
                          have p02 := (f2 m (by omega)).trans p0
                          have cV := t_Mod_move (d := 0) (L := L) (xs := xs) (n := n) (f := 6 * dd + (k + u)) (t := 6 * dd + (k + u) + 1) p02 y (by omega) (by omega)
                          have es1 : ∀ f : Nat → Nat, va_up (vSr f (6 * dd + (k + (u + 1))) (6 * dd + x)) (6 * dd + (k + u) + 1) (vSr f (6 * dd + (k + (u + 1))) (6 * dd + x) (6 * dd + (k + u))) = vSr f (6 * dd + (k + u)) (6 * dd + x) := fun f => vSr_s f (a := 6 * dd + (k + u)) (by omega)
                          rw [es1, es1, es1] at cV
                          rw [show k + (u + 1) = k + u + 1 from rfl]
                          refine xr_iload a_Mod_order_152 rfl ?_
                          refine xr_iload_n a_Mod_order_154 rfl ?_
                          refine xn_icmp_le a_Mod_order_155 (by omega) (by omega) (fun b155 => ?_) (fun b155 => ?_)
                          · omega
                          · refine xr_aload_n a_Mod_order_158 rfl ?_
                            refine xr_bipush a_Mod_order_159 (v := nI 6) (by decide +kernel) ?_
                            refine xr_iload_n a_Mod_order_161 rfl ?_
                            first | refine xn_imul a_Mod_order_162 ?_ | refine xr_imul a_Mod_order_162 ?_
                            refine xr_iload a_Mod_order_163 rfl ?_
                            first | refine xn_iadd a_Mod_order_165 ?_ | refine xr_iadd a_Mod_order_165 ?_
                            refine xr_iconst a_Mod_order_166 (v := nI 1) (by decide +kernel) ?_
                            first | refine xn_isub a_Mod_order_167 (by omega) ?_ | refine xr_isub a_Mod_order_167 ?_
                            rw [show 6 * dd + (k + u + 1) - 1 = 6 * dd + (k + u) by omega]
                            refine xr_bipush a_Mod_order_168 (v := nI 6) (by decide +kernel) ?_
                            refine xr_iload_n a_Mod_order_170 rfl ?_
                            first | refine xn_imul a_Mod_order_171 ?_ | refine xr_imul a_Mod_order_171 ?_
                            refine xr_iload a_Mod_order_172 rfl ?_
                            first | refine xn_iadd a_Mod_order_174 ?_ | refine xr_iadd a_Mod_order_174 ?_
                            refine xr_invV a_Mod_order_175 (by (repeat' (first | assumption | exact va_up_self _ _ _ | refine x_lk (by omega) ?_))) (cV) rfl rfl (by omega) (by omega) (by omega) (Nat.le_of_ble_eq_true rfl) ?_
                            rintro _ _ h3 ⟨rfl, rfl, f3, z3⟩
                            first | refine xn_idec a_Mod_order_178 rfl (by decide) rfl ?_ | refine xr_iinc a_Mod_order_178 rfl rfl (by decide) rfl ?_
                            refine xr_goto a_Mod_order_181 ?_
                            refine xr_ls [(0, .ref m), (1, .int (nI dd)), (2, .int (nI 1)), (3, .int (nI k)), (5, .int (nI pp)), (6, .int (nI (lR' (6 * dd + x)))), (7, .int (nI (lA' (6 * dd + x)))), (8, .int (nI (lB' (6 * dd + x)))), (9, .int (nI (k + u)))] ⟨rfl, rfl, rfl, rfl, rfl, rfl, rfl, rfl, rfl, trivial⟩ ?_
                            exact ihs h3 (by omega) (f2.tr (f3.mo (by omega) (by omega))) z3 ((f3 _ (by omega)).trans ym)
                      refine xr_aload_n a_Mod_order_91 rfl ?_
                      refine xr_iload_n a_Mod_order_92 rfl ?_
                      refine xr_iload_n a_Mod_order_93 rfl ?_
                      refine xr_bipush a_Mod_order_94 (v := nI 6) (by decide +kernel) ?_
                      refine xr_iload_n a_Mod_order_96 rfl ?_
                      first | refine xn_imul a_Mod_order_97 ?_ | refine xr_imul a_Mod_order_97 ?_
                      refine xr_iload a_Mod_order_98 rfl ?_
                      first | refine xn_iadd a_Mod_order_100 ?_ | refine xr_iadd a_Mod_order_100 ?_
                      refine xr_invV a_Mod_order_101 (by (repeat' (first | assumption | exact va_up_self _ _ _ | refine x_lk (by omega) ?_))) (c2) rfl rfl (by omega) (by omega) (by omega) (Nat.le_of_ble_eq_true rfl) ?_
                      rintro _ _ h1 ⟨rfl, rfl, rfl⟩
                      refine xr_istore a_Mod_order_104 (by decide) rfl ?_
                      refine xr_aload_n a_Mod_order_106 rfl ?_
                      apply xr_getf a_Mod_order_107
                      · (repeat' (first | assumption | exact va_up_self _ _ _ | refine x_lk (by omega) ?_))
                      · rfl
                      refine xr_bipush a_Mod_order_110 (v := nI 6) (by decide +kernel) ?_
                      refine xr_iload_n a_Mod_order_112 rfl ?_
                      first | refine xn_imul a_Mod_order_113 ?_ | refine xr_imul a_Mod_order_113 ?_
                      refine xr_iload a_Mod_order_114 rfl ?_
                      first | refine xn_iadd a_Mod_order_116 ?_ | refine xr_iadd a_Mod_order_116 ?_
                      apply xn_iaload a_Mod_order_117
                      · (repeat' (first | assumption | exact va_up_self _ _ _ | refine x_lk (by omega) ?_))
                      · omega
                      · omega
                      refine xr_istore a_Mod_order_118 (by decide) rfl ?_
                      refine xr_aload_n a_Mod_order_120 rfl ?_
                      apply xr_getf a_Mod_order_121
                      · (repeat' (first | assumption | exact va_up_self _ _ _ | refine x_lk (by omega) ?_))
                      · rfl
                      refine xr_bipush a_Mod_order_124 (v := nI 6) (by decide +kernel) ?_
                      refine xr_iload_n a_Mod_order_126 rfl ?_
                      first | refine xn_imul a_Mod_order_127 ?_ | refine xr_imul a_Mod_order_127 ?_
                      refine xr_iload a_Mod_order_128 rfl ?_
                      first | refine xn_iadd a_Mod_order_130 ?_ | refine xr_iadd a_Mod_order_130 ?_
                      apply xn_iaload a_Mod_order_131
                      · (repeat' (first | assumption | exact va_up_self _ _ _ | refine x_lk (by omega) ?_))
                      · omega
                      · omega
                      refine xr_istore a_Mod_order_132 (by decide) rfl ?_
                      refine xr_aload_n a_Mod_order_134 rfl ?_
                      apply xr_getf a_Mod_order_135
                      · (repeat' (first | assumption | exact va_up_self _ _ _ | refine x_lk (by omega) ?_))
                      · rfl
                      refine xr_bipush a_Mod_order_138 (v := nI 6) (by decide +kernel) ?_
                      refine xr_iload_n a_Mod_order_140 rfl ?_
                      first | refine xn_imul a_Mod_order_141 ?_ | refine xr_imul a_Mod_order_141 ?_
                      refine xr_iload a_Mod_order_142 rfl ?_
                      first | refine xn_iadd a_Mod_order_144 ?_ | refine xr_iadd a_Mod_order_144 ?_
                      apply xn_iaload a_Mod_order_145
                      · (repeat' (first | assumption | exact va_up_self _ _ _ | refine x_lk (by omega) ?_))
                      · omega
                      · omega
                      refine xr_istore a_Mod_order_146 (by decide) rfl ?_
                      refine xr_iload a_Mod_order_148 rfl ?_
                      refine xr_istore a_Mod_order_150 (by decide) rfl ?_
                      refine xr_ls [(0, .ref m), (1, .int (nI dd)), (2, .int (nI 1)), (3, .int (nI k)), (5, .int (nI pp)), (6, .int (nI (lR' (6 * dd + x)))), (7, .int (nI (lA' (6 * dd + x)))), (8, .int (nI (lB' (6 * dd + x)))), (9, .int (nI x))] ⟨rfl, rfl, rfl, rfl, rfl, rfl, rfl, rfl, rfl, trivial⟩ ?_
                      have go := shift (x - k) (va_up h' (m + 18) (cO 48 (va_up md' (6 * dd + k) none))) (by omega) (f1.up (by omega) (by omega))
                      rw [show k + (x - k) = x by omega, vSr_0, vSr_0, vSr_0] at go
                      exact go ⟨x_lk (by omega) t0, x_lk (by omega) t1, x_lk (by omega) t2, x_lk (by omega) t3, x_lk (by omega) t4⟩ (up_self _ _ _)
      refine xr_iload_n a_Mod_order_4 rfl ?_
      refine xr_aload_n a_Mod_order_5 rfl ?_
      apply xr_getf a_Mod_order_6
      · (repeat' (first | assumption | exact va_up_self _ _ _ | refine x_lk (by omega) ?_))
      · rfl
      refine xr_iload_n a_Mod_order_9 rfl ?_
      apply xn_iaload a_Mod_order_10
      · (repeat' (first | assumption | exact va_up_self _ _ _ | refine x_lk (by omega) ?_))
      · omega
      · omega
      refine xn_icmp_ge a_Mod_order_11 (by omega) (by omega) (fun b11 => ?_) (fun b11 => ?_)
      · omega
      · refine xr_iload_n a_Mod_order_14 rfl ?_
        refine xr_istore a_Mod_order_15 (by decide) rfl ?_
        refine xr_ls [(0, .ref m), (1, .int (nI dd)), (2, .int (nI 1)), (3, .int (nI k)), (4, .int (nI k))] ⟨rfl, rfl, rfl, rfl, rfl, trivial⟩ ?_
        refine search (f + 1) k (by omega) (Nat.le_refl _) ?_
        unfold vNext
        rw [show l'.length - k = f + 1 by omega]
  refine xr_iconst a_Mod_order_0 (v := nI 1) (by decide +kernel) ?_
  refine xr_istore_n a_Mod_order_1 (by decide) rfl ?_
  refine xr_iconst a_Mod_order_2 (v := nI 0) (by decide +kernel) ?_
  refine xr_istore_n a_Mod_order_3 (by decide) rfl ?_
  refine xr_ls [(0, .ref m), (1, .int (nI dd)), (2, .int (nI 1)), (3, .int (nI 0))] ⟨rfl, rfl, rfl, rfl, trivial⟩ ?_
  exact loop l.length 0 l (fun _ => none) h lR lA lB md (by omega) rfl hb rfl xfr.rf p pm hl (fun j hj => absurd hj (Nat.not_lt_zero j)) (fun _ _ => rfl) (fun _ _ => ⟨rfl, rfl, rfl, rfl⟩)
end T69c

