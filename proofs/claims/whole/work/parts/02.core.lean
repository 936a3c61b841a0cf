/-! A walk over a heap of numbered cells. A reference is a number: 0 is the script, r > 0 the cell at address b + r.
XW: the machine, at a frame of the method M, comes to an end with Z. -/
abbrev xM : Type := MethodName × ByteArray × Nat × Option FieldType
abbrev xH : Type := Nat → Option va_E
def x_ad (b scr k : Nat) : Nat := if k = 0 then scr else b + k
def x_v (b scr : Nat) : Value → Value
  | .ref k => .ref (x_ad b scr k)
  | v => v
def x_a (b scr : Nat) (a : vp_A) : vp_A := (a.1, match a.2 with
  | .inl f => .inl f
  | .inr (.inl f) => .inr (.inl f)
  | .inr (.inr (.inl f)) => .inr (.inr (.inl f))
  | .inr (.inr (.inr (.inl f))) => .inr (.inr (.inr (.inl f)))
  | .inr (.inr (.inr (.inr f))) => .inr (.inr (.inr (.inr (fun i => (f i).map (x_ad b scr))))))
def x_e (b scr : Nat) (ca : Nat → ClassId) (e : va_E) : va_E := match e with
  | .inl a => .inl (ca a.1, x_a b scr a.2)
  | .inr o => .inr (o.1, o.2.map (x_v b scr))
theorem x_ad_pos {b scr k : Nat} (h : 0 < k) : x_ad b scr k = b + k := by
  unfold x_ad
  rw [if_neg (by omega)]
theorem x_v_ref {b scr k : Nat} (h : 0 < k) : x_v b scr (.ref k) = .ref (b + k) := by
  show Value.ref (x_ad b scr k) = _
  rw [x_ad_pos h]
theorem x_v_cat (b scr : Nat) (v : Value) : (x_v b scr v).category = v.category := by cases v <;> rfl
theorem x_rf (b scr : Nat) (r : Option Nat) : va_rf (r.map (x_ad b scr)) = x_v b scr (va_rf r) := by cases r <;> rfl
theorem x_cats (b scr : Nat) (l : List Value) : ((l.map (x_v b scr)).map fun v => v.category) = l.map fun v => v.category := by
  rw [List.map_map]
  apply List.map_congr_left
  intro v _
  exact x_v_cat b scr v
theorem x_narrow {b scr : Nat} {ty : FieldType} {v : Value} (h : narrow ty v = v) : narrow ty (x_v b scr v) = x_v b scr v := by
  cases v with
  | ref k => cases ty <;> rfl
  | _ => exact h
theorem x_fits {b scr : Nat} {ty : FieldType} {v : Value} (h : fits ty v = true) : fits ty (x_v b scr v) = true := by
  cases v with
  | ref k => cases ty <;> first | exact h | (simp [fits] at h; done) | rfl
  | _ => exact h
/-- the words that every method takes along -/
def x_good (w : Cond) : Bool := k2_isCode w || goodWord w
def x_WS : List Cond := lw_tbl.filter x_good
theorem x_WS_good {w : Cond} (h : w ∈ x_WS) : w ∈ lw_tbl ∧ ((w.onTables && w.keeps) = true ∨ ∃ ty, w = .arrayClass ty) := by
  obtain ⟨h1, h2⟩ := List.mem_filter.mp h
  refine ⟨h1, ?_⟩
  cases hc : k2_isCode w with
  | true => cases w <;> first | (simp [k2_isCode] at hc; done) | exact Or.inl rfl
  | false =>
    unfold x_good at h2
    rw [hc, Bool.false_or] at h2
    exact good_of_word h2
theorem x_in {w : Cond} (i : Nat) (h : lw_tbl[i]? = some w) (hg : x_good w = true) : w ∈ x_WS := List.mem_filter.mpr ⟨List.mem_of_getElem? h, hg⟩
def x_ws (M : xM) : List Cond := Cond.code M.1 M.2.1 M.2.2.1 M.2.2.2 :: x_WS
theorem x_GoodIn (M N : xM) (hN : Cond.code N.1 N.2.1 N.2.2.1 N.2.2.2 ∈ x_WS) : GoodIn (x_ws M) (x_ws N) := by
  intro w hw
  rcases List.mem_cons.mp hw with rfl | hw
  · exact ⟨List.mem_cons_of_mem _ hN, (x_WS_good hN).2⟩
  · exact ⟨List.mem_cons_of_mem _ hw, (x_WS_good hw).2⟩
/-- the heap of numbered cells, in the machine's heap -/
def x_P (D : va_G) (b scr : Nat) (ca : Nat → ClassId) (h : xH) (H : Heap) : Prop := ∀ (r : Nat) (e : va_E), h r = some e → 0 < r ∧ va_at D x_cl (b + r, x_e b scr ca e) H
theorem x_P.set {D : va_G} {b scr : Nat} {ca : Nat → ClassId} {h : xH} {H H1 : Heap} {r : Nat} {e0 e : va_E} (hP : x_P D b scr ca h H) (hr : h r = some e0) (he : va_at D x_cl (b + r, x_e b scr ca e) H1) (oq : ∀ q : Nat, q ≠ b + r → H1[q]? = H[q]?) : x_P D b scr ca (va_up h r (some e)) H1 := by
  intro q e' hq
  by_cases h1 : q = r
  · subst h1
    rw [va_up_self] at hq
    cases hq
    exact ⟨(hP _ _ hr).1, he⟩
  · rw [va_up_ne _ _ h1] at hq
    obtain ⟨h0, hat⟩ := hP q e' hq
    exact ⟨h0, hat.kept (oq _ (by show b + q ≠ b + r; omega))⟩
theorem x_P.push {D : va_G} {b scr n : Nat} {ca : Nat → ClassId} {h : xH} {H H1 : Heap} {e : va_E} (hP : x_P D b scr ca h H) (hz : H.size = b + n) (hn : 0 < n) (he : va_at D x_cl (b + n, x_e b scr ca e) H1) (o1 : ∀ q : Nat, q < H.size → H1[q]? = H[q]?) : x_P D b scr ca (va_up h n (some e)) H1 := by
  intro q e' hq
  by_cases h1 : q = n
  · subst h1
    rw [va_up_self] at hq
    cases hq
    exact ⟨hn, he⟩
  · rw [va_up_ne _ _ h1] at hq
    obtain ⟨h0, hat⟩ := hP q e' hq
    exact ⟨h0, hat.kept (o1 _ hat.lt)⟩
theorem x_P.sing {D : va_G} {cl : List vw_C} {q : Nat × va_E} {H : Heap} (h : va_at D cl q H) : va_P D cl [q] H := by
  intro k q' hk
  have hz : k < 1 := (List.getElem?_eq_some_iff.mp hk).1
  rw [show k = 0 by omega] at hk
  cases hk
  exact h
/-- the tables, as every state of a run keeps them -/
def x_K (D : va_G) (ca : Nat → ClassId) (U : State) : Prop := (∀ (c : Nat) (q : vw_C), x_cl[c]? = some q → u_Kn U q.1 q.2.1 q.2.2 (D.1 c) (D.2 c)) ∧ ∀ (t : Nat) (ty : FieldType), x_tys[t]? = some ty → ArrOfT U (ca t) ty ∧ va_RA U (ca t) ty
theorem x_K.moved {D : va_G} {ca : Nat → ClassId} {u U : State} (hvm : u.vm.Alike U.vm) (h : x_K D ca u) : x_K D ca U := ⟨fun c q hq => u_Kn_moved hvm (h.1 c q hq), fun t ty ht => ⟨arrOfT_moved hvm (h.2 t ty ht).1, (h.2 t ty ht).2.moved hvm⟩⟩
theorem x_K.nil {D : va_G} {ca : Nat → ClassId} {U : State} (h : x_K D ca U) : va_K D x_cl [] U := ⟨h.1, fun k q hk => by simp at hk⟩
theorem x_K.one {D : va_G} {ca : Nat → ClassId} {U : State} (h : x_K D ca U) {t : Nat} {ty : FieldType} (ht : x_tys[t]? = some ty) : va_K D x_cl [(ca t, ty)] U := by
  refine ⟨h.1, fun k q hk => ?_⟩
  have hz : k < 1 := (List.getElem?_eq_some_iff.mp hk).1
  rw [show k = 0 by omega] at hk
  cases hk
  exact h.2 t ty ht
def x_nest : Cond → Bool
  | .methodLinkNest .. => true
  | .fieldLinkNest .. => true
  | _ => false
theorem x_nest_tab {w : Cond} (h : x_nest w = true) : w.onTables = true := by
  cases w <;> first | rfl | (simp [x_nest] at h; done)
theorem x_nest_warm {w : Cond} {s U : State} (h : x_nest w = true) (hW : s.WarmedH U.vm) (hZ : va_Nw w s) : va_Nw w U := by
  cases w <;> first | exact va_Nw.warmM hW hZ | exact va_Nw.warmF hW hZ | (simp [x_nest] at h; done)
def x_U (b scr L : Nat) (xs : Nat → Int32) (ca : Nat → ClassId) (D : va_G) (U : State) : Prop := x_K D ca U ∧ (∀ w ∈ lw_tbl, x_nest w = true → va_Nw w U) ∧ (∀ C : String, Cond.arrayOver (.object C) ∈ lw_tbl → va_AO C U) ∧ va_X scr L xs U U.heap ∧ scr ≤ b ∧ b < U.heap.size
theorem x_U.moved {b scr L : Nat} {xs : Nat → Int32} {ca : Nat → ClassId} {D : va_G} {s U : State} (h : x_U b scr L xs ca D s) (hW : s.WarmedH U.vm) (he : U.heap[scr]? = s.heap[scr]?) (hz : s.heap.size ≤ U.heap.size) : x_U b scr L xs ca D U := by
  obtain ⟨hK, hN, hO, hX, h1, h2⟩ := h
  exact ⟨hK.moved hW.alike, fun w hw hn => x_nest_warm hn hW (hN w hw hn), fun C hC => (hO C hC).moved hW.alike, (hX.moved hW.alike).kept he, h1, Nat.lt_of_lt_of_le h2 hz⟩
theorem x_U.calling {b scr L : Nat} {xs : Nat → Int32} {ca : Nat → ClassId} {D : va_G} {U : State} {g : JFrame} {mk : MethodId} {a : Array Value} (h : x_U b scr L xs ca D U) : x_U b scr L xs ca D (U.calling g mk a) := by
  obtain ⟨hK, hN, hO, hX, h1, h2⟩ := h
  exact ⟨hK.moved (u := U) (U := U.calling g mk a) (Vm.Alike.refl U.vm), fun w hw hn => va_Nw.same (x_nest_tab hn) (rfl : U.vm = (U.calling g mk a).vm) (hN w hw hn), fun C hC => (hO C hC).moved (u := U) (U := U.calling g mk a) (Vm.Alike.refl U.vm), hX.moved (u := U) (U := U.calling g mk a) (Vm.Alike.refl U.vm), h1, h2⟩
/-- the locals: what the list says first of a number is there -/
def x_get : List (Nat × Value) → Nat → Option Value
  | [], _ => none
  | (j, v) :: l, i => match Nat.beq j i with
    | true => some v
    | false => x_get l i
theorem x_get_cons (j : Nat) (v : Value) (l : List (Nat × Value)) (i : Nat) : x_get ((j, v) :: l) i = if j = i then some v else x_get l i := by
  show (match Nat.beq j i with | true => some v | false => x_get l i) = _
  by_cases h : j = i
  · subst h
    rw [if_pos rfl, Nat.beq_refl]
  · rw [if_neg h]
    cases hb : Nat.beq j i with
    | true => exact absurd (Nat.eq_of_beq_eq_true hb) h
    | false => rfl
theorem x_get_mem {ls : List (Nat × Value)} {i : Nat} {v : Value} (h : x_get ls i = some v) : (i, v) ∈ ls := by
  induction ls with
  | nil => cases h
  | cons q l ih =>
    obtain ⟨j, w⟩ := q
    rw [x_get_cons] at h
    by_cases hj : j = i
    · subst hj
      rw [if_pos rfl] at h
      cases h
      exact List.mem_cons_self
    · rw [if_neg hj] at h
      exact List.mem_cons_of_mem _ (ih h)
def x_L (b scr nL : Nat) (ls : List (Nat × Value)) (lsA : Array Slot) : Prop := lsA.size = nL ∧ lv_wf lsA ∧ ∀ (i : Nat) (v : Value), x_get ls i = some v → lsA[i]? = some (.val (x_v b scr v))
/-- what the kit's rows for stores take: the values that can be seen -/
def x_see (b scr : Nat) (ls : List (Nat × Value)) : List (Nat × Value) := ls.filterMap fun q => (x_get ls q.1).map fun v => (q.1, x_v b scr v)
theorem x_L.has {b scr nL : Nat} {ls : List (Nat × Value)} {lsA : Array Slot} (h : x_L b scr nL ls lsA) : lv_has lsA nL (x_see b scr ls) := by
  refine ⟨h.1, h.2.1, fun q hq => ?_⟩
  obtain ⟨q0, -, h2⟩ := List.mem_filterMap.mp hq
  cases hg : x_get ls q0.1 with
  | none => rw [hg] at h2; cases h2
  | some v =>
    rw [hg] at h2
    cases h2
    exact h.2.2 _ _ hg
theorem x_see_in {b scr : Nat} {ls : List (Nat × Value)} {i : Nat} {v : Value} (h : x_get ls i = some v) : (i, x_v b scr v) ∈ x_see b scr ls := by
  refine List.mem_filterMap.mpr ⟨(i, v), x_get_mem h, ?_⟩
  show (x_get ls i).map _ = _
  rw [h]
  rfl
/-- a store at i is safe: what stands before it, if known, is of one place -/
def x_ok1 (ls : List (Nat × Value)) : Nat → Bool
  | 0 => true
  | j + 1 => match x_get ls j with
    | some v => v.category == 1
    | none => true
def x_ok2 (ls : List (Nat × Value)) (i : Nat) : Bool := x_ok1 ls i && (x_get ls (i + 1)).isNone
theorem x_ok1_ne {ls : List (Nat × Value)} {i j : Nat} {v : Value} (h : x_ok1 ls i = true) (hj : x_get ls j = some v) (hji : j + 1 = i) : v.category = 1 := by
  subst hji
  have h' : (match x_get ls j with | some v => v.category == 1 | none => true) = true := h
  rw [hj] at h'
  clear h
  have h := h'
  simpa using h
theorem x_L.put1 {b scr nL : Nat} {ls : List (Nat × Value)} {lsA : Array Slot} {i : Nat} {w : Value} (hok : x_ok1 ls i = true) (h : lv_has lsA nL ((i, x_v b scr w) :: (x_see b scr ls).filter (fun q => !(q.1 == i) && !(q.1 + 1 == i && q.2.category == 2)))) : x_L b scr nL ((i, w) :: ls) lsA := by
  refine ⟨h.1, h.2.1, fun j v hj => ?_⟩
  rw [x_get_cons] at hj
  by_cases hij : i = j
  · subst hij
    rw [if_pos rfl] at hj
    cases hj
    exact h.2.2 (i, x_v b scr w) List.mem_cons_self
  · rw [if_neg hij] at hj
    refine h.2.2 (j, x_v b scr v) (List.mem_cons_of_mem _ (List.mem_filter.mpr ⟨x_see_in hj, ?_⟩))
    have h1 : (j == i) = false := by simpa using fun e => hij e.symm
    by_cases h2 : j + 1 = i
    · have h3 := x_ok1_ne hok hj h2
      simp [h1, x_v_cat, h3]
    · simp [h1, h2]
theorem x_L.put2 {b scr nL : Nat} {ls : List (Nat × Value)} {lsA : Array Slot} {i : Nat} {w : Value} (hok : x_ok2 ls i = true) (h : lv_has lsA nL ((i, x_v b scr w) :: (x_see b scr ls).filter (fun q => !(q.1 == i) && (!(q.1 == i + 1) && !(q.1 + 1 == i && q.2.category == 2))))) : x_L b scr nL ((i, w) :: ls) lsA := by
  unfold x_ok2 at hok
  rw [Bool.and_eq_true] at hok
  obtain ⟨hok1, hn⟩ := hok
  refine ⟨h.1, h.2.1, fun j v hj => ?_⟩
  rw [x_get_cons] at hj
  by_cases hij : i = j
  · subst hij
    rw [if_pos rfl] at hj
    cases hj
    exact h.2.2 (i, x_v b scr w) List.mem_cons_self
  · rw [if_neg hij] at hj
    refine h.2.2 (j, x_v b scr v) (List.mem_cons_of_mem _ (List.mem_filter.mpr ⟨x_see_in hj, ?_⟩))
    have h1 : (j == i) = false := by simpa using fun e => hij e.symm
    have h4 : (j == i + 1) = false := by
      cases hq : j == i + 1 with
      | false => rfl
      | true =>
        have e : j = i + 1 := by simpa using hq
        subst e
        rw [hj] at hn
        simp at hn
    by_cases h2 : j + 1 = i
    · have h3 := x_ok1_ne hok1 hj h2
      simp [h1, h4, x_v_cat, h3]
    · simp [h1, h4, h2]
/-- fewer, in another order -/
def x_sub (ls : List (Nat × Value)) : List (Nat × Value) → Prop
  | [] => True
  | (i, v) :: t => x_get ls i = some v ∧ x_sub ls t
theorem x_sub_get {ls ls' : List (Nat × Value)} (h : x_sub ls ls') {i : Nat} {v : Value} (hi : x_get ls' i = some v) : x_get ls i = some v := by
  induction ls' with
  | nil => cases hi
  | cons q l ih =>
    obtain ⟨j, w⟩ := q
    obtain ⟨h1, h2⟩ := h
    rw [x_get_cons] at hi
    by_cases hj : j = i
    · subst hj
      rw [if_pos rfl] at hi
      cases hi
      exact h1
    · rw [if_neg hj] at hi
      exact ih h2 hi
theorem x_L.sub {b scr nL : Nat} {ls ls' : List (Nat × Value)} {lsA : Array Slot} (h : x_L b scr nL ls lsA) (hs : x_sub ls ls') : x_L b scr nL ls' lsA := ⟨h.1, h.2.1, fun _ _ hi => h.2.2 _ _ (x_sub_get hs hi)⟩
theorem x_lvargs (b scr : Nat) : ∀ (as : List Value) (k : Nat) (q : Nat × Value), q ∈ lv_args k as → (q.1, x_v b scr q.2) ∈ lv_args k (as.map (x_v b scr))
  | [], _, _, h => by cases h
  | v :: vs, k, q, h => by
    rw [List.map_cons]
    unfold lv_args at h ⊢
    rw [x_v_cat]
    rcases List.mem_cons.mp h with rfl | h
    · exact List.mem_cons_self
    · exact List.mem_cons_of_mem _ (x_lvargs b scr vs _ q h)
theorem x_sllen (b scr : Nat) (as : List Value) : (lg_sl (as.map (x_v b scr))).length = (lg_sl as).length := by
  induction as with
  | nil => rfl
  | cons v vs ih =>
    unfold lg_sl at ih ⊢
    rw [List.map_cons, List.flatMap_cons, List.flatMap_cons, List.length_append, List.length_append, ih, x_v_cat]
    by_cases hc : v.category = 2 <;> simp [hc]
/-- rooms, contracts, walks -/
def x_k : Nat := 64
def x_rm (d mc ms : Nat) : Room := { frames := d, cells := mc, slots := ms, locals := x_k * d }
def x_A (b : Nat) : Nat → Prop := fun q => b < q
def x_C (M : xM) (p : Program) (s : State) (m : MethodId) (args : Array Value) (meth : Method) (c : Code) (b scr L : Nat) (xs : Nat → Int32) (ca : Nat → ClassId) (D : va_G) : Prop :=
  p.tables.exec = Jvm.exec ∧ c.code = M.2.1 ∧ c.maxLocals = M.2.2.1 ∧ meth.sig.returnType = M.2.2.2 ∧ meth.locks = false ∧ s.vm.findClass M.1.cls = some m.cls ∧ (∀ w ∈ x_ws M, w.before args s = true) ∧ meth.name = M.1.name ∧ x_U b scr L xs ca D s
abbrev xZ : Type := List Frame → Array Value → State → Nat → Nat → (Nat → ClassId) → va_G → State → Prop
abbrev xQ : Type := Option Value → Nat → xH → Prop
def XW (R : Room) (M : xM) (L : Nat) (xs : Nat → Int32) (Z : xZ) (kc ks pc : Nat) (ls : List (Nat × Value)) (st : List Value) (n : Nat) (h : xH) : Prop :=
  ∀ (p : Program) (l : Launch) (e : Env) (s : State) (m : MethodId) (args : Array Value) (below : List Frame) (meth : Method) (c : Code) (b scr : Nat) (ca : Nat → ClassId) (D : va_G) (lsA : Array Slot) (H : Heap) (locs : List Loc),
    x_C M p s m args meth c b scr L xs ca D → x_L b scr M.2.2.1 ls lsA → H.size = b + n → x_P D b scr ca h H → va_S (x_A b) s.heap H locs →
    W p l e R s m args below meth c H locs kc ks (Z below args s b scr ca D) (F0 m pc lsA (st.map (x_v b scr)))
def x_Qc (D : va_G) (b scr : Nat) (ca : Nat → ClassId) (Q : xQ) : Array Value → State → Outcome → State → Prop := fun _ st oc t => (∃ (r : Option Value) (n : Nat) (h : xH), oc = .returned (r.map (x_v b scr)) ∧ Q r n h ∧ t.heap.size = b + n ∧ x_P D b scr ca h t.heap) ∧ va_F (x_A b) st t
def x_mq (mc ms : Nat) (Q : xQ) : xZ := fun below args s b scr ca D => MQ below (x_Qc D b scr ca Q) args s mc ms (x_A b)
def x_Pc (D : va_G) (b scr L : Nat) (xs : Nat → Int32) (ca : Nat → ClassId) (as : List Value) (n : Nat) (h : xH) : Array Value → State → Prop := va_Pc (as.map (x_v b scr)) (fun U => U.heap.size = b + n ∧ x_P D b scr ca h U.heap ∧ x_U b scr L xs ca D U)
def XM (d mc ms : Nat) (M : xM) (L : Nat) (xs : Nat → Int32) (as : List Value) (n : Nat) (h : xH) (Q : xQ) : Prop :=
  ∀ (l : Launch) (b scr : Nat) (ca : Nat → ClassId) (D : va_G), Met l M.1 (x_ws M) (x_rm d mc ms) (x_Pc D b scr L xs ca as n h) (x_Qc D b scr ca Q) mc ms (x_A b)
theorem x_blind (D : va_G) (b scr L : Nat) (xs : Nat → Int32) (ca : Nat → ClassId) (as : List Value) (n : Nat) (h : xH) : FrameBlind (x_Pc D b scr L xs ca as n h) := by
  intro a U g mk q
  obtain ⟨q0, q1, qP, qU⟩ := q
  exact ⟨q0, q1, qP, qU.calling⟩
theorem XM.of {d mc ms : Nat} {M : xM} {L : Nat} {xs : Nat → Int32} {as : List Value} {n : Nat} {h : xH} {Q : xQ} (hy : plainName M.1.cls = true) (hsl : (lg_sl as).length ≤ M.2.2.1) (k : XW (x_rm d mc ms) M L xs (x_mq mc ms Q) 0 0 0 (lv_args 0 as) [] n h) : XM d mc ms M L xs as n h Q := by
  intro l b scr ca D
  refine Met.ofW (cc := M.2.1) (maxL := M.2.2.1) (ret := M.2.2.2) hy rfl ?_
  intro p e s m args below meth c s₁ B hml hv
  obtain ⟨rfl, hsz, hP, hU⟩ := hv
  have hl := lv_entry (as.map (x_v b scr)) (n := M.2.2.1) (by rw [x_sllen]; exact hsl)
  rw [lg_entry_eq]
  generalize (lg_sl (as.map (x_v b scr)) ++ List.replicate (M.2.2.1 - (lg_sl (as.map (x_v b scr))).length) Slot.unset).toArray = lsA at hl ⊢
  exact k p l e s m _ below meth c b scr ca D lsA s.heap [] ⟨B.exec, B.bytes, hml, B.returns, B.notSynchronized, findClass_of_methodNamed B.named, atoms_spec (ws := x_ws M) B.pre, (name_of_methodNamed B.named B.method).1, hU⟩ ⟨hl.1, hl.2.1, fun i v hi => hl.2.2 (i, x_v b scr v) (x_lvargs b scr as 0 (i, v) (x_get_mem hi))⟩ hsz hP va_S.rf
/-- what a callee's start needs, at a call -/
theorem x_pre {M : xM} {p : Program} {s : State} {m : MethodId} {args : Array Value} {meth : Method} {c : Code} {b scr L : Nat} {xs : Nat → Int32} {ca : Nat → ClassId} {D : va_G} {H : Heap} {locs : List Loc} {n : Nat} {h : xH} (C : x_C M p s m args meth c b scr L xs ca D) (hz : H.size = b + n) (hP : x_P D b scr ca h H) (hS : va_S (x_A b) s.heap H locs) (as : List Value) : ∀ U : State, U.heap = H → s.WarmedH U.vm → x_Pc D b scr L xs ca as n h (as.map (x_v b scr)).toArray U := by
  intro U hU hW
  have hUs := C.2.2.2.2.2.2.2.2
  refine ⟨rfl, by rw [hU]; exact hz, by rw [hU]; exact hP, hUs.moved hW ?_ (by rw [hU]; exact hS.1)⟩
  rw [hU]
  exact hS.2.1 scr (Nat.lt_of_le_of_lt hUs.2.2.2.2.1 hUs.2.2.2.2.2) (fun q => absurd hUs.2.2.2.2.1 (Nat.not_le.mpr q))
theorem x_go {p : Program} {l : Launch} {e : Env} {R : Room} {s : State} {m : MethodId} {args : Array Value} {below : List Frame} {meth : Method} {c : Code} {H : Heap} {locs : List Loc} {kc ks mc ms pc : Nat} {lsA : Array Slot} {st0 rest : List Value} {D : va_G} {b scr : Nat} {ca : Nat → ClassId} {Q : xQ} {a : Array Value} {ZZ : State → Prop}
    (hr : va_Run p l e R s m args below meth c H locs kc ks mc ms (F0 m pc lsA st0) rest (x_Qc D b scr ca Q a) (x_A b)) (hS : va_S (x_A b) s.heap H locs)
    (kk : ∀ (r : Option Value) (n : Nat) (h : xH) (H1 : Heap) (locs1 : List Loc), Q r n h → H1.size = b + n → x_P D b scr ca h H1 → va_S (x_A b) s.heap H1 locs1 → W p l e R s m args below meth c H1 locs1 (kc + mc) (ks + ms) ZZ (F0 m (pc + 3) lsA ((r.map (x_v b scr)).toList ++ rest))) : W p l e R s m args below meth c H locs kc ks ZZ (F0 m pc lsA st0) := by
  intro T hT X
  obtain ⟨v, st₀, t, T', L, h0, X', hL, e1, e2, ⟨⟨r, n, h, hv, hq, hz', hP'⟩, hzs, hk⟩, st⟩ := hr T hT X
  cases hv
  rw [h0] at hzs hk
  obtain ⟨t2, a1, b1⟩ := kk r n h T'.heap (locs ++ L) hq (by rw [e1]; exact hz') (by rw [e1]; exact hP')
    ⟨Nat.le_trans hS.1 (by rw [e1]; exact hzs), fun q h1 h2 => by rw [e1, hk q (Nat.lt_of_lt_of_le h1 hS.1) h2]; exact hS.2.1 q h1 h2, fun q hq => by
      rcases List.mem_append.mp hq with h | h
      · exact hS.2.2 q h
      · exact hL q h⟩ T' rfl X'
  exact ⟨t2, st t2 a1, b1⟩
/-- an instruction at its place, with the next place; a branch, with its goal -/
def x_at (k : Nat) (M : xM) (i : Instr) (pc pc' : Nat) : Prop := decode M.2.1 pc = .ok (i, k) ∧ pc + k = pc'
def x_br (M : xM) (i : Instr) (off : Int) (pc pc' tgt : Nat) : Prop := decode M.2.1 pc = .ok (i, 3) ∧ (pc : Int) + off = (tgt : Int) ∧ pc + 3 = pc'

section XR
variable {R : Room} {M : xM} {L : Nat} {xs : Nat → Int32} {Z : xZ} {kc ks pc pc' : Nat} {ls : List (Nat × Value)} {st : List Value} {n : Nat} {h : xH}
theorem xr_iconst {i : Int} {v : Int32} (hd : x_at 1 M (.iconst i) pc pc') (hv : Int32.ofInt i = v) (k : XW R M L xs Z kc ks pc' ls (.int v :: st) n h) : XW R M L xs Z kc ks pc ls (st) n h := by
  obtain ⟨hd, rfl⟩ := hd
  exact fun p l e s m args below meth c b scr ca D lsA H locs C hl hz hP hS => lv_iconst C.1 C.2.1 hd hv (k p l e s m args below meth c b scr ca D lsA H locs C hl hz hP hS)
theorem xr_bipush {i : Int} {v : Int32} (hd : x_at 2 M (.bipush i) pc pc') (hv : (Int8.ofInt i).toInt32 = v) (k : XW R M L xs Z kc ks pc' ls (.int v :: st) n h) : XW R M L xs Z kc ks pc ls (st) n h := by
  obtain ⟨hd, rfl⟩ := hd
  exact fun p l e s m args below meth c b scr ca D lsA H locs C hl hz hP hS => lv_bipush C.1 C.2.1 hd hv (k p l e s m args below meth c b scr ca D lsA H locs C hl hz hP hS)
theorem xr_sipush {i : Int} {v : Int32} (hd : x_at 3 M (.sipush i) pc pc') (hv : (Int16.ofInt i).toInt32 = v) (k : XW R M L xs Z kc ks pc' ls (.int v :: st) n h) : XW R M L xs Z kc ks pc ls (st) n h := by
  obtain ⟨hd, rfl⟩ := hd
  exact fun p l e s m args below meth c b scr ca D lsA H locs C hl hz hP hS => lv_sipush C.1 C.2.1 hd hv (k p l e s m args below meth c b scr ca D lsA H locs C hl hz hP hS)
theorem xr_lconst {i : Fin 2} {v : Int64} (hd : x_at 1 M (.lconst i) pc pc') (hv : Int64.ofNat (i : Nat) = v) (k : XW R M L xs Z kc ks pc' ls (.long v :: st) n h) : XW R M L xs Z kc ks pc ls (st) n h := by
  obtain ⟨hd, rfl⟩ := hd
  exact fun p l e s m args below meth c b scr ca D lsA H locs C hl hz hP hS => lv_lconst C.1 C.2.1 hd hv (k p l e s m args below meth c b scr ca D lsA H locs C hl hz hP hS)
theorem xr_aconst_null (hd : x_at 1 M (.aconst_null) pc pc') (k : XW R M L xs Z kc ks pc' ls (.null :: st) n h) : XW R M L xs Z kc ks pc ls (st) n h := by
  obtain ⟨hd, rfl⟩ := hd
  exact fun p l e s m args below meth c b scr ca D lsA H locs C hl hz hP hS => lv_null C.1 C.2.1 hd (k p l e s m args below meth c b scr ca D lsA H locs C hl hz hP hS)
theorem xr_iadd {x y : Int32} (hd : x_at 1 M (.iadd) pc pc') (k : XW R M L xs Z kc ks pc' ls (.int (x + y) :: st) n h) : XW R M L xs Z kc ks pc ls (.int y :: .int x :: st) n h := by
  obtain ⟨hd, rfl⟩ := hd
  exact fun p l e s m args below meth c b scr ca D lsA H locs C hl hz hP hS => lv_iadd C.1 C.2.1 hd (k p l e s m args below meth c b scr ca D lsA H locs C hl hz hP hS)
theorem xr_isub {x y : Int32} (hd : x_at 1 M (.isub) pc pc') (k : XW R M L xs Z kc ks pc' ls (.int (x - y) :: st) n h) : XW R M L xs Z kc ks pc ls (.int y :: .int x :: st) n h := by
  obtain ⟨hd, rfl⟩ := hd
  exact fun p l e s m args below meth c b scr ca D lsA H locs C hl hz hP hS => lv_isub C.1 C.2.1 hd (k p l e s m args below meth c b scr ca D lsA H locs C hl hz hP hS)
theorem xr_imul {x y : Int32} (hd : x_at 1 M (.imul) pc pc') (k : XW R M L xs Z kc ks pc' ls (.int (x * y) :: st) n h) : XW R M L xs Z kc ks pc ls (.int y :: .int x :: st) n h := by
  obtain ⟨hd, rfl⟩ := hd
  exact fun p l e s m args below meth c b scr ca D lsA H locs C hl hz hP hS => lv_imul C.1 C.2.1 hd (k p l e s m args below meth c b scr ca D lsA H locs C hl hz hP hS)
theorem xr_iand {x y : Int32} (hd : x_at 1 M (.iand) pc pc') (k : XW R M L xs Z kc ks pc' ls (.int (x &&& y) :: st) n h) : XW R M L xs Z kc ks pc ls (.int y :: .int x :: st) n h := by
  obtain ⟨hd, rfl⟩ := hd
  exact fun p l e s m args below meth c b scr ca D lsA H locs C hl hz hP hS => lv_iand C.1 C.2.1 hd (k p l e s m args below meth c b scr ca D lsA H locs C hl hz hP hS)
theorem xr_ior {x y : Int32} (hd : x_at 1 M (.ior) pc pc') (k : XW R M L xs Z kc ks pc' ls (.int (x ||| y) :: st) n h) : XW R M L xs Z kc ks pc ls (.int y :: .int x :: st) n h := by
  obtain ⟨hd, rfl⟩ := hd
  exact fun p l e s m args below meth c b scr ca D lsA H locs C hl hz hP hS => lv_ior C.1 C.2.1 hd (k p l e s m args below meth c b scr ca D lsA H locs C hl hz hP hS)
theorem xr_ixor {x y : Int32} (hd : x_at 1 M (.ixor) pc pc') (k : XW R M L xs Z kc ks pc' ls (.int (x ^^^ y) :: st) n h) : XW R M L xs Z kc ks pc ls (.int y :: .int x :: st) n h := by
  obtain ⟨hd, rfl⟩ := hd
  exact fun p l e s m args below meth c b scr ca D lsA H locs C hl hz hP hS => lv_ixor C.1 C.2.1 hd (k p l e s m args below meth c b scr ca D lsA H locs C hl hz hP hS)
theorem xr_ishl {x y : Int32} (hd : x_at 1 M (.ishl) pc pc') (k : XW R M L xs Z kc ks pc' ls (.int (x <<< (y &&& 31)) :: st) n h) : XW R M L xs Z kc ks pc ls (.int y :: .int x :: st) n h := by
  obtain ⟨hd, rfl⟩ := hd
  exact fun p l e s m args below meth c b scr ca D lsA H locs C hl hz hP hS => lv_ishl C.1 C.2.1 hd (k p l e s m args below meth c b scr ca D lsA H locs C hl hz hP hS)
theorem xr_ishr {x y : Int32} (hd : x_at 1 M (.ishr) pc pc') (k : XW R M L xs Z kc ks pc' ls (.int (x >>> (y &&& 31)) :: st) n h) : XW R M L xs Z kc ks pc ls (.int y :: .int x :: st) n h := by
  obtain ⟨hd, rfl⟩ := hd
  exact fun p l e s m args below meth c b scr ca D lsA H locs C hl hz hP hS => lv_ishr C.1 C.2.1 hd (k p l e s m args below meth c b scr ca D lsA H locs C hl hz hP hS)
theorem xr_idiv {x y : Int32} (hd : x_at 1 M (.idiv) pc pc') (hne : ¬ y = 0) (k : XW R M L xs Z kc ks pc' ls (.int (x / y) :: st) n h) : XW R M L xs Z kc ks pc ls (.int y :: .int x :: st) n h := by
  obtain ⟨hd, rfl⟩ := hd
  exact fun p l e s m args below meth c b scr ca D lsA H locs C hl hz hP hS => lv_idiv C.1 C.2.1 hd hne (k p l e s m args below meth c b scr ca D lsA H locs C hl hz hP hS)
theorem xr_irem {x y : Int32} (hd : x_at 1 M (.irem) pc pc') (hne : ¬ y = 0) (k : XW R M L xs Z kc ks pc' ls (.int (x - x / y * y) :: st) n h) : XW R M L xs Z kc ks pc ls (.int y :: .int x :: st) n h := by
  obtain ⟨hd, rfl⟩ := hd
  exact fun p l e s m args below meth c b scr ca D lsA H locs C hl hz hP hS => lv_irem C.1 C.2.1 hd hne (k p l e s m args below meth c b scr ca D lsA H locs C hl hz hP hS)
theorem xr_ineg {x : Int32} (hd : x_at 1 M (.ineg) pc pc') (k : XW R M L xs Z kc ks pc' ls (.int (-x) :: st) n h) : XW R M L xs Z kc ks pc ls (.int x :: st) n h := by
  obtain ⟨hd, rfl⟩ := hd
  exact fun p l e s m args below meth c b scr ca D lsA H locs C hl hz hP hS => lv_ineg C.1 C.2.1 hd (k p l e s m args below meth c b scr ca D lsA H locs C hl hz hP hS)
theorem xr_ladd {x y : Int64} (hd : x_at 1 M (.ladd) pc pc') (k : XW R M L xs Z kc ks pc' ls (.long (x + y) :: st) n h) : XW R M L xs Z kc ks pc ls (.long y :: .long x :: st) n h := by
  obtain ⟨hd, rfl⟩ := hd
  exact fun p l e s m args below meth c b scr ca D lsA H locs C hl hz hP hS => lv_ladd C.1 C.2.1 hd (k p l e s m args below meth c b scr ca D lsA H locs C hl hz hP hS)
theorem xr_lsub {x y : Int64} (hd : x_at 1 M (.lsub) pc pc') (k : XW R M L xs Z kc ks pc' ls (.long (x - y) :: st) n h) : XW R M L xs Z kc ks pc ls (.long y :: .long x :: st) n h := by
  obtain ⟨hd, rfl⟩ := hd
  exact fun p l e s m args below meth c b scr ca D lsA H locs C hl hz hP hS => lv_lsub C.1 C.2.1 hd (k p l e s m args below meth c b scr ca D lsA H locs C hl hz hP hS)
theorem xr_land {x y : Int64} (hd : x_at 1 M (.land) pc pc') (k : XW R M L xs Z kc ks pc' ls (.long (x &&& y) :: st) n h) : XW R M L xs Z kc ks pc ls (.long y :: .long x :: st) n h := by
  obtain ⟨hd, rfl⟩ := hd
  exact fun p l e s m args below meth c b scr ca D lsA H locs C hl hz hP hS => lv_land C.1 C.2.1 hd (k p l e s m args below meth c b scr ca D lsA H locs C hl hz hP hS)
theorem xr_lor {x y : Int64} (hd : x_at 1 M (.lor) pc pc') (k : XW R M L xs Z kc ks pc' ls (.long (x ||| y) :: st) n h) : XW R M L xs Z kc ks pc ls (.long y :: .long x :: st) n h := by
  obtain ⟨hd, rfl⟩ := hd
  exact fun p l e s m args below meth c b scr ca D lsA H locs C hl hz hP hS => lv_lor C.1 C.2.1 hd (k p l e s m args below meth c b scr ca D lsA H locs C hl hz hP hS)
theorem xr_lxor {x y : Int64} (hd : x_at 1 M (.lxor) pc pc') (k : XW R M L xs Z kc ks pc' ls (.long (x ^^^ y) :: st) n h) : XW R M L xs Z kc ks pc ls (.long y :: .long x :: st) n h := by
  obtain ⟨hd, rfl⟩ := hd
  exact fun p l e s m args below meth c b scr ca D lsA H locs C hl hz hP hS => lv_lxor C.1 C.2.1 hd (k p l e s m args below meth c b scr ca D lsA H locs C hl hz hP hS)
theorem xr_lshl {x : Int64} {y : Int32} (hd : x_at 1 M (.lshl) pc pc') (k : XW R M L xs Z kc ks pc' ls (.long (x <<< (y.toInt64 &&& 63)) :: st) n h) : XW R M L xs Z kc ks pc ls (.int y :: .long x :: st) n h := by
  obtain ⟨hd, rfl⟩ := hd
  exact fun p l e s m args below meth c b scr ca D lsA H locs C hl hz hP hS => lv_lshl C.1 C.2.1 hd rfl (k p l e s m args below meth c b scr ca D lsA H locs C hl hz hP hS)
theorem xr_lshr {x : Int64} {y : Int32} (hd : x_at 1 M (.lshr) pc pc') (k : XW R M L xs Z kc ks pc' ls (.long (x >>> (y.toInt64 &&& 63)) :: st) n h) : XW R M L xs Z kc ks pc ls (.int y :: .long x :: st) n h := by
  obtain ⟨hd, rfl⟩ := hd
  exact fun p l e s m args below meth c b scr ca D lsA H locs C hl hz hP hS => lv_lshr C.1 C.2.1 hd rfl (k p l e s m args below meth c b scr ca D lsA H locs C hl hz hP hS)
theorem xr_iushr {x y : Int32} (hd : x_at 1 M (.iushr) pc pc') (k : XW R M L xs Z kc ks pc' ls (.int (x.toUInt32 >>> (y.toUInt32 &&& Int32.toUInt32 31)).toInt32 :: st) n h) : XW R M L xs Z kc ks pc ls (.int y :: .int x :: st) n h := by
  obtain ⟨hd, rfl⟩ := hd
  exact fun p l e s m args below meth c b scr ca D lsA H locs C hl hz hP hS => lv_iushr C.1 C.2.1 hd rfl (k p l e s m args below meth c b scr ca D lsA H locs C hl hz hP hS)
theorem xr_i2l {x : Int32} (hd : x_at 1 M (.i2l) pc pc') (k : XW R M L xs Z kc ks pc' ls (.long x.toInt64 :: st) n h) : XW R M L xs Z kc ks pc ls (.int x :: st) n h := by
  obtain ⟨hd, rfl⟩ := hd
  exact fun p l e s m args below meth c b scr ca D lsA H locs C hl hz hP hS => lv_i2l C.1 C.2.1 hd rfl (k p l e s m args below meth c b scr ca D lsA H locs C hl hz hP hS)
theorem xr_l2i {x : Int64} (hd : x_at 1 M (.l2i) pc pc') (k : XW R M L xs Z kc ks pc' ls (.int x.toInt32 :: st) n h) : XW R M L xs Z kc ks pc ls (.long x :: st) n h := by
  obtain ⟨hd, rfl⟩ := hd
  exact fun p l e s m args below meth c b scr ca D lsA H locs C hl hz hP hS => lv_l2i C.1 C.2.1 hd rfl (k p l e s m args below meth c b scr ca D lsA H locs C hl hz hP hS)
theorem xr_lcmp {x y : Int64} (hd : x_at 1 M (.lcmp) pc pc') (k : XW R M L xs Z kc ks pc' ls (.int (lg_cmp x y) :: st) n h) : XW R M L xs Z kc ks pc ls (.long y :: .long x :: st) n h := by
  obtain ⟨hd, rfl⟩ := hd
  exact fun p l e s m args below meth c b scr ca D lsA H locs C hl hz hP hS => W.lcmp C.1 C.2.1 hd (k p l e s m args below meth c b scr ca D lsA H locs C hl hz hP hS)
theorem xr_dup {va : Value} (hd : x_at 1 M (.dup) pc pc') (hva : va.category = 1) (k : XW R M L xs Z kc ks pc' ls (va :: va :: st) n h) : XW R M L xs Z kc ks pc ls (va :: st) n h := by
  obtain ⟨hd, rfl⟩ := hd
  exact fun p l e s m args below meth c b scr ca D lsA H locs C hl hz hP hS => lv_dup C.1 C.2.1 hd (by rw [x_v_cat]; exact hva) (k p l e s m args below meth c b scr ca D lsA H locs C hl hz hP hS)
theorem xr_pop {va : Value} (hd : x_at 1 M (.pop) pc pc') (hva : va.category = 1) (k : XW R M L xs Z kc ks pc' ls (st) n h) : XW R M L xs Z kc ks pc ls (va :: st) n h := by
  obtain ⟨hd, rfl⟩ := hd
  exact fun p l e s m args below meth c b scr ca D lsA H locs C hl hz hP hS => lv_pop C.1 C.2.1 hd (by rw [x_v_cat]; exact hva) (k p l e s m args below meth c b scr ca D lsA H locs C hl hz hP hS)
theorem xr_dup_x1 {va vb : Value} (hd : x_at 1 M (.dup_x1) pc pc') (hva : va.category = 1) (hvb : vb.category = 1) (k : XW R M L xs Z kc ks pc' ls (va :: vb :: va :: st) n h) : XW R M L xs Z kc ks pc ls (va :: vb :: st) n h := by
  obtain ⟨hd, rfl⟩ := hd
  exact fun p l e s m args below meth c b scr ca D lsA H locs C hl hz hP hS => lv_dup_x1 C.1 C.2.1 hd (by rw [x_v_cat]; exact hva) (by rw [x_v_cat]; exact hvb) (k p l e s m args below meth c b scr ca D lsA H locs C hl hz hP hS)
theorem xr_dup_x2 {va vb vd : Value} (hd : x_at 1 M (.dup_x2) pc pc') (hva : va.category = 1) (hvb : vb.category = 1) (hvd : vd.category = 1) (k : XW R M L xs Z kc ks pc' ls (va :: vb :: vd :: va :: st) n h) : XW R M L xs Z kc ks pc ls (va :: vb :: vd :: st) n h := by
  obtain ⟨hd, rfl⟩ := hd
  exact fun p l e s m args below meth c b scr ca D lsA H locs C hl hz hP hS => lv_dup_x2 C.1 C.2.1 hd (by rw [x_v_cat]; exact hva) (by rw [x_v_cat]; exact hvb) (by rw [x_v_cat]; exact hvd) (k p l e s m args below meth c b scr ca D lsA H locs C hl hz hP hS)
theorem xr_dup2 {va vb : Value} (hd : x_at 1 M (.dup2) pc pc') (hva : va.category = 1) (hvb : vb.category = 1) (k : XW R M L xs Z kc ks pc' ls (va :: vb :: va :: vb :: st) n h) : XW R M L xs Z kc ks pc ls (va :: vb :: st) n h := by
  obtain ⟨hd, rfl⟩ := hd
  exact fun p l e s m args below meth c b scr ca D lsA H locs C hl hz hP hS => lv_dup2_11 C.1 C.2.1 hd (by rw [x_v_cat]; exact hva) (by rw [x_v_cat]; exact hvb) (k p l e s m args below meth c b scr ca D lsA H locs C hl hz hP hS)
theorem xr_dup2L {va : Value} (hd : x_at 1 M (.dup2) pc pc') (hva : va.category = 2) (k : XW R M L xs Z kc ks pc' ls (va :: va :: st) n h) : XW R M L xs Z kc ks pc ls (va :: st) n h := by
  obtain ⟨hd, rfl⟩ := hd
  exact fun p l e s m args below meth c b scr ca D lsA H locs C hl hz hP hS => lv_dup2_2 C.1 C.2.1 hd (by rw [x_v_cat]; exact hva) (k p l e s m args below meth c b scr ca D lsA H locs C hl hz hP hS)
theorem xr_pop2 {va vb : Value} (hd : x_at 1 M (.pop2) pc pc') (hva : va.category = 1) (hvb : vb.category = 1) (k : XW R M L xs Z kc ks pc' ls (st) n h) : XW R M L xs Z kc ks pc ls (va :: vb :: st) n h := by
  obtain ⟨hd, rfl⟩ := hd
  exact fun p l e s m args below meth c b scr ca D lsA H locs C hl hz hP hS => lv_pop2_11 C.1 C.2.1 hd (by rw [x_v_cat]; exact hva) (by rw [x_v_cat]; exact hvb) (k p l e s m args below meth c b scr ca D lsA H locs C hl hz hP hS)
theorem xr_iload_n {i : Fin 4} {x : Int32} (hd : x_at 1 M (.iload_n i) pc pc') (hg : x_get ls i = some (.int x)) (k : XW R M L xs Z kc ks pc' ls (.int x :: st) n h) : XW R M L xs Z kc ks pc ls (st) n h := by
  obtain ⟨hd, rfl⟩ := hd
  exact fun p l e s m args below meth c b scr ca D lsA H locs C hl hz hP hS => lv_iload_n C.1 C.2.1 hd rfl (hl.2.2 _ _ hg) (k p l e s m args below meth c b scr ca D lsA H locs C hl hz hP hS)
theorem xr_iload {i : Nat} {x : Int32} (hd : x_at 2 M (.iload i) pc pc') (hg : x_get ls i = some (.int x)) (k : XW R M L xs Z kc ks pc' ls (.int x :: st) n h) : XW R M L xs Z kc ks pc ls (st) n h := by
  obtain ⟨hd, rfl⟩ := hd
  exact fun p l e s m args below meth c b scr ca D lsA H locs C hl hz hP hS => lv_iload C.1 C.2.1 hd (hl.2.2 _ _ hg) (k p l e s m args below meth c b scr ca D lsA H locs C hl hz hP hS)
theorem xr_lload_n {i : Fin 4} {x : Int64} (hd : x_at 1 M (.lload_n i) pc pc') (hg : x_get ls i = some (.long x)) (k : XW R M L xs Z kc ks pc' ls (.long x :: st) n h) : XW R M L xs Z kc ks pc ls (st) n h := by
  obtain ⟨hd, rfl⟩ := hd
  exact fun p l e s m args below meth c b scr ca D lsA H locs C hl hz hP hS => lv_lload_n C.1 C.2.1 hd rfl (hl.2.2 _ _ hg) (k p l e s m args below meth c b scr ca D lsA H locs C hl hz hP hS)
theorem xr_lload {i : Nat} {x : Int64} (hd : x_at 2 M (.lload i) pc pc') (hg : x_get ls i = some (.long x)) (k : XW R M L xs Z kc ks pc' ls (.long x :: st) n h) : XW R M L xs Z kc ks pc ls (st) n h := by
  obtain ⟨hd, rfl⟩ := hd
  exact fun p l e s m args below meth c b scr ca D lsA H locs C hl hz hP hS => lv_lload C.1 C.2.1 hd (hl.2.2 _ _ hg) (k p l e s m args below meth c b scr ca D lsA H locs C hl hz hP hS)
theorem xr_aload_n {i : Fin 4} {x : Nat} (hd : x_at 1 M (.aload_n i) pc pc') (hg : x_get ls i = some (.ref x)) (k : XW R M L xs Z kc ks pc' ls (.ref x :: st) n h) : XW R M L xs Z kc ks pc ls (st) n h := by
  obtain ⟨hd, rfl⟩ := hd
  exact fun p l e s m args below meth c b scr ca D lsA H locs C hl hz hP hS => lv_aload_n C.1 C.2.1 hd rfl (hl.2.2 _ _ hg) (k p l e s m args below meth c b scr ca D lsA H locs C hl hz hP hS)
theorem xr_aload {i x : Nat} (hd : x_at 2 M (.aload i) pc pc') (hg : x_get ls i = some (.ref x)) (k : XW R M L xs Z kc ks pc' ls (.ref x :: st) n h) : XW R M L xs Z kc ks pc ls (st) n h := by
  obtain ⟨hd, rfl⟩ := hd
  exact fun p l e s m args below meth c b scr ca D lsA H locs C hl hz hP hS => lv_aload C.1 C.2.1 hd (hl.2.2 _ _ hg) (k p l e s m args below meth c b scr ca D lsA H locs C hl hz hP hS)
theorem xr_aload_nN {i : Fin 4} (hd : x_at 1 M (.aload_n i) pc pc') (hg : x_get ls i = some .null) (k : XW R M L xs Z kc ks pc' ls (.null :: st) n h) : XW R M L xs Z kc ks pc ls (st) n h := by
  obtain ⟨hd, rfl⟩ := hd
  exact fun p l e s m args below meth c b scr ca D lsA H locs C hl hz hP hS => lv_aload_nN C.1 C.2.1 hd rfl (hl.2.2 _ _ hg) (k p l e s m args below meth c b scr ca D lsA H locs C hl hz hP hS)
theorem xr_aloadN {i : Nat} (hd : x_at 2 M (.aload i) pc pc') (hg : x_get ls i = some .null) (k : XW R M L xs Z kc ks pc' ls (.null :: st) n h) : XW R M L xs Z kc ks pc ls (st) n h := by
  obtain ⟨hd, rfl⟩ := hd
  exact fun p l e s m args below meth c b scr ca D lsA H locs C hl hz hP hS => lv_aloadN C.1 C.2.1 hd (hl.2.2 _ _ hg) (k p l e s m args below meth c b scr ca D lsA H locs C hl hz hP hS)
theorem xr_istore_n {i : Fin 4} {x : Int32} (hd : x_at 1 M (.istore_n i) pc pc') (hn : (i : Nat) < M.2.2.1) (hok : x_ok1 ls (i : Nat) = true) (k : XW R M L xs Z kc ks pc' (((i : Nat), .int x) :: ls) (st) n h) : XW R M L xs Z kc ks pc ls (.int x :: st) n h := by
  obtain ⟨hd, rfl⟩ := hd
  exact fun p l e s m args below meth c b scr ca D lsA H locs C hl hz hP hS => lv_istore_n C.1 C.2.1 hd rfl hl.has hn rfl (fun lsB hB => k p l e s m args below meth c b scr ca D lsB H locs C (x_L.put1 (w := .int x) hok hB) hz hP hS)
theorem xr_istore {i : Nat} {x : Int32} (hd : x_at 2 M (.istore i) pc pc') (hn : (i : Nat) < M.2.2.1) (hok : x_ok1 ls (i : Nat) = true) (k : XW R M L xs Z kc ks pc' (((i : Nat), .int x) :: ls) (st) n h) : XW R M L xs Z kc ks pc ls (.int x :: st) n h := by
  obtain ⟨hd, rfl⟩ := hd
  exact fun p l e s m args below meth c b scr ca D lsA H locs C hl hz hP hS => lv_istore C.1 C.2.1 hd hl.has hn rfl (fun lsB hB => k p l e s m args below meth c b scr ca D lsB H locs C (x_L.put1 (w := .int x) hok hB) hz hP hS)
theorem xr_astore_n {i : Fin 4} {x : Nat} (hd : x_at 1 M (.astore_n i) pc pc') (hn : (i : Nat) < M.2.2.1) (hok : x_ok1 ls (i : Nat) = true) (k : XW R M L xs Z kc ks pc' (((i : Nat), .ref x) :: ls) (st) n h) : XW R M L xs Z kc ks pc ls (.ref x :: st) n h := by
  obtain ⟨hd, rfl⟩ := hd
  exact fun p l e s m args below meth c b scr ca D lsA H locs C hl hz hP hS => lv_astore_n C.1 C.2.1 hd rfl hl.has hn rfl (fun lsB hB => k p l e s m args below meth c b scr ca D lsB H locs C (x_L.put1 (w := .ref x) hok hB) hz hP hS)
theorem xr_astore {i : Nat} {x : Nat} (hd : x_at 2 M (.astore i) pc pc') (hn : (i : Nat) < M.2.2.1) (hok : x_ok1 ls (i : Nat) = true) (k : XW R M L xs Z kc ks pc' (((i : Nat), .ref x) :: ls) (st) n h) : XW R M L xs Z kc ks pc ls (.ref x :: st) n h := by
  obtain ⟨hd, rfl⟩ := hd
  exact fun p l e s m args below meth c b scr ca D lsA H locs C hl hz hP hS => lv_astore C.1 C.2.1 hd hl.has hn rfl (fun lsB hB => k p l e s m args below meth c b scr ca D lsB H locs C (x_L.put1 (w := .ref x) hok hB) hz hP hS)
theorem xr_lstore_n {i : Fin 4} {x : Int64} (hd : x_at 1 M (.lstore_n i) pc pc') (hn : (i : Nat) + 1 < M.2.2.1) (hok : x_ok2 ls (i : Nat) = true) (k : XW R M L xs Z kc ks pc' (((i : Nat), .long x) :: ls) (st) n h) : XW R M L xs Z kc ks pc ls (.long x :: st) n h := by
  obtain ⟨hd, rfl⟩ := hd
  exact fun p l e s m args below meth c b scr ca D lsA H locs C hl hz hP hS => lv_lstore_n C.1 C.2.1 hd rfl hl.has hn rfl (fun lsB hB => k p l e s m args below meth c b scr ca D lsB H locs C (x_L.put2 (w := .long x) hok hB) hz hP hS)
theorem xr_lstore {i : Nat} {x : Int64} (hd : x_at 2 M (.lstore i) pc pc') (hn : (i : Nat) + 1 < M.2.2.1) (hok : x_ok2 ls (i : Nat) = true) (k : XW R M L xs Z kc ks pc' (((i : Nat), .long x) :: ls) (st) n h) : XW R M L xs Z kc ks pc ls (.long x :: st) n h := by
  obtain ⟨hd, rfl⟩ := hd
  exact fun p l e s m args below meth c b scr ca D lsA H locs C hl hz hP hS => lv_lstore C.1 C.2.1 hd hl.has hn rfl (fun lsB hB => k p l e s m args below meth c b scr ca D lsB H locs C (x_L.put2 (w := .long x) hok hB) hz hP hS)
theorem xr_astore_nN {i : Fin 4} (hd : x_at 1 M (.astore_n i) pc pc') (hn : (i : Nat) < M.2.2.1) (hok : x_ok1 ls (i : Nat) = true) (k : XW R M L xs Z kc ks pc' (((i : Nat), .null) :: ls) (st) n h) : XW R M L xs Z kc ks pc ls (.null :: st) n h := by
  obtain ⟨hd, rfl⟩ := hd
  exact fun p l e s m args below meth c b scr ca D lsA H locs C hl hz hP hS => lv_astore_nN C.1 C.2.1 hd rfl hl.has hn rfl (fun lsB hB => k p l e s m args below meth c b scr ca D lsB H locs C (x_L.put1 (w := .null) hok hB) hz hP hS)
theorem xr_astoreN {i : Nat} (hd : x_at 2 M (.astore i) pc pc') (hn : (i : Nat) < M.2.2.1) (hok : x_ok1 ls (i : Nat) = true) (k : XW R M L xs Z kc ks pc' (((i : Nat), .null) :: ls) (st) n h) : XW R M L xs Z kc ks pc ls (.null :: st) n h := by
  obtain ⟨hd, rfl⟩ := hd
  exact fun p l e s m args below meth c b scr ca D lsA H locs C hl hz hP hS => lv_astoreN C.1 C.2.1 hd hl.has hn rfl (fun lsB hB => k p l e s m args below meth c b scr ca D lsB H locs C (x_L.put1 (w := .null) hok hB) hz hP hS)
theorem xr_iinc {i : Nat} {z : Int} {x v : Int32} (hd : x_at 3 M (.iinc i z) pc pc') (hg : x_get ls i = some (.int x)) (hv : x + Int32.ofInt z = v) (hn : i < M.2.2.1) (hok : x_ok1 ls i = true) (k : XW R M L xs Z kc ks pc' ((i, .int v) :: ls) (st) n h) : XW R M L xs Z kc ks pc ls (st) n h := by
  obtain ⟨hd, rfl⟩ := hd
  exact fun p l e s m args below meth c b scr ca D lsA H locs C hl hz hP hS => by
    obtain ⟨j, hj⟩ := List.getElem?_of_mem (x_see_in (b := b) (scr := scr) hg)
    exact lv_iinc C.1 C.2.1 hd hl.has hj hv hn rfl (fun lsB hB => k p l e s m args below meth c b scr ca D lsB H locs C (x_L.put1 (w := .int v) hok hB) hz hP hS)
theorem xr_ls (ls' : List (Nat × Value)) (hs : x_sub ls ls') (k : XW R M L xs Z kc ks pc ls' (st) n h) : XW R M L xs Z kc ks pc ls (st) n h :=
  fun p l e s m args below meth c b scr ca D lsA H locs C hl hz hP hS => k p l e s m args below meth c b scr ca D lsA H locs C (hl.sub hs) hz hP hS
theorem xr_if_eq {x : Int32} {off : Int} {tgt : Nat} (hd : x_br M (.ifCond .eq off) off pc pc' tgt) (kt : x = 0 → XW R M L xs Z kc ks tgt ls (st) n h) (kf : ¬ x = 0 → XW R M L xs Z kc ks pc' ls (st) n h) : XW R M L xs Z kc ks pc ls (.int x :: st) n h := by
  obtain ⟨hd, ht, rfl⟩ := hd
  exact fun p l e s m args below meth c b scr ca D lsA H locs C hl hz hP hS => lv_if_eq C.1 C.2.1 hd ht (fun z => kt z p l e s m args below meth c b scr ca D lsA H locs C hl hz hP hS) (fun z => kf z p l e s m args below meth c b scr ca D lsA H locs C hl hz hP hS)
theorem xr_icmp_eq {x y : Int32} {off : Int} {tgt : Nat} (hd : x_br M (.if_icmp .eq off) off pc pc' tgt) (kt : x = y → XW R M L xs Z kc ks tgt ls (st) n h) (kf : ¬ x = y → XW R M L xs Z kc ks pc' ls (st) n h) : XW R M L xs Z kc ks pc ls (.int y :: .int x :: st) n h := by
  obtain ⟨hd, ht, rfl⟩ := hd
  exact fun p l e s m args below meth c b scr ca D lsA H locs C hl hz hP hS => lv_icmp_eq C.1 C.2.1 hd ht (fun z => kt z p l e s m args below meth c b scr ca D lsA H locs C hl hz hP hS) (fun z => kf z p l e s m args below meth c b scr ca D lsA H locs C hl hz hP hS)
theorem xr_if_ne {x : Int32} {off : Int} {tgt : Nat} (hd : x_br M (.ifCond .ne off) off pc pc' tgt) (kt : ¬ x = 0 → XW R M L xs Z kc ks tgt ls (st) n h) (kf : x = 0 → XW R M L xs Z kc ks pc' ls (st) n h) : XW R M L xs Z kc ks pc ls (.int x :: st) n h := by
  obtain ⟨hd, ht, rfl⟩ := hd
  exact fun p l e s m args below meth c b scr ca D lsA H locs C hl hz hP hS => lv_if_ne C.1 C.2.1 hd ht (fun z => kt z p l e s m args below meth c b scr ca D lsA H locs C hl hz hP hS) (fun z => kf z p l e s m args below meth c b scr ca D lsA H locs C hl hz hP hS)
theorem xr_icmp_ne {x y : Int32} {off : Int} {tgt : Nat} (hd : x_br M (.if_icmp .ne off) off pc pc' tgt) (kt : ¬ x = y → XW R M L xs Z kc ks tgt ls (st) n h) (kf : x = y → XW R M L xs Z kc ks pc' ls (st) n h) : XW R M L xs Z kc ks pc ls (.int y :: .int x :: st) n h := by
  obtain ⟨hd, ht, rfl⟩ := hd
  exact fun p l e s m args below meth c b scr ca D lsA H locs C hl hz hP hS => lv_icmp_ne C.1 C.2.1 hd ht (fun z => kt z p l e s m args below meth c b scr ca D lsA H locs C hl hz hP hS) (fun z => kf z p l e s m args below meth c b scr ca D lsA H locs C hl hz hP hS)
theorem xr_if_lt {x : Int32} {off : Int} {tgt : Nat} (hd : x_br M (.ifCond .lt off) off pc pc' tgt) (kt : x < 0 → XW R M L xs Z kc ks tgt ls (st) n h) (kf : ¬ x < 0 → XW R M L xs Z kc ks pc' ls (st) n h) : XW R M L xs Z kc ks pc ls (.int x :: st) n h := by
  obtain ⟨hd, ht, rfl⟩ := hd
  exact fun p l e s m args below meth c b scr ca D lsA H locs C hl hz hP hS => lv_if_lt C.1 C.2.1 hd ht (fun z => kt z p l e s m args below meth c b scr ca D lsA H locs C hl hz hP hS) (fun z => kf z p l e s m args below meth c b scr ca D lsA H locs C hl hz hP hS)
theorem xr_icmp_lt {x y : Int32} {off : Int} {tgt : Nat} (hd : x_br M (.if_icmp .lt off) off pc pc' tgt) (kt : x < y → XW R M L xs Z kc ks tgt ls (st) n h) (kf : ¬ x < y → XW R M L xs Z kc ks pc' ls (st) n h) : XW R M L xs Z kc ks pc ls (.int y :: .int x :: st) n h := by
  obtain ⟨hd, ht, rfl⟩ := hd
  exact fun p l e s m args below meth c b scr ca D lsA H locs C hl hz hP hS => lv_icmp_lt C.1 C.2.1 hd ht (fun z => kt z p l e s m args below meth c b scr ca D lsA H locs C hl hz hP hS) (fun z => kf z p l e s m args below meth c b scr ca D lsA H locs C hl hz hP hS)
theorem xr_if_ge {x : Int32} {off : Int} {tgt : Nat} (hd : x_br M (.ifCond .ge off) off pc pc' tgt) (kt : 0 ≤ x → XW R M L xs Z kc ks tgt ls (st) n h) (kf : ¬ 0 ≤ x → XW R M L xs Z kc ks pc' ls (st) n h) : XW R M L xs Z kc ks pc ls (.int x :: st) n h := by
  obtain ⟨hd, ht, rfl⟩ := hd
  exact fun p l e s m args below meth c b scr ca D lsA H locs C hl hz hP hS => lv_if_ge C.1 C.2.1 hd ht (fun z => kt z p l e s m args below meth c b scr ca D lsA H locs C hl hz hP hS) (fun z => kf z p l e s m args below meth c b scr ca D lsA H locs C hl hz hP hS)
theorem xr_icmp_ge {x y : Int32} {off : Int} {tgt : Nat} (hd : x_br M (.if_icmp .ge off) off pc pc' tgt) (kt : y ≤ x → XW R M L xs Z kc ks tgt ls (st) n h) (kf : ¬ y ≤ x → XW R M L xs Z kc ks pc' ls (st) n h) : XW R M L xs Z kc ks pc ls (.int y :: .int x :: st) n h := by
  obtain ⟨hd, ht, rfl⟩ := hd
  exact fun p l e s m args below meth c b scr ca D lsA H locs C hl hz hP hS => lv_icmp_ge C.1 C.2.1 hd ht (fun z => kt z p l e s m args below meth c b scr ca D lsA H locs C hl hz hP hS) (fun z => kf z p l e s m args below meth c b scr ca D lsA H locs C hl hz hP hS)
theorem xr_if_gt {x : Int32} {off : Int} {tgt : Nat} (hd : x_br M (.ifCond .gt off) off pc pc' tgt) (kt : 0 < x → XW R M L xs Z kc ks tgt ls (st) n h) (kf : ¬ 0 < x → XW R M L xs Z kc ks pc' ls (st) n h) : XW R M L xs Z kc ks pc ls (.int x :: st) n h := by
  obtain ⟨hd, ht, rfl⟩ := hd
  exact fun p l e s m args below meth c b scr ca D lsA H locs C hl hz hP hS => lv_if_gt C.1 C.2.1 hd ht (fun z => kt z p l e s m args below meth c b scr ca D lsA H locs C hl hz hP hS) (fun z => kf z p l e s m args below meth c b scr ca D lsA H locs C hl hz hP hS)
theorem xr_icmp_gt {x y : Int32} {off : Int} {tgt : Nat} (hd : x_br M (.if_icmp .gt off) off pc pc' tgt) (kt : y < x → XW R M L xs Z kc ks tgt ls (st) n h) (kf : ¬ y < x → XW R M L xs Z kc ks pc' ls (st) n h) : XW R M L xs Z kc ks pc ls (.int y :: .int x :: st) n h := by
  obtain ⟨hd, ht, rfl⟩ := hd
  exact fun p l e s m args below meth c b scr ca D lsA H locs C hl hz hP hS => lv_icmp_gt C.1 C.2.1 hd ht (fun z => kt z p l e s m args below meth c b scr ca D lsA H locs C hl hz hP hS) (fun z => kf z p l e s m args below meth c b scr ca D lsA H locs C hl hz hP hS)
theorem xr_if_le {x : Int32} {off : Int} {tgt : Nat} (hd : x_br M (.ifCond .le off) off pc pc' tgt) (kt : x ≤ 0 → XW R M L xs Z kc ks tgt ls (st) n h) (kf : ¬ x ≤ 0 → XW R M L xs Z kc ks pc' ls (st) n h) : XW R M L xs Z kc ks pc ls (.int x :: st) n h := by
  obtain ⟨hd, ht, rfl⟩ := hd
  exact fun p l e s m args below meth c b scr ca D lsA H locs C hl hz hP hS => lv_if_le C.1 C.2.1 hd ht (fun z => kt z p l e s m args below meth c b scr ca D lsA H locs C hl hz hP hS) (fun z => kf z p l e s m args below meth c b scr ca D lsA H locs C hl hz hP hS)
theorem xr_icmp_le {x y : Int32} {off : Int} {tgt : Nat} (hd : x_br M (.if_icmp .le off) off pc pc' tgt) (kt : x ≤ y → XW R M L xs Z kc ks tgt ls (st) n h) (kf : ¬ x ≤ y → XW R M L xs Z kc ks pc' ls (st) n h) : XW R M L xs Z kc ks pc ls (.int y :: .int x :: st) n h := by
  obtain ⟨hd, ht, rfl⟩ := hd
  exact fun p l e s m args below meth c b scr ca D lsA H locs C hl hz hP hS => lv_icmp_le C.1 C.2.1 hd ht (fun z => kt z p l e s m args below meth c b scr ca D lsA H locs C hl hz hP hS) (fun z => kf z p l e s m args below meth c b scr ca D lsA H locs C hl hz hP hS)
theorem xr_goto {off : Int} {tgt : Nat} (hd : x_br M (.goto off) off pc pc' tgt) (k : XW R M L xs Z kc ks tgt ls (st) n h) : XW R M L xs Z kc ks pc ls (st) n h := by
  obtain ⟨hd, ht, rfl⟩ := hd
  exact fun p l e s m args below meth c b scr ca D lsA H locs C hl hz hP hS => lv_goto C.1 C.2.1 hd ht (k p l e s m args below meth c b scr ca D lsA H locs C hl hz hP hS)
theorem xr_ifnull {r : Nat} {off : Int} {tgt : Nat} (hd : x_br M (.ifnull off) off pc pc' tgt) (k : XW R M L xs Z kc ks pc' ls (st) n h) : XW R M L xs Z kc ks pc ls (.ref r :: st) n h := by
  obtain ⟨hd, ht, rfl⟩ := hd
  exact fun p l e s m args below meth c b scr ca D lsA H locs C hl hz hP hS => lv_ifnull C.1 C.2.1 hd (k p l e s m args below meth c b scr ca D lsA H locs C hl hz hP hS)
theorem xr_ifnullN {off : Int} {tgt : Nat} (hd : x_br M (.ifnull off) off pc pc' tgt) (k : XW R M L xs Z kc ks tgt ls (st) n h) : XW R M L xs Z kc ks pc ls (.null :: st) n h := by
  obtain ⟨hd, ht, rfl⟩ := hd
  exact fun p l e s m args below meth c b scr ca D lsA H locs C hl hz hP hS => lv_ifnullN C.1 C.2.1 hd ht (k p l e s m args below meth c b scr ca D lsA H locs C hl hz hP hS)
theorem xr_ifnonnull {r : Nat} {off : Int} {tgt : Nat} (hd : x_br M (.ifnonnull off) off pc pc' tgt) (k : XW R M L xs Z kc ks tgt ls (st) n h) : XW R M L xs Z kc ks pc ls (.ref r :: st) n h := by
  obtain ⟨hd, ht, rfl⟩ := hd
  exact fun p l e s m args below meth c b scr ca D lsA H locs C hl hz hP hS => lv_ifnonnull C.1 C.2.1 hd ht (k p l e s m args below meth c b scr ca D lsA H locs C hl hz hP hS)
theorem xr_ifnonnullN {off : Int} {tgt : Nat} (hd : x_br M (.ifnonnull off) off pc pc' tgt) (k : XW R M L xs Z kc ks pc' ls (st) n h) : XW R M L xs Z kc ks pc ls (.null :: st) n h := by
  obtain ⟨hd, ht, rfl⟩ := hd
  exact fun p l e s m args below meth c b scr ca D lsA H locs C hl hz hP hS => lv_ifnonnullN C.1 C.2.1 hd (k p l e s m args below meth c b scr ca D lsA H locs C hl hz hP hS)
theorem xr_ldc {i : Nat} {v : Int32} (hd : x_at 2 M (.ldc i) pc pc') (hw : Cond.constant M.1.cls i v ∈ x_WS) (k : XW R M L xs Z kc ks pc' ls (.int v :: st) n h) : XW R M L xs Z kc ks pc ls (st) n h := by
  obtain ⟨hd, rfl⟩ := hd
  exact fun p l e s m args below meth c b scr ca D lsA H locs C hl hz hP hS => lv_ldc C.1 C.2.1 C.2.2.2.2.2.1 (C.2.2.2.2.2.2.1 _ (List.mem_cons_of_mem _ hw)) hd (k p l e s m args below meth c b scr ca D lsA H locs C hl hz hP hS)
theorem xr_ldc2 {i : Nat} {v : Int64} (hd : x_at 3 M (.ldc2_w i) pc pc') (hw : Cond.constantLong M.1.cls i v ∈ x_WS) (k : XW R M L xs Z kc ks pc' ls (.long v :: st) n h) : XW R M L xs Z kc ks pc ls (st) n h := by
  obtain ⟨hd, rfl⟩ := hd
  exact fun p l e s m args below meth c b scr ca D lsA H locs C hl hz hP hS => lv_ldc2 C.1 C.2.1 C.2.2.2.2.2.1 (C.2.2.2.2.2.2.1 _ (List.mem_cons_of_mem _ hw)) hd (k p l e s m args below meth c b scr ca D lsA H locs C hl hz hP hS)
theorem xr_tableIn {dflt lo hi : Int} {offs : Array Int} {len : Nat} {x : Int32} {off : Int} {tgt : Nat} (hd : decode M.2.1 pc = .ok (.tableswitch dflt lo hi offs, len)) (h1 : ¬ x.toInt < lo) (h2 : ¬ hi < x.toInt) (ho : offs[(x.toInt - lo).toNat]? = some off) (ht : (pc : Int) + off = (tgt : Int)) (k : XW R M L xs Z kc ks tgt ls (st) n h) : XW R M L xs Z kc ks pc ls (.int x :: st) n h :=
  fun p l e s m args below meth c b scr ca D lsA H locs C hl hz hP hS => lv_tableIn C.1 C.2.1 hd h1 h2 ho ht (k p l e s m args below meth c b scr ca D lsA H locs C hl hz hP hS)
theorem xr_tableOut {dflt lo hi : Int} {offs : Array Int} {len : Nat} {x : Int32} {tgt : Nat} (hd : decode M.2.1 pc = .ok (.tableswitch dflt lo hi offs, len)) (ho : x.toInt < lo ∨ hi < x.toInt) (ht : (pc : Int) + dflt = (tgt : Int)) (k : XW R M L xs Z kc ks tgt ls (st) n h) : XW R M L xs Z kc ks pc ls (.int x :: st) n h :=
  fun p l e s m args below meth c b scr ca D lsA H locs C hl hz hP hS => lv_tableOut C.1 C.2.1 hd ho ht (k p l e s m args below meth c b scr ca D lsA H locs C hl hz hP hS)
theorem xr_ireturn {mc ms : Nat} {Q : xQ} {x : Int32} {ty : FieldType} (hd : x_at 1 M .ireturn pc pc') (hret : M.2.2.2 = some ty) (hn : narrow ty (.int x) = .int x) (hkc : kc ≤ mc) (hks : ks ≤ ms) (hq : Q (some (.int x)) n h) : XW R M L xs (x_mq mc ms Q) kc ks pc ls [.int x] n h :=
  fun p l e s m args below meth c b scr ca D lsA H locs C hl hz hP hS => W.widen hkc hks (W.zret (ty := ty) C.1 C.2.1 (C.2.2.2.1.trans hret) hn (fun t ht hW => ⟨⟨some (.int x), n, h, rfl, hq, by rw [ht]; exact hz, by rw [ht]; exact hP⟩, hS.F ht⟩) hS.2.2 hd.1 C.2.2.2.2.1)
theorem xr_lreturn {mc ms : Nat} {Q : xQ} {x : Int64} (hd : x_at 1 M .lreturn pc pc') (hret : M.2.2.2 = some .long) (hkc : kc ≤ mc) (hks : ks ≤ ms) (hq : Q (some (.long x)) n h) : XW R M L xs (x_mq mc ms Q) kc ks pc ls [.long x] n h :=
  fun p l e s m args below meth c b scr ca D lsA H locs C hl hz hP hS => W.widen hkc hks (W.lret C.1 C.2.1 (C.2.2.2.1.trans hret) (fun t ht hW => ⟨⟨some (.long x), n, h, rfl, hq, by rw [ht]; exact hz, by rw [ht]; exact hP⟩, hS.F ht⟩) hS.2.2 hd.1 C.2.2.2.2.1)
theorem xr_areturn {mc ms : Nat} {Q : xQ} {r : Nat} {ty : FieldType} (hd : x_at 1 M .areturn pc pc') (hret : M.2.2.2 = some ty) (hrt : (∃ n, ty = .object n) ∨ ∃ t, ty = .array t) (hkc : kc ≤ mc) (hks : ks ≤ ms) (hq : Q (some (.ref r)) n h) : XW R M L xs (x_mq mc ms Q) kc ks pc ls [.ref r] n h :=
  fun p l e s m args below meth c b scr ca D lsA H locs C hl hz hP hS => W.widen hkc hks (W.aret C.1 C.2.1 (C.2.2.2.1.trans hret) hrt (Or.inr ⟨_, rfl⟩) (fun t ht hW => ⟨⟨some (.ref r), n, h, rfl, hq, by rw [ht]; exact hz, by rw [ht]; exact hP⟩, hS.F ht⟩) hS.2.2 hd.1 C.2.2.2.2.1)
theorem xr_return {mc ms : Nat} {Q : xQ} (hd : x_at 1 M .return_ pc pc') (hret : M.2.2.2 = none) (hkc : kc ≤ mc) (hks : ks ≤ ms) (hq : Q none n h) : XW R M L xs (x_mq mc ms Q) kc ks pc ls [] n h :=
  fun p l e s m args below meth c b scr ca D lsA H locs C hl hz hP hS => W.widen hkc hks (W.vret C.1 C.2.1 (C.2.2.2.1.trans hret) (fun t ht hW => ⟨⟨none, n, h, rfl, hq, by rw [ht]; exact hz, by rw [ht]; exact hP⟩, hS.F ht⟩) hS.2.2 hd.1 C.2.2.2.2.1)
/-- fields: the class's number in x_cl, the field's number in its table -/
def x_isget (M : xM) (pc pc' ci j : Nat) : Prop := ∃ (index : Nat) (K : String) (T : u_T) (N : Nat), x_at 3 M (.getfield index) pc pc' ∧ x_cl[ci]? = some (K, T, N) ∧ j < N ∧ (∀ w ∈ u_ws K T N, w ∈ x_WS) ∧ Cond.fieldLink M.1.cls index (T j).1 (T j).2.1 (T j).2.2.1 ∈ x_WS
def x_tab (K : String) (T : u_T) (N : Nat) : Prop := (∃ t0 : Nat → FieldType, ∀ k, k < N → parseFieldDescriptor (T k).2.2.1 = some (t0 k)) ∧ (∀ a, a < N → ∀ b, b < N → a ≠ b → (T a).2.1 ≠ (T b).2.1) ∧ ∀ w ∈ u_ws K T N, w ∈ x_WS
def x_isput (M : xM) (pc pc' ci j : Nat) (ty : FieldType) : Prop := ∃ (index : Nat) (K : String) (T : u_T) (N : Nat), x_at 3 M (.putfield index) pc pc' ∧ x_cl[ci]? = some (K, T, N) ∧ j < N ∧ x_tab K T N ∧ Cond.fieldLink M.1.cls index (T j).1 (T j).2.1 (T j).2.2.1 ∈ x_WS ∧ parseFieldDescriptor (T j).2.2.1 = some ty ∧ ((T j).2.2.2 = false ∨ ((T j).2.2.2 = true ∧ M.1.name = "<init>" ∧ (T j).1 = M.1.cls))
theorem xr_getf {ci j r : Nat} {fs : List Value} {v : Value} (hg : x_isget M pc pc' ci j) (hr : h r = some (.inr (ci, fs))) (hv : fs[j]? = some v) (k : XW R M L xs Z kc ks pc' ls (v :: st) n h) : XW R M L xs Z kc ks pc ls (.ref r :: st) n h := by
  intro p l e s m args below meth c b scr ca D lsA H locs C hl hz hP hS
  have kk := k p l e s m args below meth c b scr ca D lsA H locs C hl hz hP hS
  obtain ⟨index, K, T, N, ⟨hd, rfl⟩, hc, hj, hin, hlk⟩ := hg
  obtain ⟨h0, hat⟩ := hP r _ hr
  obtain ⟨hx, hb, -, -, -, hown, hts, -, hU⟩ := C
  rw [List.map_cons, x_v_ref h0]
  exact va_get (D := D) (cl := x_cl) (tys := []) (ws := [(b + r, .inr (ci, fs.map (x_v b scr)))]) (C := K) (T := T) (N := N) (fs := fs.map (x_v b scr)) (v := x_v b scr v) hx hb hts (fun w hw => List.mem_cons_of_mem _ (hin w hw)) hown hU.1.nil (x_P.sing hat) 0 rfl hc j hj (hts _ (List.mem_cons_of_mem _ hlk)) (fun _ z => z) (by rw [List.getElem?_map, hv]; rfl) hd kk
theorem xr_putf {ci j r : Nat} {fs : List Value} {v : Value} {ty : FieldType} (hg : x_isput M pc pc' ci j ty) (hr : h r = some (.inr (ci, fs))) (hlen : j < fs.length) (hn : narrow ty v = v) (hfit : fits ty v = true) (k : XW R M L xs Z kc ks pc' ls st n (va_up h r (some (.inr (ci, fs.set j v))))) : XW R M L xs Z kc ks pc ls (v :: .ref r :: st) n h := by
  intro p l e s m args below meth c b scr ca D lsA H locs C hl hz hP hS
  obtain ⟨index, K, T, N, ⟨hd, rfl⟩, hc, hj, ⟨⟨t0, hty⟩, hnm, hin⟩, hlk, hdesc, hfin⟩ := hg
  have kk := fun H1 locs1 => k p l e s m args below meth c b scr ca D lsA H1 locs1 C hl
  obtain ⟨h0, q, h1, cell, q1, q2, q3, q4⟩ := hP r _ hr
  have hq : q = (K, T, N) := Option.some.inj (h1.symm.trans hc)
  subst hq
  obtain ⟨hx, hb, -, -, -, hown, hts, hname, hU⟩ := C
  have hK := hU.1
  have hin' : ∀ w ∈ u_ws K T N, w ∈ x_ws M := fun w hw => List.mem_cons_of_mem _ (hin w hw)
  have hap := va_apart (own := M.1.cls) hts hin' t0 hty hnm hK.nil hc
  obtain ⟨hSl, hfc, kC, hkC, hkind⟩ := hK.1 ci _ hc
  obtain ⟨cf, kf, fi, f, hi, hsl⟩ := hSl j hj
  have hst := (u_facts hfc hkC (u_lays hts hin' hj) hi).1
  have hlay := hts _ (hin' _ (u_in_lay hj))
  have hl' : j < (fs.map (x_v b scr)).length := by rw [List.length_map]; exact hlen
  rw [List.map_cons, List.map_cons, x_v_ref h0]
  have done : ∀ (H' : Heap) (fl : Nat), H'[b + r]? = some (cell.setSlot (D.2 ci j) (x_v b scr v)) → H'.size = H.size → (∀ q, q ≠ b + r → H'[q]? = H[q]?) → W p l e R s m args below meth c H' (locs ++ [⟨b + r, fl⟩]) kc ks (Z below args s b scr ca D) (F0 m (pc + 3) lsA (st.map (x_v b scr))) := by
    intro H' fl e1 e2 e3
    refine kk H' _ (by rw [e2]; exact hz) (hP.set hr ?_ e3) (hS.put e2 e3 (show b < b + r by omega))
    refine ⟨_, hc, ?_⟩
    have ht := t_OB.to (V := updV (vp_V (fs.map (x_v b scr))) j (x_v b scr v)) (V' := vp_V ((fs.map (x_v b scr)).set j (x_v b scr v))) ⟨_, e1, q2, q3, t_set q4 hap hj (x_v b scr v)⟩ (fun i _ => vp_updV_set hl' (x_v b scr v) i)
    rw [← List.map_set] at ht
    exact ht
  rcases hfin with hfin | ⟨hfin, hini, hdecl⟩
  · unfold u_lay at hlay
    rw [if_neg (by rw [hfin]; decide)] at hlay
    have h6 := u_store hfc hkC hkind hlay hi hdesc (x_narrow (b := b) (scr := scr) hn) (x_fits (b := b) (scr := scr) hfit)
    refine W.putK hx hb (f := f) ⟨hown, hts _ (List.mem_cons_of_mem _ hlk), ⟨_, _, _, hi⟩, hst⟩ (by rw [q2]; exact h6) q1 q3 (by rw [hsl]; exact k2_hasslot (q4 j hj)) rfl rfl hd fun H' e1 e2 e3 => ?_
    rw [hsl] at e1
    exact done H' _ e1 e2 e3
  · unfold u_lay at hlay
    rw [if_pos hfin] at hlay
    have hcf : m.cls = cf := by
      obtain ⟨_, _, c', _, _, _, -, -, hf', -, -, -, hown2, -⟩ := Cond.laysFinal_spec hlay
      have e1 : c' = cf := by have := hi.symm.trans hf'; simp at this; exact this.1.symm
      rw [hdecl] at hown2
      rw [← e1]
      exact Option.some.inj (hown.symm.trans hown2)
    have h6 := u_fits hfc hkC hkind (Or.inr hlay) hi hdesc (x_narrow (b := b) (scr := scr) hn) (x_fits (b := b) (scr := scr) hfit)
    refine W.putFinK hx hb hown (hts _ (List.mem_cons_of_mem _ hlk)) hi hst hcf (hname.trans hini) (by rw [q2]; exact h6) q1 q3 (by rw [hsl]; exact k2_hasslot (q4 j hj)) rfl rfl hd fun H' e1 e2 e3 => ?_
    rw [hsl] at e1
    exact done H' _ e1 e2 e3

theorem xr_iaload {r t N j : Nat} {f : Nat → Int32} {i : Int32} (hd : x_at 1 M .iaload pc pc') (hr : h r = some (.inl (t, N, .inl f))) (ht : x_tys[t]? = some .int) (hi : i = nI j) (hj : j < N) (hN : N < 2 ^ 31) (k : XW R M L xs Z kc ks pc' ls (.int (f j) :: st) n h) : XW R M L xs Z kc ks pc ls (.int i :: .ref r :: st) n h := by
  intro p l e s m args below meth c b scr ca D lsA H locs C hl hz hP hS
  have kk := k p l e s m args below meth c b scr ca D lsA H locs C hl hz hP hS
  obtain ⟨hd, rfl⟩ := hd
  obtain ⟨h0, hat⟩ := hP r _ hr
  subst hi
  rw [List.map_cons, List.map_cons, x_v_ref h0]
  refine va_iald (D := D) (cl := x_cl) (ws := [(b + r, .inl (ca t, N, .inl f))]) (tys := [(ca t, .int)]) C.1 C.2.1 (C.2.2.2.2.2.2.2.2.1.one ht) (x_P.sing hat) 0 0 rfl rfl (vp_in_nI hj hN) hd ?_
  rw [nI_clamp (Nat.lt_trans hj hN)]
  exact kk
theorem xr_laload {r t N j : Nat} {f : Nat → Int64} {i : Int32} (hd : x_at 1 M .laload pc pc') (hr : h r = some (.inl (t, N, .inr (.inl f)))) (ht : x_tys[t]? = some .long) (hi : i = nI j) (hj : j < N) (hN : N < 2 ^ 31) (k : XW R M L xs Z kc ks pc' ls (.long (f j) :: st) n h) : XW R M L xs Z kc ks pc ls (.int i :: .ref r :: st) n h := by
  intro p l e s m args below meth c b scr ca D lsA H locs C hl hz hP hS
  have kk := k p l e s m args below meth c b scr ca D lsA H locs C hl hz hP hS
  obtain ⟨hd, rfl⟩ := hd
  obtain ⟨h0, hat⟩ := hP r _ hr
  subst hi
  rw [List.map_cons, List.map_cons, x_v_ref h0]
  refine va_lald (D := D) (cl := x_cl) (ws := [(b + r, .inl (ca t, N, .inr (.inl f)))]) (tys := [(ca t, .long)]) C.1 C.2.1 (C.2.2.2.2.2.2.2.2.1.one ht) (x_P.sing hat) 0 0 rfl rfl (vp_in_nI hj hN) hd ?_
  rw [nI_clamp (Nat.lt_trans hj hN)]
  exact kk
theorem xr_baload {r t N j : Nat} {f : Nat → Int32} {i : Int32} (hd : x_at 1 M .baload pc pc') (hr : h r = some (.inl (t, N, .inl f))) (ht : x_tys[t]? = some .boolean) (hi : i = nI j) (hj : j < N) (hN : N < 2 ^ 31) (k : XW R M L xs Z kc ks pc' ls (.int (f j) :: st) n h) : XW R M L xs Z kc ks pc ls (.int i :: .ref r :: st) n h := by
  intro p l e s m args below meth c b scr ca D lsA H locs C hl hz hP hS
  have kk := k p l e s m args below meth c b scr ca D lsA H locs C hl hz hP hS
  obtain ⟨hd, rfl⟩ := hd
  obtain ⟨h0, hat⟩ := hP r _ hr
  subst hi
  rw [List.map_cons, List.map_cons, x_v_ref h0]
  refine va_zald (D := D) (cl := x_cl) (ws := [(b + r, .inl (ca t, N, .inl f))]) (tys := [(ca t, .boolean)]) C.1 C.2.1 (C.2.2.2.2.2.2.2.2.1.one ht) (x_P.sing hat) 0 0 rfl rfl (vp_in_nI hj hN) hd ?_
  rw [nI_clamp (Nat.lt_trans hj hN)]
  exact kk
theorem xr_iastore {r t N j : Nat} {f : Nat → Int32} {i : Int32} {x : Int32} (hd : x_at 1 M .iastore pc pc') (hr : h r = some (.inl (t, N, .inl f))) (ht : x_tys[t]? = some .int) (hi : i = nI j) (hj : j < N) (hN : N < 2 ^ 31) (k : XW R M L xs Z kc ks pc' ls st n (va_up h r (some (.inl (t, N, .inl (va_up f j x)))))) : XW R M L xs Z kc ks pc ls (.int x :: .int i :: .ref r :: st) n h := by
  intro p l e s m args below meth c b scr ca D lsA H locs C hl hz hP hS
  have kk := fun H1 locs1 => k p l e s m args below meth c b scr ca D lsA H1 locs1 C hl
  obtain ⟨hd, rfl⟩ := hd
  obtain ⟨h0, hat⟩ := hP r _ hr
  subst hi
  have hK := C.2.2.2.2.2.2.2.2.1
  rw [List.map_cons, List.map_cons, List.map_cons, x_v_ref h0]
  have hin : ¬ (nI j < 0 ∨ (vp_cell (ca t) (N, .inl f)).slots.size ≤ (nI j).toNatClampNeg) := by
    rw [vp_cell_i, arrV_size]
    exact vp_in_nI hj hN
  refine W.iast C.1 C.2.1 hat ((hK.2 t _ ht).1 N (fun q => .int (f q))) (fun q => by cases q) hin rfl rfl hd fun H1 e1 e2 e3 => ?_
  refine kk H1 _ (by rw [e2]; exact hz) (hP.set hr ?_ e3) (hS.put e2 e3 (show b < b + r by omega))
  show H1[b + r]? = some (vp_cell _ _)
  rw [e1, nI_clamp (Nat.lt_trans hj hN)]
  show some ((vp_cell (ca t) (N, .inl f)).setSlot j _) = some (vp_cell (ca t) (N, .inl (va_up f j x)))
  rw [vp_cell_i, vp_cell_i, arrV_store]
  congr 2
  funext q
  by_cases hq : q = j
  · subst hq
    simp [updV, va_up]
  · simp [updV, va_up, hq]
theorem xr_lastore {r t N j : Nat} {f : Nat → Int64} {i : Int32} {x : Int64} (hd : x_at 1 M .lastore pc pc') (hr : h r = some (.inl (t, N, .inr (.inl f)))) (ht : x_tys[t]? = some .long) (hi : i = nI j) (hj : j < N) (hN : N < 2 ^ 31) (k : XW R M L xs Z kc ks pc' ls st n (va_up h r (some (.inl (t, N, .inr (.inl (va_up f j x))))))) : XW R M L xs Z kc ks pc ls (.long x :: .int i :: .ref r :: st) n h := by
  intro p l e s m args below meth c b scr ca D lsA H locs C hl hz hP hS
  have kk := fun H1 locs1 => k p l e s m args below meth c b scr ca D lsA H1 locs1 C hl
  obtain ⟨hd, rfl⟩ := hd
  obtain ⟨h0, hat⟩ := hP r _ hr
  subst hi
  have hK := C.2.2.2.2.2.2.2.2.1
  rw [List.map_cons, List.map_cons, List.map_cons, x_v_ref h0]
  have hin : ¬ (nI j < 0 ∨ (vp_cell (ca t) (N, .inr (.inl f))).slots.size ≤ (nI j).toNatClampNeg) := by
    rw [vp_cell_l, arrV_size]
    exact vp_in_nI hj hN
  refine W.last C.1 C.2.1 hat ((hK.2 t _ ht).1 N (fun q => .long (f q))) (fun q => by cases q) hin rfl rfl hd fun H1 e1 e2 e3 => ?_
  refine kk H1 _ (by rw [e2]; exact hz) (hP.set hr ?_ e3) (hS.put e2 e3 (show b < b + r by omega))
  show H1[b + r]? = some (vp_cell _ _)
  rw [e1, nI_clamp (Nat.lt_trans hj hN)]
  show some ((vp_cell (ca t) (N, .inr (.inl f))).setSlot j _) = some (vp_cell (ca t) (N, .inr (.inl (va_up f j x))))
  rw [vp_cell_l, vp_cell_l, arrV_store]
  congr 2
  funext q
  by_cases hq : q = j
  · subst hq
    simp [updV, va_up]
  · simp [updV, va_up, hq]
theorem xr_bastore {r t N j : Nat} {f : Nat → Int32} {i : Int32} {x : Int32} (hd : x_at 1 M .bastore pc pc') (hr : h r = some (.inl (t, N, .inl f))) (ht : x_tys[t]? = some .boolean) (hi : i = nI j) (hj : j < N) (hN : N < 2 ^ 31) (hx1 : vp_nar .boolean x = x) (k : XW R M L xs Z kc ks pc' ls st n (va_up h r (some (.inl (t, N, .inl (va_up f j x)))))) : XW R M L xs Z kc ks pc ls (.int x :: .int i :: .ref r :: st) n h := by
  intro p l e s m args below meth c b scr ca D lsA H locs C hl hz hP hS
  have kk := fun H1 locs1 => k p l e s m args below meth c b scr ca D lsA H1 locs1 C hl
  obtain ⟨hd, rfl⟩ := hd
  obtain ⟨h0, hat⟩ := hP r _ hr
  subst hi
  have hK := C.2.2.2.2.2.2.2.2.1
  rw [List.map_cons, List.map_cons, List.map_cons, x_v_ref h0]
  have hin : ¬ (nI j < 0 ∨ (vp_cell (ca t) (N, .inl f)).slots.size ≤ (nI j).toNatClampNeg) := by
    rw [vp_cell_i, arrV_size]
    exact vp_in_nI hj hN
  refine W.zast C.1 C.2.1 hat ((hK.2 t _ ht).1 N (fun q => .int (f q))) (fun q => by cases q) hin rfl rfl hd fun H1 e1 e2 e3 => ?_
  refine kk H1 _ (by rw [e2]; exact hz) (hP.set hr ?_ e3) (hS.put e2 e3 (show b < b + r by omega))
  show H1[b + r]? = some (vp_cell _ _)
  rw [e1, nI_clamp (Nat.lt_trans hj hN)]
  show some ((vp_cell (ca t) (N, .inl f)).setSlot j _) = some (vp_cell (ca t) (N, .inl (va_up f j x)))
  rw [vp_cell_i, vp_cell_i, arrV_store]
  congr 2
  funext q
  by_cases hq : q = j
  · subst hq
    have hx2 : narrow .boolean (.int x) = .int x := by unfold vp_nar at hx1; simpa [narrow] using hx1
    simp [updV, va_up, hx2]
  · simp [updV, va_up, hq]
theorem xr_aaload {r t N j : Nat} {f : Nat → Option Nat} {i : Int32} {K : String} (hd : x_at 1 M .aaload pc pc') (hr : h r = some (.inl (t, N, .inr (.inr (.inr (.inr f)))))) (ht : x_tys[t]? = some (.object K)) (hi : i = nI j) (hj : j < N) (hN : N < 2 ^ 31) (k : XW R M L xs Z kc ks pc' ls (va_rf (f j) :: st) n h) : XW R M L xs Z kc ks pc ls (.int i :: .ref r :: st) n h := by
  intro p l e s m args below meth c b scr ca D lsA H locs C hl hz hP hS
  have kk := k p l e s m args below meth c b scr ca D lsA H locs C hl hz hP hS
  obtain ⟨hd, rfl⟩ := hd
  obtain ⟨h0, hat⟩ := hP r _ hr
  subst hi
  rw [List.map_cons, List.map_cons, x_v_ref h0]
  refine va_aldq (D := D) (cl := x_cl) (ws := [(b + r, .inl (ca t, N, .inr (.inr (.inr (.inr (fun q => (f q).map (x_ad b scr)))))))]) (tys := [(ca t, .object K)]) C.1 C.2.1 (C.2.2.2.2.2.2.2.2.1.one ht) (x_P.sing hat) 0 0 rfl rfl (vp_in_nI hj hN) hd ?_
  rw [nI_clamp (Nat.lt_trans hj hN), x_rf]
  exact kk
theorem xr_aastore {r t N j y ci : Nat} {f : Nat → Option Nat} {i : Int32} {fs : List Value} {K : String} {T : u_T} {N2 : Nat} (hd : x_at 1 M .aastore pc pc') (hr : h r = some (.inl (t, N, .inr (.inr (.inr (.inr f)))))) (ht : x_tys[t]? = some (.object K)) (hy : h y = some (.inr (ci, fs))) (hc : x_cl[ci]? = some (K, T, N2)) (hi : i = nI j) (hj : j < N) (hN : N < 2 ^ 31) (k : XW R M L xs Z kc ks pc' ls st n (va_up h r (some (.inl (t, N, .inr (.inr (.inr (.inr (va_up f j (some y)))))))))) : XW R M L xs Z kc ks pc ls (.ref y :: .int i :: .ref r :: st) n h := by
  intro p l e s m args below meth c b scr ca D lsA H locs C hl hz hP hS
  have kk := fun H1 locs1 => k p l e s m args below meth c b scr ca D lsA H1 locs1 C hl
  obtain ⟨hd, rfl⟩ := hd
  obtain ⟨h0, hat⟩ := hP r _ hr
  obtain ⟨y0, q, hq1, cellV, g1, g2, g3, -⟩ := hP y _ hy
  subst hi
  have hK := C.2.2.2.2.2.2.2.2.1
  have hcls := (hK.1 ci _ hc).2
  obtain ⟨kA, comp, k1, k2, k3, -⟩ := (hK.2 t _ ht).2
  have hcomp : comp = D.1 ci := Option.some.inj (k3.symm.trans hcls.1)
  subst hcomp
  obtain ⟨kC, hkC, -⟩ := hcls.2
  rw [List.map_cons, List.map_cons, List.map_cons, x_v_ref h0, x_v_ref y0]
  refine W.aast C.1 C.2.1 hat (fun q h => by cases h) (fun h => by cases h) k1 k2 rfl hkC ⟨nI_pos (Nat.lt_trans hj hN), ?_⟩ g1 (fun q h => by rw [g3] at h; cases h) (by rw [g2]; exact hkC) (by rw [g2]; exact va_assign hcls) rfl rfl hd fun H1 e1 e2 e3 => ?_
  · show _ < (arrV _ _ _).slots.size
    rw [arrV_size, nI_clamp (Nat.lt_trans hj hN)]
    exact hj
  refine kk H1 _ (by rw [e2]; exact hz) (hP.set hr ?_ e3) (hS.put e2 e3 (show b < b + r by omega))
  show H1[b + r]? = some (vp_cell (ca t) (N, .inr (.inr (.inr (.inr (fun q => (va_up f j (some y) q).map (x_ad b scr)))))))
  rw [e1, nI_clamp (Nat.lt_trans hj hN)]
  show some ((vp_cell (ca t) (N, .inr (.inr (.inr (.inr (fun q => (f q).map (x_ad b scr))))))).setSlot j _) = _
  rw [vp_cell_q, vp_cell_q, arrV_store]
  congr 2
  funext q
  by_cases hq : q = j
  · subst hq
    simp [updV, va_up, va_rf, x_ad_pos y0]
  · simp [updV, va_up, hq]
theorem xr_alen {r t : Nat} {x : vp_A} {ty : FieldType} (hd : x_at 1 M .arraylength pc pc') (hr : h r = some (.inl (t, x))) (ht : x_tys[t]? = some ty) (k : XW R M L xs Z kc ks pc' ls (.int (nI x.1) :: st) n h) : XW R M L xs Z kc ks pc ls (.ref r :: st) n h := by
  intro p l e s m args below meth c b scr ca D lsA H locs C hl hz hP hS
  have kk := k p l e s m args below meth c b scr ca D lsA H locs C hl hz hP hS
  obtain ⟨hd, rfl⟩ := hd
  obtain ⟨h0, hat⟩ := hP r _ hr
  rw [List.map_cons, x_v_ref h0]
  exact va_alen (D := D) (cl := x_cl) (ws := [(b + r, .inl (ca t, x_a b scr x))]) (tys := [(ca t, ty)]) C.1 C.2.1 (C.2.2.2.2.2.2.2.2.1.one ht) (x_P.sing hat) 0 0 rfl rfl rfl hd kk
/-- the script -/
theorem xr_sload {i : Int32} {j : Nat} (hd : x_at 1 M .iaload pc pc') (hi : i = nI j) (hj : j < L) (hL : L < 2 ^ 31) (k : XW R M L xs Z kc ks pc' ls (.int (xs j) :: st) n h) : XW R M L xs Z kc ks pc ls (.int i :: .ref 0 :: st) n h := by
  intro p l e s m args below meth c b scr ca D lsA H locs C hl hz hP hS
  have kk := k p l e s m args below meth c b scr ca D lsA H locs C hl hz hP hS
  obtain ⟨hd, rfl⟩ := hd
  subst hi
  obtain ⟨-, -, -, hX, h1, h2⟩ := C.2.2.2.2.2.2.2.2
  have h3 : scr < s.heap.size := Nat.lt_of_le_of_lt h1 h2
  refine va_sld (A := x_A b) C.1 C.2.1 hX h3 (fun q => absurd h1 (Nat.not_le.mpr q)) hS (vp_in_nI hj hL) hd ?_
  rw [nI_clamp (Nat.lt_trans hj hL)]
  exact kk
theorem xr_slen (hd : x_at 1 M .arraylength pc pc') (k : XW R M L xs Z kc ks pc' ls (.int (nI L) :: st) n h) : XW R M L xs Z kc ks pc ls (.ref 0 :: st) n h := by
  intro p l e s m args below meth c b scr ca D lsA H locs C hl hz hP hS
  have kk := k p l e s m args below meth c b scr ca D lsA H locs C hl hz hP hS
  obtain ⟨hd, rfl⟩ := hd
  obtain ⟨-, -, -, hX, h1, h2⟩ := C.2.2.2.2.2.2.2.2
  exact va_slen (A := x_A b) C.1 C.2.1 hX (Nat.lt_of_le_of_lt h1 h2) (fun q => absurd h1 (Nat.not_le.mpr q)) hS hd kk
end XR
section XN
variable {d mc ms : Nat} {M : xM} {L : Nat} {xs : Nat → Int32} {Z : xZ} {kc ks pc pc' : Nat} {ls : List (Nat × Value)} {st : List Value} {n : Nat} {h : xH}
theorem x_n0 {b n : Nat} {s : State} {H : Heap} {locs : List Loc} (hz : H.size = b + n) (hb : b < s.heap.size) (hS : va_S (x_A b) s.heap H locs) : 0 < n := by
  have := hS.1
  omega
/-- new cells -/
def x_isnew (M : xM) (pc pc' ci N : Nat) (fs : List Value) : Prop := ∃ (index : Nat) (K : String) (T : u_T) (t0 : Nat → FieldType), x_at 3 M (.new index) pc pc' ∧ x_cl[ci]? = some (K, T, N) ∧ (∀ w ∈ u_ws K T N, w ∈ x_WS) ∧ (∀ k, k < N → parseFieldDescriptor (T k).2.2.1 = some (t0 k)) ∧ Cond.classLink M.1.cls index K ∈ x_WS ∧ Cond.instantiable K N ∈ x_WS ∧ Cond.initialized K ∈ x_WS ∧ (∀ j, j < N → defaultValue (t0 j) = vp_V fs j) ∧ ∀ b scr : Nat, fs.map (x_v b scr) = fs
theorem xr_new {ci N : Nat} {fs : List Value} (hg : x_isnew M pc pc' ci N fs) (hkc : kc + 1 ≤ mc) (hks : ks + N ≤ ms) (k : XW (x_rm d mc ms) M L xs Z (kc + 1) (ks + N) pc' ls (.ref n :: st) (n + 1) (va_up h n (some (.inr (ci, fs))))) : XW (x_rm d mc ms) M L xs Z kc ks pc ls st n h := by
  intro p l e s m args below meth c b scr ca D lsA H locs C hl hz hP hS
  have kk := fun H1 => k p l e s m args below meth c b scr ca D lsA H1 locs C hl
  obtain ⟨index, K, T, t0, ⟨hd, rfl⟩, hc, hin, hty, w1, w2, w3, hfs, hmap⟩ := hg
  obtain ⟨hx, hb, -, -, -, hown, hts, -, hU⟩ := C
  have hn0 := x_n0 hz hU.2.2.2.2.2 hS
  have hin' : ∀ w ∈ u_ws K T N, w ∈ x_ws M := fun w hw => List.mem_cons_of_mem _ (hin w hw)
  have hKn := hU.1.1 ci _ hc
  refine W.newcK hx hb hown (hts _ (List.mem_cons_of_mem _ w1)) (hts _ (List.mem_cons_of_mem _ w2)) (hts _ (List.mem_cons_of_mem _ w3)) rfl hd hkc hks hKn.2.1 hz fun H1 kC hkC e1 z1 o1 => ?_
  have k2 := kk H1 (by rw [z1]; omega) (hP.push hz hn0 (⟨_, hc, by
    show t_OB (b + n) _ _ _ _ (vp_V (fs.map (x_v b scr)))
    rw [hmap]
    exact (u_born t0 hts hin' hKn hkC e1 hty).to hfs⟩) (fun q hq => o1 q (by rw [← hz]; exact hq))) ⟨Nat.le_trans hS.1 (by rw [z1]; omega), fun q g1 g2 => (o1 q (by rw [← hz]; exact Nat.lt_of_lt_of_le g1 hS.1)).trans (hS.2.1 q g1 g2), hS.2.2⟩
  rw [List.map_cons, x_v_ref hn0] at k2
  exact k2
def x_isnewa (M : xM) (pc pc' t : Nat) (at_ : ArrayType) (ty : FieldType) : Prop := x_at 2 M (.newarray at_) pc pc' ∧ newarray.typeOf at_ = ty ∧ x_tys[t]? = some ty ∧ Cond.arrayClass ty ∈ x_WS
theorem xr_newa {t N : Nat} {at_ : ArrayType} {ty : FieldType} {a0 : vp_A} {i : Int32} (hg : x_isnewa M pc pc' t at_ ty) (hty : ty = .int ∨ ty = .long ∨ ty = .boolean) (ha : ∀ cA : ClassId, vp_cell cA a0 = arrV cA N (fun _ => defaultValue ty)) (hx0 : ∀ b scr : Nat, x_a b scr a0 = a0) (hi : i = nI N) (hN : N * 8 ≤ 536870912) (hkc : kc + 1 ≤ mc) (hks : ks + N ≤ ms) (k : XW (x_rm d mc ms) M L xs Z (kc + 1) (ks + N) pc' ls (.ref n :: st) (n + 1) (va_up h n (some (.inl (t, a0))))) : XW (x_rm d mc ms) M L xs Z kc ks pc ls (.int i :: st) n h := by
  intro p l e s m args below meth c b scr ca D lsA H locs C hl hz hP hS
  have kk := fun H1 => k p l e s m args below meth c b scr ca D lsA H1 locs C hl
  obtain ⟨⟨hd, rfl⟩, ht, htt, w1⟩ := hg
  subst ht
  subst hi
  obtain ⟨hx, hb, -, -, -, hown, hts, -, hU⟩ := C
  have hn0 := x_n0 hz hU.2.2.2.2.2 hS
  have hN2 : N < 2 ^ 31 := by omega
  refine va_newaK hx hb (hts _ (List.mem_cons_of_mem _ w1)) rfl hd rfl (nI_pos hN2) (nI_clamp hN2) ?_ hkc hks hz fun H1 cA e1 z1 o1 hAr hNm => ?_
  · rcases hty with e | e | e <;> rw [e] <;> simp only [componentBytes] <;> omega
  have hcA : cA = ca t := by
    have h9 := (hU.1.2 t _ htt).2
    rcases hty with e | e | e <;> rw [e] at h9 hNm <;> exact Option.some.inj (hNm.symm.trans h9)
  subst hcA
  have k2 := kk H1 (by rw [z1]; omega) (hP.push hz hn0 (by
    show H1[b + n]? = some (vp_cell (ca t) (x_a b scr a0))
    rw [hx0, ha]
    exact e1) (fun q hq => o1 q (by rw [← hz]; exact hq))) ⟨Nat.le_trans hS.1 (by rw [z1]; omega), fun q g1 g2 => (o1 q (by rw [← hz]; exact Nat.lt_of_lt_of_le g1 hS.1)).trans (hS.2.1 q g1 g2), hS.2.2⟩
  rw [List.map_cons, x_v_ref hn0] at k2
  exact k2
def x_isnewq (M : xM) (pc pc' t : Nat) (K : String) : Prop := ∃ index : Nat, x_at 3 M (.anewarray index) pc pc' ∧ x_tys[t]? = some (.object K) ∧ Cond.classLink M.1.cls index K ∈ x_WS ∧ Cond.arrayOver (.object K) ∈ lw_tbl
theorem xr_newq {t N : Nat} {K : String} {i : Int32} (hg : x_isnewq M pc pc' t K) (hi : i = nI N) (hN : N * 8 ≤ 536870912) (hkc : kc + 1 ≤ mc) (hks : ks + N ≤ ms) (k : XW (x_rm d mc ms) M L xs Z (kc + 1) (ks + N) pc' ls (.ref n :: st) (n + 1) (va_up h n (some (.inl (t, N, .inr (.inr (.inr (.inr (fun _ => none))))))))) : XW (x_rm d mc ms) M L xs Z kc ks pc ls (.int i :: st) n h := by
  intro p l e s m args below meth c b scr ca D lsA H locs C hl hz hP hS
  have kk := fun H1 => k p l e s m args below meth c b scr ca D lsA H1 locs C hl
  obtain ⟨index, ⟨hd, rfl⟩, htt, w1, w2⟩ := hg
  subst hi
  obtain ⟨hx, hb, -, -, -, hown, hts, -, hU⟩ := C
  have hn0 := x_n0 hz hU.2.2.2.2.2 hS
  have hN2 : N < 2 ^ 31 := by omega
  have hcl := nI_clamp hN2
  refine W.anew hx hb hown (hts _ (List.mem_cons_of_mem _ w1)) (va_AO.use (hU.2.2.1 K w2)) rfl hd rfl (nI_pos hN2) (by rw [hcl]; omega) hkc (by rw [hcl]; exact hks) fun cA kA comp f1 f2 f3 f4 => ?_
  rw [hcl]
  obtain ⟨kA', comp', r1, r2, r3, r4⟩ := (hU.1.2 t _ htt).2
  have hcA : cA = ca t := Option.some.inj (f1.symm.trans r4)
  subst hcA
  generalize hH1 : H.push ({ cls := ca t, slots := Array.replicate N .null, vm := .none } : Cell) = H1
  have z1 : H1.size = H.size + 1 := by rw [← hH1, Array.size_push]
  have e1 : H1[H.size]? = some (arrV (ca t) N (fun _ => .null)) := by rw [← hH1, Array.getElem?_push_size, ← arrV_new]
  have o1 : ∀ q : Nat, q < H.size → H1[q]? = H[q]? := fun q hq => by rw [← hH1, Array.getElem?_push, if_neg (Nat.ne_of_lt hq)]
  have k2 := kk H1 (by rw [z1]; omega) (hP.push hz hn0 (by
    show H1[b + n]? = some (vp_cell (ca t) (N, _))
    rw [← hz]
    exact e1) o1) ⟨Nat.le_trans hS.1 (by rw [z1]; omega), fun q g1 g2 => (o1 q (Nat.lt_of_lt_of_le g1 hS.1)).trans (hS.2.1 q g1 g2), hS.2.2⟩
  rw [List.map_cons, x_v_ref hn0, ← hz] at k2
  exact k2
/-- calls -/
def x_callee (N : xM) (na : Nat) : Prop := Cond.code N.1 N.2.1 N.2.2.1 N.2.2.2 ∈ x_WS ∧ (N.1.cls ≠ "java/lang/invoke/MethodHandle" ∧ N.1.cls ≠ "java/lang/invoke/VarHandle" ∧ (parseMethodDescriptor N.1.desc).map (fun d => d.parameters.length) = some na) ∧ Cond.initialized N.1.cls ∈ x_WS ∧ N.2.2.1 + 19 ≤ x_k
def x_link (M N : xM) (index : Nat) : Prop := Cond.methodLink M.1.cls index N.1 ∈ x_WS ∨ ∃ host : String, Cond.methodLinkNest M.1.cls index N.1 host ∈ lw_tbl
def x_isS (M N : xM) (pc pc' na : Nat) : Prop := ∃ index : Nat, x_at 3 M (.invokestatic index) pc pc' ∧ x_callee N na ∧ Cond.static N.1 ∈ x_WS ∧ x_link M N index
def x_isV (M N : xM) (pc pc' na ci : Nat) : Prop := ∃ (index : Nat) (T : u_T) (K : Nat), x_at 3 M (.invokevirtual index) pc pc' ∧ x_callee N na ∧ Cond.instanceMethod N.1 ∈ x_WS ∧ Cond.selects N.1.cls N.1 N.1 ∈ x_WS ∧ x_cl[ci]? = some (N.1.cls, T, K) ∧ x_link M N index
def x_isI (M N : xM) (pc pc' na : Nat) : Prop := ∃ index : Nat, x_at 3 M (.invokespecial index) pc pc' ∧ x_callee N na ∧ N.1.name = "<init>" ∧ N.2.2.2 = none ∧ Cond.instanceMethod N.1 ∈ x_WS ∧ x_link M N index
theorem x_room {d d' mc' ms' w : Nat} (hd : d' + 1 ≤ d) (hw : w + 19 ≤ x_k) : (x_rm d' mc' ms').frames + 1 ≤ (x_rm d mc ms).frames ∧ 8 + (w + 11) + (x_rm d' mc' ms').locals ≤ (x_rm d mc ms).locals := by
  refine ⟨hd, ?_⟩
  show 8 + (w + 11) + x_k * d' ≤ x_k * d
  have h1 : x_k * (d' + 1) ≤ x_k * d := Nat.mul_le_mul_left _ hd
  rw [Nat.mul_succ] at h1
  omega
theorem xr_invS {N : xM} {na d' mc' ms' : Nat} {as rest : List Value} {Q : xQ} (hc : x_isS M N pc pc' na) (hM : XM d' mc' ms' N L xs as n h Q) (hst : st = as.reverse ++ rest) (hn : as.length = na) (hdd : d' + 1 ≤ d) (hkc : kc + mc' ≤ mc) (hks : ks + ms' ≤ ms) (hrest : (rest.map fun v => v.category).sum ≤ 8) (k : ∀ (r : Option Value) (n' : Nat) (h' : xH), Q r n' h' → XW (x_rm d mc ms) M L xs Z (kc + mc') (ks + ms') pc' ls (r.toList ++ rest) n' h') : XW (x_rm d mc ms) M L xs Z kc ks pc ls st n h := by
  intro p l e s m args below meth c b scr ca D lsA H locs C hl hz hP hS
  obtain ⟨index, ⟨hd, rfl⟩, ⟨w1, w2, w3, w4⟩, w5, w6⟩ := hc
  have kk := fun r n' h' hq H1 locs1 => k r n' h' hq p l e s m args below meth c b scr ca D lsA H1 locs1 C hl
  have hpre := x_pre C hz hP hS as
  obtain ⟨hx, hb, hml, -, -, hown, hts, -, hU⟩ := C
  subst hst
  have hT : ∀ w ∈ x_WS, w.before args s = true := fun w hw => hts w (List.mem_cons_of_mem _ hw)
  have hrun : va_Run p l e (x_rm d mc ms) s m args below meth c H locs kc ks mc' ms' (F0 m pc lsA ((as.reverse ++ rest).map (x_v b scr))) (rest.map (x_v b scr)) (x_Qc D b scr ca Q (as.map (x_v b scr)).toArray) (x_A b) := by
    have hs : ((as.reverse ++ rest).map (x_v b scr)) = (as.map (x_v b scr)).reverse ++ rest.map (x_v b scr) := by rw [List.map_append, List.map_reverse]
    have hW : ((rest.map (x_v b scr)).map fun v => v.category).sum ≤ 8 := by rw [x_cats]; exact hrest
    rcases w6 with w6 | ⟨host, w6⟩
    · exact va_runS (n := na) (y := N.1) (bytes := N.2.1) (maxL := N.2.2.1) (ret := N.2.2.2) ⟨hx, hb, hml, hown, hts⟩ (hM l b scr ca D) ⟨callB_of na hts (x_GoodIn M N w1) rfl rfl rfl (hT _ w3) (hT _ w6) w2 (x_room hdd w4), hT _ w5⟩ ⟨x_blind D b scr L xs ca as n h, hpre⟩ rfl (by rw [List.length_map]; exact hn) hl.1 hs (lv_room hW) hd ⟨hkc, hks⟩
    · exact va_runSN (n := na) (y := N.1) (bytes := N.2.1) (maxL := N.2.2.1) (ret := N.2.2.2) ⟨hx, hb, hml, hown, hts⟩ (hM l b scr ca D) ⟨va_cnB na hts (x_GoodIn M N w1) rfl rfl rfl (hU.2.1 _ w6 rfl) (hT _ w3) w2 (x_room hdd w4), hT _ w5, trivial⟩ ⟨x_blind D b scr L xs ca as n h, hpre⟩ rfl (by rw [List.length_map]; exact hn) hl.1 hs (lv_room hW) hd ⟨hkc, hks⟩
  refine x_go hrun hS (fun r n' h' H1 locs1 hq z1 hP1 hS1 => ?_)
  have k2 := kk r n' h' hq H1 locs1 z1 hP1 hS1
  rw [List.map_append] at k2
  cases r <;> exact k2
theorem xr_invV {N : xM} {na ci d' mc' ms' r : Nat} {fs as rest : List Value} {Q : xQ} (hc : x_isV M N pc pc' na ci) (hr : h r = some (.inr (ci, fs))) (hM : XM d' mc' ms' N L xs (.ref r :: as) n h Q) (hst : st = as.reverse ++ .ref r :: rest) (hn : as.length = na) (hdd : d' + 1 ≤ d) (hkc : kc + mc' ≤ mc) (hks : ks + ms' ≤ ms) (hrest : (rest.map fun v => v.category).sum ≤ 8) (k : ∀ (r : Option Value) (n' : Nat) (h' : xH), Q r n' h' → XW (x_rm d mc ms) M L xs Z (kc + mc') (ks + ms') pc' ls (r.toList ++ rest) n' h') : XW (x_rm d mc ms) M L xs Z kc ks pc ls st n h := by
  intro p l e s m args below meth c b scr ca D lsA H locs C hl hz hP hS
  obtain ⟨index, T, K, ⟨hd, rfl⟩, ⟨w1, w2, w3, w4⟩, w5, w7, hcl, w6⟩ := hc
  have kk := fun r n' h' hq H1 locs1 => k r n' h' hq p l e s m args below meth c b scr ca D lsA H1 locs1 C hl
  have hpre := x_pre C hz hP hS (.ref r :: as)
  obtain ⟨hx, hb, hml, -, -, hown, hts, -, hU⟩ := C
  subst hst
  obtain ⟨h0, hat⟩ := hP r _ hr
  have hrec := va_recv (q0 := 0) (fs := fs.map (x_v b scr)) hU.1.nil (x_P.sing hat) hcl rfl
  have hT : ∀ w ∈ x_WS, w.before args s = true := fun w hw => hts w (List.mem_cons_of_mem _ hw)
  rw [List.map_cons, x_v_ref h0] at hpre
  have hrun : va_Run p l e (x_rm d mc ms) s m args below meth c H locs kc ks mc' ms' (F0 m pc lsA ((as.reverse ++ .ref r :: rest).map (x_v b scr))) (rest.map (x_v b scr)) (x_Qc D b scr ca Q (.ref (b + r) :: as.map (x_v b scr)).toArray) (x_A b) := by
    have hs : ((as.reverse ++ .ref r :: rest).map (x_v b scr)) = (as.map (x_v b scr)).reverse ++ .ref (b + r) :: rest.map (x_v b scr) := by rw [List.map_append, List.map_reverse, List.map_cons, x_v_ref h0]
    have hW : ((rest.map (x_v b scr)).map fun v => v.category).sum ≤ 8 := by rw [x_cats]; exact hrest
    rcases w6 with w6 | ⟨host, w6⟩
    · exact va_runV (n := na) (y := N.1) (C := N.1.cls) (bytes := N.2.1) (maxL := N.2.2.1) (ret := N.2.2.2) ⟨hx, hb, hml, hown, hts⟩ (hM l b scr ca D) ⟨callB_of na hts (x_GoodIn M N w1) rfl rfl rfl (hT _ w3) (hT _ w6) w2 (x_room hdd w4), hT _ w5, hT _ w7⟩ ⟨x_blind D b scr L xs ca (.ref r :: as) n h, hrec, hpre⟩ rfl (by rw [List.length_map]; exact hn) hl.1 hs (lv_room hW) hd ⟨hkc, hks⟩
    · exact va_runVN (n := na) (y := N.1) (C := N.1.cls) (bytes := N.2.1) (maxL := N.2.2.1) (ret := N.2.2.2) ⟨hx, hb, hml, hown, hts⟩ (hM l b scr ca D) ⟨va_cnB na hts (x_GoodIn M N w1) rfl rfl rfl (hU.2.1 _ w6 rfl) (hT _ w3) w2 (x_room hdd w4), hT _ w5, hT _ w7⟩ ⟨x_blind D b scr L xs ca (.ref r :: as) n h, hrec, hpre⟩ rfl (by rw [List.length_map]; exact hn) hl.1 hs (lv_room hW) hd ⟨hkc, hks⟩
  refine x_go hrun hS (fun r n' h' H1 locs1 hq z1 hP1 hS1 => ?_)
  have k2 := kk r n' h' hq H1 locs1 z1 hP1 hS1
  rw [List.map_append] at k2
  cases r <;> exact k2
theorem xr_invI {N : xM} {na d' mc' ms' r : Nat} {as rest : List Value} {Q : xQ} (hc : x_isI M N pc pc' na) (hr0 : 0 < r) (hM : XM d' mc' ms' N L xs (.ref r :: as) n h Q) (hst : st = as.reverse ++ .ref r :: rest) (hn : as.length = na) (hdd : d' + 1 ≤ d) (hkc : kc + mc' ≤ mc) (hks : ks + ms' ≤ ms) (hrest : (rest.map fun v => v.category).sum ≤ 8) (k : ∀ (r : Option Value) (n' : Nat) (h' : xH), Q r n' h' → XW (x_rm d mc ms) M L xs Z (kc + mc') (ks + ms') pc' ls (r.toList ++ rest) n' h') : XW (x_rm d mc ms) M L xs Z kc ks pc ls st n h := by
  intro p l e s m args below meth c b scr ca D lsA H locs C hl hz hP hS
  obtain ⟨index, ⟨hd, rfl⟩, ⟨w1, w2, w3, w4⟩, hy, hret, w5, w6⟩ := hc
  have kk := fun r n' h' hq H1 locs1 => k r n' h' hq p l e s m args below meth c b scr ca D lsA H1 locs1 C hl
  have hpre := x_pre C hz hP hS (.ref r :: as)
  obtain ⟨hx, hb, hml, -, -, hown, hts, -, hU⟩ := C
  subst hst
  have hT : ∀ w ∈ x_WS, w.before args s = true := fun w hw => hts w (List.mem_cons_of_mem _ hw)
  have hws : x_ws N = Cond.code N.1 N.2.1 N.2.2.1 none :: x_WS := by unfold x_ws; rw [hret]
  rw [List.map_cons, x_v_ref hr0] at hpre
  have hrun : va_Run p l e (x_rm d mc ms) s m args below meth c H locs kc ks mc' ms' (F0 m pc lsA ((as.reverse ++ .ref r :: rest).map (x_v b scr))) (rest.map (x_v b scr)) (x_Qc D b scr ca Q (.ref (b + r) :: as.map (x_v b scr)).toArray) (x_A b) := by
    have hs : ((as.reverse ++ .ref r :: rest).map (x_v b scr)) = (as.map (x_v b scr)).reverse ++ .ref (b + r) :: rest.map (x_v b scr) := by rw [List.map_append, List.map_reverse, List.map_cons, x_v_ref hr0]
    have hW : ((rest.map (x_v b scr)).map fun v => v.category).sum ≤ 8 := by rw [x_cats]; exact hrest
    rcases w6 with w6 | ⟨host, w6⟩
    · exact va_runI (n := na) (y := N.1) (bytes := N.2.1) (maxL := N.2.2.1) ⟨hx, hb, hml, hown, hts⟩ (hM l b scr ca D) ⟨callB_of na hts (x_GoodIn M N w1) hws rfl rfl (hT _ w3) (hT _ w6) w2 (x_room hdd w4), hy, hT _ w5⟩ ⟨x_blind D b scr L xs ca (.ref r :: as) n h, hpre⟩ rfl (by rw [List.length_map]; exact hn) hl.1 hs (lv_room hW) hd ⟨hkc, hks⟩
    · exact va_runIN (n := na) (y := N.1) (bytes := N.2.1) (maxL := N.2.2.1) ⟨hx, hb, hml, hown, hts⟩ (hM l b scr ca D) ⟨va_cnB na hts (x_GoodIn M N w1) hws rfl rfl (hU.2.1 _ w6 rfl) (hT _ w3) w2 (x_room hdd w4), hy, hT _ w5⟩ ⟨x_blind D b scr L xs ca (.ref r :: as) n h, hpre⟩ rfl (by rw [List.length_map]; exact hn) hl.1 hs (lv_room hW) hd ⟨hkc, hks⟩
  refine x_go hrun hS (fun r n' h' H1 locs1 hq z1 hP1 hS1 => ?_)
  have k2 := kk r n' h' hq H1 locs1 z1 hP1 hS1
  rw [List.map_append] at k2
  cases r <;> exact k2
def x_isO (M : xM) (pc pc' : Nat) : Prop := ∃ index : Nat, x_at 3 M (.invokespecial index) pc pc' ∧ Cond.methodLink M.1.cls index objectInit ∈ x_WS ∧ Cond.instanceMethod objectInit ∈ x_WS ∧ Cond.code objectInit ⟨#[0xb1]⟩ 1 none ∈ x_WS
theorem xr_objInit {r : Nat} {rest : List Value} (hc : x_isO M pc pc') (hd1 : 1 ≤ d) (hrest : (rest.map fun v => v.category).sum ≤ 8) (k : XW (x_rm d mc ms) M L xs Z kc ks pc' ls rest n h) : XW (x_rm d mc ms) M L xs Z kc ks pc ls (.ref r :: rest) n h := by
  intro p l e s m args below meth c b scr ca D lsA H locs C hl hz hP hS
  have kk := k p l e s m args below meth c b scr ca D lsA H locs C hl hz hP hS
  obtain ⟨index, ⟨hd, rfl⟩, w1, w2, w3⟩ := hc
  obtain ⟨hx, hb, hml, -, -, hown, hts, -, hU⟩ := C
  have hT : ∀ w ∈ x_WS, w.before args s = true := fun w hw => hts w (List.mem_cons_of_mem _ hw)
  refine W.objInit hx hb hown (hT _ w1) (hT _ w2) (hT _ w3) rfl (hl.1.trans hml.symm) rfl hd hd1 ?_ kk
  show 2 * 0 + ((rest.map (x_v b scr)).map fun v => v.category).sum + 12 ≤ x_k * d
  rw [x_cats]
  have h1 : x_k * 1 ≤ x_k * d := Nat.mul_le_mul_left _ hd1
  have h2 : x_k = 64 := rfl
  omega
end XN
