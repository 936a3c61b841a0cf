/-! THE CLAIM OUT OF ONE WALK OF THE LAW'S BODY. Your part is whole_start (and what it stands on); all else here is the same for every law, but numbers. -/
def R_law : String := "ViewMediatorLaw"
def lw_P (b : Addr) (xs : List Int32) (args : Array Value) (s : State) : Prop := args = #[.ref b] ∧ s.IntsAt b xs ∧ xs.length ≤ 2560 ∧ (Jvm.Cond.and given_1 narrow_1).before args s = true
def lw_Q (_ : Array Value) (s : State) (o : Outcome) (t : State) : Prop := o = .returned (some (.int 1)) ∧ Framed s o t [] 600000 7302250
def lw_Z (below : List Frame) (a : Array Value) (s : State) : State → Prop := fun t => ∃ o, t.status = .running ∧ Ended t below o ∧ lw_Q a s o t
/-- the law's own end, with 1 on the stack, nothing written that was there before, its room as the claim has it -/
theorem lw_ret {p : Program} {l : Launch} {e : Env} {R : Room} {s : State} {args : Array Value} {m : MethodId} {below : List Frame} {meth : Method} {c : Code} (hx : p.tables.exec = Jvm.exec) (hb : c.code = code) (hr : meth.sig.returnType = ret) (hlocks : meth.locks = false) {pc : Nat} {H : Heap} {ls : Array Slot} (hdg : decode code pc = .ok (.ireturn, 1)) : W p l e R s m args below meth c H [] 600000 7302250 (lw_Z below args s) (F0 m pc ls [.int 1]) := by
  intro T hT X
  obtain ⟨fs, hret, hrun, hended, hW, hframe⟩ := X.leave (v := some (.int 1)) (hlocks := hlocks) (fun h => by rw [hr] at h; cases h)
  have hmeth' : T.vm.method? m = some meth := X.method'
  refine ⟨T.setFrames fs, ?_, .returned (some (.int 1)), hrun, hended, rfl, ⟨_, rfl⟩, hW, hframe⟩
  jvm_step X.here [X.here.top, hx, hb, hdg, hmeth', hr, ret, narrow_b1]
  (try refine ⟨rfl, ?_⟩); (try refine ⟨rfl, ?_⟩)
  first | (intro acts; rw [hret _ acts rfl rfl rfl]) | rw [hret _ _ rfl rfl rfl]
  exact Steps.refl _
/-- what holds at the law's entry: the machine, the code, the tables' words (any of lw_tbl by 'hts w (by decide +kernel)'), the script of L ints xs at the cell b, what the Statement gives of the start (any of its parts by flat_of_before) -/
def lw_At (p : Program) (s : State) (m : MethodId) (meth : Method) (c : Code) (b L : Nat) (xs : Nat → Int32) : Prop :=
  p.tables.exec = Jvm.exec ∧ c.code = code ∧ meth.sig.returnType = ret ∧ c.maxLocals = 4 ∧ s.vm.findClass R_law = some m.cls ∧ (∀ w ∈ lw_tbl, w.before #[Value.ref b] s = true) ∧ va_X b L xs s s.heap ∧ b < s.heap.size ∧ meth.locks = false ∧ (Jvm.Cond.and given_1 narrow_1).before #[Value.ref b] s = true ∧ (Jvm.Cond.code x code maxLocals ret).before #[Value.ref b] s = true ∧ meth.name = "law"
-- ===== YOUR PART BEGINS =====
theorem room_le {s : State} {pl : Platform} {r r' : Room} (h : s.hasRoom pl r = true) (h1 : r'.frames ≤ r.frames) (h2 : r'.cells ≤ r.cells) (h3 : r'.slots ≤ r.slots) (h4 : r'.locals ≤ r.locals) : s.hasRoom pl r' = true := by
  unfold State.hasRoom at h ⊢
  simp only [Bool.and_eq_true, decide_eq_true_eq] at h ⊢
  obtain ⟨⟨⟨⟨g1, g2, g3, g4, g5, g6⟩, g7⟩, g8⟩, g9⟩ := h
  exact ⟨⟨⟨⟨by omega, by omega, by omega, by omega, by omega, g6⟩, by omega⟩, by omega⟩, g9⟩
theorem x_Kn {args : Array Value} {s : State} (hts : ∀ w ∈ lw_tbl, w.before args s = true) : ∃ (D : va_G) (ca : Nat → ClassId), x_K D ca s := by
  have ht : ∀ w ∈ x_WS, w.before args s = true := fun w hw => hts w (x_WS_good hw).1
  have h1 : ∀ c : Nat, ∃ q : ClassId × (Nat → Nat), ∀ r : vw_C, x_cl[c]? = some r → u_Kn s r.1 r.2.1 r.2.2 q.1 q.2 := by
    intro c
    match c with
    | 0 => obtain ⟨cC, iS, h⟩ := u_known ht u_VM (ht _ w_60); exact ⟨(cC, iS), fun r hr => by cases hr; exact h⟩
    | 1 => obtain ⟨cC, iS, h⟩ := u_known ht u_Mod (ht _ w_597); exact ⟨(cC, iS), fun r hr => by cases hr; exact h⟩
    | 2 => obtain ⟨cC, iS, h⟩ := u_known ht u_Asker (ht _ w_193); exact ⟨(cC, iS), fun r hr => by cases hr; exact h⟩
    | 3 => obtain ⟨cC, iS, h⟩ := u_known ht u_AtomList (ht _ w_72); exact ⟨(cC, iS), fun r hr => by cases hr; exact h⟩
    | 4 => obtain ⟨cC, iS, h⟩ := u_known ht u_Disjunct (ht _ w_148); exact ⟨(cC, iS), fun r hr => by cases hr; exact h⟩
    | 5 => obtain ⟨cC, iS, h⟩ := u_known ht u_Images (ht _ w_124); exact ⟨(cC, iS), fun r hr => by cases hr; exact h⟩
    | 6 => obtain ⟨cC, iS, h⟩ := u_known ht u_Mapper (ht _ w_118); exact ⟨(cC, iS), fun r hr => by cases hr; exact h⟩
    | 7 => obtain ⟨cC, iS, h⟩ := u_known ht u_Marks (ht _ w_199); exact ⟨(cC, iS), fun r hr => by cases hr; exact h⟩
    | 8 => obtain ⟨cC, iS, h⟩ := u_known ht u_Plan (ht _ w_108); exact ⟨(cC, iS), fun r hr => by cases hr; exact h⟩
    | 9 => obtain ⟨cC, iS, h⟩ := u_known ht u_Relation (ht _ w_252); exact ⟨(cC, iS), fun r hr => by cases hr; exact h⟩
    | 10 => obtain ⟨cC, iS, h⟩ := u_known ht u_View (ht _ w_278); exact ⟨(cC, iS), fun r hr => by cases hr; exact h⟩
    | c + 11 => exact ⟨(0, fun _ => 0), fun r hr => by simp at hr⟩
  have h2 : ∀ t : Nat, ∃ cA : ClassId, ∀ ty : FieldType, x_tys[t]? = some ty → ArrOfT s cA ty ∧ va_RA s cA ty := by
    intro t
    match t with
    | 0 => obtain ⟨cA, k, comp, g1, g2, g3⟩ := Cond.arrayClass_spec (ht _ w_106); exact ⟨cA, fun ty hty => by cases hty; exact ⟨fun n z => ⟨fun k h => (by cases h), k, g2, comp, g3⟩, g1⟩⟩
    | 1 => obtain ⟨cA, k, comp, g1, g2, g3⟩ := Cond.arrayClass_spec (ht _ w_208); exact ⟨cA, fun ty hty => by cases hty; exact ⟨fun n z => ⟨fun k h => (by cases h), k, g2, comp, g3⟩, g1⟩⟩
    | 2 => obtain ⟨cA, k, comp, g1, g2, g3⟩ := Cond.arrayClass_spec (ht _ w_693); exact ⟨cA, fun ty hty => by cases hty; exact ⟨fun n z => ⟨fun k h => (by cases h), k, g2, comp, g3⟩, g1⟩⟩
    | 3 => obtain ⟨comp, cA, k, g1, -, g3, g4, g5⟩ := Cond.arrayOver_spec (hts _ (w_68)); exact ⟨cA, fun ty hty => by cases hty; exact ⟨fun n z => ⟨fun k h => (by cases h), k, g3, comp, g4⟩, k, comp, g3, g4, g1, g5⟩⟩
    | 4 => obtain ⟨comp, cA, k, g1, -, g3, g4, g5⟩ := Cond.arrayOver_spec (hts _ (w_70)); exact ⟨cA, fun ty hty => by cases hty; exact ⟨fun n z => ⟨fun k h => (by cases h), k, g3, comp, g4⟩, k, comp, g3, g4, g1, g5⟩⟩
    | 5 => obtain ⟨comp, cA, k, g1, -, g3, g4, g5⟩ := Cond.arrayOver_spec (hts _ (w_114)); exact ⟨cA, fun ty hty => by cases hty; exact ⟨fun n z => ⟨fun k h => (by cases h), k, g3, comp, g4⟩, k, comp, g3, g4, g1, g5⟩⟩
    | 6 => obtain ⟨comp, cA, k, g1, -, g3, g4, g5⟩ := Cond.arrayOver_spec (hts _ (w_116)); exact ⟨cA, fun ty hty => by cases hty; exact ⟨fun n z => ⟨fun k h => (by cases h), k, g3, comp, g4⟩, k, comp, g3, g4, g1, g5⟩⟩
    | t + 7 => exact ⟨0, fun ty hty => by simp at hty⟩
  obtain ⟨f, hf⟩ := Classical.axiomOfChoice h1
  obtain ⟨ca, hca⟩ := Classical.axiomOfChoice h2
  exact ⟨(fun c => (f c).1, fun c => (f c).2), ca, hf, hca⟩
def lw_ZZ : xZ := fun below args s b _ _ _ t => s.heap.size = b + 1 → lw_Z below args s t
theorem lw_fin {L : Nat} {xs : Nat → Int32} (h : xH) : XW (x_rm 100 600000 7302250) k_Law_law L xs lw_ZZ 137 11544 618 [] [] 138 h := by
  refine xr_iconst a_Law_law_618 (v := 1) (by decide +kernel) ?_
  intro p l e s m args below meth c b scr ca D lsA H locs C hl hz hP hS
  by_cases hs : s.heap.size = b + 1
  · have k : W p l e (x_rm 100 600000 7302250) s m args below meth c H locs 137 11544 (lw_Z below args s) (F0 m 619 lsA [.int 1]) := va_forget (fun q hq => by have h9 : b < q.base := hS.2.2 q hq; omega) (W.widen (k := 600000) (n := 7302250) (by omega) (by omega) (lw_ret C.1 C.2.1 C.2.2.2.1 C.2.2.2.2.1 a_Law_law_619.1))
    intro T hT X
    obtain ⟨t, a1, a2⟩ := k T hT X
    exact ⟨t, a1, fun _ => a2⟩
  · intro T hT X
    exact ⟨_, Steps.refl _, fun h9 => absurd h9 hs⟩
set_option maxHeartbeats 4000000 in
theorem whole_start {p : Program} {e : Env} {s : State} {m : MethodId} {below : List Frame} {meth : Method} {c : Code} (l : Launch) {b L : Nat} {xs : Nat → Int32} (hL : L ≤ 2560) (C0 : lw_At p s m meth c b L xs) : W p l e room_1 s m #[Value.ref b] below meth c s.heap [] 0 0 (lw_Z below #[Value.ref b] s) (entryFrame m ([Value.ref b] : List Value).toArray 4) := by
  obtain ⟨hx, hb, hr, hml, hown, hts, hX, hbl, hlk, -, hcode, hname⟩ := C0
  obtain ⟨D, ca, hK⟩ := x_Kn hts
  have hl := lv_entry ([Value.ref b] : List Value) (n := 4) (Nat.le_of_ble_eq_true rfl)
  rw [lg_entry_eq]
  generalize (lg_sl ([Value.ref b] : List Value) ++ List.replicate (4 - (lg_sl ([Value.ref b] : List Value)).length) Slot.unset).toArray = lsA at hl ⊢
  have hU : x_U (s.heap.size - 1) b L xs ca D s := ⟨hK, fun w hw hn => va_Nw.of (x_nest_tab hn) (hts w hw), fun C hC => va_AO.of (hts _ hC), hX, by omega, by omega⟩
  have hl : lv_has lsA 4 [(0, Value.ref b)] := hl
  have hL0 : x_L (s.heap.size - 1) b 4 [(0, Value.ref 0)] lsA := by
    refine ⟨hl.1, hl.2.1, fun i v hi => ?_⟩
    have e9 := List.mem_singleton.mp (x_get_mem hi)
    cases e9
    exact hl.2.2 (0, Value.ref b) List.mem_cons_self
  have k := lw_main (d := 100) (mc := 600000) (ms := 7302250) (L := L) (xs := xs) (Z := lw_ZZ) (by omega) (by omega) (by omega) (by omega) lw_fin (fun _ => none) p l e s m #[Value.ref b] below meth c (s.heap.size - 1) b ca D lsA s.heap [] ⟨hx, hb, hml, hr, hlk, hown, fun w hw => (List.mem_cons.mp hw).elim (fun e => by rw [e]; exact hcode) (fun h => hts w (x_WS_good h).1), hname, hU⟩ hL0 (by omega) (fun r e he => by cases he) va_S.rf
  intro T hT X
  obtain ⟨t, a1, a2⟩ := k T hT ⟨X.admits, X.cas, X.clock, X.frames, room_le X.room (by decide) (by decide) (by decide) (by decide), X.hears, X.method, X.code, X.here, X.tail, X.warmed, X.limits, X.bytes, X.same⟩
  exact ⟨t, a1, a2 (by omega)⟩
-- ===== YOUR PART ENDS =====
set_option maxHeartbeats 4000000 in
theorem lw_walk (l : Launch) (b : Addr) (xs : List Int32) : MetFree l x (headSpec (Jvm.Cond.code x code maxLocals ret :: tables_1) room_1) (lw_P b xs) (fun _ _ _ _ _ => True) lw_Q := by
  refine MetFree.of_bodyS (code := code) (maxLocals := maxLocals) (ret := ret) (by decide) ?_ ?_
  · intro args s m h hn
    obtain ⟨meth, c, h1, h2, h3, h4, h5, h6, -, -⟩ := Cond.code_spec hn (atoms_spec (ws := Jvm.Cond.code x code maxLocals ret :: tables_1) h _ List.mem_cons_self)
    exact ⟨meth, c, h1, h2, h3, h4, h5, h6⟩
  · intro p e s m args below meth c s₁ B hml0 hP _
    obtain ⟨rfl, hx, hbd, hgv⟩ := hP
    obtain ⟨scr, harrAt, hlist, hof, hsmall⟩ := hx
    obtain ⟨hcb, hkn, -, -⟩ := State.arrayAt?_spec harrAt
    have hown : s.vm.findClass R_law = some m.cls := findClass_of_methodNamed B.named
    have hts0 : ∀ c ∈ (Jvm.Cond.code x code maxLocals ret :: tables_1), c.before #[Value.ref b] s = true := atoms_spec (ws := Jvm.Cond.code x code maxLocals ret :: tables_1) B.pre
    have hts : ∀ w ∈ lw_tbl, w.before #[Value.ref b] s = true := k2_hts_sels lw_privs (fun w hw => hts0 w (List.mem_cons_of_mem _ hw)) lw_privs_ok
    have hml : c.maxLocals = 4 := B.maxLocals_eq (hts0 _ List.mem_cons_self)
    have X₀ : Stand p l e room_1 s m #[Value.ref b] below meth c s₁ [] 0 0 := Stand.of_body B
    have hh0 : s₁.heap = s.heap := by rw [B.state]; rfl
    have hsz : scr.slots.size = xs.length := by rw [← Array.length_toList, hlist, List.length_map]
    have hval : ∀ j : Nat, j < xs.length → scr.slots[j]? = some (.int (xs.getD j 0)) := fun j hj => by
      rw [← Array.getElem?_toList, hlist]
      simp [hj]
    have hbl : b < s.heap.size := (Array.getElem?_eq_some_iff.mp hcb).1
    have hX : va_X b xs.length (fun j => xs.getD j 0) s s.heap := ⟨scr, hcb, hof, hkn, hsz, hval⟩
    have K : W p l e room_1 s m #[Value.ref b] below meth c s₁.heap [] 0 0 (lw_Z below #[Value.ref b] s) (entryFrame m ([Value.ref b] : List Value).toArray 4) := by
      rw [hh0]
      exact whole_start l hbd ⟨B.exec, B.bytes, B.returns, hml, hown, hts, hX, hbl, B.notSynchronized, hgv, hts0 _ List.mem_cons_self, (name_of_methodNamed B.named B.method).1⟩
    obtain ⟨t, a1, o, b1, b2, b3⟩ := K s₁ rfl X₀
    exact ⟨t, o, a1, b1, b2, b3⟩
theorem lw_pre_spec {args : Array Value} {s : State} (h : (Jvm.Cond.and given_1 narrow_1).before args s = true) (hr : rest_1_c.before args s = true) : ∃ (b : Addr) (xs : List Int32), lw_P b xs args s := by
  have hs := flat_of_before _ h
  have hq := flat_of_before _ hr
  have hc : (Cond.count 1).before args s = true := hs _ (by decide +kernel)
  have harr : (Cond.arrayOf (.arg 0) .int).before args s = true := hs _ (by decide +kernel)
  have hle : (Cond.le (.length (.arg 0)) (.int 2560)).before args s = true := hs _ (by decide +kernel)
  have hlen : (Cond.isInt (.length (.arg 0))).before args s = true := hq _ (by decide +kernel)
  have hall : (Cond.all (.arg 0) (.isInt (.elem (.arg 0) (.index 0)))).before args s = true := hq _ (by decide +kernel)
  obtain ⟨b, xs, hb, hx⟩ := State.ints_of_pre rfl harr hlen hall
  have hsm : xs.length < 2 ^ 31 := hx.choose_spec.2.2.2
  have hev : (Term.length (.arg 0)).eval args s none [] s = some (.int xs.length.toInt32) := hx.length_eval hb
  have hv := Cond.le_ints hev (show (Term.int 2560).eval args s none [] s = some (.int 2560) from rfl)
  have hd : xs.length.toInt32 ≤ 2560 := by
    simpa [Cond.before, Cond.holds, hv] using hle
  have hN : xs.length ≤ 2560 := (Int32.ofNat_le_ofNat hsm (by decide)).mp (show Int32.ofNat xs.length ≤ Int32.ofNat 2560 from hd)
  exact ⟨b, xs, Cond.one_arg hc (show args[0]? = some (.ref b) from hb), hx, hN, h⟩
theorem lw_comes (l : Launch) : Comes l x (Jvm.Cond.code x code maxLocals ret :: tables_1) room_1 (fun tb e args s => Calls_1 tb e args s ∧ rest_1 tb e args s ∧ Pre_1 tb e args s)
    (fun _ _ args s o t => lw_Q args s o t) := by
  intro p e ha hc hk s m args below hf hfit hheap happ hpre
  obtain ⟨b, xs, hP⟩ := lw_pre_spec hpre.2.2 hpre.2.1
  obtain ⟨k, o, h1, h2, h3, hQ⟩ := lw_walk l b xs p e ha hc hk s m args below hf ((Spec.applies_iff_loose hf).mp happ).1 hP trivial
  exact ⟨k, o, h1, h2, h3, hQ⟩
theorem lw_frame {s t : State} {o : Outcome} {args : Array Value} (h : Framed s o t [] 600000 7302250) :
    Framed s o t (fieldLocs frame_1_writes args s ++ arrayLocs frame_1_arrays args s ++ staticLocs frame_1_statics s) 600000 7302250 := h
theorem lw_limb (L : Cond) (hL : ∀ (args : Array Value) (s t : State), L.after args s (.returned (some (.int 1))) t = true) :
    ArmFor flags0 classFile x code maxLocals ret World_1 tables_1 room_1 Calls_1 rest_1 Pre_1
      (fun tb e a s o t => postC L tb e a s o t ∧ Framed s o t (fieldLocs frame_1_writes a s ++ arrayLocs frame_1_arrays a s ++ staticLocs frame_1_statics s) 600000 7302250) := by
  intro l _ _ _ p e ha hc hk s m args below hf hfit hheap happ hpre
  obtain ⟨k, o, h1, h2, h3, rfl, hF⟩ := lw_comes l p e ha hc hk s m args below hf hfit hheap happ hpre
  exact ⟨k, _, h1, h2, h3, hL args s _, lw_frame hF⟩
theorem i_vc : Claimed_1_1 ∧ Claimed_1_2 := ⟨lw_limb limb_1_1 (fun args s t => by simp [limb_1_1, Cond.after, Cond.holds, Cond.value]), lw_limb limb_1_2 (fun args s t => Cond.after_iff.mpr (by
  first | (rw [show limb_1_2 = Cond.eq .result (.int 1) from rfl, Cond.eq_ints (x := 1) (y := 1) rfl rfl]; simp; done) | (simp [limb_1_2, Cond.value, Term.eval]; done)))⟩
