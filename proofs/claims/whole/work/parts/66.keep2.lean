/-! the bounds of the views are kept -/
def vRk (x : vAL) : Prop := x.1 ≤ 2 ∧ ∀ j, j < x.1 → x.2.1 j < 4 ∧ x.2.2.1 j < 22 ∧ x.2.2.2 j < 22
theorem vSV_iff {ν : Nat → vVw} : vSV ν ↔ ∀ v, v < 3 → (ν v).1 ≤ 2 ∧ ∀ i, i < (ν v).1 → vRk ((ν v).2 i) := by
  constructor
  · rintro ⟨h1, h2⟩ v hv
    refine ⟨(h1 v hv).1, fun i hi => ⟨((h1 v hv).2 i hi).1, fun j hj => ?_⟩⟩
    have m := (vLs_rep ((ν v).2 i)).mem.mpr ⟨j, hj, rfl⟩
    exact ⟨h2 v hv i hi _ m, ((h1 v hv).2 i hi).2 _ m⟩
  · intro h
    refine ⟨fun v hv => ⟨(h v hv).1, fun i hi => ⟨((h v hv).2 i hi).1, fun a ha => ?_⟩⟩, fun v hv i hi a ha => ?_⟩
    · obtain ⟨j, hj, rfl⟩ := (vLs_rep ((ν v).2 i)).mem.mp ha
      exact (((h v hv).2 i hi).2 j hj).2
    · obtain ⟨j, hj, rfl⟩ := (vLs_rep ((ν v).2 i)).mem.mp ha
      exact (((h v hv).2 i hi).2 j hj).1
theorem vSV_up {ν : Nat → vVw} {v : Nat} {x : vVw} (h : vSV ν) (hx : x.1 ≤ 2 ∧ ∀ i, i < x.1 → vRk (x.2 i)) : vSV (va_up ν v x) := by
  rw [vSV_iff] at h ⊢
  intro q hq
  by_cases e : q = v
  · rw [e, up_self]; exact hx
  · rw [up_ne e]; exact h q hq
theorem keep_rule {ν : Nat → vVw} {a : Int32} (h : vSV ν) : vSV (fRule ν a).2 := by
  by_cases z : inB a 3 ∧ (ν (cl a)).1 < 2
  · rw [show fRule ν a = _ from vIf_t z]
    have ha := (inB_cl (by omega) z.1).1
    have hn := z.2
    have hv := vSV_iff.mp h _ ha
    refine vSV_up h ⟨by show (ν (cl a)).1 + 1 ≤ 2; omega, fun i hi => ?_⟩
    have hi' : i < (ν (cl a)).1 + 1 := hi
    show vRk (va_up (ν (cl a)).2 (ν (cl a)).1 (0, ((ν (cl a)).2 (ν (cl a)).1).2) i)
    by_cases e : i = (ν (cl a)).1
    · rw [e, up_self]; exact ⟨Nat.zero_le _, fun j hj => absurd hj (Nat.not_lt_zero j)⟩
    · rw [up_ne e]; exact hv.2 i (by omega)
  · rw [show fRule ν a = _ from vIf_f z]
    exact h
theorem keep_forget {ν : Nat → vVw} {a : Int32} (h : vSV ν) : vSV (fForget ν a).2 := by
  by_cases z : inB a 3
  · rw [show fForget ν a = _ from vIf_t z]
    exact vSV_up h ⟨Nat.zero_le _, fun i hi => absurd hi (Nat.not_lt_zero i)⟩
  · rw [show fForget ν a = _ from vIf_f z]
    exact h
theorem keep_atom {ν : Nat → vVw} {a b c e : Int32} (h : vSV ν) : vSV (fAtom ν a b c e).2 := by
  by_cases z : inB a 3 ∧ inB b 4 ∧ inB c 22 ∧ inB e 22 ∧ 0 < (ν (cl a)).1 ∧ ((ν (cl a)).2 ((ν (cl a)).1 - 1)).1 < 2
  · rw [show fAtom ν a b c e = _ from vIf_t z]
    have ha := (inB_cl (by omega) z.1).1
    have hb := (inB_cl (by omega) z.2.1).1
    have hc := (inB_cl (by omega) z.2.2.1).1
    have he := (inB_cl (by omega) z.2.2.2.1).1
    have hn := z.2.2.2.2.1
    have h2 := z.2.2.2.2.2
    have hv := vSV_iff.mp h _ ha
    refine vSV_up h ⟨hv.1, fun i hi => ?_⟩
    have hi' : i < (ν (cl a)).1 := hi
    show vRk (va_up (ν (cl a)).2 ((ν (cl a)).1 - 1) (vAdA ((ν (cl a)).2 ((ν (cl a)).1 - 1)) (cl b) (cl c) (cl e)) i)
    by_cases ei : i = (ν (cl a)).1 - 1
    · rw [ei, up_self]
      have hk := hv.2 ((ν (cl a)).1 - 1) (by omega)
      generalize (ν (cl a)).2 ((ν (cl a)).1 - 1) = x at hk h2 ⊢
      refine ⟨by show x.1 + 1 ≤ 2; omega, fun j hj => ?_⟩
      have hj' : j < x.1 + 1 := hj
      show va_up x.2.1 x.1 (cl b) j < 4 ∧ va_up x.2.2.1 x.1 (cl c) j < 22 ∧ va_up x.2.2.2 x.1 (cl e) j < 22
      by_cases ej : j = x.1
      · rw [ej, up_self, up_self, up_self]; exact ⟨hb, hc, he⟩
      · rw [up_ne ej, up_ne ej, up_ne ej]; exact hk.2 j (by omega)
    · rw [up_ne ei]; exact hv.2 i hi'
  · rw [show fAtom ν a b c e = _ from vIf_f z]
    exact h
