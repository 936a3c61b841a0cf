/-! the state's bounds are kept -/
theorem vSR_up {ρ : Nat → vRel} {r : Nat} {x : vRel} (h : vSR ρ) (h1 : x.1 ≤ 8 ∧ ∀ i, i < x.1 → x.2.1 i < 16 ∧ x.2.2.1 i < 16) (h2 : x.2.2.2.1 < 16 ∧ x.2.2.2.2 < 10) : vSR (va_up ρ r x) := by
  refine ⟨fun q hq => ?_, fun q hq => ?_⟩
  · by_cases e : q = r
    · rw [e, up_self]; exact h1
    · rw [up_ne e]; exact h.1 q hq
  · by_cases e : q = r
    · rw [e, up_self]; exact h2
    · rw [up_ne e]; exact h.2 q hq
theorem keep_fact {ρ : Nat → vRel} {a b c : Int32} (h : vSR ρ) : vSR (fFact ρ a b c).2 := by
  by_cases z : inB a 4 ∧ inB b 16 ∧ inB c 16 ∧ (ρ (cl a)).1 < 8 ∧ vFd (ρ (cl a)).1 (ρ (cl a)).2.1 (ρ (cl a)).2.2.1 b c = none
  · rw [show fFact ρ a b c = _ from vIf_t z]
    have ha := (inB_cl (by omega) z.1).1
    have hb := (inB_cl (by omega) z.2.1).1
    have hc := (inB_cl (by omega) z.2.2.1).1
    have hn := z.2.2.2.1
    refine vSR_up h ⟨by show (ρ (cl a)).1 + 1 ≤ 8; omega, fun i hi => ?_⟩ (h.2 _ ha)
    have hi' : i < (ρ (cl a)).1 + 1 := hi
    show va_up (ρ (cl a)).2.1 (ρ (cl a)).1 (cl b) i < 16 ∧ va_up (ρ (cl a)).2.2.1 (ρ (cl a)).1 (cl c) i < 16
    by_cases e : i = (ρ (cl a)).1
    · rw [e, up_self, up_self]; exact ⟨hb, hc⟩
    · rw [up_ne e, up_ne e]; exact (h.1 _ ha).2 i (by omega)
  · rw [show fFact ρ a b c = _ from vIf_f z]
    exact h
theorem keep_retract {ρ : Nat → vRel} {a b c : Int32} (h : vSR ρ) : vSR (fRetract ρ a b c).2 := by
  by_cases z : inB a 4
  · rw [show fRetract ρ a b c = _ from vIf_t z]
    have ha := (inB_cl (by omega) z).1
    cases hv : vFd (ρ (cl a)).1 (ρ (cl a)).2.1 (ρ (cl a)).2.2.1 b c with
    | none => exact h
    | some j =>
      have hj := vFd_lt hv
      have h8 := h.1 _ ha
      refine vSR_up h ⟨by show (ρ (cl a)).1 - 1 ≤ 8; omega, fun i hi => ?_⟩ (h.2 _ ha)
      have hi' : i < (ρ (cl a)).1 - 1 := hi
      show va_up (ρ (cl a)).2.1 j ((ρ (cl a)).2.1 ((ρ (cl a)).1 - 1)) i < 16 ∧ va_up (ρ (cl a)).2.2.1 j ((ρ (cl a)).2.2.1 ((ρ (cl a)).1 - 1)) i < 16
      by_cases e : i = j
      · rw [e, up_self, up_self]; exact h8.2 _ (by omega)
      · rw [up_ne e, up_ne e]; exact h8.2 i (by omega)
  · rw [show fRetract ρ a b c = _ from vIf_f z]
    exact h
theorem keep_allow {ρ : Nat → vRel} {a b : Int32} (h : vSR ρ) : vSR (fAllow ρ a b).2 := by
  by_cases z : inB a 4 ∧ inB b 16
  · rw [show fAllow ρ a b = _ from vIf_t z]
    have ha := (inB_cl (by omega) z.1).1
    have hb := (inB_cl (by omega) z.2).1
    exact vSR_up h (h.1 _ ha) ⟨hb, (h.2 _ ha).2⟩
  · rw [show fAllow ρ a b = _ from vIf_f z]
    exact h
theorem keep_fail {ρ : Nat → vRel} {a b : Int32} (h : vSR ρ) : vSR (fFail ρ a b).2 := by
  by_cases z : inB a 4 ∧ inB b 10
  · rw [show fFail ρ a b = _ from vIf_t z]
    have ha := (inB_cl (by omega) z.1).1
    have hb := (inB_cl (by omega) z.2).1
    exact vSR_up h (h.1 _ ha) ⟨(h.2 _ ha).1, hb⟩
  · rw [show fFail ρ a b = _ from vIf_f z]
    exact h
theorem keep_ask {κ : vAL} {a b c : Int32} (h : vSQ κ) : vSQ (fAsk κ a b c).2 := by
  by_cases z : inB a 3 ∧ inB b 22 ∧ inB c 22 ∧ κ.1 < 3
  · rw [show fAsk κ a b c = _ from vIf_t z]
    have ha := (inB_cl (by omega) z.1).1
    have hb := (inB_cl (by omega) z.2.1).1
    have hc := (inB_cl (by omega) z.2.2.1).1
    have hk := z.2.2.2
    refine ⟨by show κ.1 + 1 ≤ 3; omega, fun i hi => ?_⟩
    have hi' : i < κ.1 + 1 := hi
    show va_up κ.2.1 κ.1 (cl a) i < 3 ∧ va_up κ.2.2.1 κ.1 (cl b) i < 22 ∧ va_up κ.2.2.2 κ.1 (cl c) i < 22
    by_cases e : i = κ.1
    · rw [e, up_self, up_self, up_self]; exact ⟨ha, hb, hc⟩
    · rw [up_ne e, up_ne e, up_ne e]; exact h.2 i (by omega)
  · rw [show fAsk κ a b c = _ from vIf_f z]
    exact h
theorem keep_clear {κ : vAL} (h : vSQ κ) : vSQ (0, κ.2) := ⟨Nat.zero_le _, fun i hi => absurd hi (Nat.not_lt_zero i)⟩
