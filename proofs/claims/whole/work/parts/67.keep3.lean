/-! the bounds are kept by run -/
theorem fa_up {fa : Nat → Nat} {r x : Nat} (h : ∀ q, q < 4 → fa q < 10) (hx : r < 4 → x < 10) : ∀ q, q < 4 → va_up fa r x q < 10 := by
  intro q hq
  by_cases e : q = r
  · rw [e, up_self]; exact hx (e ▸ hq)
  · rw [up_ne e]; exact h q hq
theorem vTell_fa {ρ : vR} {l : List vA} {pt : Nat → Option Nat} : ∀ (f i : Nat) (m : Nat → Bool) (fa : Nat → Nat) (rq tr : Nat), (∀ q, q < 4 → fa q < 10) → ∀ q, q < 4 → (vTell ρ l pt f i (m, fa, rq, tr)).2.2.1 q < 10
  | 0, _, _, _, _, _, h => h
  | f + 1, i, m, fa, rq, tr, h => by
    rw [vTell_s]
    split
    · exact vTell_fa f (i + 1) _ fa rq tr h
    · split
      · exact fa_up h (fun hr => by have := h _ hr; omega)
      · exact vTell_fa f (i + 1) _ _ _ _ (fa_up h (fun _ => by omega))
theorem vAsk_fa {ρ : vR} : ∀ (ds : List (List vA × (Nat → Option Nat))) (s : (Nat → Bool) × (Nat → Nat) × Nat × Nat), (∀ q, q < 4 → s.2.1 q < 10) → ∀ q, q < 4 → (vAsk ρ ds s).2.2.1 q < 10
  | [], _, h => h
  | x :: ds, (m, fa, rq, tr), h => by
    have ht := vTell_fa (ρ := ρ) (l := x.1) (pt := x.2) x.1.length 0 m fa rq tr h
    rw [vAsk_s]
    split
    · exact vAsk_fa ds _ ht
    · exact ht
theorem vSR_fa {ρ : Nat → vRel} {φ : Nat → Nat} (h : vSR ρ) (hφ : ∀ q, q < 4 → φ q < 10) : vSR (vFa ρ φ) := ⟨h.1, fun q hq => ⟨(h.2 q hq).1, hφ q hq⟩⟩
theorem pA_fa {ρ : Nat → vRel} {ν : Nat → vVw} {κ : vAL} (h : vSR ρ) : ∀ q, q < 4 → (pA ρ ν κ).2.2.1 q < 10 := vAsk_fa _ _ (fun q hq => (h.2 q hq).2)
theorem keep_run {ρ : Nat → vRel} {ν : Nat → vVw} {κ : vAL} {cnt : Nat} {D : Nat → vPd} {fo : Nat → Bool} {rq tr : Nat} (h : vSR ρ) : vSR (fRun ρ ν κ cnt D fo rq tr).2.1 := by
  by_cases h1 : ¬ vGood ν κ
  · rw [show fRun ρ ν κ cnt D fo rq tr = _ from vIf_t h1]; exact h
  · rw [show fRun ρ ν κ cnt D fo rq tr = _ from vIf_f h1]
    by_cases h2 : pBl ρ ν κ
    · rw [vIf_t h2]; exact h
    · rw [vIf_f h2]
      by_cases h3 : (pA ρ ν κ).1 = false
      · rw [vIf_t h3]; exact vSR_fa h (pA_fa h)
      · rw [vIf_f h3]; exact vSR_fa h (pA_fa h)
/-- the plan's bounds -/
def vSP (cnt : Nat) (D : Nat → vPd) : Prop := cnt ≤ 8 ∧ ∀ i, i < cnt → (D i).1.length ≤ 6
theorem pK_8 {ν : Nat → vVw} {κ : vAL} (ok : vOkQ ν (vLs κ)) : (pK ν κ).length ≤ 8 := by
  have h0 := ok.len8
  have h1 : (pK ν κ).length ≤ (List.range (vCh (vVl ν) (vLs κ)).length).length := List.length_filter_le _ _
  rw [List.length_range] at h1
  omega
theorem keep_plan {ρ : Nat → vRel} {ν : Nat → vVw} {κ : vAL} {cnt : Nat} {D : Nat → vPd} {fo : Nat → Bool} {rq tr : Nat} (hV : vSV ν) (hQ : vSQ κ) (h : vSP cnt D) : vSP (fRun ρ ν κ cnt D fo rq tr).2.2.1 (fRun ρ ν κ cnt D fo rq tr).2.2.2.1 := by
  have new : vSP (pK ν κ).length (pD ρ ν κ) := ⟨pK_8 (hQ.ok hV), fun i hi => (pD_ok (hQ.ok hV) hi).1⟩
  by_cases h1 : ¬ vGood ν κ
  · rw [show fRun ρ ν κ cnt D fo rq tr = _ from vIf_t h1]; exact h
  · rw [show fRun ρ ν κ cnt D fo rq tr = _ from vIf_f h1]
    by_cases h2 : pBl ρ ν κ
    · rw [vIf_t h2]; exact new
    · rw [vIf_f h2]
      by_cases h3 : (pA ρ ν κ).1 = false
      · rw [vIf_t h3]; exact new
      · rw [vIf_f h3]; exact new
