/-! ViewMediator: its cells; the calls on relations -/
def inB (x : Int32) (b : Nat) : Prop := 0 ≤ x ∧ x < nI b
theorem inB_ex {x : Int32} {b : Nat} (hb : b < 2 ^ 31) (h : inB x b) : ∃ j, j < b ∧ x = nI j := by
  rcases pk_ix x hb with q | q | q
  · have h1 := h.1
    rw [Int32.le_iff_toInt_le] at h1
    rw [Int32.lt_iff_toInt_lt] at q
    omega
  · have h2 := h.2
    rw [Int32.lt_iff_toInt_lt] at h2
    rw [Int32.le_iff_toInt_le] at q
    omega
  · exact q
theorem inB_nI {j b : Nat} (hb : b < 2 ^ 31) (h : j < b) : inB (nI j) b := ⟨nI_pos' (by omega), nI_lt h hb⟩
noncomputable def vIf {α : Type} (p : Prop) (x y : α) : α := @ite _ p (Classical.propDecidable p) x y
theorem vIf_t {α : Type} {p : Prop} {x y : α} (h : p) : vIf p x y = x := if_pos h
theorem vIf_f {α : Type} {p : Prop} {x y : α} (h : ¬ p) : vIf p x y = y := if_neg h
def cl (x : Int32) : Nat := x.toNatClampNeg
theorem cl_nI {j : Nat} (h : j < 2 ^ 31) : cl (nI j) = j := nI_clamp h
theorem inB_cl {x : Int32} {b : Nat} (hb : b < 2 ^ 31) (h : inB x b) : cl x < b ∧ x = nI (cl x) := by
  obtain ⟨j, hj, rfl⟩ := inB_ex hb h
  rw [cl_nI (by omega)]
  exact ⟨hj, rfl⟩
abbrev vPd : Type := List vA × (Nat → Option Nat)
def vDq (cnt : Nat) (D0 : Nat → vDs) (D : Nat → vPd) : Prop := ∀ i, i < cnt → (D0 i).1 = (D i).1 ∧ ∀ j, j < 6 → (D0 i).2.1 j = (D i).2 j
def vObj (v : Nat) : List Value := [.ref (v + 1), .ref (v + 2), .ref (v + 3), .ref (v + 7), .ref (v + 61)]
def isVM (h : xH) (v : Nat) (ρ : Nat → vRel) (ν : Nat → vVw) (κ : vAL) (cnt : Nat) (D : Nat → vPd) (fo : Nat → Bool) (rq tr : Nat) : Prop := h v = cJ 0 (vObj v) ∧ isRs h (v + 1) (v + 70) ρ ∧ isVs h (v + 2) (v + 82) ν ∧ isAL h (v + 3) 3 κ.1 κ.2.1 κ.2.2.1 κ.2.2.2 ∧ (∃ π ch D0, isPl h (v + 7) cnt π ch D0 ∧ vDq cnt D0 D) ∧ ∃ rc R Mf Mm lu vr vd g fr, isAk h (v + 61) rc rq tr R Mf Mm vVal0 lu vr vd g fr ∧ rc = vCnt fo 256 ∧ ∀ k, k < 256 → fo k = true → R (vCnt fo k) = k
def vSR (ρ : Nat → vRel) : Prop := vOkR ρ ∧ ∀ r, r < 4 → (ρ r).2.2.2.1 < 16 ∧ (ρ r).2.2.2.2 < 10
theorem isVM.sm {h h' : xH} {v : Nat} {ρ : Nat → vRel} {ν : Nat → vVw} {κ : vAL} {cnt : Nat} {D : Nat → vPd} {fo : Nat → Bool} {rq tr : Nat} (p : isVM h v ρ ν κ cnt D fo rq tr) (q : xsm v (v + 112) h h') : isVM h' v ρ ν κ cnt D fo rq tr := by
  obtain ⟨p0, p1, p2, p3, ⟨π, ch, D0, p4, p4q⟩, rc, R, Mf, Mm, lu, vr, vd, g, fr, p5, p6⟩ := p
  exact ⟨(q _ (by omega) (by omega)).trans p0, p1.sm (q _ (by omega) (by omega)) (q.mo (by omega) (by omega)), p2.sm (q _ (by omega) (by omega)) (q.mo (by omega) (by omega)), p3.sm (q.mo (by omega) (by omega)), ⟨π, ch, D0, p4.sm (q.mo (by omega) (by omega)), p4q⟩, rc, R, Mf, Mm, lu, vr, vd, g, fr, p5.sm (q.mo (by omega) (by omega)), p6⟩
/-- the relations alone have changed -/
theorem isVM.rel {h h' : xH} {v : Nat} {ρ ρ' : Nat → vRel} {ν : Nat → vVw} {κ : vAL} {cnt : Nat} {D : Nat → vPd} {fo : Nat → Bool} {rq tr : Nat} (p : isVM h v ρ ν κ cnt D fo rq tr) (q : xfr (v + 70) (v + 82) h h') (z : isRs h' (v + 1) (v + 70) ρ') : isVM h' v ρ' ν κ cnt D fo rq tr := by
  obtain ⟨p0, p1, p2, p3, ⟨π, ch, D0, p4, p4q⟩, rc, R, Mf, Mm, lu, vr, vd, g, fr, p5, p6⟩ := p
  exact ⟨q.get (by omega) p0, z, p2.sm (q _ (by omega)) (q.sm (by omega)), p3.sm (q.sm (by omega)), ⟨π, ch, D0, p4.sm (q.sm (by omega)), p4q⟩, rc, R, Mf, Mm, lu, vr, vd, g, fr, p5.sm (q.sm (by omega)), p6⟩
theorem isVM.vw {h h' : xH} {v : Nat} {ρ : Nat → vRel} {ν ν' : Nat → vVw} {κ : vAL} {cnt : Nat} {D : Nat → vPd} {fo : Nat → Bool} {rq tr : Nat} (p : isVM h v ρ ν κ cnt D fo rq tr) (q : xfr (v + 82) (v + 112) h h') (z : isVs h' (v + 2) (v + 82) ν') : isVM h' v ρ ν' κ cnt D fo rq tr := by
  obtain ⟨p0, p1, p2, p3, ⟨π, ch, D0, p4, p4q⟩, rc, R, Mf, Mm, lu, vr, vd, g, fr, p5, p6⟩ := p
  exact ⟨q.get (by omega) p0, p1.sm (q _ (by omega)) (q.sm (by omega)), z, p3.sm (q.sm (by omega)), ⟨π, ch, D0, p4.sm (q.sm (by omega)), p4q⟩, rc, R, Mf, Mm, lu, vr, vd, g, fr, p5.sm (q.sm (by omega)), p6⟩
theorem isVM.qu {h h' : xH} {v : Nat} {ρ : Nat → vRel} {ν : Nat → vVw} {κ κ' : vAL} {cnt : Nat} {D : Nat → vPd} {fo : Nat → Bool} {rq tr : Nat} (p : isVM h v ρ ν κ cnt D fo rq tr) (q : xfr (v + 3) (v + 3 + 4) h h') (z : isAL h' (v + 3) 3 κ'.1 κ'.2.1 κ'.2.2.1 κ'.2.2.2) : isVM h' v ρ ν κ' cnt D fo rq tr := by
  obtain ⟨p0, p1, p2, p3, ⟨π, ch, D0, p4, p4q⟩, rc, R, Mf, Mm, lu, vr, vd, g, fr, p5, p6⟩ := p
  exact ⟨q.get (by omega) p0, p1.sm (q _ (by omega)) (q.sm (by omega)), p2.sm (q _ (by omega)) (q.sm (by omega)), z, ⟨π, ch, D0, p4.sm (q.sm (by omega)), p4q⟩, rc, R, Mf, Mm, lu, vr, vd, g, fr, p5.sm (q.sm (by omega)), p6⟩
theorem isRs.one {h h' : xH} {ra rb : Nat} {ρ : Nat → vRel} {r : Nat} (p : isRs h ra rb ρ) (hra : ra < rb ∨ rb + 12 ≤ ra) (hr : r < 4) (q : xfr (rb + 3 * r) (rb + 3 * r + 3) h h') {x : vRel} (hx : isRel h' (rb + 3 * r) x.1 x.2.1 x.2.2.1 x.2.2.2.1 x.2.2.2.2) : isRs h' ra rb (va_up ρ r x) := by
  obtain ⟨⟨f, p1, p2⟩, p3⟩ := p
  refine ⟨⟨f, q.get (by omega) p1, p2⟩, fun i hi => ?_⟩
  by_cases e : i = r
  · subst e; rw [up_self]; exact hx
  · rw [up_ne e]; exact (p3 i hi).sm (q.sm (by omega))
theorem isVs.one {h h' : xH} {va vb : Nat} {ν : Nat → vVw} {i : Nat} (p : isVs h va vb ν) (hva : va < vb ∨ vb + 30 ≤ va) (hi : i < 3) (q : xfr (vb + 10 * i) (vb + 10 * i + 10) h h') {x : vVw} {f : Nat → Option Nat} (hx : isVw h' (vb + 10 * i) x.1 x.2 f) : isVs h' va vb (va_up ν i x) := by
  obtain ⟨⟨g, p1, p2⟩, p3⟩ := p
  refine ⟨⟨g, q.get (by omega) p1, p2⟩, fun j hj => ?_⟩
  by_cases e : j = i
  · subst e; rw [up_self]; exact ⟨f, hx⟩
  · rw [up_ne e]
    obtain ⟨f', h'⟩ := p3 j hj
    exact ⟨f', h'.sm (q.sm (by omega))⟩
section T40
variable {d L : Nat} {xs : Nat → Int32} {n : Nat} {h : xH} {v : Nat} {ρ : Nat → vRel} {ν : Nat → vVw} {κ : vAL} {cnt : Nat} {D : Nat → vPd} {fo : Nat → Bool} {rq tr : Nat}
theorem t_isBelow {x b : Int32} : XM d 0 0 k_VM_isBelow L xs [.int x, .int b] n h (qR n h (nI (vB (0 ≤ x ∧ x < b)))) := by
  refine XM.of rfl (Nat.le_of_ble_eq_true rfl) ?_
  refine xr_iconst a_VM_isBelow_0 (v := nI 0) (by decide +kernel) ?_
  refine xr_iload_n a_VM_isBelow_1 rfl ?_
  refine xr_icmp_gt a_VM_isBelow_2 (fun b2 => ?_) (fun b2 => ?_)
  · refine xr_iconst a_VM_isBelow_14 (v := nI 0) (by decide +kernel) ?_
    refine xr_ireturn a_VM_isBelow_15 rfl rfl (by omega) (by omega) ?_
    refine ⟨?_, rfl, rfl⟩
    rw [vB_f (fun z => ?_)]
    have z1 := z.1
    have e : nI 0 = 0 := rfl
    rw [e, Int32.lt_iff_toInt_lt] at b2
    rw [Int32.le_iff_toInt_le] at z1
    omega
  · refine xr_iload_n a_VM_isBelow_5 rfl ?_
    refine xr_iload_n a_VM_isBelow_6 rfl ?_
    refine xr_icmp_ge a_VM_isBelow_7 (fun b7 => ?_) (fun b7 => ?_)
    · refine xr_iconst a_VM_isBelow_14 (v := nI 0) (by decide +kernel) ?_
      refine xr_ireturn a_VM_isBelow_15 rfl rfl (by omega) (by omega) ?_
      refine ⟨?_, rfl, rfl⟩
      rw [vB_f (fun z => ?_)]
      have z2 := z.2
      rw [Int32.lt_iff_toInt_lt] at z2
      rw [Int32.le_iff_toInt_le] at b7
      omega
    · refine xr_iconst a_VM_isBelow_10 (v := nI 1) (by decide +kernel) ?_
      refine xr_goto a_VM_isBelow_11 ?_
      refine xr_ireturn a_VM_isBelow_15 rfl rfl (by omega) (by omega) ?_
      refine ⟨?_, rfl, rfl⟩
      have z1 : 0 ≤ x := by
        have e : nI 0 = 0 := rfl
        rw [e, Int32.lt_iff_toInt_lt] at b2
        rw [Int32.le_iff_toInt_le]
        omega
      have z2 : x < b := by
        rw [Int32.le_iff_toInt_le] at b7
        rw [Int32.lt_iff_toInt_lt]
        omega
      rw [vB_t ⟨z1, z2⟩]
end T40

