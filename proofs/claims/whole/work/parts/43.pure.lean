/-! the order keeps the atoms, gives each a pattern that can be asked -/
theorem vRep_self (l : List vA) : vRep l l.length (fun j => (vAt l j).1) (fun j => (vAt l j).2.1) (fun j => (vAt l j).2.2) := by
  refine ⟨rfl, fun j a h => ?_⟩
  have : vAt l j = a := by
    unfold vAt
    rw [List.getD_eq_getElem?_getD, h]
    rfl
  exact ⟨by rw [← this], by rw [← this], by rw [← this]⟩
theorem vMove_rep {l : List vA} {i p : Nat} (hi : i < l.length) (hp : p ≤ i) : vRep (vMove l i p) l.length (vBack (fun j => (vAt l j).1) p (i - p)) (vBack (fun j => (vAt l j).2.1) p (i - p)) (vBack (fun j => (vAt l j).2.2) p (i - p)) := (vRep_self l).move hi hp
theorem vMove_len {l : List vA} {i p : Nat} (hi : i < l.length) (hp : p ≤ i) : (vMove l i p).length = l.length := (vMove_rep hi hp).1.symm
theorem vMove_at {l : List vA} {i p j : Nat} (hi : i < l.length) (hp : p ≤ i) (hj : j < l.length) : vAt (vMove l i p) j = if j < p then vAt l j else if j = p then vAt l i else if j ≤ i then vAt l (j - 1) else vAt l j := by
  rw [(vMove_rep hi hp).vat hj, vBack_at, vBack_at, vBack_at, show p + (i - p) = i by omega]
  by_cases h1 : j < p
  · rw [if_pos h1, if_pos h1, if_pos h1, if_pos h1]
  · rw [if_neg h1, if_neg h1, if_neg h1, if_neg h1]
    by_cases h2 : j = p
    · rw [if_pos h2, if_pos h2, if_pos h2, if_pos h2]
    · rw [if_neg h2, if_neg h2, if_neg h2, if_neg h2]
      by_cases h3 : j ≤ i
      · rw [if_pos h3, if_pos h3, if_pos h3, if_pos h3]
      · rw [if_neg h3, if_neg h3, if_neg h3, if_neg h3]
theorem vAt_mem {l : List vA} {j : Nat} (hj : j < l.length) : vAt l j ∈ l := (vRep_self l).mem.mpr ⟨j, hj, rfl⟩
theorem vMem_at {l : List vA} {a : vA} (h : a ∈ l) : ∃ j, j < l.length ∧ a = vAt l j := (vRep_self l).mem.mp h
theorem vMove_mem2 {l : List vA} {i p : Nat} {a : vA} (hi : i < l.length) (hp : p ≤ i) (h : a ∈ l) : a ∈ vMove l i p := by
  obtain ⟨j, hj, rfl⟩ := vMem_at h
  have hl := vMove_len hi hp
  have key : ∀ k, k < l.length → vAt (vMove l i p) k = vAt l j → vAt l j ∈ vMove l i p := fun k hk e => e ▸ vAt_mem (by omega)
  by_cases h1 : j < p
  · exact key j hj (by rw [vMove_at hi hp hj, if_pos h1])
  · by_cases h2 : j = i
    · exact key p (by omega) (by rw [vMove_at hi hp (by omega), if_neg (by omega), if_pos rfl, h2])
    · by_cases h3 : j < i
      · exact key (j + 1) (by omega) (by rw [vMove_at hi hp (by omega), if_neg (by omega), if_neg (by omega), if_pos (by omega), Nat.add_sub_cancel])
      · exact key j hj (by rw [vMove_at hi hp hj, if_neg h1, if_neg (by omega), if_neg (by omega)])
theorem vKn_move {l : List vA} {i p k t : Nat} (hi : i < l.length) (hp : p ≤ i) (hk : k ≤ p) : vKn (vMove l i p) k t = vKn l k t := by
  have pr1 : vRep (vMove l i p) l.length _ _ _ := vMove_rep hi hp
  rw [Bool.eq_iff_iff, vKn_iff pr1 (by omega), vKn_iff (vRep_self l) (by omega)]
  constructor
  · rintro (q | ⟨j, hj, q⟩)
    · exact Or.inl q
    · rw [vBack_at, vBack_at, if_pos (by omega), if_pos (by omega)] at q
      exact Or.inr ⟨j, hj, q⟩
  · rintro (q | ⟨j, hj, q⟩)
    · exact Or.inl q
    · refine Or.inr ⟨j, hj, ?_⟩
      rw [vBack_at, vBack_at, if_pos (by omega), if_pos (by omega)]
      exact q
theorem vOrd_s {al : Nat → Nat} {f k : Nat} {l : List vA} {pt : Nat → Option Nat} : vOrd al (f + 1) k l pt = match vNext al l k with | none => (l, pt, true) | some i => vOrd al f (k + 1) (vMove l i k) (va_up pt k (vBst al l k (vAt l i))) := rfl
theorem vOrd_mem {al : Nat → Nat} {a : vA} : ∀ (f k : Nat) (l : List vA) (pt : Nat → Option Nat), k + f = l.length → (a ∈ (vOrd al f k l pt).1 ↔ a ∈ l) ∧ (vOrd al f k l pt).1.length = l.length
  | 0, _, _, _, _ => ⟨Iff.rfl, rfl⟩
  | f + 1, k, l, pt, h => by
    rw [vOrd_s]
    cases e : vNext al l k with
    | none => exact ⟨Iff.rfl, rfl⟩
    | some i =>
      obtain ⟨h1, h2, -, -⟩ := rF_some e
      have hl := vMove_len (l := l) (i := i) (p := k) (by omega) h1
      obtain ⟨a1, a2⟩ := vOrd_mem (al := al) (a := a) f (k + 1) (vMove l i k) (va_up pt k (vBst al l k (vAt l i))) (by omega)
      exact ⟨a1.trans ⟨vMove_mem h1, vMove_mem2 (by omega) h1⟩, by show (vOrd al f (k + 1) (vMove l i k) (va_up pt k (vBst al l k (vAt l i)))).1.length = _; rw [a2, hl]⟩
def vGd1 (l : List vA) (pt : Nat → Option Nat) (i : Nat) : Prop := ∃ p, pt i = some p ∧ p < 4 ∧ (p % 2 = 1 → vKn l i (vAt l i).2.1 = true) ∧ (p / 2 % 2 = 1 → vKn l i (vAt l i).2.2 = true)
theorem p_and : ∀ p, p < 4 → ∀ a b : Bool, p &&& (a.toNat + 2 * b.toNat) = p → (p % 2 = 1 → a = true) ∧ (p / 2 % 2 = 1 → b = true) := by decide
theorem vOrd_good {al : Nat → Nat} : ∀ (f k : Nat) (l : List vA) (pt : Nat → Option Nat), k + f = l.length → (∀ i, i < k → vGd1 l pt i) → (vOrd al f k l pt).2.2 = false → vGdO (vOrd al f k l pt).1 (vOrd al f k l pt).2.1
  | 0, k, l, pt, h, hg, _ => fun i hi => hg i (by have : i < l.length := hi; omega)
  | f + 1, k, l, pt, h, hg, hb => by
    rw [vOrd_s] at hb ⊢
    cases e : vNext al l k with
    | none => rw [e] at hb; cases hb
    | some i =>
      rw [e] at hb
      obtain ⟨h1, h2, h3, -⟩ := rF_some e
      have hl := vMove_len (l := l) (i := i) (p := k) (by omega) h1
      refine vOrd_good f (k + 1) (vMove l i k) _ (by omega) (fun j hj => ?_) hb
      by_cases ej : j = k
      · subst ej
        obtain ⟨p, hp⟩ : ∃ p, vBst al l j (vAt l i) = some p := by
          cases z : vBst al l j (vAt l i) with
          | none => rw [z] at h3; cases h3
          | some p => exact ⟨p, rfl⟩
        have e1 : vAt (vMove l i j) j = vAt l i := by rw [vMove_at (by omega) h1 (by omega), if_neg (by omega), if_pos rfl]
        have e2 := p_and p (vBest_lt hp) _ _ (vBest_ok hp)
        refine ⟨p, by rw [up_self]; exact hp, vBest_lt hp, fun z => ?_, fun z => ?_⟩
        · rw [e1, vKn_move (by omega) h1 (Nat.le_refl _)]; exact e2.1 z
        · rw [e1, vKn_move (by omega) h1 (Nat.le_refl _)]; exact e2.2 z
      · obtain ⟨p, g1, g2, g3, g4⟩ := hg j (by omega)
        have e1 : vAt (vMove l i k) j = vAt l j := by rw [vMove_at (by omega) h1 (by omega), if_pos (by omega)]
        refine ⟨p, by rw [up_ne ej]; exact g1, g2, fun z => ?_, fun z => ?_⟩
        · rw [e1, vKn_move (by omega) h1 (by omega)]; exact g3 z
        · rw [e1, vKn_move (by omega) h1 (by omega)]; exact g4 z
theorem vOrd_pt {al : Nat → Nat} : ∀ (f k : Nat) (l : List vA) (pt pt' : Nat → Option Nat), (∀ j, j < 6 → pt j = pt' j) → (vOrd al f k l pt).1 = (vOrd al f k l pt').1 ∧ (vOrd al f k l pt).2.2 = (vOrd al f k l pt').2.2 ∧ ∀ j, j < 6 → (vOrd al f k l pt).2.1 j = (vOrd al f k l pt').2.1 j
  | 0, _, _, _, _, h => ⟨rfl, rfl, h⟩
  | f + 1, k, l, pt, pt', h => by
    rw [vOrd_s, vOrd_s]
    cases e : vNext al l k with
    | none => exact ⟨rfl, rfl, h⟩
    | some i =>
      refine vOrd_pt f (k + 1) (vMove l i k) _ _ (fun j hj => ?_)
      by_cases ej : j = k
      · rw [ej, up_self, up_self]
      · rw [up_ne ej, up_ne ej]; exact h j hj
theorem vRq_pt {ρ : vR} {l : List vA} {pt pt' : Nat → Option Nat} {i : Nat} (h : pt i = pt' i) : vRq ρ l pt i = vRq ρ l pt' i := by
  funext c
  unfold vRq
  rw [h]
theorem vTell_pt {ρ : vR} {l : List vA} {pt pt' : Nat → Option Nat} : ∀ (f i : Nat) (s : (Nat → Bool) × (Nat → Nat) × Nat × Nat), (∀ j, i ≤ j → j < i + f → pt j = pt' j) → vTell ρ l pt f i s = vTell ρ l pt' f i s
  | 0, _, _, _ => rfl
  | f + 1, i, (m, fa, rq, tr), h => by
    rw [vTell_s, vTell_s, vRq_pt (h i (Nat.le_refl _) (by omega)), vTell_pt f (i + 1) _ (fun j h1 h2 => h j (by omega) (by omega)), vTell_pt f (i + 1) _ (fun j h1 h2 => h j (by omega) (by omega))]
theorem vAsk_pt {ρ : vR} : ∀ (ds ds' : List (List vA × (Nat → Option Nat))) (s : (Nat → Bool) × (Nat → Nat) × Nat × Nat), ds.length = ds'.length → (∀ (i : Nat) (x x' : List vA × (Nat → Option Nat)), ds[i]? = some x → ds'[i]? = some x' → x.1 = x'.1 ∧ ∀ j, j < x.1.length → x.2 j = x'.2 j) → vAsk ρ ds s = vAsk ρ ds' s
  | [], [], _, _, _ => rfl
  | [], _ :: _, _, h, _ => by simp at h
  | _ :: _, [], _, h, _ => by simp at h
  | x :: ds, x' :: ds', s, hl, h => by
    obtain ⟨h1, h2⟩ := h 0 x x' rfl rfl
    rw [vAsk_s, vAsk_s, ← h1, vTell_pt x.1.length 0 s (fun j _ hj => h2 j (by omega)), vAsk_pt ds ds' _ (by simpa using hl) (fun i y y' hy hy' => h (i + 1) y y' hy hy')]
/-- good queries -/
def vGood (ν : Nat → vVw) (κ : vAL) : Prop := vSf κ.1 κ.2.2.1 κ.2.2.2 ∧ ∀ i, i < κ.1 → 0 < (ν (κ.2.1 i)).1 ∧ ∀ j, j < (ν (κ.2.1 i)).1 → vSf ((ν (κ.2.1 i)).2 j).1 ((ν (κ.2.1 i)).2 j).2.2.1 ((ν (κ.2.1 i)).2 j).2.2.2
theorem vSf_has {x : vAL} (h : vSf x.1 x.2.2.1 x.2.2.2) : vHas 16 (vLs x) ∧ vHas 17 (vLs x) := by
  obtain ⟨⟨i, i1, i2⟩, j, j1, j2⟩ := h
  have pr := vLs_rep x
  exact ⟨⟨_, pr.mem.mpr ⟨i, i1, rfl⟩, i2⟩, ⟨_, pr.mem.mpr ⟨j, j1, rfl⟩, j2⟩⟩
theorem vUnfL_has {t : Nat} : ∀ (q : List vA) (rs : List (List vA)) (k : Nat) (V : vV), rs ∈ vCh V q → (∀ c ∈ q, ∀ r ∈ V c.1, vHas 16 r ∧ vHas 17 r) → vHas t q → vHas t (vUnfL k q rs)
  | [], _, _, _, _, _, ⟨a, ha, _⟩ => by cases ha
  | c :: q, rs, k, V, hrs, hr, ⟨a, ha, hta⟩ => by
    obtain ⟨r, h1, h2⟩ := List.mem_flatMap.mp hrs
    obtain ⟨rs', h3, rfl⟩ := List.mem_map.mp h2
    rcases List.mem_cons.mp ha with rfl | ha
    · obtain ⟨⟨x, x1, x2⟩, ⟨y, y1, y2⟩⟩ := hr a List.mem_cons_self r h1
      have u16 : vUnf k a.2.1 a.2.2 16 = a.2.1 := rfl
      have u17 : vUnf k a.2.1 a.2.2 17 = a.2.2 := rfl
      rcases hta with z | z
      · refine ⟨vUnfA k a x, List.mem_append.mpr (Or.inl (List.mem_map.mpr ⟨x, x1, rfl⟩)), ?_⟩
        rcases x2 with w | w
        · left; show vUnf k a.2.1 a.2.2 x.2.1 = t; rw [w, u16, z]
        · right; show vUnf k a.2.1 a.2.2 x.2.2 = t; rw [w, u16, z]
      · refine ⟨vUnfA k a y, List.mem_append.mpr (Or.inl (List.mem_map.mpr ⟨y, y1, rfl⟩)), ?_⟩
        rcases y2 with w | w
        · left; show vUnf k a.2.1 a.2.2 y.2.1 = t; rw [w, u17, z]
        · right; show vUnf k a.2.1 a.2.2 y.2.2 = t; rw [w, u17, z]
    · obtain ⟨b, hb, htb⟩ := vUnfL_has q rs' (k + 1) V h3 (fun c hc => hr c (List.mem_cons_of_mem _ hc)) ⟨a, ha, hta⟩
      exact ⟨b, List.mem_append.mpr (Or.inr hb), htb⟩
theorem vRd_has {ν : Nat → vVw} {κ : vAL} (hg : vGood ν κ) {k : Nat} (hk : k < (vCh (vVl ν) (vLs κ)).length) {t : Nat} (ht : t = 16 ∨ t = 17) : vHas t (vRd (vVl ν) (vLs κ) k) := by
  have e := List.getElem?_eq_getElem hk
  have e2 : (vDis (vVl ν) (vLs κ)).getD k [] = vUnfL 0 (vLs κ) (vCh (vVl ν) (vLs κ))[k] := by
    unfold vDis
    rw [List.getD_eq_getElem?_getD, List.getElem?_map, e]
    rfl
  unfold vRd
  rw [e2]
  refine vRed_has (by omega) _ _ _ (vUnfL_has _ _ 0 (vVl ν) (List.mem_of_getElem? e) (fun c hc r hr => ?_) ?_)
  · obtain ⟨i, hi, rfl⟩ := (vLs_rep κ).mem.mp hc
    obtain ⟨j, hj, rfl⟩ := vVl_mem hr
    exact vSf_has ((hg.2 i hi).2 j hj)
  · have := vSf_has (x := κ) hg.1
    rcases ht with rfl | rfl
    · exact this.1
    · exact this.2
