/-! patterns, the order, requests -/
def vOk (al w p : Nat) : Bool := al / 2 ^ p % 2 == 1 && p &&& w == p
def vBest (al w : Nat) : Option Nat := if vOk al w 3 then some 3 else if vOk al w 2 then some 2 else if vOk al w 1 then some 1 else if vOk al w 0 then some 0 else none
theorem vBest_lt {al w p : Nat} (h : vBest al w = some p) : p < 4 := by
  unfold vBest at h
  split at h
  · cases h; decide
  · split at h
    · cases h; decide
    · split at h
      · cases h; decide
      · split at h
        · cases h; decide
        · cases h
theorem vBest_ok {al w p : Nat} (h : vBest al w = some p) : p &&& w = p := by
  have key : ∀ q, vOk al w q = true → q &&& w = q := by
    intro q hq
    unfold vOk at hq
    rw [Bool.and_eq_true] at hq
    exact eq_of_beq hq.2
  unfold vBest at h
  split at h
  · rename_i hk; cases h; exact key _ hk
  · split at h
    · rename_i hk; cases h; exact key _ hk
    · split at h
      · rename_i hk; cases h; exact key _ hk
      · split at h
        · rename_i hk; cases h; exact key _ hk
        · cases h
/-- a term is known when the first k atoms of l are in order -/
def vKn (l : List vA) (k t : Nat) : Bool := decide (t < 16) || (l.take k).any fun a => a.2.1 == t || a.2.2 == t
def vHv (l : List vA) (k : Nat) (a : vA) : Nat := (vKn l k a.2.1).toNat + 2 * (vKn l k a.2.2).toNat
def vBst (al : Nat → Nat) (l : List vA) (k : Nat) (a : vA) : Option Nat := vBest (al a.1) (vHv l k a)
def vAt (l : List vA) (i : Nat) : vA := l.getD i (0, 0, 0)
def vNext (al : Nat → Nat) (l : List vA) (k : Nat) : Option Nat := rF (fun i => (vBst al l k (vAt l i)).isSome) k (l.length - k)
/-- what is left to do, how many are in order, the list, the patterns: the list, the patterns, blocked -/
def vOrd (al : Nat → Nat) : Nat → Nat → List vA → (Nat → Option Nat) → List vA × (Nat → Option Nat) × Bool
  | 0, _, l, pt => (l, pt, false)
  | f + 1, k, l, pt => match vNext al l k with
    | none => (l, pt, true)
    | some i => vOrd al f (k + 1) (vMove l i k) (va_up pt k (vBst al l k (vAt l i)))
/-- a request's number: of the atom a with the pattern p under θ -/
def vCode (a : vA) (p : Nat) (θ : Nat → Nat) : Nat := ((a.1 * 4 + p) * 16 + (if p % 2 = 1 then θ a.2.1 else 0)) * 16 + (if p / 2 % 2 = 1 then θ a.2.2 else 0)
def vRq (ρ : vR) (l : List vA) (pt : Nat → Option Nat) (i c : Nat) : Prop := ∃ (θ : Nat → Nat) (a : vA) (p : Nat), vFix 16 θ ∧ vHolds ρ θ (l.take i) ∧ l[i]? = some a ∧ pt i = some p ∧ c = vCode a p θ
noncomputable def vAdd (m : Nat → Bool) (P : Nat → Prop) : Nat → Bool := fun c => m c || vD (P c)
theorem vAdd_iff {m : Nat → Bool} {P : Nat → Prop} {c : Nat} : vAdd m P c = true ↔ m c = true ∨ P c := by
  unfold vAdd
  rw [Bool.or_eq_true, vD_iff]
theorem vAdd_eq {m m' : Nat → Bool} {P : Nat → Prop} (h : ∀ c, m' c = true ↔ m c = true ∨ P c) : m' = vAdd m P := by
  funext c
  cases hm : m' c with
  | true => exact ((vAdd_iff).mpr ((h c).mp hm)).symm
  | false =>
    cases hv : vAdd m P c with
    | false => rfl
    | true => rw [(h c).mpr (vAdd_iff.mp hv)] at hm; cases hm
/-- the asking: what is made so far, failures, requests, tries; the atoms i, i + 1, .. of l; none: silent -/
noncomputable def vTell (ρ : vR) (l : List vA) (pt : Nat → Option Nat) : Nat → Nat → (Nat → Bool) × (Nat → Nat) × Nat × Nat → Bool × (Nat → Bool) × (Nat → Nat) × Nat × Nat
  | 0, _, s => (true, s)
  | f + 1, i, (m, fa, rq, tr) =>
    let m' := vAdd m (vRq ρ l pt i)
    let new := vCnt m' 4096 - vCnt m 4096
    let r := (vAt l i).1
    if new = 0 then vTell ρ l pt f (i + 1) (m', fa, rq, tr)
    else if 3 ≤ fa r then (false, m', va_up fa r (fa r - 3), rq, tr + 3)
    else vTell ρ l pt f (i + 1) (m', va_up fa r 0, rq + new, tr + new + fa r)
noncomputable def vAsk (ρ : vR) : List (List vA × (Nat → Option Nat)) → (Nat → Bool) × (Nat → Nat) × Nat × Nat → Bool × (Nat → Bool) × (Nat → Nat) × Nat × Nat
  | [], s => (true, s)
  | d :: ds, s => match vTell ρ d.1 d.2 d.1.length 0 s with
    | (true, s') => vAsk ρ ds s'
    | (false, s') => (false, s')
