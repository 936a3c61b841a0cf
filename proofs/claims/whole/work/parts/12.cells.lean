/-! pictures of the class's objects, each a block of cells from its own number on -/
abbrev cI (N : Nat) (f : Nat → Nat) : Option va_E := some (.inl (0, N, .inl (nF f)))
abbrev cO (N : Nat) (f : Nat → Option Nat) : Option va_E := some (.inl (0, N, .inl (oF f)))
abbrev cB (N : Nat) (f : Nat → Nat) : Option va_E := some (.inl (2, N, .inl (nF f)))
abbrev cL (N : Nat) (f : Nat → Int64) : Option va_E := some (.inl (1, N, .inr (.inl f)))
abbrev cQ (t N : Nat) (f : Nat → Option Nat) : Option va_E := some (.inl (t, N, .inr (.inr (.inr (.inr f)))))
abbrev cJ (ci : Nat) (fs : List Value) : Option va_E := some (.inr (ci, fs))
/-- a block of cells is the same -/
def xsm (a b : Nat) (h h' : xH) : Prop := ∀ q, a ≤ q → q < b → h' q = h q
theorem xfr.sm {a b a' b' : Nat} {h h' : xH} (p : xfr a b h h') (hd : b' ≤ a ∨ b ≤ a') : xsm a' b' h h' := fun q h1 h2 => p q (by omega)
theorem xsm.mo {a b a' b' : Nat} {h h' : xH} (p : xsm a b h h') (ha : a ≤ a') (hb : b' ≤ b) : xsm a' b' h h' := fun q h1 h2 => p q (by omega) (by omega)
theorem xsm.tr {a b : Nat} {h h1 h2 : xH} (p : xsm a b h h1) (q : xsm a b h1 h2) : xsm a b h h2 := fun i g1 g2 => (q i g1 g2).trans (p i g1 g2)
def isRel (h : xH) (r n : Nat) (X Y : Nat → Nat) (al fa : Nat) : Prop := h r = cJ 9 [.ref (r + 1), .ref (r + 2), .int (nI n), .int (nI al), .int (nI fa)] ∧ h (r + 1) = cI 8 X ∧ h (r + 2) = cI 8 Y
theorem isRel.sm {h h' : xH} {r n : Nat} {X Y : Nat → Nat} {al fa : Nat} (p : isRel h r n X Y al fa) (q : xsm r (r + 3) h h') : isRel h' r n X Y al fa := ⟨(q _ (by omega) (by omega)).trans p.1, (q _ (by omega) (by omega)).trans p.2.1, (q _ (by omega) (by omega)).trans p.2.2⟩
def isAL (h : xH) (r cap n : Nat) (H F S : Nat → Nat) : Prop := h r = cJ 3 [.ref (r + 1), .ref (r + 2), .ref (r + 3), .int (nI n)] ∧ h (r + 1) = cI cap H ∧ h (r + 2) = cI cap F ∧ h (r + 3) = cI cap S
theorem isAL.sm {h h' : xH} {r cap n : Nat} {H F S : Nat → Nat} (p : isAL h r cap n H F S) (q : xsm r (r + 4) h h') : isAL h' r cap n H F S := ⟨(q _ (by omega) (by omega)).trans p.1, (q _ (by omega) (by omega)).trans p.2.1, (q _ (by omega) (by omega)).trans p.2.2.1, (q _ (by omega) (by omega)).trans p.2.2.2⟩
def isIm (h : xH) (r : Nat) (f : Nat → Option Nat) : Prop := h r = cJ 5 [.ref (r + 1)] ∧ h (r + 1) = cO 34 f
theorem isIm.sm {h h' : xH} {r : Nat} {f : Nat → Option Nat} (p : isIm h r f) (q : xsm r (r + 2) h h') : isIm h' r f := ⟨(q _ (by omega) (by omega)).trans p.1, (q _ (by omega) (by omega)).trans p.2⟩
def isMk (h : xH) (r N : Nat) (m : Nat → Bool) : Prop := h r = cJ 7 [.ref (r + 1)] ∧ ∃ W : Nat → Int64, h (r + 1) = cL N W ∧ ∀ k, k < 64 * N → btL (W (k / 64)) (k % 64) = m k
theorem isMk.sm {h h' : xH} {r N : Nat} {m : Nat → Bool} (p : isMk h r N m) (q : xsm r (r + 2) h h') : isMk h' r N m := by
  obtain ⟨p1, W, p2, p3⟩ := p
  exact ⟨(q _ (by omega) (by omega)).trans p1, W, (q _ (by omega) (by omega)).trans p2, p3⟩
def isMp (h : xH) (r : Nat) (s t : Value) (lo : Int32) (f : Nat → Option Nat) : Prop := h r = cJ 6 [.ref (r + 1), s, t, .int lo] ∧ isIm h (r + 1) f
theorem isMp.sm {h h' : xH} {r : Nat} {s t : Value} {lo : Int32} {f : Nat → Option Nat} (p : isMp h r s t lo f) (q : xsm r (r + 3) h h') : isMp h' r s t lo f := ⟨(q _ (by omega) (by omega)).trans p.1, p.2.sm (q.mo (by omega) (by omega))⟩
def isDj (h : xH) (r n : Nat) (H F S : Nat → Nat) (pt : Nat → Option Nat) (dr bl : Nat) : Prop := h r = cJ 4 [.ref (r + 1), .ref (r + 5), .int (nI dr), .int (nI bl)] ∧ isAL h (r + 1) 6 n H F S ∧ h (r + 5) = cO 6 pt
theorem isDj.sm {h h' : xH} {r n : Nat} {H F S : Nat → Nat} {pt : Nat → Option Nat} {dr bl : Nat} (p : isDj h r n H F S pt dr bl) (q : xsm r (r + 6) h h') : isDj h' r n H F S pt dr bl := ⟨(q _ (by omega) (by omega)).trans p.1, p.2.1.sm (q.mo (by omega) (by omega)), (q _ (by omega) (by omega)).trans p.2.2⟩
/-- a view: two rules, each its number of atoms and its arrays -/
abbrev vAL : Type := Nat × (Nat → Nat) × (Nat → Nat) × (Nat → Nat)
def isVw (h : xH) (r n : Nat) (R : Nat → vAL) (f : Nat → Option Nat) : Prop := h r = cJ 10 [.ref (r + 1), .int (nI n)] ∧ h (r + 1) = cQ 6 2 f ∧ (∀ i, i < 2 → f i = some (r + 2 + 4 * i)) ∧ ∀ i, i < 2 → isAL h (r + 2 + 4 * i) 2 (R i).1 (R i).2.1 (R i).2.2.1 (R i).2.2.2
theorem isVw.sm {h h' : xH} {r n : Nat} {R : Nat → vAL} {f : Nat → Option Nat} (p : isVw h r n R f) (q : xsm r (r + 10) h h') : isVw h' r n R f := ⟨(q _ (by omega) (by omega)).trans p.1, (q _ (by omega) (by omega)).trans p.2.1, p.2.2.1, fun i hi => (p.2.2.2 i hi).sm (q.mo (by omega) (by omega))⟩
