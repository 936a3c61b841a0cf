/-! the reference's keys of requests -/
def kx (c : Nat) : Nat := if c / 256 % 2 = 1 then c / 16 % 16 else 16
def ky (c : Nat) : Nat := if c / 512 % 2 = 1 then c % 16 else 16
def kc (c : Nat) : Nat := (c / 256 * 17 + kx c) * 17 + ky c
def vOkc (c : Nat) : Prop := c < 4096 ∧ (c / 256 % 2 = 0 → c / 16 % 16 = 0) ∧ (c / 512 % 2 = 0 → c % 16 = 0)
theorem kx_lt (c : Nat) : kx c < 17 := by
  unfold kx
  split <;> omega
theorem ky_lt (c : Nat) : ky c < 17 := by
  unfold ky
  split <;> omega
theorem kc_lt {c : Nat} (h : c < 4096) : kc c < 4624 := by
  have h1 := kx_lt c
  have h2 := ky_lt c
  unfold kc
  omega
theorem kc_inj {c c' : Nat} (h : vOkc c) (h' : vOkc c') (e : kc c = kc c') : c = c' := by
  have x1 := kx_lt c
  have y1 := ky_lt c
  have x2 := kx_lt c'
  have y2 := ky_lt c'
  unfold kc at e
  have e1 : c / 256 = c' / 256 := by omega
  have e2 : kx c = kx c' := by omega
  have e3 : ky c = ky c' := by omega
  have a1 : c / 16 % 16 = c' / 16 % 16 := by
    unfold kx at e2
    by_cases z : c / 256 % 2 = 1
    · rw [if_pos z, if_pos (by omega)] at e2; exact e2
    · rw [h.2.1 (by omega), h'.2.1 (by omega)]
  have e4 : c / 512 = c' / 512 := by omega
  have a2 : c % 16 = c' % 16 := by
    unfold ky at e3
    by_cases z : c / 512 % 2 = 1
    · rw [if_pos z, if_pos (by omega)] at e3; exact e3
    · rw [h.2.2 (by omega), h'.2.2 (by omega)]
  omega
theorem kc_code {r p X Y : Nat} (hr : r < 4) (hp : p < 4) (hX : X < 16) (hY : Y < 16) (h1 : p % 2 = 0 → X = 0) (h2 : p / 2 % 2 = 0 → Y = 0) : vOkc (((r * 4 + p) * 16 + X) * 16 + Y) ∧ kc (((r * 4 + p) * 16 + X) * 16 + Y) = ((4 * r + p) * 17 + (if p % 2 = 1 then X else 16)) * 17 + (if p / 2 % 2 = 1 then Y else 16) := by
  generalize hc : ((r * 4 + p) * 16 + X) * 16 + Y = c
  have e1 : c / 256 = r * 4 + p := by omega
  have e2 : c / 512 % 2 = p / 2 % 2 := by omega
  have e3 : c / 16 % 16 = X := by omega
  have e4 : c % 16 = Y := by omega
  have e5 : c / 256 % 2 = p % 2 := by omega
  refine ⟨⟨by omega, fun z => by rw [e3]; exact h1 (by omega), fun z => by rw [e4]; exact h2 (by omega)⟩, ?_⟩
  unfold kc kx ky
  rw [e5, e2, e3, e4, e1, Nat.mul_comm r 4]
/-! what the reference has asked, what is wanted now -/
def moM (h : xH) (m : Nat) (Mm : Nat → Bool) : Prop := ∃ f : Nat → Nat, h (m + 21) = cB 4624 f ∧ ∀ k, k < 4624 → f k = vB (∃ c, Mm c = true ∧ kc c = k)
def moW (h : xH) (m : Nat) (Mm : Nat → Bool) (W : Nat → Prop) : Prop := ∃ f : Nat → Nat, h (m + 22) = cB 4624 f ∧ ∀ k, k < 4624 → f k = vB (∃ c, Mm c = false ∧ W c ∧ kc c = k)
noncomputable def rqN (Mm : Nat → Bool) (W : Nat → Prop) : Nat := vCnt (vAdd Mm W) 4096 - vCnt Mm 4096
theorem rqN_s {Mm : Nat → Bool} {W : Nat → Prop} {c : Nat} (hc : c < 4096) : rqN Mm (fun c' => W c' ∨ c' = c) = rqN Mm W + vB (vAdd Mm W c = false) := by
  unfold rqN
  rw [← vAdd_up, vCnt_one hc]
  have h1 := vCnt_mono (p := Mm) (q := vAdd Mm W) (fun k hk => vAdd_iff.mpr (Or.inl hk)) 4096
  omega
theorem rqN_c {Mm : Nat → Bool} {W W' : Nat → Prop} (h : ∀ c, W c ↔ W' c) : rqN Mm W = rqN Mm W' := by
  unfold rqN
  rw [vAdd_c h]
theorem moW.c {h : xH} {m : Nat} {Mm : Nat → Bool} {W W' : Nat → Prop} (p : moW h m Mm W) (e : ∀ c, Mm c = false → (W c ↔ W' c)) : moW h m Mm W' := by
  obtain ⟨f, p1, p2⟩ := p
  refine ⟨f, p1, fun k hk => (p2 k hk).trans (vB_c ⟨?_, ?_⟩)⟩
  · rintro ⟨c, h1, h2, h3⟩
    exact ⟨c, h1, (e c h1).mp h2, h3⟩
  · rintro ⟨c, h1, h2, h3⟩
    exact ⟨c, h1, (e c h1).mpr h2, h3⟩
theorem moW.sm {h h' : xH} {m : Nat} {Mm : Nat → Bool} {W : Nat → Prop} (p : moW h m Mm W) (e : h' (m + 22) = h (m + 22)) : moW h' m Mm W := by
  obtain ⟨f, p1, p2⟩ := p
  exact ⟨f, e.trans p1, p2⟩
theorem moM.sm {h h' : xH} {m : Nat} {Mm : Nat → Bool} (p : moM h m Mm) (e : h' (m + 21) = h (m + 21)) : moM h' m Mm := by
  obtain ⟨f, p1, p2⟩ := p
  exact ⟨f, e.trans p1, p2⟩
theorem rqN_le (Mm : Nat → Bool) (W : Nat → Prop) : rqN Mm W ≤ 4096 := by
  have := vCnt_le (vAdd Mm W) 4096
  unfold rqN
  omega
/-! trying all choices: the terms F i, S i get the values A i x, B i x of the choice x for i -/
def sEx (F S : Nat → Nat) (A B : Nat → Nat → Nat) (N : Nat → Nat) (G : Nat → Nat → Prop) (to : Nat) (P : Nat → Nat) (k : Nat) (θ : Nat → Nat) : Prop := vFix 16 θ ∧ (∀ i, i < k → θ (F i) = A i (P i) ∧ θ (S i) = B i (P i)) ∧ ∀ i, k ≤ i → i < to → ∃ x, x < N i ∧ G i x ∧ θ (F i) = A i x ∧ θ (S i) = B i x
section SEX
variable {F S : Nat → Nat} {A B : Nat → Nat → Nat} {N : Nat → Nat} {G : Nat → Nat → Prop} {to : Nat} {P : Nat → Nat} {k : Nat} {θ : Nat → Nat} {cd : (Nat → Nat) → Nat} {c nx : Nat}
theorem sEx_s (hk : k < to) : sEx F S A B N G to P k θ ↔ ∃ j, j < N k ∧ G k j ∧ sEx F S A B N G to (va_up P k j) (k + 1) θ := by
  constructor
  · rintro ⟨h1, h2, h3⟩
    obtain ⟨x, a, b, c, d⟩ := h3 k (Nat.le_refl _) hk
    refine ⟨x, a, b, h1, fun i hi => ?_, fun i h4 h5 => h3 i (by omega) h5⟩
    by_cases e : i = k
    · rw [e, up_self]; exact ⟨c, d⟩
    · rw [up_ne e]; exact h2 i (by omega)
  · rintro ⟨x, a, b, h1, h2, h3⟩
    refine ⟨h1, fun i hi => ?_, fun i h4 h5 => ?_⟩
    · have := h2 i (by omega)
      rw [up_ne (by omega)] at this
      exact this
    · by_cases e : i = k
      · have := h2 k (by omega)
        rw [up_self] at this
        rw [e]
        exact ⟨x, a, b, this⟩
      · exact h3 i (by omega) h5
theorem sEx_con (h : sEx F S A B N G to P k θ) : vCon 16 F S (fun i => A i (P i)) (fun i => B i (P i)) k := ⟨θ, h.1, h.2.1⟩
/-- what comes out of the choices nx, nx + 1, .. for k -/
def sX (F S : Nat → Nat) (A B : Nat → Nat → Nat) (N : Nat → Nat) (G : Nat → Nat → Prop) (to : Nat) (cd : (Nat → Nat) → Nat) (P : Nat → Nat) (k nx c : Nat) : Prop := ∃ j, nx ≤ j ∧ j < N k ∧ G k j ∧ ∃ θ, sEx F S A B N G to (va_up P k j) (k + 1) θ ∧ c = cd θ
theorem sX_stop (h : N k ≤ nx) : ¬ sX F S A B N G to cd P k nx c := fun ⟨j, h1, h2, _⟩ => by omega
theorem sX_s (h : nx < N k) : sX F S A B N G to cd P k nx c ↔ (G k nx ∧ ∃ θ, sEx F S A B N G to (va_up P k nx) (k + 1) θ ∧ c = cd θ) ∨ sX F S A B N G to cd P k (nx + 1) c := by
  constructor
  · rintro ⟨j, h1, h2, h3, h4⟩
    by_cases e : j = nx
    · rw [e] at h3 h4; exact Or.inl ⟨h3, h4⟩
    · exact Or.inr ⟨j, by omega, h2, h3, h4⟩
  · rintro (⟨h3, h4⟩ | ⟨j, h1, h2, h3, h4⟩)
    · exact ⟨nx, Nat.le_refl _, h, h3, h4⟩
    · exact ⟨j, by omega, h2, h3, h4⟩
theorem sX_down (hk : k < to) : (∃ θ, sEx F S A B N G to P k θ ∧ c = cd θ) ↔ sX F S A B N G to cd P k 0 c := by
  constructor
  · rintro ⟨θ, h1, h2⟩
    obtain ⟨j, a, b, e⟩ := (sEx_s hk).mp h1
    exact ⟨j, Nat.zero_le _, a, b, θ, e, h2⟩
  · rintro ⟨j, -, a, b, θ, e, h2⟩
    exact ⟨θ, (sEx_s hk).mpr ⟨j, a, b, e⟩, h2⟩
theorem sEx_end {c0 : Nat} (hc : vCon 16 F S (fun i => A i (P i)) (fun i => B i (P i)) to) (h0 : ∀ θ, sEx F S A B N G to P to θ → cd θ = c0) : (∃ θ, sEx F S A B N G to P to θ ∧ c = cd θ) ↔ c = c0 := by
  constructor
  · rintro ⟨θ, h1, h2⟩
    rw [h2, h0 θ h1]
  · intro e
    obtain ⟨σ, h1, h2⟩ := hc
    have hs : sEx F S A B N G to P to σ := ⟨h1, h2, fun i h3 h4 => by omega⟩
    exact ⟨σ, hs, by rw [h0 σ hs, e]⟩
theorem vHeld_eqS {t v : Nat} (h : sEx F S A B N G to P k θ) (hv : vHeld 16 F S (fun i => A i (P i)) (fun i => B i (P i)) k t = some v) : θ t = v := vHeld_eq h.1 h.2.1 hv
theorem vHeld_some {A' B' : Nat → Nat} {t : Nat} (h : t < 16 ∨ ∃ j, j < k ∧ (F j = t ∨ S j = t)) (hA : ∀ j, j < k → A' j < 16 ∧ B' j < 16) : ∃ v, vHeld 16 F S A' B' k t = some v ∧ v < 16 := by
  cases hv : vHeld 16 F S A' B' k t with
  | none =>
    obtain ⟨h1, h2⟩ := vHeld_none hv
    rcases h with h | ⟨j, hj, h | h⟩
    · omega
    · exact absurd h (h2 j hj).1
    · exact absurd h (h2 j hj).2
  | some v =>
    refine ⟨v, rfl, ?_⟩
    unfold vHeld at hv
    by_cases ht : t < 16
    · rw [if_pos ht] at hv; cases hv; exact ht
    · rw [if_neg ht] at hv
      obtain ⟨j, -, hj, q⟩ := vHl_some hv
      have := hA j (by omega)
      rcases q with ⟨-, e⟩ | ⟨-, e⟩ <;> omega
theorem sX_join {W W1 W' : Nat → Prop} (h : nx < N k) (h1 : ∀ c, W1 c ↔ W c ∨ (G k nx ∧ ∃ θ, sEx F S A B N G to (va_up P k nx) (k + 1) θ ∧ c = cd θ)) (h2 : ∀ c, W' c ↔ W1 c ∨ sX F S A B N G to cd P k (nx + 1) c) : ∀ c, W' c ↔ W c ∨ sX F S A B N G to cd P k nx c := fun c => by
  rw [h2 c, h1 c, sX_s h, or_assoc]
end SEX
theorem vRep.take {l : List vA} {n : Nat} {H F S : Nat → Nat} (h : vRep l n H F S) {k : Nat} (hk : k ≤ n) : vRep (l.take k) k H F S := by
  refine ⟨by rw [List.length_take, ← h.1]; omega, fun j a ha => h.2 j a ?_⟩
  rw [List.getElem?_take] at ha
  split at ha
  · exact ha
  · cases ha
theorem vRq_ok {ρ : Nat → vRel} {l : List vA} {pt : Nat → Option Nat} {to c : Nat} (hR : vOkR ρ) (hb : vBdL l) (hto : to < l.length) (hg : vGd1 l pt to) (h : vRq (vRw ρ) l pt to c) : vOkc c := by
  obtain ⟨θ, a, p, h1, h2, h3, h4, rfl⟩ := h
  obtain ⟨p', g1, g2, g3, g4⟩ := hg
  rw [g1] at h4
  cases h4
  have ea : a = vAt l to := by
    have := (vRep_self l).ix hto
    rw [h3] at this
    exact Option.some.inj this
  have key : ∀ t, vKn l to t = true → θ t < 16 := by
    intro t ht
    rcases (vKn_iff (vRep_self l) (by omega)).mp ht with ht | ⟨j, hj, e⟩
    · rw [h1 t ht]; exact ht
    · have mm := h2 _ (((vRep_self l).take (k := to) (by omega)).mem.mpr ⟨j, hj, rfl⟩)
      obtain ⟨i, i1, i2⟩ := vRw_mem.mp mm
      have bb := (hR _ (hb _ (vAt_mem (l := l) (j := j) (by omega))).1).2 i i1
      have e1 := congrArg Prod.fst i2
      have e2 := congrArg Prod.snd i2
      dsimp only at e1 e2
      rcases e with e | e
      · rw [← e, e1]; exact bb.1
      · rw [← e, e2]; exact bb.2
  subst ea
  unfold vCode
  refine (kc_code (hb _ (vAt_mem hto)).1 g2 ?_ ?_ (fun z => if_neg (by omega)) (fun z => if_neg (by omega))).1
  · by_cases z : p % 2 = 1
    · rw [if_pos z]; exact key _ (g3 z)
    · rw [if_neg z]; omega
  · by_cases z : p / 2 % 2 = 1
    · rw [if_pos z]; exact key _ (g4 z)
    · rw [if_neg z]; omega
