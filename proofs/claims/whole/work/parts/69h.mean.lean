/-! the reference: mean -/
def jR (x : Int32) (C : Nat → Prop) (o : Prop) : Prop := (x = -1 ∧ ¬ o ∧ ∀ k, C k) ∨ (∃ a, a < 16 ∧ x = nI a ∧ o ∧ ∀ k, C k ↔ k = a) ∨ (x = -2 ∧ ∀ k, ¬ C k)
theorem m1_ne {y : Nat} (hy : y < 2 ^ 31) : ¬ (-1 : Int32) = nI y := fun w => nI_pos hy (by rw [← w]; decide)
theorem m2_ne {y : Nat} (hy : y < 2 ^ 31) : ¬ (-2 : Int32) = nI y := fun w => nI_pos hy (by rw [← w]; decide)
theorem jR_s {x : Int32} {C : Nat → Prop} {o : Prop} {b : Bool} {y : Nat} (h : jR x C o) (hy : y < 16) : jR (jn x b (nI y)) (fun k => C k ∧ (b = true → k = y)) (o ∨ b = true) := by
  cases b with
  | false =>
    have e : jn x false (nI y) = x := if_neg (by decide)
    rw [e]
    rcases h with ⟨h1, h2, h3⟩ | ⟨a, h1, h2, h3, h4⟩ | ⟨h1, h2⟩
    · exact Or.inl ⟨h1, fun w => w.elim h2 (fun w => by cases w), fun k => ⟨h3 k, fun w => by cases w⟩⟩
    · exact Or.inr (Or.inl ⟨a, h1, h2, Or.inl h3, fun k => ⟨fun w => (h4 k).mp w.1, fun w => ⟨(h4 k).mpr w, fun z => by cases z⟩⟩⟩)
    · exact Or.inr (Or.inr ⟨h1, fun k w => h2 k w.1⟩)
  | true =>
    have e : jn x true (nI y) = if x = nI y then x else if x = -1 then nI y else -2 := if_pos rfl
    rw [e]
    rcases h with ⟨h1, h2, h3⟩ | ⟨a, h1, h2, h3, h4⟩ | ⟨h1, h2⟩
    · rw [if_neg (by rw [h1]; exact m1_ne (by omega)), if_pos h1]
      exact Or.inr (Or.inl ⟨y, hy, rfl, Or.inr rfl, fun k => ⟨fun w => w.2 rfl, fun w => ⟨h3 k, fun _ => w⟩⟩⟩)
    · by_cases z : a = y
      · rw [if_pos (by rw [h2, z])]
        exact Or.inr (Or.inl ⟨a, h1, h2, Or.inl h3, fun k => ⟨fun w => (h4 k).mp w.1, fun w => ⟨(h4 k).mpr w, fun _ => by rw [w, z]⟩⟩⟩)
      · rw [if_neg (by rw [h2]; exact fun w => z ((nI_eq (by omega) (by omega)).mp w)), if_neg (by rw [h2]; exact fun w => m1_ne (y := a) (by omega) w.symm)]
        exact Or.inr (Or.inr ⟨rfl, fun k w => z (by rw [← (h4 k).mp w.1]; exact w.2 rfl)⟩)
    · rw [if_neg (by rw [h1]; exact m2_ne (by omega)), if_neg (by rw [h1]; decide)]
      exact Or.inr (Or.inr ⟨rfl, fun k w => h2 k w.1⟩)
theorem jR_0 {t : Nat} : jR (if t < 16 then nI t else -1) (fun k => t < 16 → k = t) (t < 16) := by
  by_cases h : t < 16
  · rw [if_pos h]
    exact Or.inr (Or.inl ⟨t, h, rfl, h, fun k => ⟨fun w => w h, fun w _ => w⟩⟩)
  · rw [if_neg h]
    exact Or.inl ⟨rfl, h, fun k w => absurd w h⟩
theorem jR_c {x : Int32} {C C' : Nat → Prop} {o o' : Prop} (h : jR x C o) (hC : ∀ k, C k ↔ C' k) (ho : o ↔ o') : jR x C' o' := by
  rcases h with ⟨h1, h2, h3⟩ | ⟨a, h1, h2, h3, h4⟩ | ⟨h1, h2⟩
  · exact Or.inl ⟨h1, fun w => h2 (ho.mpr w), fun k => (hC k).mp (h3 k)⟩
  · exact Or.inr (Or.inl ⟨a, h1, h2, ho.mp h3, fun k => (hC k).symm.trans (h4 k)⟩)
  · exact Or.inr (Or.inr ⟨h1, fun k w => h2 k ((hC k).mpr w)⟩)
def jC (F1 S1 x1 y1 F2 S2 x2 y2 t k : Nat) : Prop := (t < 16 → k = t) ∧ (F1 = t → k = x1) ∧ (S1 = t → k = y1) ∧ (F2 = t → k = x2) ∧ (S2 = t → k = y2)
def jO (F1 S1 F2 S2 t : Nat) : Prop := t < 16 ∨ F1 = t ∨ S1 = t ∨ F2 = t ∨ S2 = t
def jV (F1 S1 x1 y1 F2 S2 x2 y2 t : Nat) : Int32 := jn (jn (jn (jn (if t < 16 then nI t else -1) (decide (F1 = t)) (nI x1)) (decide (S1 = t)) (nI y1)) (decide (F2 = t)) (nI x2)) (decide (S2 = t)) (nI y2)
section JJ
variable {F1 S1 x1 y1 F2 S2 x2 y2 : Nat}
theorem jV_ok {t : Nat} (h1 : x1 < 16) (h2 : y1 < 16) (h3 : x2 < 16) (h4 : y2 < 16) : jR (jV F1 S1 x1 y1 F2 S2 x2 y2 t) (jC F1 S1 x1 y1 F2 S2 x2 y2 t) (jO F1 S1 F2 S2 t) := by
  refine jR_c (jR_s (jR_s (jR_s (jR_s jR_0 h1) h2) h3) h4) (fun k => ?_) ?_
  · unfold jC
    rw [decide_eq_true_iff, decide_eq_true_iff, decide_eq_true_iff, decide_eq_true_iff, and_assoc, and_assoc, and_assoc]
  · unfold jO
    rw [decide_eq_true_iff, decide_eq_true_iff, decide_eq_true_iff, decide_eq_true_iff, or_assoc, or_assoc, or_assoc]
def gG (v F1 S1 x1 y1 F2 S2 x2 y2 : Nat) (E : Prop) (k : Nat) : Prop := ∃ (p q : Nat) (θ : Nat → Nat), p < 16 ∧ q < 16 ∧ k = 256 * v + 16 * p + q ∧ E ∧ vFix 16 θ ∧ θ F1 = x1 ∧ θ S1 = y1 ∧ θ F2 = x2 ∧ θ S2 = y2 ∧ θ 16 = p ∧ θ 17 = q
def gOk (F1 S1 x1 y1 F2 S2 x2 y2 : Nat) (E : Prop) : Prop := (¬ jV F1 S1 x1 y1 F2 S2 x2 y2 16 < 0 ∧ ¬ jV F1 S1 x1 y1 F2 S2 x2 y2 17 < 0 ∧ E) ∧ ∀ t, t < 22 → ¬ jV F1 S1 x1 y1 F2 S2 x2 y2 t < -1
theorem j_val {x : Int32} {C : Nat → Prop} {o : Prop} (h : jR x C o) (hx : ¬ x < 0) : ∃ a, a < 16 ∧ x = nI a ∧ ∀ k, C k ↔ k = a := by
  rcases h with ⟨h1, h2, h3⟩ | ⟨a, h1, h2, h3, h4⟩ | ⟨h1, h2⟩
  · exact absurd (by rw [h1]; decide) hx
  · exact ⟨a, h1, h2, h4⟩
  · exact absurd (by rw [h1]; decide) hx
theorem j_C {θ : Nat → Nat} (hf : vFix 16 θ) (e1 : θ F1 = x1) (e2 : θ S1 = y1) (e3 : θ F2 = x2) (e4 : θ S2 = y2) (t : Nat) : jC F1 S1 x1 y1 F2 S2 x2 y2 t (θ t) := ⟨fun w => hf t w, fun w => by rw [← w, e1], fun w => by rw [← w, e2], fun w => by rw [← w, e3], fun w => by rw [← w, e4]⟩
theorem gOk_yes {v : Nat} {E : Prop} (h1 : x1 < 16) (h2 : y1 < 16) (h3 : x2 < 16) (h4 : y2 < 16) (t1 : F1 < 22) (t2 : S1 < 22) (t3 : F2 < 22) (t4 : S2 < 22) (h : gOk F1 S1 x1 y1 F2 S2 x2 y2 E) : ∃ p q, p < 16 ∧ q < 16 ∧ jV F1 S1 x1 y1 F2 S2 x2 y2 16 = nI p ∧ jV F1 S1 x1 y1 F2 S2 x2 y2 17 = nI q ∧ ∀ k, gG v F1 S1 x1 y1 F2 S2 x2 y2 E k ↔ k = 256 * v + 16 * p + q := by
  obtain ⟨⟨g1, g2, g3⟩, g4⟩ := h
  obtain ⟨p, p1, p2, p3⟩ := j_val (jV_ok (F1 := F1) (S1 := S1) (F2 := F2) (S2 := S2) (t := 16) h1 h2 h3 h4) g1
  obtain ⟨q, q1, q2, q3⟩ := j_val (jV_ok (F1 := F1) (S1 := S1) (F2 := F2) (S2 := S2) (t := 17) h1 h2 h3 h4) g2
  refine ⟨p, q, p1, q1, p2, q2, fun k => ⟨?_, fun e => ?_⟩⟩
  · rintro ⟨p', q', θ, -, -, e, -, f, e1, e2, e3, e4, e5, e6⟩
    have w1 := (p3 _).mp (j_C f e1 e2 e3 e4 16)
    have w2 := (q3 _).mp (j_C f e1 e2 e3 e4 17)
    rw [e, ← e5, ← e6, w1, w2]
  · have ex : ∀ t, ∃ k, t < 22 → jC F1 S1 x1 y1 F2 S2 x2 y2 t k := by
      intro t
      by_cases ht : t < 22
      · rcases jV_ok (F1 := F1) (S1 := S1) (F2 := F2) (S2 := S2) (t := t) h1 h2 h3 h4 with ⟨-, -, w⟩ | ⟨a, -, -, -, w⟩ | ⟨w, -⟩
        · exact ⟨0, fun _ => w 0⟩
        · exact ⟨a, fun _ => (w a).mpr rfl⟩
        · exact absurd (by rw [w]; decide) (g4 t ht)
      · exact ⟨0, fun w => absurd w ht⟩
    obtain ⟨θ, hθ⟩ := Classical.axiomOfChoice ex
    exact ⟨p, q, θ, p1, q1, e, g3, fun t ht => (hθ t (by omega)).1 ht, (hθ F1 t1).2.1 rfl, (hθ S1 t2).2.2.1 rfl, (hθ F2 t3).2.2.2.1 rfl, (hθ S2 t4).2.2.2.2 rfl, (p3 _).mp (hθ 16 (by omega)), (q3 _).mp (hθ 17 (by omega))⟩
theorem j_has {x : Int32} {C : Nat → Prop} {o : Prop} (h : jR x C o) {k : Nat} (hk : C k) (ho : o) : ¬ x < 0 := by
  rcases h with ⟨h1, h2, h3⟩ | ⟨a, h1, h2, h3, h4⟩ | ⟨h1, h2⟩
  · exact absurd ho h2
  · rw [h2]; exact nI_pos (by omega)
  · exact absurd hk (h2 k)
theorem j_m1 {x : Int32} {C : Nat → Prop} {o : Prop} (h : jR x C o) {k : Nat} (hk : C k) : ¬ x < -1 := by
  rcases h with ⟨h1, h2, h3⟩ | ⟨a, h1, h2, h3, h4⟩ | ⟨h1, h2⟩
  · rw [h1]; decide
  · intro w
    have e := nI_toInt (show a < 2 ^ 31 by omega)
    rw [h2, Int32.lt_iff_toInt_lt, e] at w
    have : (-1 : Int32).toInt = -1 := by decide
    omega
  · exact absurd hk (h2 k)
theorem gOk_no {v : Nat} {E : Prop} (h1 : x1 < 16) (h2 : y1 < 16) (h3 : x2 < 16) (h4 : y2 < 16) (o1 : jO F1 S1 F2 S2 16) (o2 : jO F1 S1 F2 S2 17) (h : ¬ gOk F1 S1 x1 y1 F2 S2 x2 y2 E) (k : Nat) : ¬ gG v F1 S1 x1 y1 F2 S2 x2 y2 E k := by
  rintro ⟨p, q, θ, -, -, -, g, f, e1, e2, e3, e4, -, -⟩
  have cc := j_C (F1 := F1) (S1 := S1) (F2 := F2) (S2 := S2) f e1 e2 e3 e4
  exact h ⟨⟨j_has (jV_ok h1 h2 h3 h4) (cc 16) o1, j_has (jV_ok h1 h2 h3 h4) (cc 17) o2, g⟩, fun t _ => j_m1 (jV_ok h1 h2 h3 h4) (cc t)⟩
end JJ
theorem gSem {ρ : Nat → vRel} {rl : List vA} {H F S : Nat → Nat} {e v k : Nat} (hr : vRep rl (e + 1) H F S) (he : e < 2) : (∃ i, i < (ρ (H 0)).1 ∧ ∃ j, j < (ρ (H e)).1 ∧ gG v (F 0) (S 0) ((ρ (H 0)).2.1 i) ((ρ (H 0)).2.2.1 i) (F e) (S e) ((ρ (H e)).2.1 j) ((ρ (H e)).2.2.1 j) (e = 0 → i = j) k) ↔ ∃ p q, p < 16 ∧ q < 16 ∧ k = 256 * v + 16 * p + q ∧ vSem (vRw ρ) rl p q := by
  constructor
  · rintro ⟨i, i1, j, j1, p, q, θ, p1, q1, ek, g, f, e1, e2, e3, e4, e5, e6⟩
    refine ⟨p, q, p1, q1, ek, θ, f, e5, e6, fun a ha => ?_⟩
    obtain ⟨u, hu, rfl⟩ := hr.mem.mp ha
    by_cases eu : u = 0
    · subst eu
      exact vRw_mem.mpr ⟨i, i1, by dsimp only; rw [e1, e2]⟩
    · have : u = e := by omega
      subst this
      exact vRw_mem.mpr ⟨j, j1, by dsimp only; rw [e3, e4]⟩
  · rintro ⟨p, q, p1, q1, ek, θ, f, e5, e6, hh⟩
    obtain ⟨i, i1, i2⟩ := vRw_mem.mp (hh _ (hr.mem.mpr ⟨0, by omega, rfl⟩))
    have a1 := congrArg Prod.fst i2
    have a2 := congrArg Prod.snd i2
    dsimp only at a1 a2
    by_cases ez : e = 0
    · subst ez
      exact ⟨i, i1, i, i1, p, q, θ, p1, q1, ek, fun _ => rfl, f, a1, a2, a1, a2, e5, e6⟩
    · obtain ⟨j, j1, j2⟩ := vRw_mem.mp (hh _ (hr.mem.mpr ⟨e, by omega, rfl⟩))
      have b1 := congrArg Prod.fst j2
      have b2 := congrArg Prod.snd j2
      dsimp only at b1 b2
      exact ⟨i, i1, j, j1, p, q, θ, p1, q1, ek, fun w => absurd w ez, f, a1, a2, b1, b2, e5, e6⟩
section T69h
variable {d L : Nat} {xs : Nat → Int32} {n : Nat} {h : xH} {m : Nat} {as ma stk ne rq tr : Nat} {rw_ rX rY na aR aA aB : Nat → Nat} {ρ : Nat → vRel} {PR : Nat → Prop} {y : vAL}
theorem t_Mod_mean {v x : Nat} {f : Nat → Nat} (p0 : h m = cM m as ma stk ne rq tr) (x0 : h (m + 1) = cI 4 rw_) (x1 : h (m + 2) = cI 32 rX) (x2 : h (m + 3) = cI 32 rY) (c2 : h (m + 7) = cI 6 na) (c3 : h (m + 8) = cI 12 aR) (c4 : h (m + 9) = cI 12 aA) (c5 : h (m + 10) = cI 12 aB) (cp : h (m + 23) = cB 768 f) (hf : ∀ k, k < 768 → f k = vB (PR k)) (hρ : ∀ r, r < 4 → rw_ r = (ρ r).1 ∧ ∀ k, k < 8 → rX (8 * r + k) = (ρ r).2.1 k ∧ rY (8 * r + k) = (ρ r).2.2.1 k) (hR : vOkR ρ) (hv : v < 3) (hx : x < 2) (hna : na (2 * v + x) = y.1) (hat : ∀ k, k < 2 → aR ((2 * (2 * v + x)) + k) = y.2.1 k ∧ aA ((2 * (2 * v + x)) + k) = y.2.2.1 k ∧ aB ((2 * (2 * v + x)) + k) = y.2.2.2 k) (hy : vRk y) (hs : vSf y.1 y.2.2.1 y.2.2.2) (hd : 2 ≤ d) : XM d 0 0 k_Mod_mean L xs [.ref m, .int (nI v), .int (nI (2 * v + x))] n h (qV n (fun h' => xfr (m + 23) (m + 24) h h' ∧ ∃ f', h' (m + 23) = cB 768 f' ∧ ∀ k, k < 768 → f' k = vB (PR k ∨ ∃ p q, p < 16 ∧ q < 16 ∧ k = 256 * v + 16 * p + q ∧ vSem (vRw ρ) (vLs y) p q))) := by
  obtain ⟨e, he, hye⟩ : ∃ e, e < 2 ∧ y.1 = e + 1 := by
    obtain ⟨⟨i, hi, -⟩, -⟩ := hs
    have := hy.1
    exact ⟨y.1 - 1, by omega, by omega⟩
  have rep : vRep (vLs y) (e + 1) y.2.1 y.2.2.1 y.2.2.2 := by
    have := vLs_rep y
    rw [hye] at this
    exact this
  have oc : ∀ t, (∃ i, i < y.1 ∧ (y.2.2.1 i = t ∨ y.2.2.2 i = t)) → jO (y.2.2.1 0) (y.2.2.2 0) (y.2.2.1 e) (y.2.2.2 e) t := by
    rintro t ⟨i, hi, w⟩
    by_cases ei : i = 0
    · subst ei
      exact w.elim (fun w => Or.inr (Or.inl w)) (fun w => Or.inr (Or.inr (Or.inl w)))
    · have : i = e := by omega
      subst this
      exact w.elim (fun w => Or.inr (Or.inr (Or.inr (Or.inl w)))) (fun w => Or.inr (Or.inr (Or.inr (Or.inr w))))
  have oc16 := oc 16 hs.1
  have oc17 := oc 17 hs.2
  obtain ⟨a1, a2, a3⟩ := hat 0 (by omega)
  obtain ⟨b1, b2, b3⟩ := hat e he
  rw [Nat.add_zero] at a1 a2 a3
  obtain ⟨r1, t1, t2⟩ := hy.2 0 (by omega)
  obtain ⟨r2, t3, t4⟩ := hy.2 e (by omega)
  have q1 := hR _ r1
  have q2 := hR _ r2
  have fl : ∀ (g : Nat → Nat) (P : Nat → Prop), (∀ k, k < 768 → g k = vB (P k)) → ∀ k, k < 768 → g k < 2 := fun g P hg k hk => by rw [hg k hk]; exact vB_lt _
  refine XM.of rfl (Nat.le_of_ble_eq_true rfl) ?_
  have outer : ∀ (q i : Nat) (h' : xH) (f' : Nat → Nat), i + q = (ρ (y.2.1 0)).1 → xfr (m + 23) (m + 24) h h' → h' (m + 23) = cB 768 f' → (∀ k, k < 768 → f' k = vB (PR k ∨ ∃ i', i' < i ∧ ∃ j, j < (ρ (y.2.1 e)).1 ∧ gG v (y.2.2.1 0) (y.2.2.2 0) ((ρ (y.2.1 0)).2.1 i') ((ρ (y.2.1 0)).2.2.1 i') (y.2.2.1 e) (y.2.2.2 e) ((ρ (y.2.1 e)).2.1 j) ((ρ (y.2.1 e)).2.2.1 j) (e = 0 → i' = j) k)) → XW (x_rm d 0 0) k_Mod_mean L xs (x_mq 0 0 (qV n (fun h' => xfr (m + 23) (m + 24) h h' ∧ ∃ f', h' (m + 23) = cB 768 f' ∧ ∀ k, k < 768 → f' k = vB (PR k ∨ ∃ p q, p < 16 ∧ q < 16 ∧ k = 256 * v + 16 * p + q ∧ vSem (vRw ρ) (vLs y) p q)))) 0 0 34 [(0, .ref m), (1, .int (nI v)), (3, .int (nI (2 * (2 * v + x)))), (4, .int (nI ((2 * (2 * v + x)) + e))), (5, .int (nI (8 * y.2.1 0 + i)))] [] n h' := by
    intro q
    induction q with
    | zero =>
      intro i h' f' hi f1 g1 g2
      have p0' := (f1 m (by omega)).trans p0
      have x0' := (f1 (m + 1) (by omega)).trans x0
      have c3' := (f1 (m + 8) (by omega)).trans c3
      have ei : i = (ρ (y.2.1 0)).1 := by omega
      refine xr_iload a_Mod_mean_34 rfl ?_
      refine xr_bipush a_Mod_mean_36 (v := nI 8) (by decide +kernel) ?_
      refine xr_aload_n a_Mod_mean_38 rfl ?_
      apply xr_getf a_Mod_mean_39
      · (repeat' (first | assumption | exact va_up_self _ _ _ | refine x_lk (by omega) ?_))
      · rfl
      refine xr_iload_n a_Mod_mean_42 rfl ?_
      apply xn_iaload a_Mod_mean_43
      · (repeat' (first | assumption | exact va_up_self _ _ _ | refine x_lk (by omega) ?_))
      · omega
      · omega
      rw [a1]
      first | refine xn_imul a_Mod_mean_44 ?_ | refine xr_imul a_Mod_mean_44 ?_
      refine xr_aload_n a_Mod_mean_45 rfl ?_
      apply xr_getf a_Mod_mean_46
      · (repeat' (first | assumption | exact va_up_self _ _ _ | refine x_lk (by omega) ?_))
      · rfl
      refine xr_aload_n a_Mod_mean_49 rfl ?_
      apply xr_getf a_Mod_mean_50
      · (repeat' (first | assumption | exact va_up_self _ _ _ | refine x_lk (by omega) ?_))
      · rfl
      refine xr_iload_n a_Mod_mean_53 rfl ?_
      apply xn_iaload a_Mod_mean_54
      · (repeat' (first | assumption | exact va_up_self _ _ _ | refine x_lk (by omega) ?_))
      · omega
      · omega
      rw [a1]
      apply xn_iaload a_Mod_mean_55
      · (repeat' (first | assumption | exact va_up_self _ _ _ | refine x_lk (by omega) ?_))
      · omega
      · omega
      rw [(hρ _ r1).1]
      first | refine xn_iadd a_Mod_mean_56 ?_ | refine xr_iadd a_Mod_mean_56 ?_
      refine xn_icmp_ge a_Mod_mean_57 (by omega) (by omega) (fun b57 => ?_) (fun b57 => ?_)
      · refine xr_return a_Mod_mean_242 rfl (by omega) (by omega) ?_
        refine ⟨rfl, rfl, f1, f', g1, fun k hk => (g2 k hk).trans (vB_c ?_)⟩
        rw [← gSem rep he, ei]
      · omega
    | succ q ih =>
      intro i h' f' hi f1 g1 g2
      have p0' := (f1 m (by omega)).trans p0
      have x0' := (f1 (m + 1) (by omega)).trans x0
      have c3' := (f1 (m + 8) (by omega)).trans c3
      have hil : i < (ρ (y.2.1 0)).1 := by omega
      have i8 : i < 8 := by omega
      obtain ⟨v1, v2⟩ := (hρ _ r1).2 i i8
      have bi := q1.2 i hil
      have inner : ∀ (u j : Nat) (h2 : xH) (f2 : Nat → Nat), j + u = (ρ (y.2.1 e)).1 → xfr (m + 23) (m + 24) h h2 → h2 (m + 23) = cB 768 f2 → (∀ k, k < 768 → f2 k = vB ((PR k ∨ ∃ i', i' < i ∧ ∃ j, j < (ρ (y.2.1 e)).1 ∧ gG v (y.2.2.1 0) (y.2.2.2 0) ((ρ (y.2.1 0)).2.1 i') ((ρ (y.2.1 0)).2.2.1 i') (y.2.2.1 e) (y.2.2.2 e) ((ρ (y.2.1 e)).2.1 j) ((ρ (y.2.1 e)).2.2.1 j) (e = 0 → i' = j) k) ∨ ∃ j', j' < j ∧ gG v (y.2.2.1 0) (y.2.2.2 0) ((ρ (y.2.1 0)).2.1 i) ((ρ (y.2.1 0)).2.2.1 i) (y.2.2.1 e) (y.2.2.2 e) ((ρ (y.2.1 e)).2.1 j') ((ρ (y.2.1 e)).2.2.1 j') (e = 0 → i = j') k)) → XW (x_rm d 0 0) k_Mod_mean L xs (x_mq 0 0 (qV n (fun h' => xfr (m + 23) (m + 24) h h' ∧ ∃ f', h' (m + 23) = cB 768 f' ∧ ∀ k, k < 768 → f' k = vB (PR k ∨ ∃ p q, p < 16 ∧ q < 16 ∧ k = 256 * v + 16 * p + q ∧ vSem (vRw ρ) (vLs y) p q)))) 0 0 72 [(0, .ref m), (1, .int (nI v)), (3, .int (nI (2 * (2 * v + x)))), (4, .int (nI ((2 * (2 * v + x)) + e))), (5, .int (nI (8 * y.2.1 0 + i))), (6, .int (nI (8 * y.2.1 e + j)))] [] n h2 := by
        intro u
        induction u with
        | zero =>
          intro j h2 f2 hj ff s1 s2
          have p0' := (ff m (by omega)).trans p0
          have x0' := (ff (m + 1) (by omega)).trans x0
          have c3' := (ff (m + 8) (by omega)).trans c3
          have ej : j = (ρ (y.2.1 e)).1 := by omega
          refine xr_iload a_Mod_mean_72 rfl ?_
          refine xr_bipush a_Mod_mean_74 (v := nI 8) (by decide +kernel) ?_
          refine xr_aload_n a_Mod_mean_76 rfl ?_
          apply xr_getf a_Mod_mean_77
          · (repeat' (first | assumption | exact va_up_self _ _ _ | refine x_lk (by omega) ?_))
          · rfl
          refine xr_iload a_Mod_mean_80 rfl ?_
          apply xn_iaload a_Mod_mean_82
          · (repeat' (first | assumption | exact va_up_self _ _ _ | refine x_lk (by omega) ?_))
          · omega
          · omega
          rw [b1]
          first | refine xn_imul a_Mod_mean_83 ?_ | refine xr_imul a_Mod_mean_83 ?_
          refine xr_aload_n a_Mod_mean_84 rfl ?_
          apply xr_getf a_Mod_mean_85
          · (repeat' (first | assumption | exact va_up_self _ _ _ | refine x_lk (by omega) ?_))
          · rfl
          refine xr_aload_n a_Mod_mean_88 rfl ?_
          apply xr_getf a_Mod_mean_89
          · (repeat' (first | assumption | exact va_up_self _ _ _ | refine x_lk (by omega) ?_))
          · rfl
          refine xr_iload a_Mod_mean_92 rfl ?_
          apply xn_iaload a_Mod_mean_94
          · (repeat' (first | assumption | exact va_up_self _ _ _ | refine x_lk (by omega) ?_))
          · omega
          · omega
          rw [b1]
          apply xn_iaload a_Mod_mean_95
          · (repeat' (first | assumption | exact va_up_self _ _ _ | refine x_lk (by omega) ?_))
          · omega
          · omega
          rw [(hρ _ r2).1]
          first | refine xn_iadd a_Mod_mean_96 ?_ | refine xr_iadd a_Mod_mean_96 ?_
          refine xn_icmp_ge a_Mod_mean_97 (by omega) (by omega) (fun b97 => ?_) (fun b97 => ?_)
          · first | refine xn_iinc a_Mod_mean_236 rfl (by decide) rfl ?_ | refine xr_iinc a_Mod_mean_236 rfl rfl (by decide) rfl ?_
            refine xr_goto a_Mod_mean_239 ?_
            refine xr_ls [(0, .ref m), (1, .int (nI v)), (3, .int (nI (2 * (2 * v + x)))), (4, .int (nI ((2 * (2 * v + x)) + e))), (5, .int (nI (8 * y.2.1 0 + (i + 1))))] ⟨rfl, rfl, rfl, rfl, rfl, trivial⟩ ?_
            refine ih (i + 1) h2 f2 (by omega) ff s1 (fun k hk => (s2 k hk).trans (vB_c ?_))
            rw [ej, or_assoc]
            refine or_congr Iff.rfl ⟨?_, ?_⟩
            · rintro (⟨i', w1, w2⟩ | w)
              · exact ⟨i', by omega, w2⟩
              · exact ⟨i, by omega, w⟩
            · rintro ⟨i', w1, w2⟩
              by_cases ei : i' = i
              · subst ei; exact Or.inr w2
              · exact Or.inl ⟨i', by omega, w2⟩
          · omega
        | succ u ihu =>
          intro j h2 f2 hj ff s1 s2
          have p02 := (ff m (by omega)).trans p0
          have x02 := (ff (m + 1) (by omega)).trans x0
          have x12 := (ff (m + 2) (by omega)).trans x1
          have x22 := (ff (m + 3) (by omega)).trans x2
          have c32 := (ff (m + 8) (by omega)).trans c3
          have c42 := (ff (m + 9) (by omega)).trans c4
          have c52 := (ff (m + 10) (by omega)).trans c5
          have hjl : j < (ρ (y.2.1 e)).1 := by omega
          have j8 : j < 8 := by omega
          obtain ⟨w1, w2⟩ := (hρ _ r2).2 j j8
          have bj := q2.2 j hjl
          have cMe : ∀ t, t < 22 → XM 1 0 0 k_Mod_meaning L xs [.ref m, .int (nI (2 * (2 * v + x))), .int (nI (8 * y.2.1 0 + i)), .int (nI ((2 * (2 * v + x)) + e)), .int (nI (8 * y.2.1 e + j)), .int (nI t)] n h2 (qR n h2 (jV (y.2.2.1 0) (y.2.2.2 0) ((ρ (y.2.1 0)).2.1 i) ((ρ (y.2.1 0)).2.2.1 i) (y.2.2.1 e) (y.2.2.2 e) ((ρ (y.2.1 e)).2.1 j) ((ρ (y.2.1 e)).2.2.1 j) t)) := by
            intro t ht
            have := t_Mod_meaning (d := 1) (L := L) (xs := xs) (n := n) (o1 := (2 * (2 * v + x))) (i := 8 * y.2.1 0 + i) (o2 := (2 * (2 * v + x)) + e) (j := 8 * y.2.1 e + j) (t := t) p02 x12 x22 c42 c52 (by omega) (by omega) (by omega) (by omega) (by omega) ⟨by rw [a2]; omega, by rw [a3]; omega, by rw [b2]; omega, by rw [b3]; omega⟩ (by omega)
            rw [a2, a3, b2, b3, v1, v2, w1, w2] at this
            exact this
          have next : ∀ (h3 : xH) (f3 : Nat → Nat), xfr (m + 23) (m + 24) h h3 → h3 (m + 23) = cB 768 f3 → (∀ k, k < 768 → f3 k = vB (((PR k ∨ ∃ i', i' < i ∧ ∃ j, j < (ρ (y.2.1 e)).1 ∧ gG v (y.2.2.1 0) (y.2.2.2 0) ((ρ (y.2.1 0)).2.1 i') ((ρ (y.2.1 0)).2.2.1 i') (y.2.2.1 e) (y.2.2.2 e) ((ρ (y.2.1 e)).2.1 j) ((ρ (y.2.1 e)).2.2.1 j) (e = 0 → i' = j) k) ∨ ∃ j', j' < j ∧ gG v (y.2.2.1 0) (y.2.2.2 0) ((ρ (y.2.1 0)).2.1 i) ((ρ (y.2.1 0)).2.2.1 i) (y.2.2.1 e) (y.2.2.2 e) ((ρ (y.2.1 e)).2.1 j') ((ρ (y.2.1 e)).2.2.1 j') (e = 0 → i = j') k) ∨ gG v (y.2.2.1 0) (y.2.2.2 0) ((ρ (y.2.1 0)).2.1 i) ((ρ (y.2.1 0)).2.2.1 i) (y.2.2.1 e) (y.2.2.2 e) ((ρ (y.2.1 e)).2.1 j) ((ρ (y.2.1 e)).2.2.1 j) (e = 0 → i = j) k)) → XW (x_rm d 0 0) k_Mod_mean L xs (x_mq 0 0 (qV n (fun h' => xfr (m + 23) (m + 24) h h' ∧ ∃ f', h' (m + 23) = cB 768 f' ∧ ∀ k, k < 768 → f' k = vB (PR k ∨ ∃ p q, p < 16 ∧ q < 16 ∧ k = 256 * v + 16 * p + q ∧ vSem (vRw ρ) (vLs y) p q)))) 0 0 230 [(0, .ref m), (1, .int (nI v)), (3, .int (nI (2 * (2 * v + x)))), (4, .int (nI ((2 * (2 * v + x)) + e))), (5, .int (nI (8 * y.2.1 0 + i))), (6, .int (nI (8 * y.2.1 e + j)))] [] n h3 := by
            intro h3 f3 fg y1 y2
            first | refine xn_iinc a_Mod_mean_230 rfl (by decide) rfl ?_ | refine xr_iinc a_Mod_mean_230 rfl rfl (by decide) rfl ?_
            refine xr_goto a_Mod_mean_233 ?_
            refine xr_ls [(0, .ref m), (1, .int (nI v)), (3, .int (nI (2 * (2 * v + x)))), (4, .int (nI ((2 * (2 * v + x)) + e))), (5, .int (nI (8 * y.2.1 0 + i))), (6, .int (nI (8 * y.2.1 e + (j + 1))))] ⟨rfl, rfl, rfl, rfl, rfl, rfl, trivial⟩ ?_
            refine ihu (j + 1) h3 f3 (by omega) fg y1 (fun k hk => (y2 k hk).trans (vB_c ?_))
            rw [or_assoc]
            refine or_congr Iff.rfl ⟨?_, ?_⟩
            · rintro (⟨j', n1, n2⟩ | w)
              · exact ⟨j', by omega, n2⟩
              · exact ⟨j, by omega, w⟩
            · rintro ⟨j', n1, n2⟩
              by_cases ei : j' = j
              · subst ei; exact Or.inr n2
              · exact Or.inl ⟨j', by omega, n2⟩
          have terms : ∀ (z t : Nat), t + z = 22 → XW (x_rm d 0 0) k_Mod_mean L xs (x_mq 0 0 (qV n (fun h' => xfr (m + 23) (m + 24) h h' ∧ ∃ f', h' (m + 23) = cB 768 f' ∧ ∀ k, k < 768 → f' k = vB (PR k ∨ ∃ p q, p < 16 ∧ q < 16 ∧ k = 256 * v + 16 * p + q ∧ vSem (vRw ρ) (vLs y) p q)))) 0 0 163 [(0, .ref m), (1, .int (nI v)), (3, .int (nI (2 * (2 * v + x)))), (4, .int (nI ((2 * (2 * v + x)) + e))), (5, .int (nI (8 * y.2.1 0 + i))), (6, .int (nI (8 * y.2.1 e + j))), (7, .int (jV (y.2.2.1 0) (y.2.2.2 0) ((ρ (y.2.1 0)).2.1 i) ((ρ (y.2.1 0)).2.2.1 i) (y.2.2.1 e) (y.2.2.2 e) ((ρ (y.2.1 e)).2.1 j) ((ρ (y.2.1 e)).2.2.1 j) 16)), (8, .int (jV (y.2.2.1 0) (y.2.2.2 0) ((ρ (y.2.1 0)).2.1 i) ((ρ (y.2.1 0)).2.2.1 i) (y.2.2.1 e) (y.2.2.2 e) ((ρ (y.2.1 e)).2.1 j) ((ρ (y.2.1 e)).2.2.1 j) 17)), (9, .int (nI (vB ((¬ jV (y.2.2.1 0) (y.2.2.2 0) ((ρ (y.2.1 0)).2.1 i) ((ρ (y.2.1 0)).2.2.1 i) (y.2.2.1 e) (y.2.2.2 e) ((ρ (y.2.1 e)).2.1 j) ((ρ (y.2.1 e)).2.2.1 j) 16 < 0 ∧ ¬ jV (y.2.2.1 0) (y.2.2.2 0) ((ρ (y.2.1 0)).2.1 i) ((ρ (y.2.1 0)).2.2.1 i) (y.2.2.1 e) (y.2.2.2 e) ((ρ (y.2.1 e)).2.1 j) ((ρ (y.2.1 e)).2.2.1 j) 17 < 0 ∧ (e = 0 → i = j)) ∧ ∀ t', t' < t → ¬ jV (y.2.2.1 0) (y.2.2.2 0) ((ρ (y.2.1 0)).2.1 i) ((ρ (y.2.1 0)).2.2.1 i) (y.2.2.1 e) (y.2.2.2 e) ((ρ (y.2.1 e)).2.1 j) ((ρ (y.2.1 e)).2.2.1 j) t' < -1)))), (10, .int (nI t))] [] n h2 := by
            intro z
            induction z with
            | zero =>
              intro t ht
              have et : t = 22 := by omega
              subst et
              refine xr_iload a_Mod_mean_163 rfl ?_
              refine xr_bipush a_Mod_mean_165 (v := nI 22) (by decide +kernel) ?_
              refine xn_icmp_ge a_Mod_mean_167 (by omega) (by omega) (fun b167 => ?_) (fun b167 => ?_)
              · refine xr_iload a_Mod_mean_205 rfl ?_
                refine xn_if_eq a_Mod_mean_207 (vB_lt31 _) (fun b207 => ?_) (fun b207 => ?_)
                · refine xr_ls [(0, .ref m), (1, .int (nI v)), (3, .int (nI (2 * (2 * v + x)))), (4, .int (nI ((2 * (2 * v + x)) + e))), (5, .int (nI (8 * y.2.1 0 + i))), (6, .int (nI (8 * y.2.1 e + j)))] ⟨rfl, rfl, rfl, rfl, rfl, rfl, trivial⟩ ?_
                  refine next h2 f2 ff s1 (fun k hk => (s2 k hk).trans (vB_c ⟨Or.inl, fun w => w.elim id (fun w => ?_)⟩))
                  exact absurd w (gOk_no bi.1 bi.2 bj.1 bj.2 oc16 oc17 (vB_0 b207) k)
                · obtain ⟨pp, qq, g3, g4, g5, g6, g7⟩ := gOk_yes (v := v) bi.1 bi.2 bj.1 bj.2 t1 t2 t3 t4 (vB_1 b207)
                  rw [g5, g6]
                  refine xr_aload_n a_Mod_mean_210 rfl ?_
                  apply xr_getf a_Mod_mean_211
                  · (repeat' (first | assumption | exact va_up_self _ _ _ | refine x_lk (by omega) ?_))
                  · rfl
                  refine xr_sipush a_Mod_mean_214 (v := nI 256) (by decide +kernel) ?_
                  refine xr_iload_n a_Mod_mean_217 rfl ?_
                  first | refine xn_imul a_Mod_mean_218 ?_ | refine xr_imul a_Mod_mean_218 ?_
                  refine xr_bipush a_Mod_mean_219 (v := nI 16) (by decide +kernel) ?_
                  refine xr_iload a_Mod_mean_221 rfl ?_
                  first | refine xn_imul a_Mod_mean_223 ?_ | refine xr_imul a_Mod_mean_223 ?_
                  first | refine xn_iadd a_Mod_mean_224 ?_ | refine xr_iadd a_Mod_mean_224 ?_
                  refine xr_iload a_Mod_mean_225 rfl ?_
                  first | refine xn_iadd a_Mod_mean_227 ?_ | refine xr_iadd a_Mod_mean_227 ?_
                  refine xr_iconst a_Mod_mean_228 (v := nI 1) (by decide +kernel) ?_
                  apply xn_bastore a_Mod_mean_229
                  · (repeat' (first | assumption | exact va_up_self _ _ _ | refine x_lk (by omega) ?_))
                  · omega
                  · omega
                  · omega
                  refine xr_ls [(0, .ref m), (1, .int (nI v)), (3, .int (nI (2 * (2 * v + x)))), (4, .int (nI ((2 * (2 * v + x)) + e))), (5, .int (nI (8 * y.2.1 0 + i))), (6, .int (nI (8 * y.2.1 e + j)))] ⟨rfl, rfl, rfl, rfl, rfl, rfl, trivial⟩ ?_
                  refine next _ _ (ff.up (by omega) (by omega)) (up_self _ _ _) (fun k hk => ?_)
                  by_cases ek : k = 256 * v + 16 * pp + qq
                  · rw [ek, up_self, vB_t (Or.inr ((g7 _).mpr rfl))]
                  · rw [up_ne ek, s2 k hk]
                    exact vB_c ⟨Or.inl, fun w => w.elim id (fun w => absurd ((g7 k).mp w) ek)⟩
              · omega
            | succ z ihz =>
              intro t ht
              have m197 : ∀ s, s = vB ((¬ jV (y.2.2.1 0) (y.2.2.2 0) ((ρ (y.2.1 0)).2.1 i) ((ρ (y.2.1 0)).2.2.1 i) (y.2.2.1 e) (y.2.2.2 e) ((ρ (y.2.1 e)).2.1 j) ((ρ (y.2.1 e)).2.2.1 j) 16 < 0 ∧ ¬ jV (y.2.2.1 0) (y.2.2.2 0) ((ρ (y.2.1 0)).2.1 i) ((ρ (y.2.1 0)).2.2.1 i) (y.2.2.1 e) (y.2.2.2 e) ((ρ (y.2.1 e)).2.1 j) ((ρ (y.2.1 e)).2.2.1 j) 17 < 0 ∧ (e = 0 → i = j)) ∧ ∀ t', t' < t + 1 → ¬ jV (y.2.2.1 0) (y.2.2.2 0) ((ρ (y.2.1 0)).2.1 i) ((ρ (y.2.1 0)).2.2.1 i) (y.2.2.1 e) (y.2.2.2 e) ((ρ (y.2.1 e)).2.1 j) ((ρ (y.2.1 e)).2.2.1 j) t' < -1) → XW (x_rm d 0 0) k_Mod_mean L xs (x_mq 0 0 (qV n (fun h' => xfr (m + 23) (m + 24) h h' ∧ ∃ f', h' (m + 23) = cB 768 f' ∧ ∀ k, k < 768 → f' k = vB (PR k ∨ ∃ p q, p < 16 ∧ q < 16 ∧ k = 256 * v + 16 * p + q ∧ vSem (vRw ρ) (vLs y) p q)))) 0 0 197 [(0, .ref m), (1, .int (nI v)), (3, .int (nI (2 * (2 * v + x)))), (4, .int (nI ((2 * (2 * v + x)) + e))), (5, .int (nI (8 * y.2.1 0 + i))), (6, .int (nI (8 * y.2.1 e + j))), (7, .int (jV (y.2.2.1 0) (y.2.2.2 0) ((ρ (y.2.1 0)).2.1 i) ((ρ (y.2.1 0)).2.2.1 i) (y.2.2.1 e) (y.2.2.2 e) ((ρ (y.2.1 e)).2.1 j) ((ρ (y.2.1 e)).2.2.1 j) 16)), (8, .int (jV (y.2.2.1 0) (y.2.2.2 0) ((ρ (y.2.1 0)).2.1 i) ((ρ (y.2.1 0)).2.2.1 i) (y.2.2.1 e) (y.2.2.2 e) ((ρ (y.2.1 e)).2.1 j) ((ρ (y.2.1 e)).2.2.1 j) 17)), (10, .int (nI t))] [.int (nI s)] n h2 := by
                intro s hs
                subst hs
                refine xr_istore a_Mod_mean_197 (by decide) rfl ?_
                first | refine xn_iinc a_Mod_mean_199 rfl (by decide) rfl ?_ | refine xr_iinc a_Mod_mean_199 rfl rfl (by decide) rfl ?_
                refine xr_goto a_Mod_mean_202 ?_
                refine xr_ls [(0, .ref m), (1, .int (nI v)), (3, .int (nI (2 * (2 * v + x)))), (4, .int (nI ((2 * (2 * v + x)) + e))), (5, .int (nI (8 * y.2.1 0 + i))), (6, .int (nI (8 * y.2.1 e + j))), (7, .int (jV (y.2.2.1 0) (y.2.2.2 0) ((ρ (y.2.1 0)).2.1 i) ((ρ (y.2.1 0)).2.2.1 i) (y.2.2.1 e) (y.2.2.2 e) ((ρ (y.2.1 e)).2.1 j) ((ρ (y.2.1 e)).2.2.1 j) 16)), (8, .int (jV (y.2.2.1 0) (y.2.2.2 0) ((ρ (y.2.1 0)).2.1 i) ((ρ (y.2.1 0)).2.2.1 i) (y.2.2.1 e) (y.2.2.2 e) ((ρ (y.2.1 e)).2.1 j) ((ρ (y.2.1 e)).2.2.1 j) 17)), (9, .int (nI (vB ((¬ jV (y.2.2.1 0) (y.2.2.2 0) ((ρ (y.2.1 0)).2.1 i) ((ρ (y.2.1 0)).2.2.1 i) (y.2.2.1 e) (y.2.2.2 e) ((ρ (y.2.1 e)).2.1 j) ((ρ (y.2.1 e)).2.2.1 j) 16 < 0 ∧ ¬ jV (y.2.2.1 0) (y.2.2.2 0) ((ρ (y.2.1 0)).2.1 i) ((ρ (y.2.1 0)).2.2.1 i) (y.2.2.1 e) (y.2.2.2 e) ((ρ (y.2.1 e)).2.1 j) ((ρ (y.2.1 e)).2.2.1 j) 17 < 0 ∧ (e = 0 → i = j)) ∧ ∀ t', t' < t + 1 → ¬ jV (y.2.2.1 0) (y.2.2.2 0) ((ρ (y.2.1 0)).2.1 i) ((ρ (y.2.1 0)).2.2.1 i) (y.2.2.1 e) (y.2.2.2 e) ((ρ (y.2.1 e)).2.1 j) ((ρ (y.2.1 e)).2.2.1 j) t' < -1)))), (10, .int (nI (t + 1)))] ⟨rfl, rfl, rfl, rfl, rfl, rfl, rfl, rfl, rfl, rfl, trivial⟩ ?_
                exact ihz (t + 1) (by omega)
              have no : ¬ ((¬ jV (y.2.2.1 0) (y.2.2.2 0) ((ρ (y.2.1 0)).2.1 i) ((ρ (y.2.1 0)).2.2.1 i) (y.2.2.1 e) (y.2.2.2 e) ((ρ (y.2.1 e)).2.1 j) ((ρ (y.2.1 e)).2.2.1 j) 16 < 0 ∧ ¬ jV (y.2.2.1 0) (y.2.2.2 0) ((ρ (y.2.1 0)).2.1 i) ((ρ (y.2.1 0)).2.2.1 i) (y.2.2.1 e) (y.2.2.2 e) ((ρ (y.2.1 e)).2.1 j) ((ρ (y.2.1 e)).2.2.1 j) 17 < 0 ∧ (e = 0 → i = j)) ∧ ∀ t', t' < t + 1 → ¬ jV (y.2.2.1 0) (y.2.2.2 0) ((ρ (y.2.1 0)).2.1 i) ((ρ (y.2.1 0)).2.2.1 i) (y.2.2.1 e) (y.2.2.2 e) ((ρ (y.2.1 e)).2.1 j) ((ρ (y.2.1 e)).2.2.1 j) t' < -1) → XW (x_rm d 0 0) k_Mod_mean L xs (x_mq 0 0 (qV n (fun h' => xfr (m + 23) (m + 24) h h' ∧ ∃ f', h' (m + 23) = cB 768 f' ∧ ∀ k, k < 768 → f' k = vB (PR k ∨ ∃ p q, p < 16 ∧ q < 16 ∧ k = 256 * v + 16 * p + q ∧ vSem (vRw ρ) (vLs y) p q)))) 0 0 196 [(0, .ref m), (1, .int (nI v)), (3, .int (nI (2 * (2 * v + x)))), (4, .int (nI ((2 * (2 * v + x)) + e))), (5, .int (nI (8 * y.2.1 0 + i))), (6, .int (nI (8 * y.2.1 e + j))), (7, .int (jV (y.2.2.1 0) (y.2.2.2 0) ((ρ (y.2.1 0)).2.1 i) ((ρ (y.2.1 0)).2.2.1 i) (y.2.2.1 e) (y.2.2.2 e) ((ρ (y.2.1 e)).2.1 j) ((ρ (y.2.1 e)).2.2.1 j) 16)), (8, .int (jV (y.2.2.1 0) (y.2.2.2 0) ((ρ (y.2.1 0)).2.1 i) ((ρ (y.2.1 0)).2.2.1 i) (y.2.2.1 e) (y.2.2.2 e) ((ρ (y.2.1 e)).2.1 j) ((ρ (y.2.1 e)).2.2.1 j) 17)), (10, .int (nI t))] [] n h2 := by
                intro hz
                refine xr_iconst a_Mod_mean_196 (v := nI 0) (by decide +kernel) ?_
                exact m197 0 (by rw [vB_f hz])
              refine xr_iload a_Mod_mean_163 rfl ?_
              refine xr_bipush a_Mod_mean_165 (v := nI 22) (by decide +kernel) ?_
              refine xn_icmp_ge a_Mod_mean_167 (by omega) (by omega) (fun b167 => ?_) (fun b167 => ?_)
              · omega
              · refine xr_iload a_Mod_mean_170 rfl ?_
                refine xn_if_eq a_Mod_mean_172 (vB_lt31 _) (fun b172 => ?_) (fun b172 => ?_)
                · refine xr_ls [(0, .ref m), (1, .int (nI v)), (3, .int (nI (2 * (2 * v + x)))), (4, .int (nI ((2 * (2 * v + x)) + e))), (5, .int (nI (8 * y.2.1 0 + i))), (6, .int (nI (8 * y.2.1 e + j))), (7, .int (jV (y.2.2.1 0) (y.2.2.2 0) ((ρ (y.2.1 0)).2.1 i) ((ρ (y.2.1 0)).2.2.1 i) (y.2.2.1 e) (y.2.2.2 e) ((ρ (y.2.1 e)).2.1 j) ((ρ (y.2.1 e)).2.2.1 j) 16)), (8, .int (jV (y.2.2.1 0) (y.2.2.2 0) ((ρ (y.2.1 0)).2.1 i) ((ρ (y.2.1 0)).2.2.1 i) (y.2.2.1 e) (y.2.2.2 e) ((ρ (y.2.1 e)).2.1 j) ((ρ (y.2.1 e)).2.2.1 j) 17)), (10, .int (nI t))] ⟨rfl, rfl, rfl, rfl, rfl, rfl, rfl, rfl, rfl, trivial⟩ ?_
                  exact no (fun w => vB_0 b172 ⟨w.1, fun t' ht' => w.2 t' (by omega)⟩)
                · have hok := vB_1 b172
                  refine xr_aload_n a_Mod_mean_175 rfl ?_
                  refine xr_iload_n a_Mod_mean_176 rfl ?_
                  refine xr_iload a_Mod_mean_177 rfl ?_
                  refine xr_iload a_Mod_mean_179 rfl ?_
                  refine xr_iload a_Mod_mean_181 rfl ?_
                  refine xr_iload a_Mod_mean_183 rfl ?_
                  refine xr_invV a_Mod_mean_185 (by (repeat' (first | assumption | exact va_up_self _ _ _ | refine x_lk (by omega) ?_))) (cMe t (by omega)) rfl rfl (by omega) (by omega) (by omega) (Nat.le_of_ble_eq_true rfl) ?_
                  rintro _ _ h1 ⟨rfl, rfl, rfl⟩
                  refine xr_iconst a_Mod_mean_188 (v := -1) (by decide +kernel) ?_
                  refine xr_icmp_lt a_Mod_mean_189 (fun b189 => ?_) (fun b189 => ?_)
                  · refine xr_ls [(0, .ref m), (1, .int (nI v)), (3, .int (nI (2 * (2 * v + x)))), (4, .int (nI ((2 * (2 * v + x)) + e))), (5, .int (nI (8 * y.2.1 0 + i))), (6, .int (nI (8 * y.2.1 e + j))), (7, .int (jV (y.2.2.1 0) (y.2.2.2 0) ((ρ (y.2.1 0)).2.1 i) ((ρ (y.2.1 0)).2.2.1 i) (y.2.2.1 e) (y.2.2.2 e) ((ρ (y.2.1 e)).2.1 j) ((ρ (y.2.1 e)).2.2.1 j) 16)), (8, .int (jV (y.2.2.1 0) (y.2.2.2 0) ((ρ (y.2.1 0)).2.1 i) ((ρ (y.2.1 0)).2.2.1 i) (y.2.2.1 e) (y.2.2.2 e) ((ρ (y.2.1 e)).2.1 j) ((ρ (y.2.1 e)).2.2.1 j) 17)), (10, .int (nI t))] ⟨rfl, rfl, rfl, rfl, rfl, rfl, rfl, rfl, rfl, trivial⟩ ?_
                    exact no (fun w => w.2 t (by omega) b189)
                  · refine xr_iconst a_Mod_mean_192 (v := nI 1) (by decide +kernel) ?_
                    refine xr_goto a_Mod_mean_193 ?_
                    refine xr_ls [(0, .ref m), (1, .int (nI v)), (3, .int (nI (2 * (2 * v + x)))), (4, .int (nI ((2 * (2 * v + x)) + e))), (5, .int (nI (8 * y.2.1 0 + i))), (6, .int (nI (8 * y.2.1 e + j))), (7, .int (jV (y.2.2.1 0) (y.2.2.2 0) ((ρ (y.2.1 0)).2.1 i) ((ρ (y.2.1 0)).2.2.1 i) (y.2.2.1 e) (y.2.2.2 e) ((ρ (y.2.1 e)).2.1 j) ((ρ (y.2.1 e)).2.2.1 j) 16)), (8, .int (jV (y.2.2.1 0) (y.2.2.2 0) ((ρ (y.2.1 0)).2.1 i) ((ρ (y.2.1 0)).2.2.1 i) (y.2.2.1 e) (y.2.2.2 e) ((ρ (y.2.1 e)).2.1 j) ((ρ (y.2.1 e)).2.2.1 j) 17)), (10, .int (nI t))] ⟨rfl, rfl, rfl, rfl, rfl, rfl, rfl, rfl, rfl, trivial⟩ ?_
                    have hz : (¬ jV (y.2.2.1 0) (y.2.2.2 0) ((ρ (y.2.1 0)).2.1 i) ((ρ (y.2.1 0)).2.2.1 i) (y.2.2.1 e) (y.2.2.2 e) ((ρ (y.2.1 e)).2.1 j) ((ρ (y.2.1 e)).2.2.1 j) 16 < 0 ∧ ¬ jV (y.2.2.1 0) (y.2.2.2 0) ((ρ (y.2.1 0)).2.1 i) ((ρ (y.2.1 0)).2.2.1 i) (y.2.2.1 e) (y.2.2.2 e) ((ρ (y.2.1 e)).2.1 j) ((ρ (y.2.1 e)).2.2.1 j) 17 < 0 ∧ (e = 0 → i = j)) ∧ ∀ t', t' < t + 1 → ¬ jV (y.2.2.1 0) (y.2.2.2 0) ((ρ (y.2.1 0)).2.1 i) ((ρ (y.2.1 0)).2.2.1 i) (y.2.2.1 e) (y.2.2.2 e) ((ρ (y.2.1 e)).2.1 j) ((ρ (y.2.1 e)).2.2.1 j) t' < -1 := by
                      refine ⟨hok.1, fun t' ht' => ?_⟩
                      by_cases et : t' = t
                      · rw [et]; exact b189
                      · exact hok.2 t' (by omega)
                    exact m197 1 (by rw [vB_t hz])
          have m158 : ∀ s, s = vB (¬ jV (y.2.2.1 0) (y.2.2.2 0) ((ρ (y.2.1 0)).2.1 i) ((ρ (y.2.1 0)).2.2.1 i) (y.2.2.1 e) (y.2.2.2 e) ((ρ (y.2.1 e)).2.1 j) ((ρ (y.2.1 e)).2.2.1 j) 16 < 0 ∧ ¬ jV (y.2.2.1 0) (y.2.2.2 0) ((ρ (y.2.1 0)).2.1 i) ((ρ (y.2.1 0)).2.2.1 i) (y.2.2.1 e) (y.2.2.2 e) ((ρ (y.2.1 e)).2.1 j) ((ρ (y.2.1 e)).2.2.1 j) 17 < 0 ∧ (e = 0 → i = j)) → XW (x_rm d 0 0) k_Mod_mean L xs (x_mq 0 0 (qV n (fun h' => xfr (m + 23) (m + 24) h h' ∧ ∃ f', h' (m + 23) = cB 768 f' ∧ ∀ k, k < 768 → f' k = vB (PR k ∨ ∃ p q, p < 16 ∧ q < 16 ∧ k = 256 * v + 16 * p + q ∧ vSem (vRw ρ) (vLs y) p q)))) 0 0 158 [(0, .ref m), (1, .int (nI v)), (3, .int (nI (2 * (2 * v + x)))), (4, .int (nI ((2 * (2 * v + x)) + e))), (5, .int (nI (8 * y.2.1 0 + i))), (6, .int (nI (8 * y.2.1 e + j))), (7, .int (jV (y.2.2.1 0) (y.2.2.2 0) ((ρ (y.2.1 0)).2.1 i) ((ρ (y.2.1 0)).2.2.1 i) (y.2.2.1 e) (y.2.2.2 e) ((ρ (y.2.1 e)).2.1 j) ((ρ (y.2.1 e)).2.2.1 j) 16)), (8, .int (jV (y.2.2.1 0) (y.2.2.2 0) ((ρ (y.2.1 0)).2.1 i) ((ρ (y.2.1 0)).2.2.1 i) (y.2.2.1 e) (y.2.2.2 e) ((ρ (y.2.1 e)).2.1 j) ((ρ (y.2.1 e)).2.2.1 j) 17))] [.int (nI s)] n h2 := by
            intro s hs
            refine xr_istore a_Mod_mean_158 (by decide) rfl ?_
            refine xr_iconst a_Mod_mean_160 (v := nI 0) (by decide +kernel) ?_
            refine xr_istore a_Mod_mean_161 (by decide) rfl ?_
            refine xr_ls [(0, .ref m), (1, .int (nI v)), (3, .int (nI (2 * (2 * v + x)))), (4, .int (nI ((2 * (2 * v + x)) + e))), (5, .int (nI (8 * y.2.1 0 + i))), (6, .int (nI (8 * y.2.1 e + j))), (7, .int (jV (y.2.2.1 0) (y.2.2.2 0) ((ρ (y.2.1 0)).2.1 i) ((ρ (y.2.1 0)).2.2.1 i) (y.2.2.1 e) (y.2.2.2 e) ((ρ (y.2.1 e)).2.1 j) ((ρ (y.2.1 e)).2.2.1 j) 16)), (8, .int (jV (y.2.2.1 0) (y.2.2.2 0) ((ρ (y.2.1 0)).2.1 i) ((ρ (y.2.1 0)).2.2.1 i) (y.2.2.1 e) (y.2.2.2 e) ((ρ (y.2.1 e)).2.1 j) ((ρ (y.2.1 e)).2.2.1 j) 17)), (9, .int (nI s)), (10, .int (nI 0))] ⟨rfl, rfl, rfl, rfl, rfl, rfl, rfl, rfl, rfl, rfl, trivial⟩ ?_
            have := terms 22 0 (by omega)
            rw [vB_c (show ((¬ jV (y.2.2.1 0) (y.2.2.2 0) ((ρ (y.2.1 0)).2.1 i) ((ρ (y.2.1 0)).2.2.1 i) (y.2.2.1 e) (y.2.2.2 e) ((ρ (y.2.1 e)).2.1 j) ((ρ (y.2.1 e)).2.2.1 j) 16 < 0 ∧ ¬ jV (y.2.2.1 0) (y.2.2.2 0) ((ρ (y.2.1 0)).2.1 i) ((ρ (y.2.1 0)).2.2.1 i) (y.2.2.1 e) (y.2.2.2 e) ((ρ (y.2.1 e)).2.1 j) ((ρ (y.2.1 e)).2.2.1 j) 17 < 0 ∧ (e = 0 → i = j)) ∧ ∀ t', t' < 0 → ¬ jV (y.2.2.1 0) (y.2.2.2 0) ((ρ (y.2.1 0)).2.1 i) ((ρ (y.2.1 0)).2.2.1 i) (y.2.2.1 e) (y.2.2.2 e) ((ρ (y.2.1 e)).2.1 j) ((ρ (y.2.1 e)).2.2.1 j) t' < -1) ↔ (¬ jV (y.2.2.1 0) (y.2.2.2 0) ((ρ (y.2.1 0)).2.1 i) ((ρ (y.2.1 0)).2.2.1 i) (y.2.2.1 e) (y.2.2.2 e) ((ρ (y.2.1 e)).2.1 j) ((ρ (y.2.1 e)).2.2.1 j) 16 < 0 ∧ ¬ jV (y.2.2.1 0) (y.2.2.2 0) ((ρ (y.2.1 0)).2.1 i) ((ρ (y.2.1 0)).2.2.1 i) (y.2.2.1 e) (y.2.2.2 e) ((ρ (y.2.1 e)).2.1 j) ((ρ (y.2.1 e)).2.2.1 j) 17 < 0 ∧ (e = 0 → i = j)) from ⟨fun w => w.1, fun w => ⟨w, fun t' ht' => absurd ht' (Nat.not_lt_zero t')⟩⟩), ← hs] at this
            exact this
          have no : ¬ (¬ jV (y.2.2.1 0) (y.2.2.2 0) ((ρ (y.2.1 0)).2.1 i) ((ρ (y.2.1 0)).2.2.1 i) (y.2.2.1 e) (y.2.2.2 e) ((ρ (y.2.1 e)).2.1 j) ((ρ (y.2.1 e)).2.2.1 j) 16 < 0 ∧ ¬ jV (y.2.2.1 0) (y.2.2.2 0) ((ρ (y.2.1 0)).2.1 i) ((ρ (y.2.1 0)).2.2.1 i) (y.2.2.1 e) (y.2.2.2 e) ((ρ (y.2.1 e)).2.1 j) ((ρ (y.2.1 e)).2.2.1 j) 17 < 0 ∧ (e = 0 → i = j)) → XW (x_rm d 0 0) k_Mod_mean L xs (x_mq 0 0 (qV n (fun h' => xfr (m + 23) (m + 24) h h' ∧ ∃ f', h' (m + 23) = cB 768 f' ∧ ∀ k, k < 768 → f' k = vB (PR k ∨ ∃ p q, p < 16 ∧ q < 16 ∧ k = 256 * v + 16 * p + q ∧ vSem (vRw ρ) (vLs y) p q)))) 0 0 157 [(0, .ref m), (1, .int (nI v)), (3, .int (nI (2 * (2 * v + x)))), (4, .int (nI ((2 * (2 * v + x)) + e))), (5, .int (nI (8 * y.2.1 0 + i))), (6, .int (nI (8 * y.2.1 e + j))), (7, .int (jV (y.2.2.1 0) (y.2.2.2 0) ((ρ (y.2.1 0)).2.1 i) ((ρ (y.2.1 0)).2.2.1 i) (y.2.2.1 e) (y.2.2.2 e) ((ρ (y.2.1 e)).2.1 j) ((ρ (y.2.1 e)).2.2.1 j) 16)), (8, .int (jV (y.2.2.1 0) (y.2.2.2 0) ((ρ (y.2.1 0)).2.1 i) ((ρ (y.2.1 0)).2.2.1 i) (y.2.2.1 e) (y.2.2.2 e) ((ρ (y.2.1 e)).2.1 j) ((ρ (y.2.1 e)).2.2.1 j) 17))] [] n h2 := by
            intro hz
            refine xr_iconst a_Mod_mean_157 (v := nI 0) (by decide +kernel) ?_
            exact m158 0 (by rw [vB_f hz])
          have yes : (¬ jV (y.2.2.1 0) (y.2.2.2 0) ((ρ (y.2.1 0)).2.1 i) ((ρ (y.2.1 0)).2.2.1 i) (y.2.2.1 e) (y.2.2.2 e) ((ρ (y.2.1 e)).2.1 j) ((ρ (y.2.1 e)).2.2.1 j) 16 < 0 ∧ ¬ jV (y.2.2.1 0) (y.2.2.2 0) ((ρ (y.2.1 0)).2.1 i) ((ρ (y.2.1 0)).2.2.1 i) (y.2.2.1 e) (y.2.2.2 e) ((ρ (y.2.1 e)).2.1 j) ((ρ (y.2.1 e)).2.2.1 j) 17 < 0 ∧ (e = 0 → i = j)) → XW (x_rm d 0 0) k_Mod_mean L xs (x_mq 0 0 (qV n (fun h' => xfr (m + 23) (m + 24) h h' ∧ ∃ f', h' (m + 23) = cB 768 f' ∧ ∀ k, k < 768 → f' k = vB (PR k ∨ ∃ p q, p < 16 ∧ q < 16 ∧ k = 256 * v + 16 * p + q ∧ vSem (vRw ρ) (vLs y) p q)))) 0 0 153 [(0, .ref m), (1, .int (nI v)), (3, .int (nI (2 * (2 * v + x)))), (4, .int (nI ((2 * (2 * v + x)) + e))), (5, .int (nI (8 * y.2.1 0 + i))), (6, .int (nI (8 * y.2.1 e + j))), (7, .int (jV (y.2.2.1 0) (y.2.2.2 0) ((ρ (y.2.1 0)).2.1 i) ((ρ (y.2.1 0)).2.2.1 i) (y.2.2.1 e) (y.2.2.2 e) ((ρ (y.2.1 e)).2.1 j) ((ρ (y.2.1 e)).2.2.1 j) 16)), (8, .int (jV (y.2.2.1 0) (y.2.2.2 0) ((ρ (y.2.1 0)).2.1 i) ((ρ (y.2.1 0)).2.2.1 i) (y.2.2.1 e) (y.2.2.2 e) ((ρ (y.2.1 e)).2.1 j) ((ρ (y.2.1 e)).2.2.1 j) 17))] [] n h2 := by
            intro hz
            refine xr_iconst a_Mod_mean_153 (v := nI 1) (by decide +kernel) ?_
            refine xr_goto a_Mod_mean_154 ?_
            exact m158 1 (by rw [vB_t hz])
          refine xr_iload a_Mod_mean_72 rfl ?_
          refine xr_bipush a_Mod_mean_74 (v := nI 8) (by decide +kernel) ?_
          refine xr_aload_n a_Mod_mean_76 rfl ?_
          apply xr_getf a_Mod_mean_77
          · (repeat' (first | assumption | exact va_up_self _ _ _ | refine x_lk (by omega) ?_))
          · rfl
          refine xr_iload a_Mod_mean_80 rfl ?_
          apply xn_iaload a_Mod_mean_82
          · (repeat' (first | assumption | exact va_up_self _ _ _ | refine x_lk (by omega) ?_))
          · omega
          · omega
          rw [b1]
          first | refine xn_imul a_Mod_mean_83 ?_ | refine xr_imul a_Mod_mean_83 ?_
          refine xr_aload_n a_Mod_mean_84 rfl ?_
          apply xr_getf a_Mod_mean_85
          · (repeat' (first | assumption | exact va_up_self _ _ _ | refine x_lk (by omega) ?_))
          · rfl
          refine xr_aload_n a_Mod_mean_88 rfl ?_
          apply xr_getf a_Mod_mean_89
          · (repeat' (first | assumption | exact va_up_self _ _ _ | refine x_lk (by omega) ?_))
          · rfl
          refine xr_iload a_Mod_mean_92 rfl ?_
          apply xn_iaload a_Mod_mean_94
          · (repeat' (first | assumption | exact va_up_self _ _ _ | refine x_lk (by omega) ?_))
          · omega
          · omega
          rw [b1]
          apply xn_iaload a_Mod_mean_95
          · (repeat' (first | assumption | exact va_up_self _ _ _ | refine x_lk (by omega) ?_))
          · omega
          · omega
          rw [(hρ _ r2).1]
          first | refine xn_iadd a_Mod_mean_96 ?_ | refine xr_iadd a_Mod_mean_96 ?_
          refine xn_icmp_ge a_Mod_mean_97 (by omega) (by omega) (fun b97 => ?_) (fun b97 => ?_)
          · omega
          · refine xr_aload_n a_Mod_mean_100 rfl ?_
            refine xr_iload_n a_Mod_mean_101 rfl ?_
            refine xr_iload a_Mod_mean_102 rfl ?_
            refine xr_iload a_Mod_mean_104 rfl ?_
            refine xr_iload a_Mod_mean_106 rfl ?_
            refine xr_bipush a_Mod_mean_108 (v := nI 16) (by decide +kernel) ?_
            refine xr_invV a_Mod_mean_110 (by (repeat' (first | assumption | exact va_up_self _ _ _ | refine x_lk (by omega) ?_))) (cMe 16 (by omega)) rfl rfl (by omega) (by omega) (by omega) (Nat.le_of_ble_eq_true rfl) ?_
            rintro _ _ h1 ⟨rfl, rfl, rfl⟩
            refine xr_istore a_Mod_mean_113 (by decide) rfl ?_
            refine xr_aload_n a_Mod_mean_115 rfl ?_
            refine xr_iload_n a_Mod_mean_116 rfl ?_
            refine xr_iload a_Mod_mean_117 rfl ?_
            refine xr_iload a_Mod_mean_119 rfl ?_
            refine xr_iload a_Mod_mean_121 rfl ?_
            refine xr_bipush a_Mod_mean_123 (v := nI 17) (by decide +kernel) ?_
            refine xr_invV a_Mod_mean_125 (by (repeat' (first | assumption | exact va_up_self _ _ _ | refine x_lk (by omega) ?_))) (cMe 17 (by omega)) rfl rfl (by omega) (by omega) (by omega) (Nat.le_of_ble_eq_true rfl) ?_
            rintro _ _ h1 ⟨rfl, rfl, rfl⟩
            refine xr_istore a_Mod_mean_128 (by decide) rfl ?_
            refine xr_iload a_Mod_mean_130 rfl ?_
            refine xr_if_lt a_Mod_mean_132 (fun b132 => ?_) (fun b132 => ?_)
            · refine xr_ls [(0, .ref m), (1, .int (nI v)), (3, .int (nI (2 * (2 * v + x)))), (4, .int (nI ((2 * (2 * v + x)) + e))), (5, .int (nI (8 * y.2.1 0 + i))), (6, .int (nI (8 * y.2.1 e + j))), (7, .int (jV (y.2.2.1 0) (y.2.2.2 0) ((ρ (y.2.1 0)).2.1 i) ((ρ (y.2.1 0)).2.2.1 i) (y.2.2.1 e) (y.2.2.2 e) ((ρ (y.2.1 e)).2.1 j) ((ρ (y.2.1 e)).2.2.1 j) 16)), (8, .int (jV (y.2.2.1 0) (y.2.2.2 0) ((ρ (y.2.1 0)).2.1 i) ((ρ (y.2.1 0)).2.2.1 i) (y.2.2.1 e) (y.2.2.2 e) ((ρ (y.2.1 e)).2.1 j) ((ρ (y.2.1 e)).2.2.1 j) 17))] ⟨rfl, rfl, rfl, rfl, rfl, rfl, rfl, rfl, trivial⟩ ?_
              exact no (fun w => w.1 b132)
            · refine xr_iload a_Mod_mean_135 rfl ?_
              refine xr_if_lt a_Mod_mean_137 (fun b137 => ?_) (fun b137 => ?_)
              · refine xr_ls [(0, .ref m), (1, .int (nI v)), (3, .int (nI (2 * (2 * v + x)))), (4, .int (nI ((2 * (2 * v + x)) + e))), (5, .int (nI (8 * y.2.1 0 + i))), (6, .int (nI (8 * y.2.1 e + j))), (7, .int (jV (y.2.2.1 0) (y.2.2.2 0) ((ρ (y.2.1 0)).2.1 i) ((ρ (y.2.1 0)).2.2.1 i) (y.2.2.1 e) (y.2.2.2 e) ((ρ (y.2.1 e)).2.1 j) ((ρ (y.2.1 e)).2.2.1 j) 16)), (8, .int (jV (y.2.2.1 0) (y.2.2.2 0) ((ρ (y.2.1 0)).2.1 i) ((ρ (y.2.1 0)).2.2.1 i) (y.2.2.1 e) (y.2.2.2 e) ((ρ (y.2.1 e)).2.1 j) ((ρ (y.2.1 e)).2.2.1 j) 17))] ⟨rfl, rfl, rfl, rfl, rfl, rfl, rfl, rfl, trivial⟩ ?_
                exact no (fun w => w.2.1 b137)
              · refine xr_iload_n a_Mod_mean_140 rfl ?_
                refine xr_iload a_Mod_mean_141 rfl ?_
                refine xn_icmp_ne a_Mod_mean_143 (by omega) (by omega) (fun b143 => ?_) (fun b143 => ?_)
                · refine xr_ls [(0, .ref m), (1, .int (nI v)), (3, .int (nI (2 * (2 * v + x)))), (4, .int (nI ((2 * (2 * v + x)) + e))), (5, .int (nI (8 * y.2.1 0 + i))), (6, .int (nI (8 * y.2.1 e + j))), (7, .int (jV (y.2.2.1 0) (y.2.2.2 0) ((ρ (y.2.1 0)).2.1 i) ((ρ (y.2.1 0)).2.2.1 i) (y.2.2.1 e) (y.2.2.2 e) ((ρ (y.2.1 e)).2.1 j) ((ρ (y.2.1 e)).2.2.1 j) 16)), (8, .int (jV (y.2.2.1 0) (y.2.2.2 0) ((ρ (y.2.1 0)).2.1 i) ((ρ (y.2.1 0)).2.2.1 i) (y.2.2.1 e) (y.2.2.2 e) ((ρ (y.2.1 e)).2.1 j) ((ρ (y.2.1 e)).2.2.1 j) 17))] ⟨rfl, rfl, rfl, rfl, rfl, rfl, rfl, rfl, trivial⟩ ?_
                  exact yes ⟨b132, b137, fun w => absurd (by omega) b143⟩
                · have ez : e = 0 := by omega
                  refine xr_iload a_Mod_mean_146 rfl ?_
                  refine xr_iload a_Mod_mean_148 rfl ?_
                  refine xn_icmp_ne a_Mod_mean_150 (by omega) (by omega) (fun b150 => ?_) (fun b150 => ?_)
                  · refine xr_ls [(0, .ref m), (1, .int (nI v)), (3, .int (nI (2 * (2 * v + x)))), (4, .int (nI ((2 * (2 * v + x)) + e))), (5, .int (nI (8 * y.2.1 0 + i))), (6, .int (nI (8 * y.2.1 e + j))), (7, .int (jV (y.2.2.1 0) (y.2.2.2 0) ((ρ (y.2.1 0)).2.1 i) ((ρ (y.2.1 0)).2.2.1 i) (y.2.2.1 e) (y.2.2.2 e) ((ρ (y.2.1 e)).2.1 j) ((ρ (y.2.1 e)).2.2.1 j) 16)), (8, .int (jV (y.2.2.1 0) (y.2.2.2 0) ((ρ (y.2.1 0)).2.1 i) ((ρ (y.2.1 0)).2.2.1 i) (y.2.2.1 e) (y.2.2.2 e) ((ρ (y.2.1 e)).2.1 j) ((ρ (y.2.1 e)).2.2.1 j) 17))] ⟨rfl, rfl, rfl, rfl, rfl, rfl, rfl, rfl, trivial⟩ ?_
                    exact no (fun w => b150 (by rw [w.2.2 ez, ez]))
                  · refine xr_ls [(0, .ref m), (1, .int (nI v)), (3, .int (nI (2 * (2 * v + x)))), (4, .int (nI ((2 * (2 * v + x)) + e))), (5, .int (nI (8 * y.2.1 0 + i))), (6, .int (nI (8 * y.2.1 e + j))), (7, .int (jV (y.2.2.1 0) (y.2.2.2 0) ((ρ (y.2.1 0)).2.1 i) ((ρ (y.2.1 0)).2.2.1 i) (y.2.2.1 e) (y.2.2.2 e) ((ρ (y.2.1 e)).2.1 j) ((ρ (y.2.1 e)).2.2.1 j) 16)), (8, .int (jV (y.2.2.1 0) (y.2.2.2 0) ((ρ (y.2.1 0)).2.1 i) ((ρ (y.2.1 0)).2.2.1 i) (y.2.2.1 e) (y.2.2.2 e) ((ρ (y.2.1 e)).2.1 j) ((ρ (y.2.1 e)).2.2.1 j) 17))] ⟨rfl, rfl, rfl, rfl, rfl, rfl, rfl, rfl, trivial⟩ ?_
                    exact yes ⟨b132, b137, fun w => by rw [w] at b150; omega⟩
      refine xr_iload a_Mod_mean_34 rfl ?_
      refine xr_bipush a_Mod_mean_36 (v := nI 8) (by decide +kernel) ?_
      refine xr_aload_n a_Mod_mean_38 rfl ?_
      apply xr_getf a_Mod_mean_39
      · (repeat' (first | assumption | exact va_up_self _ _ _ | refine x_lk (by omega) ?_))
      · rfl
      refine xr_iload_n a_Mod_mean_42 rfl ?_
      apply xn_iaload a_Mod_mean_43
      · (repeat' (first | assumption | exact va_up_self _ _ _ | refine x_lk (by omega) ?_))
      · omega
      · omega
      rw [a1]
      first | refine xn_imul a_Mod_mean_44 ?_ | refine xr_imul a_Mod_mean_44 ?_
      refine xr_aload_n a_Mod_mean_45 rfl ?_
      apply xr_getf a_Mod_mean_46
      · (repeat' (first | assumption | exact va_up_self _ _ _ | refine x_lk (by omega) ?_))
      · rfl
      refine xr_aload_n a_Mod_mean_49 rfl ?_
      apply xr_getf a_Mod_mean_50
      · (repeat' (first | assumption | exact va_up_self _ _ _ | refine x_lk (by omega) ?_))
      · rfl
      refine xr_iload_n a_Mod_mean_53 rfl ?_
      apply xn_iaload a_Mod_mean_54
      · (repeat' (first | assumption | exact va_up_self _ _ _ | refine x_lk (by omega) ?_))
      · omega
      · omega
      rw [a1]
      apply xn_iaload a_Mod_mean_55
      · (repeat' (first | assumption | exact va_up_self _ _ _ | refine x_lk (by omega) ?_))
      · omega
      · omega
      rw [(hρ _ r1).1]
      first | refine xn_iadd a_Mod_mean_56 ?_ | refine xr_iadd a_Mod_mean_56 ?_
      refine xn_icmp_ge a_Mod_mean_57 (by omega) (by omega) (fun b57 => ?_) (fun b57 => ?_)
      · omega
      · refine xr_bipush a_Mod_mean_60 (v := nI 8) (by decide +kernel) ?_
        refine xr_aload_n a_Mod_mean_62 rfl ?_
        apply xr_getf a_Mod_mean_63
        · (repeat' (first | assumption | exact va_up_self _ _ _ | refine x_lk (by omega) ?_))
        · rfl
        refine xr_iload a_Mod_mean_66 rfl ?_
        apply xn_iaload a_Mod_mean_68
        · (repeat' (first | assumption | exact va_up_self _ _ _ | refine x_lk (by omega) ?_))
        · omega
        · omega
        rw [b1]
        first | refine xn_imul a_Mod_mean_69 ?_ | refine xr_imul a_Mod_mean_69 ?_
        refine xr_istore a_Mod_mean_70 (by decide) rfl ?_
        refine xr_ls [(0, .ref m), (1, .int (nI v)), (3, .int (nI (2 * (2 * v + x)))), (4, .int (nI ((2 * (2 * v + x)) + e))), (5, .int (nI (8 * y.2.1 0 + i))), (6, .int (nI (8 * y.2.1 e + 0)))] ⟨rfl, rfl, rfl, rfl, rfl, rfl, trivial⟩ ?_
        exact inner (ρ (y.2.1 e)).1 0 h' f' (by omega) f1 g1 (fun k hk => (g2 k hk).trans (vB_c ⟨Or.inl, fun w => w.elim id (fun ⟨j', hj', _⟩ => absurd hj' (Nat.not_lt_zero j'))⟩))
  have m21 : ∀ s, s = (2 * (2 * v + x)) + e → XW (x_rm d 0 0) k_Mod_mean L xs (x_mq 0 0 (qV n (fun h' => xfr (m + 23) (m + 24) h h' ∧ ∃ f', h' (m + 23) = cB 768 f' ∧ ∀ k, k < 768 → f' k = vB (PR k ∨ ∃ p q, p < 16 ∧ q < 16 ∧ k = 256 * v + 16 * p + q ∧ vSem (vRw ρ) (vLs y) p q)))) 0 0 21 [(0, .ref m), (1, .int (nI v)), (3, .int (nI (2 * (2 * v + x))))] [.int (nI s)] n h := by
    intro s hs
    subst hs
    refine xr_istore a_Mod_mean_21 (by decide) rfl ?_
    refine xr_bipush a_Mod_mean_23 (v := nI 8) (by decide +kernel) ?_
    refine xr_aload_n a_Mod_mean_25 rfl ?_
    apply xr_getf a_Mod_mean_26
    · (repeat' (first | assumption | exact va_up_self _ _ _ | refine x_lk (by omega) ?_))
    · rfl
    refine xr_iload_n a_Mod_mean_29 rfl ?_
    apply xn_iaload a_Mod_mean_30
    · (repeat' (first | assumption | exact va_up_self _ _ _ | refine x_lk (by omega) ?_))
    · omega
    · omega
    rw [a1]
    first | refine xn_imul a_Mod_mean_31 ?_ | refine xr_imul a_Mod_mean_31 ?_
    refine xr_istore a_Mod_mean_32 (by decide) rfl ?_
    refine xr_ls [(0, .ref m), (1, .int (nI v)), (3, .int (nI (2 * (2 * v + x)))), (4, .int (nI ((2 * (2 * v + x)) + e))), (5, .int (nI (8 * y.2.1 0 + 0)))] ⟨rfl, rfl, rfl, rfl, rfl, trivial⟩ ?_
    exact outer (ρ (y.2.1 0)).1 0 h f (by omega) xfr.rf cp (fun k hk => (hf k hk).trans (vB_c ⟨Or.inl, fun w => w.elim id (fun ⟨i', hi', _⟩ => absurd hi' (Nat.not_lt_zero i'))⟩))
  refine xr_iconst a_Mod_mean_0 (v := nI 2) (by decide +kernel) ?_
  refine xr_iload_n a_Mod_mean_1 rfl ?_
  first | refine xn_imul a_Mod_mean_2 ?_ | refine xr_imul a_Mod_mean_2 ?_
  refine xr_istore_n a_Mod_mean_3 (by decide) rfl ?_
  refine xr_aload_n a_Mod_mean_4 rfl ?_
  apply xr_getf a_Mod_mean_5
  · (repeat' (first | assumption | exact va_up_self _ _ _ | refine x_lk (by omega) ?_))
  · rfl
  refine xr_iload_n a_Mod_mean_8 rfl ?_
  apply xn_iaload a_Mod_mean_9
  · (repeat' (first | assumption | exact va_up_self _ _ _ | refine x_lk (by omega) ?_))
  · omega
  · omega
  rw [hna, hye]
  refine xr_iconst a_Mod_mean_10 (v := nI 2) (by decide +kernel) ?_
  refine xn_icmp_ne a_Mod_mean_11 (by omega) (by omega) (fun b11 => ?_) (fun b11 => ?_)
  · refine xr_iload_n a_Mod_mean_20 rfl ?_
    refine xr_ls [(0, .ref m), (1, .int (nI v)), (3, .int (nI (2 * (2 * v + x))))] ⟨rfl, rfl, rfl, trivial⟩ ?_
    exact m21 _ (by omega)
  · refine xr_iload_n a_Mod_mean_14 rfl ?_
    refine xr_iconst a_Mod_mean_15 (v := nI 1) (by decide +kernel) ?_
    first | refine xn_iadd a_Mod_mean_16 ?_ | refine xr_iadd a_Mod_mean_16 ?_
    refine xr_goto a_Mod_mean_17 ?_
    refine xr_ls [(0, .ref m), (1, .int (nI v)), (3, .int (nI (2 * (2 * v + x))))] ⟨rfl, rfl, rfl, trivial⟩ ?_
    exact m21 _ (by omega)
end T69h

