/-! Asker: where terms are used last -/
def vNote (F S : Nat → Nat) (lu : Nat → Option Nat) : Nat → Nat → Option Nat
  | 0 => lu
  | i + 1 => va_up (va_up (vNote F S lu i) (F i) (some i)) (S i) (some i)
theorem vNote_at (F S : Nat → Nat) (lu : Nat → Option Nat) (i t : Nat) : vNote F S lu (i + 1) t = if t = S i then some i else if t = F i then some i else vNote F S lu i t := rfl
theorem vNote_a {F S : Nat → Nat} {lu : Nat → Option Nat} {t : Nat} (h0 : lu t = none) : ∀ {i j : Nat}, vNote F S lu i t = some j → j < i ∧ (F j = t ∨ S j = t)
  | 0, j, h => by
    have : lu t = some j := h
    rw [h0] at this
    cases this
  | i + 1, j, h => by
    rw [vNote_at] at h
    by_cases h1 : t = S i
    · rw [if_pos h1] at h; cases h
      exact ⟨by omega, Or.inr h1.symm⟩
    · rw [if_neg h1] at h
      by_cases h2 : t = F i
      · rw [if_pos h2] at h; cases h
        exact ⟨by omega, Or.inl h2.symm⟩
      · rw [if_neg h2] at h
        obtain ⟨a, b⟩ := vNote_a h0 h
        exact ⟨by omega, b⟩
theorem vNote_b {F S : Nat → Nat} {lu : Nat → Option Nat} {t i' : Nat} (ht : F i' = t ∨ S i' = t) : ∀ {i : Nat}, i' < i → ∃ j, vNote F S lu i t = some j ∧ i' ≤ j ∧ j < i
  | 0, h => by omega
  | i + 1, h => by
    rw [vNote_at]
    by_cases h1 : t = S i
    · rw [if_pos h1]; exact ⟨i, rfl, by omega, by omega⟩
    · rw [if_neg h1]
      by_cases h2 : t = F i
      · rw [if_pos h2]; exact ⟨i, rfl, by omega, by omega⟩
      · rw [if_neg h2]
        have : i' ≠ i := by
          intro e
          subst e
          rcases ht with q | q
          · exact h2 q.symm
          · exact h1 q.symm
        obtain ⟨j, a, b, c⟩ := vNote_b (lu := lu) ht (i := i) (by omega)
        exact ⟨j, a, b, by omega⟩
def vLuM (F S : Nat → Nat) (lu : Nat → Option Nat) (g p : Nat) : Nat → Option Nat := (fun l => if p / 2 % 2 = 1 then va_up l (S g) (some g) else l) ((fun l => if p % 2 = 1 then va_up l (F g) (some g) else l) (vNote F S lu g))
def vLuF (F S : Nat → Nat) (lu : Nat → Option Nat) (g : Nat) : Nat → Option Nat := va_up (va_up (vNote F S lu g) 16 (some g)) 17 (some g)
theorem vLuM_at (F S : Nat → Nat) (lu : Nat → Option Nat) (g p t : Nat) : vLuM F S lu g p t = if p / 2 % 2 = 1 ∧ t = S g then some g else if p % 2 = 1 ∧ t = F g then some g else vNote F S lu g t := by
  unfold vLuM
  by_cases h1 : p / 2 % 2 = 1
  · by_cases h2 : p % 2 = 1
    · simp only [h1, h2, if_true, true_and]
      rfl
    · simp only [h1, h2, if_true, if_false, true_and, false_and]
      rfl
  · by_cases h2 : p % 2 = 1
    · simp only [h1, h2, if_true, if_false, true_and, false_and]
      rfl
    · simp only [h1, h2, if_false, false_and]
theorem vLuF_at (F S : Nat → Nat) (lu : Nat → Option Nat) (g t : Nat) : vLuF F S lu g t = if t = 17 then some g else if t = 16 then some g else vNote F S lu g t := rfl
def vKw (F S : Nat → Nat) (g t : Nat) : Prop := t < 16 ∨ ∃ i, i < g ∧ (F i = t ∨ S i = t)
theorem wK_M {ρ : Nat → vRel} {m g : Nat} {H F S : Nat → Nat} {pt : Nat → Option Nat} {lu : Nat → Option Nat} {fr p : Nat} (h0 : ∀ t, t < 34 → lu t = none) (hm : m ≤ 6) (hg : g < m) (hB : ∀ i, i < m → H i < 4 ∧ F i < 34 ∧ S i < 34) (hρ : ∀ r, r < 4 → (ρ r).1 ≤ 8 ∧ ∀ i, i < (ρ r).1 → (ρ r).2.1 i < 16 ∧ (ρ r).2.2.1 i < 16) (hp : pt g = some p) (hp4 : p < 4) (k1 : p % 2 = 1 → vKw F S g (F g)) (k2 : p / 2 % 2 = 1 → vKw F S g (S g)) (hfr : fr < 5000) : wK ρ m g H F S pt (vCode (H g, F g, S g) p) (vLuM F S lu g p) fr := by
  have e1 : p % 2 = 1 → vLuM F S lu g p (F g) = some g := by
    intro z
    rw [vLuM_at]
    split
    · rfl
    · rw [if_pos ⟨z, rfl⟩]
  have e2 : p / 2 % 2 = 1 → vLuM F S lu g p (S g) = some g := by
    intro z
    rw [vLuM_at, if_pos ⟨z, rfl⟩]
  have last : ∀ i t, i < g → (F i = t ∨ S i = t) → ∃ j, vLuM F S lu g p t = some j ∧ i ≤ j := by
    intro i t hi ht
    rw [vLuM_at]
    split
    · exact ⟨g, rfl, by omega⟩
    · split
      · exact ⟨g, rfl, by omega⟩
      · obtain ⟨j, a, b, c⟩ := vNote_b (lu := lu) ht hi
        exact ⟨j, a, b⟩
  refine ⟨hm, by omega, hB, hρ, ⟨fun i hi => ⟨last i _ hi (Or.inl rfl), last i _ hi (Or.inr rfl)⟩, fun θ θ' hθ => ?_⟩, fun t k ht hk => ?_, fun t ht hk => ?_, fun _ => ⟨p, hp, hp4, e1, e2, rfl⟩, fun z => by omega, hfr⟩
  · have b := hB g hg
    have x : (if p % 2 = 1 then θ (F g) else 0) = (if p % 2 = 1 then θ' (F g) else 0) := by
      split
      · rename_i z; exact hθ _ b.2.1 (e1 z)
      · rfl
    have y : (if p / 2 % 2 = 1 then θ (S g) else 0) = (if p / 2 % 2 = 1 then θ' (S g) else 0) := by
      split
      · rename_i z; exact hθ _ b.2.2 (e2 z)
      · rfl
    show ((H g * 4 + p) * 16 + (if p % 2 = 1 then θ (F g) else 0)) * 16 + (if p / 2 % 2 = 1 then θ (S g) else 0) = ((H g * 4 + p) * 16 + (if p % 2 = 1 then θ' (F g) else 0)) * 16 + (if p / 2 % 2 = 1 then θ' (S g) else 0)
    rw [x, y]
  · rw [vLuM_at] at hk
    split at hk
    · cases hk; omega
    · split at hk
      · cases hk; omega
      · have := vNote_a (h0 t ht) hk; omega
  · rw [vLuM_at] at hk
    split at hk
    · rename_i z; rw [z.2]; exact k2 z.1
    · split at hk
      · rename_i z; rw [z.2]; exact k1 z.1
      · have := vNote_a (h0 t ht) hk; omega
theorem wK_F {ρ : Nat → vRel} {m : Nat} {H F S : Nat → Nat} {pt : Nat → Option Nat} {lu : Nat → Option Nat} {fr : Nat} (h0 : ∀ t, t < 34 → lu t = none) (hm : m ≤ 6) (hB : ∀ i, i < m → H i < 4 ∧ F i < 34 ∧ S i < 34) (hρ : ∀ r, r < 4 → (ρ r).1 ≤ 8 ∧ ∀ i, i < (ρ r).1 → (ρ r).2.1 i < 16 ∧ (ρ r).2.2.1 i < 16) (k1 : vKw F S m 16) (k2 : vKw F S m 17) (hfr : fr < 5000) : wK ρ m m H F S pt (fun θ => θ 16 * 16 + θ 17) (vLuF F S lu m) fr := by
  have e1 : vLuF F S lu m 16 = some m := rfl
  have e2 : vLuF F S lu m 17 = some m := rfl
  have last : ∀ i t, i < m → (F i = t ∨ S i = t) → ∃ j, vLuF F S lu m t = some j ∧ i ≤ j := by
    intro i t hi ht
    rw [vLuF_at]
    split
    · exact ⟨m, rfl, by omega⟩
    · split
      · exact ⟨m, rfl, by omega⟩
      · obtain ⟨j, a, b, c⟩ := vNote_b (lu := lu) ht hi
        exact ⟨j, a, b⟩
  refine ⟨hm, Nat.le_refl _, hB, hρ, ⟨fun i hi => ⟨last i _ hi (Or.inl rfl), last i _ hi (Or.inr rfl)⟩, fun θ θ' hθ => ?_⟩, fun t k ht hk => ?_, fun t ht hk => ?_, fun z => by omega, fun _ => ⟨e1, e2, rfl⟩, hfr⟩
  · show θ 16 * 16 + θ 17 = θ' 16 * 16 + θ' 17
    rw [hθ 16 (by omega) e1, hθ 17 (by omega) e2]
  · rw [vLuF_at] at hk
    split at hk
    · cases hk; omega
    · split at hk
      · cases hk; omega
      · have := vNote_a (h0 t ht) hk; omega
  · rw [vLuF_at] at hk
    split at hk
    · rename_i z; rw [z]; exact k2
    · split at hk
      · rename_i z; rw [z]; exact k1
      · have := vNote_a (h0 t ht) hk; omega
section T36
variable {d L : Nat} {xs : Nat → Int32} {n : Nat} {h : xH} {a rc rq tr : Nat} {R : Nat → Nat} {Mf Mm : Nat → Bool} {w lu : Nat → Option Nat} {vr : Value} {dj g fr m : Nat} {H F S : Nat → Nat} {pt : Nat → Option Nat} {dr bl : Nat}
theorem t_Asker_noteLastUses (pa : isAk h a rc rq tr R Mf Mm w lu vr (.ref dj) g fr) (pd : isDj h dj m H F S pt dr bl) (hdj : dj + 6 ≤ a ∨ a + 9 ≤ dj) (hg : g ≤ m) (hm : m ≤ 6) (hB : ∀ i, i < m → H i < 4 ∧ F i < 34 ∧ S i < 34) (hp : g < m → ∃ p, pt g = some p ∧ p < 4) (hd : 1 ≤ d) : XM d 0 0 k_Asker_noteLastUses L xs [.ref a] n h (qV n (fun h' => (∀ p, g < m → pt g = some p → h' = va_up h (a + 8) (cO 34 (vLuM F S (vClr lu 34) g p))) ∧ (g = m → h' = va_up h (a + 8) (cO 34 (vLuF F S (vClr lu 34) g))))) := by
  obtain ⟨k0, k1, k2, k3, k4, k6⟩ := pa
  obtain ⟨d0, ⟨a0, a1, a2, a3⟩, d2⟩ := pd
  refine XM.of rfl (Nat.le_of_ble_eq_true rfl) ?_
  have tail : XW (x_rm d 0 0) k_Asker_noteLastUses L xs (x_mq 0 0 (qV n (fun h' => (∀ p, g < m → pt g = some p → h' = va_up h (a + 8) (cO 34 (vLuM F S (vClr lu 34) g p))) ∧ (g = m → h' = va_up h (a + 8) (cO 34 (vLuF F S (vClr lu 34) g)))))) 0 0 56 [(0, .ref a), (1, .ref (dj + 1))] [] n (va_up h (a + 8) (cO 34 (vNote F S (vClr lu 34) g))) := by
    refine xr_aload_n a_Asker_noteLastUses_56 rfl ?_
    apply xr_getf a_Asker_noteLastUses_57
    · (repeat' (first | assumption | exact va_up_self _ _ _ | refine x_lk (by omega) ?_))
    · rfl
    refine xr_aload_n a_Asker_noteLastUses_60 rfl ?_
    apply xr_getf a_Asker_noteLastUses_61
    · (repeat' (first | assumption | exact va_up_self _ _ _ | refine x_lk (by omega) ?_))
    · rfl
    refine xn_icmp_lt a_Asker_noteLastUses_64 (by omega) (by omega) (fun b64 => ?_) (fun b64 => ?_)
    · obtain ⟨p, e1, e2⟩ := hp b64
      have b := hB g b64
      clear hp
      have eo : oI (pt g) = nI p := by rw [e1]; rfl
      have t2 : ∀ l : Nat → Option Nat, l = (if p % 2 = 1 then va_up (vNote F S (vClr lu 34) g) (F g) (some g) else vNote F S (vClr lu 34) g) → XW (x_rm d 0 0) k_Asker_noteLastUses L xs (x_mq 0 0 (qV n (fun h' => (∀ p, g < m → pt g = some p → h' = va_up h (a + 8) (cO 34 (vLuM F S (vClr lu 34) g p))) ∧ (g = m → h' = va_up h (a + 8) (cO 34 (vLuF F S (vClr lu 34) g)))))) 0 0 125 [(0, .ref a), (1, .ref (dj + 1))] [] n (va_up h (a + 8) (cO 34 l)) := by
        intro l hl
        refine xr_aload_n a_Asker_noteLastUses_125 rfl ?_
        apply xr_getf a_Asker_noteLastUses_126
        · (repeat' (first | assumption | exact va_up_self _ _ _ | refine x_lk (by omega) ?_))
        · rfl
        apply xr_getf a_Asker_noteLastUses_129
        · (repeat' (first | assumption | exact va_up_self _ _ _ | refine x_lk (by omega) ?_))
        · rfl
        refine xr_aload_n a_Asker_noteLastUses_132 rfl ?_
        apply xr_getf a_Asker_noteLastUses_133
        · (repeat' (first | assumption | exact va_up_self _ _ _ | refine x_lk (by omega) ?_))
        · rfl
        apply xo_iaload a_Asker_noteLastUses_136
        · (repeat' (first | assumption | exact va_up_self _ _ _ | refine x_lk (by omega) ?_))
        · omega
        · omega
        rw [eo]
        refine xr_iconst a_Asker_noteLastUses_137 (v := nI 2) (by decide +kernel) ?_
        refine xr_iand a_Asker_noteLastUses_138 ?_; rw [bp_and p e2 2 (by decide), p_and2 p e2]
        refine xn_if_eq a_Asker_noteLastUses_139 (by omega) (fun b139 => ?_) (fun b139 => ?_)
        · refine xr_return a_Asker_noteLastUses_160 rfl (by omega) (by omega) ?_
          refine ⟨rfl, rfl, fun p' _ z => ?_, fun z => by omega⟩
          rw [e1] at z
          cases z
          have : vLuM F S (vClr lu 34) g p = l := by
            unfold vLuM
            simp only [if_neg (show ¬ p / 2 % 2 = 1 by omega)]
            exact hl.symm
          rw [this]
        · refine xr_aload_n a_Asker_noteLastUses_142 rfl ?_
          apply xr_getf a_Asker_noteLastUses_143
          · (repeat' (first | assumption | exact va_up_self _ _ _ | refine x_lk (by omega) ?_))
          · rfl
          refine xr_aload_n a_Asker_noteLastUses_146 rfl ?_
          apply xr_getf a_Asker_noteLastUses_147
          · (repeat' (first | assumption | exact va_up_self _ _ _ | refine x_lk (by omega) ?_))
          · rfl
          refine xr_aload_n a_Asker_noteLastUses_150 rfl ?_
          apply xr_getf a_Asker_noteLastUses_151
          · (repeat' (first | assumption | exact va_up_self _ _ _ | refine x_lk (by omega) ?_))
          · rfl
          apply xn_iaload a_Asker_noteLastUses_154
          · (repeat' (first | assumption | exact va_up_self _ _ _ | refine x_lk (by omega) ?_))
          · omega
          · omega
          refine xr_aload_n a_Asker_noteLastUses_155 rfl ?_
          apply xr_getf a_Asker_noteLastUses_156
          · (repeat' (first | assumption | exact va_up_self _ _ _ | refine x_lk (by omega) ?_))
          · rfl
          apply xo_iastore (o := some g) a_Asker_noteLastUses_159
          · (repeat' (first | assumption | exact va_up_self _ _ _ | refine x_lk (by omega) ?_))
          · exact rfl
          · omega
          · omega
          refine xr_return a_Asker_noteLastUses_160 rfl (by omega) (by omega) ?_
          refine ⟨rfl, rfl, fun p' _ z => ?_, fun z => by omega⟩
          rw [e1] at z
          cases z
          have : vLuM F S (vClr lu 34) g p = va_up l (S g) (some g) := by
            unfold vLuM
            simp only [if_pos (show p / 2 % 2 = 1 by omega)]
            rw [hl]
          rw [this, up_up]
      refine xr_aload_n a_Asker_noteLastUses_90 rfl ?_
      apply xr_getf a_Asker_noteLastUses_91
      · (repeat' (first | assumption | exact va_up_self _ _ _ | refine x_lk (by omega) ?_))
      · rfl
      apply xr_getf a_Asker_noteLastUses_94
      · (repeat' (first | assumption | exact va_up_self _ _ _ | refine x_lk (by omega) ?_))
      · rfl
      refine xr_aload_n a_Asker_noteLastUses_97 rfl ?_
      apply xr_getf a_Asker_noteLastUses_98
      · (repeat' (first | assumption | exact va_up_self _ _ _ | refine x_lk (by omega) ?_))
      · rfl
      apply xo_iaload a_Asker_noteLastUses_101
      · (repeat' (first | assumption | exact va_up_self _ _ _ | refine x_lk (by omega) ?_))
      · omega
      · omega
      rw [eo]
      refine xr_iconst a_Asker_noteLastUses_102 (v := nI 1) (by decide +kernel) ?_
      refine xr_iand a_Asker_noteLastUses_103 ?_; rw [bp_and p e2 1 (by decide), p_and1 p e2]
      refine xn_if_eq a_Asker_noteLastUses_104 (by omega) (fun b104 => ?_) (fun b104 => ?_)
      · exact t2 _ (by rw [if_neg (by omega)])
      · refine xr_aload_n a_Asker_noteLastUses_107 rfl ?_
        apply xr_getf a_Asker_noteLastUses_108
        · (repeat' (first | assumption | exact va_up_self _ _ _ | refine x_lk (by omega) ?_))
        · rfl
        refine xr_aload_n a_Asker_noteLastUses_111 rfl ?_
        apply xr_getf a_Asker_noteLastUses_112
        · (repeat' (first | assumption | exact va_up_self _ _ _ | refine x_lk (by omega) ?_))
        · rfl
        refine xr_aload_n a_Asker_noteLastUses_115 rfl ?_
        apply xr_getf a_Asker_noteLastUses_116
        · (repeat' (first | assumption | exact va_up_self _ _ _ | refine x_lk (by omega) ?_))
        · rfl
        apply xn_iaload a_Asker_noteLastUses_119
        · (repeat' (first | assumption | exact va_up_self _ _ _ | refine x_lk (by omega) ?_))
        · omega
        · omega
        refine xr_aload_n a_Asker_noteLastUses_120 rfl ?_
        apply xr_getf a_Asker_noteLastUses_121
        · (repeat' (first | assumption | exact va_up_self _ _ _ | refine x_lk (by omega) ?_))
        · rfl
        apply xo_iastore (o := some g) a_Asker_noteLastUses_124
        · (repeat' (first | assumption | exact va_up_self _ _ _ | refine x_lk (by omega) ?_))
        · exact rfl
        · omega
        · omega
        rw [up_up]
        exact t2 _ (by rw [if_pos (by omega)])
    · refine xr_aload_n a_Asker_noteLastUses_67 rfl ?_
      apply xr_getf a_Asker_noteLastUses_68
      · (repeat' (first | assumption | exact va_up_self _ _ _ | refine x_lk (by omega) ?_))
      · rfl
      refine xr_bipush a_Asker_noteLastUses_71 (v := nI 16) (by decide +kernel) ?_
      refine xr_aload_n a_Asker_noteLastUses_73 rfl ?_
      apply xr_getf a_Asker_noteLastUses_74
      · (repeat' (first | assumption | exact va_up_self _ _ _ | refine x_lk (by omega) ?_))
      · rfl
      apply xo_iastore (o := some g) a_Asker_noteLastUses_77
      · (repeat' (first | assumption | exact va_up_self _ _ _ | refine x_lk (by omega) ?_))
      · exact rfl
      · omega
      · omega
      refine xr_aload_n a_Asker_noteLastUses_78 rfl ?_
      apply xr_getf a_Asker_noteLastUses_79
      · (repeat' (first | assumption | exact va_up_self _ _ _ | refine x_lk (by omega) ?_))
      · rfl
      refine xr_bipush a_Asker_noteLastUses_82 (v := nI 17) (by decide +kernel) ?_
      refine xr_aload_n a_Asker_noteLastUses_84 rfl ?_
      apply xr_getf a_Asker_noteLastUses_85
      · (repeat' (first | assumption | exact va_up_self _ _ _ | refine x_lk (by omega) ?_))
      · rfl
      apply xo_iastore (o := some g) a_Asker_noteLastUses_88
      · (repeat' (first | assumption | exact va_up_self _ _ _ | refine x_lk (by omega) ?_))
      · exact rfl
      · omega
      · omega
      refine xr_return a_Asker_noteLastUses_89 rfl (by omega) (by omega) ?_
      refine ⟨rfl, rfl, fun p' z => by omega, fun _ => ?_⟩
      rw [up_up, up_up]
      rfl
  have loop : ∀ k i, i + k = g → XW (x_rm d 0 0) k_Asker_noteLastUses L xs (x_mq 0 0 (qV n (fun h' => (∀ p, g < m → pt g = some p → h' = va_up h (a + 8) (cO 34 (vLuM F S (vClr lu 34) g p))) ∧ (g = m → h' = va_up h (a + 8) (cO 34 (vLuF F S (vClr lu 34) g)))))) 0 0 18 [(0, .ref a), (1, .ref (dj + 1)), (2, .int (nI i))] [] n (va_up h (a + 8) (cO 34 (vNote F S (vClr lu 34) i))) := by
    clear hp
    intro k
    induction k with
    | zero =>
      intro i hi
      refine xr_iload_n a_Asker_noteLastUses_18 rfl ?_
      refine xr_aload_n a_Asker_noteLastUses_19 rfl ?_
      apply xr_getf a_Asker_noteLastUses_20
      · (repeat' (first | assumption | exact va_up_self _ _ _ | refine x_lk (by omega) ?_))
      · rfl
      refine xn_icmp_ge a_Asker_noteLastUses_23 (by omega) (by omega) (fun b23 => ?_) (fun b23 => ?_)
      · refine xr_ls [(0, .ref a), (1, .ref (dj + 1))] ⟨rfl, rfl, trivial⟩ ?_
        rw [show i = g by omega]
        exact tail
      · omega
    | succ k ih =>
      intro i hi
      have b := hB i (by omega)
      refine xr_iload_n a_Asker_noteLastUses_18 rfl ?_
      refine xr_aload_n a_Asker_noteLastUses_19 rfl ?_
      apply xr_getf a_Asker_noteLastUses_20
      · (repeat' (first | assumption | exact va_up_self _ _ _ | refine x_lk (by omega) ?_))
      · rfl
      refine xn_icmp_ge a_Asker_noteLastUses_23 (by omega) (by omega) (fun b23 => ?_) (fun b23 => ?_)
      · omega
      · refine xr_aload_n a_Asker_noteLastUses_26 rfl ?_
        apply xr_getf a_Asker_noteLastUses_27
        · (repeat' (first | assumption | exact va_up_self _ _ _ | refine x_lk (by omega) ?_))
        · rfl
        refine xr_aload_n a_Asker_noteLastUses_30 rfl ?_
        apply xr_getf a_Asker_noteLastUses_31
        · (repeat' (first | assumption | exact va_up_self _ _ _ | refine x_lk (by omega) ?_))
        · rfl
        refine xr_iload_n a_Asker_noteLastUses_34 rfl ?_
        apply xn_iaload a_Asker_noteLastUses_35
        · (repeat' (first | assumption | exact va_up_self _ _ _ | refine x_lk (by omega) ?_))
        · omega
        · omega
        refine xr_iload_n a_Asker_noteLastUses_36 rfl ?_
        apply xo_iastore (o := some i) a_Asker_noteLastUses_37
        · (repeat' (first | assumption | exact va_up_self _ _ _ | refine x_lk (by omega) ?_))
        · exact rfl
        · omega
        · omega
        refine xr_aload_n a_Asker_noteLastUses_38 rfl ?_
        apply xr_getf a_Asker_noteLastUses_39
        · (repeat' (first | assumption | exact va_up_self _ _ _ | refine x_lk (by omega) ?_))
        · rfl
        refine xr_aload_n a_Asker_noteLastUses_42 rfl ?_
        apply xr_getf a_Asker_noteLastUses_43
        · (repeat' (first | assumption | exact va_up_self _ _ _ | refine x_lk (by omega) ?_))
        · rfl
        refine xr_iload_n a_Asker_noteLastUses_46 rfl ?_
        apply xn_iaload a_Asker_noteLastUses_47
        · (repeat' (first | assumption | exact va_up_self _ _ _ | refine x_lk (by omega) ?_))
        · omega
        · omega
        refine xr_iload_n a_Asker_noteLastUses_48 rfl ?_
        apply xo_iastore (o := some i) a_Asker_noteLastUses_49
        · (repeat' (first | assumption | exact va_up_self _ _ _ | refine x_lk (by omega) ?_))
        · exact rfl
        · omega
        · omega
        first | refine xn_iinc a_Asker_noteLastUses_50 rfl (by decide) rfl ?_ | refine xr_iinc a_Asker_noteLastUses_50 rfl rfl (by decide) rfl ?_
        refine xr_goto a_Asker_noteLastUses_53 ?_
        refine xr_ls [(0, .ref a), (1, .ref (dj + 1)), (2, .int (nI (i + 1)))] ⟨rfl, rfl, rfl, trivial⟩ ?_
        rw [up_up, up_up]
        exact ih (i + 1) (by omega)
  clear hp
  refine xr_aload_n a_Asker_noteLastUses_0 rfl ?_
  apply xr_getf a_Asker_noteLastUses_1
  · (repeat' (first | assumption | exact va_up_self _ _ _ | refine x_lk (by omega) ?_))
  · rfl
  apply xr_getf a_Asker_noteLastUses_4
  · (repeat' (first | assumption | exact va_up_self _ _ _ | refine x_lk (by omega) ?_))
  · rfl
  refine xr_astore_n a_Asker_noteLastUses_7 (by decide) rfl ?_
  refine xr_aload_n a_Asker_noteLastUses_8 rfl ?_
  apply xr_getf a_Asker_noteLastUses_9
  · (repeat' (first | assumption | exact va_up_self _ _ _ | refine x_lk (by omega) ?_))
  · rfl
  refine xr_iconst a_Asker_noteLastUses_12 (v := -1) (by decide +kernel) ?_
  refine xr_invS a_Asker_noteLastUses_13 (t_fill (d := 0) k6 (by omega)) rfl rfl (by omega) (by omega) (by omega) (Nat.le_of_ble_eq_true rfl) ?_
  rintro _ _ h1 ⟨rfl, rfl, rfl⟩
  refine xr_iconst a_Asker_noteLastUses_16 (v := nI 0) (by decide +kernel) ?_
  refine xr_istore_n a_Asker_noteLastUses_17 (by decide) rfl ?_
  refine xr_ls [(0, .ref a), (1, .ref (dj + 1)), (2, .int (nI 0))] ⟨rfl, rfl, rfl, trivial⟩ ?_
  exact loop g 0 (by omega)
end T36

