/-! the reference: roads -/
def rdS (h0 h' : xH) (m as ma stk rq tr : Nat) (Mm : Nat → Bool) (W : Nat → Prop) (pk : Nat → Option Nat) : Prop := (∀ q, q ≠ m → q ≠ m + 20 → q ≠ m + 22 → h' q = h0 q) ∧ h' m = cM m as ma stk (rqN Mm W) rq tr ∧ h' (m + 20) = cO 6 pk ∧ moW h' m Mm W
theorem rdS.pick {h0 h' : xH} {m as ma stk rq tr : Nat} {Mm : Nat → Bool} {W : Nat → Prop} {pk : Nat → Option Nat} (p : rdS h0 h' m as ma stk rq tr Mm W pk) (pk' : Nat → Option Nat) : rdS h0 (va_up h' (m + 20) (cO 6 pk')) m as ma stk rq tr Mm W pk' := ⟨fun q g1 g2 g3 => (up_ne g2).trans (p.1 q g1 g2 g3), x_lk (by omega) p.2.1, up_self _ _ _, p.2.2.2.sm (up_ne (by omega))⟩
section T69f
variable {d L : Nat} {xs : Nat → Int32} {n : Nat} {h : xH} {m : Nat} {as ma stk rq tr : Nat} {rw_ rX rY lR lA lB : Nat → Nat} {pk md : Nat → Option Nat} {Mm : Nat → Bool} {W : Nat → Prop} {ρ : Nat → vRel}
theorem t_Mod_roads {dd to : Nat} {l : List vA} {pt : Nat → Option Nat} (S0 : rdS h h m as ma stk rq tr Mm W pk) (x0 : h (m + 1) = cI 4 rw_) (x1 : h (m + 2) = cI 32 rX) (x2 : h (m + 3) = cI 32 rY) (c1 : h (m + 15) = cI 48 lR) (c2 : h (m + 16) = cI 48 lA) (c3 : h (m + 17) = cI 48 lB) (cm : h (m + 18) = cO 48 md) (pM : moM h m Mm) (hM : ∀ c, Mm c = true → vOkc c) (hW : ∀ c, W c → vOkc c) (hR : vOkR ρ) (hρ : ∀ r, r < 4 → rw_ r = (ρ r).1 ∧ ∀ k, k < 8 → rX (8 * r + k) = (ρ r).2.1 k ∧ rY (8 * r + k) = (ρ r).2.2.1 k) (hdd : dd < 8) (hl : vRep l l.length (fun i => lR (6 * dd + i)) (fun i => lA (6 * dd + i)) (fun i => lB (6 * dd + i))) (h6 : l.length ≤ 6) (hb : vBdL l) (hto : to < l.length) (hmd : md (6 * dd + to) = pt to) (hg : vGd1 l pt to) (hd : 2 ≤ d) : XM d 0 0 k_Mod_roads L xs [.ref m, .int (nI dd), .int (nI to)] n h (qV n (fun h' => ∃ W' pk', (∀ c, W' c ↔ W c ∨ vRq (vRw ρ) l pt to c) ∧ rdS h h' m as ma stk rq tr Mm W' pk')) := by
  obtain ⟨p, hp, hp4, hp1, hp2⟩ := hg
  have bd : ∀ j, j < l.length → lR (6 * dd + j) < 4 ∧ lA (6 * dd + j) < 34 ∧ lB (6 * dd + j) < 34 := fun j hj => hb.at hl hj
  have rowv : ∀ i, i < l.length → ∀ x, x < (ρ (lR (6 * dd + i))).1 → x < 8 ∧ rX (8 * lR (6 * dd + i) + x) < 16 ∧ rY (8 * lR (6 * dd + i) + x) < 16 ∧ rX (8 * lR (6 * dd + i) + x) = (ρ (lR (6 * dd + i))).2.1 x ∧ rY (8 * lR (6 * dd + i) + x) = (ρ (lR (6 * dd + i))).2.2.1 x := by
    intro i hi x hx
    have r4 := (bd i hi).1
    have r8 := hR _ r4
    have hx8 : x < 8 := by omega
    obtain ⟨e1, e2⟩ := (hρ _ r4).2 x hx8
    have b := r8.2 x hx
    exact ⟨hx8, by rw [e1]; exact b.1, by rw [e2]; exact b.2, e1, e2⟩
  have xy : ∀ P : Nat → Nat, (∀ i, i < to → P i < (ρ (lR (6 * dd + i))).1) → ∃ X Y, (p % 2 = 1 → vHeld 16 (fun j => lA (6 * dd + j)) (fun j => lB (6 * dd + j)) (fun j => rX (8 * lR (6 * dd + j) + P j)) (fun j => rY (8 * lR (6 * dd + j) + P j)) to (lA (6 * dd + to)) = some X) ∧ (p % 2 = 0 → X = 0) ∧ X < 16 ∧ (p / 2 % 2 = 1 → vHeld 16 (fun j => lA (6 * dd + j)) (fun j => lB (6 * dd + j)) (fun j => rX (8 * lR (6 * dd + j) + P j)) (fun j => rY (8 * lR (6 * dd + j) + P j)) to (lB (6 * dd + to)) = some Y) ∧ (p / 2 % 2 = 0 → Y = 0) ∧ Y < 16 ∧ ∀ θ, sEx (fun i => lA (6 * dd + i)) (fun i => lB (6 * dd + i)) (fun i x => rX (8 * lR (6 * dd + i) + x)) (fun i x => rY (8 * lR (6 * dd + i) + x)) (fun i => (ρ (lR (6 * dd + i))).1) (fun _ _ => True) to P to θ → (vCode (lR (6 * dd + to), lA (6 * dd + to), lB (6 * dd + to)) p) θ = ((lR (6 * dd + to) * 4 + p) * 16 + X) * 16 + Y := by
    intro P hP
    have hA : ∀ j, j < to → rX (8 * lR (6 * dd + j) + P j) < 16 ∧ rY (8 * lR (6 * dd + j) + P j) < 16 := fun j hj => by
      have := rowv j (by omega) (P j) (hP j hj)
      exact ⟨this.2.1, this.2.2.1⟩
    have ea : vAt l to = (lR (6 * dd + to), lA (6 * dd + to), lB (6 * dd + to)) := hl.vat hto
    rw [ea] at hp1 hp2
    obtain ⟨X, g1, g2, g3⟩ : ∃ X, (p % 2 = 1 → vHeld 16 (fun j => lA (6 * dd + j)) (fun j => lB (6 * dd + j)) (fun j => rX (8 * lR (6 * dd + j) + P j)) (fun j => rY (8 * lR (6 * dd + j) + P j)) to (lA (6 * dd + to)) = some X) ∧ (p % 2 = 0 → X = 0) ∧ X < 16 := by
      by_cases z : p % 2 = 1
      · obtain ⟨v, v1, v2⟩ := vHeld_some (F := (fun i => lA (6 * dd + i))) (S := (fun i => lB (6 * dd + i))) (A' := fun j => rX (8 * lR (6 * dd + j) + P j)) (B' := fun j => rY (8 * lR (6 * dd + j) + P j)) ((vKn_iff hl (by omega)).mp (hp1 z)) hA
        exact ⟨v, fun _ => v1, fun w => by omega, v2⟩
      · exact ⟨0, fun w => absurd w z, fun _ => rfl, by omega⟩
    obtain ⟨Y, k1, k2, k3⟩ : ∃ Y, (p / 2 % 2 = 1 → vHeld 16 (fun j => lA (6 * dd + j)) (fun j => lB (6 * dd + j)) (fun j => rX (8 * lR (6 * dd + j) + P j)) (fun j => rY (8 * lR (6 * dd + j) + P j)) to (lB (6 * dd + to)) = some Y) ∧ (p / 2 % 2 = 0 → Y = 0) ∧ Y < 16 := by
      by_cases z : p / 2 % 2 = 1
      · obtain ⟨v, v1, v2⟩ := vHeld_some (F := (fun i => lA (6 * dd + i))) (S := (fun i => lB (6 * dd + i))) (A' := fun j => rX (8 * lR (6 * dd + j) + P j)) (B' := fun j => rY (8 * lR (6 * dd + j) + P j)) ((vKn_iff hl (by omega)).mp (hp2 z)) hA
        exact ⟨v, fun _ => v1, fun w => by omega, v2⟩
      · exact ⟨0, fun w => absurd w z, fun _ => rfl, by omega⟩
    refine ⟨X, Y, g1, g2, g3, k1, k2, k3, fun θ hθ => ?_⟩
    have eX : (if p % 2 = 1 then θ (lA (6 * dd + to)) else 0) = X := by
      by_cases z : p % 2 = 1
      · rw [if_pos z]; exact vHeld_eqS hθ (g1 z)
      · rw [if_neg z]; exact (g2 (by omega)).symm
    have eY : (if p / 2 % 2 = 1 then θ (lB (6 * dd + to)) else 0) = Y := by
      by_cases z : p / 2 % 2 = 1
      · rw [if_pos z]; exact vHeld_eqS hθ (k1 z)
      · rw [if_neg z]; exact (k2 (by omega)).symm
    show ((lR (6 * dd + to) * 4 + p) * 16 + (if p % 2 = 1 then θ (lA (6 * dd + to)) else 0)) * 16 + (if p / 2 % 2 = 1 then θ (lB (6 * dd + to)) else 0) = _
    rw [eX, eY]
  have out : ∀ (P : Nat → Nat) (c : Nat), (∃ θ, sEx (fun i => lA (6 * dd + i)) (fun i => lB (6 * dd + i)) (fun i x => rX (8 * lR (6 * dd + i) + x)) (fun i x => rY (8 * lR (6 * dd + i) + x)) (fun i => (ρ (lR (6 * dd + i))).1) (fun _ _ => True) to P 0 θ ∧ c = (vCode (lR (6 * dd + to), lA (6 * dd + to), lB (6 * dd + to)) p) θ) ↔ vRq (vRw ρ) l pt to c := by
    intro P c
    have tk := hl.take (k := to) (by omega)
    constructor
    · rintro ⟨θ, ⟨h1, h2, h3⟩, e⟩
      refine ⟨θ, _, p, h1, fun a ha => ?_, hl.ix hto, hp, e⟩
      obtain ⟨j, hj, rfl⟩ := tk.mem.mp ha
      obtain ⟨x, y1, -, y3, y4⟩ := h3 j (Nat.zero_le _) hj
      have rv := rowv j (by omega) x y1
      dsimp only at y3 y4 ⊢
      exact vRw_mem.mpr ⟨x, y1, by rw [y3, y4, rv.2.2.2.1, rv.2.2.2.2]⟩
    · rintro ⟨θ, a, p', h1, h2, h3, h4, e⟩
      rw [hp] at h4
      cases h4
      rw [hl.ix hto] at h3
      cases h3
      refine ⟨θ, ⟨h1, fun i hi => absurd hi (Nat.not_lt_zero i), fun i _ hi => ?_⟩, e⟩
      obtain ⟨x, y1, y2⟩ := vRw_mem.mp (h2 _ (tk.mem.mpr ⟨i, hi, rfl⟩))
      have rv := rowv i (by omega) x y1
      have e1 := congrArg Prod.fst y2
      have e2 := congrArg Prod.snd y2
      dsimp only at e1 e2 ⊢
      exact ⟨x, y1, trivial, by rw [rv.2.2.2.1]; exact e1, by rw [rv.2.2.2.2]; exact e2⟩
  refine XM.of rfl (Nat.le_of_ble_eq_true rfl) ?_
  have try_ : ∀ r k, k + r + 1 = to → ∀ q nx, nx + q = (ρ (lR (6 * dd + k))).1 → ∀ (P : Nat → Nat) (pk : Nat → Option Nat) (V : Nat → Prop) (h' : xH), rdS h h' m as ma stk rq tr Mm V pk → (∀ c, V c → vOkc c) → vCon 16 (fun i => lA (6 * dd + i)) (fun i => lB (6 * dd + i)) (fun i => (fun i x => rX (8 * lR (6 * dd + i) + x)) i (P i)) (fun i => (fun i x => rY (8 * lR (6 * dd + i) + x)) i (P i)) k → (∀ i, i < k → pk i = some (P i) ∧ P i < (ρ (lR (6 * dd + i))).1) → nxt (pk k) = nx → (∀ (W' : Nat → Prop) (pk' : Nat → Option Nat) (h'' : xH), (∀ c, W' c ↔ V c ∨ sX (fun i => lA (6 * dd + i)) (fun i => lB (6 * dd + i)) (fun i x => rX (8 * lR (6 * dd + i) + x)) (fun i x => rY (8 * lR (6 * dd + i) + x)) (fun i => (ρ (lR (6 * dd + i))).1) (fun _ _ => True) to (vCode (lR (6 * dd + to), lA (6 * dd + to), lB (6 * dd + to)) p) P k nx c) → (∀ c, W' c → vOkc c) → rdS h h'' m as ma stk rq tr Mm W' pk' → (∀ i, i < k → pk' i = some (P i)) → XW (x_rm d 0 0) k_Mod_roads L xs (x_mq 0 0 (qV n (fun h' => ∃ W' pk', (∀ c, W' c ↔ W c ∨ vRq (vRw ρ) l pt to c) ∧ rdS h h' m as ma stk rq tr Mm W' pk'))) 0 0 20 [(0, .ref m), (1, .int (nI dd)), (2, .int (nI to)), (3, .int (nI k - nI 1))] [] n h'') → XW (x_rm d 0 0) k_Mod_roads L xs (x_mq 0 0 (qV n (fun h' => ∃ W' pk', (∀ c, W' c ↔ W c ∨ vRq (vRw ρ) l pt to c) ∧ rdS h h' m as ma stk rq tr Mm W' pk'))) 0 0 20 [(0, .ref m), (1, .int (nI dd)), (2, .int (nI to)), (3, .int (nI k))] [] n h' := by
    intro r
    induction r using Nat.strongRecOn with
    | ind r ihr =>
    intro k hk q
    induction q with
    | zero =>
      intro nx hnx P pk V h' S1 oW hC hpk hn hK
      have r4 := (bd k (by omega)).1
      have r8 := (hR _ r4).1
      have p0' := S1.2.1
      have x0' := (S1.1 (m + 1) (by omega) (by omega) (by omega)).trans x0
      have c1' := (S1.1 (m + 15) (by omega) (by omega) (by omega)).trans c1
      have c4' := S1.2.2.1
      refine xr_iload_n a_Mod_roads_20 rfl ?_
      refine xn_if_lt a_Mod_roads_21 (by omega) ?_
      refine xr_aload_n a_Mod_roads_24 rfl ?_
      apply xr_getf a_Mod_roads_25
      · (repeat' (first | assumption | exact va_up_self _ _ _ | refine x_lk (by omega) ?_))
      · rfl
      refine xr_iload_n a_Mod_roads_28 rfl ?_
      refine xr_dup2 a_Mod_roads_29 rfl rfl ?_
      apply xo_iaload a_Mod_roads_30
      · (repeat' (first | assumption | exact va_up_self _ _ _ | refine x_lk (by omega) ?_))
      · omega
      · omega
      refine xr_iconst a_Mod_roads_31 (v := nI 1) (by decide +kernel) ?_
      refine xr_iadd a_Mod_roads_32 ?_
      rw [oI_inc, hn]
      apply xo_iastore (o := some nx) a_Mod_roads_33
      · (repeat' (first | assumption | exact va_up_self _ _ _ | refine x_lk (by omega) ?_))
      · exact rfl
      · omega
      · omega
      refine xr_aload_n a_Mod_roads_34 rfl ?_
      apply xr_getf a_Mod_roads_35
      · (repeat' (first | assumption | exact va_up_self _ _ _ | refine x_lk (by omega) ?_))
      · rfl
      refine xr_iload_n a_Mod_roads_38 rfl ?_
      apply xo_iaload a_Mod_roads_39
      · (repeat' (first | assumption | exact va_up_self _ _ _ | refine x_lk (by omega) ?_))
      · omega
      · omega
      rw [up_self, show oI (some nx) = nI nx from rfl]
      refine xr_aload_n a_Mod_roads_40 rfl ?_
      apply xr_getf a_Mod_roads_41
      · (repeat' (first | assumption | exact va_up_self _ _ _ | refine x_lk (by omega) ?_))
      · rfl
      refine xr_aload_n a_Mod_roads_44 rfl ?_
      apply xr_getf a_Mod_roads_45
      · (repeat' (first | assumption | exact va_up_self _ _ _ | refine x_lk (by omega) ?_))
      · rfl
      refine xr_bipush a_Mod_roads_48 (v := nI 6) (by decide +kernel) ?_
      refine xr_iload_n a_Mod_roads_50 rfl ?_
      first | refine xn_imul a_Mod_roads_51 ?_ | refine xr_imul a_Mod_roads_51 ?_
      refine xr_iload_n a_Mod_roads_52 rfl ?_
      first | refine xn_iadd a_Mod_roads_53 ?_ | refine xr_iadd a_Mod_roads_53 ?_
      apply xn_iaload a_Mod_roads_54
      · (repeat' (first | assumption | exact va_up_self _ _ _ | refine x_lk (by omega) ?_))
      · omega
      · omega
      apply xn_iaload a_Mod_roads_55
      · (repeat' (first | assumption | exact va_up_self _ _ _ | refine x_lk (by omega) ?_))
      · omega
      · omega
      rw [(hρ _ r4).1]
      refine xn_icmp_lt a_Mod_roads_56 (by omega) (by omega) (fun b56 => ?_) (fun b56 => ?_)
      · omega
      · refine xr_iinc a_Mod_roads_59 rfl (x_dec _) (by decide) rfl ?_
        refine xr_goto a_Mod_roads_62 ?_
        refine xr_ls [(0, .ref m), (1, .int (nI dd)), (2, .int (nI to)), (3, .int (nI k - nI 1))] ⟨rfl, rfl, rfl, rfl, trivial⟩ ?_
        exact hK V _ _ (fun c => ⟨Or.inl, fun w => w.elim id (fun w => absurd w (sX_stop (show (ρ (lR (6 * dd + k))).1 ≤ nx by omega)))⟩) oW (S1.pick _) (fun i hi => by rw [up_ne (by omega)]; exact (hpk i hi).1)
    | succ q ihq =>
      intro nx hnx P pk V h' S1 oW hC hpk hn hK
      have r4 := (bd k (by omega)).1
      have r8 := (hR _ r4).1
      have p0' := S1.2.1
      have x0' := (S1.1 (m + 1) (by omega) (by omega) (by omega)).trans x0
      have x1' := (S1.1 (m + 2) (by omega) (by omega) (by omega)).trans x1
      have x2' := (S1.1 (m + 3) (by omega) (by omega) (by omega)).trans x2
      have c1' := (S1.1 (m + 15) (by omega) (by omega) (by omega)).trans c1
      have c2' := (S1.1 (m + 16) (by omega) (by omega) (by omega)).trans c2
      have c3' := (S1.1 (m + 17) (by omega) (by omega) (by omega)).trans c3
      have c4' := S1.2.2.1
      have hlt : nx < (ρ (lR (6 * dd + k))).1 := by omega
      have again : ∀ (W1 : Nat → Prop) (pk1 : Nat → Option Nat) (h1 : xH), (∀ c, W1 c ↔ V c ∨ (True ∧ ∃ θ, sEx (fun i => lA (6 * dd + i)) (fun i => lB (6 * dd + i)) (fun i x => rX (8 * lR (6 * dd + i) + x)) (fun i x => rY (8 * lR (6 * dd + i) + x)) (fun i => (ρ (lR (6 * dd + i))).1) (fun _ _ => True) to (va_up P k nx) (k + 1) θ ∧ c = (vCode (lR (6 * dd + to), lA (6 * dd + to), lB (6 * dd + to)) p) θ)) → (∀ c, W1 c → vOkc c) → rdS h h1 m as ma stk rq tr Mm W1 pk1 → (∀ i, i < k → pk1 i = some (P i)) → pk1 k = some nx → XW (x_rm d 0 0) k_Mod_roads L xs (x_mq 0 0 (qV n (fun h' => ∃ W' pk', (∀ c, W' c ↔ W c ∨ vRq (vRw ρ) l pt to c) ∧ rdS h h' m as ma stk rq tr Mm W' pk'))) 0 0 20 [(0, .ref m), (1, .int (nI dd)), (2, .int (nI to)), (3, .int (nI k))] [] n h1 := by
        intro W1 pk1 h1 e1 o1 s1 g1 g2
        exact ihq (nx + 1) (by omega) P pk1 W1 h1 s1 o1 hC (fun i hi => ⟨g1 i hi, (hpk i hi).2⟩) (by rw [g2]; rfl) (fun W' pk' h'' e2 => hK W' pk' h'' (sX_join hlt e1 e2))
      have hpk1 : ∀ i, i < k → va_up pk k (some nx) i = some (P i) := fun i hi => by rw [up_ne (by omega)]; exact (hpk i hi).1
      have eP : ∀ i, i ≤ k → va_up pk k (some nx) i = some (va_up P k nx i) := by
        intro i hi
        by_cases ei : i = k
        · rw [ei, up_self, up_self]
        · rw [up_ne ei, up_ne ei]; exact (hpk i (by omega)).1
      have eB : ∀ i, i ≤ k → va_up P k nx i < (ρ (lR (6 * dd + i))).1 := by
        intro i hi
        by_cases ei : i = k
        · rw [ei, up_self]; exact hlt
        · rw [up_ne ei]; exact (hpk i (by omega)).2
      have S2 := S1.pick (va_up pk k (some nx))
      have hC1 : vCon 16 (fun i => lA (6 * dd + i)) (fun i => lB (6 * dd + i)) (fun i => (fun i x => rX (8 * lR (6 * dd + i) + x)) i (va_up P k nx i)) (fun i => (fun i x => rY (8 * lR (6 * dd + i) + x)) i (va_up P k nx i)) k := vCon_congr (fun i hi => by rw [up_ne (by omega)]; exact ⟨rfl, rfl⟩) hC
      have cA := t_Mod_agrees (d := 1) (L := L) (xs := xs) (n := n) (h := va_up h' (m + 20) (cO 6 (va_up pk k (some nx)))) (dd := dd) (k := k) (P := va_up P k nx) (x_lk (by omega) p0') (x_lk (by omega) x1') (x_lk (by omega) x2') (x_lk (by omega) c1') (x_lk (by omega) c2') (x_lk (by omega) c3') (up_self _ _ _) hdd (by omega) (fun j hj => by
        have b := bd j (by omega)
        have v := rowv j (by omega) _ (eB j (by omega))
        exact ⟨b.1, by omega, by omega, eP j (by omega), v.1⟩) (fun j hj => by
        have v := rowv j (by omega) _ (eB j (by omega))
        exact ⟨by omega, by omega⟩) (by omega)
      refine xr_iload_n a_Mod_roads_20 rfl ?_
      refine xn_if_lt a_Mod_roads_21 (by omega) ?_
      refine xr_aload_n a_Mod_roads_24 rfl ?_
      apply xr_getf a_Mod_roads_25
      · (repeat' (first | assumption | exact va_up_self _ _ _ | refine x_lk (by omega) ?_))
      · rfl
      refine xr_iload_n a_Mod_roads_28 rfl ?_
      refine xr_dup2 a_Mod_roads_29 rfl rfl ?_
      apply xo_iaload a_Mod_roads_30
      · (repeat' (first | assumption | exact va_up_self _ _ _ | refine x_lk (by omega) ?_))
      · omega
      · omega
      refine xr_iconst a_Mod_roads_31 (v := nI 1) (by decide +kernel) ?_
      refine xr_iadd a_Mod_roads_32 ?_
      rw [oI_inc, hn]
      apply xo_iastore (o := some nx) a_Mod_roads_33
      · (repeat' (first | assumption | exact va_up_self _ _ _ | refine x_lk (by omega) ?_))
      · exact rfl
      · omega
      · omega
      refine xr_aload_n a_Mod_roads_34 rfl ?_
      apply xr_getf a_Mod_roads_35
      · (repeat' (first | assumption | exact va_up_self _ _ _ | refine x_lk (by omega) ?_))
      · rfl
      refine xr_iload_n a_Mod_roads_38 rfl ?_
      apply xo_iaload a_Mod_roads_39
      · (repeat' (first | assumption | exact va_up_self _ _ _ | refine x_lk (by omega) ?_))
      · omega
      · omega
      rw [up_self, show oI (some nx) = nI nx from rfl]
      refine xr_aload_n a_Mod_roads_40 rfl ?_
      apply xr_getf a_Mod_roads_41
      · (repeat' (first | assumption | exact va_up_self _ _ _ | refine x_lk (by omega) ?_))
      · rfl
      refine xr_aload_n a_Mod_roads_44 rfl ?_
      apply xr_getf a_Mod_roads_45
      · (repeat' (first | assumption | exact va_up_self _ _ _ | refine x_lk (by omega) ?_))
      · rfl
      refine xr_bipush a_Mod_roads_48 (v := nI 6) (by decide +kernel) ?_
      refine xr_iload_n a_Mod_roads_50 rfl ?_
      first | refine xn_imul a_Mod_roads_51 ?_ | refine xr_imul a_Mod_roads_51 ?_
      refine xr_iload_n a_Mod_roads_52 rfl ?_
      first | refine xn_iadd a_Mod_roads_53 ?_ | refine xr_iadd a_Mod_roads_53 ?_
      apply xn_iaload a_Mod_roads_54
      · (repeat' (first | assumption | exact va_up_self _ _ _ | refine x_lk (by omega) ?_))
      · omega
      · omega
      apply xn_iaload a_Mod_roads_55
      · (repeat' (first | assumption | exact va_up_self _ _ _ | refine x_lk (by omega) ?_))
      · omega
      · omega
      rw [(hρ _ r4).1]
      refine xn_icmp_lt a_Mod_roads_56 (by omega) (by omega) (fun b56 => ?_) (fun b56 => ?_)
      · refine xr_aload_n a_Mod_roads_65 rfl ?_
        refine xr_iload_n a_Mod_roads_66 rfl ?_
        refine xr_iload_n a_Mod_roads_67 rfl ?_
        refine xr_invV a_Mod_roads_68 (by (repeat' (first | assumption | exact va_up_self _ _ _ | refine x_lk (by omega) ?_))) (cA) rfl rfl (by omega) (by omega) (by omega) (Nat.le_of_ble_eq_true rfl) ?_
        rintro _ _ h1 ⟨rfl, rfl, rfl⟩
        refine xn_if_eq a_Mod_roads_71 (vB_lt31 _) (fun b71 => ?_) (fun b71 => ?_)
        · refine xr_ls [(0, .ref m), (1, .int (nI dd)), (2, .int (nI to)), (3, .int (nI k))] ⟨rfl, rfl, rfl, rfl, trivial⟩ ?_
          exact again V _ _ (fun c => ⟨Or.inl, fun w => w.elim id (fun ⟨_, θ, w, _⟩ => absurd (vCon_agr.mp (sEx_con w)).2 (vB_0 b71))⟩) oW S2 hpk1 (up_self _ _ _)
        · have hC2 := vCon_agr.mpr ⟨hC1, vB_1 b71⟩
          refine xr_iload_n a_Mod_roads_74 rfl ?_
          refine xr_iload_n a_Mod_roads_75 rfl ?_
          refine xr_iconst a_Mod_roads_76 (v := nI 1) (by decide +kernel) ?_
          first | refine xn_isub a_Mod_roads_77 (by omega) ?_ | refine xr_isub a_Mod_roads_77 ?_
          refine xn_icmp_ne a_Mod_roads_78 (by omega) (by omega) (fun b78 => ?_) (fun b78 => ?_)
          · obtain ⟨r', hr'⟩ : ∃ r', r = r' + 1 := ⟨r - 1, by omega⟩
            first | refine xn_iinc a_Mod_roads_90 rfl (by decide) rfl ?_ | refine xr_iinc a_Mod_roads_90 rfl rfl (by decide) rfl ?_
            refine xr_aload_n a_Mod_roads_93 rfl ?_
            apply xr_getf a_Mod_roads_94
            · (repeat' (first | assumption | exact va_up_self _ _ _ | refine x_lk (by omega) ?_))
            · rfl
            refine xr_iload_n a_Mod_roads_97 rfl ?_
            refine xr_iconst a_Mod_roads_98 (v := -1) (by decide +kernel) ?_
            apply xo_iastore (o := none) a_Mod_roads_99
            · (repeat' (first | assumption | exact va_up_self _ _ _ | refine x_lk (by omega) ?_))
            · exact rfl
            · omega
            · omega
            refine xr_goto a_Mod_roads_100 ?_
            refine xr_ls [(0, .ref m), (1, .int (nI dd)), (2, .int (nI to)), (3, .int (nI (k + 1)))] ⟨rfl, rfl, rfl, rfl, trivial⟩ ?_
            refine ihr r' (by omega) (k + 1) (by omega) (ρ (lR (6 * dd + (k + 1)))).1 0 (by omega) (va_up P k nx) _ V _ (S2.pick _) oW hC2 (fun i hi => ⟨by rw [up_ne (by omega)]; exact eP i (by omega), eB i (by omega)⟩) (by rw [up_self]; rfl) (fun W' pk' h'' e2 o2 s2 g2 => ?_)
            rw [show nI (k + 1) - nI 1 = nI k from pk_sub (by omega)]
            refine again W' pk' h'' (fun c => ?_) o2 s2 (fun i hi => ?_) ?_
            · rw [e2 c, ← sX_down (show k + 1 < to by omega)]
              exact ⟨fun w => w.elim Or.inl (fun w => Or.inr ⟨trivial, w⟩), fun w => w.elim Or.inl (fun w => Or.inr w.2)⟩
            · rw [g2 i (by omega), up_ne (by omega)]
            · rw [g2 k (by omega), up_self]
          · have ek : k + 1 = to := by omega
            have eB' : ∀ i, i < to → va_up P k nx i < (ρ (lR (6 * dd + i))).1 := fun i hi => eB i (by omega)
            obtain ⟨X, Y, g1, g2, g3, g4, g5, g6, g7⟩ := xy (va_up P k nx) eB'
            have bt := bd to hto
            have oc := (kc_code bt.1 hp4 g3 g6 g2 g5).1
            have cR := t_Mod_request (d := 1) (L := L) (xs := xs) (n := n) (dd := dd) (k := to) (P := va_up P k nx) (p := p) (X := X) (Y := Y) S2.2.1 (x_lk (by omega) x1') (x_lk (by omega) x2') (x_lk (by omega) c1') (x_lk (by omega) c2') (x_lk (by omega) c3') (up_self _ _ _) ((S2.1 (m + 18) (by omega) (by omega) (by omega)).trans cm) (pM.sm (S2.1 (m + 21) (by omega) (by omega) (by omega))) S2.2.2.2 hM oW hdd (by omega) (fun j hj => by
              have b := bd j (by omega)
              have v := rowv j (by omega) _ (eB' j hj)
              exact ⟨b.1, by omega, by omega, eP j (by omega), v.1⟩) bt.1 ⟨by omega, by omega⟩ (hmd.trans hp) hp4 g1 g2 g3 g4 g5 g6 (by omega)
            rw [ek] at hC2
            refine xr_aload_n a_Mod_roads_81 rfl ?_
            refine xr_iload_n a_Mod_roads_82 rfl ?_
            refine xr_iload_n a_Mod_roads_83 rfl ?_
            refine xr_invV a_Mod_roads_84 (by (repeat' (first | assumption | exact va_up_self _ _ _ | refine x_lk (by omega) ?_))) (cR) rfl rfl (by omega) (by omega) (by omega) (Nat.le_of_ble_eq_true rfl) ?_
            rintro _ _ h3 ⟨rfl, rfl, f3, z3, z4⟩
            refine xr_goto a_Mod_roads_87 ?_
            refine xr_ls [(0, .ref m), (1, .int (nI dd)), (2, .int (nI to)), (3, .int (nI k))] ⟨rfl, rfl, rfl, rfl, trivial⟩ ?_
            refine again _ (va_up pk k (some nx)) h3 (fun c => ?_) (fun c w => w.elim (oW c) (fun w => w ▸ oc)) ⟨fun q g1 g2 g3 => (f3 q (by omega) (by omega)).trans (S2.1 q g1 g2 g3), z3, (f3 _ (by omega) (by omega)).trans (up_self _ _ _), z4⟩ hpk1 (up_self _ _ _)
            have en : (∃ θ, sEx (fun i => lA (6 * dd + i)) (fun i => lB (6 * dd + i)) (fun i x => rX (8 * lR (6 * dd + i) + x)) (fun i x => rY (8 * lR (6 * dd + i) + x)) (fun i => (ρ (lR (6 * dd + i))).1) (fun _ _ => True) to (va_up P k nx) to θ ∧ c = (vCode (lR (6 * dd + to), lA (6 * dd + to), lB (6 * dd + to)) p) θ) ↔ c = ((lR (6 * dd + to) * 4 + p) * 16 + X) * 16 + Y := sEx_end (F := (fun i => lA (6 * dd + i))) (S := (fun i => lB (6 * dd + i))) (A := (fun i x => rX (8 * lR (6 * dd + i) + x))) (B := (fun i x => rY (8 * lR (6 * dd + i) + x))) hC2 g7
            rw [ek, en]
            exact ⟨fun w => w.elim Or.inl (fun w => Or.inr ⟨trivial, w⟩), fun w => w.elim Or.inl (fun w => Or.inr w.2)⟩
      · omega
  have p0 := S0.2.1
  have c4 := S0.2.2.1
  refine xr_iload_n a_Mod_roads_0 rfl ?_
  refine xn_if_ne a_Mod_roads_1 (by omega) (fun b1 => ?_) (fun b1 => ?_)
  · refine xr_iconst a_Mod_roads_11 (v := nI 0) (by decide +kernel) ?_
    refine xr_istore_n a_Mod_roads_12 (by decide) rfl ?_
    refine xr_aload_n a_Mod_roads_13 rfl ?_
    apply xr_getf a_Mod_roads_14
    · (repeat' (first | assumption | exact va_up_self _ _ _ | refine x_lk (by omega) ?_))
    · rfl
    refine xr_iconst a_Mod_roads_17 (v := nI 0) (by decide +kernel) ?_
    refine xr_iconst a_Mod_roads_18 (v := -1) (by decide +kernel) ?_
    apply xo_iastore (o := none) a_Mod_roads_19
    · (repeat' (first | assumption | exact va_up_self _ _ _ | refine x_lk (by omega) ?_))
    · exact rfl
    · omega
    · omega
    refine xr_ls [(0, .ref m), (1, .int (nI dd)), (2, .int (nI to)), (3, .int (nI 0))] ⟨rfl, rfl, rfl, rfl, trivial⟩ ?_
    refine try_ (to - 1) 0 (by omega) (ρ (lR (6 * dd + 0))).1 0 (by omega) (fun _ => 0) _ W _ (S0.pick _) hW vCon_0 (fun i hi => absurd hi (Nat.not_lt_zero i)) (by rw [up_self]; rfl) (fun W' pk' h'' e2 o2 s2 _ => ?_)
    refine xr_iload_n a_Mod_roads_20 rfl ?_
    refine xr_if_lt a_Mod_roads_21 (fun b21 => ?_) (fun b21 => ?_)
    · refine xr_return a_Mod_roads_103 rfl (by omega) (by omega) ?_
      refine ⟨rfl, rfl, W', pk', fun c => ?_, s2⟩
      rw [e2 c, ← out (fun _ => 0) c, ← sX_down (show 0 < to by omega)]
    · exact absurd (by decide) b21
  · subst b1
    obtain ⟨X, Y, g1, g2, g3, g4, g5, g6, g7⟩ := xy (fun _ => 0) (fun i hi => absurd hi (Nat.not_lt_zero i))
    have bt := bd 0 hto
    have cR := t_Mod_request (d := 1) (L := L) (xs := xs) (n := n) (dd := dd) (k := 0) (P := fun _ => 0) (p := p) (X := X) (Y := Y) p0 x1 x2 c1 c2 c3 c4 cm pM S0.2.2.2 hM hW hdd (by omega) (fun j hj => absurd hj (Nat.not_lt_zero j)) bt.1 ⟨by omega, by omega⟩ (hmd.trans hp) hp4 g1 g2 g3 g4 g5 g6 (by omega)
    refine xr_aload_n a_Mod_roads_4 rfl ?_
    refine xr_iload_n a_Mod_roads_5 rfl ?_
    refine xr_iconst a_Mod_roads_6 (v := nI 0) (by decide +kernel) ?_
    refine xr_invV a_Mod_roads_7 (by (repeat' (first | assumption | exact va_up_self _ _ _ | refine x_lk (by omega) ?_))) (cR) rfl rfl (by omega) (by omega) (by omega) (Nat.le_of_ble_eq_true rfl) ?_
    rintro _ _ h3 ⟨rfl, rfl, f3, z3, z4⟩
    refine xr_return a_Mod_roads_10 rfl (by omega) (by omega) ?_
    refine ⟨rfl, rfl, _, pk, fun c => ?_, fun q g1 g2 g3 => f3 q (by omega) (by omega), z3, (f3 _ (by omega) (by omega)).trans c4, z4⟩
    have en : (∃ θ, sEx (fun i => lA (6 * dd + i)) (fun i => lB (6 * dd + i)) (fun i x => rX (8 * lR (6 * dd + i) + x)) (fun i x => rY (8 * lR (6 * dd + i) + x)) (fun i => (ρ (lR (6 * dd + i))).1) (fun _ _ => True) 0 (fun _ => 0) 0 θ ∧ c = vCode (lR (6 * dd + 0), lA (6 * dd + 0), lB (6 * dd + 0)) p θ) ↔ c = ((lR (6 * dd + 0) * 4 + p) * 16 + X) * 16 + Y := sEx_end (F := (fun i => lA (6 * dd + i))) (S := (fun i => lB (6 * dd + i))) (A := (fun i x => rX (8 * lR (6 * dd + i) + x))) (B := (fun i x => rY (8 * lR (6 * dd + i) + x))) vCon_0 g7
    rw [← out (fun _ => 0) c, en]
end T69f

