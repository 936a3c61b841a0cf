/-! choices by their number -/
theorem vFlat_get {α β : Type} {f : α → List β} {n : Nat} (hn : 0 < n) : ∀ (l : List α), (∀ a ∈ l, (f a).length = n) → ∀ d, (l.flatMap f)[d]? = (l[d / n]?).bind fun a => (f a)[d % n]?
  | [], _, d => by simp
  | a :: l, hf, d => by
    rw [List.flatMap_cons]
    have ha := hf a List.mem_cons_self
    by_cases hd : d < n
    · rw [List.getElem?_append_left (by rw [ha]; exact hd), Nat.div_eq_of_lt hd, Nat.mod_eq_of_lt hd]
      rfl
    · rw [List.getElem?_append_right (by rw [ha]; omega), ha, vFlat_get hn l (fun b hb => hf b (List.mem_cons_of_mem _ hb)) (d - n)]
      have e1 : d / n = (d - n) / n + 1 := by
        rw [Nat.div_eq d n, if_pos ⟨hn, by omega⟩]
      have e2 : d % n = (d - n) % n := Nat.mod_eq_sub_mod (by omega)
      rw [e1, e2, List.getElem?_cons_succ]
def vPr (V : vV) : List vA → Nat
  | [] => 1
  | c :: q => (V c.1).length * vPr V q
theorem vCh_len (V : vV) : ∀ q, (vCh V q).length = vPr V q
  | [] => rfl
  | c :: q => by
    show ((V c.1).flatMap fun r => (vCh V q).map (r :: ·)).length = (V c.1).length * vPr V q
    rw [List.length_flatMap]
    have : (V c.1).map (fun r => ((vCh V q).map (r :: ·)).length) = (V c.1).map fun _ => vPr V q := by
      apply List.map_congr_left
      intro r _
      rw [List.length_map, vCh_len V q]
    rw [this]
    induction V c.1 with
    | nil => simp
    | cons r rs ih => rw [List.map_cons, List.sum_cons, ih, List.length_cons, Nat.add_mul, Nat.one_mul, Nat.add_comm]
def vPk (V : vV) : List vA → Nat → List (List vA)
  | [], _ => []
  | c :: q, d => (V c.1).getD (d / vPr V q % (V c.1).length) [] :: vPk V q d
theorem vPk_mod (V : vV) : ∀ (q : List vA) (s d : Nat), vPk V q (d % (vPr V q * s)) = vPk V q d
  | [], _, _ => rfl
  | c :: q, s, d => by
    show (V c.1).getD (d % ((V c.1).length * vPr V q * s) / vPr V q % (V c.1).length) [] :: vPk V q (d % ((V c.1).length * vPr V q * s)) = (V c.1).getD (d / vPr V q % (V c.1).length) [] :: vPk V q d
    have e : (V c.1).length * vPr V q * s = vPr V q * ((V c.1).length * s) := by rw [Nat.mul_comm (V c.1).length, Nat.mul_assoc]
    rw [e, vPk_mod V q, Nat.mod_mul_right_div_self, Nat.mod_mod_of_dvd _ (Nat.dvd_mul_right _ _)]
theorem vCh_get (V : vV) : ∀ (q : List vA) (d : Nat), d < vPr V q → (vCh V q)[d]? = some (vPk V q d)
  | [], d, h => by
    have : d = 0 := by
      have : d < 1 := h
      omega
    rw [this]; rfl
  | c :: q, d, h => by
    have h' : d < (V c.1).length * vPr V q := h
    have hp : 0 < vPr V q := by
      cases hz : vPr V q with
      | zero => rw [hz, Nat.mul_zero] at h'; omega
      | succ k => omega
    show ((V c.1).flatMap fun r => (vCh V q).map (r :: ·))[d]? = some ((V c.1).getD (d / vPr V q % (V c.1).length) [] :: vPk V q d)
    rw [vFlat_get hp _ (fun r _ => by rw [List.length_map, vCh_len])]
    have hd : d / vPr V q < (V c.1).length := Nat.div_lt_of_lt_mul (by rw [Nat.mul_comm]; exact h')
    rw [List.getElem?_eq_getElem hd, Nat.mod_eq_of_lt hd, List.getD_eq_getElem?_getD, List.getElem?_eq_getElem hd]
    show ((vCh V q).map (_ :: ·))[d % vPr V q]? = some (_ :: _)
    rw [List.getElem?_map, vCh_get V q _ (Nat.mod_lt _ hp)]
    have := vPk_mod V q 1 d
    rw [Nat.mul_one] at this
    rw [this]
    rfl
