/-! 08: the class's world -/
/-- an address is a node of the world: (0,_) the store, (1,_) the disk, (2,_) its places, (3,_) its runs of a level, (4,j) (5,j) (6,j) the entries j: object, kinds, values; j = 13: what is gathered in memory -/
def rw_nd (b a : Nat) : Nat × Nat :=
  if a < b then (9, 0) else if a = b then (0, 0) else if a < b + 4 then (4 + (a - b - 1), 13) else if a = b + 4 then (1, 0) else if a = b + 5 then (2, 0)
  else if a < b + 45 then (4 + (a - b - 6) % 3, (a - b - 6) / 3) else if a = b + 45 then (3, 0) else (9, 0)
def rw_eo (b j : Nat) : Nat := if j = 13 then b + 1 else b + 6 + 3 * j
def rw_ko (b j : Nat) : Nat := if j = 13 then b + 2 else b + 7 + 3 * j
def rw_vo (b j : Nat) : Nat := if j = 13 then b + 3 else b + 8 + 3 * j
theorem rw_nd_x (b : Nat) : rw_nd b b = (0, 0) := by simp [rw_nd]
theorem rw_nd_d (b : Nat) : rw_nd b (b + 4) = (1, 0) := by simp [rw_nd]
theorem rw_nd_p (b : Nat) : rw_nd b (b + 5) = (2, 0) := by simp [rw_nd]
theorem rw_nd_r (b : Nat) : rw_nd b (b + 45) = (3, 0) := by simp [rw_nd]
theorem rw_nd_e {b j : Nat} (h : j ≤ 13) : rw_nd b (rw_eo b j) = (4, j) := by
  unfold rw_nd rw_eo
  by_cases h1 : j = 13
  · subst h1; simp
  · rw [if_neg h1, if_neg (by omega), if_neg (by omega), if_neg (by omega), if_neg (by omega), if_neg (by omega), if_pos (by omega)]
    have e1 : (b + 6 + 3 * j - b - 6) % 3 = 0 := by omega
    have e2 : (b + 6 + 3 * j - b - 6) / 3 = j := by omega
    rw [e1, e2]
theorem rw_nd_k {b j : Nat} (h : j ≤ 13) : rw_nd b (rw_ko b j) = (5, j) := by
  unfold rw_nd rw_ko
  by_cases h1 : j = 13
  · subst h1; simp
  · rw [if_neg h1, if_neg (by omega), if_neg (by omega), if_neg (by omega), if_neg (by omega), if_neg (by omega), if_pos (by omega)]
    have e1 : (b + 7 + 3 * j - b - 6) % 3 = 1 := by omega
    have e2 : (b + 7 + 3 * j - b - 6) / 3 = j := by omega
    rw [e1, e2]
theorem rw_nd_v {b j : Nat} (h : j ≤ 13) : rw_nd b (rw_vo b j) = (6, j) := by
  unfold rw_nd rw_vo
  by_cases h1 : j = 13
  · subst h1; simp
  · rw [if_neg h1, if_neg (by omega), if_neg (by omega), if_neg (by omega), if_neg (by omega), if_neg (by omega), if_pos (by omega)]
    have e1 : (b + 8 + 3 * j - b - 6) % 3 = 2 := by omega
    have e2 : (b + 8 + 3 * j - b - 6) / 3 = j := by omega
    rw [e1, e2]
theorem rw_nd_s {b q : Nat} (h : (rw_nd b q).1 < 4) : (rw_nd b q).2 = 0 := by
  revert h
  unfold rw_nd
  repeat' split
  all_goals intro h
  all_goals first | rfl | (exfalso; simp only at h; omega)
theorem rw_nd_inj {b a a' : Nat} (h : rw_nd b a = rw_nd b a') (h9 : (rw_nd b a).1 ≠ 9) : a = a' := by
  revert h h9
  unfold rw_nd
  repeat' split
  all_goals intro h h9
  all_goals simp only [Prod.mk.injEq] at h
  all_goals first | omega | (exfalso; exact h9 rfl) | (exfalso; omega)
/-- the cell of a node -/
def rw_cell (G : rsG) (K V : Nat → Nat → Int32) (c P r : Nat → Nat) (md up wl cu : Int32) : Nat × Nat → Option va_E
  | (0, _) => some (.inr (0, [.ref (rw_eo (rsB G) 13), .ref (rsB G + 4), .int up, .int wl, .int cu]))
  | (1, _) => some (.inr (2, [.ref (rsB G + 5), .ref (rsB G + 45), .int md]))
  | (2, _) => some (.inl (G.2.2.2.2.2, 13, .inr (.inr (.inr (.inr (fun i => some (rw_eo (rsB G) (P i))))))))
  | (3, _) => some (.inl (G.2.2.2.1, 3, .inl (fun i => nI (r i))))
  | (4, j) => some (.inr (1, [.ref (rw_ko (rsB G) j), .ref (rw_vo (rsB G) j), .int (nI (c j))]))
  | (5, j) => some (.inl (G.2.2.2.1, 100, .inl (K j)))
  | (6, j) => some (.inl (G.2.2.2.1, 100, .inl (V j)))
  | _ => none
/-- the class's world, over another world -/
def rwd (G : rsG) (K V : Nat → Nat → Int32) (c P r : Nat → Nat) (md up wl cu : Int32) (hf : rsH) : rsH := fun a => match rw_cell G K V c P r md up wl cu (rw_nd (rsB G) a) with
  | some e => some e
  | none => hf a
section RSW
variable {G : rsG} {K V K' V' : Nat → Nat → Int32} {c P r c' P' r' : Nat → Nat} {md up wl cu md' up' wl' cu' : Int32} {hf : rsH}
theorem rw_at {a : Nat} {n : Nat × Nat} {e : va_E} (hn : rw_nd (rsB G) a = n) (he : rw_cell G K V c P r md up wl cu n = some e) : rwd G K V c P r md up wl cu hf a = some e := by
  unfold rwd
  rw [hn, he]
theorem rw_set {a : Nat} {n : Nat × Nat} {e : va_E} (hn : rw_nd (rsB G) a = n) (h9 : n.1 ≠ 9) (he : rw_cell G K' V' c' P' r' md' up' wl' cu' n = some e) (ho : ∀ q, q ≠ n → rw_cell G K' V' c' P' r' md' up' wl' cu' q = rw_cell G K V c P r md up wl cu q) :
    rs_up (rwd G K V c P r md up wl cu hf) a e = rwd G K' V' c' P' r' md' up' wl' cu' hf := by
  funext q
  unfold rs_up
  by_cases hq : q = a
  · subst hq
    rw [if_pos rfl]
    exact (rw_at hn he).symm
  · rw [if_neg hq]
    unfold rwd
    rw [ho]
    intro h1
    exact hq (rw_nd_inj (h1.trans hn.symm) (by rw [h1]; exact h9))
theorem rw_x : rwd G K V c P r md up wl cu hf (rsB G) = some (.inr (0, [.ref (rw_eo (rsB G) 13), .ref (rsB G + 4), .int up, .int wl, .int cu])) := rw_at (rw_nd_x _) rfl
theorem rw_d : rwd G K V c P r md up wl cu hf (rsB G + 4) = some (.inr (2, [.ref (rsB G + 5), .ref (rsB G + 45), .int md])) := rw_at (rw_nd_d _) rfl
theorem rw_p : rwd G K V c P r md up wl cu hf (rsB G + 5) = some (.inl (G.2.2.2.2.2, 13, .inr (.inr (.inr (.inr (fun i => some (rw_eo (rsB G) (P i)))))))) := rw_at (rw_nd_p _) rfl
theorem rw_r : rwd G K V c P r md up wl cu hf (rsB G + 45) = some (.inl (G.2.2.2.1, 3, .inl (fun i => nI (r i)))) := rw_at (rw_nd_r _) rfl
theorem rw_e {j : Nat} (hj : j ≤ 13) : rwd G K V c P r md up wl cu hf (rw_eo (rsB G) j) = some (.inr (1, [.ref (rw_ko (rsB G) j), .ref (rw_vo (rsB G) j), .int (nI (c j))])) := rw_at (rw_nd_e hj) rfl
theorem rw_k {j : Nat} (hj : j ≤ 13) : rwd G K V c P r md up wl cu hf (rw_ko (rsB G) j) = some (.inl (G.2.2.2.1, 100, .inl (K j))) := rw_at (rw_nd_k hj) rfl
theorem rw_v {j : Nat} (hj : j ≤ 13) : rwd G K V c P r md up wl cu hf (rw_vo (rsB G) j) = some (.inl (G.2.2.2.1, 100, .inl (V j))) := rw_at (rw_nd_v hj) rfl
theorem rw_set_x : rs_up (rwd G K V c P r md up wl cu hf) (rsB G) (.inr (0, [.ref (rw_eo (rsB G) 13), .ref (rsB G + 4), .int up', .int wl', .int cu'])) = rwd G K V c P r md up' wl' cu' hf := by
  unfold rs_up
  funext q
  by_cases hq : q = rsB G
  · subst hq; rw [if_pos rfl, rw_x]
  · rw [if_neg hq]
    unfold rwd
    have h0 : rw_nd (rsB G) q ≠ (0, 0) := fun h1 => hq (rw_nd_inj (h1.trans (rw_nd_x _).symm) (by rw [h1]; decide))
    have h1 : (rw_nd (rsB G) q).1 ≠ 0 := fun h2 => h0 (Prod.ext h2 (rw_nd_s (by rw [h2]; decide)))
    generalize rw_nd (rsB G) q = w at h1
    obtain ⟨t, j⟩ := w
    match t, h1 with
    | 1, _ => rfl
    | 2, _ => rfl
    | 3, _ => rfl
    | 4, _ => rfl
    | 5, _ => rfl
    | 6, _ => rfl
    | t + 7, _ => rfl
theorem rw_set_d : rs_up (rwd G K V c P r md up wl cu hf) (rsB G + 4) (.inr (2, [.ref (rsB G + 5), .ref (rsB G + 45), .int md'])) = rwd G K V c P r md' up wl cu hf := by
  unfold rs_up
  funext q
  by_cases hq : q = rsB G + 4
  · subst hq; rw [if_pos rfl, rw_d]
  · rw [if_neg hq]
    unfold rwd
    have h0 : rw_nd (rsB G) q ≠ (1, 0) := fun h1 => hq (rw_nd_inj (h1.trans (rw_nd_d _).symm) (by rw [h1]; decide))
    have h1 : (rw_nd (rsB G) q).1 ≠ 1 := fun h2 => h0 (Prod.ext h2 (rw_nd_s (by rw [h2]; decide)))
    generalize rw_nd (rsB G) q = w at h1
    obtain ⟨t, j⟩ := w
    match t, h1 with
    | 0, _ => rfl
    | 2, _ => rfl
    | 3, _ => rfl
    | 4, _ => rfl
    | 5, _ => rfl
    | 6, _ => rfl
    | t + 7, _ => rfl
theorem rw_set_p {i j : Nat} : rs_up (rwd G K V c P r md up wl cu hf) (rsB G + 5) (.inl (G.2.2.2.2.2, 13, .inr (.inr (.inr (.inr (va_up (fun i => some (rw_eo (rsB G) (P i))) i (some (rw_eo (rsB G) j)))))))) = rwd G K V c (va_up P i j) r md up wl cu hf := by
  have e0 : (va_up (fun i => some (rw_eo (rsB G) (P i))) i (some (rw_eo (rsB G) j))) = fun q => some (rw_eo (rsB G) (va_up P i j q)) := by
    funext q
    unfold va_up
    by_cases h : q = i
    · rw [if_pos h, if_pos h]
    · rw [if_neg h, if_neg h]
  rw [e0]
  unfold rs_up
  funext q
  by_cases hq : q = rsB G + 5
  · subst hq; rw [if_pos rfl, rw_p]
  · rw [if_neg hq]
    unfold rwd
    have h0 : rw_nd (rsB G) q ≠ (2, 0) := fun h1 => hq (rw_nd_inj (h1.trans (rw_nd_p _).symm) (by rw [h1]; decide))
    have h1 : (rw_nd (rsB G) q).1 ≠ 2 := fun h2 => h0 (Prod.ext h2 (rw_nd_s (by rw [h2]; decide)))
    generalize rw_nd (rsB G) q = w at h1
    obtain ⟨t, j⟩ := w
    match t, h1 with
    | 0, _ => rfl
    | 1, _ => rfl
    | 3, _ => rfl
    | 4, _ => rfl
    | 5, _ => rfl
    | 6, _ => rfl
    | t + 7, _ => rfl
theorem rw_set_r {i x : Nat} : rs_up (rwd G K V c P r md up wl cu hf) (rsB G + 45) (.inl (G.2.2.2.1, 3, .inl (upd (fun i => nI (r i)) i (nI x)))) = rwd G K V c P (va_up r i x) md up wl cu hf := by
  have e0 : (upd (fun i => nI (r i)) i (nI x)) = fun q => nI (va_up r i x q) := by
    funext q
    unfold upd va_up
    by_cases h : q = i
    · rw [if_pos h, if_pos h]
    · rw [if_neg h, if_neg h]
  rw [e0]
  unfold rs_up
  funext q
  by_cases hq : q = rsB G + 45
  · subst hq; rw [if_pos rfl, rw_r]
  · rw [if_neg hq]
    unfold rwd
    have h0 : rw_nd (rsB G) q ≠ (3, 0) := fun h1 => hq (rw_nd_inj (h1.trans (rw_nd_r _).symm) (by rw [h1]; decide))
    have h1 : (rw_nd (rsB G) q).1 ≠ 3 := fun h2 => h0 (Prod.ext h2 (rw_nd_s (by rw [h2]; decide)))
    generalize rw_nd (rsB G) q = w at h1
    obtain ⟨t, j⟩ := w
    match t, h1 with
    | 0, _ => rfl
    | 1, _ => rfl
    | 2, _ => rfl
    | 4, _ => rfl
    | 5, _ => rfl
    | 6, _ => rfl
    | t + 7, _ => rfl
theorem rw_set_e {j x : Nat} (hj : j ≤ 13) : rs_up (rwd G K V c P r md up wl cu hf) (rw_eo (rsB G) j) (.inr (1, [.ref (rw_ko (rsB G) j), .ref (rw_vo (rsB G) j), .int (nI x)])) = rwd G K V (va_up c j x) P r md up wl cu hf := by
  refine rw_set (rw_nd_e hj) (by simp) (by simp [rw_cell, va_up]) fun q hq => ?_
  obtain ⟨t, i⟩ := q
  match t with
  | 0 => rfl
  | 1 => rfl
  | 2 => rfl
  | 3 => rfl
  | 4 =>
    have : i ≠ j := fun h => hq (by rw [h])
    simp [rw_cell, va_up, this]
  | 5 => rfl
  | 6 => rfl
  | t + 7 => rfl
theorem rw_set_k {j : Nat} {f : Nat → Int32} (hj : j ≤ 13) : rs_up (rwd G K V c P r md up wl cu hf) (rw_ko (rsB G) j) (.inl (G.2.2.2.1, 100, .inl f)) = rwd G (va_up K j f) V c P r md up wl cu hf := by
  refine rw_set (rw_nd_k hj) (by simp) (by simp [rw_cell, va_up]) fun q hq => ?_
  obtain ⟨t, i⟩ := q
  match t with
  | 0 => rfl
  | 1 => rfl
  | 2 => rfl
  | 3 => rfl
  | 4 => rfl
  | 5 =>
    have : i ≠ j := fun h => hq (by rw [h])
    simp [rw_cell, va_up, this]
  | 6 => rfl
  | t + 7 => rfl
theorem rw_set_v {j : Nat} {f : Nat → Int32} (hj : j ≤ 13) : rs_up (rwd G K V c P r md up wl cu hf) (rw_vo (rsB G) j) (.inl (G.2.2.2.1, 100, .inl f)) = rwd G K (va_up V j f) c P r md up wl cu hf := by
  refine rw_set (rw_nd_v hj) (by simp) (by simp [rw_cell, va_up]) fun q hq => ?_
  obtain ⟨t, i⟩ := q
  match t with
  | 0 => rfl
  | 1 => rfl
  | 2 => rfl
  | 3 => rfl
  | 4 => rfl
  | 5 => rfl
  | 6 =>
    have : i ≠ j := fun h => hq (by rw [h])
    simp [rw_cell, va_up, this]
  | t + 7 => rfl
end RSW
