/-! 24: the tie of the class's state and the reference's state, and that the operations keep it -/
theorem rp_cnt_cg {p q : Nat → Bool} : ∀ {n : Nat}, (∀ k, k < n → p k = q k) → rp_cnt p n = rp_cnt q n
  | 0, _ => rfl
  | n + 1, h => by
    show rp_cnt p n + _ = rp_cnt q n + _
    rw [rp_cnt_cg (fun k hk => h k (by omega)), h n (by omega)]
theorem rp_sum_cg {f g : Nat → Nat} : ∀ {n : Nat}, (∀ k, k < n → f k = g k) → rp_sum f n = rp_sum g n
  | 0, _ => rfl
  | n + 1, h => by
    show rp_sum f n + _ = rp_sum g n + _
    rw [rp_sum_cg (fun k hk => h k (by omega)), h n (by omega)]
theorem rp_find_cg {p q : Nat → Bool} : ∀ {n : Nat}, (∀ k, k < n → p k = q k) → rp_find p n = rp_find q n
  | 0, _ => rfl
  | n + 1, h => by
    show (match rp_find p n with | some x => some x | none => if p n = true then some n else none) = (match rp_find q n with | some x => some x | none => if q n = true then some n else none)
    rw [rp_find_cg (fun k hk => h k (by omega)), h n (by omega)]
theorem rp_cnt_add {p q s : Nat → Bool} : ∀ {n : Nat}, (∀ k, k < n → (if p k = true then 1 else 0) = (if q k = true then 1 else 0) + (if s k = true then 1 else 0)) → rp_cnt p n = rp_cnt q n + rp_cnt s n
  | 0, _ => rfl
  | n + 1, h => by
    have h1 := rp_cnt_add (p := p) (q := q) (s := s) (n := n) (fun k hk => h k (by omega))
    have h2 := h n (by omega)
    show rp_cnt p n + _ = (rp_cnt q n + _) + (rp_cnt s n + _)
    omega
theorem rp_cnt_iv (a b : Nat) : ∀ n, rp_cnt (fun i => decide (a ≤ i ∧ i < b)) n = min n b - min n a
  | 0 => by show 0 = _; omega
  | n + 1 => by
    have h1 := rp_cnt_iv a b n
    by_cases h : a ≤ n ∧ n < b
    · rw [rp_cnt_t (by simpa using h), h1]; omega
    · rw [rp_cnt_f (by simpa using h), h1]; omega
def rp_3 (x : Int32) : Prop := x = 0 ∨ x = 1 ∨ x = 2
theorem rp_3p {x : Int32} (h : rp_3 x) : decide (0 < x) = !decide (x = 0) := by
  rcases h with h | h | h <;> subst h <;> decide
abbrev rp_nz (f : Nat → Int32) : Nat → Bool := fun k => !decide (f k = 0)
def rp_le (r : Nat → Nat) (i : Nat) : Nat := if i < r 0 then 0 else if i < r 0 + r 1 then 1 else 2
theorem rp_s1 (r : Nat → Nat) : rp_sum r 1 = r 0 := by show 0 + r 0 = _; omega
theorem rp_s2 (r : Nat → Nat) : rp_sum r 2 = r 0 + r 1 := by show 0 + r 0 + r 1 = _; omega
theorem rp_s3 (r : Nat → Nat) : rp_sum r 3 = r 0 + r 1 + r 2 := by show 0 + r 0 + r 1 + r 2 = _; omega
theorem rp_le2 (r : Nat → Nat) (i : Nat) : rp_le r i ≤ 2 := by
  unfold rp_le
  split
  · omega
  · split <;> omega
/-- the tie: md, up, the limit, the cursor are the same on both sides -/
def rj (K V S T : Nat → Nat → Int32) (c P r lv : Nat → Nat) (md up wl cu : Int32) : Prop :=
  (md = 0 ∨ md = 1) ∧ (up = 0 ∨ up = 1) ∧ (wl = -1 ∨ 0 ≤ wl) ∧ rp_sum r 3 ≤ 12 ∧ (∀ i, i < rp_sum r 3 → lv i = rp_le r i)
  ∧ (∀ i, i < 13 → P i ≤ 12) ∧ (∀ i j, i < 13 → j < 13 → P i = P j → i = j)
  ∧ (∀ i, i < rp_sum r 3 → ∀ k, k < 100 → K (P i) k = S i k ∧ (¬ S i k = 0 → V (P i) k = T i k))
  ∧ (∀ k, k < 100 → K 13 k = S 12 k ∧ (¬ S 12 k = 0 → V 13 k = T 12 k))
  ∧ (∀ j, j ≤ 13 → ∀ k, k < 100 → rp_3 (K j k)) ∧ (∀ j, j ≤ 13 → c j = rp_cnt (rp_nz (K j)) 100)
  ∧ (cu = -1 ∨ ∃ key, key < 100 ∧ cu = nI key ∧ rm_th S (rp_sum r 3) key = 1)
  ∧ (up = 0 → ∀ k, k < 100 → S 12 k = 0) ∧ c 13 ≤ 8
theorem rm_nw_some {S : Nat → Nat → Int32} {mn key j : Nat} (h : rm_nw S mn key = some j) : (j < mn ∨ j = 12) ∧ 0 < S j key := by
  unfold rm_nw at h
  by_cases h0 : 0 < S 12 key
  · rw [if_pos h0] at h; cases h; exact ⟨Or.inr rfl, h0⟩
  · rw [if_neg h0] at h
    obtain ⟨g1, g2, _⟩ := rp_find_some h
    exact ⟨Or.inl g1, by simpa using g2⟩
theorem rm_nw_cg {S S1 : Nat → Nat → Int32} {mn key : Nat} (h : ∀ i, i < mn ∨ i = 12 → S1 i key = S i key) : rm_nw S1 mn key = rm_nw S mn key := by
  unfold rm_nw
  rw [h 12 (Or.inr rfl), rp_find_cg (fun k hk => by rw [h k (Or.inl hk)])]
theorem rm_th_cg {S S1 : Nat → Nat → Int32} {mn key : Nat} (h : ∀ i, i < mn ∨ i = 12 → S1 i key = S i key) : rm_th S1 mn key = rm_th S mn key := by
  unfold rm_th
  rw [rm_nw_cg h]
  cases hn : rm_nw S mn key with
  | none => rfl
  | some j =>
    show (if S1 j key = 1 then (1 : Int32) else 0) = if S j key = 1 then 1 else 0
    rw [h j (rm_nw_some hn).1]
section RJ
variable {K V S T K1 V1 S1 T1 : Nat → Nat → Int32} {c P r lv c1 P1 r1 lv1 : Nat → Nat} {md up wl cu : Int32}
theorem rj_sz (h : rj K V S T c P r lv md up wl cu) {i : Nat} (hi : i < rp_sum r 3) : rm_sz S i = c (P i) := by
  obtain ⟨hmd, hup, hwl, hs, hlv, hP, hI, hK, hM, h3, hc, hcu, hdn, h8⟩ := h
  have hp := hP i (by omega)
  rw [hc (P i) (by omega)]
  exact rp_cnt_cg (fun k hk => by rw [← (hK i hi k hk).1]; exact rp_3p (h3 (P i) (by omega) k hk))
theorem rj_sz12 (h : rj K V S T c P r lv md up wl cu) : rm_sz S 12 = c 13 := by
  obtain ⟨hmd, hup, hwl, hs, hlv, hP, hI, hK, hM, h3, hc, hcu, hdn, h8⟩ := h
  rw [hc 13 (by omega)]
  exact rp_cnt_cg (fun k hk => by rw [← (hM k hk).1]; exact rp_3p (h3 13 (by omega) k hk))
theorem rj_free (h : rj K V S T c P r lv md up wl cu) : rm_free S (rp_sum r 3) = rp_blk c P (rp_sum r 3) :=
  rp_sum_cg (fun i hi => by rw [rj_sz h hi])
theorem rj_nw (h : rj K V S T c P r lv md up wl cu) {key : Nat} (hk : key < 100) : rp_nw K P (rp_sum r 3) key = (rm_nw S (rp_sum r 3) key).map (fun i => if i = 12 then 13 else P i) := by
  obtain ⟨hmd, hup, hwl, hs, hlv, hP, hI, hK, hM, h3, hc, hcu, hdn, h8⟩ := h
  have e13 := rp_3p (h3 13 (by omega) key hk)
  unfold rp_nw rm_nw
  rw [← (hM key hk).1]
  by_cases h0 : K 13 key = 0
  · have h1 : ¬ 0 < K 13 key := by rw [h0]; decide
    rw [if_pos h0, if_neg h1]
    rw [rp_find_cg (q := fun i => decide (0 < S i key)) (fun i hi => by
      have hp := hP i (by omega)
      rw [← (hK i hi key hk).1]; exact (rp_3p (h3 (P i) (by omega) key hk)).symm)]
    cases hf : rp_find (fun i => decide (0 < S i key)) (rp_sum r 3) with
    | none => rfl
    | some x =>
      have hx := (rp_find_some hf).1
      show some (P x) = some (if x = 12 then 13 else P x)
      rw [if_neg (by omega)]
  · have h1 : 0 < K 13 key := by
      have : decide (K 13 key = 0) = false := by simpa using h0
      rw [this] at e13
      simpa using e13
    rw [if_neg h0, if_pos h1]
    rfl
theorem rj_th (h : rj K V S T c P r lv md up wl cu) {key : Nat} (hk : key < 100) : rp_th K P (rp_sum r 3) key = rm_th S (rp_sum r 3) key := by
  unfold rp_th rm_th
  rw [rj_nw h hk]
  obtain ⟨hmd, hup, hwl, hs, hlv, hP, hI, hK, hM, h3, hc, hcu, hdn, h8⟩ := h
  cases hn : rm_nw S (rp_sum r 3) key with
  | none => rfl
  | some j =>
    show (if K (if j = 12 then 13 else P j) key = 1 then (1 : Int32) else 0) = if S j key = 1 then 1 else 0
    by_cases hj : j = 12
    · subst hj; rw [if_pos rfl, (hM key hk).1]
    · rw [if_neg hj, (hK j ((rm_nw_some hn).1.resolve_right hj) key hk).1]
theorem rj_vz (h : rj K V S T c P r lv md up wl cu) {key : Nat} (hk : key < 100) : rp_vz K V P (rp_sum r 3) key = rm_vz S T (rp_sum r 3) key := by
  unfold rp_vz rm_vz
  rw [rj_nw h hk]
  obtain ⟨hmd, hup, hwl, hs, hlv, hP, hI, hK, hM, h3, hc, hcu, hdn, h8⟩ := h
  cases hn : rm_nw S (rp_sum r 3) key with
  | none => rfl
  | some j =>
    have h0 : ¬ S j key = 0 := fun e => by
      have := (rm_nw_some hn).2
      rw [e] at this
      exact absurd this (by decide)
    show V (if j = 12 then 13 else P j) key = T j key
    by_cases hj : j = 12
    · subst hj; rw [if_pos rfl, (hM key hk).2 h0]
    · rw [if_neg hj, (hK j ((rm_nw_some hn).1.resolve_right hj) key hk).2 h0]
theorem rj_runs (h : rj K V S T c P r lv md up wl cu) {ll : Nat} (hl : ll < 3) : rp_cnt (fun i => decide (nI (lv i) = nI ll)) (rp_sum r 3) = r ll := by
  obtain ⟨hmd, hup, hwl, hs, hlv, hP, hI, hK, hM, h3, hc, hcu, hdn, h8⟩ := h
  have h0 : ∀ i, i < rp_sum r 3 → decide (nI (lv i) = nI ll) = decide (rp_le r i = ll) := fun i hi => by
    rw [hlv i hi]
    by_cases e : rp_le r i = ll
    · simp [e]
    · have := rp_le2 r i
      have := rp_ne e (by omega) (by omega)
      simp [e, this]
  rw [rp_cnt_cg h0]
  have hs3 := rp_s3 r
  have h1 : ∀ a b, (∀ i, i < rp_sum r 3 → (rp_le r i = ll ↔ a ≤ i ∧ i < b)) → rp_cnt (fun i => decide (rp_le r i = ll)) (rp_sum r 3) = min (rp_sum r 3) b - min (rp_sum r 3) a := fun a b hh => by
    rw [← rp_cnt_iv a b]
    exact rp_cnt_cg (fun i hi => by simp only [hh i hi])
  match ll, hl with
  | 0, _ =>
    rw [h1 0 (r 0) (fun i hi => by unfold rp_le; split <;> first | omega | (split <;> omega))]
    omega
  | 1, _ =>
    rw [h1 (r 0) (r 0 + r 1) (fun i hi => by unfold rp_le; split <;> first | omega | (split <;> omega))]
    omega
  | 2, _ =>
    rw [h1 (r 0 + r 1) (rp_sum r 3) (fun i hi => by unfold rp_le; split <;> first | omega | (split <;> omega))]
    omega
theorem rj_begin (h : rj K V S T c P r lv md up wl cu) {ll : Nat} (hl : ll < 3) : (∀ i, i < rp_sum r ll → nI (lv i) < nI ll) ∧ (rp_sum r ll < rp_sum r 3 → ¬ nI (lv (rp_sum r ll)) < nI ll) ∧ rp_sum r ll + r ll ≤ rp_sum r 3 := by
  obtain ⟨hmd, hup, hwl, hs, hlv, hP, hI, hK, hM, h3, hc, hcu, hdn, h8⟩ := h
  have hs3 := rp_s3 r
  have hs2 := rp_s2 r
  have hs1 := rp_s1 r
  have hs0 : rp_sum r 0 = 0 := rfl
  have key : (∀ i, i < rp_sum r ll → i < rp_sum r 3 ∧ rp_le r i < ll) ∧ (rp_sum r ll < rp_sum r 3 → ll ≤ rp_le r (rp_sum r ll)) ∧ rp_sum r ll + r ll ≤ rp_sum r 3 := by
    match ll, hl with
    | 0, _ => exact ⟨fun i hi => by omega, fun _ => by omega, by omega⟩
    | 1, _ => exact ⟨fun i hi => ⟨by omega, by unfold rp_le; rw [if_pos (by omega)]; omega⟩, fun _ => by unfold rp_le; rw [if_neg (by omega)]; split <;> omega, by omega⟩
    | 2, _ => exact ⟨fun i hi => ⟨by omega, by unfold rp_le; split <;> first | omega | (split <;> omega)⟩, fun _ => by unfold rp_le; rw [if_neg (by omega), if_neg (by omega)]; omega, by omega⟩
  refine ⟨fun i hi => ?_, fun hlt => ?_, key.2.2⟩
  · obtain ⟨a, b⟩ := key.1 i hi
    rw [hlv i a]
    exact nI_lt b (by omega)
  · rw [hlv _ hlt]
    have := rp_le2 r (rp_sum r ll)
    exact Int32.not_lt.mpr (nI_le (key.2.1 hlt) (by omega))
theorem rj_c100 (h : rj K V S T c P r lv md up wl cu) : ∀ j, j ≤ 13 → c j ≤ 100 := by
  obtain ⟨hmd, hup, hwl, hs, hlv, hP, hI, hK, hM, h3, hc, hcu, hdn, h8⟩ := h
  intro j hj
  rw [hc j hj]
  exact rp_cnt_bd _ 100
theorem rj_cu (h : rj K V S T c P r lv md up wl cu) : rj K V S T c P r lv md up wl (-1) := by
  obtain ⟨hmd, hup, hwl, hs, hlv, hP, hI, hK, hM, h3, hc, hcu, hdn, h8⟩ := h
  exact ⟨hmd, hup, hwl, hs, hlv, hP, hI, hK, hM, h3, hc, Or.inl rfl, hdn, h8⟩
theorem rj_at (h : rj K V S T c P r lv md up wl cu) {x : Nat} (hx : x < 100) (h1 : rm_th S (rp_sum r 3) x = 1) : rj K V S T c P r lv md up wl (nI x) := by
  obtain ⟨hmd, hup, hwl, hs, hlv, hP, hI, hK, hM, h3, hc, hcu, hdn, h8⟩ := h
  exact ⟨hmd, hup, hwl, hs, hlv, hP, hI, hK, hM, h3, hc, Or.inr ⟨x, hx, rfl, h1⟩, hdn, h8⟩
theorem rj_wl (h : rj K V S T c P r lv md up wl cu) {wl' : Int32} (hw : wl' = -1 ∨ 0 ≤ wl') : rj K V S T c P r lv md up wl' cu := by
  obtain ⟨hmd, hup, hwl, hs, hlv, hP, hI, hK, hM, h3, hc, hcu, hdn, h8⟩ := h
  exact ⟨hmd, hup, hw, hs, hlv, hP, hI, hK, hM, h3, hc, hcu, hdn, h8⟩
theorem rp_cnt_z {f : Nat → Int32} (h : ∀ k, k < 100 → f k = 0) : rp_cnt (rp_nz f) 100 = 0 := by
  have : rp_cnt (rp_nz f) 100 = rp_cnt (fun i => decide (0 ≤ i ∧ i < 0)) 100 := rp_cnt_cg (fun k hk => by simp [h k hk])
  rw [this, rp_cnt_iv, Nat.sub_self]
theorem rm_zr_j (f : Nat → Nat → Int32) (r k : Nat) : rm_zr f r r k = 0 := by show va_up f r _ r k = 0; rw [rp_up_j]
theorem rm_zr_ne (f : Nat → Nat → Int32) {r i : Nat} (h : i ≠ r) : rm_zr f r i = f i := rp_up_ne _ _ h
theorem rm_cp_j (f : Nat → Nat → Int32) (a b : Nat) : rm_cp f a b b = f a := rp_up_j _ _ _
theorem rm_cp_ne (f : Nat → Nat → Int32) {a b i : Nat} (h : i ≠ b) : rm_cp f a b i = f i := rp_up_ne _ _ h
/-- the memory is emptied on both sides -/
theorem rj_clear (h : rj K V S T c P r lv md up wl cu) : rj (va_up K 13 (fun _ => 0)) V (rm_zr S 12) (rm_zr T 12) (va_up c 13 0) P r lv md up wl (-1) := by
  obtain ⟨hmd, hup, hwl, hs, hlv, hP, hI, hK, hM, h3, hc, hcu, hdn, h8⟩ := h
  refine ⟨hmd, hup, hwl, hs, hlv, hP, hI, fun i hi k hk => ?_, fun k hk => ?_, fun j hj k hk => ?_, fun j hj => ?_, Or.inl rfl, fun _ k hk => ?_, by rw [rp_up_j]; omega⟩
  · have := hP i (by omega)
    rw [rp_up_ne _ _ (show P i ≠ 13 by omega), rm_zr_ne S (by omega), rm_zr_ne T (by omega)]
    exact hK i hi k hk
  · rw [rp_up_j, rm_zr_j]
    exact ⟨rfl, fun h => absurd rfl h⟩
  · by_cases e : j = 13
    · subst e; rw [rp_up_j]; exact Or.inl rfl
    · rw [rp_up_ne _ _ e]; exact h3 j hj k hk
  · by_cases e : j = 13
    · subst e; rw [rp_up_j, rp_up_j, rp_cnt_z (fun _ _ => rfl)]
    · rw [rp_up_ne _ _ e, rp_up_ne _ _ e]; exact hc j hj
  · exact rm_zr_j S 12 k
theorem rj_down (h : rj K V S T c P r lv md up wl cu) : rj (va_up K 13 (fun _ => 0)) V (rm_zr S 12) (rm_zr T 12) (va_up c 13 0) P r lv md 0 (-1) (-1) := by
  obtain ⟨hmd, hup, hwl, hs, hlv, hP, hI, hK, hM, h3, hc, hcu, hdn, h8⟩ := rj_clear h
  exact ⟨hmd, Or.inl rfl, Or.inl rfl, hs, hlv, hP, hI, hK, hM, h3, hc, hcu, fun _ k _ => rm_zr_j S 12 k, h8⟩
/-- coming up: the class empties its memory, which was empty -/
theorem rj_comeup (h : rj K V S T c P r lv md up wl cu) (hu : up = 0) : rj (va_up K 13 (fun _ => 0)) V S T (va_up c 13 0) P r lv md 1 wl (-1) := by
  obtain ⟨hmd, hup, hwl, hs, hlv, hP, hI, hK, hM, h3, hc, hcu, hdn, h8⟩ := h
  refine ⟨hmd, Or.inr rfl, hwl, hs, hlv, hP, hI, fun i hi k hk => ?_, fun k hk => ?_, fun j hj k hk => ?_, fun j hj => ?_, Or.inl rfl, fun h => absurd h (by decide), by rw [rp_up_j]; omega⟩
  · have := hP i (by omega)
    rw [rp_up_ne _ _ (by omega)]
    exact hK i hi k hk
  · rw [rp_up_j, hdn hu k hk]
    exact ⟨rfl, fun h => absurd rfl h⟩
  · by_cases e : j = 13
    · subst e; rw [rp_up_j]; exact Or.inl rfl
    · rw [rp_up_ne _ _ e]; exact h3 j hj k hk
  · by_cases e : j = 13
    · subst e; rw [rp_up_j, rp_up_j, rp_cnt_z (fun _ _ => rfl)]
    · rw [rp_up_ne _ _ e, rp_up_ne _ _ e]; exact hc j hj
/-- a new disk -/
theorem rj_format (h : rj K V S T c P r lv md up wl cu) {wl' : Int32} (hw : wl' = -1 ∨ 0 ≤ wl') : rj (va_up K 13 (fun _ => 0)) V (rm_zr S 12) (rm_zr T 12) (va_up c 13 0) P (fun _ => 0) lv 1 1 wl' (-1) := by
  obtain ⟨hmd, hup, hwl, hs, hlv, hP, hI, hK, hM, h3, hc, hcu, hdn, h8⟩ := rj_clear h
  have e0 : rp_sum (fun _ => 0) 3 = 0 := rfl
  refine ⟨Or.inr rfl, Or.inr rfl, hw, by rw [e0]; omega, fun i hi => ?_, hP, hI, fun i hi => ?_, hM, h3, hc, Or.inl rfl, fun h => absurd h (by decide), h8⟩
  · rw [e0] at hi; omega
  · rw [e0] at hi; omega
/-- an entry is set in memory -/
theorem rj_set (h : rj K V S T c P r lv md up wl cu) (hu : ¬ up = 0) {key : Nat} (hk : key < 100) {kd v : Int32} (hkd : kd = 1 ∨ kd = 2) (hlt : K 13 key = 0 → c 13 < 8) : rj (rp_u K 13 key kd) (rp_u V 13 key v) (rp_u S 12 key kd) (rp_u T 12 key v) (rp_c K c 13 key) P r lv md up wl (-1) := by
  obtain ⟨hmd, hup, hwl, hs, hlv, hP, hI, hK, hM, h3, hc, hcu, hdn, h8⟩ := h
  have hkd0 : ¬ kd = 0 := by rcases hkd with e | e <;> rw [e] <;> decide
  unfold rp_u
  refine ⟨hmd, hup, hwl, hs, hlv, hP, hI, fun i hi k hk => ?_, fun k hk => ?_, fun j hj k hk => ?_, fun j hj => ?_, Or.inl rfl, fun h => absurd h hu, ?_⟩
  · have := hP i (by omega)
    rw [rp_up_ne _ _ (by omega), rp_up_ne _ _ (by omega), rp_up_ne _ _ (by omega), rp_up_ne _ _ (by omega)]
    exact hK i hi k hk
  · rw [rp_up_j, rp_up_j, rp_up_j, rp_up_j]
    unfold upd
    by_cases e : k = key
    · rw [if_pos e, if_pos e, if_pos e, if_pos e]; exact ⟨rfl, fun _ => rfl⟩
    · rw [if_neg e, if_neg e, if_neg e, if_neg e]; exact hM k hk
  · by_cases e : j = 13
    · subst e; rw [rp_up_j]
      unfold upd
      by_cases e : k = key
      · rw [if_pos e]; exact Or.inr hkd
      · rw [if_neg e]; exact h3 13 hj k hk
    · rw [rp_up_ne _ _ e]; exact h3 j hj k hk
  · unfold rp_c
    by_cases e : j = 13
    · subst e
      rw [rp_up_j]
      by_cases h0 : K 13 key = 0
      · rw [if_pos h0, rp_up_j, hc 13 hj]
        have h1 : rp_cnt (rp_nz (upd (K 13) key kd)) 100 = rp_cnt (rp_nz (K 13)) 100 + rp_cnt (fun i => decide (key ≤ i ∧ i < key + 1)) 100 := by
          refine rp_cnt_add (fun k hk => ?_)
          unfold rp_nz upd
          by_cases e : k = key
          · subst e
            simp [hkd0, h0]
          · have : ¬ (key ≤ k ∧ k < key + 1) := by omega
            simp [e, this]
        rw [h1, rp_cnt_iv]
        omega
      · rw [if_neg h0, hc 13 hj]
        refine rp_cnt_cg (fun k hk => ?_)
        unfold rp_nz upd
        by_cases e : k = key
        · subst e
          simp [hkd0, h0]
        · simp [e]
    · rw [rp_up_ne _ _ e]
      by_cases h0 : K 13 key = 0
      · rw [if_pos h0, rp_up_ne _ _ e]; exact hc j hj
      · rw [if_neg h0]; exact hc j hj
  · unfold rp_c
    by_cases h0 : K 13 key = 0
    · rw [if_pos h0, rp_up_j]; have := hlt h0; omega
    · rw [if_neg h0]; exact h8
/-- the draft is made anew: nothing that is listed changes -/
theorem rj_draft (h : rj K V S T c P r lv md up wl cu) (hk : ∀ j, j ≠ P 12 → K1 j = K j) (hv : ∀ j, j ≠ P 12 → V1 j = V j) (hcc : ∀ j, j ≠ P 12 → c1 j = c j) (hS : ∀ i, i ≠ 13 → S1 i = S i) (hT : ∀ i, i ≠ 13 → T1 i = T i) (h3d : ∀ k, k < 100 → rp_3 (K1 (P 12) k)) (hcd : c1 (P 12) = rp_cnt (rp_nz (K1 (P 12))) 100) : rj K1 V1 S1 T1 c1 P r lv md up wl cu := by
  obtain ⟨hmd, hup, hwl, hs, hlv, hP, hI, hK, hM, h3, hc, hcu, hdn, h8⟩ := h
  have h12 := hP 12 (by omega)
  refine ⟨hmd, hup, hwl, hs, hlv, hP, hI, fun i hi k hk' => ?_, fun k hk' => ?_, fun j hj k hk' => ?_, fun j hj => ?_, ?_, fun hu k hk' => ?_, by rw [hcc 13 (by omega)]; exact h8⟩
  · have hne : P i ≠ P 12 := fun e => by have := hI i 12 (by omega) (by omega) e; omega
    rw [hk _ hne, hv _ hne, hS i (by omega), hT i (by omega)]
    exact hK i hi k hk'
  · rw [hk 13 (by omega), hv 13 (by omega), hS 12 (by omega), hT 12 (by omega)]
    exact hM k hk'
  · by_cases e : j = P 12
    · rw [e]; exact h3d k hk'
    · rw [hk j e]; exact h3 j hj k hk'
  · by_cases e : j = P 12
    · rw [e]; exact hcd
    · rw [hk j e, hcc j e]; exact hc j hj
  · rcases hcu with e | ⟨key, k1, k2, k3⟩
    · exact Or.inl e
    · refine Or.inr ⟨key, k1, k2, ?_⟩
      rw [← k3]
      exact rm_th_cg (fun i hi => by rw [hS i (by omega)])
  · rw [hS 12 (by omega)]; exact hdn hu k hk'
/-- the runs are listed anew, the draft among them -/
theorem rj_new (h : rj K V S T c P r lv md up wl cu) (hd : ∀ k, k < 100 → K (P 12) k = S 13 k ∧ (¬ S 13 k = 0 → V (P 12) k = T 13 k)) (hP' : ∀ i, i < 13 → P1 i ≤ 12) (hI' : ∀ i j, i < 13 → j < 13 → P1 i = P1 j → i = j) (hs' : rp_sum r1 3 ≤ 12) (hlv' : ∀ i, i < rp_sum r1 3 → lv1 i = rp_le r1 i)
    (hrow : ∀ q, q < rp_sum r1 3 → (P1 q = P 12 ∧ S1 q = S 13 ∧ T1 q = T 13) ∨ ∃ i, i < rp_sum r 3 ∧ P1 q = P i ∧ S1 q = S i ∧ T1 q = T i) (h12 : S1 12 = S 12) (h12' : T1 12 = T 12) : rj K V S1 T1 c P1 r1 lv1 md up wl (-1) := by
  obtain ⟨hmd, hup, hwl, hs, hlv, hP, hI, hK, hM, h3, hc, hcu, hdn, h8⟩ := h
  refine ⟨hmd, hup, hwl, hs', hlv', hP', hI', fun q hq k hk => ?_, fun k hk => ?_, h3, hc, Or.inl rfl, fun hu k hk => ?_, h8⟩
  · rcases hrow q hq with ⟨e1, e2, e3⟩ | ⟨i, hi, e1, e2, e3⟩
    · rw [e1, e2, e3]; exact hd k hk
    · rw [e1, e2, e3]; exact hK i hi k hk
  · rw [h12, h12']; exact hM k hk
  · rw [h12]; exact hdn hu k hk
end RJ
