/-! 25: the places move, the draft is made: flush and merge keep the tie -/
def rp_sd (p q : Nat) : Nat := if q = p then 12 else if p < q then q - 1 else q
def rp_sm (p q : Nat) : Nat := if q = 12 then p else if p ≤ q then q + 1 else q
theorem rp_mvd_at (P : Nat → Nat) {p q : Nat} (hq : q < 13) : rp_mvd P p q = P (rp_sd p q) := by
  unfold rp_mvd rp_D va_up rp_sd
  by_cases h : q = p
  · rw [if_pos h, if_pos h]
  · rw [if_neg h, if_neg h]
    by_cases h1 : p < q
    · rw [if_pos h1]; exact if_pos ⟨h1, by omega⟩
    · rw [if_neg h1]; exact if_neg (by omega)
theorem rp_mv2_at (P : Nat → Nat) {p q : Nat} (hq : q < 13) : rp_mv2 P p q = P (rp_sm p q) := by
  unfold rp_mv2 rp_E va_up rp_sm
  by_cases h : q = 12
  · rw [if_pos h, if_pos h]
  · rw [if_neg h, if_neg h]
    by_cases h1 : p ≤ q
    · rw [if_pos h1]; exact if_pos ⟨h1, by omega⟩
    · rw [if_neg h1]; exact if_neg (by omega)
theorem rp_sd_lt {p q : Nat} (hq : q < 13) : rp_sd p q < 13 := by
  unfold rp_sd; split <;> first | omega | (split <;> omega)
theorem rp_sm_lt {p q : Nat} (hp : p ≤ 12) (hq : q < 13) : rp_sm p q < 13 := by
  unfold rp_sm; split <;> first | omega | (split <;> omega)
theorem rp_sd_inj {p i j : Nat} (hp : p ≤ 12) (hi : i < 13) (hj : j < 13) (h : rp_sd p i = rp_sd p j) : i = j := by
  unfold rp_sd at h
  by_cases h1 : i = p
  · by_cases h2 : j = p
    · omega
    · rw [if_pos h1, if_neg h2] at h
      split at h <;> omega
  · by_cases h2 : j = p
    · rw [if_neg h1, if_pos h2] at h
      split at h <;> omega
    · rw [if_neg h1, if_neg h2] at h
      split at h <;> split at h <;> omega
theorem rp_sm_inj {p i j : Nat} (hp : p ≤ 12) (hi : i < 13) (hj : j < 13) (h : rp_sm p i = rp_sm p j) : i = j := by
  unfold rp_sm at h
  by_cases h1 : i = 12
  · by_cases h2 : j = 12
    · omega
    · rw [if_pos h1, if_neg h2] at h
      split at h <;> omega
  · by_cases h2 : j = 12
    · rw [if_neg h1, if_pos h2] at h
      split at h <;> omega
    · rw [if_neg h1, if_neg h2] at h
      split at h <;> split at h <;> omega
theorem rp_mvd_inj {P : Nat → Nat} (hI : ∀ i j, i < 13 → j < 13 → P i = P j → i = j) {p : Nat} (hp : p ≤ 12) : ∀ i j, i < 13 → j < 13 → rp_mvd P p i = rp_mvd P p j → i = j := by
  intro i j hi hj h
  rw [rp_mvd_at P hi, rp_mvd_at P hj] at h
  exact rp_sd_inj hp hi hj (hI _ _ (rp_sd_lt hi) (rp_sd_lt hj) h)
theorem rp_mv2_inj {P : Nat → Nat} (hI : ∀ i j, i < 13 → j < 13 → P i = P j → i = j) {p : Nat} (hp : p ≤ 12) : ∀ i j, i < 13 → j < 13 → rp_mv2 P p i = rp_mv2 P p j → i = j := by
  intro i j hi hj h
  rw [rp_mv2_at P hi, rp_mv2_at P hj] at h
  exact rp_sm_inj hp hi hj (hI _ _ (rp_sm_lt hp hi) (rp_sm_lt hp hj) h)
theorem rp_mvs_inj {P : Nat → Nat} (hI : ∀ i j, i < 13 → j < 13 → P i = P j → i = j) {p : Nat} (hp : p ≤ 12) : ∀ m i j, i < 13 → j < 13 → rp_mvs P p m i = rp_mvs P p m j → i = j := by
  intro m
  induction m with
  | zero => exact hI
  | succ m ih => exact rp_mv2_inj ih hp
theorem rp_mvs_lo (P : Nat → Nat) {p q : Nat} (hp : p ≤ 12) (hq : q < p) : ∀ m, rp_mvs P p m q = P q := by
  intro m
  induction m with
  | zero => rfl
  | succ m ih =>
    show rp_mv2 (rp_mvs P p m) p q = _
    rw [rp_mv2_at _ (by omega)]
    unfold rp_sm
    rw [if_neg (by omega), if_neg (by omega), ih]
theorem rp_mvs_hi (P : Nat → Nat) {p : Nat} : ∀ m q, p ≤ q → q + m ≤ 12 → rp_mvs P p m q = P (q + m) := by
  intro m
  induction m with
  | zero => intro q _ _; rfl
  | succ m ih =>
    intro q hq hm
    show rp_mv2 (rp_mvs P p m) p q = _
    rw [rp_mv2_at _ (by omega)]
    unfold rp_sm
    rw [if_neg (by omega), if_pos hq, ih (q + 1) (by omega) (by omega), show q + 1 + m = q + (m + 1) by omega]
theorem rm_tk_lo {α : Type} (f : Nat → α) {p m q : Nat} (hq : q < p) : ∀ i, rm_tk f p m i q = f q := by
  intro i
  induction i with
  | zero => rfl
  | succ i ih =>
    show rm_E (rm_tk f p m i) p (m - (i + 1)) q = _
    unfold rm_E
    rw [if_neg (by omega), ih]
theorem rm_tk_out {α : Type} (f : Nat → α) {p m q : Nat} (hq : m ≤ q) : ∀ i, rm_tk f p m i q = f q := by
  intro i
  induction i with
  | zero => rfl
  | succ i ih =>
    show rm_E (rm_tk f p m i) p (m - (i + 1)) q = _
    unfold rm_E
    rw [if_neg (by omega), ih]
theorem rm_tk_hi {α : Type} (f : Nat → α) {p m : Nat} : ∀ i q, p ≤ q → q + i < m → rm_tk f p m i q = f (q + i) := by
  intro i
  induction i with
  | zero => intro q _ _; rfl
  | succ i ih =>
    intro q hq hm
    show rm_E (rm_tk f p m i) p (m - (i + 1)) q = _
    unfold rm_E
    rw [if_pos (by omega), ih (q + 1) (by omega) (by omega), show q + 1 + i = q + (i + 1) by omega]
/-! the draft -/
theorem rp_cnt_mK (f g : Nat → Int32) : rp_cnt (rp_nz (rp_mK f g 100)) 100 = rp_cnt (rp_nz f) 100 + rp_cnt (rp_mB f g) 100 := by
  refine rp_cnt_add (fun k hk => ?_)
  unfold rp_nz rp_mK rp_mB
  by_cases h : f k = 0
  · by_cases h2 : g k = 0
    · simp [h, h2]
    · simp [h, h2, hk]
  · simp [h]
theorem rp_cnt_xK (f : Nat → Int32) : rp_cnt (rp_nz f) 100 = rp_cnt (rp_nz (rp_xK f 100)) 100 + rp_cnt (rp_xB f) 100 := by
  refine rp_cnt_add (fun k hk => ?_)
  unfold rp_nz rp_xK rp_xB
  by_cases h : f k = 2
  · simp [h, hk]
  · simp [h]
section RPL
variable {d : Nat} {q : Nat → Nat} {K V : Nat → Nat → Int32} {c : Nat → Nat}
theorem rp_lv_ne (i : Nat) : ∀ j, j ≠ d → (rp_lv d q K V c i).1 j = K j ∧ (rp_lv d q K V c i).2.1 j = V j ∧ (rp_lv d q K V c i).2.2 j = c j := by
  intro j hj
  induction i with
  | zero => exact ⟨rfl, rfl, rfl⟩
  | succ i ih =>
    refine ⟨?_, ?_, ?_⟩
    · show va_up _ d _ j = _
      rw [rp_up_ne _ _ hj]; exact ih.1
    · show va_up _ d _ j = _
      rw [rp_up_ne _ _ hj]; exact ih.2.1
    · show va_up _ d _ j = _
      rw [rp_up_ne _ _ hj]; exact ih.2.2
theorem rp_lv_at (hd : ∀ k, K d k = 0) {k : Nat} (hk : k < 100) : ∀ i, (∀ j, j < i → q j ≠ d) → (rp_lv d q K V c i).1 d k = (match rp_find (fun j => !decide (K (q j) k = 0)) i with | some j => K (q j) k | none => 0) ∧ ∀ j, rp_find (fun j => !decide (K (q j) k = 0)) i = some j → (rp_lv d q K V c i).2.1 d k = V (q j) k := by
  intro i
  induction i with
  | zero => intro _; exact ⟨hd k, fun j h => by cases h⟩
  | succ i ih =>
    intro hq
    obtain ⟨i1, i2⟩ := ih (fun j hj => hq j (by omega))
    have hn := rp_lv_ne (d := d) (q := q) (K := K) (V := V) (c := c) i (q i) (hq i (by omega))
    have eK : (rp_lv d q K V c (i + 1)).1 d k = if k < 100 ∧ (rp_lv d q K V c i).1 d k = 0 then K (q i) k else (rp_lv d q K V c i).1 d k := by
      show va_up _ d (rp_mK _ _ 100) d k = _
      rw [rp_up_j, hn.1]
      rfl
    have eV : (rp_lv d q K V c (i + 1)).2.1 d k = if k < 100 ∧ (rp_lv d q K V c i).1 d k = 0 ∧ ¬ K (q i) k = 0 then V (q i) k else (rp_lv d q K V c i).2.1 d k := by
      show va_up _ d (rp_mV _ _ _ _ 100) d k = _
      rw [rp_up_j, hn.1, hn.2.1]
      rfl
    have ef : rp_find (fun j => !decide (K (q j) k = 0)) (i + 1) = match rp_find (fun j => !decide (K (q j) k = 0)) i with | some x => some x | none => if (!decide (K (q i) k = 0)) = true then some i else none := rfl
    rw [eK, eV, ef]
    cases hf : rp_find (fun j => !decide (K (q j) k = 0)) i with
    | some x =>
      rw [hf] at i1
      have h1 : (rp_lv d q K V c i).1 d k = K (q x) k := i1
      have h2 : ¬ K (q x) k = 0 := by have := (rp_find_some hf).2.1; simpa using this
      refine ⟨?_, fun j hj => ?_⟩
      · rw [h1, if_neg (fun h => h2 h.2)]
      · rw [if_neg (fun h => h2 (h1 ▸ h.2.1))]
        exact i2 j (by rw [hf]; exact hj)
    | none =>
      rw [hf] at i1
      have h1 : (rp_lv d q K V c i).1 d k = 0 := i1
      by_cases h2 : K (q i) k = 0
      · refine ⟨?_, fun j hj => ?_⟩
        · simp [h1, h2]
        · simp [h2] at hj
      · refine ⟨?_, fun j hj => ?_⟩
        · simp [h1, h2, hk]
        · simp [h2] at hj
          subst hj
          rw [if_pos ⟨hk, h1, h2⟩]
theorem rp_lv_c (hd : ∀ k, K d k = 0) (hc : c d = 0) : ∀ i, (rp_lv d q K V c i).2.2 d = rp_cnt (rp_nz ((rp_lv d q K V c i).1 d)) 100 := by
  intro i
  induction i with
  | zero =>
    show c d = rp_cnt (rp_nz (K d)) 100
    rw [hc, rp_cnt_z (fun k _ => hd k)]
  | succ i ih =>
    show va_up _ d _ d = rp_cnt (rp_nz (va_up _ d (rp_mK _ _ 100) d)) 100
    rw [rp_up_j, rp_up_j, rp_cnt_mK, ih]
end RPL
