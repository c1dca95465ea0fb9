/-! 26: flush and merge keep the tie -/
section RJF
variable {K V S T : Nat → Nat → Int32} {c P r lv : Nat → Nat} {md up wl cu : Int32}
theorem rj_ff (h : rj K V S T c P r lv md up wl cu) : (∀ j, j ≠ P 12 → rp_fK K P j = K j ∧ rp_fV K V P j = V j ∧ rp_fc K c P j = c j) ∧ (∀ k, k < 100 → rp_fK K P (P 12) k = K 13 k ∧ (¬ K 13 k = 0 → rp_fV K V P (P 12) k = V 13 k)) ∧ rp_fc K c P (P 12) = rp_cnt (rp_nz (rp_fK K P (P 12))) 100 := by
  obtain ⟨hmd, hup, hwl, hs, hlv, hP, hI, hK, hM, h3, hc, hcu, hdn, h8⟩ := h
  have h12 := hP 12 (by omega)
  have hd : ∀ k, va_up K (P 12) (fun _ => 0) (P 12) k = 0 := fun k => by rw [rp_up_j]
  have e13 : va_up K (P 12) (fun _ => 0) 13 = K 13 := rp_up_ne _ _ (by omega)
  refine ⟨fun j hj => ?_, fun k hk => ?_, ?_⟩
  · have := rp_lv_ne (d := P 12) (q := fun _ => 13) (K := va_up K (P 12) (fun _ => 0)) (V := V) (c := va_up c (P 12) 0) 1 j hj
    rw [rp_up_ne _ _ hj, rp_up_ne _ _ hj] at this
    exact this
  · have := rp_lv_at (d := P 12) (q := fun _ => 13) (K := va_up K (P 12) (fun _ => 0)) (V := V) (c := va_up c (P 12) 0) hd hk 1 (fun j _ => by omega)
    rw [e13] at this
    have ef : rp_find (fun _ => !decide (K 13 k = 0)) 1 = if (!decide (K 13 k = 0)) = true then some 0 else none := rfl
    rw [ef] at this
    by_cases h0 : K 13 k = 0
    · refine ⟨?_, fun h => absurd h0 h⟩
      have h1 := this.1
      simp only [h0] at h1
      rw [h0]
      exact h1
    · have h1 := this.1
      have h2 := this.2 0 (by simp [h0])
      simp only [h0] at h1
      exact ⟨h1, fun _ => h2⟩
  · exact rp_lv_c (d := P 12) (q := fun _ => 13) (K := va_up K (P 12) (fun _ => 0)) (V := V) (c := va_up c (P 12) 0) hd (rp_up_j _ _ _) 1
theorem rj_fdraft (h : rj K V S T c P r lv md up wl cu) {S1 T1 : Nat → Nat → Int32} (hS : ∀ i, i ≠ 13 → S1 i = S i) (hT : ∀ i, i ≠ 13 → T1 i = T i) : rj (rp_fK K P) (rp_fV K V P) S1 T1 (rp_fc K c P) P r lv md up wl cu := by
  obtain ⟨f1, f2, f3⟩ := rj_ff h
  refine rj_draft h (fun j hj => (f1 j hj).1) (fun j hj => (f1 j hj).2.1) (fun j hj => (f1 j hj).2.2) hS hT (fun k hk => ?_) f3
  obtain ⟨hmd, hup, hwl, hs, hlv, hP, hI, hK, hM, h3, hc, hcu, hdn, h8⟩ := h
  rw [(f2 k hk).1]
  exact h3 13 (by omega) k hk
theorem rj_fc (h : rj K V S T c P r lv md up wl cu) : rp_fc K c P (P 12) = c 13 := by
  obtain ⟨f1, f2, f3⟩ := rj_ff h
  obtain ⟨hmd, hup, hwl, hs, hlv, hP, hI, hK, hM, h3, hc, hcu, hdn, h8⟩ := h
  rw [f3, hc 13 (by omega)]
  exact rp_cnt_cg (fun k hk => by show (!decide (rp_fK K P (P 12) k = 0)) = _; rw [(f2 k hk).1])
theorem rj_fblk (h : rj K V S T c P r lv md up wl cu) : rp_blk (rp_fc K c P) P (rp_sum r 3) = rp_blk c P (rp_sum r 3) := by
  obtain ⟨f1, f2, f3⟩ := rj_ff h
  obtain ⟨hmd, hup, hwl, hs, hlv, hP, hI, hK, hM, h3, hc, hcu, hdn, h8⟩ := h
  refine rp_sum_cg (fun i hi => ?_)
  have hne : P i ≠ P 12 := fun e => by have := hI i 12 (by omega) (by omega) e; omega
  rw [(f1 _ hne).2.2]
theorem rj_flush (h : rj K V S T c P r lv md up wl cu) (hlt : rp_sum r 3 < 12) {wl' : Int32} (hw : wl' = -1 ∨ 0 ≤ wl') :
    rp_sum (va_up r 0 (r 0 + 1)) 3 = rp_sum r 3 + 1 ∧ rj (va_up (rp_fK K P) 13 (fun _ => 0)) (rp_fV K V P) (rm_cp (rm_D (rp_sum r 3) (rm_zr (rm_cp S 12 13) 12) 0) 13 0) (rm_cp (rm_D (rp_sum r 3) (rm_zr (rm_cp T 12 13) 12) 0) 13 0) (va_up (rp_fc K c P) 13 0) (rp_mvd P 0) (va_up r 0 (r 0 + 1)) (va_up (rm_D (rp_sum r 3) lv 0) 0 0) md up wl' (-1) := by
  obtain ⟨f1, f2, f3⟩ := rj_ff h
  have hA := rj_wl (rj_clear (rj_fdraft h (S1 := rm_cp S 12 13) (T1 := rm_cp T 12 13) (fun i hi => rm_cp_ne S hi) (fun i hi => rm_cp_ne T hi))) hw
  obtain ⟨hmd, hup, hwl, hs, hlv, hP, hI, hK, hM, h3, hc, hcu, hdn, h8⟩ := h
  have h12 := hP 12 (by omega)
  have v0 : va_up r 0 (r 0 + 1) 0 = r 0 + 1 := rfl
  have v1 : va_up r 0 (r 0 + 1) 1 = r 1 := rfl
  have v2 : va_up r 0 (r 0 + 1) 2 = r 2 := rfl
  have s3 := rp_s3 r
  have s3' := rp_s3 (va_up r 0 (r 0 + 1))
  rw [v0, v1, v2] at s3'
  refine ⟨by omega, rj_new hA (fun k hk => ?_) (rp_mvd_le hP 0) (rp_mvd_inj hI (by omega)) (by omega) (fun i hi => ?_) (fun q hq => ?_) ?_ ?_⟩
  · rw [rp_up_ne _ _ (by omega), rm_zr_ne _ (by omega), rm_zr_ne _ (by omega), rm_cp_j, rm_cp_j, (f2 k hk).1, (hM k hk).1]
    exact ⟨rfl, fun h0 => by rw [(f2 k hk).2 (by rw [(hM k hk).1]; exact h0), (hM k hk).2 h0]⟩
  · unfold rp_le
    rw [v0, v1]
    by_cases e : i = 0
    · subst e; rw [rp_up_j, if_pos (by omega)]
    · rw [rp_up_ne _ _ e]
      unfold rm_D
      rw [if_pos (by omega), hlv (i - 1) (by omega)]
      unfold rp_le
      by_cases a1 : i - 1 < r 0
      · rw [if_pos a1, if_pos (by omega)]
      · rw [if_neg a1, if_neg (show ¬ i < r 0 + 1 by omega)]
        by_cases a2 : i - 1 < r 0 + r 1
        · rw [if_pos a2, if_pos (by omega)]
        · rw [if_neg a2, if_neg (by omega)]
  · by_cases e : q = 0
    · subst e
      refine Or.inl ⟨?_, ?_, ?_⟩
      · rw [rp_mvd_at P (by omega)]; rfl
      · rw [rm_cp_j]; unfold rm_D; rw [if_neg (by omega)]
      · rw [rm_cp_j]; unfold rm_D; rw [if_neg (by omega)]
    · refine Or.inr ⟨q - 1, by omega, ?_, ?_, ?_⟩
      · rw [rp_mvd_at P (by omega)]; unfold rp_sd; rw [if_neg e, if_pos (by omega)]
      · rw [rm_cp_ne _ e]; unfold rm_D; rw [if_pos (by omega)]
      · rw [rm_cp_ne _ e]; unfold rm_D; rw [if_pos (by omega)]
  · rw [rm_cp_ne _ (by omega)]; unfold rm_D; rw [if_neg (by omega)]
  · rw [rm_cp_ne _ (by omega)]; unfold rm_D; rw [if_neg (by omega)]
/-! merge -/
theorem rm_oS_3 {z m : Nat} (h : ∀ j, j < m → ∀ k, k < 100 → rp_3 (S (z + j) k)) {k : Nat} (hk : k < 100) : rp_3 (rm_oS S z m k) := by
  unfold rm_oS
  cases hf : rp_find (fun j => decide (0 < S (z + j) k)) m with
  | none => exact Or.inl rfl
  | some j => exact h j (rp_find_some hf).1 k hk
theorem rp_dr_3 {b : Bool} {x : Int32} (h : rp_3 x) : rp_3 (rm_dr b x) := by
  unfold rm_dr
  split
  · exact Or.inl rfl
  · exact h
theorem rp_dr_0 {b : Bool} {x : Int32} (h : ¬ rm_dr b x = 0) : ¬ x = 0 := fun e => h (by subst e; unfold rm_dr; split <;> rfl)
theorem rj_mf (h : rj K V S T c P r lv md up wl cu) {l : Nat} (hl : l < 3) (A : (Nat → Nat → Int32) × (Nat → Nat → Int32) × (Nat → Nat)) (hA : A = rp_lv (P 12) (fun i => P (rp_sum r l + i)) (va_up K (P 12) (fun _ => 0)) V (va_up c (P 12) 0) (r l)) :
    (∀ j, j ≠ P 12 → A.1 j = K j ∧ A.2.1 j = V j ∧ A.2.2 j = c j) ∧ (∀ k, k < 100 → A.1 (P 12) k = rm_oS S (rp_sum r l) (r l) k ∧ (¬ A.1 (P 12) k = 0 → A.2.1 (P 12) k = rm_oT S T (rp_sum r l) (r l) k)) ∧ A.2.2 (P 12) = rp_cnt (rp_nz (A.1 (P 12))) 100 := by
  have hb := (rj_begin h hl).2.2
  obtain ⟨hmd, hup, hwl, hs, hlv, hP, hI, hK, hM, h3, hc, hcu, hdn, h8⟩ := h
  have hd : ∀ k, va_up K (P 12) (fun _ => 0) (P 12) k = 0 := fun k => by rw [rp_up_j]
  have hne : ∀ j, j < r l → P (rp_sum r l + j) ≠ P 12 := fun j hj e => by have := hI _ 12 (by omega) (by omega) e; omega
  subst hA
  refine ⟨fun j hj => ?_, fun k hk => ?_, ?_⟩
  · have := rp_lv_ne (d := P 12) (q := fun i => P (rp_sum r l + i)) (K := va_up K (P 12) (fun _ => 0)) (V := V) (c := va_up c (P 12) 0) (r l) j hj
    rw [rp_up_ne _ _ hj, rp_up_ne _ _ hj] at this
    exact this
  · have h1 := rp_lv_at (d := P 12) (q := fun i => P (rp_sum r l + i)) (K := va_up K (P 12) (fun _ => 0)) (V := V) (c := va_up c (P 12) 0) hd hk (r l) hne
    have ef : rp_find (fun j => !decide (va_up K (P 12) (fun _ => 0) (P (rp_sum r l + j)) k = 0)) (r l) = rp_find (fun j => decide (0 < S (rp_sum r l + j) k)) (r l) := rp_find_cg (fun j hj => by
      have hp := hP (rp_sum r l + j) (by omega)
      rw [rp_up_ne _ _ (hne j hj), ← (hK (rp_sum r l + j) (by omega) k hk).1]
      exact (rp_3p (h3 _ (by omega) k hk)).symm)
    simp only [ef] at h1
    unfold rm_oS rm_oT
    cases hf : rp_find (fun j => decide (0 < S (rp_sum r l + j) k)) (r l) with
    | none =>
      rw [hf] at h1
      exact ⟨h1.1, fun h0 => absurd h1.1 h0⟩
    | some j =>
      rw [hf] at h1
      obtain ⟨g1, g2, _⟩ := rp_find_some hf
      have g3 : ¬ S (rp_sum r l + j) k = 0 := fun e => by simp only [e] at g2; exact absurd g2 (by decide)
      have hKj := hK (rp_sum r l + j) (by omega) k hk
      refine ⟨?_, fun _ => ?_⟩
      · have h2 := h1.1
        simp only [rp_up_ne _ _ (hne j g1), hKj.1] at h2
        exact h2
      · have h2 := h1.2 j rfl
        rw [h2]
        exact hKj.2 g3
  · exact rp_lv_c (d := P 12) (q := fun i => P (rp_sum r l + i)) (K := va_up K (P 12) (fun _ => 0)) (V := V) (c := va_up c (P 12) 0) hd (rp_up_j _ _ _) (r l)
abbrev rm_SM (S : Nat → Nat → Int32) (z m mn : Nat) : Nat → Nat → Int32 := va_up S 13 (fun k => rm_dr (decide (z + m = mn)) (rm_oS S z m k))
abbrev rm_TM (S T : Nat → Nat → Int32) (z m : Nat) : Nat → Nat → Int32 := va_up T 13 (rm_oT S T z m)
theorem rm_SM13 (S : Nat → Nat → Int32) (z m mn k : Nat) : rm_SM S z m mn 13 k = rm_dr (decide (z + m = mn)) (rm_oS S z m k) := by
  show va_up S 13 _ 13 k = _
  rw [rp_up_j]
theorem rm_TM13 (S T : Nat → Nat → Int32) (z m k : Nat) : rm_TM S T z m 13 k = rm_oT S T z m k := by
  show va_up T 13 _ 13 k = _
  rw [rp_up_j]
theorem rj_mdraft (h : rj K V S T c P r lv md up wl cu) {l : Nat} (hl : l < 3) : ∃ (K1 V1 : Nat → Nat → Int32) (c1 : Nat → Nat),
    (∀ (G : rsG) (n : Nat) (hf : rsH), rsK G M_d_draftFromLevel (rmO 3 66) [.ref (rsB G + 4), .int (nI l)] (rwd G K V c P r md up wl cu hf) n (rsOk none (rwd G K1 V1 c1 P r md up wl cu hf) n))
    ∧ rj K1 V1 (rm_SM S (rp_sum r l) (r l) (rp_sum r 3)) (rm_TM S T (rp_sum r l) (r l)) c1 P r lv md up wl cu
    ∧ (∀ k, k < 100 → K1 (P 12) k = rm_SM S (rp_sum r l) (r l) (rp_sum r 3) 13 k ∧ (¬ rm_SM S (rp_sum r l) (r l) (rp_sum r 3) 13 k = 0 → V1 (P 12) k = rm_TM S T (rp_sum r l) (r l) 13 k)) := by
  obtain ⟨f1, f2, f3⟩ := rj_mf h hl _ rfl
  have hb := (rj_begin h hl).2.2
  have h' := h
  obtain ⟨hmd, hup, hwl, hs, hlv, hP, hI, hK, hM, h3, hc, hcu, hdn, h8⟩ := h'
  have hinj : ∀ i, i < 12 → P i ≠ P 12 := fun i hi e => by have := hI i 12 (by omega) (by omega) e; omega
  have h3o : ∀ k, k < 100 → rp_3 (rm_oS S (rp_sum r l) (r l) k) := fun k hk => rm_oS_3 (fun j hj k hk => by
    have hp := hP (rp_sum r l + j) (by omega)
    rw [← (hK (rp_sum r l + j) (by omega) k hk).1]; exact h3 _ (by omega) k hk) hk
  have e1 : rp_sum r (l + 1) = rp_sum r l + r l := rfl
  generalize hA : rp_lv (P 12) (fun i => P (rp_sum r l + i)) (va_up K (P 12) (fun _ => 0)) V (va_up c (P 12) 0) (r l) = A at f1 f2 f3
  by_cases hg : rp_sum r (l + 1) < rp_sum r 3
  · have hb0 : decide (rp_sum r l + r l = rp_sum r 3) = false := by simp; omega
    have hdr : ∀ k, k < 100 → A.1 (P 12) k = rm_SM S (rp_sum r l) (r l) (rp_sum r 3) 13 k := fun k hk => by
      rw [rm_SM13, (f2 k hk).1, hb0]; rfl
    refine ⟨A.1, A.2.1, A.2.2, fun G n hf => ?_, rj_draft h (fun j hj => (f1 j hj).1) (fun j hj => (f1 j hj).2.1) (fun j hj => (f1 j hj).2.2) (fun i hi => rp_up_ne _ _ hi) (fun i hi => rp_up_ne _ _ hi) (fun k hk => by rw [(f2 k hk).1]; exact h3o k hk) f3, fun k hk => ⟨hdr k hk, fun h0 => ?_⟩⟩
    · have := k_draftLevel_more (G := G) (n := n) (K := K) (V := V) (c := c) (P := P) (r := r) (md := md) (up := up) (wl := wl) (cu := cu) (hf := hf) hl hs hb hP hinj hg
      rw [hA] at this
      exact this
    · rw [rm_TM13]; exact (f2 k hk).2 (by rw [hdr k hk]; exact h0)
  · have hb1 : decide (rp_sum r l + r l = rp_sum r 3) = true := by simp; omega
    have hcnt := rp_cnt_xK (A.1 (P 12))
    have hdr : ∀ k, k < 100 → rp_oK A.1 (P 12) 100 (P 12) k = rm_SM S (rp_sum r l) (r l) (rp_sum r 3) 13 k := fun k hk => by
      unfold rp_oK rp_xK
      rw [rp_up_j, rm_SM13, (f2 k hk).1, hb1]
      unfold rm_dr
      simp [hk]
    refine ⟨rp_oK A.1 (P 12) 100, A.2.1, rp_oc A.1 A.2.2 (P 12) 100, fun G n hf => ?_, rj_draft h (fun j hj => ?_) (fun j hj => (f1 j hj).2.1) (fun j hj => ?_) (fun i hi => rp_up_ne _ _ hi) (fun i hi => rp_up_ne _ _ hi) (fun k hk => ?_) ?_, fun k hk => ⟨hdr k hk, fun h0 => ?_⟩⟩
    · have := k_draftLevel_last (G := G) (n := n) (K := K) (V := V) (c := c) (P := P) (r := r) (md := md) (up := up) (wl := wl) (cu := cu) (hf := hf) hl hs hb hP hinj (by omega) (by rw [hA, f3]; omega)
      rw [hA] at this
      exact this
    · unfold rp_oK; rw [rp_up_ne _ _ hj]; exact (f1 j hj).1
    · unfold rp_oc; rw [rp_up_ne _ _ hj]; exact (f1 j hj).2.2
    · rw [hdr k hk, rm_SM13]; exact rp_dr_3 (h3o k hk)
    · unfold rp_oc rp_oK; rw [rp_up_j, rp_up_j, f3]; omega
    · rw [rm_TM13]
      refine (f2 k hk).2 ?_
      rw [rm_SM13] at h0
      rw [(f2 k hk).1]
      exact rp_dr_0 h0
theorem rj_m13 (h : rj K V S T c P r lv md up wl cu) (hd : ∀ k, k < 100 → K (P 12) k = S 13 k ∧ (¬ S 13 k = 0 → V (P 12) k = T 13 k)) : rm_sz S 13 = c (P 12) := by
  obtain ⟨hmd, hup, hwl, hs, hlv, hP, hI, hK, hM, h3, hc, hcu, hdn, h8⟩ := h
  have hp := hP 12 (by omega)
  rw [hc (P 12) (by omega)]
  exact rp_cnt_cg (fun k hk => by rw [← (hd k hk).1]; exact rp_3p (h3 (P 12) (by omega) k hk))
theorem rj_mnone (h : rj K V S T c P r lv md up wl cu) (hd : ∀ k, k < 100 → K (P 12) k = S 13 k ∧ (¬ S 13 k = 0 → V (P 12) k = T 13 k)) {l : Nat} (hl : l < 3) {wl' : Int32} (hw : wl' = -1 ∨ 0 ≤ wl') :
    rp_sum (va_up r l 0) 3 = rp_sum r 3 - r l ∧ rj K V (rm_tk S (rp_sum r l) (rp_sum r 3) (r l)) (rm_tk T (rp_sum r l) (rp_sum r 3) (r l)) c (rp_mvs P (rp_sum r l) (r l)) (va_up r l 0) (rm_tk lv (rp_sum r l) (rp_sum r 3) (r l)) md up wl' (-1) := by
  have hb := (rj_begin h hl).2.2
  have hA := rj_wl h hw
  obtain ⟨hmd, hup, hwl, hs, hlv, hP, hI, hK, hM, h3, hc, hcu, hdn, h8⟩ := h
  have s3 := rp_s3 r
  have s2 := rp_s2 r
  have s1 := rp_s1 r
  have s0 : rp_sum r 0 = 0 := rfl
  have s3' := rp_s3 (va_up r l 0)
  have key : rp_sum (va_up r l 0) 3 = rp_sum r 3 - r l ∧ (∀ q, q < rp_sum r l → rp_le (va_up r l 0) q = rp_le r q) ∧ (∀ q, rp_sum r l ≤ q → q < rp_sum r 3 - r l → rp_le (va_up r l 0) q = rp_le r (q + r l)) := by
    match l, hl with
    | 0, _ =>
      have v0 : va_up r 0 0 0 = 0 := rfl
      have v1 : va_up r 0 0 1 = r 1 := rfl
      have v2 : va_up r 0 0 2 = r 2 := rfl
      rw [v0, v1, v2] at s3'
      refine ⟨by omega, fun q hq => by omega, fun q h1 h2 => ?_⟩
      unfold rp_le
      rw [v0, v1, if_neg (by omega), if_neg (show ¬ q + r 0 < r 0 by omega)]
      split <;> split <;> omega
    | 1, _ =>
      have v0 : va_up r 1 0 0 = r 0 := rfl
      have v1 : va_up r 1 0 1 = 0 := rfl
      have v2 : va_up r 1 0 2 = r 2 := rfl
      rw [v0, v1, v2] at s3'
      refine ⟨by omega, fun q hq => ?_, fun q h1 h2 => ?_⟩
      · unfold rp_le
        rw [v0, if_pos (by omega), if_pos (by omega)]
      · unfold rp_le
        rw [v0, v1, if_neg (by omega), if_neg (by omega), if_neg (by omega), if_neg (by omega)]
    | 2, _ =>
      have v0 : va_up r 2 0 0 = r 0 := rfl
      have v1 : va_up r 2 0 1 = r 1 := rfl
      have v2 : va_up r 2 0 2 = 0 := rfl
      rw [v0, v1, v2] at s3'
      refine ⟨by omega, fun q hq => ?_, fun q h1 h2 => by omega⟩
      unfold rp_le
      rw [v0, v1]
  obtain ⟨k1, k2, k3⟩ := key
  refine ⟨k1, rj_new hA hd (rp_mvs_le hP (by omega) _) (rp_mvs_inj hI (by omega) _) (by omega) (fun i hi => ?_) (fun q hq => ?_) ?_ ?_⟩
  · rw [k1] at hi
    by_cases e : i < rp_sum r l
    · rw [rm_tk_lo _ e, hlv i (by omega), k2 i e]
    · rw [rm_tk_hi _ _ _ (by omega) (by omega), hlv _ (by omega), k3 i (by omega) hi]
  · rw [k1] at hq
    by_cases e : q < rp_sum r l
    · exact Or.inr ⟨q, by omega, rp_mvs_lo P (by omega) e _, rm_tk_lo _ e _, rm_tk_lo _ e _⟩
    · exact Or.inr ⟨q + r l, by omega, rp_mvs_hi P _ _ (by omega) (by omega), rm_tk_hi _ _ _ (by omega) (by omega), rm_tk_hi _ _ _ (by omega) (by omega)⟩
  · exact rm_tk_out _ (by omega) _
  · exact rm_tk_out _ (by omega) _
theorem rj_msome (h : rj K V S T c P r lv md up wl cu) (hd : ∀ k, k < 100 → K (P 12) k = S 13 k ∧ (¬ S 13 k = 0 → V (P 12) k = T 13 k)) {l : Nat} (hl : l < 3) (h0 : 0 < r l) {wl' : Int32} (hw : wl' = -1 ∨ 0 ≤ wl') :
    rp_sum (va_up (va_up r l 0) (min (l + 1) 2) (va_up r l 0 (min (l + 1) 2) + 1)) 3 = rp_sum r 3 - r l + 1 ∧ rj K V (rm_cp (rm_D (rp_sum r 3 - r l) (rm_tk S (rp_sum r l) (rp_sum r 3) (r l)) (rp_sum r l)) 13 (rp_sum r l)) (rm_cp (rm_D (rp_sum r 3 - r l) (rm_tk T (rp_sum r l) (rp_sum r 3) (r l)) (rp_sum r l)) 13 (rp_sum r l)) c (rp_mvs (rp_mvd P (rp_sum r l)) (rp_sum r l + 1) (r l)) (va_up (va_up r l 0) (min (l + 1) 2) (va_up r l 0 (min (l + 1) 2) + 1)) (va_up (rm_D (rp_sum r 3 - r l) (rm_tk lv (rp_sum r l) (rp_sum r 3) (r l)) (rp_sum r l)) (rp_sum r l) (min (l + 1) 2)) md up wl' (-1) := by
  have hb := (rj_begin h hl).2.2
  have hA := rj_wl h hw
  obtain ⟨hmd, hup, hwl, hs, hlv, hP, hI, hK, hM, h3, hc, hcu, hdn, h8⟩ := h
  have s3 := rp_s3 r
  have s2 := rp_s2 r
  have s1 := rp_s1 r
  have s0 : rp_sum r 0 = 0 := rfl
  have key : rp_sum (va_up (va_up r l 0) (min (l + 1) 2) (va_up r l 0 (min (l + 1) 2) + 1)) 3 = rp_sum r 3 - r l + 1 ∧ (∀ q, q < rp_sum r l → rp_le (va_up (va_up r l 0) (min (l + 1) 2) (va_up r l 0 (min (l + 1) 2) + 1)) q = rp_le r q) ∧ rp_le (va_up (va_up r l 0) (min (l + 1) 2) (va_up r l 0 (min (l + 1) 2) + 1)) (rp_sum r l) = min (l + 1) 2
      ∧ (∀ q, rp_sum r l < q → q < rp_sum r 3 - r l + 1 → rp_le (va_up (va_up r l 0) (min (l + 1) 2) (va_up r l 0 (min (l + 1) 2) + 1)) q = rp_le r (q - 1 + r l)) := by
    match l, hl with
    | 0, _ =>
      have s3' := rp_s3 (va_up (va_up r 0 0) (min (0 + 1) 2) (va_up r 0 0 (min (0 + 1) 2) + 1))
      have v0 : va_up (va_up r 0 0) (min (0 + 1) 2) (va_up r 0 0 (min (0 + 1) 2) + 1) 0 = 0 := rfl
      have v1 : va_up (va_up r 0 0) (min (0 + 1) 2) (va_up r 0 0 (min (0 + 1) 2) + 1) 1 = r 1 + 1 := rfl
      have v2 : va_up (va_up r 0 0) (min (0 + 1) 2) (va_up r 0 0 (min (0 + 1) 2) + 1) 2 = r 2 := rfl
      rw [v0, v1, v2] at s3'
      refine ⟨by omega, fun q hq => by omega, ?_, fun q h1 h2 => ?_⟩
      · unfold rp_le
        rw [v0, v1, if_neg (by omega), if_pos (by omega)]; rfl
      · unfold rp_le
        rw [v0, v1, if_neg (by omega), if_neg (show ¬ q - 1 + r 0 < r 0 by omega)]
        split <;> split <;> omega
    | 1, _ =>
      have s3' := rp_s3 (va_up (va_up r 1 0) (min (1 + 1) 2) (va_up r 1 0 (min (1 + 1) 2) + 1))
      have v0 : va_up (va_up r 1 0) (min (1 + 1) 2) (va_up r 1 0 (min (1 + 1) 2) + 1) 0 = r 0 := rfl
      have v1 : va_up (va_up r 1 0) (min (1 + 1) 2) (va_up r 1 0 (min (1 + 1) 2) + 1) 1 = 0 := rfl
      have v2 : va_up (va_up r 1 0) (min (1 + 1) 2) (va_up r 1 0 (min (1 + 1) 2) + 1) 2 = r 2 + 1 := rfl
      rw [v0, v1, v2] at s3'
      refine ⟨by omega, fun q hq => ?_, ?_, fun q h1 h2 => ?_⟩
      · unfold rp_le
        rw [v0, if_pos (by omega), if_pos (by omega)]
      · unfold rp_le
        rw [v0, v1, if_neg (by omega), if_neg (by omega)]; rfl
      · unfold rp_le
        rw [v0, v1, if_neg (by omega), if_neg (by omega), if_neg (by omega), if_neg (by omega)]
    | 2, _ =>
      have s3' := rp_s3 (va_up (va_up r 2 0) (min (2 + 1) 2) (va_up r 2 0 (min (2 + 1) 2) + 1))
      have v0 : va_up (va_up r 2 0) (min (2 + 1) 2) (va_up r 2 0 (min (2 + 1) 2) + 1) 0 = r 0 := rfl
      have v1 : va_up (va_up r 2 0) (min (2 + 1) 2) (va_up r 2 0 (min (2 + 1) 2) + 1) 1 = r 1 := rfl
      have v2 : va_up (va_up r 2 0) (min (2 + 1) 2) (va_up r 2 0 (min (2 + 1) 2) + 1) 2 = 1 := rfl
      rw [v0, v1, v2] at s3'
      refine ⟨by omega, fun q hq => ?_, ?_, fun q h1 h2 => by omega⟩
      · unfold rp_le
        rw [v0, v1]
      · unfold rp_le
        rw [v0, v1, if_neg (by omega), if_neg (by omega)]; rfl
  obtain ⟨k1, k2, k4, k3⟩ := key
  have hM : ∀ q, rp_sum r l < q → q < rp_sum r 3 - r l + 1 → rp_mvs (rp_mvd P (rp_sum r l)) (rp_sum r l + 1) (r l) q = P (q - 1 + r l) := fun q h1 h2 => by
    rw [rp_mvs_hi _ _ _ (by omega) (by omega), rp_mvd_at P (by omega)]
    unfold rp_sd
    rw [if_neg (by omega), if_pos (by omega), show q + r l - 1 = q - 1 + r l by omega]
  have hD : ∀ {α : Type} (f : Nat → α) (q : Nat), rp_sum r l < q → q < rp_sum r 3 - r l + 1 → rm_D (rp_sum r 3 - r l) (rm_tk f (rp_sum r l) (rp_sum r 3) (r l)) (rp_sum r l) q = f (q - 1 + r l) := fun f q h1 h2 => by
    unfold rm_D
    rw [if_pos (by omega), rm_tk_hi _ _ _ (by omega) (by omega)]
  have hD0 : ∀ {α : Type} (f : Nat → α) (q : Nat), q < rp_sum r l → rm_D (rp_sum r 3 - r l) (rm_tk f (rp_sum r l) (rp_sum r 3) (r l)) (rp_sum r l) q = f q := fun f q h1 => by
    unfold rm_D
    rw [if_neg (by omega), rm_tk_lo _ h1]
  have hDo : ∀ {α : Type} (f : Nat → α) (q : Nat), 12 ≤ q → rm_D (rp_sum r 3 - r l) (rm_tk f (rp_sum r l) (rp_sum r 3) (r l)) (rp_sum r l) q = f q := fun f q h1 => by
    unfold rm_D
    rw [if_neg (by omega), rm_tk_out _ (by omega)]
  refine ⟨k1, rj_new hA hd (rp_mvs_le (rp_mvd_le hP _) (by omega) _) (rp_mvs_inj (rp_mvd_inj hI (by omega)) (by omega) _) (by omega) (fun i hi => ?_) (fun q hq => ?_) ?_ ?_⟩
  · rw [k1] at hi
    by_cases e : i = rp_sum r l
    · rw [e, rp_up_j, k4]
    · rw [rp_up_ne _ _ e]
      by_cases e2 : i < rp_sum r l
      · rw [hD0 lv i e2, hlv i (by omega), k2 i e2]
      · rw [hD lv i (by omega) hi, hlv _ (by omega), k3 i (by omega) hi]
  · rw [k1] at hq
    by_cases e : q = rp_sum r l
    · subst e
      refine Or.inl ⟨?_, ?_, ?_⟩
      · rw [rp_mvs_lo _ (by omega) (by omega), rp_mvd_at P (by omega)]; unfold rp_sd; rw [if_pos rfl]
      · rw [rm_cp_j, hDo S 13 (by omega)]
      · rw [rm_cp_j, hDo T 13 (by omega)]
    · by_cases e2 : q < rp_sum r l
      · refine Or.inr ⟨q, by omega, ?_, ?_, ?_⟩
        · rw [rp_mvs_lo _ (by omega) (by omega), rp_mvd_at P (by omega)]; unfold rp_sd; rw [if_neg e, if_neg (by omega)]
        · rw [rm_cp_ne _ e, hD0 S q e2]
        · rw [rm_cp_ne _ e, hD0 T q e2]
      · refine Or.inr ⟨q - 1 + r l, by omega, hM q (by omega) hq, ?_, ?_⟩
        · rw [rm_cp_ne _ e, hD S q (by omega) hq]
        · rw [rm_cp_ne _ e, hD T q (by omega) hq]
  · rw [rm_cp_ne _ (by omega), hDo S 12 (by omega)]
  · rw [rm_cp_ne _ (by omega), hDo T 12 (by omega)]
end RJF
