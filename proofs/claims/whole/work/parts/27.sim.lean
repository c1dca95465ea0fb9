/-! 27: each operation on both sides, from tied states (written by gen_sim.py) -/
theorem i32_nat {x : Int32} (h : 0 ≤ x) : ∃ y, y < 2 ^ 31 ∧ x = nI y := by
  rw [Int32.le_iff_toInt_le] at h
  have e0 : (0 : Int32).toInt = 0 := by decide
  have h2 := Int32.toInt_lt x
  refine ⟨x.toInt.toNat, by omega, ?_⟩
  apply Int32.toInt_inj.mp
  rw [nI_toInt (by omega)]
  omega
theorem i32_key (x : Int32) : (x < 0 ∨ ¬ x < 100) ∨ ∃ key, key < 100 ∧ x = nI key := by
  by_cases h0 : x < 0
  · exact Or.inl (Or.inl h0)
  · by_cases h1 : x < 100
    · obtain ⟨y, hy, rfl⟩ := i32_nat (Int32.not_lt.mp h0)
      refine Or.inr ⟨y, ?_, rfl⟩
      rw [show (100 : Int32) = nI 100 by decide, nI_ltI hy (by decide)] at h1
      exact h1
    · exact Or.inl (Or.inr h1)
theorem i32_lev (x : Int32) : (x < 0 ∨ 3 ≤ x) ∨ ∃ ll, ll < 3 ∧ x = nI ll := by
  by_cases h0 : x < 0
  · exact Or.inl (Or.inl h0)
  · by_cases h1 : 3 ≤ x
    · exact Or.inl (Or.inr h1)
    · obtain ⟨y, hy, rfl⟩ := i32_nat (Int32.not_lt.mp h0)
      refine Or.inr ⟨y, ?_, rfl⟩
      have h2 := Int32.not_le.mp h1
      rw [show (3 : Int32) = nI 3 by decide, nI_ltI hy (by decide)] at h2
      exact h2
theorem rp_sp_ok {wl wl' : Int32} {x : Nat} (hx : x < 2 ^ 31) (hw : wl = -1 ∨ 0 ≤ wl) (h : rp_sp wl (nI x) = some wl') : wl' = -1 ∨ 0 ≤ wl' := by
  unfold rp_sp at h
  by_cases h1 : wl = -1
  · rw [if_pos h1] at h; cases h; exact Or.inl rfl
  · rw [if_neg h1] at h
    obtain ⟨y, hy, rfl⟩ := i32_nat (hw.resolve_left h1)
    by_cases h2 : nI x ≤ nI y
    · rw [if_pos h2] at h
      cases h
      have hxy : x ≤ y := by
        by_cases h3 : x ≤ y
        · exact h3
        · exact absurd h2 (nI_ge (by omega) hx)
      rw [pk_sub hxy]
      exact Or.inr (Int32.not_lt.mp (nI_pos (by omega)))
    · rw [if_neg h2] at h; cases h
abbrev rT := (Nat → Nat → Int32) × (Nat → Nat → Int32) × (Nat → Nat → Int32) × (Nat → Nat → Int32) × (Nat → Nat) × (Nat → Nat) × (Nat → Nat) × (Nat → Nat) × Int32 × Int32 × Int32 × Int32
def rcw (G : rsG) : rT → rsH → rsH
  | (K, V, _, _, c, P, r, _, md, up, wl, cu), hf => rwd G K V c P r md up wl cu hf
def rmw (G : rsG) : rT → Int32 → rsH → rsH
  | (_, _, S, T, _, _, r, lv, md, up, wl, cu), th, hf => rmd G S T lv th md up wl (rp_sum r 3) cu hf
def rjx : rT → Prop
  | (K, V, S, T, c, P, r, lv, md, up, wl, cu) => rj K V S T c P r lv md up wl cu
/-- both sides return -/
def smOk (G : rsG) (Mc Mm : rsM) (rc rm : Room) (ac am : List Value) (x : rT) (v b : Option Value) : Prop := ∃ x' : rT, rjx x' ∧ (∀ n hf, rsK G Mc rc ac (rcw G x hf) n (rsOk v (rcw G x' hf) n)) ∧ (∀ n hf th, rsK G Mm rm am (rmw G x th hf) n (rsOk b (rmw G x' 0 hf) n))
/-- the class throws, the reference notes it -/
def smTh (G : rsG) (Mc Mm : rsM) (rc rm : Room) (ac am : List Value) (x : rT) (k : Nat) (co : Int32) (bt : Bool) : Prop := ∃ (x' : rT) (b : Option Value), ((bt = true → ∃ v : Int32, b = some (.int v)) ∧ (bt = false → b = none)) ∧ rjx x' ∧ (∀ n hf, rsK G Mc rc ac (rcw G x hf) n (rsTh k (rcw G x' hf) (n + 1))) ∧ (∀ n hf th, rsK G Mm rm am (rmw G x th hf) n (rsOk b (rmw G x' co hf) n))
section SIM
variable {K V S T : Nat → Nat → Int32} {c P r lv : Nat → Nat} {md up wl cu : Int32}
theorem rj_nar (h : rj K V S T c P r lv md up wl cu) : narrow .boolean (.int md) = .int md := by
  obtain ⟨hmd, _⟩ := h
  rcases hmd with e | e <;> rw [e] <;> rfl
theorem rj_hs (h : rj K V S T c P r lv md up wl cu) : rp_sum r 3 ≤ 12 := h.2.2.2.1
theorem rj_hP (h : rj K V S T c P r lv md up wl cu) : ∀ i, i < 13 → P i ≤ 12 := h.2.2.2.2.2.1
theorem rj_hw (h : rj K V S T c P r lv md up wl cu) : wl = -1 ∨ 0 ≤ wl := h.2.2.1
theorem rj_hc (h : rj K V S T c P r lv md up wl cu) : ∀ i, i < 13 → c (P i) ≤ 100 := fun i hi => rj_c100 h _ (by have := rj_hP h i hi; omega)
theorem rj_mem (h : rj K V S T c P r lv md up wl cu) {k : Nat} (hk : k < 100) : K 13 k = S 12 k := (h.2.2.2.2.2.2.2.2.1 k hk).1
theorem rj_8 (h : rj K V S T c P r lv md up wl cu) : c 13 ≤ 8 := h.2.2.2.2.2.2.2.2.2.2.2.2.2
theorem rj_hcu (h : rj K V S T c P r lv md up wl cu) : cu = -1 ∨ ∃ key, key < 100 ∧ cu = nI key ∧ rm_th S (rp_sum r 3) key = 1 := h.2.2.2.2.2.2.2.2.2.2.2.1
theorem rj_up1 (h : rj K V S T c P r lv md up wl cu) : up = 0 ∨ ¬ up = 0 := by by_cases e : up = 0; exact Or.inl e; exact Or.inr e
/-- writing memory out, on both sides -/
theorem fl_sim (G : rsG) (h : rj K V S T c P r lv md up wl cu) :
    (∃ (K2 V2 S2 T2 : Nat → Nat → Int32) (c2 P2 r2 lv2 : Nat → Nat) (wl2 : Int32), rj K2 V2 S2 T2 c2 P2 r2 lv2 md up wl2 (-1) ∧ c2 13 = 0 ∧ (∀ n hf, rsK G M_s_flushMemory (rmO 8 133) [.ref (rsB G)] (rwd G K V c P r md up wl cu hf) n (rsOk (some (.int (nI (rm_sz S 12)))) (rwd G K2 V2 c2 P2 r2 md up wl2 cu hf) n)) ∧ (∀ n hf th, rsK G M_m_flushed (rmO 3 63) [.ref (rsB G + 46)] (rmd G S T lv th md up wl (rp_sum r 3) cu hf) n (rsOk (some (.int 0)) (rmd G S2 T2 lv2 th md up wl2 (rp_sum r2 3) cu hf) n)))
    ∨ (∃ (k : Nat) (co : Int32) (K2 V2 S2 T2 : Nat → Nat → Int32) (c2 : Nat → Nat) (up2 wl2 cu2 : Int32), ((k = 1 ∧ co = 1) ∨ (k = 2 ∧ co = 2)) ∧ rj K2 V2 S2 T2 c2 P r lv md up2 wl2 cu2 ∧ (∀ n hf, rsK G M_s_flushMemory (rmT 8 133) [.ref (rsB G)] (rwd G K V c P r md up wl cu hf) n (rsTh k (rwd G K2 V2 c2 P r md up2 wl2 cu2 hf) (n + 1))) ∧ (∀ n hf th, rsK G M_m_flushed (rmO 3 63) [.ref (rsB G + 46)] (rmd G S T lv th md up wl (rp_sum r 3) cu hf) n (rsOk (some (.int co)) (rmd G S2 T2 lv th md up2 wl2 (rp_sum r 3) cu2 hf) n))) := by
  have hs := rj_hs h
  have hP := rj_hP h
  have hc := rj_hc h
  have hw := rj_hw h
  have h13 := rj_c100 h 13 (by omega)
  have esz := rj_sz12 h
  have efr := rj_free h
  have efc := rj_fc h
  have efb := rj_fblk h
  by_cases h0 : c 13 = 0
  · refine Or.inl ⟨K, V, S, T, c, P, r, lv, wl, rj_cu h, h0, fun n hf => ?_, fun n hf th => k_m_fl_zero (by rw [esz]; exact h0)⟩
    rw [esz, h0]
    exact k_fl_zero h0
  · have h0' : 0 < c 13 := by omega
    have hz : 0 < rm_sz S 12 := by rw [esz]; exact h0'
    have hfail := rj_fdraft h (S1 := S) (T1 := T) (fun _ _ => rfl) (fun _ _ => rfl)
    by_cases hf12 : rp_sum r 3 = 12
    · exact Or.inr ⟨2, 2, _, _, S, T, _, up, wl, cu, Or.inr ⟨rfl, rfl⟩, hfail, fun n hf => k_fl_full hs hP hc h13 h0' hf12, fun n hf th => k_m_fl_full hz hf12⟩
    · have hlt : rp_sum r 3 < 12 := by omega
      by_cases hr : nI ((c 13 + 3) / 4) ≤ nI 40 - nI (rp_blk c P (rp_sum r 3))
      · have hr1 : nI ((rp_fc K c P (P 12) + 3) / 4) ≤ nI 40 - nI (rp_blk (rp_fc K c P) P (rp_sum r 3)) := by rw [efc, efb]; exact hr
        have hr2 : nI ((rm_sz S 12 + 3) / 4) ≤ nI 40 - nI (rm_free S (rp_sum r 3)) := by rw [esz, efr]; exact hr
        cases hsp : rp_sp wl (nI ((c 13 + 3) / 4 + 1)) with
        | none => exact Or.inr ⟨1, 1, _, _, _, _, _, 0, -1, -1, Or.inl ⟨rfl, rfl⟩, rj_down hfail, fun n hf => k_fl_down hs hP hc h13 h0' hlt hr1 (by rw [efc]; exact hsp), fun n hf th => k_m_fl_down hz hlt hr2 hw (by rw [esz]; exact hsp)⟩
        | some wl' =>
          obtain ⟨e1, e2⟩ := rj_flush h hlt (rp_sp_ok (by omega) hw hsp)
          refine Or.inl ⟨_, _, _, _, _, _, _, _, wl', e2, rp_up_j _ _ _, fun n hf => ?_, fun n hf th => ?_⟩
          · rw [esz]; exact k_fl_ok hs hP hc h13 h0' hlt hr1 (by rw [efc]; exact hsp)
          · rw [e1]; exact k_m_fl_ok hz hlt hr2 hw (by rw [esz]; exact hsp)
      · exact Or.inr ⟨2, 2, _, _, S, T, _, up, wl, cu, Or.inr ⟨rfl, rfl⟩, hfail, fun n hf => k_fl_noroom hs hP hc h13 h0' hlt (by rw [efc, efb]; exact hr), fun n hf th => k_m_fl_noroom hz hlt (by rw [esz, efr]; exact hr)⟩
/-- merging a level that has a run, on both sides -/
theorem ml_sim (G : rsG) (h : rj K V S T c P r lv md up wl cu) {l : Nat} (hl : l < 3) (h0 : 0 < r l) :
    (∃ (K2 V2 S2 T2 : Nat → Nat → Int32) (c2 P2 r2 lv2 : Nat → Nat) (wl2 : Int32), rj K2 V2 S2 T2 c2 P2 r2 lv2 md up wl2 (-1) ∧ (∀ n hf, rsK G M_s_mergeLevel (rmO 8 133) [.ref (rsB G), .int (nI l)] (rwd G K V c P r md up wl cu hf) n (rsOk (some (.int (nI (rm_sz S2 13)))) (rwd G K2 V2 c2 P2 r2 md up wl2 cu hf) n)) ∧ (∀ n hf th, rsK G M_m_merged (rmO 3 63) [.ref (rsB G + 46), .int (nI l)] (rmd G S T lv th md up wl (rp_sum r 3) cu hf) n (rsOk (some (.int 0)) (rmd G S2 T2 lv2 th md up wl2 (rp_sum r2 3) cu hf) n)))
    ∨ (∃ (k : Nat) (co : Int32) (K2 V2 S2 T2 : Nat → Nat → Int32) (c2 : Nat → Nat) (up2 wl2 cu2 : Int32), ((k = 1 ∧ co = 1) ∨ (k = 2 ∧ co = 2)) ∧ rj K2 V2 S2 T2 c2 P r lv md up2 wl2 cu2 ∧ (∀ n hf, rsK G M_s_mergeLevel (rmT 8 133) [.ref (rsB G), .int (nI l)] (rwd G K V c P r md up wl cu hf) n (rsTh k (rwd G K2 V2 c2 P r md up2 wl2 cu2 hf) (n + 1))) ∧ (∀ n hf th, rsK G M_m_merged (rmO 3 63) [.ref (rsB G + 46), .int (nI l)] (rmd G S T lv th md up wl (rp_sum r 3) cu hf) n (rsOk (some (.int co)) (rmd G S2 T2 lv th md up2 wl2 (rp_sum r 3) cu2 hf) n))) := by
  have hs := rj_hs h
  have hP := rj_hP h
  have hw := rj_hw h
  obtain ⟨hz, hz1, hb⟩ := rj_begin h hl
  have hrn := rj_runs h hl
  obtain ⟨K1, V1, c1, hD, hj, hd⟩ := rj_mdraft h hl
  have hc1 := rj_hc hj
  have hc12 := hc1 12 (by omega)
  have e13 := rj_m13 hj hd
  have efr := rj_free hj
  by_cases hr : nI ((c1 (P 12) + 3) / 4) ≤ nI 40 - nI (rp_blk c1 P (rp_sum r 3))
  · have hr2 : nI ((rm_sz (rm_SM S (rp_sum r l) (r l) (rp_sum r 3)) 13 + 3) / 4) ≤ nI 40 - nI (rm_free (rm_SM S (rp_sum r l) (r l) (rp_sum r 3)) (rp_sum r 3)) := by rw [e13, efr]; exact hr
    cases hsp : rp_sp wl (nI ((c1 (P 12) + 3) / 4 + 1)) with
    | none => exact Or.inr ⟨1, 1, _, _, _, _, _, 0, -1, -1, Or.inl ⟨rfl, rfl⟩, rj_down hj, fun n hf => k_ml_down hl h0 hs hP (by omega) hc1 (hD G n hf) hr hsp, fun n hf th => k_m_mg_down hs hz hz1 hrn h0 hb hr2 hw (by rw [e13]; exact hsp)⟩
    | some wl' =>
      have hw' := rp_sp_ok (by omega) hw hsp
      by_cases hz0 : c1 (P 12) = 0
      · obtain ⟨e1, e2⟩ := rj_mnone hj hd hl hw'
        refine Or.inl ⟨_, _, _, _, _, _, _, _, wl', e2, fun n hf => ?_, fun n hf th => ?_⟩
        · have e3 : rm_sz (rm_tk (rm_SM S (rp_sum r l) (r l) (rp_sum r 3)) (rp_sum r l) (rp_sum r 3) (r l)) 13 = c1 (P 12) := by
            rw [← e13]
            unfold rm_sz
            rw [rm_tk_out _ (by omega)]
          rw [e3]
          exact k_ml_ok_none hl h0 hs hP (by omega) hc1 (hD G n hf) hr hsp (by omega) hz0
        · rw [e1]; exact k_m_mg_none hs hz hz1 hrn h0 hb hr2 hw (by rw [e13]; exact hsp) (by rw [e13]; exact hz0)
      · obtain ⟨e1, e2⟩ := rj_msome hj hd hl h0 hw'
        refine Or.inl ⟨_, _, _, _, _, _, _, _, wl', e2, fun n hf => ?_, fun n hf th => ?_⟩
        · have e3 : rm_sz (rm_cp (rm_D (rp_sum r 3 - r l) (rm_tk (rm_SM S (rp_sum r l) (r l) (rp_sum r 3)) (rp_sum r l) (rp_sum r 3) (r l)) (rp_sum r l)) 13 (rp_sum r l)) 13 = c1 (P 12) := by
            rw [← e13]
            unfold rm_sz
            rw [rm_cp_ne _ (by omega)]
            unfold rm_D
            rw [if_neg (by omega), rm_tk_out _ (by omega)]
          rw [e3]
          exact k_ml_ok_some hl h0 hs hP (by omega) hc1 (hD G n hf) hr hsp (by omega) (by omega)
        · rw [e1]; exact k_m_mg_some hs hz hz1 hrn h0 hb hr2 hw (by rw [e13]; exact hsp) hl (by rw [e13]; omega)
  · exact Or.inr ⟨2, 2, _, _, _, _, _, up, wl, cu, Or.inr ⟨rfl, rfl⟩, hj, fun n hf => k_ml_noroom hl h0 hs hP (by omega) hc1 (hD G n hf) hr, fun n hf th => k_m_mg_noroom hs hz hz1 hrn h0 hb (by rw [e13, efr]; exact hr)⟩
end SIM
