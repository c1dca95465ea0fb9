/-! 17: the store: writing a draft, flushing, merging, making place (written by gen_store2.py) -/
set_option maxRecDepth 100000 in
theorem k_wd_noplace {G : rsG} {n : Nat} {K V : Nat → Nat → Int32} {c P r : Nat → Nat} {md up wl cu : Int32} {hf : rsH} (hs : rp_sum r 3 ≤ 12) (hP : ∀ i, i < 13 → P i ≤ 12) (hc : ∀ i, i < 13 → c (P i) ≤ 100) : rsK G M_s_writeDraft (rmT 7 111) [.ref (rsB G), .int 0] (rwd G K V c P r md up wl cu hf) n (rsTh 2 (rwd G K V c P r md up wl cu hf) (n + 1)) := by
  refine rsK_of pf_s_writeDraft rfl (Nat.le_of_ble_eq_true rfl) rfl ?_
  have hd : P 12 ≤ 13 := by have := hP 12 (by decide); omega
  refine rs_aload_n d_s_writeDraft_0 rfl rfl ?_
  refine rx_get_di d_s_writeDraft_1 rfl f_s_19 ?_
  refine rx_cV d_s_writeDraft_4 rfl c_s_147 (by exact np_d_draft) rw_d (k_draft) (by decide) ⟨rfl, rfl⟩ (Nat.le_of_ble_eq_true rfl) rfl ?_
  refine rx_cV d_s_writeDraft_7 rfl c_s_151 (by exact np_e_blocks) (rw_e hd) (k_blocks hd (hc 12 (by decide))) (by decide) ⟨rfl, rfl⟩ (Nat.le_of_ble_eq_true rfl) rfl ?_
  refine rs_istore_n d_s_writeDraft_10 rfl (by decide) rfl ?_
  refine rs_iload_n d_s_writeDraft_11 rfl rfl ?_
  refine rs_if_eq (tgt := 26) d_s_writeDraft_12 rfl (by decide) (fun _ => ?_) (fun hc => absurd (rfl) hc)
  exact rs_throw (k := 2) (tx := "there is no room") d_s_writeDraft_26 d_s_writeDraft_29 d_s_writeDraft_30 d_s_writeDraft_32 d_s_writeDraft_35 (by decide) n_s_154 t_ins2 t_ini2 x_s_158 (by decide) rfl (Nat.le_of_ble_eq_true rfl) (by decide) (by decide) (by decide) (by decide) ⟨rfl, rfl, rfl⟩
set_option maxRecDepth 100000 in
theorem k_wd_noroom {G : rsG} {n : Nat} {K V : Nat → Nat → Int32} {c P r : Nat → Nat} {md up wl cu : Int32} {hf : rsH} (hs : rp_sum r 3 ≤ 12) (hP : ∀ i, i < 13 → P i ≤ 12) (hc : ∀ i, i < 13 → c (P i) ≤ 100) (hr : ¬ nI ((c (P 12) + 3) / 4) ≤ (nI 40 - nI (rp_blk c P (rp_sum r 3)))) : rsK G M_s_writeDraft (rmT 7 111) [.ref (rsB G), .int 1] (rwd G K V c P r md up wl cu hf) n (rsTh 2 (rwd G K V c P r md up wl cu hf) (n + 1)) := by
  refine rsK_of pf_s_writeDraft rfl (Nat.le_of_ble_eq_true rfl) rfl ?_
  have hd : P 12 ≤ 13 := by have := hP 12 (by decide); omega
  refine rs_aload_n d_s_writeDraft_0 rfl rfl ?_
  refine rx_get_di d_s_writeDraft_1 rfl f_s_19 ?_
  refine rx_cV d_s_writeDraft_4 rfl c_s_147 (by exact np_d_draft) rw_d (k_draft) (by decide) ⟨rfl, rfl⟩ (Nat.le_of_ble_eq_true rfl) rfl ?_
  refine rx_cV d_s_writeDraft_7 rfl c_s_151 (by exact np_e_blocks) (rw_e hd) (k_blocks hd (hc 12 (by decide))) (by decide) ⟨rfl, rfl⟩ (Nat.le_of_ble_eq_true rfl) rfl ?_
  refine rs_istore_n d_s_writeDraft_10 rfl (by decide) rfl ?_
  refine rs_iload_n d_s_writeDraft_11 rfl rfl ?_
  refine rs_if_eq (tgt := 26) d_s_writeDraft_12 rfl (by decide) (fun hc => absurd hc (by decide)) (fun _ => ?_)
  refine rs_iload_n d_s_writeDraft_15 rfl rfl ?_
  refine rs_aload_n d_s_writeDraft_16 rfl rfl ?_
  refine rx_get_di d_s_writeDraft_17 rfl f_s_19 ?_
  refine rx_cV d_s_writeDraft_20 rfl c_s_124 (by exact np_d_freeBlocks) rw_d (k_freeBlocks hs hP hc) (by decide) ⟨rfl, rfl⟩ (Nat.le_of_ble_eq_true rfl) rfl ?_
  refine rs_icmp_le (tgt := 36) d_s_writeDraft_23 rfl (by decide) (fun hc => absurd hc (hr)) (fun _ => ?_)
  exact rs_throw (k := 2) (tx := "there is no room") d_s_writeDraft_26 d_s_writeDraft_29 d_s_writeDraft_30 d_s_writeDraft_32 d_s_writeDraft_35 (by decide) n_s_154 t_ins2 t_ini2 x_s_158 (by decide) rfl (Nat.le_of_ble_eq_true rfl) (by decide) (by decide) (by decide) (by decide) ⟨rfl, rfl, rfl⟩
set_option maxRecDepth 100000 in
theorem k_wd_ok {G : rsG} {n : Nat} {K V : Nat → Nat → Int32} {c P r : Nat → Nat} {md up wl cu : Int32} {hf : rsH} (hs : rp_sum r 3 ≤ 12) (hP : ∀ i, i < 13 → P i ≤ 12) (hc : ∀ i, i < 13 → c (P i) ≤ 100) (hr : nI ((c (P 12) + 3) / 4) ≤ (nI 40 - nI (rp_blk c P (rp_sum r 3)))) {wl' : Int32} (hw : rp_sp wl (nI (((c (P 12) + 3) / 4) + 1)) = some wl') : rsK G M_s_writeDraft (rmO 7 111) [.ref (rsB G), .int 1] (rwd G K V c P r md up wl cu hf) n (rsOk (none) (rwd G K V c P r md up wl' cu hf) n) := by
  refine rsK_of pf_s_writeDraft rfl (Nat.le_of_ble_eq_true rfl) rfl ?_
  have hd : P 12 ≤ 13 := by have := hP 12 (by decide); omega
  refine rs_aload_n d_s_writeDraft_0 rfl rfl ?_
  refine rx_get_di d_s_writeDraft_1 rfl f_s_19 ?_
  refine rx_cV d_s_writeDraft_4 rfl c_s_147 (by exact np_d_draft) rw_d (k_draft) (by decide) ⟨rfl, rfl⟩ (Nat.le_of_ble_eq_true rfl) rfl ?_
  refine rx_cV d_s_writeDraft_7 rfl c_s_151 (by exact np_e_blocks) (rw_e hd) (k_blocks hd (hc 12 (by decide))) (by decide) ⟨rfl, rfl⟩ (Nat.le_of_ble_eq_true rfl) rfl ?_
  refine rs_istore_n d_s_writeDraft_10 rfl (by decide) rfl ?_
  refine rs_iload_n d_s_writeDraft_11 rfl rfl ?_
  refine rs_if_eq (tgt := 26) d_s_writeDraft_12 rfl (by decide) (fun hc => absurd hc (by decide)) (fun _ => ?_)
  refine rs_iload_n d_s_writeDraft_15 rfl rfl ?_
  refine rs_aload_n d_s_writeDraft_16 rfl rfl ?_
  refine rx_get_di d_s_writeDraft_17 rfl f_s_19 ?_
  refine rx_cV d_s_writeDraft_20 rfl c_s_124 (by exact np_d_freeBlocks) rw_d (k_freeBlocks hs hP hc) (by decide) ⟨rfl, rfl⟩ (Nat.le_of_ble_eq_true rfl) rfl ?_
  refine rs_icmp_le (tgt := 36) d_s_writeDraft_23 rfl (by decide) (fun _ => ?_) (fun hc => absurd (hr) hc)
  refine rs_aload_n d_s_writeDraft_36 rfl rfl ?_
  refine rs_iload_n d_s_writeDraft_37 rfl rfl ?_
  refine rs_iconst (v := (nI 1)) d_s_writeDraft_38 rfl (by decide) ?_
  refine rs_iadd d_s_writeDraft_39 rfl ?_
  refine rs_tope (nI_add _ _) ?_
  refine rx_cV d_s_writeDraft_40 rfl c_s_34 (by exact np_s_spendWrites) rw_x (k_spend_ok hw) (by decide) ⟨rfl, rfl⟩ (Nat.le_of_ble_eq_true rfl) rfl ?_
  exact rs_vreturn d_s_writeDraft_43 rfl ⟨rfl, rfl, rfl⟩
set_option maxRecDepth 100000 in
theorem k_wd_down {G : rsG} {n : Nat} {K V : Nat → Nat → Int32} {c P r : Nat → Nat} {md up wl cu : Int32} {hf : rsH} (hs : rp_sum r 3 ≤ 12) (hP : ∀ i, i < 13 → P i ≤ 12) (hc : ∀ i, i < 13 → c (P i) ≤ 100) (hr : nI ((c (P 12) + 3) / 4) ≤ (nI 40 - nI (rp_blk c P (rp_sum r 3)))) (hw : rp_sp wl (nI (((c (P 12) + 3) / 4) + 1)) = none) : rsK G M_s_writeDraft (rmT 7 111) [.ref (rsB G), .int 1] (rwd G K V c P r md up wl cu hf) n (rsTh 1 (rwd G (va_up K 13 (fun _ => 0)) V (va_up c 13 0) P r md 0 (-1) (-1) hf) (n + 1)) := by
  refine rsK_of pf_s_writeDraft rfl (Nat.le_of_ble_eq_true rfl) rfl ?_
  have hd : P 12 ≤ 13 := by have := hP 12 (by decide); omega
  refine rs_aload_n d_s_writeDraft_0 rfl rfl ?_
  refine rx_get_di d_s_writeDraft_1 rfl f_s_19 ?_
  refine rx_cV d_s_writeDraft_4 rfl c_s_147 (by exact np_d_draft) rw_d (k_draft) (by decide) ⟨rfl, rfl⟩ (Nat.le_of_ble_eq_true rfl) rfl ?_
  refine rx_cV d_s_writeDraft_7 rfl c_s_151 (by exact np_e_blocks) (rw_e hd) (k_blocks hd (hc 12 (by decide))) (by decide) ⟨rfl, rfl⟩ (Nat.le_of_ble_eq_true rfl) rfl ?_
  refine rs_istore_n d_s_writeDraft_10 rfl (by decide) rfl ?_
  refine rs_iload_n d_s_writeDraft_11 rfl rfl ?_
  refine rs_if_eq (tgt := 26) d_s_writeDraft_12 rfl (by decide) (fun hc => absurd hc (by decide)) (fun _ => ?_)
  refine rs_iload_n d_s_writeDraft_15 rfl rfl ?_
  refine rs_aload_n d_s_writeDraft_16 rfl rfl ?_
  refine rx_get_di d_s_writeDraft_17 rfl f_s_19 ?_
  refine rx_cV d_s_writeDraft_20 rfl c_s_124 (by exact np_d_freeBlocks) rw_d (k_freeBlocks hs hP hc) (by decide) ⟨rfl, rfl⟩ (Nat.le_of_ble_eq_true rfl) rfl ?_
  refine rs_icmp_le (tgt := 36) d_s_writeDraft_23 rfl (by decide) (fun _ => ?_) (fun hc => absurd (hr) hc)
  refine rs_aload_n d_s_writeDraft_36 rfl rfl ?_
  refine rs_iload_n d_s_writeDraft_37 rfl rfl ?_
  refine rs_iconst (v := (nI 1)) d_s_writeDraft_38 rfl (by decide) ?_
  refine rs_iadd d_s_writeDraft_39 rfl ?_
  refine rs_tope (nI_add _ _) ?_
  exact rx_tV d_s_writeDraft_40 c_s_34 (by exact np_s_spendWrites) rw_x (k_spend_no hw) (by decide) (by decide) (Nat.le_of_ble_eq_true rfl) rfl rfl ⟨rfl, rfl, rfl⟩
theorem rp_cnt_n (p : Nat → Bool) : ∀ n, rp_cnt p n ≤ n
  | 0 => Nat.le_refl _
  | n + 1 => by
    have := rp_cnt_n p n
    unfold rp_cnt
    split <;> omega
def rp_fK (K : Nat → Nat → Int32) (P : Nat → Nat) : Nat → Nat → Int32 := rp_aK (va_up K (P 12) (fun _ => 0)) (P 12) 13 100
def rp_fV (K V : Nat → Nat → Int32) (P : Nat → Nat) : Nat → Nat → Int32 := rp_aV (va_up K (P 12) (fun _ => 0)) V (P 12) 13 100
def rp_fc (K : Nat → Nat → Int32) (c P : Nat → Nat) : Nat → Nat := rp_ac (va_up K (P 12) (fun _ => 0)) (va_up c (P 12) 0) (P 12) 13 100
theorem rp_fc_d (K : Nat → Nat → Int32) (c P : Nat → Nat) : rp_fc K c P (P 12) ≤ 100 := by
  unfold rp_fc rp_ac
  rw [rp_up_j, rp_up_j, Nat.zero_add]
  exact rp_cnt_n _ _
theorem rp_fc_ne (K : Nat → Nat → Int32) (c P : Nat → Nat) {j : Nat} (h : j ≠ P 12) : rp_fc K c P j = c j := by
  unfold rp_fc rp_ac
  rw [rp_up_ne _ _ h, rp_up_ne _ _ h]
theorem rp_fc_le {K : Nat → Nat → Int32} {c P : Nat → Nat} (hc : ∀ i, i < 13 → c (P i) ≤ 100) : ∀ i, i < 13 → rp_fc K c P (P i) ≤ 100 := by
  intro i hi
  by_cases h : P i = P 12
  · rw [h]; exact rp_fc_d K c P
  · rw [rp_fc_ne K c P h]; exact hc i hi
set_option maxRecDepth 100000 in
theorem k_fl_zero {G : rsG} {n : Nat} {K V : Nat → Nat → Int32} {c P r : Nat → Nat} {md up wl cu : Int32} {hf : rsH} (h0 : c 13 = 0) : rsK G M_s_flushMemory (rmO 8 133) [.ref (rsB G)] (rwd G K V c P r md up wl cu hf) n (rsOk (some (.int 0)) (rwd G K V c P r md up wl cu hf) n) := by
  refine rsK_of pf_s_flushMemory rfl (Nat.le_of_ble_eq_true rfl) rfl ?_
  refine rs_aload_n d_s_flushMemory_0 rfl rfl ?_
  refine rx_get_ga d_s_flushMemory_1 rfl f_s_10 ?_
  refine rx_cV d_s_flushMemory_4 rfl c_s_71 (by exact np_e_count) (rw_e (by decide)) (k_count (by decide)) (by decide) ⟨rfl, rfl⟩ (Nat.le_of_ble_eq_true rfl) rfl ?_
  refine rs_istore_n d_s_flushMemory_7 rfl (by decide) rfl ?_
  refine rs_iload_n d_s_flushMemory_8 rfl rfl ?_
  refine rs_if_ne (tgt := 14) d_s_flushMemory_9 rfl (by decide) (fun hc => absurd (by rw [h0]; exact nI_0) hc) (fun _ => ?_)
  refine rs_iconst (v := 0) d_s_flushMemory_12 rfl (by decide) ?_
  exact rs_ireturn d_s_flushMemory_13 rfl ⟨rfl, rfl, rfl⟩
set_option maxRecDepth 100000 in
theorem k_fl_full {G : rsG} {n : Nat} {K V : Nat → Nat → Int32} {c P r : Nat → Nat} {md up wl cu : Int32} {hf : rsH} (hs : rp_sum r 3 ≤ 12) (hP : ∀ i, i < 13 → P i ≤ 12) (hc : ∀ i, i < 13 → c (P i) ≤ 100) (h13 : c 13 ≤ 100) (h0 : 0 < c 13) (hf12 : rp_sum r 3 = 12) : rsK G M_s_flushMemory (rmT 8 133) [.ref (rsB G)] (rwd G K V c P r md up wl cu hf) n (rsTh 2 (rwd G (rp_fK K P) (rp_fV K V P) (rp_fc K c P) P r md up wl cu hf) (n + 1)) := by
  refine rsK_of pf_s_flushMemory rfl (Nat.le_of_ble_eq_true rfl) rfl ?_
  have hP12 := hP 12 (by decide)
  refine rs_aload_n d_s_flushMemory_0 rfl rfl ?_
  refine rx_get_ga d_s_flushMemory_1 rfl f_s_10 ?_
  refine rx_cV d_s_flushMemory_4 rfl c_s_71 (by exact np_e_count) (rw_e (by decide)) (k_count (by decide)) (by decide) ⟨rfl, rfl⟩ (Nat.le_of_ble_eq_true rfl) rfl ?_
  refine rs_istore_n d_s_flushMemory_7 rfl (by decide) rfl ?_
  refine rs_iload_n d_s_flushMemory_8 rfl rfl ?_
  refine rs_if_ne (tgt := 14) d_s_flushMemory_9 rfl (by decide) (fun _ => ?_) (fun hc => absurd hc (nI_ne0 (by omega) (by omega)))
  refine rs_aload_n d_s_flushMemory_14 rfl rfl ?_
  refine rx_get_di d_s_flushMemory_15 rfl f_s_19 ?_
  refine rs_aload_n d_s_flushMemory_18 rfl rfl ?_
  refine rx_get_ga d_s_flushMemory_19 rfl f_s_10 ?_
  refine rx_cV d_s_flushMemory_22 rfl c_s_162 (by exact np_d_draftFrom) rw_d (k_draftFrom hP12 (by decide) (by omega)) (by decide) ⟨rfl, rfl⟩ (Nat.le_of_ble_eq_true rfl) rfl ?_
  refine rsV_eq (h' := (rwd G (rp_fK K P) (rp_fV K V P) (rp_fc K c P) P r md up wl cu hf)) rfl ?_
  refine rs_aload_n d_s_flushMemory_25 rfl rfl ?_
  refine rs_aload_n d_s_flushMemory_26 rfl rfl ?_
  refine rx_get_di d_s_flushMemory_27 rfl f_s_19 ?_
  refine rx_cV d_s_flushMemory_30 rfl c_s_54 (by exact np_d_countRuns) rw_d (k_countRuns) (by decide) ⟨rfl, rfl⟩ (Nat.le_of_ble_eq_true rfl) rfl ?_
  refine rs_bipush (v := (nI 12)) d_s_flushMemory_33 rfl (by decide) ?_
  refine rs_icmp_ge (tgt := 42) d_s_flushMemory_35 rfl (by decide) (fun _ => ?_) (fun hc => absurd (nI_le (by omega) (by omega)) hc)
  refine rs_iconst (v := 0) d_s_flushMemory_42 rfl (by decide) ?_
  exact rx_tV d_s_flushMemory_43 c_s_166 (by exact np_s_writeDraft) rw_x (k_wd_noplace hs hP (rp_fc_le hc)) (by decide) (by decide) (Nat.le_of_ble_eq_true rfl) rfl rfl ⟨rfl, rfl, rfl⟩
set_option maxRecDepth 100000 in
theorem k_fl_noroom {G : rsG} {n : Nat} {K V : Nat → Nat → Int32} {c P r : Nat → Nat} {md up wl cu : Int32} {hf : rsH} (hs : rp_sum r 3 ≤ 12) (hP : ∀ i, i < 13 → P i ≤ 12) (hc : ∀ i, i < 13 → c (P i) ≤ 100) (h13 : c 13 ≤ 100) (h0 : 0 < c 13) (hlt : rp_sum r 3 < 12) (hr : ¬ nI ((rp_fc K c P (P 12) + 3) / 4) ≤ (nI 40 - nI (rp_blk (rp_fc K c P) P (rp_sum r 3)))) : rsK G M_s_flushMemory (rmT 8 133) [.ref (rsB G)] (rwd G K V c P r md up wl cu hf) n (rsTh 2 (rwd G (rp_fK K P) (rp_fV K V P) (rp_fc K c P) P r md up wl cu hf) (n + 1)) := by
  refine rsK_of pf_s_flushMemory rfl (Nat.le_of_ble_eq_true rfl) rfl ?_
  have hP12 := hP 12 (by decide)
  refine rs_aload_n d_s_flushMemory_0 rfl rfl ?_
  refine rx_get_ga d_s_flushMemory_1 rfl f_s_10 ?_
  refine rx_cV d_s_flushMemory_4 rfl c_s_71 (by exact np_e_count) (rw_e (by decide)) (k_count (by decide)) (by decide) ⟨rfl, rfl⟩ (Nat.le_of_ble_eq_true rfl) rfl ?_
  refine rs_istore_n d_s_flushMemory_7 rfl (by decide) rfl ?_
  refine rs_iload_n d_s_flushMemory_8 rfl rfl ?_
  refine rs_if_ne (tgt := 14) d_s_flushMemory_9 rfl (by decide) (fun _ => ?_) (fun hc => absurd hc (nI_ne0 (by omega) (by omega)))
  refine rs_aload_n d_s_flushMemory_14 rfl rfl ?_
  refine rx_get_di d_s_flushMemory_15 rfl f_s_19 ?_
  refine rs_aload_n d_s_flushMemory_18 rfl rfl ?_
  refine rx_get_ga d_s_flushMemory_19 rfl f_s_10 ?_
  refine rx_cV d_s_flushMemory_22 rfl c_s_162 (by exact np_d_draftFrom) rw_d (k_draftFrom hP12 (by decide) (by omega)) (by decide) ⟨rfl, rfl⟩ (Nat.le_of_ble_eq_true rfl) rfl ?_
  refine rsV_eq (h' := (rwd G (rp_fK K P) (rp_fV K V P) (rp_fc K c P) P r md up wl cu hf)) rfl ?_
  refine rs_aload_n d_s_flushMemory_25 rfl rfl ?_
  refine rs_aload_n d_s_flushMemory_26 rfl rfl ?_
  refine rx_get_di d_s_flushMemory_27 rfl f_s_19 ?_
  refine rx_cV d_s_flushMemory_30 rfl c_s_54 (by exact np_d_countRuns) rw_d (k_countRuns) (by decide) ⟨rfl, rfl⟩ (Nat.le_of_ble_eq_true rfl) rfl ?_
  refine rs_bipush (v := (nI 12)) d_s_flushMemory_33 rfl (by decide) ?_
  refine rs_icmp_ge (tgt := 42) d_s_flushMemory_35 rfl (by decide) (fun hc => absurd hc (nI_ge (by omega) (by omega))) (fun _ => ?_)
  refine rs_iconst (v := 1) d_s_flushMemory_38 rfl (by decide) ?_
  refine rs_goto (tgt := 43) d_s_flushMemory_39 (by decide) ?_
  exact rx_tV d_s_flushMemory_43 c_s_166 (by exact np_s_writeDraft) rw_x (k_wd_noroom hs hP (rp_fc_le hc) hr) (by decide) (by decide) (Nat.le_of_ble_eq_true rfl) rfl rfl ⟨rfl, rfl, rfl⟩
set_option maxRecDepth 100000 in
theorem k_fl_down {G : rsG} {n : Nat} {K V : Nat → Nat → Int32} {c P r : Nat → Nat} {md up wl cu : Int32} {hf : rsH} (hs : rp_sum r 3 ≤ 12) (hP : ∀ i, i < 13 → P i ≤ 12) (hc : ∀ i, i < 13 → c (P i) ≤ 100) (h13 : c 13 ≤ 100) (h0 : 0 < c 13) (hlt : rp_sum r 3 < 12) (hr : nI ((rp_fc K c P (P 12) + 3) / 4) ≤ (nI 40 - nI (rp_blk (rp_fc K c P) P (rp_sum r 3)))) (hw : rp_sp wl (nI (((rp_fc K c P (P 12) + 3) / 4) + 1)) = none) : rsK G M_s_flushMemory (rmT 8 133) [.ref (rsB G)] (rwd G K V c P r md up wl cu hf) n (rsTh 1 (rwd G (va_up (rp_fK K P) 13 (fun _ => 0)) (rp_fV K V P) (va_up (rp_fc K c P) 13 0) P r md 0 (-1) (-1) hf) (n + 1)) := by
  refine rsK_of pf_s_flushMemory rfl (Nat.le_of_ble_eq_true rfl) rfl ?_
  have hP12 := hP 12 (by decide)
  refine rs_aload_n d_s_flushMemory_0 rfl rfl ?_
  refine rx_get_ga d_s_flushMemory_1 rfl f_s_10 ?_
  refine rx_cV d_s_flushMemory_4 rfl c_s_71 (by exact np_e_count) (rw_e (by decide)) (k_count (by decide)) (by decide) ⟨rfl, rfl⟩ (Nat.le_of_ble_eq_true rfl) rfl ?_
  refine rs_istore_n d_s_flushMemory_7 rfl (by decide) rfl ?_
  refine rs_iload_n d_s_flushMemory_8 rfl rfl ?_
  refine rs_if_ne (tgt := 14) d_s_flushMemory_9 rfl (by decide) (fun _ => ?_) (fun hc => absurd hc (nI_ne0 (by omega) (by omega)))
  refine rs_aload_n d_s_flushMemory_14 rfl rfl ?_
  refine rx_get_di d_s_flushMemory_15 rfl f_s_19 ?_
  refine rs_aload_n d_s_flushMemory_18 rfl rfl ?_
  refine rx_get_ga d_s_flushMemory_19 rfl f_s_10 ?_
  refine rx_cV d_s_flushMemory_22 rfl c_s_162 (by exact np_d_draftFrom) rw_d (k_draftFrom hP12 (by decide) (by omega)) (by decide) ⟨rfl, rfl⟩ (Nat.le_of_ble_eq_true rfl) rfl ?_
  refine rsV_eq (h' := (rwd G (rp_fK K P) (rp_fV K V P) (rp_fc K c P) P r md up wl cu hf)) rfl ?_
  refine rs_aload_n d_s_flushMemory_25 rfl rfl ?_
  refine rs_aload_n d_s_flushMemory_26 rfl rfl ?_
  refine rx_get_di d_s_flushMemory_27 rfl f_s_19 ?_
  refine rx_cV d_s_flushMemory_30 rfl c_s_54 (by exact np_d_countRuns) rw_d (k_countRuns) (by decide) ⟨rfl, rfl⟩ (Nat.le_of_ble_eq_true rfl) rfl ?_
  refine rs_bipush (v := (nI 12)) d_s_flushMemory_33 rfl (by decide) ?_
  refine rs_icmp_ge (tgt := 42) d_s_flushMemory_35 rfl (by decide) (fun hc => absurd hc (nI_ge (by omega) (by omega))) (fun _ => ?_)
  refine rs_iconst (v := 1) d_s_flushMemory_38 rfl (by decide) ?_
  refine rs_goto (tgt := 43) d_s_flushMemory_39 (by decide) ?_
  exact rx_tV d_s_flushMemory_43 c_s_166 (by exact np_s_writeDraft) rw_x (k_wd_down hs hP (rp_fc_le hc) hr hw) (by decide) (by decide) (Nat.le_of_ble_eq_true rfl) rfl rfl ⟨rfl, rfl, rfl⟩
set_option maxRecDepth 100000 in
theorem k_fl_ok {G : rsG} {n : Nat} {K V : Nat → Nat → Int32} {c P r : Nat → Nat} {md up wl cu : Int32} {hf : rsH} (hs : rp_sum r 3 ≤ 12) (hP : ∀ i, i < 13 → P i ≤ 12) (hc : ∀ i, i < 13 → c (P i) ≤ 100) (h13 : c 13 ≤ 100) (h0 : 0 < c 13) (hlt : rp_sum r 3 < 12) (hr : nI ((rp_fc K c P (P 12) + 3) / 4) ≤ (nI 40 - nI (rp_blk (rp_fc K c P) P (rp_sum r 3)))) {wl' : Int32} (hw : rp_sp wl (nI (((rp_fc K c P (P 12) + 3) / 4) + 1)) = some wl') : rsK G M_s_flushMemory (rmO 8 133) [.ref (rsB G)] (rwd G K V c P r md up wl cu hf) n (rsOk (some (.int (nI (c 13)))) (rwd G (va_up (rp_fK K P) 13 (fun _ => 0)) (rp_fV K V P) (va_up (rp_fc K c P) 13 0) (rp_mvd P 0) (va_up r 0 (r 0 + 1)) md up wl' cu hf) n) := by
  refine rsK_of pf_s_flushMemory rfl (Nat.le_of_ble_eq_true rfl) rfl ?_
  have hP12 := hP 12 (by decide)
  refine rs_aload_n d_s_flushMemory_0 rfl rfl ?_
  refine rx_get_ga d_s_flushMemory_1 rfl f_s_10 ?_
  refine rx_cV d_s_flushMemory_4 rfl c_s_71 (by exact np_e_count) (rw_e (by decide)) (k_count (by decide)) (by decide) ⟨rfl, rfl⟩ (Nat.le_of_ble_eq_true rfl) rfl ?_
  refine rs_istore_n d_s_flushMemory_7 rfl (by decide) rfl ?_
  refine rs_iload_n d_s_flushMemory_8 rfl rfl ?_
  refine rs_if_ne (tgt := 14) d_s_flushMemory_9 rfl (by decide) (fun _ => ?_) (fun hc => absurd hc (nI_ne0 (by omega) (by omega)))
  refine rs_aload_n d_s_flushMemory_14 rfl rfl ?_
  refine rx_get_di d_s_flushMemory_15 rfl f_s_19 ?_
  refine rs_aload_n d_s_flushMemory_18 rfl rfl ?_
  refine rx_get_ga d_s_flushMemory_19 rfl f_s_10 ?_
  refine rx_cV d_s_flushMemory_22 rfl c_s_162 (by exact np_d_draftFrom) rw_d (k_draftFrom hP12 (by decide) (by omega)) (by decide) ⟨rfl, rfl⟩ (Nat.le_of_ble_eq_true rfl) rfl ?_
  refine rsV_eq (h' := (rwd G (rp_fK K P) (rp_fV K V P) (rp_fc K c P) P r md up wl cu hf)) rfl ?_
  refine rs_aload_n d_s_flushMemory_25 rfl rfl ?_
  refine rs_aload_n d_s_flushMemory_26 rfl rfl ?_
  refine rx_get_di d_s_flushMemory_27 rfl f_s_19 ?_
  refine rx_cV d_s_flushMemory_30 rfl c_s_54 (by exact np_d_countRuns) rw_d (k_countRuns) (by decide) ⟨rfl, rfl⟩ (Nat.le_of_ble_eq_true rfl) rfl ?_
  refine rs_bipush (v := (nI 12)) d_s_flushMemory_33 rfl (by decide) ?_
  refine rs_icmp_ge (tgt := 42) d_s_flushMemory_35 rfl (by decide) (fun hc => absurd hc (nI_ge (by omega) (by omega))) (fun _ => ?_)
  refine rs_iconst (v := 1) d_s_flushMemory_38 rfl (by decide) ?_
  refine rs_goto (tgt := 43) d_s_flushMemory_39 (by decide) ?_
  refine rx_cV d_s_flushMemory_43 rfl c_s_166 (by exact np_s_writeDraft) rw_x (k_wd_ok hs hP (rp_fc_le hc) hr hw) (by decide) ⟨rfl, rfl⟩ (Nat.le_of_ble_eq_true rfl) rfl ?_
  refine rs_aload_n d_s_flushMemory_46 rfl rfl ?_
  refine rx_get_di d_s_flushMemory_47 rfl f_s_19 ?_
  refine rx_cV d_s_flushMemory_50 rfl c_s_170 (by exact np_d_listDraftAsFlushed) rw_d (k_listFlushed hP) (by decide) ⟨rfl, rfl⟩ (Nat.le_of_ble_eq_true rfl) rfl ?_
  refine rs_aload_n d_s_flushMemory_53 rfl rfl ?_
  refine rx_get_ga d_s_flushMemory_54 rfl f_s_10 ?_
  refine rx_cV d_s_flushMemory_57 rfl c_s_139 (by exact np_e_clear) (rw_e (by decide)) (k_clear (by decide)) (by decide) ⟨rfl, rfl⟩ (Nat.le_of_ble_eq_true rfl) rfl ?_
  refine rs_iload_n d_s_flushMemory_60 rfl rfl ?_
  exact rs_ireturn d_s_flushMemory_61 rfl ⟨rfl, rfl, rfl⟩
set_option maxRecDepth 100000 in
theorem k_ml_zero {G : rsG} {n : Nat} {K V : Nat → Nat → Int32} {c P r : Nat → Nat} {md up wl cu : Int32} {hf : rsH} {lv : Nat} (hl : lv < 3) (h0 : r lv = 0) : rsK G M_s_mergeLevel (rmO 8 133) [.ref (rsB G), .int (nI lv)] (rwd G K V c P r md up wl cu hf) n (rsOk (some (.int 0)) (rwd G K V c P r md up wl cu hf) n) := by
  refine rsK_of pf_s_mergeLevel rfl (Nat.le_of_ble_eq_true rfl) rfl ?_
  refine rs_aload_n d_s_mergeLevel_0 rfl rfl ?_
  refine rx_get_di d_s_mergeLevel_1 rfl f_s_19 ?_
  refine rs_iload_n d_s_mergeLevel_4 rfl rfl ?_
  refine rx_cV d_s_mergeLevel_5 rfl c_s_112 (by exact np_d_countRunsOf) rw_d (k_countRunsOf hl) (by decide) ⟨rfl, rfl⟩ (Nat.le_of_ble_eq_true rfl) rfl ?_
  refine rs_if_ne (tgt := 13) d_s_mergeLevel_8 rfl (by decide) (fun hc => absurd (by rw [h0]; exact nI_0) hc) (fun _ => ?_)
  refine rs_iconst (v := 0) d_s_mergeLevel_11 rfl (by decide) ?_
  exact rs_ireturn d_s_mergeLevel_12 rfl ⟨rfl, rfl, rfl⟩
set_option maxRecDepth 100000 in
theorem k_ml_noroom {G : rsG} {n : Nat} {K V K1 V1 : Nat → Nat → Int32} {c P r c1 : Nat → Nat} {md up wl cu : Int32} {hf : rsH} {lv : Nat} (hl : lv < 3) (h0 : 0 < r lv) (hs : rp_sum r 3 ≤ 12) (hP : ∀ i, i < 13 → P i ≤ 12) (hr12 : r lv ≤ 12) (hc1 : ∀ i, i < 13 → c1 (P i) ≤ 100) (hD : rsK G M_d_draftFromLevel (rmO 3 66) [.ref (rsB G + 4), .int (nI lv)] (rwd G K V c P r md up wl cu hf) n (rsOk none (rwd G K1 V1 c1 P r md up wl cu hf) n)) (hr : ¬ nI ((c1 (P 12) + 3) / 4) ≤ (nI 40 - nI (rp_blk c1 P (rp_sum r 3)))) : rsK G M_s_mergeLevel (rmT 8 133) [.ref (rsB G), .int (nI lv)] (rwd G K V c P r md up wl cu hf) n (rsTh 2 (rwd G K1 V1 c1 P r md up wl cu hf) (n + 1)) := by
  refine rsK_of pf_s_mergeLevel rfl (Nat.le_of_ble_eq_true rfl) rfl ?_
  have hd : P 12 ≤ 13 := by have := hP 12 (by decide); omega
  refine rs_aload_n d_s_mergeLevel_0 rfl rfl ?_
  refine rx_get_di d_s_mergeLevel_1 rfl f_s_19 ?_
  refine rs_iload_n d_s_mergeLevel_4 rfl rfl ?_
  refine rx_cV d_s_mergeLevel_5 rfl c_s_112 (by exact np_d_countRunsOf) rw_d (k_countRunsOf hl) (by decide) ⟨rfl, rfl⟩ (Nat.le_of_ble_eq_true rfl) rfl ?_
  refine rs_if_ne (tgt := 13) d_s_mergeLevel_8 rfl (by decide) (fun _ => ?_) (fun hc => absurd hc (nI_ne0 h0 (by omega)))
  refine rs_aload_n d_s_mergeLevel_13 rfl rfl ?_
  refine rx_get_di d_s_mergeLevel_14 rfl f_s_19 ?_
  refine rs_iload_n d_s_mergeLevel_17 rfl rfl ?_
  refine rx_cV d_s_mergeLevel_18 rfl c_s_173 (by exact np_d_draftFromLevel) rw_d (hD) (by decide) ⟨rfl, rfl⟩ (Nat.le_of_ble_eq_true rfl) rfl ?_
  refine rs_aload_n d_s_mergeLevel_21 rfl rfl ?_
  refine rx_get_di d_s_mergeLevel_22 rfl f_s_19 ?_
  refine rx_cV d_s_mergeLevel_25 rfl c_s_147 (by exact np_d_draft) rw_d (k_draft) (by decide) ⟨rfl, rfl⟩ (Nat.le_of_ble_eq_true rfl) rfl ?_
  refine rx_cV d_s_mergeLevel_28 rfl c_s_71 (by exact np_e_count) (rw_e hd) (k_count hd) (by decide) ⟨rfl, rfl⟩ (Nat.le_of_ble_eq_true rfl) rfl ?_
  refine rs_istore_n d_s_mergeLevel_31 rfl (by decide) rfl ?_
  refine rs_aload_n d_s_mergeLevel_32 rfl rfl ?_
  refine rs_iconst (v := 1) d_s_mergeLevel_33 rfl (by decide) ?_
  exact rx_tV d_s_mergeLevel_34 c_s_166 (by exact np_s_writeDraft) rw_x (k_wd_noroom hs hP hc1 hr) (by decide) (by decide) (Nat.le_of_ble_eq_true rfl) rfl rfl ⟨rfl, rfl, rfl⟩
set_option maxRecDepth 100000 in
theorem k_ml_down {G : rsG} {n : Nat} {K V K1 V1 : Nat → Nat → Int32} {c P r c1 : Nat → Nat} {md up wl cu : Int32} {hf : rsH} {lv : Nat} (hl : lv < 3) (h0 : 0 < r lv) (hs : rp_sum r 3 ≤ 12) (hP : ∀ i, i < 13 → P i ≤ 12) (hr12 : r lv ≤ 12) (hc1 : ∀ i, i < 13 → c1 (P i) ≤ 100) (hD : rsK G M_d_draftFromLevel (rmO 3 66) [.ref (rsB G + 4), .int (nI lv)] (rwd G K V c P r md up wl cu hf) n (rsOk none (rwd G K1 V1 c1 P r md up wl cu hf) n)) (hr : nI ((c1 (P 12) + 3) / 4) ≤ (nI 40 - nI (rp_blk c1 P (rp_sum r 3)))) (hw : rp_sp wl (nI (((c1 (P 12) + 3) / 4) + 1)) = none) : rsK G M_s_mergeLevel (rmT 8 133) [.ref (rsB G), .int (nI lv)] (rwd G K V c P r md up wl cu hf) n (rsTh 1 (rwd G (va_up K1 13 (fun _ => 0)) V1 (va_up c1 13 0) P r md 0 (-1) (-1) hf) (n + 1)) := by
  refine rsK_of pf_s_mergeLevel rfl (Nat.le_of_ble_eq_true rfl) rfl ?_
  have hd : P 12 ≤ 13 := by have := hP 12 (by decide); omega
  refine rs_aload_n d_s_mergeLevel_0 rfl rfl ?_
  refine rx_get_di d_s_mergeLevel_1 rfl f_s_19 ?_
  refine rs_iload_n d_s_mergeLevel_4 rfl rfl ?_
  refine rx_cV d_s_mergeLevel_5 rfl c_s_112 (by exact np_d_countRunsOf) rw_d (k_countRunsOf hl) (by decide) ⟨rfl, rfl⟩ (Nat.le_of_ble_eq_true rfl) rfl ?_
  refine rs_if_ne (tgt := 13) d_s_mergeLevel_8 rfl (by decide) (fun _ => ?_) (fun hc => absurd hc (nI_ne0 h0 (by omega)))
  refine rs_aload_n d_s_mergeLevel_13 rfl rfl ?_
  refine rx_get_di d_s_mergeLevel_14 rfl f_s_19 ?_
  refine rs_iload_n d_s_mergeLevel_17 rfl rfl ?_
  refine rx_cV d_s_mergeLevel_18 rfl c_s_173 (by exact np_d_draftFromLevel) rw_d (hD) (by decide) ⟨rfl, rfl⟩ (Nat.le_of_ble_eq_true rfl) rfl ?_
  refine rs_aload_n d_s_mergeLevel_21 rfl rfl ?_
  refine rx_get_di d_s_mergeLevel_22 rfl f_s_19 ?_
  refine rx_cV d_s_mergeLevel_25 rfl c_s_147 (by exact np_d_draft) rw_d (k_draft) (by decide) ⟨rfl, rfl⟩ (Nat.le_of_ble_eq_true rfl) rfl ?_
  refine rx_cV d_s_mergeLevel_28 rfl c_s_71 (by exact np_e_count) (rw_e hd) (k_count hd) (by decide) ⟨rfl, rfl⟩ (Nat.le_of_ble_eq_true rfl) rfl ?_
  refine rs_istore_n d_s_mergeLevel_31 rfl (by decide) rfl ?_
  refine rs_aload_n d_s_mergeLevel_32 rfl rfl ?_
  refine rs_iconst (v := 1) d_s_mergeLevel_33 rfl (by decide) ?_
  exact rx_tV d_s_mergeLevel_34 c_s_166 (by exact np_s_writeDraft) rw_x (k_wd_down hs hP hc1 hr hw) (by decide) (by decide) (Nat.le_of_ble_eq_true rfl) rfl rfl ⟨rfl, rfl, rfl⟩
set_option maxRecDepth 100000 in
theorem k_ml_ok_none {G : rsG} {n : Nat} {K V K1 V1 : Nat → Nat → Int32} {c P r c1 : Nat → Nat} {md up wl cu : Int32} {hf : rsH} {lv : Nat} (hl : lv < 3) (h0 : 0 < r lv) (hs : rp_sum r 3 ≤ 12) (hP : ∀ i, i < 13 → P i ≤ 12) (hr12 : r lv ≤ 12) (hc1 : ∀ i, i < 13 → c1 (P i) ≤ 100) (hD : rsK G M_d_draftFromLevel (rmO 3 66) [.ref (rsB G + 4), .int (nI lv)] (rwd G K V c P r md up wl cu hf) n (rsOk none (rwd G K1 V1 c1 P r md up wl cu hf) n)) (hr : nI ((c1 (P 12) + 3) / 4) ≤ (nI 40 - nI (rp_blk c1 P (rp_sum r 3)))) {wl' : Int32} (hw : rp_sp wl (nI (((c1 (P 12) + 3) / 4) + 1)) = some wl') (hpl : rp_sum r lv ≤ 12) (hz : c1 (P 12) = 0) : rsK G M_s_mergeLevel (rmO 8 133) [.ref (rsB G), .int (nI lv)] (rwd G K V c P r md up wl cu hf) n (rsOk (some (.int (nI (c1 (P 12))))) (rwd G K1 V1 c1 (rp_mvs P (rp_sum r lv) (r lv)) (va_up r lv 0) md up wl' cu hf) n) := by
  refine rsK_of pf_s_mergeLevel rfl (Nat.le_of_ble_eq_true rfl) rfl ?_
  have hd : P 12 ≤ 13 := by have := hP 12 (by decide); omega
  refine rs_aload_n d_s_mergeLevel_0 rfl rfl ?_
  refine rx_get_di d_s_mergeLevel_1 rfl f_s_19 ?_
  refine rs_iload_n d_s_mergeLevel_4 rfl rfl ?_
  refine rx_cV d_s_mergeLevel_5 rfl c_s_112 (by exact np_d_countRunsOf) rw_d (k_countRunsOf hl) (by decide) ⟨rfl, rfl⟩ (Nat.le_of_ble_eq_true rfl) rfl ?_
  refine rs_if_ne (tgt := 13) d_s_mergeLevel_8 rfl (by decide) (fun _ => ?_) (fun hc => absurd hc (nI_ne0 h0 (by omega)))
  refine rs_aload_n d_s_mergeLevel_13 rfl rfl ?_
  refine rx_get_di d_s_mergeLevel_14 rfl f_s_19 ?_
  refine rs_iload_n d_s_mergeLevel_17 rfl rfl ?_
  refine rx_cV d_s_mergeLevel_18 rfl c_s_173 (by exact np_d_draftFromLevel) rw_d (hD) (by decide) ⟨rfl, rfl⟩ (Nat.le_of_ble_eq_true rfl) rfl ?_
  refine rs_aload_n d_s_mergeLevel_21 rfl rfl ?_
  refine rx_get_di d_s_mergeLevel_22 rfl f_s_19 ?_
  refine rx_cV d_s_mergeLevel_25 rfl c_s_147 (by exact np_d_draft) rw_d (k_draft) (by decide) ⟨rfl, rfl⟩ (Nat.le_of_ble_eq_true rfl) rfl ?_
  refine rx_cV d_s_mergeLevel_28 rfl c_s_71 (by exact np_e_count) (rw_e hd) (k_count hd) (by decide) ⟨rfl, rfl⟩ (Nat.le_of_ble_eq_true rfl) rfl ?_
  refine rs_istore_n d_s_mergeLevel_31 rfl (by decide) rfl ?_
  refine rs_aload_n d_s_mergeLevel_32 rfl rfl ?_
  refine rs_iconst (v := 1) d_s_mergeLevel_33 rfl (by decide) ?_
  refine rx_cV d_s_mergeLevel_34 rfl c_s_166 (by exact np_s_writeDraft) rw_x (k_wd_ok hs hP hc1 hr hw) (by decide) ⟨rfl, rfl⟩ (Nat.le_of_ble_eq_true rfl) rfl ?_
  refine rs_aload_n d_s_mergeLevel_37 rfl rfl ?_
  refine rx_get_di d_s_mergeLevel_38 rfl f_s_19 ?_
  refine rs_iload_n d_s_mergeLevel_41 rfl rfl ?_
  refine rx_cV d_s_mergeLevel_42 rfl c_s_176 (by exact np_d_listDraftAsMerged) rw_d (k_listMerged_none hl hP hr12 hpl hz) (by decide) ⟨rfl, rfl⟩ (Nat.le_of_ble_eq_true rfl) rfl ?_
  refine rs_iload_n d_s_mergeLevel_45 rfl rfl ?_
  exact rs_ireturn d_s_mergeLevel_46 rfl ⟨rfl, rfl, rfl⟩
set_option maxRecDepth 100000 in
theorem k_ml_ok_some {G : rsG} {n : Nat} {K V K1 V1 : Nat → Nat → Int32} {c P r c1 : Nat → Nat} {md up wl cu : Int32} {hf : rsH} {lv : Nat} (hl : lv < 3) (h0 : 0 < r lv) (hs : rp_sum r 3 ≤ 12) (hP : ∀ i, i < 13 → P i ≤ 12) (hr12 : r lv ≤ 12) (hc1 : ∀ i, i < 13 → c1 (P i) ≤ 100) (hD : rsK G M_d_draftFromLevel (rmO 3 66) [.ref (rsB G + 4), .int (nI lv)] (rwd G K V c P r md up wl cu hf) n (rsOk none (rwd G K1 V1 c1 P r md up wl cu hf) n)) (hr : nI ((c1 (P 12) + 3) / 4) ≤ (nI 40 - nI (rp_blk c1 P (rp_sum r 3)))) {wl' : Int32} (hw : rp_sp wl (nI (((c1 (P 12) + 3) / 4) + 1)) = some wl') (hpl : rp_sum r lv + 1 ≤ 12) (hz : 0 < c1 (P 12)) : rsK G M_s_mergeLevel (rmO 8 133) [.ref (rsB G), .int (nI lv)] (rwd G K V c P r md up wl cu hf) n (rsOk (some (.int (nI (c1 (P 12))))) (rwd G K1 V1 c1 (rp_mvs (rp_mvd P (rp_sum r lv)) (rp_sum r lv + 1) (r lv)) (va_up (va_up r lv 0) (min (lv + 1) 2) (va_up r lv 0 (min (lv + 1) 2) + 1)) md up wl' cu hf) n) := by
  refine rsK_of pf_s_mergeLevel rfl (Nat.le_of_ble_eq_true rfl) rfl ?_
  have hd : P 12 ≤ 13 := by have := hP 12 (by decide); omega
  refine rs_aload_n d_s_mergeLevel_0 rfl rfl ?_
  refine rx_get_di d_s_mergeLevel_1 rfl f_s_19 ?_
  refine rs_iload_n d_s_mergeLevel_4 rfl rfl ?_
  refine rx_cV d_s_mergeLevel_5 rfl c_s_112 (by exact np_d_countRunsOf) rw_d (k_countRunsOf hl) (by decide) ⟨rfl, rfl⟩ (Nat.le_of_ble_eq_true rfl) rfl ?_
  refine rs_if_ne (tgt := 13) d_s_mergeLevel_8 rfl (by decide) (fun _ => ?_) (fun hc => absurd hc (nI_ne0 h0 (by omega)))
  refine rs_aload_n d_s_mergeLevel_13 rfl rfl ?_
  refine rx_get_di d_s_mergeLevel_14 rfl f_s_19 ?_
  refine rs_iload_n d_s_mergeLevel_17 rfl rfl ?_
  refine rx_cV d_s_mergeLevel_18 rfl c_s_173 (by exact np_d_draftFromLevel) rw_d (hD) (by decide) ⟨rfl, rfl⟩ (Nat.le_of_ble_eq_true rfl) rfl ?_
  refine rs_aload_n d_s_mergeLevel_21 rfl rfl ?_
  refine rx_get_di d_s_mergeLevel_22 rfl f_s_19 ?_
  refine rx_cV d_s_mergeLevel_25 rfl c_s_147 (by exact np_d_draft) rw_d (k_draft) (by decide) ⟨rfl, rfl⟩ (Nat.le_of_ble_eq_true rfl) rfl ?_
  refine rx_cV d_s_mergeLevel_28 rfl c_s_71 (by exact np_e_count) (rw_e hd) (k_count hd) (by decide) ⟨rfl, rfl⟩ (Nat.le_of_ble_eq_true rfl) rfl ?_
  refine rs_istore_n d_s_mergeLevel_31 rfl (by decide) rfl ?_
  refine rs_aload_n d_s_mergeLevel_32 rfl rfl ?_
  refine rs_iconst (v := 1) d_s_mergeLevel_33 rfl (by decide) ?_
  refine rx_cV d_s_mergeLevel_34 rfl c_s_166 (by exact np_s_writeDraft) rw_x (k_wd_ok hs hP hc1 hr hw) (by decide) ⟨rfl, rfl⟩ (Nat.le_of_ble_eq_true rfl) rfl ?_
  refine rs_aload_n d_s_mergeLevel_37 rfl rfl ?_
  refine rx_get_di d_s_mergeLevel_38 rfl f_s_19 ?_
  refine rs_iload_n d_s_mergeLevel_41 rfl rfl ?_
  refine rx_cV d_s_mergeLevel_42 rfl c_s_176 (by exact np_d_listDraftAsMerged) rw_d (k_listMerged_some hl hP hr12 hpl hz (hc1 12 (by decide))) (by decide) ⟨rfl, rfl⟩ (Nat.le_of_ble_eq_true rfl) rfl ?_
  refine rs_iload_n d_s_mergeLevel_45 rfl rfl ?_
  exact rs_ireturn d_s_mergeLevel_46 rfl ⟨rfl, rfl, rfl⟩
set_option maxRecDepth 100000 in
theorem k_mp_few {G : rsG} {n : Nat} {K V : Nat → Nat → Int32} {c P r : Nat → Nat} {md up wl cu : Int32} {hf : rsH} {key : Nat} (h8 : c 13 < 8) : rsK G M_s_makePlaceInMemory (rmO 9 154) [.ref (rsB G), .int (nI key)] (rwd G K V c P r md up wl cu hf) n (rsOk (none) (rwd G K V c P r md up wl cu hf) n) := by
  refine rsK_of pf_s_makePlaceInMemory rfl (Nat.le_of_ble_eq_true rfl) rfl ?_
  refine rs_aload_n d_s_makePlaceInMemory_0 rfl rfl ?_
  refine rx_get_ga d_s_makePlaceInMemory_1 rfl f_s_10 ?_
  refine rx_cV d_s_makePlaceInMemory_4 rfl c_s_71 (by exact np_e_count) (rw_e (by decide)) (k_count (by decide)) (by decide) ⟨rfl, rfl⟩ (Nat.le_of_ble_eq_true rfl) rfl ?_
  refine rs_bipush (v := (nI 8)) d_s_makePlaceInMemory_7 rfl (by decide) ?_
  refine rs_icmp_lt (tgt := 28) d_s_makePlaceInMemory_9 rfl (by decide) (fun _ => ?_) (fun hc => absurd (nI_lt h8 (by omega)) hc)
  exact rs_vreturn d_s_makePlaceInMemory_28 rfl ⟨rfl, rfl, rfl⟩
set_option maxRecDepth 100000 in
theorem k_mp_has {G : rsG} {n : Nat} {K V : Nat → Nat → Int32} {c P r : Nat → Nat} {md up wl cu : Int32} {hf : rsH} {key : Nat} (hk : key < 100) (h13 : c 13 ≤ 100) (h8 : 8 ≤ c 13) (h0 : ¬ K 13 key = 0) : rsK G M_s_makePlaceInMemory (rmO 9 154) [.ref (rsB G), .int (nI key)] (rwd G K V c P r md up wl cu hf) n (rsOk (none) (rwd G K V c P r md up wl cu hf) n) := by
  refine rsK_of pf_s_makePlaceInMemory rfl (Nat.le_of_ble_eq_true rfl) rfl ?_
  refine rs_aload_n d_s_makePlaceInMemory_0 rfl rfl ?_
  refine rx_get_ga d_s_makePlaceInMemory_1 rfl f_s_10 ?_
  refine rx_cV d_s_makePlaceInMemory_4 rfl c_s_71 (by exact np_e_count) (rw_e (by decide)) (k_count (by decide)) (by decide) ⟨rfl, rfl⟩ (Nat.le_of_ble_eq_true rfl) rfl ?_
  refine rs_bipush (v := (nI 8)) d_s_makePlaceInMemory_7 rfl (by decide) ?_
  refine rs_icmp_lt (tgt := 28) d_s_makePlaceInMemory_9 rfl (by decide) (fun hc => absurd hc (nI_nlt h8 (by omega))) (fun _ => ?_)
  refine rs_aload_n d_s_makePlaceInMemory_12 rfl rfl ?_
  refine rx_get_ga d_s_makePlaceInMemory_13 rfl f_s_10 ?_
  refine rs_iload_n d_s_makePlaceInMemory_16 rfl rfl ?_
  refine rx_cV d_s_makePlaceInMemory_17 rfl c_s_159 (by exact np_e_holds) (rw_e (by decide)) (k_holds (by decide) hk) (by decide) ⟨rfl, rfl⟩ (Nat.le_of_ble_eq_true rfl) rfl ?_
  rw [if_neg h0]
  refine rs_if_ne (tgt := 28) d_s_makePlaceInMemory_20 rfl (by decide) (fun _ => ?_) (fun hc => absurd hc (by decide))
  exact rs_vreturn d_s_makePlaceInMemory_28 rfl ⟨rfl, rfl, rfl⟩
set_option maxRecDepth 100000 in
theorem k_mp_ok {G : rsG} {n : Nat} {K V : Nat → Nat → Int32} {c P r : Nat → Nat} {md up wl cu : Int32} {hf : rsH} {key : Nat} (hk : key < 100) (h13 : c 13 ≤ 100) (h8 : 8 ≤ c 13) (h0 : K 13 key = 0) {h' : rsH} {n' : Nat} {v : Int32} (hF : rsK G M_s_flushMemory (rmO 8 133) [.ref (rsB G)] (rwd G K V c P r md up wl cu hf) n (rsOk (some (.int v)) h' n')) : rsK G M_s_makePlaceInMemory (rmO 9 154) [.ref (rsB G), .int (nI key)] (rwd G K V c P r md up wl cu hf) n (rsOk (none) h' n') := by
  refine rsK_of pf_s_makePlaceInMemory rfl (Nat.le_of_ble_eq_true rfl) rfl ?_
  refine rs_aload_n d_s_makePlaceInMemory_0 rfl rfl ?_
  refine rx_get_ga d_s_makePlaceInMemory_1 rfl f_s_10 ?_
  refine rx_cV d_s_makePlaceInMemory_4 rfl c_s_71 (by exact np_e_count) (rw_e (by decide)) (k_count (by decide)) (by decide) ⟨rfl, rfl⟩ (Nat.le_of_ble_eq_true rfl) rfl ?_
  refine rs_bipush (v := (nI 8)) d_s_makePlaceInMemory_7 rfl (by decide) ?_
  refine rs_icmp_lt (tgt := 28) d_s_makePlaceInMemory_9 rfl (by decide) (fun hc => absurd hc (nI_nlt h8 (by omega))) (fun _ => ?_)
  refine rs_aload_n d_s_makePlaceInMemory_12 rfl rfl ?_
  refine rx_get_ga d_s_makePlaceInMemory_13 rfl f_s_10 ?_
  refine rs_iload_n d_s_makePlaceInMemory_16 rfl rfl ?_
  refine rx_cV d_s_makePlaceInMemory_17 rfl c_s_159 (by exact np_e_holds) (rw_e (by decide)) (k_holds (by decide) hk) (by decide) ⟨rfl, rfl⟩ (Nat.le_of_ble_eq_true rfl) rfl ?_
  rw [if_pos h0]
  refine rs_if_ne (tgt := 28) d_s_makePlaceInMemory_20 rfl (by decide) (fun hc => absurd (rfl) hc) (fun _ => ?_)
  refine rs_aload_n d_s_makePlaceInMemory_23 rfl rfl ?_
  refine rx_cV d_s_makePlaceInMemory_24 rfl c_s_90 (by exact np_s_flushMemory) rw_x (hF) (by decide) ⟨rfl, rfl⟩ (Nat.le_of_ble_eq_true rfl) rfl ?_
  refine rs_pop d_s_makePlaceInMemory_27 rfl rfl ?_
  exact rs_vreturn d_s_makePlaceInMemory_28 rfl ⟨rfl, rfl, rfl⟩
set_option maxRecDepth 100000 in
theorem k_mp_th {G : rsG} {n : Nat} {K V : Nat → Nat → Int32} {c P r : Nat → Nat} {md up wl cu : Int32} {hf : rsH} {key : Nat} (hk : key < 100) (h13 : c 13 ≤ 100) (h8 : 8 ≤ c 13) (h0 : K 13 key = 0) {h' : rsH} {n' : Nat} {k : Nat} (hF : rsK G M_s_flushMemory (rmT 8 133) [.ref (rsB G)] (rwd G K V c P r md up wl cu hf) n (rsTh k h' n')) : rsK G M_s_makePlaceInMemory (rmT 9 154) [.ref (rsB G), .int (nI key)] (rwd G K V c P r md up wl cu hf) n (rsTh k h' n') := by
  refine rsK_of pf_s_makePlaceInMemory rfl (Nat.le_of_ble_eq_true rfl) rfl ?_
  refine rs_aload_n d_s_makePlaceInMemory_0 rfl rfl ?_
  refine rx_get_ga d_s_makePlaceInMemory_1 rfl f_s_10 ?_
  refine rx_cV d_s_makePlaceInMemory_4 rfl c_s_71 (by exact np_e_count) (rw_e (by decide)) (k_count (by decide)) (by decide) ⟨rfl, rfl⟩ (Nat.le_of_ble_eq_true rfl) rfl ?_
  refine rs_bipush (v := (nI 8)) d_s_makePlaceInMemory_7 rfl (by decide) ?_
  refine rs_icmp_lt (tgt := 28) d_s_makePlaceInMemory_9 rfl (by decide) (fun hc => absurd hc (nI_nlt h8 (by omega))) (fun _ => ?_)
  refine rs_aload_n d_s_makePlaceInMemory_12 rfl rfl ?_
  refine rx_get_ga d_s_makePlaceInMemory_13 rfl f_s_10 ?_
  refine rs_iload_n d_s_makePlaceInMemory_16 rfl rfl ?_
  refine rx_cV d_s_makePlaceInMemory_17 rfl c_s_159 (by exact np_e_holds) (rw_e (by decide)) (k_holds (by decide) hk) (by decide) ⟨rfl, rfl⟩ (Nat.le_of_ble_eq_true rfl) rfl ?_
  rw [if_pos h0]
  refine rs_if_ne (tgt := 28) d_s_makePlaceInMemory_20 rfl (by decide) (fun hc => absurd (rfl) hc) (fun _ => ?_)
  refine rs_aload_n d_s_makePlaceInMemory_23 rfl rfl ?_
  exact rx_tV d_s_makePlaceInMemory_24 c_s_90 (by exact np_s_flushMemory) rw_x (hF) (by decide) (by decide) (Nat.le_of_ble_eq_true rfl) rfl rfl ⟨rfl, rfl, rfl⟩
