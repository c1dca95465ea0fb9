/-! 14: the methods of Disk, Math.min (written by gen_disk.py) -/
def rp_sum (f : Nat → Nat) : Nat → Nat
  | 0 => 0
  | n + 1 => rp_sum f n + f n
theorem rs_subsub (a : Int32) (b x : Nat) : a - nI b - nI x = a - nI (b + x) := by
  rw [← nI_add]
  apply Int32.toBitVec_inj.mp
  simp [Int32.toBitVec_sub, Int32.toBitVec_add, BitVec.sub_eq_add_neg, BitVec.neg_add, BitVec.add_assoc]
theorem rs_dec1 (i : Nat) : nI (i + 1) + Int32.ofInt (-1) = nI i := pk_m1 i
section RSWR
variable {G : rsG} {K V : Nat → Nat → Int32} {c P r r' : Nat → Nat} {md up wl cu : Int32} {hf : rsH}
theorem rw_set_r2 : rs_up (rwd G K V c P r md up wl cu hf) (rsB G + 45) (.inl (G.2.2.2.1, 3, .inl (fun i => nI (r' i)))) = rwd G K V c P r' md up wl cu hf := by
  unfold rs_up
  funext q
  by_cases hq : q = rsB G + 45
  · subst hq; rw [if_pos rfl, rw_r]
  · rw [if_neg hq]
    unfold rwd
    have h0 : rw_nd (rsB G) q ≠ (3, 0) := fun h1 => hq (rw_nd_inj (h1.trans (rw_nd_r _).symm) (by rw [h1]; decide))
    have h1 : (rw_nd (rsB G) q).1 ≠ 3 := fun h2 => h0 (Prod.ext h2 (rw_nd_s (by rw [h2]; decide)))
    generalize rw_nd (rsB G) q = w at h1
    obtain ⟨t, j⟩ := w
    match t, h1 with
    | 0, _ => rfl
    | 1, _ => rfl
    | 2, _ => rfl
    | 4, _ => rfl
    | 5, _ => rfl
    | 6, _ => rfl
    | t + 7, _ => rfl
end RSWR
set_option maxRecDepth 100000 in
theorem k_min {G : rsG} {n : Nat} {h : rsH} {x y : Nat} (hx : x < 2 ^ 31) (hy : y < 2 ^ 31) : rsK G M_a_min (rmO 0 0) [.int (nI x), .int (nI y)] h n (rsOk (some (.int (nI (min x y)))) h n) := by
  refine rsK_of pf_a_min rfl (Nat.le_of_ble_eq_true rfl) rfl ?_
  refine rs_iload_n d_a_min_0 rfl rfl ?_
  refine rs_iload_n d_a_min_1 rfl rfl ?_
  refine rs_icmp_gt (tgt := 9) d_a_min_2 rfl (by decide) (fun hc => ?_) (fun hc => ?_)
  · refine rs_iload_n d_a_min_9 rfl rfl ?_
    rw [nI_ltI hy hx] at hc
    exact rs_ireturn d_a_min_10 rfl ⟨by rw [Nat.min_eq_right (by omega)], rfl, rfl⟩
  · refine rs_iload_n d_a_min_5 rfl rfl ?_
    refine rs_goto (tgt := 10) d_a_min_6 (by decide) ?_
    rw [nI_ltI hy hx] at hc
    exact rs_ireturn d_a_min_10 rfl ⟨by rw [Nat.min_eq_left (by omega)], rfl, rfl⟩
set_option maxRecDepth 100000 in
theorem k_isMade {G : rsG} {n : Nat} {K V : Nat → Nat → Int32} {c P r : Nat → Nat} {md up wl cu : Int32} {hf : rsH} (hb : narrow .boolean (.int md) = .int md) : rsK G M_d_isMade (rmO 0 0) [.ref (rsB G + 4)] (rwd G K V c P r md up wl cu hf) n (rsOk (some (.int md)) (rwd G K V c P r md up wl cu hf) n) := by
  refine rsK_of pf_d_isMade rfl (Nat.le_of_ble_eq_true rfl) rfl ?_
  refine rs_aload_n d_d_isMade_0 rfl rfl ?_
  refine rx_get_md d_d_isMade_1 rfl f_d_22 ?_
  exact rs_zreturn d_d_isMade_4 rfl hb ⟨rfl, rfl, rfl⟩
set_option maxRecDepth 100000 in
theorem k_makeAnew {G : rsG} {n : Nat} {K V : Nat → Nat → Int32} {c P r : Nat → Nat} {md up wl cu : Int32} {hf : rsH}  : rsK G M_d_makeAnew (rmO 1 23) [.ref (rsB G + 4)] (rwd G K V c P r md up wl cu hf) n (rsOk (none) (rwd G K V c P (fun _ => 0) 1 up wl cu hf) n) := by
  refine rsK_of pf_d_makeAnew rfl (Nat.le_of_ble_eq_true rfl) rfl ?_
  refine rs_aload_n d_d_makeAnew_0 rfl rfl ?_
  refine rx_get_ro d_d_makeAnew_1 rfl f_d_18 ?_
  refine rs_iconst (v := 0) d_d_makeAnew_4 rfl (by decide) ?_
  refine rx_cS d_d_makeAnew_5 rfl c_d_26 (by exact np_a_fill) (k_fill rw_r (by decide)) (by decide) ⟨rfl, rfl⟩ (Nat.le_of_ble_eq_true rfl) rfl ?_
  rw [show (fun _ : Nat => (0 : Int32)) = fun i => nI ((fun _ : Nat => 0) i) from funext fun _ => nI_0.symm, rw_set_r2]
  refine rs_aload_n d_d_makeAnew_8 rfl rfl ?_
  refine rs_iconst (v := 1) d_d_makeAnew_9 rfl (by decide) ?_
  refine rx_put_md d_d_makeAnew_10 rfl p_d_22 rfl rfl ?_
  exact rs_vreturn d_d_makeAnew_13 rfl ⟨rfl, rfl, rfl⟩
set_option maxRecDepth 100000 in
theorem k_countRunsOf {G : rsG} {n : Nat} {K V : Nat → Nat → Int32} {c P r : Nat → Nat} {md up wl cu : Int32} {hf : rsH} {lv : Nat} (hl : lv < 3) : rsK G M_d_countRunsOf (rmO 0 0) [.ref (rsB G + 4), .int (nI lv)] (rwd G K V c P r md up wl cu hf) n (rsOk (some (.int (nI (r lv)))) (rwd G K V c P r md up wl cu hf) n) := by
  refine rsK_of pf_d_countRunsOf rfl (Nat.le_of_ble_eq_true rfl) rfl ?_
  refine rs_aload_n d_d_countRunsOf_0 rfl rfl ?_
  refine rx_get_ro d_d_countRunsOf_1 rfl f_d_18 ?_
  refine rs_iload_n d_d_countRunsOf_4 rfl rfl ?_
  refine rx_ld_r (by first | assumption | omega) d_d_countRunsOf_5 rfl ?_
  exact rs_ireturn d_d_countRunsOf_6 rfl ⟨rfl, rfl, rfl⟩
set_option maxRecDepth 100000 in
theorem k_firstPlaceOf {G : rsG} {n : Nat} {K V : Nat → Nat → Int32} {c P r : Nat → Nat} {md up wl cu : Int32} {hf : rsH} {lv : Nat} (hl : lv ≤ 3) : rsK G M_d_firstPlaceOf (rmO 0 0) [.ref (rsB G + 4), .int (nI lv)] (rwd G K V c P r md up wl cu hf) n (rsOk (some (.int (nI (rp_sum r lv)))) (rwd G K V c P r md up wl cu hf) n) := by
  have loop : ∀ (d i : Nat), i + d = lv → rsV G M_d_firstPlaceOf (rmO 0 0) (rsOk (some (.int (nI (rp_sum r lv)))) (rwd G K V c P r md up wl cu hf) n) 0 0 4 [some (.ref (rsB G + 4)), some (.int (nI lv)), some (.int (nI (rp_sum r i))), some (.int (nI i))] [] (rwd G K V c P r md up wl cu hf) n := by
    intro d
    induction d with
    | zero =>
      intro i hi
      obtain rfl : i = lv := by omega
      refine rs_iload_n d_d_firstPlaceOf_4 rfl rfl ?_
      refine rs_iload_n d_d_firstPlaceOf_5 rfl rfl ?_
      refine rs_icmp_ge (tgt := 24) d_d_firstPlaceOf_6 rfl (by decide) (fun _ => ?_) (fun hc => absurd (nI_le (by omega) (by omega)) hc)
      refine rs_iload_n d_d_firstPlaceOf_24 rfl rfl ?_
      exact rs_ireturn d_d_firstPlaceOf_25 rfl ⟨rfl, rfl, rfl⟩
    | succ d ih =>
      intro i hi
      have hi3 : i < 3 := by omega
      refine rs_iload_n d_d_firstPlaceOf_4 rfl rfl ?_
      refine rs_iload_n d_d_firstPlaceOf_5 rfl rfl ?_
      refine rs_icmp_ge (tgt := 24) d_d_firstPlaceOf_6 rfl (by decide) (fun hc => absurd hc (nI_ge (by omega) (by omega))) (fun _ => ?_)
      refine rs_iload_n d_d_firstPlaceOf_9 rfl rfl ?_
      refine rs_aload_n d_d_firstPlaceOf_10 rfl rfl ?_
      refine rx_get_ro d_d_firstPlaceOf_11 rfl f_d_18 ?_
      refine rs_iload_n d_d_firstPlaceOf_14 rfl rfl ?_
      refine rx_ld_r (by first | assumption | omega) d_d_firstPlaceOf_15 rfl ?_
      refine rs_iadd d_d_firstPlaceOf_16 rfl ?_
      refine rs_tope (nI_add _ _) ?_
      refine rs_istore_n d_d_firstPlaceOf_17 rfl (by decide) rfl ?_
      refine rs_iinc d_d_firstPlaceOf_18 rfl (by decide) rfl (rs_inc1 i) rfl ?_
      refine rs_goto (tgt := 4) d_d_firstPlaceOf_21 (by decide) ?_
      exact ih (i + 1) (by omega)
  refine rsK_of pf_d_firstPlaceOf rfl (Nat.le_of_ble_eq_true rfl) rfl ?_
  refine rs_iconst (v := (nI 0)) d_d_firstPlaceOf_0 rfl (by decide) ?_
  refine rs_istore_n d_d_firstPlaceOf_1 rfl (by decide) rfl ?_
  refine rs_iconst (v := (nI 0)) d_d_firstPlaceOf_2 rfl (by decide) ?_
  refine rs_istore_n d_d_firstPlaceOf_3 rfl (by decide) rfl ?_
  exact loop lv 0 (by omega)
set_option maxRecDepth 100000 in
theorem k_countRuns {G : rsG} {n : Nat} {K V : Nat → Nat → Int32} {c P r : Nat → Nat} {md up wl cu : Int32} {hf : rsH}  : rsK G M_d_countRuns (rmO 1 23) [.ref (rsB G + 4)] (rwd G K V c P r md up wl cu hf) n (rsOk (some (.int (nI (rp_sum r 3)))) (rwd G K V c P r md up wl cu hf) n) := by
  refine rsK_of pf_d_countRuns rfl (Nat.le_of_ble_eq_true rfl) rfl ?_
  refine rs_aload_n d_d_countRuns_0 rfl rfl ?_
  refine rs_iconst (v := (nI 3)) d_d_countRuns_1 rfl (by decide) ?_
  refine rx_cV d_d_countRuns_2 rfl c_d_32 (by exact np_d_firstPlaceOf) rw_d (k_firstPlaceOf (by decide)) (by decide) ⟨rfl, rfl⟩ (Nat.le_of_ble_eq_true rfl) rfl ?_
  exact rs_ireturn d_d_countRuns_5 rfl ⟨rfl, rfl, rfl⟩
set_option maxRecDepth 100000 in
theorem k_run {G : rsG} {n : Nat} {K V : Nat → Nat → Int32} {c P r : Nat → Nat} {md up wl cu : Int32} {hf : rsH} {lv i : Nat} (hl : lv ≤ 3) (hi : rp_sum r lv + i < 13) : rsK G M_d_run (rmO 1 23) [.ref (rsB G + 4), .int (nI lv), .int (nI i)] (rwd G K V c P r md up wl cu hf) n (rsOk (some (.ref (rw_eo (rsB G) (P (rp_sum r lv + i))))) (rwd G K V c P r md up wl cu hf) n) := by
  refine rsK_of pf_d_run rfl (Nat.le_of_ble_eq_true rfl) rfl ?_
  refine rs_aload_n d_d_run_0 rfl rfl ?_
  refine rx_get_pl d_d_run_1 rfl f_d_11 ?_
  refine rs_aload_n d_d_run_4 rfl rfl ?_
  refine rs_iload_n d_d_run_5 rfl rfl ?_
  refine rx_cV d_d_run_6 rfl c_d_32 (by exact np_d_firstPlaceOf) rw_d (k_firstPlaceOf hl) (by decide) ⟨rfl, rfl⟩ (Nat.le_of_ble_eq_true rfl) rfl ?_
  refine rs_iload_n d_d_run_9 rfl rfl ?_
  refine rs_iadd d_d_run_10 rfl ?_
  refine rs_tope (nI_add _ _) ?_
  refine rx_ld_p (by first | assumption | omega) d_d_run_11 rfl ?_
  exact rs_areturn d_d_run_12 rfl ⟨rfl, rfl, rfl⟩
set_option maxRecDepth 100000 in
theorem k_draft {G : rsG} {n : Nat} {K V : Nat → Nat → Int32} {c P r : Nat → Nat} {md up wl cu : Int32} {hf : rsH}  : rsK G M_d_draft (rmO 0 0) [.ref (rsB G + 4)] (rwd G K V c P r md up wl cu hf) n (rsOk (some (.ref (rw_eo (rsB G) (P 12)))) (rwd G K V c P r md up wl cu hf) n) := by
  refine rsK_of pf_d_draft rfl (Nat.le_of_ble_eq_true rfl) rfl ?_
  refine rs_aload_n d_d_draft_0 rfl rfl ?_
  refine rx_get_pl d_d_draft_1 rfl f_d_11 ?_
  refine rs_bipush (v := (nI 12)) d_d_draft_4 rfl (by decide) ?_
  refine rx_ld_p (by first | assumption | omega) d_d_draft_6 rfl ?_
  exact rs_areturn d_d_draft_7 rfl ⟨rfl, rfl, rfl⟩
def rp_blk (c P : Nat → Nat) : Nat → Nat := rp_sum (fun i => (c (P i) + 3) / 4)
set_option maxRecDepth 100000 in
theorem k_freeBlocks {G : rsG} {n : Nat} {K V : Nat → Nat → Int32} {c P r : Nat → Nat} {md up wl cu : Int32} {hf : rsH} (hs : rp_sum r 3 ≤ 12) (hP : ∀ i, i < 13 → P i ≤ 12) (hc : ∀ i, i < 13 → c (P i) ≤ 100) : rsK G M_d_freeBlocks (rmO 2 43) [.ref (rsB G + 4)] (rwd G K V c P r md up wl cu hf) n (rsOk (some (.int (nI 40 - nI (rp_blk c P (rp_sum r 3))))) (rwd G K V c P r md up wl cu hf) n) := by
  have loop : ∀ (d i : Nat), i + d = rp_sum r 3 → rsV G M_d_freeBlocks (rmO 2 43) (rsOk (some (.int (nI 40 - nI (rp_blk c P (rp_sum r 3))))) (rwd G K V c P r md up wl cu hf) n) 0 0 10 [some (.ref (rsB G + 4)), some (.int (nI 40 - nI (rp_blk c P i))), some (.int (nI (rp_sum r 3))), some (.int (nI i))] [] (rwd G K V c P r md up wl cu hf) n := by
    intro d
    induction d with
    | zero =>
      intro i hi
      obtain rfl : i = rp_sum r 3 := by omega
      refine rs_iload_n d_d_freeBlocks_10 rfl rfl ?_
      refine rs_iload_n d_d_freeBlocks_11 rfl rfl ?_
      refine rs_icmp_ge (tgt := 33) d_d_freeBlocks_12 rfl (by decide) (fun _ => ?_) (fun hc => absurd (nI_le (by omega) (by omega)) hc)
      refine rs_iload_n d_d_freeBlocks_33 rfl rfl ?_
      exact rs_ireturn d_d_freeBlocks_34 rfl ⟨rfl, rfl, rfl⟩
    | succ d ih =>
      intro i hi
      have hi13 : i < 13 := by omega
      have hPi : P i ≤ 13 := by have := hP i hi13; omega
      refine rs_iload_n d_d_freeBlocks_10 rfl rfl ?_
      refine rs_iload_n d_d_freeBlocks_11 rfl rfl ?_
      refine rs_icmp_ge (tgt := 33) d_d_freeBlocks_12 rfl (by decide) (fun hc => absurd hc (nI_ge (by omega) (by omega))) (fun _ => ?_)
      refine rs_iload_n d_d_freeBlocks_15 rfl rfl ?_
      refine rs_aload_n d_d_freeBlocks_16 rfl rfl ?_
      refine rx_get_pl d_d_freeBlocks_17 rfl f_d_11 ?_
      refine rs_iload_n d_d_freeBlocks_20 rfl rfl ?_
      refine rx_ld_p (by first | assumption | omega) d_d_freeBlocks_21 rfl ?_
      refine rx_cV d_d_freeBlocks_22 rfl c_d_40 (by exact np_e_blocks) (rw_e hPi) (k_blocks hPi (hc i hi13)) (by decide) ⟨rfl, rfl⟩ (Nat.le_of_ble_eq_true rfl) rfl ?_
      refine rs_isub d_d_freeBlocks_25 rfl ?_
      refine rs_tope (rs_subsub _ _ _) ?_
      refine rs_istore_n d_d_freeBlocks_26 rfl (by decide) rfl ?_
      refine rs_iinc d_d_freeBlocks_27 rfl (by decide) rfl (rs_inc1 i) rfl ?_
      refine rs_goto (tgt := 10) d_d_freeBlocks_30 (by decide) ?_
      exact ih (i + 1) (by omega)
  refine rsK_of pf_d_freeBlocks rfl (Nat.le_of_ble_eq_true rfl) rfl ?_
  refine rs_bipush (v := nI 40 - nI (rp_blk c P 0)) d_d_freeBlocks_0 rfl (by show _ = nI 40 - nI 0; decide) ?_
  refine rs_istore_n d_d_freeBlocks_2 rfl (by decide) rfl ?_
  refine rs_aload_n d_d_freeBlocks_3 rfl rfl ?_
  refine rx_cV d_d_freeBlocks_4 rfl c_d_36 (by exact np_d_countRuns) rw_d (k_countRuns) (by decide) ⟨rfl, rfl⟩ (Nat.le_of_ble_eq_true rfl) rfl ?_
  refine rs_istore_n d_d_freeBlocks_7 rfl (by decide) rfl ?_
  refine rs_iconst (v := (nI 0)) d_d_freeBlocks_8 rfl (by decide) ?_
  refine rs_istore_n d_d_freeBlocks_9 rfl (by decide) rfl ?_
  exact loop (rp_sum r 3) 0 (by omega)
set_option maxRecDepth 100000 in
theorem k_newest_none {G : rsG} {n : Nat} {K V : Nat → Nat → Int32} {c P r : Nat → Nat} {md up wl cu : Int32} {hf : rsH} (hs : rp_sum r 3 ≤ 12) (hP : ∀ i, i < 13 → P i ≤ 12) {key : Nat} (hk : key < 100) (h0 : ∀ i, i < rp_sum r 3 → K (P i) key = 0) : rsK G M_d_newestRunWith (rmO 2 43) [.ref (rsB G + 4), .int (nI key)] (rwd G K V c P r md up wl cu hf) n (rsOk (some .null) (rwd G K V c P r md up wl cu hf) n) := by
  have loop : ∀ (d i : Nat), i + d = rp_sum r 3 → rsV G M_d_newestRunWith (rmO 2 43) (rsOk (some .null) (rwd G K V c P r md up wl cu hf) n) 0 0 7 [some (.ref (rsB G + 4)), some (.int (nI key)), some (.int (nI (rp_sum r 3))), some (.int (nI i))] [] (rwd G K V c P r md up wl cu hf) n := by
    intro d
    induction d with
    | zero =>
      intro i hi
      obtain rfl : i = rp_sum r 3 := by omega
      refine rs_iload_n d_d_newestRunWith_7 rfl rfl ?_
      refine rs_iload_n d_d_newestRunWith_8 rfl rfl ?_
      refine rs_icmp_ge (tgt := 38) d_d_newestRunWith_9 rfl (by decide) (fun _ => ?_) (fun hc => absurd (nI_le (by omega) (by omega)) hc)
      refine rs_null d_d_newestRunWith_38 rfl ?_
      exact rs_areturnN d_d_newestRunWith_39 rfl ⟨rfl, rfl, rfl⟩
    | succ d ih =>
      intro i hi
      have hi13 : i < 13 := by omega
      have hPi : P i ≤ 13 := by have := hP i hi13; omega
      refine rs_iload_n d_d_newestRunWith_7 rfl rfl ?_
      refine rs_iload_n d_d_newestRunWith_8 rfl rfl ?_
      refine rs_icmp_ge (tgt := 38) d_d_newestRunWith_9 rfl (by decide) (fun hc => absurd hc (nI_ge (by omega) (by omega))) (fun _ => ?_)
      refine rs_aload_n d_d_newestRunWith_12 rfl rfl ?_
      refine rx_get_pl d_d_newestRunWith_13 rfl f_d_11 ?_
      refine rs_iload_n d_d_newestRunWith_16 rfl rfl ?_
      refine rx_ld_p (by first | assumption | omega) d_d_newestRunWith_17 rfl ?_
      refine rs_iload_n d_d_newestRunWith_18 rfl rfl ?_
      refine rx_cV d_d_newestRunWith_19 rfl c_d_43 (by exact np_e_holds) (rw_e hPi) (k_holds hPi hk) (by decide) ⟨rfl, rfl⟩ (Nat.le_of_ble_eq_true rfl) rfl ?_
      rw [h0 i (by omega), if_pos rfl]
      refine rs_if_eq (tgt := 32) d_d_newestRunWith_22 rfl (by decide) (fun _ => ?_) (fun hc => absurd rfl hc)
      refine rs_iinc d_d_newestRunWith_32 rfl (by decide) rfl (rs_inc1 i) rfl ?_
      refine rs_goto (tgt := 7) d_d_newestRunWith_35 (by decide) ?_
      exact ih (i + 1) (by omega)
  refine rsK_of pf_d_newestRunWith rfl (Nat.le_of_ble_eq_true rfl) rfl ?_
  refine rs_aload_n d_d_newestRunWith_0 rfl rfl ?_
  refine rx_cV d_d_newestRunWith_1 rfl c_d_36 (by exact np_d_countRuns) rw_d (k_countRuns) (by decide) ⟨rfl, rfl⟩ (Nat.le_of_ble_eq_true rfl) rfl ?_
  refine rs_istore_n d_d_newestRunWith_4 rfl (by decide) rfl ?_
  refine rs_iconst (v := (nI 0)) d_d_newestRunWith_5 rfl (by decide) ?_
  refine rs_istore_n d_d_newestRunWith_6 rfl (by decide) rfl ?_
  exact loop (rp_sum r 3) 0 (by omega)
set_option maxRecDepth 100000 in
theorem k_newest_some {G : rsG} {n : Nat} {K V : Nat → Nat → Int32} {c P r : Nat → Nat} {md up wl cu : Int32} {hf : rsH} (hs : rp_sum r 3 ≤ 12) (hP : ∀ i, i < 13 → P i ≤ 12) {key : Nat} (hk : key < 100) {x : Nat} (hx : x < rp_sum r 3) (h0 : ∀ i, i < x → K (P i) key = 0) (h1 : ¬ K (P x) key = 0) : rsK G M_d_newestRunWith (rmO 2 43) [.ref (rsB G + 4), .int (nI key)] (rwd G K V c P r md up wl cu hf) n (rsOk (some (.ref (rw_eo (rsB G) (P x)))) (rwd G K V c P r md up wl cu hf) n) := by
  have loop : ∀ (d i : Nat), i + d = x → rsV G M_d_newestRunWith (rmO 2 43) (rsOk (some (.ref (rw_eo (rsB G) (P x)))) (rwd G K V c P r md up wl cu hf) n) 0 0 7 [some (.ref (rsB G + 4)), some (.int (nI key)), some (.int (nI (rp_sum r 3))), some (.int (nI i))] [] (rwd G K V c P r md up wl cu hf) n := by
    intro d
    induction d with
    | zero =>
      intro i hi
      obtain rfl : i = x := by omega
      have hi13 : i < 13 := by omega
      have hPi : P i ≤ 13 := by have := hP i hi13; omega
      refine rs_iload_n d_d_newestRunWith_7 rfl rfl ?_
      refine rs_iload_n d_d_newestRunWith_8 rfl rfl ?_
      refine rs_icmp_ge (tgt := 38) d_d_newestRunWith_9 rfl (by decide) (fun hc => absurd hc (nI_ge (by omega) (by omega))) (fun _ => ?_)
      refine rs_aload_n d_d_newestRunWith_12 rfl rfl ?_
      refine rx_get_pl d_d_newestRunWith_13 rfl f_d_11 ?_
      refine rs_iload_n d_d_newestRunWith_16 rfl rfl ?_
      refine rx_ld_p (by first | assumption | omega) d_d_newestRunWith_17 rfl ?_
      refine rs_iload_n d_d_newestRunWith_18 rfl rfl ?_
      refine rx_cV d_d_newestRunWith_19 rfl c_d_43 (by exact np_e_holds) (rw_e hPi) (k_holds hPi hk) (by decide) ⟨rfl, rfl⟩ (Nat.le_of_ble_eq_true rfl) rfl ?_
      rw [if_neg h1]
      refine rs_if_eq (tgt := 32) d_d_newestRunWith_22 rfl (by decide) (fun hc => absurd hc (by decide)) (fun _ => ?_)
      refine rs_aload_n d_d_newestRunWith_25 rfl rfl ?_
      refine rx_get_pl d_d_newestRunWith_26 rfl f_d_11 ?_
      refine rs_iload_n d_d_newestRunWith_29 rfl rfl ?_
      refine rx_ld_p (by first | assumption | omega) d_d_newestRunWith_30 rfl ?_
      exact rs_areturn d_d_newestRunWith_31 rfl ⟨rfl, rfl, rfl⟩
    | succ d ih =>
      intro i hi
      have hi13 : i < 13 := by omega
      have hPi : P i ≤ 13 := by have := hP i hi13; omega
      refine rs_iload_n d_d_newestRunWith_7 rfl rfl ?_
      refine rs_iload_n d_d_newestRunWith_8 rfl rfl ?_
      refine rs_icmp_ge (tgt := 38) d_d_newestRunWith_9 rfl (by decide) (fun hc => absurd hc (nI_ge (by omega) (by omega))) (fun _ => ?_)
      refine rs_aload_n d_d_newestRunWith_12 rfl rfl ?_
      refine rx_get_pl d_d_newestRunWith_13 rfl f_d_11 ?_
      refine rs_iload_n d_d_newestRunWith_16 rfl rfl ?_
      refine rx_ld_p (by first | assumption | omega) d_d_newestRunWith_17 rfl ?_
      refine rs_iload_n d_d_newestRunWith_18 rfl rfl ?_
      refine rx_cV d_d_newestRunWith_19 rfl c_d_43 (by exact np_e_holds) (rw_e hPi) (k_holds hPi hk) (by decide) ⟨rfl, rfl⟩ (Nat.le_of_ble_eq_true rfl) rfl ?_
      rw [h0 i (by omega), if_pos rfl]
      refine rs_if_eq (tgt := 32) d_d_newestRunWith_22 rfl (by decide) (fun _ => ?_) (fun hc => absurd rfl hc)
      refine rs_iinc d_d_newestRunWith_32 rfl (by decide) rfl (rs_inc1 i) rfl ?_
      refine rs_goto (tgt := 7) d_d_newestRunWith_35 (by decide) ?_
      exact ih (i + 1) (by omega)
  refine rsK_of pf_d_newestRunWith rfl (Nat.le_of_ble_eq_true rfl) rfl ?_
  refine rs_aload_n d_d_newestRunWith_0 rfl rfl ?_
  refine rx_cV d_d_newestRunWith_1 rfl c_d_36 (by exact np_d_countRuns) rw_d (k_countRuns) (by decide) ⟨rfl, rfl⟩ (Nat.le_of_ble_eq_true rfl) rfl ?_
  refine rs_istore_n d_d_newestRunWith_4 rfl (by decide) rfl ?_
  refine rs_iconst (v := (nI 0)) d_d_newestRunWith_5 rfl (by decide) ?_
  refine rs_istore_n d_d_newestRunWith_6 rfl (by decide) rfl ?_
  exact loop x 0 (by omega)
set_option maxRecDepth 100000 in
theorem k_draftFrom {G : rsG} {n : Nat} {K V : Nat → Nat → Int32} {c P r : Nat → Nat} {md up wl cu : Int32} {hf : rsH} {o : Nat} (hP : P 12 ≤ 12) (ho : o ≤ 13) (hne : o ≠ P 12) : rsK G M_d_draftFrom (rmO 3 66) [.ref (rsB G + 4), .ref (rw_eo (rsB G) o)] (rwd G K V c P r md up wl cu hf) n (rsOk (none) (rwd G (rp_aK (va_up K (P 12) (fun _ => 0)) (P 12) o 100) (rp_aV (va_up K (P 12) (fun _ => 0)) V (P 12) o 100) (rp_ac (va_up K (P 12) (fun _ => 0)) (va_up c (P 12) 0) (P 12) o 100) P r md up wl cu hf) n) := by
  refine rsK_of pf_d_draftFrom rfl (Nat.le_of_ble_eq_true rfl) rfl ?_
  have hd : P 12 ≤ 13 := by omega
  refine rs_aload_n d_d_draftFrom_0 rfl rfl ?_
  refine rx_cV d_d_draftFrom_1 rfl c_d_47 (by exact np_d_draft) rw_d (k_draft) (by decide) ⟨rfl, rfl⟩ (Nat.le_of_ble_eq_true rfl) rfl ?_
  refine rx_cV d_d_draftFrom_4 rfl c_d_51 (by exact np_e_clear) (rw_e hd) (k_clear hd) (by decide) ⟨rfl, rfl⟩ (Nat.le_of_ble_eq_true rfl) rfl ?_
  refine rs_aload_n d_d_draftFrom_7 rfl rfl ?_
  refine rx_cV d_d_draftFrom_8 rfl c_d_47 (by exact np_d_draft) rw_d (k_draft) (by decide) ⟨rfl, rfl⟩ (Nat.le_of_ble_eq_true rfl) rfl ?_
  refine rs_aload_n d_d_draftFrom_11 rfl rfl ?_
  refine rx_cV d_d_draftFrom_12 rfl c_d_54 (by exact np_e_addOlder) (rw_e hd) (k_addOlder hd ho hne) (by decide) ⟨rfl, rfl⟩ (Nat.le_of_ble_eq_true rfl) rfl ?_
  exact rs_vreturn d_d_draftFrom_15 rfl ⟨rfl, rfl, rfl⟩
def rp_lv (d : Nat) (q : Nat → Nat) (K V : Nat → Nat → Int32) (c : Nat → Nat) : Nat → (Nat → Nat → Int32) × (Nat → Nat → Int32) × (Nat → Nat)
  | 0 => (K, V, c)
  | i + 1 => (rp_aK (rp_lv d q K V c i).1 d (q i) 100, rp_aV (rp_lv d q K V c i).1 (rp_lv d q K V c i).2.1 d (q i) 100, rp_ac (rp_lv d q K V c i).1 (rp_lv d q K V c i).2.2 d (q i) 100)
set_option maxRecDepth 100000 in
theorem k_draftLevel_more {G : rsG} {n : Nat} {K V : Nat → Nat → Int32} {c P r : Nat → Nat} {md up wl cu : Int32} {hf : rsH} {lv : Nat} (hl : lv < 3) (hs : rp_sum r 3 ≤ 12) (hsl : rp_sum r lv + r lv ≤ rp_sum r 3) (hP : ∀ i, i < 13 → P i ≤ 12) (hinj : ∀ i, i < 12 → P i ≠ P 12) (hg : rp_sum r (lv + 1) < rp_sum r 3) : rsK G M_d_draftFromLevel (rmO 3 66) [.ref (rsB G + 4), .int (nI lv)] (rwd G K V c P r md up wl cu hf) n (rsOk (none) (rwd G (rp_lv (P 12) (fun i => P (rp_sum r lv + i)) (va_up K (P 12) (fun _ => 0)) V (va_up c (P 12) 0) (r lv)).1 (rp_lv (P 12) (fun i => P (rp_sum r lv + i)) (va_up K (P 12) (fun _ => 0)) V (va_up c (P 12) 0) (r lv)).2.1 (rp_lv (P 12) (fun i => P (rp_sum r lv + i)) (va_up K (P 12) (fun _ => 0)) V (va_up c (P 12) 0) (r lv)).2.2 P r md up wl cu hf) n) := by
  have loop : ∀ (d i : Nat), i + d = r lv → rsV G M_d_draftFromLevel (rmO 3 66) (rsOk (none) (rwd G (rp_lv (P 12) (fun i => P (rp_sum r lv + i)) (va_up K (P 12) (fun _ => 0)) V (va_up c (P 12) 0) (r lv)).1 (rp_lv (P 12) (fun i => P (rp_sum r lv + i)) (va_up K (P 12) (fun _ => 0)) V (va_up c (P 12) 0) (r lv)).2.1 (rp_lv (P 12) (fun i => P (rp_sum r lv + i)) (va_up K (P 12) (fun _ => 0)) V (va_up c (P 12) 0) (r lv)).2.2 P r md up wl cu hf) n) 0 0 9 [some (.ref (rsB G + 4)), some (.int (nI lv)), some (.int (nI i))] [] (rwd G (rp_lv (P 12) (fun i => P (rp_sum r lv + i)) (va_up K (P 12) (fun _ => 0)) V (va_up c (P 12) 0) i).1 (rp_lv (P 12) (fun i => P (rp_sum r lv + i)) (va_up K (P 12) (fun _ => 0)) V (va_up c (P 12) 0) i).2.1 (rp_lv (P 12) (fun i => P (rp_sum r lv + i)) (va_up K (P 12) (fun _ => 0)) V (va_up c (P 12) 0) i).2.2 P r md up wl cu hf) n := by
    intro d
    induction d with
    | zero =>
      intro i hi
      obtain rfl : i = r lv := by omega
      have hd : P 12 ≤ 13 := by have := hP 12 (by decide); omega
      refine rs_iload_n d_d_draftFromLevel_9 rfl rfl ?_
      refine rs_aload_n d_d_draftFromLevel_10 rfl rfl ?_
      refine rx_get_ro d_d_draftFromLevel_11 rfl f_d_18 ?_
      refine rs_iload_n d_d_draftFromLevel_14 rfl rfl ?_
      refine rx_ld_r (by first | assumption | omega) d_d_draftFromLevel_15 rfl ?_
      have he : rp_sum r (lv + 1) = rp_sum r lv + r lv := rfl
      refine rs_icmp_ge (tgt := 38) d_d_draftFromLevel_16 rfl (by decide) (fun _ => ?_) (fun hc => absurd (nI_le (by omega) (by omega)) hc)
      refine rs_aload_n d_d_draftFromLevel_38 rfl rfl ?_
      refine rs_iload_n d_d_draftFromLevel_39 rfl rfl ?_
      refine rs_iconst (v := (nI 1)) d_d_draftFromLevel_40 rfl (by decide) ?_
      refine rs_iadd d_d_draftFromLevel_41 rfl ?_
      refine rs_tope (nI_add _ _) ?_
      refine rx_cV d_d_draftFromLevel_42 rfl c_d_32 (by exact np_d_firstPlaceOf) rw_d (k_firstPlaceOf (by omega)) (by decide) ⟨rfl, rfl⟩ (Nat.le_of_ble_eq_true rfl) rfl ?_
      refine rs_aload_n d_d_draftFromLevel_45 rfl rfl ?_
      refine rx_cV d_d_draftFromLevel_46 rfl c_d_36 (by exact np_d_countRuns) rw_d (k_countRuns) (by decide) ⟨rfl, rfl⟩ (Nat.le_of_ble_eq_true rfl) rfl ?_
      refine rs_icmp_ge (tgt := 56) d_d_draftFromLevel_49 rfl (by decide) (fun hc => absurd hc (nI_ge hg (by omega))) (fun _ => ?_)
      refine rs_iconst (v := 1) d_d_draftFromLevel_52 rfl (by decide) ?_
      refine rs_goto (tgt := 57) d_d_draftFromLevel_53 (by decide) ?_
      refine rs_istore_n d_d_draftFromLevel_57 rfl (by decide) rfl ?_
      refine rs_iload_n d_d_draftFromLevel_58 rfl rfl ?_
      refine rs_if_ne (tgt := 69) d_d_draftFromLevel_59 rfl (by decide) (fun _ => ?_) (fun hc => absurd hc (by decide))
      exact rs_vreturn d_d_draftFromLevel_69 rfl ⟨rfl, rfl, rfl⟩
    | succ d ih =>
      intro i hi
      have hd : P 12 ≤ 13 := by have := hP 12 (by decide); omega
      refine rs_iload_n d_d_draftFromLevel_9 rfl rfl ?_
      refine rs_aload_n d_d_draftFromLevel_10 rfl rfl ?_
      refine rx_get_ro d_d_draftFromLevel_11 rfl f_d_18 ?_
      refine rs_iload_n d_d_draftFromLevel_14 rfl rfl ?_
      refine rx_ld_r (by first | assumption | omega) d_d_draftFromLevel_15 rfl ?_
      have hq : P (rp_sum r lv + i) ≤ 13 := by have := hP (rp_sum r lv + i) (by omega); omega
      refine rs_icmp_ge (tgt := 38) d_d_draftFromLevel_16 rfl (by decide) (fun hc => absurd hc (nI_ge (by omega) (by omega))) (fun _ => ?_)
      refine rs_aload_n d_d_draftFromLevel_19 rfl rfl ?_
      refine rx_cV d_d_draftFromLevel_20 rfl c_d_47 (by exact np_d_draft) rw_d (k_draft) (by decide) ⟨rfl, rfl⟩ (Nat.le_of_ble_eq_true rfl) rfl ?_
      refine rs_aload_n d_d_draftFromLevel_23 rfl rfl ?_
      refine rs_iload_n d_d_draftFromLevel_24 rfl rfl ?_
      refine rs_iload_n d_d_draftFromLevel_25 rfl rfl ?_
      refine rx_cV d_d_draftFromLevel_26 rfl c_d_58 (by exact np_d_run) rw_d (k_run (by omega) (by omega)) (by decide) ⟨rfl, rfl⟩ (Nat.le_of_ble_eq_true rfl) rfl ?_
      refine rx_cV d_d_draftFromLevel_29 rfl c_d_54 (by exact np_e_addOlder) (rw_e hd) (k_addOlder hd hq (hinj _ (by omega))) (by decide) ⟨rfl, rfl⟩ (Nat.le_of_ble_eq_true rfl) rfl ?_
      refine rs_iinc d_d_draftFromLevel_32 rfl (by decide) rfl (rs_inc1 i) rfl ?_
      refine rs_goto (tgt := 9) d_d_draftFromLevel_35 (by decide) ?_
      exact ih (i + 1) (by omega)
  refine rsK_of pf_d_draftFromLevel rfl (Nat.le_of_ble_eq_true rfl) rfl ?_
  have hd : P 12 ≤ 13 := by have := hP 12 (by decide); omega
  refine rs_aload_n d_d_draftFromLevel_0 rfl rfl ?_
  refine rx_cV d_d_draftFromLevel_1 rfl c_d_47 (by exact np_d_draft) rw_d (k_draft) (by decide) ⟨rfl, rfl⟩ (Nat.le_of_ble_eq_true rfl) rfl ?_
  refine rx_cV d_d_draftFromLevel_4 rfl c_d_51 (by exact np_e_clear) (rw_e hd) (k_clear hd) (by decide) ⟨rfl, rfl⟩ (Nat.le_of_ble_eq_true rfl) rfl ?_
  refine rs_iconst (v := (nI 0)) d_d_draftFromLevel_7 rfl (by decide) ?_
  refine rs_istore_n d_d_draftFromLevel_8 rfl (by decide) rfl ?_
  exact loop (r lv) 0 (by omega)
set_option maxRecDepth 100000 in
theorem k_draftLevel_last {G : rsG} {n : Nat} {K V : Nat → Nat → Int32} {c P r : Nat → Nat} {md up wl cu : Int32} {hf : rsH} {lv : Nat} (hl : lv < 3) (hs : rp_sum r 3 ≤ 12) (hsl : rp_sum r lv + r lv ≤ rp_sum r 3) (hP : ∀ i, i < 13 → P i ≤ 12) (hinj : ∀ i, i < 12 → P i ≠ P 12) (hg : rp_sum r 3 ≤ rp_sum r (lv + 1)) (hm : rp_cnt (rp_xB ((rp_lv (P 12) (fun i => P (rp_sum r lv + i)) (va_up K (P 12) (fun _ => 0)) V (va_up c (P 12) 0) (r lv)).1 (P 12))) 100 ≤ (rp_lv (P 12) (fun i => P (rp_sum r lv + i)) (va_up K (P 12) (fun _ => 0)) V (va_up c (P 12) 0) (r lv)).2.2 (P 12)) : rsK G M_d_draftFromLevel (rmO 3 66) [.ref (rsB G + 4), .int (nI lv)] (rwd G K V c P r md up wl cu hf) n (rsOk (none) (rwd G (rp_oK ((rp_lv (P 12) (fun i => P (rp_sum r lv + i)) (va_up K (P 12) (fun _ => 0)) V (va_up c (P 12) 0) (r lv)).1) (P 12) 100) (rp_lv (P 12) (fun i => P (rp_sum r lv + i)) (va_up K (P 12) (fun _ => 0)) V (va_up c (P 12) 0) (r lv)).2.1 (rp_oc ((rp_lv (P 12) (fun i => P (rp_sum r lv + i)) (va_up K (P 12) (fun _ => 0)) V (va_up c (P 12) 0) (r lv)).1) ((rp_lv (P 12) (fun i => P (rp_sum r lv + i)) (va_up K (P 12) (fun _ => 0)) V (va_up c (P 12) 0) (r lv)).2.2) (P 12) 100) P r md up wl cu hf) n) := by
  have loop : ∀ (d i : Nat), i + d = r lv → rsV G M_d_draftFromLevel (rmO 3 66) (rsOk (none) (rwd G (rp_oK ((rp_lv (P 12) (fun i => P (rp_sum r lv + i)) (va_up K (P 12) (fun _ => 0)) V (va_up c (P 12) 0) (r lv)).1) (P 12) 100) (rp_lv (P 12) (fun i => P (rp_sum r lv + i)) (va_up K (P 12) (fun _ => 0)) V (va_up c (P 12) 0) (r lv)).2.1 (rp_oc ((rp_lv (P 12) (fun i => P (rp_sum r lv + i)) (va_up K (P 12) (fun _ => 0)) V (va_up c (P 12) 0) (r lv)).1) ((rp_lv (P 12) (fun i => P (rp_sum r lv + i)) (va_up K (P 12) (fun _ => 0)) V (va_up c (P 12) 0) (r lv)).2.2) (P 12) 100) P r md up wl cu hf) n) 0 0 9 [some (.ref (rsB G + 4)), some (.int (nI lv)), some (.int (nI i))] [] (rwd G (rp_lv (P 12) (fun i => P (rp_sum r lv + i)) (va_up K (P 12) (fun _ => 0)) V (va_up c (P 12) 0) i).1 (rp_lv (P 12) (fun i => P (rp_sum r lv + i)) (va_up K (P 12) (fun _ => 0)) V (va_up c (P 12) 0) i).2.1 (rp_lv (P 12) (fun i => P (rp_sum r lv + i)) (va_up K (P 12) (fun _ => 0)) V (va_up c (P 12) 0) i).2.2 P r md up wl cu hf) n := by
    intro d
    induction d with
    | zero =>
      intro i hi
      obtain rfl : i = r lv := by omega
      have hd : P 12 ≤ 13 := by have := hP 12 (by decide); omega
      refine rs_iload_n d_d_draftFromLevel_9 rfl rfl ?_
      refine rs_aload_n d_d_draftFromLevel_10 rfl rfl ?_
      refine rx_get_ro d_d_draftFromLevel_11 rfl f_d_18 ?_
      refine rs_iload_n d_d_draftFromLevel_14 rfl rfl ?_
      refine rx_ld_r (by first | assumption | omega) d_d_draftFromLevel_15 rfl ?_
      have he : rp_sum r (lv + 1) = rp_sum r lv + r lv := rfl
      refine rs_icmp_ge (tgt := 38) d_d_draftFromLevel_16 rfl (by decide) (fun _ => ?_) (fun hc => absurd (nI_le (by omega) (by omega)) hc)
      refine rs_aload_n d_d_draftFromLevel_38 rfl rfl ?_
      refine rs_iload_n d_d_draftFromLevel_39 rfl rfl ?_
      refine rs_iconst (v := (nI 1)) d_d_draftFromLevel_40 rfl (by decide) ?_
      refine rs_iadd d_d_draftFromLevel_41 rfl ?_
      refine rs_tope (nI_add _ _) ?_
      refine rx_cV d_d_draftFromLevel_42 rfl c_d_32 (by exact np_d_firstPlaceOf) rw_d (k_firstPlaceOf (by omega)) (by decide) ⟨rfl, rfl⟩ (Nat.le_of_ble_eq_true rfl) rfl ?_
      refine rs_aload_n d_d_draftFromLevel_45 rfl rfl ?_
      refine rx_cV d_d_draftFromLevel_46 rfl c_d_36 (by exact np_d_countRuns) rw_d (k_countRuns) (by decide) ⟨rfl, rfl⟩ (Nat.le_of_ble_eq_true rfl) rfl ?_
      refine rs_icmp_ge (tgt := 56) d_d_draftFromLevel_49 rfl (by decide) (fun _ => ?_) (fun hc => absurd (nI_le (by omega) (by omega)) hc)
      refine rs_iconst (v := 0) d_d_draftFromLevel_56 rfl (by decide) ?_
      refine rs_istore_n d_d_draftFromLevel_57 rfl (by decide) rfl ?_
      refine rs_iload_n d_d_draftFromLevel_58 rfl rfl ?_
      refine rs_if_ne (tgt := 69) d_d_draftFromLevel_59 rfl (by decide) (fun hc => absurd rfl hc) (fun _ => ?_)
      refine rs_aload_n d_d_draftFromLevel_62 rfl rfl ?_
      refine rx_cV d_d_draftFromLevel_63 rfl c_d_47 (by exact np_d_draft) rw_d (k_draft) (by decide) ⟨rfl, rfl⟩ (Nat.le_of_ble_eq_true rfl) rfl ?_
      refine rx_cV d_d_draftFromLevel_66 rfl c_d_62 (by exact np_e_leaveOutMarks) (rw_e hd) (k_leaveOutMarks hd hm) (by decide) ⟨rfl, rfl⟩ (Nat.le_of_ble_eq_true rfl) rfl ?_
      exact rs_vreturn d_d_draftFromLevel_69 rfl ⟨rfl, rfl, rfl⟩
    | succ d ih =>
      intro i hi
      have hd : P 12 ≤ 13 := by have := hP 12 (by decide); omega
      refine rs_iload_n d_d_draftFromLevel_9 rfl rfl ?_
      refine rs_aload_n d_d_draftFromLevel_10 rfl rfl ?_
      refine rx_get_ro d_d_draftFromLevel_11 rfl f_d_18 ?_
      refine rs_iload_n d_d_draftFromLevel_14 rfl rfl ?_
      refine rx_ld_r (by first | assumption | omega) d_d_draftFromLevel_15 rfl ?_
      have hq : P (rp_sum r lv + i) ≤ 13 := by have := hP (rp_sum r lv + i) (by omega); omega
      refine rs_icmp_ge (tgt := 38) d_d_draftFromLevel_16 rfl (by decide) (fun hc => absurd hc (nI_ge (by omega) (by omega))) (fun _ => ?_)
      refine rs_aload_n d_d_draftFromLevel_19 rfl rfl ?_
      refine rx_cV d_d_draftFromLevel_20 rfl c_d_47 (by exact np_d_draft) rw_d (k_draft) (by decide) ⟨rfl, rfl⟩ (Nat.le_of_ble_eq_true rfl) rfl ?_
      refine rs_aload_n d_d_draftFromLevel_23 rfl rfl ?_
      refine rs_iload_n d_d_draftFromLevel_24 rfl rfl ?_
      refine rs_iload_n d_d_draftFromLevel_25 rfl rfl ?_
      refine rx_cV d_d_draftFromLevel_26 rfl c_d_58 (by exact np_d_run) rw_d (k_run (by omega) (by omega)) (by decide) ⟨rfl, rfl⟩ (Nat.le_of_ble_eq_true rfl) rfl ?_
      refine rx_cV d_d_draftFromLevel_29 rfl c_d_54 (by exact np_e_addOlder) (rw_e hd) (k_addOlder hd hq (hinj _ (by omega))) (by decide) ⟨rfl, rfl⟩ (Nat.le_of_ble_eq_true rfl) rfl ?_
      refine rs_iinc d_d_draftFromLevel_32 rfl (by decide) rfl (rs_inc1 i) rfl ?_
      refine rs_goto (tgt := 9) d_d_draftFromLevel_35 (by decide) ?_
      exact ih (i + 1) (by omega)
  refine rsK_of pf_d_draftFromLevel rfl (Nat.le_of_ble_eq_true rfl) rfl ?_
  have hd : P 12 ≤ 13 := by have := hP 12 (by decide); omega
  refine rs_aload_n d_d_draftFromLevel_0 rfl rfl ?_
  refine rx_cV d_d_draftFromLevel_1 rfl c_d_47 (by exact np_d_draft) rw_d (k_draft) (by decide) ⟨rfl, rfl⟩ (Nat.le_of_ble_eq_true rfl) rfl ?_
  refine rx_cV d_d_draftFromLevel_4 rfl c_d_51 (by exact np_e_clear) (rw_e hd) (k_clear hd) (by decide) ⟨rfl, rfl⟩ (Nat.le_of_ble_eq_true rfl) rfl ?_
  refine rs_iconst (v := (nI 0)) d_d_draftFromLevel_7 rfl (by decide) ?_
  refine rs_istore_n d_d_draftFromLevel_8 rfl (by decide) rfl ?_
  exact loop (r lv) 0 (by omega)
