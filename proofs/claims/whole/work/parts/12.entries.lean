/-! 12: the methods of Entries, Arrays.fill and Math.min (written by gen_entries.py) -/
set_option maxRecDepth 100000 in
theorem k_count {G : rsG} {n : Nat} {K V : Nat → Nat → Int32} {c P r : Nat → Nat} {md up wl cu : Int32} {hf : rsH} {j : Nat} (hj : j ≤ 13) : rsK G M_e_count (rmO 0 0) [.ref (rw_eo (rsB G) j)] (rwd G K V c P r md up wl cu hf) n (rsOk (some (.int (nI (c j)))) (rwd G K V c P r md up wl cu hf) n) := by
  refine rsK_of pf_e_count rfl (Nat.le_of_ble_eq_true rfl) rfl ?_
  refine rs_aload_n d_e_count_0 rfl rfl ?_
  refine rx_get_ct (by first | assumption | omega) d_e_count_1 rfl f_e_18 ?_
  exact rs_ireturn d_e_count_4 rfl ⟨rfl, rfl, rfl⟩
set_option maxRecDepth 100000 in
theorem k_blocks {G : rsG} {n : Nat} {K V : Nat → Nat → Int32} {c P r : Nat → Nat} {md up wl cu : Int32} {hf : rsH} {j : Nat} (hj : j ≤ 13) (hc : c j ≤ 100) : rsK G M_e_blocks (rmO 0 0) [.ref (rw_eo (rsB G) j)] (rwd G K V c P r md up wl cu hf) n (rsOk (some (.int (nI ((c j + 3) / 4)))) (rwd G K V c P r md up wl cu hf) n) := by
  refine rsK_of pf_e_blocks rfl (Nat.le_of_ble_eq_true rfl) rfl ?_
  refine rs_aload_n d_e_blocks_0 rfl rfl ?_
  refine rx_get_ct (by first | assumption | omega) d_e_blocks_1 rfl f_e_18 ?_
  refine rs_iconst (v := (nI 4)) d_e_blocks_4 rfl (by decide) ?_
  refine rs_iadd d_e_blocks_5 rfl ?_
  refine rs_iconst (v := (nI 1)) d_e_blocks_6 rfl (by decide) ?_
  refine rs_isub d_e_blocks_7 rfl ?_
  refine rs_iconst (v := (nI 4)) d_e_blocks_8 rfl (by decide) ?_
  refine rs_idiv d_e_blocks_9 rfl (by decide) ?_
  exact rs_ireturn d_e_blocks_10 rfl ⟨by rw [nI_add, pk_sub (by omega), pk_div (by omega) (by omega) (by omega), show c j + 4 - 1 = c j + 3 by omega], rfl, rfl⟩
set_option maxRecDepth 100000 in
theorem k_holds {G : rsG} {n : Nat} {K V : Nat → Nat → Int32} {c P r : Nat → Nat} {md up wl cu : Int32} {hf : rsH} {j key : Nat} (hj : j ≤ 13) (hk : key < 100) : rsK G M_e_holds (rmO 0 0) [.ref (rw_eo (rsB G) j), .int (nI key)] (rwd G K V c P r md up wl cu hf) n (rsOk (some (.int (if K j key = 0 then 0 else 1))) (rwd G K V c P r md up wl cu hf) n) := by
  refine rsK_of pf_e_holds rfl (Nat.le_of_ble_eq_true rfl) rfl ?_
  refine rs_aload_n d_e_holds_0 rfl rfl ?_
  refine rx_get_ki (by first | assumption | omega) d_e_holds_1 rfl f_e_9 ?_
  refine rs_iload_n d_e_holds_4 rfl rfl ?_
  refine rx_ld_k (by first | assumption | omega) (by first | assumption | omega) d_e_holds_5 rfl ?_
  refine rs_if_eq (tgt := 13) d_e_holds_6 rfl (by decide) (fun hc => ?_) (fun hc => ?_)
  · refine rs_iconst (v := 0) d_e_holds_13 rfl (by decide) ?_
    exact rs_zreturn d_e_holds_14 rfl rfl ⟨by rw [if_pos hc], rfl, rfl⟩
  · refine rs_iconst (v := 1) d_e_holds_9 rfl (by decide) ?_
    refine rs_goto (tgt := 14) d_e_holds_10 (by decide) ?_
    exact rs_zreturn d_e_holds_14 rfl rfl ⟨by rw [if_neg hc], rfl, rfl⟩
set_option maxRecDepth 100000 in
theorem k_holdsValue {G : rsG} {n : Nat} {K V : Nat → Nat → Int32} {c P r : Nat → Nat} {md up wl cu : Int32} {hf : rsH} {j key : Nat} (hj : j ≤ 13) (hk : key < 100) : rsK G M_e_holdsValue (rmO 0 0) [.ref (rw_eo (rsB G) j), .int (nI key)] (rwd G K V c P r md up wl cu hf) n (rsOk (some (.int (if K j key = 1 then 1 else 0))) (rwd G K V c P r md up wl cu hf) n) := by
  refine rsK_of pf_e_holdsValue rfl (Nat.le_of_ble_eq_true rfl) rfl ?_
  refine rs_aload_n d_e_holdsValue_0 rfl rfl ?_
  refine rx_get_ki (by first | assumption | omega) d_e_holdsValue_1 rfl f_e_9 ?_
  refine rs_iload_n d_e_holdsValue_4 rfl rfl ?_
  refine rx_ld_k (by first | assumption | omega) (by first | assumption | omega) d_e_holdsValue_5 rfl ?_
  refine rs_iconst (v := 1) d_e_holdsValue_6 rfl (by decide) ?_
  refine rs_icmp_ne (tgt := 14) d_e_holdsValue_7 rfl (by decide) (fun hc => ?_) (fun hc => ?_)
  · refine rs_iconst (v := 0) d_e_holdsValue_14 rfl (by decide) ?_
    exact rs_zreturn d_e_holdsValue_15 rfl rfl ⟨by rw [if_neg hc], rfl, rfl⟩
  · refine rs_iconst (v := 1) d_e_holdsValue_10 rfl (by decide) ?_
    refine rs_goto (tgt := 15) d_e_holdsValue_11 (by decide) ?_
    exact rs_zreturn d_e_holdsValue_15 rfl rfl ⟨by rw [if_pos hc], rfl, rfl⟩
set_option maxRecDepth 100000 in
theorem k_valueAt {G : rsG} {n : Nat} {K V : Nat → Nat → Int32} {c P r : Nat → Nat} {md up wl cu : Int32} {hf : rsH} {j key : Nat} (hj : j ≤ 13) (hk : key < 100) : rsK G M_e_valueAt (rmO 0 0) [.ref (rw_eo (rsB G) j), .int (nI key)] (rwd G K V c P r md up wl cu hf) n (rsOk (some (.int (V j key))) (rwd G K V c P r md up wl cu hf) n) := by
  refine rsK_of pf_e_valueAt rfl (Nat.le_of_ble_eq_true rfl) rfl ?_
  refine rs_aload_n d_e_valueAt_0 rfl rfl ?_
  refine rx_get_va (by first | assumption | omega) d_e_valueAt_1 rfl f_e_15 ?_
  refine rs_iload_n d_e_valueAt_4 rfl rfl ?_
  refine rx_ld_v (by first | assumption | omega) (by first | assumption | omega) d_e_valueAt_5 rfl ?_
  exact rs_ireturn d_e_valueAt_6 rfl ⟨rfl, rfl, rfl⟩
def rp_c (K : Nat → Nat → Int32) (c : Nat → Nat) (j key : Nat) : Nat → Nat := if K j key = 0 then va_up c j (c j + 1) else c
def rp_u (K : Nat → Nat → Int32) (j key : Nat) (x : Int32) : Nat → Nat → Int32 := va_up K j (upd (K j) key x)
set_option maxRecDepth 100000 in
theorem k_setEntry {G : rsG} {n : Nat} {K V : Nat → Nat → Int32} {c P r : Nat → Nat} {md up wl cu : Int32} {hf : rsH} {j key : Nat} {kd vl : Int32} (hj : j ≤ 13) (hk : key < 100) : rsK G M_e_setEntry (rmO 1 21) [.ref (rw_eo (rsB G) j), .int (nI key), .int kd, .int vl] (rwd G K V c P r md up wl cu hf) n (rsOk (none) (rwd G (rp_u K j key kd) (rp_u V j key vl) (rp_c K c j key) P r md up wl cu hf) n) := by
  refine rsK_of pf_e_setEntry rfl (Nat.le_of_ble_eq_true rfl) rfl ?_
  refine rs_aload_n d_e_setEntry_0 rfl rfl ?_
  refine rs_iload_n d_e_setEntry_1 rfl rfl ?_
  refine rx_cV d_e_setEntry_2 rfl c_e_32 (by exact np_e_holds) (rw_e hj) (k_holds hj hk) (by decide) ⟨rfl, rfl⟩ (Nat.le_of_ble_eq_true rfl) rfl ?_
  by_cases h0 : K j key = 0
  · rw [if_pos h0]
    refine rs_if_ne (tgt := 18) d_e_setEntry_5 rfl (by decide) (fun hc => absurd rfl hc) (fun _ => ?_)
    refine rs_aload_n d_e_setEntry_8 rfl rfl ?_
    refine rs_dup d_e_setEntry_9 rfl rfl ?_
    refine rx_get_ct (by first | assumption | omega) d_e_setEntry_10 rfl f_e_18 ?_
    refine rs_iconst (v := (nI 1)) d_e_setEntry_13 rfl (by decide) ?_
    refine rs_iadd d_e_setEntry_14 rfl ?_
    refine rs_tope (nI_add _ _) ?_
    refine rx_put_ct (by first | assumption | omega) d_e_setEntry_15 rfl p_e_18 ?_
    refine rs_aload_n d_e_setEntry_18 rfl rfl ?_
    refine rx_get_ki (by first | assumption | omega) d_e_setEntry_19 rfl f_e_9 ?_
    refine rs_iload_n d_e_setEntry_22 rfl rfl ?_
    refine rs_iload_n d_e_setEntry_23 rfl rfl ?_
    refine rx_st_k (by first | assumption | omega) (by first | assumption | omega) d_e_setEntry_24 rfl ?_
    refine rs_aload_n d_e_setEntry_25 rfl rfl ?_
    refine rx_get_va (by first | assumption | omega) d_e_setEntry_26 rfl f_e_15 ?_
    refine rs_iload_n d_e_setEntry_29 rfl rfl ?_
    refine rs_iload_n d_e_setEntry_30 rfl rfl ?_
    refine rx_st_v (by first | assumption | omega) (by first | assumption | omega) d_e_setEntry_31 rfl ?_
    exact rs_vreturn d_e_setEntry_32 rfl ⟨rfl, by simp only [rp_c, rp_u, if_pos h0], rfl⟩
  · rw [if_neg h0]
    refine rs_if_ne (tgt := 18) d_e_setEntry_5 rfl (by decide) (fun _ => ?_) (fun hc => absurd hc (by decide))
    refine rs_aload_n d_e_setEntry_18 rfl rfl ?_
    refine rx_get_ki (by first | assumption | omega) d_e_setEntry_19 rfl f_e_9 ?_
    refine rs_iload_n d_e_setEntry_22 rfl rfl ?_
    refine rs_iload_n d_e_setEntry_23 rfl rfl ?_
    refine rx_st_k (by first | assumption | omega) (by first | assumption | omega) d_e_setEntry_24 rfl ?_
    refine rs_aload_n d_e_setEntry_25 rfl rfl ?_
    refine rx_get_va (by first | assumption | omega) d_e_setEntry_26 rfl f_e_15 ?_
    refine rs_iload_n d_e_setEntry_29 rfl rfl ?_
    refine rs_iload_n d_e_setEntry_30 rfl rfl ?_
    refine rx_st_v (by first | assumption | omega) (by first | assumption | omega) d_e_setEntry_31 rfl ?_
    exact rs_vreturn d_e_setEntry_32 rfl ⟨rfl, by simp only [rp_c, rp_u, if_neg h0], rfl⟩
