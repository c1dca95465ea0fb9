/-! 18: the store's public methods (written by gen_store3.py) -/
theorem rp_th_nar (K : Nat → Nat → Int32) (P : Nat → Nat) (m key : Nat) : narrow .boolean (.int (rp_th K P m key)) = .int (rp_th K P m key) := by
  rcases rp_th01 K P m key with h | h <;> rw [h] <;> rfl
theorem rp_ne1 {i : Nat} (h : i < 2 ^ 31) : ¬ nI i = -1 := fun e => by
  have h1 := congrArg Int32.toInt e
  rw [nI_toInt h] at h1
  have h2 : (-1 : Int32).toInt = -1 := by decide
  rw [h2] at h1
  omega
set_option maxRecDepth 100000 in
theorem k_left {G : rsG} {n : Nat} {K V : Nat → Nat → Int32} {c P r : Nat → Nat} {md up wl cu : Int32} {hf : rsH}  : rsK G M_s_left (rmO 0 0) [.ref (rsB G)] (rwd G K V c P r md up wl cu hf) n (rsOk (some (.int wl)) (rwd G K V c P r md up wl cu hf) n) := by
  refine rsK_of pf_s_left rfl (Nat.le_of_ble_eq_true rfl) rfl ?_
  refine rs_aload_n d_s_left_0 rfl rfl ?_
  refine rx_get_wl d_s_left_1 rfl f_s_27 ?_
  exact rs_ireturn d_s_left_4 rfl ⟨rfl, rfl, rfl⟩
set_option maxRecDepth 100000 in
theorem k_key {G : rsG} {n : Nat} {K V : Nat → Nat → Int32} {c P r : Nat → Nat} {md up wl cu : Int32} {hf : rsH}  : rsK G M_s_key (rmO 0 0) [.ref (rsB G)] (rwd G K V c P r md up wl cu hf) n (rsOk (some (.int cu)) (rwd G K V c P r md up wl cu hf) n) := by
  refine rsK_of pf_s_key rfl (Nat.le_of_ble_eq_true rfl) rfl ?_
  refine rs_aload_n d_s_key_0 rfl rfl ?_
  refine rx_get_cu d_s_key_1 rfl f_s_31 ?_
  exact rs_ireturn d_s_key_4 rfl ⟨rfl, rfl, rfl⟩
set_option maxRecDepth 100000 in
theorem k_value_none {G : rsG} {n : Nat} {K V : Nat → Nat → Int32} {c P r : Nat → Nat} {md up wl cu : Int32} {hf : rsH} (h : cu = -1) : rsK G M_s_value (rmO 5 109) [.ref (rsB G)] (rwd G K V c P r md up wl cu hf) n (rsOk (some (.int 0)) (rwd G K V c P r md up wl cu hf) n) := by
  refine rsK_of pf_s_value rfl (Nat.le_of_ble_eq_true rfl) rfl ?_
  refine rs_aload_n d_s_value_0 rfl rfl ?_
  refine rx_get_cu d_s_value_1 rfl f_s_31 ?_
  refine rs_iconst (v := (-1)) d_s_value_4 rfl (by decide) ?_
  refine rs_icmp_ne (tgt := 12) d_s_value_5 rfl (by decide) (fun hc => absurd (h) hc) (fun _ => ?_)
  refine rs_iconst (v := 0) d_s_value_8 rfl (by decide) ?_
  refine rs_goto (tgt := 20) d_s_value_9 (by decide) ?_
  exact rs_ireturn d_s_value_20 rfl ⟨rfl, rfl, rfl⟩
set_option maxRecDepth 100000 in
theorem k_value_some {G : rsG} {n : Nat} {K V : Nat → Nat → Int32} {c P r : Nat → Nat} {md up wl cu : Int32} {hf : rsH} (hs : rp_sum r 3 ≤ 12) (hP : ∀ i, i < 13 → P i ≤ 12) {key : Nat} (hk : key < 100) (h : cu = nI key) : rsK G M_s_value (rmO 5 109) [.ref (rsB G)] (rwd G K V c P r md up wl cu hf) n (rsOk (some (.int (rp_vz K V P (rp_sum r 3) key))) (rwd G K V c P r md up wl cu hf) n) := by
  refine rsK_of pf_s_value rfl (Nat.le_of_ble_eq_true rfl) rfl ?_
  subst h
  refine rs_aload_n d_s_value_0 rfl rfl ?_
  refine rx_get_cu d_s_value_1 rfl f_s_31 ?_
  refine rs_iconst (v := (-1)) d_s_value_4 rfl (by decide) ?_
  refine rs_icmp_ne (tgt := 12) d_s_value_5 rfl (by decide) (fun _ => ?_) (fun hc => absurd hc (rp_ne1 (by omega)))
  refine rs_aload_n d_s_value_12 rfl rfl ?_
  refine rs_aload_n d_s_value_13 rfl rfl ?_
  refine rx_get_cu d_s_value_14 rfl f_s_31 ?_
  refine rx_cV d_s_value_17 rfl c_s_86 (by exact np_s_valueOrZero) rw_x (k_valueOrZero hs hP hk) (by decide) ⟨rfl, rfl⟩ (Nat.le_of_ble_eq_true rfl) rfl ?_
  exact rs_ireturn d_s_value_20 rfl ⟨rfl, rfl, rfl⟩
set_option maxRecDepth 100000 in
theorem k_memory_down {G : rsG} {n : Nat} {K V : Nat → Nat → Int32} {c P r : Nat → Nat} {md up wl cu : Int32} {hf : rsH} (h : up = 0) : rsK G M_s_memory (rmO 1 20) [.ref (rsB G)] (rwd G K V c P r md up wl cu hf) n (rsOk (some (.int (-1))) (rwd G K V c P r md up wl cu hf) n) := by
  refine rsK_of pf_s_memory rfl (Nat.le_of_ble_eq_true rfl) rfl ?_
  refine rs_aload_n d_s_memory_0 rfl rfl ?_
  refine rx_get_up d_s_memory_1 rfl f_s_23 ?_
  refine rs_if_eq (tgt := 17) d_s_memory_4 rfl (by decide) (fun _ => ?_) (fun hc => absurd (h) hc)
  refine rs_iconst (v := (-1)) d_s_memory_17 rfl (by decide) ?_
  exact rs_ireturn d_s_memory_18 rfl ⟨rfl, rfl, rfl⟩
set_option maxRecDepth 100000 in
theorem k_memory_up {G : rsG} {n : Nat} {K V : Nat → Nat → Int32} {c P r : Nat → Nat} {md up wl cu : Int32} {hf : rsH} (h : ¬ up = 0) : rsK G M_s_memory (rmO 1 20) [.ref (rsB G)] (rwd G K V c P r md up wl cu hf) n (rsOk (some (.int (nI (c 13)))) (rwd G K V c P r md up wl cu hf) n) := by
  refine rsK_of pf_s_memory rfl (Nat.le_of_ble_eq_true rfl) rfl ?_
  refine rs_aload_n d_s_memory_0 rfl rfl ?_
  refine rx_get_up d_s_memory_1 rfl f_s_23 ?_
  refine rs_if_eq (tgt := 17) d_s_memory_4 rfl (by decide) (fun hc => absurd hc (h)) (fun _ => ?_)
  refine rs_aload_n d_s_memory_7 rfl rfl ?_
  refine rx_get_ga d_s_memory_8 rfl f_s_10 ?_
  refine rx_cV d_s_memory_11 rfl c_s_71 (by exact np_e_count) (rw_e (by decide)) (k_count (by decide)) (by decide) ⟨rfl, rfl⟩ (Nat.le_of_ble_eq_true rfl) rfl ?_
  refine rs_goto (tgt := 18) d_s_memory_14 (by decide) ?_
  exact rs_ireturn d_s_memory_18 rfl ⟨rfl, rfl, rfl⟩
set_option maxRecDepth 100000 in
theorem k_format_ok {G : rsG} {n : Nat} {K V : Nat → Nat → Int32} {c P r : Nat → Nat} {md up wl cu : Int32} {hf : rsH} {wl' : Int32} (h : rp_sp wl (nI 1) = some wl') : rsK G M_s_format (rmO 7 111) [.ref (rsB G)] (rwd G K V c P r md up wl cu hf) n (rsOk (none) (rwd G (va_up K 13 (fun _ => 0)) V (va_up c 13 0) P (fun _ => 0) 1 1 wl' (-1) hf) n) := by
  refine rsK_of pf_s_format rfl (Nat.le_of_ble_eq_true rfl) rfl ?_
  refine rs_aload_n d_s_format_0 rfl rfl ?_
  refine rs_iconst (v := (nI 1)) d_s_format_1 rfl (by decide) ?_
  refine rx_cV d_s_format_2 rfl c_s_34 (by exact np_s_spendWrites) rw_x (k_spend_ok h) (by decide) ⟨rfl, rfl⟩ (Nat.le_of_ble_eq_true rfl) rfl ?_
  refine rs_aload_n d_s_format_5 rfl rfl ?_
  refine rx_get_di d_s_format_6 rfl f_s_19 ?_
  refine rx_cV d_s_format_9 rfl c_s_38 (by exact np_d_makeAnew) rw_d (k_makeAnew) (by decide) ⟨rfl, rfl⟩ (Nat.le_of_ble_eq_true rfl) rfl ?_
  refine rs_aload_n d_s_format_12 rfl rfl ?_
  refine rx_cV d_s_format_13 rfl c_s_41 (by exact np_s_comeUp) rw_x (k_comeUp) (by decide) ⟨rfl, rfl⟩ (Nat.le_of_ble_eq_true rfl) rfl ?_
  exact rs_vreturn d_s_format_16 rfl ⟨rfl, rfl, rfl⟩
set_option maxRecDepth 100000 in
theorem k_format_no {G : rsG} {n : Nat} {K V : Nat → Nat → Int32} {c P r : Nat → Nat} {md up wl cu : Int32} {hf : rsH} (h : rp_sp wl (nI 1) = none) : rsK G M_s_format (rmT 7 111) [.ref (rsB G)] (rwd G K V c P r md up wl cu hf) n (rsTh 1 (rwd G (va_up K 13 (fun _ => 0)) V (va_up c 13 0) P r md 0 (-1) (-1) hf) (n + 1)) := by
  refine rsK_of pf_s_format rfl (Nat.le_of_ble_eq_true rfl) rfl ?_
  refine rs_aload_n d_s_format_0 rfl rfl ?_
  refine rs_iconst (v := (nI 1)) d_s_format_1 rfl (by decide) ?_
  exact rx_tV d_s_format_2 c_s_34 (by exact np_s_spendWrites) rw_x (k_spend_no h) (by decide) (by decide) (Nat.le_of_ble_eq_true rfl) rfl rfl ⟨rfl, rfl, rfl⟩
set_option maxRecDepth 100000 in
theorem k_recover_up {G : rsG} {n : Nat} {K V : Nat → Nat → Int32} {c P r : Nat → Nat} {md up wl cu : Int32} {hf : rsH} (h : ¬ up = 0) : rsK G M_s_recover (rmT 7 110) [.ref (rsB G)] (rwd G K V c P r md up wl cu hf) n (rsTh 1 (rwd G K V c P r md up wl cu hf) (n + 1)) := by
  refine rsK_of pf_s_recover rfl (Nat.le_of_ble_eq_true rfl) rfl ?_
  refine rs_aload_n d_s_recover_0 rfl rfl ?_
  refine rx_get_up d_s_recover_1 rfl f_s_23 ?_
  refine rs_if_eq (tgt := 17) d_s_recover_4 rfl (by decide) (fun hc => absurd hc (h)) (fun _ => ?_)
  exact rs_throw (k := 1) (tx := "the store is up") d_s_recover_7 d_s_recover_10 d_s_recover_11 d_s_recover_13 d_s_recover_16 (by decide) n_s_44 t_ins1 t_ini1 x_s_48 (by decide) rfl (Nat.le_of_ble_eq_true rfl) (by decide) (by decide) (by decide) (by decide) ⟨rfl, rfl, rfl⟩
set_option maxRecDepth 100000 in
theorem k_recover_nodisk {G : rsG} {n : Nat} {K V : Nat → Nat → Int32} {c P r : Nat → Nat} {md up wl cu : Int32} {hf : rsH} (hb : narrow .boolean (.int md) = .int md) (h : up = 0) (h2 : md = 0) : rsK G M_s_recover (rmT 7 110) [.ref (rsB G)] (rwd G K V c P r md up wl cu hf) n (rsTh 1 (rwd G K V c P r md up wl cu hf) (n + 1)) := by
  refine rsK_of pf_s_recover rfl (Nat.le_of_ble_eq_true rfl) rfl ?_
  refine rs_aload_n d_s_recover_0 rfl rfl ?_
  refine rx_get_up d_s_recover_1 rfl f_s_23 ?_
  refine rs_if_eq (tgt := 17) d_s_recover_4 rfl (by decide) (fun _ => ?_) (fun hc => absurd (h) hc)
  refine rs_aload_n d_s_recover_17 rfl rfl ?_
  exact rx_tV d_s_recover_18 c_s_51 (by exact np_s_requireDisk) rw_x (k_reqDisk_no hb h2) (by decide) (by decide) (Nat.le_of_ble_eq_true rfl) rfl rfl ⟨rfl, rfl, rfl⟩
set_option maxRecDepth 100000 in
theorem k_recover_ok {G : rsG} {n : Nat} {K V : Nat → Nat → Int32} {c P r : Nat → Nat} {md up wl cu : Int32} {hf : rsH} (hb : narrow .boolean (.int md) = .int md) (h : up = 0) (h2 : ¬ md = 0) : rsK G M_s_recover (rmO 7 110) [.ref (rsB G)] (rwd G K V c P r md up wl cu hf) n (rsOk (some (.int (nI (rp_sum r 3)))) (rwd G (va_up K 13 (fun _ => 0)) V (va_up c 13 0) P r md 1 wl (-1) hf) n) := by
  refine rsK_of pf_s_recover rfl (Nat.le_of_ble_eq_true rfl) rfl ?_
  refine rs_aload_n d_s_recover_0 rfl rfl ?_
  refine rx_get_up d_s_recover_1 rfl f_s_23 ?_
  refine rs_if_eq (tgt := 17) d_s_recover_4 rfl (by decide) (fun _ => ?_) (fun hc => absurd (h) hc)
  refine rs_aload_n d_s_recover_17 rfl rfl ?_
  refine rx_cV d_s_recover_18 rfl c_s_51 (by exact np_s_requireDisk) rw_x (k_reqDisk_ok hb h2) (by decide) ⟨rfl, rfl⟩ (Nat.le_of_ble_eq_true rfl) rfl ?_
  refine rs_aload_n d_s_recover_21 rfl rfl ?_
  refine rx_cV d_s_recover_22 rfl c_s_41 (by exact np_s_comeUp) rw_x (k_comeUp) (by decide) ⟨rfl, rfl⟩ (Nat.le_of_ble_eq_true rfl) rfl ?_
  refine rs_aload_n d_s_recover_25 rfl rfl ?_
  refine rx_get_di d_s_recover_26 rfl f_s_19 ?_
  refine rx_cV d_s_recover_29 rfl c_s_54 (by exact np_d_countRuns) rw_d (k_countRuns) (by decide) ⟨rfl, rfl⟩ (Nat.le_of_ble_eq_true rfl) rfl ?_
  exact rs_ireturn d_s_recover_32 rfl ⟨rfl, rfl, rfl⟩
set_option maxRecDepth 100000 in
theorem k_put_bad {G : rsG} {n : Nat} {K V : Nat → Nat → Int32} {c P r : Nat → Nat} {md up wl cu : Int32} {hf : rsH} {x : Int32} (hx : x < 0 ∨ ¬ x < 100) {v2 : Int32} : rsK G M_s_put (rmT 10 175) [.ref (rsB G), .int x, .int v2] (rwd G K V c P r md up wl cu hf) n (rsTh 0 (rwd G K V c P r md up wl cu hf) (n + 1)) := by
  refine rsK_of pf_s_put rfl (Nat.le_of_ble_eq_true rfl) rfl ?_
  refine rs_iload_n d_s_put_0 rfl rfl ?_
  exact rx_tS d_s_put_1 c_s_58 (by exact np_s_requireKey) (k_reqKey_no hx) (by decide) (by decide) (Nat.le_of_ble_eq_true rfl) rfl rfl ⟨rfl, rfl, rfl⟩
set_option maxRecDepth 100000 in
theorem k_put_down {G : rsG} {n : Nat} {K V : Nat → Nat → Int32} {c P r : Nat → Nat} {md up wl cu : Int32} {hf : rsH} {key : Nat} (hk : key < 100) (h : up = 0) {v2 : Int32} : rsK G M_s_put (rmT 10 175) [.ref (rsB G), .int (nI key), .int v2] (rwd G K V c P r md up wl cu hf) n (rsTh 1 (rwd G K V c P r md up wl cu hf) (n + 1)) := by
  refine rsK_of pf_s_put rfl (Nat.le_of_ble_eq_true rfl) rfl ?_
  refine rs_iload_n d_s_put_0 rfl rfl ?_
  refine rx_cS d_s_put_1 rfl c_s_58 (by exact np_s_requireKey) (k_reqKey_ok hk) (by decide) ⟨rfl, rfl⟩ (Nat.le_of_ble_eq_true rfl) rfl ?_
  refine rs_aload_n d_s_put_4 rfl rfl ?_
  exact rx_tV d_s_put_5 c_s_61 (by exact np_s_requireUp) rw_x (k_reqUp_no h) (by decide) (by decide) (Nat.le_of_ble_eq_true rfl) rfl rfl ⟨rfl, rfl, rfl⟩
set_option maxRecDepth 100000 in
theorem k_put_ok {G : rsG} {n : Nat} {K V K2 V2 : Nat → Nat → Int32} {c P r c2 P2 r2 : Nat → Nat} {md up wl cu md2 up2 wl2 cu2 : Int32} {hf : rsH} {key : Nat} (hk : key < 100) (hu : ¬ up = 0) {v2 : Int32} (hM : rsK G M_s_makePlaceInMemory (rmO 9 154) [.ref (rsB G), .int (nI key)] (rwd G K V c P r md up wl cu hf) n (rsOk none (rwd G K2 V2 c2 P2 r2 md2 up2 wl2 cu2 hf) n)) : rsK G M_s_put (rmO 10 175) [.ref (rsB G), .int (nI key), .int v2] (rwd G K V c P r md up wl cu hf) n (rsOk (some (.int (nI (rp_c K2 c2 13 key 13)))) (rwd G (rp_u K2 13 key 1) (rp_u V2 13 key v2) (rp_c K2 c2 13 key) P2 r2 md2 up2 wl2 (-1) hf) n) := by
  refine rsK_of pf_s_put rfl (Nat.le_of_ble_eq_true rfl) rfl ?_
  refine rs_iload_n d_s_put_0 rfl rfl ?_
  refine rx_cS d_s_put_1 rfl c_s_58 (by exact np_s_requireKey) (k_reqKey_ok hk) (by decide) ⟨rfl, rfl⟩ (Nat.le_of_ble_eq_true rfl) rfl ?_
  refine rs_aload_n d_s_put_4 rfl rfl ?_
  refine rx_cV d_s_put_5 rfl c_s_61 (by exact np_s_requireUp) rw_x (k_reqUp_ok hu) (by decide) ⟨rfl, rfl⟩ (Nat.le_of_ble_eq_true rfl) rfl ?_
  refine rs_aload_n d_s_put_8 rfl rfl ?_
  refine rs_iload_n d_s_put_9 rfl rfl ?_
  refine rx_cV d_s_put_10 rfl c_s_64 (by exact np_s_makePlaceInMemory) rw_x (hM) (by decide) ⟨rfl, rfl⟩ (Nat.le_of_ble_eq_true rfl) rfl ?_
  refine rs_aload_n d_s_put_13 rfl rfl ?_
  refine rx_get_ga d_s_put_14 rfl f_s_10 ?_
  refine rs_iload_n d_s_put_17 rfl rfl ?_
  refine rs_iload_n d_s_put_18 rfl rfl ?_
  refine rx_cV d_s_put_19 rfl c_s_67 (by exact np_e_setValue) (rw_e (by decide)) (k_setValue (by decide) hk) (by decide) ⟨rfl, rfl⟩ (Nat.le_of_ble_eq_true rfl) rfl ?_
  refine rs_aload_n d_s_put_22 rfl rfl ?_
  refine rs_iconst (v := (-1)) d_s_put_23 rfl (by decide) ?_
  refine rx_put_cu d_s_put_24 rfl p_s_31 ?_
  refine rs_aload_n d_s_put_27 rfl rfl ?_
  refine rx_get_ga d_s_put_28 rfl f_s_10 ?_
  refine rx_cV d_s_put_31 rfl c_s_71 (by exact np_e_count) (rw_e (by decide)) (k_count (by decide)) (by decide) ⟨rfl, rfl⟩ (Nat.le_of_ble_eq_true rfl) rfl ?_
  exact rs_ireturn d_s_put_34 rfl ⟨rfl, rfl, rfl⟩
set_option maxRecDepth 100000 in
theorem k_put_th {G : rsG} {n : Nat} {K V : Nat → Nat → Int32} {c P r : Nat → Nat} {md up wl cu : Int32} {hf : rsH} {key : Nat} (hk : key < 100) (hu : ¬ up = 0) {v2 : Int32} {k : Nat} {h' : rsH} {n' : Nat} (hM : rsK G M_s_makePlaceInMemory (rmT 9 154) [.ref (rsB G), .int (nI key)] (rwd G K V c P r md up wl cu hf) n (rsTh k h' n')) : rsK G M_s_put (rmT 10 175) [.ref (rsB G), .int (nI key), .int v2] (rwd G K V c P r md up wl cu hf) n (rsTh k h' n') := by
  refine rsK_of pf_s_put rfl (Nat.le_of_ble_eq_true rfl) rfl ?_
  refine rs_iload_n d_s_put_0 rfl rfl ?_
  refine rx_cS d_s_put_1 rfl c_s_58 (by exact np_s_requireKey) (k_reqKey_ok hk) (by decide) ⟨rfl, rfl⟩ (Nat.le_of_ble_eq_true rfl) rfl ?_
  refine rs_aload_n d_s_put_4 rfl rfl ?_
  refine rx_cV d_s_put_5 rfl c_s_61 (by exact np_s_requireUp) rw_x (k_reqUp_ok hu) (by decide) ⟨rfl, rfl⟩ (Nat.le_of_ble_eq_true rfl) rfl ?_
  refine rs_aload_n d_s_put_8 rfl rfl ?_
  refine rs_iload_n d_s_put_9 rfl rfl ?_
  exact rx_tV d_s_put_10 c_s_64 (by exact np_s_makePlaceInMemory) rw_x (hM) (by decide) (by decide) (Nat.le_of_ble_eq_true rfl) rfl rfl ⟨rfl, rfl, rfl⟩
set_option maxRecDepth 100000 in
theorem k_remove_bad {G : rsG} {n : Nat} {K V : Nat → Nat → Int32} {c P r : Nat → Nat} {md up wl cu : Int32} {hf : rsH} {x : Int32} (hx : x < 0 ∨ ¬ x < 100) : rsK G M_s_remove (rmT 10 175) [.ref (rsB G), .int x] (rwd G K V c P r md up wl cu hf) n (rsTh 0 (rwd G K V c P r md up wl cu hf) (n + 1)) := by
  refine rsK_of pf_s_remove rfl (Nat.le_of_ble_eq_true rfl) rfl ?_
  refine rs_iload_n d_s_remove_0 rfl rfl ?_
  exact rx_tS d_s_remove_1 c_s_58 (by exact np_s_requireKey) (k_reqKey_no hx) (by decide) (by decide) (Nat.le_of_ble_eq_true rfl) rfl rfl ⟨rfl, rfl, rfl⟩
set_option maxRecDepth 100000 in
theorem k_remove_down {G : rsG} {n : Nat} {K V : Nat → Nat → Int32} {c P r : Nat → Nat} {md up wl cu : Int32} {hf : rsH} {key : Nat} (hk : key < 100) (h : up = 0) : rsK G M_s_remove (rmT 10 175) [.ref (rsB G), .int (nI key)] (rwd G K V c P r md up wl cu hf) n (rsTh 1 (rwd G K V c P r md up wl cu hf) (n + 1)) := by
  refine rsK_of pf_s_remove rfl (Nat.le_of_ble_eq_true rfl) rfl ?_
  refine rs_iload_n d_s_remove_0 rfl rfl ?_
  refine rx_cS d_s_remove_1 rfl c_s_58 (by exact np_s_requireKey) (k_reqKey_ok hk) (by decide) ⟨rfl, rfl⟩ (Nat.le_of_ble_eq_true rfl) rfl ?_
  refine rs_aload_n d_s_remove_4 rfl rfl ?_
  exact rx_tV d_s_remove_5 c_s_61 (by exact np_s_requireUp) rw_x (k_reqUp_no h) (by decide) (by decide) (Nat.le_of_ble_eq_true rfl) rfl rfl ⟨rfl, rfl, rfl⟩
set_option maxRecDepth 100000 in
theorem k_remove_ok {G : rsG} {n : Nat} {K V K2 V2 : Nat → Nat → Int32} {c P r c2 P2 r2 : Nat → Nat} {md up wl cu md2 up2 wl2 cu2 : Int32} {hf : rsH} (hs : rp_sum r 3 ≤ 12) (hP : ∀ i, i < 13 → P i ≤ 12) {key : Nat} (hk : key < 100) (hu : ¬ up = 0) (hM : rsK G M_s_makePlaceInMemory (rmO 9 154) [.ref (rsB G), .int (nI key)] (rwd G K V c P r md up wl cu hf) n (rsOk none (rwd G K2 V2 c2 P2 r2 md2 up2 wl2 cu2 hf) n)) : rsK G M_s_remove (rmO 10 175) [.ref (rsB G), .int (nI key)] (rwd G K V c P r md up wl cu hf) n (rsOk (some (.int (rp_th K P (rp_sum r 3) key))) (rwd G (rp_u K2 13 key 2) (rp_u V2 13 key 0) (rp_c K2 c2 13 key) P2 r2 md2 up2 wl2 (-1) hf) n) := by
  refine rsK_of pf_s_remove rfl (Nat.le_of_ble_eq_true rfl) rfl ?_
  refine rs_iload_n d_s_remove_0 rfl rfl ?_
  refine rx_cS d_s_remove_1 rfl c_s_58 (by exact np_s_requireKey) (k_reqKey_ok hk) (by decide) ⟨rfl, rfl⟩ (Nat.le_of_ble_eq_true rfl) rfl ?_
  refine rs_aload_n d_s_remove_4 rfl rfl ?_
  refine rx_cV d_s_remove_5 rfl c_s_61 (by exact np_s_requireUp) rw_x (k_reqUp_ok hu) (by decide) ⟨rfl, rfl⟩ (Nat.le_of_ble_eq_true rfl) rfl ?_
  refine rs_aload_n d_s_remove_8 rfl rfl ?_
  refine rs_iload_n d_s_remove_9 rfl rfl ?_
  refine rx_cV d_s_remove_10 rfl c_s_74 (by exact np_s_isThere) rw_x (k_isThere hs hP hk) (by decide) ⟨rfl, rfl⟩ (Nat.le_of_ble_eq_true rfl) rfl ?_
  refine rs_istore_n d_s_remove_13 rfl (by decide) rfl ?_
  refine rs_aload_n d_s_remove_14 rfl rfl ?_
  refine rs_iload_n d_s_remove_15 rfl rfl ?_
  refine rx_cV d_s_remove_16 rfl c_s_64 (by exact np_s_makePlaceInMemory) rw_x (hM) (by decide) ⟨rfl, rfl⟩ (Nat.le_of_ble_eq_true rfl) rfl ?_
  refine rs_aload_n d_s_remove_19 rfl rfl ?_
  refine rx_get_ga d_s_remove_20 rfl f_s_10 ?_
  refine rs_iload_n d_s_remove_23 rfl rfl ?_
  refine rx_cV d_s_remove_24 rfl c_s_78 (by exact np_e_setMark) (rw_e (by decide)) (k_setMark (by decide) hk) (by decide) ⟨rfl, rfl⟩ (Nat.le_of_ble_eq_true rfl) rfl ?_
  refine rs_aload_n d_s_remove_27 rfl rfl ?_
  refine rs_iconst (v := (-1)) d_s_remove_28 rfl (by decide) ?_
  refine rx_put_cu d_s_remove_29 rfl p_s_31 ?_
  refine rs_iload_n d_s_remove_32 rfl rfl ?_
  exact rs_zreturn d_s_remove_33 rfl (rp_th_nar _ _ _ _) ⟨rfl, rfl, rfl⟩
set_option maxRecDepth 100000 in
theorem k_remove_th {G : rsG} {n : Nat} {K V : Nat → Nat → Int32} {c P r : Nat → Nat} {md up wl cu : Int32} {hf : rsH} (hs : rp_sum r 3 ≤ 12) (hP : ∀ i, i < 13 → P i ≤ 12) {key : Nat} (hk : key < 100) (hu : ¬ up = 0) {k : Nat} {h' : rsH} {n' : Nat} (hM : rsK G M_s_makePlaceInMemory (rmT 9 154) [.ref (rsB G), .int (nI key)] (rwd G K V c P r md up wl cu hf) n (rsTh k h' n')) : rsK G M_s_remove (rmT 10 175) [.ref (rsB G), .int (nI key)] (rwd G K V c P r md up wl cu hf) n (rsTh k h' n') := by
  refine rsK_of pf_s_remove rfl (Nat.le_of_ble_eq_true rfl) rfl ?_
  refine rs_iload_n d_s_remove_0 rfl rfl ?_
  refine rx_cS d_s_remove_1 rfl c_s_58 (by exact np_s_requireKey) (k_reqKey_ok hk) (by decide) ⟨rfl, rfl⟩ (Nat.le_of_ble_eq_true rfl) rfl ?_
  refine rs_aload_n d_s_remove_4 rfl rfl ?_
  refine rx_cV d_s_remove_5 rfl c_s_61 (by exact np_s_requireUp) rw_x (k_reqUp_ok hu) (by decide) ⟨rfl, rfl⟩ (Nat.le_of_ble_eq_true rfl) rfl ?_
  refine rs_aload_n d_s_remove_8 rfl rfl ?_
  refine rs_iload_n d_s_remove_9 rfl rfl ?_
  refine rx_cV d_s_remove_10 rfl c_s_74 (by exact np_s_isThere) rw_x (k_isThere hs hP hk) (by decide) ⟨rfl, rfl⟩ (Nat.le_of_ble_eq_true rfl) rfl ?_
  refine rs_istore_n d_s_remove_13 rfl (by decide) rfl ?_
  refine rs_aload_n d_s_remove_14 rfl rfl ?_
  refine rs_iload_n d_s_remove_15 rfl rfl ?_
  exact rx_tV d_s_remove_16 c_s_64 (by exact np_s_makePlaceInMemory) rw_x (hM) (by decide) (by decide) (Nat.le_of_ble_eq_true rfl) rfl rfl ⟨rfl, rfl, rfl⟩
set_option maxRecDepth 100000 in
theorem k_get_bad {G : rsG} {n : Nat} {K V : Nat → Nat → Int32} {c P r : Nat → Nat} {md up wl cu : Int32} {hf : rsH} {x : Int32} (hx : x < 0 ∨ ¬ x < 100) : rsK G M_s_get (rmT 7 110) [.ref (rsB G), .int x] (rwd G K V c P r md up wl cu hf) n (rsTh 0 (rwd G K V c P r md up wl cu hf) (n + 1)) := by
  refine rsK_of pf_s_get rfl (Nat.le_of_ble_eq_true rfl) rfl ?_
  refine rs_iload_n d_s_get_0 rfl rfl ?_
  exact rx_tS d_s_get_1 c_s_58 (by exact np_s_requireKey) (k_reqKey_no hx) (by decide) (by decide) (Nat.le_of_ble_eq_true rfl) rfl rfl ⟨rfl, rfl, rfl⟩
set_option maxRecDepth 100000 in
theorem k_get_down {G : rsG} {n : Nat} {K V : Nat → Nat → Int32} {c P r : Nat → Nat} {md up wl cu : Int32} {hf : rsH} {key : Nat} (hk : key < 100) (h : up = 0) : rsK G M_s_get (rmT 7 110) [.ref (rsB G), .int (nI key)] (rwd G K V c P r md up wl cu hf) n (rsTh 1 (rwd G K V c P r md up wl cu hf) (n + 1)) := by
  refine rsK_of pf_s_get rfl (Nat.le_of_ble_eq_true rfl) rfl ?_
  refine rs_iload_n d_s_get_0 rfl rfl ?_
  refine rx_cS d_s_get_1 rfl c_s_58 (by exact np_s_requireKey) (k_reqKey_ok hk) (by decide) ⟨rfl, rfl⟩ (Nat.le_of_ble_eq_true rfl) rfl ?_
  refine rs_aload_n d_s_get_4 rfl rfl ?_
  exact rx_tV d_s_get_5 c_s_61 (by exact np_s_requireUp) rw_x (k_reqUp_no h) (by decide) (by decide) (Nat.le_of_ble_eq_true rfl) rfl rfl ⟨rfl, rfl, rfl⟩
set_option maxRecDepth 100000 in
theorem k_get_no {G : rsG} {n : Nat} {K V : Nat → Nat → Int32} {c P r : Nat → Nat} {md up wl cu : Int32} {hf : rsH} (hs : rp_sum r 3 ≤ 12) (hP : ∀ i, i < 13 → P i ≤ 12) {key : Nat} (hk : key < 100) (hu : ¬ up = 0) (hn : rp_th K P (rp_sum r 3) key = 0) : rsK G M_s_get (rmT 7 110) [.ref (rsB G), .int (nI key)] (rwd G K V c P r md up wl cu hf) n (rsTh 3 (rwd G K V c P r md up wl cu hf) (n + 1)) := by
  refine rsK_of pf_s_get rfl (Nat.le_of_ble_eq_true rfl) rfl ?_
  refine rs_iload_n d_s_get_0 rfl rfl ?_
  refine rx_cS d_s_get_1 rfl c_s_58 (by exact np_s_requireKey) (k_reqKey_ok hk) (by decide) ⟨rfl, rfl⟩ (Nat.le_of_ble_eq_true rfl) rfl ?_
  refine rs_aload_n d_s_get_4 rfl rfl ?_
  refine rx_cV d_s_get_5 rfl c_s_61 (by exact np_s_requireUp) rw_x (k_reqUp_ok hu) (by decide) ⟨rfl, rfl⟩ (Nat.le_of_ble_eq_true rfl) rfl ?_
  refine rs_aload_n d_s_get_8 rfl rfl ?_
  refine rs_iload_n d_s_get_9 rfl rfl ?_
  refine rx_cV d_s_get_10 rfl c_s_74 (by exact np_s_isThere) rw_x (k_isThere hs hP hk) (by decide) ⟨rfl, rfl⟩ (Nat.le_of_ble_eq_true rfl) rfl ?_
  refine rs_if_ne (tgt := 26) d_s_get_13 rfl (by decide) (fun hc => absurd (hn) hc) (fun _ => ?_)
  exact rs_throw (k := 3) (tx := "the key is not there") d_s_get_16 d_s_get_19 d_s_get_20 d_s_get_22 d_s_get_25 (by decide) n_s_81 t_ins3 t_ini3 x_s_85 (by decide) rfl (Nat.le_of_ble_eq_true rfl) (by decide) (by decide) (by decide) (by decide) ⟨rfl, rfl, rfl⟩
set_option maxRecDepth 100000 in
theorem k_get_ok {G : rsG} {n : Nat} {K V : Nat → Nat → Int32} {c P r : Nat → Nat} {md up wl cu : Int32} {hf : rsH} (hs : rp_sum r 3 ≤ 12) (hP : ∀ i, i < 13 → P i ≤ 12) {key : Nat} (hk : key < 100) (hu : ¬ up = 0) (hn : ¬ rp_th K P (rp_sum r 3) key = 0) : rsK G M_s_get (rmO 7 110) [.ref (rsB G), .int (nI key)] (rwd G K V c P r md up wl cu hf) n (rsOk (some (.int (rp_vz K V P (rp_sum r 3) key))) (rwd G K V c P r md up wl cu hf) n) := by
  refine rsK_of pf_s_get rfl (Nat.le_of_ble_eq_true rfl) rfl ?_
  refine rs_iload_n d_s_get_0 rfl rfl ?_
  refine rx_cS d_s_get_1 rfl c_s_58 (by exact np_s_requireKey) (k_reqKey_ok hk) (by decide) ⟨rfl, rfl⟩ (Nat.le_of_ble_eq_true rfl) rfl ?_
  refine rs_aload_n d_s_get_4 rfl rfl ?_
  refine rx_cV d_s_get_5 rfl c_s_61 (by exact np_s_requireUp) rw_x (k_reqUp_ok hu) (by decide) ⟨rfl, rfl⟩ (Nat.le_of_ble_eq_true rfl) rfl ?_
  refine rs_aload_n d_s_get_8 rfl rfl ?_
  refine rs_iload_n d_s_get_9 rfl rfl ?_
  refine rx_cV d_s_get_10 rfl c_s_74 (by exact np_s_isThere) rw_x (k_isThere hs hP hk) (by decide) ⟨rfl, rfl⟩ (Nat.le_of_ble_eq_true rfl) rfl ?_
  refine rs_if_ne (tgt := 26) d_s_get_13 rfl (by decide) (fun _ => ?_) (fun hc => absurd hc (hn))
  refine rs_aload_n d_s_get_26 rfl rfl ?_
  refine rs_iload_n d_s_get_27 rfl rfl ?_
  refine rx_cV d_s_get_28 rfl c_s_86 (by exact np_s_valueOrZero) rw_x (k_valueOrZero hs hP hk) (by decide) ⟨rfl, rfl⟩ (Nat.le_of_ble_eq_true rfl) rfl ?_
  exact rs_ireturn d_s_get_31 rfl ⟨rfl, rfl, rfl⟩
set_option maxRecDepth 100000 in
theorem k_has_bad {G : rsG} {n : Nat} {K V : Nat → Nat → Int32} {c P r : Nat → Nat} {md up wl cu : Int32} {hf : rsH} {x : Int32} (hx : x < 0 ∨ ¬ x < 100) : rsK G M_s_has (rmT 7 110) [.ref (rsB G), .int x] (rwd G K V c P r md up wl cu hf) n (rsTh 0 (rwd G K V c P r md up wl cu hf) (n + 1)) := by
  refine rsK_of pf_s_has rfl (Nat.le_of_ble_eq_true rfl) rfl ?_
  refine rs_iload_n d_s_has_0 rfl rfl ?_
  exact rx_tS d_s_has_1 c_s_58 (by exact np_s_requireKey) (k_reqKey_no hx) (by decide) (by decide) (Nat.le_of_ble_eq_true rfl) rfl rfl ⟨rfl, rfl, rfl⟩
set_option maxRecDepth 100000 in
theorem k_has_down {G : rsG} {n : Nat} {K V : Nat → Nat → Int32} {c P r : Nat → Nat} {md up wl cu : Int32} {hf : rsH} {key : Nat} (hk : key < 100) (h : up = 0) : rsK G M_s_has (rmT 7 110) [.ref (rsB G), .int (nI key)] (rwd G K V c P r md up wl cu hf) n (rsTh 1 (rwd G K V c P r md up wl cu hf) (n + 1)) := by
  refine rsK_of pf_s_has rfl (Nat.le_of_ble_eq_true rfl) rfl ?_
  refine rs_iload_n d_s_has_0 rfl rfl ?_
  refine rx_cS d_s_has_1 rfl c_s_58 (by exact np_s_requireKey) (k_reqKey_ok hk) (by decide) ⟨rfl, rfl⟩ (Nat.le_of_ble_eq_true rfl) rfl ?_
  refine rs_aload_n d_s_has_4 rfl rfl ?_
  exact rx_tV d_s_has_5 c_s_61 (by exact np_s_requireUp) rw_x (k_reqUp_no h) (by decide) (by decide) (Nat.le_of_ble_eq_true rfl) rfl rfl ⟨rfl, rfl, rfl⟩
set_option maxRecDepth 100000 in
theorem k_has_ok {G : rsG} {n : Nat} {K V : Nat → Nat → Int32} {c P r : Nat → Nat} {md up wl cu : Int32} {hf : rsH} (hs : rp_sum r 3 ≤ 12) (hP : ∀ i, i < 13 → P i ≤ 12) {key : Nat} (hk : key < 100) (hu : ¬ up = 0) : rsK G M_s_has (rmO 7 110) [.ref (rsB G), .int (nI key)] (rwd G K V c P r md up wl cu hf) n (rsOk (some (.int (rp_th K P (rp_sum r 3) key))) (rwd G K V c P r md up wl cu hf) n) := by
  refine rsK_of pf_s_has rfl (Nat.le_of_ble_eq_true rfl) rfl ?_
  refine rs_iload_n d_s_has_0 rfl rfl ?_
  refine rx_cS d_s_has_1 rfl c_s_58 (by exact np_s_requireKey) (k_reqKey_ok hk) (by decide) ⟨rfl, rfl⟩ (Nat.le_of_ble_eq_true rfl) rfl ?_
  refine rs_aload_n d_s_has_4 rfl rfl ?_
  refine rx_cV d_s_has_5 rfl c_s_61 (by exact np_s_requireUp) rw_x (k_reqUp_ok hu) (by decide) ⟨rfl, rfl⟩ (Nat.le_of_ble_eq_true rfl) rfl ?_
  refine rs_aload_n d_s_has_8 rfl rfl ?_
  refine rs_iload_n d_s_has_9 rfl rfl ?_
  refine rx_cV d_s_has_10 rfl c_s_74 (by exact np_s_isThere) rw_x (k_isThere hs hP hk) (by decide) ⟨rfl, rfl⟩ (Nat.le_of_ble_eq_true rfl) rfl ?_
  exact rs_zreturn d_s_has_13 rfl (rp_th_nar _ _ _ _) ⟨rfl, rfl, rfl⟩
set_option maxRecDepth 100000 in
theorem k_flush_down {G : rsG} {n : Nat} {K V : Nat → Nat → Int32} {c P r : Nat → Nat} {md up wl cu : Int32} {hf : rsH} (h : up = 0) : rsK G M_s_flush (rmT 9 154) [.ref (rsB G)] (rwd G K V c P r md up wl cu hf) n (rsTh 1 (rwd G K V c P r md up wl cu hf) (n + 1)) := by
  refine rsK_of pf_s_flush rfl (Nat.le_of_ble_eq_true rfl) rfl ?_
  refine rs_aload_n d_s_flush_0 rfl rfl ?_
  exact rx_tV d_s_flush_1 c_s_61 (by exact np_s_requireUp) rw_x (k_reqUp_no h) (by decide) (by decide) (Nat.le_of_ble_eq_true rfl) rfl rfl ⟨rfl, rfl, rfl⟩
set_option maxRecDepth 100000 in
theorem k_flush_ok {G : rsG} {n : Nat} {K V K2 V2 : Nat → Nat → Int32} {c P r c2 P2 r2 : Nat → Nat} {md up wl cu md2 up2 wl2 cu2 : Int32} {hf : rsH} (hu : ¬ up = 0) {v : Int32} (hF : rsK G M_s_flushMemory (rmO 8 133) [.ref (rsB G)] (rwd G K V c P r md up wl cu hf) n (rsOk (some (.int v)) (rwd G K2 V2 c2 P2 r2 md2 up2 wl2 cu2 hf) n)) : rsK G M_s_flush (rmO 9 154) [.ref (rsB G)] (rwd G K V c P r md up wl cu hf) n (rsOk (some (.int v)) (rwd G K2 V2 c2 P2 r2 md2 up2 wl2 (-1) hf) n) := by
  refine rsK_of pf_s_flush rfl (Nat.le_of_ble_eq_true rfl) rfl ?_
  refine rs_aload_n d_s_flush_0 rfl rfl ?_
  refine rx_cV d_s_flush_1 rfl c_s_61 (by exact np_s_requireUp) rw_x (k_reqUp_ok hu) (by decide) ⟨rfl, rfl⟩ (Nat.le_of_ble_eq_true rfl) rfl ?_
  refine rs_aload_n d_s_flush_4 rfl rfl ?_
  refine rx_cV d_s_flush_5 rfl c_s_90 (by exact np_s_flushMemory) rw_x (hF) (by decide) ⟨rfl, rfl⟩ (Nat.le_of_ble_eq_true rfl) rfl ?_
  refine rs_istore_n d_s_flush_8 rfl (by decide) rfl ?_
  refine rs_aload_n d_s_flush_9 rfl rfl ?_
  refine rs_iconst (v := (-1)) d_s_flush_10 rfl (by decide) ?_
  refine rx_put_cu d_s_flush_11 rfl p_s_31 ?_
  refine rs_iload_n d_s_flush_14 rfl rfl ?_
  exact rs_ireturn d_s_flush_15 rfl ⟨rfl, rfl, rfl⟩
set_option maxRecDepth 100000 in
theorem k_flush_th {G : rsG} {n : Nat} {K V : Nat → Nat → Int32} {c P r : Nat → Nat} {md up wl cu : Int32} {hf : rsH} (hu : ¬ up = 0) {k : Nat} {h' : rsH} {n' : Nat} (hF : rsK G M_s_flushMemory (rmT 8 133) [.ref (rsB G)] (rwd G K V c P r md up wl cu hf) n (rsTh k h' n')) : rsK G M_s_flush (rmT 9 154) [.ref (rsB G)] (rwd G K V c P r md up wl cu hf) n (rsTh k h' n') := by
  refine rsK_of pf_s_flush rfl (Nat.le_of_ble_eq_true rfl) rfl ?_
  refine rs_aload_n d_s_flush_0 rfl rfl ?_
  refine rx_cV d_s_flush_1 rfl c_s_61 (by exact np_s_requireUp) rw_x (k_reqUp_ok hu) (by decide) ⟨rfl, rfl⟩ (Nat.le_of_ble_eq_true rfl) rfl ?_
  refine rs_aload_n d_s_flush_4 rfl rfl ?_
  exact rx_tV d_s_flush_5 c_s_90 (by exact np_s_flushMemory) rw_x (hF) (by decide) (by decide) (Nat.le_of_ble_eq_true rfl) rfl rfl ⟨rfl, rfl, rfl⟩
set_option maxRecDepth 100000 in
theorem k_compact_down {G : rsG} {n : Nat} {K V : Nat → Nat → Int32} {c P r : Nat → Nat} {md up wl cu : Int32} {hf : rsH} (h : up = 0) : rsK G M_s_compact (rmT 9 155) [.ref (rsB G)] (rwd G K V c P r md up wl cu hf) n (rsTh 1 (rwd G K V c P r md up wl cu hf) (n + 1)) := by
  refine rsK_of pf_s_compact rfl (Nat.le_of_ble_eq_true rfl) rfl ?_
  refine rs_aload_n d_s_compact_0 rfl rfl ?_
  exact rx_tV d_s_compact_1 c_s_61 (by exact np_s_requireUp) rw_x (k_reqUp_no h) (by decide) (by decide) (Nat.le_of_ble_eq_true rfl) rfl rfl ⟨rfl, rfl, rfl⟩
set_option maxRecDepth 100000 in
theorem k_compact_none {G : rsG} {n : Nat} {K V : Nat → Nat → Int32} {c P r : Nat → Nat} {md up wl cu : Int32} {hf : rsH} (hu : ¬ up = 0) (h0 : ∀ i, i < 3 → r i ≤ 3) : rsK G M_s_compact (rmO 9 155) [.ref (rsB G)] (rwd G K V c P r md up wl cu hf) n (rsOk (some (.int (-1))) (rwd G K V c P r md up wl (-1) hf) n) := by
  refine rsK_of pf_s_compact rfl (Nat.le_of_ble_eq_true rfl) rfl ?_
  refine rs_aload_n d_s_compact_0 rfl rfl ?_
  refine rx_cV d_s_compact_1 rfl c_s_61 (by exact np_s_requireUp) rw_x (k_reqUp_ok hu) (by decide) ⟨rfl, rfl⟩ (Nat.le_of_ble_eq_true rfl) rfl ?_
  refine rs_aload_n d_s_compact_4 rfl rfl ?_
  refine rx_cV d_s_compact_5 rfl c_s_93 (by exact np_s_leastLevelToCompact) rw_x (k_least_none h0) (by decide) ⟨rfl, rfl⟩ (Nat.le_of_ble_eq_true rfl) rfl ?_
  refine rs_istore_n d_s_compact_8 rfl (by decide) rfl ?_
  refine rs_iload_n d_s_compact_9 rfl rfl ?_
  refine rs_iconst (v := (-1)) d_s_compact_10 rfl (by decide) ?_
  refine rs_icmp_eq (tgt := 20) d_s_compact_11 rfl (by decide) (fun _ => ?_) (fun hc => absurd (rfl) hc)
  refine rs_aload_n d_s_compact_20 rfl rfl ?_
  refine rs_iconst (v := (-1)) d_s_compact_21 rfl (by decide) ?_
  refine rx_put_cu d_s_compact_22 rfl p_s_31 ?_
  refine rs_iload_n d_s_compact_25 rfl rfl ?_
  exact rs_ireturn d_s_compact_26 rfl ⟨rfl, rfl, rfl⟩
set_option maxRecDepth 100000 in
theorem k_compact_ok {G : rsG} {n : Nat} {K V K2 V2 : Nat → Nat → Int32} {c P r c2 P2 r2 : Nat → Nat} {md up wl cu md2 up2 wl2 cu2 : Int32} {hf : rsH} (hu : ¬ up = 0) {lv : Nat} (hl : lv < 3) (h0 : ∀ i, i < lv → r i ≤ 3) (h1 : 3 < r lv) (h2 : r lv ≤ 12) {v : Int32} (hM : rsK G M_s_mergeLevel (rmO 8 133) [.ref (rsB G), .int (nI lv)] (rwd G K V c P r md up wl cu hf) n (rsOk (some (.int v)) (rwd G K2 V2 c2 P2 r2 md2 up2 wl2 cu2 hf) n)) : rsK G M_s_compact (rmO 9 155) [.ref (rsB G)] (rwd G K V c P r md up wl cu hf) n (rsOk (some (.int (nI lv))) (rwd G K2 V2 c2 P2 r2 md2 up2 wl2 (-1) hf) n) := by
  refine rsK_of pf_s_compact rfl (Nat.le_of_ble_eq_true rfl) rfl ?_
  refine rs_aload_n d_s_compact_0 rfl rfl ?_
  refine rx_cV d_s_compact_1 rfl c_s_61 (by exact np_s_requireUp) rw_x (k_reqUp_ok hu) (by decide) ⟨rfl, rfl⟩ (Nat.le_of_ble_eq_true rfl) rfl ?_
  refine rs_aload_n d_s_compact_4 rfl rfl ?_
  refine rx_cV d_s_compact_5 rfl c_s_93 (by exact np_s_leastLevelToCompact) rw_x (k_least_some hl h0 h1 h2) (by decide) ⟨rfl, rfl⟩ (Nat.le_of_ble_eq_true rfl) rfl ?_
  refine rs_istore_n d_s_compact_8 rfl (by decide) rfl ?_
  refine rs_iload_n d_s_compact_9 rfl rfl ?_
  refine rs_iconst (v := (-1)) d_s_compact_10 rfl (by decide) ?_
  refine rs_icmp_eq (tgt := 20) d_s_compact_11 rfl (by decide) (fun hc => absurd hc (rp_ne1 (by omega))) (fun _ => ?_)
  refine rs_aload_n d_s_compact_14 rfl rfl ?_
  refine rs_iload_n d_s_compact_15 rfl rfl ?_
  refine rx_cV d_s_compact_16 rfl c_s_96 (by exact np_s_mergeLevel) rw_x (hM) (by decide) ⟨rfl, rfl⟩ (Nat.le_of_ble_eq_true rfl) rfl ?_
  refine rs_pop d_s_compact_19 rfl rfl ?_
  refine rs_aload_n d_s_compact_20 rfl rfl ?_
  refine rs_iconst (v := (-1)) d_s_compact_21 rfl (by decide) ?_
  refine rx_put_cu d_s_compact_22 rfl p_s_31 ?_
  refine rs_iload_n d_s_compact_25 rfl rfl ?_
  exact rs_ireturn d_s_compact_26 rfl ⟨rfl, rfl, rfl⟩
set_option maxRecDepth 100000 in
theorem k_compact_th {G : rsG} {n : Nat} {K V : Nat → Nat → Int32} {c P r : Nat → Nat} {md up wl cu : Int32} {hf : rsH} (hu : ¬ up = 0) {lv : Nat} (hl : lv < 3) (h0 : ∀ i, i < lv → r i ≤ 3) (h1 : 3 < r lv) (h2 : r lv ≤ 12) {k : Nat} {h' : rsH} {n' : Nat} (hM : rsK G M_s_mergeLevel (rmT 8 133) [.ref (rsB G), .int (nI lv)] (rwd G K V c P r md up wl cu hf) n (rsTh k h' n')) : rsK G M_s_compact (rmT 9 155) [.ref (rsB G)] (rwd G K V c P r md up wl cu hf) n (rsTh k h' n') := by
  refine rsK_of pf_s_compact rfl (Nat.le_of_ble_eq_true rfl) rfl ?_
  refine rs_aload_n d_s_compact_0 rfl rfl ?_
  refine rx_cV d_s_compact_1 rfl c_s_61 (by exact np_s_requireUp) rw_x (k_reqUp_ok hu) (by decide) ⟨rfl, rfl⟩ (Nat.le_of_ble_eq_true rfl) rfl ?_
  refine rs_aload_n d_s_compact_4 rfl rfl ?_
  refine rx_cV d_s_compact_5 rfl c_s_93 (by exact np_s_leastLevelToCompact) rw_x (k_least_some hl h0 h1 h2) (by decide) ⟨rfl, rfl⟩ (Nat.le_of_ble_eq_true rfl) rfl ?_
  refine rs_istore_n d_s_compact_8 rfl (by decide) rfl ?_
  refine rs_iload_n d_s_compact_9 rfl rfl ?_
  refine rs_iconst (v := (-1)) d_s_compact_10 rfl (by decide) ?_
  refine rs_icmp_eq (tgt := 20) d_s_compact_11 rfl (by decide) (fun hc => absurd hc (rp_ne1 (by omega))) (fun _ => ?_)
  refine rs_aload_n d_s_compact_14 rfl rfl ?_
  refine rs_iload_n d_s_compact_15 rfl rfl ?_
  exact rx_tV d_s_compact_16 c_s_96 (by exact np_s_mergeLevel) rw_x (hM) (by decide) (by decide) (Nat.le_of_ble_eq_true rfl) rfl rfl ⟨rfl, rfl, rfl⟩
set_option maxRecDepth 100000 in
theorem k_merge_bad {G : rsG} {n : Nat} {K V : Nat → Nat → Int32} {c P r : Nat → Nat} {md up wl cu : Int32} {hf : rsH} {x : Int32} (hx : x < 0 ∨ 3 ≤ x) : rsK G M_s_merge (rmT 9 155) [.ref (rsB G), .int x] (rwd G K V c P r md up wl cu hf) n (rsTh 0 (rwd G K V c P r md up wl cu hf) (n + 1)) := by
  refine rsK_of pf_s_merge rfl (Nat.le_of_ble_eq_true rfl) rfl ?_
  refine rs_iload_n d_s_merge_0 rfl rfl ?_
  exact rx_tS d_s_merge_1 c_s_99 (by exact np_s_requireLevel) (k_reqLevel_no hx) (by decide) (by decide) (Nat.le_of_ble_eq_true rfl) rfl rfl ⟨rfl, rfl, rfl⟩
set_option maxRecDepth 100000 in
theorem k_merge_down {G : rsG} {n : Nat} {K V : Nat → Nat → Int32} {c P r : Nat → Nat} {md up wl cu : Int32} {hf : rsH} {lv : Nat} (hl : lv < 3) (h : up = 0) : rsK G M_s_merge (rmT 9 155) [.ref (rsB G), .int (nI lv)] (rwd G K V c P r md up wl cu hf) n (rsTh 1 (rwd G K V c P r md up wl cu hf) (n + 1)) := by
  refine rsK_of pf_s_merge rfl (Nat.le_of_ble_eq_true rfl) rfl ?_
  refine rs_iload_n d_s_merge_0 rfl rfl ?_
  refine rx_cS d_s_merge_1 rfl c_s_99 (by exact np_s_requireLevel) (k_reqLevel_ok hl) (by decide) ⟨rfl, rfl⟩ (Nat.le_of_ble_eq_true rfl) rfl ?_
  refine rs_aload_n d_s_merge_4 rfl rfl ?_
  exact rx_tV d_s_merge_5 c_s_61 (by exact np_s_requireUp) rw_x (k_reqUp_no h) (by decide) (by decide) (Nat.le_of_ble_eq_true rfl) rfl rfl ⟨rfl, rfl, rfl⟩
set_option maxRecDepth 100000 in
theorem k_merge_ok {G : rsG} {n : Nat} {K V K2 V2 : Nat → Nat → Int32} {c P r c2 P2 r2 : Nat → Nat} {md up wl cu md2 up2 wl2 cu2 : Int32} {hf : rsH} {lv : Nat} (hl : lv < 3) (hu : ¬ up = 0) {v : Int32} (hM : rsK G M_s_mergeLevel (rmO 8 133) [.ref (rsB G), .int (nI lv)] (rwd G K V c P r md up wl cu hf) n (rsOk (some (.int v)) (rwd G K2 V2 c2 P2 r2 md2 up2 wl2 cu2 hf) n)) : rsK G M_s_merge (rmO 9 155) [.ref (rsB G), .int (nI lv)] (rwd G K V c P r md up wl cu hf) n (rsOk (some (.int v)) (rwd G K2 V2 c2 P2 r2 md2 up2 wl2 (-1) hf) n) := by
  refine rsK_of pf_s_merge rfl (Nat.le_of_ble_eq_true rfl) rfl ?_
  refine rs_iload_n d_s_merge_0 rfl rfl ?_
  refine rx_cS d_s_merge_1 rfl c_s_99 (by exact np_s_requireLevel) (k_reqLevel_ok hl) (by decide) ⟨rfl, rfl⟩ (Nat.le_of_ble_eq_true rfl) rfl ?_
  refine rs_aload_n d_s_merge_4 rfl rfl ?_
  refine rx_cV d_s_merge_5 rfl c_s_61 (by exact np_s_requireUp) rw_x (k_reqUp_ok hu) (by decide) ⟨rfl, rfl⟩ (Nat.le_of_ble_eq_true rfl) rfl ?_
  refine rs_aload_n d_s_merge_8 rfl rfl ?_
  refine rs_iload_n d_s_merge_9 rfl rfl ?_
  refine rx_cV d_s_merge_10 rfl c_s_96 (by exact np_s_mergeLevel) rw_x (hM) (by decide) ⟨rfl, rfl⟩ (Nat.le_of_ble_eq_true rfl) rfl ?_
  refine rs_istore_n d_s_merge_13 rfl (by decide) rfl ?_
  refine rs_aload_n d_s_merge_14 rfl rfl ?_
  refine rs_iconst (v := (-1)) d_s_merge_15 rfl (by decide) ?_
  refine rx_put_cu d_s_merge_16 rfl p_s_31 ?_
  refine rs_iload_n d_s_merge_19 rfl rfl ?_
  exact rs_ireturn d_s_merge_20 rfl ⟨rfl, rfl, rfl⟩
set_option maxRecDepth 100000 in
theorem k_merge_th {G : rsG} {n : Nat} {K V : Nat → Nat → Int32} {c P r : Nat → Nat} {md up wl cu : Int32} {hf : rsH} {lv : Nat} (hl : lv < 3) (hu : ¬ up = 0) {k : Nat} {h' : rsH} {n' : Nat} (hM : rsK G M_s_mergeLevel (rmT 8 133) [.ref (rsB G), .int (nI lv)] (rwd G K V c P r md up wl cu hf) n (rsTh k h' n')) : rsK G M_s_merge (rmT 9 155) [.ref (rsB G), .int (nI lv)] (rwd G K V c P r md up wl cu hf) n (rsTh k h' n') := by
  refine rsK_of pf_s_merge rfl (Nat.le_of_ble_eq_true rfl) rfl ?_
  refine rs_iload_n d_s_merge_0 rfl rfl ?_
  refine rx_cS d_s_merge_1 rfl c_s_99 (by exact np_s_requireLevel) (k_reqLevel_ok hl) (by decide) ⟨rfl, rfl⟩ (Nat.le_of_ble_eq_true rfl) rfl ?_
  refine rs_aload_n d_s_merge_4 rfl rfl ?_
  refine rx_cV d_s_merge_5 rfl c_s_61 (by exact np_s_requireUp) rw_x (k_reqUp_ok hu) (by decide) ⟨rfl, rfl⟩ (Nat.le_of_ble_eq_true rfl) rfl ?_
  refine rs_aload_n d_s_merge_8 rfl rfl ?_
  refine rs_iload_n d_s_merge_9 rfl rfl ?_
  exact rx_tV d_s_merge_10 c_s_96 (by exact np_s_mergeLevel) rw_x (hM) (by decide) (by decide) (Nat.le_of_ble_eq_true rfl) rfl rfl ⟨rfl, rfl, rfl⟩
set_option maxRecDepth 100000 in
theorem k_limit_bad {G : rsG} {n : Nat} {K V : Nat → Nat → Int32} {c P r : Nat → Nat} {md up wl cu : Int32} {hf : rsH} {x : Int32} (hx : x < -1 ∨ ¬ x ≤ 1000) : rsK G M_s_limit (rmT 7 110) [.ref (rsB G), .int x] (rwd G K V c P r md up wl cu hf) n (rsTh 0 (rwd G K V c P r md up wl cu hf) (n + 1)) := by
  refine rsK_of pf_s_limit rfl (Nat.le_of_ble_eq_true rfl) rfl ?_
  refine rs_iload_n d_s_limit_0 rfl rfl ?_
  refine rs_iconst (v := (-1)) d_s_limit_1 rfl (by decide) ?_
  by_cases h0 : x < -1
  · refine rs_icmp_lt (tgt := 12) d_s_limit_2 rfl (by decide) (fun _ => ?_) (fun hc => absurd (h0) hc)
    exact rs_throw (k := 0) (tx := "a limit is -1 .. 1000") d_s_limit_12 d_s_limit_15 d_s_limit_16 d_s_limit_18 d_s_limit_21 (by decide) n_s_102 t_ins0 t_ini0 x_s_106 (by decide) rfl (Nat.le_of_ble_eq_true rfl) (by decide) (by decide) (by decide) (by decide) ⟨rfl, rfl, rfl⟩
  · refine rs_icmp_lt (tgt := 12) d_s_limit_2 rfl (by decide) (fun hc => absurd hc (h0)) (fun _ => ?_)
    refine rs_iload_n d_s_limit_5 rfl rfl ?_
    refine rs_sipush (v := 1000) d_s_limit_6 rfl (by decide) ?_
    refine rs_icmp_le (tgt := 22) d_s_limit_9 rfl (by decide) (fun hc => absurd hc (hx.resolve_left h0)) (fun _ => ?_)
    exact rs_throw (k := 0) (tx := "a limit is -1 .. 1000") d_s_limit_12 d_s_limit_15 d_s_limit_16 d_s_limit_18 d_s_limit_21 (by decide) n_s_102 t_ins0 t_ini0 x_s_106 (by decide) rfl (Nat.le_of_ble_eq_true rfl) (by decide) (by decide) (by decide) (by decide) ⟨rfl, rfl, rfl⟩
set_option maxRecDepth 100000 in
theorem k_limit_nodisk {G : rsG} {n : Nat} {K V : Nat → Nat → Int32} {c P r : Nat → Nat} {md up wl cu : Int32} {hf : rsH} {x : Int32} (hx1 : ¬ x < -1) (hx2 : x ≤ 1000) (hb : narrow .boolean (.int md) = .int md) (h : md = 0) : rsK G M_s_limit (rmT 7 110) [.ref (rsB G), .int x] (rwd G K V c P r md up wl cu hf) n (rsTh 1 (rwd G K V c P r md up wl cu hf) (n + 1)) := by
  refine rsK_of pf_s_limit rfl (Nat.le_of_ble_eq_true rfl) rfl ?_
  refine rs_iload_n d_s_limit_0 rfl rfl ?_
  refine rs_iconst (v := (-1)) d_s_limit_1 rfl (by decide) ?_
  refine rs_icmp_lt (tgt := 12) d_s_limit_2 rfl (by decide) (fun hc => absurd hc (hx1)) (fun _ => ?_)
  refine rs_iload_n d_s_limit_5 rfl rfl ?_
  refine rs_sipush (v := 1000) d_s_limit_6 rfl (by decide) ?_
  refine rs_icmp_le (tgt := 22) d_s_limit_9 rfl (by decide) (fun _ => ?_) (fun hc => absurd (hx2) hc)
  refine rs_aload_n d_s_limit_22 rfl rfl ?_
  exact rx_tV d_s_limit_23 c_s_51 (by exact np_s_requireDisk) rw_x (k_reqDisk_no hb h) (by decide) (by decide) (Nat.le_of_ble_eq_true rfl) rfl rfl ⟨rfl, rfl, rfl⟩
set_option maxRecDepth 100000 in
theorem k_limit_ok {G : rsG} {n : Nat} {K V : Nat → Nat → Int32} {c P r : Nat → Nat} {md up wl cu : Int32} {hf : rsH} {x : Int32} (hx1 : ¬ x < -1) (hx2 : x ≤ 1000) (hb : narrow .boolean (.int md) = .int md) (h : ¬ md = 0) : rsK G M_s_limit (rmO 7 110) [.ref (rsB G), .int x] (rwd G K V c P r md up wl cu hf) n (rsOk (none) (rwd G K V c P r md up x cu hf) n) := by
  refine rsK_of pf_s_limit rfl (Nat.le_of_ble_eq_true rfl) rfl ?_
  refine rs_iload_n d_s_limit_0 rfl rfl ?_
  refine rs_iconst (v := (-1)) d_s_limit_1 rfl (by decide) ?_
  refine rs_icmp_lt (tgt := 12) d_s_limit_2 rfl (by decide) (fun hc => absurd hc (hx1)) (fun _ => ?_)
  refine rs_iload_n d_s_limit_5 rfl rfl ?_
  refine rs_sipush (v := 1000) d_s_limit_6 rfl (by decide) ?_
  refine rs_icmp_le (tgt := 22) d_s_limit_9 rfl (by decide) (fun _ => ?_) (fun hc => absurd (hx2) hc)
  refine rs_aload_n d_s_limit_22 rfl rfl ?_
  refine rx_cV d_s_limit_23 rfl c_s_51 (by exact np_s_requireDisk) rw_x (k_reqDisk_ok hb h) (by decide) ⟨rfl, rfl⟩ (Nat.le_of_ble_eq_true rfl) rfl ?_
  refine rs_aload_n d_s_limit_26 rfl rfl ?_
  refine rs_iload_n d_s_limit_27 rfl rfl ?_
  refine rx_put_wl d_s_limit_28 rfl p_s_27 ?_
  exact rs_vreturn d_s_limit_31 rfl ⟨rfl, rfl, rfl⟩
set_option maxRecDepth 100000 in
theorem k_seek_bad {G : rsG} {n : Nat} {K V : Nat → Nat → Int32} {c P r : Nat → Nat} {md up wl cu : Int32} {hf : rsH} {x : Int32} (hx : x < 0 ∨ ¬ x < 100) : rsK G M_s_seek (rmT 7 131) [.ref (rsB G), .int x] (rwd G K V c P r md up wl cu hf) n (rsTh 0 (rwd G K V c P r md up wl cu hf) (n + 1)) := by
  refine rsK_of pf_s_seek rfl (Nat.le_of_ble_eq_true rfl) rfl ?_
  refine rs_iload_n d_s_seek_0 rfl rfl ?_
  exact rx_tS d_s_seek_1 c_s_58 (by exact np_s_requireKey) (k_reqKey_no hx) (by decide) (by decide) (Nat.le_of_ble_eq_true rfl) rfl rfl ⟨rfl, rfl, rfl⟩
set_option maxRecDepth 100000 in
theorem k_seek_down {G : rsG} {n : Nat} {K V : Nat → Nat → Int32} {c P r : Nat → Nat} {md up wl cu : Int32} {hf : rsH} {key : Nat} (hk : key < 100) (h : up = 0) : rsK G M_s_seek (rmT 7 131) [.ref (rsB G), .int (nI key)] (rwd G K V c P r md up wl cu hf) n (rsTh 1 (rwd G K V c P r md up wl cu hf) (n + 1)) := by
  refine rsK_of pf_s_seek rfl (Nat.le_of_ble_eq_true rfl) rfl ?_
  refine rs_iload_n d_s_seek_0 rfl rfl ?_
  refine rx_cS d_s_seek_1 rfl c_s_58 (by exact np_s_requireKey) (k_reqKey_ok hk) (by decide) ⟨rfl, rfl⟩ (Nat.le_of_ble_eq_true rfl) rfl ?_
  refine rs_aload_n d_s_seek_4 rfl rfl ?_
  exact rx_tV d_s_seek_5 c_s_61 (by exact np_s_requireUp) rw_x (k_reqUp_no h) (by decide) (by decide) (Nat.le_of_ble_eq_true rfl) rfl rfl ⟨rfl, rfl, rfl⟩
set_option maxRecDepth 100000 in
theorem k_seek_none {G : rsG} {n : Nat} {K V : Nat → Nat → Int32} {c P r : Nat → Nat} {md up wl cu : Int32} {hf : rsH} (hs : rp_sum r 3 ≤ 12) (hP : ∀ i, i < 13 → P i ≤ 12) {key : Nat} (hk : key < 100) (hu : ¬ up = 0) (h0 : ∀ i, key ≤ i → i < 100 → rp_th K P (rp_sum r 3) i = 0) : rsK G M_s_seek (rmO 7 131) [.ref (rsB G), .int (nI key)] (rwd G K V c P r md up wl cu hf) n (rsOk (some (.int 0)) (rwd G K V c P r md up wl (-1) hf) n) := by
  refine rsK_of pf_s_seek rfl (Nat.le_of_ble_eq_true rfl) rfl ?_
  refine rs_iload_n d_s_seek_0 rfl rfl ?_
  refine rx_cS d_s_seek_1 rfl c_s_58 (by exact np_s_requireKey) (k_reqKey_ok hk) (by decide) ⟨rfl, rfl⟩ (Nat.le_of_ble_eq_true rfl) rfl ?_
  refine rs_aload_n d_s_seek_4 rfl rfl ?_
  refine rx_cV d_s_seek_5 rfl c_s_61 (by exact np_s_requireUp) rw_x (k_reqUp_ok hu) (by decide) ⟨rfl, rfl⟩ (Nat.le_of_ble_eq_true rfl) rfl ?_
  refine rs_aload_n d_s_seek_8 rfl rfl ?_
  refine rs_aload_n d_s_seek_9 rfl rfl ?_
  refine rs_iload_n d_s_seek_10 rfl rfl ?_
  refine rx_cV d_s_seek_11 rfl c_s_107 (by exact np_s_leastKeyThere) rw_x (k_leastKey_none hs hP (by omega) h0) (by decide) ⟨rfl, rfl⟩ (Nat.le_of_ble_eq_true rfl) rfl ?_
  refine rx_put_cu d_s_seek_14 rfl p_s_31 ?_
  refine rs_aload_n d_s_seek_17 rfl rfl ?_
  refine rx_get_cu d_s_seek_18 rfl f_s_31 ?_
  refine rs_iconst (v := (-1)) d_s_seek_21 rfl (by decide) ?_
  refine rs_icmp_eq (tgt := 29) d_s_seek_22 rfl (by decide) (fun _ => ?_) (fun hc => absurd (rfl) hc)
  refine rs_iconst (v := 0) d_s_seek_29 rfl (by decide) ?_
  exact rs_zreturn d_s_seek_30 rfl rfl ⟨rfl, rfl, rfl⟩
set_option maxRecDepth 100000 in
theorem k_seek_some {G : rsG} {n : Nat} {K V : Nat → Nat → Int32} {c P r : Nat → Nat} {md up wl cu : Int32} {hf : rsH} (hs : rp_sum r 3 ≤ 12) (hP : ∀ i, i < 13 → P i ≤ 12) {key : Nat} (hk : key < 100) (hu : ¬ up = 0) {x : Nat} (hfr : key ≤ x) (hx : x < 100) (h0 : ∀ i, key ≤ i → i < x → rp_th K P (rp_sum r 3) i = 0) (h1 : rp_th K P (rp_sum r 3) x = 1) : rsK G M_s_seek (rmO 7 131) [.ref (rsB G), .int (nI key)] (rwd G K V c P r md up wl cu hf) n (rsOk (some (.int 1)) (rwd G K V c P r md up wl (nI x) hf) n) := by
  refine rsK_of pf_s_seek rfl (Nat.le_of_ble_eq_true rfl) rfl ?_
  refine rs_iload_n d_s_seek_0 rfl rfl ?_
  refine rx_cS d_s_seek_1 rfl c_s_58 (by exact np_s_requireKey) (k_reqKey_ok hk) (by decide) ⟨rfl, rfl⟩ (Nat.le_of_ble_eq_true rfl) rfl ?_
  refine rs_aload_n d_s_seek_4 rfl rfl ?_
  refine rx_cV d_s_seek_5 rfl c_s_61 (by exact np_s_requireUp) rw_x (k_reqUp_ok hu) (by decide) ⟨rfl, rfl⟩ (Nat.le_of_ble_eq_true rfl) rfl ?_
  refine rs_aload_n d_s_seek_8 rfl rfl ?_
  refine rs_aload_n d_s_seek_9 rfl rfl ?_
  refine rs_iload_n d_s_seek_10 rfl rfl ?_
  refine rx_cV d_s_seek_11 rfl c_s_107 (by exact np_s_leastKeyThere) rw_x (k_leastKey_some hs hP hfr hx h0 h1) (by decide) ⟨rfl, rfl⟩ (Nat.le_of_ble_eq_true rfl) rfl ?_
  refine rx_put_cu d_s_seek_14 rfl p_s_31 ?_
  refine rs_aload_n d_s_seek_17 rfl rfl ?_
  refine rx_get_cu d_s_seek_18 rfl f_s_31 ?_
  refine rs_iconst (v := (-1)) d_s_seek_21 rfl (by decide) ?_
  refine rs_icmp_eq (tgt := 29) d_s_seek_22 rfl (by decide) (fun hc => absurd hc (rp_ne1 (by omega))) (fun _ => ?_)
  refine rs_iconst (v := 1) d_s_seek_25 rfl (by decide) ?_
  refine rs_goto (tgt := 30) d_s_seek_26 (by decide) ?_
  exact rs_zreturn d_s_seek_30 rfl rfl ⟨rfl, rfl, rfl⟩
set_option maxRecDepth 100000 in
theorem k_next_down {G : rsG} {n : Nat} {K V : Nat → Nat → Int32} {c P r : Nat → Nat} {md up wl cu : Int32} {hf : rsH} (h : up = 0) : rsK G M_s_next (rmT 7 131) [.ref (rsB G)] (rwd G K V c P r md up wl cu hf) n (rsTh 1 (rwd G K V c P r md up wl cu hf) (n + 1)) := by
  refine rsK_of pf_s_next rfl (Nat.le_of_ble_eq_true rfl) rfl ?_
  refine rs_aload_n d_s_next_0 rfl rfl ?_
  exact rx_tV d_s_next_1 c_s_61 (by exact np_s_requireUp) rw_x (k_reqUp_no h) (by decide) (by decide) (Nat.le_of_ble_eq_true rfl) rfl rfl ⟨rfl, rfl, rfl⟩
set_option maxRecDepth 100000 in
theorem k_next_nocursor {G : rsG} {n : Nat} {K V : Nat → Nat → Int32} {c P r : Nat → Nat} {md up wl cu : Int32} {hf : rsH} (hu : ¬ up = 0) (h : cu = -1) : rsK G M_s_next (rmT 7 131) [.ref (rsB G)] (rwd G K V c P r md up wl cu hf) n (rsTh 1 (rwd G K V c P r md up wl cu hf) (n + 1)) := by
  refine rsK_of pf_s_next rfl (Nat.le_of_ble_eq_true rfl) rfl ?_
  refine rs_aload_n d_s_next_0 rfl rfl ?_
  refine rx_cV d_s_next_1 rfl c_s_61 (by exact np_s_requireUp) rw_x (k_reqUp_ok hu) (by decide) ⟨rfl, rfl⟩ (Nat.le_of_ble_eq_true rfl) rfl ?_
  refine rs_aload_n d_s_next_4 rfl rfl ?_
  refine rx_get_cu d_s_next_5 rfl f_s_31 ?_
  refine rs_iconst (v := (-1)) d_s_next_8 rfl (by decide) ?_
  refine rs_icmp_ne (tgt := 22) d_s_next_9 rfl (by decide) (fun hc => absurd (h) hc) (fun _ => ?_)
  exact rs_throw (k := 1) (tx := "there is no cursor") d_s_next_12 d_s_next_15 d_s_next_16 d_s_next_18 d_s_next_21 (by decide) n_s_44 t_ins1 t_ini1 x_s_48 (by decide) rfl (Nat.le_of_ble_eq_true rfl) (by decide) (by decide) (by decide) (by decide) ⟨rfl, rfl, rfl⟩
set_option maxRecDepth 100000 in
theorem k_next_none {G : rsG} {n : Nat} {K V : Nat → Nat → Int32} {c P r : Nat → Nat} {md up wl cu : Int32} {hf : rsH} (hs : rp_sum r 3 ≤ 12) (hP : ∀ i, i < 13 → P i ≤ 12) (hu : ¬ up = 0) {key : Nat} (hk : key < 100) (hcu : cu = nI key) (h0 : ∀ i, key + 1 ≤ i → i < 100 → rp_th K P (rp_sum r 3) i = 0) : rsK G M_s_next (rmO 7 131) [.ref (rsB G)] (rwd G K V c P r md up wl cu hf) n (rsOk (some (.int 0)) (rwd G K V c P r md up wl (-1) hf) n) := by
  refine rsK_of pf_s_next rfl (Nat.le_of_ble_eq_true rfl) rfl ?_
  subst hcu
  refine rs_aload_n d_s_next_0 rfl rfl ?_
  refine rx_cV d_s_next_1 rfl c_s_61 (by exact np_s_requireUp) rw_x (k_reqUp_ok hu) (by decide) ⟨rfl, rfl⟩ (Nat.le_of_ble_eq_true rfl) rfl ?_
  refine rs_aload_n d_s_next_4 rfl rfl ?_
  refine rx_get_cu d_s_next_5 rfl f_s_31 ?_
  refine rs_iconst (v := (-1)) d_s_next_8 rfl (by decide) ?_
  refine rs_icmp_ne (tgt := 22) d_s_next_9 rfl (by decide) (fun _ => ?_) (fun hc => absurd hc (rp_ne1 (by omega)))
  refine rs_aload_n d_s_next_22 rfl rfl ?_
  refine rs_aload_n d_s_next_23 rfl rfl ?_
  refine rs_aload_n d_s_next_24 rfl rfl ?_
  refine rx_get_cu d_s_next_25 rfl f_s_31 ?_
  refine rs_iconst (v := (nI 1)) d_s_next_28 rfl (by decide) ?_
  refine rs_iadd d_s_next_29 rfl ?_
  refine rs_tope (nI_add _ _) ?_
  refine rx_cV d_s_next_30 rfl c_s_107 (by exact np_s_leastKeyThere) rw_x (k_leastKey_none hs hP (by omega) h0) (by decide) ⟨rfl, rfl⟩ (Nat.le_of_ble_eq_true rfl) rfl ?_
  refine rx_put_cu d_s_next_33 rfl p_s_31 ?_
  refine rs_aload_n d_s_next_36 rfl rfl ?_
  refine rx_get_cu d_s_next_37 rfl f_s_31 ?_
  refine rs_iconst (v := (-1)) d_s_next_40 rfl (by decide) ?_
  refine rs_icmp_eq (tgt := 48) d_s_next_41 rfl (by decide) (fun _ => ?_) (fun hc => absurd (rfl) hc)
  refine rs_iconst (v := 0) d_s_next_48 rfl (by decide) ?_
  exact rs_zreturn d_s_next_49 rfl rfl ⟨rfl, rfl, rfl⟩
set_option maxRecDepth 100000 in
theorem k_next_some {G : rsG} {n : Nat} {K V : Nat → Nat → Int32} {c P r : Nat → Nat} {md up wl cu : Int32} {hf : rsH} (hs : rp_sum r 3 ≤ 12) (hP : ∀ i, i < 13 → P i ≤ 12) (hu : ¬ up = 0) {key : Nat} (hk : key < 100) (hcu : cu = nI key) {x : Nat} (hfr : key + 1 ≤ x) (hx : x < 100) (h0 : ∀ i, key + 1 ≤ i → i < x → rp_th K P (rp_sum r 3) i = 0) (h1 : rp_th K P (rp_sum r 3) x = 1) : rsK G M_s_next (rmO 7 131) [.ref (rsB G)] (rwd G K V c P r md up wl cu hf) n (rsOk (some (.int 1)) (rwd G K V c P r md up wl (nI x) hf) n) := by
  refine rsK_of pf_s_next rfl (Nat.le_of_ble_eq_true rfl) rfl ?_
  subst hcu
  refine rs_aload_n d_s_next_0 rfl rfl ?_
  refine rx_cV d_s_next_1 rfl c_s_61 (by exact np_s_requireUp) rw_x (k_reqUp_ok hu) (by decide) ⟨rfl, rfl⟩ (Nat.le_of_ble_eq_true rfl) rfl ?_
  refine rs_aload_n d_s_next_4 rfl rfl ?_
  refine rx_get_cu d_s_next_5 rfl f_s_31 ?_
  refine rs_iconst (v := (-1)) d_s_next_8 rfl (by decide) ?_
  refine rs_icmp_ne (tgt := 22) d_s_next_9 rfl (by decide) (fun _ => ?_) (fun hc => absurd hc (rp_ne1 (by omega)))
  refine rs_aload_n d_s_next_22 rfl rfl ?_
  refine rs_aload_n d_s_next_23 rfl rfl ?_
  refine rs_aload_n d_s_next_24 rfl rfl ?_
  refine rx_get_cu d_s_next_25 rfl f_s_31 ?_
  refine rs_iconst (v := (nI 1)) d_s_next_28 rfl (by decide) ?_
  refine rs_iadd d_s_next_29 rfl ?_
  refine rs_tope (nI_add _ _) ?_
  refine rx_cV d_s_next_30 rfl c_s_107 (by exact np_s_leastKeyThere) rw_x (k_leastKey_some hs hP hfr hx h0 h1) (by decide) ⟨rfl, rfl⟩ (Nat.le_of_ble_eq_true rfl) rfl ?_
  refine rx_put_cu d_s_next_33 rfl p_s_31 ?_
  refine rs_aload_n d_s_next_36 rfl rfl ?_
  refine rx_get_cu d_s_next_37 rfl f_s_31 ?_
  refine rs_iconst (v := (-1)) d_s_next_40 rfl (by decide) ?_
  refine rs_icmp_eq (tgt := 48) d_s_next_41 rfl (by decide) (fun hc => absurd hc (rp_ne1 (by omega))) (fun _ => ?_)
  refine rs_iconst (v := 1) d_s_next_44 rfl (by decide) ?_
  refine rs_goto (tgt := 49) d_s_next_45 (by decide) ?_
  exact rs_zreturn d_s_next_49 rfl rfl ⟨rfl, rfl, rfl⟩
set_option maxRecDepth 100000 in
theorem k_size_down {G : rsG} {n : Nat} {K V : Nat → Nat → Int32} {c P r : Nat → Nat} {md up wl cu : Int32} {hf : rsH} (h : up = 0) : rsK G M_s_size (rmT 7 110) [.ref (rsB G)] (rwd G K V c P r md up wl cu hf) n (rsTh 1 (rwd G K V c P r md up wl cu hf) (n + 1)) := by
  refine rsK_of pf_s_size rfl (Nat.le_of_ble_eq_true rfl) rfl ?_
  refine rs_aload_n d_s_size_0 rfl rfl ?_
  exact rx_tV d_s_size_1 c_s_61 (by exact np_s_requireUp) rw_x (k_reqUp_no h) (by decide) (by decide) (Nat.le_of_ble_eq_true rfl) rfl rfl ⟨rfl, rfl, rfl⟩
set_option maxRecDepth 100000 in
theorem k_size_ok {G : rsG} {n : Nat} {K V : Nat → Nat → Int32} {c P r : Nat → Nat} {md up wl cu : Int32} {hf : rsH} (hs : rp_sum r 3 ≤ 12) (hP : ∀ i, i < 13 → P i ≤ 12) (hu : ¬ up = 0) : rsK G M_s_size (rmO 7 110) [.ref (rsB G)] (rwd G K V c P r md up wl cu hf) n (rsOk (some (.int (nI (rp_cnt (fun q => decide (rp_th K P (rp_sum r 3) q = 1)) 100)))) (rwd G K V c P r md up wl cu hf) n) := by
  have loop : ∀ (d i : Nat), i + d = 100 → rsV G M_s_size (rmO 7 110) (rsOk (some (.int (nI (rp_cnt (fun q => decide (rp_th K P (rp_sum r 3) q = 1)) 100)))) (rwd G K V c P r md up wl cu hf) n) 0 0 8 [some (.ref (rsB G)), some (.int (nI (rp_cnt (fun q => decide (rp_th K P (rp_sum r 3) q = 1)) i))), some (.int (nI i))] [] (rwd G K V c P r md up wl cu hf) n := by
    intro d
    induction d with
    | zero =>
      intro i hi
      obtain rfl : i = 100 := by omega
      refine rs_iload_n d_s_size_8 rfl rfl ?_
      refine rs_bipush (v := (nI 100)) d_s_size_9 rfl (by decide) ?_
      refine rs_icmp_ge (tgt := 31) d_s_size_11 rfl (by decide) (fun _ => ?_) (fun hc => absurd (nI_le (by omega) (by omega)) hc)
      refine rs_iload_n d_s_size_31 rfl rfl ?_
      exact rs_ireturn d_s_size_32 rfl ⟨rfl, rfl, rfl⟩
    | succ d ih =>
      intro i hi
      have hi100 : i < 100 := by omega
      refine rs_iload_n d_s_size_8 rfl rfl ?_
      refine rs_bipush (v := (nI 100)) d_s_size_9 rfl (by decide) ?_
      refine rs_icmp_ge (tgt := 31) d_s_size_11 rfl (by decide) (fun hc => absurd hc (nI_ge (by omega) (by omega))) (fun _ => ?_)
      refine rs_aload_n d_s_size_14 rfl rfl ?_
      refine rs_iload_n d_s_size_15 rfl rfl ?_
      refine rx_cV d_s_size_16 rfl c_s_74 (by exact np_s_isThere) rw_x (k_isThere hs hP hi100) (by decide) ⟨rfl, rfl⟩ (Nat.le_of_ble_eq_true rfl) rfl ?_
      rcases rp_th01 K P (rp_sum r 3) i with h1 | h1
      · rw [h1]
        refine rs_if_eq (tgt := 25) d_s_size_19 rfl (by decide) (fun _ => ?_) (fun hc => absurd (rfl) hc)
        refine rs_iinc d_s_size_25 rfl (by decide) rfl (rs_inc1 i) rfl ?_
        refine rs_goto (tgt := 8) d_s_size_28 (by decide) ?_
        have e1 : (rp_cnt (fun q => decide (rp_th K P (rp_sum r 3) q = 1)) (i + 1)) = (rp_cnt (fun q => decide (rp_th K P (rp_sum r 3) q = 1)) i) := by
          show (rp_cnt (fun q => decide (rp_th K P (rp_sum r 3) q = 1)) i) + _ = _
          simp [h1]
        have := ih (i + 1) (by omega)
        rw [e1] at this
        exact this
      · rw [h1]
        refine rs_if_eq (tgt := 25) d_s_size_19 rfl (by decide) (fun hc => absurd hc (by decide)) (fun _ => ?_)
        refine rs_iinc d_s_size_22 rfl (by decide) rfl (rs_inc1 _) rfl ?_
        refine rs_iinc d_s_size_25 rfl (by decide) rfl (rs_inc1 i) rfl ?_
        refine rs_goto (tgt := 8) d_s_size_28 (by decide) ?_
        have e1 : (rp_cnt (fun q => decide (rp_th K P (rp_sum r 3) q = 1)) (i + 1)) = (rp_cnt (fun q => decide (rp_th K P (rp_sum r 3) q = 1)) i) + 1 := by
          show (rp_cnt (fun q => decide (rp_th K P (rp_sum r 3) q = 1)) i) + _ = _
          simp [h1]
        have := ih (i + 1) (by omega)
        rw [e1] at this
        exact this
  refine rsK_of pf_s_size rfl (Nat.le_of_ble_eq_true rfl) rfl ?_
  refine rs_aload_n d_s_size_0 rfl rfl ?_
  refine rx_cV d_s_size_1 rfl c_s_61 (by exact np_s_requireUp) rw_x (k_reqUp_ok hu) (by decide) ⟨rfl, rfl⟩ (Nat.le_of_ble_eq_true rfl) rfl ?_
  refine rs_iconst (v := (nI 0)) d_s_size_4 rfl (by decide) ?_
  refine rs_istore_n d_s_size_5 rfl (by decide) rfl ?_
  refine rs_iconst (v := (nI 0)) d_s_size_6 rfl (by decide) ?_
  refine rs_istore_n d_s_size_7 rfl (by decide) rfl ?_
  exact loop 100 0 (by omega)
set_option maxRecDepth 100000 in
theorem k_runs_bad {G : rsG} {n : Nat} {K V : Nat → Nat → Int32} {c P r : Nat → Nat} {md up wl cu : Int32} {hf : rsH} {x : Int32} (hx : x < 0 ∨ 3 ≤ x) : rsK G M_s_runs (rmT 7 110) [.ref (rsB G), .int x] (rwd G K V c P r md up wl cu hf) n (rsTh 0 (rwd G K V c P r md up wl cu hf) (n + 1)) := by
  refine rsK_of pf_s_runs rfl (Nat.le_of_ble_eq_true rfl) rfl ?_
  refine rs_iload_n d_s_runs_0 rfl rfl ?_
  exact rx_tS d_s_runs_1 c_s_99 (by exact np_s_requireLevel) (k_reqLevel_no hx) (by decide) (by decide) (Nat.le_of_ble_eq_true rfl) rfl rfl ⟨rfl, rfl, rfl⟩
set_option maxRecDepth 100000 in
theorem k_runs_down {G : rsG} {n : Nat} {K V : Nat → Nat → Int32} {c P r : Nat → Nat} {md up wl cu : Int32} {hf : rsH} {lv : Nat} (hl : lv < 3) (h : up = 0) : rsK G M_s_runs (rmT 7 110) [.ref (rsB G), .int (nI lv)] (rwd G K V c P r md up wl cu hf) n (rsTh 1 (rwd G K V c P r md up wl cu hf) (n + 1)) := by
  refine rsK_of pf_s_runs rfl (Nat.le_of_ble_eq_true rfl) rfl ?_
  refine rs_iload_n d_s_runs_0 rfl rfl ?_
  refine rx_cS d_s_runs_1 rfl c_s_99 (by exact np_s_requireLevel) (k_reqLevel_ok hl) (by decide) ⟨rfl, rfl⟩ (Nat.le_of_ble_eq_true rfl) rfl ?_
  refine rs_aload_n d_s_runs_4 rfl rfl ?_
  exact rx_tV d_s_runs_5 c_s_61 (by exact np_s_requireUp) rw_x (k_reqUp_no h) (by decide) (by decide) (Nat.le_of_ble_eq_true rfl) rfl rfl ⟨rfl, rfl, rfl⟩
set_option maxRecDepth 100000 in
theorem k_runs_ok {G : rsG} {n : Nat} {K V : Nat → Nat → Int32} {c P r : Nat → Nat} {md up wl cu : Int32} {hf : rsH} {lv : Nat} (hl : lv < 3) (hu : ¬ up = 0) : rsK G M_s_runs (rmO 7 110) [.ref (rsB G), .int (nI lv)] (rwd G K V c P r md up wl cu hf) n (rsOk (some (.int (nI (r lv)))) (rwd G K V c P r md up wl cu hf) n) := by
  refine rsK_of pf_s_runs rfl (Nat.le_of_ble_eq_true rfl) rfl ?_
  refine rs_iload_n d_s_runs_0 rfl rfl ?_
  refine rx_cS d_s_runs_1 rfl c_s_99 (by exact np_s_requireLevel) (k_reqLevel_ok hl) (by decide) ⟨rfl, rfl⟩ (Nat.le_of_ble_eq_true rfl) rfl ?_
  refine rs_aload_n d_s_runs_4 rfl rfl ?_
  refine rx_cV d_s_runs_5 rfl c_s_61 (by exact np_s_requireUp) rw_x (k_reqUp_ok hu) (by decide) ⟨rfl, rfl⟩ (Nat.le_of_ble_eq_true rfl) rfl ?_
  refine rs_aload_n d_s_runs_8 rfl rfl ?_
  refine rx_get_di d_s_runs_9 rfl f_s_19 ?_
  refine rs_iload_n d_s_runs_12 rfl rfl ?_
  refine rx_cV d_s_runs_13 rfl c_s_112 (by exact np_d_countRunsOf) rw_d (k_countRunsOf hl) (by decide) ⟨rfl, rfl⟩ (Nat.le_of_ble_eq_true rfl) rfl ?_
  exact rs_ireturn d_s_runs_16 rfl ⟨rfl, rfl, rfl⟩
set_option maxRecDepth 100000 in
theorem k_entries_down {G : rsG} {n : Nat} {K V : Nat → Nat → Int32} {c P r : Nat → Nat} {md up wl cu : Int32} {hf : rsH} {x y : Int32} (h : up = 0) : rsK G M_s_entries (rmT 7 110) [.ref (rsB G), .int x, .int y] (rwd G K V c P r md up wl cu hf) n (rsTh 1 (rwd G K V c P r md up wl cu hf) (n + 1)) := by
  refine rsK_of pf_s_entries rfl (Nat.le_of_ble_eq_true rfl) rfl ?_
  refine rs_aload_n d_s_entries_0 rfl rfl ?_
  exact rx_tV d_s_entries_1 c_s_61 (by exact np_s_requireUp) rw_x (k_reqUp_no h) (by decide) (by decide) (Nat.le_of_ble_eq_true rfl) rfl rfl ⟨rfl, rfl, rfl⟩
set_option maxRecDepth 100000 in
theorem k_entries_nolevel {G : rsG} {n : Nat} {K V : Nat → Nat → Int32} {c P r : Nat → Nat} {md up wl cu : Int32} {hf : rsH} {x y : Int32} (hu : ¬ up = 0) (hx : x < 0 ∨ 3 ≤ x) : rsK G M_s_entries (rmT 7 110) [.ref (rsB G), .int x, .int y] (rwd G K V c P r md up wl cu hf) n (rsTh 3 (rwd G K V c P r md up wl cu hf) (n + 1)) := by
  refine rsK_of pf_s_entries rfl (Nat.le_of_ble_eq_true rfl) rfl ?_
  refine rs_aload_n d_s_entries_0 rfl rfl ?_
  refine rx_cV d_s_entries_1 rfl c_s_61 (by exact np_s_requireUp) rw_x (k_reqUp_ok hu) (by decide) ⟨rfl, rfl⟩ (Nat.le_of_ble_eq_true rfl) rfl ?_
  refine rs_iload_n d_s_entries_4 rfl rfl ?_
  refine rx_cS d_s_entries_5 rfl c_s_115 (by exact np_s_isLevel) (k_isLevel_no hx) (by decide) ⟨rfl, rfl⟩ (Nat.le_of_ble_eq_true rfl) rfl ?_
  refine rs_if_eq (tgt := 27) d_s_entries_8 rfl (by decide) (fun _ => ?_) (fun hc => absurd (rfl) hc)
  exact rs_throw (k := 3) (tx := "there is no such run") d_s_entries_27 d_s_entries_30 d_s_entries_31 d_s_entries_33 d_s_entries_36 (by decide) n_s_81 t_ins3 t_ini3 x_s_85 (by decide) rfl (Nat.le_of_ble_eq_true rfl) (by decide) (by decide) (by decide) (by decide) ⟨rfl, rfl, rfl⟩
set_option maxRecDepth 100000 in
theorem k_entries_norun {G : rsG} {n : Nat} {K V : Nat → Nat → Int32} {c P r : Nat → Nat} {md up wl cu : Int32} {hf : rsH} {lv : Nat} {y : Int32} (hu : ¬ up = 0) (hl : lv < 3) (hy : y < 0 ∨ ¬ y < nI (r lv)) : rsK G M_s_entries (rmT 7 110) [.ref (rsB G), .int (nI lv), .int y] (rwd G K V c P r md up wl cu hf) n (rsTh 3 (rwd G K V c P r md up wl cu hf) (n + 1)) := by
  refine rsK_of pf_s_entries rfl (Nat.le_of_ble_eq_true rfl) rfl ?_
  refine rs_aload_n d_s_entries_0 rfl rfl ?_
  refine rx_cV d_s_entries_1 rfl c_s_61 (by exact np_s_requireUp) rw_x (k_reqUp_ok hu) (by decide) ⟨rfl, rfl⟩ (Nat.le_of_ble_eq_true rfl) rfl ?_
  refine rs_iload_n d_s_entries_4 rfl rfl ?_
  refine rx_cS d_s_entries_5 rfl c_s_115 (by exact np_s_isLevel) (k_isLevel_yes hl) (by decide) ⟨rfl, rfl⟩ (Nat.le_of_ble_eq_true rfl) rfl ?_
  refine rs_if_eq (tgt := 27) d_s_entries_8 rfl (by decide) (fun hc => absurd hc (by decide)) (fun _ => ?_)
  refine rs_iload_n d_s_entries_11 rfl rfl ?_
  by_cases h0 : y < 0
  · refine rs_if_lt (tgt := 27) d_s_entries_12 rfl (by decide) (fun _ => ?_) (fun hc => absurd (h0) hc)
    exact rs_throw (k := 3) (tx := "there is no such run") d_s_entries_27 d_s_entries_30 d_s_entries_31 d_s_entries_33 d_s_entries_36 (by decide) n_s_81 t_ins3 t_ini3 x_s_85 (by decide) rfl (Nat.le_of_ble_eq_true rfl) (by decide) (by decide) (by decide) (by decide) ⟨rfl, rfl, rfl⟩
  · refine rs_if_lt (tgt := 27) d_s_entries_12 rfl (by decide) (fun hc => absurd hc (h0)) (fun _ => ?_)
    refine rs_iload_n d_s_entries_15 rfl rfl ?_
    refine rs_aload_n d_s_entries_16 rfl rfl ?_
    refine rx_get_di d_s_entries_17 rfl f_s_19 ?_
    refine rs_iload_n d_s_entries_20 rfl rfl ?_
    refine rx_cV d_s_entries_21 rfl c_s_112 (by exact np_d_countRunsOf) rw_d (k_countRunsOf hl) (by decide) ⟨rfl, rfl⟩ (Nat.le_of_ble_eq_true rfl) rfl ?_
    refine rs_icmp_lt (tgt := 37) d_s_entries_24 rfl (by decide) (fun hc => absurd hc (hy.resolve_left h0)) (fun _ => ?_)
    exact rs_throw (k := 3) (tx := "there is no such run") d_s_entries_27 d_s_entries_30 d_s_entries_31 d_s_entries_33 d_s_entries_36 (by decide) n_s_81 t_ins3 t_ini3 x_s_85 (by decide) rfl (Nat.le_of_ble_eq_true rfl) (by decide) (by decide) (by decide) (by decide) ⟨rfl, rfl, rfl⟩
set_option maxRecDepth 100000 in
theorem k_entries_ok {G : rsG} {n : Nat} {K V : Nat → Nat → Int32} {c P r : Nat → Nat} {md up wl cu : Int32} {hf : rsH} (hs : rp_sum r 3 ≤ 12) (hP : ∀ i, i < 13 → P i ≤ 12) {lv i : Nat} (hu : ¬ up = 0) (hl : lv < 3) (hi : i < r lv) (hr : rp_sum r lv + r lv ≤ 12) : rsK G M_s_entries (rmO 7 110) [.ref (rsB G), .int (nI lv), .int (nI i)] (rwd G K V c P r md up wl cu hf) n (rsOk (some (.int (nI (c (P (rp_sum r lv + i)))))) (rwd G K V c P r md up wl cu hf) n) := by
  refine rsK_of pf_s_entries rfl (Nat.le_of_ble_eq_true rfl) rfl ?_
  have hPi : P (rp_sum r lv + i) ≤ 13 := by have := hP (rp_sum r lv + i) (by omega); omega
  refine rs_aload_n d_s_entries_0 rfl rfl ?_
  refine rx_cV d_s_entries_1 rfl c_s_61 (by exact np_s_requireUp) rw_x (k_reqUp_ok hu) (by decide) ⟨rfl, rfl⟩ (Nat.le_of_ble_eq_true rfl) rfl ?_
  refine rs_iload_n d_s_entries_4 rfl rfl ?_
  refine rx_cS d_s_entries_5 rfl c_s_115 (by exact np_s_isLevel) (k_isLevel_yes hl) (by decide) ⟨rfl, rfl⟩ (Nat.le_of_ble_eq_true rfl) rfl ?_
  refine rs_if_eq (tgt := 27) d_s_entries_8 rfl (by decide) (fun hc => absurd hc (by decide)) (fun _ => ?_)
  refine rs_iload_n d_s_entries_11 rfl rfl ?_
  refine rs_if_lt (tgt := 27) d_s_entries_12 rfl (by decide) (fun hc => absurd hc (nI_pos (by omega))) (fun _ => ?_)
  refine rs_iload_n d_s_entries_15 rfl rfl ?_
  refine rs_aload_n d_s_entries_16 rfl rfl ?_
  refine rx_get_di d_s_entries_17 rfl f_s_19 ?_
  refine rs_iload_n d_s_entries_20 rfl rfl ?_
  refine rx_cV d_s_entries_21 rfl c_s_112 (by exact np_d_countRunsOf) rw_d (k_countRunsOf hl) (by decide) ⟨rfl, rfl⟩ (Nat.le_of_ble_eq_true rfl) rfl ?_
  refine rs_icmp_lt (tgt := 37) d_s_entries_24 rfl (by decide) (fun _ => ?_) (fun hc => absurd (nI_lt hi (by omega)) hc)
  refine rs_aload_n d_s_entries_37 rfl rfl ?_
  refine rx_get_di d_s_entries_38 rfl f_s_19 ?_
  refine rs_iload_n d_s_entries_41 rfl rfl ?_
  refine rs_iload_n d_s_entries_42 rfl rfl ?_
  refine rx_cV d_s_entries_43 rfl c_s_120 (by exact np_d_run) rw_d (k_run (by omega) (by omega)) (by decide) ⟨rfl, rfl⟩ (Nat.le_of_ble_eq_true rfl) rfl ?_
  refine rx_cV d_s_entries_46 rfl c_s_71 (by exact np_e_count) (rw_e hPi) (k_count hPi) (by decide) ⟨rfl, rfl⟩ (Nat.le_of_ble_eq_true rfl) rfl ?_
  exact rs_ireturn d_s_entries_49 rfl ⟨rfl, rfl, rfl⟩
set_option maxRecDepth 100000 in
theorem k_room_down {G : rsG} {n : Nat} {K V : Nat → Nat → Int32} {c P r : Nat → Nat} {md up wl cu : Int32} {hf : rsH} (h : up = 0) : rsK G M_s_room (rmT 7 110) [.ref (rsB G)] (rwd G K V c P r md up wl cu hf) n (rsTh 1 (rwd G K V c P r md up wl cu hf) (n + 1)) := by
  refine rsK_of pf_s_room rfl (Nat.le_of_ble_eq_true rfl) rfl ?_
  refine rs_aload_n d_s_room_0 rfl rfl ?_
  exact rx_tV d_s_room_1 c_s_61 (by exact np_s_requireUp) rw_x (k_reqUp_no h) (by decide) (by decide) (Nat.le_of_ble_eq_true rfl) rfl rfl ⟨rfl, rfl, rfl⟩
set_option maxRecDepth 100000 in
theorem k_room_ok {G : rsG} {n : Nat} {K V : Nat → Nat → Int32} {c P r : Nat → Nat} {md up wl cu : Int32} {hf : rsH} (hs : rp_sum r 3 ≤ 12) (hP : ∀ i, i < 13 → P i ≤ 12) (hc : ∀ i, i < 13 → c (P i) ≤ 100) (hu : ¬ up = 0) : rsK G M_s_room (rmO 7 110) [.ref (rsB G)] (rwd G K V c P r md up wl cu hf) n (rsOk (some (.int (nI 40 - nI (rp_blk c P (rp_sum r 3))))) (rwd G K V c P r md up wl cu hf) n) := by
  refine rsK_of pf_s_room rfl (Nat.le_of_ble_eq_true rfl) rfl ?_
  refine rs_aload_n d_s_room_0 rfl rfl ?_
  refine rx_cV d_s_room_1 rfl c_s_61 (by exact np_s_requireUp) rw_x (k_reqUp_ok hu) (by decide) ⟨rfl, rfl⟩ (Nat.le_of_ble_eq_true rfl) rfl ?_
  refine rs_aload_n d_s_room_4 rfl rfl ?_
  refine rx_get_di d_s_room_5 rfl f_s_19 ?_
  refine rx_cV d_s_room_8 rfl c_s_124 (by exact np_d_freeBlocks) rw_d (k_freeBlocks hs hP hc) (by decide) ⟨rfl, rfl⟩ (Nat.le_of_ble_eq_true rfl) rfl ?_
  exact rs_ireturn d_s_room_11 rfl ⟨rfl, rfl, rfl⟩
