/-! 23: the reference's public methods (written by gen_model3.py) -/
theorem i32_gt99 {x : Int32} (h : ¬ x < 100) : 99 < x := by
  rw [Int32.lt_iff_toInt_lt] at h ⊢
  have e1 : (100 : Int32).toInt = 100 := by decide
  have e2 : (99 : Int32).toInt = 99 := by decide
  omega
theorem i32_gt2 {x : Int32} (h : 3 ≤ x) : 2 < x := by
  rw [Int32.le_iff_toInt_le] at h
  rw [Int32.lt_iff_toInt_lt]
  have e1 : (3 : Int32).toInt = 3 := by decide
  have e2 : (2 : Int32).toInt = 2 := by decide
  omega
set_option maxRecDepth 100000 in
theorem k_m_isKey_yes {G : rsG} {n : Nat} {h : rsH} {key : Nat} (hk : key < 100) : rsK G M_m_isKey (rmO 0 0) [.int (nI key)] h n (rsOk (some (.int 1)) h n) := by
  refine rsK_of pf_m_isKey rfl (Nat.le_of_ble_eq_true rfl) rfl ?_
  refine rs_iload_n d_m_isKey_0 rfl rfl ?_
  refine rs_if_lt (tgt := 14) d_m_isKey_1 rfl (by decide) (fun hc => absurd hc (nI_pos (by omega))) (fun _ => ?_)
  refine rs_iload_n d_m_isKey_4 rfl rfl ?_
  refine rs_bipush (v := (nI 99)) d_m_isKey_5 rfl (by decide) ?_
  refine rs_icmp_gt (tgt := 14) d_m_isKey_7 rfl (by decide) (fun hc => absurd hc (Int32.not_lt.mpr (nI_le (by omega) (by omega)))) (fun _ => ?_)
  refine rs_iconst (v := 1) d_m_isKey_10 rfl (by decide) ?_
  refine rs_goto (tgt := 15) d_m_isKey_11 (by decide) ?_
  exact rs_zreturn d_m_isKey_15 rfl rfl ⟨rfl, rfl, rfl⟩
set_option maxRecDepth 100000 in
theorem k_m_isKey_no {G : rsG} {n : Nat} {h : rsH} {x : Int32} (hx : x < 0 ∨ ¬ x < 100) : rsK G M_m_isKey (rmO 0 0) [.int x] h n (rsOk (some (.int 0)) h n) := by
  refine rsK_of pf_m_isKey rfl (Nat.le_of_ble_eq_true rfl) rfl ?_
  refine rs_iload_n d_m_isKey_0 rfl rfl ?_
  by_cases h0 : x < 0
  · refine rs_if_lt (tgt := 14) d_m_isKey_1 rfl (by decide) (fun _ => ?_) (fun hc => absurd (h0) hc)
    refine rs_iconst (v := 0) d_m_isKey_14 rfl (by decide) ?_
    exact rs_zreturn d_m_isKey_15 rfl rfl ⟨rfl, rfl, rfl⟩
  · refine rs_if_lt (tgt := 14) d_m_isKey_1 rfl (by decide) (fun hc => absurd hc (h0)) (fun _ => ?_)
    refine rs_iload_n d_m_isKey_4 rfl rfl ?_
    refine rs_bipush (v := 99) d_m_isKey_5 rfl (by decide) ?_
    refine rs_icmp_gt (tgt := 14) d_m_isKey_7 rfl (by decide) (fun _ => ?_) (fun hc => absurd (i32_gt99 (hx.resolve_left h0)) hc)
    refine rs_iconst (v := 0) d_m_isKey_14 rfl (by decide) ?_
    exact rs_zreturn d_m_isKey_15 rfl rfl ⟨rfl, rfl, rfl⟩
set_option maxRecDepth 100000 in
theorem k_m_isLevel_yes {G : rsG} {n : Nat} {h : rsH} {ll : Nat} (hl : ll < 3) : rsK G M_m_isLevel (rmO 0 0) [.int (nI ll)] h n (rsOk (some (.int 1)) h n) := by
  refine rsK_of pf_m_isLevel rfl (Nat.le_of_ble_eq_true rfl) rfl ?_
  refine rs_iload_n d_m_isLevel_0 rfl rfl ?_
  refine rs_if_lt (tgt := 13) d_m_isLevel_1 rfl (by decide) (fun hc => absurd hc (nI_pos (by omega))) (fun _ => ?_)
  refine rs_iload_n d_m_isLevel_4 rfl rfl ?_
  refine rs_iconst (v := (nI 2)) d_m_isLevel_5 rfl (by decide) ?_
  refine rs_icmp_gt (tgt := 13) d_m_isLevel_6 rfl (by decide) (fun hc => absurd hc (Int32.not_lt.mpr (nI_le (by omega) (by omega)))) (fun _ => ?_)
  refine rs_iconst (v := 1) d_m_isLevel_9 rfl (by decide) ?_
  refine rs_goto (tgt := 14) d_m_isLevel_10 (by decide) ?_
  exact rs_zreturn d_m_isLevel_14 rfl rfl ⟨rfl, rfl, rfl⟩
set_option maxRecDepth 100000 in
theorem k_m_isLevel_no {G : rsG} {n : Nat} {h : rsH} {x : Int32} (hx : x < 0 ∨ 3 ≤ x) : rsK G M_m_isLevel (rmO 0 0) [.int x] h n (rsOk (some (.int 0)) h n) := by
  refine rsK_of pf_m_isLevel rfl (Nat.le_of_ble_eq_true rfl) rfl ?_
  refine rs_iload_n d_m_isLevel_0 rfl rfl ?_
  by_cases h0 : x < 0
  · refine rs_if_lt (tgt := 13) d_m_isLevel_1 rfl (by decide) (fun _ => ?_) (fun hc => absurd (h0) hc)
    refine rs_iconst (v := 0) d_m_isLevel_13 rfl (by decide) ?_
    exact rs_zreturn d_m_isLevel_14 rfl rfl ⟨rfl, rfl, rfl⟩
  · refine rs_if_lt (tgt := 13) d_m_isLevel_1 rfl (by decide) (fun hc => absurd hc (h0)) (fun _ => ?_)
    refine rs_iload_n d_m_isLevel_4 rfl rfl ?_
    refine rs_iconst (v := 2) d_m_isLevel_5 rfl (by decide) ?_
    refine rs_icmp_gt (tgt := 13) d_m_isLevel_6 rfl (by decide) (fun _ => ?_) (fun hc => absurd (i32_gt2 (hx.resolve_left h0)) hc)
    refine rs_iconst (v := 0) d_m_isLevel_13 rfl (by decide) ?_
    exact rs_zreturn d_m_isLevel_14 rfl rfl ⟨rfl, rfl, rfl⟩
set_option maxRecDepth 100000 in
theorem k_m_enter_bad {G : rsG} {n : Nat} {S T : Nat → Nat → Int32} {lv : Nat → Nat} {th mm iu bd : Int32} {mn : Nat} {av : Int32} {hf : rsH} {x : Int32} (hx : x < 0 ∨ ¬ x < 100) {v kd : Int32} : rsK G M_m_enter (rmO 4 84) [.ref (rsB G + 46), .int x, .int v, .int kd] (rmd G S T lv th mm iu bd mn av hf) n (rsOk (none) (rmd G S T lv 1 mm iu bd mn av hf) n) := by
  refine rsK_of pf_m_enter rfl (Nat.le_of_ble_eq_true rfl) rfl ?_
  refine rs_aload_n d_m_enter_0 rfl rfl ?_
  refine rs_iload_n d_m_enter_1 rfl rfl ?_
  refine rx_cS d_m_enter_2 rfl c_m_80 (by exact np_m_isKey) (k_m_isKey_no hx) (by decide) ⟨rfl, rfl⟩ (Nat.le_of_ble_eq_true rfl) rfl ?_
  refine rs_if_ne (tgt := 12) d_m_enter_5 rfl (by decide) (fun hc => absurd (rfl) hc) (fun _ => ?_)
  refine rs_iconst (v := 1) d_m_enter_8 rfl (by decide) ?_
  refine rs_goto (tgt := 24) d_m_enter_9 (by decide) ?_
  refine rx_put_th d_m_enter_24 rfl p_m_26 ?_
  refine rs_aload_n d_m_enter_27 rfl rfl ?_
  refine rx_get_th d_m_enter_28 rfl f_m_26 ?_
  refine rs_if_eq (tgt := 35) d_m_enter_31 rfl (by decide) (fun hc => absurd hc (by decide)) (fun _ => ?_)
  exact rs_vreturn d_m_enter_34 rfl ⟨rfl, rfl, rfl⟩
set_option maxRecDepth 100000 in
theorem k_m_enter_down {G : rsG} {n : Nat} {S T : Nat → Nat → Int32} {lv : Nat → Nat} {th mm iu bd : Int32} {mn : Nat} {av : Int32} {hf : rsH} {key : Nat} (hk : key < 100) (hu : iu = 0) {v kd : Int32} : rsK G M_m_enter (rmO 4 84) [.ref (rsB G + 46), .int (nI key), .int v, .int kd] (rmd G S T lv th mm iu bd mn av hf) n (rsOk (none) (rmd G S T lv 2 mm iu bd mn av hf) n) := by
  refine rsK_of pf_m_enter rfl (Nat.le_of_ble_eq_true rfl) rfl ?_
  refine rs_aload_n d_m_enter_0 rfl rfl ?_
  refine rs_iload_n d_m_enter_1 rfl rfl ?_
  refine rx_cS d_m_enter_2 rfl c_m_80 (by exact np_m_isKey) (k_m_isKey_yes hk) (by decide) ⟨rfl, rfl⟩ (Nat.le_of_ble_eq_true rfl) rfl ?_
  refine rs_if_ne (tgt := 12) d_m_enter_5 rfl (by decide) (fun _ => ?_) (fun hc => absurd hc (by decide))
  refine rs_aload_n d_m_enter_12 rfl rfl ?_
  refine rx_get_iu d_m_enter_13 rfl f_m_42 ?_
  refine rs_if_ne (tgt := 23) d_m_enter_16 rfl (by decide) (fun hc => absurd (hu) hc) (fun _ => ?_)
  refine rs_iconst (v := 2) d_m_enter_19 rfl (by decide) ?_
  refine rs_goto (tgt := 24) d_m_enter_20 (by decide) ?_
  refine rx_put_th d_m_enter_24 rfl p_m_26 ?_
  refine rs_aload_n d_m_enter_27 rfl rfl ?_
  refine rx_get_th d_m_enter_28 rfl f_m_26 ?_
  refine rs_if_eq (tgt := 35) d_m_enter_31 rfl (by decide) (fun hc => absurd hc (by decide)) (fun _ => ?_)
  exact rs_vreturn d_m_enter_34 rfl ⟨rfl, rfl, rfl⟩
set_option maxRecDepth 100000 in
theorem k_m_enter_has {G : rsG} {n : Nat} {S T : Nat → Nat → Int32} {lv : Nat → Nat} {th mm iu bd : Int32} {mn : Nat} {av : Int32} {hf : rsH} {key : Nat} (hk : key < 100) (hu : ¬ iu = 0) {v kd : Int32} (h0 : ¬ S 12 key = 0) : rsK G M_m_enter (rmO 4 84) [.ref (rsB G + 46), .int (nI key), .int v, .int kd] (rmd G S T lv th mm iu bd mn av hf) n (rsOk (none) (rmd G (rp_u S 12 key kd) (rp_u T 12 key v) lv 0 mm iu bd mn (-1) hf) n) := by
  refine rsK_of pf_m_enter rfl (Nat.le_of_ble_eq_true rfl) rfl ?_
  refine rs_aload_n d_m_enter_0 rfl rfl ?_
  refine rs_iload_n d_m_enter_1 rfl rfl ?_
  refine rx_cS d_m_enter_2 rfl c_m_80 (by exact np_m_isKey) (k_m_isKey_yes hk) (by decide) ⟨rfl, rfl⟩ (Nat.le_of_ble_eq_true rfl) rfl ?_
  refine rs_if_ne (tgt := 12) d_m_enter_5 rfl (by decide) (fun _ => ?_) (fun hc => absurd hc (by decide))
  refine rs_aload_n d_m_enter_12 rfl rfl ?_
  refine rx_get_iu d_m_enter_13 rfl f_m_42 ?_
  refine rs_if_ne (tgt := 23) d_m_enter_16 rfl (by decide) (fun _ => ?_) (fun hc => absurd hc (hu))
  refine rs_iconst (v := 0) d_m_enter_23 rfl (by decide) ?_
  refine rx_put_th d_m_enter_24 rfl p_m_26 ?_
  refine rs_aload_n d_m_enter_27 rfl rfl ?_
  refine rx_get_th d_m_enter_28 rfl f_m_26 ?_
  refine rs_if_eq (tgt := 35) d_m_enter_31 rfl (by decide) (fun _ => ?_) (fun hc => absurd (rfl) hc)
  refine rs_aload_n d_m_enter_35 rfl rfl ?_
  refine rx_get_so d_m_enter_36 rfl f_m_17 ?_
  refine rs_sipush (v := (nI 1200)) d_m_enter_39 rfl (by decide) ?_
  refine rs_iload_n d_m_enter_42 rfl rfl ?_
  refine rs_iadd d_m_enter_43 rfl ?_
  refine rs_pix (rm_ix12 key) ?_
  refine ry_ld_s (by first | assumption | omega) (by first | assumption | omega) d_m_enter_44 rfl ?_
  refine rs_if_ne (tgt := 82) d_m_enter_45 rfl (by decide) (fun _ => ?_) (fun hc => absurd hc (h0))
  refine rs_aload_n d_m_enter_82 rfl rfl ?_
  refine rx_get_th d_m_enter_83 rfl f_m_26 ?_
  refine rs_if_ne (tgt := 116) d_m_enter_86 rfl (by decide) (fun hc => absurd (rfl) hc) (fun _ => ?_)
  refine rs_aload_n d_m_enter_89 rfl rfl ?_
  refine rx_get_so d_m_enter_90 rfl f_m_17 ?_
  refine rs_sipush (v := (nI 1200)) d_m_enter_93 rfl (by decide) ?_
  refine rs_iload_n d_m_enter_96 rfl rfl ?_
  refine rs_iadd d_m_enter_97 rfl ?_
  refine rs_pix (rm_ix12 key) ?_
  refine rs_iload_n d_m_enter_98 rfl rfl ?_
  refine ry_st_s (by first | assumption | omega) (by first | assumption | omega) d_m_enter_99 rfl ?_
  refine rs_aload_n d_m_enter_100 rfl rfl ?_
  refine rx_get_vs d_m_enter_101 rfl f_m_20 ?_
  refine rs_sipush (v := (nI 1200)) d_m_enter_104 rfl (by decide) ?_
  refine rs_iload_n d_m_enter_107 rfl rfl ?_
  refine rs_iadd d_m_enter_108 rfl ?_
  refine rs_pix (rm_ix12 key) ?_
  refine rs_iload_n d_m_enter_109 rfl rfl ?_
  refine ry_st_v (by first | assumption | omega) (by first | assumption | omega) d_m_enter_110 rfl ?_
  refine rs_aload_n d_m_enter_111 rfl rfl ?_
  refine rs_iconst (v := (-1)) d_m_enter_112 rfl (by decide) ?_
  refine rx_put_at d_m_enter_113 rfl p_m_23 ?_
  exact rs_vreturn d_m_enter_116 rfl ⟨rfl, rfl, rfl⟩
set_option maxRecDepth 100000 in
theorem k_m_enter_few {G : rsG} {n : Nat} {S T : Nat → Nat → Int32} {lv : Nat → Nat} {th mm iu bd : Int32} {mn : Nat} {av : Int32} {hf : rsH} {key : Nat} (hk : key < 100) (hu : ¬ iu = 0) {v kd : Int32} (h0 : S 12 key = 0) (h8 : rm_sz S 12 ≠ 8) : rsK G M_m_enter (rmO 4 84) [.ref (rsB G + 46), .int (nI key), .int v, .int kd] (rmd G S T lv th mm iu bd mn av hf) n (rsOk (none) (rmd G (rp_u S 12 key kd) (rp_u T 12 key v) lv 0 mm iu bd mn (-1) hf) n) := by
  refine rsK_of pf_m_enter rfl (Nat.le_of_ble_eq_true rfl) rfl ?_
  refine rs_aload_n d_m_enter_0 rfl rfl ?_
  refine rs_iload_n d_m_enter_1 rfl rfl ?_
  refine rx_cS d_m_enter_2 rfl c_m_80 (by exact np_m_isKey) (k_m_isKey_yes hk) (by decide) ⟨rfl, rfl⟩ (Nat.le_of_ble_eq_true rfl) rfl ?_
  refine rs_if_ne (tgt := 12) d_m_enter_5 rfl (by decide) (fun _ => ?_) (fun hc => absurd hc (by decide))
  refine rs_aload_n d_m_enter_12 rfl rfl ?_
  refine rx_get_iu d_m_enter_13 rfl f_m_42 ?_
  refine rs_if_ne (tgt := 23) d_m_enter_16 rfl (by decide) (fun _ => ?_) (fun hc => absurd hc (hu))
  refine rs_iconst (v := 0) d_m_enter_23 rfl (by decide) ?_
  refine rx_put_th d_m_enter_24 rfl p_m_26 ?_
  refine rs_aload_n d_m_enter_27 rfl rfl ?_
  refine rx_get_th d_m_enter_28 rfl f_m_26 ?_
  refine rs_if_eq (tgt := 35) d_m_enter_31 rfl (by decide) (fun _ => ?_) (fun hc => absurd (rfl) hc)
  refine rs_aload_n d_m_enter_35 rfl rfl ?_
  refine rx_get_so d_m_enter_36 rfl f_m_17 ?_
  refine rs_sipush (v := (nI 1200)) d_m_enter_39 rfl (by decide) ?_
  refine rs_iload_n d_m_enter_42 rfl rfl ?_
  refine rs_iadd d_m_enter_43 rfl ?_
  refine rs_pix (rm_ix12 key) ?_
  refine ry_ld_s (by first | assumption | omega) (by first | assumption | omega) d_m_enter_44 rfl ?_
  refine rs_if_ne (tgt := 82) d_m_enter_45 rfl (by decide) (fun hc => absurd (h0) hc) (fun _ => ?_)
  refine rs_aload_n d_m_enter_48 rfl rfl ?_
  refine rs_bipush (v := (nI 12)) d_m_enter_49 rfl (by decide) ?_
  refine rx_cV d_m_enter_51 rfl c_m_32 (by exact np_m_sizeOf) rm_o (k_m_sizeOf (by decide)) (by decide) ⟨rfl, rfl⟩ (Nat.le_of_ble_eq_true rfl) rfl ?_
  refine rs_bipush (v := (nI 8)) d_m_enter_54 rfl (by decide) ?_
  refine rs_icmp_ne (tgt := 82) d_m_enter_56 rfl (by decide) (fun _ => ?_) (fun hc => absurd hc (rp_ne h8 (Nat.lt_of_le_of_lt (rm_sz_le _ 12) (by decide)) (by decide)))
  refine rs_aload_n d_m_enter_82 rfl rfl ?_
  refine rx_get_th d_m_enter_83 rfl f_m_26 ?_
  refine rs_if_ne (tgt := 116) d_m_enter_86 rfl (by decide) (fun hc => absurd (rfl) hc) (fun _ => ?_)
  refine rs_aload_n d_m_enter_89 rfl rfl ?_
  refine rx_get_so d_m_enter_90 rfl f_m_17 ?_
  refine rs_sipush (v := (nI 1200)) d_m_enter_93 rfl (by decide) ?_
  refine rs_iload_n d_m_enter_96 rfl rfl ?_
  refine rs_iadd d_m_enter_97 rfl ?_
  refine rs_pix (rm_ix12 key) ?_
  refine rs_iload_n d_m_enter_98 rfl rfl ?_
  refine ry_st_s (by first | assumption | omega) (by first | assumption | omega) d_m_enter_99 rfl ?_
  refine rs_aload_n d_m_enter_100 rfl rfl ?_
  refine rx_get_vs d_m_enter_101 rfl f_m_20 ?_
  refine rs_sipush (v := (nI 1200)) d_m_enter_104 rfl (by decide) ?_
  refine rs_iload_n d_m_enter_107 rfl rfl ?_
  refine rs_iadd d_m_enter_108 rfl ?_
  refine rs_pix (rm_ix12 key) ?_
  refine rs_iload_n d_m_enter_109 rfl rfl ?_
  refine ry_st_v (by first | assumption | omega) (by first | assumption | omega) d_m_enter_110 rfl ?_
  refine rs_aload_n d_m_enter_111 rfl rfl ?_
  refine rs_iconst (v := (-1)) d_m_enter_112 rfl (by decide) ?_
  refine rx_put_at d_m_enter_113 rfl p_m_23 ?_
  exact rs_vreturn d_m_enter_116 rfl ⟨rfl, rfl, rfl⟩
set_option maxRecDepth 100000 in
theorem k_m_enter_fok {G : rsG} {n : Nat} {S T S2 T2 : Nat → Nat → Int32} {lv lv2 : Nat → Nat} {th mm iu bd th2 mm2 iu2 bd2 : Int32} {mn mn2 : Nat} {av av2 : Int32} {hf : rsH} {key : Nat} (hk : key < 100) (hu : ¬ iu = 0) {v kd : Int32} (h0 : S 12 key = 0) (h8 : rm_sz S 12 = 8) (hF : rsK G M_m_flushed (rmO 3 63) [.ref (rsB G + 46)] (rmd G S T lv 0 mm iu bd mn av hf) n (rsOk (some (.int 0)) (rmd G S2 T2 lv2 th2 mm2 iu2 bd2 mn2 av2 hf) n)) : rsK G M_m_enter (rmO 4 84) [.ref (rsB G + 46), .int (nI key), .int v, .int kd] (rmd G S T lv th mm iu bd mn av hf) n (rsOk (none) (rmd G (rp_u S2 12 key kd) (rp_u T2 12 key v) lv2 0 mm2 iu2 bd2 mn2 (-1) hf) n) := by
  refine rsK_of pf_m_enter rfl (Nat.le_of_ble_eq_true rfl) rfl ?_
  refine rs_aload_n d_m_enter_0 rfl rfl ?_
  refine rs_iload_n d_m_enter_1 rfl rfl ?_
  refine rx_cS d_m_enter_2 rfl c_m_80 (by exact np_m_isKey) (k_m_isKey_yes hk) (by decide) ⟨rfl, rfl⟩ (Nat.le_of_ble_eq_true rfl) rfl ?_
  refine rs_if_ne (tgt := 12) d_m_enter_5 rfl (by decide) (fun _ => ?_) (fun hc => absurd hc (by decide))
  refine rs_aload_n d_m_enter_12 rfl rfl ?_
  refine rx_get_iu d_m_enter_13 rfl f_m_42 ?_
  refine rs_if_ne (tgt := 23) d_m_enter_16 rfl (by decide) (fun _ => ?_) (fun hc => absurd hc (hu))
  refine rs_iconst (v := 0) d_m_enter_23 rfl (by decide) ?_
  refine rx_put_th d_m_enter_24 rfl p_m_26 ?_
  refine rs_aload_n d_m_enter_27 rfl rfl ?_
  refine rx_get_th d_m_enter_28 rfl f_m_26 ?_
  refine rs_if_eq (tgt := 35) d_m_enter_31 rfl (by decide) (fun _ => ?_) (fun hc => absurd (rfl) hc)
  refine rs_aload_n d_m_enter_35 rfl rfl ?_
  refine rx_get_so d_m_enter_36 rfl f_m_17 ?_
  refine rs_sipush (v := (nI 1200)) d_m_enter_39 rfl (by decide) ?_
  refine rs_iload_n d_m_enter_42 rfl rfl ?_
  refine rs_iadd d_m_enter_43 rfl ?_
  refine rs_pix (rm_ix12 key) ?_
  refine ry_ld_s (by first | assumption | omega) (by first | assumption | omega) d_m_enter_44 rfl ?_
  refine rs_if_ne (tgt := 82) d_m_enter_45 rfl (by decide) (fun hc => absurd (h0) hc) (fun _ => ?_)
  refine rs_aload_n d_m_enter_48 rfl rfl ?_
  refine rs_bipush (v := (nI 12)) d_m_enter_49 rfl (by decide) ?_
  refine rx_cV d_m_enter_51 rfl c_m_32 (by exact np_m_sizeOf) rm_o (k_m_sizeOf (by decide)) (by decide) ⟨rfl, rfl⟩ (Nat.le_of_ble_eq_true rfl) rfl ?_
  refine rs_bipush (v := (nI 8)) d_m_enter_54 rfl (by decide) ?_
  rw [h8]
  refine rs_icmp_ne (tgt := 82) d_m_enter_56 rfl (by decide) (fun hc => absurd (rfl) hc) (fun _ => ?_)
  refine rs_aload_n d_m_enter_59 rfl rfl ?_
  refine rx_cV d_m_enter_60 rfl c_m_83 (by exact np_m_flushed) rm_o (hF) (by decide) ⟨rfl, rfl⟩ (Nat.le_of_ble_eq_true rfl) rfl ?_
  refine rs_istore d_m_enter_63 rfl (by decide) rfl ?_
  refine rs_aload_n d_m_enter_65 rfl rfl ?_
  refine rs_iload d_m_enter_66 rfl rfl ?_
  refine rs_if_ne (tgt := 75) d_m_enter_68 rfl (by decide) (fun hc => absurd (rfl) hc) (fun _ => ?_)
  refine rs_iconst (v := 0) d_m_enter_71 rfl (by decide) ?_
  refine rs_goto (tgt := 79) d_m_enter_72 (by decide) ?_
  refine rx_put_th d_m_enter_79 rfl p_m_26 ?_
  refine rs_aload_n d_m_enter_82 rfl rfl ?_
  refine rx_get_th d_m_enter_83 rfl f_m_26 ?_
  refine rs_if_ne (tgt := 116) d_m_enter_86 rfl (by decide) (fun hc => absurd (rfl) hc) (fun _ => ?_)
  refine rs_aload_n d_m_enter_89 rfl rfl ?_
  refine rx_get_so d_m_enter_90 rfl f_m_17 ?_
  refine rs_sipush (v := (nI 1200)) d_m_enter_93 rfl (by decide) ?_
  refine rs_iload_n d_m_enter_96 rfl rfl ?_
  refine rs_iadd d_m_enter_97 rfl ?_
  refine rs_pix (rm_ix12 key) ?_
  refine rs_iload_n d_m_enter_98 rfl rfl ?_
  refine ry_st_s (by first | assumption | omega) (by first | assumption | omega) d_m_enter_99 rfl ?_
  refine rs_aload_n d_m_enter_100 rfl rfl ?_
  refine rx_get_vs d_m_enter_101 rfl f_m_20 ?_
  refine rs_sipush (v := (nI 1200)) d_m_enter_104 rfl (by decide) ?_
  refine rs_iload_n d_m_enter_107 rfl rfl ?_
  refine rs_iadd d_m_enter_108 rfl ?_
  refine rs_pix (rm_ix12 key) ?_
  refine rs_iload_n d_m_enter_109 rfl rfl ?_
  refine ry_st_v (by first | assumption | omega) (by first | assumption | omega) d_m_enter_110 rfl ?_
  refine rs_aload_n d_m_enter_111 rfl rfl ?_
  refine rs_iconst (v := (-1)) d_m_enter_112 rfl (by decide) ?_
  refine rx_put_at d_m_enter_113 rfl p_m_23 ?_
  exact rs_vreturn d_m_enter_116 rfl ⟨rfl, rfl, rfl⟩
set_option maxRecDepth 100000 in
theorem k_m_enter_fth {G : rsG} {n : Nat} {S T S2 T2 : Nat → Nat → Int32} {lv lv2 : Nat → Nat} {th mm iu bd th2 mm2 iu2 bd2 : Int32} {mn mn2 : Nat} {av av2 : Int32} {hf : rsH} {key : Nat} (hk : key < 100) (hu : ¬ iu = 0) {v kd : Int32} (h0 : S 12 key = 0) (h8 : rm_sz S 12 = 8) {x : Int32} (hx : ¬ x = 0) (hx1 : ¬ x + 1 = 0) (hF : rsK G M_m_flushed (rmO 3 63) [.ref (rsB G + 46)] (rmd G S T lv 0 mm iu bd mn av hf) n (rsOk (some (.int x)) (rmd G S2 T2 lv2 th2 mm2 iu2 bd2 mn2 av2 hf) n)) : rsK G M_m_enter (rmO 4 84) [.ref (rsB G + 46), .int (nI key), .int v, .int kd] (rmd G S T lv th mm iu bd mn av hf) n (rsOk (none) (rmd G S2 T2 lv2 (x + 1) mm2 iu2 bd2 mn2 av2 hf) n) := by
  refine rsK_of pf_m_enter rfl (Nat.le_of_ble_eq_true rfl) rfl ?_
  refine rs_aload_n d_m_enter_0 rfl rfl ?_
  refine rs_iload_n d_m_enter_1 rfl rfl ?_
  refine rx_cS d_m_enter_2 rfl c_m_80 (by exact np_m_isKey) (k_m_isKey_yes hk) (by decide) ⟨rfl, rfl⟩ (Nat.le_of_ble_eq_true rfl) rfl ?_
  refine rs_if_ne (tgt := 12) d_m_enter_5 rfl (by decide) (fun _ => ?_) (fun hc => absurd hc (by decide))
  refine rs_aload_n d_m_enter_12 rfl rfl ?_
  refine rx_get_iu d_m_enter_13 rfl f_m_42 ?_
  refine rs_if_ne (tgt := 23) d_m_enter_16 rfl (by decide) (fun _ => ?_) (fun hc => absurd hc (hu))
  refine rs_iconst (v := 0) d_m_enter_23 rfl (by decide) ?_
  refine rx_put_th d_m_enter_24 rfl p_m_26 ?_
  refine rs_aload_n d_m_enter_27 rfl rfl ?_
  refine rx_get_th d_m_enter_28 rfl f_m_26 ?_
  refine rs_if_eq (tgt := 35) d_m_enter_31 rfl (by decide) (fun _ => ?_) (fun hc => absurd (rfl) hc)
  refine rs_aload_n d_m_enter_35 rfl rfl ?_
  refine rx_get_so d_m_enter_36 rfl f_m_17 ?_
  refine rs_sipush (v := (nI 1200)) d_m_enter_39 rfl (by decide) ?_
  refine rs_iload_n d_m_enter_42 rfl rfl ?_
  refine rs_iadd d_m_enter_43 rfl ?_
  refine rs_pix (rm_ix12 key) ?_
  refine ry_ld_s (by first | assumption | omega) (by first | assumption | omega) d_m_enter_44 rfl ?_
  refine rs_if_ne (tgt := 82) d_m_enter_45 rfl (by decide) (fun hc => absurd (h0) hc) (fun _ => ?_)
  refine rs_aload_n d_m_enter_48 rfl rfl ?_
  refine rs_bipush (v := (nI 12)) d_m_enter_49 rfl (by decide) ?_
  refine rx_cV d_m_enter_51 rfl c_m_32 (by exact np_m_sizeOf) rm_o (k_m_sizeOf (by decide)) (by decide) ⟨rfl, rfl⟩ (Nat.le_of_ble_eq_true rfl) rfl ?_
  refine rs_bipush (v := (nI 8)) d_m_enter_54 rfl (by decide) ?_
  rw [h8]
  refine rs_icmp_ne (tgt := 82) d_m_enter_56 rfl (by decide) (fun hc => absurd (rfl) hc) (fun _ => ?_)
  refine rs_aload_n d_m_enter_59 rfl rfl ?_
  refine rx_cV d_m_enter_60 rfl c_m_83 (by exact np_m_flushed) rm_o (hF) (by decide) ⟨rfl, rfl⟩ (Nat.le_of_ble_eq_true rfl) rfl ?_
  refine rs_istore d_m_enter_63 rfl (by decide) rfl ?_
  refine rs_aload_n d_m_enter_65 rfl rfl ?_
  refine rs_iload d_m_enter_66 rfl rfl ?_
  refine rs_if_ne (tgt := 75) d_m_enter_68 rfl (by decide) (fun _ => ?_) (fun hc => absurd hc (hx))
  refine rs_iload d_m_enter_75 rfl rfl ?_
  refine rs_iconst (v := 1) d_m_enter_77 rfl (by decide) ?_
  refine rs_iadd d_m_enter_78 rfl ?_
  refine rx_put_th d_m_enter_79 rfl p_m_26 ?_
  refine rs_aload_n d_m_enter_82 rfl rfl ?_
  refine rx_get_th d_m_enter_83 rfl f_m_26 ?_
  refine rs_if_ne (tgt := 116) d_m_enter_86 rfl (by decide) (fun _ => ?_) (fun hc => absurd hc (hx1))
  exact rs_vreturn d_m_enter_116 rfl ⟨rfl, rfl, rfl⟩
set_option maxRecDepth 100000 in
theorem k_m_put_ok {G : rsG} {n : Nat} {S T S2 T2 : Nat → Nat → Int32} {lv lv2 : Nat → Nat} {th mm iu bd th2 mm2 iu2 bd2 : Int32} {mn mn2 : Nat} {av av2 : Int32} {hf : rsH} {x v : Int32} (hE : rsK G M_m_enter (rmO 4 84) [.ref (rsB G + 46), .int x, .int v, .int 1] (rmd G S T lv th mm iu bd mn av hf) n (rsOk none (rmd G S2 T2 lv2 0 mm2 iu2 bd2 mn2 av2 hf) n)) : rsK G M_m_put (rmO 5 108) [.ref (rsB G + 46), .int x, .int v] (rmd G S T lv th mm iu bd mn av hf) n (rsOk (some (.int (nI (rm_sz S2 12)))) (rmd G S2 T2 lv2 0 mm2 iu2 bd2 mn2 av2 hf) n) := by
  refine rsK_of pf_m_put rfl (Nat.le_of_ble_eq_true rfl) rfl ?_
  refine rs_aload_n d_m_put_0 rfl rfl ?_
  refine rs_iload_n d_m_put_1 rfl rfl ?_
  refine rs_iload_n d_m_put_2 rfl rfl ?_
  refine rs_iconst (v := 1) d_m_put_3 rfl (by decide) ?_
  refine rx_cV d_m_put_4 rfl c_m_86 (by exact np_m_enter) rm_o (hE) (by decide) ⟨rfl, rfl⟩ (Nat.le_of_ble_eq_true rfl) rfl ?_
  refine rs_aload_n d_m_put_7 rfl rfl ?_
  refine rx_get_th d_m_put_8 rfl f_m_26 ?_
  refine rs_if_ne (tgt := 23) d_m_put_11 rfl (by decide) (fun hc => absurd (rfl) hc) (fun _ => ?_)
  refine rs_aload_n d_m_put_14 rfl rfl ?_
  refine rs_bipush (v := (nI 12)) d_m_put_15 rfl (by decide) ?_
  refine rx_cV d_m_put_17 rfl c_m_32 (by exact np_m_sizeOf) rm_o (k_m_sizeOf (by decide)) (by decide) ⟨rfl, rfl⟩ (Nat.le_of_ble_eq_true rfl) rfl ?_
  refine rs_goto (tgt := 24) d_m_put_20 (by decide) ?_
  exact rs_ireturn d_m_put_24 rfl ⟨rfl, rfl, rfl⟩
set_option maxRecDepth 100000 in
theorem k_m_put_no {G : rsG} {n : Nat} {S T S2 T2 : Nat → Nat → Int32} {lv lv2 : Nat → Nat} {th mm iu bd th2 mm2 iu2 bd2 : Int32} {mn mn2 : Nat} {av av2 : Int32} {hf : rsH} {x v : Int32} (ht : ¬ th2 = 0) (hE : rsK G M_m_enter (rmO 4 84) [.ref (rsB G + 46), .int x, .int v, .int 1] (rmd G S T lv th mm iu bd mn av hf) n (rsOk none (rmd G S2 T2 lv2 th2 mm2 iu2 bd2 mn2 av2 hf) n)) : rsK G M_m_put (rmO 5 108) [.ref (rsB G + 46), .int x, .int v] (rmd G S T lv th mm iu bd mn av hf) n (rsOk (some (.int 0)) (rmd G S2 T2 lv2 th2 mm2 iu2 bd2 mn2 av2 hf) n) := by
  refine rsK_of pf_m_put rfl (Nat.le_of_ble_eq_true rfl) rfl ?_
  refine rs_aload_n d_m_put_0 rfl rfl ?_
  refine rs_iload_n d_m_put_1 rfl rfl ?_
  refine rs_iload_n d_m_put_2 rfl rfl ?_
  refine rs_iconst (v := 1) d_m_put_3 rfl (by decide) ?_
  refine rx_cV d_m_put_4 rfl c_m_86 (by exact np_m_enter) rm_o (hE) (by decide) ⟨rfl, rfl⟩ (Nat.le_of_ble_eq_true rfl) rfl ?_
  refine rs_aload_n d_m_put_7 rfl rfl ?_
  refine rx_get_th d_m_put_8 rfl f_m_26 ?_
  refine rs_if_ne (tgt := 23) d_m_put_11 rfl (by decide) (fun _ => ?_) (fun hc => absurd hc (ht))
  refine rs_iconst (v := 0) d_m_put_23 rfl (by decide) ?_
  exact rs_ireturn d_m_put_24 rfl ⟨rfl, rfl, rfl⟩
set_option maxRecDepth 100000 in
theorem k_m_remove_bad {G : rsG} {n : Nat} {S T S2 T2 : Nat → Nat → Int32} {lv lv2 : Nat → Nat} {th mm iu bd th2 mm2 iu2 bd2 : Int32} {mn mn2 : Nat} {av av2 : Int32} {hf : rsH} {x : Int32} (hx : x < 0 ∨ ¬ x < 100) (ht : ¬ th2 = 0) (hE : rsK G M_m_enter (rmO 4 84) [.ref (rsB G + 46), .int x, .int 0, .int 2] (rmd G S T lv th mm iu bd mn av hf) n (rsOk none (rmd G S2 T2 lv2 th2 mm2 iu2 bd2 mn2 av2 hf) n)) : rsK G M_m_remove (rmO 5 108) [.ref (rsB G + 46), .int x] (rmd G S T lv th mm iu bd mn av hf) n (rsOk (some (.int 0)) (rmd G S2 T2 lv2 th2 mm2 iu2 bd2 mn2 av2 hf) n) := by
  refine rsK_of pf_m_remove rfl (Nat.le_of_ble_eq_true rfl) rfl ?_
  refine rs_iload_n d_m_remove_0 rfl rfl ?_
  refine rx_cS d_m_remove_1 rfl c_m_80 (by exact np_m_isKey) (k_m_isKey_no hx) (by decide) ⟨rfl, rfl⟩ (Nat.le_of_ble_eq_true rfl) rfl ?_
  refine rs_if_eq (tgt := 19) d_m_remove_4 rfl (by decide) (fun _ => ?_) (fun hc => absurd (rfl) hc)
  refine rs_iconst (v := 0) d_m_remove_19 rfl (by decide) ?_
  refine rs_istore_n d_m_remove_20 rfl (by decide) rfl ?_
  refine rs_aload_n d_m_remove_21 rfl rfl ?_
  refine rs_iload_n d_m_remove_22 rfl rfl ?_
  refine rs_iconst (v := 0) d_m_remove_23 rfl (by decide) ?_
  refine rs_iconst (v := 2) d_m_remove_24 rfl (by decide) ?_
  refine rx_cV d_m_remove_25 rfl c_m_86 (by exact np_m_enter) rm_o (hE) (by decide) ⟨rfl, rfl⟩ (Nat.le_of_ble_eq_true rfl) rfl ?_
  refine rs_aload_n d_m_remove_28 rfl rfl ?_
  refine rx_get_th d_m_remove_29 rfl f_m_26 ?_
  refine rs_if_ne (tgt := 43) d_m_remove_32 rfl (by decide) (fun _ => ?_) (fun hc => absurd hc (ht))
  refine rs_iconst (v := 0) d_m_remove_43 rfl (by decide) ?_
  exact rs_zreturn d_m_remove_44 rfl rfl ⟨rfl, rfl, rfl⟩
set_option maxRecDepth 100000 in
theorem k_m_remove_no {G : rsG} {n : Nat} {S T S2 T2 : Nat → Nat → Int32} {lv lv2 : Nat → Nat} {th mm iu bd th2 mm2 iu2 bd2 : Int32} {mn mn2 : Nat} {av av2 : Int32} {hf : rsH} {key : Nat} (hk : key < 100) (hm : mn ≤ 12) (ht : ¬ th2 = 0) (hE : rsK G M_m_enter (rmO 4 84) [.ref (rsB G + 46), .int (nI key), .int 0, .int 2] (rmd G S T lv th mm iu bd mn av hf) n (rsOk none (rmd G S2 T2 lv2 th2 mm2 iu2 bd2 mn2 av2 hf) n)) : rsK G M_m_remove (rmO 5 108) [.ref (rsB G + 46), .int (nI key)] (rmd G S T lv th mm iu bd mn av hf) n (rsOk (some (.int 0)) (rmd G S2 T2 lv2 th2 mm2 iu2 bd2 mn2 av2 hf) n) := by
  refine rsK_of pf_m_remove rfl (Nat.le_of_ble_eq_true rfl) rfl ?_
  refine rs_iload_n d_m_remove_0 rfl rfl ?_
  refine rx_cS d_m_remove_1 rfl c_m_80 (by exact np_m_isKey) (k_m_isKey_yes hk) (by decide) ⟨rfl, rfl⟩ (Nat.le_of_ble_eq_true rfl) rfl ?_
  refine rs_if_eq (tgt := 19) d_m_remove_4 rfl (by decide) (fun hc => absurd hc (by decide)) (fun _ => ?_)
  refine rs_aload_n d_m_remove_7 rfl rfl ?_
  refine rs_iload_n d_m_remove_8 rfl rfl ?_
  refine rx_cV d_m_remove_9 rfl c_m_90 (by exact np_m_isThere) rm_o (k_m_isThere hk hm) (by decide) ⟨rfl, rfl⟩ (Nat.le_of_ble_eq_true rfl) rfl ?_
  rcases rm_th01 S mn key with e1 | e1
  · rw [e1]
    refine rs_if_eq (tgt := 19) d_m_remove_12 rfl (by decide) (fun _ => ?_) (fun hc => absurd (rfl) hc)
    refine rs_iconst (v := 0) d_m_remove_19 rfl (by decide) ?_
    refine rs_istore_n d_m_remove_20 rfl (by decide) rfl ?_
    refine rs_aload_n d_m_remove_21 rfl rfl ?_
    refine rs_iload_n d_m_remove_22 rfl rfl ?_
    refine rs_iconst (v := 0) d_m_remove_23 rfl (by decide) ?_
    refine rs_iconst (v := 2) d_m_remove_24 rfl (by decide) ?_
    refine rx_cV d_m_remove_25 rfl c_m_86 (by exact np_m_enter) rm_o (hE) (by decide) ⟨rfl, rfl⟩ (Nat.le_of_ble_eq_true rfl) rfl ?_
    refine rs_aload_n d_m_remove_28 rfl rfl ?_
    refine rx_get_th d_m_remove_29 rfl f_m_26 ?_
    refine rs_if_ne (tgt := 43) d_m_remove_32 rfl (by decide) (fun _ => ?_) (fun hc => absurd hc (ht))
    refine rs_iconst (v := 0) d_m_remove_43 rfl (by decide) ?_
    exact rs_zreturn d_m_remove_44 rfl rfl ⟨rfl, rfl, rfl⟩
  · rw [e1]
    refine rs_if_eq (tgt := 19) d_m_remove_12 rfl (by decide) (fun hc => absurd hc (by decide)) (fun _ => ?_)
    refine rs_iconst (v := 1) d_m_remove_15 rfl (by decide) ?_
    refine rs_goto (tgt := 20) d_m_remove_16 (by decide) ?_
    refine rs_istore_n d_m_remove_20 rfl (by decide) rfl ?_
    refine rs_aload_n d_m_remove_21 rfl rfl ?_
    refine rs_iload_n d_m_remove_22 rfl rfl ?_
    refine rs_iconst (v := 0) d_m_remove_23 rfl (by decide) ?_
    refine rs_iconst (v := 2) d_m_remove_24 rfl (by decide) ?_
    refine rx_cV d_m_remove_25 rfl c_m_86 (by exact np_m_enter) rm_o (hE) (by decide) ⟨rfl, rfl⟩ (Nat.le_of_ble_eq_true rfl) rfl ?_
    refine rs_aload_n d_m_remove_28 rfl rfl ?_
    refine rx_get_th d_m_remove_29 rfl f_m_26 ?_
    refine rs_if_ne (tgt := 43) d_m_remove_32 rfl (by decide) (fun _ => ?_) (fun hc => absurd hc (ht))
    refine rs_iconst (v := 0) d_m_remove_43 rfl (by decide) ?_
    exact rs_zreturn d_m_remove_44 rfl rfl ⟨rfl, rfl, rfl⟩
set_option maxRecDepth 100000 in
theorem k_m_remove_ok {G : rsG} {n : Nat} {S T S2 T2 : Nat → Nat → Int32} {lv lv2 : Nat → Nat} {th mm iu bd th2 mm2 iu2 bd2 : Int32} {mn mn2 : Nat} {av av2 : Int32} {hf : rsH} {key : Nat} (hk : key < 100) (hm : mn ≤ 12) (hE : rsK G M_m_enter (rmO 4 84) [.ref (rsB G + 46), .int (nI key), .int 0, .int 2] (rmd G S T lv th mm iu bd mn av hf) n (rsOk none (rmd G S2 T2 lv2 0 mm2 iu2 bd2 mn2 av2 hf) n)) : rsK G M_m_remove (rmO 5 108) [.ref (rsB G + 46), .int (nI key)] (rmd G S T lv th mm iu bd mn av hf) n (rsOk (some (.int (rm_th S mn key))) (rmd G S2 T2 lv2 0 mm2 iu2 bd2 mn2 av2 hf) n) := by
  refine rsK_of pf_m_remove rfl (Nat.le_of_ble_eq_true rfl) rfl ?_
  refine rs_iload_n d_m_remove_0 rfl rfl ?_
  refine rx_cS d_m_remove_1 rfl c_m_80 (by exact np_m_isKey) (k_m_isKey_yes hk) (by decide) ⟨rfl, rfl⟩ (Nat.le_of_ble_eq_true rfl) rfl ?_
  refine rs_if_eq (tgt := 19) d_m_remove_4 rfl (by decide) (fun hc => absurd hc (by decide)) (fun _ => ?_)
  refine rs_aload_n d_m_remove_7 rfl rfl ?_
  refine rs_iload_n d_m_remove_8 rfl rfl ?_
  refine rx_cV d_m_remove_9 rfl c_m_90 (by exact np_m_isThere) rm_o (k_m_isThere hk hm) (by decide) ⟨rfl, rfl⟩ (Nat.le_of_ble_eq_true rfl) rfl ?_
  rcases rm_th01 S mn key with e1 | e1
  · rw [e1]
    refine rs_if_eq (tgt := 19) d_m_remove_12 rfl (by decide) (fun _ => ?_) (fun hc => absurd (rfl) hc)
    refine rs_iconst (v := 0) d_m_remove_19 rfl (by decide) ?_
    refine rs_istore_n d_m_remove_20 rfl (by decide) rfl ?_
    refine rs_aload_n d_m_remove_21 rfl rfl ?_
    refine rs_iload_n d_m_remove_22 rfl rfl ?_
    refine rs_iconst (v := 0) d_m_remove_23 rfl (by decide) ?_
    refine rs_iconst (v := 2) d_m_remove_24 rfl (by decide) ?_
    refine rx_cV d_m_remove_25 rfl c_m_86 (by exact np_m_enter) rm_o (hE) (by decide) ⟨rfl, rfl⟩ (Nat.le_of_ble_eq_true rfl) rfl ?_
    refine rs_aload_n d_m_remove_28 rfl rfl ?_
    refine rx_get_th d_m_remove_29 rfl f_m_26 ?_
    refine rs_if_ne (tgt := 43) d_m_remove_32 rfl (by decide) (fun hc => absurd (rfl) hc) (fun _ => ?_)
    refine rs_iload_n d_m_remove_35 rfl rfl ?_
    refine rs_if_eq (tgt := 43) d_m_remove_36 rfl (by decide) (fun _ => ?_) (fun hc => absurd (rfl) hc)
    refine rs_iconst (v := 0) d_m_remove_43 rfl (by decide) ?_
    exact rs_zreturn d_m_remove_44 rfl rfl ⟨rfl, rfl, rfl⟩
  · rw [e1]
    refine rs_if_eq (tgt := 19) d_m_remove_12 rfl (by decide) (fun hc => absurd hc (by decide)) (fun _ => ?_)
    refine rs_iconst (v := 1) d_m_remove_15 rfl (by decide) ?_
    refine rs_goto (tgt := 20) d_m_remove_16 (by decide) ?_
    refine rs_istore_n d_m_remove_20 rfl (by decide) rfl ?_
    refine rs_aload_n d_m_remove_21 rfl rfl ?_
    refine rs_iload_n d_m_remove_22 rfl rfl ?_
    refine rs_iconst (v := 0) d_m_remove_23 rfl (by decide) ?_
    refine rs_iconst (v := 2) d_m_remove_24 rfl (by decide) ?_
    refine rx_cV d_m_remove_25 rfl c_m_86 (by exact np_m_enter) rm_o (hE) (by decide) ⟨rfl, rfl⟩ (Nat.le_of_ble_eq_true rfl) rfl ?_
    refine rs_aload_n d_m_remove_28 rfl rfl ?_
    refine rx_get_th d_m_remove_29 rfl f_m_26 ?_
    refine rs_if_ne (tgt := 43) d_m_remove_32 rfl (by decide) (fun hc => absurd (rfl) hc) (fun _ => ?_)
    refine rs_iload_n d_m_remove_35 rfl rfl ?_
    refine rs_if_eq (tgt := 43) d_m_remove_36 rfl (by decide) (fun hc => absurd hc (by decide)) (fun _ => ?_)
    refine rs_iconst (v := 1) d_m_remove_39 rfl (by decide) ?_
    refine rs_goto (tgt := 44) d_m_remove_40 (by decide) ?_
    exact rs_zreturn d_m_remove_44 rfl rfl ⟨rfl, rfl, rfl⟩
def rm_vz (S T : Nat → Nat → Int32) (mn key : Nat) : Int32 := match rm_nw S mn key with
  | some j => T j key
  | none => 0
set_option maxRecDepth 100000 in
theorem k_m_get_bad {G : rsG} {n : Nat} {S T : Nat → Nat → Int32} {lv : Nat → Nat} {th mm iu bd : Int32} {mn : Nat} {av : Int32} {hf : rsH} {x : Int32} (hx : x < 0 ∨ ¬ x < 100) : rsK G M_m_get (rmO 2 44) [.ref (rsB G + 46), .int x] (rmd G S T lv th mm iu bd mn av hf) n (rsOk (some (.int 0)) (rmd G S T lv 1 mm iu bd mn av hf) n) := by
  refine rsK_of pf_m_get rfl (Nat.le_of_ble_eq_true rfl) rfl ?_
  refine rs_aload_n d_m_get_0 rfl rfl ?_
  refine rs_iload_n d_m_get_1 rfl rfl ?_
  refine rx_cS d_m_get_2 rfl c_m_80 (by exact np_m_isKey) (k_m_isKey_no hx) (by decide) ⟨rfl, rfl⟩ (Nat.le_of_ble_eq_true rfl) rfl ?_
  refine rs_if_ne (tgt := 12) d_m_get_5 rfl (by decide) (fun hc => absurd (rfl) hc) (fun _ => ?_)
  refine rs_iconst (v := 1) d_m_get_8 rfl (by decide) ?_
  refine rs_goto (tgt := 36) d_m_get_9 (by decide) ?_
  refine rx_put_th d_m_get_36 rfl p_m_26 ?_
  refine rs_aload_n d_m_get_39 rfl rfl ?_
  refine rx_get_th d_m_get_40 rfl f_m_26 ?_
  refine rs_if_ne (tgt := 64) d_m_get_43 rfl (by decide) (fun _ => ?_) (fun hc => absurd hc (by decide))
  refine rs_iconst (v := 0) d_m_get_64 rfl (by decide) ?_
  exact rs_ireturn d_m_get_65 rfl ⟨rfl, rfl, rfl⟩
set_option maxRecDepth 100000 in
theorem k_m_get_down {G : rsG} {n : Nat} {S T : Nat → Nat → Int32} {lv : Nat → Nat} {th mm iu bd : Int32} {mn : Nat} {av : Int32} {hf : rsH} {key : Nat} (hk : key < 100) (hu : iu = 0) : rsK G M_m_get (rmO 2 44) [.ref (rsB G + 46), .int (nI key)] (rmd G S T lv th mm iu bd mn av hf) n (rsOk (some (.int 0)) (rmd G S T lv 2 mm iu bd mn av hf) n) := by
  refine rsK_of pf_m_get rfl (Nat.le_of_ble_eq_true rfl) rfl ?_
  refine rs_aload_n d_m_get_0 rfl rfl ?_
  refine rs_iload_n d_m_get_1 rfl rfl ?_
  refine rx_cS d_m_get_2 rfl c_m_80 (by exact np_m_isKey) (k_m_isKey_yes hk) (by decide) ⟨rfl, rfl⟩ (Nat.le_of_ble_eq_true rfl) rfl ?_
  refine rs_if_ne (tgt := 12) d_m_get_5 rfl (by decide) (fun _ => ?_) (fun hc => absurd hc (by decide))
  refine rs_aload_n d_m_get_12 rfl rfl ?_
  refine rx_get_iu d_m_get_13 rfl f_m_42 ?_
  refine rs_if_ne (tgt := 23) d_m_get_16 rfl (by decide) (fun hc => absurd (hu) hc) (fun _ => ?_)
  refine rs_iconst (v := 2) d_m_get_19 rfl (by decide) ?_
  refine rs_goto (tgt := 36) d_m_get_20 (by decide) ?_
  refine rx_put_th d_m_get_36 rfl p_m_26 ?_
  refine rs_aload_n d_m_get_39 rfl rfl ?_
  refine rx_get_th d_m_get_40 rfl f_m_26 ?_
  refine rs_if_ne (tgt := 64) d_m_get_43 rfl (by decide) (fun _ => ?_) (fun hc => absurd hc (by decide))
  refine rs_iconst (v := 0) d_m_get_64 rfl (by decide) ?_
  exact rs_ireturn d_m_get_65 rfl ⟨rfl, rfl, rfl⟩
set_option maxRecDepth 100000 in
theorem k_m_get_no {G : rsG} {n : Nat} {S T : Nat → Nat → Int32} {lv : Nat → Nat} {th mm iu bd : Int32} {mn : Nat} {av : Int32} {hf : rsH} {key : Nat} (hk : key < 100) (hu : ¬ iu = 0) (hm : mn ≤ 12) (hn : rm_th S mn key = 0) : rsK G M_m_get (rmO 2 44) [.ref (rsB G + 46), .int (nI key)] (rmd G S T lv th mm iu bd mn av hf) n (rsOk (some (.int 0)) (rmd G S T lv 3 mm iu bd mn av hf) n) := by
  refine rsK_of pf_m_get rfl (Nat.le_of_ble_eq_true rfl) rfl ?_
  refine rs_aload_n d_m_get_0 rfl rfl ?_
  refine rs_iload_n d_m_get_1 rfl rfl ?_
  refine rx_cS d_m_get_2 rfl c_m_80 (by exact np_m_isKey) (k_m_isKey_yes hk) (by decide) ⟨rfl, rfl⟩ (Nat.le_of_ble_eq_true rfl) rfl ?_
  refine rs_if_ne (tgt := 12) d_m_get_5 rfl (by decide) (fun _ => ?_) (fun hc => absurd hc (by decide))
  refine rs_aload_n d_m_get_12 rfl rfl ?_
  refine rx_get_iu d_m_get_13 rfl f_m_42 ?_
  refine rs_if_ne (tgt := 23) d_m_get_16 rfl (by decide) (fun _ => ?_) (fun hc => absurd hc (hu))
  refine rs_aload_n d_m_get_23 rfl rfl ?_
  refine rs_iload_n d_m_get_24 rfl rfl ?_
  refine rx_cV d_m_get_25 rfl c_m_90 (by exact np_m_isThere) rm_o (k_m_isThere hk hm) (by decide) ⟨rfl, rfl⟩ (Nat.le_of_ble_eq_true rfl) rfl ?_
  rw [hn]
  refine rs_if_ne (tgt := 35) d_m_get_28 rfl (by decide) (fun hc => absurd (rfl) hc) (fun _ => ?_)
  refine rs_iconst (v := 3) d_m_get_31 rfl (by decide) ?_
  refine rs_goto (tgt := 36) d_m_get_32 (by decide) ?_
  refine rx_put_th d_m_get_36 rfl p_m_26 ?_
  refine rs_aload_n d_m_get_39 rfl rfl ?_
  refine rx_get_th d_m_get_40 rfl f_m_26 ?_
  refine rs_if_ne (tgt := 64) d_m_get_43 rfl (by decide) (fun _ => ?_) (fun hc => absurd hc (by decide))
  refine rs_iconst (v := 0) d_m_get_64 rfl (by decide) ?_
  exact rs_ireturn d_m_get_65 rfl ⟨rfl, rfl, rfl⟩
set_option maxRecDepth 100000 in
theorem k_m_get_ok {G : rsG} {n : Nat} {S T : Nat → Nat → Int32} {lv : Nat → Nat} {th mm iu bd : Int32} {mn : Nat} {av : Int32} {hf : rsH} {key : Nat} (hk : key < 100) (hu : ¬ iu = 0) (hm : mn ≤ 12) (hn : ¬ rm_th S mn key = 0) : rsK G M_m_get (rmO 2 44) [.ref (rsB G + 46), .int (nI key)] (rmd G S T lv th mm iu bd mn av hf) n (rsOk (some (.int (rm_vz S T mn key))) (rmd G S T lv 0 mm iu bd mn av hf) n) := by
  refine rsK_of pf_m_get rfl (Nat.le_of_ble_eq_true rfl) rfl ?_
  refine rs_aload_n d_m_get_0 rfl rfl ?_
  refine rs_iload_n d_m_get_1 rfl rfl ?_
  refine rx_cS d_m_get_2 rfl c_m_80 (by exact np_m_isKey) (k_m_isKey_yes hk) (by decide) ⟨rfl, rfl⟩ (Nat.le_of_ble_eq_true rfl) rfl ?_
  refine rs_if_ne (tgt := 12) d_m_get_5 rfl (by decide) (fun _ => ?_) (fun hc => absurd hc (by decide))
  refine rs_aload_n d_m_get_12 rfl rfl ?_
  refine rx_get_iu d_m_get_13 rfl f_m_42 ?_
  refine rs_if_ne (tgt := 23) d_m_get_16 rfl (by decide) (fun _ => ?_) (fun hc => absurd hc (hu))
  refine rs_aload_n d_m_get_23 rfl rfl ?_
  refine rs_iload_n d_m_get_24 rfl rfl ?_
  refine rx_cV d_m_get_25 rfl c_m_90 (by exact np_m_isThere) rm_o (k_m_isThere hk hm) (by decide) ⟨rfl, rfl⟩ (Nat.le_of_ble_eq_true rfl) rfl ?_
  refine rs_if_ne (tgt := 35) d_m_get_28 rfl (by decide) (fun _ => ?_) (fun hc => absurd hc (hn))
  refine rs_iconst (v := 0) d_m_get_35 rfl (by decide) ?_
  refine rx_put_th d_m_get_36 rfl p_m_26 ?_
  refine rs_aload_n d_m_get_39 rfl rfl ?_
  refine rx_get_th d_m_get_40 rfl f_m_26 ?_
  refine rs_if_ne (tgt := 64) d_m_get_43 rfl (by decide) (fun hc => absurd (rfl) hc) (fun _ => ?_)
  refine rs_aload_n d_m_get_46 rfl rfl ?_
  refine rx_get_vs d_m_get_47 rfl f_m_20 ?_
  refine rs_bipush (v := (nI 100)) d_m_get_50 rfl (by decide) ?_
  refine rs_aload_n d_m_get_52 rfl rfl ?_
  refine rs_iload_n d_m_get_53 rfl rfl ?_
  refine rx_cV d_m_get_54 rfl c_m_39 (by exact np_m_newest) rm_o (k_m_newest hk hm) (by decide) ⟨rfl, rfl⟩ (Nat.le_of_ble_eq_true rfl) rfl ?_
  unfold rm_vz
  cases hw : rm_nw S mn key with
  | none => exact absurd (by unfold rm_th; rw [hw]) hn
  | some j =>
    have hj := rm_nw_le hm hw
    have hj14 : j < 14 := by omega
    refine rs_imul d_m_get_57 rfl ?_
    refine rs_iload_n d_m_get_58 rfl rfl ?_
    refine rs_iadd d_m_get_59 rfl ?_
    refine rs_pix (rm_ix j key) ?_
    refine ry_ld_v (by first | assumption | omega) (by first | assumption | omega) d_m_get_60 rfl ?_
    refine rs_goto (tgt := 65) d_m_get_61 (by decide) ?_
    exact rs_ireturn d_m_get_65 rfl ⟨rfl, rfl, rfl⟩
set_option maxRecDepth 100000 in
theorem k_m_has_bad {G : rsG} {n : Nat} {S T : Nat → Nat → Int32} {lv : Nat → Nat} {th mm iu bd : Int32} {mn : Nat} {av : Int32} {hf : rsH} {x : Int32} (hx : x < 0 ∨ ¬ x < 100) : rsK G M_m_has (rmO 2 44) [.ref (rsB G + 46), .int x] (rmd G S T lv th mm iu bd mn av hf) n (rsOk (some (.int 0)) (rmd G S T lv 1 mm iu bd mn av hf) n) := by
  refine rsK_of pf_m_has rfl (Nat.le_of_ble_eq_true rfl) rfl ?_
  refine rs_aload_n d_m_has_0 rfl rfl ?_
  refine rs_iload_n d_m_has_1 rfl rfl ?_
  refine rx_cS d_m_has_2 rfl c_m_80 (by exact np_m_isKey) (k_m_isKey_no hx) (by decide) ⟨rfl, rfl⟩ (Nat.le_of_ble_eq_true rfl) rfl ?_
  refine rs_if_ne (tgt := 12) d_m_has_5 rfl (by decide) (fun hc => absurd (rfl) hc) (fun _ => ?_)
  refine rs_iconst (v := 1) d_m_has_8 rfl (by decide) ?_
  refine rs_goto (tgt := 24) d_m_has_9 (by decide) ?_
  refine rx_put_th d_m_has_24 rfl p_m_26 ?_
  refine rs_aload_n d_m_has_27 rfl rfl ?_
  refine rx_get_th d_m_has_28 rfl f_m_26 ?_
  refine rs_if_ne (tgt := 46) d_m_has_31 rfl (by decide) (fun _ => ?_) (fun hc => absurd hc (by decide))
  refine rs_iconst (v := 0) d_m_has_46 rfl (by decide) ?_
  exact rs_zreturn d_m_has_47 rfl rfl ⟨rfl, rfl, rfl⟩
set_option maxRecDepth 100000 in
theorem k_m_has_down {G : rsG} {n : Nat} {S T : Nat → Nat → Int32} {lv : Nat → Nat} {th mm iu bd : Int32} {mn : Nat} {av : Int32} {hf : rsH} {key : Nat} (hk : key < 100) (hu : iu = 0) : rsK G M_m_has (rmO 2 44) [.ref (rsB G + 46), .int (nI key)] (rmd G S T lv th mm iu bd mn av hf) n (rsOk (some (.int 0)) (rmd G S T lv 2 mm iu bd mn av hf) n) := by
  refine rsK_of pf_m_has rfl (Nat.le_of_ble_eq_true rfl) rfl ?_
  refine rs_aload_n d_m_has_0 rfl rfl ?_
  refine rs_iload_n d_m_has_1 rfl rfl ?_
  refine rx_cS d_m_has_2 rfl c_m_80 (by exact np_m_isKey) (k_m_isKey_yes hk) (by decide) ⟨rfl, rfl⟩ (Nat.le_of_ble_eq_true rfl) rfl ?_
  refine rs_if_ne (tgt := 12) d_m_has_5 rfl (by decide) (fun _ => ?_) (fun hc => absurd hc (by decide))
  refine rs_aload_n d_m_has_12 rfl rfl ?_
  refine rx_get_iu d_m_has_13 rfl f_m_42 ?_
  refine rs_if_ne (tgt := 23) d_m_has_16 rfl (by decide) (fun hc => absurd (hu) hc) (fun _ => ?_)
  refine rs_iconst (v := 2) d_m_has_19 rfl (by decide) ?_
  refine rs_goto (tgt := 24) d_m_has_20 (by decide) ?_
  refine rx_put_th d_m_has_24 rfl p_m_26 ?_
  refine rs_aload_n d_m_has_27 rfl rfl ?_
  refine rx_get_th d_m_has_28 rfl f_m_26 ?_
  refine rs_if_ne (tgt := 46) d_m_has_31 rfl (by decide) (fun _ => ?_) (fun hc => absurd hc (by decide))
  refine rs_iconst (v := 0) d_m_has_46 rfl (by decide) ?_
  exact rs_zreturn d_m_has_47 rfl rfl ⟨rfl, rfl, rfl⟩
set_option maxRecDepth 100000 in
theorem k_m_has_ok {G : rsG} {n : Nat} {S T : Nat → Nat → Int32} {lv : Nat → Nat} {th mm iu bd : Int32} {mn : Nat} {av : Int32} {hf : rsH} {key : Nat} (hk : key < 100) (hu : ¬ iu = 0) (hm : mn ≤ 12) : rsK G M_m_has (rmO 2 44) [.ref (rsB G + 46), .int (nI key)] (rmd G S T lv th mm iu bd mn av hf) n (rsOk (some (.int (rm_th S mn key))) (rmd G S T lv 0 mm iu bd mn av hf) n) := by
  refine rsK_of pf_m_has rfl (Nat.le_of_ble_eq_true rfl) rfl ?_
  refine rs_aload_n d_m_has_0 rfl rfl ?_
  refine rs_iload_n d_m_has_1 rfl rfl ?_
  refine rx_cS d_m_has_2 rfl c_m_80 (by exact np_m_isKey) (k_m_isKey_yes hk) (by decide) ⟨rfl, rfl⟩ (Nat.le_of_ble_eq_true rfl) rfl ?_
  refine rs_if_ne (tgt := 12) d_m_has_5 rfl (by decide) (fun _ => ?_) (fun hc => absurd hc (by decide))
  refine rs_aload_n d_m_has_12 rfl rfl ?_
  refine rx_get_iu d_m_has_13 rfl f_m_42 ?_
  refine rs_if_ne (tgt := 23) d_m_has_16 rfl (by decide) (fun _ => ?_) (fun hc => absurd hc (hu))
  refine rs_iconst (v := 0) d_m_has_23 rfl (by decide) ?_
  refine rx_put_th d_m_has_24 rfl p_m_26 ?_
  refine rs_aload_n d_m_has_27 rfl rfl ?_
  refine rx_get_th d_m_has_28 rfl f_m_26 ?_
  refine rs_if_ne (tgt := 46) d_m_has_31 rfl (by decide) (fun hc => absurd (rfl) hc) (fun _ => ?_)
  refine rs_aload_n d_m_has_34 rfl rfl ?_
  refine rs_iload_n d_m_has_35 rfl rfl ?_
  refine rx_cV d_m_has_36 rfl c_m_90 (by exact np_m_isThere) rm_o (k_m_isThere hk hm) (by decide) ⟨rfl, rfl⟩ (Nat.le_of_ble_eq_true rfl) rfl ?_
  rcases rm_th01 S mn key with e1 | e1
  · rw [e1]
    refine rs_if_eq (tgt := 46) d_m_has_39 rfl (by decide) (fun _ => ?_) (fun hc => absurd (rfl) hc)
    refine rs_iconst (v := 0) d_m_has_46 rfl (by decide) ?_
    exact rs_zreturn d_m_has_47 rfl rfl ⟨rfl, rfl, rfl⟩
  · rw [e1]
    refine rs_if_eq (tgt := 46) d_m_has_39 rfl (by decide) (fun hc => absurd hc (by decide)) (fun _ => ?_)
    refine rs_iconst (v := 1) d_m_has_42 rfl (by decide) ?_
    refine rs_goto (tgt := 47) d_m_has_43 (by decide) ?_
    exact rs_zreturn d_m_has_47 rfl rfl ⟨rfl, rfl, rfl⟩
set_option maxRecDepth 100000 in
theorem k_m_flush_down {G : rsG} {n : Nat} {S T : Nat → Nat → Int32} {lv : Nat → Nat} {th mm iu bd : Int32} {mn : Nat} {av : Int32} {hf : rsH} (hu : iu = 0) : rsK G M_m_flush (rmO 4 84) [.ref (rsB G + 46)] (rmd G S T lv th mm iu bd mn av hf) n (rsOk (some (.int 0)) (rmd G S T lv 1 mm iu bd mn av hf) n) := by
  refine rsK_of pf_m_flush rfl (Nat.le_of_ble_eq_true rfl) rfl ?_
  refine rs_aload_n d_m_flush_0 rfl rfl ?_
  refine rs_bipush (v := (nI 12)) d_m_flush_1 rfl (by decide) ?_
  refine rx_cV d_m_flush_3 rfl c_m_32 (by exact np_m_sizeOf) rm_o (k_m_sizeOf (by decide)) (by decide) ⟨rfl, rfl⟩ (Nat.le_of_ble_eq_true rfl) rfl ?_
  refine rs_istore_n d_m_flush_6 rfl (by decide) rfl ?_
  refine rs_aload_n d_m_flush_7 rfl rfl ?_
  refine rs_aload_n d_m_flush_8 rfl rfl ?_
  refine rx_get_iu d_m_flush_9 rfl f_m_42 ?_
  refine rs_if_eq (tgt := 22) d_m_flush_12 rfl (by decide) (fun _ => ?_) (fun hc => absurd (hu) hc)
  refine rs_iconst (v := 1) d_m_flush_22 rfl (by decide) ?_
  refine rx_put_th d_m_flush_23 rfl p_m_26 ?_
  refine rs_aload_n d_m_flush_26 rfl rfl ?_
  refine rx_get_th d_m_flush_27 rfl f_m_26 ?_
  refine rs_if_eq (tgt := 35) d_m_flush_30 rfl (by decide) (fun hc => absurd hc (by decide)) (fun _ => ?_)
  refine rs_iconst (v := 0) d_m_flush_33 rfl (by decide) ?_
  exact rs_ireturn d_m_flush_34 rfl ⟨rfl, rfl, rfl⟩
set_option maxRecDepth 100000 in
theorem k_m_flush_ok {G : rsG} {n : Nat} {S T S2 T2 : Nat → Nat → Int32} {lv lv2 : Nat → Nat} {th mm iu bd th2 mm2 iu2 bd2 : Int32} {mn mn2 : Nat} {av av2 : Int32} {hf : rsH} (hu : ¬ iu = 0) (hF : rsK G M_m_flushed (rmO 3 63) [.ref (rsB G + 46)] (rmd G S T lv th mm iu bd mn av hf) n (rsOk (some (.int 0)) (rmd G S2 T2 lv2 th2 mm2 iu2 bd2 mn2 av2 hf) n)) : rsK G M_m_flush (rmO 4 84) [.ref (rsB G + 46)] (rmd G S T lv th mm iu bd mn av hf) n (rsOk (some (.int (nI (rm_sz S 12)))) (rmd G S2 T2 lv2 0 mm2 iu2 bd2 mn2 (-1) hf) n) := by
  refine rsK_of pf_m_flush rfl (Nat.le_of_ble_eq_true rfl) rfl ?_
  refine rs_aload_n d_m_flush_0 rfl rfl ?_
  refine rs_bipush (v := (nI 12)) d_m_flush_1 rfl (by decide) ?_
  refine rx_cV d_m_flush_3 rfl c_m_32 (by exact np_m_sizeOf) rm_o (k_m_sizeOf (by decide)) (by decide) ⟨rfl, rfl⟩ (Nat.le_of_ble_eq_true rfl) rfl ?_
  refine rs_istore_n d_m_flush_6 rfl (by decide) rfl ?_
  refine rs_aload_n d_m_flush_7 rfl rfl ?_
  refine rs_aload_n d_m_flush_8 rfl rfl ?_
  refine rx_get_iu d_m_flush_9 rfl f_m_42 ?_
  refine rs_if_eq (tgt := 22) d_m_flush_12 rfl (by decide) (fun hc => absurd hc (hu)) (fun _ => ?_)
  refine rs_aload_n d_m_flush_15 rfl rfl ?_
  refine rx_cV d_m_flush_16 rfl c_m_83 (by exact np_m_flushed) rm_o (hF) (by decide) ⟨rfl, rfl⟩ (Nat.le_of_ble_eq_true rfl) rfl ?_
  refine rs_goto (tgt := 23) d_m_flush_19 (by decide) ?_
  refine rx_put_th d_m_flush_23 rfl p_m_26 ?_
  refine rs_aload_n d_m_flush_26 rfl rfl ?_
  refine rx_get_th d_m_flush_27 rfl f_m_26 ?_
  refine rs_if_eq (tgt := 35) d_m_flush_30 rfl (by decide) (fun _ => ?_) (fun hc => absurd (rfl) hc)
  refine rs_aload_n d_m_flush_35 rfl rfl ?_
  refine rs_iconst (v := (-1)) d_m_flush_36 rfl (by decide) ?_
  refine rx_put_at d_m_flush_37 rfl p_m_23 ?_
  refine rs_iload_n d_m_flush_40 rfl rfl ?_
  exact rs_ireturn d_m_flush_41 rfl ⟨rfl, rfl, rfl⟩
set_option maxRecDepth 100000 in
theorem k_m_flush_th {G : rsG} {n : Nat} {S T S2 T2 : Nat → Nat → Int32} {lv lv2 : Nat → Nat} {th mm iu bd th2 mm2 iu2 bd2 : Int32} {mn mn2 : Nat} {av av2 : Int32} {hf : rsH} (hu : ¬ iu = 0) {x : Int32} (hx : ¬ x = 0) (hF : rsK G M_m_flushed (rmO 3 63) [.ref (rsB G + 46)] (rmd G S T lv th mm iu bd mn av hf) n (rsOk (some (.int x)) (rmd G S2 T2 lv2 th2 mm2 iu2 bd2 mn2 av2 hf) n)) : rsK G M_m_flush (rmO 4 84) [.ref (rsB G + 46)] (rmd G S T lv th mm iu bd mn av hf) n (rsOk (some (.int 0)) (rmd G S2 T2 lv2 x mm2 iu2 bd2 mn2 av2 hf) n) := by
  refine rsK_of pf_m_flush rfl (Nat.le_of_ble_eq_true rfl) rfl ?_
  refine rs_aload_n d_m_flush_0 rfl rfl ?_
  refine rs_bipush (v := (nI 12)) d_m_flush_1 rfl (by decide) ?_
  refine rx_cV d_m_flush_3 rfl c_m_32 (by exact np_m_sizeOf) rm_o (k_m_sizeOf (by decide)) (by decide) ⟨rfl, rfl⟩ (Nat.le_of_ble_eq_true rfl) rfl ?_
  refine rs_istore_n d_m_flush_6 rfl (by decide) rfl ?_
  refine rs_aload_n d_m_flush_7 rfl rfl ?_
  refine rs_aload_n d_m_flush_8 rfl rfl ?_
  refine rx_get_iu d_m_flush_9 rfl f_m_42 ?_
  refine rs_if_eq (tgt := 22) d_m_flush_12 rfl (by decide) (fun hc => absurd hc (hu)) (fun _ => ?_)
  refine rs_aload_n d_m_flush_15 rfl rfl ?_
  refine rx_cV d_m_flush_16 rfl c_m_83 (by exact np_m_flushed) rm_o (hF) (by decide) ⟨rfl, rfl⟩ (Nat.le_of_ble_eq_true rfl) rfl ?_
  refine rs_goto (tgt := 23) d_m_flush_19 (by decide) ?_
  refine rx_put_th d_m_flush_23 rfl p_m_26 ?_
  refine rs_aload_n d_m_flush_26 rfl rfl ?_
  refine rx_get_th d_m_flush_27 rfl f_m_26 ?_
  refine rs_if_eq (tgt := 35) d_m_flush_30 rfl (by decide) (fun hc => absurd hc (hx)) (fun _ => ?_)
  refine rs_iconst (v := 0) d_m_flush_33 rfl (by decide) ?_
  exact rs_ireturn d_m_flush_34 rfl ⟨rfl, rfl, rfl⟩
set_option maxRecDepth 100000 in
theorem k_m_compact_down {G : rsG} {n : Nat} {S T : Nat → Nat → Int32} {lv : Nat → Nat} {th mm iu bd : Int32} {mn : Nat} {av : Int32} {hf : rsH} (hu : iu = 0) : rsK G M_m_compact (rmO 4 88) [.ref (rsB G + 46)] (rmd G S T lv th mm iu bd mn av hf) n (rsOk (some (.int 0)) (rmd G S T lv 1 mm iu bd mn av hf) n) := by
  refine rsK_of pf_m_compact rfl (Nat.le_of_ble_eq_true rfl) rfl ?_
  refine rs_aload_n d_m_compact_0 rfl rfl ?_
  refine rs_aload_n d_m_compact_1 rfl rfl ?_
  refine rx_get_iu d_m_compact_2 rfl f_m_42 ?_
  refine rs_if_eq (tgt := 12) d_m_compact_5 rfl (by decide) (fun _ => ?_) (fun hc => absurd (hu) hc)
  refine rs_iconst (v := 1) d_m_compact_12 rfl (by decide) ?_
  refine rx_put_th d_m_compact_13 rfl p_m_26 ?_
  refine rs_aload_n d_m_compact_16 rfl rfl ?_
  refine rx_get_th d_m_compact_17 rfl f_m_26 ?_
  refine rs_if_eq (tgt := 25) d_m_compact_20 rfl (by decide) (fun hc => absurd hc (by decide)) (fun _ => ?_)
  refine rs_iconst (v := 0) d_m_compact_23 rfl (by decide) ?_
  exact rs_ireturn d_m_compact_24 rfl ⟨rfl, rfl, rfl⟩
set_option maxRecDepth 100000 in
theorem k_m_compact_none {G : rsG} {n : Nat} {S T : Nat → Nat → Int32} {lv : Nat → Nat} {th mm iu bd : Int32} {mn : Nat} {av : Int32} {hf : rsH} (hu : ¬ iu = 0) (hm : mn ≤ 12) (h0 : ∀ i, i < 3 → rp_cnt (fun q => decide (nI (lv q) = nI i)) mn ≤ 3) : rsK G M_m_compact (rmO 4 88) [.ref (rsB G + 46)] (rmd G S T lv th mm iu bd mn av hf) n (rsOk (some (.int (-1))) (rmd G S T lv 0 mm iu bd mn (-1) hf) n) := by
  have loop : ∀ (d i : Nat), i + d = 3 → rsV G M_m_compact (rmO 4 88) (rsOk (some (.int (-1))) (rmd G S T lv 0 mm iu bd mn (-1) hf) n) 0 0 27 [some (.ref (rsB G + 46)), some (.int (nI i))] [] (rmd G S T lv 0 mm iu bd mn av hf) n := by
    intro d
    induction d with
    | zero =>
      intro i hi
      obtain rfl : i = 3 := by omega
      refine rs_iload_n d_m_compact_27 rfl rfl ?_
      refine rs_iconst (v := (nI 3)) d_m_compact_28 rfl (by decide) ?_
      refine rs_icmp_ge (tgt := 47) d_m_compact_29 rfl (by decide) (fun _ => ?_) (fun hc => absurd (nI_le (by omega) (by omega)) hc)
      refine rs_aload_n d_m_compact_47 rfl rfl ?_
      refine rs_iload_n d_m_compact_48 rfl rfl ?_
      refine rs_iconst (v := (nI 3)) d_m_compact_49 rfl (by decide) ?_
      refine rs_icmp_ge (tgt := 61) d_m_compact_50 rfl (by decide) (fun _ => ?_) (fun hc => absurd (nI_le (by omega) (by omega)) hc)
      refine rs_iconst (v := 0) d_m_compact_61 rfl (by decide) ?_
      refine rx_put_th d_m_compact_62 rfl p_m_26 ?_
      refine rs_aload_n d_m_compact_65 rfl rfl ?_
      refine rx_get_th d_m_compact_66 rfl f_m_26 ?_
      refine rs_if_eq (tgt := 74) d_m_compact_69 rfl (by decide) (fun _ => ?_) (fun hc => absurd (rfl) hc)
      refine rs_aload_n d_m_compact_74 rfl rfl ?_
      refine rs_iconst (v := (-1)) d_m_compact_75 rfl (by decide) ?_
      refine rx_put_at d_m_compact_76 rfl p_m_23 ?_
      refine rs_iload_n d_m_compact_79 rfl rfl ?_
      refine rs_iconst (v := (nI 3)) d_m_compact_80 rfl (by decide) ?_
      refine rs_icmp_ge (tgt := 88) d_m_compact_81 rfl (by decide) (fun _ => ?_) (fun hc => absurd (nI_le (by omega) (by omega)) hc)
      refine rs_iconst (v := (-1)) d_m_compact_88 rfl (by decide) ?_
      exact rs_ireturn d_m_compact_89 rfl ⟨rfl, rfl, rfl⟩
    | succ d ih =>
      intro i hi
      refine rs_iload_n d_m_compact_27 rfl rfl ?_
      refine rs_iconst (v := (nI 3)) d_m_compact_28 rfl (by decide) ?_
      refine rs_icmp_ge (tgt := 47) d_m_compact_29 rfl (by decide) (fun hc => absurd hc (nI_ge (by omega) (by omega))) (fun _ => ?_)
      refine rs_aload_n d_m_compact_32 rfl rfl ?_
      refine rs_iload_n d_m_compact_33 rfl rfl ?_
      refine rx_cV d_m_compact_34 rfl c_m_71 (by exact np_m_runsOf) rm_o (k_m_runsOf hm) (by decide) ⟨rfl, rfl⟩ (Nat.le_of_ble_eq_true rfl) rfl ?_
      refine rs_iconst (v := (nI 3)) d_m_compact_37 rfl (by decide) ?_
      refine rs_icmp_gt (tgt := 47) d_m_compact_38 rfl (by decide) (fun hc => absurd hc (Int32.not_lt.mpr (nI_le (h0 i (by omega)) (by omega)))) (fun _ => ?_)
      refine rs_iinc d_m_compact_41 rfl (by decide) rfl (rs_inc1 i) rfl ?_
      refine rs_goto (tgt := 27) d_m_compact_44 (by decide) ?_
      exact ih (i + 1) (by omega)
  refine rsK_of pf_m_compact rfl (Nat.le_of_ble_eq_true rfl) rfl ?_
  refine rs_aload_n d_m_compact_0 rfl rfl ?_
  refine rs_aload_n d_m_compact_1 rfl rfl ?_
  refine rx_get_iu d_m_compact_2 rfl f_m_42 ?_
  refine rs_if_eq (tgt := 12) d_m_compact_5 rfl (by decide) (fun hc => absurd hc (hu)) (fun _ => ?_)
  refine rs_iconst (v := 0) d_m_compact_8 rfl (by decide) ?_
  refine rs_goto (tgt := 13) d_m_compact_9 (by decide) ?_
  refine rx_put_th d_m_compact_13 rfl p_m_26 ?_
  refine rs_aload_n d_m_compact_16 rfl rfl ?_
  refine rx_get_th d_m_compact_17 rfl f_m_26 ?_
  refine rs_if_eq (tgt := 25) d_m_compact_20 rfl (by decide) (fun _ => ?_) (fun hc => absurd (rfl) hc)
  refine rs_iconst (v := (nI 0)) d_m_compact_25 rfl (by decide) ?_
  refine rs_istore_n d_m_compact_26 rfl (by decide) rfl ?_
  exact loop (3) 0 (by omega)
set_option maxRecDepth 100000 in
theorem k_m_compact_ok {G : rsG} {n : Nat} {S T S2 T2 : Nat → Nat → Int32} {lv lv2 : Nat → Nat} {th mm iu bd th2 mm2 iu2 bd2 : Int32} {mn mn2 : Nat} {av av2 : Int32} {hf : rsH} (hu : ¬ iu = 0) (hm : mn ≤ 12) {ll : Nat} (hl : ll < 3) (h0 : ∀ i, i < ll → rp_cnt (fun q => decide (nI (lv q) = nI i)) mn ≤ 3) (h1 : 3 < rp_cnt (fun i => decide (nI (lv i) = nI ll)) mn) (hM : rsK G M_m_merged (rmO 3 63) [.ref (rsB G + 46), .int (nI ll)] (rmd G S T lv 0 mm iu bd mn av hf) n (rsOk (some (.int 0)) (rmd G S2 T2 lv2 th2 mm2 iu2 bd2 mn2 av2 hf) n)) : rsK G M_m_compact (rmO 4 88) [.ref (rsB G + 46)] (rmd G S T lv th mm iu bd mn av hf) n (rsOk (some (.int (nI ll))) (rmd G S2 T2 lv2 0 mm2 iu2 bd2 mn2 (-1) hf) n) := by
  have loop : ∀ (d i : Nat), i + d = ll → rsV G M_m_compact (rmO 4 88) (rsOk (some (.int (nI ll))) (rmd G S2 T2 lv2 0 mm2 iu2 bd2 mn2 (-1) hf) n) 0 0 27 [some (.ref (rsB G + 46)), some (.int (nI i))] [] (rmd G S T lv 0 mm iu bd mn av hf) n := by
    intro d
    induction d with
    | zero =>
      intro i hi
      obtain rfl : i = ll := by omega
      refine rs_iload_n d_m_compact_27 rfl rfl ?_
      refine rs_iconst (v := (nI 3)) d_m_compact_28 rfl (by decide) ?_
      refine rs_icmp_ge (tgt := 47) d_m_compact_29 rfl (by decide) (fun hc => absurd hc (nI_ge (by omega) (by omega))) (fun _ => ?_)
      refine rs_aload_n d_m_compact_32 rfl rfl ?_
      refine rs_iload_n d_m_compact_33 rfl rfl ?_
      refine rx_cV d_m_compact_34 rfl c_m_71 (by exact np_m_runsOf) rm_o (k_m_runsOf hm) (by decide) ⟨rfl, rfl⟩ (Nat.le_of_ble_eq_true rfl) rfl ?_
      refine rs_iconst (v := (nI 3)) d_m_compact_37 rfl (by decide) ?_
      refine rs_icmp_gt (tgt := 47) d_m_compact_38 rfl (by decide) (fun _ => ?_) (fun hc => absurd (nI_lt h1 (Nat.lt_of_le_of_lt (rp_cnt_bd _ _) (by omega))) hc)
      refine rs_aload_n d_m_compact_47 rfl rfl ?_
      refine rs_iload_n d_m_compact_48 rfl rfl ?_
      refine rs_iconst (v := (nI 3)) d_m_compact_49 rfl (by decide) ?_
      refine rs_icmp_ge (tgt := 61) d_m_compact_50 rfl (by decide) (fun hc => absurd hc (nI_ge (by omega) (by omega))) (fun _ => ?_)
      refine rs_aload_n d_m_compact_53 rfl rfl ?_
      refine rs_iload_n d_m_compact_54 rfl rfl ?_
      refine rx_cV d_m_compact_55 rfl c_m_93 (by exact np_m_merged) rm_o (hM) (by decide) ⟨rfl, rfl⟩ (Nat.le_of_ble_eq_true rfl) rfl ?_
      refine rs_goto (tgt := 62) d_m_compact_58 (by decide) ?_
      refine rx_put_th d_m_compact_62 rfl p_m_26 ?_
      refine rs_aload_n d_m_compact_65 rfl rfl ?_
      refine rx_get_th d_m_compact_66 rfl f_m_26 ?_
      refine rs_if_eq (tgt := 74) d_m_compact_69 rfl (by decide) (fun _ => ?_) (fun hc => absurd (rfl) hc)
      refine rs_aload_n d_m_compact_74 rfl rfl ?_
      refine rs_iconst (v := (-1)) d_m_compact_75 rfl (by decide) ?_
      refine rx_put_at d_m_compact_76 rfl p_m_23 ?_
      refine rs_iload_n d_m_compact_79 rfl rfl ?_
      refine rs_iconst (v := (nI 3)) d_m_compact_80 rfl (by decide) ?_
      refine rs_icmp_ge (tgt := 88) d_m_compact_81 rfl (by decide) (fun hc => absurd hc (nI_ge (by omega) (by omega))) (fun _ => ?_)
      refine rs_iload_n d_m_compact_84 rfl rfl ?_
      refine rs_goto (tgt := 89) d_m_compact_85 (by decide) ?_
      exact rs_ireturn d_m_compact_89 rfl ⟨rfl, rfl, rfl⟩
    | succ d ih =>
      intro i hi
      refine rs_iload_n d_m_compact_27 rfl rfl ?_
      refine rs_iconst (v := (nI 3)) d_m_compact_28 rfl (by decide) ?_
      refine rs_icmp_ge (tgt := 47) d_m_compact_29 rfl (by decide) (fun hc => absurd hc (nI_ge (by omega) (by omega))) (fun _ => ?_)
      refine rs_aload_n d_m_compact_32 rfl rfl ?_
      refine rs_iload_n d_m_compact_33 rfl rfl ?_
      refine rx_cV d_m_compact_34 rfl c_m_71 (by exact np_m_runsOf) rm_o (k_m_runsOf hm) (by decide) ⟨rfl, rfl⟩ (Nat.le_of_ble_eq_true rfl) rfl ?_
      refine rs_iconst (v := (nI 3)) d_m_compact_37 rfl (by decide) ?_
      refine rs_icmp_gt (tgt := 47) d_m_compact_38 rfl (by decide) (fun hc => absurd hc (Int32.not_lt.mpr (nI_le (h0 i (by omega)) (by omega)))) (fun _ => ?_)
      refine rs_iinc d_m_compact_41 rfl (by decide) rfl (rs_inc1 i) rfl ?_
      refine rs_goto (tgt := 27) d_m_compact_44 (by decide) ?_
      exact ih (i + 1) (by omega)
  refine rsK_of pf_m_compact rfl (Nat.le_of_ble_eq_true rfl) rfl ?_
  refine rs_aload_n d_m_compact_0 rfl rfl ?_
  refine rs_aload_n d_m_compact_1 rfl rfl ?_
  refine rx_get_iu d_m_compact_2 rfl f_m_42 ?_
  refine rs_if_eq (tgt := 12) d_m_compact_5 rfl (by decide) (fun hc => absurd hc (hu)) (fun _ => ?_)
  refine rs_iconst (v := 0) d_m_compact_8 rfl (by decide) ?_
  refine rs_goto (tgt := 13) d_m_compact_9 (by decide) ?_
  refine rx_put_th d_m_compact_13 rfl p_m_26 ?_
  refine rs_aload_n d_m_compact_16 rfl rfl ?_
  refine rx_get_th d_m_compact_17 rfl f_m_26 ?_
  refine rs_if_eq (tgt := 25) d_m_compact_20 rfl (by decide) (fun _ => ?_) (fun hc => absurd (rfl) hc)
  refine rs_iconst (v := (nI 0)) d_m_compact_25 rfl (by decide) ?_
  refine rs_istore_n d_m_compact_26 rfl (by decide) rfl ?_
  exact loop (ll) 0 (by omega)
set_option maxRecDepth 100000 in
theorem k_m_compact_th {G : rsG} {n : Nat} {S T S2 T2 : Nat → Nat → Int32} {lv lv2 : Nat → Nat} {th mm iu bd th2 mm2 iu2 bd2 : Int32} {mn mn2 : Nat} {av av2 : Int32} {hf : rsH} (hu : ¬ iu = 0) (hm : mn ≤ 12) {ll : Nat} (hl : ll < 3) (h0 : ∀ i, i < ll → rp_cnt (fun q => decide (nI (lv q) = nI i)) mn ≤ 3) (h1 : 3 < rp_cnt (fun i => decide (nI (lv i) = nI ll)) mn) {x : Int32} (hx : ¬ x = 0) (hM : rsK G M_m_merged (rmO 3 63) [.ref (rsB G + 46), .int (nI ll)] (rmd G S T lv 0 mm iu bd mn av hf) n (rsOk (some (.int x)) (rmd G S2 T2 lv2 th2 mm2 iu2 bd2 mn2 av2 hf) n)) : rsK G M_m_compact (rmO 4 88) [.ref (rsB G + 46)] (rmd G S T lv th mm iu bd mn av hf) n (rsOk (some (.int 0)) (rmd G S2 T2 lv2 x mm2 iu2 bd2 mn2 av2 hf) n) := by
  have loop : ∀ (d i : Nat), i + d = ll → rsV G M_m_compact (rmO 4 88) (rsOk (some (.int 0)) (rmd G S2 T2 lv2 x mm2 iu2 bd2 mn2 av2 hf) n) 0 0 27 [some (.ref (rsB G + 46)), some (.int (nI i))] [] (rmd G S T lv 0 mm iu bd mn av hf) n := by
    intro d
    induction d with
    | zero =>
      intro i hi
      obtain rfl : i = ll := by omega
      refine rs_iload_n d_m_compact_27 rfl rfl ?_
      refine rs_iconst (v := (nI 3)) d_m_compact_28 rfl (by decide) ?_
      refine rs_icmp_ge (tgt := 47) d_m_compact_29 rfl (by decide) (fun hc => absurd hc (nI_ge (by omega) (by omega))) (fun _ => ?_)
      refine rs_aload_n d_m_compact_32 rfl rfl ?_
      refine rs_iload_n d_m_compact_33 rfl rfl ?_
      refine rx_cV d_m_compact_34 rfl c_m_71 (by exact np_m_runsOf) rm_o (k_m_runsOf hm) (by decide) ⟨rfl, rfl⟩ (Nat.le_of_ble_eq_true rfl) rfl ?_
      refine rs_iconst (v := (nI 3)) d_m_compact_37 rfl (by decide) ?_
      refine rs_icmp_gt (tgt := 47) d_m_compact_38 rfl (by decide) (fun _ => ?_) (fun hc => absurd (nI_lt h1 (Nat.lt_of_le_of_lt (rp_cnt_bd _ _) (by omega))) hc)
      refine rs_aload_n d_m_compact_47 rfl rfl ?_
      refine rs_iload_n d_m_compact_48 rfl rfl ?_
      refine rs_iconst (v := (nI 3)) d_m_compact_49 rfl (by decide) ?_
      refine rs_icmp_ge (tgt := 61) d_m_compact_50 rfl (by decide) (fun hc => absurd hc (nI_ge (by omega) (by omega))) (fun _ => ?_)
      refine rs_aload_n d_m_compact_53 rfl rfl ?_
      refine rs_iload_n d_m_compact_54 rfl rfl ?_
      refine rx_cV d_m_compact_55 rfl c_m_93 (by exact np_m_merged) rm_o (hM) (by decide) ⟨rfl, rfl⟩ (Nat.le_of_ble_eq_true rfl) rfl ?_
      refine rs_goto (tgt := 62) d_m_compact_58 (by decide) ?_
      refine rx_put_th d_m_compact_62 rfl p_m_26 ?_
      refine rs_aload_n d_m_compact_65 rfl rfl ?_
      refine rx_get_th d_m_compact_66 rfl f_m_26 ?_
      refine rs_if_eq (tgt := 74) d_m_compact_69 rfl (by decide) (fun hc => absurd hc (hx)) (fun _ => ?_)
      refine rs_iconst (v := 0) d_m_compact_72 rfl (by decide) ?_
      exact rs_ireturn d_m_compact_73 rfl ⟨rfl, rfl, rfl⟩
    | succ d ih =>
      intro i hi
      refine rs_iload_n d_m_compact_27 rfl rfl ?_
      refine rs_iconst (v := (nI 3)) d_m_compact_28 rfl (by decide) ?_
      refine rs_icmp_ge (tgt := 47) d_m_compact_29 rfl (by decide) (fun hc => absurd hc (nI_ge (by omega) (by omega))) (fun _ => ?_)
      refine rs_aload_n d_m_compact_32 rfl rfl ?_
      refine rs_iload_n d_m_compact_33 rfl rfl ?_
      refine rx_cV d_m_compact_34 rfl c_m_71 (by exact np_m_runsOf) rm_o (k_m_runsOf hm) (by decide) ⟨rfl, rfl⟩ (Nat.le_of_ble_eq_true rfl) rfl ?_
      refine rs_iconst (v := (nI 3)) d_m_compact_37 rfl (by decide) ?_
      refine rs_icmp_gt (tgt := 47) d_m_compact_38 rfl (by decide) (fun hc => absurd hc (Int32.not_lt.mpr (nI_le (h0 i (by omega)) (by omega)))) (fun _ => ?_)
      refine rs_iinc d_m_compact_41 rfl (by decide) rfl (rs_inc1 i) rfl ?_
      refine rs_goto (tgt := 27) d_m_compact_44 (by decide) ?_
      exact ih (i + 1) (by omega)
  refine rsK_of pf_m_compact rfl (Nat.le_of_ble_eq_true rfl) rfl ?_
  refine rs_aload_n d_m_compact_0 rfl rfl ?_
  refine rs_aload_n d_m_compact_1 rfl rfl ?_
  refine rx_get_iu d_m_compact_2 rfl f_m_42 ?_
  refine rs_if_eq (tgt := 12) d_m_compact_5 rfl (by decide) (fun hc => absurd hc (hu)) (fun _ => ?_)
  refine rs_iconst (v := 0) d_m_compact_8 rfl (by decide) ?_
  refine rs_goto (tgt := 13) d_m_compact_9 (by decide) ?_
  refine rx_put_th d_m_compact_13 rfl p_m_26 ?_
  refine rs_aload_n d_m_compact_16 rfl rfl ?_
  refine rx_get_th d_m_compact_17 rfl f_m_26 ?_
  refine rs_if_eq (tgt := 25) d_m_compact_20 rfl (by decide) (fun _ => ?_) (fun hc => absurd (rfl) hc)
  refine rs_iconst (v := (nI 0)) d_m_compact_25 rfl (by decide) ?_
  refine rs_istore_n d_m_compact_26 rfl (by decide) rfl ?_
  exact loop (ll) 0 (by omega)
set_option maxRecDepth 100000 in
theorem k_m_merge_bad {G : rsG} {n : Nat} {S T : Nat → Nat → Int32} {lv : Nat → Nat} {th mm iu bd : Int32} {mn : Nat} {av : Int32} {hf : rsH} {x : Int32} (hx : x < 0 ∨ 3 ≤ x) : rsK G M_m_merge (rmO 4 88) [.ref (rsB G + 46), .int x] (rmd G S T lv th mm iu bd mn av hf) n (rsOk (some (.int 0)) (rmd G S T lv 1 mm iu bd mn av hf) n) := by
  refine rsK_of pf_m_merge rfl (Nat.le_of_ble_eq_true rfl) rfl ?_
  refine rs_aload_n d_m_merge_0 rfl rfl ?_
  refine rs_iload_n d_m_merge_1 rfl rfl ?_
  refine rx_cS d_m_merge_2 rfl c_m_96 (by exact np_m_isLevel) (k_m_isLevel_no hx) (by decide) ⟨rfl, rfl⟩ (Nat.le_of_ble_eq_true rfl) rfl ?_
  refine rs_if_ne (tgt := 12) d_m_merge_5 rfl (by decide) (fun hc => absurd (rfl) hc) (fun _ => ?_)
  refine rs_iconst (v := 1) d_m_merge_8 rfl (by decide) ?_
  refine rs_goto (tgt := 24) d_m_merge_9 (by decide) ?_
  refine rx_put_th d_m_merge_24 rfl p_m_26 ?_
  refine rs_aload_n d_m_merge_27 rfl rfl ?_
  refine rx_get_th d_m_merge_28 rfl f_m_26 ?_
  refine rs_if_eq (tgt := 36) d_m_merge_31 rfl (by decide) (fun hc => absurd hc (by decide)) (fun _ => ?_)
  refine rs_iconst (v := 0) d_m_merge_34 rfl (by decide) ?_
  exact rs_ireturn d_m_merge_35 rfl ⟨rfl, rfl, rfl⟩
set_option maxRecDepth 100000 in
theorem k_m_merge_down {G : rsG} {n : Nat} {S T : Nat → Nat → Int32} {lv : Nat → Nat} {th mm iu bd : Int32} {mn : Nat} {av : Int32} {hf : rsH} {ll : Nat} (hl : ll < 3) (hu : iu = 0) : rsK G M_m_merge (rmO 4 88) [.ref (rsB G + 46), .int (nI ll)] (rmd G S T lv th mm iu bd mn av hf) n (rsOk (some (.int 0)) (rmd G S T lv 2 mm iu bd mn av hf) n) := by
  refine rsK_of pf_m_merge rfl (Nat.le_of_ble_eq_true rfl) rfl ?_
  refine rs_aload_n d_m_merge_0 rfl rfl ?_
  refine rs_iload_n d_m_merge_1 rfl rfl ?_
  refine rx_cS d_m_merge_2 rfl c_m_96 (by exact np_m_isLevel) (k_m_isLevel_yes hl) (by decide) ⟨rfl, rfl⟩ (Nat.le_of_ble_eq_true rfl) rfl ?_
  refine rs_if_ne (tgt := 12) d_m_merge_5 rfl (by decide) (fun _ => ?_) (fun hc => absurd hc (by decide))
  refine rs_aload_n d_m_merge_12 rfl rfl ?_
  refine rx_get_iu d_m_merge_13 rfl f_m_42 ?_
  refine rs_if_ne (tgt := 23) d_m_merge_16 rfl (by decide) (fun hc => absurd (hu) hc) (fun _ => ?_)
  refine rs_iconst (v := 2) d_m_merge_19 rfl (by decide) ?_
  refine rs_goto (tgt := 24) d_m_merge_20 (by decide) ?_
  refine rx_put_th d_m_merge_24 rfl p_m_26 ?_
  refine rs_aload_n d_m_merge_27 rfl rfl ?_
  refine rx_get_th d_m_merge_28 rfl f_m_26 ?_
  refine rs_if_eq (tgt := 36) d_m_merge_31 rfl (by decide) (fun hc => absurd hc (by decide)) (fun _ => ?_)
  refine rs_iconst (v := 0) d_m_merge_34 rfl (by decide) ?_
  exact rs_ireturn d_m_merge_35 rfl ⟨rfl, rfl, rfl⟩
set_option maxRecDepth 100000 in
theorem k_m_merge_none {G : rsG} {n : Nat} {S T : Nat → Nat → Int32} {lv : Nat → Nat} {th mm iu bd : Int32} {mn : Nat} {av : Int32} {hf : rsH} {ll : Nat} (hl : ll < 3) (hu : ¬ iu = 0) (hm : mn ≤ 12) (h0 : rp_cnt (fun i => decide (nI (lv i) = nI ll)) mn = 0) : rsK G M_m_merge (rmO 4 88) [.ref (rsB G + 46), .int (nI ll)] (rmd G S T lv th mm iu bd mn av hf) n (rsOk (some (.int 0)) (rmd G S T lv 0 mm iu bd mn (-1) hf) n) := by
  refine rsK_of pf_m_merge rfl (Nat.le_of_ble_eq_true rfl) rfl ?_
  refine rs_aload_n d_m_merge_0 rfl rfl ?_
  refine rs_iload_n d_m_merge_1 rfl rfl ?_
  refine rx_cS d_m_merge_2 rfl c_m_96 (by exact np_m_isLevel) (k_m_isLevel_yes hl) (by decide) ⟨rfl, rfl⟩ (Nat.le_of_ble_eq_true rfl) rfl ?_
  refine rs_if_ne (tgt := 12) d_m_merge_5 rfl (by decide) (fun _ => ?_) (fun hc => absurd hc (by decide))
  refine rs_aload_n d_m_merge_12 rfl rfl ?_
  refine rx_get_iu d_m_merge_13 rfl f_m_42 ?_
  refine rs_if_ne (tgt := 23) d_m_merge_16 rfl (by decide) (fun _ => ?_) (fun hc => absurd hc (hu))
  refine rs_iconst (v := 0) d_m_merge_23 rfl (by decide) ?_
  refine rx_put_th d_m_merge_24 rfl p_m_26 ?_
  refine rs_aload_n d_m_merge_27 rfl rfl ?_
  refine rx_get_th d_m_merge_28 rfl f_m_26 ?_
  refine rs_if_eq (tgt := 36) d_m_merge_31 rfl (by decide) (fun _ => ?_) (fun hc => absurd (rfl) hc)
  refine rs_aload_n d_m_merge_36 rfl rfl ?_
  refine rs_iload_n d_m_merge_37 rfl rfl ?_
  refine rx_cV d_m_merge_38 rfl c_m_71 (by exact np_m_runsOf) rm_o (k_m_runsOf hm) (by decide) ⟨rfl, rfl⟩ (Nat.le_of_ble_eq_true rfl) rfl ?_
  rw [h0]
  refine rs_if_le (tgt := 48) d_m_merge_41 rfl (by decide) (fun _ => ?_) (fun hc => absurd (by rw [nI_0]; decide) hc)
  refine rs_iconst (v := 0) d_m_merge_48 rfl (by decide) ?_
  refine rs_istore_n d_m_merge_49 rfl (by decide) rfl ?_
  refine rs_iload_n d_m_merge_50 rfl rfl ?_
  refine rs_if_eq (tgt := 62) d_m_merge_51 rfl (by decide) (fun _ => ?_) (fun hc => absurd (rfl) hc)
  refine rs_iconst (v := 0) d_m_merge_62 rfl (by decide) ?_
  refine rs_istore_n d_m_merge_63 rfl (by decide) rfl ?_
  refine rs_aload_n d_m_merge_64 rfl rfl ?_
  refine rs_iload_n d_m_merge_65 rfl rfl ?_
  refine rs_if_ne (tgt := 73) d_m_merge_66 rfl (by decide) (fun hc => absurd (rfl) hc) (fun _ => ?_)
  refine rs_iconst (v := 0) d_m_merge_69 rfl (by decide) ?_
  refine rs_goto (tgt := 76) d_m_merge_70 (by decide) ?_
  refine rx_put_th d_m_merge_76 rfl p_m_26 ?_
  refine rs_aload_n d_m_merge_79 rfl rfl ?_
  refine rx_get_th d_m_merge_80 rfl f_m_26 ?_
  refine rs_if_eq (tgt := 88) d_m_merge_83 rfl (by decide) (fun _ => ?_) (fun hc => absurd (rfl) hc)
  refine rs_aload_n d_m_merge_88 rfl rfl ?_
  refine rs_iconst (v := (-1)) d_m_merge_89 rfl (by decide) ?_
  refine rx_put_at d_m_merge_90 rfl p_m_23 ?_
  refine rs_iload_n d_m_merge_93 rfl rfl ?_
  refine rs_if_eq (tgt := 106) d_m_merge_94 rfl (by decide) (fun _ => ?_) (fun hc => absurd (rfl) hc)
  refine rs_iconst (v := 0) d_m_merge_106 rfl (by decide) ?_
  exact rs_ireturn d_m_merge_107 rfl ⟨rfl, rfl, rfl⟩
set_option maxRecDepth 100000 in
theorem k_m_merge_ok {G : rsG} {n : Nat} {S T S2 T2 : Nat → Nat → Int32} {lv lv2 : Nat → Nat} {th mm iu bd th2 mm2 iu2 bd2 : Int32} {mn mn2 : Nat} {av av2 : Int32} {hf : rsH} {ll : Nat} (hl : ll < 3) (hu : ¬ iu = 0) (hm : mn ≤ 12) (h0 : 0 < rp_cnt (fun i => decide (nI (lv i) = nI ll)) mn) (hM : rsK G M_m_merged (rmO 3 63) [.ref (rsB G + 46), .int (nI ll)] (rmd G S T lv 0 mm iu bd mn av hf) n (rsOk (some (.int 0)) (rmd G S2 T2 lv2 th2 mm2 iu2 bd2 mn2 av2 hf) n)) : rsK G M_m_merge (rmO 4 88) [.ref (rsB G + 46), .int (nI ll)] (rmd G S T lv th mm iu bd mn av hf) n (rsOk (some (.int (nI (rm_sz S2 13)))) (rmd G S2 T2 lv2 0 mm2 iu2 bd2 mn2 (-1) hf) n) := by
  refine rsK_of pf_m_merge rfl (Nat.le_of_ble_eq_true rfl) rfl ?_
  refine rs_aload_n d_m_merge_0 rfl rfl ?_
  refine rs_iload_n d_m_merge_1 rfl rfl ?_
  refine rx_cS d_m_merge_2 rfl c_m_96 (by exact np_m_isLevel) (k_m_isLevel_yes hl) (by decide) ⟨rfl, rfl⟩ (Nat.le_of_ble_eq_true rfl) rfl ?_
  refine rs_if_ne (tgt := 12) d_m_merge_5 rfl (by decide) (fun _ => ?_) (fun hc => absurd hc (by decide))
  refine rs_aload_n d_m_merge_12 rfl rfl ?_
  refine rx_get_iu d_m_merge_13 rfl f_m_42 ?_
  refine rs_if_ne (tgt := 23) d_m_merge_16 rfl (by decide) (fun _ => ?_) (fun hc => absurd hc (hu))
  refine rs_iconst (v := 0) d_m_merge_23 rfl (by decide) ?_
  refine rx_put_th d_m_merge_24 rfl p_m_26 ?_
  refine rs_aload_n d_m_merge_27 rfl rfl ?_
  refine rx_get_th d_m_merge_28 rfl f_m_26 ?_
  refine rs_if_eq (tgt := 36) d_m_merge_31 rfl (by decide) (fun _ => ?_) (fun hc => absurd (rfl) hc)
  refine rs_aload_n d_m_merge_36 rfl rfl ?_
  refine rs_iload_n d_m_merge_37 rfl rfl ?_
  refine rx_cV d_m_merge_38 rfl c_m_71 (by exact np_m_runsOf) rm_o (k_m_runsOf hm) (by decide) ⟨rfl, rfl⟩ (Nat.le_of_ble_eq_true rfl) rfl ?_
  refine rs_if_le (tgt := 48) d_m_merge_41 rfl (by decide) (fun hc => absurd hc (nI_nle h0 (Nat.lt_of_le_of_lt (rp_cnt_bd _ _) (by omega)))) (fun _ => ?_)
  refine rs_iconst (v := 1) d_m_merge_44 rfl (by decide) ?_
  refine rs_goto (tgt := 49) d_m_merge_45 (by decide) ?_
  refine rs_istore_n d_m_merge_49 rfl (by decide) rfl ?_
  refine rs_iload_n d_m_merge_50 rfl rfl ?_
  refine rs_if_eq (tgt := 62) d_m_merge_51 rfl (by decide) (fun hc => absurd hc (by decide)) (fun _ => ?_)
  refine rs_aload_n d_m_merge_54 rfl rfl ?_
  refine rs_iload_n d_m_merge_55 rfl rfl ?_
  refine rx_cV d_m_merge_56 rfl c_m_93 (by exact np_m_merged) rm_o (hM) (by decide) ⟨rfl, rfl⟩ (Nat.le_of_ble_eq_true rfl) rfl ?_
  refine rs_goto (tgt := 63) d_m_merge_59 (by decide) ?_
  refine rs_istore_n d_m_merge_63 rfl (by decide) rfl ?_
  refine rs_aload_n d_m_merge_64 rfl rfl ?_
  refine rs_iload_n d_m_merge_65 rfl rfl ?_
  refine rs_if_ne (tgt := 73) d_m_merge_66 rfl (by decide) (fun hc => absurd (rfl) hc) (fun _ => ?_)
  refine rs_iconst (v := 0) d_m_merge_69 rfl (by decide) ?_
  refine rs_goto (tgt := 76) d_m_merge_70 (by decide) ?_
  refine rx_put_th d_m_merge_76 rfl p_m_26 ?_
  refine rs_aload_n d_m_merge_79 rfl rfl ?_
  refine rx_get_th d_m_merge_80 rfl f_m_26 ?_
  refine rs_if_eq (tgt := 88) d_m_merge_83 rfl (by decide) (fun _ => ?_) (fun hc => absurd (rfl) hc)
  refine rs_aload_n d_m_merge_88 rfl rfl ?_
  refine rs_iconst (v := (-1)) d_m_merge_89 rfl (by decide) ?_
  refine rx_put_at d_m_merge_90 rfl p_m_23 ?_
  refine rs_iload_n d_m_merge_93 rfl rfl ?_
  refine rs_if_eq (tgt := 106) d_m_merge_94 rfl (by decide) (fun hc => absurd hc (by decide)) (fun _ => ?_)
  refine rs_aload_n d_m_merge_97 rfl rfl ?_
  refine rs_bipush (v := (nI 13)) d_m_merge_98 rfl (by decide) ?_
  refine rx_cV d_m_merge_100 rfl c_m_32 (by exact np_m_sizeOf) rm_o (k_m_sizeOf (by decide)) (by decide) ⟨rfl, rfl⟩ (Nat.le_of_ble_eq_true rfl) rfl ?_
  refine rs_goto (tgt := 107) d_m_merge_103 (by decide) ?_
  exact rs_ireturn d_m_merge_107 rfl ⟨rfl, rfl, rfl⟩
set_option maxRecDepth 100000 in
theorem k_m_merge_th {G : rsG} {n : Nat} {S T S2 T2 : Nat → Nat → Int32} {lv lv2 : Nat → Nat} {th mm iu bd th2 mm2 iu2 bd2 : Int32} {mn mn2 : Nat} {av av2 : Int32} {hf : rsH} {ll : Nat} (hl : ll < 3) (hu : ¬ iu = 0) (hm : mn ≤ 12) (h0 : 0 < rp_cnt (fun i => decide (nI (lv i) = nI ll)) mn) {x : Int32} (hx : ¬ x = 0) (hx1 : ¬ x + 1 = 0) (hM : rsK G M_m_merged (rmO 3 63) [.ref (rsB G + 46), .int (nI ll)] (rmd G S T lv 0 mm iu bd mn av hf) n (rsOk (some (.int x)) (rmd G S2 T2 lv2 th2 mm2 iu2 bd2 mn2 av2 hf) n)) : rsK G M_m_merge (rmO 4 88) [.ref (rsB G + 46), .int (nI ll)] (rmd G S T lv th mm iu bd mn av hf) n (rsOk (some (.int 0)) (rmd G S2 T2 lv2 (x + 1) mm2 iu2 bd2 mn2 av2 hf) n) := by
  refine rsK_of pf_m_merge rfl (Nat.le_of_ble_eq_true rfl) rfl ?_
  refine rs_aload_n d_m_merge_0 rfl rfl ?_
  refine rs_iload_n d_m_merge_1 rfl rfl ?_
  refine rx_cS d_m_merge_2 rfl c_m_96 (by exact np_m_isLevel) (k_m_isLevel_yes hl) (by decide) ⟨rfl, rfl⟩ (Nat.le_of_ble_eq_true rfl) rfl ?_
  refine rs_if_ne (tgt := 12) d_m_merge_5 rfl (by decide) (fun _ => ?_) (fun hc => absurd hc (by decide))
  refine rs_aload_n d_m_merge_12 rfl rfl ?_
  refine rx_get_iu d_m_merge_13 rfl f_m_42 ?_
  refine rs_if_ne (tgt := 23) d_m_merge_16 rfl (by decide) (fun _ => ?_) (fun hc => absurd hc (hu))
  refine rs_iconst (v := 0) d_m_merge_23 rfl (by decide) ?_
  refine rx_put_th d_m_merge_24 rfl p_m_26 ?_
  refine rs_aload_n d_m_merge_27 rfl rfl ?_
  refine rx_get_th d_m_merge_28 rfl f_m_26 ?_
  refine rs_if_eq (tgt := 36) d_m_merge_31 rfl (by decide) (fun _ => ?_) (fun hc => absurd (rfl) hc)
  refine rs_aload_n d_m_merge_36 rfl rfl ?_
  refine rs_iload_n d_m_merge_37 rfl rfl ?_
  refine rx_cV d_m_merge_38 rfl c_m_71 (by exact np_m_runsOf) rm_o (k_m_runsOf hm) (by decide) ⟨rfl, rfl⟩ (Nat.le_of_ble_eq_true rfl) rfl ?_
  refine rs_if_le (tgt := 48) d_m_merge_41 rfl (by decide) (fun hc => absurd hc (nI_nle h0 (Nat.lt_of_le_of_lt (rp_cnt_bd _ _) (by omega)))) (fun _ => ?_)
  refine rs_iconst (v := 1) d_m_merge_44 rfl (by decide) ?_
  refine rs_goto (tgt := 49) d_m_merge_45 (by decide) ?_
  refine rs_istore_n d_m_merge_49 rfl (by decide) rfl ?_
  refine rs_iload_n d_m_merge_50 rfl rfl ?_
  refine rs_if_eq (tgt := 62) d_m_merge_51 rfl (by decide) (fun hc => absurd hc (by decide)) (fun _ => ?_)
  refine rs_aload_n d_m_merge_54 rfl rfl ?_
  refine rs_iload_n d_m_merge_55 rfl rfl ?_
  refine rx_cV d_m_merge_56 rfl c_m_93 (by exact np_m_merged) rm_o (hM) (by decide) ⟨rfl, rfl⟩ (Nat.le_of_ble_eq_true rfl) rfl ?_
  refine rs_goto (tgt := 63) d_m_merge_59 (by decide) ?_
  refine rs_istore_n d_m_merge_63 rfl (by decide) rfl ?_
  refine rs_aload_n d_m_merge_64 rfl rfl ?_
  refine rs_iload_n d_m_merge_65 rfl rfl ?_
  refine rs_if_ne (tgt := 73) d_m_merge_66 rfl (by decide) (fun _ => ?_) (fun hc => absurd hc (hx))
  refine rs_iload_n d_m_merge_73 rfl rfl ?_
  refine rs_iconst (v := 1) d_m_merge_74 rfl (by decide) ?_
  refine rs_iadd d_m_merge_75 rfl ?_
  refine rx_put_th d_m_merge_76 rfl p_m_26 ?_
  refine rs_aload_n d_m_merge_79 rfl rfl ?_
  refine rx_get_th d_m_merge_80 rfl f_m_26 ?_
  refine rs_if_eq (tgt := 88) d_m_merge_83 rfl (by decide) (fun hc => absurd hc (hx1)) (fun _ => ?_)
  refine rs_iconst (v := 0) d_m_merge_86 rfl (by decide) ?_
  exact rs_ireturn d_m_merge_87 rfl ⟨rfl, rfl, rfl⟩
set_option maxRecDepth 100000 in
theorem k_m_limit_bad {G : rsG} {n : Nat} {S T : Nat → Nat → Int32} {lv : Nat → Nat} {th mm iu bd : Int32} {mn : Nat} {av : Int32} {hf : rsH} {x : Int32} (hx : x < -1 ∨ ¬ x ≤ 1000) : rsK G M_m_limit (rmO 0 0) [.ref (rsB G + 46), .int x] (rmd G S T lv th mm iu bd mn av hf) n (rsOk (none) (rmd G S T lv 1 mm iu bd mn av hf) n) := by
  refine rsK_of pf_m_limit rfl (Nat.le_of_ble_eq_true rfl) rfl ?_
  refine rs_aload_n d_m_limit_0 rfl rfl ?_
  refine rs_iload_n d_m_limit_1 rfl rfl ?_
  refine rs_iconst (v := (-1)) d_m_limit_2 rfl (by decide) ?_
  by_cases h0 : x < -1
  · refine rs_icmp_lt (tgt := 13) d_m_limit_3 rfl (by decide) (fun _ => ?_) (fun hc => absurd (h0) hc)
    refine rs_iconst (v := 1) d_m_limit_13 rfl (by decide) ?_
    refine rs_goto (tgt := 29) d_m_limit_14 (by decide) ?_
    refine rx_put_th d_m_limit_29 rfl p_m_26 ?_
    refine rs_aload_n d_m_limit_32 rfl rfl ?_
    refine rx_get_th d_m_limit_33 rfl f_m_26 ?_
    refine rs_if_ne (tgt := 44) d_m_limit_36 rfl (by decide) (fun _ => ?_) (fun hc => absurd hc (by decide))
    exact rs_vreturn d_m_limit_44 rfl ⟨rfl, rfl, rfl⟩
  · refine rs_icmp_lt (tgt := 13) d_m_limit_3 rfl (by decide) (fun hc => absurd hc (h0)) (fun _ => ?_)
    refine rs_iload_n d_m_limit_6 rfl rfl ?_
    refine rs_sipush (v := 1000) d_m_limit_7 rfl (by decide) ?_
    refine rs_icmp_le (tgt := 17) d_m_limit_10 rfl (by decide) (fun hc => absurd hc (hx.resolve_left h0)) (fun _ => ?_)
    refine rs_iconst (v := 1) d_m_limit_13 rfl (by decide) ?_
    refine rs_goto (tgt := 29) d_m_limit_14 (by decide) ?_
    refine rx_put_th d_m_limit_29 rfl p_m_26 ?_
    refine rs_aload_n d_m_limit_32 rfl rfl ?_
    refine rx_get_th d_m_limit_33 rfl f_m_26 ?_
    refine rs_if_ne (tgt := 44) d_m_limit_36 rfl (by decide) (fun _ => ?_) (fun hc => absurd hc (by decide))
    exact rs_vreturn d_m_limit_44 rfl ⟨rfl, rfl, rfl⟩
set_option maxRecDepth 100000 in
theorem k_m_limit_nodisk {G : rsG} {n : Nat} {S T : Nat → Nat → Int32} {lv : Nat → Nat} {th mm iu bd : Int32} {mn : Nat} {av : Int32} {hf : rsH} {x : Int32} (hx1 : ¬ x < -1) (hx2 : x ≤ 1000) (h : mm = 0) : rsK G M_m_limit (rmO 0 0) [.ref (rsB G + 46), .int x] (rmd G S T lv th mm iu bd mn av hf) n (rsOk (none) (rmd G S T lv 2 mm iu bd mn av hf) n) := by
  refine rsK_of pf_m_limit rfl (Nat.le_of_ble_eq_true rfl) rfl ?_
  refine rs_aload_n d_m_limit_0 rfl rfl ?_
  refine rs_iload_n d_m_limit_1 rfl rfl ?_
  refine rs_iconst (v := (-1)) d_m_limit_2 rfl (by decide) ?_
  refine rs_icmp_lt (tgt := 13) d_m_limit_3 rfl (by decide) (fun hc => absurd hc (hx1)) (fun _ => ?_)
  refine rs_iload_n d_m_limit_6 rfl rfl ?_
  refine rs_sipush (v := 1000) d_m_limit_7 rfl (by decide) ?_
  refine rs_icmp_le (tgt := 17) d_m_limit_10 rfl (by decide) (fun _ => ?_) (fun hc => absurd (hx2) hc)
  refine rs_aload_n d_m_limit_17 rfl rfl ?_
  refine rx_get_mm d_m_limit_18 rfl f_m_77 ?_
  refine rs_if_ne (tgt := 28) d_m_limit_21 rfl (by decide) (fun hc => absurd (h) hc) (fun _ => ?_)
  refine rs_iconst (v := 2) d_m_limit_24 rfl (by decide) ?_
  refine rs_goto (tgt := 29) d_m_limit_25 (by decide) ?_
  refine rx_put_th d_m_limit_29 rfl p_m_26 ?_
  refine rs_aload_n d_m_limit_32 rfl rfl ?_
  refine rx_get_th d_m_limit_33 rfl f_m_26 ?_
  refine rs_if_ne (tgt := 44) d_m_limit_36 rfl (by decide) (fun _ => ?_) (fun hc => absurd hc (by decide))
  exact rs_vreturn d_m_limit_44 rfl ⟨rfl, rfl, rfl⟩
set_option maxRecDepth 100000 in
theorem k_m_limit_ok {G : rsG} {n : Nat} {S T : Nat → Nat → Int32} {lv : Nat → Nat} {th mm iu bd : Int32} {mn : Nat} {av : Int32} {hf : rsH} {x : Int32} (hx1 : ¬ x < -1) (hx2 : x ≤ 1000) (h : ¬ mm = 0) : rsK G M_m_limit (rmO 0 0) [.ref (rsB G + 46), .int x] (rmd G S T lv th mm iu bd mn av hf) n (rsOk (none) (rmd G S T lv 0 mm iu x mn av hf) n) := by
  refine rsK_of pf_m_limit rfl (Nat.le_of_ble_eq_true rfl) rfl ?_
  refine rs_aload_n d_m_limit_0 rfl rfl ?_
  refine rs_iload_n d_m_limit_1 rfl rfl ?_
  refine rs_iconst (v := (-1)) d_m_limit_2 rfl (by decide) ?_
  refine rs_icmp_lt (tgt := 13) d_m_limit_3 rfl (by decide) (fun hc => absurd hc (hx1)) (fun _ => ?_)
  refine rs_iload_n d_m_limit_6 rfl rfl ?_
  refine rs_sipush (v := 1000) d_m_limit_7 rfl (by decide) ?_
  refine rs_icmp_le (tgt := 17) d_m_limit_10 rfl (by decide) (fun _ => ?_) (fun hc => absurd (hx2) hc)
  refine rs_aload_n d_m_limit_17 rfl rfl ?_
  refine rx_get_mm d_m_limit_18 rfl f_m_77 ?_
  refine rs_if_ne (tgt := 28) d_m_limit_21 rfl (by decide) (fun _ => ?_) (fun hc => absurd hc (h))
  refine rs_iconst (v := 0) d_m_limit_28 rfl (by decide) ?_
  refine rx_put_th d_m_limit_29 rfl p_m_26 ?_
  refine rs_aload_n d_m_limit_32 rfl rfl ?_
  refine rx_get_th d_m_limit_33 rfl f_m_26 ?_
  refine rs_if_ne (tgt := 44) d_m_limit_36 rfl (by decide) (fun hc => absurd (rfl) hc) (fun _ => ?_)
  refine rs_aload_n d_m_limit_39 rfl rfl ?_
  refine rs_iload_n d_m_limit_40 rfl rfl ?_
  refine rx_put_bd d_m_limit_41 rfl p_m_9 ?_
  exact rs_vreturn d_m_limit_44 rfl ⟨rfl, rfl, rfl⟩
set_option maxRecDepth 100000 in
theorem k_m_left {G : rsG} {n : Nat} {S T : Nat → Nat → Int32} {lv : Nat → Nat} {th mm iu bd : Int32} {mn : Nat} {av : Int32} {hf : rsH}  : rsK G M_m_left (rmO 0 0) [.ref (rsB G + 46)] (rmd G S T lv th mm iu bd mn av hf) n (rsOk (some (.int bd)) (rmd G S T lv 0 mm iu bd mn av hf) n) := by
  refine rsK_of pf_m_left rfl (Nat.le_of_ble_eq_true rfl) rfl ?_
  refine rs_aload_n d_m_left_0 rfl rfl ?_
  refine rs_iconst (v := 0) d_m_left_1 rfl (by decide) ?_
  refine rx_put_th d_m_left_2 rfl p_m_26 ?_
  refine rs_aload_n d_m_left_5 rfl rfl ?_
  refine rx_get_bd d_m_left_6 rfl f_m_9 ?_
  exact rs_ireturn d_m_left_9 rfl ⟨rfl, rfl, rfl⟩
set_option maxRecDepth 100000 in
theorem k_m_key {G : rsG} {n : Nat} {S T : Nat → Nat → Int32} {lv : Nat → Nat} {th mm iu bd : Int32} {mn : Nat} {av : Int32} {hf : rsH}  : rsK G M_m_key (rmO 0 0) [.ref (rsB G + 46)] (rmd G S T lv th mm iu bd mn av hf) n (rsOk (some (.int av)) (rmd G S T lv 0 mm iu bd mn av hf) n) := by
  refine rsK_of pf_m_key rfl (Nat.le_of_ble_eq_true rfl) rfl ?_
  refine rs_aload_n d_m_key_0 rfl rfl ?_
  refine rs_iconst (v := 0) d_m_key_1 rfl (by decide) ?_
  refine rx_put_th d_m_key_2 rfl p_m_26 ?_
  refine rs_aload_n d_m_key_5 rfl rfl ?_
  refine rx_get_at d_m_key_6 rfl f_m_23 ?_
  exact rs_ireturn d_m_key_9 rfl ⟨rfl, rfl, rfl⟩
set_option maxRecDepth 100000 in
theorem k_m_thrown {G : rsG} {n : Nat} {S T : Nat → Nat → Int32} {lv : Nat → Nat} {th mm iu bd : Int32} {mn : Nat} {av : Int32} {hf : rsH}  : rsK G M_m_thrown (rmO 0 0) [.ref (rsB G + 46)] (rmd G S T lv th mm iu bd mn av hf) n (rsOk (some (.int th)) (rmd G S T lv th mm iu bd mn av hf) n) := by
  refine rsK_of pf_m_thrown rfl (Nat.le_of_ble_eq_true rfl) rfl ?_
  refine rs_aload_n d_m_thrown_0 rfl rfl ?_
  refine rx_get_th d_m_thrown_1 rfl f_m_26 ?_
  exact rs_ireturn d_m_thrown_4 rfl ⟨rfl, rfl, rfl⟩
set_option maxRecDepth 100000 in
theorem k_m_goTo_none {G : rsG} {n : Nat} {S T : Nat → Nat → Int32} {lv : Nat → Nat} {th mm iu bd : Int32} {mn : Nat} {av : Int32} {hf : rsH} (hm : mn ≤ 12) {fr : Nat} (hfr : fr ≤ 100) (h0 : ∀ i, fr ≤ i → i < 100 → rm_th S mn i = 0) : rsK G M_m_goTo (rmO 2 44) [.ref (rsB G + 46), .int (nI fr)] (rmd G S T lv th mm iu bd mn av hf) n (rsOk (some (.int 0)) (rmd G S T lv th mm iu bd mn (-1) hf) n) := by
  have loop : ∀ (d i : Nat), i + d = 100 → fr ≤ i → rsV G M_m_goTo (rmO 2 44) (rsOk (some (.int 0)) (rmd G S T lv th mm iu bd mn (-1) hf) n) 0 0 5 [some (.ref (rsB G + 46)), some (.int (nI fr))] [] (rmd G S T lv th mm iu bd mn (nI i) hf) n := by
    intro d
    induction d with
    | zero =>
      intro i hi hfi
      obtain rfl : i = 100 := by omega
      refine rs_aload_n d_m_goTo_5 rfl rfl ?_
      refine rx_get_at d_m_goTo_6 rfl f_m_23 ?_
      refine rs_bipush (v := (nI 100)) d_m_goTo_9 rfl (by decide) ?_
      refine rs_icmp_ge (tgt := 38) d_m_goTo_11 rfl (by decide) (fun _ => ?_) (fun hc => absurd (nI_le (by omega) (by omega)) hc)
      refine rs_aload_n d_m_goTo_38 rfl rfl ?_
      refine rs_aload_n d_m_goTo_39 rfl rfl ?_
      refine rx_get_at d_m_goTo_40 rfl f_m_23 ?_
      refine rs_bipush (v := (nI 100)) d_m_goTo_43 rfl (by decide) ?_
      refine rs_icmp_ge (tgt := 55) d_m_goTo_45 rfl (by decide) (fun _ => ?_) (fun hc => absurd (nI_le (by omega) (by omega)) hc)
      refine rs_iconst (v := (-1)) d_m_goTo_55 rfl (by decide) ?_
      refine rx_put_at d_m_goTo_56 rfl p_m_23 ?_
      refine rs_aload_n d_m_goTo_59 rfl rfl ?_
      refine rx_get_at d_m_goTo_60 rfl f_m_23 ?_
      refine rs_if_lt (tgt := 70) d_m_goTo_63 rfl (by decide) (fun _ => ?_) (fun hc => absurd (by decide) hc)
      refine rs_iconst (v := 0) d_m_goTo_70 rfl (by decide) ?_
      exact rs_zreturn d_m_goTo_71 rfl rfl ⟨rfl, rfl, rfl⟩
    | succ d ih =>
      intro i hi hfi
      have hi100 : i < 100 := by omega
      refine rs_aload_n d_m_goTo_5 rfl rfl ?_
      refine rx_get_at d_m_goTo_6 rfl f_m_23 ?_
      refine rs_bipush (v := (nI 100)) d_m_goTo_9 rfl (by decide) ?_
      refine rs_icmp_ge (tgt := 38) d_m_goTo_11 rfl (by decide) (fun hc => absurd hc (nI_ge (by omega) (by omega))) (fun _ => ?_)
      refine rs_aload_n d_m_goTo_14 rfl rfl ?_
      refine rs_aload_n d_m_goTo_15 rfl rfl ?_
      refine rx_get_at d_m_goTo_16 rfl f_m_23 ?_
      refine rx_cV d_m_goTo_19 rfl c_m_90 (by exact np_m_isThere) rm_o (k_m_isThere hi100 hm) (by decide) ⟨rfl, rfl⟩ (Nat.le_of_ble_eq_true rfl) rfl ?_
      rw [h0 i hfi (by omega)]
      refine rs_if_ne (tgt := 38) d_m_goTo_22 rfl (by decide) (fun hc => absurd (rfl) hc) (fun _ => ?_)
      refine rs_aload_n d_m_goTo_25 rfl rfl ?_
      refine rs_dup d_m_goTo_26 rfl rfl ?_
      refine rx_get_at d_m_goTo_27 rfl f_m_23 ?_
      refine rs_iconst (v := (nI 1)) d_m_goTo_30 rfl (by decide) ?_
      refine rs_iadd d_m_goTo_31 rfl ?_
      refine rs_tope (nI_add _ _) ?_
      refine rx_put_at d_m_goTo_32 rfl p_m_23 ?_
      refine rs_goto (tgt := 5) d_m_goTo_35 (by decide) ?_
      exact ih (i + 1) (by omega) (by omega)
  refine rsK_of pf_m_goTo rfl (Nat.le_of_ble_eq_true rfl) rfl ?_
  refine rs_aload_n d_m_goTo_0 rfl rfl ?_
  refine rs_iload_n d_m_goTo_1 rfl rfl ?_
  refine rx_put_at d_m_goTo_2 rfl p_m_23 ?_
  exact loop (100 - fr) fr (by omega) (by omega)
set_option maxRecDepth 100000 in
theorem k_m_goTo_some {G : rsG} {n : Nat} {S T : Nat → Nat → Int32} {lv : Nat → Nat} {th mm iu bd : Int32} {mn : Nat} {av : Int32} {hf : rsH} (hm : mn ≤ 12) {fr x : Nat} (hfr : fr ≤ x) (hx : x < 100) (h0 : ∀ i, fr ≤ i → i < x → rm_th S mn i = 0) (h1 : rm_th S mn x = 1) : rsK G M_m_goTo (rmO 2 44) [.ref (rsB G + 46), .int (nI fr)] (rmd G S T lv th mm iu bd mn av hf) n (rsOk (some (.int 1)) (rmd G S T lv th mm iu bd mn (nI x) hf) n) := by
  have loop : ∀ (d i : Nat), i + d = x → fr ≤ i → rsV G M_m_goTo (rmO 2 44) (rsOk (some (.int 1)) (rmd G S T lv th mm iu bd mn (nI x) hf) n) 0 0 5 [some (.ref (rsB G + 46)), some (.int (nI fr))] [] (rmd G S T lv th mm iu bd mn (nI i) hf) n := by
    intro d
    induction d with
    | zero =>
      intro i hi hfi
      obtain rfl : i = x := by omega
      refine rs_aload_n d_m_goTo_5 rfl rfl ?_
      refine rx_get_at d_m_goTo_6 rfl f_m_23 ?_
      refine rs_bipush (v := (nI 100)) d_m_goTo_9 rfl (by decide) ?_
      refine rs_icmp_ge (tgt := 38) d_m_goTo_11 rfl (by decide) (fun hc => absurd hc (nI_ge (by omega) (by omega))) (fun _ => ?_)
      refine rs_aload_n d_m_goTo_14 rfl rfl ?_
      refine rs_aload_n d_m_goTo_15 rfl rfl ?_
      refine rx_get_at d_m_goTo_16 rfl f_m_23 ?_
      refine rx_cV d_m_goTo_19 rfl c_m_90 (by exact np_m_isThere) rm_o (k_m_isThere hx hm) (by decide) ⟨rfl, rfl⟩ (Nat.le_of_ble_eq_true rfl) rfl ?_
      rw [h1]
      refine rs_if_ne (tgt := 38) d_m_goTo_22 rfl (by decide) (fun _ => ?_) (fun hc => absurd hc (by decide))
      refine rs_aload_n d_m_goTo_38 rfl rfl ?_
      refine rs_aload_n d_m_goTo_39 rfl rfl ?_
      refine rx_get_at d_m_goTo_40 rfl f_m_23 ?_
      refine rs_bipush (v := (nI 100)) d_m_goTo_43 rfl (by decide) ?_
      refine rs_icmp_ge (tgt := 55) d_m_goTo_45 rfl (by decide) (fun hc => absurd hc (nI_ge (by omega) (by omega))) (fun _ => ?_)
      refine rs_aload_n d_m_goTo_48 rfl rfl ?_
      refine rx_get_at d_m_goTo_49 rfl f_m_23 ?_
      refine rs_goto (tgt := 56) d_m_goTo_52 (by decide) ?_
      refine rx_put_at d_m_goTo_56 rfl p_m_23 ?_
      refine rs_aload_n d_m_goTo_59 rfl rfl ?_
      refine rx_get_at d_m_goTo_60 rfl f_m_23 ?_
      refine rs_if_lt (tgt := 70) d_m_goTo_63 rfl (by decide) (fun hc => absurd hc (nI_pos (by omega))) (fun _ => ?_)
      refine rs_iconst (v := 1) d_m_goTo_66 rfl (by decide) ?_
      refine rs_goto (tgt := 71) d_m_goTo_67 (by decide) ?_
      exact rs_zreturn d_m_goTo_71 rfl rfl ⟨rfl, rfl, rfl⟩
    | succ d ih =>
      intro i hi hfi
      have hi100 : i < 100 := by omega
      refine rs_aload_n d_m_goTo_5 rfl rfl ?_
      refine rx_get_at d_m_goTo_6 rfl f_m_23 ?_
      refine rs_bipush (v := (nI 100)) d_m_goTo_9 rfl (by decide) ?_
      refine rs_icmp_ge (tgt := 38) d_m_goTo_11 rfl (by decide) (fun hc => absurd hc (nI_ge (by omega) (by omega))) (fun _ => ?_)
      refine rs_aload_n d_m_goTo_14 rfl rfl ?_
      refine rs_aload_n d_m_goTo_15 rfl rfl ?_
      refine rx_get_at d_m_goTo_16 rfl f_m_23 ?_
      refine rx_cV d_m_goTo_19 rfl c_m_90 (by exact np_m_isThere) rm_o (k_m_isThere hi100 hm) (by decide) ⟨rfl, rfl⟩ (Nat.le_of_ble_eq_true rfl) rfl ?_
      rw [h0 i hfi (by omega)]
      refine rs_if_ne (tgt := 38) d_m_goTo_22 rfl (by decide) (fun hc => absurd (rfl) hc) (fun _ => ?_)
      refine rs_aload_n d_m_goTo_25 rfl rfl ?_
      refine rs_dup d_m_goTo_26 rfl rfl ?_
      refine rx_get_at d_m_goTo_27 rfl f_m_23 ?_
      refine rs_iconst (v := (nI 1)) d_m_goTo_30 rfl (by decide) ?_
      refine rs_iadd d_m_goTo_31 rfl ?_
      refine rs_tope (nI_add _ _) ?_
      refine rx_put_at d_m_goTo_32 rfl p_m_23 ?_
      refine rs_goto (tgt := 5) d_m_goTo_35 (by decide) ?_
      exact ih (i + 1) (by omega) (by omega)
  refine rsK_of pf_m_goTo rfl (Nat.le_of_ble_eq_true rfl) rfl ?_
  refine rs_aload_n d_m_goTo_0 rfl rfl ?_
  refine rs_iload_n d_m_goTo_1 rfl rfl ?_
  refine rx_put_at d_m_goTo_2 rfl p_m_23 ?_
  exact loop (x - fr) fr (by omega) (by omega)
set_option maxRecDepth 100000 in
theorem k_m_seek_bad {G : rsG} {n : Nat} {S T : Nat → Nat → Int32} {lv : Nat → Nat} {th mm iu bd : Int32} {mn : Nat} {av : Int32} {hf : rsH} {x : Int32} (hx : x < 0 ∨ ¬ x < 100) : rsK G M_m_seek (rmO 3 65) [.ref (rsB G + 46), .int x] (rmd G S T lv th mm iu bd mn av hf) n (rsOk (some (.int 0)) (rmd G S T lv 1 mm iu bd mn av hf) n) := by
  refine rsK_of pf_m_seek rfl (Nat.le_of_ble_eq_true rfl) rfl ?_
  refine rs_aload_n d_m_seek_0 rfl rfl ?_
  refine rs_iload_n d_m_seek_1 rfl rfl ?_
  refine rx_cS d_m_seek_2 rfl c_m_80 (by exact np_m_isKey) (k_m_isKey_no hx) (by decide) ⟨rfl, rfl⟩ (Nat.le_of_ble_eq_true rfl) rfl ?_
  refine rs_if_ne (tgt := 12) d_m_seek_5 rfl (by decide) (fun hc => absurd (rfl) hc) (fun _ => ?_)
  refine rs_iconst (v := 1) d_m_seek_8 rfl (by decide) ?_
  refine rs_goto (tgt := 24) d_m_seek_9 (by decide) ?_
  refine rx_put_th d_m_seek_24 rfl p_m_26 ?_
  refine rs_aload_n d_m_seek_27 rfl rfl ?_
  refine rx_get_th d_m_seek_28 rfl f_m_26 ?_
  refine rs_if_ne (tgt := 46) d_m_seek_31 rfl (by decide) (fun _ => ?_) (fun hc => absurd hc (by decide))
  refine rs_iconst (v := 0) d_m_seek_46 rfl (by decide) ?_
  exact rs_zreturn d_m_seek_47 rfl rfl ⟨rfl, rfl, rfl⟩
set_option maxRecDepth 100000 in
theorem k_m_seek_down {G : rsG} {n : Nat} {S T : Nat → Nat → Int32} {lv : Nat → Nat} {th mm iu bd : Int32} {mn : Nat} {av : Int32} {hf : rsH} {key : Nat} (hk : key < 100) (hu : iu = 0) : rsK G M_m_seek (rmO 3 65) [.ref (rsB G + 46), .int (nI key)] (rmd G S T lv th mm iu bd mn av hf) n (rsOk (some (.int 0)) (rmd G S T lv 2 mm iu bd mn av hf) n) := by
  refine rsK_of pf_m_seek rfl (Nat.le_of_ble_eq_true rfl) rfl ?_
  refine rs_aload_n d_m_seek_0 rfl rfl ?_
  refine rs_iload_n d_m_seek_1 rfl rfl ?_
  refine rx_cS d_m_seek_2 rfl c_m_80 (by exact np_m_isKey) (k_m_isKey_yes hk) (by decide) ⟨rfl, rfl⟩ (Nat.le_of_ble_eq_true rfl) rfl ?_
  refine rs_if_ne (tgt := 12) d_m_seek_5 rfl (by decide) (fun _ => ?_) (fun hc => absurd hc (by decide))
  refine rs_aload_n d_m_seek_12 rfl rfl ?_
  refine rx_get_iu d_m_seek_13 rfl f_m_42 ?_
  refine rs_if_ne (tgt := 23) d_m_seek_16 rfl (by decide) (fun hc => absurd (hu) hc) (fun _ => ?_)
  refine rs_iconst (v := 2) d_m_seek_19 rfl (by decide) ?_
  refine rs_goto (tgt := 24) d_m_seek_20 (by decide) ?_
  refine rx_put_th d_m_seek_24 rfl p_m_26 ?_
  refine rs_aload_n d_m_seek_27 rfl rfl ?_
  refine rx_get_th d_m_seek_28 rfl f_m_26 ?_
  refine rs_if_ne (tgt := 46) d_m_seek_31 rfl (by decide) (fun _ => ?_) (fun hc => absurd hc (by decide))
  refine rs_iconst (v := 0) d_m_seek_46 rfl (by decide) ?_
  exact rs_zreturn d_m_seek_47 rfl rfl ⟨rfl, rfl, rfl⟩
set_option maxRecDepth 100000 in
theorem k_m_seek_none {G : rsG} {n : Nat} {S T : Nat → Nat → Int32} {lv : Nat → Nat} {th mm iu bd : Int32} {mn : Nat} {av : Int32} {hf : rsH} {key : Nat} (hk : key < 100) (hu : ¬ iu = 0) (hm : mn ≤ 12) (h0 : ∀ i, key ≤ i → i < 100 → rm_th S mn i = 0) : rsK G M_m_seek (rmO 3 65) [.ref (rsB G + 46), .int (nI key)] (rmd G S T lv th mm iu bd mn av hf) n (rsOk (some (.int 0)) (rmd G S T lv 0 mm iu bd mn (-1) hf) n) := by
  refine rsK_of pf_m_seek rfl (Nat.le_of_ble_eq_true rfl) rfl ?_
  refine rs_aload_n d_m_seek_0 rfl rfl ?_
  refine rs_iload_n d_m_seek_1 rfl rfl ?_
  refine rx_cS d_m_seek_2 rfl c_m_80 (by exact np_m_isKey) (k_m_isKey_yes hk) (by decide) ⟨rfl, rfl⟩ (Nat.le_of_ble_eq_true rfl) rfl ?_
  refine rs_if_ne (tgt := 12) d_m_seek_5 rfl (by decide) (fun _ => ?_) (fun hc => absurd hc (by decide))
  refine rs_aload_n d_m_seek_12 rfl rfl ?_
  refine rx_get_iu d_m_seek_13 rfl f_m_42 ?_
  refine rs_if_ne (tgt := 23) d_m_seek_16 rfl (by decide) (fun _ => ?_) (fun hc => absurd hc (hu))
  refine rs_iconst (v := 0) d_m_seek_23 rfl (by decide) ?_
  refine rx_put_th d_m_seek_24 rfl p_m_26 ?_
  refine rs_aload_n d_m_seek_27 rfl rfl ?_
  refine rx_get_th d_m_seek_28 rfl f_m_26 ?_
  refine rs_if_ne (tgt := 46) d_m_seek_31 rfl (by decide) (fun hc => absurd (rfl) hc) (fun _ => ?_)
  refine rs_aload_n d_m_seek_34 rfl rfl ?_
  refine rs_iload_n d_m_seek_35 rfl rfl ?_
  refine rx_cV d_m_seek_36 rfl c_m_99 (by exact np_m_goTo) rm_o (k_m_goTo_none hm (by omega) h0) (by decide) ⟨rfl, rfl⟩ (Nat.le_of_ble_eq_true rfl) rfl ?_
  refine rs_if_eq (tgt := 46) d_m_seek_39 rfl (by decide) (fun _ => ?_) (fun hc => absurd (rfl) hc)
  refine rs_iconst (v := 0) d_m_seek_46 rfl (by decide) ?_
  exact rs_zreturn d_m_seek_47 rfl rfl ⟨rfl, rfl, rfl⟩
set_option maxRecDepth 100000 in
theorem k_m_seek_some {G : rsG} {n : Nat} {S T : Nat → Nat → Int32} {lv : Nat → Nat} {th mm iu bd : Int32} {mn : Nat} {av : Int32} {hf : rsH} {key : Nat} (hk : key < 100) (hu : ¬ iu = 0) (hm : mn ≤ 12) {x : Nat} (hfr : key ≤ x) (hx : x < 100) (h0 : ∀ i, key ≤ i → i < x → rm_th S mn i = 0) (h1 : rm_th S mn x = 1) : rsK G M_m_seek (rmO 3 65) [.ref (rsB G + 46), .int (nI key)] (rmd G S T lv th mm iu bd mn av hf) n (rsOk (some (.int 1)) (rmd G S T lv 0 mm iu bd mn (nI x) hf) n) := by
  refine rsK_of pf_m_seek rfl (Nat.le_of_ble_eq_true rfl) rfl ?_
  refine rs_aload_n d_m_seek_0 rfl rfl ?_
  refine rs_iload_n d_m_seek_1 rfl rfl ?_
  refine rx_cS d_m_seek_2 rfl c_m_80 (by exact np_m_isKey) (k_m_isKey_yes hk) (by decide) ⟨rfl, rfl⟩ (Nat.le_of_ble_eq_true rfl) rfl ?_
  refine rs_if_ne (tgt := 12) d_m_seek_5 rfl (by decide) (fun _ => ?_) (fun hc => absurd hc (by decide))
  refine rs_aload_n d_m_seek_12 rfl rfl ?_
  refine rx_get_iu d_m_seek_13 rfl f_m_42 ?_
  refine rs_if_ne (tgt := 23) d_m_seek_16 rfl (by decide) (fun _ => ?_) (fun hc => absurd hc (hu))
  refine rs_iconst (v := 0) d_m_seek_23 rfl (by decide) ?_
  refine rx_put_th d_m_seek_24 rfl p_m_26 ?_
  refine rs_aload_n d_m_seek_27 rfl rfl ?_
  refine rx_get_th d_m_seek_28 rfl f_m_26 ?_
  refine rs_if_ne (tgt := 46) d_m_seek_31 rfl (by decide) (fun hc => absurd (rfl) hc) (fun _ => ?_)
  refine rs_aload_n d_m_seek_34 rfl rfl ?_
  refine rs_iload_n d_m_seek_35 rfl rfl ?_
  refine rx_cV d_m_seek_36 rfl c_m_99 (by exact np_m_goTo) rm_o (k_m_goTo_some hm hfr hx h0 h1) (by decide) ⟨rfl, rfl⟩ (Nat.le_of_ble_eq_true rfl) rfl ?_
  refine rs_if_eq (tgt := 46) d_m_seek_39 rfl (by decide) (fun hc => absurd hc (by decide)) (fun _ => ?_)
  refine rs_iconst (v := 1) d_m_seek_42 rfl (by decide) ?_
  refine rs_goto (tgt := 47) d_m_seek_43 (by decide) ?_
  exact rs_zreturn d_m_seek_47 rfl rfl ⟨rfl, rfl, rfl⟩
set_option maxRecDepth 100000 in
theorem k_m_next_down {G : rsG} {n : Nat} {S T : Nat → Nat → Int32} {lv : Nat → Nat} {th mm iu bd : Int32} {mn : Nat} {av : Int32} {hf : rsH} (hu : iu = 0) : rsK G M_m_next (rmO 3 65) [.ref (rsB G + 46)] (rmd G S T lv th mm iu bd mn av hf) n (rsOk (some (.int 0)) (rmd G S T lv 1 mm iu bd mn av hf) n) := by
  refine rsK_of pf_m_next rfl (Nat.le_of_ble_eq_true rfl) rfl ?_
  refine rs_aload_n d_m_next_0 rfl rfl ?_
  refine rs_aload_n d_m_next_1 rfl rfl ?_
  refine rx_get_iu d_m_next_2 rfl f_m_42 ?_
  refine rs_if_eq (tgt := 15) d_m_next_5 rfl (by decide) (fun _ => ?_) (fun hc => absurd (hu) hc)
  refine rs_iconst (v := 1) d_m_next_15 rfl (by decide) ?_
  refine rs_goto (tgt := 20) d_m_next_16 (by decide) ?_
  refine rx_put_th d_m_next_20 rfl p_m_26 ?_
  refine rs_aload_n d_m_next_23 rfl rfl ?_
  refine rx_get_th d_m_next_24 rfl f_m_26 ?_
  refine rs_if_ne (tgt := 47) d_m_next_27 rfl (by decide) (fun _ => ?_) (fun hc => absurd hc (by decide))
  refine rs_iconst (v := 0) d_m_next_47 rfl (by decide) ?_
  exact rs_zreturn d_m_next_48 rfl rfl ⟨rfl, rfl, rfl⟩
set_option maxRecDepth 100000 in
theorem k_m_next_nocursor {G : rsG} {n : Nat} {S T : Nat → Nat → Int32} {lv : Nat → Nat} {th mm iu bd : Int32} {mn : Nat} {av : Int32} {hf : rsH} (hu : ¬ iu = 0) (h : av = -1) : rsK G M_m_next (rmO 3 65) [.ref (rsB G + 46)] (rmd G S T lv th mm iu bd mn av hf) n (rsOk (some (.int 0)) (rmd G S T lv 1 mm iu bd mn av hf) n) := by
  refine rsK_of pf_m_next rfl (Nat.le_of_ble_eq_true rfl) rfl ?_
  refine rs_aload_n d_m_next_0 rfl rfl ?_
  refine rs_aload_n d_m_next_1 rfl rfl ?_
  refine rx_get_iu d_m_next_2 rfl f_m_42 ?_
  refine rs_if_eq (tgt := 15) d_m_next_5 rfl (by decide) (fun hc => absurd hc (hu)) (fun _ => ?_)
  refine rs_aload_n d_m_next_8 rfl rfl ?_
  refine rx_get_at d_m_next_9 rfl f_m_23 ?_
  rw [h]
  refine rs_if_ge (tgt := 19) d_m_next_12 rfl (by decide) (fun hc => absurd hc (by decide)) (fun _ => ?_)
  refine rs_iconst (v := 1) d_m_next_15 rfl (by decide) ?_
  refine rs_goto (tgt := 20) d_m_next_16 (by decide) ?_
  refine rx_put_th d_m_next_20 rfl p_m_26 ?_
  refine rs_aload_n d_m_next_23 rfl rfl ?_
  refine rx_get_th d_m_next_24 rfl f_m_26 ?_
  refine rs_if_ne (tgt := 47) d_m_next_27 rfl (by decide) (fun _ => ?_) (fun hc => absurd hc (by decide))
  refine rs_iconst (v := 0) d_m_next_47 rfl (by decide) ?_
  exact rs_zreturn d_m_next_48 rfl rfl ⟨rfl, rfl, rfl⟩
set_option maxRecDepth 100000 in
theorem k_m_next_none {G : rsG} {n : Nat} {S T : Nat → Nat → Int32} {lv : Nat → Nat} {th mm iu bd : Int32} {mn : Nat} {av : Int32} {hf : rsH} {key : Nat} (hk : key < 100) (hcu : av = nI key) (hu : ¬ iu = 0) (hm : mn ≤ 12) (h0 : ∀ i, key + 1 ≤ i → i < 100 → rm_th S mn i = 0) : rsK G M_m_next (rmO 3 65) [.ref (rsB G + 46)] (rmd G S T lv th mm iu bd mn av hf) n (rsOk (some (.int 0)) (rmd G S T lv 0 mm iu bd mn (-1) hf) n) := by
  refine rsK_of pf_m_next rfl (Nat.le_of_ble_eq_true rfl) rfl ?_
  subst hcu
  refine rs_aload_n d_m_next_0 rfl rfl ?_
  refine rs_aload_n d_m_next_1 rfl rfl ?_
  refine rx_get_iu d_m_next_2 rfl f_m_42 ?_
  refine rs_if_eq (tgt := 15) d_m_next_5 rfl (by decide) (fun hc => absurd hc (hu)) (fun _ => ?_)
  refine rs_aload_n d_m_next_8 rfl rfl ?_
  refine rx_get_at d_m_next_9 rfl f_m_23 ?_
  refine rs_if_ge (tgt := 19) d_m_next_12 rfl (by decide) (fun _ => ?_) (fun hc => absurd (Int32.not_lt.mp (nI_pos (by omega))) hc)
  refine rs_iconst (v := 0) d_m_next_19 rfl (by decide) ?_
  refine rx_put_th d_m_next_20 rfl p_m_26 ?_
  refine rs_aload_n d_m_next_23 rfl rfl ?_
  refine rx_get_th d_m_next_24 rfl f_m_26 ?_
  refine rs_if_ne (tgt := 47) d_m_next_27 rfl (by decide) (fun hc => absurd (rfl) hc) (fun _ => ?_)
  refine rs_aload_n d_m_next_30 rfl rfl ?_
  refine rs_aload_n d_m_next_31 rfl rfl ?_
  refine rx_get_at d_m_next_32 rfl f_m_23 ?_
  refine rs_iconst (v := (nI 1)) d_m_next_35 rfl (by decide) ?_
  refine rs_iadd d_m_next_36 rfl ?_
  refine rs_tope (nI_add _ _) ?_
  refine rx_cV d_m_next_37 rfl c_m_99 (by exact np_m_goTo) rm_o (k_m_goTo_none hm (by omega) h0) (by decide) ⟨rfl, rfl⟩ (Nat.le_of_ble_eq_true rfl) rfl ?_
  refine rs_if_eq (tgt := 47) d_m_next_40 rfl (by decide) (fun _ => ?_) (fun hc => absurd (rfl) hc)
  refine rs_iconst (v := 0) d_m_next_47 rfl (by decide) ?_
  exact rs_zreturn d_m_next_48 rfl rfl ⟨rfl, rfl, rfl⟩
set_option maxRecDepth 100000 in
theorem k_m_next_some {G : rsG} {n : Nat} {S T : Nat → Nat → Int32} {lv : Nat → Nat} {th mm iu bd : Int32} {mn : Nat} {av : Int32} {hf : rsH} {key : Nat} (hk : key < 100) (hcu : av = nI key) (hu : ¬ iu = 0) (hm : mn ≤ 12) {x : Nat} (hfr : key + 1 ≤ x) (hx : x < 100) (h0 : ∀ i, key + 1 ≤ i → i < x → rm_th S mn i = 0) (h1 : rm_th S mn x = 1) : rsK G M_m_next (rmO 3 65) [.ref (rsB G + 46)] (rmd G S T lv th mm iu bd mn av hf) n (rsOk (some (.int 1)) (rmd G S T lv 0 mm iu bd mn (nI x) hf) n) := by
  refine rsK_of pf_m_next rfl (Nat.le_of_ble_eq_true rfl) rfl ?_
  subst hcu
  refine rs_aload_n d_m_next_0 rfl rfl ?_
  refine rs_aload_n d_m_next_1 rfl rfl ?_
  refine rx_get_iu d_m_next_2 rfl f_m_42 ?_
  refine rs_if_eq (tgt := 15) d_m_next_5 rfl (by decide) (fun hc => absurd hc (hu)) (fun _ => ?_)
  refine rs_aload_n d_m_next_8 rfl rfl ?_
  refine rx_get_at d_m_next_9 rfl f_m_23 ?_
  refine rs_if_ge (tgt := 19) d_m_next_12 rfl (by decide) (fun _ => ?_) (fun hc => absurd (Int32.not_lt.mp (nI_pos (by omega))) hc)
  refine rs_iconst (v := 0) d_m_next_19 rfl (by decide) ?_
  refine rx_put_th d_m_next_20 rfl p_m_26 ?_
  refine rs_aload_n d_m_next_23 rfl rfl ?_
  refine rx_get_th d_m_next_24 rfl f_m_26 ?_
  refine rs_if_ne (tgt := 47) d_m_next_27 rfl (by decide) (fun hc => absurd (rfl) hc) (fun _ => ?_)
  refine rs_aload_n d_m_next_30 rfl rfl ?_
  refine rs_aload_n d_m_next_31 rfl rfl ?_
  refine rx_get_at d_m_next_32 rfl f_m_23 ?_
  refine rs_iconst (v := (nI 1)) d_m_next_35 rfl (by decide) ?_
  refine rs_iadd d_m_next_36 rfl ?_
  refine rs_tope (nI_add _ _) ?_
  refine rx_cV d_m_next_37 rfl c_m_99 (by exact np_m_goTo) rm_o (k_m_goTo_some hm hfr hx h0 h1) (by decide) ⟨rfl, rfl⟩ (Nat.le_of_ble_eq_true rfl) rfl ?_
  refine rs_if_eq (tgt := 47) d_m_next_40 rfl (by decide) (fun hc => absurd hc (by decide)) (fun _ => ?_)
  refine rs_iconst (v := 1) d_m_next_43 rfl (by decide) ?_
  refine rs_goto (tgt := 48) d_m_next_44 (by decide) ?_
  exact rs_zreturn d_m_next_48 rfl rfl ⟨rfl, rfl, rfl⟩
set_option maxRecDepth 100000 in
theorem k_m_value_none {G : rsG} {n : Nat} {S T : Nat → Nat → Int32} {lv : Nat → Nat} {th mm iu bd : Int32} {mn : Nat} {av : Int32} {hf : rsH} (h : av = -1) : rsK G M_m_value (rmO 1 22) [.ref (rsB G + 46)] (rmd G S T lv th mm iu bd mn av hf) n (rsOk (some (.int 0)) (rmd G S T lv 0 mm iu bd mn av hf) n) := by
  refine rsK_of pf_m_value rfl (Nat.le_of_ble_eq_true rfl) rfl ?_
  refine rs_aload_n d_m_value_0 rfl rfl ?_
  refine rs_iconst (v := 0) d_m_value_1 rfl (by decide) ?_
  refine rx_put_th d_m_value_2 rfl p_m_26 ?_
  refine rs_aload_n d_m_value_5 rfl rfl ?_
  refine rx_get_at d_m_value_6 rfl f_m_23 ?_
  rw [h]
  refine rs_if_ge (tgt := 16) d_m_value_9 rfl (by decide) (fun hc => absurd hc (by decide)) (fun _ => ?_)
  refine rs_iconst (v := 0) d_m_value_12 rfl (by decide) ?_
  refine rs_goto (tgt := 37) d_m_value_13 (by decide) ?_
  exact rs_ireturn d_m_value_37 rfl ⟨rfl, rfl, rfl⟩
set_option maxRecDepth 100000 in
theorem k_m_value_some {G : rsG} {n : Nat} {S T : Nat → Nat → Int32} {lv : Nat → Nat} {th mm iu bd : Int32} {mn : Nat} {av : Int32} {hf : rsH} {key : Nat} (hk : key < 100) (hcu : av = nI key) (hm : mn ≤ 12) (hn : ¬ rm_nw S mn key = none) : rsK G M_m_value (rmO 1 22) [.ref (rsB G + 46)] (rmd G S T lv th mm iu bd mn av hf) n (rsOk (some (.int (rm_vz S T mn key))) (rmd G S T lv 0 mm iu bd mn av hf) n) := by
  refine rsK_of pf_m_value rfl (Nat.le_of_ble_eq_true rfl) rfl ?_
  subst hcu
  refine rs_aload_n d_m_value_0 rfl rfl ?_
  refine rs_iconst (v := 0) d_m_value_1 rfl (by decide) ?_
  refine rx_put_th d_m_value_2 rfl p_m_26 ?_
  refine rs_aload_n d_m_value_5 rfl rfl ?_
  refine rx_get_at d_m_value_6 rfl f_m_23 ?_
  refine rs_if_ge (tgt := 16) d_m_value_9 rfl (by decide) (fun _ => ?_) (fun hc => absurd (Int32.not_lt.mp (nI_pos (by omega))) hc)
  refine rs_aload_n d_m_value_16 rfl rfl ?_
  refine rx_get_vs d_m_value_17 rfl f_m_20 ?_
  refine rs_bipush (v := (nI 100)) d_m_value_20 rfl (by decide) ?_
  refine rs_aload_n d_m_value_22 rfl rfl ?_
  refine rs_aload_n d_m_value_23 rfl rfl ?_
  refine rx_get_at d_m_value_24 rfl f_m_23 ?_
  refine rx_cV d_m_value_27 rfl c_m_39 (by exact np_m_newest) rm_o (k_m_newest hk hm) (by decide) ⟨rfl, rfl⟩ (Nat.le_of_ble_eq_true rfl) rfl ?_
  unfold rm_vz
  cases hw : rm_nw S mn key with
  | none => exact absurd hw hn
  | some j =>
    have hj := rm_nw_le hm hw
    have hj14 : j < 14 := by omega
    refine rs_imul d_m_value_30 rfl ?_
    refine rs_aload_n d_m_value_31 rfl rfl ?_
    refine rx_get_at d_m_value_32 rfl f_m_23 ?_
    refine rs_iadd d_m_value_35 rfl ?_
    refine rs_pix (rm_ix j key) ?_
    refine ry_ld_v (by first | assumption | omega) (by first | assumption | omega) d_m_value_36 rfl ?_
    exact rs_ireturn d_m_value_37 rfl ⟨rfl, rfl, rfl⟩
set_option maxRecDepth 100000 in
theorem k_m_size_down {G : rsG} {n : Nat} {S T : Nat → Nat → Int32} {lv : Nat → Nat} {th mm iu bd : Int32} {mn : Nat} {av : Int32} {hf : rsH} (hu : iu = 0) : rsK G M_m_size (rmO 2 44) [.ref (rsB G + 46)] (rmd G S T lv th mm iu bd mn av hf) n (rsOk (some (.int 0)) (rmd G S T lv 1 mm iu bd mn av hf) n) := by
  refine rsK_of pf_m_size rfl (Nat.le_of_ble_eq_true rfl) rfl ?_
  refine rs_aload_n d_m_size_0 rfl rfl ?_
  refine rs_aload_n d_m_size_1 rfl rfl ?_
  refine rx_get_iu d_m_size_2 rfl f_m_42 ?_
  refine rs_if_eq (tgt := 12) d_m_size_5 rfl (by decide) (fun _ => ?_) (fun hc => absurd (hu) hc)
  refine rs_iconst (v := 1) d_m_size_12 rfl (by decide) ?_
  refine rx_put_th d_m_size_13 rfl p_m_26 ?_
  refine rs_iconst (v := 0) d_m_size_16 rfl (by decide) ?_
  refine rs_istore_n d_m_size_17 rfl (by decide) rfl ?_
  refine rs_iconst (v := (nI 0)) d_m_size_18 rfl (by decide) ?_
  refine rs_istore_n d_m_size_19 rfl (by decide) rfl ?_
  refine rs_iload_n d_m_size_20 rfl rfl ?_
  refine rs_bipush (v := (nI 100)) d_m_size_21 rfl (by decide) ?_
  refine rs_icmp_ge (tgt := 55) d_m_size_23 rfl (by decide) (fun hc => absurd hc (nI_ge (by omega) (by omega))) (fun _ => ?_)
  refine rs_aload_n d_m_size_26 rfl rfl ?_
  refine rx_get_th d_m_size_27 rfl f_m_26 ?_
  refine rs_if_ne (tgt := 55) d_m_size_30 rfl (by decide) (fun _ => ?_) (fun hc => absurd hc (by decide))
  refine rs_iload_n d_m_size_55 rfl rfl ?_
  exact rs_ireturn d_m_size_56 rfl ⟨rfl, rfl, rfl⟩
set_option maxRecDepth 100000 in
theorem k_m_size_ok {G : rsG} {n : Nat} {S T : Nat → Nat → Int32} {lv : Nat → Nat} {th mm iu bd : Int32} {mn : Nat} {av : Int32} {hf : rsH} (hu : ¬ iu = 0) (hm : mn ≤ 12) : rsK G M_m_size (rmO 2 44) [.ref (rsB G + 46)] (rmd G S T lv th mm iu bd mn av hf) n (rsOk (some (.int (nI (rp_cnt (fun q => decide (rm_th S mn q = 1)) 100)))) (rmd G S T lv 0 mm iu bd mn av hf) n) := by
  have loop : ∀ (d i : Nat), i + d = 100 → rsV G M_m_size (rmO 2 44) (rsOk (some (.int (nI (rp_cnt (fun q => decide (rm_th S mn q = 1)) 100)))) (rmd G S T lv 0 mm iu bd mn av hf) n) 0 0 20 [some (.ref (rsB G + 46)), some (.int (nI (rp_cnt (fun q => decide (rm_th S mn q = 1)) i))), some (.int (nI i))] [] (rmd G S T lv 0 mm iu bd mn av hf) n := by
    intro d
    induction d with
    | zero =>
      intro i hi
      obtain rfl : i = 100 := by omega
      refine rs_iload_n d_m_size_20 rfl rfl ?_
      refine rs_bipush (v := (nI 100)) d_m_size_21 rfl (by decide) ?_
      refine rs_icmp_ge (tgt := 55) d_m_size_23 rfl (by decide) (fun _ => ?_) (fun hc => absurd (nI_le (by omega) (by omega)) hc)
      refine rs_iload_n d_m_size_55 rfl rfl ?_
      exact rs_ireturn d_m_size_56 rfl ⟨rfl, rfl, rfl⟩
    | succ d ih =>
      intro i hi
      have hi100 : i < 100 := by omega
      refine rs_iload_n d_m_size_20 rfl rfl ?_
      refine rs_bipush (v := (nI 100)) d_m_size_21 rfl (by decide) ?_
      refine rs_icmp_ge (tgt := 55) d_m_size_23 rfl (by decide) (fun hc => absurd hc (nI_ge (by omega) (by omega))) (fun _ => ?_)
      refine rs_aload_n d_m_size_26 rfl rfl ?_
      refine rx_get_th d_m_size_27 rfl f_m_26 ?_
      refine rs_if_ne (tgt := 55) d_m_size_30 rfl (by decide) (fun hc => absurd (rfl) hc) (fun _ => ?_)
      refine rs_iload_n d_m_size_33 rfl rfl ?_
      refine rs_aload_n d_m_size_34 rfl rfl ?_
      refine rs_iload_n d_m_size_35 rfl rfl ?_
      refine rx_cV d_m_size_36 rfl c_m_90 (by exact np_m_isThere) rm_o (k_m_isThere hi100 hm) (by decide) ⟨rfl, rfl⟩ (Nat.le_of_ble_eq_true rfl) rfl ?_
      rcases rm_th01 S mn i with e1 | e1
      · rw [e1]
        refine rs_if_eq (tgt := 46) d_m_size_39 rfl (by decide) (fun _ => ?_) (fun hc => absurd (rfl) hc)
        refine rs_iconst (v := (nI 0)) d_m_size_46 rfl (by decide) ?_
        refine rs_iadd d_m_size_47 rfl ?_
        refine rs_tope (nI_add _ _) ?_
        refine rs_istore_n d_m_size_48 rfl (by decide) rfl ?_
        refine rs_iinc d_m_size_49 rfl (by decide) rfl (rs_inc1 i) rfl ?_
        refine rs_goto (tgt := 20) d_m_size_52 (by decide) ?_
        have := ih (i + 1) (by omega)
        rw [rp_cnt_f (p := fun q => decide (rm_th S mn q = 1)) (i := i) (by simp [e1])] at this
        exact this
      · rw [e1]
        refine rs_if_eq (tgt := 46) d_m_size_39 rfl (by decide) (fun hc => absurd hc (by decide)) (fun _ => ?_)
        refine rs_iconst (v := (nI 1)) d_m_size_42 rfl (by decide) ?_
        refine rs_goto (tgt := 47) d_m_size_43 (by decide) ?_
        refine rs_iadd d_m_size_47 rfl ?_
        refine rs_tope (nI_add _ _) ?_
        refine rs_istore_n d_m_size_48 rfl (by decide) rfl ?_
        refine rs_iinc d_m_size_49 rfl (by decide) rfl (rs_inc1 i) rfl ?_
        refine rs_goto (tgt := 20) d_m_size_52 (by decide) ?_
        have := ih (i + 1) (by omega)
        rw [rp_cnt_t (p := fun q => decide (rm_th S mn q = 1)) (i := i) (by simp [e1])] at this
        exact this
  refine rsK_of pf_m_size rfl (Nat.le_of_ble_eq_true rfl) rfl ?_
  refine rs_aload_n d_m_size_0 rfl rfl ?_
  refine rs_aload_n d_m_size_1 rfl rfl ?_
  refine rx_get_iu d_m_size_2 rfl f_m_42 ?_
  refine rs_if_eq (tgt := 12) d_m_size_5 rfl (by decide) (fun hc => absurd hc (hu)) (fun _ => ?_)
  refine rs_iconst (v := 0) d_m_size_8 rfl (by decide) ?_
  refine rs_goto (tgt := 13) d_m_size_9 (by decide) ?_
  refine rx_put_th d_m_size_13 rfl p_m_26 ?_
  refine rs_iconst (v := (nI 0)) d_m_size_16 rfl (by decide) ?_
  refine rs_istore_n d_m_size_17 rfl (by decide) rfl ?_
  refine rs_iconst (v := (nI 0)) d_m_size_18 rfl (by decide) ?_
  refine rs_istore_n d_m_size_19 rfl (by decide) rfl ?_
  exact loop 100 0 (by omega)
set_option maxRecDepth 100000 in
theorem k_m_memory_down {G : rsG} {n : Nat} {S T : Nat → Nat → Int32} {lv : Nat → Nat} {th mm iu bd : Int32} {mn : Nat} {av : Int32} {hf : rsH} (hu : iu = 0) : rsK G M_m_memory (rmO 1 23) [.ref (rsB G + 46)] (rmd G S T lv th mm iu bd mn av hf) n (rsOk (some (.int (-1))) (rmd G S T lv 0 mm iu bd mn av hf) n) := by
  refine rsK_of pf_m_memory rfl (Nat.le_of_ble_eq_true rfl) rfl ?_
  refine rs_aload_n d_m_memory_0 rfl rfl ?_
  refine rs_iconst (v := 0) d_m_memory_1 rfl (by decide) ?_
  refine rx_put_th d_m_memory_2 rfl p_m_26 ?_
  refine rs_aload_n d_m_memory_5 rfl rfl ?_
  refine rx_get_iu d_m_memory_6 rfl f_m_42 ?_
  refine rs_if_eq (tgt := 21) d_m_memory_9 rfl (by decide) (fun _ => ?_) (fun hc => absurd (hu) hc)
  refine rs_iconst (v := (-1)) d_m_memory_21 rfl (by decide) ?_
  exact rs_ireturn d_m_memory_22 rfl ⟨rfl, rfl, rfl⟩
set_option maxRecDepth 100000 in
theorem k_m_memory_up {G : rsG} {n : Nat} {S T : Nat → Nat → Int32} {lv : Nat → Nat} {th mm iu bd : Int32} {mn : Nat} {av : Int32} {hf : rsH} (hu : ¬ iu = 0) : rsK G M_m_memory (rmO 1 23) [.ref (rsB G + 46)] (rmd G S T lv th mm iu bd mn av hf) n (rsOk (some (.int (nI (rm_sz S 12)))) (rmd G S T lv 0 mm iu bd mn av hf) n) := by
  refine rsK_of pf_m_memory rfl (Nat.le_of_ble_eq_true rfl) rfl ?_
  refine rs_aload_n d_m_memory_0 rfl rfl ?_
  refine rs_iconst (v := 0) d_m_memory_1 rfl (by decide) ?_
  refine rx_put_th d_m_memory_2 rfl p_m_26 ?_
  refine rs_aload_n d_m_memory_5 rfl rfl ?_
  refine rx_get_iu d_m_memory_6 rfl f_m_42 ?_
  refine rs_if_eq (tgt := 21) d_m_memory_9 rfl (by decide) (fun hc => absurd hc (hu)) (fun _ => ?_)
  refine rs_aload_n d_m_memory_12 rfl rfl ?_
  refine rs_bipush (v := (nI 12)) d_m_memory_13 rfl (by decide) ?_
  refine rx_cV d_m_memory_15 rfl c_m_32 (by exact np_m_sizeOf) rm_o (k_m_sizeOf (by decide)) (by decide) ⟨rfl, rfl⟩ (Nat.le_of_ble_eq_true rfl) rfl ?_
  refine rs_goto (tgt := 22) d_m_memory_18 (by decide) ?_
  exact rs_ireturn d_m_memory_22 rfl ⟨rfl, rfl, rfl⟩
set_option maxRecDepth 100000 in
theorem k_m_runs_bad {G : rsG} {n : Nat} {S T : Nat → Nat → Int32} {lv : Nat → Nat} {th mm iu bd : Int32} {mn : Nat} {av : Int32} {hf : rsH} {x : Int32} (hx : x < 0 ∨ 3 ≤ x) : rsK G M_m_runs (rmO 1 23) [.ref (rsB G + 46), .int x] (rmd G S T lv th mm iu bd mn av hf) n (rsOk (some (.int 0)) (rmd G S T lv 1 mm iu bd mn av hf) n) := by
  refine rsK_of pf_m_runs rfl (Nat.le_of_ble_eq_true rfl) rfl ?_
  refine rs_aload_n d_m_runs_0 rfl rfl ?_
  refine rs_iload_n d_m_runs_1 rfl rfl ?_
  refine rx_cS d_m_runs_2 rfl c_m_96 (by exact np_m_isLevel) (k_m_isLevel_no hx) (by decide) ⟨rfl, rfl⟩ (Nat.le_of_ble_eq_true rfl) rfl ?_
  refine rs_if_ne (tgt := 12) d_m_runs_5 rfl (by decide) (fun hc => absurd (rfl) hc) (fun _ => ?_)
  refine rs_iconst (v := 1) d_m_runs_8 rfl (by decide) ?_
  refine rs_goto (tgt := 24) d_m_runs_9 (by decide) ?_
  refine rx_put_th d_m_runs_24 rfl p_m_26 ?_
  refine rs_aload_n d_m_runs_27 rfl rfl ?_
  refine rx_get_th d_m_runs_28 rfl f_m_26 ?_
  refine rs_if_ne (tgt := 42) d_m_runs_31 rfl (by decide) (fun _ => ?_) (fun hc => absurd hc (by decide))
  refine rs_iconst (v := 0) d_m_runs_42 rfl (by decide) ?_
  exact rs_ireturn d_m_runs_43 rfl ⟨rfl, rfl, rfl⟩
set_option maxRecDepth 100000 in
theorem k_m_runs_down {G : rsG} {n : Nat} {S T : Nat → Nat → Int32} {lv : Nat → Nat} {th mm iu bd : Int32} {mn : Nat} {av : Int32} {hf : rsH} {ll : Nat} (hl : ll < 3) (hu : iu = 0) : rsK G M_m_runs (rmO 1 23) [.ref (rsB G + 46), .int (nI ll)] (rmd G S T lv th mm iu bd mn av hf) n (rsOk (some (.int 0)) (rmd G S T lv 2 mm iu bd mn av hf) n) := by
  refine rsK_of pf_m_runs rfl (Nat.le_of_ble_eq_true rfl) rfl ?_
  refine rs_aload_n d_m_runs_0 rfl rfl ?_
  refine rs_iload_n d_m_runs_1 rfl rfl ?_
  refine rx_cS d_m_runs_2 rfl c_m_96 (by exact np_m_isLevel) (k_m_isLevel_yes hl) (by decide) ⟨rfl, rfl⟩ (Nat.le_of_ble_eq_true rfl) rfl ?_
  refine rs_if_ne (tgt := 12) d_m_runs_5 rfl (by decide) (fun _ => ?_) (fun hc => absurd hc (by decide))
  refine rs_aload_n d_m_runs_12 rfl rfl ?_
  refine rx_get_iu d_m_runs_13 rfl f_m_42 ?_
  refine rs_if_ne (tgt := 23) d_m_runs_16 rfl (by decide) (fun hc => absurd (hu) hc) (fun _ => ?_)
  refine rs_iconst (v := 2) d_m_runs_19 rfl (by decide) ?_
  refine rs_goto (tgt := 24) d_m_runs_20 (by decide) ?_
  refine rx_put_th d_m_runs_24 rfl p_m_26 ?_
  refine rs_aload_n d_m_runs_27 rfl rfl ?_
  refine rx_get_th d_m_runs_28 rfl f_m_26 ?_
  refine rs_if_ne (tgt := 42) d_m_runs_31 rfl (by decide) (fun _ => ?_) (fun hc => absurd hc (by decide))
  refine rs_iconst (v := 0) d_m_runs_42 rfl (by decide) ?_
  exact rs_ireturn d_m_runs_43 rfl ⟨rfl, rfl, rfl⟩
set_option maxRecDepth 100000 in
theorem k_m_runs_ok {G : rsG} {n : Nat} {S T : Nat → Nat → Int32} {lv : Nat → Nat} {th mm iu bd : Int32} {mn : Nat} {av : Int32} {hf : rsH} {ll : Nat} (hl : ll < 3) (hu : ¬ iu = 0) (hm : mn ≤ 12) : rsK G M_m_runs (rmO 1 23) [.ref (rsB G + 46), .int (nI ll)] (rmd G S T lv th mm iu bd mn av hf) n (rsOk (some (.int (nI (rp_cnt (fun i => decide (nI (lv i) = nI ll)) mn)))) (rmd G S T lv 0 mm iu bd mn av hf) n) := by
  refine rsK_of pf_m_runs rfl (Nat.le_of_ble_eq_true rfl) rfl ?_
  refine rs_aload_n d_m_runs_0 rfl rfl ?_
  refine rs_iload_n d_m_runs_1 rfl rfl ?_
  refine rx_cS d_m_runs_2 rfl c_m_96 (by exact np_m_isLevel) (k_m_isLevel_yes hl) (by decide) ⟨rfl, rfl⟩ (Nat.le_of_ble_eq_true rfl) rfl ?_
  refine rs_if_ne (tgt := 12) d_m_runs_5 rfl (by decide) (fun _ => ?_) (fun hc => absurd hc (by decide))
  refine rs_aload_n d_m_runs_12 rfl rfl ?_
  refine rx_get_iu d_m_runs_13 rfl f_m_42 ?_
  refine rs_if_ne (tgt := 23) d_m_runs_16 rfl (by decide) (fun _ => ?_) (fun hc => absurd hc (hu))
  refine rs_iconst (v := 0) d_m_runs_23 rfl (by decide) ?_
  refine rx_put_th d_m_runs_24 rfl p_m_26 ?_
  refine rs_aload_n d_m_runs_27 rfl rfl ?_
  refine rx_get_th d_m_runs_28 rfl f_m_26 ?_
  refine rs_if_ne (tgt := 42) d_m_runs_31 rfl (by decide) (fun hc => absurd (rfl) hc) (fun _ => ?_)
  refine rs_aload_n d_m_runs_34 rfl rfl ?_
  refine rs_iload_n d_m_runs_35 rfl rfl ?_
  refine rx_cV d_m_runs_36 rfl c_m_71 (by exact np_m_runsOf) rm_o (k_m_runsOf hm) (by decide) ⟨rfl, rfl⟩ (Nat.le_of_ble_eq_true rfl) rfl ?_
  refine rs_goto (tgt := 43) d_m_runs_39 (by decide) ?_
  exact rs_ireturn d_m_runs_43 rfl ⟨rfl, rfl, rfl⟩
set_option maxRecDepth 100000 in
theorem k_m_entries_down {G : rsG} {n : Nat} {S T : Nat → Nat → Int32} {lv : Nat → Nat} {th mm iu bd : Int32} {mn : Nat} {av : Int32} {hf : rsH} {x y : Int32} (hu : iu = 0) : rsK G M_m_entries (rmO 1 23) [.ref (rsB G + 46), .int x, .int y] (rmd G S T lv th mm iu bd mn av hf) n (rsOk (some (.int 0)) (rmd G S T lv 1 mm iu bd mn av hf) n) := by
  refine rsK_of pf_m_entries rfl (Nat.le_of_ble_eq_true rfl) rfl ?_
  refine rs_aload_n d_m_entries_0 rfl rfl ?_
  refine rs_aload_n d_m_entries_1 rfl rfl ?_
  refine rx_get_iu d_m_entries_2 rfl f_m_42 ?_
  refine rs_if_ne (tgt := 12) d_m_entries_5 rfl (by decide) (fun hc => absurd (hu) hc) (fun _ => ?_)
  refine rs_iconst (v := 1) d_m_entries_8 rfl (by decide) ?_
  refine rs_goto (tgt := 37) d_m_entries_9 (by decide) ?_
  refine rx_put_th d_m_entries_37 rfl p_m_26 ?_
  refine rs_aload_n d_m_entries_40 rfl rfl ?_
  refine rx_get_th d_m_entries_41 rfl f_m_26 ?_
  refine rs_if_ne (tgt := 61) d_m_entries_44 rfl (by decide) (fun _ => ?_) (fun hc => absurd hc (by decide))
  refine rs_iconst (v := 0) d_m_entries_61 rfl (by decide) ?_
  exact rs_ireturn d_m_entries_62 rfl ⟨rfl, rfl, rfl⟩
set_option maxRecDepth 100000 in
theorem k_m_entries_nolevel {G : rsG} {n : Nat} {S T : Nat → Nat → Int32} {lv : Nat → Nat} {th mm iu bd : Int32} {mn : Nat} {av : Int32} {hf : rsH} {x y : Int32} (hx : x < 0 ∨ 3 ≤ x) (hu : ¬ iu = 0) : rsK G M_m_entries (rmO 1 23) [.ref (rsB G + 46), .int x, .int y] (rmd G S T lv th mm iu bd mn av hf) n (rsOk (some (.int 0)) (rmd G S T lv 2 mm iu bd mn av hf) n) := by
  refine rsK_of pf_m_entries rfl (Nat.le_of_ble_eq_true rfl) rfl ?_
  refine rs_aload_n d_m_entries_0 rfl rfl ?_
  refine rs_aload_n d_m_entries_1 rfl rfl ?_
  refine rx_get_iu d_m_entries_2 rfl f_m_42 ?_
  refine rs_if_ne (tgt := 12) d_m_entries_5 rfl (by decide) (fun _ => ?_) (fun hc => absurd hc (hu))
  refine rs_iload_n d_m_entries_12 rfl rfl ?_
  refine rx_cS d_m_entries_13 rfl c_m_96 (by exact np_m_isLevel) (k_m_isLevel_no hx) (by decide) ⟨rfl, rfl⟩ (Nat.le_of_ble_eq_true rfl) rfl ?_
  refine rs_if_eq (tgt := 32) d_m_entries_16 rfl (by decide) (fun _ => ?_) (fun hc => absurd (rfl) hc)
  refine rs_iconst (v := 2) d_m_entries_32 rfl (by decide) ?_
  refine rs_goto (tgt := 37) d_m_entries_33 (by decide) ?_
  refine rx_put_th d_m_entries_37 rfl p_m_26 ?_
  refine rs_aload_n d_m_entries_40 rfl rfl ?_
  refine rx_get_th d_m_entries_41 rfl f_m_26 ?_
  refine rs_if_ne (tgt := 61) d_m_entries_44 rfl (by decide) (fun _ => ?_) (fun hc => absurd hc (by decide))
  refine rs_iconst (v := 0) d_m_entries_61 rfl (by decide) ?_
  exact rs_ireturn d_m_entries_62 rfl ⟨rfl, rfl, rfl⟩
set_option maxRecDepth 100000 in
theorem k_m_entries_norun {G : rsG} {n : Nat} {S T : Nat → Nat → Int32} {lv : Nat → Nat} {th mm iu bd : Int32} {mn : Nat} {av : Int32} {hf : rsH} {ll : Nat} (hl : ll < 3) {y : Int32} (hy : y < 0 ∨ ¬ y < nI (rp_cnt (fun i => decide (nI (lv i) = nI ll)) mn)) (hu : ¬ iu = 0) (hm : mn ≤ 12) : rsK G M_m_entries (rmO 1 23) [.ref (rsB G + 46), .int (nI ll), .int y] (rmd G S T lv th mm iu bd mn av hf) n (rsOk (some (.int 0)) (rmd G S T lv 2 mm iu bd mn av hf) n) := by
  refine rsK_of pf_m_entries rfl (Nat.le_of_ble_eq_true rfl) rfl ?_
  refine rs_aload_n d_m_entries_0 rfl rfl ?_
  refine rs_aload_n d_m_entries_1 rfl rfl ?_
  refine rx_get_iu d_m_entries_2 rfl f_m_42 ?_
  refine rs_if_ne (tgt := 12) d_m_entries_5 rfl (by decide) (fun _ => ?_) (fun hc => absurd hc (hu))
  refine rs_iload_n d_m_entries_12 rfl rfl ?_
  refine rx_cS d_m_entries_13 rfl c_m_96 (by exact np_m_isLevel) (k_m_isLevel_yes hl) (by decide) ⟨rfl, rfl⟩ (Nat.le_of_ble_eq_true rfl) rfl ?_
  refine rs_if_eq (tgt := 32) d_m_entries_16 rfl (by decide) (fun hc => absurd hc (by decide)) (fun _ => ?_)
  refine rs_iload_n d_m_entries_19 rfl rfl ?_
  by_cases h0 : y < 0
  · refine rs_if_lt (tgt := 32) d_m_entries_20 rfl (by decide) (fun _ => ?_) (fun hc => absurd (h0) hc)
    refine rs_iconst (v := 2) d_m_entries_32 rfl (by decide) ?_
    refine rs_goto (tgt := 37) d_m_entries_33 (by decide) ?_
    refine rx_put_th d_m_entries_37 rfl p_m_26 ?_
    refine rs_aload_n d_m_entries_40 rfl rfl ?_
    refine rx_get_th d_m_entries_41 rfl f_m_26 ?_
    refine rs_if_ne (tgt := 61) d_m_entries_44 rfl (by decide) (fun _ => ?_) (fun hc => absurd hc (by decide))
    refine rs_iconst (v := 0) d_m_entries_61 rfl (by decide) ?_
    exact rs_ireturn d_m_entries_62 rfl ⟨rfl, rfl, rfl⟩
  · refine rs_if_lt (tgt := 32) d_m_entries_20 rfl (by decide) (fun hc => absurd hc (h0)) (fun _ => ?_)
    refine rs_iload_n d_m_entries_23 rfl rfl ?_
    refine rs_aload_n d_m_entries_24 rfl rfl ?_
    refine rs_iload_n d_m_entries_25 rfl rfl ?_
    refine rx_cV d_m_entries_26 rfl c_m_71 (by exact np_m_runsOf) rm_o (k_m_runsOf hm) (by decide) ⟨rfl, rfl⟩ (Nat.le_of_ble_eq_true rfl) rfl ?_
    refine rs_icmp_lt (tgt := 36) d_m_entries_29 rfl (by decide) (fun hc => absurd hc (hy.resolve_left h0)) (fun _ => ?_)
    refine rs_iconst (v := 2) d_m_entries_32 rfl (by decide) ?_
    refine rs_goto (tgt := 37) d_m_entries_33 (by decide) ?_
    refine rx_put_th d_m_entries_37 rfl p_m_26 ?_
    refine rs_aload_n d_m_entries_40 rfl rfl ?_
    refine rx_get_th d_m_entries_41 rfl f_m_26 ?_
    refine rs_if_ne (tgt := 61) d_m_entries_44 rfl (by decide) (fun _ => ?_) (fun hc => absurd hc (by decide))
    refine rs_iconst (v := 0) d_m_entries_61 rfl (by decide) ?_
    exact rs_ireturn d_m_entries_62 rfl ⟨rfl, rfl, rfl⟩
set_option maxRecDepth 100000 in
theorem k_m_entries_ok {G : rsG} {n : Nat} {S T : Nat → Nat → Int32} {lv : Nat → Nat} {th mm iu bd : Int32} {mn : Nat} {av : Int32} {hf : rsH} {ll : Nat} (hl : ll < 3) {i z : Nat} (hi : i < rp_cnt (fun q => decide (nI (lv q) = nI ll)) mn) (hu : ¬ iu = 0) (hm : mn ≤ 12) (hzi : z + i < mn) (hz : ∀ i, i < z → nI (lv i) < nI ll) (hz1 : z < mn → ¬ nI (lv z) < nI ll) : rsK G M_m_entries (rmO 1 23) [.ref (rsB G + 46), .int (nI ll), .int (nI i)] (rmd G S T lv th mm iu bd mn av hf) n (rsOk (some (.int (nI (rm_sz S (z + i))))) (rmd G S T lv 0 mm iu bd mn av hf) n) := by
  refine rsK_of pf_m_entries rfl (Nat.le_of_ble_eq_true rfl) rfl ?_
  refine rs_aload_n d_m_entries_0 rfl rfl ?_
  refine rs_aload_n d_m_entries_1 rfl rfl ?_
  refine rx_get_iu d_m_entries_2 rfl f_m_42 ?_
  refine rs_if_ne (tgt := 12) d_m_entries_5 rfl (by decide) (fun _ => ?_) (fun hc => absurd hc (hu))
  refine rs_iload_n d_m_entries_12 rfl rfl ?_
  refine rx_cS d_m_entries_13 rfl c_m_96 (by exact np_m_isLevel) (k_m_isLevel_yes hl) (by decide) ⟨rfl, rfl⟩ (Nat.le_of_ble_eq_true rfl) rfl ?_
  refine rs_if_eq (tgt := 32) d_m_entries_16 rfl (by decide) (fun hc => absurd hc (by decide)) (fun _ => ?_)
  refine rs_iload_n d_m_entries_19 rfl rfl ?_
  refine rs_if_lt (tgt := 32) d_m_entries_20 rfl (by decide) (fun hc => absurd hc (nI_pos (by omega))) (fun _ => ?_)
  refine rs_iload_n d_m_entries_23 rfl rfl ?_
  refine rs_aload_n d_m_entries_24 rfl rfl ?_
  refine rs_iload_n d_m_entries_25 rfl rfl ?_
  refine rx_cV d_m_entries_26 rfl c_m_71 (by exact np_m_runsOf) rm_o (k_m_runsOf hm) (by decide) ⟨rfl, rfl⟩ (Nat.le_of_ble_eq_true rfl) rfl ?_
  refine rs_icmp_lt (tgt := 36) d_m_entries_29 rfl (by decide) (fun _ => ?_) (fun hc => absurd (nI_lt hi (Nat.lt_of_le_of_lt (rp_cnt_bd _ _) (by omega))) hc)
  refine rs_iconst (v := 0) d_m_entries_36 rfl (by decide) ?_
  refine rx_put_th d_m_entries_37 rfl p_m_26 ?_
  refine rs_aload_n d_m_entries_40 rfl rfl ?_
  refine rx_get_th d_m_entries_41 rfl f_m_26 ?_
  refine rs_if_ne (tgt := 61) d_m_entries_44 rfl (by decide) (fun hc => absurd (rfl) hc) (fun _ => ?_)
  refine rs_aload_n d_m_entries_47 rfl rfl ?_
  refine rs_aload_n d_m_entries_48 rfl rfl ?_
  refine rs_iload_n d_m_entries_49 rfl rfl ?_
  refine rx_cV d_m_entries_50 rfl c_m_68 (by exact np_m_begin) rm_o (k_m_begin hm (by omega) hz hz1) (by decide) ⟨rfl, rfl⟩ (Nat.le_of_ble_eq_true rfl) rfl ?_
  refine rs_iload_n d_m_entries_53 rfl rfl ?_
  refine rs_iadd d_m_entries_54 rfl ?_
  refine rs_tope (nI_add _ _) ?_
  refine rx_cV d_m_entries_55 rfl c_m_32 (by exact np_m_sizeOf) rm_o (k_m_sizeOf (by omega)) (by decide) ⟨rfl, rfl⟩ (Nat.le_of_ble_eq_true rfl) rfl ?_
  refine rs_goto (tgt := 62) d_m_entries_58 (by decide) ?_
  exact rs_ireturn d_m_entries_62 rfl ⟨rfl, rfl, rfl⟩
set_option maxRecDepth 100000 in
theorem k_m_room_down {G : rsG} {n : Nat} {S T : Nat → Nat → Int32} {lv : Nat → Nat} {th mm iu bd : Int32} {mn : Nat} {av : Int32} {hf : rsH} (hu : iu = 0) : rsK G M_m_room (rmO 2 45) [.ref (rsB G + 46)] (rmd G S T lv th mm iu bd mn av hf) n (rsOk (some (.int 0)) (rmd G S T lv 1 mm iu bd mn av hf) n) := by
  refine rsK_of pf_m_room rfl (Nat.le_of_ble_eq_true rfl) rfl ?_
  refine rs_aload_n d_m_room_0 rfl rfl ?_
  refine rs_aload_n d_m_room_1 rfl rfl ?_
  refine rx_get_iu d_m_room_2 rfl f_m_42 ?_
  refine rs_if_eq (tgt := 12) d_m_room_5 rfl (by decide) (fun _ => ?_) (fun hc => absurd (hu) hc)
  refine rs_iconst (v := 1) d_m_room_12 rfl (by decide) ?_
  refine rx_put_th d_m_room_13 rfl p_m_26 ?_
  refine rs_aload_n d_m_room_16 rfl rfl ?_
  refine rx_get_th d_m_room_17 rfl f_m_26 ?_
  refine rs_if_ne (tgt := 30) d_m_room_20 rfl (by decide) (fun _ => ?_) (fun hc => absurd hc (by decide))
  refine rs_iconst (v := 0) d_m_room_30 rfl (by decide) ?_
  exact rs_ireturn d_m_room_31 rfl ⟨rfl, rfl, rfl⟩
set_option maxRecDepth 100000 in
theorem k_m_room_ok {G : rsG} {n : Nat} {S T : Nat → Nat → Int32} {lv : Nat → Nat} {th mm iu bd : Int32} {mn : Nat} {av : Int32} {hf : rsH} (hu : ¬ iu = 0) (hm : mn ≤ 12) : rsK G M_m_room (rmO 2 45) [.ref (rsB G + 46)] (rmd G S T lv th mm iu bd mn av hf) n (rsOk (some (.int (nI 40 - nI (rm_free S mn)))) (rmd G S T lv 0 mm iu bd mn av hf) n) := by
  refine rsK_of pf_m_room rfl (Nat.le_of_ble_eq_true rfl) rfl ?_
  refine rs_aload_n d_m_room_0 rfl rfl ?_
  refine rs_aload_n d_m_room_1 rfl rfl ?_
  refine rx_get_iu d_m_room_2 rfl f_m_42 ?_
  refine rs_if_eq (tgt := 12) d_m_room_5 rfl (by decide) (fun hc => absurd hc (hu)) (fun _ => ?_)
  refine rs_iconst (v := 0) d_m_room_8 rfl (by decide) ?_
  refine rs_goto (tgt := 13) d_m_room_9 (by decide) ?_
  refine rx_put_th d_m_room_13 rfl p_m_26 ?_
  refine rs_aload_n d_m_room_16 rfl rfl ?_
  refine rx_get_th d_m_room_17 rfl f_m_26 ?_
  refine rs_if_ne (tgt := 30) d_m_room_20 rfl (by decide) (fun hc => absurd (rfl) hc) (fun _ => ?_)
  refine rs_aload_n d_m_room_23 rfl rfl ?_
  refine rx_cV d_m_room_24 rfl c_m_57 (by exact np_m_freeBlocks) rm_o (k_m_freeBlocks hm) (by decide) ⟨rfl, rfl⟩ (Nat.le_of_ble_eq_true rfl) rfl ?_
  refine rs_goto (tgt := 31) d_m_room_27 (by decide) ?_
  exact rs_ireturn d_m_room_31 rfl ⟨rfl, rfl, rfl⟩
set_option maxRecDepth 100000 in
theorem k_m_recover_up {G : rsG} {n : Nat} {S T : Nat → Nat → Int32} {lv : Nat → Nat} {th mm iu bd : Int32} {mn : Nat} {av : Int32} {hf : rsH} (hu : ¬ iu = 0) : rsK G M_m_recover (rmO 0 0) [.ref (rsB G + 46)] (rmd G S T lv th mm iu bd mn av hf) n (rsOk (some (.int 0)) (rmd G S T lv 1 mm iu bd mn av hf) n) := by
  refine rsK_of pf_m_recover rfl (Nat.le_of_ble_eq_true rfl) rfl ?_
  refine rs_aload_n d_m_recover_0 rfl rfl ?_
  refine rs_aload_n d_m_recover_1 rfl rfl ?_
  refine rx_get_iu d_m_recover_2 rfl f_m_42 ?_
  refine rs_if_ne (tgt := 15) d_m_recover_5 rfl (by decide) (fun _ => ?_) (fun hc => absurd hc (hu))
  refine rs_iconst (v := 1) d_m_recover_15 rfl (by decide) ?_
  refine rs_goto (tgt := 20) d_m_recover_16 (by decide) ?_
  refine rx_put_th d_m_recover_20 rfl p_m_26 ?_
  refine rs_aload_n d_m_recover_23 rfl rfl ?_
  refine rx_get_th d_m_recover_24 rfl f_m_26 ?_
  refine rs_if_eq (tgt := 32) d_m_recover_27 rfl (by decide) (fun hc => absurd hc (by decide)) (fun _ => ?_)
  refine rs_iconst (v := 0) d_m_recover_30 rfl (by decide) ?_
  exact rs_ireturn d_m_recover_31 rfl ⟨rfl, rfl, rfl⟩
set_option maxRecDepth 100000 in
theorem k_m_recover_nodisk {G : rsG} {n : Nat} {S T : Nat → Nat → Int32} {lv : Nat → Nat} {th mm iu bd : Int32} {mn : Nat} {av : Int32} {hf : rsH} (hu : iu = 0) (h : mm = 0) : rsK G M_m_recover (rmO 0 0) [.ref (rsB G + 46)] (rmd G S T lv th mm iu bd mn av hf) n (rsOk (some (.int 0)) (rmd G S T lv 1 mm iu bd mn av hf) n) := by
  refine rsK_of pf_m_recover rfl (Nat.le_of_ble_eq_true rfl) rfl ?_
  refine rs_aload_n d_m_recover_0 rfl rfl ?_
  refine rs_aload_n d_m_recover_1 rfl rfl ?_
  refine rx_get_iu d_m_recover_2 rfl f_m_42 ?_
  refine rs_if_ne (tgt := 15) d_m_recover_5 rfl (by decide) (fun hc => absurd (hu) hc) (fun _ => ?_)
  refine rs_aload_n d_m_recover_8 rfl rfl ?_
  refine rx_get_mm d_m_recover_9 rfl f_m_77 ?_
  refine rs_if_ne (tgt := 19) d_m_recover_12 rfl (by decide) (fun hc => absurd (h) hc) (fun _ => ?_)
  refine rs_iconst (v := 1) d_m_recover_15 rfl (by decide) ?_
  refine rs_goto (tgt := 20) d_m_recover_16 (by decide) ?_
  refine rx_put_th d_m_recover_20 rfl p_m_26 ?_
  refine rs_aload_n d_m_recover_23 rfl rfl ?_
  refine rx_get_th d_m_recover_24 rfl f_m_26 ?_
  refine rs_if_eq (tgt := 32) d_m_recover_27 rfl (by decide) (fun hc => absurd hc (by decide)) (fun _ => ?_)
  refine rs_iconst (v := 0) d_m_recover_30 rfl (by decide) ?_
  exact rs_ireturn d_m_recover_31 rfl ⟨rfl, rfl, rfl⟩
set_option maxRecDepth 100000 in
theorem k_m_recover_ok {G : rsG} {n : Nat} {S T : Nat → Nat → Int32} {lv : Nat → Nat} {th mm iu bd : Int32} {mn : Nat} {av : Int32} {hf : rsH} (hu : iu = 0) (h : ¬ mm = 0) : rsK G M_m_recover (rmO 0 0) [.ref (rsB G + 46)] (rmd G S T lv th mm iu bd mn av hf) n (rsOk (some (.int (nI mn))) (rmd G S T lv 0 mm 1 bd mn (-1) hf) n) := by
  refine rsK_of pf_m_recover rfl (Nat.le_of_ble_eq_true rfl) rfl ?_
  refine rs_aload_n d_m_recover_0 rfl rfl ?_
  refine rs_aload_n d_m_recover_1 rfl rfl ?_
  refine rx_get_iu d_m_recover_2 rfl f_m_42 ?_
  refine rs_if_ne (tgt := 15) d_m_recover_5 rfl (by decide) (fun hc => absurd (hu) hc) (fun _ => ?_)
  refine rs_aload_n d_m_recover_8 rfl rfl ?_
  refine rx_get_mm d_m_recover_9 rfl f_m_77 ?_
  refine rs_if_ne (tgt := 19) d_m_recover_12 rfl (by decide) (fun _ => ?_) (fun hc => absurd hc (h))
  refine rs_iconst (v := 0) d_m_recover_19 rfl (by decide) ?_
  refine rx_put_th d_m_recover_20 rfl p_m_26 ?_
  refine rs_aload_n d_m_recover_23 rfl rfl ?_
  refine rx_get_th d_m_recover_24 rfl f_m_26 ?_
  refine rs_if_eq (tgt := 32) d_m_recover_27 rfl (by decide) (fun _ => ?_) (fun hc => absurd (rfl) hc)
  refine rs_aload_n d_m_recover_32 rfl rfl ?_
  refine rs_iconst (v := 1) d_m_recover_33 rfl (by decide) ?_
  refine rx_put_iu d_m_recover_34 rfl p_m_42 rfl rfl ?_
  refine rs_aload_n d_m_recover_37 rfl rfl ?_
  refine rs_iconst (v := (-1)) d_m_recover_38 rfl (by decide) ?_
  refine rx_put_at d_m_recover_39 rfl p_m_23 ?_
  refine rs_aload_n d_m_recover_42 rfl rfl ?_
  refine rx_get_mn d_m_recover_43 rfl f_m_29 ?_
  exact rs_ireturn d_m_recover_46 rfl ⟨rfl, rfl, rfl⟩
set_option maxRecDepth 100000 in
theorem k_m_format_ok {G : rsG} {n : Nat} {S T : Nat → Nat → Int32} {lv : Nat → Nat} {th mm iu bd : Int32} {mn : Nat} {av : Int32} {hf : rsH} {bd' : Int32} (hbd : bd = -1 ∨ 0 ≤ bd) (h : rp_sp bd (nI 1) = some bd') : rsK G M_m_format (rmO 3 63) [.ref (rsB G + 46)] (rmd G S T lv th mm iu bd mn av hf) n (rsOk (none) (rmd G (rm_zr S 12) (rm_zr T 12) lv 0 1 1 bd' 0 (-1) hf) n) := by
  refine rsK_of pf_m_format rfl (Nat.le_of_ble_eq_true rfl) rfl ?_
  refine rs_aload_n d_m_format_0 rfl rfl ?_
  refine rs_aload_n d_m_format_1 rfl rfl ?_
  refine rs_iconst (v := (nI 1)) d_m_format_2 rfl (by decide) ?_
  refine rx_cV d_m_format_3 rfl c_m_61 (by exact np_m_writes) rm_o (k_m_writes_ok hbd h) (by decide) ⟨rfl, rfl⟩ (Nat.le_of_ble_eq_true rfl) rfl ?_
  refine rs_if_eq (tgt := 13) d_m_format_6 rfl (by decide) (fun hc => absurd hc (by decide)) (fun _ => ?_)
  refine rs_iconst (v := 0) d_m_format_9 rfl (by decide) ?_
  refine rs_goto (tgt := 14) d_m_format_10 (by decide) ?_
  refine rx_put_th d_m_format_14 rfl p_m_26 ?_
  refine rs_aload_n d_m_format_17 rfl rfl ?_
  refine rx_get_th d_m_format_18 rfl f_m_26 ?_
  refine rs_if_ne (tgt := 50) d_m_format_21 rfl (by decide) (fun hc => absurd (rfl) hc) (fun _ => ?_)
  refine rs_aload_n d_m_format_24 rfl rfl ?_
  refine rs_iconst (v := 1) d_m_format_25 rfl (by decide) ?_
  refine rx_put_mm d_m_format_26 rfl p_m_77 rfl rfl ?_
  refine rs_aload_n d_m_format_29 rfl rfl ?_
  refine rs_iconst (v := 1) d_m_format_30 rfl (by decide) ?_
  refine rx_put_iu d_m_format_31 rfl p_m_42 rfl rfl ?_
  refine rs_aload_n d_m_format_34 rfl rfl ?_
  refine rs_iconst (v := (nI 0)) d_m_format_35 rfl (by decide) ?_
  refine rx_put_mn d_m_format_36 rfl p_m_29 ?_
  refine rs_aload_n d_m_format_39 rfl rfl ?_
  refine rs_iconst (v := (-1)) d_m_format_40 rfl (by decide) ?_
  refine rx_put_at d_m_format_41 rfl p_m_23 ?_
  refine rs_aload_n d_m_format_44 rfl rfl ?_
  refine rs_bipush (v := (nI 12)) d_m_format_45 rfl (by decide) ?_
  refine rx_cV d_m_format_47 rfl c_m_46 (by exact np_m_clearRow) rm_o (k_m_clearRow (by decide)) (by decide) ⟨rfl, rfl⟩ (Nat.le_of_ble_eq_true rfl) rfl ?_
  exact rs_vreturn d_m_format_50 rfl ⟨rfl, rfl, rfl⟩
set_option maxRecDepth 100000 in
theorem k_m_format_no {G : rsG} {n : Nat} {S T : Nat → Nat → Int32} {lv : Nat → Nat} {th mm iu bd : Int32} {mn : Nat} {av : Int32} {hf : rsH} (hbd : bd = -1 ∨ 0 ≤ bd) (h : rp_sp bd (nI 1) = none) : rsK G M_m_format (rmO 3 63) [.ref (rsB G + 46)] (rmd G S T lv th mm iu bd mn av hf) n (rsOk (none) (rmd G (rm_zr S 12) (rm_zr T 12) lv 1 mm 0 (-1) mn (-1) hf) n) := by
  refine rsK_of pf_m_format rfl (Nat.le_of_ble_eq_true rfl) rfl ?_
  refine rs_aload_n d_m_format_0 rfl rfl ?_
  refine rs_aload_n d_m_format_1 rfl rfl ?_
  refine rs_iconst (v := (nI 1)) d_m_format_2 rfl (by decide) ?_
  refine rx_cV d_m_format_3 rfl c_m_61 (by exact np_m_writes) rm_o (k_m_writes_no hbd h) (by decide) ⟨rfl, rfl⟩ (Nat.le_of_ble_eq_true rfl) rfl ?_
  refine rs_if_eq (tgt := 13) d_m_format_6 rfl (by decide) (fun _ => ?_) (fun hc => absurd (rfl) hc)
  refine rs_iconst (v := 1) d_m_format_13 rfl (by decide) ?_
  refine rx_put_th d_m_format_14 rfl p_m_26 ?_
  refine rs_aload_n d_m_format_17 rfl rfl ?_
  refine rx_get_th d_m_format_18 rfl f_m_26 ?_
  refine rs_if_ne (tgt := 50) d_m_format_21 rfl (by decide) (fun _ => ?_) (fun hc => absurd hc (by decide))
  exact rs_vreturn d_m_format_50 rfl ⟨rfl, rfl, rfl⟩
