/-! 22: the reference: insert, takeOut, flushed, merged, enter (written by gen_model2.py) -/
set_option maxRecDepth 100000 in
theorem k_m_insert {G : rsG} {n : Nat} {S T : Nat → Nat → Int32} {lv : Nat → Nat} {th mm iu bd : Int32} {mn : Nat} {av : Int32} {hf : rsH} {p ll : Nat} (hm : mn ≤ 11) (hp : p ≤ mn) : rsK G M_m_insert (rmO 1 23) [.ref (rsB G + 46), .int (nI p), .int (nI ll)] (rmd G S T lv th mm iu bd mn av hf) n (rsOk none (rmd G (rm_cp (rm_D mn S p) 13 p) (rm_cp (rm_D mn T p) 13 p) (va_up (rm_D mn lv p) p ll) th mm iu bd (mn + 1) av hf) n) := by
  have loop : ∀ (d i : Nat), p + d = i → i ≤ mn → rsV G M_m_insert (rmO 1 23) (rsOk none (rmd G (rm_cp (rm_D mn S p) 13 p) (rm_cp (rm_D mn T p) 13 p) (va_up (rm_D mn lv p) p ll) th mm iu bd (mn + 1) av hf) n) 0 0 5 [some (.ref (rsB G + 46)), some (.int (nI p)), some (.int (nI ll)), some (.int (nI i))] [] (rmd G (rm_D mn S i) (rm_D mn T i) (rm_D mn lv i) th mm iu bd mn av hf) n := by
    intro d
    induction d with
    | zero =>
      intro i hi him
      obtain rfl : i = p := by omega
      refine rs_iload_n d_m_insert_5 rfl rfl ?_
      refine rs_iload_n d_m_insert_6 rfl rfl ?_
      refine rs_icmp_le (tgt := 38) d_m_insert_7 rfl (by decide) (fun _ => ?_) (fun hc => absurd (nI_le (by omega) (by omega)) hc)
      refine rs_aload_n d_m_insert_38 rfl rfl ?_
      refine rs_bipush (v := (nI 13)) d_m_insert_39 rfl (by decide) ?_
      refine rs_iload_n d_m_insert_41 rfl rfl ?_
      refine rx_cV d_m_insert_42 rfl c_m_53 (by exact np_m_copyRow) rm_o (k_m_copyRow (by decide) (by omega)) (by decide) ⟨rfl, rfl⟩ (Nat.le_of_ble_eq_true rfl) rfl ?_
      refine rs_aload_n d_m_insert_45 rfl rfl ?_
      refine rx_get_lv d_m_insert_46 rfl f_m_13 ?_
      refine rs_iload_n d_m_insert_49 rfl rfl ?_
      refine rs_iload_n d_m_insert_50 rfl rfl ?_
      refine ry_st_l (by first | assumption | omega) d_m_insert_51 rfl ?_
      refine rs_aload_n d_m_insert_52 rfl rfl ?_
      refine rs_dup d_m_insert_53 rfl rfl ?_
      refine rx_get_mn d_m_insert_54 rfl f_m_29 ?_
      refine rs_iconst (v := (nI 1)) d_m_insert_57 rfl (by decide) ?_
      refine rs_iadd d_m_insert_58 rfl ?_
      refine rs_tope (nI_add _ _) ?_
      refine rx_put_mn d_m_insert_59 rfl p_m_29 ?_
      exact rs_vreturn d_m_insert_62 rfl ⟨rfl, rfl, rfl⟩
    | succ d ih =>
      intro i hi him
      obtain ⟨k, rfl⟩ : ∃ k, i = k + 1 := ⟨i - 1, by omega⟩
      refine rs_iload_n d_m_insert_5 rfl rfl ?_
      refine rs_iload_n d_m_insert_6 rfl rfl ?_
      refine rs_icmp_le (tgt := 38) d_m_insert_7 rfl (by decide) (fun hc => absurd hc (nI_ge (by omega) (by omega))) (fun _ => ?_)
      refine rs_aload_n d_m_insert_10 rfl rfl ?_
      refine rs_iload_n d_m_insert_11 rfl rfl ?_
      refine rs_iconst (v := (nI 1)) d_m_insert_12 rfl (by decide) ?_
      refine rs_isub d_m_insert_13 rfl ?_
      refine rs_tope (y := nI k) (by rw [pk_sub (by omega), Nat.add_sub_cancel]) ?_
      refine rs_iload_n d_m_insert_14 rfl rfl ?_
      refine rx_cV d_m_insert_15 rfl c_m_53 (by exact np_m_copyRow) rm_o (k_m_copyRow (by omega) (by omega)) (by decide) ⟨rfl, rfl⟩ (Nat.le_of_ble_eq_true rfl) rfl ?_
      rw [show rm_cp (rm_D mn S (k + 1)) k (k + 1) = rm_D mn S k from rm_Du S (by omega), show rm_cp (rm_D mn T (k + 1)) k (k + 1) = rm_D mn T k from rm_Du T (by omega)]
      refine rs_aload_n d_m_insert_18 rfl rfl ?_
      refine rx_get_lv d_m_insert_19 rfl f_m_13 ?_
      refine rs_iload_n d_m_insert_22 rfl rfl ?_
      refine rs_aload_n d_m_insert_23 rfl rfl ?_
      refine rx_get_lv d_m_insert_24 rfl f_m_13 ?_
      refine rs_iload_n d_m_insert_27 rfl rfl ?_
      refine rs_iconst (v := (nI 1)) d_m_insert_28 rfl (by decide) ?_
      refine rs_isub d_m_insert_29 rfl ?_
      refine rs_tope (y := nI k) (by rw [pk_sub (by omega), Nat.add_sub_cancel]) ?_
      refine ry_ld_l (by first | assumption | omega) d_m_insert_30 rfl ?_
      refine ry_st_l (by first | assumption | omega) d_m_insert_31 rfl ?_
      rw [rm_Du lv (by omega)]
      refine rs_iinc d_m_insert_32 rfl (by decide) rfl (rs_dec1 k) rfl ?_
      refine rs_goto (tgt := 5) d_m_insert_35 (by decide) ?_
      exact ih k (by omega) (by omega)
  refine rsK_of pf_m_insert rfl (Nat.le_of_ble_eq_true rfl) rfl ?_
  refine rs_aload_n d_m_insert_0 rfl rfl ?_
  refine rx_get_mn d_m_insert_1 rfl f_m_29 ?_
  refine rs_istore_n d_m_insert_4 rfl (by decide) rfl ?_
  refine rsV_eq ?_ (loop (mn - p) mn (by omega) (by omega))
  rw [rm_Dm, rm_Dm, rm_Dm]
set_option maxRecDepth 100000 in
theorem k_m_takeOut {G : rsG} {n : Nat} {S T : Nat → Nat → Int32} {lv : Nat → Nat} {th mm iu bd : Int32} {mn : Nat} {av : Int32} {hf : rsH} {p : Nat} (hm : mn ≤ 11) (hp : p ≤ mn) : rsK G M_m_takeOut (rmO 1 23) [.ref (rsB G + 46), .int (nI p)] (rmd G S T lv th mm iu bd (mn + 1) av hf) n (rsOk none (rmd G (rm_E S p mn) (rm_E T p mn) (rm_E lv p mn) th mm iu bd mn av hf) n) := by
  have loop : ∀ (d i : Nat), i + d = mn → p ≤ i → rsV G M_m_takeOut (rmO 1 23) (rsOk none (rmd G (rm_E S p mn) (rm_E T p mn) (rm_E lv p mn) th mm iu bd mn av hf) n) 0 0 12 [some (.ref (rsB G + 46)), some (.int (nI p)), some (.int (nI i))] [] (rmd G (rm_E S p i) (rm_E T p i) (rm_E lv p i) th mm iu bd mn av hf) n := by
    intro d
    induction d with
    | zero =>
      intro i hi hpi
      obtain rfl : i = mn := by omega
      refine rs_iload_n d_m_takeOut_12 rfl rfl ?_
      refine rs_aload_n d_m_takeOut_13 rfl rfl ?_
      refine rx_get_mn d_m_takeOut_14 rfl f_m_29 ?_
      refine rs_icmp_ge (tgt := 48) d_m_takeOut_17 rfl (by decide) (fun _ => ?_) (fun hc => absurd (nI_le (by omega) (by omega)) hc)
      exact rs_vreturn d_m_takeOut_48 rfl ⟨rfl, rfl, rfl⟩
    | succ d ih =>
      intro i hi hpi
      refine rs_iload_n d_m_takeOut_12 rfl rfl ?_
      refine rs_aload_n d_m_takeOut_13 rfl rfl ?_
      refine rx_get_mn d_m_takeOut_14 rfl f_m_29 ?_
      refine rs_icmp_ge (tgt := 48) d_m_takeOut_17 rfl (by decide) (fun hc => absurd hc (nI_ge (by omega) (by omega))) (fun _ => ?_)
      refine rs_aload_n d_m_takeOut_20 rfl rfl ?_
      refine rs_iload_n d_m_takeOut_21 rfl rfl ?_
      refine rs_iconst (v := (nI 1)) d_m_takeOut_22 rfl (by decide) ?_
      refine rs_iadd d_m_takeOut_23 rfl ?_
      refine rs_tope (nI_add _ _) ?_
      refine rs_iload_n d_m_takeOut_24 rfl rfl ?_
      refine rx_cV d_m_takeOut_25 rfl c_m_53 (by exact np_m_copyRow) rm_o (k_m_copyRow (by omega) (by omega)) (by decide) ⟨rfl, rfl⟩ (Nat.le_of_ble_eq_true rfl) rfl ?_
      rw [show rm_cp (rm_E S p i) (i + 1) i = rm_E S p (i + 1) from rm_Eu S hpi, show rm_cp (rm_E T p i) (i + 1) i = rm_E T p (i + 1) from rm_Eu T hpi]
      refine rs_aload_n d_m_takeOut_28 rfl rfl ?_
      refine rx_get_lv d_m_takeOut_29 rfl f_m_13 ?_
      refine rs_iload_n d_m_takeOut_32 rfl rfl ?_
      refine rs_aload_n d_m_takeOut_33 rfl rfl ?_
      refine rx_get_lv d_m_takeOut_34 rfl f_m_13 ?_
      refine rs_iload_n d_m_takeOut_37 rfl rfl ?_
      refine rs_iconst (v := (nI 1)) d_m_takeOut_38 rfl (by decide) ?_
      refine rs_iadd d_m_takeOut_39 rfl ?_
      refine rs_tope (nI_add _ _) ?_
      refine ry_ld_l (by first | assumption | omega) d_m_takeOut_40 rfl ?_
      refine ry_st_l (by first | assumption | omega) d_m_takeOut_41 rfl ?_
      rw [rm_Eu lv hpi]
      refine rs_iinc d_m_takeOut_42 rfl (by decide) rfl (rs_inc1 i) rfl ?_
      refine rs_goto (tgt := 12) d_m_takeOut_45 (by decide) ?_
      exact ih (i + 1) (by omega) (by omega)
  refine rsK_of pf_m_takeOut rfl (Nat.le_of_ble_eq_true rfl) rfl ?_
  refine rs_aload_n d_m_takeOut_0 rfl rfl ?_
  refine rs_dup d_m_takeOut_1 rfl rfl ?_
  refine rx_get_mn d_m_takeOut_2 rfl f_m_29 ?_
  refine rs_iconst (v := (nI 1)) d_m_takeOut_5 rfl (by decide) ?_
  refine rs_isub d_m_takeOut_6 rfl ?_
  refine rs_tope (y := nI mn) (by rw [pk_sub (by omega), Nat.add_sub_cancel]) ?_
  refine rx_put_mn d_m_takeOut_7 rfl p_m_29 ?_
  refine rs_iload_n d_m_takeOut_10 rfl rfl ?_
  refine rs_istore_n d_m_takeOut_11 rfl (by decide) rfl ?_
  refine rsV_eq ?_ (loop (mn - p) p (by omega) (by omega))
  rw [rm_E0, rm_E0, rm_E0]
theorem rp_nz0 {x : Nat} (h : 0 < x) (h2 : x < 2 ^ 31) : ¬ nI x = 0 := fun e => by
  have h1 := congrArg Int32.toInt e
  rw [nI_toInt h2] at h1
  have h3 : (0 : Int32).toInt = 0 := by decide
  rw [h3] at h1
  omega
theorem rp_ne {x y : Nat} (h : x ≠ y) (h2 : x < 2 ^ 31) (h3 : y < 2 ^ 31) : ¬ nI x = nI y := fun e => by
  have h1 := congrArg Int32.toInt e
  rw [nI_toInt h2, nI_toInt h3] at h1
  omega
set_option maxRecDepth 100000 in
theorem k_m_fl_zero {G : rsG} {n : Nat} {S T : Nat → Nat → Int32} {lv : Nat → Nat} {th mm iu bd : Int32} {mn : Nat} {av : Int32} {hf : rsH} (h0 : (rm_sz S 12) = 0) : rsK G M_m_flushed (rmO 3 63) [.ref (rsB G + 46)] (rmd G S T lv th mm iu bd mn av hf) n (rsOk (some (.int 0)) (rmd G S T lv th mm iu bd mn av hf) n) := by
  refine rsK_of pf_m_flushed rfl (Nat.le_of_ble_eq_true rfl) rfl ?_
  refine rs_aload_n d_m_flushed_0 rfl rfl ?_
  refine rs_bipush (v := (nI 12)) d_m_flushed_1 rfl (by decide) ?_
  refine rx_cV d_m_flushed_3 rfl c_m_32 (by exact np_m_sizeOf) rm_o (k_m_sizeOf (by decide)) (by decide) ⟨rfl, rfl⟩ (Nat.le_of_ble_eq_true rfl) rfl ?_
  refine rs_istore_n d_m_flushed_6 rfl (by decide) rfl ?_
  refine rs_iload_n d_m_flushed_7 rfl rfl ?_
  rw [h0]
  refine rs_if_ne (tgt := 13) d_m_flushed_8 rfl (by decide) (fun hc => absurd (nI_0) hc) (fun _ => ?_)
  refine rs_iconst (v := 0) d_m_flushed_11 rfl (by decide) ?_
  exact rs_ireturn d_m_flushed_12 rfl ⟨rfl, rfl, rfl⟩
set_option maxRecDepth 100000 in
theorem k_m_fl_full {G : rsG} {n : Nat} {S T : Nat → Nat → Int32} {lv : Nat → Nat} {th mm iu bd : Int32} {mn : Nat} {av : Int32} {hf : rsH} (h0 : 0 < (rm_sz S 12)) (hm : mn = 12) : rsK G M_m_flushed (rmO 3 63) [.ref (rsB G + 46)] (rmd G S T lv th mm iu bd mn av hf) n (rsOk (some (.int 2)) (rmd G S T lv th mm iu bd mn av hf) n) := by
  refine rsK_of pf_m_flushed rfl (Nat.le_of_ble_eq_true rfl) rfl ?_
  subst hm
  refine rs_aload_n d_m_flushed_0 rfl rfl ?_
  refine rs_bipush (v := (nI 12)) d_m_flushed_1 rfl (by decide) ?_
  refine rx_cV d_m_flushed_3 rfl c_m_32 (by exact np_m_sizeOf) rm_o (k_m_sizeOf (by decide)) (by decide) ⟨rfl, rfl⟩ (Nat.le_of_ble_eq_true rfl) rfl ?_
  refine rs_istore_n d_m_flushed_6 rfl (by decide) rfl ?_
  refine rs_iload_n d_m_flushed_7 rfl rfl ?_
  refine rs_if_ne (tgt := 13) d_m_flushed_8 rfl (by decide) (fun _ => ?_) (fun hc => absurd hc (rp_nz0 h0 (by have := rm_sz_le S 12; omega)))
  refine rs_aload_n d_m_flushed_13 rfl rfl ?_
  refine rx_get_mn d_m_flushed_14 rfl f_m_29 ?_
  refine rs_bipush (v := (nI 12)) d_m_flushed_17 rfl (by decide) ?_
  refine rs_icmp_eq (tgt := 33) d_m_flushed_19 rfl (by decide) (fun _ => ?_) (fun hc => absurd (rfl) hc)
  refine rs_iconst (v := 2) d_m_flushed_33 rfl (by decide) ?_
  exact rs_ireturn d_m_flushed_34 rfl ⟨rfl, rfl, rfl⟩
set_option maxRecDepth 100000 in
theorem k_m_fl_noroom {G : rsG} {n : Nat} {S T : Nat → Nat → Int32} {lv : Nat → Nat} {th mm iu bd : Int32} {mn : Nat} {av : Int32} {hf : rsH} (h0 : 0 < (rm_sz S 12)) (hm : mn < 12) (hr : ¬ nI (((rm_sz S 12) + 3) / 4) ≤ (nI 40 - nI (rm_free S mn))) : rsK G M_m_flushed (rmO 3 63) [.ref (rsB G + 46)] (rmd G S T lv th mm iu bd mn av hf) n (rsOk (some (.int 2)) (rmd G S T lv th mm iu bd mn av hf) n) := by
  refine rsK_of pf_m_flushed rfl (Nat.le_of_ble_eq_true rfl) rfl ?_
  refine rs_aload_n d_m_flushed_0 rfl rfl ?_
  refine rs_bipush (v := (nI 12)) d_m_flushed_1 rfl (by decide) ?_
  refine rx_cV d_m_flushed_3 rfl c_m_32 (by exact np_m_sizeOf) rm_o (k_m_sizeOf (by decide)) (by decide) ⟨rfl, rfl⟩ (Nat.le_of_ble_eq_true rfl) rfl ?_
  refine rs_istore_n d_m_flushed_6 rfl (by decide) rfl ?_
  refine rs_iload_n d_m_flushed_7 rfl rfl ?_
  refine rs_if_ne (tgt := 13) d_m_flushed_8 rfl (by decide) (fun _ => ?_) (fun hc => absurd hc (rp_nz0 h0 (by have := rm_sz_le S 12; omega)))
  refine rs_aload_n d_m_flushed_13 rfl rfl ?_
  refine rx_get_mn d_m_flushed_14 rfl f_m_29 ?_
  refine rs_bipush (v := (nI 12)) d_m_flushed_17 rfl (by decide) ?_
  refine rs_icmp_eq (tgt := 33) d_m_flushed_19 rfl (by decide) (fun hc => absurd hc (rp_ne (by omega) (by omega) (by omega))) (fun _ => ?_)
  refine rs_iload_n d_m_flushed_22 rfl rfl ?_
  refine rx_cS d_m_flushed_23 rfl c_m_36 (by exact np_m_blocksFor) (k_m_blocksFor (rm_sz_le S 12)) (by decide) ⟨rfl, rfl⟩ (Nat.le_of_ble_eq_true rfl) rfl ?_
  refine rs_aload_n d_m_flushed_26 rfl rfl ?_
  refine rx_cV d_m_flushed_27 rfl c_m_57 (by exact np_m_freeBlocks) rm_o (k_m_freeBlocks (by omega)) (by decide) ⟨rfl, rfl⟩ (Nat.le_of_ble_eq_true rfl) rfl ?_
  refine rs_icmp_le (tgt := 35) d_m_flushed_30 rfl (by decide) (fun hc => absurd hc (hr)) (fun _ => ?_)
  refine rs_iconst (v := 2) d_m_flushed_33 rfl (by decide) ?_
  exact rs_ireturn d_m_flushed_34 rfl ⟨rfl, rfl, rfl⟩
set_option maxRecDepth 100000 in
theorem k_m_fl_down {G : rsG} {n : Nat} {S T : Nat → Nat → Int32} {lv : Nat → Nat} {th mm iu bd : Int32} {mn : Nat} {av : Int32} {hf : rsH} (h0 : 0 < (rm_sz S 12)) (hm : mn < 12) (hr : nI (((rm_sz S 12) + 3) / 4) ≤ (nI 40 - nI (rm_free S mn))) (hbd : bd = -1 ∨ 0 ≤ bd) (hw : rp_sp bd (nI ((((rm_sz S 12) + 3) / 4) + 1)) = none) : rsK G M_m_flushed (rmO 3 63) [.ref (rsB G + 46)] (rmd G S T lv th mm iu bd mn av hf) n (rsOk (some (.int 1)) (rmd G (rm_zr S 12) (rm_zr T 12) lv th mm 0 (-1) mn (-1) hf) n) := by
  refine rsK_of pf_m_flushed rfl (Nat.le_of_ble_eq_true rfl) rfl ?_
  refine rs_aload_n d_m_flushed_0 rfl rfl ?_
  refine rs_bipush (v := (nI 12)) d_m_flushed_1 rfl (by decide) ?_
  refine rx_cV d_m_flushed_3 rfl c_m_32 (by exact np_m_sizeOf) rm_o (k_m_sizeOf (by decide)) (by decide) ⟨rfl, rfl⟩ (Nat.le_of_ble_eq_true rfl) rfl ?_
  refine rs_istore_n d_m_flushed_6 rfl (by decide) rfl ?_
  refine rs_iload_n d_m_flushed_7 rfl rfl ?_
  refine rs_if_ne (tgt := 13) d_m_flushed_8 rfl (by decide) (fun _ => ?_) (fun hc => absurd hc (rp_nz0 h0 (by have := rm_sz_le S 12; omega)))
  refine rs_aload_n d_m_flushed_13 rfl rfl ?_
  refine rx_get_mn d_m_flushed_14 rfl f_m_29 ?_
  refine rs_bipush (v := (nI 12)) d_m_flushed_17 rfl (by decide) ?_
  refine rs_icmp_eq (tgt := 33) d_m_flushed_19 rfl (by decide) (fun hc => absurd hc (rp_ne (by omega) (by omega) (by omega))) (fun _ => ?_)
  refine rs_iload_n d_m_flushed_22 rfl rfl ?_
  refine rx_cS d_m_flushed_23 rfl c_m_36 (by exact np_m_blocksFor) (k_m_blocksFor (rm_sz_le S 12)) (by decide) ⟨rfl, rfl⟩ (Nat.le_of_ble_eq_true rfl) rfl ?_
  refine rs_aload_n d_m_flushed_26 rfl rfl ?_
  refine rx_cV d_m_flushed_27 rfl c_m_57 (by exact np_m_freeBlocks) rm_o (k_m_freeBlocks (by omega)) (by decide) ⟨rfl, rfl⟩ (Nat.le_of_ble_eq_true rfl) rfl ?_
  refine rs_icmp_le (tgt := 35) d_m_flushed_30 rfl (by decide) (fun _ => ?_) (fun hc => absurd (hr) hc)
  refine rs_aload_n d_m_flushed_35 rfl rfl ?_
  refine rs_iload_n d_m_flushed_36 rfl rfl ?_
  refine rx_cS d_m_flushed_37 rfl c_m_36 (by exact np_m_blocksFor) (k_m_blocksFor (rm_sz_le S 12)) (by decide) ⟨rfl, rfl⟩ (Nat.le_of_ble_eq_true rfl) rfl ?_
  refine rs_iconst (v := (nI 1)) d_m_flushed_40 rfl (by decide) ?_
  refine rs_iadd d_m_flushed_41 rfl ?_
  refine rs_tope (nI_add _ _) ?_
  refine rx_cV d_m_flushed_42 rfl c_m_61 (by exact np_m_writes) rm_o (k_m_writes_no hbd hw) (by decide) ⟨rfl, rfl⟩ (Nat.le_of_ble_eq_true rfl) rfl ?_
  refine rs_if_ne (tgt := 50) d_m_flushed_45 rfl (by decide) (fun hc => absurd (rfl) hc) (fun _ => ?_)
  refine rs_iconst (v := 1) d_m_flushed_48 rfl (by decide) ?_
  exact rs_ireturn d_m_flushed_49 rfl ⟨rfl, rfl, rfl⟩
set_option maxRecDepth 100000 in
theorem k_m_fl_ok {G : rsG} {n : Nat} {S T : Nat → Nat → Int32} {lv : Nat → Nat} {th mm iu bd : Int32} {mn : Nat} {av : Int32} {hf : rsH} (h0 : 0 < (rm_sz S 12)) (hm : mn < 12) (hr : nI (((rm_sz S 12) + 3) / 4) ≤ (nI 40 - nI (rm_free S mn))) (hbd : bd = -1 ∨ 0 ≤ bd) {bd' : Int32} (hw : rp_sp bd (nI ((((rm_sz S 12) + 3) / 4) + 1)) = some bd') : rsK G M_m_flushed (rmO 3 63) [.ref (rsB G + 46)] (rmd G S T lv th mm iu bd mn av hf) n (rsOk (some (.int 0)) (rmd G (rm_cp (rm_D mn (rm_zr (rm_cp S 12 13) 12) 0) 13 0) (rm_cp (rm_D mn (rm_zr (rm_cp T 12 13) 12) 0) 13 0) (va_up (rm_D mn lv 0) 0 0) th mm iu bd' (mn + 1) av hf) n) := by
  refine rsK_of pf_m_flushed rfl (Nat.le_of_ble_eq_true rfl) rfl ?_
  refine rs_aload_n d_m_flushed_0 rfl rfl ?_
  refine rs_bipush (v := (nI 12)) d_m_flushed_1 rfl (by decide) ?_
  refine rx_cV d_m_flushed_3 rfl c_m_32 (by exact np_m_sizeOf) rm_o (k_m_sizeOf (by decide)) (by decide) ⟨rfl, rfl⟩ (Nat.le_of_ble_eq_true rfl) rfl ?_
  refine rs_istore_n d_m_flushed_6 rfl (by decide) rfl ?_
  refine rs_iload_n d_m_flushed_7 rfl rfl ?_
  refine rs_if_ne (tgt := 13) d_m_flushed_8 rfl (by decide) (fun _ => ?_) (fun hc => absurd hc (rp_nz0 h0 (by have := rm_sz_le S 12; omega)))
  refine rs_aload_n d_m_flushed_13 rfl rfl ?_
  refine rx_get_mn d_m_flushed_14 rfl f_m_29 ?_
  refine rs_bipush (v := (nI 12)) d_m_flushed_17 rfl (by decide) ?_
  refine rs_icmp_eq (tgt := 33) d_m_flushed_19 rfl (by decide) (fun hc => absurd hc (rp_ne (by omega) (by omega) (by omega))) (fun _ => ?_)
  refine rs_iload_n d_m_flushed_22 rfl rfl ?_
  refine rx_cS d_m_flushed_23 rfl c_m_36 (by exact np_m_blocksFor) (k_m_blocksFor (rm_sz_le S 12)) (by decide) ⟨rfl, rfl⟩ (Nat.le_of_ble_eq_true rfl) rfl ?_
  refine rs_aload_n d_m_flushed_26 rfl rfl ?_
  refine rx_cV d_m_flushed_27 rfl c_m_57 (by exact np_m_freeBlocks) rm_o (k_m_freeBlocks (by omega)) (by decide) ⟨rfl, rfl⟩ (Nat.le_of_ble_eq_true rfl) rfl ?_
  refine rs_icmp_le (tgt := 35) d_m_flushed_30 rfl (by decide) (fun _ => ?_) (fun hc => absurd (hr) hc)
  refine rs_aload_n d_m_flushed_35 rfl rfl ?_
  refine rs_iload_n d_m_flushed_36 rfl rfl ?_
  refine rx_cS d_m_flushed_37 rfl c_m_36 (by exact np_m_blocksFor) (k_m_blocksFor (rm_sz_le S 12)) (by decide) ⟨rfl, rfl⟩ (Nat.le_of_ble_eq_true rfl) rfl ?_
  refine rs_iconst (v := (nI 1)) d_m_flushed_40 rfl (by decide) ?_
  refine rs_iadd d_m_flushed_41 rfl ?_
  refine rs_tope (nI_add _ _) ?_
  refine rx_cV d_m_flushed_42 rfl c_m_61 (by exact np_m_writes) rm_o (k_m_writes_ok hbd hw) (by decide) ⟨rfl, rfl⟩ (Nat.le_of_ble_eq_true rfl) rfl ?_
  refine rs_if_ne (tgt := 50) d_m_flushed_45 rfl (by decide) (fun _ => ?_) (fun hc => absurd hc (by decide))
  refine rs_aload_n d_m_flushed_50 rfl rfl ?_
  refine rs_bipush (v := (nI 12)) d_m_flushed_51 rfl (by decide) ?_
  refine rs_bipush (v := (nI 13)) d_m_flushed_53 rfl (by decide) ?_
  refine rx_cV d_m_flushed_55 rfl c_m_53 (by exact np_m_copyRow) rm_o (k_m_copyRow (by decide) (by decide)) (by decide) ⟨rfl, rfl⟩ (Nat.le_of_ble_eq_true rfl) rfl ?_
  refine rs_aload_n d_m_flushed_58 rfl rfl ?_
  refine rs_bipush (v := (nI 12)) d_m_flushed_59 rfl (by decide) ?_
  refine rx_cV d_m_flushed_61 rfl c_m_46 (by exact np_m_clearRow) rm_o (k_m_clearRow (by decide)) (by decide) ⟨rfl, rfl⟩ (Nat.le_of_ble_eq_true rfl) rfl ?_
  refine rs_aload_n d_m_flushed_64 rfl rfl ?_
  refine rs_iconst (v := (nI 0)) d_m_flushed_65 rfl (by decide) ?_
  refine rs_iconst (v := (nI 0)) d_m_flushed_66 rfl (by decide) ?_
  refine rx_cV d_m_flushed_67 rfl c_m_65 (by exact np_m_insert) rm_o (k_m_insert (by omega) (by omega)) (by decide) ⟨rfl, rfl⟩ (Nat.le_of_ble_eq_true rfl) rfl ?_
  refine rs_iconst (v := 0) d_m_flushed_70 rfl (by decide) ?_
  exact rs_ireturn d_m_flushed_71 rfl ⟨rfl, rfl, rfl⟩
def rm_oS (S : Nat → Nat → Int32) (z c : Nat) : Nat → Int32 := fun key => match rp_find (fun j => decide (0 < S (z + j) key)) c with
  | some j => S (z + j) key
  | none => 0
def rm_oT (S T : Nat → Nat → Int32) (z c : Nat) : Nat → Int32 := fun key => match rp_find (fun j => decide (0 < S (z + j) key)) c with
  | some j => T (z + j) key
  | none => 0
theorem rp_find_front (p : Nat → Bool) : ∀ c, rp_find p (c + 1) = if p 0 = true then some 0 else (rp_find (fun j => p (j + 1)) c).map (· + 1)
  | 0 => by
    show (if p 0 = true then some 0 else none) = _
    by_cases h : p 0 = true
    · rw [if_pos h, if_pos h]
    · rw [if_neg h, if_neg h]; rfl
  | c + 1 => by
    have ih := rp_find_front p c
    show (match rp_find p (c + 1) with | some x => some x | none => if p (c + 1) = true then some (c + 1) else none) = _
    rw [ih]
    by_cases h : p 0 = true
    · rw [if_pos h, if_pos h]
    · rw [if_neg h, if_neg h]
      show _ = Option.map (· + 1) (match rp_find (fun j => p (j + 1)) c with | some x => some x | none => if p (c + 1) = true then some c else none)
      cases rp_find (fun j => p (j + 1)) c with
      | some x => rfl
      | none =>
        by_cases h2 : p (c + 1) = true
        · simp only [h2, if_true]; rfl
        · simp only [h2]; rfl
theorem rm_oS_front (S : Nat → Nat → Int32) (i c : Nat) : (fun k => if 0 < S i k then S i k else rm_oS S (i + 1) c k) = rm_oS S i (c + 1) := by
  funext k
  unfold rm_oS
  rw [rp_find_front]
  by_cases h : 0 < S i k
  · rw [if_pos h, if_pos (by simpa using h)]; rfl
  · rw [if_neg h, if_neg (by simpa using h)]
    have e : (fun j => decide (0 < S (i + 1 + j) k)) = (fun j => decide (0 < S (i + (j + 1)) k)) := by
      funext j; rw [show i + 1 + j = i + (j + 1) by omega]
    rw [e]
    cases rp_find (fun j => decide (0 < S (i + (j + 1)) k)) c with
    | none => rfl
    | some j =>
      show S (i + 1 + j) k = S (i + (j + 1)) k
      rw [show i + 1 + j = i + (j + 1) by omega]
theorem rm_oT_front (S T : Nat → Nat → Int32) (i c : Nat) : (fun k => if 0 < S i k then T i k else rm_oT S T (i + 1) c k) = rm_oT S T i (c + 1) := by
  funext k
  unfold rm_oT
  rw [rp_find_front]
  by_cases h : 0 < S i k
  · rw [if_pos h, if_pos (by simpa using h)]; rfl
  · rw [if_neg h, if_neg (by simpa using h)]
    have e : (fun j => decide (0 < S (i + 1 + j) k)) = (fun j => decide (0 < S (i + (j + 1)) k)) := by
      funext j; rw [show i + 1 + j = i + (j + 1) by omega]
    rw [e]
    cases rp_find (fun j => decide (0 < S (i + (j + 1)) k)) c with
    | none => rfl
    | some j =>
      show T (i + 1 + j) k = T (i + (j + 1)) k
      rw [show i + 1 + j = i + (j + 1) by omega]
def rm_dr (b : Bool) (x : Int32) : Int32 := if b = true ∧ x = 2 then 0 else x
def rm_pd : Nat → Int32
  | 0 => -1
  | i + 1 => nI i
theorem rm_pd_lt {i : Nat} (h : i < 2 ^ 31) : rm_pd i < nI i := by
  cases i with
  | zero => decide
  | succ i => exact nI_lt (by omega) h
theorem rm_pd_dec (i : Nat) : nI i + Int32.ofInt (-1) = rm_pd i := by
  cases i with
  | zero => decide
  | succ i => exact pk_m1 i
def rm_tk {α : Type} (f : Nat → α) (p m : Nat) : Nat → Nat → α
  | 0 => f
  | i + 1 => rm_E (rm_tk f p m i) p (m - (i + 1))
set_option maxRecDepth 100000 in
theorem k_m_mg_in {G : rsG} {n : Nat} {S T : Nat → Nat → Int32} {lv : Nat → Nat} {th mm iu bd : Int32} {mn : Nat} {av : Int32} {hf : rsH} {Q : rsR → rsH → Nat → Prop} {ll z to i c : Nat} (hi : i < 12) (kk : rsV G M_m_merged (rmO 3 63) Q 0 0 111 [some (.ref (rsB G + 46)), some (.int (nI ll)), some (.int (nI z)), some (.int (nI to)), some (.int (nI i)), some (.int (nI 100))] [] (rmd G (va_up S 13 (rm_oS S i (c + 1))) (va_up T 13 (rm_oT S T i (c + 1))) lv th mm iu bd mn av hf) n) : ∀ (d k : Nat), k + d = 100 → rsV G M_m_merged (rmO 3 63) Q 0 0 34 [some (.ref (rsB G + 46)), some (.int (nI ll)), some (.int (nI z)), some (.int (nI to)), some (.int (nI i)), some (.int (nI k))] [] (rmd G (rm_p (va_up S 13 (rm_oS S (i + 1) c)) 13 (fun k => if 0 < S i k then S i k else rm_oS S (i + 1) c k) k) (rm_p (va_up T 13 (rm_oT S T (i + 1) c)) 13 (fun k => if 0 < S i k then T i k else rm_oT S T (i + 1) c k) k) lv th mm iu bd mn av hf) n := by
  have hi13 : i ≠ 13 := by omega
  intro d
  induction d with
  | zero =>
    intro k hk
    obtain rfl : k = 100 := by omega
    refine rs_iload d_m_merged_34 rfl rfl ?_
    refine rs_bipush (v := (nI 100)) d_m_merged_36 rfl (by decide) ?_
    refine rs_icmp_ge (tgt := 111) d_m_merged_38 rfl (by decide) (fun _ => ?_) (fun hc => absurd (nI_le (by omega) (by omega)) hc)
    rw [rmd_eq (rm_pe _ 13 _) (rm_pe _ 13 _), rp_up_up, rp_up_up, rm_oS_front, rm_oT_front]
    exact kk
  | succ d ih =>
    intro k hk
    have hk100 : k < 100 := by omega
    have eS : rm_p (va_up S 13 (rm_oS S (i + 1) c)) 13 (fun k => if 0 < S i k then S i k else rm_oS S (i + 1) c k) k i k = S i k := by rw [rm_p_at, rp_up_ne _ _ hi13]
    have eT : rm_p (va_up T 13 (rm_oT S T (i + 1) c)) 13 (fun k => if 0 < S i k then T i k else rm_oT S T (i + 1) c k) k i k = T i k := by rw [rm_p_at, rp_up_ne _ _ hi13]
    refine rs_iload d_m_merged_34 rfl rfl ?_
    refine rs_bipush (v := (nI 100)) d_m_merged_36 rfl (by decide) ?_
    refine rs_icmp_ge (tgt := 111) d_m_merged_38 rfl (by decide) (fun hc => absurd hc (nI_ge (by omega) (by omega))) (fun _ => ?_)
    refine rs_aload_n d_m_merged_41 rfl rfl ?_
    refine rx_get_so d_m_merged_42 rfl f_m_17 ?_
    refine rs_bipush (v := (nI 100)) d_m_merged_45 rfl (by decide) ?_
    refine rs_iload d_m_merged_47 rfl rfl ?_
    refine rs_imul d_m_merged_49 rfl ?_
    refine rs_iload d_m_merged_50 rfl rfl ?_
    refine rs_iadd d_m_merged_52 rfl ?_
    refine rs_pix (rm_ix i k) ?_
    refine ry_ld_s (by first | assumption | omega) (by first | assumption | omega) d_m_merged_53 rfl ?_
    rw [eS]
    by_cases hp : 0 < S i k
    · refine rs_if_le (tgt := 105) d_m_merged_54 rfl (by decide) (fun hc => absurd hc (i32_nle hp)) (fun _ => ?_)
      refine rs_aload_n d_m_merged_57 rfl rfl ?_
      refine rx_get_so d_m_merged_58 rfl f_m_17 ?_
      refine rs_sipush (v := (nI 1300)) d_m_merged_61 rfl (by decide) ?_
      refine rs_iload d_m_merged_64 rfl rfl ?_
      refine rs_iadd d_m_merged_66 rfl ?_
      refine rs_pix (rm_ix13 k) ?_
      refine rs_aload_n d_m_merged_67 rfl rfl ?_
      refine rx_get_so d_m_merged_68 rfl f_m_17 ?_
      refine rs_bipush (v := (nI 100)) d_m_merged_71 rfl (by decide) ?_
      refine rs_iload d_m_merged_73 rfl rfl ?_
      refine rs_imul d_m_merged_75 rfl ?_
      refine rs_iload d_m_merged_76 rfl rfl ?_
      refine rs_iadd d_m_merged_78 rfl ?_
      refine rs_pix (rm_ix i k) ?_
      refine ry_ld_s (by first | assumption | omega) (by first | assumption | omega) d_m_merged_79 rfl ?_
      rw [eS]
      refine ry_st_s (by first | assumption | omega) (by first | assumption | omega) d_m_merged_80 rfl ?_
      rw [rm_pu (g := (fun k => if 0 < S i k then S i k else rm_oS S (i + 1) c k)) (show S i k = _ from (if_pos hp).symm)]
      refine rs_aload_n d_m_merged_81 rfl rfl ?_
      refine rx_get_vs d_m_merged_82 rfl f_m_20 ?_
      refine rs_sipush (v := (nI 1300)) d_m_merged_85 rfl (by decide) ?_
      refine rs_iload d_m_merged_88 rfl rfl ?_
      refine rs_iadd d_m_merged_90 rfl ?_
      refine rs_pix (rm_ix13 k) ?_
      refine rs_aload_n d_m_merged_91 rfl rfl ?_
      refine rx_get_vs d_m_merged_92 rfl f_m_20 ?_
      refine rs_bipush (v := (nI 100)) d_m_merged_95 rfl (by decide) ?_
      refine rs_iload d_m_merged_97 rfl rfl ?_
      refine rs_imul d_m_merged_99 rfl ?_
      refine rs_iload d_m_merged_100 rfl rfl ?_
      refine rs_iadd d_m_merged_102 rfl ?_
      refine rs_pix (rm_ix i k) ?_
      refine ry_ld_v (by first | assumption | omega) (by first | assumption | omega) d_m_merged_103 rfl ?_
      rw [eT]
      refine ry_st_v (by first | assumption | omega) (by first | assumption | omega) d_m_merged_104 rfl ?_
      rw [rm_pu (g := (fun k => if 0 < S i k then T i k else rm_oT S T (i + 1) c k)) (show T i k = _ from (if_pos hp).symm)]
      refine rs_iinc d_m_merged_105 rfl (by decide) rfl (rs_inc1 k) rfl ?_
      refine rs_goto (tgt := 34) d_m_merged_108 (by decide) ?_
      exact ih (k + 1) (by omega)
    · refine rs_if_le (tgt := 105) d_m_merged_54 rfl (by decide) (fun _ => ?_) (fun hc => absurd (i32_le hp) hc)
      rw [rm_pk (f := (va_up S 13 (rm_oS S (i + 1) c))) (g := (fun k => if 0 < S i k then S i k else rm_oS S (i + 1) c k)) (i := k) (by rw [rp_up_j]; exact (if_neg hp).symm), rm_pk (f := (va_up T 13 (rm_oT S T (i + 1) c))) (g := (fun k => if 0 < S i k then T i k else rm_oT S T (i + 1) c k)) (i := k) (by rw [rp_up_j]; exact (if_neg hp).symm)]
      refine rs_iinc d_m_merged_105 rfl (by decide) rfl (rs_inc1 k) rfl ?_
      refine rs_goto (tgt := 34) d_m_merged_108 (by decide) ?_
      exact ih (k + 1) (by omega)
set_option maxRecDepth 100000 in
theorem k_m_mg_out {G : rsG} {n : Nat} {S T : Nat → Nat → Int32} {lv : Nat → Nat} {th mm iu bd : Int32} {mn : Nat} {av : Int32} {hf : rsH} {Q : rsR → rsH → Nat → Prop} {ll z to : Nat} (hto : to ≤ 12) (kk : ∀ x5 : Option Value, rsV G M_m_merged (rmO 3 63) Q 0 0 117 [some (.ref (rsB G + 46)), some (.int (nI ll)), some (.int (nI z)), some (.int (nI to)), some (.int (rm_pd z)), x5] [] (rmd G (va_up S 13 (rm_oS S z (to - z))) (va_up T 13 (rm_oT S T z (to - z))) lv th mm iu bd mn av hf) n) : ∀ (d i c : Nat) (x5 : Option Value), z + d = i → i + c = to → rsV G M_m_merged (rmO 3 63) Q 0 0 25 [some (.ref (rsB G + 46)), some (.int (nI ll)), some (.int (nI z)), some (.int (nI to)), some (.int (rm_pd i)), x5] [] (rmd G (va_up S 13 (rm_oS S i c)) (va_up T 13 (rm_oT S T i c)) lv th mm iu bd mn av hf) n := by
  intro d
  induction d with
  | zero =>
    intro i c x5 hi hc
    obtain rfl : i = z := by omega
    obtain rfl : c = to - i := by omega
    refine rs_iload d_m_merged_25 rfl rfl ?_
    refine rs_iload_n d_m_merged_27 rfl rfl ?_
    refine rs_icmp_lt (tgt := 117) d_m_merged_28 rfl (by decide) (fun _ => ?_) (fun hc => absurd (rm_pd_lt (by omega)) hc)
    exact kk x5
  | succ d ih =>
    intro i c x5 hi hc
    obtain ⟨k, rfl⟩ : ∃ k, i = k + 1 := ⟨i - 1, by omega⟩
    refine rs_iload (v := nI k) d_m_merged_25 rfl rfl ?_
    refine rs_iload_n d_m_merged_27 rfl rfl ?_
    refine rs_icmp_lt (tgt := 117) d_m_merged_28 rfl (by decide) (fun hc => absurd hc (Int32.not_lt.mpr (nI_le (by omega) (by omega)))) (fun _ => ?_)
    refine rs_iconst (v := (nI 0)) d_m_merged_31 rfl (by decide) ?_
    refine rs_istore d_m_merged_32 rfl (by decide) rfl ?_
    refine rsV_eq ?_ (k_m_mg_in (S := S) (T := T) (lv := lv) (th := th) (mm := mm) (iu := iu) (bd := bd) (mn := mn) (av := av) (hf := hf) (c := c) (by omega) ?_ 100 0 (by omega))
    · rw [rm_p0, rm_p0]
    · refine ?_
      refine rs_iinc d_m_merged_111 rfl (by decide) rfl (rm_pd_dec k) rfl ?_
      refine rs_goto (tgt := 25) d_m_merged_114 (by decide) ?_
      exact ih k (c + 1) _ (by omega) (by omega)
set_option maxRecDepth 100000 in
theorem k_m_mg_dr {G : rsG} {n : Nat} {S T : Nat → Nat → Int32} {lv : Nat → Nat} {th mm iu bd : Int32} {mn : Nat} {av : Int32} {hf : rsH} {Q : rsR → rsH → Nat → Prop} {ll z to c : Nat} {x5 : Option Value} (hto : to ≤ 12) (hm : mn ≤ 12) (kk : rsV G M_m_merged (rmO 3 63) Q 0 0 182 [some (.ref (rsB G + 46)), some (.int (nI ll)), some (.int (nI z)), some (.int (nI to)), some (.int (nI 100)), x5] [] (rmd G (va_up S 13 (fun k => rm_dr (decide (to = mn)) (rm_oS S z c k))) T lv th mm iu bd mn av hf) n) : ∀ (d i : Nat), i + d = 100 → rsV G M_m_merged (rmO 3 63) Q 0 0 120 [some (.ref (rsB G + 46)), some (.int (nI ll)), some (.int (nI z)), some (.int (nI to)), some (.int (nI i)), x5] [] (rmd G (rm_p (va_up S 13 (rm_oS S z c)) 13 (fun k => rm_dr (decide (to = mn)) (rm_oS S z c k)) i) T lv th mm iu bd mn av hf) n := by
  intro d
  induction d with
  | zero =>
    intro i hi
    obtain rfl : i = 100 := by omega
    refine rs_iload d_m_merged_120 rfl rfl ?_
    refine rs_bipush (v := (nI 100)) d_m_merged_122 rfl (by decide) ?_
    refine rs_icmp_ge (tgt := 182) d_m_merged_124 rfl (by decide) (fun _ => ?_) (fun hc => absurd (nI_le (by omega) (by omega)) hc)
    rw [rmd_eq (rm_pe _ 13 _) (fun _ _ _ => rfl), rp_up_up]
    exact kk
  | succ d ih =>
    intro i hi
    have hi100 : i < 100 := by omega
    have eS : rm_p (va_up S 13 (rm_oS S z c)) 13 (fun k => rm_dr (decide (to = mn)) (rm_oS S z c k)) i 13 i = rm_oS S z c i := by rw [rm_p_at, rp_up_j]
    refine rs_iload d_m_merged_120 rfl rfl ?_
    refine rs_bipush (v := (nI 100)) d_m_merged_122 rfl (by decide) ?_
    refine rs_icmp_ge (tgt := 182) d_m_merged_124 rfl (by decide) (fun hc => absurd hc (nI_ge (by omega) (by omega))) (fun _ => ?_)
    refine rs_aload_n d_m_merged_127 rfl rfl ?_
    refine rx_get_so d_m_merged_128 rfl f_m_17 ?_
    refine rs_sipush (v := (nI 1300)) d_m_merged_131 rfl (by decide) ?_
    refine rs_iload d_m_merged_134 rfl rfl ?_
    refine rs_iadd d_m_merged_136 rfl ?_
    refine rs_pix (rm_ix13 i) ?_
    refine rs_iload_n d_m_merged_137 rfl rfl ?_
    refine rs_aload_n d_m_merged_138 rfl rfl ?_
    refine rx_get_mn d_m_merged_139 rfl f_m_29 ?_
    by_cases hp : to = mn
    · refine rs_icmp_ne (tgt := 164) d_m_merged_142 rfl (by decide) (fun hc => absurd (congrArg nI hp) hc) (fun _ => ?_)
      refine rs_aload_n d_m_merged_145 rfl rfl ?_
      refine rx_get_so d_m_merged_146 rfl f_m_17 ?_
      refine rs_sipush (v := (nI 1300)) d_m_merged_149 rfl (by decide) ?_
      refine rs_iload d_m_merged_152 rfl rfl ?_
      refine rs_iadd d_m_merged_154 rfl ?_
      refine rs_pix (rm_ix13 i) ?_
      refine ry_ld_s (by first | assumption | omega) (by first | assumption | omega) d_m_merged_155 rfl ?_
      rw [eS]
      refine rs_iconst (v := 2) d_m_merged_156 rfl (by decide) ?_
      by_cases h2 : rm_oS S z c i = 2
      · refine rs_icmp_ne (tgt := 164) d_m_merged_157 rfl (by decide) (fun hc => absurd (h2) hc) (fun _ => ?_)
        refine rs_iconst (v := 0) d_m_merged_160 rfl (by decide) ?_
        refine rs_goto (tgt := 175) d_m_merged_161 (by decide) ?_
        refine ry_st_s (by first | assumption | omega) (by first | assumption | omega) d_m_merged_175 rfl ?_
        rw [rm_pu (g := (fun k => rm_dr (decide (to = mn)) (rm_oS S z c k))) (by show (0 : Int32) = rm_dr _ _; unfold rm_dr; rw [if_pos ⟨by simpa using hp, h2⟩])]
        refine rs_iinc d_m_merged_176 rfl (by decide) rfl (rs_inc1 i) rfl ?_
        refine rs_goto (tgt := 120) d_m_merged_179 (by decide) ?_
        exact ih (i + 1) (by omega)
      · refine rs_icmp_ne (tgt := 164) d_m_merged_157 rfl (by decide) (fun _ => ?_) (fun hc => absurd hc (h2))
        refine rs_aload_n d_m_merged_164 rfl rfl ?_
        refine rx_get_so d_m_merged_165 rfl f_m_17 ?_
        refine rs_sipush (v := (nI 1300)) d_m_merged_168 rfl (by decide) ?_
        refine rs_iload d_m_merged_171 rfl rfl ?_
        refine rs_iadd d_m_merged_173 rfl ?_
        refine rs_pix (rm_ix13 i) ?_
        refine ry_ld_s (by first | assumption | omega) (by first | assumption | omega) d_m_merged_174 rfl ?_
        rw [eS]
        refine ry_st_s (by first | assumption | omega) (by first | assumption | omega) d_m_merged_175 rfl ?_
        rw [rm_pu (g := (fun k => rm_dr (decide (to = mn)) (rm_oS S z c k))) (by show _ = rm_dr _ _; unfold rm_dr; rw [if_neg (fun h => h2 h.2)])]
        refine rs_iinc d_m_merged_176 rfl (by decide) rfl (rs_inc1 i) rfl ?_
        refine rs_goto (tgt := 120) d_m_merged_179 (by decide) ?_
        exact ih (i + 1) (by omega)
    · refine rs_icmp_ne (tgt := 164) d_m_merged_142 rfl (by decide) (fun _ => ?_) (fun hc => absurd hc (rp_ne hp (by omega) (by omega)))
      refine rs_aload_n d_m_merged_164 rfl rfl ?_
      refine rx_get_so d_m_merged_165 rfl f_m_17 ?_
      refine rs_sipush (v := (nI 1300)) d_m_merged_168 rfl (by decide) ?_
      refine rs_iload d_m_merged_171 rfl rfl ?_
      refine rs_iadd d_m_merged_173 rfl ?_
      refine rs_pix (rm_ix13 i) ?_
      refine ry_ld_s (by first | assumption | omega) (by first | assumption | omega) d_m_merged_174 rfl ?_
      rw [eS]
      refine ry_st_s (by first | assumption | omega) (by first | assumption | omega) d_m_merged_175 rfl ?_
      rw [rm_pu (g := (fun k => rm_dr (decide (to = mn)) (rm_oS S z c k))) (by show _ = rm_dr _ _; unfold rm_dr; rw [if_neg (fun h => hp (by simpa using h.1))])]
      refine rs_iinc d_m_merged_176 rfl (by decide) rfl (rs_inc1 i) rfl ?_
      refine rs_goto (tgt := 120) d_m_merged_179 (by decide) ?_
      exact ih (i + 1) (by omega)
set_option maxRecDepth 100000 in
theorem k_m_mg_pre {G : rsG} {n : Nat} {S T : Nat → Nat → Int32} {lv : Nat → Nat} {th mm iu bd : Int32} {mn : Nat} {av : Int32} {hf : rsH} {Q : rsR → rsH → Nat → Prop} {ll z c : Nat} (hm : mn ≤ 12) (hz : ∀ i, i < z → nI (lv i) < nI ll) (hz1 : z < mn → ¬ nI (lv z) < nI ll) (hc : (rp_cnt (fun i => decide (nI (lv i) = nI ll)) mn) = c) (hc0 : 0 < c) (hzc : z + c ≤ mn) (kk : ∀ x5 : Option Value, rsV G M_m_merged (rmO 3 63) Q 0 0 182 [some (.ref (rsB G + 46)), some (.int (nI ll)), some (.int (nI z)), some (.int (nI (z + c))), some (.int (nI 100)), x5] [] (rmd G (va_up S 13 (fun k => rm_dr (decide (z + c = mn)) (rm_oS S z c k))) (va_up T 13 (rm_oT S T z c)) lv th mm iu bd mn av hf) n) : rsV G M_m_merged (rmO 3 63) Q 0 0 0 [some (.ref (rsB G + 46)), some (.int (nI ll)), none, none, none, none] [] (rmd G S T lv th mm iu bd mn av hf) n := by
  refine rs_aload_n d_m_merged_0 rfl rfl ?_
  refine rs_iload_n d_m_merged_1 rfl rfl ?_
  refine rx_cV d_m_merged_2 rfl c_m_68 (by exact np_m_begin) rm_o (k_m_begin hm (by omega) hz hz1) (by decide) ⟨rfl, rfl⟩ (Nat.le_of_ble_eq_true rfl) rfl ?_
  refine rs_istore_n d_m_merged_5 rfl (by decide) rfl ?_
  refine rs_iload_n d_m_merged_6 rfl rfl ?_
  refine rs_aload_n d_m_merged_7 rfl rfl ?_
  refine rs_iload_n d_m_merged_8 rfl rfl ?_
  refine rx_cV d_m_merged_9 rfl c_m_71 (by exact np_m_runsOf) rm_o (k_m_runsOf hm) (by decide) ⟨rfl, rfl⟩ (Nat.le_of_ble_eq_true rfl) rfl ?_
  rw [hc]
  refine rs_iadd d_m_merged_12 rfl ?_
  refine rs_tope (nI_add _ _) ?_
  refine rs_istore_n d_m_merged_13 rfl (by decide) rfl ?_
  refine rs_aload_n d_m_merged_14 rfl rfl ?_
  refine rs_bipush (v := (nI 13)) d_m_merged_15 rfl (by decide) ?_
  refine rx_cV d_m_merged_17 rfl c_m_46 (by exact np_m_clearRow) rm_o (k_m_clearRow (by decide)) (by decide) ⟨rfl, rfl⟩ (Nat.le_of_ble_eq_true rfl) rfl ?_
  refine rs_iload_n d_m_merged_20 rfl rfl ?_
  refine rs_iconst (v := (nI 1)) d_m_merged_21 rfl (by decide) ?_
  refine rs_isub d_m_merged_22 rfl ?_
  refine rs_tope (y := rm_pd (z + c)) (by obtain ⟨k, rfl⟩ : ∃ k, c = k + 1 := ⟨c - 1, by omega⟩; rw [pk_sub (by omega)]; rfl) ?_
  refine rs_istore d_m_merged_23 rfl (by decide) rfl ?_
  refine k_m_mg_out (to := z + c) (by omega) (fun x5 => ?_) c (z + c) 0 _ rfl rfl
  rw [show z + c - z = c by omega]
  refine rs_iconst (v := (nI 0)) d_m_merged_117 rfl (by decide) ?_
  refine rs_istore d_m_merged_118 rfl (by decide) rfl ?_
  refine rsV_eq ?_ (k_m_mg_dr (by omega) hm (kk x5) 100 0 (by omega))
  rw [rm_p0]
set_option maxRecDepth 100000 in
theorem k_m_mg_noroom {G : rsG} {n : Nat} {S T : Nat → Nat → Int32} {lv : Nat → Nat} {th mm iu bd : Int32} {mn : Nat} {av : Int32} {hf : rsH} {ll z c : Nat} (hm : mn ≤ 12) (hz : ∀ i, i < z → nI (lv i) < nI ll) (hz1 : z < mn → ¬ nI (lv z) < nI ll) (hc : (rp_cnt (fun i => decide (nI (lv i) = nI ll)) mn) = c) (hc0 : 0 < c) (hzc : z + c ≤ mn) (hr : ¬ nI (((rm_sz (va_up S 13 (fun k => rm_dr (decide (z + c = mn)) (rm_oS S z c k))) 13) + 3) / 4) ≤ (nI 40 - nI (rm_free (va_up S 13 (fun k => rm_dr (decide (z + c = mn)) (rm_oS S z c k))) mn))) : rsK G M_m_merged (rmO 3 63) [.ref (rsB G + 46), .int (nI ll)] (rmd G S T lv th mm iu bd mn av hf) n (rsOk (some (.int 2)) (rmd G (va_up S 13 (fun k => rm_dr (decide (z + c = mn)) (rm_oS S z c k))) (va_up T 13 (rm_oT S T z c)) lv th mm iu bd mn av hf) n) := by
  refine rsK_of pf_m_merged rfl (Nat.le_of_ble_eq_true rfl) rfl ?_
  refine k_m_mg_pre hm hz hz1 hc hc0 hzc (fun x5 => ?_)
  refine rs_aload_n d_m_merged_182 rfl rfl ?_
  refine rs_bipush (v := (nI 13)) d_m_merged_183 rfl (by decide) ?_
  refine rx_cV d_m_merged_185 rfl c_m_32 (by exact np_m_sizeOf) rm_o (k_m_sizeOf (by decide)) (by decide) ⟨rfl, rfl⟩ (Nat.le_of_ble_eq_true rfl) rfl ?_
  refine rs_istore d_m_merged_188 rfl (by decide) rfl ?_
  refine rs_iload d_m_merged_190 rfl rfl ?_
  refine rx_cS d_m_merged_192 rfl c_m_36 (by exact np_m_blocksFor) (k_m_blocksFor (rm_sz_le _ 13)) (by decide) ⟨rfl, rfl⟩ (Nat.le_of_ble_eq_true rfl) rfl ?_
  refine rs_aload_n d_m_merged_195 rfl rfl ?_
  refine rx_cV d_m_merged_196 rfl c_m_57 (by exact np_m_freeBlocks) rm_o (k_m_freeBlocks hm) (by decide) ⟨rfl, rfl⟩ (Nat.le_of_ble_eq_true rfl) rfl ?_
  refine rs_icmp_le (tgt := 204) d_m_merged_199 rfl (by decide) (fun hc => absurd hc (hr)) (fun _ => ?_)
  refine rs_iconst (v := 2) d_m_merged_202 rfl (by decide) ?_
  exact rs_ireturn d_m_merged_203 rfl ⟨rfl, rfl, rfl⟩
set_option maxRecDepth 100000 in
theorem k_m_mg_down {G : rsG} {n : Nat} {S T : Nat → Nat → Int32} {lv : Nat → Nat} {th mm iu bd : Int32} {mn : Nat} {av : Int32} {hf : rsH} {ll z c : Nat} (hm : mn ≤ 12) (hz : ∀ i, i < z → nI (lv i) < nI ll) (hz1 : z < mn → ¬ nI (lv z) < nI ll) (hc : (rp_cnt (fun i => decide (nI (lv i) = nI ll)) mn) = c) (hc0 : 0 < c) (hzc : z + c ≤ mn) (hr : nI (((rm_sz (va_up S 13 (fun k => rm_dr (decide (z + c = mn)) (rm_oS S z c k))) 13) + 3) / 4) ≤ (nI 40 - nI (rm_free (va_up S 13 (fun k => rm_dr (decide (z + c = mn)) (rm_oS S z c k))) mn))) (hbd : bd = -1 ∨ 0 ≤ bd) (hw : rp_sp bd (nI ((((rm_sz (va_up S 13 (fun k => rm_dr (decide (z + c = mn)) (rm_oS S z c k))) 13) + 3) / 4) + 1)) = none) : rsK G M_m_merged (rmO 3 63) [.ref (rsB G + 46), .int (nI ll)] (rmd G S T lv th mm iu bd mn av hf) n (rsOk (some (.int 1)) (rmd G (rm_zr (va_up S 13 (fun k => rm_dr (decide (z + c = mn)) (rm_oS S z c k))) 12) (rm_zr (va_up T 13 (rm_oT S T z c)) 12) lv th mm 0 (-1) mn (-1) hf) n) := by
  refine rsK_of pf_m_merged rfl (Nat.le_of_ble_eq_true rfl) rfl ?_
  refine k_m_mg_pre hm hz hz1 hc hc0 hzc (fun x5 => ?_)
  refine rs_aload_n d_m_merged_182 rfl rfl ?_
  refine rs_bipush (v := (nI 13)) d_m_merged_183 rfl (by decide) ?_
  refine rx_cV d_m_merged_185 rfl c_m_32 (by exact np_m_sizeOf) rm_o (k_m_sizeOf (by decide)) (by decide) ⟨rfl, rfl⟩ (Nat.le_of_ble_eq_true rfl) rfl ?_
  refine rs_istore d_m_merged_188 rfl (by decide) rfl ?_
  refine rs_iload d_m_merged_190 rfl rfl ?_
  refine rx_cS d_m_merged_192 rfl c_m_36 (by exact np_m_blocksFor) (k_m_blocksFor (rm_sz_le _ 13)) (by decide) ⟨rfl, rfl⟩ (Nat.le_of_ble_eq_true rfl) rfl ?_
  refine rs_aload_n d_m_merged_195 rfl rfl ?_
  refine rx_cV d_m_merged_196 rfl c_m_57 (by exact np_m_freeBlocks) rm_o (k_m_freeBlocks hm) (by decide) ⟨rfl, rfl⟩ (Nat.le_of_ble_eq_true rfl) rfl ?_
  refine rs_icmp_le (tgt := 204) d_m_merged_199 rfl (by decide) (fun _ => ?_) (fun hc => absurd (hr) hc)
  refine rs_aload_n d_m_merged_204 rfl rfl ?_
  refine rs_iload d_m_merged_205 rfl rfl ?_
  refine rx_cS d_m_merged_207 rfl c_m_36 (by exact np_m_blocksFor) (k_m_blocksFor (rm_sz_le _ 13)) (by decide) ⟨rfl, rfl⟩ (Nat.le_of_ble_eq_true rfl) rfl ?_
  refine rs_iconst (v := (nI 1)) d_m_merged_210 rfl (by decide) ?_
  refine rs_iadd d_m_merged_211 rfl ?_
  refine rs_tope (nI_add _ _) ?_
  refine rx_cV d_m_merged_212 rfl c_m_61 (by exact np_m_writes) rm_o (k_m_writes_no hbd hw) (by decide) ⟨rfl, rfl⟩ (Nat.le_of_ble_eq_true rfl) rfl ?_
  refine rs_if_ne (tgt := 220) d_m_merged_215 rfl (by decide) (fun hc => absurd (rfl) hc) (fun _ => ?_)
  refine rs_iconst (v := 1) d_m_merged_218 rfl (by decide) ?_
  exact rs_ireturn d_m_merged_219 rfl ⟨rfl, rfl, rfl⟩
set_option maxRecDepth 100000 in
theorem k_m_mg_none {G : rsG} {n : Nat} {S T : Nat → Nat → Int32} {lv : Nat → Nat} {th mm iu bd : Int32} {mn : Nat} {av : Int32} {hf : rsH} {ll z c : Nat} (hm : mn ≤ 12) (hz : ∀ i, i < z → nI (lv i) < nI ll) (hz1 : z < mn → ¬ nI (lv z) < nI ll) (hc : (rp_cnt (fun i => decide (nI (lv i) = nI ll)) mn) = c) (hc0 : 0 < c) (hzc : z + c ≤ mn) (hr : nI (((rm_sz (va_up S 13 (fun k => rm_dr (decide (z + c = mn)) (rm_oS S z c k))) 13) + 3) / 4) ≤ (nI 40 - nI (rm_free (va_up S 13 (fun k => rm_dr (decide (z + c = mn)) (rm_oS S z c k))) mn))) (hbd : bd = -1 ∨ 0 ≤ bd) {bd' : Int32} (hw : rp_sp bd (nI ((((rm_sz (va_up S 13 (fun k => rm_dr (decide (z + c = mn)) (rm_oS S z c k))) 13) + 3) / 4) + 1)) = some bd') (h0 : (rm_sz (va_up S 13 (fun k => rm_dr (decide (z + c = mn)) (rm_oS S z c k))) 13) = 0) : rsK G M_m_merged (rmO 3 63) [.ref (rsB G + 46), .int (nI ll)] (rmd G S T lv th mm iu bd mn av hf) n (rsOk (some (.int 0)) (rmd G (rm_tk (va_up S 13 (fun k => rm_dr (decide (z + c = mn)) (rm_oS S z c k))) z mn c) (rm_tk (va_up T 13 (rm_oT S T z c)) z mn c) (rm_tk lv z mn c) th mm iu bd' (mn - c) av hf) n) := by
  have loop : ∀ (d i : Nat), i + d = c → rsV G M_m_merged (rmO 3 63) (rsOk (some (.int 0)) (rmd G (rm_tk (va_up S 13 (fun k => rm_dr (decide (z + c = mn)) (rm_oS S z c k))) z mn c) (rm_tk (va_up T 13 (rm_oT S T z c)) z mn c) (rm_tk lv z mn c) th mm iu bd' (mn - c) av hf) n) 0 0 223 [some (.ref (rsB G + 46)), some (.int (nI ll)), some (.int (nI z)), some (.int (nI (z + c))), some (.int (nI (rm_sz (va_up S 13 (fun k => rm_dr (decide (z + c = mn)) (rm_oS S z c k))) 13))), some (.int (nI (z + i)))] [] (rmd G (rm_tk (va_up S 13 (fun k => rm_dr (decide (z + c = mn)) (rm_oS S z c k))) z mn i) (rm_tk (va_up T 13 (rm_oT S T z c)) z mn i) (rm_tk lv z mn i) th mm iu bd' (mn - i) av hf) n := by
    intro d
    induction d with
    | zero =>
      intro i hi
      obtain rfl : i = c := by omega
      refine rs_iload d_m_merged_223 rfl rfl ?_
      refine rs_iload_n d_m_merged_225 rfl rfl ?_
      refine rs_icmp_ge (tgt := 240) d_m_merged_226 rfl (by decide) (fun _ => ?_) (fun hc => absurd (nI_le (by omega) (by omega)) hc)
      refine rs_iload d_m_merged_240 rfl rfl ?_
      rw [h0]
      refine rs_if_le (tgt := 262) d_m_merged_242 rfl (by decide) (fun _ => ?_) (fun hc => absurd (by rw [nI_0]; decide) hc)
      refine rs_iconst (v := 0) d_m_merged_262 rfl (by decide) ?_
      exact rs_ireturn d_m_merged_263 rfl ⟨rfl, rfl, rfl⟩
    | succ d ih =>
      intro i hi
      refine rs_iload d_m_merged_223 rfl rfl ?_
      refine rs_iload_n d_m_merged_225 rfl rfl ?_
      refine rs_icmp_ge (tgt := 240) d_m_merged_226 rfl (by decide) (fun hc => absurd hc (nI_ge (by omega) (by omega))) (fun _ => ?_)
      refine rs_aload_n d_m_merged_229 rfl rfl ?_
      refine rs_iload_n d_m_merged_230 rfl rfl ?_
      rw [show mn - i = mn - (i + 1) + 1 by omega]
      refine rx_cV d_m_merged_231 rfl c_m_74 (by exact np_m_takeOut) rm_o (k_m_takeOut (by omega) (by omega)) (by decide) ⟨rfl, rfl⟩ (Nat.le_of_ble_eq_true rfl) rfl ?_
      refine rs_iinc d_m_merged_234 rfl (by decide) rfl (rs_inc1 _) rfl ?_
      refine rs_goto (tgt := 223) d_m_merged_237 (by decide) ?_
      exact ih (i + 1) (by omega)
  refine rsK_of pf_m_merged rfl (Nat.le_of_ble_eq_true rfl) rfl ?_
  refine k_m_mg_pre hm hz hz1 hc hc0 hzc (fun x5 => ?_)
  refine rs_aload_n d_m_merged_182 rfl rfl ?_
  refine rs_bipush (v := (nI 13)) d_m_merged_183 rfl (by decide) ?_
  refine rx_cV d_m_merged_185 rfl c_m_32 (by exact np_m_sizeOf) rm_o (k_m_sizeOf (by decide)) (by decide) ⟨rfl, rfl⟩ (Nat.le_of_ble_eq_true rfl) rfl ?_
  refine rs_istore d_m_merged_188 rfl (by decide) rfl ?_
  refine rs_iload d_m_merged_190 rfl rfl ?_
  refine rx_cS d_m_merged_192 rfl c_m_36 (by exact np_m_blocksFor) (k_m_blocksFor (rm_sz_le _ 13)) (by decide) ⟨rfl, rfl⟩ (Nat.le_of_ble_eq_true rfl) rfl ?_
  refine rs_aload_n d_m_merged_195 rfl rfl ?_
  refine rx_cV d_m_merged_196 rfl c_m_57 (by exact np_m_freeBlocks) rm_o (k_m_freeBlocks hm) (by decide) ⟨rfl, rfl⟩ (Nat.le_of_ble_eq_true rfl) rfl ?_
  refine rs_icmp_le (tgt := 204) d_m_merged_199 rfl (by decide) (fun _ => ?_) (fun hc => absurd (hr) hc)
  refine rs_aload_n d_m_merged_204 rfl rfl ?_
  refine rs_iload d_m_merged_205 rfl rfl ?_
  refine rx_cS d_m_merged_207 rfl c_m_36 (by exact np_m_blocksFor) (k_m_blocksFor (rm_sz_le _ 13)) (by decide) ⟨rfl, rfl⟩ (Nat.le_of_ble_eq_true rfl) rfl ?_
  refine rs_iconst (v := (nI 1)) d_m_merged_210 rfl (by decide) ?_
  refine rs_iadd d_m_merged_211 rfl ?_
  refine rs_tope (nI_add _ _) ?_
  refine rx_cV d_m_merged_212 rfl c_m_61 (by exact np_m_writes) rm_o (k_m_writes_ok hbd hw) (by decide) ⟨rfl, rfl⟩ (Nat.le_of_ble_eq_true rfl) rfl ?_
  refine rs_if_ne (tgt := 220) d_m_merged_215 rfl (by decide) (fun _ => ?_) (fun hc => absurd hc (by decide))
  refine rs_iload_n d_m_merged_220 rfl rfl ?_
  refine rs_istore d_m_merged_221 rfl (by decide) rfl ?_
  exact loop c 0 (by omega)
set_option maxRecDepth 100000 in
theorem k_m_mg_some {G : rsG} {n : Nat} {S T : Nat → Nat → Int32} {lv : Nat → Nat} {th mm iu bd : Int32} {mn : Nat} {av : Int32} {hf : rsH} {ll z c : Nat} (hm : mn ≤ 12) (hz : ∀ i, i < z → nI (lv i) < nI ll) (hz1 : z < mn → ¬ nI (lv z) < nI ll) (hc : (rp_cnt (fun i => decide (nI (lv i) = nI ll)) mn) = c) (hc0 : 0 < c) (hzc : z + c ≤ mn) (hr : nI (((rm_sz (va_up S 13 (fun k => rm_dr (decide (z + c = mn)) (rm_oS S z c k))) 13) + 3) / 4) ≤ (nI 40 - nI (rm_free (va_up S 13 (fun k => rm_dr (decide (z + c = mn)) (rm_oS S z c k))) mn))) (hbd : bd = -1 ∨ 0 ≤ bd) {bd' : Int32} (hw : rp_sp bd (nI ((((rm_sz (va_up S 13 (fun k => rm_dr (decide (z + c = mn)) (rm_oS S z c k))) 13) + 3) / 4) + 1)) = some bd') (hl : ll < 3) (h0 : 0 < (rm_sz (va_up S 13 (fun k => rm_dr (decide (z + c = mn)) (rm_oS S z c k))) 13)) : rsK G M_m_merged (rmO 3 63) [.ref (rsB G + 46), .int (nI ll)] (rmd G S T lv th mm iu bd mn av hf) n (rsOk (some (.int 0)) (rmd G (rm_cp (rm_D (mn - c) (rm_tk (va_up S 13 (fun k => rm_dr (decide (z + c = mn)) (rm_oS S z c k))) z mn c) z) 13 z) (rm_cp (rm_D (mn - c) (rm_tk (va_up T 13 (rm_oT S T z c)) z mn c) z) 13 z) (va_up (rm_D (mn - c) (rm_tk lv z mn c) z) z (min (ll + 1) 2)) th mm iu bd' (mn - c + 1) av hf) n) := by
  have loop : ∀ (d i : Nat), i + d = c → rsV G M_m_merged (rmO 3 63) (rsOk (some (.int 0)) (rmd G (rm_cp (rm_D (mn - c) (rm_tk (va_up S 13 (fun k => rm_dr (decide (z + c = mn)) (rm_oS S z c k))) z mn c) z) 13 z) (rm_cp (rm_D (mn - c) (rm_tk (va_up T 13 (rm_oT S T z c)) z mn c) z) 13 z) (va_up (rm_D (mn - c) (rm_tk lv z mn c) z) z (min (ll + 1) 2)) th mm iu bd' (mn - c + 1) av hf) n) 0 0 223 [some (.ref (rsB G + 46)), some (.int (nI ll)), some (.int (nI z)), some (.int (nI (z + c))), some (.int (nI (rm_sz (va_up S 13 (fun k => rm_dr (decide (z + c = mn)) (rm_oS S z c k))) 13))), some (.int (nI (z + i)))] [] (rmd G (rm_tk (va_up S 13 (fun k => rm_dr (decide (z + c = mn)) (rm_oS S z c k))) z mn i) (rm_tk (va_up T 13 (rm_oT S T z c)) z mn i) (rm_tk lv z mn i) th mm iu bd' (mn - i) av hf) n := by
    intro d
    induction d with
    | zero =>
      intro i hi
      obtain rfl : i = c := by omega
      refine rs_iload d_m_merged_223 rfl rfl ?_
      refine rs_iload_n d_m_merged_225 rfl rfl ?_
      refine rs_icmp_ge (tgt := 240) d_m_merged_226 rfl (by decide) (fun _ => ?_) (fun hc => absurd (nI_le (by omega) (by omega)) hc)
      refine rs_iload d_m_merged_240 rfl rfl ?_
      refine rs_if_le (tgt := 262) d_m_merged_242 rfl (by decide) (fun hc => absurd hc (nI_nle h0 (Nat.lt_of_le_of_lt (rm_sz_le _ 13) (by decide)))) (fun _ => ?_)
      refine rs_aload_n d_m_merged_245 rfl rfl ?_
      refine rs_iload_n d_m_merged_246 rfl rfl ?_
      refine rs_iload_n d_m_merged_247 rfl rfl ?_
      refine rs_iconst (v := (nI 2)) d_m_merged_248 rfl (by decide) ?_
      by_cases h2 : 2 ≤ ll
      · refine rs_icmp_ge (tgt := 258) d_m_merged_249 rfl (by decide) (fun _ => ?_) (fun hc => absurd (nI_le h2 (by omega)) hc)
        refine rs_iconst (v := (nI 2)) d_m_merged_258 rfl (by decide) ?_
        rw [show min (ll + 1) 2 = 2 by omega]
        refine rx_cV d_m_merged_259 rfl c_m_65 (by exact np_m_insert) rm_o (k_m_insert (by omega) (by omega)) (by decide) ⟨rfl, rfl⟩ (Nat.le_of_ble_eq_true rfl) rfl ?_
        refine rs_iconst (v := 0) d_m_merged_262 rfl (by decide) ?_
        exact rs_ireturn d_m_merged_263 rfl ⟨rfl, rfl, rfl⟩
      · refine rs_icmp_ge (tgt := 258) d_m_merged_249 rfl (by decide) (fun hc => absurd hc (nI_ge (by omega) (by omega))) (fun _ => ?_)
        refine rs_iload_n d_m_merged_252 rfl rfl ?_
        refine rs_iconst (v := (nI 1)) d_m_merged_253 rfl (by decide) ?_
        refine rs_iadd d_m_merged_254 rfl ?_
        refine rs_tope (nI_add _ _) ?_
        refine rs_goto (tgt := 259) d_m_merged_255 (by decide) ?_
        rw [show min (ll + 1) 2 = ll + 1 by omega]
        refine rx_cV d_m_merged_259 rfl c_m_65 (by exact np_m_insert) rm_o (k_m_insert (by omega) (by omega)) (by decide) ⟨rfl, rfl⟩ (Nat.le_of_ble_eq_true rfl) rfl ?_
        refine rs_iconst (v := 0) d_m_merged_262 rfl (by decide) ?_
        exact rs_ireturn d_m_merged_263 rfl ⟨rfl, rfl, rfl⟩
    | succ d ih =>
      intro i hi
      refine rs_iload d_m_merged_223 rfl rfl ?_
      refine rs_iload_n d_m_merged_225 rfl rfl ?_
      refine rs_icmp_ge (tgt := 240) d_m_merged_226 rfl (by decide) (fun hc => absurd hc (nI_ge (by omega) (by omega))) (fun _ => ?_)
      refine rs_aload_n d_m_merged_229 rfl rfl ?_
      refine rs_iload_n d_m_merged_230 rfl rfl ?_
      rw [show mn - i = mn - (i + 1) + 1 by omega]
      refine rx_cV d_m_merged_231 rfl c_m_74 (by exact np_m_takeOut) rm_o (k_m_takeOut (by omega) (by omega)) (by decide) ⟨rfl, rfl⟩ (Nat.le_of_ble_eq_true rfl) rfl ?_
      refine rs_iinc d_m_merged_234 rfl (by decide) rfl (rs_inc1 _) rfl ?_
      refine rs_goto (tgt := 223) d_m_merged_237 (by decide) ?_
      exact ih (i + 1) (by omega)
  refine rsK_of pf_m_merged rfl (Nat.le_of_ble_eq_true rfl) rfl ?_
  refine k_m_mg_pre hm hz hz1 hc hc0 hzc (fun x5 => ?_)
  refine rs_aload_n d_m_merged_182 rfl rfl ?_
  refine rs_bipush (v := (nI 13)) d_m_merged_183 rfl (by decide) ?_
  refine rx_cV d_m_merged_185 rfl c_m_32 (by exact np_m_sizeOf) rm_o (k_m_sizeOf (by decide)) (by decide) ⟨rfl, rfl⟩ (Nat.le_of_ble_eq_true rfl) rfl ?_
  refine rs_istore d_m_merged_188 rfl (by decide) rfl ?_
  refine rs_iload d_m_merged_190 rfl rfl ?_
  refine rx_cS d_m_merged_192 rfl c_m_36 (by exact np_m_blocksFor) (k_m_blocksFor (rm_sz_le _ 13)) (by decide) ⟨rfl, rfl⟩ (Nat.le_of_ble_eq_true rfl) rfl ?_
  refine rs_aload_n d_m_merged_195 rfl rfl ?_
  refine rx_cV d_m_merged_196 rfl c_m_57 (by exact np_m_freeBlocks) rm_o (k_m_freeBlocks hm) (by decide) ⟨rfl, rfl⟩ (Nat.le_of_ble_eq_true rfl) rfl ?_
  refine rs_icmp_le (tgt := 204) d_m_merged_199 rfl (by decide) (fun _ => ?_) (fun hc => absurd (hr) hc)
  refine rs_aload_n d_m_merged_204 rfl rfl ?_
  refine rs_iload d_m_merged_205 rfl rfl ?_
  refine rx_cS d_m_merged_207 rfl c_m_36 (by exact np_m_blocksFor) (k_m_blocksFor (rm_sz_le _ 13)) (by decide) ⟨rfl, rfl⟩ (Nat.le_of_ble_eq_true rfl) rfl ?_
  refine rs_iconst (v := (nI 1)) d_m_merged_210 rfl (by decide) ?_
  refine rs_iadd d_m_merged_211 rfl ?_
  refine rs_tope (nI_add _ _) ?_
  refine rx_cV d_m_merged_212 rfl c_m_61 (by exact np_m_writes) rm_o (k_m_writes_ok hbd hw) (by decide) ⟨rfl, rfl⟩ (Nat.le_of_ble_eq_true rfl) rfl ?_
  refine rs_if_ne (tgt := 220) d_m_merged_215 rfl (by decide) (fun _ => ?_) (fun hc => absurd hc (by decide))
  refine rs_iload_n d_m_merged_220 rfl rfl ?_
  refine rs_istore d_m_merged_221 rfl (by decide) rfl ?_
  exact loop c 0 (by omega)
