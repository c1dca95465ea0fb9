/-! 30: the law's helpers (written by gen_lawh.py) -/
set_option maxRecDepth 100000 in
theorem h_format_ok {G : rsG} {x x' y : rT} {th : Int32} {f : Nat → Int64} {n : Nat} (hC : ∀ n hf, rsK G M_s_format (rmO 7 111) [.ref (rsB G)] (rcw G x hf) n (rsOk none (rcw G x' hf) n)) : rsK G M_l_format (rmO 8 131) [.ref (rsB G)] (rlw G x y th f) n (rsOk (some (.int 0)) (rlw G x' y th f) n) := by
  refine rsK_of pf_l_format rfl (Nat.le_of_ble_eq_true rfl) rfl ?_
  obtain ⟨fs, hb⟩ := rl_x (G := G) (x := x) (y := y) (th := th) (f := f)
  refine rs_aload_n d_l_format_0 rfl rfl ?_
  refine rx_cV d_l_format_1 rfl c_l_7 (by exact np_s_format) hb (show rsK G M_s_format _ _ (rlw G x y th f) n (rsOk none (rlw G x' y th f) n) from hC n _) (by decide) ⟨rfl, rfl⟩ (Nat.le_of_ble_eq_true rfl) rfl ?_
  refine rs_goto (tgt := 10) d_l_format_4 (by decide) ?_
  refine rs_iconst (v := 0) d_l_format_10 rfl (by decide) ?_
  exact rs_ireturn d_l_format_11 rfl ⟨rfl, rfl, rfl⟩
set_option maxRecDepth 100000 in
theorem h_format_th1 {G : rsG} {x x' y : rT} {th : Int32} {f : Nat → Int64} {n : Nat} (hC : ∀ n hf, rsK G M_s_format (rmT 7 111) [.ref (rsB G)] (rcw G x hf) n (rsTh 1 (rcw G x' hf) (n + 1))) : rsK G M_l_format (rmT 8 131) [.ref (rsB G)] (rlw G x y th f) n (rsOk (some (.int 1)) (rlw G x' y th f) (n + 1)) := by
  refine rsK_of pf_l_format rfl (Nat.le_of_ble_eq_true rfl) rfl ?_
  obtain ⟨fs, hb⟩ := rl_x (G := G) (x := x) (y := y) (th := th) (f := f)
  refine rs_aload_n d_l_format_0 rfl rfl ?_
  refine rx_kV (kc' := 0) (ks' := 0) (hp := 7) (k := 1) d_l_format_1 c_l_7 (by exact np_s_format) hb (show rsK G M_s_format _ _ (rlw G x y th f) n (rsTh 1 (rlw G x' y th f) (n + 1)) from hC n _) (by decide) (by decide) (Nat.le_of_ble_eq_true rfl) rfl (Or.inr ⟨by decide, by decide, Or.inl ⟨rfl, k_l_12⟩⟩) (fun a => ?_)
  refine rs_astore_n d_l_format_7 rfl (by decide) rfl ?_
  refine rs_iconst (v := 1) d_l_format_8 rfl (by decide) ?_
  exact rs_ireturn d_l_format_9 rfl ⟨rfl, rfl, rfl⟩
set_option maxRecDepth 100000 in
theorem h_recover_ok {G : rsG} {x x' y : rT} {th : Int32} {f : Nat → Int64} {n : Nat} {v : Int32} (hC : ∀ n hf, rsK G M_s_recover (rmO 7 110) [.ref (rsB G)] (rcw G x hf) n (rsOk (some (.int v)) (rcw G x' hf) n)) : rsK G M_l_recover (rmO 8 130) [.ref (rsB G), .ref (rsB G + 50)] (rlw G x y th f) n (rsOk (some (.int 0)) (rlw G x' y th (vp_updL f 0 v.toInt64)) n) := by
  refine rsK_of pf_l_recover rfl (Nat.le_of_ble_eq_true rfl) rfl ?_
  obtain ⟨fs, hb⟩ := rl_x (G := G) (x := x) (y := y) (th := th) (f := f)
  refine rs_aload_n d_l_recover_0 rfl rfl ?_
  refine rs_iconst (v := (nI 0)) d_l_recover_1 rfl (by decide) ?_
  refine rs_aload_n d_l_recover_2 rfl rfl ?_
  refine rx_cV d_l_recover_3 rfl c_l_14 (by exact np_s_recover) hb (show rsK G M_s_recover _ _ (rlw G x y th f) n (rsOk (some (.int v)) (rlw G x' y th f) n) from hC n _) (by decide) ⟨rfl, rfl⟩ (Nat.le_of_ble_eq_true rfl) rfl ?_
  refine rs_i2l d_l_recover_6 rfl ?_
  refine rs_last (j := 0) d_l_recover_7 rfl rl_o (by decide) (by decide) ?_
  rw [rl_set]
  refine rs_goto (tgt := 14) d_l_recover_8 (by decide) ?_
  refine rs_iconst (v := 0) d_l_recover_14 rfl (by decide) ?_
  exact rs_ireturn d_l_recover_15 rfl ⟨rfl, rfl, rfl⟩
set_option maxRecDepth 100000 in
theorem h_recover_th1 {G : rsG} {x x' y : rT} {th : Int32} {f : Nat → Int64} {n : Nat} (hC : ∀ n hf, rsK G M_s_recover (rmT 7 110) [.ref (rsB G)] (rcw G x hf) n (rsTh 1 (rcw G x' hf) (n + 1))) : rsK G M_l_recover (rmT 8 130) [.ref (rsB G), .ref (rsB G + 50)] (rlw G x y th f) n (rsOk (some (.int 1)) (rlw G x' y th f) (n + 1)) := by
  refine rsK_of pf_l_recover rfl (Nat.le_of_ble_eq_true rfl) rfl ?_
  obtain ⟨fs, hb⟩ := rl_x (G := G) (x := x) (y := y) (th := th) (f := f)
  refine rs_aload_n d_l_recover_0 rfl rfl ?_
  refine rs_iconst (v := (nI 0)) d_l_recover_1 rfl (by decide) ?_
  refine rs_aload_n d_l_recover_2 rfl rfl ?_
  refine rx_kV (kc' := 0) (ks' := 0) (hp := 11) (k := 1) d_l_recover_3 c_l_14 (by exact np_s_recover) hb (show rsK G M_s_recover _ _ (rlw G x y th f) n (rsTh 1 (rlw G x' y th f) (n + 1)) from hC n _) (by decide) (by decide) (Nat.le_of_ble_eq_true rfl) rfl (Or.inr ⟨by decide, by decide, Or.inl ⟨rfl, k_l_12⟩⟩) (fun a => ?_)
  refine rs_astore_n d_l_recover_11 rfl (by decide) rfl ?_
  refine rs_iconst (v := 1) d_l_recover_12 rfl (by decide) ?_
  exact rs_ireturn d_l_recover_13 rfl ⟨rfl, rfl, rfl⟩
set_option maxRecDepth 100000 in
theorem h_put_ok {G : rsG} {x x' y : rT} {th : Int32} {f : Nat → Int64} {n : Nat} {p0 : Int32} {p1 : Int32} {v : Int32} (hC : ∀ n hf, rsK G M_s_put (rmO 10 175) [.ref (rsB G), .int p0, .int p1] (rcw G x hf) n (rsOk (some (.int v)) (rcw G x' hf) n)) : rsK G M_l_put (rmO 11 197) [.ref (rsB G), .int p0, .int p1, .ref (rsB G + 50)] (rlw G x y th f) n (rsOk (some (.int 0)) (rlw G x' y th (vp_updL f 0 v.toInt64)) n) := by
  refine rsK_of pf_l_put rfl (Nat.le_of_ble_eq_true rfl) rfl ?_
  obtain ⟨fs, hb⟩ := rl_x (G := G) (x := x) (y := y) (th := th) (f := f)
  refine rs_aload_n d_l_put_0 rfl rfl ?_
  refine rs_iconst (v := (nI 0)) d_l_put_1 rfl (by decide) ?_
  refine rs_aload_n d_l_put_2 rfl rfl ?_
  refine rs_iload_n d_l_put_3 rfl rfl ?_
  refine rs_iload_n d_l_put_4 rfl rfl ?_
  refine rx_cV d_l_put_5 rfl c_l_18 (by exact np_s_put) hb (show rsK G M_s_put _ _ (rlw G x y th f) n (rsOk (some (.int v)) (rlw G x' y th f) n) from hC n _) (by decide) ⟨rfl, rfl⟩ (Nat.le_of_ble_eq_true rfl) rfl ?_
  refine rs_i2l d_l_put_8 rfl ?_
  refine rs_last (j := 0) d_l_put_9 rfl rl_o (by decide) (by decide) ?_
  rw [rl_set]
  refine rs_goto (tgt := 25) d_l_put_10 (by decide) ?_
  refine rs_iconst (v := 0) d_l_put_25 rfl (by decide) ?_
  exact rs_ireturn d_l_put_26 rfl ⟨rfl, rfl, rfl⟩
set_option maxRecDepth 100000 in
theorem h_put_th0 {G : rsG} {x x' y : rT} {th : Int32} {f : Nat → Int64} {n : Nat} {p0 : Int32} {p1 : Int32} (hC : ∀ n hf, rsK G M_s_put (rmT 10 175) [.ref (rsB G), .int p0, .int p1] (rcw G x hf) n (rsTh 0 (rcw G x' hf) (n + 1))) : rsK G M_l_put (rmT 11 197) [.ref (rsB G), .int p0, .int p1, .ref (rsB G + 50)] (rlw G x y th f) n (rsOk (some (.int 1)) (rlw G x' y th f) (n + 1)) := by
  refine rsK_of pf_l_put rfl (Nat.le_of_ble_eq_true rfl) rfl ?_
  obtain ⟨fs, hb⟩ := rl_x (G := G) (x := x) (y := y) (th := th) (f := f)
  refine rs_aload_n d_l_put_0 rfl rfl ?_
  refine rs_iconst (v := (nI 0)) d_l_put_1 rfl (by decide) ?_
  refine rs_aload_n d_l_put_2 rfl rfl ?_
  refine rs_iload_n d_l_put_3 rfl rfl ?_
  refine rs_iload_n d_l_put_4 rfl rfl ?_
  refine rx_kV (kc' := 0) (ks' := 0) (hp := 13) (k := 0) d_l_put_5 c_l_18 (by exact np_s_put) hb (show rsK G M_s_put _ _ (rlw G x y th f) n (rsTh 0 (rlw G x' y th f) (n + 1)) from hC n _) (by decide) (by decide) (Nat.le_of_ble_eq_true rfl) rfl (Or.inr ⟨by decide, by decide, Or.inl ⟨rfl, k_l_22⟩⟩) (fun a => ?_)
  refine rs_astore d_l_put_13 rfl (by decide) rfl ?_
  refine rs_iconst (v := 1) d_l_put_15 rfl (by decide) ?_
  exact rs_ireturn d_l_put_16 rfl ⟨rfl, rfl, rfl⟩
set_option maxRecDepth 100000 in
theorem h_put_th1 {G : rsG} {x x' y : rT} {th : Int32} {f : Nat → Int64} {n : Nat} {p0 : Int32} {p1 : Int32} (hC : ∀ n hf, rsK G M_s_put (rmT 10 175) [.ref (rsB G), .int p0, .int p1] (rcw G x hf) n (rsTh 1 (rcw G x' hf) (n + 1))) : rsK G M_l_put (rmT 11 197) [.ref (rsB G), .int p0, .int p1, .ref (rsB G + 50)] (rlw G x y th f) n (rsOk (some (.int 2)) (rlw G x' y th f) (n + 1)) := by
  refine rsK_of pf_l_put rfl (Nat.le_of_ble_eq_true rfl) rfl ?_
  obtain ⟨fs, hb⟩ := rl_x (G := G) (x := x) (y := y) (th := th) (f := f)
  refine rs_aload_n d_l_put_0 rfl rfl ?_
  refine rs_iconst (v := (nI 0)) d_l_put_1 rfl (by decide) ?_
  refine rs_aload_n d_l_put_2 rfl rfl ?_
  refine rs_iload_n d_l_put_3 rfl rfl ?_
  refine rs_iload_n d_l_put_4 rfl rfl ?_
  refine rx_kV (kc' := 0) (ks' := 0) (hp := 17) (k := 1) d_l_put_5 c_l_18 (by exact np_s_put) hb (show rsK G M_s_put _ _ (rlw G x y th f) n (rsTh 1 (rlw G x' y th f) (n + 1)) from hC n _) (by decide) (by decide) (Nat.le_of_ble_eq_true rfl) rfl (Or.inr ⟨by decide, by decide, Or.inr ⟨⟨0, ⟨by decide, by decide, by decide⟩, k_l_22⟩, Or.inr ⟨by decide, by decide, Or.inl ⟨rfl, k_l_12⟩⟩⟩⟩) (fun a => ?_)
  refine rs_astore d_l_put_17 rfl (by decide) rfl ?_
  refine rs_iconst (v := 2) d_l_put_19 rfl (by decide) ?_
  exact rs_ireturn d_l_put_20 rfl ⟨rfl, rfl, rfl⟩
set_option maxRecDepth 100000 in
theorem h_put_th2 {G : rsG} {x x' y : rT} {th : Int32} {f : Nat → Int64} {n : Nat} {p0 : Int32} {p1 : Int32} (hC : ∀ n hf, rsK G M_s_put (rmT 10 175) [.ref (rsB G), .int p0, .int p1] (rcw G x hf) n (rsTh 2 (rcw G x' hf) (n + 1))) : rsK G M_l_put (rmT 11 197) [.ref (rsB G), .int p0, .int p1, .ref (rsB G + 50)] (rlw G x y th f) n (rsOk (some (.int 3)) (rlw G x' y th f) (n + 1)) := by
  refine rsK_of pf_l_put rfl (Nat.le_of_ble_eq_true rfl) rfl ?_
  obtain ⟨fs, hb⟩ := rl_x (G := G) (x := x) (y := y) (th := th) (f := f)
  refine rs_aload_n d_l_put_0 rfl rfl ?_
  refine rs_iconst (v := (nI 0)) d_l_put_1 rfl (by decide) ?_
  refine rs_aload_n d_l_put_2 rfl rfl ?_
  refine rs_iload_n d_l_put_3 rfl rfl ?_
  refine rs_iload_n d_l_put_4 rfl rfl ?_
  refine rx_kV (kc' := 0) (ks' := 0) (hp := 21) (k := 2) d_l_put_5 c_l_18 (by exact np_s_put) hb (show rsK G M_s_put _ _ (rlw G x y th f) n (rsTh 2 (rlw G x' y th f) (n + 1)) from hC n _) (by decide) (by decide) (Nat.le_of_ble_eq_true rfl) rfl (Or.inr ⟨by decide, by decide, Or.inr ⟨⟨0, ⟨by decide, by decide, by decide⟩, k_l_22⟩, Or.inr ⟨by decide, by decide, Or.inr ⟨⟨1, ⟨by decide, by decide, by decide⟩, k_l_12⟩, Or.inr ⟨by decide, by decide, Or.inl ⟨rfl, k_l_24⟩⟩⟩⟩⟩⟩) (fun a => ?_)
  refine rs_astore d_l_put_21 rfl (by decide) rfl ?_
  refine rs_iconst (v := 3) d_l_put_23 rfl (by decide) ?_
  exact rs_ireturn d_l_put_24 rfl ⟨rfl, rfl, rfl⟩
set_option maxRecDepth 100000 in
theorem h_remove_ok {G : rsG} {x x' y : rT} {th : Int32} {f : Nat → Int64} {n : Nat} {p0 : Int32} {v : Int32} (hv : v = 0 ∨ v = 1) (hC : ∀ n hf, rsK G M_s_remove (rmO 10 175) [.ref (rsB G), .int p0] (rcw G x hf) n (rsOk (some (.int v)) (rcw G x' hf) n)) : rsK G M_l_remove (rmO 11 197) [.ref (rsB G), .int p0, .ref (rsB G + 50)] (rlw G x y th f) n (rsOk (some (.int 0)) (rlw G x' y th (vp_updL f 0 v.toInt64)) n) := by
  refine rsK_of pf_l_remove rfl (Nat.le_of_ble_eq_true rfl) rfl ?_
  obtain ⟨fs, hb⟩ := rl_x (G := G) (x := x) (y := y) (th := th) (f := f)
  refine rs_aload_n d_l_remove_0 rfl rfl ?_
  refine rs_iconst (v := (nI 0)) d_l_remove_1 rfl (by decide) ?_
  refine rs_aload_n d_l_remove_2 rfl rfl ?_
  refine rs_iload_n d_l_remove_3 rfl rfl ?_
  refine rx_cV d_l_remove_4 rfl c_l_26 (by exact np_s_remove) hb (show rsK G M_s_remove _ _ (rlw G x y th f) n (rsOk (some (.int v)) (rlw G x' y th f) n) from hC n _) (by decide) ⟨rfl, rfl⟩ (Nat.le_of_ble_eq_true rfl) rfl ?_
  rcases hv with rfl | rfl
  · refine rs_if_eq (tgt := 14) d_l_remove_7 rfl (by decide) (fun _ => ?_) (fun hc => absurd (rfl) hc)
    refine rs_lconst (v := 0) d_l_remove_14 rfl (by decide) ?_
    refine rs_last (j := 0) d_l_remove_15 rfl rl_o (by decide) (by decide) ?_
    rw [rl_set]
    refine rs_goto (tgt := 28) d_l_remove_16 (by decide) ?_
    refine rs_iconst (v := 0) d_l_remove_28 rfl (by decide) ?_
    exact rs_ireturn d_l_remove_29 rfl ⟨rfl, rfl, rfl⟩
  · refine rs_if_eq (tgt := 14) d_l_remove_7 rfl (by decide) (fun hc => absurd hc (by decide)) (fun _ => ?_)
    refine rs_lconst (v := 1) d_l_remove_10 rfl (by decide) ?_
    refine rs_goto (tgt := 15) d_l_remove_11 (by decide) ?_
    refine rs_last (j := 0) d_l_remove_15 rfl rl_o (by decide) (by decide) ?_
    rw [rl_set]
    refine rs_goto (tgt := 28) d_l_remove_16 (by decide) ?_
    refine rs_iconst (v := 0) d_l_remove_28 rfl (by decide) ?_
    exact rs_ireturn d_l_remove_29 rfl ⟨rfl, rfl, rfl⟩
set_option maxRecDepth 100000 in
theorem h_remove_th0 {G : rsG} {x x' y : rT} {th : Int32} {f : Nat → Int64} {n : Nat} {p0 : Int32} (hC : ∀ n hf, rsK G M_s_remove (rmT 10 175) [.ref (rsB G), .int p0] (rcw G x hf) n (rsTh 0 (rcw G x' hf) (n + 1))) : rsK G M_l_remove (rmT 11 197) [.ref (rsB G), .int p0, .ref (rsB G + 50)] (rlw G x y th f) n (rsOk (some (.int 1)) (rlw G x' y th f) (n + 1)) := by
  refine rsK_of pf_l_remove rfl (Nat.le_of_ble_eq_true rfl) rfl ?_
  obtain ⟨fs, hb⟩ := rl_x (G := G) (x := x) (y := y) (th := th) (f := f)
  refine rs_aload_n d_l_remove_0 rfl rfl ?_
  refine rs_iconst (v := (nI 0)) d_l_remove_1 rfl (by decide) ?_
  refine rs_aload_n d_l_remove_2 rfl rfl ?_
  refine rs_iload_n d_l_remove_3 rfl rfl ?_
  refine rx_kV (kc' := 0) (ks' := 0) (hp := 19) (k := 0) d_l_remove_4 c_l_26 (by exact np_s_remove) hb (show rsK G M_s_remove _ _ (rlw G x y th f) n (rsTh 0 (rlw G x' y th f) (n + 1)) from hC n _) (by decide) (by decide) (Nat.le_of_ble_eq_true rfl) rfl (Or.inr ⟨by decide, by decide, Or.inl ⟨rfl, k_l_22⟩⟩) (fun a => ?_)
  refine rs_astore_n d_l_remove_19 rfl (by decide) rfl ?_
  refine rs_iconst (v := 1) d_l_remove_20 rfl (by decide) ?_
  exact rs_ireturn d_l_remove_21 rfl ⟨rfl, rfl, rfl⟩
set_option maxRecDepth 100000 in
theorem h_remove_th1 {G : rsG} {x x' y : rT} {th : Int32} {f : Nat → Int64} {n : Nat} {p0 : Int32} (hC : ∀ n hf, rsK G M_s_remove (rmT 10 175) [.ref (rsB G), .int p0] (rcw G x hf) n (rsTh 1 (rcw G x' hf) (n + 1))) : rsK G M_l_remove (rmT 11 197) [.ref (rsB G), .int p0, .ref (rsB G + 50)] (rlw G x y th f) n (rsOk (some (.int 2)) (rlw G x' y th f) (n + 1)) := by
  refine rsK_of pf_l_remove rfl (Nat.le_of_ble_eq_true rfl) rfl ?_
  obtain ⟨fs, hb⟩ := rl_x (G := G) (x := x) (y := y) (th := th) (f := f)
  refine rs_aload_n d_l_remove_0 rfl rfl ?_
  refine rs_iconst (v := (nI 0)) d_l_remove_1 rfl (by decide) ?_
  refine rs_aload_n d_l_remove_2 rfl rfl ?_
  refine rs_iload_n d_l_remove_3 rfl rfl ?_
  refine rx_kV (kc' := 0) (ks' := 0) (hp := 22) (k := 1) d_l_remove_4 c_l_26 (by exact np_s_remove) hb (show rsK G M_s_remove _ _ (rlw G x y th f) n (rsTh 1 (rlw G x' y th f) (n + 1)) from hC n _) (by decide) (by decide) (Nat.le_of_ble_eq_true rfl) rfl (Or.inr ⟨by decide, by decide, Or.inr ⟨⟨0, ⟨by decide, by decide, by decide⟩, k_l_22⟩, Or.inr ⟨by decide, by decide, Or.inl ⟨rfl, k_l_12⟩⟩⟩⟩) (fun a => ?_)
  refine rs_astore_n d_l_remove_22 rfl (by decide) rfl ?_
  refine rs_iconst (v := 2) d_l_remove_23 rfl (by decide) ?_
  exact rs_ireturn d_l_remove_24 rfl ⟨rfl, rfl, rfl⟩
set_option maxRecDepth 100000 in
theorem h_remove_th2 {G : rsG} {x x' y : rT} {th : Int32} {f : Nat → Int64} {n : Nat} {p0 : Int32} (hC : ∀ n hf, rsK G M_s_remove (rmT 10 175) [.ref (rsB G), .int p0] (rcw G x hf) n (rsTh 2 (rcw G x' hf) (n + 1))) : rsK G M_l_remove (rmT 11 197) [.ref (rsB G), .int p0, .ref (rsB G + 50)] (rlw G x y th f) n (rsOk (some (.int 3)) (rlw G x' y th f) (n + 1)) := by
  refine rsK_of pf_l_remove rfl (Nat.le_of_ble_eq_true rfl) rfl ?_
  obtain ⟨fs, hb⟩ := rl_x (G := G) (x := x) (y := y) (th := th) (f := f)
  refine rs_aload_n d_l_remove_0 rfl rfl ?_
  refine rs_iconst (v := (nI 0)) d_l_remove_1 rfl (by decide) ?_
  refine rs_aload_n d_l_remove_2 rfl rfl ?_
  refine rs_iload_n d_l_remove_3 rfl rfl ?_
  refine rx_kV (kc' := 0) (ks' := 0) (hp := 25) (k := 2) d_l_remove_4 c_l_26 (by exact np_s_remove) hb (show rsK G M_s_remove _ _ (rlw G x y th f) n (rsTh 2 (rlw G x' y th f) (n + 1)) from hC n _) (by decide) (by decide) (Nat.le_of_ble_eq_true rfl) rfl (Or.inr ⟨by decide, by decide, Or.inr ⟨⟨0, ⟨by decide, by decide, by decide⟩, k_l_22⟩, Or.inr ⟨by decide, by decide, Or.inr ⟨⟨1, ⟨by decide, by decide, by decide⟩, k_l_12⟩, Or.inr ⟨by decide, by decide, Or.inl ⟨rfl, k_l_24⟩⟩⟩⟩⟩⟩) (fun a => ?_)
  refine rs_astore_n d_l_remove_25 rfl (by decide) rfl ?_
  refine rs_iconst (v := 3) d_l_remove_26 rfl (by decide) ?_
  exact rs_ireturn d_l_remove_27 rfl ⟨rfl, rfl, rfl⟩
set_option maxRecDepth 100000 in
theorem h_get_ok {G : rsG} {x x' y : rT} {th : Int32} {f : Nat → Int64} {n : Nat} {p0 : Int32} {v : Int32} (hC : ∀ n hf, rsK G M_s_get (rmO 7 110) [.ref (rsB G), .int p0] (rcw G x hf) n (rsOk (some (.int v)) (rcw G x' hf) n)) : rsK G M_l_get (rmO 8 131) [.ref (rsB G), .int p0, .ref (rsB G + 50)] (rlw G x y th f) n (rsOk (some (.int 0)) (rlw G x' y th (vp_updL f 0 v.toInt64)) n) := by
  refine rsK_of pf_l_get rfl (Nat.le_of_ble_eq_true rfl) rfl ?_
  obtain ⟨fs, hb⟩ := rl_x (G := G) (x := x) (y := y) (th := th) (f := f)
  refine rs_aload_n d_l_get_0 rfl rfl ?_
  refine rs_iconst (v := (nI 0)) d_l_get_1 rfl (by decide) ?_
  refine rs_aload_n d_l_get_2 rfl rfl ?_
  refine rs_iload_n d_l_get_3 rfl rfl ?_
  refine rx_cV d_l_get_4 rfl c_l_30 (by exact np_s_get) hb (show rsK G M_s_get _ _ (rlw G x y th f) n (rsOk (some (.int v)) (rlw G x' y th f) n) from hC n _) (by decide) ⟨rfl, rfl⟩ (Nat.le_of_ble_eq_true rfl) rfl ?_
  refine rs_i2l d_l_get_7 rfl ?_
  refine rs_last (j := 0) d_l_get_8 rfl rl_o (by decide) (by decide) ?_
  rw [rl_set]
  refine rs_goto (tgt := 21) d_l_get_9 (by decide) ?_
  refine rs_iconst (v := 0) d_l_get_21 rfl (by decide) ?_
  exact rs_ireturn d_l_get_22 rfl ⟨rfl, rfl, rfl⟩
set_option maxRecDepth 100000 in
theorem h_get_th0 {G : rsG} {x x' y : rT} {th : Int32} {f : Nat → Int64} {n : Nat} {p0 : Int32} (hC : ∀ n hf, rsK G M_s_get (rmT 7 110) [.ref (rsB G), .int p0] (rcw G x hf) n (rsTh 0 (rcw G x' hf) (n + 1))) : rsK G M_l_get (rmT 8 131) [.ref (rsB G), .int p0, .ref (rsB G + 50)] (rlw G x y th f) n (rsOk (some (.int 1)) (rlw G x' y th f) (n + 1)) := by
  refine rsK_of pf_l_get rfl (Nat.le_of_ble_eq_true rfl) rfl ?_
  obtain ⟨fs, hb⟩ := rl_x (G := G) (x := x) (y := y) (th := th) (f := f)
  refine rs_aload_n d_l_get_0 rfl rfl ?_
  refine rs_iconst (v := (nI 0)) d_l_get_1 rfl (by decide) ?_
  refine rs_aload_n d_l_get_2 rfl rfl ?_
  refine rs_iload_n d_l_get_3 rfl rfl ?_
  refine rx_kV (kc' := 0) (ks' := 0) (hp := 12) (k := 0) d_l_get_4 c_l_30 (by exact np_s_get) hb (show rsK G M_s_get _ _ (rlw G x y th f) n (rsTh 0 (rlw G x' y th f) (n + 1)) from hC n _) (by decide) (by decide) (Nat.le_of_ble_eq_true rfl) rfl (Or.inr ⟨by decide, by decide, Or.inl ⟨rfl, k_l_22⟩⟩) (fun a => ?_)
  refine rs_astore_n d_l_get_12 rfl (by decide) rfl ?_
  refine rs_iconst (v := 1) d_l_get_13 rfl (by decide) ?_
  exact rs_ireturn d_l_get_14 rfl ⟨rfl, rfl, rfl⟩
set_option maxRecDepth 100000 in
theorem h_get_th1 {G : rsG} {x x' y : rT} {th : Int32} {f : Nat → Int64} {n : Nat} {p0 : Int32} (hC : ∀ n hf, rsK G M_s_get (rmT 7 110) [.ref (rsB G), .int p0] (rcw G x hf) n (rsTh 1 (rcw G x' hf) (n + 1))) : rsK G M_l_get (rmT 8 131) [.ref (rsB G), .int p0, .ref (rsB G + 50)] (rlw G x y th f) n (rsOk (some (.int 2)) (rlw G x' y th f) (n + 1)) := by
  refine rsK_of pf_l_get rfl (Nat.le_of_ble_eq_true rfl) rfl ?_
  obtain ⟨fs, hb⟩ := rl_x (G := G) (x := x) (y := y) (th := th) (f := f)
  refine rs_aload_n d_l_get_0 rfl rfl ?_
  refine rs_iconst (v := (nI 0)) d_l_get_1 rfl (by decide) ?_
  refine rs_aload_n d_l_get_2 rfl rfl ?_
  refine rs_iload_n d_l_get_3 rfl rfl ?_
  refine rx_kV (kc' := 0) (ks' := 0) (hp := 15) (k := 1) d_l_get_4 c_l_30 (by exact np_s_get) hb (show rsK G M_s_get _ _ (rlw G x y th f) n (rsTh 1 (rlw G x' y th f) (n + 1)) from hC n _) (by decide) (by decide) (Nat.le_of_ble_eq_true rfl) rfl (Or.inr ⟨by decide, by decide, Or.inr ⟨⟨0, ⟨by decide, by decide, by decide⟩, k_l_22⟩, Or.inr ⟨by decide, by decide, Or.inl ⟨rfl, k_l_12⟩⟩⟩⟩) (fun a => ?_)
  refine rs_astore_n d_l_get_15 rfl (by decide) rfl ?_
  refine rs_iconst (v := 2) d_l_get_16 rfl (by decide) ?_
  exact rs_ireturn d_l_get_17 rfl ⟨rfl, rfl, rfl⟩
set_option maxRecDepth 100000 in
theorem h_get_th3 {G : rsG} {x x' y : rT} {th : Int32} {f : Nat → Int64} {n : Nat} {p0 : Int32} (hC : ∀ n hf, rsK G M_s_get (rmT 7 110) [.ref (rsB G), .int p0] (rcw G x hf) n (rsTh 3 (rcw G x' hf) (n + 1))) : rsK G M_l_get (rmT 8 131) [.ref (rsB G), .int p0, .ref (rsB G + 50)] (rlw G x y th f) n (rsOk (some (.int 3)) (rlw G x' y th f) (n + 1)) := by
  refine rsK_of pf_l_get rfl (Nat.le_of_ble_eq_true rfl) rfl ?_
  obtain ⟨fs, hb⟩ := rl_x (G := G) (x := x) (y := y) (th := th) (f := f)
  refine rs_aload_n d_l_get_0 rfl rfl ?_
  refine rs_iconst (v := (nI 0)) d_l_get_1 rfl (by decide) ?_
  refine rs_aload_n d_l_get_2 rfl rfl ?_
  refine rs_iload_n d_l_get_3 rfl rfl ?_
  refine rx_kV (kc' := 0) (ks' := 0) (hp := 18) (k := 3) d_l_get_4 c_l_30 (by exact np_s_get) hb (show rsK G M_s_get _ _ (rlw G x y th f) n (rsTh 3 (rlw G x' y th f) (n + 1)) from hC n _) (by decide) (by decide) (Nat.le_of_ble_eq_true rfl) rfl (Or.inr ⟨by decide, by decide, Or.inr ⟨⟨0, ⟨by decide, by decide, by decide⟩, k_l_22⟩, Or.inr ⟨by decide, by decide, Or.inr ⟨⟨1, ⟨by decide, by decide, by decide⟩, k_l_12⟩, Or.inr ⟨by decide, by decide, Or.inl ⟨rfl, k_l_34⟩⟩⟩⟩⟩⟩) (fun a => ?_)
  refine rs_astore_n d_l_get_18 rfl (by decide) rfl ?_
  refine rs_iconst (v := 3) d_l_get_19 rfl (by decide) ?_
  exact rs_ireturn d_l_get_20 rfl ⟨rfl, rfl, rfl⟩
set_option maxRecDepth 100000 in
theorem h_has_ok {G : rsG} {x x' y : rT} {th : Int32} {f : Nat → Int64} {n : Nat} {p0 : Int32} {v : Int32} (hv : v = 0 ∨ v = 1) (hC : ∀ n hf, rsK G M_s_has (rmO 7 110) [.ref (rsB G), .int p0] (rcw G x hf) n (rsOk (some (.int v)) (rcw G x' hf) n)) : rsK G M_l_has (rmO 8 131) [.ref (rsB G), .int p0, .ref (rsB G + 50)] (rlw G x y th f) n (rsOk (some (.int 0)) (rlw G x' y th (vp_updL f 0 v.toInt64)) n) := by
  refine rsK_of pf_l_has rfl (Nat.le_of_ble_eq_true rfl) rfl ?_
  obtain ⟨fs, hb⟩ := rl_x (G := G) (x := x) (y := y) (th := th) (f := f)
  refine rs_aload_n d_l_has_0 rfl rfl ?_
  refine rs_iconst (v := (nI 0)) d_l_has_1 rfl (by decide) ?_
  refine rs_aload_n d_l_has_2 rfl rfl ?_
  refine rs_iload_n d_l_has_3 rfl rfl ?_
  refine rx_cV d_l_has_4 rfl c_l_36 (by exact np_s_has) hb (show rsK G M_s_has _ _ (rlw G x y th f) n (rsOk (some (.int v)) (rlw G x' y th f) n) from hC n _) (by decide) ⟨rfl, rfl⟩ (Nat.le_of_ble_eq_true rfl) rfl ?_
  rcases hv with rfl | rfl
  · refine rs_if_eq (tgt := 14) d_l_has_7 rfl (by decide) (fun _ => ?_) (fun hc => absurd (rfl) hc)
    refine rs_lconst (v := 0) d_l_has_14 rfl (by decide) ?_
    refine rs_last (j := 0) d_l_has_15 rfl rl_o (by decide) (by decide) ?_
    rw [rl_set]
    refine rs_goto (tgt := 25) d_l_has_16 (by decide) ?_
    refine rs_iconst (v := 0) d_l_has_25 rfl (by decide) ?_
    exact rs_ireturn d_l_has_26 rfl ⟨rfl, rfl, rfl⟩
  · refine rs_if_eq (tgt := 14) d_l_has_7 rfl (by decide) (fun hc => absurd hc (by decide)) (fun _ => ?_)
    refine rs_lconst (v := 1) d_l_has_10 rfl (by decide) ?_
    refine rs_goto (tgt := 15) d_l_has_11 (by decide) ?_
    refine rs_last (j := 0) d_l_has_15 rfl rl_o (by decide) (by decide) ?_
    rw [rl_set]
    refine rs_goto (tgt := 25) d_l_has_16 (by decide) ?_
    refine rs_iconst (v := 0) d_l_has_25 rfl (by decide) ?_
    exact rs_ireturn d_l_has_26 rfl ⟨rfl, rfl, rfl⟩
set_option maxRecDepth 100000 in
theorem h_has_th0 {G : rsG} {x x' y : rT} {th : Int32} {f : Nat → Int64} {n : Nat} {p0 : Int32} (hC : ∀ n hf, rsK G M_s_has (rmT 7 110) [.ref (rsB G), .int p0] (rcw G x hf) n (rsTh 0 (rcw G x' hf) (n + 1))) : rsK G M_l_has (rmT 8 131) [.ref (rsB G), .int p0, .ref (rsB G + 50)] (rlw G x y th f) n (rsOk (some (.int 1)) (rlw G x' y th f) (n + 1)) := by
  refine rsK_of pf_l_has rfl (Nat.le_of_ble_eq_true rfl) rfl ?_
  obtain ⟨fs, hb⟩ := rl_x (G := G) (x := x) (y := y) (th := th) (f := f)
  refine rs_aload_n d_l_has_0 rfl rfl ?_
  refine rs_iconst (v := (nI 0)) d_l_has_1 rfl (by decide) ?_
  refine rs_aload_n d_l_has_2 rfl rfl ?_
  refine rs_iload_n d_l_has_3 rfl rfl ?_
  refine rx_kV (kc' := 0) (ks' := 0) (hp := 19) (k := 0) d_l_has_4 c_l_36 (by exact np_s_has) hb (show rsK G M_s_has _ _ (rlw G x y th f) n (rsTh 0 (rlw G x' y th f) (n + 1)) from hC n _) (by decide) (by decide) (Nat.le_of_ble_eq_true rfl) rfl (Or.inr ⟨by decide, by decide, Or.inl ⟨rfl, k_l_22⟩⟩) (fun a => ?_)
  refine rs_astore_n d_l_has_19 rfl (by decide) rfl ?_
  refine rs_iconst (v := 1) d_l_has_20 rfl (by decide) ?_
  exact rs_ireturn d_l_has_21 rfl ⟨rfl, rfl, rfl⟩
set_option maxRecDepth 100000 in
theorem h_has_th1 {G : rsG} {x x' y : rT} {th : Int32} {f : Nat → Int64} {n : Nat} {p0 : Int32} (hC : ∀ n hf, rsK G M_s_has (rmT 7 110) [.ref (rsB G), .int p0] (rcw G x hf) n (rsTh 1 (rcw G x' hf) (n + 1))) : rsK G M_l_has (rmT 8 131) [.ref (rsB G), .int p0, .ref (rsB G + 50)] (rlw G x y th f) n (rsOk (some (.int 2)) (rlw G x' y th f) (n + 1)) := by
  refine rsK_of pf_l_has rfl (Nat.le_of_ble_eq_true rfl) rfl ?_
  obtain ⟨fs, hb⟩ := rl_x (G := G) (x := x) (y := y) (th := th) (f := f)
  refine rs_aload_n d_l_has_0 rfl rfl ?_
  refine rs_iconst (v := (nI 0)) d_l_has_1 rfl (by decide) ?_
  refine rs_aload_n d_l_has_2 rfl rfl ?_
  refine rs_iload_n d_l_has_3 rfl rfl ?_
  refine rx_kV (kc' := 0) (ks' := 0) (hp := 22) (k := 1) d_l_has_4 c_l_36 (by exact np_s_has) hb (show rsK G M_s_has _ _ (rlw G x y th f) n (rsTh 1 (rlw G x' y th f) (n + 1)) from hC n _) (by decide) (by decide) (Nat.le_of_ble_eq_true rfl) rfl (Or.inr ⟨by decide, by decide, Or.inr ⟨⟨0, ⟨by decide, by decide, by decide⟩, k_l_22⟩, Or.inr ⟨by decide, by decide, Or.inl ⟨rfl, k_l_12⟩⟩⟩⟩) (fun a => ?_)
  refine rs_astore_n d_l_has_22 rfl (by decide) rfl ?_
  refine rs_iconst (v := 2) d_l_has_23 rfl (by decide) ?_
  exact rs_ireturn d_l_has_24 rfl ⟨rfl, rfl, rfl⟩
set_option maxRecDepth 100000 in
theorem h_flush_ok {G : rsG} {x x' y : rT} {th : Int32} {f : Nat → Int64} {n : Nat} {v : Int32} (hC : ∀ n hf, rsK G M_s_flush (rmO 9 154) [.ref (rsB G)] (rcw G x hf) n (rsOk (some (.int v)) (rcw G x' hf) n)) : rsK G M_l_flush (rmO 10 175) [.ref (rsB G), .ref (rsB G + 50)] (rlw G x y th f) n (rsOk (some (.int 0)) (rlw G x' y th (vp_updL f 0 v.toInt64)) n) := by
  refine rsK_of pf_l_flush rfl (Nat.le_of_ble_eq_true rfl) rfl ?_
  obtain ⟨fs, hb⟩ := rl_x (G := G) (x := x) (y := y) (th := th) (f := f)
  refine rs_aload_n d_l_flush_0 rfl rfl ?_
  refine rs_iconst (v := (nI 0)) d_l_flush_1 rfl (by decide) ?_
  refine rs_aload_n d_l_flush_2 rfl rfl ?_
  refine rx_cV d_l_flush_3 rfl c_l_39 (by exact np_s_flush) hb (show rsK G M_s_flush _ _ (rlw G x y th f) n (rsOk (some (.int v)) (rlw G x' y th f) n) from hC n _) (by decide) ⟨rfl, rfl⟩ (Nat.le_of_ble_eq_true rfl) rfl ?_
  refine rs_i2l d_l_flush_6 rfl ?_
  refine rs_last (j := 0) d_l_flush_7 rfl rl_o (by decide) (by decide) ?_
  rw [rl_set]
  refine rs_goto (tgt := 17) d_l_flush_8 (by decide) ?_
  refine rs_iconst (v := 0) d_l_flush_17 rfl (by decide) ?_
  exact rs_ireturn d_l_flush_18 rfl ⟨rfl, rfl, rfl⟩
set_option maxRecDepth 100000 in
theorem h_flush_th1 {G : rsG} {x x' y : rT} {th : Int32} {f : Nat → Int64} {n : Nat} (hC : ∀ n hf, rsK G M_s_flush (rmT 9 154) [.ref (rsB G)] (rcw G x hf) n (rsTh 1 (rcw G x' hf) (n + 1))) : rsK G M_l_flush (rmT 10 175) [.ref (rsB G), .ref (rsB G + 50)] (rlw G x y th f) n (rsOk (some (.int 1)) (rlw G x' y th f) (n + 1)) := by
  refine rsK_of pf_l_flush rfl (Nat.le_of_ble_eq_true rfl) rfl ?_
  obtain ⟨fs, hb⟩ := rl_x (G := G) (x := x) (y := y) (th := th) (f := f)
  refine rs_aload_n d_l_flush_0 rfl rfl ?_
  refine rs_iconst (v := (nI 0)) d_l_flush_1 rfl (by decide) ?_
  refine rs_aload_n d_l_flush_2 rfl rfl ?_
  refine rx_kV (kc' := 0) (ks' := 0) (hp := 11) (k := 1) d_l_flush_3 c_l_39 (by exact np_s_flush) hb (show rsK G M_s_flush _ _ (rlw G x y th f) n (rsTh 1 (rlw G x' y th f) (n + 1)) from hC n _) (by decide) (by decide) (Nat.le_of_ble_eq_true rfl) rfl (Or.inr ⟨by decide, by decide, Or.inl ⟨rfl, k_l_12⟩⟩) (fun a => ?_)
  refine rs_astore_n d_l_flush_11 rfl (by decide) rfl ?_
  refine rs_iconst (v := 1) d_l_flush_12 rfl (by decide) ?_
  exact rs_ireturn d_l_flush_13 rfl ⟨rfl, rfl, rfl⟩
set_option maxRecDepth 100000 in
theorem h_flush_th2 {G : rsG} {x x' y : rT} {th : Int32} {f : Nat → Int64} {n : Nat} (hC : ∀ n hf, rsK G M_s_flush (rmT 9 154) [.ref (rsB G)] (rcw G x hf) n (rsTh 2 (rcw G x' hf) (n + 1))) : rsK G M_l_flush (rmT 10 175) [.ref (rsB G), .ref (rsB G + 50)] (rlw G x y th f) n (rsOk (some (.int 2)) (rlw G x' y th f) (n + 1)) := by
  refine rsK_of pf_l_flush rfl (Nat.le_of_ble_eq_true rfl) rfl ?_
  obtain ⟨fs, hb⟩ := rl_x (G := G) (x := x) (y := y) (th := th) (f := f)
  refine rs_aload_n d_l_flush_0 rfl rfl ?_
  refine rs_iconst (v := (nI 0)) d_l_flush_1 rfl (by decide) ?_
  refine rs_aload_n d_l_flush_2 rfl rfl ?_
  refine rx_kV (kc' := 0) (ks' := 0) (hp := 14) (k := 2) d_l_flush_3 c_l_39 (by exact np_s_flush) hb (show rsK G M_s_flush _ _ (rlw G x y th f) n (rsTh 2 (rlw G x' y th f) (n + 1)) from hC n _) (by decide) (by decide) (Nat.le_of_ble_eq_true rfl) rfl (Or.inr ⟨by decide, by decide, Or.inr ⟨⟨1, ⟨by decide, by decide, by decide⟩, k_l_12⟩, Or.inr ⟨by decide, by decide, Or.inl ⟨rfl, k_l_24⟩⟩⟩⟩) (fun a => ?_)
  refine rs_astore_n d_l_flush_14 rfl (by decide) rfl ?_
  refine rs_iconst (v := 2) d_l_flush_15 rfl (by decide) ?_
  exact rs_ireturn d_l_flush_16 rfl ⟨rfl, rfl, rfl⟩
set_option maxRecDepth 100000 in
theorem h_compact_ok {G : rsG} {x x' y : rT} {th : Int32} {f : Nat → Int64} {n : Nat} {v : Int32} (hC : ∀ n hf, rsK G M_s_compact (rmO 9 155) [.ref (rsB G)] (rcw G x hf) n (rsOk (some (.int v)) (rcw G x' hf) n)) : rsK G M_l_compact (rmO 10 176) [.ref (rsB G), .ref (rsB G + 50)] (rlw G x y th f) n (rsOk (some (.int 0)) (rlw G x' y th (vp_updL f 0 v.toInt64)) n) := by
  refine rsK_of pf_l_compact rfl (Nat.le_of_ble_eq_true rfl) rfl ?_
  obtain ⟨fs, hb⟩ := rl_x (G := G) (x := x) (y := y) (th := th) (f := f)
  refine rs_aload_n d_l_compact_0 rfl rfl ?_
  refine rs_iconst (v := (nI 0)) d_l_compact_1 rfl (by decide) ?_
  refine rs_aload_n d_l_compact_2 rfl rfl ?_
  refine rx_cV d_l_compact_3 rfl c_l_42 (by exact np_s_compact) hb (show rsK G M_s_compact _ _ (rlw G x y th f) n (rsOk (some (.int v)) (rlw G x' y th f) n) from hC n _) (by decide) ⟨rfl, rfl⟩ (Nat.le_of_ble_eq_true rfl) rfl ?_
  refine rs_i2l d_l_compact_6 rfl ?_
  refine rs_last (j := 0) d_l_compact_7 rfl rl_o (by decide) (by decide) ?_
  rw [rl_set]
  refine rs_goto (tgt := 17) d_l_compact_8 (by decide) ?_
  refine rs_iconst (v := 0) d_l_compact_17 rfl (by decide) ?_
  exact rs_ireturn d_l_compact_18 rfl ⟨rfl, rfl, rfl⟩
set_option maxRecDepth 100000 in
theorem h_compact_th1 {G : rsG} {x x' y : rT} {th : Int32} {f : Nat → Int64} {n : Nat} (hC : ∀ n hf, rsK G M_s_compact (rmT 9 155) [.ref (rsB G)] (rcw G x hf) n (rsTh 1 (rcw G x' hf) (n + 1))) : rsK G M_l_compact (rmT 10 176) [.ref (rsB G), .ref (rsB G + 50)] (rlw G x y th f) n (rsOk (some (.int 1)) (rlw G x' y th f) (n + 1)) := by
  refine rsK_of pf_l_compact rfl (Nat.le_of_ble_eq_true rfl) rfl ?_
  obtain ⟨fs, hb⟩ := rl_x (G := G) (x := x) (y := y) (th := th) (f := f)
  refine rs_aload_n d_l_compact_0 rfl rfl ?_
  refine rs_iconst (v := (nI 0)) d_l_compact_1 rfl (by decide) ?_
  refine rs_aload_n d_l_compact_2 rfl rfl ?_
  refine rx_kV (kc' := 0) (ks' := 0) (hp := 11) (k := 1) d_l_compact_3 c_l_42 (by exact np_s_compact) hb (show rsK G M_s_compact _ _ (rlw G x y th f) n (rsTh 1 (rlw G x' y th f) (n + 1)) from hC n _) (by decide) (by decide) (Nat.le_of_ble_eq_true rfl) rfl (Or.inr ⟨by decide, by decide, Or.inl ⟨rfl, k_l_12⟩⟩) (fun a => ?_)
  refine rs_astore_n d_l_compact_11 rfl (by decide) rfl ?_
  refine rs_iconst (v := 1) d_l_compact_12 rfl (by decide) ?_
  exact rs_ireturn d_l_compact_13 rfl ⟨rfl, rfl, rfl⟩
set_option maxRecDepth 100000 in
theorem h_compact_th2 {G : rsG} {x x' y : rT} {th : Int32} {f : Nat → Int64} {n : Nat} (hC : ∀ n hf, rsK G M_s_compact (rmT 9 155) [.ref (rsB G)] (rcw G x hf) n (rsTh 2 (rcw G x' hf) (n + 1))) : rsK G M_l_compact (rmT 10 176) [.ref (rsB G), .ref (rsB G + 50)] (rlw G x y th f) n (rsOk (some (.int 2)) (rlw G x' y th f) (n + 1)) := by
  refine rsK_of pf_l_compact rfl (Nat.le_of_ble_eq_true rfl) rfl ?_
  obtain ⟨fs, hb⟩ := rl_x (G := G) (x := x) (y := y) (th := th) (f := f)
  refine rs_aload_n d_l_compact_0 rfl rfl ?_
  refine rs_iconst (v := (nI 0)) d_l_compact_1 rfl (by decide) ?_
  refine rs_aload_n d_l_compact_2 rfl rfl ?_
  refine rx_kV (kc' := 0) (ks' := 0) (hp := 14) (k := 2) d_l_compact_3 c_l_42 (by exact np_s_compact) hb (show rsK G M_s_compact _ _ (rlw G x y th f) n (rsTh 2 (rlw G x' y th f) (n + 1)) from hC n _) (by decide) (by decide) (Nat.le_of_ble_eq_true rfl) rfl (Or.inr ⟨by decide, by decide, Or.inr ⟨⟨1, ⟨by decide, by decide, by decide⟩, k_l_12⟩, Or.inr ⟨by decide, by decide, Or.inl ⟨rfl, k_l_24⟩⟩⟩⟩) (fun a => ?_)
  refine rs_astore_n d_l_compact_14 rfl (by decide) rfl ?_
  refine rs_iconst (v := 2) d_l_compact_15 rfl (by decide) ?_
  exact rs_ireturn d_l_compact_16 rfl ⟨rfl, rfl, rfl⟩
set_option maxRecDepth 100000 in
theorem h_merge_ok {G : rsG} {x x' y : rT} {th : Int32} {f : Nat → Int64} {n : Nat} {p0 : Int32} {v : Int32} (hC : ∀ n hf, rsK G M_s_merge (rmO 9 155) [.ref (rsB G), .int p0] (rcw G x hf) n (rsOk (some (.int v)) (rcw G x' hf) n)) : rsK G M_l_merge (rmO 10 177) [.ref (rsB G), .int p0, .ref (rsB G + 50)] (rlw G x y th f) n (rsOk (some (.int 0)) (rlw G x' y th (vp_updL f 0 v.toInt64)) n) := by
  refine rsK_of pf_l_merge rfl (Nat.le_of_ble_eq_true rfl) rfl ?_
  obtain ⟨fs, hb⟩ := rl_x (G := G) (x := x) (y := y) (th := th) (f := f)
  refine rs_aload_n d_l_merge_0 rfl rfl ?_
  refine rs_iconst (v := (nI 0)) d_l_merge_1 rfl (by decide) ?_
  refine rs_aload_n d_l_merge_2 rfl rfl ?_
  refine rs_iload_n d_l_merge_3 rfl rfl ?_
  refine rx_cV d_l_merge_4 rfl c_l_45 (by exact np_s_merge) hb (show rsK G M_s_merge _ _ (rlw G x y th f) n (rsOk (some (.int v)) (rlw G x' y th f) n) from hC n _) (by decide) ⟨rfl, rfl⟩ (Nat.le_of_ble_eq_true rfl) rfl ?_
  refine rs_i2l d_l_merge_7 rfl ?_
  refine rs_last (j := 0) d_l_merge_8 rfl rl_o (by decide) (by decide) ?_
  rw [rl_set]
  refine rs_goto (tgt := 21) d_l_merge_9 (by decide) ?_
  refine rs_iconst (v := 0) d_l_merge_21 rfl (by decide) ?_
  exact rs_ireturn d_l_merge_22 rfl ⟨rfl, rfl, rfl⟩
set_option maxRecDepth 100000 in
theorem h_merge_th0 {G : rsG} {x x' y : rT} {th : Int32} {f : Nat → Int64} {n : Nat} {p0 : Int32} (hC : ∀ n hf, rsK G M_s_merge (rmT 9 155) [.ref (rsB G), .int p0] (rcw G x hf) n (rsTh 0 (rcw G x' hf) (n + 1))) : rsK G M_l_merge (rmT 10 177) [.ref (rsB G), .int p0, .ref (rsB G + 50)] (rlw G x y th f) n (rsOk (some (.int 1)) (rlw G x' y th f) (n + 1)) := by
  refine rsK_of pf_l_merge rfl (Nat.le_of_ble_eq_true rfl) rfl ?_
  obtain ⟨fs, hb⟩ := rl_x (G := G) (x := x) (y := y) (th := th) (f := f)
  refine rs_aload_n d_l_merge_0 rfl rfl ?_
  refine rs_iconst (v := (nI 0)) d_l_merge_1 rfl (by decide) ?_
  refine rs_aload_n d_l_merge_2 rfl rfl ?_
  refine rs_iload_n d_l_merge_3 rfl rfl ?_
  refine rx_kV (kc' := 0) (ks' := 0) (hp := 12) (k := 0) d_l_merge_4 c_l_45 (by exact np_s_merge) hb (show rsK G M_s_merge _ _ (rlw G x y th f) n (rsTh 0 (rlw G x' y th f) (n + 1)) from hC n _) (by decide) (by decide) (Nat.le_of_ble_eq_true rfl) rfl (Or.inr ⟨by decide, by decide, Or.inl ⟨rfl, k_l_22⟩⟩) (fun a => ?_)
  refine rs_astore_n d_l_merge_12 rfl (by decide) rfl ?_
  refine rs_iconst (v := 1) d_l_merge_13 rfl (by decide) ?_
  exact rs_ireturn d_l_merge_14 rfl ⟨rfl, rfl, rfl⟩
set_option maxRecDepth 100000 in
theorem h_merge_th1 {G : rsG} {x x' y : rT} {th : Int32} {f : Nat → Int64} {n : Nat} {p0 : Int32} (hC : ∀ n hf, rsK G M_s_merge (rmT 9 155) [.ref (rsB G), .int p0] (rcw G x hf) n (rsTh 1 (rcw G x' hf) (n + 1))) : rsK G M_l_merge (rmT 10 177) [.ref (rsB G), .int p0, .ref (rsB G + 50)] (rlw G x y th f) n (rsOk (some (.int 2)) (rlw G x' y th f) (n + 1)) := by
  refine rsK_of pf_l_merge rfl (Nat.le_of_ble_eq_true rfl) rfl ?_
  obtain ⟨fs, hb⟩ := rl_x (G := G) (x := x) (y := y) (th := th) (f := f)
  refine rs_aload_n d_l_merge_0 rfl rfl ?_
  refine rs_iconst (v := (nI 0)) d_l_merge_1 rfl (by decide) ?_
  refine rs_aload_n d_l_merge_2 rfl rfl ?_
  refine rs_iload_n d_l_merge_3 rfl rfl ?_
  refine rx_kV (kc' := 0) (ks' := 0) (hp := 15) (k := 1) d_l_merge_4 c_l_45 (by exact np_s_merge) hb (show rsK G M_s_merge _ _ (rlw G x y th f) n (rsTh 1 (rlw G x' y th f) (n + 1)) from hC n _) (by decide) (by decide) (Nat.le_of_ble_eq_true rfl) rfl (Or.inr ⟨by decide, by decide, Or.inr ⟨⟨0, ⟨by decide, by decide, by decide⟩, k_l_22⟩, Or.inr ⟨by decide, by decide, Or.inl ⟨rfl, k_l_12⟩⟩⟩⟩) (fun a => ?_)
  refine rs_astore_n d_l_merge_15 rfl (by decide) rfl ?_
  refine rs_iconst (v := 2) d_l_merge_16 rfl (by decide) ?_
  exact rs_ireturn d_l_merge_17 rfl ⟨rfl, rfl, rfl⟩
set_option maxRecDepth 100000 in
theorem h_merge_th2 {G : rsG} {x x' y : rT} {th : Int32} {f : Nat → Int64} {n : Nat} {p0 : Int32} (hC : ∀ n hf, rsK G M_s_merge (rmT 9 155) [.ref (rsB G), .int p0] (rcw G x hf) n (rsTh 2 (rcw G x' hf) (n + 1))) : rsK G M_l_merge (rmT 10 177) [.ref (rsB G), .int p0, .ref (rsB G + 50)] (rlw G x y th f) n (rsOk (some (.int 3)) (rlw G x' y th f) (n + 1)) := by
  refine rsK_of pf_l_merge rfl (Nat.le_of_ble_eq_true rfl) rfl ?_
  obtain ⟨fs, hb⟩ := rl_x (G := G) (x := x) (y := y) (th := th) (f := f)
  refine rs_aload_n d_l_merge_0 rfl rfl ?_
  refine rs_iconst (v := (nI 0)) d_l_merge_1 rfl (by decide) ?_
  refine rs_aload_n d_l_merge_2 rfl rfl ?_
  refine rs_iload_n d_l_merge_3 rfl rfl ?_
  refine rx_kV (kc' := 0) (ks' := 0) (hp := 18) (k := 2) d_l_merge_4 c_l_45 (by exact np_s_merge) hb (show rsK G M_s_merge _ _ (rlw G x y th f) n (rsTh 2 (rlw G x' y th f) (n + 1)) from hC n _) (by decide) (by decide) (Nat.le_of_ble_eq_true rfl) rfl (Or.inr ⟨by decide, by decide, Or.inr ⟨⟨0, ⟨by decide, by decide, by decide⟩, k_l_22⟩, Or.inr ⟨by decide, by decide, Or.inr ⟨⟨1, ⟨by decide, by decide, by decide⟩, k_l_12⟩, Or.inr ⟨by decide, by decide, Or.inl ⟨rfl, k_l_24⟩⟩⟩⟩⟩⟩) (fun a => ?_)
  refine rs_astore_n d_l_merge_18 rfl (by decide) rfl ?_
  refine rs_iconst (v := 3) d_l_merge_19 rfl (by decide) ?_
  exact rs_ireturn d_l_merge_20 rfl ⟨rfl, rfl, rfl⟩
set_option maxRecDepth 100000 in
theorem h_limit_ok {G : rsG} {x x' y : rT} {th : Int32} {f : Nat → Int64} {n : Nat} {p0 : Int32} (hC : ∀ n hf, rsK G M_s_limit (rmO 7 110) [.ref (rsB G), .int p0] (rcw G x hf) n (rsOk none (rcw G x' hf) n)) : rsK G M_l_limit (rmO 8 131) [.ref (rsB G), .int p0] (rlw G x y th f) n (rsOk (some (.int 0)) (rlw G x' y th f) n) := by
  refine rsK_of pf_l_limit rfl (Nat.le_of_ble_eq_true rfl) rfl ?_
  obtain ⟨fs, hb⟩ := rl_x (G := G) (x := x) (y := y) (th := th) (f := f)
  refine rs_aload_n d_l_limit_0 rfl rfl ?_
  refine rs_iload_n d_l_limit_1 rfl rfl ?_
  refine rx_cV d_l_limit_2 rfl c_l_48 (by exact np_s_limit) hb (show rsK G M_s_limit _ _ (rlw G x y th f) n (rsOk none (rlw G x' y th f) n) from hC n _) (by decide) ⟨rfl, rfl⟩ (Nat.le_of_ble_eq_true rfl) rfl ?_
  refine rs_goto (tgt := 14) d_l_limit_5 (by decide) ?_
  refine rs_iconst (v := 0) d_l_limit_14 rfl (by decide) ?_
  exact rs_ireturn d_l_limit_15 rfl ⟨rfl, rfl, rfl⟩
set_option maxRecDepth 100000 in
theorem h_limit_th0 {G : rsG} {x x' y : rT} {th : Int32} {f : Nat → Int64} {n : Nat} {p0 : Int32} (hC : ∀ n hf, rsK G M_s_limit (rmT 7 110) [.ref (rsB G), .int p0] (rcw G x hf) n (rsTh 0 (rcw G x' hf) (n + 1))) : rsK G M_l_limit (rmT 8 131) [.ref (rsB G), .int p0] (rlw G x y th f) n (rsOk (some (.int 1)) (rlw G x' y th f) (n + 1)) := by
  refine rsK_of pf_l_limit rfl (Nat.le_of_ble_eq_true rfl) rfl ?_
  obtain ⟨fs, hb⟩ := rl_x (G := G) (x := x) (y := y) (th := th) (f := f)
  refine rs_aload_n d_l_limit_0 rfl rfl ?_
  refine rs_iload_n d_l_limit_1 rfl rfl ?_
  refine rx_kV (kc' := 0) (ks' := 0) (hp := 8) (k := 0) d_l_limit_2 c_l_48 (by exact np_s_limit) hb (show rsK G M_s_limit _ _ (rlw G x y th f) n (rsTh 0 (rlw G x' y th f) (n + 1)) from hC n _) (by decide) (by decide) (Nat.le_of_ble_eq_true rfl) rfl (Or.inr ⟨by decide, by decide, Or.inl ⟨rfl, k_l_22⟩⟩) (fun a => ?_)
  refine rs_astore_n d_l_limit_8 rfl (by decide) rfl ?_
  refine rs_iconst (v := 1) d_l_limit_9 rfl (by decide) ?_
  exact rs_ireturn d_l_limit_10 rfl ⟨rfl, rfl, rfl⟩
set_option maxRecDepth 100000 in
theorem h_limit_th1 {G : rsG} {x x' y : rT} {th : Int32} {f : Nat → Int64} {n : Nat} {p0 : Int32} (hC : ∀ n hf, rsK G M_s_limit (rmT 7 110) [.ref (rsB G), .int p0] (rcw G x hf) n (rsTh 1 (rcw G x' hf) (n + 1))) : rsK G M_l_limit (rmT 8 131) [.ref (rsB G), .int p0] (rlw G x y th f) n (rsOk (some (.int 2)) (rlw G x' y th f) (n + 1)) := by
  refine rsK_of pf_l_limit rfl (Nat.le_of_ble_eq_true rfl) rfl ?_
  obtain ⟨fs, hb⟩ := rl_x (G := G) (x := x) (y := y) (th := th) (f := f)
  refine rs_aload_n d_l_limit_0 rfl rfl ?_
  refine rs_iload_n d_l_limit_1 rfl rfl ?_
  refine rx_kV (kc' := 0) (ks' := 0) (hp := 11) (k := 1) d_l_limit_2 c_l_48 (by exact np_s_limit) hb (show rsK G M_s_limit _ _ (rlw G x y th f) n (rsTh 1 (rlw G x' y th f) (n + 1)) from hC n _) (by decide) (by decide) (Nat.le_of_ble_eq_true rfl) rfl (Or.inr ⟨by decide, by decide, Or.inr ⟨⟨0, ⟨by decide, by decide, by decide⟩, k_l_22⟩, Or.inr ⟨by decide, by decide, Or.inl ⟨rfl, k_l_12⟩⟩⟩⟩) (fun a => ?_)
  refine rs_astore_n d_l_limit_11 rfl (by decide) rfl ?_
  refine rs_iconst (v := 2) d_l_limit_12 rfl (by decide) ?_
  exact rs_ireturn d_l_limit_13 rfl ⟨rfl, rfl, rfl⟩
set_option maxRecDepth 100000 in
theorem h_seek_ok {G : rsG} {x x' y : rT} {th : Int32} {f : Nat → Int64} {n : Nat} {p0 : Int32} {v : Int32} (hv : v = 0 ∨ v = 1) (hC : ∀ n hf, rsK G M_s_seek (rmO 7 131) [.ref (rsB G), .int p0] (rcw G x hf) n (rsOk (some (.int v)) (rcw G x' hf) n)) : rsK G M_l_seek (rmO 8 152) [.ref (rsB G), .int p0, .ref (rsB G + 50)] (rlw G x y th f) n (rsOk (some (.int 0)) (rlw G x' y th (vp_updL f 0 v.toInt64)) n) := by
  refine rsK_of pf_l_seek rfl (Nat.le_of_ble_eq_true rfl) rfl ?_
  obtain ⟨fs, hb⟩ := rl_x (G := G) (x := x) (y := y) (th := th) (f := f)
  refine rs_aload_n d_l_seek_0 rfl rfl ?_
  refine rs_iconst (v := (nI 0)) d_l_seek_1 rfl (by decide) ?_
  refine rs_aload_n d_l_seek_2 rfl rfl ?_
  refine rs_iload_n d_l_seek_3 rfl rfl ?_
  refine rx_cV d_l_seek_4 rfl c_l_52 (by exact np_s_seek) hb (show rsK G M_s_seek _ _ (rlw G x y th f) n (rsOk (some (.int v)) (rlw G x' y th f) n) from hC n _) (by decide) ⟨rfl, rfl⟩ (Nat.le_of_ble_eq_true rfl) rfl ?_
  rcases hv with rfl | rfl
  · refine rs_if_eq (tgt := 14) d_l_seek_7 rfl (by decide) (fun _ => ?_) (fun hc => absurd (rfl) hc)
    refine rs_lconst (v := 0) d_l_seek_14 rfl (by decide) ?_
    refine rs_last (j := 0) d_l_seek_15 rfl rl_o (by decide) (by decide) ?_
    rw [rl_set]
    refine rs_goto (tgt := 25) d_l_seek_16 (by decide) ?_
    refine rs_iconst (v := 0) d_l_seek_25 rfl (by decide) ?_
    exact rs_ireturn d_l_seek_26 rfl ⟨rfl, rfl, rfl⟩
  · refine rs_if_eq (tgt := 14) d_l_seek_7 rfl (by decide) (fun hc => absurd hc (by decide)) (fun _ => ?_)
    refine rs_lconst (v := 1) d_l_seek_10 rfl (by decide) ?_
    refine rs_goto (tgt := 15) d_l_seek_11 (by decide) ?_
    refine rs_last (j := 0) d_l_seek_15 rfl rl_o (by decide) (by decide) ?_
    rw [rl_set]
    refine rs_goto (tgt := 25) d_l_seek_16 (by decide) ?_
    refine rs_iconst (v := 0) d_l_seek_25 rfl (by decide) ?_
    exact rs_ireturn d_l_seek_26 rfl ⟨rfl, rfl, rfl⟩
set_option maxRecDepth 100000 in
theorem h_seek_th0 {G : rsG} {x x' y : rT} {th : Int32} {f : Nat → Int64} {n : Nat} {p0 : Int32} (hC : ∀ n hf, rsK G M_s_seek (rmT 7 131) [.ref (rsB G), .int p0] (rcw G x hf) n (rsTh 0 (rcw G x' hf) (n + 1))) : rsK G M_l_seek (rmT 8 152) [.ref (rsB G), .int p0, .ref (rsB G + 50)] (rlw G x y th f) n (rsOk (some (.int 1)) (rlw G x' y th f) (n + 1)) := by
  refine rsK_of pf_l_seek rfl (Nat.le_of_ble_eq_true rfl) rfl ?_
  obtain ⟨fs, hb⟩ := rl_x (G := G) (x := x) (y := y) (th := th) (f := f)
  refine rs_aload_n d_l_seek_0 rfl rfl ?_
  refine rs_iconst (v := (nI 0)) d_l_seek_1 rfl (by decide) ?_
  refine rs_aload_n d_l_seek_2 rfl rfl ?_
  refine rs_iload_n d_l_seek_3 rfl rfl ?_
  refine rx_kV (kc' := 0) (ks' := 0) (hp := 19) (k := 0) d_l_seek_4 c_l_52 (by exact np_s_seek) hb (show rsK G M_s_seek _ _ (rlw G x y th f) n (rsTh 0 (rlw G x' y th f) (n + 1)) from hC n _) (by decide) (by decide) (Nat.le_of_ble_eq_true rfl) rfl (Or.inr ⟨by decide, by decide, Or.inl ⟨rfl, k_l_22⟩⟩) (fun a => ?_)
  refine rs_astore_n d_l_seek_19 rfl (by decide) rfl ?_
  refine rs_iconst (v := 1) d_l_seek_20 rfl (by decide) ?_
  exact rs_ireturn d_l_seek_21 rfl ⟨rfl, rfl, rfl⟩
set_option maxRecDepth 100000 in
theorem h_seek_th1 {G : rsG} {x x' y : rT} {th : Int32} {f : Nat → Int64} {n : Nat} {p0 : Int32} (hC : ∀ n hf, rsK G M_s_seek (rmT 7 131) [.ref (rsB G), .int p0] (rcw G x hf) n (rsTh 1 (rcw G x' hf) (n + 1))) : rsK G M_l_seek (rmT 8 152) [.ref (rsB G), .int p0, .ref (rsB G + 50)] (rlw G x y th f) n (rsOk (some (.int 2)) (rlw G x' y th f) (n + 1)) := by
  refine rsK_of pf_l_seek rfl (Nat.le_of_ble_eq_true rfl) rfl ?_
  obtain ⟨fs, hb⟩ := rl_x (G := G) (x := x) (y := y) (th := th) (f := f)
  refine rs_aload_n d_l_seek_0 rfl rfl ?_
  refine rs_iconst (v := (nI 0)) d_l_seek_1 rfl (by decide) ?_
  refine rs_aload_n d_l_seek_2 rfl rfl ?_
  refine rs_iload_n d_l_seek_3 rfl rfl ?_
  refine rx_kV (kc' := 0) (ks' := 0) (hp := 22) (k := 1) d_l_seek_4 c_l_52 (by exact np_s_seek) hb (show rsK G M_s_seek _ _ (rlw G x y th f) n (rsTh 1 (rlw G x' y th f) (n + 1)) from hC n _) (by decide) (by decide) (Nat.le_of_ble_eq_true rfl) rfl (Or.inr ⟨by decide, by decide, Or.inr ⟨⟨0, ⟨by decide, by decide, by decide⟩, k_l_22⟩, Or.inr ⟨by decide, by decide, Or.inl ⟨rfl, k_l_12⟩⟩⟩⟩) (fun a => ?_)
  refine rs_astore_n d_l_seek_22 rfl (by decide) rfl ?_
  refine rs_iconst (v := 2) d_l_seek_23 rfl (by decide) ?_
  exact rs_ireturn d_l_seek_24 rfl ⟨rfl, rfl, rfl⟩
set_option maxRecDepth 100000 in
theorem h_next_ok {G : rsG} {x x' y : rT} {th : Int32} {f : Nat → Int64} {n : Nat} {v : Int32} (hv : v = 0 ∨ v = 1) (hC : ∀ n hf, rsK G M_s_next (rmO 7 131) [.ref (rsB G)] (rcw G x hf) n (rsOk (some (.int v)) (rcw G x' hf) n)) : rsK G M_l_next (rmO 8 151) [.ref (rsB G), .ref (rsB G + 50)] (rlw G x y th f) n (rsOk (some (.int 0)) (rlw G x' y th (vp_updL f 0 v.toInt64)) n) := by
  refine rsK_of pf_l_next rfl (Nat.le_of_ble_eq_true rfl) rfl ?_
  obtain ⟨fs, hb⟩ := rl_x (G := G) (x := x) (y := y) (th := th) (f := f)
  refine rs_aload_n d_l_next_0 rfl rfl ?_
  refine rs_iconst (v := (nI 0)) d_l_next_1 rfl (by decide) ?_
  refine rs_aload_n d_l_next_2 rfl rfl ?_
  refine rx_cV d_l_next_3 rfl c_l_55 (by exact np_s_next) hb (show rsK G M_s_next _ _ (rlw G x y th f) n (rsOk (some (.int v)) (rlw G x' y th f) n) from hC n _) (by decide) ⟨rfl, rfl⟩ (Nat.le_of_ble_eq_true rfl) rfl ?_
  rcases hv with rfl | rfl
  · refine rs_if_eq (tgt := 13) d_l_next_6 rfl (by decide) (fun _ => ?_) (fun hc => absurd (rfl) hc)
    refine rs_lconst (v := 0) d_l_next_13 rfl (by decide) ?_
    refine rs_last (j := 0) d_l_next_14 rfl rl_o (by decide) (by decide) ?_
    rw [rl_set]
    refine rs_goto (tgt := 21) d_l_next_15 (by decide) ?_
    refine rs_iconst (v := 0) d_l_next_21 rfl (by decide) ?_
    exact rs_ireturn d_l_next_22 rfl ⟨rfl, rfl, rfl⟩
  · refine rs_if_eq (tgt := 13) d_l_next_6 rfl (by decide) (fun hc => absurd hc (by decide)) (fun _ => ?_)
    refine rs_lconst (v := 1) d_l_next_9 rfl (by decide) ?_
    refine rs_goto (tgt := 14) d_l_next_10 (by decide) ?_
    refine rs_last (j := 0) d_l_next_14 rfl rl_o (by decide) (by decide) ?_
    rw [rl_set]
    refine rs_goto (tgt := 21) d_l_next_15 (by decide) ?_
    refine rs_iconst (v := 0) d_l_next_21 rfl (by decide) ?_
    exact rs_ireturn d_l_next_22 rfl ⟨rfl, rfl, rfl⟩
set_option maxRecDepth 100000 in
theorem h_next_th1 {G : rsG} {x x' y : rT} {th : Int32} {f : Nat → Int64} {n : Nat} (hC : ∀ n hf, rsK G M_s_next (rmT 7 131) [.ref (rsB G)] (rcw G x hf) n (rsTh 1 (rcw G x' hf) (n + 1))) : rsK G M_l_next (rmT 8 151) [.ref (rsB G), .ref (rsB G + 50)] (rlw G x y th f) n (rsOk (some (.int 1)) (rlw G x' y th f) (n + 1)) := by
  refine rsK_of pf_l_next rfl (Nat.le_of_ble_eq_true rfl) rfl ?_
  obtain ⟨fs, hb⟩ := rl_x (G := G) (x := x) (y := y) (th := th) (f := f)
  refine rs_aload_n d_l_next_0 rfl rfl ?_
  refine rs_iconst (v := (nI 0)) d_l_next_1 rfl (by decide) ?_
  refine rs_aload_n d_l_next_2 rfl rfl ?_
  refine rx_kV (kc' := 0) (ks' := 0) (hp := 18) (k := 1) d_l_next_3 c_l_55 (by exact np_s_next) hb (show rsK G M_s_next _ _ (rlw G x y th f) n (rsTh 1 (rlw G x' y th f) (n + 1)) from hC n _) (by decide) (by decide) (Nat.le_of_ble_eq_true rfl) rfl (Or.inr ⟨by decide, by decide, Or.inl ⟨rfl, k_l_12⟩⟩) (fun a => ?_)
  refine rs_astore_n d_l_next_18 rfl (by decide) rfl ?_
  refine rs_iconst (v := 1) d_l_next_19 rfl (by decide) ?_
  exact rs_ireturn d_l_next_20 rfl ⟨rfl, rfl, rfl⟩
set_option maxRecDepth 100000 in
theorem h_size_ok {G : rsG} {x x' y : rT} {th : Int32} {f : Nat → Int64} {n : Nat} {v : Int32} (hC : ∀ n hf, rsK G M_s_size (rmO 7 110) [.ref (rsB G)] (rcw G x hf) n (rsOk (some (.int v)) (rcw G x' hf) n)) : rsK G M_l_size (rmO 8 132) [.ref (rsB G), .ref (rsB G + 50)] (rlw G x y th f) n (rsOk (some (.int 0)) (rlw G x' y th (vp_updL f 0 v.toInt64)) n) := by
  refine rsK_of pf_l_size rfl (Nat.le_of_ble_eq_true rfl) rfl ?_
  obtain ⟨fs, hb⟩ := rl_x (G := G) (x := x) (y := y) (th := th) (f := f)
  refine rs_aload_n d_l_size_0 rfl rfl ?_
  refine rs_iconst (v := (nI 0)) d_l_size_1 rfl (by decide) ?_
  refine rs_aload_n d_l_size_2 rfl rfl ?_
  refine rx_cV d_l_size_3 rfl c_l_59 (by exact np_s_size) hb (show rsK G M_s_size _ _ (rlw G x y th f) n (rsOk (some (.int v)) (rlw G x' y th f) n) from hC n _) (by decide) ⟨rfl, rfl⟩ (Nat.le_of_ble_eq_true rfl) rfl ?_
  refine rs_i2l d_l_size_6 rfl ?_
  refine rs_last (j := 0) d_l_size_7 rfl rl_o (by decide) (by decide) ?_
  rw [rl_set]
  refine rs_goto (tgt := 14) d_l_size_8 (by decide) ?_
  refine rs_iconst (v := 0) d_l_size_14 rfl (by decide) ?_
  exact rs_ireturn d_l_size_15 rfl ⟨rfl, rfl, rfl⟩
set_option maxRecDepth 100000 in
theorem h_size_th1 {G : rsG} {x x' y : rT} {th : Int32} {f : Nat → Int64} {n : Nat} (hC : ∀ n hf, rsK G M_s_size (rmT 7 110) [.ref (rsB G)] (rcw G x hf) n (rsTh 1 (rcw G x' hf) (n + 1))) : rsK G M_l_size (rmT 8 132) [.ref (rsB G), .ref (rsB G + 50)] (rlw G x y th f) n (rsOk (some (.int 1)) (rlw G x' y th f) (n + 1)) := by
  refine rsK_of pf_l_size rfl (Nat.le_of_ble_eq_true rfl) rfl ?_
  obtain ⟨fs, hb⟩ := rl_x (G := G) (x := x) (y := y) (th := th) (f := f)
  refine rs_aload_n d_l_size_0 rfl rfl ?_
  refine rs_iconst (v := (nI 0)) d_l_size_1 rfl (by decide) ?_
  refine rs_aload_n d_l_size_2 rfl rfl ?_
  refine rx_kV (kc' := 0) (ks' := 0) (hp := 11) (k := 1) d_l_size_3 c_l_59 (by exact np_s_size) hb (show rsK G M_s_size _ _ (rlw G x y th f) n (rsTh 1 (rlw G x' y th f) (n + 1)) from hC n _) (by decide) (by decide) (Nat.le_of_ble_eq_true rfl) rfl (Or.inr ⟨by decide, by decide, Or.inl ⟨rfl, k_l_12⟩⟩) (fun a => ?_)
  refine rs_astore_n d_l_size_11 rfl (by decide) rfl ?_
  refine rs_iconst (v := 1) d_l_size_12 rfl (by decide) ?_
  exact rs_ireturn d_l_size_13 rfl ⟨rfl, rfl, rfl⟩
set_option maxRecDepth 100000 in
theorem h_runs_ok {G : rsG} {x x' y : rT} {th : Int32} {f : Nat → Int64} {n : Nat} {p0 : Int32} {v : Int32} (hC : ∀ n hf, rsK G M_s_runs (rmO 7 110) [.ref (rsB G), .int p0] (rcw G x hf) n (rsOk (some (.int v)) (rcw G x' hf) n)) : rsK G M_l_runs (rmO 8 131) [.ref (rsB G), .int p0, .ref (rsB G + 50)] (rlw G x y th f) n (rsOk (some (.int 0)) (rlw G x' y th (vp_updL f 0 v.toInt64)) n) := by
  refine rsK_of pf_l_runs rfl (Nat.le_of_ble_eq_true rfl) rfl ?_
  obtain ⟨fs, hb⟩ := rl_x (G := G) (x := x) (y := y) (th := th) (f := f)
  refine rs_aload_n d_l_runs_0 rfl rfl ?_
  refine rs_iconst (v := (nI 0)) d_l_runs_1 rfl (by decide) ?_
  refine rs_aload_n d_l_runs_2 rfl rfl ?_
  refine rs_iload_n d_l_runs_3 rfl rfl ?_
  refine rx_cV d_l_runs_4 rfl c_l_62 (by exact np_s_runs) hb (show rsK G M_s_runs _ _ (rlw G x y th f) n (rsOk (some (.int v)) (rlw G x' y th f) n) from hC n _) (by decide) ⟨rfl, rfl⟩ (Nat.le_of_ble_eq_true rfl) rfl ?_
  refine rs_i2l d_l_runs_7 rfl ?_
  refine rs_last (j := 0) d_l_runs_8 rfl rl_o (by decide) (by decide) ?_
  rw [rl_set]
  refine rs_goto (tgt := 18) d_l_runs_9 (by decide) ?_
  refine rs_iconst (v := 0) d_l_runs_18 rfl (by decide) ?_
  exact rs_ireturn d_l_runs_19 rfl ⟨rfl, rfl, rfl⟩
set_option maxRecDepth 100000 in
theorem h_runs_th0 {G : rsG} {x x' y : rT} {th : Int32} {f : Nat → Int64} {n : Nat} {p0 : Int32} (hC : ∀ n hf, rsK G M_s_runs (rmT 7 110) [.ref (rsB G), .int p0] (rcw G x hf) n (rsTh 0 (rcw G x' hf) (n + 1))) : rsK G M_l_runs (rmT 8 131) [.ref (rsB G), .int p0, .ref (rsB G + 50)] (rlw G x y th f) n (rsOk (some (.int 1)) (rlw G x' y th f) (n + 1)) := by
  refine rsK_of pf_l_runs rfl (Nat.le_of_ble_eq_true rfl) rfl ?_
  obtain ⟨fs, hb⟩ := rl_x (G := G) (x := x) (y := y) (th := th) (f := f)
  refine rs_aload_n d_l_runs_0 rfl rfl ?_
  refine rs_iconst (v := (nI 0)) d_l_runs_1 rfl (by decide) ?_
  refine rs_aload_n d_l_runs_2 rfl rfl ?_
  refine rs_iload_n d_l_runs_3 rfl rfl ?_
  refine rx_kV (kc' := 0) (ks' := 0) (hp := 12) (k := 0) d_l_runs_4 c_l_62 (by exact np_s_runs) hb (show rsK G M_s_runs _ _ (rlw G x y th f) n (rsTh 0 (rlw G x' y th f) (n + 1)) from hC n _) (by decide) (by decide) (Nat.le_of_ble_eq_true rfl) rfl (Or.inr ⟨by decide, by decide, Or.inl ⟨rfl, k_l_22⟩⟩) (fun a => ?_)
  refine rs_astore_n d_l_runs_12 rfl (by decide) rfl ?_
  refine rs_iconst (v := 1) d_l_runs_13 rfl (by decide) ?_
  exact rs_ireturn d_l_runs_14 rfl ⟨rfl, rfl, rfl⟩
set_option maxRecDepth 100000 in
theorem h_runs_th1 {G : rsG} {x x' y : rT} {th : Int32} {f : Nat → Int64} {n : Nat} {p0 : Int32} (hC : ∀ n hf, rsK G M_s_runs (rmT 7 110) [.ref (rsB G), .int p0] (rcw G x hf) n (rsTh 1 (rcw G x' hf) (n + 1))) : rsK G M_l_runs (rmT 8 131) [.ref (rsB G), .int p0, .ref (rsB G + 50)] (rlw G x y th f) n (rsOk (some (.int 2)) (rlw G x' y th f) (n + 1)) := by
  refine rsK_of pf_l_runs rfl (Nat.le_of_ble_eq_true rfl) rfl ?_
  obtain ⟨fs, hb⟩ := rl_x (G := G) (x := x) (y := y) (th := th) (f := f)
  refine rs_aload_n d_l_runs_0 rfl rfl ?_
  refine rs_iconst (v := (nI 0)) d_l_runs_1 rfl (by decide) ?_
  refine rs_aload_n d_l_runs_2 rfl rfl ?_
  refine rs_iload_n d_l_runs_3 rfl rfl ?_
  refine rx_kV (kc' := 0) (ks' := 0) (hp := 15) (k := 1) d_l_runs_4 c_l_62 (by exact np_s_runs) hb (show rsK G M_s_runs _ _ (rlw G x y th f) n (rsTh 1 (rlw G x' y th f) (n + 1)) from hC n _) (by decide) (by decide) (Nat.le_of_ble_eq_true rfl) rfl (Or.inr ⟨by decide, by decide, Or.inr ⟨⟨0, ⟨by decide, by decide, by decide⟩, k_l_22⟩, Or.inr ⟨by decide, by decide, Or.inl ⟨rfl, k_l_12⟩⟩⟩⟩) (fun a => ?_)
  refine rs_astore_n d_l_runs_15 rfl (by decide) rfl ?_
  refine rs_iconst (v := 2) d_l_runs_16 rfl (by decide) ?_
  exact rs_ireturn d_l_runs_17 rfl ⟨rfl, rfl, rfl⟩
set_option maxRecDepth 100000 in
theorem h_entries_ok {G : rsG} {x x' y : rT} {th : Int32} {f : Nat → Int64} {n : Nat} {p0 : Int32} {p1 : Int32} {v : Int32} (hC : ∀ n hf, rsK G M_s_entries (rmO 7 110) [.ref (rsB G), .int p0, .int p1] (rcw G x hf) n (rsOk (some (.int v)) (rcw G x' hf) n)) : rsK G M_l_entries (rmO 8 132) [.ref (rsB G), .int p0, .int p1, .ref (rsB G + 50)] (rlw G x y th f) n (rsOk (some (.int 0)) (rlw G x' y th (vp_updL f 0 v.toInt64)) n) := by
  refine rsK_of pf_l_entries rfl (Nat.le_of_ble_eq_true rfl) rfl ?_
  obtain ⟨fs, hb⟩ := rl_x (G := G) (x := x) (y := y) (th := th) (f := f)
  refine rs_aload_n d_l_entries_0 rfl rfl ?_
  refine rs_iconst (v := (nI 0)) d_l_entries_1 rfl (by decide) ?_
  refine rs_aload_n d_l_entries_2 rfl rfl ?_
  refine rs_iload_n d_l_entries_3 rfl rfl ?_
  refine rs_iload_n d_l_entries_4 rfl rfl ?_
  refine rx_cV d_l_entries_5 rfl c_l_65 (by exact np_s_entries) hb (show rsK G M_s_entries _ _ (rlw G x y th f) n (rsOk (some (.int v)) (rlw G x' y th f) n) from hC n _) (by decide) ⟨rfl, rfl⟩ (Nat.le_of_ble_eq_true rfl) rfl ?_
  refine rs_i2l d_l_entries_8 rfl ?_
  refine rs_last (j := 0) d_l_entries_9 rfl rl_o (by decide) (by decide) ?_
  rw [rl_set]
  refine rs_goto (tgt := 21) d_l_entries_10 (by decide) ?_
  refine rs_iconst (v := 0) d_l_entries_21 rfl (by decide) ?_
  exact rs_ireturn d_l_entries_22 rfl ⟨rfl, rfl, rfl⟩
set_option maxRecDepth 100000 in
theorem h_entries_th1 {G : rsG} {x x' y : rT} {th : Int32} {f : Nat → Int64} {n : Nat} {p0 : Int32} {p1 : Int32} (hC : ∀ n hf, rsK G M_s_entries (rmT 7 110) [.ref (rsB G), .int p0, .int p1] (rcw G x hf) n (rsTh 1 (rcw G x' hf) (n + 1))) : rsK G M_l_entries (rmT 8 132) [.ref (rsB G), .int p0, .int p1, .ref (rsB G + 50)] (rlw G x y th f) n (rsOk (some (.int 1)) (rlw G x' y th f) (n + 1)) := by
  refine rsK_of pf_l_entries rfl (Nat.le_of_ble_eq_true rfl) rfl ?_
  obtain ⟨fs, hb⟩ := rl_x (G := G) (x := x) (y := y) (th := th) (f := f)
  refine rs_aload_n d_l_entries_0 rfl rfl ?_
  refine rs_iconst (v := (nI 0)) d_l_entries_1 rfl (by decide) ?_
  refine rs_aload_n d_l_entries_2 rfl rfl ?_
  refine rs_iload_n d_l_entries_3 rfl rfl ?_
  refine rs_iload_n d_l_entries_4 rfl rfl ?_
  refine rx_kV (kc' := 0) (ks' := 0) (hp := 13) (k := 1) d_l_entries_5 c_l_65 (by exact np_s_entries) hb (show rsK G M_s_entries _ _ (rlw G x y th f) n (rsTh 1 (rlw G x' y th f) (n + 1)) from hC n _) (by decide) (by decide) (Nat.le_of_ble_eq_true rfl) rfl (Or.inr ⟨by decide, by decide, Or.inl ⟨rfl, k_l_12⟩⟩) (fun a => ?_)
  refine rs_astore d_l_entries_13 rfl (by decide) rfl ?_
  refine rs_iconst (v := 1) d_l_entries_15 rfl (by decide) ?_
  exact rs_ireturn d_l_entries_16 rfl ⟨rfl, rfl, rfl⟩
set_option maxRecDepth 100000 in
theorem h_entries_th3 {G : rsG} {x x' y : rT} {th : Int32} {f : Nat → Int64} {n : Nat} {p0 : Int32} {p1 : Int32} (hC : ∀ n hf, rsK G M_s_entries (rmT 7 110) [.ref (rsB G), .int p0, .int p1] (rcw G x hf) n (rsTh 3 (rcw G x' hf) (n + 1))) : rsK G M_l_entries (rmT 8 132) [.ref (rsB G), .int p0, .int p1, .ref (rsB G + 50)] (rlw G x y th f) n (rsOk (some (.int 2)) (rlw G x' y th f) (n + 1)) := by
  refine rsK_of pf_l_entries rfl (Nat.le_of_ble_eq_true rfl) rfl ?_
  obtain ⟨fs, hb⟩ := rl_x (G := G) (x := x) (y := y) (th := th) (f := f)
  refine rs_aload_n d_l_entries_0 rfl rfl ?_
  refine rs_iconst (v := (nI 0)) d_l_entries_1 rfl (by decide) ?_
  refine rs_aload_n d_l_entries_2 rfl rfl ?_
  refine rs_iload_n d_l_entries_3 rfl rfl ?_
  refine rs_iload_n d_l_entries_4 rfl rfl ?_
  refine rx_kV (kc' := 0) (ks' := 0) (hp := 17) (k := 3) d_l_entries_5 c_l_65 (by exact np_s_entries) hb (show rsK G M_s_entries _ _ (rlw G x y th f) n (rsTh 3 (rlw G x' y th f) (n + 1)) from hC n _) (by decide) (by decide) (Nat.le_of_ble_eq_true rfl) rfl (Or.inr ⟨by decide, by decide, Or.inr ⟨⟨1, ⟨by decide, by decide, by decide⟩, k_l_12⟩, Or.inr ⟨by decide, by decide, Or.inl ⟨rfl, k_l_34⟩⟩⟩⟩) (fun a => ?_)
  refine rs_astore d_l_entries_17 rfl (by decide) rfl ?_
  refine rs_iconst (v := 2) d_l_entries_19 rfl (by decide) ?_
  exact rs_ireturn d_l_entries_20 rfl ⟨rfl, rfl, rfl⟩
set_option maxRecDepth 100000 in
theorem h_room_ok {G : rsG} {x x' y : rT} {th : Int32} {f : Nat → Int64} {n : Nat} {v : Int32} (hC : ∀ n hf, rsK G M_s_room (rmO 7 110) [.ref (rsB G)] (rcw G x hf) n (rsOk (some (.int v)) (rcw G x' hf) n)) : rsK G M_l_room (rmO 8 130) [.ref (rsB G), .ref (rsB G + 50)] (rlw G x y th f) n (rsOk (some (.int 0)) (rlw G x' y th (vp_updL f 0 v.toInt64)) n) := by
  refine rsK_of pf_l_room rfl (Nat.le_of_ble_eq_true rfl) rfl ?_
  obtain ⟨fs, hb⟩ := rl_x (G := G) (x := x) (y := y) (th := th) (f := f)
  refine rs_aload_n d_l_room_0 rfl rfl ?_
  refine rs_iconst (v := (nI 0)) d_l_room_1 rfl (by decide) ?_
  refine rs_aload_n d_l_room_2 rfl rfl ?_
  refine rx_cV d_l_room_3 rfl c_l_68 (by exact np_s_room) hb (show rsK G M_s_room _ _ (rlw G x y th f) n (rsOk (some (.int v)) (rlw G x' y th f) n) from hC n _) (by decide) ⟨rfl, rfl⟩ (Nat.le_of_ble_eq_true rfl) rfl ?_
  refine rs_i2l d_l_room_6 rfl ?_
  refine rs_last (j := 0) d_l_room_7 rfl rl_o (by decide) (by decide) ?_
  rw [rl_set]
  refine rs_goto (tgt := 14) d_l_room_8 (by decide) ?_
  refine rs_iconst (v := 0) d_l_room_14 rfl (by decide) ?_
  exact rs_ireturn d_l_room_15 rfl ⟨rfl, rfl, rfl⟩
set_option maxRecDepth 100000 in
theorem h_room_th1 {G : rsG} {x x' y : rT} {th : Int32} {f : Nat → Int64} {n : Nat} (hC : ∀ n hf, rsK G M_s_room (rmT 7 110) [.ref (rsB G)] (rcw G x hf) n (rsTh 1 (rcw G x' hf) (n + 1))) : rsK G M_l_room (rmT 8 130) [.ref (rsB G), .ref (rsB G + 50)] (rlw G x y th f) n (rsOk (some (.int 1)) (rlw G x' y th f) (n + 1)) := by
  refine rsK_of pf_l_room rfl (Nat.le_of_ble_eq_true rfl) rfl ?_
  obtain ⟨fs, hb⟩ := rl_x (G := G) (x := x) (y := y) (th := th) (f := f)
  refine rs_aload_n d_l_room_0 rfl rfl ?_
  refine rs_iconst (v := (nI 0)) d_l_room_1 rfl (by decide) ?_
  refine rs_aload_n d_l_room_2 rfl rfl ?_
  refine rx_kV (kc' := 0) (ks' := 0) (hp := 11) (k := 1) d_l_room_3 c_l_68 (by exact np_s_room) hb (show rsK G M_s_room _ _ (rlw G x y th f) n (rsTh 1 (rlw G x' y th f) (n + 1)) from hC n _) (by decide) (by decide) (Nat.le_of_ble_eq_true rfl) rfl (Or.inr ⟨by decide, by decide, Or.inl ⟨rfl, k_l_12⟩⟩) (fun a => ?_)
  refine rs_astore_n d_l_room_11 rfl (by decide) rfl ?_
  refine rs_iconst (v := 1) d_l_room_12 rfl (by decide) ?_
  exact rs_ireturn d_l_room_13 rfl ⟨rfl, rfl, rfl⟩
