/-! 15: Disk: the moves of places, the lists (written by gen_disk2.py) -/
def rp_D (P : Nat → Nat) (i : Nat) : Nat → Nat := fun q => if i < q ∧ q ≤ 12 then P (q - 1) else P q
theorem rp_D12 (P : Nat → Nat) : rp_D P 12 = P := by
  funext q; unfold rp_D; rw [if_neg (by omega)]
theorem rp_Du (P : Nat → Nat) {i : Nat} (hi : i < 12) : va_up (rp_D P (i + 1)) (i + 1) (rp_D P (i + 1) i) = rp_D P i := by
  funext q
  unfold va_up rp_D
  rw [if_neg (show ¬ (i + 1 < i ∧ i ≤ 12) by omega)]
  by_cases hq : q = i + 1
  · rw [if_pos hq, if_pos (by omega), hq, Nat.add_sub_cancel]
  · rw [if_neg hq]
    by_cases h1 : i + 1 < q ∧ q ≤ 12
    · rw [if_pos h1, if_pos (by omega)]
    · rw [if_neg h1, if_neg (by omega)]
theorem rp_D_le {P : Nat → Nat} (hP : ∀ i, i < 13 → P i ≤ 12) (i q : Nat) (hq : q < 13) : rp_D P i q ≤ 12 := by
  unfold rp_D
  split
  · exact hP _ (by omega)
  · exact hP _ hq
/-- the draft goes to a place: what stood there and behind moves on -/
def rp_mvd (P : Nat → Nat) (p : Nat) : Nat → Nat := va_up (rp_D P p) p (P 12)
def rp_E (P : Nat → Nat) (p i : Nat) : Nat → Nat := fun q => if p ≤ q ∧ q < i then P (q + 1) else P q
theorem rp_E0 (P : Nat → Nat) (p : Nat) : rp_E P p p = P := by
  funext q; unfold rp_E; rw [if_neg (by omega)]
theorem rp_Eu (P : Nat → Nat) {p i : Nat} (hi : p ≤ i) : va_up (rp_E P p i) i (rp_E P p i (i + 1)) = rp_E P p (i + 1) := by
  funext q
  unfold va_up rp_E
  rw [if_neg (show ¬ (p ≤ i + 1 ∧ i + 1 < i) by omega)]
  by_cases hq : q = i
  · rw [if_pos hq, if_pos (by omega), hq]
  · rw [if_neg hq]
    by_cases h1 : p ≤ q ∧ q < i
    · rw [if_pos h1, if_pos (by omega)]
    · rw [if_neg h1, if_neg (by omega)]
theorem rp_E_le {P : Nat → Nat} (hP : ∀ i, i < 13 → P i ≤ 12) (p i q : Nat) (hi : i ≤ 12) (hq : q < 13) : rp_E P p i q ≤ 12 := by
  unfold rp_E
  split
  · exact hP _ (by omega)
  · exact hP _ hq
/-- a place becomes the draft: what stood behind it moves up -/
def rp_mv2 (P : Nat → Nat) (p : Nat) : Nat → Nat := va_up (rp_E P p 12) 12 (P p)
def rp_mvs (P : Nat → Nat) (p : Nat) : Nat → Nat → Nat
  | 0 => P
  | i + 1 => rp_mv2 (rp_mvs P p i) p
theorem rp_mvd_le {P : Nat → Nat} (hP : ∀ i, i < 13 → P i ≤ 12) (p : Nat) : ∀ q, q < 13 → rp_mvd P p q ≤ 12 := by
  intro q hq
  unfold rp_mvd va_up
  split
  · exact hP 12 (by decide)
  · exact rp_D_le hP p q hq
theorem rp_mv2_le {P : Nat → Nat} (hP : ∀ i, i < 13 → P i ≤ 12) {p : Nat} (hp : p ≤ 12) : ∀ q, q < 13 → rp_mv2 P p q ≤ 12 := by
  intro q hq
  unfold rp_mv2 va_up
  split
  · exact hP p (by omega)
  · exact rp_E_le hP p 12 q (by decide) hq
theorem rp_mvs_le {P : Nat → Nat} (hP : ∀ i, i < 13 → P i ≤ 12) {p : Nat} (hp : p ≤ 12) : ∀ i q, q < 13 → rp_mvs P p i q ≤ 12 := by
  intro i
  induction i with
  | zero => exact hP
  | succ i ih => exact rp_mv2_le ih hp
set_option maxRecDepth 100000 in
theorem k_moveDraftTo {G : rsG} {n : Nat} {K V : Nat → Nat → Int32} {c P r : Nat → Nat} {md up wl cu : Int32} {hf : rsH} {p : Nat} (hp : p ≤ 12) (hP : ∀ i, i < 13 → P i ≤ 12) : rsK G M_d_moveDraftTo (rmO 0 0) [.ref (rsB G + 4), .int (nI p)] (rwd G K V c P r md up wl cu hf) n (rsOk none (rwd G K V c (rp_mvd P p) r md up wl cu hf) n) := by
  have loop : ∀ (d i : Nat), p + d = i → i ≤ 12 → rsV G M_d_moveDraftTo (rmO 0 0) (rsOk none (rwd G K V c (rp_mvd P p) r md up wl cu hf) n) 0 0 11 [some (.ref (rsB G + 4)), some (.int (nI p)), some (.ref (rw_eo (rsB G) (P 12))), some (.int (nI i))] [] (rwd G K V c (rp_D P i) r md up wl cu hf) n := by
    intro d
    induction d with
    | zero =>
      intro i hi hi12
      obtain rfl : i = p := by omega
      have hd : P 12 ≤ 13 := by have := hP 12 (by decide); omega
      have hp13 : i < 13 := by omega
      refine rs_iload_n d_d_moveDraftTo_11 rfl rfl ?_
      refine rs_iload_n d_d_moveDraftTo_12 rfl rfl ?_
      refine rs_icmp_le (tgt := 36) d_d_moveDraftTo_13 rfl (by decide) (fun _ => ?_) (fun hc => absurd (nI_le (by omega) (by omega)) hc)
      refine rs_aload_n d_d_moveDraftTo_36 rfl rfl ?_
      refine rx_get_pl d_d_moveDraftTo_37 rfl f_d_11 ?_
      refine rs_iload_n d_d_moveDraftTo_40 rfl rfl ?_
      refine rs_aload_n d_d_moveDraftTo_41 rfl rfl ?_
      refine rx_st_p (by first | assumption | omega) (by first | assumption | omega) d_d_moveDraftTo_42 rfl ?_
      exact rs_vreturn d_d_moveDraftTo_43 rfl ⟨rfl, rfl, rfl⟩
    | succ d ih =>
      intro i hi hi12
      obtain ⟨k, rfl⟩ : ∃ k, i = k + 1 := ⟨i - 1, by omega⟩
      have hk13 : k < 13 := by omega
      have hk1 : k + 1 < 13 := by omega
      have hDk : rp_D P (k + 1) k ≤ 13 := by have := rp_D_le hP (k + 1) k hk13; omega
      refine rs_iload_n d_d_moveDraftTo_11 rfl rfl ?_
      refine rs_iload_n d_d_moveDraftTo_12 rfl rfl ?_
      refine rs_icmp_le (tgt := 36) d_d_moveDraftTo_13 rfl (by decide) (fun hc => absurd hc (nI_ge (by omega) (by omega))) (fun _ => ?_)
      refine rs_aload_n d_d_moveDraftTo_16 rfl rfl ?_
      refine rx_get_pl d_d_moveDraftTo_17 rfl f_d_11 ?_
      refine rs_iload_n d_d_moveDraftTo_20 rfl rfl ?_
      refine rs_aload_n d_d_moveDraftTo_21 rfl rfl ?_
      refine rx_get_pl d_d_moveDraftTo_22 rfl f_d_11 ?_
      refine rs_iload_n d_d_moveDraftTo_25 rfl rfl ?_
      refine rs_iconst (v := (nI 1)) d_d_moveDraftTo_26 rfl (by decide) ?_
      refine rs_isub d_d_moveDraftTo_27 rfl ?_
      refine rs_tope (y := nI k) (by rw [pk_sub (by omega), Nat.add_sub_cancel]) ?_
      refine rx_ld_p (by first | assumption | omega) d_d_moveDraftTo_28 rfl ?_
      refine rx_st_p (by first | assumption | omega) (by first | assumption | omega) d_d_moveDraftTo_29 rfl ?_
      rw [rp_Du P (by omega)]
      refine rs_iinc d_d_moveDraftTo_30 rfl (by decide) rfl (rs_dec1 k) rfl ?_
      refine rs_goto (tgt := 11) d_d_moveDraftTo_33 (by decide) ?_
      exact ih k (by omega) (by omega)
  refine rsK_of pf_d_moveDraftTo rfl (Nat.le_of_ble_eq_true rfl) rfl ?_
  refine rs_aload_n d_d_moveDraftTo_0 rfl rfl ?_
  refine rx_get_pl d_d_moveDraftTo_1 rfl f_d_11 ?_
  refine rs_bipush (v := (nI 12)) d_d_moveDraftTo_4 rfl (by decide) ?_
  refine rx_ld_p (by first | assumption | omega) d_d_moveDraftTo_6 rfl ?_
  refine rs_astore_n d_d_moveDraftTo_7 rfl (by decide) rfl ?_
  refine rs_bipush (v := (nI 12)) d_d_moveDraftTo_8 rfl (by decide) ?_
  refine rs_istore_n d_d_moveDraftTo_10 rfl (by decide) rfl ?_
  refine rsV_eq ?_ (loop (12 - p) 12 (by omega) (by omega))
  rw [rp_D12]
set_option maxRecDepth 100000 in
theorem k_moveToDraft {G : rsG} {n : Nat} {K V : Nat → Nat → Int32} {c P r : Nat → Nat} {md up wl cu : Int32} {hf : rsH} {p : Nat} (hp : p ≤ 12) (hP : ∀ i, i < 13 → P i ≤ 12) : rsK G M_d_moveToDraft (rmO 0 0) [.ref (rsB G + 4), .int (nI p)] (rwd G K V c P r md up wl cu hf) n (rsOk none (rwd G K V c (rp_mv2 P p) r md up wl cu hf) n) := by
  have loop : ∀ (d i : Nat), i + d = 12 → p ≤ i → rsV G M_d_moveToDraft (rmO 0 0) (rsOk none (rwd G K V c (rp_mv2 P p) r md up wl cu hf) n) 0 0 9 [some (.ref (rsB G + 4)), some (.int (nI p)), some (.ref (rw_eo (rsB G) (P p))), some (.int (nI i))] [] (rwd G K V c (rp_E P p i) r md up wl cu hf) n := by
    intro d
    induction d with
    | zero =>
      intro i hi hpi
      obtain rfl : i = 12 := by omega
      have hd : P p ≤ 13 := by have := hP p (by omega); omega
      refine rs_iload_n d_d_moveToDraft_9 rfl rfl ?_
      refine rs_bipush (v := (nI 12)) d_d_moveToDraft_10 rfl (by decide) ?_
      refine rs_icmp_ge (tgt := 35) d_d_moveToDraft_12 rfl (by decide) (fun _ => ?_) (fun hc => absurd (nI_le (by omega) (by omega)) hc)
      refine rs_aload_n d_d_moveToDraft_35 rfl rfl ?_
      refine rx_get_pl d_d_moveToDraft_36 rfl f_d_11 ?_
      refine rs_bipush (v := (nI 12)) d_d_moveToDraft_39 rfl (by decide) ?_
      refine rs_aload_n d_d_moveToDraft_41 rfl rfl ?_
      refine rx_st_p (by first | assumption | omega) (by first | assumption | omega) d_d_moveToDraft_42 rfl ?_
      exact rs_vreturn d_d_moveToDraft_43 rfl ⟨rfl, rfl, rfl⟩
    | succ d ih =>
      intro i hi hpi
      have hi13 : i < 13 := by omega
      have hi1 : i + 1 < 13 := by omega
      have hEk : rp_E P p i (i + 1) ≤ 13 := by have := rp_E_le hP p i (i + 1) (by omega) hi1; omega
      refine rs_iload_n d_d_moveToDraft_9 rfl rfl ?_
      refine rs_bipush (v := (nI 12)) d_d_moveToDraft_10 rfl (by decide) ?_
      refine rs_icmp_ge (tgt := 35) d_d_moveToDraft_12 rfl (by decide) (fun hc => absurd hc (nI_ge (by omega) (by omega))) (fun _ => ?_)
      refine rs_aload_n d_d_moveToDraft_15 rfl rfl ?_
      refine rx_get_pl d_d_moveToDraft_16 rfl f_d_11 ?_
      refine rs_iload_n d_d_moveToDraft_19 rfl rfl ?_
      refine rs_aload_n d_d_moveToDraft_20 rfl rfl ?_
      refine rx_get_pl d_d_moveToDraft_21 rfl f_d_11 ?_
      refine rs_iload_n d_d_moveToDraft_24 rfl rfl ?_
      refine rs_iconst (v := (nI 1)) d_d_moveToDraft_25 rfl (by decide) ?_
      refine rs_iadd d_d_moveToDraft_26 rfl ?_
      refine rs_tope (nI_add _ _) ?_
      refine rx_ld_p (by first | assumption | omega) d_d_moveToDraft_27 rfl ?_
      refine rx_st_p (by first | assumption | omega) (by first | assumption | omega) d_d_moveToDraft_28 rfl ?_
      rw [rp_Eu P hpi]
      refine rs_iinc d_d_moveToDraft_29 rfl (by decide) rfl (rs_inc1 i) rfl ?_
      refine rs_goto (tgt := 9) d_d_moveToDraft_32 (by decide) ?_
      exact ih (i + 1) (by omega) (by omega)
  refine rsK_of pf_d_moveToDraft rfl (Nat.le_of_ble_eq_true rfl) rfl ?_
  have hp13 : p < 13 := by omega
  refine rs_aload_n d_d_moveToDraft_0 rfl rfl ?_
  refine rx_get_pl d_d_moveToDraft_1 rfl f_d_11 ?_
  refine rs_iload_n d_d_moveToDraft_4 rfl rfl ?_
  refine rx_ld_p (by first | assumption | omega) d_d_moveToDraft_5 rfl ?_
  refine rs_astore_n d_d_moveToDraft_6 rfl (by decide) rfl ?_
  refine rs_iload_n d_d_moveToDraft_7 rfl rfl ?_
  refine rs_istore_n d_d_moveToDraft_8 rfl (by decide) rfl ?_
  refine rsV_eq ?_ (loop (12 - p) p (by omega) (by omega))
  rw [rp_E0]
set_option maxRecDepth 100000 in
theorem k_listFlushed {G : rsG} {n : Nat} {K V : Nat → Nat → Int32} {c P r : Nat → Nat} {md up wl cu : Int32} {hf : rsH} (hP : ∀ i, i < 13 → P i ≤ 12) : rsK G M_d_listDraftAsFlushed (rmO 1 23) [.ref (rsB G + 4)] (rwd G K V c P r md up wl cu hf) n (rsOk (none) (rwd G K V c (rp_mvd P 0) (va_up r 0 (r 0 + 1)) md up wl cu hf) n) := by
  refine rsK_of pf_d_listDraftAsFlushed rfl (Nat.le_of_ble_eq_true rfl) rfl ?_
  refine rs_aload_n d_d_listDraftAsFlushed_0 rfl rfl ?_
  refine rs_iconst (v := (nI 0)) d_d_listDraftAsFlushed_1 rfl (by decide) ?_
  refine rx_cV d_d_listDraftAsFlushed_2 rfl c_d_65 (by exact np_d_moveDraftTo) rw_d (k_moveDraftTo (by decide) hP) (by decide) ⟨rfl, rfl⟩ (Nat.le_of_ble_eq_true rfl) rfl ?_
  refine rs_aload_n d_d_listDraftAsFlushed_5 rfl rfl ?_
  refine rx_get_ro d_d_listDraftAsFlushed_6 rfl f_d_18 ?_
  refine rs_iconst (v := (nI 0)) d_d_listDraftAsFlushed_9 rfl (by decide) ?_
  refine rs_dup2 d_d_listDraftAsFlushed_10 rfl rfl rfl ?_
  refine rx_ld_r (by first | assumption | omega) d_d_listDraftAsFlushed_11 rfl ?_
  refine rs_iconst (v := (nI 1)) d_d_listDraftAsFlushed_12 rfl (by decide) ?_
  refine rs_iadd d_d_listDraftAsFlushed_13 rfl ?_
  refine rs_tope (nI_add _ _) ?_
  refine rx_st_r (by first | assumption | omega) d_d_listDraftAsFlushed_14 rfl ?_
  exact rs_vreturn d_d_listDraftAsFlushed_15 rfl ⟨rfl, rfl, rfl⟩
set_option maxRecDepth 100000 in
theorem k_listMerged_none {G : rsG} {n : Nat} {K V : Nat → Nat → Int32} {c P r : Nat → Nat} {md up wl cu : Int32} {hf : rsH} {lv : Nat} (hl : lv < 3) (hP : ∀ i, i < 13 → P i ≤ 12) (hr : r lv ≤ 12) (hpl : rp_sum r lv ≤ 12) (hz : c (P 12) = 0) : rsK G M_d_listDraftAsMerged (rmO 1 23) [.ref (rsB G + 4), .int (nI lv)] (rwd G K V c P r md up wl cu hf) n (rsOk none (rwd G K V c (rp_mvs P (rp_sum r lv) (r lv)) (va_up r lv 0) md up wl cu hf) n) := by
  have loop : ∀ (d i : Nat), i + d = r lv → rsV G M_d_listDraftAsMerged (rmO 1 23) (rsOk none (rwd G K V c (rp_mvs P (rp_sum r lv) (r lv)) (va_up r lv 0) md up wl cu hf) n) 0 0 57 [some (.ref (rsB G + 4)), some (.int (nI lv)), some (.int (nI (r lv))), some (.int (nI (rp_sum r lv))), some (.int (nI i))] [] (rwd G K V c (rp_mvs P (rp_sum r lv) i) (va_up r lv 0) md up wl cu hf) n := by
    intro d
    induction d with
    | zero =>
      intro i hi
      obtain rfl : i = r lv := by omega
      refine rs_iload d_d_listDraftAsMerged_57 rfl rfl ?_
      refine rs_iload_n d_d_listDraftAsMerged_59 rfl rfl ?_
      refine rs_icmp_ge (tgt := 74) d_d_listDraftAsMerged_60 rfl (by decide) (fun _ => ?_) (fun hc => absurd (nI_le (by omega) (by omega)) hc)
      exact rs_vreturn d_d_listDraftAsMerged_74 rfl ⟨rfl, rfl, rfl⟩
    | succ d ih =>
      intro i hi
      refine rs_iload d_d_listDraftAsMerged_57 rfl rfl ?_
      refine rs_iload_n d_d_listDraftAsMerged_59 rfl rfl ?_
      refine rs_icmp_ge (tgt := 74) d_d_listDraftAsMerged_60 rfl (by decide) (fun hc => absurd hc (nI_ge (by omega) (by omega))) (fun _ => ?_)
      refine rs_aload_n d_d_listDraftAsMerged_63 rfl rfl ?_
      refine rs_iload_n d_d_listDraftAsMerged_64 rfl rfl ?_
      refine rx_cV d_d_listDraftAsMerged_65 rfl c_d_78 (by exact np_d_moveToDraft) rw_d (k_moveToDraft hpl (rp_mvs_le hP hpl i)) (by decide) ⟨rfl, rfl⟩ (Nat.le_of_ble_eq_true rfl) rfl ?_
      refine rs_iinc d_d_listDraftAsMerged_68 rfl (by decide) rfl (rs_inc1 i) rfl ?_
      refine rs_goto (tgt := 57) d_d_listDraftAsMerged_71 (by decide) ?_
      exact ih (i + 1) (by omega)
  refine rsK_of pf_d_listDraftAsMerged rfl (Nat.le_of_ble_eq_true rfl) rfl ?_
  have hd : P 12 ≤ 13 := by have := hP 12 (by decide); omega
  refine rs_aload_n d_d_listDraftAsMerged_0 rfl rfl ?_
  refine rx_get_ro d_d_listDraftAsMerged_1 rfl f_d_18 ?_
  refine rs_iload_n d_d_listDraftAsMerged_4 rfl rfl ?_
  refine rx_ld_r (by first | assumption | omega) d_d_listDraftAsMerged_5 rfl ?_
  refine rs_istore_n d_d_listDraftAsMerged_6 rfl (by decide) rfl ?_
  refine rs_aload_n d_d_listDraftAsMerged_7 rfl rfl ?_
  refine rs_iload_n d_d_listDraftAsMerged_8 rfl rfl ?_
  refine rx_cV d_d_listDraftAsMerged_9 rfl c_d_32 (by exact np_d_firstPlaceOf) rw_d (k_firstPlaceOf (by omega)) (by decide) ⟨rfl, rfl⟩ (Nat.le_of_ble_eq_true rfl) rfl ?_
  refine rs_istore_n d_d_listDraftAsMerged_12 rfl (by decide) rfl ?_
  refine rs_aload_n d_d_listDraftAsMerged_13 rfl rfl ?_
  refine rx_get_ro d_d_listDraftAsMerged_14 rfl f_d_18 ?_
  refine rs_iload_n d_d_listDraftAsMerged_17 rfl rfl ?_
  refine rs_iconst (v := (nI 0)) d_d_listDraftAsMerged_18 rfl (by decide) ?_
  refine rx_st_r (by first | assumption | omega) d_d_listDraftAsMerged_19 rfl ?_
  refine rs_aload_n d_d_listDraftAsMerged_20 rfl rfl ?_
  refine rx_cV d_d_listDraftAsMerged_21 rfl c_d_47 (by exact np_d_draft) rw_d (k_draft) (by decide) ⟨rfl, rfl⟩ (Nat.le_of_ble_eq_true rfl) rfl ?_
  refine rx_cV d_d_listDraftAsMerged_24 rfl c_d_69 (by exact np_e_count) (rw_e hd) (k_count hd) (by decide) ⟨rfl, rfl⟩ (Nat.le_of_ble_eq_true rfl) rfl ?_
  refine rs_if_le (tgt := 54) d_d_listDraftAsMerged_27 rfl (by decide) (fun _ => ?_) (fun hc => absurd (by rw [hz, nI_0]; decide) hc)
  refine rs_iconst (v := (nI 0)) d_d_listDraftAsMerged_54 rfl (by decide) ?_
  refine rs_istore d_d_listDraftAsMerged_55 rfl (by decide) rfl ?_
  exact loop (r lv) 0 (by omega)
set_option maxRecDepth 100000 in
theorem k_listMerged_some {G : rsG} {n : Nat} {K V : Nat → Nat → Int32} {c P r : Nat → Nat} {md up wl cu : Int32} {hf : rsH} {lv : Nat} (hl : lv < 3) (hP : ∀ i, i < 13 → P i ≤ 12) (hr : r lv ≤ 12) (hpl : rp_sum r lv + 1 ≤ 12) (hz : 0 < c (P 12)) (hc100 : c (P 12) ≤ 100) : rsK G M_d_listDraftAsMerged (rmO 1 23) [.ref (rsB G + 4), .int (nI lv)] (rwd G K V c P r md up wl cu hf) n (rsOk none (rwd G K V c (rp_mvs (rp_mvd P (rp_sum r lv)) (rp_sum r lv + 1) (r lv)) (va_up (va_up r lv 0) (min (lv + 1) 2) ((va_up r lv 0) (min (lv + 1) 2) + 1)) md up wl cu hf) n) := by
  have loop : ∀ (d i : Nat), i + d = r lv → rsV G M_d_listDraftAsMerged (rmO 1 23) (rsOk none (rwd G K V c (rp_mvs (rp_mvd P (rp_sum r lv)) (rp_sum r lv + 1) (r lv)) (va_up (va_up r lv 0) (min (lv + 1) 2) ((va_up r lv 0) (min (lv + 1) 2) + 1)) md up wl cu hf) n) 0 0 57 [some (.ref (rsB G + 4)), some (.int (nI lv)), some (.int (nI (r lv))), some (.int (nI (rp_sum r lv + 1))), some (.int (nI i))] [] (rwd G K V c (rp_mvs (rp_mvd P (rp_sum r lv)) (rp_sum r lv + 1) i) (va_up (va_up r lv 0) (min (lv + 1) 2) ((va_up r lv 0) (min (lv + 1) 2) + 1)) md up wl cu hf) n := by
    intro d
    induction d with
    | zero =>
      intro i hi
      obtain rfl : i = r lv := by omega
      refine rs_iload d_d_listDraftAsMerged_57 rfl rfl ?_
      refine rs_iload_n d_d_listDraftAsMerged_59 rfl rfl ?_
      refine rs_icmp_ge (tgt := 74) d_d_listDraftAsMerged_60 rfl (by decide) (fun _ => ?_) (fun hc => absurd (nI_le (by omega) (by omega)) hc)
      exact rs_vreturn d_d_listDraftAsMerged_74 rfl ⟨rfl, rfl, rfl⟩
    | succ d ih =>
      intro i hi
      refine rs_iload d_d_listDraftAsMerged_57 rfl rfl ?_
      refine rs_iload_n d_d_listDraftAsMerged_59 rfl rfl ?_
      refine rs_icmp_ge (tgt := 74) d_d_listDraftAsMerged_60 rfl (by decide) (fun hc => absurd hc (nI_ge (by omega) (by omega))) (fun _ => ?_)
      refine rs_aload_n d_d_listDraftAsMerged_63 rfl rfl ?_
      refine rs_iload_n d_d_listDraftAsMerged_64 rfl rfl ?_
      refine rx_cV d_d_listDraftAsMerged_65 rfl c_d_78 (by exact np_d_moveToDraft) rw_d (k_moveToDraft hpl (rp_mvs_le (rp_mvd_le hP _) hpl i)) (by decide) ⟨rfl, rfl⟩ (Nat.le_of_ble_eq_true rfl) rfl ?_
      refine rs_iinc d_d_listDraftAsMerged_68 rfl (by decide) rfl (rs_inc1 i) rfl ?_
      refine rs_goto (tgt := 57) d_d_listDraftAsMerged_71 (by decide) ?_
      exact ih (i + 1) (by omega)
  refine rsK_of pf_d_listDraftAsMerged rfl (Nat.le_of_ble_eq_true rfl) rfl ?_
  have hd : P 12 ≤ 13 := by have := hP 12 (by decide); omega
  refine rs_aload_n d_d_listDraftAsMerged_0 rfl rfl ?_
  refine rx_get_ro d_d_listDraftAsMerged_1 rfl f_d_18 ?_
  refine rs_iload_n d_d_listDraftAsMerged_4 rfl rfl ?_
  refine rx_ld_r (by first | assumption | omega) d_d_listDraftAsMerged_5 rfl ?_
  refine rs_istore_n d_d_listDraftAsMerged_6 rfl (by decide) rfl ?_
  refine rs_aload_n d_d_listDraftAsMerged_7 rfl rfl ?_
  refine rs_iload_n d_d_listDraftAsMerged_8 rfl rfl ?_
  refine rx_cV d_d_listDraftAsMerged_9 rfl c_d_32 (by exact np_d_firstPlaceOf) rw_d (k_firstPlaceOf (by omega)) (by decide) ⟨rfl, rfl⟩ (Nat.le_of_ble_eq_true rfl) rfl ?_
  refine rs_istore_n d_d_listDraftAsMerged_12 rfl (by decide) rfl ?_
  refine rs_aload_n d_d_listDraftAsMerged_13 rfl rfl ?_
  refine rx_get_ro d_d_listDraftAsMerged_14 rfl f_d_18 ?_
  refine rs_iload_n d_d_listDraftAsMerged_17 rfl rfl ?_
  refine rs_iconst (v := (nI 0)) d_d_listDraftAsMerged_18 rfl (by decide) ?_
  refine rx_st_r (by first | assumption | omega) d_d_listDraftAsMerged_19 rfl ?_
  refine rs_aload_n d_d_listDraftAsMerged_20 rfl rfl ?_
  refine rx_cV d_d_listDraftAsMerged_21 rfl c_d_47 (by exact np_d_draft) rw_d (k_draft) (by decide) ⟨rfl, rfl⟩ (Nat.le_of_ble_eq_true rfl) rfl ?_
  refine rx_cV d_d_listDraftAsMerged_24 rfl c_d_69 (by exact np_e_count) (rw_e hd) (k_count hd) (by decide) ⟨rfl, rfl⟩ (Nat.le_of_ble_eq_true rfl) rfl ?_
  refine rs_if_le (tgt := 54) d_d_listDraftAsMerged_27 rfl (by decide) (fun hc => absurd hc (nI_nle hz (by omega))) (fun _ => ?_)
  refine rs_aload_n d_d_listDraftAsMerged_30 rfl rfl ?_
  refine rs_iload_n d_d_listDraftAsMerged_31 rfl rfl ?_
  refine rx_cV d_d_listDraftAsMerged_32 rfl c_d_65 (by exact np_d_moveDraftTo) rw_d (k_moveDraftTo (by omega) hP) (by decide) ⟨rfl, rfl⟩ (Nat.le_of_ble_eq_true rfl) rfl ?_
  have hm3 : min (lv + 1) 2 < 3 := by omega
  refine rs_aload_n d_d_listDraftAsMerged_35 rfl rfl ?_
  refine rx_get_ro d_d_listDraftAsMerged_36 rfl f_d_18 ?_
  refine rs_iload_n d_d_listDraftAsMerged_39 rfl rfl ?_
  refine rs_iconst (v := (nI 1)) d_d_listDraftAsMerged_40 rfl (by decide) ?_
  refine rs_iadd d_d_listDraftAsMerged_41 rfl ?_
  refine rs_tope (nI_add _ _) ?_
  refine rs_iconst (v := (nI 2)) d_d_listDraftAsMerged_42 rfl (by decide) ?_
  refine rx_cS d_d_listDraftAsMerged_43 rfl c_d_72 (by exact np_a_min) (k_min (by omega) (by decide)) (by decide) ⟨rfl, rfl⟩ (Nat.le_of_ble_eq_true rfl) rfl ?_
  refine rs_dup2 d_d_listDraftAsMerged_46 rfl rfl rfl ?_
  refine rx_ld_r (by first | assumption | omega) d_d_listDraftAsMerged_47 rfl ?_
  refine rs_iconst (v := (nI 1)) d_d_listDraftAsMerged_48 rfl (by decide) ?_
  refine rs_iadd d_d_listDraftAsMerged_49 rfl ?_
  refine rs_tope (nI_add _ _) ?_
  refine rx_st_r (by first | assumption | omega) d_d_listDraftAsMerged_50 rfl ?_
  refine rs_iinc d_d_listDraftAsMerged_51 rfl (by decide) rfl (rs_inc1 _) rfl ?_
  refine rs_iconst (v := (nI 0)) d_d_listDraftAsMerged_54 rfl (by decide) ?_
  refine rs_istore d_d_listDraftAsMerged_55 rfl (by decide) rfl ?_
  exact loop (r lv) 0 (by omega)
