/-! 16: the store's private methods (written by gen_store.py) -/
def rp_find (p : Nat → Bool) : Nat → Option Nat
  | 0 => none
  | n + 1 => match rp_find p n with
    | some x => some x
    | none => if p n = true then some n else none
theorem rp_find_none {p : Nat → Bool} : ∀ {n : Nat}, rp_find p n = none → ∀ i, i < n → p i = false
  | 0, _, i, hi => absurd hi (by omega)
  | n + 1, h, i, hi => by
    unfold rp_find at h
    cases hf : rp_find p n with
    | some x => rw [hf] at h; cases h
    | none =>
      rw [hf] at h
      by_cases hp : p n = true
      · simp only [hp, if_true] at h; cases h
      · by_cases hin : i = n
        · rw [hin]; simpa using hp
        · exact rp_find_none hf i (by omega)
theorem rp_find_some {p : Nat → Bool} : ∀ {n x : Nat}, rp_find p n = some x → x < n ∧ p x = true ∧ ∀ i, i < x → p i = false
  | 0, x, h => by cases h
  | n + 1, x, h => by
    unfold rp_find at h
    cases hf : rp_find p n with
    | some y =>
      rw [hf] at h
      cases h
      obtain ⟨h1, h2, h3⟩ := rp_find_some hf
      exact ⟨by omega, h2, h3⟩
    | none =>
      rw [hf] at h
      by_cases hp : p n = true
      · simp only [hp, if_true] at h
        cases h
        exact ⟨by omega, hp, rp_find_none hf⟩
      · simp only [hp] at h
        cases h
/-- the newest entries with a key: memory's (13), or those of a run -/
def rp_nw (K : Nat → Nat → Int32) (P : Nat → Nat) (m key : Nat) : Option Nat := if K 13 key = 0 then (rp_find (fun i => !decide (K (P i) key = 0)) m).map P else some 13
def rp_rv (b : Nat) : Option Nat → Value
  | some j => .ref (rw_eo b j)
  | none => .null
def rp_th (K : Nat → Nat → Int32) (P : Nat → Nat) (m key : Nat) : Int32 := match rp_nw K P m key with
  | some j => if K j key = 1 then 1 else 0
  | none => 0
def rp_vz (K V : Nat → Nat → Int32) (P : Nat → Nat) (m key : Nat) : Int32 := match rp_nw K P m key with
  | some j => V j key
  | none => 0
theorem rp_nw_le {K : Nat → Nat → Int32} {P : Nat → Nat} {m key j : Nat} (hP : ∀ i, i < 13 → P i ≤ 12) (hm : m ≤ 12) (h : rp_nw K P m key = some j) : j ≤ 13 := by
  unfold rp_nw at h
  by_cases h0 : K 13 key = 0
  · rw [if_pos h0] at h
    cases hf : rp_find (fun i => !decide (K (P i) key = 0)) m with
    | none => rw [hf] at h; cases h
    | some x =>
      rw [hf] at h
      cases h
      have h1 := (rp_find_some hf).1
      have := hP x (by omega)
      omega
  · rw [if_neg h0] at h; cases h; omega
/-- what a list's writes leave of the limit; none: the store goes down -/
def rp_sp (wl : Int32) (x : Int32) : Option Int32 := if wl = -1 then some (-1) else if x ≤ wl then some (wl - x) else none
set_option maxRecDepth 100000 in
theorem k_newestWith {G : rsG} {n : Nat} {K V : Nat → Nat → Int32} {c P r : Nat → Nat} {md up wl cu : Int32} {hf : rsH} (hs : rp_sum r 3 ≤ 12) (hP : ∀ i, i < 13 → P i ≤ 12) {key : Nat} (hk : key < 100) : rsK G M_s_newestWith (rmO 3 66) [.ref (rsB G), .int (nI key)] (rwd G K V c P r md up wl cu hf) n (rsOk (some (rp_rv (rsB G) (rp_nw K P (rp_sum r 3) key))) (rwd G K V c P r md up wl cu hf) n) := by
  refine rsK_of pf_s_newestWith rfl (Nat.le_of_ble_eq_true rfl) rfl ?_
  refine rs_aload_n d_s_newestWith_0 rfl rfl ?_
  refine rx_get_ga d_s_newestWith_1 rfl f_s_10 ?_
  refine rs_iload_n d_s_newestWith_4 rfl rfl ?_
  refine rx_cV d_s_newestWith_5 rfl c_s_159 (by exact np_e_holds) (rw_e (by decide)) (k_holds (by decide) hk) (by decide) ⟨rfl, rfl⟩ (Nat.le_of_ble_eq_true rfl) rfl ?_
  unfold rp_nw
  by_cases h0 : K 13 key = 0
  · rw [if_pos h0, if_pos h0]
    refine rs_if_eq (tgt := 18) d_s_newestWith_8 rfl (by decide) (fun _ => ?_) (fun hc => absurd (rfl) hc)
    refine rs_aload_n d_s_newestWith_18 rfl rfl ?_
    refine rx_get_di d_s_newestWith_19 rfl f_s_19 ?_
    refine rs_iload_n d_s_newestWith_22 rfl rfl ?_
    cases hf : rp_find (fun i => !decide (K (P i) key = 0)) (rp_sum r 3) with
    | none =>
      refine rx_cV d_s_newestWith_23 rfl c_s_189 (by exact np_d_newestRunWith) rw_d (k_newest_none hs hP hk (fun i hi => by have := rp_find_none hf i hi; simpa using this)) (by decide) ⟨rfl, rfl⟩ (Nat.le_of_ble_eq_true rfl) rfl ?_
      exact rs_areturnN d_s_newestWith_26 rfl ⟨rfl, rfl, rfl⟩
    | some x =>
      obtain ⟨g1, g2, g3⟩ := rp_find_some hf
      refine rx_cV d_s_newestWith_23 rfl c_s_189 (by exact np_d_newestRunWith) rw_d (k_newest_some hs hP hk g1 (fun i hi => by have := g3 i hi; simpa using this) (by simpa using g2)) (by decide) ⟨rfl, rfl⟩ (Nat.le_of_ble_eq_true rfl) rfl ?_
      exact rs_areturn d_s_newestWith_26 rfl ⟨rfl, rfl, rfl⟩
  · rw [if_neg h0, if_neg h0]
    refine rs_if_eq (tgt := 18) d_s_newestWith_8 rfl (by decide) (fun hc => absurd hc (by decide)) (fun _ => ?_)
    refine rs_aload_n d_s_newestWith_11 rfl rfl ?_
    refine rx_get_ga d_s_newestWith_12 rfl f_s_10 ?_
    refine rs_goto (tgt := 26) d_s_newestWith_15 (by decide) ?_
    exact rs_areturn d_s_newestWith_26 rfl ⟨rfl, rfl, rfl⟩
set_option maxRecDepth 100000 in
theorem k_isThere {G : rsG} {n : Nat} {K V : Nat → Nat → Int32} {c P r : Nat → Nat} {md up wl cu : Int32} {hf : rsH} (hs : rp_sum r 3 ≤ 12) (hP : ∀ i, i < 13 → P i ≤ 12) {key : Nat} (hk : key < 100) : rsK G M_s_isThere (rmO 4 87) [.ref (rsB G), .int (nI key)] (rwd G K V c P r md up wl cu hf) n (rsOk (some (.int (rp_th K P (rp_sum r 3) key))) (rwd G K V c P r md up wl cu hf) n) := by
  refine rsK_of pf_s_isThere rfl (Nat.le_of_ble_eq_true rfl) rfl ?_
  refine rs_aload_n d_s_isThere_0 rfl rfl ?_
  refine rs_iload_n d_s_isThere_1 rfl rfl ?_
  refine rx_cV d_s_isThere_2 rfl c_s_179 (by exact np_s_newestWith) rw_x (k_newestWith hs hP hk) (by decide) ⟨rfl, rfl⟩ (Nat.le_of_ble_eq_true rfl) rfl ?_
  unfold rp_th
  cases hn : rp_nw K P (rp_sum r 3) key with
  | none =>
    refine rs_astore_nN d_s_isThere_5 rfl (by decide) rfl ?_
    refine rs_aload_nN d_s_isThere_6 rfl rfl ?_
    refine rs_ifnullN (tgt := 22) d_s_isThere_7 (by decide) ?_
    refine rs_iconst (v := 0) d_s_isThere_22 rfl (by decide) ?_
    exact rs_zreturn d_s_isThere_23 rfl rfl ⟨rfl, rfl, rfl⟩
  | some j =>
    have hj : j ≤ 13 := rp_nw_le hP hs hn
    refine rs_astore_n d_s_isThere_5 rfl (by decide) rfl ?_
    refine rs_aload_n d_s_isThere_6 rfl rfl ?_
    refine rs_ifnull d_s_isThere_7 rfl ?_
    refine rs_aload_n d_s_isThere_10 rfl rfl ?_
    refine rs_iload_n d_s_isThere_11 rfl rfl ?_
    refine rx_cV d_s_isThere_12 rfl c_s_183 (by exact np_e_holdsValue) (rw_e hj) (k_holdsValue hj hk) (by decide) ⟨rfl, rfl⟩ (Nat.le_of_ble_eq_true rfl) rfl ?_
    by_cases h1 : K j key = 1
    · rw [if_pos h1]
      refine rs_if_eq (tgt := 22) d_s_isThere_15 rfl (by decide) (fun hc => absurd hc (by decide)) (fun _ => ?_)
      refine rs_iconst (v := 1) d_s_isThere_18 rfl (by decide) ?_
      refine rs_goto (tgt := 23) d_s_isThere_19 (by decide) ?_
      exact rs_zreturn d_s_isThere_23 rfl rfl ⟨by simp only [h1, if_true], rfl, rfl⟩
    · rw [if_neg h1]
      refine rs_if_eq (tgt := 22) d_s_isThere_15 rfl (by decide) (fun _ => ?_) (fun hc => absurd (rfl) hc)
      refine rs_iconst (v := 0) d_s_isThere_22 rfl (by decide) ?_
      exact rs_zreturn d_s_isThere_23 rfl rfl ⟨by simp only [h1, if_false], rfl, rfl⟩
set_option maxRecDepth 100000 in
theorem k_valueOrZero {G : rsG} {n : Nat} {K V : Nat → Nat → Int32} {c P r : Nat → Nat} {md up wl cu : Int32} {hf : rsH} (hs : rp_sum r 3 ≤ 12) (hP : ∀ i, i < 13 → P i ≤ 12) {key : Nat} (hk : key < 100) : rsK G M_s_valueOrZero (rmO 4 87) [.ref (rsB G), .int (nI key)] (rwd G K V c P r md up wl cu hf) n (rsOk (some (.int (rp_vz K V P (rp_sum r 3) key))) (rwd G K V c P r md up wl cu hf) n) := by
  refine rsK_of pf_s_valueOrZero rfl (Nat.le_of_ble_eq_true rfl) rfl ?_
  refine rs_aload_n d_s_valueOrZero_0 rfl rfl ?_
  refine rs_iload_n d_s_valueOrZero_1 rfl rfl ?_
  refine rx_cV d_s_valueOrZero_2 rfl c_s_179 (by exact np_s_newestWith) rw_x (k_newestWith hs hP hk) (by decide) ⟨rfl, rfl⟩ (Nat.le_of_ble_eq_true rfl) rfl ?_
  unfold rp_vz
  cases hn : rp_nw K P (rp_sum r 3) key with
  | none =>
    refine rs_astore_nN d_s_valueOrZero_5 rfl (by decide) rfl ?_
    refine rs_aload_nN d_s_valueOrZero_6 rfl rfl ?_
    refine rs_ifnonnullN d_s_valueOrZero_7 rfl ?_
    refine rs_iconst (v := 0) d_s_valueOrZero_10 rfl (by decide) ?_
    refine rs_goto (tgt := 19) d_s_valueOrZero_11 (by decide) ?_
    exact rs_ireturn d_s_valueOrZero_19 rfl ⟨rfl, rfl, rfl⟩
  | some j =>
    have hj : j ≤ 13 := rp_nw_le hP hs hn
    refine rs_astore_n d_s_valueOrZero_5 rfl (by decide) rfl ?_
    refine rs_aload_n d_s_valueOrZero_6 rfl rfl ?_
    refine rs_ifnonnull (tgt := 14) d_s_valueOrZero_7 (by decide) ?_
    refine rs_aload_n d_s_valueOrZero_14 rfl rfl ?_
    refine rs_iload_n d_s_valueOrZero_15 rfl rfl ?_
    refine rx_cV d_s_valueOrZero_16 rfl c_s_186 (by exact np_e_valueAt) (rw_e hj) (k_valueAt hj hk) (by decide) ⟨rfl, rfl⟩ (Nat.le_of_ble_eq_true rfl) rfl ?_
    exact rs_ireturn d_s_valueOrZero_19 rfl ⟨rfl, rfl, rfl⟩
set_option maxRecDepth 100000 in
theorem k_goDown {G : rsG} {n : Nat} {K V : Nat → Nat → Int32} {c P r : Nat → Nat} {md up wl cu : Int32} {hf : rsH}  : rsK G M_s_goDown (rmO 2 43) [.ref (rsB G)] (rwd G K V c P r md up wl cu hf) n (rsOk (none) (rwd G (va_up K 13 (fun _ => 0)) V (va_up c 13 0) P r md 0 (-1) (-1) hf) n) := by
  refine rsK_of pf_s_goDown rfl (Nat.le_of_ble_eq_true rfl) rfl ?_
  refine rs_aload_n d_s_goDown_0 rfl rfl ?_
  refine rx_get_ga d_s_goDown_1 rfl f_s_10 ?_
  refine rx_cV d_s_goDown_4 rfl c_s_139 (by exact np_e_clear) (rw_e (by decide)) (k_clear (by decide)) (by decide) ⟨rfl, rfl⟩ (Nat.le_of_ble_eq_true rfl) rfl ?_
  refine rs_aload_n d_s_goDown_7 rfl rfl ?_
  refine rs_iconst (v := (-1)) d_s_goDown_8 rfl (by decide) ?_
  refine rx_put_cu d_s_goDown_9 rfl p_s_31 ?_
  refine rs_aload_n d_s_goDown_12 rfl rfl ?_
  refine rs_iconst (v := (-1)) d_s_goDown_13 rfl (by decide) ?_
  refine rx_put_wl d_s_goDown_14 rfl p_s_27 ?_
  refine rs_aload_n d_s_goDown_17 rfl rfl ?_
  refine rs_iconst (v := 0) d_s_goDown_18 rfl (by decide) ?_
  refine rx_put_up d_s_goDown_19 rfl p_s_23 rfl rfl ?_
  exact rs_vreturn d_s_goDown_22 rfl ⟨rfl, rfl, rfl⟩
set_option maxRecDepth 100000 in
theorem k_comeUp {G : rsG} {n : Nat} {K V : Nat → Nat → Int32} {c P r : Nat → Nat} {md up wl cu : Int32} {hf : rsH}  : rsK G M_s_comeUp (rmO 2 43) [.ref (rsB G)] (rwd G K V c P r md up wl cu hf) n (rsOk (none) (rwd G (va_up K 13 (fun _ => 0)) V (va_up c 13 0) P r md 1 wl (-1) hf) n) := by
  refine rsK_of pf_s_comeUp rfl (Nat.le_of_ble_eq_true rfl) rfl ?_
  refine rs_aload_n d_s_comeUp_0 rfl rfl ?_
  refine rx_get_ga d_s_comeUp_1 rfl f_s_10 ?_
  refine rx_cV d_s_comeUp_4 rfl c_s_139 (by exact np_e_clear) (rw_e (by decide)) (k_clear (by decide)) (by decide) ⟨rfl, rfl⟩ (Nat.le_of_ble_eq_true rfl) rfl ?_
  refine rs_aload_n d_s_comeUp_7 rfl rfl ?_
  refine rs_iconst (v := (-1)) d_s_comeUp_8 rfl (by decide) ?_
  refine rx_put_cu d_s_comeUp_9 rfl p_s_31 ?_
  refine rs_aload_n d_s_comeUp_12 rfl rfl ?_
  refine rs_iconst (v := 1) d_s_comeUp_13 rfl (by decide) ?_
  refine rx_put_up d_s_comeUp_14 rfl p_s_23 rfl rfl ?_
  exact rs_vreturn d_s_comeUp_17 rfl ⟨rfl, rfl, rfl⟩
set_option maxRecDepth 100000 in
theorem k_spend_ok {G : rsG} {n : Nat} {K V : Nat → Nat → Int32} {c P r : Nat → Nat} {md up wl cu : Int32} {hf : rsH} {x wl' : Int32} (h : rp_sp wl x = some wl') : rsK G M_s_spendWrites (rmO 6 90) [.ref (rsB G), .int x] (rwd G K V c P r md up wl cu hf) n (rsOk (none) (rwd G K V c P r md up wl' cu hf) n) := by
  refine rsK_of pf_s_spendWrites rfl (Nat.le_of_ble_eq_true rfl) rfl ?_
  unfold rp_sp at h
  refine rs_aload_n d_s_spendWrites_0 rfl rfl ?_
  refine rx_get_wl d_s_spendWrites_1 rfl f_s_27 ?_
  refine rs_iconst (v := (-1)) d_s_spendWrites_4 rfl (by decide) ?_
  by_cases h1 : wl = -1
  · rw [if_pos h1] at h
    cases h
    subst h1
    refine rs_icmp_ne (tgt := 9) d_s_spendWrites_5 rfl (by decide) (fun hc => absurd (rfl) hc) (fun _ => ?_)
    exact rs_vreturn d_s_spendWrites_8 rfl ⟨rfl, rfl, rfl⟩
  · rw [if_neg h1] at h
    by_cases h2 : x ≤ wl
    · rw [if_pos h2] at h
      cases h
      refine rs_icmp_ne (tgt := 9) d_s_spendWrites_5 rfl (by decide) (fun _ => ?_) (fun hc => absurd hc (h1))
      refine rs_aload_n d_s_spendWrites_9 rfl rfl ?_
      refine rx_get_wl d_s_spendWrites_10 rfl f_s_27 ?_
      refine rs_iload_n d_s_spendWrites_13 rfl rfl ?_
      refine rs_icmp_ge (tgt := 31) d_s_spendWrites_14 rfl (by decide) (fun _ => ?_) (fun hc => absurd (h2) hc)
      refine rs_aload_n d_s_spendWrites_31 rfl rfl ?_
      refine rs_dup d_s_spendWrites_32 rfl rfl ?_
      refine rx_get_wl d_s_spendWrites_33 rfl f_s_27 ?_
      refine rs_iload_n d_s_spendWrites_36 rfl rfl ?_
      refine rs_isub d_s_spendWrites_37 rfl ?_
      refine rx_put_wl d_s_spendWrites_38 rfl p_s_27 ?_
      exact rs_vreturn d_s_spendWrites_41 rfl ⟨rfl, rfl, rfl⟩
    · rw [if_neg h2] at h
      cases h
set_option maxRecDepth 100000 in
theorem k_spend_no {G : rsG} {n : Nat} {K V : Nat → Nat → Int32} {c P r : Nat → Nat} {md up wl cu : Int32} {hf : rsH} {x : Int32} (h : rp_sp wl x = none) : rsK G M_s_spendWrites (rmT 6 90) [.ref (rsB G), .int x] (rwd G K V c P r md up wl cu hf) n (rsTh 1 (rwd G (va_up K 13 (fun _ => 0)) V (va_up c 13 0) P r md 0 (-1) (-1) hf) (n + 1)) := by
  refine rsK_of pf_s_spendWrites rfl (Nat.le_of_ble_eq_true rfl) rfl ?_
  unfold rp_sp at h
  refine rs_aload_n d_s_spendWrites_0 rfl rfl ?_
  refine rx_get_wl d_s_spendWrites_1 rfl f_s_27 ?_
  refine rs_iconst (v := (-1)) d_s_spendWrites_4 rfl (by decide) ?_
  by_cases h1 : wl = -1
  · rw [if_pos h1] at h
    cases h
  · rw [if_neg h1] at h
    by_cases h2 : x ≤ wl
    · rw [if_pos h2] at h
      cases h
    · refine rs_icmp_ne (tgt := 9) d_s_spendWrites_5 rfl (by decide) (fun _ => ?_) (fun hc => absurd hc (h1))
      refine rs_aload_n d_s_spendWrites_9 rfl rfl ?_
      refine rx_get_wl d_s_spendWrites_10 rfl f_s_27 ?_
      refine rs_iload_n d_s_spendWrites_13 rfl rfl ?_
      refine rs_icmp_ge (tgt := 31) d_s_spendWrites_14 rfl (by decide) (fun hc => absurd hc (h2)) (fun _ => ?_)
      refine rs_aload_n d_s_spendWrites_17 rfl rfl ?_
      refine rx_cV d_s_spendWrites_18 rfl c_s_142 (by exact np_s_goDown) rw_x (k_goDown) (by decide) ⟨rfl, rfl⟩ (Nat.le_of_ble_eq_true rfl) rfl ?_
      exact rs_throw (k := 1) (tx := "the store went down") d_s_spendWrites_21 d_s_spendWrites_24 d_s_spendWrites_25 d_s_spendWrites_27 d_s_spendWrites_30 (by decide) n_s_44 t_ins1 t_ini1 x_s_48 (by decide) rfl (Nat.le_of_ble_eq_true rfl) (by decide) (by decide) (by decide) (by decide) ⟨rfl, rfl, rfl⟩
set_option maxRecDepth 100000 in
theorem k_reqDisk_ok {G : rsG} {n : Nat} {K V : Nat → Nat → Int32} {c P r : Nat → Nat} {md up wl cu : Int32} {hf : rsH} (hb : narrow .boolean (.int md) = .int md) (h : ¬ md = 0) : rsK G M_s_requireDisk (rmO 6 90) [.ref (rsB G)] (rwd G K V c P r md up wl cu hf) n (rsOk (none) (rwd G K V c P r md up wl cu hf) n) := by
  refine rsK_of pf_s_requireDisk rfl (Nat.le_of_ble_eq_true rfl) rfl ?_
  refine rs_aload_n d_s_requireDisk_0 rfl rfl ?_
  refine rx_get_di d_s_requireDisk_1 rfl f_s_19 ?_
  refine rx_cV d_s_requireDisk_4 rfl c_s_133 (by exact np_d_isMade) rw_d (k_isMade hb) (by decide) ⟨rfl, rfl⟩ (Nat.le_of_ble_eq_true rfl) rfl ?_
  refine rs_if_ne (tgt := 20) d_s_requireDisk_7 rfl (by decide) (fun _ => ?_) (fun hc => absurd hc (h))
  exact rs_vreturn d_s_requireDisk_20 rfl ⟨rfl, rfl, rfl⟩
set_option maxRecDepth 100000 in
theorem k_reqDisk_no {G : rsG} {n : Nat} {K V : Nat → Nat → Int32} {c P r : Nat → Nat} {md up wl cu : Int32} {hf : rsH} (hb : narrow .boolean (.int md) = .int md) (h : md = 0) : rsK G M_s_requireDisk (rmT 6 90) [.ref (rsB G)] (rwd G K V c P r md up wl cu hf) n (rsTh 1 (rwd G K V c P r md up wl cu hf) (n + 1)) := by
  refine rsK_of pf_s_requireDisk rfl (Nat.le_of_ble_eq_true rfl) rfl ?_
  refine rs_aload_n d_s_requireDisk_0 rfl rfl ?_
  refine rx_get_di d_s_requireDisk_1 rfl f_s_19 ?_
  refine rx_cV d_s_requireDisk_4 rfl c_s_133 (by exact np_d_isMade) rw_d (k_isMade hb) (by decide) ⟨rfl, rfl⟩ (Nat.le_of_ble_eq_true rfl) rfl ?_
  refine rs_if_ne (tgt := 20) d_s_requireDisk_7 rfl (by decide) (fun hc => absurd (h) hc) (fun _ => ?_)
  exact rs_throw (k := 1) (tx := "the disk was never made") d_s_requireDisk_10 d_s_requireDisk_13 d_s_requireDisk_14 d_s_requireDisk_16 d_s_requireDisk_19 (by decide) n_s_44 t_ins1 t_ini1 x_s_48 (by decide) rfl (Nat.le_of_ble_eq_true rfl) (by decide) (by decide) (by decide) (by decide) ⟨rfl, rfl, rfl⟩
set_option maxRecDepth 100000 in
theorem k_reqUp_ok {G : rsG} {n : Nat} {K V : Nat → Nat → Int32} {c P r : Nat → Nat} {md up wl cu : Int32} {hf : rsH} (h : ¬ up = 0) : rsK G M_s_requireUp (rmO 6 90) [.ref (rsB G)] (rwd G K V c P r md up wl cu hf) n (rsOk (none) (rwd G K V c P r md up wl cu hf) n) := by
  refine rsK_of pf_s_requireUp rfl (Nat.le_of_ble_eq_true rfl) rfl ?_
  refine rs_aload_n d_s_requireUp_0 rfl rfl ?_
  refine rx_get_up d_s_requireUp_1 rfl f_s_23 ?_
  refine rs_if_ne (tgt := 17) d_s_requireUp_4 rfl (by decide) (fun _ => ?_) (fun hc => absurd hc (h))
  exact rs_vreturn d_s_requireUp_17 rfl ⟨rfl, rfl, rfl⟩
set_option maxRecDepth 100000 in
theorem k_reqUp_no {G : rsG} {n : Nat} {K V : Nat → Nat → Int32} {c P r : Nat → Nat} {md up wl cu : Int32} {hf : rsH} (h : up = 0) : rsK G M_s_requireUp (rmT 6 90) [.ref (rsB G)] (rwd G K V c P r md up wl cu hf) n (rsTh 1 (rwd G K V c P r md up wl cu hf) (n + 1)) := by
  refine rsK_of pf_s_requireUp rfl (Nat.le_of_ble_eq_true rfl) rfl ?_
  refine rs_aload_n d_s_requireUp_0 rfl rfl ?_
  refine rx_get_up d_s_requireUp_1 rfl f_s_23 ?_
  refine rs_if_ne (tgt := 17) d_s_requireUp_4 rfl (by decide) (fun hc => absurd (h) hc) (fun _ => ?_)
  exact rs_throw (k := 1) (tx := "the store is down") d_s_requireUp_7 d_s_requireUp_10 d_s_requireUp_11 d_s_requireUp_13 d_s_requireUp_16 (by decide) n_s_44 t_ins1 t_ini1 x_s_48 (by decide) rfl (Nat.le_of_ble_eq_true rfl) (by decide) (by decide) (by decide) (by decide) ⟨rfl, rfl, rfl⟩
set_option maxRecDepth 100000 in
theorem k_reqKey_ok {G : rsG} {n : Nat} {h : rsH} {key : Nat} (hk : key < 100) : rsK G M_s_requireKey (rmO 6 90) [.int (nI key)] h n (rsOk (none) h n) := by
  refine rsK_of pf_s_requireKey rfl (Nat.le_of_ble_eq_true rfl) rfl ?_
  refine rs_iload_n d_s_requireKey_0 rfl rfl ?_
  refine rs_if_lt (tgt := 10) d_s_requireKey_1 rfl (by decide) (fun hc => absurd hc (nI_pos (by omega))) (fun _ => ?_)
  refine rs_iload_n d_s_requireKey_4 rfl rfl ?_
  refine rs_bipush (v := (nI 100)) d_s_requireKey_5 rfl (by decide) ?_
  refine rs_icmp_lt (tgt := 20) d_s_requireKey_7 rfl (by decide) (fun _ => ?_) (fun hc => absurd (nI_lt hk (by omega)) hc)
  exact rs_vreturn d_s_requireKey_20 rfl ⟨rfl, rfl, rfl⟩
set_option maxRecDepth 100000 in
theorem k_reqKey_no {G : rsG} {n : Nat} {h : rsH} {x : Int32} (hx : x < 0 ∨ ¬ x < 100) : rsK G M_s_requireKey (rmT 6 90) [.int x] h n (rsTh 0 h (n + 1)) := by
  refine rsK_of pf_s_requireKey rfl (Nat.le_of_ble_eq_true rfl) rfl ?_
  refine rs_iload_n d_s_requireKey_0 rfl rfl ?_
  by_cases h0 : x < 0
  · refine rs_if_lt (tgt := 10) d_s_requireKey_1 rfl (by decide) (fun _ => ?_) (fun hc => absurd (h0) hc)
    exact rs_throw (k := 0) (tx := "a key is 0 .. 99") d_s_requireKey_10 d_s_requireKey_13 d_s_requireKey_14 d_s_requireKey_16 d_s_requireKey_19 (by decide) n_s_102 t_ins0 t_ini0 x_s_106 (by decide) rfl (Nat.le_of_ble_eq_true rfl) (by decide) (by decide) (by decide) (by decide) ⟨rfl, rfl, rfl⟩
  · refine rs_if_lt (tgt := 10) d_s_requireKey_1 rfl (by decide) (fun hc => absurd hc (h0)) (fun _ => ?_)
    refine rs_iload_n d_s_requireKey_4 rfl rfl ?_
    refine rs_bipush (v := 100) d_s_requireKey_5 rfl (by decide) ?_
    refine rs_icmp_lt (tgt := 20) d_s_requireKey_7 rfl (by decide) (fun hc => absurd hc (hx.resolve_left h0)) (fun _ => ?_)
    exact rs_throw (k := 0) (tx := "a key is 0 .. 99") d_s_requireKey_10 d_s_requireKey_13 d_s_requireKey_14 d_s_requireKey_16 d_s_requireKey_19 (by decide) n_s_102 t_ins0 t_ini0 x_s_106 (by decide) rfl (Nat.le_of_ble_eq_true rfl) (by decide) (by decide) (by decide) (by decide) ⟨rfl, rfl, rfl⟩
set_option maxRecDepth 100000 in
theorem k_isLevel_yes {G : rsG} {n : Nat} {h : rsH} {lv : Nat} (hl : lv < 3) : rsK G M_s_isLevel (rmO 0 0) [.int (nI lv)] h n (rsOk (some (.int 1)) h n) := by
  refine rsK_of pf_s_isLevel rfl (Nat.le_of_ble_eq_true rfl) rfl ?_
  refine rs_iload_n d_s_isLevel_0 rfl rfl ?_
  refine rs_if_lt (tgt := 13) d_s_isLevel_1 rfl (by decide) (fun hc => absurd hc (nI_pos (by omega))) (fun _ => ?_)
  refine rs_iload_n d_s_isLevel_4 rfl rfl ?_
  refine rs_iconst (v := (nI 3)) d_s_isLevel_5 rfl (by decide) ?_
  refine rs_icmp_ge (tgt := 13) d_s_isLevel_6 rfl (by decide) (fun hc => absurd hc (nI_ge hl (by omega))) (fun _ => ?_)
  refine rs_iconst (v := 1) d_s_isLevel_9 rfl (by decide) ?_
  refine rs_goto (tgt := 14) d_s_isLevel_10 (by decide) ?_
  exact rs_zreturn d_s_isLevel_14 rfl rfl ⟨rfl, rfl, rfl⟩
set_option maxRecDepth 100000 in
theorem k_isLevel_no {G : rsG} {n : Nat} {h : rsH} {x : Int32} (hx : x < 0 ∨ 3 ≤ x) : rsK G M_s_isLevel (rmO 0 0) [.int x] h n (rsOk (some (.int 0)) h n) := by
  refine rsK_of pf_s_isLevel rfl (Nat.le_of_ble_eq_true rfl) rfl ?_
  refine rs_iload_n d_s_isLevel_0 rfl rfl ?_
  by_cases h0 : x < 0
  · refine rs_if_lt (tgt := 13) d_s_isLevel_1 rfl (by decide) (fun _ => ?_) (fun hc => absurd (h0) hc)
    refine rs_iconst (v := 0) d_s_isLevel_13 rfl (by decide) ?_
    exact rs_zreturn d_s_isLevel_14 rfl rfl ⟨rfl, rfl, rfl⟩
  · refine rs_if_lt (tgt := 13) d_s_isLevel_1 rfl (by decide) (fun hc => absurd hc (h0)) (fun _ => ?_)
    refine rs_iload_n d_s_isLevel_4 rfl rfl ?_
    refine rs_iconst (v := 3) d_s_isLevel_5 rfl (by decide) ?_
    refine rs_icmp_ge (tgt := 13) d_s_isLevel_6 rfl (by decide) (fun _ => ?_) (fun hc => absurd (hx.resolve_left h0) hc)
    refine rs_iconst (v := 0) d_s_isLevel_13 rfl (by decide) ?_
    exact rs_zreturn d_s_isLevel_14 rfl rfl ⟨rfl, rfl, rfl⟩
set_option maxRecDepth 100000 in
theorem k_reqLevel_ok {G : rsG} {n : Nat} {h : rsH} {lv : Nat} (hl : lv < 3) : rsK G M_s_requireLevel (rmO 6 90) [.int (nI lv)] h n (rsOk (none) h n) := by
  refine rsK_of pf_s_requireLevel rfl (Nat.le_of_ble_eq_true rfl) rfl ?_
  refine rs_iload_n d_s_requireLevel_0 rfl rfl ?_
  refine rx_cS d_s_requireLevel_1 rfl c_s_115 (by exact np_s_isLevel) (k_isLevel_yes hl) (by decide) ⟨rfl, rfl⟩ (Nat.le_of_ble_eq_true rfl) rfl ?_
  refine rs_if_ne (tgt := 17) d_s_requireLevel_4 rfl (by decide) (fun _ => ?_) (fun hc => absurd hc (by decide))
  exact rs_vreturn d_s_requireLevel_17 rfl ⟨rfl, rfl, rfl⟩
set_option maxRecDepth 100000 in
theorem k_reqLevel_no {G : rsG} {n : Nat} {h : rsH} {x : Int32} (hx : x < 0 ∨ 3 ≤ x) : rsK G M_s_requireLevel (rmT 6 90) [.int x] h n (rsTh 0 h (n + 1)) := by
  refine rsK_of pf_s_requireLevel rfl (Nat.le_of_ble_eq_true rfl) rfl ?_
  refine rs_iload_n d_s_requireLevel_0 rfl rfl ?_
  refine rx_cS d_s_requireLevel_1 rfl c_s_115 (by exact np_s_isLevel) (k_isLevel_no hx) (by decide) ⟨rfl, rfl⟩ (Nat.le_of_ble_eq_true rfl) rfl ?_
  refine rs_if_ne (tgt := 17) d_s_requireLevel_4 rfl (by decide) (fun hc => absurd (rfl) hc) (fun _ => ?_)
  exact rs_throw (k := 0) (tx := "a level is 0 .. 2") d_s_requireLevel_7 d_s_requireLevel_10 d_s_requireLevel_11 d_s_requireLevel_13 d_s_requireLevel_16 (by decide) n_s_102 t_ins0 t_ini0 x_s_106 (by decide) rfl (Nat.le_of_ble_eq_true rfl) (by decide) (by decide) (by decide) (by decide) ⟨rfl, rfl, rfl⟩
set_option maxRecDepth 100000 in
theorem k_least_none {G : rsG} {n : Nat} {K V : Nat → Nat → Int32} {c P r : Nat → Nat} {md up wl cu : Int32} {hf : rsH} (h0 : ∀ i, i < 3 → r i ≤ 3) : rsK G M_s_leastLevelToCompact (rmO 1 21) [.ref (rsB G)] (rwd G K V c P r md up wl cu hf) n (rsOk (some (.int (-1))) (rwd G K V c P r md up wl cu hf) n) := by
  have loop : ∀ (d i : Nat), i + d = 3 → rsV G M_s_leastLevelToCompact (rmO 1 21) (rsOk (some (.int (-1))) (rwd G K V c P r md up wl cu hf) n) 0 0 2 [some (.ref (rsB G)), some (.int (nI i))] [] (rwd G K V c P r md up wl cu hf) n := by
    intro d
    induction d with
    | zero =>
      intro i hi
      obtain rfl : i = 3 := by omega
      refine rs_iload_n d_s_leastLevelToCompact_2 rfl rfl ?_
      refine rs_iconst (v := (nI 3)) d_s_leastLevelToCompact_3 rfl (by decide) ?_
      refine rs_icmp_ge (tgt := 27) d_s_leastLevelToCompact_4 rfl (by decide) (fun _ => ?_) (fun hc => absurd (nI_le (by omega) (by omega)) hc)
      refine rs_iconst (v := (-1)) d_s_leastLevelToCompact_27 rfl (by decide) ?_
      exact rs_ireturn d_s_leastLevelToCompact_28 rfl ⟨rfl, rfl, rfl⟩
    | succ d ih =>
      intro i hi
      have hi3 : i < 3 := by omega
      refine rs_iload_n d_s_leastLevelToCompact_2 rfl rfl ?_
      refine rs_iconst (v := (nI 3)) d_s_leastLevelToCompact_3 rfl (by decide) ?_
      refine rs_icmp_ge (tgt := 27) d_s_leastLevelToCompact_4 rfl (by decide) (fun hc => absurd hc (nI_ge (by omega) (by omega))) (fun _ => ?_)
      refine rs_aload_n d_s_leastLevelToCompact_7 rfl rfl ?_
      refine rx_get_di d_s_leastLevelToCompact_8 rfl f_s_19 ?_
      refine rs_iload_n d_s_leastLevelToCompact_11 rfl rfl ?_
      refine rx_cV d_s_leastLevelToCompact_12 rfl c_s_112 (by exact np_d_countRunsOf) rw_d (k_countRunsOf hi3) (by decide) ⟨rfl, rfl⟩ (Nat.le_of_ble_eq_true rfl) rfl ?_
      refine rs_iconst (v := (nI 3)) d_s_leastLevelToCompact_15 rfl (by decide) ?_
      refine rs_icmp_le (tgt := 21) d_s_leastLevelToCompact_16 rfl (by decide) (fun _ => ?_) (fun hc => absurd (nI_le (by have := h0 i (by omega); omega) (by omega)) hc)
      refine rs_iinc d_s_leastLevelToCompact_21 rfl (by decide) rfl (rs_inc1 i) rfl ?_
      refine rs_goto (tgt := 2) d_s_leastLevelToCompact_24 (by decide) ?_
      exact ih (i + 1) (by omega)
  refine rsK_of pf_s_leastLevelToCompact rfl (Nat.le_of_ble_eq_true rfl) rfl ?_
  refine rs_iconst (v := (nI 0)) d_s_leastLevelToCompact_0 rfl (by decide) ?_
  refine rs_istore_n d_s_leastLevelToCompact_1 rfl (by decide) rfl ?_
  exact loop 3 0 (by omega)
set_option maxRecDepth 100000 in
theorem k_least_some {G : rsG} {n : Nat} {K V : Nat → Nat → Int32} {c P r : Nat → Nat} {md up wl cu : Int32} {hf : rsH} {x : Nat} (hx : x < 3) (h0 : ∀ i, i < x → r i ≤ 3) (h1 : 3 < r x) (h2 : r x ≤ 12) : rsK G M_s_leastLevelToCompact (rmO 1 21) [.ref (rsB G)] (rwd G K V c P r md up wl cu hf) n (rsOk (some (.int (nI x))) (rwd G K V c P r md up wl cu hf) n) := by
  have loop : ∀ (d i : Nat), i + d = x → rsV G M_s_leastLevelToCompact (rmO 1 21) (rsOk (some (.int (nI x))) (rwd G K V c P r md up wl cu hf) n) 0 0 2 [some (.ref (rsB G)), some (.int (nI i))] [] (rwd G K V c P r md up wl cu hf) n := by
    intro d
    induction d with
    | zero =>
      intro i hi
      obtain rfl : i = x := by omega
      have hi3 : i < 3 := by omega
      refine rs_iload_n d_s_leastLevelToCompact_2 rfl rfl ?_
      refine rs_iconst (v := (nI 3)) d_s_leastLevelToCompact_3 rfl (by decide) ?_
      refine rs_icmp_ge (tgt := 27) d_s_leastLevelToCompact_4 rfl (by decide) (fun hc => absurd hc (nI_ge (by omega) (by omega))) (fun _ => ?_)
      refine rs_aload_n d_s_leastLevelToCompact_7 rfl rfl ?_
      refine rx_get_di d_s_leastLevelToCompact_8 rfl f_s_19 ?_
      refine rs_iload_n d_s_leastLevelToCompact_11 rfl rfl ?_
      refine rx_cV d_s_leastLevelToCompact_12 rfl c_s_112 (by exact np_d_countRunsOf) rw_d (k_countRunsOf hi3) (by decide) ⟨rfl, rfl⟩ (Nat.le_of_ble_eq_true rfl) rfl ?_
      refine rs_iconst (v := (nI 3)) d_s_leastLevelToCompact_15 rfl (by decide) ?_
      refine rs_icmp_le (tgt := 21) d_s_leastLevelToCompact_16 rfl (by decide) (fun hc => absurd hc (nI_ge h1 (by omega))) (fun _ => ?_)
      refine rs_iload_n d_s_leastLevelToCompact_19 rfl rfl ?_
      exact rs_ireturn d_s_leastLevelToCompact_20 rfl ⟨rfl, rfl, rfl⟩
    | succ d ih =>
      intro i hi
      have hi3 : i < 3 := by omega
      refine rs_iload_n d_s_leastLevelToCompact_2 rfl rfl ?_
      refine rs_iconst (v := (nI 3)) d_s_leastLevelToCompact_3 rfl (by decide) ?_
      refine rs_icmp_ge (tgt := 27) d_s_leastLevelToCompact_4 rfl (by decide) (fun hc => absurd hc (nI_ge (by omega) (by omega))) (fun _ => ?_)
      refine rs_aload_n d_s_leastLevelToCompact_7 rfl rfl ?_
      refine rx_get_di d_s_leastLevelToCompact_8 rfl f_s_19 ?_
      refine rs_iload_n d_s_leastLevelToCompact_11 rfl rfl ?_
      refine rx_cV d_s_leastLevelToCompact_12 rfl c_s_112 (by exact np_d_countRunsOf) rw_d (k_countRunsOf hi3) (by decide) ⟨rfl, rfl⟩ (Nat.le_of_ble_eq_true rfl) rfl ?_
      refine rs_iconst (v := (nI 3)) d_s_leastLevelToCompact_15 rfl (by decide) ?_
      refine rs_icmp_le (tgt := 21) d_s_leastLevelToCompact_16 rfl (by decide) (fun _ => ?_) (fun hc => absurd (nI_le (by have := h0 i (by omega); omega) (by omega)) hc)
      refine rs_iinc d_s_leastLevelToCompact_21 rfl (by decide) rfl (rs_inc1 i) rfl ?_
      refine rs_goto (tgt := 2) d_s_leastLevelToCompact_24 (by decide) ?_
      exact ih (i + 1) (by omega)
  refine rsK_of pf_s_leastLevelToCompact rfl (Nat.le_of_ble_eq_true rfl) rfl ?_
  refine rs_iconst (v := (nI 0)) d_s_leastLevelToCompact_0 rfl (by decide) ?_
  refine rs_istore_n d_s_leastLevelToCompact_1 rfl (by decide) rfl ?_
  exact loop x 0 (by omega)
theorem rp_th01 (K : Nat → Nat → Int32) (P : Nat → Nat) (m key : Nat) : rp_th K P m key = 0 ∨ rp_th K P m key = 1 := by
  unfold rp_th
  split
  · split
    · exact Or.inr rfl
    · exact Or.inl rfl
  · exact Or.inl rfl
set_option maxRecDepth 100000 in
theorem k_leastKey_none {G : rsG} {n : Nat} {K V : Nat → Nat → Int32} {c P r : Nat → Nat} {md up wl cu : Int32} {hf : rsH} (hs : rp_sum r 3 ≤ 12) (hP : ∀ i, i < 13 → P i ≤ 12) {fr : Nat} (hfr : fr ≤ 100) (h0 : ∀ i, fr ≤ i → i < 100 → rp_th K P (rp_sum r 3) i = 0) : rsK G M_s_leastKeyThere (rmO 5 109) [.ref (rsB G), .int (nI fr)] (rwd G K V c P r md up wl cu hf) n (rsOk (some (.int (-1))) (rwd G K V c P r md up wl cu hf) n) := by
  have loop : ∀ (d i : Nat), i + d = 100 → fr ≤ i → rsV G M_s_leastKeyThere (rmO 5 109) (rsOk (some (.int (-1))) (rwd G K V c P r md up wl cu hf) n) 0 0 2 [some (.ref (rsB G)), some (.int (nI fr)), some (.int (nI i))] [] (rwd G K V c P r md up wl cu hf) n := by
    intro d
    induction d with
    | zero =>
      intro i hi hfi
      obtain rfl : i = 100 := by omega
      refine rs_iload_n d_s_leastKeyThere_2 rfl rfl ?_
      refine rs_bipush (v := (nI 100)) d_s_leastKeyThere_3 rfl (by decide) ?_
      refine rs_icmp_ge (tgt := 24) d_s_leastKeyThere_5 rfl (by decide) (fun _ => ?_) (fun hc => absurd (nI_le (by omega) (by omega)) hc)
      refine rs_iconst (v := (-1)) d_s_leastKeyThere_24 rfl (by decide) ?_
      exact rs_ireturn d_s_leastKeyThere_25 rfl ⟨rfl, rfl, rfl⟩
    | succ d ih =>
      intro i hi hfi
      have hi100 : i < 100 := by omega
      refine rs_iload_n d_s_leastKeyThere_2 rfl rfl ?_
      refine rs_bipush (v := (nI 100)) d_s_leastKeyThere_3 rfl (by decide) ?_
      refine rs_icmp_ge (tgt := 24) d_s_leastKeyThere_5 rfl (by decide) (fun hc => absurd hc (nI_ge (by omega) (by omega))) (fun _ => ?_)
      refine rs_aload_n d_s_leastKeyThere_8 rfl rfl ?_
      refine rs_iload_n d_s_leastKeyThere_9 rfl rfl ?_
      refine rx_cV d_s_leastKeyThere_10 rfl c_s_74 (by exact np_s_isThere) rw_x (k_isThere hs hP hi100) (by decide) ⟨rfl, rfl⟩ (Nat.le_of_ble_eq_true rfl) rfl ?_
      rw [h0 i (by omega) (by omega)]
      refine rs_if_eq (tgt := 18) d_s_leastKeyThere_13 rfl (by decide) (fun _ => ?_) (fun hc => absurd (rfl) hc)
      refine rs_iinc d_s_leastKeyThere_18 rfl (by decide) rfl (rs_inc1 i) rfl ?_
      refine rs_goto (tgt := 2) d_s_leastKeyThere_21 (by decide) ?_
      exact ih (i + 1) (by omega) (by omega)
  refine rsK_of pf_s_leastKeyThere rfl (Nat.le_of_ble_eq_true rfl) rfl ?_
  refine rs_iload_n d_s_leastKeyThere_0 rfl rfl ?_
  refine rs_istore_n d_s_leastKeyThere_1 rfl (by decide) rfl ?_
  exact loop (100 - fr) fr (by omega) (by omega)
set_option maxRecDepth 100000 in
theorem k_leastKey_some {G : rsG} {n : Nat} {K V : Nat → Nat → Int32} {c P r : Nat → Nat} {md up wl cu : Int32} {hf : rsH} (hs : rp_sum r 3 ≤ 12) (hP : ∀ i, i < 13 → P i ≤ 12) {fr x : Nat} (hfr : fr ≤ x) (hx : x < 100) (h0 : ∀ i, fr ≤ i → i < x → rp_th K P (rp_sum r 3) i = 0) (h1 : rp_th K P (rp_sum r 3) x = 1) : rsK G M_s_leastKeyThere (rmO 5 109) [.ref (rsB G), .int (nI fr)] (rwd G K V c P r md up wl cu hf) n (rsOk (some (.int (nI x))) (rwd G K V c P r md up wl cu hf) n) := by
  have loop : ∀ (d i : Nat), i + d = x → fr ≤ i → rsV G M_s_leastKeyThere (rmO 5 109) (rsOk (some (.int (nI x))) (rwd G K V c P r md up wl cu hf) n) 0 0 2 [some (.ref (rsB G)), some (.int (nI fr)), some (.int (nI i))] [] (rwd G K V c P r md up wl cu hf) n := by
    intro d
    induction d with
    | zero =>
      intro i hi hfi
      obtain rfl : i = x := by omega
      have hi100 : i < 100 := by omega
      refine rs_iload_n d_s_leastKeyThere_2 rfl rfl ?_
      refine rs_bipush (v := (nI 100)) d_s_leastKeyThere_3 rfl (by decide) ?_
      refine rs_icmp_ge (tgt := 24) d_s_leastKeyThere_5 rfl (by decide) (fun hc => absurd hc (nI_ge (by omega) (by omega))) (fun _ => ?_)
      refine rs_aload_n d_s_leastKeyThere_8 rfl rfl ?_
      refine rs_iload_n d_s_leastKeyThere_9 rfl rfl ?_
      refine rx_cV d_s_leastKeyThere_10 rfl c_s_74 (by exact np_s_isThere) rw_x (k_isThere hs hP hi100) (by decide) ⟨rfl, rfl⟩ (Nat.le_of_ble_eq_true rfl) rfl ?_
      rw [h1]
      refine rs_if_eq (tgt := 18) d_s_leastKeyThere_13 rfl (by decide) (fun hc => absurd hc (by decide)) (fun _ => ?_)
      refine rs_iload_n d_s_leastKeyThere_16 rfl rfl ?_
      exact rs_ireturn d_s_leastKeyThere_17 rfl ⟨rfl, rfl, rfl⟩
    | succ d ih =>
      intro i hi hfi
      have hi100 : i < 100 := by omega
      refine rs_iload_n d_s_leastKeyThere_2 rfl rfl ?_
      refine rs_bipush (v := (nI 100)) d_s_leastKeyThere_3 rfl (by decide) ?_
      refine rs_icmp_ge (tgt := 24) d_s_leastKeyThere_5 rfl (by decide) (fun hc => absurd hc (nI_ge (by omega) (by omega))) (fun _ => ?_)
      refine rs_aload_n d_s_leastKeyThere_8 rfl rfl ?_
      refine rs_iload_n d_s_leastKeyThere_9 rfl rfl ?_
      refine rx_cV d_s_leastKeyThere_10 rfl c_s_74 (by exact np_s_isThere) rw_x (k_isThere hs hP hi100) (by decide) ⟨rfl, rfl⟩ (Nat.le_of_ble_eq_true rfl) rfl ?_
      rw [h0 i (by omega) (by omega)]
      refine rs_if_eq (tgt := 18) d_s_leastKeyThere_13 rfl (by decide) (fun _ => ?_) (fun hc => absurd (rfl) hc)
      refine rs_iinc d_s_leastKeyThere_18 rfl (by decide) rfl (rs_inc1 i) rfl ?_
      refine rs_goto (tgt := 2) d_s_leastKeyThere_21 (by decide) ?_
      exact ih (i + 1) (by omega) (by omega)
  refine rsK_of pf_s_leastKeyThere rfl (Nat.le_of_ble_eq_true rfl) rfl ?_
  refine rs_iload_n d_s_leastKeyThere_0 rfl rfl ?_
  refine rs_istore_n d_s_leastKeyThere_1 rfl (by decide) rfl ?_
  exact loop (x - fr) fr (by omega) (by omega)
