/-! 21: the reference's private methods (written by gen_model.py) -/
def rm_p (f : Nat → Nat → Int32) (r : Nat) (g : Nat → Int32) (i : Nat) : Nat → Nat → Int32 := va_up f r (fun k => if k < i then g k else f r k)
theorem rm_p0 (f : Nat → Nat → Int32) (r : Nat) (g : Nat → Int32) : rm_p f r g 0 = f := by
  unfold rm_p
  rw [show (fun k => if k < 0 then g k else f r k) = f r from funext fun k => if_neg (Nat.not_lt_zero k), rp_up_id]
theorem rm_p_at (f : Nat → Nat → Int32) (r : Nat) (g : Nat → Int32) (i q : Nat) : rm_p f r g i q i = f q i := by
  unfold rm_p va_up
  by_cases h : q = r
  · rw [if_pos h, if_neg (Nat.lt_irrefl i), h]
  · rw [if_neg h]
theorem rm_p_ne (f : Nat → Nat → Int32) {r q : Nat} (g : Nat → Int32) (i : Nat) (h : q ≠ r) : rm_p f r g i q = f q := by
  unfold rm_p va_up
  rw [if_neg h]
theorem rm_pu {f : Nat → Nat → Int32} {r : Nat} {g : Nat → Int32} {i : Nat} {x : Int32} (hx : x = g i) : va_up (rm_p f r g i) r (upd (rm_p f r g i r) i x) = rm_p f r g (i + 1) := by
  subst hx
  funext q k
  unfold rm_p va_up upd
  by_cases h : q = r
  · rw [if_pos h, if_pos h]
    by_cases hk : k = i
    · rw [if_pos hk, if_pos (by omega), hk]
    · rw [if_neg hk, if_pos rfl]
      by_cases h2 : k < i
      · rw [if_pos h2, if_pos (by omega)]
      · rw [if_neg h2, if_neg (by omega)]
  · rw [if_neg h, if_neg h, if_neg h]
theorem rm_pk {f : Nat → Nat → Int32} {r : Nat} {g : Nat → Int32} {i : Nat} (hx : f r i = g i) : rm_p f r g i = rm_p f r g (i + 1) := by
  rw [← rm_pu (f := f) (r := r) (g := g) (i := i) hx]
  funext q k
  unfold va_up upd
  by_cases h : q = r
  · rw [if_pos h]
    by_cases hk : k = i
    · rw [if_pos hk, h, hk, rm_p_at]
    · rw [if_neg hk, h]
  · rw [if_neg h]
theorem rm_pe (f : Nat → Nat → Int32) (r : Nat) (g : Nat → Int32) (q k : Nat) (hk : k < 100) : rm_p f r g 100 q k = va_up f r g q k := by
  unfold rm_p va_up
  by_cases h : q = r
  · rw [if_pos h, if_pos h, if_pos hk]
  · rw [if_neg h, if_neg h]
theorem rp_cnt_t {p : Nat → Bool} {i : Nat} (h : p i = true) : rp_cnt p (i + 1) = rp_cnt p i + 1 := by
  show rp_cnt p i + _ = _
  rw [if_pos h]
theorem rp_cnt_f {p : Nat → Bool} {i : Nat} (h : ¬ p i = true) : rp_cnt p (i + 1) = rp_cnt p i + 0 := by
  show rp_cnt p i + _ = _
  rw [if_neg h]
theorem rp_cnt_bd (p : Nat → Bool) : ∀ i, rp_cnt p i ≤ i
  | 0 => Nat.le_refl 0
  | i + 1 => by
    have := rp_cnt_bd p i
    show rp_cnt p i + _ ≤ _
    split <;> omega
abbrev rm_sz (S : Nat → Nat → Int32) (r : Nat) : Nat := rp_cnt (fun k => decide (0 < S r k)) 100
theorem rm_sz_le (S : Nat → Nat → Int32) (r : Nat) : rm_sz S r ≤ 100 := rp_cnt_bd _ 100
abbrev rm_zr (f : Nat → Nat → Int32) (r : Nat) : Nat → Nat → Int32 := va_up f r (fun _ => 0)
abbrev rm_cp (f : Nat → Nat → Int32) (fr to : Nat) : Nat → Nat → Int32 := va_up f to (f fr)
def rm_free (S : Nat → Nat → Int32) (mn : Nat) : Nat := rp_sum (fun i => (rm_sz S i + 3) / 4) mn
/-- the newest row with a key: memory (12), or a run -/
def rm_nw (S : Nat → Nat → Int32) (mn key : Nat) : Option Nat := if 0 < S 12 key then some 12 else rp_find (fun i => decide (0 < S i key)) mn
def rm_nv : Option Nat → Int32
  | some j => nI j
  | none => -1
def rm_th (S : Nat → Nat → Int32) (mn key : Nat) : Int32 := match rm_nw S mn key with
  | some j => if S j key = 1 then 1 else 0
  | none => 0
theorem rm_th01 (S : Nat → Nat → Int32) (mn key : Nat) : rm_th S mn key = 0 ∨ rm_th S mn key = 1 := by
  unfold rm_th
  split
  · split
    · exact Or.inr rfl
    · exact Or.inl rfl
  · exact Or.inl rfl
theorem rm_th_nar (S : Nat → Nat → Int32) (mn key : Nat) : narrow .boolean (.int (rm_th S mn key)) = .int (rm_th S mn key) := by
  rcases rm_th01 S mn key with h | h <;> rw [h] <;> rfl
theorem rm_nw_le {S : Nat → Nat → Int32} {mn key j : Nat} (hm : mn ≤ 12) (h : rm_nw S mn key = some j) : j ≤ 12 := by
  unfold rm_nw at h
  by_cases h0 : 0 < S 12 key
  · rw [if_pos h0] at h; cases h; omega
  · rw [if_neg h0] at h
    have := (rp_find_some h).1
    omega
/-- rows from i + 1 up to m hold what stood one row before -/
def rm_D {α : Type} (m : Nat) (f : Nat → α) (i : Nat) : Nat → α := fun q => if i < q ∧ q ≤ m then f (q - 1) else f q
theorem rm_Dm {α : Type} (m : Nat) (f : Nat → α) : rm_D m f m = f := by
  funext q; unfold rm_D; rw [if_neg (by omega)]
theorem rm_Du {α : Type} {m : Nat} (f : Nat → α) {i : Nat} (hi : i < m) : va_up (rm_D m f (i + 1)) (i + 1) (rm_D m f (i + 1) i) = rm_D m f i := by
  funext q
  unfold va_up rm_D
  rw [if_neg (show ¬ (i + 1 < i ∧ i ≤ m) by omega)]
  by_cases hq : q = i + 1
  · rw [if_pos hq, if_pos (by omega), hq, Nat.add_sub_cancel]
  · rw [if_neg hq]
    by_cases h1 : i + 1 < q ∧ q ≤ m
    · rw [if_pos h1, if_pos (by omega)]
    · rw [if_neg h1, if_neg (by omega)]
def rm_E {α : Type} (f : Nat → α) (p i : Nat) : Nat → α := fun q => if p ≤ q ∧ q < i then f (q + 1) else f q
theorem rm_E0 {α : Type} (f : Nat → α) (p : Nat) : rm_E f p p = f := by
  funext q; unfold rm_E; rw [if_neg (by omega)]
theorem rm_Eu {α : Type} (f : Nat → α) {p i : Nat} (hi : p ≤ i) : va_up (rm_E f p i) i (rm_E f p i (i + 1)) = rm_E f p (i + 1) := by
  funext q
  unfold va_up rm_E
  rw [if_neg (show ¬ (p ≤ i + 1 ∧ i + 1 < i) by omega)]
  by_cases hq : q = i
  · rw [if_pos hq, if_pos (by omega), hq]
  · rw [if_neg hq]
    by_cases h1 : p ≤ q ∧ q < i
    · rw [if_pos h1, if_pos (by omega)]
    · rw [if_neg h1, if_neg (by omega)]
theorem i32_nle {x : Int32} (h : 0 < x) : ¬ x ≤ 0 := Int32.not_le.mpr h
theorem i32_le {x : Int32} (h : ¬ 0 < x) : x ≤ 0 := Int32.not_lt.mp h
set_option maxRecDepth 100000 in
theorem k_m_clearRow {G : rsG} {n : Nat} {S T : Nat → Nat → Int32} {lv : Nat → Nat} {th mm iu bd : Int32} {mn : Nat} {av : Int32} {hf : rsH} {r : Nat} (hr : r < 14) : rsK G M_m_clearRow (rmO 0 0) [.ref (rsB G + 46), .int (nI r)] (rmd G S T lv th mm iu bd mn av hf) n (rsOk (none) (rmd G (rm_zr S r) (rm_zr T r) lv th mm iu bd mn av hf) n) := by
  have loop : ∀ (d i : Nat), i + d = 100 → rsV G M_m_clearRow (rmO 0 0) (rsOk (none) (rmd G (rm_zr S r) (rm_zr T r) lv th mm iu bd mn av hf) n) 0 0 2 [some (.ref (rsB G + 46)), some (.int (nI r)), some (.int (nI i))] [] (rmd G (rm_p S r (fun _ => 0) i) (rm_p T r (fun _ => 0) i) lv th mm iu bd mn av hf) n := by
    intro d
    induction d with
    | zero =>
      intro i hi
      obtain rfl : i = 100 := by omega
      refine rs_iload_n d_m_clearRow_2 rfl rfl ?_
      refine rs_bipush (v := (nI 100)) d_m_clearRow_3 rfl (by decide) ?_
      refine rs_icmp_ge (tgt := 38) d_m_clearRow_5 rfl (by decide) (fun _ => ?_) (fun hc => absurd (nI_le (by omega) (by omega)) hc)
      rw [rmd_eq (rm_pe S r _) (rm_pe T r _)]
      exact rs_vreturn d_m_clearRow_38 rfl ⟨rfl, rfl, rfl⟩
    | succ d ih =>
      intro i hi
      have hi100 : i < 100 := by omega
      refine rs_iload_n d_m_clearRow_2 rfl rfl ?_
      refine rs_bipush (v := (nI 100)) d_m_clearRow_3 rfl (by decide) ?_
      refine rs_icmp_ge (tgt := 38) d_m_clearRow_5 rfl (by decide) (fun hc => absurd hc (nI_ge (by omega) (by omega))) (fun _ => ?_)
      refine rs_aload_n d_m_clearRow_8 rfl rfl ?_
      refine rx_get_so d_m_clearRow_9 rfl f_m_17 ?_
      refine rs_bipush (v := (nI 100)) d_m_clearRow_12 rfl (by decide) ?_
      refine rs_iload_n d_m_clearRow_14 rfl rfl ?_
      refine rs_imul d_m_clearRow_15 rfl ?_
      refine rs_iload_n d_m_clearRow_16 rfl rfl ?_
      refine rs_iadd d_m_clearRow_17 rfl ?_
      refine rs_pix (rm_ix r i) ?_
      refine rs_iconst (v := 0) d_m_clearRow_18 rfl (by decide) ?_
      refine ry_st_s (by first | assumption | omega) (by first | assumption | omega) d_m_clearRow_19 rfl ?_
      rw [rm_pu (g := (fun _ => 0)) (x := 0) rfl]
      refine rs_aload_n d_m_clearRow_20 rfl rfl ?_
      refine rx_get_vs d_m_clearRow_21 rfl f_m_20 ?_
      refine rs_bipush (v := (nI 100)) d_m_clearRow_24 rfl (by decide) ?_
      refine rs_iload_n d_m_clearRow_26 rfl rfl ?_
      refine rs_imul d_m_clearRow_27 rfl ?_
      refine rs_iload_n d_m_clearRow_28 rfl rfl ?_
      refine rs_iadd d_m_clearRow_29 rfl ?_
      refine rs_pix (rm_ix r i) ?_
      refine rs_iconst (v := 0) d_m_clearRow_30 rfl (by decide) ?_
      refine ry_st_v (by first | assumption | omega) (by first | assumption | omega) d_m_clearRow_31 rfl ?_
      rw [rm_pu (g := (fun _ => 0)) (x := 0) rfl]
      refine rs_iinc d_m_clearRow_32 rfl (by decide) rfl (rs_inc1 i) rfl ?_
      refine rs_goto (tgt := 2) d_m_clearRow_35 (by decide) ?_
      exact ih (i + 1) (by omega)
  refine rsK_of pf_m_clearRow rfl (Nat.le_of_ble_eq_true rfl) rfl ?_
  refine rs_iconst (v := (nI 0)) d_m_clearRow_0 rfl (by decide) ?_
  refine rs_istore_n d_m_clearRow_1 rfl (by decide) rfl ?_
  refine rsV_eq ?_ (loop 100 0 (by omega))
  rw [rm_p0, rm_p0]
set_option maxRecDepth 100000 in
theorem k_m_copyRow {G : rsG} {n : Nat} {S T : Nat → Nat → Int32} {lv : Nat → Nat} {th mm iu bd : Int32} {mn : Nat} {av : Int32} {hf : rsH} {fr to : Nat} (hr : fr < 14) (ht : to < 14) : rsK G M_m_copyRow (rmO 0 0) [.ref (rsB G + 46), .int (nI fr), .int (nI to)] (rmd G S T lv th mm iu bd mn av hf) n (rsOk (none) (rmd G (rm_cp S fr to) (rm_cp T fr to) lv th mm iu bd mn av hf) n) := by
  have loop : ∀ (d i : Nat), i + d = 100 → rsV G M_m_copyRow (rmO 0 0) (rsOk (none) (rmd G (rm_cp S fr to) (rm_cp T fr to) lv th mm iu bd mn av hf) n) 0 0 2 [some (.ref (rsB G + 46)), some (.int (nI fr)), some (.int (nI to)), some (.int (nI i))] [] (rmd G (rm_p S to (S fr) i) (rm_p T to (T fr) i) lv th mm iu bd mn av hf) n := by
    intro d
    induction d with
    | zero =>
      intro i hi
      obtain rfl : i = 100 := by omega
      refine rs_iload_n d_m_copyRow_2 rfl rfl ?_
      refine rs_bipush (v := (nI 100)) d_m_copyRow_3 rfl (by decide) ?_
      refine rs_icmp_ge (tgt := 58) d_m_copyRow_5 rfl (by decide) (fun _ => ?_) (fun hc => absurd (nI_le (by omega) (by omega)) hc)
      rw [rmd_eq (rm_pe S to _) (rm_pe T to _)]
      exact rs_vreturn d_m_copyRow_58 rfl ⟨rfl, rfl, rfl⟩
    | succ d ih =>
      intro i hi
      have hi100 : i < 100 := by omega
      refine rs_iload_n d_m_copyRow_2 rfl rfl ?_
      refine rs_bipush (v := (nI 100)) d_m_copyRow_3 rfl (by decide) ?_
      refine rs_icmp_ge (tgt := 58) d_m_copyRow_5 rfl (by decide) (fun hc => absurd hc (nI_ge (by omega) (by omega))) (fun _ => ?_)
      refine rs_aload_n d_m_copyRow_8 rfl rfl ?_
      refine rx_get_so d_m_copyRow_9 rfl f_m_17 ?_
      refine rs_bipush (v := (nI 100)) d_m_copyRow_12 rfl (by decide) ?_
      refine rs_iload_n d_m_copyRow_14 rfl rfl ?_
      refine rs_imul d_m_copyRow_15 rfl ?_
      refine rs_iload_n d_m_copyRow_16 rfl rfl ?_
      refine rs_iadd d_m_copyRow_17 rfl ?_
      refine rs_pix (rm_ix to i) ?_
      refine rs_aload_n d_m_copyRow_18 rfl rfl ?_
      refine rx_get_so d_m_copyRow_19 rfl f_m_17 ?_
      refine rs_bipush (v := (nI 100)) d_m_copyRow_22 rfl (by decide) ?_
      refine rs_iload_n d_m_copyRow_24 rfl rfl ?_
      refine rs_imul d_m_copyRow_25 rfl ?_
      refine rs_iload_n d_m_copyRow_26 rfl rfl ?_
      refine rs_iadd d_m_copyRow_27 rfl ?_
      refine rs_pix (rm_ix fr i) ?_
      refine ry_ld_s (by first | assumption | omega) (by first | assumption | omega) d_m_copyRow_28 rfl ?_
      refine ry_st_s (by first | assumption | omega) (by first | assumption | omega) d_m_copyRow_29 rfl ?_
      rw [rm_pu (rm_p_at S to (S fr) i fr)]
      refine rs_aload_n d_m_copyRow_30 rfl rfl ?_
      refine rx_get_vs d_m_copyRow_31 rfl f_m_20 ?_
      refine rs_bipush (v := (nI 100)) d_m_copyRow_34 rfl (by decide) ?_
      refine rs_iload_n d_m_copyRow_36 rfl rfl ?_
      refine rs_imul d_m_copyRow_37 rfl ?_
      refine rs_iload_n d_m_copyRow_38 rfl rfl ?_
      refine rs_iadd d_m_copyRow_39 rfl ?_
      refine rs_pix (rm_ix to i) ?_
      refine rs_aload_n d_m_copyRow_40 rfl rfl ?_
      refine rx_get_vs d_m_copyRow_41 rfl f_m_20 ?_
      refine rs_bipush (v := (nI 100)) d_m_copyRow_44 rfl (by decide) ?_
      refine rs_iload_n d_m_copyRow_46 rfl rfl ?_
      refine rs_imul d_m_copyRow_47 rfl ?_
      refine rs_iload_n d_m_copyRow_48 rfl rfl ?_
      refine rs_iadd d_m_copyRow_49 rfl ?_
      refine rs_pix (rm_ix fr i) ?_
      refine ry_ld_v (by first | assumption | omega) (by first | assumption | omega) d_m_copyRow_50 rfl ?_
      refine ry_st_v (by first | assumption | omega) (by first | assumption | omega) d_m_copyRow_51 rfl ?_
      rw [rm_pu (rm_p_at T to (T fr) i fr)]
      refine rs_iinc d_m_copyRow_52 rfl (by decide) rfl (rs_inc1 i) rfl ?_
      refine rs_goto (tgt := 2) d_m_copyRow_55 (by decide) ?_
      exact ih (i + 1) (by omega)
  refine rsK_of pf_m_copyRow rfl (Nat.le_of_ble_eq_true rfl) rfl ?_
  refine rs_iconst (v := (nI 0)) d_m_copyRow_0 rfl (by decide) ?_
  refine rs_istore_n d_m_copyRow_1 rfl (by decide) rfl ?_
  refine rsV_eq ?_ (loop 100 0 (by omega))
  rw [rm_p0, rm_p0]
set_option maxRecDepth 100000 in
theorem k_m_sizeOf {G : rsG} {n : Nat} {S T : Nat → Nat → Int32} {lv : Nat → Nat} {th mm iu bd : Int32} {mn : Nat} {av : Int32} {hf : rsH} {r : Nat} (hr : r < 14) : rsK G M_m_sizeOf (rmO 0 0) [.ref (rsB G + 46), .int (nI r)] (rmd G S T lv th mm iu bd mn av hf) n (rsOk (some (.int (nI (rm_sz S r)))) (rmd G S T lv th mm iu bd mn av hf) n) := by
  have loop : ∀ (d i : Nat), i + d = 100 → rsV G M_m_sizeOf (rmO 0 0) (rsOk (some (.int (nI (rm_sz S r)))) (rmd G S T lv th mm iu bd mn av hf) n) 0 0 4 [some (.ref (rsB G + 46)), some (.int (nI r)), some (.int (nI (rp_cnt (fun k => decide (0 < S r k)) i))), some (.int (nI i))] [] (rmd G S T lv th mm iu bd mn av hf) n := by
    intro d
    induction d with
    | zero =>
      intro i hi
      obtain rfl : i = 100 := by omega
      refine rs_iload_n d_m_sizeOf_4 rfl rfl ?_
      refine rs_bipush (v := (nI 100)) d_m_sizeOf_5 rfl (by decide) ?_
      refine rs_icmp_ge (tgt := 38) d_m_sizeOf_7 rfl (by decide) (fun _ => ?_) (fun hc => absurd (nI_le (by omega) (by omega)) hc)
      refine rs_iload_n d_m_sizeOf_38 rfl rfl ?_
      exact rs_ireturn d_m_sizeOf_39 rfl ⟨rfl, rfl, rfl⟩
    | succ d ih =>
      intro i hi
      have hi100 : i < 100 := by omega
      refine rs_iload_n d_m_sizeOf_4 rfl rfl ?_
      refine rs_bipush (v := (nI 100)) d_m_sizeOf_5 rfl (by decide) ?_
      refine rs_icmp_ge (tgt := 38) d_m_sizeOf_7 rfl (by decide) (fun hc => absurd hc (nI_ge (by omega) (by omega))) (fun _ => ?_)
      refine rs_iload_n d_m_sizeOf_10 rfl rfl ?_
      refine rs_aload_n d_m_sizeOf_11 rfl rfl ?_
      refine rx_get_so d_m_sizeOf_12 rfl f_m_17 ?_
      refine rs_bipush (v := (nI 100)) d_m_sizeOf_15 rfl (by decide) ?_
      refine rs_iload_n d_m_sizeOf_17 rfl rfl ?_
      refine rs_imul d_m_sizeOf_18 rfl ?_
      refine rs_iload_n d_m_sizeOf_19 rfl rfl ?_
      refine rs_iadd d_m_sizeOf_20 rfl ?_
      refine rs_pix (rm_ix r i) ?_
      refine ry_ld_s (by first | assumption | omega) (by first | assumption | omega) d_m_sizeOf_21 rfl ?_
      by_cases hp : 0 < S r i
      · refine rs_if_le (tgt := 29) d_m_sizeOf_22 rfl (by decide) (fun hc => absurd hc (i32_nle hp)) (fun _ => ?_)
        refine rs_iconst (v := (nI 1)) d_m_sizeOf_25 rfl (by decide) ?_
        refine rs_goto (tgt := 30) d_m_sizeOf_26 (by decide) ?_
        refine rs_iadd d_m_sizeOf_30 rfl ?_
        refine rs_tope (nI_add _ _) ?_
        refine rs_istore_n d_m_sizeOf_31 rfl (by decide) rfl ?_
        refine rs_iinc d_m_sizeOf_32 rfl (by decide) rfl (rs_inc1 i) rfl ?_
        refine rs_goto (tgt := 4) d_m_sizeOf_35 (by decide) ?_
        have := ih (i + 1) (by omega)
        rw [rp_cnt_t (by simpa using hp)] at this
        exact this
      · refine rs_if_le (tgt := 29) d_m_sizeOf_22 rfl (by decide) (fun _ => ?_) (fun hc => absurd (i32_le hp) hc)
        refine rs_iconst (v := (nI 0)) d_m_sizeOf_29 rfl (by decide) ?_
        refine rs_iadd d_m_sizeOf_30 rfl ?_
        refine rs_tope (nI_add _ _) ?_
        refine rs_istore_n d_m_sizeOf_31 rfl (by decide) rfl ?_
        refine rs_iinc d_m_sizeOf_32 rfl (by decide) rfl (rs_inc1 i) rfl ?_
        refine rs_goto (tgt := 4) d_m_sizeOf_35 (by decide) ?_
        have := ih (i + 1) (by omega)
        rw [rp_cnt_f (by simpa using hp)] at this
        exact this
  refine rsK_of pf_m_sizeOf rfl (Nat.le_of_ble_eq_true rfl) rfl ?_
  refine rs_iconst (v := (nI 0)) d_m_sizeOf_0 rfl (by decide) ?_
  refine rs_istore_n d_m_sizeOf_1 rfl (by decide) rfl ?_
  refine rs_iconst (v := (nI 0)) d_m_sizeOf_2 rfl (by decide) ?_
  refine rs_istore_n d_m_sizeOf_3 rfl (by decide) rfl ?_
  exact loop 100 0 (by omega)
set_option maxRecDepth 100000 in
theorem k_m_blocksFor {G : rsG} {n : Nat} {h : rsH} {x : Nat} (hx : x ≤ 100) : rsK G M_m_blocksFor (rmO 0 0) [.int (nI x)] h n (rsOk (some (.int (nI ((x + 3) / 4)))) h n) := by
  refine rsK_of pf_m_blocksFor rfl (Nat.le_of_ble_eq_true rfl) rfl ?_
  refine rs_iload_n d_m_blocksFor_0 rfl rfl ?_
  refine rs_iconst (v := (nI 3)) d_m_blocksFor_1 rfl (by decide) ?_
  refine rs_iadd d_m_blocksFor_2 rfl ?_
  refine rs_iconst (v := (nI 4)) d_m_blocksFor_3 rfl (by decide) ?_
  refine rs_idiv d_m_blocksFor_4 rfl (by decide) ?_
  exact rs_ireturn d_m_blocksFor_5 rfl ⟨by rw [nI_add, pk_div (by omega) (by omega) (by omega)], rfl, rfl⟩
set_option maxRecDepth 100000 in
theorem k_m_freeBlocks {G : rsG} {n : Nat} {S T : Nat → Nat → Int32} {lv : Nat → Nat} {th mm iu bd : Int32} {mn : Nat} {av : Int32} {hf : rsH} (hm : mn ≤ 12) : rsK G M_m_freeBlocks (rmO 1 23) [.ref (rsB G + 46)] (rmd G S T lv th mm iu bd mn av hf) n (rsOk (some (.int (nI 40 - nI (rm_free S mn)))) (rmd G S T lv th mm iu bd mn av hf) n) := by
  have loop : ∀ (d i : Nat), i + d = mn → rsV G M_m_freeBlocks (rmO 1 23) (rsOk (some (.int (nI 40 - nI (rm_free S mn)))) (rmd G S T lv th mm iu bd mn av hf) n) 0 0 5 [some (.ref (rsB G + 46)), some (.int (nI 40 - nI (rm_free S i))), some (.int (nI i))] [] (rmd G S T lv th mm iu bd mn av hf) n := by
    intro d
    induction d with
    | zero =>
      intro i hi
      obtain rfl : i = mn := by omega
      refine rs_iload_n d_m_freeBlocks_5 rfl rfl ?_
      refine rs_aload_n d_m_freeBlocks_6 rfl rfl ?_
      refine rx_get_mn d_m_freeBlocks_7 rfl f_m_29 ?_
      refine rs_icmp_ge (tgt := 30) d_m_freeBlocks_10 rfl (by decide) (fun _ => ?_) (fun hc => absurd (nI_le (by omega) (by omega)) hc)
      refine rs_iload_n d_m_freeBlocks_30 rfl rfl ?_
      exact rs_ireturn d_m_freeBlocks_31 rfl ⟨rfl, rfl, rfl⟩
    | succ d ih =>
      intro i hi
      refine rs_iload_n d_m_freeBlocks_5 rfl rfl ?_
      refine rs_aload_n d_m_freeBlocks_6 rfl rfl ?_
      refine rx_get_mn d_m_freeBlocks_7 rfl f_m_29 ?_
      refine rs_icmp_ge (tgt := 30) d_m_freeBlocks_10 rfl (by decide) (fun hc => absurd hc (nI_ge (by omega) (by omega))) (fun _ => ?_)
      refine rs_iload_n d_m_freeBlocks_13 rfl rfl ?_
      refine rs_aload_n d_m_freeBlocks_14 rfl rfl ?_
      refine rs_iload_n d_m_freeBlocks_15 rfl rfl ?_
      refine rx_cV d_m_freeBlocks_16 rfl c_m_32 (by exact np_m_sizeOf) rm_o (k_m_sizeOf (by omega)) (by decide) ⟨rfl, rfl⟩ (Nat.le_of_ble_eq_true rfl) rfl ?_
      refine rx_cS d_m_freeBlocks_19 rfl c_m_36 (by exact np_m_blocksFor) (k_m_blocksFor (rm_sz_le S i)) (by decide) ⟨rfl, rfl⟩ (Nat.le_of_ble_eq_true rfl) rfl ?_
      refine rs_isub d_m_freeBlocks_22 rfl ?_
      refine rs_tope (rs_subsub _ _ _) ?_
      refine rs_istore_n d_m_freeBlocks_23 rfl (by decide) rfl ?_
      refine rs_iinc d_m_freeBlocks_24 rfl (by decide) rfl (rs_inc1 i) rfl ?_
      refine rs_goto (tgt := 5) d_m_freeBlocks_27 (by decide) ?_
      exact ih (i + 1) (by omega)
  refine rsK_of pf_m_freeBlocks rfl (Nat.le_of_ble_eq_true rfl) rfl ?_
  refine rs_bipush (v := nI 40 - nI (rm_free S 0)) d_m_freeBlocks_0 rfl (by show _ = nI 40 - nI 0; decide) ?_
  refine rs_istore_n d_m_freeBlocks_2 rfl (by decide) rfl ?_
  refine rs_iconst (v := (nI 0)) d_m_freeBlocks_3 rfl (by decide) ?_
  refine rs_istore_n d_m_freeBlocks_4 rfl (by decide) rfl ?_
  exact loop mn 0 (by omega)
set_option maxRecDepth 100000 in
theorem k_m_runsOf {G : rsG} {n : Nat} {S T : Nat → Nat → Int32} {lv : Nat → Nat} {th mm iu bd : Int32} {mn : Nat} {av : Int32} {hf : rsH} {x : Int32} (hm : mn ≤ 12) : rsK G M_m_runsOf (rmO 0 0) [.ref (rsB G + 46), .int x] (rmd G S T lv th mm iu bd mn av hf) n (rsOk (some (.int (nI (rp_cnt (fun i => decide (nI (lv i) = x)) mn)))) (rmd G S T lv th mm iu bd mn av hf) n) := by
  have loop : ∀ (d i : Nat), i + d = mn → rsV G M_m_runsOf (rmO 0 0) (rsOk (some (.int (nI (rp_cnt (fun i => decide (nI (lv i) = x)) mn)))) (rmd G S T lv th mm iu bd mn av hf) n) 0 0 4 [some (.ref (rsB G + 46)), some (.int x), some (.int (nI (rp_cnt (fun i => decide (nI (lv i) = x)) i))), some (.int (nI i))] [] (rmd G S T lv th mm iu bd mn av hf) n := by
    intro d
    induction d with
    | zero =>
      intro i hi
      obtain rfl : i = mn := by omega
      refine rs_iload_n d_m_runsOf_4 rfl rfl ?_
      refine rs_aload_n d_m_runsOf_5 rfl rfl ?_
      refine rx_get_mn d_m_runsOf_6 rfl f_m_29 ?_
      refine rs_icmp_ge (tgt := 36) d_m_runsOf_9 rfl (by decide) (fun _ => ?_) (fun hc => absurd (nI_le (by omega) (by omega)) hc)
      refine rs_iload_n d_m_runsOf_36 rfl rfl ?_
      exact rs_ireturn d_m_runsOf_37 rfl ⟨rfl, rfl, rfl⟩
    | succ d ih =>
      intro i hi
      refine rs_iload_n d_m_runsOf_4 rfl rfl ?_
      refine rs_aload_n d_m_runsOf_5 rfl rfl ?_
      refine rx_get_mn d_m_runsOf_6 rfl f_m_29 ?_
      refine rs_icmp_ge (tgt := 36) d_m_runsOf_9 rfl (by decide) (fun hc => absurd hc (nI_ge (by omega) (by omega))) (fun _ => ?_)
      refine rs_iload_n d_m_runsOf_12 rfl rfl ?_
      refine rs_aload_n d_m_runsOf_13 rfl rfl ?_
      refine rx_get_lv d_m_runsOf_14 rfl f_m_13 ?_
      refine rs_iload_n d_m_runsOf_17 rfl rfl ?_
      refine ry_ld_l (by first | assumption | omega) d_m_runsOf_18 rfl ?_
      refine rs_iload_n d_m_runsOf_19 rfl rfl ?_
      by_cases hp : nI (lv i) = x
      · refine rs_icmp_ne (tgt := 27) d_m_runsOf_20 rfl (by decide) (fun hc => absurd (hp) hc) (fun _ => ?_)
        refine rs_iconst (v := (nI 1)) d_m_runsOf_23 rfl (by decide) ?_
        refine rs_goto (tgt := 28) d_m_runsOf_24 (by decide) ?_
        refine rs_iadd d_m_runsOf_28 rfl ?_
        refine rs_tope (nI_add _ _) ?_
        refine rs_istore_n d_m_runsOf_29 rfl (by decide) rfl ?_
        refine rs_iinc d_m_runsOf_30 rfl (by decide) rfl (rs_inc1 i) rfl ?_
        refine rs_goto (tgt := 4) d_m_runsOf_33 (by decide) ?_
        have := ih (i + 1) (by omega)
        rw [rp_cnt_t (by simpa using hp)] at this
        exact this
      · refine rs_icmp_ne (tgt := 27) d_m_runsOf_20 rfl (by decide) (fun _ => ?_) (fun hc => absurd hc (hp))
        refine rs_iconst (v := (nI 0)) d_m_runsOf_27 rfl (by decide) ?_
        refine rs_iadd d_m_runsOf_28 rfl ?_
        refine rs_tope (nI_add _ _) ?_
        refine rs_istore_n d_m_runsOf_29 rfl (by decide) rfl ?_
        refine rs_iinc d_m_runsOf_30 rfl (by decide) rfl (rs_inc1 i) rfl ?_
        refine rs_goto (tgt := 4) d_m_runsOf_33 (by decide) ?_
        have := ih (i + 1) (by omega)
        rw [rp_cnt_f (by simpa using hp)] at this
        exact this
  refine rsK_of pf_m_runsOf rfl (Nat.le_of_ble_eq_true rfl) rfl ?_
  refine rs_iconst (v := (nI 0)) d_m_runsOf_0 rfl (by decide) ?_
  refine rs_istore_n d_m_runsOf_1 rfl (by decide) rfl ?_
  refine rs_iconst (v := (nI 0)) d_m_runsOf_2 rfl (by decide) ?_
  refine rs_istore_n d_m_runsOf_3 rfl (by decide) rfl ?_
  exact loop mn 0 (by omega)
set_option maxRecDepth 100000 in
theorem k_m_begin {G : rsG} {n : Nat} {S T : Nat → Nat → Int32} {lv : Nat → Nat} {th mm iu bd : Int32} {mn : Nat} {av : Int32} {hf : rsH} {x : Int32} {z : Nat} (hm : mn ≤ 12) (hz : z ≤ mn) (h0 : ∀ i, i < z → nI (lv i) < x) (h1 : z < mn → ¬ nI (lv z) < x) : rsK G M_m_begin (rmO 0 0) [.ref (rsB G + 46), .int x] (rmd G S T lv th mm iu bd mn av hf) n (rsOk (some (.int (nI z))) (rmd G S T lv th mm iu bd mn av hf) n) := by
  have loop : ∀ (d i : Nat), i + d = z → rsV G M_m_begin (rmO 0 0) (rsOk (some (.int (nI z))) (rmd G S T lv th mm iu bd mn av hf) n) 0 0 2 [some (.ref (rsB G + 46)), some (.int x), some (.int (nI i))] [] (rmd G S T lv th mm iu bd mn av hf) n := by
    intro d
    induction d with
    | zero =>
      intro i hi
      obtain rfl : i = z := by omega
      by_cases hzm : i < mn
      · refine ?_
        refine rs_iload_n d_m_begin_2 rfl rfl ?_
        refine rs_aload_n d_m_begin_3 rfl rfl ?_
        refine rx_get_mn d_m_begin_4 rfl f_m_29 ?_
        refine rs_icmp_ge (tgt := 26) d_m_begin_7 rfl (by decide) (fun hc => absurd hc (nI_ge hzm (by omega))) (fun _ => ?_)
        refine rs_aload_n d_m_begin_10 rfl rfl ?_
        refine rx_get_lv d_m_begin_11 rfl f_m_13 ?_
        refine rs_iload_n d_m_begin_14 rfl rfl ?_
        refine ry_ld_l (by first | assumption | omega) d_m_begin_15 rfl ?_
        refine rs_iload_n d_m_begin_16 rfl rfl ?_
        refine rs_icmp_ge (tgt := 26) d_m_begin_17 rfl (by decide) (fun _ => ?_) (fun hc => absurd (Int32.not_lt.mp (h1 hzm)) hc)
        refine rs_iload_n d_m_begin_26 rfl rfl ?_
        exact rs_ireturn d_m_begin_27 rfl ⟨rfl, rfl, rfl⟩
      · refine ?_
        refine rs_iload_n d_m_begin_2 rfl rfl ?_
        refine rs_aload_n d_m_begin_3 rfl rfl ?_
        refine rx_get_mn d_m_begin_4 rfl f_m_29 ?_
        refine rs_icmp_ge (tgt := 26) d_m_begin_7 rfl (by decide) (fun _ => ?_) (fun hc => absurd (nI_le (by omega) (by omega)) hc)
        refine rs_iload_n d_m_begin_26 rfl rfl ?_
        exact rs_ireturn d_m_begin_27 rfl ⟨rfl, rfl, rfl⟩
    | succ d ih =>
      intro i hi
      refine rs_iload_n d_m_begin_2 rfl rfl ?_
      refine rs_aload_n d_m_begin_3 rfl rfl ?_
      refine rx_get_mn d_m_begin_4 rfl f_m_29 ?_
      refine rs_icmp_ge (tgt := 26) d_m_begin_7 rfl (by decide) (fun hc => absurd hc (nI_ge (by omega) (by omega))) (fun _ => ?_)
      refine rs_aload_n d_m_begin_10 rfl rfl ?_
      refine rx_get_lv d_m_begin_11 rfl f_m_13 ?_
      refine rs_iload_n d_m_begin_14 rfl rfl ?_
      refine ry_ld_l (by first | assumption | omega) d_m_begin_15 rfl ?_
      refine rs_iload_n d_m_begin_16 rfl rfl ?_
      refine rs_icmp_ge (tgt := 26) d_m_begin_17 rfl (by decide) (fun hc => absurd hc (Int32.not_le.mpr (h0 i (by omega)))) (fun _ => ?_)
      refine rs_iinc d_m_begin_20 rfl (by decide) rfl (rs_inc1 i) rfl ?_
      refine rs_goto (tgt := 2) d_m_begin_23 (by decide) ?_
      exact ih (i + 1) (by omega)
  refine rsK_of pf_m_begin rfl (Nat.le_of_ble_eq_true rfl) rfl ?_
  refine rs_iconst (v := (nI 0)) d_m_begin_0 rfl (by decide) ?_
  refine rs_istore_n d_m_begin_1 rfl (by decide) rfl ?_
  exact loop z 0 (by omega)
set_option maxRecDepth 100000 in
theorem k_m_newest_mem {G : rsG} {n : Nat} {S T : Nat → Nat → Int32} {lv : Nat → Nat} {th mm iu bd : Int32} {mn : Nat} {av : Int32} {hf : rsH} {key : Nat} (hk : key < 100) (h1 : 0 < S 12 key) : rsK G M_m_newest (rmO 0 0) [.ref (rsB G + 46), .int (nI key)] (rmd G S T lv th mm iu bd mn av hf) n (rsOk (some (.int (nI 12))) (rmd G S T lv th mm iu bd mn av hf) n) := by
  refine rsK_of pf_m_newest rfl (Nat.le_of_ble_eq_true rfl) rfl ?_
  refine rs_aload_n d_m_newest_0 rfl rfl ?_
  refine rx_get_so d_m_newest_1 rfl f_m_17 ?_
  refine rs_sipush (v := (nI 1200)) d_m_newest_4 rfl (by decide) ?_
  refine rs_iload_n d_m_newest_7 rfl rfl ?_
  refine rs_iadd d_m_newest_8 rfl ?_
  refine rs_pix (rm_ix12 key) ?_
  refine ry_ld_s (by first | assumption | omega) (by first | assumption | omega) d_m_newest_9 rfl ?_
  refine rs_if_le (tgt := 16) d_m_newest_10 rfl (by decide) (fun hc => absurd hc (i32_nle h1)) (fun _ => ?_)
  refine rs_bipush (v := (nI 12)) d_m_newest_13 rfl (by decide) ?_
  exact rs_ireturn d_m_newest_15 rfl ⟨rfl, rfl, rfl⟩
set_option maxRecDepth 100000 in
theorem k_m_newest_none {G : rsG} {n : Nat} {S T : Nat → Nat → Int32} {lv : Nat → Nat} {th mm iu bd : Int32} {mn : Nat} {av : Int32} {hf : rsH} {key : Nat} (hk : key < 100) (hm : mn ≤ 12) (h1 : ¬ 0 < S 12 key) (h2 : ∀ i, i < mn → ¬ 0 < S i key) : rsK G M_m_newest (rmO 0 0) [.ref (rsB G + 46), .int (nI key)] (rmd G S T lv th mm iu bd mn av hf) n (rsOk (some (.int (-1))) (rmd G S T lv th mm iu bd mn av hf) n) := by
  have loop : ∀ (d i : Nat), i + d = mn → rsV G M_m_newest (rmO 0 0) (rsOk (some (.int (-1))) (rmd G S T lv th mm iu bd mn av hf) n) 0 0 18 [some (.ref (rsB G + 46)), some (.int (nI key)), some (.int (nI i))] [] (rmd G S T lv th mm iu bd mn av hf) n := by
    intro d
    induction d with
    | zero =>
      intro i hi
      obtain rfl : i = mn := by omega
      refine rs_iload_n d_m_newest_18 rfl rfl ?_
      refine rs_aload_n d_m_newest_19 rfl rfl ?_
      refine rx_get_mn d_m_newest_20 rfl f_m_29 ?_
      refine rs_icmp_ge (tgt := 48) d_m_newest_23 rfl (by decide) (fun _ => ?_) (fun hc => absurd (nI_le (by omega) (by omega)) hc)
      refine rs_iconst (v := (-1)) d_m_newest_48 rfl (by decide) ?_
      exact rs_ireturn d_m_newest_49 rfl ⟨rfl, rfl, rfl⟩
    | succ d ih =>
      intro i hi
      refine rs_iload_n d_m_newest_18 rfl rfl ?_
      refine rs_aload_n d_m_newest_19 rfl rfl ?_
      refine rx_get_mn d_m_newest_20 rfl f_m_29 ?_
      refine rs_icmp_ge (tgt := 48) d_m_newest_23 rfl (by decide) (fun hc => absurd hc (nI_ge (by omega) (by omega))) (fun _ => ?_)
      refine rs_aload_n d_m_newest_26 rfl rfl ?_
      refine rx_get_so d_m_newest_27 rfl f_m_17 ?_
      refine rs_bipush (v := (nI 100)) d_m_newest_30 rfl (by decide) ?_
      refine rs_iload_n d_m_newest_32 rfl rfl ?_
      refine rs_imul d_m_newest_33 rfl ?_
      refine rs_iload_n d_m_newest_34 rfl rfl ?_
      refine rs_iadd d_m_newest_35 rfl ?_
      refine rs_pix (rm_ix i key) ?_
      refine ry_ld_s (by first | assumption | omega) (by first | assumption | omega) d_m_newest_36 rfl ?_
      refine rs_if_le (tgt := 42) d_m_newest_37 rfl (by decide) (fun _ => ?_) (fun hc => absurd (i32_le (h2 i (by omega))) hc)
      refine rs_iinc d_m_newest_42 rfl (by decide) rfl (rs_inc1 i) rfl ?_
      refine rs_goto (tgt := 18) d_m_newest_45 (by decide) ?_
      exact ih (i + 1) (by omega)
  refine rsK_of pf_m_newest rfl (Nat.le_of_ble_eq_true rfl) rfl ?_
  refine rs_aload_n d_m_newest_0 rfl rfl ?_
  refine rx_get_so d_m_newest_1 rfl f_m_17 ?_
  refine rs_sipush (v := (nI 1200)) d_m_newest_4 rfl (by decide) ?_
  refine rs_iload_n d_m_newest_7 rfl rfl ?_
  refine rs_iadd d_m_newest_8 rfl ?_
  refine rs_pix (rm_ix12 key) ?_
  refine ry_ld_s (by first | assumption | omega) (by first | assumption | omega) d_m_newest_9 rfl ?_
  refine rs_if_le (tgt := 16) d_m_newest_10 rfl (by decide) (fun _ => ?_) (fun hc => absurd (i32_le h1) hc)
  refine rs_iconst (v := (nI 0)) d_m_newest_16 rfl (by decide) ?_
  refine rs_istore_n d_m_newest_17 rfl (by decide) rfl ?_
  exact loop mn 0 (by omega)
set_option maxRecDepth 100000 in
theorem k_m_newest_run {G : rsG} {n : Nat} {S T : Nat → Nat → Int32} {lv : Nat → Nat} {th mm iu bd : Int32} {mn : Nat} {av : Int32} {hf : rsH} {key z : Nat} (hk : key < 100) (hm : mn ≤ 12) (h1 : ¬ 0 < S 12 key) (hz : z < mn) (h2 : ∀ i, i < z → ¬ 0 < S i key) (h3 : 0 < S z key) : rsK G M_m_newest (rmO 0 0) [.ref (rsB G + 46), .int (nI key)] (rmd G S T lv th mm iu bd mn av hf) n (rsOk (some (.int (nI z))) (rmd G S T lv th mm iu bd mn av hf) n) := by
  have loop : ∀ (d i : Nat), i + d = z → rsV G M_m_newest (rmO 0 0) (rsOk (some (.int (nI z))) (rmd G S T lv th mm iu bd mn av hf) n) 0 0 18 [some (.ref (rsB G + 46)), some (.int (nI key)), some (.int (nI i))] [] (rmd G S T lv th mm iu bd mn av hf) n := by
    intro d
    induction d with
    | zero =>
      intro i hi
      obtain rfl : i = z := by omega
      refine rs_iload_n d_m_newest_18 rfl rfl ?_
      refine rs_aload_n d_m_newest_19 rfl rfl ?_
      refine rx_get_mn d_m_newest_20 rfl f_m_29 ?_
      refine rs_icmp_ge (tgt := 48) d_m_newest_23 rfl (by decide) (fun hc => absurd hc (nI_ge (by omega) (by omega))) (fun _ => ?_)
      refine rs_aload_n d_m_newest_26 rfl rfl ?_
      refine rx_get_so d_m_newest_27 rfl f_m_17 ?_
      refine rs_bipush (v := (nI 100)) d_m_newest_30 rfl (by decide) ?_
      refine rs_iload_n d_m_newest_32 rfl rfl ?_
      refine rs_imul d_m_newest_33 rfl ?_
      refine rs_iload_n d_m_newest_34 rfl rfl ?_
      refine rs_iadd d_m_newest_35 rfl ?_
      refine rs_pix (rm_ix i key) ?_
      refine ry_ld_s (by first | assumption | omega) (by first | assumption | omega) d_m_newest_36 rfl ?_
      refine rs_if_le (tgt := 42) d_m_newest_37 rfl (by decide) (fun hc => absurd hc (i32_nle h3)) (fun _ => ?_)
      refine rs_iload_n d_m_newest_40 rfl rfl ?_
      exact rs_ireturn d_m_newest_41 rfl ⟨rfl, rfl, rfl⟩
    | succ d ih =>
      intro i hi
      refine rs_iload_n d_m_newest_18 rfl rfl ?_
      refine rs_aload_n d_m_newest_19 rfl rfl ?_
      refine rx_get_mn d_m_newest_20 rfl f_m_29 ?_
      refine rs_icmp_ge (tgt := 48) d_m_newest_23 rfl (by decide) (fun hc => absurd hc (nI_ge (by omega) (by omega))) (fun _ => ?_)
      refine rs_aload_n d_m_newest_26 rfl rfl ?_
      refine rx_get_so d_m_newest_27 rfl f_m_17 ?_
      refine rs_bipush (v := (nI 100)) d_m_newest_30 rfl (by decide) ?_
      refine rs_iload_n d_m_newest_32 rfl rfl ?_
      refine rs_imul d_m_newest_33 rfl ?_
      refine rs_iload_n d_m_newest_34 rfl rfl ?_
      refine rs_iadd d_m_newest_35 rfl ?_
      refine rs_pix (rm_ix i key) ?_
      refine ry_ld_s (by first | assumption | omega) (by first | assumption | omega) d_m_newest_36 rfl ?_
      refine rs_if_le (tgt := 42) d_m_newest_37 rfl (by decide) (fun _ => ?_) (fun hc => absurd (i32_le (h2 i (by omega))) hc)
      refine rs_iinc d_m_newest_42 rfl (by decide) rfl (rs_inc1 i) rfl ?_
      refine rs_goto (tgt := 18) d_m_newest_45 (by decide) ?_
      exact ih (i + 1) (by omega)
  refine rsK_of pf_m_newest rfl (Nat.le_of_ble_eq_true rfl) rfl ?_
  refine rs_aload_n d_m_newest_0 rfl rfl ?_
  refine rx_get_so d_m_newest_1 rfl f_m_17 ?_
  refine rs_sipush (v := (nI 1200)) d_m_newest_4 rfl (by decide) ?_
  refine rs_iload_n d_m_newest_7 rfl rfl ?_
  refine rs_iadd d_m_newest_8 rfl ?_
  refine rs_pix (rm_ix12 key) ?_
  refine ry_ld_s (by first | assumption | omega) (by first | assumption | omega) d_m_newest_9 rfl ?_
  refine rs_if_le (tgt := 16) d_m_newest_10 rfl (by decide) (fun _ => ?_) (fun hc => absurd (i32_le h1) hc)
  refine rs_iconst (v := (nI 0)) d_m_newest_16 rfl (by decide) ?_
  refine rs_istore_n d_m_newest_17 rfl (by decide) rfl ?_
  exact loop z 0 (by omega)
theorem k_m_newest {G : rsG} {n : Nat} {S T : Nat → Nat → Int32} {lv : Nat → Nat} {th mm iu bd : Int32} {mn : Nat} {av : Int32} {hf : rsH} {key : Nat} (hk : key < 100) (hm : mn ≤ 12) : rsK G M_m_newest (rmO 0 0) [.ref (rsB G + 46), .int (nI key)] (rmd G S T lv th mm iu bd mn av hf) n (rsOk (some (.int (rm_nv (rm_nw S mn key)))) (rmd G S T lv th mm iu bd mn av hf) n) := by
  unfold rm_nw
  by_cases h1 : 0 < S 12 key
  · rw [if_pos h1]; exact k_m_newest_mem hk h1
  · rw [if_neg h1]
    cases hq : rp_find (fun i => decide (0 < S i key)) mn with
    | none => exact k_m_newest_none hk hm h1 (fun i hi => by have := rp_find_none hq i hi; simpa using this)
    | some z =>
      obtain ⟨g1, g2, g3⟩ := rp_find_some hq
      exact k_m_newest_run hk hm h1 g1 (fun i hi => by have := g3 i hi; simpa using this) (by simpa using g2)
set_option maxRecDepth 100000 in
theorem k_m_isThere {G : rsG} {n : Nat} {S T : Nat → Nat → Int32} {lv : Nat → Nat} {th mm iu bd : Int32} {mn : Nat} {av : Int32} {hf : rsH} {key : Nat} (hk : key < 100) (hm : mn ≤ 12) : rsK G M_m_isThere (rmO 1 22) [.ref (rsB G + 46), .int (nI key)] (rmd G S T lv th mm iu bd mn av hf) n (rsOk (some (.int (rm_th S mn key))) (rmd G S T lv th mm iu bd mn av hf) n) := by
  refine rsK_of pf_m_isThere rfl (Nat.le_of_ble_eq_true rfl) rfl ?_
  refine rs_aload_n d_m_isThere_0 rfl rfl ?_
  refine rs_iload_n d_m_isThere_1 rfl rfl ?_
  refine rx_cV d_m_isThere_2 rfl c_m_39 (by exact np_m_newest) rm_o (k_m_newest hk hm) (by decide) ⟨rfl, rfl⟩ (Nat.le_of_ble_eq_true rfl) rfl ?_
  refine rs_istore_n d_m_isThere_5 rfl (by decide) rfl ?_
  refine rs_iload_n d_m_isThere_6 rfl rfl ?_
  unfold rm_th
  cases hn : rm_nw S mn key with
  | none =>
    refine rs_if_lt (tgt := 29) d_m_isThere_7 rfl (by decide) (fun _ => ?_) (fun hc => absurd ((by decide : (-1 : Int32) < 0)) hc)
    refine rs_iconst (v := 0) d_m_isThere_29 rfl (by decide) ?_
    exact rs_zreturn d_m_isThere_30 rfl rfl ⟨rfl, rfl, rfl⟩
  | some j =>
    have hj := rm_nw_le hm hn
    refine rs_if_lt (tgt := 29) d_m_isThere_7 rfl (by decide) (fun hc => absurd hc (nI_pos (by omega))) (fun _ => ?_)
    refine rs_aload_n d_m_isThere_10 rfl rfl ?_
    refine rx_get_so d_m_isThere_11 rfl f_m_17 ?_
    refine rs_bipush (v := (nI 100)) d_m_isThere_14 rfl (by decide) ?_
    refine rs_iload_n d_m_isThere_16 rfl rfl ?_
    refine rs_imul d_m_isThere_17 rfl ?_
    refine rs_iload_n d_m_isThere_18 rfl rfl ?_
    refine rs_iadd d_m_isThere_19 rfl ?_
    refine rs_pix (rm_ix j key) ?_
    refine ry_ld_s (by first | assumption | omega) (by first | assumption | omega) d_m_isThere_20 rfl ?_
    refine rs_iconst (v := 1) d_m_isThere_21 rfl (by decide) ?_
    by_cases h1 : S j key = 1
    · refine rs_icmp_ne (tgt := 29) d_m_isThere_22 rfl (by decide) (fun hc => absurd (h1) hc) (fun _ => ?_)
      refine rs_iconst (v := 1) d_m_isThere_25 rfl (by decide) ?_
      refine rs_goto (tgt := 30) d_m_isThere_26 (by decide) ?_
      exact rs_zreturn d_m_isThere_30 rfl rfl ⟨by simp only [h1, if_true], rfl, rfl⟩
    · refine rs_icmp_ne (tgt := 29) d_m_isThere_22 rfl (by decide) (fun _ => ?_) (fun hc => absurd hc (h1))
      refine rs_iconst (v := 0) d_m_isThere_29 rfl (by decide) ?_
      exact rs_zreturn d_m_isThere_30 rfl rfl ⟨by simp only [h1, if_false], rfl, rfl⟩
set_option maxRecDepth 100000 in
theorem k_m_goDown {G : rsG} {n : Nat} {S T : Nat → Nat → Int32} {lv : Nat → Nat} {th mm iu bd : Int32} {mn : Nat} {av : Int32} {hf : rsH}  : rsK G M_m_goDown (rmO 1 22) [.ref (rsB G + 46)] (rmd G S T lv th mm iu bd mn av hf) n (rsOk (none) (rmd G (rm_zr S 12) (rm_zr T 12) lv th mm 0 (-1) mn (-1) hf) n) := by
  refine rsK_of pf_m_goDown rfl (Nat.le_of_ble_eq_true rfl) rfl ?_
  refine rs_aload_n d_m_goDown_0 rfl rfl ?_
  refine rs_iconst (v := 0) d_m_goDown_1 rfl (by decide) ?_
  refine rx_put_iu d_m_goDown_2 rfl p_m_42 rfl rfl ?_
  refine rs_aload_n d_m_goDown_5 rfl rfl ?_
  refine rs_iconst (v := (-1)) d_m_goDown_6 rfl (by decide) ?_
  refine rx_put_bd d_m_goDown_7 rfl p_m_9 ?_
  refine rs_aload_n d_m_goDown_10 rfl rfl ?_
  refine rs_iconst (v := (-1)) d_m_goDown_11 rfl (by decide) ?_
  refine rx_put_at d_m_goDown_12 rfl p_m_23 ?_
  refine rs_aload_n d_m_goDown_15 rfl rfl ?_
  refine rs_bipush (v := (nI 12)) d_m_goDown_16 rfl (by decide) ?_
  refine rx_cV d_m_goDown_18 rfl c_m_46 (by exact np_m_clearRow) rm_o (k_m_clearRow (by decide)) (by decide) ⟨rfl, rfl⟩ (Nat.le_of_ble_eq_true rfl) rfl ?_
  exact rs_vreturn d_m_goDown_21 rfl ⟨rfl, rfl, rfl⟩
set_option maxRecDepth 100000 in
theorem k_m_writes_ok {G : rsG} {n : Nat} {S T : Nat → Nat → Int32} {lv : Nat → Nat} {th mm iu bd : Int32} {mn : Nat} {av : Int32} {hf : rsH} {x bd' : Int32} (hbd : bd = -1 ∨ 0 ≤ bd) (h : rp_sp bd x = some bd') : rsK G M_m_writes (rmO 2 42) [.ref (rsB G + 46), .int x] (rmd G S T lv th mm iu bd mn av hf) n (rsOk (some (.int 1)) (rmd G S T lv th mm iu bd' mn av hf) n) := by
  refine rsK_of pf_m_writes rfl (Nat.le_of_ble_eq_true rfl) rfl ?_
  unfold rp_sp at h
  refine rs_aload_n d_m_writes_0 rfl rfl ?_
  refine rx_get_bd d_m_writes_1 rfl f_m_9 ?_
  by_cases h1 : bd = -1
  · subst h1
    rw [if_pos rfl] at h
    cases h
    refine rs_if_lt (tgt := 21) d_m_writes_4 rfl (by decide) (fun _ => ?_) (fun hc => absurd (by decide) hc)
    refine rs_aload_n d_m_writes_21 rfl rfl ?_
    refine rs_aload_n d_m_writes_22 rfl rfl ?_
    refine rx_get_bd d_m_writes_23 rfl f_m_9 ?_
    refine rs_if_ge (tgt := 36) d_m_writes_26 rfl (by decide) (fun hc => absurd hc (by decide)) (fun _ => ?_)
    refine rs_aload_n d_m_writes_29 rfl rfl ?_
    refine rx_get_bd d_m_writes_30 rfl f_m_9 ?_
    refine rs_goto (tgt := 42) d_m_writes_33 (by decide) ?_
    refine rx_put_bd d_m_writes_42 rfl p_m_9 ?_
    refine rs_iconst (v := 1) d_m_writes_45 rfl (by decide) ?_
    exact rs_zreturn d_m_writes_46 rfl rfl ⟨rfl, rfl, rfl⟩
  · rw [if_neg h1] at h
    by_cases h2 : x ≤ bd
    · rw [if_pos h2] at h
      cases h
      have h3 : 0 ≤ bd := hbd.resolve_left h1
      refine rs_if_lt (tgt := 21) d_m_writes_4 rfl (by decide) (fun hc => absurd hc (Int32.not_lt.mpr h3)) (fun _ => ?_)
      refine rs_aload_n d_m_writes_7 rfl rfl ?_
      refine rx_get_bd d_m_writes_8 rfl f_m_9 ?_
      refine rs_iload_n d_m_writes_11 rfl rfl ?_
      refine rs_icmp_ge (tgt := 21) d_m_writes_12 rfl (by decide) (fun _ => ?_) (fun hc => absurd (h2) hc)
      refine rs_aload_n d_m_writes_21 rfl rfl ?_
      refine rs_aload_n d_m_writes_22 rfl rfl ?_
      refine rx_get_bd d_m_writes_23 rfl f_m_9 ?_
      refine rs_if_ge (tgt := 36) d_m_writes_26 rfl (by decide) (fun _ => ?_) (fun hc => absurd (h3) hc)
      refine rs_aload_n d_m_writes_36 rfl rfl ?_
      refine rx_get_bd d_m_writes_37 rfl f_m_9 ?_
      refine rs_iload_n d_m_writes_40 rfl rfl ?_
      refine rs_isub d_m_writes_41 rfl ?_
      refine rx_put_bd d_m_writes_42 rfl p_m_9 ?_
      refine rs_iconst (v := 1) d_m_writes_45 rfl (by decide) ?_
      exact rs_zreturn d_m_writes_46 rfl rfl ⟨rfl, rfl, rfl⟩
    · rw [if_neg h2] at h
      cases h
set_option maxRecDepth 100000 in
theorem k_m_writes_no {G : rsG} {n : Nat} {S T : Nat → Nat → Int32} {lv : Nat → Nat} {th mm iu bd : Int32} {mn : Nat} {av : Int32} {hf : rsH} {x : Int32} (hbd : bd = -1 ∨ 0 ≤ bd) (h : rp_sp bd x = none) : rsK G M_m_writes (rmO 2 42) [.ref (rsB G + 46), .int x] (rmd G S T lv th mm iu bd mn av hf) n (rsOk (some (.int 0)) (rmd G (rm_zr S 12) (rm_zr T 12) lv th mm 0 (-1) mn (-1) hf) n) := by
  refine rsK_of pf_m_writes rfl (Nat.le_of_ble_eq_true rfl) rfl ?_
  unfold rp_sp at h
  refine rs_aload_n d_m_writes_0 rfl rfl ?_
  refine rx_get_bd d_m_writes_1 rfl f_m_9 ?_
  by_cases h1 : bd = -1
  · rw [if_pos h1] at h
    cases h
  · rw [if_neg h1] at h
    by_cases h2 : x ≤ bd
    · rw [if_pos h2] at h
      cases h
    · have h3 : 0 ≤ bd := hbd.resolve_left h1
      refine rs_if_lt (tgt := 21) d_m_writes_4 rfl (by decide) (fun hc => absurd hc (Int32.not_lt.mpr h3)) (fun _ => ?_)
      refine rs_aload_n d_m_writes_7 rfl rfl ?_
      refine rx_get_bd d_m_writes_8 rfl f_m_9 ?_
      refine rs_iload_n d_m_writes_11 rfl rfl ?_
      refine rs_icmp_ge (tgt := 21) d_m_writes_12 rfl (by decide) (fun hc => absurd hc (h2)) (fun _ => ?_)
      refine rs_aload_n d_m_writes_15 rfl rfl ?_
      refine rx_cV d_m_writes_16 rfl c_m_50 (by exact np_m_goDown) rm_o (k_m_goDown) (by decide) ⟨rfl, rfl⟩ (Nat.le_of_ble_eq_true rfl) rfl ?_
      refine rs_iconst (v := 0) d_m_writes_19 rfl (by decide) ?_
      exact rs_zreturn d_m_writes_20 rfl rfl ⟨rfl, rfl, rfl⟩
