/-! 13: loops: Arrays.fill, Entries.clear, addOlder, leaveOutMarks (written by gen_entries2.py) -/
theorem rs_inc1 (i : Nat) : nI i + Int32.ofInt 1 = nI (i + 1) := (nI_succ i).symm
theorem rs_up_self {h : rsH} {a : Nat} {e : va_E} (hh : h a = some e) : h = rs_up h a e := by
  funext b
  unfold rs_up
  by_cases hb : b = a
  · rw [if_pos hb, hb, hh]
  · rw [if_neg hb]
theorem rs_up_at {h : rsH} {a : Nat} {e : va_E} : rs_up h a e a = some e := by unfold rs_up; rw [if_pos rfl]
theorem rs_up_up {h : rsH} {a : Nat} {e e' : va_E} : rs_up (rs_up h a e) a e' = rs_up h a e' := by
  funext b
  unfold rs_up
  by_cases hb : b = a
  · rw [if_pos hb, if_pos hb]
  · rw [if_neg hb, if_neg hb, if_neg hb]
theorem rs_vcell {cA : ClassId} {len : Nat} {f g : Nat → Int32} (h : ∀ i, i < len → f i = g i) : vp_cell cA (len, .inl f) = vp_cell cA (len, .inl g) := by
  rw [vp_cell_i, vp_cell_i]
  unfold arrV
  congr 2
  funext j
  show Value.int (f j.val) = Value.int (g j.val)
  rw [h j.val j.isLt]
theorem rp_up_id {α : Type} (f : Nat → α) (j : Nat) : va_up f j (f j) = f := by
  funext q
  unfold va_up
  by_cases h : q = j
  · rw [if_pos h, h]
  · rw [if_neg h]
theorem rp_up_j {α : Type} (f : Nat → α) (j : Nat) (x : α) : va_up f j x j = x := by unfold va_up; rw [if_pos rfl]
theorem rp_up_ne {α : Type} (f : Nat → α) {i j : Nat} (x : α) (h : i ≠ j) : va_up f j x i = f i := by unfold va_up; rw [if_neg h]
theorem rp_up_up {α : Type} (f : Nat → α) (j : Nat) (x y : α) : va_up (va_up f j x) j y = va_up f j y := by
  funext q
  unfold va_up
  by_cases h : q = j
  · rw [if_pos h, if_pos h]
  · rw [if_neg h, if_neg h, if_neg h]
section RSAR
variable {G : rsG} {M : rsM} {rm : Room} {Q : rsR → rsH → Nat → Prop} {kc ks pc : Nat} {L : List (Option Value)} {st : List Value} {h h' : rsH} {n : Nat}
theorem rsV_eq (e : h = h') (k : rsV G M rm Q kc ks pc L st h' n) : rsV G M rm Q kc ks pc L st h n := e ▸ k
theorem rsV_arr {a len : Nat} {f g : Nat → Int32} (hfg : ∀ i, i < len → f i = g i) (k : rsV G M rm Q kc ks pc L st (rs_up h a (.inl (G.2.2.2.1, len, .inl g))) n) : rsV G M rm Q kc ks pc L st (rs_up h a (.inl (G.2.2.2.1, len, .inl f))) n := by
  intro hU p e s m args below meth c H locs cells slots ls Cx S hc hs hls
  refine k hU p e s m args below meth c H locs cells slots ls Cx ⟨fun b x hx => ?_, S.2.1, S.2.2.1, S.2.2.2.1, fun b x hx => ?_, S.2.2.2.2.2⟩ hc hs hls
  · by_cases hb : b = a
    · subst hb
      rw [rs_up_at] at hx
      cases hx
      have h1 := S.1 b _ rs_up_at
      have h2 : H[b]? = some (vp_cell G.2.2.2.1 (len, .inl f)) := h1
      show H[b]? = some (vp_cell G.2.2.2.1 (len, .inl g))
      rw [h2, rs_vcell hfg]
    · have h1 := S.1 b x
      unfold rs_up at h1 hx
      rw [if_neg hb] at h1 hx
      exact h1 hx
  · by_cases hb : b = a
    · subst hb
      exact S.2.2.2.2.1 b _ rs_up_at
    · have h1 := S.2.2.2.2.1 b x
      unfold rs_up at h1 hx
      rw [if_neg hb] at h1 hx
      exact h1 hx
end RSAR
set_option maxRecDepth 100000 in
theorem k_fill {G : rsG} {n : Nat} {h : rsH} {a len : Nat} {f : Nat → Int32} {v : Int32} (hh : h a = some (.inl (G.2.2.2.1, len, .inl f))) (hlen : len < 2 ^ 31) : rsK G M_a_fill (rmO 0 0) [.ref a, .int v] h n (rsOk none (rs_up h a (.inl (G.2.2.2.1, len, .inl (fun _ => v)))) n) := by
  have loop : ∀ (d i : Nat) (g : Nat → Int32), i + d = len → (∀ q, q < i → g q = v) → rsV G M_a_fill (rmO 0 0) (rsOk none (rs_up h a (.inl (G.2.2.2.1, len, .inl (fun _ => v)))) n) 0 0 5 [some (.ref a), some (.int v), some (.int (nI i)), some (.int (nI len))] [] (rs_up h a (.inl (G.2.2.2.1, len, .inl g))) n := by
    intro d
    induction d with
    | zero =>
      intro i g hi hg
      refine rsV_arr (g := fun _ => v) (fun q hq => hg q (by omega)) ?_

      refine rs_iload_n d_a_fill_5 rfl rfl ?_
      refine rs_iload_n d_a_fill_6 rfl rfl ?_
      refine rs_icmp_ge (tgt := 20) d_a_fill_7 rfl (by decide) (fun _ => ?_) (fun hc => absurd (nI_le (by omega) (by omega)) hc)
      exact rs_vreturn d_a_fill_20 rfl ⟨rfl, rfl, rfl⟩
    | succ d ih =>
      intro i g hi hg
      refine rs_iload_n d_a_fill_5 rfl rfl ?_
      refine rs_iload_n d_a_fill_6 rfl rfl ?_
      refine rs_icmp_ge (tgt := 20) d_a_fill_7 rfl (by decide) (fun hc => absurd hc (nI_ge (by omega) (by omega))) (fun _ => ?_)
      refine rs_aload_n d_a_fill_10 rfl rfl ?_
      refine rs_iload_n d_a_fill_11 rfl rfl ?_
      refine rs_iload_n d_a_fill_12 rfl rfl ?_
      refine rs_iast d_a_fill_13 rfl rs_up_at (by omega) hlen ?_
      rw [rs_up_up]
      refine rs_iinc d_a_fill_14 rfl (by decide) rfl (rs_inc1 i) rfl ?_
      refine rs_goto (tgt := 5) d_a_fill_17 (by decide) ?_
      refine ih (i + 1) (upd g i v) (by omega) fun q hq => ?_
      unfold upd
      by_cases hqi : q = i
      · rw [if_pos hqi]
      · rw [if_neg hqi]; exact hg q (by omega)
  refine rsK_of pf_a_fill rfl (Nat.le_of_ble_eq_true rfl) rfl ?_
  refine rs_iconst (v := (nI 0)) d_a_fill_0 rfl (by decide) ?_
  refine rs_istore_n d_a_fill_1 rfl (by decide) rfl ?_
  refine rs_aload_n d_a_fill_2 rfl rfl ?_
  refine rs_alenI d_a_fill_3 rfl hh ?_
  refine rs_istore_n d_a_fill_4 rfl (by decide) rfl ?_
  exact rsV_eq (rs_up_self hh) (loop len 0 f (by omega) (fun q hq => absurd hq (by omega)))
set_option maxRecDepth 100000 in
theorem k_clear {G : rsG} {n : Nat} {K V : Nat → Nat → Int32} {c P r : Nat → Nat} {md up wl cu : Int32} {hf : rsH} {j : Nat} (hj : j ≤ 13) : rsK G M_e_clear (rmO 1 23) [.ref (rw_eo (rsB G) j)] (rwd G K V c P r md up wl cu hf) n (rsOk (none) (rwd G (va_up K j (fun _ => 0)) V (va_up c j 0) P r md up wl cu hf) n) := by
  refine rsK_of pf_e_clear rfl (Nat.le_of_ble_eq_true rfl) rfl ?_
  refine rs_aload_n d_e_clear_0 rfl rfl ?_
  refine rx_get_ki (by first | assumption | omega) d_e_clear_1 rfl f_e_9 ?_
  refine rs_iconst (v := 0) d_e_clear_4 rfl (by decide) ?_
  refine rx_cS d_e_clear_5 rfl c_e_26 (by exact np_a_fill) (k_fill (rw_k hj) (by decide)) (by decide) ⟨rfl, rfl⟩ (Nat.le_of_ble_eq_true rfl) rfl ?_
  rw [rw_set_k hj]
  refine rs_aload_n d_e_clear_8 rfl rfl ?_
  refine rs_iconst (v := (nI 0)) d_e_clear_9 rfl (by decide) ?_
  refine rx_put_ct (by first | assumption | omega) d_e_clear_10 rfl p_e_18 ?_
  exact rs_vreturn d_e_clear_13 rfl ⟨rfl, rfl, rfl⟩
def rp_cnt (p : Nat → Bool) : Nat → Nat
  | 0 => 0
  | n + 1 => rp_cnt p n + (if p n = true then 1 else 0)
def rp_mK (f g : Nat → Int32) (i : Nat) : Nat → Int32 := fun q => if q < i ∧ f q = 0 then g q else f q
def rp_mV (f g x y : Nat → Int32) (i : Nat) : Nat → Int32 := fun q => if q < i ∧ f q = 0 ∧ ¬ g q = 0 then y q else x q
def rp_mB (f g : Nat → Int32) : Nat → Bool := fun q => decide (f q = 0) && !decide (g q = 0)
theorem rp_mK0 (f g : Nat → Int32) : rp_mK f g 0 = f := by
  funext q; unfold rp_mK; rw [if_neg (fun h => absurd h.1 (by omega))]
theorem rp_mV0 (f g x y : Nat → Int32) : rp_mV f g x y 0 = x := by
  funext q; unfold rp_mV; rw [if_neg (fun h => absurd h.1 (by omega))]
theorem rp_mKi (f g : Nat → Int32) (i : Nat) : rp_mK f g i i = f i := by
  unfold rp_mK; rw [if_neg (fun h => absurd h.1 (by omega))]
theorem rp_mVi (f g x y : Nat → Int32) (i : Nat) : rp_mV f g x y i i = x i := by
  unfold rp_mV; rw [if_neg (fun h => absurd h.1 (by omega))]
theorem rp_mKs (f g : Nat → Int32) (i : Nat) (h : ¬ f i = 0 ∨ g i = 0) : rp_mK f g (i + 1) = rp_mK f g i := by
  funext q
  unfold rp_mK
  by_cases hq : q = i
  · subst hq
    have n1 : ¬ (q < q ∧ f q = 0) := fun h => absurd h.1 (by omega)
    rw [if_neg n1]
    by_cases h0 : f q = 0
    · have n2 : q < q + 1 ∧ f q = 0 := ⟨by omega, h0⟩
      rw [if_pos n2, h0]
      rcases h with h | h
      · exact absurd h0 h
      · exact h
    · rw [if_neg (fun h => h0 h.2)]
  · by_cases h1 : q < i ∧ f q = 0
    · rw [if_pos h1, if_pos ⟨by omega, h1.2⟩]
    · rw [if_neg h1, if_neg (fun h2 => h1 ⟨by omega, h2.2⟩)]
theorem rp_mVs (f g x y : Nat → Int32) (i : Nat) (h : ¬ f i = 0 ∨ g i = 0) : rp_mV f g x y (i + 1) = rp_mV f g x y i := by
  funext q
  unfold rp_mV
  by_cases hq : q = i
  · subst hq
    have n1 : ¬ (q < q ∧ f q = 0 ∧ ¬ g q = 0) := fun h => absurd h.1 (by omega)
    have n2 : ¬ (q < q + 1 ∧ f q = 0 ∧ ¬ g q = 0) := fun h2 => by
      rcases h with h | h
      · exact h h2.2.1
      · exact h2.2.2 h
    rw [if_neg n1, if_neg n2]
  · by_cases h1 : q < i ∧ f q = 0 ∧ ¬ g q = 0
    · rw [if_pos h1, if_pos ⟨by omega, h1.2⟩]
    · rw [if_neg h1, if_neg (fun h2 => h1 ⟨by omega, h2.2⟩)]
theorem rp_mKu (f g : Nat → Int32) (i : Nat) (h : f i = 0) : upd (rp_mK f g i) i (g i) = rp_mK f g (i + 1) := by
  funext q
  unfold upd rp_mK
  by_cases hq : q = i
  · subst hq
    rw [if_pos rfl, if_pos ⟨by omega, h⟩]
  · rw [if_neg hq]
    by_cases h1 : q < i ∧ f q = 0
    · rw [if_pos h1, if_pos ⟨by omega, h1.2⟩]
    · rw [if_neg h1, if_neg (fun h2 => h1 ⟨by omega, h2.2⟩)]
theorem rp_mVu (f g x y : Nat → Int32) (i : Nat) (h : f i = 0) (h2 : ¬ g i = 0) : upd (rp_mV f g x y i) i (y i) = rp_mV f g x y (i + 1) := by
  funext q
  unfold upd rp_mV
  by_cases hq : q = i
  · subst hq
    rw [if_pos rfl, if_pos ⟨by omega, h, h2⟩]
  · rw [if_neg hq]
    by_cases h1 : q < i ∧ f q = 0 ∧ ¬ g q = 0
    · rw [if_pos h1, if_pos ⟨by omega, h1.2⟩]
    · rw [if_neg h1, if_neg (fun h2 => h1 ⟨by omega, h2.2⟩)]
theorem rp_mBs (f g : Nat → Int32) (i : Nat) (h : ¬ f i = 0 ∨ g i = 0) : rp_cnt (rp_mB f g) (i + 1) = rp_cnt (rp_mB f g) i := by
  have : rp_mB f g i = false := by
    unfold rp_mB
    rcases h with h | h
    · rw [decide_eq_false h]; rfl
    · rw [decide_eq_true h]; simp
  show rp_cnt (rp_mB f g) i + _ = _
  rw [this]; simp
theorem rp_mBu (f g : Nat → Int32) (i : Nat) (h : f i = 0) (h2 : ¬ g i = 0) : rp_cnt (rp_mB f g) (i + 1) = rp_cnt (rp_mB f g) i + 1 := by
  have : rp_mB f g i = true := by
    unfold rp_mB
    rw [decide_eq_true h, decide_eq_false h2]; rfl
  show rp_cnt (rp_mB f g) i + _ = _
  rw [this, if_pos rfl]
def rp_aK (K : Nat → Nat → Int32) (j o i : Nat) : Nat → Nat → Int32 := va_up K j (rp_mK (K j) (K o) i)
def rp_aV (K V : Nat → Nat → Int32) (j o i : Nat) : Nat → Nat → Int32 := va_up V j (rp_mV (K j) (K o) (V j) (V o) i)
def rp_ac (K : Nat → Nat → Int32) (c : Nat → Nat) (j o i : Nat) : Nat → Nat := va_up c j (c j + rp_cnt (rp_mB (K j) (K o)) i)
set_option maxRecDepth 100000 in
theorem k_addOlder {G : rsG} {n : Nat} {K V : Nat → Nat → Int32} {c P r : Nat → Nat} {md up wl cu : Int32} {hf : rsH} {j o : Nat} (hj : j ≤ 13) (ho : o ≤ 13) (hjo : o ≠ j) : rsK G M_e_addOlder (rmO 2 44) [.ref (rw_eo (rsB G) j), .ref (rw_eo (rsB G) o)] (rwd G K V c P r md up wl cu hf) n (rsOk none (rwd G (rp_aK K j o 100) (rp_aV K V j o 100) (rp_ac K c j o 100) P r md up wl cu hf) n) := by
  have loop : ∀ (d i : Nat), i + d = 100 → rsV G M_e_addOlder (rmO 2 44) (rsOk none (rwd G (rp_aK K j o 100) (rp_aV K V j o 100) (rp_ac K c j o 100) P r md up wl cu hf) n) 0 0 2 [some (.ref (rw_eo (rsB G) j)), some (.ref (rw_eo (rsB G) o)), some (.int (nI i))] [] (rwd G (rp_aK K j o i) (rp_aV K V j o i) (rp_ac K c j o i) P r md up wl cu hf) n := by
    intro d
    induction d with
    | zero =>
      intro i hi
      obtain rfl : i = 100 := by omega
      refine rs_iload_n d_e_addOlder_2 rfl rfl ?_
      refine rs_bipush (v := (nI 100)) d_e_addOlder_3 rfl (by decide) ?_
      refine rs_icmp_ge (tgt := 47) d_e_addOlder_5 rfl (by decide) (fun _ => ?_) (fun hc => absurd (nI_le (by omega) (by omega)) hc)
      exact rs_vreturn d_e_addOlder_47 rfl ⟨rfl, rfl, rfl⟩
    | succ d ih =>
      intro i hi
      have hi100 : i < 100 := by omega
      have e1 : rp_aK K j o i j i = K j i := by unfold rp_aK; rw [rp_up_j, rp_mKi]
      have e2 : rp_aK K j o i o i = K o i := by unfold rp_aK; rw [rp_up_ne _ _ hjo]
      have e3 : rp_aV K V j o i o i = V o i := by unfold rp_aV; rw [rp_up_ne _ _ hjo]
      refine rs_iload_n d_e_addOlder_2 rfl rfl ?_
      refine rs_bipush (v := (nI 100)) d_e_addOlder_3 rfl (by decide) ?_
      refine rs_icmp_ge (tgt := 47) d_e_addOlder_5 rfl (by decide) (fun hc => absurd hc (nI_ge (by omega) (by omega))) (fun _ => ?_)
      refine rs_aload_n d_e_addOlder_8 rfl rfl ?_
      refine rs_iload_n d_e_addOlder_9 rfl rfl ?_
      refine rx_cV d_e_addOlder_10 rfl c_e_32 (by exact np_e_holds) (rw_e hj) (k_holds hj hi100) (by decide) ⟨rfl, rfl⟩ (Nat.le_of_ble_eq_true rfl) rfl ?_
      rw [e1]
      by_cases h0 : K j i = 0
      · rw [if_pos h0]
        refine rs_if_ne (tgt := 41) d_e_addOlder_13 rfl (by decide) (fun hc => absurd rfl hc) (fun _ => ?_)
        refine rs_aload_n d_e_addOlder_16 rfl rfl ?_
        refine rs_iload_n d_e_addOlder_17 rfl rfl ?_
        refine rx_cV d_e_addOlder_18 rfl c_e_32 (by exact np_e_holds) (rw_e ho) (k_holds ho hi100) (by decide) ⟨rfl, rfl⟩ (Nat.le_of_ble_eq_true rfl) rfl ?_
        rw [e2]
        by_cases h1 : K o i = 0
        · rw [if_pos h1]
          refine rs_if_eq (tgt := 41) d_e_addOlder_21 rfl (by decide) (fun _ => ?_) (fun hc => absurd rfl hc)
          refine rs_iinc d_e_addOlder_41 rfl (by decide) rfl (rs_inc1 i) rfl ?_
          refine rs_goto (tgt := 2) d_e_addOlder_44 (by decide) ?_
          refine rsV_eq ?_ (ih (i + 1) (by omega))
          unfold rp_aK rp_aV rp_ac
          rw [rp_mKs _ _ _ (Or.inr h1), rp_mVs _ _ _ _ _ (Or.inr h1), rp_mBs _ _ _ (Or.inr h1)]
        · rw [if_neg h1]
          refine rs_if_eq (tgt := 41) d_e_addOlder_21 rfl (by decide) (fun hc => absurd hc (by decide)) (fun _ => ?_)
          refine rs_aload_n d_e_addOlder_24 rfl rfl ?_
          refine rs_iload_n d_e_addOlder_25 rfl rfl ?_
          refine rs_aload_n d_e_addOlder_26 rfl rfl ?_
          refine rx_get_ki (by first | assumption | omega) d_e_addOlder_27 rfl f_e_9 ?_
          refine rs_iload_n d_e_addOlder_30 rfl rfl ?_
          refine rx_ld_k (by first | assumption | omega) (by first | assumption | omega) d_e_addOlder_31 rfl ?_
          refine rs_aload_n d_e_addOlder_32 rfl rfl ?_
          refine rx_get_va (by first | assumption | omega) d_e_addOlder_33 rfl f_e_15 ?_
          refine rs_iload_n d_e_addOlder_36 rfl rfl ?_
          refine rx_ld_v (by first | assumption | omega) (by first | assumption | omega) d_e_addOlder_37 rfl ?_
          rw [e2, e3]
          refine rx_cV d_e_addOlder_38 rfl c_e_22 (by exact np_e_setEntry) (rw_e hj) (k_setEntry hj hi100) (by decide) ⟨rfl, rfl⟩ (Nat.le_of_ble_eq_true rfl) rfl ?_
          refine rs_iinc d_e_addOlder_41 rfl (by decide) rfl (rs_inc1 i) rfl ?_
          refine rs_goto (tgt := 2) d_e_addOlder_44 (by decide) ?_
          refine rsV_eq ?_ (ih (i + 1) (by omega))
          unfold rp_u rp_c
          rw [e1, if_pos h0]
          unfold rp_aK rp_aV rp_ac
          rw [rp_up_j, rp_up_j, rp_up_j, rp_up_up, rp_up_up, rp_up_up, rp_mKu _ _ _ h0, rp_mVu _ _ _ _ _ h0 h1, rp_mBu _ _ _ h0 h1]
          rfl
      · rw [if_neg h0]
        refine rs_if_ne (tgt := 41) d_e_addOlder_13 rfl (by decide) (fun _ => ?_) (fun hc => absurd hc (by decide))
        refine rs_iinc d_e_addOlder_41 rfl (by decide) rfl (rs_inc1 i) rfl ?_
        refine rs_goto (tgt := 2) d_e_addOlder_44 (by decide) ?_
        refine rsV_eq ?_ (ih (i + 1) (by omega))
        unfold rp_aK rp_aV rp_ac
        rw [rp_mKs _ _ _ (Or.inl h0), rp_mVs _ _ _ _ _ (Or.inl h0), rp_mBs _ _ _ (Or.inl h0)]
  refine rsK_of pf_e_addOlder rfl (Nat.le_of_ble_eq_true rfl) rfl ?_
  refine rs_iconst (v := (nI 0)) d_e_addOlder_0 rfl (by decide) ?_
  refine rs_istore_n d_e_addOlder_1 rfl (by decide) rfl ?_
  refine rsV_eq ?_ (loop 100 0 (by omega))
  unfold rp_aK rp_aV rp_ac
  rw [rp_mK0, rp_mV0, rp_up_id, rp_up_id, show c j + rp_cnt (rp_mB (K j) (K o)) 0 = c j from rfl, rp_up_id]
def rp_xK (f : Nat → Int32) (i : Nat) : Nat → Int32 := fun q => if q < i ∧ f q = 2 then 0 else f q
def rp_xB (f : Nat → Int32) : Nat → Bool := fun q => decide (f q = 2)
theorem rp_xK0 (f : Nat → Int32) : rp_xK f 0 = f := by
  funext q; unfold rp_xK; rw [if_neg (fun h => absurd h.1 (by omega))]
theorem rp_xKi (f : Nat → Int32) (i : Nat) : rp_xK f i i = f i := by
  unfold rp_xK; rw [if_neg (fun h => absurd h.1 (by omega))]
theorem rp_xKs (f : Nat → Int32) (i : Nat) (h : ¬ f i = 2) : rp_xK f (i + 1) = rp_xK f i := by
  funext q
  unfold rp_xK
  by_cases hq : q = i
  · subst hq
    have n1 : ¬ (q < q ∧ f q = 2) := fun h => absurd h.1 (by omega)
    have n2 : ¬ (q < q + 1 ∧ f q = 2) := fun h2 => h h2.2
    rw [if_neg n1, if_neg n2]
  · by_cases h1 : q < i ∧ f q = 2
    · rw [if_pos h1, if_pos ⟨by omega, h1.2⟩]
    · rw [if_neg h1, if_neg (fun h2 => h1 ⟨by omega, h2.2⟩)]
theorem rp_xKu (f : Nat → Int32) (i : Nat) (h : f i = 2) : upd (rp_xK f i) i 0 = rp_xK f (i + 1) := by
  funext q
  unfold upd rp_xK
  by_cases hq : q = i
  · subst hq
    rw [if_pos rfl, if_pos ⟨by omega, h⟩]
  · rw [if_neg hq]
    by_cases h1 : q < i ∧ f q = 2
    · rw [if_pos h1, if_pos ⟨by omega, h1.2⟩]
    · rw [if_neg h1, if_neg (fun h2 => h1 ⟨by omega, h2.2⟩)]
theorem rp_cnt_le (p : Nat → Bool) : ∀ {a b : Nat}, a ≤ b → rp_cnt p a ≤ rp_cnt p b := by
  intro a b h
  induction b with
  | zero => rw [show a = 0 by omega]; exact Nat.le_refl _
  | succ b ih =>
    by_cases hab : a = b + 1
    · rw [hab]; exact Nat.le_refl _
    · exact Nat.le_trans (ih (by omega)) (Nat.le_add_right _ _)
def rp_oK (K : Nat → Nat → Int32) (j i : Nat) : Nat → Nat → Int32 := va_up K j (rp_xK (K j) i)
def rp_oc (K : Nat → Nat → Int32) (c : Nat → Nat) (j i : Nat) : Nat → Nat := va_up c j (c j - rp_cnt (rp_xB (K j)) i)
set_option maxRecDepth 100000 in
theorem k_leaveOutMarks {G : rsG} {n : Nat} {K V : Nat → Nat → Int32} {c P r : Nat → Nat} {md up wl cu : Int32} {hf : rsH} {j : Nat} (hj : j ≤ 13) (hcj : rp_cnt (rp_xB (K j)) 100 ≤ c j) : rsK G M_e_leaveOutMarks (rmO 0 0) [.ref (rw_eo (rsB G) j)] (rwd G K V c P r md up wl cu hf) n (rsOk none (rwd G (rp_oK K j 100) V (rp_oc K c j 100) P r md up wl cu hf) n) := by
  have loop : ∀ (d i : Nat), i + d = 100 → rsV G M_e_leaveOutMarks (rmO 0 0) (rsOk none (rwd G (rp_oK K j 100) V (rp_oc K c j 100) P r md up wl cu hf) n) 0 0 2 [some (.ref (rw_eo (rsB G) j)), some (.int (nI i))] [] (rwd G (rp_oK K j i) V (rp_oc K c j i) P r md up wl cu hf) n := by
    intro d
    induction d with
    | zero =>
      intro i hi
      obtain rfl : i = 100 := by omega
      refine rs_iload_n d_e_leaveOutMarks_2 rfl rfl ?_
      refine rs_bipush (v := (nI 100)) d_e_leaveOutMarks_3 rfl (by decide) ?_
      refine rs_icmp_ge (tgt := 41) d_e_leaveOutMarks_5 rfl (by decide) (fun _ => ?_) (fun hc => absurd (nI_le (by omega) (by omega)) hc)
      exact rs_vreturn d_e_leaveOutMarks_41 rfl ⟨rfl, rfl, rfl⟩
    | succ d ih =>
      intro i hi
      have hi100 : i < 100 := by omega
      have e1 : rp_oK K j i j i = K j i := by unfold rp_oK; rw [rp_up_j, rp_xKi]
      refine rs_iload_n d_e_leaveOutMarks_2 rfl rfl ?_
      refine rs_bipush (v := (nI 100)) d_e_leaveOutMarks_3 rfl (by decide) ?_
      refine rs_icmp_ge (tgt := 41) d_e_leaveOutMarks_5 rfl (by decide) (fun hc => absurd hc (nI_ge (by omega) (by omega))) (fun _ => ?_)
      refine rs_aload_n d_e_leaveOutMarks_8 rfl rfl ?_
      refine rx_get_ki (by first | assumption | omega) d_e_leaveOutMarks_9 rfl f_e_9 ?_
      refine rs_iload_n d_e_leaveOutMarks_12 rfl rfl ?_
      refine rx_ld_k (by first | assumption | omega) (by first | assumption | omega) d_e_leaveOutMarks_13 rfl ?_
      rw [e1]
      refine rs_iconst (v := 2) d_e_leaveOutMarks_14 rfl (by decide) ?_
      refine rs_icmp_ne (tgt := 35) d_e_leaveOutMarks_15 rfl (by decide) (fun h0 => ?_) (fun h0 => ?_)
      · refine rs_iinc d_e_leaveOutMarks_35 rfl (by decide) rfl (rs_inc1 i) rfl ?_
        refine rs_goto (tgt := 2) d_e_leaveOutMarks_38 (by decide) ?_
        refine rsV_eq ?_ (ih (i + 1) (by omega))
        unfold rp_oK rp_oc
        have hb : rp_cnt (rp_xB (K j)) (i + 1) = rp_cnt (rp_xB (K j)) i := by
          show rp_cnt (rp_xB (K j)) i + _ = _
          unfold rp_xB
          rw [decide_eq_false h0]; simp
        rw [rp_xKs _ _ h0, hb]
      · have hb : rp_cnt (rp_xB (K j)) (i + 1) = rp_cnt (rp_xB (K j)) i + 1 := by
          show rp_cnt (rp_xB (K j)) i + _ = _
          have : rp_xB (K j) i = true := decide_eq_true h0
          rw [this, if_pos rfl]
        have hle := rp_cnt_le (rp_xB (K j)) (show i + 1 ≤ 100 by omega)
        refine rs_aload_n d_e_leaveOutMarks_18 rfl rfl ?_
        refine rx_get_ki (by first | assumption | omega) d_e_leaveOutMarks_19 rfl f_e_9 ?_
        refine rs_iload_n d_e_leaveOutMarks_22 rfl rfl ?_
        refine rs_iconst (v := 0) d_e_leaveOutMarks_23 rfl (by decide) ?_
        refine rx_st_k (by first | assumption | omega) (by first | assumption | omega) d_e_leaveOutMarks_24 rfl ?_
        refine rs_aload_n d_e_leaveOutMarks_25 rfl rfl ?_
        refine rs_dup d_e_leaveOutMarks_26 rfl rfl ?_
        refine rx_get_ct (by first | assumption | omega) d_e_leaveOutMarks_27 rfl f_e_18 ?_
        refine rs_iconst (v := (nI 1)) d_e_leaveOutMarks_30 rfl (by decide) ?_
        refine rs_isub d_e_leaveOutMarks_31 rfl ?_
        refine rs_tope (pk_sub (by unfold rp_oc; rw [rp_up_j]; omega)) ?_
        refine rx_put_ct (by first | assumption | omega) d_e_leaveOutMarks_32 rfl p_e_18 ?_
        refine rs_iinc d_e_leaveOutMarks_35 rfl (by decide) rfl (rs_inc1 i) rfl ?_
        refine rs_goto (tgt := 2) d_e_leaveOutMarks_38 (by decide) ?_
        refine rsV_eq ?_ (ih (i + 1) (by omega))
        unfold rp_oK rp_oc
        rw [rp_up_j, rp_up_j, rp_up_up, rp_up_up, rp_xKu _ _ h0, hb, Nat.sub_sub]
  refine rsK_of pf_e_leaveOutMarks rfl (Nat.le_of_ble_eq_true rfl) rfl ?_
  refine rs_iconst (v := (nI 0)) d_e_leaveOutMarks_0 rfl (by decide) ?_
  refine rs_istore_n d_e_leaveOutMarks_1 rfl (by decide) rfl ?_
  refine rsV_eq ?_ (loop 100 0 (by omega))
  unfold rp_oK rp_oc
  rw [rp_xK0, rp_up_id, show c j - rp_cnt (rp_xB (K j)) 0 = c j from rfl, rp_up_id]
set_option maxRecDepth 100000 in
theorem k_setValue {G : rsG} {n : Nat} {K V : Nat → Nat → Int32} {c P r : Nat → Nat} {md up wl cu : Int32} {hf : rsH} {j key : Nat} {vl : Int32} (hj : j ≤ 13) (hk : key < 100) : rsK G M_e_setValue (rmO 2 44) [.ref (rw_eo (rsB G) j), .int (nI key), .int vl] (rwd G K V c P r md up wl cu hf) n (rsOk (none) (rwd G (rp_u K j key 1) (rp_u V j key vl) (rp_c K c j key) P r md up wl cu hf) n) := by
  refine rsK_of pf_e_setValue rfl (Nat.le_of_ble_eq_true rfl) rfl ?_
  refine rs_aload_n d_e_setValue_0 rfl rfl ?_
  refine rs_iload_n d_e_setValue_1 rfl rfl ?_
  refine rs_iconst (v := 1) d_e_setValue_2 rfl (by decide) ?_
  refine rs_iload_n d_e_setValue_3 rfl rfl ?_
  refine rx_cV d_e_setValue_4 rfl c_e_22 (by exact np_e_setEntry) (rw_e hj) (k_setEntry hj hk) (by decide) ⟨rfl, rfl⟩ (Nat.le_of_ble_eq_true rfl) rfl ?_
  exact rs_vreturn d_e_setValue_7 rfl ⟨rfl, rfl, rfl⟩
set_option maxRecDepth 100000 in
theorem k_setMark {G : rsG} {n : Nat} {K V : Nat → Nat → Int32} {c P r : Nat → Nat} {md up wl cu : Int32} {hf : rsH} {j key : Nat} (hj : j ≤ 13) (hk : key < 100) : rsK G M_e_setMark (rmO 2 44) [.ref (rw_eo (rsB G) j), .int (nI key)] (rwd G K V c P r md up wl cu hf) n (rsOk (none) (rwd G (rp_u K j key 2) (rp_u V j key 0) (rp_c K c j key) P r md up wl cu hf) n) := by
  refine rsK_of pf_e_setMark rfl (Nat.le_of_ble_eq_true rfl) rfl ?_
  refine rs_aload_n d_e_setMark_0 rfl rfl ?_
  refine rs_iload_n d_e_setMark_1 rfl rfl ?_
  refine rs_iconst (v := 2) d_e_setMark_2 rfl (by decide) ?_
  refine rs_iconst (v := 0) d_e_setMark_3 rfl (by decide) ?_
  refine rx_cV d_e_setMark_4 rfl c_e_22 (by exact np_e_setEntry) (rw_e hj) (k_setEntry hj hk) (by decide) ⟨rfl, rfl⟩ (Nat.le_of_ble_eq_true rfl) rfl ?_
  exact rs_vreturn d_e_setMark_7 rfl ⟨rfl, rfl, rfl⟩
