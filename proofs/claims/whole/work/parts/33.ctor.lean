/-! 33: the constructors (written by gen_ctor.py) -/
theorem rs_up_of {h : rsH} {a q : Nat} {e : va_E} (hn : q ≠ a) : rs_up h a e q = h q := by unfold rs_up; rw [if_neg hn]
abbrev rmN (f l c s : Nat) : Room := { frames := f, cells := c, slots := s, locals := l }
/-- an entries object with its two rows, new -/
def rq_e (G : rsG) (W : rsH) (j : Nat) : Prop := W (rw_eo (rsB G) j) = some (.inr (1, [.ref (rw_ko (rsB G) j), .ref (rw_vo (rsB G) j), .int 0])) ∧ W (rw_ko (rsB G) j) = some (.inl (G.2.2.2.1, 100, .inl (fun _ => 0))) ∧ W (rw_vo (rsB G) j) = some (.inl (G.2.2.2.1, 100, .inl (fun _ => 0)))
set_option maxRecDepth 100000 in
theorem k_e_init {G : rsG} {n a : Nat} {W : rsH} (ha : W a = some (.inr (1, [.null, .null, .int 0]))) (hlt : a < rsB G + n) : rsK G M_e_init (rmN 1 20 2 200) [.ref a] W n (fun r W' n' => r = .inl none ∧ n' = n + 2 ∧ W' a = some (.inr (1, [.ref (rsB G + n), .ref (rsB G + n + 1), .int 0])) ∧ W' (rsB G + n) = some (.inl (G.2.2.2.1, 100, .inl (fun _ => 0))) ∧ W' (rsB G + n + 1) = some (.inl (G.2.2.2.1, 100, .inl (fun _ => 0))) ∧ ∀ q, q ≠ a → q ≠ rsB G + n → q ≠ rsB G + n + 1 → W' q = W q) := by
  refine rsK_of pf_e_init rfl (Nat.le_of_ble_eq_true rfl) rfl ?_
  refine rs_aload_n d_e_init_0 rfl rfl ?_
  refine rs_obj d_e_init_1 rfl o_e_3 t_obj1 t_obj2 (Nat.le_of_ble_eq_true rfl) (by decide) (by decide) ?_
  refine rs_aload_n d_e_init_4 rfl rfl ?_
  refine rs_bipush (v := (nI 100)) d_e_init_5 rfl (by decide) ?_
  refine rs_newaI (kc' := 1) (ks' := 100) (N := 100) d_e_init_7 rfl t_arrI rfl (by decide) (by decide) (by decide) ?_
  refine rs_putF (fs' := [.ref (rsB G + n), .null, .int 0]) d_e_init_9 rfl p_e_9 rfl (by rw [rs_up_of (by omega)]; exact ha) rfl rfl (Nat.le_of_ble_eq_true rfl) rfl ?_
  refine rs_aload_n d_e_init_12 rfl rfl ?_
  refine rs_bipush (v := (nI 100)) d_e_init_13 rfl (by decide) ?_
  refine rs_newaI (kc' := 0) (ks' := 0) (N := 100) d_e_init_15 rfl t_arrI rfl (by decide) (by decide) (by decide) ?_
  refine rs_putF (fs' := [.ref (rsB G + n), .ref (rsB G + (n + 1)), .int 0]) d_e_init_17 rfl p_e_15 rfl (by rw [rs_up_of (by omega)]; exact rs_up_at) rfl rfl (Nat.le_of_ble_eq_true rfl) rfl ?_
  refine rs_aload_n d_e_init_20 rfl rfl ?_
  refine rs_iconst (v := 0) d_e_init_21 rfl (by decide) ?_
  refine rs_putf (fs' := [.ref (rsB G + n), .ref (rsB G + (n + 1)), .int 0]) d_e_init_22 rfl p_e_18 (rs_up_at) rfl rfl (Nat.le_of_ble_eq_true rfl) rfl ?_
  refine rs_vreturn d_e_init_25 rfl ⟨rfl, rfl, rs_up_at, ?_, ?_, fun q h1 h2 h3 => ?_⟩
  · rw [rs_up_of (by omega), rs_up_of (by omega), rs_up_of (by omega), rs_up_of (by omega), rs_up_at]
  · rw [rs_up_of (by omega), rs_up_of (by omega), show rsB G + n + 1 = rsB G + (n + 1) by omega, rs_up_at]
  · rw [rs_up_of h1, rs_up_of h1, rs_up_of (by omega), rs_up_of h1, rs_up_of h2]
def rq_d (G : rsG) (h W : rsH) (i : Nat) (o5 : Value) : Prop := W (rsB G + 4) = some (.inr (2, [.ref (rsB G + 5), o5, .int 0])) ∧ W (rsB G + 5) = some (.inl (G.2.2.2.2.2, 13, .inr (.inr (.inr (.inr (fun j => if j < i then some (rw_eo (rsB G) j) else none)))))) ∧ (∀ j, j < i → rq_e G W j) ∧ ∀ q, q < rsB G + 4 → W q = h q
theorem rq_up {G : rsG} {W : rsH} {j a : Nat} {e : va_E} (hj : j < 13) (h : rq_e G W j) (ha : a < rsB G + 6 ∨ rsB G + 9 + 3 * j ≤ a) : rq_e G (rs_up W a e) j := by
  obtain ⟨h1, h2, h3⟩ := h
  have e1 : rw_eo (rsB G) j = rsB G + 6 + 3 * j := by unfold rw_eo; rw [if_neg (by omega)]
  have e2 : rw_ko (rsB G) j = rsB G + 7 + 3 * j := by unfold rw_ko; rw [if_neg (by omega)]
  have e3 : rw_vo (rsB G) j = rsB G + 8 + 3 * j := by unfold rw_vo; rw [if_neg (by omega)]
  exact ⟨by rw [rs_up_of (by omega)]; exact h1, by rw [rs_up_of (by omega)]; exact h2, by rw [rs_up_of (by omega)]; exact h3⟩
set_option maxRecDepth 100000 in
theorem k_d_init {G : rsG} {h : rsH} (ha : h (rsB G + 4) = some (.inr (2, [.null, .null, .int 0]))) : rsK G M_d_init (rmN 2 40 41 2655) [.ref (rsB G + 4)] h 5 (fun r W' n' => r = .inl none ∧ n' = 46 ∧ rq_d G h W' 13 (.ref (rsB G + 45)) ∧ W' (rsB G + 45) = some (.inl (G.2.2.2.1, 3, .inl (fun _ => 0)))) := by
  have loop : ∀ (d i : Nat) (W : rsH), i + d = 13 → rq_d G h W i .null → rsV G M_d_init (rmN 2 40 41 2655) (fun r W' n' => r = .inl none ∧ n' = 46 ∧ rq_d G h W' 13 (.ref (rsB G + 45)) ∧ W' (rsB G + 45) = some (.inl (G.2.2.2.1, 3, .inl (fun _ => 0)))) (1 + 3 * d) (3 + 203 * d) 15 [some (.ref (rsB G + 4)), some (.int (nI i))] [] W (6 + 3 * i) := by
    intro d
    induction d with
    | zero =>
      intro i W hi hW
      obtain rfl : i = 13 := by omega
      obtain ⟨w1, w2, w3, w4⟩ := hW
      refine rs_iload_n d_d_init_15 rfl rfl ?_
      refine rs_aload_n d_d_init_16 rfl rfl ?_
      refine rs_getf d_d_init_17 rfl f_d_11 w1 rfl ?_
      refine rs_alenA d_d_init_20 rfl w2 ?_
      refine rs_icmp_ge (tgt := 43) d_d_init_21 rfl (by decide) (fun _ => ?_) (fun hc => absurd (nI_le (by omega) (by omega)) hc)
      refine rs_aload_n d_d_init_43 rfl rfl ?_
      refine rs_iconst (v := (nI 3)) d_d_init_44 rfl (by decide) ?_
      refine rs_newaI (kc' := 0) (ks' := 0) (N := 3) d_d_init_45 rfl t_arrI rfl (by decide) (by decide) (by decide) ?_
      refine rs_putF (fs' := [.ref (rsB G + 5), .ref (rsB G + (6 + 3 * 13)), .int 0]) d_d_init_47 rfl p_d_18 rfl (by rw [rs_up_of (by omega)]; exact w1) rfl rfl (Nat.le_of_ble_eq_true rfl) rfl ?_
      refine rs_aload_n d_d_init_50 rfl rfl ?_
      refine rs_iconst (v := 0) d_d_init_51 rfl (by decide) ?_
      refine rs_putf (fs' := [.ref (rsB G + 5), .ref (rsB G + (6 + 3 * 13)), .int 0]) d_d_init_52 rfl p_d_22 (rs_up_at) rfl rfl (Nat.le_of_ble_eq_true rfl) rfl ?_
      refine rs_vreturn d_d_init_55 rfl ⟨rfl, rfl, ⟨?_, ?_, fun j hj => ?_, fun q hq => ?_⟩, ?_⟩
      · exact rs_up_at
      · rw [rs_up_of (by omega), rs_up_of (by omega), rs_up_of (by omega)]; exact w2
      · exact rq_up hj (rq_up hj (rq_up hj (w3 j hj) (Or.inr (by omega))) (Or.inl (by omega))) (Or.inl (by omega))
      · rw [rs_up_of (by omega), rs_up_of (by omega), rs_up_of (by omega)]; exact w4 q hq
      · rw [rs_up_of (by omega), rs_up_of (by omega), show rsB G + 45 = rsB G + (6 + 3 * 13) by omega]; exact rs_up_at
    | succ d ih =>
      intro i W hi hW
      obtain ⟨w1, w2, w3, w4⟩ := hW
      refine rs_iload_n d_d_init_15 rfl rfl ?_
      refine rs_aload_n d_d_init_16 rfl rfl ?_
      refine rs_getf d_d_init_17 rfl f_d_11 w1 rfl ?_
      refine rs_alenA d_d_init_20 rfl w2 ?_
      refine rs_icmp_ge (tgt := 43) d_d_init_21 rfl (by decide) (fun hc => absurd hc (nI_ge (by omega) (by omega))) (fun _ => ?_)
      refine rs_aload_n d_d_init_24 rfl rfl ?_
      refine rs_getf d_d_init_25 rfl f_d_11 w1 rfl ?_
      refine rs_iload_n d_d_init_28 rfl rfl ?_
      refine rs_new (kc' := 1 + 3 * d + 2) (ks' := 3 + 203 * d + 200) d_d_init_29 rfl n_d_9 (by omega) (by omega) ?_
      refine rs_dup d_d_init_32 rfl rfl ?_
      refine rs_cI (kc' := 1 + 3 * d) (ks' := 3 + 203 * d) d_d_init_33 rfl c_d_17 (by exact np_e_init) (k_e_init rs_up_at (by omega)) (by decide) ⟨Nat.le_refl _, Nat.le_refl _⟩ (Nat.le_of_ble_eq_true rfl) rfl (fun v W' n' q => ?_) (fun k W' n' q => by obtain ⟨q1, -⟩ := q; cases q1)
      obtain ⟨q1, rfl, q3, q4, q5, q6⟩ := q
      cases q1
      have e1 : rw_eo (rsB G) i = rsB G + (6 + 3 * i) := by unfold rw_eo; rw [if_neg (by omega)]; omega
      have e2 : rw_ko (rsB G) i = rsB G + (6 + 3 * i + 1) := by unfold rw_ko; rw [if_neg (by omega)]; omega
      have e3 : rw_vo (rsB G) i = rsB G + (6 + 3 * i + 1) + 1 := by unfold rw_vo; rw [if_neg (by omega)]; omega
      refine rs_aast (ci := 1) (vs := _) d_d_init_36 rfl (show W' (rsB G + 5) = _ by rw [q6 _ (by omega) (by omega) (by omega), rs_up_of (by omega)]; exact w2) (by omega) (by decide) q3 rsCl_1 ?_
      refine rs_iinc d_d_init_37 rfl (by decide) rfl (rs_inc1 i) rfl ?_
      refine rs_goto (tgt := 15) d_d_init_40 (by decide) ?_
      refine ih (i + 1) _ (by omega) ⟨?_, ?_, fun j hj => ?_, fun q hq => ?_⟩
      · rw [rs_up_of (by omega), q6 _ (by omega) (by omega) (by omega), rs_up_of (by omega)]; exact w1
      · rw [rs_up_at, show (va_up (fun j => if j < i then some (rw_eo (rsB G) j) else none) i (some (rsB G + (6 + 3 * i)))) = (fun j => if j < i + 1 then some (rw_eo (rsB G) j) else none) from ?_]
        funext j
        unfold va_up
        by_cases hj : j = i
        · rw [if_pos hj, if_pos (by omega), hj, e1]
        · rw [if_neg hj]
          by_cases hj2 : j < i
          · exact (if_pos hj2).trans (if_pos (by omega)).symm
          · exact (if_neg hj2).trans (if_neg (by omega)).symm
      · by_cases e : j = i
        · subst e
          refine ⟨?_, ?_, ?_⟩
          · rw [e1, e2, e3, rs_up_of (by omega)]; exact q3
          · rw [e2, rs_up_of (by omega)]; exact q4
          · rw [e3, rs_up_of (by omega)]; exact q5
        · have hj13 : j < 13 := by omega
          have hje : j < i := by omega
          have k1 : rw_eo (rsB G) j = rsB G + 6 + 3 * j := by unfold rw_eo; rw [if_neg (by omega)]
          have k2 : rw_ko (rsB G) j = rsB G + 7 + 3 * j := by unfold rw_ko; rw [if_neg (by omega)]
          have k3 : rw_vo (rsB G) j = rsB G + 8 + 3 * j := by unfold rw_vo; rw [if_neg (by omega)]
          obtain ⟨g1, g2, g3⟩ := w3 j hje
          refine ⟨?_, ?_, ?_⟩
          · rw [rs_up_of (by omega), q6 _ (by omega) (by omega) (by omega), rs_up_of (by omega)]; exact g1
          · rw [rs_up_of (by omega), q6 _ (by omega) (by omega) (by omega), rs_up_of (by omega)]; exact g2
          · rw [rs_up_of (by omega), q6 _ (by omega) (by omega) (by omega), rs_up_of (by omega)]; exact g3
      · rw [rs_up_of (by omega), q6 _ (by omega) (by omega) (by omega), rs_up_of (by omega)]; exact w4 q hq
  refine rsK_of pf_d_init rfl (Nat.le_of_ble_eq_true rfl) rfl ?_
  refine rs_aload_n d_d_init_0 rfl rfl ?_
  refine rs_obj d_d_init_1 rfl o_d_3 t_obj1 t_obj2 (Nat.le_of_ble_eq_true rfl) (by decide) (by decide) ?_
  refine rs_aload_n d_d_init_4 rfl rfl ?_
  refine rs_bipush (v := (nI 13)) d_d_init_5 rfl (by decide) ?_
  refine rs_newaE (kc' := 1 + 3 * 13) (ks' := 3 + 203 * 13) (N := 13) d_d_init_7 rfl na_d_9 t_arrE rfl (by decide) (by decide) (by decide) ?_
  refine rs_putF (fs' := [.ref (rsB G + 5), .null, .int 0]) d_d_init_10 rfl p_d_11 rfl (by rw [rs_up_of (by omega)]; exact ha) rfl rfl (Nat.le_of_ble_eq_true rfl) rfl ?_
  refine rs_iconst (v := (nI 0)) d_d_init_13 rfl (by decide) ?_
  refine rs_istore_n d_d_init_14 rfl (by decide) rfl ?_
  refine loop 13 0 _ (by omega) ⟨rs_up_at, ?_, fun j hj => by omega, fun q hq => ?_⟩
  · rw [rs_up_of (by omega), rs_up_at]
    congr 7
  · rw [rs_up_of (by omega), rs_up_of (by omega)]
def rq_s (G : rsG) (W : rsH) : Prop := W (rsB G) = some (.inr (0, [.ref (rw_eo (rsB G) 13), .ref (rsB G + 4), .int 0, .int (-1), .int (-1)])) ∧ (∀ j, j ≤ 13 → rq_e G W j) ∧ W (rsB G + 4) = some (.inr (2, [.ref (rsB G + 5), .ref (rsB G + 45), .int 0])) ∧ W (rsB G + 5) = some (.inl (G.2.2.2.2.2, 13, .inr (.inr (.inr (.inr (fun j => if j < 13 then some (rw_eo (rsB G) j) else none)))))) ∧ W (rsB G + 45) = some (.inl (G.2.2.2.1, 3, .inl (fun _ => 0)))
set_option maxRecDepth 100000 in
theorem k_s_init {G : rsG} {h : rsH} (ha : h (rsB G) = some (.inr (0, [.null, .null, .int 0, .int 0, .int 0]))) : rsK G M_s_init (rmN 3 61 45 2861) [.ref (rsB G)] h 1 (fun r W' n' => r = .inl none ∧ n' = 46 ∧ rq_s G W') := by
  refine rsK_of pf_s_init rfl (Nat.le_of_ble_eq_true rfl) rfl ?_
  refine rs_aload_n d_s_init_0 rfl rfl ?_
  refine rs_obj d_s_init_1 rfl o_s_1 t_obj1 t_obj2 (Nat.le_of_ble_eq_true rfl) (by decide) (by decide) ?_
  refine rs_aload_n d_s_init_4 rfl rfl ?_
  refine rs_new (kc' := 44) (ks' := 2858) d_s_init_5 rfl n_s_7 (by decide) (by decide) ?_
  refine rs_dup d_s_init_8 rfl rfl ?_
  refine rs_cI (kc' := 42) (ks' := 2658) d_s_init_9 rfl c_s_9 (by exact np_e_init) (k_e_init rs_up_at (by omega)) (by decide) ⟨by decide, by decide⟩ (Nat.le_of_ble_eq_true rfl) rfl (fun v W n' q => ?_) (fun k W' n' q => by obtain ⟨q1, -⟩ := q; cases q1)
  obtain ⟨q1, rfl, q3, q4, q5, q6⟩ := q
  cases q1
  refine rs_putF (fs' := [.ref (rsB G + 1), .null, .int 0, .int 0, .int 0]) d_s_init_12 rfl p_s_10 rfl (by rw [q6 _ (by omega) (by omega) (by omega), rs_up_of (by omega)]; exact ha) rfl rfl (Nat.le_of_ble_eq_true rfl) rfl ?_
  refine rs_aload_n d_s_init_15 rfl rfl ?_
  refine rs_new (kc' := 41) (ks' := 2655) d_s_init_16 rfl n_s_16 (by decide) (by decide) ?_
  refine rs_dup d_s_init_19 rfl rfl ?_
  refine rs_cI (kc' := 0) (ks' := 0) d_s_init_20 rfl c_s_18 (by exact np_d_init) (k_d_init rs_up_at) (by decide) ⟨by decide, by decide⟩ (Nat.le_of_ble_eq_true rfl) rfl (fun v W2 n' q => ?_) (fun k W' n' q => by obtain ⟨q1, -⟩ := q; cases q1)
  obtain ⟨q1, rfl, ⟨r1, r2, r3, r4⟩, r5⟩ := q
  cases q1
  have r4' : ∀ q, q < rsB G + 4 → q ≠ rsB G → W2 q = W q := fun q h1 h2 => by rw [r4 q h1, rs_up_of (by omega), rs_up_of h2]
  refine rs_putF (fs' := [.ref (rsB G + 1), .ref (rsB G + 4), .int 0, .int 0, .int 0]) d_s_init_23 rfl p_s_19 rfl (by rw [r4 _ (by omega), rs_up_of (by omega)]; exact rs_up_at) rfl rfl (Nat.le_of_ble_eq_true rfl) rfl ?_
  refine rs_aload_n d_s_init_26 rfl rfl ?_
  refine rs_iconst (v := 0) d_s_init_27 rfl (by decide) ?_
  refine rs_putf (fs' := [.ref (rsB G + 1), .ref (rsB G + 4), .int 0, .int 0, .int 0]) d_s_init_28 rfl p_s_23 (rs_up_at) rfl rfl (Nat.le_of_ble_eq_true rfl) rfl ?_
  refine rs_aload_n d_s_init_31 rfl rfl ?_
  refine rs_iconst (v := (-1)) d_s_init_32 rfl (by decide) ?_
  refine rs_putf (fs' := [.ref (rsB G + 1), .ref (rsB G + 4), .int 0, .int (-1), .int 0]) d_s_init_33 rfl p_s_27 (rs_up_at) rfl rfl (Nat.le_of_ble_eq_true rfl) rfl ?_
  refine rs_aload_n d_s_init_36 rfl rfl ?_
  refine rs_iconst (v := (-1)) d_s_init_37 rfl (by decide) ?_
  refine rs_putf (fs' := [.ref (rsB G + 1), .ref (rsB G + 4), .int 0, .int (-1), .int (-1)]) d_s_init_38 rfl p_s_31 (rs_up_at) rfl rfl (Nat.le_of_ble_eq_true rfl) rfl ?_
  refine rs_vreturn d_s_init_41 rfl ⟨rfl, rfl, rs_up_at, fun j hj => ?_, ?_, ?_, ?_⟩
  · by_cases e : j = 13
    · subst e
      refine ⟨?_, ?_, ?_⟩
      · rw [show rw_eo (rsB G) 13 = rsB G + 1 from rfl, rs_up_of (by omega), rs_up_of (by omega), rs_up_of (by omega), rs_up_of (by omega), r4' _ (by omega) (by omega)]; exact q3
      · rw [show rw_ko (rsB G) 13 = rsB G + 2 from rfl, rs_up_of (by omega), rs_up_of (by omega), rs_up_of (by omega), rs_up_of (by omega), r4' _ (by omega) (by omega)]; exact q4
      · rw [show rw_vo (rsB G) 13 = rsB G + 3 from rfl, rs_up_of (by omega), rs_up_of (by omega), rs_up_of (by omega), rs_up_of (by omega), r4' _ (by omega) (by omega)]; exact q5
    · have h13 : j < 13 := by omega
      exact rq_up h13 (rq_up h13 (rq_up h13 (rq_up h13 (r3 j h13) (Or.inl (by omega))) (Or.inl (by omega))) (Or.inl (by omega))) (Or.inl (by omega))
  · rw [rs_up_of (by omega), rs_up_of (by omega), rs_up_of (by omega), rs_up_of (by omega)]; exact r1
  · rw [rs_up_of (by omega), rs_up_of (by omega), rs_up_of (by omega), rs_up_of (by omega)]; exact r2
  · rw [rs_up_of (by omega), rs_up_of (by omega), rs_up_of (by omega), rs_up_of (by omega)]; exact r5
def rq_m (G : rsG) (W : rsH) : Prop := W (rsB G + 46) = some (.inr (3, [.int 0, .int 0, .int 0, .int (-1), .int 0, .ref (rsB G + 47), .ref (rsB G + 48), .ref (rsB G + 49), .int (-1)])) ∧ W (rsB G + 47) = some (.inl (G.2.2.2.1, 12, .inl (fun _ => 0))) ∧ W (rsB G + 48) = some (.inl (G.2.2.2.1, 1400, .inl (fun _ => 0))) ∧ W (rsB G + 49) = some (.inl (G.2.2.2.1, 1400, .inl (fun _ => 0)))
set_option maxRecDepth 100000 in
theorem k_m_init {G : rsG} {h : rsH} (ha : h (rsB G + 46) = some (.inr (3, [.int 0, .int 0, .int 0, .int 0, .int 0, .null, .null, .null, .int 0]))) : rsK G M_m_init (rmN 1 20 3 2812) [.ref (rsB G + 46)] h 47 (fun r W' n' => r = .inl none ∧ n' = 50 ∧ rq_m G W' ∧ ∀ q, q < rsB G + 46 → W' q = h q) := by
  refine rsK_of pf_m_init rfl (Nat.le_of_ble_eq_true rfl) rfl ?_
  refine rs_aload_n d_m_init_0 rfl rfl ?_
  refine rs_obj d_m_init_1 rfl o_m_1 t_obj1 t_obj2 (Nat.le_of_ble_eq_true rfl) (by decide) (by decide) ?_
  refine rs_aload_n d_m_init_4 rfl rfl ?_
  refine rs_iconst (v := (-1)) d_m_init_5 rfl (by decide) ?_
  refine rs_putf (fs' := [.int 0, .int 0, .int 0, .int (-1), .int 0, .null, .null, .null, .int 0]) d_m_init_6 rfl p_m_9 (ha) rfl rfl (Nat.le_of_ble_eq_true rfl) rfl ?_
  refine rs_aload_n d_m_init_9 rfl rfl ?_
  refine rs_bipush (v := (nI 12)) d_m_init_10 rfl (by decide) ?_
  refine rs_newaI (kc' := 2) (ks' := 2800) (N := 12) d_m_init_12 rfl t_arrI rfl (by decide) (by decide) (by decide) ?_
  refine rs_putF (fs' := [.int 0, .int 0, .int 0, .int (-1), .int 0, .ref (rsB G + 47), .null, .null, .int 0]) d_m_init_14 rfl p_m_13 rfl (by rw [rs_up_of (by omega)]; exact rs_up_at) rfl rfl (Nat.le_of_ble_eq_true rfl) rfl ?_
  refine rs_aload_n d_m_init_17 rfl rfl ?_
  refine rs_sipush (v := (nI 1400)) d_m_init_18 rfl (by decide) ?_
  refine rs_newaI (kc' := 1) (ks' := 1400) (N := 1400) d_m_init_21 rfl t_arrI rfl (by decide) (by decide) (by decide) ?_
  refine rs_putF (fs' := [.int 0, .int 0, .int 0, .int (-1), .int 0, .ref (rsB G + 47), .ref (rsB G + 48), .null, .int 0]) d_m_init_23 rfl p_m_17 rfl (by rw [rs_up_of (by omega)]; exact rs_up_at) rfl rfl (Nat.le_of_ble_eq_true rfl) rfl ?_
  refine rs_aload_n d_m_init_26 rfl rfl ?_
  refine rs_sipush (v := (nI 1400)) d_m_init_27 rfl (by decide) ?_
  refine rs_newaI (kc' := 0) (ks' := 0) (N := 1400) d_m_init_30 rfl t_arrI rfl (by decide) (by decide) (by decide) ?_
  refine rs_putF (fs' := [.int 0, .int 0, .int 0, .int (-1), .int 0, .ref (rsB G + 47), .ref (rsB G + 48), .ref (rsB G + 49), .int 0]) d_m_init_32 rfl p_m_20 rfl (by rw [rs_up_of (by omega)]; exact rs_up_at) rfl rfl (Nat.le_of_ble_eq_true rfl) rfl ?_
  refine rs_aload_n d_m_init_35 rfl rfl ?_
  refine rs_iconst (v := (-1)) d_m_init_36 rfl (by decide) ?_
  refine rs_putf (fs' := [.int 0, .int 0, .int 0, .int (-1), .int 0, .ref (rsB G + 47), .ref (rsB G + 48), .ref (rsB G + 49), .int (-1)]) d_m_init_37 rfl p_m_23 (rs_up_at) rfl rfl (Nat.le_of_ble_eq_true rfl) rfl ?_
  refine rs_vreturn d_m_init_40 rfl ⟨rfl, rfl, ⟨rs_up_at, ?_, ?_, ?_⟩, fun q hq => ?_⟩
  · rw [rs_up_of (by omega), rs_up_of (by omega), rs_up_of (by omega), rs_up_of (by omega), rs_up_of (by omega), rs_up_of (by omega)]; exact rs_up_at
  · rw [rs_up_of (by omega), rs_up_of (by omega), rs_up_of (by omega), rs_up_of (by omega)]; exact rs_up_at
  · rw [rs_up_of (by omega), rs_up_of (by omega)]; exact rs_up_at
  · rw [rs_up_of (by omega), rs_up_of (by omega), rs_up_of (by omega), rs_up_of (by omega), rs_up_of (by omega), rs_up_of (by omega), rs_up_of (by omega), rs_up_of (by omega)]
