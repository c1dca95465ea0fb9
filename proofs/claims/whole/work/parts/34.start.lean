/-! 34: the law from its first instruction (written by gen_start.py) -/
theorem rs_vcellE {cA : ClassId} {len : Nat} {f g : Nat → Option Nat} (h : ∀ i, i < len → f i = g i) : vp_cell cA (len, .inr (.inr (.inr (.inr f)))) = vp_cell cA (len, .inr (.inr (.inr (.inr g)))) := by
  rw [vp_cell_q, vp_cell_q]
  unfold arrV
  congr 2
  funext j
  show va_rf (f j.val) = va_rf (g j.val)
  rw [h j.val j.isLt]
theorem rsV_arrE {G : rsG} {M : rsM} {rm : Room} {Q : rsR → rsH → Nat → Prop} {kc ks pc : Nat} {L : List (Option Value)} {st : List Value} {h : rsH} {n : Nat} {a len : Nat} {f g : Nat → Option Nat} (hfg : ∀ i, i < len → f i = g i) (hh : h a = some (.inl (G.2.2.2.2.2, len, .inr (.inr (.inr (.inr f)))))) (k : rsV G M rm Q kc ks pc L st (rs_up h a (.inl (G.2.2.2.2.2, len, .inr (.inr (.inr (.inr g)))))) n) : rsV G M rm Q kc ks pc L st h n := by
  intro hU p e s m args below meth c H locs cells slots ls Cx S hc hs hls
  refine k hU p e s m args below meth c H locs cells slots ls Cx ⟨fun b x hx => ?_, S.2.1, S.2.2.1, S.2.2.2.1, fun b x hx => ?_, S.2.2.2.2.2⟩ hc hs hls
  · by_cases hb : b = a
    · subst hb
      rw [rs_up_at] at hx
      cases hx
      have h2 : H[b]? = some (vp_cell G.2.2.2.2.2 (len, .inr (.inr (.inr (.inr f))))) := S.1 b _ hh
      show H[b]? = some (vp_cell G.2.2.2.2.2 (len, .inr (.inr (.inr (.inr g)))))
      rw [h2, rs_vcellE hfg]
    · rw [rs_up_of hb] at hx
      exact S.1 b x hx
  · by_cases hb : b = a
    · subst hb
      exact S.2.2.2.2.1 b _ hh
    · rw [rs_up_of hb] at hx
      exact S.2.2.2.2.1 b x hx
/-- the first state -/
def rx0 : rT := (fun _ _ => 0, fun _ _ => 0, fun _ _ => 0, fun _ _ => 0, fun _ => 0, fun i => i, fun _ => 0, fun _ => 0, 0, 0, -1, -1)
theorem rx0_j : rjx rx0 := by
  have e0 : rp_sum (fun _ => 0) 3 = 0 := rfl
  refine ⟨Or.inl rfl, Or.inl rfl, Or.inl rfl, by rw [e0]; omega, fun i hi => by rw [e0] at hi; omega, fun i hi => by show i ≤ 12; omega, fun i j _ _ h => h, fun i hi => by rw [e0] at hi; omega, fun k _ => ⟨rfl, fun h => absurd rfl h⟩, fun j _ k _ => Or.inl rfl, fun j _ => (rp_cnt_z (fun _ _ => rfl)).symm, Or.inl rfl, fun _ k _ => rfl, by show 0 ≤ 8; omega⟩
theorem rx0_w {G : rsG} {W : rsH} (s1 : W (rsB G) = some (.inr (0, [.ref (rw_eo (rsB G) 13), .ref (rsB G + 4), .int 0, .int (-1), .int (-1)]))) (s2 : ∀ j, j ≤ 13 → rq_e G W j) (s3 : W (rsB G + 4) = some (.inr (2, [.ref (rsB G + 5), .ref (rsB G + 45), .int 0]))) (s5 : W (rsB G + 45) = some (.inl (G.2.2.2.1, 3, .inl (fun _ => 0)))) (h5 : W (rsB G + 5) = some (.inl (G.2.2.2.2.2, 13, .inr (.inr (.inr (.inr (fun j => some (rw_eo (rsB G) j)))))))) (hm : rq_m G W) (ho : W (rsB G + 50) = some (.inl (G.2.2.2.2.1, 1, .inr (.inl (fun _ => 0))))) : ∀ a e, rlw G rx0 rx0 0 (fun _ => 0) a = some e → W a = some e := by
  obtain ⟨m1, m2, m3, m4⟩ := hm
  intro a e he
  by_cases h46 : rsB G + 46 ≤ a
  · unfold rlw at he
    rw [rcw_hi h46] at he
    by_cases h49 : a ≤ rsB G + 49
    · rcases (show a = rsB G + 46 ∨ a = rsB G + 47 ∨ a = rsB G + 48 ∨ a = rsB G + 49 by omega) with rfl | rfl | rfl | rfl
      · rw [m1, ← he]; symm; exact rm_o
      · rw [m2, ← he]; symm; exact rm_l
      · rw [m3, ← he]; symm; exact rm_s
      · rw [m4, ← he]; symm; exact rm_v
    · rw [rmw_ne (Or.inr (by omega))] at he
      unfold rod at he
      by_cases h50 : a = rsB G + 50
      · rw [if_pos h50] at he
        rw [h50, ho, ← he]
      · rw [if_neg h50] at he
        cases he
  · have key : ∀ {q : Nat} {e' : va_E}, a = q → rcw G rx0 (rmw G rx0 0 (rod G (fun _ => 0))) q = some e' → W q = some e' → W a = some e := fun h1 h2 h3 => by
      subst h1
      have h4 : rcw G rx0 (rmw G rx0 0 (rod G (fun _ => 0))) a = some e := he
      rw [h2] at h4
      rw [h3, h4]
    by_cases hb : a < rsB G
    · exfalso
      have h4 : rlw G rx0 rx0 0 (fun _ => 0) a = none := by
        unfold rlw
        show rwd G _ _ _ _ _ _ _ _ _ _ a = none
        unfold rwd
        rw [show rw_nd (rsB G) a = (9, 0) by unfold rw_nd; rw [if_pos hb]]
        show rmw G rx0 0 (rod G (fun _ => 0)) a = none
        rw [rmw_ne (Or.inl (by omega))]
        unfold rod
        rw [if_neg (by omega)]
      rw [h4] at he
      cases he
    · have ent : ∀ j, j ≤ 13 → a = rw_eo (rsB G) j ∨ a = rw_ko (rsB G) j ∨ a = rw_vo (rsB G) j → W a = some e := fun j hj ha => by
        obtain ⟨g1, g2, g3⟩ := s2 j hj
        rcases ha with ha | ha | ha
        · exact key ha (rw_e hj) g1
        · exact key ha (rw_k hj) g2
        · exact key ha (rw_v hj) g3
      by_cases c0 : a = rsB G
      · exact key c0 rw_x s1
      · by_cases c4 : a = rsB G + 4
        · exact key c4 rw_d s3
        · by_cases c5 : a = rsB G + 5
          · exact key c5 rw_p h5
          · by_cases c45 : a = rsB G + 45
            · exact key c45 rw_r s5
            · by_cases c3 : a < rsB G + 4
              · refine ent 13 (by omega) ?_
                rw [show rw_eo (rsB G) 13 = rsB G + 1 from rfl, show rw_ko (rsB G) 13 = rsB G + 2 from rfl, show rw_vo (rsB G) 13 = rsB G + 3 from rfl]
                omega
              · refine ent ((a - rsB G - 6) / 3) (by omega) ?_
                unfold rw_eo rw_ko rw_vo
                rw [if_neg (by omega), if_neg (by omega), if_neg (by omega)]
                omega
set_option maxRecDepth 100000 in
theorem law_start {G : rsG} {Q : rsR → rsH → Nat → Prop} {sb Ln : Nat} {xs : Nat → Int32} (hX : va_X sb Ln xs (rsS0 G) (rsS0 G).heap) (hbl : sb < rsB G) (hlen : Ln ≤ 1536) (hQ : ∀ h n, Q (.inl (some (.int 1))) h n) : rsV G M_l_law rmL Q 601024 7293034 0 [some (.ref sb), none, none, none, none, none, none] [] (fun _ => none) 0 := by
  refine rs_new (kc' := 600000) (ks' := 7200000) d_l_law_0 rfl n_l_8 (by decide) (by decide) ?_
  refine rs_dup d_l_law_3 rfl rfl ?_
  refine rs_cI (kc' := 590000) (ks' := 7100000) d_l_law_4 rfl c_l_71 (by exact np_s_init) (k_s_init rs_up_at) (by decide) ⟨by decide, by decide⟩ (Nat.le_of_ble_eq_true rfl) rfl (fun v W n' q => ?_) (fun k W' n' q => by obtain ⟨q1, -⟩ := q; cases q1)
  obtain ⟨q1, rfl, q2⟩ := q
  cases q1
  refine rs_astore_n d_l_law_7 rfl (by decide) rfl ?_
  refine rs_new (kc' := 580000) (ks' := 7000000) d_l_law_8 rfl n_l_72 (by decide) (by decide) ?_
  refine rs_dup d_l_law_11 rfl rfl ?_
  refine rs_cI (kc' := 570000) (ks' := 6900000) d_l_law_12 rfl c_l_74 (by exact np_m_init) (k_m_init rs_up_at) (by decide) ⟨by decide, by decide⟩ (Nat.le_of_ble_eq_true rfl) rfl (fun v W2 n' q => ?_) (fun k W' n' q => by obtain ⟨q1, -⟩ := q; cases q1)
  obtain ⟨q1, rfl, p2, p3⟩ := q
  cases q1
  refine rs_astore_n d_l_law_15 rfl (by decide) rfl ?_
  refine rs_iconst (v := (nI 1)) d_l_law_16 rfl (by decide) ?_
  refine rs_newaL (kc' := 560000) (ks' := 6800000) (N := 1) d_l_law_17 rfl t_arrL rfl (by decide) (by decide) (by decide) ?_
  refine rs_astore_n d_l_law_19 rfl (by decide) rfl ?_
  refine rs_iconst (v := (nI 0)) d_l_law_20 rfl (by decide) ?_
  refine rs_istore d_l_law_21 rfl (by decide) rfl ?_
  have hW : ∀ q, q < rsB G + 46 → rs_up W2 (rsB G + 50) (.inl (G.2.2.2.2.1, 1, .inr (.inl (fun _ => 0)))) q = W q := fun q hq => by rw [rs_up_of (by omega), p3 q hq, rs_up_of (by omega)]
  obtain ⟨s1, s2, s3, s4, s5⟩ := q2
  refine rsV_arrE (a := rsB G + 5) (len := 13) (g := fun j => some (rw_eo (rsB G) j)) (fun i hi => if_pos hi) (by rw [hW _ (by omega)]; exact s4) ?_
  have hW4 : ∀ {q : Nat} {e e' : va_E}, q < rsB G + 46 → q ≠ rsB G + 5 → W q = some e → rs_up (rs_up W2 (rsB G + 50) (.inl (G.2.2.2.2.1, 1, .inr (.inl (fun _ => 0))))) (rsB G + 5) e' q = some e := fun h1 h2 h3 => by rw [rs_up_of h2, hW _ h1]; exact h3
  obtain ⟨m1, m2, m3, m4⟩ := p2
  refine rsV_w (rx0_w (hW4 (by omega) (by omega) s1) (fun j hj => ?_) (hW4 (by omega) (by omega) s3) (hW4 (by omega) (by omega) s5) rs_up_at ⟨?_, ?_, ?_, ?_⟩ ?_) (law_loop hX hbl hlen hQ 512 0 rx0 0 (fun _ => 0) _ _ _ none none rx0_j (by omega) (by omega) (by omega) (by omega))
  · obtain ⟨g1, g2, g3⟩ := s2 j hj
    have a1 : rw_eo (rsB G) j < rsB G + 46 ∧ rw_eo (rsB G) j ≠ rsB G + 5 := by unfold rw_eo; split <;> omega
    have a2 : rw_ko (rsB G) j < rsB G + 46 ∧ rw_ko (rsB G) j ≠ rsB G + 5 := by unfold rw_ko; split <;> omega
    have a3 : rw_vo (rsB G) j < rsB G + 46 ∧ rw_vo (rsB G) j ≠ rsB G + 5 := by unfold rw_vo; split <;> omega
    exact ⟨hW4 a1.1 a1.2 g1, hW4 a2.1 a2.2 g2, hW4 a3.1 a3.2 g3⟩
  · rw [rs_up_of (by omega), rs_up_of (by omega)]; exact m1
  · rw [rs_up_of (by omega), rs_up_of (by omega)]; exact m2
  · rw [rs_up_of (by omega), rs_up_of (by omega)]; exact m3
  · rw [rs_up_of (by omega), rs_up_of (by omega)]; exact m4
  · rw [rs_up_of (by omega)]; exact rs_up_at
