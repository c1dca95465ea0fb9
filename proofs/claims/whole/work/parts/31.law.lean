/-! 31: one turn of the law's loop, by operation (written by gen_law.py) -/
abbrev rmL : Room := { frames := 14, cells := 601024, slots := 7293034, locals := 512 }
theorem rs_sld {G : rsG} {M : rsM} {rm : Room} {Q : rsR → rsH → Nat → Prop} {kc ks pc pc' : Nat} {L : List (Option Value)} {st : List Value} {h : rsH} {n : Nat} {sb Ln j : Nat} {xs : Nat → Int32} (hX : va_X sb Ln xs (rsS0 G) (rsS0 G).heap) (hbl : sb < rsB G) (hlen : Ln ≤ 1536) (hj : j < Ln) (hd : decode M.2.1 pc = .ok (.iaload, 1)) (hp : pc + 1 = pc')
    (kk : rsV G M rm Q kc ks pc' L (.int (xs j) :: st) h n) : rsV G M rm Q kc ks pc L (.int (nI j) :: .ref sb :: st) h n := by
  subst hp
  intro hU p e s m args below meth c H locs cells slots ls Cx S hc hs hls
  refine va_sld (A := fun q => rsB G ≤ q) (H0 := (rsS0 G).heap) Cx.1 Cx.2.1 (va_X.moved Cx.2.2.2.2.1.alike hX) hbl (by show ¬ rsB G ≤ sb; omega) ⟨by rw [S.2.1]; exact Nat.le_add_right _ _, fun q hq _ => S.2.2.1 q hq, S.2.2.2.1⟩ (vp_in_nI hj (by omega)) hd ?_
  rw [nI_clamp (by omega)]
  exact kk hU p e s m args below meth c H locs cells slots ls Cx S hc hs hls
theorem rs_slen {G : rsG} {M : rsM} {rm : Room} {Q : rsR → rsH → Nat → Prop} {kc ks pc pc' : Nat} {L : List (Option Value)} {st : List Value} {h : rsH} {n : Nat} {sb Ln : Nat} {xs : Nat → Int32} (hX : va_X sb Ln xs (rsS0 G) (rsS0 G).heap) (hbl : sb < rsB G) (hd : decode M.2.1 pc = .ok (.arraylength, 1)) (hp : pc + 1 = pc')
    (kk : rsV G M rm Q kc ks pc' L (.int (nI Ln) :: st) h n) : rsV G M rm Q kc ks pc L (.ref sb :: st) h n := by
  subst hp
  intro hU p e s m args below meth c H locs cells slots ls Cx S hc hs hls
  exact va_slen (A := fun q => rsB G ≤ q) (H0 := (rsS0 G).heap) Cx.1 Cx.2.1 (va_X.moved Cx.2.2.2.2.1.alike hX) hbl (by show ¬ rsB G ≤ sb; omega) ⟨by rw [S.2.1]; exact Nat.le_add_right _ _, fun q hq _ => S.2.2.1 q hq, S.2.2.2.1⟩ hd (kk hU p e s m args below meth c H locs cells slots ls Cx S hc hs hls)
theorem rl_thrown {G : rsG} {x y : rT} {th : Int32} {f : Nat → Int64} {n : Nat} : rsK G M_m_thrown (rmO 0 0) [.ref (rsB G + 46)] (rlw G x y th f) n (rsOk (some (.int th)) (rlw G x y th f) n) := by
  unfold rlw
  rw [rl_comm]
  obtain ⟨K, V, S, T, c, P, r, lv, md, up, wl, cu⟩ := y
  exact k_m_thrown
theorem rl_upd (f : Nat → Int64) (w : Int64) : vp_updL f 0 w 0 = w := if_pos rfl
theorem rl_cmp (w : Int64) : lg_cmp w w = 0 := by unfold lg_cmp; simp
theorem rl_c0 : lg_cmp (Int32.toInt64 0) 0 = 0 := by decide
theorem rl_c1 : lg_cmp (Int32.toInt64 1) 1 = 0 := by decide
set_option maxRecDepth 100000 in
theorem lc_format {G : rsG} {Q : rsR → rsH → Nat → Prop} {kc ks i sb Ln : Nat} {xs : Nat → Int32} {x5 x6 : Option Value} {x : rT} {th : Int32} {f : Nat → Int64} {n : Nat} (hX : va_X sb Ln xs (rsS0 G) (rsS0 G).heap) (hbl : sb < rsB G) (hlen : Ln ≤ 1536) (hi : i + 3 ≤ Ln) (hx : rjx x) (kk : ∀ (x' : rT) (th' : Int32) (f' : Nat → Int64) (n' : Nat) (x5 x6 : Option Value), rjx x' → rsV G M_l_law rmL Q kc ks 1008 [some (.ref sb), some (.ref (rsB G)), some (.ref (rsB G + 46)), some (.ref (rsB G + 50)), some (.int (nI i)), x5, x6] [] (rlw G x' x' th' f') n') : rsV G M_l_law rmL Q (kc + 1) (ks + 6) 132 [some (.ref sb), some (.ref (rsB G)), some (.ref (rsB G + 46)), some (.ref (rsB G + 50)), some (.int (nI i)), x5, x6] [] (rlw G x x th f) n := by
  rcases sm_format G hx with ⟨x', hx', hC, hM⟩ | ⟨x', b, hbv, hx', hC, hM⟩
  · obtain ⟨fs2, hb2⟩ := rl_m (G := G) (x := x') (y := x) (th := th) (f := f)
    obtain ⟨fs3, hb3⟩ := rl_m (G := G) (x := x') (y := x') (th := 0) (f := f)
    refine rs_aload_n d_l_law_132 rfl rfl ?_
    refine rx_cS d_l_law_133 rfl c_l_75 (by exact np_l_format) (h_format_ok hC) (by decide) ⟨rfl, rfl⟩ (Nat.le_of_ble_eq_true rfl) rfl ?_
    refine rs_istore d_l_law_136 rfl (by decide) rfl ?_
    refine rs_aload_n d_l_law_138 rfl rfl ?_
    refine rx_cV d_l_law_139 rfl c_l_80 (by exact np_m_format) hb2 (rl_mo hM) (by decide) ⟨rfl, rfl⟩ (Nat.le_of_ble_eq_true rfl) rfl ?_
    refine rs_aload_n d_l_law_142 rfl rfl ?_
    refine rx_cV d_l_law_143 rfl c_l_81 (by exact np_m_thrown) hb3 (rl_thrown) (by decide) ⟨rfl, rfl⟩ (Nat.le_of_ble_eq_true rfl) rfl ?_
    refine rs_iload d_l_law_146 rfl rfl ?_
    refine rs_icmp_eq (tgt := 153) d_l_law_148 rfl (by decide) (fun _ => ?_) (fun hc => absurd (rfl) hc)
    refine rs_goto (tgt := 1008) d_l_law_153 (by decide) ?_
    exact rsV_kc (by omega) (by omega) (kk _ _ _ _ _ _ hx')
  · obtain rfl := hbv.2 rfl
    obtain ⟨fs2, hb2⟩ := rl_m (G := G) (x := x') (y := x) (th := th) (f := f)
    obtain ⟨fs3, hb3⟩ := rl_m (G := G) (x := x') (y := x') (th := 1) (f := f)
    refine rs_aload_n d_l_law_132 rfl rfl ?_
    refine rx_gS (kc' := kc) (ks' := ks) d_l_law_133 rfl c_l_75 (by exact np_l_format) (h_format_th1 hC) (by decide) ⟨Nat.le_refl _, Nat.le_refl _⟩ (Nat.le_of_ble_eq_true rfl) rfl ?_
    refine rs_istore d_l_law_136 rfl (by decide) rfl ?_
    refine rs_aload_n d_l_law_138 rfl rfl ?_
    refine rx_cV d_l_law_139 rfl c_l_80 (by exact np_m_format) hb2 (rl_mo hM) (by decide) ⟨rfl, rfl⟩ (Nat.le_of_ble_eq_true rfl) rfl ?_
    refine rs_aload_n d_l_law_142 rfl rfl ?_
    refine rx_cV d_l_law_143 rfl c_l_81 (by exact np_m_thrown) hb3 (rl_thrown) (by decide) ⟨rfl, rfl⟩ (Nat.le_of_ble_eq_true rfl) rfl ?_
    refine rs_iload d_l_law_146 rfl rfl ?_
    refine rs_icmp_eq (tgt := 153) d_l_law_148 rfl (by decide) (fun _ => ?_) (fun hc => absurd (rfl) hc)
    refine rs_goto (tgt := 1008) d_l_law_153 (by decide) ?_
    exact kk _ _ _ _ _ _ hx'
set_option maxRecDepth 100000 in
theorem lc_recover {G : rsG} {Q : rsR → rsH → Nat → Prop} {kc ks i sb Ln : Nat} {xs : Nat → Int32} {x5 x6 : Option Value} {x : rT} {th : Int32} {f : Nat → Int64} {n : Nat} (hX : va_X sb Ln xs (rsS0 G) (rsS0 G).heap) (hbl : sb < rsB G) (hlen : Ln ≤ 1536) (hi : i + 3 ≤ Ln) (hx : rjx x) (kk : ∀ (x' : rT) (th' : Int32) (f' : Nat → Int64) (n' : Nat) (x5 x6 : Option Value), rjx x' → rsV G M_l_law rmL Q kc ks 1008 [some (.ref sb), some (.ref (rsB G)), some (.ref (rsB G + 46)), some (.ref (rsB G + 50)), some (.int (nI i)), x5, x6] [] (rlw G x' x' th' f') n') : rsV G M_l_law rmL Q (kc + 1) (ks + 6) 156 [some (.ref sb), some (.ref (rsB G)), some (.ref (rsB G + 46)), some (.ref (rsB G + 50)), some (.int (nI i)), x5, x6] [] (rlw G x x th f) n := by
  rcases sm_recover G hx with ⟨v, x', hx', hC, hM⟩ | ⟨x', b, hbv, hx', hC, hM⟩
  · obtain ⟨fs2, hb2⟩ := rl_m (G := G) (x := x') (y := x) (th := th) (f := (vp_updL f 0 v.toInt64))
    obtain ⟨fs3, hb3⟩ := rl_m (G := G) (x := x') (y := x') (th := 0) (f := (vp_updL f 0 v.toInt64))
    refine rs_aload_n d_l_law_156 rfl rfl ?_
    refine rs_aload_n d_l_law_157 rfl rfl ?_
    refine rx_cS d_l_law_158 rfl c_l_84 (by exact np_l_recover) (h_recover_ok hC) (by decide) ⟨rfl, rfl⟩ (Nat.le_of_ble_eq_true rfl) rfl ?_
    refine rs_istore d_l_law_161 rfl (by decide) rfl ?_
    refine rs_aload_n d_l_law_163 rfl rfl ?_
    refine rx_cV d_l_law_164 rfl c_l_87 (by exact np_m_recover) hb2 (rl_mo hM) (by decide) ⟨rfl, rfl⟩ (Nat.le_of_ble_eq_true rfl) rfl ?_
    refine rs_istore d_l_law_167 rfl (by decide) rfl ?_
    refine rs_aload_n d_l_law_169 rfl rfl ?_
    refine rx_cV d_l_law_170 rfl c_l_81 (by exact np_m_thrown) hb3 (rl_thrown) (by decide) ⟨rfl, rfl⟩ (Nat.le_of_ble_eq_true rfl) rfl ?_
    refine rs_iload d_l_law_173 rfl rfl ?_
    refine rs_icmp_eq (tgt := 180) d_l_law_175 rfl (by decide) (fun _ => ?_) (fun hc => absurd (rfl) hc)
    refine rs_iload d_l_law_180 rfl rfl ?_
    refine rs_if_ne (tgt := 197) d_l_law_182 rfl (by decide) (fun hc => absurd (rfl) hc) (fun _ => ?_)
    refine rs_aload_n d_l_law_185 rfl rfl ?_
    refine rs_iconst (v := (nI 0)) d_l_law_186 rfl (by decide) ?_
    refine rs_lald (j := 0) d_l_law_187 rfl rl_o (by decide) (by decide) ?_
    rw [rl_upd]
    refine rs_iload d_l_law_188 rfl rfl ?_
    refine rs_i2l d_l_law_190 rfl ?_
    refine rs_lcmp d_l_law_191 rfl ?_
    rw [rl_cmp]
    refine rs_if_eq (tgt := 197) d_l_law_192 rfl (by decide) (fun _ => ?_) (fun hc => absurd (rfl) hc)
    refine rs_goto (tgt := 1008) d_l_law_197 (by decide) ?_
    exact rsV_kc (by omega) (by omega) (kk _ _ _ _ _ _ hx')
  · obtain ⟨w, rfl⟩ := hbv.1 rfl
    obtain ⟨fs2, hb2⟩ := rl_m (G := G) (x := x') (y := x) (th := th) (f := f)
    obtain ⟨fs3, hb3⟩ := rl_m (G := G) (x := x') (y := x') (th := 1) (f := f)
    refine rs_aload_n d_l_law_156 rfl rfl ?_
    refine rs_aload_n d_l_law_157 rfl rfl ?_
    refine rx_gS (kc' := kc) (ks' := ks) d_l_law_158 rfl c_l_84 (by exact np_l_recover) (h_recover_th1 hC) (by decide) ⟨Nat.le_refl _, Nat.le_refl _⟩ (Nat.le_of_ble_eq_true rfl) rfl ?_
    refine rs_istore d_l_law_161 rfl (by decide) rfl ?_
    refine rs_aload_n d_l_law_163 rfl rfl ?_
    refine rx_cV d_l_law_164 rfl c_l_87 (by exact np_m_recover) hb2 (rl_mo hM) (by decide) ⟨rfl, rfl⟩ (Nat.le_of_ble_eq_true rfl) rfl ?_
    refine rs_istore d_l_law_167 rfl (by decide) rfl ?_
    refine rs_aload_n d_l_law_169 rfl rfl ?_
    refine rx_cV d_l_law_170 rfl c_l_81 (by exact np_m_thrown) hb3 (rl_thrown) (by decide) ⟨rfl, rfl⟩ (Nat.le_of_ble_eq_true rfl) rfl ?_
    refine rs_iload d_l_law_173 rfl rfl ?_
    refine rs_icmp_eq (tgt := 180) d_l_law_175 rfl (by decide) (fun _ => ?_) (fun hc => absurd (rfl) hc)
    refine rs_iload d_l_law_180 rfl rfl ?_
    refine rs_if_ne (tgt := 197) d_l_law_182 rfl (by decide) (fun _ => ?_) (fun hc => absurd hc (by decide))
    refine rs_goto (tgt := 1008) d_l_law_197 (by decide) ?_
    exact kk _ _ _ _ _ _ hx'
set_option maxRecDepth 100000 in
theorem lc_put {G : rsG} {Q : rsR → rsH → Nat → Prop} {kc ks i sb Ln : Nat} {xs : Nat → Int32} {x5 x6 : Option Value} {x : rT} {th : Int32} {f : Nat → Int64} {n : Nat} (hX : va_X sb Ln xs (rsS0 G) (rsS0 G).heap) (hbl : sb < rsB G) (hlen : Ln ≤ 1536) (hi : i + 3 ≤ Ln) (hx : rjx x) (kk : ∀ (x' : rT) (th' : Int32) (f' : Nat → Int64) (n' : Nat) (x5 x6 : Option Value), rjx x' → rsV G M_l_law rmL Q kc ks 1008 [some (.ref sb), some (.ref (rsB G)), some (.ref (rsB G + 46)), some (.ref (rsB G + 50)), some (.int (nI i)), x5, x6] [] (rlw G x' x' th' f') n') : rsV G M_l_law rmL Q (kc + 1) (ks + 6) 200 [some (.ref sb), some (.ref (rsB G)), some (.ref (rsB G + 46)), some (.ref (rsB G + 50)), some (.int (nI i)), x5, x6] [] (rlw G x x th f) n := by
  rcases sm_put G hx (xs (i + 1)) (xs (i + 2)) with ⟨v, x', hx', hC, hM⟩ | ⟨x', b, hbv, hx', hC, hM⟩ | ⟨x', b, hbv, hx', hC, hM⟩ | ⟨x', b, hbv, hx', hC, hM⟩
  · obtain ⟨fs2, hb2⟩ := rl_m (G := G) (x := x') (y := x) (th := th) (f := (vp_updL f 0 v.toInt64))
    obtain ⟨fs3, hb3⟩ := rl_m (G := G) (x := x') (y := x') (th := 0) (f := (vp_updL f 0 v.toInt64))
    refine rs_aload_n d_l_law_200 rfl rfl ?_
    refine rs_aload_n d_l_law_201 rfl rfl ?_
    refine rs_iload d_l_law_202 rfl rfl ?_
    refine rs_iconst (v := (nI 1)) d_l_law_204 rfl (by decide) ?_
    refine rs_iadd d_l_law_205 rfl ?_
    refine rs_tope (nI_add _ _) ?_
    refine rs_sld hX hbl hlen (by omega) d_l_law_206 rfl ?_
    refine rs_aload_n d_l_law_207 rfl rfl ?_
    refine rs_iload d_l_law_208 rfl rfl ?_
    refine rs_iconst (v := (nI 2)) d_l_law_210 rfl (by decide) ?_
    refine rs_iadd d_l_law_211 rfl ?_
    refine rs_tope (nI_add _ _) ?_
    refine rs_sld hX hbl hlen (by omega) d_l_law_212 rfl ?_
    refine rs_aload_n d_l_law_213 rfl rfl ?_
    refine rx_cS d_l_law_214 rfl c_l_88 (by exact np_l_put) (h_put_ok hC) (by decide) ⟨rfl, rfl⟩ (Nat.le_of_ble_eq_true rfl) rfl ?_
    refine rs_istore d_l_law_217 rfl (by decide) rfl ?_
    refine rs_aload_n d_l_law_219 rfl rfl ?_
    refine rs_aload_n d_l_law_220 rfl rfl ?_
    refine rs_iload d_l_law_221 rfl rfl ?_
    refine rs_iconst (v := (nI 1)) d_l_law_223 rfl (by decide) ?_
    refine rs_iadd d_l_law_224 rfl ?_
    refine rs_tope (nI_add _ _) ?_
    refine rs_sld hX hbl hlen (by omega) d_l_law_225 rfl ?_
    refine rs_aload_n d_l_law_226 rfl rfl ?_
    refine rs_iload d_l_law_227 rfl rfl ?_
    refine rs_iconst (v := (nI 2)) d_l_law_229 rfl (by decide) ?_
    refine rs_iadd d_l_law_230 rfl ?_
    refine rs_tope (nI_add _ _) ?_
    refine rs_sld hX hbl hlen (by omega) d_l_law_231 rfl ?_
    refine rx_cV d_l_law_232 rfl c_l_91 (by exact np_m_put) hb2 (rl_mo hM) (by decide) ⟨rfl, rfl⟩ (Nat.le_of_ble_eq_true rfl) rfl ?_
    refine rs_istore d_l_law_235 rfl (by decide) rfl ?_
    refine rs_aload_n d_l_law_237 rfl rfl ?_
    refine rx_cV d_l_law_238 rfl c_l_81 (by exact np_m_thrown) hb3 (rl_thrown) (by decide) ⟨rfl, rfl⟩ (Nat.le_of_ble_eq_true rfl) rfl ?_
    refine rs_iload d_l_law_241 rfl rfl ?_
    refine rs_icmp_eq (tgt := 248) d_l_law_243 rfl (by decide) (fun _ => ?_) (fun hc => absurd (rfl) hc)
    refine rs_iload d_l_law_248 rfl rfl ?_
    refine rs_if_ne (tgt := 265) d_l_law_250 rfl (by decide) (fun hc => absurd (rfl) hc) (fun _ => ?_)
    refine rs_aload_n d_l_law_253 rfl rfl ?_
    refine rs_iconst (v := (nI 0)) d_l_law_254 rfl (by decide) ?_
    refine rs_lald (j := 0) d_l_law_255 rfl rl_o (by decide) (by decide) ?_
    rw [rl_upd]
    refine rs_iload d_l_law_256 rfl rfl ?_
    refine rs_i2l d_l_law_258 rfl ?_
    refine rs_lcmp d_l_law_259 rfl ?_
    rw [rl_cmp]
    refine rs_if_eq (tgt := 265) d_l_law_260 rfl (by decide) (fun _ => ?_) (fun hc => absurd (rfl) hc)
    refine rs_goto (tgt := 1008) d_l_law_265 (by decide) ?_
    exact rsV_kc (by omega) (by omega) (kk _ _ _ _ _ _ hx')
  · obtain ⟨w, rfl⟩ := hbv.1 rfl
    obtain ⟨fs2, hb2⟩ := rl_m (G := G) (x := x') (y := x) (th := th) (f := f)
    obtain ⟨fs3, hb3⟩ := rl_m (G := G) (x := x') (y := x') (th := 1) (f := f)
    refine rs_aload_n d_l_law_200 rfl rfl ?_
    refine rs_aload_n d_l_law_201 rfl rfl ?_
    refine rs_iload d_l_law_202 rfl rfl ?_
    refine rs_iconst (v := (nI 1)) d_l_law_204 rfl (by decide) ?_
    refine rs_iadd d_l_law_205 rfl ?_
    refine rs_tope (nI_add _ _) ?_
    refine rs_sld hX hbl hlen (by omega) d_l_law_206 rfl ?_
    refine rs_aload_n d_l_law_207 rfl rfl ?_
    refine rs_iload d_l_law_208 rfl rfl ?_
    refine rs_iconst (v := (nI 2)) d_l_law_210 rfl (by decide) ?_
    refine rs_iadd d_l_law_211 rfl ?_
    refine rs_tope (nI_add _ _) ?_
    refine rs_sld hX hbl hlen (by omega) d_l_law_212 rfl ?_
    refine rs_aload_n d_l_law_213 rfl rfl ?_
    refine rx_gS (kc' := kc) (ks' := ks) d_l_law_214 rfl c_l_88 (by exact np_l_put) (h_put_th0 hC) (by decide) ⟨Nat.le_refl _, Nat.le_refl _⟩ (Nat.le_of_ble_eq_true rfl) rfl ?_
    refine rs_istore d_l_law_217 rfl (by decide) rfl ?_
    refine rs_aload_n d_l_law_219 rfl rfl ?_
    refine rs_aload_n d_l_law_220 rfl rfl ?_
    refine rs_iload d_l_law_221 rfl rfl ?_
    refine rs_iconst (v := (nI 1)) d_l_law_223 rfl (by decide) ?_
    refine rs_iadd d_l_law_224 rfl ?_
    refine rs_tope (nI_add _ _) ?_
    refine rs_sld hX hbl hlen (by omega) d_l_law_225 rfl ?_
    refine rs_aload_n d_l_law_226 rfl rfl ?_
    refine rs_iload d_l_law_227 rfl rfl ?_
    refine rs_iconst (v := (nI 2)) d_l_law_229 rfl (by decide) ?_
    refine rs_iadd d_l_law_230 rfl ?_
    refine rs_tope (nI_add _ _) ?_
    refine rs_sld hX hbl hlen (by omega) d_l_law_231 rfl ?_
    refine rx_cV d_l_law_232 rfl c_l_91 (by exact np_m_put) hb2 (rl_mo hM) (by decide) ⟨rfl, rfl⟩ (Nat.le_of_ble_eq_true rfl) rfl ?_
    refine rs_istore d_l_law_235 rfl (by decide) rfl ?_
    refine rs_aload_n d_l_law_237 rfl rfl ?_
    refine rx_cV d_l_law_238 rfl c_l_81 (by exact np_m_thrown) hb3 (rl_thrown) (by decide) ⟨rfl, rfl⟩ (Nat.le_of_ble_eq_true rfl) rfl ?_
    refine rs_iload d_l_law_241 rfl rfl ?_
    refine rs_icmp_eq (tgt := 248) d_l_law_243 rfl (by decide) (fun _ => ?_) (fun hc => absurd (rfl) hc)
    refine rs_iload d_l_law_248 rfl rfl ?_
    refine rs_if_ne (tgt := 265) d_l_law_250 rfl (by decide) (fun _ => ?_) (fun hc => absurd hc (by decide))
    refine rs_goto (tgt := 1008) d_l_law_265 (by decide) ?_
    exact kk _ _ _ _ _ _ hx'
  · obtain ⟨w, rfl⟩ := hbv.1 rfl
    obtain ⟨fs2, hb2⟩ := rl_m (G := G) (x := x') (y := x) (th := th) (f := f)
    obtain ⟨fs3, hb3⟩ := rl_m (G := G) (x := x') (y := x') (th := 2) (f := f)
    refine rs_aload_n d_l_law_200 rfl rfl ?_
    refine rs_aload_n d_l_law_201 rfl rfl ?_
    refine rs_iload d_l_law_202 rfl rfl ?_
    refine rs_iconst (v := (nI 1)) d_l_law_204 rfl (by decide) ?_
    refine rs_iadd d_l_law_205 rfl ?_
    refine rs_tope (nI_add _ _) ?_
    refine rs_sld hX hbl hlen (by omega) d_l_law_206 rfl ?_
    refine rs_aload_n d_l_law_207 rfl rfl ?_
    refine rs_iload d_l_law_208 rfl rfl ?_
    refine rs_iconst (v := (nI 2)) d_l_law_210 rfl (by decide) ?_
    refine rs_iadd d_l_law_211 rfl ?_
    refine rs_tope (nI_add _ _) ?_
    refine rs_sld hX hbl hlen (by omega) d_l_law_212 rfl ?_
    refine rs_aload_n d_l_law_213 rfl rfl ?_
    refine rx_gS (kc' := kc) (ks' := ks) d_l_law_214 rfl c_l_88 (by exact np_l_put) (h_put_th1 hC) (by decide) ⟨Nat.le_refl _, Nat.le_refl _⟩ (Nat.le_of_ble_eq_true rfl) rfl ?_
    refine rs_istore d_l_law_217 rfl (by decide) rfl ?_
    refine rs_aload_n d_l_law_219 rfl rfl ?_
    refine rs_aload_n d_l_law_220 rfl rfl ?_
    refine rs_iload d_l_law_221 rfl rfl ?_
    refine rs_iconst (v := (nI 1)) d_l_law_223 rfl (by decide) ?_
    refine rs_iadd d_l_law_224 rfl ?_
    refine rs_tope (nI_add _ _) ?_
    refine rs_sld hX hbl hlen (by omega) d_l_law_225 rfl ?_
    refine rs_aload_n d_l_law_226 rfl rfl ?_
    refine rs_iload d_l_law_227 rfl rfl ?_
    refine rs_iconst (v := (nI 2)) d_l_law_229 rfl (by decide) ?_
    refine rs_iadd d_l_law_230 rfl ?_
    refine rs_tope (nI_add _ _) ?_
    refine rs_sld hX hbl hlen (by omega) d_l_law_231 rfl ?_
    refine rx_cV d_l_law_232 rfl c_l_91 (by exact np_m_put) hb2 (rl_mo hM) (by decide) ⟨rfl, rfl⟩ (Nat.le_of_ble_eq_true rfl) rfl ?_
    refine rs_istore d_l_law_235 rfl (by decide) rfl ?_
    refine rs_aload_n d_l_law_237 rfl rfl ?_
    refine rx_cV d_l_law_238 rfl c_l_81 (by exact np_m_thrown) hb3 (rl_thrown) (by decide) ⟨rfl, rfl⟩ (Nat.le_of_ble_eq_true rfl) rfl ?_
    refine rs_iload d_l_law_241 rfl rfl ?_
    refine rs_icmp_eq (tgt := 248) d_l_law_243 rfl (by decide) (fun _ => ?_) (fun hc => absurd (rfl) hc)
    refine rs_iload d_l_law_248 rfl rfl ?_
    refine rs_if_ne (tgt := 265) d_l_law_250 rfl (by decide) (fun _ => ?_) (fun hc => absurd hc (by decide))
    refine rs_goto (tgt := 1008) d_l_law_265 (by decide) ?_
    exact kk _ _ _ _ _ _ hx'
  · obtain ⟨w, rfl⟩ := hbv.1 rfl
    obtain ⟨fs2, hb2⟩ := rl_m (G := G) (x := x') (y := x) (th := th) (f := f)
    obtain ⟨fs3, hb3⟩ := rl_m (G := G) (x := x') (y := x') (th := 3) (f := f)
    refine rs_aload_n d_l_law_200 rfl rfl ?_
    refine rs_aload_n d_l_law_201 rfl rfl ?_
    refine rs_iload d_l_law_202 rfl rfl ?_
    refine rs_iconst (v := (nI 1)) d_l_law_204 rfl (by decide) ?_
    refine rs_iadd d_l_law_205 rfl ?_
    refine rs_tope (nI_add _ _) ?_
    refine rs_sld hX hbl hlen (by omega) d_l_law_206 rfl ?_
    refine rs_aload_n d_l_law_207 rfl rfl ?_
    refine rs_iload d_l_law_208 rfl rfl ?_
    refine rs_iconst (v := (nI 2)) d_l_law_210 rfl (by decide) ?_
    refine rs_iadd d_l_law_211 rfl ?_
    refine rs_tope (nI_add _ _) ?_
    refine rs_sld hX hbl hlen (by omega) d_l_law_212 rfl ?_
    refine rs_aload_n d_l_law_213 rfl rfl ?_
    refine rx_gS (kc' := kc) (ks' := ks) d_l_law_214 rfl c_l_88 (by exact np_l_put) (h_put_th2 hC) (by decide) ⟨Nat.le_refl _, Nat.le_refl _⟩ (Nat.le_of_ble_eq_true rfl) rfl ?_
    refine rs_istore d_l_law_217 rfl (by decide) rfl ?_
    refine rs_aload_n d_l_law_219 rfl rfl ?_
    refine rs_aload_n d_l_law_220 rfl rfl ?_
    refine rs_iload d_l_law_221 rfl rfl ?_
    refine rs_iconst (v := (nI 1)) d_l_law_223 rfl (by decide) ?_
    refine rs_iadd d_l_law_224 rfl ?_
    refine rs_tope (nI_add _ _) ?_
    refine rs_sld hX hbl hlen (by omega) d_l_law_225 rfl ?_
    refine rs_aload_n d_l_law_226 rfl rfl ?_
    refine rs_iload d_l_law_227 rfl rfl ?_
    refine rs_iconst (v := (nI 2)) d_l_law_229 rfl (by decide) ?_
    refine rs_iadd d_l_law_230 rfl ?_
    refine rs_tope (nI_add _ _) ?_
    refine rs_sld hX hbl hlen (by omega) d_l_law_231 rfl ?_
    refine rx_cV d_l_law_232 rfl c_l_91 (by exact np_m_put) hb2 (rl_mo hM) (by decide) ⟨rfl, rfl⟩ (Nat.le_of_ble_eq_true rfl) rfl ?_
    refine rs_istore d_l_law_235 rfl (by decide) rfl ?_
    refine rs_aload_n d_l_law_237 rfl rfl ?_
    refine rx_cV d_l_law_238 rfl c_l_81 (by exact np_m_thrown) hb3 (rl_thrown) (by decide) ⟨rfl, rfl⟩ (Nat.le_of_ble_eq_true rfl) rfl ?_
    refine rs_iload d_l_law_241 rfl rfl ?_
    refine rs_icmp_eq (tgt := 248) d_l_law_243 rfl (by decide) (fun _ => ?_) (fun hc => absurd (rfl) hc)
    refine rs_iload d_l_law_248 rfl rfl ?_
    refine rs_if_ne (tgt := 265) d_l_law_250 rfl (by decide) (fun _ => ?_) (fun hc => absurd hc (by decide))
    refine rs_goto (tgt := 1008) d_l_law_265 (by decide) ?_
    exact kk _ _ _ _ _ _ hx'
set_option maxRecDepth 100000 in
theorem lc_remove {G : rsG} {Q : rsR → rsH → Nat → Prop} {kc ks i sb Ln : Nat} {xs : Nat → Int32} {x5 x6 : Option Value} {x : rT} {th : Int32} {f : Nat → Int64} {n : Nat} (hX : va_X sb Ln xs (rsS0 G) (rsS0 G).heap) (hbl : sb < rsB G) (hlen : Ln ≤ 1536) (hi : i + 3 ≤ Ln) (hx : rjx x) (kk : ∀ (x' : rT) (th' : Int32) (f' : Nat → Int64) (n' : Nat) (x5 x6 : Option Value), rjx x' → rsV G M_l_law rmL Q kc ks 1008 [some (.ref sb), some (.ref (rsB G)), some (.ref (rsB G + 46)), some (.ref (rsB G + 50)), some (.int (nI i)), x5, x6] [] (rlw G x' x' th' f') n') : rsV G M_l_law rmL Q (kc + 1) (ks + 6) 268 [some (.ref sb), some (.ref (rsB G)), some (.ref (rsB G + 46)), some (.ref (rsB G + 50)), some (.int (nI i)), x5, x6] [] (rlw G x x th f) n := by
  rcases sm_remove G hx (xs (i + 1)) with ⟨v, hv, x', hx', hC, hM⟩ | ⟨x', b, hbv, hx', hC, hM⟩ | ⟨x', b, hbv, hx', hC, hM⟩ | ⟨x', b, hbv, hx', hC, hM⟩
  · obtain ⟨fs2, hb2⟩ := rl_m (G := G) (x := x') (y := x) (th := th) (f := (vp_updL f 0 v.toInt64))
    obtain ⟨fs3, hb3⟩ := rl_m (G := G) (x := x') (y := x') (th := 0) (f := (vp_updL f 0 v.toInt64))
    refine rs_aload_n d_l_law_268 rfl rfl ?_
    refine rs_aload_n d_l_law_269 rfl rfl ?_
    refine rs_iload d_l_law_270 rfl rfl ?_
    refine rs_iconst (v := (nI 1)) d_l_law_272 rfl (by decide) ?_
    refine rs_iadd d_l_law_273 rfl ?_
    refine rs_tope (nI_add _ _) ?_
    refine rs_sld hX hbl hlen (by omega) d_l_law_274 rfl ?_
    refine rs_aload_n d_l_law_275 rfl rfl ?_
    refine rx_cS d_l_law_276 rfl c_l_92 (by exact np_l_remove) (h_remove_ok hv hC) (by decide) ⟨rfl, rfl⟩ (Nat.le_of_ble_eq_true rfl) rfl ?_
    refine rs_istore d_l_law_279 rfl (by decide) rfl ?_
    refine rs_aload_n d_l_law_281 rfl rfl ?_
    refine rs_aload_n d_l_law_282 rfl rfl ?_
    refine rs_iload d_l_law_283 rfl rfl ?_
    refine rs_iconst (v := (nI 1)) d_l_law_285 rfl (by decide) ?_
    refine rs_iadd d_l_law_286 rfl ?_
    refine rs_tope (nI_add _ _) ?_
    refine rs_sld hX hbl hlen (by omega) d_l_law_287 rfl ?_
    refine rx_cV d_l_law_288 rfl c_l_95 (by exact np_m_remove) hb2 (rl_mo hM) (by decide) ⟨rfl, rfl⟩ (Nat.le_of_ble_eq_true rfl) rfl ?_
    refine rs_istore d_l_law_291 rfl (by decide) rfl ?_
    refine rs_aload_n d_l_law_293 rfl rfl ?_
    refine rx_cV d_l_law_294 rfl c_l_81 (by exact np_m_thrown) hb3 (rl_thrown) (by decide) ⟨rfl, rfl⟩ (Nat.le_of_ble_eq_true rfl) rfl ?_
    refine rs_iload d_l_law_297 rfl rfl ?_
    refine rs_icmp_eq (tgt := 304) d_l_law_299 rfl (by decide) (fun _ => ?_) (fun hc => absurd (rfl) hc)
    refine rs_iload d_l_law_304 rfl rfl ?_
    refine rs_if_ne (tgt := 328) d_l_law_306 rfl (by decide) (fun hc => absurd (rfl) hc) (fun _ => ?_)
    refine rs_aload_n d_l_law_309 rfl rfl ?_
    refine rs_iconst (v := (nI 0)) d_l_law_310 rfl (by decide) ?_
    refine rs_lald (j := 0) d_l_law_311 rfl rl_o (by decide) (by decide) ?_
    rw [rl_upd]
    refine rs_iload d_l_law_312 rfl rfl ?_
    rcases hv with rfl | rfl
    · refine rs_if_eq (tgt := 321) d_l_law_314 rfl (by decide) (fun _ => ?_) (fun hc => absurd (rfl) hc)
      refine rs_lconst (v := 0) d_l_law_321 rfl (by decide) ?_
      refine rs_lcmp d_l_law_322 rfl ?_
      rw [rl_c0]
      refine rs_if_eq (tgt := 328) d_l_law_323 rfl (by decide) (fun _ => ?_) (fun hc => absurd (rfl) hc)
      refine rs_goto (tgt := 1008) d_l_law_328 (by decide) ?_
      exact rsV_kc (by omega) (by omega) (kk _ _ _ _ _ _ hx')
    · refine rs_if_eq (tgt := 321) d_l_law_314 rfl (by decide) (fun hc => absurd hc (by decide)) (fun _ => ?_)
      refine rs_lconst (v := 1) d_l_law_317 rfl (by decide) ?_
      refine rs_goto (tgt := 322) d_l_law_318 (by decide) ?_
      refine rs_lcmp d_l_law_322 rfl ?_
      rw [rl_c1]
      refine rs_if_eq (tgt := 328) d_l_law_323 rfl (by decide) (fun _ => ?_) (fun hc => absurd (rfl) hc)
      refine rs_goto (tgt := 1008) d_l_law_328 (by decide) ?_
      exact rsV_kc (by omega) (by omega) (kk _ _ _ _ _ _ hx')
  · obtain ⟨w, rfl⟩ := hbv.1 rfl
    obtain ⟨fs2, hb2⟩ := rl_m (G := G) (x := x') (y := x) (th := th) (f := f)
    obtain ⟨fs3, hb3⟩ := rl_m (G := G) (x := x') (y := x') (th := 1) (f := f)
    refine rs_aload_n d_l_law_268 rfl rfl ?_
    refine rs_aload_n d_l_law_269 rfl rfl ?_
    refine rs_iload d_l_law_270 rfl rfl ?_
    refine rs_iconst (v := (nI 1)) d_l_law_272 rfl (by decide) ?_
    refine rs_iadd d_l_law_273 rfl ?_
    refine rs_tope (nI_add _ _) ?_
    refine rs_sld hX hbl hlen (by omega) d_l_law_274 rfl ?_
    refine rs_aload_n d_l_law_275 rfl rfl ?_
    refine rx_gS (kc' := kc) (ks' := ks) d_l_law_276 rfl c_l_92 (by exact np_l_remove) (h_remove_th0 hC) (by decide) ⟨Nat.le_refl _, Nat.le_refl _⟩ (Nat.le_of_ble_eq_true rfl) rfl ?_
    refine rs_istore d_l_law_279 rfl (by decide) rfl ?_
    refine rs_aload_n d_l_law_281 rfl rfl ?_
    refine rs_aload_n d_l_law_282 rfl rfl ?_
    refine rs_iload d_l_law_283 rfl rfl ?_
    refine rs_iconst (v := (nI 1)) d_l_law_285 rfl (by decide) ?_
    refine rs_iadd d_l_law_286 rfl ?_
    refine rs_tope (nI_add _ _) ?_
    refine rs_sld hX hbl hlen (by omega) d_l_law_287 rfl ?_
    refine rx_cV d_l_law_288 rfl c_l_95 (by exact np_m_remove) hb2 (rl_mo hM) (by decide) ⟨rfl, rfl⟩ (Nat.le_of_ble_eq_true rfl) rfl ?_
    refine rs_istore d_l_law_291 rfl (by decide) rfl ?_
    refine rs_aload_n d_l_law_293 rfl rfl ?_
    refine rx_cV d_l_law_294 rfl c_l_81 (by exact np_m_thrown) hb3 (rl_thrown) (by decide) ⟨rfl, rfl⟩ (Nat.le_of_ble_eq_true rfl) rfl ?_
    refine rs_iload d_l_law_297 rfl rfl ?_
    refine rs_icmp_eq (tgt := 304) d_l_law_299 rfl (by decide) (fun _ => ?_) (fun hc => absurd (rfl) hc)
    refine rs_iload d_l_law_304 rfl rfl ?_
    refine rs_if_ne (tgt := 328) d_l_law_306 rfl (by decide) (fun _ => ?_) (fun hc => absurd hc (by decide))
    refine rs_goto (tgt := 1008) d_l_law_328 (by decide) ?_
    exact kk _ _ _ _ _ _ hx'
  · obtain ⟨w, rfl⟩ := hbv.1 rfl
    obtain ⟨fs2, hb2⟩ := rl_m (G := G) (x := x') (y := x) (th := th) (f := f)
    obtain ⟨fs3, hb3⟩ := rl_m (G := G) (x := x') (y := x') (th := 2) (f := f)
    refine rs_aload_n d_l_law_268 rfl rfl ?_
    refine rs_aload_n d_l_law_269 rfl rfl ?_
    refine rs_iload d_l_law_270 rfl rfl ?_
    refine rs_iconst (v := (nI 1)) d_l_law_272 rfl (by decide) ?_
    refine rs_iadd d_l_law_273 rfl ?_
    refine rs_tope (nI_add _ _) ?_
    refine rs_sld hX hbl hlen (by omega) d_l_law_274 rfl ?_
    refine rs_aload_n d_l_law_275 rfl rfl ?_
    refine rx_gS (kc' := kc) (ks' := ks) d_l_law_276 rfl c_l_92 (by exact np_l_remove) (h_remove_th1 hC) (by decide) ⟨Nat.le_refl _, Nat.le_refl _⟩ (Nat.le_of_ble_eq_true rfl) rfl ?_
    refine rs_istore d_l_law_279 rfl (by decide) rfl ?_
    refine rs_aload_n d_l_law_281 rfl rfl ?_
    refine rs_aload_n d_l_law_282 rfl rfl ?_
    refine rs_iload d_l_law_283 rfl rfl ?_
    refine rs_iconst (v := (nI 1)) d_l_law_285 rfl (by decide) ?_
    refine rs_iadd d_l_law_286 rfl ?_
    refine rs_tope (nI_add _ _) ?_
    refine rs_sld hX hbl hlen (by omega) d_l_law_287 rfl ?_
    refine rx_cV d_l_law_288 rfl c_l_95 (by exact np_m_remove) hb2 (rl_mo hM) (by decide) ⟨rfl, rfl⟩ (Nat.le_of_ble_eq_true rfl) rfl ?_
    refine rs_istore d_l_law_291 rfl (by decide) rfl ?_
    refine rs_aload_n d_l_law_293 rfl rfl ?_
    refine rx_cV d_l_law_294 rfl c_l_81 (by exact np_m_thrown) hb3 (rl_thrown) (by decide) ⟨rfl, rfl⟩ (Nat.le_of_ble_eq_true rfl) rfl ?_
    refine rs_iload d_l_law_297 rfl rfl ?_
    refine rs_icmp_eq (tgt := 304) d_l_law_299 rfl (by decide) (fun _ => ?_) (fun hc => absurd (rfl) hc)
    refine rs_iload d_l_law_304 rfl rfl ?_
    refine rs_if_ne (tgt := 328) d_l_law_306 rfl (by decide) (fun _ => ?_) (fun hc => absurd hc (by decide))
    refine rs_goto (tgt := 1008) d_l_law_328 (by decide) ?_
    exact kk _ _ _ _ _ _ hx'
  · obtain ⟨w, rfl⟩ := hbv.1 rfl
    obtain ⟨fs2, hb2⟩ := rl_m (G := G) (x := x') (y := x) (th := th) (f := f)
    obtain ⟨fs3, hb3⟩ := rl_m (G := G) (x := x') (y := x') (th := 3) (f := f)
    refine rs_aload_n d_l_law_268 rfl rfl ?_
    refine rs_aload_n d_l_law_269 rfl rfl ?_
    refine rs_iload d_l_law_270 rfl rfl ?_
    refine rs_iconst (v := (nI 1)) d_l_law_272 rfl (by decide) ?_
    refine rs_iadd d_l_law_273 rfl ?_
    refine rs_tope (nI_add _ _) ?_
    refine rs_sld hX hbl hlen (by omega) d_l_law_274 rfl ?_
    refine rs_aload_n d_l_law_275 rfl rfl ?_
    refine rx_gS (kc' := kc) (ks' := ks) d_l_law_276 rfl c_l_92 (by exact np_l_remove) (h_remove_th2 hC) (by decide) ⟨Nat.le_refl _, Nat.le_refl _⟩ (Nat.le_of_ble_eq_true rfl) rfl ?_
    refine rs_istore d_l_law_279 rfl (by decide) rfl ?_
    refine rs_aload_n d_l_law_281 rfl rfl ?_
    refine rs_aload_n d_l_law_282 rfl rfl ?_
    refine rs_iload d_l_law_283 rfl rfl ?_
    refine rs_iconst (v := (nI 1)) d_l_law_285 rfl (by decide) ?_
    refine rs_iadd d_l_law_286 rfl ?_
    refine rs_tope (nI_add _ _) ?_
    refine rs_sld hX hbl hlen (by omega) d_l_law_287 rfl ?_
    refine rx_cV d_l_law_288 rfl c_l_95 (by exact np_m_remove) hb2 (rl_mo hM) (by decide) ⟨rfl, rfl⟩ (Nat.le_of_ble_eq_true rfl) rfl ?_
    refine rs_istore d_l_law_291 rfl (by decide) rfl ?_
    refine rs_aload_n d_l_law_293 rfl rfl ?_
    refine rx_cV d_l_law_294 rfl c_l_81 (by exact np_m_thrown) hb3 (rl_thrown) (by decide) ⟨rfl, rfl⟩ (Nat.le_of_ble_eq_true rfl) rfl ?_
    refine rs_iload d_l_law_297 rfl rfl ?_
    refine rs_icmp_eq (tgt := 304) d_l_law_299 rfl (by decide) (fun _ => ?_) (fun hc => absurd (rfl) hc)
    refine rs_iload d_l_law_304 rfl rfl ?_
    refine rs_if_ne (tgt := 328) d_l_law_306 rfl (by decide) (fun _ => ?_) (fun hc => absurd hc (by decide))
    refine rs_goto (tgt := 1008) d_l_law_328 (by decide) ?_
    exact kk _ _ _ _ _ _ hx'
set_option maxRecDepth 100000 in
theorem lc_get {G : rsG} {Q : rsR → rsH → Nat → Prop} {kc ks i sb Ln : Nat} {xs : Nat → Int32} {x5 x6 : Option Value} {x : rT} {th : Int32} {f : Nat → Int64} {n : Nat} (hX : va_X sb Ln xs (rsS0 G) (rsS0 G).heap) (hbl : sb < rsB G) (hlen : Ln ≤ 1536) (hi : i + 3 ≤ Ln) (hx : rjx x) (kk : ∀ (x' : rT) (th' : Int32) (f' : Nat → Int64) (n' : Nat) (x5 x6 : Option Value), rjx x' → rsV G M_l_law rmL Q kc ks 1008 [some (.ref sb), some (.ref (rsB G)), some (.ref (rsB G + 46)), some (.ref (rsB G + 50)), some (.int (nI i)), x5, x6] [] (rlw G x' x' th' f') n') : rsV G M_l_law rmL Q (kc + 1) (ks + 6) 331 [some (.ref sb), some (.ref (rsB G)), some (.ref (rsB G + 46)), some (.ref (rsB G + 50)), some (.int (nI i)), x5, x6] [] (rlw G x x th f) n := by
  rcases sm_get G hx (xs (i + 1)) with ⟨v, x', hx', hC, hM⟩ | ⟨x', b, hbv, hx', hC, hM⟩ | ⟨x', b, hbv, hx', hC, hM⟩ | ⟨x', b, hbv, hx', hC, hM⟩
  · obtain ⟨fs2, hb2⟩ := rl_m (G := G) (x := x') (y := x) (th := th) (f := (vp_updL f 0 v.toInt64))
    obtain ⟨fs3, hb3⟩ := rl_m (G := G) (x := x') (y := x') (th := 0) (f := (vp_updL f 0 v.toInt64))
    refine rs_aload_n d_l_law_331 rfl rfl ?_
    refine rs_aload_n d_l_law_332 rfl rfl ?_
    refine rs_iload d_l_law_333 rfl rfl ?_
    refine rs_iconst (v := (nI 1)) d_l_law_335 rfl (by decide) ?_
    refine rs_iadd d_l_law_336 rfl ?_
    refine rs_tope (nI_add _ _) ?_
    refine rs_sld hX hbl hlen (by omega) d_l_law_337 rfl ?_
    refine rs_aload_n d_l_law_338 rfl rfl ?_
    refine rx_cS d_l_law_339 rfl c_l_96 (by exact np_l_get) (h_get_ok hC) (by decide) ⟨rfl, rfl⟩ (Nat.le_of_ble_eq_true rfl) rfl ?_
    refine rs_istore d_l_law_342 rfl (by decide) rfl ?_
    refine rs_aload_n d_l_law_344 rfl rfl ?_
    refine rs_aload_n d_l_law_345 rfl rfl ?_
    refine rs_iload d_l_law_346 rfl rfl ?_
    refine rs_iconst (v := (nI 1)) d_l_law_348 rfl (by decide) ?_
    refine rs_iadd d_l_law_349 rfl ?_
    refine rs_tope (nI_add _ _) ?_
    refine rs_sld hX hbl hlen (by omega) d_l_law_350 rfl ?_
    refine rx_cV d_l_law_351 rfl c_l_98 (by exact np_m_get) hb2 (rl_mo hM) (by decide) ⟨rfl, rfl⟩ (Nat.le_of_ble_eq_true rfl) rfl ?_
    refine rs_istore d_l_law_354 rfl (by decide) rfl ?_
    refine rs_aload_n d_l_law_356 rfl rfl ?_
    refine rx_cV d_l_law_357 rfl c_l_81 (by exact np_m_thrown) hb3 (rl_thrown) (by decide) ⟨rfl, rfl⟩ (Nat.le_of_ble_eq_true rfl) rfl ?_
    refine rs_iload d_l_law_360 rfl rfl ?_
    refine rs_icmp_eq (tgt := 367) d_l_law_362 rfl (by decide) (fun _ => ?_) (fun hc => absurd (rfl) hc)
    refine rs_iload d_l_law_367 rfl rfl ?_
    refine rs_if_ne (tgt := 384) d_l_law_369 rfl (by decide) (fun hc => absurd (rfl) hc) (fun _ => ?_)
    refine rs_aload_n d_l_law_372 rfl rfl ?_
    refine rs_iconst (v := (nI 0)) d_l_law_373 rfl (by decide) ?_
    refine rs_lald (j := 0) d_l_law_374 rfl rl_o (by decide) (by decide) ?_
    rw [rl_upd]
    refine rs_iload d_l_law_375 rfl rfl ?_
    refine rs_i2l d_l_law_377 rfl ?_
    refine rs_lcmp d_l_law_378 rfl ?_
    rw [rl_cmp]
    refine rs_if_eq (tgt := 384) d_l_law_379 rfl (by decide) (fun _ => ?_) (fun hc => absurd (rfl) hc)
    refine rs_goto (tgt := 1008) d_l_law_384 (by decide) ?_
    exact rsV_kc (by omega) (by omega) (kk _ _ _ _ _ _ hx')
  · obtain ⟨w, rfl⟩ := hbv.1 rfl
    obtain ⟨fs2, hb2⟩ := rl_m (G := G) (x := x') (y := x) (th := th) (f := f)
    obtain ⟨fs3, hb3⟩ := rl_m (G := G) (x := x') (y := x') (th := 1) (f := f)
    refine rs_aload_n d_l_law_331 rfl rfl ?_
    refine rs_aload_n d_l_law_332 rfl rfl ?_
    refine rs_iload d_l_law_333 rfl rfl ?_
    refine rs_iconst (v := (nI 1)) d_l_law_335 rfl (by decide) ?_
    refine rs_iadd d_l_law_336 rfl ?_
    refine rs_tope (nI_add _ _) ?_
    refine rs_sld hX hbl hlen (by omega) d_l_law_337 rfl ?_
    refine rs_aload_n d_l_law_338 rfl rfl ?_
    refine rx_gS (kc' := kc) (ks' := ks) d_l_law_339 rfl c_l_96 (by exact np_l_get) (h_get_th0 hC) (by decide) ⟨Nat.le_refl _, Nat.le_refl _⟩ (Nat.le_of_ble_eq_true rfl) rfl ?_
    refine rs_istore d_l_law_342 rfl (by decide) rfl ?_
    refine rs_aload_n d_l_law_344 rfl rfl ?_
    refine rs_aload_n d_l_law_345 rfl rfl ?_
    refine rs_iload d_l_law_346 rfl rfl ?_
    refine rs_iconst (v := (nI 1)) d_l_law_348 rfl (by decide) ?_
    refine rs_iadd d_l_law_349 rfl ?_
    refine rs_tope (nI_add _ _) ?_
    refine rs_sld hX hbl hlen (by omega) d_l_law_350 rfl ?_
    refine rx_cV d_l_law_351 rfl c_l_98 (by exact np_m_get) hb2 (rl_mo hM) (by decide) ⟨rfl, rfl⟩ (Nat.le_of_ble_eq_true rfl) rfl ?_
    refine rs_istore d_l_law_354 rfl (by decide) rfl ?_
    refine rs_aload_n d_l_law_356 rfl rfl ?_
    refine rx_cV d_l_law_357 rfl c_l_81 (by exact np_m_thrown) hb3 (rl_thrown) (by decide) ⟨rfl, rfl⟩ (Nat.le_of_ble_eq_true rfl) rfl ?_
    refine rs_iload d_l_law_360 rfl rfl ?_
    refine rs_icmp_eq (tgt := 367) d_l_law_362 rfl (by decide) (fun _ => ?_) (fun hc => absurd (rfl) hc)
    refine rs_iload d_l_law_367 rfl rfl ?_
    refine rs_if_ne (tgt := 384) d_l_law_369 rfl (by decide) (fun _ => ?_) (fun hc => absurd hc (by decide))
    refine rs_goto (tgt := 1008) d_l_law_384 (by decide) ?_
    exact kk _ _ _ _ _ _ hx'
  · obtain ⟨w, rfl⟩ := hbv.1 rfl
    obtain ⟨fs2, hb2⟩ := rl_m (G := G) (x := x') (y := x) (th := th) (f := f)
    obtain ⟨fs3, hb3⟩ := rl_m (G := G) (x := x') (y := x') (th := 2) (f := f)
    refine rs_aload_n d_l_law_331 rfl rfl ?_
    refine rs_aload_n d_l_law_332 rfl rfl ?_
    refine rs_iload d_l_law_333 rfl rfl ?_
    refine rs_iconst (v := (nI 1)) d_l_law_335 rfl (by decide) ?_
    refine rs_iadd d_l_law_336 rfl ?_
    refine rs_tope (nI_add _ _) ?_
    refine rs_sld hX hbl hlen (by omega) d_l_law_337 rfl ?_
    refine rs_aload_n d_l_law_338 rfl rfl ?_
    refine rx_gS (kc' := kc) (ks' := ks) d_l_law_339 rfl c_l_96 (by exact np_l_get) (h_get_th1 hC) (by decide) ⟨Nat.le_refl _, Nat.le_refl _⟩ (Nat.le_of_ble_eq_true rfl) rfl ?_
    refine rs_istore d_l_law_342 rfl (by decide) rfl ?_
    refine rs_aload_n d_l_law_344 rfl rfl ?_
    refine rs_aload_n d_l_law_345 rfl rfl ?_
    refine rs_iload d_l_law_346 rfl rfl ?_
    refine rs_iconst (v := (nI 1)) d_l_law_348 rfl (by decide) ?_
    refine rs_iadd d_l_law_349 rfl ?_
    refine rs_tope (nI_add _ _) ?_
    refine rs_sld hX hbl hlen (by omega) d_l_law_350 rfl ?_
    refine rx_cV d_l_law_351 rfl c_l_98 (by exact np_m_get) hb2 (rl_mo hM) (by decide) ⟨rfl, rfl⟩ (Nat.le_of_ble_eq_true rfl) rfl ?_
    refine rs_istore d_l_law_354 rfl (by decide) rfl ?_
    refine rs_aload_n d_l_law_356 rfl rfl ?_
    refine rx_cV d_l_law_357 rfl c_l_81 (by exact np_m_thrown) hb3 (rl_thrown) (by decide) ⟨rfl, rfl⟩ (Nat.le_of_ble_eq_true rfl) rfl ?_
    refine rs_iload d_l_law_360 rfl rfl ?_
    refine rs_icmp_eq (tgt := 367) d_l_law_362 rfl (by decide) (fun _ => ?_) (fun hc => absurd (rfl) hc)
    refine rs_iload d_l_law_367 rfl rfl ?_
    refine rs_if_ne (tgt := 384) d_l_law_369 rfl (by decide) (fun _ => ?_) (fun hc => absurd hc (by decide))
    refine rs_goto (tgt := 1008) d_l_law_384 (by decide) ?_
    exact kk _ _ _ _ _ _ hx'
  · obtain ⟨w, rfl⟩ := hbv.1 rfl
    obtain ⟨fs2, hb2⟩ := rl_m (G := G) (x := x') (y := x) (th := th) (f := f)
    obtain ⟨fs3, hb3⟩ := rl_m (G := G) (x := x') (y := x') (th := 3) (f := f)
    refine rs_aload_n d_l_law_331 rfl rfl ?_
    refine rs_aload_n d_l_law_332 rfl rfl ?_
    refine rs_iload d_l_law_333 rfl rfl ?_
    refine rs_iconst (v := (nI 1)) d_l_law_335 rfl (by decide) ?_
    refine rs_iadd d_l_law_336 rfl ?_
    refine rs_tope (nI_add _ _) ?_
    refine rs_sld hX hbl hlen (by omega) d_l_law_337 rfl ?_
    refine rs_aload_n d_l_law_338 rfl rfl ?_
    refine rx_gS (kc' := kc) (ks' := ks) d_l_law_339 rfl c_l_96 (by exact np_l_get) (h_get_th3 hC) (by decide) ⟨Nat.le_refl _, Nat.le_refl _⟩ (Nat.le_of_ble_eq_true rfl) rfl ?_
    refine rs_istore d_l_law_342 rfl (by decide) rfl ?_
    refine rs_aload_n d_l_law_344 rfl rfl ?_
    refine rs_aload_n d_l_law_345 rfl rfl ?_
    refine rs_iload d_l_law_346 rfl rfl ?_
    refine rs_iconst (v := (nI 1)) d_l_law_348 rfl (by decide) ?_
    refine rs_iadd d_l_law_349 rfl ?_
    refine rs_tope (nI_add _ _) ?_
    refine rs_sld hX hbl hlen (by omega) d_l_law_350 rfl ?_
    refine rx_cV d_l_law_351 rfl c_l_98 (by exact np_m_get) hb2 (rl_mo hM) (by decide) ⟨rfl, rfl⟩ (Nat.le_of_ble_eq_true rfl) rfl ?_
    refine rs_istore d_l_law_354 rfl (by decide) rfl ?_
    refine rs_aload_n d_l_law_356 rfl rfl ?_
    refine rx_cV d_l_law_357 rfl c_l_81 (by exact np_m_thrown) hb3 (rl_thrown) (by decide) ⟨rfl, rfl⟩ (Nat.le_of_ble_eq_true rfl) rfl ?_
    refine rs_iload d_l_law_360 rfl rfl ?_
    refine rs_icmp_eq (tgt := 367) d_l_law_362 rfl (by decide) (fun _ => ?_) (fun hc => absurd (rfl) hc)
    refine rs_iload d_l_law_367 rfl rfl ?_
    refine rs_if_ne (tgt := 384) d_l_law_369 rfl (by decide) (fun _ => ?_) (fun hc => absurd hc (by decide))
    refine rs_goto (tgt := 1008) d_l_law_384 (by decide) ?_
    exact kk _ _ _ _ _ _ hx'
set_option maxRecDepth 100000 in
theorem lc_has {G : rsG} {Q : rsR → rsH → Nat → Prop} {kc ks i sb Ln : Nat} {xs : Nat → Int32} {x5 x6 : Option Value} {x : rT} {th : Int32} {f : Nat → Int64} {n : Nat} (hX : va_X sb Ln xs (rsS0 G) (rsS0 G).heap) (hbl : sb < rsB G) (hlen : Ln ≤ 1536) (hi : i + 3 ≤ Ln) (hx : rjx x) (kk : ∀ (x' : rT) (th' : Int32) (f' : Nat → Int64) (n' : Nat) (x5 x6 : Option Value), rjx x' → rsV G M_l_law rmL Q kc ks 1008 [some (.ref sb), some (.ref (rsB G)), some (.ref (rsB G + 46)), some (.ref (rsB G + 50)), some (.int (nI i)), x5, x6] [] (rlw G x' x' th' f') n') : rsV G M_l_law rmL Q (kc + 1) (ks + 6) 387 [some (.ref sb), some (.ref (rsB G)), some (.ref (rsB G + 46)), some (.ref (rsB G + 50)), some (.int (nI i)), x5, x6] [] (rlw G x x th f) n := by
  rcases sm_has G hx (xs (i + 1)) with ⟨v, hv, x', hx', hC, hM⟩ | ⟨x', b, hbv, hx', hC, hM⟩ | ⟨x', b, hbv, hx', hC, hM⟩
  · obtain ⟨fs2, hb2⟩ := rl_m (G := G) (x := x') (y := x) (th := th) (f := (vp_updL f 0 v.toInt64))
    obtain ⟨fs3, hb3⟩ := rl_m (G := G) (x := x') (y := x') (th := 0) (f := (vp_updL f 0 v.toInt64))
    refine rs_aload_n d_l_law_387 rfl rfl ?_
    refine rs_aload_n d_l_law_388 rfl rfl ?_
    refine rs_iload d_l_law_389 rfl rfl ?_
    refine rs_iconst (v := (nI 1)) d_l_law_391 rfl (by decide) ?_
    refine rs_iadd d_l_law_392 rfl ?_
    refine rs_tope (nI_add _ _) ?_
    refine rs_sld hX hbl hlen (by omega) d_l_law_393 rfl ?_
    refine rs_aload_n d_l_law_394 rfl rfl ?_
    refine rx_cS d_l_law_395 rfl c_l_99 (by exact np_l_has) (h_has_ok hv hC) (by decide) ⟨rfl, rfl⟩ (Nat.le_of_ble_eq_true rfl) rfl ?_
    refine rs_istore d_l_law_398 rfl (by decide) rfl ?_
    refine rs_aload_n d_l_law_400 rfl rfl ?_
    refine rs_aload_n d_l_law_401 rfl rfl ?_
    refine rs_iload d_l_law_402 rfl rfl ?_
    refine rs_iconst (v := (nI 1)) d_l_law_404 rfl (by decide) ?_
    refine rs_iadd d_l_law_405 rfl ?_
    refine rs_tope (nI_add _ _) ?_
    refine rs_sld hX hbl hlen (by omega) d_l_law_406 rfl ?_
    refine rx_cV d_l_law_407 rfl c_l_101 (by exact np_m_has) hb2 (rl_mo hM) (by decide) ⟨rfl, rfl⟩ (Nat.le_of_ble_eq_true rfl) rfl ?_
    refine rs_istore d_l_law_410 rfl (by decide) rfl ?_
    refine rs_aload_n d_l_law_412 rfl rfl ?_
    refine rx_cV d_l_law_413 rfl c_l_81 (by exact np_m_thrown) hb3 (rl_thrown) (by decide) ⟨rfl, rfl⟩ (Nat.le_of_ble_eq_true rfl) rfl ?_
    refine rs_iload d_l_law_416 rfl rfl ?_
    refine rs_icmp_eq (tgt := 423) d_l_law_418 rfl (by decide) (fun _ => ?_) (fun hc => absurd (rfl) hc)
    refine rs_iload d_l_law_423 rfl rfl ?_
    refine rs_if_ne (tgt := 447) d_l_law_425 rfl (by decide) (fun hc => absurd (rfl) hc) (fun _ => ?_)
    refine rs_aload_n d_l_law_428 rfl rfl ?_
    refine rs_iconst (v := (nI 0)) d_l_law_429 rfl (by decide) ?_
    refine rs_lald (j := 0) d_l_law_430 rfl rl_o (by decide) (by decide) ?_
    rw [rl_upd]
    refine rs_iload d_l_law_431 rfl rfl ?_
    rcases hv with rfl | rfl
    · refine rs_if_eq (tgt := 440) d_l_law_433 rfl (by decide) (fun _ => ?_) (fun hc => absurd (rfl) hc)
      refine rs_lconst (v := 0) d_l_law_440 rfl (by decide) ?_
      refine rs_lcmp d_l_law_441 rfl ?_
      rw [rl_c0]
      refine rs_if_eq (tgt := 447) d_l_law_442 rfl (by decide) (fun _ => ?_) (fun hc => absurd (rfl) hc)
      refine rs_goto (tgt := 1008) d_l_law_447 (by decide) ?_
      exact rsV_kc (by omega) (by omega) (kk _ _ _ _ _ _ hx')
    · refine rs_if_eq (tgt := 440) d_l_law_433 rfl (by decide) (fun hc => absurd hc (by decide)) (fun _ => ?_)
      refine rs_lconst (v := 1) d_l_law_436 rfl (by decide) ?_
      refine rs_goto (tgt := 441) d_l_law_437 (by decide) ?_
      refine rs_lcmp d_l_law_441 rfl ?_
      rw [rl_c1]
      refine rs_if_eq (tgt := 447) d_l_law_442 rfl (by decide) (fun _ => ?_) (fun hc => absurd (rfl) hc)
      refine rs_goto (tgt := 1008) d_l_law_447 (by decide) ?_
      exact rsV_kc (by omega) (by omega) (kk _ _ _ _ _ _ hx')
  · obtain ⟨w, rfl⟩ := hbv.1 rfl
    obtain ⟨fs2, hb2⟩ := rl_m (G := G) (x := x') (y := x) (th := th) (f := f)
    obtain ⟨fs3, hb3⟩ := rl_m (G := G) (x := x') (y := x') (th := 1) (f := f)
    refine rs_aload_n d_l_law_387 rfl rfl ?_
    refine rs_aload_n d_l_law_388 rfl rfl ?_
    refine rs_iload d_l_law_389 rfl rfl ?_
    refine rs_iconst (v := (nI 1)) d_l_law_391 rfl (by decide) ?_
    refine rs_iadd d_l_law_392 rfl ?_
    refine rs_tope (nI_add _ _) ?_
    refine rs_sld hX hbl hlen (by omega) d_l_law_393 rfl ?_
    refine rs_aload_n d_l_law_394 rfl rfl ?_
    refine rx_gS (kc' := kc) (ks' := ks) d_l_law_395 rfl c_l_99 (by exact np_l_has) (h_has_th0 hC) (by decide) ⟨Nat.le_refl _, Nat.le_refl _⟩ (Nat.le_of_ble_eq_true rfl) rfl ?_
    refine rs_istore d_l_law_398 rfl (by decide) rfl ?_
    refine rs_aload_n d_l_law_400 rfl rfl ?_
    refine rs_aload_n d_l_law_401 rfl rfl ?_
    refine rs_iload d_l_law_402 rfl rfl ?_
    refine rs_iconst (v := (nI 1)) d_l_law_404 rfl (by decide) ?_
    refine rs_iadd d_l_law_405 rfl ?_
    refine rs_tope (nI_add _ _) ?_
    refine rs_sld hX hbl hlen (by omega) d_l_law_406 rfl ?_
    refine rx_cV d_l_law_407 rfl c_l_101 (by exact np_m_has) hb2 (rl_mo hM) (by decide) ⟨rfl, rfl⟩ (Nat.le_of_ble_eq_true rfl) rfl ?_
    refine rs_istore d_l_law_410 rfl (by decide) rfl ?_
    refine rs_aload_n d_l_law_412 rfl rfl ?_
    refine rx_cV d_l_law_413 rfl c_l_81 (by exact np_m_thrown) hb3 (rl_thrown) (by decide) ⟨rfl, rfl⟩ (Nat.le_of_ble_eq_true rfl) rfl ?_
    refine rs_iload d_l_law_416 rfl rfl ?_
    refine rs_icmp_eq (tgt := 423) d_l_law_418 rfl (by decide) (fun _ => ?_) (fun hc => absurd (rfl) hc)
    refine rs_iload d_l_law_423 rfl rfl ?_
    refine rs_if_ne (tgt := 447) d_l_law_425 rfl (by decide) (fun _ => ?_) (fun hc => absurd hc (by decide))
    refine rs_goto (tgt := 1008) d_l_law_447 (by decide) ?_
    exact kk _ _ _ _ _ _ hx'
  · obtain ⟨w, rfl⟩ := hbv.1 rfl
    obtain ⟨fs2, hb2⟩ := rl_m (G := G) (x := x') (y := x) (th := th) (f := f)
    obtain ⟨fs3, hb3⟩ := rl_m (G := G) (x := x') (y := x') (th := 2) (f := f)
    refine rs_aload_n d_l_law_387 rfl rfl ?_
    refine rs_aload_n d_l_law_388 rfl rfl ?_
    refine rs_iload d_l_law_389 rfl rfl ?_
    refine rs_iconst (v := (nI 1)) d_l_law_391 rfl (by decide) ?_
    refine rs_iadd d_l_law_392 rfl ?_
    refine rs_tope (nI_add _ _) ?_
    refine rs_sld hX hbl hlen (by omega) d_l_law_393 rfl ?_
    refine rs_aload_n d_l_law_394 rfl rfl ?_
    refine rx_gS (kc' := kc) (ks' := ks) d_l_law_395 rfl c_l_99 (by exact np_l_has) (h_has_th1 hC) (by decide) ⟨Nat.le_refl _, Nat.le_refl _⟩ (Nat.le_of_ble_eq_true rfl) rfl ?_
    refine rs_istore d_l_law_398 rfl (by decide) rfl ?_
    refine rs_aload_n d_l_law_400 rfl rfl ?_
    refine rs_aload_n d_l_law_401 rfl rfl ?_
    refine rs_iload d_l_law_402 rfl rfl ?_
    refine rs_iconst (v := (nI 1)) d_l_law_404 rfl (by decide) ?_
    refine rs_iadd d_l_law_405 rfl ?_
    refine rs_tope (nI_add _ _) ?_
    refine rs_sld hX hbl hlen (by omega) d_l_law_406 rfl ?_
    refine rx_cV d_l_law_407 rfl c_l_101 (by exact np_m_has) hb2 (rl_mo hM) (by decide) ⟨rfl, rfl⟩ (Nat.le_of_ble_eq_true rfl) rfl ?_
    refine rs_istore d_l_law_410 rfl (by decide) rfl ?_
    refine rs_aload_n d_l_law_412 rfl rfl ?_
    refine rx_cV d_l_law_413 rfl c_l_81 (by exact np_m_thrown) hb3 (rl_thrown) (by decide) ⟨rfl, rfl⟩ (Nat.le_of_ble_eq_true rfl) rfl ?_
    refine rs_iload d_l_law_416 rfl rfl ?_
    refine rs_icmp_eq (tgt := 423) d_l_law_418 rfl (by decide) (fun _ => ?_) (fun hc => absurd (rfl) hc)
    refine rs_iload d_l_law_423 rfl rfl ?_
    refine rs_if_ne (tgt := 447) d_l_law_425 rfl (by decide) (fun _ => ?_) (fun hc => absurd hc (by decide))
    refine rs_goto (tgt := 1008) d_l_law_447 (by decide) ?_
    exact kk _ _ _ _ _ _ hx'
set_option maxRecDepth 100000 in
theorem lc_flush {G : rsG} {Q : rsR → rsH → Nat → Prop} {kc ks i sb Ln : Nat} {xs : Nat → Int32} {x5 x6 : Option Value} {x : rT} {th : Int32} {f : Nat → Int64} {n : Nat} (hX : va_X sb Ln xs (rsS0 G) (rsS0 G).heap) (hbl : sb < rsB G) (hlen : Ln ≤ 1536) (hi : i + 3 ≤ Ln) (hx : rjx x) (kk : ∀ (x' : rT) (th' : Int32) (f' : Nat → Int64) (n' : Nat) (x5 x6 : Option Value), rjx x' → rsV G M_l_law rmL Q kc ks 1008 [some (.ref sb), some (.ref (rsB G)), some (.ref (rsB G + 46)), some (.ref (rsB G + 50)), some (.int (nI i)), x5, x6] [] (rlw G x' x' th' f') n') : rsV G M_l_law rmL Q (kc + 1) (ks + 6) 450 [some (.ref sb), some (.ref (rsB G)), some (.ref (rsB G + 46)), some (.ref (rsB G + 50)), some (.int (nI i)), x5, x6] [] (rlw G x x th f) n := by
  rcases sm_flush G hx with ⟨v, x', hx', hC, hM⟩ | ⟨x', b, hbv, hx', hC, hM⟩ | ⟨x', b, hbv, hx', hC, hM⟩
  · obtain ⟨fs2, hb2⟩ := rl_m (G := G) (x := x') (y := x) (th := th) (f := (vp_updL f 0 v.toInt64))
    obtain ⟨fs3, hb3⟩ := rl_m (G := G) (x := x') (y := x') (th := 0) (f := (vp_updL f 0 v.toInt64))
    refine rs_aload_n d_l_law_450 rfl rfl ?_
    refine rs_aload_n d_l_law_451 rfl rfl ?_
    refine rx_cS d_l_law_452 rfl c_l_102 (by exact np_l_flush) (h_flush_ok hC) (by decide) ⟨rfl, rfl⟩ (Nat.le_of_ble_eq_true rfl) rfl ?_
    refine rs_istore d_l_law_455 rfl (by decide) rfl ?_
    refine rs_aload_n d_l_law_457 rfl rfl ?_
    refine rx_cV d_l_law_458 rfl c_l_104 (by exact np_m_flush) hb2 (rl_mo hM) (by decide) ⟨rfl, rfl⟩ (Nat.le_of_ble_eq_true rfl) rfl ?_
    refine rs_istore d_l_law_461 rfl (by decide) rfl ?_
    refine rs_aload_n d_l_law_463 rfl rfl ?_
    refine rx_cV d_l_law_464 rfl c_l_81 (by exact np_m_thrown) hb3 (rl_thrown) (by decide) ⟨rfl, rfl⟩ (Nat.le_of_ble_eq_true rfl) rfl ?_
    refine rs_iload d_l_law_467 rfl rfl ?_
    refine rs_icmp_eq (tgt := 474) d_l_law_469 rfl (by decide) (fun _ => ?_) (fun hc => absurd (rfl) hc)
    refine rs_iload d_l_law_474 rfl rfl ?_
    refine rs_if_ne (tgt := 491) d_l_law_476 rfl (by decide) (fun hc => absurd (rfl) hc) (fun _ => ?_)
    refine rs_aload_n d_l_law_479 rfl rfl ?_
    refine rs_iconst (v := (nI 0)) d_l_law_480 rfl (by decide) ?_
    refine rs_lald (j := 0) d_l_law_481 rfl rl_o (by decide) (by decide) ?_
    rw [rl_upd]
    refine rs_iload d_l_law_482 rfl rfl ?_
    refine rs_i2l d_l_law_484 rfl ?_
    refine rs_lcmp d_l_law_485 rfl ?_
    rw [rl_cmp]
    refine rs_if_eq (tgt := 491) d_l_law_486 rfl (by decide) (fun _ => ?_) (fun hc => absurd (rfl) hc)
    refine rs_goto (tgt := 1008) d_l_law_491 (by decide) ?_
    exact rsV_kc (by omega) (by omega) (kk _ _ _ _ _ _ hx')
  · obtain ⟨w, rfl⟩ := hbv.1 rfl
    obtain ⟨fs2, hb2⟩ := rl_m (G := G) (x := x') (y := x) (th := th) (f := f)
    obtain ⟨fs3, hb3⟩ := rl_m (G := G) (x := x') (y := x') (th := 1) (f := f)
    refine rs_aload_n d_l_law_450 rfl rfl ?_
    refine rs_aload_n d_l_law_451 rfl rfl ?_
    refine rx_gS (kc' := kc) (ks' := ks) d_l_law_452 rfl c_l_102 (by exact np_l_flush) (h_flush_th1 hC) (by decide) ⟨Nat.le_refl _, Nat.le_refl _⟩ (Nat.le_of_ble_eq_true rfl) rfl ?_
    refine rs_istore d_l_law_455 rfl (by decide) rfl ?_
    refine rs_aload_n d_l_law_457 rfl rfl ?_
    refine rx_cV d_l_law_458 rfl c_l_104 (by exact np_m_flush) hb2 (rl_mo hM) (by decide) ⟨rfl, rfl⟩ (Nat.le_of_ble_eq_true rfl) rfl ?_
    refine rs_istore d_l_law_461 rfl (by decide) rfl ?_
    refine rs_aload_n d_l_law_463 rfl rfl ?_
    refine rx_cV d_l_law_464 rfl c_l_81 (by exact np_m_thrown) hb3 (rl_thrown) (by decide) ⟨rfl, rfl⟩ (Nat.le_of_ble_eq_true rfl) rfl ?_
    refine rs_iload d_l_law_467 rfl rfl ?_
    refine rs_icmp_eq (tgt := 474) d_l_law_469 rfl (by decide) (fun _ => ?_) (fun hc => absurd (rfl) hc)
    refine rs_iload d_l_law_474 rfl rfl ?_
    refine rs_if_ne (tgt := 491) d_l_law_476 rfl (by decide) (fun _ => ?_) (fun hc => absurd hc (by decide))
    refine rs_goto (tgt := 1008) d_l_law_491 (by decide) ?_
    exact kk _ _ _ _ _ _ hx'
  · obtain ⟨w, rfl⟩ := hbv.1 rfl
    obtain ⟨fs2, hb2⟩ := rl_m (G := G) (x := x') (y := x) (th := th) (f := f)
    obtain ⟨fs3, hb3⟩ := rl_m (G := G) (x := x') (y := x') (th := 2) (f := f)
    refine rs_aload_n d_l_law_450 rfl rfl ?_
    refine rs_aload_n d_l_law_451 rfl rfl ?_
    refine rx_gS (kc' := kc) (ks' := ks) d_l_law_452 rfl c_l_102 (by exact np_l_flush) (h_flush_th2 hC) (by decide) ⟨Nat.le_refl _, Nat.le_refl _⟩ (Nat.le_of_ble_eq_true rfl) rfl ?_
    refine rs_istore d_l_law_455 rfl (by decide) rfl ?_
    refine rs_aload_n d_l_law_457 rfl rfl ?_
    refine rx_cV d_l_law_458 rfl c_l_104 (by exact np_m_flush) hb2 (rl_mo hM) (by decide) ⟨rfl, rfl⟩ (Nat.le_of_ble_eq_true rfl) rfl ?_
    refine rs_istore d_l_law_461 rfl (by decide) rfl ?_
    refine rs_aload_n d_l_law_463 rfl rfl ?_
    refine rx_cV d_l_law_464 rfl c_l_81 (by exact np_m_thrown) hb3 (rl_thrown) (by decide) ⟨rfl, rfl⟩ (Nat.le_of_ble_eq_true rfl) rfl ?_
    refine rs_iload d_l_law_467 rfl rfl ?_
    refine rs_icmp_eq (tgt := 474) d_l_law_469 rfl (by decide) (fun _ => ?_) (fun hc => absurd (rfl) hc)
    refine rs_iload d_l_law_474 rfl rfl ?_
    refine rs_if_ne (tgt := 491) d_l_law_476 rfl (by decide) (fun _ => ?_) (fun hc => absurd hc (by decide))
    refine rs_goto (tgt := 1008) d_l_law_491 (by decide) ?_
    exact kk _ _ _ _ _ _ hx'
set_option maxRecDepth 100000 in
theorem lc_compact {G : rsG} {Q : rsR → rsH → Nat → Prop} {kc ks i sb Ln : Nat} {xs : Nat → Int32} {x5 x6 : Option Value} {x : rT} {th : Int32} {f : Nat → Int64} {n : Nat} (hX : va_X sb Ln xs (rsS0 G) (rsS0 G).heap) (hbl : sb < rsB G) (hlen : Ln ≤ 1536) (hi : i + 3 ≤ Ln) (hx : rjx x) (kk : ∀ (x' : rT) (th' : Int32) (f' : Nat → Int64) (n' : Nat) (x5 x6 : Option Value), rjx x' → rsV G M_l_law rmL Q kc ks 1008 [some (.ref sb), some (.ref (rsB G)), some (.ref (rsB G + 46)), some (.ref (rsB G + 50)), some (.int (nI i)), x5, x6] [] (rlw G x' x' th' f') n') : rsV G M_l_law rmL Q (kc + 1) (ks + 6) 494 [some (.ref sb), some (.ref (rsB G)), some (.ref (rsB G + 46)), some (.ref (rsB G + 50)), some (.int (nI i)), x5, x6] [] (rlw G x x th f) n := by
  rcases sm_compact G hx with ⟨v, x', hx', hC, hM⟩ | ⟨x', b, hbv, hx', hC, hM⟩ | ⟨x', b, hbv, hx', hC, hM⟩
  · obtain ⟨fs2, hb2⟩ := rl_m (G := G) (x := x') (y := x) (th := th) (f := (vp_updL f 0 v.toInt64))
    obtain ⟨fs3, hb3⟩ := rl_m (G := G) (x := x') (y := x') (th := 0) (f := (vp_updL f 0 v.toInt64))
    refine rs_aload_n d_l_law_494 rfl rfl ?_
    refine rs_aload_n d_l_law_495 rfl rfl ?_
    refine rx_cS d_l_law_496 rfl c_l_105 (by exact np_l_compact) (h_compact_ok hC) (by decide) ⟨rfl, rfl⟩ (Nat.le_of_ble_eq_true rfl) rfl ?_
    refine rs_istore d_l_law_499 rfl (by decide) rfl ?_
    refine rs_aload_n d_l_law_501 rfl rfl ?_
    refine rx_cV d_l_law_502 rfl c_l_107 (by exact np_m_compact) hb2 (rl_mo hM) (by decide) ⟨rfl, rfl⟩ (Nat.le_of_ble_eq_true rfl) rfl ?_
    refine rs_istore d_l_law_505 rfl (by decide) rfl ?_
    refine rs_aload_n d_l_law_507 rfl rfl ?_
    refine rx_cV d_l_law_508 rfl c_l_81 (by exact np_m_thrown) hb3 (rl_thrown) (by decide) ⟨rfl, rfl⟩ (Nat.le_of_ble_eq_true rfl) rfl ?_
    refine rs_iload d_l_law_511 rfl rfl ?_
    refine rs_icmp_eq (tgt := 518) d_l_law_513 rfl (by decide) (fun _ => ?_) (fun hc => absurd (rfl) hc)
    refine rs_iload d_l_law_518 rfl rfl ?_
    refine rs_if_ne (tgt := 535) d_l_law_520 rfl (by decide) (fun hc => absurd (rfl) hc) (fun _ => ?_)
    refine rs_aload_n d_l_law_523 rfl rfl ?_
    refine rs_iconst (v := (nI 0)) d_l_law_524 rfl (by decide) ?_
    refine rs_lald (j := 0) d_l_law_525 rfl rl_o (by decide) (by decide) ?_
    rw [rl_upd]
    refine rs_iload d_l_law_526 rfl rfl ?_
    refine rs_i2l d_l_law_528 rfl ?_
    refine rs_lcmp d_l_law_529 rfl ?_
    rw [rl_cmp]
    refine rs_if_eq (tgt := 535) d_l_law_530 rfl (by decide) (fun _ => ?_) (fun hc => absurd (rfl) hc)
    refine rs_goto (tgt := 1008) d_l_law_535 (by decide) ?_
    exact rsV_kc (by omega) (by omega) (kk _ _ _ _ _ _ hx')
  · obtain ⟨w, rfl⟩ := hbv.1 rfl
    obtain ⟨fs2, hb2⟩ := rl_m (G := G) (x := x') (y := x) (th := th) (f := f)
    obtain ⟨fs3, hb3⟩ := rl_m (G := G) (x := x') (y := x') (th := 1) (f := f)
    refine rs_aload_n d_l_law_494 rfl rfl ?_
    refine rs_aload_n d_l_law_495 rfl rfl ?_
    refine rx_gS (kc' := kc) (ks' := ks) d_l_law_496 rfl c_l_105 (by exact np_l_compact) (h_compact_th1 hC) (by decide) ⟨Nat.le_refl _, Nat.le_refl _⟩ (Nat.le_of_ble_eq_true rfl) rfl ?_
    refine rs_istore d_l_law_499 rfl (by decide) rfl ?_
    refine rs_aload_n d_l_law_501 rfl rfl ?_
    refine rx_cV d_l_law_502 rfl c_l_107 (by exact np_m_compact) hb2 (rl_mo hM) (by decide) ⟨rfl, rfl⟩ (Nat.le_of_ble_eq_true rfl) rfl ?_
    refine rs_istore d_l_law_505 rfl (by decide) rfl ?_
    refine rs_aload_n d_l_law_507 rfl rfl ?_
    refine rx_cV d_l_law_508 rfl c_l_81 (by exact np_m_thrown) hb3 (rl_thrown) (by decide) ⟨rfl, rfl⟩ (Nat.le_of_ble_eq_true rfl) rfl ?_
    refine rs_iload d_l_law_511 rfl rfl ?_
    refine rs_icmp_eq (tgt := 518) d_l_law_513 rfl (by decide) (fun _ => ?_) (fun hc => absurd (rfl) hc)
    refine rs_iload d_l_law_518 rfl rfl ?_
    refine rs_if_ne (tgt := 535) d_l_law_520 rfl (by decide) (fun _ => ?_) (fun hc => absurd hc (by decide))
    refine rs_goto (tgt := 1008) d_l_law_535 (by decide) ?_
    exact kk _ _ _ _ _ _ hx'
  · obtain ⟨w, rfl⟩ := hbv.1 rfl
    obtain ⟨fs2, hb2⟩ := rl_m (G := G) (x := x') (y := x) (th := th) (f := f)
    obtain ⟨fs3, hb3⟩ := rl_m (G := G) (x := x') (y := x') (th := 2) (f := f)
    refine rs_aload_n d_l_law_494 rfl rfl ?_
    refine rs_aload_n d_l_law_495 rfl rfl ?_
    refine rx_gS (kc' := kc) (ks' := ks) d_l_law_496 rfl c_l_105 (by exact np_l_compact) (h_compact_th2 hC) (by decide) ⟨Nat.le_refl _, Nat.le_refl _⟩ (Nat.le_of_ble_eq_true rfl) rfl ?_
    refine rs_istore d_l_law_499 rfl (by decide) rfl ?_
    refine rs_aload_n d_l_law_501 rfl rfl ?_
    refine rx_cV d_l_law_502 rfl c_l_107 (by exact np_m_compact) hb2 (rl_mo hM) (by decide) ⟨rfl, rfl⟩ (Nat.le_of_ble_eq_true rfl) rfl ?_
    refine rs_istore d_l_law_505 rfl (by decide) rfl ?_
    refine rs_aload_n d_l_law_507 rfl rfl ?_
    refine rx_cV d_l_law_508 rfl c_l_81 (by exact np_m_thrown) hb3 (rl_thrown) (by decide) ⟨rfl, rfl⟩ (Nat.le_of_ble_eq_true rfl) rfl ?_
    refine rs_iload d_l_law_511 rfl rfl ?_
    refine rs_icmp_eq (tgt := 518) d_l_law_513 rfl (by decide) (fun _ => ?_) (fun hc => absurd (rfl) hc)
    refine rs_iload d_l_law_518 rfl rfl ?_
    refine rs_if_ne (tgt := 535) d_l_law_520 rfl (by decide) (fun _ => ?_) (fun hc => absurd hc (by decide))
    refine rs_goto (tgt := 1008) d_l_law_535 (by decide) ?_
    exact kk _ _ _ _ _ _ hx'
set_option maxRecDepth 100000 in
theorem lc_merge {G : rsG} {Q : rsR → rsH → Nat → Prop} {kc ks i sb Ln : Nat} {xs : Nat → Int32} {x5 x6 : Option Value} {x : rT} {th : Int32} {f : Nat → Int64} {n : Nat} (hX : va_X sb Ln xs (rsS0 G) (rsS0 G).heap) (hbl : sb < rsB G) (hlen : Ln ≤ 1536) (hi : i + 3 ≤ Ln) (hx : rjx x) (kk : ∀ (x' : rT) (th' : Int32) (f' : Nat → Int64) (n' : Nat) (x5 x6 : Option Value), rjx x' → rsV G M_l_law rmL Q kc ks 1008 [some (.ref sb), some (.ref (rsB G)), some (.ref (rsB G + 46)), some (.ref (rsB G + 50)), some (.int (nI i)), x5, x6] [] (rlw G x' x' th' f') n') : rsV G M_l_law rmL Q (kc + 1) (ks + 6) 538 [some (.ref sb), some (.ref (rsB G)), some (.ref (rsB G + 46)), some (.ref (rsB G + 50)), some (.int (nI i)), x5, x6] [] (rlw G x x th f) n := by
  rcases sm_merge G hx (xs (i + 1)) with ⟨v, x', hx', hC, hM⟩ | ⟨x', b, hbv, hx', hC, hM⟩ | ⟨x', b, hbv, hx', hC, hM⟩ | ⟨x', b, hbv, hx', hC, hM⟩
  · obtain ⟨fs2, hb2⟩ := rl_m (G := G) (x := x') (y := x) (th := th) (f := (vp_updL f 0 v.toInt64))
    obtain ⟨fs3, hb3⟩ := rl_m (G := G) (x := x') (y := x') (th := 0) (f := (vp_updL f 0 v.toInt64))
    refine rs_aload_n d_l_law_538 rfl rfl ?_
    refine rs_aload_n d_l_law_539 rfl rfl ?_
    refine rs_iload d_l_law_540 rfl rfl ?_
    refine rs_iconst (v := (nI 1)) d_l_law_542 rfl (by decide) ?_
    refine rs_iadd d_l_law_543 rfl ?_
    refine rs_tope (nI_add _ _) ?_
    refine rs_sld hX hbl hlen (by omega) d_l_law_544 rfl ?_
    refine rs_aload_n d_l_law_545 rfl rfl ?_
    refine rx_cS d_l_law_546 rfl c_l_108 (by exact np_l_merge) (h_merge_ok hC) (by decide) ⟨rfl, rfl⟩ (Nat.le_of_ble_eq_true rfl) rfl ?_
    refine rs_istore d_l_law_549 rfl (by decide) rfl ?_
    refine rs_aload_n d_l_law_551 rfl rfl ?_
    refine rs_aload_n d_l_law_552 rfl rfl ?_
    refine rs_iload d_l_law_553 rfl rfl ?_
    refine rs_iconst (v := (nI 1)) d_l_law_555 rfl (by decide) ?_
    refine rs_iadd d_l_law_556 rfl ?_
    refine rs_tope (nI_add _ _) ?_
    refine rs_sld hX hbl hlen (by omega) d_l_law_557 rfl ?_
    refine rx_cV d_l_law_558 rfl c_l_110 (by exact np_m_merge) hb2 (rl_mo hM) (by decide) ⟨rfl, rfl⟩ (Nat.le_of_ble_eq_true rfl) rfl ?_
    refine rs_istore d_l_law_561 rfl (by decide) rfl ?_
    refine rs_aload_n d_l_law_563 rfl rfl ?_
    refine rx_cV d_l_law_564 rfl c_l_81 (by exact np_m_thrown) hb3 (rl_thrown) (by decide) ⟨rfl, rfl⟩ (Nat.le_of_ble_eq_true rfl) rfl ?_
    refine rs_iload d_l_law_567 rfl rfl ?_
    refine rs_icmp_eq (tgt := 574) d_l_law_569 rfl (by decide) (fun _ => ?_) (fun hc => absurd (rfl) hc)
    refine rs_iload d_l_law_574 rfl rfl ?_
    refine rs_if_ne (tgt := 591) d_l_law_576 rfl (by decide) (fun hc => absurd (rfl) hc) (fun _ => ?_)
    refine rs_aload_n d_l_law_579 rfl rfl ?_
    refine rs_iconst (v := (nI 0)) d_l_law_580 rfl (by decide) ?_
    refine rs_lald (j := 0) d_l_law_581 rfl rl_o (by decide) (by decide) ?_
    rw [rl_upd]
    refine rs_iload d_l_law_582 rfl rfl ?_
    refine rs_i2l d_l_law_584 rfl ?_
    refine rs_lcmp d_l_law_585 rfl ?_
    rw [rl_cmp]
    refine rs_if_eq (tgt := 591) d_l_law_586 rfl (by decide) (fun _ => ?_) (fun hc => absurd (rfl) hc)
    refine rs_goto (tgt := 1008) d_l_law_591 (by decide) ?_
    exact rsV_kc (by omega) (by omega) (kk _ _ _ _ _ _ hx')
  · obtain ⟨w, rfl⟩ := hbv.1 rfl
    obtain ⟨fs2, hb2⟩ := rl_m (G := G) (x := x') (y := x) (th := th) (f := f)
    obtain ⟨fs3, hb3⟩ := rl_m (G := G) (x := x') (y := x') (th := 1) (f := f)
    refine rs_aload_n d_l_law_538 rfl rfl ?_
    refine rs_aload_n d_l_law_539 rfl rfl ?_
    refine rs_iload d_l_law_540 rfl rfl ?_
    refine rs_iconst (v := (nI 1)) d_l_law_542 rfl (by decide) ?_
    refine rs_iadd d_l_law_543 rfl ?_
    refine rs_tope (nI_add _ _) ?_
    refine rs_sld hX hbl hlen (by omega) d_l_law_544 rfl ?_
    refine rs_aload_n d_l_law_545 rfl rfl ?_
    refine rx_gS (kc' := kc) (ks' := ks) d_l_law_546 rfl c_l_108 (by exact np_l_merge) (h_merge_th0 hC) (by decide) ⟨Nat.le_refl _, Nat.le_refl _⟩ (Nat.le_of_ble_eq_true rfl) rfl ?_
    refine rs_istore d_l_law_549 rfl (by decide) rfl ?_
    refine rs_aload_n d_l_law_551 rfl rfl ?_
    refine rs_aload_n d_l_law_552 rfl rfl ?_
    refine rs_iload d_l_law_553 rfl rfl ?_
    refine rs_iconst (v := (nI 1)) d_l_law_555 rfl (by decide) ?_
    refine rs_iadd d_l_law_556 rfl ?_
    refine rs_tope (nI_add _ _) ?_
    refine rs_sld hX hbl hlen (by omega) d_l_law_557 rfl ?_
    refine rx_cV d_l_law_558 rfl c_l_110 (by exact np_m_merge) hb2 (rl_mo hM) (by decide) ⟨rfl, rfl⟩ (Nat.le_of_ble_eq_true rfl) rfl ?_
    refine rs_istore d_l_law_561 rfl (by decide) rfl ?_
    refine rs_aload_n d_l_law_563 rfl rfl ?_
    refine rx_cV d_l_law_564 rfl c_l_81 (by exact np_m_thrown) hb3 (rl_thrown) (by decide) ⟨rfl, rfl⟩ (Nat.le_of_ble_eq_true rfl) rfl ?_
    refine rs_iload d_l_law_567 rfl rfl ?_
    refine rs_icmp_eq (tgt := 574) d_l_law_569 rfl (by decide) (fun _ => ?_) (fun hc => absurd (rfl) hc)
    refine rs_iload d_l_law_574 rfl rfl ?_
    refine rs_if_ne (tgt := 591) d_l_law_576 rfl (by decide) (fun _ => ?_) (fun hc => absurd hc (by decide))
    refine rs_goto (tgt := 1008) d_l_law_591 (by decide) ?_
    exact kk _ _ _ _ _ _ hx'
  · obtain ⟨w, rfl⟩ := hbv.1 rfl
    obtain ⟨fs2, hb2⟩ := rl_m (G := G) (x := x') (y := x) (th := th) (f := f)
    obtain ⟨fs3, hb3⟩ := rl_m (G := G) (x := x') (y := x') (th := 2) (f := f)
    refine rs_aload_n d_l_law_538 rfl rfl ?_
    refine rs_aload_n d_l_law_539 rfl rfl ?_
    refine rs_iload d_l_law_540 rfl rfl ?_
    refine rs_iconst (v := (nI 1)) d_l_law_542 rfl (by decide) ?_
    refine rs_iadd d_l_law_543 rfl ?_
    refine rs_tope (nI_add _ _) ?_
    refine rs_sld hX hbl hlen (by omega) d_l_law_544 rfl ?_
    refine rs_aload_n d_l_law_545 rfl rfl ?_
    refine rx_gS (kc' := kc) (ks' := ks) d_l_law_546 rfl c_l_108 (by exact np_l_merge) (h_merge_th1 hC) (by decide) ⟨Nat.le_refl _, Nat.le_refl _⟩ (Nat.le_of_ble_eq_true rfl) rfl ?_
    refine rs_istore d_l_law_549 rfl (by decide) rfl ?_
    refine rs_aload_n d_l_law_551 rfl rfl ?_
    refine rs_aload_n d_l_law_552 rfl rfl ?_
    refine rs_iload d_l_law_553 rfl rfl ?_
    refine rs_iconst (v := (nI 1)) d_l_law_555 rfl (by decide) ?_
    refine rs_iadd d_l_law_556 rfl ?_
    refine rs_tope (nI_add _ _) ?_
    refine rs_sld hX hbl hlen (by omega) d_l_law_557 rfl ?_
    refine rx_cV d_l_law_558 rfl c_l_110 (by exact np_m_merge) hb2 (rl_mo hM) (by decide) ⟨rfl, rfl⟩ (Nat.le_of_ble_eq_true rfl) rfl ?_
    refine rs_istore d_l_law_561 rfl (by decide) rfl ?_
    refine rs_aload_n d_l_law_563 rfl rfl ?_
    refine rx_cV d_l_law_564 rfl c_l_81 (by exact np_m_thrown) hb3 (rl_thrown) (by decide) ⟨rfl, rfl⟩ (Nat.le_of_ble_eq_true rfl) rfl ?_
    refine rs_iload d_l_law_567 rfl rfl ?_
    refine rs_icmp_eq (tgt := 574) d_l_law_569 rfl (by decide) (fun _ => ?_) (fun hc => absurd (rfl) hc)
    refine rs_iload d_l_law_574 rfl rfl ?_
    refine rs_if_ne (tgt := 591) d_l_law_576 rfl (by decide) (fun _ => ?_) (fun hc => absurd hc (by decide))
    refine rs_goto (tgt := 1008) d_l_law_591 (by decide) ?_
    exact kk _ _ _ _ _ _ hx'
  · obtain ⟨w, rfl⟩ := hbv.1 rfl
    obtain ⟨fs2, hb2⟩ := rl_m (G := G) (x := x') (y := x) (th := th) (f := f)
    obtain ⟨fs3, hb3⟩ := rl_m (G := G) (x := x') (y := x') (th := 3) (f := f)
    refine rs_aload_n d_l_law_538 rfl rfl ?_
    refine rs_aload_n d_l_law_539 rfl rfl ?_
    refine rs_iload d_l_law_540 rfl rfl ?_
    refine rs_iconst (v := (nI 1)) d_l_law_542 rfl (by decide) ?_
    refine rs_iadd d_l_law_543 rfl ?_
    refine rs_tope (nI_add _ _) ?_
    refine rs_sld hX hbl hlen (by omega) d_l_law_544 rfl ?_
    refine rs_aload_n d_l_law_545 rfl rfl ?_
    refine rx_gS (kc' := kc) (ks' := ks) d_l_law_546 rfl c_l_108 (by exact np_l_merge) (h_merge_th2 hC) (by decide) ⟨Nat.le_refl _, Nat.le_refl _⟩ (Nat.le_of_ble_eq_true rfl) rfl ?_
    refine rs_istore d_l_law_549 rfl (by decide) rfl ?_
    refine rs_aload_n d_l_law_551 rfl rfl ?_
    refine rs_aload_n d_l_law_552 rfl rfl ?_
    refine rs_iload d_l_law_553 rfl rfl ?_
    refine rs_iconst (v := (nI 1)) d_l_law_555 rfl (by decide) ?_
    refine rs_iadd d_l_law_556 rfl ?_
    refine rs_tope (nI_add _ _) ?_
    refine rs_sld hX hbl hlen (by omega) d_l_law_557 rfl ?_
    refine rx_cV d_l_law_558 rfl c_l_110 (by exact np_m_merge) hb2 (rl_mo hM) (by decide) ⟨rfl, rfl⟩ (Nat.le_of_ble_eq_true rfl) rfl ?_
    refine rs_istore d_l_law_561 rfl (by decide) rfl ?_
    refine rs_aload_n d_l_law_563 rfl rfl ?_
    refine rx_cV d_l_law_564 rfl c_l_81 (by exact np_m_thrown) hb3 (rl_thrown) (by decide) ⟨rfl, rfl⟩ (Nat.le_of_ble_eq_true rfl) rfl ?_
    refine rs_iload d_l_law_567 rfl rfl ?_
    refine rs_icmp_eq (tgt := 574) d_l_law_569 rfl (by decide) (fun _ => ?_) (fun hc => absurd (rfl) hc)
    refine rs_iload d_l_law_574 rfl rfl ?_
    refine rs_if_ne (tgt := 591) d_l_law_576 rfl (by decide) (fun _ => ?_) (fun hc => absurd hc (by decide))
    refine rs_goto (tgt := 1008) d_l_law_591 (by decide) ?_
    exact kk _ _ _ _ _ _ hx'
set_option maxRecDepth 100000 in
theorem lc_limit {G : rsG} {Q : rsR → rsH → Nat → Prop} {kc ks i sb Ln : Nat} {xs : Nat → Int32} {x5 x6 : Option Value} {x : rT} {th : Int32} {f : Nat → Int64} {n : Nat} (hX : va_X sb Ln xs (rsS0 G) (rsS0 G).heap) (hbl : sb < rsB G) (hlen : Ln ≤ 1536) (hi : i + 3 ≤ Ln) (hx : rjx x) (kk : ∀ (x' : rT) (th' : Int32) (f' : Nat → Int64) (n' : Nat) (x5 x6 : Option Value), rjx x' → rsV G M_l_law rmL Q kc ks 1008 [some (.ref sb), some (.ref (rsB G)), some (.ref (rsB G + 46)), some (.ref (rsB G + 50)), some (.int (nI i)), x5, x6] [] (rlw G x' x' th' f') n') : rsV G M_l_law rmL Q (kc + 1) (ks + 6) 594 [some (.ref sb), some (.ref (rsB G)), some (.ref (rsB G + 46)), some (.ref (rsB G + 50)), some (.int (nI i)), x5, x6] [] (rlw G x x th f) n := by
  rcases sm_limit G hx (xs (i + 1)) with ⟨x', hx', hC, hM⟩ | ⟨x', b, hbv, hx', hC, hM⟩ | ⟨x', b, hbv, hx', hC, hM⟩
  · obtain ⟨fs2, hb2⟩ := rl_m (G := G) (x := x') (y := x) (th := th) (f := f)
    obtain ⟨fs3, hb3⟩ := rl_m (G := G) (x := x') (y := x') (th := 0) (f := f)
    refine rs_aload_n d_l_law_594 rfl rfl ?_
    refine rs_aload_n d_l_law_595 rfl rfl ?_
    refine rs_iload d_l_law_596 rfl rfl ?_
    refine rs_iconst (v := (nI 1)) d_l_law_598 rfl (by decide) ?_
    refine rs_iadd d_l_law_599 rfl ?_
    refine rs_tope (nI_add _ _) ?_
    refine rs_sld hX hbl hlen (by omega) d_l_law_600 rfl ?_
    refine rx_cS d_l_law_601 rfl c_l_111 (by exact np_l_limit) (h_limit_ok hC) (by decide) ⟨rfl, rfl⟩ (Nat.le_of_ble_eq_true rfl) rfl ?_
    refine rs_istore d_l_law_604 rfl (by decide) rfl ?_
    refine rs_aload_n d_l_law_606 rfl rfl ?_
    refine rs_aload_n d_l_law_607 rfl rfl ?_
    refine rs_iload d_l_law_608 rfl rfl ?_
    refine rs_iconst (v := (nI 1)) d_l_law_610 rfl (by decide) ?_
    refine rs_iadd d_l_law_611 rfl ?_
    refine rs_tope (nI_add _ _) ?_
    refine rs_sld hX hbl hlen (by omega) d_l_law_612 rfl ?_
    refine rx_cV d_l_law_613 rfl c_l_114 (by exact np_m_limit) hb2 (rl_mo hM) (by decide) ⟨rfl, rfl⟩ (Nat.le_of_ble_eq_true rfl) rfl ?_
    refine rs_aload_n d_l_law_616 rfl rfl ?_
    refine rx_cV d_l_law_617 rfl c_l_81 (by exact np_m_thrown) hb3 (rl_thrown) (by decide) ⟨rfl, rfl⟩ (Nat.le_of_ble_eq_true rfl) rfl ?_
    refine rs_iload d_l_law_620 rfl rfl ?_
    refine rs_icmp_eq (tgt := 627) d_l_law_622 rfl (by decide) (fun _ => ?_) (fun hc => absurd (rfl) hc)
    refine rs_goto (tgt := 1008) d_l_law_627 (by decide) ?_
    exact rsV_kc (by omega) (by omega) (kk _ _ _ _ _ _ hx')
  · obtain rfl := hbv.2 rfl
    obtain ⟨fs2, hb2⟩ := rl_m (G := G) (x := x') (y := x) (th := th) (f := f)
    obtain ⟨fs3, hb3⟩ := rl_m (G := G) (x := x') (y := x') (th := 1) (f := f)
    refine rs_aload_n d_l_law_594 rfl rfl ?_
    refine rs_aload_n d_l_law_595 rfl rfl ?_
    refine rs_iload d_l_law_596 rfl rfl ?_
    refine rs_iconst (v := (nI 1)) d_l_law_598 rfl (by decide) ?_
    refine rs_iadd d_l_law_599 rfl ?_
    refine rs_tope (nI_add _ _) ?_
    refine rs_sld hX hbl hlen (by omega) d_l_law_600 rfl ?_
    refine rx_gS (kc' := kc) (ks' := ks) d_l_law_601 rfl c_l_111 (by exact np_l_limit) (h_limit_th0 hC) (by decide) ⟨Nat.le_refl _, Nat.le_refl _⟩ (Nat.le_of_ble_eq_true rfl) rfl ?_
    refine rs_istore d_l_law_604 rfl (by decide) rfl ?_
    refine rs_aload_n d_l_law_606 rfl rfl ?_
    refine rs_aload_n d_l_law_607 rfl rfl ?_
    refine rs_iload d_l_law_608 rfl rfl ?_
    refine rs_iconst (v := (nI 1)) d_l_law_610 rfl (by decide) ?_
    refine rs_iadd d_l_law_611 rfl ?_
    refine rs_tope (nI_add _ _) ?_
    refine rs_sld hX hbl hlen (by omega) d_l_law_612 rfl ?_
    refine rx_cV d_l_law_613 rfl c_l_114 (by exact np_m_limit) hb2 (rl_mo hM) (by decide) ⟨rfl, rfl⟩ (Nat.le_of_ble_eq_true rfl) rfl ?_
    refine rs_aload_n d_l_law_616 rfl rfl ?_
    refine rx_cV d_l_law_617 rfl c_l_81 (by exact np_m_thrown) hb3 (rl_thrown) (by decide) ⟨rfl, rfl⟩ (Nat.le_of_ble_eq_true rfl) rfl ?_
    refine rs_iload d_l_law_620 rfl rfl ?_
    refine rs_icmp_eq (tgt := 627) d_l_law_622 rfl (by decide) (fun _ => ?_) (fun hc => absurd (rfl) hc)
    refine rs_goto (tgt := 1008) d_l_law_627 (by decide) ?_
    exact kk _ _ _ _ _ _ hx'
  · obtain rfl := hbv.2 rfl
    obtain ⟨fs2, hb2⟩ := rl_m (G := G) (x := x') (y := x) (th := th) (f := f)
    obtain ⟨fs3, hb3⟩ := rl_m (G := G) (x := x') (y := x') (th := 2) (f := f)
    refine rs_aload_n d_l_law_594 rfl rfl ?_
    refine rs_aload_n d_l_law_595 rfl rfl ?_
    refine rs_iload d_l_law_596 rfl rfl ?_
    refine rs_iconst (v := (nI 1)) d_l_law_598 rfl (by decide) ?_
    refine rs_iadd d_l_law_599 rfl ?_
    refine rs_tope (nI_add _ _) ?_
    refine rs_sld hX hbl hlen (by omega) d_l_law_600 rfl ?_
    refine rx_gS (kc' := kc) (ks' := ks) d_l_law_601 rfl c_l_111 (by exact np_l_limit) (h_limit_th1 hC) (by decide) ⟨Nat.le_refl _, Nat.le_refl _⟩ (Nat.le_of_ble_eq_true rfl) rfl ?_
    refine rs_istore d_l_law_604 rfl (by decide) rfl ?_
    refine rs_aload_n d_l_law_606 rfl rfl ?_
    refine rs_aload_n d_l_law_607 rfl rfl ?_
    refine rs_iload d_l_law_608 rfl rfl ?_
    refine rs_iconst (v := (nI 1)) d_l_law_610 rfl (by decide) ?_
    refine rs_iadd d_l_law_611 rfl ?_
    refine rs_tope (nI_add _ _) ?_
    refine rs_sld hX hbl hlen (by omega) d_l_law_612 rfl ?_
    refine rx_cV d_l_law_613 rfl c_l_114 (by exact np_m_limit) hb2 (rl_mo hM) (by decide) ⟨rfl, rfl⟩ (Nat.le_of_ble_eq_true rfl) rfl ?_
    refine rs_aload_n d_l_law_616 rfl rfl ?_
    refine rx_cV d_l_law_617 rfl c_l_81 (by exact np_m_thrown) hb3 (rl_thrown) (by decide) ⟨rfl, rfl⟩ (Nat.le_of_ble_eq_true rfl) rfl ?_
    refine rs_iload d_l_law_620 rfl rfl ?_
    refine rs_icmp_eq (tgt := 627) d_l_law_622 rfl (by decide) (fun _ => ?_) (fun hc => absurd (rfl) hc)
    refine rs_goto (tgt := 1008) d_l_law_627 (by decide) ?_
    exact kk _ _ _ _ _ _ hx'
set_option maxRecDepth 100000 in
theorem lc_left {G : rsG} {Q : rsR → rsH → Nat → Prop} {kc ks i sb Ln : Nat} {xs : Nat → Int32} {x5 x6 : Option Value} {x : rT} {th : Int32} {f : Nat → Int64} {n : Nat} (hX : va_X sb Ln xs (rsS0 G) (rsS0 G).heap) (hbl : sb < rsB G) (hlen : Ln ≤ 1536) (hi : i + 3 ≤ Ln) (hx : rjx x) (kk : ∀ (x' : rT) (th' : Int32) (f' : Nat → Int64) (n' : Nat) (x5 x6 : Option Value), rjx x' → rsV G M_l_law rmL Q kc ks 1008 [some (.ref sb), some (.ref (rsB G)), some (.ref (rsB G + 46)), some (.ref (rsB G + 50)), some (.int (nI i)), x5, x6] [] (rlw G x' x' th' f') n') : rsV G M_l_law rmL Q (kc + 1) (ks + 6) 630 [some (.ref sb), some (.ref (rsB G)), some (.ref (rsB G + 46)), some (.ref (rsB G + 50)), some (.int (nI i)), x5, x6] [] (rlw G x x th f) n := by
  obtain ⟨v, x', hx', hC, hM⟩ := sm_left G hx
  obtain ⟨fs, hb⟩ := rl_x (G := G) (x := x) (y := x) (th := th) (f := f)
  obtain ⟨fs2, hb2⟩ := rl_m (G := G) (x := x') (y := x) (th := th) (f := f)
  refine rs_aload_n d_l_law_630 rfl rfl ?_
  refine rx_cV d_l_law_631 rfl c_l_115 (by exact np_s_left) hb (show rsK G M_s_left _ _ (rlw G x x th f) n (rsOk (some (.int v)) (rlw G x' x th f) n) from hC n _) (by decide) ⟨rfl, rfl⟩ (Nat.le_of_ble_eq_true rfl) rfl ?_
  refine rs_aload_n d_l_law_634 rfl rfl ?_
  refine rx_cV d_l_law_635 rfl c_l_118 (by exact np_m_left) hb2 (rl_mo hM) (by decide) ⟨rfl, rfl⟩ (Nat.le_of_ble_eq_true rfl) rfl ?_
  refine rs_icmp_eq (tgt := 1008) d_l_law_638 rfl (by decide) (fun _ => ?_) (fun hc => absurd (rfl) hc)
  exact rsV_kc (by omega) (by omega) (kk _ _ _ _ _ _ hx')
set_option maxRecDepth 100000 in
theorem lc_seek {G : rsG} {Q : rsR → rsH → Nat → Prop} {kc ks i sb Ln : Nat} {xs : Nat → Int32} {x5 x6 : Option Value} {x : rT} {th : Int32} {f : Nat → Int64} {n : Nat} (hX : va_X sb Ln xs (rsS0 G) (rsS0 G).heap) (hbl : sb < rsB G) (hlen : Ln ≤ 1536) (hi : i + 3 ≤ Ln) (hx : rjx x) (kk : ∀ (x' : rT) (th' : Int32) (f' : Nat → Int64) (n' : Nat) (x5 x6 : Option Value), rjx x' → rsV G M_l_law rmL Q kc ks 1008 [some (.ref sb), some (.ref (rsB G)), some (.ref (rsB G + 46)), some (.ref (rsB G + 50)), some (.int (nI i)), x5, x6] [] (rlw G x' x' th' f') n') : rsV G M_l_law rmL Q (kc + 1) (ks + 6) 643 [some (.ref sb), some (.ref (rsB G)), some (.ref (rsB G + 46)), some (.ref (rsB G + 50)), some (.int (nI i)), x5, x6] [] (rlw G x x th f) n := by
  rcases sm_seek G hx (xs (i + 1)) with ⟨v, hv, x', hx', hC, hM⟩ | ⟨x', b, hbv, hx', hC, hM⟩ | ⟨x', b, hbv, hx', hC, hM⟩
  · obtain ⟨fs2, hb2⟩ := rl_m (G := G) (x := x') (y := x) (th := th) (f := (vp_updL f 0 v.toInt64))
    obtain ⟨fs3, hb3⟩ := rl_m (G := G) (x := x') (y := x') (th := 0) (f := (vp_updL f 0 v.toInt64))
    refine rs_aload_n d_l_law_643 rfl rfl ?_
    refine rs_aload_n d_l_law_644 rfl rfl ?_
    refine rs_iload d_l_law_645 rfl rfl ?_
    refine rs_iconst (v := (nI 1)) d_l_law_647 rfl (by decide) ?_
    refine rs_iadd d_l_law_648 rfl ?_
    refine rs_tope (nI_add _ _) ?_
    refine rs_sld hX hbl hlen (by omega) d_l_law_649 rfl ?_
    refine rs_aload_n d_l_law_650 rfl rfl ?_
    refine rx_cS d_l_law_651 rfl c_l_119 (by exact np_l_seek) (h_seek_ok hv hC) (by decide) ⟨rfl, rfl⟩ (Nat.le_of_ble_eq_true rfl) rfl ?_
    refine rs_istore d_l_law_654 rfl (by decide) rfl ?_
    refine rs_aload_n d_l_law_656 rfl rfl ?_
    refine rs_aload_n d_l_law_657 rfl rfl ?_
    refine rs_iload d_l_law_658 rfl rfl ?_
    refine rs_iconst (v := (nI 1)) d_l_law_660 rfl (by decide) ?_
    refine rs_iadd d_l_law_661 rfl ?_
    refine rs_tope (nI_add _ _) ?_
    refine rs_sld hX hbl hlen (by omega) d_l_law_662 rfl ?_
    refine rx_cV d_l_law_663 rfl c_l_121 (by exact np_m_seek) hb2 (rl_mo hM) (by decide) ⟨rfl, rfl⟩ (Nat.le_of_ble_eq_true rfl) rfl ?_
    refine rs_istore d_l_law_666 rfl (by decide) rfl ?_
    refine rs_aload_n d_l_law_668 rfl rfl ?_
    refine rx_cV d_l_law_669 rfl c_l_81 (by exact np_m_thrown) hb3 (rl_thrown) (by decide) ⟨rfl, rfl⟩ (Nat.le_of_ble_eq_true rfl) rfl ?_
    refine rs_iload d_l_law_672 rfl rfl ?_
    refine rs_icmp_eq (tgt := 679) d_l_law_674 rfl (by decide) (fun _ => ?_) (fun hc => absurd (rfl) hc)
    refine rs_iload d_l_law_679 rfl rfl ?_
    refine rs_if_ne (tgt := 703) d_l_law_681 rfl (by decide) (fun hc => absurd (rfl) hc) (fun _ => ?_)
    refine rs_aload_n d_l_law_684 rfl rfl ?_
    refine rs_iconst (v := (nI 0)) d_l_law_685 rfl (by decide) ?_
    refine rs_lald (j := 0) d_l_law_686 rfl rl_o (by decide) (by decide) ?_
    rw [rl_upd]
    refine rs_iload d_l_law_687 rfl rfl ?_
    rcases hv with rfl | rfl
    · refine rs_if_eq (tgt := 696) d_l_law_689 rfl (by decide) (fun _ => ?_) (fun hc => absurd (rfl) hc)
      refine rs_lconst (v := 0) d_l_law_696 rfl (by decide) ?_
      refine rs_lcmp d_l_law_697 rfl ?_
      rw [rl_c0]
      refine rs_if_eq (tgt := 703) d_l_law_698 rfl (by decide) (fun _ => ?_) (fun hc => absurd (rfl) hc)
      refine rs_goto (tgt := 1008) d_l_law_703 (by decide) ?_
      exact rsV_kc (by omega) (by omega) (kk _ _ _ _ _ _ hx')
    · refine rs_if_eq (tgt := 696) d_l_law_689 rfl (by decide) (fun hc => absurd hc (by decide)) (fun _ => ?_)
      refine rs_lconst (v := 1) d_l_law_692 rfl (by decide) ?_
      refine rs_goto (tgt := 697) d_l_law_693 (by decide) ?_
      refine rs_lcmp d_l_law_697 rfl ?_
      rw [rl_c1]
      refine rs_if_eq (tgt := 703) d_l_law_698 rfl (by decide) (fun _ => ?_) (fun hc => absurd (rfl) hc)
      refine rs_goto (tgt := 1008) d_l_law_703 (by decide) ?_
      exact rsV_kc (by omega) (by omega) (kk _ _ _ _ _ _ hx')
  · obtain ⟨w, rfl⟩ := hbv.1 rfl
    obtain ⟨fs2, hb2⟩ := rl_m (G := G) (x := x') (y := x) (th := th) (f := f)
    obtain ⟨fs3, hb3⟩ := rl_m (G := G) (x := x') (y := x') (th := 1) (f := f)
    refine rs_aload_n d_l_law_643 rfl rfl ?_
    refine rs_aload_n d_l_law_644 rfl rfl ?_
    refine rs_iload d_l_law_645 rfl rfl ?_
    refine rs_iconst (v := (nI 1)) d_l_law_647 rfl (by decide) ?_
    refine rs_iadd d_l_law_648 rfl ?_
    refine rs_tope (nI_add _ _) ?_
    refine rs_sld hX hbl hlen (by omega) d_l_law_649 rfl ?_
    refine rs_aload_n d_l_law_650 rfl rfl ?_
    refine rx_gS (kc' := kc) (ks' := ks) d_l_law_651 rfl c_l_119 (by exact np_l_seek) (h_seek_th0 hC) (by decide) ⟨Nat.le_refl _, Nat.le_refl _⟩ (Nat.le_of_ble_eq_true rfl) rfl ?_
    refine rs_istore d_l_law_654 rfl (by decide) rfl ?_
    refine rs_aload_n d_l_law_656 rfl rfl ?_
    refine rs_aload_n d_l_law_657 rfl rfl ?_
    refine rs_iload d_l_law_658 rfl rfl ?_
    refine rs_iconst (v := (nI 1)) d_l_law_660 rfl (by decide) ?_
    refine rs_iadd d_l_law_661 rfl ?_
    refine rs_tope (nI_add _ _) ?_
    refine rs_sld hX hbl hlen (by omega) d_l_law_662 rfl ?_
    refine rx_cV d_l_law_663 rfl c_l_121 (by exact np_m_seek) hb2 (rl_mo hM) (by decide) ⟨rfl, rfl⟩ (Nat.le_of_ble_eq_true rfl) rfl ?_
    refine rs_istore d_l_law_666 rfl (by decide) rfl ?_
    refine rs_aload_n d_l_law_668 rfl rfl ?_
    refine rx_cV d_l_law_669 rfl c_l_81 (by exact np_m_thrown) hb3 (rl_thrown) (by decide) ⟨rfl, rfl⟩ (Nat.le_of_ble_eq_true rfl) rfl ?_
    refine rs_iload d_l_law_672 rfl rfl ?_
    refine rs_icmp_eq (tgt := 679) d_l_law_674 rfl (by decide) (fun _ => ?_) (fun hc => absurd (rfl) hc)
    refine rs_iload d_l_law_679 rfl rfl ?_
    refine rs_if_ne (tgt := 703) d_l_law_681 rfl (by decide) (fun _ => ?_) (fun hc => absurd hc (by decide))
    refine rs_goto (tgt := 1008) d_l_law_703 (by decide) ?_
    exact kk _ _ _ _ _ _ hx'
  · obtain ⟨w, rfl⟩ := hbv.1 rfl
    obtain ⟨fs2, hb2⟩ := rl_m (G := G) (x := x') (y := x) (th := th) (f := f)
    obtain ⟨fs3, hb3⟩ := rl_m (G := G) (x := x') (y := x') (th := 2) (f := f)
    refine rs_aload_n d_l_law_643 rfl rfl ?_
    refine rs_aload_n d_l_law_644 rfl rfl ?_
    refine rs_iload d_l_law_645 rfl rfl ?_
    refine rs_iconst (v := (nI 1)) d_l_law_647 rfl (by decide) ?_
    refine rs_iadd d_l_law_648 rfl ?_
    refine rs_tope (nI_add _ _) ?_
    refine rs_sld hX hbl hlen (by omega) d_l_law_649 rfl ?_
    refine rs_aload_n d_l_law_650 rfl rfl ?_
    refine rx_gS (kc' := kc) (ks' := ks) d_l_law_651 rfl c_l_119 (by exact np_l_seek) (h_seek_th1 hC) (by decide) ⟨Nat.le_refl _, Nat.le_refl _⟩ (Nat.le_of_ble_eq_true rfl) rfl ?_
    refine rs_istore d_l_law_654 rfl (by decide) rfl ?_
    refine rs_aload_n d_l_law_656 rfl rfl ?_
    refine rs_aload_n d_l_law_657 rfl rfl ?_
    refine rs_iload d_l_law_658 rfl rfl ?_
    refine rs_iconst (v := (nI 1)) d_l_law_660 rfl (by decide) ?_
    refine rs_iadd d_l_law_661 rfl ?_
    refine rs_tope (nI_add _ _) ?_
    refine rs_sld hX hbl hlen (by omega) d_l_law_662 rfl ?_
    refine rx_cV d_l_law_663 rfl c_l_121 (by exact np_m_seek) hb2 (rl_mo hM) (by decide) ⟨rfl, rfl⟩ (Nat.le_of_ble_eq_true rfl) rfl ?_
    refine rs_istore d_l_law_666 rfl (by decide) rfl ?_
    refine rs_aload_n d_l_law_668 rfl rfl ?_
    refine rx_cV d_l_law_669 rfl c_l_81 (by exact np_m_thrown) hb3 (rl_thrown) (by decide) ⟨rfl, rfl⟩ (Nat.le_of_ble_eq_true rfl) rfl ?_
    refine rs_iload d_l_law_672 rfl rfl ?_
    refine rs_icmp_eq (tgt := 679) d_l_law_674 rfl (by decide) (fun _ => ?_) (fun hc => absurd (rfl) hc)
    refine rs_iload d_l_law_679 rfl rfl ?_
    refine rs_if_ne (tgt := 703) d_l_law_681 rfl (by decide) (fun _ => ?_) (fun hc => absurd hc (by decide))
    refine rs_goto (tgt := 1008) d_l_law_703 (by decide) ?_
    exact kk _ _ _ _ _ _ hx'
set_option maxRecDepth 100000 in
theorem lc_next {G : rsG} {Q : rsR → rsH → Nat → Prop} {kc ks i sb Ln : Nat} {xs : Nat → Int32} {x5 x6 : Option Value} {x : rT} {th : Int32} {f : Nat → Int64} {n : Nat} (hX : va_X sb Ln xs (rsS0 G) (rsS0 G).heap) (hbl : sb < rsB G) (hlen : Ln ≤ 1536) (hi : i + 3 ≤ Ln) (hx : rjx x) (kk : ∀ (x' : rT) (th' : Int32) (f' : Nat → Int64) (n' : Nat) (x5 x6 : Option Value), rjx x' → rsV G M_l_law rmL Q kc ks 1008 [some (.ref sb), some (.ref (rsB G)), some (.ref (rsB G + 46)), some (.ref (rsB G + 50)), some (.int (nI i)), x5, x6] [] (rlw G x' x' th' f') n') : rsV G M_l_law rmL Q (kc + 1) (ks + 6) 706 [some (.ref sb), some (.ref (rsB G)), some (.ref (rsB G + 46)), some (.ref (rsB G + 50)), some (.int (nI i)), x5, x6] [] (rlw G x x th f) n := by
  rcases sm_next G hx with ⟨v, hv, x', hx', hC, hM⟩ | ⟨x', b, hbv, hx', hC, hM⟩
  · obtain ⟨fs2, hb2⟩ := rl_m (G := G) (x := x') (y := x) (th := th) (f := (vp_updL f 0 v.toInt64))
    obtain ⟨fs3, hb3⟩ := rl_m (G := G) (x := x') (y := x') (th := 0) (f := (vp_updL f 0 v.toInt64))
    refine rs_aload_n d_l_law_706 rfl rfl ?_
    refine rs_aload_n d_l_law_707 rfl rfl ?_
    refine rx_cS d_l_law_708 rfl c_l_122 (by exact np_l_next) (h_next_ok hv hC) (by decide) ⟨rfl, rfl⟩ (Nat.le_of_ble_eq_true rfl) rfl ?_
    refine rs_istore d_l_law_711 rfl (by decide) rfl ?_
    refine rs_aload_n d_l_law_713 rfl rfl ?_
    refine rx_cV d_l_law_714 rfl c_l_124 (by exact np_m_next) hb2 (rl_mo hM) (by decide) ⟨rfl, rfl⟩ (Nat.le_of_ble_eq_true rfl) rfl ?_
    refine rs_istore d_l_law_717 rfl (by decide) rfl ?_
    refine rs_aload_n d_l_law_719 rfl rfl ?_
    refine rx_cV d_l_law_720 rfl c_l_81 (by exact np_m_thrown) hb3 (rl_thrown) (by decide) ⟨rfl, rfl⟩ (Nat.le_of_ble_eq_true rfl) rfl ?_
    refine rs_iload d_l_law_723 rfl rfl ?_
    refine rs_icmp_eq (tgt := 730) d_l_law_725 rfl (by decide) (fun _ => ?_) (fun hc => absurd (rfl) hc)
    refine rs_iload d_l_law_730 rfl rfl ?_
    refine rs_if_ne (tgt := 754) d_l_law_732 rfl (by decide) (fun hc => absurd (rfl) hc) (fun _ => ?_)
    refine rs_aload_n d_l_law_735 rfl rfl ?_
    refine rs_iconst (v := (nI 0)) d_l_law_736 rfl (by decide) ?_
    refine rs_lald (j := 0) d_l_law_737 rfl rl_o (by decide) (by decide) ?_
    rw [rl_upd]
    refine rs_iload d_l_law_738 rfl rfl ?_
    rcases hv with rfl | rfl
    · refine rs_if_eq (tgt := 747) d_l_law_740 rfl (by decide) (fun _ => ?_) (fun hc => absurd (rfl) hc)
      refine rs_lconst (v := 0) d_l_law_747 rfl (by decide) ?_
      refine rs_lcmp d_l_law_748 rfl ?_
      rw [rl_c0]
      refine rs_if_eq (tgt := 754) d_l_law_749 rfl (by decide) (fun _ => ?_) (fun hc => absurd (rfl) hc)
      refine rs_goto (tgt := 1008) d_l_law_754 (by decide) ?_
      exact rsV_kc (by omega) (by omega) (kk _ _ _ _ _ _ hx')
    · refine rs_if_eq (tgt := 747) d_l_law_740 rfl (by decide) (fun hc => absurd hc (by decide)) (fun _ => ?_)
      refine rs_lconst (v := 1) d_l_law_743 rfl (by decide) ?_
      refine rs_goto (tgt := 748) d_l_law_744 (by decide) ?_
      refine rs_lcmp d_l_law_748 rfl ?_
      rw [rl_c1]
      refine rs_if_eq (tgt := 754) d_l_law_749 rfl (by decide) (fun _ => ?_) (fun hc => absurd (rfl) hc)
      refine rs_goto (tgt := 1008) d_l_law_754 (by decide) ?_
      exact rsV_kc (by omega) (by omega) (kk _ _ _ _ _ _ hx')
  · obtain ⟨w, rfl⟩ := hbv.1 rfl
    obtain ⟨fs2, hb2⟩ := rl_m (G := G) (x := x') (y := x) (th := th) (f := f)
    obtain ⟨fs3, hb3⟩ := rl_m (G := G) (x := x') (y := x') (th := 1) (f := f)
    refine rs_aload_n d_l_law_706 rfl rfl ?_
    refine rs_aload_n d_l_law_707 rfl rfl ?_
    refine rx_gS (kc' := kc) (ks' := ks) d_l_law_708 rfl c_l_122 (by exact np_l_next) (h_next_th1 hC) (by decide) ⟨Nat.le_refl _, Nat.le_refl _⟩ (Nat.le_of_ble_eq_true rfl) rfl ?_
    refine rs_istore d_l_law_711 rfl (by decide) rfl ?_
    refine rs_aload_n d_l_law_713 rfl rfl ?_
    refine rx_cV d_l_law_714 rfl c_l_124 (by exact np_m_next) hb2 (rl_mo hM) (by decide) ⟨rfl, rfl⟩ (Nat.le_of_ble_eq_true rfl) rfl ?_
    refine rs_istore d_l_law_717 rfl (by decide) rfl ?_
    refine rs_aload_n d_l_law_719 rfl rfl ?_
    refine rx_cV d_l_law_720 rfl c_l_81 (by exact np_m_thrown) hb3 (rl_thrown) (by decide) ⟨rfl, rfl⟩ (Nat.le_of_ble_eq_true rfl) rfl ?_
    refine rs_iload d_l_law_723 rfl rfl ?_
    refine rs_icmp_eq (tgt := 730) d_l_law_725 rfl (by decide) (fun _ => ?_) (fun hc => absurd (rfl) hc)
    refine rs_iload d_l_law_730 rfl rfl ?_
    refine rs_if_ne (tgt := 754) d_l_law_732 rfl (by decide) (fun _ => ?_) (fun hc => absurd hc (by decide))
    refine rs_goto (tgt := 1008) d_l_law_754 (by decide) ?_
    exact kk _ _ _ _ _ _ hx'
set_option maxRecDepth 100000 in
theorem lc_key {G : rsG} {Q : rsR → rsH → Nat → Prop} {kc ks i sb Ln : Nat} {xs : Nat → Int32} {x5 x6 : Option Value} {x : rT} {th : Int32} {f : Nat → Int64} {n : Nat} (hX : va_X sb Ln xs (rsS0 G) (rsS0 G).heap) (hbl : sb < rsB G) (hlen : Ln ≤ 1536) (hi : i + 3 ≤ Ln) (hx : rjx x) (kk : ∀ (x' : rT) (th' : Int32) (f' : Nat → Int64) (n' : Nat) (x5 x6 : Option Value), rjx x' → rsV G M_l_law rmL Q kc ks 1008 [some (.ref sb), some (.ref (rsB G)), some (.ref (rsB G + 46)), some (.ref (rsB G + 50)), some (.int (nI i)), x5, x6] [] (rlw G x' x' th' f') n') : rsV G M_l_law rmL Q (kc + 1) (ks + 6) 757 [some (.ref sb), some (.ref (rsB G)), some (.ref (rsB G + 46)), some (.ref (rsB G + 50)), some (.int (nI i)), x5, x6] [] (rlw G x x th f) n := by
  obtain ⟨v, x', hx', hC, hM⟩ := sm_key G hx
  obtain ⟨fs, hb⟩ := rl_x (G := G) (x := x) (y := x) (th := th) (f := f)
  obtain ⟨fs2, hb2⟩ := rl_m (G := G) (x := x') (y := x) (th := th) (f := f)
  refine rs_aload_n d_l_law_757 rfl rfl ?_
  refine rx_cV d_l_law_758 rfl c_l_125 (by exact np_s_key) hb (show rsK G M_s_key _ _ (rlw G x x th f) n (rsOk (some (.int v)) (rlw G x' x th f) n) from hC n _) (by decide) ⟨rfl, rfl⟩ (Nat.le_of_ble_eq_true rfl) rfl ?_
  refine rs_aload_n d_l_law_761 rfl rfl ?_
  refine rx_cV d_l_law_762 rfl c_l_128 (by exact np_m_key) hb2 (rl_mo hM) (by decide) ⟨rfl, rfl⟩ (Nat.le_of_ble_eq_true rfl) rfl ?_
  refine rs_icmp_eq (tgt := 1008) d_l_law_765 rfl (by decide) (fun _ => ?_) (fun hc => absurd (rfl) hc)
  exact rsV_kc (by omega) (by omega) (kk _ _ _ _ _ _ hx')
set_option maxRecDepth 100000 in
theorem lc_value {G : rsG} {Q : rsR → rsH → Nat → Prop} {kc ks i sb Ln : Nat} {xs : Nat → Int32} {x5 x6 : Option Value} {x : rT} {th : Int32} {f : Nat → Int64} {n : Nat} (hX : va_X sb Ln xs (rsS0 G) (rsS0 G).heap) (hbl : sb < rsB G) (hlen : Ln ≤ 1536) (hi : i + 3 ≤ Ln) (hx : rjx x) (kk : ∀ (x' : rT) (th' : Int32) (f' : Nat → Int64) (n' : Nat) (x5 x6 : Option Value), rjx x' → rsV G M_l_law rmL Q kc ks 1008 [some (.ref sb), some (.ref (rsB G)), some (.ref (rsB G + 46)), some (.ref (rsB G + 50)), some (.int (nI i)), x5, x6] [] (rlw G x' x' th' f') n') : rsV G M_l_law rmL Q (kc + 1) (ks + 6) 770 [some (.ref sb), some (.ref (rsB G)), some (.ref (rsB G + 46)), some (.ref (rsB G + 50)), some (.int (nI i)), x5, x6] [] (rlw G x x th f) n := by
  obtain ⟨v, x', hx', hC, hM⟩ := sm_value G hx
  obtain ⟨fs, hb⟩ := rl_x (G := G) (x := x) (y := x) (th := th) (f := f)
  obtain ⟨fs2, hb2⟩ := rl_m (G := G) (x := x') (y := x) (th := th) (f := f)
  refine rs_aload_n d_l_law_770 rfl rfl ?_
  refine rx_cV d_l_law_771 rfl c_l_129 (by exact np_s_value) hb (show rsK G M_s_value _ _ (rlw G x x th f) n (rsOk (some (.int v)) (rlw G x' x th f) n) from hC n _) (by decide) ⟨rfl, rfl⟩ (Nat.le_of_ble_eq_true rfl) rfl ?_
  refine rs_aload_n d_l_law_774 rfl rfl ?_
  refine rx_cV d_l_law_775 rfl c_l_132 (by exact np_m_value) hb2 (rl_mo hM) (by decide) ⟨rfl, rfl⟩ (Nat.le_of_ble_eq_true rfl) rfl ?_
  refine rs_icmp_eq (tgt := 1008) d_l_law_778 rfl (by decide) (fun _ => ?_) (fun hc => absurd (rfl) hc)
  exact rsV_kc (by omega) (by omega) (kk _ _ _ _ _ _ hx')
set_option maxRecDepth 100000 in
theorem lc_size {G : rsG} {Q : rsR → rsH → Nat → Prop} {kc ks i sb Ln : Nat} {xs : Nat → Int32} {x5 x6 : Option Value} {x : rT} {th : Int32} {f : Nat → Int64} {n : Nat} (hX : va_X sb Ln xs (rsS0 G) (rsS0 G).heap) (hbl : sb < rsB G) (hlen : Ln ≤ 1536) (hi : i + 3 ≤ Ln) (hx : rjx x) (kk : ∀ (x' : rT) (th' : Int32) (f' : Nat → Int64) (n' : Nat) (x5 x6 : Option Value), rjx x' → rsV G M_l_law rmL Q kc ks 1008 [some (.ref sb), some (.ref (rsB G)), some (.ref (rsB G + 46)), some (.ref (rsB G + 50)), some (.int (nI i)), x5, x6] [] (rlw G x' x' th' f') n') : rsV G M_l_law rmL Q (kc + 1) (ks + 6) 783 [some (.ref sb), some (.ref (rsB G)), some (.ref (rsB G + 46)), some (.ref (rsB G + 50)), some (.int (nI i)), x5, x6] [] (rlw G x x th f) n := by
  rcases sm_size G hx with ⟨v, x', hx', hC, hM⟩ | ⟨x', b, hbv, hx', hC, hM⟩
  · obtain ⟨fs2, hb2⟩ := rl_m (G := G) (x := x') (y := x) (th := th) (f := (vp_updL f 0 v.toInt64))
    obtain ⟨fs3, hb3⟩ := rl_m (G := G) (x := x') (y := x') (th := 0) (f := (vp_updL f 0 v.toInt64))
    refine rs_aload_n d_l_law_783 rfl rfl ?_
    refine rs_aload_n d_l_law_784 rfl rfl ?_
    refine rx_cS d_l_law_785 rfl c_l_133 (by exact np_l_size) (h_size_ok hC) (by decide) ⟨rfl, rfl⟩ (Nat.le_of_ble_eq_true rfl) rfl ?_
    refine rs_istore d_l_law_788 rfl (by decide) rfl ?_
    refine rs_aload_n d_l_law_790 rfl rfl ?_
    refine rx_cV d_l_law_791 rfl c_l_135 (by exact np_m_size) hb2 (rl_mo hM) (by decide) ⟨rfl, rfl⟩ (Nat.le_of_ble_eq_true rfl) rfl ?_
    refine rs_istore d_l_law_794 rfl (by decide) rfl ?_
    refine rs_aload_n d_l_law_796 rfl rfl ?_
    refine rx_cV d_l_law_797 rfl c_l_81 (by exact np_m_thrown) hb3 (rl_thrown) (by decide) ⟨rfl, rfl⟩ (Nat.le_of_ble_eq_true rfl) rfl ?_
    refine rs_iload d_l_law_800 rfl rfl ?_
    refine rs_icmp_eq (tgt := 807) d_l_law_802 rfl (by decide) (fun _ => ?_) (fun hc => absurd (rfl) hc)
    refine rs_iload d_l_law_807 rfl rfl ?_
    refine rs_if_ne (tgt := 824) d_l_law_809 rfl (by decide) (fun hc => absurd (rfl) hc) (fun _ => ?_)
    refine rs_aload_n d_l_law_812 rfl rfl ?_
    refine rs_iconst (v := (nI 0)) d_l_law_813 rfl (by decide) ?_
    refine rs_lald (j := 0) d_l_law_814 rfl rl_o (by decide) (by decide) ?_
    rw [rl_upd]
    refine rs_iload d_l_law_815 rfl rfl ?_
    refine rs_i2l d_l_law_817 rfl ?_
    refine rs_lcmp d_l_law_818 rfl ?_
    rw [rl_cmp]
    refine rs_if_eq (tgt := 824) d_l_law_819 rfl (by decide) (fun _ => ?_) (fun hc => absurd (rfl) hc)
    refine rs_goto (tgt := 1008) d_l_law_824 (by decide) ?_
    exact rsV_kc (by omega) (by omega) (kk _ _ _ _ _ _ hx')
  · obtain ⟨w, rfl⟩ := hbv.1 rfl
    obtain ⟨fs2, hb2⟩ := rl_m (G := G) (x := x') (y := x) (th := th) (f := f)
    obtain ⟨fs3, hb3⟩ := rl_m (G := G) (x := x') (y := x') (th := 1) (f := f)
    refine rs_aload_n d_l_law_783 rfl rfl ?_
    refine rs_aload_n d_l_law_784 rfl rfl ?_
    refine rx_gS (kc' := kc) (ks' := ks) d_l_law_785 rfl c_l_133 (by exact np_l_size) (h_size_th1 hC) (by decide) ⟨Nat.le_refl _, Nat.le_refl _⟩ (Nat.le_of_ble_eq_true rfl) rfl ?_
    refine rs_istore d_l_law_788 rfl (by decide) rfl ?_
    refine rs_aload_n d_l_law_790 rfl rfl ?_
    refine rx_cV d_l_law_791 rfl c_l_135 (by exact np_m_size) hb2 (rl_mo hM) (by decide) ⟨rfl, rfl⟩ (Nat.le_of_ble_eq_true rfl) rfl ?_
    refine rs_istore d_l_law_794 rfl (by decide) rfl ?_
    refine rs_aload_n d_l_law_796 rfl rfl ?_
    refine rx_cV d_l_law_797 rfl c_l_81 (by exact np_m_thrown) hb3 (rl_thrown) (by decide) ⟨rfl, rfl⟩ (Nat.le_of_ble_eq_true rfl) rfl ?_
    refine rs_iload d_l_law_800 rfl rfl ?_
    refine rs_icmp_eq (tgt := 807) d_l_law_802 rfl (by decide) (fun _ => ?_) (fun hc => absurd (rfl) hc)
    refine rs_iload d_l_law_807 rfl rfl ?_
    refine rs_if_ne (tgt := 824) d_l_law_809 rfl (by decide) (fun _ => ?_) (fun hc => absurd hc (by decide))
    refine rs_goto (tgt := 1008) d_l_law_824 (by decide) ?_
    exact kk _ _ _ _ _ _ hx'
set_option maxRecDepth 100000 in
theorem lc_memory {G : rsG} {Q : rsR → rsH → Nat → Prop} {kc ks i sb Ln : Nat} {xs : Nat → Int32} {x5 x6 : Option Value} {x : rT} {th : Int32} {f : Nat → Int64} {n : Nat} (hX : va_X sb Ln xs (rsS0 G) (rsS0 G).heap) (hbl : sb < rsB G) (hlen : Ln ≤ 1536) (hi : i + 3 ≤ Ln) (hx : rjx x) (kk : ∀ (x' : rT) (th' : Int32) (f' : Nat → Int64) (n' : Nat) (x5 x6 : Option Value), rjx x' → rsV G M_l_law rmL Q kc ks 1008 [some (.ref sb), some (.ref (rsB G)), some (.ref (rsB G + 46)), some (.ref (rsB G + 50)), some (.int (nI i)), x5, x6] [] (rlw G x' x' th' f') n') : rsV G M_l_law rmL Q (kc + 1) (ks + 6) 827 [some (.ref sb), some (.ref (rsB G)), some (.ref (rsB G + 46)), some (.ref (rsB G + 50)), some (.int (nI i)), x5, x6] [] (rlw G x x th f) n := by
  obtain ⟨v, x', hx', hC, hM⟩ := sm_memory G hx
  obtain ⟨fs, hb⟩ := rl_x (G := G) (x := x) (y := x) (th := th) (f := f)
  obtain ⟨fs2, hb2⟩ := rl_m (G := G) (x := x') (y := x) (th := th) (f := f)
  refine rs_aload_n d_l_law_827 rfl rfl ?_
  refine rx_cV d_l_law_828 rfl c_l_136 (by exact np_s_memory) hb (show rsK G M_s_memory _ _ (rlw G x x th f) n (rsOk (some (.int v)) (rlw G x' x th f) n) from hC n _) (by decide) ⟨rfl, rfl⟩ (Nat.le_of_ble_eq_true rfl) rfl ?_
  refine rs_aload_n d_l_law_831 rfl rfl ?_
  refine rx_cV d_l_law_832 rfl c_l_139 (by exact np_m_memory) hb2 (rl_mo hM) (by decide) ⟨rfl, rfl⟩ (Nat.le_of_ble_eq_true rfl) rfl ?_
  refine rs_icmp_eq (tgt := 1008) d_l_law_835 rfl (by decide) (fun _ => ?_) (fun hc => absurd (rfl) hc)
  exact rsV_kc (by omega) (by omega) (kk _ _ _ _ _ _ hx')
set_option maxRecDepth 100000 in
theorem lc_runs {G : rsG} {Q : rsR → rsH → Nat → Prop} {kc ks i sb Ln : Nat} {xs : Nat → Int32} {x5 x6 : Option Value} {x : rT} {th : Int32} {f : Nat → Int64} {n : Nat} (hX : va_X sb Ln xs (rsS0 G) (rsS0 G).heap) (hbl : sb < rsB G) (hlen : Ln ≤ 1536) (hi : i + 3 ≤ Ln) (hx : rjx x) (kk : ∀ (x' : rT) (th' : Int32) (f' : Nat → Int64) (n' : Nat) (x5 x6 : Option Value), rjx x' → rsV G M_l_law rmL Q kc ks 1008 [some (.ref sb), some (.ref (rsB G)), some (.ref (rsB G + 46)), some (.ref (rsB G + 50)), some (.int (nI i)), x5, x6] [] (rlw G x' x' th' f') n') : rsV G M_l_law rmL Q (kc + 1) (ks + 6) 840 [some (.ref sb), some (.ref (rsB G)), some (.ref (rsB G + 46)), some (.ref (rsB G + 50)), some (.int (nI i)), x5, x6] [] (rlw G x x th f) n := by
  rcases sm_runs G hx (xs (i + 1)) with ⟨v, x', hx', hC, hM⟩ | ⟨x', b, hbv, hx', hC, hM⟩ | ⟨x', b, hbv, hx', hC, hM⟩
  · obtain ⟨fs2, hb2⟩ := rl_m (G := G) (x := x') (y := x) (th := th) (f := (vp_updL f 0 v.toInt64))
    obtain ⟨fs3, hb3⟩ := rl_m (G := G) (x := x') (y := x') (th := 0) (f := (vp_updL f 0 v.toInt64))
    refine rs_aload_n d_l_law_840 rfl rfl ?_
    refine rs_aload_n d_l_law_841 rfl rfl ?_
    refine rs_iload d_l_law_842 rfl rfl ?_
    refine rs_iconst (v := (nI 1)) d_l_law_844 rfl (by decide) ?_
    refine rs_iadd d_l_law_845 rfl ?_
    refine rs_tope (nI_add _ _) ?_
    refine rs_sld hX hbl hlen (by omega) d_l_law_846 rfl ?_
    refine rs_aload_n d_l_law_847 rfl rfl ?_
    refine rx_cS d_l_law_848 rfl c_l_140 (by exact np_l_runs) (h_runs_ok hC) (by decide) ⟨rfl, rfl⟩ (Nat.le_of_ble_eq_true rfl) rfl ?_
    refine rs_istore d_l_law_851 rfl (by decide) rfl ?_
    refine rs_aload_n d_l_law_853 rfl rfl ?_
    refine rs_aload_n d_l_law_854 rfl rfl ?_
    refine rs_iload d_l_law_855 rfl rfl ?_
    refine rs_iconst (v := (nI 1)) d_l_law_857 rfl (by decide) ?_
    refine rs_iadd d_l_law_858 rfl ?_
    refine rs_tope (nI_add _ _) ?_
    refine rs_sld hX hbl hlen (by omega) d_l_law_859 rfl ?_
    refine rx_cV d_l_law_860 rfl c_l_142 (by exact np_m_runs) hb2 (rl_mo hM) (by decide) ⟨rfl, rfl⟩ (Nat.le_of_ble_eq_true rfl) rfl ?_
    refine rs_istore d_l_law_863 rfl (by decide) rfl ?_
    refine rs_aload_n d_l_law_865 rfl rfl ?_
    refine rx_cV d_l_law_866 rfl c_l_81 (by exact np_m_thrown) hb3 (rl_thrown) (by decide) ⟨rfl, rfl⟩ (Nat.le_of_ble_eq_true rfl) rfl ?_
    refine rs_iload d_l_law_869 rfl rfl ?_
    refine rs_icmp_eq (tgt := 876) d_l_law_871 rfl (by decide) (fun _ => ?_) (fun hc => absurd (rfl) hc)
    refine rs_iload d_l_law_876 rfl rfl ?_
    refine rs_if_ne (tgt := 893) d_l_law_878 rfl (by decide) (fun hc => absurd (rfl) hc) (fun _ => ?_)
    refine rs_aload_n d_l_law_881 rfl rfl ?_
    refine rs_iconst (v := (nI 0)) d_l_law_882 rfl (by decide) ?_
    refine rs_lald (j := 0) d_l_law_883 rfl rl_o (by decide) (by decide) ?_
    rw [rl_upd]
    refine rs_iload d_l_law_884 rfl rfl ?_
    refine rs_i2l d_l_law_886 rfl ?_
    refine rs_lcmp d_l_law_887 rfl ?_
    rw [rl_cmp]
    refine rs_if_eq (tgt := 893) d_l_law_888 rfl (by decide) (fun _ => ?_) (fun hc => absurd (rfl) hc)
    refine rs_goto (tgt := 1008) d_l_law_893 (by decide) ?_
    exact rsV_kc (by omega) (by omega) (kk _ _ _ _ _ _ hx')
  · obtain ⟨w, rfl⟩ := hbv.1 rfl
    obtain ⟨fs2, hb2⟩ := rl_m (G := G) (x := x') (y := x) (th := th) (f := f)
    obtain ⟨fs3, hb3⟩ := rl_m (G := G) (x := x') (y := x') (th := 1) (f := f)
    refine rs_aload_n d_l_law_840 rfl rfl ?_
    refine rs_aload_n d_l_law_841 rfl rfl ?_
    refine rs_iload d_l_law_842 rfl rfl ?_
    refine rs_iconst (v := (nI 1)) d_l_law_844 rfl (by decide) ?_
    refine rs_iadd d_l_law_845 rfl ?_
    refine rs_tope (nI_add _ _) ?_
    refine rs_sld hX hbl hlen (by omega) d_l_law_846 rfl ?_
    refine rs_aload_n d_l_law_847 rfl rfl ?_
    refine rx_gS (kc' := kc) (ks' := ks) d_l_law_848 rfl c_l_140 (by exact np_l_runs) (h_runs_th0 hC) (by decide) ⟨Nat.le_refl _, Nat.le_refl _⟩ (Nat.le_of_ble_eq_true rfl) rfl ?_
    refine rs_istore d_l_law_851 rfl (by decide) rfl ?_
    refine rs_aload_n d_l_law_853 rfl rfl ?_
    refine rs_aload_n d_l_law_854 rfl rfl ?_
    refine rs_iload d_l_law_855 rfl rfl ?_
    refine rs_iconst (v := (nI 1)) d_l_law_857 rfl (by decide) ?_
    refine rs_iadd d_l_law_858 rfl ?_
    refine rs_tope (nI_add _ _) ?_
    refine rs_sld hX hbl hlen (by omega) d_l_law_859 rfl ?_
    refine rx_cV d_l_law_860 rfl c_l_142 (by exact np_m_runs) hb2 (rl_mo hM) (by decide) ⟨rfl, rfl⟩ (Nat.le_of_ble_eq_true rfl) rfl ?_
    refine rs_istore d_l_law_863 rfl (by decide) rfl ?_
    refine rs_aload_n d_l_law_865 rfl rfl ?_
    refine rx_cV d_l_law_866 rfl c_l_81 (by exact np_m_thrown) hb3 (rl_thrown) (by decide) ⟨rfl, rfl⟩ (Nat.le_of_ble_eq_true rfl) rfl ?_
    refine rs_iload d_l_law_869 rfl rfl ?_
    refine rs_icmp_eq (tgt := 876) d_l_law_871 rfl (by decide) (fun _ => ?_) (fun hc => absurd (rfl) hc)
    refine rs_iload d_l_law_876 rfl rfl ?_
    refine rs_if_ne (tgt := 893) d_l_law_878 rfl (by decide) (fun _ => ?_) (fun hc => absurd hc (by decide))
    refine rs_goto (tgt := 1008) d_l_law_893 (by decide) ?_
    exact kk _ _ _ _ _ _ hx'
  · obtain ⟨w, rfl⟩ := hbv.1 rfl
    obtain ⟨fs2, hb2⟩ := rl_m (G := G) (x := x') (y := x) (th := th) (f := f)
    obtain ⟨fs3, hb3⟩ := rl_m (G := G) (x := x') (y := x') (th := 2) (f := f)
    refine rs_aload_n d_l_law_840 rfl rfl ?_
    refine rs_aload_n d_l_law_841 rfl rfl ?_
    refine rs_iload d_l_law_842 rfl rfl ?_
    refine rs_iconst (v := (nI 1)) d_l_law_844 rfl (by decide) ?_
    refine rs_iadd d_l_law_845 rfl ?_
    refine rs_tope (nI_add _ _) ?_
    refine rs_sld hX hbl hlen (by omega) d_l_law_846 rfl ?_
    refine rs_aload_n d_l_law_847 rfl rfl ?_
    refine rx_gS (kc' := kc) (ks' := ks) d_l_law_848 rfl c_l_140 (by exact np_l_runs) (h_runs_th1 hC) (by decide) ⟨Nat.le_refl _, Nat.le_refl _⟩ (Nat.le_of_ble_eq_true rfl) rfl ?_
    refine rs_istore d_l_law_851 rfl (by decide) rfl ?_
    refine rs_aload_n d_l_law_853 rfl rfl ?_
    refine rs_aload_n d_l_law_854 rfl rfl ?_
    refine rs_iload d_l_law_855 rfl rfl ?_
    refine rs_iconst (v := (nI 1)) d_l_law_857 rfl (by decide) ?_
    refine rs_iadd d_l_law_858 rfl ?_
    refine rs_tope (nI_add _ _) ?_
    refine rs_sld hX hbl hlen (by omega) d_l_law_859 rfl ?_
    refine rx_cV d_l_law_860 rfl c_l_142 (by exact np_m_runs) hb2 (rl_mo hM) (by decide) ⟨rfl, rfl⟩ (Nat.le_of_ble_eq_true rfl) rfl ?_
    refine rs_istore d_l_law_863 rfl (by decide) rfl ?_
    refine rs_aload_n d_l_law_865 rfl rfl ?_
    refine rx_cV d_l_law_866 rfl c_l_81 (by exact np_m_thrown) hb3 (rl_thrown) (by decide) ⟨rfl, rfl⟩ (Nat.le_of_ble_eq_true rfl) rfl ?_
    refine rs_iload d_l_law_869 rfl rfl ?_
    refine rs_icmp_eq (tgt := 876) d_l_law_871 rfl (by decide) (fun _ => ?_) (fun hc => absurd (rfl) hc)
    refine rs_iload d_l_law_876 rfl rfl ?_
    refine rs_if_ne (tgt := 893) d_l_law_878 rfl (by decide) (fun _ => ?_) (fun hc => absurd hc (by decide))
    refine rs_goto (tgt := 1008) d_l_law_893 (by decide) ?_
    exact kk _ _ _ _ _ _ hx'
set_option maxRecDepth 100000 in
theorem lc_entries {G : rsG} {Q : rsR → rsH → Nat → Prop} {kc ks i sb Ln : Nat} {xs : Nat → Int32} {x5 x6 : Option Value} {x : rT} {th : Int32} {f : Nat → Int64} {n : Nat} (hX : va_X sb Ln xs (rsS0 G) (rsS0 G).heap) (hbl : sb < rsB G) (hlen : Ln ≤ 1536) (hi : i + 3 ≤ Ln) (hx : rjx x) (kk : ∀ (x' : rT) (th' : Int32) (f' : Nat → Int64) (n' : Nat) (x5 x6 : Option Value), rjx x' → rsV G M_l_law rmL Q kc ks 1008 [some (.ref sb), some (.ref (rsB G)), some (.ref (rsB G + 46)), some (.ref (rsB G + 50)), some (.int (nI i)), x5, x6] [] (rlw G x' x' th' f') n') : rsV G M_l_law rmL Q (kc + 1) (ks + 6) 896 [some (.ref sb), some (.ref (rsB G)), some (.ref (rsB G + 46)), some (.ref (rsB G + 50)), some (.int (nI i)), x5, x6] [] (rlw G x x th f) n := by
  rcases sm_entries G hx (xs (i + 1)) (xs (i + 2)) with ⟨v, x', hx', hC, hM⟩ | ⟨x', b, hbv, hx', hC, hM⟩ | ⟨x', b, hbv, hx', hC, hM⟩
  · obtain ⟨fs2, hb2⟩ := rl_m (G := G) (x := x') (y := x) (th := th) (f := (vp_updL f 0 v.toInt64))
    obtain ⟨fs3, hb3⟩ := rl_m (G := G) (x := x') (y := x') (th := 0) (f := (vp_updL f 0 v.toInt64))
    refine rs_aload_n d_l_law_896 rfl rfl ?_
    refine rs_aload_n d_l_law_897 rfl rfl ?_
    refine rs_iload d_l_law_898 rfl rfl ?_
    refine rs_iconst (v := (nI 1)) d_l_law_900 rfl (by decide) ?_
    refine rs_iadd d_l_law_901 rfl ?_
    refine rs_tope (nI_add _ _) ?_
    refine rs_sld hX hbl hlen (by omega) d_l_law_902 rfl ?_
    refine rs_aload_n d_l_law_903 rfl rfl ?_
    refine rs_iload d_l_law_904 rfl rfl ?_
    refine rs_iconst (v := (nI 2)) d_l_law_906 rfl (by decide) ?_
    refine rs_iadd d_l_law_907 rfl ?_
    refine rs_tope (nI_add _ _) ?_
    refine rs_sld hX hbl hlen (by omega) d_l_law_908 rfl ?_
    refine rs_aload_n d_l_law_909 rfl rfl ?_
    refine rx_cS d_l_law_910 rfl c_l_143 (by exact np_l_entries) (h_entries_ok hC) (by decide) ⟨rfl, rfl⟩ (Nat.le_of_ble_eq_true rfl) rfl ?_
    refine rs_istore d_l_law_913 rfl (by decide) rfl ?_
    refine rs_aload_n d_l_law_915 rfl rfl ?_
    refine rs_aload_n d_l_law_916 rfl rfl ?_
    refine rs_iload d_l_law_917 rfl rfl ?_
    refine rs_iconst (v := (nI 1)) d_l_law_919 rfl (by decide) ?_
    refine rs_iadd d_l_law_920 rfl ?_
    refine rs_tope (nI_add _ _) ?_
    refine rs_sld hX hbl hlen (by omega) d_l_law_921 rfl ?_
    refine rs_aload_n d_l_law_922 rfl rfl ?_
    refine rs_iload d_l_law_923 rfl rfl ?_
    refine rs_iconst (v := (nI 2)) d_l_law_925 rfl (by decide) ?_
    refine rs_iadd d_l_law_926 rfl ?_
    refine rs_tope (nI_add _ _) ?_
    refine rs_sld hX hbl hlen (by omega) d_l_law_927 rfl ?_
    refine rx_cV d_l_law_928 rfl c_l_145 (by exact np_m_entries) hb2 (rl_mo hM) (by decide) ⟨rfl, rfl⟩ (Nat.le_of_ble_eq_true rfl) rfl ?_
    refine rs_istore d_l_law_931 rfl (by decide) rfl ?_
    refine rs_aload_n d_l_law_933 rfl rfl ?_
    refine rx_cV d_l_law_934 rfl c_l_81 (by exact np_m_thrown) hb3 (rl_thrown) (by decide) ⟨rfl, rfl⟩ (Nat.le_of_ble_eq_true rfl) rfl ?_
    refine rs_iload d_l_law_937 rfl rfl ?_
    refine rs_icmp_eq (tgt := 944) d_l_law_939 rfl (by decide) (fun _ => ?_) (fun hc => absurd (rfl) hc)
    refine rs_iload d_l_law_944 rfl rfl ?_
    refine rs_if_ne (tgt := 961) d_l_law_946 rfl (by decide) (fun hc => absurd (rfl) hc) (fun _ => ?_)
    refine rs_aload_n d_l_law_949 rfl rfl ?_
    refine rs_iconst (v := (nI 0)) d_l_law_950 rfl (by decide) ?_
    refine rs_lald (j := 0) d_l_law_951 rfl rl_o (by decide) (by decide) ?_
    rw [rl_upd]
    refine rs_iload d_l_law_952 rfl rfl ?_
    refine rs_i2l d_l_law_954 rfl ?_
    refine rs_lcmp d_l_law_955 rfl ?_
    rw [rl_cmp]
    refine rs_if_eq (tgt := 961) d_l_law_956 rfl (by decide) (fun _ => ?_) (fun hc => absurd (rfl) hc)
    refine rs_goto (tgt := 1008) d_l_law_961 (by decide) ?_
    exact rsV_kc (by omega) (by omega) (kk _ _ _ _ _ _ hx')
  · obtain ⟨w, rfl⟩ := hbv.1 rfl
    obtain ⟨fs2, hb2⟩ := rl_m (G := G) (x := x') (y := x) (th := th) (f := f)
    obtain ⟨fs3, hb3⟩ := rl_m (G := G) (x := x') (y := x') (th := 1) (f := f)
    refine rs_aload_n d_l_law_896 rfl rfl ?_
    refine rs_aload_n d_l_law_897 rfl rfl ?_
    refine rs_iload d_l_law_898 rfl rfl ?_
    refine rs_iconst (v := (nI 1)) d_l_law_900 rfl (by decide) ?_
    refine rs_iadd d_l_law_901 rfl ?_
    refine rs_tope (nI_add _ _) ?_
    refine rs_sld hX hbl hlen (by omega) d_l_law_902 rfl ?_
    refine rs_aload_n d_l_law_903 rfl rfl ?_
    refine rs_iload d_l_law_904 rfl rfl ?_
    refine rs_iconst (v := (nI 2)) d_l_law_906 rfl (by decide) ?_
    refine rs_iadd d_l_law_907 rfl ?_
    refine rs_tope (nI_add _ _) ?_
    refine rs_sld hX hbl hlen (by omega) d_l_law_908 rfl ?_
    refine rs_aload_n d_l_law_909 rfl rfl ?_
    refine rx_gS (kc' := kc) (ks' := ks) d_l_law_910 rfl c_l_143 (by exact np_l_entries) (h_entries_th1 hC) (by decide) ⟨Nat.le_refl _, Nat.le_refl _⟩ (Nat.le_of_ble_eq_true rfl) rfl ?_
    refine rs_istore d_l_law_913 rfl (by decide) rfl ?_
    refine rs_aload_n d_l_law_915 rfl rfl ?_
    refine rs_aload_n d_l_law_916 rfl rfl ?_
    refine rs_iload d_l_law_917 rfl rfl ?_
    refine rs_iconst (v := (nI 1)) d_l_law_919 rfl (by decide) ?_
    refine rs_iadd d_l_law_920 rfl ?_
    refine rs_tope (nI_add _ _) ?_
    refine rs_sld hX hbl hlen (by omega) d_l_law_921 rfl ?_
    refine rs_aload_n d_l_law_922 rfl rfl ?_
    refine rs_iload d_l_law_923 rfl rfl ?_
    refine rs_iconst (v := (nI 2)) d_l_law_925 rfl (by decide) ?_
    refine rs_iadd d_l_law_926 rfl ?_
    refine rs_tope (nI_add _ _) ?_
    refine rs_sld hX hbl hlen (by omega) d_l_law_927 rfl ?_
    refine rx_cV d_l_law_928 rfl c_l_145 (by exact np_m_entries) hb2 (rl_mo hM) (by decide) ⟨rfl, rfl⟩ (Nat.le_of_ble_eq_true rfl) rfl ?_
    refine rs_istore d_l_law_931 rfl (by decide) rfl ?_
    refine rs_aload_n d_l_law_933 rfl rfl ?_
    refine rx_cV d_l_law_934 rfl c_l_81 (by exact np_m_thrown) hb3 (rl_thrown) (by decide) ⟨rfl, rfl⟩ (Nat.le_of_ble_eq_true rfl) rfl ?_
    refine rs_iload d_l_law_937 rfl rfl ?_
    refine rs_icmp_eq (tgt := 944) d_l_law_939 rfl (by decide) (fun _ => ?_) (fun hc => absurd (rfl) hc)
    refine rs_iload d_l_law_944 rfl rfl ?_
    refine rs_if_ne (tgt := 961) d_l_law_946 rfl (by decide) (fun _ => ?_) (fun hc => absurd hc (by decide))
    refine rs_goto (tgt := 1008) d_l_law_961 (by decide) ?_
    exact kk _ _ _ _ _ _ hx'
  · obtain ⟨w, rfl⟩ := hbv.1 rfl
    obtain ⟨fs2, hb2⟩ := rl_m (G := G) (x := x') (y := x) (th := th) (f := f)
    obtain ⟨fs3, hb3⟩ := rl_m (G := G) (x := x') (y := x') (th := 2) (f := f)
    refine rs_aload_n d_l_law_896 rfl rfl ?_
    refine rs_aload_n d_l_law_897 rfl rfl ?_
    refine rs_iload d_l_law_898 rfl rfl ?_
    refine rs_iconst (v := (nI 1)) d_l_law_900 rfl (by decide) ?_
    refine rs_iadd d_l_law_901 rfl ?_
    refine rs_tope (nI_add _ _) ?_
    refine rs_sld hX hbl hlen (by omega) d_l_law_902 rfl ?_
    refine rs_aload_n d_l_law_903 rfl rfl ?_
    refine rs_iload d_l_law_904 rfl rfl ?_
    refine rs_iconst (v := (nI 2)) d_l_law_906 rfl (by decide) ?_
    refine rs_iadd d_l_law_907 rfl ?_
    refine rs_tope (nI_add _ _) ?_
    refine rs_sld hX hbl hlen (by omega) d_l_law_908 rfl ?_
    refine rs_aload_n d_l_law_909 rfl rfl ?_
    refine rx_gS (kc' := kc) (ks' := ks) d_l_law_910 rfl c_l_143 (by exact np_l_entries) (h_entries_th3 hC) (by decide) ⟨Nat.le_refl _, Nat.le_refl _⟩ (Nat.le_of_ble_eq_true rfl) rfl ?_
    refine rs_istore d_l_law_913 rfl (by decide) rfl ?_
    refine rs_aload_n d_l_law_915 rfl rfl ?_
    refine rs_aload_n d_l_law_916 rfl rfl ?_
    refine rs_iload d_l_law_917 rfl rfl ?_
    refine rs_iconst (v := (nI 1)) d_l_law_919 rfl (by decide) ?_
    refine rs_iadd d_l_law_920 rfl ?_
    refine rs_tope (nI_add _ _) ?_
    refine rs_sld hX hbl hlen (by omega) d_l_law_921 rfl ?_
    refine rs_aload_n d_l_law_922 rfl rfl ?_
    refine rs_iload d_l_law_923 rfl rfl ?_
    refine rs_iconst (v := (nI 2)) d_l_law_925 rfl (by decide) ?_
    refine rs_iadd d_l_law_926 rfl ?_
    refine rs_tope (nI_add _ _) ?_
    refine rs_sld hX hbl hlen (by omega) d_l_law_927 rfl ?_
    refine rx_cV d_l_law_928 rfl c_l_145 (by exact np_m_entries) hb2 (rl_mo hM) (by decide) ⟨rfl, rfl⟩ (Nat.le_of_ble_eq_true rfl) rfl ?_
    refine rs_istore d_l_law_931 rfl (by decide) rfl ?_
    refine rs_aload_n d_l_law_933 rfl rfl ?_
    refine rx_cV d_l_law_934 rfl c_l_81 (by exact np_m_thrown) hb3 (rl_thrown) (by decide) ⟨rfl, rfl⟩ (Nat.le_of_ble_eq_true rfl) rfl ?_
    refine rs_iload d_l_law_937 rfl rfl ?_
    refine rs_icmp_eq (tgt := 944) d_l_law_939 rfl (by decide) (fun _ => ?_) (fun hc => absurd (rfl) hc)
    refine rs_iload d_l_law_944 rfl rfl ?_
    refine rs_if_ne (tgt := 961) d_l_law_946 rfl (by decide) (fun _ => ?_) (fun hc => absurd hc (by decide))
    refine rs_goto (tgt := 1008) d_l_law_961 (by decide) ?_
    exact kk _ _ _ _ _ _ hx'
set_option maxRecDepth 100000 in
theorem lc_room {G : rsG} {Q : rsR → rsH → Nat → Prop} {kc ks i sb Ln : Nat} {xs : Nat → Int32} {x5 x6 : Option Value} {x : rT} {th : Int32} {f : Nat → Int64} {n : Nat} (hX : va_X sb Ln xs (rsS0 G) (rsS0 G).heap) (hbl : sb < rsB G) (hlen : Ln ≤ 1536) (hi : i + 3 ≤ Ln) (hx : rjx x) (kk : ∀ (x' : rT) (th' : Int32) (f' : Nat → Int64) (n' : Nat) (x5 x6 : Option Value), rjx x' → rsV G M_l_law rmL Q kc ks 1008 [some (.ref sb), some (.ref (rsB G)), some (.ref (rsB G + 46)), some (.ref (rsB G + 50)), some (.int (nI i)), x5, x6] [] (rlw G x' x' th' f') n') : rsV G M_l_law rmL Q (kc + 1) (ks + 6) 964 [some (.ref sb), some (.ref (rsB G)), some (.ref (rsB G + 46)), some (.ref (rsB G + 50)), some (.int (nI i)), x5, x6] [] (rlw G x x th f) n := by
  rcases sm_room G hx with ⟨v, x', hx', hC, hM⟩ | ⟨x', b, hbv, hx', hC, hM⟩
  · obtain ⟨fs2, hb2⟩ := rl_m (G := G) (x := x') (y := x) (th := th) (f := (vp_updL f 0 v.toInt64))
    obtain ⟨fs3, hb3⟩ := rl_m (G := G) (x := x') (y := x') (th := 0) (f := (vp_updL f 0 v.toInt64))
    refine rs_aload_n d_l_law_964 rfl rfl ?_
    refine rs_aload_n d_l_law_965 rfl rfl ?_
    refine rx_cS d_l_law_966 rfl c_l_146 (by exact np_l_room) (h_room_ok hC) (by decide) ⟨rfl, rfl⟩ (Nat.le_of_ble_eq_true rfl) rfl ?_
    refine rs_istore d_l_law_969 rfl (by decide) rfl ?_
    refine rs_aload_n d_l_law_971 rfl rfl ?_
    refine rx_cV d_l_law_972 rfl c_l_148 (by exact np_m_room) hb2 (rl_mo hM) (by decide) ⟨rfl, rfl⟩ (Nat.le_of_ble_eq_true rfl) rfl ?_
    refine rs_istore d_l_law_975 rfl (by decide) rfl ?_
    refine rs_aload_n d_l_law_977 rfl rfl ?_
    refine rx_cV d_l_law_978 rfl c_l_81 (by exact np_m_thrown) hb3 (rl_thrown) (by decide) ⟨rfl, rfl⟩ (Nat.le_of_ble_eq_true rfl) rfl ?_
    refine rs_iload d_l_law_981 rfl rfl ?_
    refine rs_icmp_eq (tgt := 988) d_l_law_983 rfl (by decide) (fun _ => ?_) (fun hc => absurd (rfl) hc)
    refine rs_iload d_l_law_988 rfl rfl ?_
    refine rs_if_ne (tgt := 1005) d_l_law_990 rfl (by decide) (fun hc => absurd (rfl) hc) (fun _ => ?_)
    refine rs_aload_n d_l_law_993 rfl rfl ?_
    refine rs_iconst (v := (nI 0)) d_l_law_994 rfl (by decide) ?_
    refine rs_lald (j := 0) d_l_law_995 rfl rl_o (by decide) (by decide) ?_
    rw [rl_upd]
    refine rs_iload d_l_law_996 rfl rfl ?_
    refine rs_i2l d_l_law_998 rfl ?_
    refine rs_lcmp d_l_law_999 rfl ?_
    rw [rl_cmp]
    refine rs_if_eq (tgt := 1005) d_l_law_1000 rfl (by decide) (fun _ => ?_) (fun hc => absurd (rfl) hc)
    refine rs_goto (tgt := 1008) d_l_law_1005 (by decide) ?_
    exact rsV_kc (by omega) (by omega) (kk _ _ _ _ _ _ hx')
  · obtain ⟨w, rfl⟩ := hbv.1 rfl
    obtain ⟨fs2, hb2⟩ := rl_m (G := G) (x := x') (y := x) (th := th) (f := f)
    obtain ⟨fs3, hb3⟩ := rl_m (G := G) (x := x') (y := x') (th := 1) (f := f)
    refine rs_aload_n d_l_law_964 rfl rfl ?_
    refine rs_aload_n d_l_law_965 rfl rfl ?_
    refine rx_gS (kc' := kc) (ks' := ks) d_l_law_966 rfl c_l_146 (by exact np_l_room) (h_room_th1 hC) (by decide) ⟨Nat.le_refl _, Nat.le_refl _⟩ (Nat.le_of_ble_eq_true rfl) rfl ?_
    refine rs_istore d_l_law_969 rfl (by decide) rfl ?_
    refine rs_aload_n d_l_law_971 rfl rfl ?_
    refine rx_cV d_l_law_972 rfl c_l_148 (by exact np_m_room) hb2 (rl_mo hM) (by decide) ⟨rfl, rfl⟩ (Nat.le_of_ble_eq_true rfl) rfl ?_
    refine rs_istore d_l_law_975 rfl (by decide) rfl ?_
    refine rs_aload_n d_l_law_977 rfl rfl ?_
    refine rx_cV d_l_law_978 rfl c_l_81 (by exact np_m_thrown) hb3 (rl_thrown) (by decide) ⟨rfl, rfl⟩ (Nat.le_of_ble_eq_true rfl) rfl ?_
    refine rs_iload d_l_law_981 rfl rfl ?_
    refine rs_icmp_eq (tgt := 988) d_l_law_983 rfl (by decide) (fun _ => ?_) (fun hc => absurd (rfl) hc)
    refine rs_iload d_l_law_988 rfl rfl ?_
    refine rs_if_ne (tgt := 1005) d_l_law_990 rfl (by decide) (fun _ => ?_) (fun hc => absurd hc (by decide))
    refine rs_goto (tgt := 1008) d_l_law_1005 (by decide) ?_
    exact kk _ _ _ _ _ _ hx'
