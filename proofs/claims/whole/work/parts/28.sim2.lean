/-! 28: each operation on both sides (written by gen_sim2.py) -/
theorem sm_format (G : rsG) {x : rT} (h : rjx x) : smOk G M_s_format M_m_format (rmO 7 111) (rmO 3 63) [.ref (rsB G)] [.ref (rsB G + 46)] x (none) (none) ∨ smTh G M_s_format M_m_format (rmT 7 111) (rmO 3 63) [.ref (rsB G)] [.ref (rsB G + 46)] x 1 1 false := by
  obtain ⟨K, V, S, T, c, P, r, lv, md, up, wl, cu⟩ := x
  have hj : rj K V S T c P r lv md up wl cu := h
  have hs := rj_hs hj
  have hP := rj_hP hj
  have hw := rj_hw hj
  cases hsp : rp_sp wl (nI 1) with
  | none => exact Or.inr ⟨(va_up K 13 (fun _ => 0), V, rm_zr S 12, rm_zr T 12, va_up c 13 0, P, r, lv, md, 0, -1, -1), none, ⟨fun h => absurd h (by decide), fun _ => rfl⟩, rj_down hj, fun n hf => k_format_no hsp, fun n hf th => k_m_format_no hw hsp⟩
  | some wl' => exact Or.inl ⟨(va_up K 13 (fun _ => 0), V, rm_zr S 12, rm_zr T 12, va_up c 13 0, P, fun _ => 0, lv, 1, 1, wl', -1), rj_format hj (rp_sp_ok (by decide) hw hsp), fun n hf => k_format_ok hsp, fun n hf th => k_m_format_ok hw hsp⟩
theorem sm_recover (G : rsG) {x : rT} (h : rjx x) : (∃ v : Int32, smOk G M_s_recover M_m_recover (rmO 7 110) (rmO 0 0) [.ref (rsB G)] [.ref (rsB G + 46)] x (some (.int v)) (some (.int v))) ∨ smTh G M_s_recover M_m_recover (rmT 7 110) (rmO 0 0) [.ref (rsB G)] [.ref (rsB G + 46)] x 1 1 true := by
  obtain ⟨K, V, S, T, c, P, r, lv, md, up, wl, cu⟩ := x
  have hj : rj K V S T c P r lv md up wl cu := h
  have hs := rj_hs hj
  have hP := rj_hP hj
  have hw := rj_hw hj
  by_cases hu : up = 0
  · by_cases hm : md = 0
    · exact Or.inr ⟨(K, V, S, T, c, P, r, lv, md, up, wl, cu), _, ⟨fun _ => ⟨_, rfl⟩, fun h => absurd h (by decide)⟩, hj, fun n hf => k_recover_nodisk (rj_nar hj) hu hm, fun n hf th => k_m_recover_nodisk hu hm⟩
    · exact Or.inl ⟨_, (va_up K 13 (fun _ => 0), V, S, T, va_up c 13 0, P, r, lv, md, 1, wl, -1), rj_comeup hj hu, fun n hf => k_recover_ok (rj_nar hj) hu hm, fun n hf th => k_m_recover_ok hu hm⟩
  · exact Or.inr ⟨(K, V, S, T, c, P, r, lv, md, up, wl, cu), _, ⟨fun _ => ⟨_, rfl⟩, fun h => absurd h (by decide)⟩, hj, fun n hf => k_recover_up hu, fun n hf th => k_m_recover_up hu⟩
theorem sm_put (G : rsG) {x : rT} (h : rjx x) (p0 p1 : Int32) : (∃ v : Int32, smOk G M_s_put M_m_put (rmO 10 175) (rmO 5 108) [.ref (rsB G), .int p0, .int p1] [.ref (rsB G + 46), .int p0, .int p1] x (some (.int v)) (some (.int v))) ∨ smTh G M_s_put M_m_put (rmT 10 175) (rmO 5 108) [.ref (rsB G), .int p0, .int p1] [.ref (rsB G + 46), .int p0, .int p1] x 0 1 true ∨ smTh G M_s_put M_m_put (rmT 10 175) (rmO 5 108) [.ref (rsB G), .int p0, .int p1] [.ref (rsB G + 46), .int p0, .int p1] x 1 2 true ∨ smTh G M_s_put M_m_put (rmT 10 175) (rmO 5 108) [.ref (rsB G), .int p0, .int p1] [.ref (rsB G + 46), .int p0, .int p1] x 2 3 true := by
  obtain ⟨K, V, S, T, c, P, r, lv, md, up, wl, cu⟩ := x
  have hj : rj K V S T c P r lv md up wl cu := h
  have hs := rj_hs hj
  have hP := rj_hP hj
  have hw := rj_hw hj
  rcases i32_key p0 with hx | ⟨key, hk, rfl⟩
  · exact Or.inr (Or.inl ⟨(K, V, S, T, c, P, r, lv, md, up, wl, cu), _, ⟨fun _ => ⟨_, rfl⟩, fun h => absurd h (by decide)⟩, hj, fun n hf => k_put_bad hx, fun n hf th => k_m_put_no (th2 := 1) (by decide) (k_m_enter_bad hx)⟩)
  · by_cases hu : up = 0
    · exact Or.inr (Or.inr (Or.inl ⟨(K, V, S, T, c, P, r, lv, md, up, wl, cu), _, ⟨fun _ => ⟨_, rfl⟩, fun h => absurd h (by decide)⟩, hj, fun n hf => k_put_down hk hu, fun n hf th => k_m_put_no (th2 := 2) (by decide) (k_m_enter_down hk hu)⟩))
    · have h13 := rj_c100 hj 13 (by omega)
      have esz := rj_sz12 hj
      have em := rj_mem hj hk
      by_cases h0 : K 13 key = 0
      · have h0' : S 12 key = 0 := by rw [← em]; exact h0
        by_cases h8 : c 13 < 8
        · refine Or.inl ⟨nI (rp_c K c 13 key 13), (rp_u K 13 key 1, rp_u V 13 key p1, rp_u S 12 key 1, rp_u T 12 key p1, rp_c K c 13 key, P, r, lv, md, up, wl, -1), rj_set hj hu hk (Or.inl rfl) (fun _ => h8), fun n hf => ?_, fun n hf th => ?_⟩
          · exact k_put_ok hk hu (k_mp_few h8)
          · have e1 := rj_sz12 (rj_set (kd := 1) (v := p1) hj hu hk (Or.inl rfl) (fun _ => h8))
            rw [← e1]
            exact k_m_put_ok (th2 := 0) (k_m_enter_few hk hu h0' (by rw [esz]; omega))
        · have e8 : rm_sz S 12 = 8 := by have := rj_8 hj; rw [esz]; omega
          rcases fl_sim G hj with ⟨K2, V2, S2, T2, c2, P2, r2, lv2, wl2, g1, g2, g3, g4⟩ | ⟨k, co, K2, V2, S2, T2, c2, up2, wl2, cu2, g1, g2, g3, g4⟩
          · refine Or.inl ⟨nI (rp_c K2 c2 13 key 13), (rp_u K2 13 key 1, rp_u V2 13 key p1, rp_u S2 12 key 1, rp_u T2 12 key p1, rp_c K2 c2 13 key, P2, r2, lv2, md, up, wl2, -1), rj_set g1 hu hk (Or.inl rfl) (fun _ => by omega), fun n hf => ?_, fun n hf th => ?_⟩
            · exact k_put_ok hk hu (k_mp_ok hk h13 (by omega) h0 (g3 n hf))
            · have e1 := rj_sz12 (rj_set (kd := 1) (v := p1) g1 hu hk (Or.inl rfl) (fun _ => by omega))
              rw [← e1]
              exact k_m_put_ok (th2 := 0) (k_m_enter_fok hk hu h0' e8 (g4 n hf 0))
          · rcases g1 with ⟨rfl, rfl⟩ | ⟨rfl, rfl⟩
            · exact Or.inr (Or.inr (Or.inl ⟨(K2, V2, S2, T2, c2, P, r, lv, md, up2, wl2, cu2), _, ⟨fun _ => ⟨_, rfl⟩, fun h => absurd h (by decide)⟩, g2, fun n hf => k_put_th hk hu (k_mp_th hk h13 (by omega) h0 (g3 n hf)), fun n hf th => k_m_put_no (by decide) (k_m_enter_fth hk hu h0' e8 (by decide) (by decide) (g4 n hf 0))⟩))
            · exact Or.inr (Or.inr (Or.inr (⟨(K2, V2, S2, T2, c2, P, r, lv, md, up2, wl2, cu2), _, ⟨fun _ => ⟨_, rfl⟩, fun h => absurd h (by decide)⟩, g2, fun n hf => k_put_th hk hu (k_mp_th hk h13 (by omega) h0 (g3 n hf)), fun n hf th => k_m_put_no (by decide) (k_m_enter_fth hk hu h0' e8 (by decide) (by decide) (g4 n hf 0))⟩)))
      · have h0' : ¬ S 12 key = 0 := by rw [← em]; exact h0
        refine Or.inl ⟨nI (rp_c K c 13 key 13), (rp_u K 13 key 1, rp_u V 13 key p1, rp_u S 12 key 1, rp_u T 12 key p1, rp_c K c 13 key, P, r, lv, md, up, wl, -1), rj_set hj hu hk (Or.inl rfl) (fun e => absurd e h0), fun n hf => ?_, fun n hf th => ?_⟩
        · by_cases h8 : c 13 < 8
          · exact k_put_ok hk hu (k_mp_few h8)
          · exact k_put_ok hk hu (k_mp_has hk h13 (by omega) h0)
        · have e1 := rj_sz12 (rj_set (kd := 1) (v := p1) hj hu hk (Or.inl rfl) (fun e => absurd e h0))
          rw [← e1]
          exact k_m_put_ok (th2 := 0) (k_m_enter_has hk hu h0')
theorem sm_remove (G : rsG) {x : rT} (h : rjx x) (p0 : Int32) : (∃ v : Int32, (v = 0 ∨ v = 1) ∧ smOk G M_s_remove M_m_remove (rmO 10 175) (rmO 5 108) [.ref (rsB G), .int p0] [.ref (rsB G + 46), .int p0] x (some (.int v)) (some (.int v))) ∨ smTh G M_s_remove M_m_remove (rmT 10 175) (rmO 5 108) [.ref (rsB G), .int p0] [.ref (rsB G + 46), .int p0] x 0 1 true ∨ smTh G M_s_remove M_m_remove (rmT 10 175) (rmO 5 108) [.ref (rsB G), .int p0] [.ref (rsB G + 46), .int p0] x 1 2 true ∨ smTh G M_s_remove M_m_remove (rmT 10 175) (rmO 5 108) [.ref (rsB G), .int p0] [.ref (rsB G + 46), .int p0] x 2 3 true := by
  obtain ⟨K, V, S, T, c, P, r, lv, md, up, wl, cu⟩ := x
  have hj : rj K V S T c P r lv md up wl cu := h
  have hs := rj_hs hj
  have hP := rj_hP hj
  have hw := rj_hw hj
  rcases i32_key p0 with hx | ⟨key, hk, rfl⟩
  · exact Or.inr (Or.inl ⟨(K, V, S, T, c, P, r, lv, md, up, wl, cu), _, ⟨fun _ => ⟨_, rfl⟩, fun h => absurd h (by decide)⟩, hj, fun n hf => k_remove_bad hx, fun n hf th => k_m_remove_bad hx (th2 := 1) (by decide) (k_m_enter_bad hx)⟩)
  · by_cases hu : up = 0
    · exact Or.inr (Or.inr (Or.inl ⟨(K, V, S, T, c, P, r, lv, md, up, wl, cu), _, ⟨fun _ => ⟨_, rfl⟩, fun h => absurd h (by decide)⟩, hj, fun n hf => k_remove_down hk hu, fun n hf th => k_m_remove_no hk hs (th2 := 2) (by decide) (k_m_enter_down hk hu)⟩))
    · have h13 := rj_c100 hj 13 (by omega)
      have esz := rj_sz12 hj
      have em := rj_mem hj hk
      by_cases h0 : K 13 key = 0
      · have h0' : S 12 key = 0 := by rw [← em]; exact h0
        by_cases h8 : c 13 < 8
        · refine Or.inl ⟨_, rp_th01 K P (rp_sum r 3) key, (rp_u K 13 key 2, rp_u V 13 key 0, rp_u S 12 key 2, rp_u T 12 key 0, rp_c K c 13 key, P, r, lv, md, up, wl, -1), rj_set hj hu hk (Or.inr rfl) (fun _ => h8), fun n hf => ?_, fun n hf th => ?_⟩
          · exact k_remove_ok hs hP hk hu (k_mp_few h8)
          · rw [rj_th hj hk]
            exact k_m_remove_ok (th2 := 0) hk hs (k_m_enter_few hk hu h0' (by rw [esz]; omega))
        · have e8 : rm_sz S 12 = 8 := by have := rj_8 hj; rw [esz]; omega
          rcases fl_sim G hj with ⟨K2, V2, S2, T2, c2, P2, r2, lv2, wl2, g1, g2, g3, g4⟩ | ⟨k, co, K2, V2, S2, T2, c2, up2, wl2, cu2, g1, g2, g3, g4⟩
          · refine Or.inl ⟨_, rp_th01 K P (rp_sum r 3) key, (rp_u K2 13 key 2, rp_u V2 13 key 0, rp_u S2 12 key 2, rp_u T2 12 key 0, rp_c K2 c2 13 key, P2, r2, lv2, md, up, wl2, -1), rj_set g1 hu hk (Or.inr rfl) (fun _ => by omega), fun n hf => ?_, fun n hf th => ?_⟩
            · exact k_remove_ok hs hP hk hu (k_mp_ok hk h13 (by omega) h0 (g3 n hf))
            · rw [rj_th hj hk]
              exact k_m_remove_ok (th2 := 0) hk hs (k_m_enter_fok hk hu h0' e8 (g4 n hf 0))
          · rcases g1 with ⟨rfl, rfl⟩ | ⟨rfl, rfl⟩
            · exact Or.inr (Or.inr (Or.inl ⟨(K2, V2, S2, T2, c2, P, r, lv, md, up2, wl2, cu2), _, ⟨fun _ => ⟨_, rfl⟩, fun h => absurd h (by decide)⟩, g2, fun n hf => k_remove_th hs hP hk hu (k_mp_th hk h13 (by omega) h0 (g3 n hf)), fun n hf th => k_m_remove_no hk hs (by decide) (k_m_enter_fth hk hu h0' e8 (by decide) (by decide) (g4 n hf 0))⟩))
            · exact Or.inr (Or.inr (Or.inr (⟨(K2, V2, S2, T2, c2, P, r, lv, md, up2, wl2, cu2), _, ⟨fun _ => ⟨_, rfl⟩, fun h => absurd h (by decide)⟩, g2, fun n hf => k_remove_th hs hP hk hu (k_mp_th hk h13 (by omega) h0 (g3 n hf)), fun n hf th => k_m_remove_no hk hs (by decide) (k_m_enter_fth hk hu h0' e8 (by decide) (by decide) (g4 n hf 0))⟩)))
      · have h0' : ¬ S 12 key = 0 := by rw [← em]; exact h0
        refine Or.inl ⟨_, rp_th01 K P (rp_sum r 3) key, (rp_u K 13 key 2, rp_u V 13 key 0, rp_u S 12 key 2, rp_u T 12 key 0, rp_c K c 13 key, P, r, lv, md, up, wl, -1), rj_set hj hu hk (Or.inr rfl) (fun e => absurd e h0), fun n hf => ?_, fun n hf th => ?_⟩
        · by_cases h8 : c 13 < 8
          · exact k_remove_ok hs hP hk hu (k_mp_few h8)
          · exact k_remove_ok hs hP hk hu (k_mp_has hk h13 (by omega) h0)
        · rw [rj_th hj hk]
          exact k_m_remove_ok (th2 := 0) hk hs (k_m_enter_has hk hu h0')
theorem sm_get (G : rsG) {x : rT} (h : rjx x) (p0 : Int32) : (∃ v : Int32, smOk G M_s_get M_m_get (rmO 7 110) (rmO 2 44) [.ref (rsB G), .int p0] [.ref (rsB G + 46), .int p0] x (some (.int v)) (some (.int v))) ∨ smTh G M_s_get M_m_get (rmT 7 110) (rmO 2 44) [.ref (rsB G), .int p0] [.ref (rsB G + 46), .int p0] x 0 1 true ∨ smTh G M_s_get M_m_get (rmT 7 110) (rmO 2 44) [.ref (rsB G), .int p0] [.ref (rsB G + 46), .int p0] x 1 2 true ∨ smTh G M_s_get M_m_get (rmT 7 110) (rmO 2 44) [.ref (rsB G), .int p0] [.ref (rsB G + 46), .int p0] x 3 3 true := by
  obtain ⟨K, V, S, T, c, P, r, lv, md, up, wl, cu⟩ := x
  have hj : rj K V S T c P r lv md up wl cu := h
  have hs := rj_hs hj
  have hP := rj_hP hj
  have hw := rj_hw hj
  rcases i32_key p0 with hx | ⟨key, hk, rfl⟩
  · exact Or.inr (Or.inl ⟨(K, V, S, T, c, P, r, lv, md, up, wl, cu), _, ⟨fun _ => ⟨_, rfl⟩, fun h => absurd h (by decide)⟩, hj, fun n hf => k_get_bad hx, fun n hf th => k_m_get_bad hx⟩)
  · by_cases hu : up = 0
    · exact Or.inr (Or.inr (Or.inl ⟨(K, V, S, T, c, P, r, lv, md, up, wl, cu), _, ⟨fun _ => ⟨_, rfl⟩, fun h => absurd h (by decide)⟩, hj, fun n hf => k_get_down hk hu, fun n hf th => k_m_get_down hk hu⟩))
    · have et := rj_th hj hk
      by_cases hn : rp_th K P (rp_sum r 3) key = 0
      · exact Or.inr (Or.inr (Or.inr (⟨(K, V, S, T, c, P, r, lv, md, up, wl, cu), _, ⟨fun _ => ⟨_, rfl⟩, fun h => absurd h (by decide)⟩, hj, fun n hf => k_get_no hs hP hk hu hn, fun n hf th => k_m_get_no hk hu hs (by rw [← et]; exact hn)⟩)))
      · refine Or.inl ⟨_, (K, V, S, T, c, P, r, lv, md, up, wl, cu), hj, fun n hf => k_get_ok hs hP hk hu hn, fun n hf th => ?_⟩
        rw [rj_vz hj hk]
        exact k_m_get_ok hk hu hs (by rw [← et]; exact hn)
theorem sm_has (G : rsG) {x : rT} (h : rjx x) (p0 : Int32) : (∃ v : Int32, (v = 0 ∨ v = 1) ∧ smOk G M_s_has M_m_has (rmO 7 110) (rmO 2 44) [.ref (rsB G), .int p0] [.ref (rsB G + 46), .int p0] x (some (.int v)) (some (.int v))) ∨ smTh G M_s_has M_m_has (rmT 7 110) (rmO 2 44) [.ref (rsB G), .int p0] [.ref (rsB G + 46), .int p0] x 0 1 true ∨ smTh G M_s_has M_m_has (rmT 7 110) (rmO 2 44) [.ref (rsB G), .int p0] [.ref (rsB G + 46), .int p0] x 1 2 true := by
  obtain ⟨K, V, S, T, c, P, r, lv, md, up, wl, cu⟩ := x
  have hj : rj K V S T c P r lv md up wl cu := h
  have hs := rj_hs hj
  have hP := rj_hP hj
  have hw := rj_hw hj
  rcases i32_key p0 with hx | ⟨key, hk, rfl⟩
  · exact Or.inr (Or.inl ⟨(K, V, S, T, c, P, r, lv, md, up, wl, cu), _, ⟨fun _ => ⟨_, rfl⟩, fun h => absurd h (by decide)⟩, hj, fun n hf => k_has_bad hx, fun n hf th => k_m_has_bad hx⟩)
  · by_cases hu : up = 0
    · exact Or.inr (Or.inr (⟨(K, V, S, T, c, P, r, lv, md, up, wl, cu), _, ⟨fun _ => ⟨_, rfl⟩, fun h => absurd h (by decide)⟩, hj, fun n hf => k_has_down hk hu, fun n hf th => k_m_has_down hk hu⟩))
    · refine Or.inl ⟨_, rp_th01 K P (rp_sum r 3) key, (K, V, S, T, c, P, r, lv, md, up, wl, cu), hj, fun n hf => k_has_ok hs hP hk hu, fun n hf th => ?_⟩
      rw [rj_th hj hk]
      exact k_m_has_ok hk hu hs
theorem sm_flush (G : rsG) {x : rT} (h : rjx x) : (∃ v : Int32, smOk G M_s_flush M_m_flush (rmO 9 154) (rmO 4 84) [.ref (rsB G)] [.ref (rsB G + 46)] x (some (.int v)) (some (.int v))) ∨ smTh G M_s_flush M_m_flush (rmT 9 154) (rmO 4 84) [.ref (rsB G)] [.ref (rsB G + 46)] x 1 1 true ∨ smTh G M_s_flush M_m_flush (rmT 9 154) (rmO 4 84) [.ref (rsB G)] [.ref (rsB G + 46)] x 2 2 true := by
  obtain ⟨K, V, S, T, c, P, r, lv, md, up, wl, cu⟩ := x
  have hj : rj K V S T c P r lv md up wl cu := h
  have hs := rj_hs hj
  have hP := rj_hP hj
  have hw := rj_hw hj
  by_cases hu : up = 0
  · exact Or.inr (Or.inl ⟨(K, V, S, T, c, P, r, lv, md, up, wl, cu), _, ⟨fun _ => ⟨_, rfl⟩, fun h => absurd h (by decide)⟩, hj, fun n hf => k_flush_down hu, fun n hf th => k_m_flush_down hu⟩)
  · rcases fl_sim G hj with ⟨K2, V2, S2, T2, c2, P2, r2, lv2, wl2, g1, g2, g3, g4⟩ | ⟨k, co, K2, V2, S2, T2, c2, up2, wl2, cu2, g1, g2, g3, g4⟩
    · exact Or.inl ⟨_, (K2, V2, S2, T2, c2, P2, r2, lv2, md, up, wl2, -1), g1, fun n hf => k_flush_ok hu (g3 n hf), fun n hf th => k_m_flush_ok hu (g4 n hf th)⟩
    · rcases g1 with ⟨rfl, rfl⟩ | ⟨rfl, rfl⟩
      · exact Or.inr (Or.inl ⟨(K2, V2, S2, T2, c2, P, r, lv, md, up2, wl2, cu2), _, ⟨fun _ => ⟨_, rfl⟩, fun h => absurd h (by decide)⟩, g2, fun n hf => k_flush_th hu (g3 n hf), fun n hf th => k_m_flush_th hu (by decide) (g4 n hf th)⟩)
      · exact Or.inr (Or.inr (⟨(K2, V2, S2, T2, c2, P, r, lv, md, up2, wl2, cu2), _, ⟨fun _ => ⟨_, rfl⟩, fun h => absurd h (by decide)⟩, g2, fun n hf => k_flush_th hu (g3 n hf), fun n hf th => k_m_flush_th hu (by decide) (g4 n hf th)⟩))
theorem sm_compact (G : rsG) {x : rT} (h : rjx x) : (∃ v : Int32, smOk G M_s_compact M_m_compact (rmO 9 155) (rmO 4 88) [.ref (rsB G)] [.ref (rsB G + 46)] x (some (.int v)) (some (.int v))) ∨ smTh G M_s_compact M_m_compact (rmT 9 155) (rmO 4 88) [.ref (rsB G)] [.ref (rsB G + 46)] x 1 1 true ∨ smTh G M_s_compact M_m_compact (rmT 9 155) (rmO 4 88) [.ref (rsB G)] [.ref (rsB G + 46)] x 2 2 true := by
  obtain ⟨K, V, S, T, c, P, r, lv, md, up, wl, cu⟩ := x
  have hj : rj K V S T c P r lv md up wl cu := h
  have hs := rj_hs hj
  have hP := rj_hP hj
  have hw := rj_hw hj
  by_cases hu : up = 0
  · exact Or.inr (Or.inl ⟨(K, V, S, T, c, P, r, lv, md, up, wl, cu), _, ⟨fun _ => ⟨_, rfl⟩, fun h => absurd h (by decide)⟩, hj, fun n hf => k_compact_down hu, fun n hf th => k_m_compact_down hu⟩)
  · have hrn : ∀ i, i < 3 → rp_cnt (fun q => decide (nI (lv q) = nI i)) (rp_sum r 3) = r i := fun i hi => rj_runs hj hi
    have hrl : ∀ i, i < 3 → r i ≤ 12 := fun i hi => by have := (rj_begin hj hi).2.2; omega
    have hcase : (∀ i, i < 3 → r i ≤ 3) ∨ ∃ l, l < 3 ∧ (∀ i, i < l → r i ≤ 3) ∧ 3 < r l := by
      by_cases a0 : 3 < r 0
      · exact Or.inr ⟨0, by omega, fun i hi => by omega, a0⟩
      · by_cases a1 : 3 < r 1
        · exact Or.inr ⟨1, by omega, fun i hi => by obtain rfl : i = 0 := by omega
                                                    omega, a1⟩
        · by_cases a2 : 3 < r 2
          · exact Or.inr ⟨2, by omega, fun i hi => by rcases (show i = 0 ∨ i = 1 by omega) with rfl | rfl <;> omega, a2⟩
          · exact Or.inl (fun i hi => by rcases (show i = 0 ∨ i = 1 ∨ i = 2 by omega) with rfl | rfl | rfl <;> omega)
    rcases hcase with h0 | ⟨l, hl, h0, h1⟩
    · exact Or.inl ⟨_, (K, V, S, T, c, P, r, lv, md, up, wl, -1), rj_cu hj, fun n hf => k_compact_none hu h0, fun n hf th => k_m_compact_none hu hs (fun i hi => by rw [hrn i hi]; exact h0 i hi)⟩
    · have k0 : ∀ i, i < l → rp_cnt (fun q => decide (nI (lv q) = nI i)) (rp_sum r 3) ≤ 3 := fun i hi => by rw [hrn i (by omega)]; exact h0 i hi
      have k1 : 3 < rp_cnt (fun q => decide (nI (lv q) = nI l)) (rp_sum r 3) := by rw [hrn l hl]; exact h1
      rcases ml_sim G hj hl (by omega) with ⟨K2, V2, S2, T2, c2, P2, r2, lv2, wl2, g1, g3, g4⟩ | ⟨k, co, K2, V2, S2, T2, c2, up2, wl2, cu2, g1, g2, g3, g4⟩
      · exact Or.inl ⟨_, (K2, V2, S2, T2, c2, P2, r2, lv2, md, up, wl2, -1), g1, fun n hf => k_compact_ok hu hl h0 h1 (hrl l hl) (g3 n hf), fun n hf th => k_m_compact_ok hu hs hl k0 k1 (g4 n hf 0)⟩
      · rcases g1 with ⟨rfl, rfl⟩ | ⟨rfl, rfl⟩
        · exact Or.inr (Or.inl ⟨(K2, V2, S2, T2, c2, P, r, lv, md, up2, wl2, cu2), _, ⟨fun _ => ⟨_, rfl⟩, fun h => absurd h (by decide)⟩, g2, fun n hf => k_compact_th hu hl h0 h1 (hrl l hl) (g3 n hf), fun n hf th => k_m_compact_th hu hs hl k0 k1 (by decide) (g4 n hf 0)⟩)
        · exact Or.inr (Or.inr (⟨(K2, V2, S2, T2, c2, P, r, lv, md, up2, wl2, cu2), _, ⟨fun _ => ⟨_, rfl⟩, fun h => absurd h (by decide)⟩, g2, fun n hf => k_compact_th hu hl h0 h1 (hrl l hl) (g3 n hf), fun n hf th => k_m_compact_th hu hs hl k0 k1 (by decide) (g4 n hf 0)⟩))
theorem sm_merge (G : rsG) {x : rT} (h : rjx x) (p0 : Int32) : (∃ v : Int32, smOk G M_s_merge M_m_merge (rmO 9 155) (rmO 4 88) [.ref (rsB G), .int p0] [.ref (rsB G + 46), .int p0] x (some (.int v)) (some (.int v))) ∨ smTh G M_s_merge M_m_merge (rmT 9 155) (rmO 4 88) [.ref (rsB G), .int p0] [.ref (rsB G + 46), .int p0] x 0 1 true ∨ smTh G M_s_merge M_m_merge (rmT 9 155) (rmO 4 88) [.ref (rsB G), .int p0] [.ref (rsB G + 46), .int p0] x 1 2 true ∨ smTh G M_s_merge M_m_merge (rmT 9 155) (rmO 4 88) [.ref (rsB G), .int p0] [.ref (rsB G + 46), .int p0] x 2 3 true := by
  obtain ⟨K, V, S, T, c, P, r, lv, md, up, wl, cu⟩ := x
  have hj : rj K V S T c P r lv md up wl cu := h
  have hs := rj_hs hj
  have hP := rj_hP hj
  have hw := rj_hw hj
  rcases i32_lev p0 with hx | ⟨ll, hl, rfl⟩
  · exact Or.inr (Or.inl ⟨(K, V, S, T, c, P, r, lv, md, up, wl, cu), _, ⟨fun _ => ⟨_, rfl⟩, fun h => absurd h (by decide)⟩, hj, fun n hf => k_merge_bad hx, fun n hf th => k_m_merge_bad hx⟩)
  · by_cases hu : up = 0
    · exact Or.inr (Or.inr (Or.inl ⟨(K, V, S, T, c, P, r, lv, md, up, wl, cu), _, ⟨fun _ => ⟨_, rfl⟩, fun h => absurd h (by decide)⟩, hj, fun n hf => k_merge_down hl hu, fun n hf th => k_m_merge_down hl hu⟩))
    · have hrn := rj_runs hj hl
      by_cases h0 : r ll = 0
      · exact Or.inl ⟨_, (K, V, S, T, c, P, r, lv, md, up, wl, -1), rj_cu hj, fun n hf => k_merge_ok hl hu (k_ml_zero hl h0), fun n hf th => k_m_merge_none hl hu hs (by rw [hrn]; exact h0)⟩
      · have hp : 0 < rp_cnt (fun i => decide (nI (lv i) = nI ll)) (rp_sum r 3) := by rw [hrn]; omega
        rcases ml_sim G hj hl (by omega) with ⟨K2, V2, S2, T2, c2, P2, r2, lv2, wl2, g1, g3, g4⟩ | ⟨k, co, K2, V2, S2, T2, c2, up2, wl2, cu2, g1, g2, g3, g4⟩
        · exact Or.inl ⟨_, (K2, V2, S2, T2, c2, P2, r2, lv2, md, up, wl2, -1), g1, fun n hf => k_merge_ok hl hu (g3 n hf), fun n hf th => k_m_merge_ok hl hu hs hp (g4 n hf 0)⟩
        · rcases g1 with ⟨rfl, rfl⟩ | ⟨rfl, rfl⟩
          · exact Or.inr (Or.inr (Or.inl ⟨(K2, V2, S2, T2, c2, P, r, lv, md, up2, wl2, cu2), _, ⟨fun _ => ⟨_, rfl⟩, fun h => absurd h (by decide)⟩, g2, fun n hf => k_merge_th hl hu (g3 n hf), fun n hf th => k_m_merge_th hl hu hs hp (by decide) (by decide) (g4 n hf 0)⟩))
          · exact Or.inr (Or.inr (Or.inr (⟨(K2, V2, S2, T2, c2, P, r, lv, md, up2, wl2, cu2), _, ⟨fun _ => ⟨_, rfl⟩, fun h => absurd h (by decide)⟩, g2, fun n hf => k_merge_th hl hu (g3 n hf), fun n hf th => k_m_merge_th hl hu hs hp (by decide) (by decide) (g4 n hf 0)⟩)))
theorem sm_limit (G : rsG) {x : rT} (h : rjx x) (p0 : Int32) : smOk G M_s_limit M_m_limit (rmO 7 110) (rmO 0 0) [.ref (rsB G), .int p0] [.ref (rsB G + 46), .int p0] x (none) (none) ∨ smTh G M_s_limit M_m_limit (rmT 7 110) (rmO 0 0) [.ref (rsB G), .int p0] [.ref (rsB G + 46), .int p0] x 0 1 false ∨ smTh G M_s_limit M_m_limit (rmT 7 110) (rmO 0 0) [.ref (rsB G), .int p0] [.ref (rsB G + 46), .int p0] x 1 2 false := by
  obtain ⟨K, V, S, T, c, P, r, lv, md, up, wl, cu⟩ := x
  have hj : rj K V S T c P r lv md up wl cu := h
  have hs := rj_hs hj
  have hP := rj_hP hj
  have hw := rj_hw hj
  by_cases hx1 : p0 < -1
  · exact Or.inr (Or.inl ⟨(K, V, S, T, c, P, r, lv, md, up, wl, cu), none, ⟨fun h => absurd h (by decide), fun _ => rfl⟩, hj, fun n hf => k_limit_bad (Or.inl hx1), fun n hf th => k_m_limit_bad (Or.inl hx1)⟩)
  · by_cases hx2 : p0 ≤ 1000
    · by_cases hm : md = 0
      · exact Or.inr (Or.inr (⟨(K, V, S, T, c, P, r, lv, md, up, wl, cu), none, ⟨fun h => absurd h (by decide), fun _ => rfl⟩, hj, fun n hf => k_limit_nodisk hx1 hx2 (rj_nar hj) hm, fun n hf th => k_m_limit_nodisk hx1 hx2 hm⟩))
      · refine Or.inl ⟨(K, V, S, T, c, P, r, lv, md, up, p0, cu), rj_wl hj ?_, fun n hf => k_limit_ok hx1 hx2 (rj_nar hj) hm, fun n hf th => k_m_limit_ok hx1 hx2 hm⟩
        by_cases e : p0 = -1
        · exact Or.inl e
        · refine Or.inr ?_
          rw [Int32.lt_iff_toInt_lt] at hx1
          rw [Int32.le_iff_toInt_le]
          have e1 : (-1 : Int32).toInt = -1 := by decide
          have e0 : (0 : Int32).toInt = 0 := by decide
          have e2 : ¬ p0.toInt = -1 := fun e3 => e (Int32.toInt_inj.mp (by rw [e3, e1]))
          omega
    · exact Or.inr (Or.inl ⟨(K, V, S, T, c, P, r, lv, md, up, wl, cu), none, ⟨fun h => absurd h (by decide), fun _ => rfl⟩, hj, fun n hf => k_limit_bad (Or.inr hx2), fun n hf th => k_m_limit_bad (Or.inr hx2)⟩)
theorem sm_left (G : rsG) {x : rT} (h : rjx x) : (∃ v : Int32, smOk G M_s_left M_m_left (rmO 0 0) (rmO 0 0) [.ref (rsB G)] [.ref (rsB G + 46)] x (some (.int v)) (some (.int v))) := by
  obtain ⟨K, V, S, T, c, P, r, lv, md, up, wl, cu⟩ := x
  have hj : rj K V S T c P r lv md up wl cu := h
  have hs := rj_hs hj
  have hP := rj_hP hj
  have hw := rj_hw hj
  exact ⟨_, (K, V, S, T, c, P, r, lv, md, up, wl, cu), hj, fun n hf => k_left, fun n hf th => k_m_left⟩
theorem sm_key (G : rsG) {x : rT} (h : rjx x) : (∃ v : Int32, smOk G M_s_key M_m_key (rmO 0 0) (rmO 0 0) [.ref (rsB G)] [.ref (rsB G + 46)] x (some (.int v)) (some (.int v))) := by
  obtain ⟨K, V, S, T, c, P, r, lv, md, up, wl, cu⟩ := x
  have hj : rj K V S T c P r lv md up wl cu := h
  have hs := rj_hs hj
  have hP := rj_hP hj
  have hw := rj_hw hj
  exact ⟨_, (K, V, S, T, c, P, r, lv, md, up, wl, cu), hj, fun n hf => k_key, fun n hf th => k_m_key⟩
theorem sm_value (G : rsG) {x : rT} (h : rjx x) : (∃ v : Int32, smOk G M_s_value M_m_value (rmO 5 109) (rmO 1 22) [.ref (rsB G)] [.ref (rsB G + 46)] x (some (.int v)) (some (.int v))) := by
  obtain ⟨K, V, S, T, c, P, r, lv, md, up, wl, cu⟩ := x
  have hj : rj K V S T c P r lv md up wl cu := h
  have hs := rj_hs hj
  have hP := rj_hP hj
  have hw := rj_hw hj
  rcases rj_hcu hj with e | ⟨key, hk, e, ht⟩
  · exact ⟨_, (K, V, S, T, c, P, r, lv, md, up, wl, cu), hj, fun n hf => k_value_none e, fun n hf th => k_m_value_none e⟩
  · refine ⟨_, (K, V, S, T, c, P, r, lv, md, up, wl, cu), hj, fun n hf => k_value_some hs hP hk e, fun n hf th => ?_⟩
    rw [rj_vz hj hk]
    refine k_m_value_some hk e hs (fun e2 => ?_)
    unfold rm_th at ht
    rw [e2] at ht
    exact absurd (show (0 : Int32) = 1 from ht) (by decide)
theorem sm_memory (G : rsG) {x : rT} (h : rjx x) : (∃ v : Int32, smOk G M_s_memory M_m_memory (rmO 1 20) (rmO 1 23) [.ref (rsB G)] [.ref (rsB G + 46)] x (some (.int v)) (some (.int v))) := by
  obtain ⟨K, V, S, T, c, P, r, lv, md, up, wl, cu⟩ := x
  have hj : rj K V S T c P r lv md up wl cu := h
  have hs := rj_hs hj
  have hP := rj_hP hj
  have hw := rj_hw hj
  by_cases hu : up = 0
  · exact ⟨_, (K, V, S, T, c, P, r, lv, md, up, wl, cu), hj, fun n hf => k_memory_down hu, fun n hf th => k_m_memory_down hu⟩
  · refine ⟨_, (K, V, S, T, c, P, r, lv, md, up, wl, cu), hj, fun n hf => k_memory_up hu, fun n hf th => ?_⟩
    rw [← rj_sz12 hj]
    exact k_m_memory_up hu
theorem rp_scan (p : Nat → Int32) (h01 : ∀ i, p i = 0 ∨ p i = 1) : ∀ d fr, fr + d = 100 → (∀ i, fr ≤ i → i < 100 → p i = 0) ∨ ∃ x, fr ≤ x ∧ x < 100 ∧ (∀ i, fr ≤ i → i < x → p i = 0) ∧ p x = 1 := by
  intro d
  induction d with
  | zero => intro fr h; exact Or.inl (fun i h1 h2 => by omega)
  | succ d ih =>
    intro fr h
    rcases h01 fr with e | e
    · rcases ih (fr + 1) (by omega) with g | ⟨x, g1, g2, g3, g4⟩
      · refine Or.inl (fun i h1 h2 => ?_)
        by_cases e2 : i = fr
        · rw [e2]; exact e
        · exact g i (by omega) h2
      · refine Or.inr ⟨x, by omega, g2, fun i h1 h2 => ?_, g4⟩
        by_cases e2 : i = fr
        · rw [e2]; exact e
        · exact g3 i (by omega) h2
    · exact Or.inr ⟨fr, by omega, by omega, fun i h1 h2 => by omega, e⟩
theorem sm_seek (G : rsG) {x : rT} (h : rjx x) (p0 : Int32) : (∃ v : Int32, (v = 0 ∨ v = 1) ∧ smOk G M_s_seek M_m_seek (rmO 7 131) (rmO 3 65) [.ref (rsB G), .int p0] [.ref (rsB G + 46), .int p0] x (some (.int v)) (some (.int v))) ∨ smTh G M_s_seek M_m_seek (rmT 7 131) (rmO 3 65) [.ref (rsB G), .int p0] [.ref (rsB G + 46), .int p0] x 0 1 true ∨ smTh G M_s_seek M_m_seek (rmT 7 131) (rmO 3 65) [.ref (rsB G), .int p0] [.ref (rsB G + 46), .int p0] x 1 2 true := by
  obtain ⟨K, V, S, T, c, P, r, lv, md, up, wl, cu⟩ := x
  have hj : rj K V S T c P r lv md up wl cu := h
  have hs := rj_hs hj
  have hP := rj_hP hj
  have hw := rj_hw hj
  rcases i32_key p0 with hx | ⟨key, hk, rfl⟩
  · exact Or.inr (Or.inl ⟨(K, V, S, T, c, P, r, lv, md, up, wl, cu), _, ⟨fun _ => ⟨_, rfl⟩, fun h => absurd h (by decide)⟩, hj, fun n hf => k_seek_bad hx, fun n hf th => k_m_seek_bad hx⟩)
  · by_cases hu : up = 0
    · exact Or.inr (Or.inr (⟨(K, V, S, T, c, P, r, lv, md, up, wl, cu), _, ⟨fun _ => ⟨_, rfl⟩, fun h => absurd h (by decide)⟩, hj, fun n hf => k_seek_down hk hu, fun n hf th => k_m_seek_down hk hu⟩))
    · rcases rp_scan (rm_th S (rp_sum r 3)) (rm_th01 S (rp_sum r 3)) (100 - key) key (by omega) with g | ⟨x, g1, g2, g3, g4⟩
      · exact Or.inl ⟨_, Or.inl rfl, (K, V, S, T, c, P, r, lv, md, up, wl, -1), rj_cu hj, fun n hf => k_seek_none hs hP hk hu (fun i h1 h2 => by rw [rj_th hj h2]; exact g i h1 h2), fun n hf th => k_m_seek_none hk hu hs g⟩
      · exact Or.inl ⟨_, Or.inr rfl, (K, V, S, T, c, P, r, lv, md, up, wl, nI x), rj_at hj g2 g4, fun n hf => k_seek_some hs hP hk hu g1 g2 (fun i h1 h2 => by rw [rj_th hj (by omega)]; exact g3 i h1 h2) (by rw [rj_th hj g2]; exact g4), fun n hf th => k_m_seek_some hk hu hs g1 g2 g3 g4⟩
theorem sm_next (G : rsG) {x : rT} (h : rjx x) : (∃ v : Int32, (v = 0 ∨ v = 1) ∧ smOk G M_s_next M_m_next (rmO 7 131) (rmO 3 65) [.ref (rsB G)] [.ref (rsB G + 46)] x (some (.int v)) (some (.int v))) ∨ smTh G M_s_next M_m_next (rmT 7 131) (rmO 3 65) [.ref (rsB G)] [.ref (rsB G + 46)] x 1 1 true := by
  obtain ⟨K, V, S, T, c, P, r, lv, md, up, wl, cu⟩ := x
  have hj : rj K V S T c P r lv md up wl cu := h
  have hs := rj_hs hj
  have hP := rj_hP hj
  have hw := rj_hw hj
  by_cases hu : up = 0
  · exact Or.inr ⟨(K, V, S, T, c, P, r, lv, md, up, wl, cu), _, ⟨fun _ => ⟨_, rfl⟩, fun h => absurd h (by decide)⟩, hj, fun n hf => k_next_down hu, fun n hf th => k_m_next_down hu⟩
  · rcases rj_hcu hj with e | ⟨key, hk, e, ht⟩
    · exact Or.inr ⟨(K, V, S, T, c, P, r, lv, md, up, wl, cu), _, ⟨fun _ => ⟨_, rfl⟩, fun h => absurd h (by decide)⟩, hj, fun n hf => k_next_nocursor hu e, fun n hf th => k_m_next_nocursor hu e⟩
    · rcases rp_scan (rm_th S (rp_sum r 3)) (rm_th01 S (rp_sum r 3)) (100 - (key + 1)) (key + 1) (by omega) with g | ⟨x, g1, g2, g3, g4⟩
      · exact Or.inl ⟨_, Or.inl rfl, (K, V, S, T, c, P, r, lv, md, up, wl, -1), rj_cu hj, fun n hf => k_next_none hs hP hu hk e (fun i h1 h2 => by rw [rj_th hj h2]; exact g i h1 h2), fun n hf th => k_m_next_none hk e hu hs g⟩
      · exact Or.inl ⟨_, Or.inr rfl, (K, V, S, T, c, P, r, lv, md, up, wl, nI x), rj_at hj g2 g4, fun n hf => k_next_some hs hP hu hk e g1 g2 (fun i h1 h2 => by rw [rj_th hj (by omega)]; exact g3 i h1 h2) (by rw [rj_th hj g2]; exact g4), fun n hf th => k_m_next_some hk e hu hs g1 g2 g3 g4⟩
theorem sm_size (G : rsG) {x : rT} (h : rjx x) : (∃ v : Int32, smOk G M_s_size M_m_size (rmO 7 110) (rmO 2 44) [.ref (rsB G)] [.ref (rsB G + 46)] x (some (.int v)) (some (.int v))) ∨ smTh G M_s_size M_m_size (rmT 7 110) (rmO 2 44) [.ref (rsB G)] [.ref (rsB G + 46)] x 1 1 true := by
  obtain ⟨K, V, S, T, c, P, r, lv, md, up, wl, cu⟩ := x
  have hj : rj K V S T c P r lv md up wl cu := h
  have hs := rj_hs hj
  have hP := rj_hP hj
  have hw := rj_hw hj
  by_cases hu : up = 0
  · exact Or.inr ⟨(K, V, S, T, c, P, r, lv, md, up, wl, cu), _, ⟨fun _ => ⟨_, rfl⟩, fun h => absurd h (by decide)⟩, hj, fun n hf => k_size_down hu, fun n hf th => k_m_size_down hu⟩
  · refine Or.inl ⟨_, (K, V, S, T, c, P, r, lv, md, up, wl, cu), hj, fun n hf => k_size_ok hs hP hu, fun n hf th => ?_⟩
    rw [rp_cnt_cg (q := fun q => decide (rm_th S (rp_sum r 3) q = 1)) (fun k hk => by rw [rj_th hj hk])]
    exact k_m_size_ok hu hs
theorem sm_runs (G : rsG) {x : rT} (h : rjx x) (p0 : Int32) : (∃ v : Int32, smOk G M_s_runs M_m_runs (rmO 7 110) (rmO 1 23) [.ref (rsB G), .int p0] [.ref (rsB G + 46), .int p0] x (some (.int v)) (some (.int v))) ∨ smTh G M_s_runs M_m_runs (rmT 7 110) (rmO 1 23) [.ref (rsB G), .int p0] [.ref (rsB G + 46), .int p0] x 0 1 true ∨ smTh G M_s_runs M_m_runs (rmT 7 110) (rmO 1 23) [.ref (rsB G), .int p0] [.ref (rsB G + 46), .int p0] x 1 2 true := by
  obtain ⟨K, V, S, T, c, P, r, lv, md, up, wl, cu⟩ := x
  have hj : rj K V S T c P r lv md up wl cu := h
  have hs := rj_hs hj
  have hP := rj_hP hj
  have hw := rj_hw hj
  rcases i32_lev p0 with hx | ⟨ll, hl, rfl⟩
  · exact Or.inr (Or.inl ⟨(K, V, S, T, c, P, r, lv, md, up, wl, cu), _, ⟨fun _ => ⟨_, rfl⟩, fun h => absurd h (by decide)⟩, hj, fun n hf => k_runs_bad hx, fun n hf th => k_m_runs_bad hx⟩)
  · by_cases hu : up = 0
    · exact Or.inr (Or.inr (⟨(K, V, S, T, c, P, r, lv, md, up, wl, cu), _, ⟨fun _ => ⟨_, rfl⟩, fun h => absurd h (by decide)⟩, hj, fun n hf => k_runs_down hl hu, fun n hf th => k_m_runs_down hl hu⟩))
    · refine Or.inl ⟨_, (K, V, S, T, c, P, r, lv, md, up, wl, cu), hj, fun n hf => k_runs_ok hl hu, fun n hf th => ?_⟩
      rw [← rj_runs hj hl]
      exact k_m_runs_ok hl hu hs
theorem sm_entries (G : rsG) {x : rT} (h : rjx x) (p0 p1 : Int32) : (∃ v : Int32, smOk G M_s_entries M_m_entries (rmO 7 110) (rmO 1 23) [.ref (rsB G), .int p0, .int p1] [.ref (rsB G + 46), .int p0, .int p1] x (some (.int v)) (some (.int v))) ∨ smTh G M_s_entries M_m_entries (rmT 7 110) (rmO 1 23) [.ref (rsB G), .int p0, .int p1] [.ref (rsB G + 46), .int p0, .int p1] x 1 1 true ∨ smTh G M_s_entries M_m_entries (rmT 7 110) (rmO 1 23) [.ref (rsB G), .int p0, .int p1] [.ref (rsB G + 46), .int p0, .int p1] x 3 2 true := by
  obtain ⟨K, V, S, T, c, P, r, lv, md, up, wl, cu⟩ := x
  have hj : rj K V S T c P r lv md up wl cu := h
  have hs := rj_hs hj
  have hP := rj_hP hj
  have hw := rj_hw hj
  by_cases hu : up = 0
  · exact Or.inr (Or.inl ⟨(K, V, S, T, c, P, r, lv, md, up, wl, cu), _, ⟨fun _ => ⟨_, rfl⟩, fun h => absurd h (by decide)⟩, hj, fun n hf => k_entries_down hu, fun n hf th => k_m_entries_down hu⟩)
  · rcases i32_lev p0 with hx | ⟨ll, hl, rfl⟩
    · exact Or.inr (Or.inr (⟨(K, V, S, T, c, P, r, lv, md, up, wl, cu), _, ⟨fun _ => ⟨_, rfl⟩, fun h => absurd h (by decide)⟩, hj, fun n hf => k_entries_nolevel hu hx, fun n hf th => k_m_entries_nolevel hx hu⟩))
    · have hrn := rj_runs hj hl
      obtain ⟨hz, hz1, hb⟩ := rj_begin hj hl
      by_cases hy : p1 < 0 ∨ ¬ p1 < nI (r ll)
      · exact Or.inr (Or.inr (⟨(K, V, S, T, c, P, r, lv, md, up, wl, cu), _, ⟨fun _ => ⟨_, rfl⟩, fun h => absurd h (by decide)⟩, hj, fun n hf => k_entries_norun hu hl hy, fun n hf th => k_m_entries_norun hl (by rw [hrn]; exact hy) hu hs⟩))
      · have hy0 : ¬ p1 < 0 := fun e => hy (Or.inl e)
        have hy1 : p1 < nI (r ll) := by
          by_cases e : p1 < nI (r ll)
          · exact e
          · exact absurd (Or.inr e) hy
        obtain ⟨i, hi, rfl⟩ := i32_nat (Int32.not_lt.mp hy0)
        rw [nI_ltI hi (by omega)] at hy1
        refine Or.inl ⟨_, (K, V, S, T, c, P, r, lv, md, up, wl, cu), hj, fun n hf => k_entries_ok hs hP hu hl hy1 (by omega), fun n hf th => ?_⟩
        rw [← rj_sz hj (show rp_sum r ll + i < rp_sum r 3 by omega)]
        exact k_m_entries_ok hl (by rw [hrn]; exact hy1) hu hs (by omega) hz hz1
theorem sm_room (G : rsG) {x : rT} (h : rjx x) : (∃ v : Int32, smOk G M_s_room M_m_room (rmO 7 110) (rmO 2 45) [.ref (rsB G)] [.ref (rsB G + 46)] x (some (.int v)) (some (.int v))) ∨ smTh G M_s_room M_m_room (rmT 7 110) (rmO 2 45) [.ref (rsB G)] [.ref (rsB G + 46)] x 1 1 true := by
  obtain ⟨K, V, S, T, c, P, r, lv, md, up, wl, cu⟩ := x
  have hj : rj K V S T c P r lv md up wl cu := h
  have hs := rj_hs hj
  have hP := rj_hP hj
  have hw := rj_hw hj
  by_cases hu : up = 0
  · exact Or.inr ⟨(K, V, S, T, c, P, r, lv, md, up, wl, cu), _, ⟨fun _ => ⟨_, rfl⟩, fun h => absurd h (by decide)⟩, hj, fun n hf => k_room_down hu, fun n hf th => k_m_room_down hu⟩
  · refine Or.inl ⟨_, (K, V, S, T, c, P, r, lv, md, up, wl, cu), hj, fun n hf => k_room_ok hs hP (rj_hc hj) hu, fun n hf th => ?_⟩
    rw [← rj_free hj]
    exact k_m_room_ok hu hs
