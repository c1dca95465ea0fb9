/-! 32: the law's loop (written by gen_loop.py) -/
theorem i32_and31 (a : Int32) : ∃ k, k < 32 ∧ a &&& 31 = nI k := by
  refine ⟨(a &&& 31).toBitVec.toNat, ?_, ?_⟩
  · rw [Int32.toBitVec_and, BitVec.toNat_and]
    exact Nat.lt_of_le_of_lt Nat.and_le_right (by decide)
  · apply Int32.toBitVec_inj.mp
    show _ = BitVec.ofNat 32 _
    simp
theorem rs_inc3 (i : Nat) : nI i + Int32.ofInt 3 = nI (i + 3) := by
  rw [← nI_add]
  rfl
theorem law_end {Ln i : Nat} (hl : Ln ≤ 1536) (hi : i ≤ 2000) (h : Ln < i + 3) : nI Ln - nI 3 < nI i := by
  by_cases h3 : 3 ≤ Ln
  · rw [pk_sub h3]
    exact nI_lt (by omega) (by omega)
  · have h0 : ∀ z : Int32, z < 0 → z < nI i := fun z hz => by
      have h1 := Int32.not_lt.mp (nI_pos (n := i) (by omega))
      exact Int32.lt_of_lt_of_le hz h1
    match Ln, h3 with
    | 0, _ => exact h0 _ (by decide)
    | 1, _ => exact h0 _ (by decide)
    | 2, _ => exact h0 _ (by decide)
    | n + 3, h => exact absurd (by omega) h
set_option maxRecDepth 100000 in
theorem law_loop {G : rsG} {Q : rsR → rsH → Nat → Prop} {sb Ln : Nat} {xs : Nat → Int32} (hX : va_X sb Ln xs (rsS0 G) (rsS0 G).heap) (hbl : sb < rsB G) (hlen : Ln ≤ 1536) (hQ : ∀ h n, Q (.inl (some (.int 1))) h n) : ∀ (d i : Nat) (x : rT) (th : Int32) (f : Nat → Int64) (n kc ks : Nat) (x5 x6 : Option Value), rjx x → i ≤ 2000 → Ln < i + 3 + 3 * d → d ≤ kc → 6 * d ≤ ks → rsV G M_l_law rmL Q kc ks 23 [some (.ref sb), some (.ref (rsB G)), some (.ref (rsB G + 46)), some (.ref (rsB G + 50)), some (.int (nI i)), x5, x6] [] (rlw G x x th f) n := by
  intro d
  induction d with
  | zero =>
    intro i x th f n kc ks x5 x6 hx hi2 he hkc hks
    have he : Ln < i + 3 := by omega
    refine rs_iload d_l_law_23 rfl rfl ?_
    refine rs_aload_n d_l_law_25 rfl rfl ?_
    refine rs_slen hX hbl d_l_law_26 rfl ?_
    refine rs_iconst (v := (nI 3)) d_l_law_27 rfl (by decide) ?_
    refine rs_isub d_l_law_28 rfl ?_
    refine rs_icmp_gt (tgt := 1014) d_l_law_29 rfl (by decide) (fun _ => ?_) (fun hc => absurd (law_end hlen hi2 he) hc)
    refine rs_iconst (v := 1) d_l_law_1014 rfl (by decide) ?_
    exact rs_zreturn d_l_law_1015 rfl rfl (hQ _ _)
  | succ d ih =>
    intro i x th f n kc ks x5 x6 hx hi2 he0 hkc hks
    by_cases he : Ln < i + 3
    · refine rs_iload d_l_law_23 rfl rfl ?_
      refine rs_aload_n d_l_law_25 rfl rfl ?_
      refine rs_slen hX hbl d_l_law_26 rfl ?_
      refine rs_iconst (v := (nI 3)) d_l_law_27 rfl (by decide) ?_
      refine rs_isub d_l_law_28 rfl ?_
      refine rs_icmp_gt (tgt := 1014) d_l_law_29 rfl (by decide) (fun _ => ?_) (fun hc => absurd (law_end hlen hi2 he) hc)
      refine rs_iconst (v := 1) d_l_law_1014 rfl (by decide) ?_
      exact rs_zreturn d_l_law_1015 rfl rfl (hQ _ _)
    · have hi : i + 3 ≤ Ln := by omega
      obtain ⟨kc, rfl⟩ : ∃ k, kc = k + 1 := ⟨kc - 1, by omega⟩
      obtain ⟨ks, rfl⟩ : ∃ k, ks = k + 6 := ⟨ks - 6, by omega⟩
      have tail : ∀ (x' : rT) (th' : Int32) (f' : Nat → Int64) (n' : Nat) (x5 x6 : Option Value), rjx x' → rsV G M_l_law rmL Q kc ks 1008 [some (.ref sb), some (.ref (rsB G)), some (.ref (rsB G + 46)), some (.ref (rsB G + 50)), some (.int (nI i)), x5, x6] [] (rlw G x' x' th' f') n' := by
        intro x' th' f' n' x5 x6 hx'
        refine rs_iinc d_l_law_1008 rfl (by decide) rfl (rs_inc3 i) rfl ?_
        refine rs_goto (tgt := 23) d_l_law_1011 (by decide) ?_
        exact ih (i + 3) x' th' f' n' kc ks x5 x6 hx' (by omega) (by omega) (by omega) (by omega)
      refine rs_iload d_l_law_23 rfl rfl ?_
      refine rs_aload_n d_l_law_25 rfl rfl ?_
      refine rs_slen hX hbl d_l_law_26 rfl ?_
      refine rs_iconst (v := (nI 3)) d_l_law_27 rfl (by decide) ?_
      refine rs_isub d_l_law_28 rfl ?_
      refine rs_icmp_gt (tgt := 1014) d_l_law_29 rfl (by decide) (fun hc => absurd hc (by rw [pk_sub (by omega)]; exact Int32.not_lt.mpr (nI_le (by omega) (by omega)))) (fun _ => ?_)
      refine rs_aload_n d_l_law_32 rfl rfl ?_
      refine rs_iload d_l_law_33 rfl rfl ?_
      refine rs_sld hX hbl hlen (by omega) d_l_law_35 rfl ?_
      refine rs_bipush (v := 31) d_l_law_36 rfl (by decide) ?_
      refine rs_iand d_l_law_38 rfl ?_
      obtain ⟨k, hk, e⟩ := i32_and31 (xs i)
      refine rs_tope e ?_
      match k, hk with
      | 0, _ => exact rs_tableIn (x := nI 0) (off := 93) (tgt := 132) d_l_law_39 (by decide) (by decide) (by decide) (by decide) (lc_format hX hbl hlen hi hx tail)
      | 1, _ => exact rs_tableIn (x := nI 1) (off := 117) (tgt := 156) d_l_law_39 (by decide) (by decide) (by decide) (by decide) (lc_recover hX hbl hlen hi hx tail)
      | 2, _ => exact rs_tableIn (x := nI 2) (off := 161) (tgt := 200) d_l_law_39 (by decide) (by decide) (by decide) (by decide) (lc_put hX hbl hlen hi hx tail)
      | 3, _ => exact rs_tableIn (x := nI 3) (off := 229) (tgt := 268) d_l_law_39 (by decide) (by decide) (by decide) (by decide) (lc_remove hX hbl hlen hi hx tail)
      | 4, _ => exact rs_tableIn (x := nI 4) (off := 292) (tgt := 331) d_l_law_39 (by decide) (by decide) (by decide) (by decide) (lc_get hX hbl hlen hi hx tail)
      | 5, _ => exact rs_tableIn (x := nI 5) (off := 348) (tgt := 387) d_l_law_39 (by decide) (by decide) (by decide) (by decide) (lc_has hX hbl hlen hi hx tail)
      | 6, _ => exact rs_tableIn (x := nI 6) (off := 411) (tgt := 450) d_l_law_39 (by decide) (by decide) (by decide) (by decide) (lc_flush hX hbl hlen hi hx tail)
      | 7, _ => exact rs_tableIn (x := nI 7) (off := 455) (tgt := 494) d_l_law_39 (by decide) (by decide) (by decide) (by decide) (lc_compact hX hbl hlen hi hx tail)
      | 8, _ => exact rs_tableIn (x := nI 8) (off := 499) (tgt := 538) d_l_law_39 (by decide) (by decide) (by decide) (by decide) (lc_merge hX hbl hlen hi hx tail)
      | 9, _ => exact rs_tableIn (x := nI 9) (off := 555) (tgt := 594) d_l_law_39 (by decide) (by decide) (by decide) (by decide) (lc_limit hX hbl hlen hi hx tail)
      | 10, _ => exact rs_tableIn (x := nI 10) (off := 591) (tgt := 630) d_l_law_39 (by decide) (by decide) (by decide) (by decide) (lc_left hX hbl hlen hi hx tail)
      | 11, _ => exact rs_tableIn (x := nI 11) (off := 604) (tgt := 643) d_l_law_39 (by decide) (by decide) (by decide) (by decide) (lc_seek hX hbl hlen hi hx tail)
      | 12, _ => exact rs_tableIn (x := nI 12) (off := 667) (tgt := 706) d_l_law_39 (by decide) (by decide) (by decide) (by decide) (lc_next hX hbl hlen hi hx tail)
      | 13, _ => exact rs_tableIn (x := nI 13) (off := 718) (tgt := 757) d_l_law_39 (by decide) (by decide) (by decide) (by decide) (lc_key hX hbl hlen hi hx tail)
      | 14, _ => exact rs_tableIn (x := nI 14) (off := 731) (tgt := 770) d_l_law_39 (by decide) (by decide) (by decide) (by decide) (lc_value hX hbl hlen hi hx tail)
      | 15, _ => exact rs_tableIn (x := nI 15) (off := 744) (tgt := 783) d_l_law_39 (by decide) (by decide) (by decide) (by decide) (lc_size hX hbl hlen hi hx tail)
      | 16, _ => exact rs_tableIn (x := nI 16) (off := 788) (tgt := 827) d_l_law_39 (by decide) (by decide) (by decide) (by decide) (lc_memory hX hbl hlen hi hx tail)
      | 17, _ => exact rs_tableIn (x := nI 17) (off := 801) (tgt := 840) d_l_law_39 (by decide) (by decide) (by decide) (by decide) (lc_runs hX hbl hlen hi hx tail)
      | 18, _ => exact rs_tableIn (x := nI 18) (off := 857) (tgt := 896) d_l_law_39 (by decide) (by decide) (by decide) (by decide) (lc_entries hX hbl hlen hi hx tail)
      | 19, _ => exact rs_tableIn (x := nI 19) (off := 925) (tgt := 964) d_l_law_39 (by decide) (by decide) (by decide) (by decide) (lc_room hX hbl hlen hi hx tail)
      | k + 20, hk => exact rs_tableOut (x := nI (k + 20)) (tgt := 1008) d_l_law_39 (Or.inr (by rw [nI_toInt (by omega)]; omega)) (by decide) (rsV_kc (by omega) (by omega) (tail x th f n x5 x6 hx))
