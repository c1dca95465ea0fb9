/-! 29: the law's world: the class's, the reference's, the array 'out'; a caught call -/
def rod (G : rsG) (f : Nat → Int64) : rsH := fun a => if a = rsB G + 50 then some (.inl (G.2.2.2.2.1, 1, .inr (.inl f))) else none
def rlw (G : rsG) (x y : rT) (th : Int32) (f : Nat → Int64) : rsH := rcw G x (rmw G y th (rod G f))
theorem rw_nd_hi {b a : Nat} (h : b + 46 ≤ a) : rw_nd b a = (9, 0) := by
  unfold rw_nd
  rw [if_neg (by omega), if_neg (by omega), if_neg (by omega), if_neg (by omega), if_neg (by omega), if_neg (by omega), if_neg (by omega)]
theorem rcw_hi {G : rsG} {x : rT} {hf : rsH} {a : Nat} (h : rsB G + 46 ≤ a) : rcw G x hf a = hf a := by
  obtain ⟨K, V, S, T, c, P, r, lv, md, up, wl, cu⟩ := x
  show rwd G K V c P r md up wl cu hf a = hf a
  unfold rwd
  rw [rw_nd_hi h]
  rfl
theorem rmw_ne {G : rsG} {y : rT} {th : Int32} {hf : rsH} {a : Nat} (h : a < rsB G + 46 ∨ rsB G + 49 < a) : rmw G y th hf a = hf a := by
  obtain ⟨K, V, S, T, c, P, r, lv, md, up, wl, cu⟩ := y
  show rmd G S T lv th md up wl (rp_sum r 3) cu hf a = hf a
  unfold rmd
  rw [if_neg (by omega), if_neg (by omega), if_neg (by omega), if_neg (by omega)]
theorem rmw_in {G : rsG} {y : rT} {th : Int32} {hf hf' : rsH} {a : Nat} (h : rsB G + 46 ≤ a) (h2 : a ≤ rsB G + 49) : rmw G y th hf a = rmw G y th hf' a := by
  obtain ⟨K, V, S, T, c, P, r, lv, md, up, wl, cu⟩ := y
  show rmd G S T lv th md up wl (rp_sum r 3) cu hf a = rmd G S T lv th md up wl (rp_sum r 3) cu hf' a
  unfold rmd
  by_cases h0 : a = rsB G + 46
  · rw [if_pos h0, if_pos h0]
  · rw [if_neg h0, if_neg h0]
    by_cases h1 : a = rsB G + 47
    · rw [if_pos h1, if_pos h1]
    · rw [if_neg h1, if_neg h1]
      by_cases h3 : a = rsB G + 48
      · rw [if_pos h3, if_pos h3]
      · rw [if_neg h3, if_neg h3, if_pos (by omega), if_pos (by omega)]
theorem rcw_cg {G : rsG} {x : rT} {hf hf' : rsH} {a : Nat} (h : hf a = hf' a) : rcw G x hf a = rcw G x hf' a := by
  obtain ⟨K, V, S, T, c, P, r, lv, md, up, wl, cu⟩ := x
  show rwd G K V c P r md up wl cu hf a = rwd G K V c P r md up wl cu hf' a
  unfold rwd
  rw [h]
theorem rl_comm {G : rsG} {x y : rT} {th : Int32} {hf : rsH} : rcw G x (rmw G y th hf) = rmw G y th (rcw G x hf) := by
  funext a
  by_cases h1 : rsB G + 46 ≤ a
  · rw [rcw_hi h1]
    by_cases h2 : a ≤ rsB G + 49
    · exact rmw_in h1 h2
    · rw [rmw_ne (Or.inr (by omega)), rmw_ne (Or.inr (by omega)), rcw_hi h1]
  · rw [rmw_ne (Or.inl (by omega))]
    exact rcw_cg (rmw_ne (Or.inl (by omega)))
theorem rl_x {G : rsG} {x y : rT} {th : Int32} {f : Nat → Int64} : ∃ fs, rlw G x y th f (rsB G) = some (.inr (0, fs)) := by
  obtain ⟨K, V, S, T, c, P, r, lv, md, up, wl, cu⟩ := x
  exact ⟨_, rw_x⟩
theorem rl_m {G : rsG} {x y : rT} {th : Int32} {f : Nat → Int64} : ∃ fs, rlw G x y th f (rsB G + 46) = some (.inr (3, fs)) := by
  unfold rlw
  rw [rcw_hi (by omega)]
  obtain ⟨K, V, S, T, c, P, r, lv, md, up, wl, cu⟩ := y
  exact ⟨_, rm_o⟩
theorem rl_o {G : rsG} {x y : rT} {th : Int32} {f : Nat → Int64} : rlw G x y th f (rsB G + 50) = some (.inl (G.2.2.2.2.1, 1, .inr (.inl f))) := by
  unfold rlw
  rw [rcw_hi (by omega), rmw_ne (Or.inr (by omega))]
  unfold rod
  rw [if_pos rfl]
theorem rl_set {G : rsG} {x y : rT} {th : Int32} {f f' : Nat → Int64} : rs_up (rlw G x y th f) (rsB G + 50) (.inl (G.2.2.2.2.1, 1, .inr (.inl f'))) = rlw G x y th f' := by
  funext a
  unfold rs_up
  by_cases h : a = rsB G + 50
  · rw [if_pos h, h, rl_o]
  · rw [if_neg h]
    unfold rlw
    refine rcw_cg ?_
    by_cases h1 : rsB G + 46 ≤ a ∧ a ≤ rsB G + 49
    · exact rmw_in h1.1 h1.2
    · rw [rmw_ne (by omega), rmw_ne (by omega)]
      unfold rod
      rw [if_neg h, if_neg h]
/-- a contract of the class's, in the law's world -/
theorem rl_c {G : rsG} {M : rsM} {rm : Room} {as : List Value} {x x' y : rT} {th : Int32} {f : Nat → Int64} {n n' : Nat} {Q : rsH → rsR → rsH → Nat → Prop} (h : ∀ n hf, rsK G M rm as (rcw G x hf) n (Q (rcw G x' hf))) : rsK G M rm as (rlw G x y th f) n (Q (rlw G x' y th f)) := h n _
theorem rl_mo {G : rsG} {M : rsM} {rm : Room} {as : List Value} {x y y' : rT} {th co : Int32} {f : Nat → Int64} {n : Nat} {v : Option Value} (h : ∀ n hf th, rsK G M rm as (rmw G y th hf) n (rsOk v (rmw G y' co hf) n)) : rsK G M rm as (rlw G x y th f) n (rsOk v (rlw G x y' co f) n) := by
  unfold rlw
  rw [rl_comm, rl_comm]
  exact h n _ th
section RSKV
variable {G : rsG} {M M' : rsM} {rm rm' : Room} {Q : rsR → rsH → Nat → Prop} {kc ks kc' ks' pc pc' : Nat} {L : List (Option Value)} {as rest : List Value} {h h' : rsH} {n n' : Nat} {v : Option Value} {k : Nat}
/-- a call whose throw is caught here -/
theorem rx_kV {index ci b hp : Nat} {fs st : List Value} (hd : decode M.2.1 pc = .ok (.invokevirtual index, 3)) (hC : rsCV M.1.cls index ci M') (hnp : (parseMethodDescriptor M'.1.desc).map (fun d => d.parameters.length) = some as.length) (hb : h b = some (.inr (ci, fs)))
    (hK : rsK G M' rm' (.ref b :: as) h n (rsTh k h' n')) (hR : rm'.frames + 1 ≤ rm.frames ∧ 8 + (M'.2.2.1 + 11) + rm'.locals ≤ rm.locals) (hk : kc' + rm'.cells ≤ kc ∧ ks' + rm'.slots ≤ ks) (hrest : (rest.map fun v => v.category).sum ≤ 8) (hst : st = as.reverse ++ .ref b :: rest) (htk : rs_takes M k M.2.2.2.2 pc hp)
    (kk : ∀ x : Nat, rsV G M rm Q kc' ks' hp L [.ref x] h' n') : rsV G M rm Q kc ks pc L st h n :=
  rs_cV (kc' := kc') (ks' := ks') hd rfl hC hnp hb hK hR hk hrest hst (fun _ _ _ q => by obtain ⟨q1, -, -⟩ := q; cases q1) (fun _ _ _ q => by obtain ⟨q1, rfl, rfl⟩ := q; cases q1; exact Or.inr ⟨hp, htk, kk⟩)
/-- a static call whose callee makes new cells -/
theorem rx_gS {index : Nat} {st : List Value} (hd : decode M.2.1 pc = .ok (.invokestatic index, 3)) (hp : pc + 3 = pc') (hC : rsCS M.1.cls index M') (hnp : (parseMethodDescriptor M'.1.desc).map (fun d => d.parameters.length) = some as.length)
    (hK : rsK G M' rm' as h n (rsOk v h' n')) (hR : rm'.frames + 1 ≤ rm.frames ∧ 8 + (M'.2.2.1 + 11) + rm'.locals ≤ rm.locals) (hk : kc' + rm'.cells ≤ kc ∧ ks' + rm'.slots ≤ ks) (hrest : (rest.map fun v => v.category).sum ≤ 8) (hst : st = as.reverse ++ rest)
    (kk : rsV G M rm Q kc' ks' pc' L (v.toList ++ rest) h' n') : rsV G M rm Q kc ks pc L st h n :=
  rs_cS (kc' := kc') (ks' := ks') hd hp hC hnp hK hR hk hrest hst (fun _ _ _ q => by obtain ⟨q1, rfl, rfl⟩ := q; cases q1; exact kk) (fun _ _ _ q => by obtain ⟨q1, -, -⟩ := q; cases q1)
end RSKV
