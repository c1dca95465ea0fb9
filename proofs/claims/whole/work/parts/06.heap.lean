/-! 06: the rows of rsV that read and write the heap -/
def rs_up (h : rsH) (a : Nat) (e : va_E) : rsH := fun b => if b = a then some e else h b
/-- a field that a class reaches by its pool: which class of the world, which of its fields -/
def rsF (own : String) (index ci k : Nat) : Prop := ∃ (C : String) (T : u_T) (N : Nat), rsCl[ci]? = some (C, T, N) ∧ k < N ∧ Cond.fieldLink own index (T k).1 (T k).2.1 (T k).2.2.1 ∈ rsTs ∧ (∀ w ∈ u_ws C T N, w ∈ rsTs)
def rsP (own : String) (index ci k : Nat) (ty : FieldType) (fin : Bool) : Prop := ∃ (C : String) (T : u_T) (N : Nat) (ty0 : Nat → FieldType), rsCl[ci]? = some (C, T, N) ∧ k < N ∧ Cond.fieldLink own index (T k).1 (T k).2.1 (T k).2.2.1 ∈ rsTs ∧ (∀ w ∈ u_ws C T N, w ∈ rsTs) ∧
  (∀ k, k < N → parseFieldDescriptor (T k).2.2.1 = some (ty0 k)) ∧ (∀ a, a < N → ∀ b, b < N → a ≠ b → (T a).2.1 ≠ (T b).2.1) ∧ (T k).2.2.2 = fin ∧ (T k).1 = own ∧ ty0 k = ty
theorem rs_one {D : va_G} {cl : List vw_C} {a : Nat} {e : va_E} {H : Heap} (h : va_at D cl (a, e) H) : va_P D cl [(a, e)] H := by
  intro k q hk
  cases k with
  | zero => cases hk; exact h
  | succ k => simp at hk
theorem rs_plain {D : va_G} {cl : List vw_C} {a : Nat} {e : va_E} {H : Heap} {cell : Cell} (h : va_at D cl (a, e) H) (hc : H[a]? = some cell) : cell.vm.isStatics = false := by
  cases e with
  | inl x =>
    have h1 : H[a]? = some (vp_cell x.1 x.2) := h
    cases hc.symm.trans h1
    obtain ⟨cA, n, f | f | f | f | f⟩ := x <;> rfl
  | inr o =>
    obtain ⟨r, -, cell', q1, -, q3, -⟩ := h
    cases hc.symm.trans q1
    rw [q3]; rfl
theorem rs_S_put {G : rsG} {h : rsH} {n a i : Nat} {e0 x : va_E} {H H1 : Heap} {locs : List Loc} (S : rsS G h n H locs) (hh : h a = some e0) (he : va_at (rsD G) rsCl (a, x) H1) (z : H1.size = H.size) (oq : ∀ q, q ≠ a → H1[q]? = H[q]?) :
    rsS G (rs_up h a x) n H1 (locs ++ [⟨a, i⟩]) := by
  have hb := S.2.2.2.2.1 a _ hh
  refine ⟨fun b y hy => ?_, by rw [z]; exact S.2.1, fun q hq => ?_, fun q hq => ?_, fun b y hy => ?_, fun q cell hq hcell => ?_⟩
  · unfold rs_up at hy
    split at hy
    · next hba => subst hba; cases hy; exact he
    · next hba => exact (S.1 b y hy).kept (oq b hba)
  · rw [oq q (by omega)]; exact S.2.2.1 q hq
  · rcases List.mem_append.mp hq with h1 | h1
    · exact S.2.2.2.1 q h1
    · rw [List.mem_singleton.mp h1]; exact hb
  · unfold rs_up at hy
    split at hy
    · next hba => subst hba; exact hb
    · exact S.2.2.2.2.1 b y hy
  · by_cases hqa : q = a
    · subst hqa; exact rs_plain he hcell
    · rw [oq q hqa] at hcell; exact S.2.2.2.2.2 q cell hq hcell
theorem rs_S_new {G : rsG} {h : rsH} {n : Nat} {x : va_E} {H H1 : Heap} {locs : List Loc} (S : rsS G h n H locs) (he : va_at (rsD G) rsCl (H.size, x) H1) (z : H1.size = H.size + 1) (oq : ∀ q, q < H.size → H1[q]? = H[q]?) :
    rsS G (rs_up h (rsB G + n) x) (n + 1) H1 locs := by
  have hz := S.2.1
  rw [hz] at he
  refine ⟨fun b y hy => ?_, by rw [z, hz]; omega, fun q hq => ?_, S.2.2.2.1, fun b y hy => ?_, fun q cell hq hcell => ?_⟩
  · unfold rs_up at hy
    split at hy
    · next hba => subst hba; cases hy; exact he
    · exact (S.1 b y hy).kept (oq b (S.1 b y hy).lt)
  · rw [oq q (by omega)]; exact S.2.2.1 q hq
  · unfold rs_up at hy
    split at hy
    · next hba => omega
    · exact S.2.2.2.2.1 b y hy
  · by_cases hqa : q = rsB G + n
    · subst hqa; exact rs_plain he hcell
    · by_cases hql : q < H.size
      · rw [oq q hql] at hcell; exact S.2.2.2.2.2 q cell hq hcell
      · have : q < H1.size := (Array.getElem?_eq_some_iff.mp hcell).1
        omega
section RSHP
variable {G : rsG} {M : rsM} {rm : Room} {Q : rsR → rsH → Nat → Prop} {kc ks kc' ks' pc pc' : Nat} {L : List (Option Value)} {st : List Value} {h : rsH} {n : Nat}
theorem rs_getf {index ci k a : Nat} {fs : List Value} {v : Value} (hd : decode M.2.1 pc = .ok (.getfield index, 3)) (hp : pc + 3 = pc') (hF : rsF M.1.cls index ci k) (hh : h a = some (.inr (ci, fs))) (hv : fs[k]? = some v) (kk : rsV G M rm Q kc ks pc' L (v :: st) h n) : rsV G M rm Q kc ks pc L (.ref a :: st) h n := by
  subst hp
  obtain ⟨C, T, N, hcl, hk, hl, hin⟩ := hF
  intro hU p e s m args below meth c H locs cells slots ls Cx S hc hs hls
  have hw : ∀ w ∈ rsTs, w.before args s = true := fun w hw => hU.1 w hw args s Cx.2.2.2.2.1
  have hK := va_K.moved Cx.2.2.2.2.1.alike hU.2.1
  exact va_get (ws := [(a, .inr (ci, fs))]) Cx.1 Cx.2.1 hw hin Cx.2.2.2.1 hK (rs_one (S.1 a _ hh)) 0 rfl hcl k hk (hw _ hl) (fun _ h9 => h9) hv hd (kk hU p e s m args below meth c H locs cells slots ls Cx S hc hs hls)
theorem rs_putf {index ci k a : Nat} {fs fs' : List Value} {v : Value} {ty : FieldType} (hd : decode M.2.1 pc = .ok (.putfield index, 3)) (hp : pc + 3 = pc') (hF : rsP M.1.cls index ci k ty false) (hh : h a = some (.inr (ci, fs))) (hn : narrow ty v = v) (hfit : fits ty v = true) (hlen : k < fs.length) (hfs : fs.set k v = fs')
    (kk : rsV G M rm Q kc ks pc' L st (rs_up h a (.inr (ci, fs'))) n) : rsV G M rm Q kc ks pc L (v :: .ref a :: st) h n := by
  subst hp
  subst hfs
  obtain ⟨C, T, N, ty0, hcl, hk, hl, hin, hty, hnm, hfin, hdecl, ht⟩ := hF
  intro hU p e s m args below meth c H locs cells slots ls Cx S hc hs hls
  have hw : ∀ w ∈ rsTs, w.before args s = true := fun w hw => hU.1 w hw args s Cx.2.2.2.2.1
  have hK := va_K.moved Cx.2.2.2.2.1.alike hU.2.1
  have hap := va_apart (own := M.1.cls) hw hin ty0 hty hnm hK hcl
  obtain ⟨r, h1, cell, q1, q2, q3, q4⟩ := S.1 a _ hh
  have hr : r = (C, T, N) := Option.some.inj (h1.symm.trans hcl)
  subst hr
  obtain ⟨hS, hfc, kC, hkC, hkind⟩ := hK.1 ci _ hcl
  obtain ⟨cf, kf, fi, f, hi, hsl⟩ := hS k hk
  have hlay := hw _ (hin _ (u_in_lay hk))
  unfold u_lay at hlay
  rw [if_neg (by rw [hfin]; decide)] at hlay
  have hst := (u_facts hfc hkC (u_lays hw hin hk) hi).1
  have h6 := u_store hfc hkC hkind hlay hi (by rw [hty k hk, ht]) hn hfit
  refine W.putK Cx.1 Cx.2.1 (f := f) ⟨Cx.2.2.2.1, hw _ hl, ⟨_, _, _, hi⟩, hst⟩ (by rw [q2]; exact h6) q1 q3 (by rw [hsl]; exact k2_hasslot (q4 k hk)) rfl rfl hd fun H' e1 e2 e3 => ?_
  rw [hsl] at e1 ⊢
  exact kk hU p e s m args below meth c H' _ cells slots ls Cx (rs_S_put S hh ⟨_, hcl, t_OB.to (V := updV (vp_V fs) k v) ⟨_, e1, q2, q3, t_set q4 hap hk v⟩ (fun j _ => vp_updV_set hlen v j)⟩ e2 e3) hc hs hls
theorem rs_putF {index ci k a : Nat} {fs fs' : List Value} {v : Value} {ty : FieldType} (hd : decode M.2.1 pc = .ok (.putfield index, 3)) (hp : pc + 3 = pc') (hF : rsP M.1.cls index ci k ty true) (hin2 : M.1.name = "<init>") (hh : h a = some (.inr (ci, fs))) (hn : narrow ty v = v) (hfit : fits ty v = true) (hlen : k < fs.length) (hfs : fs.set k v = fs')
    (kk : rsV G M rm Q kc ks pc' L st (rs_up h a (.inr (ci, fs'))) n) : rsV G M rm Q kc ks pc L (v :: .ref a :: st) h n := by
  subst hp
  subst hfs
  obtain ⟨C, T, N, ty0, hcl, hk, hl, hin, hty, hnm, hfin, hdecl, ht⟩ := hF
  intro hU p e s m args below meth c H locs cells slots ls Cx S hc hs hls
  have hw : ∀ w ∈ rsTs, w.before args s = true := fun w hw => hU.1 w hw args s Cx.2.2.2.2.1
  have hK := va_K.moved Cx.2.2.2.2.1.alike hU.2.1
  have hap := va_apart (own := M.1.cls) hw hin ty0 hty hnm hK hcl
  obtain ⟨r, h1, cell, q1, q2, q3, q4⟩ := S.1 a _ hh
  have hr : r = (C, T, N) := Option.some.inj (h1.symm.trans hcl)
  subst hr
  obtain ⟨hS, hfc, kC, hkC, hkind⟩ := hK.1 ci _ hcl
  obtain ⟨cf, kf, fi, f, hi, hsl⟩ := hS k hk
  have hlay := hw _ (hin _ (u_in_lay hk))
  unfold u_lay at hlay
  rw [if_pos hfin] at hlay
  have hst := (u_facts hfc hkC (u_lays hw hin hk) hi).1
  have hcf : m.cls = cf := by
    obtain ⟨_, _, c', _, _, _, -, -, hf', -, -, -, hown2, -⟩ := Cond.laysFinal_spec hlay
    have e1 : c' = cf := by have := hi.symm.trans hf'; simp at this; exact this.1.symm
    rw [hdecl] at hown2
    rw [← e1]; exact Option.some.inj (Cx.2.2.2.1.symm.trans hown2)
  have h6 := u_fits hfc hkC hkind (Or.inr hlay) hi (by rw [hty k hk, ht]) hn hfit
  refine W.putFinK Cx.1 Cx.2.1 Cx.2.2.2.1 (hw _ hl) hi hst hcf (Cx.2.2.2.2.2.2.2.2.1.trans hin2) (by rw [q2]; exact h6) q1 q3 (by rw [hsl]; exact k2_hasslot (q4 k hk)) rfl rfl hd fun H' e1 e2 e3 => ?_
  rw [hsl] at e1 ⊢
  exact kk hU p e s m args below meth c H' _ cells slots ls Cx (rs_S_put S hh ⟨_, hcl, t_OB.to (V := updV (vp_V fs) k v) ⟨_, e1, q2, q3, t_set q4 hap hk v⟩ (fun j _ => vp_updV_set hlen v j)⟩ e2 e3) hc hs hls
theorem rs_iald {a j len : Nat} {f : Nat → Int32} (hd : decode M.2.1 pc = .ok (.iaload, 1)) (hp : pc + 1 = pc') (hh : h a = some (.inl (G.2.2.2.1, len, .inl f))) (hj : j < len) (hlen : len < 2 ^ 31) (kk : rsV G M rm Q kc ks pc' L (.int (f j) :: st) h n) : rsV G M rm Q kc ks pc L (.int (nI j) :: .ref a :: st) h n := by
  subst hp
  intro hU p e s m args below meth c H locs cells slots ls Cx S hc hs hls
  have hK := va_K.moved Cx.2.2.2.2.1.alike hU.2.1
  refine va_iald (ws := [(a, .inl (G.2.2.2.1, len, .inl f))]) Cx.1 Cx.2.1 hK (rs_one (S.1 a _ hh)) 0 0 rfl rfl (vp_in_nI hj hlen) hd ?_
  rw [nI_clamp (by omega)]
  exact kk hU p e s m args below meth c H locs cells slots ls Cx S hc hs hls
theorem rs_lald {a j len : Nat} {f : Nat → Int64} (hd : decode M.2.1 pc = .ok (.laload, 1)) (hp : pc + 1 = pc') (hh : h a = some (.inl (G.2.2.2.2.1, len, .inr (.inl f)))) (hj : j < len) (hlen : len < 2 ^ 31) (kk : rsV G M rm Q kc ks pc' L (.long (f j) :: st) h n) : rsV G M rm Q kc ks pc L (.int (nI j) :: .ref a :: st) h n := by
  subst hp
  intro hU p e s m args below meth c H locs cells slots ls Cx S hc hs hls
  have hK := va_K.moved Cx.2.2.2.2.1.alike hU.2.1
  refine va_lald (ws := [(a, .inl (G.2.2.2.2.1, len, .inr (.inl f)))]) Cx.1 Cx.2.1 hK (rs_one (S.1 a _ hh)) 0 1 rfl rfl (vp_in_nI hj hlen) hd ?_
  rw [nI_clamp (by omega)]
  exact kk hU p e s m args below meth c H locs cells slots ls Cx S hc hs hls
theorem rs_aald {a j len : Nat} {f : Nat → Option Nat} (hd : decode M.2.1 pc = .ok (.aaload, 1)) (hp : pc + 1 = pc') (hh : h a = some (.inl (G.2.2.2.2.2, len, .inr (.inr (.inr (.inr f)))))) (hj : j < len) (hlen : len < 2 ^ 31) (kk : rsV G M rm Q kc ks pc' L (va_rf (f j) :: st) h n) : rsV G M rm Q kc ks pc L (.int (nI j) :: .ref a :: st) h n := by
  subst hp
  intro hU p e s m args below meth c H locs cells slots ls Cx S hc hs hls
  have hK := va_K.moved Cx.2.2.2.2.1.alike hU.2.1
  refine va_aldq (ws := [(a, .inl (G.2.2.2.2.2, len, .inr (.inr (.inr (.inr f)))))]) (C := "RunStore$Entries") Cx.1 Cx.2.1 hK (rs_one (S.1 a _ hh)) 0 2 rfl rfl (vp_in_nI hj hlen) hd ?_
  rw [nI_clamp (by omega)]
  exact kk hU p e s m args below meth c H locs cells slots ls Cx S hc hs hls
theorem rs_alenI {a len : Nat} {f : Nat → Int32} (hd : decode M.2.1 pc = .ok (.arraylength, 1)) (hp : pc + 1 = pc') (hh : h a = some (.inl (G.2.2.2.1, len, .inl f))) (kk : rsV G M rm Q kc ks pc' L (.int (nI len) :: st) h n) : rsV G M rm Q kc ks pc L (.ref a :: st) h n := by
  subst hp
  intro hU p e s m args below meth c H locs cells slots ls Cx S hc hs hls
  have hK := va_K.moved Cx.2.2.2.2.1.alike hU.2.1
  exact va_alen (ws := [(a, .inl (G.2.2.2.1, len, .inl f))]) Cx.1 Cx.2.1 hK (rs_one (S.1 a _ hh)) 0 0 rfl rfl rfl hd (kk hU p e s m args below meth c H locs cells slots ls Cx S hc hs hls)
theorem rs_alenA {a len : Nat} {f : Nat → Option Nat} (hd : decode M.2.1 pc = .ok (.arraylength, 1)) (hp : pc + 1 = pc') (hh : h a = some (.inl (G.2.2.2.2.2, len, .inr (.inr (.inr (.inr f)))))) (kk : rsV G M rm Q kc ks pc' L (.int (nI len) :: st) h n) : rsV G M rm Q kc ks pc L (.ref a :: st) h n := by
  subst hp
  intro hU p e s m args below meth c H locs cells slots ls Cx S hc hs hls
  have hK := va_K.moved Cx.2.2.2.2.1.alike hU.2.1
  exact va_alen (ws := [(a, .inl (G.2.2.2.2.2, len, .inr (.inr (.inr (.inr f)))))]) Cx.1 Cx.2.1 hK (rs_one (S.1 a _ hh)) 0 2 rfl rfl rfl hd (kk hU p e s m args below meth c H locs cells slots ls Cx S hc hs hls)
theorem rs_iast {a j len : Nat} {f : Nat → Int32} {x : Int32} (hd : decode M.2.1 pc = .ok (.iastore, 1)) (hp : pc + 1 = pc') (hh : h a = some (.inl (G.2.2.2.1, len, .inl f))) (hj : j < len) (hlen : len < 2 ^ 31) (kk : rsV G M rm Q kc ks pc' L st (rs_up h a (.inl (G.2.2.2.1, len, .inl (upd f j x)))) n) : rsV G M rm Q kc ks pc L (.int x :: .int (nI j) :: .ref a :: st) h n := by
  subst hp
  intro hU p e s m args below meth c H locs cells slots ls Cx S hc hs hls
  have hK := va_K.moved Cx.2.2.2.2.1.alike hU.2.1
  have hin : vp_in (nI j) len := vp_in_nI hj hlen
  refine W.iast Cx.1 Cx.2.1 (S.1 a _ hh) ((hK.2 0 _ rfl).1 len (fun j => .int (f j))) (fun q => by cases q) (by show ¬ (nI j < 0 ∨ (arrV _ _ _).slots.size ≤ _); rw [arrV_size]; exact hin) rfl rfl hd fun H1 e1 z oq => ?_
  refine kk hU p e s m args below meth c H1 _ cells slots ls Cx (rs_S_put S hh ?_ z oq) hc hs hls
  show H1[a]? = some (vp_cell _ _)
  rw [e1, nI_clamp (by omega)]
  rw [vp_cell_i, vp_cell_i, arrV_store]
  congr 2
  funext q
  by_cases hq : q = j
  · subst hq
    simp [updV, upd]
  · simp [updV, upd, hq]
theorem rs_last {a j len : Nat} {f : Nat → Int64} {x : Int64} (hd : decode M.2.1 pc = .ok (.lastore, 1)) (hp : pc + 1 = pc') (hh : h a = some (.inl (G.2.2.2.2.1, len, .inr (.inl f)))) (hj : j < len) (hlen : len < 2 ^ 31) (kk : rsV G M rm Q kc ks pc' L st (rs_up h a (.inl (G.2.2.2.2.1, len, .inr (.inl (vp_updL f j x))))) n) : rsV G M rm Q kc ks pc L (.long x :: .int (nI j) :: .ref a :: st) h n := by
  subst hp
  intro hU p e s m args below meth c H locs cells slots ls Cx S hc hs hls
  have hK := va_K.moved Cx.2.2.2.2.1.alike hU.2.1
  have hin : vp_in (nI j) len := vp_in_nI hj hlen
  refine W.last Cx.1 Cx.2.1 (S.1 a _ hh) ((hK.2 1 _ rfl).1 len (fun j => .long (f j))) (fun q => by cases q) (by show ¬ (nI j < 0 ∨ (arrV _ _ _).slots.size ≤ _); rw [arrV_size]; exact hin) rfl rfl hd fun H1 e1 z oq => ?_
  refine kk hU p e s m args below meth c H1 _ cells slots ls Cx (rs_S_put S hh ?_ z oq) hc hs hls
  show H1[a]? = some (vp_cell _ _)
  rw [e1, nI_clamp (by omega)]
  rw [vp_cell_l, vp_cell_l, arrV_store]
  congr 2
  funext q
  by_cases hq : q = j
  · subst hq
    simp [updV, vp_updL]
  · simp [updV, vp_updL, hq]
theorem rs_aast {a j len v ci : Nat} {f : Nat → Option Nat} {vs : List Value} {T : u_T} {N : Nat} (hd : decode M.2.1 pc = .ok (.aastore, 1)) (hp : pc + 1 = pc') (hh : h a = some (.inl (G.2.2.2.2.2, len, .inr (.inr (.inr (.inr f)))))) (hj : j < len) (hlen : len < 2 ^ 31) (hv : h v = some (.inr (ci, vs))) (hcl : rsCl[ci]? = some ("RunStore$Entries", T, N))
    (kk : rsV G M rm Q kc ks pc' L st (rs_up h a (.inl (G.2.2.2.2.2, len, .inr (.inr (.inr (.inr (va_up f j (some v)))))))) n) : rsV G M rm Q kc ks pc L (.ref v :: .int (nI j) :: .ref a :: st) h n := by
  subst hp
  intro hU p e s m args below meth c H locs cells slots ls Cx S hc hs hls
  have hK := va_K.moved Cx.2.2.2.2.1.alike hU.2.1
  have hin : vp_in (nI j) len := vp_in_nI hj hlen
  have h0 : ¬ nI j < 0 := fun q => hin (Or.inl q)
  obtain ⟨r', hr', cellV, g1, g2, g3, -⟩ := S.1 v _ hv
  have hcls := (hK.1 ci _ hcl).2
  obtain ⟨kA, comp, k1, k2, k3, -⟩ := (hK.2 2 _ rfl).2
  have hcomp : comp = (rsD G).1 ci := Option.some.inj (k3.symm.trans hcls.1)
  subst hcomp
  obtain ⟨kC, hkC, -⟩ := hcls.2
  refine W.aast Cx.1 Cx.2.1 (S.1 a _ hh) (fun q h => by cases h) (fun h => by cases h) k1 k2 rfl hkC ⟨h0, by show _ < (arrV _ _ _).slots.size; rw [arrV_size, nI_clamp (by omega)]; exact hj⟩ g1 (fun q h => by rw [g3] at h; cases h) (by rw [g2]; exact hkC) (by rw [g2]; exact va_assign hcls) rfl rfl hd fun H1 e1 z oq => ?_
  refine kk hU p e s m args below meth c H1 _ cells slots ls Cx (rs_S_put S hh ?_ z oq) hc hs hls
  show H1[a]? = some (vp_cell _ _)
  rw [e1, nI_clamp (by omega)]
  rw [vp_cell_q, vp_cell_q, arrV_store]
  congr 2
  funext q
  by_cases hq : q = j
  · subst hq
    simp [updV, va_up, va_rf]
  · simp [updV, va_up, hq]
/-- what 'new' of a class of the world asks of the tables -/
def rsN (own : String) (index ci N : Nat) (fs : List Value) : Prop := ∃ (C : String) (T : u_T) (ty0 : Nat → FieldType), rsCl[ci]? = some (C, T, N) ∧ Cond.classLink own index C ∈ rsTs ∧ Cond.instantiable C N ∈ rsTs ∧ Cond.initialized C ∈ rsTs ∧ (∀ w ∈ u_ws C T N, w ∈ rsTs) ∧ (∀ k, k < N → parseFieldDescriptor (T k).2.2.1 = some (ty0 k)) ∧ ∀ j, j < N → defaultValue (ty0 j) = vp_V fs j
theorem rs_new {index ci N : Nat} {fs : List Value} (hd : decode M.2.1 pc = .ok (.new index, 3)) (hp : pc + 3 = pc') (hN : rsN M.1.cls index ci N fs) (hkc : kc' + 1 ≤ kc) (hks : ks' + N ≤ ks) (kk : rsV G M rm Q kc' ks' pc' L (.ref (rsB G + n) :: st) (rs_up h (rsB G + n) (.inr (ci, fs))) (n + 1)) : rsV G M rm Q kc ks pc L st h n := by
  subst hp
  obtain ⟨C, T, ty0, hcl, hw1, hw2, hw3, hin, hty, hfs⟩ := hN
  intro hU p e s m args below meth c H locs cells slots ls Cx S hc hs hls
  have hw : ∀ w ∈ rsTs, w.before args s = true := fun w hw => hU.1 w hw args s Cx.2.2.2.2.1
  have hK := va_K.moved Cx.2.2.2.2.1.alike hU.2.1
  have hKn := hK.1 ci _ hcl
  refine W.newcK Cx.1 Cx.2.1 Cx.2.2.2.1 (hw _ hw1) (hw _ hw2) (hw _ hw3) rfl hd (by omega) (by omega) hKn.2.1 rfl fun H1 kC hkC e1 z1 o1 => ?_
  have hb := u_born ty0 hw hin hKn hkC e1 hty
  have := kk hU p e s m args below meth c H1 locs (cells + 1) (slots + N) ls Cx (rs_S_new S ⟨_, hcl, hb.to hfs⟩ z1 o1) (by omega) (by omega) hls
  rw [← S.2.1] at this
  exact this
theorem rs_newaI {N : Nat} {i : Int32} (hd : decode M.2.1 pc = .ok (.newarray .int, 2)) (hp : pc + 2 = pc') (hw1 : Cond.arrayClass .int ∈ rsTs) (hi : i = nI N) (hlen : N < 2 ^ 20) (hkc : kc' + 1 ≤ kc) (hks : ks' + N ≤ ks)
    (kk : rsV G M rm Q kc' ks' pc' L (.ref (rsB G + n) :: st) (rs_up h (rsB G + n) (.inl (G.2.2.2.1, N, .inl (fun _ => 0)))) (n + 1)) : rsV G M rm Q kc ks pc L (.int i :: st) h n := by
  subst hp
  subst hi
  intro hU p e s m args below meth c H locs cells slots ls Cx S hc hs hls
  have hw : ∀ w ∈ rsTs, w.before args s = true := fun w hw => hU.1 w hw args s Cx.2.2.2.2.1
  have hK := va_K.moved Cx.2.2.2.2.1.alike hU.2.1
  refine va_newaK (atype := .int) Cx.1 Cx.2.1 (hw _ hw1) rfl hd rfl (nI_pos (by omega)) (nI_clamp (by omega)) (by show N * 4 ≤ _; omega) (by omega) (by omega) rfl fun H1 cA e1 z1 o1 hAr hNm => ?_
  have hcA : cA = G.2.2.2.1 := Option.some.inj (hNm.symm.trans (hK.2 0 _ rfl).2)
  subst hcA
  have := kk hU p e s m args below meth c H1 locs (cells + 1) (slots + N) ls Cx (rs_S_new S (by show H1[H.size]? = some (vp_cell _ _); rw [vp_cell_i]; exact e1) z1 o1) (by omega) (by omega) hls
  rw [← S.2.1] at this
  exact this
theorem rs_newaL {N : Nat} {i : Int32} (hd : decode M.2.1 pc = .ok (.newarray .long, 2)) (hp : pc + 2 = pc') (hw1 : Cond.arrayClass .long ∈ rsTs) (hi : i = nI N) (hlen : N < 2 ^ 20) (hkc : kc' + 1 ≤ kc) (hks : ks' + N ≤ ks)
    (kk : rsV G M rm Q kc' ks' pc' L (.ref (rsB G + n) :: st) (rs_up h (rsB G + n) (.inl (G.2.2.2.2.1, N, .inr (.inl (fun _ => 0))))) (n + 1)) : rsV G M rm Q kc ks pc L (.int i :: st) h n := by
  subst hp
  subst hi
  intro hU p e s m args below meth c H locs cells slots ls Cx S hc hs hls
  have hw : ∀ w ∈ rsTs, w.before args s = true := fun w hw => hU.1 w hw args s Cx.2.2.2.2.1
  have hK := va_K.moved Cx.2.2.2.2.1.alike hU.2.1
  refine va_newaK (atype := .long) Cx.1 Cx.2.1 (hw _ hw1) rfl hd rfl (nI_pos (by omega)) (nI_clamp (by omega)) (by show N * 8 ≤ _; omega) (by omega) (by omega) rfl fun H1 cA e1 z1 o1 hAr hNm => ?_
  have hcA : cA = G.2.2.2.2.1 := Option.some.inj (hNm.symm.trans (hK.2 1 _ rfl).2)
  subst hcA
  have := kk hU p e s m args below meth c H1 locs (cells + 1) (slots + N) ls Cx (rs_S_new S (by show H1[H.size]? = some (vp_cell _ _); rw [vp_cell_l]; exact e1) z1 o1) (by omega) (by omega) hls
  rw [← S.2.1] at this
  exact this
theorem rs_newaE {N index : Nat} {i : Int32} (hd : decode M.2.1 pc = .ok (.anewarray index, 3)) (hp : pc + 3 = pc') (hw1 : Cond.classLink M.1.cls index "RunStore$Entries" ∈ rsTs) (hw2 : Cond.arrayOver (.object "RunStore$Entries") ∈ rsTs) (hi : i = nI N) (hlen : N < 2 ^ 20) (hkc : kc' + 1 ≤ kc) (hks : ks' + N ≤ ks)
    (kk : rsV G M rm Q kc' ks' pc' L (.ref (rsB G + n) :: st) (rs_up h (rsB G + n) (.inl (G.2.2.2.2.2, N, .inr (.inr (.inr (.inr (fun _ => none))))))) (n + 1)) : rsV G M rm Q kc ks pc L (.int i :: st) h n := by
  subst hp
  subst hi
  intro hU p e s m args below meth c H locs cells slots ls Cx S hc hs hls
  have hw : ∀ w ∈ rsTs, w.before args s = true := fun w hw => hU.1 w hw args s Cx.2.2.2.2.1
  have hK := va_K.moved Cx.2.2.2.2.1.alike hU.2.1
  have hcn : (nI N).toNatClampNeg = N := nI_clamp (by omega)
  refine W.anew Cx.1 Cx.2.1 Cx.2.2.2.1 (hw _ hw1) (hw _ hw2) rfl hd rfl (nI_pos (by omega)) (by rw [hcn]; omega) (by omega) (by rw [hcn]; omega) fun cA kA comp f1 f2 f3 f4 => ?_
  obtain ⟨kA', comp', k1, k2, k3, k4⟩ := (hK.2 2 _ rfl).2
  have hcA : cA = G.2.2.2.2.2 := Option.some.inj (f1.symm.trans k4)
  subst hcA
  rw [hcn]
  generalize hH1 : H.push ({ cls := G.2.2.2.2.2, slots := Array.replicate N .null, vm := .none } : Cell) = H1
  have z1 : H1.size = H.size + 1 := by rw [← hH1, Array.size_push]
  have e1 : H1[H.size]? = some (arrV G.2.2.2.2.2 N (fun _ => .null)) := by rw [← hH1, Array.getElem?_push_size, ← arrV_new]
  have o1 : ∀ q : Nat, q < H.size → H1[q]? = H[q]? := fun q hq => by rw [← hH1, Array.getElem?_push, if_neg (Nat.ne_of_lt hq)]
  have := kk hU p e s m args below meth c H1 locs (cells + 1) (slots + N) ls Cx (rs_S_new S (by show H1[H.size]? = some (vp_cell _ _); rw [vp_cell_q]; exact e1) z1 o1) (by omega) (by omega) hls
  rw [← S.2.1] at this
  exact this
theorem rs_obj {a index : Nat} (hd : decode M.2.1 pc = .ok (.invokespecial index, 3)) (hp : pc + 3 = pc') (hw1 : Cond.methodLink M.1.cls index Lib.objectInit ∈ rsTs) (hw2 : Cond.instanceMethod Lib.objectInit ∈ rsTs) (hw3 : Cond.code Lib.objectInit ⟨#[0xb1]⟩ 1 none ∈ rsTs) (hst : (st.map fun v => v.category).sum ≤ 8) (hfr : 1 ≤ rm.frames) (hlo : 20 ≤ rm.locals)
    (kk : rsV G M rm Q kc ks pc' L st h n) : rsV G M rm Q kc ks pc L (.ref a :: st) h n := by
  subst hp
  intro hU p e s m args below meth c H locs cells slots ls Cx S hc hs hls
  have hw : ∀ w ∈ rsTs, w.before args s = true := fun w hw => hU.1 w hw args s Cx.2.2.2.2.1
  refine W.objInit Cx.1 Cx.2.1 Cx.2.2.2.1 (hw _ hw1) (hw _ hw2) (hw _ hw3) rfl (by rw [Cx.2.2.1]; exact hls.1) rfl hd hfr (by show 2 * 0 + _ + 12 ≤ _; omega) ?_
  exact kk hU p e s m args below meth c H locs cells slots ls Cx S hc hs hls
end RSHP
