/-! 09: rows for each field and array of the class's world (written by gen_fields.py) -/
section RSFX
variable {G : rsG} {M : rsM} {rm : Room} {Q : rsR → rsH → Nat → Prop} {kc ks pc pc' : Nat} {L : List (Option Value)} {st : List Value} {n : Nat} {K V : Nat → Nat → Int32} {c P r : Nat → Nat} {md up wl cu : Int32} {hf : rsH}
theorem rx_get_ga {index : Nat}  (hd : decode M.2.1 pc = .ok (.getfield index, 3)) (hp : pc + 3 = pc') (hF : rsF M.1.cls index 0 0) (kk : rsV G M rm Q kc ks pc' L (.ref (rw_eo (rsB G) 13) :: st) (rwd G K V c P r md up wl cu hf) n) : rsV G M rm Q kc ks pc L (.ref (rsB G) :: st) (rwd G K V c P r md up wl cu hf) n :=
  rs_getf hd hp hF rw_x rfl kk
theorem rx_get_di {index : Nat}  (hd : decode M.2.1 pc = .ok (.getfield index, 3)) (hp : pc + 3 = pc') (hF : rsF M.1.cls index 0 1) (kk : rsV G M rm Q kc ks pc' L (.ref (rsB G + 4) :: st) (rwd G K V c P r md up wl cu hf) n) : rsV G M rm Q kc ks pc L (.ref (rsB G) :: st) (rwd G K V c P r md up wl cu hf) n :=
  rs_getf hd hp hF rw_x rfl kk
theorem rx_get_up {index : Nat}  (hd : decode M.2.1 pc = .ok (.getfield index, 3)) (hp : pc + 3 = pc') (hF : rsF M.1.cls index 0 2) (kk : rsV G M rm Q kc ks pc' L (.int up :: st) (rwd G K V c P r md up wl cu hf) n) : rsV G M rm Q kc ks pc L (.ref (rsB G) :: st) (rwd G K V c P r md up wl cu hf) n :=
  rs_getf hd hp hF rw_x rfl kk
theorem rx_get_wl {index : Nat}  (hd : decode M.2.1 pc = .ok (.getfield index, 3)) (hp : pc + 3 = pc') (hF : rsF M.1.cls index 0 3) (kk : rsV G M rm Q kc ks pc' L (.int wl :: st) (rwd G K V c P r md up wl cu hf) n) : rsV G M rm Q kc ks pc L (.ref (rsB G) :: st) (rwd G K V c P r md up wl cu hf) n :=
  rs_getf hd hp hF rw_x rfl kk
theorem rx_get_cu {index : Nat}  (hd : decode M.2.1 pc = .ok (.getfield index, 3)) (hp : pc + 3 = pc') (hF : rsF M.1.cls index 0 4) (kk : rsV G M rm Q kc ks pc' L (.int cu :: st) (rwd G K V c P r md up wl cu hf) n) : rsV G M rm Q kc ks pc L (.ref (rsB G) :: st) (rwd G K V c P r md up wl cu hf) n :=
  rs_getf hd hp hF rw_x rfl kk
theorem rx_get_ki {index : Nat} {j : Nat} (hj : j ≤ 13) (hd : decode M.2.1 pc = .ok (.getfield index, 3)) (hp : pc + 3 = pc') (hF : rsF M.1.cls index 1 0) (kk : rsV G M rm Q kc ks pc' L (.ref (rw_ko (rsB G) j) :: st) (rwd G K V c P r md up wl cu hf) n) : rsV G M rm Q kc ks pc L (.ref (rw_eo (rsB G) j) :: st) (rwd G K V c P r md up wl cu hf) n :=
  rs_getf hd hp hF (rw_e hj) rfl kk
theorem rx_get_va {index : Nat} {j : Nat} (hj : j ≤ 13) (hd : decode M.2.1 pc = .ok (.getfield index, 3)) (hp : pc + 3 = pc') (hF : rsF M.1.cls index 1 1) (kk : rsV G M rm Q kc ks pc' L (.ref (rw_vo (rsB G) j) :: st) (rwd G K V c P r md up wl cu hf) n) : rsV G M rm Q kc ks pc L (.ref (rw_eo (rsB G) j) :: st) (rwd G K V c P r md up wl cu hf) n :=
  rs_getf hd hp hF (rw_e hj) rfl kk
theorem rx_get_ct {index : Nat} {j : Nat} (hj : j ≤ 13) (hd : decode M.2.1 pc = .ok (.getfield index, 3)) (hp : pc + 3 = pc') (hF : rsF M.1.cls index 1 2) (kk : rsV G M rm Q kc ks pc' L (.int (nI (c j)) :: st) (rwd G K V c P r md up wl cu hf) n) : rsV G M rm Q kc ks pc L (.ref (rw_eo (rsB G) j) :: st) (rwd G K V c P r md up wl cu hf) n :=
  rs_getf hd hp hF (rw_e hj) rfl kk
theorem rx_get_pl {index : Nat}  (hd : decode M.2.1 pc = .ok (.getfield index, 3)) (hp : pc + 3 = pc') (hF : rsF M.1.cls index 2 0) (kk : rsV G M rm Q kc ks pc' L (.ref (rsB G + 5) :: st) (rwd G K V c P r md up wl cu hf) n) : rsV G M rm Q kc ks pc L (.ref (rsB G + 4) :: st) (rwd G K V c P r md up wl cu hf) n :=
  rs_getf hd hp hF rw_d rfl kk
theorem rx_get_ro {index : Nat}  (hd : decode M.2.1 pc = .ok (.getfield index, 3)) (hp : pc + 3 = pc') (hF : rsF M.1.cls index 2 1) (kk : rsV G M rm Q kc ks pc' L (.ref (rsB G + 45) :: st) (rwd G K V c P r md up wl cu hf) n) : rsV G M rm Q kc ks pc L (.ref (rsB G + 4) :: st) (rwd G K V c P r md up wl cu hf) n :=
  rs_getf hd hp hF rw_d rfl kk
theorem rx_get_md {index : Nat}  (hd : decode M.2.1 pc = .ok (.getfield index, 3)) (hp : pc + 3 = pc') (hF : rsF M.1.cls index 2 2) (kk : rsV G M rm Q kc ks pc' L (.int md :: st) (rwd G K V c P r md up wl cu hf) n) : rsV G M rm Q kc ks pc L (.ref (rsB G + 4) :: st) (rwd G K V c P r md up wl cu hf) n :=
  rs_getf hd hp hF rw_d rfl kk
theorem rx_put_up {index : Nat} {v : Int32} (hd : decode M.2.1 pc = .ok (.putfield index, 3)) (hp : pc + 3 = pc') (hF : rsP M.1.cls index 0 2 .boolean false) (hv : narrow .boolean (.int v) = .int v) (hf' : fits .boolean (.int v) = true) (kk : rsV G M rm Q kc ks pc' L st (rwd G K V c P r md v wl cu hf) n) : rsV G M rm Q kc ks pc L (.int (v) :: .ref (rsB G) :: st) (rwd G K V c P r md up wl cu hf) n := by
  refine rs_putf hd hp hF rw_x hv hf' (Nat.le_of_ble_eq_true rfl) (fs' := [.ref (rw_eo (rsB G) 13), .ref (rsB G + 4), .int v, .int wl, .int cu]) rfl ?_
  rw [rw_set_x]
  exact kk
theorem rx_put_wl {index : Nat} {v : Int32} (hd : decode M.2.1 pc = .ok (.putfield index, 3)) (hp : pc + 3 = pc') (hF : rsP M.1.cls index 0 3 .int false)  (kk : rsV G M rm Q kc ks pc' L st (rwd G K V c P r md up v cu hf) n) : rsV G M rm Q kc ks pc L (.int (v) :: .ref (rsB G) :: st) (rwd G K V c P r md up wl cu hf) n := by
  refine rs_putf hd hp hF rw_x rfl rfl (Nat.le_of_ble_eq_true rfl) (fs' := [.ref (rw_eo (rsB G) 13), .ref (rsB G + 4), .int up, .int v, .int cu]) rfl ?_
  rw [rw_set_x]
  exact kk
theorem rx_put_cu {index : Nat} {v : Int32} (hd : decode M.2.1 pc = .ok (.putfield index, 3)) (hp : pc + 3 = pc') (hF : rsP M.1.cls index 0 4 .int false)  (kk : rsV G M rm Q kc ks pc' L st (rwd G K V c P r md up wl v hf) n) : rsV G M rm Q kc ks pc L (.int (v) :: .ref (rsB G) :: st) (rwd G K V c P r md up wl cu hf) n := by
  refine rs_putf hd hp hF rw_x rfl rfl (Nat.le_of_ble_eq_true rfl) (fs' := [.ref (rw_eo (rsB G) 13), .ref (rsB G + 4), .int up, .int wl, .int v]) rfl ?_
  rw [rw_set_x]
  exact kk
theorem rx_put_ct {index : Nat} {j v : Nat} (hj : j ≤ 13) (hd : decode M.2.1 pc = .ok (.putfield index, 3)) (hp : pc + 3 = pc') (hF : rsP M.1.cls index 1 2 .int false)  (kk : rsV G M rm Q kc ks pc' L st (rwd G K V (va_up c j v) P r md up wl cu hf) n) : rsV G M rm Q kc ks pc L (.int (nI v) :: .ref (rw_eo (rsB G) j) :: st) (rwd G K V c P r md up wl cu hf) n := by
  refine rs_putf hd hp hF (rw_e hj) rfl rfl (Nat.le_of_ble_eq_true rfl) (fs' := [.ref (rw_ko (rsB G) j), .ref (rw_vo (rsB G) j), .int (nI v)]) rfl ?_
  rw [rw_set_e hj]
  exact kk
theorem rx_put_md {index : Nat} {v : Int32} (hd : decode M.2.1 pc = .ok (.putfield index, 3)) (hp : pc + 3 = pc') (hF : rsP M.1.cls index 2 2 .boolean false) (hv : narrow .boolean (.int v) = .int v) (hf' : fits .boolean (.int v) = true) (kk : rsV G M rm Q kc ks pc' L st (rwd G K V c P r v up wl cu hf) n) : rsV G M rm Q kc ks pc L (.int (v) :: .ref (rsB G + 4) :: st) (rwd G K V c P r md up wl cu hf) n := by
  refine rs_putf hd hp hF rw_d hv hf' (Nat.le_of_ble_eq_true rfl) (fs' := [.ref (rsB G + 5), .ref (rsB G + 45), .int v]) rfl ?_
  rw [rw_set_d]
  exact kk
theorem rx_ld_k {j i : Nat} (hj : j ≤ 13) (hi : i < 100) (hd : decode M.2.1 pc = .ok (.iaload, 1)) (hp : pc + 1 = pc') (kk : rsV G M rm Q kc ks pc' L (.int (K j i) :: st) (rwd G K V c P r md up wl cu hf) n) : rsV G M rm Q kc ks pc L (.int (nI i) :: .ref (rw_ko (rsB G) j) :: st) (rwd G K V c P r md up wl cu hf) n := rs_iald hd hp (rw_k hj) hi (by omega) kk
theorem rx_ld_v {j i : Nat} (hj : j ≤ 13) (hi : i < 100) (hd : decode M.2.1 pc = .ok (.iaload, 1)) (hp : pc + 1 = pc') (kk : rsV G M rm Q kc ks pc' L (.int (V j i) :: st) (rwd G K V c P r md up wl cu hf) n) : rsV G M rm Q kc ks pc L (.int (nI i) :: .ref (rw_vo (rsB G) j) :: st) (rwd G K V c P r md up wl cu hf) n := rs_iald hd hp (rw_v hj) hi (by omega) kk
theorem rx_ld_r {i : Nat} (hi : i < 3) (hd : decode M.2.1 pc = .ok (.iaload, 1)) (hp : pc + 1 = pc') (kk : rsV G M rm Q kc ks pc' L (.int (nI (r i)) :: st) (rwd G K V c P r md up wl cu hf) n) : rsV G M rm Q kc ks pc L (.int (nI i) :: .ref (rsB G + 45) :: st) (rwd G K V c P r md up wl cu hf) n := rs_iald hd hp rw_r hi (by omega) kk
theorem rx_ld_p {i : Nat} (hi : i < 13) (hd : decode M.2.1 pc = .ok (.aaload, 1)) (hp : pc + 1 = pc') (kk : rsV G M rm Q kc ks pc' L (.ref (rw_eo (rsB G) (P i)) :: st) (rwd G K V c P r md up wl cu hf) n) : rsV G M rm Q kc ks pc L (.int (nI i) :: .ref (rsB G + 5) :: st) (rwd G K V c P r md up wl cu hf) n := rs_aald hd hp rw_p hi (by omega) kk
theorem rx_st_k {j i : Nat} {x : Int32} (hj : j ≤ 13) (hi : i < 100) (hd : decode M.2.1 pc = .ok (.iastore, 1)) (hp : pc + 1 = pc') (kk : rsV G M rm Q kc ks pc' L st (rwd G (va_up K j (upd (K j) i x)) V c P r md up wl cu hf) n) : rsV G M rm Q kc ks pc L (.int x :: .int (nI i) :: .ref (rw_ko (rsB G) j) :: st) (rwd G K V c P r md up wl cu hf) n := by
  refine rs_iast hd hp (rw_k hj) hi (by omega) ?_
  rw [rw_set_k hj]
  exact kk
theorem rx_st_v {j i : Nat} {x : Int32} (hj : j ≤ 13) (hi : i < 100) (hd : decode M.2.1 pc = .ok (.iastore, 1)) (hp : pc + 1 = pc') (kk : rsV G M rm Q kc ks pc' L st (rwd G K (va_up V j (upd (V j) i x)) c P r md up wl cu hf) n) : rsV G M rm Q kc ks pc L (.int x :: .int (nI i) :: .ref (rw_vo (rsB G) j) :: st) (rwd G K V c P r md up wl cu hf) n := by
  refine rs_iast hd hp (rw_v hj) hi (by omega) ?_
  rw [rw_set_v hj]
  exact kk
theorem rx_st_r {i x : Nat} (hi : i < 3) (hd : decode M.2.1 pc = .ok (.iastore, 1)) (hp : pc + 1 = pc') (kk : rsV G M rm Q kc ks pc' L st (rwd G K V c P (va_up r i x) md up wl cu hf) n) : rsV G M rm Q kc ks pc L (.int (nI x) :: .int (nI i) :: .ref (rsB G + 45) :: st) (rwd G K V c P r md up wl cu hf) n := by
  refine rs_iast hd hp rw_r hi (by omega) ?_
  rw [rw_set_r]
  exact kk
theorem rx_st_p {i j : Nat} (hj : j ≤ 13) (hi : i < 13) (hd : decode M.2.1 pc = .ok (.aastore, 1)) (hp : pc + 1 = pc') (kk : rsV G M rm Q kc ks pc' L st (rwd G K V c (va_up P i j) r md up wl cu hf) n) : rsV G M rm Q kc ks pc L (.ref (rw_eo (rsB G) j) :: .int (nI i) :: .ref (rsB G + 5) :: st) (rwd G K V c P r md up wl cu hf) n := by
  refine rs_aast hd hp rw_p hi (by omega) (rw_e hj) rsCl_1 ?_
  rw [rw_set_p]
  exact kk
end RSFX
def rsOk (v : Option Value) (h : rsH) (n : Nat) : rsR → rsH → Nat → Prop := fun q h' n' => q = .inl v ∧ h' = h ∧ n' = n
def rsTh (k : Nat) (h : rsH) (n : Nat) : rsR → rsH → Nat → Prop := fun q h' n' => q = .inr k ∧ h' = h ∧ n' = n
section RSCX
variable {G : rsG} {M M' : rsM} {rm rm' : Room} {Q : rsR → rsH → Nat → Prop} {kc ks kc' ks' pc pc' : Nat} {L : List (Option Value)} {as rest : List Value} {h h' : rsH} {n n' : Nat} {v : Option Value} {k : Nat}
theorem rx_cS {index : Nat} {st : List Value} (hd : decode M.2.1 pc = .ok (.invokestatic index, 3)) (hp : pc + 3 = pc') (hC : rsCS M.1.cls index M') (hnp : (parseMethodDescriptor M'.1.desc).map (fun d => d.parameters.length) = some as.length)
    (hK : rsK G M' rm' as h n (rsOk v h' n')) (hR : rm'.frames + 1 ≤ rm.frames ∧ 8 + (M'.2.2.1 + 11) + rm'.locals ≤ rm.locals) (h0 : rm'.cells = 0 ∧ rm'.slots = 0) (hrest : (rest.map fun v => v.category).sum ≤ 8) (hst : st = as.reverse ++ rest)
    (kk : rsV G M rm Q kc ks pc' L (v.toList ++ rest) h' n') : rsV G M rm Q kc ks pc L st h n :=
  rs_cS (kc' := kc) (ks' := ks) hd hp hC hnp hK hR ⟨by omega, by omega⟩ hrest hst (fun _ _ _ q => by obtain ⟨q1, rfl, rfl⟩ := q; cases q1; exact kk) (fun _ _ _ q => by obtain ⟨q1, -, -⟩ := q; cases q1)
theorem rx_cV {index ci b : Nat} {fs st : List Value} (hd : decode M.2.1 pc = .ok (.invokevirtual index, 3)) (hp : pc + 3 = pc') (hC : rsCV M.1.cls index ci M') (hnp : (parseMethodDescriptor M'.1.desc).map (fun d => d.parameters.length) = some as.length) (hb : h b = some (.inr (ci, fs)))
    (hK : rsK G M' rm' (.ref b :: as) h n (rsOk v h' n')) (hR : rm'.frames + 1 ≤ rm.frames ∧ 8 + (M'.2.2.1 + 11) + rm'.locals ≤ rm.locals) (h0 : rm'.cells = 0 ∧ rm'.slots = 0) (hrest : (rest.map fun v => v.category).sum ≤ 8) (hst : st = as.reverse ++ .ref b :: rest)
    (kk : rsV G M rm Q kc ks pc' L (v.toList ++ rest) h' n') : rsV G M rm Q kc ks pc L st h n :=
  rs_cV (kc' := kc) (ks' := ks) hd hp hC hnp hb hK hR ⟨by omega, by omega⟩ hrest hst (fun _ _ _ q => by obtain ⟨q1, rfl, rfl⟩ := q; cases q1; exact kk) (fun _ _ _ q => by obtain ⟨q1, -, -⟩ := q; cases q1)
theorem rx_cI {index b : Nat} {st : List Value} (hd : decode M.2.1 pc = .ok (.invokespecial index, 3)) (hp : pc + 3 = pc') (hC : rsCI M.1.cls index M') (hnp : (parseMethodDescriptor M'.1.desc).map (fun d => d.parameters.length) = some as.length)
    (hK : rsK G M' rm' (.ref b :: as) h n (rsOk v h' n')) (hR : rm'.frames + 1 ≤ rm.frames ∧ 8 + (M'.2.2.1 + 11) + rm'.locals ≤ rm.locals) (hk : kc' + rm'.cells ≤ kc ∧ ks' + rm'.slots ≤ ks) (hrest : (rest.map fun v => v.category).sum ≤ 8) (hst : st = as.reverse ++ .ref b :: rest)
    (kk : rsV G M rm Q kc' ks' pc' L (v.toList ++ rest) h' n') : rsV G M rm Q kc ks pc L st h n :=
  rs_cI hd hp hC hnp hK hR hk hrest hst (fun _ _ _ q => by obtain ⟨q1, rfl, rfl⟩ := q; cases q1; exact kk) (fun _ _ _ q => by obtain ⟨q1, -, -⟩ := q; cases q1)
theorem rx_tS {index : Nat} {st : List Value} (hd : decode M.2.1 pc = .ok (.invokestatic index, 3)) (hC : rsCS M.1.cls index M') (hnp : (parseMethodDescriptor M'.1.desc).map (fun d => d.parameters.length) = some as.length)
    (hK : rsK G M' rm' as h n (rsTh k h' n')) (hR : rm'.frames + 1 ≤ rm.frames ∧ 8 + (M'.2.2.1 + 11) + rm'.locals ≤ rm.locals) (hk : rm'.cells ≤ kc ∧ rm'.slots ≤ ks) (hrest : (rest.map fun v => v.category).sum ≤ 8) (hst : st = as.reverse ++ rest) (hout : M.2.2.2.2 = [])
    (hq : Q (.inr k) h' n') : rsV G M rm Q kc ks pc L st h n :=
  rs_cS (kc' := 0) (ks' := 0) hd rfl hC hnp hK hR ⟨by omega, by omega⟩ hrest hst (fun _ _ _ q => by obtain ⟨q1, -, -⟩ := q; cases q1) (fun _ _ _ q => by obtain ⟨q1, rfl, rfl⟩ := q; cases q1; exact Or.inl ⟨by rw [hout]; rfl, hq⟩)
theorem rx_tV {index ci b : Nat} {fs st : List Value} (hd : decode M.2.1 pc = .ok (.invokevirtual index, 3)) (hC : rsCV M.1.cls index ci M') (hnp : (parseMethodDescriptor M'.1.desc).map (fun d => d.parameters.length) = some as.length) (hb : h b = some (.inr (ci, fs)))
    (hK : rsK G M' rm' (.ref b :: as) h n (rsTh k h' n')) (hR : rm'.frames + 1 ≤ rm.frames ∧ 8 + (M'.2.2.1 + 11) + rm'.locals ≤ rm.locals) (hk : rm'.cells ≤ kc ∧ rm'.slots ≤ ks) (hrest : (rest.map fun v => v.category).sum ≤ 8) (hst : st = as.reverse ++ .ref b :: rest) (hout : M.2.2.2.2 = [])
    (hq : Q (.inr k) h' n') : rsV G M rm Q kc ks pc L st h n :=
  rs_cV (kc' := 0) (ks' := 0) hd rfl hC hnp hb hK hR ⟨by omega, by omega⟩ hrest hst (fun _ _ _ q => by obtain ⟨q1, -, -⟩ := q; cases q1) (fun _ _ _ q => by obtain ⟨q1, rfl, rfl⟩ := q; cases q1; exact Or.inl ⟨by rw [hout]; rfl, hq⟩)
end RSCX
abbrev rmO (f l : Nat) : Room := { frames := f, cells := 0, slots := 0, locals := l }
abbrev rmT (f l : Nat) : Room := { frames := f, cells := 1, slots := 6, locals := l }
