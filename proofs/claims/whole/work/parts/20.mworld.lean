/-! 20: the reference's world, and the rows of its fields (written by gen_mworld.py) -/
def rm_fl (S : Nat → Nat → Int32) : Nat → Int32 := fun q => S (q / 100) (q % 100)
theorem rm_fl_at (S : Nat → Nat → Int32) {r k : Nat} (hk : k < 100) : rm_fl S (100 * r + k) = S r k := by
  unfold rm_fl
  rw [show (100 * r + k) / 100 = r by omega, show (100 * r + k) % 100 = k by omega]
theorem rm_fl_up (S : Nat → Nat → Int32) {r k : Nat} {x : Int32} (hk : k < 100) : upd (rm_fl S) (100 * r + k) x = rm_fl (va_up S r (upd (S r) k x)) := by
  funext q
  unfold upd rm_fl va_up
  by_cases h : q = 100 * r + k
  · have e1 : q / 100 = r := by omega
    have e2 : q % 100 = k := by omega
    rw [if_pos h, e1, e2, if_pos rfl, if_pos rfl]
  · rw [if_neg h]
    by_cases h1 : q / 100 = r
    · rw [if_pos h1, if_neg (by omega), h1]
    · rw [if_neg h1]
theorem rm_fl_eq {S S' : Nat → Nat → Int32} (h : ∀ r k, k < 100 → S r k = S' r k) : rm_fl S = rm_fl S' := by
  funext q
  exact h _ _ (Nat.mod_lt _ (by decide))
abbrev rm_ob (G : rsG) (th mm iu bd : Int32) (mn : Nat) (av : Int32) : List Value := [.int th, .int mm, .int iu, .int bd, .int (nI mn), .ref (rsB G + 47), .ref (rsB G + 48), .ref (rsB G + 49), .int av]
/-- the reference's world, over another world: runs by rows (kinds S, values T), their levels, its numbers -/
def rmd (G : rsG) (S T : Nat → Nat → Int32) (lv : Nat → Nat) (th mm iu bd : Int32) (mn : Nat) (av : Int32) (hf : rsH) : rsH := fun a =>
  if a = rsB G + 46 then some (.inr (3, rm_ob G th mm iu bd mn av)) else if a = rsB G + 47 then some (.inl (G.2.2.2.1, 12, .inl (fun i => nI (lv i)))) else if a = rsB G + 48 then some (.inl (G.2.2.2.1, 1400, .inl (rm_fl S)))
  else if a = rsB G + 49 then some (.inl (G.2.2.2.1, 1400, .inl (rm_fl T))) else hf a
section RMW
variable {G : rsG} {S T S' T' : Nat → Nat → Int32} {lv lv' : Nat → Nat} {th mm iu bd th' mm' iu' bd' : Int32} {mn mn' : Nat} {av av' : Int32} {hf : rsH}
theorem rm_o : rmd G S T lv th mm iu bd mn av hf (rsB G + 46) = some (.inr (3, rm_ob G th mm iu bd mn av)) := by unfold rmd; rw [if_pos rfl]
theorem rm_l : rmd G S T lv th mm iu bd mn av hf (rsB G + 47) = some (.inl (G.2.2.2.1, 12, .inl (fun i => nI (lv i)))) := by unfold rmd; rw [if_neg (by omega), if_pos rfl]
theorem rm_s : rmd G S T lv th mm iu bd mn av hf (rsB G + 48) = some (.inl (G.2.2.2.1, 1400, .inl (rm_fl S))) := by unfold rmd; rw [if_neg (by omega), if_neg (by omega), if_pos rfl]
theorem rm_v : rmd G S T lv th mm iu bd mn av hf (rsB G + 49) = some (.inl (G.2.2.2.1, 1400, .inl (rm_fl T))) := by unfold rmd; rw [if_neg (by omega), if_neg (by omega), if_neg (by omega), if_pos rfl]
theorem rm_set_o : rs_up (rmd G S T lv th mm iu bd mn av hf) (rsB G + 46) (.inr (3, rm_ob G th' mm' iu' bd' mn' av')) = rmd G S T lv th' mm' iu' bd' mn' av' hf := by
  funext q
  unfold rs_up rmd
  by_cases h : q = rsB G + 46
  · rw [if_pos h, if_pos h]
  · rw [if_neg h, if_neg h, if_neg h]
theorem rm_set_l {i x : Nat} : rs_up (rmd G S T lv th mm iu bd mn av hf) (rsB G + 47) (.inl (G.2.2.2.1, 12, .inl (upd (fun i => nI (lv i)) i (nI x)))) = rmd G S T (va_up lv i x) th mm iu bd mn av hf := by
  have e0 : (upd (fun i => nI (lv i)) i (nI x)) = fun q => nI (va_up lv i x q) := by
    funext q
    unfold upd va_up
    by_cases h : q = i
    · rw [if_pos h, if_pos h]
    · rw [if_neg h, if_neg h]
  rw [e0]
  funext q
  unfold rs_up rmd
  by_cases h : q = rsB G + 47
  · rw [if_pos h, if_neg (by omega), if_pos h]
  · rw [if_neg h, if_neg h, if_neg h]
theorem rm_set_s {r k : Nat} {x : Int32} (hk : k < 100) : rs_up (rmd G S T lv th mm iu bd mn av hf) (rsB G + 48) (.inl (G.2.2.2.1, 1400, .inl (upd (rm_fl S) (100 * r + k) x))) = rmd G (va_up S r (upd (S r) k x)) T lv th mm iu bd mn av hf := by
  rw [rm_fl_up S hk]
  funext q
  unfold rs_up rmd
  by_cases h : q = rsB G + 48
  · rw [if_pos h, if_neg (by omega), if_neg (by omega), if_pos h]
  · rw [if_neg h, if_neg h, if_neg h]
theorem rm_set_v {r k : Nat} {x : Int32} (hk : k < 100) : rs_up (rmd G S T lv th mm iu bd mn av hf) (rsB G + 49) (.inl (G.2.2.2.1, 1400, .inl (upd (rm_fl T) (100 * r + k) x))) = rmd G S (va_up T r (upd (T r) k x)) lv th mm iu bd mn av hf := by
  rw [rm_fl_up T hk]
  funext q
  unfold rs_up rmd
  by_cases h : q = rsB G + 49
  · rw [if_pos h, if_neg (by omega), if_neg (by omega), if_neg (by omega), if_pos h]
  · rw [if_neg h, if_neg h, if_neg h]
theorem rmd_eq (hS : ∀ r k, k < 100 → S r k = S' r k) (hT : ∀ r k, k < 100 → T r k = T' r k) : rmd G S T lv th mm iu bd mn av hf = rmd G S' T' lv th mm iu bd mn av hf := by
  unfold rmd
  rw [rm_fl_eq hS, rm_fl_eq hT]
end RMW
section RMF
variable {G : rsG} {M : rsM} {rm : Room} {Q : rsR → rsH → Nat → Prop} {kc ks pc pc' : Nat} {L : List (Option Value)} {st : List Value} {n : Nat} {S T : Nat → Nat → Int32} {lv : Nat → Nat} {th mm iu bd : Int32} {mn : Nat} {av : Int32} {hf : rsH}
theorem rx_get_th {index : Nat} (hd : decode M.2.1 pc = .ok (.getfield index, 3)) (hp : pc + 3 = pc') (hF : rsF M.1.cls index 3 0) (kk : rsV G M rm Q kc ks pc' L (.int th :: st) (rmd G S T lv th mm iu bd mn av hf) n) : rsV G M rm Q kc ks pc L (.ref (rsB G + 46) :: st) (rmd G S T lv th mm iu bd mn av hf) n :=
  rs_getf hd hp hF rm_o rfl kk
theorem rx_get_mm {index : Nat} (hd : decode M.2.1 pc = .ok (.getfield index, 3)) (hp : pc + 3 = pc') (hF : rsF M.1.cls index 3 1) (kk : rsV G M rm Q kc ks pc' L (.int mm :: st) (rmd G S T lv th mm iu bd mn av hf) n) : rsV G M rm Q kc ks pc L (.ref (rsB G + 46) :: st) (rmd G S T lv th mm iu bd mn av hf) n :=
  rs_getf hd hp hF rm_o rfl kk
theorem rx_get_iu {index : Nat} (hd : decode M.2.1 pc = .ok (.getfield index, 3)) (hp : pc + 3 = pc') (hF : rsF M.1.cls index 3 2) (kk : rsV G M rm Q kc ks pc' L (.int iu :: st) (rmd G S T lv th mm iu bd mn av hf) n) : rsV G M rm Q kc ks pc L (.ref (rsB G + 46) :: st) (rmd G S T lv th mm iu bd mn av hf) n :=
  rs_getf hd hp hF rm_o rfl kk
theorem rx_get_bd {index : Nat} (hd : decode M.2.1 pc = .ok (.getfield index, 3)) (hp : pc + 3 = pc') (hF : rsF M.1.cls index 3 3) (kk : rsV G M rm Q kc ks pc' L (.int bd :: st) (rmd G S T lv th mm iu bd mn av hf) n) : rsV G M rm Q kc ks pc L (.ref (rsB G + 46) :: st) (rmd G S T lv th mm iu bd mn av hf) n :=
  rs_getf hd hp hF rm_o rfl kk
theorem rx_get_mn {index : Nat} (hd : decode M.2.1 pc = .ok (.getfield index, 3)) (hp : pc + 3 = pc') (hF : rsF M.1.cls index 3 4) (kk : rsV G M rm Q kc ks pc' L (.int (nI mn) :: st) (rmd G S T lv th mm iu bd mn av hf) n) : rsV G M rm Q kc ks pc L (.ref (rsB G + 46) :: st) (rmd G S T lv th mm iu bd mn av hf) n :=
  rs_getf hd hp hF rm_o rfl kk
theorem rx_get_lv {index : Nat} (hd : decode M.2.1 pc = .ok (.getfield index, 3)) (hp : pc + 3 = pc') (hF : rsF M.1.cls index 3 5) (kk : rsV G M rm Q kc ks pc' L (.ref (rsB G + 47) :: st) (rmd G S T lv th mm iu bd mn av hf) n) : rsV G M rm Q kc ks pc L (.ref (rsB G + 46) :: st) (rmd G S T lv th mm iu bd mn av hf) n :=
  rs_getf hd hp hF rm_o rfl kk
theorem rx_get_so {index : Nat} (hd : decode M.2.1 pc = .ok (.getfield index, 3)) (hp : pc + 3 = pc') (hF : rsF M.1.cls index 3 6) (kk : rsV G M rm Q kc ks pc' L (.ref (rsB G + 48) :: st) (rmd G S T lv th mm iu bd mn av hf) n) : rsV G M rm Q kc ks pc L (.ref (rsB G + 46) :: st) (rmd G S T lv th mm iu bd mn av hf) n :=
  rs_getf hd hp hF rm_o rfl kk
theorem rx_get_vs {index : Nat} (hd : decode M.2.1 pc = .ok (.getfield index, 3)) (hp : pc + 3 = pc') (hF : rsF M.1.cls index 3 7) (kk : rsV G M rm Q kc ks pc' L (.ref (rsB G + 49) :: st) (rmd G S T lv th mm iu bd mn av hf) n) : rsV G M rm Q kc ks pc L (.ref (rsB G + 46) :: st) (rmd G S T lv th mm iu bd mn av hf) n :=
  rs_getf hd hp hF rm_o rfl kk
theorem rx_get_at {index : Nat} (hd : decode M.2.1 pc = .ok (.getfield index, 3)) (hp : pc + 3 = pc') (hF : rsF M.1.cls index 3 8) (kk : rsV G M rm Q kc ks pc' L (.int av :: st) (rmd G S T lv th mm iu bd mn av hf) n) : rsV G M rm Q kc ks pc L (.ref (rsB G + 46) :: st) (rmd G S T lv th mm iu bd mn av hf) n :=
  rs_getf hd hp hF rm_o rfl kk
theorem rx_put_th {index : Nat} {v : Int32} (hd : decode M.2.1 pc = .ok (.putfield index, 3)) (hp : pc + 3 = pc') (hF : rsP M.1.cls index 3 0 .int false)  (kk : rsV G M rm Q kc ks pc' L st (rmd G S T lv v mm iu bd mn av hf) n) : rsV G M rm Q kc ks pc L (.int (v) :: .ref (rsB G + 46) :: st) (rmd G S T lv th mm iu bd mn av hf) n := by
  refine rs_putf hd hp hF rm_o rfl rfl (Nat.le_of_ble_eq_true rfl) (fs' := rm_ob G v mm iu bd mn av) rfl ?_
  rw [rm_set_o]
  exact kk
theorem rx_put_mm {index : Nat} {v : Int32} (hd : decode M.2.1 pc = .ok (.putfield index, 3)) (hp : pc + 3 = pc') (hF : rsP M.1.cls index 3 1 .boolean false) (hv : narrow .boolean (.int v) = .int v) (hf' : fits .boolean (.int v) = true) (kk : rsV G M rm Q kc ks pc' L st (rmd G S T lv th v iu bd mn av hf) n) : rsV G M rm Q kc ks pc L (.int (v) :: .ref (rsB G + 46) :: st) (rmd G S T lv th mm iu bd mn av hf) n := by
  refine rs_putf hd hp hF rm_o hv hf' (Nat.le_of_ble_eq_true rfl) (fs' := rm_ob G th v iu bd mn av) rfl ?_
  rw [rm_set_o]
  exact kk
theorem rx_put_iu {index : Nat} {v : Int32} (hd : decode M.2.1 pc = .ok (.putfield index, 3)) (hp : pc + 3 = pc') (hF : rsP M.1.cls index 3 2 .boolean false) (hv : narrow .boolean (.int v) = .int v) (hf' : fits .boolean (.int v) = true) (kk : rsV G M rm Q kc ks pc' L st (rmd G S T lv th mm v bd mn av hf) n) : rsV G M rm Q kc ks pc L (.int (v) :: .ref (rsB G + 46) :: st) (rmd G S T lv th mm iu bd mn av hf) n := by
  refine rs_putf hd hp hF rm_o hv hf' (Nat.le_of_ble_eq_true rfl) (fs' := rm_ob G th mm v bd mn av) rfl ?_
  rw [rm_set_o]
  exact kk
theorem rx_put_bd {index : Nat} {v : Int32} (hd : decode M.2.1 pc = .ok (.putfield index, 3)) (hp : pc + 3 = pc') (hF : rsP M.1.cls index 3 3 .int false)  (kk : rsV G M rm Q kc ks pc' L st (rmd G S T lv th mm iu v mn av hf) n) : rsV G M rm Q kc ks pc L (.int (v) :: .ref (rsB G + 46) :: st) (rmd G S T lv th mm iu bd mn av hf) n := by
  refine rs_putf hd hp hF rm_o rfl rfl (Nat.le_of_ble_eq_true rfl) (fs' := rm_ob G th mm iu v mn av) rfl ?_
  rw [rm_set_o]
  exact kk
theorem rx_put_mn {index : Nat} {v : Nat} (hd : decode M.2.1 pc = .ok (.putfield index, 3)) (hp : pc + 3 = pc') (hF : rsP M.1.cls index 3 4 .int false)  (kk : rsV G M rm Q kc ks pc' L st (rmd G S T lv th mm iu bd v av hf) n) : rsV G M rm Q kc ks pc L (.int (nI v) :: .ref (rsB G + 46) :: st) (rmd G S T lv th mm iu bd mn av hf) n := by
  refine rs_putf hd hp hF rm_o rfl rfl (Nat.le_of_ble_eq_true rfl) (fs' := rm_ob G th mm iu bd v av) rfl ?_
  rw [rm_set_o]
  exact kk
theorem rx_put_at {index : Nat} {v : Int32} (hd : decode M.2.1 pc = .ok (.putfield index, 3)) (hp : pc + 3 = pc') (hF : rsP M.1.cls index 3 8 .int false)  (kk : rsV G M rm Q kc ks pc' L st (rmd G S T lv th mm iu bd mn v hf) n) : rsV G M rm Q kc ks pc L (.int (v) :: .ref (rsB G + 46) :: st) (rmd G S T lv th mm iu bd mn av hf) n := by
  refine rs_putf hd hp hF rm_o rfl rfl (Nat.le_of_ble_eq_true rfl) (fs' := rm_ob G th mm iu bd mn v) rfl ?_
  rw [rm_set_o]
  exact kk
theorem ry_ld_l {i : Nat} (hi : i < 12) (hd : decode M.2.1 pc = .ok (.iaload, 1)) (hp : pc + 1 = pc') (kk : rsV G M rm Q kc ks pc' L (.int (nI (lv i)) :: st) (rmd G S T lv th mm iu bd mn av hf) n) : rsV G M rm Q kc ks pc L (.int (nI i) :: .ref (rsB G + 47) :: st) (rmd G S T lv th mm iu bd mn av hf) n := rs_iald hd hp rm_l hi (by omega) kk
theorem ry_ld_s {r k : Nat} (hr : r < 14) (hk : k < 100) (hd : decode M.2.1 pc = .ok (.iaload, 1)) (hp : pc + 1 = pc') (kk : rsV G M rm Q kc ks pc' L (.int (S r k) :: st) (rmd G S T lv th mm iu bd mn av hf) n) : rsV G M rm Q kc ks pc L (.int (nI (100 * r + k)) :: .ref (rsB G + 48) :: st) (rmd G S T lv th mm iu bd mn av hf) n := rs_iald hd hp rm_s (by omega) (by omega) (by rw [rm_fl_at S hk]; exact kk)
theorem ry_ld_v {r k : Nat} (hr : r < 14) (hk : k < 100) (hd : decode M.2.1 pc = .ok (.iaload, 1)) (hp : pc + 1 = pc') (kk : rsV G M rm Q kc ks pc' L (.int (T r k) :: st) (rmd G S T lv th mm iu bd mn av hf) n) : rsV G M rm Q kc ks pc L (.int (nI (100 * r + k)) :: .ref (rsB G + 49) :: st) (rmd G S T lv th mm iu bd mn av hf) n := rs_iald hd hp rm_v (by omega) (by omega) (by rw [rm_fl_at T hk]; exact kk)
theorem ry_st_l {i x : Nat} (hi : i < 12) (hd : decode M.2.1 pc = .ok (.iastore, 1)) (hp : pc + 1 = pc') (kk : rsV G M rm Q kc ks pc' L st (rmd G S T (va_up lv i x) th mm iu bd mn av hf) n) : rsV G M rm Q kc ks pc L (.int (nI x) :: .int (nI i) :: .ref (rsB G + 47) :: st) (rmd G S T lv th mm iu bd mn av hf) n := by
  refine rs_iast hd hp rm_l hi (by omega) ?_
  rw [rm_set_l]
  exact kk
theorem ry_st_s {r k : Nat} {x : Int32} (hr : r < 14) (hk : k < 100) (hd : decode M.2.1 pc = .ok (.iastore, 1)) (hp : pc + 1 = pc') (kk : rsV G M rm Q kc ks pc' L st (rmd G (va_up S r (upd (S r) k x)) T lv th mm iu bd mn av hf) n) : rsV G M rm Q kc ks pc L (.int x :: .int (nI (100 * r + k)) :: .ref (rsB G + 48) :: st) (rmd G S T lv th mm iu bd mn av hf) n := by
  refine rs_iast hd hp rm_s (by omega) (by omega) ?_
  rw [rm_set_s hk]
  exact kk
theorem ry_st_v {r k : Nat} {x : Int32} (hr : r < 14) (hk : k < 100) (hd : decode M.2.1 pc = .ok (.iastore, 1)) (hp : pc + 1 = pc') (kk : rsV G M rm Q kc ks pc' L st (rmd G S (va_up T r (upd (T r) k x)) lv th mm iu bd mn av hf) n) : rsV G M rm Q kc ks pc L (.int x :: .int (nI (100 * r + k)) :: .ref (rsB G + 49) :: st) (rmd G S T lv th mm iu bd mn av hf) n := by
  refine rs_iast hd hp rm_v (by omega) (by omega) ?_
  rw [rm_set_v hk]
  exact kk
/-- the place of a row's key -/
theorem rs_pix {x : Int32} {r k : Nat} (e : x = nI (100 * r + k)) (kk : rsV G M rm Q kc ks pc L (.int (nI (100 * r + k)) :: st) (rmd G S T lv th mm iu bd mn av hf) n) : rsV G M rm Q kc ks pc L (.int x :: st) (rmd G S T lv th mm iu bd mn av hf) n := e ▸ kk
end RMF
theorem rm_ix (r k : Nat) : nI 100 * nI r + nI k = nI (100 * r + k) := by rw [pk_mul, nI_add]
theorem rm_ix12 (k : Nat) : nI 1200 + nI k = nI (100 * 12 + k) := nI_add _ _
theorem rm_ix13 (k : Nat) : nI 1300 + nI k = nI (100 * 13 + k) := nI_add _ _
