/-! 05: the rows of rsV that touch neither heap nor calls (written by gen_rows.py) -/
section RSR
variable {G : rsG} {M : rsM} {rm : Room} {Q : rsR → rsH → Nat → Prop} {kc ks pc pc' : Nat} {L : List (Option Value)} {st : List Value} {h : rsH} {n : Nat}
theorem rs_iconst {i : Int} {v : Int32} (hd : decode M.2.1 pc = .ok (.iconst i, 1)) (hp : pc + 1 = pc') (hv : Int32.ofInt i = v) (k : rsV G M rm Q kc ks pc' L (.int v :: st) h n) : rsV G M rm Q kc ks pc L st h n := by
  subst hp
  intro hU p e s m args below meth c H locs cells slots ls C S hc hs hl
  exact lv_iconst C.1 C.2.1 hd hv (k hU p e s m args below meth c H locs cells slots ls C S hc hs hl)
theorem rs_bipush {i : Int} {v : Int32} (hd : decode M.2.1 pc = .ok (.bipush i, 2)) (hp : pc + 2 = pc') (hv : (Int8.ofInt i).toInt32 = v) (k : rsV G M rm Q kc ks pc' L (.int v :: st) h n) : rsV G M rm Q kc ks pc L st h n := by
  subst hp
  intro hU p e s m args below meth c H locs cells slots ls C S hc hs hl
  exact lv_bipush C.1 C.2.1 hd hv (k hU p e s m args below meth c H locs cells slots ls C S hc hs hl)
theorem rs_sipush {i : Int} {v : Int32} (hd : decode M.2.1 pc = .ok (.sipush i, 3)) (hp : pc + 3 = pc') (hv : (Int16.ofInt i).toInt32 = v) (k : rsV G M rm Q kc ks pc' L (.int v :: st) h n) : rsV G M rm Q kc ks pc L st h n := by
  subst hp
  intro hU p e s m args below meth c H locs cells slots ls C S hc hs hl
  exact lv_sipush C.1 C.2.1 hd hv (k hU p e s m args below meth c H locs cells slots ls C S hc hs hl)
theorem rs_lconst {i : Fin 2} {v : Int64} (hd : decode M.2.1 pc = .ok (.lconst i, 1)) (hp : pc + 1 = pc') (hv : Int64.ofNat (i : Nat) = v) (k : rsV G M rm Q kc ks pc' L (.long v :: st) h n) : rsV G M rm Q kc ks pc L st h n := by
  subst hp
  intro hU p e s m args below meth c H locs cells slots ls C S hc hs hl
  exact lv_lconst C.1 C.2.1 hd hv (k hU p e s m args below meth c H locs cells slots ls C S hc hs hl)
theorem rs_null  (hd : decode M.2.1 pc = .ok (.aconst_null, 1)) (hp : pc + 1 = pc')  (k : rsV G M rm Q kc ks pc' L (.null :: st) h n) : rsV G M rm Q kc ks pc L st h n := by
  subst hp
  intro hU p e s m args below meth c H locs cells slots ls C S hc hs hl
  exact lv_null C.1 C.2.1 hd (k hU p e s m args below meth c H locs cells slots ls C S hc hs hl)
theorem rs_iload_n {i : Fin 4} {v : Int32} (hd : decode M.2.1 pc = .ok (.iload_n i, 1)) (hp : pc + 1 = pc') (hv : L[(i : Nat)]? = some (some (.int v))) (k : rsV G M rm Q kc ks pc' L (.int v :: st) h n) : rsV G M rm Q kc ks pc L st h n := by
  subst hp
  intro hU p e s m args below meth c H locs cells slots ls C S hc hs hl
  exact lv_iload_n C.1 C.2.1 hd rfl (hl.2.2 _ _ hv).1 (k hU p e s m args below meth c H locs cells slots ls C S hc hs hl)
theorem rs_iload {i : Nat} {v : Int32} (hd : decode M.2.1 pc = .ok (.iload i, 2)) (hp : pc + 2 = pc') (hv : L[i]? = some (some (.int v))) (k : rsV G M rm Q kc ks pc' L (.int v :: st) h n) : rsV G M rm Q kc ks pc L st h n := by
  subst hp
  intro hU p e s m args below meth c H locs cells slots ls C S hc hs hl
  exact lv_iload C.1 C.2.1 hd (hl.2.2 _ _ hv).1 (k hU p e s m args below meth c H locs cells slots ls C S hc hs hl)
theorem rs_aload_n {i : Fin 4} {v : Nat} (hd : decode M.2.1 pc = .ok (.aload_n i, 1)) (hp : pc + 1 = pc') (hv : L[(i : Nat)]? = some (some (.ref v))) (k : rsV G M rm Q kc ks pc' L (.ref v :: st) h n) : rsV G M rm Q kc ks pc L st h n := by
  subst hp
  intro hU p e s m args below meth c H locs cells slots ls C S hc hs hl
  exact lv_aload_n C.1 C.2.1 hd rfl (hl.2.2 _ _ hv).1 (k hU p e s m args below meth c H locs cells slots ls C S hc hs hl)
theorem rs_aload {i : Nat} {v : Nat} (hd : decode M.2.1 pc = .ok (.aload i, 2)) (hp : pc + 2 = pc') (hv : L[i]? = some (some (.ref v))) (k : rsV G M rm Q kc ks pc' L (.ref v :: st) h n) : rsV G M rm Q kc ks pc L st h n := by
  subst hp
  intro hU p e s m args below meth c H locs cells slots ls C S hc hs hl
  exact lv_aload C.1 C.2.1 hd (hl.2.2 _ _ hv).1 (k hU p e s m args below meth c H locs cells slots ls C S hc hs hl)
theorem rs_aload_nN {i : Fin 4} (hd : decode M.2.1 pc = .ok (.aload_n i, 1)) (hp : pc + 1 = pc') (hv : L[(i : Nat)]? = some (some .null)) (k : rsV G M rm Q kc ks pc' L (.null :: st) h n) : rsV G M rm Q kc ks pc L st h n := by
  subst hp
  intro hU p e s m args below meth c H locs cells slots ls C S hc hs hl
  exact lv_aload_nN C.1 C.2.1 hd rfl (hl.2.2 _ _ hv).1 (k hU p e s m args below meth c H locs cells slots ls C S hc hs hl)
theorem rs_aloadN {i : Nat} (hd : decode M.2.1 pc = .ok (.aload i, 2)) (hp : pc + 2 = pc') (hv : L[i]? = some (some .null)) (k : rsV G M rm Q kc ks pc' L (.null :: st) h n) : rsV G M rm Q kc ks pc L st h n := by
  subst hp
  intro hU p e s m args below meth c H locs cells slots ls C S hc hs hl
  exact lv_aloadN C.1 C.2.1 hd (hl.2.2 _ _ hv).1 (k hU p e s m args below meth c H locs cells slots ls C S hc hs hl)
theorem rs_iadd {x y : Int32} (hd : decode M.2.1 pc = .ok (.iadd, 1)) (hp : pc + 1 = pc')  (k : rsV G M rm Q kc ks pc' L (.int (x + y) :: st) h n) : rsV G M rm Q kc ks pc L (.int y :: .int x :: st) h n := by
  subst hp
  intro hU p e s m args below meth c H locs cells slots ls C S hc hs hl
  exact lv_iadd C.1 C.2.1 hd (k hU p e s m args below meth c H locs cells slots ls C S hc hs hl)
theorem rs_isub {x y : Int32} (hd : decode M.2.1 pc = .ok (.isub, 1)) (hp : pc + 1 = pc')  (k : rsV G M rm Q kc ks pc' L (.int (x - y) :: st) h n) : rsV G M rm Q kc ks pc L (.int y :: .int x :: st) h n := by
  subst hp
  intro hU p e s m args below meth c H locs cells slots ls C S hc hs hl
  exact lv_isub C.1 C.2.1 hd (k hU p e s m args below meth c H locs cells slots ls C S hc hs hl)
theorem rs_imul {x y : Int32} (hd : decode M.2.1 pc = .ok (.imul, 1)) (hp : pc + 1 = pc')  (k : rsV G M rm Q kc ks pc' L (.int (x * y) :: st) h n) : rsV G M rm Q kc ks pc L (.int y :: .int x :: st) h n := by
  subst hp
  intro hU p e s m args below meth c H locs cells slots ls C S hc hs hl
  exact lv_imul C.1 C.2.1 hd (k hU p e s m args below meth c H locs cells slots ls C S hc hs hl)
theorem rs_iand {x y : Int32} (hd : decode M.2.1 pc = .ok (.iand, 1)) (hp : pc + 1 = pc')  (k : rsV G M rm Q kc ks pc' L (.int (x &&& y) :: st) h n) : rsV G M rm Q kc ks pc L (.int y :: .int x :: st) h n := by
  subst hp
  intro hU p e s m args below meth c H locs cells slots ls C S hc hs hl
  exact lv_iand C.1 C.2.1 hd (k hU p e s m args below meth c H locs cells slots ls C S hc hs hl)
theorem rs_ior {x y : Int32} (hd : decode M.2.1 pc = .ok (.ior, 1)) (hp : pc + 1 = pc')  (k : rsV G M rm Q kc ks pc' L (.int (x ||| y) :: st) h n) : rsV G M rm Q kc ks pc L (.int y :: .int x :: st) h n := by
  subst hp
  intro hU p e s m args below meth c H locs cells slots ls C S hc hs hl
  exact lv_ior C.1 C.2.1 hd (k hU p e s m args below meth c H locs cells slots ls C S hc hs hl)
theorem rs_ixor {x y : Int32} (hd : decode M.2.1 pc = .ok (.ixor, 1)) (hp : pc + 1 = pc')  (k : rsV G M rm Q kc ks pc' L (.int (x ^^^ y) :: st) h n) : rsV G M rm Q kc ks pc L (.int y :: .int x :: st) h n := by
  subst hp
  intro hU p e s m args below meth c H locs cells slots ls C S hc hs hl
  exact lv_ixor C.1 C.2.1 hd (k hU p e s m args below meth c H locs cells slots ls C S hc hs hl)
theorem rs_idiv {x y : Int32} (hd : decode M.2.1 pc = .ok (.idiv, 1)) (hp : pc + 1 = pc') (hne : ¬ y = 0) (k : rsV G M rm Q kc ks pc' L (.int (x / y) :: st) h n) : rsV G M rm Q kc ks pc L (.int y :: .int x :: st) h n := by
  subst hp
  intro hU p e s m args below meth c H locs cells slots ls C S hc hs hl
  exact lv_idiv C.1 C.2.1 hd hne (k hU p e s m args below meth c H locs cells slots ls C S hc hs hl)
theorem rs_irem {x y : Int32} (hd : decode M.2.1 pc = .ok (.irem, 1)) (hp : pc + 1 = pc') (hne : ¬ y = 0) (k : rsV G M rm Q kc ks pc' L (.int (x - x / y * y) :: st) h n) : rsV G M rm Q kc ks pc L (.int y :: .int x :: st) h n := by
  subst hp
  intro hU p e s m args below meth c H locs cells slots ls C S hc hs hl
  exact lv_irem C.1 C.2.1 hd hne (k hU p e s m args below meth c H locs cells slots ls C S hc hs hl)
theorem rs_i2l {x : Int32} (hd : decode M.2.1 pc = .ok (.i2l, 1)) (hp : pc + 1 = pc')  (k : rsV G M rm Q kc ks pc' L (.long x.toInt64 :: st) h n) : rsV G M rm Q kc ks pc L (.int x :: st) h n := by
  subst hp
  intro hU p e s m args below meth c H locs cells slots ls C S hc hs hl
  exact lv_i2l C.1 C.2.1 hd rfl (k hU p e s m args below meth c H locs cells slots ls C S hc hs hl)
theorem rs_lcmp {x y : Int64} (hd : decode M.2.1 pc = .ok (.lcmp, 1)) (hp : pc + 1 = pc')  (k : rsV G M rm Q kc ks pc' L (.int (lg_cmp x y) :: st) h n) : rsV G M rm Q kc ks pc L (.long y :: .long x :: st) h n := by
  subst hp
  intro hU p e s m args below meth c H locs cells slots ls C S hc hs hl
  exact W.lcmp C.1 C.2.1 hd (k hU p e s m args below meth c H locs cells slots ls C S hc hs hl)
theorem rs_dup {v : Value} (hd : decode M.2.1 pc = .ok (.dup, 1)) (hp : pc + 1 = pc') (hv : v.category = 1) (k : rsV G M rm Q kc ks pc' L (v :: v :: st) h n) : rsV G M rm Q kc ks pc L (v :: st) h n := by
  subst hp
  intro hU p e s m args below meth c H locs cells slots ls C S hc hs hl
  exact lv_dup C.1 C.2.1 hd hv (k hU p e s m args below meth c H locs cells slots ls C S hc hs hl)
theorem rs_pop {v : Value} (hd : decode M.2.1 pc = .ok (.pop, 1)) (hp : pc + 1 = pc') (hv : v.category = 1) (k : rsV G M rm Q kc ks pc' L st h n) : rsV G M rm Q kc ks pc L (v :: st) h n := by
  subst hp
  intro hU p e s m args below meth c H locs cells slots ls C S hc hs hl
  exact lv_pop C.1 C.2.1 hd hv (k hU p e s m args below meth c H locs cells slots ls C S hc hs hl)
theorem rs_dup2 {v w : Value} (hd : decode M.2.1 pc = .ok (.dup2, 1)) (hp : pc + 1 = pc') (hv : v.category = 1) (hw : w.category = 1) (k : rsV G M rm Q kc ks pc' L (v :: w :: v :: w :: st) h n) : rsV G M rm Q kc ks pc L (v :: w :: st) h n := by
  subst hp
  intro hU p e s m args below meth c H locs cells slots ls C S hc hs hl
  exact lv_dup2_11 C.1 C.2.1 hd hv hw (k hU p e s m args below meth c H locs cells slots ls C S hc hs hl)
theorem rs_topi {x : Int32} (k : ∀ y : Int32, y = x → rsV G M rm Q kc ks pc L (.int y :: st) h n) : rsV G M rm Q kc ks pc L (.int x :: st) h n := k x rfl
theorem rs_tope {x y : Int32} (e : x = y) (k : rsV G M rm Q kc ks pc L (.int y :: st) h n) : rsV G M rm Q kc ks pc L (.int x :: st) h n := e ▸ k
theorem rs_istore_n {i : Fin 4} {v : Int32} {L' : List (Option Value)} (hd : decode M.2.1 pc = .ok (.istore_n i, 1)) (hp : pc + 1 = pc') (hi : (i : Nat) < M.2.2.1) (hL : L.set (i : Nat) (some (.int v)) = L') (k : rsV G M rm Q kc ks pc' L' st h n) : rsV G M rm Q kc ks pc L (.int v :: st) h n := by
  subst hp
  subst hL
  intro hU p e s m args below meth c H locs cells slots ls C S hc hs hl
  obtain ⟨ls', e', hl'⟩ := rsl_store (v := .int v) hl hi rfl
  intro T hT X
  obtain ⟨t, a, b⟩ := k hU p e s m args below meth c H locs cells slots ls' C S hc hs hl' T hT X
  refine ⟨t, ?_, b⟩
  have hexec := C.1
  have hb := C.2.1
  jvm_step X.here [X.here.top, ↓top_set X.here.top, hexec, hb, hd, e']
  first | exact a | exact ⟨rfl, a⟩
theorem rs_istore {i : Nat} {v : Int32} {L' : List (Option Value)} (hd : decode M.2.1 pc = .ok (.istore i, 2)) (hp : pc + 2 = pc') (hi : (i : Nat) < M.2.2.1) (hL : L.set (i : Nat) (some (.int v)) = L') (k : rsV G M rm Q kc ks pc' L' st h n) : rsV G M rm Q kc ks pc L (.int v :: st) h n := by
  subst hp
  subst hL
  intro hU p e s m args below meth c H locs cells slots ls C S hc hs hl
  obtain ⟨ls', e', hl'⟩ := rsl_store (v := .int v) hl hi rfl
  intro T hT X
  obtain ⟨t, a, b⟩ := k hU p e s m args below meth c H locs cells slots ls' C S hc hs hl' T hT X
  refine ⟨t, ?_, b⟩
  have hexec := C.1
  have hb := C.2.1
  jvm_step X.here [X.here.top, ↓top_set X.here.top, hexec, hb, hd, e']
  first | exact a | exact ⟨rfl, a⟩
theorem rs_astore_n {i : Fin 4} {v : Nat} {L' : List (Option Value)} (hd : decode M.2.1 pc = .ok (.astore_n i, 1)) (hp : pc + 1 = pc') (hi : (i : Nat) < M.2.2.1) (hL : L.set (i : Nat) (some (.ref v)) = L') (k : rsV G M rm Q kc ks pc' L' st h n) : rsV G M rm Q kc ks pc L (.ref v :: st) h n := by
  subst hp
  subst hL
  intro hU p e s m args below meth c H locs cells slots ls C S hc hs hl
  obtain ⟨ls', e', hl'⟩ := rsl_store (v := .ref v) hl hi rfl
  intro T hT X
  obtain ⟨t, a, b⟩ := k hU p e s m args below meth c H locs cells slots ls' C S hc hs hl' T hT X
  refine ⟨t, ?_, b⟩
  have hexec := C.1
  have hb := C.2.1
  jvm_step X.here [X.here.top, ↓top_set X.here.top, hexec, hb, hd, e']
  first | exact a | exact ⟨rfl, a⟩
theorem rs_astore {i : Nat} {v : Nat} {L' : List (Option Value)} (hd : decode M.2.1 pc = .ok (.astore i, 2)) (hp : pc + 2 = pc') (hi : (i : Nat) < M.2.2.1) (hL : L.set (i : Nat) (some (.ref v)) = L') (k : rsV G M rm Q kc ks pc' L' st h n) : rsV G M rm Q kc ks pc L (.ref v :: st) h n := by
  subst hp
  subst hL
  intro hU p e s m args below meth c H locs cells slots ls C S hc hs hl
  obtain ⟨ls', e', hl'⟩ := rsl_store (v := .ref v) hl hi rfl
  intro T hT X
  obtain ⟨t, a, b⟩ := k hU p e s m args below meth c H locs cells slots ls' C S hc hs hl' T hT X
  refine ⟨t, ?_, b⟩
  have hexec := C.1
  have hb := C.2.1
  jvm_step X.here [X.here.top, ↓top_set X.here.top, hexec, hb, hd, e']
  first | exact a | exact ⟨rfl, a⟩
theorem rs_astore_nN {i : Fin 4} {L' : List (Option Value)} (hd : decode M.2.1 pc = .ok (.astore_n i, 1)) (hp : pc + 1 = pc') (hi : (i : Nat) < M.2.2.1) (hL : L.set (i : Nat) (some (.null)) = L') (k : rsV G M rm Q kc ks pc' L' st h n) : rsV G M rm Q kc ks pc L (.null :: st) h n := by
  subst hp
  subst hL
  intro hU p e s m args below meth c H locs cells slots ls C S hc hs hl
  obtain ⟨ls', e', hl'⟩ := rsl_store (v := .null) hl hi rfl
  intro T hT X
  obtain ⟨t, a, b⟩ := k hU p e s m args below meth c H locs cells slots ls' C S hc hs hl' T hT X
  refine ⟨t, ?_, b⟩
  have hexec := C.1
  have hb := C.2.1
  jvm_step X.here [X.here.top, ↓top_set X.here.top, hexec, hb, hd, e']
  first | exact a | exact ⟨rfl, a⟩
theorem rs_astoreN {i : Nat} {L' : List (Option Value)} (hd : decode M.2.1 pc = .ok (.astore i, 2)) (hp : pc + 2 = pc') (hi : (i : Nat) < M.2.2.1) (hL : L.set (i : Nat) (some (.null)) = L') (k : rsV G M rm Q kc ks pc' L' st h n) : rsV G M rm Q kc ks pc L (.null :: st) h n := by
  subst hp
  subst hL
  intro hU p e s m args below meth c H locs cells slots ls C S hc hs hl
  obtain ⟨ls', e', hl'⟩ := rsl_store (v := .null) hl hi rfl
  intro T hT X
  obtain ⟨t, a, b⟩ := k hU p e s m args below meth c H locs cells slots ls' C S hc hs hl' T hT X
  refine ⟨t, ?_, b⟩
  have hexec := C.1
  have hb := C.2.1
  jvm_step X.here [X.here.top, ↓top_set X.here.top, hexec, hb, hd, e']
  first | exact a | exact ⟨rfl, a⟩
theorem rs_iinc {i : Nat} {j : Int} {x v : Int32} {L' : List (Option Value)} (hd : decode M.2.1 pc = .ok (.iinc i j, 3)) (hp : pc + 3 = pc') (hi : i < M.2.2.1) (hx : L[i]? = some (some (.int x))) (hv : x + Int32.ofInt j = v) (hL : L.set i (some (.int v)) = L') (k : rsV G M rm Q kc ks pc' L' st h n) : rsV G M rm Q kc ks pc L st h n := by
  subst hp
  subst hL
  subst hv
  intro hU p e s m args below meth c H locs cells slots ls C S hc hs hl
  obtain ⟨ls', e', hl'⟩ := rsl_store (v := .int (x + Int32.ofInt j)) hl hi rfl
  have hg := (hl.2.2 _ _ hx).1
  intro T hT X
  obtain ⟨t, a, b⟩ := k hU p e s m args below meth c H locs cells slots ls' C S hc hs hl' T hT X
  refine ⟨t, ?_, b⟩
  have hexec := C.1
  have hb := C.2.1
  jvm_step X.here [X.here.top, ↓top_set X.here.top, hexec, hb, hd, hg, e']
  exact a
theorem rs_if_eq {x : Int32} {off : Int} {tgt : Nat} (hd : decode M.2.1 pc = .ok (.ifCond .eq off, 3)) (hp : pc + 3 = pc') (ht : (pc : Int) + off = (tgt : Int)) (kt : x = 0 → rsV G M rm Q kc ks tgt L st h n) (kf : ¬ x = 0 → rsV G M rm Q kc ks pc' L st h n) : rsV G M rm Q kc ks pc L (.int x :: st) h n := by
  subst hp
  intro hU p e s m args below meth c H locs cells slots ls C S hc hs hl
  exact lv_if_eq C.1 C.2.1 hd ht (fun q => kt q hU p e s m args below meth c H locs cells slots ls C S hc hs hl) (fun q => kf q hU p e s m args below meth c H locs cells slots ls C S hc hs hl)
theorem rs_icmp_eq {x y : Int32} {off : Int} {tgt : Nat} (hd : decode M.2.1 pc = .ok (.if_icmp .eq off, 3)) (hp : pc + 3 = pc') (ht : (pc : Int) + off = (tgt : Int)) (kt : x = y → rsV G M rm Q kc ks tgt L st h n) (kf : ¬ x = y → rsV G M rm Q kc ks pc' L st h n) : rsV G M rm Q kc ks pc L (.int y :: .int x :: st) h n := by
  subst hp
  intro hU p e s m args below meth c H locs cells slots ls C S hc hs hl
  exact lv_icmp_eq C.1 C.2.1 hd ht (fun q => kt q hU p e s m args below meth c H locs cells slots ls C S hc hs hl) (fun q => kf q hU p e s m args below meth c H locs cells slots ls C S hc hs hl)
theorem rs_if_ne {x : Int32} {off : Int} {tgt : Nat} (hd : decode M.2.1 pc = .ok (.ifCond .ne off, 3)) (hp : pc + 3 = pc') (ht : (pc : Int) + off = (tgt : Int)) (kt : ¬ x = 0 → rsV G M rm Q kc ks tgt L st h n) (kf : x = 0 → rsV G M rm Q kc ks pc' L st h n) : rsV G M rm Q kc ks pc L (.int x :: st) h n := by
  subst hp
  intro hU p e s m args below meth c H locs cells slots ls C S hc hs hl
  exact lv_if_ne C.1 C.2.1 hd ht (fun q => kt q hU p e s m args below meth c H locs cells slots ls C S hc hs hl) (fun q => kf q hU p e s m args below meth c H locs cells slots ls C S hc hs hl)
theorem rs_icmp_ne {x y : Int32} {off : Int} {tgt : Nat} (hd : decode M.2.1 pc = .ok (.if_icmp .ne off, 3)) (hp : pc + 3 = pc') (ht : (pc : Int) + off = (tgt : Int)) (kt : ¬ x = y → rsV G M rm Q kc ks tgt L st h n) (kf : x = y → rsV G M rm Q kc ks pc' L st h n) : rsV G M rm Q kc ks pc L (.int y :: .int x :: st) h n := by
  subst hp
  intro hU p e s m args below meth c H locs cells slots ls C S hc hs hl
  exact lv_icmp_ne C.1 C.2.1 hd ht (fun q => kt q hU p e s m args below meth c H locs cells slots ls C S hc hs hl) (fun q => kf q hU p e s m args below meth c H locs cells slots ls C S hc hs hl)
theorem rs_if_lt {x : Int32} {off : Int} {tgt : Nat} (hd : decode M.2.1 pc = .ok (.ifCond .lt off, 3)) (hp : pc + 3 = pc') (ht : (pc : Int) + off = (tgt : Int)) (kt : x < 0 → rsV G M rm Q kc ks tgt L st h n) (kf : ¬ x < 0 → rsV G M rm Q kc ks pc' L st h n) : rsV G M rm Q kc ks pc L (.int x :: st) h n := by
  subst hp
  intro hU p e s m args below meth c H locs cells slots ls C S hc hs hl
  exact lv_if_lt C.1 C.2.1 hd ht (fun q => kt q hU p e s m args below meth c H locs cells slots ls C S hc hs hl) (fun q => kf q hU p e s m args below meth c H locs cells slots ls C S hc hs hl)
theorem rs_icmp_lt {x y : Int32} {off : Int} {tgt : Nat} (hd : decode M.2.1 pc = .ok (.if_icmp .lt off, 3)) (hp : pc + 3 = pc') (ht : (pc : Int) + off = (tgt : Int)) (kt : x < y → rsV G M rm Q kc ks tgt L st h n) (kf : ¬ x < y → rsV G M rm Q kc ks pc' L st h n) : rsV G M rm Q kc ks pc L (.int y :: .int x :: st) h n := by
  subst hp
  intro hU p e s m args below meth c H locs cells slots ls C S hc hs hl
  exact lv_icmp_lt C.1 C.2.1 hd ht (fun q => kt q hU p e s m args below meth c H locs cells slots ls C S hc hs hl) (fun q => kf q hU p e s m args below meth c H locs cells slots ls C S hc hs hl)
theorem rs_if_ge {x : Int32} {off : Int} {tgt : Nat} (hd : decode M.2.1 pc = .ok (.ifCond .ge off, 3)) (hp : pc + 3 = pc') (ht : (pc : Int) + off = (tgt : Int)) (kt : 0 ≤ x → rsV G M rm Q kc ks tgt L st h n) (kf : ¬ 0 ≤ x → rsV G M rm Q kc ks pc' L st h n) : rsV G M rm Q kc ks pc L (.int x :: st) h n := by
  subst hp
  intro hU p e s m args below meth c H locs cells slots ls C S hc hs hl
  exact lv_if_ge C.1 C.2.1 hd ht (fun q => kt q hU p e s m args below meth c H locs cells slots ls C S hc hs hl) (fun q => kf q hU p e s m args below meth c H locs cells slots ls C S hc hs hl)
theorem rs_icmp_ge {x y : Int32} {off : Int} {tgt : Nat} (hd : decode M.2.1 pc = .ok (.if_icmp .ge off, 3)) (hp : pc + 3 = pc') (ht : (pc : Int) + off = (tgt : Int)) (kt : y ≤ x → rsV G M rm Q kc ks tgt L st h n) (kf : ¬ y ≤ x → rsV G M rm Q kc ks pc' L st h n) : rsV G M rm Q kc ks pc L (.int y :: .int x :: st) h n := by
  subst hp
  intro hU p e s m args below meth c H locs cells slots ls C S hc hs hl
  exact lv_icmp_ge C.1 C.2.1 hd ht (fun q => kt q hU p e s m args below meth c H locs cells slots ls C S hc hs hl) (fun q => kf q hU p e s m args below meth c H locs cells slots ls C S hc hs hl)
theorem rs_if_gt {x : Int32} {off : Int} {tgt : Nat} (hd : decode M.2.1 pc = .ok (.ifCond .gt off, 3)) (hp : pc + 3 = pc') (ht : (pc : Int) + off = (tgt : Int)) (kt : 0 < x → rsV G M rm Q kc ks tgt L st h n) (kf : ¬ 0 < x → rsV G M rm Q kc ks pc' L st h n) : rsV G M rm Q kc ks pc L (.int x :: st) h n := by
  subst hp
  intro hU p e s m args below meth c H locs cells slots ls C S hc hs hl
  exact lv_if_gt C.1 C.2.1 hd ht (fun q => kt q hU p e s m args below meth c H locs cells slots ls C S hc hs hl) (fun q => kf q hU p e s m args below meth c H locs cells slots ls C S hc hs hl)
theorem rs_icmp_gt {x y : Int32} {off : Int} {tgt : Nat} (hd : decode M.2.1 pc = .ok (.if_icmp .gt off, 3)) (hp : pc + 3 = pc') (ht : (pc : Int) + off = (tgt : Int)) (kt : y < x → rsV G M rm Q kc ks tgt L st h n) (kf : ¬ y < x → rsV G M rm Q kc ks pc' L st h n) : rsV G M rm Q kc ks pc L (.int y :: .int x :: st) h n := by
  subst hp
  intro hU p e s m args below meth c H locs cells slots ls C S hc hs hl
  exact lv_icmp_gt C.1 C.2.1 hd ht (fun q => kt q hU p e s m args below meth c H locs cells slots ls C S hc hs hl) (fun q => kf q hU p e s m args below meth c H locs cells slots ls C S hc hs hl)
theorem rs_if_le {x : Int32} {off : Int} {tgt : Nat} (hd : decode M.2.1 pc = .ok (.ifCond .le off, 3)) (hp : pc + 3 = pc') (ht : (pc : Int) + off = (tgt : Int)) (kt : x ≤ 0 → rsV G M rm Q kc ks tgt L st h n) (kf : ¬ x ≤ 0 → rsV G M rm Q kc ks pc' L st h n) : rsV G M rm Q kc ks pc L (.int x :: st) h n := by
  subst hp
  intro hU p e s m args below meth c H locs cells slots ls C S hc hs hl
  exact lv_if_le C.1 C.2.1 hd ht (fun q => kt q hU p e s m args below meth c H locs cells slots ls C S hc hs hl) (fun q => kf q hU p e s m args below meth c H locs cells slots ls C S hc hs hl)
theorem rs_icmp_le {x y : Int32} {off : Int} {tgt : Nat} (hd : decode M.2.1 pc = .ok (.if_icmp .le off, 3)) (hp : pc + 3 = pc') (ht : (pc : Int) + off = (tgt : Int)) (kt : x ≤ y → rsV G M rm Q kc ks tgt L st h n) (kf : ¬ x ≤ y → rsV G M rm Q kc ks pc' L st h n) : rsV G M rm Q kc ks pc L (.int y :: .int x :: st) h n := by
  subst hp
  intro hU p e s m args below meth c H locs cells slots ls C S hc hs hl
  exact lv_icmp_le C.1 C.2.1 hd ht (fun q => kt q hU p e s m args below meth c H locs cells slots ls C S hc hs hl) (fun q => kf q hU p e s m args below meth c H locs cells slots ls C S hc hs hl)
theorem rs_goto {off : Int} {tgt : Nat} (hd : decode M.2.1 pc = .ok (.goto off, 3)) (ht : (pc : Int) + off = (tgt : Int)) (k : rsV G M rm Q kc ks tgt L st h n) : rsV G M rm Q kc ks pc L st h n := by
  intro hU p e s m args below meth c H locs cells slots ls C S hc hs hl
  exact lv_goto C.1 C.2.1 hd ht (k hU p e s m args below meth c H locs cells slots ls C S hc hs hl)
theorem rs_ifnonnull {v : Nat} {off : Int} {tgt : Nat} (hd : decode M.2.1 pc = .ok (.ifnonnull off, 3)) (ht : (pc : Int) + off = (tgt : Int)) (k : rsV G M rm Q kc ks tgt L st h n) : rsV G M rm Q kc ks pc L (.ref v :: st) h n := by
  intro hU p e s m args below meth c H locs cells slots ls C S hc hs hl
  exact lv_ifnonnull C.1 C.2.1 hd ht (k hU p e s m args below meth c H locs cells slots ls C S hc hs hl)
theorem rs_ifnullN {off : Int} {tgt : Nat} (hd : decode M.2.1 pc = .ok (.ifnull off, 3)) (ht : (pc : Int) + off = (tgt : Int)) (k : rsV G M rm Q kc ks tgt L st h n) : rsV G M rm Q kc ks pc L (.null :: st) h n := by
  intro hU p e s m args below meth c H locs cells slots ls C S hc hs hl
  exact lv_ifnullN C.1 C.2.1 hd ht (k hU p e s m args below meth c H locs cells slots ls C S hc hs hl)
theorem rs_tableIn {dflt lo hi off : Int} {offs : Array Int} {len tgt : Nat} {x : Int32} (hd : decode M.2.1 pc = .ok (.tableswitch dflt lo hi offs, len)) (h1 : ¬ x.toInt < lo) (h2 : ¬ hi < x.toInt) (ho : offs[(x.toInt - lo).toNat]? = some off) (ht : (pc : Int) + off = (tgt : Int)) (k : rsV G M rm Q kc ks tgt L st h n) : rsV G M rm Q kc ks pc L (.int x :: st) h n := by
  intro hU p e s m args below meth c H locs cells slots ls C S hc hs hl
  exact lv_tableIn C.1 C.2.1 hd h1 h2 ho ht (k hU p e s m args below meth c H locs cells slots ls C S hc hs hl)
theorem rs_tableOut {dflt lo hi : Int} {offs : Array Int} {len tgt : Nat} {x : Int32} (hd : decode M.2.1 pc = .ok (.tableswitch dflt lo hi offs, len)) (hx : x.toInt < lo ∨ hi < x.toInt) (ht : (pc : Int) + dflt = (tgt : Int)) (k : rsV G M rm Q kc ks tgt L st h n) : rsV G M rm Q kc ks pc L (.int x :: st) h n := by
  intro hU p e s m args below meth c H locs cells slots ls C S hc hs hl
  exact lv_tableOut C.1 C.2.1 hd hx ht (k hU p e s m args below meth c H locs cells slots ls C S hc hs hl)
theorem rs_ifnull {v : Nat} {off : Int} (hd : decode M.2.1 pc = .ok (.ifnull off, 3)) (hp : pc + 3 = pc')  (k : rsV G M rm Q kc ks pc' L st h n) : rsV G M rm Q kc ks pc L (.ref v :: st) h n := by
  subst hp
  intro hU p e s m args below meth c H locs cells slots ls C S hc hs hl
  exact lv_ifnull C.1 C.2.1 hd (k hU p e s m args below meth c H locs cells slots ls C S hc hs hl)
theorem rs_ifnonnullN {off : Int} (hd : decode M.2.1 pc = .ok (.ifnonnull off, 3)) (hp : pc + 3 = pc')  (k : rsV G M rm Q kc ks pc' L st h n) : rsV G M rm Q kc ks pc L (.null :: st) h n := by
  subst hp
  intro hU p e s m args below meth c H locs cells slots ls C S hc hs hl
  exact lv_ifnonnullN C.1 C.2.1 hd (k hU p e s m args below meth c H locs cells slots ls C S hc hs hl)
theorem rs_ireturn {v : Int32} (hd : decode M.2.1 pc = .ok (.ireturn, 1)) (hr : M.2.2.2.1 = some .int) (hq : Q (.inl (some (.int v))) h n) : rsV G M rm Q kc ks pc L [.int v] h n := by
  intro hU p e s m args below meth c H locs cells slots ls C S hc hs hl
  have hlocks := C.2.2.2.2.2.2.1
  refine W.widen (k := rm.cells) (n := rm.slots) (by omega) (by omega) (rs_mono rs_ofMQ ?_)
  exact W.iret C.1 C.2.1 (C.2.2.2.2.2.1.trans hr) (fun t ht hW => ⟨_, h, n, hq, rfl, by rw [ht]; exact ⟨S.1, S.2.1, S.2.2.1, fun q hq => (by cases hq), S.2.2.2.2⟩, State.WarmedH.trans C.2.2.2.2.1 hW⟩) S.2.2.2.1 hd hlocks
theorem rs_zreturn {v : Int32} (hd : decode M.2.1 pc = .ok (.ireturn, 1)) (hr : M.2.2.2.1 = some .boolean) (hv : narrow .boolean (.int v) = .int v) (hq : Q (.inl (some (.int v))) h n) : rsV G M rm Q kc ks pc L [.int v] h n := by
  intro hU p e s m args below meth c H locs cells slots ls C S hc hs hl
  have hlocks := C.2.2.2.2.2.2.1
  refine W.widen (k := rm.cells) (n := rm.slots) (by omega) (by omega) (rs_mono rs_ofMQ ?_)
  exact W.zret C.1 C.2.1 (C.2.2.2.2.2.1.trans hr) hv (fun t ht hW => ⟨_, h, n, hq, rfl, by rw [ht]; exact ⟨S.1, S.2.1, S.2.2.1, fun q hq => (by cases hq), S.2.2.2.2⟩, State.WarmedH.trans C.2.2.2.2.1 hW⟩) S.2.2.2.1 hd hlocks
theorem rs_vreturn  (hd : decode M.2.1 pc = .ok (.return_, 1)) (hr : M.2.2.2.1 = none) (hq : Q (.inl (none)) h n) : rsV G M rm Q kc ks pc L [] h n := by
  intro hU p e s m args below meth c H locs cells slots ls C S hc hs hl
  have hlocks := C.2.2.2.2.2.2.1
  refine W.widen (k := rm.cells) (n := rm.slots) (by omega) (by omega) (rs_mono rs_ofMQ ?_)
  exact W.vret C.1 C.2.1 (C.2.2.2.2.2.1.trans hr) (fun t ht hW => ⟨_, h, n, hq, rfl, by rw [ht]; exact ⟨S.1, S.2.1, S.2.2.1, fun q hq => (by cases hq), S.2.2.2.2⟩, State.WarmedH.trans C.2.2.2.2.1 hW⟩) S.2.2.2.1 hd hlocks
theorem rs_areturn {v : Nat} {cl : String} (hd : decode M.2.1 pc = .ok (.areturn, 1)) (hr : M.2.2.2.1 = some (.object cl)) (hq : Q (.inl (some (.ref v))) h n) : rsV G M rm Q kc ks pc L [.ref v] h n := by
  intro hU p e s m args below meth c H locs cells slots ls C S hc hs hl
  have hlocks := C.2.2.2.2.2.2.1
  refine W.widen (k := rm.cells) (n := rm.slots) (by omega) (by omega) (rs_mono rs_ofMQ ?_)
  exact W.aret C.1 C.2.1 (C.2.2.2.2.2.1.trans hr) (Or.inl ⟨_, rfl⟩) (Or.inr ⟨_, rfl⟩) (fun t ht hW => ⟨_, h, n, hq, rfl, by rw [ht]; exact ⟨S.1, S.2.1, S.2.2.1, fun q hq => (by cases hq), S.2.2.2.2⟩, State.WarmedH.trans C.2.2.2.2.1 hW⟩) S.2.2.2.1 hd hlocks
theorem rs_areturnN {cl : String} (hd : decode M.2.1 pc = .ok (.areturn, 1)) (hr : M.2.2.2.1 = some (.object cl)) (hq : Q (.inl (some .null)) h n) : rsV G M rm Q kc ks pc L [.null] h n := by
  intro hU p e s m args below meth c H locs cells slots ls C S hc hs hl
  have hlocks := C.2.2.2.2.2.2.1
  refine W.widen (k := rm.cells) (n := rm.slots) (by omega) (by omega) (rs_mono rs_ofMQ ?_)
  exact W.aret C.1 C.2.1 (C.2.2.2.2.2.1.trans hr) (Or.inl ⟨_, rfl⟩) (Or.inl rfl) (fun t ht hW => ⟨_, h, n, hq, rfl, by rw [ht]; exact ⟨S.1, S.2.1, S.2.2.1, fun q hq => (by cases hq), S.2.2.2.2⟩, State.WarmedH.trans C.2.2.2.2.1 hW⟩) S.2.2.2.1 hd hlocks
theorem rsV_kc {kc' ks' : Nat} (h1 : kc' ≤ kc) (h2 : ks' ≤ ks) (k : rsV G M rm Q kc' ks' pc L st h n) : rsV G M rm Q kc ks pc L st h n := by
  intro hU p e s m args below meth c H locs cells slots ls C S hc hs hl
  exact k hU p e s m args below meth c H locs cells slots ls C S (by omega) (by omega) hl
theorem rsV_w {h' : rsH} (hh : ∀ a e, h' a = some e → h a = some e) (k : rsV G M rm Q kc ks pc L st h' n) : rsV G M rm Q kc ks pc L st h n := by
  intro hU p e s m args below meth c H locs cells slots ls C S hc hs hl
  exact k hU p e s m args below meth c H locs cells slots ls C ⟨fun a x q => S.1 a x (hh a x q), S.2.1, S.2.2.1, S.2.2.2.1, fun a x q => S.2.2.2.2.1 a x (hh a x q), S.2.2.2.2.2⟩ hc hs hl
end RSR
