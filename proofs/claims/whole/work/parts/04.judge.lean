/-! 04: the judgement rsV and its rows -/
abbrev rsH : Type := Nat → Option va_E
abbrev rsR : Type := Option Value ⊕ Nat
/-- launch; the state in which the law was invoked; class numbers and slots; the array classes of int, long, entries -/
abbrev rsG : Type := Launch × State × va_G × (ClassId × ClassId × ClassId)
/-- a method: name, code, locals, answer, handlers -/
abbrev rsM : Type := MethodName × ByteArray × Nat × Option FieldType × List (Nat × Nat × Nat × Nat)
abbrev rsL (G : rsG) : Launch := G.1
abbrev rsS0 (G : rsG) : State := G.2.1
abbrev rsD (G : rsG) : va_G := G.2.2.1
abbrev rsT (G : rsG) : List (ClassId × FieldType) := [(G.2.2.2.1, .int), (G.2.2.2.2.1, .long), (G.2.2.2.2.2, .object "RunStore$Entries")]
abbrev rsB (G : rsG) : Nat := (rsS0 G).heap.size
/-- what is known of the tables: each word, at every state with warmer tables; classes and arrays; which classes aren't castable -/
def rsU (G : rsG) : Prop := (∀ w ∈ rsTs, ∀ (a : Array Value) (U : State), (rsS0 G).WarmedH U.vm → w.before a U = true) ∧ va_K (rsD G) rsCl (rsT G) (rsS0 G) ∧ rsX (rsL G) (rsS0 G)
/-- the world: what the heap holds; its size; what is old is as it was; what was written is new; the world is new -/
def rsS (G : rsG) (h : rsH) (n : Nat) (H : Heap) (locs : List Loc) : Prop :=
  (∀ a e, h a = some e → va_at (rsD G) rsCl (a, e) H) ∧ H.size = rsB G + n ∧ (∀ q, q < rsB G → H[q]? = (rsS0 G).heap[q]?) ∧ (∀ q ∈ locs, rsB G ≤ q.base) ∧ (∀ a e, h a = some e → rsB G ≤ a) ∧ ∀ q cell, rsB G ≤ q → H[q]? = some cell → cell.vm.isStatics = false
def rsl (ls : Array Slot) (nL : Nat) (L : List (Option Value)) : Prop := ls.size = nL ∧ lv_wf ls ∧ ∀ (i : Nat) (v : Value), L[i]? = some (some v) → ls[i]? = some (.val v) ∧ v.category = 1
def rsC (G : rsG) (M : rsM) (p : Program) (s : State) (m : MethodId) (meth : Method) (c : Code) : Prop :=
  p.tables.exec = Jvm.exec ∧ c.code = M.2.1 ∧ c.maxLocals = M.2.2.1 ∧ s.vm.findClass M.1.cls = some m.cls ∧ (rsS0 G).WarmedH s.vm ∧ meth.sig.returnType = M.2.2.2.1 ∧ meth.locks = false ∧ c.exceptionTable.toList.map (fun x => (x.startPc, x.endPc, x.handlerPc, x.catchType)) = M.2.2.2.2 ∧ meth.name = M.1.name ∧ (∀ q, q < rsB G → s.heap[q]? = (rsS0 G).heap[q]?) ∧ rsB G ≤ s.heap.size ∧ ∀ q cell, rsB G ≤ q → s.heap[q]? = some cell → cell.vm.isStatics = false
def rsO (r : rsR) (o : Outcome) (t : State) : Prop := match r with
  | .inl v => o = .returned v
  | .inr k => ∃ (x : Addr) (cell : Cell), o = .threw x ∧ t.heap[x]? = some cell ∧ cell.vm.isStatics = false ∧ t.vm.findClass (rsEx k) = some cell.cls
def rsQ (G : rsG) (Q : rsR → rsH → Nat → Prop) : Array Value → State → Outcome → State → Prop := fun _ _ o t => ∃ r h n, Q r h n ∧ rsO r o t ∧ rsS G h n t.heap [] ∧ (rsS0 G).WarmedH t.vm
/-- a contract: from the world h the method ends with an outcome and a world that Q allows -/
def rsK (G : rsG) (M : rsM) (rm : Room) (as : List Value) (h : rsH) (n : Nat) (Q : rsR → rsH → Nat → Prop) : Prop :=
  rsU G → rs_Met (rsL G) M.1 [rs_word M.1 M.2.1 M.2.2.1 M.2.2.2.1 M.2.2.2.2] rm (fun a U => a = as.toArray ∧ rsS G h n U.heap [] ∧ (rsS0 G).WarmedH U.vm) (rsQ G Q) rm.cells rm.slots (fun q => rsB G ≤ q)
def rsV (G : rsG) (M : rsM) (rm : Room) (Q : rsR → rsH → Nat → Prop) (kc ks pc : Nat) (L : List (Option Value)) (st : List Value) (h : rsH) (n : Nat) : Prop :=
  rsU G → ∀ (p : Program) (e : Env) (s : State) (m : MethodId) (args : Array Value) (below : List Frame) (meth : Method) (c : Code) (H : Heap) (locs : List Loc) (cells slots : Nat) (ls : Array Slot),
    rsC G M p s m meth c → rsS G h n H locs → cells + kc ≤ rm.cells → slots + ks ≤ rm.slots → rsl ls M.2.2.1 L →
    W p (rsL G) e rm s m args below meth c H locs cells slots (rs_MQ below (rsQ G Q) args s rm.cells rm.slots (fun q => rsB G ≤ q)) (F0 m pc ls st)
theorem rsl_store {ls : Array Slot} {nL i : Nat} {L : List (Option Value)} {v : Value} (h : rsl ls nL L) (hi : i < nL) (hc : v.category = 1) : ∃ ls', storeLocals ls i v = some ls' ∧ rsl ls' nL (L.set i (some v)) := by
  obtain ⟨h1, h2, h3⟩ := h
  have hh : lv_has ls nL (((List.range nL).filterMap (fun j => match L[j]? with | some (some w) => some (j, w) | _ => none))) := by
    refine ⟨h1, h2, fun q hq => ?_⟩
    obtain ⟨j, -, hj⟩ := List.mem_filterMap.mp hq
    split at hj
    · next w hw => cases hj; exact (h3 _ _ hw).1
    · cases hj
  obtain ⟨ls', e1, g1, g2, g3⟩ := lv_store1 (v := v) hh hi hc
  refine ⟨ls', e1, g1, g2, fun j w hj => ?_⟩
  by_cases hji : j = i
  · subst hji
    by_cases hl : j < L.length
    · rw [List.getElem?_set_self hl] at hj
      cases hj
      exact ⟨g3 (j, v) (List.mem_cons_self ..), hc⟩
    · rw [List.set_eq_of_length_le (by omega)] at hj
      rw [List.getElem?_eq_none (by omega)] at hj
      cases hj
  · rw [List.getElem?_set_ne (Ne.symm hji)] at hj
    have hw := h3 _ _ hj
    have hlt : j < nL := by rw [← h1]; exact lv_lt hw.1
    refine ⟨g3 (j, w) (List.mem_cons_of_mem _ (List.mem_filter.mpr ⟨List.mem_filterMap.mpr ⟨j, List.mem_range.mpr hlt, by rw [hj]⟩, ?_⟩)), hw.2⟩
    simp [hji, hw.2]
theorem rs_args : ∀ (as : List Value) (k : Nat), (∀ v ∈ as, v.category = 1) → ∀ (i : Nat) (v : Value), as[i]? = some v → (k + i, v) ∈ lv_args k as
  | [], _, _, i, v, h => by simp at h
  | a :: as, k, hc, i, v, h => by
    have ha : a.category = 1 := hc a (List.mem_cons_self ..)
    unfold lv_args
    rw [if_neg (by omega)]
    cases i with
    | zero =>
      simp only [List.getElem?_cons_zero, Option.some.injEq] at h
      subst h
      exact List.mem_cons_self ..
    | succ i =>
      rw [List.getElem?_cons_succ] at h
      have := rs_args as (k + 1) (fun w hw => hc w (List.mem_cons_of_mem _ hw)) i v h
      rw [show k + (i + 1) = k + 1 + i by omega]
      exact List.mem_cons_of_mem _ this
theorem rs_sl : ∀ (as : List Value), (∀ v ∈ as, v.category = 1) → (lg_sl as).length = as.length
  | [], _ => rfl
  | a :: as, hc => by
    have ha : a.category = 1 := hc a (List.mem_cons_self ..)
    have := rs_sl as (fun w hw => hc w (List.mem_cons_of_mem _ hw))
    simp only [lg_sl, List.flatMap_cons] at this ⊢
    rw [if_neg (by omega)]
    simp only [List.length_append, List.length_cons, List.length_nil]
    omega
/-- a contract out of a walk of the body -/
theorem rsK_of {G : rsG} {M : rsM} {rm : Room} {as : List Value} {h : rsH} {n : Nat} {Q : rsR → rsH → Nat → Prop} {L : List (Option Value)} (hy : plainFor M.1 = true) (hc0 : as.all (fun v => v.category == 1) = true) (hl : as.length ≤ M.2.2.1)
    (hL : L = as.map some ++ List.replicate (M.2.2.1 - as.length) none) (hv : rsV G M rm Q rm.cells rm.slots 0 L [] h n) : rsK G M rm as h n Q := by
  intro hU
  have hc : ∀ v ∈ as, v.category = 1 := fun v hv => by
    have := List.all_eq_true.mp hc0 v hv
    simpa using this
  refine rs_ofW hy fun p e s m args below meth c s₁ B hml hP hhd => ?_
  obtain ⟨rfl, hS, hW⟩ := hP
  rw [lg_entry_eq]
  have hlen := rs_sl as hc
  have hlh := lv_entry as (n := M.2.2.1) (by omega)
  refine hv hU p e s m _ below meth c s.heap [] 0 0 _ ⟨B.exec, B.bytes, hml, findClass_of_methodNamed B.named, hW, B.returns, B.notSynchronized, hhd, (name_of_methodNamed B.named B.method).1, hS.2.2.1, by rw [hS.2.1]; omega, hS.2.2.2.2.2⟩ hS (by omega) (by omega) ⟨hlh.1, hlh.2.1, fun i v hi => ?_⟩
  subst hL
  by_cases hlt : i < as.length
  · rw [List.getElem?_append_left (by simpa using hlt), List.getElem?_map] at hi
    cases hv2 : as[i]? with
    | none => rw [hv2] at hi; cases hi
    | some w =>
      rw [hv2] at hi
      cases hi
      have := hlh.2.2 _ (rs_args as 0 hc i _ hv2)
      rw [Nat.zero_add] at this
      exact ⟨this, hc _ (List.mem_of_getElem? hv2)⟩
  · rw [List.getElem?_append_right (by simpa using Nat.not_lt.mp hlt)] at hi
    have := List.eq_of_mem_replicate (List.mem_of_getElem? hi)
    cases this
