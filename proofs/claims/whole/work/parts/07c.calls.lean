/-! 07: calls by contract, throws that go through, catches -/
section RSCT
variable {Q : Handler → _root_.Jvm.Pre} {E : _root_.Jvm.CtlPost} {e : Env} {d : Bool} {acts : List Action} {s : State} {f : JFrame} {a : Addr}
/-- a row of the table whose class is linked at the search: it takes the object, or the search goes on -/
theorem rs_row {x : ExceptionTableEntry} {t : List ExceptionTableEntry} {c : ClassId} {cell : Cell} (hx : covers x f.pc = true) (h0 : x.catchType ≠ 0)
    (hl : s.vm.ClassLinks e.platform f.method.cls x.catchType c) (hcell : s.heap[a]? = some cell) (hobj : ∀ k, cell.vm ≠ .statics k) (hk : ∃ k, s.vm.classes[cell.cls]? = some k) (hc : ∃ k, s.vm.classes[c]? = some k) :
    Sem.wp (findHandler.go f a (x :: t)) Q E e d acts s ↔
      if s.vm.assignable cell.cls c = true then Q (.found x.handlerPc) d acts (s.setVm (s.vm.noted f.method.cls x.catchType (.cls c))) else Sem.wp (findHandler.go f a t) Q E e d acts (s.setVm (s.vm.noted f.method.cls x.catchType (.cls c))) := by
  simp only [covers] at hx
  obtain ⟨ha, ht⟩ := (resolveClass_links e.toSetting hl).op (op := VmOp.resolveClass f.method.cls x.catchType) rfl
  have hal : s.vm.Alike (s.vm.noted f.method.cls x.catchType (.cls c)) := (Vm.Alike.refl s.vm).noted _ _ _
  obtain ⟨k1, hk1⟩ := hk
  obtain ⟨k2, hk2⟩ := hc
  obtain ⟨k1', hk1', -⟩ := hal.2.2 _ _ hk1
  obtain ⟨k2', hk2', -⟩ := hal.2.2 _ _ hk2
  have hfit : (s.vm.noted f.method.cls x.catchType (.cls c)).assignable cell.cls c = s.vm.assignable cell.cls c := hal.assignable _ _
  cases hq : s.vm.assignable cell.cls c with
  | true =>
    rw [hq] at hfit
    simp [findHandler.go, hx, h0, ha, ht, hcell, hobj, hk1', hk2', hfit, VmOp.dirties, VmOp.acts]
  | false =>
    rw [hq] at hfit
    simp [findHandler.go, hx, h0, ha, ht, hcell, hobj, hk1', hk2', hfit, VmOp.dirties, VmOp.acts]
end RSCT
/-- what the search finds, and the tables that it leaves -/
def rs_finds (e : Env) (s : State) (f : JFrame) (a : Addr) (h : Handler) (vm' : Vm) : Prop :=
  ∀ (Q : Handler → _root_.Jvm.Pre) (E : _root_.Jvm.CtlPost) (d : Bool) (acts : List Action), Sem.wp (findHandler f a) Q E e d acts s ↔ Q h d acts (s.setVm vm')
theorem rs_caught {tb : Tables} {e : Env} {s target : State} {g : JFrame} {c : Code} {below : List Frame} {a : Addr} (h : At s g.method c below) {pc : Nat} {vm' : Vm}
    (hfind : rs_finds e ((s.setTop g).pushFrame (.throwing a)) g a (.found pc) vm') (hrest : Steps tb e below ((s.setVm vm').setTop { g with pc := pc, stack := [.ref a] }) target) :
    Steps tb e below ((s.setTop g).pushFrame (.throwing a)) target := by
  have key : ∀ (u : State) (r : List Frame), rs_finds e u g a (.found pc) vm' → (stepThrowing e u a (.java g :: r)).Is ((u.setVm vm').setFrames (.java { g with pc := pc, stack := [.ref a] } :: r)) [] := by
    intro u r hf
    simp only [stepThrowing, searchFrame, vmDo]
    generalize hr : Sem.go _ e false [] u = res
    obtain ⟨as, rfl, ha⟩ := Sem.eq_ok_of hr (a := Handler.found pc) (s' := u.setVm vm') (acts' := []) (by simp [hf _ _ _ _])
    exact ⟨rfl, ha⟩
  obtain ⟨hgo, hw⟩ := h.throwing a
  refine Steps.head hgo hw ?_
  rw [stepThread_throwing (frames_entered h.top _), (key _ _ hfind).1]
  obtain ⟨g₀, hg⟩ := Option.isSome_iff_exists.mp h.top
  obtain ⟨r, hr⟩ := State.topJava?_eq_some.mp hg
  have hr' : (s.setVm vm').frames = .java g₀ :: r := hr
  rw [State.setTop_of_frames _ hr'] at hrest
  have e1 : ∀ (u : State) (F F' : List Frame), ((u.setFrames F).setVm vm').setFrames F' = (u.setVm vm').setFrames F' := fun u F F' => by
    have : (u.setFrames F).setVm vm' = (u.setVm vm').setFrames F := rfl
    rw [this, State.setFrames_setFrames]
  rw [hr, List.tail_cons, State.pushFrame, e1, State.setTop_of_frames _ hr, e1]
  exact hrest
/-- which handler takes an exception of kind k that comes out of a call at pc -/
def rs_takes (M : rsM) (k : Nat) : List (Nat × Nat × Nat × Nat) → Nat → Nat → Prop
  | [], _, _ => False
  | q :: r, pc, hp => (¬ (q.1 ≤ pc ∧ pc < q.2.1) ∧ rs_takes M k r pc hp) ∨
      ((q.1 ≤ pc ∧ pc < q.2.1) ∧ q.2.2.2 ≠ 0 ∧ ((q.2.2.1 = hp ∧ Cond.classLink M.1.cls q.2.2.2 (rsEx k) ∈ rsTs) ∨ ((∃ k', rsNo k k' ∧ Cond.classLink M.1.cls q.2.2.2 (rsEx k') ∈ rsTs) ∧ rs_takes M k r pc hp)))
def rsThr (G : rsG) (M : rsM) (rm : Room) (Q : rsR → rsH → Nat → Prop) (kc ks pc : Nat) (L : List (Option Value)) (k : Nat) (h : rsH) (n : Nat) : Prop :=
  (M.2.2.2.2.all (fun q => !(decide (q.1 ≤ pc) && decide (pc < q.2.1))) = true ∧ Q (.inr k) h n) ∨ ∃ hp, rs_takes M k M.2.2.2.2 pc hp ∧ ∀ x : Nat, rsV G M rm Q kc ks hp L [.ref x] h n
theorem rs_search {G : rsG} {M : rsM} {k pc hp : Nat} {e : Env} {s0 : State} {f : JFrame} {a : Addr} {cell : Cell} (hU : rsU G) (hadm : e.platform.magicAccessors = ({} : Platform).magicAccessors) (hpc : f.pc = pc)
    (hobj : ∀ q, cell.vm ≠ .statics q) :
    ∀ (rows : List ExceptionTableEntry) (S : State), (rsS0 G).WarmedH S.vm → S.vm.findClass M.1.cls = some f.method.cls → S.heap[a]? = some cell → S.vm.findClass (rsEx k) = some cell.cls →
      rs_takes M k (rows.map fun x => (x.startPc, x.endPc, x.handlerPc, x.catchType)) pc hp →
      ∃ vm', S.WarmedH vm' ∧ ∀ (Q : Handler → _root_.Jvm.Pre) (E : _root_.Jvm.CtlPost) (d : Bool) (acts : List Action), Sem.wp (findHandler.go f a rows) Q E e d acts S ↔ Q (.found hp) d acts (S.setVm vm') := by
  intro rows
  induction rows with
  | nil => intro S _ _ _ _ ht; exact ht.elim
  | cons x r ih =>
    intro S hW hown hcell hcls ht
    have hkc : ∃ k, S.vm.classes[cell.cls]? = some k := Vm.classAt_of_findClass hcls
    rcases ht with ⟨hno, ht⟩ | ⟨hcov, h0, ht⟩
    · obtain ⟨vm', hW', hq⟩ := ih S hW hown hcell hcls ht
      refine ⟨vm', hW', fun Q E d acts => ?_⟩
      have hx : covers x f.pc = false := by
        rw [hpc]
        cases hcv : covers x pc with
        | false => rfl
        | true =>
          simp only [covers, Bool.and_eq_true, decide_eq_true_eq] at hcv
          exact absurd hcv hno
      rw [W.findHandler_go_skip hx]
      exact hq Q E d acts
    · have hx : covers x f.pc = true := by
        rw [hpc]
        simp only [covers, Bool.and_eq_true, decide_eq_true_eq]
        exact hcov
      rcases ht with ⟨hhp, hlk⟩ | ⟨⟨k', hno, hlk⟩, ht⟩
      · obtain ⟨c', hc', hcl⟩ := Cond.classLink_spec hown (hU.1 _ hlk #[] S hW) e.platform hadm
        have hce : c' = cell.cls := Option.some.inj (hc'.symm.trans hcls)
        subst hce
        obtain ⟨dk, _, _, kt, hd, _, _, _, _, hkt, _, hopen⟩ := hcl.here
        refine ⟨_, (State.WarmedH.refl S).noted hd hopen (State.rightAt_cls hcl), fun Q E d acts => ?_⟩
        rw [rs_row hx h0 hcl hcell hobj hkc ⟨_, hkt⟩, if_pos (rsX_self hU hW hcls)]
        have hhp' : x.handlerPc = hp := hhp
        rw [hhp']
      · obtain ⟨c', hc', hcl⟩ := Cond.classLink_spec hown (hU.1 _ hlk #[] S hW) e.platform hadm
        obtain ⟨dk, _, _, kt, hd, _, _, _, _, hkt, _, hopen⟩ := hcl.here
        have hWn := (State.WarmedH.refl S).noted hd hopen (State.rightAt_cls hcl)
        have hal : S.vm.Alike (S.vm.noted f.method.cls x.catchType (.cls c')) := hWn.alike
        obtain ⟨vm', hW', hq⟩ := ih (S.setVm (S.vm.noted f.method.cls x.catchType (.cls c'))) (State.WarmedH.trans hW hWn) (by show (S.vm.noted _ _ _).findClass _ = _; rw [hal.findClass]; exact hown) hcell (by show (S.vm.noted _ _ _).findClass _ = _; rw [hal.findClass]; exact hcls) ht
        refine ⟨vm', State.WarmedH.trans hWn hW', fun Q E d acts => ?_⟩
        rw [rs_row hx h0 hcl hcell hobj hkc ⟨_, hkt⟩, if_neg (by rw [rsX_no hU hW hno hcls hc']; decide)]
        exact hq Q E d acts
section RSCC
variable {G : rsG} {M M' : rsM} {rm rm' : Room} {Q Q' : rsR → rsH → Nat → Prop} {kc ks kc' ks' pc pc' : Nat} {L : List (Option Value)} {as rest : List Value} {h : rsH} {n : Nat}
theorem rs_core {len : Nat} {p : Program} {e : Env} {s : State} {m : MethodId} {args : Array Value} {below : List Frame} {meth : Method} {c : Code} {H : Heap} {locs : List Loc} {cells slots : Nat} {ls : Array Slot}
    (hK : rsK G M' rm' as h n Q') (hw : rs_word M'.1 M'.2.1 M'.2.2.1 M'.2.2.2.1 M'.2.2.2.2 ∈ rsTs) (hini : Cond.initialized M'.1.cls ∈ rsTs) (hR : rm'.frames + 1 ≤ rm.frames ∧ 8 + (M'.2.2.1 + 11) + rm'.locals ≤ rm.locals) (hkc : kc' + rm'.cells ≤ kc) (hks : ks' + rm'.slots ≤ ks) (hrest : (rest.map fun v => v.category).sum ≤ 8)
    (kr : ∀ v h' n', Q' (.inl v) h' n' → rsV G M rm Q kc' ks' (pc + len) L (v.toList ++ rest) h' n') (kt : ∀ k h' n', Q' (.inr k) h' n' → rsThr G M rm Q kc' ks' pc L k h' n')
    (hU : rsU G) (Cx : rsC G M p s m meth c) (S : rsS G h n H locs) (hc : cells + kc ≤ rm.cells) (hs : slots + ks ≤ rm.slots) (hls : rsl ls M.2.2.1 L)
    {T1 : State} (hT1 : T1.heap = H) (X1 : Stand p (rsL G) e rm s m args below meth c T1 locs cells slots) {ig : Instr} (hd : decode M.2.1 pc = .ok (ig, len)) {mk : MethodId} (hn : T1.methodNamed? M'.1 = some mk) :
    ∃ t, Steps p.tables e below (doInvoke e (T1.setTop (F0 m pc ls rest)) [] mk as.toArray).1 t ∧ rs_MQ below (rsQ G Q) args s rm.cells rm.slots (fun q => rsB G ≤ q) t := by
  have hWT : (rsS0 G).WarmedH T1.vm := State.WarmedH.trans Cx.2.2.2.2.1 X1.warmed
  have hword := hU.1 _ hw as.toArray T1 hWT
  obtain ⟨mk', methY, cY, hn', hmY, hcY, -, hlY, -⟩ := rs_is_of hword
  cases hn.symm.trans hn'
  have hS1 : rsS G h n T1.heap [] := by rw [hT1]; exact ⟨S.1, S.2.1, S.2.2.1, fun q hq => (by cases hq), S.2.2.2.2⟩
  obtain ⟨o, t, T', Lc, X', eh, ev, ⟨r, h', n', hQ', hO, hS', hW'⟩, hLc, hend⟩ := rs_back (hK hU) X1 (g := F0 m pc ls rest) rfl (by rw [Cx.2.2.1]; exact hls.1) (ig := ig) (len := len) (by rw [Cx.2.1]; exact hd) (by show 2 * 0 + (rest.map fun v => v.category).sum ≤ 8; omega) hn
    (atoms_intro fun w hw' => by rw [List.mem_singleton.mp hw']; exact hword) hmY hcY hlY (hU.1 _ hini _ T1 hWT) hR.1 hR.2 (by omega) (by omega) ⟨rfl, hS1, hWT⟩
  have S' : rsS G h' n' T'.heap (locs ++ Lc) := by
    rw [eh]
    refine ⟨hS'.1, hS'.2.1, hS'.2.2.1, fun q hq => ?_, hS'.2.2.2.2⟩
    rcases List.mem_append.mp hq with h1 | h1
    · exact S.2.2.2.1 q h1
    · exact hLc q h1
  rcases hend with ⟨v, rfl, hst⟩ | ⟨x, rfl, hst⟩
  · cases r with
    | inr k => obtain ⟨x, _, ho, _⟩ := hO; cases ho
    | inl v' =>
      have hv : Outcome.returned v = Outcome.returned v' := hO
      cases hv
      obtain ⟨t2, a2, b2⟩ := kr v h' n' hQ' hU p e s m args below meth c T'.heap (locs ++ Lc) (cells + rm'.cells) (slots + rm'.slots) ls Cx S' (by omega) (by omega) hls T' rfl X'
      exact ⟨t2, hst.trans a2, b2⟩
  · cases r with
    | inl v => have hv : Outcome.threw x = Outcome.returned v := hO; cases hv
    | inr k =>
      obtain ⟨x', cell, ho, hcell, hstat, hcls⟩ := hO
      cases ho
      rcases kt k h' n' hQ' with ⟨hout, hq⟩ | ⟨hp, htk, kk⟩
      · have hex : ∀ y ∈ c.exceptionTable.toList, covers y pc = false := by
          intro y hy
          have h1 : (y.startPc, y.endPc, y.handlerPc, y.catchType) ∈ M.2.2.2.2 := by rw [← Cx.2.2.2.2.2.2.2.1]; exact List.mem_map.mpr ⟨y, hy, rfl⟩
          have h2 := List.all_eq_true.mp hout _ h1
          rw [Bool.not_eq_true'] at h2
          exact h2
        have X'' := stand_widen X' (k := rm.cells) (n := rm.slots) (by omega) (by omega)
        obtain ⟨hwalk, hrun, hended, hWd, hsame⟩ := X''.leaveThrown x (g := F0 m pc ls rest) rfl rfl rfl hex Cx.2.2.2.2.2.2.1
        refine ⟨_, hst.trans hwalk, .threw x, hrun, hended, ⟨.inr k, h', n', hq, ⟨x, cell, rfl, ?_, hstat, ?_⟩, ?_, ?_⟩, locs ++ Lc, ⟨Or.inr ⟨x, rfl⟩, hWd, hsame⟩, S'.2.2.2.1⟩
        · show T'.heap[x]? = some cell
          rw [eh]; exact hcell
        · show T'.vm.findClass _ = _
          rw [ev]; exact hcls
        · show rsS G h' n' T'.heap []
          exact ⟨S'.1, S'.2.1, S'.2.2.1, fun q hq => (by cases hq), S'.2.2.2.2⟩
        · show (rsS0 G).WarmedH T'.vm
          rw [ev]; exact hW'
      · have hWT' : (rsS0 G).WarmedH T'.vm := by rw [ev]; exact hW'
        have hadm : e.platform.magicAccessors = ({} : Platform).magicAccessors := by rw [X'.admits.platform]
        obtain ⟨vm', hWv, hq⟩ := rs_search (G := G) (M := M) (k := k) (pc := pc) (hp := hp) (e := e) (s0 := s) (f := F0 m pc ls rest) (a := x) (cell := cell) hU hadm rfl (fun q => VmData.ne_statics_of hstat q)
          c.exceptionTable.toList ((T'.setTop (F0 m pc ls rest)).pushFrame (.throwing x)) (by rw [Stand.throwing_vm]; exact hWT') (by rw [Stand.throwing_vm, X'.warmed.alike.findClass]; exact Cx.2.2.2.1) (by rw [Stand.throwing_heap, eh]; exact hcell) (by rw [Stand.throwing_vm, ev]; exact hcls) (by rw [Cx.2.2.2.2.2.2.2.1]; exact htk)
        have hWv' : T'.WarmedH vm' := hWv
        have hWs : s.WarmedH vm' := State.WarmedH.trans X'.warmed hWv'
        obtain ⟨t2, a2, b2⟩ := kk x hU p e s m args below meth c T'.heap (locs ++ Lc) (cells + rm'.cells) (slots + rm'.slots) ls Cx S' (by omega) (by omega) hls (T'.setVm vm') rfl (X'.noted hWs)
        refine ⟨t2, hst.trans (rs_caught (vm' := vm') (pc := hp) X'.here ?_ a2), b2⟩
        intro Q1 E1 d1 acts1
        rw [W.findHandler_eq (meth := meth) (code := c) (by rw [Stand.throwing_vm]; exact X'.method') X'.code]
        exact hq Q1 E1 d1 acts1
/-- what a call asks of the tables: static, virtual on an object of class C, constructor -/
def rsCS (own : String) (index : Nat) (M' : rsM) : Prop := Cond.methodLink own index M'.1 ∈ rsTs ∧ Cond.static M'.1 ∈ rsTs ∧ Cond.initialized M'.1.cls ∈ rsTs ∧ rs_word M'.1 M'.2.1 M'.2.2.1 M'.2.2.2.1 M'.2.2.2.2 ∈ rsTs ∧ (M'.1.cls ≠ "java/lang/invoke/MethodHandle" ∧ M'.1.cls ≠ "java/lang/invoke/VarHandle")
def rsCV (own : String) (index : Nat) (ci : Nat) (M' : rsM) : Prop := ∃ (C : String) (T : u_T) (N : Nat), rsCl[ci]? = some (C, T, N) ∧ Cond.methodLink own index M'.1 ∈ rsTs ∧ Cond.instanceMethod M'.1 ∈ rsTs ∧ Cond.selects C M'.1 M'.1 ∈ rsTs ∧ Cond.initialized M'.1.cls ∈ rsTs ∧ rs_word M'.1 M'.2.1 M'.2.2.1 M'.2.2.2.1 M'.2.2.2.2 ∈ rsTs ∧ (M'.1.cls ≠ "java/lang/invoke/MethodHandle" ∧ M'.1.cls ≠ "java/lang/invoke/VarHandle")
def rsCI (own : String) (index : Nat) (M' : rsM) : Prop := M'.1.name = "<init>" ∧ M'.2.2.2.2 = [] ∧ M'.2.2.2.1 = none ∧ Cond.methodLink own index M'.1 ∈ rsTs ∧ Cond.instanceMethod M'.1 ∈ rsTs ∧ Cond.initialized M'.1.cls ∈ rsTs ∧ Cond.code M'.1 M'.2.1 M'.2.2.1 none ∈ rsTs ∧ (M'.1.cls ≠ "java/lang/invoke/MethodHandle" ∧ M'.1.cls ≠ "java/lang/invoke/VarHandle")
theorem rs_cS {index : Nat} {st : List Value} (hd : decode M.2.1 pc = .ok (.invokestatic index, 3)) (hp : pc + 3 = pc') (hC : rsCS M.1.cls index M') (hnp : (parseMethodDescriptor M'.1.desc).map (fun d => d.parameters.length) = some as.length)
    (hK : rsK G M' rm' as h n Q') (hR : rm'.frames + 1 ≤ rm.frames ∧ 8 + (M'.2.2.1 + 11) + rm'.locals ≤ rm.locals) (hk : kc' + rm'.cells ≤ kc ∧ ks' + rm'.slots ≤ ks) (hrest : (rest.map fun v => v.category).sum ≤ 8) (hst : st = as.reverse ++ rest)
    (kr : ∀ v h' n', Q' (.inl v) h' n' → rsV G M rm Q kc' ks' pc' L (v.toList ++ rest) h' n') (kt : ∀ k h' n', Q' (.inr k) h' n' → rsThr G M rm Q kc' ks' pc L k h' n') : rsV G M rm Q kc ks pc L st h n := by
  subst hp
  subst hst
  obtain ⟨w1, w2, w3, w4, hy⟩ := hC
  intro hU p e s m args below meth c H locs cells slots ls Cx S hc hs hls T hT X
  have hw : ∀ w ∈ rsTs, w.before args s = true := fun w hw => hU.1 w hw args s Cx.2.2.2.2.1
  obtain ⟨mk, methM, cM, hnamed, hmethM, -, -, -, -, -, -, hsigM⟩ := rs_is_of (hw _ w4)
  have hstatic : methM.isStatic = true := Cond.static_spec hnamed hmethM (hw _ w2)
  obtain ⟨kP, hkP, -⟩ := className_of_methodNamed hnamed
  have hinitP : kP.init = .initialized := Cond.initialized_spec (findClass_of_methodNamed hnamed) hkP (hw _ w3)
  rw [hsigM] at hnp
  obtain ⟨vm₁, X₁, hstep₁⟩ := X.invokestatic Cx.1 Cx.2.2.2.1 (hw _ w1) hnamed hmethM hstatic hkP hinitP hy (g := F0 m pc ls (as.reverse ++ rest)) rfl (argsL := as) (rest := rest) (Option.some.inj hnp).symm rfl (by rw [Cx.2.1]; exact hd)
  obtain ⟨t, a1, b1⟩ := rs_core (len := 3) hK w4 w3 hR hk.1 hk.2 hrest kr kt hU Cx S hc hs hls (T1 := T.setVm vm₁) hT X₁ hd (X₁.named hnamed)
  exact ⟨t, hstep₁ _ fun acts => by rw [doInvoke_state]; exact a1, b1⟩
theorem rs_cV {index ci b : Nat} {fs st : List Value} (hd : decode M.2.1 pc = .ok (.invokevirtual index, 3)) (hp : pc + 3 = pc') (hC : rsCV M.1.cls index ci M') (hnp : (parseMethodDescriptor M'.1.desc).map (fun d => d.parameters.length) = some as.length) (hb : h b = some (.inr (ci, fs)))
    (hK : rsK G M' rm' (.ref b :: as) h n Q') (hR : rm'.frames + 1 ≤ rm.frames ∧ 8 + (M'.2.2.1 + 11) + rm'.locals ≤ rm.locals) (hk : kc' + rm'.cells ≤ kc ∧ ks' + rm'.slots ≤ ks) (hrest : (rest.map fun v => v.category).sum ≤ 8) (hst : st = as.reverse ++ .ref b :: rest)
    (kr : ∀ v h' n', Q' (.inl v) h' n' → rsV G M rm Q kc' ks' pc' L (v.toList ++ rest) h' n') (kt : ∀ k h' n', Q' (.inr k) h' n' → rsThr G M rm Q kc' ks' pc L k h' n') : rsV G M rm Q kc ks pc L st h n := by
  subst hp
  subst hst
  obtain ⟨C, T0, N, hcl, w1, w2, w3, w5, w4, hy⟩ := hC
  intro hU p e s m args below meth c H locs cells slots ls Cx S hc hs hls T hT X
  have hw : ∀ w ∈ rsTs, w.before args s = true := fun w hw => hU.1 w hw args s Cx.2.2.2.2.1
  have hK' := va_K.moved Cx.2.2.2.2.1.alike hU.2.1
  obtain ⟨mk', methM', cM, hnamed', hmethM', -, -, -, -, -, -, hsigM⟩ := rs_is_of (hw _ w4)
  obtain ⟨mk, methM, hnamed, hmethM, hstM, habM⟩ := Cond.instanceMethod_spec (hw _ w2)
  obtain rfl : mk = mk' := Option.some.inj (hnamed.symm.trans hnamed')
  obtain rfl : methM = methM' := Option.some.inj (hmethM.symm.trans hmethM')
  obtain ⟨c2, r2, m2, q1, q2, q3, q4, kP, hkP, hkPi⟩ := Cond.selects_spec (hw _ w3)
  obtain ⟨cellB, hcB, hoB, hclB⟩ := va_recv (ws := [(b, .inr (ci, fs))]) (q0 := 0) hK' (rs_one (S.1 b _ hb)) hcl rfl
  cases hclB.symm.trans q1
  cases (State.methodFound?_of_named hnamed hy).symm.trans q2
  cases hnamed.symm.trans q3
  have hselP : selectMethod e.platform s.vm cellB.cls mk = .method mk := by rw [Launch.admits_selectMethod X.admits]; exact q4
  rw [hsigM] at hnp
  obtain ⟨vm₁, X₁, hstep₁⟩ := X.invokevirtual Cx.1 Cx.2.2.2.1 (hw _ w1) hnamed hmethM hstM hkP hkPi hy (a := b) (cell := cellB) (by rw [hT]; exact hcB)
    (fun z h => by rw [h] at hoB; cases hoB) hselP hmethM habM hkP hkPi (g := F0 m pc ls (as.reverse ++ .ref b :: rest)) rfl (argsL := as) (rest := rest) (Option.some.inj hnp).symm rfl (by rw [Cx.2.1]; exact hd)
  obtain ⟨t, a1, b1⟩ := rs_core (len := 3) hK w4 w5 hR hk.1 hk.2 hrest kr kt hU Cx S hc hs hls (T1 := T.setVm vm₁) hT X₁ hd (X₁.named hnamed)
  exact ⟨t, hstep₁ _ fun acts => by rw [doInvoke_state]; exact a1, b1⟩
theorem rs_cI {index b : Nat} {st : List Value} (hd : decode M.2.1 pc = .ok (.invokespecial index, 3)) (hp : pc + 3 = pc') (hC : rsCI M.1.cls index M') (hnp : (parseMethodDescriptor M'.1.desc).map (fun d => d.parameters.length) = some as.length)
    (hK : rsK G M' rm' (.ref b :: as) h n Q') (hR : rm'.frames + 1 ≤ rm.frames ∧ 8 + (M'.2.2.1 + 11) + rm'.locals ≤ rm.locals) (hk : kc' + rm'.cells ≤ kc ∧ ks' + rm'.slots ≤ ks) (hrest : (rest.map fun v => v.category).sum ≤ 8) (hst : st = as.reverse ++ .ref b :: rest)
    (kr : ∀ v h' n', Q' (.inl v) h' n' → rsV G M rm Q kc' ks' pc' L (v.toList ++ rest) h' n') (kt : ∀ k h' n', Q' (.inr k) h' n' → rsThr G M rm Q kc' ks' pc L k h' n') : rsV G M rm Q kc ks pc L st h n := by
  subst hp
  subst hst
  obtain ⟨hy1, hhh, hret, w1, w2, w3, w4, hy⟩ := hC
  have w5 : rs_word M'.1 M'.2.1 M'.2.2.1 M'.2.2.2.1 M'.2.2.2.2 ∈ rsTs := by rw [hhh, hret]; exact w4
  intro hU p e s m args below meth c H locs cells slots ls Cx S hc hs hls T hT X
  have hw : ∀ w ∈ rsTs, w.before args s = true := fun w hw => hU.1 w hw args s Cx.2.2.2.2.1
  obtain ⟨mk', methM', cM', hnamed', hmethM', -, -, -, -, -, -, hsigM⟩ := rs_is_of (hw _ w5)
  rw [hsigM] at hnp
  have hpl : e.platform.magicAccessors = ({} : Platform).magicAccessors := by rw [X.admits.platform]
  obtain ⟨mk, methM, cM, kP, vm₁, hnamed, hmethM, hcodeM, -, hlocalsM, -, hkP, -, hW₁, hstep₁⟩ := Steps.initColdArgs (e := e) X.here Cx.1 X.warmed hpl Cx.2.2.2.1 hy1 hy (hw _ w1) (hw _ w2) (hw _ w4) (f := F0 m pc ls (as.reverse ++ .ref b :: rest)) rfl (argsL := as) (rest := rest) (a := b) (fun sig hsig => by rw [hsigM] at hsig; cases hsig; exact (Option.some.inj hnp).symm) rfl (by rw [Cx.2.1]; exact hd)
  have X₁ := X.noted hW₁
  obtain ⟨t, a1, b1⟩ := rs_core (len := 3) hK w5 w3 hR hk.1 hk.2 hrest kr kt hU Cx S hc hs hls (T1 := T.setVm vm₁) hT X₁ hd (X₁.named hnamed)
  exact ⟨t, hstep₁ _ fun acts => by rw [doInvoke_state]; exact a1, b1⟩
end RSCC
