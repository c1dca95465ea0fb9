/-! THE CLAIM OUT OF ONE WALK OF THE LAW'S BODY. Your part is whole_start (and what it stands on); all else here is the same for every law, but numbers. -/
def R_law : String := "RunStoreLaw"
def lw_P (b : Addr) (xs : List Int32) (args : Array Value) (s : State) : Prop := args = #[.ref b] ∧ s.IntsAt b xs ∧ xs.length ≤ 1536 ∧ (Jvm.Cond.and given_1 narrow_1).before args s = true
def lw_Q (_ : Array Value) (s : State) (o : Outcome) (t : State) : Prop := o = .returned (some (.int 1)) ∧ Framed s o t [] 601024 7293034
def lw_Z (below : List Frame) (a : Array Value) (s : State) : State → Prop := fun t => ∃ o, t.status = .running ∧ Ended t below o ∧ lw_Q a s o t
/-- what holds at the law's entry: the machine, the code, the tables' words (any of lw_tbl by 'hts w (by decide +kernel)'), the script of L ints xs at the cell b, what the Statement gives of the start (any of its parts by flat_of_before) -/
def lw_At (p : Program) (s : State) (m : MethodId) (meth : Method) (c : Code) (b L : Nat) (xs : Nat → Int32) : Prop :=
  p.tables.exec = Jvm.exec ∧ c.code = code ∧ meth.sig.returnType = ret ∧ c.maxLocals = 7 ∧ s.vm.findClass R_law = some m.cls ∧ (∀ w ∈ lw_tbl, w.before #[Value.ref b] s = true) ∧ va_X b L xs s s.heap ∧ b < s.heap.size ∧ meth.locks = false ∧ c.exceptionTable.toList = [] ∧ meth.name = x.name ∧ (Jvm.Cond.and given_1 narrow_1).before #[Value.ref b] s = true
theorem rs_nots : ∀ k k', k < 4 → k' < 4 → k ≠ k' → Cond.not (.castable (rsEx k) (rsEx k')) ∈ flatC (Jvm.Cond.and given_1 narrow_1) := by
  intro k k' h1 h2 h3
  match k, k', h1, h2, h3 with
  | 0, 0, _, _, h => exact absurd rfl h
  | 0, 1, _, _, _ => exact (by decide +kernel)
  | 0, 2, _, _, _ => exact (by decide +kernel)
  | 0, 3, _, _, _ => exact (by decide +kernel)
  | 1, 0, _, _, _ => exact (by decide +kernel)
  | 1, 1, _, _, h => exact absurd rfl h
  | 1, 2, _, _, _ => exact (by decide +kernel)
  | 1, 3, _, _, _ => exact (by decide +kernel)
  | 2, 0, _, _, _ => exact (by decide +kernel)
  | 2, 1, _, _, _ => exact (by decide +kernel)
  | 2, 2, _, _, h => exact absurd rfl h
  | 2, 3, _, _, _ => exact (by decide +kernel)
  | 3, 0, _, _, _ => exact (by decide +kernel)
  | 3, 1, _, _, _ => exact (by decide +kernel)
  | 3, 2, _, _, _ => exact (by decide +kernel)
  | 3, 3, _, _, h => exact absurd rfl h
theorem rs_strs : ∀ q ∈ rsStr, Cond.stringRef q.1 q.2.1 q.2.2 ∈ tables_1 := by decide +kernel
theorem rs_strO : ∀ q ∈ rsStr, q.1 = "RunStore" := by decide +kernel
/-- what the words say of the start -/
theorem rs_U0 {l : Launch} {s : State} {b : Nat} (hfl : l.flags = flags0) (hts : ∀ w ∈ lw_tbl, w.before #[Value.ref b] s = true) (hgv : (Jvm.Cond.and given_1 narrow_1).before #[Value.ref b] s = true) : ∃ (D : va_G) (cI cJ cE : ClassId), rsU (l, s, D, cI, cJ, cE) := by
  have hT : ∀ w ∈ rsTs, w.before #[Value.ref b] s = true := fun w hw => hts w (List.mem_filter.mp hw).1
  have hB : ∀ w ∈ tables_1, w.before #[Value.ref b] s = true := fun w hw => hts w (List.mem_append_right _ hw)
  have hs := flat_of_before _ hgv
  obtain ⟨c0, i0, k0⟩ := u_known hT rsU_0 (hB (Cond.instantiable "RunStore" 5) (List.mem_of_getElem? (i := 15) (by decide +kernel)))
  obtain ⟨c1, i1, k1⟩ := u_known hT rsU_1 (hB (Cond.instantiable "RunStore$Entries" 3) (List.mem_of_getElem? (i := 23) (by decide +kernel)))
  obtain ⟨c2, i2, k2⟩ := u_known hT rsU_2 (hB (Cond.instantiable "RunStore$Disk" 3) (List.mem_of_getElem? (i := 40) (by decide +kernel)))
  obtain ⟨c3, i3, k3⟩ := u_known hT rsU_3 (hB (Cond.instantiable "RunStoreModel" 9) (List.mem_of_getElem? (i := 515) (by decide +kernel)))
  obtain ⟨cI, kI, pI, I1, I2, I3⟩ := Cond.arrayClass_spec (hT _ t_arrI)
  obtain ⟨cJ, kJ, pJ, J1, J2, J3⟩ := Cond.arrayClass_spec (hT _ t_arrL)
  obtain ⟨pE, cE, kE, E1, -, E2, E3, E4⟩ := Cond.arrayOver_spec (hT _ t_arrE)
  refine ⟨(fun k => match k with | 0 => c0 | 1 => c1 | 2 => c2 | _ => c3, fun k => match k with | 0 => i0 | 1 => i1 | 2 => i2 | _ => i3), cI, cJ, cE, fun w hw a U hW => rs_good_at hW (List.mem_filter.mp hw).2 (hT w hw), ⟨fun k q hq => ?_, fun k q hq => ?_⟩, hfl, fun k hk => ?_, fun k k' hn => va_Nc.of (hs _ (rs_nots k k' hn.1 hn.2.1 hn.2.2)), fun q hq => ?_, ?_, ?_, ?_, ?_⟩
  · match k, hq with
    | 0, hq => cases hq; exact k0
    | 1, hq => cases hq; exact k1
    | 2, hq => cases hq; exact k2
    | 3, hq => cases hq; exact k3
    | n + 4, hq => cases hq
  · match k, hq with
    | 0, hq => cases hq; exact ⟨fun N z => ⟨(fun k h => by cases h), kI, I2, pI, I3⟩, I1⟩
    | 1, hq => cases hq; exact ⟨fun N z => ⟨(fun k h => by cases h), kJ, J2, pJ, J3⟩, J1⟩
    | 2, hq => cases hq; exact ⟨fun N z => ⟨(fun k h => by cases h), kE, E2, pE, E3⟩, kE, pE, E2, E3, E1, E4⟩
    | n + 3, hq => cases hq
  · have hins : Cond.instantiable (rsEx k) 6 ∈ rsTs := by
      match k, hk with
      | 0, _ => exact t_ins0
      | 1, _ => exact t_ins1
      | 2, _ => exact t_ins2
      | 3, _ => exact t_ins3
    obtain ⟨cC, kC, hfc, hk, hkind, -⟩ := Cond.instantiable_spec (hT _ hins)
    exact ⟨cC, hfc, kC, hk, hkind⟩
  · have h1 := hB _ (rs_strs q hq)
    obtain ⟨o, i, tx⟩ := q
    have ho : o = "RunStore" := rs_strO _ hq
    subst ho
    obtain ⟨k, cf, i', a, -, -, -, -, -, he⟩ := Cond.stringRef_spec k0.2.1 h1
    exact ⟨a, vk_R.of h1 he⟩
  · obtain ⟨c, k, i, f, a, cell, g1, g2, g3, g4, g5, g6, g7, g8, g9⟩ := Cond.laysStatic_spec (hB (Cond.laysStatic Bundle.tN "UNASSIGNED_STACK" Bundle.steD) (by decide +kernel))
    exact ⟨c, k, i, f, a, cell, g1, g2, g3, g4, g5, g6, g7, g8, g9, (Array.getElem?_eq_some_iff.mp g5).1⟩
  · obtain ⟨c, k, i, f, a, cell, g1, g2, g3, g4, g5, g6, g7, g8, g9⟩ := Cond.laysStatic_spec (hB (Cond.laysStatic Bundle.tN "SUPPRESSED_SENTINEL" Bundle.listD) (by decide +kernel))
    exact ⟨c, k, i, f, a, cell, g1, g2, g3, g4, g5, g6, g7, g8, g9, (Array.getElem?_eq_some_iff.mp g5).1⟩
  · exact va_Zqof (hB (Cond.laysStatic Bundle.tN "UNASSIGNED_STACK" Bundle.steD) (by decide +kernel)) (hB (Cond.initialized Bundle.tN) (by decide +kernel)) (hs _ (by decide +kernel)) (fun a ha => Nat.not_le.mpr ha)
  · exact va_Zqof (hB (Cond.laysStatic Bundle.tN "SUPPRESSED_SENTINEL" Bundle.listD) (by decide +kernel)) (hB (Cond.initialized Bundle.tN) (by decide +kernel)) (hs _ (by decide +kernel)) (fun a ha => Nat.not_le.mpr ha)
/-- from the entry, for every script of at most 1536 ints, the law comes to its end with true -/
theorem whole_start {p : Program} {e : Env} {s : State} {m : MethodId} {below : List Frame} {meth : Method} {c : Code} (l : Launch) (hfl : l.flags = flags0) {b L : Nat} {xs : Nat → Int32} (hL : L ≤ 1536) (C0 : lw_At p s m meth c b L xs) : W p l e room_1 s m #[Value.ref b] below meth c s.heap [] 0 0 (lw_Z below #[Value.ref b] s) (entryFrame m ([Value.ref b] : List Value).toArray 7) := by
  obtain ⟨hx, hb, hr, hml, hown, hts, hX, hbl, hlocks, hex, hnm, hgv⟩ := C0
  obtain ⟨D, cI, cJ, cE, hU⟩ := rs_U0 hfl hts hgv
  rw [lg_entry_eq]
  have hc : ∀ v ∈ ([Value.ref b] : List Value), v.category = 1 := fun v hv => by
    rw [List.mem_singleton.mp hv]; rfl
  have hlen := rs_sl [Value.ref b] hc
  have hlh := lv_entry [Value.ref b] (n := 7) (by rw [hlen]; exact Nat.le_of_ble_eq_true rfl)
  have hnone : ∀ (q : Nat) (cell : Cell), s.heap.size ≤ q → s.heap[q]? = some cell → cell.vm.isStatics = false := fun q cell hq h => absurd (Array.getElem?_eq_some_iff.mp h).1 (Nat.not_lt.mpr hq)
  have key := law_start (G := (l, s, D, cI, cJ, cE)) (Q := fun q _ _ => q = .inl (some (.int 1))) hX hbl hL (fun _ _ => rfl) hU p e s m #[Value.ref b] below meth c s.heap [] 0 0 ((lg_sl [Value.ref b] ++ List.replicate (7 - (lg_sl [Value.ref b]).length) Slot.unset).toArray)
    ⟨hx, hb, hml, hown, State.WarmedH.refl s, hr, hlocks, (by rw [hex]; rfl), hnm, fun q _ => rfl, Nat.le_refl _, hnone⟩ ⟨fun a e h => (by cases h), rfl, fun q _ => rfl, fun q hq => (by cases hq), fun a e h => (by cases h), hnone⟩ (by decide) (by decide) ⟨hlh.1, hlh.2.1, fun i v hi => ?_⟩
  · refine rs_mono (fun t ht => ?_) key
    obtain ⟨o, hrun, hended, ⟨r, h', n', hq, hO, -, -⟩, Lc, ⟨-, hWd, h1, h2, h3, h4, h5, h6⟩, hfree⟩ := ht
    subst hq
    have ho : o = .returned (some (.int 1)) := hO
    subst ho
    refine ⟨_, hrun, hended, rfl, ⟨_, rfl⟩, hWd, h1, h2, h3, h4, h5, fun a cl hcl => ?_⟩
    obtain ⟨c', g1, g2, g3, g4⟩ := h6 a cl hcl
    refine ⟨c', g1, g2, g3, fun i _ => g4 i (fun hmem => ?_)⟩
    have hf : s.heap.size ≤ a := hfree _ hmem
    exact absurd (Array.getElem?_eq_some_iff.mp hcl).1 (Nat.not_lt.mpr hf)
  · match i, hi with
    | 0, hi =>
      cases hi
      have := hlh.2.2 _ (rs_args [Value.ref b] 0 hc 0 _ rfl)
      exact ⟨this, rfl⟩
    | 1, hi => cases hi
    | 2, hi => cases hi
    | 3, hi => cases hi
    | 4, hi => cases hi
    | 5, hi => cases hi
    | 6, hi => cases hi
    | n + 7, hi => cases hi
set_option maxHeartbeats 4000000 in
theorem lw_walk (l : Launch) (hfl : l.flags = flags0) (b : Addr) (xs : List Int32) : MetFree l x (headSpec (Jvm.Cond.code x code maxLocals ret :: tables_1) room_1) (lw_P b xs) (fun _ _ _ _ _ => True) lw_Q := by
  refine MetFree.of_bodyS (code := code) (maxLocals := maxLocals) (ret := ret) (by decide) ?_ ?_
  · intro args s m h hn
    obtain ⟨meth, c, h1, h2, h3, h4, h5, h6, -, -⟩ := Cond.code_spec hn (atoms_spec (ws := Jvm.Cond.code x code maxLocals ret :: tables_1) h _ List.mem_cons_self)
    exact ⟨meth, c, h1, h2, h3, h4, h5, h6⟩
  · intro p e s m args below meth c s₁ B hml0 hP _
    obtain ⟨rfl, hx, hbd, hgv⟩ := hP
    obtain ⟨scr, harrAt, hlist, hof, hsmall⟩ := hx
    obtain ⟨hcb, hkn, -, -⟩ := State.arrayAt?_spec harrAt
    have hown : s.vm.findClass R_law = some m.cls := findClass_of_methodNamed B.named
    have hts0 : ∀ c ∈ (Jvm.Cond.code x code maxLocals ret :: tables_1), c.before #[Value.ref b] s = true := atoms_spec (ws := Jvm.Cond.code x code maxLocals ret :: tables_1) B.pre
    have hts : ∀ w ∈ lw_tbl, w.before #[Value.ref b] s = true := k2_hts_sels lw_privs (fun w hw => hts0 w (List.mem_cons_of_mem _ hw)) lw_privs_ok
    have hml : c.maxLocals = 7 := B.maxLocals_eq (hts0 _ List.mem_cons_self)
    have X₀ : Stand p l e room_1 s m #[Value.ref b] below meth c s₁ [] 0 0 := Stand.of_body B
    have hh0 : s₁.heap = s.heap := by rw [B.state]; rfl
    have hsz : scr.slots.size = xs.length := by rw [← Array.length_toList, hlist, List.length_map]
    have hval : ∀ j : Nat, j < xs.length → scr.slots[j]? = some (.int (xs.getD j 0)) := fun j hj => by
      rw [← Array.getElem?_toList, hlist]
      simp [hj]
    have hbl : b < s.heap.size := (Array.getElem?_eq_some_iff.mp hcb).1
    have hX : va_X b xs.length (fun j => xs.getD j 0) s s.heap := ⟨scr, hcb, hof, hkn, hsz, hval⟩
    have K : W p l e room_1 s m #[Value.ref b] below meth c s₁.heap [] 0 0 (lw_Z below #[Value.ref b] s) (entryFrame m ([Value.ref b] : List Value).toArray 7) := by
      rw [hh0]
      obtain ⟨meth', c', w1, w2, -, -, -, -, w7, -⟩ := Cond.code_spec B.named (hts0 _ List.mem_cons_self)
      cases B.method.symm.trans w1
      cases X₀.code.symm.trans w2
      exact whole_start l hfl hbd ⟨B.exec, B.bytes, B.returns, hml, hown, hts, hX, hbl, B.notSynchronized, by simpa using w7, (name_of_methodNamed B.named B.method).1, hgv⟩
    obtain ⟨t, a1, o, b1, b2, b3⟩ := K s₁ rfl X₀
    exact ⟨t, o, a1, b1, b2, b3⟩
theorem lw_pre_spec {args : Array Value} {s : State} (h : (Jvm.Cond.and given_1 narrow_1).before args s = true) (hr : rest_1_c.before args s = true) : ∃ (b : Addr) (xs : List Int32), lw_P b xs args s := by
  have hs := flat_of_before _ h
  have hq := flat_of_before _ hr
  have hc : (Cond.count 1).before args s = true := hs _ (by decide +kernel)
  have harr : (Cond.arrayOf (.arg 0) .int).before args s = true := hs _ (by decide +kernel)
  have hle : (Cond.le (.length (.arg 0)) (.int 1536)).before args s = true := hs _ (by decide +kernel)
  have hlen : (Cond.isInt (.length (.arg 0))).before args s = true := hq _ (by decide +kernel)
  have hall : (Cond.all (.arg 0) (.isInt (.elem (.arg 0) (.index 0)))).before args s = true := hq _ (by decide +kernel)
  obtain ⟨b, xs, hb, hx⟩ := State.ints_of_pre rfl harr hlen hall
  have hsm : xs.length < 2 ^ 31 := hx.choose_spec.2.2.2
  have hev : (Term.length (.arg 0)).eval args s none [] s = some (.int xs.length.toInt32) := hx.length_eval hb
  have hv := Cond.le_ints hev (show (Term.int 1536).eval args s none [] s = some (.int 1536) from rfl)
  have hd : xs.length.toInt32 ≤ 1536 := by
    simpa [Cond.before, Cond.holds, hv] using hle
  have hN : xs.length ≤ 1536 := (Int32.ofNat_le_ofNat hsm (by decide)).mp (show Int32.ofNat xs.length ≤ Int32.ofNat 1536 from hd)
  exact ⟨b, xs, Cond.one_arg hc (show args[0]? = some (.ref b) from hb), hx, hN, h⟩
theorem lw_comes (l : Launch) (hfl : l.flags = flags0) : Comes l x (Jvm.Cond.code x code maxLocals ret :: tables_1) room_1 (fun tb e args s => Calls_1 tb e args s ∧ rest_1 tb e args s ∧ Pre_1 tb e args s)
    (fun _ _ args s o t => lw_Q args s o t) := by
  intro p e ha hc hk s m args below hf hfit hheap happ hpre
  obtain ⟨b, xs, hP⟩ := lw_pre_spec hpre.2.2 hpre.2.1
  obtain ⟨k, o, h1, h2, h3, hQ⟩ := lw_walk l hfl b xs p e ha hc hk s m args below hf ((Spec.applies_iff_loose hf).mp happ).1 hP trivial
  exact ⟨k, o, h1, h2, h3, hQ⟩
theorem lw_frame {s t : State} {o : Outcome} {args : Array Value} (h : Framed s o t [] 601024 7293034) :
    Framed s o t (fieldLocs frame_1_writes args s ++ arrayLocs frame_1_arrays args s ++ staticLocs frame_1_statics s) 601024 7293034 := h
theorem lw_limb (L : Cond) (hL : ∀ (args : Array Value) (s t : State), L.after args s (.returned (some (.int 1))) t = true) :
    ArmFor flags0 classFile x code maxLocals ret World_1 tables_1 room_1 Calls_1 rest_1 Pre_1
      (fun tb e a s o t => postC L tb e a s o t ∧ Framed s o t (fieldLocs frame_1_writes a s ++ arrayLocs frame_1_arrays a s ++ staticLocs frame_1_statics s) 601024 7293034) := by
  intro l hfl _ _ p e ha hc hk s m args below hf hfit hheap happ hpre
  obtain ⟨k, o, h1, h2, h3, rfl, hF⟩ := lw_comes l hfl p e ha hc hk s m args below hf hfit hheap happ hpre
  exact ⟨k, _, h1, h2, h3, hL args s _, lw_frame hF⟩
theorem i_vc : Claimed_1_1 ∧ Claimed_1_2 := ⟨lw_limb limb_1_1 (fun args s t => by simp [limb_1_1, Cond.after, Cond.holds, Cond.value]), lw_limb limb_1_2 (fun args s t => Cond.after_iff.mpr (by
  first | (rw [show limb_1_2 = Cond.eq .result (.int 1) from rfl, Cond.eq_ints (x := 1) (y := 1) rfl rfl]; simp; done) | (simp [limb_1_2, Cond.value, Term.eval]; done)))⟩
