/-! 07b: new X("..") thrown: the method ends by the throw -/
theorem rs_S_exc {G : rsG} {h : rsH} {n : Nat} {H H1 : Heap} {locs : List Loc} {ce : Cell} (S : rsS G h n H locs) (z1 : H1.size = H.size + 1) (o1 : ∀ q, q < H.size → H1[q]? = H[q]?) (hvm : ce.vm = .none) : rsS G h (n + 1) (H1.setIfInBounds H.size ce) [] := by
  have hz := S.2.1
  have oq : ∀ q, q < H.size → (H1.setIfInBounds H.size ce)[q]? = H[q]? := fun q hq => by rw [Array.getElem?_setIfInBounds_ne (by omega)]; exact o1 q hq
  refine ⟨fun a x hx => (S.1 a x hx).kept (oq a (S.1 a x hx).lt), by rw [Array.size_setIfInBounds, z1, hz]; omega, fun q hq => ?_, fun q hq => (by cases hq), S.2.2.2.2.1, fun q cell hq hcell => ?_⟩
  · rw [oq q (by omega)]; exact S.2.2.1 q hq
  · by_cases h1 : q < H.size
    · rw [oq q h1] at hcell; exact S.2.2.2.2.2 q cell hq hcell
    · have h2 : q < (H1.setIfInBounds H.size ce).size := (Array.getElem?_eq_some_iff.mp hcell).1
      rw [Array.size_setIfInBounds] at h2
      have h3 : q = H.size := by omega
      subst h3
      rw [Array.getElem?_setIfInBounds_self_of_lt (by omega)] at hcell
      cases hcell
      rw [hvm]; rfl
theorem rs_bs_0 (k : Nat) : decode (rs_bs k) 0 = .ok (.aload_n 0, 1) := by
  unfold rs_bs; split <;> decide +kernel
theorem rs_bs_1 (k : Nat) : decode (rs_bs k) 1 = .ok (.aload_n 1, 1) := by
  unfold rs_bs; split <;> decide +kernel
theorem rs_bs_2 (k : Nat) : decode (rs_bs k) 2 = .ok (.invokespecial (rs_ix k), 3) := by
  unfold rs_bs rs_ix; split <;> decide +kernel
theorem rs_bs_5 (k : Nat) : decode (rs_bs k) 5 = .ok (.return_, 1) := by
  unfold rs_bs; split <;> decide +kernel
section RSTH
variable {G : rsG} {M : rsM} {rm : Room} {Q : rsR → rsH → Nat → Prop} {kc ks pc : Nat} {L : List (Option Value)} {st : List Value} {h : rsH} {n : Nat}
theorem rs_throw {k index is ic : Nat} {tx : String} (hd0 : decode M.2.1 pc = .ok (.new index, 3)) (hd3 : decode M.2.1 (pc + 3) = .ok (.dup, 1)) (hd4 : decode M.2.1 (pc + 3 + 1) = .ok (.ldc is, 2)) (hd6 : decode M.2.1 (pc + 3 + 1 + 2) = .ok (.invokespecial ic, 3)) (hd9 : decode M.2.1 (pc + 3 + 1 + 2 + 3) = .ok (.athrow, 1))
    (hk4 : k < 4) (hw1 : Cond.classLink M.1.cls index (rsEx k) ∈ rsTs) (hw2 : Cond.instantiable (rsEx k) 6 ∈ rsTs) (hw3 : Cond.initialized (rsEx k) ∈ rsTs) (hwl : Cond.methodLink M.1.cls ic (Bundle.initS (rsEx k)) ∈ rsTs) (hstr : (M.1.cls, is, tx) ∈ rsStr)
    (hout : M.2.2.2.2 = []) (hst : (st.map fun v => v.category).sum ≤ 8) (hkc : 1 ≤ kc) (hks : 6 ≤ ks) (hfr : 6 ≤ rm.frames) (hlo : 90 ≤ rm.locals) (hq : Q (.inr k) h (n + 1)) : rsV G M rm Q kc ks pc L st h n := by
  intro hU p e s m args below meth c H locs cells slots ls Cx S hc hs hls
  have hw : ∀ w ∈ rsTs, w.before args s = true := fun w hw => hU.1 w hw args s Cx.2.2.2.2.1
  intro T0 hT0 X0
  have hsz : s.heap.size ≤ H.size := by
    have h1 : s.heap.size ≤ T0.heap.size := X0.same.2.1
    rw [hT0] at h1; exact h1
  refine (?_ : W p (rsL G) e rm s m args below meth c H locs cells slots _ (F0 m pc ls st)) T0 hT0 X0
  clear X0 hT0
  obtain ⟨cC, kC, hfc, hkC, -⟩ := Cond.instantiable_spec (hw _ hw2)
  obtain ⟨q, hR⟩ := rsX_str hU Cx.2.2.2.2.1 hstr
  refine W.newcK Cx.1 Cx.2.1 Cx.2.2.2.1 (hw _ hw1) (hw _ hw2) (hw _ hw3) rfl hd0 (by omega) (by omega) hfc rfl fun H1 kC' hkC' e1 z1 o1 => ?_
  refine lv_dup Cx.1 Cx.2.1 hd3 rfl ?_
  refine va_ldcS Cx.1 Cx.2.1 Cx.2.2.2.1 hR hd4 ?_
  intro T hT X
  have X := stand_widen X (k := rm.cells) (n := rm.slots) (by omega) (by omega)
  have hex : c.exceptionTable.toList = [] := by
    have h1 := Cx.2.2.2.2.2.2.2.1
    rw [hout] at h1
    exact List.map_eq_nil_iff.mp h1
  obtain ⟨vm', ce, hcls, hvm, hsteps, hrun, hended, hWv, hsame⟩ := rs_ctorThrow X Cx.1 (rsX_tr hU X.admits) (own := M.1.cls) (cls := rsEx k) (Yn := "java/lang/RuntimeException") (names := ["java/lang/Exception"]) (ic := ic) (ix := rs_ix k) (bs := rs_bs k) Cx.2.2.2.1 (rsEx_fit hk4) (by decide +kernel) (by decide +kernel) (rs_bs_0 k) (rs_bs_1 k) (rs_bs_2 k) (rs_bs_5 k)
    (rsX_own hU Cx.2.2.2.2.1 Cx.2.2.2.2.2.2.2.2.2.1 hk4 hwl) (fun x hx cell hcell => Cx.2.2.2.2.2.2.2.2.2.2.2 _ cell (S.2.2.2.1 x hx) hcell) hfc hkC' (by rw [hT]; exact e1) hsz (msg := .ref q) rfl (g := F0 m (pc + 3 + 1 + 2) ls (.ref q :: .ref H.size :: .ref H.size :: st)) rfl (by rw [Cx.2.2.1]; exact hls.1) rfl rfl (rest := st) rfl
    (by rw [Cx.2.1]; exact hd6) (by rw [Cx.2.1]; exact hd9) (by rw [hex]; intro x hx; cases hx) (by show 1 + 4 < rm.frames; omega) (by show 2 * 0 + (1 + (st.map fun v => v.category).sum) + (13 * (1 + 2) + 42) ≤ rm.locals; omega) Cx.2.2.2.2.2.2.1
  have hheap : (((T.setVm vm').setCell H.size ce).setFrames (.throwing H.size :: below)).heap = H1.setIfInBounds H.size ce := by
    show T.heap.setIfInBounds H.size ce = _
    rw [hT]
  have hWv0 : (rsS0 G).WarmedH vm' := State.WarmedH.trans Cx.2.2.2.2.1 hWv
  refine ⟨_, hsteps, .threw H.size, hrun, hended, ⟨.inr k, h, n + 1, hq, ⟨H.size, ce, rfl, ?_, by rw [hvm]; rfl, ?_⟩, ?_, hWv0⟩, locs, ⟨Or.inr ⟨_, rfl⟩, hWv, hsame⟩, S.2.2.2.1⟩
  · rw [hheap, Array.getElem?_setIfInBounds_self_of_lt (by omega)]
  · show vm'.findClass _ = _
    rw [hWv.alike.findClass, hcls]; exact hfc
  · rw [hheap]
    exact rs_S_exc S z1 o1 hvm
end RSTH
