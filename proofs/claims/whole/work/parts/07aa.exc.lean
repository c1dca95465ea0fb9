/-! 06b: exceptions: what the start says, at every later state (written by gen_facts.py) -/
theorem rsX_tr {G : rsG} {e : Env} (hU : rsU G) (ha : (rsL G).admits e) : e.platform.stackTraces = false := Launch.traces_off hU.2.2.1 ha
theorem rsX_cls {G : rsG} {U : State} {k : Nat} (hU : rsU G) (hW : (rsS0 G).WarmedH U.vm) (hk : k < 4) : ∃ c, ClassAt U (rsEx k) c := by
  obtain ⟨c, hc⟩ := hU.2.2.2.1 k hk
  exact ⟨c, classAt_moved hW.alike hc⟩
theorem rsX_self {G : rsG} {U : State} {k : Nat} {cell : Cell} (hU : rsU G) (hW : (rsS0 G).WarmedH U.vm) (hc : U.vm.findClass (rsEx k) = some cell.cls) : U.vm.assignable cell.cls cell.cls = true := by
  by_cases hk : k < 4
  · obtain ⟨c, h1⟩ := rsX_cls hU hW hk
    have : c = cell.cls := Option.some.inj (h1.1.symm.trans hc)
    subst this
    exact va_assign h1
  · have e3 : rsEx k = rsEx 3 := by
      match k, hk with
      | 0, h => exact absurd (by decide) h
      | 1, h => exact absurd (by decide) h
      | 2, h => exact absurd (by decide) h
      | n + 3, _ => rfl
    rw [e3] at hc
    obtain ⟨c, h1⟩ := rsX_cls (k := 3) hU hW (by decide)
    have : c = cell.cls := Option.some.inj (h1.1.symm.trans hc)
    subst this
    exact va_assign h1
theorem rsX_no {G : rsG} {U : State} {k k' : Nat} {c c' : ClassId} (hU : rsU G) (hW : (rsS0 G).WarmedH U.vm) (hn : rsNo k k') (h1 : U.vm.findClass (rsEx k) = some c) (h2 : U.vm.findClass (rsEx k') = some c') : U.vm.assignable c c' = false := by
  obtain ⟨a, b, g1, g2, g3⟩ := va_Nc.moved hW.alike (hU.2.2.2.2.1 k k' hn)
  cases g1.symm.trans h1
  cases g2.symm.trans h2
  exact g3
theorem rsX_str {G : rsG} {U : State} {own tx : String} {i : Nat} (hU : rsU G) (hW : (rsS0 G).WarmedH U.vm) (h : (own, i, tx) ∈ rsStr) : ∃ a, vk_R own i tx a U := by
  obtain ⟨a, ha⟩ := hU.2.2.2.2.2.1 _ h
  exact ⟨a, vk_R.warm hW ha⟩
def rs_ix : Nat → Nat
  | 3 => 13
  | _ => 7
def rs_bs : Nat → ByteArray
  | 3 => prog_15_method_4_code
  | _ => Bundle.six
/-- every word that an exception's making wants, the caller's link apart -/
abbrev rs_at (own : String) (ic k : Nat) : List Cond := rs_atoms own ic (rsEx k) "java/lang/RuntimeException" ["java/lang/Exception"] (rs_ix k) (rs_bs k)
def rs_four : List Cond := [.isRef (.static Bundle.tN "UNASSIGNED_STACK" Bundle.steD), .isRef (.static Bundle.tN "SUPPRESSED_SENTINEL" Bundle.listD), .laysStatic Bundle.tN "UNASSIGNED_STACK" Bundle.steD, .laysStatic Bundle.tN "SUPPRESSED_SENTINEL" Bundle.listD]
theorem rs_own_0 : ∀ w ∈ rs_at "" 0 0, w ∈ rs_four ∨ w = .methodLink "" 0 (Bundle.initS (rsEx 0)) ∨ (w ∈ tables_1 ∧ rs_good w = true) := by decide +kernel
theorem rs_own_1 : ∀ w ∈ rs_at "" 0 1, w ∈ rs_four ∨ w = .methodLink "" 0 (Bundle.initS (rsEx 1)) ∨ (w ∈ tables_1 ∧ rs_good w = true) := by decide +kernel
theorem rs_own_2 : ∀ w ∈ rs_at "" 0 2, w ∈ rs_four ∨ w = .methodLink "" 0 (Bundle.initS (rsEx 2)) ∨ (w ∈ tables_1 ∧ rs_good w = true) := by decide +kernel
theorem rs_own_3 : ∀ w ∈ rs_at "" 0 3, w ∈ rs_four ∨ w = .methodLink "" 0 (Bundle.initS (rsEx 3)) ∨ (w ∈ tables_1 ∧ rs_good w = true) := by decide +kernel
theorem rs_own_in {k : Nat} (hk : k < 4) : ∀ w ∈ rs_at "" 0 k, w ∈ rs_four ∨ w = .methodLink "" 0 (Bundle.initS (rsEx k)) ∨ w ∈ rsTs := by
  have key : ∀ w : Cond, (w ∈ rs_four ∨ w = .methodLink "" 0 (Bundle.initS (rsEx k)) ∨ (w ∈ tables_1 ∧ rs_good w = true)) → w ∈ rs_four ∨ w = .methodLink "" 0 (Bundle.initS (rsEx k)) ∨ w ∈ rsTs := fun w h => by
    rcases h with h | h | ⟨h, g⟩
    · exact Or.inl h
    · exact Or.inr (Or.inl h)
    · exact Or.inr (Or.inr (rs_in (List.mem_append_right _ h) g))
  intro w hw
  match k, hk with
  | 0, _ => exact key w (rs_own_0 w hw)
  | 1, _ => exact key w (rs_own_1 w hw)
  | 2, _ => exact key w (rs_own_2 w hw)
  | 3, _ => exact key w (rs_own_3 w hw)
theorem rs_own_split {own : String} {ic k : Nat} {w : Cond} (hw : w ∈ rs_at own ic k) : w = .methodLink own ic (Bundle.initS (rsEx k)) ∨ w ∈ rs_four ∨ w ∈ rsTs ∨ ¬ k < 4 := by
  by_cases hk : k < 4
  · unfold rs_at rs_atoms at hw
    have key : w ∈ rs_at "" 0 k → w ≠ .methodLink "" 0 (Bundle.initS (rsEx k)) → w = .methodLink own ic (Bundle.initS (rsEx k)) ∨ w ∈ rs_four ∨ w ∈ rsTs ∨ ¬ k < 4 := fun h hn => by
      rcases rs_own_in hk w h with h | h | h
      · exact Or.inr (Or.inl h)
      · exact absurd h hn
      · exact Or.inr (Or.inr (Or.inl h))
    have nl : ∀ w ∈ Bundle.throwableAtoms ++ Bundle.throwableSAtoms ++ (Bundle.passSAtoms (rsEx k) "java/lang/RuntimeException" (rs_ix k) (rs_bs k) ++ Bundle.chainSAtoms "java/lang/RuntimeException" ["java/lang/Exception"]), w ≠ .methodLink "" 0 (Bundle.initS (rsEx k)) := by
      match k, hk with
      | 0, _ => exact (by decide +kernel)
      | 1, _ => exact (by decide +kernel)
      | 2, _ => exact (by decide +kernel)
      | 3, _ => exact (by decide +kernel)
    rcases List.mem_append.mp hw with h | h
    · exact key (List.mem_append_left _ h) (nl w h)
    · rcases List.mem_cons.mp h with h | h
      · exact Or.inl h
      · refine key (List.mem_append_right _ (List.mem_cons_of_mem _ h)) fun e => ?_
        subst e
        simp at h
  · exact Or.inr (Or.inr (Or.inr hk))
theorem rsX_own {G : rsG} {s : State} {args : Array Value} {own : String} {ic k : Nat} (hU : rsU G) (hW : (rsS0 G).WarmedH s.vm) (hold : ∀ q, q < rsB G → s.heap[q]? = (rsS0 G).heap[q]?) (hk : k < 4) (hl : Cond.methodLink own ic (Bundle.initS (rsEx k)) ∈ rsTs) : ∀ w ∈ rs_at own ic k, w.before args s = true := by
  intro w hw
  obtain ⟨-, -, -, -, x1, x2, x3, x4⟩ := hU.2.2
  rcases rs_own_split hw with rfl | h | h | h
  · exact hU.1 _ hl args s hW
  · simp only [rs_four, List.mem_cons, List.not_mem_nil, or_false] at h
    rcases h with rfl | rfl | rfl | rfl
    · exact rs_Z_at hW.alike rfl hold x3 args
    · exact rs_Z_at hW.alike rfl hold x4 args
    · exact rs_L_at hW.alike hold x1 args
    · exact rs_L_at hW.alike hold x2 args
  · exact hU.1 _ h args s hW
  · exact absurd hk h
