/-! 02: the classes of the world, the words that are used, what is known of exceptions and texts (written by gen_words.py) -/
def rsF0 : u_T := fun k => match k with
  | 0 => ("RunStore", "gathered", "LRunStore$Entries;", true)
  | 1 => ("RunStore", "disk", "LRunStore$Disk;", true)
  | 2 => ("RunStore", "up", "Z", false)
  | 3 => ("RunStore", "writesLeft", "I", false)
  | _ => ("RunStore", "cursor", "I", false)
def rsY0 : Nat → FieldType := fun k => match k with
  | 0 => .object "RunStore$Entries"
  | 1 => .object "RunStore$Disk"
  | 2 => .boolean
  | 3 => .int
  | _ => .int
theorem rsY0_ok : ∀ k, k < 5 → parseFieldDescriptor (rsF0 k).2.2.1 = some (rsY0 k) := by decide +kernel
theorem rsF0_nm : ∀ a, a < 5 → ∀ b, b < 5 → a ≠ b → (rsF0 a).2.1 ≠ (rsF0 b).2.1 := by decide +kernel
def rsF1 : u_T := fun k => match k with
  | 0 => ("RunStore$Entries", "kinds", "[I", true)
  | 1 => ("RunStore$Entries", "values", "[I", true)
  | _ => ("RunStore$Entries", "count", "I", false)
def rsY1 : Nat → FieldType := fun k => match k with
  | 0 => .array .int
  | 1 => .array .int
  | _ => .int
theorem rsY1_ok : ∀ k, k < 3 → parseFieldDescriptor (rsF1 k).2.2.1 = some (rsY1 k) := by decide +kernel
theorem rsF1_nm : ∀ a, a < 3 → ∀ b, b < 3 → a ≠ b → (rsF1 a).2.1 ≠ (rsF1 b).2.1 := by decide +kernel
def rsF2 : u_T := fun k => match k with
  | 0 => ("RunStore$Disk", "places", "[LRunStore$Entries;", true)
  | 1 => ("RunStore$Disk", "runsOfLevel", "[I", true)
  | _ => ("RunStore$Disk", "made", "Z", false)
def rsY2 : Nat → FieldType := fun k => match k with
  | 0 => .array (.object "RunStore$Entries")
  | 1 => .array .int
  | _ => .boolean
theorem rsY2_ok : ∀ k, k < 3 → parseFieldDescriptor (rsF2 k).2.2.1 = some (rsY2 k) := by decide +kernel
theorem rsF2_nm : ∀ a, a < 3 → ∀ b, b < 3 → a ≠ b → (rsF2 a).2.1 ≠ (rsF2 b).2.1 := by decide +kernel
def rsF3 : u_T := fun k => match k with
  | 0 => ("RunStoreModel", "thrown", "I", false)
  | 1 => ("RunStoreModel", "made", "Z", false)
  | 2 => ("RunStoreModel", "isUp", "Z", false)
  | 3 => ("RunStoreModel", "bound", "I", false)
  | 4 => ("RunStoreModel", "many", "I", false)
  | 5 => ("RunStoreModel", "levels", "[I", true)
  | 6 => ("RunStoreModel", "sort", "[I", true)
  | 7 => ("RunStoreModel", "values", "[I", true)
  | _ => ("RunStoreModel", "at", "I", false)
def rsY3 : Nat → FieldType := fun k => match k with
  | 0 => .int
  | 1 => .boolean
  | 2 => .boolean
  | 3 => .int
  | 4 => .int
  | 5 => .array .int
  | 6 => .array .int
  | 7 => .array .int
  | _ => .int
theorem rsY3_ok : ∀ k, k < 9 → parseFieldDescriptor (rsF3 k).2.2.1 = some (rsY3 k) := by decide +kernel
theorem rsF3_nm : ∀ a, a < 9 → ∀ b, b < 9 → a ≠ b → (rsF3 a).2.1 ≠ (rsF3 b).2.1 := by decide +kernel
abbrev rsCl : List vw_C := [("RunStore", rsF0, 5), ("RunStore$Entries", rsF1, 3), ("RunStore$Disk", rsF2, 3), ("RunStoreModel", rsF3, 9)]
theorem rsCl_1 : rsCl[1]? = some ("RunStore$Entries", rsF1, 3) := rfl
def rsEx : Nat → String
  | 0 => "java/lang/IllegalArgumentException"
  | 1 => "java/lang/IllegalStateException"
  | 2 => "java/lang/UnsupportedOperationException"
  | _ => "java/util/NoSuchElementException"
/-- words that stay true under warmer tables -/
def rs_good : Cond → Bool
  | .arrayOver (.object _) => true
  | .castable _ _ => true
  | .declares _ => true
  | w => goodWord w
def rsTs : List Cond := lw_tbl.filter rs_good
theorem rs_in {w : Cond} (h : w ∈ lw_tbl) (g : rs_good w = true) : w ∈ rsTs := List.mem_filter.mpr ⟨h, g⟩
theorem rs_t {w : Cond} (i : Nat) (h : tables_1[i]? = some w) (g : rs_good w = true) : w ∈ rsTs := rs_in (List.mem_append_right _ (List.mem_of_getElem? h)) g
theorem rs_s {q : MethodName × Nat} (i : Nat) (h : lw_privs[i]? = some q) : Cond.selects q.1.cls q.1 q.1 ∈ rsTs := rs_in (List.mem_append_left _ (List.mem_map.mpr ⟨q, List.mem_of_getElem? h, rfl⟩)) rfl
theorem rs_good_at {args a' : Array Value} {s U : State} {w : Cond} (hW : s.WarmedH U.vm) (hg : rs_good w = true) (h : w.before args s = true) : w.before a' U = true := by
  by_cases h1 : goodWord w = true
  · exact word_at hW (good_of_word h1) h
  · cases w with
    | arrayOver t =>
      cases t with
      | object C => exact va_AO.use (va_AO.moved hW.alike (va_AO.of h))
      | _ => exact absurd hg h1
    | castable C T => exact va_Nw.use rfl (va_Nw.warmC hW (va_tabs rfl rfl h))
    | declares x => exact va_Nw.use rfl (va_Nw.warmD hW (va_tabs rfl rfl h))
    | _ => exact absurd hg h1
def rsStr : List (String × Nat × String) := [("RunStore", 145, "the store went down"), ("RunStore", 46, "the store is up"), ("RunStore", 137, "the disk was never made"), ("RunStore", 127, "a key is 0 .. 99"), ("RunStore", 131, "the store is down"), ("RunStore", 156, "there is no room"), ("RunStore", 83, "the key is not there"), ("RunStore", 129, "a level is 0 .. 2"), ("RunStore", 104, "a limit is -1 .. 1000"), ("RunStore", 110, "there is no cursor"), ("RunStore", 118, "there is no such run")]
/-- a static field of the JDK's: its class's statics cell lies below b, and holds a reference or null -/
def rs_L (C n d : String) (b : Nat) (U : State) (H : Heap) : Prop := ∃ (c : ClassId) (k : Class) (i : Nat) (f : Field) (a : Nat) (cell : Cell), U.vm.findClass C = some c ∧ U.fieldFound? C n d = some (c, k, i, f) ∧ f.isStatic = true ∧ k.statics = some a ∧ H[a]? = some cell ∧ cell.vm.isStatics = true ∧ cell.cls = c ∧ f.slot < cell.slots.size ∧ k.staticTypes[f.slot]? = some f.type ∧ a < b
theorem rs_L_at {C n d : String} {b : Nat} {s U : State} (hvm : s.vm.Alike U.vm) (hold : ∀ q, q < b → U.heap[q]? = s.heap[q]?) (h : rs_L C n d b s s.heap) (args : Array Value) : (Cond.laysStatic C n d).before args U = true := by
  obtain ⟨c, k, i, f, a, cell, h1, h2, h3, h4, h5, h6, h7, h8, h9, h10⟩ := h
  obtain ⟨k', hi', he⟩ := State.fieldFound?_setVm hvm h2
  show (Cond.laysStatic C n d).holds args U none U [] = true
  exact Cond.laysStatic_of (by rw [hvm.findClass]; exact h1) hi' h3 (by rw [he]; exact h4) (by rw [hold a h10]; exact h5) h6 h7 h8 (by rw [he]; exact h9)
theorem rs_Z_at {C n d : String} {b : Nat} {s U : State} (hvm : s.vm.Alike U.vm) (hb : s.heap.size = b) (hold : ∀ q, q < b → U.heap[q]? = s.heap[q]?) (h : va_Zq C n d (fun q => b ≤ q) s s.heap) (args : Array Value) : (Cond.isRef (.static C n d)).before args U = true := by
  have h2 := va_Zq.moved hvm (h.kept (H1 := U.heap) (fun a h1 _ => hold a (by rw [← hb]; exact h1)))
  have key : ∀ v : Value, v.isRef = true → va_Z C n d v (fun q => b ≤ q) U U.heap → (Cond.isRef (.static C n d)).before args U = true := by
    intro v hv hz
    obtain ⟨cf, kf, fi, f, a, cell, h1, h2, h3, h4, h5, h6, h7, -⟩ := hz
    have he : (Term.static C n d).eval args U none [] U = some v := by
      simp [Term.eval, State.fieldNamed?, h1, h2, h4, h5, h6, h7]
    simp only [Cond.before, Cond.holds, Cond.value, he]
    cases v <;> simp_all [Value.isRef]
  rcases h2 with h2 | ⟨t, h2⟩
  · exact key _ rfl h2
  · exact key _ rfl h2
def rsNo (k k' : Nat) : Prop := k < 4 ∧ k' < 4 ∧ k ≠ k'
/-- what is known of the start beside the words: the launch, the exceptions' classes, the texts, Throwable's statics -/
def rsX (l : Launch) (s : State) : Prop := l.flags = pinnedFlags ++ [noTraceFlag] ∧ (∀ k, k < 4 → ∃ c, ClassAt s (rsEx k) c) ∧ (∀ k k', rsNo k k' → va_Nc (rsEx k) (rsEx k') s) ∧ (∀ q ∈ rsStr, ∃ a, vk_R q.1 q.2.1 q.2.2 a s) ∧
  rs_L Bundle.tN "UNASSIGNED_STACK" Bundle.steD s.heap.size s s.heap ∧ rs_L Bundle.tN "SUPPRESSED_SENTINEL" Bundle.listD s.heap.size s s.heap ∧
  va_Zq Bundle.tN "UNASSIGNED_STACK" Bundle.steD (fun q => s.heap.size ≤ q) s s.heap ∧ va_Zq Bundle.tN "SUPPRESSED_SENTINEL" Bundle.listD (fun q => s.heap.size ≤ q) s s.heap
theorem rsEx_fit {k : Nat} (h : k < 4) : Bundle.fit (rsEx k) = true := by
  match k, h with
  | 0, _ => exact (by decide +kernel)
  | 1, _ => exact (by decide +kernel)
  | 2, _ => exact (by decide +kernel)
  | 3, _ => exact (by decide +kernel)
