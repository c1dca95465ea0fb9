section
/-! 01: the tables' words (the skeleton's PART A) -/
/-- a private method of a class that the tables say can be made, by its rows of tables_1 -/
def lw_okq (q : MethodName × Nat) : Prop := (q.1.cls ≠ "java/lang/invoke/MethodHandle" ∧ q.1.cls ≠ "java/lang/invoke/VarHandle") ∧ Cond.instantiable q.1.cls q.2 ∈ tables_1 ∧ Cond.privateMethod q.1 ∈ tables_1 ∧ Cond.instanceMethod q.1 ∈ tables_1
theorem lw_p0 : lw_okq (⟨"RunStore", "valueOrZero", "(I)I"⟩, 5) := ⟨⟨by decide +kernel, by decide +kernel⟩, List.mem_of_getElem? (i := 15) (by decide +kernel), List.mem_of_getElem? (i := 87) (by decide +kernel), List.mem_of_getElem? (i := 88) (by decide +kernel)⟩
theorem lw_p1 : lw_okq (⟨"RunStore", "newestWith", "(I)LRunStore$Entries;"⟩, 5) := ⟨⟨by decide +kernel, by decide +kernel⟩, List.mem_of_getElem? (i := 15) (by decide +kernel), List.mem_of_getElem? (i := 91) (by decide +kernel), List.mem_of_getElem? (i := 92) (by decide +kernel)⟩
theorem lw_p2 : lw_okq (⟨"RunStore$Disk", "firstPlaceOf", "(I)I"⟩, 3) := ⟨⟨by decide +kernel, by decide +kernel⟩, List.mem_of_getElem? (i := 40) (by decide +kernel), List.mem_of_getElem? (i := 107) (by decide +kernel), List.mem_of_getElem? (i := 108) (by decide +kernel)⟩
theorem lw_p3 : lw_okq (⟨"RunStore", "spendWrites", "(I)V"⟩, 5) := ⟨⟨by decide +kernel, by decide +kernel⟩, List.mem_of_getElem? (i := 15) (by decide +kernel), List.mem_of_getElem? (i := 132) (by decide +kernel), List.mem_of_getElem? (i := 133) (by decide +kernel)⟩
theorem lw_p4 : lw_okq (⟨"RunStore", "goDown", "()V"⟩, 5) := ⟨⟨by decide +kernel, by decide +kernel⟩, List.mem_of_getElem? (i := 15) (by decide +kernel), List.mem_of_getElem? (i := 136) (by decide +kernel), List.mem_of_getElem? (i := 137) (by decide +kernel)⟩
theorem lw_p5 : lw_okq (⟨"java/lang/Throwable", "fillInStackTrace", "(I)Ljava/lang/Throwable;"⟩, 6) := ⟨⟨by decide +kernel, by decide +kernel⟩, List.mem_of_getElem? (i := 186) (by decide +kernel), List.mem_of_getElem? (i := 184) (by decide +kernel), List.mem_of_getElem? (i := 185) (by decide +kernel)⟩
theorem lw_p6 : lw_okq (⟨"RunStore", "comeUp", "()V"⟩, 5) := ⟨⟨by decide +kernel, by decide +kernel⟩, List.mem_of_getElem? (i := 15) (by decide +kernel), List.mem_of_getElem? (i := 221) (by decide +kernel), List.mem_of_getElem? (i := 222) (by decide +kernel)⟩
theorem lw_p7 : lw_okq (⟨"RunStore", "requireDisk", "()V"⟩, 5) := ⟨⟨by decide +kernel, by decide +kernel⟩, List.mem_of_getElem? (i := 15) (by decide +kernel), List.mem_of_getElem? (i := 233) (by decide +kernel), List.mem_of_getElem? (i := 234) (by decide +kernel)⟩
theorem lw_p8 : lw_okq (⟨"RunStore", "requireUp", "()V"⟩, 5) := ⟨⟨by decide +kernel, by decide +kernel⟩, List.mem_of_getElem? (i := 15) (by decide +kernel), List.mem_of_getElem? (i := 271) (by decide +kernel), List.mem_of_getElem? (i := 272) (by decide +kernel)⟩
theorem lw_p9 : lw_okq (⟨"RunStore", "makePlaceInMemory", "(I)V"⟩, 5) := ⟨⟨by decide +kernel, by decide +kernel⟩, List.mem_of_getElem? (i := 15) (by decide +kernel), List.mem_of_getElem? (i := 276) (by decide +kernel), List.mem_of_getElem? (i := 277) (by decide +kernel)⟩
theorem lw_p10 : lw_okq (⟨"RunStore", "flushMemory", "()I"⟩, 5) := ⟨⟨by decide +kernel, by decide +kernel⟩, List.mem_of_getElem? (i := 15) (by decide +kernel), List.mem_of_getElem? (i := 280) (by decide +kernel), List.mem_of_getElem? (i := 281) (by decide +kernel)⟩
theorem lw_p11 : lw_okq (⟨"RunStore$Entries", "setEntry", "(III)V"⟩, 3) := ⟨⟨by decide +kernel, by decide +kernel⟩, List.mem_of_getElem? (i := 23) (by decide +kernel), List.mem_of_getElem? (i := 298) (by decide +kernel), List.mem_of_getElem? (i := 299) (by decide +kernel)⟩
theorem lw_p12 : lw_okq (⟨"RunStore", "writeDraft", "(Z)V"⟩, 5) := ⟨⟨by decide +kernel, by decide +kernel⟩, List.mem_of_getElem? (i := 15) (by decide +kernel), List.mem_of_getElem? (i := 302) (by decide +kernel), List.mem_of_getElem? (i := 303) (by decide +kernel)⟩
theorem lw_p13 : lw_okq (⟨"RunStore$Disk", "moveDraftTo", "(I)V"⟩, 3) := ⟨⟨by decide +kernel, by decide +kernel⟩, List.mem_of_getElem? (i := 40) (by decide +kernel), List.mem_of_getElem? (i := 336) (by decide +kernel), List.mem_of_getElem? (i := 337) (by decide +kernel)⟩
theorem lw_p14 : lw_okq (⟨"RunStore", "isThere", "(I)Z"⟩, 5) := ⟨⟨by decide +kernel, by decide +kernel⟩, List.mem_of_getElem? (i := 15) (by decide +kernel), List.mem_of_getElem? (i := 351) (by decide +kernel), List.mem_of_getElem? (i := 352) (by decide +kernel)⟩
theorem lw_p15 : lw_okq (⟨"RunStore", "leastLevelToCompact", "()I"⟩, 5) := ⟨⟨by decide +kernel, by decide +kernel⟩, List.mem_of_getElem? (i := 15) (by decide +kernel), List.mem_of_getElem? (i := 408) (by decide +kernel), List.mem_of_getElem? (i := 409) (by decide +kernel)⟩
def lw_privs_1 : List (MethodName × Nat) := [(⟨"RunStore", "valueOrZero", "(I)I"⟩, 5), (⟨"RunStore", "newestWith", "(I)LRunStore$Entries;"⟩, 5), (⟨"RunStore$Disk", "firstPlaceOf", "(I)I"⟩, 3), (⟨"RunStore", "spendWrites", "(I)V"⟩, 5), (⟨"RunStore", "goDown", "()V"⟩, 5), (⟨"java/lang/Throwable", "fillInStackTrace", "(I)Ljava/lang/Throwable;"⟩, 6), (⟨"RunStore", "comeUp", "()V"⟩, 5), (⟨"RunStore", "requireDisk", "()V"⟩, 5), (⟨"RunStore", "requireUp", "()V"⟩, 5), (⟨"RunStore", "makePlaceInMemory", "(I)V"⟩, 5), (⟨"RunStore", "flushMemory", "()I"⟩, 5), (⟨"RunStore$Entries", "setEntry", "(III)V"⟩, 3), (⟨"RunStore", "writeDraft", "(Z)V"⟩, 5), (⟨"RunStore$Disk", "moveDraftTo", "(I)V"⟩, 3), (⟨"RunStore", "isThere", "(I)Z"⟩, 5), (⟨"RunStore", "leastLevelToCompact", "()I"⟩, 5)]
theorem lw_r1 : ∀ q ∈ lw_privs_1, lw_okq q := List.forall_mem_cons.mpr ⟨lw_p0, List.forall_mem_cons.mpr ⟨lw_p1, List.forall_mem_cons.mpr ⟨lw_p2, List.forall_mem_cons.mpr ⟨lw_p3, List.forall_mem_cons.mpr ⟨lw_p4, List.forall_mem_cons.mpr ⟨lw_p5, List.forall_mem_cons.mpr ⟨lw_p6, List.forall_mem_cons.mpr ⟨lw_p7, List.forall_mem_cons.mpr ⟨lw_p8, List.forall_mem_cons.mpr ⟨lw_p9, List.forall_mem_cons.mpr ⟨lw_p10, List.forall_mem_cons.mpr ⟨lw_p11, List.forall_mem_cons.mpr ⟨lw_p12, List.forall_mem_cons.mpr ⟨lw_p13, List.forall_mem_cons.mpr ⟨lw_p14, List.forall_mem_cons.mpr ⟨lw_p15, fun _ h => absurd h List.not_mem_nil⟩⟩⟩⟩⟩⟩⟩⟩⟩⟩⟩⟩⟩⟩⟩⟩
theorem lw_p16 : lw_okq (⟨"RunStore", "mergeLevel", "(I)I"⟩, 5) := ⟨⟨by decide +kernel, by decide +kernel⟩, List.mem_of_getElem? (i := 15) (by decide +kernel), List.mem_of_getElem? (i := 416) (by decide +kernel), List.mem_of_getElem? (i := 417) (by decide +kernel)⟩
theorem lw_p17 : lw_okq (⟨"RunStore$Disk", "moveToDraft", "(I)V"⟩, 3) := ⟨⟨by decide +kernel, by decide +kernel⟩, List.mem_of_getElem? (i := 40) (by decide +kernel), List.mem_of_getElem? (i := 440) (by decide +kernel), List.mem_of_getElem? (i := 441) (by decide +kernel)⟩
theorem lw_p18 : lw_okq (⟨"RunStore", "leastKeyThere", "(I)I"⟩, 5) := ⟨⟨by decide +kernel, by decide +kernel⟩, List.mem_of_getElem? (i := 15) (by decide +kernel), List.mem_of_getElem? (i := 473) (by decide +kernel), List.mem_of_getElem? (i := 474) (by decide +kernel)⟩
theorem lw_p19 : lw_okq (⟨"RunStoreModel", "writes", "(I)Z"⟩, 9) := ⟨⟨by decide +kernel, by decide +kernel⟩, List.mem_of_getElem? (i := 515) (by decide +kernel), List.mem_of_getElem? (i := 557) (by decide +kernel), List.mem_of_getElem? (i := 558) (by decide +kernel)⟩
theorem lw_p20 : lw_okq (⟨"RunStoreModel", "goDown", "()V"⟩, 9) := ⟨⟨by decide +kernel, by decide +kernel⟩, List.mem_of_getElem? (i := 515) (by decide +kernel), List.mem_of_getElem? (i := 561) (by decide +kernel), List.mem_of_getElem? (i := 562) (by decide +kernel)⟩
theorem lw_p21 : lw_okq (⟨"RunStoreModel", "clearRow", "(I)V"⟩, 9) := ⟨⟨by decide +kernel, by decide +kernel⟩, List.mem_of_getElem? (i := 515) (by decide +kernel), List.mem_of_getElem? (i := 565) (by decide +kernel), List.mem_of_getElem? (i := 566) (by decide +kernel)⟩
theorem lw_p22 : lw_okq (⟨"RunStoreModel", "enter", "(III)V"⟩, 9) := ⟨⟨by decide +kernel, by decide +kernel⟩, List.mem_of_getElem? (i := 515) (by decide +kernel), List.mem_of_getElem? (i := 577) (by decide +kernel), List.mem_of_getElem? (i := 578) (by decide +kernel)⟩
theorem lw_p23 : lw_okq (⟨"RunStoreModel", "sizeOf", "(I)I"⟩, 9) := ⟨⟨by decide +kernel, by decide +kernel⟩, List.mem_of_getElem? (i := 515) (by decide +kernel), List.mem_of_getElem? (i := 584) (by decide +kernel), List.mem_of_getElem? (i := 585) (by decide +kernel)⟩
theorem lw_p24 : lw_okq (⟨"RunStoreModel", "flushed", "()I"⟩, 9) := ⟨⟨by decide +kernel, by decide +kernel⟩, List.mem_of_getElem? (i := 515) (by decide +kernel), List.mem_of_getElem? (i := 588) (by decide +kernel), List.mem_of_getElem? (i := 589) (by decide +kernel)⟩
theorem lw_p25 : lw_okq (⟨"RunStoreModel", "freeBlocks", "()I"⟩, 9) := ⟨⟨by decide +kernel, by decide +kernel⟩, List.mem_of_getElem? (i := 515) (by decide +kernel), List.mem_of_getElem? (i := 595) (by decide +kernel), List.mem_of_getElem? (i := 596) (by decide +kernel)⟩
theorem lw_p26 : lw_okq (⟨"RunStoreModel", "copyRow", "(II)V"⟩, 9) := ⟨⟨by decide +kernel, by decide +kernel⟩, List.mem_of_getElem? (i := 515) (by decide +kernel), List.mem_of_getElem? (i := 599) (by decide +kernel), List.mem_of_getElem? (i := 600) (by decide +kernel)⟩
theorem lw_p27 : lw_okq (⟨"RunStoreModel", "insert", "(II)V"⟩, 9) := ⟨⟨by decide +kernel, by decide +kernel⟩, List.mem_of_getElem? (i := 515) (by decide +kernel), List.mem_of_getElem? (i := 603) (by decide +kernel), List.mem_of_getElem? (i := 604) (by decide +kernel)⟩
theorem lw_p28 : lw_okq (⟨"RunStoreModel", "isThere", "(I)Z"⟩, 9) := ⟨⟨by decide +kernel, by decide +kernel⟩, List.mem_of_getElem? (i := 515) (by decide +kernel), List.mem_of_getElem? (i := 611) (by decide +kernel), List.mem_of_getElem? (i := 612) (by decide +kernel)⟩
theorem lw_p29 : lw_okq (⟨"RunStoreModel", "newest", "(I)I"⟩, 9) := ⟨⟨by decide +kernel, by decide +kernel⟩, List.mem_of_getElem? (i := 515) (by decide +kernel), List.mem_of_getElem? (i := 615) (by decide +kernel), List.mem_of_getElem? (i := 616) (by decide +kernel)⟩
theorem lw_p30 : lw_okq (⟨"RunStoreModel", "runsOf", "(I)I"⟩, 9) := ⟨⟨by decide +kernel, by decide +kernel⟩, List.mem_of_getElem? (i := 515) (by decide +kernel), List.mem_of_getElem? (i := 635) (by decide +kernel), List.mem_of_getElem? (i := 636) (by decide +kernel)⟩
theorem lw_p31 : lw_okq (⟨"RunStoreModel", "merged", "(I)I"⟩, 9) := ⟨⟨by decide +kernel, by decide +kernel⟩, List.mem_of_getElem? (i := 515) (by decide +kernel), List.mem_of_getElem? (i := 639) (by decide +kernel), List.mem_of_getElem? (i := 640) (by decide +kernel)⟩
def lw_privs_2 : List (MethodName × Nat) := [(⟨"RunStore", "mergeLevel", "(I)I"⟩, 5), (⟨"RunStore$Disk", "moveToDraft", "(I)V"⟩, 3), (⟨"RunStore", "leastKeyThere", "(I)I"⟩, 5), (⟨"RunStoreModel", "writes", "(I)Z"⟩, 9), (⟨"RunStoreModel", "goDown", "()V"⟩, 9), (⟨"RunStoreModel", "clearRow", "(I)V"⟩, 9), (⟨"RunStoreModel", "enter", "(III)V"⟩, 9), (⟨"RunStoreModel", "sizeOf", "(I)I"⟩, 9), (⟨"RunStoreModel", "flushed", "()I"⟩, 9), (⟨"RunStoreModel", "freeBlocks", "()I"⟩, 9), (⟨"RunStoreModel", "copyRow", "(II)V"⟩, 9), (⟨"RunStoreModel", "insert", "(II)V"⟩, 9), (⟨"RunStoreModel", "isThere", "(I)Z"⟩, 9), (⟨"RunStoreModel", "newest", "(I)I"⟩, 9), (⟨"RunStoreModel", "runsOf", "(I)I"⟩, 9), (⟨"RunStoreModel", "merged", "(I)I"⟩, 9)]
theorem lw_r2 : ∀ q ∈ lw_privs_2, lw_okq q := List.forall_mem_cons.mpr ⟨lw_p16, List.forall_mem_cons.mpr ⟨lw_p17, List.forall_mem_cons.mpr ⟨lw_p18, List.forall_mem_cons.mpr ⟨lw_p19, List.forall_mem_cons.mpr ⟨lw_p20, List.forall_mem_cons.mpr ⟨lw_p21, List.forall_mem_cons.mpr ⟨lw_p22, List.forall_mem_cons.mpr ⟨lw_p23, List.forall_mem_cons.mpr ⟨lw_p24, List.forall_mem_cons.mpr ⟨lw_p25, List.forall_mem_cons.mpr ⟨lw_p26, List.forall_mem_cons.mpr ⟨lw_p27, List.forall_mem_cons.mpr ⟨lw_p28, List.forall_mem_cons.mpr ⟨lw_p29, List.forall_mem_cons.mpr ⟨lw_p30, List.forall_mem_cons.mpr ⟨lw_p31, fun _ h => absurd h List.not_mem_nil⟩⟩⟩⟩⟩⟩⟩⟩⟩⟩⟩⟩⟩⟩⟩⟩
theorem lw_p32 : lw_okq (⟨"RunStoreModel", "begin", "(I)I"⟩, 9) := ⟨⟨by decide +kernel, by decide +kernel⟩, List.mem_of_getElem? (i := 515) (by decide +kernel), List.mem_of_getElem? (i := 643) (by decide +kernel), List.mem_of_getElem? (i := 644) (by decide +kernel)⟩
theorem lw_p33 : lw_okq (⟨"RunStoreModel", "takeOut", "(I)V"⟩, 9) := ⟨⟨by decide +kernel, by decide +kernel⟩, List.mem_of_getElem? (i := 515) (by decide +kernel), List.mem_of_getElem? (i := 647) (by decide +kernel), List.mem_of_getElem? (i := 648) (by decide +kernel)⟩
theorem lw_p34 : lw_okq (⟨"RunStoreModel", "goTo", "(I)Z"⟩, 9) := ⟨⟨by decide +kernel, by decide +kernel⟩, List.mem_of_getElem? (i := 515) (by decide +kernel), List.mem_of_getElem? (i := 670) (by decide +kernel), List.mem_of_getElem? (i := 671) (by decide +kernel)⟩
def lw_privs_3 : List (MethodName × Nat) := [(⟨"RunStoreModel", "begin", "(I)I"⟩, 9), (⟨"RunStoreModel", "takeOut", "(I)V"⟩, 9), (⟨"RunStoreModel", "goTo", "(I)Z"⟩, 9)]
theorem lw_r3 : ∀ q ∈ lw_privs_3, lw_okq q := List.forall_mem_cons.mpr ⟨lw_p32, List.forall_mem_cons.mpr ⟨lw_p33, List.forall_mem_cons.mpr ⟨lw_p34, fun _ h => absurd h List.not_mem_nil⟩⟩⟩
def lw_privs : List (MethodName × Nat) := lw_privs_1 ++ (lw_privs_2 ++ (lw_privs_3))
def lw_tbl : List Cond := k2_sels lw_privs ++ tables_1
theorem lw_privs_ok : ∀ q ∈ lw_privs, lw_okq q := by
  show ∀ q ∈ lw_privs_1 ++ (lw_privs_2 ++ (lw_privs_3)), lw_okq q
  exact List.forall_mem_append.mpr ⟨lw_r1, List.forall_mem_append.mpr ⟨lw_r2, lw_r3⟩⟩
end
section
/-! 02: the classes of the world, the words that are used, what is known of exceptions and texts (written by gen_words.py) -/
def rsF0 : u_T := fun k => match k with
  | 0 => ("RunStore", "gathered", "LRunStore$Entries;", true)
  | 1 => ("RunStore", "disk", "LRunStore$Disk;", true)
  | 2 => ("RunStore", "up", "Z", false)
  | 3 => ("RunStore", "writesLeft", "I", false)
  | _ => ("RunStore", "cursor", "I", false)
def rsY0 : Nat → FieldType := fun k => match k with
  | 0 => .object "RunStore$Entries"
  | 1 => .object "RunStore$Disk"
  | 2 => .boolean
  | 3 => .int
  | _ => .int
theorem rsY0_ok : ∀ k, k < 5 → parseFieldDescriptor (rsF0 k).2.2.1 = some (rsY0 k) := by decide +kernel
theorem rsF0_nm : ∀ a, a < 5 → ∀ b, b < 5 → a ≠ b → (rsF0 a).2.1 ≠ (rsF0 b).2.1 := by decide +kernel
def rsF1 : u_T := fun k => match k with
  | 0 => ("RunStore$Entries", "kinds", "[I", true)
  | 1 => ("RunStore$Entries", "values", "[I", true)
  | _ => ("RunStore$Entries", "count", "I", false)
def rsY1 : Nat → FieldType := fun k => match k with
  | 0 => .array .int
  | 1 => .array .int
  | _ => .int
theorem rsY1_ok : ∀ k, k < 3 → parseFieldDescriptor (rsF1 k).2.2.1 = some (rsY1 k) := by decide +kernel
theorem rsF1_nm : ∀ a, a < 3 → ∀ b, b < 3 → a ≠ b → (rsF1 a).2.1 ≠ (rsF1 b).2.1 := by decide +kernel
def rsF2 : u_T := fun k => match k with
  | 0 => ("RunStore$Disk", "places", "[LRunStore$Entries;", true)
  | 1 => ("RunStore$Disk", "runsOfLevel", "[I", true)
  | _ => ("RunStore$Disk", "made", "Z", false)
def rsY2 : Nat → FieldType := fun k => match k with
  | 0 => .array (.object "RunStore$Entries")
  | 1 => .array .int
  | _ => .boolean
theorem rsY2_ok : ∀ k, k < 3 → parseFieldDescriptor (rsF2 k).2.2.1 = some (rsY2 k) := by decide +kernel
theorem rsF2_nm : ∀ a, a < 3 → ∀ b, b < 3 → a ≠ b → (rsF2 a).2.1 ≠ (rsF2 b).2.1 := by decide +kernel
def rsF3 : u_T := fun k => match k with
  | 0 => ("RunStoreModel", "thrown", "I", false)
  | 1 => ("RunStoreModel", "made", "Z", false)
  | 2 => ("RunStoreModel", "isUp", "Z", false)
  | 3 => ("RunStoreModel", "bound", "I", false)
  | 4 => ("RunStoreModel", "many", "I", false)
  | 5 => ("RunStoreModel", "levels", "[I", true)
  | 6 => ("RunStoreModel", "sort", "[I", true)
  | 7 => ("RunStoreModel", "values", "[I", true)
  | _ => ("RunStoreModel", "at", "I", false)
def rsY3 : Nat → FieldType := fun k => match k with
  | 0 => .int
  | 1 => .boolean
  | 2 => .boolean
  | 3 => .int
  | 4 => .int
  | 5 => .array .int
  | 6 => .array .int
  | 7 => .array .int
  | _ => .int
theorem rsY3_ok : ∀ k, k < 9 → parseFieldDescriptor (rsF3 k).2.2.1 = some (rsY3 k) := by decide +kernel
theorem rsF3_nm : ∀ a, a < 9 → ∀ b, b < 9 → a ≠ b → (rsF3 a).2.1 ≠ (rsF3 b).2.1 := by decide +kernel
abbrev rsCl : List vw_C := [("RunStore", rsF0, 5), ("RunStore$Entries", rsF1, 3), ("RunStore$Disk", rsF2, 3), ("RunStoreModel", rsF3, 9)]
theorem rsCl_1 : rsCl[1]? = some ("RunStore$Entries", rsF1, 3) := rfl
def rsEx : Nat → String
  | 0 => "java/lang/IllegalArgumentException"
  | 1 => "java/lang/IllegalStateException"
  | 2 => "java/lang/UnsupportedOperationException"
  | _ => "java/util/NoSuchElementException"
/-- words that stay true under warmer tables -/
def rs_good : Cond → Bool
  | .arrayOver (.object _) => true
  | .castable _ _ => true
  | .declares _ => true
  | w => goodWord w
def rsTs : List Cond := lw_tbl.filter rs_good
theorem rs_in {w : Cond} (h : w ∈ lw_tbl) (g : rs_good w = true) : w ∈ rsTs := List.mem_filter.mpr ⟨h, g⟩
theorem rs_t {w : Cond} (i : Nat) (h : tables_1[i]? = some w) (g : rs_good w = true) : w ∈ rsTs := rs_in (List.mem_append_right _ (List.mem_of_getElem? h)) g
theorem rs_s {q : MethodName × Nat} (i : Nat) (h : lw_privs[i]? = some q) : Cond.selects q.1.cls q.1 q.1 ∈ rsTs := rs_in (List.mem_append_left _ (List.mem_map.mpr ⟨q, List.mem_of_getElem? h, rfl⟩)) rfl
theorem rs_good_at {args a' : Array Value} {s U : State} {w : Cond} (hW : s.WarmedH U.vm) (hg : rs_good w = true) (h : w.before args s = true) : w.before a' U = true := by
  by_cases h1 : goodWord w = true
  · exact word_at hW (good_of_word h1) h
  · cases w with
    | arrayOver t =>
      cases t with
      | object C => exact va_AO.use (va_AO.moved hW.alike (va_AO.of h))
      | _ => exact absurd hg h1
    | castable C T => exact va_Nw.use rfl (va_Nw.warmC hW (va_tabs rfl rfl h))
    | declares x => exact va_Nw.use rfl (va_Nw.warmD hW (va_tabs rfl rfl h))
    | _ => exact absurd hg h1
def rsStr : List (String × Nat × String) := [("RunStore", 145, "the store went down"), ("RunStore", 46, "the store is up"), ("RunStore", 137, "the disk was never made"), ("RunStore", 127, "a key is 0 .. 99"), ("RunStore", 131, "the store is down"), ("RunStore", 156, "there is no room"), ("RunStore", 83, "the key is not there"), ("RunStore", 129, "a level is 0 .. 2"), ("RunStore", 104, "a limit is -1 .. 1000"), ("RunStore", 110, "there is no cursor"), ("RunStore", 118, "there is no such run")]
/-- a static field of the JDK's: its class's statics cell lies below b, and holds a reference or null -/
def rs_L (C n d : String) (b : Nat) (U : State) (H : Heap) : Prop := ∃ (c : ClassId) (k : Class) (i : Nat) (f : Field) (a : Nat) (cell : Cell), U.vm.findClass C = some c ∧ U.fieldFound? C n d = some (c, k, i, f) ∧ f.isStatic = true ∧ k.statics = some a ∧ H[a]? = some cell ∧ cell.vm.isStatics = true ∧ cell.cls = c ∧ f.slot < cell.slots.size ∧ k.staticTypes[f.slot]? = some f.type ∧ a < b
theorem rs_L_at {C n d : String} {b : Nat} {s U : State} (hvm : s.vm.Alike U.vm) (hold : ∀ q, q < b → U.heap[q]? = s.heap[q]?) (h : rs_L C n d b s s.heap) (args : Array Value) : (Cond.laysStatic C n d).before args U = true := by
  obtain ⟨c, k, i, f, a, cell, h1, h2, h3, h4, h5, h6, h7, h8, h9, h10⟩ := h
  obtain ⟨k', hi', he⟩ := State.fieldFound?_setVm hvm h2
  show (Cond.laysStatic C n d).holds args U none U [] = true
  exact Cond.laysStatic_of (by rw [hvm.findClass]; exact h1) hi' h3 (by rw [he]; exact h4) (by rw [hold a h10]; exact h5) h6 h7 h8 (by rw [he]; exact h9)
theorem rs_Z_at {C n d : String} {b : Nat} {s U : State} (hvm : s.vm.Alike U.vm) (hb : s.heap.size = b) (hold : ∀ q, q < b → U.heap[q]? = s.heap[q]?) (h : va_Zq C n d (fun q => b ≤ q) s s.heap) (args : Array Value) : (Cond.isRef (.static C n d)).before args U = true := by
  have h2 := va_Zq.moved hvm (h.kept (H1 := U.heap) (fun a h1 _ => hold a (by rw [← hb]; exact h1)))
  have key : ∀ v : Value, v.isRef = true → va_Z C n d v (fun q => b ≤ q) U U.heap → (Cond.isRef (.static C n d)).before args U = true := by
    intro v hv hz
    obtain ⟨cf, kf, fi, f, a, cell, h1, h2, h3, h4, h5, h6, h7, -⟩ := hz
    have he : (Term.static C n d).eval args U none [] U = some v := by
      simp [Term.eval, State.fieldNamed?, h1, h2, h4, h5, h6, h7]
    simp only [Cond.before, Cond.holds, Cond.value, he]
    cases v <;> simp_all [Value.isRef]
  rcases h2 with h2 | ⟨t, h2⟩
  · exact key _ rfl h2
  · exact key _ rfl h2
def rsNo (k k' : Nat) : Prop := k < 4 ∧ k' < 4 ∧ k ≠ k'
/-- what is known of the start beside the words: the launch, the exceptions' classes, the texts, Throwable's statics -/
def rsX (l : Launch) (s : State) : Prop := l.flags = pinnedFlags ++ [noTraceFlag] ∧ (∀ k, k < 4 → ∃ c, ClassAt s (rsEx k) c) ∧ (∀ k k', rsNo k k' → va_Nc (rsEx k) (rsEx k') s) ∧ (∀ q ∈ rsStr, ∃ a, vk_R q.1 q.2.1 q.2.2 a s) ∧
  rs_L Bundle.tN "UNASSIGNED_STACK" Bundle.steD s.heap.size s s.heap ∧ rs_L Bundle.tN "SUPPRESSED_SENTINEL" Bundle.listD s.heap.size s s.heap ∧
  va_Zq Bundle.tN "UNASSIGNED_STACK" Bundle.steD (fun q => s.heap.size ≤ q) s s.heap ∧ va_Zq Bundle.tN "SUPPRESSED_SENTINEL" Bundle.listD (fun q => s.heap.size ≤ q) s s.heap
theorem rsEx_fit {k : Nat} (h : k < 4) : Bundle.fit (rsEx k) = true := by
  match k, h with
  | 0, _ => exact (by decide +kernel)
  | 1, _ => exact (by decide +kernel)
  | 2, _ => exact (by decide +kernel)
  | 3, _ => exact (by decide +kernel)
end
section
/-! 03: a contract whose method returns or throws; the judgement rsV: a frame over a world that is a function of addresses -/
section RSA
variable {l : Launch} {R : Room} {p : Program} {e : Env} {below : List Frame} {s : State} {m : MethodId} {args : Array Value} {meth : Method} {c : Code} {y : MethodName} {H : Heap} {locs : List Loc} {cells slots : Nat}
/-- the frame of a method that returned or threw -/
def rs_fe (first : State) (o : Outcome) (t : State) (L : List Loc) (k n : Nat) : Prop :=
  ((∃ v, o = .returned v) ∨ ∃ x, o = .threw x) ∧ first.WarmedH t.vm ∧ first.sameButNew ({ t with vm := first.vm } : State) L k n
def rs_Met (l : Launch) (y : MethodName) (ws : List Cond) (rm : Room) (Pc : Array Value → State → Prop) (Qc : Array Value → State → Outcome → State → Prop) (mc ms : Nat) (free : Addr → Prop) : Prop :=
  MetFree l y (headSpec ws rm) Pc (fun _ _ _ _ _ => True) (fun a st o t => Qc a st o t ∧ ∃ L, rs_fe st o t L mc ms ∧ ∀ q ∈ L, free q.base)
def rs_MQ (below : List Frame) (Qc : Array Value → State → Outcome → State → Prop) (a : Array Value) (s : State) (mc ms : Nat) (free : Addr → Prop) : State → Prop := fun t =>
  ∃ o, t.status = .running ∧ Ended t below o ∧ Qc a s o t ∧ ∃ L, rs_fe s o t L mc ms ∧ ∀ q ∈ L, free q.base
theorem rs_mono {Q Q' : State → Prop} {g : JFrame} (h : ∀ t, Q t → Q' t) (k : W p l e R s m args below meth c H locs cells slots Q g) : W p l e R s m args below meth c H locs cells slots Q' g := by
  intro T hT X
  obtain ⟨t, a, b⟩ := k T hT X
  exact ⟨t, a, h t b⟩
theorem rs_ofMQ {Qc : Array Value → State → Outcome → State → Prop} {a : Array Value} {mc ms : Nat} {free : Addr → Prop} : ∀ t, MQ below Qc a s mc ms free t → rs_MQ below Qc a s mc ms free t := by
  intro t h
  obtain ⟨o, h1, h2, h3, L, ⟨h4, h5, h6⟩, h7⟩ := h
  exact ⟨o, h1, h2, h3, L, ⟨Or.inl h4, h5, h6⟩, h7⟩
/-- what the words .code and .codeWith say of a method -/
def rs_is (y : MethodName) (cc : ByteArray) (maxL : Nat) (ret : Option FieldType) (hh : List (Nat × Nat × Nat × Nat)) (s : State) : Prop :=
  ∃ m meth c, s.methodNamed? y = some m ∧ s.vm.method? m = some meth ∧ meth.code = some c ∧ c.code = cc ∧ c.maxLocals = maxL ∧ meth.sig.returnType = ret ∧ meth.locks = false ∧ c.exceptionTable.toList.map (fun x => (x.startPc, x.endPc, x.handlerPc, x.catchType)) = hh ∧ parseMethodDescriptor y.desc = some meth.sig
def rs_word (y : MethodName) (cc : ByteArray) (maxL : Nat) (ret : Option FieldType) (hh : List (Nat × Nat × Nat × Nat)) : Cond := match hh with
  | [] => .code y cc maxL ret
  | q :: r => .codeWith y cc maxL ret (q :: r)
theorem rs_is_of {cc : ByteArray} {maxL : Nat} {ret : Option FieldType} {hh : List (Nat × Nat × Nat × Nat)} {a : Array Value} (h : (rs_word y cc maxL ret hh).before a s = true) : rs_is y cc maxL ret hh s := by
  cases hh with
  | nil =>
    obtain ⟨m, hn⟩ := Cond.code_named (h : (Cond.code y cc maxL ret).before a s = true)
    obtain ⟨meth, c, h1, h2, h3, h4, h5, h6, h7, h8⟩ := Cond.code_spec hn (h : (Cond.code y cc maxL ret).before a s = true)
    refine ⟨m, meth, c, hn, h1, h2, h3, h4, h5, h6, ?_, h8⟩
    have h9 : c.exceptionTable.toList = [] := by simpa using h7
    rw [h9]; rfl
  | cons q r =>
    obtain ⟨m, meth, c, hn, h1, h2, h3, h4, h7, h5, h6, h8⟩ := Cond.codeWith_spec (h : (Cond.codeWith y cc maxL ret (q :: r)).before a s = true)
    exact ⟨m, meth, c, hn, h1, h2, h3, h4, h5, h6, h7, h8⟩
theorem rs_ofW {rm : Room} {Pc : Array Value → State → Prop} {Qc : Array Value → State → Outcome → State → Prop} {mc ms : Nat} {free : Addr → Prop} {cc : ByteArray} {maxL : Nat} {ret : Option FieldType} {hh : List (Nat × Nat × Nat × Nat)}
    (hy : plainFor y = true)
    (body : ∀ p e s m args below meth c s₁, BodyLoose p l y (headSpec [rs_word y cc maxL ret hh] rm) cc maxL ret e s m args below meth c s₁ → c.maxLocals = maxL → Pc args s → c.exceptionTable.toList.map (fun x => (x.startPc, x.endPc, x.handlerPc, x.catchType)) = hh →
      W p l e rm s m args below meth c s.heap [] 0 0 (rs_MQ below Qc args s mc ms free) (entryFrame m args maxL)) : rs_Met l y [rs_word y cc maxL ret hh] rm Pc Qc mc ms free := by
  refine MetFree.of_bodySF (code := cc) (maxLocals := maxL) (ret := ret) hy ?_ ?_
  · intro args s m h hn
    obtain ⟨m', meth, c, hn', h1, h2, h3, h4, h5, h6, -, -⟩ := rs_is_of (atoms_spec (ws := [rs_word y cc maxL ret hh]) h _ List.mem_cons_self)
    cases hn.symm.trans hn'
    exact ⟨meth, c, h1, h2, h3, h4, h5, h6⟩
  · intro p e s m args below meth c s₁ B hml hP _
    have hh0 : s₁.heap = s.heap := by rw [B.state]; rfl
    obtain ⟨m', meth', c', hn', h1, h2, -, -, -, -, h7, -⟩ := rs_is_of (atoms_spec (ws := [rs_word y cc maxL ret hh]) B.pre _ List.mem_cons_self)
    cases B.named.symm.trans hn'
    cases B.method.symm.trans h1
    cases (Stand.of_body B).code.symm.trans h2
    obtain ⟨t, a1, o, b1, b2, b3⟩ := body p e s m args below meth c s₁ B hml hP h7 s₁ hh0 (Stand.of_body B)
    exact ⟨t, o, a1, b1, b2, ⟨b3.1, b3.2⟩⟩
/-- a call by contract: it comes back, or the note of a throw lies over the caller's frame -/
theorem rs_back {ws : List Cond} {rm : Room} {Pc : Array Value → State → Prop} {Qc : Array Value → State → Outcome → State → Prop} {mc ms maxL len : Nat} {free : Addr → Prop} {T : State}
    (hM : rs_Met l y ws rm Pc Qc mc ms free) (X : Stand p l e R s m args below meth c T locs cells slots) {g : JFrame} (hg : g.method = m) (hsize : g.locals.size = c.maxLocals) {ig : Instr} (hdg : decode c.code g.pc = .ok (ig, len))
    (hW : 2 * g.monitorRoom + (g.stack.map fun v => v.category).sum ≤ 8) {mk : MethodId} {a : Array Value} (hn : T.methodNamed? y = some mk) (hpre : (allAtoms ws).before a T = true)
    {methY : Method} {cY : Code} (hmY : T.vm.method? mk = some methY) (hcY : methY.code = some cY) (hlY : cY.maxLocals = maxL) (hini : (Cond.initialized y.cls).before a T = true)
    (hframes : rm.frames + 1 ≤ R.frames) (hlocals : 8 + (maxL + 11) + rm.locals ≤ R.locals) (hcells : cells + rm.cells ≤ R.cells) (hslots : slots + rm.slots ≤ R.slots) (hP : Pc a (T.calling g mk a)) :
    ∃ (o : Outcome) (t T' : State) (L : List Loc), Stand p l e R s m args below meth c T' (locs ++ L) (cells + mc) (slots + ms) ∧ T'.heap = t.heap ∧ T'.vm = t.vm ∧ Qc a (T.calling g mk a) o t ∧ (∀ q ∈ L, free q.base) ∧
      ((∃ v, o = .returned v ∧ Steps p.tables e below (doInvoke e (T.setTop g) [] mk a).1 (T'.setTop { g with pc := g.pc + len, stack := v.toList ++ g.stack })) ∨
       (∃ x, o = .threw x ∧ Steps p.tables e below (doInvoke e (T.setTop g) [] mk a).1 ((T'.setTop g).pushFrame (.throwing x)))) := by
  obtain ⟨kY, hkY, -⟩ := className_of_methodNamed hn
  have hinitY : kY.init = .initialized := Cond.initialized_spec (findClass_of_methodNamed hn) hkY hini
  have h : At T g.method c below := by rw [hg]; exact X.here
  have happ : (headSpec ws rm).appliesLoose y e.platform (T.calling g mk a) = true :=
    Spec.appliesLoose_calling (g := g) h hdg hn hkY hinitY (X.room_calling (g := g) (R' := rm) hsize hmY hcY hframes (by rw [hlY]; omega) hcells hslots) hpre
  obtain ⟨g₀, hr⟩ := X.frames_eq
  have hfr : (T.setTop g).frames = .java g :: below := State.frames_setTop _ hr
  have hfr' : (T.setTop g).frames = [.java g] ++ below := hfr
  obtain ⟨o, t, hsteps, -, hend, hq, L, ⟨hout, hW₂, hsame⟩, hL⟩ := Steps.callFree hM p X.admits X.cas X.clock (acts := []) hfr' happ hP trivial
  rw [hfr] at hend
  rcases hout with ⟨v, rfl⟩ | ⟨x, rfl⟩
  · obtain ⟨T', X', -, -, ht⟩ := X.outOf hg hdg (mk := mk) (a := a) hend hW₂ hsame
    refine ⟨_, t, T', L, X', ?_, ?_, hq, hL, Or.inl ⟨v, rfl, ?_⟩⟩
    · have h9 := congrArg State.heap ht.symm; exact h9
    · have h9 := congrArg State.vm ht.symm; exact h9
    · rw [← ht]; exact hsteps
  · obtain ⟨T', X', -, -, ht⟩ := X.outOfThrown hg (mk := mk) (a := a) hend hW₂ hsame
    refine ⟨_, t, T', L, X', ?_, ?_, hq, hL, Or.inr ⟨x, rfl, ?_⟩⟩
    · rw [ht, Stand.throwing_heap]
    · rw [ht, Stand.throwing_vm]
    · rw [← ht]; exact hsteps
end RSA
end
section
/-! 04: the judgement rsV and its rows -/
abbrev rsH : Type := Nat → Option va_E
abbrev rsR : Type := Option Value ⊕ Nat
/-- launch; the state in which the law was invoked; class numbers and slots; the array classes of int, long, entries -/
abbrev rsG : Type := Launch × State × va_G × (ClassId × ClassId × ClassId)
/-- a method: name, code, locals, answer, handlers -/
abbrev rsM : Type := MethodName × ByteArray × Nat × Option FieldType × List (Nat × Nat × Nat × Nat)
abbrev rsL (G : rsG) : Launch := G.1
abbrev rsS0 (G : rsG) : State := G.2.1
abbrev rsD (G : rsG) : va_G := G.2.2.1
abbrev rsT (G : rsG) : List (ClassId × FieldType) := [(G.2.2.2.1, .int), (G.2.2.2.2.1, .long), (G.2.2.2.2.2, .object "RunStore$Entries")]
abbrev rsB (G : rsG) : Nat := (rsS0 G).heap.size
/-- what is known of the tables: each word, at every state with warmer tables; classes and arrays; which classes aren't castable -/
def rsU (G : rsG) : Prop := (∀ w ∈ rsTs, ∀ (a : Array Value) (U : State), (rsS0 G).WarmedH U.vm → w.before a U = true) ∧ va_K (rsD G) rsCl (rsT G) (rsS0 G) ∧ rsX (rsL G) (rsS0 G)
/-- the world: what the heap holds; its size; what is old is as it was; what was written is new; the world is new -/
def rsS (G : rsG) (h : rsH) (n : Nat) (H : Heap) (locs : List Loc) : Prop :=
  (∀ a e, h a = some e → va_at (rsD G) rsCl (a, e) H) ∧ H.size = rsB G + n ∧ (∀ q, q < rsB G → H[q]? = (rsS0 G).heap[q]?) ∧ (∀ q ∈ locs, rsB G ≤ q.base) ∧ (∀ a e, h a = some e → rsB G ≤ a) ∧ ∀ q cell, rsB G ≤ q → H[q]? = some cell → cell.vm.isStatics = false
def rsl (ls : Array Slot) (nL : Nat) (L : List (Option Value)) : Prop := ls.size = nL ∧ lv_wf ls ∧ ∀ (i : Nat) (v : Value), L[i]? = some (some v) → ls[i]? = some (.val v) ∧ v.category = 1
def rsC (G : rsG) (M : rsM) (p : Program) (s : State) (m : MethodId) (meth : Method) (c : Code) : Prop :=
  p.tables.exec = Jvm.exec ∧ c.code = M.2.1 ∧ c.maxLocals = M.2.2.1 ∧ s.vm.findClass M.1.cls = some m.cls ∧ (rsS0 G).WarmedH s.vm ∧ meth.sig.returnType = M.2.2.2.1 ∧ meth.locks = false ∧ c.exceptionTable.toList.map (fun x => (x.startPc, x.endPc, x.handlerPc, x.catchType)) = M.2.2.2.2 ∧ meth.name = M.1.name ∧ (∀ q, q < rsB G → s.heap[q]? = (rsS0 G).heap[q]?) ∧ rsB G ≤ s.heap.size ∧ ∀ q cell, rsB G ≤ q → s.heap[q]? = some cell → cell.vm.isStatics = false
def rsO (r : rsR) (o : Outcome) (t : State) : Prop := match r with
  | .inl v => o = .returned v
  | .inr k => ∃ (x : Addr) (cell : Cell), o = .threw x ∧ t.heap[x]? = some cell ∧ cell.vm.isStatics = false ∧ t.vm.findClass (rsEx k) = some cell.cls
def rsQ (G : rsG) (Q : rsR → rsH → Nat → Prop) : Array Value → State → Outcome → State → Prop := fun _ _ o t => ∃ r h n, Q r h n ∧ rsO r o t ∧ rsS G h n t.heap [] ∧ (rsS0 G).WarmedH t.vm
/-- a contract: from the world h the method ends with an outcome and a world that Q allows -/
def rsK (G : rsG) (M : rsM) (rm : Room) (as : List Value) (h : rsH) (n : Nat) (Q : rsR → rsH → Nat → Prop) : Prop :=
  rsU G → rs_Met (rsL G) M.1 [rs_word M.1 M.2.1 M.2.2.1 M.2.2.2.1 M.2.2.2.2] rm (fun a U => a = as.toArray ∧ rsS G h n U.heap [] ∧ (rsS0 G).WarmedH U.vm) (rsQ G Q) rm.cells rm.slots (fun q => rsB G ≤ q)
def rsV (G : rsG) (M : rsM) (rm : Room) (Q : rsR → rsH → Nat → Prop) (kc ks pc : Nat) (L : List (Option Value)) (st : List Value) (h : rsH) (n : Nat) : Prop :=
  rsU G → ∀ (p : Program) (e : Env) (s : State) (m : MethodId) (args : Array Value) (below : List Frame) (meth : Method) (c : Code) (H : Heap) (locs : List Loc) (cells slots : Nat) (ls : Array Slot),
    rsC G M p s m meth c → rsS G h n H locs → cells + kc ≤ rm.cells → slots + ks ≤ rm.slots → rsl ls M.2.2.1 L →
    W p (rsL G) e rm s m args below meth c H locs cells slots (rs_MQ below (rsQ G Q) args s rm.cells rm.slots (fun q => rsB G ≤ q)) (F0 m pc ls st)
theorem rsl_store {ls : Array Slot} {nL i : Nat} {L : List (Option Value)} {v : Value} (h : rsl ls nL L) (hi : i < nL) (hc : v.category = 1) : ∃ ls', storeLocals ls i v = some ls' ∧ rsl ls' nL (L.set i (some v)) := by
  obtain ⟨h1, h2, h3⟩ := h
  have hh : lv_has ls nL (((List.range nL).filterMap (fun j => match L[j]? with | some (some w) => some (j, w) | _ => none))) := by
    refine ⟨h1, h2, fun q hq => ?_⟩
    obtain ⟨j, -, hj⟩ := List.mem_filterMap.mp hq
    split at hj
    · next w hw => cases hj; exact (h3 _ _ hw).1
    · cases hj
  obtain ⟨ls', e1, g1, g2, g3⟩ := lv_store1 (v := v) hh hi hc
  refine ⟨ls', e1, g1, g2, fun j w hj => ?_⟩
  by_cases hji : j = i
  · subst hji
    by_cases hl : j < L.length
    · rw [List.getElem?_set_self hl] at hj
      cases hj
      exact ⟨g3 (j, v) (List.mem_cons_self ..), hc⟩
    · rw [List.set_eq_of_length_le (by omega)] at hj
      rw [List.getElem?_eq_none (by omega)] at hj
      cases hj
  · rw [List.getElem?_set_ne (Ne.symm hji)] at hj
    have hw := h3 _ _ hj
    have hlt : j < nL := by rw [← h1]; exact lv_lt hw.1
    refine ⟨g3 (j, w) (List.mem_cons_of_mem _ (List.mem_filter.mpr ⟨List.mem_filterMap.mpr ⟨j, List.mem_range.mpr hlt, by rw [hj]⟩, ?_⟩)), hw.2⟩
    simp [hji, hw.2]
theorem rs_args : ∀ (as : List Value) (k : Nat), (∀ v ∈ as, v.category = 1) → ∀ (i : Nat) (v : Value), as[i]? = some v → (k + i, v) ∈ lv_args k as
  | [], _, _, i, v, h => by simp at h
  | a :: as, k, hc, i, v, h => by
    have ha : a.category = 1 := hc a (List.mem_cons_self ..)
    unfold lv_args
    rw [if_neg (by omega)]
    cases i with
    | zero =>
      simp only [List.getElem?_cons_zero, Option.some.injEq] at h
      subst h
      exact List.mem_cons_self ..
    | succ i =>
      rw [List.getElem?_cons_succ] at h
      have := rs_args as (k + 1) (fun w hw => hc w (List.mem_cons_of_mem _ hw)) i v h
      rw [show k + (i + 1) = k + 1 + i by omega]
      exact List.mem_cons_of_mem _ this
theorem rs_sl : ∀ (as : List Value), (∀ v ∈ as, v.category = 1) → (lg_sl as).length = as.length
  | [], _ => rfl
  | a :: as, hc => by
    have ha : a.category = 1 := hc a (List.mem_cons_self ..)
    have := rs_sl as (fun w hw => hc w (List.mem_cons_of_mem _ hw))
    simp only [lg_sl, List.flatMap_cons] at this ⊢
    rw [if_neg (by omega)]
    simp only [List.length_append, List.length_cons, List.length_nil]
    omega
/-- a contract out of a walk of the body -/
theorem rsK_of {G : rsG} {M : rsM} {rm : Room} {as : List Value} {h : rsH} {n : Nat} {Q : rsR → rsH → Nat → Prop} {L : List (Option Value)} (hy : plainFor M.1 = true) (hc0 : as.all (fun v => v.category == 1) = true) (hl : as.length ≤ M.2.2.1)
    (hL : L = as.map some ++ List.replicate (M.2.2.1 - as.length) none) (hv : rsV G M rm Q rm.cells rm.slots 0 L [] h n) : rsK G M rm as h n Q := by
  intro hU
  have hc : ∀ v ∈ as, v.category = 1 := fun v hv => by
    have := List.all_eq_true.mp hc0 v hv
    simpa using this
  refine rs_ofW hy fun p e s m args below meth c s₁ B hml hP hhd => ?_
  obtain ⟨rfl, hS, hW⟩ := hP
  rw [lg_entry_eq]
  have hlen := rs_sl as hc
  have hlh := lv_entry as (n := M.2.2.1) (by omega)
  refine hv hU p e s m _ below meth c s.heap [] 0 0 _ ⟨B.exec, B.bytes, hml, findClass_of_methodNamed B.named, hW, B.returns, B.notSynchronized, hhd, (name_of_methodNamed B.named B.method).1, hS.2.2.1, by rw [hS.2.1]; omega, hS.2.2.2.2.2⟩ hS (by omega) (by omega) ⟨hlh.1, hlh.2.1, fun i v hi => ?_⟩
  subst hL
  by_cases hlt : i < as.length
  · rw [List.getElem?_append_left (by simpa using hlt), List.getElem?_map] at hi
    cases hv2 : as[i]? with
    | none => rw [hv2] at hi; cases hi
    | some w =>
      rw [hv2] at hi
      cases hi
      have := hlh.2.2 _ (rs_args as 0 hc i _ hv2)
      rw [Nat.zero_add] at this
      exact ⟨this, hc _ (List.mem_of_getElem? hv2)⟩
  · rw [List.getElem?_append_right (by simpa using Nat.not_lt.mp hlt)] at hi
    have := List.eq_of_mem_replicate (List.mem_of_getElem? hi)
    cases this
end
section
/-! 05: the rows of rsV that touch neither heap nor calls (written by gen_rows.py) -/
section RSR
variable {G : rsG} {M : rsM} {rm : Room} {Q : rsR → rsH → Nat → Prop} {kc ks pc pc' : Nat} {L : List (Option Value)} {st : List Value} {h : rsH} {n : Nat}
theorem rs_iconst {i : Int} {v : Int32} (hd : decode M.2.1 pc = .ok (.iconst i, 1)) (hp : pc + 1 = pc') (hv : Int32.ofInt i = v) (k : rsV G M rm Q kc ks pc' L (.int v :: st) h n) : rsV G M rm Q kc ks pc L st h n := by
  subst hp
  intro hU p e s m args below meth c H locs cells slots ls C S hc hs hl
  exact lv_iconst C.1 C.2.1 hd hv (k hU p e s m args below meth c H locs cells slots ls C S hc hs hl)
theorem rs_bipush {i : Int} {v : Int32} (hd : decode M.2.1 pc = .ok (.bipush i, 2)) (hp : pc + 2 = pc') (hv : (Int8.ofInt i).toInt32 = v) (k : rsV G M rm Q kc ks pc' L (.int v :: st) h n) : rsV G M rm Q kc ks pc L st h n := by
  subst hp
  intro hU p e s m args below meth c H locs cells slots ls C S hc hs hl
  exact lv_bipush C.1 C.2.1 hd hv (k hU p e s m args below meth c H locs cells slots ls C S hc hs hl)
theorem rs_sipush {i : Int} {v : Int32} (hd : decode M.2.1 pc = .ok (.sipush i, 3)) (hp : pc + 3 = pc') (hv : (Int16.ofInt i).toInt32 = v) (k : rsV G M rm Q kc ks pc' L (.int v :: st) h n) : rsV G M rm Q kc ks pc L st h n := by
  subst hp
  intro hU p e s m args below meth c H locs cells slots ls C S hc hs hl
  exact lv_sipush C.1 C.2.1 hd hv (k hU p e s m args below meth c H locs cells slots ls C S hc hs hl)
theorem rs_lconst {i : Fin 2} {v : Int64} (hd : decode M.2.1 pc = .ok (.lconst i, 1)) (hp : pc + 1 = pc') (hv : Int64.ofNat (i : Nat) = v) (k : rsV G M rm Q kc ks pc' L (.long v :: st) h n) : rsV G M rm Q kc ks pc L st h n := by
  subst hp
  intro hU p e s m args below meth c H locs cells slots ls C S hc hs hl
  exact lv_lconst C.1 C.2.1 hd hv (k hU p e s m args below meth c H locs cells slots ls C S hc hs hl)
theorem rs_null  (hd : decode M.2.1 pc = .ok (.aconst_null, 1)) (hp : pc + 1 = pc')  (k : rsV G M rm Q kc ks pc' L (.null :: st) h n) : rsV G M rm Q kc ks pc L st h n := by
  subst hp
  intro hU p e s m args below meth c H locs cells slots ls C S hc hs hl
  exact lv_null C.1 C.2.1 hd (k hU p e s m args below meth c H locs cells slots ls C S hc hs hl)
theorem rs_iload_n {i : Fin 4} {v : Int32} (hd : decode M.2.1 pc = .ok (.iload_n i, 1)) (hp : pc + 1 = pc') (hv : L[(i : Nat)]? = some (some (.int v))) (k : rsV G M rm Q kc ks pc' L (.int v :: st) h n) : rsV G M rm Q kc ks pc L st h n := by
  subst hp
  intro hU p e s m args below meth c H locs cells slots ls C S hc hs hl
  exact lv_iload_n C.1 C.2.1 hd rfl (hl.2.2 _ _ hv).1 (k hU p e s m args below meth c H locs cells slots ls C S hc hs hl)
theorem rs_iload {i : Nat} {v : Int32} (hd : decode M.2.1 pc = .ok (.iload i, 2)) (hp : pc + 2 = pc') (hv : L[i]? = some (some (.int v))) (k : rsV G M rm Q kc ks pc' L (.int v :: st) h n) : rsV G M rm Q kc ks pc L st h n := by
  subst hp
  intro hU p e s m args below meth c H locs cells slots ls C S hc hs hl
  exact lv_iload C.1 C.2.1 hd (hl.2.2 _ _ hv).1 (k hU p e s m args below meth c H locs cells slots ls C S hc hs hl)
theorem rs_aload_n {i : Fin 4} {v : Nat} (hd : decode M.2.1 pc = .ok (.aload_n i, 1)) (hp : pc + 1 = pc') (hv : L[(i : Nat)]? = some (some (.ref v))) (k : rsV G M rm Q kc ks pc' L (.ref v :: st) h n) : rsV G M rm Q kc ks pc L st h n := by
  subst hp
  intro hU p e s m args below meth c H locs cells slots ls C S hc hs hl
  exact lv_aload_n C.1 C.2.1 hd rfl (hl.2.2 _ _ hv).1 (k hU p e s m args below meth c H locs cells slots ls C S hc hs hl)
theorem rs_aload {i : Nat} {v : Nat} (hd : decode M.2.1 pc = .ok (.aload i, 2)) (hp : pc + 2 = pc') (hv : L[i]? = some (some (.ref v))) (k : rsV G M rm Q kc ks pc' L (.ref v :: st) h n) : rsV G M rm Q kc ks pc L st h n := by
  subst hp
  intro hU p e s m args below meth c H locs cells slots ls C S hc hs hl
  exact lv_aload C.1 C.2.1 hd (hl.2.2 _ _ hv).1 (k hU p e s m args below meth c H locs cells slots ls C S hc hs hl)
theorem rs_aload_nN {i : Fin 4} (hd : decode M.2.1 pc = .ok (.aload_n i, 1)) (hp : pc + 1 = pc') (hv : L[(i : Nat)]? = some (some .null)) (k : rsV G M rm Q kc ks pc' L (.null :: st) h n) : rsV G M rm Q kc ks pc L st h n := by
  subst hp
  intro hU p e s m args below meth c H locs cells slots ls C S hc hs hl
  exact lv_aload_nN C.1 C.2.1 hd rfl (hl.2.2 _ _ hv).1 (k hU p e s m args below meth c H locs cells slots ls C S hc hs hl)
theorem rs_aloadN {i : Nat} (hd : decode M.2.1 pc = .ok (.aload i, 2)) (hp : pc + 2 = pc') (hv : L[i]? = some (some .null)) (k : rsV G M rm Q kc ks pc' L (.null :: st) h n) : rsV G M rm Q kc ks pc L st h n := by
  subst hp
  intro hU p e s m args below meth c H locs cells slots ls C S hc hs hl
  exact lv_aloadN C.1 C.2.1 hd (hl.2.2 _ _ hv).1 (k hU p e s m args below meth c H locs cells slots ls C S hc hs hl)
theorem rs_iadd {x y : Int32} (hd : decode M.2.1 pc = .ok (.iadd, 1)) (hp : pc + 1 = pc')  (k : rsV G M rm Q kc ks pc' L (.int (x + y) :: st) h n) : rsV G M rm Q kc ks pc L (.int y :: .int x :: st) h n := by
  subst hp
  intro hU p e s m args below meth c H locs cells slots ls C S hc hs hl
  exact lv_iadd C.1 C.2.1 hd (k hU p e s m args below meth c H locs cells slots ls C S hc hs hl)
theorem rs_isub {x y : Int32} (hd : decode M.2.1 pc = .ok (.isub, 1)) (hp : pc + 1 = pc')  (k : rsV G M rm Q kc ks pc' L (.int (x - y) :: st) h n) : rsV G M rm Q kc ks pc L (.int y :: .int x :: st) h n := by
  subst hp
  intro hU p e s m args below meth c H locs cells slots ls C S hc hs hl
  exact lv_isub C.1 C.2.1 hd (k hU p e s m args below meth c H locs cells slots ls C S hc hs hl)
theorem rs_imul {x y : Int32} (hd : decode M.2.1 pc = .ok (.imul, 1)) (hp : pc + 1 = pc')  (k : rsV G M rm Q kc ks pc' L (.int (x * y) :: st) h n) : rsV G M rm Q kc ks pc L (.int y :: .int x :: st) h n := by
  subst hp
  intro hU p e s m args below meth c H locs cells slots ls C S hc hs hl
  exact lv_imul C.1 C.2.1 hd (k hU p e s m args below meth c H locs cells slots ls C S hc hs hl)
theorem rs_iand {x y : Int32} (hd : decode M.2.1 pc = .ok (.iand, 1)) (hp : pc + 1 = pc')  (k : rsV G M rm Q kc ks pc' L (.int (x &&& y) :: st) h n) : rsV G M rm Q kc ks pc L (.int y :: .int x :: st) h n := by
  subst hp
  intro hU p e s m args below meth c H locs cells slots ls C S hc hs hl
  exact lv_iand C.1 C.2.1 hd (k hU p e s m args below meth c H locs cells slots ls C S hc hs hl)
theorem rs_ior {x y : Int32} (hd : decode M.2.1 pc = .ok (.ior, 1)) (hp : pc + 1 = pc')  (k : rsV G M rm Q kc ks pc' L (.int (x ||| y) :: st) h n) : rsV G M rm Q kc ks pc L (.int y :: .int x :: st) h n := by
  subst hp
  intro hU p e s m args below meth c H locs cells slots ls C S hc hs hl
  exact lv_ior C.1 C.2.1 hd (k hU p e s m args below meth c H locs cells slots ls C S hc hs hl)
theorem rs_ixor {x y : Int32} (hd : decode M.2.1 pc = .ok (.ixor, 1)) (hp : pc + 1 = pc')  (k : rsV G M rm Q kc ks pc' L (.int (x ^^^ y) :: st) h n) : rsV G M rm Q kc ks pc L (.int y :: .int x :: st) h n := by
  subst hp
  intro hU p e s m args below meth c H locs cells slots ls C S hc hs hl
  exact lv_ixor C.1 C.2.1 hd (k hU p e s m args below meth c H locs cells slots ls C S hc hs hl)
theorem rs_idiv {x y : Int32} (hd : decode M.2.1 pc = .ok (.idiv, 1)) (hp : pc + 1 = pc') (hne : ¬ y = 0) (k : rsV G M rm Q kc ks pc' L (.int (x / y) :: st) h n) : rsV G M rm Q kc ks pc L (.int y :: .int x :: st) h n := by
  subst hp
  intro hU p e s m args below meth c H locs cells slots ls C S hc hs hl
  exact lv_idiv C.1 C.2.1 hd hne (k hU p e s m args below meth c H locs cells slots ls C S hc hs hl)
theorem rs_irem {x y : Int32} (hd : decode M.2.1 pc = .ok (.irem, 1)) (hp : pc + 1 = pc') (hne : ¬ y = 0) (k : rsV G M rm Q kc ks pc' L (.int (x - x / y * y) :: st) h n) : rsV G M rm Q kc ks pc L (.int y :: .int x :: st) h n := by
  subst hp
  intro hU p e s m args below meth c H locs cells slots ls C S hc hs hl
  exact lv_irem C.1 C.2.1 hd hne (k hU p e s m args below meth c H locs cells slots ls C S hc hs hl)
theorem rs_i2l {x : Int32} (hd : decode M.2.1 pc = .ok (.i2l, 1)) (hp : pc + 1 = pc')  (k : rsV G M rm Q kc ks pc' L (.long x.toInt64 :: st) h n) : rsV G M rm Q kc ks pc L (.int x :: st) h n := by
  subst hp
  intro hU p e s m args below meth c H locs cells slots ls C S hc hs hl
  exact lv_i2l C.1 C.2.1 hd rfl (k hU p e s m args below meth c H locs cells slots ls C S hc hs hl)
theorem rs_lcmp {x y : Int64} (hd : decode M.2.1 pc = .ok (.lcmp, 1)) (hp : pc + 1 = pc')  (k : rsV G M rm Q kc ks pc' L (.int (lg_cmp x y) :: st) h n) : rsV G M rm Q kc ks pc L (.long y :: .long x :: st) h n := by
  subst hp
  intro hU p e s m args below meth c H locs cells slots ls C S hc hs hl
  exact W.lcmp C.1 C.2.1 hd (k hU p e s m args below meth c H locs cells slots ls C S hc hs hl)
theorem rs_dup {v : Value} (hd : decode M.2.1 pc = .ok (.dup, 1)) (hp : pc + 1 = pc') (hv : v.category = 1) (k : rsV G M rm Q kc ks pc' L (v :: v :: st) h n) : rsV G M rm Q kc ks pc L (v :: st) h n := by
  subst hp
  intro hU p e s m args below meth c H locs cells slots ls C S hc hs hl
  exact lv_dup C.1 C.2.1 hd hv (k hU p e s m args below meth c H locs cells slots ls C S hc hs hl)
theorem rs_pop {v : Value} (hd : decode M.2.1 pc = .ok (.pop, 1)) (hp : pc + 1 = pc') (hv : v.category = 1) (k : rsV G M rm Q kc ks pc' L st h n) : rsV G M rm Q kc ks pc L (v :: st) h n := by
  subst hp
  intro hU p e s m args below meth c H locs cells slots ls C S hc hs hl
  exact lv_pop C.1 C.2.1 hd hv (k hU p e s m args below meth c H locs cells slots ls C S hc hs hl)
theorem rs_dup2 {v w : Value} (hd : decode M.2.1 pc = .ok (.dup2, 1)) (hp : pc + 1 = pc') (hv : v.category = 1) (hw : w.category = 1) (k : rsV G M rm Q kc ks pc' L (v :: w :: v :: w :: st) h n) : rsV G M rm Q kc ks pc L (v :: w :: st) h n := by
  subst hp
  intro hU p e s m args below meth c H locs cells slots ls C S hc hs hl
  exact lv_dup2_11 C.1 C.2.1 hd hv hw (k hU p e s m args below meth c H locs cells slots ls C S hc hs hl)
theorem rs_topi {x : Int32} (k : ∀ y : Int32, y = x → rsV G M rm Q kc ks pc L (.int y :: st) h n) : rsV G M rm Q kc ks pc L (.int x :: st) h n := k x rfl
theorem rs_tope {x y : Int32} (e : x = y) (k : rsV G M rm Q kc ks pc L (.int y :: st) h n) : rsV G M rm Q kc ks pc L (.int x :: st) h n := e ▸ k
theorem rs_istore_n {i : Fin 4} {v : Int32} {L' : List (Option Value)} (hd : decode M.2.1 pc = .ok (.istore_n i, 1)) (hp : pc + 1 = pc') (hi : (i : Nat) < M.2.2.1) (hL : L.set (i : Nat) (some (.int v)) = L') (k : rsV G M rm Q kc ks pc' L' st h n) : rsV G M rm Q kc ks pc L (.int v :: st) h n := by
  subst hp
  subst hL
  intro hU p e s m args below meth c H locs cells slots ls C S hc hs hl
  obtain ⟨ls', e', hl'⟩ := rsl_store (v := .int v) hl hi rfl
  intro T hT X
  obtain ⟨t, a, b⟩ := k hU p e s m args below meth c H locs cells slots ls' C S hc hs hl' T hT X
  refine ⟨t, ?_, b⟩
  have hexec := C.1
  have hb := C.2.1
  jvm_step X.here [X.here.top, ↓top_set X.here.top, hexec, hb, hd, e']
  first | exact a | exact ⟨rfl, a⟩
theorem rs_istore {i : Nat} {v : Int32} {L' : List (Option Value)} (hd : decode M.2.1 pc = .ok (.istore i, 2)) (hp : pc + 2 = pc') (hi : (i : Nat) < M.2.2.1) (hL : L.set (i : Nat) (some (.int v)) = L') (k : rsV G M rm Q kc ks pc' L' st h n) : rsV G M rm Q kc ks pc L (.int v :: st) h n := by
  subst hp
  subst hL
  intro hU p e s m args below meth c H locs cells slots ls C S hc hs hl
  obtain ⟨ls', e', hl'⟩ := rsl_store (v := .int v) hl hi rfl
  intro T hT X
  obtain ⟨t, a, b⟩ := k hU p e s m args below meth c H locs cells slots ls' C S hc hs hl' T hT X
  refine ⟨t, ?_, b⟩
  have hexec := C.1
  have hb := C.2.1
  jvm_step X.here [X.here.top, ↓top_set X.here.top, hexec, hb, hd, e']
  first | exact a | exact ⟨rfl, a⟩
theorem rs_astore_n {i : Fin 4} {v : Nat} {L' : List (Option Value)} (hd : decode M.2.1 pc = .ok (.astore_n i, 1)) (hp : pc + 1 = pc') (hi : (i : Nat) < M.2.2.1) (hL : L.set (i : Nat) (some (.ref v)) = L') (k : rsV G M rm Q kc ks pc' L' st h n) : rsV G M rm Q kc ks pc L (.ref v :: st) h n := by
  subst hp
  subst hL
  intro hU p e s m args below meth c H locs cells slots ls C S hc hs hl
  obtain ⟨ls', e', hl'⟩ := rsl_store (v := .ref v) hl hi rfl
  intro T hT X
  obtain ⟨t, a, b⟩ := k hU p e s m args below meth c H locs cells slots ls' C S hc hs hl' T hT X
  refine ⟨t, ?_, b⟩
  have hexec := C.1
  have hb := C.2.1
  jvm_step X.here [X.here.top, ↓top_set X.here.top, hexec, hb, hd, e']
  first | exact a | exact ⟨rfl, a⟩
theorem rs_astore {i : Nat} {v : Nat} {L' : List (Option Value)} (hd : decode M.2.1 pc = .ok (.astore i, 2)) (hp : pc + 2 = pc') (hi : (i : Nat) < M.2.2.1) (hL : L.set (i : Nat) (some (.ref v)) = L') (k : rsV G M rm Q kc ks pc' L' st h n) : rsV G M rm Q kc ks pc L (.ref v :: st) h n := by
  subst hp
  subst hL
  intro hU p e s m args below meth c H locs cells slots ls C S hc hs hl
  obtain ⟨ls', e', hl'⟩ := rsl_store (v := .ref v) hl hi rfl
  intro T hT X
  obtain ⟨t, a, b⟩ := k hU p e s m args below meth c H locs cells slots ls' C S hc hs hl' T hT X
  refine ⟨t, ?_, b⟩
  have hexec := C.1
  have hb := C.2.1
  jvm_step X.here [X.here.top, ↓top_set X.here.top, hexec, hb, hd, e']
  first | exact a | exact ⟨rfl, a⟩
theorem rs_astore_nN {i : Fin 4} {L' : List (Option Value)} (hd : decode M.2.1 pc = .ok (.astore_n i, 1)) (hp : pc + 1 = pc') (hi : (i : Nat) < M.2.2.1) (hL : L.set (i : Nat) (some (.null)) = L') (k : rsV G M rm Q kc ks pc' L' st h n) : rsV G M rm Q kc ks pc L (.null :: st) h n := by
  subst hp
  subst hL
  intro hU p e s m args below meth c H locs cells slots ls C S hc hs hl
  obtain ⟨ls', e', hl'⟩ := rsl_store (v := .null) hl hi rfl
  intro T hT X
  obtain ⟨t, a, b⟩ := k hU p e s m args below meth c H locs cells slots ls' C S hc hs hl' T hT X
  refine ⟨t, ?_, b⟩
  have hexec := C.1
  have hb := C.2.1
  jvm_step X.here [X.here.top, ↓top_set X.here.top, hexec, hb, hd, e']
  first | exact a | exact ⟨rfl, a⟩
theorem rs_astoreN {i : Nat} {L' : List (Option Value)} (hd : decode M.2.1 pc = .ok (.astore i, 2)) (hp : pc + 2 = pc') (hi : (i : Nat) < M.2.2.1) (hL : L.set (i : Nat) (some (.null)) = L') (k : rsV G M rm Q kc ks pc' L' st h n) : rsV G M rm Q kc ks pc L (.null :: st) h n := by
  subst hp
  subst hL
  intro hU p e s m args below meth c H locs cells slots ls C S hc hs hl
  obtain ⟨ls', e', hl'⟩ := rsl_store (v := .null) hl hi rfl
  intro T hT X
  obtain ⟨t, a, b⟩ := k hU p e s m args below meth c H locs cells slots ls' C S hc hs hl' T hT X
  refine ⟨t, ?_, b⟩
  have hexec := C.1
  have hb := C.2.1
  jvm_step X.here [X.here.top, ↓top_set X.here.top, hexec, hb, hd, e']
  first | exact a | exact ⟨rfl, a⟩
theorem rs_iinc {i : Nat} {j : Int} {x v : Int32} {L' : List (Option Value)} (hd : decode M.2.1 pc = .ok (.iinc i j, 3)) (hp : pc + 3 = pc') (hi : i < M.2.2.1) (hx : L[i]? = some (some (.int x))) (hv : x + Int32.ofInt j = v) (hL : L.set i (some (.int v)) = L') (k : rsV G M rm Q kc ks pc' L' st h n) : rsV G M rm Q kc ks pc L st h n := by
  subst hp
  subst hL
  subst hv
  intro hU p e s m args below meth c H locs cells slots ls C S hc hs hl
  obtain ⟨ls', e', hl'⟩ := rsl_store (v := .int (x + Int32.ofInt j)) hl hi rfl
  have hg := (hl.2.2 _ _ hx).1
  intro T hT X
  obtain ⟨t, a, b⟩ := k hU p e s m args below meth c H locs cells slots ls' C S hc hs hl' T hT X
  refine ⟨t, ?_, b⟩
  have hexec := C.1
  have hb := C.2.1
  jvm_step X.here [X.here.top, ↓top_set X.here.top, hexec, hb, hd, hg, e']
  exact a
theorem rs_if_eq {x : Int32} {off : Int} {tgt : Nat} (hd : decode M.2.1 pc = .ok (.ifCond .eq off, 3)) (hp : pc + 3 = pc') (ht : (pc : Int) + off = (tgt : Int)) (kt : x = 0 → rsV G M rm Q kc ks tgt L st h n) (kf : ¬ x = 0 → rsV G M rm Q kc ks pc' L st h n) : rsV G M rm Q kc ks pc L (.int x :: st) h n := by
  subst hp
  intro hU p e s m args below meth c H locs cells slots ls C S hc hs hl
  exact lv_if_eq C.1 C.2.1 hd ht (fun q => kt q hU p e s m args below meth c H locs cells slots ls C S hc hs hl) (fun q => kf q hU p e s m args below meth c H locs cells slots ls C S hc hs hl)
theorem rs_icmp_eq {x y : Int32} {off : Int} {tgt : Nat} (hd : decode M.2.1 pc = .ok (.if_icmp .eq off, 3)) (hp : pc + 3 = pc') (ht : (pc : Int) + off = (tgt : Int)) (kt : x = y → rsV G M rm Q kc ks tgt L st h n) (kf : ¬ x = y → rsV G M rm Q kc ks pc' L st h n) : rsV G M rm Q kc ks pc L (.int y :: .int x :: st) h n := by
  subst hp
  intro hU p e s m args below meth c H locs cells slots ls C S hc hs hl
  exact lv_icmp_eq C.1 C.2.1 hd ht (fun q => kt q hU p e s m args below meth c H locs cells slots ls C S hc hs hl) (fun q => kf q hU p e s m args below meth c H locs cells slots ls C S hc hs hl)
theorem rs_if_ne {x : Int32} {off : Int} {tgt : Nat} (hd : decode M.2.1 pc = .ok (.ifCond .ne off, 3)) (hp : pc + 3 = pc') (ht : (pc : Int) + off = (tgt : Int)) (kt : ¬ x = 0 → rsV G M rm Q kc ks tgt L st h n) (kf : x = 0 → rsV G M rm Q kc ks pc' L st h n) : rsV G M rm Q kc ks pc L (.int x :: st) h n := by
  subst hp
  intro hU p e s m args below meth c H locs cells slots ls C S hc hs hl
  exact lv_if_ne C.1 C.2.1 hd ht (fun q => kt q hU p e s m args below meth c H locs cells slots ls C S hc hs hl) (fun q => kf q hU p e s m args below meth c H locs cells slots ls C S hc hs hl)
theorem rs_icmp_ne {x y : Int32} {off : Int} {tgt : Nat} (hd : decode M.2.1 pc = .ok (.if_icmp .ne off, 3)) (hp : pc + 3 = pc') (ht : (pc : Int) + off = (tgt : Int)) (kt : ¬ x = y → rsV G M rm Q kc ks tgt L st h n) (kf : x = y → rsV G M rm Q kc ks pc' L st h n) : rsV G M rm Q kc ks pc L (.int y :: .int x :: st) h n := by
  subst hp
  intro hU p e s m args below meth c H locs cells slots ls C S hc hs hl
  exact lv_icmp_ne C.1 C.2.1 hd ht (fun q => kt q hU p e s m args below meth c H locs cells slots ls C S hc hs hl) (fun q => kf q hU p e s m args below meth c H locs cells slots ls C S hc hs hl)
theorem rs_if_lt {x : Int32} {off : Int} {tgt : Nat} (hd : decode M.2.1 pc = .ok (.ifCond .lt off, 3)) (hp : pc + 3 = pc') (ht : (pc : Int) + off = (tgt : Int)) (kt : x < 0 → rsV G M rm Q kc ks tgt L st h n) (kf : ¬ x < 0 → rsV G M rm Q kc ks pc' L st h n) : rsV G M rm Q kc ks pc L (.int x :: st) h n := by
  subst hp
  intro hU p e s m args below meth c H locs cells slots ls C S hc hs hl
  exact lv_if_lt C.1 C.2.1 hd ht (fun q => kt q hU p e s m args below meth c H locs cells slots ls C S hc hs hl) (fun q => kf q hU p e s m args below meth c H locs cells slots ls C S hc hs hl)
theorem rs_icmp_lt {x y : Int32} {off : Int} {tgt : Nat} (hd : decode M.2.1 pc = .ok (.if_icmp .lt off, 3)) (hp : pc + 3 = pc') (ht : (pc : Int) + off = (tgt : Int)) (kt : x < y → rsV G M rm Q kc ks tgt L st h n) (kf : ¬ x < y → rsV G M rm Q kc ks pc' L st h n) : rsV G M rm Q kc ks pc L (.int y :: .int x :: st) h n := by
  subst hp
  intro hU p e s m args below meth c H locs cells slots ls C S hc hs hl
  exact lv_icmp_lt C.1 C.2.1 hd ht (fun q => kt q hU p e s m args below meth c H locs cells slots ls C S hc hs hl) (fun q => kf q hU p e s m args below meth c H locs cells slots ls C S hc hs hl)
theorem rs_if_ge {x : Int32} {off : Int} {tgt : Nat} (hd : decode M.2.1 pc = .ok (.ifCond .ge off, 3)) (hp : pc + 3 = pc') (ht : (pc : Int) + off = (tgt : Int)) (kt : 0 ≤ x → rsV G M rm Q kc ks tgt L st h n) (kf : ¬ 0 ≤ x → rsV G M rm Q kc ks pc' L st h n) : rsV G M rm Q kc ks pc L (.int x :: st) h n := by
  subst hp
  intro hU p e s m args below meth c H locs cells slots ls C S hc hs hl
  exact lv_if_ge C.1 C.2.1 hd ht (fun q => kt q hU p e s m args below meth c H locs cells slots ls C S hc hs hl) (fun q => kf q hU p e s m args below meth c H locs cells slots ls C S hc hs hl)
theorem rs_icmp_ge {x y : Int32} {off : Int} {tgt : Nat} (hd : decode M.2.1 pc = .ok (.if_icmp .ge off, 3)) (hp : pc + 3 = pc') (ht : (pc : Int) + off = (tgt : Int)) (kt : y ≤ x → rsV G M rm Q kc ks tgt L st h n) (kf : ¬ y ≤ x → rsV G M rm Q kc ks pc' L st h n) : rsV G M rm Q kc ks pc L (.int y :: .int x :: st) h n := by
  subst hp
  intro hU p e s m args below meth c H locs cells slots ls C S hc hs hl
  exact lv_icmp_ge C.1 C.2.1 hd ht (fun q => kt q hU p e s m args below meth c H locs cells slots ls C S hc hs hl) (fun q => kf q hU p e s m args below meth c H locs cells slots ls C S hc hs hl)
theorem rs_if_gt {x : Int32} {off : Int} {tgt : Nat} (hd : decode M.2.1 pc = .ok (.ifCond .gt off, 3)) (hp : pc + 3 = pc') (ht : (pc : Int) + off = (tgt : Int)) (kt : 0 < x → rsV G M rm Q kc ks tgt L st h n) (kf : ¬ 0 < x → rsV G M rm Q kc ks pc' L st h n) : rsV G M rm Q kc ks pc L (.int x :: st) h n := by
  subst hp
  intro hU p e s m args below meth c H locs cells slots ls C S hc hs hl
  exact lv_if_gt C.1 C.2.1 hd ht (fun q => kt q hU p e s m args below meth c H locs cells slots ls C S hc hs hl) (fun q => kf q hU p e s m args below meth c H locs cells slots ls C S hc hs hl)
theorem rs_icmp_gt {x y : Int32} {off : Int} {tgt : Nat} (hd : decode M.2.1 pc = .ok (.if_icmp .gt off, 3)) (hp : pc + 3 = pc') (ht : (pc : Int) + off = (tgt : Int)) (kt : y < x → rsV G M rm Q kc ks tgt L st h n) (kf : ¬ y < x → rsV G M rm Q kc ks pc' L st h n) : rsV G M rm Q kc ks pc L (.int y :: .int x :: st) h n := by
  subst hp
  intro hU p e s m args below meth c H locs cells slots ls C S hc hs hl
  exact lv_icmp_gt C.1 C.2.1 hd ht (fun q => kt q hU p e s m args below meth c H locs cells slots ls C S hc hs hl) (fun q => kf q hU p e s m args below meth c H locs cells slots ls C S hc hs hl)
theorem rs_if_le {x : Int32} {off : Int} {tgt : Nat} (hd : decode M.2.1 pc = .ok (.ifCond .le off, 3)) (hp : pc + 3 = pc') (ht : (pc : Int) + off = (tgt : Int)) (kt : x ≤ 0 → rsV G M rm Q kc ks tgt L st h n) (kf : ¬ x ≤ 0 → rsV G M rm Q kc ks pc' L st h n) : rsV G M rm Q kc ks pc L (.int x :: st) h n := by
  subst hp
  intro hU p e s m args below meth c H locs cells slots ls C S hc hs hl
  exact lv_if_le C.1 C.2.1 hd ht (fun q => kt q hU p e s m args below meth c H locs cells slots ls C S hc hs hl) (fun q => kf q hU p e s m args below meth c H locs cells slots ls C S hc hs hl)
theorem rs_icmp_le {x y : Int32} {off : Int} {tgt : Nat} (hd : decode M.2.1 pc = .ok (.if_icmp .le off, 3)) (hp : pc + 3 = pc') (ht : (pc : Int) + off = (tgt : Int)) (kt : x ≤ y → rsV G M rm Q kc ks tgt L st h n) (kf : ¬ x ≤ y → rsV G M rm Q kc ks pc' L st h n) : rsV G M rm Q kc ks pc L (.int y :: .int x :: st) h n := by
  subst hp
  intro hU p e s m args below meth c H locs cells slots ls C S hc hs hl
  exact lv_icmp_le C.1 C.2.1 hd ht (fun q => kt q hU p e s m args below meth c H locs cells slots ls C S hc hs hl) (fun q => kf q hU p e s m args below meth c H locs cells slots ls C S hc hs hl)
theorem rs_goto {off : Int} {tgt : Nat} (hd : decode M.2.1 pc = .ok (.goto off, 3)) (ht : (pc : Int) + off = (tgt : Int)) (k : rsV G M rm Q kc ks tgt L st h n) : rsV G M rm Q kc ks pc L st h n := by
  intro hU p e s m args below meth c H locs cells slots ls C S hc hs hl
  exact lv_goto C.1 C.2.1 hd ht (k hU p e s m args below meth c H locs cells slots ls C S hc hs hl)
theorem rs_ifnonnull {v : Nat} {off : Int} {tgt : Nat} (hd : decode M.2.1 pc = .ok (.ifnonnull off, 3)) (ht : (pc : Int) + off = (tgt : Int)) (k : rsV G M rm Q kc ks tgt L st h n) : rsV G M rm Q kc ks pc L (.ref v :: st) h n := by
  intro hU p e s m args below meth c H locs cells slots ls C S hc hs hl
  exact lv_ifnonnull C.1 C.2.1 hd ht (k hU p e s m args below meth c H locs cells slots ls C S hc hs hl)
theorem rs_ifnullN {off : Int} {tgt : Nat} (hd : decode M.2.1 pc = .ok (.ifnull off, 3)) (ht : (pc : Int) + off = (tgt : Int)) (k : rsV G M rm Q kc ks tgt L st h n) : rsV G M rm Q kc ks pc L (.null :: st) h n := by
  intro hU p e s m args below meth c H locs cells slots ls C S hc hs hl
  exact lv_ifnullN C.1 C.2.1 hd ht (k hU p e s m args below meth c H locs cells slots ls C S hc hs hl)
theorem rs_tableIn {dflt lo hi off : Int} {offs : Array Int} {len tgt : Nat} {x : Int32} (hd : decode M.2.1 pc = .ok (.tableswitch dflt lo hi offs, len)) (h1 : ¬ x.toInt < lo) (h2 : ¬ hi < x.toInt) (ho : offs[(x.toInt - lo).toNat]? = some off) (ht : (pc : Int) + off = (tgt : Int)) (k : rsV G M rm Q kc ks tgt L st h n) : rsV G M rm Q kc ks pc L (.int x :: st) h n := by
  intro hU p e s m args below meth c H locs cells slots ls C S hc hs hl
  exact lv_tableIn C.1 C.2.1 hd h1 h2 ho ht (k hU p e s m args below meth c H locs cells slots ls C S hc hs hl)
theorem rs_tableOut {dflt lo hi : Int} {offs : Array Int} {len tgt : Nat} {x : Int32} (hd : decode M.2.1 pc = .ok (.tableswitch dflt lo hi offs, len)) (hx : x.toInt < lo ∨ hi < x.toInt) (ht : (pc : Int) + dflt = (tgt : Int)) (k : rsV G M rm Q kc ks tgt L st h n) : rsV G M rm Q kc ks pc L (.int x :: st) h n := by
  intro hU p e s m args below meth c H locs cells slots ls C S hc hs hl
  exact lv_tableOut C.1 C.2.1 hd hx ht (k hU p e s m args below meth c H locs cells slots ls C S hc hs hl)
theorem rs_ifnull {v : Nat} {off : Int} (hd : decode M.2.1 pc = .ok (.ifnull off, 3)) (hp : pc + 3 = pc')  (k : rsV G M rm Q kc ks pc' L st h n) : rsV G M rm Q kc ks pc L (.ref v :: st) h n := by
  subst hp
  intro hU p e s m args below meth c H locs cells slots ls C S hc hs hl
  exact lv_ifnull C.1 C.2.1 hd (k hU p e s m args below meth c H locs cells slots ls C S hc hs hl)
theorem rs_ifnonnullN {off : Int} (hd : decode M.2.1 pc = .ok (.ifnonnull off, 3)) (hp : pc + 3 = pc')  (k : rsV G M rm Q kc ks pc' L st h n) : rsV G M rm Q kc ks pc L (.null :: st) h n := by
  subst hp
  intro hU p e s m args below meth c H locs cells slots ls C S hc hs hl
  exact lv_ifnonnullN C.1 C.2.1 hd (k hU p e s m args below meth c H locs cells slots ls C S hc hs hl)
theorem rs_ireturn {v : Int32} (hd : decode M.2.1 pc = .ok (.ireturn, 1)) (hr : M.2.2.2.1 = some .int) (hq : Q (.inl (some (.int v))) h n) : rsV G M rm Q kc ks pc L [.int v] h n := by
  intro hU p e s m args below meth c H locs cells slots ls C S hc hs hl
  have hlocks := C.2.2.2.2.2.2.1
  refine W.widen (k := rm.cells) (n := rm.slots) (by omega) (by omega) (rs_mono rs_ofMQ ?_)
  exact W.iret C.1 C.2.1 (C.2.2.2.2.2.1.trans hr) (fun t ht hW => ⟨_, h, n, hq, rfl, by rw [ht]; exact ⟨S.1, S.2.1, S.2.2.1, fun q hq => (by cases hq), S.2.2.2.2⟩, State.WarmedH.trans C.2.2.2.2.1 hW⟩) S.2.2.2.1 hd hlocks
theorem rs_zreturn {v : Int32} (hd : decode M.2.1 pc = .ok (.ireturn, 1)) (hr : M.2.2.2.1 = some .boolean) (hv : narrow .boolean (.int v) = .int v) (hq : Q (.inl (some (.int v))) h n) : rsV G M rm Q kc ks pc L [.int v] h n := by
  intro hU p e s m args below meth c H locs cells slots ls C S hc hs hl
  have hlocks := C.2.2.2.2.2.2.1
  refine W.widen (k := rm.cells) (n := rm.slots) (by omega) (by omega) (rs_mono rs_ofMQ ?_)
  exact W.zret C.1 C.2.1 (C.2.2.2.2.2.1.trans hr) hv (fun t ht hW => ⟨_, h, n, hq, rfl, by rw [ht]; exact ⟨S.1, S.2.1, S.2.2.1, fun q hq => (by cases hq), S.2.2.2.2⟩, State.WarmedH.trans C.2.2.2.2.1 hW⟩) S.2.2.2.1 hd hlocks
theorem rs_vreturn  (hd : decode M.2.1 pc = .ok (.return_, 1)) (hr : M.2.2.2.1 = none) (hq : Q (.inl (none)) h n) : rsV G M rm Q kc ks pc L [] h n := by
  intro hU p e s m args below meth c H locs cells slots ls C S hc hs hl
  have hlocks := C.2.2.2.2.2.2.1
  refine W.widen (k := rm.cells) (n := rm.slots) (by omega) (by omega) (rs_mono rs_ofMQ ?_)
  exact W.vret C.1 C.2.1 (C.2.2.2.2.2.1.trans hr) (fun t ht hW => ⟨_, h, n, hq, rfl, by rw [ht]; exact ⟨S.1, S.2.1, S.2.2.1, fun q hq => (by cases hq), S.2.2.2.2⟩, State.WarmedH.trans C.2.2.2.2.1 hW⟩) S.2.2.2.1 hd hlocks
theorem rs_areturn {v : Nat} {cl : String} (hd : decode M.2.1 pc = .ok (.areturn, 1)) (hr : M.2.2.2.1 = some (.object cl)) (hq : Q (.inl (some (.ref v))) h n) : rsV G M rm Q kc ks pc L [.ref v] h n := by
  intro hU p e s m args below meth c H locs cells slots ls C S hc hs hl
  have hlocks := C.2.2.2.2.2.2.1
  refine W.widen (k := rm.cells) (n := rm.slots) (by omega) (by omega) (rs_mono rs_ofMQ ?_)
  exact W.aret C.1 C.2.1 (C.2.2.2.2.2.1.trans hr) (Or.inl ⟨_, rfl⟩) (Or.inr ⟨_, rfl⟩) (fun t ht hW => ⟨_, h, n, hq, rfl, by rw [ht]; exact ⟨S.1, S.2.1, S.2.2.1, fun q hq => (by cases hq), S.2.2.2.2⟩, State.WarmedH.trans C.2.2.2.2.1 hW⟩) S.2.2.2.1 hd hlocks
theorem rs_areturnN {cl : String} (hd : decode M.2.1 pc = .ok (.areturn, 1)) (hr : M.2.2.2.1 = some (.object cl)) (hq : Q (.inl (some .null)) h n) : rsV G M rm Q kc ks pc L [.null] h n := by
  intro hU p e s m args below meth c H locs cells slots ls C S hc hs hl
  have hlocks := C.2.2.2.2.2.2.1
  refine W.widen (k := rm.cells) (n := rm.slots) (by omega) (by omega) (rs_mono rs_ofMQ ?_)
  exact W.aret C.1 C.2.1 (C.2.2.2.2.2.1.trans hr) (Or.inl ⟨_, rfl⟩) (Or.inl rfl) (fun t ht hW => ⟨_, h, n, hq, rfl, by rw [ht]; exact ⟨S.1, S.2.1, S.2.2.1, fun q hq => (by cases hq), S.2.2.2.2⟩, State.WarmedH.trans C.2.2.2.2.1 hW⟩) S.2.2.2.1 hd hlocks
theorem rsV_kc {kc' ks' : Nat} (h1 : kc' ≤ kc) (h2 : ks' ≤ ks) (k : rsV G M rm Q kc' ks' pc L st h n) : rsV G M rm Q kc ks pc L st h n := by
  intro hU p e s m args below meth c H locs cells slots ls C S hc hs hl
  exact k hU p e s m args below meth c H locs cells slots ls C S (by omega) (by omega) hl
theorem rsV_w {h' : rsH} (hh : ∀ a e, h' a = some e → h a = some e) (k : rsV G M rm Q kc ks pc L st h' n) : rsV G M rm Q kc ks pc L st h n := by
  intro hU p e s m args below meth c H locs cells slots ls C S hc hs hl
  exact k hU p e s m args below meth c H locs cells slots ls C ⟨fun a x q => S.1 a x (hh a x q), S.2.1, S.2.2.1, S.2.2.2.1, fun a x q => S.2.2.2.2.1 a x (hh a x q), S.2.2.2.2.2⟩ hc hs hl
end RSR
end
section
/-! 06: the rows of rsV that read and write the heap -/
def rs_up (h : rsH) (a : Nat) (e : va_E) : rsH := fun b => if b = a then some e else h b
/-- a field that a class reaches by its pool: which class of the world, which of its fields -/
def rsF (own : String) (index ci k : Nat) : Prop := ∃ (C : String) (T : u_T) (N : Nat), rsCl[ci]? = some (C, T, N) ∧ k < N ∧ Cond.fieldLink own index (T k).1 (T k).2.1 (T k).2.2.1 ∈ rsTs ∧ (∀ w ∈ u_ws C T N, w ∈ rsTs)
def rsP (own : String) (index ci k : Nat) (ty : FieldType) (fin : Bool) : Prop := ∃ (C : String) (T : u_T) (N : Nat) (ty0 : Nat → FieldType), rsCl[ci]? = some (C, T, N) ∧ k < N ∧ Cond.fieldLink own index (T k).1 (T k).2.1 (T k).2.2.1 ∈ rsTs ∧ (∀ w ∈ u_ws C T N, w ∈ rsTs) ∧
  (∀ k, k < N → parseFieldDescriptor (T k).2.2.1 = some (ty0 k)) ∧ (∀ a, a < N → ∀ b, b < N → a ≠ b → (T a).2.1 ≠ (T b).2.1) ∧ (T k).2.2.2 = fin ∧ (T k).1 = own ∧ ty0 k = ty
theorem rs_one {D : va_G} {cl : List vw_C} {a : Nat} {e : va_E} {H : Heap} (h : va_at D cl (a, e) H) : va_P D cl [(a, e)] H := by
  intro k q hk
  cases k with
  | zero => cases hk; exact h
  | succ k => simp at hk
theorem rs_plain {D : va_G} {cl : List vw_C} {a : Nat} {e : va_E} {H : Heap} {cell : Cell} (h : va_at D cl (a, e) H) (hc : H[a]? = some cell) : cell.vm.isStatics = false := by
  cases e with
  | inl x =>
    have h1 : H[a]? = some (vp_cell x.1 x.2) := h
    cases hc.symm.trans h1
    obtain ⟨cA, n, f | f | f | f | f⟩ := x <;> rfl
  | inr o =>
    obtain ⟨r, -, cell', q1, -, q3, -⟩ := h
    cases hc.symm.trans q1
    rw [q3]; rfl
theorem rs_S_put {G : rsG} {h : rsH} {n a i : Nat} {e0 x : va_E} {H H1 : Heap} {locs : List Loc} (S : rsS G h n H locs) (hh : h a = some e0) (he : va_at (rsD G) rsCl (a, x) H1) (z : H1.size = H.size) (oq : ∀ q, q ≠ a → H1[q]? = H[q]?) :
    rsS G (rs_up h a x) n H1 (locs ++ [⟨a, i⟩]) := by
  have hb := S.2.2.2.2.1 a _ hh
  refine ⟨fun b y hy => ?_, by rw [z]; exact S.2.1, fun q hq => ?_, fun q hq => ?_, fun b y hy => ?_, fun q cell hq hcell => ?_⟩
  · unfold rs_up at hy
    split at hy
    · next hba => subst hba; cases hy; exact he
    · next hba => exact (S.1 b y hy).kept (oq b hba)
  · rw [oq q (by omega)]; exact S.2.2.1 q hq
  · rcases List.mem_append.mp hq with h1 | h1
    · exact S.2.2.2.1 q h1
    · rw [List.mem_singleton.mp h1]; exact hb
  · unfold rs_up at hy
    split at hy
    · next hba => subst hba; exact hb
    · exact S.2.2.2.2.1 b y hy
  · by_cases hqa : q = a
    · subst hqa; exact rs_plain he hcell
    · rw [oq q hqa] at hcell; exact S.2.2.2.2.2 q cell hq hcell
theorem rs_S_new {G : rsG} {h : rsH} {n : Nat} {x : va_E} {H H1 : Heap} {locs : List Loc} (S : rsS G h n H locs) (he : va_at (rsD G) rsCl (H.size, x) H1) (z : H1.size = H.size + 1) (oq : ∀ q, q < H.size → H1[q]? = H[q]?) :
    rsS G (rs_up h (rsB G + n) x) (n + 1) H1 locs := by
  have hz := S.2.1
  rw [hz] at he
  refine ⟨fun b y hy => ?_, by rw [z, hz]; omega, fun q hq => ?_, S.2.2.2.1, fun b y hy => ?_, fun q cell hq hcell => ?_⟩
  · unfold rs_up at hy
    split at hy
    · next hba => subst hba; cases hy; exact he
    · exact (S.1 b y hy).kept (oq b (S.1 b y hy).lt)
  · rw [oq q (by omega)]; exact S.2.2.1 q hq
  · unfold rs_up at hy
    split at hy
    · next hba => omega
    · exact S.2.2.2.2.1 b y hy
  · by_cases hqa : q = rsB G + n
    · subst hqa; exact rs_plain he hcell
    · by_cases hql : q < H.size
      · rw [oq q hql] at hcell; exact S.2.2.2.2.2 q cell hq hcell
      · have : q < H1.size := (Array.getElem?_eq_some_iff.mp hcell).1
        omega
section RSHP
variable {G : rsG} {M : rsM} {rm : Room} {Q : rsR → rsH → Nat → Prop} {kc ks kc' ks' pc pc' : Nat} {L : List (Option Value)} {st : List Value} {h : rsH} {n : Nat}
theorem rs_getf {index ci k a : Nat} {fs : List Value} {v : Value} (hd : decode M.2.1 pc = .ok (.getfield index, 3)) (hp : pc + 3 = pc') (hF : rsF M.1.cls index ci k) (hh : h a = some (.inr (ci, fs))) (hv : fs[k]? = some v) (kk : rsV G M rm Q kc ks pc' L (v :: st) h n) : rsV G M rm Q kc ks pc L (.ref a :: st) h n := by
  subst hp
  obtain ⟨C, T, N, hcl, hk, hl, hin⟩ := hF
  intro hU p e s m args below meth c H locs cells slots ls Cx S hc hs hls
  have hw : ∀ w ∈ rsTs, w.before args s = true := fun w hw => hU.1 w hw args s Cx.2.2.2.2.1
  have hK := va_K.moved Cx.2.2.2.2.1.alike hU.2.1
  exact va_get (ws := [(a, .inr (ci, fs))]) Cx.1 Cx.2.1 hw hin Cx.2.2.2.1 hK (rs_one (S.1 a _ hh)) 0 rfl hcl k hk (hw _ hl) (fun _ h9 => h9) hv hd (kk hU p e s m args below meth c H locs cells slots ls Cx S hc hs hls)
theorem rs_putf {index ci k a : Nat} {fs fs' : List Value} {v : Value} {ty : FieldType} (hd : decode M.2.1 pc = .ok (.putfield index, 3)) (hp : pc + 3 = pc') (hF : rsP M.1.cls index ci k ty false) (hh : h a = some (.inr (ci, fs))) (hn : narrow ty v = v) (hfit : fits ty v = true) (hlen : k < fs.length) (hfs : fs.set k v = fs')
    (kk : rsV G M rm Q kc ks pc' L st (rs_up h a (.inr (ci, fs'))) n) : rsV G M rm Q kc ks pc L (v :: .ref a :: st) h n := by
  subst hp
  subst hfs
  obtain ⟨C, T, N, ty0, hcl, hk, hl, hin, hty, hnm, hfin, hdecl, ht⟩ := hF
  intro hU p e s m args below meth c H locs cells slots ls Cx S hc hs hls
  have hw : ∀ w ∈ rsTs, w.before args s = true := fun w hw => hU.1 w hw args s Cx.2.2.2.2.1
  have hK := va_K.moved Cx.2.2.2.2.1.alike hU.2.1
  have hap := va_apart (own := M.1.cls) hw hin ty0 hty hnm hK hcl
  obtain ⟨r, h1, cell, q1, q2, q3, q4⟩ := S.1 a _ hh
  have hr : r = (C, T, N) := Option.some.inj (h1.symm.trans hcl)
  subst hr
  obtain ⟨hS, hfc, kC, hkC, hkind⟩ := hK.1 ci _ hcl
  obtain ⟨cf, kf, fi, f, hi, hsl⟩ := hS k hk
  have hlay := hw _ (hin _ (u_in_lay hk))
  unfold u_lay at hlay
  rw [if_neg (by rw [hfin]; decide)] at hlay
  have hst := (u_facts hfc hkC (u_lays hw hin hk) hi).1
  have h6 := u_store hfc hkC hkind hlay hi (by rw [hty k hk, ht]) hn hfit
  refine W.putK Cx.1 Cx.2.1 (f := f) ⟨Cx.2.2.2.1, hw _ hl, ⟨_, _, _, hi⟩, hst⟩ (by rw [q2]; exact h6) q1 q3 (by rw [hsl]; exact k2_hasslot (q4 k hk)) rfl rfl hd fun H' e1 e2 e3 => ?_
  rw [hsl] at e1 ⊢
  exact kk hU p e s m args below meth c H' _ cells slots ls Cx (rs_S_put S hh ⟨_, hcl, t_OB.to (V := updV (vp_V fs) k v) ⟨_, e1, q2, q3, t_set q4 hap hk v⟩ (fun j _ => vp_updV_set hlen v j)⟩ e2 e3) hc hs hls
theorem rs_putF {index ci k a : Nat} {fs fs' : List Value} {v : Value} {ty : FieldType} (hd : decode M.2.1 pc = .ok (.putfield index, 3)) (hp : pc + 3 = pc') (hF : rsP M.1.cls index ci k ty true) (hin2 : M.1.name = "<init>") (hh : h a = some (.inr (ci, fs))) (hn : narrow ty v = v) (hfit : fits ty v = true) (hlen : k < fs.length) (hfs : fs.set k v = fs')
    (kk : rsV G M rm Q kc ks pc' L st (rs_up h a (.inr (ci, fs'))) n) : rsV G M rm Q kc ks pc L (v :: .ref a :: st) h n := by
  subst hp
  subst hfs
  obtain ⟨C, T, N, ty0, hcl, hk, hl, hin, hty, hnm, hfin, hdecl, ht⟩ := hF
  intro hU p e s m args below meth c H locs cells slots ls Cx S hc hs hls
  have hw : ∀ w ∈ rsTs, w.before args s = true := fun w hw => hU.1 w hw args s Cx.2.2.2.2.1
  have hK := va_K.moved Cx.2.2.2.2.1.alike hU.2.1
  have hap := va_apart (own := M.1.cls) hw hin ty0 hty hnm hK hcl
  obtain ⟨r, h1, cell, q1, q2, q3, q4⟩ := S.1 a _ hh
  have hr : r = (C, T, N) := Option.some.inj (h1.symm.trans hcl)
  subst hr
  obtain ⟨hS, hfc, kC, hkC, hkind⟩ := hK.1 ci _ hcl
  obtain ⟨cf, kf, fi, f, hi, hsl⟩ := hS k hk
  have hlay := hw _ (hin _ (u_in_lay hk))
  unfold u_lay at hlay
  rw [if_pos hfin] at hlay
  have hst := (u_facts hfc hkC (u_lays hw hin hk) hi).1
  have hcf : m.cls = cf := by
    obtain ⟨_, _, c', _, _, _, -, -, hf', -, -, -, hown2, -⟩ := Cond.laysFinal_spec hlay
    have e1 : c' = cf := by have := hi.symm.trans hf'; simp at this; exact this.1.symm
    rw [hdecl] at hown2
    rw [← e1]; exact Option.some.inj (Cx.2.2.2.1.symm.trans hown2)
  have h6 := u_fits hfc hkC hkind (Or.inr hlay) hi (by rw [hty k hk, ht]) hn hfit
  refine W.putFinK Cx.1 Cx.2.1 Cx.2.2.2.1 (hw _ hl) hi hst hcf (Cx.2.2.2.2.2.2.2.2.1.trans hin2) (by rw [q2]; exact h6) q1 q3 (by rw [hsl]; exact k2_hasslot (q4 k hk)) rfl rfl hd fun H' e1 e2 e3 => ?_
  rw [hsl] at e1 ⊢
  exact kk hU p e s m args below meth c H' _ cells slots ls Cx (rs_S_put S hh ⟨_, hcl, t_OB.to (V := updV (vp_V fs) k v) ⟨_, e1, q2, q3, t_set q4 hap hk v⟩ (fun j _ => vp_updV_set hlen v j)⟩ e2 e3) hc hs hls
theorem rs_iald {a j len : Nat} {f : Nat → Int32} (hd : decode M.2.1 pc = .ok (.iaload, 1)) (hp : pc + 1 = pc') (hh : h a = some (.inl (G.2.2.2.1, len, .inl f))) (hj : j < len) (hlen : len < 2 ^ 31) (kk : rsV G M rm Q kc ks pc' L (.int (f j) :: st) h n) : rsV G M rm Q kc ks pc L (.int (nI j) :: .ref a :: st) h n := by
  subst hp
  intro hU p e s m args below meth c H locs cells slots ls Cx S hc hs hls
  have hK := va_K.moved Cx.2.2.2.2.1.alike hU.2.1
  refine va_iald (ws := [(a, .inl (G.2.2.2.1, len, .inl f))]) Cx.1 Cx.2.1 hK (rs_one (S.1 a _ hh)) 0 0 rfl rfl (vp_in_nI hj hlen) hd ?_
  rw [nI_clamp (by omega)]
  exact kk hU p e s m args below meth c H locs cells slots ls Cx S hc hs hls
theorem rs_lald {a j len : Nat} {f : Nat → Int64} (hd : decode M.2.1 pc = .ok (.laload, 1)) (hp : pc + 1 = pc') (hh : h a = some (.inl (G.2.2.2.2.1, len, .inr (.inl f)))) (hj : j < len) (hlen : len < 2 ^ 31) (kk : rsV G M rm Q kc ks pc' L (.long (f j) :: st) h n) : rsV G M rm Q kc ks pc L (.int (nI j) :: .ref a :: st) h n := by
  subst hp
  intro hU p e s m args below meth c H locs cells slots ls Cx S hc hs hls
  have hK := va_K.moved Cx.2.2.2.2.1.alike hU.2.1
  refine va_lald (ws := [(a, .inl (G.2.2.2.2.1, len, .inr (.inl f)))]) Cx.1 Cx.2.1 hK (rs_one (S.1 a _ hh)) 0 1 rfl rfl (vp_in_nI hj hlen) hd ?_
  rw [nI_clamp (by omega)]
  exact kk hU p e s m args below meth c H locs cells slots ls Cx S hc hs hls
theorem rs_aald {a j len : Nat} {f : Nat → Option Nat} (hd : decode M.2.1 pc = .ok (.aaload, 1)) (hp : pc + 1 = pc') (hh : h a = some (.inl (G.2.2.2.2.2, len, .inr (.inr (.inr (.inr f)))))) (hj : j < len) (hlen : len < 2 ^ 31) (kk : rsV G M rm Q kc ks pc' L (va_rf (f j) :: st) h n) : rsV G M rm Q kc ks pc L (.int (nI j) :: .ref a :: st) h n := by
  subst hp
  intro hU p e s m args below meth c H locs cells slots ls Cx S hc hs hls
  have hK := va_K.moved Cx.2.2.2.2.1.alike hU.2.1
  refine va_aldq (ws := [(a, .inl (G.2.2.2.2.2, len, .inr (.inr (.inr (.inr f)))))]) (C := "RunStore$Entries") Cx.1 Cx.2.1 hK (rs_one (S.1 a _ hh)) 0 2 rfl rfl (vp_in_nI hj hlen) hd ?_
  rw [nI_clamp (by omega)]
  exact kk hU p e s m args below meth c H locs cells slots ls Cx S hc hs hls
theorem rs_alenI {a len : Nat} {f : Nat → Int32} (hd : decode M.2.1 pc = .ok (.arraylength, 1)) (hp : pc + 1 = pc') (hh : h a = some (.inl (G.2.2.2.1, len, .inl f))) (kk : rsV G M rm Q kc ks pc' L (.int (nI len) :: st) h n) : rsV G M rm Q kc ks pc L (.ref a :: st) h n := by
  subst hp
  intro hU p e s m args below meth c H locs cells slots ls Cx S hc hs hls
  have hK := va_K.moved Cx.2.2.2.2.1.alike hU.2.1
  exact va_alen (ws := [(a, .inl (G.2.2.2.1, len, .inl f))]) Cx.1 Cx.2.1 hK (rs_one (S.1 a _ hh)) 0 0 rfl rfl rfl hd (kk hU p e s m args below meth c H locs cells slots ls Cx S hc hs hls)
theorem rs_alenA {a len : Nat} {f : Nat → Option Nat} (hd : decode M.2.1 pc = .ok (.arraylength, 1)) (hp : pc + 1 = pc') (hh : h a = some (.inl (G.2.2.2.2.2, len, .inr (.inr (.inr (.inr f)))))) (kk : rsV G M rm Q kc ks pc' L (.int (nI len) :: st) h n) : rsV G M rm Q kc ks pc L (.ref a :: st) h n := by
  subst hp
  intro hU p e s m args below meth c H locs cells slots ls Cx S hc hs hls
  have hK := va_K.moved Cx.2.2.2.2.1.alike hU.2.1
  exact va_alen (ws := [(a, .inl (G.2.2.2.2.2, len, .inr (.inr (.inr (.inr f)))))]) Cx.1 Cx.2.1 hK (rs_one (S.1 a _ hh)) 0 2 rfl rfl rfl hd (kk hU p e s m args below meth c H locs cells slots ls Cx S hc hs hls)
theorem rs_iast {a j len : Nat} {f : Nat → Int32} {x : Int32} (hd : decode M.2.1 pc = .ok (.iastore, 1)) (hp : pc + 1 = pc') (hh : h a = some (.inl (G.2.2.2.1, len, .inl f))) (hj : j < len) (hlen : len < 2 ^ 31) (kk : rsV G M rm Q kc ks pc' L st (rs_up h a (.inl (G.2.2.2.1, len, .inl (upd f j x)))) n) : rsV G M rm Q kc ks pc L (.int x :: .int (nI j) :: .ref a :: st) h n := by
  subst hp
  intro hU p e s m args below meth c H locs cells slots ls Cx S hc hs hls
  have hK := va_K.moved Cx.2.2.2.2.1.alike hU.2.1
  have hin : vp_in (nI j) len := vp_in_nI hj hlen
  refine W.iast Cx.1 Cx.2.1 (S.1 a _ hh) ((hK.2 0 _ rfl).1 len (fun j => .int (f j))) (fun q => by cases q) (by show ¬ (nI j < 0 ∨ (arrV _ _ _).slots.size ≤ _); rw [arrV_size]; exact hin) rfl rfl hd fun H1 e1 z oq => ?_
  refine kk hU p e s m args below meth c H1 _ cells slots ls Cx (rs_S_put S hh ?_ z oq) hc hs hls
  show H1[a]? = some (vp_cell _ _)
  rw [e1, nI_clamp (by omega)]
  rw [vp_cell_i, vp_cell_i, arrV_store]
  congr 2
  funext q
  by_cases hq : q = j
  · subst hq
    simp [updV, upd]
  · simp [updV, upd, hq]
theorem rs_last {a j len : Nat} {f : Nat → Int64} {x : Int64} (hd : decode M.2.1 pc = .ok (.lastore, 1)) (hp : pc + 1 = pc') (hh : h a = some (.inl (G.2.2.2.2.1, len, .inr (.inl f)))) (hj : j < len) (hlen : len < 2 ^ 31) (kk : rsV G M rm Q kc ks pc' L st (rs_up h a (.inl (G.2.2.2.2.1, len, .inr (.inl (vp_updL f j x))))) n) : rsV G M rm Q kc ks pc L (.long x :: .int (nI j) :: .ref a :: st) h n := by
  subst hp
  intro hU p e s m args below meth c H locs cells slots ls Cx S hc hs hls
  have hK := va_K.moved Cx.2.2.2.2.1.alike hU.2.1
  have hin : vp_in (nI j) len := vp_in_nI hj hlen
  refine W.last Cx.1 Cx.2.1 (S.1 a _ hh) ((hK.2 1 _ rfl).1 len (fun j => .long (f j))) (fun q => by cases q) (by show ¬ (nI j < 0 ∨ (arrV _ _ _).slots.size ≤ _); rw [arrV_size]; exact hin) rfl rfl hd fun H1 e1 z oq => ?_
  refine kk hU p e s m args below meth c H1 _ cells slots ls Cx (rs_S_put S hh ?_ z oq) hc hs hls
  show H1[a]? = some (vp_cell _ _)
  rw [e1, nI_clamp (by omega)]
  rw [vp_cell_l, vp_cell_l, arrV_store]
  congr 2
  funext q
  by_cases hq : q = j
  · subst hq
    simp [updV, vp_updL]
  · simp [updV, vp_updL, hq]
theorem rs_aast {a j len v ci : Nat} {f : Nat → Option Nat} {vs : List Value} {T : u_T} {N : Nat} (hd : decode M.2.1 pc = .ok (.aastore, 1)) (hp : pc + 1 = pc') (hh : h a = some (.inl (G.2.2.2.2.2, len, .inr (.inr (.inr (.inr f)))))) (hj : j < len) (hlen : len < 2 ^ 31) (hv : h v = some (.inr (ci, vs))) (hcl : rsCl[ci]? = some ("RunStore$Entries", T, N))
    (kk : rsV G M rm Q kc ks pc' L st (rs_up h a (.inl (G.2.2.2.2.2, len, .inr (.inr (.inr (.inr (va_up f j (some v)))))))) n) : rsV G M rm Q kc ks pc L (.ref v :: .int (nI j) :: .ref a :: st) h n := by
  subst hp
  intro hU p e s m args below meth c H locs cells slots ls Cx S hc hs hls
  have hK := va_K.moved Cx.2.2.2.2.1.alike hU.2.1
  have hin : vp_in (nI j) len := vp_in_nI hj hlen
  have h0 : ¬ nI j < 0 := fun q => hin (Or.inl q)
  obtain ⟨r', hr', cellV, g1, g2, g3, -⟩ := S.1 v _ hv
  have hcls := (hK.1 ci _ hcl).2
  obtain ⟨kA, comp, k1, k2, k3, -⟩ := (hK.2 2 _ rfl).2
  have hcomp : comp = (rsD G).1 ci := Option.some.inj (k3.symm.trans hcls.1)
  subst hcomp
  obtain ⟨kC, hkC, -⟩ := hcls.2
  refine W.aast Cx.1 Cx.2.1 (S.1 a _ hh) (fun q h => by cases h) (fun h => by cases h) k1 k2 rfl hkC ⟨h0, by show _ < (arrV _ _ _).slots.size; rw [arrV_size, nI_clamp (by omega)]; exact hj⟩ g1 (fun q h => by rw [g3] at h; cases h) (by rw [g2]; exact hkC) (by rw [g2]; exact va_assign hcls) rfl rfl hd fun H1 e1 z oq => ?_
  refine kk hU p e s m args below meth c H1 _ cells slots ls Cx (rs_S_put S hh ?_ z oq) hc hs hls
  show H1[a]? = some (vp_cell _ _)
  rw [e1, nI_clamp (by omega)]
  rw [vp_cell_q, vp_cell_q, arrV_store]
  congr 2
  funext q
  by_cases hq : q = j
  · subst hq
    simp [updV, va_up, va_rf]
  · simp [updV, va_up, hq]
/-- what 'new' of a class of the world asks of the tables -/
def rsN (own : String) (index ci N : Nat) (fs : List Value) : Prop := ∃ (C : String) (T : u_T) (ty0 : Nat → FieldType), rsCl[ci]? = some (C, T, N) ∧ Cond.classLink own index C ∈ rsTs ∧ Cond.instantiable C N ∈ rsTs ∧ Cond.initialized C ∈ rsTs ∧ (∀ w ∈ u_ws C T N, w ∈ rsTs) ∧ (∀ k, k < N → parseFieldDescriptor (T k).2.2.1 = some (ty0 k)) ∧ ∀ j, j < N → defaultValue (ty0 j) = vp_V fs j
theorem rs_new {index ci N : Nat} {fs : List Value} (hd : decode M.2.1 pc = .ok (.new index, 3)) (hp : pc + 3 = pc') (hN : rsN M.1.cls index ci N fs) (hkc : kc' + 1 ≤ kc) (hks : ks' + N ≤ ks) (kk : rsV G M rm Q kc' ks' pc' L (.ref (rsB G + n) :: st) (rs_up h (rsB G + n) (.inr (ci, fs))) (n + 1)) : rsV G M rm Q kc ks pc L st h n := by
  subst hp
  obtain ⟨C, T, ty0, hcl, hw1, hw2, hw3, hin, hty, hfs⟩ := hN
  intro hU p e s m args below meth c H locs cells slots ls Cx S hc hs hls
  have hw : ∀ w ∈ rsTs, w.before args s = true := fun w hw => hU.1 w hw args s Cx.2.2.2.2.1
  have hK := va_K.moved Cx.2.2.2.2.1.alike hU.2.1
  have hKn := hK.1 ci _ hcl
  refine W.newcK Cx.1 Cx.2.1 Cx.2.2.2.1 (hw _ hw1) (hw _ hw2) (hw _ hw3) rfl hd (by omega) (by omega) hKn.2.1 rfl fun H1 kC hkC e1 z1 o1 => ?_
  have hb := u_born ty0 hw hin hKn hkC e1 hty
  have := kk hU p e s m args below meth c H1 locs (cells + 1) (slots + N) ls Cx (rs_S_new S ⟨_, hcl, hb.to hfs⟩ z1 o1) (by omega) (by omega) hls
  rw [← S.2.1] at this
  exact this
theorem rs_newaI {N : Nat} {i : Int32} (hd : decode M.2.1 pc = .ok (.newarray .int, 2)) (hp : pc + 2 = pc') (hw1 : Cond.arrayClass .int ∈ rsTs) (hi : i = nI N) (hlen : N < 2 ^ 20) (hkc : kc' + 1 ≤ kc) (hks : ks' + N ≤ ks)
    (kk : rsV G M rm Q kc' ks' pc' L (.ref (rsB G + n) :: st) (rs_up h (rsB G + n) (.inl (G.2.2.2.1, N, .inl (fun _ => 0)))) (n + 1)) : rsV G M rm Q kc ks pc L (.int i :: st) h n := by
  subst hp
  subst hi
  intro hU p e s m args below meth c H locs cells slots ls Cx S hc hs hls
  have hw : ∀ w ∈ rsTs, w.before args s = true := fun w hw => hU.1 w hw args s Cx.2.2.2.2.1
  have hK := va_K.moved Cx.2.2.2.2.1.alike hU.2.1
  refine va_newaK (atype := .int) Cx.1 Cx.2.1 (hw _ hw1) rfl hd rfl (nI_pos (by omega)) (nI_clamp (by omega)) (by show N * 4 ≤ _; omega) (by omega) (by omega) rfl fun H1 cA e1 z1 o1 hAr hNm => ?_
  have hcA : cA = G.2.2.2.1 := Option.some.inj (hNm.symm.trans (hK.2 0 _ rfl).2)
  subst hcA
  have := kk hU p e s m args below meth c H1 locs (cells + 1) (slots + N) ls Cx (rs_S_new S (by show H1[H.size]? = some (vp_cell _ _); rw [vp_cell_i]; exact e1) z1 o1) (by omega) (by omega) hls
  rw [← S.2.1] at this
  exact this
theorem rs_newaL {N : Nat} {i : Int32} (hd : decode M.2.1 pc = .ok (.newarray .long, 2)) (hp : pc + 2 = pc') (hw1 : Cond.arrayClass .long ∈ rsTs) (hi : i = nI N) (hlen : N < 2 ^ 20) (hkc : kc' + 1 ≤ kc) (hks : ks' + N ≤ ks)
    (kk : rsV G M rm Q kc' ks' pc' L (.ref (rsB G + n) :: st) (rs_up h (rsB G + n) (.inl (G.2.2.2.2.1, N, .inr (.inl (fun _ => 0))))) (n + 1)) : rsV G M rm Q kc ks pc L (.int i :: st) h n := by
  subst hp
  subst hi
  intro hU p e s m args below meth c H locs cells slots ls Cx S hc hs hls
  have hw : ∀ w ∈ rsTs, w.before args s = true := fun w hw => hU.1 w hw args s Cx.2.2.2.2.1
  have hK := va_K.moved Cx.2.2.2.2.1.alike hU.2.1
  refine va_newaK (atype := .long) Cx.1 Cx.2.1 (hw _ hw1) rfl hd rfl (nI_pos (by omega)) (nI_clamp (by omega)) (by show N * 8 ≤ _; omega) (by omega) (by omega) rfl fun H1 cA e1 z1 o1 hAr hNm => ?_
  have hcA : cA = G.2.2.2.2.1 := Option.some.inj (hNm.symm.trans (hK.2 1 _ rfl).2)
  subst hcA
  have := kk hU p e s m args below meth c H1 locs (cells + 1) (slots + N) ls Cx (rs_S_new S (by show H1[H.size]? = some (vp_cell _ _); rw [vp_cell_l]; exact e1) z1 o1) (by omega) (by omega) hls
  rw [← S.2.1] at this
  exact this
theorem rs_newaE {N index : Nat} {i : Int32} (hd : decode M.2.1 pc = .ok (.anewarray index, 3)) (hp : pc + 3 = pc') (hw1 : Cond.classLink M.1.cls index "RunStore$Entries" ∈ rsTs) (hw2 : Cond.arrayOver (.object "RunStore$Entries") ∈ rsTs) (hi : i = nI N) (hlen : N < 2 ^ 20) (hkc : kc' + 1 ≤ kc) (hks : ks' + N ≤ ks)
    (kk : rsV G M rm Q kc' ks' pc' L (.ref (rsB G + n) :: st) (rs_up h (rsB G + n) (.inl (G.2.2.2.2.2, N, .inr (.inr (.inr (.inr (fun _ => none))))))) (n + 1)) : rsV G M rm Q kc ks pc L (.int i :: st) h n := by
  subst hp
  subst hi
  intro hU p e s m args below meth c H locs cells slots ls Cx S hc hs hls
  have hw : ∀ w ∈ rsTs, w.before args s = true := fun w hw => hU.1 w hw args s Cx.2.2.2.2.1
  have hK := va_K.moved Cx.2.2.2.2.1.alike hU.2.1
  have hcn : (nI N).toNatClampNeg = N := nI_clamp (by omega)
  refine W.anew Cx.1 Cx.2.1 Cx.2.2.2.1 (hw _ hw1) (hw _ hw2) rfl hd rfl (nI_pos (by omega)) (by rw [hcn]; omega) (by omega) (by rw [hcn]; omega) fun cA kA comp f1 f2 f3 f4 => ?_
  obtain ⟨kA', comp', k1, k2, k3, k4⟩ := (hK.2 2 _ rfl).2
  have hcA : cA = G.2.2.2.2.2 := Option.some.inj (f1.symm.trans k4)
  subst hcA
  rw [hcn]
  generalize hH1 : H.push ({ cls := G.2.2.2.2.2, slots := Array.replicate N .null, vm := .none } : Cell) = H1
  have z1 : H1.size = H.size + 1 := by rw [← hH1, Array.size_push]
  have e1 : H1[H.size]? = some (arrV G.2.2.2.2.2 N (fun _ => .null)) := by rw [← hH1, Array.getElem?_push_size, ← arrV_new]
  have o1 : ∀ q : Nat, q < H.size → H1[q]? = H[q]? := fun q hq => by rw [← hH1, Array.getElem?_push, if_neg (Nat.ne_of_lt hq)]
  have := kk hU p e s m args below meth c H1 locs (cells + 1) (slots + N) ls Cx (rs_S_new S (by show H1[H.size]? = some (vp_cell _ _); rw [vp_cell_q]; exact e1) z1 o1) (by omega) (by omega) hls
  rw [← S.2.1] at this
  exact this
theorem rs_obj {a index : Nat} (hd : decode M.2.1 pc = .ok (.invokespecial index, 3)) (hp : pc + 3 = pc') (hw1 : Cond.methodLink M.1.cls index Lib.objectInit ∈ rsTs) (hw2 : Cond.instanceMethod Lib.objectInit ∈ rsTs) (hw3 : Cond.code Lib.objectInit ⟨#[0xb1]⟩ 1 none ∈ rsTs) (hst : (st.map fun v => v.category).sum ≤ 8) (hfr : 1 ≤ rm.frames) (hlo : 20 ≤ rm.locals)
    (kk : rsV G M rm Q kc ks pc' L st h n) : rsV G M rm Q kc ks pc L (.ref a :: st) h n := by
  subst hp
  intro hU p e s m args below meth c H locs cells slots ls Cx S hc hs hls
  have hw : ∀ w ∈ rsTs, w.before args s = true := fun w hw => hU.1 w hw args s Cx.2.2.2.2.1
  refine W.objInit Cx.1 Cx.2.1 Cx.2.2.2.1 (hw _ hw1) (hw _ hw2) (hw _ hw3) rfl (by rw [Cx.2.2.1]; exact hls.1) rfl hd hfr (by show 2 * 0 + _ + 12 ≤ _; omega) ?_
  exact kk hU p e s m args below meth c H locs cells slots ls Cx S hc hs hls
end RSHP
end
section
/-! 07a: the constructor of an exception with a message, and its throw: the state that is left -/
/-- what the making of an exception X wants of the tables: X passes its text on to Y by (ix, bs), Y and its own by the common six bytes -/
def rs_atoms (own : String) (ic : Nat) (X Y : String) (r : List String) (ix : Nat) (bs : ByteArray) : List Cond :=
  Bundle.throwableAtoms ++ Bundle.throwableSAtoms ++ (Bundle.passSAtoms X Y ix bs ++ Bundle.chainSAtoms Y r) ++
  [.methodLink own ic (Bundle.initS X), .instantiable X 6, .castable X X, .selects X Bundle.tFill0 Bundle.tFill0, .selects X Bundle.tFill Bundle.tFill,
   .lays X Bundle.tN "cause" "Ljava/lang/Throwable;", .lays X Bundle.tN "stackTrace" Bundle.steD, .lays X Bundle.tN "suppressedExceptions" Bundle.listD, .lays X Bundle.tN "detailMessage" "Ljava/lang/String;",
   .isRef (.static Bundle.tN "UNASSIGNED_STACK" Bundle.steD), .isRef (.static Bundle.tN "SUPPRESSED_SENTINEL" Bundle.listD),
   .fieldLink Bundle.tN 198 Bundle.tN "backtrace" "Ljava/lang/Object;", .lays Bundle.tN Bundle.tN "backtrace" "Ljava/lang/Object;", .lays X Bundle.tN "backtrace" "Ljava/lang/Object;"]
section RSCR
variable {p : Program} {l : Launch} {e : Env} {R : Room} {s : State} {m₀ : MethodId} {args : Array Value} {below : List Frame} {meth : Method} {c : Code} {Wo : State} {locs : List Loc} {cells slots : Nat}
set_option maxHeartbeats 1000000 in
theorem rs_ctorThrow (X : Stand p l e R s m₀ args below meth c Wo locs cells slots) (hexec : p.tables.exec = Jvm.exec) (htr : e.platform.stackTraces = false) {own cls Yn : String} {names : List String} {ic ix : Nat} {bs : ByteArray}
    (hown : s.vm.findClass own = some m₀.cls) (hcls : Bundle.fit cls = true) (hYn : Bundle.fit Yn = true) (hnames : ∀ n ∈ names, Bundle.fit n = true) (hb0 : decode bs 0 = .ok (.aload_n 0, 1)) (hb1 : decode bs 1 = .ok (.aload_n 1, 1)) (hb2 : decode bs 2 = .ok (.invokespecial ix, 3)) (hb5 : decode bs 5 = .ok (.return_, 1)) (h : ∀ a ∈ rs_atoms own ic cls Yn names ix bs, a.before args s = true)
    (hlocs : ∀ x ∈ locs, ∀ cell, s.heap[x.base]? = some cell → cell.vm.isStatics = false)
    {a : Addr} {cX : ClassId} {kX : Class} (hfoundX : s.vm.findClass cls = some cX) (hkX : s.vm.classes[cX]? = some kX) (hcell : Wo.heap[a]? = some (freshCell cX kX)) (hnew : s.heap.size ≤ a) {msg : Value} (hmsg : msg.isRef = true)
    {g : JFrame} (hg : g.method = m₀) (hsize : g.locals.size = c.maxLocals) (hlocked : g.locked = none) (hentered : g.entered = []) {rest : List Value} (hstack : g.stack = msg :: .ref a :: .ref a :: rest)
    (hd6 : decode c.code g.pc = .ok (.invokespecial ic, 3)) (hd9 : decode c.code (g.pc + 3) = .ok (.athrow, 1)) (hout : ∀ x ∈ c.exceptionTable.toList, covers x (g.pc + 3) = false)
    (hRframes : names.length + 4 < R.frames) (hRlocals : 2 * g.monitorRoom + ((Value.ref a :: rest).map fun v => v.category).sum + (13 * (names.length + 2) + 42) ≤ R.locals) (hlocks : meth.locks = false) :
    ∃ (vm' : Vm) (ce : Cell), ce.cls = cX ∧ ce.vm = .none ∧ Steps p.tables e below (Wo.setTop g) (((Wo.setVm vm').setCell a ce).setFrames (.throwing a :: below)) ∧ (((Wo.setVm vm').setCell a ce).setFrames (.throwing a :: below)).status = .running ∧
      Ended (((Wo.setVm vm').setCell a ce).setFrames (.throwing a :: below)) below (.threw a) ∧ s.WarmedH vm' ∧ s.sameButNew ({ (((Wo.setVm vm').setCell a ce).setFrames (.throwing a :: below)) with vm := s.vm } : State) locs cells slots := by
  have howns : e.platform.frameOwnsMonitors = true := by rw [X.admits.platform]
  have hfin : e.platform.finalization = false := by rw [X.admits.platform]
  have hpl : e.platform.magicAccessors = ({} : Platform).magicAccessors := by rw [X.admits.platform]
  have a' : ∀ x, x ∈ rs_atoms own ic cls Yn names ix bs → x.holds args s none s [] = true := fun x hx => h x hx
  obtain ⟨T, Z0, L, -, Y⟩ := ThrowableC.of_atoms (args := args) howns hfin hpl (fun x hx => h x (by simp [rs_atoms, hx]))
  obtain ⟨Z, M, LZ, LM, hnZ⟩ := Init0T.ofS_atoms (args := args) hpl L Y (fun x hx => h x (by simp [rs_atoms, hx]))
  obtain ⟨P1, L1, hP1m, hP1s⟩ := PassC.ofS_atoms (args := args) (s := s) hpl (X := cls) (Y := Yn) (Bundle.fit_spec hcls).1 (Bundle.fit_spec hYn).2 hb0 hb1 hb2 hb5 (fun x hx => h x (by simp [rs_atoms, hx]))
  obtain ⟨P2, Ps, hlen, L2, hL, hP2m, hlink2, hlink⟩ := Bundle.chainS (args := args) hpl hnZ names Yn hYn hnames (fun x hx => h x (by simp [rs_atoms, hx]))
  have hlink1 : P1.sup = P2.m := Option.some.inj (hP1s.symm.trans hP2m)
  have hfound : s.vm.findClass cls = some P1.m.cls := findClass_of_methodNamed hP1m
  cases Option.some.inj (hfoundX.symm.trans hfound)
  obtain ⟨c1, kX', hc1, hk, hord, -, -, hn6⟩ := Cond.instantiable_spec (a' (.instantiable cls 6) (by simp [rs_atoms]))
  cases Option.some.inj (hc1.symm.trans hfound)
  cases Option.some.inj (hkX.symm.trans hk)
  have hsel0 : selectMethod e.platform s.vm P1.m.cls T.fill0 = .method T.fill0 := by
    obtain ⟨c2, r2, m2, q1, q2, q3, q4, -⟩ := Cond.selects_spec (a' (.selects cls Bundle.tFill0 Bundle.tFill0) (by simp [rs_atoms]))
    cases Option.some.inj (q1.symm.trans hfound)
    cases Option.some.inj (q2.symm.trans (State.methodFound?_of_named Y.fill0 (by decide)))
    cases Option.some.inj (q3.symm.trans Y.fill0)
    rw [Launch.admits_selectMethod X.admits]; exact q4
  have hselF : selectMethod e.platform s.vm P1.m.cls T.fill = .method T.fill := by
    obtain ⟨c2, r2, m2, q1, q2, q3, q4, -⟩ := Cond.selects_spec (a' (.selects cls Bundle.tFill Bundle.tFill) (by simp [rs_atoms]))
    cases Option.some.inj (q1.symm.trans hfound)
    cases Option.some.inj (q2.symm.trans (State.methodFound?_of_named Y.fill (by decide)))
    cases Option.some.inj (q3.symm.trans Y.fill)
    rw [Launch.admits_selectMethod X.admits]; exact q4
  obtain ⟨cellS0, hcS0, hiss⟩ := Y.statics
  obtain ⟨u0, hu0⟩ := Cond.staticRefV Y.unassigned L.unassignedStatic L.statics hcS0 hiss (a' (.isRef (.static Bundle.tN "UNASSIGNED_STACK" Bundle.steD)) (by simp [rs_atoms]))
  obtain ⟨sen, hsen⟩ := Cond.staticRefV Y.sentinel L.sentinelStatic L.statics hcS0 hiss (a' (.isRef (.static Bundle.tN "SUPPRESSED_SENTINEL" Bundle.listD)) (by simp [rs_atoms]))
  obtain ⟨ci198, i198, fB, hk198, hg198, ha198, hsB, -, hnB, htB, hffB⟩ := Cond.ownField (t := .object "java/lang/Object") Y.found L.cls (by decide +kernel) (a' (.fieldLink Bundle.tN 198 Bundle.tN "backtrace" "Ljava/lang/Object;") (by simp [rs_atoms])) (a' (.lays Bundle.tN Bundle.tN "backtrace" "Ljava/lang/Object;") (by simp [rs_atoms])) e.platform hpl
  obtain ⟨cellS, hcS', heS, -, hkeep⟩ := X.same.2.2.2.2.2 T.aS cellS0 hcS0
  have hcellS : Wo.heap[T.aS]? = some cellS := hcS'
  have hout' : ∀ i, (⟨T.aS, i⟩ : Loc) ∉ locs := fun i hmem => by
    have := hlocs _ hmem cellS0 hcS0
    rw [hiss] at this; cases this
  have hknownS : cellS.vm ≠ .unknown := by
    rw [heS]; intro hu
    rw [show cellS0.vm = .unknown from hu] at hiss
    cases hiss
  have hneS : T.aS ≠ a := Nat.ne_of_lt (Nat.lt_of_lt_of_le (Array.getElem?_eq_some_iff.mp hcS0).1 hnew)
  obtain ⟨iM, hffM⟩ := Y.msg
  obtain ⟨tyC, dC, hdC, hdnC⟩ := Cond.laysAt hfound hk Y.cause (a' (.lays cls Bundle.tN "cause" "Ljava/lang/Throwable;") (by simp [rs_atoms]))
  obtain ⟨tyS, dS, hdS, hdnS⟩ := Cond.laysAt hfound hk Y.stack (a' (.lays cls Bundle.tN "stackTrace" Bundle.steD) (by simp [rs_atoms]))
  obtain ⟨tyP, dP, hdP, hdnP⟩ := Cond.laysAt hfound hk Y.supp (a' (.lays cls Bundle.tN "suppressedExceptions" Bundle.listD) (by simp [rs_atoms]))
  obtain ⟨tyM, dM, hdM, hdnM⟩ := Cond.laysAt hfound hk hffM (a' (.lays cls Bundle.tN "detailMessage" "Ljava/lang/String;") (by simp [rs_atoms]))
  obtain ⟨tyB, dB, hdB, hdnB⟩ := Cond.laysAt hfound hk hffB (a' (.lays cls Bundle.tN "backtrace" "Ljava/lang/Object;") (by simp [rs_atoms]))
  have bC := Cond.laysApart hdB hdC hdnB hdnC (by rw [hnB, Y.causeName]; decide)
  have bS := Cond.laysApart hdB hdS hdnB hdnS (by rw [hnB, Y.stackName]; decide)
  have bP := Cond.laysApart hdB hdP hdnB hdnP (by rw [hnB, Y.suppName]; decide)
  have hskip : SkipFacts T e.platform s (fun u => u) u0 ((preparedCellV T.toThrowableT (freshCell P1.m.cls kX) a u0 sen).withEntry Wo.cur) :=
    ⟨{ ci198 := ci198, i198 := i198, fBack := fB }, ⟨hk198, hg198, ha198, hsB⟩, by
      have := fresh_default (c := P1.m.cls) tyB
      rw [htB] at this
      simpa [preparedCellV, Cell.setSlot, Cell.withEntry, Array.getElem?_setIfInBounds, bC, bS, bP, bC.symm, bS.symm, bP.symm, defaultValue] using this, fun _ _ => rfl⟩
  obtain ⟨tm, methC, cdC, kC, vm₁, hnC, -, -, -, -, -, -, -, hW₁, st1⟩ := Steps.initColdS (tb := p.tables) (e := e) (below := below) (s := s) (U := Wo) X.here hexec X.warmed hpl hown (t := Bundle.initS cls) rfl rfl (Bundle.fit_spec hcls).2
    (a' (.methodLink own ic (Bundle.initS cls)) (by simp [rs_atoms])) (h (.instanceMethod (Bundle.initS cls)) (by simp [rs_atoms, Bundle.passSAtoms])) (bytes := bs) (maxL := 2) (h (.code (Bundle.initS cls) bs 2 none) (by simp [rs_atoms, Bundle.passSAtoms]))
    (f := g) hg (a := a) (msg := msg) (rest := .ref a :: rest) hstack hd6
  cases Option.some.inj (hnC.symm.trans hP1m)
  have X₁ := X.noted hW₁
  obtain ⟨vm₂, X₂, st2⟩ := X₁.ctorMessageOffV hexec (g := { g with stack := .ref a :: rest }) hg hsize T L Z LZ M LM (P1 :: P2 :: Ps)
    (fun P hP => by
      rcases List.mem_cons.mp hP with rfl | hP
      · exact L1
      · rcases List.mem_cons.mp hP with rfl | hP
        · exact L2
        · exact hL P hP) ⟨hlink1, hlink2, hlink⟩ (u0 := u0) (sen := sen) (self := a) hmsg (cell := freshCell P1.m.cls kX) (cellS := cellS)
    hcell (fun _ => by simp) (by simp) rfl rfl hsel0 hselF hcellS hneS hknownS (by rw [hkeep _ (hout' _)]; exact hu0) (by rw [hkeep _ (hout' _)]; exact hsen)
    (Takes.of_laid hk hord tyC (by rw [Y.causeType]; rfl)) (Takes.of_laid hk hord tyS (by rw [Y.stackType]; exact fits_refV_array _ u0)) (Takes.of_laid hk hord tyP (by rw [Y.suppType]; exact fits_refV_object _ sen))
    (Takes.of_laid hk hord tyM (by rw [Y.msgType]; exact fits_refV_object _ ⟨msg, hmsg⟩)) Y.objLocals hskip htr [] hd6
    (by simp only [List.length_cons, hlen]; omega) (by simp only [List.length_cons, hlen]; exact hRlocals)
  obtain ⟨hwalk, hrun, hended, hWU, hsame⟩ := X₂.athrowLeaves hexec (g := { g with stack := .ref a :: rest, pc := g.pc + 3 }) hg hlocked hentered hout (a := a) (rest := rest) rfl hd9
  refine ⟨vm₂, plainBareV T.toThrowableT (freshCell P1.m.cls kX) a u0 sen msg, rfl, rfl, st1 _ (fun acts => ?_), hrun, hended, hWU, hsame.weaken (fun y hy hlt' => ?_) (Nat.le_refl _) (Nat.le_refl _)⟩
  · rw [doInvoke_state]
    exact st2 _ hwalk
  · rcases List.mem_append.mp hy with h1 | h1
    · exact h1
    · exfalso
      have hb : y.base = a := by
        simp only [List.mem_cons, List.not_mem_nil, or_false] at h1
        rcases h1 with rfl | rfl | rfl | rfl | rfl <;> rfl
      rw [hb] at hlt'
      exact Nat.not_lt.mpr hnew hlt'
end RSCR
end
section
/-! 06b: exceptions: what the start says, at every later state (written by gen_facts.py) -/
theorem rsX_tr {G : rsG} {e : Env} (hU : rsU G) (ha : (rsL G).admits e) : e.platform.stackTraces = false := Launch.traces_off hU.2.2.1 ha
theorem rsX_cls {G : rsG} {U : State} {k : Nat} (hU : rsU G) (hW : (rsS0 G).WarmedH U.vm) (hk : k < 4) : ∃ c, ClassAt U (rsEx k) c := by
  obtain ⟨c, hc⟩ := hU.2.2.2.1 k hk
  exact ⟨c, classAt_moved hW.alike hc⟩
theorem rsX_self {G : rsG} {U : State} {k : Nat} {cell : Cell} (hU : rsU G) (hW : (rsS0 G).WarmedH U.vm) (hc : U.vm.findClass (rsEx k) = some cell.cls) : U.vm.assignable cell.cls cell.cls = true := by
  by_cases hk : k < 4
  · obtain ⟨c, h1⟩ := rsX_cls hU hW hk
    have : c = cell.cls := Option.some.inj (h1.1.symm.trans hc)
    subst this
    exact va_assign h1
  · have e3 : rsEx k = rsEx 3 := by
      match k, hk with
      | 0, h => exact absurd (by decide) h
      | 1, h => exact absurd (by decide) h
      | 2, h => exact absurd (by decide) h
      | n + 3, _ => rfl
    rw [e3] at hc
    obtain ⟨c, h1⟩ := rsX_cls (k := 3) hU hW (by decide)
    have : c = cell.cls := Option.some.inj (h1.1.symm.trans hc)
    subst this
    exact va_assign h1
theorem rsX_no {G : rsG} {U : State} {k k' : Nat} {c c' : ClassId} (hU : rsU G) (hW : (rsS0 G).WarmedH U.vm) (hn : rsNo k k') (h1 : U.vm.findClass (rsEx k) = some c) (h2 : U.vm.findClass (rsEx k') = some c') : U.vm.assignable c c' = false := by
  obtain ⟨a, b, g1, g2, g3⟩ := va_Nc.moved hW.alike (hU.2.2.2.2.1 k k' hn)
  cases g1.symm.trans h1
  cases g2.symm.trans h2
  exact g3
theorem rsX_str {G : rsG} {U : State} {own tx : String} {i : Nat} (hU : rsU G) (hW : (rsS0 G).WarmedH U.vm) (h : (own, i, tx) ∈ rsStr) : ∃ a, vk_R own i tx a U := by
  obtain ⟨a, ha⟩ := hU.2.2.2.2.2.1 _ h
  exact ⟨a, vk_R.warm hW ha⟩
def rs_ix : Nat → Nat
  | 3 => 13
  | _ => 7
def rs_bs : Nat → ByteArray
  | 3 => prog_15_method_4_code
  | _ => Bundle.six
/-- every word that an exception's making wants, the caller's link apart -/
abbrev rs_at (own : String) (ic k : Nat) : List Cond := rs_atoms own ic (rsEx k) "java/lang/RuntimeException" ["java/lang/Exception"] (rs_ix k) (rs_bs k)
def rs_four : List Cond := [.isRef (.static Bundle.tN "UNASSIGNED_STACK" Bundle.steD), .isRef (.static Bundle.tN "SUPPRESSED_SENTINEL" Bundle.listD), .laysStatic Bundle.tN "UNASSIGNED_STACK" Bundle.steD, .laysStatic Bundle.tN "SUPPRESSED_SENTINEL" Bundle.listD]
theorem rs_own_0 : ∀ w ∈ rs_at "" 0 0, w ∈ rs_four ∨ w = .methodLink "" 0 (Bundle.initS (rsEx 0)) ∨ (w ∈ tables_1 ∧ rs_good w = true) := by decide +kernel
theorem rs_own_1 : ∀ w ∈ rs_at "" 0 1, w ∈ rs_four ∨ w = .methodLink "" 0 (Bundle.initS (rsEx 1)) ∨ (w ∈ tables_1 ∧ rs_good w = true) := by decide +kernel
theorem rs_own_2 : ∀ w ∈ rs_at "" 0 2, w ∈ rs_four ∨ w = .methodLink "" 0 (Bundle.initS (rsEx 2)) ∨ (w ∈ tables_1 ∧ rs_good w = true) := by decide +kernel
theorem rs_own_3 : ∀ w ∈ rs_at "" 0 3, w ∈ rs_four ∨ w = .methodLink "" 0 (Bundle.initS (rsEx 3)) ∨ (w ∈ tables_1 ∧ rs_good w = true) := by decide +kernel
theorem rs_own_in {k : Nat} (hk : k < 4) : ∀ w ∈ rs_at "" 0 k, w ∈ rs_four ∨ w = .methodLink "" 0 (Bundle.initS (rsEx k)) ∨ w ∈ rsTs := by
  have key : ∀ w : Cond, (w ∈ rs_four ∨ w = .methodLink "" 0 (Bundle.initS (rsEx k)) ∨ (w ∈ tables_1 ∧ rs_good w = true)) → w ∈ rs_four ∨ w = .methodLink "" 0 (Bundle.initS (rsEx k)) ∨ w ∈ rsTs := fun w h => by
    rcases h with h | h | ⟨h, g⟩
    · exact Or.inl h
    · exact Or.inr (Or.inl h)
    · exact Or.inr (Or.inr (rs_in (List.mem_append_right _ h) g))
  intro w hw
  match k, hk with
  | 0, _ => exact key w (rs_own_0 w hw)
  | 1, _ => exact key w (rs_own_1 w hw)
  | 2, _ => exact key w (rs_own_2 w hw)
  | 3, _ => exact key w (rs_own_3 w hw)
theorem rs_own_split {own : String} {ic k : Nat} {w : Cond} (hw : w ∈ rs_at own ic k) : w = .methodLink own ic (Bundle.initS (rsEx k)) ∨ w ∈ rs_four ∨ w ∈ rsTs ∨ ¬ k < 4 := by
  by_cases hk : k < 4
  · unfold rs_at rs_atoms at hw
    have key : w ∈ rs_at "" 0 k → w ≠ .methodLink "" 0 (Bundle.initS (rsEx k)) → w = .methodLink own ic (Bundle.initS (rsEx k)) ∨ w ∈ rs_four ∨ w ∈ rsTs ∨ ¬ k < 4 := fun h hn => by
      rcases rs_own_in hk w h with h | h | h
      · exact Or.inr (Or.inl h)
      · exact absurd h hn
      · exact Or.inr (Or.inr (Or.inl h))
    have nl : ∀ w ∈ Bundle.throwableAtoms ++ Bundle.throwableSAtoms ++ (Bundle.passSAtoms (rsEx k) "java/lang/RuntimeException" (rs_ix k) (rs_bs k) ++ Bundle.chainSAtoms "java/lang/RuntimeException" ["java/lang/Exception"]), w ≠ .methodLink "" 0 (Bundle.initS (rsEx k)) := by
      match k, hk with
      | 0, _ => exact (by decide +kernel)
      | 1, _ => exact (by decide +kernel)
      | 2, _ => exact (by decide +kernel)
      | 3, _ => exact (by decide +kernel)
    rcases List.mem_append.mp hw with h | h
    · exact key (List.mem_append_left _ h) (nl w h)
    · rcases List.mem_cons.mp h with h | h
      · exact Or.inl h
      · refine key (List.mem_append_right _ (List.mem_cons_of_mem _ h)) fun e => ?_
        subst e
        simp at h
  · exact Or.inr (Or.inr (Or.inr hk))
theorem rsX_own {G : rsG} {s : State} {args : Array Value} {own : String} {ic k : Nat} (hU : rsU G) (hW : (rsS0 G).WarmedH s.vm) (hold : ∀ q, q < rsB G → s.heap[q]? = (rsS0 G).heap[q]?) (hk : k < 4) (hl : Cond.methodLink own ic (Bundle.initS (rsEx k)) ∈ rsTs) : ∀ w ∈ rs_at own ic k, w.before args s = true := by
  intro w hw
  obtain ⟨-, -, -, -, x1, x2, x3, x4⟩ := hU.2.2
  rcases rs_own_split hw with rfl | h | h | h
  · exact hU.1 _ hl args s hW
  · simp only [rs_four, List.mem_cons, List.not_mem_nil, or_false] at h
    rcases h with rfl | rfl | rfl | rfl
    · exact rs_Z_at hW.alike rfl hold x3 args
    · exact rs_Z_at hW.alike rfl hold x4 args
    · exact rs_L_at hW.alike hold x1 args
    · exact rs_L_at hW.alike hold x2 args
  · exact hU.1 _ h args s hW
  · exact absurd hk h
end
section
/-! 07b: new X("..") thrown: the method ends by the throw -/
theorem rs_S_exc {G : rsG} {h : rsH} {n : Nat} {H H1 : Heap} {locs : List Loc} {ce : Cell} (S : rsS G h n H locs) (z1 : H1.size = H.size + 1) (o1 : ∀ q, q < H.size → H1[q]? = H[q]?) (hvm : ce.vm = .none) : rsS G h (n + 1) (H1.setIfInBounds H.size ce) [] := by
  have hz := S.2.1
  have oq : ∀ q, q < H.size → (H1.setIfInBounds H.size ce)[q]? = H[q]? := fun q hq => by rw [Array.getElem?_setIfInBounds_ne (by omega)]; exact o1 q hq
  refine ⟨fun a x hx => (S.1 a x hx).kept (oq a (S.1 a x hx).lt), by rw [Array.size_setIfInBounds, z1, hz]; omega, fun q hq => ?_, fun q hq => (by cases hq), S.2.2.2.2.1, fun q cell hq hcell => ?_⟩
  · rw [oq q (by omega)]; exact S.2.2.1 q hq
  · by_cases h1 : q < H.size
    · rw [oq q h1] at hcell; exact S.2.2.2.2.2 q cell hq hcell
    · have h2 : q < (H1.setIfInBounds H.size ce).size := (Array.getElem?_eq_some_iff.mp hcell).1
      rw [Array.size_setIfInBounds] at h2
      have h3 : q = H.size := by omega
      subst h3
      rw [Array.getElem?_setIfInBounds_self_of_lt (by omega)] at hcell
      cases hcell
      rw [hvm]; rfl
theorem rs_bs_0 (k : Nat) : decode (rs_bs k) 0 = .ok (.aload_n 0, 1) := by
  unfold rs_bs; split <;> decide +kernel
theorem rs_bs_1 (k : Nat) : decode (rs_bs k) 1 = .ok (.aload_n 1, 1) := by
  unfold rs_bs; split <;> decide +kernel
theorem rs_bs_2 (k : Nat) : decode (rs_bs k) 2 = .ok (.invokespecial (rs_ix k), 3) := by
  unfold rs_bs rs_ix; split <;> decide +kernel
theorem rs_bs_5 (k : Nat) : decode (rs_bs k) 5 = .ok (.return_, 1) := by
  unfold rs_bs; split <;> decide +kernel
section RSTH
variable {G : rsG} {M : rsM} {rm : Room} {Q : rsR → rsH → Nat → Prop} {kc ks pc : Nat} {L : List (Option Value)} {st : List Value} {h : rsH} {n : Nat}
theorem rs_throw {k index is ic : Nat} {tx : String} (hd0 : decode M.2.1 pc = .ok (.new index, 3)) (hd3 : decode M.2.1 (pc + 3) = .ok (.dup, 1)) (hd4 : decode M.2.1 (pc + 3 + 1) = .ok (.ldc is, 2)) (hd6 : decode M.2.1 (pc + 3 + 1 + 2) = .ok (.invokespecial ic, 3)) (hd9 : decode M.2.1 (pc + 3 + 1 + 2 + 3) = .ok (.athrow, 1))
    (hk4 : k < 4) (hw1 : Cond.classLink M.1.cls index (rsEx k) ∈ rsTs) (hw2 : Cond.instantiable (rsEx k) 6 ∈ rsTs) (hw3 : Cond.initialized (rsEx k) ∈ rsTs) (hwl : Cond.methodLink M.1.cls ic (Bundle.initS (rsEx k)) ∈ rsTs) (hstr : (M.1.cls, is, tx) ∈ rsStr)
    (hout : M.2.2.2.2 = []) (hst : (st.map fun v => v.category).sum ≤ 8) (hkc : 1 ≤ kc) (hks : 6 ≤ ks) (hfr : 6 ≤ rm.frames) (hlo : 90 ≤ rm.locals) (hq : Q (.inr k) h (n + 1)) : rsV G M rm Q kc ks pc L st h n := by
  intro hU p e s m args below meth c H locs cells slots ls Cx S hc hs hls
  have hw : ∀ w ∈ rsTs, w.before args s = true := fun w hw => hU.1 w hw args s Cx.2.2.2.2.1
  intro T0 hT0 X0
  have hsz : s.heap.size ≤ H.size := by
    have h1 : s.heap.size ≤ T0.heap.size := X0.same.2.1
    rw [hT0] at h1; exact h1
  refine (?_ : W p (rsL G) e rm s m args below meth c H locs cells slots _ (F0 m pc ls st)) T0 hT0 X0
  clear X0 hT0
  obtain ⟨cC, kC, hfc, hkC, -⟩ := Cond.instantiable_spec (hw _ hw2)
  obtain ⟨q, hR⟩ := rsX_str hU Cx.2.2.2.2.1 hstr
  refine W.newcK Cx.1 Cx.2.1 Cx.2.2.2.1 (hw _ hw1) (hw _ hw2) (hw _ hw3) rfl hd0 (by omega) (by omega) hfc rfl fun H1 kC' hkC' e1 z1 o1 => ?_
  refine lv_dup Cx.1 Cx.2.1 hd3 rfl ?_
  refine va_ldcS Cx.1 Cx.2.1 Cx.2.2.2.1 hR hd4 ?_
  intro T hT X
  have X := stand_widen X (k := rm.cells) (n := rm.slots) (by omega) (by omega)
  have hex : c.exceptionTable.toList = [] := by
    have h1 := Cx.2.2.2.2.2.2.2.1
    rw [hout] at h1
    exact List.map_eq_nil_iff.mp h1
  obtain ⟨vm', ce, hcls, hvm, hsteps, hrun, hended, hWv, hsame⟩ := rs_ctorThrow X Cx.1 (rsX_tr hU X.admits) (own := M.1.cls) (cls := rsEx k) (Yn := "java/lang/RuntimeException") (names := ["java/lang/Exception"]) (ic := ic) (ix := rs_ix k) (bs := rs_bs k) Cx.2.2.2.1 (rsEx_fit hk4) (by decide +kernel) (by decide +kernel) (rs_bs_0 k) (rs_bs_1 k) (rs_bs_2 k) (rs_bs_5 k)
    (rsX_own hU Cx.2.2.2.2.1 Cx.2.2.2.2.2.2.2.2.2.1 hk4 hwl) (fun x hx cell hcell => Cx.2.2.2.2.2.2.2.2.2.2.2 _ cell (S.2.2.2.1 x hx) hcell) hfc hkC' (by rw [hT]; exact e1) hsz (msg := .ref q) rfl (g := F0 m (pc + 3 + 1 + 2) ls (.ref q :: .ref H.size :: .ref H.size :: st)) rfl (by rw [Cx.2.2.1]; exact hls.1) rfl rfl (rest := st) rfl
    (by rw [Cx.2.1]; exact hd6) (by rw [Cx.2.1]; exact hd9) (by rw [hex]; intro x hx; cases hx) (by show 1 + 4 < rm.frames; omega) (by show 2 * 0 + (1 + (st.map fun v => v.category).sum) + (13 * (1 + 2) + 42) ≤ rm.locals; omega) Cx.2.2.2.2.2.2.1
  have hheap : (((T.setVm vm').setCell H.size ce).setFrames (.throwing H.size :: below)).heap = H1.setIfInBounds H.size ce := by
    show T.heap.setIfInBounds H.size ce = _
    rw [hT]
  have hWv0 : (rsS0 G).WarmedH vm' := State.WarmedH.trans Cx.2.2.2.2.1 hWv
  refine ⟨_, hsteps, .threw H.size, hrun, hended, ⟨.inr k, h, n + 1, hq, ⟨H.size, ce, rfl, ?_, by rw [hvm]; rfl, ?_⟩, ?_, hWv0⟩, locs, ⟨Or.inr ⟨_, rfl⟩, hWv, hsame⟩, S.2.2.2.1⟩
  · rw [hheap, Array.getElem?_setIfInBounds_self_of_lt (by omega)]
  · show vm'.findClass _ = _
    rw [hWv.alike.findClass, hcls]; exact hfc
  · rw [hheap]
    exact rs_S_exc S z1 o1 hvm
end RSTH
end
section
/-! 07: calls by contract, throws that go through, catches -/
section RSCT
variable {Q : Handler → _root_.Jvm.Pre} {E : _root_.Jvm.CtlPost} {e : Env} {d : Bool} {acts : List Action} {s : State} {f : JFrame} {a : Addr}
/-- a row of the table whose class is linked at the search: it takes the object, or the search goes on -/
theorem rs_row {x : ExceptionTableEntry} {t : List ExceptionTableEntry} {c : ClassId} {cell : Cell} (hx : covers x f.pc = true) (h0 : x.catchType ≠ 0)
    (hl : s.vm.ClassLinks e.platform f.method.cls x.catchType c) (hcell : s.heap[a]? = some cell) (hobj : ∀ k, cell.vm ≠ .statics k) (hk : ∃ k, s.vm.classes[cell.cls]? = some k) (hc : ∃ k, s.vm.classes[c]? = some k) :
    Sem.wp (findHandler.go f a (x :: t)) Q E e d acts s ↔
      if s.vm.assignable cell.cls c = true then Q (.found x.handlerPc) d acts (s.setVm (s.vm.noted f.method.cls x.catchType (.cls c))) else Sem.wp (findHandler.go f a t) Q E e d acts (s.setVm (s.vm.noted f.method.cls x.catchType (.cls c))) := by
  simp only [covers] at hx
  obtain ⟨ha, ht⟩ := (resolveClass_links e.toSetting hl).op (op := VmOp.resolveClass f.method.cls x.catchType) rfl
  have hal : s.vm.Alike (s.vm.noted f.method.cls x.catchType (.cls c)) := (Vm.Alike.refl s.vm).noted _ _ _
  obtain ⟨k1, hk1⟩ := hk
  obtain ⟨k2, hk2⟩ := hc
  obtain ⟨k1', hk1', -⟩ := hal.2.2 _ _ hk1
  obtain ⟨k2', hk2', -⟩ := hal.2.2 _ _ hk2
  have hfit : (s.vm.noted f.method.cls x.catchType (.cls c)).assignable cell.cls c = s.vm.assignable cell.cls c := hal.assignable _ _
  cases hq : s.vm.assignable cell.cls c with
  | true =>
    rw [hq] at hfit
    simp [findHandler.go, hx, h0, ha, ht, hcell, hobj, hk1', hk2', hfit, VmOp.dirties, VmOp.acts]
  | false =>
    rw [hq] at hfit
    simp [findHandler.go, hx, h0, ha, ht, hcell, hobj, hk1', hk2', hfit, VmOp.dirties, VmOp.acts]
end RSCT
/-- what the search finds, and the tables that it leaves -/
def rs_finds (e : Env) (s : State) (f : JFrame) (a : Addr) (h : Handler) (vm' : Vm) : Prop :=
  ∀ (Q : Handler → _root_.Jvm.Pre) (E : _root_.Jvm.CtlPost) (d : Bool) (acts : List Action), Sem.wp (findHandler f a) Q E e d acts s ↔ Q h d acts (s.setVm vm')
theorem rs_caught {tb : Tables} {e : Env} {s target : State} {g : JFrame} {c : Code} {below : List Frame} {a : Addr} (h : At s g.method c below) {pc : Nat} {vm' : Vm}
    (hfind : rs_finds e ((s.setTop g).pushFrame (.throwing a)) g a (.found pc) vm') (hrest : Steps tb e below ((s.setVm vm').setTop { g with pc := pc, stack := [.ref a] }) target) :
    Steps tb e below ((s.setTop g).pushFrame (.throwing a)) target := by
  have key : ∀ (u : State) (r : List Frame), rs_finds e u g a (.found pc) vm' → (stepThrowing e u a (.java g :: r)).Is ((u.setVm vm').setFrames (.java { g with pc := pc, stack := [.ref a] } :: r)) [] := by
    intro u r hf
    simp only [stepThrowing, searchFrame, vmDo]
    generalize hr : Sem.go _ e false [] u = res
    obtain ⟨as, rfl, ha⟩ := Sem.eq_ok_of hr (a := Handler.found pc) (s' := u.setVm vm') (acts' := []) (by simp [hf _ _ _ _])
    exact ⟨rfl, ha⟩
  obtain ⟨hgo, hw⟩ := h.throwing a
  refine Steps.head hgo hw ?_
  rw [stepThread_throwing (frames_entered h.top _), (key _ _ hfind).1]
  obtain ⟨g₀, hg⟩ := Option.isSome_iff_exists.mp h.top
  obtain ⟨r, hr⟩ := State.topJava?_eq_some.mp hg
  have hr' : (s.setVm vm').frames = .java g₀ :: r := hr
  rw [State.setTop_of_frames _ hr'] at hrest
  have e1 : ∀ (u : State) (F F' : List Frame), ((u.setFrames F).setVm vm').setFrames F' = (u.setVm vm').setFrames F' := fun u F F' => by
    have : (u.setFrames F).setVm vm' = (u.setVm vm').setFrames F := rfl
    rw [this, State.setFrames_setFrames]
  rw [hr, List.tail_cons, State.pushFrame, e1, State.setTop_of_frames _ hr, e1]
  exact hrest
/-- which handler takes an exception of kind k that comes out of a call at pc -/
def rs_takes (M : rsM) (k : Nat) : List (Nat × Nat × Nat × Nat) → Nat → Nat → Prop
  | [], _, _ => False
  | q :: r, pc, hp => (¬ (q.1 ≤ pc ∧ pc < q.2.1) ∧ rs_takes M k r pc hp) ∨
      ((q.1 ≤ pc ∧ pc < q.2.1) ∧ q.2.2.2 ≠ 0 ∧ ((q.2.2.1 = hp ∧ Cond.classLink M.1.cls q.2.2.2 (rsEx k) ∈ rsTs) ∨ ((∃ k', rsNo k k' ∧ Cond.classLink M.1.cls q.2.2.2 (rsEx k') ∈ rsTs) ∧ rs_takes M k r pc hp)))
def rsThr (G : rsG) (M : rsM) (rm : Room) (Q : rsR → rsH → Nat → Prop) (kc ks pc : Nat) (L : List (Option Value)) (k : Nat) (h : rsH) (n : Nat) : Prop :=
  (M.2.2.2.2.all (fun q => !(decide (q.1 ≤ pc) && decide (pc < q.2.1))) = true ∧ Q (.inr k) h n) ∨ ∃ hp, rs_takes M k M.2.2.2.2 pc hp ∧ ∀ x : Nat, rsV G M rm Q kc ks hp L [.ref x] h n
theorem rs_search {G : rsG} {M : rsM} {k pc hp : Nat} {e : Env} {s0 : State} {f : JFrame} {a : Addr} {cell : Cell} (hU : rsU G) (hadm : e.platform.magicAccessors = ({} : Platform).magicAccessors) (hpc : f.pc = pc)
    (hobj : ∀ q, cell.vm ≠ .statics q) :
    ∀ (rows : List ExceptionTableEntry) (S : State), (rsS0 G).WarmedH S.vm → S.vm.findClass M.1.cls = some f.method.cls → S.heap[a]? = some cell → S.vm.findClass (rsEx k) = some cell.cls →
      rs_takes M k (rows.map fun x => (x.startPc, x.endPc, x.handlerPc, x.catchType)) pc hp →
      ∃ vm', S.WarmedH vm' ∧ ∀ (Q : Handler → _root_.Jvm.Pre) (E : _root_.Jvm.CtlPost) (d : Bool) (acts : List Action), Sem.wp (findHandler.go f a rows) Q E e d acts S ↔ Q (.found hp) d acts (S.setVm vm') := by
  intro rows
  induction rows with
  | nil => intro S _ _ _ _ ht; exact ht.elim
  | cons x r ih =>
    intro S hW hown hcell hcls ht
    have hkc : ∃ k, S.vm.classes[cell.cls]? = some k := Vm.classAt_of_findClass hcls
    rcases ht with ⟨hno, ht⟩ | ⟨hcov, h0, ht⟩
    · obtain ⟨vm', hW', hq⟩ := ih S hW hown hcell hcls ht
      refine ⟨vm', hW', fun Q E d acts => ?_⟩
      have hx : covers x f.pc = false := by
        rw [hpc]
        cases hcv : covers x pc with
        | false => rfl
        | true =>
          simp only [covers, Bool.and_eq_true, decide_eq_true_eq] at hcv
          exact absurd hcv hno
      rw [W.findHandler_go_skip hx]
      exact hq Q E d acts
    · have hx : covers x f.pc = true := by
        rw [hpc]
        simp only [covers, Bool.and_eq_true, decide_eq_true_eq]
        exact hcov
      rcases ht with ⟨hhp, hlk⟩ | ⟨⟨k', hno, hlk⟩, ht⟩
      · obtain ⟨c', hc', hcl⟩ := Cond.classLink_spec hown (hU.1 _ hlk #[] S hW) e.platform hadm
        have hce : c' = cell.cls := Option.some.inj (hc'.symm.trans hcls)
        subst hce
        obtain ⟨dk, _, _, kt, hd, _, _, _, _, hkt, _, hopen⟩ := hcl.here
        refine ⟨_, (State.WarmedH.refl S).noted hd hopen (State.rightAt_cls hcl), fun Q E d acts => ?_⟩
        rw [rs_row hx h0 hcl hcell hobj hkc ⟨_, hkt⟩, if_pos (rsX_self hU hW hcls)]
        have hhp' : x.handlerPc = hp := hhp
        rw [hhp']
      · obtain ⟨c', hc', hcl⟩ := Cond.classLink_spec hown (hU.1 _ hlk #[] S hW) e.platform hadm
        obtain ⟨dk, _, _, kt, hd, _, _, _, _, hkt, _, hopen⟩ := hcl.here
        have hWn := (State.WarmedH.refl S).noted hd hopen (State.rightAt_cls hcl)
        have hal : S.vm.Alike (S.vm.noted f.method.cls x.catchType (.cls c')) := hWn.alike
        obtain ⟨vm', hW', hq⟩ := ih (S.setVm (S.vm.noted f.method.cls x.catchType (.cls c'))) (State.WarmedH.trans hW hWn) (by show (S.vm.noted _ _ _).findClass _ = _; rw [hal.findClass]; exact hown) hcell (by show (S.vm.noted _ _ _).findClass _ = _; rw [hal.findClass]; exact hcls) ht
        refine ⟨vm', State.WarmedH.trans hWn hW', fun Q E d acts => ?_⟩
        rw [rs_row hx h0 hcl hcell hobj hkc ⟨_, hkt⟩, if_neg (by rw [rsX_no hU hW hno hcls hc']; decide)]
        exact hq Q E d acts
section RSCC
variable {G : rsG} {M M' : rsM} {rm rm' : Room} {Q Q' : rsR → rsH → Nat → Prop} {kc ks kc' ks' pc pc' : Nat} {L : List (Option Value)} {as rest : List Value} {h : rsH} {n : Nat}
theorem rs_core {len : Nat} {p : Program} {e : Env} {s : State} {m : MethodId} {args : Array Value} {below : List Frame} {meth : Method} {c : Code} {H : Heap} {locs : List Loc} {cells slots : Nat} {ls : Array Slot}
    (hK : rsK G M' rm' as h n Q') (hw : rs_word M'.1 M'.2.1 M'.2.2.1 M'.2.2.2.1 M'.2.2.2.2 ∈ rsTs) (hini : Cond.initialized M'.1.cls ∈ rsTs) (hR : rm'.frames + 1 ≤ rm.frames ∧ 8 + (M'.2.2.1 + 11) + rm'.locals ≤ rm.locals) (hkc : kc' + rm'.cells ≤ kc) (hks : ks' + rm'.slots ≤ ks) (hrest : (rest.map fun v => v.category).sum ≤ 8)
    (kr : ∀ v h' n', Q' (.inl v) h' n' → rsV G M rm Q kc' ks' (pc + len) L (v.toList ++ rest) h' n') (kt : ∀ k h' n', Q' (.inr k) h' n' → rsThr G M rm Q kc' ks' pc L k h' n')
    (hU : rsU G) (Cx : rsC G M p s m meth c) (S : rsS G h n H locs) (hc : cells + kc ≤ rm.cells) (hs : slots + ks ≤ rm.slots) (hls : rsl ls M.2.2.1 L)
    {T1 : State} (hT1 : T1.heap = H) (X1 : Stand p (rsL G) e rm s m args below meth c T1 locs cells slots) {ig : Instr} (hd : decode M.2.1 pc = .ok (ig, len)) {mk : MethodId} (hn : T1.methodNamed? M'.1 = some mk) :
    ∃ t, Steps p.tables e below (doInvoke e (T1.setTop (F0 m pc ls rest)) [] mk as.toArray).1 t ∧ rs_MQ below (rsQ G Q) args s rm.cells rm.slots (fun q => rsB G ≤ q) t := by
  have hWT : (rsS0 G).WarmedH T1.vm := State.WarmedH.trans Cx.2.2.2.2.1 X1.warmed
  have hword := hU.1 _ hw as.toArray T1 hWT
  obtain ⟨mk', methY, cY, hn', hmY, hcY, -, hlY, -⟩ := rs_is_of hword
  cases hn.symm.trans hn'
  have hS1 : rsS G h n T1.heap [] := by rw [hT1]; exact ⟨S.1, S.2.1, S.2.2.1, fun q hq => (by cases hq), S.2.2.2.2⟩
  obtain ⟨o, t, T', Lc, X', eh, ev, ⟨r, h', n', hQ', hO, hS', hW'⟩, hLc, hend⟩ := rs_back (hK hU) X1 (g := F0 m pc ls rest) rfl (by rw [Cx.2.2.1]; exact hls.1) (ig := ig) (len := len) (by rw [Cx.2.1]; exact hd) (by show 2 * 0 + (rest.map fun v => v.category).sum ≤ 8; omega) hn
    (atoms_intro fun w hw' => by rw [List.mem_singleton.mp hw']; exact hword) hmY hcY hlY (hU.1 _ hini _ T1 hWT) hR.1 hR.2 (by omega) (by omega) ⟨rfl, hS1, hWT⟩
  have S' : rsS G h' n' T'.heap (locs ++ Lc) := by
    rw [eh]
    refine ⟨hS'.1, hS'.2.1, hS'.2.2.1, fun q hq => ?_, hS'.2.2.2.2⟩
    rcases List.mem_append.mp hq with h1 | h1
    · exact S.2.2.2.1 q h1
    · exact hLc q h1
  rcases hend with ⟨v, rfl, hst⟩ | ⟨x, rfl, hst⟩
  · cases r with
    | inr k => obtain ⟨x, _, ho, _⟩ := hO; cases ho
    | inl v' =>
      have hv : Outcome.returned v = Outcome.returned v' := hO
      cases hv
      obtain ⟨t2, a2, b2⟩ := kr v h' n' hQ' hU p e s m args below meth c T'.heap (locs ++ Lc) (cells + rm'.cells) (slots + rm'.slots) ls Cx S' (by omega) (by omega) hls T' rfl X'
      exact ⟨t2, hst.trans a2, b2⟩
  · cases r with
    | inl v => have hv : Outcome.threw x = Outcome.returned v := hO; cases hv
    | inr k =>
      obtain ⟨x', cell, ho, hcell, hstat, hcls⟩ := hO
      cases ho
      rcases kt k h' n' hQ' with ⟨hout, hq⟩ | ⟨hp, htk, kk⟩
      · have hex : ∀ y ∈ c.exceptionTable.toList, covers y pc = false := by
          intro y hy
          have h1 : (y.startPc, y.endPc, y.handlerPc, y.catchType) ∈ M.2.2.2.2 := by rw [← Cx.2.2.2.2.2.2.2.1]; exact List.mem_map.mpr ⟨y, hy, rfl⟩
          have h2 := List.all_eq_true.mp hout _ h1
          rw [Bool.not_eq_true'] at h2
          exact h2
        have X'' := stand_widen X' (k := rm.cells) (n := rm.slots) (by omega) (by omega)
        obtain ⟨hwalk, hrun, hended, hWd, hsame⟩ := X''.leaveThrown x (g := F0 m pc ls rest) rfl rfl rfl hex Cx.2.2.2.2.2.2.1
        refine ⟨_, hst.trans hwalk, .threw x, hrun, hended, ⟨.inr k, h', n', hq, ⟨x, cell, rfl, ?_, hstat, ?_⟩, ?_, ?_⟩, locs ++ Lc, ⟨Or.inr ⟨x, rfl⟩, hWd, hsame⟩, S'.2.2.2.1⟩
        · show T'.heap[x]? = some cell
          rw [eh]; exact hcell
        · show T'.vm.findClass _ = _
          rw [ev]; exact hcls
        · show rsS G h' n' T'.heap []
          exact ⟨S'.1, S'.2.1, S'.2.2.1, fun q hq => (by cases hq), S'.2.2.2.2⟩
        · show (rsS0 G).WarmedH T'.vm
          rw [ev]; exact hW'
      · have hWT' : (rsS0 G).WarmedH T'.vm := by rw [ev]; exact hW'
        have hadm : e.platform.magicAccessors = ({} : Platform).magicAccessors := by rw [X'.admits.platform]
        obtain ⟨vm', hWv, hq⟩ := rs_search (G := G) (M := M) (k := k) (pc := pc) (hp := hp) (e := e) (s0 := s) (f := F0 m pc ls rest) (a := x) (cell := cell) hU hadm rfl (fun q => VmData.ne_statics_of hstat q)
          c.exceptionTable.toList ((T'.setTop (F0 m pc ls rest)).pushFrame (.throwing x)) (by rw [Stand.throwing_vm]; exact hWT') (by rw [Stand.throwing_vm, X'.warmed.alike.findClass]; exact Cx.2.2.2.1) (by rw [Stand.throwing_heap, eh]; exact hcell) (by rw [Stand.throwing_vm, ev]; exact hcls) (by rw [Cx.2.2.2.2.2.2.2.1]; exact htk)
        have hWv' : T'.WarmedH vm' := hWv
        have hWs : s.WarmedH vm' := State.WarmedH.trans X'.warmed hWv'
        obtain ⟨t2, a2, b2⟩ := kk x hU p e s m args below meth c T'.heap (locs ++ Lc) (cells + rm'.cells) (slots + rm'.slots) ls Cx S' (by omega) (by omega) hls (T'.setVm vm') rfl (X'.noted hWs)
        refine ⟨t2, hst.trans (rs_caught (vm' := vm') (pc := hp) X'.here ?_ a2), b2⟩
        intro Q1 E1 d1 acts1
        rw [W.findHandler_eq (meth := meth) (code := c) (by rw [Stand.throwing_vm]; exact X'.method') X'.code]
        exact hq Q1 E1 d1 acts1
/-- what a call asks of the tables: static, virtual on an object of class C, constructor -/
def rsCS (own : String) (index : Nat) (M' : rsM) : Prop := Cond.methodLink own index M'.1 ∈ rsTs ∧ Cond.static M'.1 ∈ rsTs ∧ Cond.initialized M'.1.cls ∈ rsTs ∧ rs_word M'.1 M'.2.1 M'.2.2.1 M'.2.2.2.1 M'.2.2.2.2 ∈ rsTs ∧ (M'.1.cls ≠ "java/lang/invoke/MethodHandle" ∧ M'.1.cls ≠ "java/lang/invoke/VarHandle")
def rsCV (own : String) (index : Nat) (ci : Nat) (M' : rsM) : Prop := ∃ (C : String) (T : u_T) (N : Nat), rsCl[ci]? = some (C, T, N) ∧ Cond.methodLink own index M'.1 ∈ rsTs ∧ Cond.instanceMethod M'.1 ∈ rsTs ∧ Cond.selects C M'.1 M'.1 ∈ rsTs ∧ Cond.initialized M'.1.cls ∈ rsTs ∧ rs_word M'.1 M'.2.1 M'.2.2.1 M'.2.2.2.1 M'.2.2.2.2 ∈ rsTs ∧ (M'.1.cls ≠ "java/lang/invoke/MethodHandle" ∧ M'.1.cls ≠ "java/lang/invoke/VarHandle")
def rsCI (own : String) (index : Nat) (M' : rsM) : Prop := M'.1.name = "<init>" ∧ M'.2.2.2.2 = [] ∧ M'.2.2.2.1 = none ∧ Cond.methodLink own index M'.1 ∈ rsTs ∧ Cond.instanceMethod M'.1 ∈ rsTs ∧ Cond.initialized M'.1.cls ∈ rsTs ∧ Cond.code M'.1 M'.2.1 M'.2.2.1 none ∈ rsTs ∧ (M'.1.cls ≠ "java/lang/invoke/MethodHandle" ∧ M'.1.cls ≠ "java/lang/invoke/VarHandle")
theorem rs_cS {index : Nat} {st : List Value} (hd : decode M.2.1 pc = .ok (.invokestatic index, 3)) (hp : pc + 3 = pc') (hC : rsCS M.1.cls index M') (hnp : (parseMethodDescriptor M'.1.desc).map (fun d => d.parameters.length) = some as.length)
    (hK : rsK G M' rm' as h n Q') (hR : rm'.frames + 1 ≤ rm.frames ∧ 8 + (M'.2.2.1 + 11) + rm'.locals ≤ rm.locals) (hk : kc' + rm'.cells ≤ kc ∧ ks' + rm'.slots ≤ ks) (hrest : (rest.map fun v => v.category).sum ≤ 8) (hst : st = as.reverse ++ rest)
    (kr : ∀ v h' n', Q' (.inl v) h' n' → rsV G M rm Q kc' ks' pc' L (v.toList ++ rest) h' n') (kt : ∀ k h' n', Q' (.inr k) h' n' → rsThr G M rm Q kc' ks' pc L k h' n') : rsV G M rm Q kc ks pc L st h n := by
  subst hp
  subst hst
  obtain ⟨w1, w2, w3, w4, hy⟩ := hC
  intro hU p e s m args below meth c H locs cells slots ls Cx S hc hs hls T hT X
  have hw : ∀ w ∈ rsTs, w.before args s = true := fun w hw => hU.1 w hw args s Cx.2.2.2.2.1
  obtain ⟨mk, methM, cM, hnamed, hmethM, -, -, -, -, -, -, hsigM⟩ := rs_is_of (hw _ w4)
  have hstatic : methM.isStatic = true := Cond.static_spec hnamed hmethM (hw _ w2)
  obtain ⟨kP, hkP, -⟩ := className_of_methodNamed hnamed
  have hinitP : kP.init = .initialized := Cond.initialized_spec (findClass_of_methodNamed hnamed) hkP (hw _ w3)
  rw [hsigM] at hnp
  obtain ⟨vm₁, X₁, hstep₁⟩ := X.invokestatic Cx.1 Cx.2.2.2.1 (hw _ w1) hnamed hmethM hstatic hkP hinitP hy (g := F0 m pc ls (as.reverse ++ rest)) rfl (argsL := as) (rest := rest) (Option.some.inj hnp).symm rfl (by rw [Cx.2.1]; exact hd)
  obtain ⟨t, a1, b1⟩ := rs_core (len := 3) hK w4 w3 hR hk.1 hk.2 hrest kr kt hU Cx S hc hs hls (T1 := T.setVm vm₁) hT X₁ hd (X₁.named hnamed)
  exact ⟨t, hstep₁ _ fun acts => by rw [doInvoke_state]; exact a1, b1⟩
theorem rs_cV {index ci b : Nat} {fs st : List Value} (hd : decode M.2.1 pc = .ok (.invokevirtual index, 3)) (hp : pc + 3 = pc') (hC : rsCV M.1.cls index ci M') (hnp : (parseMethodDescriptor M'.1.desc).map (fun d => d.parameters.length) = some as.length) (hb : h b = some (.inr (ci, fs)))
    (hK : rsK G M' rm' (.ref b :: as) h n Q') (hR : rm'.frames + 1 ≤ rm.frames ∧ 8 + (M'.2.2.1 + 11) + rm'.locals ≤ rm.locals) (hk : kc' + rm'.cells ≤ kc ∧ ks' + rm'.slots ≤ ks) (hrest : (rest.map fun v => v.category).sum ≤ 8) (hst : st = as.reverse ++ .ref b :: rest)
    (kr : ∀ v h' n', Q' (.inl v) h' n' → rsV G M rm Q kc' ks' pc' L (v.toList ++ rest) h' n') (kt : ∀ k h' n', Q' (.inr k) h' n' → rsThr G M rm Q kc' ks' pc L k h' n') : rsV G M rm Q kc ks pc L st h n := by
  subst hp
  subst hst
  obtain ⟨C, T0, N, hcl, w1, w2, w3, w5, w4, hy⟩ := hC
  intro hU p e s m args below meth c H locs cells slots ls Cx S hc hs hls T hT X
  have hw : ∀ w ∈ rsTs, w.before args s = true := fun w hw => hU.1 w hw args s Cx.2.2.2.2.1
  have hK' := va_K.moved Cx.2.2.2.2.1.alike hU.2.1
  obtain ⟨mk', methM', cM, hnamed', hmethM', -, -, -, -, -, -, hsigM⟩ := rs_is_of (hw _ w4)
  obtain ⟨mk, methM, hnamed, hmethM, hstM, habM⟩ := Cond.instanceMethod_spec (hw _ w2)
  obtain rfl : mk = mk' := Option.some.inj (hnamed.symm.trans hnamed')
  obtain rfl : methM = methM' := Option.some.inj (hmethM.symm.trans hmethM')
  obtain ⟨c2, r2, m2, q1, q2, q3, q4, kP, hkP, hkPi⟩ := Cond.selects_spec (hw _ w3)
  obtain ⟨cellB, hcB, hoB, hclB⟩ := va_recv (ws := [(b, .inr (ci, fs))]) (q0 := 0) hK' (rs_one (S.1 b _ hb)) hcl rfl
  cases hclB.symm.trans q1
  cases (State.methodFound?_of_named hnamed hy).symm.trans q2
  cases hnamed.symm.trans q3
  have hselP : selectMethod e.platform s.vm cellB.cls mk = .method mk := by rw [Launch.admits_selectMethod X.admits]; exact q4
  rw [hsigM] at hnp
  obtain ⟨vm₁, X₁, hstep₁⟩ := X.invokevirtual Cx.1 Cx.2.2.2.1 (hw _ w1) hnamed hmethM hstM hkP hkPi hy (a := b) (cell := cellB) (by rw [hT]; exact hcB)
    (fun z h => by rw [h] at hoB; cases hoB) hselP hmethM habM hkP hkPi (g := F0 m pc ls (as.reverse ++ .ref b :: rest)) rfl (argsL := as) (rest := rest) (Option.some.inj hnp).symm rfl (by rw [Cx.2.1]; exact hd)
  obtain ⟨t, a1, b1⟩ := rs_core (len := 3) hK w4 w5 hR hk.1 hk.2 hrest kr kt hU Cx S hc hs hls (T1 := T.setVm vm₁) hT X₁ hd (X₁.named hnamed)
  exact ⟨t, hstep₁ _ fun acts => by rw [doInvoke_state]; exact a1, b1⟩
theorem rs_cI {index b : Nat} {st : List Value} (hd : decode M.2.1 pc = .ok (.invokespecial index, 3)) (hp : pc + 3 = pc') (hC : rsCI M.1.cls index M') (hnp : (parseMethodDescriptor M'.1.desc).map (fun d => d.parameters.length) = some as.length)
    (hK : rsK G M' rm' (.ref b :: as) h n Q') (hR : rm'.frames + 1 ≤ rm.frames ∧ 8 + (M'.2.2.1 + 11) + rm'.locals ≤ rm.locals) (hk : kc' + rm'.cells ≤ kc ∧ ks' + rm'.slots ≤ ks) (hrest : (rest.map fun v => v.category).sum ≤ 8) (hst : st = as.reverse ++ .ref b :: rest)
    (kr : ∀ v h' n', Q' (.inl v) h' n' → rsV G M rm Q kc' ks' pc' L (v.toList ++ rest) h' n') (kt : ∀ k h' n', Q' (.inr k) h' n' → rsThr G M rm Q kc' ks' pc L k h' n') : rsV G M rm Q kc ks pc L st h n := by
  subst hp
  subst hst
  obtain ⟨hy1, hhh, hret, w1, w2, w3, w4, hy⟩ := hC
  have w5 : rs_word M'.1 M'.2.1 M'.2.2.1 M'.2.2.2.1 M'.2.2.2.2 ∈ rsTs := by rw [hhh, hret]; exact w4
  intro hU p e s m args below meth c H locs cells slots ls Cx S hc hs hls T hT X
  have hw : ∀ w ∈ rsTs, w.before args s = true := fun w hw => hU.1 w hw args s Cx.2.2.2.2.1
  obtain ⟨mk', methM', cM', hnamed', hmethM', -, -, -, -, -, -, hsigM⟩ := rs_is_of (hw _ w5)
  rw [hsigM] at hnp
  have hpl : e.platform.magicAccessors = ({} : Platform).magicAccessors := by rw [X.admits.platform]
  obtain ⟨mk, methM, cM, kP, vm₁, hnamed, hmethM, hcodeM, -, hlocalsM, -, hkP, -, hW₁, hstep₁⟩ := Steps.initColdArgs (e := e) X.here Cx.1 X.warmed hpl Cx.2.2.2.1 hy1 hy (hw _ w1) (hw _ w2) (hw _ w4) (f := F0 m pc ls (as.reverse ++ .ref b :: rest)) rfl (argsL := as) (rest := rest) (a := b) (fun sig hsig => by rw [hsigM] at hsig; cases hsig; exact (Option.some.inj hnp).symm) rfl (by rw [Cx.2.1]; exact hd)
  have X₁ := X.noted hW₁
  obtain ⟨t, a1, b1⟩ := rs_core (len := 3) hK w5 w3 hR hk.1 hk.2 hrest kr kt hU Cx S hc hs hls (T1 := T.setVm vm₁) hT X₁ hd (X₁.named hnamed)
  exact ⟨t, hstep₁ _ fun acts => by rw [doInvoke_state]; exact a1, b1⟩
end RSCC
end
section
/-! 08: the class's world -/
/-- an address is a node of the world: (0,_) the store, (1,_) the disk, (2,_) its places, (3,_) its runs of a level, (4,j) (5,j) (6,j) the entries j: object, kinds, values; j = 13: what is gathered in memory -/
def rw_nd (b a : Nat) : Nat × Nat :=
  if a < b then (9, 0) else if a = b then (0, 0) else if a < b + 4 then (4 + (a - b - 1), 13) else if a = b + 4 then (1, 0) else if a = b + 5 then (2, 0)
  else if a < b + 45 then (4 + (a - b - 6) % 3, (a - b - 6) / 3) else if a = b + 45 then (3, 0) else (9, 0)
def rw_eo (b j : Nat) : Nat := if j = 13 then b + 1 else b + 6 + 3 * j
def rw_ko (b j : Nat) : Nat := if j = 13 then b + 2 else b + 7 + 3 * j
def rw_vo (b j : Nat) : Nat := if j = 13 then b + 3 else b + 8 + 3 * j
theorem rw_nd_x (b : Nat) : rw_nd b b = (0, 0) := by simp [rw_nd]
theorem rw_nd_d (b : Nat) : rw_nd b (b + 4) = (1, 0) := by simp [rw_nd]
theorem rw_nd_p (b : Nat) : rw_nd b (b + 5) = (2, 0) := by simp [rw_nd]
theorem rw_nd_r (b : Nat) : rw_nd b (b + 45) = (3, 0) := by simp [rw_nd]
theorem rw_nd_e {b j : Nat} (h : j ≤ 13) : rw_nd b (rw_eo b j) = (4, j) := by
  unfold rw_nd rw_eo
  by_cases h1 : j = 13
  · subst h1; simp
  · rw [if_neg h1, if_neg (by omega), if_neg (by omega), if_neg (by omega), if_neg (by omega), if_neg (by omega), if_pos (by omega)]
    have e1 : (b + 6 + 3 * j - b - 6) % 3 = 0 := by omega
    have e2 : (b + 6 + 3 * j - b - 6) / 3 = j := by omega
    rw [e1, e2]
theorem rw_nd_k {b j : Nat} (h : j ≤ 13) : rw_nd b (rw_ko b j) = (5, j) := by
  unfold rw_nd rw_ko
  by_cases h1 : j = 13
  · subst h1; simp
  · rw [if_neg h1, if_neg (by omega), if_neg (by omega), if_neg (by omega), if_neg (by omega), if_neg (by omega), if_pos (by omega)]
    have e1 : (b + 7 + 3 * j - b - 6) % 3 = 1 := by omega
    have e2 : (b + 7 + 3 * j - b - 6) / 3 = j := by omega
    rw [e1, e2]
theorem rw_nd_v {b j : Nat} (h : j ≤ 13) : rw_nd b (rw_vo b j) = (6, j) := by
  unfold rw_nd rw_vo
  by_cases h1 : j = 13
  · subst h1; simp
  · rw [if_neg h1, if_neg (by omega), if_neg (by omega), if_neg (by omega), if_neg (by omega), if_neg (by omega), if_pos (by omega)]
    have e1 : (b + 8 + 3 * j - b - 6) % 3 = 2 := by omega
    have e2 : (b + 8 + 3 * j - b - 6) / 3 = j := by omega
    rw [e1, e2]
theorem rw_nd_s {b q : Nat} (h : (rw_nd b q).1 < 4) : (rw_nd b q).2 = 0 := by
  revert h
  unfold rw_nd
  repeat' split
  all_goals intro h
  all_goals first | rfl | (exfalso; simp only at h; omega)
theorem rw_nd_inj {b a a' : Nat} (h : rw_nd b a = rw_nd b a') (h9 : (rw_nd b a).1 ≠ 9) : a = a' := by
  revert h h9
  unfold rw_nd
  repeat' split
  all_goals intro h h9
  all_goals simp only [Prod.mk.injEq] at h
  all_goals first | omega | (exfalso; exact h9 rfl) | (exfalso; omega)
/-- the cell of a node -/
def rw_cell (G : rsG) (K V : Nat → Nat → Int32) (c P r : Nat → Nat) (md up wl cu : Int32) : Nat × Nat → Option va_E
  | (0, _) => some (.inr (0, [.ref (rw_eo (rsB G) 13), .ref (rsB G + 4), .int up, .int wl, .int cu]))
  | (1, _) => some (.inr (2, [.ref (rsB G + 5), .ref (rsB G + 45), .int md]))
  | (2, _) => some (.inl (G.2.2.2.2.2, 13, .inr (.inr (.inr (.inr (fun i => some (rw_eo (rsB G) (P i))))))))
  | (3, _) => some (.inl (G.2.2.2.1, 3, .inl (fun i => nI (r i))))
  | (4, j) => some (.inr (1, [.ref (rw_ko (rsB G) j), .ref (rw_vo (rsB G) j), .int (nI (c j))]))
  | (5, j) => some (.inl (G.2.2.2.1, 100, .inl (K j)))
  | (6, j) => some (.inl (G.2.2.2.1, 100, .inl (V j)))
  | _ => none
/-- the class's world, over another world -/
def rwd (G : rsG) (K V : Nat → Nat → Int32) (c P r : Nat → Nat) (md up wl cu : Int32) (hf : rsH) : rsH := fun a => match rw_cell G K V c P r md up wl cu (rw_nd (rsB G) a) with
  | some e => some e
  | none => hf a
section RSW
variable {G : rsG} {K V K' V' : Nat → Nat → Int32} {c P r c' P' r' : Nat → Nat} {md up wl cu md' up' wl' cu' : Int32} {hf : rsH}
theorem rw_at {a : Nat} {n : Nat × Nat} {e : va_E} (hn : rw_nd (rsB G) a = n) (he : rw_cell G K V c P r md up wl cu n = some e) : rwd G K V c P r md up wl cu hf a = some e := by
  unfold rwd
  rw [hn, he]
theorem rw_set {a : Nat} {n : Nat × Nat} {e : va_E} (hn : rw_nd (rsB G) a = n) (h9 : n.1 ≠ 9) (he : rw_cell G K' V' c' P' r' md' up' wl' cu' n = some e) (ho : ∀ q, q ≠ n → rw_cell G K' V' c' P' r' md' up' wl' cu' q = rw_cell G K V c P r md up wl cu q) :
    rs_up (rwd G K V c P r md up wl cu hf) a e = rwd G K' V' c' P' r' md' up' wl' cu' hf := by
  funext q
  unfold rs_up
  by_cases hq : q = a
  · subst hq
    rw [if_pos rfl]
    exact (rw_at hn he).symm
  · rw [if_neg hq]
    unfold rwd
    rw [ho]
    intro h1
    exact hq (rw_nd_inj (h1.trans hn.symm) (by rw [h1]; exact h9))
theorem rw_x : rwd G K V c P r md up wl cu hf (rsB G) = some (.inr (0, [.ref (rw_eo (rsB G) 13), .ref (rsB G + 4), .int up, .int wl, .int cu])) := rw_at (rw_nd_x _) rfl
theorem rw_d : rwd G K V c P r md up wl cu hf (rsB G + 4) = some (.inr (2, [.ref (rsB G + 5), .ref (rsB G + 45), .int md])) := rw_at (rw_nd_d _) rfl
theorem rw_p : rwd G K V c P r md up wl cu hf (rsB G + 5) = some (.inl (G.2.2.2.2.2, 13, .inr (.inr (.inr (.inr (fun i => some (rw_eo (rsB G) (P i)))))))) := rw_at (rw_nd_p _) rfl
theorem rw_r : rwd G K V c P r md up wl cu hf (rsB G + 45) = some (.inl (G.2.2.2.1, 3, .inl (fun i => nI (r i)))) := rw_at (rw_nd_r _) rfl
theorem rw_e {j : Nat} (hj : j ≤ 13) : rwd G K V c P r md up wl cu hf (rw_eo (rsB G) j) = some (.inr (1, [.ref (rw_ko (rsB G) j), .ref (rw_vo (rsB G) j), .int (nI (c j))])) := rw_at (rw_nd_e hj) rfl
theorem rw_k {j : Nat} (hj : j ≤ 13) : rwd G K V c P r md up wl cu hf (rw_ko (rsB G) j) = some (.inl (G.2.2.2.1, 100, .inl (K j))) := rw_at (rw_nd_k hj) rfl
theorem rw_v {j : Nat} (hj : j ≤ 13) : rwd G K V c P r md up wl cu hf (rw_vo (rsB G) j) = some (.inl (G.2.2.2.1, 100, .inl (V j))) := rw_at (rw_nd_v hj) rfl
theorem rw_set_x : rs_up (rwd G K V c P r md up wl cu hf) (rsB G) (.inr (0, [.ref (rw_eo (rsB G) 13), .ref (rsB G + 4), .int up', .int wl', .int cu'])) = rwd G K V c P r md up' wl' cu' hf := by
  unfold rs_up
  funext q
  by_cases hq : q = rsB G
  · subst hq; rw [if_pos rfl, rw_x]
  · rw [if_neg hq]
    unfold rwd
    have h0 : rw_nd (rsB G) q ≠ (0, 0) := fun h1 => hq (rw_nd_inj (h1.trans (rw_nd_x _).symm) (by rw [h1]; decide))
    have h1 : (rw_nd (rsB G) q).1 ≠ 0 := fun h2 => h0 (Prod.ext h2 (rw_nd_s (by rw [h2]; decide)))
    generalize rw_nd (rsB G) q = w at h1
    obtain ⟨t, j⟩ := w
    match t, h1 with
    | 1, _ => rfl
    | 2, _ => rfl
    | 3, _ => rfl
    | 4, _ => rfl
    | 5, _ => rfl
    | 6, _ => rfl
    | t + 7, _ => rfl
theorem rw_set_d : rs_up (rwd G K V c P r md up wl cu hf) (rsB G + 4) (.inr (2, [.ref (rsB G + 5), .ref (rsB G + 45), .int md'])) = rwd G K V c P r md' up wl cu hf := by
  unfold rs_up
  funext q
  by_cases hq : q = rsB G + 4
  · subst hq; rw [if_pos rfl, rw_d]
  · rw [if_neg hq]
    unfold rwd
    have h0 : rw_nd (rsB G) q ≠ (1, 0) := fun h1 => hq (rw_nd_inj (h1.trans (rw_nd_d _).symm) (by rw [h1]; decide))
    have h1 : (rw_nd (rsB G) q).1 ≠ 1 := fun h2 => h0 (Prod.ext h2 (rw_nd_s (by rw [h2]; decide)))
    generalize rw_nd (rsB G) q = w at h1
    obtain ⟨t, j⟩ := w
    match t, h1 with
    | 0, _ => rfl
    | 2, _ => rfl
    | 3, _ => rfl
    | 4, _ => rfl
    | 5, _ => rfl
    | 6, _ => rfl
    | t + 7, _ => rfl
theorem rw_set_p {i j : Nat} : rs_up (rwd G K V c P r md up wl cu hf) (rsB G + 5) (.inl (G.2.2.2.2.2, 13, .inr (.inr (.inr (.inr (va_up (fun i => some (rw_eo (rsB G) (P i))) i (some (rw_eo (rsB G) j)))))))) = rwd G K V c (va_up P i j) r md up wl cu hf := by
  have e0 : (va_up (fun i => some (rw_eo (rsB G) (P i))) i (some (rw_eo (rsB G) j))) = fun q => some (rw_eo (rsB G) (va_up P i j q)) := by
    funext q
    unfold va_up
    by_cases h : q = i
    · rw [if_pos h, if_pos h]
    · rw [if_neg h, if_neg h]
  rw [e0]
  unfold rs_up
  funext q
  by_cases hq : q = rsB G + 5
  · subst hq; rw [if_pos rfl, rw_p]
  · rw [if_neg hq]
    unfold rwd
    have h0 : rw_nd (rsB G) q ≠ (2, 0) := fun h1 => hq (rw_nd_inj (h1.trans (rw_nd_p _).symm) (by rw [h1]; decide))
    have h1 : (rw_nd (rsB G) q).1 ≠ 2 := fun h2 => h0 (Prod.ext h2 (rw_nd_s (by rw [h2]; decide)))
    generalize rw_nd (rsB G) q = w at h1
    obtain ⟨t, j⟩ := w
    match t, h1 with
    | 0, _ => rfl
    | 1, _ => rfl
    | 3, _ => rfl
    | 4, _ => rfl
    | 5, _ => rfl
    | 6, _ => rfl
    | t + 7, _ => rfl
theorem rw_set_r {i x : Nat} : rs_up (rwd G K V c P r md up wl cu hf) (rsB G + 45) (.inl (G.2.2.2.1, 3, .inl (upd (fun i => nI (r i)) i (nI x)))) = rwd G K V c P (va_up r i x) md up wl cu hf := by
  have e0 : (upd (fun i => nI (r i)) i (nI x)) = fun q => nI (va_up r i x q) := by
    funext q
    unfold upd va_up
    by_cases h : q = i
    · rw [if_pos h, if_pos h]
    · rw [if_neg h, if_neg h]
  rw [e0]
  unfold rs_up
  funext q
  by_cases hq : q = rsB G + 45
  · subst hq; rw [if_pos rfl, rw_r]
  · rw [if_neg hq]
    unfold rwd
    have h0 : rw_nd (rsB G) q ≠ (3, 0) := fun h1 => hq (rw_nd_inj (h1.trans (rw_nd_r _).symm) (by rw [h1]; decide))
    have h1 : (rw_nd (rsB G) q).1 ≠ 3 := fun h2 => h0 (Prod.ext h2 (rw_nd_s (by rw [h2]; decide)))
    generalize rw_nd (rsB G) q = w at h1
    obtain ⟨t, j⟩ := w
    match t, h1 with
    | 0, _ => rfl
    | 1, _ => rfl
    | 2, _ => rfl
    | 4, _ => rfl
    | 5, _ => rfl
    | 6, _ => rfl
    | t + 7, _ => rfl
theorem rw_set_e {j x : Nat} (hj : j ≤ 13) : rs_up (rwd G K V c P r md up wl cu hf) (rw_eo (rsB G) j) (.inr (1, [.ref (rw_ko (rsB G) j), .ref (rw_vo (rsB G) j), .int (nI x)])) = rwd G K V (va_up c j x) P r md up wl cu hf := by
  refine rw_set (rw_nd_e hj) (by simp) (by simp [rw_cell, va_up]) fun q hq => ?_
  obtain ⟨t, i⟩ := q
  match t with
  | 0 => rfl
  | 1 => rfl
  | 2 => rfl
  | 3 => rfl
  | 4 =>
    have : i ≠ j := fun h => hq (by rw [h])
    simp [rw_cell, va_up, this]
  | 5 => rfl
  | 6 => rfl
  | t + 7 => rfl
theorem rw_set_k {j : Nat} {f : Nat → Int32} (hj : j ≤ 13) : rs_up (rwd G K V c P r md up wl cu hf) (rw_ko (rsB G) j) (.inl (G.2.2.2.1, 100, .inl f)) = rwd G (va_up K j f) V c P r md up wl cu hf := by
  refine rw_set (rw_nd_k hj) (by simp) (by simp [rw_cell, va_up]) fun q hq => ?_
  obtain ⟨t, i⟩ := q
  match t with
  | 0 => rfl
  | 1 => rfl
  | 2 => rfl
  | 3 => rfl
  | 4 => rfl
  | 5 =>
    have : i ≠ j := fun h => hq (by rw [h])
    simp [rw_cell, va_up, this]
  | 6 => rfl
  | t + 7 => rfl
theorem rw_set_v {j : Nat} {f : Nat → Int32} (hj : j ≤ 13) : rs_up (rwd G K V c P r md up wl cu hf) (rw_vo (rsB G) j) (.inl (G.2.2.2.1, 100, .inl f)) = rwd G K (va_up V j f) c P r md up wl cu hf := by
  refine rw_set (rw_nd_v hj) (by simp) (by simp [rw_cell, va_up]) fun q hq => ?_
  obtain ⟨t, i⟩ := q
  match t with
  | 0 => rfl
  | 1 => rfl
  | 2 => rfl
  | 3 => rfl
  | 4 => rfl
  | 5 => rfl
  | 6 =>
    have : i ≠ j := fun h => hq (by rw [h])
    simp [rw_cell, va_up, this]
  | t + 7 => rfl
end RSW
end
section
/-! 09: rows for each field and array of the class's world (written by gen_fields.py) -/
section RSFX
variable {G : rsG} {M : rsM} {rm : Room} {Q : rsR → rsH → Nat → Prop} {kc ks pc pc' : Nat} {L : List (Option Value)} {st : List Value} {n : Nat} {K V : Nat → Nat → Int32} {c P r : Nat → Nat} {md up wl cu : Int32} {hf : rsH}
theorem rx_get_ga {index : Nat}  (hd : decode M.2.1 pc = .ok (.getfield index, 3)) (hp : pc + 3 = pc') (hF : rsF M.1.cls index 0 0) (kk : rsV G M rm Q kc ks pc' L (.ref (rw_eo (rsB G) 13) :: st) (rwd G K V c P r md up wl cu hf) n) : rsV G M rm Q kc ks pc L (.ref (rsB G) :: st) (rwd G K V c P r md up wl cu hf) n :=
  rs_getf hd hp hF rw_x rfl kk
theorem rx_get_di {index : Nat}  (hd : decode M.2.1 pc = .ok (.getfield index, 3)) (hp : pc + 3 = pc') (hF : rsF M.1.cls index 0 1) (kk : rsV G M rm Q kc ks pc' L (.ref (rsB G + 4) :: st) (rwd G K V c P r md up wl cu hf) n) : rsV G M rm Q kc ks pc L (.ref (rsB G) :: st) (rwd G K V c P r md up wl cu hf) n :=
  rs_getf hd hp hF rw_x rfl kk
theorem rx_get_up {index : Nat}  (hd : decode M.2.1 pc = .ok (.getfield index, 3)) (hp : pc + 3 = pc') (hF : rsF M.1.cls index 0 2) (kk : rsV G M rm Q kc ks pc' L (.int up :: st) (rwd G K V c P r md up wl cu hf) n) : rsV G M rm Q kc ks pc L (.ref (rsB G) :: st) (rwd G K V c P r md up wl cu hf) n :=
  rs_getf hd hp hF rw_x rfl kk
theorem rx_get_wl {index : Nat}  (hd : decode M.2.1 pc = .ok (.getfield index, 3)) (hp : pc + 3 = pc') (hF : rsF M.1.cls index 0 3) (kk : rsV G M rm Q kc ks pc' L (.int wl :: st) (rwd G K V c P r md up wl cu hf) n) : rsV G M rm Q kc ks pc L (.ref (rsB G) :: st) (rwd G K V c P r md up wl cu hf) n :=
  rs_getf hd hp hF rw_x rfl kk
theorem rx_get_cu {index : Nat}  (hd : decode M.2.1 pc = .ok (.getfield index, 3)) (hp : pc + 3 = pc') (hF : rsF M.1.cls index 0 4) (kk : rsV G M rm Q kc ks pc' L (.int cu :: st) (rwd G K V c P r md up wl cu hf) n) : rsV G M rm Q kc ks pc L (.ref (rsB G) :: st) (rwd G K V c P r md up wl cu hf) n :=
  rs_getf hd hp hF rw_x rfl kk
theorem rx_get_ki {index : Nat} {j : Nat} (hj : j ≤ 13) (hd : decode M.2.1 pc = .ok (.getfield index, 3)) (hp : pc + 3 = pc') (hF : rsF M.1.cls index 1 0) (kk : rsV G M rm Q kc ks pc' L (.ref (rw_ko (rsB G) j) :: st) (rwd G K V c P r md up wl cu hf) n) : rsV G M rm Q kc ks pc L (.ref (rw_eo (rsB G) j) :: st) (rwd G K V c P r md up wl cu hf) n :=
  rs_getf hd hp hF (rw_e hj) rfl kk
theorem rx_get_va {index : Nat} {j : Nat} (hj : j ≤ 13) (hd : decode M.2.1 pc = .ok (.getfield index, 3)) (hp : pc + 3 = pc') (hF : rsF M.1.cls index 1 1) (kk : rsV G M rm Q kc ks pc' L (.ref (rw_vo (rsB G) j) :: st) (rwd G K V c P r md up wl cu hf) n) : rsV G M rm Q kc ks pc L (.ref (rw_eo (rsB G) j) :: st) (rwd G K V c P r md up wl cu hf) n :=
  rs_getf hd hp hF (rw_e hj) rfl kk
theorem rx_get_ct {index : Nat} {j : Nat} (hj : j ≤ 13) (hd : decode M.2.1 pc = .ok (.getfield index, 3)) (hp : pc + 3 = pc') (hF : rsF M.1.cls index 1 2) (kk : rsV G M rm Q kc ks pc' L (.int (nI (c j)) :: st) (rwd G K V c P r md up wl cu hf) n) : rsV G M rm Q kc ks pc L (.ref (rw_eo (rsB G) j) :: st) (rwd G K V c P r md up wl cu hf) n :=
  rs_getf hd hp hF (rw_e hj) rfl kk
theorem rx_get_pl {index : Nat}  (hd : decode M.2.1 pc = .ok (.getfield index, 3)) (hp : pc + 3 = pc') (hF : rsF M.1.cls index 2 0) (kk : rsV G M rm Q kc ks pc' L (.ref (rsB G + 5) :: st) (rwd G K V c P r md up wl cu hf) n) : rsV G M rm Q kc ks pc L (.ref (rsB G + 4) :: st) (rwd G K V c P r md up wl cu hf) n :=
  rs_getf hd hp hF rw_d rfl kk
theorem rx_get_ro {index : Nat}  (hd : decode M.2.1 pc = .ok (.getfield index, 3)) (hp : pc + 3 = pc') (hF : rsF M.1.cls index 2 1) (kk : rsV G M rm Q kc ks pc' L (.ref (rsB G + 45) :: st) (rwd G K V c P r md up wl cu hf) n) : rsV G M rm Q kc ks pc L (.ref (rsB G + 4) :: st) (rwd G K V c P r md up wl cu hf) n :=
  rs_getf hd hp hF rw_d rfl kk
theorem rx_get_md {index : Nat}  (hd : decode M.2.1 pc = .ok (.getfield index, 3)) (hp : pc + 3 = pc') (hF : rsF M.1.cls index 2 2) (kk : rsV G M rm Q kc ks pc' L (.int md :: st) (rwd G K V c P r md up wl cu hf) n) : rsV G M rm Q kc ks pc L (.ref (rsB G + 4) :: st) (rwd G K V c P r md up wl cu hf) n :=
  rs_getf hd hp hF rw_d rfl kk
theorem rx_put_up {index : Nat} {v : Int32} (hd : decode M.2.1 pc = .ok (.putfield index, 3)) (hp : pc + 3 = pc') (hF : rsP M.1.cls index 0 2 .boolean false) (hv : narrow .boolean (.int v) = .int v) (hf' : fits .boolean (.int v) = true) (kk : rsV G M rm Q kc ks pc' L st (rwd G K V c P r md v wl cu hf) n) : rsV G M rm Q kc ks pc L (.int (v) :: .ref (rsB G) :: st) (rwd G K V c P r md up wl cu hf) n := by
  refine rs_putf hd hp hF rw_x hv hf' (Nat.le_of_ble_eq_true rfl) (fs' := [.ref (rw_eo (rsB G) 13), .ref (rsB G + 4), .int v, .int wl, .int cu]) rfl ?_
  rw [rw_set_x]
  exact kk
theorem rx_put_wl {index : Nat} {v : Int32} (hd : decode M.2.1 pc = .ok (.putfield index, 3)) (hp : pc + 3 = pc') (hF : rsP M.1.cls index 0 3 .int false)  (kk : rsV G M rm Q kc ks pc' L st (rwd G K V c P r md up v cu hf) n) : rsV G M rm Q kc ks pc L (.int (v) :: .ref (rsB G) :: st) (rwd G K V c P r md up wl cu hf) n := by
  refine rs_putf hd hp hF rw_x rfl rfl (Nat.le_of_ble_eq_true rfl) (fs' := [.ref (rw_eo (rsB G) 13), .ref (rsB G + 4), .int up, .int v, .int cu]) rfl ?_
  rw [rw_set_x]
  exact kk
theorem rx_put_cu {index : Nat} {v : Int32} (hd : decode M.2.1 pc = .ok (.putfield index, 3)) (hp : pc + 3 = pc') (hF : rsP M.1.cls index 0 4 .int false)  (kk : rsV G M rm Q kc ks pc' L st (rwd G K V c P r md up wl v hf) n) : rsV G M rm Q kc ks pc L (.int (v) :: .ref (rsB G) :: st) (rwd G K V c P r md up wl cu hf) n := by
  refine rs_putf hd hp hF rw_x rfl rfl (Nat.le_of_ble_eq_true rfl) (fs' := [.ref (rw_eo (rsB G) 13), .ref (rsB G + 4), .int up, .int wl, .int v]) rfl ?_
  rw [rw_set_x]
  exact kk
theorem rx_put_ct {index : Nat} {j v : Nat} (hj : j ≤ 13) (hd : decode M.2.1 pc = .ok (.putfield index, 3)) (hp : pc + 3 = pc') (hF : rsP M.1.cls index 1 2 .int false)  (kk : rsV G M rm Q kc ks pc' L st (rwd G K V (va_up c j v) P r md up wl cu hf) n) : rsV G M rm Q kc ks pc L (.int (nI v) :: .ref (rw_eo (rsB G) j) :: st) (rwd G K V c P r md up wl cu hf) n := by
  refine rs_putf hd hp hF (rw_e hj) rfl rfl (Nat.le_of_ble_eq_true rfl) (fs' := [.ref (rw_ko (rsB G) j), .ref (rw_vo (rsB G) j), .int (nI v)]) rfl ?_
  rw [rw_set_e hj]
  exact kk
theorem rx_put_md {index : Nat} {v : Int32} (hd : decode M.2.1 pc = .ok (.putfield index, 3)) (hp : pc + 3 = pc') (hF : rsP M.1.cls index 2 2 .boolean false) (hv : narrow .boolean (.int v) = .int v) (hf' : fits .boolean (.int v) = true) (kk : rsV G M rm Q kc ks pc' L st (rwd G K V c P r v up wl cu hf) n) : rsV G M rm Q kc ks pc L (.int (v) :: .ref (rsB G + 4) :: st) (rwd G K V c P r md up wl cu hf) n := by
  refine rs_putf hd hp hF rw_d hv hf' (Nat.le_of_ble_eq_true rfl) (fs' := [.ref (rsB G + 5), .ref (rsB G + 45), .int v]) rfl ?_
  rw [rw_set_d]
  exact kk
theorem rx_ld_k {j i : Nat} (hj : j ≤ 13) (hi : i < 100) (hd : decode M.2.1 pc = .ok (.iaload, 1)) (hp : pc + 1 = pc') (kk : rsV G M rm Q kc ks pc' L (.int (K j i) :: st) (rwd G K V c P r md up wl cu hf) n) : rsV G M rm Q kc ks pc L (.int (nI i) :: .ref (rw_ko (rsB G) j) :: st) (rwd G K V c P r md up wl cu hf) n := rs_iald hd hp (rw_k hj) hi (by omega) kk
theorem rx_ld_v {j i : Nat} (hj : j ≤ 13) (hi : i < 100) (hd : decode M.2.1 pc = .ok (.iaload, 1)) (hp : pc + 1 = pc') (kk : rsV G M rm Q kc ks pc' L (.int (V j i) :: st) (rwd G K V c P r md up wl cu hf) n) : rsV G M rm Q kc ks pc L (.int (nI i) :: .ref (rw_vo (rsB G) j) :: st) (rwd G K V c P r md up wl cu hf) n := rs_iald hd hp (rw_v hj) hi (by omega) kk
theorem rx_ld_r {i : Nat} (hi : i < 3) (hd : decode M.2.1 pc = .ok (.iaload, 1)) (hp : pc + 1 = pc') (kk : rsV G M rm Q kc ks pc' L (.int (nI (r i)) :: st) (rwd G K V c P r md up wl cu hf) n) : rsV G M rm Q kc ks pc L (.int (nI i) :: .ref (rsB G + 45) :: st) (rwd G K V c P r md up wl cu hf) n := rs_iald hd hp rw_r hi (by omega) kk
theorem rx_ld_p {i : Nat} (hi : i < 13) (hd : decode M.2.1 pc = .ok (.aaload, 1)) (hp : pc + 1 = pc') (kk : rsV G M rm Q kc ks pc' L (.ref (rw_eo (rsB G) (P i)) :: st) (rwd G K V c P r md up wl cu hf) n) : rsV G M rm Q kc ks pc L (.int (nI i) :: .ref (rsB G + 5) :: st) (rwd G K V c P r md up wl cu hf) n := rs_aald hd hp rw_p hi (by omega) kk
theorem rx_st_k {j i : Nat} {x : Int32} (hj : j ≤ 13) (hi : i < 100) (hd : decode M.2.1 pc = .ok (.iastore, 1)) (hp : pc + 1 = pc') (kk : rsV G M rm Q kc ks pc' L st (rwd G (va_up K j (upd (K j) i x)) V c P r md up wl cu hf) n) : rsV G M rm Q kc ks pc L (.int x :: .int (nI i) :: .ref (rw_ko (rsB G) j) :: st) (rwd G K V c P r md up wl cu hf) n := by
  refine rs_iast hd hp (rw_k hj) hi (by omega) ?_
  rw [rw_set_k hj]
  exact kk
theorem rx_st_v {j i : Nat} {x : Int32} (hj : j ≤ 13) (hi : i < 100) (hd : decode M.2.1 pc = .ok (.iastore, 1)) (hp : pc + 1 = pc') (kk : rsV G M rm Q kc ks pc' L st (rwd G K (va_up V j (upd (V j) i x)) c P r md up wl cu hf) n) : rsV G M rm Q kc ks pc L (.int x :: .int (nI i) :: .ref (rw_vo (rsB G) j) :: st) (rwd G K V c P r md up wl cu hf) n := by
  refine rs_iast hd hp (rw_v hj) hi (by omega) ?_
  rw [rw_set_v hj]
  exact kk
theorem rx_st_r {i x : Nat} (hi : i < 3) (hd : decode M.2.1 pc = .ok (.iastore, 1)) (hp : pc + 1 = pc') (kk : rsV G M rm Q kc ks pc' L st (rwd G K V c P (va_up r i x) md up wl cu hf) n) : rsV G M rm Q kc ks pc L (.int (nI x) :: .int (nI i) :: .ref (rsB G + 45) :: st) (rwd G K V c P r md up wl cu hf) n := by
  refine rs_iast hd hp rw_r hi (by omega) ?_
  rw [rw_set_r]
  exact kk
theorem rx_st_p {i j : Nat} (hj : j ≤ 13) (hi : i < 13) (hd : decode M.2.1 pc = .ok (.aastore, 1)) (hp : pc + 1 = pc') (kk : rsV G M rm Q kc ks pc' L st (rwd G K V c (va_up P i j) r md up wl cu hf) n) : rsV G M rm Q kc ks pc L (.ref (rw_eo (rsB G) j) :: .int (nI i) :: .ref (rsB G + 5) :: st) (rwd G K V c P r md up wl cu hf) n := by
  refine rs_aast hd hp rw_p hi (by omega) (rw_e hj) rsCl_1 ?_
  rw [rw_set_p]
  exact kk
end RSFX
def rsOk (v : Option Value) (h : rsH) (n : Nat) : rsR → rsH → Nat → Prop := fun q h' n' => q = .inl v ∧ h' = h ∧ n' = n
def rsTh (k : Nat) (h : rsH) (n : Nat) : rsR → rsH → Nat → Prop := fun q h' n' => q = .inr k ∧ h' = h ∧ n' = n
section RSCX
variable {G : rsG} {M M' : rsM} {rm rm' : Room} {Q : rsR → rsH → Nat → Prop} {kc ks kc' ks' pc pc' : Nat} {L : List (Option Value)} {as rest : List Value} {h h' : rsH} {n n' : Nat} {v : Option Value} {k : Nat}
theorem rx_cS {index : Nat} {st : List Value} (hd : decode M.2.1 pc = .ok (.invokestatic index, 3)) (hp : pc + 3 = pc') (hC : rsCS M.1.cls index M') (hnp : (parseMethodDescriptor M'.1.desc).map (fun d => d.parameters.length) = some as.length)
    (hK : rsK G M' rm' as h n (rsOk v h' n')) (hR : rm'.frames + 1 ≤ rm.frames ∧ 8 + (M'.2.2.1 + 11) + rm'.locals ≤ rm.locals) (h0 : rm'.cells = 0 ∧ rm'.slots = 0) (hrest : (rest.map fun v => v.category).sum ≤ 8) (hst : st = as.reverse ++ rest)
    (kk : rsV G M rm Q kc ks pc' L (v.toList ++ rest) h' n') : rsV G M rm Q kc ks pc L st h n :=
  rs_cS (kc' := kc) (ks' := ks) hd hp hC hnp hK hR ⟨by omega, by omega⟩ hrest hst (fun _ _ _ q => by obtain ⟨q1, rfl, rfl⟩ := q; cases q1; exact kk) (fun _ _ _ q => by obtain ⟨q1, -, -⟩ := q; cases q1)
theorem rx_cV {index ci b : Nat} {fs st : List Value} (hd : decode M.2.1 pc = .ok (.invokevirtual index, 3)) (hp : pc + 3 = pc') (hC : rsCV M.1.cls index ci M') (hnp : (parseMethodDescriptor M'.1.desc).map (fun d => d.parameters.length) = some as.length) (hb : h b = some (.inr (ci, fs)))
    (hK : rsK G M' rm' (.ref b :: as) h n (rsOk v h' n')) (hR : rm'.frames + 1 ≤ rm.frames ∧ 8 + (M'.2.2.1 + 11) + rm'.locals ≤ rm.locals) (h0 : rm'.cells = 0 ∧ rm'.slots = 0) (hrest : (rest.map fun v => v.category).sum ≤ 8) (hst : st = as.reverse ++ .ref b :: rest)
    (kk : rsV G M rm Q kc ks pc' L (v.toList ++ rest) h' n') : rsV G M rm Q kc ks pc L st h n :=
  rs_cV (kc' := kc) (ks' := ks) hd hp hC hnp hb hK hR ⟨by omega, by omega⟩ hrest hst (fun _ _ _ q => by obtain ⟨q1, rfl, rfl⟩ := q; cases q1; exact kk) (fun _ _ _ q => by obtain ⟨q1, -, -⟩ := q; cases q1)
theorem rx_cI {index b : Nat} {st : List Value} (hd : decode M.2.1 pc = .ok (.invokespecial index, 3)) (hp : pc + 3 = pc') (hC : rsCI M.1.cls index M') (hnp : (parseMethodDescriptor M'.1.desc).map (fun d => d.parameters.length) = some as.length)
    (hK : rsK G M' rm' (.ref b :: as) h n (rsOk v h' n')) (hR : rm'.frames + 1 ≤ rm.frames ∧ 8 + (M'.2.2.1 + 11) + rm'.locals ≤ rm.locals) (hk : kc' + rm'.cells ≤ kc ∧ ks' + rm'.slots ≤ ks) (hrest : (rest.map fun v => v.category).sum ≤ 8) (hst : st = as.reverse ++ .ref b :: rest)
    (kk : rsV G M rm Q kc' ks' pc' L (v.toList ++ rest) h' n') : rsV G M rm Q kc ks pc L st h n :=
  rs_cI hd hp hC hnp hK hR hk hrest hst (fun _ _ _ q => by obtain ⟨q1, rfl, rfl⟩ := q; cases q1; exact kk) (fun _ _ _ q => by obtain ⟨q1, -, -⟩ := q; cases q1)
theorem rx_tS {index : Nat} {st : List Value} (hd : decode M.2.1 pc = .ok (.invokestatic index, 3)) (hC : rsCS M.1.cls index M') (hnp : (parseMethodDescriptor M'.1.desc).map (fun d => d.parameters.length) = some as.length)
    (hK : rsK G M' rm' as h n (rsTh k h' n')) (hR : rm'.frames + 1 ≤ rm.frames ∧ 8 + (M'.2.2.1 + 11) + rm'.locals ≤ rm.locals) (hk : rm'.cells ≤ kc ∧ rm'.slots ≤ ks) (hrest : (rest.map fun v => v.category).sum ≤ 8) (hst : st = as.reverse ++ rest) (hout : M.2.2.2.2 = [])
    (hq : Q (.inr k) h' n') : rsV G M rm Q kc ks pc L st h n :=
  rs_cS (kc' := 0) (ks' := 0) hd rfl hC hnp hK hR ⟨by omega, by omega⟩ hrest hst (fun _ _ _ q => by obtain ⟨q1, -, -⟩ := q; cases q1) (fun _ _ _ q => by obtain ⟨q1, rfl, rfl⟩ := q; cases q1; exact Or.inl ⟨by rw [hout]; rfl, hq⟩)
theorem rx_tV {index ci b : Nat} {fs st : List Value} (hd : decode M.2.1 pc = .ok (.invokevirtual index, 3)) (hC : rsCV M.1.cls index ci M') (hnp : (parseMethodDescriptor M'.1.desc).map (fun d => d.parameters.length) = some as.length) (hb : h b = some (.inr (ci, fs)))
    (hK : rsK G M' rm' (.ref b :: as) h n (rsTh k h' n')) (hR : rm'.frames + 1 ≤ rm.frames ∧ 8 + (M'.2.2.1 + 11) + rm'.locals ≤ rm.locals) (hk : rm'.cells ≤ kc ∧ rm'.slots ≤ ks) (hrest : (rest.map fun v => v.category).sum ≤ 8) (hst : st = as.reverse ++ .ref b :: rest) (hout : M.2.2.2.2 = [])
    (hq : Q (.inr k) h' n') : rsV G M rm Q kc ks pc L st h n :=
  rs_cV (kc' := 0) (ks' := 0) hd rfl hC hnp hb hK hR ⟨by omega, by omega⟩ hrest hst (fun _ _ _ q => by obtain ⟨q1, -, -⟩ := q; cases q1) (fun _ _ _ q => by obtain ⟨q1, rfl, rfl⟩ := q; cases q1; exact Or.inl ⟨by rw [hout]; rfl, hq⟩)
end RSCX
abbrev rmO (f l : Nat) : Room := { frames := f, cells := 0, slots := 0, locals := l }
abbrev rmT (f l : Nat) : Room := { frames := f, cells := 1, slots := 6, locals := l }
end
section
/-! 10.code.class: methods and what stands at each place of their code (written by gen_code.py) -/
abbrev M_s_init : rsM := (⟨"RunStore", "<init>", "()V"⟩, prog_1_method_1_code, 1, none, [])
theorem d_s_init_0 : decode prog_1_method_1_code 0 = .ok (.aload_n 0, 1) := by decide +kernel
theorem d_s_init_1 : decode prog_1_method_1_code 1 = .ok (.invokespecial 1, 3) := by decide +kernel
theorem d_s_init_4 : decode prog_1_method_1_code 4 = .ok (.aload_n 0, 1) := by decide +kernel
theorem d_s_init_5 : decode prog_1_method_1_code 5 = .ok (.new 7, 3) := by decide +kernel
theorem d_s_init_8 : decode prog_1_method_1_code 8 = .ok (.dup, 1) := by decide +kernel
theorem d_s_init_9 : decode prog_1_method_1_code 9 = .ok (.invokespecial 9, 3) := by decide +kernel
theorem d_s_init_12 : decode prog_1_method_1_code 12 = .ok (.putfield 10, 3) := by decide +kernel
theorem d_s_init_15 : decode prog_1_method_1_code 15 = .ok (.aload_n 0, 1) := by decide +kernel
theorem d_s_init_16 : decode prog_1_method_1_code 16 = .ok (.new 16, 3) := by decide +kernel
theorem d_s_init_19 : decode prog_1_method_1_code 19 = .ok (.dup, 1) := by decide +kernel
theorem d_s_init_20 : decode prog_1_method_1_code 20 = .ok (.invokespecial 18, 3) := by decide +kernel
theorem d_s_init_23 : decode prog_1_method_1_code 23 = .ok (.putfield 19, 3) := by decide +kernel
theorem d_s_init_26 : decode prog_1_method_1_code 26 = .ok (.aload_n 0, 1) := by decide +kernel
theorem d_s_init_27 : decode prog_1_method_1_code 27 = .ok (.iconst 0, 1) := by decide +kernel
theorem d_s_init_28 : decode prog_1_method_1_code 28 = .ok (.putfield 23, 3) := by decide +kernel
theorem d_s_init_31 : decode prog_1_method_1_code 31 = .ok (.aload_n 0, 1) := by decide +kernel
theorem d_s_init_32 : decode prog_1_method_1_code 32 = .ok (.iconst (-1), 1) := by decide +kernel
theorem d_s_init_33 : decode prog_1_method_1_code 33 = .ok (.putfield 27, 3) := by decide +kernel
theorem d_s_init_36 : decode prog_1_method_1_code 36 = .ok (.aload_n 0, 1) := by decide +kernel
theorem d_s_init_37 : decode prog_1_method_1_code 37 = .ok (.iconst (-1), 1) := by decide +kernel
theorem d_s_init_38 : decode prog_1_method_1_code 38 = .ok (.putfield 31, 3) := by decide +kernel
theorem d_s_init_41 : decode prog_1_method_1_code 41 = .ok (.return_, 1) := by decide +kernel
abbrev M_e_init : rsM := (⟨"RunStore$Entries", "<init>", "()V"⟩, prog_3_method_1_code, 1, none, [])
theorem d_e_init_0 : decode prog_3_method_1_code 0 = .ok (.aload_n 0, 1) := by decide +kernel
theorem d_e_init_1 : decode prog_3_method_1_code 1 = .ok (.invokespecial 3, 3) := by decide +kernel
theorem d_e_init_4 : decode prog_3_method_1_code 4 = .ok (.aload_n 0, 1) := by decide +kernel
theorem d_e_init_5 : decode prog_3_method_1_code 5 = .ok (.bipush 100, 2) := by decide +kernel
theorem d_e_init_7 : decode prog_3_method_1_code 7 = .ok (.newarray .int, 2) := by decide +kernel
theorem d_e_init_9 : decode prog_3_method_1_code 9 = .ok (.putfield 9, 3) := by decide +kernel
theorem d_e_init_12 : decode prog_3_method_1_code 12 = .ok (.aload_n 0, 1) := by decide +kernel
theorem d_e_init_13 : decode prog_3_method_1_code 13 = .ok (.bipush 100, 2) := by decide +kernel
theorem d_e_init_15 : decode prog_3_method_1_code 15 = .ok (.newarray .int, 2) := by decide +kernel
theorem d_e_init_17 : decode prog_3_method_1_code 17 = .ok (.putfield 15, 3) := by decide +kernel
theorem d_e_init_20 : decode prog_3_method_1_code 20 = .ok (.aload_n 0, 1) := by decide +kernel
theorem d_e_init_21 : decode prog_3_method_1_code 21 = .ok (.iconst 0, 1) := by decide +kernel
theorem d_e_init_22 : decode prog_3_method_1_code 22 = .ok (.putfield 18, 3) := by decide +kernel
theorem d_e_init_25 : decode prog_3_method_1_code 25 = .ok (.return_, 1) := by decide +kernel
abbrev M_d_init : rsM := (⟨"RunStore$Disk", "<init>", "()V"⟩, prog_2_method_1_code, 2, none, [])
theorem d_d_init_0 : decode prog_2_method_1_code 0 = .ok (.aload_n 0, 1) := by decide +kernel
theorem d_d_init_1 : decode prog_2_method_1_code 1 = .ok (.invokespecial 3, 3) := by decide +kernel
theorem d_d_init_4 : decode prog_2_method_1_code 4 = .ok (.aload_n 0, 1) := by decide +kernel
theorem d_d_init_5 : decode prog_2_method_1_code 5 = .ok (.bipush 13, 2) := by decide +kernel
theorem d_d_init_7 : decode prog_2_method_1_code 7 = .ok (.anewarray 9, 3) := by decide +kernel
theorem d_d_init_10 : decode prog_2_method_1_code 10 = .ok (.putfield 11, 3) := by decide +kernel
theorem d_d_init_13 : decode prog_2_method_1_code 13 = .ok (.iconst 0, 1) := by decide +kernel
theorem d_d_init_14 : decode prog_2_method_1_code 14 = .ok (.istore_n 1, 1) := by decide +kernel
theorem d_d_init_15 : decode prog_2_method_1_code 15 = .ok (.iload_n 1, 1) := by decide +kernel
theorem d_d_init_16 : decode prog_2_method_1_code 16 = .ok (.aload_n 0, 1) := by decide +kernel
theorem d_d_init_17 : decode prog_2_method_1_code 17 = .ok (.getfield 11, 3) := by decide +kernel
theorem d_d_init_20 : decode prog_2_method_1_code 20 = .ok (.arraylength, 1) := by decide +kernel
theorem d_d_init_21 : decode prog_2_method_1_code 21 = .ok (.if_icmp .ge 22, 3) := by decide +kernel
theorem d_d_init_24 : decode prog_2_method_1_code 24 = .ok (.aload_n 0, 1) := by decide +kernel
theorem d_d_init_25 : decode prog_2_method_1_code 25 = .ok (.getfield 11, 3) := by decide +kernel
theorem d_d_init_28 : decode prog_2_method_1_code 28 = .ok (.iload_n 1, 1) := by decide +kernel
theorem d_d_init_29 : decode prog_2_method_1_code 29 = .ok (.new 9, 3) := by decide +kernel
theorem d_d_init_32 : decode prog_2_method_1_code 32 = .ok (.dup, 1) := by decide +kernel
theorem d_d_init_33 : decode prog_2_method_1_code 33 = .ok (.invokespecial 17, 3) := by decide +kernel
theorem d_d_init_36 : decode prog_2_method_1_code 36 = .ok (.aastore, 1) := by decide +kernel
theorem d_d_init_37 : decode prog_2_method_1_code 37 = .ok (.iinc 1 1, 3) := by decide +kernel
theorem d_d_init_40 : decode prog_2_method_1_code 40 = .ok (.goto (-25), 3) := by decide +kernel
theorem d_d_init_43 : decode prog_2_method_1_code 43 = .ok (.aload_n 0, 1) := by decide +kernel
theorem d_d_init_44 : decode prog_2_method_1_code 44 = .ok (.iconst 3, 1) := by decide +kernel
theorem d_d_init_45 : decode prog_2_method_1_code 45 = .ok (.newarray .int, 2) := by decide +kernel
theorem d_d_init_47 : decode prog_2_method_1_code 47 = .ok (.putfield 18, 3) := by decide +kernel
theorem d_d_init_50 : decode prog_2_method_1_code 50 = .ok (.aload_n 0, 1) := by decide +kernel
theorem d_d_init_51 : decode prog_2_method_1_code 51 = .ok (.iconst 0, 1) := by decide +kernel
theorem d_d_init_52 : decode prog_2_method_1_code 52 = .ok (.putfield 22, 3) := by decide +kernel
theorem d_d_init_55 : decode prog_2_method_1_code 55 = .ok (.return_, 1) := by decide +kernel
abbrev M_s_left : rsM := (⟨"RunStore", "left", "()I"⟩, prog_1_method_12_code, 1, some .int, [])
theorem d_s_left_0 : decode prog_1_method_12_code 0 = .ok (.aload_n 0, 1) := by decide +kernel
theorem d_s_left_1 : decode prog_1_method_12_code 1 = .ok (.getfield 27, 3) := by decide +kernel
theorem d_s_left_4 : decode prog_1_method_12_code 4 = .ok (.ireturn, 1) := by decide +kernel
abbrev M_s_key : rsM := (⟨"RunStore", "key", "()I"⟩, prog_1_method_15_code, 1, some .int, [])
theorem d_s_key_0 : decode prog_1_method_15_code 0 = .ok (.aload_n 0, 1) := by decide +kernel
theorem d_s_key_1 : decode prog_1_method_15_code 1 = .ok (.getfield 31, 3) := by decide +kernel
theorem d_s_key_4 : decode prog_1_method_15_code 4 = .ok (.ireturn, 1) := by decide +kernel
abbrev M_s_value : rsM := (⟨"RunStore", "value", "()I"⟩, prog_1_method_16_code, 1, some .int, [])
theorem d_s_value_0 : decode prog_1_method_16_code 0 = .ok (.aload_n 0, 1) := by decide +kernel
theorem d_s_value_1 : decode prog_1_method_16_code 1 = .ok (.getfield 31, 3) := by decide +kernel
theorem d_s_value_4 : decode prog_1_method_16_code 4 = .ok (.iconst (-1), 1) := by decide +kernel
theorem d_s_value_5 : decode prog_1_method_16_code 5 = .ok (.if_icmp .ne 7, 3) := by decide +kernel
theorem d_s_value_8 : decode prog_1_method_16_code 8 = .ok (.iconst 0, 1) := by decide +kernel
theorem d_s_value_9 : decode prog_1_method_16_code 9 = .ok (.goto 11, 3) := by decide +kernel
theorem d_s_value_12 : decode prog_1_method_16_code 12 = .ok (.aload_n 0, 1) := by decide +kernel
theorem d_s_value_13 : decode prog_1_method_16_code 13 = .ok (.aload_n 0, 1) := by decide +kernel
theorem d_s_value_14 : decode prog_1_method_16_code 14 = .ok (.getfield 31, 3) := by decide +kernel
theorem d_s_value_17 : decode prog_1_method_16_code 17 = .ok (.invokevirtual 86, 3) := by decide +kernel
theorem d_s_value_20 : decode prog_1_method_16_code 20 = .ok (.ireturn, 1) := by decide +kernel
abbrev M_s_valueOrZero : rsM := (⟨"RunStore", "valueOrZero", "(I)I"⟩, prog_1_method_37_code, 3, some .int, [])
theorem d_s_valueOrZero_0 : decode prog_1_method_37_code 0 = .ok (.aload_n 0, 1) := by decide +kernel
theorem d_s_valueOrZero_1 : decode prog_1_method_37_code 1 = .ok (.iload_n 1, 1) := by decide +kernel
theorem d_s_valueOrZero_2 : decode prog_1_method_37_code 2 = .ok (.invokevirtual 179, 3) := by decide +kernel
theorem d_s_valueOrZero_5 : decode prog_1_method_37_code 5 = .ok (.astore_n 2, 1) := by decide +kernel
theorem d_s_valueOrZero_6 : decode prog_1_method_37_code 6 = .ok (.aload_n 2, 1) := by decide +kernel
theorem d_s_valueOrZero_7 : decode prog_1_method_37_code 7 = .ok (.ifnonnull 7, 3) := by decide +kernel
theorem d_s_valueOrZero_10 : decode prog_1_method_37_code 10 = .ok (.iconst 0, 1) := by decide +kernel
theorem d_s_valueOrZero_11 : decode prog_1_method_37_code 11 = .ok (.goto 8, 3) := by decide +kernel
theorem d_s_valueOrZero_14 : decode prog_1_method_37_code 14 = .ok (.aload_n 2, 1) := by decide +kernel
theorem d_s_valueOrZero_15 : decode prog_1_method_37_code 15 = .ok (.iload_n 1, 1) := by decide +kernel
theorem d_s_valueOrZero_16 : decode prog_1_method_37_code 16 = .ok (.invokevirtual 186, 3) := by decide +kernel
theorem d_s_valueOrZero_19 : decode prog_1_method_37_code 19 = .ok (.ireturn, 1) := by decide +kernel
abbrev M_s_newestWith : rsM := (⟨"RunStore", "newestWith", "(I)LRunStore$Entries;"⟩, prog_1_method_38_code, 2, some (.object "RunStore$Entries"), [])
theorem d_s_newestWith_0 : decode prog_1_method_38_code 0 = .ok (.aload_n 0, 1) := by decide +kernel
theorem d_s_newestWith_1 : decode prog_1_method_38_code 1 = .ok (.getfield 10, 3) := by decide +kernel
theorem d_s_newestWith_4 : decode prog_1_method_38_code 4 = .ok (.iload_n 1, 1) := by decide +kernel
theorem d_s_newestWith_5 : decode prog_1_method_38_code 5 = .ok (.invokevirtual 159, 3) := by decide +kernel
theorem d_s_newestWith_8 : decode prog_1_method_38_code 8 = .ok (.ifCond .eq 10, 3) := by decide +kernel
theorem d_s_newestWith_11 : decode prog_1_method_38_code 11 = .ok (.aload_n 0, 1) := by decide +kernel
theorem d_s_newestWith_12 : decode prog_1_method_38_code 12 = .ok (.getfield 10, 3) := by decide +kernel
theorem d_s_newestWith_15 : decode prog_1_method_38_code 15 = .ok (.goto 11, 3) := by decide +kernel
theorem d_s_newestWith_18 : decode prog_1_method_38_code 18 = .ok (.aload_n 0, 1) := by decide +kernel
theorem d_s_newestWith_19 : decode prog_1_method_38_code 19 = .ok (.getfield 19, 3) := by decide +kernel
theorem d_s_newestWith_22 : decode prog_1_method_38_code 22 = .ok (.iload_n 1, 1) := by decide +kernel
theorem d_s_newestWith_23 : decode prog_1_method_38_code 23 = .ok (.invokevirtual 189, 3) := by decide +kernel
theorem d_s_newestWith_26 : decode prog_1_method_38_code 26 = .ok (.areturn, 1) := by decide +kernel
abbrev M_e_holds : rsM := (⟨"RunStore$Entries", "holds", "(I)Z"⟩, prog_3_method_4_code, 2, some .boolean, [])
theorem d_e_holds_0 : decode prog_3_method_4_code 0 = .ok (.aload_n 0, 1) := by decide +kernel
theorem d_e_holds_1 : decode prog_3_method_4_code 1 = .ok (.getfield 9, 3) := by decide +kernel
theorem d_e_holds_4 : decode prog_3_method_4_code 4 = .ok (.iload_n 1, 1) := by decide +kernel
theorem d_e_holds_5 : decode prog_3_method_4_code 5 = .ok (.iaload, 1) := by decide +kernel
theorem d_e_holds_6 : decode prog_3_method_4_code 6 = .ok (.ifCond .eq 7, 3) := by decide +kernel
theorem d_e_holds_9 : decode prog_3_method_4_code 9 = .ok (.iconst 1, 1) := by decide +kernel
theorem d_e_holds_10 : decode prog_3_method_4_code 10 = .ok (.goto 4, 3) := by decide +kernel
theorem d_e_holds_13 : decode prog_3_method_4_code 13 = .ok (.iconst 0, 1) := by decide +kernel
theorem d_e_holds_14 : decode prog_3_method_4_code 14 = .ok (.ireturn, 1) := by decide +kernel
abbrev M_d_newestRunWith : rsM := (⟨"RunStore$Disk", "newestRunWith", "(I)LRunStore$Entries;"⟩, prog_2_method_8_code, 4, some (.object "RunStore$Entries"), [])
theorem d_d_newestRunWith_0 : decode prog_2_method_8_code 0 = .ok (.aload_n 0, 1) := by decide +kernel
theorem d_d_newestRunWith_1 : decode prog_2_method_8_code 1 = .ok (.invokevirtual 36, 3) := by decide +kernel
theorem d_d_newestRunWith_4 : decode prog_2_method_8_code 4 = .ok (.istore_n 2, 1) := by decide +kernel
theorem d_d_newestRunWith_5 : decode prog_2_method_8_code 5 = .ok (.iconst 0, 1) := by decide +kernel
theorem d_d_newestRunWith_6 : decode prog_2_method_8_code 6 = .ok (.istore_n 3, 1) := by decide +kernel
theorem d_d_newestRunWith_7 : decode prog_2_method_8_code 7 = .ok (.iload_n 3, 1) := by decide +kernel
theorem d_d_newestRunWith_8 : decode prog_2_method_8_code 8 = .ok (.iload_n 2, 1) := by decide +kernel
theorem d_d_newestRunWith_9 : decode prog_2_method_8_code 9 = .ok (.if_icmp .ge 29, 3) := by decide +kernel
theorem d_d_newestRunWith_12 : decode prog_2_method_8_code 12 = .ok (.aload_n 0, 1) := by decide +kernel
theorem d_d_newestRunWith_13 : decode prog_2_method_8_code 13 = .ok (.getfield 11, 3) := by decide +kernel
theorem d_d_newestRunWith_16 : decode prog_2_method_8_code 16 = .ok (.iload_n 3, 1) := by decide +kernel
theorem d_d_newestRunWith_17 : decode prog_2_method_8_code 17 = .ok (.aaload, 1) := by decide +kernel
theorem d_d_newestRunWith_18 : decode prog_2_method_8_code 18 = .ok (.iload_n 1, 1) := by decide +kernel
theorem d_d_newestRunWith_19 : decode prog_2_method_8_code 19 = .ok (.invokevirtual 43, 3) := by decide +kernel
theorem d_d_newestRunWith_22 : decode prog_2_method_8_code 22 = .ok (.ifCond .eq 10, 3) := by decide +kernel
theorem d_d_newestRunWith_25 : decode prog_2_method_8_code 25 = .ok (.aload_n 0, 1) := by decide +kernel
theorem d_d_newestRunWith_26 : decode prog_2_method_8_code 26 = .ok (.getfield 11, 3) := by decide +kernel
theorem d_d_newestRunWith_29 : decode prog_2_method_8_code 29 = .ok (.iload_n 3, 1) := by decide +kernel
theorem d_d_newestRunWith_30 : decode prog_2_method_8_code 30 = .ok (.aaload, 1) := by decide +kernel
theorem d_d_newestRunWith_31 : decode prog_2_method_8_code 31 = .ok (.areturn, 1) := by decide +kernel
theorem d_d_newestRunWith_32 : decode prog_2_method_8_code 32 = .ok (.iinc 3 1, 3) := by decide +kernel
theorem d_d_newestRunWith_35 : decode prog_2_method_8_code 35 = .ok (.goto (-28), 3) := by decide +kernel
theorem d_d_newestRunWith_38 : decode prog_2_method_8_code 38 = .ok (.aconst_null, 1) := by decide +kernel
theorem d_d_newestRunWith_39 : decode prog_2_method_8_code 39 = .ok (.areturn, 1) := by decide +kernel
abbrev M_d_countRuns : rsM := (⟨"RunStore$Disk", "countRuns", "()I"⟩, prog_2_method_5_code, 1, some .int, [])
theorem d_d_countRuns_0 : decode prog_2_method_5_code 0 = .ok (.aload_n 0, 1) := by decide +kernel
theorem d_d_countRuns_1 : decode prog_2_method_5_code 1 = .ok (.iconst 3, 1) := by decide +kernel
theorem d_d_countRuns_2 : decode prog_2_method_5_code 2 = .ok (.invokevirtual 32, 3) := by decide +kernel
theorem d_d_countRuns_5 : decode prog_2_method_5_code 5 = .ok (.ireturn, 1) := by decide +kernel
abbrev M_d_firstPlaceOf : rsM := (⟨"RunStore$Disk", "firstPlaceOf", "(I)I"⟩, prog_2_method_14_code, 4, some .int, [])
theorem d_d_firstPlaceOf_0 : decode prog_2_method_14_code 0 = .ok (.iconst 0, 1) := by decide +kernel
theorem d_d_firstPlaceOf_1 : decode prog_2_method_14_code 1 = .ok (.istore_n 2, 1) := by decide +kernel
theorem d_d_firstPlaceOf_2 : decode prog_2_method_14_code 2 = .ok (.iconst 0, 1) := by decide +kernel
theorem d_d_firstPlaceOf_3 : decode prog_2_method_14_code 3 = .ok (.istore_n 3, 1) := by decide +kernel
theorem d_d_firstPlaceOf_4 : decode prog_2_method_14_code 4 = .ok (.iload_n 3, 1) := by decide +kernel
theorem d_d_firstPlaceOf_5 : decode prog_2_method_14_code 5 = .ok (.iload_n 1, 1) := by decide +kernel
theorem d_d_firstPlaceOf_6 : decode prog_2_method_14_code 6 = .ok (.if_icmp .ge 18, 3) := by decide +kernel
theorem d_d_firstPlaceOf_9 : decode prog_2_method_14_code 9 = .ok (.iload_n 2, 1) := by decide +kernel
theorem d_d_firstPlaceOf_10 : decode prog_2_method_14_code 10 = .ok (.aload_n 0, 1) := by decide +kernel
theorem d_d_firstPlaceOf_11 : decode prog_2_method_14_code 11 = .ok (.getfield 18, 3) := by decide +kernel
theorem d_d_firstPlaceOf_14 : decode prog_2_method_14_code 14 = .ok (.iload_n 3, 1) := by decide +kernel
theorem d_d_firstPlaceOf_15 : decode prog_2_method_14_code 15 = .ok (.iaload, 1) := by decide +kernel
theorem d_d_firstPlaceOf_16 : decode prog_2_method_14_code 16 = .ok (.iadd, 1) := by decide +kernel
theorem d_d_firstPlaceOf_17 : decode prog_2_method_14_code 17 = .ok (.istore_n 2, 1) := by decide +kernel
theorem d_d_firstPlaceOf_18 : decode prog_2_method_14_code 18 = .ok (.iinc 3 1, 3) := by decide +kernel
theorem d_d_firstPlaceOf_21 : decode prog_2_method_14_code 21 = .ok (.goto (-17), 3) := by decide +kernel
theorem d_d_firstPlaceOf_24 : decode prog_2_method_14_code 24 = .ok (.iload_n 2, 1) := by decide +kernel
theorem d_d_firstPlaceOf_25 : decode prog_2_method_14_code 25 = .ok (.ireturn, 1) := by decide +kernel
abbrev M_e_valueAt : rsM := (⟨"RunStore$Entries", "valueAt", "(I)I"⟩, prog_3_method_6_code, 2, some .int, [])
theorem d_e_valueAt_0 : decode prog_3_method_6_code 0 = .ok (.aload_n 0, 1) := by decide +kernel
theorem d_e_valueAt_1 : decode prog_3_method_6_code 1 = .ok (.getfield 15, 3) := by decide +kernel
theorem d_e_valueAt_4 : decode prog_3_method_6_code 4 = .ok (.iload_n 1, 1) := by decide +kernel
theorem d_e_valueAt_5 : decode prog_3_method_6_code 5 = .ok (.iaload, 1) := by decide +kernel
theorem d_e_valueAt_6 : decode prog_3_method_6_code 6 = .ok (.ireturn, 1) := by decide +kernel
abbrev M_s_memory : rsM := (⟨"RunStore", "memory", "()I"⟩, prog_1_method_18_code, 1, some .int, [])
theorem d_s_memory_0 : decode prog_1_method_18_code 0 = .ok (.aload_n 0, 1) := by decide +kernel
theorem d_s_memory_1 : decode prog_1_method_18_code 1 = .ok (.getfield 23, 3) := by decide +kernel
theorem d_s_memory_4 : decode prog_1_method_18_code 4 = .ok (.ifCond .eq 13, 3) := by decide +kernel
theorem d_s_memory_7 : decode prog_1_method_18_code 7 = .ok (.aload_n 0, 1) := by decide +kernel
theorem d_s_memory_8 : decode prog_1_method_18_code 8 = .ok (.getfield 10, 3) := by decide +kernel
theorem d_s_memory_11 : decode prog_1_method_18_code 11 = .ok (.invokevirtual 71, 3) := by decide +kernel
theorem d_s_memory_14 : decode prog_1_method_18_code 14 = .ok (.goto 4, 3) := by decide +kernel
theorem d_s_memory_17 : decode prog_1_method_18_code 17 = .ok (.iconst (-1), 1) := by decide +kernel
theorem d_s_memory_18 : decode prog_1_method_18_code 18 = .ok (.ireturn, 1) := by decide +kernel
abbrev M_e_count : rsM := (⟨"RunStore$Entries", "count", "()I"⟩, prog_3_method_2_code, 1, some .int, [])
theorem d_e_count_0 : decode prog_3_method_2_code 0 = .ok (.aload_n 0, 1) := by decide +kernel
theorem d_e_count_1 : decode prog_3_method_2_code 1 = .ok (.getfield 18, 3) := by decide +kernel
theorem d_e_count_4 : decode prog_3_method_2_code 4 = .ok (.ireturn, 1) := by decide +kernel
abbrev M_s_format : rsM := (⟨"RunStore", "format", "()V"⟩, prog_1_method_2_code, 1, none, [])
theorem d_s_format_0 : decode prog_1_method_2_code 0 = .ok (.aload_n 0, 1) := by decide +kernel
theorem d_s_format_1 : decode prog_1_method_2_code 1 = .ok (.iconst 1, 1) := by decide +kernel
theorem d_s_format_2 : decode prog_1_method_2_code 2 = .ok (.invokevirtual 34, 3) := by decide +kernel
theorem d_s_format_5 : decode prog_1_method_2_code 5 = .ok (.aload_n 0, 1) := by decide +kernel
theorem d_s_format_6 : decode prog_1_method_2_code 6 = .ok (.getfield 19, 3) := by decide +kernel
theorem d_s_format_9 : decode prog_1_method_2_code 9 = .ok (.invokevirtual 38, 3) := by decide +kernel
theorem d_s_format_12 : decode prog_1_method_2_code 12 = .ok (.aload_n 0, 1) := by decide +kernel
theorem d_s_format_13 : decode prog_1_method_2_code 13 = .ok (.invokevirtual 41, 3) := by decide +kernel
theorem d_s_format_16 : decode prog_1_method_2_code 16 = .ok (.return_, 1) := by decide +kernel
abbrev M_s_spendWrites : rsM := (⟨"RunStore", "spendWrites", "(I)V"⟩, prog_1_method_29_code, 2, none, [])
theorem d_s_spendWrites_0 : decode prog_1_method_29_code 0 = .ok (.aload_n 0, 1) := by decide +kernel
theorem d_s_spendWrites_1 : decode prog_1_method_29_code 1 = .ok (.getfield 27, 3) := by decide +kernel
theorem d_s_spendWrites_4 : decode prog_1_method_29_code 4 = .ok (.iconst (-1), 1) := by decide +kernel
theorem d_s_spendWrites_5 : decode prog_1_method_29_code 5 = .ok (.if_icmp .ne 4, 3) := by decide +kernel
theorem d_s_spendWrites_8 : decode prog_1_method_29_code 8 = .ok (.return_, 1) := by decide +kernel
theorem d_s_spendWrites_9 : decode prog_1_method_29_code 9 = .ok (.aload_n 0, 1) := by decide +kernel
theorem d_s_spendWrites_10 : decode prog_1_method_29_code 10 = .ok (.getfield 27, 3) := by decide +kernel
theorem d_s_spendWrites_13 : decode prog_1_method_29_code 13 = .ok (.iload_n 1, 1) := by decide +kernel
theorem d_s_spendWrites_14 : decode prog_1_method_29_code 14 = .ok (.if_icmp .ge 17, 3) := by decide +kernel
theorem d_s_spendWrites_17 : decode prog_1_method_29_code 17 = .ok (.aload_n 0, 1) := by decide +kernel
theorem d_s_spendWrites_18 : decode prog_1_method_29_code 18 = .ok (.invokevirtual 142, 3) := by decide +kernel
theorem d_s_spendWrites_21 : decode prog_1_method_29_code 21 = .ok (.new 44, 3) := by decide +kernel
theorem d_s_spendWrites_24 : decode prog_1_method_29_code 24 = .ok (.dup, 1) := by decide +kernel
theorem d_s_spendWrites_25 : decode prog_1_method_29_code 25 = .ok (.ldc 145, 2) := by decide +kernel
theorem d_s_spendWrites_27 : decode prog_1_method_29_code 27 = .ok (.invokespecial 48, 3) := by decide +kernel
theorem d_s_spendWrites_30 : decode prog_1_method_29_code 30 = .ok (.athrow, 1) := by decide +kernel
theorem d_s_spendWrites_31 : decode prog_1_method_29_code 31 = .ok (.aload_n 0, 1) := by decide +kernel
theorem d_s_spendWrites_32 : decode prog_1_method_29_code 32 = .ok (.dup, 1) := by decide +kernel
theorem d_s_spendWrites_33 : decode prog_1_method_29_code 33 = .ok (.getfield 27, 3) := by decide +kernel
theorem d_s_spendWrites_36 : decode prog_1_method_29_code 36 = .ok (.iload_n 1, 1) := by decide +kernel
theorem d_s_spendWrites_37 : decode prog_1_method_29_code 37 = .ok (.isub, 1) := by decide +kernel
theorem d_s_spendWrites_38 : decode prog_1_method_29_code 38 = .ok (.putfield 27, 3) := by decide +kernel
theorem d_s_spendWrites_41 : decode prog_1_method_29_code 41 = .ok (.return_, 1) := by decide +kernel
abbrev M_s_goDown : rsM := (⟨"RunStore", "goDown", "()V"⟩, prog_1_method_28_code, 1, none, [])
theorem d_s_goDown_0 : decode prog_1_method_28_code 0 = .ok (.aload_n 0, 1) := by decide +kernel
theorem d_s_goDown_1 : decode prog_1_method_28_code 1 = .ok (.getfield 10, 3) := by decide +kernel
theorem d_s_goDown_4 : decode prog_1_method_28_code 4 = .ok (.invokevirtual 139, 3) := by decide +kernel
theorem d_s_goDown_7 : decode prog_1_method_28_code 7 = .ok (.aload_n 0, 1) := by decide +kernel
theorem d_s_goDown_8 : decode prog_1_method_28_code 8 = .ok (.iconst (-1), 1) := by decide +kernel
theorem d_s_goDown_9 : decode prog_1_method_28_code 9 = .ok (.putfield 31, 3) := by decide +kernel
theorem d_s_goDown_12 : decode prog_1_method_28_code 12 = .ok (.aload_n 0, 1) := by decide +kernel
theorem d_s_goDown_13 : decode prog_1_method_28_code 13 = .ok (.iconst (-1), 1) := by decide +kernel
theorem d_s_goDown_14 : decode prog_1_method_28_code 14 = .ok (.putfield 27, 3) := by decide +kernel
theorem d_s_goDown_17 : decode prog_1_method_28_code 17 = .ok (.aload_n 0, 1) := by decide +kernel
theorem d_s_goDown_18 : decode prog_1_method_28_code 18 = .ok (.iconst 0, 1) := by decide +kernel
theorem d_s_goDown_19 : decode prog_1_method_28_code 19 = .ok (.putfield 23, 3) := by decide +kernel
theorem d_s_goDown_22 : decode prog_1_method_28_code 22 = .ok (.return_, 1) := by decide +kernel
abbrev M_e_clear : rsM := (⟨"RunStore$Entries", "clear", "()V"⟩, prog_3_method_9_code, 1, none, [])
theorem d_e_clear_0 : decode prog_3_method_9_code 0 = .ok (.aload_n 0, 1) := by decide +kernel
theorem d_e_clear_1 : decode prog_3_method_9_code 1 = .ok (.getfield 9, 3) := by decide +kernel
theorem d_e_clear_4 : decode prog_3_method_9_code 4 = .ok (.iconst 0, 1) := by decide +kernel
theorem d_e_clear_5 : decode prog_3_method_9_code 5 = .ok (.invokestatic 26, 3) := by decide +kernel
theorem d_e_clear_8 : decode prog_3_method_9_code 8 = .ok (.aload_n 0, 1) := by decide +kernel
theorem d_e_clear_9 : decode prog_3_method_9_code 9 = .ok (.iconst 0, 1) := by decide +kernel
theorem d_e_clear_10 : decode prog_3_method_9_code 10 = .ok (.putfield 18, 3) := by decide +kernel
theorem d_e_clear_13 : decode prog_3_method_9_code 13 = .ok (.return_, 1) := by decide +kernel
abbrev M_a_fill : rsM := (⟨"java/util/Arrays", "fill", "([II)V"⟩, prog_14_method_103_code, 4, none, [])
theorem d_a_fill_0 : decode prog_14_method_103_code 0 = .ok (.iconst 0, 1) := by decide +kernel
theorem d_a_fill_1 : decode prog_14_method_103_code 1 = .ok (.istore_n 2, 1) := by decide +kernel
theorem d_a_fill_2 : decode prog_14_method_103_code 2 = .ok (.aload_n 0, 1) := by decide +kernel
theorem d_a_fill_3 : decode prog_14_method_103_code 3 = .ok (.arraylength, 1) := by decide +kernel
theorem d_a_fill_4 : decode prog_14_method_103_code 4 = .ok (.istore_n 3, 1) := by decide +kernel
theorem d_a_fill_5 : decode prog_14_method_103_code 5 = .ok (.iload_n 2, 1) := by decide +kernel
theorem d_a_fill_6 : decode prog_14_method_103_code 6 = .ok (.iload_n 3, 1) := by decide +kernel
theorem d_a_fill_7 : decode prog_14_method_103_code 7 = .ok (.if_icmp .ge 13, 3) := by decide +kernel
theorem d_a_fill_10 : decode prog_14_method_103_code 10 = .ok (.aload_n 0, 1) := by decide +kernel
theorem d_a_fill_11 : decode prog_14_method_103_code 11 = .ok (.iload_n 2, 1) := by decide +kernel
theorem d_a_fill_12 : decode prog_14_method_103_code 12 = .ok (.iload_n 1, 1) := by decide +kernel
theorem d_a_fill_13 : decode prog_14_method_103_code 13 = .ok (.iastore, 1) := by decide +kernel
theorem d_a_fill_14 : decode prog_14_method_103_code 14 = .ok (.iinc 2 1, 3) := by decide +kernel
theorem d_a_fill_17 : decode prog_14_method_103_code 17 = .ok (.goto (-12), 3) := by decide +kernel
theorem d_a_fill_20 : decode prog_14_method_103_code 20 = .ok (.return_, 1) := by decide +kernel
abbrev M_d_makeAnew : rsM := (⟨"RunStore$Disk", "makeAnew", "()V"⟩, prog_2_method_3_code, 1, none, [])
theorem d_d_makeAnew_0 : decode prog_2_method_3_code 0 = .ok (.aload_n 0, 1) := by decide +kernel
theorem d_d_makeAnew_1 : decode prog_2_method_3_code 1 = .ok (.getfield 18, 3) := by decide +kernel
theorem d_d_makeAnew_4 : decode prog_2_method_3_code 4 = .ok (.iconst 0, 1) := by decide +kernel
theorem d_d_makeAnew_5 : decode prog_2_method_3_code 5 = .ok (.invokestatic 26, 3) := by decide +kernel
theorem d_d_makeAnew_8 : decode prog_2_method_3_code 8 = .ok (.aload_n 0, 1) := by decide +kernel
theorem d_d_makeAnew_9 : decode prog_2_method_3_code 9 = .ok (.iconst 1, 1) := by decide +kernel
theorem d_d_makeAnew_10 : decode prog_2_method_3_code 10 = .ok (.putfield 22, 3) := by decide +kernel
theorem d_d_makeAnew_13 : decode prog_2_method_3_code 13 = .ok (.return_, 1) := by decide +kernel
abbrev M_s_comeUp : rsM := (⟨"RunStore", "comeUp", "()V"⟩, prog_1_method_27_code, 1, none, [])
theorem d_s_comeUp_0 : decode prog_1_method_27_code 0 = .ok (.aload_n 0, 1) := by decide +kernel
theorem d_s_comeUp_1 : decode prog_1_method_27_code 1 = .ok (.getfield 10, 3) := by decide +kernel
theorem d_s_comeUp_4 : decode prog_1_method_27_code 4 = .ok (.invokevirtual 139, 3) := by decide +kernel
theorem d_s_comeUp_7 : decode prog_1_method_27_code 7 = .ok (.aload_n 0, 1) := by decide +kernel
theorem d_s_comeUp_8 : decode prog_1_method_27_code 8 = .ok (.iconst (-1), 1) := by decide +kernel
theorem d_s_comeUp_9 : decode prog_1_method_27_code 9 = .ok (.putfield 31, 3) := by decide +kernel
theorem d_s_comeUp_12 : decode prog_1_method_27_code 12 = .ok (.aload_n 0, 1) := by decide +kernel
theorem d_s_comeUp_13 : decode prog_1_method_27_code 13 = .ok (.iconst 1, 1) := by decide +kernel
theorem d_s_comeUp_14 : decode prog_1_method_27_code 14 = .ok (.putfield 23, 3) := by decide +kernel
theorem d_s_comeUp_17 : decode prog_1_method_27_code 17 = .ok (.return_, 1) := by decide +kernel
abbrev M_s_recover : rsM := (⟨"RunStore", "recover", "()I"⟩, prog_1_method_3_code, 1, some .int, [])
theorem d_s_recover_0 : decode prog_1_method_3_code 0 = .ok (.aload_n 0, 1) := by decide +kernel
theorem d_s_recover_1 : decode prog_1_method_3_code 1 = .ok (.getfield 23, 3) := by decide +kernel
theorem d_s_recover_4 : decode prog_1_method_3_code 4 = .ok (.ifCond .eq 13, 3) := by decide +kernel
theorem d_s_recover_7 : decode prog_1_method_3_code 7 = .ok (.new 44, 3) := by decide +kernel
theorem d_s_recover_10 : decode prog_1_method_3_code 10 = .ok (.dup, 1) := by decide +kernel
theorem d_s_recover_11 : decode prog_1_method_3_code 11 = .ok (.ldc 46, 2) := by decide +kernel
theorem d_s_recover_13 : decode prog_1_method_3_code 13 = .ok (.invokespecial 48, 3) := by decide +kernel
theorem d_s_recover_16 : decode prog_1_method_3_code 16 = .ok (.athrow, 1) := by decide +kernel
theorem d_s_recover_17 : decode prog_1_method_3_code 17 = .ok (.aload_n 0, 1) := by decide +kernel
theorem d_s_recover_18 : decode prog_1_method_3_code 18 = .ok (.invokevirtual 51, 3) := by decide +kernel
theorem d_s_recover_21 : decode prog_1_method_3_code 21 = .ok (.aload_n 0, 1) := by decide +kernel
theorem d_s_recover_22 : decode prog_1_method_3_code 22 = .ok (.invokevirtual 41, 3) := by decide +kernel
theorem d_s_recover_25 : decode prog_1_method_3_code 25 = .ok (.aload_n 0, 1) := by decide +kernel
theorem d_s_recover_26 : decode prog_1_method_3_code 26 = .ok (.getfield 19, 3) := by decide +kernel
theorem d_s_recover_29 : decode prog_1_method_3_code 29 = .ok (.invokevirtual 54, 3) := by decide +kernel
theorem d_s_recover_32 : decode prog_1_method_3_code 32 = .ok (.ireturn, 1) := by decide +kernel
abbrev M_s_requireDisk : rsM := (⟨"RunStore", "requireDisk", "()V"⟩, prog_1_method_26_code, 1, none, [])
theorem d_s_requireDisk_0 : decode prog_1_method_26_code 0 = .ok (.aload_n 0, 1) := by decide +kernel
theorem d_s_requireDisk_1 : decode prog_1_method_26_code 1 = .ok (.getfield 19, 3) := by decide +kernel
theorem d_s_requireDisk_4 : decode prog_1_method_26_code 4 = .ok (.invokevirtual 133, 3) := by decide +kernel
theorem d_s_requireDisk_7 : decode prog_1_method_26_code 7 = .ok (.ifCond .ne 13, 3) := by decide +kernel
theorem d_s_requireDisk_10 : decode prog_1_method_26_code 10 = .ok (.new 44, 3) := by decide +kernel
theorem d_s_requireDisk_13 : decode prog_1_method_26_code 13 = .ok (.dup, 1) := by decide +kernel
theorem d_s_requireDisk_14 : decode prog_1_method_26_code 14 = .ok (.ldc 137, 2) := by decide +kernel
theorem d_s_requireDisk_16 : decode prog_1_method_26_code 16 = .ok (.invokespecial 48, 3) := by decide +kernel
theorem d_s_requireDisk_19 : decode prog_1_method_26_code 19 = .ok (.athrow, 1) := by decide +kernel
theorem d_s_requireDisk_20 : decode prog_1_method_26_code 20 = .ok (.return_, 1) := by decide +kernel
abbrev M_d_isMade : rsM := (⟨"RunStore$Disk", "isMade", "()Z"⟩, prog_2_method_2_code, 1, some .boolean, [])
theorem d_d_isMade_0 : decode prog_2_method_2_code 0 = .ok (.aload_n 0, 1) := by decide +kernel
theorem d_d_isMade_1 : decode prog_2_method_2_code 1 = .ok (.getfield 22, 3) := by decide +kernel
theorem d_d_isMade_4 : decode prog_2_method_2_code 4 = .ok (.ireturn, 1) := by decide +kernel
abbrev M_s_put : rsM := (⟨"RunStore", "put", "(II)I"⟩, prog_1_method_4_code, 3, some .int, [])
theorem d_s_put_0 : decode prog_1_method_4_code 0 = .ok (.iload_n 1, 1) := by decide +kernel
theorem d_s_put_1 : decode prog_1_method_4_code 1 = .ok (.invokestatic 58, 3) := by decide +kernel
theorem d_s_put_4 : decode prog_1_method_4_code 4 = .ok (.aload_n 0, 1) := by decide +kernel
theorem d_s_put_5 : decode prog_1_method_4_code 5 = .ok (.invokevirtual 61, 3) := by decide +kernel
theorem d_s_put_8 : decode prog_1_method_4_code 8 = .ok (.aload_n 0, 1) := by decide +kernel
theorem d_s_put_9 : decode prog_1_method_4_code 9 = .ok (.iload_n 1, 1) := by decide +kernel
theorem d_s_put_10 : decode prog_1_method_4_code 10 = .ok (.invokevirtual 64, 3) := by decide +kernel
theorem d_s_put_13 : decode prog_1_method_4_code 13 = .ok (.aload_n 0, 1) := by decide +kernel
theorem d_s_put_14 : decode prog_1_method_4_code 14 = .ok (.getfield 10, 3) := by decide +kernel
theorem d_s_put_17 : decode prog_1_method_4_code 17 = .ok (.iload_n 1, 1) := by decide +kernel
theorem d_s_put_18 : decode prog_1_method_4_code 18 = .ok (.iload_n 2, 1) := by decide +kernel
theorem d_s_put_19 : decode prog_1_method_4_code 19 = .ok (.invokevirtual 67, 3) := by decide +kernel
theorem d_s_put_22 : decode prog_1_method_4_code 22 = .ok (.aload_n 0, 1) := by decide +kernel
theorem d_s_put_23 : decode prog_1_method_4_code 23 = .ok (.iconst (-1), 1) := by decide +kernel
theorem d_s_put_24 : decode prog_1_method_4_code 24 = .ok (.putfield 31, 3) := by decide +kernel
theorem d_s_put_27 : decode prog_1_method_4_code 27 = .ok (.aload_n 0, 1) := by decide +kernel
theorem d_s_put_28 : decode prog_1_method_4_code 28 = .ok (.getfield 10, 3) := by decide +kernel
theorem d_s_put_31 : decode prog_1_method_4_code 31 = .ok (.invokevirtual 71, 3) := by decide +kernel
theorem d_s_put_34 : decode prog_1_method_4_code 34 = .ok (.ireturn, 1) := by decide +kernel
abbrev M_s_requireKey : rsM := (⟨"RunStore", "requireKey", "(I)V"⟩, prog_1_method_23_code, 1, none, [])
theorem d_s_requireKey_0 : decode prog_1_method_23_code 0 = .ok (.iload_n 0, 1) := by decide +kernel
theorem d_s_requireKey_1 : decode prog_1_method_23_code 1 = .ok (.ifCond .lt 9, 3) := by decide +kernel
theorem d_s_requireKey_4 : decode prog_1_method_23_code 4 = .ok (.iload_n 0, 1) := by decide +kernel
theorem d_s_requireKey_5 : decode prog_1_method_23_code 5 = .ok (.bipush 100, 2) := by decide +kernel
theorem d_s_requireKey_7 : decode prog_1_method_23_code 7 = .ok (.if_icmp .lt 13, 3) := by decide +kernel
theorem d_s_requireKey_10 : decode prog_1_method_23_code 10 = .ok (.new 102, 3) := by decide +kernel
theorem d_s_requireKey_13 : decode prog_1_method_23_code 13 = .ok (.dup, 1) := by decide +kernel
theorem d_s_requireKey_14 : decode prog_1_method_23_code 14 = .ok (.ldc 127, 2) := by decide +kernel
theorem d_s_requireKey_16 : decode prog_1_method_23_code 16 = .ok (.invokespecial 106, 3) := by decide +kernel
theorem d_s_requireKey_19 : decode prog_1_method_23_code 19 = .ok (.athrow, 1) := by decide +kernel
theorem d_s_requireKey_20 : decode prog_1_method_23_code 20 = .ok (.return_, 1) := by decide +kernel
abbrev M_s_requireUp : rsM := (⟨"RunStore", "requireUp", "()V"⟩, prog_1_method_25_code, 1, none, [])
theorem d_s_requireUp_0 : decode prog_1_method_25_code 0 = .ok (.aload_n 0, 1) := by decide +kernel
theorem d_s_requireUp_1 : decode prog_1_method_25_code 1 = .ok (.getfield 23, 3) := by decide +kernel
theorem d_s_requireUp_4 : decode prog_1_method_25_code 4 = .ok (.ifCond .ne 13, 3) := by decide +kernel
theorem d_s_requireUp_7 : decode prog_1_method_25_code 7 = .ok (.new 44, 3) := by decide +kernel
theorem d_s_requireUp_10 : decode prog_1_method_25_code 10 = .ok (.dup, 1) := by decide +kernel
theorem d_s_requireUp_11 : decode prog_1_method_25_code 11 = .ok (.ldc 131, 2) := by decide +kernel
theorem d_s_requireUp_13 : decode prog_1_method_25_code 13 = .ok (.invokespecial 48, 3) := by decide +kernel
theorem d_s_requireUp_16 : decode prog_1_method_25_code 16 = .ok (.athrow, 1) := by decide +kernel
theorem d_s_requireUp_17 : decode prog_1_method_25_code 17 = .ok (.return_, 1) := by decide +kernel
abbrev M_s_makePlaceInMemory : rsM := (⟨"RunStore", "makePlaceInMemory", "(I)V"⟩, prog_1_method_31_code, 2, none, [])
theorem d_s_makePlaceInMemory_0 : decode prog_1_method_31_code 0 = .ok (.aload_n 0, 1) := by decide +kernel
theorem d_s_makePlaceInMemory_1 : decode prog_1_method_31_code 1 = .ok (.getfield 10, 3) := by decide +kernel
theorem d_s_makePlaceInMemory_4 : decode prog_1_method_31_code 4 = .ok (.invokevirtual 71, 3) := by decide +kernel
theorem d_s_makePlaceInMemory_7 : decode prog_1_method_31_code 7 = .ok (.bipush 8, 2) := by decide +kernel
theorem d_s_makePlaceInMemory_9 : decode prog_1_method_31_code 9 = .ok (.if_icmp .lt 19, 3) := by decide +kernel
theorem d_s_makePlaceInMemory_12 : decode prog_1_method_31_code 12 = .ok (.aload_n 0, 1) := by decide +kernel
theorem d_s_makePlaceInMemory_13 : decode prog_1_method_31_code 13 = .ok (.getfield 10, 3) := by decide +kernel
theorem d_s_makePlaceInMemory_16 : decode prog_1_method_31_code 16 = .ok (.iload_n 1, 1) := by decide +kernel
theorem d_s_makePlaceInMemory_17 : decode prog_1_method_31_code 17 = .ok (.invokevirtual 159, 3) := by decide +kernel
theorem d_s_makePlaceInMemory_20 : decode prog_1_method_31_code 20 = .ok (.ifCond .ne 8, 3) := by decide +kernel
theorem d_s_makePlaceInMemory_23 : decode prog_1_method_31_code 23 = .ok (.aload_n 0, 1) := by decide +kernel
theorem d_s_makePlaceInMemory_24 : decode prog_1_method_31_code 24 = .ok (.invokevirtual 90, 3) := by decide +kernel
theorem d_s_makePlaceInMemory_27 : decode prog_1_method_31_code 27 = .ok (.pop, 1) := by decide +kernel
theorem d_s_makePlaceInMemory_28 : decode prog_1_method_31_code 28 = .ok (.return_, 1) := by decide +kernel
abbrev M_s_flushMemory : rsM := (⟨"RunStore", "flushMemory", "()I"⟩, prog_1_method_32_code, 2, some .int, [])
theorem d_s_flushMemory_0 : decode prog_1_method_32_code 0 = .ok (.aload_n 0, 1) := by decide +kernel
theorem d_s_flushMemory_1 : decode prog_1_method_32_code 1 = .ok (.getfield 10, 3) := by decide +kernel
theorem d_s_flushMemory_4 : decode prog_1_method_32_code 4 = .ok (.invokevirtual 71, 3) := by decide +kernel
theorem d_s_flushMemory_7 : decode prog_1_method_32_code 7 = .ok (.istore_n 1, 1) := by decide +kernel
theorem d_s_flushMemory_8 : decode prog_1_method_32_code 8 = .ok (.iload_n 1, 1) := by decide +kernel
theorem d_s_flushMemory_9 : decode prog_1_method_32_code 9 = .ok (.ifCond .ne 5, 3) := by decide +kernel
theorem d_s_flushMemory_12 : decode prog_1_method_32_code 12 = .ok (.iconst 0, 1) := by decide +kernel
theorem d_s_flushMemory_13 : decode prog_1_method_32_code 13 = .ok (.ireturn, 1) := by decide +kernel
theorem d_s_flushMemory_14 : decode prog_1_method_32_code 14 = .ok (.aload_n 0, 1) := by decide +kernel
theorem d_s_flushMemory_15 : decode prog_1_method_32_code 15 = .ok (.getfield 19, 3) := by decide +kernel
theorem d_s_flushMemory_18 : decode prog_1_method_32_code 18 = .ok (.aload_n 0, 1) := by decide +kernel
theorem d_s_flushMemory_19 : decode prog_1_method_32_code 19 = .ok (.getfield 10, 3) := by decide +kernel
theorem d_s_flushMemory_22 : decode prog_1_method_32_code 22 = .ok (.invokevirtual 162, 3) := by decide +kernel
theorem d_s_flushMemory_25 : decode prog_1_method_32_code 25 = .ok (.aload_n 0, 1) := by decide +kernel
theorem d_s_flushMemory_26 : decode prog_1_method_32_code 26 = .ok (.aload_n 0, 1) := by decide +kernel
theorem d_s_flushMemory_27 : decode prog_1_method_32_code 27 = .ok (.getfield 19, 3) := by decide +kernel
theorem d_s_flushMemory_30 : decode prog_1_method_32_code 30 = .ok (.invokevirtual 54, 3) := by decide +kernel
theorem d_s_flushMemory_33 : decode prog_1_method_32_code 33 = .ok (.bipush 12, 2) := by decide +kernel
theorem d_s_flushMemory_35 : decode prog_1_method_32_code 35 = .ok (.if_icmp .ge 7, 3) := by decide +kernel
theorem d_s_flushMemory_38 : decode prog_1_method_32_code 38 = .ok (.iconst 1, 1) := by decide +kernel
theorem d_s_flushMemory_39 : decode prog_1_method_32_code 39 = .ok (.goto 4, 3) := by decide +kernel
theorem d_s_flushMemory_42 : decode prog_1_method_32_code 42 = .ok (.iconst 0, 1) := by decide +kernel
theorem d_s_flushMemory_43 : decode prog_1_method_32_code 43 = .ok (.invokevirtual 166, 3) := by decide +kernel
theorem d_s_flushMemory_46 : decode prog_1_method_32_code 46 = .ok (.aload_n 0, 1) := by decide +kernel
theorem d_s_flushMemory_47 : decode prog_1_method_32_code 47 = .ok (.getfield 19, 3) := by decide +kernel
theorem d_s_flushMemory_50 : decode prog_1_method_32_code 50 = .ok (.invokevirtual 170, 3) := by decide +kernel
theorem d_s_flushMemory_53 : decode prog_1_method_32_code 53 = .ok (.aload_n 0, 1) := by decide +kernel
theorem d_s_flushMemory_54 : decode prog_1_method_32_code 54 = .ok (.getfield 10, 3) := by decide +kernel
theorem d_s_flushMemory_57 : decode prog_1_method_32_code 57 = .ok (.invokevirtual 139, 3) := by decide +kernel
theorem d_s_flushMemory_60 : decode prog_1_method_32_code 60 = .ok (.iload_n 1, 1) := by decide +kernel
theorem d_s_flushMemory_61 : decode prog_1_method_32_code 61 = .ok (.ireturn, 1) := by decide +kernel
abbrev M_d_draftFrom : rsM := (⟨"RunStore$Disk", "draftFrom", "(LRunStore$Entries;)V"⟩, prog_2_method_10_code, 2, none, [])
theorem d_d_draftFrom_0 : decode prog_2_method_10_code 0 = .ok (.aload_n 0, 1) := by decide +kernel
theorem d_d_draftFrom_1 : decode prog_2_method_10_code 1 = .ok (.invokevirtual 47, 3) := by decide +kernel
theorem d_d_draftFrom_4 : decode prog_2_method_10_code 4 = .ok (.invokevirtual 51, 3) := by decide +kernel
theorem d_d_draftFrom_7 : decode prog_2_method_10_code 7 = .ok (.aload_n 0, 1) := by decide +kernel
theorem d_d_draftFrom_8 : decode prog_2_method_10_code 8 = .ok (.invokevirtual 47, 3) := by decide +kernel
theorem d_d_draftFrom_11 : decode prog_2_method_10_code 11 = .ok (.aload_n 1, 1) := by decide +kernel
theorem d_d_draftFrom_12 : decode prog_2_method_10_code 12 = .ok (.invokevirtual 54, 3) := by decide +kernel
theorem d_d_draftFrom_15 : decode prog_2_method_10_code 15 = .ok (.return_, 1) := by decide +kernel
abbrev M_d_draft : rsM := (⟨"RunStore$Disk", "draft", "()LRunStore$Entries;"⟩, prog_2_method_9_code, 1, some (.object "RunStore$Entries"), [])
theorem d_d_draft_0 : decode prog_2_method_9_code 0 = .ok (.aload_n 0, 1) := by decide +kernel
theorem d_d_draft_1 : decode prog_2_method_9_code 1 = .ok (.getfield 11, 3) := by decide +kernel
theorem d_d_draft_4 : decode prog_2_method_9_code 4 = .ok (.bipush 12, 2) := by decide +kernel
theorem d_d_draft_6 : decode prog_2_method_9_code 6 = .ok (.aaload, 1) := by decide +kernel
theorem d_d_draft_7 : decode prog_2_method_9_code 7 = .ok (.areturn, 1) := by decide +kernel
abbrev M_e_addOlder : rsM := (⟨"RunStore$Entries", "addOlder", "(LRunStore$Entries;)V"⟩, prog_3_method_10_code, 3, none, [])
theorem d_e_addOlder_0 : decode prog_3_method_10_code 0 = .ok (.iconst 0, 1) := by decide +kernel
theorem d_e_addOlder_1 : decode prog_3_method_10_code 1 = .ok (.istore_n 2, 1) := by decide +kernel
theorem d_e_addOlder_2 : decode prog_3_method_10_code 2 = .ok (.iload_n 2, 1) := by decide +kernel
theorem d_e_addOlder_3 : decode prog_3_method_10_code 3 = .ok (.bipush 100, 2) := by decide +kernel
theorem d_e_addOlder_5 : decode prog_3_method_10_code 5 = .ok (.if_icmp .ge 42, 3) := by decide +kernel
theorem d_e_addOlder_8 : decode prog_3_method_10_code 8 = .ok (.aload_n 0, 1) := by decide +kernel
theorem d_e_addOlder_9 : decode prog_3_method_10_code 9 = .ok (.iload_n 2, 1) := by decide +kernel
theorem d_e_addOlder_10 : decode prog_3_method_10_code 10 = .ok (.invokevirtual 32, 3) := by decide +kernel
theorem d_e_addOlder_13 : decode prog_3_method_10_code 13 = .ok (.ifCond .ne 28, 3) := by decide +kernel
theorem d_e_addOlder_16 : decode prog_3_method_10_code 16 = .ok (.aload_n 1, 1) := by decide +kernel
theorem d_e_addOlder_17 : decode prog_3_method_10_code 17 = .ok (.iload_n 2, 1) := by decide +kernel
theorem d_e_addOlder_18 : decode prog_3_method_10_code 18 = .ok (.invokevirtual 32, 3) := by decide +kernel
theorem d_e_addOlder_21 : decode prog_3_method_10_code 21 = .ok (.ifCond .eq 20, 3) := by decide +kernel
theorem d_e_addOlder_24 : decode prog_3_method_10_code 24 = .ok (.aload_n 0, 1) := by decide +kernel
theorem d_e_addOlder_25 : decode prog_3_method_10_code 25 = .ok (.iload_n 2, 1) := by decide +kernel
theorem d_e_addOlder_26 : decode prog_3_method_10_code 26 = .ok (.aload_n 1, 1) := by decide +kernel
theorem d_e_addOlder_27 : decode prog_3_method_10_code 27 = .ok (.getfield 9, 3) := by decide +kernel
theorem d_e_addOlder_30 : decode prog_3_method_10_code 30 = .ok (.iload_n 2, 1) := by decide +kernel
theorem d_e_addOlder_31 : decode prog_3_method_10_code 31 = .ok (.iaload, 1) := by decide +kernel
theorem d_e_addOlder_32 : decode prog_3_method_10_code 32 = .ok (.aload_n 1, 1) := by decide +kernel
theorem d_e_addOlder_33 : decode prog_3_method_10_code 33 = .ok (.getfield 15, 3) := by decide +kernel
theorem d_e_addOlder_36 : decode prog_3_method_10_code 36 = .ok (.iload_n 2, 1) := by decide +kernel
theorem d_e_addOlder_37 : decode prog_3_method_10_code 37 = .ok (.iaload, 1) := by decide +kernel
theorem d_e_addOlder_38 : decode prog_3_method_10_code 38 = .ok (.invokevirtual 22, 3) := by decide +kernel
theorem d_e_addOlder_41 : decode prog_3_method_10_code 41 = .ok (.iinc 2 1, 3) := by decide +kernel
theorem d_e_addOlder_44 : decode prog_3_method_10_code 44 = .ok (.goto (-42), 3) := by decide +kernel
theorem d_e_addOlder_47 : decode prog_3_method_10_code 47 = .ok (.return_, 1) := by decide +kernel
abbrev M_e_setEntry : rsM := (⟨"RunStore$Entries", "setEntry", "(III)V"⟩, prog_3_method_12_code, 4, none, [])
theorem d_e_setEntry_0 : decode prog_3_method_12_code 0 = .ok (.aload_n 0, 1) := by decide +kernel
theorem d_e_setEntry_1 : decode prog_3_method_12_code 1 = .ok (.iload_n 1, 1) := by decide +kernel
theorem d_e_setEntry_2 : decode prog_3_method_12_code 2 = .ok (.invokevirtual 32, 3) := by decide +kernel
theorem d_e_setEntry_5 : decode prog_3_method_12_code 5 = .ok (.ifCond .ne 13, 3) := by decide +kernel
theorem d_e_setEntry_8 : decode prog_3_method_12_code 8 = .ok (.aload_n 0, 1) := by decide +kernel
theorem d_e_setEntry_9 : decode prog_3_method_12_code 9 = .ok (.dup, 1) := by decide +kernel
theorem d_e_setEntry_10 : decode prog_3_method_12_code 10 = .ok (.getfield 18, 3) := by decide +kernel
theorem d_e_setEntry_13 : decode prog_3_method_12_code 13 = .ok (.iconst 1, 1) := by decide +kernel
theorem d_e_setEntry_14 : decode prog_3_method_12_code 14 = .ok (.iadd, 1) := by decide +kernel
theorem d_e_setEntry_15 : decode prog_3_method_12_code 15 = .ok (.putfield 18, 3) := by decide +kernel
theorem d_e_setEntry_18 : decode prog_3_method_12_code 18 = .ok (.aload_n 0, 1) := by decide +kernel
theorem d_e_setEntry_19 : decode prog_3_method_12_code 19 = .ok (.getfield 9, 3) := by decide +kernel
theorem d_e_setEntry_22 : decode prog_3_method_12_code 22 = .ok (.iload_n 1, 1) := by decide +kernel
theorem d_e_setEntry_23 : decode prog_3_method_12_code 23 = .ok (.iload_n 2, 1) := by decide +kernel
theorem d_e_setEntry_24 : decode prog_3_method_12_code 24 = .ok (.iastore, 1) := by decide +kernel
theorem d_e_setEntry_25 : decode prog_3_method_12_code 25 = .ok (.aload_n 0, 1) := by decide +kernel
theorem d_e_setEntry_26 : decode prog_3_method_12_code 26 = .ok (.getfield 15, 3) := by decide +kernel
theorem d_e_setEntry_29 : decode prog_3_method_12_code 29 = .ok (.iload_n 1, 1) := by decide +kernel
theorem d_e_setEntry_30 : decode prog_3_method_12_code 30 = .ok (.iload_n 3, 1) := by decide +kernel
theorem d_e_setEntry_31 : decode prog_3_method_12_code 31 = .ok (.iastore, 1) := by decide +kernel
theorem d_e_setEntry_32 : decode prog_3_method_12_code 32 = .ok (.return_, 1) := by decide +kernel
abbrev M_s_writeDraft : rsM := (⟨"RunStore", "writeDraft", "(Z)V"⟩, prog_1_method_30_code, 3, none, [])
theorem d_s_writeDraft_0 : decode prog_1_method_30_code 0 = .ok (.aload_n 0, 1) := by decide +kernel
theorem d_s_writeDraft_1 : decode prog_1_method_30_code 1 = .ok (.getfield 19, 3) := by decide +kernel
theorem d_s_writeDraft_4 : decode prog_1_method_30_code 4 = .ok (.invokevirtual 147, 3) := by decide +kernel
theorem d_s_writeDraft_7 : decode prog_1_method_30_code 7 = .ok (.invokevirtual 151, 3) := by decide +kernel
theorem d_s_writeDraft_10 : decode prog_1_method_30_code 10 = .ok (.istore_n 2, 1) := by decide +kernel
theorem d_s_writeDraft_11 : decode prog_1_method_30_code 11 = .ok (.iload_n 1, 1) := by decide +kernel
theorem d_s_writeDraft_12 : decode prog_1_method_30_code 12 = .ok (.ifCond .eq 14, 3) := by decide +kernel
theorem d_s_writeDraft_15 : decode prog_1_method_30_code 15 = .ok (.iload_n 2, 1) := by decide +kernel
theorem d_s_writeDraft_16 : decode prog_1_method_30_code 16 = .ok (.aload_n 0, 1) := by decide +kernel
theorem d_s_writeDraft_17 : decode prog_1_method_30_code 17 = .ok (.getfield 19, 3) := by decide +kernel
theorem d_s_writeDraft_20 : decode prog_1_method_30_code 20 = .ok (.invokevirtual 124, 3) := by decide +kernel
theorem d_s_writeDraft_23 : decode prog_1_method_30_code 23 = .ok (.if_icmp .le 13, 3) := by decide +kernel
theorem d_s_writeDraft_26 : decode prog_1_method_30_code 26 = .ok (.new 154, 3) := by decide +kernel
theorem d_s_writeDraft_29 : decode prog_1_method_30_code 29 = .ok (.dup, 1) := by decide +kernel
theorem d_s_writeDraft_30 : decode prog_1_method_30_code 30 = .ok (.ldc 156, 2) := by decide +kernel
theorem d_s_writeDraft_32 : decode prog_1_method_30_code 32 = .ok (.invokespecial 158, 3) := by decide +kernel
theorem d_s_writeDraft_35 : decode prog_1_method_30_code 35 = .ok (.athrow, 1) := by decide +kernel
theorem d_s_writeDraft_36 : decode prog_1_method_30_code 36 = .ok (.aload_n 0, 1) := by decide +kernel
theorem d_s_writeDraft_37 : decode prog_1_method_30_code 37 = .ok (.iload_n 2, 1) := by decide +kernel
theorem d_s_writeDraft_38 : decode prog_1_method_30_code 38 = .ok (.iconst 1, 1) := by decide +kernel
theorem d_s_writeDraft_39 : decode prog_1_method_30_code 39 = .ok (.iadd, 1) := by decide +kernel
theorem d_s_writeDraft_40 : decode prog_1_method_30_code 40 = .ok (.invokevirtual 34, 3) := by decide +kernel
theorem d_s_writeDraft_43 : decode prog_1_method_30_code 43 = .ok (.return_, 1) := by decide +kernel
abbrev M_e_blocks : rsM := (⟨"RunStore$Entries", "blocks", "()I"⟩, prog_3_method_3_code, 1, some .int, [])
theorem d_e_blocks_0 : decode prog_3_method_3_code 0 = .ok (.aload_n 0, 1) := by decide +kernel
theorem d_e_blocks_1 : decode prog_3_method_3_code 1 = .ok (.getfield 18, 3) := by decide +kernel
theorem d_e_blocks_4 : decode prog_3_method_3_code 4 = .ok (.iconst 4, 1) := by decide +kernel
theorem d_e_blocks_5 : decode prog_3_method_3_code 5 = .ok (.iadd, 1) := by decide +kernel
theorem d_e_blocks_6 : decode prog_3_method_3_code 6 = .ok (.iconst 1, 1) := by decide +kernel
theorem d_e_blocks_7 : decode prog_3_method_3_code 7 = .ok (.isub, 1) := by decide +kernel
theorem d_e_blocks_8 : decode prog_3_method_3_code 8 = .ok (.iconst 4, 1) := by decide +kernel
theorem d_e_blocks_9 : decode prog_3_method_3_code 9 = .ok (.idiv, 1) := by decide +kernel
theorem d_e_blocks_10 : decode prog_3_method_3_code 10 = .ok (.ireturn, 1) := by decide +kernel
abbrev M_d_freeBlocks : rsM := (⟨"RunStore$Disk", "freeBlocks", "()I"⟩, prog_2_method_7_code, 4, some .int, [])
theorem d_d_freeBlocks_0 : decode prog_2_method_7_code 0 = .ok (.bipush 40, 2) := by decide +kernel
theorem d_d_freeBlocks_2 : decode prog_2_method_7_code 2 = .ok (.istore_n 1, 1) := by decide +kernel
theorem d_d_freeBlocks_3 : decode prog_2_method_7_code 3 = .ok (.aload_n 0, 1) := by decide +kernel
theorem d_d_freeBlocks_4 : decode prog_2_method_7_code 4 = .ok (.invokevirtual 36, 3) := by decide +kernel
theorem d_d_freeBlocks_7 : decode prog_2_method_7_code 7 = .ok (.istore_n 2, 1) := by decide +kernel
theorem d_d_freeBlocks_8 : decode prog_2_method_7_code 8 = .ok (.iconst 0, 1) := by decide +kernel
theorem d_d_freeBlocks_9 : decode prog_2_method_7_code 9 = .ok (.istore_n 3, 1) := by decide +kernel
theorem d_d_freeBlocks_10 : decode prog_2_method_7_code 10 = .ok (.iload_n 3, 1) := by decide +kernel
theorem d_d_freeBlocks_11 : decode prog_2_method_7_code 11 = .ok (.iload_n 2, 1) := by decide +kernel
theorem d_d_freeBlocks_12 : decode prog_2_method_7_code 12 = .ok (.if_icmp .ge 21, 3) := by decide +kernel
theorem d_d_freeBlocks_15 : decode prog_2_method_7_code 15 = .ok (.iload_n 1, 1) := by decide +kernel
theorem d_d_freeBlocks_16 : decode prog_2_method_7_code 16 = .ok (.aload_n 0, 1) := by decide +kernel
theorem d_d_freeBlocks_17 : decode prog_2_method_7_code 17 = .ok (.getfield 11, 3) := by decide +kernel
theorem d_d_freeBlocks_20 : decode prog_2_method_7_code 20 = .ok (.iload_n 3, 1) := by decide +kernel
theorem d_d_freeBlocks_21 : decode prog_2_method_7_code 21 = .ok (.aaload, 1) := by decide +kernel
theorem d_d_freeBlocks_22 : decode prog_2_method_7_code 22 = .ok (.invokevirtual 40, 3) := by decide +kernel
theorem d_d_freeBlocks_25 : decode prog_2_method_7_code 25 = .ok (.isub, 1) := by decide +kernel
theorem d_d_freeBlocks_26 : decode prog_2_method_7_code 26 = .ok (.istore_n 1, 1) := by decide +kernel
theorem d_d_freeBlocks_27 : decode prog_2_method_7_code 27 = .ok (.iinc 3 1, 3) := by decide +kernel
theorem d_d_freeBlocks_30 : decode prog_2_method_7_code 30 = .ok (.goto (-20), 3) := by decide +kernel
theorem d_d_freeBlocks_33 : decode prog_2_method_7_code 33 = .ok (.iload_n 1, 1) := by decide +kernel
theorem d_d_freeBlocks_34 : decode prog_2_method_7_code 34 = .ok (.ireturn, 1) := by decide +kernel
abbrev M_d_listDraftAsFlushed : rsM := (⟨"RunStore$Disk", "listDraftAsFlushed", "()V"⟩, prog_2_method_12_code, 1, none, [])
theorem d_d_listDraftAsFlushed_0 : decode prog_2_method_12_code 0 = .ok (.aload_n 0, 1) := by decide +kernel
theorem d_d_listDraftAsFlushed_1 : decode prog_2_method_12_code 1 = .ok (.iconst 0, 1) := by decide +kernel
theorem d_d_listDraftAsFlushed_2 : decode prog_2_method_12_code 2 = .ok (.invokevirtual 65, 3) := by decide +kernel
theorem d_d_listDraftAsFlushed_5 : decode prog_2_method_12_code 5 = .ok (.aload_n 0, 1) := by decide +kernel
theorem d_d_listDraftAsFlushed_6 : decode prog_2_method_12_code 6 = .ok (.getfield 18, 3) := by decide +kernel
theorem d_d_listDraftAsFlushed_9 : decode prog_2_method_12_code 9 = .ok (.iconst 0, 1) := by decide +kernel
theorem d_d_listDraftAsFlushed_10 : decode prog_2_method_12_code 10 = .ok (.dup2, 1) := by decide +kernel
theorem d_d_listDraftAsFlushed_11 : decode prog_2_method_12_code 11 = .ok (.iaload, 1) := by decide +kernel
theorem d_d_listDraftAsFlushed_12 : decode prog_2_method_12_code 12 = .ok (.iconst 1, 1) := by decide +kernel
theorem d_d_listDraftAsFlushed_13 : decode prog_2_method_12_code 13 = .ok (.iadd, 1) := by decide +kernel
theorem d_d_listDraftAsFlushed_14 : decode prog_2_method_12_code 14 = .ok (.iastore, 1) := by decide +kernel
theorem d_d_listDraftAsFlushed_15 : decode prog_2_method_12_code 15 = .ok (.return_, 1) := by decide +kernel
abbrev M_d_moveDraftTo : rsM := (⟨"RunStore$Disk", "moveDraftTo", "(I)V"⟩, prog_2_method_15_code, 4, none, [])
theorem d_d_moveDraftTo_0 : decode prog_2_method_15_code 0 = .ok (.aload_n 0, 1) := by decide +kernel
theorem d_d_moveDraftTo_1 : decode prog_2_method_15_code 1 = .ok (.getfield 11, 3) := by decide +kernel
theorem d_d_moveDraftTo_4 : decode prog_2_method_15_code 4 = .ok (.bipush 12, 2) := by decide +kernel
theorem d_d_moveDraftTo_6 : decode prog_2_method_15_code 6 = .ok (.aaload, 1) := by decide +kernel
theorem d_d_moveDraftTo_7 : decode prog_2_method_15_code 7 = .ok (.astore_n 2, 1) := by decide +kernel
theorem d_d_moveDraftTo_8 : decode prog_2_method_15_code 8 = .ok (.bipush 12, 2) := by decide +kernel
theorem d_d_moveDraftTo_10 : decode prog_2_method_15_code 10 = .ok (.istore_n 3, 1) := by decide +kernel
theorem d_d_moveDraftTo_11 : decode prog_2_method_15_code 11 = .ok (.iload_n 3, 1) := by decide +kernel
theorem d_d_moveDraftTo_12 : decode prog_2_method_15_code 12 = .ok (.iload_n 1, 1) := by decide +kernel
theorem d_d_moveDraftTo_13 : decode prog_2_method_15_code 13 = .ok (.if_icmp .le 23, 3) := by decide +kernel
theorem d_d_moveDraftTo_16 : decode prog_2_method_15_code 16 = .ok (.aload_n 0, 1) := by decide +kernel
theorem d_d_moveDraftTo_17 : decode prog_2_method_15_code 17 = .ok (.getfield 11, 3) := by decide +kernel
theorem d_d_moveDraftTo_20 : decode prog_2_method_15_code 20 = .ok (.iload_n 3, 1) := by decide +kernel
theorem d_d_moveDraftTo_21 : decode prog_2_method_15_code 21 = .ok (.aload_n 0, 1) := by decide +kernel
theorem d_d_moveDraftTo_22 : decode prog_2_method_15_code 22 = .ok (.getfield 11, 3) := by decide +kernel
theorem d_d_moveDraftTo_25 : decode prog_2_method_15_code 25 = .ok (.iload_n 3, 1) := by decide +kernel
theorem d_d_moveDraftTo_26 : decode prog_2_method_15_code 26 = .ok (.iconst 1, 1) := by decide +kernel
theorem d_d_moveDraftTo_27 : decode prog_2_method_15_code 27 = .ok (.isub, 1) := by decide +kernel
theorem d_d_moveDraftTo_28 : decode prog_2_method_15_code 28 = .ok (.aaload, 1) := by decide +kernel
theorem d_d_moveDraftTo_29 : decode prog_2_method_15_code 29 = .ok (.aastore, 1) := by decide +kernel
theorem d_d_moveDraftTo_30 : decode prog_2_method_15_code 30 = .ok (.iinc 3 (-1), 3) := by decide +kernel
theorem d_d_moveDraftTo_33 : decode prog_2_method_15_code 33 = .ok (.goto (-22), 3) := by decide +kernel
theorem d_d_moveDraftTo_36 : decode prog_2_method_15_code 36 = .ok (.aload_n 0, 1) := by decide +kernel
theorem d_d_moveDraftTo_37 : decode prog_2_method_15_code 37 = .ok (.getfield 11, 3) := by decide +kernel
theorem d_d_moveDraftTo_40 : decode prog_2_method_15_code 40 = .ok (.iload_n 1, 1) := by decide +kernel
theorem d_d_moveDraftTo_41 : decode prog_2_method_15_code 41 = .ok (.aload_n 2, 1) := by decide +kernel
theorem d_d_moveDraftTo_42 : decode prog_2_method_15_code 42 = .ok (.aastore, 1) := by decide +kernel
theorem d_d_moveDraftTo_43 : decode prog_2_method_15_code 43 = .ok (.return_, 1) := by decide +kernel
abbrev M_e_setValue : rsM := (⟨"RunStore$Entries", "setValue", "(II)V"⟩, prog_3_method_7_code, 3, none, [])
theorem d_e_setValue_0 : decode prog_3_method_7_code 0 = .ok (.aload_n 0, 1) := by decide +kernel
theorem d_e_setValue_1 : decode prog_3_method_7_code 1 = .ok (.iload_n 1, 1) := by decide +kernel
theorem d_e_setValue_2 : decode prog_3_method_7_code 2 = .ok (.iconst 1, 1) := by decide +kernel
theorem d_e_setValue_3 : decode prog_3_method_7_code 3 = .ok (.iload_n 2, 1) := by decide +kernel
theorem d_e_setValue_4 : decode prog_3_method_7_code 4 = .ok (.invokevirtual 22, 3) := by decide +kernel
theorem d_e_setValue_7 : decode prog_3_method_7_code 7 = .ok (.return_, 1) := by decide +kernel
abbrev M_s_remove : rsM := (⟨"RunStore", "remove", "(I)Z"⟩, prog_1_method_5_code, 3, some .boolean, [])
theorem d_s_remove_0 : decode prog_1_method_5_code 0 = .ok (.iload_n 1, 1) := by decide +kernel
theorem d_s_remove_1 : decode prog_1_method_5_code 1 = .ok (.invokestatic 58, 3) := by decide +kernel
theorem d_s_remove_4 : decode prog_1_method_5_code 4 = .ok (.aload_n 0, 1) := by decide +kernel
theorem d_s_remove_5 : decode prog_1_method_5_code 5 = .ok (.invokevirtual 61, 3) := by decide +kernel
theorem d_s_remove_8 : decode prog_1_method_5_code 8 = .ok (.aload_n 0, 1) := by decide +kernel
theorem d_s_remove_9 : decode prog_1_method_5_code 9 = .ok (.iload_n 1, 1) := by decide +kernel
theorem d_s_remove_10 : decode prog_1_method_5_code 10 = .ok (.invokevirtual 74, 3) := by decide +kernel
theorem d_s_remove_13 : decode prog_1_method_5_code 13 = .ok (.istore_n 2, 1) := by decide +kernel
theorem d_s_remove_14 : decode prog_1_method_5_code 14 = .ok (.aload_n 0, 1) := by decide +kernel
theorem d_s_remove_15 : decode prog_1_method_5_code 15 = .ok (.iload_n 1, 1) := by decide +kernel
theorem d_s_remove_16 : decode prog_1_method_5_code 16 = .ok (.invokevirtual 64, 3) := by decide +kernel
theorem d_s_remove_19 : decode prog_1_method_5_code 19 = .ok (.aload_n 0, 1) := by decide +kernel
theorem d_s_remove_20 : decode prog_1_method_5_code 20 = .ok (.getfield 10, 3) := by decide +kernel
theorem d_s_remove_23 : decode prog_1_method_5_code 23 = .ok (.iload_n 1, 1) := by decide +kernel
theorem d_s_remove_24 : decode prog_1_method_5_code 24 = .ok (.invokevirtual 78, 3) := by decide +kernel
theorem d_s_remove_27 : decode prog_1_method_5_code 27 = .ok (.aload_n 0, 1) := by decide +kernel
theorem d_s_remove_28 : decode prog_1_method_5_code 28 = .ok (.iconst (-1), 1) := by decide +kernel
theorem d_s_remove_29 : decode prog_1_method_5_code 29 = .ok (.putfield 31, 3) := by decide +kernel
theorem d_s_remove_32 : decode prog_1_method_5_code 32 = .ok (.iload_n 2, 1) := by decide +kernel
theorem d_s_remove_33 : decode prog_1_method_5_code 33 = .ok (.ireturn, 1) := by decide +kernel
abbrev M_s_isThere : rsM := (⟨"RunStore", "isThere", "(I)Z"⟩, prog_1_method_36_code, 3, some .boolean, [])
theorem d_s_isThere_0 : decode prog_1_method_36_code 0 = .ok (.aload_n 0, 1) := by decide +kernel
theorem d_s_isThere_1 : decode prog_1_method_36_code 1 = .ok (.iload_n 1, 1) := by decide +kernel
theorem d_s_isThere_2 : decode prog_1_method_36_code 2 = .ok (.invokevirtual 179, 3) := by decide +kernel
theorem d_s_isThere_5 : decode prog_1_method_36_code 5 = .ok (.astore_n 2, 1) := by decide +kernel
theorem d_s_isThere_6 : decode prog_1_method_36_code 6 = .ok (.aload_n 2, 1) := by decide +kernel
theorem d_s_isThere_7 : decode prog_1_method_36_code 7 = .ok (.ifnull 15, 3) := by decide +kernel
theorem d_s_isThere_10 : decode prog_1_method_36_code 10 = .ok (.aload_n 2, 1) := by decide +kernel
theorem d_s_isThere_11 : decode prog_1_method_36_code 11 = .ok (.iload_n 1, 1) := by decide +kernel
theorem d_s_isThere_12 : decode prog_1_method_36_code 12 = .ok (.invokevirtual 183, 3) := by decide +kernel
theorem d_s_isThere_15 : decode prog_1_method_36_code 15 = .ok (.ifCond .eq 7, 3) := by decide +kernel
theorem d_s_isThere_18 : decode prog_1_method_36_code 18 = .ok (.iconst 1, 1) := by decide +kernel
theorem d_s_isThere_19 : decode prog_1_method_36_code 19 = .ok (.goto 4, 3) := by decide +kernel
theorem d_s_isThere_22 : decode prog_1_method_36_code 22 = .ok (.iconst 0, 1) := by decide +kernel
theorem d_s_isThere_23 : decode prog_1_method_36_code 23 = .ok (.ireturn, 1) := by decide +kernel
abbrev M_e_holdsValue : rsM := (⟨"RunStore$Entries", "holdsValue", "(I)Z"⟩, prog_3_method_5_code, 2, some .boolean, [])
theorem d_e_holdsValue_0 : decode prog_3_method_5_code 0 = .ok (.aload_n 0, 1) := by decide +kernel
theorem d_e_holdsValue_1 : decode prog_3_method_5_code 1 = .ok (.getfield 9, 3) := by decide +kernel
theorem d_e_holdsValue_4 : decode prog_3_method_5_code 4 = .ok (.iload_n 1, 1) := by decide +kernel
theorem d_e_holdsValue_5 : decode prog_3_method_5_code 5 = .ok (.iaload, 1) := by decide +kernel
theorem d_e_holdsValue_6 : decode prog_3_method_5_code 6 = .ok (.iconst 1, 1) := by decide +kernel
theorem d_e_holdsValue_7 : decode prog_3_method_5_code 7 = .ok (.if_icmp .ne 7, 3) := by decide +kernel
theorem d_e_holdsValue_10 : decode prog_3_method_5_code 10 = .ok (.iconst 1, 1) := by decide +kernel
theorem d_e_holdsValue_11 : decode prog_3_method_5_code 11 = .ok (.goto 4, 3) := by decide +kernel
theorem d_e_holdsValue_14 : decode prog_3_method_5_code 14 = .ok (.iconst 0, 1) := by decide +kernel
theorem d_e_holdsValue_15 : decode prog_3_method_5_code 15 = .ok (.ireturn, 1) := by decide +kernel
abbrev M_e_setMark : rsM := (⟨"RunStore$Entries", "setMark", "(I)V"⟩, prog_3_method_8_code, 2, none, [])
theorem d_e_setMark_0 : decode prog_3_method_8_code 0 = .ok (.aload_n 0, 1) := by decide +kernel
theorem d_e_setMark_1 : decode prog_3_method_8_code 1 = .ok (.iload_n 1, 1) := by decide +kernel
theorem d_e_setMark_2 : decode prog_3_method_8_code 2 = .ok (.iconst 2, 1) := by decide +kernel
theorem d_e_setMark_3 : decode prog_3_method_8_code 3 = .ok (.iconst 0, 1) := by decide +kernel
theorem d_e_setMark_4 : decode prog_3_method_8_code 4 = .ok (.invokevirtual 22, 3) := by decide +kernel
theorem d_e_setMark_7 : decode prog_3_method_8_code 7 = .ok (.return_, 1) := by decide +kernel
abbrev M_s_get : rsM := (⟨"RunStore", "get", "(I)I"⟩, prog_1_method_6_code, 2, some .int, [])
theorem d_s_get_0 : decode prog_1_method_6_code 0 = .ok (.iload_n 1, 1) := by decide +kernel
theorem d_s_get_1 : decode prog_1_method_6_code 1 = .ok (.invokestatic 58, 3) := by decide +kernel
theorem d_s_get_4 : decode prog_1_method_6_code 4 = .ok (.aload_n 0, 1) := by decide +kernel
theorem d_s_get_5 : decode prog_1_method_6_code 5 = .ok (.invokevirtual 61, 3) := by decide +kernel
theorem d_s_get_8 : decode prog_1_method_6_code 8 = .ok (.aload_n 0, 1) := by decide +kernel
theorem d_s_get_9 : decode prog_1_method_6_code 9 = .ok (.iload_n 1, 1) := by decide +kernel
theorem d_s_get_10 : decode prog_1_method_6_code 10 = .ok (.invokevirtual 74, 3) := by decide +kernel
theorem d_s_get_13 : decode prog_1_method_6_code 13 = .ok (.ifCond .ne 13, 3) := by decide +kernel
theorem d_s_get_16 : decode prog_1_method_6_code 16 = .ok (.new 81, 3) := by decide +kernel
theorem d_s_get_19 : decode prog_1_method_6_code 19 = .ok (.dup, 1) := by decide +kernel
theorem d_s_get_20 : decode prog_1_method_6_code 20 = .ok (.ldc 83, 2) := by decide +kernel
theorem d_s_get_22 : decode prog_1_method_6_code 22 = .ok (.invokespecial 85, 3) := by decide +kernel
theorem d_s_get_25 : decode prog_1_method_6_code 25 = .ok (.athrow, 1) := by decide +kernel
theorem d_s_get_26 : decode prog_1_method_6_code 26 = .ok (.aload_n 0, 1) := by decide +kernel
theorem d_s_get_27 : decode prog_1_method_6_code 27 = .ok (.iload_n 1, 1) := by decide +kernel
theorem d_s_get_28 : decode prog_1_method_6_code 28 = .ok (.invokevirtual 86, 3) := by decide +kernel
theorem d_s_get_31 : decode prog_1_method_6_code 31 = .ok (.ireturn, 1) := by decide +kernel
abbrev M_s_has : rsM := (⟨"RunStore", "has", "(I)Z"⟩, prog_1_method_7_code, 2, some .boolean, [])
theorem d_s_has_0 : decode prog_1_method_7_code 0 = .ok (.iload_n 1, 1) := by decide +kernel
theorem d_s_has_1 : decode prog_1_method_7_code 1 = .ok (.invokestatic 58, 3) := by decide +kernel
theorem d_s_has_4 : decode prog_1_method_7_code 4 = .ok (.aload_n 0, 1) := by decide +kernel
theorem d_s_has_5 : decode prog_1_method_7_code 5 = .ok (.invokevirtual 61, 3) := by decide +kernel
theorem d_s_has_8 : decode prog_1_method_7_code 8 = .ok (.aload_n 0, 1) := by decide +kernel
theorem d_s_has_9 : decode prog_1_method_7_code 9 = .ok (.iload_n 1, 1) := by decide +kernel
theorem d_s_has_10 : decode prog_1_method_7_code 10 = .ok (.invokevirtual 74, 3) := by decide +kernel
theorem d_s_has_13 : decode prog_1_method_7_code 13 = .ok (.ireturn, 1) := by decide +kernel
abbrev M_s_flush : rsM := (⟨"RunStore", "flush", "()I"⟩, prog_1_method_8_code, 2, some .int, [])
theorem d_s_flush_0 : decode prog_1_method_8_code 0 = .ok (.aload_n 0, 1) := by decide +kernel
theorem d_s_flush_1 : decode prog_1_method_8_code 1 = .ok (.invokevirtual 61, 3) := by decide +kernel
theorem d_s_flush_4 : decode prog_1_method_8_code 4 = .ok (.aload_n 0, 1) := by decide +kernel
theorem d_s_flush_5 : decode prog_1_method_8_code 5 = .ok (.invokevirtual 90, 3) := by decide +kernel
theorem d_s_flush_8 : decode prog_1_method_8_code 8 = .ok (.istore_n 1, 1) := by decide +kernel
theorem d_s_flush_9 : decode prog_1_method_8_code 9 = .ok (.aload_n 0, 1) := by decide +kernel
theorem d_s_flush_10 : decode prog_1_method_8_code 10 = .ok (.iconst (-1), 1) := by decide +kernel
theorem d_s_flush_11 : decode prog_1_method_8_code 11 = .ok (.putfield 31, 3) := by decide +kernel
theorem d_s_flush_14 : decode prog_1_method_8_code 14 = .ok (.iload_n 1, 1) := by decide +kernel
theorem d_s_flush_15 : decode prog_1_method_8_code 15 = .ok (.ireturn, 1) := by decide +kernel
abbrev M_s_compact : rsM := (⟨"RunStore", "compact", "()I"⟩, prog_1_method_9_code, 2, some .int, [])
theorem d_s_compact_0 : decode prog_1_method_9_code 0 = .ok (.aload_n 0, 1) := by decide +kernel
theorem d_s_compact_1 : decode prog_1_method_9_code 1 = .ok (.invokevirtual 61, 3) := by decide +kernel
theorem d_s_compact_4 : decode prog_1_method_9_code 4 = .ok (.aload_n 0, 1) := by decide +kernel
theorem d_s_compact_5 : decode prog_1_method_9_code 5 = .ok (.invokevirtual 93, 3) := by decide +kernel
theorem d_s_compact_8 : decode prog_1_method_9_code 8 = .ok (.istore_n 1, 1) := by decide +kernel
theorem d_s_compact_9 : decode prog_1_method_9_code 9 = .ok (.iload_n 1, 1) := by decide +kernel
theorem d_s_compact_10 : decode prog_1_method_9_code 10 = .ok (.iconst (-1), 1) := by decide +kernel
theorem d_s_compact_11 : decode prog_1_method_9_code 11 = .ok (.if_icmp .eq 9, 3) := by decide +kernel
theorem d_s_compact_14 : decode prog_1_method_9_code 14 = .ok (.aload_n 0, 1) := by decide +kernel
theorem d_s_compact_15 : decode prog_1_method_9_code 15 = .ok (.iload_n 1, 1) := by decide +kernel
theorem d_s_compact_16 : decode prog_1_method_9_code 16 = .ok (.invokevirtual 96, 3) := by decide +kernel
theorem d_s_compact_19 : decode prog_1_method_9_code 19 = .ok (.pop, 1) := by decide +kernel
theorem d_s_compact_20 : decode prog_1_method_9_code 20 = .ok (.aload_n 0, 1) := by decide +kernel
theorem d_s_compact_21 : decode prog_1_method_9_code 21 = .ok (.iconst (-1), 1) := by decide +kernel
theorem d_s_compact_22 : decode prog_1_method_9_code 22 = .ok (.putfield 31, 3) := by decide +kernel
theorem d_s_compact_25 : decode prog_1_method_9_code 25 = .ok (.iload_n 1, 1) := by decide +kernel
theorem d_s_compact_26 : decode prog_1_method_9_code 26 = .ok (.ireturn, 1) := by decide +kernel
abbrev M_s_leastLevelToCompact : rsM := (⟨"RunStore", "leastLevelToCompact", "()I"⟩, prog_1_method_34_code, 2, some .int, [])
theorem d_s_leastLevelToCompact_0 : decode prog_1_method_34_code 0 = .ok (.iconst 0, 1) := by decide +kernel
theorem d_s_leastLevelToCompact_1 : decode prog_1_method_34_code 1 = .ok (.istore_n 1, 1) := by decide +kernel
theorem d_s_leastLevelToCompact_2 : decode prog_1_method_34_code 2 = .ok (.iload_n 1, 1) := by decide +kernel
theorem d_s_leastLevelToCompact_3 : decode prog_1_method_34_code 3 = .ok (.iconst 3, 1) := by decide +kernel
theorem d_s_leastLevelToCompact_4 : decode prog_1_method_34_code 4 = .ok (.if_icmp .ge 23, 3) := by decide +kernel
theorem d_s_leastLevelToCompact_7 : decode prog_1_method_34_code 7 = .ok (.aload_n 0, 1) := by decide +kernel
theorem d_s_leastLevelToCompact_8 : decode prog_1_method_34_code 8 = .ok (.getfield 19, 3) := by decide +kernel
theorem d_s_leastLevelToCompact_11 : decode prog_1_method_34_code 11 = .ok (.iload_n 1, 1) := by decide +kernel
theorem d_s_leastLevelToCompact_12 : decode prog_1_method_34_code 12 = .ok (.invokevirtual 112, 3) := by decide +kernel
theorem d_s_leastLevelToCompact_15 : decode prog_1_method_34_code 15 = .ok (.iconst 3, 1) := by decide +kernel
theorem d_s_leastLevelToCompact_16 : decode prog_1_method_34_code 16 = .ok (.if_icmp .le 5, 3) := by decide +kernel
theorem d_s_leastLevelToCompact_19 : decode prog_1_method_34_code 19 = .ok (.iload_n 1, 1) := by decide +kernel
theorem d_s_leastLevelToCompact_20 : decode prog_1_method_34_code 20 = .ok (.ireturn, 1) := by decide +kernel
theorem d_s_leastLevelToCompact_21 : decode prog_1_method_34_code 21 = .ok (.iinc 1 1, 3) := by decide +kernel
theorem d_s_leastLevelToCompact_24 : decode prog_1_method_34_code 24 = .ok (.goto (-22), 3) := by decide +kernel
theorem d_s_leastLevelToCompact_27 : decode prog_1_method_34_code 27 = .ok (.iconst (-1), 1) := by decide +kernel
theorem d_s_leastLevelToCompact_28 : decode prog_1_method_34_code 28 = .ok (.ireturn, 1) := by decide +kernel
abbrev M_d_countRunsOf : rsM := (⟨"RunStore$Disk", "countRunsOf", "(I)I"⟩, prog_2_method_4_code, 2, some .int, [])
theorem d_d_countRunsOf_0 : decode prog_2_method_4_code 0 = .ok (.aload_n 0, 1) := by decide +kernel
theorem d_d_countRunsOf_1 : decode prog_2_method_4_code 1 = .ok (.getfield 18, 3) := by decide +kernel
theorem d_d_countRunsOf_4 : decode prog_2_method_4_code 4 = .ok (.iload_n 1, 1) := by decide +kernel
theorem d_d_countRunsOf_5 : decode prog_2_method_4_code 5 = .ok (.iaload, 1) := by decide +kernel
theorem d_d_countRunsOf_6 : decode prog_2_method_4_code 6 = .ok (.ireturn, 1) := by decide +kernel
abbrev M_s_mergeLevel : rsM := (⟨"RunStore", "mergeLevel", "(I)I"⟩, prog_1_method_33_code, 3, some .int, [])
theorem d_s_mergeLevel_0 : decode prog_1_method_33_code 0 = .ok (.aload_n 0, 1) := by decide +kernel
theorem d_s_mergeLevel_1 : decode prog_1_method_33_code 1 = .ok (.getfield 19, 3) := by decide +kernel
theorem d_s_mergeLevel_4 : decode prog_1_method_33_code 4 = .ok (.iload_n 1, 1) := by decide +kernel
theorem d_s_mergeLevel_5 : decode prog_1_method_33_code 5 = .ok (.invokevirtual 112, 3) := by decide +kernel
theorem d_s_mergeLevel_8 : decode prog_1_method_33_code 8 = .ok (.ifCond .ne 5, 3) := by decide +kernel
theorem d_s_mergeLevel_11 : decode prog_1_method_33_code 11 = .ok (.iconst 0, 1) := by decide +kernel
theorem d_s_mergeLevel_12 : decode prog_1_method_33_code 12 = .ok (.ireturn, 1) := by decide +kernel
theorem d_s_mergeLevel_13 : decode prog_1_method_33_code 13 = .ok (.aload_n 0, 1) := by decide +kernel
theorem d_s_mergeLevel_14 : decode prog_1_method_33_code 14 = .ok (.getfield 19, 3) := by decide +kernel
theorem d_s_mergeLevel_17 : decode prog_1_method_33_code 17 = .ok (.iload_n 1, 1) := by decide +kernel
theorem d_s_mergeLevel_18 : decode prog_1_method_33_code 18 = .ok (.invokevirtual 173, 3) := by decide +kernel
theorem d_s_mergeLevel_21 : decode prog_1_method_33_code 21 = .ok (.aload_n 0, 1) := by decide +kernel
theorem d_s_mergeLevel_22 : decode prog_1_method_33_code 22 = .ok (.getfield 19, 3) := by decide +kernel
theorem d_s_mergeLevel_25 : decode prog_1_method_33_code 25 = .ok (.invokevirtual 147, 3) := by decide +kernel
theorem d_s_mergeLevel_28 : decode prog_1_method_33_code 28 = .ok (.invokevirtual 71, 3) := by decide +kernel
theorem d_s_mergeLevel_31 : decode prog_1_method_33_code 31 = .ok (.istore_n 2, 1) := by decide +kernel
theorem d_s_mergeLevel_32 : decode prog_1_method_33_code 32 = .ok (.aload_n 0, 1) := by decide +kernel
theorem d_s_mergeLevel_33 : decode prog_1_method_33_code 33 = .ok (.iconst 1, 1) := by decide +kernel
theorem d_s_mergeLevel_34 : decode prog_1_method_33_code 34 = .ok (.invokevirtual 166, 3) := by decide +kernel
theorem d_s_mergeLevel_37 : decode prog_1_method_33_code 37 = .ok (.aload_n 0, 1) := by decide +kernel
theorem d_s_mergeLevel_38 : decode prog_1_method_33_code 38 = .ok (.getfield 19, 3) := by decide +kernel
theorem d_s_mergeLevel_41 : decode prog_1_method_33_code 41 = .ok (.iload_n 1, 1) := by decide +kernel
theorem d_s_mergeLevel_42 : decode prog_1_method_33_code 42 = .ok (.invokevirtual 176, 3) := by decide +kernel
theorem d_s_mergeLevel_45 : decode prog_1_method_33_code 45 = .ok (.iload_n 2, 1) := by decide +kernel
theorem d_s_mergeLevel_46 : decode prog_1_method_33_code 46 = .ok (.ireturn, 1) := by decide +kernel
abbrev M_d_draftFromLevel : rsM := (⟨"RunStore$Disk", "draftFromLevel", "(I)V"⟩, prog_2_method_11_code, 3, none, [])
theorem d_d_draftFromLevel_0 : decode prog_2_method_11_code 0 = .ok (.aload_n 0, 1) := by decide +kernel
theorem d_d_draftFromLevel_1 : decode prog_2_method_11_code 1 = .ok (.invokevirtual 47, 3) := by decide +kernel
theorem d_d_draftFromLevel_4 : decode prog_2_method_11_code 4 = .ok (.invokevirtual 51, 3) := by decide +kernel
theorem d_d_draftFromLevel_7 : decode prog_2_method_11_code 7 = .ok (.iconst 0, 1) := by decide +kernel
theorem d_d_draftFromLevel_8 : decode prog_2_method_11_code 8 = .ok (.istore_n 2, 1) := by decide +kernel
theorem d_d_draftFromLevel_9 : decode prog_2_method_11_code 9 = .ok (.iload_n 2, 1) := by decide +kernel
theorem d_d_draftFromLevel_10 : decode prog_2_method_11_code 10 = .ok (.aload_n 0, 1) := by decide +kernel
theorem d_d_draftFromLevel_11 : decode prog_2_method_11_code 11 = .ok (.getfield 18, 3) := by decide +kernel
theorem d_d_draftFromLevel_14 : decode prog_2_method_11_code 14 = .ok (.iload_n 1, 1) := by decide +kernel
theorem d_d_draftFromLevel_15 : decode prog_2_method_11_code 15 = .ok (.iaload, 1) := by decide +kernel
theorem d_d_draftFromLevel_16 : decode prog_2_method_11_code 16 = .ok (.if_icmp .ge 22, 3) := by decide +kernel
theorem d_d_draftFromLevel_19 : decode prog_2_method_11_code 19 = .ok (.aload_n 0, 1) := by decide +kernel
theorem d_d_draftFromLevel_20 : decode prog_2_method_11_code 20 = .ok (.invokevirtual 47, 3) := by decide +kernel
theorem d_d_draftFromLevel_23 : decode prog_2_method_11_code 23 = .ok (.aload_n 0, 1) := by decide +kernel
theorem d_d_draftFromLevel_24 : decode prog_2_method_11_code 24 = .ok (.iload_n 1, 1) := by decide +kernel
theorem d_d_draftFromLevel_25 : decode prog_2_method_11_code 25 = .ok (.iload_n 2, 1) := by decide +kernel
theorem d_d_draftFromLevel_26 : decode prog_2_method_11_code 26 = .ok (.invokevirtual 58, 3) := by decide +kernel
theorem d_d_draftFromLevel_29 : decode prog_2_method_11_code 29 = .ok (.invokevirtual 54, 3) := by decide +kernel
theorem d_d_draftFromLevel_32 : decode prog_2_method_11_code 32 = .ok (.iinc 2 1, 3) := by decide +kernel
theorem d_d_draftFromLevel_35 : decode prog_2_method_11_code 35 = .ok (.goto (-26), 3) := by decide +kernel
theorem d_d_draftFromLevel_38 : decode prog_2_method_11_code 38 = .ok (.aload_n 0, 1) := by decide +kernel
theorem d_d_draftFromLevel_39 : decode prog_2_method_11_code 39 = .ok (.iload_n 1, 1) := by decide +kernel
theorem d_d_draftFromLevel_40 : decode prog_2_method_11_code 40 = .ok (.iconst 1, 1) := by decide +kernel
theorem d_d_draftFromLevel_41 : decode prog_2_method_11_code 41 = .ok (.iadd, 1) := by decide +kernel
theorem d_d_draftFromLevel_42 : decode prog_2_method_11_code 42 = .ok (.invokevirtual 32, 3) := by decide +kernel
theorem d_d_draftFromLevel_45 : decode prog_2_method_11_code 45 = .ok (.aload_n 0, 1) := by decide +kernel
theorem d_d_draftFromLevel_46 : decode prog_2_method_11_code 46 = .ok (.invokevirtual 36, 3) := by decide +kernel
theorem d_d_draftFromLevel_49 : decode prog_2_method_11_code 49 = .ok (.if_icmp .ge 7, 3) := by decide +kernel
theorem d_d_draftFromLevel_52 : decode prog_2_method_11_code 52 = .ok (.iconst 1, 1) := by decide +kernel
theorem d_d_draftFromLevel_53 : decode prog_2_method_11_code 53 = .ok (.goto 4, 3) := by decide +kernel
theorem d_d_draftFromLevel_56 : decode prog_2_method_11_code 56 = .ok (.iconst 0, 1) := by decide +kernel
theorem d_d_draftFromLevel_57 : decode prog_2_method_11_code 57 = .ok (.istore_n 2, 1) := by decide +kernel
theorem d_d_draftFromLevel_58 : decode prog_2_method_11_code 58 = .ok (.iload_n 2, 1) := by decide +kernel
theorem d_d_draftFromLevel_59 : decode prog_2_method_11_code 59 = .ok (.ifCond .ne 10, 3) := by decide +kernel
theorem d_d_draftFromLevel_62 : decode prog_2_method_11_code 62 = .ok (.aload_n 0, 1) := by decide +kernel
theorem d_d_draftFromLevel_63 : decode prog_2_method_11_code 63 = .ok (.invokevirtual 47, 3) := by decide +kernel
theorem d_d_draftFromLevel_66 : decode prog_2_method_11_code 66 = .ok (.invokevirtual 62, 3) := by decide +kernel
theorem d_d_draftFromLevel_69 : decode prog_2_method_11_code 69 = .ok (.return_, 1) := by decide +kernel
abbrev M_d_run : rsM := (⟨"RunStore$Disk", "run", "(II)LRunStore$Entries;"⟩, prog_2_method_6_code, 3, some (.object "RunStore$Entries"), [])
theorem d_d_run_0 : decode prog_2_method_6_code 0 = .ok (.aload_n 0, 1) := by decide +kernel
theorem d_d_run_1 : decode prog_2_method_6_code 1 = .ok (.getfield 11, 3) := by decide +kernel
theorem d_d_run_4 : decode prog_2_method_6_code 4 = .ok (.aload_n 0, 1) := by decide +kernel
theorem d_d_run_5 : decode prog_2_method_6_code 5 = .ok (.iload_n 1, 1) := by decide +kernel
theorem d_d_run_6 : decode prog_2_method_6_code 6 = .ok (.invokevirtual 32, 3) := by decide +kernel
theorem d_d_run_9 : decode prog_2_method_6_code 9 = .ok (.iload_n 2, 1) := by decide +kernel
theorem d_d_run_10 : decode prog_2_method_6_code 10 = .ok (.iadd, 1) := by decide +kernel
theorem d_d_run_11 : decode prog_2_method_6_code 11 = .ok (.aaload, 1) := by decide +kernel
theorem d_d_run_12 : decode prog_2_method_6_code 12 = .ok (.areturn, 1) := by decide +kernel
abbrev M_e_leaveOutMarks : rsM := (⟨"RunStore$Entries", "leaveOutMarks", "()V"⟩, prog_3_method_11_code, 2, none, [])
theorem d_e_leaveOutMarks_0 : decode prog_3_method_11_code 0 = .ok (.iconst 0, 1) := by decide +kernel
theorem d_e_leaveOutMarks_1 : decode prog_3_method_11_code 1 = .ok (.istore_n 1, 1) := by decide +kernel
theorem d_e_leaveOutMarks_2 : decode prog_3_method_11_code 2 = .ok (.iload_n 1, 1) := by decide +kernel
theorem d_e_leaveOutMarks_3 : decode prog_3_method_11_code 3 = .ok (.bipush 100, 2) := by decide +kernel
theorem d_e_leaveOutMarks_5 : decode prog_3_method_11_code 5 = .ok (.if_icmp .ge 36, 3) := by decide +kernel
theorem d_e_leaveOutMarks_8 : decode prog_3_method_11_code 8 = .ok (.aload_n 0, 1) := by decide +kernel
theorem d_e_leaveOutMarks_9 : decode prog_3_method_11_code 9 = .ok (.getfield 9, 3) := by decide +kernel
theorem d_e_leaveOutMarks_12 : decode prog_3_method_11_code 12 = .ok (.iload_n 1, 1) := by decide +kernel
theorem d_e_leaveOutMarks_13 : decode prog_3_method_11_code 13 = .ok (.iaload, 1) := by decide +kernel
theorem d_e_leaveOutMarks_14 : decode prog_3_method_11_code 14 = .ok (.iconst 2, 1) := by decide +kernel
theorem d_e_leaveOutMarks_15 : decode prog_3_method_11_code 15 = .ok (.if_icmp .ne 20, 3) := by decide +kernel
theorem d_e_leaveOutMarks_18 : decode prog_3_method_11_code 18 = .ok (.aload_n 0, 1) := by decide +kernel
theorem d_e_leaveOutMarks_19 : decode prog_3_method_11_code 19 = .ok (.getfield 9, 3) := by decide +kernel
theorem d_e_leaveOutMarks_22 : decode prog_3_method_11_code 22 = .ok (.iload_n 1, 1) := by decide +kernel
theorem d_e_leaveOutMarks_23 : decode prog_3_method_11_code 23 = .ok (.iconst 0, 1) := by decide +kernel
theorem d_e_leaveOutMarks_24 : decode prog_3_method_11_code 24 = .ok (.iastore, 1) := by decide +kernel
theorem d_e_leaveOutMarks_25 : decode prog_3_method_11_code 25 = .ok (.aload_n 0, 1) := by decide +kernel
theorem d_e_leaveOutMarks_26 : decode prog_3_method_11_code 26 = .ok (.dup, 1) := by decide +kernel
theorem d_e_leaveOutMarks_27 : decode prog_3_method_11_code 27 = .ok (.getfield 18, 3) := by decide +kernel
theorem d_e_leaveOutMarks_30 : decode prog_3_method_11_code 30 = .ok (.iconst 1, 1) := by decide +kernel
theorem d_e_leaveOutMarks_31 : decode prog_3_method_11_code 31 = .ok (.isub, 1) := by decide +kernel
theorem d_e_leaveOutMarks_32 : decode prog_3_method_11_code 32 = .ok (.putfield 18, 3) := by decide +kernel
theorem d_e_leaveOutMarks_35 : decode prog_3_method_11_code 35 = .ok (.iinc 1 1, 3) := by decide +kernel
theorem d_e_leaveOutMarks_38 : decode prog_3_method_11_code 38 = .ok (.goto (-36), 3) := by decide +kernel
theorem d_e_leaveOutMarks_41 : decode prog_3_method_11_code 41 = .ok (.return_, 1) := by decide +kernel
abbrev M_d_listDraftAsMerged : rsM := (⟨"RunStore$Disk", "listDraftAsMerged", "(I)V"⟩, prog_2_method_13_code, 5, none, [])
theorem d_d_listDraftAsMerged_0 : decode prog_2_method_13_code 0 = .ok (.aload_n 0, 1) := by decide +kernel
theorem d_d_listDraftAsMerged_1 : decode prog_2_method_13_code 1 = .ok (.getfield 18, 3) := by decide +kernel
theorem d_d_listDraftAsMerged_4 : decode prog_2_method_13_code 4 = .ok (.iload_n 1, 1) := by decide +kernel
theorem d_d_listDraftAsMerged_5 : decode prog_2_method_13_code 5 = .ok (.iaload, 1) := by decide +kernel
theorem d_d_listDraftAsMerged_6 : decode prog_2_method_13_code 6 = .ok (.istore_n 2, 1) := by decide +kernel
theorem d_d_listDraftAsMerged_7 : decode prog_2_method_13_code 7 = .ok (.aload_n 0, 1) := by decide +kernel
theorem d_d_listDraftAsMerged_8 : decode prog_2_method_13_code 8 = .ok (.iload_n 1, 1) := by decide +kernel
theorem d_d_listDraftAsMerged_9 : decode prog_2_method_13_code 9 = .ok (.invokevirtual 32, 3) := by decide +kernel
theorem d_d_listDraftAsMerged_12 : decode prog_2_method_13_code 12 = .ok (.istore_n 3, 1) := by decide +kernel
theorem d_d_listDraftAsMerged_13 : decode prog_2_method_13_code 13 = .ok (.aload_n 0, 1) := by decide +kernel
theorem d_d_listDraftAsMerged_14 : decode prog_2_method_13_code 14 = .ok (.getfield 18, 3) := by decide +kernel
theorem d_d_listDraftAsMerged_17 : decode prog_2_method_13_code 17 = .ok (.iload_n 1, 1) := by decide +kernel
theorem d_d_listDraftAsMerged_18 : decode prog_2_method_13_code 18 = .ok (.iconst 0, 1) := by decide +kernel
theorem d_d_listDraftAsMerged_19 : decode prog_2_method_13_code 19 = .ok (.iastore, 1) := by decide +kernel
theorem d_d_listDraftAsMerged_20 : decode prog_2_method_13_code 20 = .ok (.aload_n 0, 1) := by decide +kernel
theorem d_d_listDraftAsMerged_21 : decode prog_2_method_13_code 21 = .ok (.invokevirtual 47, 3) := by decide +kernel
theorem d_d_listDraftAsMerged_24 : decode prog_2_method_13_code 24 = .ok (.invokevirtual 69, 3) := by decide +kernel
theorem d_d_listDraftAsMerged_27 : decode prog_2_method_13_code 27 = .ok (.ifCond .le 27, 3) := by decide +kernel
theorem d_d_listDraftAsMerged_30 : decode prog_2_method_13_code 30 = .ok (.aload_n 0, 1) := by decide +kernel
theorem d_d_listDraftAsMerged_31 : decode prog_2_method_13_code 31 = .ok (.iload_n 3, 1) := by decide +kernel
theorem d_d_listDraftAsMerged_32 : decode prog_2_method_13_code 32 = .ok (.invokevirtual 65, 3) := by decide +kernel
theorem d_d_listDraftAsMerged_35 : decode prog_2_method_13_code 35 = .ok (.aload_n 0, 1) := by decide +kernel
theorem d_d_listDraftAsMerged_36 : decode prog_2_method_13_code 36 = .ok (.getfield 18, 3) := by decide +kernel
theorem d_d_listDraftAsMerged_39 : decode prog_2_method_13_code 39 = .ok (.iload_n 1, 1) := by decide +kernel
theorem d_d_listDraftAsMerged_40 : decode prog_2_method_13_code 40 = .ok (.iconst 1, 1) := by decide +kernel
theorem d_d_listDraftAsMerged_41 : decode prog_2_method_13_code 41 = .ok (.iadd, 1) := by decide +kernel
theorem d_d_listDraftAsMerged_42 : decode prog_2_method_13_code 42 = .ok (.iconst 2, 1) := by decide +kernel
theorem d_d_listDraftAsMerged_43 : decode prog_2_method_13_code 43 = .ok (.invokestatic 72, 3) := by decide +kernel
theorem d_d_listDraftAsMerged_46 : decode prog_2_method_13_code 46 = .ok (.dup2, 1) := by decide +kernel
theorem d_d_listDraftAsMerged_47 : decode prog_2_method_13_code 47 = .ok (.iaload, 1) := by decide +kernel
theorem d_d_listDraftAsMerged_48 : decode prog_2_method_13_code 48 = .ok (.iconst 1, 1) := by decide +kernel
theorem d_d_listDraftAsMerged_49 : decode prog_2_method_13_code 49 = .ok (.iadd, 1) := by decide +kernel
theorem d_d_listDraftAsMerged_50 : decode prog_2_method_13_code 50 = .ok (.iastore, 1) := by decide +kernel
theorem d_d_listDraftAsMerged_51 : decode prog_2_method_13_code 51 = .ok (.iinc 3 1, 3) := by decide +kernel
theorem d_d_listDraftAsMerged_54 : decode prog_2_method_13_code 54 = .ok (.iconst 0, 1) := by decide +kernel
theorem d_d_listDraftAsMerged_55 : decode prog_2_method_13_code 55 = .ok (.istore 4, 2) := by decide +kernel
theorem d_d_listDraftAsMerged_57 : decode prog_2_method_13_code 57 = .ok (.iload 4, 2) := by decide +kernel
theorem d_d_listDraftAsMerged_59 : decode prog_2_method_13_code 59 = .ok (.iload_n 2, 1) := by decide +kernel
theorem d_d_listDraftAsMerged_60 : decode prog_2_method_13_code 60 = .ok (.if_icmp .ge 14, 3) := by decide +kernel
theorem d_d_listDraftAsMerged_63 : decode prog_2_method_13_code 63 = .ok (.aload_n 0, 1) := by decide +kernel
theorem d_d_listDraftAsMerged_64 : decode prog_2_method_13_code 64 = .ok (.iload_n 3, 1) := by decide +kernel
theorem d_d_listDraftAsMerged_65 : decode prog_2_method_13_code 65 = .ok (.invokevirtual 78, 3) := by decide +kernel
theorem d_d_listDraftAsMerged_68 : decode prog_2_method_13_code 68 = .ok (.iinc 4 1, 3) := by decide +kernel
theorem d_d_listDraftAsMerged_71 : decode prog_2_method_13_code 71 = .ok (.goto (-14), 3) := by decide +kernel
theorem d_d_listDraftAsMerged_74 : decode prog_2_method_13_code 74 = .ok (.return_, 1) := by decide +kernel
abbrev M_a_min : rsM := (⟨"java/lang/Math", "min", "(II)I"⟩, prog_9_method_69_code, 2, some .int, [])
theorem d_a_min_0 : decode prog_9_method_69_code 0 = .ok (.iload_n 0, 1) := by decide +kernel
theorem d_a_min_1 : decode prog_9_method_69_code 1 = .ok (.iload_n 1, 1) := by decide +kernel
theorem d_a_min_2 : decode prog_9_method_69_code 2 = .ok (.if_icmp .gt 7, 3) := by decide +kernel
theorem d_a_min_5 : decode prog_9_method_69_code 5 = .ok (.iload_n 0, 1) := by decide +kernel
theorem d_a_min_6 : decode prog_9_method_69_code 6 = .ok (.goto 4, 3) := by decide +kernel
theorem d_a_min_9 : decode prog_9_method_69_code 9 = .ok (.iload_n 1, 1) := by decide +kernel
theorem d_a_min_10 : decode prog_9_method_69_code 10 = .ok (.ireturn, 1) := by decide +kernel
abbrev M_d_moveToDraft : rsM := (⟨"RunStore$Disk", "moveToDraft", "(I)V"⟩, prog_2_method_16_code, 4, none, [])
theorem d_d_moveToDraft_0 : decode prog_2_method_16_code 0 = .ok (.aload_n 0, 1) := by decide +kernel
theorem d_d_moveToDraft_1 : decode prog_2_method_16_code 1 = .ok (.getfield 11, 3) := by decide +kernel
theorem d_d_moveToDraft_4 : decode prog_2_method_16_code 4 = .ok (.iload_n 1, 1) := by decide +kernel
theorem d_d_moveToDraft_5 : decode prog_2_method_16_code 5 = .ok (.aaload, 1) := by decide +kernel
theorem d_d_moveToDraft_6 : decode prog_2_method_16_code 6 = .ok (.astore_n 2, 1) := by decide +kernel
theorem d_d_moveToDraft_7 : decode prog_2_method_16_code 7 = .ok (.iload_n 1, 1) := by decide +kernel
theorem d_d_moveToDraft_8 : decode prog_2_method_16_code 8 = .ok (.istore_n 3, 1) := by decide +kernel
theorem d_d_moveToDraft_9 : decode prog_2_method_16_code 9 = .ok (.iload_n 3, 1) := by decide +kernel
theorem d_d_moveToDraft_10 : decode prog_2_method_16_code 10 = .ok (.bipush 12, 2) := by decide +kernel
theorem d_d_moveToDraft_12 : decode prog_2_method_16_code 12 = .ok (.if_icmp .ge 23, 3) := by decide +kernel
theorem d_d_moveToDraft_15 : decode prog_2_method_16_code 15 = .ok (.aload_n 0, 1) := by decide +kernel
theorem d_d_moveToDraft_16 : decode prog_2_method_16_code 16 = .ok (.getfield 11, 3) := by decide +kernel
theorem d_d_moveToDraft_19 : decode prog_2_method_16_code 19 = .ok (.iload_n 3, 1) := by decide +kernel
theorem d_d_moveToDraft_20 : decode prog_2_method_16_code 20 = .ok (.aload_n 0, 1) := by decide +kernel
theorem d_d_moveToDraft_21 : decode prog_2_method_16_code 21 = .ok (.getfield 11, 3) := by decide +kernel
theorem d_d_moveToDraft_24 : decode prog_2_method_16_code 24 = .ok (.iload_n 3, 1) := by decide +kernel
theorem d_d_moveToDraft_25 : decode prog_2_method_16_code 25 = .ok (.iconst 1, 1) := by decide +kernel
theorem d_d_moveToDraft_26 : decode prog_2_method_16_code 26 = .ok (.iadd, 1) := by decide +kernel
theorem d_d_moveToDraft_27 : decode prog_2_method_16_code 27 = .ok (.aaload, 1) := by decide +kernel
theorem d_d_moveToDraft_28 : decode prog_2_method_16_code 28 = .ok (.aastore, 1) := by decide +kernel
theorem d_d_moveToDraft_29 : decode prog_2_method_16_code 29 = .ok (.iinc 3 1, 3) := by decide +kernel
theorem d_d_moveToDraft_32 : decode prog_2_method_16_code 32 = .ok (.goto (-23), 3) := by decide +kernel
theorem d_d_moveToDraft_35 : decode prog_2_method_16_code 35 = .ok (.aload_n 0, 1) := by decide +kernel
theorem d_d_moveToDraft_36 : decode prog_2_method_16_code 36 = .ok (.getfield 11, 3) := by decide +kernel
theorem d_d_moveToDraft_39 : decode prog_2_method_16_code 39 = .ok (.bipush 12, 2) := by decide +kernel
theorem d_d_moveToDraft_41 : decode prog_2_method_16_code 41 = .ok (.aload_n 2, 1) := by decide +kernel
theorem d_d_moveToDraft_42 : decode prog_2_method_16_code 42 = .ok (.aastore, 1) := by decide +kernel
theorem d_d_moveToDraft_43 : decode prog_2_method_16_code 43 = .ok (.return_, 1) := by decide +kernel
abbrev M_s_merge : rsM := (⟨"RunStore", "merge", "(I)I"⟩, prog_1_method_10_code, 3, some .int, [])
theorem d_s_merge_0 : decode prog_1_method_10_code 0 = .ok (.iload_n 1, 1) := by decide +kernel
theorem d_s_merge_1 : decode prog_1_method_10_code 1 = .ok (.invokestatic 99, 3) := by decide +kernel
theorem d_s_merge_4 : decode prog_1_method_10_code 4 = .ok (.aload_n 0, 1) := by decide +kernel
theorem d_s_merge_5 : decode prog_1_method_10_code 5 = .ok (.invokevirtual 61, 3) := by decide +kernel
theorem d_s_merge_8 : decode prog_1_method_10_code 8 = .ok (.aload_n 0, 1) := by decide +kernel
theorem d_s_merge_9 : decode prog_1_method_10_code 9 = .ok (.iload_n 1, 1) := by decide +kernel
theorem d_s_merge_10 : decode prog_1_method_10_code 10 = .ok (.invokevirtual 96, 3) := by decide +kernel
theorem d_s_merge_13 : decode prog_1_method_10_code 13 = .ok (.istore_n 2, 1) := by decide +kernel
theorem d_s_merge_14 : decode prog_1_method_10_code 14 = .ok (.aload_n 0, 1) := by decide +kernel
theorem d_s_merge_15 : decode prog_1_method_10_code 15 = .ok (.iconst (-1), 1) := by decide +kernel
theorem d_s_merge_16 : decode prog_1_method_10_code 16 = .ok (.putfield 31, 3) := by decide +kernel
theorem d_s_merge_19 : decode prog_1_method_10_code 19 = .ok (.iload_n 2, 1) := by decide +kernel
theorem d_s_merge_20 : decode prog_1_method_10_code 20 = .ok (.ireturn, 1) := by decide +kernel
abbrev M_s_requireLevel : rsM := (⟨"RunStore", "requireLevel", "(I)V"⟩, prog_1_method_24_code, 1, none, [])
theorem d_s_requireLevel_0 : decode prog_1_method_24_code 0 = .ok (.iload_n 0, 1) := by decide +kernel
theorem d_s_requireLevel_1 : decode prog_1_method_24_code 1 = .ok (.invokestatic 115, 3) := by decide +kernel
theorem d_s_requireLevel_4 : decode prog_1_method_24_code 4 = .ok (.ifCond .ne 13, 3) := by decide +kernel
theorem d_s_requireLevel_7 : decode prog_1_method_24_code 7 = .ok (.new 102, 3) := by decide +kernel
theorem d_s_requireLevel_10 : decode prog_1_method_24_code 10 = .ok (.dup, 1) := by decide +kernel
theorem d_s_requireLevel_11 : decode prog_1_method_24_code 11 = .ok (.ldc 129, 2) := by decide +kernel
theorem d_s_requireLevel_13 : decode prog_1_method_24_code 13 = .ok (.invokespecial 106, 3) := by decide +kernel
theorem d_s_requireLevel_16 : decode prog_1_method_24_code 16 = .ok (.athrow, 1) := by decide +kernel
theorem d_s_requireLevel_17 : decode prog_1_method_24_code 17 = .ok (.return_, 1) := by decide +kernel
abbrev M_s_isLevel : rsM := (⟨"RunStore", "isLevel", "(I)Z"⟩, prog_1_method_22_code, 1, some .boolean, [])
theorem d_s_isLevel_0 : decode prog_1_method_22_code 0 = .ok (.iload_n 0, 1) := by decide +kernel
theorem d_s_isLevel_1 : decode prog_1_method_22_code 1 = .ok (.ifCond .lt 12, 3) := by decide +kernel
theorem d_s_isLevel_4 : decode prog_1_method_22_code 4 = .ok (.iload_n 0, 1) := by decide +kernel
theorem d_s_isLevel_5 : decode prog_1_method_22_code 5 = .ok (.iconst 3, 1) := by decide +kernel
theorem d_s_isLevel_6 : decode prog_1_method_22_code 6 = .ok (.if_icmp .ge 7, 3) := by decide +kernel
theorem d_s_isLevel_9 : decode prog_1_method_22_code 9 = .ok (.iconst 1, 1) := by decide +kernel
theorem d_s_isLevel_10 : decode prog_1_method_22_code 10 = .ok (.goto 4, 3) := by decide +kernel
theorem d_s_isLevel_13 : decode prog_1_method_22_code 13 = .ok (.iconst 0, 1) := by decide +kernel
theorem d_s_isLevel_14 : decode prog_1_method_22_code 14 = .ok (.ireturn, 1) := by decide +kernel
abbrev M_s_limit : rsM := (⟨"RunStore", "limit", "(I)V"⟩, prog_1_method_11_code, 2, none, [])
theorem d_s_limit_0 : decode prog_1_method_11_code 0 = .ok (.iload_n 1, 1) := by decide +kernel
theorem d_s_limit_1 : decode prog_1_method_11_code 1 = .ok (.iconst (-1), 1) := by decide +kernel
theorem d_s_limit_2 : decode prog_1_method_11_code 2 = .ok (.if_icmp .lt 10, 3) := by decide +kernel
theorem d_s_limit_5 : decode prog_1_method_11_code 5 = .ok (.iload_n 1, 1) := by decide +kernel
theorem d_s_limit_6 : decode prog_1_method_11_code 6 = .ok (.sipush 1000, 3) := by decide +kernel
theorem d_s_limit_9 : decode prog_1_method_11_code 9 = .ok (.if_icmp .le 13, 3) := by decide +kernel
theorem d_s_limit_12 : decode prog_1_method_11_code 12 = .ok (.new 102, 3) := by decide +kernel
theorem d_s_limit_15 : decode prog_1_method_11_code 15 = .ok (.dup, 1) := by decide +kernel
theorem d_s_limit_16 : decode prog_1_method_11_code 16 = .ok (.ldc 104, 2) := by decide +kernel
theorem d_s_limit_18 : decode prog_1_method_11_code 18 = .ok (.invokespecial 106, 3) := by decide +kernel
theorem d_s_limit_21 : decode prog_1_method_11_code 21 = .ok (.athrow, 1) := by decide +kernel
theorem d_s_limit_22 : decode prog_1_method_11_code 22 = .ok (.aload_n 0, 1) := by decide +kernel
theorem d_s_limit_23 : decode prog_1_method_11_code 23 = .ok (.invokevirtual 51, 3) := by decide +kernel
theorem d_s_limit_26 : decode prog_1_method_11_code 26 = .ok (.aload_n 0, 1) := by decide +kernel
theorem d_s_limit_27 : decode prog_1_method_11_code 27 = .ok (.iload_n 1, 1) := by decide +kernel
theorem d_s_limit_28 : decode prog_1_method_11_code 28 = .ok (.putfield 27, 3) := by decide +kernel
theorem d_s_limit_31 : decode prog_1_method_11_code 31 = .ok (.return_, 1) := by decide +kernel
abbrev M_s_seek : rsM := (⟨"RunStore", "seek", "(I)Z"⟩, prog_1_method_13_code, 2, some .boolean, [])
theorem d_s_seek_0 : decode prog_1_method_13_code 0 = .ok (.iload_n 1, 1) := by decide +kernel
theorem d_s_seek_1 : decode prog_1_method_13_code 1 = .ok (.invokestatic 58, 3) := by decide +kernel
theorem d_s_seek_4 : decode prog_1_method_13_code 4 = .ok (.aload_n 0, 1) := by decide +kernel
theorem d_s_seek_5 : decode prog_1_method_13_code 5 = .ok (.invokevirtual 61, 3) := by decide +kernel
theorem d_s_seek_8 : decode prog_1_method_13_code 8 = .ok (.aload_n 0, 1) := by decide +kernel
theorem d_s_seek_9 : decode prog_1_method_13_code 9 = .ok (.aload_n 0, 1) := by decide +kernel
theorem d_s_seek_10 : decode prog_1_method_13_code 10 = .ok (.iload_n 1, 1) := by decide +kernel
theorem d_s_seek_11 : decode prog_1_method_13_code 11 = .ok (.invokevirtual 107, 3) := by decide +kernel
theorem d_s_seek_14 : decode prog_1_method_13_code 14 = .ok (.putfield 31, 3) := by decide +kernel
theorem d_s_seek_17 : decode prog_1_method_13_code 17 = .ok (.aload_n 0, 1) := by decide +kernel
theorem d_s_seek_18 : decode prog_1_method_13_code 18 = .ok (.getfield 31, 3) := by decide +kernel
theorem d_s_seek_21 : decode prog_1_method_13_code 21 = .ok (.iconst (-1), 1) := by decide +kernel
theorem d_s_seek_22 : decode prog_1_method_13_code 22 = .ok (.if_icmp .eq 7, 3) := by decide +kernel
theorem d_s_seek_25 : decode prog_1_method_13_code 25 = .ok (.iconst 1, 1) := by decide +kernel
theorem d_s_seek_26 : decode prog_1_method_13_code 26 = .ok (.goto 4, 3) := by decide +kernel
theorem d_s_seek_29 : decode prog_1_method_13_code 29 = .ok (.iconst 0, 1) := by decide +kernel
theorem d_s_seek_30 : decode prog_1_method_13_code 30 = .ok (.ireturn, 1) := by decide +kernel
abbrev M_s_leastKeyThere : rsM := (⟨"RunStore", "leastKeyThere", "(I)I"⟩, prog_1_method_35_code, 3, some .int, [])
theorem d_s_leastKeyThere_0 : decode prog_1_method_35_code 0 = .ok (.iload_n 1, 1) := by decide +kernel
theorem d_s_leastKeyThere_1 : decode prog_1_method_35_code 1 = .ok (.istore_n 2, 1) := by decide +kernel
theorem d_s_leastKeyThere_2 : decode prog_1_method_35_code 2 = .ok (.iload_n 2, 1) := by decide +kernel
theorem d_s_leastKeyThere_3 : decode prog_1_method_35_code 3 = .ok (.bipush 100, 2) := by decide +kernel
theorem d_s_leastKeyThere_5 : decode prog_1_method_35_code 5 = .ok (.if_icmp .ge 19, 3) := by decide +kernel
theorem d_s_leastKeyThere_8 : decode prog_1_method_35_code 8 = .ok (.aload_n 0, 1) := by decide +kernel
theorem d_s_leastKeyThere_9 : decode prog_1_method_35_code 9 = .ok (.iload_n 2, 1) := by decide +kernel
theorem d_s_leastKeyThere_10 : decode prog_1_method_35_code 10 = .ok (.invokevirtual 74, 3) := by decide +kernel
theorem d_s_leastKeyThere_13 : decode prog_1_method_35_code 13 = .ok (.ifCond .eq 5, 3) := by decide +kernel
theorem d_s_leastKeyThere_16 : decode prog_1_method_35_code 16 = .ok (.iload_n 2, 1) := by decide +kernel
theorem d_s_leastKeyThere_17 : decode prog_1_method_35_code 17 = .ok (.ireturn, 1) := by decide +kernel
theorem d_s_leastKeyThere_18 : decode prog_1_method_35_code 18 = .ok (.iinc 2 1, 3) := by decide +kernel
theorem d_s_leastKeyThere_21 : decode prog_1_method_35_code 21 = .ok (.goto (-19), 3) := by decide +kernel
theorem d_s_leastKeyThere_24 : decode prog_1_method_35_code 24 = .ok (.iconst (-1), 1) := by decide +kernel
theorem d_s_leastKeyThere_25 : decode prog_1_method_35_code 25 = .ok (.ireturn, 1) := by decide +kernel
abbrev M_s_next : rsM := (⟨"RunStore", "next", "()Z"⟩, prog_1_method_14_code, 1, some .boolean, [])
theorem d_s_next_0 : decode prog_1_method_14_code 0 = .ok (.aload_n 0, 1) := by decide +kernel
theorem d_s_next_1 : decode prog_1_method_14_code 1 = .ok (.invokevirtual 61, 3) := by decide +kernel
theorem d_s_next_4 : decode prog_1_method_14_code 4 = .ok (.aload_n 0, 1) := by decide +kernel
theorem d_s_next_5 : decode prog_1_method_14_code 5 = .ok (.getfield 31, 3) := by decide +kernel
theorem d_s_next_8 : decode prog_1_method_14_code 8 = .ok (.iconst (-1), 1) := by decide +kernel
theorem d_s_next_9 : decode prog_1_method_14_code 9 = .ok (.if_icmp .ne 13, 3) := by decide +kernel
theorem d_s_next_12 : decode prog_1_method_14_code 12 = .ok (.new 44, 3) := by decide +kernel
theorem d_s_next_15 : decode prog_1_method_14_code 15 = .ok (.dup, 1) := by decide +kernel
theorem d_s_next_16 : decode prog_1_method_14_code 16 = .ok (.ldc 110, 2) := by decide +kernel
theorem d_s_next_18 : decode prog_1_method_14_code 18 = .ok (.invokespecial 48, 3) := by decide +kernel
theorem d_s_next_21 : decode prog_1_method_14_code 21 = .ok (.athrow, 1) := by decide +kernel
theorem d_s_next_22 : decode prog_1_method_14_code 22 = .ok (.aload_n 0, 1) := by decide +kernel
theorem d_s_next_23 : decode prog_1_method_14_code 23 = .ok (.aload_n 0, 1) := by decide +kernel
theorem d_s_next_24 : decode prog_1_method_14_code 24 = .ok (.aload_n 0, 1) := by decide +kernel
theorem d_s_next_25 : decode prog_1_method_14_code 25 = .ok (.getfield 31, 3) := by decide +kernel
theorem d_s_next_28 : decode prog_1_method_14_code 28 = .ok (.iconst 1, 1) := by decide +kernel
theorem d_s_next_29 : decode prog_1_method_14_code 29 = .ok (.iadd, 1) := by decide +kernel
theorem d_s_next_30 : decode prog_1_method_14_code 30 = .ok (.invokevirtual 107, 3) := by decide +kernel
theorem d_s_next_33 : decode prog_1_method_14_code 33 = .ok (.putfield 31, 3) := by decide +kernel
theorem d_s_next_36 : decode prog_1_method_14_code 36 = .ok (.aload_n 0, 1) := by decide +kernel
theorem d_s_next_37 : decode prog_1_method_14_code 37 = .ok (.getfield 31, 3) := by decide +kernel
theorem d_s_next_40 : decode prog_1_method_14_code 40 = .ok (.iconst (-1), 1) := by decide +kernel
theorem d_s_next_41 : decode prog_1_method_14_code 41 = .ok (.if_icmp .eq 7, 3) := by decide +kernel
theorem d_s_next_44 : decode prog_1_method_14_code 44 = .ok (.iconst 1, 1) := by decide +kernel
theorem d_s_next_45 : decode prog_1_method_14_code 45 = .ok (.goto 4, 3) := by decide +kernel
theorem d_s_next_48 : decode prog_1_method_14_code 48 = .ok (.iconst 0, 1) := by decide +kernel
theorem d_s_next_49 : decode prog_1_method_14_code 49 = .ok (.ireturn, 1) := by decide +kernel
abbrev M_s_size : rsM := (⟨"RunStore", "size", "()I"⟩, prog_1_method_17_code, 3, some .int, [])
theorem d_s_size_0 : decode prog_1_method_17_code 0 = .ok (.aload_n 0, 1) := by decide +kernel
theorem d_s_size_1 : decode prog_1_method_17_code 1 = .ok (.invokevirtual 61, 3) := by decide +kernel
theorem d_s_size_4 : decode prog_1_method_17_code 4 = .ok (.iconst 0, 1) := by decide +kernel
theorem d_s_size_5 : decode prog_1_method_17_code 5 = .ok (.istore_n 1, 1) := by decide +kernel
theorem d_s_size_6 : decode prog_1_method_17_code 6 = .ok (.iconst 0, 1) := by decide +kernel
theorem d_s_size_7 : decode prog_1_method_17_code 7 = .ok (.istore_n 2, 1) := by decide +kernel
theorem d_s_size_8 : decode prog_1_method_17_code 8 = .ok (.iload_n 2, 1) := by decide +kernel
theorem d_s_size_9 : decode prog_1_method_17_code 9 = .ok (.bipush 100, 2) := by decide +kernel
theorem d_s_size_11 : decode prog_1_method_17_code 11 = .ok (.if_icmp .ge 20, 3) := by decide +kernel
theorem d_s_size_14 : decode prog_1_method_17_code 14 = .ok (.aload_n 0, 1) := by decide +kernel
theorem d_s_size_15 : decode prog_1_method_17_code 15 = .ok (.iload_n 2, 1) := by decide +kernel
theorem d_s_size_16 : decode prog_1_method_17_code 16 = .ok (.invokevirtual 74, 3) := by decide +kernel
theorem d_s_size_19 : decode prog_1_method_17_code 19 = .ok (.ifCond .eq 6, 3) := by decide +kernel
theorem d_s_size_22 : decode prog_1_method_17_code 22 = .ok (.iinc 1 1, 3) := by decide +kernel
theorem d_s_size_25 : decode prog_1_method_17_code 25 = .ok (.iinc 2 1, 3) := by decide +kernel
theorem d_s_size_28 : decode prog_1_method_17_code 28 = .ok (.goto (-20), 3) := by decide +kernel
theorem d_s_size_31 : decode prog_1_method_17_code 31 = .ok (.iload_n 1, 1) := by decide +kernel
theorem d_s_size_32 : decode prog_1_method_17_code 32 = .ok (.ireturn, 1) := by decide +kernel
abbrev M_s_runs : rsM := (⟨"RunStore", "runs", "(I)I"⟩, prog_1_method_19_code, 2, some .int, [])
theorem d_s_runs_0 : decode prog_1_method_19_code 0 = .ok (.iload_n 1, 1) := by decide +kernel
theorem d_s_runs_1 : decode prog_1_method_19_code 1 = .ok (.invokestatic 99, 3) := by decide +kernel
theorem d_s_runs_4 : decode prog_1_method_19_code 4 = .ok (.aload_n 0, 1) := by decide +kernel
theorem d_s_runs_5 : decode prog_1_method_19_code 5 = .ok (.invokevirtual 61, 3) := by decide +kernel
theorem d_s_runs_8 : decode prog_1_method_19_code 8 = .ok (.aload_n 0, 1) := by decide +kernel
theorem d_s_runs_9 : decode prog_1_method_19_code 9 = .ok (.getfield 19, 3) := by decide +kernel
theorem d_s_runs_12 : decode prog_1_method_19_code 12 = .ok (.iload_n 1, 1) := by decide +kernel
theorem d_s_runs_13 : decode prog_1_method_19_code 13 = .ok (.invokevirtual 112, 3) := by decide +kernel
theorem d_s_runs_16 : decode prog_1_method_19_code 16 = .ok (.ireturn, 1) := by decide +kernel
abbrev M_s_entries : rsM := (⟨"RunStore", "entries", "(II)I"⟩, prog_1_method_20_code, 3, some .int, [])
theorem d_s_entries_0 : decode prog_1_method_20_code 0 = .ok (.aload_n 0, 1) := by decide +kernel
theorem d_s_entries_1 : decode prog_1_method_20_code 1 = .ok (.invokevirtual 61, 3) := by decide +kernel
theorem d_s_entries_4 : decode prog_1_method_20_code 4 = .ok (.iload_n 1, 1) := by decide +kernel
theorem d_s_entries_5 : decode prog_1_method_20_code 5 = .ok (.invokestatic 115, 3) := by decide +kernel
theorem d_s_entries_8 : decode prog_1_method_20_code 8 = .ok (.ifCond .eq 19, 3) := by decide +kernel
theorem d_s_entries_11 : decode prog_1_method_20_code 11 = .ok (.iload_n 2, 1) := by decide +kernel
theorem d_s_entries_12 : decode prog_1_method_20_code 12 = .ok (.ifCond .lt 15, 3) := by decide +kernel
theorem d_s_entries_15 : decode prog_1_method_20_code 15 = .ok (.iload_n 2, 1) := by decide +kernel
theorem d_s_entries_16 : decode prog_1_method_20_code 16 = .ok (.aload_n 0, 1) := by decide +kernel
theorem d_s_entries_17 : decode prog_1_method_20_code 17 = .ok (.getfield 19, 3) := by decide +kernel
theorem d_s_entries_20 : decode prog_1_method_20_code 20 = .ok (.iload_n 1, 1) := by decide +kernel
theorem d_s_entries_21 : decode prog_1_method_20_code 21 = .ok (.invokevirtual 112, 3) := by decide +kernel
theorem d_s_entries_24 : decode prog_1_method_20_code 24 = .ok (.if_icmp .lt 13, 3) := by decide +kernel
theorem d_s_entries_27 : decode prog_1_method_20_code 27 = .ok (.new 81, 3) := by decide +kernel
theorem d_s_entries_30 : decode prog_1_method_20_code 30 = .ok (.dup, 1) := by decide +kernel
theorem d_s_entries_31 : decode prog_1_method_20_code 31 = .ok (.ldc 118, 2) := by decide +kernel
theorem d_s_entries_33 : decode prog_1_method_20_code 33 = .ok (.invokespecial 85, 3) := by decide +kernel
theorem d_s_entries_36 : decode prog_1_method_20_code 36 = .ok (.athrow, 1) := by decide +kernel
theorem d_s_entries_37 : decode prog_1_method_20_code 37 = .ok (.aload_n 0, 1) := by decide +kernel
theorem d_s_entries_38 : decode prog_1_method_20_code 38 = .ok (.getfield 19, 3) := by decide +kernel
theorem d_s_entries_41 : decode prog_1_method_20_code 41 = .ok (.iload_n 1, 1) := by decide +kernel
theorem d_s_entries_42 : decode prog_1_method_20_code 42 = .ok (.iload_n 2, 1) := by decide +kernel
theorem d_s_entries_43 : decode prog_1_method_20_code 43 = .ok (.invokevirtual 120, 3) := by decide +kernel
theorem d_s_entries_46 : decode prog_1_method_20_code 46 = .ok (.invokevirtual 71, 3) := by decide +kernel
theorem d_s_entries_49 : decode prog_1_method_20_code 49 = .ok (.ireturn, 1) := by decide +kernel
abbrev M_s_room : rsM := (⟨"RunStore", "room", "()I"⟩, prog_1_method_21_code, 1, some .int, [])
theorem d_s_room_0 : decode prog_1_method_21_code 0 = .ok (.aload_n 0, 1) := by decide +kernel
theorem d_s_room_1 : decode prog_1_method_21_code 1 = .ok (.invokevirtual 61, 3) := by decide +kernel
theorem d_s_room_4 : decode prog_1_method_21_code 4 = .ok (.aload_n 0, 1) := by decide +kernel
theorem d_s_room_5 : decode prog_1_method_21_code 5 = .ok (.getfield 19, 3) := by decide +kernel
theorem d_s_room_8 : decode prog_1_method_21_code 8 = .ok (.invokevirtual 124, 3) := by decide +kernel
theorem d_s_room_11 : decode prog_1_method_21_code 11 = .ok (.ireturn, 1) := by decide +kernel
end
section
/-! 10.code.law: methods and what stands at each place of their code (written by gen_code.py) -/
abbrev M_l_format : rsM := (⟨"RunStoreLaw", "format", "(LRunStore;)I"⟩, method_3_code, 2, some .int, [(0, 4, 7, 12)])
theorem d_l_format_0 : decode method_3_code 0 = .ok (.aload_n 0, 1) := by decide +kernel
theorem d_l_format_1 : decode method_3_code 1 = .ok (.invokevirtual 7, 3) := by decide +kernel
theorem d_l_format_4 : decode method_3_code 4 = .ok (.goto 6, 3) := by decide +kernel
theorem d_l_format_7 : decode method_3_code 7 = .ok (.astore_n 1, 1) := by decide +kernel
theorem d_l_format_8 : decode method_3_code 8 = .ok (.iconst 1, 1) := by decide +kernel
theorem d_l_format_9 : decode method_3_code 9 = .ok (.ireturn, 1) := by decide +kernel
theorem d_l_format_10 : decode method_3_code 10 = .ok (.iconst 0, 1) := by decide +kernel
theorem d_l_format_11 : decode method_3_code 11 = .ok (.ireturn, 1) := by decide +kernel
abbrev M_l_recover : rsM := (⟨"RunStoreLaw", "recover", "(LRunStore;[J)I"⟩, method_4_code, 3, some .int, [(0, 8, 11, 12)])
theorem d_l_recover_0 : decode method_4_code 0 = .ok (.aload_n 1, 1) := by decide +kernel
theorem d_l_recover_1 : decode method_4_code 1 = .ok (.iconst 0, 1) := by decide +kernel
theorem d_l_recover_2 : decode method_4_code 2 = .ok (.aload_n 0, 1) := by decide +kernel
theorem d_l_recover_3 : decode method_4_code 3 = .ok (.invokevirtual 14, 3) := by decide +kernel
theorem d_l_recover_6 : decode method_4_code 6 = .ok (.i2l, 1) := by decide +kernel
theorem d_l_recover_7 : decode method_4_code 7 = .ok (.lastore, 1) := by decide +kernel
theorem d_l_recover_8 : decode method_4_code 8 = .ok (.goto 6, 3) := by decide +kernel
theorem d_l_recover_11 : decode method_4_code 11 = .ok (.astore_n 2, 1) := by decide +kernel
theorem d_l_recover_12 : decode method_4_code 12 = .ok (.iconst 1, 1) := by decide +kernel
theorem d_l_recover_13 : decode method_4_code 13 = .ok (.ireturn, 1) := by decide +kernel
theorem d_l_recover_14 : decode method_4_code 14 = .ok (.iconst 0, 1) := by decide +kernel
theorem d_l_recover_15 : decode method_4_code 15 = .ok (.ireturn, 1) := by decide +kernel
abbrev M_l_put : rsM := (⟨"RunStoreLaw", "put", "(LRunStore;II[J)I"⟩, method_5_code, 5, some .int, [(0, 10, 13, 22), (0, 10, 17, 12), (0, 10, 21, 24)])
theorem d_l_put_0 : decode method_5_code 0 = .ok (.aload_n 3, 1) := by decide +kernel
theorem d_l_put_1 : decode method_5_code 1 = .ok (.iconst 0, 1) := by decide +kernel
theorem d_l_put_2 : decode method_5_code 2 = .ok (.aload_n 0, 1) := by decide +kernel
theorem d_l_put_3 : decode method_5_code 3 = .ok (.iload_n 1, 1) := by decide +kernel
theorem d_l_put_4 : decode method_5_code 4 = .ok (.iload_n 2, 1) := by decide +kernel
theorem d_l_put_5 : decode method_5_code 5 = .ok (.invokevirtual 18, 3) := by decide +kernel
theorem d_l_put_8 : decode method_5_code 8 = .ok (.i2l, 1) := by decide +kernel
theorem d_l_put_9 : decode method_5_code 9 = .ok (.lastore, 1) := by decide +kernel
theorem d_l_put_10 : decode method_5_code 10 = .ok (.goto 15, 3) := by decide +kernel
theorem d_l_put_13 : decode method_5_code 13 = .ok (.astore 4, 2) := by decide +kernel
theorem d_l_put_15 : decode method_5_code 15 = .ok (.iconst 1, 1) := by decide +kernel
theorem d_l_put_16 : decode method_5_code 16 = .ok (.ireturn, 1) := by decide +kernel
theorem d_l_put_17 : decode method_5_code 17 = .ok (.astore 4, 2) := by decide +kernel
theorem d_l_put_19 : decode method_5_code 19 = .ok (.iconst 2, 1) := by decide +kernel
theorem d_l_put_20 : decode method_5_code 20 = .ok (.ireturn, 1) := by decide +kernel
theorem d_l_put_21 : decode method_5_code 21 = .ok (.astore 4, 2) := by decide +kernel
theorem d_l_put_23 : decode method_5_code 23 = .ok (.iconst 3, 1) := by decide +kernel
theorem d_l_put_24 : decode method_5_code 24 = .ok (.ireturn, 1) := by decide +kernel
theorem d_l_put_25 : decode method_5_code 25 = .ok (.iconst 0, 1) := by decide +kernel
theorem d_l_put_26 : decode method_5_code 26 = .ok (.ireturn, 1) := by decide +kernel
abbrev M_l_remove : rsM := (⟨"RunStoreLaw", "remove", "(LRunStore;I[J)I"⟩, method_6_code, 4, some .int, [(0, 16, 19, 22), (0, 16, 22, 12), (0, 16, 25, 24)])
theorem d_l_remove_0 : decode method_6_code 0 = .ok (.aload_n 2, 1) := by decide +kernel
theorem d_l_remove_1 : decode method_6_code 1 = .ok (.iconst 0, 1) := by decide +kernel
theorem d_l_remove_2 : decode method_6_code 2 = .ok (.aload_n 0, 1) := by decide +kernel
theorem d_l_remove_3 : decode method_6_code 3 = .ok (.iload_n 1, 1) := by decide +kernel
theorem d_l_remove_4 : decode method_6_code 4 = .ok (.invokevirtual 26, 3) := by decide +kernel
theorem d_l_remove_7 : decode method_6_code 7 = .ok (.ifCond .eq 7, 3) := by decide +kernel
theorem d_l_remove_10 : decode method_6_code 10 = .ok (.lconst 1, 1) := by decide +kernel
theorem d_l_remove_11 : decode method_6_code 11 = .ok (.goto 4, 3) := by decide +kernel
theorem d_l_remove_14 : decode method_6_code 14 = .ok (.lconst 0, 1) := by decide +kernel
theorem d_l_remove_15 : decode method_6_code 15 = .ok (.lastore, 1) := by decide +kernel
theorem d_l_remove_16 : decode method_6_code 16 = .ok (.goto 12, 3) := by decide +kernel
theorem d_l_remove_19 : decode method_6_code 19 = .ok (.astore_n 3, 1) := by decide +kernel
theorem d_l_remove_20 : decode method_6_code 20 = .ok (.iconst 1, 1) := by decide +kernel
theorem d_l_remove_21 : decode method_6_code 21 = .ok (.ireturn, 1) := by decide +kernel
theorem d_l_remove_22 : decode method_6_code 22 = .ok (.astore_n 3, 1) := by decide +kernel
theorem d_l_remove_23 : decode method_6_code 23 = .ok (.iconst 2, 1) := by decide +kernel
theorem d_l_remove_24 : decode method_6_code 24 = .ok (.ireturn, 1) := by decide +kernel
theorem d_l_remove_25 : decode method_6_code 25 = .ok (.astore_n 3, 1) := by decide +kernel
theorem d_l_remove_26 : decode method_6_code 26 = .ok (.iconst 3, 1) := by decide +kernel
theorem d_l_remove_27 : decode method_6_code 27 = .ok (.ireturn, 1) := by decide +kernel
theorem d_l_remove_28 : decode method_6_code 28 = .ok (.iconst 0, 1) := by decide +kernel
theorem d_l_remove_29 : decode method_6_code 29 = .ok (.ireturn, 1) := by decide +kernel
abbrev M_l_get : rsM := (⟨"RunStoreLaw", "get", "(LRunStore;I[J)I"⟩, method_7_code, 4, some .int, [(0, 9, 12, 22), (0, 9, 15, 12), (0, 9, 18, 34)])
theorem d_l_get_0 : decode method_7_code 0 = .ok (.aload_n 2, 1) := by decide +kernel
theorem d_l_get_1 : decode method_7_code 1 = .ok (.iconst 0, 1) := by decide +kernel
theorem d_l_get_2 : decode method_7_code 2 = .ok (.aload_n 0, 1) := by decide +kernel
theorem d_l_get_3 : decode method_7_code 3 = .ok (.iload_n 1, 1) := by decide +kernel
theorem d_l_get_4 : decode method_7_code 4 = .ok (.invokevirtual 30, 3) := by decide +kernel
theorem d_l_get_7 : decode method_7_code 7 = .ok (.i2l, 1) := by decide +kernel
theorem d_l_get_8 : decode method_7_code 8 = .ok (.lastore, 1) := by decide +kernel
theorem d_l_get_9 : decode method_7_code 9 = .ok (.goto 12, 3) := by decide +kernel
theorem d_l_get_12 : decode method_7_code 12 = .ok (.astore_n 3, 1) := by decide +kernel
theorem d_l_get_13 : decode method_7_code 13 = .ok (.iconst 1, 1) := by decide +kernel
theorem d_l_get_14 : decode method_7_code 14 = .ok (.ireturn, 1) := by decide +kernel
theorem d_l_get_15 : decode method_7_code 15 = .ok (.astore_n 3, 1) := by decide +kernel
theorem d_l_get_16 : decode method_7_code 16 = .ok (.iconst 2, 1) := by decide +kernel
theorem d_l_get_17 : decode method_7_code 17 = .ok (.ireturn, 1) := by decide +kernel
theorem d_l_get_18 : decode method_7_code 18 = .ok (.astore_n 3, 1) := by decide +kernel
theorem d_l_get_19 : decode method_7_code 19 = .ok (.iconst 3, 1) := by decide +kernel
theorem d_l_get_20 : decode method_7_code 20 = .ok (.ireturn, 1) := by decide +kernel
theorem d_l_get_21 : decode method_7_code 21 = .ok (.iconst 0, 1) := by decide +kernel
theorem d_l_get_22 : decode method_7_code 22 = .ok (.ireturn, 1) := by decide +kernel
abbrev M_l_has : rsM := (⟨"RunStoreLaw", "has", "(LRunStore;I[J)I"⟩, method_8_code, 4, some .int, [(0, 16, 19, 22), (0, 16, 22, 12)])
theorem d_l_has_0 : decode method_8_code 0 = .ok (.aload_n 2, 1) := by decide +kernel
theorem d_l_has_1 : decode method_8_code 1 = .ok (.iconst 0, 1) := by decide +kernel
theorem d_l_has_2 : decode method_8_code 2 = .ok (.aload_n 0, 1) := by decide +kernel
theorem d_l_has_3 : decode method_8_code 3 = .ok (.iload_n 1, 1) := by decide +kernel
theorem d_l_has_4 : decode method_8_code 4 = .ok (.invokevirtual 36, 3) := by decide +kernel
theorem d_l_has_7 : decode method_8_code 7 = .ok (.ifCond .eq 7, 3) := by decide +kernel
theorem d_l_has_10 : decode method_8_code 10 = .ok (.lconst 1, 1) := by decide +kernel
theorem d_l_has_11 : decode method_8_code 11 = .ok (.goto 4, 3) := by decide +kernel
theorem d_l_has_14 : decode method_8_code 14 = .ok (.lconst 0, 1) := by decide +kernel
theorem d_l_has_15 : decode method_8_code 15 = .ok (.lastore, 1) := by decide +kernel
theorem d_l_has_16 : decode method_8_code 16 = .ok (.goto 9, 3) := by decide +kernel
theorem d_l_has_19 : decode method_8_code 19 = .ok (.astore_n 3, 1) := by decide +kernel
theorem d_l_has_20 : decode method_8_code 20 = .ok (.iconst 1, 1) := by decide +kernel
theorem d_l_has_21 : decode method_8_code 21 = .ok (.ireturn, 1) := by decide +kernel
theorem d_l_has_22 : decode method_8_code 22 = .ok (.astore_n 3, 1) := by decide +kernel
theorem d_l_has_23 : decode method_8_code 23 = .ok (.iconst 2, 1) := by decide +kernel
theorem d_l_has_24 : decode method_8_code 24 = .ok (.ireturn, 1) := by decide +kernel
theorem d_l_has_25 : decode method_8_code 25 = .ok (.iconst 0, 1) := by decide +kernel
theorem d_l_has_26 : decode method_8_code 26 = .ok (.ireturn, 1) := by decide +kernel
abbrev M_l_flush : rsM := (⟨"RunStoreLaw", "flush", "(LRunStore;[J)I"⟩, method_9_code, 3, some .int, [(0, 8, 11, 12), (0, 8, 14, 24)])
theorem d_l_flush_0 : decode method_9_code 0 = .ok (.aload_n 1, 1) := by decide +kernel
theorem d_l_flush_1 : decode method_9_code 1 = .ok (.iconst 0, 1) := by decide +kernel
theorem d_l_flush_2 : decode method_9_code 2 = .ok (.aload_n 0, 1) := by decide +kernel
theorem d_l_flush_3 : decode method_9_code 3 = .ok (.invokevirtual 39, 3) := by decide +kernel
theorem d_l_flush_6 : decode method_9_code 6 = .ok (.i2l, 1) := by decide +kernel
theorem d_l_flush_7 : decode method_9_code 7 = .ok (.lastore, 1) := by decide +kernel
theorem d_l_flush_8 : decode method_9_code 8 = .ok (.goto 9, 3) := by decide +kernel
theorem d_l_flush_11 : decode method_9_code 11 = .ok (.astore_n 2, 1) := by decide +kernel
theorem d_l_flush_12 : decode method_9_code 12 = .ok (.iconst 1, 1) := by decide +kernel
theorem d_l_flush_13 : decode method_9_code 13 = .ok (.ireturn, 1) := by decide +kernel
theorem d_l_flush_14 : decode method_9_code 14 = .ok (.astore_n 2, 1) := by decide +kernel
theorem d_l_flush_15 : decode method_9_code 15 = .ok (.iconst 2, 1) := by decide +kernel
theorem d_l_flush_16 : decode method_9_code 16 = .ok (.ireturn, 1) := by decide +kernel
theorem d_l_flush_17 : decode method_9_code 17 = .ok (.iconst 0, 1) := by decide +kernel
theorem d_l_flush_18 : decode method_9_code 18 = .ok (.ireturn, 1) := by decide +kernel
abbrev M_l_compact : rsM := (⟨"RunStoreLaw", "compact", "(LRunStore;[J)I"⟩, method_10_code, 3, some .int, [(0, 8, 11, 12), (0, 8, 14, 24)])
theorem d_l_compact_0 : decode method_10_code 0 = .ok (.aload_n 1, 1) := by decide +kernel
theorem d_l_compact_1 : decode method_10_code 1 = .ok (.iconst 0, 1) := by decide +kernel
theorem d_l_compact_2 : decode method_10_code 2 = .ok (.aload_n 0, 1) := by decide +kernel
theorem d_l_compact_3 : decode method_10_code 3 = .ok (.invokevirtual 42, 3) := by decide +kernel
theorem d_l_compact_6 : decode method_10_code 6 = .ok (.i2l, 1) := by decide +kernel
theorem d_l_compact_7 : decode method_10_code 7 = .ok (.lastore, 1) := by decide +kernel
theorem d_l_compact_8 : decode method_10_code 8 = .ok (.goto 9, 3) := by decide +kernel
theorem d_l_compact_11 : decode method_10_code 11 = .ok (.astore_n 2, 1) := by decide +kernel
theorem d_l_compact_12 : decode method_10_code 12 = .ok (.iconst 1, 1) := by decide +kernel
theorem d_l_compact_13 : decode method_10_code 13 = .ok (.ireturn, 1) := by decide +kernel
theorem d_l_compact_14 : decode method_10_code 14 = .ok (.astore_n 2, 1) := by decide +kernel
theorem d_l_compact_15 : decode method_10_code 15 = .ok (.iconst 2, 1) := by decide +kernel
theorem d_l_compact_16 : decode method_10_code 16 = .ok (.ireturn, 1) := by decide +kernel
theorem d_l_compact_17 : decode method_10_code 17 = .ok (.iconst 0, 1) := by decide +kernel
theorem d_l_compact_18 : decode method_10_code 18 = .ok (.ireturn, 1) := by decide +kernel
abbrev M_l_merge : rsM := (⟨"RunStoreLaw", "merge", "(LRunStore;I[J)I"⟩, method_11_code, 4, some .int, [(0, 9, 12, 22), (0, 9, 15, 12), (0, 9, 18, 24)])
theorem d_l_merge_0 : decode method_11_code 0 = .ok (.aload_n 2, 1) := by decide +kernel
theorem d_l_merge_1 : decode method_11_code 1 = .ok (.iconst 0, 1) := by decide +kernel
theorem d_l_merge_2 : decode method_11_code 2 = .ok (.aload_n 0, 1) := by decide +kernel
theorem d_l_merge_3 : decode method_11_code 3 = .ok (.iload_n 1, 1) := by decide +kernel
theorem d_l_merge_4 : decode method_11_code 4 = .ok (.invokevirtual 45, 3) := by decide +kernel
theorem d_l_merge_7 : decode method_11_code 7 = .ok (.i2l, 1) := by decide +kernel
theorem d_l_merge_8 : decode method_11_code 8 = .ok (.lastore, 1) := by decide +kernel
theorem d_l_merge_9 : decode method_11_code 9 = .ok (.goto 12, 3) := by decide +kernel
theorem d_l_merge_12 : decode method_11_code 12 = .ok (.astore_n 3, 1) := by decide +kernel
theorem d_l_merge_13 : decode method_11_code 13 = .ok (.iconst 1, 1) := by decide +kernel
theorem d_l_merge_14 : decode method_11_code 14 = .ok (.ireturn, 1) := by decide +kernel
theorem d_l_merge_15 : decode method_11_code 15 = .ok (.astore_n 3, 1) := by decide +kernel
theorem d_l_merge_16 : decode method_11_code 16 = .ok (.iconst 2, 1) := by decide +kernel
theorem d_l_merge_17 : decode method_11_code 17 = .ok (.ireturn, 1) := by decide +kernel
theorem d_l_merge_18 : decode method_11_code 18 = .ok (.astore_n 3, 1) := by decide +kernel
theorem d_l_merge_19 : decode method_11_code 19 = .ok (.iconst 3, 1) := by decide +kernel
theorem d_l_merge_20 : decode method_11_code 20 = .ok (.ireturn, 1) := by decide +kernel
theorem d_l_merge_21 : decode method_11_code 21 = .ok (.iconst 0, 1) := by decide +kernel
theorem d_l_merge_22 : decode method_11_code 22 = .ok (.ireturn, 1) := by decide +kernel
abbrev M_l_limit : rsM := (⟨"RunStoreLaw", "limit", "(LRunStore;I)I"⟩, method_12_code, 3, some .int, [(0, 5, 8, 22), (0, 5, 11, 12)])
theorem d_l_limit_0 : decode method_12_code 0 = .ok (.aload_n 0, 1) := by decide +kernel
theorem d_l_limit_1 : decode method_12_code 1 = .ok (.iload_n 1, 1) := by decide +kernel
theorem d_l_limit_2 : decode method_12_code 2 = .ok (.invokevirtual 48, 3) := by decide +kernel
theorem d_l_limit_5 : decode method_12_code 5 = .ok (.goto 9, 3) := by decide +kernel
theorem d_l_limit_8 : decode method_12_code 8 = .ok (.astore_n 2, 1) := by decide +kernel
theorem d_l_limit_9 : decode method_12_code 9 = .ok (.iconst 1, 1) := by decide +kernel
theorem d_l_limit_10 : decode method_12_code 10 = .ok (.ireturn, 1) := by decide +kernel
theorem d_l_limit_11 : decode method_12_code 11 = .ok (.astore_n 2, 1) := by decide +kernel
theorem d_l_limit_12 : decode method_12_code 12 = .ok (.iconst 2, 1) := by decide +kernel
theorem d_l_limit_13 : decode method_12_code 13 = .ok (.ireturn, 1) := by decide +kernel
theorem d_l_limit_14 : decode method_12_code 14 = .ok (.iconst 0, 1) := by decide +kernel
theorem d_l_limit_15 : decode method_12_code 15 = .ok (.ireturn, 1) := by decide +kernel
abbrev M_l_seek : rsM := (⟨"RunStoreLaw", "seek", "(LRunStore;I[J)I"⟩, method_13_code, 4, some .int, [(0, 16, 19, 22), (0, 16, 22, 12)])
theorem d_l_seek_0 : decode method_13_code 0 = .ok (.aload_n 2, 1) := by decide +kernel
theorem d_l_seek_1 : decode method_13_code 1 = .ok (.iconst 0, 1) := by decide +kernel
theorem d_l_seek_2 : decode method_13_code 2 = .ok (.aload_n 0, 1) := by decide +kernel
theorem d_l_seek_3 : decode method_13_code 3 = .ok (.iload_n 1, 1) := by decide +kernel
theorem d_l_seek_4 : decode method_13_code 4 = .ok (.invokevirtual 52, 3) := by decide +kernel
theorem d_l_seek_7 : decode method_13_code 7 = .ok (.ifCond .eq 7, 3) := by decide +kernel
theorem d_l_seek_10 : decode method_13_code 10 = .ok (.lconst 1, 1) := by decide +kernel
theorem d_l_seek_11 : decode method_13_code 11 = .ok (.goto 4, 3) := by decide +kernel
theorem d_l_seek_14 : decode method_13_code 14 = .ok (.lconst 0, 1) := by decide +kernel
theorem d_l_seek_15 : decode method_13_code 15 = .ok (.lastore, 1) := by decide +kernel
theorem d_l_seek_16 : decode method_13_code 16 = .ok (.goto 9, 3) := by decide +kernel
theorem d_l_seek_19 : decode method_13_code 19 = .ok (.astore_n 3, 1) := by decide +kernel
theorem d_l_seek_20 : decode method_13_code 20 = .ok (.iconst 1, 1) := by decide +kernel
theorem d_l_seek_21 : decode method_13_code 21 = .ok (.ireturn, 1) := by decide +kernel
theorem d_l_seek_22 : decode method_13_code 22 = .ok (.astore_n 3, 1) := by decide +kernel
theorem d_l_seek_23 : decode method_13_code 23 = .ok (.iconst 2, 1) := by decide +kernel
theorem d_l_seek_24 : decode method_13_code 24 = .ok (.ireturn, 1) := by decide +kernel
theorem d_l_seek_25 : decode method_13_code 25 = .ok (.iconst 0, 1) := by decide +kernel
theorem d_l_seek_26 : decode method_13_code 26 = .ok (.ireturn, 1) := by decide +kernel
abbrev M_l_next : rsM := (⟨"RunStoreLaw", "next", "(LRunStore;[J)I"⟩, method_14_code, 3, some .int, [(0, 15, 18, 12)])
theorem d_l_next_0 : decode method_14_code 0 = .ok (.aload_n 1, 1) := by decide +kernel
theorem d_l_next_1 : decode method_14_code 1 = .ok (.iconst 0, 1) := by decide +kernel
theorem d_l_next_2 : decode method_14_code 2 = .ok (.aload_n 0, 1) := by decide +kernel
theorem d_l_next_3 : decode method_14_code 3 = .ok (.invokevirtual 55, 3) := by decide +kernel
theorem d_l_next_6 : decode method_14_code 6 = .ok (.ifCond .eq 7, 3) := by decide +kernel
theorem d_l_next_9 : decode method_14_code 9 = .ok (.lconst 1, 1) := by decide +kernel
theorem d_l_next_10 : decode method_14_code 10 = .ok (.goto 4, 3) := by decide +kernel
theorem d_l_next_13 : decode method_14_code 13 = .ok (.lconst 0, 1) := by decide +kernel
theorem d_l_next_14 : decode method_14_code 14 = .ok (.lastore, 1) := by decide +kernel
theorem d_l_next_15 : decode method_14_code 15 = .ok (.goto 6, 3) := by decide +kernel
theorem d_l_next_18 : decode method_14_code 18 = .ok (.astore_n 2, 1) := by decide +kernel
theorem d_l_next_19 : decode method_14_code 19 = .ok (.iconst 1, 1) := by decide +kernel
theorem d_l_next_20 : decode method_14_code 20 = .ok (.ireturn, 1) := by decide +kernel
theorem d_l_next_21 : decode method_14_code 21 = .ok (.iconst 0, 1) := by decide +kernel
theorem d_l_next_22 : decode method_14_code 22 = .ok (.ireturn, 1) := by decide +kernel
abbrev M_l_size : rsM := (⟨"RunStoreLaw", "size", "(LRunStore;[J)I"⟩, method_15_code, 3, some .int, [(0, 8, 11, 12)])
theorem d_l_size_0 : decode method_15_code 0 = .ok (.aload_n 1, 1) := by decide +kernel
theorem d_l_size_1 : decode method_15_code 1 = .ok (.iconst 0, 1) := by decide +kernel
theorem d_l_size_2 : decode method_15_code 2 = .ok (.aload_n 0, 1) := by decide +kernel
theorem d_l_size_3 : decode method_15_code 3 = .ok (.invokevirtual 59, 3) := by decide +kernel
theorem d_l_size_6 : decode method_15_code 6 = .ok (.i2l, 1) := by decide +kernel
theorem d_l_size_7 : decode method_15_code 7 = .ok (.lastore, 1) := by decide +kernel
theorem d_l_size_8 : decode method_15_code 8 = .ok (.goto 6, 3) := by decide +kernel
theorem d_l_size_11 : decode method_15_code 11 = .ok (.astore_n 2, 1) := by decide +kernel
theorem d_l_size_12 : decode method_15_code 12 = .ok (.iconst 1, 1) := by decide +kernel
theorem d_l_size_13 : decode method_15_code 13 = .ok (.ireturn, 1) := by decide +kernel
theorem d_l_size_14 : decode method_15_code 14 = .ok (.iconst 0, 1) := by decide +kernel
theorem d_l_size_15 : decode method_15_code 15 = .ok (.ireturn, 1) := by decide +kernel
abbrev M_l_runs : rsM := (⟨"RunStoreLaw", "runs", "(LRunStore;I[J)I"⟩, method_16_code, 4, some .int, [(0, 9, 12, 22), (0, 9, 15, 12)])
theorem d_l_runs_0 : decode method_16_code 0 = .ok (.aload_n 2, 1) := by decide +kernel
theorem d_l_runs_1 : decode method_16_code 1 = .ok (.iconst 0, 1) := by decide +kernel
theorem d_l_runs_2 : decode method_16_code 2 = .ok (.aload_n 0, 1) := by decide +kernel
theorem d_l_runs_3 : decode method_16_code 3 = .ok (.iload_n 1, 1) := by decide +kernel
theorem d_l_runs_4 : decode method_16_code 4 = .ok (.invokevirtual 62, 3) := by decide +kernel
theorem d_l_runs_7 : decode method_16_code 7 = .ok (.i2l, 1) := by decide +kernel
theorem d_l_runs_8 : decode method_16_code 8 = .ok (.lastore, 1) := by decide +kernel
theorem d_l_runs_9 : decode method_16_code 9 = .ok (.goto 9, 3) := by decide +kernel
theorem d_l_runs_12 : decode method_16_code 12 = .ok (.astore_n 3, 1) := by decide +kernel
theorem d_l_runs_13 : decode method_16_code 13 = .ok (.iconst 1, 1) := by decide +kernel
theorem d_l_runs_14 : decode method_16_code 14 = .ok (.ireturn, 1) := by decide +kernel
theorem d_l_runs_15 : decode method_16_code 15 = .ok (.astore_n 3, 1) := by decide +kernel
theorem d_l_runs_16 : decode method_16_code 16 = .ok (.iconst 2, 1) := by decide +kernel
theorem d_l_runs_17 : decode method_16_code 17 = .ok (.ireturn, 1) := by decide +kernel
theorem d_l_runs_18 : decode method_16_code 18 = .ok (.iconst 0, 1) := by decide +kernel
theorem d_l_runs_19 : decode method_16_code 19 = .ok (.ireturn, 1) := by decide +kernel
abbrev M_l_entries : rsM := (⟨"RunStoreLaw", "entries", "(LRunStore;II[J)I"⟩, method_17_code, 5, some .int, [(0, 10, 13, 12), (0, 10, 17, 34)])
theorem d_l_entries_0 : decode method_17_code 0 = .ok (.aload_n 3, 1) := by decide +kernel
theorem d_l_entries_1 : decode method_17_code 1 = .ok (.iconst 0, 1) := by decide +kernel
theorem d_l_entries_2 : decode method_17_code 2 = .ok (.aload_n 0, 1) := by decide +kernel
theorem d_l_entries_3 : decode method_17_code 3 = .ok (.iload_n 1, 1) := by decide +kernel
theorem d_l_entries_4 : decode method_17_code 4 = .ok (.iload_n 2, 1) := by decide +kernel
theorem d_l_entries_5 : decode method_17_code 5 = .ok (.invokevirtual 65, 3) := by decide +kernel
theorem d_l_entries_8 : decode method_17_code 8 = .ok (.i2l, 1) := by decide +kernel
theorem d_l_entries_9 : decode method_17_code 9 = .ok (.lastore, 1) := by decide +kernel
theorem d_l_entries_10 : decode method_17_code 10 = .ok (.goto 11, 3) := by decide +kernel
theorem d_l_entries_13 : decode method_17_code 13 = .ok (.astore 4, 2) := by decide +kernel
theorem d_l_entries_15 : decode method_17_code 15 = .ok (.iconst 1, 1) := by decide +kernel
theorem d_l_entries_16 : decode method_17_code 16 = .ok (.ireturn, 1) := by decide +kernel
theorem d_l_entries_17 : decode method_17_code 17 = .ok (.astore 4, 2) := by decide +kernel
theorem d_l_entries_19 : decode method_17_code 19 = .ok (.iconst 2, 1) := by decide +kernel
theorem d_l_entries_20 : decode method_17_code 20 = .ok (.ireturn, 1) := by decide +kernel
theorem d_l_entries_21 : decode method_17_code 21 = .ok (.iconst 0, 1) := by decide +kernel
theorem d_l_entries_22 : decode method_17_code 22 = .ok (.ireturn, 1) := by decide +kernel
abbrev M_l_room : rsM := (⟨"RunStoreLaw", "room", "(LRunStore;[J)I"⟩, method_18_code, 3, some .int, [(0, 8, 11, 12)])
theorem d_l_room_0 : decode method_18_code 0 = .ok (.aload_n 1, 1) := by decide +kernel
theorem d_l_room_1 : decode method_18_code 1 = .ok (.iconst 0, 1) := by decide +kernel
theorem d_l_room_2 : decode method_18_code 2 = .ok (.aload_n 0, 1) := by decide +kernel
theorem d_l_room_3 : decode method_18_code 3 = .ok (.invokevirtual 68, 3) := by decide +kernel
theorem d_l_room_6 : decode method_18_code 6 = .ok (.i2l, 1) := by decide +kernel
theorem d_l_room_7 : decode method_18_code 7 = .ok (.lastore, 1) := by decide +kernel
theorem d_l_room_8 : decode method_18_code 8 = .ok (.goto 6, 3) := by decide +kernel
theorem d_l_room_11 : decode method_18_code 11 = .ok (.astore_n 2, 1) := by decide +kernel
theorem d_l_room_12 : decode method_18_code 12 = .ok (.iconst 1, 1) := by decide +kernel
theorem d_l_room_13 : decode method_18_code 13 = .ok (.ireturn, 1) := by decide +kernel
theorem d_l_room_14 : decode method_18_code 14 = .ok (.iconst 0, 1) := by decide +kernel
theorem d_l_room_15 : decode method_18_code 15 = .ok (.ireturn, 1) := by decide +kernel
abbrev M_l_law : rsM := (⟨"RunStoreLaw", "law", "([I)Z"⟩, code, 7, some .boolean, [])
theorem d_l_law_0 : decode code 0 = .ok (.new 8, 3) := by decide +kernel
theorem d_l_law_3 : decode code 3 = .ok (.dup, 1) := by decide +kernel
theorem d_l_law_4 : decode code 4 = .ok (.invokespecial 71, 3) := by decide +kernel
theorem d_l_law_7 : decode code 7 = .ok (.astore_n 1, 1) := by decide +kernel
theorem d_l_law_8 : decode code 8 = .ok (.new 72, 3) := by decide +kernel
theorem d_l_law_11 : decode code 11 = .ok (.dup, 1) := by decide +kernel
theorem d_l_law_12 : decode code 12 = .ok (.invokespecial 74, 3) := by decide +kernel
theorem d_l_law_15 : decode code 15 = .ok (.astore_n 2, 1) := by decide +kernel
theorem d_l_law_16 : decode code 16 = .ok (.iconst 1, 1) := by decide +kernel
theorem d_l_law_17 : decode code 17 = .ok (.newarray .long, 2) := by decide +kernel
theorem d_l_law_19 : decode code 19 = .ok (.astore_n 3, 1) := by decide +kernel
theorem d_l_law_20 : decode code 20 = .ok (.iconst 0, 1) := by decide +kernel
theorem d_l_law_21 : decode code 21 = .ok (.istore 4, 2) := by decide +kernel
theorem d_l_law_23 : decode code 23 = .ok (.iload 4, 2) := by decide +kernel
theorem d_l_law_25 : decode code 25 = .ok (.aload_n 0, 1) := by decide +kernel
theorem d_l_law_26 : decode code 26 = .ok (.arraylength, 1) := by decide +kernel
theorem d_l_law_27 : decode code 27 = .ok (.iconst 3, 1) := by decide +kernel
theorem d_l_law_28 : decode code 28 = .ok (.isub, 1) := by decide +kernel
theorem d_l_law_29 : decode code 29 = .ok (.if_icmp .gt 985, 3) := by decide +kernel
theorem d_l_law_32 : decode code 32 = .ok (.aload_n 0, 1) := by decide +kernel
theorem d_l_law_33 : decode code 33 = .ok (.iload 4, 2) := by decide +kernel
theorem d_l_law_35 : decode code 35 = .ok (.iaload, 1) := by decide +kernel
theorem d_l_law_36 : decode code 36 = .ok (.bipush 31, 2) := by decide +kernel
theorem d_l_law_38 : decode code 38 = .ok (.iand, 1) := by decide +kernel
theorem d_l_law_39 : decode code 39 = .ok (.tableswitch 969 0 19 #[93, 117, 161, 229, 292, 348, 411, 455, 499, 555, 591, 604, 667, 718, 731, 744, 788, 801, 857, 925], 93) := by decide +kernel
theorem d_l_law_132 : decode code 132 = .ok (.aload_n 1, 1) := by decide +kernel
theorem d_l_law_133 : decode code 133 = .ok (.invokestatic 75, 3) := by decide +kernel
theorem d_l_law_136 : decode code 136 = .ok (.istore 5, 2) := by decide +kernel
theorem d_l_law_138 : decode code 138 = .ok (.aload_n 2, 1) := by decide +kernel
theorem d_l_law_139 : decode code 139 = .ok (.invokevirtual 80, 3) := by decide +kernel
theorem d_l_law_142 : decode code 142 = .ok (.aload_n 2, 1) := by decide +kernel
theorem d_l_law_143 : decode code 143 = .ok (.invokevirtual 81, 3) := by decide +kernel
theorem d_l_law_146 : decode code 146 = .ok (.iload 5, 2) := by decide +kernel
theorem d_l_law_148 : decode code 148 = .ok (.if_icmp .eq 5, 3) := by decide +kernel
theorem d_l_law_151 : decode code 151 = .ok (.iconst 0, 1) := by decide +kernel
theorem d_l_law_152 : decode code 152 = .ok (.ireturn, 1) := by decide +kernel
theorem d_l_law_153 : decode code 153 = .ok (.goto 855, 3) := by decide +kernel
theorem d_l_law_156 : decode code 156 = .ok (.aload_n 1, 1) := by decide +kernel
theorem d_l_law_157 : decode code 157 = .ok (.aload_n 3, 1) := by decide +kernel
theorem d_l_law_158 : decode code 158 = .ok (.invokestatic 84, 3) := by decide +kernel
theorem d_l_law_161 : decode code 161 = .ok (.istore 5, 2) := by decide +kernel
theorem d_l_law_163 : decode code 163 = .ok (.aload_n 2, 1) := by decide +kernel
theorem d_l_law_164 : decode code 164 = .ok (.invokevirtual 87, 3) := by decide +kernel
theorem d_l_law_167 : decode code 167 = .ok (.istore 6, 2) := by decide +kernel
theorem d_l_law_169 : decode code 169 = .ok (.aload_n 2, 1) := by decide +kernel
theorem d_l_law_170 : decode code 170 = .ok (.invokevirtual 81, 3) := by decide +kernel
theorem d_l_law_173 : decode code 173 = .ok (.iload 5, 2) := by decide +kernel
theorem d_l_law_175 : decode code 175 = .ok (.if_icmp .eq 5, 3) := by decide +kernel
theorem d_l_law_178 : decode code 178 = .ok (.iconst 0, 1) := by decide +kernel
theorem d_l_law_179 : decode code 179 = .ok (.ireturn, 1) := by decide +kernel
theorem d_l_law_180 : decode code 180 = .ok (.iload 5, 2) := by decide +kernel
theorem d_l_law_182 : decode code 182 = .ok (.ifCond .ne 15, 3) := by decide +kernel
theorem d_l_law_185 : decode code 185 = .ok (.aload_n 3, 1) := by decide +kernel
theorem d_l_law_186 : decode code 186 = .ok (.iconst 0, 1) := by decide +kernel
theorem d_l_law_187 : decode code 187 = .ok (.laload, 1) := by decide +kernel
theorem d_l_law_188 : decode code 188 = .ok (.iload 6, 2) := by decide +kernel
theorem d_l_law_190 : decode code 190 = .ok (.i2l, 1) := by decide +kernel
theorem d_l_law_191 : decode code 191 = .ok (.lcmp, 1) := by decide +kernel
theorem d_l_law_192 : decode code 192 = .ok (.ifCond .eq 5, 3) := by decide +kernel
theorem d_l_law_195 : decode code 195 = .ok (.iconst 0, 1) := by decide +kernel
theorem d_l_law_196 : decode code 196 = .ok (.ireturn, 1) := by decide +kernel
theorem d_l_law_197 : decode code 197 = .ok (.goto 811, 3) := by decide +kernel
theorem d_l_law_200 : decode code 200 = .ok (.aload_n 1, 1) := by decide +kernel
theorem d_l_law_201 : decode code 201 = .ok (.aload_n 0, 1) := by decide +kernel
theorem d_l_law_202 : decode code 202 = .ok (.iload 4, 2) := by decide +kernel
theorem d_l_law_204 : decode code 204 = .ok (.iconst 1, 1) := by decide +kernel
theorem d_l_law_205 : decode code 205 = .ok (.iadd, 1) := by decide +kernel
theorem d_l_law_206 : decode code 206 = .ok (.iaload, 1) := by decide +kernel
theorem d_l_law_207 : decode code 207 = .ok (.aload_n 0, 1) := by decide +kernel
theorem d_l_law_208 : decode code 208 = .ok (.iload 4, 2) := by decide +kernel
theorem d_l_law_210 : decode code 210 = .ok (.iconst 2, 1) := by decide +kernel
theorem d_l_law_211 : decode code 211 = .ok (.iadd, 1) := by decide +kernel
theorem d_l_law_212 : decode code 212 = .ok (.iaload, 1) := by decide +kernel
theorem d_l_law_213 : decode code 213 = .ok (.aload_n 3, 1) := by decide +kernel
theorem d_l_law_214 : decode code 214 = .ok (.invokestatic 88, 3) := by decide +kernel
theorem d_l_law_217 : decode code 217 = .ok (.istore 5, 2) := by decide +kernel
theorem d_l_law_219 : decode code 219 = .ok (.aload_n 2, 1) := by decide +kernel
theorem d_l_law_220 : decode code 220 = .ok (.aload_n 0, 1) := by decide +kernel
theorem d_l_law_221 : decode code 221 = .ok (.iload 4, 2) := by decide +kernel
theorem d_l_law_223 : decode code 223 = .ok (.iconst 1, 1) := by decide +kernel
theorem d_l_law_224 : decode code 224 = .ok (.iadd, 1) := by decide +kernel
theorem d_l_law_225 : decode code 225 = .ok (.iaload, 1) := by decide +kernel
theorem d_l_law_226 : decode code 226 = .ok (.aload_n 0, 1) := by decide +kernel
theorem d_l_law_227 : decode code 227 = .ok (.iload 4, 2) := by decide +kernel
theorem d_l_law_229 : decode code 229 = .ok (.iconst 2, 1) := by decide +kernel
theorem d_l_law_230 : decode code 230 = .ok (.iadd, 1) := by decide +kernel
theorem d_l_law_231 : decode code 231 = .ok (.iaload, 1) := by decide +kernel
theorem d_l_law_232 : decode code 232 = .ok (.invokevirtual 91, 3) := by decide +kernel
theorem d_l_law_235 : decode code 235 = .ok (.istore 6, 2) := by decide +kernel
theorem d_l_law_237 : decode code 237 = .ok (.aload_n 2, 1) := by decide +kernel
theorem d_l_law_238 : decode code 238 = .ok (.invokevirtual 81, 3) := by decide +kernel
theorem d_l_law_241 : decode code 241 = .ok (.iload 5, 2) := by decide +kernel
theorem d_l_law_243 : decode code 243 = .ok (.if_icmp .eq 5, 3) := by decide +kernel
theorem d_l_law_246 : decode code 246 = .ok (.iconst 0, 1) := by decide +kernel
theorem d_l_law_247 : decode code 247 = .ok (.ireturn, 1) := by decide +kernel
theorem d_l_law_248 : decode code 248 = .ok (.iload 5, 2) := by decide +kernel
theorem d_l_law_250 : decode code 250 = .ok (.ifCond .ne 15, 3) := by decide +kernel
theorem d_l_law_253 : decode code 253 = .ok (.aload_n 3, 1) := by decide +kernel
theorem d_l_law_254 : decode code 254 = .ok (.iconst 0, 1) := by decide +kernel
theorem d_l_law_255 : decode code 255 = .ok (.laload, 1) := by decide +kernel
theorem d_l_law_256 : decode code 256 = .ok (.iload 6, 2) := by decide +kernel
theorem d_l_law_258 : decode code 258 = .ok (.i2l, 1) := by decide +kernel
theorem d_l_law_259 : decode code 259 = .ok (.lcmp, 1) := by decide +kernel
theorem d_l_law_260 : decode code 260 = .ok (.ifCond .eq 5, 3) := by decide +kernel
theorem d_l_law_263 : decode code 263 = .ok (.iconst 0, 1) := by decide +kernel
theorem d_l_law_264 : decode code 264 = .ok (.ireturn, 1) := by decide +kernel
theorem d_l_law_265 : decode code 265 = .ok (.goto 743, 3) := by decide +kernel
theorem d_l_law_268 : decode code 268 = .ok (.aload_n 1, 1) := by decide +kernel
theorem d_l_law_269 : decode code 269 = .ok (.aload_n 0, 1) := by decide +kernel
theorem d_l_law_270 : decode code 270 = .ok (.iload 4, 2) := by decide +kernel
theorem d_l_law_272 : decode code 272 = .ok (.iconst 1, 1) := by decide +kernel
theorem d_l_law_273 : decode code 273 = .ok (.iadd, 1) := by decide +kernel
theorem d_l_law_274 : decode code 274 = .ok (.iaload, 1) := by decide +kernel
theorem d_l_law_275 : decode code 275 = .ok (.aload_n 3, 1) := by decide +kernel
theorem d_l_law_276 : decode code 276 = .ok (.invokestatic 92, 3) := by decide +kernel
theorem d_l_law_279 : decode code 279 = .ok (.istore 5, 2) := by decide +kernel
theorem d_l_law_281 : decode code 281 = .ok (.aload_n 2, 1) := by decide +kernel
theorem d_l_law_282 : decode code 282 = .ok (.aload_n 0, 1) := by decide +kernel
theorem d_l_law_283 : decode code 283 = .ok (.iload 4, 2) := by decide +kernel
theorem d_l_law_285 : decode code 285 = .ok (.iconst 1, 1) := by decide +kernel
theorem d_l_law_286 : decode code 286 = .ok (.iadd, 1) := by decide +kernel
theorem d_l_law_287 : decode code 287 = .ok (.iaload, 1) := by decide +kernel
theorem d_l_law_288 : decode code 288 = .ok (.invokevirtual 95, 3) := by decide +kernel
theorem d_l_law_291 : decode code 291 = .ok (.istore 6, 2) := by decide +kernel
theorem d_l_law_293 : decode code 293 = .ok (.aload_n 2, 1) := by decide +kernel
theorem d_l_law_294 : decode code 294 = .ok (.invokevirtual 81, 3) := by decide +kernel
theorem d_l_law_297 : decode code 297 = .ok (.iload 5, 2) := by decide +kernel
theorem d_l_law_299 : decode code 299 = .ok (.if_icmp .eq 5, 3) := by decide +kernel
theorem d_l_law_302 : decode code 302 = .ok (.iconst 0, 1) := by decide +kernel
theorem d_l_law_303 : decode code 303 = .ok (.ireturn, 1) := by decide +kernel
theorem d_l_law_304 : decode code 304 = .ok (.iload 5, 2) := by decide +kernel
theorem d_l_law_306 : decode code 306 = .ok (.ifCond .ne 22, 3) := by decide +kernel
theorem d_l_law_309 : decode code 309 = .ok (.aload_n 3, 1) := by decide +kernel
theorem d_l_law_310 : decode code 310 = .ok (.iconst 0, 1) := by decide +kernel
theorem d_l_law_311 : decode code 311 = .ok (.laload, 1) := by decide +kernel
theorem d_l_law_312 : decode code 312 = .ok (.iload 6, 2) := by decide +kernel
theorem d_l_law_314 : decode code 314 = .ok (.ifCond .eq 7, 3) := by decide +kernel
theorem d_l_law_317 : decode code 317 = .ok (.lconst 1, 1) := by decide +kernel
theorem d_l_law_318 : decode code 318 = .ok (.goto 4, 3) := by decide +kernel
theorem d_l_law_321 : decode code 321 = .ok (.lconst 0, 1) := by decide +kernel
theorem d_l_law_322 : decode code 322 = .ok (.lcmp, 1) := by decide +kernel
theorem d_l_law_323 : decode code 323 = .ok (.ifCond .eq 5, 3) := by decide +kernel
theorem d_l_law_326 : decode code 326 = .ok (.iconst 0, 1) := by decide +kernel
theorem d_l_law_327 : decode code 327 = .ok (.ireturn, 1) := by decide +kernel
theorem d_l_law_328 : decode code 328 = .ok (.goto 680, 3) := by decide +kernel
theorem d_l_law_331 : decode code 331 = .ok (.aload_n 1, 1) := by decide +kernel
theorem d_l_law_332 : decode code 332 = .ok (.aload_n 0, 1) := by decide +kernel
theorem d_l_law_333 : decode code 333 = .ok (.iload 4, 2) := by decide +kernel
theorem d_l_law_335 : decode code 335 = .ok (.iconst 1, 1) := by decide +kernel
theorem d_l_law_336 : decode code 336 = .ok (.iadd, 1) := by decide +kernel
theorem d_l_law_337 : decode code 337 = .ok (.iaload, 1) := by decide +kernel
theorem d_l_law_338 : decode code 338 = .ok (.aload_n 3, 1) := by decide +kernel
theorem d_l_law_339 : decode code 339 = .ok (.invokestatic 96, 3) := by decide +kernel
theorem d_l_law_342 : decode code 342 = .ok (.istore 5, 2) := by decide +kernel
theorem d_l_law_344 : decode code 344 = .ok (.aload_n 2, 1) := by decide +kernel
theorem d_l_law_345 : decode code 345 = .ok (.aload_n 0, 1) := by decide +kernel
theorem d_l_law_346 : decode code 346 = .ok (.iload 4, 2) := by decide +kernel
theorem d_l_law_348 : decode code 348 = .ok (.iconst 1, 1) := by decide +kernel
theorem d_l_law_349 : decode code 349 = .ok (.iadd, 1) := by decide +kernel
theorem d_l_law_350 : decode code 350 = .ok (.iaload, 1) := by decide +kernel
theorem d_l_law_351 : decode code 351 = .ok (.invokevirtual 98, 3) := by decide +kernel
theorem d_l_law_354 : decode code 354 = .ok (.istore 6, 2) := by decide +kernel
theorem d_l_law_356 : decode code 356 = .ok (.aload_n 2, 1) := by decide +kernel
theorem d_l_law_357 : decode code 357 = .ok (.invokevirtual 81, 3) := by decide +kernel
theorem d_l_law_360 : decode code 360 = .ok (.iload 5, 2) := by decide +kernel
theorem d_l_law_362 : decode code 362 = .ok (.if_icmp .eq 5, 3) := by decide +kernel
theorem d_l_law_365 : decode code 365 = .ok (.iconst 0, 1) := by decide +kernel
theorem d_l_law_366 : decode code 366 = .ok (.ireturn, 1) := by decide +kernel
theorem d_l_law_367 : decode code 367 = .ok (.iload 5, 2) := by decide +kernel
theorem d_l_law_369 : decode code 369 = .ok (.ifCond .ne 15, 3) := by decide +kernel
theorem d_l_law_372 : decode code 372 = .ok (.aload_n 3, 1) := by decide +kernel
theorem d_l_law_373 : decode code 373 = .ok (.iconst 0, 1) := by decide +kernel
theorem d_l_law_374 : decode code 374 = .ok (.laload, 1) := by decide +kernel
theorem d_l_law_375 : decode code 375 = .ok (.iload 6, 2) := by decide +kernel
theorem d_l_law_377 : decode code 377 = .ok (.i2l, 1) := by decide +kernel
theorem d_l_law_378 : decode code 378 = .ok (.lcmp, 1) := by decide +kernel
theorem d_l_law_379 : decode code 379 = .ok (.ifCond .eq 5, 3) := by decide +kernel
theorem d_l_law_382 : decode code 382 = .ok (.iconst 0, 1) := by decide +kernel
theorem d_l_law_383 : decode code 383 = .ok (.ireturn, 1) := by decide +kernel
theorem d_l_law_384 : decode code 384 = .ok (.goto 624, 3) := by decide +kernel
theorem d_l_law_387 : decode code 387 = .ok (.aload_n 1, 1) := by decide +kernel
theorem d_l_law_388 : decode code 388 = .ok (.aload_n 0, 1) := by decide +kernel
theorem d_l_law_389 : decode code 389 = .ok (.iload 4, 2) := by decide +kernel
theorem d_l_law_391 : decode code 391 = .ok (.iconst 1, 1) := by decide +kernel
theorem d_l_law_392 : decode code 392 = .ok (.iadd, 1) := by decide +kernel
theorem d_l_law_393 : decode code 393 = .ok (.iaload, 1) := by decide +kernel
theorem d_l_law_394 : decode code 394 = .ok (.aload_n 3, 1) := by decide +kernel
theorem d_l_law_395 : decode code 395 = .ok (.invokestatic 99, 3) := by decide +kernel
theorem d_l_law_398 : decode code 398 = .ok (.istore 5, 2) := by decide +kernel
theorem d_l_law_400 : decode code 400 = .ok (.aload_n 2, 1) := by decide +kernel
theorem d_l_law_401 : decode code 401 = .ok (.aload_n 0, 1) := by decide +kernel
theorem d_l_law_402 : decode code 402 = .ok (.iload 4, 2) := by decide +kernel
theorem d_l_law_404 : decode code 404 = .ok (.iconst 1, 1) := by decide +kernel
theorem d_l_law_405 : decode code 405 = .ok (.iadd, 1) := by decide +kernel
theorem d_l_law_406 : decode code 406 = .ok (.iaload, 1) := by decide +kernel
theorem d_l_law_407 : decode code 407 = .ok (.invokevirtual 101, 3) := by decide +kernel
theorem d_l_law_410 : decode code 410 = .ok (.istore 6, 2) := by decide +kernel
theorem d_l_law_412 : decode code 412 = .ok (.aload_n 2, 1) := by decide +kernel
theorem d_l_law_413 : decode code 413 = .ok (.invokevirtual 81, 3) := by decide +kernel
theorem d_l_law_416 : decode code 416 = .ok (.iload 5, 2) := by decide +kernel
theorem d_l_law_418 : decode code 418 = .ok (.if_icmp .eq 5, 3) := by decide +kernel
theorem d_l_law_421 : decode code 421 = .ok (.iconst 0, 1) := by decide +kernel
theorem d_l_law_422 : decode code 422 = .ok (.ireturn, 1) := by decide +kernel
theorem d_l_law_423 : decode code 423 = .ok (.iload 5, 2) := by decide +kernel
theorem d_l_law_425 : decode code 425 = .ok (.ifCond .ne 22, 3) := by decide +kernel
theorem d_l_law_428 : decode code 428 = .ok (.aload_n 3, 1) := by decide +kernel
theorem d_l_law_429 : decode code 429 = .ok (.iconst 0, 1) := by decide +kernel
theorem d_l_law_430 : decode code 430 = .ok (.laload, 1) := by decide +kernel
theorem d_l_law_431 : decode code 431 = .ok (.iload 6, 2) := by decide +kernel
theorem d_l_law_433 : decode code 433 = .ok (.ifCond .eq 7, 3) := by decide +kernel
theorem d_l_law_436 : decode code 436 = .ok (.lconst 1, 1) := by decide +kernel
theorem d_l_law_437 : decode code 437 = .ok (.goto 4, 3) := by decide +kernel
theorem d_l_law_440 : decode code 440 = .ok (.lconst 0, 1) := by decide +kernel
theorem d_l_law_441 : decode code 441 = .ok (.lcmp, 1) := by decide +kernel
theorem d_l_law_442 : decode code 442 = .ok (.ifCond .eq 5, 3) := by decide +kernel
theorem d_l_law_445 : decode code 445 = .ok (.iconst 0, 1) := by decide +kernel
theorem d_l_law_446 : decode code 446 = .ok (.ireturn, 1) := by decide +kernel
theorem d_l_law_447 : decode code 447 = .ok (.goto 561, 3) := by decide +kernel
theorem d_l_law_450 : decode code 450 = .ok (.aload_n 1, 1) := by decide +kernel
theorem d_l_law_451 : decode code 451 = .ok (.aload_n 3, 1) := by decide +kernel
theorem d_l_law_452 : decode code 452 = .ok (.invokestatic 102, 3) := by decide +kernel
theorem d_l_law_455 : decode code 455 = .ok (.istore 5, 2) := by decide +kernel
theorem d_l_law_457 : decode code 457 = .ok (.aload_n 2, 1) := by decide +kernel
theorem d_l_law_458 : decode code 458 = .ok (.invokevirtual 104, 3) := by decide +kernel
theorem d_l_law_461 : decode code 461 = .ok (.istore 6, 2) := by decide +kernel
theorem d_l_law_463 : decode code 463 = .ok (.aload_n 2, 1) := by decide +kernel
theorem d_l_law_464 : decode code 464 = .ok (.invokevirtual 81, 3) := by decide +kernel
theorem d_l_law_467 : decode code 467 = .ok (.iload 5, 2) := by decide +kernel
theorem d_l_law_469 : decode code 469 = .ok (.if_icmp .eq 5, 3) := by decide +kernel
theorem d_l_law_472 : decode code 472 = .ok (.iconst 0, 1) := by decide +kernel
theorem d_l_law_473 : decode code 473 = .ok (.ireturn, 1) := by decide +kernel
theorem d_l_law_474 : decode code 474 = .ok (.iload 5, 2) := by decide +kernel
theorem d_l_law_476 : decode code 476 = .ok (.ifCond .ne 15, 3) := by decide +kernel
theorem d_l_law_479 : decode code 479 = .ok (.aload_n 3, 1) := by decide +kernel
theorem d_l_law_480 : decode code 480 = .ok (.iconst 0, 1) := by decide +kernel
theorem d_l_law_481 : decode code 481 = .ok (.laload, 1) := by decide +kernel
theorem d_l_law_482 : decode code 482 = .ok (.iload 6, 2) := by decide +kernel
theorem d_l_law_484 : decode code 484 = .ok (.i2l, 1) := by decide +kernel
theorem d_l_law_485 : decode code 485 = .ok (.lcmp, 1) := by decide +kernel
theorem d_l_law_486 : decode code 486 = .ok (.ifCond .eq 5, 3) := by decide +kernel
theorem d_l_law_489 : decode code 489 = .ok (.iconst 0, 1) := by decide +kernel
theorem d_l_law_490 : decode code 490 = .ok (.ireturn, 1) := by decide +kernel
theorem d_l_law_491 : decode code 491 = .ok (.goto 517, 3) := by decide +kernel
theorem d_l_law_494 : decode code 494 = .ok (.aload_n 1, 1) := by decide +kernel
theorem d_l_law_495 : decode code 495 = .ok (.aload_n 3, 1) := by decide +kernel
theorem d_l_law_496 : decode code 496 = .ok (.invokestatic 105, 3) := by decide +kernel
theorem d_l_law_499 : decode code 499 = .ok (.istore 5, 2) := by decide +kernel
theorem d_l_law_501 : decode code 501 = .ok (.aload_n 2, 1) := by decide +kernel
theorem d_l_law_502 : decode code 502 = .ok (.invokevirtual 107, 3) := by decide +kernel
theorem d_l_law_505 : decode code 505 = .ok (.istore 6, 2) := by decide +kernel
theorem d_l_law_507 : decode code 507 = .ok (.aload_n 2, 1) := by decide +kernel
theorem d_l_law_508 : decode code 508 = .ok (.invokevirtual 81, 3) := by decide +kernel
theorem d_l_law_511 : decode code 511 = .ok (.iload 5, 2) := by decide +kernel
theorem d_l_law_513 : decode code 513 = .ok (.if_icmp .eq 5, 3) := by decide +kernel
theorem d_l_law_516 : decode code 516 = .ok (.iconst 0, 1) := by decide +kernel
theorem d_l_law_517 : decode code 517 = .ok (.ireturn, 1) := by decide +kernel
theorem d_l_law_518 : decode code 518 = .ok (.iload 5, 2) := by decide +kernel
theorem d_l_law_520 : decode code 520 = .ok (.ifCond .ne 15, 3) := by decide +kernel
theorem d_l_law_523 : decode code 523 = .ok (.aload_n 3, 1) := by decide +kernel
theorem d_l_law_524 : decode code 524 = .ok (.iconst 0, 1) := by decide +kernel
theorem d_l_law_525 : decode code 525 = .ok (.laload, 1) := by decide +kernel
theorem d_l_law_526 : decode code 526 = .ok (.iload 6, 2) := by decide +kernel
theorem d_l_law_528 : decode code 528 = .ok (.i2l, 1) := by decide +kernel
theorem d_l_law_529 : decode code 529 = .ok (.lcmp, 1) := by decide +kernel
theorem d_l_law_530 : decode code 530 = .ok (.ifCond .eq 5, 3) := by decide +kernel
theorem d_l_law_533 : decode code 533 = .ok (.iconst 0, 1) := by decide +kernel
theorem d_l_law_534 : decode code 534 = .ok (.ireturn, 1) := by decide +kernel
theorem d_l_law_535 : decode code 535 = .ok (.goto 473, 3) := by decide +kernel
theorem d_l_law_538 : decode code 538 = .ok (.aload_n 1, 1) := by decide +kernel
theorem d_l_law_539 : decode code 539 = .ok (.aload_n 0, 1) := by decide +kernel
theorem d_l_law_540 : decode code 540 = .ok (.iload 4, 2) := by decide +kernel
theorem d_l_law_542 : decode code 542 = .ok (.iconst 1, 1) := by decide +kernel
theorem d_l_law_543 : decode code 543 = .ok (.iadd, 1) := by decide +kernel
theorem d_l_law_544 : decode code 544 = .ok (.iaload, 1) := by decide +kernel
theorem d_l_law_545 : decode code 545 = .ok (.aload_n 3, 1) := by decide +kernel
theorem d_l_law_546 : decode code 546 = .ok (.invokestatic 108, 3) := by decide +kernel
theorem d_l_law_549 : decode code 549 = .ok (.istore 5, 2) := by decide +kernel
theorem d_l_law_551 : decode code 551 = .ok (.aload_n 2, 1) := by decide +kernel
theorem d_l_law_552 : decode code 552 = .ok (.aload_n 0, 1) := by decide +kernel
theorem d_l_law_553 : decode code 553 = .ok (.iload 4, 2) := by decide +kernel
theorem d_l_law_555 : decode code 555 = .ok (.iconst 1, 1) := by decide +kernel
theorem d_l_law_556 : decode code 556 = .ok (.iadd, 1) := by decide +kernel
theorem d_l_law_557 : decode code 557 = .ok (.iaload, 1) := by decide +kernel
theorem d_l_law_558 : decode code 558 = .ok (.invokevirtual 110, 3) := by decide +kernel
theorem d_l_law_561 : decode code 561 = .ok (.istore 6, 2) := by decide +kernel
theorem d_l_law_563 : decode code 563 = .ok (.aload_n 2, 1) := by decide +kernel
theorem d_l_law_564 : decode code 564 = .ok (.invokevirtual 81, 3) := by decide +kernel
theorem d_l_law_567 : decode code 567 = .ok (.iload 5, 2) := by decide +kernel
theorem d_l_law_569 : decode code 569 = .ok (.if_icmp .eq 5, 3) := by decide +kernel
theorem d_l_law_572 : decode code 572 = .ok (.iconst 0, 1) := by decide +kernel
theorem d_l_law_573 : decode code 573 = .ok (.ireturn, 1) := by decide +kernel
theorem d_l_law_574 : decode code 574 = .ok (.iload 5, 2) := by decide +kernel
theorem d_l_law_576 : decode code 576 = .ok (.ifCond .ne 15, 3) := by decide +kernel
theorem d_l_law_579 : decode code 579 = .ok (.aload_n 3, 1) := by decide +kernel
theorem d_l_law_580 : decode code 580 = .ok (.iconst 0, 1) := by decide +kernel
theorem d_l_law_581 : decode code 581 = .ok (.laload, 1) := by decide +kernel
theorem d_l_law_582 : decode code 582 = .ok (.iload 6, 2) := by decide +kernel
theorem d_l_law_584 : decode code 584 = .ok (.i2l, 1) := by decide +kernel
theorem d_l_law_585 : decode code 585 = .ok (.lcmp, 1) := by decide +kernel
theorem d_l_law_586 : decode code 586 = .ok (.ifCond .eq 5, 3) := by decide +kernel
theorem d_l_law_589 : decode code 589 = .ok (.iconst 0, 1) := by decide +kernel
theorem d_l_law_590 : decode code 590 = .ok (.ireturn, 1) := by decide +kernel
theorem d_l_law_591 : decode code 591 = .ok (.goto 417, 3) := by decide +kernel
theorem d_l_law_594 : decode code 594 = .ok (.aload_n 1, 1) := by decide +kernel
theorem d_l_law_595 : decode code 595 = .ok (.aload_n 0, 1) := by decide +kernel
theorem d_l_law_596 : decode code 596 = .ok (.iload 4, 2) := by decide +kernel
theorem d_l_law_598 : decode code 598 = .ok (.iconst 1, 1) := by decide +kernel
theorem d_l_law_599 : decode code 599 = .ok (.iadd, 1) := by decide +kernel
theorem d_l_law_600 : decode code 600 = .ok (.iaload, 1) := by decide +kernel
theorem d_l_law_601 : decode code 601 = .ok (.invokestatic 111, 3) := by decide +kernel
theorem d_l_law_604 : decode code 604 = .ok (.istore 5, 2) := by decide +kernel
theorem d_l_law_606 : decode code 606 = .ok (.aload_n 2, 1) := by decide +kernel
theorem d_l_law_607 : decode code 607 = .ok (.aload_n 0, 1) := by decide +kernel
theorem d_l_law_608 : decode code 608 = .ok (.iload 4, 2) := by decide +kernel
theorem d_l_law_610 : decode code 610 = .ok (.iconst 1, 1) := by decide +kernel
theorem d_l_law_611 : decode code 611 = .ok (.iadd, 1) := by decide +kernel
theorem d_l_law_612 : decode code 612 = .ok (.iaload, 1) := by decide +kernel
theorem d_l_law_613 : decode code 613 = .ok (.invokevirtual 114, 3) := by decide +kernel
theorem d_l_law_616 : decode code 616 = .ok (.aload_n 2, 1) := by decide +kernel
theorem d_l_law_617 : decode code 617 = .ok (.invokevirtual 81, 3) := by decide +kernel
theorem d_l_law_620 : decode code 620 = .ok (.iload 5, 2) := by decide +kernel
theorem d_l_law_622 : decode code 622 = .ok (.if_icmp .eq 5, 3) := by decide +kernel
theorem d_l_law_625 : decode code 625 = .ok (.iconst 0, 1) := by decide +kernel
theorem d_l_law_626 : decode code 626 = .ok (.ireturn, 1) := by decide +kernel
theorem d_l_law_627 : decode code 627 = .ok (.goto 381, 3) := by decide +kernel
theorem d_l_law_630 : decode code 630 = .ok (.aload_n 1, 1) := by decide +kernel
theorem d_l_law_631 : decode code 631 = .ok (.invokevirtual 115, 3) := by decide +kernel
theorem d_l_law_634 : decode code 634 = .ok (.aload_n 2, 1) := by decide +kernel
theorem d_l_law_635 : decode code 635 = .ok (.invokevirtual 118, 3) := by decide +kernel
theorem d_l_law_638 : decode code 638 = .ok (.if_icmp .eq 370, 3) := by decide +kernel
theorem d_l_law_641 : decode code 641 = .ok (.iconst 0, 1) := by decide +kernel
theorem d_l_law_642 : decode code 642 = .ok (.ireturn, 1) := by decide +kernel
theorem d_l_law_643 : decode code 643 = .ok (.aload_n 1, 1) := by decide +kernel
theorem d_l_law_644 : decode code 644 = .ok (.aload_n 0, 1) := by decide +kernel
theorem d_l_law_645 : decode code 645 = .ok (.iload 4, 2) := by decide +kernel
theorem d_l_law_647 : decode code 647 = .ok (.iconst 1, 1) := by decide +kernel
theorem d_l_law_648 : decode code 648 = .ok (.iadd, 1) := by decide +kernel
theorem d_l_law_649 : decode code 649 = .ok (.iaload, 1) := by decide +kernel
theorem d_l_law_650 : decode code 650 = .ok (.aload_n 3, 1) := by decide +kernel
theorem d_l_law_651 : decode code 651 = .ok (.invokestatic 119, 3) := by decide +kernel
theorem d_l_law_654 : decode code 654 = .ok (.istore 5, 2) := by decide +kernel
theorem d_l_law_656 : decode code 656 = .ok (.aload_n 2, 1) := by decide +kernel
theorem d_l_law_657 : decode code 657 = .ok (.aload_n 0, 1) := by decide +kernel
theorem d_l_law_658 : decode code 658 = .ok (.iload 4, 2) := by decide +kernel
theorem d_l_law_660 : decode code 660 = .ok (.iconst 1, 1) := by decide +kernel
theorem d_l_law_661 : decode code 661 = .ok (.iadd, 1) := by decide +kernel
theorem d_l_law_662 : decode code 662 = .ok (.iaload, 1) := by decide +kernel
theorem d_l_law_663 : decode code 663 = .ok (.invokevirtual 121, 3) := by decide +kernel
theorem d_l_law_666 : decode code 666 = .ok (.istore 6, 2) := by decide +kernel
theorem d_l_law_668 : decode code 668 = .ok (.aload_n 2, 1) := by decide +kernel
theorem d_l_law_669 : decode code 669 = .ok (.invokevirtual 81, 3) := by decide +kernel
theorem d_l_law_672 : decode code 672 = .ok (.iload 5, 2) := by decide +kernel
theorem d_l_law_674 : decode code 674 = .ok (.if_icmp .eq 5, 3) := by decide +kernel
theorem d_l_law_677 : decode code 677 = .ok (.iconst 0, 1) := by decide +kernel
theorem d_l_law_678 : decode code 678 = .ok (.ireturn, 1) := by decide +kernel
theorem d_l_law_679 : decode code 679 = .ok (.iload 5, 2) := by decide +kernel
theorem d_l_law_681 : decode code 681 = .ok (.ifCond .ne 22, 3) := by decide +kernel
theorem d_l_law_684 : decode code 684 = .ok (.aload_n 3, 1) := by decide +kernel
theorem d_l_law_685 : decode code 685 = .ok (.iconst 0, 1) := by decide +kernel
theorem d_l_law_686 : decode code 686 = .ok (.laload, 1) := by decide +kernel
theorem d_l_law_687 : decode code 687 = .ok (.iload 6, 2) := by decide +kernel
theorem d_l_law_689 : decode code 689 = .ok (.ifCond .eq 7, 3) := by decide +kernel
theorem d_l_law_692 : decode code 692 = .ok (.lconst 1, 1) := by decide +kernel
theorem d_l_law_693 : decode code 693 = .ok (.goto 4, 3) := by decide +kernel
theorem d_l_law_696 : decode code 696 = .ok (.lconst 0, 1) := by decide +kernel
theorem d_l_law_697 : decode code 697 = .ok (.lcmp, 1) := by decide +kernel
theorem d_l_law_698 : decode code 698 = .ok (.ifCond .eq 5, 3) := by decide +kernel
theorem d_l_law_701 : decode code 701 = .ok (.iconst 0, 1) := by decide +kernel
theorem d_l_law_702 : decode code 702 = .ok (.ireturn, 1) := by decide +kernel
theorem d_l_law_703 : decode code 703 = .ok (.goto 305, 3) := by decide +kernel
theorem d_l_law_706 : decode code 706 = .ok (.aload_n 1, 1) := by decide +kernel
theorem d_l_law_707 : decode code 707 = .ok (.aload_n 3, 1) := by decide +kernel
theorem d_l_law_708 : decode code 708 = .ok (.invokestatic 122, 3) := by decide +kernel
theorem d_l_law_711 : decode code 711 = .ok (.istore 5, 2) := by decide +kernel
theorem d_l_law_713 : decode code 713 = .ok (.aload_n 2, 1) := by decide +kernel
theorem d_l_law_714 : decode code 714 = .ok (.invokevirtual 124, 3) := by decide +kernel
theorem d_l_law_717 : decode code 717 = .ok (.istore 6, 2) := by decide +kernel
theorem d_l_law_719 : decode code 719 = .ok (.aload_n 2, 1) := by decide +kernel
theorem d_l_law_720 : decode code 720 = .ok (.invokevirtual 81, 3) := by decide +kernel
theorem d_l_law_723 : decode code 723 = .ok (.iload 5, 2) := by decide +kernel
theorem d_l_law_725 : decode code 725 = .ok (.if_icmp .eq 5, 3) := by decide +kernel
theorem d_l_law_728 : decode code 728 = .ok (.iconst 0, 1) := by decide +kernel
theorem d_l_law_729 : decode code 729 = .ok (.ireturn, 1) := by decide +kernel
theorem d_l_law_730 : decode code 730 = .ok (.iload 5, 2) := by decide +kernel
theorem d_l_law_732 : decode code 732 = .ok (.ifCond .ne 22, 3) := by decide +kernel
theorem d_l_law_735 : decode code 735 = .ok (.aload_n 3, 1) := by decide +kernel
theorem d_l_law_736 : decode code 736 = .ok (.iconst 0, 1) := by decide +kernel
theorem d_l_law_737 : decode code 737 = .ok (.laload, 1) := by decide +kernel
theorem d_l_law_738 : decode code 738 = .ok (.iload 6, 2) := by decide +kernel
theorem d_l_law_740 : decode code 740 = .ok (.ifCond .eq 7, 3) := by decide +kernel
theorem d_l_law_743 : decode code 743 = .ok (.lconst 1, 1) := by decide +kernel
theorem d_l_law_744 : decode code 744 = .ok (.goto 4, 3) := by decide +kernel
theorem d_l_law_747 : decode code 747 = .ok (.lconst 0, 1) := by decide +kernel
theorem d_l_law_748 : decode code 748 = .ok (.lcmp, 1) := by decide +kernel
theorem d_l_law_749 : decode code 749 = .ok (.ifCond .eq 5, 3) := by decide +kernel
theorem d_l_law_752 : decode code 752 = .ok (.iconst 0, 1) := by decide +kernel
theorem d_l_law_753 : decode code 753 = .ok (.ireturn, 1) := by decide +kernel
theorem d_l_law_754 : decode code 754 = .ok (.goto 254, 3) := by decide +kernel
theorem d_l_law_757 : decode code 757 = .ok (.aload_n 1, 1) := by decide +kernel
theorem d_l_law_758 : decode code 758 = .ok (.invokevirtual 125, 3) := by decide +kernel
theorem d_l_law_761 : decode code 761 = .ok (.aload_n 2, 1) := by decide +kernel
theorem d_l_law_762 : decode code 762 = .ok (.invokevirtual 128, 3) := by decide +kernel
theorem d_l_law_765 : decode code 765 = .ok (.if_icmp .eq 243, 3) := by decide +kernel
theorem d_l_law_768 : decode code 768 = .ok (.iconst 0, 1) := by decide +kernel
theorem d_l_law_769 : decode code 769 = .ok (.ireturn, 1) := by decide +kernel
theorem d_l_law_770 : decode code 770 = .ok (.aload_n 1, 1) := by decide +kernel
theorem d_l_law_771 : decode code 771 = .ok (.invokevirtual 129, 3) := by decide +kernel
theorem d_l_law_774 : decode code 774 = .ok (.aload_n 2, 1) := by decide +kernel
theorem d_l_law_775 : decode code 775 = .ok (.invokevirtual 132, 3) := by decide +kernel
theorem d_l_law_778 : decode code 778 = .ok (.if_icmp .eq 230, 3) := by decide +kernel
theorem d_l_law_781 : decode code 781 = .ok (.iconst 0, 1) := by decide +kernel
theorem d_l_law_782 : decode code 782 = .ok (.ireturn, 1) := by decide +kernel
theorem d_l_law_783 : decode code 783 = .ok (.aload_n 1, 1) := by decide +kernel
theorem d_l_law_784 : decode code 784 = .ok (.aload_n 3, 1) := by decide +kernel
theorem d_l_law_785 : decode code 785 = .ok (.invokestatic 133, 3) := by decide +kernel
theorem d_l_law_788 : decode code 788 = .ok (.istore 5, 2) := by decide +kernel
theorem d_l_law_790 : decode code 790 = .ok (.aload_n 2, 1) := by decide +kernel
theorem d_l_law_791 : decode code 791 = .ok (.invokevirtual 135, 3) := by decide +kernel
theorem d_l_law_794 : decode code 794 = .ok (.istore 6, 2) := by decide +kernel
theorem d_l_law_796 : decode code 796 = .ok (.aload_n 2, 1) := by decide +kernel
theorem d_l_law_797 : decode code 797 = .ok (.invokevirtual 81, 3) := by decide +kernel
theorem d_l_law_800 : decode code 800 = .ok (.iload 5, 2) := by decide +kernel
theorem d_l_law_802 : decode code 802 = .ok (.if_icmp .eq 5, 3) := by decide +kernel
theorem d_l_law_805 : decode code 805 = .ok (.iconst 0, 1) := by decide +kernel
theorem d_l_law_806 : decode code 806 = .ok (.ireturn, 1) := by decide +kernel
theorem d_l_law_807 : decode code 807 = .ok (.iload 5, 2) := by decide +kernel
theorem d_l_law_809 : decode code 809 = .ok (.ifCond .ne 15, 3) := by decide +kernel
theorem d_l_law_812 : decode code 812 = .ok (.aload_n 3, 1) := by decide +kernel
theorem d_l_law_813 : decode code 813 = .ok (.iconst 0, 1) := by decide +kernel
theorem d_l_law_814 : decode code 814 = .ok (.laload, 1) := by decide +kernel
theorem d_l_law_815 : decode code 815 = .ok (.iload 6, 2) := by decide +kernel
theorem d_l_law_817 : decode code 817 = .ok (.i2l, 1) := by decide +kernel
theorem d_l_law_818 : decode code 818 = .ok (.lcmp, 1) := by decide +kernel
theorem d_l_law_819 : decode code 819 = .ok (.ifCond .eq 5, 3) := by decide +kernel
theorem d_l_law_822 : decode code 822 = .ok (.iconst 0, 1) := by decide +kernel
theorem d_l_law_823 : decode code 823 = .ok (.ireturn, 1) := by decide +kernel
theorem d_l_law_824 : decode code 824 = .ok (.goto 184, 3) := by decide +kernel
theorem d_l_law_827 : decode code 827 = .ok (.aload_n 1, 1) := by decide +kernel
theorem d_l_law_828 : decode code 828 = .ok (.invokevirtual 136, 3) := by decide +kernel
theorem d_l_law_831 : decode code 831 = .ok (.aload_n 2, 1) := by decide +kernel
theorem d_l_law_832 : decode code 832 = .ok (.invokevirtual 139, 3) := by decide +kernel
theorem d_l_law_835 : decode code 835 = .ok (.if_icmp .eq 173, 3) := by decide +kernel
theorem d_l_law_838 : decode code 838 = .ok (.iconst 0, 1) := by decide +kernel
theorem d_l_law_839 : decode code 839 = .ok (.ireturn, 1) := by decide +kernel
theorem d_l_law_840 : decode code 840 = .ok (.aload_n 1, 1) := by decide +kernel
theorem d_l_law_841 : decode code 841 = .ok (.aload_n 0, 1) := by decide +kernel
theorem d_l_law_842 : decode code 842 = .ok (.iload 4, 2) := by decide +kernel
theorem d_l_law_844 : decode code 844 = .ok (.iconst 1, 1) := by decide +kernel
theorem d_l_law_845 : decode code 845 = .ok (.iadd, 1) := by decide +kernel
theorem d_l_law_846 : decode code 846 = .ok (.iaload, 1) := by decide +kernel
theorem d_l_law_847 : decode code 847 = .ok (.aload_n 3, 1) := by decide +kernel
theorem d_l_law_848 : decode code 848 = .ok (.invokestatic 140, 3) := by decide +kernel
theorem d_l_law_851 : decode code 851 = .ok (.istore 5, 2) := by decide +kernel
theorem d_l_law_853 : decode code 853 = .ok (.aload_n 2, 1) := by decide +kernel
theorem d_l_law_854 : decode code 854 = .ok (.aload_n 0, 1) := by decide +kernel
theorem d_l_law_855 : decode code 855 = .ok (.iload 4, 2) := by decide +kernel
theorem d_l_law_857 : decode code 857 = .ok (.iconst 1, 1) := by decide +kernel
theorem d_l_law_858 : decode code 858 = .ok (.iadd, 1) := by decide +kernel
theorem d_l_law_859 : decode code 859 = .ok (.iaload, 1) := by decide +kernel
theorem d_l_law_860 : decode code 860 = .ok (.invokevirtual 142, 3) := by decide +kernel
theorem d_l_law_863 : decode code 863 = .ok (.istore 6, 2) := by decide +kernel
theorem d_l_law_865 : decode code 865 = .ok (.aload_n 2, 1) := by decide +kernel
theorem d_l_law_866 : decode code 866 = .ok (.invokevirtual 81, 3) := by decide +kernel
theorem d_l_law_869 : decode code 869 = .ok (.iload 5, 2) := by decide +kernel
theorem d_l_law_871 : decode code 871 = .ok (.if_icmp .eq 5, 3) := by decide +kernel
theorem d_l_law_874 : decode code 874 = .ok (.iconst 0, 1) := by decide +kernel
theorem d_l_law_875 : decode code 875 = .ok (.ireturn, 1) := by decide +kernel
theorem d_l_law_876 : decode code 876 = .ok (.iload 5, 2) := by decide +kernel
theorem d_l_law_878 : decode code 878 = .ok (.ifCond .ne 15, 3) := by decide +kernel
theorem d_l_law_881 : decode code 881 = .ok (.aload_n 3, 1) := by decide +kernel
theorem d_l_law_882 : decode code 882 = .ok (.iconst 0, 1) := by decide +kernel
theorem d_l_law_883 : decode code 883 = .ok (.laload, 1) := by decide +kernel
theorem d_l_law_884 : decode code 884 = .ok (.iload 6, 2) := by decide +kernel
theorem d_l_law_886 : decode code 886 = .ok (.i2l, 1) := by decide +kernel
theorem d_l_law_887 : decode code 887 = .ok (.lcmp, 1) := by decide +kernel
theorem d_l_law_888 : decode code 888 = .ok (.ifCond .eq 5, 3) := by decide +kernel
theorem d_l_law_891 : decode code 891 = .ok (.iconst 0, 1) := by decide +kernel
theorem d_l_law_892 : decode code 892 = .ok (.ireturn, 1) := by decide +kernel
theorem d_l_law_893 : decode code 893 = .ok (.goto 115, 3) := by decide +kernel
theorem d_l_law_896 : decode code 896 = .ok (.aload_n 1, 1) := by decide +kernel
theorem d_l_law_897 : decode code 897 = .ok (.aload_n 0, 1) := by decide +kernel
theorem d_l_law_898 : decode code 898 = .ok (.iload 4, 2) := by decide +kernel
theorem d_l_law_900 : decode code 900 = .ok (.iconst 1, 1) := by decide +kernel
theorem d_l_law_901 : decode code 901 = .ok (.iadd, 1) := by decide +kernel
theorem d_l_law_902 : decode code 902 = .ok (.iaload, 1) := by decide +kernel
theorem d_l_law_903 : decode code 903 = .ok (.aload_n 0, 1) := by decide +kernel
theorem d_l_law_904 : decode code 904 = .ok (.iload 4, 2) := by decide +kernel
theorem d_l_law_906 : decode code 906 = .ok (.iconst 2, 1) := by decide +kernel
theorem d_l_law_907 : decode code 907 = .ok (.iadd, 1) := by decide +kernel
theorem d_l_law_908 : decode code 908 = .ok (.iaload, 1) := by decide +kernel
theorem d_l_law_909 : decode code 909 = .ok (.aload_n 3, 1) := by decide +kernel
theorem d_l_law_910 : decode code 910 = .ok (.invokestatic 143, 3) := by decide +kernel
theorem d_l_law_913 : decode code 913 = .ok (.istore 5, 2) := by decide +kernel
theorem d_l_law_915 : decode code 915 = .ok (.aload_n 2, 1) := by decide +kernel
theorem d_l_law_916 : decode code 916 = .ok (.aload_n 0, 1) := by decide +kernel
theorem d_l_law_917 : decode code 917 = .ok (.iload 4, 2) := by decide +kernel
theorem d_l_law_919 : decode code 919 = .ok (.iconst 1, 1) := by decide +kernel
theorem d_l_law_920 : decode code 920 = .ok (.iadd, 1) := by decide +kernel
theorem d_l_law_921 : decode code 921 = .ok (.iaload, 1) := by decide +kernel
theorem d_l_law_922 : decode code 922 = .ok (.aload_n 0, 1) := by decide +kernel
theorem d_l_law_923 : decode code 923 = .ok (.iload 4, 2) := by decide +kernel
theorem d_l_law_925 : decode code 925 = .ok (.iconst 2, 1) := by decide +kernel
theorem d_l_law_926 : decode code 926 = .ok (.iadd, 1) := by decide +kernel
theorem d_l_law_927 : decode code 927 = .ok (.iaload, 1) := by decide +kernel
theorem d_l_law_928 : decode code 928 = .ok (.invokevirtual 145, 3) := by decide +kernel
theorem d_l_law_931 : decode code 931 = .ok (.istore 6, 2) := by decide +kernel
theorem d_l_law_933 : decode code 933 = .ok (.aload_n 2, 1) := by decide +kernel
theorem d_l_law_934 : decode code 934 = .ok (.invokevirtual 81, 3) := by decide +kernel
theorem d_l_law_937 : decode code 937 = .ok (.iload 5, 2) := by decide +kernel
theorem d_l_law_939 : decode code 939 = .ok (.if_icmp .eq 5, 3) := by decide +kernel
theorem d_l_law_942 : decode code 942 = .ok (.iconst 0, 1) := by decide +kernel
theorem d_l_law_943 : decode code 943 = .ok (.ireturn, 1) := by decide +kernel
theorem d_l_law_944 : decode code 944 = .ok (.iload 5, 2) := by decide +kernel
theorem d_l_law_946 : decode code 946 = .ok (.ifCond .ne 15, 3) := by decide +kernel
theorem d_l_law_949 : decode code 949 = .ok (.aload_n 3, 1) := by decide +kernel
theorem d_l_law_950 : decode code 950 = .ok (.iconst 0, 1) := by decide +kernel
theorem d_l_law_951 : decode code 951 = .ok (.laload, 1) := by decide +kernel
theorem d_l_law_952 : decode code 952 = .ok (.iload 6, 2) := by decide +kernel
theorem d_l_law_954 : decode code 954 = .ok (.i2l, 1) := by decide +kernel
theorem d_l_law_955 : decode code 955 = .ok (.lcmp, 1) := by decide +kernel
theorem d_l_law_956 : decode code 956 = .ok (.ifCond .eq 5, 3) := by decide +kernel
theorem d_l_law_959 : decode code 959 = .ok (.iconst 0, 1) := by decide +kernel
theorem d_l_law_960 : decode code 960 = .ok (.ireturn, 1) := by decide +kernel
theorem d_l_law_961 : decode code 961 = .ok (.goto 47, 3) := by decide +kernel
theorem d_l_law_964 : decode code 964 = .ok (.aload_n 1, 1) := by decide +kernel
theorem d_l_law_965 : decode code 965 = .ok (.aload_n 3, 1) := by decide +kernel
theorem d_l_law_966 : decode code 966 = .ok (.invokestatic 146, 3) := by decide +kernel
theorem d_l_law_969 : decode code 969 = .ok (.istore 5, 2) := by decide +kernel
theorem d_l_law_971 : decode code 971 = .ok (.aload_n 2, 1) := by decide +kernel
theorem d_l_law_972 : decode code 972 = .ok (.invokevirtual 148, 3) := by decide +kernel
theorem d_l_law_975 : decode code 975 = .ok (.istore 6, 2) := by decide +kernel
theorem d_l_law_977 : decode code 977 = .ok (.aload_n 2, 1) := by decide +kernel
theorem d_l_law_978 : decode code 978 = .ok (.invokevirtual 81, 3) := by decide +kernel
theorem d_l_law_981 : decode code 981 = .ok (.iload 5, 2) := by decide +kernel
theorem d_l_law_983 : decode code 983 = .ok (.if_icmp .eq 5, 3) := by decide +kernel
theorem d_l_law_986 : decode code 986 = .ok (.iconst 0, 1) := by decide +kernel
theorem d_l_law_987 : decode code 987 = .ok (.ireturn, 1) := by decide +kernel
theorem d_l_law_988 : decode code 988 = .ok (.iload 5, 2) := by decide +kernel
theorem d_l_law_990 : decode code 990 = .ok (.ifCond .ne 15, 3) := by decide +kernel
theorem d_l_law_993 : decode code 993 = .ok (.aload_n 3, 1) := by decide +kernel
theorem d_l_law_994 : decode code 994 = .ok (.iconst 0, 1) := by decide +kernel
theorem d_l_law_995 : decode code 995 = .ok (.laload, 1) := by decide +kernel
theorem d_l_law_996 : decode code 996 = .ok (.iload 6, 2) := by decide +kernel
theorem d_l_law_998 : decode code 998 = .ok (.i2l, 1) := by decide +kernel
theorem d_l_law_999 : decode code 999 = .ok (.lcmp, 1) := by decide +kernel
theorem d_l_law_1000 : decode code 1000 = .ok (.ifCond .eq 5, 3) := by decide +kernel
theorem d_l_law_1003 : decode code 1003 = .ok (.iconst 0, 1) := by decide +kernel
theorem d_l_law_1004 : decode code 1004 = .ok (.ireturn, 1) := by decide +kernel
theorem d_l_law_1005 : decode code 1005 = .ok (.goto 3, 3) := by decide +kernel
theorem d_l_law_1008 : decode code 1008 = .ok (.iinc 4 3, 3) := by decide +kernel
theorem d_l_law_1011 : decode code 1011 = .ok (.goto (-988), 3) := by decide +kernel
theorem d_l_law_1014 : decode code 1014 = .ok (.iconst 1, 1) := by decide +kernel
theorem d_l_law_1015 : decode code 1015 = .ok (.ireturn, 1) := by decide +kernel
end
section
/-! 10.code.model: methods and what stands at each place of their code (written by gen_code.py) -/
abbrev M_m_init : rsM := (⟨"RunStoreModel", "<init>", "()V"⟩, prog_5_method_1_code, 1, none, [])
theorem d_m_init_0 : decode prog_5_method_1_code 0 = .ok (.aload_n 0, 1) := by decide +kernel
theorem d_m_init_1 : decode prog_5_method_1_code 1 = .ok (.invokespecial 1, 3) := by decide +kernel
theorem d_m_init_4 : decode prog_5_method_1_code 4 = .ok (.aload_n 0, 1) := by decide +kernel
theorem d_m_init_5 : decode prog_5_method_1_code 5 = .ok (.iconst (-1), 1) := by decide +kernel
theorem d_m_init_6 : decode prog_5_method_1_code 6 = .ok (.putfield 9, 3) := by decide +kernel
theorem d_m_init_9 : decode prog_5_method_1_code 9 = .ok (.aload_n 0, 1) := by decide +kernel
theorem d_m_init_10 : decode prog_5_method_1_code 10 = .ok (.bipush 12, 2) := by decide +kernel
theorem d_m_init_12 : decode prog_5_method_1_code 12 = .ok (.newarray .int, 2) := by decide +kernel
theorem d_m_init_14 : decode prog_5_method_1_code 14 = .ok (.putfield 13, 3) := by decide +kernel
theorem d_m_init_17 : decode prog_5_method_1_code 17 = .ok (.aload_n 0, 1) := by decide +kernel
theorem d_m_init_18 : decode prog_5_method_1_code 18 = .ok (.sipush 1400, 3) := by decide +kernel
theorem d_m_init_21 : decode prog_5_method_1_code 21 = .ok (.newarray .int, 2) := by decide +kernel
theorem d_m_init_23 : decode prog_5_method_1_code 23 = .ok (.putfield 17, 3) := by decide +kernel
theorem d_m_init_26 : decode prog_5_method_1_code 26 = .ok (.aload_n 0, 1) := by decide +kernel
theorem d_m_init_27 : decode prog_5_method_1_code 27 = .ok (.sipush 1400, 3) := by decide +kernel
theorem d_m_init_30 : decode prog_5_method_1_code 30 = .ok (.newarray .int, 2) := by decide +kernel
theorem d_m_init_32 : decode prog_5_method_1_code 32 = .ok (.putfield 20, 3) := by decide +kernel
theorem d_m_init_35 : decode prog_5_method_1_code 35 = .ok (.aload_n 0, 1) := by decide +kernel
theorem d_m_init_36 : decode prog_5_method_1_code 36 = .ok (.iconst (-1), 1) := by decide +kernel
theorem d_m_init_37 : decode prog_5_method_1_code 37 = .ok (.putfield 23, 3) := by decide +kernel
theorem d_m_init_40 : decode prog_5_method_1_code 40 = .ok (.return_, 1) := by decide +kernel
abbrev M_m_thrown : rsM := (⟨"RunStoreModel", "thrown", "()I"⟩, prog_5_method_2_code, 1, some .int, [])
theorem d_m_thrown_0 : decode prog_5_method_2_code 0 = .ok (.aload_n 0, 1) := by decide +kernel
theorem d_m_thrown_1 : decode prog_5_method_2_code 1 = .ok (.getfield 26, 3) := by decide +kernel
theorem d_m_thrown_4 : decode prog_5_method_2_code 4 = .ok (.ireturn, 1) := by decide +kernel
abbrev M_m_format : rsM := (⟨"RunStoreModel", "format", "()V"⟩, prog_5_method_18_code, 1, none, [])
theorem d_m_format_0 : decode prog_5_method_18_code 0 = .ok (.aload_n 0, 1) := by decide +kernel
theorem d_m_format_1 : decode prog_5_method_18_code 1 = .ok (.aload_n 0, 1) := by decide +kernel
theorem d_m_format_2 : decode prog_5_method_18_code 2 = .ok (.iconst 1, 1) := by decide +kernel
theorem d_m_format_3 : decode prog_5_method_18_code 3 = .ok (.invokevirtual 61, 3) := by decide +kernel
theorem d_m_format_6 : decode prog_5_method_18_code 6 = .ok (.ifCond .eq 7, 3) := by decide +kernel
theorem d_m_format_9 : decode prog_5_method_18_code 9 = .ok (.iconst 0, 1) := by decide +kernel
theorem d_m_format_10 : decode prog_5_method_18_code 10 = .ok (.goto 4, 3) := by decide +kernel
theorem d_m_format_13 : decode prog_5_method_18_code 13 = .ok (.iconst 1, 1) := by decide +kernel
theorem d_m_format_14 : decode prog_5_method_18_code 14 = .ok (.putfield 26, 3) := by decide +kernel
theorem d_m_format_17 : decode prog_5_method_18_code 17 = .ok (.aload_n 0, 1) := by decide +kernel
theorem d_m_format_18 : decode prog_5_method_18_code 18 = .ok (.getfield 26, 3) := by decide +kernel
theorem d_m_format_21 : decode prog_5_method_18_code 21 = .ok (.ifCond .ne 29, 3) := by decide +kernel
theorem d_m_format_24 : decode prog_5_method_18_code 24 = .ok (.aload_n 0, 1) := by decide +kernel
theorem d_m_format_25 : decode prog_5_method_18_code 25 = .ok (.iconst 1, 1) := by decide +kernel
theorem d_m_format_26 : decode prog_5_method_18_code 26 = .ok (.putfield 77, 3) := by decide +kernel
theorem d_m_format_29 : decode prog_5_method_18_code 29 = .ok (.aload_n 0, 1) := by decide +kernel
theorem d_m_format_30 : decode prog_5_method_18_code 30 = .ok (.iconst 1, 1) := by decide +kernel
theorem d_m_format_31 : decode prog_5_method_18_code 31 = .ok (.putfield 42, 3) := by decide +kernel
theorem d_m_format_34 : decode prog_5_method_18_code 34 = .ok (.aload_n 0, 1) := by decide +kernel
theorem d_m_format_35 : decode prog_5_method_18_code 35 = .ok (.iconst 0, 1) := by decide +kernel
theorem d_m_format_36 : decode prog_5_method_18_code 36 = .ok (.putfield 29, 3) := by decide +kernel
theorem d_m_format_39 : decode prog_5_method_18_code 39 = .ok (.aload_n 0, 1) := by decide +kernel
theorem d_m_format_40 : decode prog_5_method_18_code 40 = .ok (.iconst (-1), 1) := by decide +kernel
theorem d_m_format_41 : decode prog_5_method_18_code 41 = .ok (.putfield 23, 3) := by decide +kernel
theorem d_m_format_44 : decode prog_5_method_18_code 44 = .ok (.aload_n 0, 1) := by decide +kernel
theorem d_m_format_45 : decode prog_5_method_18_code 45 = .ok (.bipush 12, 2) := by decide +kernel
theorem d_m_format_47 : decode prog_5_method_18_code 47 = .ok (.invokevirtual 46, 3) := by decide +kernel
theorem d_m_format_50 : decode prog_5_method_18_code 50 = .ok (.return_, 1) := by decide +kernel
abbrev M_m_writes : rsM := (⟨"RunStoreModel", "writes", "(I)Z"⟩, prog_5_method_13_code, 2, some .boolean, [])
theorem d_m_writes_0 : decode prog_5_method_13_code 0 = .ok (.aload_n 0, 1) := by decide +kernel
theorem d_m_writes_1 : decode prog_5_method_13_code 1 = .ok (.getfield 9, 3) := by decide +kernel
theorem d_m_writes_4 : decode prog_5_method_13_code 4 = .ok (.ifCond .lt 17, 3) := by decide +kernel
theorem d_m_writes_7 : decode prog_5_method_13_code 7 = .ok (.aload_n 0, 1) := by decide +kernel
theorem d_m_writes_8 : decode prog_5_method_13_code 8 = .ok (.getfield 9, 3) := by decide +kernel
theorem d_m_writes_11 : decode prog_5_method_13_code 11 = .ok (.iload_n 1, 1) := by decide +kernel
theorem d_m_writes_12 : decode prog_5_method_13_code 12 = .ok (.if_icmp .ge 9, 3) := by decide +kernel
theorem d_m_writes_15 : decode prog_5_method_13_code 15 = .ok (.aload_n 0, 1) := by decide +kernel
theorem d_m_writes_16 : decode prog_5_method_13_code 16 = .ok (.invokevirtual 50, 3) := by decide +kernel
theorem d_m_writes_19 : decode prog_5_method_13_code 19 = .ok (.iconst 0, 1) := by decide +kernel
theorem d_m_writes_20 : decode prog_5_method_13_code 20 = .ok (.ireturn, 1) := by decide +kernel
theorem d_m_writes_21 : decode prog_5_method_13_code 21 = .ok (.aload_n 0, 1) := by decide +kernel
theorem d_m_writes_22 : decode prog_5_method_13_code 22 = .ok (.aload_n 0, 1) := by decide +kernel
theorem d_m_writes_23 : decode prog_5_method_13_code 23 = .ok (.getfield 9, 3) := by decide +kernel
theorem d_m_writes_26 : decode prog_5_method_13_code 26 = .ok (.ifCond .ge 10, 3) := by decide +kernel
theorem d_m_writes_29 : decode prog_5_method_13_code 29 = .ok (.aload_n 0, 1) := by decide +kernel
theorem d_m_writes_30 : decode prog_5_method_13_code 30 = .ok (.getfield 9, 3) := by decide +kernel
theorem d_m_writes_33 : decode prog_5_method_13_code 33 = .ok (.goto 9, 3) := by decide +kernel
theorem d_m_writes_36 : decode prog_5_method_13_code 36 = .ok (.aload_n 0, 1) := by decide +kernel
theorem d_m_writes_37 : decode prog_5_method_13_code 37 = .ok (.getfield 9, 3) := by decide +kernel
theorem d_m_writes_40 : decode prog_5_method_13_code 40 = .ok (.iload_n 1, 1) := by decide +kernel
theorem d_m_writes_41 : decode prog_5_method_13_code 41 = .ok (.isub, 1) := by decide +kernel
theorem d_m_writes_42 : decode prog_5_method_13_code 42 = .ok (.putfield 9, 3) := by decide +kernel
theorem d_m_writes_45 : decode prog_5_method_13_code 45 = .ok (.iconst 1, 1) := by decide +kernel
theorem d_m_writes_46 : decode prog_5_method_13_code 46 = .ok (.ireturn, 1) := by decide +kernel
abbrev M_m_goDown : rsM := (⟨"RunStoreModel", "goDown", "()V"⟩, prog_5_method_12_code, 1, none, [])
theorem d_m_goDown_0 : decode prog_5_method_12_code 0 = .ok (.aload_n 0, 1) := by decide +kernel
theorem d_m_goDown_1 : decode prog_5_method_12_code 1 = .ok (.iconst 0, 1) := by decide +kernel
theorem d_m_goDown_2 : decode prog_5_method_12_code 2 = .ok (.putfield 42, 3) := by decide +kernel
theorem d_m_goDown_5 : decode prog_5_method_12_code 5 = .ok (.aload_n 0, 1) := by decide +kernel
theorem d_m_goDown_6 : decode prog_5_method_12_code 6 = .ok (.iconst (-1), 1) := by decide +kernel
theorem d_m_goDown_7 : decode prog_5_method_12_code 7 = .ok (.putfield 9, 3) := by decide +kernel
theorem d_m_goDown_10 : decode prog_5_method_12_code 10 = .ok (.aload_n 0, 1) := by decide +kernel
theorem d_m_goDown_11 : decode prog_5_method_12_code 11 = .ok (.iconst (-1), 1) := by decide +kernel
theorem d_m_goDown_12 : decode prog_5_method_12_code 12 = .ok (.putfield 23, 3) := by decide +kernel
theorem d_m_goDown_15 : decode prog_5_method_12_code 15 = .ok (.aload_n 0, 1) := by decide +kernel
theorem d_m_goDown_16 : decode prog_5_method_12_code 16 = .ok (.bipush 12, 2) := by decide +kernel
theorem d_m_goDown_18 : decode prog_5_method_12_code 18 = .ok (.invokevirtual 46, 3) := by decide +kernel
theorem d_m_goDown_21 : decode prog_5_method_12_code 21 = .ok (.return_, 1) := by decide +kernel
abbrev M_m_clearRow : rsM := (⟨"RunStoreModel", "clearRow", "(I)V"⟩, prog_5_method_3_code, 3, none, [])
theorem d_m_clearRow_0 : decode prog_5_method_3_code 0 = .ok (.iconst 0, 1) := by decide +kernel
theorem d_m_clearRow_1 : decode prog_5_method_3_code 1 = .ok (.istore_n 2, 1) := by decide +kernel
theorem d_m_clearRow_2 : decode prog_5_method_3_code 2 = .ok (.iload_n 2, 1) := by decide +kernel
theorem d_m_clearRow_3 : decode prog_5_method_3_code 3 = .ok (.bipush 100, 2) := by decide +kernel
theorem d_m_clearRow_5 : decode prog_5_method_3_code 5 = .ok (.if_icmp .ge 33, 3) := by decide +kernel
theorem d_m_clearRow_8 : decode prog_5_method_3_code 8 = .ok (.aload_n 0, 1) := by decide +kernel
theorem d_m_clearRow_9 : decode prog_5_method_3_code 9 = .ok (.getfield 17, 3) := by decide +kernel
theorem d_m_clearRow_12 : decode prog_5_method_3_code 12 = .ok (.bipush 100, 2) := by decide +kernel
theorem d_m_clearRow_14 : decode prog_5_method_3_code 14 = .ok (.iload_n 1, 1) := by decide +kernel
theorem d_m_clearRow_15 : decode prog_5_method_3_code 15 = .ok (.imul, 1) := by decide +kernel
theorem d_m_clearRow_16 : decode prog_5_method_3_code 16 = .ok (.iload_n 2, 1) := by decide +kernel
theorem d_m_clearRow_17 : decode prog_5_method_3_code 17 = .ok (.iadd, 1) := by decide +kernel
theorem d_m_clearRow_18 : decode prog_5_method_3_code 18 = .ok (.iconst 0, 1) := by decide +kernel
theorem d_m_clearRow_19 : decode prog_5_method_3_code 19 = .ok (.iastore, 1) := by decide +kernel
theorem d_m_clearRow_20 : decode prog_5_method_3_code 20 = .ok (.aload_n 0, 1) := by decide +kernel
theorem d_m_clearRow_21 : decode prog_5_method_3_code 21 = .ok (.getfield 20, 3) := by decide +kernel
theorem d_m_clearRow_24 : decode prog_5_method_3_code 24 = .ok (.bipush 100, 2) := by decide +kernel
theorem d_m_clearRow_26 : decode prog_5_method_3_code 26 = .ok (.iload_n 1, 1) := by decide +kernel
theorem d_m_clearRow_27 : decode prog_5_method_3_code 27 = .ok (.imul, 1) := by decide +kernel
theorem d_m_clearRow_28 : decode prog_5_method_3_code 28 = .ok (.iload_n 2, 1) := by decide +kernel
theorem d_m_clearRow_29 : decode prog_5_method_3_code 29 = .ok (.iadd, 1) := by decide +kernel
theorem d_m_clearRow_30 : decode prog_5_method_3_code 30 = .ok (.iconst 0, 1) := by decide +kernel
theorem d_m_clearRow_31 : decode prog_5_method_3_code 31 = .ok (.iastore, 1) := by decide +kernel
theorem d_m_clearRow_32 : decode prog_5_method_3_code 32 = .ok (.iinc 2 1, 3) := by decide +kernel
theorem d_m_clearRow_35 : decode prog_5_method_3_code 35 = .ok (.goto (-33), 3) := by decide +kernel
theorem d_m_clearRow_38 : decode prog_5_method_3_code 38 = .ok (.return_, 1) := by decide +kernel
abbrev M_m_recover : rsM := (⟨"RunStoreModel", "recover", "()I"⟩, prog_5_method_19_code, 1, some .int, [])
theorem d_m_recover_0 : decode prog_5_method_19_code 0 = .ok (.aload_n 0, 1) := by decide +kernel
theorem d_m_recover_1 : decode prog_5_method_19_code 1 = .ok (.aload_n 0, 1) := by decide +kernel
theorem d_m_recover_2 : decode prog_5_method_19_code 2 = .ok (.getfield 42, 3) := by decide +kernel
theorem d_m_recover_5 : decode prog_5_method_19_code 5 = .ok (.ifCond .ne 10, 3) := by decide +kernel
theorem d_m_recover_8 : decode prog_5_method_19_code 8 = .ok (.aload_n 0, 1) := by decide +kernel
theorem d_m_recover_9 : decode prog_5_method_19_code 9 = .ok (.getfield 77, 3) := by decide +kernel
theorem d_m_recover_12 : decode prog_5_method_19_code 12 = .ok (.ifCond .ne 7, 3) := by decide +kernel
theorem d_m_recover_15 : decode prog_5_method_19_code 15 = .ok (.iconst 1, 1) := by decide +kernel
theorem d_m_recover_16 : decode prog_5_method_19_code 16 = .ok (.goto 4, 3) := by decide +kernel
theorem d_m_recover_19 : decode prog_5_method_19_code 19 = .ok (.iconst 0, 1) := by decide +kernel
theorem d_m_recover_20 : decode prog_5_method_19_code 20 = .ok (.putfield 26, 3) := by decide +kernel
theorem d_m_recover_23 : decode prog_5_method_19_code 23 = .ok (.aload_n 0, 1) := by decide +kernel
theorem d_m_recover_24 : decode prog_5_method_19_code 24 = .ok (.getfield 26, 3) := by decide +kernel
theorem d_m_recover_27 : decode prog_5_method_19_code 27 = .ok (.ifCond .eq 5, 3) := by decide +kernel
theorem d_m_recover_30 : decode prog_5_method_19_code 30 = .ok (.iconst 0, 1) := by decide +kernel
theorem d_m_recover_31 : decode prog_5_method_19_code 31 = .ok (.ireturn, 1) := by decide +kernel
theorem d_m_recover_32 : decode prog_5_method_19_code 32 = .ok (.aload_n 0, 1) := by decide +kernel
theorem d_m_recover_33 : decode prog_5_method_19_code 33 = .ok (.iconst 1, 1) := by decide +kernel
theorem d_m_recover_34 : decode prog_5_method_19_code 34 = .ok (.putfield 42, 3) := by decide +kernel
theorem d_m_recover_37 : decode prog_5_method_19_code 37 = .ok (.aload_n 0, 1) := by decide +kernel
theorem d_m_recover_38 : decode prog_5_method_19_code 38 = .ok (.iconst (-1), 1) := by decide +kernel
theorem d_m_recover_39 : decode prog_5_method_19_code 39 = .ok (.putfield 23, 3) := by decide +kernel
theorem d_m_recover_42 : decode prog_5_method_19_code 42 = .ok (.aload_n 0, 1) := by decide +kernel
theorem d_m_recover_43 : decode prog_5_method_19_code 43 = .ok (.getfield 29, 3) := by decide +kernel
theorem d_m_recover_46 : decode prog_5_method_19_code 46 = .ok (.ireturn, 1) := by decide +kernel
abbrev M_m_put : rsM := (⟨"RunStoreModel", "put", "(II)I"⟩, prog_5_method_22_code, 3, some .int, [])
theorem d_m_put_0 : decode prog_5_method_22_code 0 = .ok (.aload_n 0, 1) := by decide +kernel
theorem d_m_put_1 : decode prog_5_method_22_code 1 = .ok (.iload_n 1, 1) := by decide +kernel
theorem d_m_put_2 : decode prog_5_method_22_code 2 = .ok (.iload_n 2, 1) := by decide +kernel
theorem d_m_put_3 : decode prog_5_method_22_code 3 = .ok (.iconst 1, 1) := by decide +kernel
theorem d_m_put_4 : decode prog_5_method_22_code 4 = .ok (.invokevirtual 86, 3) := by decide +kernel
theorem d_m_put_7 : decode prog_5_method_22_code 7 = .ok (.aload_n 0, 1) := by decide +kernel
theorem d_m_put_8 : decode prog_5_method_22_code 8 = .ok (.getfield 26, 3) := by decide +kernel
theorem d_m_put_11 : decode prog_5_method_22_code 11 = .ok (.ifCond .ne 12, 3) := by decide +kernel
theorem d_m_put_14 : decode prog_5_method_22_code 14 = .ok (.aload_n 0, 1) := by decide +kernel
theorem d_m_put_15 : decode prog_5_method_22_code 15 = .ok (.bipush 12, 2) := by decide +kernel
theorem d_m_put_17 : decode prog_5_method_22_code 17 = .ok (.invokevirtual 32, 3) := by decide +kernel
theorem d_m_put_20 : decode prog_5_method_22_code 20 = .ok (.goto 4, 3) := by decide +kernel
theorem d_m_put_23 : decode prog_5_method_22_code 23 = .ok (.iconst 0, 1) := by decide +kernel
theorem d_m_put_24 : decode prog_5_method_22_code 24 = .ok (.ireturn, 1) := by decide +kernel
abbrev M_m_enter : rsM := (⟨"RunStoreModel", "enter", "(III)V"⟩, prog_5_method_21_code, 5, none, [])
theorem d_m_enter_0 : decode prog_5_method_21_code 0 = .ok (.aload_n 0, 1) := by decide +kernel
theorem d_m_enter_1 : decode prog_5_method_21_code 1 = .ok (.iload_n 1, 1) := by decide +kernel
theorem d_m_enter_2 : decode prog_5_method_21_code 2 = .ok (.invokestatic 80, 3) := by decide +kernel
theorem d_m_enter_5 : decode prog_5_method_21_code 5 = .ok (.ifCond .ne 7, 3) := by decide +kernel
theorem d_m_enter_8 : decode prog_5_method_21_code 8 = .ok (.iconst 1, 1) := by decide +kernel
theorem d_m_enter_9 : decode prog_5_method_21_code 9 = .ok (.goto 15, 3) := by decide +kernel
theorem d_m_enter_12 : decode prog_5_method_21_code 12 = .ok (.aload_n 0, 1) := by decide +kernel
theorem d_m_enter_13 : decode prog_5_method_21_code 13 = .ok (.getfield 42, 3) := by decide +kernel
theorem d_m_enter_16 : decode prog_5_method_21_code 16 = .ok (.ifCond .ne 7, 3) := by decide +kernel
theorem d_m_enter_19 : decode prog_5_method_21_code 19 = .ok (.iconst 2, 1) := by decide +kernel
theorem d_m_enter_20 : decode prog_5_method_21_code 20 = .ok (.goto 4, 3) := by decide +kernel
theorem d_m_enter_23 : decode prog_5_method_21_code 23 = .ok (.iconst 0, 1) := by decide +kernel
theorem d_m_enter_24 : decode prog_5_method_21_code 24 = .ok (.putfield 26, 3) := by decide +kernel
theorem d_m_enter_27 : decode prog_5_method_21_code 27 = .ok (.aload_n 0, 1) := by decide +kernel
theorem d_m_enter_28 : decode prog_5_method_21_code 28 = .ok (.getfield 26, 3) := by decide +kernel
theorem d_m_enter_31 : decode prog_5_method_21_code 31 = .ok (.ifCond .eq 4, 3) := by decide +kernel
theorem d_m_enter_34 : decode prog_5_method_21_code 34 = .ok (.return_, 1) := by decide +kernel
theorem d_m_enter_35 : decode prog_5_method_21_code 35 = .ok (.aload_n 0, 1) := by decide +kernel
theorem d_m_enter_36 : decode prog_5_method_21_code 36 = .ok (.getfield 17, 3) := by decide +kernel
theorem d_m_enter_39 : decode prog_5_method_21_code 39 = .ok (.sipush 1200, 3) := by decide +kernel
theorem d_m_enter_42 : decode prog_5_method_21_code 42 = .ok (.iload_n 1, 1) := by decide +kernel
theorem d_m_enter_43 : decode prog_5_method_21_code 43 = .ok (.iadd, 1) := by decide +kernel
theorem d_m_enter_44 : decode prog_5_method_21_code 44 = .ok (.iaload, 1) := by decide +kernel
theorem d_m_enter_45 : decode prog_5_method_21_code 45 = .ok (.ifCond .ne 37, 3) := by decide +kernel
theorem d_m_enter_48 : decode prog_5_method_21_code 48 = .ok (.aload_n 0, 1) := by decide +kernel
theorem d_m_enter_49 : decode prog_5_method_21_code 49 = .ok (.bipush 12, 2) := by decide +kernel
theorem d_m_enter_51 : decode prog_5_method_21_code 51 = .ok (.invokevirtual 32, 3) := by decide +kernel
theorem d_m_enter_54 : decode prog_5_method_21_code 54 = .ok (.bipush 8, 2) := by decide +kernel
theorem d_m_enter_56 : decode prog_5_method_21_code 56 = .ok (.if_icmp .ne 26, 3) := by decide +kernel
theorem d_m_enter_59 : decode prog_5_method_21_code 59 = .ok (.aload_n 0, 1) := by decide +kernel
theorem d_m_enter_60 : decode prog_5_method_21_code 60 = .ok (.invokevirtual 83, 3) := by decide +kernel
theorem d_m_enter_63 : decode prog_5_method_21_code 63 = .ok (.istore 4, 2) := by decide +kernel
theorem d_m_enter_65 : decode prog_5_method_21_code 65 = .ok (.aload_n 0, 1) := by decide +kernel
theorem d_m_enter_66 : decode prog_5_method_21_code 66 = .ok (.iload 4, 2) := by decide +kernel
theorem d_m_enter_68 : decode prog_5_method_21_code 68 = .ok (.ifCond .ne 7, 3) := by decide +kernel
theorem d_m_enter_71 : decode prog_5_method_21_code 71 = .ok (.iconst 0, 1) := by decide +kernel
theorem d_m_enter_72 : decode prog_5_method_21_code 72 = .ok (.goto 7, 3) := by decide +kernel
theorem d_m_enter_75 : decode prog_5_method_21_code 75 = .ok (.iload 4, 2) := by decide +kernel
theorem d_m_enter_77 : decode prog_5_method_21_code 77 = .ok (.iconst 1, 1) := by decide +kernel
theorem d_m_enter_78 : decode prog_5_method_21_code 78 = .ok (.iadd, 1) := by decide +kernel
theorem d_m_enter_79 : decode prog_5_method_21_code 79 = .ok (.putfield 26, 3) := by decide +kernel
theorem d_m_enter_82 : decode prog_5_method_21_code 82 = .ok (.aload_n 0, 1) := by decide +kernel
theorem d_m_enter_83 : decode prog_5_method_21_code 83 = .ok (.getfield 26, 3) := by decide +kernel
theorem d_m_enter_86 : decode prog_5_method_21_code 86 = .ok (.ifCond .ne 30, 3) := by decide +kernel
theorem d_m_enter_89 : decode prog_5_method_21_code 89 = .ok (.aload_n 0, 1) := by decide +kernel
theorem d_m_enter_90 : decode prog_5_method_21_code 90 = .ok (.getfield 17, 3) := by decide +kernel
theorem d_m_enter_93 : decode prog_5_method_21_code 93 = .ok (.sipush 1200, 3) := by decide +kernel
theorem d_m_enter_96 : decode prog_5_method_21_code 96 = .ok (.iload_n 1, 1) := by decide +kernel
theorem d_m_enter_97 : decode prog_5_method_21_code 97 = .ok (.iadd, 1) := by decide +kernel
theorem d_m_enter_98 : decode prog_5_method_21_code 98 = .ok (.iload_n 3, 1) := by decide +kernel
theorem d_m_enter_99 : decode prog_5_method_21_code 99 = .ok (.iastore, 1) := by decide +kernel
theorem d_m_enter_100 : decode prog_5_method_21_code 100 = .ok (.aload_n 0, 1) := by decide +kernel
theorem d_m_enter_101 : decode prog_5_method_21_code 101 = .ok (.getfield 20, 3) := by decide +kernel
theorem d_m_enter_104 : decode prog_5_method_21_code 104 = .ok (.sipush 1200, 3) := by decide +kernel
theorem d_m_enter_107 : decode prog_5_method_21_code 107 = .ok (.iload_n 1, 1) := by decide +kernel
theorem d_m_enter_108 : decode prog_5_method_21_code 108 = .ok (.iadd, 1) := by decide +kernel
theorem d_m_enter_109 : decode prog_5_method_21_code 109 = .ok (.iload_n 2, 1) := by decide +kernel
theorem d_m_enter_110 : decode prog_5_method_21_code 110 = .ok (.iastore, 1) := by decide +kernel
theorem d_m_enter_111 : decode prog_5_method_21_code 111 = .ok (.aload_n 0, 1) := by decide +kernel
theorem d_m_enter_112 : decode prog_5_method_21_code 112 = .ok (.iconst (-1), 1) := by decide +kernel
theorem d_m_enter_113 : decode prog_5_method_21_code 113 = .ok (.putfield 23, 3) := by decide +kernel
theorem d_m_enter_116 : decode prog_5_method_21_code 116 = .ok (.return_, 1) := by decide +kernel
abbrev M_m_isKey : rsM := (⟨"RunStoreModel", "isKey", "(I)Z"⟩, prog_5_method_20_code, 1, some .boolean, [])
theorem d_m_isKey_0 : decode prog_5_method_20_code 0 = .ok (.iload_n 0, 1) := by decide +kernel
theorem d_m_isKey_1 : decode prog_5_method_20_code 1 = .ok (.ifCond .lt 13, 3) := by decide +kernel
theorem d_m_isKey_4 : decode prog_5_method_20_code 4 = .ok (.iload_n 0, 1) := by decide +kernel
theorem d_m_isKey_5 : decode prog_5_method_20_code 5 = .ok (.bipush 99, 2) := by decide +kernel
theorem d_m_isKey_7 : decode prog_5_method_20_code 7 = .ok (.if_icmp .gt 7, 3) := by decide +kernel
theorem d_m_isKey_10 : decode prog_5_method_20_code 10 = .ok (.iconst 1, 1) := by decide +kernel
theorem d_m_isKey_11 : decode prog_5_method_20_code 11 = .ok (.goto 4, 3) := by decide +kernel
theorem d_m_isKey_14 : decode prog_5_method_20_code 14 = .ok (.iconst 0, 1) := by decide +kernel
theorem d_m_isKey_15 : decode prog_5_method_20_code 15 = .ok (.ireturn, 1) := by decide +kernel
abbrev M_m_sizeOf : rsM := (⟨"RunStoreModel", "sizeOf", "(I)I"⟩, prog_5_method_5_code, 4, some .int, [])
theorem d_m_sizeOf_0 : decode prog_5_method_5_code 0 = .ok (.iconst 0, 1) := by decide +kernel
theorem d_m_sizeOf_1 : decode prog_5_method_5_code 1 = .ok (.istore_n 2, 1) := by decide +kernel
theorem d_m_sizeOf_2 : decode prog_5_method_5_code 2 = .ok (.iconst 0, 1) := by decide +kernel
theorem d_m_sizeOf_3 : decode prog_5_method_5_code 3 = .ok (.istore_n 3, 1) := by decide +kernel
theorem d_m_sizeOf_4 : decode prog_5_method_5_code 4 = .ok (.iload_n 3, 1) := by decide +kernel
theorem d_m_sizeOf_5 : decode prog_5_method_5_code 5 = .ok (.bipush 100, 2) := by decide +kernel
theorem d_m_sizeOf_7 : decode prog_5_method_5_code 7 = .ok (.if_icmp .ge 31, 3) := by decide +kernel
theorem d_m_sizeOf_10 : decode prog_5_method_5_code 10 = .ok (.iload_n 2, 1) := by decide +kernel
theorem d_m_sizeOf_11 : decode prog_5_method_5_code 11 = .ok (.aload_n 0, 1) := by decide +kernel
theorem d_m_sizeOf_12 : decode prog_5_method_5_code 12 = .ok (.getfield 17, 3) := by decide +kernel
theorem d_m_sizeOf_15 : decode prog_5_method_5_code 15 = .ok (.bipush 100, 2) := by decide +kernel
theorem d_m_sizeOf_17 : decode prog_5_method_5_code 17 = .ok (.iload_n 1, 1) := by decide +kernel
theorem d_m_sizeOf_18 : decode prog_5_method_5_code 18 = .ok (.imul, 1) := by decide +kernel
theorem d_m_sizeOf_19 : decode prog_5_method_5_code 19 = .ok (.iload_n 3, 1) := by decide +kernel
theorem d_m_sizeOf_20 : decode prog_5_method_5_code 20 = .ok (.iadd, 1) := by decide +kernel
theorem d_m_sizeOf_21 : decode prog_5_method_5_code 21 = .ok (.iaload, 1) := by decide +kernel
theorem d_m_sizeOf_22 : decode prog_5_method_5_code 22 = .ok (.ifCond .le 7, 3) := by decide +kernel
theorem d_m_sizeOf_25 : decode prog_5_method_5_code 25 = .ok (.iconst 1, 1) := by decide +kernel
theorem d_m_sizeOf_26 : decode prog_5_method_5_code 26 = .ok (.goto 4, 3) := by decide +kernel
theorem d_m_sizeOf_29 : decode prog_5_method_5_code 29 = .ok (.iconst 0, 1) := by decide +kernel
theorem d_m_sizeOf_30 : decode prog_5_method_5_code 30 = .ok (.iadd, 1) := by decide +kernel
theorem d_m_sizeOf_31 : decode prog_5_method_5_code 31 = .ok (.istore_n 2, 1) := by decide +kernel
theorem d_m_sizeOf_32 : decode prog_5_method_5_code 32 = .ok (.iinc 3 1, 3) := by decide +kernel
theorem d_m_sizeOf_35 : decode prog_5_method_5_code 35 = .ok (.goto (-31), 3) := by decide +kernel
theorem d_m_sizeOf_38 : decode prog_5_method_5_code 38 = .ok (.iload_n 2, 1) := by decide +kernel
theorem d_m_sizeOf_39 : decode prog_5_method_5_code 39 = .ok (.ireturn, 1) := by decide +kernel
abbrev M_m_flushed : rsM := (⟨"RunStoreModel", "flushed", "()I"⟩, prog_5_method_16_code, 2, some .int, [])
theorem d_m_flushed_0 : decode prog_5_method_16_code 0 = .ok (.aload_n 0, 1) := by decide +kernel
theorem d_m_flushed_1 : decode prog_5_method_16_code 1 = .ok (.bipush 12, 2) := by decide +kernel
theorem d_m_flushed_3 : decode prog_5_method_16_code 3 = .ok (.invokevirtual 32, 3) := by decide +kernel
theorem d_m_flushed_6 : decode prog_5_method_16_code 6 = .ok (.istore_n 1, 1) := by decide +kernel
theorem d_m_flushed_7 : decode prog_5_method_16_code 7 = .ok (.iload_n 1, 1) := by decide +kernel
theorem d_m_flushed_8 : decode prog_5_method_16_code 8 = .ok (.ifCond .ne 5, 3) := by decide +kernel
theorem d_m_flushed_11 : decode prog_5_method_16_code 11 = .ok (.iconst 0, 1) := by decide +kernel
theorem d_m_flushed_12 : decode prog_5_method_16_code 12 = .ok (.ireturn, 1) := by decide +kernel
theorem d_m_flushed_13 : decode prog_5_method_16_code 13 = .ok (.aload_n 0, 1) := by decide +kernel
theorem d_m_flushed_14 : decode prog_5_method_16_code 14 = .ok (.getfield 29, 3) := by decide +kernel
theorem d_m_flushed_17 : decode prog_5_method_16_code 17 = .ok (.bipush 12, 2) := by decide +kernel
theorem d_m_flushed_19 : decode prog_5_method_16_code 19 = .ok (.if_icmp .eq 14, 3) := by decide +kernel
theorem d_m_flushed_22 : decode prog_5_method_16_code 22 = .ok (.iload_n 1, 1) := by decide +kernel
theorem d_m_flushed_23 : decode prog_5_method_16_code 23 = .ok (.invokestatic 36, 3) := by decide +kernel
theorem d_m_flushed_26 : decode prog_5_method_16_code 26 = .ok (.aload_n 0, 1) := by decide +kernel
theorem d_m_flushed_27 : decode prog_5_method_16_code 27 = .ok (.invokevirtual 57, 3) := by decide +kernel
theorem d_m_flushed_30 : decode prog_5_method_16_code 30 = .ok (.if_icmp .le 5, 3) := by decide +kernel
theorem d_m_flushed_33 : decode prog_5_method_16_code 33 = .ok (.iconst 2, 1) := by decide +kernel
theorem d_m_flushed_34 : decode prog_5_method_16_code 34 = .ok (.ireturn, 1) := by decide +kernel
theorem d_m_flushed_35 : decode prog_5_method_16_code 35 = .ok (.aload_n 0, 1) := by decide +kernel
theorem d_m_flushed_36 : decode prog_5_method_16_code 36 = .ok (.iload_n 1, 1) := by decide +kernel
theorem d_m_flushed_37 : decode prog_5_method_16_code 37 = .ok (.invokestatic 36, 3) := by decide +kernel
theorem d_m_flushed_40 : decode prog_5_method_16_code 40 = .ok (.iconst 1, 1) := by decide +kernel
theorem d_m_flushed_41 : decode prog_5_method_16_code 41 = .ok (.iadd, 1) := by decide +kernel
theorem d_m_flushed_42 : decode prog_5_method_16_code 42 = .ok (.invokevirtual 61, 3) := by decide +kernel
theorem d_m_flushed_45 : decode prog_5_method_16_code 45 = .ok (.ifCond .ne 5, 3) := by decide +kernel
theorem d_m_flushed_48 : decode prog_5_method_16_code 48 = .ok (.iconst 1, 1) := by decide +kernel
theorem d_m_flushed_49 : decode prog_5_method_16_code 49 = .ok (.ireturn, 1) := by decide +kernel
theorem d_m_flushed_50 : decode prog_5_method_16_code 50 = .ok (.aload_n 0, 1) := by decide +kernel
theorem d_m_flushed_51 : decode prog_5_method_16_code 51 = .ok (.bipush 12, 2) := by decide +kernel
theorem d_m_flushed_53 : decode prog_5_method_16_code 53 = .ok (.bipush 13, 2) := by decide +kernel
theorem d_m_flushed_55 : decode prog_5_method_16_code 55 = .ok (.invokevirtual 53, 3) := by decide +kernel
theorem d_m_flushed_58 : decode prog_5_method_16_code 58 = .ok (.aload_n 0, 1) := by decide +kernel
theorem d_m_flushed_59 : decode prog_5_method_16_code 59 = .ok (.bipush 12, 2) := by decide +kernel
theorem d_m_flushed_61 : decode prog_5_method_16_code 61 = .ok (.invokevirtual 46, 3) := by decide +kernel
theorem d_m_flushed_64 : decode prog_5_method_16_code 64 = .ok (.aload_n 0, 1) := by decide +kernel
theorem d_m_flushed_65 : decode prog_5_method_16_code 65 = .ok (.iconst 0, 1) := by decide +kernel
theorem d_m_flushed_66 : decode prog_5_method_16_code 66 = .ok (.iconst 0, 1) := by decide +kernel
theorem d_m_flushed_67 : decode prog_5_method_16_code 67 = .ok (.invokevirtual 65, 3) := by decide +kernel
theorem d_m_flushed_70 : decode prog_5_method_16_code 70 = .ok (.iconst 0, 1) := by decide +kernel
theorem d_m_flushed_71 : decode prog_5_method_16_code 71 = .ok (.ireturn, 1) := by decide +kernel
abbrev M_m_blocksFor : rsM := (⟨"RunStoreModel", "blocksFor", "(I)I"⟩, prog_5_method_6_code, 1, some .int, [])
theorem d_m_blocksFor_0 : decode prog_5_method_6_code 0 = .ok (.iload_n 0, 1) := by decide +kernel
theorem d_m_blocksFor_1 : decode prog_5_method_6_code 1 = .ok (.iconst 3, 1) := by decide +kernel
theorem d_m_blocksFor_2 : decode prog_5_method_6_code 2 = .ok (.iadd, 1) := by decide +kernel
theorem d_m_blocksFor_3 : decode prog_5_method_6_code 3 = .ok (.iconst 4, 1) := by decide +kernel
theorem d_m_blocksFor_4 : decode prog_5_method_6_code 4 = .ok (.idiv, 1) := by decide +kernel
theorem d_m_blocksFor_5 : decode prog_5_method_6_code 5 = .ok (.ireturn, 1) := by decide +kernel
abbrev M_m_freeBlocks : rsM := (⟨"RunStoreModel", "freeBlocks", "()I"⟩, prog_5_method_7_code, 3, some .int, [])
theorem d_m_freeBlocks_0 : decode prog_5_method_7_code 0 = .ok (.bipush 40, 2) := by decide +kernel
theorem d_m_freeBlocks_2 : decode prog_5_method_7_code 2 = .ok (.istore_n 1, 1) := by decide +kernel
theorem d_m_freeBlocks_3 : decode prog_5_method_7_code 3 = .ok (.iconst 0, 1) := by decide +kernel
theorem d_m_freeBlocks_4 : decode prog_5_method_7_code 4 = .ok (.istore_n 2, 1) := by decide +kernel
theorem d_m_freeBlocks_5 : decode prog_5_method_7_code 5 = .ok (.iload_n 2, 1) := by decide +kernel
theorem d_m_freeBlocks_6 : decode prog_5_method_7_code 6 = .ok (.aload_n 0, 1) := by decide +kernel
theorem d_m_freeBlocks_7 : decode prog_5_method_7_code 7 = .ok (.getfield 29, 3) := by decide +kernel
theorem d_m_freeBlocks_10 : decode prog_5_method_7_code 10 = .ok (.if_icmp .ge 20, 3) := by decide +kernel
theorem d_m_freeBlocks_13 : decode prog_5_method_7_code 13 = .ok (.iload_n 1, 1) := by decide +kernel
theorem d_m_freeBlocks_14 : decode prog_5_method_7_code 14 = .ok (.aload_n 0, 1) := by decide +kernel
theorem d_m_freeBlocks_15 : decode prog_5_method_7_code 15 = .ok (.iload_n 2, 1) := by decide +kernel
theorem d_m_freeBlocks_16 : decode prog_5_method_7_code 16 = .ok (.invokevirtual 32, 3) := by decide +kernel
theorem d_m_freeBlocks_19 : decode prog_5_method_7_code 19 = .ok (.invokestatic 36, 3) := by decide +kernel
theorem d_m_freeBlocks_22 : decode prog_5_method_7_code 22 = .ok (.isub, 1) := by decide +kernel
theorem d_m_freeBlocks_23 : decode prog_5_method_7_code 23 = .ok (.istore_n 1, 1) := by decide +kernel
theorem d_m_freeBlocks_24 : decode prog_5_method_7_code 24 = .ok (.iinc 2 1, 3) := by decide +kernel
theorem d_m_freeBlocks_27 : decode prog_5_method_7_code 27 = .ok (.goto (-22), 3) := by decide +kernel
theorem d_m_freeBlocks_30 : decode prog_5_method_7_code 30 = .ok (.iload_n 1, 1) := by decide +kernel
theorem d_m_freeBlocks_31 : decode prog_5_method_7_code 31 = .ok (.ireturn, 1) := by decide +kernel
abbrev M_m_copyRow : rsM := (⟨"RunStoreModel", "copyRow", "(II)V"⟩, prog_5_method_4_code, 4, none, [])
theorem d_m_copyRow_0 : decode prog_5_method_4_code 0 = .ok (.iconst 0, 1) := by decide +kernel
theorem d_m_copyRow_1 : decode prog_5_method_4_code 1 = .ok (.istore_n 3, 1) := by decide +kernel
theorem d_m_copyRow_2 : decode prog_5_method_4_code 2 = .ok (.iload_n 3, 1) := by decide +kernel
theorem d_m_copyRow_3 : decode prog_5_method_4_code 3 = .ok (.bipush 100, 2) := by decide +kernel
theorem d_m_copyRow_5 : decode prog_5_method_4_code 5 = .ok (.if_icmp .ge 53, 3) := by decide +kernel
theorem d_m_copyRow_8 : decode prog_5_method_4_code 8 = .ok (.aload_n 0, 1) := by decide +kernel
theorem d_m_copyRow_9 : decode prog_5_method_4_code 9 = .ok (.getfield 17, 3) := by decide +kernel
theorem d_m_copyRow_12 : decode prog_5_method_4_code 12 = .ok (.bipush 100, 2) := by decide +kernel
theorem d_m_copyRow_14 : decode prog_5_method_4_code 14 = .ok (.iload_n 2, 1) := by decide +kernel
theorem d_m_copyRow_15 : decode prog_5_method_4_code 15 = .ok (.imul, 1) := by decide +kernel
theorem d_m_copyRow_16 : decode prog_5_method_4_code 16 = .ok (.iload_n 3, 1) := by decide +kernel
theorem d_m_copyRow_17 : decode prog_5_method_4_code 17 = .ok (.iadd, 1) := by decide +kernel
theorem d_m_copyRow_18 : decode prog_5_method_4_code 18 = .ok (.aload_n 0, 1) := by decide +kernel
theorem d_m_copyRow_19 : decode prog_5_method_4_code 19 = .ok (.getfield 17, 3) := by decide +kernel
theorem d_m_copyRow_22 : decode prog_5_method_4_code 22 = .ok (.bipush 100, 2) := by decide +kernel
theorem d_m_copyRow_24 : decode prog_5_method_4_code 24 = .ok (.iload_n 1, 1) := by decide +kernel
theorem d_m_copyRow_25 : decode prog_5_method_4_code 25 = .ok (.imul, 1) := by decide +kernel
theorem d_m_copyRow_26 : decode prog_5_method_4_code 26 = .ok (.iload_n 3, 1) := by decide +kernel
theorem d_m_copyRow_27 : decode prog_5_method_4_code 27 = .ok (.iadd, 1) := by decide +kernel
theorem d_m_copyRow_28 : decode prog_5_method_4_code 28 = .ok (.iaload, 1) := by decide +kernel
theorem d_m_copyRow_29 : decode prog_5_method_4_code 29 = .ok (.iastore, 1) := by decide +kernel
theorem d_m_copyRow_30 : decode prog_5_method_4_code 30 = .ok (.aload_n 0, 1) := by decide +kernel
theorem d_m_copyRow_31 : decode prog_5_method_4_code 31 = .ok (.getfield 20, 3) := by decide +kernel
theorem d_m_copyRow_34 : decode prog_5_method_4_code 34 = .ok (.bipush 100, 2) := by decide +kernel
theorem d_m_copyRow_36 : decode prog_5_method_4_code 36 = .ok (.iload_n 2, 1) := by decide +kernel
theorem d_m_copyRow_37 : decode prog_5_method_4_code 37 = .ok (.imul, 1) := by decide +kernel
theorem d_m_copyRow_38 : decode prog_5_method_4_code 38 = .ok (.iload_n 3, 1) := by decide +kernel
theorem d_m_copyRow_39 : decode prog_5_method_4_code 39 = .ok (.iadd, 1) := by decide +kernel
theorem d_m_copyRow_40 : decode prog_5_method_4_code 40 = .ok (.aload_n 0, 1) := by decide +kernel
theorem d_m_copyRow_41 : decode prog_5_method_4_code 41 = .ok (.getfield 20, 3) := by decide +kernel
theorem d_m_copyRow_44 : decode prog_5_method_4_code 44 = .ok (.bipush 100, 2) := by decide +kernel
theorem d_m_copyRow_46 : decode prog_5_method_4_code 46 = .ok (.iload_n 1, 1) := by decide +kernel
theorem d_m_copyRow_47 : decode prog_5_method_4_code 47 = .ok (.imul, 1) := by decide +kernel
theorem d_m_copyRow_48 : decode prog_5_method_4_code 48 = .ok (.iload_n 3, 1) := by decide +kernel
theorem d_m_copyRow_49 : decode prog_5_method_4_code 49 = .ok (.iadd, 1) := by decide +kernel
theorem d_m_copyRow_50 : decode prog_5_method_4_code 50 = .ok (.iaload, 1) := by decide +kernel
theorem d_m_copyRow_51 : decode prog_5_method_4_code 51 = .ok (.iastore, 1) := by decide +kernel
theorem d_m_copyRow_52 : decode prog_5_method_4_code 52 = .ok (.iinc 3 1, 3) := by decide +kernel
theorem d_m_copyRow_55 : decode prog_5_method_4_code 55 = .ok (.goto (-53), 3) := by decide +kernel
theorem d_m_copyRow_58 : decode prog_5_method_4_code 58 = .ok (.return_, 1) := by decide +kernel
abbrev M_m_insert : rsM := (⟨"RunStoreModel", "insert", "(II)V"⟩, prog_5_method_14_code, 4, none, [])
theorem d_m_insert_0 : decode prog_5_method_14_code 0 = .ok (.aload_n 0, 1) := by decide +kernel
theorem d_m_insert_1 : decode prog_5_method_14_code 1 = .ok (.getfield 29, 3) := by decide +kernel
theorem d_m_insert_4 : decode prog_5_method_14_code 4 = .ok (.istore_n 3, 1) := by decide +kernel
theorem d_m_insert_5 : decode prog_5_method_14_code 5 = .ok (.iload_n 3, 1) := by decide +kernel
theorem d_m_insert_6 : decode prog_5_method_14_code 6 = .ok (.iload_n 1, 1) := by decide +kernel
theorem d_m_insert_7 : decode prog_5_method_14_code 7 = .ok (.if_icmp .le 31, 3) := by decide +kernel
theorem d_m_insert_10 : decode prog_5_method_14_code 10 = .ok (.aload_n 0, 1) := by decide +kernel
theorem d_m_insert_11 : decode prog_5_method_14_code 11 = .ok (.iload_n 3, 1) := by decide +kernel
theorem d_m_insert_12 : decode prog_5_method_14_code 12 = .ok (.iconst 1, 1) := by decide +kernel
theorem d_m_insert_13 : decode prog_5_method_14_code 13 = .ok (.isub, 1) := by decide +kernel
theorem d_m_insert_14 : decode prog_5_method_14_code 14 = .ok (.iload_n 3, 1) := by decide +kernel
theorem d_m_insert_15 : decode prog_5_method_14_code 15 = .ok (.invokevirtual 53, 3) := by decide +kernel
theorem d_m_insert_18 : decode prog_5_method_14_code 18 = .ok (.aload_n 0, 1) := by decide +kernel
theorem d_m_insert_19 : decode prog_5_method_14_code 19 = .ok (.getfield 13, 3) := by decide +kernel
theorem d_m_insert_22 : decode prog_5_method_14_code 22 = .ok (.iload_n 3, 1) := by decide +kernel
theorem d_m_insert_23 : decode prog_5_method_14_code 23 = .ok (.aload_n 0, 1) := by decide +kernel
theorem d_m_insert_24 : decode prog_5_method_14_code 24 = .ok (.getfield 13, 3) := by decide +kernel
theorem d_m_insert_27 : decode prog_5_method_14_code 27 = .ok (.iload_n 3, 1) := by decide +kernel
theorem d_m_insert_28 : decode prog_5_method_14_code 28 = .ok (.iconst 1, 1) := by decide +kernel
theorem d_m_insert_29 : decode prog_5_method_14_code 29 = .ok (.isub, 1) := by decide +kernel
theorem d_m_insert_30 : decode prog_5_method_14_code 30 = .ok (.iaload, 1) := by decide +kernel
theorem d_m_insert_31 : decode prog_5_method_14_code 31 = .ok (.iastore, 1) := by decide +kernel
theorem d_m_insert_32 : decode prog_5_method_14_code 32 = .ok (.iinc 3 (-1), 3) := by decide +kernel
theorem d_m_insert_35 : decode prog_5_method_14_code 35 = .ok (.goto (-30), 3) := by decide +kernel
theorem d_m_insert_38 : decode prog_5_method_14_code 38 = .ok (.aload_n 0, 1) := by decide +kernel
theorem d_m_insert_39 : decode prog_5_method_14_code 39 = .ok (.bipush 13, 2) := by decide +kernel
theorem d_m_insert_41 : decode prog_5_method_14_code 41 = .ok (.iload_n 1, 1) := by decide +kernel
theorem d_m_insert_42 : decode prog_5_method_14_code 42 = .ok (.invokevirtual 53, 3) := by decide +kernel
theorem d_m_insert_45 : decode prog_5_method_14_code 45 = .ok (.aload_n 0, 1) := by decide +kernel
theorem d_m_insert_46 : decode prog_5_method_14_code 46 = .ok (.getfield 13, 3) := by decide +kernel
theorem d_m_insert_49 : decode prog_5_method_14_code 49 = .ok (.iload_n 1, 1) := by decide +kernel
theorem d_m_insert_50 : decode prog_5_method_14_code 50 = .ok (.iload_n 2, 1) := by decide +kernel
theorem d_m_insert_51 : decode prog_5_method_14_code 51 = .ok (.iastore, 1) := by decide +kernel
theorem d_m_insert_52 : decode prog_5_method_14_code 52 = .ok (.aload_n 0, 1) := by decide +kernel
theorem d_m_insert_53 : decode prog_5_method_14_code 53 = .ok (.dup, 1) := by decide +kernel
theorem d_m_insert_54 : decode prog_5_method_14_code 54 = .ok (.getfield 29, 3) := by decide +kernel
theorem d_m_insert_57 : decode prog_5_method_14_code 57 = .ok (.iconst 1, 1) := by decide +kernel
theorem d_m_insert_58 : decode prog_5_method_14_code 58 = .ok (.iadd, 1) := by decide +kernel
theorem d_m_insert_59 : decode prog_5_method_14_code 59 = .ok (.putfield 29, 3) := by decide +kernel
theorem d_m_insert_62 : decode prog_5_method_14_code 62 = .ok (.return_, 1) := by decide +kernel
abbrev M_m_remove : rsM := (⟨"RunStoreModel", "remove", "(I)Z"⟩, prog_5_method_23_code, 3, some .boolean, [])
theorem d_m_remove_0 : decode prog_5_method_23_code 0 = .ok (.iload_n 1, 1) := by decide +kernel
theorem d_m_remove_1 : decode prog_5_method_23_code 1 = .ok (.invokestatic 80, 3) := by decide +kernel
theorem d_m_remove_4 : decode prog_5_method_23_code 4 = .ok (.ifCond .eq 15, 3) := by decide +kernel
theorem d_m_remove_7 : decode prog_5_method_23_code 7 = .ok (.aload_n 0, 1) := by decide +kernel
theorem d_m_remove_8 : decode prog_5_method_23_code 8 = .ok (.iload_n 1, 1) := by decide +kernel
theorem d_m_remove_9 : decode prog_5_method_23_code 9 = .ok (.invokevirtual 90, 3) := by decide +kernel
theorem d_m_remove_12 : decode prog_5_method_23_code 12 = .ok (.ifCond .eq 7, 3) := by decide +kernel
theorem d_m_remove_15 : decode prog_5_method_23_code 15 = .ok (.iconst 1, 1) := by decide +kernel
theorem d_m_remove_16 : decode prog_5_method_23_code 16 = .ok (.goto 4, 3) := by decide +kernel
theorem d_m_remove_19 : decode prog_5_method_23_code 19 = .ok (.iconst 0, 1) := by decide +kernel
theorem d_m_remove_20 : decode prog_5_method_23_code 20 = .ok (.istore_n 2, 1) := by decide +kernel
theorem d_m_remove_21 : decode prog_5_method_23_code 21 = .ok (.aload_n 0, 1) := by decide +kernel
theorem d_m_remove_22 : decode prog_5_method_23_code 22 = .ok (.iload_n 1, 1) := by decide +kernel
theorem d_m_remove_23 : decode prog_5_method_23_code 23 = .ok (.iconst 0, 1) := by decide +kernel
theorem d_m_remove_24 : decode prog_5_method_23_code 24 = .ok (.iconst 2, 1) := by decide +kernel
theorem d_m_remove_25 : decode prog_5_method_23_code 25 = .ok (.invokevirtual 86, 3) := by decide +kernel
theorem d_m_remove_28 : decode prog_5_method_23_code 28 = .ok (.aload_n 0, 1) := by decide +kernel
theorem d_m_remove_29 : decode prog_5_method_23_code 29 = .ok (.getfield 26, 3) := by decide +kernel
theorem d_m_remove_32 : decode prog_5_method_23_code 32 = .ok (.ifCond .ne 11, 3) := by decide +kernel
theorem d_m_remove_35 : decode prog_5_method_23_code 35 = .ok (.iload_n 2, 1) := by decide +kernel
theorem d_m_remove_36 : decode prog_5_method_23_code 36 = .ok (.ifCond .eq 7, 3) := by decide +kernel
theorem d_m_remove_39 : decode prog_5_method_23_code 39 = .ok (.iconst 1, 1) := by decide +kernel
theorem d_m_remove_40 : decode prog_5_method_23_code 40 = .ok (.goto 4, 3) := by decide +kernel
theorem d_m_remove_43 : decode prog_5_method_23_code 43 = .ok (.iconst 0, 1) := by decide +kernel
theorem d_m_remove_44 : decode prog_5_method_23_code 44 = .ok (.ireturn, 1) := by decide +kernel
abbrev M_m_isThere : rsM := (⟨"RunStoreModel", "isThere", "(I)Z"⟩, prog_5_method_11_code, 3, some .boolean, [])
theorem d_m_isThere_0 : decode prog_5_method_11_code 0 = .ok (.aload_n 0, 1) := by decide +kernel
theorem d_m_isThere_1 : decode prog_5_method_11_code 1 = .ok (.iload_n 1, 1) := by decide +kernel
theorem d_m_isThere_2 : decode prog_5_method_11_code 2 = .ok (.invokevirtual 39, 3) := by decide +kernel
theorem d_m_isThere_5 : decode prog_5_method_11_code 5 = .ok (.istore_n 2, 1) := by decide +kernel
theorem d_m_isThere_6 : decode prog_5_method_11_code 6 = .ok (.iload_n 2, 1) := by decide +kernel
theorem d_m_isThere_7 : decode prog_5_method_11_code 7 = .ok (.ifCond .lt 22, 3) := by decide +kernel
theorem d_m_isThere_10 : decode prog_5_method_11_code 10 = .ok (.aload_n 0, 1) := by decide +kernel
theorem d_m_isThere_11 : decode prog_5_method_11_code 11 = .ok (.getfield 17, 3) := by decide +kernel
theorem d_m_isThere_14 : decode prog_5_method_11_code 14 = .ok (.bipush 100, 2) := by decide +kernel
theorem d_m_isThere_16 : decode prog_5_method_11_code 16 = .ok (.iload_n 2, 1) := by decide +kernel
theorem d_m_isThere_17 : decode prog_5_method_11_code 17 = .ok (.imul, 1) := by decide +kernel
theorem d_m_isThere_18 : decode prog_5_method_11_code 18 = .ok (.iload_n 1, 1) := by decide +kernel
theorem d_m_isThere_19 : decode prog_5_method_11_code 19 = .ok (.iadd, 1) := by decide +kernel
theorem d_m_isThere_20 : decode prog_5_method_11_code 20 = .ok (.iaload, 1) := by decide +kernel
theorem d_m_isThere_21 : decode prog_5_method_11_code 21 = .ok (.iconst 1, 1) := by decide +kernel
theorem d_m_isThere_22 : decode prog_5_method_11_code 22 = .ok (.if_icmp .ne 7, 3) := by decide +kernel
theorem d_m_isThere_25 : decode prog_5_method_11_code 25 = .ok (.iconst 1, 1) := by decide +kernel
theorem d_m_isThere_26 : decode prog_5_method_11_code 26 = .ok (.goto 4, 3) := by decide +kernel
theorem d_m_isThere_29 : decode prog_5_method_11_code 29 = .ok (.iconst 0, 1) := by decide +kernel
theorem d_m_isThere_30 : decode prog_5_method_11_code 30 = .ok (.ireturn, 1) := by decide +kernel
abbrev M_m_newest : rsM := (⟨"RunStoreModel", "newest", "(I)I"⟩, prog_5_method_10_code, 3, some .int, [])
theorem d_m_newest_0 : decode prog_5_method_10_code 0 = .ok (.aload_n 0, 1) := by decide +kernel
theorem d_m_newest_1 : decode prog_5_method_10_code 1 = .ok (.getfield 17, 3) := by decide +kernel
theorem d_m_newest_4 : decode prog_5_method_10_code 4 = .ok (.sipush 1200, 3) := by decide +kernel
theorem d_m_newest_7 : decode prog_5_method_10_code 7 = .ok (.iload_n 1, 1) := by decide +kernel
theorem d_m_newest_8 : decode prog_5_method_10_code 8 = .ok (.iadd, 1) := by decide +kernel
theorem d_m_newest_9 : decode prog_5_method_10_code 9 = .ok (.iaload, 1) := by decide +kernel
theorem d_m_newest_10 : decode prog_5_method_10_code 10 = .ok (.ifCond .le 6, 3) := by decide +kernel
theorem d_m_newest_13 : decode prog_5_method_10_code 13 = .ok (.bipush 12, 2) := by decide +kernel
theorem d_m_newest_15 : decode prog_5_method_10_code 15 = .ok (.ireturn, 1) := by decide +kernel
theorem d_m_newest_16 : decode prog_5_method_10_code 16 = .ok (.iconst 0, 1) := by decide +kernel
theorem d_m_newest_17 : decode prog_5_method_10_code 17 = .ok (.istore_n 2, 1) := by decide +kernel
theorem d_m_newest_18 : decode prog_5_method_10_code 18 = .ok (.iload_n 2, 1) := by decide +kernel
theorem d_m_newest_19 : decode prog_5_method_10_code 19 = .ok (.aload_n 0, 1) := by decide +kernel
theorem d_m_newest_20 : decode prog_5_method_10_code 20 = .ok (.getfield 29, 3) := by decide +kernel
theorem d_m_newest_23 : decode prog_5_method_10_code 23 = .ok (.if_icmp .ge 25, 3) := by decide +kernel
theorem d_m_newest_26 : decode prog_5_method_10_code 26 = .ok (.aload_n 0, 1) := by decide +kernel
theorem d_m_newest_27 : decode prog_5_method_10_code 27 = .ok (.getfield 17, 3) := by decide +kernel
theorem d_m_newest_30 : decode prog_5_method_10_code 30 = .ok (.bipush 100, 2) := by decide +kernel
theorem d_m_newest_32 : decode prog_5_method_10_code 32 = .ok (.iload_n 2, 1) := by decide +kernel
theorem d_m_newest_33 : decode prog_5_method_10_code 33 = .ok (.imul, 1) := by decide +kernel
theorem d_m_newest_34 : decode prog_5_method_10_code 34 = .ok (.iload_n 1, 1) := by decide +kernel
theorem d_m_newest_35 : decode prog_5_method_10_code 35 = .ok (.iadd, 1) := by decide +kernel
theorem d_m_newest_36 : decode prog_5_method_10_code 36 = .ok (.iaload, 1) := by decide +kernel
theorem d_m_newest_37 : decode prog_5_method_10_code 37 = .ok (.ifCond .le 5, 3) := by decide +kernel
theorem d_m_newest_40 : decode prog_5_method_10_code 40 = .ok (.iload_n 2, 1) := by decide +kernel
theorem d_m_newest_41 : decode prog_5_method_10_code 41 = .ok (.ireturn, 1) := by decide +kernel
theorem d_m_newest_42 : decode prog_5_method_10_code 42 = .ok (.iinc 2 1, 3) := by decide +kernel
theorem d_m_newest_45 : decode prog_5_method_10_code 45 = .ok (.goto (-27), 3) := by decide +kernel
theorem d_m_newest_48 : decode prog_5_method_10_code 48 = .ok (.iconst (-1), 1) := by decide +kernel
theorem d_m_newest_49 : decode prog_5_method_10_code 49 = .ok (.ireturn, 1) := by decide +kernel
abbrev M_m_get : rsM := (⟨"RunStoreModel", "get", "(I)I"⟩, prog_5_method_24_code, 2, some .int, [])
theorem d_m_get_0 : decode prog_5_method_24_code 0 = .ok (.aload_n 0, 1) := by decide +kernel
theorem d_m_get_1 : decode prog_5_method_24_code 1 = .ok (.iload_n 1, 1) := by decide +kernel
theorem d_m_get_2 : decode prog_5_method_24_code 2 = .ok (.invokestatic 80, 3) := by decide +kernel
theorem d_m_get_5 : decode prog_5_method_24_code 5 = .ok (.ifCond .ne 7, 3) := by decide +kernel
theorem d_m_get_8 : decode prog_5_method_24_code 8 = .ok (.iconst 1, 1) := by decide +kernel
theorem d_m_get_9 : decode prog_5_method_24_code 9 = .ok (.goto 27, 3) := by decide +kernel
theorem d_m_get_12 : decode prog_5_method_24_code 12 = .ok (.aload_n 0, 1) := by decide +kernel
theorem d_m_get_13 : decode prog_5_method_24_code 13 = .ok (.getfield 42, 3) := by decide +kernel
theorem d_m_get_16 : decode prog_5_method_24_code 16 = .ok (.ifCond .ne 7, 3) := by decide +kernel
theorem d_m_get_19 : decode prog_5_method_24_code 19 = .ok (.iconst 2, 1) := by decide +kernel
theorem d_m_get_20 : decode prog_5_method_24_code 20 = .ok (.goto 16, 3) := by decide +kernel
theorem d_m_get_23 : decode prog_5_method_24_code 23 = .ok (.aload_n 0, 1) := by decide +kernel
theorem d_m_get_24 : decode prog_5_method_24_code 24 = .ok (.iload_n 1, 1) := by decide +kernel
theorem d_m_get_25 : decode prog_5_method_24_code 25 = .ok (.invokevirtual 90, 3) := by decide +kernel
theorem d_m_get_28 : decode prog_5_method_24_code 28 = .ok (.ifCond .ne 7, 3) := by decide +kernel
theorem d_m_get_31 : decode prog_5_method_24_code 31 = .ok (.iconst 3, 1) := by decide +kernel
theorem d_m_get_32 : decode prog_5_method_24_code 32 = .ok (.goto 4, 3) := by decide +kernel
theorem d_m_get_35 : decode prog_5_method_24_code 35 = .ok (.iconst 0, 1) := by decide +kernel
theorem d_m_get_36 : decode prog_5_method_24_code 36 = .ok (.putfield 26, 3) := by decide +kernel
theorem d_m_get_39 : decode prog_5_method_24_code 39 = .ok (.aload_n 0, 1) := by decide +kernel
theorem d_m_get_40 : decode prog_5_method_24_code 40 = .ok (.getfield 26, 3) := by decide +kernel
theorem d_m_get_43 : decode prog_5_method_24_code 43 = .ok (.ifCond .ne 21, 3) := by decide +kernel
theorem d_m_get_46 : decode prog_5_method_24_code 46 = .ok (.aload_n 0, 1) := by decide +kernel
theorem d_m_get_47 : decode prog_5_method_24_code 47 = .ok (.getfield 20, 3) := by decide +kernel
theorem d_m_get_50 : decode prog_5_method_24_code 50 = .ok (.bipush 100, 2) := by decide +kernel
theorem d_m_get_52 : decode prog_5_method_24_code 52 = .ok (.aload_n 0, 1) := by decide +kernel
theorem d_m_get_53 : decode prog_5_method_24_code 53 = .ok (.iload_n 1, 1) := by decide +kernel
theorem d_m_get_54 : decode prog_5_method_24_code 54 = .ok (.invokevirtual 39, 3) := by decide +kernel
theorem d_m_get_57 : decode prog_5_method_24_code 57 = .ok (.imul, 1) := by decide +kernel
theorem d_m_get_58 : decode prog_5_method_24_code 58 = .ok (.iload_n 1, 1) := by decide +kernel
theorem d_m_get_59 : decode prog_5_method_24_code 59 = .ok (.iadd, 1) := by decide +kernel
theorem d_m_get_60 : decode prog_5_method_24_code 60 = .ok (.iaload, 1) := by decide +kernel
theorem d_m_get_61 : decode prog_5_method_24_code 61 = .ok (.goto 4, 3) := by decide +kernel
theorem d_m_get_64 : decode prog_5_method_24_code 64 = .ok (.iconst 0, 1) := by decide +kernel
theorem d_m_get_65 : decode prog_5_method_24_code 65 = .ok (.ireturn, 1) := by decide +kernel
abbrev M_m_has : rsM := (⟨"RunStoreModel", "has", "(I)Z"⟩, prog_5_method_25_code, 2, some .boolean, [])
theorem d_m_has_0 : decode prog_5_method_25_code 0 = .ok (.aload_n 0, 1) := by decide +kernel
theorem d_m_has_1 : decode prog_5_method_25_code 1 = .ok (.iload_n 1, 1) := by decide +kernel
theorem d_m_has_2 : decode prog_5_method_25_code 2 = .ok (.invokestatic 80, 3) := by decide +kernel
theorem d_m_has_5 : decode prog_5_method_25_code 5 = .ok (.ifCond .ne 7, 3) := by decide +kernel
theorem d_m_has_8 : decode prog_5_method_25_code 8 = .ok (.iconst 1, 1) := by decide +kernel
theorem d_m_has_9 : decode prog_5_method_25_code 9 = .ok (.goto 15, 3) := by decide +kernel
theorem d_m_has_12 : decode prog_5_method_25_code 12 = .ok (.aload_n 0, 1) := by decide +kernel
theorem d_m_has_13 : decode prog_5_method_25_code 13 = .ok (.getfield 42, 3) := by decide +kernel
theorem d_m_has_16 : decode prog_5_method_25_code 16 = .ok (.ifCond .ne 7, 3) := by decide +kernel
theorem d_m_has_19 : decode prog_5_method_25_code 19 = .ok (.iconst 2, 1) := by decide +kernel
theorem d_m_has_20 : decode prog_5_method_25_code 20 = .ok (.goto 4, 3) := by decide +kernel
theorem d_m_has_23 : decode prog_5_method_25_code 23 = .ok (.iconst 0, 1) := by decide +kernel
theorem d_m_has_24 : decode prog_5_method_25_code 24 = .ok (.putfield 26, 3) := by decide +kernel
theorem d_m_has_27 : decode prog_5_method_25_code 27 = .ok (.aload_n 0, 1) := by decide +kernel
theorem d_m_has_28 : decode prog_5_method_25_code 28 = .ok (.getfield 26, 3) := by decide +kernel
theorem d_m_has_31 : decode prog_5_method_25_code 31 = .ok (.ifCond .ne 15, 3) := by decide +kernel
theorem d_m_has_34 : decode prog_5_method_25_code 34 = .ok (.aload_n 0, 1) := by decide +kernel
theorem d_m_has_35 : decode prog_5_method_25_code 35 = .ok (.iload_n 1, 1) := by decide +kernel
theorem d_m_has_36 : decode prog_5_method_25_code 36 = .ok (.invokevirtual 90, 3) := by decide +kernel
theorem d_m_has_39 : decode prog_5_method_25_code 39 = .ok (.ifCond .eq 7, 3) := by decide +kernel
theorem d_m_has_42 : decode prog_5_method_25_code 42 = .ok (.iconst 1, 1) := by decide +kernel
theorem d_m_has_43 : decode prog_5_method_25_code 43 = .ok (.goto 4, 3) := by decide +kernel
theorem d_m_has_46 : decode prog_5_method_25_code 46 = .ok (.iconst 0, 1) := by decide +kernel
theorem d_m_has_47 : decode prog_5_method_25_code 47 = .ok (.ireturn, 1) := by decide +kernel
abbrev M_m_flush : rsM := (⟨"RunStoreModel", "flush", "()I"⟩, prog_5_method_26_code, 2, some .int, [])
theorem d_m_flush_0 : decode prog_5_method_26_code 0 = .ok (.aload_n 0, 1) := by decide +kernel
theorem d_m_flush_1 : decode prog_5_method_26_code 1 = .ok (.bipush 12, 2) := by decide +kernel
theorem d_m_flush_3 : decode prog_5_method_26_code 3 = .ok (.invokevirtual 32, 3) := by decide +kernel
theorem d_m_flush_6 : decode prog_5_method_26_code 6 = .ok (.istore_n 1, 1) := by decide +kernel
theorem d_m_flush_7 : decode prog_5_method_26_code 7 = .ok (.aload_n 0, 1) := by decide +kernel
theorem d_m_flush_8 : decode prog_5_method_26_code 8 = .ok (.aload_n 0, 1) := by decide +kernel
theorem d_m_flush_9 : decode prog_5_method_26_code 9 = .ok (.getfield 42, 3) := by decide +kernel
theorem d_m_flush_12 : decode prog_5_method_26_code 12 = .ok (.ifCond .eq 10, 3) := by decide +kernel
theorem d_m_flush_15 : decode prog_5_method_26_code 15 = .ok (.aload_n 0, 1) := by decide +kernel
theorem d_m_flush_16 : decode prog_5_method_26_code 16 = .ok (.invokevirtual 83, 3) := by decide +kernel
theorem d_m_flush_19 : decode prog_5_method_26_code 19 = .ok (.goto 4, 3) := by decide +kernel
theorem d_m_flush_22 : decode prog_5_method_26_code 22 = .ok (.iconst 1, 1) := by decide +kernel
theorem d_m_flush_23 : decode prog_5_method_26_code 23 = .ok (.putfield 26, 3) := by decide +kernel
theorem d_m_flush_26 : decode prog_5_method_26_code 26 = .ok (.aload_n 0, 1) := by decide +kernel
theorem d_m_flush_27 : decode prog_5_method_26_code 27 = .ok (.getfield 26, 3) := by decide +kernel
theorem d_m_flush_30 : decode prog_5_method_26_code 30 = .ok (.ifCond .eq 5, 3) := by decide +kernel
theorem d_m_flush_33 : decode prog_5_method_26_code 33 = .ok (.iconst 0, 1) := by decide +kernel
theorem d_m_flush_34 : decode prog_5_method_26_code 34 = .ok (.ireturn, 1) := by decide +kernel
theorem d_m_flush_35 : decode prog_5_method_26_code 35 = .ok (.aload_n 0, 1) := by decide +kernel
theorem d_m_flush_36 : decode prog_5_method_26_code 36 = .ok (.iconst (-1), 1) := by decide +kernel
theorem d_m_flush_37 : decode prog_5_method_26_code 37 = .ok (.putfield 23, 3) := by decide +kernel
theorem d_m_flush_40 : decode prog_5_method_26_code 40 = .ok (.iload_n 1, 1) := by decide +kernel
theorem d_m_flush_41 : decode prog_5_method_26_code 41 = .ok (.ireturn, 1) := by decide +kernel
abbrev M_m_compact : rsM := (⟨"RunStoreModel", "compact", "()I"⟩, prog_5_method_27_code, 2, some .int, [])
theorem d_m_compact_0 : decode prog_5_method_27_code 0 = .ok (.aload_n 0, 1) := by decide +kernel
theorem d_m_compact_1 : decode prog_5_method_27_code 1 = .ok (.aload_n 0, 1) := by decide +kernel
theorem d_m_compact_2 : decode prog_5_method_27_code 2 = .ok (.getfield 42, 3) := by decide +kernel
theorem d_m_compact_5 : decode prog_5_method_27_code 5 = .ok (.ifCond .eq 7, 3) := by decide +kernel
theorem d_m_compact_8 : decode prog_5_method_27_code 8 = .ok (.iconst 0, 1) := by decide +kernel
theorem d_m_compact_9 : decode prog_5_method_27_code 9 = .ok (.goto 4, 3) := by decide +kernel
theorem d_m_compact_12 : decode prog_5_method_27_code 12 = .ok (.iconst 1, 1) := by decide +kernel
theorem d_m_compact_13 : decode prog_5_method_27_code 13 = .ok (.putfield 26, 3) := by decide +kernel
theorem d_m_compact_16 : decode prog_5_method_27_code 16 = .ok (.aload_n 0, 1) := by decide +kernel
theorem d_m_compact_17 : decode prog_5_method_27_code 17 = .ok (.getfield 26, 3) := by decide +kernel
theorem d_m_compact_20 : decode prog_5_method_27_code 20 = .ok (.ifCond .eq 5, 3) := by decide +kernel
theorem d_m_compact_23 : decode prog_5_method_27_code 23 = .ok (.iconst 0, 1) := by decide +kernel
theorem d_m_compact_24 : decode prog_5_method_27_code 24 = .ok (.ireturn, 1) := by decide +kernel
theorem d_m_compact_25 : decode prog_5_method_27_code 25 = .ok (.iconst 0, 1) := by decide +kernel
theorem d_m_compact_26 : decode prog_5_method_27_code 26 = .ok (.istore_n 1, 1) := by decide +kernel
theorem d_m_compact_27 : decode prog_5_method_27_code 27 = .ok (.iload_n 1, 1) := by decide +kernel
theorem d_m_compact_28 : decode prog_5_method_27_code 28 = .ok (.iconst 3, 1) := by decide +kernel
theorem d_m_compact_29 : decode prog_5_method_27_code 29 = .ok (.if_icmp .ge 18, 3) := by decide +kernel
theorem d_m_compact_32 : decode prog_5_method_27_code 32 = .ok (.aload_n 0, 1) := by decide +kernel
theorem d_m_compact_33 : decode prog_5_method_27_code 33 = .ok (.iload_n 1, 1) := by decide +kernel
theorem d_m_compact_34 : decode prog_5_method_27_code 34 = .ok (.invokevirtual 71, 3) := by decide +kernel
theorem d_m_compact_37 : decode prog_5_method_27_code 37 = .ok (.iconst 3, 1) := by decide +kernel
theorem d_m_compact_38 : decode prog_5_method_27_code 38 = .ok (.if_icmp .gt 9, 3) := by decide +kernel
theorem d_m_compact_41 : decode prog_5_method_27_code 41 = .ok (.iinc 1 1, 3) := by decide +kernel
theorem d_m_compact_44 : decode prog_5_method_27_code 44 = .ok (.goto (-17), 3) := by decide +kernel
theorem d_m_compact_47 : decode prog_5_method_27_code 47 = .ok (.aload_n 0, 1) := by decide +kernel
theorem d_m_compact_48 : decode prog_5_method_27_code 48 = .ok (.iload_n 1, 1) := by decide +kernel
theorem d_m_compact_49 : decode prog_5_method_27_code 49 = .ok (.iconst 3, 1) := by decide +kernel
theorem d_m_compact_50 : decode prog_5_method_27_code 50 = .ok (.if_icmp .ge 11, 3) := by decide +kernel
theorem d_m_compact_53 : decode prog_5_method_27_code 53 = .ok (.aload_n 0, 1) := by decide +kernel
theorem d_m_compact_54 : decode prog_5_method_27_code 54 = .ok (.iload_n 1, 1) := by decide +kernel
theorem d_m_compact_55 : decode prog_5_method_27_code 55 = .ok (.invokevirtual 93, 3) := by decide +kernel
theorem d_m_compact_58 : decode prog_5_method_27_code 58 = .ok (.goto 4, 3) := by decide +kernel
theorem d_m_compact_61 : decode prog_5_method_27_code 61 = .ok (.iconst 0, 1) := by decide +kernel
theorem d_m_compact_62 : decode prog_5_method_27_code 62 = .ok (.putfield 26, 3) := by decide +kernel
theorem d_m_compact_65 : decode prog_5_method_27_code 65 = .ok (.aload_n 0, 1) := by decide +kernel
theorem d_m_compact_66 : decode prog_5_method_27_code 66 = .ok (.getfield 26, 3) := by decide +kernel
theorem d_m_compact_69 : decode prog_5_method_27_code 69 = .ok (.ifCond .eq 5, 3) := by decide +kernel
theorem d_m_compact_72 : decode prog_5_method_27_code 72 = .ok (.iconst 0, 1) := by decide +kernel
theorem d_m_compact_73 : decode prog_5_method_27_code 73 = .ok (.ireturn, 1) := by decide +kernel
theorem d_m_compact_74 : decode prog_5_method_27_code 74 = .ok (.aload_n 0, 1) := by decide +kernel
theorem d_m_compact_75 : decode prog_5_method_27_code 75 = .ok (.iconst (-1), 1) := by decide +kernel
theorem d_m_compact_76 : decode prog_5_method_27_code 76 = .ok (.putfield 23, 3) := by decide +kernel
theorem d_m_compact_79 : decode prog_5_method_27_code 79 = .ok (.iload_n 1, 1) := by decide +kernel
theorem d_m_compact_80 : decode prog_5_method_27_code 80 = .ok (.iconst 3, 1) := by decide +kernel
theorem d_m_compact_81 : decode prog_5_method_27_code 81 = .ok (.if_icmp .ge 7, 3) := by decide +kernel
theorem d_m_compact_84 : decode prog_5_method_27_code 84 = .ok (.iload_n 1, 1) := by decide +kernel
theorem d_m_compact_85 : decode prog_5_method_27_code 85 = .ok (.goto 4, 3) := by decide +kernel
theorem d_m_compact_88 : decode prog_5_method_27_code 88 = .ok (.iconst (-1), 1) := by decide +kernel
theorem d_m_compact_89 : decode prog_5_method_27_code 89 = .ok (.ireturn, 1) := by decide +kernel
abbrev M_m_runsOf : rsM := (⟨"RunStoreModel", "runsOf", "(I)I"⟩, prog_5_method_8_code, 4, some .int, [])
theorem d_m_runsOf_0 : decode prog_5_method_8_code 0 = .ok (.iconst 0, 1) := by decide +kernel
theorem d_m_runsOf_1 : decode prog_5_method_8_code 1 = .ok (.istore_n 2, 1) := by decide +kernel
theorem d_m_runsOf_2 : decode prog_5_method_8_code 2 = .ok (.iconst 0, 1) := by decide +kernel
theorem d_m_runsOf_3 : decode prog_5_method_8_code 3 = .ok (.istore_n 3, 1) := by decide +kernel
theorem d_m_runsOf_4 : decode prog_5_method_8_code 4 = .ok (.iload_n 3, 1) := by decide +kernel
theorem d_m_runsOf_5 : decode prog_5_method_8_code 5 = .ok (.aload_n 0, 1) := by decide +kernel
theorem d_m_runsOf_6 : decode prog_5_method_8_code 6 = .ok (.getfield 29, 3) := by decide +kernel
theorem d_m_runsOf_9 : decode prog_5_method_8_code 9 = .ok (.if_icmp .ge 27, 3) := by decide +kernel
theorem d_m_runsOf_12 : decode prog_5_method_8_code 12 = .ok (.iload_n 2, 1) := by decide +kernel
theorem d_m_runsOf_13 : decode prog_5_method_8_code 13 = .ok (.aload_n 0, 1) := by decide +kernel
theorem d_m_runsOf_14 : decode prog_5_method_8_code 14 = .ok (.getfield 13, 3) := by decide +kernel
theorem d_m_runsOf_17 : decode prog_5_method_8_code 17 = .ok (.iload_n 3, 1) := by decide +kernel
theorem d_m_runsOf_18 : decode prog_5_method_8_code 18 = .ok (.iaload, 1) := by decide +kernel
theorem d_m_runsOf_19 : decode prog_5_method_8_code 19 = .ok (.iload_n 1, 1) := by decide +kernel
theorem d_m_runsOf_20 : decode prog_5_method_8_code 20 = .ok (.if_icmp .ne 7, 3) := by decide +kernel
theorem d_m_runsOf_23 : decode prog_5_method_8_code 23 = .ok (.iconst 1, 1) := by decide +kernel
theorem d_m_runsOf_24 : decode prog_5_method_8_code 24 = .ok (.goto 4, 3) := by decide +kernel
theorem d_m_runsOf_27 : decode prog_5_method_8_code 27 = .ok (.iconst 0, 1) := by decide +kernel
theorem d_m_runsOf_28 : decode prog_5_method_8_code 28 = .ok (.iadd, 1) := by decide +kernel
theorem d_m_runsOf_29 : decode prog_5_method_8_code 29 = .ok (.istore_n 2, 1) := by decide +kernel
theorem d_m_runsOf_30 : decode prog_5_method_8_code 30 = .ok (.iinc 3 1, 3) := by decide +kernel
theorem d_m_runsOf_33 : decode prog_5_method_8_code 33 = .ok (.goto (-29), 3) := by decide +kernel
theorem d_m_runsOf_36 : decode prog_5_method_8_code 36 = .ok (.iload_n 2, 1) := by decide +kernel
theorem d_m_runsOf_37 : decode prog_5_method_8_code 37 = .ok (.ireturn, 1) := by decide +kernel
abbrev M_m_merged : rsM := (⟨"RunStoreModel", "merged", "(I)I"⟩, prog_5_method_17_code, 6, some .int, [])
theorem d_m_merged_0 : decode prog_5_method_17_code 0 = .ok (.aload_n 0, 1) := by decide +kernel
theorem d_m_merged_1 : decode prog_5_method_17_code 1 = .ok (.iload_n 1, 1) := by decide +kernel
theorem d_m_merged_2 : decode prog_5_method_17_code 2 = .ok (.invokevirtual 68, 3) := by decide +kernel
theorem d_m_merged_5 : decode prog_5_method_17_code 5 = .ok (.istore_n 2, 1) := by decide +kernel
theorem d_m_merged_6 : decode prog_5_method_17_code 6 = .ok (.iload_n 2, 1) := by decide +kernel
theorem d_m_merged_7 : decode prog_5_method_17_code 7 = .ok (.aload_n 0, 1) := by decide +kernel
theorem d_m_merged_8 : decode prog_5_method_17_code 8 = .ok (.iload_n 1, 1) := by decide +kernel
theorem d_m_merged_9 : decode prog_5_method_17_code 9 = .ok (.invokevirtual 71, 3) := by decide +kernel
theorem d_m_merged_12 : decode prog_5_method_17_code 12 = .ok (.iadd, 1) := by decide +kernel
theorem d_m_merged_13 : decode prog_5_method_17_code 13 = .ok (.istore_n 3, 1) := by decide +kernel
theorem d_m_merged_14 : decode prog_5_method_17_code 14 = .ok (.aload_n 0, 1) := by decide +kernel
theorem d_m_merged_15 : decode prog_5_method_17_code 15 = .ok (.bipush 13, 2) := by decide +kernel
theorem d_m_merged_17 : decode prog_5_method_17_code 17 = .ok (.invokevirtual 46, 3) := by decide +kernel
theorem d_m_merged_20 : decode prog_5_method_17_code 20 = .ok (.iload_n 3, 1) := by decide +kernel
theorem d_m_merged_21 : decode prog_5_method_17_code 21 = .ok (.iconst 1, 1) := by decide +kernel
theorem d_m_merged_22 : decode prog_5_method_17_code 22 = .ok (.isub, 1) := by decide +kernel
theorem d_m_merged_23 : decode prog_5_method_17_code 23 = .ok (.istore 4, 2) := by decide +kernel
theorem d_m_merged_25 : decode prog_5_method_17_code 25 = .ok (.iload 4, 2) := by decide +kernel
theorem d_m_merged_27 : decode prog_5_method_17_code 27 = .ok (.iload_n 2, 1) := by decide +kernel
theorem d_m_merged_28 : decode prog_5_method_17_code 28 = .ok (.if_icmp .lt 89, 3) := by decide +kernel
theorem d_m_merged_31 : decode prog_5_method_17_code 31 = .ok (.iconst 0, 1) := by decide +kernel
theorem d_m_merged_32 : decode prog_5_method_17_code 32 = .ok (.istore 5, 2) := by decide +kernel
theorem d_m_merged_34 : decode prog_5_method_17_code 34 = .ok (.iload 5, 2) := by decide +kernel
theorem d_m_merged_36 : decode prog_5_method_17_code 36 = .ok (.bipush 100, 2) := by decide +kernel
theorem d_m_merged_38 : decode prog_5_method_17_code 38 = .ok (.if_icmp .ge 73, 3) := by decide +kernel
theorem d_m_merged_41 : decode prog_5_method_17_code 41 = .ok (.aload_n 0, 1) := by decide +kernel
theorem d_m_merged_42 : decode prog_5_method_17_code 42 = .ok (.getfield 17, 3) := by decide +kernel
theorem d_m_merged_45 : decode prog_5_method_17_code 45 = .ok (.bipush 100, 2) := by decide +kernel
theorem d_m_merged_47 : decode prog_5_method_17_code 47 = .ok (.iload 4, 2) := by decide +kernel
theorem d_m_merged_49 : decode prog_5_method_17_code 49 = .ok (.imul, 1) := by decide +kernel
theorem d_m_merged_50 : decode prog_5_method_17_code 50 = .ok (.iload 5, 2) := by decide +kernel
theorem d_m_merged_52 : decode prog_5_method_17_code 52 = .ok (.iadd, 1) := by decide +kernel
theorem d_m_merged_53 : decode prog_5_method_17_code 53 = .ok (.iaload, 1) := by decide +kernel
theorem d_m_merged_54 : decode prog_5_method_17_code 54 = .ok (.ifCond .le 51, 3) := by decide +kernel
theorem d_m_merged_57 : decode prog_5_method_17_code 57 = .ok (.aload_n 0, 1) := by decide +kernel
theorem d_m_merged_58 : decode prog_5_method_17_code 58 = .ok (.getfield 17, 3) := by decide +kernel
theorem d_m_merged_61 : decode prog_5_method_17_code 61 = .ok (.sipush 1300, 3) := by decide +kernel
theorem d_m_merged_64 : decode prog_5_method_17_code 64 = .ok (.iload 5, 2) := by decide +kernel
theorem d_m_merged_66 : decode prog_5_method_17_code 66 = .ok (.iadd, 1) := by decide +kernel
theorem d_m_merged_67 : decode prog_5_method_17_code 67 = .ok (.aload_n 0, 1) := by decide +kernel
theorem d_m_merged_68 : decode prog_5_method_17_code 68 = .ok (.getfield 17, 3) := by decide +kernel
theorem d_m_merged_71 : decode prog_5_method_17_code 71 = .ok (.bipush 100, 2) := by decide +kernel
theorem d_m_merged_73 : decode prog_5_method_17_code 73 = .ok (.iload 4, 2) := by decide +kernel
theorem d_m_merged_75 : decode prog_5_method_17_code 75 = .ok (.imul, 1) := by decide +kernel
theorem d_m_merged_76 : decode prog_5_method_17_code 76 = .ok (.iload 5, 2) := by decide +kernel
theorem d_m_merged_78 : decode prog_5_method_17_code 78 = .ok (.iadd, 1) := by decide +kernel
theorem d_m_merged_79 : decode prog_5_method_17_code 79 = .ok (.iaload, 1) := by decide +kernel
theorem d_m_merged_80 : decode prog_5_method_17_code 80 = .ok (.iastore, 1) := by decide +kernel
theorem d_m_merged_81 : decode prog_5_method_17_code 81 = .ok (.aload_n 0, 1) := by decide +kernel
theorem d_m_merged_82 : decode prog_5_method_17_code 82 = .ok (.getfield 20, 3) := by decide +kernel
theorem d_m_merged_85 : decode prog_5_method_17_code 85 = .ok (.sipush 1300, 3) := by decide +kernel
theorem d_m_merged_88 : decode prog_5_method_17_code 88 = .ok (.iload 5, 2) := by decide +kernel
theorem d_m_merged_90 : decode prog_5_method_17_code 90 = .ok (.iadd, 1) := by decide +kernel
theorem d_m_merged_91 : decode prog_5_method_17_code 91 = .ok (.aload_n 0, 1) := by decide +kernel
theorem d_m_merged_92 : decode prog_5_method_17_code 92 = .ok (.getfield 20, 3) := by decide +kernel
theorem d_m_merged_95 : decode prog_5_method_17_code 95 = .ok (.bipush 100, 2) := by decide +kernel
theorem d_m_merged_97 : decode prog_5_method_17_code 97 = .ok (.iload 4, 2) := by decide +kernel
theorem d_m_merged_99 : decode prog_5_method_17_code 99 = .ok (.imul, 1) := by decide +kernel
theorem d_m_merged_100 : decode prog_5_method_17_code 100 = .ok (.iload 5, 2) := by decide +kernel
theorem d_m_merged_102 : decode prog_5_method_17_code 102 = .ok (.iadd, 1) := by decide +kernel
theorem d_m_merged_103 : decode prog_5_method_17_code 103 = .ok (.iaload, 1) := by decide +kernel
theorem d_m_merged_104 : decode prog_5_method_17_code 104 = .ok (.iastore, 1) := by decide +kernel
theorem d_m_merged_105 : decode prog_5_method_17_code 105 = .ok (.iinc 5 1, 3) := by decide +kernel
theorem d_m_merged_108 : decode prog_5_method_17_code 108 = .ok (.goto (-74), 3) := by decide +kernel
theorem d_m_merged_111 : decode prog_5_method_17_code 111 = .ok (.iinc 4 (-1), 3) := by decide +kernel
theorem d_m_merged_114 : decode prog_5_method_17_code 114 = .ok (.goto (-89), 3) := by decide +kernel
theorem d_m_merged_117 : decode prog_5_method_17_code 117 = .ok (.iconst 0, 1) := by decide +kernel
theorem d_m_merged_118 : decode prog_5_method_17_code 118 = .ok (.istore 4, 2) := by decide +kernel
theorem d_m_merged_120 : decode prog_5_method_17_code 120 = .ok (.iload 4, 2) := by decide +kernel
theorem d_m_merged_122 : decode prog_5_method_17_code 122 = .ok (.bipush 100, 2) := by decide +kernel
theorem d_m_merged_124 : decode prog_5_method_17_code 124 = .ok (.if_icmp .ge 58, 3) := by decide +kernel
theorem d_m_merged_127 : decode prog_5_method_17_code 127 = .ok (.aload_n 0, 1) := by decide +kernel
theorem d_m_merged_128 : decode prog_5_method_17_code 128 = .ok (.getfield 17, 3) := by decide +kernel
theorem d_m_merged_131 : decode prog_5_method_17_code 131 = .ok (.sipush 1300, 3) := by decide +kernel
theorem d_m_merged_134 : decode prog_5_method_17_code 134 = .ok (.iload 4, 2) := by decide +kernel
theorem d_m_merged_136 : decode prog_5_method_17_code 136 = .ok (.iadd, 1) := by decide +kernel
theorem d_m_merged_137 : decode prog_5_method_17_code 137 = .ok (.iload_n 3, 1) := by decide +kernel
theorem d_m_merged_138 : decode prog_5_method_17_code 138 = .ok (.aload_n 0, 1) := by decide +kernel
theorem d_m_merged_139 : decode prog_5_method_17_code 139 = .ok (.getfield 29, 3) := by decide +kernel
theorem d_m_merged_142 : decode prog_5_method_17_code 142 = .ok (.if_icmp .ne 22, 3) := by decide +kernel
theorem d_m_merged_145 : decode prog_5_method_17_code 145 = .ok (.aload_n 0, 1) := by decide +kernel
theorem d_m_merged_146 : decode prog_5_method_17_code 146 = .ok (.getfield 17, 3) := by decide +kernel
theorem d_m_merged_149 : decode prog_5_method_17_code 149 = .ok (.sipush 1300, 3) := by decide +kernel
theorem d_m_merged_152 : decode prog_5_method_17_code 152 = .ok (.iload 4, 2) := by decide +kernel
theorem d_m_merged_154 : decode prog_5_method_17_code 154 = .ok (.iadd, 1) := by decide +kernel
theorem d_m_merged_155 : decode prog_5_method_17_code 155 = .ok (.iaload, 1) := by decide +kernel
theorem d_m_merged_156 : decode prog_5_method_17_code 156 = .ok (.iconst 2, 1) := by decide +kernel
theorem d_m_merged_157 : decode prog_5_method_17_code 157 = .ok (.if_icmp .ne 7, 3) := by decide +kernel
theorem d_m_merged_160 : decode prog_5_method_17_code 160 = .ok (.iconst 0, 1) := by decide +kernel
theorem d_m_merged_161 : decode prog_5_method_17_code 161 = .ok (.goto 14, 3) := by decide +kernel
theorem d_m_merged_164 : decode prog_5_method_17_code 164 = .ok (.aload_n 0, 1) := by decide +kernel
theorem d_m_merged_165 : decode prog_5_method_17_code 165 = .ok (.getfield 17, 3) := by decide +kernel
theorem d_m_merged_168 : decode prog_5_method_17_code 168 = .ok (.sipush 1300, 3) := by decide +kernel
theorem d_m_merged_171 : decode prog_5_method_17_code 171 = .ok (.iload 4, 2) := by decide +kernel
theorem d_m_merged_173 : decode prog_5_method_17_code 173 = .ok (.iadd, 1) := by decide +kernel
theorem d_m_merged_174 : decode prog_5_method_17_code 174 = .ok (.iaload, 1) := by decide +kernel
theorem d_m_merged_175 : decode prog_5_method_17_code 175 = .ok (.iastore, 1) := by decide +kernel
theorem d_m_merged_176 : decode prog_5_method_17_code 176 = .ok (.iinc 4 1, 3) := by decide +kernel
theorem d_m_merged_179 : decode prog_5_method_17_code 179 = .ok (.goto (-59), 3) := by decide +kernel
theorem d_m_merged_182 : decode prog_5_method_17_code 182 = .ok (.aload_n 0, 1) := by decide +kernel
theorem d_m_merged_183 : decode prog_5_method_17_code 183 = .ok (.bipush 13, 2) := by decide +kernel
theorem d_m_merged_185 : decode prog_5_method_17_code 185 = .ok (.invokevirtual 32, 3) := by decide +kernel
theorem d_m_merged_188 : decode prog_5_method_17_code 188 = .ok (.istore 4, 2) := by decide +kernel
theorem d_m_merged_190 : decode prog_5_method_17_code 190 = .ok (.iload 4, 2) := by decide +kernel
theorem d_m_merged_192 : decode prog_5_method_17_code 192 = .ok (.invokestatic 36, 3) := by decide +kernel
theorem d_m_merged_195 : decode prog_5_method_17_code 195 = .ok (.aload_n 0, 1) := by decide +kernel
theorem d_m_merged_196 : decode prog_5_method_17_code 196 = .ok (.invokevirtual 57, 3) := by decide +kernel
theorem d_m_merged_199 : decode prog_5_method_17_code 199 = .ok (.if_icmp .le 5, 3) := by decide +kernel
theorem d_m_merged_202 : decode prog_5_method_17_code 202 = .ok (.iconst 2, 1) := by decide +kernel
theorem d_m_merged_203 : decode prog_5_method_17_code 203 = .ok (.ireturn, 1) := by decide +kernel
theorem d_m_merged_204 : decode prog_5_method_17_code 204 = .ok (.aload_n 0, 1) := by decide +kernel
theorem d_m_merged_205 : decode prog_5_method_17_code 205 = .ok (.iload 4, 2) := by decide +kernel
theorem d_m_merged_207 : decode prog_5_method_17_code 207 = .ok (.invokestatic 36, 3) := by decide +kernel
theorem d_m_merged_210 : decode prog_5_method_17_code 210 = .ok (.iconst 1, 1) := by decide +kernel
theorem d_m_merged_211 : decode prog_5_method_17_code 211 = .ok (.iadd, 1) := by decide +kernel
theorem d_m_merged_212 : decode prog_5_method_17_code 212 = .ok (.invokevirtual 61, 3) := by decide +kernel
theorem d_m_merged_215 : decode prog_5_method_17_code 215 = .ok (.ifCond .ne 5, 3) := by decide +kernel
theorem d_m_merged_218 : decode prog_5_method_17_code 218 = .ok (.iconst 1, 1) := by decide +kernel
theorem d_m_merged_219 : decode prog_5_method_17_code 219 = .ok (.ireturn, 1) := by decide +kernel
theorem d_m_merged_220 : decode prog_5_method_17_code 220 = .ok (.iload_n 2, 1) := by decide +kernel
theorem d_m_merged_221 : decode prog_5_method_17_code 221 = .ok (.istore 5, 2) := by decide +kernel
theorem d_m_merged_223 : decode prog_5_method_17_code 223 = .ok (.iload 5, 2) := by decide +kernel
theorem d_m_merged_225 : decode prog_5_method_17_code 225 = .ok (.iload_n 3, 1) := by decide +kernel
theorem d_m_merged_226 : decode prog_5_method_17_code 226 = .ok (.if_icmp .ge 14, 3) := by decide +kernel
theorem d_m_merged_229 : decode prog_5_method_17_code 229 = .ok (.aload_n 0, 1) := by decide +kernel
theorem d_m_merged_230 : decode prog_5_method_17_code 230 = .ok (.iload_n 2, 1) := by decide +kernel
theorem d_m_merged_231 : decode prog_5_method_17_code 231 = .ok (.invokevirtual 74, 3) := by decide +kernel
theorem d_m_merged_234 : decode prog_5_method_17_code 234 = .ok (.iinc 5 1, 3) := by decide +kernel
theorem d_m_merged_237 : decode prog_5_method_17_code 237 = .ok (.goto (-14), 3) := by decide +kernel
theorem d_m_merged_240 : decode prog_5_method_17_code 240 = .ok (.iload 4, 2) := by decide +kernel
theorem d_m_merged_242 : decode prog_5_method_17_code 242 = .ok (.ifCond .le 20, 3) := by decide +kernel
theorem d_m_merged_245 : decode prog_5_method_17_code 245 = .ok (.aload_n 0, 1) := by decide +kernel
theorem d_m_merged_246 : decode prog_5_method_17_code 246 = .ok (.iload_n 2, 1) := by decide +kernel
theorem d_m_merged_247 : decode prog_5_method_17_code 247 = .ok (.iload_n 1, 1) := by decide +kernel
theorem d_m_merged_248 : decode prog_5_method_17_code 248 = .ok (.iconst 2, 1) := by decide +kernel
theorem d_m_merged_249 : decode prog_5_method_17_code 249 = .ok (.if_icmp .ge 9, 3) := by decide +kernel
theorem d_m_merged_252 : decode prog_5_method_17_code 252 = .ok (.iload_n 1, 1) := by decide +kernel
theorem d_m_merged_253 : decode prog_5_method_17_code 253 = .ok (.iconst 1, 1) := by decide +kernel
theorem d_m_merged_254 : decode prog_5_method_17_code 254 = .ok (.iadd, 1) := by decide +kernel
theorem d_m_merged_255 : decode prog_5_method_17_code 255 = .ok (.goto 4, 3) := by decide +kernel
theorem d_m_merged_258 : decode prog_5_method_17_code 258 = .ok (.iconst 2, 1) := by decide +kernel
theorem d_m_merged_259 : decode prog_5_method_17_code 259 = .ok (.invokevirtual 65, 3) := by decide +kernel
theorem d_m_merged_262 : decode prog_5_method_17_code 262 = .ok (.iconst 0, 1) := by decide +kernel
theorem d_m_merged_263 : decode prog_5_method_17_code 263 = .ok (.ireturn, 1) := by decide +kernel
abbrev M_m_begin : rsM := (⟨"RunStoreModel", "begin", "(I)I"⟩, prog_5_method_9_code, 3, some .int, [])
theorem d_m_begin_0 : decode prog_5_method_9_code 0 = .ok (.iconst 0, 1) := by decide +kernel
theorem d_m_begin_1 : decode prog_5_method_9_code 1 = .ok (.istore_n 2, 1) := by decide +kernel
theorem d_m_begin_2 : decode prog_5_method_9_code 2 = .ok (.iload_n 2, 1) := by decide +kernel
theorem d_m_begin_3 : decode prog_5_method_9_code 3 = .ok (.aload_n 0, 1) := by decide +kernel
theorem d_m_begin_4 : decode prog_5_method_9_code 4 = .ok (.getfield 29, 3) := by decide +kernel
theorem d_m_begin_7 : decode prog_5_method_9_code 7 = .ok (.if_icmp .ge 19, 3) := by decide +kernel
theorem d_m_begin_10 : decode prog_5_method_9_code 10 = .ok (.aload_n 0, 1) := by decide +kernel
theorem d_m_begin_11 : decode prog_5_method_9_code 11 = .ok (.getfield 13, 3) := by decide +kernel
theorem d_m_begin_14 : decode prog_5_method_9_code 14 = .ok (.iload_n 2, 1) := by decide +kernel
theorem d_m_begin_15 : decode prog_5_method_9_code 15 = .ok (.iaload, 1) := by decide +kernel
theorem d_m_begin_16 : decode prog_5_method_9_code 16 = .ok (.iload_n 1, 1) := by decide +kernel
theorem d_m_begin_17 : decode prog_5_method_9_code 17 = .ok (.if_icmp .ge 9, 3) := by decide +kernel
theorem d_m_begin_20 : decode prog_5_method_9_code 20 = .ok (.iinc 2 1, 3) := by decide +kernel
theorem d_m_begin_23 : decode prog_5_method_9_code 23 = .ok (.goto (-21), 3) := by decide +kernel
theorem d_m_begin_26 : decode prog_5_method_9_code 26 = .ok (.iload_n 2, 1) := by decide +kernel
theorem d_m_begin_27 : decode prog_5_method_9_code 27 = .ok (.ireturn, 1) := by decide +kernel
abbrev M_m_takeOut : rsM := (⟨"RunStoreModel", "takeOut", "(I)V"⟩, prog_5_method_15_code, 3, none, [])
theorem d_m_takeOut_0 : decode prog_5_method_15_code 0 = .ok (.aload_n 0, 1) := by decide +kernel
theorem d_m_takeOut_1 : decode prog_5_method_15_code 1 = .ok (.dup, 1) := by decide +kernel
theorem d_m_takeOut_2 : decode prog_5_method_15_code 2 = .ok (.getfield 29, 3) := by decide +kernel
theorem d_m_takeOut_5 : decode prog_5_method_15_code 5 = .ok (.iconst 1, 1) := by decide +kernel
theorem d_m_takeOut_6 : decode prog_5_method_15_code 6 = .ok (.isub, 1) := by decide +kernel
theorem d_m_takeOut_7 : decode prog_5_method_15_code 7 = .ok (.putfield 29, 3) := by decide +kernel
theorem d_m_takeOut_10 : decode prog_5_method_15_code 10 = .ok (.iload_n 1, 1) := by decide +kernel
theorem d_m_takeOut_11 : decode prog_5_method_15_code 11 = .ok (.istore_n 2, 1) := by decide +kernel
theorem d_m_takeOut_12 : decode prog_5_method_15_code 12 = .ok (.iload_n 2, 1) := by decide +kernel
theorem d_m_takeOut_13 : decode prog_5_method_15_code 13 = .ok (.aload_n 0, 1) := by decide +kernel
theorem d_m_takeOut_14 : decode prog_5_method_15_code 14 = .ok (.getfield 29, 3) := by decide +kernel
theorem d_m_takeOut_17 : decode prog_5_method_15_code 17 = .ok (.if_icmp .ge 31, 3) := by decide +kernel
theorem d_m_takeOut_20 : decode prog_5_method_15_code 20 = .ok (.aload_n 0, 1) := by decide +kernel
theorem d_m_takeOut_21 : decode prog_5_method_15_code 21 = .ok (.iload_n 2, 1) := by decide +kernel
theorem d_m_takeOut_22 : decode prog_5_method_15_code 22 = .ok (.iconst 1, 1) := by decide +kernel
theorem d_m_takeOut_23 : decode prog_5_method_15_code 23 = .ok (.iadd, 1) := by decide +kernel
theorem d_m_takeOut_24 : decode prog_5_method_15_code 24 = .ok (.iload_n 2, 1) := by decide +kernel
theorem d_m_takeOut_25 : decode prog_5_method_15_code 25 = .ok (.invokevirtual 53, 3) := by decide +kernel
theorem d_m_takeOut_28 : decode prog_5_method_15_code 28 = .ok (.aload_n 0, 1) := by decide +kernel
theorem d_m_takeOut_29 : decode prog_5_method_15_code 29 = .ok (.getfield 13, 3) := by decide +kernel
theorem d_m_takeOut_32 : decode prog_5_method_15_code 32 = .ok (.iload_n 2, 1) := by decide +kernel
theorem d_m_takeOut_33 : decode prog_5_method_15_code 33 = .ok (.aload_n 0, 1) := by decide +kernel
theorem d_m_takeOut_34 : decode prog_5_method_15_code 34 = .ok (.getfield 13, 3) := by decide +kernel
theorem d_m_takeOut_37 : decode prog_5_method_15_code 37 = .ok (.iload_n 2, 1) := by decide +kernel
theorem d_m_takeOut_38 : decode prog_5_method_15_code 38 = .ok (.iconst 1, 1) := by decide +kernel
theorem d_m_takeOut_39 : decode prog_5_method_15_code 39 = .ok (.iadd, 1) := by decide +kernel
theorem d_m_takeOut_40 : decode prog_5_method_15_code 40 = .ok (.iaload, 1) := by decide +kernel
theorem d_m_takeOut_41 : decode prog_5_method_15_code 41 = .ok (.iastore, 1) := by decide +kernel
theorem d_m_takeOut_42 : decode prog_5_method_15_code 42 = .ok (.iinc 2 1, 3) := by decide +kernel
theorem d_m_takeOut_45 : decode prog_5_method_15_code 45 = .ok (.goto (-33), 3) := by decide +kernel
theorem d_m_takeOut_48 : decode prog_5_method_15_code 48 = .ok (.return_, 1) := by decide +kernel
abbrev M_m_merge : rsM := (⟨"RunStoreModel", "merge", "(I)I"⟩, prog_5_method_29_code, 4, some .int, [])
theorem d_m_merge_0 : decode prog_5_method_29_code 0 = .ok (.aload_n 0, 1) := by decide +kernel
theorem d_m_merge_1 : decode prog_5_method_29_code 1 = .ok (.iload_n 1, 1) := by decide +kernel
theorem d_m_merge_2 : decode prog_5_method_29_code 2 = .ok (.invokestatic 96, 3) := by decide +kernel
theorem d_m_merge_5 : decode prog_5_method_29_code 5 = .ok (.ifCond .ne 7, 3) := by decide +kernel
theorem d_m_merge_8 : decode prog_5_method_29_code 8 = .ok (.iconst 1, 1) := by decide +kernel
theorem d_m_merge_9 : decode prog_5_method_29_code 9 = .ok (.goto 15, 3) := by decide +kernel
theorem d_m_merge_12 : decode prog_5_method_29_code 12 = .ok (.aload_n 0, 1) := by decide +kernel
theorem d_m_merge_13 : decode prog_5_method_29_code 13 = .ok (.getfield 42, 3) := by decide +kernel
theorem d_m_merge_16 : decode prog_5_method_29_code 16 = .ok (.ifCond .ne 7, 3) := by decide +kernel
theorem d_m_merge_19 : decode prog_5_method_29_code 19 = .ok (.iconst 2, 1) := by decide +kernel
theorem d_m_merge_20 : decode prog_5_method_29_code 20 = .ok (.goto 4, 3) := by decide +kernel
theorem d_m_merge_23 : decode prog_5_method_29_code 23 = .ok (.iconst 0, 1) := by decide +kernel
theorem d_m_merge_24 : decode prog_5_method_29_code 24 = .ok (.putfield 26, 3) := by decide +kernel
theorem d_m_merge_27 : decode prog_5_method_29_code 27 = .ok (.aload_n 0, 1) := by decide +kernel
theorem d_m_merge_28 : decode prog_5_method_29_code 28 = .ok (.getfield 26, 3) := by decide +kernel
theorem d_m_merge_31 : decode prog_5_method_29_code 31 = .ok (.ifCond .eq 5, 3) := by decide +kernel
theorem d_m_merge_34 : decode prog_5_method_29_code 34 = .ok (.iconst 0, 1) := by decide +kernel
theorem d_m_merge_35 : decode prog_5_method_29_code 35 = .ok (.ireturn, 1) := by decide +kernel
theorem d_m_merge_36 : decode prog_5_method_29_code 36 = .ok (.aload_n 0, 1) := by decide +kernel
theorem d_m_merge_37 : decode prog_5_method_29_code 37 = .ok (.iload_n 1, 1) := by decide +kernel
theorem d_m_merge_38 : decode prog_5_method_29_code 38 = .ok (.invokevirtual 71, 3) := by decide +kernel
theorem d_m_merge_41 : decode prog_5_method_29_code 41 = .ok (.ifCond .le 7, 3) := by decide +kernel
theorem d_m_merge_44 : decode prog_5_method_29_code 44 = .ok (.iconst 1, 1) := by decide +kernel
theorem d_m_merge_45 : decode prog_5_method_29_code 45 = .ok (.goto 4, 3) := by decide +kernel
theorem d_m_merge_48 : decode prog_5_method_29_code 48 = .ok (.iconst 0, 1) := by decide +kernel
theorem d_m_merge_49 : decode prog_5_method_29_code 49 = .ok (.istore_n 2, 1) := by decide +kernel
theorem d_m_merge_50 : decode prog_5_method_29_code 50 = .ok (.iload_n 2, 1) := by decide +kernel
theorem d_m_merge_51 : decode prog_5_method_29_code 51 = .ok (.ifCond .eq 11, 3) := by decide +kernel
theorem d_m_merge_54 : decode prog_5_method_29_code 54 = .ok (.aload_n 0, 1) := by decide +kernel
theorem d_m_merge_55 : decode prog_5_method_29_code 55 = .ok (.iload_n 1, 1) := by decide +kernel
theorem d_m_merge_56 : decode prog_5_method_29_code 56 = .ok (.invokevirtual 93, 3) := by decide +kernel
theorem d_m_merge_59 : decode prog_5_method_29_code 59 = .ok (.goto 4, 3) := by decide +kernel
theorem d_m_merge_62 : decode prog_5_method_29_code 62 = .ok (.iconst 0, 1) := by decide +kernel
theorem d_m_merge_63 : decode prog_5_method_29_code 63 = .ok (.istore_n 3, 1) := by decide +kernel
theorem d_m_merge_64 : decode prog_5_method_29_code 64 = .ok (.aload_n 0, 1) := by decide +kernel
theorem d_m_merge_65 : decode prog_5_method_29_code 65 = .ok (.iload_n 3, 1) := by decide +kernel
theorem d_m_merge_66 : decode prog_5_method_29_code 66 = .ok (.ifCond .ne 7, 3) := by decide +kernel
theorem d_m_merge_69 : decode prog_5_method_29_code 69 = .ok (.iconst 0, 1) := by decide +kernel
theorem d_m_merge_70 : decode prog_5_method_29_code 70 = .ok (.goto 6, 3) := by decide +kernel
theorem d_m_merge_73 : decode prog_5_method_29_code 73 = .ok (.iload_n 3, 1) := by decide +kernel
theorem d_m_merge_74 : decode prog_5_method_29_code 74 = .ok (.iconst 1, 1) := by decide +kernel
theorem d_m_merge_75 : decode prog_5_method_29_code 75 = .ok (.iadd, 1) := by decide +kernel
theorem d_m_merge_76 : decode prog_5_method_29_code 76 = .ok (.putfield 26, 3) := by decide +kernel
theorem d_m_merge_79 : decode prog_5_method_29_code 79 = .ok (.aload_n 0, 1) := by decide +kernel
theorem d_m_merge_80 : decode prog_5_method_29_code 80 = .ok (.getfield 26, 3) := by decide +kernel
theorem d_m_merge_83 : decode prog_5_method_29_code 83 = .ok (.ifCond .eq 5, 3) := by decide +kernel
theorem d_m_merge_86 : decode prog_5_method_29_code 86 = .ok (.iconst 0, 1) := by decide +kernel
theorem d_m_merge_87 : decode prog_5_method_29_code 87 = .ok (.ireturn, 1) := by decide +kernel
theorem d_m_merge_88 : decode prog_5_method_29_code 88 = .ok (.aload_n 0, 1) := by decide +kernel
theorem d_m_merge_89 : decode prog_5_method_29_code 89 = .ok (.iconst (-1), 1) := by decide +kernel
theorem d_m_merge_90 : decode prog_5_method_29_code 90 = .ok (.putfield 23, 3) := by decide +kernel
theorem d_m_merge_93 : decode prog_5_method_29_code 93 = .ok (.iload_n 2, 1) := by decide +kernel
theorem d_m_merge_94 : decode prog_5_method_29_code 94 = .ok (.ifCond .eq 12, 3) := by decide +kernel
theorem d_m_merge_97 : decode prog_5_method_29_code 97 = .ok (.aload_n 0, 1) := by decide +kernel
theorem d_m_merge_98 : decode prog_5_method_29_code 98 = .ok (.bipush 13, 2) := by decide +kernel
theorem d_m_merge_100 : decode prog_5_method_29_code 100 = .ok (.invokevirtual 32, 3) := by decide +kernel
theorem d_m_merge_103 : decode prog_5_method_29_code 103 = .ok (.goto 4, 3) := by decide +kernel
theorem d_m_merge_106 : decode prog_5_method_29_code 106 = .ok (.iconst 0, 1) := by decide +kernel
theorem d_m_merge_107 : decode prog_5_method_29_code 107 = .ok (.ireturn, 1) := by decide +kernel
abbrev M_m_isLevel : rsM := (⟨"RunStoreModel", "isLevel", "(I)Z"⟩, prog_5_method_28_code, 1, some .boolean, [])
theorem d_m_isLevel_0 : decode prog_5_method_28_code 0 = .ok (.iload_n 0, 1) := by decide +kernel
theorem d_m_isLevel_1 : decode prog_5_method_28_code 1 = .ok (.ifCond .lt 12, 3) := by decide +kernel
theorem d_m_isLevel_4 : decode prog_5_method_28_code 4 = .ok (.iload_n 0, 1) := by decide +kernel
theorem d_m_isLevel_5 : decode prog_5_method_28_code 5 = .ok (.iconst 2, 1) := by decide +kernel
theorem d_m_isLevel_6 : decode prog_5_method_28_code 6 = .ok (.if_icmp .gt 7, 3) := by decide +kernel
theorem d_m_isLevel_9 : decode prog_5_method_28_code 9 = .ok (.iconst 1, 1) := by decide +kernel
theorem d_m_isLevel_10 : decode prog_5_method_28_code 10 = .ok (.goto 4, 3) := by decide +kernel
theorem d_m_isLevel_13 : decode prog_5_method_28_code 13 = .ok (.iconst 0, 1) := by decide +kernel
theorem d_m_isLevel_14 : decode prog_5_method_28_code 14 = .ok (.ireturn, 1) := by decide +kernel
abbrev M_m_limit : rsM := (⟨"RunStoreModel", "limit", "(I)V"⟩, prog_5_method_30_code, 2, none, [])
theorem d_m_limit_0 : decode prog_5_method_30_code 0 = .ok (.aload_n 0, 1) := by decide +kernel
theorem d_m_limit_1 : decode prog_5_method_30_code 1 = .ok (.iload_n 1, 1) := by decide +kernel
theorem d_m_limit_2 : decode prog_5_method_30_code 2 = .ok (.iconst (-1), 1) := by decide +kernel
theorem d_m_limit_3 : decode prog_5_method_30_code 3 = .ok (.if_icmp .lt 10, 3) := by decide +kernel
theorem d_m_limit_6 : decode prog_5_method_30_code 6 = .ok (.iload_n 1, 1) := by decide +kernel
theorem d_m_limit_7 : decode prog_5_method_30_code 7 = .ok (.sipush 1000, 3) := by decide +kernel
theorem d_m_limit_10 : decode prog_5_method_30_code 10 = .ok (.if_icmp .le 7, 3) := by decide +kernel
theorem d_m_limit_13 : decode prog_5_method_30_code 13 = .ok (.iconst 1, 1) := by decide +kernel
theorem d_m_limit_14 : decode prog_5_method_30_code 14 = .ok (.goto 15, 3) := by decide +kernel
theorem d_m_limit_17 : decode prog_5_method_30_code 17 = .ok (.aload_n 0, 1) := by decide +kernel
theorem d_m_limit_18 : decode prog_5_method_30_code 18 = .ok (.getfield 77, 3) := by decide +kernel
theorem d_m_limit_21 : decode prog_5_method_30_code 21 = .ok (.ifCond .ne 7, 3) := by decide +kernel
theorem d_m_limit_24 : decode prog_5_method_30_code 24 = .ok (.iconst 2, 1) := by decide +kernel
theorem d_m_limit_25 : decode prog_5_method_30_code 25 = .ok (.goto 4, 3) := by decide +kernel
theorem d_m_limit_28 : decode prog_5_method_30_code 28 = .ok (.iconst 0, 1) := by decide +kernel
theorem d_m_limit_29 : decode prog_5_method_30_code 29 = .ok (.putfield 26, 3) := by decide +kernel
theorem d_m_limit_32 : decode prog_5_method_30_code 32 = .ok (.aload_n 0, 1) := by decide +kernel
theorem d_m_limit_33 : decode prog_5_method_30_code 33 = .ok (.getfield 26, 3) := by decide +kernel
theorem d_m_limit_36 : decode prog_5_method_30_code 36 = .ok (.ifCond .ne 8, 3) := by decide +kernel
theorem d_m_limit_39 : decode prog_5_method_30_code 39 = .ok (.aload_n 0, 1) := by decide +kernel
theorem d_m_limit_40 : decode prog_5_method_30_code 40 = .ok (.iload_n 1, 1) := by decide +kernel
theorem d_m_limit_41 : decode prog_5_method_30_code 41 = .ok (.putfield 9, 3) := by decide +kernel
theorem d_m_limit_44 : decode prog_5_method_30_code 44 = .ok (.return_, 1) := by decide +kernel
abbrev M_m_left : rsM := (⟨"RunStoreModel", "left", "()I"⟩, prog_5_method_31_code, 1, some .int, [])
theorem d_m_left_0 : decode prog_5_method_31_code 0 = .ok (.aload_n 0, 1) := by decide +kernel
theorem d_m_left_1 : decode prog_5_method_31_code 1 = .ok (.iconst 0, 1) := by decide +kernel
theorem d_m_left_2 : decode prog_5_method_31_code 2 = .ok (.putfield 26, 3) := by decide +kernel
theorem d_m_left_5 : decode prog_5_method_31_code 5 = .ok (.aload_n 0, 1) := by decide +kernel
theorem d_m_left_6 : decode prog_5_method_31_code 6 = .ok (.getfield 9, 3) := by decide +kernel
theorem d_m_left_9 : decode prog_5_method_31_code 9 = .ok (.ireturn, 1) := by decide +kernel
abbrev M_m_seek : rsM := (⟨"RunStoreModel", "seek", "(I)Z"⟩, prog_5_method_33_code, 2, some .boolean, [])
theorem d_m_seek_0 : decode prog_5_method_33_code 0 = .ok (.aload_n 0, 1) := by decide +kernel
theorem d_m_seek_1 : decode prog_5_method_33_code 1 = .ok (.iload_n 1, 1) := by decide +kernel
theorem d_m_seek_2 : decode prog_5_method_33_code 2 = .ok (.invokestatic 80, 3) := by decide +kernel
theorem d_m_seek_5 : decode prog_5_method_33_code 5 = .ok (.ifCond .ne 7, 3) := by decide +kernel
theorem d_m_seek_8 : decode prog_5_method_33_code 8 = .ok (.iconst 1, 1) := by decide +kernel
theorem d_m_seek_9 : decode prog_5_method_33_code 9 = .ok (.goto 15, 3) := by decide +kernel
theorem d_m_seek_12 : decode prog_5_method_33_code 12 = .ok (.aload_n 0, 1) := by decide +kernel
theorem d_m_seek_13 : decode prog_5_method_33_code 13 = .ok (.getfield 42, 3) := by decide +kernel
theorem d_m_seek_16 : decode prog_5_method_33_code 16 = .ok (.ifCond .ne 7, 3) := by decide +kernel
theorem d_m_seek_19 : decode prog_5_method_33_code 19 = .ok (.iconst 2, 1) := by decide +kernel
theorem d_m_seek_20 : decode prog_5_method_33_code 20 = .ok (.goto 4, 3) := by decide +kernel
theorem d_m_seek_23 : decode prog_5_method_33_code 23 = .ok (.iconst 0, 1) := by decide +kernel
theorem d_m_seek_24 : decode prog_5_method_33_code 24 = .ok (.putfield 26, 3) := by decide +kernel
theorem d_m_seek_27 : decode prog_5_method_33_code 27 = .ok (.aload_n 0, 1) := by decide +kernel
theorem d_m_seek_28 : decode prog_5_method_33_code 28 = .ok (.getfield 26, 3) := by decide +kernel
theorem d_m_seek_31 : decode prog_5_method_33_code 31 = .ok (.ifCond .ne 15, 3) := by decide +kernel
theorem d_m_seek_34 : decode prog_5_method_33_code 34 = .ok (.aload_n 0, 1) := by decide +kernel
theorem d_m_seek_35 : decode prog_5_method_33_code 35 = .ok (.iload_n 1, 1) := by decide +kernel
theorem d_m_seek_36 : decode prog_5_method_33_code 36 = .ok (.invokevirtual 99, 3) := by decide +kernel
theorem d_m_seek_39 : decode prog_5_method_33_code 39 = .ok (.ifCond .eq 7, 3) := by decide +kernel
theorem d_m_seek_42 : decode prog_5_method_33_code 42 = .ok (.iconst 1, 1) := by decide +kernel
theorem d_m_seek_43 : decode prog_5_method_33_code 43 = .ok (.goto 4, 3) := by decide +kernel
theorem d_m_seek_46 : decode prog_5_method_33_code 46 = .ok (.iconst 0, 1) := by decide +kernel
theorem d_m_seek_47 : decode prog_5_method_33_code 47 = .ok (.ireturn, 1) := by decide +kernel
abbrev M_m_goTo : rsM := (⟨"RunStoreModel", "goTo", "(I)Z"⟩, prog_5_method_32_code, 2, some .boolean, [])
theorem d_m_goTo_0 : decode prog_5_method_32_code 0 = .ok (.aload_n 0, 1) := by decide +kernel
theorem d_m_goTo_1 : decode prog_5_method_32_code 1 = .ok (.iload_n 1, 1) := by decide +kernel
theorem d_m_goTo_2 : decode prog_5_method_32_code 2 = .ok (.putfield 23, 3) := by decide +kernel
theorem d_m_goTo_5 : decode prog_5_method_32_code 5 = .ok (.aload_n 0, 1) := by decide +kernel
theorem d_m_goTo_6 : decode prog_5_method_32_code 6 = .ok (.getfield 23, 3) := by decide +kernel
theorem d_m_goTo_9 : decode prog_5_method_32_code 9 = .ok (.bipush 100, 2) := by decide +kernel
theorem d_m_goTo_11 : decode prog_5_method_32_code 11 = .ok (.if_icmp .ge 27, 3) := by decide +kernel
theorem d_m_goTo_14 : decode prog_5_method_32_code 14 = .ok (.aload_n 0, 1) := by decide +kernel
theorem d_m_goTo_15 : decode prog_5_method_32_code 15 = .ok (.aload_n 0, 1) := by decide +kernel
theorem d_m_goTo_16 : decode prog_5_method_32_code 16 = .ok (.getfield 23, 3) := by decide +kernel
theorem d_m_goTo_19 : decode prog_5_method_32_code 19 = .ok (.invokevirtual 90, 3) := by decide +kernel
theorem d_m_goTo_22 : decode prog_5_method_32_code 22 = .ok (.ifCond .ne 16, 3) := by decide +kernel
theorem d_m_goTo_25 : decode prog_5_method_32_code 25 = .ok (.aload_n 0, 1) := by decide +kernel
theorem d_m_goTo_26 : decode prog_5_method_32_code 26 = .ok (.dup, 1) := by decide +kernel
theorem d_m_goTo_27 : decode prog_5_method_32_code 27 = .ok (.getfield 23, 3) := by decide +kernel
theorem d_m_goTo_30 : decode prog_5_method_32_code 30 = .ok (.iconst 1, 1) := by decide +kernel
theorem d_m_goTo_31 : decode prog_5_method_32_code 31 = .ok (.iadd, 1) := by decide +kernel
theorem d_m_goTo_32 : decode prog_5_method_32_code 32 = .ok (.putfield 23, 3) := by decide +kernel
theorem d_m_goTo_35 : decode prog_5_method_32_code 35 = .ok (.goto (-30), 3) := by decide +kernel
theorem d_m_goTo_38 : decode prog_5_method_32_code 38 = .ok (.aload_n 0, 1) := by decide +kernel
theorem d_m_goTo_39 : decode prog_5_method_32_code 39 = .ok (.aload_n 0, 1) := by decide +kernel
theorem d_m_goTo_40 : decode prog_5_method_32_code 40 = .ok (.getfield 23, 3) := by decide +kernel
theorem d_m_goTo_43 : decode prog_5_method_32_code 43 = .ok (.bipush 100, 2) := by decide +kernel
theorem d_m_goTo_45 : decode prog_5_method_32_code 45 = .ok (.if_icmp .ge 10, 3) := by decide +kernel
theorem d_m_goTo_48 : decode prog_5_method_32_code 48 = .ok (.aload_n 0, 1) := by decide +kernel
theorem d_m_goTo_49 : decode prog_5_method_32_code 49 = .ok (.getfield 23, 3) := by decide +kernel
theorem d_m_goTo_52 : decode prog_5_method_32_code 52 = .ok (.goto 4, 3) := by decide +kernel
theorem d_m_goTo_55 : decode prog_5_method_32_code 55 = .ok (.iconst (-1), 1) := by decide +kernel
theorem d_m_goTo_56 : decode prog_5_method_32_code 56 = .ok (.putfield 23, 3) := by decide +kernel
theorem d_m_goTo_59 : decode prog_5_method_32_code 59 = .ok (.aload_n 0, 1) := by decide +kernel
theorem d_m_goTo_60 : decode prog_5_method_32_code 60 = .ok (.getfield 23, 3) := by decide +kernel
theorem d_m_goTo_63 : decode prog_5_method_32_code 63 = .ok (.ifCond .lt 7, 3) := by decide +kernel
theorem d_m_goTo_66 : decode prog_5_method_32_code 66 = .ok (.iconst 1, 1) := by decide +kernel
theorem d_m_goTo_67 : decode prog_5_method_32_code 67 = .ok (.goto 4, 3) := by decide +kernel
theorem d_m_goTo_70 : decode prog_5_method_32_code 70 = .ok (.iconst 0, 1) := by decide +kernel
theorem d_m_goTo_71 : decode prog_5_method_32_code 71 = .ok (.ireturn, 1) := by decide +kernel
abbrev M_m_next : rsM := (⟨"RunStoreModel", "next", "()Z"⟩, prog_5_method_34_code, 1, some .boolean, [])
theorem d_m_next_0 : decode prog_5_method_34_code 0 = .ok (.aload_n 0, 1) := by decide +kernel
theorem d_m_next_1 : decode prog_5_method_34_code 1 = .ok (.aload_n 0, 1) := by decide +kernel
theorem d_m_next_2 : decode prog_5_method_34_code 2 = .ok (.getfield 42, 3) := by decide +kernel
theorem d_m_next_5 : decode prog_5_method_34_code 5 = .ok (.ifCond .eq 10, 3) := by decide +kernel
theorem d_m_next_8 : decode prog_5_method_34_code 8 = .ok (.aload_n 0, 1) := by decide +kernel
theorem d_m_next_9 : decode prog_5_method_34_code 9 = .ok (.getfield 23, 3) := by decide +kernel
theorem d_m_next_12 : decode prog_5_method_34_code 12 = .ok (.ifCond .ge 7, 3) := by decide +kernel
theorem d_m_next_15 : decode prog_5_method_34_code 15 = .ok (.iconst 1, 1) := by decide +kernel
theorem d_m_next_16 : decode prog_5_method_34_code 16 = .ok (.goto 4, 3) := by decide +kernel
theorem d_m_next_19 : decode prog_5_method_34_code 19 = .ok (.iconst 0, 1) := by decide +kernel
theorem d_m_next_20 : decode prog_5_method_34_code 20 = .ok (.putfield 26, 3) := by decide +kernel
theorem d_m_next_23 : decode prog_5_method_34_code 23 = .ok (.aload_n 0, 1) := by decide +kernel
theorem d_m_next_24 : decode prog_5_method_34_code 24 = .ok (.getfield 26, 3) := by decide +kernel
theorem d_m_next_27 : decode prog_5_method_34_code 27 = .ok (.ifCond .ne 20, 3) := by decide +kernel
theorem d_m_next_30 : decode prog_5_method_34_code 30 = .ok (.aload_n 0, 1) := by decide +kernel
theorem d_m_next_31 : decode prog_5_method_34_code 31 = .ok (.aload_n 0, 1) := by decide +kernel
theorem d_m_next_32 : decode prog_5_method_34_code 32 = .ok (.getfield 23, 3) := by decide +kernel
theorem d_m_next_35 : decode prog_5_method_34_code 35 = .ok (.iconst 1, 1) := by decide +kernel
theorem d_m_next_36 : decode prog_5_method_34_code 36 = .ok (.iadd, 1) := by decide +kernel
theorem d_m_next_37 : decode prog_5_method_34_code 37 = .ok (.invokevirtual 99, 3) := by decide +kernel
theorem d_m_next_40 : decode prog_5_method_34_code 40 = .ok (.ifCond .eq 7, 3) := by decide +kernel
theorem d_m_next_43 : decode prog_5_method_34_code 43 = .ok (.iconst 1, 1) := by decide +kernel
theorem d_m_next_44 : decode prog_5_method_34_code 44 = .ok (.goto 4, 3) := by decide +kernel
theorem d_m_next_47 : decode prog_5_method_34_code 47 = .ok (.iconst 0, 1) := by decide +kernel
theorem d_m_next_48 : decode prog_5_method_34_code 48 = .ok (.ireturn, 1) := by decide +kernel
abbrev M_m_key : rsM := (⟨"RunStoreModel", "key", "()I"⟩, prog_5_method_35_code, 1, some .int, [])
theorem d_m_key_0 : decode prog_5_method_35_code 0 = .ok (.aload_n 0, 1) := by decide +kernel
theorem d_m_key_1 : decode prog_5_method_35_code 1 = .ok (.iconst 0, 1) := by decide +kernel
theorem d_m_key_2 : decode prog_5_method_35_code 2 = .ok (.putfield 26, 3) := by decide +kernel
theorem d_m_key_5 : decode prog_5_method_35_code 5 = .ok (.aload_n 0, 1) := by decide +kernel
theorem d_m_key_6 : decode prog_5_method_35_code 6 = .ok (.getfield 23, 3) := by decide +kernel
theorem d_m_key_9 : decode prog_5_method_35_code 9 = .ok (.ireturn, 1) := by decide +kernel
abbrev M_m_value : rsM := (⟨"RunStoreModel", "value", "()I"⟩, prog_5_method_36_code, 1, some .int, [])
theorem d_m_value_0 : decode prog_5_method_36_code 0 = .ok (.aload_n 0, 1) := by decide +kernel
theorem d_m_value_1 : decode prog_5_method_36_code 1 = .ok (.iconst 0, 1) := by decide +kernel
theorem d_m_value_2 : decode prog_5_method_36_code 2 = .ok (.putfield 26, 3) := by decide +kernel
theorem d_m_value_5 : decode prog_5_method_36_code 5 = .ok (.aload_n 0, 1) := by decide +kernel
theorem d_m_value_6 : decode prog_5_method_36_code 6 = .ok (.getfield 23, 3) := by decide +kernel
theorem d_m_value_9 : decode prog_5_method_36_code 9 = .ok (.ifCond .ge 7, 3) := by decide +kernel
theorem d_m_value_12 : decode prog_5_method_36_code 12 = .ok (.iconst 0, 1) := by decide +kernel
theorem d_m_value_13 : decode prog_5_method_36_code 13 = .ok (.goto 24, 3) := by decide +kernel
theorem d_m_value_16 : decode prog_5_method_36_code 16 = .ok (.aload_n 0, 1) := by decide +kernel
theorem d_m_value_17 : decode prog_5_method_36_code 17 = .ok (.getfield 20, 3) := by decide +kernel
theorem d_m_value_20 : decode prog_5_method_36_code 20 = .ok (.bipush 100, 2) := by decide +kernel
theorem d_m_value_22 : decode prog_5_method_36_code 22 = .ok (.aload_n 0, 1) := by decide +kernel
theorem d_m_value_23 : decode prog_5_method_36_code 23 = .ok (.aload_n 0, 1) := by decide +kernel
theorem d_m_value_24 : decode prog_5_method_36_code 24 = .ok (.getfield 23, 3) := by decide +kernel
theorem d_m_value_27 : decode prog_5_method_36_code 27 = .ok (.invokevirtual 39, 3) := by decide +kernel
theorem d_m_value_30 : decode prog_5_method_36_code 30 = .ok (.imul, 1) := by decide +kernel
theorem d_m_value_31 : decode prog_5_method_36_code 31 = .ok (.aload_n 0, 1) := by decide +kernel
theorem d_m_value_32 : decode prog_5_method_36_code 32 = .ok (.getfield 23, 3) := by decide +kernel
theorem d_m_value_35 : decode prog_5_method_36_code 35 = .ok (.iadd, 1) := by decide +kernel
theorem d_m_value_36 : decode prog_5_method_36_code 36 = .ok (.iaload, 1) := by decide +kernel
theorem d_m_value_37 : decode prog_5_method_36_code 37 = .ok (.ireturn, 1) := by decide +kernel
abbrev M_m_size : rsM := (⟨"RunStoreModel", "size", "()I"⟩, prog_5_method_37_code, 3, some .int, [])
theorem d_m_size_0 : decode prog_5_method_37_code 0 = .ok (.aload_n 0, 1) := by decide +kernel
theorem d_m_size_1 : decode prog_5_method_37_code 1 = .ok (.aload_n 0, 1) := by decide +kernel
theorem d_m_size_2 : decode prog_5_method_37_code 2 = .ok (.getfield 42, 3) := by decide +kernel
theorem d_m_size_5 : decode prog_5_method_37_code 5 = .ok (.ifCond .eq 7, 3) := by decide +kernel
theorem d_m_size_8 : decode prog_5_method_37_code 8 = .ok (.iconst 0, 1) := by decide +kernel
theorem d_m_size_9 : decode prog_5_method_37_code 9 = .ok (.goto 4, 3) := by decide +kernel
theorem d_m_size_12 : decode prog_5_method_37_code 12 = .ok (.iconst 1, 1) := by decide +kernel
theorem d_m_size_13 : decode prog_5_method_37_code 13 = .ok (.putfield 26, 3) := by decide +kernel
theorem d_m_size_16 : decode prog_5_method_37_code 16 = .ok (.iconst 0, 1) := by decide +kernel
theorem d_m_size_17 : decode prog_5_method_37_code 17 = .ok (.istore_n 1, 1) := by decide +kernel
theorem d_m_size_18 : decode prog_5_method_37_code 18 = .ok (.iconst 0, 1) := by decide +kernel
theorem d_m_size_19 : decode prog_5_method_37_code 19 = .ok (.istore_n 2, 1) := by decide +kernel
theorem d_m_size_20 : decode prog_5_method_37_code 20 = .ok (.iload_n 2, 1) := by decide +kernel
theorem d_m_size_21 : decode prog_5_method_37_code 21 = .ok (.bipush 100, 2) := by decide +kernel
theorem d_m_size_23 : decode prog_5_method_37_code 23 = .ok (.if_icmp .ge 32, 3) := by decide +kernel
theorem d_m_size_26 : decode prog_5_method_37_code 26 = .ok (.aload_n 0, 1) := by decide +kernel
theorem d_m_size_27 : decode prog_5_method_37_code 27 = .ok (.getfield 26, 3) := by decide +kernel
theorem d_m_size_30 : decode prog_5_method_37_code 30 = .ok (.ifCond .ne 25, 3) := by decide +kernel
theorem d_m_size_33 : decode prog_5_method_37_code 33 = .ok (.iload_n 1, 1) := by decide +kernel
theorem d_m_size_34 : decode prog_5_method_37_code 34 = .ok (.aload_n 0, 1) := by decide +kernel
theorem d_m_size_35 : decode prog_5_method_37_code 35 = .ok (.iload_n 2, 1) := by decide +kernel
theorem d_m_size_36 : decode prog_5_method_37_code 36 = .ok (.invokevirtual 90, 3) := by decide +kernel
theorem d_m_size_39 : decode prog_5_method_37_code 39 = .ok (.ifCond .eq 7, 3) := by decide +kernel
theorem d_m_size_42 : decode prog_5_method_37_code 42 = .ok (.iconst 1, 1) := by decide +kernel
theorem d_m_size_43 : decode prog_5_method_37_code 43 = .ok (.goto 4, 3) := by decide +kernel
theorem d_m_size_46 : decode prog_5_method_37_code 46 = .ok (.iconst 0, 1) := by decide +kernel
theorem d_m_size_47 : decode prog_5_method_37_code 47 = .ok (.iadd, 1) := by decide +kernel
theorem d_m_size_48 : decode prog_5_method_37_code 48 = .ok (.istore_n 1, 1) := by decide +kernel
theorem d_m_size_49 : decode prog_5_method_37_code 49 = .ok (.iinc 2 1, 3) := by decide +kernel
theorem d_m_size_52 : decode prog_5_method_37_code 52 = .ok (.goto (-32), 3) := by decide +kernel
theorem d_m_size_55 : decode prog_5_method_37_code 55 = .ok (.iload_n 1, 1) := by decide +kernel
theorem d_m_size_56 : decode prog_5_method_37_code 56 = .ok (.ireturn, 1) := by decide +kernel
abbrev M_m_memory : rsM := (⟨"RunStoreModel", "memory", "()I"⟩, prog_5_method_38_code, 1, some .int, [])
theorem d_m_memory_0 : decode prog_5_method_38_code 0 = .ok (.aload_n 0, 1) := by decide +kernel
theorem d_m_memory_1 : decode prog_5_method_38_code 1 = .ok (.iconst 0, 1) := by decide +kernel
theorem d_m_memory_2 : decode prog_5_method_38_code 2 = .ok (.putfield 26, 3) := by decide +kernel
theorem d_m_memory_5 : decode prog_5_method_38_code 5 = .ok (.aload_n 0, 1) := by decide +kernel
theorem d_m_memory_6 : decode prog_5_method_38_code 6 = .ok (.getfield 42, 3) := by decide +kernel
theorem d_m_memory_9 : decode prog_5_method_38_code 9 = .ok (.ifCond .eq 12, 3) := by decide +kernel
theorem d_m_memory_12 : decode prog_5_method_38_code 12 = .ok (.aload_n 0, 1) := by decide +kernel
theorem d_m_memory_13 : decode prog_5_method_38_code 13 = .ok (.bipush 12, 2) := by decide +kernel
theorem d_m_memory_15 : decode prog_5_method_38_code 15 = .ok (.invokevirtual 32, 3) := by decide +kernel
theorem d_m_memory_18 : decode prog_5_method_38_code 18 = .ok (.goto 4, 3) := by decide +kernel
theorem d_m_memory_21 : decode prog_5_method_38_code 21 = .ok (.iconst (-1), 1) := by decide +kernel
theorem d_m_memory_22 : decode prog_5_method_38_code 22 = .ok (.ireturn, 1) := by decide +kernel
abbrev M_m_runs : rsM := (⟨"RunStoreModel", "runs", "(I)I"⟩, prog_5_method_39_code, 2, some .int, [])
theorem d_m_runs_0 : decode prog_5_method_39_code 0 = .ok (.aload_n 0, 1) := by decide +kernel
theorem d_m_runs_1 : decode prog_5_method_39_code 1 = .ok (.iload_n 1, 1) := by decide +kernel
theorem d_m_runs_2 : decode prog_5_method_39_code 2 = .ok (.invokestatic 96, 3) := by decide +kernel
theorem d_m_runs_5 : decode prog_5_method_39_code 5 = .ok (.ifCond .ne 7, 3) := by decide +kernel
theorem d_m_runs_8 : decode prog_5_method_39_code 8 = .ok (.iconst 1, 1) := by decide +kernel
theorem d_m_runs_9 : decode prog_5_method_39_code 9 = .ok (.goto 15, 3) := by decide +kernel
theorem d_m_runs_12 : decode prog_5_method_39_code 12 = .ok (.aload_n 0, 1) := by decide +kernel
theorem d_m_runs_13 : decode prog_5_method_39_code 13 = .ok (.getfield 42, 3) := by decide +kernel
theorem d_m_runs_16 : decode prog_5_method_39_code 16 = .ok (.ifCond .ne 7, 3) := by decide +kernel
theorem d_m_runs_19 : decode prog_5_method_39_code 19 = .ok (.iconst 2, 1) := by decide +kernel
theorem d_m_runs_20 : decode prog_5_method_39_code 20 = .ok (.goto 4, 3) := by decide +kernel
theorem d_m_runs_23 : decode prog_5_method_39_code 23 = .ok (.iconst 0, 1) := by decide +kernel
theorem d_m_runs_24 : decode prog_5_method_39_code 24 = .ok (.putfield 26, 3) := by decide +kernel
theorem d_m_runs_27 : decode prog_5_method_39_code 27 = .ok (.aload_n 0, 1) := by decide +kernel
theorem d_m_runs_28 : decode prog_5_method_39_code 28 = .ok (.getfield 26, 3) := by decide +kernel
theorem d_m_runs_31 : decode prog_5_method_39_code 31 = .ok (.ifCond .ne 11, 3) := by decide +kernel
theorem d_m_runs_34 : decode prog_5_method_39_code 34 = .ok (.aload_n 0, 1) := by decide +kernel
theorem d_m_runs_35 : decode prog_5_method_39_code 35 = .ok (.iload_n 1, 1) := by decide +kernel
theorem d_m_runs_36 : decode prog_5_method_39_code 36 = .ok (.invokevirtual 71, 3) := by decide +kernel
theorem d_m_runs_39 : decode prog_5_method_39_code 39 = .ok (.goto 4, 3) := by decide +kernel
theorem d_m_runs_42 : decode prog_5_method_39_code 42 = .ok (.iconst 0, 1) := by decide +kernel
theorem d_m_runs_43 : decode prog_5_method_39_code 43 = .ok (.ireturn, 1) := by decide +kernel
abbrev M_m_entries : rsM := (⟨"RunStoreModel", "entries", "(II)I"⟩, prog_5_method_40_code, 3, some .int, [])
theorem d_m_entries_0 : decode prog_5_method_40_code 0 = .ok (.aload_n 0, 1) := by decide +kernel
theorem d_m_entries_1 : decode prog_5_method_40_code 1 = .ok (.aload_n 0, 1) := by decide +kernel
theorem d_m_entries_2 : decode prog_5_method_40_code 2 = .ok (.getfield 42, 3) := by decide +kernel
theorem d_m_entries_5 : decode prog_5_method_40_code 5 = .ok (.ifCond .ne 7, 3) := by decide +kernel
theorem d_m_entries_8 : decode prog_5_method_40_code 8 = .ok (.iconst 1, 1) := by decide +kernel
theorem d_m_entries_9 : decode prog_5_method_40_code 9 = .ok (.goto 28, 3) := by decide +kernel
theorem d_m_entries_12 : decode prog_5_method_40_code 12 = .ok (.iload_n 1, 1) := by decide +kernel
theorem d_m_entries_13 : decode prog_5_method_40_code 13 = .ok (.invokestatic 96, 3) := by decide +kernel
theorem d_m_entries_16 : decode prog_5_method_40_code 16 = .ok (.ifCond .eq 16, 3) := by decide +kernel
theorem d_m_entries_19 : decode prog_5_method_40_code 19 = .ok (.iload_n 2, 1) := by decide +kernel
theorem d_m_entries_20 : decode prog_5_method_40_code 20 = .ok (.ifCond .lt 12, 3) := by decide +kernel
theorem d_m_entries_23 : decode prog_5_method_40_code 23 = .ok (.iload_n 2, 1) := by decide +kernel
theorem d_m_entries_24 : decode prog_5_method_40_code 24 = .ok (.aload_n 0, 1) := by decide +kernel
theorem d_m_entries_25 : decode prog_5_method_40_code 25 = .ok (.iload_n 1, 1) := by decide +kernel
theorem d_m_entries_26 : decode prog_5_method_40_code 26 = .ok (.invokevirtual 71, 3) := by decide +kernel
theorem d_m_entries_29 : decode prog_5_method_40_code 29 = .ok (.if_icmp .lt 7, 3) := by decide +kernel
theorem d_m_entries_32 : decode prog_5_method_40_code 32 = .ok (.iconst 2, 1) := by decide +kernel
theorem d_m_entries_33 : decode prog_5_method_40_code 33 = .ok (.goto 4, 3) := by decide +kernel
theorem d_m_entries_36 : decode prog_5_method_40_code 36 = .ok (.iconst 0, 1) := by decide +kernel
theorem d_m_entries_37 : decode prog_5_method_40_code 37 = .ok (.putfield 26, 3) := by decide +kernel
theorem d_m_entries_40 : decode prog_5_method_40_code 40 = .ok (.aload_n 0, 1) := by decide +kernel
theorem d_m_entries_41 : decode prog_5_method_40_code 41 = .ok (.getfield 26, 3) := by decide +kernel
theorem d_m_entries_44 : decode prog_5_method_40_code 44 = .ok (.ifCond .ne 17, 3) := by decide +kernel
theorem d_m_entries_47 : decode prog_5_method_40_code 47 = .ok (.aload_n 0, 1) := by decide +kernel
theorem d_m_entries_48 : decode prog_5_method_40_code 48 = .ok (.aload_n 0, 1) := by decide +kernel
theorem d_m_entries_49 : decode prog_5_method_40_code 49 = .ok (.iload_n 1, 1) := by decide +kernel
theorem d_m_entries_50 : decode prog_5_method_40_code 50 = .ok (.invokevirtual 68, 3) := by decide +kernel
theorem d_m_entries_53 : decode prog_5_method_40_code 53 = .ok (.iload_n 2, 1) := by decide +kernel
theorem d_m_entries_54 : decode prog_5_method_40_code 54 = .ok (.iadd, 1) := by decide +kernel
theorem d_m_entries_55 : decode prog_5_method_40_code 55 = .ok (.invokevirtual 32, 3) := by decide +kernel
theorem d_m_entries_58 : decode prog_5_method_40_code 58 = .ok (.goto 4, 3) := by decide +kernel
theorem d_m_entries_61 : decode prog_5_method_40_code 61 = .ok (.iconst 0, 1) := by decide +kernel
theorem d_m_entries_62 : decode prog_5_method_40_code 62 = .ok (.ireturn, 1) := by decide +kernel
abbrev M_m_room : rsM := (⟨"RunStoreModel", "room", "()I"⟩, prog_5_method_41_code, 1, some .int, [])
theorem d_m_room_0 : decode prog_5_method_41_code 0 = .ok (.aload_n 0, 1) := by decide +kernel
theorem d_m_room_1 : decode prog_5_method_41_code 1 = .ok (.aload_n 0, 1) := by decide +kernel
theorem d_m_room_2 : decode prog_5_method_41_code 2 = .ok (.getfield 42, 3) := by decide +kernel
theorem d_m_room_5 : decode prog_5_method_41_code 5 = .ok (.ifCond .eq 7, 3) := by decide +kernel
theorem d_m_room_8 : decode prog_5_method_41_code 8 = .ok (.iconst 0, 1) := by decide +kernel
theorem d_m_room_9 : decode prog_5_method_41_code 9 = .ok (.goto 4, 3) := by decide +kernel
theorem d_m_room_12 : decode prog_5_method_41_code 12 = .ok (.iconst 1, 1) := by decide +kernel
theorem d_m_room_13 : decode prog_5_method_41_code 13 = .ok (.putfield 26, 3) := by decide +kernel
theorem d_m_room_16 : decode prog_5_method_41_code 16 = .ok (.aload_n 0, 1) := by decide +kernel
theorem d_m_room_17 : decode prog_5_method_41_code 17 = .ok (.getfield 26, 3) := by decide +kernel
theorem d_m_room_20 : decode prog_5_method_41_code 20 = .ok (.ifCond .ne 10, 3) := by decide +kernel
theorem d_m_room_23 : decode prog_5_method_41_code 23 = .ok (.aload_n 0, 1) := by decide +kernel
theorem d_m_room_24 : decode prog_5_method_41_code 24 = .ok (.invokevirtual 57, 3) := by decide +kernel
theorem d_m_room_27 : decode prog_5_method_41_code 27 = .ok (.goto 4, 3) := by decide +kernel
theorem d_m_room_30 : decode prog_5_method_41_code 30 = .ok (.iconst 0, 1) := by decide +kernel
theorem d_m_room_31 : decode prog_5_method_41_code 31 = .ok (.ireturn, 1) := by decide +kernel
end
section
/-! 11: what the pool says at each field, call and making (written by gen_pool.py) -/
theorem rsU_00 : ∀ w ∈ u_ws "RunStore" rsF0 5, w ∈ tables_1 ∧ rs_good w = true := by decide +kernel
theorem rsU_0 : ∀ w ∈ u_ws "RunStore" rsF0 5, w ∈ rsTs := fun w h => rs_in (List.mem_append_right _ (rsU_00 w h).1) (rsU_00 w h).2
theorem rsU_10 : ∀ w ∈ u_ws "RunStore$Entries" rsF1 3, w ∈ tables_1 ∧ rs_good w = true := by decide +kernel
theorem rsU_1 : ∀ w ∈ u_ws "RunStore$Entries" rsF1 3, w ∈ rsTs := fun w h => rs_in (List.mem_append_right _ (rsU_10 w h).1) (rsU_10 w h).2
theorem rsU_20 : ∀ w ∈ u_ws "RunStore$Disk" rsF2 3, w ∈ tables_1 ∧ rs_good w = true := by decide +kernel
theorem rsU_2 : ∀ w ∈ u_ws "RunStore$Disk" rsF2 3, w ∈ rsTs := fun w h => rs_in (List.mem_append_right _ (rsU_20 w h).1) (rsU_20 w h).2
theorem rsU_30 : ∀ w ∈ u_ws "RunStoreModel" rsF3 9, w ∈ tables_1 ∧ rs_good w = true := by decide +kernel
theorem rsU_3 : ∀ w ∈ u_ws "RunStoreModel" rsF3 9, w ∈ rsTs := fun w h => rs_in (List.mem_append_right _ (rsU_30 w h).1) (rsU_30 w h).2
theorem o_s_1 : Cond.methodLink "RunStore" 1 Lib.objectInit ∈ rsTs := rs_t 19 (by decide +kernel) (by decide +kernel)
theorem n_s_7 : rsN "RunStore" 7 1 3 [.null, .null, .int 0] := ⟨"RunStore$Entries", rsF1, rsY1, rfl, rs_t 22 (by decide +kernel) (by decide +kernel), rs_t 23 (by decide +kernel) (by decide +kernel), rs_t 2 (by decide +kernel) (by decide +kernel), rsU_1, rsY1_ok, by decide +kernel⟩
theorem c_s_9 : rsCI "RunStore" 9 M_e_init := ⟨rfl, rfl, rfl, rs_t 24 (by decide +kernel) (by decide +kernel), rs_t 25 (by decide +kernel) (by decide +kernel), rs_t 2 (by decide +kernel) (by decide +kernel), rs_t 26 (by decide +kernel) (by decide +kernel), ⟨by decide, by decide⟩⟩
theorem p_s_10 : rsP "RunStore" 10 0 0 (.object "RunStore$Entries") true := ⟨"RunStore", rsF0, 5, rsY0, rfl, by decide, rs_t 58 (by decide +kernel) (by decide +kernel), rsU_0, rsY0_ok, rsF0_nm, rfl, rfl, rfl⟩
theorem n_s_16 : rsN "RunStore" 16 2 3 [.null, .null, .int 0] := ⟨"RunStore$Disk", rsF2, rsY2, rfl, rs_t 39 (by decide +kernel) (by decide +kernel), rs_t 40 (by decide +kernel) (by decide +kernel), rs_t 3 (by decide +kernel) (by decide +kernel), rsU_2, rsY2_ok, by decide +kernel⟩
theorem c_s_18 : rsCI "RunStore" 18 M_d_init := ⟨rfl, rfl, rfl, rs_t 41 (by decide +kernel) (by decide +kernel), rs_t 42 (by decide +kernel) (by decide +kernel), rs_t 3 (by decide +kernel) (by decide +kernel), rs_t 43 (by decide +kernel) (by decide +kernel), ⟨by decide, by decide⟩⟩
theorem p_s_19 : rsP "RunStore" 19 0 1 (.object "RunStore$Disk") true := ⟨"RunStore", rsF0, 5, rsY0, rfl, by decide, rs_t 59 (by decide +kernel) (by decide +kernel), rsU_0, rsY0_ok, rsF0_nm, rfl, rfl, rfl⟩
theorem p_s_23 : rsP "RunStore" 23 0 2 .boolean false := ⟨"RunStore", rsF0, 5, rsY0, rfl, by decide, rs_t 60 (by decide +kernel) (by decide +kernel), rsU_0, rsY0_ok, rsF0_nm, rfl, rfl, rfl⟩
theorem p_s_27 : rsP "RunStore" 27 0 3 .int false := ⟨"RunStore", rsF0, 5, rsY0, rfl, by decide, rs_t 61 (by decide +kernel) (by decide +kernel), rsU_0, rsY0_ok, rsF0_nm, rfl, rfl, rfl⟩
theorem p_s_31 : rsP "RunStore" 31 0 4 .int false := ⟨"RunStore", rsF0, 5, rsY0, rfl, by decide, rs_t 62 (by decide +kernel) (by decide +kernel), rsU_0, rsY0_ok, rsF0_nm, rfl, rfl, rfl⟩
theorem o_e_3 : Cond.methodLink "RunStore$Entries" 3 Lib.objectInit ∈ rsTs := rs_t 27 (by decide +kernel) (by decide +kernel)
theorem p_e_9 : rsP "RunStore$Entries" 9 1 0 (.array .int) true := ⟨"RunStore$Entries", rsF1, 3, rsY1, rfl, by decide, rs_t 28 (by decide +kernel) (by decide +kernel), rsU_1, rsY1_ok, rsF1_nm, rfl, rfl, rfl⟩
theorem p_e_15 : rsP "RunStore$Entries" 15 1 1 (.array .int) true := ⟨"RunStore$Entries", rsF1, 3, rsY1, rfl, by decide, rs_t 29 (by decide +kernel) (by decide +kernel), rsU_1, rsY1_ok, rsF1_nm, rfl, rfl, rfl⟩
theorem p_e_18 : rsP "RunStore$Entries" 18 1 2 .int false := ⟨"RunStore$Entries", rsF1, 3, rsY1, rfl, by decide, rs_t 30 (by decide +kernel) (by decide +kernel), rsU_1, rsY1_ok, rsF1_nm, rfl, rfl, rfl⟩
theorem o_d_3 : Cond.methodLink "RunStore$Disk" 3 Lib.objectInit ∈ rsTs := rs_t 44 (by decide +kernel) (by decide +kernel)
theorem na_d_9 : Cond.classLink "RunStore$Disk" 9 "RunStore$Entries" ∈ rsTs := rs_t 45 (by decide +kernel) (by decide +kernel)
theorem p_d_11 : rsP "RunStore$Disk" 11 2 0 (.array (.object "RunStore$Entries")) true := ⟨"RunStore$Disk", rsF2, 3, rsY2, rfl, by decide, rs_t 48 (by decide +kernel) (by decide +kernel), rsU_2, rsY2_ok, rsF2_nm, rfl, rfl, rfl⟩
theorem f_d_11 : rsF "RunStore$Disk" 11 2 0 := ⟨"RunStore$Disk", rsF2, 3, rfl, by decide, rs_t 48 (by decide +kernel) (by decide +kernel), rsU_2⟩
theorem n_d_9 : rsN "RunStore$Disk" 9 1 3 [.null, .null, .int 0] := ⟨"RunStore$Entries", rsF1, rsY1, rfl, rs_t 45 (by decide +kernel) (by decide +kernel), rs_t 23 (by decide +kernel) (by decide +kernel), rs_t 2 (by decide +kernel) (by decide +kernel), rsU_1, rsY1_ok, by decide +kernel⟩
theorem c_d_17 : rsCI "RunStore$Disk" 17 M_e_init := ⟨rfl, rfl, rfl, rs_t 47 (by decide +kernel) (by decide +kernel), rs_t 25 (by decide +kernel) (by decide +kernel), rs_t 2 (by decide +kernel) (by decide +kernel), rs_t 26 (by decide +kernel) (by decide +kernel), ⟨by decide, by decide⟩⟩
theorem p_d_18 : rsP "RunStore$Disk" 18 2 1 (.array .int) true := ⟨"RunStore$Disk", rsF2, 3, rsY2, rfl, by decide, rs_t 49 (by decide +kernel) (by decide +kernel), rsU_2, rsY2_ok, rsF2_nm, rfl, rfl, rfl⟩
theorem p_d_22 : rsP "RunStore$Disk" 22 2 2 .boolean false := ⟨"RunStore$Disk", rsF2, 3, rsY2, rfl, by decide, rs_t 50 (by decide +kernel) (by decide +kernel), rsU_2, rsY2_ok, rsF2_nm, rfl, rfl, rfl⟩
theorem f_s_27 : rsF "RunStore" 27 0 3 := ⟨"RunStore", rsF0, 5, rfl, by decide, rs_t 61 (by decide +kernel) (by decide +kernel), rsU_0⟩
theorem f_s_31 : rsF "RunStore" 31 0 4 := ⟨"RunStore", rsF0, 5, rfl, by decide, rs_t 62 (by decide +kernel) (by decide +kernel), rsU_0⟩
theorem c_s_86 : rsCV "RunStore" 86 0 M_s_valueOrZero := ⟨"RunStore", rsF0, 5, rfl, rs_t 86 (by decide +kernel) (by decide +kernel), rs_t 88 (by decide +kernel) (by decide +kernel), rs_s (q := (⟨"RunStore", "valueOrZero", "(I)I"⟩, 5)) 0 (by decide +kernel), rs_t 1 (by decide +kernel) (by decide +kernel), rs_t 89 (by decide +kernel) (by decide +kernel), ⟨by decide, by decide⟩⟩
theorem c_s_179 : rsCV "RunStore" 179 0 M_s_newestWith := ⟨"RunStore", rsF0, 5, rfl, rs_t 90 (by decide +kernel) (by decide +kernel), rs_t 92 (by decide +kernel) (by decide +kernel), rs_s (q := (⟨"RunStore", "newestWith", "(I)LRunStore$Entries;"⟩, 5)) 1 (by decide +kernel), rs_t 1 (by decide +kernel) (by decide +kernel), rs_t 93 (by decide +kernel) (by decide +kernel), ⟨by decide, by decide⟩⟩
theorem c_s_186 : rsCV "RunStore" 186 1 M_e_valueAt := ⟨"RunStore$Entries", rsF1, 3, rfl, rs_t 111 (by decide +kernel) (by decide +kernel), rs_t 112 (by decide +kernel) (by decide +kernel), rs_t 113 (by decide +kernel) (by decide +kernel), rs_t 2 (by decide +kernel) (by decide +kernel), rs_t 114 (by decide +kernel) (by decide +kernel), ⟨by decide, by decide⟩⟩
theorem f_s_10 : rsF "RunStore" 10 0 0 := ⟨"RunStore", rsF0, 5, rfl, by decide, rs_t 58 (by decide +kernel) (by decide +kernel), rsU_0⟩
theorem c_s_159 : rsCV "RunStore" 159 1 M_e_holds := ⟨"RunStore$Entries", rsF1, 3, rfl, rs_t 94 (by decide +kernel) (by decide +kernel), rs_t 95 (by decide +kernel) (by decide +kernel), rs_t 96 (by decide +kernel) (by decide +kernel), rs_t 2 (by decide +kernel) (by decide +kernel), rs_t 97 (by decide +kernel) (by decide +kernel), ⟨by decide, by decide⟩⟩
theorem f_s_19 : rsF "RunStore" 19 0 1 := ⟨"RunStore", rsF0, 5, rfl, by decide, rs_t 59 (by decide +kernel) (by decide +kernel), rsU_0⟩
theorem c_s_189 : rsCV "RunStore" 189 2 M_d_newestRunWith := ⟨"RunStore$Disk", rsF2, 3, rfl, rs_t 98 (by decide +kernel) (by decide +kernel), rs_t 99 (by decide +kernel) (by decide +kernel), rs_t 100 (by decide +kernel) (by decide +kernel), rs_t 3 (by decide +kernel) (by decide +kernel), rs_t 101 (by decide +kernel) (by decide +kernel), ⟨by decide, by decide⟩⟩
theorem f_e_9 : rsF "RunStore$Entries" 9 1 0 := ⟨"RunStore$Entries", rsF1, 3, rfl, by decide, rs_t 28 (by decide +kernel) (by decide +kernel), rsU_1⟩
theorem c_d_36 : rsCV "RunStore$Disk" 36 2 M_d_countRuns := ⟨"RunStore$Disk", rsF2, 3, rfl, rs_t 102 (by decide +kernel) (by decide +kernel), rs_t 103 (by decide +kernel) (by decide +kernel), rs_t 104 (by decide +kernel) (by decide +kernel), rs_t 3 (by decide +kernel) (by decide +kernel), rs_t 105 (by decide +kernel) (by decide +kernel), ⟨by decide, by decide⟩⟩
theorem c_d_43 : rsCV "RunStore$Disk" 43 1 M_e_holds := ⟨"RunStore$Entries", rsF1, 3, rfl, rs_t 110 (by decide +kernel) (by decide +kernel), rs_t 95 (by decide +kernel) (by decide +kernel), rs_t 96 (by decide +kernel) (by decide +kernel), rs_t 2 (by decide +kernel) (by decide +kernel), rs_t 97 (by decide +kernel) (by decide +kernel), ⟨by decide, by decide⟩⟩
theorem c_d_32 : rsCV "RunStore$Disk" 32 2 M_d_firstPlaceOf := ⟨"RunStore$Disk", rsF2, 3, rfl, rs_t 106 (by decide +kernel) (by decide +kernel), rs_t 108 (by decide +kernel) (by decide +kernel), rs_s (q := (⟨"RunStore$Disk", "firstPlaceOf", "(I)I"⟩, 3)) 2 (by decide +kernel), rs_t 3 (by decide +kernel) (by decide +kernel), rs_t 109 (by decide +kernel) (by decide +kernel), ⟨by decide, by decide⟩⟩
theorem f_d_18 : rsF "RunStore$Disk" 18 2 1 := ⟨"RunStore$Disk", rsF2, 3, rfl, by decide, rs_t 49 (by decide +kernel) (by decide +kernel), rsU_2⟩
theorem f_e_15 : rsF "RunStore$Entries" 15 1 1 := ⟨"RunStore$Entries", rsF1, 3, rfl, by decide, rs_t 29 (by decide +kernel) (by decide +kernel), rsU_1⟩
theorem f_s_23 : rsF "RunStore" 23 0 2 := ⟨"RunStore", rsF0, 5, rfl, by decide, rs_t 60 (by decide +kernel) (by decide +kernel), rsU_0⟩
theorem c_s_71 : rsCV "RunStore" 71 1 M_e_count := ⟨"RunStore$Entries", rsF1, 3, rfl, rs_t 119 (by decide +kernel) (by decide +kernel), rs_t 120 (by decide +kernel) (by decide +kernel), rs_t 121 (by decide +kernel) (by decide +kernel), rs_t 2 (by decide +kernel) (by decide +kernel), rs_t 122 (by decide +kernel) (by decide +kernel), ⟨by decide, by decide⟩⟩
theorem f_e_18 : rsF "RunStore$Entries" 18 1 2 := ⟨"RunStore$Entries", rsF1, 3, rfl, by decide, rs_t 30 (by decide +kernel) (by decide +kernel), rsU_1⟩
theorem c_l_7 : rsCV "RunStoreLaw" 7 0 M_s_format := ⟨"RunStore", rsF0, 5, rfl, rs_t 127 (by decide +kernel) (by decide +kernel), rs_t 128 (by decide +kernel) (by decide +kernel), rs_t 129 (by decide +kernel) (by decide +kernel), rs_t 1 (by decide +kernel) (by decide +kernel), rs_t 130 (by decide +kernel) (by decide +kernel), ⟨by decide, by decide⟩⟩
theorem c_s_34 : rsCV "RunStore" 34 0 M_s_spendWrites := ⟨"RunStore", rsF0, 5, rfl, rs_t 131 (by decide +kernel) (by decide +kernel), rs_t 133 (by decide +kernel) (by decide +kernel), rs_s (q := (⟨"RunStore", "spendWrites", "(I)V"⟩, 5)) 3 (by decide +kernel), rs_t 1 (by decide +kernel) (by decide +kernel), rs_t 134 (by decide +kernel) (by decide +kernel), ⟨by decide, by decide⟩⟩
theorem c_s_38 : rsCV "RunStore" 38 2 M_d_makeAnew := ⟨"RunStore$Disk", rsF2, 3, rfl, rs_t 215 (by decide +kernel) (by decide +kernel), rs_t 216 (by decide +kernel) (by decide +kernel), rs_t 217 (by decide +kernel) (by decide +kernel), rs_t 3 (by decide +kernel) (by decide +kernel), rs_t 218 (by decide +kernel) (by decide +kernel), ⟨by decide, by decide⟩⟩
theorem c_s_41 : rsCV "RunStore" 41 0 M_s_comeUp := ⟨"RunStore", rsF0, 5, rfl, rs_t 220 (by decide +kernel) (by decide +kernel), rs_t 222 (by decide +kernel) (by decide +kernel), rs_s (q := (⟨"RunStore", "comeUp", "()V"⟩, 5)) 6 (by decide +kernel), rs_t 1 (by decide +kernel) (by decide +kernel), rs_t 223 (by decide +kernel) (by decide +kernel), ⟨by decide, by decide⟩⟩
theorem c_s_142 : rsCV "RunStore" 142 0 M_s_goDown := ⟨"RunStore", rsF0, 5, rfl, rs_t 135 (by decide +kernel) (by decide +kernel), rs_t 137 (by decide +kernel) (by decide +kernel), rs_s (q := (⟨"RunStore", "goDown", "()V"⟩, 5)) 4 (by decide +kernel), rs_t 1 (by decide +kernel) (by decide +kernel), rs_t 138 (by decide +kernel) (by decide +kernel), ⟨by decide, by decide⟩⟩
theorem n_s_44 : Cond.classLink "RunStore" 44 "java/lang/IllegalStateException" ∈ rsTs := rs_t 146 (by decide +kernel) (by decide +kernel)
theorem x_s_48 : Cond.methodLink "RunStore" 48 (Bundle.initS "java/lang/IllegalStateException") ∈ rsTs := rs_t 189 (by decide +kernel) (by decide +kernel)
theorem c_s_139 : rsCV "RunStore" 139 1 M_e_clear := ⟨"RunStore$Entries", rsF1, 3, rfl, rs_t 139 (by decide +kernel) (by decide +kernel), rs_t 140 (by decide +kernel) (by decide +kernel), rs_t 141 (by decide +kernel) (by decide +kernel), rs_t 2 (by decide +kernel) (by decide +kernel), rs_t 142 (by decide +kernel) (by decide +kernel), ⟨by decide, by decide⟩⟩
theorem c_e_26 : rsCS "RunStore$Entries" 26 M_a_fill := ⟨rs_t 143 (by decide +kernel) (by decide +kernel), rs_t 144 (by decide +kernel) (by decide +kernel), rs_t 5 (by decide +kernel) (by decide +kernel), rs_t 145 (by decide +kernel) (by decide +kernel), ⟨by decide, by decide⟩⟩
theorem c_d_26 : rsCS "RunStore$Disk" 26 M_a_fill := ⟨rs_t 219 (by decide +kernel) (by decide +kernel), rs_t 144 (by decide +kernel) (by decide +kernel), rs_t 5 (by decide +kernel) (by decide +kernel), rs_t 145 (by decide +kernel) (by decide +kernel), ⟨by decide, by decide⟩⟩
theorem c_l_14 : rsCV "RunStoreLaw" 14 0 M_s_recover := ⟨"RunStore", rsF0, 5, rfl, rs_t 227 (by decide +kernel) (by decide +kernel), rs_t 228 (by decide +kernel) (by decide +kernel), rs_t 229 (by decide +kernel) (by decide +kernel), rs_t 1 (by decide +kernel) (by decide +kernel), rs_t 230 (by decide +kernel) (by decide +kernel), ⟨by decide, by decide⟩⟩
theorem c_s_51 : rsCV "RunStore" 51 0 M_s_requireDisk := ⟨"RunStore", rsF0, 5, rfl, rs_t 232 (by decide +kernel) (by decide +kernel), rs_t 234 (by decide +kernel) (by decide +kernel), rs_s (q := (⟨"RunStore", "requireDisk", "()V"⟩, 5)) 7 (by decide +kernel), rs_t 1 (by decide +kernel) (by decide +kernel), rs_t 235 (by decide +kernel) (by decide +kernel), ⟨by decide, by decide⟩⟩
theorem c_s_54 : rsCV "RunStore" 54 2 M_d_countRuns := ⟨"RunStore$Disk", rsF2, 3, rfl, rs_t 241 (by decide +kernel) (by decide +kernel), rs_t 103 (by decide +kernel) (by decide +kernel), rs_t 104 (by decide +kernel) (by decide +kernel), rs_t 3 (by decide +kernel) (by decide +kernel), rs_t 105 (by decide +kernel) (by decide +kernel), ⟨by decide, by decide⟩⟩
theorem c_s_133 : rsCV "RunStore" 133 2 M_d_isMade := ⟨"RunStore$Disk", rsF2, 3, rfl, rs_t 236 (by decide +kernel) (by decide +kernel), rs_t 237 (by decide +kernel) (by decide +kernel), rs_t 238 (by decide +kernel) (by decide +kernel), rs_t 3 (by decide +kernel) (by decide +kernel), rs_t 239 (by decide +kernel) (by decide +kernel), ⟨by decide, by decide⟩⟩
theorem f_d_22 : rsF "RunStore$Disk" 22 2 2 := ⟨"RunStore$Disk", rsF2, 3, rfl, by decide, rs_t 50 (by decide +kernel) (by decide +kernel), rsU_2⟩
theorem c_l_18 : rsCV "RunStoreLaw" 18 0 M_s_put := ⟨"RunStore", rsF0, 5, rfl, rs_t 247 (by decide +kernel) (by decide +kernel), rs_t 248 (by decide +kernel) (by decide +kernel), rs_t 249 (by decide +kernel) (by decide +kernel), rs_t 1 (by decide +kernel) (by decide +kernel), rs_t 250 (by decide +kernel) (by decide +kernel), ⟨by decide, by decide⟩⟩
theorem c_s_58 : rsCS "RunStore" 58 M_s_requireKey := ⟨rs_t 251 (by decide +kernel) (by decide +kernel), rs_t 252 (by decide +kernel) (by decide +kernel), rs_t 1 (by decide +kernel) (by decide +kernel), rs_t 253 (by decide +kernel) (by decide +kernel), ⟨by decide, by decide⟩⟩
theorem c_s_61 : rsCV "RunStore" 61 0 M_s_requireUp := ⟨"RunStore", rsF0, 5, rfl, rs_t 270 (by decide +kernel) (by decide +kernel), rs_t 272 (by decide +kernel) (by decide +kernel), rs_s (q := (⟨"RunStore", "requireUp", "()V"⟩, 5)) 8 (by decide +kernel), rs_t 1 (by decide +kernel) (by decide +kernel), rs_t 273 (by decide +kernel) (by decide +kernel), ⟨by decide, by decide⟩⟩
theorem c_s_64 : rsCV "RunStore" 64 0 M_s_makePlaceInMemory := ⟨"RunStore", rsF0, 5, rfl, rs_t 275 (by decide +kernel) (by decide +kernel), rs_t 277 (by decide +kernel) (by decide +kernel), rs_s (q := (⟨"RunStore", "makePlaceInMemory", "(I)V"⟩, 5)) 9 (by decide +kernel), rs_t 1 (by decide +kernel) (by decide +kernel), rs_t 278 (by decide +kernel) (by decide +kernel), ⟨by decide, by decide⟩⟩
theorem c_s_67 : rsCV "RunStore" 67 1 M_e_setValue := ⟨"RunStore$Entries", rsF1, 3, rfl, rs_t 339 (by decide +kernel) (by decide +kernel), rs_t 340 (by decide +kernel) (by decide +kernel), rs_t 341 (by decide +kernel) (by decide +kernel), rs_t 2 (by decide +kernel) (by decide +kernel), rs_t 342 (by decide +kernel) (by decide +kernel), ⟨by decide, by decide⟩⟩
theorem n_s_102 : Cond.classLink "RunStore" 102 "java/lang/IllegalArgumentException" ∈ rsTs := rs_t 254 (by decide +kernel) (by decide +kernel)
theorem x_s_106 : Cond.methodLink "RunStore" 106 (Bundle.initS "java/lang/IllegalArgumentException") ∈ rsTs := rs_t 264 (by decide +kernel) (by decide +kernel)
theorem c_s_90 : rsCV "RunStore" 90 0 M_s_flushMemory := ⟨"RunStore", rsF0, 5, rfl, rs_t 279 (by decide +kernel) (by decide +kernel), rs_t 281 (by decide +kernel) (by decide +kernel), rs_s (q := (⟨"RunStore", "flushMemory", "()I"⟩, 5)) 10 (by decide +kernel), rs_t 1 (by decide +kernel) (by decide +kernel), rs_t 282 (by decide +kernel) (by decide +kernel), ⟨by decide, by decide⟩⟩
theorem c_s_162 : rsCV "RunStore" 162 2 M_d_draftFrom := ⟨"RunStore$Disk", rsF2, 3, rfl, rs_t 283 (by decide +kernel) (by decide +kernel), rs_t 284 (by decide +kernel) (by decide +kernel), rs_t 285 (by decide +kernel) (by decide +kernel), rs_t 3 (by decide +kernel) (by decide +kernel), rs_t 286 (by decide +kernel) (by decide +kernel), ⟨by decide, by decide⟩⟩
theorem c_s_166 : rsCV "RunStore" 166 0 M_s_writeDraft := ⟨"RunStore", rsF0, 5, rfl, rs_t 301 (by decide +kernel) (by decide +kernel), rs_t 303 (by decide +kernel) (by decide +kernel), rs_s (q := (⟨"RunStore", "writeDraft", "(Z)V"⟩, 5)) 12 (by decide +kernel), rs_t 1 (by decide +kernel) (by decide +kernel), rs_t 304 (by decide +kernel) (by decide +kernel), ⟨by decide, by decide⟩⟩
theorem c_s_170 : rsCV "RunStore" 170 2 M_d_listDraftAsFlushed := ⟨"RunStore$Disk", rsF2, 3, rfl, rs_t 331 (by decide +kernel) (by decide +kernel), rs_t 332 (by decide +kernel) (by decide +kernel), rs_t 333 (by decide +kernel) (by decide +kernel), rs_t 3 (by decide +kernel) (by decide +kernel), rs_t 334 (by decide +kernel) (by decide +kernel), ⟨by decide, by decide⟩⟩
theorem c_d_47 : rsCV "RunStore$Disk" 47 2 M_d_draft := ⟨"RunStore$Disk", rsF2, 3, rfl, rs_t 287 (by decide +kernel) (by decide +kernel), rs_t 288 (by decide +kernel) (by decide +kernel), rs_t 289 (by decide +kernel) (by decide +kernel), rs_t 3 (by decide +kernel) (by decide +kernel), rs_t 290 (by decide +kernel) (by decide +kernel), ⟨by decide, by decide⟩⟩
theorem c_d_51 : rsCV "RunStore$Disk" 51 1 M_e_clear := ⟨"RunStore$Entries", rsF1, 3, rfl, rs_t 291 (by decide +kernel) (by decide +kernel), rs_t 140 (by decide +kernel) (by decide +kernel), rs_t 141 (by decide +kernel) (by decide +kernel), rs_t 2 (by decide +kernel) (by decide +kernel), rs_t 142 (by decide +kernel) (by decide +kernel), ⟨by decide, by decide⟩⟩
theorem c_d_54 : rsCV "RunStore$Disk" 54 1 M_e_addOlder := ⟨"RunStore$Entries", rsF1, 3, rfl, rs_t 292 (by decide +kernel) (by decide +kernel), rs_t 293 (by decide +kernel) (by decide +kernel), rs_t 294 (by decide +kernel) (by decide +kernel), rs_t 2 (by decide +kernel) (by decide +kernel), rs_t 295 (by decide +kernel) (by decide +kernel), ⟨by decide, by decide⟩⟩
theorem c_e_32 : rsCV "RunStore$Entries" 32 1 M_e_holds := ⟨"RunStore$Entries", rsF1, 3, rfl, rs_t 296 (by decide +kernel) (by decide +kernel), rs_t 95 (by decide +kernel) (by decide +kernel), rs_t 96 (by decide +kernel) (by decide +kernel), rs_t 2 (by decide +kernel) (by decide +kernel), rs_t 97 (by decide +kernel) (by decide +kernel), ⟨by decide, by decide⟩⟩
theorem c_e_22 : rsCV "RunStore$Entries" 22 1 M_e_setEntry := ⟨"RunStore$Entries", rsF1, 3, rfl, rs_t 297 (by decide +kernel) (by decide +kernel), rs_t 299 (by decide +kernel) (by decide +kernel), rs_s (q := (⟨"RunStore$Entries", "setEntry", "(III)V"⟩, 3)) 11 (by decide +kernel), rs_t 2 (by decide +kernel) (by decide +kernel), rs_t 300 (by decide +kernel) (by decide +kernel), ⟨by decide, by decide⟩⟩
theorem c_s_147 : rsCV "RunStore" 147 2 M_d_draft := ⟨"RunStore$Disk", rsF2, 3, rfl, rs_t 305 (by decide +kernel) (by decide +kernel), rs_t 288 (by decide +kernel) (by decide +kernel), rs_t 289 (by decide +kernel) (by decide +kernel), rs_t 3 (by decide +kernel) (by decide +kernel), rs_t 290 (by decide +kernel) (by decide +kernel), ⟨by decide, by decide⟩⟩
theorem c_s_151 : rsCV "RunStore" 151 1 M_e_blocks := ⟨"RunStore$Entries", rsF1, 3, rfl, rs_t 306 (by decide +kernel) (by decide +kernel), rs_t 307 (by decide +kernel) (by decide +kernel), rs_t 308 (by decide +kernel) (by decide +kernel), rs_t 2 (by decide +kernel) (by decide +kernel), rs_t 309 (by decide +kernel) (by decide +kernel), ⟨by decide, by decide⟩⟩
theorem c_s_124 : rsCV "RunStore" 124 2 M_d_freeBlocks := ⟨"RunStore$Disk", rsF2, 3, rfl, rs_t 310 (by decide +kernel) (by decide +kernel), rs_t 311 (by decide +kernel) (by decide +kernel), rs_t 312 (by decide +kernel) (by decide +kernel), rs_t 3 (by decide +kernel) (by decide +kernel), rs_t 313 (by decide +kernel) (by decide +kernel), ⟨by decide, by decide⟩⟩
theorem n_s_154 : Cond.classLink "RunStore" 154 "java/lang/UnsupportedOperationException" ∈ rsTs := rs_t 315 (by decide +kernel) (by decide +kernel)
theorem x_s_158 : Cond.methodLink "RunStore" 158 (Bundle.initS "java/lang/UnsupportedOperationException") ∈ rsTs := rs_t 325 (by decide +kernel) (by decide +kernel)
theorem c_d_40 : rsCV "RunStore$Disk" 40 1 M_e_blocks := ⟨"RunStore$Entries", rsF1, 3, rfl, rs_t 314 (by decide +kernel) (by decide +kernel), rs_t 307 (by decide +kernel) (by decide +kernel), rs_t 308 (by decide +kernel) (by decide +kernel), rs_t 2 (by decide +kernel) (by decide +kernel), rs_t 309 (by decide +kernel) (by decide +kernel), ⟨by decide, by decide⟩⟩
theorem c_d_65 : rsCV "RunStore$Disk" 65 2 M_d_moveDraftTo := ⟨"RunStore$Disk", rsF2, 3, rfl, rs_t 335 (by decide +kernel) (by decide +kernel), rs_t 337 (by decide +kernel) (by decide +kernel), rs_s (q := (⟨"RunStore$Disk", "moveDraftTo", "(I)V"⟩, 3)) 13 (by decide +kernel), rs_t 3 (by decide +kernel) (by decide +kernel), rs_t 338 (by decide +kernel) (by decide +kernel), ⟨by decide, by decide⟩⟩
theorem c_l_26 : rsCV "RunStoreLaw" 26 0 M_s_remove := ⟨"RunStore", rsF0, 5, rfl, rs_t 346 (by decide +kernel) (by decide +kernel), rs_t 347 (by decide +kernel) (by decide +kernel), rs_t 348 (by decide +kernel) (by decide +kernel), rs_t 1 (by decide +kernel) (by decide +kernel), rs_t 349 (by decide +kernel) (by decide +kernel), ⟨by decide, by decide⟩⟩
theorem c_s_74 : rsCV "RunStore" 74 0 M_s_isThere := ⟨"RunStore", rsF0, 5, rfl, rs_t 350 (by decide +kernel) (by decide +kernel), rs_t 352 (by decide +kernel) (by decide +kernel), rs_s (q := (⟨"RunStore", "isThere", "(I)Z"⟩, 5)) 14 (by decide +kernel), rs_t 1 (by decide +kernel) (by decide +kernel), rs_t 353 (by decide +kernel) (by decide +kernel), ⟨by decide, by decide⟩⟩
theorem c_s_78 : rsCV "RunStore" 78 1 M_e_setMark := ⟨"RunStore$Entries", rsF1, 3, rfl, rs_t 358 (by decide +kernel) (by decide +kernel), rs_t 359 (by decide +kernel) (by decide +kernel), rs_t 360 (by decide +kernel) (by decide +kernel), rs_t 2 (by decide +kernel) (by decide +kernel), rs_t 361 (by decide +kernel) (by decide +kernel), ⟨by decide, by decide⟩⟩
theorem c_s_183 : rsCV "RunStore" 183 1 M_e_holdsValue := ⟨"RunStore$Entries", rsF1, 3, rfl, rs_t 354 (by decide +kernel) (by decide +kernel), rs_t 355 (by decide +kernel) (by decide +kernel), rs_t 356 (by decide +kernel) (by decide +kernel), rs_t 2 (by decide +kernel) (by decide +kernel), rs_t 357 (by decide +kernel) (by decide +kernel), ⟨by decide, by decide⟩⟩
theorem c_l_30 : rsCV "RunStoreLaw" 30 0 M_s_get := ⟨"RunStore", rsF0, 5, rfl, rs_t 366 (by decide +kernel) (by decide +kernel), rs_t 367 (by decide +kernel) (by decide +kernel), rs_t 368 (by decide +kernel) (by decide +kernel), rs_t 1 (by decide +kernel) (by decide +kernel), rs_t 369 (by decide +kernel) (by decide +kernel), ⟨by decide, by decide⟩⟩
theorem n_s_81 : Cond.classLink "RunStore" 81 "java/util/NoSuchElementException" ∈ rsTs := rs_t 370 (by decide +kernel) (by decide +kernel)
theorem x_s_85 : Cond.methodLink "RunStore" 85 (Bundle.initS "java/util/NoSuchElementException") ∈ rsTs := rs_t 380 (by decide +kernel) (by decide +kernel)
theorem c_l_36 : rsCV "RunStoreLaw" 36 0 M_s_has := ⟨"RunStore", rsF0, 5, rfl, rs_t 389 (by decide +kernel) (by decide +kernel), rs_t 390 (by decide +kernel) (by decide +kernel), rs_t 391 (by decide +kernel) (by decide +kernel), rs_t 1 (by decide +kernel) (by decide +kernel), rs_t 392 (by decide +kernel) (by decide +kernel), ⟨by decide, by decide⟩⟩
theorem c_l_39 : rsCV "RunStoreLaw" 39 0 M_s_flush := ⟨"RunStore", rsF0, 5, rfl, rs_t 396 (by decide +kernel) (by decide +kernel), rs_t 397 (by decide +kernel) (by decide +kernel), rs_t 398 (by decide +kernel) (by decide +kernel), rs_t 1 (by decide +kernel) (by decide +kernel), rs_t 399 (by decide +kernel) (by decide +kernel), ⟨by decide, by decide⟩⟩
theorem c_l_42 : rsCV "RunStoreLaw" 42 0 M_s_compact := ⟨"RunStore", rsF0, 5, rfl, rs_t 403 (by decide +kernel) (by decide +kernel), rs_t 404 (by decide +kernel) (by decide +kernel), rs_t 405 (by decide +kernel) (by decide +kernel), rs_t 1 (by decide +kernel) (by decide +kernel), rs_t 406 (by decide +kernel) (by decide +kernel), ⟨by decide, by decide⟩⟩
theorem c_s_93 : rsCV "RunStore" 93 0 M_s_leastLevelToCompact := ⟨"RunStore", rsF0, 5, rfl, rs_t 407 (by decide +kernel) (by decide +kernel), rs_t 409 (by decide +kernel) (by decide +kernel), rs_s (q := (⟨"RunStore", "leastLevelToCompact", "()I"⟩, 5)) 15 (by decide +kernel), rs_t 1 (by decide +kernel) (by decide +kernel), rs_t 410 (by decide +kernel) (by decide +kernel), ⟨by decide, by decide⟩⟩
theorem c_s_96 : rsCV "RunStore" 96 0 M_s_mergeLevel := ⟨"RunStore", rsF0, 5, rfl, rs_t 415 (by decide +kernel) (by decide +kernel), rs_t 417 (by decide +kernel) (by decide +kernel), rs_s (q := (⟨"RunStore", "mergeLevel", "(I)I"⟩, 5)) 16 (by decide +kernel), rs_t 1 (by decide +kernel) (by decide +kernel), rs_t 418 (by decide +kernel) (by decide +kernel), ⟨by decide, by decide⟩⟩
theorem c_s_112 : rsCV "RunStore" 112 2 M_d_countRunsOf := ⟨"RunStore$Disk", rsF2, 3, rfl, rs_t 411 (by decide +kernel) (by decide +kernel), rs_t 412 (by decide +kernel) (by decide +kernel), rs_t 413 (by decide +kernel) (by decide +kernel), rs_t 3 (by decide +kernel) (by decide +kernel), rs_t 414 (by decide +kernel) (by decide +kernel), ⟨by decide, by decide⟩⟩
theorem c_s_173 : rsCV "RunStore" 173 2 M_d_draftFromLevel := ⟨"RunStore$Disk", rsF2, 3, rfl, rs_t 419 (by decide +kernel) (by decide +kernel), rs_t 420 (by decide +kernel) (by decide +kernel), rs_t 421 (by decide +kernel) (by decide +kernel), rs_t 3 (by decide +kernel) (by decide +kernel), rs_t 422 (by decide +kernel) (by decide +kernel), ⟨by decide, by decide⟩⟩
theorem c_s_176 : rsCV "RunStore" 176 2 M_d_listDraftAsMerged := ⟨"RunStore$Disk", rsF2, 3, rfl, rs_t 431 (by decide +kernel) (by decide +kernel), rs_t 432 (by decide +kernel) (by decide +kernel), rs_t 433 (by decide +kernel) (by decide +kernel), rs_t 3 (by decide +kernel) (by decide +kernel), rs_t 434 (by decide +kernel) (by decide +kernel), ⟨by decide, by decide⟩⟩
theorem c_d_58 : rsCV "RunStore$Disk" 58 2 M_d_run := ⟨"RunStore$Disk", rsF2, 3, rfl, rs_t 423 (by decide +kernel) (by decide +kernel), rs_t 424 (by decide +kernel) (by decide +kernel), rs_t 425 (by decide +kernel) (by decide +kernel), rs_t 3 (by decide +kernel) (by decide +kernel), rs_t 426 (by decide +kernel) (by decide +kernel), ⟨by decide, by decide⟩⟩
theorem c_d_62 : rsCV "RunStore$Disk" 62 1 M_e_leaveOutMarks := ⟨"RunStore$Entries", rsF1, 3, rfl, rs_t 427 (by decide +kernel) (by decide +kernel), rs_t 428 (by decide +kernel) (by decide +kernel), rs_t 429 (by decide +kernel) (by decide +kernel), rs_t 2 (by decide +kernel) (by decide +kernel), rs_t 430 (by decide +kernel) (by decide +kernel), ⟨by decide, by decide⟩⟩
theorem c_d_69 : rsCV "RunStore$Disk" 69 1 M_e_count := ⟨"RunStore$Entries", rsF1, 3, rfl, rs_t 435 (by decide +kernel) (by decide +kernel), rs_t 120 (by decide +kernel) (by decide +kernel), rs_t 121 (by decide +kernel) (by decide +kernel), rs_t 2 (by decide +kernel) (by decide +kernel), rs_t 122 (by decide +kernel) (by decide +kernel), ⟨by decide, by decide⟩⟩
theorem c_d_72 : rsCS "RunStore$Disk" 72 M_a_min := ⟨rs_t 436 (by decide +kernel) (by decide +kernel), rs_t 437 (by decide +kernel) (by decide +kernel), rs_t 13 (by decide +kernel) (by decide +kernel), rs_t 438 (by decide +kernel) (by decide +kernel), ⟨by decide, by decide⟩⟩
theorem c_d_78 : rsCV "RunStore$Disk" 78 2 M_d_moveToDraft := ⟨"RunStore$Disk", rsF2, 3, rfl, rs_t 439 (by decide +kernel) (by decide +kernel), rs_t 441 (by decide +kernel) (by decide +kernel), rs_s (q := (⟨"RunStore$Disk", "moveToDraft", "(I)V"⟩, 3)) 17 (by decide +kernel), rs_t 3 (by decide +kernel) (by decide +kernel), rs_t 442 (by decide +kernel) (by decide +kernel), ⟨by decide, by decide⟩⟩
theorem c_l_45 : rsCV "RunStoreLaw" 45 0 M_s_merge := ⟨"RunStore", rsF0, 5, rfl, rs_t 446 (by decide +kernel) (by decide +kernel), rs_t 447 (by decide +kernel) (by decide +kernel), rs_t 448 (by decide +kernel) (by decide +kernel), rs_t 1 (by decide +kernel) (by decide +kernel), rs_t 449 (by decide +kernel) (by decide +kernel), ⟨by decide, by decide⟩⟩
theorem c_s_99 : rsCS "RunStore" 99 M_s_requireLevel := ⟨rs_t 450 (by decide +kernel) (by decide +kernel), rs_t 451 (by decide +kernel) (by decide +kernel), rs_t 1 (by decide +kernel) (by decide +kernel), rs_t 452 (by decide +kernel) (by decide +kernel), ⟨by decide, by decide⟩⟩
theorem c_s_115 : rsCS "RunStore" 115 M_s_isLevel := ⟨rs_t 453 (by decide +kernel) (by decide +kernel), rs_t 454 (by decide +kernel) (by decide +kernel), rs_t 1 (by decide +kernel) (by decide +kernel), rs_t 455 (by decide +kernel) (by decide +kernel), ⟨by decide, by decide⟩⟩
theorem c_l_48 : rsCV "RunStoreLaw" 48 0 M_s_limit := ⟨"RunStore", rsF0, 5, rfl, rs_t 460 (by decide +kernel) (by decide +kernel), rs_t 461 (by decide +kernel) (by decide +kernel), rs_t 462 (by decide +kernel) (by decide +kernel), rs_t 1 (by decide +kernel) (by decide +kernel), rs_t 463 (by decide +kernel) (by decide +kernel), ⟨by decide, by decide⟩⟩
theorem c_l_52 : rsCV "RunStoreLaw" 52 0 M_s_seek := ⟨"RunStore", rsF0, 5, rfl, rs_t 468 (by decide +kernel) (by decide +kernel), rs_t 469 (by decide +kernel) (by decide +kernel), rs_t 470 (by decide +kernel) (by decide +kernel), rs_t 1 (by decide +kernel) (by decide +kernel), rs_t 471 (by decide +kernel) (by decide +kernel), ⟨by decide, by decide⟩⟩
theorem c_s_107 : rsCV "RunStore" 107 0 M_s_leastKeyThere := ⟨"RunStore", rsF0, 5, rfl, rs_t 472 (by decide +kernel) (by decide +kernel), rs_t 474 (by decide +kernel) (by decide +kernel), rs_s (q := (⟨"RunStore", "leastKeyThere", "(I)I"⟩, 5)) 18 (by decide +kernel), rs_t 1 (by decide +kernel) (by decide +kernel), rs_t 475 (by decide +kernel) (by decide +kernel), ⟨by decide, by decide⟩⟩
theorem c_l_55 : rsCV "RunStoreLaw" 55 0 M_s_next := ⟨"RunStore", rsF0, 5, rfl, rs_t 479 (by decide +kernel) (by decide +kernel), rs_t 480 (by decide +kernel) (by decide +kernel), rs_t 481 (by decide +kernel) (by decide +kernel), rs_t 1 (by decide +kernel) (by decide +kernel), rs_t 482 (by decide +kernel) (by decide +kernel), ⟨by decide, by decide⟩⟩
theorem c_l_59 : rsCV "RunStoreLaw" 59 0 M_s_size := ⟨"RunStore", rsF0, 5, rfl, rs_t 487 (by decide +kernel) (by decide +kernel), rs_t 488 (by decide +kernel) (by decide +kernel), rs_t 489 (by decide +kernel) (by decide +kernel), rs_t 1 (by decide +kernel) (by decide +kernel), rs_t 490 (by decide +kernel) (by decide +kernel), ⟨by decide, by decide⟩⟩
theorem c_l_62 : rsCV "RunStoreLaw" 62 0 M_s_runs := ⟨"RunStore", rsF0, 5, rfl, rs_t 494 (by decide +kernel) (by decide +kernel), rs_t 495 (by decide +kernel) (by decide +kernel), rs_t 496 (by decide +kernel) (by decide +kernel), rs_t 1 (by decide +kernel) (by decide +kernel), rs_t 497 (by decide +kernel) (by decide +kernel), ⟨by decide, by decide⟩⟩
theorem c_l_65 : rsCV "RunStoreLaw" 65 0 M_s_entries := ⟨"RunStore", rsF0, 5, rfl, rs_t 501 (by decide +kernel) (by decide +kernel), rs_t 502 (by decide +kernel) (by decide +kernel), rs_t 503 (by decide +kernel) (by decide +kernel), rs_t 1 (by decide +kernel) (by decide +kernel), rs_t 504 (by decide +kernel) (by decide +kernel), ⟨by decide, by decide⟩⟩
theorem c_s_120 : rsCV "RunStore" 120 2 M_d_run := ⟨"RunStore$Disk", rsF2, 3, rfl, rs_t 506 (by decide +kernel) (by decide +kernel), rs_t 424 (by decide +kernel) (by decide +kernel), rs_t 425 (by decide +kernel) (by decide +kernel), rs_t 3 (by decide +kernel) (by decide +kernel), rs_t 426 (by decide +kernel) (by decide +kernel), ⟨by decide, by decide⟩⟩
theorem c_l_68 : rsCV "RunStoreLaw" 68 0 M_s_room := ⟨"RunStore", rsF0, 5, rfl, rs_t 510 (by decide +kernel) (by decide +kernel), rs_t 511 (by decide +kernel) (by decide +kernel), rs_t 512 (by decide +kernel) (by decide +kernel), rs_t 1 (by decide +kernel) (by decide +kernel), rs_t 513 (by decide +kernel) (by decide +kernel), ⟨by decide, by decide⟩⟩
theorem o_m_1 : Cond.methodLink "RunStoreModel" 1 Lib.objectInit ∈ rsTs := rs_t 519 (by decide +kernel) (by decide +kernel)
theorem p_m_9 : rsP "RunStoreModel" 9 3 3 .int false := ⟨"RunStoreModel", rsF3, 9, rsY3, rfl, by decide, rs_t 523 (by decide +kernel) (by decide +kernel), rsU_3, rsY3_ok, rsF3_nm, rfl, rfl, rfl⟩
theorem p_m_13 : rsP "RunStoreModel" 13 3 5 (.array .int) true := ⟨"RunStoreModel", rsF3, 9, rsY3, rfl, by decide, rs_t 525 (by decide +kernel) (by decide +kernel), rsU_3, rsY3_ok, rsF3_nm, rfl, rfl, rfl⟩
theorem p_m_17 : rsP "RunStoreModel" 17 3 6 (.array .int) true := ⟨"RunStoreModel", rsF3, 9, rsY3, rfl, by decide, rs_t 526 (by decide +kernel) (by decide +kernel), rsU_3, rsY3_ok, rsF3_nm, rfl, rfl, rfl⟩
theorem p_m_20 : rsP "RunStoreModel" 20 3 7 (.array .int) true := ⟨"RunStoreModel", rsF3, 9, rsY3, rfl, by decide, rs_t 527 (by decide +kernel) (by decide +kernel), rsU_3, rsY3_ok, rsF3_nm, rfl, rfl, rfl⟩
theorem p_m_23 : rsP "RunStoreModel" 23 3 8 .int false := ⟨"RunStoreModel", rsF3, 9, rsY3, rfl, by decide, rs_t 528 (by decide +kernel) (by decide +kernel), rsU_3, rsY3_ok, rsF3_nm, rfl, rfl, rfl⟩
theorem f_m_26 : rsF "RunStoreModel" 26 3 0 := ⟨"RunStoreModel", rsF3, 9, rfl, by decide, rs_t 520 (by decide +kernel) (by decide +kernel), rsU_3⟩
theorem c_m_61 : rsCV "RunStoreModel" 61 3 M_m_writes := ⟨"RunStoreModel", rsF3, 9, rfl, rs_t 556 (by decide +kernel) (by decide +kernel), rs_t 558 (by decide +kernel) (by decide +kernel), rs_s (q := (⟨"RunStoreModel", "writes", "(I)Z"⟩, 9)) 19 (by decide +kernel), rs_t 4 (by decide +kernel) (by decide +kernel), rs_t 559 (by decide +kernel) (by decide +kernel), ⟨by decide, by decide⟩⟩
theorem p_m_26 : rsP "RunStoreModel" 26 3 0 .int false := ⟨"RunStoreModel", rsF3, 9, rsY3, rfl, by decide, rs_t 520 (by decide +kernel) (by decide +kernel), rsU_3, rsY3_ok, rsF3_nm, rfl, rfl, rfl⟩
theorem p_m_77 : rsP "RunStoreModel" 77 3 1 .boolean false := ⟨"RunStoreModel", rsF3, 9, rsY3, rfl, by decide, rs_t 521 (by decide +kernel) (by decide +kernel), rsU_3, rsY3_ok, rsF3_nm, rfl, rfl, rfl⟩
theorem p_m_42 : rsP "RunStoreModel" 42 3 2 .boolean false := ⟨"RunStoreModel", rsF3, 9, rsY3, rfl, by decide, rs_t 522 (by decide +kernel) (by decide +kernel), rsU_3, rsY3_ok, rsF3_nm, rfl, rfl, rfl⟩
theorem p_m_29 : rsP "RunStoreModel" 29 3 4 .int false := ⟨"RunStoreModel", rsF3, 9, rsY3, rfl, by decide, rs_t 524 (by decide +kernel) (by decide +kernel), rsU_3, rsY3_ok, rsF3_nm, rfl, rfl, rfl⟩
theorem c_m_46 : rsCV "RunStoreModel" 46 3 M_m_clearRow := ⟨"RunStoreModel", rsF3, 9, rfl, rs_t 564 (by decide +kernel) (by decide +kernel), rs_t 566 (by decide +kernel) (by decide +kernel), rs_s (q := (⟨"RunStoreModel", "clearRow", "(I)V"⟩, 9)) 21 (by decide +kernel), rs_t 4 (by decide +kernel) (by decide +kernel), rs_t 567 (by decide +kernel) (by decide +kernel), ⟨by decide, by decide⟩⟩
theorem f_m_9 : rsF "RunStoreModel" 9 3 3 := ⟨"RunStoreModel", rsF3, 9, rfl, by decide, rs_t 523 (by decide +kernel) (by decide +kernel), rsU_3⟩
theorem c_m_50 : rsCV "RunStoreModel" 50 3 M_m_goDown := ⟨"RunStoreModel", rsF3, 9, rfl, rs_t 560 (by decide +kernel) (by decide +kernel), rs_t 562 (by decide +kernel) (by decide +kernel), rs_s (q := (⟨"RunStoreModel", "goDown", "()V"⟩, 9)) 20 (by decide +kernel), rs_t 4 (by decide +kernel) (by decide +kernel), rs_t 563 (by decide +kernel) (by decide +kernel), ⟨by decide, by decide⟩⟩
theorem f_m_17 : rsF "RunStoreModel" 17 3 6 := ⟨"RunStoreModel", rsF3, 9, rfl, by decide, rs_t 526 (by decide +kernel) (by decide +kernel), rsU_3⟩
theorem f_m_20 : rsF "RunStoreModel" 20 3 7 := ⟨"RunStoreModel", rsF3, 9, rfl, by decide, rs_t 527 (by decide +kernel) (by decide +kernel), rsU_3⟩
theorem f_m_42 : rsF "RunStoreModel" 42 3 2 := ⟨"RunStoreModel", rsF3, 9, rfl, by decide, rs_t 522 (by decide +kernel) (by decide +kernel), rsU_3⟩
theorem f_m_77 : rsF "RunStoreModel" 77 3 1 := ⟨"RunStoreModel", rsF3, 9, rfl, by decide, rs_t 521 (by decide +kernel) (by decide +kernel), rsU_3⟩
theorem f_m_29 : rsF "RunStoreModel" 29 3 4 := ⟨"RunStoreModel", rsF3, 9, rfl, by decide, rs_t 524 (by decide +kernel) (by decide +kernel), rsU_3⟩
theorem c_m_86 : rsCV "RunStoreModel" 86 3 M_m_enter := ⟨"RunStoreModel", rsF3, 9, rfl, rs_t 576 (by decide +kernel) (by decide +kernel), rs_t 578 (by decide +kernel) (by decide +kernel), rs_s (q := (⟨"RunStoreModel", "enter", "(III)V"⟩, 9)) 22 (by decide +kernel), rs_t 4 (by decide +kernel) (by decide +kernel), rs_t 579 (by decide +kernel) (by decide +kernel), ⟨by decide, by decide⟩⟩
theorem c_m_32 : rsCV "RunStoreModel" 32 3 M_m_sizeOf := ⟨"RunStoreModel", rsF3, 9, rfl, rs_t 583 (by decide +kernel) (by decide +kernel), rs_t 585 (by decide +kernel) (by decide +kernel), rs_s (q := (⟨"RunStoreModel", "sizeOf", "(I)I"⟩, 9)) 23 (by decide +kernel), rs_t 4 (by decide +kernel) (by decide +kernel), rs_t 586 (by decide +kernel) (by decide +kernel), ⟨by decide, by decide⟩⟩
theorem c_m_80 : rsCS "RunStoreModel" 80 M_m_isKey := ⟨rs_t 580 (by decide +kernel) (by decide +kernel), rs_t 581 (by decide +kernel) (by decide +kernel), rs_t 4 (by decide +kernel) (by decide +kernel), rs_t 582 (by decide +kernel) (by decide +kernel), ⟨by decide, by decide⟩⟩
theorem c_m_83 : rsCV "RunStoreModel" 83 3 M_m_flushed := ⟨"RunStoreModel", rsF3, 9, rfl, rs_t 587 (by decide +kernel) (by decide +kernel), rs_t 589 (by decide +kernel) (by decide +kernel), rs_s (q := (⟨"RunStoreModel", "flushed", "()I"⟩, 9)) 24 (by decide +kernel), rs_t 4 (by decide +kernel) (by decide +kernel), rs_t 590 (by decide +kernel) (by decide +kernel), ⟨by decide, by decide⟩⟩
theorem c_m_36 : rsCS "RunStoreModel" 36 M_m_blocksFor := ⟨rs_t 591 (by decide +kernel) (by decide +kernel), rs_t 592 (by decide +kernel) (by decide +kernel), rs_t 4 (by decide +kernel) (by decide +kernel), rs_t 593 (by decide +kernel) (by decide +kernel), ⟨by decide, by decide⟩⟩
theorem c_m_57 : rsCV "RunStoreModel" 57 3 M_m_freeBlocks := ⟨"RunStoreModel", rsF3, 9, rfl, rs_t 594 (by decide +kernel) (by decide +kernel), rs_t 596 (by decide +kernel) (by decide +kernel), rs_s (q := (⟨"RunStoreModel", "freeBlocks", "()I"⟩, 9)) 25 (by decide +kernel), rs_t 4 (by decide +kernel) (by decide +kernel), rs_t 597 (by decide +kernel) (by decide +kernel), ⟨by decide, by decide⟩⟩
theorem c_m_53 : rsCV "RunStoreModel" 53 3 M_m_copyRow := ⟨"RunStoreModel", rsF3, 9, rfl, rs_t 598 (by decide +kernel) (by decide +kernel), rs_t 600 (by decide +kernel) (by decide +kernel), rs_s (q := (⟨"RunStoreModel", "copyRow", "(II)V"⟩, 9)) 26 (by decide +kernel), rs_t 4 (by decide +kernel) (by decide +kernel), rs_t 601 (by decide +kernel) (by decide +kernel), ⟨by decide, by decide⟩⟩
theorem c_m_65 : rsCV "RunStoreModel" 65 3 M_m_insert := ⟨"RunStoreModel", rsF3, 9, rfl, rs_t 602 (by decide +kernel) (by decide +kernel), rs_t 604 (by decide +kernel) (by decide +kernel), rs_s (q := (⟨"RunStoreModel", "insert", "(II)V"⟩, 9)) 27 (by decide +kernel), rs_t 4 (by decide +kernel) (by decide +kernel), rs_t 605 (by decide +kernel) (by decide +kernel), ⟨by decide, by decide⟩⟩
theorem f_m_13 : rsF "RunStoreModel" 13 3 5 := ⟨"RunStoreModel", rsF3, 9, rfl, by decide, rs_t 525 (by decide +kernel) (by decide +kernel), rsU_3⟩
theorem c_m_90 : rsCV "RunStoreModel" 90 3 M_m_isThere := ⟨"RunStoreModel", rsF3, 9, rfl, rs_t 610 (by decide +kernel) (by decide +kernel), rs_t 612 (by decide +kernel) (by decide +kernel), rs_s (q := (⟨"RunStoreModel", "isThere", "(I)Z"⟩, 9)) 28 (by decide +kernel), rs_t 4 (by decide +kernel) (by decide +kernel), rs_t 613 (by decide +kernel) (by decide +kernel), ⟨by decide, by decide⟩⟩
theorem c_m_39 : rsCV "RunStoreModel" 39 3 M_m_newest := ⟨"RunStoreModel", rsF3, 9, rfl, rs_t 614 (by decide +kernel) (by decide +kernel), rs_t 616 (by decide +kernel) (by decide +kernel), rs_s (q := (⟨"RunStoreModel", "newest", "(I)I"⟩, 9)) 29 (by decide +kernel), rs_t 4 (by decide +kernel) (by decide +kernel), rs_t 617 (by decide +kernel) (by decide +kernel), ⟨by decide, by decide⟩⟩
theorem c_m_71 : rsCV "RunStoreModel" 71 3 M_m_runsOf := ⟨"RunStoreModel", rsF3, 9, rfl, rs_t 634 (by decide +kernel) (by decide +kernel), rs_t 636 (by decide +kernel) (by decide +kernel), rs_s (q := (⟨"RunStoreModel", "runsOf", "(I)I"⟩, 9)) 30 (by decide +kernel), rs_t 4 (by decide +kernel) (by decide +kernel), rs_t 637 (by decide +kernel) (by decide +kernel), ⟨by decide, by decide⟩⟩
theorem c_m_93 : rsCV "RunStoreModel" 93 3 M_m_merged := ⟨"RunStoreModel", rsF3, 9, rfl, rs_t 638 (by decide +kernel) (by decide +kernel), rs_t 640 (by decide +kernel) (by decide +kernel), rs_s (q := (⟨"RunStoreModel", "merged", "(I)I"⟩, 9)) 31 (by decide +kernel), rs_t 4 (by decide +kernel) (by decide +kernel), rs_t 641 (by decide +kernel) (by decide +kernel), ⟨by decide, by decide⟩⟩
theorem c_m_68 : rsCV "RunStoreModel" 68 3 M_m_begin := ⟨"RunStoreModel", rsF3, 9, rfl, rs_t 642 (by decide +kernel) (by decide +kernel), rs_t 644 (by decide +kernel) (by decide +kernel), rs_s (q := (⟨"RunStoreModel", "begin", "(I)I"⟩, 9)) 32 (by decide +kernel), rs_t 4 (by decide +kernel) (by decide +kernel), rs_t 645 (by decide +kernel) (by decide +kernel), ⟨by decide, by decide⟩⟩
theorem c_m_74 : rsCV "RunStoreModel" 74 3 M_m_takeOut := ⟨"RunStoreModel", rsF3, 9, rfl, rs_t 646 (by decide +kernel) (by decide +kernel), rs_t 648 (by decide +kernel) (by decide +kernel), rs_s (q := (⟨"RunStoreModel", "takeOut", "(I)V"⟩, 9)) 33 (by decide +kernel), rs_t 4 (by decide +kernel) (by decide +kernel), rs_t 649 (by decide +kernel) (by decide +kernel), ⟨by decide, by decide⟩⟩
theorem c_m_96 : rsCS "RunStoreModel" 96 M_m_isLevel := ⟨rs_t 654 (by decide +kernel) (by decide +kernel), rs_t 655 (by decide +kernel) (by decide +kernel), rs_t 4 (by decide +kernel) (by decide +kernel), rs_t 656 (by decide +kernel) (by decide +kernel), ⟨by decide, by decide⟩⟩
theorem c_m_99 : rsCV "RunStoreModel" 99 3 M_m_goTo := ⟨"RunStoreModel", rsF3, 9, rfl, rs_t 669 (by decide +kernel) (by decide +kernel), rs_t 671 (by decide +kernel) (by decide +kernel), rs_s (q := (⟨"RunStoreModel", "goTo", "(I)Z"⟩, 9)) 34 (by decide +kernel), rs_t 4 (by decide +kernel) (by decide +kernel), rs_t 672 (by decide +kernel) (by decide +kernel), ⟨by decide, by decide⟩⟩
theorem f_m_23 : rsF "RunStoreModel" 23 3 8 := ⟨"RunStoreModel", rsF3, 9, rfl, by decide, rs_t 528 (by decide +kernel) (by decide +kernel), rsU_3⟩
theorem n_l_8 : rsN "RunStoreLaw" 8 0 5 [.null, .null, .int 0, .int 0, .int 0] := ⟨"RunStore", rsF0, rsY0, rfl, rs_t 14 (by decide +kernel) (by decide +kernel), rs_t 15 (by decide +kernel) (by decide +kernel), rs_t 1 (by decide +kernel) (by decide +kernel), rsU_0, rsY0_ok, by decide +kernel⟩
theorem c_l_71 : rsCI "RunStoreLaw" 71 M_s_init := ⟨rfl, rfl, rfl, rs_t 16 (by decide +kernel) (by decide +kernel), rs_t 17 (by decide +kernel) (by decide +kernel), rs_t 1 (by decide +kernel) (by decide +kernel), rs_t 18 (by decide +kernel) (by decide +kernel), ⟨by decide, by decide⟩⟩
theorem n_l_72 : rsN "RunStoreLaw" 72 3 9 [.int 0, .int 0, .int 0, .int 0, .int 0, .null, .null, .null, .int 0] := ⟨"RunStoreModel", rsF3, rsY3, rfl, rs_t 514 (by decide +kernel) (by decide +kernel), rs_t 515 (by decide +kernel) (by decide +kernel), rs_t 4 (by decide +kernel) (by decide +kernel), rsU_3, rsY3_ok, by decide +kernel⟩
theorem c_l_74 : rsCI "RunStoreLaw" 74 M_m_init := ⟨rfl, rfl, rfl, rs_t 516 (by decide +kernel) (by decide +kernel), rs_t 517 (by decide +kernel) (by decide +kernel), rs_t 4 (by decide +kernel) (by decide +kernel), rs_t 518 (by decide +kernel) (by decide +kernel), ⟨by decide, by decide⟩⟩
theorem c_l_75 : rsCS "RunStoreLaw" 75 M_l_format := ⟨rs_t 123 (by decide +kernel) (by decide +kernel), rs_t 124 (by decide +kernel) (by decide +kernel), rs_t 0 (by decide +kernel) (by decide +kernel), rs_t 125 (by decide +kernel) (by decide +kernel), ⟨by decide, by decide⟩⟩
theorem c_l_80 : rsCV "RunStoreLaw" 80 3 M_m_format := ⟨"RunStoreModel", rsF3, 9, rfl, rs_t 552 (by decide +kernel) (by decide +kernel), rs_t 553 (by decide +kernel) (by decide +kernel), rs_t 554 (by decide +kernel) (by decide +kernel), rs_t 4 (by decide +kernel) (by decide +kernel), rs_t 555 (by decide +kernel) (by decide +kernel), ⟨by decide, by decide⟩⟩
theorem c_l_81 : rsCV "RunStoreLaw" 81 3 M_m_thrown := ⟨"RunStoreModel", rsF3, 9, rfl, rs_t 548 (by decide +kernel) (by decide +kernel), rs_t 549 (by decide +kernel) (by decide +kernel), rs_t 550 (by decide +kernel) (by decide +kernel), rs_t 4 (by decide +kernel) (by decide +kernel), rs_t 551 (by decide +kernel) (by decide +kernel), ⟨by decide, by decide⟩⟩
theorem c_l_84 : rsCS "RunStoreLaw" 84 M_l_recover := ⟨rs_t 224 (by decide +kernel) (by decide +kernel), rs_t 225 (by decide +kernel) (by decide +kernel), rs_t 0 (by decide +kernel) (by decide +kernel), rs_t 226 (by decide +kernel) (by decide +kernel), ⟨by decide, by decide⟩⟩
theorem c_l_87 : rsCV "RunStoreLaw" 87 3 M_m_recover := ⟨"RunStoreModel", rsF3, 9, rfl, rs_t 568 (by decide +kernel) (by decide +kernel), rs_t 569 (by decide +kernel) (by decide +kernel), rs_t 570 (by decide +kernel) (by decide +kernel), rs_t 4 (by decide +kernel) (by decide +kernel), rs_t 571 (by decide +kernel) (by decide +kernel), ⟨by decide, by decide⟩⟩
theorem c_l_88 : rsCS "RunStoreLaw" 88 M_l_put := ⟨rs_t 242 (by decide +kernel) (by decide +kernel), rs_t 243 (by decide +kernel) (by decide +kernel), rs_t 0 (by decide +kernel) (by decide +kernel), rs_t 244 (by decide +kernel) (by decide +kernel), ⟨by decide, by decide⟩⟩
theorem c_l_91 : rsCV "RunStoreLaw" 91 3 M_m_put := ⟨"RunStoreModel", rsF3, 9, rfl, rs_t 572 (by decide +kernel) (by decide +kernel), rs_t 573 (by decide +kernel) (by decide +kernel), rs_t 574 (by decide +kernel) (by decide +kernel), rs_t 4 (by decide +kernel) (by decide +kernel), rs_t 575 (by decide +kernel) (by decide +kernel), ⟨by decide, by decide⟩⟩
theorem c_l_92 : rsCS "RunStoreLaw" 92 M_l_remove := ⟨rs_t 343 (by decide +kernel) (by decide +kernel), rs_t 344 (by decide +kernel) (by decide +kernel), rs_t 0 (by decide +kernel) (by decide +kernel), rs_t 345 (by decide +kernel) (by decide +kernel), ⟨by decide, by decide⟩⟩
theorem c_l_95 : rsCV "RunStoreLaw" 95 3 M_m_remove := ⟨"RunStoreModel", rsF3, 9, rfl, rs_t 606 (by decide +kernel) (by decide +kernel), rs_t 607 (by decide +kernel) (by decide +kernel), rs_t 608 (by decide +kernel) (by decide +kernel), rs_t 4 (by decide +kernel) (by decide +kernel), rs_t 609 (by decide +kernel) (by decide +kernel), ⟨by decide, by decide⟩⟩
theorem c_l_96 : rsCS "RunStoreLaw" 96 M_l_get := ⟨rs_t 362 (by decide +kernel) (by decide +kernel), rs_t 363 (by decide +kernel) (by decide +kernel), rs_t 0 (by decide +kernel) (by decide +kernel), rs_t 364 (by decide +kernel) (by decide +kernel), ⟨by decide, by decide⟩⟩
theorem c_l_98 : rsCV "RunStoreLaw" 98 3 M_m_get := ⟨"RunStoreModel", rsF3, 9, rfl, rs_t 618 (by decide +kernel) (by decide +kernel), rs_t 619 (by decide +kernel) (by decide +kernel), rs_t 620 (by decide +kernel) (by decide +kernel), rs_t 4 (by decide +kernel) (by decide +kernel), rs_t 621 (by decide +kernel) (by decide +kernel), ⟨by decide, by decide⟩⟩
theorem c_l_99 : rsCS "RunStoreLaw" 99 M_l_has := ⟨rs_t 386 (by decide +kernel) (by decide +kernel), rs_t 387 (by decide +kernel) (by decide +kernel), rs_t 0 (by decide +kernel) (by decide +kernel), rs_t 388 (by decide +kernel) (by decide +kernel), ⟨by decide, by decide⟩⟩
theorem c_l_101 : rsCV "RunStoreLaw" 101 3 M_m_has := ⟨"RunStoreModel", rsF3, 9, rfl, rs_t 622 (by decide +kernel) (by decide +kernel), rs_t 623 (by decide +kernel) (by decide +kernel), rs_t 624 (by decide +kernel) (by decide +kernel), rs_t 4 (by decide +kernel) (by decide +kernel), rs_t 625 (by decide +kernel) (by decide +kernel), ⟨by decide, by decide⟩⟩
theorem c_l_102 : rsCS "RunStoreLaw" 102 M_l_flush := ⟨rs_t 393 (by decide +kernel) (by decide +kernel), rs_t 394 (by decide +kernel) (by decide +kernel), rs_t 0 (by decide +kernel) (by decide +kernel), rs_t 395 (by decide +kernel) (by decide +kernel), ⟨by decide, by decide⟩⟩
theorem c_l_104 : rsCV "RunStoreLaw" 104 3 M_m_flush := ⟨"RunStoreModel", rsF3, 9, rfl, rs_t 626 (by decide +kernel) (by decide +kernel), rs_t 627 (by decide +kernel) (by decide +kernel), rs_t 628 (by decide +kernel) (by decide +kernel), rs_t 4 (by decide +kernel) (by decide +kernel), rs_t 629 (by decide +kernel) (by decide +kernel), ⟨by decide, by decide⟩⟩
theorem c_l_105 : rsCS "RunStoreLaw" 105 M_l_compact := ⟨rs_t 400 (by decide +kernel) (by decide +kernel), rs_t 401 (by decide +kernel) (by decide +kernel), rs_t 0 (by decide +kernel) (by decide +kernel), rs_t 402 (by decide +kernel) (by decide +kernel), ⟨by decide, by decide⟩⟩
theorem c_l_107 : rsCV "RunStoreLaw" 107 3 M_m_compact := ⟨"RunStoreModel", rsF3, 9, rfl, rs_t 630 (by decide +kernel) (by decide +kernel), rs_t 631 (by decide +kernel) (by decide +kernel), rs_t 632 (by decide +kernel) (by decide +kernel), rs_t 4 (by decide +kernel) (by decide +kernel), rs_t 633 (by decide +kernel) (by decide +kernel), ⟨by decide, by decide⟩⟩
theorem c_l_108 : rsCS "RunStoreLaw" 108 M_l_merge := ⟨rs_t 443 (by decide +kernel) (by decide +kernel), rs_t 444 (by decide +kernel) (by decide +kernel), rs_t 0 (by decide +kernel) (by decide +kernel), rs_t 445 (by decide +kernel) (by decide +kernel), ⟨by decide, by decide⟩⟩
theorem c_l_110 : rsCV "RunStoreLaw" 110 3 M_m_merge := ⟨"RunStoreModel", rsF3, 9, rfl, rs_t 650 (by decide +kernel) (by decide +kernel), rs_t 651 (by decide +kernel) (by decide +kernel), rs_t 652 (by decide +kernel) (by decide +kernel), rs_t 4 (by decide +kernel) (by decide +kernel), rs_t 653 (by decide +kernel) (by decide +kernel), ⟨by decide, by decide⟩⟩
theorem c_l_111 : rsCS "RunStoreLaw" 111 M_l_limit := ⟨rs_t 457 (by decide +kernel) (by decide +kernel), rs_t 458 (by decide +kernel) (by decide +kernel), rs_t 0 (by decide +kernel) (by decide +kernel), rs_t 459 (by decide +kernel) (by decide +kernel), ⟨by decide, by decide⟩⟩
theorem c_l_114 : rsCV "RunStoreLaw" 114 3 M_m_limit := ⟨"RunStoreModel", rsF3, 9, rfl, rs_t 657 (by decide +kernel) (by decide +kernel), rs_t 658 (by decide +kernel) (by decide +kernel), rs_t 659 (by decide +kernel) (by decide +kernel), rs_t 4 (by decide +kernel) (by decide +kernel), rs_t 660 (by decide +kernel) (by decide +kernel), ⟨by decide, by decide⟩⟩
theorem c_l_115 : rsCV "RunStoreLaw" 115 0 M_s_left := ⟨"RunStore", rsF0, 5, rfl, rs_t 74 (by decide +kernel) (by decide +kernel), rs_t 75 (by decide +kernel) (by decide +kernel), rs_t 76 (by decide +kernel) (by decide +kernel), rs_t 1 (by decide +kernel) (by decide +kernel), rs_t 77 (by decide +kernel) (by decide +kernel), ⟨by decide, by decide⟩⟩
theorem c_l_118 : rsCV "RunStoreLaw" 118 3 M_m_left := ⟨"RunStoreModel", rsF3, 9, rfl, rs_t 661 (by decide +kernel) (by decide +kernel), rs_t 662 (by decide +kernel) (by decide +kernel), rs_t 663 (by decide +kernel) (by decide +kernel), rs_t 4 (by decide +kernel) (by decide +kernel), rs_t 664 (by decide +kernel) (by decide +kernel), ⟨by decide, by decide⟩⟩
theorem c_l_119 : rsCS "RunStoreLaw" 119 M_l_seek := ⟨rs_t 465 (by decide +kernel) (by decide +kernel), rs_t 466 (by decide +kernel) (by decide +kernel), rs_t 0 (by decide +kernel) (by decide +kernel), rs_t 467 (by decide +kernel) (by decide +kernel), ⟨by decide, by decide⟩⟩
theorem c_l_121 : rsCV "RunStoreLaw" 121 3 M_m_seek := ⟨"RunStoreModel", rsF3, 9, rfl, rs_t 665 (by decide +kernel) (by decide +kernel), rs_t 666 (by decide +kernel) (by decide +kernel), rs_t 667 (by decide +kernel) (by decide +kernel), rs_t 4 (by decide +kernel) (by decide +kernel), rs_t 668 (by decide +kernel) (by decide +kernel), ⟨by decide, by decide⟩⟩
theorem c_l_122 : rsCS "RunStoreLaw" 122 M_l_next := ⟨rs_t 476 (by decide +kernel) (by decide +kernel), rs_t 477 (by decide +kernel) (by decide +kernel), rs_t 0 (by decide +kernel) (by decide +kernel), rs_t 478 (by decide +kernel) (by decide +kernel), ⟨by decide, by decide⟩⟩
theorem c_l_124 : rsCV "RunStoreLaw" 124 3 M_m_next := ⟨"RunStoreModel", rsF3, 9, rfl, rs_t 673 (by decide +kernel) (by decide +kernel), rs_t 674 (by decide +kernel) (by decide +kernel), rs_t 675 (by decide +kernel) (by decide +kernel), rs_t 4 (by decide +kernel) (by decide +kernel), rs_t 676 (by decide +kernel) (by decide +kernel), ⟨by decide, by decide⟩⟩
theorem c_l_125 : rsCV "RunStoreLaw" 125 0 M_s_key := ⟨"RunStore", rsF0, 5, rfl, rs_t 78 (by decide +kernel) (by decide +kernel), rs_t 79 (by decide +kernel) (by decide +kernel), rs_t 80 (by decide +kernel) (by decide +kernel), rs_t 1 (by decide +kernel) (by decide +kernel), rs_t 81 (by decide +kernel) (by decide +kernel), ⟨by decide, by decide⟩⟩
theorem c_l_128 : rsCV "RunStoreLaw" 128 3 M_m_key := ⟨"RunStoreModel", rsF3, 9, rfl, rs_t 677 (by decide +kernel) (by decide +kernel), rs_t 678 (by decide +kernel) (by decide +kernel), rs_t 679 (by decide +kernel) (by decide +kernel), rs_t 4 (by decide +kernel) (by decide +kernel), rs_t 680 (by decide +kernel) (by decide +kernel), ⟨by decide, by decide⟩⟩
theorem c_l_129 : rsCV "RunStoreLaw" 129 0 M_s_value := ⟨"RunStore", rsF0, 5, rfl, rs_t 82 (by decide +kernel) (by decide +kernel), rs_t 83 (by decide +kernel) (by decide +kernel), rs_t 84 (by decide +kernel) (by decide +kernel), rs_t 1 (by decide +kernel) (by decide +kernel), rs_t 85 (by decide +kernel) (by decide +kernel), ⟨by decide, by decide⟩⟩
theorem c_l_132 : rsCV "RunStoreLaw" 132 3 M_m_value := ⟨"RunStoreModel", rsF3, 9, rfl, rs_t 681 (by decide +kernel) (by decide +kernel), rs_t 682 (by decide +kernel) (by decide +kernel), rs_t 683 (by decide +kernel) (by decide +kernel), rs_t 4 (by decide +kernel) (by decide +kernel), rs_t 684 (by decide +kernel) (by decide +kernel), ⟨by decide, by decide⟩⟩
theorem c_l_133 : rsCS "RunStoreLaw" 133 M_l_size := ⟨rs_t 484 (by decide +kernel) (by decide +kernel), rs_t 485 (by decide +kernel) (by decide +kernel), rs_t 0 (by decide +kernel) (by decide +kernel), rs_t 486 (by decide +kernel) (by decide +kernel), ⟨by decide, by decide⟩⟩
theorem c_l_135 : rsCV "RunStoreLaw" 135 3 M_m_size := ⟨"RunStoreModel", rsF3, 9, rfl, rs_t 685 (by decide +kernel) (by decide +kernel), rs_t 686 (by decide +kernel) (by decide +kernel), rs_t 687 (by decide +kernel) (by decide +kernel), rs_t 4 (by decide +kernel) (by decide +kernel), rs_t 688 (by decide +kernel) (by decide +kernel), ⟨by decide, by decide⟩⟩
theorem c_l_136 : rsCV "RunStoreLaw" 136 0 M_s_memory := ⟨"RunStore", rsF0, 5, rfl, rs_t 115 (by decide +kernel) (by decide +kernel), rs_t 116 (by decide +kernel) (by decide +kernel), rs_t 117 (by decide +kernel) (by decide +kernel), rs_t 1 (by decide +kernel) (by decide +kernel), rs_t 118 (by decide +kernel) (by decide +kernel), ⟨by decide, by decide⟩⟩
theorem c_l_139 : rsCV "RunStoreLaw" 139 3 M_m_memory := ⟨"RunStoreModel", rsF3, 9, rfl, rs_t 689 (by decide +kernel) (by decide +kernel), rs_t 690 (by decide +kernel) (by decide +kernel), rs_t 691 (by decide +kernel) (by decide +kernel), rs_t 4 (by decide +kernel) (by decide +kernel), rs_t 692 (by decide +kernel) (by decide +kernel), ⟨by decide, by decide⟩⟩
theorem c_l_140 : rsCS "RunStoreLaw" 140 M_l_runs := ⟨rs_t 491 (by decide +kernel) (by decide +kernel), rs_t 492 (by decide +kernel) (by decide +kernel), rs_t 0 (by decide +kernel) (by decide +kernel), rs_t 493 (by decide +kernel) (by decide +kernel), ⟨by decide, by decide⟩⟩
theorem c_l_142 : rsCV "RunStoreLaw" 142 3 M_m_runs := ⟨"RunStoreModel", rsF3, 9, rfl, rs_t 693 (by decide +kernel) (by decide +kernel), rs_t 694 (by decide +kernel) (by decide +kernel), rs_t 695 (by decide +kernel) (by decide +kernel), rs_t 4 (by decide +kernel) (by decide +kernel), rs_t 696 (by decide +kernel) (by decide +kernel), ⟨by decide, by decide⟩⟩
theorem c_l_143 : rsCS "RunStoreLaw" 143 M_l_entries := ⟨rs_t 498 (by decide +kernel) (by decide +kernel), rs_t 499 (by decide +kernel) (by decide +kernel), rs_t 0 (by decide +kernel) (by decide +kernel), rs_t 500 (by decide +kernel) (by decide +kernel), ⟨by decide, by decide⟩⟩
theorem c_l_145 : rsCV "RunStoreLaw" 145 3 M_m_entries := ⟨"RunStoreModel", rsF3, 9, rfl, rs_t 697 (by decide +kernel) (by decide +kernel), rs_t 698 (by decide +kernel) (by decide +kernel), rs_t 699 (by decide +kernel) (by decide +kernel), rs_t 4 (by decide +kernel) (by decide +kernel), rs_t 700 (by decide +kernel) (by decide +kernel), ⟨by decide, by decide⟩⟩
theorem c_l_146 : rsCS "RunStoreLaw" 146 M_l_room := ⟨rs_t 507 (by decide +kernel) (by decide +kernel), rs_t 508 (by decide +kernel) (by decide +kernel), rs_t 0 (by decide +kernel) (by decide +kernel), rs_t 509 (by decide +kernel) (by decide +kernel), ⟨by decide, by decide⟩⟩
theorem c_l_148 : rsCV "RunStoreLaw" 148 3 M_m_room := ⟨"RunStoreModel", rsF3, 9, rfl, rs_t 701 (by decide +kernel) (by decide +kernel), rs_t 702 (by decide +kernel) (by decide +kernel), rs_t 703 (by decide +kernel) (by decide +kernel), rs_t 4 (by decide +kernel) (by decide +kernel), rs_t 704 (by decide +kernel) (by decide +kernel), ⟨by decide, by decide⟩⟩
theorem np_s_init : (parseMethodDescriptor M_s_init.1.desc).map (fun d => d.parameters.length) = some 0 := by decide +kernel
theorem pf_s_init : plainFor M_s_init.1 = true := by decide +kernel
theorem np_e_init : (parseMethodDescriptor M_e_init.1.desc).map (fun d => d.parameters.length) = some 0 := by decide +kernel
theorem pf_e_init : plainFor M_e_init.1 = true := by decide +kernel
theorem np_d_init : (parseMethodDescriptor M_d_init.1.desc).map (fun d => d.parameters.length) = some 0 := by decide +kernel
theorem pf_d_init : plainFor M_d_init.1 = true := by decide +kernel
theorem np_s_left : (parseMethodDescriptor M_s_left.1.desc).map (fun d => d.parameters.length) = some 0 := by decide +kernel
theorem pf_s_left : plainFor M_s_left.1 = true := by decide +kernel
theorem np_s_key : (parseMethodDescriptor M_s_key.1.desc).map (fun d => d.parameters.length) = some 0 := by decide +kernel
theorem pf_s_key : plainFor M_s_key.1 = true := by decide +kernel
theorem np_s_value : (parseMethodDescriptor M_s_value.1.desc).map (fun d => d.parameters.length) = some 0 := by decide +kernel
theorem pf_s_value : plainFor M_s_value.1 = true := by decide +kernel
theorem np_s_valueOrZero : (parseMethodDescriptor M_s_valueOrZero.1.desc).map (fun d => d.parameters.length) = some 1 := by decide +kernel
theorem pf_s_valueOrZero : plainFor M_s_valueOrZero.1 = true := by decide +kernel
theorem np_s_newestWith : (parseMethodDescriptor M_s_newestWith.1.desc).map (fun d => d.parameters.length) = some 1 := by decide +kernel
theorem pf_s_newestWith : plainFor M_s_newestWith.1 = true := by decide +kernel
theorem np_e_holds : (parseMethodDescriptor M_e_holds.1.desc).map (fun d => d.parameters.length) = some 1 := by decide +kernel
theorem pf_e_holds : plainFor M_e_holds.1 = true := by decide +kernel
theorem np_d_newestRunWith : (parseMethodDescriptor M_d_newestRunWith.1.desc).map (fun d => d.parameters.length) = some 1 := by decide +kernel
theorem pf_d_newestRunWith : plainFor M_d_newestRunWith.1 = true := by decide +kernel
theorem np_d_countRuns : (parseMethodDescriptor M_d_countRuns.1.desc).map (fun d => d.parameters.length) = some 0 := by decide +kernel
theorem pf_d_countRuns : plainFor M_d_countRuns.1 = true := by decide +kernel
theorem np_d_firstPlaceOf : (parseMethodDescriptor M_d_firstPlaceOf.1.desc).map (fun d => d.parameters.length) = some 1 := by decide +kernel
theorem pf_d_firstPlaceOf : plainFor M_d_firstPlaceOf.1 = true := by decide +kernel
theorem np_e_valueAt : (parseMethodDescriptor M_e_valueAt.1.desc).map (fun d => d.parameters.length) = some 1 := by decide +kernel
theorem pf_e_valueAt : plainFor M_e_valueAt.1 = true := by decide +kernel
theorem np_s_memory : (parseMethodDescriptor M_s_memory.1.desc).map (fun d => d.parameters.length) = some 0 := by decide +kernel
theorem pf_s_memory : plainFor M_s_memory.1 = true := by decide +kernel
theorem np_e_count : (parseMethodDescriptor M_e_count.1.desc).map (fun d => d.parameters.length) = some 0 := by decide +kernel
theorem pf_e_count : plainFor M_e_count.1 = true := by decide +kernel
theorem np_l_format : (parseMethodDescriptor M_l_format.1.desc).map (fun d => d.parameters.length) = some 1 := by decide +kernel
theorem pf_l_format : plainFor M_l_format.1 = true := by decide +kernel
theorem np_s_format : (parseMethodDescriptor M_s_format.1.desc).map (fun d => d.parameters.length) = some 0 := by decide +kernel
theorem pf_s_format : plainFor M_s_format.1 = true := by decide +kernel
theorem np_s_spendWrites : (parseMethodDescriptor M_s_spendWrites.1.desc).map (fun d => d.parameters.length) = some 1 := by decide +kernel
theorem pf_s_spendWrites : plainFor M_s_spendWrites.1 = true := by decide +kernel
theorem np_s_goDown : (parseMethodDescriptor M_s_goDown.1.desc).map (fun d => d.parameters.length) = some 0 := by decide +kernel
theorem pf_s_goDown : plainFor M_s_goDown.1 = true := by decide +kernel
theorem np_e_clear : (parseMethodDescriptor M_e_clear.1.desc).map (fun d => d.parameters.length) = some 0 := by decide +kernel
theorem pf_e_clear : plainFor M_e_clear.1 = true := by decide +kernel
theorem np_a_fill : (parseMethodDescriptor M_a_fill.1.desc).map (fun d => d.parameters.length) = some 2 := by decide +kernel
theorem pf_a_fill : plainFor M_a_fill.1 = true := by decide +kernel
theorem np_d_makeAnew : (parseMethodDescriptor M_d_makeAnew.1.desc).map (fun d => d.parameters.length) = some 0 := by decide +kernel
theorem pf_d_makeAnew : plainFor M_d_makeAnew.1 = true := by decide +kernel
theorem np_s_comeUp : (parseMethodDescriptor M_s_comeUp.1.desc).map (fun d => d.parameters.length) = some 0 := by decide +kernel
theorem pf_s_comeUp : plainFor M_s_comeUp.1 = true := by decide +kernel
theorem np_l_recover : (parseMethodDescriptor M_l_recover.1.desc).map (fun d => d.parameters.length) = some 2 := by decide +kernel
theorem pf_l_recover : plainFor M_l_recover.1 = true := by decide +kernel
theorem np_s_recover : (parseMethodDescriptor M_s_recover.1.desc).map (fun d => d.parameters.length) = some 0 := by decide +kernel
theorem pf_s_recover : plainFor M_s_recover.1 = true := by decide +kernel
theorem np_s_requireDisk : (parseMethodDescriptor M_s_requireDisk.1.desc).map (fun d => d.parameters.length) = some 0 := by decide +kernel
theorem pf_s_requireDisk : plainFor M_s_requireDisk.1 = true := by decide +kernel
theorem np_d_isMade : (parseMethodDescriptor M_d_isMade.1.desc).map (fun d => d.parameters.length) = some 0 := by decide +kernel
theorem pf_d_isMade : plainFor M_d_isMade.1 = true := by decide +kernel
theorem np_l_put : (parseMethodDescriptor M_l_put.1.desc).map (fun d => d.parameters.length) = some 4 := by decide +kernel
theorem pf_l_put : plainFor M_l_put.1 = true := by decide +kernel
theorem np_s_put : (parseMethodDescriptor M_s_put.1.desc).map (fun d => d.parameters.length) = some 2 := by decide +kernel
theorem pf_s_put : plainFor M_s_put.1 = true := by decide +kernel
theorem np_s_requireKey : (parseMethodDescriptor M_s_requireKey.1.desc).map (fun d => d.parameters.length) = some 1 := by decide +kernel
theorem pf_s_requireKey : plainFor M_s_requireKey.1 = true := by decide +kernel
theorem np_s_requireUp : (parseMethodDescriptor M_s_requireUp.1.desc).map (fun d => d.parameters.length) = some 0 := by decide +kernel
theorem pf_s_requireUp : plainFor M_s_requireUp.1 = true := by decide +kernel
theorem np_s_makePlaceInMemory : (parseMethodDescriptor M_s_makePlaceInMemory.1.desc).map (fun d => d.parameters.length) = some 1 := by decide +kernel
theorem pf_s_makePlaceInMemory : plainFor M_s_makePlaceInMemory.1 = true := by decide +kernel
theorem np_s_flushMemory : (parseMethodDescriptor M_s_flushMemory.1.desc).map (fun d => d.parameters.length) = some 0 := by decide +kernel
theorem pf_s_flushMemory : plainFor M_s_flushMemory.1 = true := by decide +kernel
theorem np_d_draftFrom : (parseMethodDescriptor M_d_draftFrom.1.desc).map (fun d => d.parameters.length) = some 1 := by decide +kernel
theorem pf_d_draftFrom : plainFor M_d_draftFrom.1 = true := by decide +kernel
theorem np_d_draft : (parseMethodDescriptor M_d_draft.1.desc).map (fun d => d.parameters.length) = some 0 := by decide +kernel
theorem pf_d_draft : plainFor M_d_draft.1 = true := by decide +kernel
theorem np_e_addOlder : (parseMethodDescriptor M_e_addOlder.1.desc).map (fun d => d.parameters.length) = some 1 := by decide +kernel
theorem pf_e_addOlder : plainFor M_e_addOlder.1 = true := by decide +kernel
theorem np_e_setEntry : (parseMethodDescriptor M_e_setEntry.1.desc).map (fun d => d.parameters.length) = some 3 := by decide +kernel
theorem pf_e_setEntry : plainFor M_e_setEntry.1 = true := by decide +kernel
theorem np_s_writeDraft : (parseMethodDescriptor M_s_writeDraft.1.desc).map (fun d => d.parameters.length) = some 1 := by decide +kernel
theorem pf_s_writeDraft : plainFor M_s_writeDraft.1 = true := by decide +kernel
theorem np_e_blocks : (parseMethodDescriptor M_e_blocks.1.desc).map (fun d => d.parameters.length) = some 0 := by decide +kernel
theorem pf_e_blocks : plainFor M_e_blocks.1 = true := by decide +kernel
theorem np_d_freeBlocks : (parseMethodDescriptor M_d_freeBlocks.1.desc).map (fun d => d.parameters.length) = some 0 := by decide +kernel
theorem pf_d_freeBlocks : plainFor M_d_freeBlocks.1 = true := by decide +kernel
theorem np_d_listDraftAsFlushed : (parseMethodDescriptor M_d_listDraftAsFlushed.1.desc).map (fun d => d.parameters.length) = some 0 := by decide +kernel
theorem pf_d_listDraftAsFlushed : plainFor M_d_listDraftAsFlushed.1 = true := by decide +kernel
theorem np_d_moveDraftTo : (parseMethodDescriptor M_d_moveDraftTo.1.desc).map (fun d => d.parameters.length) = some 1 := by decide +kernel
theorem pf_d_moveDraftTo : plainFor M_d_moveDraftTo.1 = true := by decide +kernel
theorem np_e_setValue : (parseMethodDescriptor M_e_setValue.1.desc).map (fun d => d.parameters.length) = some 2 := by decide +kernel
theorem pf_e_setValue : plainFor M_e_setValue.1 = true := by decide +kernel
theorem np_l_remove : (parseMethodDescriptor M_l_remove.1.desc).map (fun d => d.parameters.length) = some 3 := by decide +kernel
theorem pf_l_remove : plainFor M_l_remove.1 = true := by decide +kernel
theorem np_s_remove : (parseMethodDescriptor M_s_remove.1.desc).map (fun d => d.parameters.length) = some 1 := by decide +kernel
theorem pf_s_remove : plainFor M_s_remove.1 = true := by decide +kernel
theorem np_s_isThere : (parseMethodDescriptor M_s_isThere.1.desc).map (fun d => d.parameters.length) = some 1 := by decide +kernel
theorem pf_s_isThere : plainFor M_s_isThere.1 = true := by decide +kernel
theorem np_e_holdsValue : (parseMethodDescriptor M_e_holdsValue.1.desc).map (fun d => d.parameters.length) = some 1 := by decide +kernel
theorem pf_e_holdsValue : plainFor M_e_holdsValue.1 = true := by decide +kernel
theorem np_e_setMark : (parseMethodDescriptor M_e_setMark.1.desc).map (fun d => d.parameters.length) = some 1 := by decide +kernel
theorem pf_e_setMark : plainFor M_e_setMark.1 = true := by decide +kernel
theorem np_l_get : (parseMethodDescriptor M_l_get.1.desc).map (fun d => d.parameters.length) = some 3 := by decide +kernel
theorem pf_l_get : plainFor M_l_get.1 = true := by decide +kernel
theorem np_s_get : (parseMethodDescriptor M_s_get.1.desc).map (fun d => d.parameters.length) = some 1 := by decide +kernel
theorem pf_s_get : plainFor M_s_get.1 = true := by decide +kernel
theorem np_l_has : (parseMethodDescriptor M_l_has.1.desc).map (fun d => d.parameters.length) = some 3 := by decide +kernel
theorem pf_l_has : plainFor M_l_has.1 = true := by decide +kernel
theorem np_s_has : (parseMethodDescriptor M_s_has.1.desc).map (fun d => d.parameters.length) = some 1 := by decide +kernel
theorem pf_s_has : plainFor M_s_has.1 = true := by decide +kernel
theorem np_l_flush : (parseMethodDescriptor M_l_flush.1.desc).map (fun d => d.parameters.length) = some 2 := by decide +kernel
theorem pf_l_flush : plainFor M_l_flush.1 = true := by decide +kernel
theorem np_s_flush : (parseMethodDescriptor M_s_flush.1.desc).map (fun d => d.parameters.length) = some 0 := by decide +kernel
theorem pf_s_flush : plainFor M_s_flush.1 = true := by decide +kernel
theorem np_l_compact : (parseMethodDescriptor M_l_compact.1.desc).map (fun d => d.parameters.length) = some 2 := by decide +kernel
theorem pf_l_compact : plainFor M_l_compact.1 = true := by decide +kernel
theorem np_s_compact : (parseMethodDescriptor M_s_compact.1.desc).map (fun d => d.parameters.length) = some 0 := by decide +kernel
theorem pf_s_compact : plainFor M_s_compact.1 = true := by decide +kernel
theorem np_s_leastLevelToCompact : (parseMethodDescriptor M_s_leastLevelToCompact.1.desc).map (fun d => d.parameters.length) = some 0 := by decide +kernel
theorem pf_s_leastLevelToCompact : plainFor M_s_leastLevelToCompact.1 = true := by decide +kernel
theorem np_d_countRunsOf : (parseMethodDescriptor M_d_countRunsOf.1.desc).map (fun d => d.parameters.length) = some 1 := by decide +kernel
theorem pf_d_countRunsOf : plainFor M_d_countRunsOf.1 = true := by decide +kernel
theorem np_s_mergeLevel : (parseMethodDescriptor M_s_mergeLevel.1.desc).map (fun d => d.parameters.length) = some 1 := by decide +kernel
theorem pf_s_mergeLevel : plainFor M_s_mergeLevel.1 = true := by decide +kernel
theorem np_d_draftFromLevel : (parseMethodDescriptor M_d_draftFromLevel.1.desc).map (fun d => d.parameters.length) = some 1 := by decide +kernel
theorem pf_d_draftFromLevel : plainFor M_d_draftFromLevel.1 = true := by decide +kernel
theorem np_d_run : (parseMethodDescriptor M_d_run.1.desc).map (fun d => d.parameters.length) = some 2 := by decide +kernel
theorem pf_d_run : plainFor M_d_run.1 = true := by decide +kernel
theorem np_e_leaveOutMarks : (parseMethodDescriptor M_e_leaveOutMarks.1.desc).map (fun d => d.parameters.length) = some 0 := by decide +kernel
theorem pf_e_leaveOutMarks : plainFor M_e_leaveOutMarks.1 = true := by decide +kernel
theorem np_d_listDraftAsMerged : (parseMethodDescriptor M_d_listDraftAsMerged.1.desc).map (fun d => d.parameters.length) = some 1 := by decide +kernel
theorem pf_d_listDraftAsMerged : plainFor M_d_listDraftAsMerged.1 = true := by decide +kernel
theorem np_a_min : (parseMethodDescriptor M_a_min.1.desc).map (fun d => d.parameters.length) = some 2 := by decide +kernel
theorem pf_a_min : plainFor M_a_min.1 = true := by decide +kernel
theorem np_d_moveToDraft : (parseMethodDescriptor M_d_moveToDraft.1.desc).map (fun d => d.parameters.length) = some 1 := by decide +kernel
theorem pf_d_moveToDraft : plainFor M_d_moveToDraft.1 = true := by decide +kernel
theorem np_l_merge : (parseMethodDescriptor M_l_merge.1.desc).map (fun d => d.parameters.length) = some 3 := by decide +kernel
theorem pf_l_merge : plainFor M_l_merge.1 = true := by decide +kernel
theorem np_s_merge : (parseMethodDescriptor M_s_merge.1.desc).map (fun d => d.parameters.length) = some 1 := by decide +kernel
theorem pf_s_merge : plainFor M_s_merge.1 = true := by decide +kernel
theorem np_s_requireLevel : (parseMethodDescriptor M_s_requireLevel.1.desc).map (fun d => d.parameters.length) = some 1 := by decide +kernel
theorem pf_s_requireLevel : plainFor M_s_requireLevel.1 = true := by decide +kernel
theorem np_s_isLevel : (parseMethodDescriptor M_s_isLevel.1.desc).map (fun d => d.parameters.length) = some 1 := by decide +kernel
theorem pf_s_isLevel : plainFor M_s_isLevel.1 = true := by decide +kernel
theorem np_l_limit : (parseMethodDescriptor M_l_limit.1.desc).map (fun d => d.parameters.length) = some 2 := by decide +kernel
theorem pf_l_limit : plainFor M_l_limit.1 = true := by decide +kernel
theorem np_s_limit : (parseMethodDescriptor M_s_limit.1.desc).map (fun d => d.parameters.length) = some 1 := by decide +kernel
theorem pf_s_limit : plainFor M_s_limit.1 = true := by decide +kernel
theorem np_l_seek : (parseMethodDescriptor M_l_seek.1.desc).map (fun d => d.parameters.length) = some 3 := by decide +kernel
theorem pf_l_seek : plainFor M_l_seek.1 = true := by decide +kernel
theorem np_s_seek : (parseMethodDescriptor M_s_seek.1.desc).map (fun d => d.parameters.length) = some 1 := by decide +kernel
theorem pf_s_seek : plainFor M_s_seek.1 = true := by decide +kernel
theorem np_s_leastKeyThere : (parseMethodDescriptor M_s_leastKeyThere.1.desc).map (fun d => d.parameters.length) = some 1 := by decide +kernel
theorem pf_s_leastKeyThere : plainFor M_s_leastKeyThere.1 = true := by decide +kernel
theorem np_l_next : (parseMethodDescriptor M_l_next.1.desc).map (fun d => d.parameters.length) = some 2 := by decide +kernel
theorem pf_l_next : plainFor M_l_next.1 = true := by decide +kernel
theorem np_s_next : (parseMethodDescriptor M_s_next.1.desc).map (fun d => d.parameters.length) = some 0 := by decide +kernel
theorem pf_s_next : plainFor M_s_next.1 = true := by decide +kernel
theorem np_l_size : (parseMethodDescriptor M_l_size.1.desc).map (fun d => d.parameters.length) = some 2 := by decide +kernel
theorem pf_l_size : plainFor M_l_size.1 = true := by decide +kernel
theorem np_s_size : (parseMethodDescriptor M_s_size.1.desc).map (fun d => d.parameters.length) = some 0 := by decide +kernel
theorem pf_s_size : plainFor M_s_size.1 = true := by decide +kernel
theorem np_l_runs : (parseMethodDescriptor M_l_runs.1.desc).map (fun d => d.parameters.length) = some 3 := by decide +kernel
theorem pf_l_runs : plainFor M_l_runs.1 = true := by decide +kernel
theorem np_s_runs : (parseMethodDescriptor M_s_runs.1.desc).map (fun d => d.parameters.length) = some 1 := by decide +kernel
theorem pf_s_runs : plainFor M_s_runs.1 = true := by decide +kernel
theorem np_l_entries : (parseMethodDescriptor M_l_entries.1.desc).map (fun d => d.parameters.length) = some 4 := by decide +kernel
theorem pf_l_entries : plainFor M_l_entries.1 = true := by decide +kernel
theorem np_s_entries : (parseMethodDescriptor M_s_entries.1.desc).map (fun d => d.parameters.length) = some 2 := by decide +kernel
theorem pf_s_entries : plainFor M_s_entries.1 = true := by decide +kernel
theorem np_l_room : (parseMethodDescriptor M_l_room.1.desc).map (fun d => d.parameters.length) = some 2 := by decide +kernel
theorem pf_l_room : plainFor M_l_room.1 = true := by decide +kernel
theorem np_s_room : (parseMethodDescriptor M_s_room.1.desc).map (fun d => d.parameters.length) = some 0 := by decide +kernel
theorem pf_s_room : plainFor M_s_room.1 = true := by decide +kernel
theorem np_m_init : (parseMethodDescriptor M_m_init.1.desc).map (fun d => d.parameters.length) = some 0 := by decide +kernel
theorem pf_m_init : plainFor M_m_init.1 = true := by decide +kernel
theorem np_m_thrown : (parseMethodDescriptor M_m_thrown.1.desc).map (fun d => d.parameters.length) = some 0 := by decide +kernel
theorem pf_m_thrown : plainFor M_m_thrown.1 = true := by decide +kernel
theorem np_m_format : (parseMethodDescriptor M_m_format.1.desc).map (fun d => d.parameters.length) = some 0 := by decide +kernel
theorem pf_m_format : plainFor M_m_format.1 = true := by decide +kernel
theorem np_m_writes : (parseMethodDescriptor M_m_writes.1.desc).map (fun d => d.parameters.length) = some 1 := by decide +kernel
theorem pf_m_writes : plainFor M_m_writes.1 = true := by decide +kernel
theorem np_m_goDown : (parseMethodDescriptor M_m_goDown.1.desc).map (fun d => d.parameters.length) = some 0 := by decide +kernel
theorem pf_m_goDown : plainFor M_m_goDown.1 = true := by decide +kernel
theorem np_m_clearRow : (parseMethodDescriptor M_m_clearRow.1.desc).map (fun d => d.parameters.length) = some 1 := by decide +kernel
theorem pf_m_clearRow : plainFor M_m_clearRow.1 = true := by decide +kernel
theorem np_m_recover : (parseMethodDescriptor M_m_recover.1.desc).map (fun d => d.parameters.length) = some 0 := by decide +kernel
theorem pf_m_recover : plainFor M_m_recover.1 = true := by decide +kernel
theorem np_m_put : (parseMethodDescriptor M_m_put.1.desc).map (fun d => d.parameters.length) = some 2 := by decide +kernel
theorem pf_m_put : plainFor M_m_put.1 = true := by decide +kernel
theorem np_m_enter : (parseMethodDescriptor M_m_enter.1.desc).map (fun d => d.parameters.length) = some 3 := by decide +kernel
theorem pf_m_enter : plainFor M_m_enter.1 = true := by decide +kernel
theorem np_m_isKey : (parseMethodDescriptor M_m_isKey.1.desc).map (fun d => d.parameters.length) = some 1 := by decide +kernel
theorem pf_m_isKey : plainFor M_m_isKey.1 = true := by decide +kernel
theorem np_m_sizeOf : (parseMethodDescriptor M_m_sizeOf.1.desc).map (fun d => d.parameters.length) = some 1 := by decide +kernel
theorem pf_m_sizeOf : plainFor M_m_sizeOf.1 = true := by decide +kernel
theorem np_m_flushed : (parseMethodDescriptor M_m_flushed.1.desc).map (fun d => d.parameters.length) = some 0 := by decide +kernel
theorem pf_m_flushed : plainFor M_m_flushed.1 = true := by decide +kernel
theorem np_m_blocksFor : (parseMethodDescriptor M_m_blocksFor.1.desc).map (fun d => d.parameters.length) = some 1 := by decide +kernel
theorem pf_m_blocksFor : plainFor M_m_blocksFor.1 = true := by decide +kernel
theorem np_m_freeBlocks : (parseMethodDescriptor M_m_freeBlocks.1.desc).map (fun d => d.parameters.length) = some 0 := by decide +kernel
theorem pf_m_freeBlocks : plainFor M_m_freeBlocks.1 = true := by decide +kernel
theorem np_m_copyRow : (parseMethodDescriptor M_m_copyRow.1.desc).map (fun d => d.parameters.length) = some 2 := by decide +kernel
theorem pf_m_copyRow : plainFor M_m_copyRow.1 = true := by decide +kernel
theorem np_m_insert : (parseMethodDescriptor M_m_insert.1.desc).map (fun d => d.parameters.length) = some 2 := by decide +kernel
theorem pf_m_insert : plainFor M_m_insert.1 = true := by decide +kernel
theorem np_m_remove : (parseMethodDescriptor M_m_remove.1.desc).map (fun d => d.parameters.length) = some 1 := by decide +kernel
theorem pf_m_remove : plainFor M_m_remove.1 = true := by decide +kernel
theorem np_m_isThere : (parseMethodDescriptor M_m_isThere.1.desc).map (fun d => d.parameters.length) = some 1 := by decide +kernel
theorem pf_m_isThere : plainFor M_m_isThere.1 = true := by decide +kernel
theorem np_m_newest : (parseMethodDescriptor M_m_newest.1.desc).map (fun d => d.parameters.length) = some 1 := by decide +kernel
theorem pf_m_newest : plainFor M_m_newest.1 = true := by decide +kernel
theorem np_m_get : (parseMethodDescriptor M_m_get.1.desc).map (fun d => d.parameters.length) = some 1 := by decide +kernel
theorem pf_m_get : plainFor M_m_get.1 = true := by decide +kernel
theorem np_m_has : (parseMethodDescriptor M_m_has.1.desc).map (fun d => d.parameters.length) = some 1 := by decide +kernel
theorem pf_m_has : plainFor M_m_has.1 = true := by decide +kernel
theorem np_m_flush : (parseMethodDescriptor M_m_flush.1.desc).map (fun d => d.parameters.length) = some 0 := by decide +kernel
theorem pf_m_flush : plainFor M_m_flush.1 = true := by decide +kernel
theorem np_m_compact : (parseMethodDescriptor M_m_compact.1.desc).map (fun d => d.parameters.length) = some 0 := by decide +kernel
theorem pf_m_compact : plainFor M_m_compact.1 = true := by decide +kernel
theorem np_m_runsOf : (parseMethodDescriptor M_m_runsOf.1.desc).map (fun d => d.parameters.length) = some 1 := by decide +kernel
theorem pf_m_runsOf : plainFor M_m_runsOf.1 = true := by decide +kernel
theorem np_m_merged : (parseMethodDescriptor M_m_merged.1.desc).map (fun d => d.parameters.length) = some 1 := by decide +kernel
theorem pf_m_merged : plainFor M_m_merged.1 = true := by decide +kernel
theorem np_m_begin : (parseMethodDescriptor M_m_begin.1.desc).map (fun d => d.parameters.length) = some 1 := by decide +kernel
theorem pf_m_begin : plainFor M_m_begin.1 = true := by decide +kernel
theorem np_m_takeOut : (parseMethodDescriptor M_m_takeOut.1.desc).map (fun d => d.parameters.length) = some 1 := by decide +kernel
theorem pf_m_takeOut : plainFor M_m_takeOut.1 = true := by decide +kernel
theorem np_m_merge : (parseMethodDescriptor M_m_merge.1.desc).map (fun d => d.parameters.length) = some 1 := by decide +kernel
theorem pf_m_merge : plainFor M_m_merge.1 = true := by decide +kernel
theorem np_m_isLevel : (parseMethodDescriptor M_m_isLevel.1.desc).map (fun d => d.parameters.length) = some 1 := by decide +kernel
theorem pf_m_isLevel : plainFor M_m_isLevel.1 = true := by decide +kernel
theorem np_m_limit : (parseMethodDescriptor M_m_limit.1.desc).map (fun d => d.parameters.length) = some 1 := by decide +kernel
theorem pf_m_limit : plainFor M_m_limit.1 = true := by decide +kernel
theorem np_m_left : (parseMethodDescriptor M_m_left.1.desc).map (fun d => d.parameters.length) = some 0 := by decide +kernel
theorem pf_m_left : plainFor M_m_left.1 = true := by decide +kernel
theorem np_m_seek : (parseMethodDescriptor M_m_seek.1.desc).map (fun d => d.parameters.length) = some 1 := by decide +kernel
theorem pf_m_seek : plainFor M_m_seek.1 = true := by decide +kernel
theorem np_m_goTo : (parseMethodDescriptor M_m_goTo.1.desc).map (fun d => d.parameters.length) = some 1 := by decide +kernel
theorem pf_m_goTo : plainFor M_m_goTo.1 = true := by decide +kernel
theorem np_m_next : (parseMethodDescriptor M_m_next.1.desc).map (fun d => d.parameters.length) = some 0 := by decide +kernel
theorem pf_m_next : plainFor M_m_next.1 = true := by decide +kernel
theorem np_m_key : (parseMethodDescriptor M_m_key.1.desc).map (fun d => d.parameters.length) = some 0 := by decide +kernel
theorem pf_m_key : plainFor M_m_key.1 = true := by decide +kernel
theorem np_m_value : (parseMethodDescriptor M_m_value.1.desc).map (fun d => d.parameters.length) = some 0 := by decide +kernel
theorem pf_m_value : plainFor M_m_value.1 = true := by decide +kernel
theorem np_m_size : (parseMethodDescriptor M_m_size.1.desc).map (fun d => d.parameters.length) = some 0 := by decide +kernel
theorem pf_m_size : plainFor M_m_size.1 = true := by decide +kernel
theorem np_m_memory : (parseMethodDescriptor M_m_memory.1.desc).map (fun d => d.parameters.length) = some 0 := by decide +kernel
theorem pf_m_memory : plainFor M_m_memory.1 = true := by decide +kernel
theorem np_m_runs : (parseMethodDescriptor M_m_runs.1.desc).map (fun d => d.parameters.length) = some 1 := by decide +kernel
theorem pf_m_runs : plainFor M_m_runs.1 = true := by decide +kernel
theorem np_m_entries : (parseMethodDescriptor M_m_entries.1.desc).map (fun d => d.parameters.length) = some 2 := by decide +kernel
theorem pf_m_entries : plainFor M_m_entries.1 = true := by decide +kernel
theorem np_m_room : (parseMethodDescriptor M_m_room.1.desc).map (fun d => d.parameters.length) = some 0 := by decide +kernel
theorem pf_m_room : plainFor M_m_room.1 = true := by decide +kernel
theorem np_l_law : (parseMethodDescriptor M_l_law.1.desc).map (fun d => d.parameters.length) = some 1 := by decide +kernel
theorem pf_l_law : plainFor M_l_law.1 = true := by decide +kernel
theorem k_l_12 : Cond.classLink "RunStoreLaw" 12 "java/lang/IllegalStateException" ∈ rsTs := rs_t 126 (by decide +kernel) (by decide +kernel)
theorem k_l_22 : Cond.classLink "RunStoreLaw" 22 "java/lang/IllegalArgumentException" ∈ rsTs := rs_t 245 (by decide +kernel) (by decide +kernel)
theorem k_l_24 : Cond.classLink "RunStoreLaw" 24 "java/lang/UnsupportedOperationException" ∈ rsTs := rs_t 246 (by decide +kernel) (by decide +kernel)
theorem k_l_34 : Cond.classLink "RunStoreLaw" 34 "java/util/NoSuchElementException" ∈ rsTs := rs_t 365 (by decide +kernel) (by decide +kernel)
theorem t_arrI : Cond.arrayClass .int ∈ rsTs := rs_t 38 (by decide +kernel) (by decide +kernel)
theorem t_arrL : Cond.arrayClass .long ∈ rsTs := rs_t 705 (by decide +kernel) (by decide +kernel)
theorem t_arrE : Cond.arrayOver (.object "RunStore$Entries") ∈ rsTs := rs_t 46 (by decide +kernel) (by decide +kernel)
theorem t_obj1 : Cond.instanceMethod Lib.objectInit ∈ rsTs := rs_t 20 (by decide +kernel) (by decide +kernel)
theorem t_obj2 : Cond.code Lib.objectInit ⟨#[0xb1]⟩ 1 none ∈ rsTs := rs_t 21 (by decide +kernel) (by decide +kernel)
theorem t_ins0 : Cond.instantiable (rsEx 0) 6 ∈ rsTs := rs_t 255 (by decide +kernel) (by decide +kernel)
theorem t_ini0 : Cond.initialized (rsEx 0) ∈ rsTs := rs_t 10 (by decide +kernel) (by decide +kernel)
theorem t_ins1 : Cond.instantiable (rsEx 1) 6 ∈ rsTs := rs_t 147 (by decide +kernel) (by decide +kernel)
theorem t_ini1 : Cond.initialized (rsEx 1) ∈ rsTs := rs_t 9 (by decide +kernel) (by decide +kernel)
theorem t_ins2 : Cond.instantiable (rsEx 2) 6 ∈ rsTs := rs_t 316 (by decide +kernel) (by decide +kernel)
theorem t_ini2 : Cond.initialized (rsEx 2) ∈ rsTs := rs_t 11 (by decide +kernel) (by decide +kernel)
theorem t_ins3 : Cond.instantiable (rsEx 3) 6 ∈ rsTs := rs_t 371 (by decide +kernel) (by decide +kernel)
theorem t_ini3 : Cond.initialized (rsEx 3) ∈ rsTs := rs_t 12 (by decide +kernel) (by decide +kernel)
end
section
/-! 12: the methods of Entries, Arrays.fill and Math.min (written by gen_entries.py) -/
set_option maxRecDepth 100000 in
theorem k_count {G : rsG} {n : Nat} {K V : Nat → Nat → Int32} {c P r : Nat → Nat} {md up wl cu : Int32} {hf : rsH} {j : Nat} (hj : j ≤ 13) : rsK G M_e_count (rmO 0 0) [.ref (rw_eo (rsB G) j)] (rwd G K V c P r md up wl cu hf) n (rsOk (some (.int (nI (c j)))) (rwd G K V c P r md up wl cu hf) n) := by
  refine rsK_of pf_e_count rfl (Nat.le_of_ble_eq_true rfl) rfl ?_
  refine rs_aload_n d_e_count_0 rfl rfl ?_
  refine rx_get_ct (by first | assumption | omega) d_e_count_1 rfl f_e_18 ?_
  exact rs_ireturn d_e_count_4 rfl ⟨rfl, rfl, rfl⟩
set_option maxRecDepth 100000 in
theorem k_blocks {G : rsG} {n : Nat} {K V : Nat → Nat → Int32} {c P r : Nat → Nat} {md up wl cu : Int32} {hf : rsH} {j : Nat} (hj : j ≤ 13) (hc : c j ≤ 100) : rsK G M_e_blocks (rmO 0 0) [.ref (rw_eo (rsB G) j)] (rwd G K V c P r md up wl cu hf) n (rsOk (some (.int (nI ((c j + 3) / 4)))) (rwd G K V c P r md up wl cu hf) n) := by
  refine rsK_of pf_e_blocks rfl (Nat.le_of_ble_eq_true rfl) rfl ?_
  refine rs_aload_n d_e_blocks_0 rfl rfl ?_
  refine rx_get_ct (by first | assumption | omega) d_e_blocks_1 rfl f_e_18 ?_
  refine rs_iconst (v := (nI 4)) d_e_blocks_4 rfl (by decide) ?_
  refine rs_iadd d_e_blocks_5 rfl ?_
  refine rs_iconst (v := (nI 1)) d_e_blocks_6 rfl (by decide) ?_
  refine rs_isub d_e_blocks_7 rfl ?_
  refine rs_iconst (v := (nI 4)) d_e_blocks_8 rfl (by decide) ?_
  refine rs_idiv d_e_blocks_9 rfl (by decide) ?_
  exact rs_ireturn d_e_blocks_10 rfl ⟨by rw [nI_add, pk_sub (by omega), pk_div (by omega) (by omega) (by omega), show c j + 4 - 1 = c j + 3 by omega], rfl, rfl⟩
set_option maxRecDepth 100000 in
theorem k_holds {G : rsG} {n : Nat} {K V : Nat → Nat → Int32} {c P r : Nat → Nat} {md up wl cu : Int32} {hf : rsH} {j key : Nat} (hj : j ≤ 13) (hk : key < 100) : rsK G M_e_holds (rmO 0 0) [.ref (rw_eo (rsB G) j), .int (nI key)] (rwd G K V c P r md up wl cu hf) n (rsOk (some (.int (if K j key = 0 then 0 else 1))) (rwd G K V c P r md up wl cu hf) n) := by
  refine rsK_of pf_e_holds rfl (Nat.le_of_ble_eq_true rfl) rfl ?_
  refine rs_aload_n d_e_holds_0 rfl rfl ?_
  refine rx_get_ki (by first | assumption | omega) d_e_holds_1 rfl f_e_9 ?_
  refine rs_iload_n d_e_holds_4 rfl rfl ?_
  refine rx_ld_k (by first | assumption | omega) (by first | assumption | omega) d_e_holds_5 rfl ?_
  refine rs_if_eq (tgt := 13) d_e_holds_6 rfl (by decide) (fun hc => ?_) (fun hc => ?_)
  · refine rs_iconst (v := 0) d_e_holds_13 rfl (by decide) ?_
    exact rs_zreturn d_e_holds_14 rfl rfl ⟨by rw [if_pos hc], rfl, rfl⟩
  · refine rs_iconst (v := 1) d_e_holds_9 rfl (by decide) ?_
    refine rs_goto (tgt := 14) d_e_holds_10 (by decide) ?_
    exact rs_zreturn d_e_holds_14 rfl rfl ⟨by rw [if_neg hc], rfl, rfl⟩
set_option maxRecDepth 100000 in
theorem k_holdsValue {G : rsG} {n : Nat} {K V : Nat → Nat → Int32} {c P r : Nat → Nat} {md up wl cu : Int32} {hf : rsH} {j key : Nat} (hj : j ≤ 13) (hk : key < 100) : rsK G M_e_holdsValue (rmO 0 0) [.ref (rw_eo (rsB G) j), .int (nI key)] (rwd G K V c P r md up wl cu hf) n (rsOk (some (.int (if K j key = 1 then 1 else 0))) (rwd G K V c P r md up wl cu hf) n) := by
  refine rsK_of pf_e_holdsValue rfl (Nat.le_of_ble_eq_true rfl) rfl ?_
  refine rs_aload_n d_e_holdsValue_0 rfl rfl ?_
  refine rx_get_ki (by first | assumption | omega) d_e_holdsValue_1 rfl f_e_9 ?_
  refine rs_iload_n d_e_holdsValue_4 rfl rfl ?_
  refine rx_ld_k (by first | assumption | omega) (by first | assumption | omega) d_e_holdsValue_5 rfl ?_
  refine rs_iconst (v := 1) d_e_holdsValue_6 rfl (by decide) ?_
  refine rs_icmp_ne (tgt := 14) d_e_holdsValue_7 rfl (by decide) (fun hc => ?_) (fun hc => ?_)
  · refine rs_iconst (v := 0) d_e_holdsValue_14 rfl (by decide) ?_
    exact rs_zreturn d_e_holdsValue_15 rfl rfl ⟨by rw [if_neg hc], rfl, rfl⟩
  · refine rs_iconst (v := 1) d_e_holdsValue_10 rfl (by decide) ?_
    refine rs_goto (tgt := 15) d_e_holdsValue_11 (by decide) ?_
    exact rs_zreturn d_e_holdsValue_15 rfl rfl ⟨by rw [if_pos hc], rfl, rfl⟩
set_option maxRecDepth 100000 in
theorem k_valueAt {G : rsG} {n : Nat} {K V : Nat → Nat → Int32} {c P r : Nat → Nat} {md up wl cu : Int32} {hf : rsH} {j key : Nat} (hj : j ≤ 13) (hk : key < 100) : rsK G M_e_valueAt (rmO 0 0) [.ref (rw_eo (rsB G) j), .int (nI key)] (rwd G K V c P r md up wl cu hf) n (rsOk (some (.int (V j key))) (rwd G K V c P r md up wl cu hf) n) := by
  refine rsK_of pf_e_valueAt rfl (Nat.le_of_ble_eq_true rfl) rfl ?_
  refine rs_aload_n d_e_valueAt_0 rfl rfl ?_
  refine rx_get_va (by first | assumption | omega) d_e_valueAt_1 rfl f_e_15 ?_
  refine rs_iload_n d_e_valueAt_4 rfl rfl ?_
  refine rx_ld_v (by first | assumption | omega) (by first | assumption | omega) d_e_valueAt_5 rfl ?_
  exact rs_ireturn d_e_valueAt_6 rfl ⟨rfl, rfl, rfl⟩
def rp_c (K : Nat → Nat → Int32) (c : Nat → Nat) (j key : Nat) : Nat → Nat := if K j key = 0 then va_up c j (c j + 1) else c
def rp_u (K : Nat → Nat → Int32) (j key : Nat) (x : Int32) : Nat → Nat → Int32 := va_up K j (upd (K j) key x)
set_option maxRecDepth 100000 in
theorem k_setEntry {G : rsG} {n : Nat} {K V : Nat → Nat → Int32} {c P r : Nat → Nat} {md up wl cu : Int32} {hf : rsH} {j key : Nat} {kd vl : Int32} (hj : j ≤ 13) (hk : key < 100) : rsK G M_e_setEntry (rmO 1 21) [.ref (rw_eo (rsB G) j), .int (nI key), .int kd, .int vl] (rwd G K V c P r md up wl cu hf) n (rsOk (none) (rwd G (rp_u K j key kd) (rp_u V j key vl) (rp_c K c j key) P r md up wl cu hf) n) := by
  refine rsK_of pf_e_setEntry rfl (Nat.le_of_ble_eq_true rfl) rfl ?_
  refine rs_aload_n d_e_setEntry_0 rfl rfl ?_
  refine rs_iload_n d_e_setEntry_1 rfl rfl ?_
  refine rx_cV d_e_setEntry_2 rfl c_e_32 (by exact np_e_holds) (rw_e hj) (k_holds hj hk) (by decide) ⟨rfl, rfl⟩ (Nat.le_of_ble_eq_true rfl) rfl ?_
  by_cases h0 : K j key = 0
  · rw [if_pos h0]
    refine rs_if_ne (tgt := 18) d_e_setEntry_5 rfl (by decide) (fun hc => absurd rfl hc) (fun _ => ?_)
    refine rs_aload_n d_e_setEntry_8 rfl rfl ?_
    refine rs_dup d_e_setEntry_9 rfl rfl ?_
    refine rx_get_ct (by first | assumption | omega) d_e_setEntry_10 rfl f_e_18 ?_
    refine rs_iconst (v := (nI 1)) d_e_setEntry_13 rfl (by decide) ?_
    refine rs_iadd d_e_setEntry_14 rfl ?_
    refine rs_tope (nI_add _ _) ?_
    refine rx_put_ct (by first | assumption | omega) d_e_setEntry_15 rfl p_e_18 ?_
    refine rs_aload_n d_e_setEntry_18 rfl rfl ?_
    refine rx_get_ki (by first | assumption | omega) d_e_setEntry_19 rfl f_e_9 ?_
    refine rs_iload_n d_e_setEntry_22 rfl rfl ?_
    refine rs_iload_n d_e_setEntry_23 rfl rfl ?_
    refine rx_st_k (by first | assumption | omega) (by first | assumption | omega) d_e_setEntry_24 rfl ?_
    refine rs_aload_n d_e_setEntry_25 rfl rfl ?_
    refine rx_get_va (by first | assumption | omega) d_e_setEntry_26 rfl f_e_15 ?_
    refine rs_iload_n d_e_setEntry_29 rfl rfl ?_
    refine rs_iload_n d_e_setEntry_30 rfl rfl ?_
    refine rx_st_v (by first | assumption | omega) (by first | assumption | omega) d_e_setEntry_31 rfl ?_
    exact rs_vreturn d_e_setEntry_32 rfl ⟨rfl, by simp only [rp_c, rp_u, if_pos h0], rfl⟩
  · rw [if_neg h0]
    refine rs_if_ne (tgt := 18) d_e_setEntry_5 rfl (by decide) (fun _ => ?_) (fun hc => absurd hc (by decide))
    refine rs_aload_n d_e_setEntry_18 rfl rfl ?_
    refine rx_get_ki (by first | assumption | omega) d_e_setEntry_19 rfl f_e_9 ?_
    refine rs_iload_n d_e_setEntry_22 rfl rfl ?_
    refine rs_iload_n d_e_setEntry_23 rfl rfl ?_
    refine rx_st_k (by first | assumption | omega) (by first | assumption | omega) d_e_setEntry_24 rfl ?_
    refine rs_aload_n d_e_setEntry_25 rfl rfl ?_
    refine rx_get_va (by first | assumption | omega) d_e_setEntry_26 rfl f_e_15 ?_
    refine rs_iload_n d_e_setEntry_29 rfl rfl ?_
    refine rs_iload_n d_e_setEntry_30 rfl rfl ?_
    refine rx_st_v (by first | assumption | omega) (by first | assumption | omega) d_e_setEntry_31 rfl ?_
    exact rs_vreturn d_e_setEntry_32 rfl ⟨rfl, by simp only [rp_c, rp_u, if_neg h0], rfl⟩
end
section
/-! 13: loops: Arrays.fill, Entries.clear, addOlder, leaveOutMarks (written by gen_entries2.py) -/
theorem rs_inc1 (i : Nat) : nI i + Int32.ofInt 1 = nI (i + 1) := (nI_succ i).symm
theorem rs_up_self {h : rsH} {a : Nat} {e : va_E} (hh : h a = some e) : h = rs_up h a e := by
  funext b
  unfold rs_up
  by_cases hb : b = a
  · rw [if_pos hb, hb, hh]
  · rw [if_neg hb]
theorem rs_up_at {h : rsH} {a : Nat} {e : va_E} : rs_up h a e a = some e := by unfold rs_up; rw [if_pos rfl]
theorem rs_up_up {h : rsH} {a : Nat} {e e' : va_E} : rs_up (rs_up h a e) a e' = rs_up h a e' := by
  funext b
  unfold rs_up
  by_cases hb : b = a
  · rw [if_pos hb, if_pos hb]
  · rw [if_neg hb, if_neg hb, if_neg hb]
theorem rs_vcell {cA : ClassId} {len : Nat} {f g : Nat → Int32} (h : ∀ i, i < len → f i = g i) : vp_cell cA (len, .inl f) = vp_cell cA (len, .inl g) := by
  rw [vp_cell_i, vp_cell_i]
  unfold arrV
  congr 2
  funext j
  show Value.int (f j.val) = Value.int (g j.val)
  rw [h j.val j.isLt]
theorem rp_up_id {α : Type} (f : Nat → α) (j : Nat) : va_up f j (f j) = f := by
  funext q
  unfold va_up
  by_cases h : q = j
  · rw [if_pos h, h]
  · rw [if_neg h]
theorem rp_up_j {α : Type} (f : Nat → α) (j : Nat) (x : α) : va_up f j x j = x := by unfold va_up; rw [if_pos rfl]
theorem rp_up_ne {α : Type} (f : Nat → α) {i j : Nat} (x : α) (h : i ≠ j) : va_up f j x i = f i := by unfold va_up; rw [if_neg h]
theorem rp_up_up {α : Type} (f : Nat → α) (j : Nat) (x y : α) : va_up (va_up f j x) j y = va_up f j y := by
  funext q
  unfold va_up
  by_cases h : q = j
  · rw [if_pos h, if_pos h]
  · rw [if_neg h, if_neg h, if_neg h]
section RSAR
variable {G : rsG} {M : rsM} {rm : Room} {Q : rsR → rsH → Nat → Prop} {kc ks pc : Nat} {L : List (Option Value)} {st : List Value} {h h' : rsH} {n : Nat}
theorem rsV_eq (e : h = h') (k : rsV G M rm Q kc ks pc L st h' n) : rsV G M rm Q kc ks pc L st h n := e ▸ k
theorem rsV_arr {a len : Nat} {f g : Nat → Int32} (hfg : ∀ i, i < len → f i = g i) (k : rsV G M rm Q kc ks pc L st (rs_up h a (.inl (G.2.2.2.1, len, .inl g))) n) : rsV G M rm Q kc ks pc L st (rs_up h a (.inl (G.2.2.2.1, len, .inl f))) n := by
  intro hU p e s m args below meth c H locs cells slots ls Cx S hc hs hls
  refine k hU p e s m args below meth c H locs cells slots ls Cx ⟨fun b x hx => ?_, S.2.1, S.2.2.1, S.2.2.2.1, fun b x hx => ?_, S.2.2.2.2.2⟩ hc hs hls
  · by_cases hb : b = a
    · subst hb
      rw [rs_up_at] at hx
      cases hx
      have h1 := S.1 b _ rs_up_at
      have h2 : H[b]? = some (vp_cell G.2.2.2.1 (len, .inl f)) := h1
      show H[b]? = some (vp_cell G.2.2.2.1 (len, .inl g))
      rw [h2, rs_vcell hfg]
    · have h1 := S.1 b x
      unfold rs_up at h1 hx
      rw [if_neg hb] at h1 hx
      exact h1 hx
  · by_cases hb : b = a
    · subst hb
      exact S.2.2.2.2.1 b _ rs_up_at
    · have h1 := S.2.2.2.2.1 b x
      unfold rs_up at h1 hx
      rw [if_neg hb] at h1 hx
      exact h1 hx
end RSAR
set_option maxRecDepth 100000 in
theorem k_fill {G : rsG} {n : Nat} {h : rsH} {a len : Nat} {f : Nat → Int32} {v : Int32} (hh : h a = some (.inl (G.2.2.2.1, len, .inl f))) (hlen : len < 2 ^ 31) : rsK G M_a_fill (rmO 0 0) [.ref a, .int v] h n (rsOk none (rs_up h a (.inl (G.2.2.2.1, len, .inl (fun _ => v)))) n) := by
  have loop : ∀ (d i : Nat) (g : Nat → Int32), i + d = len → (∀ q, q < i → g q = v) → rsV G M_a_fill (rmO 0 0) (rsOk none (rs_up h a (.inl (G.2.2.2.1, len, .inl (fun _ => v)))) n) 0 0 5 [some (.ref a), some (.int v), some (.int (nI i)), some (.int (nI len))] [] (rs_up h a (.inl (G.2.2.2.1, len, .inl g))) n := by
    intro d
    induction d with
    | zero =>
      intro i g hi hg
      refine rsV_arr (g := fun _ => v) (fun q hq => hg q (by omega)) ?_

      refine rs_iload_n d_a_fill_5 rfl rfl ?_
      refine rs_iload_n d_a_fill_6 rfl rfl ?_
      refine rs_icmp_ge (tgt := 20) d_a_fill_7 rfl (by decide) (fun _ => ?_) (fun hc => absurd (nI_le (by omega) (by omega)) hc)
      exact rs_vreturn d_a_fill_20 rfl ⟨rfl, rfl, rfl⟩
    | succ d ih =>
      intro i g hi hg
      refine rs_iload_n d_a_fill_5 rfl rfl ?_
      refine rs_iload_n d_a_fill_6 rfl rfl ?_
      refine rs_icmp_ge (tgt := 20) d_a_fill_7 rfl (by decide) (fun hc => absurd hc (nI_ge (by omega) (by omega))) (fun _ => ?_)
      refine rs_aload_n d_a_fill_10 rfl rfl ?_
      refine rs_iload_n d_a_fill_11 rfl rfl ?_
      refine rs_iload_n d_a_fill_12 rfl rfl ?_
      refine rs_iast d_a_fill_13 rfl rs_up_at (by omega) hlen ?_
      rw [rs_up_up]
      refine rs_iinc d_a_fill_14 rfl (by decide) rfl (rs_inc1 i) rfl ?_
      refine rs_goto (tgt := 5) d_a_fill_17 (by decide) ?_
      refine ih (i + 1) (upd g i v) (by omega) fun q hq => ?_
      unfold upd
      by_cases hqi : q = i
      · rw [if_pos hqi]
      · rw [if_neg hqi]; exact hg q (by omega)
  refine rsK_of pf_a_fill rfl (Nat.le_of_ble_eq_true rfl) rfl ?_
  refine rs_iconst (v := (nI 0)) d_a_fill_0 rfl (by decide) ?_
  refine rs_istore_n d_a_fill_1 rfl (by decide) rfl ?_
  refine rs_aload_n d_a_fill_2 rfl rfl ?_
  refine rs_alenI d_a_fill_3 rfl hh ?_
  refine rs_istore_n d_a_fill_4 rfl (by decide) rfl ?_
  exact rsV_eq (rs_up_self hh) (loop len 0 f (by omega) (fun q hq => absurd hq (by omega)))
set_option maxRecDepth 100000 in
theorem k_clear {G : rsG} {n : Nat} {K V : Nat → Nat → Int32} {c P r : Nat → Nat} {md up wl cu : Int32} {hf : rsH} {j : Nat} (hj : j ≤ 13) : rsK G M_e_clear (rmO 1 23) [.ref (rw_eo (rsB G) j)] (rwd G K V c P r md up wl cu hf) n (rsOk (none) (rwd G (va_up K j (fun _ => 0)) V (va_up c j 0) P r md up wl cu hf) n) := by
  refine rsK_of pf_e_clear rfl (Nat.le_of_ble_eq_true rfl) rfl ?_
  refine rs_aload_n d_e_clear_0 rfl rfl ?_
  refine rx_get_ki (by first | assumption | omega) d_e_clear_1 rfl f_e_9 ?_
  refine rs_iconst (v := 0) d_e_clear_4 rfl (by decide) ?_
  refine rx_cS d_e_clear_5 rfl c_e_26 (by exact np_a_fill) (k_fill (rw_k hj) (by decide)) (by decide) ⟨rfl, rfl⟩ (Nat.le_of_ble_eq_true rfl) rfl ?_
  rw [rw_set_k hj]
  refine rs_aload_n d_e_clear_8 rfl rfl ?_
  refine rs_iconst (v := (nI 0)) d_e_clear_9 rfl (by decide) ?_
  refine rx_put_ct (by first | assumption | omega) d_e_clear_10 rfl p_e_18 ?_
  exact rs_vreturn d_e_clear_13 rfl ⟨rfl, rfl, rfl⟩
def rp_cnt (p : Nat → Bool) : Nat → Nat
  | 0 => 0
  | n + 1 => rp_cnt p n + (if p n = true then 1 else 0)
def rp_mK (f g : Nat → Int32) (i : Nat) : Nat → Int32 := fun q => if q < i ∧ f q = 0 then g q else f q
def rp_mV (f g x y : Nat → Int32) (i : Nat) : Nat → Int32 := fun q => if q < i ∧ f q = 0 ∧ ¬ g q = 0 then y q else x q
def rp_mB (f g : Nat → Int32) : Nat → Bool := fun q => decide (f q = 0) && !decide (g q = 0)
theorem rp_mK0 (f g : Nat → Int32) : rp_mK f g 0 = f := by
  funext q; unfold rp_mK; rw [if_neg (fun h => absurd h.1 (by omega))]
theorem rp_mV0 (f g x y : Nat → Int32) : rp_mV f g x y 0 = x := by
  funext q; unfold rp_mV; rw [if_neg (fun h => absurd h.1 (by omega))]
theorem rp_mKi (f g : Nat → Int32) (i : Nat) : rp_mK f g i i = f i := by
  unfold rp_mK; rw [if_neg (fun h => absurd h.1 (by omega))]
theorem rp_mVi (f g x y : Nat → Int32) (i : Nat) : rp_mV f g x y i i = x i := by
  unfold rp_mV; rw [if_neg (fun h => absurd h.1 (by omega))]
theorem rp_mKs (f g : Nat → Int32) (i : Nat) (h : ¬ f i = 0 ∨ g i = 0) : rp_mK f g (i + 1) = rp_mK f g i := by
  funext q
  unfold rp_mK
  by_cases hq : q = i
  · subst hq
    have n1 : ¬ (q < q ∧ f q = 0) := fun h => absurd h.1 (by omega)
    rw [if_neg n1]
    by_cases h0 : f q = 0
    · have n2 : q < q + 1 ∧ f q = 0 := ⟨by omega, h0⟩
      rw [if_pos n2, h0]
      rcases h with h | h
      · exact absurd h0 h
      · exact h
    · rw [if_neg (fun h => h0 h.2)]
  · by_cases h1 : q < i ∧ f q = 0
    · rw [if_pos h1, if_pos ⟨by omega, h1.2⟩]
    · rw [if_neg h1, if_neg (fun h2 => h1 ⟨by omega, h2.2⟩)]
theorem rp_mVs (f g x y : Nat → Int32) (i : Nat) (h : ¬ f i = 0 ∨ g i = 0) : rp_mV f g x y (i + 1) = rp_mV f g x y i := by
  funext q
  unfold rp_mV
  by_cases hq : q = i
  · subst hq
    have n1 : ¬ (q < q ∧ f q = 0 ∧ ¬ g q = 0) := fun h => absurd h.1 (by omega)
    have n2 : ¬ (q < q + 1 ∧ f q = 0 ∧ ¬ g q = 0) := fun h2 => by
      rcases h with h | h
      · exact h h2.2.1
      · exact h2.2.2 h
    rw [if_neg n1, if_neg n2]
  · by_cases h1 : q < i ∧ f q = 0 ∧ ¬ g q = 0
    · rw [if_pos h1, if_pos ⟨by omega, h1.2⟩]
    · rw [if_neg h1, if_neg (fun h2 => h1 ⟨by omega, h2.2⟩)]
theorem rp_mKu (f g : Nat → Int32) (i : Nat) (h : f i = 0) : upd (rp_mK f g i) i (g i) = rp_mK f g (i + 1) := by
  funext q
  unfold upd rp_mK
  by_cases hq : q = i
  · subst hq
    rw [if_pos rfl, if_pos ⟨by omega, h⟩]
  · rw [if_neg hq]
    by_cases h1 : q < i ∧ f q = 0
    · rw [if_pos h1, if_pos ⟨by omega, h1.2⟩]
    · rw [if_neg h1, if_neg (fun h2 => h1 ⟨by omega, h2.2⟩)]
theorem rp_mVu (f g x y : Nat → Int32) (i : Nat) (h : f i = 0) (h2 : ¬ g i = 0) : upd (rp_mV f g x y i) i (y i) = rp_mV f g x y (i + 1) := by
  funext q
  unfold upd rp_mV
  by_cases hq : q = i
  · subst hq
    rw [if_pos rfl, if_pos ⟨by omega, h, h2⟩]
  · rw [if_neg hq]
    by_cases h1 : q < i ∧ f q = 0 ∧ ¬ g q = 0
    · rw [if_pos h1, if_pos ⟨by omega, h1.2⟩]
    · rw [if_neg h1, if_neg (fun h2 => h1 ⟨by omega, h2.2⟩)]
theorem rp_mBs (f g : Nat → Int32) (i : Nat) (h : ¬ f i = 0 ∨ g i = 0) : rp_cnt (rp_mB f g) (i + 1) = rp_cnt (rp_mB f g) i := by
  have : rp_mB f g i = false := by
    unfold rp_mB
    rcases h with h | h
    · rw [decide_eq_false h]; rfl
    · rw [decide_eq_true h]; simp
  show rp_cnt (rp_mB f g) i + _ = _
  rw [this]; simp
theorem rp_mBu (f g : Nat → Int32) (i : Nat) (h : f i = 0) (h2 : ¬ g i = 0) : rp_cnt (rp_mB f g) (i + 1) = rp_cnt (rp_mB f g) i + 1 := by
  have : rp_mB f g i = true := by
    unfold rp_mB
    rw [decide_eq_true h, decide_eq_false h2]; rfl
  show rp_cnt (rp_mB f g) i + _ = _
  rw [this, if_pos rfl]
def rp_aK (K : Nat → Nat → Int32) (j o i : Nat) : Nat → Nat → Int32 := va_up K j (rp_mK (K j) (K o) i)
def rp_aV (K V : Nat → Nat → Int32) (j o i : Nat) : Nat → Nat → Int32 := va_up V j (rp_mV (K j) (K o) (V j) (V o) i)
def rp_ac (K : Nat → Nat → Int32) (c : Nat → Nat) (j o i : Nat) : Nat → Nat := va_up c j (c j + rp_cnt (rp_mB (K j) (K o)) i)
set_option maxRecDepth 100000 in
theorem k_addOlder {G : rsG} {n : Nat} {K V : Nat → Nat → Int32} {c P r : Nat → Nat} {md up wl cu : Int32} {hf : rsH} {j o : Nat} (hj : j ≤ 13) (ho : o ≤ 13) (hjo : o ≠ j) : rsK G M_e_addOlder (rmO 2 44) [.ref (rw_eo (rsB G) j), .ref (rw_eo (rsB G) o)] (rwd G K V c P r md up wl cu hf) n (rsOk none (rwd G (rp_aK K j o 100) (rp_aV K V j o 100) (rp_ac K c j o 100) P r md up wl cu hf) n) := by
  have loop : ∀ (d i : Nat), i + d = 100 → rsV G M_e_addOlder (rmO 2 44) (rsOk none (rwd G (rp_aK K j o 100) (rp_aV K V j o 100) (rp_ac K c j o 100) P r md up wl cu hf) n) 0 0 2 [some (.ref (rw_eo (rsB G) j)), some (.ref (rw_eo (rsB G) o)), some (.int (nI i))] [] (rwd G (rp_aK K j o i) (rp_aV K V j o i) (rp_ac K c j o i) P r md up wl cu hf) n := by
    intro d
    induction d with
    | zero =>
      intro i hi
      obtain rfl : i = 100 := by omega
      refine rs_iload_n d_e_addOlder_2 rfl rfl ?_
      refine rs_bipush (v := (nI 100)) d_e_addOlder_3 rfl (by decide) ?_
      refine rs_icmp_ge (tgt := 47) d_e_addOlder_5 rfl (by decide) (fun _ => ?_) (fun hc => absurd (nI_le (by omega) (by omega)) hc)
      exact rs_vreturn d_e_addOlder_47 rfl ⟨rfl, rfl, rfl⟩
    | succ d ih =>
      intro i hi
      have hi100 : i < 100 := by omega
      have e1 : rp_aK K j o i j i = K j i := by unfold rp_aK; rw [rp_up_j, rp_mKi]
      have e2 : rp_aK K j o i o i = K o i := by unfold rp_aK; rw [rp_up_ne _ _ hjo]
      have e3 : rp_aV K V j o i o i = V o i := by unfold rp_aV; rw [rp_up_ne _ _ hjo]
      refine rs_iload_n d_e_addOlder_2 rfl rfl ?_
      refine rs_bipush (v := (nI 100)) d_e_addOlder_3 rfl (by decide) ?_
      refine rs_icmp_ge (tgt := 47) d_e_addOlder_5 rfl (by decide) (fun hc => absurd hc (nI_ge (by omega) (by omega))) (fun _ => ?_)
      refine rs_aload_n d_e_addOlder_8 rfl rfl ?_
      refine rs_iload_n d_e_addOlder_9 rfl rfl ?_
      refine rx_cV d_e_addOlder_10 rfl c_e_32 (by exact np_e_holds) (rw_e hj) (k_holds hj hi100) (by decide) ⟨rfl, rfl⟩ (Nat.le_of_ble_eq_true rfl) rfl ?_
      rw [e1]
      by_cases h0 : K j i = 0
      · rw [if_pos h0]
        refine rs_if_ne (tgt := 41) d_e_addOlder_13 rfl (by decide) (fun hc => absurd rfl hc) (fun _ => ?_)
        refine rs_aload_n d_e_addOlder_16 rfl rfl ?_
        refine rs_iload_n d_e_addOlder_17 rfl rfl ?_
        refine rx_cV d_e_addOlder_18 rfl c_e_32 (by exact np_e_holds) (rw_e ho) (k_holds ho hi100) (by decide) ⟨rfl, rfl⟩ (Nat.le_of_ble_eq_true rfl) rfl ?_
        rw [e2]
        by_cases h1 : K o i = 0
        · rw [if_pos h1]
          refine rs_if_eq (tgt := 41) d_e_addOlder_21 rfl (by decide) (fun _ => ?_) (fun hc => absurd rfl hc)
          refine rs_iinc d_e_addOlder_41 rfl (by decide) rfl (rs_inc1 i) rfl ?_
          refine rs_goto (tgt := 2) d_e_addOlder_44 (by decide) ?_
          refine rsV_eq ?_ (ih (i + 1) (by omega))
          unfold rp_aK rp_aV rp_ac
          rw [rp_mKs _ _ _ (Or.inr h1), rp_mVs _ _ _ _ _ (Or.inr h1), rp_mBs _ _ _ (Or.inr h1)]
        · rw [if_neg h1]
          refine rs_if_eq (tgt := 41) d_e_addOlder_21 rfl (by decide) (fun hc => absurd hc (by decide)) (fun _ => ?_)
          refine rs_aload_n d_e_addOlder_24 rfl rfl ?_
          refine rs_iload_n d_e_addOlder_25 rfl rfl ?_
          refine rs_aload_n d_e_addOlder_26 rfl rfl ?_
          refine rx_get_ki (by first | assumption | omega) d_e_addOlder_27 rfl f_e_9 ?_
          refine rs_iload_n d_e_addOlder_30 rfl rfl ?_
          refine rx_ld_k (by first | assumption | omega) (by first | assumption | omega) d_e_addOlder_31 rfl ?_
          refine rs_aload_n d_e_addOlder_32 rfl rfl ?_
          refine rx_get_va (by first | assumption | omega) d_e_addOlder_33 rfl f_e_15 ?_
          refine rs_iload_n d_e_addOlder_36 rfl rfl ?_
          refine rx_ld_v (by first | assumption | omega) (by first | assumption | omega) d_e_addOlder_37 rfl ?_
          rw [e2, e3]
          refine rx_cV d_e_addOlder_38 rfl c_e_22 (by exact np_e_setEntry) (rw_e hj) (k_setEntry hj hi100) (by decide) ⟨rfl, rfl⟩ (Nat.le_of_ble_eq_true rfl) rfl ?_
          refine rs_iinc d_e_addOlder_41 rfl (by decide) rfl (rs_inc1 i) rfl ?_
          refine rs_goto (tgt := 2) d_e_addOlder_44 (by decide) ?_
          refine rsV_eq ?_ (ih (i + 1) (by omega))
          unfold rp_u rp_c
          rw [e1, if_pos h0]
          unfold rp_aK rp_aV rp_ac
          rw [rp_up_j, rp_up_j, rp_up_j, rp_up_up, rp_up_up, rp_up_up, rp_mKu _ _ _ h0, rp_mVu _ _ _ _ _ h0 h1, rp_mBu _ _ _ h0 h1]
          rfl
      · rw [if_neg h0]
        refine rs_if_ne (tgt := 41) d_e_addOlder_13 rfl (by decide) (fun _ => ?_) (fun hc => absurd hc (by decide))
        refine rs_iinc d_e_addOlder_41 rfl (by decide) rfl (rs_inc1 i) rfl ?_
        refine rs_goto (tgt := 2) d_e_addOlder_44 (by decide) ?_
        refine rsV_eq ?_ (ih (i + 1) (by omega))
        unfold rp_aK rp_aV rp_ac
        rw [rp_mKs _ _ _ (Or.inl h0), rp_mVs _ _ _ _ _ (Or.inl h0), rp_mBs _ _ _ (Or.inl h0)]
  refine rsK_of pf_e_addOlder rfl (Nat.le_of_ble_eq_true rfl) rfl ?_
  refine rs_iconst (v := (nI 0)) d_e_addOlder_0 rfl (by decide) ?_
  refine rs_istore_n d_e_addOlder_1 rfl (by decide) rfl ?_
  refine rsV_eq ?_ (loop 100 0 (by omega))
  unfold rp_aK rp_aV rp_ac
  rw [rp_mK0, rp_mV0, rp_up_id, rp_up_id, show c j + rp_cnt (rp_mB (K j) (K o)) 0 = c j from rfl, rp_up_id]
def rp_xK (f : Nat → Int32) (i : Nat) : Nat → Int32 := fun q => if q < i ∧ f q = 2 then 0 else f q
def rp_xB (f : Nat → Int32) : Nat → Bool := fun q => decide (f q = 2)
theorem rp_xK0 (f : Nat → Int32) : rp_xK f 0 = f := by
  funext q; unfold rp_xK; rw [if_neg (fun h => absurd h.1 (by omega))]
theorem rp_xKi (f : Nat → Int32) (i : Nat) : rp_xK f i i = f i := by
  unfold rp_xK; rw [if_neg (fun h => absurd h.1 (by omega))]
theorem rp_xKs (f : Nat → Int32) (i : Nat) (h : ¬ f i = 2) : rp_xK f (i + 1) = rp_xK f i := by
  funext q
  unfold rp_xK
  by_cases hq : q = i
  · subst hq
    have n1 : ¬ (q < q ∧ f q = 2) := fun h => absurd h.1 (by omega)
    have n2 : ¬ (q < q + 1 ∧ f q = 2) := fun h2 => h h2.2
    rw [if_neg n1, if_neg n2]
  · by_cases h1 : q < i ∧ f q = 2
    · rw [if_pos h1, if_pos ⟨by omega, h1.2⟩]
    · rw [if_neg h1, if_neg (fun h2 => h1 ⟨by omega, h2.2⟩)]
theorem rp_xKu (f : Nat → Int32) (i : Nat) (h : f i = 2) : upd (rp_xK f i) i 0 = rp_xK f (i + 1) := by
  funext q
  unfold upd rp_xK
  by_cases hq : q = i
  · subst hq
    rw [if_pos rfl, if_pos ⟨by omega, h⟩]
  · rw [if_neg hq]
    by_cases h1 : q < i ∧ f q = 2
    · rw [if_pos h1, if_pos ⟨by omega, h1.2⟩]
    · rw [if_neg h1, if_neg (fun h2 => h1 ⟨by omega, h2.2⟩)]
theorem rp_cnt_le (p : Nat → Bool) : ∀ {a b : Nat}, a ≤ b → rp_cnt p a ≤ rp_cnt p b := by
  intro a b h
  induction b with
  | zero => rw [show a = 0 by omega]; exact Nat.le_refl _
  | succ b ih =>
    by_cases hab : a = b + 1
    · rw [hab]; exact Nat.le_refl _
    · exact Nat.le_trans (ih (by omega)) (Nat.le_add_right _ _)
def rp_oK (K : Nat → Nat → Int32) (j i : Nat) : Nat → Nat → Int32 := va_up K j (rp_xK (K j) i)
def rp_oc (K : Nat → Nat → Int32) (c : Nat → Nat) (j i : Nat) : Nat → Nat := va_up c j (c j - rp_cnt (rp_xB (K j)) i)
set_option maxRecDepth 100000 in
theorem k_leaveOutMarks {G : rsG} {n : Nat} {K V : Nat → Nat → Int32} {c P r : Nat → Nat} {md up wl cu : Int32} {hf : rsH} {j : Nat} (hj : j ≤ 13) (hcj : rp_cnt (rp_xB (K j)) 100 ≤ c j) : rsK G M_e_leaveOutMarks (rmO 0 0) [.ref (rw_eo (rsB G) j)] (rwd G K V c P r md up wl cu hf) n (rsOk none (rwd G (rp_oK K j 100) V (rp_oc K c j 100) P r md up wl cu hf) n) := by
  have loop : ∀ (d i : Nat), i + d = 100 → rsV G M_e_leaveOutMarks (rmO 0 0) (rsOk none (rwd G (rp_oK K j 100) V (rp_oc K c j 100) P r md up wl cu hf) n) 0 0 2 [some (.ref (rw_eo (rsB G) j)), some (.int (nI i))] [] (rwd G (rp_oK K j i) V (rp_oc K c j i) P r md up wl cu hf) n := by
    intro d
    induction d with
    | zero =>
      intro i hi
      obtain rfl : i = 100 := by omega
      refine rs_iload_n d_e_leaveOutMarks_2 rfl rfl ?_
      refine rs_bipush (v := (nI 100)) d_e_leaveOutMarks_3 rfl (by decide) ?_
      refine rs_icmp_ge (tgt := 41) d_e_leaveOutMarks_5 rfl (by decide) (fun _ => ?_) (fun hc => absurd (nI_le (by omega) (by omega)) hc)
      exact rs_vreturn d_e_leaveOutMarks_41 rfl ⟨rfl, rfl, rfl⟩
    | succ d ih =>
      intro i hi
      have hi100 : i < 100 := by omega
      have e1 : rp_oK K j i j i = K j i := by unfold rp_oK; rw [rp_up_j, rp_xKi]
      refine rs_iload_n d_e_leaveOutMarks_2 rfl rfl ?_
      refine rs_bipush (v := (nI 100)) d_e_leaveOutMarks_3 rfl (by decide) ?_
      refine rs_icmp_ge (tgt := 41) d_e_leaveOutMarks_5 rfl (by decide) (fun hc => absurd hc (nI_ge (by omega) (by omega))) (fun _ => ?_)
      refine rs_aload_n d_e_leaveOutMarks_8 rfl rfl ?_
      refine rx_get_ki (by first | assumption | omega) d_e_leaveOutMarks_9 rfl f_e_9 ?_
      refine rs_iload_n d_e_leaveOutMarks_12 rfl rfl ?_
      refine rx_ld_k (by first | assumption | omega) (by first | assumption | omega) d_e_leaveOutMarks_13 rfl ?_
      rw [e1]
      refine rs_iconst (v := 2) d_e_leaveOutMarks_14 rfl (by decide) ?_
      refine rs_icmp_ne (tgt := 35) d_e_leaveOutMarks_15 rfl (by decide) (fun h0 => ?_) (fun h0 => ?_)
      · refine rs_iinc d_e_leaveOutMarks_35 rfl (by decide) rfl (rs_inc1 i) rfl ?_
        refine rs_goto (tgt := 2) d_e_leaveOutMarks_38 (by decide) ?_
        refine rsV_eq ?_ (ih (i + 1) (by omega))
        unfold rp_oK rp_oc
        have hb : rp_cnt (rp_xB (K j)) (i + 1) = rp_cnt (rp_xB (K j)) i := by
          show rp_cnt (rp_xB (K j)) i + _ = _
          unfold rp_xB
          rw [decide_eq_false h0]; simp
        rw [rp_xKs _ _ h0, hb]
      · have hb : rp_cnt (rp_xB (K j)) (i + 1) = rp_cnt (rp_xB (K j)) i + 1 := by
          show rp_cnt (rp_xB (K j)) i + _ = _
          have : rp_xB (K j) i = true := decide_eq_true h0
          rw [this, if_pos rfl]
        have hle := rp_cnt_le (rp_xB (K j)) (show i + 1 ≤ 100 by omega)
        refine rs_aload_n d_e_leaveOutMarks_18 rfl rfl ?_
        refine rx_get_ki (by first | assumption | omega) d_e_leaveOutMarks_19 rfl f_e_9 ?_
        refine rs_iload_n d_e_leaveOutMarks_22 rfl rfl ?_
        refine rs_iconst (v := 0) d_e_leaveOutMarks_23 rfl (by decide) ?_
        refine rx_st_k (by first | assumption | omega) (by first | assumption | omega) d_e_leaveOutMarks_24 rfl ?_
        refine rs_aload_n d_e_leaveOutMarks_25 rfl rfl ?_
        refine rs_dup d_e_leaveOutMarks_26 rfl rfl ?_
        refine rx_get_ct (by first | assumption | omega) d_e_leaveOutMarks_27 rfl f_e_18 ?_
        refine rs_iconst (v := (nI 1)) d_e_leaveOutMarks_30 rfl (by decide) ?_
        refine rs_isub d_e_leaveOutMarks_31 rfl ?_
        refine rs_tope (pk_sub (by unfold rp_oc; rw [rp_up_j]; omega)) ?_
        refine rx_put_ct (by first | assumption | omega) d_e_leaveOutMarks_32 rfl p_e_18 ?_
        refine rs_iinc d_e_leaveOutMarks_35 rfl (by decide) rfl (rs_inc1 i) rfl ?_
        refine rs_goto (tgt := 2) d_e_leaveOutMarks_38 (by decide) ?_
        refine rsV_eq ?_ (ih (i + 1) (by omega))
        unfold rp_oK rp_oc
        rw [rp_up_j, rp_up_j, rp_up_up, rp_up_up, rp_xKu _ _ h0, hb, Nat.sub_sub]
  refine rsK_of pf_e_leaveOutMarks rfl (Nat.le_of_ble_eq_true rfl) rfl ?_
  refine rs_iconst (v := (nI 0)) d_e_leaveOutMarks_0 rfl (by decide) ?_
  refine rs_istore_n d_e_leaveOutMarks_1 rfl (by decide) rfl ?_
  refine rsV_eq ?_ (loop 100 0 (by omega))
  unfold rp_oK rp_oc
  rw [rp_xK0, rp_up_id, show c j - rp_cnt (rp_xB (K j)) 0 = c j from rfl, rp_up_id]
set_option maxRecDepth 100000 in
theorem k_setValue {G : rsG} {n : Nat} {K V : Nat → Nat → Int32} {c P r : Nat → Nat} {md up wl cu : Int32} {hf : rsH} {j key : Nat} {vl : Int32} (hj : j ≤ 13) (hk : key < 100) : rsK G M_e_setValue (rmO 2 44) [.ref (rw_eo (rsB G) j), .int (nI key), .int vl] (rwd G K V c P r md up wl cu hf) n (rsOk (none) (rwd G (rp_u K j key 1) (rp_u V j key vl) (rp_c K c j key) P r md up wl cu hf) n) := by
  refine rsK_of pf_e_setValue rfl (Nat.le_of_ble_eq_true rfl) rfl ?_
  refine rs_aload_n d_e_setValue_0 rfl rfl ?_
  refine rs_iload_n d_e_setValue_1 rfl rfl ?_
  refine rs_iconst (v := 1) d_e_setValue_2 rfl (by decide) ?_
  refine rs_iload_n d_e_setValue_3 rfl rfl ?_
  refine rx_cV d_e_setValue_4 rfl c_e_22 (by exact np_e_setEntry) (rw_e hj) (k_setEntry hj hk) (by decide) ⟨rfl, rfl⟩ (Nat.le_of_ble_eq_true rfl) rfl ?_
  exact rs_vreturn d_e_setValue_7 rfl ⟨rfl, rfl, rfl⟩
set_option maxRecDepth 100000 in
theorem k_setMark {G : rsG} {n : Nat} {K V : Nat → Nat → Int32} {c P r : Nat → Nat} {md up wl cu : Int32} {hf : rsH} {j key : Nat} (hj : j ≤ 13) (hk : key < 100) : rsK G M_e_setMark (rmO 2 44) [.ref (rw_eo (rsB G) j), .int (nI key)] (rwd G K V c P r md up wl cu hf) n (rsOk (none) (rwd G (rp_u K j key 2) (rp_u V j key 0) (rp_c K c j key) P r md up wl cu hf) n) := by
  refine rsK_of pf_e_setMark rfl (Nat.le_of_ble_eq_true rfl) rfl ?_
  refine rs_aload_n d_e_setMark_0 rfl rfl ?_
  refine rs_iload_n d_e_setMark_1 rfl rfl ?_
  refine rs_iconst (v := 2) d_e_setMark_2 rfl (by decide) ?_
  refine rs_iconst (v := 0) d_e_setMark_3 rfl (by decide) ?_
  refine rx_cV d_e_setMark_4 rfl c_e_22 (by exact np_e_setEntry) (rw_e hj) (k_setEntry hj hk) (by decide) ⟨rfl, rfl⟩ (Nat.le_of_ble_eq_true rfl) rfl ?_
  exact rs_vreturn d_e_setMark_7 rfl ⟨rfl, rfl, rfl⟩
end
section
/-! 14: the methods of Disk, Math.min (written by gen_disk.py) -/
def rp_sum (f : Nat → Nat) : Nat → Nat
  | 0 => 0
  | n + 1 => rp_sum f n + f n
theorem rs_subsub (a : Int32) (b x : Nat) : a - nI b - nI x = a - nI (b + x) := by
  rw [← nI_add]
  apply Int32.toBitVec_inj.mp
  simp [Int32.toBitVec_sub, Int32.toBitVec_add, BitVec.sub_eq_add_neg, BitVec.neg_add, BitVec.add_assoc]
theorem rs_dec1 (i : Nat) : nI (i + 1) + Int32.ofInt (-1) = nI i := pk_m1 i
section RSWR
variable {G : rsG} {K V : Nat → Nat → Int32} {c P r r' : Nat → Nat} {md up wl cu : Int32} {hf : rsH}
theorem rw_set_r2 : rs_up (rwd G K V c P r md up wl cu hf) (rsB G + 45) (.inl (G.2.2.2.1, 3, .inl (fun i => nI (r' i)))) = rwd G K V c P r' md up wl cu hf := by
  unfold rs_up
  funext q
  by_cases hq : q = rsB G + 45
  · subst hq; rw [if_pos rfl, rw_r]
  · rw [if_neg hq]
    unfold rwd
    have h0 : rw_nd (rsB G) q ≠ (3, 0) := fun h1 => hq (rw_nd_inj (h1.trans (rw_nd_r _).symm) (by rw [h1]; decide))
    have h1 : (rw_nd (rsB G) q).1 ≠ 3 := fun h2 => h0 (Prod.ext h2 (rw_nd_s (by rw [h2]; decide)))
    generalize rw_nd (rsB G) q = w at h1
    obtain ⟨t, j⟩ := w
    match t, h1 with
    | 0, _ => rfl
    | 1, _ => rfl
    | 2, _ => rfl
    | 4, _ => rfl
    | 5, _ => rfl
    | 6, _ => rfl
    | t + 7, _ => rfl
end RSWR
set_option maxRecDepth 100000 in
theorem k_min {G : rsG} {n : Nat} {h : rsH} {x y : Nat} (hx : x < 2 ^ 31) (hy : y < 2 ^ 31) : rsK G M_a_min (rmO 0 0) [.int (nI x), .int (nI y)] h n (rsOk (some (.int (nI (min x y)))) h n) := by
  refine rsK_of pf_a_min rfl (Nat.le_of_ble_eq_true rfl) rfl ?_
  refine rs_iload_n d_a_min_0 rfl rfl ?_
  refine rs_iload_n d_a_min_1 rfl rfl ?_
  refine rs_icmp_gt (tgt := 9) d_a_min_2 rfl (by decide) (fun hc => ?_) (fun hc => ?_)
  · refine rs_iload_n d_a_min_9 rfl rfl ?_
    rw [nI_ltI hy hx] at hc
    exact rs_ireturn d_a_min_10 rfl ⟨by rw [Nat.min_eq_right (by omega)], rfl, rfl⟩
  · refine rs_iload_n d_a_min_5 rfl rfl ?_
    refine rs_goto (tgt := 10) d_a_min_6 (by decide) ?_
    rw [nI_ltI hy hx] at hc
    exact rs_ireturn d_a_min_10 rfl ⟨by rw [Nat.min_eq_left (by omega)], rfl, rfl⟩
set_option maxRecDepth 100000 in
theorem k_isMade {G : rsG} {n : Nat} {K V : Nat → Nat → Int32} {c P r : Nat → Nat} {md up wl cu : Int32} {hf : rsH} (hb : narrow .boolean (.int md) = .int md) : rsK G M_d_isMade (rmO 0 0) [.ref (rsB G + 4)] (rwd G K V c P r md up wl cu hf) n (rsOk (some (.int md)) (rwd G K V c P r md up wl cu hf) n) := by
  refine rsK_of pf_d_isMade rfl (Nat.le_of_ble_eq_true rfl) rfl ?_
  refine rs_aload_n d_d_isMade_0 rfl rfl ?_
  refine rx_get_md d_d_isMade_1 rfl f_d_22 ?_
  exact rs_zreturn d_d_isMade_4 rfl hb ⟨rfl, rfl, rfl⟩
set_option maxRecDepth 100000 in
theorem k_makeAnew {G : rsG} {n : Nat} {K V : Nat → Nat → Int32} {c P r : Nat → Nat} {md up wl cu : Int32} {hf : rsH}  : rsK G M_d_makeAnew (rmO 1 23) [.ref (rsB G + 4)] (rwd G K V c P r md up wl cu hf) n (rsOk (none) (rwd G K V c P (fun _ => 0) 1 up wl cu hf) n) := by
  refine rsK_of pf_d_makeAnew rfl (Nat.le_of_ble_eq_true rfl) rfl ?_
  refine rs_aload_n d_d_makeAnew_0 rfl rfl ?_
  refine rx_get_ro d_d_makeAnew_1 rfl f_d_18 ?_
  refine rs_iconst (v := 0) d_d_makeAnew_4 rfl (by decide) ?_
  refine rx_cS d_d_makeAnew_5 rfl c_d_26 (by exact np_a_fill) (k_fill rw_r (by decide)) (by decide) ⟨rfl, rfl⟩ (Nat.le_of_ble_eq_true rfl) rfl ?_
  rw [show (fun _ : Nat => (0 : Int32)) = fun i => nI ((fun _ : Nat => 0) i) from funext fun _ => nI_0.symm, rw_set_r2]
  refine rs_aload_n d_d_makeAnew_8 rfl rfl ?_
  refine rs_iconst (v := 1) d_d_makeAnew_9 rfl (by decide) ?_
  refine rx_put_md d_d_makeAnew_10 rfl p_d_22 rfl rfl ?_
  exact rs_vreturn d_d_makeAnew_13 rfl ⟨rfl, rfl, rfl⟩
set_option maxRecDepth 100000 in
theorem k_countRunsOf {G : rsG} {n : Nat} {K V : Nat → Nat → Int32} {c P r : Nat → Nat} {md up wl cu : Int32} {hf : rsH} {lv : Nat} (hl : lv < 3) : rsK G M_d_countRunsOf (rmO 0 0) [.ref (rsB G + 4), .int (nI lv)] (rwd G K V c P r md up wl cu hf) n (rsOk (some (.int (nI (r lv)))) (rwd G K V c P r md up wl cu hf) n) := by
  refine rsK_of pf_d_countRunsOf rfl (Nat.le_of_ble_eq_true rfl) rfl ?_
  refine rs_aload_n d_d_countRunsOf_0 rfl rfl ?_
  refine rx_get_ro d_d_countRunsOf_1 rfl f_d_18 ?_
  refine rs_iload_n d_d_countRunsOf_4 rfl rfl ?_
  refine rx_ld_r (by first | assumption | omega) d_d_countRunsOf_5 rfl ?_
  exact rs_ireturn d_d_countRunsOf_6 rfl ⟨rfl, rfl, rfl⟩
set_option maxRecDepth 100000 in
theorem k_firstPlaceOf {G : rsG} {n : Nat} {K V : Nat → Nat → Int32} {c P r : Nat → Nat} {md up wl cu : Int32} {hf : rsH} {lv : Nat} (hl : lv ≤ 3) : rsK G M_d_firstPlaceOf (rmO 0 0) [.ref (rsB G + 4), .int (nI lv)] (rwd G K V c P r md up wl cu hf) n (rsOk (some (.int (nI (rp_sum r lv)))) (rwd G K V c P r md up wl cu hf) n) := by
  have loop : ∀ (d i : Nat), i + d = lv → rsV G M_d_firstPlaceOf (rmO 0 0) (rsOk (some (.int (nI (rp_sum r lv)))) (rwd G K V c P r md up wl cu hf) n) 0 0 4 [some (.ref (rsB G + 4)), some (.int (nI lv)), some (.int (nI (rp_sum r i))), some (.int (nI i))] [] (rwd G K V c P r md up wl cu hf) n := by
    intro d
    induction d with
    | zero =>
      intro i hi
      obtain rfl : i = lv := by omega
      refine rs_iload_n d_d_firstPlaceOf_4 rfl rfl ?_
      refine rs_iload_n d_d_firstPlaceOf_5 rfl rfl ?_
      refine rs_icmp_ge (tgt := 24) d_d_firstPlaceOf_6 rfl (by decide) (fun _ => ?_) (fun hc => absurd (nI_le (by omega) (by omega)) hc)
      refine rs_iload_n d_d_firstPlaceOf_24 rfl rfl ?_
      exact rs_ireturn d_d_firstPlaceOf_25 rfl ⟨rfl, rfl, rfl⟩
    | succ d ih =>
      intro i hi
      have hi3 : i < 3 := by omega
      refine rs_iload_n d_d_firstPlaceOf_4 rfl rfl ?_
      refine rs_iload_n d_d_firstPlaceOf_5 rfl rfl ?_
      refine rs_icmp_ge (tgt := 24) d_d_firstPlaceOf_6 rfl (by decide) (fun hc => absurd hc (nI_ge (by omega) (by omega))) (fun _ => ?_)
      refine rs_iload_n d_d_firstPlaceOf_9 rfl rfl ?_
      refine rs_aload_n d_d_firstPlaceOf_10 rfl rfl ?_
      refine rx_get_ro d_d_firstPlaceOf_11 rfl f_d_18 ?_
      refine rs_iload_n d_d_firstPlaceOf_14 rfl rfl ?_
      refine rx_ld_r (by first | assumption | omega) d_d_firstPlaceOf_15 rfl ?_
      refine rs_iadd d_d_firstPlaceOf_16 rfl ?_
      refine rs_tope (nI_add _ _) ?_
      refine rs_istore_n d_d_firstPlaceOf_17 rfl (by decide) rfl ?_
      refine rs_iinc d_d_firstPlaceOf_18 rfl (by decide) rfl (rs_inc1 i) rfl ?_
      refine rs_goto (tgt := 4) d_d_firstPlaceOf_21 (by decide) ?_
      exact ih (i + 1) (by omega)
  refine rsK_of pf_d_firstPlaceOf rfl (Nat.le_of_ble_eq_true rfl) rfl ?_
  refine rs_iconst (v := (nI 0)) d_d_firstPlaceOf_0 rfl (by decide) ?_
  refine rs_istore_n d_d_firstPlaceOf_1 rfl (by decide) rfl ?_
  refine rs_iconst (v := (nI 0)) d_d_firstPlaceOf_2 rfl (by decide) ?_
  refine rs_istore_n d_d_firstPlaceOf_3 rfl (by decide) rfl ?_
  exact loop lv 0 (by omega)
set_option maxRecDepth 100000 in
theorem k_countRuns {G : rsG} {n : Nat} {K V : Nat → Nat → Int32} {c P r : Nat → Nat} {md up wl cu : Int32} {hf : rsH}  : rsK G M_d_countRuns (rmO 1 23) [.ref (rsB G + 4)] (rwd G K V c P r md up wl cu hf) n (rsOk (some (.int (nI (rp_sum r 3)))) (rwd G K V c P r md up wl cu hf) n) := by
  refine rsK_of pf_d_countRuns rfl (Nat.le_of_ble_eq_true rfl) rfl ?_
  refine rs_aload_n d_d_countRuns_0 rfl rfl ?_
  refine rs_iconst (v := (nI 3)) d_d_countRuns_1 rfl (by decide) ?_
  refine rx_cV d_d_countRuns_2 rfl c_d_32 (by exact np_d_firstPlaceOf) rw_d (k_firstPlaceOf (by decide)) (by decide) ⟨rfl, rfl⟩ (Nat.le_of_ble_eq_true rfl) rfl ?_
  exact rs_ireturn d_d_countRuns_5 rfl ⟨rfl, rfl, rfl⟩
set_option maxRecDepth 100000 in
theorem k_run {G : rsG} {n : Nat} {K V : Nat → Nat → Int32} {c P r : Nat → Nat} {md up wl cu : Int32} {hf : rsH} {lv i : Nat} (hl : lv ≤ 3) (hi : rp_sum r lv + i < 13) : rsK G M_d_run (rmO 1 23) [.ref (rsB G + 4), .int (nI lv), .int (nI i)] (rwd G K V c P r md up wl cu hf) n (rsOk (some (.ref (rw_eo (rsB G) (P (rp_sum r lv + i))))) (rwd G K V c P r md up wl cu hf) n) := by
  refine rsK_of pf_d_run rfl (Nat.le_of_ble_eq_true rfl) rfl ?_
  refine rs_aload_n d_d_run_0 rfl rfl ?_
  refine rx_get_pl d_d_run_1 rfl f_d_11 ?_
  refine rs_aload_n d_d_run_4 rfl rfl ?_
  refine rs_iload_n d_d_run_5 rfl rfl ?_
  refine rx_cV d_d_run_6 rfl c_d_32 (by exact np_d_firstPlaceOf) rw_d (k_firstPlaceOf hl) (by decide) ⟨rfl, rfl⟩ (Nat.le_of_ble_eq_true rfl) rfl ?_
  refine rs_iload_n d_d_run_9 rfl rfl ?_
  refine rs_iadd d_d_run_10 rfl ?_
  refine rs_tope (nI_add _ _) ?_
  refine rx_ld_p (by first | assumption | omega) d_d_run_11 rfl ?_
  exact rs_areturn d_d_run_12 rfl ⟨rfl, rfl, rfl⟩
set_option maxRecDepth 100000 in
theorem k_draft {G : rsG} {n : Nat} {K V : Nat → Nat → Int32} {c P r : Nat → Nat} {md up wl cu : Int32} {hf : rsH}  : rsK G M_d_draft (rmO 0 0) [.ref (rsB G + 4)] (rwd G K V c P r md up wl cu hf) n (rsOk (some (.ref (rw_eo (rsB G) (P 12)))) (rwd G K V c P r md up wl cu hf) n) := by
  refine rsK_of pf_d_draft rfl (Nat.le_of_ble_eq_true rfl) rfl ?_
  refine rs_aload_n d_d_draft_0 rfl rfl ?_
  refine rx_get_pl d_d_draft_1 rfl f_d_11 ?_
  refine rs_bipush (v := (nI 12)) d_d_draft_4 rfl (by decide) ?_
  refine rx_ld_p (by first | assumption | omega) d_d_draft_6 rfl ?_
  exact rs_areturn d_d_draft_7 rfl ⟨rfl, rfl, rfl⟩
def rp_blk (c P : Nat → Nat) : Nat → Nat := rp_sum (fun i => (c (P i) + 3) / 4)
set_option maxRecDepth 100000 in
theorem k_freeBlocks {G : rsG} {n : Nat} {K V : Nat → Nat → Int32} {c P r : Nat → Nat} {md up wl cu : Int32} {hf : rsH} (hs : rp_sum r 3 ≤ 12) (hP : ∀ i, i < 13 → P i ≤ 12) (hc : ∀ i, i < 13 → c (P i) ≤ 100) : rsK G M_d_freeBlocks (rmO 2 43) [.ref (rsB G + 4)] (rwd G K V c P r md up wl cu hf) n (rsOk (some (.int (nI 40 - nI (rp_blk c P (rp_sum r 3))))) (rwd G K V c P r md up wl cu hf) n) := by
  have loop : ∀ (d i : Nat), i + d = rp_sum r 3 → rsV G M_d_freeBlocks (rmO 2 43) (rsOk (some (.int (nI 40 - nI (rp_blk c P (rp_sum r 3))))) (rwd G K V c P r md up wl cu hf) n) 0 0 10 [some (.ref (rsB G + 4)), some (.int (nI 40 - nI (rp_blk c P i))), some (.int (nI (rp_sum r 3))), some (.int (nI i))] [] (rwd G K V c P r md up wl cu hf) n := by
    intro d
    induction d with
    | zero =>
      intro i hi
      obtain rfl : i = rp_sum r 3 := by omega
      refine rs_iload_n d_d_freeBlocks_10 rfl rfl ?_
      refine rs_iload_n d_d_freeBlocks_11 rfl rfl ?_
      refine rs_icmp_ge (tgt := 33) d_d_freeBlocks_12 rfl (by decide) (fun _ => ?_) (fun hc => absurd (nI_le (by omega) (by omega)) hc)
      refine rs_iload_n d_d_freeBlocks_33 rfl rfl ?_
      exact rs_ireturn d_d_freeBlocks_34 rfl ⟨rfl, rfl, rfl⟩
    | succ d ih =>
      intro i hi
      have hi13 : i < 13 := by omega
      have hPi : P i ≤ 13 := by have := hP i hi13; omega
      refine rs_iload_n d_d_freeBlocks_10 rfl rfl ?_
      refine rs_iload_n d_d_freeBlocks_11 rfl rfl ?_
      refine rs_icmp_ge (tgt := 33) d_d_freeBlocks_12 rfl (by decide) (fun hc => absurd hc (nI_ge (by omega) (by omega))) (fun _ => ?_)
      refine rs_iload_n d_d_freeBlocks_15 rfl rfl ?_
      refine rs_aload_n d_d_freeBlocks_16 rfl rfl ?_
      refine rx_get_pl d_d_freeBlocks_17 rfl f_d_11 ?_
      refine rs_iload_n d_d_freeBlocks_20 rfl rfl ?_
      refine rx_ld_p (by first | assumption | omega) d_d_freeBlocks_21 rfl ?_
      refine rx_cV d_d_freeBlocks_22 rfl c_d_40 (by exact np_e_blocks) (rw_e hPi) (k_blocks hPi (hc i hi13)) (by decide) ⟨rfl, rfl⟩ (Nat.le_of_ble_eq_true rfl) rfl ?_
      refine rs_isub d_d_freeBlocks_25 rfl ?_
      refine rs_tope (rs_subsub _ _ _) ?_
      refine rs_istore_n d_d_freeBlocks_26 rfl (by decide) rfl ?_
      refine rs_iinc d_d_freeBlocks_27 rfl (by decide) rfl (rs_inc1 i) rfl ?_
      refine rs_goto (tgt := 10) d_d_freeBlocks_30 (by decide) ?_
      exact ih (i + 1) (by omega)
  refine rsK_of pf_d_freeBlocks rfl (Nat.le_of_ble_eq_true rfl) rfl ?_
  refine rs_bipush (v := nI 40 - nI (rp_blk c P 0)) d_d_freeBlocks_0 rfl (by show _ = nI 40 - nI 0; decide) ?_
  refine rs_istore_n d_d_freeBlocks_2 rfl (by decide) rfl ?_
  refine rs_aload_n d_d_freeBlocks_3 rfl rfl ?_
  refine rx_cV d_d_freeBlocks_4 rfl c_d_36 (by exact np_d_countRuns) rw_d (k_countRuns) (by decide) ⟨rfl, rfl⟩ (Nat.le_of_ble_eq_true rfl) rfl ?_
  refine rs_istore_n d_d_freeBlocks_7 rfl (by decide) rfl ?_
  refine rs_iconst (v := (nI 0)) d_d_freeBlocks_8 rfl (by decide) ?_
  refine rs_istore_n d_d_freeBlocks_9 rfl (by decide) rfl ?_
  exact loop (rp_sum r 3) 0 (by omega)
set_option maxRecDepth 100000 in
theorem k_newest_none {G : rsG} {n : Nat} {K V : Nat → Nat → Int32} {c P r : Nat → Nat} {md up wl cu : Int32} {hf : rsH} (hs : rp_sum r 3 ≤ 12) (hP : ∀ i, i < 13 → P i ≤ 12) {key : Nat} (hk : key < 100) (h0 : ∀ i, i < rp_sum r 3 → K (P i) key = 0) : rsK G M_d_newestRunWith (rmO 2 43) [.ref (rsB G + 4), .int (nI key)] (rwd G K V c P r md up wl cu hf) n (rsOk (some .null) (rwd G K V c P r md up wl cu hf) n) := by
  have loop : ∀ (d i : Nat), i + d = rp_sum r 3 → rsV G M_d_newestRunWith (rmO 2 43) (rsOk (some .null) (rwd G K V c P r md up wl cu hf) n) 0 0 7 [some (.ref (rsB G + 4)), some (.int (nI key)), some (.int (nI (rp_sum r 3))), some (.int (nI i))] [] (rwd G K V c P r md up wl cu hf) n := by
    intro d
    induction d with
    | zero =>
      intro i hi
      obtain rfl : i = rp_sum r 3 := by omega
      refine rs_iload_n d_d_newestRunWith_7 rfl rfl ?_
      refine rs_iload_n d_d_newestRunWith_8 rfl rfl ?_
      refine rs_icmp_ge (tgt := 38) d_d_newestRunWith_9 rfl (by decide) (fun _ => ?_) (fun hc => absurd (nI_le (by omega) (by omega)) hc)
      refine rs_null d_d_newestRunWith_38 rfl ?_
      exact rs_areturnN d_d_newestRunWith_39 rfl ⟨rfl, rfl, rfl⟩
    | succ d ih =>
      intro i hi
      have hi13 : i < 13 := by omega
      have hPi : P i ≤ 13 := by have := hP i hi13; omega
      refine rs_iload_n d_d_newestRunWith_7 rfl rfl ?_
      refine rs_iload_n d_d_newestRunWith_8 rfl rfl ?_
      refine rs_icmp_ge (tgt := 38) d_d_newestRunWith_9 rfl (by decide) (fun hc => absurd hc (nI_ge (by omega) (by omega))) (fun _ => ?_)
      refine rs_aload_n d_d_newestRunWith_12 rfl rfl ?_
      refine rx_get_pl d_d_newestRunWith_13 rfl f_d_11 ?_
      refine rs_iload_n d_d_newestRunWith_16 rfl rfl ?_
      refine rx_ld_p (by first | assumption | omega) d_d_newestRunWith_17 rfl ?_
      refine rs_iload_n d_d_newestRunWith_18 rfl rfl ?_
      refine rx_cV d_d_newestRunWith_19 rfl c_d_43 (by exact np_e_holds) (rw_e hPi) (k_holds hPi hk) (by decide) ⟨rfl, rfl⟩ (Nat.le_of_ble_eq_true rfl) rfl ?_
      rw [h0 i (by omega), if_pos rfl]
      refine rs_if_eq (tgt := 32) d_d_newestRunWith_22 rfl (by decide) (fun _ => ?_) (fun hc => absurd rfl hc)
      refine rs_iinc d_d_newestRunWith_32 rfl (by decide) rfl (rs_inc1 i) rfl ?_
      refine rs_goto (tgt := 7) d_d_newestRunWith_35 (by decide) ?_
      exact ih (i + 1) (by omega)
  refine rsK_of pf_d_newestRunWith rfl (Nat.le_of_ble_eq_true rfl) rfl ?_
  refine rs_aload_n d_d_newestRunWith_0 rfl rfl ?_
  refine rx_cV d_d_newestRunWith_1 rfl c_d_36 (by exact np_d_countRuns) rw_d (k_countRuns) (by decide) ⟨rfl, rfl⟩ (Nat.le_of_ble_eq_true rfl) rfl ?_
  refine rs_istore_n d_d_newestRunWith_4 rfl (by decide) rfl ?_
  refine rs_iconst (v := (nI 0)) d_d_newestRunWith_5 rfl (by decide) ?_
  refine rs_istore_n d_d_newestRunWith_6 rfl (by decide) rfl ?_
  exact loop (rp_sum r 3) 0 (by omega)
set_option maxRecDepth 100000 in
theorem k_newest_some {G : rsG} {n : Nat} {K V : Nat → Nat → Int32} {c P r : Nat → Nat} {md up wl cu : Int32} {hf : rsH} (hs : rp_sum r 3 ≤ 12) (hP : ∀ i, i < 13 → P i ≤ 12) {key : Nat} (hk : key < 100) {x : Nat} (hx : x < rp_sum r 3) (h0 : ∀ i, i < x → K (P i) key = 0) (h1 : ¬ K (P x) key = 0) : rsK G M_d_newestRunWith (rmO 2 43) [.ref (rsB G + 4), .int (nI key)] (rwd G K V c P r md up wl cu hf) n (rsOk (some (.ref (rw_eo (rsB G) (P x)))) (rwd G K V c P r md up wl cu hf) n) := by
  have loop : ∀ (d i : Nat), i + d = x → rsV G M_d_newestRunWith (rmO 2 43) (rsOk (some (.ref (rw_eo (rsB G) (P x)))) (rwd G K V c P r md up wl cu hf) n) 0 0 7 [some (.ref (rsB G + 4)), some (.int (nI key)), some (.int (nI (rp_sum r 3))), some (.int (nI i))] [] (rwd G K V c P r md up wl cu hf) n := by
    intro d
    induction d with
    | zero =>
      intro i hi
      obtain rfl : i = x := by omega
      have hi13 : i < 13 := by omega
      have hPi : P i ≤ 13 := by have := hP i hi13; omega
      refine rs_iload_n d_d_newestRunWith_7 rfl rfl ?_
      refine rs_iload_n d_d_newestRunWith_8 rfl rfl ?_
      refine rs_icmp_ge (tgt := 38) d_d_newestRunWith_9 rfl (by decide) (fun hc => absurd hc (nI_ge (by omega) (by omega))) (fun _ => ?_)
      refine rs_aload_n d_d_newestRunWith_12 rfl rfl ?_
      refine rx_get_pl d_d_newestRunWith_13 rfl f_d_11 ?_
      refine rs_iload_n d_d_newestRunWith_16 rfl rfl ?_
      refine rx_ld_p (by first | assumption | omega) d_d_newestRunWith_17 rfl ?_
      refine rs_iload_n d_d_newestRunWith_18 rfl rfl ?_
      refine rx_cV d_d_newestRunWith_19 rfl c_d_43 (by exact np_e_holds) (rw_e hPi) (k_holds hPi hk) (by decide) ⟨rfl, rfl⟩ (Nat.le_of_ble_eq_true rfl) rfl ?_
      rw [if_neg h1]
      refine rs_if_eq (tgt := 32) d_d_newestRunWith_22 rfl (by decide) (fun hc => absurd hc (by decide)) (fun _ => ?_)
      refine rs_aload_n d_d_newestRunWith_25 rfl rfl ?_
      refine rx_get_pl d_d_newestRunWith_26 rfl f_d_11 ?_
      refine rs_iload_n d_d_newestRunWith_29 rfl rfl ?_
      refine rx_ld_p (by first | assumption | omega) d_d_newestRunWith_30 rfl ?_
      exact rs_areturn d_d_newestRunWith_31 rfl ⟨rfl, rfl, rfl⟩
    | succ d ih =>
      intro i hi
      have hi13 : i < 13 := by omega
      have hPi : P i ≤ 13 := by have := hP i hi13; omega
      refine rs_iload_n d_d_newestRunWith_7 rfl rfl ?_
      refine rs_iload_n d_d_newestRunWith_8 rfl rfl ?_
      refine rs_icmp_ge (tgt := 38) d_d_newestRunWith_9 rfl (by decide) (fun hc => absurd hc (nI_ge (by omega) (by omega))) (fun _ => ?_)
      refine rs_aload_n d_d_newestRunWith_12 rfl rfl ?_
      refine rx_get_pl d_d_newestRunWith_13 rfl f_d_11 ?_
      refine rs_iload_n d_d_newestRunWith_16 rfl rfl ?_
      refine rx_ld_p (by first | assumption | omega) d_d_newestRunWith_17 rfl ?_
      refine rs_iload_n d_d_newestRunWith_18 rfl rfl ?_
      refine rx_cV d_d_newestRunWith_19 rfl c_d_43 (by exact np_e_holds) (rw_e hPi) (k_holds hPi hk) (by decide) ⟨rfl, rfl⟩ (Nat.le_of_ble_eq_true rfl) rfl ?_
      rw [h0 i (by omega), if_pos rfl]
      refine rs_if_eq (tgt := 32) d_d_newestRunWith_22 rfl (by decide) (fun _ => ?_) (fun hc => absurd rfl hc)
      refine rs_iinc d_d_newestRunWith_32 rfl (by decide) rfl (rs_inc1 i) rfl ?_
      refine rs_goto (tgt := 7) d_d_newestRunWith_35 (by decide) ?_
      exact ih (i + 1) (by omega)
  refine rsK_of pf_d_newestRunWith rfl (Nat.le_of_ble_eq_true rfl) rfl ?_
  refine rs_aload_n d_d_newestRunWith_0 rfl rfl ?_
  refine rx_cV d_d_newestRunWith_1 rfl c_d_36 (by exact np_d_countRuns) rw_d (k_countRuns) (by decide) ⟨rfl, rfl⟩ (Nat.le_of_ble_eq_true rfl) rfl ?_
  refine rs_istore_n d_d_newestRunWith_4 rfl (by decide) rfl ?_
  refine rs_iconst (v := (nI 0)) d_d_newestRunWith_5 rfl (by decide) ?_
  refine rs_istore_n d_d_newestRunWith_6 rfl (by decide) rfl ?_
  exact loop x 0 (by omega)
set_option maxRecDepth 100000 in
theorem k_draftFrom {G : rsG} {n : Nat} {K V : Nat → Nat → Int32} {c P r : Nat → Nat} {md up wl cu : Int32} {hf : rsH} {o : Nat} (hP : P 12 ≤ 12) (ho : o ≤ 13) (hne : o ≠ P 12) : rsK G M_d_draftFrom (rmO 3 66) [.ref (rsB G + 4), .ref (rw_eo (rsB G) o)] (rwd G K V c P r md up wl cu hf) n (rsOk (none) (rwd G (rp_aK (va_up K (P 12) (fun _ => 0)) (P 12) o 100) (rp_aV (va_up K (P 12) (fun _ => 0)) V (P 12) o 100) (rp_ac (va_up K (P 12) (fun _ => 0)) (va_up c (P 12) 0) (P 12) o 100) P r md up wl cu hf) n) := by
  refine rsK_of pf_d_draftFrom rfl (Nat.le_of_ble_eq_true rfl) rfl ?_
  have hd : P 12 ≤ 13 := by omega
  refine rs_aload_n d_d_draftFrom_0 rfl rfl ?_
  refine rx_cV d_d_draftFrom_1 rfl c_d_47 (by exact np_d_draft) rw_d (k_draft) (by decide) ⟨rfl, rfl⟩ (Nat.le_of_ble_eq_true rfl) rfl ?_
  refine rx_cV d_d_draftFrom_4 rfl c_d_51 (by exact np_e_clear) (rw_e hd) (k_clear hd) (by decide) ⟨rfl, rfl⟩ (Nat.le_of_ble_eq_true rfl) rfl ?_
  refine rs_aload_n d_d_draftFrom_7 rfl rfl ?_
  refine rx_cV d_d_draftFrom_8 rfl c_d_47 (by exact np_d_draft) rw_d (k_draft) (by decide) ⟨rfl, rfl⟩ (Nat.le_of_ble_eq_true rfl) rfl ?_
  refine rs_aload_n d_d_draftFrom_11 rfl rfl ?_
  refine rx_cV d_d_draftFrom_12 rfl c_d_54 (by exact np_e_addOlder) (rw_e hd) (k_addOlder hd ho hne) (by decide) ⟨rfl, rfl⟩ (Nat.le_of_ble_eq_true rfl) rfl ?_
  exact rs_vreturn d_d_draftFrom_15 rfl ⟨rfl, rfl, rfl⟩
def rp_lv (d : Nat) (q : Nat → Nat) (K V : Nat → Nat → Int32) (c : Nat → Nat) : Nat → (Nat → Nat → Int32) × (Nat → Nat → Int32) × (Nat → Nat)
  | 0 => (K, V, c)
  | i + 1 => (rp_aK (rp_lv d q K V c i).1 d (q i) 100, rp_aV (rp_lv d q K V c i).1 (rp_lv d q K V c i).2.1 d (q i) 100, rp_ac (rp_lv d q K V c i).1 (rp_lv d q K V c i).2.2 d (q i) 100)
set_option maxRecDepth 100000 in
theorem k_draftLevel_more {G : rsG} {n : Nat} {K V : Nat → Nat → Int32} {c P r : Nat → Nat} {md up wl cu : Int32} {hf : rsH} {lv : Nat} (hl : lv < 3) (hs : rp_sum r 3 ≤ 12) (hsl : rp_sum r lv + r lv ≤ rp_sum r 3) (hP : ∀ i, i < 13 → P i ≤ 12) (hinj : ∀ i, i < 12 → P i ≠ P 12) (hg : rp_sum r (lv + 1) < rp_sum r 3) : rsK G M_d_draftFromLevel (rmO 3 66) [.ref (rsB G + 4), .int (nI lv)] (rwd G K V c P r md up wl cu hf) n (rsOk (none) (rwd G (rp_lv (P 12) (fun i => P (rp_sum r lv + i)) (va_up K (P 12) (fun _ => 0)) V (va_up c (P 12) 0) (r lv)).1 (rp_lv (P 12) (fun i => P (rp_sum r lv + i)) (va_up K (P 12) (fun _ => 0)) V (va_up c (P 12) 0) (r lv)).2.1 (rp_lv (P 12) (fun i => P (rp_sum r lv + i)) (va_up K (P 12) (fun _ => 0)) V (va_up c (P 12) 0) (r lv)).2.2 P r md up wl cu hf) n) := by
  have loop : ∀ (d i : Nat), i + d = r lv → rsV G M_d_draftFromLevel (rmO 3 66) (rsOk (none) (rwd G (rp_lv (P 12) (fun i => P (rp_sum r lv + i)) (va_up K (P 12) (fun _ => 0)) V (va_up c (P 12) 0) (r lv)).1 (rp_lv (P 12) (fun i => P (rp_sum r lv + i)) (va_up K (P 12) (fun _ => 0)) V (va_up c (P 12) 0) (r lv)).2.1 (rp_lv (P 12) (fun i => P (rp_sum r lv + i)) (va_up K (P 12) (fun _ => 0)) V (va_up c (P 12) 0) (r lv)).2.2 P r md up wl cu hf) n) 0 0 9 [some (.ref (rsB G + 4)), some (.int (nI lv)), some (.int (nI i))] [] (rwd G (rp_lv (P 12) (fun i => P (rp_sum r lv + i)) (va_up K (P 12) (fun _ => 0)) V (va_up c (P 12) 0) i).1 (rp_lv (P 12) (fun i => P (rp_sum r lv + i)) (va_up K (P 12) (fun _ => 0)) V (va_up c (P 12) 0) i).2.1 (rp_lv (P 12) (fun i => P (rp_sum r lv + i)) (va_up K (P 12) (fun _ => 0)) V (va_up c (P 12) 0) i).2.2 P r md up wl cu hf) n := by
    intro d
    induction d with
    | zero =>
      intro i hi
      obtain rfl : i = r lv := by omega
      have hd : P 12 ≤ 13 := by have := hP 12 (by decide); omega
      refine rs_iload_n d_d_draftFromLevel_9 rfl rfl ?_
      refine rs_aload_n d_d_draftFromLevel_10 rfl rfl ?_
      refine rx_get_ro d_d_draftFromLevel_11 rfl f_d_18 ?_
      refine rs_iload_n d_d_draftFromLevel_14 rfl rfl ?_
      refine rx_ld_r (by first | assumption | omega) d_d_draftFromLevel_15 rfl ?_
      have he : rp_sum r (lv + 1) = rp_sum r lv + r lv := rfl
      refine rs_icmp_ge (tgt := 38) d_d_draftFromLevel_16 rfl (by decide) (fun _ => ?_) (fun hc => absurd (nI_le (by omega) (by omega)) hc)
      refine rs_aload_n d_d_draftFromLevel_38 rfl rfl ?_
      refine rs_iload_n d_d_draftFromLevel_39 rfl rfl ?_
      refine rs_iconst (v := (nI 1)) d_d_draftFromLevel_40 rfl (by decide) ?_
      refine rs_iadd d_d_draftFromLevel_41 rfl ?_
      refine rs_tope (nI_add _ _) ?_
      refine rx_cV d_d_draftFromLevel_42 rfl c_d_32 (by exact np_d_firstPlaceOf) rw_d (k_firstPlaceOf (by omega)) (by decide) ⟨rfl, rfl⟩ (Nat.le_of_ble_eq_true rfl) rfl ?_
      refine rs_aload_n d_d_draftFromLevel_45 rfl rfl ?_
      refine rx_cV d_d_draftFromLevel_46 rfl c_d_36 (by exact np_d_countRuns) rw_d (k_countRuns) (by decide) ⟨rfl, rfl⟩ (Nat.le_of_ble_eq_true rfl) rfl ?_
      refine rs_icmp_ge (tgt := 56) d_d_draftFromLevel_49 rfl (by decide) (fun hc => absurd hc (nI_ge hg (by omega))) (fun _ => ?_)
      refine rs_iconst (v := 1) d_d_draftFromLevel_52 rfl (by decide) ?_
      refine rs_goto (tgt := 57) d_d_draftFromLevel_53 (by decide) ?_
      refine rs_istore_n d_d_draftFromLevel_57 rfl (by decide) rfl ?_
      refine rs_iload_n d_d_draftFromLevel_58 rfl rfl ?_
      refine rs_if_ne (tgt := 69) d_d_draftFromLevel_59 rfl (by decide) (fun _ => ?_) (fun hc => absurd hc (by decide))
      exact rs_vreturn d_d_draftFromLevel_69 rfl ⟨rfl, rfl, rfl⟩
    | succ d ih =>
      intro i hi
      have hd : P 12 ≤ 13 := by have := hP 12 (by decide); omega
      refine rs_iload_n d_d_draftFromLevel_9 rfl rfl ?_
      refine rs_aload_n d_d_draftFromLevel_10 rfl rfl ?_
      refine rx_get_ro d_d_draftFromLevel_11 rfl f_d_18 ?_
      refine rs_iload_n d_d_draftFromLevel_14 rfl rfl ?_
      refine rx_ld_r (by first | assumption | omega) d_d_draftFromLevel_15 rfl ?_
      have hq : P (rp_sum r lv + i) ≤ 13 := by have := hP (rp_sum r lv + i) (by omega); omega
      refine rs_icmp_ge (tgt := 38) d_d_draftFromLevel_16 rfl (by decide) (fun hc => absurd hc (nI_ge (by omega) (by omega))) (fun _ => ?_)
      refine rs_aload_n d_d_draftFromLevel_19 rfl rfl ?_
      refine rx_cV d_d_draftFromLevel_20 rfl c_d_47 (by exact np_d_draft) rw_d (k_draft) (by decide) ⟨rfl, rfl⟩ (Nat.le_of_ble_eq_true rfl) rfl ?_
      refine rs_aload_n d_d_draftFromLevel_23 rfl rfl ?_
      refine rs_iload_n d_d_draftFromLevel_24 rfl rfl ?_
      refine rs_iload_n d_d_draftFromLevel_25 rfl rfl ?_
      refine rx_cV d_d_draftFromLevel_26 rfl c_d_58 (by exact np_d_run) rw_d (k_run (by omega) (by omega)) (by decide) ⟨rfl, rfl⟩ (Nat.le_of_ble_eq_true rfl) rfl ?_
      refine rx_cV d_d_draftFromLevel_29 rfl c_d_54 (by exact np_e_addOlder) (rw_e hd) (k_addOlder hd hq (hinj _ (by omega))) (by decide) ⟨rfl, rfl⟩ (Nat.le_of_ble_eq_true rfl) rfl ?_
      refine rs_iinc d_d_draftFromLevel_32 rfl (by decide) rfl (rs_inc1 i) rfl ?_
      refine rs_goto (tgt := 9) d_d_draftFromLevel_35 (by decide) ?_
      exact ih (i + 1) (by omega)
  refine rsK_of pf_d_draftFromLevel rfl (Nat.le_of_ble_eq_true rfl) rfl ?_
  have hd : P 12 ≤ 13 := by have := hP 12 (by decide); omega
  refine rs_aload_n d_d_draftFromLevel_0 rfl rfl ?_
  refine rx_cV d_d_draftFromLevel_1 rfl c_d_47 (by exact np_d_draft) rw_d (k_draft) (by decide) ⟨rfl, rfl⟩ (Nat.le_of_ble_eq_true rfl) rfl ?_
  refine rx_cV d_d_draftFromLevel_4 rfl c_d_51 (by exact np_e_clear) (rw_e hd) (k_clear hd) (by decide) ⟨rfl, rfl⟩ (Nat.le_of_ble_eq_true rfl) rfl ?_
  refine rs_iconst (v := (nI 0)) d_d_draftFromLevel_7 rfl (by decide) ?_
  refine rs_istore_n d_d_draftFromLevel_8 rfl (by decide) rfl ?_
  exact loop (r lv) 0 (by omega)
set_option maxRecDepth 100000 in
theorem k_draftLevel_last {G : rsG} {n : Nat} {K V : Nat → Nat → Int32} {c P r : Nat → Nat} {md up wl cu : Int32} {hf : rsH} {lv : Nat} (hl : lv < 3) (hs : rp_sum r 3 ≤ 12) (hsl : rp_sum r lv + r lv ≤ rp_sum r 3) (hP : ∀ i, i < 13 → P i ≤ 12) (hinj : ∀ i, i < 12 → P i ≠ P 12) (hg : rp_sum r 3 ≤ rp_sum r (lv + 1)) (hm : rp_cnt (rp_xB ((rp_lv (P 12) (fun i => P (rp_sum r lv + i)) (va_up K (P 12) (fun _ => 0)) V (va_up c (P 12) 0) (r lv)).1 (P 12))) 100 ≤ (rp_lv (P 12) (fun i => P (rp_sum r lv + i)) (va_up K (P 12) (fun _ => 0)) V (va_up c (P 12) 0) (r lv)).2.2 (P 12)) : rsK G M_d_draftFromLevel (rmO 3 66) [.ref (rsB G + 4), .int (nI lv)] (rwd G K V c P r md up wl cu hf) n (rsOk (none) (rwd G (rp_oK ((rp_lv (P 12) (fun i => P (rp_sum r lv + i)) (va_up K (P 12) (fun _ => 0)) V (va_up c (P 12) 0) (r lv)).1) (P 12) 100) (rp_lv (P 12) (fun i => P (rp_sum r lv + i)) (va_up K (P 12) (fun _ => 0)) V (va_up c (P 12) 0) (r lv)).2.1 (rp_oc ((rp_lv (P 12) (fun i => P (rp_sum r lv + i)) (va_up K (P 12) (fun _ => 0)) V (va_up c (P 12) 0) (r lv)).1) ((rp_lv (P 12) (fun i => P (rp_sum r lv + i)) (va_up K (P 12) (fun _ => 0)) V (va_up c (P 12) 0) (r lv)).2.2) (P 12) 100) P r md up wl cu hf) n) := by
  have loop : ∀ (d i : Nat), i + d = r lv → rsV G M_d_draftFromLevel (rmO 3 66) (rsOk (none) (rwd G (rp_oK ((rp_lv (P 12) (fun i => P (rp_sum r lv + i)) (va_up K (P 12) (fun _ => 0)) V (va_up c (P 12) 0) (r lv)).1) (P 12) 100) (rp_lv (P 12) (fun i => P (rp_sum r lv + i)) (va_up K (P 12) (fun _ => 0)) V (va_up c (P 12) 0) (r lv)).2.1 (rp_oc ((rp_lv (P 12) (fun i => P (rp_sum r lv + i)) (va_up K (P 12) (fun _ => 0)) V (va_up c (P 12) 0) (r lv)).1) ((rp_lv (P 12) (fun i => P (rp_sum r lv + i)) (va_up K (P 12) (fun _ => 0)) V (va_up c (P 12) 0) (r lv)).2.2) (P 12) 100) P r md up wl cu hf) n) 0 0 9 [some (.ref (rsB G + 4)), some (.int (nI lv)), some (.int (nI i))] [] (rwd G (rp_lv (P 12) (fun i => P (rp_sum r lv + i)) (va_up K (P 12) (fun _ => 0)) V (va_up c (P 12) 0) i).1 (rp_lv (P 12) (fun i => P (rp_sum r lv + i)) (va_up K (P 12) (fun _ => 0)) V (va_up c (P 12) 0) i).2.1 (rp_lv (P 12) (fun i => P (rp_sum r lv + i)) (va_up K (P 12) (fun _ => 0)) V (va_up c (P 12) 0) i).2.2 P r md up wl cu hf) n := by
    intro d
    induction d with
    | zero =>
      intro i hi
      obtain rfl : i = r lv := by omega
      have hd : P 12 ≤ 13 := by have := hP 12 (by decide); omega
      refine rs_iload_n d_d_draftFromLevel_9 rfl rfl ?_
      refine rs_aload_n d_d_draftFromLevel_10 rfl rfl ?_
      refine rx_get_ro d_d_draftFromLevel_11 rfl f_d_18 ?_
      refine rs_iload_n d_d_draftFromLevel_14 rfl rfl ?_
      refine rx_ld_r (by first | assumption | omega) d_d_draftFromLevel_15 rfl ?_
      have he : rp_sum r (lv + 1) = rp_sum r lv + r lv := rfl
      refine rs_icmp_ge (tgt := 38) d_d_draftFromLevel_16 rfl (by decide) (fun _ => ?_) (fun hc => absurd (nI_le (by omega) (by omega)) hc)
      refine rs_aload_n d_d_draftFromLevel_38 rfl rfl ?_
      refine rs_iload_n d_d_draftFromLevel_39 rfl rfl ?_
      refine rs_iconst (v := (nI 1)) d_d_draftFromLevel_40 rfl (by decide) ?_
      refine rs_iadd d_d_draftFromLevel_41 rfl ?_
      refine rs_tope (nI_add _ _) ?_
      refine rx_cV d_d_draftFromLevel_42 rfl c_d_32 (by exact np_d_firstPlaceOf) rw_d (k_firstPlaceOf (by omega)) (by decide) ⟨rfl, rfl⟩ (Nat.le_of_ble_eq_true rfl) rfl ?_
      refine rs_aload_n d_d_draftFromLevel_45 rfl rfl ?_
      refine rx_cV d_d_draftFromLevel_46 rfl c_d_36 (by exact np_d_countRuns) rw_d (k_countRuns) (by decide) ⟨rfl, rfl⟩ (Nat.le_of_ble_eq_true rfl) rfl ?_
      refine rs_icmp_ge (tgt := 56) d_d_draftFromLevel_49 rfl (by decide) (fun _ => ?_) (fun hc => absurd (nI_le (by omega) (by omega)) hc)
      refine rs_iconst (v := 0) d_d_draftFromLevel_56 rfl (by decide) ?_
      refine rs_istore_n d_d_draftFromLevel_57 rfl (by decide) rfl ?_
      refine rs_iload_n d_d_draftFromLevel_58 rfl rfl ?_
      refine rs_if_ne (tgt := 69) d_d_draftFromLevel_59 rfl (by decide) (fun hc => absurd rfl hc) (fun _ => ?_)
      refine rs_aload_n d_d_draftFromLevel_62 rfl rfl ?_
      refine rx_cV d_d_draftFromLevel_63 rfl c_d_47 (by exact np_d_draft) rw_d (k_draft) (by decide) ⟨rfl, rfl⟩ (Nat.le_of_ble_eq_true rfl) rfl ?_
      refine rx_cV d_d_draftFromLevel_66 rfl c_d_62 (by exact np_e_leaveOutMarks) (rw_e hd) (k_leaveOutMarks hd hm) (by decide) ⟨rfl, rfl⟩ (Nat.le_of_ble_eq_true rfl) rfl ?_
      exact rs_vreturn d_d_draftFromLevel_69 rfl ⟨rfl, rfl, rfl⟩
    | succ d ih =>
      intro i hi
      have hd : P 12 ≤ 13 := by have := hP 12 (by decide); omega
      refine rs_iload_n d_d_draftFromLevel_9 rfl rfl ?_
      refine rs_aload_n d_d_draftFromLevel_10 rfl rfl ?_
      refine rx_get_ro d_d_draftFromLevel_11 rfl f_d_18 ?_
      refine rs_iload_n d_d_draftFromLevel_14 rfl rfl ?_
      refine rx_ld_r (by first | assumption | omega) d_d_draftFromLevel_15 rfl ?_
      have hq : P (rp_sum r lv + i) ≤ 13 := by have := hP (rp_sum r lv + i) (by omega); omega
      refine rs_icmp_ge (tgt := 38) d_d_draftFromLevel_16 rfl (by decide) (fun hc => absurd hc (nI_ge (by omega) (by omega))) (fun _ => ?_)
      refine rs_aload_n d_d_draftFromLevel_19 rfl rfl ?_
      refine rx_cV d_d_draftFromLevel_20 rfl c_d_47 (by exact np_d_draft) rw_d (k_draft) (by decide) ⟨rfl, rfl⟩ (Nat.le_of_ble_eq_true rfl) rfl ?_
      refine rs_aload_n d_d_draftFromLevel_23 rfl rfl ?_
      refine rs_iload_n d_d_draftFromLevel_24 rfl rfl ?_
      refine rs_iload_n d_d_draftFromLevel_25 rfl rfl ?_
      refine rx_cV d_d_draftFromLevel_26 rfl c_d_58 (by exact np_d_run) rw_d (k_run (by omega) (by omega)) (by decide) ⟨rfl, rfl⟩ (Nat.le_of_ble_eq_true rfl) rfl ?_
      refine rx_cV d_d_draftFromLevel_29 rfl c_d_54 (by exact np_e_addOlder) (rw_e hd) (k_addOlder hd hq (hinj _ (by omega))) (by decide) ⟨rfl, rfl⟩ (Nat.le_of_ble_eq_true rfl) rfl ?_
      refine rs_iinc d_d_draftFromLevel_32 rfl (by decide) rfl (rs_inc1 i) rfl ?_
      refine rs_goto (tgt := 9) d_d_draftFromLevel_35 (by decide) ?_
      exact ih (i + 1) (by omega)
  refine rsK_of pf_d_draftFromLevel rfl (Nat.le_of_ble_eq_true rfl) rfl ?_
  have hd : P 12 ≤ 13 := by have := hP 12 (by decide); omega
  refine rs_aload_n d_d_draftFromLevel_0 rfl rfl ?_
  refine rx_cV d_d_draftFromLevel_1 rfl c_d_47 (by exact np_d_draft) rw_d (k_draft) (by decide) ⟨rfl, rfl⟩ (Nat.le_of_ble_eq_true rfl) rfl ?_
  refine rx_cV d_d_draftFromLevel_4 rfl c_d_51 (by exact np_e_clear) (rw_e hd) (k_clear hd) (by decide) ⟨rfl, rfl⟩ (Nat.le_of_ble_eq_true rfl) rfl ?_
  refine rs_iconst (v := (nI 0)) d_d_draftFromLevel_7 rfl (by decide) ?_
  refine rs_istore_n d_d_draftFromLevel_8 rfl (by decide) rfl ?_
  exact loop (r lv) 0 (by omega)
end
section
/-! 15: Disk: the moves of places, the lists (written by gen_disk2.py) -/
def rp_D (P : Nat → Nat) (i : Nat) : Nat → Nat := fun q => if i < q ∧ q ≤ 12 then P (q - 1) else P q
theorem rp_D12 (P : Nat → Nat) : rp_D P 12 = P := by
  funext q; unfold rp_D; rw [if_neg (by omega)]
theorem rp_Du (P : Nat → Nat) {i : Nat} (hi : i < 12) : va_up (rp_D P (i + 1)) (i + 1) (rp_D P (i + 1) i) = rp_D P i := by
  funext q
  unfold va_up rp_D
  rw [if_neg (show ¬ (i + 1 < i ∧ i ≤ 12) by omega)]
  by_cases hq : q = i + 1
  · rw [if_pos hq, if_pos (by omega), hq, Nat.add_sub_cancel]
  · rw [if_neg hq]
    by_cases h1 : i + 1 < q ∧ q ≤ 12
    · rw [if_pos h1, if_pos (by omega)]
    · rw [if_neg h1, if_neg (by omega)]
theorem rp_D_le {P : Nat → Nat} (hP : ∀ i, i < 13 → P i ≤ 12) (i q : Nat) (hq : q < 13) : rp_D P i q ≤ 12 := by
  unfold rp_D
  split
  · exact hP _ (by omega)
  · exact hP _ hq
/-- the draft goes to a place: what stood there and behind moves on -/
def rp_mvd (P : Nat → Nat) (p : Nat) : Nat → Nat := va_up (rp_D P p) p (P 12)
def rp_E (P : Nat → Nat) (p i : Nat) : Nat → Nat := fun q => if p ≤ q ∧ q < i then P (q + 1) else P q
theorem rp_E0 (P : Nat → Nat) (p : Nat) : rp_E P p p = P := by
  funext q; unfold rp_E; rw [if_neg (by omega)]
theorem rp_Eu (P : Nat → Nat) {p i : Nat} (hi : p ≤ i) : va_up (rp_E P p i) i (rp_E P p i (i + 1)) = rp_E P p (i + 1) := by
  funext q
  unfold va_up rp_E
  rw [if_neg (show ¬ (p ≤ i + 1 ∧ i + 1 < i) by omega)]
  by_cases hq : q = i
  · rw [if_pos hq, if_pos (by omega), hq]
  · rw [if_neg hq]
    by_cases h1 : p ≤ q ∧ q < i
    · rw [if_pos h1, if_pos (by omega)]
    · rw [if_neg h1, if_neg (by omega)]
theorem rp_E_le {P : Nat → Nat} (hP : ∀ i, i < 13 → P i ≤ 12) (p i q : Nat) (hi : i ≤ 12) (hq : q < 13) : rp_E P p i q ≤ 12 := by
  unfold rp_E
  split
  · exact hP _ (by omega)
  · exact hP _ hq
/-- a place becomes the draft: what stood behind it moves up -/
def rp_mv2 (P : Nat → Nat) (p : Nat) : Nat → Nat := va_up (rp_E P p 12) 12 (P p)
def rp_mvs (P : Nat → Nat) (p : Nat) : Nat → Nat → Nat
  | 0 => P
  | i + 1 => rp_mv2 (rp_mvs P p i) p
theorem rp_mvd_le {P : Nat → Nat} (hP : ∀ i, i < 13 → P i ≤ 12) (p : Nat) : ∀ q, q < 13 → rp_mvd P p q ≤ 12 := by
  intro q hq
  unfold rp_mvd va_up
  split
  · exact hP 12 (by decide)
  · exact rp_D_le hP p q hq
theorem rp_mv2_le {P : Nat → Nat} (hP : ∀ i, i < 13 → P i ≤ 12) {p : Nat} (hp : p ≤ 12) : ∀ q, q < 13 → rp_mv2 P p q ≤ 12 := by
  intro q hq
  unfold rp_mv2 va_up
  split
  · exact hP p (by omega)
  · exact rp_E_le hP p 12 q (by decide) hq
theorem rp_mvs_le {P : Nat → Nat} (hP : ∀ i, i < 13 → P i ≤ 12) {p : Nat} (hp : p ≤ 12) : ∀ i q, q < 13 → rp_mvs P p i q ≤ 12 := by
  intro i
  induction i with
  | zero => exact hP
  | succ i ih => exact rp_mv2_le ih hp
set_option maxRecDepth 100000 in
theorem k_moveDraftTo {G : rsG} {n : Nat} {K V : Nat → Nat → Int32} {c P r : Nat → Nat} {md up wl cu : Int32} {hf : rsH} {p : Nat} (hp : p ≤ 12) (hP : ∀ i, i < 13 → P i ≤ 12) : rsK G M_d_moveDraftTo (rmO 0 0) [.ref (rsB G + 4), .int (nI p)] (rwd G K V c P r md up wl cu hf) n (rsOk none (rwd G K V c (rp_mvd P p) r md up wl cu hf) n) := by
  have loop : ∀ (d i : Nat), p + d = i → i ≤ 12 → rsV G M_d_moveDraftTo (rmO 0 0) (rsOk none (rwd G K V c (rp_mvd P p) r md up wl cu hf) n) 0 0 11 [some (.ref (rsB G + 4)), some (.int (nI p)), some (.ref (rw_eo (rsB G) (P 12))), some (.int (nI i))] [] (rwd G K V c (rp_D P i) r md up wl cu hf) n := by
    intro d
    induction d with
    | zero =>
      intro i hi hi12
      obtain rfl : i = p := by omega
      have hd : P 12 ≤ 13 := by have := hP 12 (by decide); omega
      have hp13 : i < 13 := by omega
      refine rs_iload_n d_d_moveDraftTo_11 rfl rfl ?_
      refine rs_iload_n d_d_moveDraftTo_12 rfl rfl ?_
      refine rs_icmp_le (tgt := 36) d_d_moveDraftTo_13 rfl (by decide) (fun _ => ?_) (fun hc => absurd (nI_le (by omega) (by omega)) hc)
      refine rs_aload_n d_d_moveDraftTo_36 rfl rfl ?_
      refine rx_get_pl d_d_moveDraftTo_37 rfl f_d_11 ?_
      refine rs_iload_n d_d_moveDraftTo_40 rfl rfl ?_
      refine rs_aload_n d_d_moveDraftTo_41 rfl rfl ?_
      refine rx_st_p (by first | assumption | omega) (by first | assumption | omega) d_d_moveDraftTo_42 rfl ?_
      exact rs_vreturn d_d_moveDraftTo_43 rfl ⟨rfl, rfl, rfl⟩
    | succ d ih =>
      intro i hi hi12
      obtain ⟨k, rfl⟩ : ∃ k, i = k + 1 := ⟨i - 1, by omega⟩
      have hk13 : k < 13 := by omega
      have hk1 : k + 1 < 13 := by omega
      have hDk : rp_D P (k + 1) k ≤ 13 := by have := rp_D_le hP (k + 1) k hk13; omega
      refine rs_iload_n d_d_moveDraftTo_11 rfl rfl ?_
      refine rs_iload_n d_d_moveDraftTo_12 rfl rfl ?_
      refine rs_icmp_le (tgt := 36) d_d_moveDraftTo_13 rfl (by decide) (fun hc => absurd hc (nI_ge (by omega) (by omega))) (fun _ => ?_)
      refine rs_aload_n d_d_moveDraftTo_16 rfl rfl ?_
      refine rx_get_pl d_d_moveDraftTo_17 rfl f_d_11 ?_
      refine rs_iload_n d_d_moveDraftTo_20 rfl rfl ?_
      refine rs_aload_n d_d_moveDraftTo_21 rfl rfl ?_
      refine rx_get_pl d_d_moveDraftTo_22 rfl f_d_11 ?_
      refine rs_iload_n d_d_moveDraftTo_25 rfl rfl ?_
      refine rs_iconst (v := (nI 1)) d_d_moveDraftTo_26 rfl (by decide) ?_
      refine rs_isub d_d_moveDraftTo_27 rfl ?_
      refine rs_tope (y := nI k) (by rw [pk_sub (by omega), Nat.add_sub_cancel]) ?_
      refine rx_ld_p (by first | assumption | omega) d_d_moveDraftTo_28 rfl ?_
      refine rx_st_p (by first | assumption | omega) (by first | assumption | omega) d_d_moveDraftTo_29 rfl ?_
      rw [rp_Du P (by omega)]
      refine rs_iinc d_d_moveDraftTo_30 rfl (by decide) rfl (rs_dec1 k) rfl ?_
      refine rs_goto (tgt := 11) d_d_moveDraftTo_33 (by decide) ?_
      exact ih k (by omega) (by omega)
  refine rsK_of pf_d_moveDraftTo rfl (Nat.le_of_ble_eq_true rfl) rfl ?_
  refine rs_aload_n d_d_moveDraftTo_0 rfl rfl ?_
  refine rx_get_pl d_d_moveDraftTo_1 rfl f_d_11 ?_
  refine rs_bipush (v := (nI 12)) d_d_moveDraftTo_4 rfl (by decide) ?_
  refine rx_ld_p (by first | assumption | omega) d_d_moveDraftTo_6 rfl ?_
  refine rs_astore_n d_d_moveDraftTo_7 rfl (by decide) rfl ?_
  refine rs_bipush (v := (nI 12)) d_d_moveDraftTo_8 rfl (by decide) ?_
  refine rs_istore_n d_d_moveDraftTo_10 rfl (by decide) rfl ?_
  refine rsV_eq ?_ (loop (12 - p) 12 (by omega) (by omega))
  rw [rp_D12]
set_option maxRecDepth 100000 in
theorem k_moveToDraft {G : rsG} {n : Nat} {K V : Nat → Nat → Int32} {c P r : Nat → Nat} {md up wl cu : Int32} {hf : rsH} {p : Nat} (hp : p ≤ 12) (hP : ∀ i, i < 13 → P i ≤ 12) : rsK G M_d_moveToDraft (rmO 0 0) [.ref (rsB G + 4), .int (nI p)] (rwd G K V c P r md up wl cu hf) n (rsOk none (rwd G K V c (rp_mv2 P p) r md up wl cu hf) n) := by
  have loop : ∀ (d i : Nat), i + d = 12 → p ≤ i → rsV G M_d_moveToDraft (rmO 0 0) (rsOk none (rwd G K V c (rp_mv2 P p) r md up wl cu hf) n) 0 0 9 [some (.ref (rsB G + 4)), some (.int (nI p)), some (.ref (rw_eo (rsB G) (P p))), some (.int (nI i))] [] (rwd G K V c (rp_E P p i) r md up wl cu hf) n := by
    intro d
    induction d with
    | zero =>
      intro i hi hpi
      obtain rfl : i = 12 := by omega
      have hd : P p ≤ 13 := by have := hP p (by omega); omega
      refine rs_iload_n d_d_moveToDraft_9 rfl rfl ?_
      refine rs_bipush (v := (nI 12)) d_d_moveToDraft_10 rfl (by decide) ?_
      refine rs_icmp_ge (tgt := 35) d_d_moveToDraft_12 rfl (by decide) (fun _ => ?_) (fun hc => absurd (nI_le (by omega) (by omega)) hc)
      refine rs_aload_n d_d_moveToDraft_35 rfl rfl ?_
      refine rx_get_pl d_d_moveToDraft_36 rfl f_d_11 ?_
      refine rs_bipush (v := (nI 12)) d_d_moveToDraft_39 rfl (by decide) ?_
      refine rs_aload_n d_d_moveToDraft_41 rfl rfl ?_
      refine rx_st_p (by first | assumption | omega) (by first | assumption | omega) d_d_moveToDraft_42 rfl ?_
      exact rs_vreturn d_d_moveToDraft_43 rfl ⟨rfl, rfl, rfl⟩
    | succ d ih =>
      intro i hi hpi
      have hi13 : i < 13 := by omega
      have hi1 : i + 1 < 13 := by omega
      have hEk : rp_E P p i (i + 1) ≤ 13 := by have := rp_E_le hP p i (i + 1) (by omega) hi1; omega
      refine rs_iload_n d_d_moveToDraft_9 rfl rfl ?_
      refine rs_bipush (v := (nI 12)) d_d_moveToDraft_10 rfl (by decide) ?_
      refine rs_icmp_ge (tgt := 35) d_d_moveToDraft_12 rfl (by decide) (fun hc => absurd hc (nI_ge (by omega) (by omega))) (fun _ => ?_)
      refine rs_aload_n d_d_moveToDraft_15 rfl rfl ?_
      refine rx_get_pl d_d_moveToDraft_16 rfl f_d_11 ?_
      refine rs_iload_n d_d_moveToDraft_19 rfl rfl ?_
      refine rs_aload_n d_d_moveToDraft_20 rfl rfl ?_
      refine rx_get_pl d_d_moveToDraft_21 rfl f_d_11 ?_
      refine rs_iload_n d_d_moveToDraft_24 rfl rfl ?_
      refine rs_iconst (v := (nI 1)) d_d_moveToDraft_25 rfl (by decide) ?_
      refine rs_iadd d_d_moveToDraft_26 rfl ?_
      refine rs_tope (nI_add _ _) ?_
      refine rx_ld_p (by first | assumption | omega) d_d_moveToDraft_27 rfl ?_
      refine rx_st_p (by first | assumption | omega) (by first | assumption | omega) d_d_moveToDraft_28 rfl ?_
      rw [rp_Eu P hpi]
      refine rs_iinc d_d_moveToDraft_29 rfl (by decide) rfl (rs_inc1 i) rfl ?_
      refine rs_goto (tgt := 9) d_d_moveToDraft_32 (by decide) ?_
      exact ih (i + 1) (by omega) (by omega)
  refine rsK_of pf_d_moveToDraft rfl (Nat.le_of_ble_eq_true rfl) rfl ?_
  have hp13 : p < 13 := by omega
  refine rs_aload_n d_d_moveToDraft_0 rfl rfl ?_
  refine rx_get_pl d_d_moveToDraft_1 rfl f_d_11 ?_
  refine rs_iload_n d_d_moveToDraft_4 rfl rfl ?_
  refine rx_ld_p (by first | assumption | omega) d_d_moveToDraft_5 rfl ?_
  refine rs_astore_n d_d_moveToDraft_6 rfl (by decide) rfl ?_
  refine rs_iload_n d_d_moveToDraft_7 rfl rfl ?_
  refine rs_istore_n d_d_moveToDraft_8 rfl (by decide) rfl ?_
  refine rsV_eq ?_ (loop (12 - p) p (by omega) (by omega))
  rw [rp_E0]
set_option maxRecDepth 100000 in
theorem k_listFlushed {G : rsG} {n : Nat} {K V : Nat → Nat → Int32} {c P r : Nat → Nat} {md up wl cu : Int32} {hf : rsH} (hP : ∀ i, i < 13 → P i ≤ 12) : rsK G M_d_listDraftAsFlushed (rmO 1 23) [.ref (rsB G + 4)] (rwd G K V c P r md up wl cu hf) n (rsOk (none) (rwd G K V c (rp_mvd P 0) (va_up r 0 (r 0 + 1)) md up wl cu hf) n) := by
  refine rsK_of pf_d_listDraftAsFlushed rfl (Nat.le_of_ble_eq_true rfl) rfl ?_
  refine rs_aload_n d_d_listDraftAsFlushed_0 rfl rfl ?_
  refine rs_iconst (v := (nI 0)) d_d_listDraftAsFlushed_1 rfl (by decide) ?_
  refine rx_cV d_d_listDraftAsFlushed_2 rfl c_d_65 (by exact np_d_moveDraftTo) rw_d (k_moveDraftTo (by decide) hP) (by decide) ⟨rfl, rfl⟩ (Nat.le_of_ble_eq_true rfl) rfl ?_
  refine rs_aload_n d_d_listDraftAsFlushed_5 rfl rfl ?_
  refine rx_get_ro d_d_listDraftAsFlushed_6 rfl f_d_18 ?_
  refine rs_iconst (v := (nI 0)) d_d_listDraftAsFlushed_9 rfl (by decide) ?_
  refine rs_dup2 d_d_listDraftAsFlushed_10 rfl rfl rfl ?_
  refine rx_ld_r (by first | assumption | omega) d_d_listDraftAsFlushed_11 rfl ?_
  refine rs_iconst (v := (nI 1)) d_d_listDraftAsFlushed_12 rfl (by decide) ?_
  refine rs_iadd d_d_listDraftAsFlushed_13 rfl ?_
  refine rs_tope (nI_add _ _) ?_
  refine rx_st_r (by first | assumption | omega) d_d_listDraftAsFlushed_14 rfl ?_
  exact rs_vreturn d_d_listDraftAsFlushed_15 rfl ⟨rfl, rfl, rfl⟩
set_option maxRecDepth 100000 in
theorem k_listMerged_none {G : rsG} {n : Nat} {K V : Nat → Nat → Int32} {c P r : Nat → Nat} {md up wl cu : Int32} {hf : rsH} {lv : Nat} (hl : lv < 3) (hP : ∀ i, i < 13 → P i ≤ 12) (hr : r lv ≤ 12) (hpl : rp_sum r lv ≤ 12) (hz : c (P 12) = 0) : rsK G M_d_listDraftAsMerged (rmO 1 23) [.ref (rsB G + 4), .int (nI lv)] (rwd G K V c P r md up wl cu hf) n (rsOk none (rwd G K V c (rp_mvs P (rp_sum r lv) (r lv)) (va_up r lv 0) md up wl cu hf) n) := by
  have loop : ∀ (d i : Nat), i + d = r lv → rsV G M_d_listDraftAsMerged (rmO 1 23) (rsOk none (rwd G K V c (rp_mvs P (rp_sum r lv) (r lv)) (va_up r lv 0) md up wl cu hf) n) 0 0 57 [some (.ref (rsB G + 4)), some (.int (nI lv)), some (.int (nI (r lv))), some (.int (nI (rp_sum r lv))), some (.int (nI i))] [] (rwd G K V c (rp_mvs P (rp_sum r lv) i) (va_up r lv 0) md up wl cu hf) n := by
    intro d
    induction d with
    | zero =>
      intro i hi
      obtain rfl : i = r lv := by omega
      refine rs_iload d_d_listDraftAsMerged_57 rfl rfl ?_
      refine rs_iload_n d_d_listDraftAsMerged_59 rfl rfl ?_
      refine rs_icmp_ge (tgt := 74) d_d_listDraftAsMerged_60 rfl (by decide) (fun _ => ?_) (fun hc => absurd (nI_le (by omega) (by omega)) hc)
      exact rs_vreturn d_d_listDraftAsMerged_74 rfl ⟨rfl, rfl, rfl⟩
    | succ d ih =>
      intro i hi
      refine rs_iload d_d_listDraftAsMerged_57 rfl rfl ?_
      refine rs_iload_n d_d_listDraftAsMerged_59 rfl rfl ?_
      refine rs_icmp_ge (tgt := 74) d_d_listDraftAsMerged_60 rfl (by decide) (fun hc => absurd hc (nI_ge (by omega) (by omega))) (fun _ => ?_)
      refine rs_aload_n d_d_listDraftAsMerged_63 rfl rfl ?_
      refine rs_iload_n d_d_listDraftAsMerged_64 rfl rfl ?_
      refine rx_cV d_d_listDraftAsMerged_65 rfl c_d_78 (by exact np_d_moveToDraft) rw_d (k_moveToDraft hpl (rp_mvs_le hP hpl i)) (by decide) ⟨rfl, rfl⟩ (Nat.le_of_ble_eq_true rfl) rfl ?_
      refine rs_iinc d_d_listDraftAsMerged_68 rfl (by decide) rfl (rs_inc1 i) rfl ?_
      refine rs_goto (tgt := 57) d_d_listDraftAsMerged_71 (by decide) ?_
      exact ih (i + 1) (by omega)
  refine rsK_of pf_d_listDraftAsMerged rfl (Nat.le_of_ble_eq_true rfl) rfl ?_
  have hd : P 12 ≤ 13 := by have := hP 12 (by decide); omega
  refine rs_aload_n d_d_listDraftAsMerged_0 rfl rfl ?_
  refine rx_get_ro d_d_listDraftAsMerged_1 rfl f_d_18 ?_
  refine rs_iload_n d_d_listDraftAsMerged_4 rfl rfl ?_
  refine rx_ld_r (by first | assumption | omega) d_d_listDraftAsMerged_5 rfl ?_
  refine rs_istore_n d_d_listDraftAsMerged_6 rfl (by decide) rfl ?_
  refine rs_aload_n d_d_listDraftAsMerged_7 rfl rfl ?_
  refine rs_iload_n d_d_listDraftAsMerged_8 rfl rfl ?_
  refine rx_cV d_d_listDraftAsMerged_9 rfl c_d_32 (by exact np_d_firstPlaceOf) rw_d (k_firstPlaceOf (by omega)) (by decide) ⟨rfl, rfl⟩ (Nat.le_of_ble_eq_true rfl) rfl ?_
  refine rs_istore_n d_d_listDraftAsMerged_12 rfl (by decide) rfl ?_
  refine rs_aload_n d_d_listDraftAsMerged_13 rfl rfl ?_
  refine rx_get_ro d_d_listDraftAsMerged_14 rfl f_d_18 ?_
  refine rs_iload_n d_d_listDraftAsMerged_17 rfl rfl ?_
  refine rs_iconst (v := (nI 0)) d_d_listDraftAsMerged_18 rfl (by decide) ?_
  refine rx_st_r (by first | assumption | omega) d_d_listDraftAsMerged_19 rfl ?_
  refine rs_aload_n d_d_listDraftAsMerged_20 rfl rfl ?_
  refine rx_cV d_d_listDraftAsMerged_21 rfl c_d_47 (by exact np_d_draft) rw_d (k_draft) (by decide) ⟨rfl, rfl⟩ (Nat.le_of_ble_eq_true rfl) rfl ?_
  refine rx_cV d_d_listDraftAsMerged_24 rfl c_d_69 (by exact np_e_count) (rw_e hd) (k_count hd) (by decide) ⟨rfl, rfl⟩ (Nat.le_of_ble_eq_true rfl) rfl ?_
  refine rs_if_le (tgt := 54) d_d_listDraftAsMerged_27 rfl (by decide) (fun _ => ?_) (fun hc => absurd (by rw [hz, nI_0]; decide) hc)
  refine rs_iconst (v := (nI 0)) d_d_listDraftAsMerged_54 rfl (by decide) ?_
  refine rs_istore d_d_listDraftAsMerged_55 rfl (by decide) rfl ?_
  exact loop (r lv) 0 (by omega)
set_option maxRecDepth 100000 in
theorem k_listMerged_some {G : rsG} {n : Nat} {K V : Nat → Nat → Int32} {c P r : Nat → Nat} {md up wl cu : Int32} {hf : rsH} {lv : Nat} (hl : lv < 3) (hP : ∀ i, i < 13 → P i ≤ 12) (hr : r lv ≤ 12) (hpl : rp_sum r lv + 1 ≤ 12) (hz : 0 < c (P 12)) (hc100 : c (P 12) ≤ 100) : rsK G M_d_listDraftAsMerged (rmO 1 23) [.ref (rsB G + 4), .int (nI lv)] (rwd G K V c P r md up wl cu hf) n (rsOk none (rwd G K V c (rp_mvs (rp_mvd P (rp_sum r lv)) (rp_sum r lv + 1) (r lv)) (va_up (va_up r lv 0) (min (lv + 1) 2) ((va_up r lv 0) (min (lv + 1) 2) + 1)) md up wl cu hf) n) := by
  have loop : ∀ (d i : Nat), i + d = r lv → rsV G M_d_listDraftAsMerged (rmO 1 23) (rsOk none (rwd G K V c (rp_mvs (rp_mvd P (rp_sum r lv)) (rp_sum r lv + 1) (r lv)) (va_up (va_up r lv 0) (min (lv + 1) 2) ((va_up r lv 0) (min (lv + 1) 2) + 1)) md up wl cu hf) n) 0 0 57 [some (.ref (rsB G + 4)), some (.int (nI lv)), some (.int (nI (r lv))), some (.int (nI (rp_sum r lv + 1))), some (.int (nI i))] [] (rwd G K V c (rp_mvs (rp_mvd P (rp_sum r lv)) (rp_sum r lv + 1) i) (va_up (va_up r lv 0) (min (lv + 1) 2) ((va_up r lv 0) (min (lv + 1) 2) + 1)) md up wl cu hf) n := by
    intro d
    induction d with
    | zero =>
      intro i hi
      obtain rfl : i = r lv := by omega
      refine rs_iload d_d_listDraftAsMerged_57 rfl rfl ?_
      refine rs_iload_n d_d_listDraftAsMerged_59 rfl rfl ?_
      refine rs_icmp_ge (tgt := 74) d_d_listDraftAsMerged_60 rfl (by decide) (fun _ => ?_) (fun hc => absurd (nI_le (by omega) (by omega)) hc)
      exact rs_vreturn d_d_listDraftAsMerged_74 rfl ⟨rfl, rfl, rfl⟩
    | succ d ih =>
      intro i hi
      refine rs_iload d_d_listDraftAsMerged_57 rfl rfl ?_
      refine rs_iload_n d_d_listDraftAsMerged_59 rfl rfl ?_
      refine rs_icmp_ge (tgt := 74) d_d_listDraftAsMerged_60 rfl (by decide) (fun hc => absurd hc (nI_ge (by omega) (by omega))) (fun _ => ?_)
      refine rs_aload_n d_d_listDraftAsMerged_63 rfl rfl ?_
      refine rs_iload_n d_d_listDraftAsMerged_64 rfl rfl ?_
      refine rx_cV d_d_listDraftAsMerged_65 rfl c_d_78 (by exact np_d_moveToDraft) rw_d (k_moveToDraft hpl (rp_mvs_le (rp_mvd_le hP _) hpl i)) (by decide) ⟨rfl, rfl⟩ (Nat.le_of_ble_eq_true rfl) rfl ?_
      refine rs_iinc d_d_listDraftAsMerged_68 rfl (by decide) rfl (rs_inc1 i) rfl ?_
      refine rs_goto (tgt := 57) d_d_listDraftAsMerged_71 (by decide) ?_
      exact ih (i + 1) (by omega)
  refine rsK_of pf_d_listDraftAsMerged rfl (Nat.le_of_ble_eq_true rfl) rfl ?_
  have hd : P 12 ≤ 13 := by have := hP 12 (by decide); omega
  refine rs_aload_n d_d_listDraftAsMerged_0 rfl rfl ?_
  refine rx_get_ro d_d_listDraftAsMerged_1 rfl f_d_18 ?_
  refine rs_iload_n d_d_listDraftAsMerged_4 rfl rfl ?_
  refine rx_ld_r (by first | assumption | omega) d_d_listDraftAsMerged_5 rfl ?_
  refine rs_istore_n d_d_listDraftAsMerged_6 rfl (by decide) rfl ?_
  refine rs_aload_n d_d_listDraftAsMerged_7 rfl rfl ?_
  refine rs_iload_n d_d_listDraftAsMerged_8 rfl rfl ?_
  refine rx_cV d_d_listDraftAsMerged_9 rfl c_d_32 (by exact np_d_firstPlaceOf) rw_d (k_firstPlaceOf (by omega)) (by decide) ⟨rfl, rfl⟩ (Nat.le_of_ble_eq_true rfl) rfl ?_
  refine rs_istore_n d_d_listDraftAsMerged_12 rfl (by decide) rfl ?_
  refine rs_aload_n d_d_listDraftAsMerged_13 rfl rfl ?_
  refine rx_get_ro d_d_listDraftAsMerged_14 rfl f_d_18 ?_
  refine rs_iload_n d_d_listDraftAsMerged_17 rfl rfl ?_
  refine rs_iconst (v := (nI 0)) d_d_listDraftAsMerged_18 rfl (by decide) ?_
  refine rx_st_r (by first | assumption | omega) d_d_listDraftAsMerged_19 rfl ?_
  refine rs_aload_n d_d_listDraftAsMerged_20 rfl rfl ?_
  refine rx_cV d_d_listDraftAsMerged_21 rfl c_d_47 (by exact np_d_draft) rw_d (k_draft) (by decide) ⟨rfl, rfl⟩ (Nat.le_of_ble_eq_true rfl) rfl ?_
  refine rx_cV d_d_listDraftAsMerged_24 rfl c_d_69 (by exact np_e_count) (rw_e hd) (k_count hd) (by decide) ⟨rfl, rfl⟩ (Nat.le_of_ble_eq_true rfl) rfl ?_
  refine rs_if_le (tgt := 54) d_d_listDraftAsMerged_27 rfl (by decide) (fun hc => absurd hc (nI_nle hz (by omega))) (fun _ => ?_)
  refine rs_aload_n d_d_listDraftAsMerged_30 rfl rfl ?_
  refine rs_iload_n d_d_listDraftAsMerged_31 rfl rfl ?_
  refine rx_cV d_d_listDraftAsMerged_32 rfl c_d_65 (by exact np_d_moveDraftTo) rw_d (k_moveDraftTo (by omega) hP) (by decide) ⟨rfl, rfl⟩ (Nat.le_of_ble_eq_true rfl) rfl ?_
  have hm3 : min (lv + 1) 2 < 3 := by omega
  refine rs_aload_n d_d_listDraftAsMerged_35 rfl rfl ?_
  refine rx_get_ro d_d_listDraftAsMerged_36 rfl f_d_18 ?_
  refine rs_iload_n d_d_listDraftAsMerged_39 rfl rfl ?_
  refine rs_iconst (v := (nI 1)) d_d_listDraftAsMerged_40 rfl (by decide) ?_
  refine rs_iadd d_d_listDraftAsMerged_41 rfl ?_
  refine rs_tope (nI_add _ _) ?_
  refine rs_iconst (v := (nI 2)) d_d_listDraftAsMerged_42 rfl (by decide) ?_
  refine rx_cS d_d_listDraftAsMerged_43 rfl c_d_72 (by exact np_a_min) (k_min (by omega) (by decide)) (by decide) ⟨rfl, rfl⟩ (Nat.le_of_ble_eq_true rfl) rfl ?_
  refine rs_dup2 d_d_listDraftAsMerged_46 rfl rfl rfl ?_
  refine rx_ld_r (by first | assumption | omega) d_d_listDraftAsMerged_47 rfl ?_
  refine rs_iconst (v := (nI 1)) d_d_listDraftAsMerged_48 rfl (by decide) ?_
  refine rs_iadd d_d_listDraftAsMerged_49 rfl ?_
  refine rs_tope (nI_add _ _) ?_
  refine rx_st_r (by first | assumption | omega) d_d_listDraftAsMerged_50 rfl ?_
  refine rs_iinc d_d_listDraftAsMerged_51 rfl (by decide) rfl (rs_inc1 _) rfl ?_
  refine rs_iconst (v := (nI 0)) d_d_listDraftAsMerged_54 rfl (by decide) ?_
  refine rs_istore d_d_listDraftAsMerged_55 rfl (by decide) rfl ?_
  exact loop (r lv) 0 (by omega)
end
section
/-! 16: the store's private methods (written by gen_store.py) -/
def rp_find (p : Nat → Bool) : Nat → Option Nat
  | 0 => none
  | n + 1 => match rp_find p n with
    | some x => some x
    | none => if p n = true then some n else none
theorem rp_find_none {p : Nat → Bool} : ∀ {n : Nat}, rp_find p n = none → ∀ i, i < n → p i = false
  | 0, _, i, hi => absurd hi (by omega)
  | n + 1, h, i, hi => by
    unfold rp_find at h
    cases hf : rp_find p n with
    | some x => rw [hf] at h; cases h
    | none =>
      rw [hf] at h
      by_cases hp : p n = true
      · simp only [hp, if_true] at h; cases h
      · by_cases hin : i = n
        · rw [hin]; simpa using hp
        · exact rp_find_none hf i (by omega)
theorem rp_find_some {p : Nat → Bool} : ∀ {n x : Nat}, rp_find p n = some x → x < n ∧ p x = true ∧ ∀ i, i < x → p i = false
  | 0, x, h => by cases h
  | n + 1, x, h => by
    unfold rp_find at h
    cases hf : rp_find p n with
    | some y =>
      rw [hf] at h
      cases h
      obtain ⟨h1, h2, h3⟩ := rp_find_some hf
      exact ⟨by omega, h2, h3⟩
    | none =>
      rw [hf] at h
      by_cases hp : p n = true
      · simp only [hp, if_true] at h
        cases h
        exact ⟨by omega, hp, rp_find_none hf⟩
      · simp only [hp] at h
        cases h
/-- the newest entries with a key: memory's (13), or those of a run -/
def rp_nw (K : Nat → Nat → Int32) (P : Nat → Nat) (m key : Nat) : Option Nat := if K 13 key = 0 then (rp_find (fun i => !decide (K (P i) key = 0)) m).map P else some 13
def rp_rv (b : Nat) : Option Nat → Value
  | some j => .ref (rw_eo b j)
  | none => .null
def rp_th (K : Nat → Nat → Int32) (P : Nat → Nat) (m key : Nat) : Int32 := match rp_nw K P m key with
  | some j => if K j key = 1 then 1 else 0
  | none => 0
def rp_vz (K V : Nat → Nat → Int32) (P : Nat → Nat) (m key : Nat) : Int32 := match rp_nw K P m key with
  | some j => V j key
  | none => 0
theorem rp_nw_le {K : Nat → Nat → Int32} {P : Nat → Nat} {m key j : Nat} (hP : ∀ i, i < 13 → P i ≤ 12) (hm : m ≤ 12) (h : rp_nw K P m key = some j) : j ≤ 13 := by
  unfold rp_nw at h
  by_cases h0 : K 13 key = 0
  · rw [if_pos h0] at h
    cases hf : rp_find (fun i => !decide (K (P i) key = 0)) m with
    | none => rw [hf] at h; cases h
    | some x =>
      rw [hf] at h
      cases h
      have h1 := (rp_find_some hf).1
      have := hP x (by omega)
      omega
  · rw [if_neg h0] at h; cases h; omega
/-- what a list's writes leave of the limit; none: the store goes down -/
def rp_sp (wl : Int32) (x : Int32) : Option Int32 := if wl = -1 then some (-1) else if x ≤ wl then some (wl - x) else none
set_option maxRecDepth 100000 in
theorem k_newestWith {G : rsG} {n : Nat} {K V : Nat → Nat → Int32} {c P r : Nat → Nat} {md up wl cu : Int32} {hf : rsH} (hs : rp_sum r 3 ≤ 12) (hP : ∀ i, i < 13 → P i ≤ 12) {key : Nat} (hk : key < 100) : rsK G M_s_newestWith (rmO 3 66) [.ref (rsB G), .int (nI key)] (rwd G K V c P r md up wl cu hf) n (rsOk (some (rp_rv (rsB G) (rp_nw K P (rp_sum r 3) key))) (rwd G K V c P r md up wl cu hf) n) := by
  refine rsK_of pf_s_newestWith rfl (Nat.le_of_ble_eq_true rfl) rfl ?_
  refine rs_aload_n d_s_newestWith_0 rfl rfl ?_
  refine rx_get_ga d_s_newestWith_1 rfl f_s_10 ?_
  refine rs_iload_n d_s_newestWith_4 rfl rfl ?_
  refine rx_cV d_s_newestWith_5 rfl c_s_159 (by exact np_e_holds) (rw_e (by decide)) (k_holds (by decide) hk) (by decide) ⟨rfl, rfl⟩ (Nat.le_of_ble_eq_true rfl) rfl ?_
  unfold rp_nw
  by_cases h0 : K 13 key = 0
  · rw [if_pos h0, if_pos h0]
    refine rs_if_eq (tgt := 18) d_s_newestWith_8 rfl (by decide) (fun _ => ?_) (fun hc => absurd (rfl) hc)
    refine rs_aload_n d_s_newestWith_18 rfl rfl ?_
    refine rx_get_di d_s_newestWith_19 rfl f_s_19 ?_
    refine rs_iload_n d_s_newestWith_22 rfl rfl ?_
    cases hf : rp_find (fun i => !decide (K (P i) key = 0)) (rp_sum r 3) with
    | none =>
      refine rx_cV d_s_newestWith_23 rfl c_s_189 (by exact np_d_newestRunWith) rw_d (k_newest_none hs hP hk (fun i hi => by have := rp_find_none hf i hi; simpa using this)) (by decide) ⟨rfl, rfl⟩ (Nat.le_of_ble_eq_true rfl) rfl ?_
      exact rs_areturnN d_s_newestWith_26 rfl ⟨rfl, rfl, rfl⟩
    | some x =>
      obtain ⟨g1, g2, g3⟩ := rp_find_some hf
      refine rx_cV d_s_newestWith_23 rfl c_s_189 (by exact np_d_newestRunWith) rw_d (k_newest_some hs hP hk g1 (fun i hi => by have := g3 i hi; simpa using this) (by simpa using g2)) (by decide) ⟨rfl, rfl⟩ (Nat.le_of_ble_eq_true rfl) rfl ?_
      exact rs_areturn d_s_newestWith_26 rfl ⟨rfl, rfl, rfl⟩
  · rw [if_neg h0, if_neg h0]
    refine rs_if_eq (tgt := 18) d_s_newestWith_8 rfl (by decide) (fun hc => absurd hc (by decide)) (fun _ => ?_)
    refine rs_aload_n d_s_newestWith_11 rfl rfl ?_
    refine rx_get_ga d_s_newestWith_12 rfl f_s_10 ?_
    refine rs_goto (tgt := 26) d_s_newestWith_15 (by decide) ?_
    exact rs_areturn d_s_newestWith_26 rfl ⟨rfl, rfl, rfl⟩
set_option maxRecDepth 100000 in
theorem k_isThere {G : rsG} {n : Nat} {K V : Nat → Nat → Int32} {c P r : Nat → Nat} {md up wl cu : Int32} {hf : rsH} (hs : rp_sum r 3 ≤ 12) (hP : ∀ i, i < 13 → P i ≤ 12) {key : Nat} (hk : key < 100) : rsK G M_s_isThere (rmO 4 87) [.ref (rsB G), .int (nI key)] (rwd G K V c P r md up wl cu hf) n (rsOk (some (.int (rp_th K P (rp_sum r 3) key))) (rwd G K V c P r md up wl cu hf) n) := by
  refine rsK_of pf_s_isThere rfl (Nat.le_of_ble_eq_true rfl) rfl ?_
  refine rs_aload_n d_s_isThere_0 rfl rfl ?_
  refine rs_iload_n d_s_isThere_1 rfl rfl ?_
  refine rx_cV d_s_isThere_2 rfl c_s_179 (by exact np_s_newestWith) rw_x (k_newestWith hs hP hk) (by decide) ⟨rfl, rfl⟩ (Nat.le_of_ble_eq_true rfl) rfl ?_
  unfold rp_th
  cases hn : rp_nw K P (rp_sum r 3) key with
  | none =>
    refine rs_astore_nN d_s_isThere_5 rfl (by decide) rfl ?_
    refine rs_aload_nN d_s_isThere_6 rfl rfl ?_
    refine rs_ifnullN (tgt := 22) d_s_isThere_7 (by decide) ?_
    refine rs_iconst (v := 0) d_s_isThere_22 rfl (by decide) ?_
    exact rs_zreturn d_s_isThere_23 rfl rfl ⟨rfl, rfl, rfl⟩
  | some j =>
    have hj : j ≤ 13 := rp_nw_le hP hs hn
    refine rs_astore_n d_s_isThere_5 rfl (by decide) rfl ?_
    refine rs_aload_n d_s_isThere_6 rfl rfl ?_
    refine rs_ifnull d_s_isThere_7 rfl ?_
    refine rs_aload_n d_s_isThere_10 rfl rfl ?_
    refine rs_iload_n d_s_isThere_11 rfl rfl ?_
    refine rx_cV d_s_isThere_12 rfl c_s_183 (by exact np_e_holdsValue) (rw_e hj) (k_holdsValue hj hk) (by decide) ⟨rfl, rfl⟩ (Nat.le_of_ble_eq_true rfl) rfl ?_
    by_cases h1 : K j key = 1
    · rw [if_pos h1]
      refine rs_if_eq (tgt := 22) d_s_isThere_15 rfl (by decide) (fun hc => absurd hc (by decide)) (fun _ => ?_)
      refine rs_iconst (v := 1) d_s_isThere_18 rfl (by decide) ?_
      refine rs_goto (tgt := 23) d_s_isThere_19 (by decide) ?_
      exact rs_zreturn d_s_isThere_23 rfl rfl ⟨by simp only [h1, if_true], rfl, rfl⟩
    · rw [if_neg h1]
      refine rs_if_eq (tgt := 22) d_s_isThere_15 rfl (by decide) (fun _ => ?_) (fun hc => absurd (rfl) hc)
      refine rs_iconst (v := 0) d_s_isThere_22 rfl (by decide) ?_
      exact rs_zreturn d_s_isThere_23 rfl rfl ⟨by simp only [h1, if_false], rfl, rfl⟩
set_option maxRecDepth 100000 in
theorem k_valueOrZero {G : rsG} {n : Nat} {K V : Nat → Nat → Int32} {c P r : Nat → Nat} {md up wl cu : Int32} {hf : rsH} (hs : rp_sum r 3 ≤ 12) (hP : ∀ i, i < 13 → P i ≤ 12) {key : Nat} (hk : key < 100) : rsK G M_s_valueOrZero (rmO 4 87) [.ref (rsB G), .int (nI key)] (rwd G K V c P r md up wl cu hf) n (rsOk (some (.int (rp_vz K V P (rp_sum r 3) key))) (rwd G K V c P r md up wl cu hf) n) := by
  refine rsK_of pf_s_valueOrZero rfl (Nat.le_of_ble_eq_true rfl) rfl ?_
  refine rs_aload_n d_s_valueOrZero_0 rfl rfl ?_
  refine rs_iload_n d_s_valueOrZero_1 rfl rfl ?_
  refine rx_cV d_s_valueOrZero_2 rfl c_s_179 (by exact np_s_newestWith) rw_x (k_newestWith hs hP hk) (by decide) ⟨rfl, rfl⟩ (Nat.le_of_ble_eq_true rfl) rfl ?_
  unfold rp_vz
  cases hn : rp_nw K P (rp_sum r 3) key with
  | none =>
    refine rs_astore_nN d_s_valueOrZero_5 rfl (by decide) rfl ?_
    refine rs_aload_nN d_s_valueOrZero_6 rfl rfl ?_
    refine rs_ifnonnullN d_s_valueOrZero_7 rfl ?_
    refine rs_iconst (v := 0) d_s_valueOrZero_10 rfl (by decide) ?_
    refine rs_goto (tgt := 19) d_s_valueOrZero_11 (by decide) ?_
    exact rs_ireturn d_s_valueOrZero_19 rfl ⟨rfl, rfl, rfl⟩
  | some j =>
    have hj : j ≤ 13 := rp_nw_le hP hs hn
    refine rs_astore_n d_s_valueOrZero_5 rfl (by decide) rfl ?_
    refine rs_aload_n d_s_valueOrZero_6 rfl rfl ?_
    refine rs_ifnonnull (tgt := 14) d_s_valueOrZero_7 (by decide) ?_
    refine rs_aload_n d_s_valueOrZero_14 rfl rfl ?_
    refine rs_iload_n d_s_valueOrZero_15 rfl rfl ?_
    refine rx_cV d_s_valueOrZero_16 rfl c_s_186 (by exact np_e_valueAt) (rw_e hj) (k_valueAt hj hk) (by decide) ⟨rfl, rfl⟩ (Nat.le_of_ble_eq_true rfl) rfl ?_
    exact rs_ireturn d_s_valueOrZero_19 rfl ⟨rfl, rfl, rfl⟩
set_option maxRecDepth 100000 in
theorem k_goDown {G : rsG} {n : Nat} {K V : Nat → Nat → Int32} {c P r : Nat → Nat} {md up wl cu : Int32} {hf : rsH}  : rsK G M_s_goDown (rmO 2 43) [.ref (rsB G)] (rwd G K V c P r md up wl cu hf) n (rsOk (none) (rwd G (va_up K 13 (fun _ => 0)) V (va_up c 13 0) P r md 0 (-1) (-1) hf) n) := by
  refine rsK_of pf_s_goDown rfl (Nat.le_of_ble_eq_true rfl) rfl ?_
  refine rs_aload_n d_s_goDown_0 rfl rfl ?_
  refine rx_get_ga d_s_goDown_1 rfl f_s_10 ?_
  refine rx_cV d_s_goDown_4 rfl c_s_139 (by exact np_e_clear) (rw_e (by decide)) (k_clear (by decide)) (by decide) ⟨rfl, rfl⟩ (Nat.le_of_ble_eq_true rfl) rfl ?_
  refine rs_aload_n d_s_goDown_7 rfl rfl ?_
  refine rs_iconst (v := (-1)) d_s_goDown_8 rfl (by decide) ?_
  refine rx_put_cu d_s_goDown_9 rfl p_s_31 ?_
  refine rs_aload_n d_s_goDown_12 rfl rfl ?_
  refine rs_iconst (v := (-1)) d_s_goDown_13 rfl (by decide) ?_
  refine rx_put_wl d_s_goDown_14 rfl p_s_27 ?_
  refine rs_aload_n d_s_goDown_17 rfl rfl ?_
  refine rs_iconst (v := 0) d_s_goDown_18 rfl (by decide) ?_
  refine rx_put_up d_s_goDown_19 rfl p_s_23 rfl rfl ?_
  exact rs_vreturn d_s_goDown_22 rfl ⟨rfl, rfl, rfl⟩
set_option maxRecDepth 100000 in
theorem k_comeUp {G : rsG} {n : Nat} {K V : Nat → Nat → Int32} {c P r : Nat → Nat} {md up wl cu : Int32} {hf : rsH}  : rsK G M_s_comeUp (rmO 2 43) [.ref (rsB G)] (rwd G K V c P r md up wl cu hf) n (rsOk (none) (rwd G (va_up K 13 (fun _ => 0)) V (va_up c 13 0) P r md 1 wl (-1) hf) n) := by
  refine rsK_of pf_s_comeUp rfl (Nat.le_of_ble_eq_true rfl) rfl ?_
  refine rs_aload_n d_s_comeUp_0 rfl rfl ?_
  refine rx_get_ga d_s_comeUp_1 rfl f_s_10 ?_
  refine rx_cV d_s_comeUp_4 rfl c_s_139 (by exact np_e_clear) (rw_e (by decide)) (k_clear (by decide)) (by decide) ⟨rfl, rfl⟩ (Nat.le_of_ble_eq_true rfl) rfl ?_
  refine rs_aload_n d_s_comeUp_7 rfl rfl ?_
  refine rs_iconst (v := (-1)) d_s_comeUp_8 rfl (by decide) ?_
  refine rx_put_cu d_s_comeUp_9 rfl p_s_31 ?_
  refine rs_aload_n d_s_comeUp_12 rfl rfl ?_
  refine rs_iconst (v := 1) d_s_comeUp_13 rfl (by decide) ?_
  refine rx_put_up d_s_comeUp_14 rfl p_s_23 rfl rfl ?_
  exact rs_vreturn d_s_comeUp_17 rfl ⟨rfl, rfl, rfl⟩
set_option maxRecDepth 100000 in
theorem k_spend_ok {G : rsG} {n : Nat} {K V : Nat → Nat → Int32} {c P r : Nat → Nat} {md up wl cu : Int32} {hf : rsH} {x wl' : Int32} (h : rp_sp wl x = some wl') : rsK G M_s_spendWrites (rmO 6 90) [.ref (rsB G), .int x] (rwd G K V c P r md up wl cu hf) n (rsOk (none) (rwd G K V c P r md up wl' cu hf) n) := by
  refine rsK_of pf_s_spendWrites rfl (Nat.le_of_ble_eq_true rfl) rfl ?_
  unfold rp_sp at h
  refine rs_aload_n d_s_spendWrites_0 rfl rfl ?_
  refine rx_get_wl d_s_spendWrites_1 rfl f_s_27 ?_
  refine rs_iconst (v := (-1)) d_s_spendWrites_4 rfl (by decide) ?_
  by_cases h1 : wl = -1
  · rw [if_pos h1] at h
    cases h
    subst h1
    refine rs_icmp_ne (tgt := 9) d_s_spendWrites_5 rfl (by decide) (fun hc => absurd (rfl) hc) (fun _ => ?_)
    exact rs_vreturn d_s_spendWrites_8 rfl ⟨rfl, rfl, rfl⟩
  · rw [if_neg h1] at h
    by_cases h2 : x ≤ wl
    · rw [if_pos h2] at h
      cases h
      refine rs_icmp_ne (tgt := 9) d_s_spendWrites_5 rfl (by decide) (fun _ => ?_) (fun hc => absurd hc (h1))
      refine rs_aload_n d_s_spendWrites_9 rfl rfl ?_
      refine rx_get_wl d_s_spendWrites_10 rfl f_s_27 ?_
      refine rs_iload_n d_s_spendWrites_13 rfl rfl ?_
      refine rs_icmp_ge (tgt := 31) d_s_spendWrites_14 rfl (by decide) (fun _ => ?_) (fun hc => absurd (h2) hc)
      refine rs_aload_n d_s_spendWrites_31 rfl rfl ?_
      refine rs_dup d_s_spendWrites_32 rfl rfl ?_
      refine rx_get_wl d_s_spendWrites_33 rfl f_s_27 ?_
      refine rs_iload_n d_s_spendWrites_36 rfl rfl ?_
      refine rs_isub d_s_spendWrites_37 rfl ?_
      refine rx_put_wl d_s_spendWrites_38 rfl p_s_27 ?_
      exact rs_vreturn d_s_spendWrites_41 rfl ⟨rfl, rfl, rfl⟩
    · rw [if_neg h2] at h
      cases h
set_option maxRecDepth 100000 in
theorem k_spend_no {G : rsG} {n : Nat} {K V : Nat → Nat → Int32} {c P r : Nat → Nat} {md up wl cu : Int32} {hf : rsH} {x : Int32} (h : rp_sp wl x = none) : rsK G M_s_spendWrites (rmT 6 90) [.ref (rsB G), .int x] (rwd G K V c P r md up wl cu hf) n (rsTh 1 (rwd G (va_up K 13 (fun _ => 0)) V (va_up c 13 0) P r md 0 (-1) (-1) hf) (n + 1)) := by
  refine rsK_of pf_s_spendWrites rfl (Nat.le_of_ble_eq_true rfl) rfl ?_
  unfold rp_sp at h
  refine rs_aload_n d_s_spendWrites_0 rfl rfl ?_
  refine rx_get_wl d_s_spendWrites_1 rfl f_s_27 ?_
  refine rs_iconst (v := (-1)) d_s_spendWrites_4 rfl (by decide) ?_
  by_cases h1 : wl = -1
  · rw [if_pos h1] at h
    cases h
  · rw [if_neg h1] at h
    by_cases h2 : x ≤ wl
    · rw [if_pos h2] at h
      cases h
    · refine rs_icmp_ne (tgt := 9) d_s_spendWrites_5 rfl (by decide) (fun _ => ?_) (fun hc => absurd hc (h1))
      refine rs_aload_n d_s_spendWrites_9 rfl rfl ?_
      refine rx_get_wl d_s_spendWrites_10 rfl f_s_27 ?_
      refine rs_iload_n d_s_spendWrites_13 rfl rfl ?_
      refine rs_icmp_ge (tgt := 31) d_s_spendWrites_14 rfl (by decide) (fun hc => absurd hc (h2)) (fun _ => ?_)
      refine rs_aload_n d_s_spendWrites_17 rfl rfl ?_
      refine rx_cV d_s_spendWrites_18 rfl c_s_142 (by exact np_s_goDown) rw_x (k_goDown) (by decide) ⟨rfl, rfl⟩ (Nat.le_of_ble_eq_true rfl) rfl ?_
      exact rs_throw (k := 1) (tx := "the store went down") d_s_spendWrites_21 d_s_spendWrites_24 d_s_spendWrites_25 d_s_spendWrites_27 d_s_spendWrites_30 (by decide) n_s_44 t_ins1 t_ini1 x_s_48 (by decide) rfl (Nat.le_of_ble_eq_true rfl) (by decide) (by decide) (by decide) (by decide) ⟨rfl, rfl, rfl⟩
set_option maxRecDepth 100000 in
theorem k_reqDisk_ok {G : rsG} {n : Nat} {K V : Nat → Nat → Int32} {c P r : Nat → Nat} {md up wl cu : Int32} {hf : rsH} (hb : narrow .boolean (.int md) = .int md) (h : ¬ md = 0) : rsK G M_s_requireDisk (rmO 6 90) [.ref (rsB G)] (rwd G K V c P r md up wl cu hf) n (rsOk (none) (rwd G K V c P r md up wl cu hf) n) := by
  refine rsK_of pf_s_requireDisk rfl (Nat.le_of_ble_eq_true rfl) rfl ?_
  refine rs_aload_n d_s_requireDisk_0 rfl rfl ?_
  refine rx_get_di d_s_requireDisk_1 rfl f_s_19 ?_
  refine rx_cV d_s_requireDisk_4 rfl c_s_133 (by exact np_d_isMade) rw_d (k_isMade hb) (by decide) ⟨rfl, rfl⟩ (Nat.le_of_ble_eq_true rfl) rfl ?_
  refine rs_if_ne (tgt := 20) d_s_requireDisk_7 rfl (by decide) (fun _ => ?_) (fun hc => absurd hc (h))
  exact rs_vreturn d_s_requireDisk_20 rfl ⟨rfl, rfl, rfl⟩
set_option maxRecDepth 100000 in
theorem k_reqDisk_no {G : rsG} {n : Nat} {K V : Nat → Nat → Int32} {c P r : Nat → Nat} {md up wl cu : Int32} {hf : rsH} (hb : narrow .boolean (.int md) = .int md) (h : md = 0) : rsK G M_s_requireDisk (rmT 6 90) [.ref (rsB G)] (rwd G K V c P r md up wl cu hf) n (rsTh 1 (rwd G K V c P r md up wl cu hf) (n + 1)) := by
  refine rsK_of pf_s_requireDisk rfl (Nat.le_of_ble_eq_true rfl) rfl ?_
  refine rs_aload_n d_s_requireDisk_0 rfl rfl ?_
  refine rx_get_di d_s_requireDisk_1 rfl f_s_19 ?_
  refine rx_cV d_s_requireDisk_4 rfl c_s_133 (by exact np_d_isMade) rw_d (k_isMade hb) (by decide) ⟨rfl, rfl⟩ (Nat.le_of_ble_eq_true rfl) rfl ?_
  refine rs_if_ne (tgt := 20) d_s_requireDisk_7 rfl (by decide) (fun hc => absurd (h) hc) (fun _ => ?_)
  exact rs_throw (k := 1) (tx := "the disk was never made") d_s_requireDisk_10 d_s_requireDisk_13 d_s_requireDisk_14 d_s_requireDisk_16 d_s_requireDisk_19 (by decide) n_s_44 t_ins1 t_ini1 x_s_48 (by decide) rfl (Nat.le_of_ble_eq_true rfl) (by decide) (by decide) (by decide) (by decide) ⟨rfl, rfl, rfl⟩
set_option maxRecDepth 100000 in
theorem k_reqUp_ok {G : rsG} {n : Nat} {K V : Nat → Nat → Int32} {c P r : Nat → Nat} {md up wl cu : Int32} {hf : rsH} (h : ¬ up = 0) : rsK G M_s_requireUp (rmO 6 90) [.ref (rsB G)] (rwd G K V c P r md up wl cu hf) n (rsOk (none) (rwd G K V c P r md up wl cu hf) n) := by
  refine rsK_of pf_s_requireUp rfl (Nat.le_of_ble_eq_true rfl) rfl ?_
  refine rs_aload_n d_s_requireUp_0 rfl rfl ?_
  refine rx_get_up d_s_requireUp_1 rfl f_s_23 ?_
  refine rs_if_ne (tgt := 17) d_s_requireUp_4 rfl (by decide) (fun _ => ?_) (fun hc => absurd hc (h))
  exact rs_vreturn d_s_requireUp_17 rfl ⟨rfl, rfl, rfl⟩
set_option maxRecDepth 100000 in
theorem k_reqUp_no {G : rsG} {n : Nat} {K V : Nat → Nat → Int32} {c P r : Nat → Nat} {md up wl cu : Int32} {hf : rsH} (h : up = 0) : rsK G M_s_requireUp (rmT 6 90) [.ref (rsB G)] (rwd G K V c P r md up wl cu hf) n (rsTh 1 (rwd G K V c P r md up wl cu hf) (n + 1)) := by
  refine rsK_of pf_s_requireUp rfl (Nat.le_of_ble_eq_true rfl) rfl ?_
  refine rs_aload_n d_s_requireUp_0 rfl rfl ?_
  refine rx_get_up d_s_requireUp_1 rfl f_s_23 ?_
  refine rs_if_ne (tgt := 17) d_s_requireUp_4 rfl (by decide) (fun hc => absurd (h) hc) (fun _ => ?_)
  exact rs_throw (k := 1) (tx := "the store is down") d_s_requireUp_7 d_s_requireUp_10 d_s_requireUp_11 d_s_requireUp_13 d_s_requireUp_16 (by decide) n_s_44 t_ins1 t_ini1 x_s_48 (by decide) rfl (Nat.le_of_ble_eq_true rfl) (by decide) (by decide) (by decide) (by decide) ⟨rfl, rfl, rfl⟩
set_option maxRecDepth 100000 in
theorem k_reqKey_ok {G : rsG} {n : Nat} {h : rsH} {key : Nat} (hk : key < 100) : rsK G M_s_requireKey (rmO 6 90) [.int (nI key)] h n (rsOk (none) h n) := by
  refine rsK_of pf_s_requireKey rfl (Nat.le_of_ble_eq_true rfl) rfl ?_
  refine rs_iload_n d_s_requireKey_0 rfl rfl ?_
  refine rs_if_lt (tgt := 10) d_s_requireKey_1 rfl (by decide) (fun hc => absurd hc (nI_pos (by omega))) (fun _ => ?_)
  refine rs_iload_n d_s_requireKey_4 rfl rfl ?_
  refine rs_bipush (v := (nI 100)) d_s_requireKey_5 rfl (by decide) ?_
  refine rs_icmp_lt (tgt := 20) d_s_requireKey_7 rfl (by decide) (fun _ => ?_) (fun hc => absurd (nI_lt hk (by omega)) hc)
  exact rs_vreturn d_s_requireKey_20 rfl ⟨rfl, rfl, rfl⟩
set_option maxRecDepth 100000 in
theorem k_reqKey_no {G : rsG} {n : Nat} {h : rsH} {x : Int32} (hx : x < 0 ∨ ¬ x < 100) : rsK G M_s_requireKey (rmT 6 90) [.int x] h n (rsTh 0 h (n + 1)) := by
  refine rsK_of pf_s_requireKey rfl (Nat.le_of_ble_eq_true rfl) rfl ?_
  refine rs_iload_n d_s_requireKey_0 rfl rfl ?_
  by_cases h0 : x < 0
  · refine rs_if_lt (tgt := 10) d_s_requireKey_1 rfl (by decide) (fun _ => ?_) (fun hc => absurd (h0) hc)
    exact rs_throw (k := 0) (tx := "a key is 0 .. 99") d_s_requireKey_10 d_s_requireKey_13 d_s_requireKey_14 d_s_requireKey_16 d_s_requireKey_19 (by decide) n_s_102 t_ins0 t_ini0 x_s_106 (by decide) rfl (Nat.le_of_ble_eq_true rfl) (by decide) (by decide) (by decide) (by decide) ⟨rfl, rfl, rfl⟩
  · refine rs_if_lt (tgt := 10) d_s_requireKey_1 rfl (by decide) (fun hc => absurd hc (h0)) (fun _ => ?_)
    refine rs_iload_n d_s_requireKey_4 rfl rfl ?_
    refine rs_bipush (v := 100) d_s_requireKey_5 rfl (by decide) ?_
    refine rs_icmp_lt (tgt := 20) d_s_requireKey_7 rfl (by decide) (fun hc => absurd hc (hx.resolve_left h0)) (fun _ => ?_)
    exact rs_throw (k := 0) (tx := "a key is 0 .. 99") d_s_requireKey_10 d_s_requireKey_13 d_s_requireKey_14 d_s_requireKey_16 d_s_requireKey_19 (by decide) n_s_102 t_ins0 t_ini0 x_s_106 (by decide) rfl (Nat.le_of_ble_eq_true rfl) (by decide) (by decide) (by decide) (by decide) ⟨rfl, rfl, rfl⟩
set_option maxRecDepth 100000 in
theorem k_isLevel_yes {G : rsG} {n : Nat} {h : rsH} {lv : Nat} (hl : lv < 3) : rsK G M_s_isLevel (rmO 0 0) [.int (nI lv)] h n (rsOk (some (.int 1)) h n) := by
  refine rsK_of pf_s_isLevel rfl (Nat.le_of_ble_eq_true rfl) rfl ?_
  refine rs_iload_n d_s_isLevel_0 rfl rfl ?_
  refine rs_if_lt (tgt := 13) d_s_isLevel_1 rfl (by decide) (fun hc => absurd hc (nI_pos (by omega))) (fun _ => ?_)
  refine rs_iload_n d_s_isLevel_4 rfl rfl ?_
  refine rs_iconst (v := (nI 3)) d_s_isLevel_5 rfl (by decide) ?_
  refine rs_icmp_ge (tgt := 13) d_s_isLevel_6 rfl (by decide) (fun hc => absurd hc (nI_ge hl (by omega))) (fun _ => ?_)
  refine rs_iconst (v := 1) d_s_isLevel_9 rfl (by decide) ?_
  refine rs_goto (tgt := 14) d_s_isLevel_10 (by decide) ?_
  exact rs_zreturn d_s_isLevel_14 rfl rfl ⟨rfl, rfl, rfl⟩
set_option maxRecDepth 100000 in
theorem k_isLevel_no {G : rsG} {n : Nat} {h : rsH} {x : Int32} (hx : x < 0 ∨ 3 ≤ x) : rsK G M_s_isLevel (rmO 0 0) [.int x] h n (rsOk (some (.int 0)) h n) := by
  refine rsK_of pf_s_isLevel rfl (Nat.le_of_ble_eq_true rfl) rfl ?_
  refine rs_iload_n d_s_isLevel_0 rfl rfl ?_
  by_cases h0 : x < 0
  · refine rs_if_lt (tgt := 13) d_s_isLevel_1 rfl (by decide) (fun _ => ?_) (fun hc => absurd (h0) hc)
    refine rs_iconst (v := 0) d_s_isLevel_13 rfl (by decide) ?_
    exact rs_zreturn d_s_isLevel_14 rfl rfl ⟨rfl, rfl, rfl⟩
  · refine rs_if_lt (tgt := 13) d_s_isLevel_1 rfl (by decide) (fun hc => absurd hc (h0)) (fun _ => ?_)
    refine rs_iload_n d_s_isLevel_4 rfl rfl ?_
    refine rs_iconst (v := 3) d_s_isLevel_5 rfl (by decide) ?_
    refine rs_icmp_ge (tgt := 13) d_s_isLevel_6 rfl (by decide) (fun _ => ?_) (fun hc => absurd (hx.resolve_left h0) hc)
    refine rs_iconst (v := 0) d_s_isLevel_13 rfl (by decide) ?_
    exact rs_zreturn d_s_isLevel_14 rfl rfl ⟨rfl, rfl, rfl⟩
set_option maxRecDepth 100000 in
theorem k_reqLevel_ok {G : rsG} {n : Nat} {h : rsH} {lv : Nat} (hl : lv < 3) : rsK G M_s_requireLevel (rmO 6 90) [.int (nI lv)] h n (rsOk (none) h n) := by
  refine rsK_of pf_s_requireLevel rfl (Nat.le_of_ble_eq_true rfl) rfl ?_
  refine rs_iload_n d_s_requireLevel_0 rfl rfl ?_
  refine rx_cS d_s_requireLevel_1 rfl c_s_115 (by exact np_s_isLevel) (k_isLevel_yes hl) (by decide) ⟨rfl, rfl⟩ (Nat.le_of_ble_eq_true rfl) rfl ?_
  refine rs_if_ne (tgt := 17) d_s_requireLevel_4 rfl (by decide) (fun _ => ?_) (fun hc => absurd hc (by decide))
  exact rs_vreturn d_s_requireLevel_17 rfl ⟨rfl, rfl, rfl⟩
set_option maxRecDepth 100000 in
theorem k_reqLevel_no {G : rsG} {n : Nat} {h : rsH} {x : Int32} (hx : x < 0 ∨ 3 ≤ x) : rsK G M_s_requireLevel (rmT 6 90) [.int x] h n (rsTh 0 h (n + 1)) := by
  refine rsK_of pf_s_requireLevel rfl (Nat.le_of_ble_eq_true rfl) rfl ?_
  refine rs_iload_n d_s_requireLevel_0 rfl rfl ?_
  refine rx_cS d_s_requireLevel_1 rfl c_s_115 (by exact np_s_isLevel) (k_isLevel_no hx) (by decide) ⟨rfl, rfl⟩ (Nat.le_of_ble_eq_true rfl) rfl ?_
  refine rs_if_ne (tgt := 17) d_s_requireLevel_4 rfl (by decide) (fun hc => absurd (rfl) hc) (fun _ => ?_)
  exact rs_throw (k := 0) (tx := "a level is 0 .. 2") d_s_requireLevel_7 d_s_requireLevel_10 d_s_requireLevel_11 d_s_requireLevel_13 d_s_requireLevel_16 (by decide) n_s_102 t_ins0 t_ini0 x_s_106 (by decide) rfl (Nat.le_of_ble_eq_true rfl) (by decide) (by decide) (by decide) (by decide) ⟨rfl, rfl, rfl⟩
set_option maxRecDepth 100000 in
theorem k_least_none {G : rsG} {n : Nat} {K V : Nat → Nat → Int32} {c P r : Nat → Nat} {md up wl cu : Int32} {hf : rsH} (h0 : ∀ i, i < 3 → r i ≤ 3) : rsK G M_s_leastLevelToCompact (rmO 1 21) [.ref (rsB G)] (rwd G K V c P r md up wl cu hf) n (rsOk (some (.int (-1))) (rwd G K V c P r md up wl cu hf) n) := by
  have loop : ∀ (d i : Nat), i + d = 3 → rsV G M_s_leastLevelToCompact (rmO 1 21) (rsOk (some (.int (-1))) (rwd G K V c P r md up wl cu hf) n) 0 0 2 [some (.ref (rsB G)), some (.int (nI i))] [] (rwd G K V c P r md up wl cu hf) n := by
    intro d
    induction d with
    | zero =>
      intro i hi
      obtain rfl : i = 3 := by omega
      refine rs_iload_n d_s_leastLevelToCompact_2 rfl rfl ?_
      refine rs_iconst (v := (nI 3)) d_s_leastLevelToCompact_3 rfl (by decide) ?_
      refine rs_icmp_ge (tgt := 27) d_s_leastLevelToCompact_4 rfl (by decide) (fun _ => ?_) (fun hc => absurd (nI_le (by omega) (by omega)) hc)
      refine rs_iconst (v := (-1)) d_s_leastLevelToCompact_27 rfl (by decide) ?_
      exact rs_ireturn d_s_leastLevelToCompact_28 rfl ⟨rfl, rfl, rfl⟩
    | succ d ih =>
      intro i hi
      have hi3 : i < 3 := by omega
      refine rs_iload_n d_s_leastLevelToCompact_2 rfl rfl ?_
      refine rs_iconst (v := (nI 3)) d_s_leastLevelToCompact_3 rfl (by decide) ?_
      refine rs_icmp_ge (tgt := 27) d_s_leastLevelToCompact_4 rfl (by decide) (fun hc => absurd hc (nI_ge (by omega) (by omega))) (fun _ => ?_)
      refine rs_aload_n d_s_leastLevelToCompact_7 rfl rfl ?_
      refine rx_get_di d_s_leastLevelToCompact_8 rfl f_s_19 ?_
      refine rs_iload_n d_s_leastLevelToCompact_11 rfl rfl ?_
      refine rx_cV d_s_leastLevelToCompact_12 rfl c_s_112 (by exact np_d_countRunsOf) rw_d (k_countRunsOf hi3) (by decide) ⟨rfl, rfl⟩ (Nat.le_of_ble_eq_true rfl) rfl ?_
      refine rs_iconst (v := (nI 3)) d_s_leastLevelToCompact_15 rfl (by decide) ?_
      refine rs_icmp_le (tgt := 21) d_s_leastLevelToCompact_16 rfl (by decide) (fun _ => ?_) (fun hc => absurd (nI_le (by have := h0 i (by omega); omega) (by omega)) hc)
      refine rs_iinc d_s_leastLevelToCompact_21 rfl (by decide) rfl (rs_inc1 i) rfl ?_
      refine rs_goto (tgt := 2) d_s_leastLevelToCompact_24 (by decide) ?_
      exact ih (i + 1) (by omega)
  refine rsK_of pf_s_leastLevelToCompact rfl (Nat.le_of_ble_eq_true rfl) rfl ?_
  refine rs_iconst (v := (nI 0)) d_s_leastLevelToCompact_0 rfl (by decide) ?_
  refine rs_istore_n d_s_leastLevelToCompact_1 rfl (by decide) rfl ?_
  exact loop 3 0 (by omega)
set_option maxRecDepth 100000 in
theorem k_least_some {G : rsG} {n : Nat} {K V : Nat → Nat → Int32} {c P r : Nat → Nat} {md up wl cu : Int32} {hf : rsH} {x : Nat} (hx : x < 3) (h0 : ∀ i, i < x → r i ≤ 3) (h1 : 3 < r x) (h2 : r x ≤ 12) : rsK G M_s_leastLevelToCompact (rmO 1 21) [.ref (rsB G)] (rwd G K V c P r md up wl cu hf) n (rsOk (some (.int (nI x))) (rwd G K V c P r md up wl cu hf) n) := by
  have loop : ∀ (d i : Nat), i + d = x → rsV G M_s_leastLevelToCompact (rmO 1 21) (rsOk (some (.int (nI x))) (rwd G K V c P r md up wl cu hf) n) 0 0 2 [some (.ref (rsB G)), some (.int (nI i))] [] (rwd G K V c P r md up wl cu hf) n := by
    intro d
    induction d with
    | zero =>
      intro i hi
      obtain rfl : i = x := by omega
      have hi3 : i < 3 := by omega
      refine rs_iload_n d_s_leastLevelToCompact_2 rfl rfl ?_
      refine rs_iconst (v := (nI 3)) d_s_leastLevelToCompact_3 rfl (by decide) ?_
      refine rs_icmp_ge (tgt := 27) d_s_leastLevelToCompact_4 rfl (by decide) (fun hc => absurd hc (nI_ge (by omega) (by omega))) (fun _ => ?_)
      refine rs_aload_n d_s_leastLevelToCompact_7 rfl rfl ?_
      refine rx_get_di d_s_leastLevelToCompact_8 rfl f_s_19 ?_
      refine rs_iload_n d_s_leastLevelToCompact_11 rfl rfl ?_
      refine rx_cV d_s_leastLevelToCompact_12 rfl c_s_112 (by exact np_d_countRunsOf) rw_d (k_countRunsOf hi3) (by decide) ⟨rfl, rfl⟩ (Nat.le_of_ble_eq_true rfl) rfl ?_
      refine rs_iconst (v := (nI 3)) d_s_leastLevelToCompact_15 rfl (by decide) ?_
      refine rs_icmp_le (tgt := 21) d_s_leastLevelToCompact_16 rfl (by decide) (fun hc => absurd hc (nI_ge h1 (by omega))) (fun _ => ?_)
      refine rs_iload_n d_s_leastLevelToCompact_19 rfl rfl ?_
      exact rs_ireturn d_s_leastLevelToCompact_20 rfl ⟨rfl, rfl, rfl⟩
    | succ d ih =>
      intro i hi
      have hi3 : i < 3 := by omega
      refine rs_iload_n d_s_leastLevelToCompact_2 rfl rfl ?_
      refine rs_iconst (v := (nI 3)) d_s_leastLevelToCompact_3 rfl (by decide) ?_
      refine rs_icmp_ge (tgt := 27) d_s_leastLevelToCompact_4 rfl (by decide) (fun hc => absurd hc (nI_ge (by omega) (by omega))) (fun _ => ?_)
      refine rs_aload_n d_s_leastLevelToCompact_7 rfl rfl ?_
      refine rx_get_di d_s_leastLevelToCompact_8 rfl f_s_19 ?_
      refine rs_iload_n d_s_leastLevelToCompact_11 rfl rfl ?_
      refine rx_cV d_s_leastLevelToCompact_12 rfl c_s_112 (by exact np_d_countRunsOf) rw_d (k_countRunsOf hi3) (by decide) ⟨rfl, rfl⟩ (Nat.le_of_ble_eq_true rfl) rfl ?_
      refine rs_iconst (v := (nI 3)) d_s_leastLevelToCompact_15 rfl (by decide) ?_
      refine rs_icmp_le (tgt := 21) d_s_leastLevelToCompact_16 rfl (by decide) (fun _ => ?_) (fun hc => absurd (nI_le (by have := h0 i (by omega); omega) (by omega)) hc)
      refine rs_iinc d_s_leastLevelToCompact_21 rfl (by decide) rfl (rs_inc1 i) rfl ?_
      refine rs_goto (tgt := 2) d_s_leastLevelToCompact_24 (by decide) ?_
      exact ih (i + 1) (by omega)
  refine rsK_of pf_s_leastLevelToCompact rfl (Nat.le_of_ble_eq_true rfl) rfl ?_
  refine rs_iconst (v := (nI 0)) d_s_leastLevelToCompact_0 rfl (by decide) ?_
  refine rs_istore_n d_s_leastLevelToCompact_1 rfl (by decide) rfl ?_
  exact loop x 0 (by omega)
theorem rp_th01 (K : Nat → Nat → Int32) (P : Nat → Nat) (m key : Nat) : rp_th K P m key = 0 ∨ rp_th K P m key = 1 := by
  unfold rp_th
  split
  · split
    · exact Or.inr rfl
    · exact Or.inl rfl
  · exact Or.inl rfl
set_option maxRecDepth 100000 in
theorem k_leastKey_none {G : rsG} {n : Nat} {K V : Nat → Nat → Int32} {c P r : Nat → Nat} {md up wl cu : Int32} {hf : rsH} (hs : rp_sum r 3 ≤ 12) (hP : ∀ i, i < 13 → P i ≤ 12) {fr : Nat} (hfr : fr ≤ 100) (h0 : ∀ i, fr ≤ i → i < 100 → rp_th K P (rp_sum r 3) i = 0) : rsK G M_s_leastKeyThere (rmO 5 109) [.ref (rsB G), .int (nI fr)] (rwd G K V c P r md up wl cu hf) n (rsOk (some (.int (-1))) (rwd G K V c P r md up wl cu hf) n) := by
  have loop : ∀ (d i : Nat), i + d = 100 → fr ≤ i → rsV G M_s_leastKeyThere (rmO 5 109) (rsOk (some (.int (-1))) (rwd G K V c P r md up wl cu hf) n) 0 0 2 [some (.ref (rsB G)), some (.int (nI fr)), some (.int (nI i))] [] (rwd G K V c P r md up wl cu hf) n := by
    intro d
    induction d with
    | zero =>
      intro i hi hfi
      obtain rfl : i = 100 := by omega
      refine rs_iload_n d_s_leastKeyThere_2 rfl rfl ?_
      refine rs_bipush (v := (nI 100)) d_s_leastKeyThere_3 rfl (by decide) ?_
      refine rs_icmp_ge (tgt := 24) d_s_leastKeyThere_5 rfl (by decide) (fun _ => ?_) (fun hc => absurd (nI_le (by omega) (by omega)) hc)
      refine rs_iconst (v := (-1)) d_s_leastKeyThere_24 rfl (by decide) ?_
      exact rs_ireturn d_s_leastKeyThere_25 rfl ⟨rfl, rfl, rfl⟩
    | succ d ih =>
      intro i hi hfi
      have hi100 : i < 100 := by omega
      refine rs_iload_n d_s_leastKeyThere_2 rfl rfl ?_
      refine rs_bipush (v := (nI 100)) d_s_leastKeyThere_3 rfl (by decide) ?_
      refine rs_icmp_ge (tgt := 24) d_s_leastKeyThere_5 rfl (by decide) (fun hc => absurd hc (nI_ge (by omega) (by omega))) (fun _ => ?_)
      refine rs_aload_n d_s_leastKeyThere_8 rfl rfl ?_
      refine rs_iload_n d_s_leastKeyThere_9 rfl rfl ?_
      refine rx_cV d_s_leastKeyThere_10 rfl c_s_74 (by exact np_s_isThere) rw_x (k_isThere hs hP hi100) (by decide) ⟨rfl, rfl⟩ (Nat.le_of_ble_eq_true rfl) rfl ?_
      rw [h0 i (by omega) (by omega)]
      refine rs_if_eq (tgt := 18) d_s_leastKeyThere_13 rfl (by decide) (fun _ => ?_) (fun hc => absurd (rfl) hc)
      refine rs_iinc d_s_leastKeyThere_18 rfl (by decide) rfl (rs_inc1 i) rfl ?_
      refine rs_goto (tgt := 2) d_s_leastKeyThere_21 (by decide) ?_
      exact ih (i + 1) (by omega) (by omega)
  refine rsK_of pf_s_leastKeyThere rfl (Nat.le_of_ble_eq_true rfl) rfl ?_
  refine rs_iload_n d_s_leastKeyThere_0 rfl rfl ?_
  refine rs_istore_n d_s_leastKeyThere_1 rfl (by decide) rfl ?_
  exact loop (100 - fr) fr (by omega) (by omega)
set_option maxRecDepth 100000 in
theorem k_leastKey_some {G : rsG} {n : Nat} {K V : Nat → Nat → Int32} {c P r : Nat → Nat} {md up wl cu : Int32} {hf : rsH} (hs : rp_sum r 3 ≤ 12) (hP : ∀ i, i < 13 → P i ≤ 12) {fr x : Nat} (hfr : fr ≤ x) (hx : x < 100) (h0 : ∀ i, fr ≤ i → i < x → rp_th K P (rp_sum r 3) i = 0) (h1 : rp_th K P (rp_sum r 3) x = 1) : rsK G M_s_leastKeyThere (rmO 5 109) [.ref (rsB G), .int (nI fr)] (rwd G K V c P r md up wl cu hf) n (rsOk (some (.int (nI x))) (rwd G K V c P r md up wl cu hf) n) := by
  have loop : ∀ (d i : Nat), i + d = x → fr ≤ i → rsV G M_s_leastKeyThere (rmO 5 109) (rsOk (some (.int (nI x))) (rwd G K V c P r md up wl cu hf) n) 0 0 2 [some (.ref (rsB G)), some (.int (nI fr)), some (.int (nI i))] [] (rwd G K V c P r md up wl cu hf) n := by
    intro d
    induction d with
    | zero =>
      intro i hi hfi
      obtain rfl : i = x := by omega
      have hi100 : i < 100 := by omega
      refine rs_iload_n d_s_leastKeyThere_2 rfl rfl ?_
      refine rs_bipush (v := (nI 100)) d_s_leastKeyThere_3 rfl (by decide) ?_
      refine rs_icmp_ge (tgt := 24) d_s_leastKeyThere_5 rfl (by decide) (fun hc => absurd hc (nI_ge (by omega) (by omega))) (fun _ => ?_)
      refine rs_aload_n d_s_leastKeyThere_8 rfl rfl ?_
      refine rs_iload_n d_s_leastKeyThere_9 rfl rfl ?_
      refine rx_cV d_s_leastKeyThere_10 rfl c_s_74 (by exact np_s_isThere) rw_x (k_isThere hs hP hi100) (by decide) ⟨rfl, rfl⟩ (Nat.le_of_ble_eq_true rfl) rfl ?_
      rw [h1]
      refine rs_if_eq (tgt := 18) d_s_leastKeyThere_13 rfl (by decide) (fun hc => absurd hc (by decide)) (fun _ => ?_)
      refine rs_iload_n d_s_leastKeyThere_16 rfl rfl ?_
      exact rs_ireturn d_s_leastKeyThere_17 rfl ⟨rfl, rfl, rfl⟩
    | succ d ih =>
      intro i hi hfi
      have hi100 : i < 100 := by omega
      refine rs_iload_n d_s_leastKeyThere_2 rfl rfl ?_
      refine rs_bipush (v := (nI 100)) d_s_leastKeyThere_3 rfl (by decide) ?_
      refine rs_icmp_ge (tgt := 24) d_s_leastKeyThere_5 rfl (by decide) (fun hc => absurd hc (nI_ge (by omega) (by omega))) (fun _ => ?_)
      refine rs_aload_n d_s_leastKeyThere_8 rfl rfl ?_
      refine rs_iload_n d_s_leastKeyThere_9 rfl rfl ?_
      refine rx_cV d_s_leastKeyThere_10 rfl c_s_74 (by exact np_s_isThere) rw_x (k_isThere hs hP hi100) (by decide) ⟨rfl, rfl⟩ (Nat.le_of_ble_eq_true rfl) rfl ?_
      rw [h0 i (by omega) (by omega)]
      refine rs_if_eq (tgt := 18) d_s_leastKeyThere_13 rfl (by decide) (fun _ => ?_) (fun hc => absurd (rfl) hc)
      refine rs_iinc d_s_leastKeyThere_18 rfl (by decide) rfl (rs_inc1 i) rfl ?_
      refine rs_goto (tgt := 2) d_s_leastKeyThere_21 (by decide) ?_
      exact ih (i + 1) (by omega) (by omega)
  refine rsK_of pf_s_leastKeyThere rfl (Nat.le_of_ble_eq_true rfl) rfl ?_
  refine rs_iload_n d_s_leastKeyThere_0 rfl rfl ?_
  refine rs_istore_n d_s_leastKeyThere_1 rfl (by decide) rfl ?_
  exact loop (x - fr) fr (by omega) (by omega)
end
section
/-! 17: the store: writing a draft, flushing, merging, making place (written by gen_store2.py) -/
set_option maxRecDepth 100000 in
theorem k_wd_noplace {G : rsG} {n : Nat} {K V : Nat → Nat → Int32} {c P r : Nat → Nat} {md up wl cu : Int32} {hf : rsH} (hs : rp_sum r 3 ≤ 12) (hP : ∀ i, i < 13 → P i ≤ 12) (hc : ∀ i, i < 13 → c (P i) ≤ 100) : rsK G M_s_writeDraft (rmT 7 111) [.ref (rsB G), .int 0] (rwd G K V c P r md up wl cu hf) n (rsTh 2 (rwd G K V c P r md up wl cu hf) (n + 1)) := by
  refine rsK_of pf_s_writeDraft rfl (Nat.le_of_ble_eq_true rfl) rfl ?_
  have hd : P 12 ≤ 13 := by have := hP 12 (by decide); omega
  refine rs_aload_n d_s_writeDraft_0 rfl rfl ?_
  refine rx_get_di d_s_writeDraft_1 rfl f_s_19 ?_
  refine rx_cV d_s_writeDraft_4 rfl c_s_147 (by exact np_d_draft) rw_d (k_draft) (by decide) ⟨rfl, rfl⟩ (Nat.le_of_ble_eq_true rfl) rfl ?_
  refine rx_cV d_s_writeDraft_7 rfl c_s_151 (by exact np_e_blocks) (rw_e hd) (k_blocks hd (hc 12 (by decide))) (by decide) ⟨rfl, rfl⟩ (Nat.le_of_ble_eq_true rfl) rfl ?_
  refine rs_istore_n d_s_writeDraft_10 rfl (by decide) rfl ?_
  refine rs_iload_n d_s_writeDraft_11 rfl rfl ?_
  refine rs_if_eq (tgt := 26) d_s_writeDraft_12 rfl (by decide) (fun _ => ?_) (fun hc => absurd (rfl) hc)
  exact rs_throw (k := 2) (tx := "there is no room") d_s_writeDraft_26 d_s_writeDraft_29 d_s_writeDraft_30 d_s_writeDraft_32 d_s_writeDraft_35 (by decide) n_s_154 t_ins2 t_ini2 x_s_158 (by decide) rfl (Nat.le_of_ble_eq_true rfl) (by decide) (by decide) (by decide) (by decide) ⟨rfl, rfl, rfl⟩
set_option maxRecDepth 100000 in
theorem k_wd_noroom {G : rsG} {n : Nat} {K V : Nat → Nat → Int32} {c P r : Nat → Nat} {md up wl cu : Int32} {hf : rsH} (hs : rp_sum r 3 ≤ 12) (hP : ∀ i, i < 13 → P i ≤ 12) (hc : ∀ i, i < 13 → c (P i) ≤ 100) (hr : ¬ nI ((c (P 12) + 3) / 4) ≤ (nI 40 - nI (rp_blk c P (rp_sum r 3)))) : rsK G M_s_writeDraft (rmT 7 111) [.ref (rsB G), .int 1] (rwd G K V c P r md up wl cu hf) n (rsTh 2 (rwd G K V c P r md up wl cu hf) (n + 1)) := by
  refine rsK_of pf_s_writeDraft rfl (Nat.le_of_ble_eq_true rfl) rfl ?_
  have hd : P 12 ≤ 13 := by have := hP 12 (by decide); omega
  refine rs_aload_n d_s_writeDraft_0 rfl rfl ?_
  refine rx_get_di d_s_writeDraft_1 rfl f_s_19 ?_
  refine rx_cV d_s_writeDraft_4 rfl c_s_147 (by exact np_d_draft) rw_d (k_draft) (by decide) ⟨rfl, rfl⟩ (Nat.le_of_ble_eq_true rfl) rfl ?_
  refine rx_cV d_s_writeDraft_7 rfl c_s_151 (by exact np_e_blocks) (rw_e hd) (k_blocks hd (hc 12 (by decide))) (by decide) ⟨rfl, rfl⟩ (Nat.le_of_ble_eq_true rfl) rfl ?_
  refine rs_istore_n d_s_writeDraft_10 rfl (by decide) rfl ?_
  refine rs_iload_n d_s_writeDraft_11 rfl rfl ?_
  refine rs_if_eq (tgt := 26) d_s_writeDraft_12 rfl (by decide) (fun hc => absurd hc (by decide)) (fun _ => ?_)
  refine rs_iload_n d_s_writeDraft_15 rfl rfl ?_
  refine rs_aload_n d_s_writeDraft_16 rfl rfl ?_
  refine rx_get_di d_s_writeDraft_17 rfl f_s_19 ?_
  refine rx_cV d_s_writeDraft_20 rfl c_s_124 (by exact np_d_freeBlocks) rw_d (k_freeBlocks hs hP hc) (by decide) ⟨rfl, rfl⟩ (Nat.le_of_ble_eq_true rfl) rfl ?_
  refine rs_icmp_le (tgt := 36) d_s_writeDraft_23 rfl (by decide) (fun hc => absurd hc (hr)) (fun _ => ?_)
  exact rs_throw (k := 2) (tx := "there is no room") d_s_writeDraft_26 d_s_writeDraft_29 d_s_writeDraft_30 d_s_writeDraft_32 d_s_writeDraft_35 (by decide) n_s_154 t_ins2 t_ini2 x_s_158 (by decide) rfl (Nat.le_of_ble_eq_true rfl) (by decide) (by decide) (by decide) (by decide) ⟨rfl, rfl, rfl⟩
set_option maxRecDepth 100000 in
theorem k_wd_ok {G : rsG} {n : Nat} {K V : Nat → Nat → Int32} {c P r : Nat → Nat} {md up wl cu : Int32} {hf : rsH} (hs : rp_sum r 3 ≤ 12) (hP : ∀ i, i < 13 → P i ≤ 12) (hc : ∀ i, i < 13 → c (P i) ≤ 100) (hr : nI ((c (P 12) + 3) / 4) ≤ (nI 40 - nI (rp_blk c P (rp_sum r 3)))) {wl' : Int32} (hw : rp_sp wl (nI (((c (P 12) + 3) / 4) + 1)) = some wl') : rsK G M_s_writeDraft (rmO 7 111) [.ref (rsB G), .int 1] (rwd G K V c P r md up wl cu hf) n (rsOk (none) (rwd G K V c P r md up wl' cu hf) n) := by
  refine rsK_of pf_s_writeDraft rfl (Nat.le_of_ble_eq_true rfl) rfl ?_
  have hd : P 12 ≤ 13 := by have := hP 12 (by decide); omega
  refine rs_aload_n d_s_writeDraft_0 rfl rfl ?_
  refine rx_get_di d_s_writeDraft_1 rfl f_s_19 ?_
  refine rx_cV d_s_writeDraft_4 rfl c_s_147 (by exact np_d_draft) rw_d (k_draft) (by decide) ⟨rfl, rfl⟩ (Nat.le_of_ble_eq_true rfl) rfl ?_
  refine rx_cV d_s_writeDraft_7 rfl c_s_151 (by exact np_e_blocks) (rw_e hd) (k_blocks hd (hc 12 (by decide))) (by decide) ⟨rfl, rfl⟩ (Nat.le_of_ble_eq_true rfl) rfl ?_
  refine rs_istore_n d_s_writeDraft_10 rfl (by decide) rfl ?_
  refine rs_iload_n d_s_writeDraft_11 rfl rfl ?_
  refine rs_if_eq (tgt := 26) d_s_writeDraft_12 rfl (by decide) (fun hc => absurd hc (by decide)) (fun _ => ?_)
  refine rs_iload_n d_s_writeDraft_15 rfl rfl ?_
  refine rs_aload_n d_s_writeDraft_16 rfl rfl ?_
  refine rx_get_di d_s_writeDraft_17 rfl f_s_19 ?_
  refine rx_cV d_s_writeDraft_20 rfl c_s_124 (by exact np_d_freeBlocks) rw_d (k_freeBlocks hs hP hc) (by decide) ⟨rfl, rfl⟩ (Nat.le_of_ble_eq_true rfl) rfl ?_
  refine rs_icmp_le (tgt := 36) d_s_writeDraft_23 rfl (by decide) (fun _ => ?_) (fun hc => absurd (hr) hc)
  refine rs_aload_n d_s_writeDraft_36 rfl rfl ?_
  refine rs_iload_n d_s_writeDraft_37 rfl rfl ?_
  refine rs_iconst (v := (nI 1)) d_s_writeDraft_38 rfl (by decide) ?_
  refine rs_iadd d_s_writeDraft_39 rfl ?_
  refine rs_tope (nI_add _ _) ?_
  refine rx_cV d_s_writeDraft_40 rfl c_s_34 (by exact np_s_spendWrites) rw_x (k_spend_ok hw) (by decide) ⟨rfl, rfl⟩ (Nat.le_of_ble_eq_true rfl) rfl ?_
  exact rs_vreturn d_s_writeDraft_43 rfl ⟨rfl, rfl, rfl⟩
set_option maxRecDepth 100000 in
theorem k_wd_down {G : rsG} {n : Nat} {K V : Nat → Nat → Int32} {c P r : Nat → Nat} {md up wl cu : Int32} {hf : rsH} (hs : rp_sum r 3 ≤ 12) (hP : ∀ i, i < 13 → P i ≤ 12) (hc : ∀ i, i < 13 → c (P i) ≤ 100) (hr : nI ((c (P 12) + 3) / 4) ≤ (nI 40 - nI (rp_blk c P (rp_sum r 3)))) (hw : rp_sp wl (nI (((c (P 12) + 3) / 4) + 1)) = none) : rsK G M_s_writeDraft (rmT 7 111) [.ref (rsB G), .int 1] (rwd G K V c P r md up wl cu hf) n (rsTh 1 (rwd G (va_up K 13 (fun _ => 0)) V (va_up c 13 0) P r md 0 (-1) (-1) hf) (n + 1)) := by
  refine rsK_of pf_s_writeDraft rfl (Nat.le_of_ble_eq_true rfl) rfl ?_
  have hd : P 12 ≤ 13 := by have := hP 12 (by decide); omega
  refine rs_aload_n d_s_writeDraft_0 rfl rfl ?_
  refine rx_get_di d_s_writeDraft_1 rfl f_s_19 ?_
  refine rx_cV d_s_writeDraft_4 rfl c_s_147 (by exact np_d_draft) rw_d (k_draft) (by decide) ⟨rfl, rfl⟩ (Nat.le_of_ble_eq_true rfl) rfl ?_
  refine rx_cV d_s_writeDraft_7 rfl c_s_151 (by exact np_e_blocks) (rw_e hd) (k_blocks hd (hc 12 (by decide))) (by decide) ⟨rfl, rfl⟩ (Nat.le_of_ble_eq_true rfl) rfl ?_
  refine rs_istore_n d_s_writeDraft_10 rfl (by decide) rfl ?_
  refine rs_iload_n d_s_writeDraft_11 rfl rfl ?_
  refine rs_if_eq (tgt := 26) d_s_writeDraft_12 rfl (by decide) (fun hc => absurd hc (by decide)) (fun _ => ?_)
  refine rs_iload_n d_s_writeDraft_15 rfl rfl ?_
  refine rs_aload_n d_s_writeDraft_16 rfl rfl ?_
  refine rx_get_di d_s_writeDraft_17 rfl f_s_19 ?_
  refine rx_cV d_s_writeDraft_20 rfl c_s_124 (by exact np_d_freeBlocks) rw_d (k_freeBlocks hs hP hc) (by decide) ⟨rfl, rfl⟩ (Nat.le_of_ble_eq_true rfl) rfl ?_
  refine rs_icmp_le (tgt := 36) d_s_writeDraft_23 rfl (by decide) (fun _ => ?_) (fun hc => absurd (hr) hc)
  refine rs_aload_n d_s_writeDraft_36 rfl rfl ?_
  refine rs_iload_n d_s_writeDraft_37 rfl rfl ?_
  refine rs_iconst (v := (nI 1)) d_s_writeDraft_38 rfl (by decide) ?_
  refine rs_iadd d_s_writeDraft_39 rfl ?_
  refine rs_tope (nI_add _ _) ?_
  exact rx_tV d_s_writeDraft_40 c_s_34 (by exact np_s_spendWrites) rw_x (k_spend_no hw) (by decide) (by decide) (Nat.le_of_ble_eq_true rfl) rfl rfl ⟨rfl, rfl, rfl⟩
theorem rp_cnt_n (p : Nat → Bool) : ∀ n, rp_cnt p n ≤ n
  | 0 => Nat.le_refl _
  | n + 1 => by
    have := rp_cnt_n p n
    unfold rp_cnt
    split <;> omega
def rp_fK (K : Nat → Nat → Int32) (P : Nat → Nat) : Nat → Nat → Int32 := rp_aK (va_up K (P 12) (fun _ => 0)) (P 12) 13 100
def rp_fV (K V : Nat → Nat → Int32) (P : Nat → Nat) : Nat → Nat → Int32 := rp_aV (va_up K (P 12) (fun _ => 0)) V (P 12) 13 100
def rp_fc (K : Nat → Nat → Int32) (c P : Nat → Nat) : Nat → Nat := rp_ac (va_up K (P 12) (fun _ => 0)) (va_up c (P 12) 0) (P 12) 13 100
theorem rp_fc_d (K : Nat → Nat → Int32) (c P : Nat → Nat) : rp_fc K c P (P 12) ≤ 100 := by
  unfold rp_fc rp_ac
  rw [rp_up_j, rp_up_j, Nat.zero_add]
  exact rp_cnt_n _ _
theorem rp_fc_ne (K : Nat → Nat → Int32) (c P : Nat → Nat) {j : Nat} (h : j ≠ P 12) : rp_fc K c P j = c j := by
  unfold rp_fc rp_ac
  rw [rp_up_ne _ _ h, rp_up_ne _ _ h]
theorem rp_fc_le {K : Nat → Nat → Int32} {c P : Nat → Nat} (hc : ∀ i, i < 13 → c (P i) ≤ 100) : ∀ i, i < 13 → rp_fc K c P (P i) ≤ 100 := by
  intro i hi
  by_cases h : P i = P 12
  · rw [h]; exact rp_fc_d K c P
  · rw [rp_fc_ne K c P h]; exact hc i hi
set_option maxRecDepth 100000 in
theorem k_fl_zero {G : rsG} {n : Nat} {K V : Nat → Nat → Int32} {c P r : Nat → Nat} {md up wl cu : Int32} {hf : rsH} (h0 : c 13 = 0) : rsK G M_s_flushMemory (rmO 8 133) [.ref (rsB G)] (rwd G K V c P r md up wl cu hf) n (rsOk (some (.int 0)) (rwd G K V c P r md up wl cu hf) n) := by
  refine rsK_of pf_s_flushMemory rfl (Nat.le_of_ble_eq_true rfl) rfl ?_
  refine rs_aload_n d_s_flushMemory_0 rfl rfl ?_
  refine rx_get_ga d_s_flushMemory_1 rfl f_s_10 ?_
  refine rx_cV d_s_flushMemory_4 rfl c_s_71 (by exact np_e_count) (rw_e (by decide)) (k_count (by decide)) (by decide) ⟨rfl, rfl⟩ (Nat.le_of_ble_eq_true rfl) rfl ?_
  refine rs_istore_n d_s_flushMemory_7 rfl (by decide) rfl ?_
  refine rs_iload_n d_s_flushMemory_8 rfl rfl ?_
  refine rs_if_ne (tgt := 14) d_s_flushMemory_9 rfl (by decide) (fun hc => absurd (by rw [h0]; exact nI_0) hc) (fun _ => ?_)
  refine rs_iconst (v := 0) d_s_flushMemory_12 rfl (by decide) ?_
  exact rs_ireturn d_s_flushMemory_13 rfl ⟨rfl, rfl, rfl⟩
set_option maxRecDepth 100000 in
theorem k_fl_full {G : rsG} {n : Nat} {K V : Nat → Nat → Int32} {c P r : Nat → Nat} {md up wl cu : Int32} {hf : rsH} (hs : rp_sum r 3 ≤ 12) (hP : ∀ i, i < 13 → P i ≤ 12) (hc : ∀ i, i < 13 → c (P i) ≤ 100) (h13 : c 13 ≤ 100) (h0 : 0 < c 13) (hf12 : rp_sum r 3 = 12) : rsK G M_s_flushMemory (rmT 8 133) [.ref (rsB G)] (rwd G K V c P r md up wl cu hf) n (rsTh 2 (rwd G (rp_fK K P) (rp_fV K V P) (rp_fc K c P) P r md up wl cu hf) (n + 1)) := by
  refine rsK_of pf_s_flushMemory rfl (Nat.le_of_ble_eq_true rfl) rfl ?_
  have hP12 := hP 12 (by decide)
  refine rs_aload_n d_s_flushMemory_0 rfl rfl ?_
  refine rx_get_ga d_s_flushMemory_1 rfl f_s_10 ?_
  refine rx_cV d_s_flushMemory_4 rfl c_s_71 (by exact np_e_count) (rw_e (by decide)) (k_count (by decide)) (by decide) ⟨rfl, rfl⟩ (Nat.le_of_ble_eq_true rfl) rfl ?_
  refine rs_istore_n d_s_flushMemory_7 rfl (by decide) rfl ?_
  refine rs_iload_n d_s_flushMemory_8 rfl rfl ?_
  refine rs_if_ne (tgt := 14) d_s_flushMemory_9 rfl (by decide) (fun _ => ?_) (fun hc => absurd hc (nI_ne0 (by omega) (by omega)))
  refine rs_aload_n d_s_flushMemory_14 rfl rfl ?_
  refine rx_get_di d_s_flushMemory_15 rfl f_s_19 ?_
  refine rs_aload_n d_s_flushMemory_18 rfl rfl ?_
  refine rx_get_ga d_s_flushMemory_19 rfl f_s_10 ?_
  refine rx_cV d_s_flushMemory_22 rfl c_s_162 (by exact np_d_draftFrom) rw_d (k_draftFrom hP12 (by decide) (by omega)) (by decide) ⟨rfl, rfl⟩ (Nat.le_of_ble_eq_true rfl) rfl ?_
  refine rsV_eq (h' := (rwd G (rp_fK K P) (rp_fV K V P) (rp_fc K c P) P r md up wl cu hf)) rfl ?_
  refine rs_aload_n d_s_flushMemory_25 rfl rfl ?_
  refine rs_aload_n d_s_flushMemory_26 rfl rfl ?_
  refine rx_get_di d_s_flushMemory_27 rfl f_s_19 ?_
  refine rx_cV d_s_flushMemory_30 rfl c_s_54 (by exact np_d_countRuns) rw_d (k_countRuns) (by decide) ⟨rfl, rfl⟩ (Nat.le_of_ble_eq_true rfl) rfl ?_
  refine rs_bipush (v := (nI 12)) d_s_flushMemory_33 rfl (by decide) ?_
  refine rs_icmp_ge (tgt := 42) d_s_flushMemory_35 rfl (by decide) (fun _ => ?_) (fun hc => absurd (nI_le (by omega) (by omega)) hc)
  refine rs_iconst (v := 0) d_s_flushMemory_42 rfl (by decide) ?_
  exact rx_tV d_s_flushMemory_43 c_s_166 (by exact np_s_writeDraft) rw_x (k_wd_noplace hs hP (rp_fc_le hc)) (by decide) (by decide) (Nat.le_of_ble_eq_true rfl) rfl rfl ⟨rfl, rfl, rfl⟩
set_option maxRecDepth 100000 in
theorem k_fl_noroom {G : rsG} {n : Nat} {K V : Nat → Nat → Int32} {c P r : Nat → Nat} {md up wl cu : Int32} {hf : rsH} (hs : rp_sum r 3 ≤ 12) (hP : ∀ i, i < 13 → P i ≤ 12) (hc : ∀ i, i < 13 → c (P i) ≤ 100) (h13 : c 13 ≤ 100) (h0 : 0 < c 13) (hlt : rp_sum r 3 < 12) (hr : ¬ nI ((rp_fc K c P (P 12) + 3) / 4) ≤ (nI 40 - nI (rp_blk (rp_fc K c P) P (rp_sum r 3)))) : rsK G M_s_flushMemory (rmT 8 133) [.ref (rsB G)] (rwd G K V c P r md up wl cu hf) n (rsTh 2 (rwd G (rp_fK K P) (rp_fV K V P) (rp_fc K c P) P r md up wl cu hf) (n + 1)) := by
  refine rsK_of pf_s_flushMemory rfl (Nat.le_of_ble_eq_true rfl) rfl ?_
  have hP12 := hP 12 (by decide)
  refine rs_aload_n d_s_flushMemory_0 rfl rfl ?_
  refine rx_get_ga d_s_flushMemory_1 rfl f_s_10 ?_
  refine rx_cV d_s_flushMemory_4 rfl c_s_71 (by exact np_e_count) (rw_e (by decide)) (k_count (by decide)) (by decide) ⟨rfl, rfl⟩ (Nat.le_of_ble_eq_true rfl) rfl ?_
  refine rs_istore_n d_s_flushMemory_7 rfl (by decide) rfl ?_
  refine rs_iload_n d_s_flushMemory_8 rfl rfl ?_
  refine rs_if_ne (tgt := 14) d_s_flushMemory_9 rfl (by decide) (fun _ => ?_) (fun hc => absurd hc (nI_ne0 (by omega) (by omega)))
  refine rs_aload_n d_s_flushMemory_14 rfl rfl ?_
  refine rx_get_di d_s_flushMemory_15 rfl f_s_19 ?_
  refine rs_aload_n d_s_flushMemory_18 rfl rfl ?_
  refine rx_get_ga d_s_flushMemory_19 rfl f_s_10 ?_
  refine rx_cV d_s_flushMemory_22 rfl c_s_162 (by exact np_d_draftFrom) rw_d (k_draftFrom hP12 (by decide) (by omega)) (by decide) ⟨rfl, rfl⟩ (Nat.le_of_ble_eq_true rfl) rfl ?_
  refine rsV_eq (h' := (rwd G (rp_fK K P) (rp_fV K V P) (rp_fc K c P) P r md up wl cu hf)) rfl ?_
  refine rs_aload_n d_s_flushMemory_25 rfl rfl ?_
  refine rs_aload_n d_s_flushMemory_26 rfl rfl ?_
  refine rx_get_di d_s_flushMemory_27 rfl f_s_19 ?_
  refine rx_cV d_s_flushMemory_30 rfl c_s_54 (by exact np_d_countRuns) rw_d (k_countRuns) (by decide) ⟨rfl, rfl⟩ (Nat.le_of_ble_eq_true rfl) rfl ?_
  refine rs_bipush (v := (nI 12)) d_s_flushMemory_33 rfl (by decide) ?_
  refine rs_icmp_ge (tgt := 42) d_s_flushMemory_35 rfl (by decide) (fun hc => absurd hc (nI_ge (by omega) (by omega))) (fun _ => ?_)
  refine rs_iconst (v := 1) d_s_flushMemory_38 rfl (by decide) ?_
  refine rs_goto (tgt := 43) d_s_flushMemory_39 (by decide) ?_
  exact rx_tV d_s_flushMemory_43 c_s_166 (by exact np_s_writeDraft) rw_x (k_wd_noroom hs hP (rp_fc_le hc) hr) (by decide) (by decide) (Nat.le_of_ble_eq_true rfl) rfl rfl ⟨rfl, rfl, rfl⟩
set_option maxRecDepth 100000 in
theorem k_fl_down {G : rsG} {n : Nat} {K V : Nat → Nat → Int32} {c P r : Nat → Nat} {md up wl cu : Int32} {hf : rsH} (hs : rp_sum r 3 ≤ 12) (hP : ∀ i, i < 13 → P i ≤ 12) (hc : ∀ i, i < 13 → c (P i) ≤ 100) (h13 : c 13 ≤ 100) (h0 : 0 < c 13) (hlt : rp_sum r 3 < 12) (hr : nI ((rp_fc K c P (P 12) + 3) / 4) ≤ (nI 40 - nI (rp_blk (rp_fc K c P) P (rp_sum r 3)))) (hw : rp_sp wl (nI (((rp_fc K c P (P 12) + 3) / 4) + 1)) = none) : rsK G M_s_flushMemory (rmT 8 133) [.ref (rsB G)] (rwd G K V c P r md up wl cu hf) n (rsTh 1 (rwd G (va_up (rp_fK K P) 13 (fun _ => 0)) (rp_fV K V P) (va_up (rp_fc K c P) 13 0) P r md 0 (-1) (-1) hf) (n + 1)) := by
  refine rsK_of pf_s_flushMemory rfl (Nat.le_of_ble_eq_true rfl) rfl ?_
  have hP12 := hP 12 (by decide)
  refine rs_aload_n d_s_flushMemory_0 rfl rfl ?_
  refine rx_get_ga d_s_flushMemory_1 rfl f_s_10 ?_
  refine rx_cV d_s_flushMemory_4 rfl c_s_71 (by exact np_e_count) (rw_e (by decide)) (k_count (by decide)) (by decide) ⟨rfl, rfl⟩ (Nat.le_of_ble_eq_true rfl) rfl ?_
  refine rs_istore_n d_s_flushMemory_7 rfl (by decide) rfl ?_
  refine rs_iload_n d_s_flushMemory_8 rfl rfl ?_
  refine rs_if_ne (tgt := 14) d_s_flushMemory_9 rfl (by decide) (fun _ => ?_) (fun hc => absurd hc (nI_ne0 (by omega) (by omega)))
  refine rs_aload_n d_s_flushMemory_14 rfl rfl ?_
  refine rx_get_di d_s_flushMemory_15 rfl f_s_19 ?_
  refine rs_aload_n d_s_flushMemory_18 rfl rfl ?_
  refine rx_get_ga d_s_flushMemory_19 rfl f_s_10 ?_
  refine rx_cV d_s_flushMemory_22 rfl c_s_162 (by exact np_d_draftFrom) rw_d (k_draftFrom hP12 (by decide) (by omega)) (by decide) ⟨rfl, rfl⟩ (Nat.le_of_ble_eq_true rfl) rfl ?_
  refine rsV_eq (h' := (rwd G (rp_fK K P) (rp_fV K V P) (rp_fc K c P) P r md up wl cu hf)) rfl ?_
  refine rs_aload_n d_s_flushMemory_25 rfl rfl ?_
  refine rs_aload_n d_s_flushMemory_26 rfl rfl ?_
  refine rx_get_di d_s_flushMemory_27 rfl f_s_19 ?_
  refine rx_cV d_s_flushMemory_30 rfl c_s_54 (by exact np_d_countRuns) rw_d (k_countRuns) (by decide) ⟨rfl, rfl⟩ (Nat.le_of_ble_eq_true rfl) rfl ?_
  refine rs_bipush (v := (nI 12)) d_s_flushMemory_33 rfl (by decide) ?_
  refine rs_icmp_ge (tgt := 42) d_s_flushMemory_35 rfl (by decide) (fun hc => absurd hc (nI_ge (by omega) (by omega))) (fun _ => ?_)
  refine rs_iconst (v := 1) d_s_flushMemory_38 rfl (by decide) ?_
  refine rs_goto (tgt := 43) d_s_flushMemory_39 (by decide) ?_
  exact rx_tV d_s_flushMemory_43 c_s_166 (by exact np_s_writeDraft) rw_x (k_wd_down hs hP (rp_fc_le hc) hr hw) (by decide) (by decide) (Nat.le_of_ble_eq_true rfl) rfl rfl ⟨rfl, rfl, rfl⟩
set_option maxRecDepth 100000 in
theorem k_fl_ok {G : rsG} {n : Nat} {K V : Nat → Nat → Int32} {c P r : Nat → Nat} {md up wl cu : Int32} {hf : rsH} (hs : rp_sum r 3 ≤ 12) (hP : ∀ i, i < 13 → P i ≤ 12) (hc : ∀ i, i < 13 → c (P i) ≤ 100) (h13 : c 13 ≤ 100) (h0 : 0 < c 13) (hlt : rp_sum r 3 < 12) (hr : nI ((rp_fc K c P (P 12) + 3) / 4) ≤ (nI 40 - nI (rp_blk (rp_fc K c P) P (rp_sum r 3)))) {wl' : Int32} (hw : rp_sp wl (nI (((rp_fc K c P (P 12) + 3) / 4) + 1)) = some wl') : rsK G M_s_flushMemory (rmO 8 133) [.ref (rsB G)] (rwd G K V c P r md up wl cu hf) n (rsOk (some (.int (nI (c 13)))) (rwd G (va_up (rp_fK K P) 13 (fun _ => 0)) (rp_fV K V P) (va_up (rp_fc K c P) 13 0) (rp_mvd P 0) (va_up r 0 (r 0 + 1)) md up wl' cu hf) n) := by
  refine rsK_of pf_s_flushMemory rfl (Nat.le_of_ble_eq_true rfl) rfl ?_
  have hP12 := hP 12 (by decide)
  refine rs_aload_n d_s_flushMemory_0 rfl rfl ?_
  refine rx_get_ga d_s_flushMemory_1 rfl f_s_10 ?_
  refine rx_cV d_s_flushMemory_4 rfl c_s_71 (by exact np_e_count) (rw_e (by decide)) (k_count (by decide)) (by decide) ⟨rfl, rfl⟩ (Nat.le_of_ble_eq_true rfl) rfl ?_
  refine rs_istore_n d_s_flushMemory_7 rfl (by decide) rfl ?_
  refine rs_iload_n d_s_flushMemory_8 rfl rfl ?_
  refine rs_if_ne (tgt := 14) d_s_flushMemory_9 rfl (by decide) (fun _ => ?_) (fun hc => absurd hc (nI_ne0 (by omega) (by omega)))
  refine rs_aload_n d_s_flushMemory_14 rfl rfl ?_
  refine rx_get_di d_s_flushMemory_15 rfl f_s_19 ?_
  refine rs_aload_n d_s_flushMemory_18 rfl rfl ?_
  refine rx_get_ga d_s_flushMemory_19 rfl f_s_10 ?_
  refine rx_cV d_s_flushMemory_22 rfl c_s_162 (by exact np_d_draftFrom) rw_d (k_draftFrom hP12 (by decide) (by omega)) (by decide) ⟨rfl, rfl⟩ (Nat.le_of_ble_eq_true rfl) rfl ?_
  refine rsV_eq (h' := (rwd G (rp_fK K P) (rp_fV K V P) (rp_fc K c P) P r md up wl cu hf)) rfl ?_
  refine rs_aload_n d_s_flushMemory_25 rfl rfl ?_
  refine rs_aload_n d_s_flushMemory_26 rfl rfl ?_
  refine rx_get_di d_s_flushMemory_27 rfl f_s_19 ?_
  refine rx_cV d_s_flushMemory_30 rfl c_s_54 (by exact np_d_countRuns) rw_d (k_countRuns) (by decide) ⟨rfl, rfl⟩ (Nat.le_of_ble_eq_true rfl) rfl ?_
  refine rs_bipush (v := (nI 12)) d_s_flushMemory_33 rfl (by decide) ?_
  refine rs_icmp_ge (tgt := 42) d_s_flushMemory_35 rfl (by decide) (fun hc => absurd hc (nI_ge (by omega) (by omega))) (fun _ => ?_)
  refine rs_iconst (v := 1) d_s_flushMemory_38 rfl (by decide) ?_
  refine rs_goto (tgt := 43) d_s_flushMemory_39 (by decide) ?_
  refine rx_cV d_s_flushMemory_43 rfl c_s_166 (by exact np_s_writeDraft) rw_x (k_wd_ok hs hP (rp_fc_le hc) hr hw) (by decide) ⟨rfl, rfl⟩ (Nat.le_of_ble_eq_true rfl) rfl ?_
  refine rs_aload_n d_s_flushMemory_46 rfl rfl ?_
  refine rx_get_di d_s_flushMemory_47 rfl f_s_19 ?_
  refine rx_cV d_s_flushMemory_50 rfl c_s_170 (by exact np_d_listDraftAsFlushed) rw_d (k_listFlushed hP) (by decide) ⟨rfl, rfl⟩ (Nat.le_of_ble_eq_true rfl) rfl ?_
  refine rs_aload_n d_s_flushMemory_53 rfl rfl ?_
  refine rx_get_ga d_s_flushMemory_54 rfl f_s_10 ?_
  refine rx_cV d_s_flushMemory_57 rfl c_s_139 (by exact np_e_clear) (rw_e (by decide)) (k_clear (by decide)) (by decide) ⟨rfl, rfl⟩ (Nat.le_of_ble_eq_true rfl) rfl ?_
  refine rs_iload_n d_s_flushMemory_60 rfl rfl ?_
  exact rs_ireturn d_s_flushMemory_61 rfl ⟨rfl, rfl, rfl⟩
set_option maxRecDepth 100000 in
theorem k_ml_zero {G : rsG} {n : Nat} {K V : Nat → Nat → Int32} {c P r : Nat → Nat} {md up wl cu : Int32} {hf : rsH} {lv : Nat} (hl : lv < 3) (h0 : r lv = 0) : rsK G M_s_mergeLevel (rmO 8 133) [.ref (rsB G), .int (nI lv)] (rwd G K V c P r md up wl cu hf) n (rsOk (some (.int 0)) (rwd G K V c P r md up wl cu hf) n) := by
  refine rsK_of pf_s_mergeLevel rfl (Nat.le_of_ble_eq_true rfl) rfl ?_
  refine rs_aload_n d_s_mergeLevel_0 rfl rfl ?_
  refine rx_get_di d_s_mergeLevel_1 rfl f_s_19 ?_
  refine rs_iload_n d_s_mergeLevel_4 rfl rfl ?_
  refine rx_cV d_s_mergeLevel_5 rfl c_s_112 (by exact np_d_countRunsOf) rw_d (k_countRunsOf hl) (by decide) ⟨rfl, rfl⟩ (Nat.le_of_ble_eq_true rfl) rfl ?_
  refine rs_if_ne (tgt := 13) d_s_mergeLevel_8 rfl (by decide) (fun hc => absurd (by rw [h0]; exact nI_0) hc) (fun _ => ?_)
  refine rs_iconst (v := 0) d_s_mergeLevel_11 rfl (by decide) ?_
  exact rs_ireturn d_s_mergeLevel_12 rfl ⟨rfl, rfl, rfl⟩
set_option maxRecDepth 100000 in
theorem k_ml_noroom {G : rsG} {n : Nat} {K V K1 V1 : Nat → Nat → Int32} {c P r c1 : Nat → Nat} {md up wl cu : Int32} {hf : rsH} {lv : Nat} (hl : lv < 3) (h0 : 0 < r lv) (hs : rp_sum r 3 ≤ 12) (hP : ∀ i, i < 13 → P i ≤ 12) (hr12 : r lv ≤ 12) (hc1 : ∀ i, i < 13 → c1 (P i) ≤ 100) (hD : rsK G M_d_draftFromLevel (rmO 3 66) [.ref (rsB G + 4), .int (nI lv)] (rwd G K V c P r md up wl cu hf) n (rsOk none (rwd G K1 V1 c1 P r md up wl cu hf) n)) (hr : ¬ nI ((c1 (P 12) + 3) / 4) ≤ (nI 40 - nI (rp_blk c1 P (rp_sum r 3)))) : rsK G M_s_mergeLevel (rmT 8 133) [.ref (rsB G), .int (nI lv)] (rwd G K V c P r md up wl cu hf) n (rsTh 2 (rwd G K1 V1 c1 P r md up wl cu hf) (n + 1)) := by
  refine rsK_of pf_s_mergeLevel rfl (Nat.le_of_ble_eq_true rfl) rfl ?_
  have hd : P 12 ≤ 13 := by have := hP 12 (by decide); omega
  refine rs_aload_n d_s_mergeLevel_0 rfl rfl ?_
  refine rx_get_di d_s_mergeLevel_1 rfl f_s_19 ?_
  refine rs_iload_n d_s_mergeLevel_4 rfl rfl ?_
  refine rx_cV d_s_mergeLevel_5 rfl c_s_112 (by exact np_d_countRunsOf) rw_d (k_countRunsOf hl) (by decide) ⟨rfl, rfl⟩ (Nat.le_of_ble_eq_true rfl) rfl ?_
  refine rs_if_ne (tgt := 13) d_s_mergeLevel_8 rfl (by decide) (fun _ => ?_) (fun hc => absurd hc (nI_ne0 h0 (by omega)))
  refine rs_aload_n d_s_mergeLevel_13 rfl rfl ?_
  refine rx_get_di d_s_mergeLevel_14 rfl f_s_19 ?_
  refine rs_iload_n d_s_mergeLevel_17 rfl rfl ?_
  refine rx_cV d_s_mergeLevel_18 rfl c_s_173 (by exact np_d_draftFromLevel) rw_d (hD) (by decide) ⟨rfl, rfl⟩ (Nat.le_of_ble_eq_true rfl) rfl ?_
  refine rs_aload_n d_s_mergeLevel_21 rfl rfl ?_
  refine rx_get_di d_s_mergeLevel_22 rfl f_s_19 ?_
  refine rx_cV d_s_mergeLevel_25 rfl c_s_147 (by exact np_d_draft) rw_d (k_draft) (by decide) ⟨rfl, rfl⟩ (Nat.le_of_ble_eq_true rfl) rfl ?_
  refine rx_cV d_s_mergeLevel_28 rfl c_s_71 (by exact np_e_count) (rw_e hd) (k_count hd) (by decide) ⟨rfl, rfl⟩ (Nat.le_of_ble_eq_true rfl) rfl ?_
  refine rs_istore_n d_s_mergeLevel_31 rfl (by decide) rfl ?_
  refine rs_aload_n d_s_mergeLevel_32 rfl rfl ?_
  refine rs_iconst (v := 1) d_s_mergeLevel_33 rfl (by decide) ?_
  exact rx_tV d_s_mergeLevel_34 c_s_166 (by exact np_s_writeDraft) rw_x (k_wd_noroom hs hP hc1 hr) (by decide) (by decide) (Nat.le_of_ble_eq_true rfl) rfl rfl ⟨rfl, rfl, rfl⟩
set_option maxRecDepth 100000 in
theorem k_ml_down {G : rsG} {n : Nat} {K V K1 V1 : Nat → Nat → Int32} {c P r c1 : Nat → Nat} {md up wl cu : Int32} {hf : rsH} {lv : Nat} (hl : lv < 3) (h0 : 0 < r lv) (hs : rp_sum r 3 ≤ 12) (hP : ∀ i, i < 13 → P i ≤ 12) (hr12 : r lv ≤ 12) (hc1 : ∀ i, i < 13 → c1 (P i) ≤ 100) (hD : rsK G M_d_draftFromLevel (rmO 3 66) [.ref (rsB G + 4), .int (nI lv)] (rwd G K V c P r md up wl cu hf) n (rsOk none (rwd G K1 V1 c1 P r md up wl cu hf) n)) (hr : nI ((c1 (P 12) + 3) / 4) ≤ (nI 40 - nI (rp_blk c1 P (rp_sum r 3)))) (hw : rp_sp wl (nI (((c1 (P 12) + 3) / 4) + 1)) = none) : rsK G M_s_mergeLevel (rmT 8 133) [.ref (rsB G), .int (nI lv)] (rwd G K V c P r md up wl cu hf) n (rsTh 1 (rwd G (va_up K1 13 (fun _ => 0)) V1 (va_up c1 13 0) P r md 0 (-1) (-1) hf) (n + 1)) := by
  refine rsK_of pf_s_mergeLevel rfl (Nat.le_of_ble_eq_true rfl) rfl ?_
  have hd : P 12 ≤ 13 := by have := hP 12 (by decide); omega
  refine rs_aload_n d_s_mergeLevel_0 rfl rfl ?_
  refine rx_get_di d_s_mergeLevel_1 rfl f_s_19 ?_
  refine rs_iload_n d_s_mergeLevel_4 rfl rfl ?_
  refine rx_cV d_s_mergeLevel_5 rfl c_s_112 (by exact np_d_countRunsOf) rw_d (k_countRunsOf hl) (by decide) ⟨rfl, rfl⟩ (Nat.le_of_ble_eq_true rfl) rfl ?_
  refine rs_if_ne (tgt := 13) d_s_mergeLevel_8 rfl (by decide) (fun _ => ?_) (fun hc => absurd hc (nI_ne0 h0 (by omega)))
  refine rs_aload_n d_s_mergeLevel_13 rfl rfl ?_
  refine rx_get_di d_s_mergeLevel_14 rfl f_s_19 ?_
  refine rs_iload_n d_s_mergeLevel_17 rfl rfl ?_
  refine rx_cV d_s_mergeLevel_18 rfl c_s_173 (by exact np_d_draftFromLevel) rw_d (hD) (by decide) ⟨rfl, rfl⟩ (Nat.le_of_ble_eq_true rfl) rfl ?_
  refine rs_aload_n d_s_mergeLevel_21 rfl rfl ?_
  refine rx_get_di d_s_mergeLevel_22 rfl f_s_19 ?_
  refine rx_cV d_s_mergeLevel_25 rfl c_s_147 (by exact np_d_draft) rw_d (k_draft) (by decide) ⟨rfl, rfl⟩ (Nat.le_of_ble_eq_true rfl) rfl ?_
  refine rx_cV d_s_mergeLevel_28 rfl c_s_71 (by exact np_e_count) (rw_e hd) (k_count hd) (by decide) ⟨rfl, rfl⟩ (Nat.le_of_ble_eq_true rfl) rfl ?_
  refine rs_istore_n d_s_mergeLevel_31 rfl (by decide) rfl ?_
  refine rs_aload_n d_s_mergeLevel_32 rfl rfl ?_
  refine rs_iconst (v := 1) d_s_mergeLevel_33 rfl (by decide) ?_
  exact rx_tV d_s_mergeLevel_34 c_s_166 (by exact np_s_writeDraft) rw_x (k_wd_down hs hP hc1 hr hw) (by decide) (by decide) (Nat.le_of_ble_eq_true rfl) rfl rfl ⟨rfl, rfl, rfl⟩
set_option maxRecDepth 100000 in
theorem k_ml_ok_none {G : rsG} {n : Nat} {K V K1 V1 : Nat → Nat → Int32} {c P r c1 : Nat → Nat} {md up wl cu : Int32} {hf : rsH} {lv : Nat} (hl : lv < 3) (h0 : 0 < r lv) (hs : rp_sum r 3 ≤ 12) (hP : ∀ i, i < 13 → P i ≤ 12) (hr12 : r lv ≤ 12) (hc1 : ∀ i, i < 13 → c1 (P i) ≤ 100) (hD : rsK G M_d_draftFromLevel (rmO 3 66) [.ref (rsB G + 4), .int (nI lv)] (rwd G K V c P r md up wl cu hf) n (rsOk none (rwd G K1 V1 c1 P r md up wl cu hf) n)) (hr : nI ((c1 (P 12) + 3) / 4) ≤ (nI 40 - nI (rp_blk c1 P (rp_sum r 3)))) {wl' : Int32} (hw : rp_sp wl (nI (((c1 (P 12) + 3) / 4) + 1)) = some wl') (hpl : rp_sum r lv ≤ 12) (hz : c1 (P 12) = 0) : rsK G M_s_mergeLevel (rmO 8 133) [.ref (rsB G), .int (nI lv)] (rwd G K V c P r md up wl cu hf) n (rsOk (some (.int (nI (c1 (P 12))))) (rwd G K1 V1 c1 (rp_mvs P (rp_sum r lv) (r lv)) (va_up r lv 0) md up wl' cu hf) n) := by
  refine rsK_of pf_s_mergeLevel rfl (Nat.le_of_ble_eq_true rfl) rfl ?_
  have hd : P 12 ≤ 13 := by have := hP 12 (by decide); omega
  refine rs_aload_n d_s_mergeLevel_0 rfl rfl ?_
  refine rx_get_di d_s_mergeLevel_1 rfl f_s_19 ?_
  refine rs_iload_n d_s_mergeLevel_4 rfl rfl ?_
  refine rx_cV d_s_mergeLevel_5 rfl c_s_112 (by exact np_d_countRunsOf) rw_d (k_countRunsOf hl) (by decide) ⟨rfl, rfl⟩ (Nat.le_of_ble_eq_true rfl) rfl ?_
  refine rs_if_ne (tgt := 13) d_s_mergeLevel_8 rfl (by decide) (fun _ => ?_) (fun hc => absurd hc (nI_ne0 h0 (by omega)))
  refine rs_aload_n d_s_mergeLevel_13 rfl rfl ?_
  refine rx_get_di d_s_mergeLevel_14 rfl f_s_19 ?_
  refine rs_iload_n d_s_mergeLevel_17 rfl rfl ?_
  refine rx_cV d_s_mergeLevel_18 rfl c_s_173 (by exact np_d_draftFromLevel) rw_d (hD) (by decide) ⟨rfl, rfl⟩ (Nat.le_of_ble_eq_true rfl) rfl ?_
  refine rs_aload_n d_s_mergeLevel_21 rfl rfl ?_
  refine rx_get_di d_s_mergeLevel_22 rfl f_s_19 ?_
  refine rx_cV d_s_mergeLevel_25 rfl c_s_147 (by exact np_d_draft) rw_d (k_draft) (by decide) ⟨rfl, rfl⟩ (Nat.le_of_ble_eq_true rfl) rfl ?_
  refine rx_cV d_s_mergeLevel_28 rfl c_s_71 (by exact np_e_count) (rw_e hd) (k_count hd) (by decide) ⟨rfl, rfl⟩ (Nat.le_of_ble_eq_true rfl) rfl ?_
  refine rs_istore_n d_s_mergeLevel_31 rfl (by decide) rfl ?_
  refine rs_aload_n d_s_mergeLevel_32 rfl rfl ?_
  refine rs_iconst (v := 1) d_s_mergeLevel_33 rfl (by decide) ?_
  refine rx_cV d_s_mergeLevel_34 rfl c_s_166 (by exact np_s_writeDraft) rw_x (k_wd_ok hs hP hc1 hr hw) (by decide) ⟨rfl, rfl⟩ (Nat.le_of_ble_eq_true rfl) rfl ?_
  refine rs_aload_n d_s_mergeLevel_37 rfl rfl ?_
  refine rx_get_di d_s_mergeLevel_38 rfl f_s_19 ?_
  refine rs_iload_n d_s_mergeLevel_41 rfl rfl ?_
  refine rx_cV d_s_mergeLevel_42 rfl c_s_176 (by exact np_d_listDraftAsMerged) rw_d (k_listMerged_none hl hP hr12 hpl hz) (by decide) ⟨rfl, rfl⟩ (Nat.le_of_ble_eq_true rfl) rfl ?_
  refine rs_iload_n d_s_mergeLevel_45 rfl rfl ?_
  exact rs_ireturn d_s_mergeLevel_46 rfl ⟨rfl, rfl, rfl⟩
set_option maxRecDepth 100000 in
theorem k_ml_ok_some {G : rsG} {n : Nat} {K V K1 V1 : Nat → Nat → Int32} {c P r c1 : Nat → Nat} {md up wl cu : Int32} {hf : rsH} {lv : Nat} (hl : lv < 3) (h0 : 0 < r lv) (hs : rp_sum r 3 ≤ 12) (hP : ∀ i, i < 13 → P i ≤ 12) (hr12 : r lv ≤ 12) (hc1 : ∀ i, i < 13 → c1 (P i) ≤ 100) (hD : rsK G M_d_draftFromLevel (rmO 3 66) [.ref (rsB G + 4), .int (nI lv)] (rwd G K V c P r md up wl cu hf) n (rsOk none (rwd G K1 V1 c1 P r md up wl cu hf) n)) (hr : nI ((c1 (P 12) + 3) / 4) ≤ (nI 40 - nI (rp_blk c1 P (rp_sum r 3)))) {wl' : Int32} (hw : rp_sp wl (nI (((c1 (P 12) + 3) / 4) + 1)) = some wl') (hpl : rp_sum r lv + 1 ≤ 12) (hz : 0 < c1 (P 12)) : rsK G M_s_mergeLevel (rmO 8 133) [.ref (rsB G), .int (nI lv)] (rwd G K V c P r md up wl cu hf) n (rsOk (some (.int (nI (c1 (P 12))))) (rwd G K1 V1 c1 (rp_mvs (rp_mvd P (rp_sum r lv)) (rp_sum r lv + 1) (r lv)) (va_up (va_up r lv 0) (min (lv + 1) 2) (va_up r lv 0 (min (lv + 1) 2) + 1)) md up wl' cu hf) n) := by
  refine rsK_of pf_s_mergeLevel rfl (Nat.le_of_ble_eq_true rfl) rfl ?_
  have hd : P 12 ≤ 13 := by have := hP 12 (by decide); omega
  refine rs_aload_n d_s_mergeLevel_0 rfl rfl ?_
  refine rx_get_di d_s_mergeLevel_1 rfl f_s_19 ?_
  refine rs_iload_n d_s_mergeLevel_4 rfl rfl ?_
  refine rx_cV d_s_mergeLevel_5 rfl c_s_112 (by exact np_d_countRunsOf) rw_d (k_countRunsOf hl) (by decide) ⟨rfl, rfl⟩ (Nat.le_of_ble_eq_true rfl) rfl ?_
  refine rs_if_ne (tgt := 13) d_s_mergeLevel_8 rfl (by decide) (fun _ => ?_) (fun hc => absurd hc (nI_ne0 h0 (by omega)))
  refine rs_aload_n d_s_mergeLevel_13 rfl rfl ?_
  refine rx_get_di d_s_mergeLevel_14 rfl f_s_19 ?_
  refine rs_iload_n d_s_mergeLevel_17 rfl rfl ?_
  refine rx_cV d_s_mergeLevel_18 rfl c_s_173 (by exact np_d_draftFromLevel) rw_d (hD) (by decide) ⟨rfl, rfl⟩ (Nat.le_of_ble_eq_true rfl) rfl ?_
  refine rs_aload_n d_s_mergeLevel_21 rfl rfl ?_
  refine rx_get_di d_s_mergeLevel_22 rfl f_s_19 ?_
  refine rx_cV d_s_mergeLevel_25 rfl c_s_147 (by exact np_d_draft) rw_d (k_draft) (by decide) ⟨rfl, rfl⟩ (Nat.le_of_ble_eq_true rfl) rfl ?_
  refine rx_cV d_s_mergeLevel_28 rfl c_s_71 (by exact np_e_count) (rw_e hd) (k_count hd) (by decide) ⟨rfl, rfl⟩ (Nat.le_of_ble_eq_true rfl) rfl ?_
  refine rs_istore_n d_s_mergeLevel_31 rfl (by decide) rfl ?_
  refine rs_aload_n d_s_mergeLevel_32 rfl rfl ?_
  refine rs_iconst (v := 1) d_s_mergeLevel_33 rfl (by decide) ?_
  refine rx_cV d_s_mergeLevel_34 rfl c_s_166 (by exact np_s_writeDraft) rw_x (k_wd_ok hs hP hc1 hr hw) (by decide) ⟨rfl, rfl⟩ (Nat.le_of_ble_eq_true rfl) rfl ?_
  refine rs_aload_n d_s_mergeLevel_37 rfl rfl ?_
  refine rx_get_di d_s_mergeLevel_38 rfl f_s_19 ?_
  refine rs_iload_n d_s_mergeLevel_41 rfl rfl ?_
  refine rx_cV d_s_mergeLevel_42 rfl c_s_176 (by exact np_d_listDraftAsMerged) rw_d (k_listMerged_some hl hP hr12 hpl hz (hc1 12 (by decide))) (by decide) ⟨rfl, rfl⟩ (Nat.le_of_ble_eq_true rfl) rfl ?_
  refine rs_iload_n d_s_mergeLevel_45 rfl rfl ?_
  exact rs_ireturn d_s_mergeLevel_46 rfl ⟨rfl, rfl, rfl⟩
set_option maxRecDepth 100000 in
theorem k_mp_few {G : rsG} {n : Nat} {K V : Nat → Nat → Int32} {c P r : Nat → Nat} {md up wl cu : Int32} {hf : rsH} {key : Nat} (h8 : c 13 < 8) : rsK G M_s_makePlaceInMemory (rmO 9 154) [.ref (rsB G), .int (nI key)] (rwd G K V c P r md up wl cu hf) n (rsOk (none) (rwd G K V c P r md up wl cu hf) n) := by
  refine rsK_of pf_s_makePlaceInMemory rfl (Nat.le_of_ble_eq_true rfl) rfl ?_
  refine rs_aload_n d_s_makePlaceInMemory_0 rfl rfl ?_
  refine rx_get_ga d_s_makePlaceInMemory_1 rfl f_s_10 ?_
  refine rx_cV d_s_makePlaceInMemory_4 rfl c_s_71 (by exact np_e_count) (rw_e (by decide)) (k_count (by decide)) (by decide) ⟨rfl, rfl⟩ (Nat.le_of_ble_eq_true rfl) rfl ?_
  refine rs_bipush (v := (nI 8)) d_s_makePlaceInMemory_7 rfl (by decide) ?_
  refine rs_icmp_lt (tgt := 28) d_s_makePlaceInMemory_9 rfl (by decide) (fun _ => ?_) (fun hc => absurd (nI_lt h8 (by omega)) hc)
  exact rs_vreturn d_s_makePlaceInMemory_28 rfl ⟨rfl, rfl, rfl⟩
set_option maxRecDepth 100000 in
theorem k_mp_has {G : rsG} {n : Nat} {K V : Nat → Nat → Int32} {c P r : Nat → Nat} {md up wl cu : Int32} {hf : rsH} {key : Nat} (hk : key < 100) (h13 : c 13 ≤ 100) (h8 : 8 ≤ c 13) (h0 : ¬ K 13 key = 0) : rsK G M_s_makePlaceInMemory (rmO 9 154) [.ref (rsB G), .int (nI key)] (rwd G K V c P r md up wl cu hf) n (rsOk (none) (rwd G K V c P r md up wl cu hf) n) := by
  refine rsK_of pf_s_makePlaceInMemory rfl (Nat.le_of_ble_eq_true rfl) rfl ?_
  refine rs_aload_n d_s_makePlaceInMemory_0 rfl rfl ?_
  refine rx_get_ga d_s_makePlaceInMemory_1 rfl f_s_10 ?_
  refine rx_cV d_s_makePlaceInMemory_4 rfl c_s_71 (by exact np_e_count) (rw_e (by decide)) (k_count (by decide)) (by decide) ⟨rfl, rfl⟩ (Nat.le_of_ble_eq_true rfl) rfl ?_
  refine rs_bipush (v := (nI 8)) d_s_makePlaceInMemory_7 rfl (by decide) ?_
  refine rs_icmp_lt (tgt := 28) d_s_makePlaceInMemory_9 rfl (by decide) (fun hc => absurd hc (nI_nlt h8 (by omega))) (fun _ => ?_)
  refine rs_aload_n d_s_makePlaceInMemory_12 rfl rfl ?_
  refine rx_get_ga d_s_makePlaceInMemory_13 rfl f_s_10 ?_
  refine rs_iload_n d_s_makePlaceInMemory_16 rfl rfl ?_
  refine rx_cV d_s_makePlaceInMemory_17 rfl c_s_159 (by exact np_e_holds) (rw_e (by decide)) (k_holds (by decide) hk) (by decide) ⟨rfl, rfl⟩ (Nat.le_of_ble_eq_true rfl) rfl ?_
  rw [if_neg h0]
  refine rs_if_ne (tgt := 28) d_s_makePlaceInMemory_20 rfl (by decide) (fun _ => ?_) (fun hc => absurd hc (by decide))
  exact rs_vreturn d_s_makePlaceInMemory_28 rfl ⟨rfl, rfl, rfl⟩
set_option maxRecDepth 100000 in
theorem k_mp_ok {G : rsG} {n : Nat} {K V : Nat → Nat → Int32} {c P r : Nat → Nat} {md up wl cu : Int32} {hf : rsH} {key : Nat} (hk : key < 100) (h13 : c 13 ≤ 100) (h8 : 8 ≤ c 13) (h0 : K 13 key = 0) {h' : rsH} {n' : Nat} {v : Int32} (hF : rsK G M_s_flushMemory (rmO 8 133) [.ref (rsB G)] (rwd G K V c P r md up wl cu hf) n (rsOk (some (.int v)) h' n')) : rsK G M_s_makePlaceInMemory (rmO 9 154) [.ref (rsB G), .int (nI key)] (rwd G K V c P r md up wl cu hf) n (rsOk (none) h' n') := by
  refine rsK_of pf_s_makePlaceInMemory rfl (Nat.le_of_ble_eq_true rfl) rfl ?_
  refine rs_aload_n d_s_makePlaceInMemory_0 rfl rfl ?_
  refine rx_get_ga d_s_makePlaceInMemory_1 rfl f_s_10 ?_
  refine rx_cV d_s_makePlaceInMemory_4 rfl c_s_71 (by exact np_e_count) (rw_e (by decide)) (k_count (by decide)) (by decide) ⟨rfl, rfl⟩ (Nat.le_of_ble_eq_true rfl) rfl ?_
  refine rs_bipush (v := (nI 8)) d_s_makePlaceInMemory_7 rfl (by decide) ?_
  refine rs_icmp_lt (tgt := 28) d_s_makePlaceInMemory_9 rfl (by decide) (fun hc => absurd hc (nI_nlt h8 (by omega))) (fun _ => ?_)
  refine rs_aload_n d_s_makePlaceInMemory_12 rfl rfl ?_
  refine rx_get_ga d_s_makePlaceInMemory_13 rfl f_s_10 ?_
  refine rs_iload_n d_s_makePlaceInMemory_16 rfl rfl ?_
  refine rx_cV d_s_makePlaceInMemory_17 rfl c_s_159 (by exact np_e_holds) (rw_e (by decide)) (k_holds (by decide) hk) (by decide) ⟨rfl, rfl⟩ (Nat.le_of_ble_eq_true rfl) rfl ?_
  rw [if_pos h0]
  refine rs_if_ne (tgt := 28) d_s_makePlaceInMemory_20 rfl (by decide) (fun hc => absurd (rfl) hc) (fun _ => ?_)
  refine rs_aload_n d_s_makePlaceInMemory_23 rfl rfl ?_
  refine rx_cV d_s_makePlaceInMemory_24 rfl c_s_90 (by exact np_s_flushMemory) rw_x (hF) (by decide) ⟨rfl, rfl⟩ (Nat.le_of_ble_eq_true rfl) rfl ?_
  refine rs_pop d_s_makePlaceInMemory_27 rfl rfl ?_
  exact rs_vreturn d_s_makePlaceInMemory_28 rfl ⟨rfl, rfl, rfl⟩
set_option maxRecDepth 100000 in
theorem k_mp_th {G : rsG} {n : Nat} {K V : Nat → Nat → Int32} {c P r : Nat → Nat} {md up wl cu : Int32} {hf : rsH} {key : Nat} (hk : key < 100) (h13 : c 13 ≤ 100) (h8 : 8 ≤ c 13) (h0 : K 13 key = 0) {h' : rsH} {n' : Nat} {k : Nat} (hF : rsK G M_s_flushMemory (rmT 8 133) [.ref (rsB G)] (rwd G K V c P r md up wl cu hf) n (rsTh k h' n')) : rsK G M_s_makePlaceInMemory (rmT 9 154) [.ref (rsB G), .int (nI key)] (rwd G K V c P r md up wl cu hf) n (rsTh k h' n') := by
  refine rsK_of pf_s_makePlaceInMemory rfl (Nat.le_of_ble_eq_true rfl) rfl ?_
  refine rs_aload_n d_s_makePlaceInMemory_0 rfl rfl ?_
  refine rx_get_ga d_s_makePlaceInMemory_1 rfl f_s_10 ?_
  refine rx_cV d_s_makePlaceInMemory_4 rfl c_s_71 (by exact np_e_count) (rw_e (by decide)) (k_count (by decide)) (by decide) ⟨rfl, rfl⟩ (Nat.le_of_ble_eq_true rfl) rfl ?_
  refine rs_bipush (v := (nI 8)) d_s_makePlaceInMemory_7 rfl (by decide) ?_
  refine rs_icmp_lt (tgt := 28) d_s_makePlaceInMemory_9 rfl (by decide) (fun hc => absurd hc (nI_nlt h8 (by omega))) (fun _ => ?_)
  refine rs_aload_n d_s_makePlaceInMemory_12 rfl rfl ?_
  refine rx_get_ga d_s_makePlaceInMemory_13 rfl f_s_10 ?_
  refine rs_iload_n d_s_makePlaceInMemory_16 rfl rfl ?_
  refine rx_cV d_s_makePlaceInMemory_17 rfl c_s_159 (by exact np_e_holds) (rw_e (by decide)) (k_holds (by decide) hk) (by decide) ⟨rfl, rfl⟩ (Nat.le_of_ble_eq_true rfl) rfl ?_
  rw [if_pos h0]
  refine rs_if_ne (tgt := 28) d_s_makePlaceInMemory_20 rfl (by decide) (fun hc => absurd (rfl) hc) (fun _ => ?_)
  refine rs_aload_n d_s_makePlaceInMemory_23 rfl rfl ?_
  exact rx_tV d_s_makePlaceInMemory_24 c_s_90 (by exact np_s_flushMemory) rw_x (hF) (by decide) (by decide) (Nat.le_of_ble_eq_true rfl) rfl rfl ⟨rfl, rfl, rfl⟩
end
section
/-! 18: the store's public methods (written by gen_store3.py) -/
theorem rp_th_nar (K : Nat → Nat → Int32) (P : Nat → Nat) (m key : Nat) : narrow .boolean (.int (rp_th K P m key)) = .int (rp_th K P m key) := by
  rcases rp_th01 K P m key with h | h <;> rw [h] <;> rfl
theorem rp_ne1 {i : Nat} (h : i < 2 ^ 31) : ¬ nI i = -1 := fun e => by
  have h1 := congrArg Int32.toInt e
  rw [nI_toInt h] at h1
  have h2 : (-1 : Int32).toInt = -1 := by decide
  rw [h2] at h1
  omega
set_option maxRecDepth 100000 in
theorem k_left {G : rsG} {n : Nat} {K V : Nat → Nat → Int32} {c P r : Nat → Nat} {md up wl cu : Int32} {hf : rsH}  : rsK G M_s_left (rmO 0 0) [.ref (rsB G)] (rwd G K V c P r md up wl cu hf) n (rsOk (some (.int wl)) (rwd G K V c P r md up wl cu hf) n) := by
  refine rsK_of pf_s_left rfl (Nat.le_of_ble_eq_true rfl) rfl ?_
  refine rs_aload_n d_s_left_0 rfl rfl ?_
  refine rx_get_wl d_s_left_1 rfl f_s_27 ?_
  exact rs_ireturn d_s_left_4 rfl ⟨rfl, rfl, rfl⟩
set_option maxRecDepth 100000 in
theorem k_key {G : rsG} {n : Nat} {K V : Nat → Nat → Int32} {c P r : Nat → Nat} {md up wl cu : Int32} {hf : rsH}  : rsK G M_s_key (rmO 0 0) [.ref (rsB G)] (rwd G K V c P r md up wl cu hf) n (rsOk (some (.int cu)) (rwd G K V c P r md up wl cu hf) n) := by
  refine rsK_of pf_s_key rfl (Nat.le_of_ble_eq_true rfl) rfl ?_
  refine rs_aload_n d_s_key_0 rfl rfl ?_
  refine rx_get_cu d_s_key_1 rfl f_s_31 ?_
  exact rs_ireturn d_s_key_4 rfl ⟨rfl, rfl, rfl⟩
set_option maxRecDepth 100000 in
theorem k_value_none {G : rsG} {n : Nat} {K V : Nat → Nat → Int32} {c P r : Nat → Nat} {md up wl cu : Int32} {hf : rsH} (h : cu = -1) : rsK G M_s_value (rmO 5 109) [.ref (rsB G)] (rwd G K V c P r md up wl cu hf) n (rsOk (some (.int 0)) (rwd G K V c P r md up wl cu hf) n) := by
  refine rsK_of pf_s_value rfl (Nat.le_of_ble_eq_true rfl) rfl ?_
  refine rs_aload_n d_s_value_0 rfl rfl ?_
  refine rx_get_cu d_s_value_1 rfl f_s_31 ?_
  refine rs_iconst (v := (-1)) d_s_value_4 rfl (by decide) ?_
  refine rs_icmp_ne (tgt := 12) d_s_value_5 rfl (by decide) (fun hc => absurd (h) hc) (fun _ => ?_)
  refine rs_iconst (v := 0) d_s_value_8 rfl (by decide) ?_
  refine rs_goto (tgt := 20) d_s_value_9 (by decide) ?_
  exact rs_ireturn d_s_value_20 rfl ⟨rfl, rfl, rfl⟩
set_option maxRecDepth 100000 in
theorem k_value_some {G : rsG} {n : Nat} {K V : Nat → Nat → Int32} {c P r : Nat → Nat} {md up wl cu : Int32} {hf : rsH} (hs : rp_sum r 3 ≤ 12) (hP : ∀ i, i < 13 → P i ≤ 12) {key : Nat} (hk : key < 100) (h : cu = nI key) : rsK G M_s_value (rmO 5 109) [.ref (rsB G)] (rwd G K V c P r md up wl cu hf) n (rsOk (some (.int (rp_vz K V P (rp_sum r 3) key))) (rwd G K V c P r md up wl cu hf) n) := by
  refine rsK_of pf_s_value rfl (Nat.le_of_ble_eq_true rfl) rfl ?_
  subst h
  refine rs_aload_n d_s_value_0 rfl rfl ?_
  refine rx_get_cu d_s_value_1 rfl f_s_31 ?_
  refine rs_iconst (v := (-1)) d_s_value_4 rfl (by decide) ?_
  refine rs_icmp_ne (tgt := 12) d_s_value_5 rfl (by decide) (fun _ => ?_) (fun hc => absurd hc (rp_ne1 (by omega)))
  refine rs_aload_n d_s_value_12 rfl rfl ?_
  refine rs_aload_n d_s_value_13 rfl rfl ?_
  refine rx_get_cu d_s_value_14 rfl f_s_31 ?_
  refine rx_cV d_s_value_17 rfl c_s_86 (by exact np_s_valueOrZero) rw_x (k_valueOrZero hs hP hk) (by decide) ⟨rfl, rfl⟩ (Nat.le_of_ble_eq_true rfl) rfl ?_
  exact rs_ireturn d_s_value_20 rfl ⟨rfl, rfl, rfl⟩
set_option maxRecDepth 100000 in
theorem k_memory_down {G : rsG} {n : Nat} {K V : Nat → Nat → Int32} {c P r : Nat → Nat} {md up wl cu : Int32} {hf : rsH} (h : up = 0) : rsK G M_s_memory (rmO 1 20) [.ref (rsB G)] (rwd G K V c P r md up wl cu hf) n (rsOk (some (.int (-1))) (rwd G K V c P r md up wl cu hf) n) := by
  refine rsK_of pf_s_memory rfl (Nat.le_of_ble_eq_true rfl) rfl ?_
  refine rs_aload_n d_s_memory_0 rfl rfl ?_
  refine rx_get_up d_s_memory_1 rfl f_s_23 ?_
  refine rs_if_eq (tgt := 17) d_s_memory_4 rfl (by decide) (fun _ => ?_) (fun hc => absurd (h) hc)
  refine rs_iconst (v := (-1)) d_s_memory_17 rfl (by decide) ?_
  exact rs_ireturn d_s_memory_18 rfl ⟨rfl, rfl, rfl⟩
set_option maxRecDepth 100000 in
theorem k_memory_up {G : rsG} {n : Nat} {K V : Nat → Nat → Int32} {c P r : Nat → Nat} {md up wl cu : Int32} {hf : rsH} (h : ¬ up = 0) : rsK G M_s_memory (rmO 1 20) [.ref (rsB G)] (rwd G K V c P r md up wl cu hf) n (rsOk (some (.int (nI (c 13)))) (rwd G K V c P r md up wl cu hf) n) := by
  refine rsK_of pf_s_memory rfl (Nat.le_of_ble_eq_true rfl) rfl ?_
  refine rs_aload_n d_s_memory_0 rfl rfl ?_
  refine rx_get_up d_s_memory_1 rfl f_s_23 ?_
  refine rs_if_eq (tgt := 17) d_s_memory_4 rfl (by decide) (fun hc => absurd hc (h)) (fun _ => ?_)
  refine rs_aload_n d_s_memory_7 rfl rfl ?_
  refine rx_get_ga d_s_memory_8 rfl f_s_10 ?_
  refine rx_cV d_s_memory_11 rfl c_s_71 (by exact np_e_count) (rw_e (by decide)) (k_count (by decide)) (by decide) ⟨rfl, rfl⟩ (Nat.le_of_ble_eq_true rfl) rfl ?_
  refine rs_goto (tgt := 18) d_s_memory_14 (by decide) ?_
  exact rs_ireturn d_s_memory_18 rfl ⟨rfl, rfl, rfl⟩
set_option maxRecDepth 100000 in
theorem k_format_ok {G : rsG} {n : Nat} {K V : Nat → Nat → Int32} {c P r : Nat → Nat} {md up wl cu : Int32} {hf : rsH} {wl' : Int32} (h : rp_sp wl (nI 1) = some wl') : rsK G M_s_format (rmO 7 111) [.ref (rsB G)] (rwd G K V c P r md up wl cu hf) n (rsOk (none) (rwd G (va_up K 13 (fun _ => 0)) V (va_up c 13 0) P (fun _ => 0) 1 1 wl' (-1) hf) n) := by
  refine rsK_of pf_s_format rfl (Nat.le_of_ble_eq_true rfl) rfl ?_
  refine rs_aload_n d_s_format_0 rfl rfl ?_
  refine rs_iconst (v := (nI 1)) d_s_format_1 rfl (by decide) ?_
  refine rx_cV d_s_format_2 rfl c_s_34 (by exact np_s_spendWrites) rw_x (k_spend_ok h) (by decide) ⟨rfl, rfl⟩ (Nat.le_of_ble_eq_true rfl) rfl ?_
  refine rs_aload_n d_s_format_5 rfl rfl ?_
  refine rx_get_di d_s_format_6 rfl f_s_19 ?_
  refine rx_cV d_s_format_9 rfl c_s_38 (by exact np_d_makeAnew) rw_d (k_makeAnew) (by decide) ⟨rfl, rfl⟩ (Nat.le_of_ble_eq_true rfl) rfl ?_
  refine rs_aload_n d_s_format_12 rfl rfl ?_
  refine rx_cV d_s_format_13 rfl c_s_41 (by exact np_s_comeUp) rw_x (k_comeUp) (by decide) ⟨rfl, rfl⟩ (Nat.le_of_ble_eq_true rfl) rfl ?_
  exact rs_vreturn d_s_format_16 rfl ⟨rfl, rfl, rfl⟩
set_option maxRecDepth 100000 in
theorem k_format_no {G : rsG} {n : Nat} {K V : Nat → Nat → Int32} {c P r : Nat → Nat} {md up wl cu : Int32} {hf : rsH} (h : rp_sp wl (nI 1) = none) : rsK G M_s_format (rmT 7 111) [.ref (rsB G)] (rwd G K V c P r md up wl cu hf) n (rsTh 1 (rwd G (va_up K 13 (fun _ => 0)) V (va_up c 13 0) P r md 0 (-1) (-1) hf) (n + 1)) := by
  refine rsK_of pf_s_format rfl (Nat.le_of_ble_eq_true rfl) rfl ?_
  refine rs_aload_n d_s_format_0 rfl rfl ?_
  refine rs_iconst (v := (nI 1)) d_s_format_1 rfl (by decide) ?_
  exact rx_tV d_s_format_2 c_s_34 (by exact np_s_spendWrites) rw_x (k_spend_no h) (by decide) (by decide) (Nat.le_of_ble_eq_true rfl) rfl rfl ⟨rfl, rfl, rfl⟩
set_option maxRecDepth 100000 in
theorem k_recover_up {G : rsG} {n : Nat} {K V : Nat → Nat → Int32} {c P r : Nat → Nat} {md up wl cu : Int32} {hf : rsH} (h : ¬ up = 0) : rsK G M_s_recover (rmT 7 110) [.ref (rsB G)] (rwd G K V c P r md up wl cu hf) n (rsTh 1 (rwd G K V c P r md up wl cu hf) (n + 1)) := by
  refine rsK_of pf_s_recover rfl (Nat.le_of_ble_eq_true rfl) rfl ?_
  refine rs_aload_n d_s_recover_0 rfl rfl ?_
  refine rx_get_up d_s_recover_1 rfl f_s_23 ?_
  refine rs_if_eq (tgt := 17) d_s_recover_4 rfl (by decide) (fun hc => absurd hc (h)) (fun _ => ?_)
  exact rs_throw (k := 1) (tx := "the store is up") d_s_recover_7 d_s_recover_10 d_s_recover_11 d_s_recover_13 d_s_recover_16 (by decide) n_s_44 t_ins1 t_ini1 x_s_48 (by decide) rfl (Nat.le_of_ble_eq_true rfl) (by decide) (by decide) (by decide) (by decide) ⟨rfl, rfl, rfl⟩
set_option maxRecDepth 100000 in
theorem k_recover_nodisk {G : rsG} {n : Nat} {K V : Nat → Nat → Int32} {c P r : Nat → Nat} {md up wl cu : Int32} {hf : rsH} (hb : narrow .boolean (.int md) = .int md) (h : up = 0) (h2 : md = 0) : rsK G M_s_recover (rmT 7 110) [.ref (rsB G)] (rwd G K V c P r md up wl cu hf) n (rsTh 1 (rwd G K V c P r md up wl cu hf) (n + 1)) := by
  refine rsK_of pf_s_recover rfl (Nat.le_of_ble_eq_true rfl) rfl ?_
  refine rs_aload_n d_s_recover_0 rfl rfl ?_
  refine rx_get_up d_s_recover_1 rfl f_s_23 ?_
  refine rs_if_eq (tgt := 17) d_s_recover_4 rfl (by decide) (fun _ => ?_) (fun hc => absurd (h) hc)
  refine rs_aload_n d_s_recover_17 rfl rfl ?_
  exact rx_tV d_s_recover_18 c_s_51 (by exact np_s_requireDisk) rw_x (k_reqDisk_no hb h2) (by decide) (by decide) (Nat.le_of_ble_eq_true rfl) rfl rfl ⟨rfl, rfl, rfl⟩
set_option maxRecDepth 100000 in
theorem k_recover_ok {G : rsG} {n : Nat} {K V : Nat → Nat → Int32} {c P r : Nat → Nat} {md up wl cu : Int32} {hf : rsH} (hb : narrow .boolean (.int md) = .int md) (h : up = 0) (h2 : ¬ md = 0) : rsK G M_s_recover (rmO 7 110) [.ref (rsB G)] (rwd G K V c P r md up wl cu hf) n (rsOk (some (.int (nI (rp_sum r 3)))) (rwd G (va_up K 13 (fun _ => 0)) V (va_up c 13 0) P r md 1 wl (-1) hf) n) := by
  refine rsK_of pf_s_recover rfl (Nat.le_of_ble_eq_true rfl) rfl ?_
  refine rs_aload_n d_s_recover_0 rfl rfl ?_
  refine rx_get_up d_s_recover_1 rfl f_s_23 ?_
  refine rs_if_eq (tgt := 17) d_s_recover_4 rfl (by decide) (fun _ => ?_) (fun hc => absurd (h) hc)
  refine rs_aload_n d_s_recover_17 rfl rfl ?_
  refine rx_cV d_s_recover_18 rfl c_s_51 (by exact np_s_requireDisk) rw_x (k_reqDisk_ok hb h2) (by decide) ⟨rfl, rfl⟩ (Nat.le_of_ble_eq_true rfl) rfl ?_
  refine rs_aload_n d_s_recover_21 rfl rfl ?_
  refine rx_cV d_s_recover_22 rfl c_s_41 (by exact np_s_comeUp) rw_x (k_comeUp) (by decide) ⟨rfl, rfl⟩ (Nat.le_of_ble_eq_true rfl) rfl ?_
  refine rs_aload_n d_s_recover_25 rfl rfl ?_
  refine rx_get_di d_s_recover_26 rfl f_s_19 ?_
  refine rx_cV d_s_recover_29 rfl c_s_54 (by exact np_d_countRuns) rw_d (k_countRuns) (by decide) ⟨rfl, rfl⟩ (Nat.le_of_ble_eq_true rfl) rfl ?_
  exact rs_ireturn d_s_recover_32 rfl ⟨rfl, rfl, rfl⟩
set_option maxRecDepth 100000 in
theorem k_put_bad {G : rsG} {n : Nat} {K V : Nat → Nat → Int32} {c P r : Nat → Nat} {md up wl cu : Int32} {hf : rsH} {x : Int32} (hx : x < 0 ∨ ¬ x < 100) {v2 : Int32} : rsK G M_s_put (rmT 10 175) [.ref (rsB G), .int x, .int v2] (rwd G K V c P r md up wl cu hf) n (rsTh 0 (rwd G K V c P r md up wl cu hf) (n + 1)) := by
  refine rsK_of pf_s_put rfl (Nat.le_of_ble_eq_true rfl) rfl ?_
  refine rs_iload_n d_s_put_0 rfl rfl ?_
  exact rx_tS d_s_put_1 c_s_58 (by exact np_s_requireKey) (k_reqKey_no hx) (by decide) (by decide) (Nat.le_of_ble_eq_true rfl) rfl rfl ⟨rfl, rfl, rfl⟩
set_option maxRecDepth 100000 in
theorem k_put_down {G : rsG} {n : Nat} {K V : Nat → Nat → Int32} {c P r : Nat → Nat} {md up wl cu : Int32} {hf : rsH} {key : Nat} (hk : key < 100) (h : up = 0) {v2 : Int32} : rsK G M_s_put (rmT 10 175) [.ref (rsB G), .int (nI key), .int v2] (rwd G K V c P r md up wl cu hf) n (rsTh 1 (rwd G K V c P r md up wl cu hf) (n + 1)) := by
  refine rsK_of pf_s_put rfl (Nat.le_of_ble_eq_true rfl) rfl ?_
  refine rs_iload_n d_s_put_0 rfl rfl ?_
  refine rx_cS d_s_put_1 rfl c_s_58 (by exact np_s_requireKey) (k_reqKey_ok hk) (by decide) ⟨rfl, rfl⟩ (Nat.le_of_ble_eq_true rfl) rfl ?_
  refine rs_aload_n d_s_put_4 rfl rfl ?_
  exact rx_tV d_s_put_5 c_s_61 (by exact np_s_requireUp) rw_x (k_reqUp_no h) (by decide) (by decide) (Nat.le_of_ble_eq_true rfl) rfl rfl ⟨rfl, rfl, rfl⟩
set_option maxRecDepth 100000 in
theorem k_put_ok {G : rsG} {n : Nat} {K V K2 V2 : Nat → Nat → Int32} {c P r c2 P2 r2 : Nat → Nat} {md up wl cu md2 up2 wl2 cu2 : Int32} {hf : rsH} {key : Nat} (hk : key < 100) (hu : ¬ up = 0) {v2 : Int32} (hM : rsK G M_s_makePlaceInMemory (rmO 9 154) [.ref (rsB G), .int (nI key)] (rwd G K V c P r md up wl cu hf) n (rsOk none (rwd G K2 V2 c2 P2 r2 md2 up2 wl2 cu2 hf) n)) : rsK G M_s_put (rmO 10 175) [.ref (rsB G), .int (nI key), .int v2] (rwd G K V c P r md up wl cu hf) n (rsOk (some (.int (nI (rp_c K2 c2 13 key 13)))) (rwd G (rp_u K2 13 key 1) (rp_u V2 13 key v2) (rp_c K2 c2 13 key) P2 r2 md2 up2 wl2 (-1) hf) n) := by
  refine rsK_of pf_s_put rfl (Nat.le_of_ble_eq_true rfl) rfl ?_
  refine rs_iload_n d_s_put_0 rfl rfl ?_
  refine rx_cS d_s_put_1 rfl c_s_58 (by exact np_s_requireKey) (k_reqKey_ok hk) (by decide) ⟨rfl, rfl⟩ (Nat.le_of_ble_eq_true rfl) rfl ?_
  refine rs_aload_n d_s_put_4 rfl rfl ?_
  refine rx_cV d_s_put_5 rfl c_s_61 (by exact np_s_requireUp) rw_x (k_reqUp_ok hu) (by decide) ⟨rfl, rfl⟩ (Nat.le_of_ble_eq_true rfl) rfl ?_
  refine rs_aload_n d_s_put_8 rfl rfl ?_
  refine rs_iload_n d_s_put_9 rfl rfl ?_
  refine rx_cV d_s_put_10 rfl c_s_64 (by exact np_s_makePlaceInMemory) rw_x (hM) (by decide) ⟨rfl, rfl⟩ (Nat.le_of_ble_eq_true rfl) rfl ?_
  refine rs_aload_n d_s_put_13 rfl rfl ?_
  refine rx_get_ga d_s_put_14 rfl f_s_10 ?_
  refine rs_iload_n d_s_put_17 rfl rfl ?_
  refine rs_iload_n d_s_put_18 rfl rfl ?_
  refine rx_cV d_s_put_19 rfl c_s_67 (by exact np_e_setValue) (rw_e (by decide)) (k_setValue (by decide) hk) (by decide) ⟨rfl, rfl⟩ (Nat.le_of_ble_eq_true rfl) rfl ?_
  refine rs_aload_n d_s_put_22 rfl rfl ?_
  refine rs_iconst (v := (-1)) d_s_put_23 rfl (by decide) ?_
  refine rx_put_cu d_s_put_24 rfl p_s_31 ?_
  refine rs_aload_n d_s_put_27 rfl rfl ?_
  refine rx_get_ga d_s_put_28 rfl f_s_10 ?_
  refine rx_cV d_s_put_31 rfl c_s_71 (by exact np_e_count) (rw_e (by decide)) (k_count (by decide)) (by decide) ⟨rfl, rfl⟩ (Nat.le_of_ble_eq_true rfl) rfl ?_
  exact rs_ireturn d_s_put_34 rfl ⟨rfl, rfl, rfl⟩
set_option maxRecDepth 100000 in
theorem k_put_th {G : rsG} {n : Nat} {K V : Nat → Nat → Int32} {c P r : Nat → Nat} {md up wl cu : Int32} {hf : rsH} {key : Nat} (hk : key < 100) (hu : ¬ up = 0) {v2 : Int32} {k : Nat} {h' : rsH} {n' : Nat} (hM : rsK G M_s_makePlaceInMemory (rmT 9 154) [.ref (rsB G), .int (nI key)] (rwd G K V c P r md up wl cu hf) n (rsTh k h' n')) : rsK G M_s_put (rmT 10 175) [.ref (rsB G), .int (nI key), .int v2] (rwd G K V c P r md up wl cu hf) n (rsTh k h' n') := by
  refine rsK_of pf_s_put rfl (Nat.le_of_ble_eq_true rfl) rfl ?_
  refine rs_iload_n d_s_put_0 rfl rfl ?_
  refine rx_cS d_s_put_1 rfl c_s_58 (by exact np_s_requireKey) (k_reqKey_ok hk) (by decide) ⟨rfl, rfl⟩ (Nat.le_of_ble_eq_true rfl) rfl ?_
  refine rs_aload_n d_s_put_4 rfl rfl ?_
  refine rx_cV d_s_put_5 rfl c_s_61 (by exact np_s_requireUp) rw_x (k_reqUp_ok hu) (by decide) ⟨rfl, rfl⟩ (Nat.le_of_ble_eq_true rfl) rfl ?_
  refine rs_aload_n d_s_put_8 rfl rfl ?_
  refine rs_iload_n d_s_put_9 rfl rfl ?_
  exact rx_tV d_s_put_10 c_s_64 (by exact np_s_makePlaceInMemory) rw_x (hM) (by decide) (by decide) (Nat.le_of_ble_eq_true rfl) rfl rfl ⟨rfl, rfl, rfl⟩
set_option maxRecDepth 100000 in
theorem k_remove_bad {G : rsG} {n : Nat} {K V : Nat → Nat → Int32} {c P r : Nat → Nat} {md up wl cu : Int32} {hf : rsH} {x : Int32} (hx : x < 0 ∨ ¬ x < 100) : rsK G M_s_remove (rmT 10 175) [.ref (rsB G), .int x] (rwd G K V c P r md up wl cu hf) n (rsTh 0 (rwd G K V c P r md up wl cu hf) (n + 1)) := by
  refine rsK_of pf_s_remove rfl (Nat.le_of_ble_eq_true rfl) rfl ?_
  refine rs_iload_n d_s_remove_0 rfl rfl ?_
  exact rx_tS d_s_remove_1 c_s_58 (by exact np_s_requireKey) (k_reqKey_no hx) (by decide) (by decide) (Nat.le_of_ble_eq_true rfl) rfl rfl ⟨rfl, rfl, rfl⟩
set_option maxRecDepth 100000 in
theorem k_remove_down {G : rsG} {n : Nat} {K V : Nat → Nat → Int32} {c P r : Nat → Nat} {md up wl cu : Int32} {hf : rsH} {key : Nat} (hk : key < 100) (h : up = 0) : rsK G M_s_remove (rmT 10 175) [.ref (rsB G), .int (nI key)] (rwd G K V c P r md up wl cu hf) n (rsTh 1 (rwd G K V c P r md up wl cu hf) (n + 1)) := by
  refine rsK_of pf_s_remove rfl (Nat.le_of_ble_eq_true rfl) rfl ?_
  refine rs_iload_n d_s_remove_0 rfl rfl ?_
  refine rx_cS d_s_remove_1 rfl c_s_58 (by exact np_s_requireKey) (k_reqKey_ok hk) (by decide) ⟨rfl, rfl⟩ (Nat.le_of_ble_eq_true rfl) rfl ?_
  refine rs_aload_n d_s_remove_4 rfl rfl ?_
  exact rx_tV d_s_remove_5 c_s_61 (by exact np_s_requireUp) rw_x (k_reqUp_no h) (by decide) (by decide) (Nat.le_of_ble_eq_true rfl) rfl rfl ⟨rfl, rfl, rfl⟩
set_option maxRecDepth 100000 in
theorem k_remove_ok {G : rsG} {n : Nat} {K V K2 V2 : Nat → Nat → Int32} {c P r c2 P2 r2 : Nat → Nat} {md up wl cu md2 up2 wl2 cu2 : Int32} {hf : rsH} (hs : rp_sum r 3 ≤ 12) (hP : ∀ i, i < 13 → P i ≤ 12) {key : Nat} (hk : key < 100) (hu : ¬ up = 0) (hM : rsK G M_s_makePlaceInMemory (rmO 9 154) [.ref (rsB G), .int (nI key)] (rwd G K V c P r md up wl cu hf) n (rsOk none (rwd G K2 V2 c2 P2 r2 md2 up2 wl2 cu2 hf) n)) : rsK G M_s_remove (rmO 10 175) [.ref (rsB G), .int (nI key)] (rwd G K V c P r md up wl cu hf) n (rsOk (some (.int (rp_th K P (rp_sum r 3) key))) (rwd G (rp_u K2 13 key 2) (rp_u V2 13 key 0) (rp_c K2 c2 13 key) P2 r2 md2 up2 wl2 (-1) hf) n) := by
  refine rsK_of pf_s_remove rfl (Nat.le_of_ble_eq_true rfl) rfl ?_
  refine rs_iload_n d_s_remove_0 rfl rfl ?_
  refine rx_cS d_s_remove_1 rfl c_s_58 (by exact np_s_requireKey) (k_reqKey_ok hk) (by decide) ⟨rfl, rfl⟩ (Nat.le_of_ble_eq_true rfl) rfl ?_
  refine rs_aload_n d_s_remove_4 rfl rfl ?_
  refine rx_cV d_s_remove_5 rfl c_s_61 (by exact np_s_requireUp) rw_x (k_reqUp_ok hu) (by decide) ⟨rfl, rfl⟩ (Nat.le_of_ble_eq_true rfl) rfl ?_
  refine rs_aload_n d_s_remove_8 rfl rfl ?_
  refine rs_iload_n d_s_remove_9 rfl rfl ?_
  refine rx_cV d_s_remove_10 rfl c_s_74 (by exact np_s_isThere) rw_x (k_isThere hs hP hk) (by decide) ⟨rfl, rfl⟩ (Nat.le_of_ble_eq_true rfl) rfl ?_
  refine rs_istore_n d_s_remove_13 rfl (by decide) rfl ?_
  refine rs_aload_n d_s_remove_14 rfl rfl ?_
  refine rs_iload_n d_s_remove_15 rfl rfl ?_
  refine rx_cV d_s_remove_16 rfl c_s_64 (by exact np_s_makePlaceInMemory) rw_x (hM) (by decide) ⟨rfl, rfl⟩ (Nat.le_of_ble_eq_true rfl) rfl ?_
  refine rs_aload_n d_s_remove_19 rfl rfl ?_
  refine rx_get_ga d_s_remove_20 rfl f_s_10 ?_
  refine rs_iload_n d_s_remove_23 rfl rfl ?_
  refine rx_cV d_s_remove_24 rfl c_s_78 (by exact np_e_setMark) (rw_e (by decide)) (k_setMark (by decide) hk) (by decide) ⟨rfl, rfl⟩ (Nat.le_of_ble_eq_true rfl) rfl ?_
  refine rs_aload_n d_s_remove_27 rfl rfl ?_
  refine rs_iconst (v := (-1)) d_s_remove_28 rfl (by decide) ?_
  refine rx_put_cu d_s_remove_29 rfl p_s_31 ?_
  refine rs_iload_n d_s_remove_32 rfl rfl ?_
  exact rs_zreturn d_s_remove_33 rfl (rp_th_nar _ _ _ _) ⟨rfl, rfl, rfl⟩
set_option maxRecDepth 100000 in
theorem k_remove_th {G : rsG} {n : Nat} {K V : Nat → Nat → Int32} {c P r : Nat → Nat} {md up wl cu : Int32} {hf : rsH} (hs : rp_sum r 3 ≤ 12) (hP : ∀ i, i < 13 → P i ≤ 12) {key : Nat} (hk : key < 100) (hu : ¬ up = 0) {k : Nat} {h' : rsH} {n' : Nat} (hM : rsK G M_s_makePlaceInMemory (rmT 9 154) [.ref (rsB G), .int (nI key)] (rwd G K V c P r md up wl cu hf) n (rsTh k h' n')) : rsK G M_s_remove (rmT 10 175) [.ref (rsB G), .int (nI key)] (rwd G K V c P r md up wl cu hf) n (rsTh k h' n') := by
  refine rsK_of pf_s_remove rfl (Nat.le_of_ble_eq_true rfl) rfl ?_
  refine rs_iload_n d_s_remove_0 rfl rfl ?_
  refine rx_cS d_s_remove_1 rfl c_s_58 (by exact np_s_requireKey) (k_reqKey_ok hk) (by decide) ⟨rfl, rfl⟩ (Nat.le_of_ble_eq_true rfl) rfl ?_
  refine rs_aload_n d_s_remove_4 rfl rfl ?_
  refine rx_cV d_s_remove_5 rfl c_s_61 (by exact np_s_requireUp) rw_x (k_reqUp_ok hu) (by decide) ⟨rfl, rfl⟩ (Nat.le_of_ble_eq_true rfl) rfl ?_
  refine rs_aload_n d_s_remove_8 rfl rfl ?_
  refine rs_iload_n d_s_remove_9 rfl rfl ?_
  refine rx_cV d_s_remove_10 rfl c_s_74 (by exact np_s_isThere) rw_x (k_isThere hs hP hk) (by decide) ⟨rfl, rfl⟩ (Nat.le_of_ble_eq_true rfl) rfl ?_
  refine rs_istore_n d_s_remove_13 rfl (by decide) rfl ?_
  refine rs_aload_n d_s_remove_14 rfl rfl ?_
  refine rs_iload_n d_s_remove_15 rfl rfl ?_
  exact rx_tV d_s_remove_16 c_s_64 (by exact np_s_makePlaceInMemory) rw_x (hM) (by decide) (by decide) (Nat.le_of_ble_eq_true rfl) rfl rfl ⟨rfl, rfl, rfl⟩
set_option maxRecDepth 100000 in
theorem k_get_bad {G : rsG} {n : Nat} {K V : Nat → Nat → Int32} {c P r : Nat → Nat} {md up wl cu : Int32} {hf : rsH} {x : Int32} (hx : x < 0 ∨ ¬ x < 100) : rsK G M_s_get (rmT 7 110) [.ref (rsB G), .int x] (rwd G K V c P r md up wl cu hf) n (rsTh 0 (rwd G K V c P r md up wl cu hf) (n + 1)) := by
  refine rsK_of pf_s_get rfl (Nat.le_of_ble_eq_true rfl) rfl ?_
  refine rs_iload_n d_s_get_0 rfl rfl ?_
  exact rx_tS d_s_get_1 c_s_58 (by exact np_s_requireKey) (k_reqKey_no hx) (by decide) (by decide) (Nat.le_of_ble_eq_true rfl) rfl rfl ⟨rfl, rfl, rfl⟩
set_option maxRecDepth 100000 in
theorem k_get_down {G : rsG} {n : Nat} {K V : Nat → Nat → Int32} {c P r : Nat → Nat} {md up wl cu : Int32} {hf : rsH} {key : Nat} (hk : key < 100) (h : up = 0) : rsK G M_s_get (rmT 7 110) [.ref (rsB G), .int (nI key)] (rwd G K V c P r md up wl cu hf) n (rsTh 1 (rwd G K V c P r md up wl cu hf) (n + 1)) := by
  refine rsK_of pf_s_get rfl (Nat.le_of_ble_eq_true rfl) rfl ?_
  refine rs_iload_n d_s_get_0 rfl rfl ?_
  refine rx_cS d_s_get_1 rfl c_s_58 (by exact np_s_requireKey) (k_reqKey_ok hk) (by decide) ⟨rfl, rfl⟩ (Nat.le_of_ble_eq_true rfl) rfl ?_
  refine rs_aload_n d_s_get_4 rfl rfl ?_
  exact rx_tV d_s_get_5 c_s_61 (by exact np_s_requireUp) rw_x (k_reqUp_no h) (by decide) (by decide) (Nat.le_of_ble_eq_true rfl) rfl rfl ⟨rfl, rfl, rfl⟩
set_option maxRecDepth 100000 in
theorem k_get_no {G : rsG} {n : Nat} {K V : Nat → Nat → Int32} {c P r : Nat → Nat} {md up wl cu : Int32} {hf : rsH} (hs : rp_sum r 3 ≤ 12) (hP : ∀ i, i < 13 → P i ≤ 12) {key : Nat} (hk : key < 100) (hu : ¬ up = 0) (hn : rp_th K P (rp_sum r 3) key = 0) : rsK G M_s_get (rmT 7 110) [.ref (rsB G), .int (nI key)] (rwd G K V c P r md up wl cu hf) n (rsTh 3 (rwd G K V c P r md up wl cu hf) (n + 1)) := by
  refine rsK_of pf_s_get rfl (Nat.le_of_ble_eq_true rfl) rfl ?_
  refine rs_iload_n d_s_get_0 rfl rfl ?_
  refine rx_cS d_s_get_1 rfl c_s_58 (by exact np_s_requireKey) (k_reqKey_ok hk) (by decide) ⟨rfl, rfl⟩ (Nat.le_of_ble_eq_true rfl) rfl ?_
  refine rs_aload_n d_s_get_4 rfl rfl ?_
  refine rx_cV d_s_get_5 rfl c_s_61 (by exact np_s_requireUp) rw_x (k_reqUp_ok hu) (by decide) ⟨rfl, rfl⟩ (Nat.le_of_ble_eq_true rfl) rfl ?_
  refine rs_aload_n d_s_get_8 rfl rfl ?_
  refine rs_iload_n d_s_get_9 rfl rfl ?_
  refine rx_cV d_s_get_10 rfl c_s_74 (by exact np_s_isThere) rw_x (k_isThere hs hP hk) (by decide) ⟨rfl, rfl⟩ (Nat.le_of_ble_eq_true rfl) rfl ?_
  refine rs_if_ne (tgt := 26) d_s_get_13 rfl (by decide) (fun hc => absurd (hn) hc) (fun _ => ?_)
  exact rs_throw (k := 3) (tx := "the key is not there") d_s_get_16 d_s_get_19 d_s_get_20 d_s_get_22 d_s_get_25 (by decide) n_s_81 t_ins3 t_ini3 x_s_85 (by decide) rfl (Nat.le_of_ble_eq_true rfl) (by decide) (by decide) (by decide) (by decide) ⟨rfl, rfl, rfl⟩
set_option maxRecDepth 100000 in
theorem k_get_ok {G : rsG} {n : Nat} {K V : Nat → Nat → Int32} {c P r : Nat → Nat} {md up wl cu : Int32} {hf : rsH} (hs : rp_sum r 3 ≤ 12) (hP : ∀ i, i < 13 → P i ≤ 12) {key : Nat} (hk : key < 100) (hu : ¬ up = 0) (hn : ¬ rp_th K P (rp_sum r 3) key = 0) : rsK G M_s_get (rmO 7 110) [.ref (rsB G), .int (nI key)] (rwd G K V c P r md up wl cu hf) n (rsOk (some (.int (rp_vz K V P (rp_sum r 3) key))) (rwd G K V c P r md up wl cu hf) n) := by
  refine rsK_of pf_s_get rfl (Nat.le_of_ble_eq_true rfl) rfl ?_
  refine rs_iload_n d_s_get_0 rfl rfl ?_
  refine rx_cS d_s_get_1 rfl c_s_58 (by exact np_s_requireKey) (k_reqKey_ok hk) (by decide) ⟨rfl, rfl⟩ (Nat.le_of_ble_eq_true rfl) rfl ?_
  refine rs_aload_n d_s_get_4 rfl rfl ?_
  refine rx_cV d_s_get_5 rfl c_s_61 (by exact np_s_requireUp) rw_x (k_reqUp_ok hu) (by decide) ⟨rfl, rfl⟩ (Nat.le_of_ble_eq_true rfl) rfl ?_
  refine rs_aload_n d_s_get_8 rfl rfl ?_
  refine rs_iload_n d_s_get_9 rfl rfl ?_
  refine rx_cV d_s_get_10 rfl c_s_74 (by exact np_s_isThere) rw_x (k_isThere hs hP hk) (by decide) ⟨rfl, rfl⟩ (Nat.le_of_ble_eq_true rfl) rfl ?_
  refine rs_if_ne (tgt := 26) d_s_get_13 rfl (by decide) (fun _ => ?_) (fun hc => absurd hc (hn))
  refine rs_aload_n d_s_get_26 rfl rfl ?_
  refine rs_iload_n d_s_get_27 rfl rfl ?_
  refine rx_cV d_s_get_28 rfl c_s_86 (by exact np_s_valueOrZero) rw_x (k_valueOrZero hs hP hk) (by decide) ⟨rfl, rfl⟩ (Nat.le_of_ble_eq_true rfl) rfl ?_
  exact rs_ireturn d_s_get_31 rfl ⟨rfl, rfl, rfl⟩
set_option maxRecDepth 100000 in
theorem k_has_bad {G : rsG} {n : Nat} {K V : Nat → Nat → Int32} {c P r : Nat → Nat} {md up wl cu : Int32} {hf : rsH} {x : Int32} (hx : x < 0 ∨ ¬ x < 100) : rsK G M_s_has (rmT 7 110) [.ref (rsB G), .int x] (rwd G K V c P r md up wl cu hf) n (rsTh 0 (rwd G K V c P r md up wl cu hf) (n + 1)) := by
  refine rsK_of pf_s_has rfl (Nat.le_of_ble_eq_true rfl) rfl ?_
  refine rs_iload_n d_s_has_0 rfl rfl ?_
  exact rx_tS d_s_has_1 c_s_58 (by exact np_s_requireKey) (k_reqKey_no hx) (by decide) (by decide) (Nat.le_of_ble_eq_true rfl) rfl rfl ⟨rfl, rfl, rfl⟩
set_option maxRecDepth 100000 in
theorem k_has_down {G : rsG} {n : Nat} {K V : Nat → Nat → Int32} {c P r : Nat → Nat} {md up wl cu : Int32} {hf : rsH} {key : Nat} (hk : key < 100) (h : up = 0) : rsK G M_s_has (rmT 7 110) [.ref (rsB G), .int (nI key)] (rwd G K V c P r md up wl cu hf) n (rsTh 1 (rwd G K V c P r md up wl cu hf) (n + 1)) := by
  refine rsK_of pf_s_has rfl (Nat.le_of_ble_eq_true rfl) rfl ?_
  refine rs_iload_n d_s_has_0 rfl rfl ?_
  refine rx_cS d_s_has_1 rfl c_s_58 (by exact np_s_requireKey) (k_reqKey_ok hk) (by decide) ⟨rfl, rfl⟩ (Nat.le_of_ble_eq_true rfl) rfl ?_
  refine rs_aload_n d_s_has_4 rfl rfl ?_
  exact rx_tV d_s_has_5 c_s_61 (by exact np_s_requireUp) rw_x (k_reqUp_no h) (by decide) (by decide) (Nat.le_of_ble_eq_true rfl) rfl rfl ⟨rfl, rfl, rfl⟩
set_option maxRecDepth 100000 in
theorem k_has_ok {G : rsG} {n : Nat} {K V : Nat → Nat → Int32} {c P r : Nat → Nat} {md up wl cu : Int32} {hf : rsH} (hs : rp_sum r 3 ≤ 12) (hP : ∀ i, i < 13 → P i ≤ 12) {key : Nat} (hk : key < 100) (hu : ¬ up = 0) : rsK G M_s_has (rmO 7 110) [.ref (rsB G), .int (nI key)] (rwd G K V c P r md up wl cu hf) n (rsOk (some (.int (rp_th K P (rp_sum r 3) key))) (rwd G K V c P r md up wl cu hf) n) := by
  refine rsK_of pf_s_has rfl (Nat.le_of_ble_eq_true rfl) rfl ?_
  refine rs_iload_n d_s_has_0 rfl rfl ?_
  refine rx_cS d_s_has_1 rfl c_s_58 (by exact np_s_requireKey) (k_reqKey_ok hk) (by decide) ⟨rfl, rfl⟩ (Nat.le_of_ble_eq_true rfl) rfl ?_
  refine rs_aload_n d_s_has_4 rfl rfl ?_
  refine rx_cV d_s_has_5 rfl c_s_61 (by exact np_s_requireUp) rw_x (k_reqUp_ok hu) (by decide) ⟨rfl, rfl⟩ (Nat.le_of_ble_eq_true rfl) rfl ?_
  refine rs_aload_n d_s_has_8 rfl rfl ?_
  refine rs_iload_n d_s_has_9 rfl rfl ?_
  refine rx_cV d_s_has_10 rfl c_s_74 (by exact np_s_isThere) rw_x (k_isThere hs hP hk) (by decide) ⟨rfl, rfl⟩ (Nat.le_of_ble_eq_true rfl) rfl ?_
  exact rs_zreturn d_s_has_13 rfl (rp_th_nar _ _ _ _) ⟨rfl, rfl, rfl⟩
set_option maxRecDepth 100000 in
theorem k_flush_down {G : rsG} {n : Nat} {K V : Nat → Nat → Int32} {c P r : Nat → Nat} {md up wl cu : Int32} {hf : rsH} (h : up = 0) : rsK G M_s_flush (rmT 9 154) [.ref (rsB G)] (rwd G K V c P r md up wl cu hf) n (rsTh 1 (rwd G K V c P r md up wl cu hf) (n + 1)) := by
  refine rsK_of pf_s_flush rfl (Nat.le_of_ble_eq_true rfl) rfl ?_
  refine rs_aload_n d_s_flush_0 rfl rfl ?_
  exact rx_tV d_s_flush_1 c_s_61 (by exact np_s_requireUp) rw_x (k_reqUp_no h) (by decide) (by decide) (Nat.le_of_ble_eq_true rfl) rfl rfl ⟨rfl, rfl, rfl⟩
set_option maxRecDepth 100000 in
theorem k_flush_ok {G : rsG} {n : Nat} {K V K2 V2 : Nat → Nat → Int32} {c P r c2 P2 r2 : Nat → Nat} {md up wl cu md2 up2 wl2 cu2 : Int32} {hf : rsH} (hu : ¬ up = 0) {v : Int32} (hF : rsK G M_s_flushMemory (rmO 8 133) [.ref (rsB G)] (rwd G K V c P r md up wl cu hf) n (rsOk (some (.int v)) (rwd G K2 V2 c2 P2 r2 md2 up2 wl2 cu2 hf) n)) : rsK G M_s_flush (rmO 9 154) [.ref (rsB G)] (rwd G K V c P r md up wl cu hf) n (rsOk (some (.int v)) (rwd G K2 V2 c2 P2 r2 md2 up2 wl2 (-1) hf) n) := by
  refine rsK_of pf_s_flush rfl (Nat.le_of_ble_eq_true rfl) rfl ?_
  refine rs_aload_n d_s_flush_0 rfl rfl ?_
  refine rx_cV d_s_flush_1 rfl c_s_61 (by exact np_s_requireUp) rw_x (k_reqUp_ok hu) (by decide) ⟨rfl, rfl⟩ (Nat.le_of_ble_eq_true rfl) rfl ?_
  refine rs_aload_n d_s_flush_4 rfl rfl ?_
  refine rx_cV d_s_flush_5 rfl c_s_90 (by exact np_s_flushMemory) rw_x (hF) (by decide) ⟨rfl, rfl⟩ (Nat.le_of_ble_eq_true rfl) rfl ?_
  refine rs_istore_n d_s_flush_8 rfl (by decide) rfl ?_
  refine rs_aload_n d_s_flush_9 rfl rfl ?_
  refine rs_iconst (v := (-1)) d_s_flush_10 rfl (by decide) ?_
  refine rx_put_cu d_s_flush_11 rfl p_s_31 ?_
  refine rs_iload_n d_s_flush_14 rfl rfl ?_
  exact rs_ireturn d_s_flush_15 rfl ⟨rfl, rfl, rfl⟩
set_option maxRecDepth 100000 in
theorem k_flush_th {G : rsG} {n : Nat} {K V : Nat → Nat → Int32} {c P r : Nat → Nat} {md up wl cu : Int32} {hf : rsH} (hu : ¬ up = 0) {k : Nat} {h' : rsH} {n' : Nat} (hF : rsK G M_s_flushMemory (rmT 8 133) [.ref (rsB G)] (rwd G K V c P r md up wl cu hf) n (rsTh k h' n')) : rsK G M_s_flush (rmT 9 154) [.ref (rsB G)] (rwd G K V c P r md up wl cu hf) n (rsTh k h' n') := by
  refine rsK_of pf_s_flush rfl (Nat.le_of_ble_eq_true rfl) rfl ?_
  refine rs_aload_n d_s_flush_0 rfl rfl ?_
  refine rx_cV d_s_flush_1 rfl c_s_61 (by exact np_s_requireUp) rw_x (k_reqUp_ok hu) (by decide) ⟨rfl, rfl⟩ (Nat.le_of_ble_eq_true rfl) rfl ?_
  refine rs_aload_n d_s_flush_4 rfl rfl ?_
  exact rx_tV d_s_flush_5 c_s_90 (by exact np_s_flushMemory) rw_x (hF) (by decide) (by decide) (Nat.le_of_ble_eq_true rfl) rfl rfl ⟨rfl, rfl, rfl⟩
set_option maxRecDepth 100000 in
theorem k_compact_down {G : rsG} {n : Nat} {K V : Nat → Nat → Int32} {c P r : Nat → Nat} {md up wl cu : Int32} {hf : rsH} (h : up = 0) : rsK G M_s_compact (rmT 9 155) [.ref (rsB G)] (rwd G K V c P r md up wl cu hf) n (rsTh 1 (rwd G K V c P r md up wl cu hf) (n + 1)) := by
  refine rsK_of pf_s_compact rfl (Nat.le_of_ble_eq_true rfl) rfl ?_
  refine rs_aload_n d_s_compact_0 rfl rfl ?_
  exact rx_tV d_s_compact_1 c_s_61 (by exact np_s_requireUp) rw_x (k_reqUp_no h) (by decide) (by decide) (Nat.le_of_ble_eq_true rfl) rfl rfl ⟨rfl, rfl, rfl⟩
set_option maxRecDepth 100000 in
theorem k_compact_none {G : rsG} {n : Nat} {K V : Nat → Nat → Int32} {c P r : Nat → Nat} {md up wl cu : Int32} {hf : rsH} (hu : ¬ up = 0) (h0 : ∀ i, i < 3 → r i ≤ 3) : rsK G M_s_compact (rmO 9 155) [.ref (rsB G)] (rwd G K V c P r md up wl cu hf) n (rsOk (some (.int (-1))) (rwd G K V c P r md up wl (-1) hf) n) := by
  refine rsK_of pf_s_compact rfl (Nat.le_of_ble_eq_true rfl) rfl ?_
  refine rs_aload_n d_s_compact_0 rfl rfl ?_
  refine rx_cV d_s_compact_1 rfl c_s_61 (by exact np_s_requireUp) rw_x (k_reqUp_ok hu) (by decide) ⟨rfl, rfl⟩ (Nat.le_of_ble_eq_true rfl) rfl ?_
  refine rs_aload_n d_s_compact_4 rfl rfl ?_
  refine rx_cV d_s_compact_5 rfl c_s_93 (by exact np_s_leastLevelToCompact) rw_x (k_least_none h0) (by decide) ⟨rfl, rfl⟩ (Nat.le_of_ble_eq_true rfl) rfl ?_
  refine rs_istore_n d_s_compact_8 rfl (by decide) rfl ?_
  refine rs_iload_n d_s_compact_9 rfl rfl ?_
  refine rs_iconst (v := (-1)) d_s_compact_10 rfl (by decide) ?_
  refine rs_icmp_eq (tgt := 20) d_s_compact_11 rfl (by decide) (fun _ => ?_) (fun hc => absurd (rfl) hc)
  refine rs_aload_n d_s_compact_20 rfl rfl ?_
  refine rs_iconst (v := (-1)) d_s_compact_21 rfl (by decide) ?_
  refine rx_put_cu d_s_compact_22 rfl p_s_31 ?_
  refine rs_iload_n d_s_compact_25 rfl rfl ?_
  exact rs_ireturn d_s_compact_26 rfl ⟨rfl, rfl, rfl⟩
set_option maxRecDepth 100000 in
theorem k_compact_ok {G : rsG} {n : Nat} {K V K2 V2 : Nat → Nat → Int32} {c P r c2 P2 r2 : Nat → Nat} {md up wl cu md2 up2 wl2 cu2 : Int32} {hf : rsH} (hu : ¬ up = 0) {lv : Nat} (hl : lv < 3) (h0 : ∀ i, i < lv → r i ≤ 3) (h1 : 3 < r lv) (h2 : r lv ≤ 12) {v : Int32} (hM : rsK G M_s_mergeLevel (rmO 8 133) [.ref (rsB G), .int (nI lv)] (rwd G K V c P r md up wl cu hf) n (rsOk (some (.int v)) (rwd G K2 V2 c2 P2 r2 md2 up2 wl2 cu2 hf) n)) : rsK G M_s_compact (rmO 9 155) [.ref (rsB G)] (rwd G K V c P r md up wl cu hf) n (rsOk (some (.int (nI lv))) (rwd G K2 V2 c2 P2 r2 md2 up2 wl2 (-1) hf) n) := by
  refine rsK_of pf_s_compact rfl (Nat.le_of_ble_eq_true rfl) rfl ?_
  refine rs_aload_n d_s_compact_0 rfl rfl ?_
  refine rx_cV d_s_compact_1 rfl c_s_61 (by exact np_s_requireUp) rw_x (k_reqUp_ok hu) (by decide) ⟨rfl, rfl⟩ (Nat.le_of_ble_eq_true rfl) rfl ?_
  refine rs_aload_n d_s_compact_4 rfl rfl ?_
  refine rx_cV d_s_compact_5 rfl c_s_93 (by exact np_s_leastLevelToCompact) rw_x (k_least_some hl h0 h1 h2) (by decide) ⟨rfl, rfl⟩ (Nat.le_of_ble_eq_true rfl) rfl ?_
  refine rs_istore_n d_s_compact_8 rfl (by decide) rfl ?_
  refine rs_iload_n d_s_compact_9 rfl rfl ?_
  refine rs_iconst (v := (-1)) d_s_compact_10 rfl (by decide) ?_
  refine rs_icmp_eq (tgt := 20) d_s_compact_11 rfl (by decide) (fun hc => absurd hc (rp_ne1 (by omega))) (fun _ => ?_)
  refine rs_aload_n d_s_compact_14 rfl rfl ?_
  refine rs_iload_n d_s_compact_15 rfl rfl ?_
  refine rx_cV d_s_compact_16 rfl c_s_96 (by exact np_s_mergeLevel) rw_x (hM) (by decide) ⟨rfl, rfl⟩ (Nat.le_of_ble_eq_true rfl) rfl ?_
  refine rs_pop d_s_compact_19 rfl rfl ?_
  refine rs_aload_n d_s_compact_20 rfl rfl ?_
  refine rs_iconst (v := (-1)) d_s_compact_21 rfl (by decide) ?_
  refine rx_put_cu d_s_compact_22 rfl p_s_31 ?_
  refine rs_iload_n d_s_compact_25 rfl rfl ?_
  exact rs_ireturn d_s_compact_26 rfl ⟨rfl, rfl, rfl⟩
set_option maxRecDepth 100000 in
theorem k_compact_th {G : rsG} {n : Nat} {K V : Nat → Nat → Int32} {c P r : Nat → Nat} {md up wl cu : Int32} {hf : rsH} (hu : ¬ up = 0) {lv : Nat} (hl : lv < 3) (h0 : ∀ i, i < lv → r i ≤ 3) (h1 : 3 < r lv) (h2 : r lv ≤ 12) {k : Nat} {h' : rsH} {n' : Nat} (hM : rsK G M_s_mergeLevel (rmT 8 133) [.ref (rsB G), .int (nI lv)] (rwd G K V c P r md up wl cu hf) n (rsTh k h' n')) : rsK G M_s_compact (rmT 9 155) [.ref (rsB G)] (rwd G K V c P r md up wl cu hf) n (rsTh k h' n') := by
  refine rsK_of pf_s_compact rfl (Nat.le_of_ble_eq_true rfl) rfl ?_
  refine rs_aload_n d_s_compact_0 rfl rfl ?_
  refine rx_cV d_s_compact_1 rfl c_s_61 (by exact np_s_requireUp) rw_x (k_reqUp_ok hu) (by decide) ⟨rfl, rfl⟩ (Nat.le_of_ble_eq_true rfl) rfl ?_
  refine rs_aload_n d_s_compact_4 rfl rfl ?_
  refine rx_cV d_s_compact_5 rfl c_s_93 (by exact np_s_leastLevelToCompact) rw_x (k_least_some hl h0 h1 h2) (by decide) ⟨rfl, rfl⟩ (Nat.le_of_ble_eq_true rfl) rfl ?_
  refine rs_istore_n d_s_compact_8 rfl (by decide) rfl ?_
  refine rs_iload_n d_s_compact_9 rfl rfl ?_
  refine rs_iconst (v := (-1)) d_s_compact_10 rfl (by decide) ?_
  refine rs_icmp_eq (tgt := 20) d_s_compact_11 rfl (by decide) (fun hc => absurd hc (rp_ne1 (by omega))) (fun _ => ?_)
  refine rs_aload_n d_s_compact_14 rfl rfl ?_
  refine rs_iload_n d_s_compact_15 rfl rfl ?_
  exact rx_tV d_s_compact_16 c_s_96 (by exact np_s_mergeLevel) rw_x (hM) (by decide) (by decide) (Nat.le_of_ble_eq_true rfl) rfl rfl ⟨rfl, rfl, rfl⟩
set_option maxRecDepth 100000 in
theorem k_merge_bad {G : rsG} {n : Nat} {K V : Nat → Nat → Int32} {c P r : Nat → Nat} {md up wl cu : Int32} {hf : rsH} {x : Int32} (hx : x < 0 ∨ 3 ≤ x) : rsK G M_s_merge (rmT 9 155) [.ref (rsB G), .int x] (rwd G K V c P r md up wl cu hf) n (rsTh 0 (rwd G K V c P r md up wl cu hf) (n + 1)) := by
  refine rsK_of pf_s_merge rfl (Nat.le_of_ble_eq_true rfl) rfl ?_
  refine rs_iload_n d_s_merge_0 rfl rfl ?_
  exact rx_tS d_s_merge_1 c_s_99 (by exact np_s_requireLevel) (k_reqLevel_no hx) (by decide) (by decide) (Nat.le_of_ble_eq_true rfl) rfl rfl ⟨rfl, rfl, rfl⟩
set_option maxRecDepth 100000 in
theorem k_merge_down {G : rsG} {n : Nat} {K V : Nat → Nat → Int32} {c P r : Nat → Nat} {md up wl cu : Int32} {hf : rsH} {lv : Nat} (hl : lv < 3) (h : up = 0) : rsK G M_s_merge (rmT 9 155) [.ref (rsB G), .int (nI lv)] (rwd G K V c P r md up wl cu hf) n (rsTh 1 (rwd G K V c P r md up wl cu hf) (n + 1)) := by
  refine rsK_of pf_s_merge rfl (Nat.le_of_ble_eq_true rfl) rfl ?_
  refine rs_iload_n d_s_merge_0 rfl rfl ?_
  refine rx_cS d_s_merge_1 rfl c_s_99 (by exact np_s_requireLevel) (k_reqLevel_ok hl) (by decide) ⟨rfl, rfl⟩ (Nat.le_of_ble_eq_true rfl) rfl ?_
  refine rs_aload_n d_s_merge_4 rfl rfl ?_
  exact rx_tV d_s_merge_5 c_s_61 (by exact np_s_requireUp) rw_x (k_reqUp_no h) (by decide) (by decide) (Nat.le_of_ble_eq_true rfl) rfl rfl ⟨rfl, rfl, rfl⟩
set_option maxRecDepth 100000 in
theorem k_merge_ok {G : rsG} {n : Nat} {K V K2 V2 : Nat → Nat → Int32} {c P r c2 P2 r2 : Nat → Nat} {md up wl cu md2 up2 wl2 cu2 : Int32} {hf : rsH} {lv : Nat} (hl : lv < 3) (hu : ¬ up = 0) {v : Int32} (hM : rsK G M_s_mergeLevel (rmO 8 133) [.ref (rsB G), .int (nI lv)] (rwd G K V c P r md up wl cu hf) n (rsOk (some (.int v)) (rwd G K2 V2 c2 P2 r2 md2 up2 wl2 cu2 hf) n)) : rsK G M_s_merge (rmO 9 155) [.ref (rsB G), .int (nI lv)] (rwd G K V c P r md up wl cu hf) n (rsOk (some (.int v)) (rwd G K2 V2 c2 P2 r2 md2 up2 wl2 (-1) hf) n) := by
  refine rsK_of pf_s_merge rfl (Nat.le_of_ble_eq_true rfl) rfl ?_
  refine rs_iload_n d_s_merge_0 rfl rfl ?_
  refine rx_cS d_s_merge_1 rfl c_s_99 (by exact np_s_requireLevel) (k_reqLevel_ok hl) (by decide) ⟨rfl, rfl⟩ (Nat.le_of_ble_eq_true rfl) rfl ?_
  refine rs_aload_n d_s_merge_4 rfl rfl ?_
  refine rx_cV d_s_merge_5 rfl c_s_61 (by exact np_s_requireUp) rw_x (k_reqUp_ok hu) (by decide) ⟨rfl, rfl⟩ (Nat.le_of_ble_eq_true rfl) rfl ?_
  refine rs_aload_n d_s_merge_8 rfl rfl ?_
  refine rs_iload_n d_s_merge_9 rfl rfl ?_
  refine rx_cV d_s_merge_10 rfl c_s_96 (by exact np_s_mergeLevel) rw_x (hM) (by decide) ⟨rfl, rfl⟩ (Nat.le_of_ble_eq_true rfl) rfl ?_
  refine rs_istore_n d_s_merge_13 rfl (by decide) rfl ?_
  refine rs_aload_n d_s_merge_14 rfl rfl ?_
  refine rs_iconst (v := (-1)) d_s_merge_15 rfl (by decide) ?_
  refine rx_put_cu d_s_merge_16 rfl p_s_31 ?_
  refine rs_iload_n d_s_merge_19 rfl rfl ?_
  exact rs_ireturn d_s_merge_20 rfl ⟨rfl, rfl, rfl⟩
set_option maxRecDepth 100000 in
theorem k_merge_th {G : rsG} {n : Nat} {K V : Nat → Nat → Int32} {c P r : Nat → Nat} {md up wl cu : Int32} {hf : rsH} {lv : Nat} (hl : lv < 3) (hu : ¬ up = 0) {k : Nat} {h' : rsH} {n' : Nat} (hM : rsK G M_s_mergeLevel (rmT 8 133) [.ref (rsB G), .int (nI lv)] (rwd G K V c P r md up wl cu hf) n (rsTh k h' n')) : rsK G M_s_merge (rmT 9 155) [.ref (rsB G), .int (nI lv)] (rwd G K V c P r md up wl cu hf) n (rsTh k h' n') := by
  refine rsK_of pf_s_merge rfl (Nat.le_of_ble_eq_true rfl) rfl ?_
  refine rs_iload_n d_s_merge_0 rfl rfl ?_
  refine rx_cS d_s_merge_1 rfl c_s_99 (by exact np_s_requireLevel) (k_reqLevel_ok hl) (by decide) ⟨rfl, rfl⟩ (Nat.le_of_ble_eq_true rfl) rfl ?_
  refine rs_aload_n d_s_merge_4 rfl rfl ?_
  refine rx_cV d_s_merge_5 rfl c_s_61 (by exact np_s_requireUp) rw_x (k_reqUp_ok hu) (by decide) ⟨rfl, rfl⟩ (Nat.le_of_ble_eq_true rfl) rfl ?_
  refine rs_aload_n d_s_merge_8 rfl rfl ?_
  refine rs_iload_n d_s_merge_9 rfl rfl ?_
  exact rx_tV d_s_merge_10 c_s_96 (by exact np_s_mergeLevel) rw_x (hM) (by decide) (by decide) (Nat.le_of_ble_eq_true rfl) rfl rfl ⟨rfl, rfl, rfl⟩
set_option maxRecDepth 100000 in
theorem k_limit_bad {G : rsG} {n : Nat} {K V : Nat → Nat → Int32} {c P r : Nat → Nat} {md up wl cu : Int32} {hf : rsH} {x : Int32} (hx : x < -1 ∨ ¬ x ≤ 1000) : rsK G M_s_limit (rmT 7 110) [.ref (rsB G), .int x] (rwd G K V c P r md up wl cu hf) n (rsTh 0 (rwd G K V c P r md up wl cu hf) (n + 1)) := by
  refine rsK_of pf_s_limit rfl (Nat.le_of_ble_eq_true rfl) rfl ?_
  refine rs_iload_n d_s_limit_0 rfl rfl ?_
  refine rs_iconst (v := (-1)) d_s_limit_1 rfl (by decide) ?_
  by_cases h0 : x < -1
  · refine rs_icmp_lt (tgt := 12) d_s_limit_2 rfl (by decide) (fun _ => ?_) (fun hc => absurd (h0) hc)
    exact rs_throw (k := 0) (tx := "a limit is -1 .. 1000") d_s_limit_12 d_s_limit_15 d_s_limit_16 d_s_limit_18 d_s_limit_21 (by decide) n_s_102 t_ins0 t_ini0 x_s_106 (by decide) rfl (Nat.le_of_ble_eq_true rfl) (by decide) (by decide) (by decide) (by decide) ⟨rfl, rfl, rfl⟩
  · refine rs_icmp_lt (tgt := 12) d_s_limit_2 rfl (by decide) (fun hc => absurd hc (h0)) (fun _ => ?_)
    refine rs_iload_n d_s_limit_5 rfl rfl ?_
    refine rs_sipush (v := 1000) d_s_limit_6 rfl (by decide) ?_
    refine rs_icmp_le (tgt := 22) d_s_limit_9 rfl (by decide) (fun hc => absurd hc (hx.resolve_left h0)) (fun _ => ?_)
    exact rs_throw (k := 0) (tx := "a limit is -1 .. 1000") d_s_limit_12 d_s_limit_15 d_s_limit_16 d_s_limit_18 d_s_limit_21 (by decide) n_s_102 t_ins0 t_ini0 x_s_106 (by decide) rfl (Nat.le_of_ble_eq_true rfl) (by decide) (by decide) (by decide) (by decide) ⟨rfl, rfl, rfl⟩
set_option maxRecDepth 100000 in
theorem k_limit_nodisk {G : rsG} {n : Nat} {K V : Nat → Nat → Int32} {c P r : Nat → Nat} {md up wl cu : Int32} {hf : rsH} {x : Int32} (hx1 : ¬ x < -1) (hx2 : x ≤ 1000) (hb : narrow .boolean (.int md) = .int md) (h : md = 0) : rsK G M_s_limit (rmT 7 110) [.ref (rsB G), .int x] (rwd G K V c P r md up wl cu hf) n (rsTh 1 (rwd G K V c P r md up wl cu hf) (n + 1)) := by
  refine rsK_of pf_s_limit rfl (Nat.le_of_ble_eq_true rfl) rfl ?_
  refine rs_iload_n d_s_limit_0 rfl rfl ?_
  refine rs_iconst (v := (-1)) d_s_limit_1 rfl (by decide) ?_
  refine rs_icmp_lt (tgt := 12) d_s_limit_2 rfl (by decide) (fun hc => absurd hc (hx1)) (fun _ => ?_)
  refine rs_iload_n d_s_limit_5 rfl rfl ?_
  refine rs_sipush (v := 1000) d_s_limit_6 rfl (by decide) ?_
  refine rs_icmp_le (tgt := 22) d_s_limit_9 rfl (by decide) (fun _ => ?_) (fun hc => absurd (hx2) hc)
  refine rs_aload_n d_s_limit_22 rfl rfl ?_
  exact rx_tV d_s_limit_23 c_s_51 (by exact np_s_requireDisk) rw_x (k_reqDisk_no hb h) (by decide) (by decide) (Nat.le_of_ble_eq_true rfl) rfl rfl ⟨rfl, rfl, rfl⟩
set_option maxRecDepth 100000 in
theorem k_limit_ok {G : rsG} {n : Nat} {K V : Nat → Nat → Int32} {c P r : Nat → Nat} {md up wl cu : Int32} {hf : rsH} {x : Int32} (hx1 : ¬ x < -1) (hx2 : x ≤ 1000) (hb : narrow .boolean (.int md) = .int md) (h : ¬ md = 0) : rsK G M_s_limit (rmO 7 110) [.ref (rsB G), .int x] (rwd G K V c P r md up wl cu hf) n (rsOk (none) (rwd G K V c P r md up x cu hf) n) := by
  refine rsK_of pf_s_limit rfl (Nat.le_of_ble_eq_true rfl) rfl ?_
  refine rs_iload_n d_s_limit_0 rfl rfl ?_
  refine rs_iconst (v := (-1)) d_s_limit_1 rfl (by decide) ?_
  refine rs_icmp_lt (tgt := 12) d_s_limit_2 rfl (by decide) (fun hc => absurd hc (hx1)) (fun _ => ?_)
  refine rs_iload_n d_s_limit_5 rfl rfl ?_
  refine rs_sipush (v := 1000) d_s_limit_6 rfl (by decide) ?_
  refine rs_icmp_le (tgt := 22) d_s_limit_9 rfl (by decide) (fun _ => ?_) (fun hc => absurd (hx2) hc)
  refine rs_aload_n d_s_limit_22 rfl rfl ?_
  refine rx_cV d_s_limit_23 rfl c_s_51 (by exact np_s_requireDisk) rw_x (k_reqDisk_ok hb h) (by decide) ⟨rfl, rfl⟩ (Nat.le_of_ble_eq_true rfl) rfl ?_
  refine rs_aload_n d_s_limit_26 rfl rfl ?_
  refine rs_iload_n d_s_limit_27 rfl rfl ?_
  refine rx_put_wl d_s_limit_28 rfl p_s_27 ?_
  exact rs_vreturn d_s_limit_31 rfl ⟨rfl, rfl, rfl⟩
set_option maxRecDepth 100000 in
theorem k_seek_bad {G : rsG} {n : Nat} {K V : Nat → Nat → Int32} {c P r : Nat → Nat} {md up wl cu : Int32} {hf : rsH} {x : Int32} (hx : x < 0 ∨ ¬ x < 100) : rsK G M_s_seek (rmT 7 131) [.ref (rsB G), .int x] (rwd G K V c P r md up wl cu hf) n (rsTh 0 (rwd G K V c P r md up wl cu hf) (n + 1)) := by
  refine rsK_of pf_s_seek rfl (Nat.le_of_ble_eq_true rfl) rfl ?_
  refine rs_iload_n d_s_seek_0 rfl rfl ?_
  exact rx_tS d_s_seek_1 c_s_58 (by exact np_s_requireKey) (k_reqKey_no hx) (by decide) (by decide) (Nat.le_of_ble_eq_true rfl) rfl rfl ⟨rfl, rfl, rfl⟩
set_option maxRecDepth 100000 in
theorem k_seek_down {G : rsG} {n : Nat} {K V : Nat → Nat → Int32} {c P r : Nat → Nat} {md up wl cu : Int32} {hf : rsH} {key : Nat} (hk : key < 100) (h : up = 0) : rsK G M_s_seek (rmT 7 131) [.ref (rsB G), .int (nI key)] (rwd G K V c P r md up wl cu hf) n (rsTh 1 (rwd G K V c P r md up wl cu hf) (n + 1)) := by
  refine rsK_of pf_s_seek rfl (Nat.le_of_ble_eq_true rfl) rfl ?_
  refine rs_iload_n d_s_seek_0 rfl rfl ?_
  refine rx_cS d_s_seek_1 rfl c_s_58 (by exact np_s_requireKey) (k_reqKey_ok hk) (by decide) ⟨rfl, rfl⟩ (Nat.le_of_ble_eq_true rfl) rfl ?_
  refine rs_aload_n d_s_seek_4 rfl rfl ?_
  exact rx_tV d_s_seek_5 c_s_61 (by exact np_s_requireUp) rw_x (k_reqUp_no h) (by decide) (by decide) (Nat.le_of_ble_eq_true rfl) rfl rfl ⟨rfl, rfl, rfl⟩
set_option maxRecDepth 100000 in
theorem k_seek_none {G : rsG} {n : Nat} {K V : Nat → Nat → Int32} {c P r : Nat → Nat} {md up wl cu : Int32} {hf : rsH} (hs : rp_sum r 3 ≤ 12) (hP : ∀ i, i < 13 → P i ≤ 12) {key : Nat} (hk : key < 100) (hu : ¬ up = 0) (h0 : ∀ i, key ≤ i → i < 100 → rp_th K P (rp_sum r 3) i = 0) : rsK G M_s_seek (rmO 7 131) [.ref (rsB G), .int (nI key)] (rwd G K V c P r md up wl cu hf) n (rsOk (some (.int 0)) (rwd G K V c P r md up wl (-1) hf) n) := by
  refine rsK_of pf_s_seek rfl (Nat.le_of_ble_eq_true rfl) rfl ?_
  refine rs_iload_n d_s_seek_0 rfl rfl ?_
  refine rx_cS d_s_seek_1 rfl c_s_58 (by exact np_s_requireKey) (k_reqKey_ok hk) (by decide) ⟨rfl, rfl⟩ (Nat.le_of_ble_eq_true rfl) rfl ?_
  refine rs_aload_n d_s_seek_4 rfl rfl ?_
  refine rx_cV d_s_seek_5 rfl c_s_61 (by exact np_s_requireUp) rw_x (k_reqUp_ok hu) (by decide) ⟨rfl, rfl⟩ (Nat.le_of_ble_eq_true rfl) rfl ?_
  refine rs_aload_n d_s_seek_8 rfl rfl ?_
  refine rs_aload_n d_s_seek_9 rfl rfl ?_
  refine rs_iload_n d_s_seek_10 rfl rfl ?_
  refine rx_cV d_s_seek_11 rfl c_s_107 (by exact np_s_leastKeyThere) rw_x (k_leastKey_none hs hP (by omega) h0) (by decide) ⟨rfl, rfl⟩ (Nat.le_of_ble_eq_true rfl) rfl ?_
  refine rx_put_cu d_s_seek_14 rfl p_s_31 ?_
  refine rs_aload_n d_s_seek_17 rfl rfl ?_
  refine rx_get_cu d_s_seek_18 rfl f_s_31 ?_
  refine rs_iconst (v := (-1)) d_s_seek_21 rfl (by decide) ?_
  refine rs_icmp_eq (tgt := 29) d_s_seek_22 rfl (by decide) (fun _ => ?_) (fun hc => absurd (rfl) hc)
  refine rs_iconst (v := 0) d_s_seek_29 rfl (by decide) ?_
  exact rs_zreturn d_s_seek_30 rfl rfl ⟨rfl, rfl, rfl⟩
set_option maxRecDepth 100000 in
theorem k_seek_some {G : rsG} {n : Nat} {K V : Nat → Nat → Int32} {c P r : Nat → Nat} {md up wl cu : Int32} {hf : rsH} (hs : rp_sum r 3 ≤ 12) (hP : ∀ i, i < 13 → P i ≤ 12) {key : Nat} (hk : key < 100) (hu : ¬ up = 0) {x : Nat} (hfr : key ≤ x) (hx : x < 100) (h0 : ∀ i, key ≤ i → i < x → rp_th K P (rp_sum r 3) i = 0) (h1 : rp_th K P (rp_sum r 3) x = 1) : rsK G M_s_seek (rmO 7 131) [.ref (rsB G), .int (nI key)] (rwd G K V c P r md up wl cu hf) n (rsOk (some (.int 1)) (rwd G K V c P r md up wl (nI x) hf) n) := by
  refine rsK_of pf_s_seek rfl (Nat.le_of_ble_eq_true rfl) rfl ?_
  refine rs_iload_n d_s_seek_0 rfl rfl ?_
  refine rx_cS d_s_seek_1 rfl c_s_58 (by exact np_s_requireKey) (k_reqKey_ok hk) (by decide) ⟨rfl, rfl⟩ (Nat.le_of_ble_eq_true rfl) rfl ?_
  refine rs_aload_n d_s_seek_4 rfl rfl ?_
  refine rx_cV d_s_seek_5 rfl c_s_61 (by exact np_s_requireUp) rw_x (k_reqUp_ok hu) (by decide) ⟨rfl, rfl⟩ (Nat.le_of_ble_eq_true rfl) rfl ?_
  refine rs_aload_n d_s_seek_8 rfl rfl ?_
  refine rs_aload_n d_s_seek_9 rfl rfl ?_
  refine rs_iload_n d_s_seek_10 rfl rfl ?_
  refine rx_cV d_s_seek_11 rfl c_s_107 (by exact np_s_leastKeyThere) rw_x (k_leastKey_some hs hP hfr hx h0 h1) (by decide) ⟨rfl, rfl⟩ (Nat.le_of_ble_eq_true rfl) rfl ?_
  refine rx_put_cu d_s_seek_14 rfl p_s_31 ?_
  refine rs_aload_n d_s_seek_17 rfl rfl ?_
  refine rx_get_cu d_s_seek_18 rfl f_s_31 ?_
  refine rs_iconst (v := (-1)) d_s_seek_21 rfl (by decide) ?_
  refine rs_icmp_eq (tgt := 29) d_s_seek_22 rfl (by decide) (fun hc => absurd hc (rp_ne1 (by omega))) (fun _ => ?_)
  refine rs_iconst (v := 1) d_s_seek_25 rfl (by decide) ?_
  refine rs_goto (tgt := 30) d_s_seek_26 (by decide) ?_
  exact rs_zreturn d_s_seek_30 rfl rfl ⟨rfl, rfl, rfl⟩
set_option maxRecDepth 100000 in
theorem k_next_down {G : rsG} {n : Nat} {K V : Nat → Nat → Int32} {c P r : Nat → Nat} {md up wl cu : Int32} {hf : rsH} (h : up = 0) : rsK G M_s_next (rmT 7 131) [.ref (rsB G)] (rwd G K V c P r md up wl cu hf) n (rsTh 1 (rwd G K V c P r md up wl cu hf) (n + 1)) := by
  refine rsK_of pf_s_next rfl (Nat.le_of_ble_eq_true rfl) rfl ?_
  refine rs_aload_n d_s_next_0 rfl rfl ?_
  exact rx_tV d_s_next_1 c_s_61 (by exact np_s_requireUp) rw_x (k_reqUp_no h) (by decide) (by decide) (Nat.le_of_ble_eq_true rfl) rfl rfl ⟨rfl, rfl, rfl⟩
set_option maxRecDepth 100000 in
theorem k_next_nocursor {G : rsG} {n : Nat} {K V : Nat → Nat → Int32} {c P r : Nat → Nat} {md up wl cu : Int32} {hf : rsH} (hu : ¬ up = 0) (h : cu = -1) : rsK G M_s_next (rmT 7 131) [.ref (rsB G)] (rwd G K V c P r md up wl cu hf) n (rsTh 1 (rwd G K V c P r md up wl cu hf) (n + 1)) := by
  refine rsK_of pf_s_next rfl (Nat.le_of_ble_eq_true rfl) rfl ?_
  refine rs_aload_n d_s_next_0 rfl rfl ?_
  refine rx_cV d_s_next_1 rfl c_s_61 (by exact np_s_requireUp) rw_x (k_reqUp_ok hu) (by decide) ⟨rfl, rfl⟩ (Nat.le_of_ble_eq_true rfl) rfl ?_
  refine rs_aload_n d_s_next_4 rfl rfl ?_
  refine rx_get_cu d_s_next_5 rfl f_s_31 ?_
  refine rs_iconst (v := (-1)) d_s_next_8 rfl (by decide) ?_
  refine rs_icmp_ne (tgt := 22) d_s_next_9 rfl (by decide) (fun hc => absurd (h) hc) (fun _ => ?_)
  exact rs_throw (k := 1) (tx := "there is no cursor") d_s_next_12 d_s_next_15 d_s_next_16 d_s_next_18 d_s_next_21 (by decide) n_s_44 t_ins1 t_ini1 x_s_48 (by decide) rfl (Nat.le_of_ble_eq_true rfl) (by decide) (by decide) (by decide) (by decide) ⟨rfl, rfl, rfl⟩
set_option maxRecDepth 100000 in
theorem k_next_none {G : rsG} {n : Nat} {K V : Nat → Nat → Int32} {c P r : Nat → Nat} {md up wl cu : Int32} {hf : rsH} (hs : rp_sum r 3 ≤ 12) (hP : ∀ i, i < 13 → P i ≤ 12) (hu : ¬ up = 0) {key : Nat} (hk : key < 100) (hcu : cu = nI key) (h0 : ∀ i, key + 1 ≤ i → i < 100 → rp_th K P (rp_sum r 3) i = 0) : rsK G M_s_next (rmO 7 131) [.ref (rsB G)] (rwd G K V c P r md up wl cu hf) n (rsOk (some (.int 0)) (rwd G K V c P r md up wl (-1) hf) n) := by
  refine rsK_of pf_s_next rfl (Nat.le_of_ble_eq_true rfl) rfl ?_
  subst hcu
  refine rs_aload_n d_s_next_0 rfl rfl ?_
  refine rx_cV d_s_next_1 rfl c_s_61 (by exact np_s_requireUp) rw_x (k_reqUp_ok hu) (by decide) ⟨rfl, rfl⟩ (Nat.le_of_ble_eq_true rfl) rfl ?_
  refine rs_aload_n d_s_next_4 rfl rfl ?_
  refine rx_get_cu d_s_next_5 rfl f_s_31 ?_
  refine rs_iconst (v := (-1)) d_s_next_8 rfl (by decide) ?_
  refine rs_icmp_ne (tgt := 22) d_s_next_9 rfl (by decide) (fun _ => ?_) (fun hc => absurd hc (rp_ne1 (by omega)))
  refine rs_aload_n d_s_next_22 rfl rfl ?_
  refine rs_aload_n d_s_next_23 rfl rfl ?_
  refine rs_aload_n d_s_next_24 rfl rfl ?_
  refine rx_get_cu d_s_next_25 rfl f_s_31 ?_
  refine rs_iconst (v := (nI 1)) d_s_next_28 rfl (by decide) ?_
  refine rs_iadd d_s_next_29 rfl ?_
  refine rs_tope (nI_add _ _) ?_
  refine rx_cV d_s_next_30 rfl c_s_107 (by exact np_s_leastKeyThere) rw_x (k_leastKey_none hs hP (by omega) h0) (by decide) ⟨rfl, rfl⟩ (Nat.le_of_ble_eq_true rfl) rfl ?_
  refine rx_put_cu d_s_next_33 rfl p_s_31 ?_
  refine rs_aload_n d_s_next_36 rfl rfl ?_
  refine rx_get_cu d_s_next_37 rfl f_s_31 ?_
  refine rs_iconst (v := (-1)) d_s_next_40 rfl (by decide) ?_
  refine rs_icmp_eq (tgt := 48) d_s_next_41 rfl (by decide) (fun _ => ?_) (fun hc => absurd (rfl) hc)
  refine rs_iconst (v := 0) d_s_next_48 rfl (by decide) ?_
  exact rs_zreturn d_s_next_49 rfl rfl ⟨rfl, rfl, rfl⟩
set_option maxRecDepth 100000 in
theorem k_next_some {G : rsG} {n : Nat} {K V : Nat → Nat → Int32} {c P r : Nat → Nat} {md up wl cu : Int32} {hf : rsH} (hs : rp_sum r 3 ≤ 12) (hP : ∀ i, i < 13 → P i ≤ 12) (hu : ¬ up = 0) {key : Nat} (hk : key < 100) (hcu : cu = nI key) {x : Nat} (hfr : key + 1 ≤ x) (hx : x < 100) (h0 : ∀ i, key + 1 ≤ i → i < x → rp_th K P (rp_sum r 3) i = 0) (h1 : rp_th K P (rp_sum r 3) x = 1) : rsK G M_s_next (rmO 7 131) [.ref (rsB G)] (rwd G K V c P r md up wl cu hf) n (rsOk (some (.int 1)) (rwd G K V c P r md up wl (nI x) hf) n) := by
  refine rsK_of pf_s_next rfl (Nat.le_of_ble_eq_true rfl) rfl ?_
  subst hcu
  refine rs_aload_n d_s_next_0 rfl rfl ?_
  refine rx_cV d_s_next_1 rfl c_s_61 (by exact np_s_requireUp) rw_x (k_reqUp_ok hu) (by decide) ⟨rfl, rfl⟩ (Nat.le_of_ble_eq_true rfl) rfl ?_
  refine rs_aload_n d_s_next_4 rfl rfl ?_
  refine rx_get_cu d_s_next_5 rfl f_s_31 ?_
  refine rs_iconst (v := (-1)) d_s_next_8 rfl (by decide) ?_
  refine rs_icmp_ne (tgt := 22) d_s_next_9 rfl (by decide) (fun _ => ?_) (fun hc => absurd hc (rp_ne1 (by omega)))
  refine rs_aload_n d_s_next_22 rfl rfl ?_
  refine rs_aload_n d_s_next_23 rfl rfl ?_
  refine rs_aload_n d_s_next_24 rfl rfl ?_
  refine rx_get_cu d_s_next_25 rfl f_s_31 ?_
  refine rs_iconst (v := (nI 1)) d_s_next_28 rfl (by decide) ?_
  refine rs_iadd d_s_next_29 rfl ?_
  refine rs_tope (nI_add _ _) ?_
  refine rx_cV d_s_next_30 rfl c_s_107 (by exact np_s_leastKeyThere) rw_x (k_leastKey_some hs hP hfr hx h0 h1) (by decide) ⟨rfl, rfl⟩ (Nat.le_of_ble_eq_true rfl) rfl ?_
  refine rx_put_cu d_s_next_33 rfl p_s_31 ?_
  refine rs_aload_n d_s_next_36 rfl rfl ?_
  refine rx_get_cu d_s_next_37 rfl f_s_31 ?_
  refine rs_iconst (v := (-1)) d_s_next_40 rfl (by decide) ?_
  refine rs_icmp_eq (tgt := 48) d_s_next_41 rfl (by decide) (fun hc => absurd hc (rp_ne1 (by omega))) (fun _ => ?_)
  refine rs_iconst (v := 1) d_s_next_44 rfl (by decide) ?_
  refine rs_goto (tgt := 49) d_s_next_45 (by decide) ?_
  exact rs_zreturn d_s_next_49 rfl rfl ⟨rfl, rfl, rfl⟩
set_option maxRecDepth 100000 in
theorem k_size_down {G : rsG} {n : Nat} {K V : Nat → Nat → Int32} {c P r : Nat → Nat} {md up wl cu : Int32} {hf : rsH} (h : up = 0) : rsK G M_s_size (rmT 7 110) [.ref (rsB G)] (rwd G K V c P r md up wl cu hf) n (rsTh 1 (rwd G K V c P r md up wl cu hf) (n + 1)) := by
  refine rsK_of pf_s_size rfl (Nat.le_of_ble_eq_true rfl) rfl ?_
  refine rs_aload_n d_s_size_0 rfl rfl ?_
  exact rx_tV d_s_size_1 c_s_61 (by exact np_s_requireUp) rw_x (k_reqUp_no h) (by decide) (by decide) (Nat.le_of_ble_eq_true rfl) rfl rfl ⟨rfl, rfl, rfl⟩
set_option maxRecDepth 100000 in
theorem k_size_ok {G : rsG} {n : Nat} {K V : Nat → Nat → Int32} {c P r : Nat → Nat} {md up wl cu : Int32} {hf : rsH} (hs : rp_sum r 3 ≤ 12) (hP : ∀ i, i < 13 → P i ≤ 12) (hu : ¬ up = 0) : rsK G M_s_size (rmO 7 110) [.ref (rsB G)] (rwd G K V c P r md up wl cu hf) n (rsOk (some (.int (nI (rp_cnt (fun q => decide (rp_th K P (rp_sum r 3) q = 1)) 100)))) (rwd G K V c P r md up wl cu hf) n) := by
  have loop : ∀ (d i : Nat), i + d = 100 → rsV G M_s_size (rmO 7 110) (rsOk (some (.int (nI (rp_cnt (fun q => decide (rp_th K P (rp_sum r 3) q = 1)) 100)))) (rwd G K V c P r md up wl cu hf) n) 0 0 8 [some (.ref (rsB G)), some (.int (nI (rp_cnt (fun q => decide (rp_th K P (rp_sum r 3) q = 1)) i))), some (.int (nI i))] [] (rwd G K V c P r md up wl cu hf) n := by
    intro d
    induction d with
    | zero =>
      intro i hi
      obtain rfl : i = 100 := by omega
      refine rs_iload_n d_s_size_8 rfl rfl ?_
      refine rs_bipush (v := (nI 100)) d_s_size_9 rfl (by decide) ?_
      refine rs_icmp_ge (tgt := 31) d_s_size_11 rfl (by decide) (fun _ => ?_) (fun hc => absurd (nI_le (by omega) (by omega)) hc)
      refine rs_iload_n d_s_size_31 rfl rfl ?_
      exact rs_ireturn d_s_size_32 rfl ⟨rfl, rfl, rfl⟩
    | succ d ih =>
      intro i hi
      have hi100 : i < 100 := by omega
      refine rs_iload_n d_s_size_8 rfl rfl ?_
      refine rs_bipush (v := (nI 100)) d_s_size_9 rfl (by decide) ?_
      refine rs_icmp_ge (tgt := 31) d_s_size_11 rfl (by decide) (fun hc => absurd hc (nI_ge (by omega) (by omega))) (fun _ => ?_)
      refine rs_aload_n d_s_size_14 rfl rfl ?_
      refine rs_iload_n d_s_size_15 rfl rfl ?_
      refine rx_cV d_s_size_16 rfl c_s_74 (by exact np_s_isThere) rw_x (k_isThere hs hP hi100) (by decide) ⟨rfl, rfl⟩ (Nat.le_of_ble_eq_true rfl) rfl ?_
      rcases rp_th01 K P (rp_sum r 3) i with h1 | h1
      · rw [h1]
        refine rs_if_eq (tgt := 25) d_s_size_19 rfl (by decide) (fun _ => ?_) (fun hc => absurd (rfl) hc)
        refine rs_iinc d_s_size_25 rfl (by decide) rfl (rs_inc1 i) rfl ?_
        refine rs_goto (tgt := 8) d_s_size_28 (by decide) ?_
        have e1 : (rp_cnt (fun q => decide (rp_th K P (rp_sum r 3) q = 1)) (i + 1)) = (rp_cnt (fun q => decide (rp_th K P (rp_sum r 3) q = 1)) i) := by
          show (rp_cnt (fun q => decide (rp_th K P (rp_sum r 3) q = 1)) i) + _ = _
          simp [h1]
        have := ih (i + 1) (by omega)
        rw [e1] at this
        exact this
      · rw [h1]
        refine rs_if_eq (tgt := 25) d_s_size_19 rfl (by decide) (fun hc => absurd hc (by decide)) (fun _ => ?_)
        refine rs_iinc d_s_size_22 rfl (by decide) rfl (rs_inc1 _) rfl ?_
        refine rs_iinc d_s_size_25 rfl (by decide) rfl (rs_inc1 i) rfl ?_
        refine rs_goto (tgt := 8) d_s_size_28 (by decide) ?_
        have e1 : (rp_cnt (fun q => decide (rp_th K P (rp_sum r 3) q = 1)) (i + 1)) = (rp_cnt (fun q => decide (rp_th K P (rp_sum r 3) q = 1)) i) + 1 := by
          show (rp_cnt (fun q => decide (rp_th K P (rp_sum r 3) q = 1)) i) + _ = _
          simp [h1]
        have := ih (i + 1) (by omega)
        rw [e1] at this
        exact this
  refine rsK_of pf_s_size rfl (Nat.le_of_ble_eq_true rfl) rfl ?_
  refine rs_aload_n d_s_size_0 rfl rfl ?_
  refine rx_cV d_s_size_1 rfl c_s_61 (by exact np_s_requireUp) rw_x (k_reqUp_ok hu) (by decide) ⟨rfl, rfl⟩ (Nat.le_of_ble_eq_true rfl) rfl ?_
  refine rs_iconst (v := (nI 0)) d_s_size_4 rfl (by decide) ?_
  refine rs_istore_n d_s_size_5 rfl (by decide) rfl ?_
  refine rs_iconst (v := (nI 0)) d_s_size_6 rfl (by decide) ?_
  refine rs_istore_n d_s_size_7 rfl (by decide) rfl ?_
  exact loop 100 0 (by omega)
set_option maxRecDepth 100000 in
theorem k_runs_bad {G : rsG} {n : Nat} {K V : Nat → Nat → Int32} {c P r : Nat → Nat} {md up wl cu : Int32} {hf : rsH} {x : Int32} (hx : x < 0 ∨ 3 ≤ x) : rsK G M_s_runs (rmT 7 110) [.ref (rsB G), .int x] (rwd G K V c P r md up wl cu hf) n (rsTh 0 (rwd G K V c P r md up wl cu hf) (n + 1)) := by
  refine rsK_of pf_s_runs rfl (Nat.le_of_ble_eq_true rfl) rfl ?_
  refine rs_iload_n d_s_runs_0 rfl rfl ?_
  exact rx_tS d_s_runs_1 c_s_99 (by exact np_s_requireLevel) (k_reqLevel_no hx) (by decide) (by decide) (Nat.le_of_ble_eq_true rfl) rfl rfl ⟨rfl, rfl, rfl⟩
set_option maxRecDepth 100000 in
theorem k_runs_down {G : rsG} {n : Nat} {K V : Nat → Nat → Int32} {c P r : Nat → Nat} {md up wl cu : Int32} {hf : rsH} {lv : Nat} (hl : lv < 3) (h : up = 0) : rsK G M_s_runs (rmT 7 110) [.ref (rsB G), .int (nI lv)] (rwd G K V c P r md up wl cu hf) n (rsTh 1 (rwd G K V c P r md up wl cu hf) (n + 1)) := by
  refine rsK_of pf_s_runs rfl (Nat.le_of_ble_eq_true rfl) rfl ?_
  refine rs_iload_n d_s_runs_0 rfl rfl ?_
  refine rx_cS d_s_runs_1 rfl c_s_99 (by exact np_s_requireLevel) (k_reqLevel_ok hl) (by decide) ⟨rfl, rfl⟩ (Nat.le_of_ble_eq_true rfl) rfl ?_
  refine rs_aload_n d_s_runs_4 rfl rfl ?_
  exact rx_tV d_s_runs_5 c_s_61 (by exact np_s_requireUp) rw_x (k_reqUp_no h) (by decide) (by decide) (Nat.le_of_ble_eq_true rfl) rfl rfl ⟨rfl, rfl, rfl⟩
set_option maxRecDepth 100000 in
theorem k_runs_ok {G : rsG} {n : Nat} {K V : Nat → Nat → Int32} {c P r : Nat → Nat} {md up wl cu : Int32} {hf : rsH} {lv : Nat} (hl : lv < 3) (hu : ¬ up = 0) : rsK G M_s_runs (rmO 7 110) [.ref (rsB G), .int (nI lv)] (rwd G K V c P r md up wl cu hf) n (rsOk (some (.int (nI (r lv)))) (rwd G K V c P r md up wl cu hf) n) := by
  refine rsK_of pf_s_runs rfl (Nat.le_of_ble_eq_true rfl) rfl ?_
  refine rs_iload_n d_s_runs_0 rfl rfl ?_
  refine rx_cS d_s_runs_1 rfl c_s_99 (by exact np_s_requireLevel) (k_reqLevel_ok hl) (by decide) ⟨rfl, rfl⟩ (Nat.le_of_ble_eq_true rfl) rfl ?_
  refine rs_aload_n d_s_runs_4 rfl rfl ?_
  refine rx_cV d_s_runs_5 rfl c_s_61 (by exact np_s_requireUp) rw_x (k_reqUp_ok hu) (by decide) ⟨rfl, rfl⟩ (Nat.le_of_ble_eq_true rfl) rfl ?_
  refine rs_aload_n d_s_runs_8 rfl rfl ?_
  refine rx_get_di d_s_runs_9 rfl f_s_19 ?_
  refine rs_iload_n d_s_runs_12 rfl rfl ?_
  refine rx_cV d_s_runs_13 rfl c_s_112 (by exact np_d_countRunsOf) rw_d (k_countRunsOf hl) (by decide) ⟨rfl, rfl⟩ (Nat.le_of_ble_eq_true rfl) rfl ?_
  exact rs_ireturn d_s_runs_16 rfl ⟨rfl, rfl, rfl⟩
set_option maxRecDepth 100000 in
theorem k_entries_down {G : rsG} {n : Nat} {K V : Nat → Nat → Int32} {c P r : Nat → Nat} {md up wl cu : Int32} {hf : rsH} {x y : Int32} (h : up = 0) : rsK G M_s_entries (rmT 7 110) [.ref (rsB G), .int x, .int y] (rwd G K V c P r md up wl cu hf) n (rsTh 1 (rwd G K V c P r md up wl cu hf) (n + 1)) := by
  refine rsK_of pf_s_entries rfl (Nat.le_of_ble_eq_true rfl) rfl ?_
  refine rs_aload_n d_s_entries_0 rfl rfl ?_
  exact rx_tV d_s_entries_1 c_s_61 (by exact np_s_requireUp) rw_x (k_reqUp_no h) (by decide) (by decide) (Nat.le_of_ble_eq_true rfl) rfl rfl ⟨rfl, rfl, rfl⟩
set_option maxRecDepth 100000 in
theorem k_entries_nolevel {G : rsG} {n : Nat} {K V : Nat → Nat → Int32} {c P r : Nat → Nat} {md up wl cu : Int32} {hf : rsH} {x y : Int32} (hu : ¬ up = 0) (hx : x < 0 ∨ 3 ≤ x) : rsK G M_s_entries (rmT 7 110) [.ref (rsB G), .int x, .int y] (rwd G K V c P r md up wl cu hf) n (rsTh 3 (rwd G K V c P r md up wl cu hf) (n + 1)) := by
  refine rsK_of pf_s_entries rfl (Nat.le_of_ble_eq_true rfl) rfl ?_
  refine rs_aload_n d_s_entries_0 rfl rfl ?_
  refine rx_cV d_s_entries_1 rfl c_s_61 (by exact np_s_requireUp) rw_x (k_reqUp_ok hu) (by decide) ⟨rfl, rfl⟩ (Nat.le_of_ble_eq_true rfl) rfl ?_
  refine rs_iload_n d_s_entries_4 rfl rfl ?_
  refine rx_cS d_s_entries_5 rfl c_s_115 (by exact np_s_isLevel) (k_isLevel_no hx) (by decide) ⟨rfl, rfl⟩ (Nat.le_of_ble_eq_true rfl) rfl ?_
  refine rs_if_eq (tgt := 27) d_s_entries_8 rfl (by decide) (fun _ => ?_) (fun hc => absurd (rfl) hc)
  exact rs_throw (k := 3) (tx := "there is no such run") d_s_entries_27 d_s_entries_30 d_s_entries_31 d_s_entries_33 d_s_entries_36 (by decide) n_s_81 t_ins3 t_ini3 x_s_85 (by decide) rfl (Nat.le_of_ble_eq_true rfl) (by decide) (by decide) (by decide) (by decide) ⟨rfl, rfl, rfl⟩
set_option maxRecDepth 100000 in
theorem k_entries_norun {G : rsG} {n : Nat} {K V : Nat → Nat → Int32} {c P r : Nat → Nat} {md up wl cu : Int32} {hf : rsH} {lv : Nat} {y : Int32} (hu : ¬ up = 0) (hl : lv < 3) (hy : y < 0 ∨ ¬ y < nI (r lv)) : rsK G M_s_entries (rmT 7 110) [.ref (rsB G), .int (nI lv), .int y] (rwd G K V c P r md up wl cu hf) n (rsTh 3 (rwd G K V c P r md up wl cu hf) (n + 1)) := by
  refine rsK_of pf_s_entries rfl (Nat.le_of_ble_eq_true rfl) rfl ?_
  refine rs_aload_n d_s_entries_0 rfl rfl ?_
  refine rx_cV d_s_entries_1 rfl c_s_61 (by exact np_s_requireUp) rw_x (k_reqUp_ok hu) (by decide) ⟨rfl, rfl⟩ (Nat.le_of_ble_eq_true rfl) rfl ?_
  refine rs_iload_n d_s_entries_4 rfl rfl ?_
  refine rx_cS d_s_entries_5 rfl c_s_115 (by exact np_s_isLevel) (k_isLevel_yes hl) (by decide) ⟨rfl, rfl⟩ (Nat.le_of_ble_eq_true rfl) rfl ?_
  refine rs_if_eq (tgt := 27) d_s_entries_8 rfl (by decide) (fun hc => absurd hc (by decide)) (fun _ => ?_)
  refine rs_iload_n d_s_entries_11 rfl rfl ?_
  by_cases h0 : y < 0
  · refine rs_if_lt (tgt := 27) d_s_entries_12 rfl (by decide) (fun _ => ?_) (fun hc => absurd (h0) hc)
    exact rs_throw (k := 3) (tx := "there is no such run") d_s_entries_27 d_s_entries_30 d_s_entries_31 d_s_entries_33 d_s_entries_36 (by decide) n_s_81 t_ins3 t_ini3 x_s_85 (by decide) rfl (Nat.le_of_ble_eq_true rfl) (by decide) (by decide) (by decide) (by decide) ⟨rfl, rfl, rfl⟩
  · refine rs_if_lt (tgt := 27) d_s_entries_12 rfl (by decide) (fun hc => absurd hc (h0)) (fun _ => ?_)
    refine rs_iload_n d_s_entries_15 rfl rfl ?_
    refine rs_aload_n d_s_entries_16 rfl rfl ?_
    refine rx_get_di d_s_entries_17 rfl f_s_19 ?_
    refine rs_iload_n d_s_entries_20 rfl rfl ?_
    refine rx_cV d_s_entries_21 rfl c_s_112 (by exact np_d_countRunsOf) rw_d (k_countRunsOf hl) (by decide) ⟨rfl, rfl⟩ (Nat.le_of_ble_eq_true rfl) rfl ?_
    refine rs_icmp_lt (tgt := 37) d_s_entries_24 rfl (by decide) (fun hc => absurd hc (hy.resolve_left h0)) (fun _ => ?_)
    exact rs_throw (k := 3) (tx := "there is no such run") d_s_entries_27 d_s_entries_30 d_s_entries_31 d_s_entries_33 d_s_entries_36 (by decide) n_s_81 t_ins3 t_ini3 x_s_85 (by decide) rfl (Nat.le_of_ble_eq_true rfl) (by decide) (by decide) (by decide) (by decide) ⟨rfl, rfl, rfl⟩
set_option maxRecDepth 100000 in
theorem k_entries_ok {G : rsG} {n : Nat} {K V : Nat → Nat → Int32} {c P r : Nat → Nat} {md up wl cu : Int32} {hf : rsH} (hs : rp_sum r 3 ≤ 12) (hP : ∀ i, i < 13 → P i ≤ 12) {lv i : Nat} (hu : ¬ up = 0) (hl : lv < 3) (hi : i < r lv) (hr : rp_sum r lv + r lv ≤ 12) : rsK G M_s_entries (rmO 7 110) [.ref (rsB G), .int (nI lv), .int (nI i)] (rwd G K V c P r md up wl cu hf) n (rsOk (some (.int (nI (c (P (rp_sum r lv + i)))))) (rwd G K V c P r md up wl cu hf) n) := by
  refine rsK_of pf_s_entries rfl (Nat.le_of_ble_eq_true rfl) rfl ?_
  have hPi : P (rp_sum r lv + i) ≤ 13 := by have := hP (rp_sum r lv + i) (by omega); omega
  refine rs_aload_n d_s_entries_0 rfl rfl ?_
  refine rx_cV d_s_entries_1 rfl c_s_61 (by exact np_s_requireUp) rw_x (k_reqUp_ok hu) (by decide) ⟨rfl, rfl⟩ (Nat.le_of_ble_eq_true rfl) rfl ?_
  refine rs_iload_n d_s_entries_4 rfl rfl ?_
  refine rx_cS d_s_entries_5 rfl c_s_115 (by exact np_s_isLevel) (k_isLevel_yes hl) (by decide) ⟨rfl, rfl⟩ (Nat.le_of_ble_eq_true rfl) rfl ?_
  refine rs_if_eq (tgt := 27) d_s_entries_8 rfl (by decide) (fun hc => absurd hc (by decide)) (fun _ => ?_)
  refine rs_iload_n d_s_entries_11 rfl rfl ?_
  refine rs_if_lt (tgt := 27) d_s_entries_12 rfl (by decide) (fun hc => absurd hc (nI_pos (by omega))) (fun _ => ?_)
  refine rs_iload_n d_s_entries_15 rfl rfl ?_
  refine rs_aload_n d_s_entries_16 rfl rfl ?_
  refine rx_get_di d_s_entries_17 rfl f_s_19 ?_
  refine rs_iload_n d_s_entries_20 rfl rfl ?_
  refine rx_cV d_s_entries_21 rfl c_s_112 (by exact np_d_countRunsOf) rw_d (k_countRunsOf hl) (by decide) ⟨rfl, rfl⟩ (Nat.le_of_ble_eq_true rfl) rfl ?_
  refine rs_icmp_lt (tgt := 37) d_s_entries_24 rfl (by decide) (fun _ => ?_) (fun hc => absurd (nI_lt hi (by omega)) hc)
  refine rs_aload_n d_s_entries_37 rfl rfl ?_
  refine rx_get_di d_s_entries_38 rfl f_s_19 ?_
  refine rs_iload_n d_s_entries_41 rfl rfl ?_
  refine rs_iload_n d_s_entries_42 rfl rfl ?_
  refine rx_cV d_s_entries_43 rfl c_s_120 (by exact np_d_run) rw_d (k_run (by omega) (by omega)) (by decide) ⟨rfl, rfl⟩ (Nat.le_of_ble_eq_true rfl) rfl ?_
  refine rx_cV d_s_entries_46 rfl c_s_71 (by exact np_e_count) (rw_e hPi) (k_count hPi) (by decide) ⟨rfl, rfl⟩ (Nat.le_of_ble_eq_true rfl) rfl ?_
  exact rs_ireturn d_s_entries_49 rfl ⟨rfl, rfl, rfl⟩
set_option maxRecDepth 100000 in
theorem k_room_down {G : rsG} {n : Nat} {K V : Nat → Nat → Int32} {c P r : Nat → Nat} {md up wl cu : Int32} {hf : rsH} (h : up = 0) : rsK G M_s_room (rmT 7 110) [.ref (rsB G)] (rwd G K V c P r md up wl cu hf) n (rsTh 1 (rwd G K V c P r md up wl cu hf) (n + 1)) := by
  refine rsK_of pf_s_room rfl (Nat.le_of_ble_eq_true rfl) rfl ?_
  refine rs_aload_n d_s_room_0 rfl rfl ?_
  exact rx_tV d_s_room_1 c_s_61 (by exact np_s_requireUp) rw_x (k_reqUp_no h) (by decide) (by decide) (Nat.le_of_ble_eq_true rfl) rfl rfl ⟨rfl, rfl, rfl⟩
set_option maxRecDepth 100000 in
theorem k_room_ok {G : rsG} {n : Nat} {K V : Nat → Nat → Int32} {c P r : Nat → Nat} {md up wl cu : Int32} {hf : rsH} (hs : rp_sum r 3 ≤ 12) (hP : ∀ i, i < 13 → P i ≤ 12) (hc : ∀ i, i < 13 → c (P i) ≤ 100) (hu : ¬ up = 0) : rsK G M_s_room (rmO 7 110) [.ref (rsB G)] (rwd G K V c P r md up wl cu hf) n (rsOk (some (.int (nI 40 - nI (rp_blk c P (rp_sum r 3))))) (rwd G K V c P r md up wl cu hf) n) := by
  refine rsK_of pf_s_room rfl (Nat.le_of_ble_eq_true rfl) rfl ?_
  refine rs_aload_n d_s_room_0 rfl rfl ?_
  refine rx_cV d_s_room_1 rfl c_s_61 (by exact np_s_requireUp) rw_x (k_reqUp_ok hu) (by decide) ⟨rfl, rfl⟩ (Nat.le_of_ble_eq_true rfl) rfl ?_
  refine rs_aload_n d_s_room_4 rfl rfl ?_
  refine rx_get_di d_s_room_5 rfl f_s_19 ?_
  refine rx_cV d_s_room_8 rfl c_s_124 (by exact np_d_freeBlocks) rw_d (k_freeBlocks hs hP hc) (by decide) ⟨rfl, rfl⟩ (Nat.le_of_ble_eq_true rfl) rfl ?_
  exact rs_ireturn d_s_room_11 rfl ⟨rfl, rfl, rfl⟩
end
section
/-! 20: the reference's world, and the rows of its fields (written by gen_mworld.py) -/
def rm_fl (S : Nat → Nat → Int32) : Nat → Int32 := fun q => S (q / 100) (q % 100)
theorem rm_fl_at (S : Nat → Nat → Int32) {r k : Nat} (hk : k < 100) : rm_fl S (100 * r + k) = S r k := by
  unfold rm_fl
  rw [show (100 * r + k) / 100 = r by omega, show (100 * r + k) % 100 = k by omega]
theorem rm_fl_up (S : Nat → Nat → Int32) {r k : Nat} {x : Int32} (hk : k < 100) : upd (rm_fl S) (100 * r + k) x = rm_fl (va_up S r (upd (S r) k x)) := by
  funext q
  unfold upd rm_fl va_up
  by_cases h : q = 100 * r + k
  · have e1 : q / 100 = r := by omega
    have e2 : q % 100 = k := by omega
    rw [if_pos h, e1, e2, if_pos rfl, if_pos rfl]
  · rw [if_neg h]
    by_cases h1 : q / 100 = r
    · rw [if_pos h1, if_neg (by omega), h1]
    · rw [if_neg h1]
theorem rm_fl_eq {S S' : Nat → Nat → Int32} (h : ∀ r k, k < 100 → S r k = S' r k) : rm_fl S = rm_fl S' := by
  funext q
  exact h _ _ (Nat.mod_lt _ (by decide))
abbrev rm_ob (G : rsG) (th mm iu bd : Int32) (mn : Nat) (av : Int32) : List Value := [.int th, .int mm, .int iu, .int bd, .int (nI mn), .ref (rsB G + 47), .ref (rsB G + 48), .ref (rsB G + 49), .int av]
/-- the reference's world, over another world: runs by rows (kinds S, values T), their levels, its numbers -/
def rmd (G : rsG) (S T : Nat → Nat → Int32) (lv : Nat → Nat) (th mm iu bd : Int32) (mn : Nat) (av : Int32) (hf : rsH) : rsH := fun a =>
  if a = rsB G + 46 then some (.inr (3, rm_ob G th mm iu bd mn av)) else if a = rsB G + 47 then some (.inl (G.2.2.2.1, 12, .inl (fun i => nI (lv i)))) else if a = rsB G + 48 then some (.inl (G.2.2.2.1, 1400, .inl (rm_fl S)))
  else if a = rsB G + 49 then some (.inl (G.2.2.2.1, 1400, .inl (rm_fl T))) else hf a
section RMW
variable {G : rsG} {S T S' T' : Nat → Nat → Int32} {lv lv' : Nat → Nat} {th mm iu bd th' mm' iu' bd' : Int32} {mn mn' : Nat} {av av' : Int32} {hf : rsH}
theorem rm_o : rmd G S T lv th mm iu bd mn av hf (rsB G + 46) = some (.inr (3, rm_ob G th mm iu bd mn av)) := by unfold rmd; rw [if_pos rfl]
theorem rm_l : rmd G S T lv th mm iu bd mn av hf (rsB G + 47) = some (.inl (G.2.2.2.1, 12, .inl (fun i => nI (lv i)))) := by unfold rmd; rw [if_neg (by omega), if_pos rfl]
theorem rm_s : rmd G S T lv th mm iu bd mn av hf (rsB G + 48) = some (.inl (G.2.2.2.1, 1400, .inl (rm_fl S))) := by unfold rmd; rw [if_neg (by omega), if_neg (by omega), if_pos rfl]
theorem rm_v : rmd G S T lv th mm iu bd mn av hf (rsB G + 49) = some (.inl (G.2.2.2.1, 1400, .inl (rm_fl T))) := by unfold rmd; rw [if_neg (by omega), if_neg (by omega), if_neg (by omega), if_pos rfl]
theorem rm_set_o : rs_up (rmd G S T lv th mm iu bd mn av hf) (rsB G + 46) (.inr (3, rm_ob G th' mm' iu' bd' mn' av')) = rmd G S T lv th' mm' iu' bd' mn' av' hf := by
  funext q
  unfold rs_up rmd
  by_cases h : q = rsB G + 46
  · rw [if_pos h, if_pos h]
  · rw [if_neg h, if_neg h, if_neg h]
theorem rm_set_l {i x : Nat} : rs_up (rmd G S T lv th mm iu bd mn av hf) (rsB G + 47) (.inl (G.2.2.2.1, 12, .inl (upd (fun i => nI (lv i)) i (nI x)))) = rmd G S T (va_up lv i x) th mm iu bd mn av hf := by
  have e0 : (upd (fun i => nI (lv i)) i (nI x)) = fun q => nI (va_up lv i x q) := by
    funext q
    unfold upd va_up
    by_cases h : q = i
    · rw [if_pos h, if_pos h]
    · rw [if_neg h, if_neg h]
  rw [e0]
  funext q
  unfold rs_up rmd
  by_cases h : q = rsB G + 47
  · rw [if_pos h, if_neg (by omega), if_pos h]
  · rw [if_neg h, if_neg h, if_neg h]
theorem rm_set_s {r k : Nat} {x : Int32} (hk : k < 100) : rs_up (rmd G S T lv th mm iu bd mn av hf) (rsB G + 48) (.inl (G.2.2.2.1, 1400, .inl (upd (rm_fl S) (100 * r + k) x))) = rmd G (va_up S r (upd (S r) k x)) T lv th mm iu bd mn av hf := by
  rw [rm_fl_up S hk]
  funext q
  unfold rs_up rmd
  by_cases h : q = rsB G + 48
  · rw [if_pos h, if_neg (by omega), if_neg (by omega), if_pos h]
  · rw [if_neg h, if_neg h, if_neg h]
theorem rm_set_v {r k : Nat} {x : Int32} (hk : k < 100) : rs_up (rmd G S T lv th mm iu bd mn av hf) (rsB G + 49) (.inl (G.2.2.2.1, 1400, .inl (upd (rm_fl T) (100 * r + k) x))) = rmd G S (va_up T r (upd (T r) k x)) lv th mm iu bd mn av hf := by
  rw [rm_fl_up T hk]
  funext q
  unfold rs_up rmd
  by_cases h : q = rsB G + 49
  · rw [if_pos h, if_neg (by omega), if_neg (by omega), if_neg (by omega), if_pos h]
  · rw [if_neg h, if_neg h, if_neg h]
theorem rmd_eq (hS : ∀ r k, k < 100 → S r k = S' r k) (hT : ∀ r k, k < 100 → T r k = T' r k) : rmd G S T lv th mm iu bd mn av hf = rmd G S' T' lv th mm iu bd mn av hf := by
  unfold rmd
  rw [rm_fl_eq hS, rm_fl_eq hT]
end RMW
section RMF
variable {G : rsG} {M : rsM} {rm : Room} {Q : rsR → rsH → Nat → Prop} {kc ks pc pc' : Nat} {L : List (Option Value)} {st : List Value} {n : Nat} {S T : Nat → Nat → Int32} {lv : Nat → Nat} {th mm iu bd : Int32} {mn : Nat} {av : Int32} {hf : rsH}
theorem rx_get_th {index : Nat} (hd : decode M.2.1 pc = .ok (.getfield index, 3)) (hp : pc + 3 = pc') (hF : rsF M.1.cls index 3 0) (kk : rsV G M rm Q kc ks pc' L (.int th :: st) (rmd G S T lv th mm iu bd mn av hf) n) : rsV G M rm Q kc ks pc L (.ref (rsB G + 46) :: st) (rmd G S T lv th mm iu bd mn av hf) n :=
  rs_getf hd hp hF rm_o rfl kk
theorem rx_get_mm {index : Nat} (hd : decode M.2.1 pc = .ok (.getfield index, 3)) (hp : pc + 3 = pc') (hF : rsF M.1.cls index 3 1) (kk : rsV G M rm Q kc ks pc' L (.int mm :: st) (rmd G S T lv th mm iu bd mn av hf) n) : rsV G M rm Q kc ks pc L (.ref (rsB G + 46) :: st) (rmd G S T lv th mm iu bd mn av hf) n :=
  rs_getf hd hp hF rm_o rfl kk
theorem rx_get_iu {index : Nat} (hd : decode M.2.1 pc = .ok (.getfield index, 3)) (hp : pc + 3 = pc') (hF : rsF M.1.cls index 3 2) (kk : rsV G M rm Q kc ks pc' L (.int iu :: st) (rmd G S T lv th mm iu bd mn av hf) n) : rsV G M rm Q kc ks pc L (.ref (rsB G + 46) :: st) (rmd G S T lv th mm iu bd mn av hf) n :=
  rs_getf hd hp hF rm_o rfl kk
theorem rx_get_bd {index : Nat} (hd : decode M.2.1 pc = .ok (.getfield index, 3)) (hp : pc + 3 = pc') (hF : rsF M.1.cls index 3 3) (kk : rsV G M rm Q kc ks pc' L (.int bd :: st) (rmd G S T lv th mm iu bd mn av hf) n) : rsV G M rm Q kc ks pc L (.ref (rsB G + 46) :: st) (rmd G S T lv th mm iu bd mn av hf) n :=
  rs_getf hd hp hF rm_o rfl kk
theorem rx_get_mn {index : Nat} (hd : decode M.2.1 pc = .ok (.getfield index, 3)) (hp : pc + 3 = pc') (hF : rsF M.1.cls index 3 4) (kk : rsV G M rm Q kc ks pc' L (.int (nI mn) :: st) (rmd G S T lv th mm iu bd mn av hf) n) : rsV G M rm Q kc ks pc L (.ref (rsB G + 46) :: st) (rmd G S T lv th mm iu bd mn av hf) n :=
  rs_getf hd hp hF rm_o rfl kk
theorem rx_get_lv {index : Nat} (hd : decode M.2.1 pc = .ok (.getfield index, 3)) (hp : pc + 3 = pc') (hF : rsF M.1.cls index 3 5) (kk : rsV G M rm Q kc ks pc' L (.ref (rsB G + 47) :: st) (rmd G S T lv th mm iu bd mn av hf) n) : rsV G M rm Q kc ks pc L (.ref (rsB G + 46) :: st) (rmd G S T lv th mm iu bd mn av hf) n :=
  rs_getf hd hp hF rm_o rfl kk
theorem rx_get_so {index : Nat} (hd : decode M.2.1 pc = .ok (.getfield index, 3)) (hp : pc + 3 = pc') (hF : rsF M.1.cls index 3 6) (kk : rsV G M rm Q kc ks pc' L (.ref (rsB G + 48) :: st) (rmd G S T lv th mm iu bd mn av hf) n) : rsV G M rm Q kc ks pc L (.ref (rsB G + 46) :: st) (rmd G S T lv th mm iu bd mn av hf) n :=
  rs_getf hd hp hF rm_o rfl kk
theorem rx_get_vs {index : Nat} (hd : decode M.2.1 pc = .ok (.getfield index, 3)) (hp : pc + 3 = pc') (hF : rsF M.1.cls index 3 7) (kk : rsV G M rm Q kc ks pc' L (.ref (rsB G + 49) :: st) (rmd G S T lv th mm iu bd mn av hf) n) : rsV G M rm Q kc ks pc L (.ref (rsB G + 46) :: st) (rmd G S T lv th mm iu bd mn av hf) n :=
  rs_getf hd hp hF rm_o rfl kk
theorem rx_get_at {index : Nat} (hd : decode M.2.1 pc = .ok (.getfield index, 3)) (hp : pc + 3 = pc') (hF : rsF M.1.cls index 3 8) (kk : rsV G M rm Q kc ks pc' L (.int av :: st) (rmd G S T lv th mm iu bd mn av hf) n) : rsV G M rm Q kc ks pc L (.ref (rsB G + 46) :: st) (rmd G S T lv th mm iu bd mn av hf) n :=
  rs_getf hd hp hF rm_o rfl kk
theorem rx_put_th {index : Nat} {v : Int32} (hd : decode M.2.1 pc = .ok (.putfield index, 3)) (hp : pc + 3 = pc') (hF : rsP M.1.cls index 3 0 .int false)  (kk : rsV G M rm Q kc ks pc' L st (rmd G S T lv v mm iu bd mn av hf) n) : rsV G M rm Q kc ks pc L (.int (v) :: .ref (rsB G + 46) :: st) (rmd G S T lv th mm iu bd mn av hf) n := by
  refine rs_putf hd hp hF rm_o rfl rfl (Nat.le_of_ble_eq_true rfl) (fs' := rm_ob G v mm iu bd mn av) rfl ?_
  rw [rm_set_o]
  exact kk
theorem rx_put_mm {index : Nat} {v : Int32} (hd : decode M.2.1 pc = .ok (.putfield index, 3)) (hp : pc + 3 = pc') (hF : rsP M.1.cls index 3 1 .boolean false) (hv : narrow .boolean (.int v) = .int v) (hf' : fits .boolean (.int v) = true) (kk : rsV G M rm Q kc ks pc' L st (rmd G S T lv th v iu bd mn av hf) n) : rsV G M rm Q kc ks pc L (.int (v) :: .ref (rsB G + 46) :: st) (rmd G S T lv th mm iu bd mn av hf) n := by
  refine rs_putf hd hp hF rm_o hv hf' (Nat.le_of_ble_eq_true rfl) (fs' := rm_ob G th v iu bd mn av) rfl ?_
  rw [rm_set_o]
  exact kk
theorem rx_put_iu {index : Nat} {v : Int32} (hd : decode M.2.1 pc = .ok (.putfield index, 3)) (hp : pc + 3 = pc') (hF : rsP M.1.cls index 3 2 .boolean false) (hv : narrow .boolean (.int v) = .int v) (hf' : fits .boolean (.int v) = true) (kk : rsV G M rm Q kc ks pc' L st (rmd G S T lv th mm v bd mn av hf) n) : rsV G M rm Q kc ks pc L (.int (v) :: .ref (rsB G + 46) :: st) (rmd G S T lv th mm iu bd mn av hf) n := by
  refine rs_putf hd hp hF rm_o hv hf' (Nat.le_of_ble_eq_true rfl) (fs' := rm_ob G th mm v bd mn av) rfl ?_
  rw [rm_set_o]
  exact kk
theorem rx_put_bd {index : Nat} {v : Int32} (hd : decode M.2.1 pc = .ok (.putfield index, 3)) (hp : pc + 3 = pc') (hF : rsP M.1.cls index 3 3 .int false)  (kk : rsV G M rm Q kc ks pc' L st (rmd G S T lv th mm iu v mn av hf) n) : rsV G M rm Q kc ks pc L (.int (v) :: .ref (rsB G + 46) :: st) (rmd G S T lv th mm iu bd mn av hf) n := by
  refine rs_putf hd hp hF rm_o rfl rfl (Nat.le_of_ble_eq_true rfl) (fs' := rm_ob G th mm iu v mn av) rfl ?_
  rw [rm_set_o]
  exact kk
theorem rx_put_mn {index : Nat} {v : Nat} (hd : decode M.2.1 pc = .ok (.putfield index, 3)) (hp : pc + 3 = pc') (hF : rsP M.1.cls index 3 4 .int false)  (kk : rsV G M rm Q kc ks pc' L st (rmd G S T lv th mm iu bd v av hf) n) : rsV G M rm Q kc ks pc L (.int (nI v) :: .ref (rsB G + 46) :: st) (rmd G S T lv th mm iu bd mn av hf) n := by
  refine rs_putf hd hp hF rm_o rfl rfl (Nat.le_of_ble_eq_true rfl) (fs' := rm_ob G th mm iu bd v av) rfl ?_
  rw [rm_set_o]
  exact kk
theorem rx_put_at {index : Nat} {v : Int32} (hd : decode M.2.1 pc = .ok (.putfield index, 3)) (hp : pc + 3 = pc') (hF : rsP M.1.cls index 3 8 .int false)  (kk : rsV G M rm Q kc ks pc' L st (rmd G S T lv th mm iu bd mn v hf) n) : rsV G M rm Q kc ks pc L (.int (v) :: .ref (rsB G + 46) :: st) (rmd G S T lv th mm iu bd mn av hf) n := by
  refine rs_putf hd hp hF rm_o rfl rfl (Nat.le_of_ble_eq_true rfl) (fs' := rm_ob G th mm iu bd mn v) rfl ?_
  rw [rm_set_o]
  exact kk
theorem ry_ld_l {i : Nat} (hi : i < 12) (hd : decode M.2.1 pc = .ok (.iaload, 1)) (hp : pc + 1 = pc') (kk : rsV G M rm Q kc ks pc' L (.int (nI (lv i)) :: st) (rmd G S T lv th mm iu bd mn av hf) n) : rsV G M rm Q kc ks pc L (.int (nI i) :: .ref (rsB G + 47) :: st) (rmd G S T lv th mm iu bd mn av hf) n := rs_iald hd hp rm_l hi (by omega) kk
theorem ry_ld_s {r k : Nat} (hr : r < 14) (hk : k < 100) (hd : decode M.2.1 pc = .ok (.iaload, 1)) (hp : pc + 1 = pc') (kk : rsV G M rm Q kc ks pc' L (.int (S r k) :: st) (rmd G S T lv th mm iu bd mn av hf) n) : rsV G M rm Q kc ks pc L (.int (nI (100 * r + k)) :: .ref (rsB G + 48) :: st) (rmd G S T lv th mm iu bd mn av hf) n := rs_iald hd hp rm_s (by omega) (by omega) (by rw [rm_fl_at S hk]; exact kk)
theorem ry_ld_v {r k : Nat} (hr : r < 14) (hk : k < 100) (hd : decode M.2.1 pc = .ok (.iaload, 1)) (hp : pc + 1 = pc') (kk : rsV G M rm Q kc ks pc' L (.int (T r k) :: st) (rmd G S T lv th mm iu bd mn av hf) n) : rsV G M rm Q kc ks pc L (.int (nI (100 * r + k)) :: .ref (rsB G + 49) :: st) (rmd G S T lv th mm iu bd mn av hf) n := rs_iald hd hp rm_v (by omega) (by omega) (by rw [rm_fl_at T hk]; exact kk)
theorem ry_st_l {i x : Nat} (hi : i < 12) (hd : decode M.2.1 pc = .ok (.iastore, 1)) (hp : pc + 1 = pc') (kk : rsV G M rm Q kc ks pc' L st (rmd G S T (va_up lv i x) th mm iu bd mn av hf) n) : rsV G M rm Q kc ks pc L (.int (nI x) :: .int (nI i) :: .ref (rsB G + 47) :: st) (rmd G S T lv th mm iu bd mn av hf) n := by
  refine rs_iast hd hp rm_l hi (by omega) ?_
  rw [rm_set_l]
  exact kk
theorem ry_st_s {r k : Nat} {x : Int32} (hr : r < 14) (hk : k < 100) (hd : decode M.2.1 pc = .ok (.iastore, 1)) (hp : pc + 1 = pc') (kk : rsV G M rm Q kc ks pc' L st (rmd G (va_up S r (upd (S r) k x)) T lv th mm iu bd mn av hf) n) : rsV G M rm Q kc ks pc L (.int x :: .int (nI (100 * r + k)) :: .ref (rsB G + 48) :: st) (rmd G S T lv th mm iu bd mn av hf) n := by
  refine rs_iast hd hp rm_s (by omega) (by omega) ?_
  rw [rm_set_s hk]
  exact kk
theorem ry_st_v {r k : Nat} {x : Int32} (hr : r < 14) (hk : k < 100) (hd : decode M.2.1 pc = .ok (.iastore, 1)) (hp : pc + 1 = pc') (kk : rsV G M rm Q kc ks pc' L st (rmd G S (va_up T r (upd (T r) k x)) lv th mm iu bd mn av hf) n) : rsV G M rm Q kc ks pc L (.int x :: .int (nI (100 * r + k)) :: .ref (rsB G + 49) :: st) (rmd G S T lv th mm iu bd mn av hf) n := by
  refine rs_iast hd hp rm_v (by omega) (by omega) ?_
  rw [rm_set_v hk]
  exact kk
/-- the place of a row's key -/
theorem rs_pix {x : Int32} {r k : Nat} (e : x = nI (100 * r + k)) (kk : rsV G M rm Q kc ks pc L (.int (nI (100 * r + k)) :: st) (rmd G S T lv th mm iu bd mn av hf) n) : rsV G M rm Q kc ks pc L (.int x :: st) (rmd G S T lv th mm iu bd mn av hf) n := e ▸ kk
end RMF
theorem rm_ix (r k : Nat) : nI 100 * nI r + nI k = nI (100 * r + k) := by rw [pk_mul, nI_add]
theorem rm_ix12 (k : Nat) : nI 1200 + nI k = nI (100 * 12 + k) := nI_add _ _
theorem rm_ix13 (k : Nat) : nI 1300 + nI k = nI (100 * 13 + k) := nI_add _ _
end
section
/-! 21: the reference's private methods (written by gen_model.py) -/
def rm_p (f : Nat → Nat → Int32) (r : Nat) (g : Nat → Int32) (i : Nat) : Nat → Nat → Int32 := va_up f r (fun k => if k < i then g k else f r k)
theorem rm_p0 (f : Nat → Nat → Int32) (r : Nat) (g : Nat → Int32) : rm_p f r g 0 = f := by
  unfold rm_p
  rw [show (fun k => if k < 0 then g k else f r k) = f r from funext fun k => if_neg (Nat.not_lt_zero k), rp_up_id]
theorem rm_p_at (f : Nat → Nat → Int32) (r : Nat) (g : Nat → Int32) (i q : Nat) : rm_p f r g i q i = f q i := by
  unfold rm_p va_up
  by_cases h : q = r
  · rw [if_pos h, if_neg (Nat.lt_irrefl i), h]
  · rw [if_neg h]
theorem rm_p_ne (f : Nat → Nat → Int32) {r q : Nat} (g : Nat → Int32) (i : Nat) (h : q ≠ r) : rm_p f r g i q = f q := by
  unfold rm_p va_up
  rw [if_neg h]
theorem rm_pu {f : Nat → Nat → Int32} {r : Nat} {g : Nat → Int32} {i : Nat} {x : Int32} (hx : x = g i) : va_up (rm_p f r g i) r (upd (rm_p f r g i r) i x) = rm_p f r g (i + 1) := by
  subst hx
  funext q k
  unfold rm_p va_up upd
  by_cases h : q = r
  · rw [if_pos h, if_pos h]
    by_cases hk : k = i
    · rw [if_pos hk, if_pos (by omega), hk]
    · rw [if_neg hk, if_pos rfl]
      by_cases h2 : k < i
      · rw [if_pos h2, if_pos (by omega)]
      · rw [if_neg h2, if_neg (by omega)]
  · rw [if_neg h, if_neg h, if_neg h]
theorem rm_pk {f : Nat → Nat → Int32} {r : Nat} {g : Nat → Int32} {i : Nat} (hx : f r i = g i) : rm_p f r g i = rm_p f r g (i + 1) := by
  rw [← rm_pu (f := f) (r := r) (g := g) (i := i) hx]
  funext q k
  unfold va_up upd
  by_cases h : q = r
  · rw [if_pos h]
    by_cases hk : k = i
    · rw [if_pos hk, h, hk, rm_p_at]
    · rw [if_neg hk, h]
  · rw [if_neg h]
theorem rm_pe (f : Nat → Nat → Int32) (r : Nat) (g : Nat → Int32) (q k : Nat) (hk : k < 100) : rm_p f r g 100 q k = va_up f r g q k := by
  unfold rm_p va_up
  by_cases h : q = r
  · rw [if_pos h, if_pos h, if_pos hk]
  · rw [if_neg h, if_neg h]
theorem rp_cnt_t {p : Nat → Bool} {i : Nat} (h : p i = true) : rp_cnt p (i + 1) = rp_cnt p i + 1 := by
  show rp_cnt p i + _ = _
  rw [if_pos h]
theorem rp_cnt_f {p : Nat → Bool} {i : Nat} (h : ¬ p i = true) : rp_cnt p (i + 1) = rp_cnt p i + 0 := by
  show rp_cnt p i + _ = _
  rw [if_neg h]
theorem rp_cnt_bd (p : Nat → Bool) : ∀ i, rp_cnt p i ≤ i
  | 0 => Nat.le_refl 0
  | i + 1 => by
    have := rp_cnt_bd p i
    show rp_cnt p i + _ ≤ _
    split <;> omega
abbrev rm_sz (S : Nat → Nat → Int32) (r : Nat) : Nat := rp_cnt (fun k => decide (0 < S r k)) 100
theorem rm_sz_le (S : Nat → Nat → Int32) (r : Nat) : rm_sz S r ≤ 100 := rp_cnt_bd _ 100
abbrev rm_zr (f : Nat → Nat → Int32) (r : Nat) : Nat → Nat → Int32 := va_up f r (fun _ => 0)
abbrev rm_cp (f : Nat → Nat → Int32) (fr to : Nat) : Nat → Nat → Int32 := va_up f to (f fr)
def rm_free (S : Nat → Nat → Int32) (mn : Nat) : Nat := rp_sum (fun i => (rm_sz S i + 3) / 4) mn
/-- the newest row with a key: memory (12), or a run -/
def rm_nw (S : Nat → Nat → Int32) (mn key : Nat) : Option Nat := if 0 < S 12 key then some 12 else rp_find (fun i => decide (0 < S i key)) mn
def rm_nv : Option Nat → Int32
  | some j => nI j
  | none => -1
def rm_th (S : Nat → Nat → Int32) (mn key : Nat) : Int32 := match rm_nw S mn key with
  | some j => if S j key = 1 then 1 else 0
  | none => 0
theorem rm_th01 (S : Nat → Nat → Int32) (mn key : Nat) : rm_th S mn key = 0 ∨ rm_th S mn key = 1 := by
  unfold rm_th
  split
  · split
    · exact Or.inr rfl
    · exact Or.inl rfl
  · exact Or.inl rfl
theorem rm_th_nar (S : Nat → Nat → Int32) (mn key : Nat) : narrow .boolean (.int (rm_th S mn key)) = .int (rm_th S mn key) := by
  rcases rm_th01 S mn key with h | h <;> rw [h] <;> rfl
theorem rm_nw_le {S : Nat → Nat → Int32} {mn key j : Nat} (hm : mn ≤ 12) (h : rm_nw S mn key = some j) : j ≤ 12 := by
  unfold rm_nw at h
  by_cases h0 : 0 < S 12 key
  · rw [if_pos h0] at h; cases h; omega
  · rw [if_neg h0] at h
    have := (rp_find_some h).1
    omega
/-- rows from i + 1 up to m hold what stood one row before -/
def rm_D {α : Type} (m : Nat) (f : Nat → α) (i : Nat) : Nat → α := fun q => if i < q ∧ q ≤ m then f (q - 1) else f q
theorem rm_Dm {α : Type} (m : Nat) (f : Nat → α) : rm_D m f m = f := by
  funext q; unfold rm_D; rw [if_neg (by omega)]
theorem rm_Du {α : Type} {m : Nat} (f : Nat → α) {i : Nat} (hi : i < m) : va_up (rm_D m f (i + 1)) (i + 1) (rm_D m f (i + 1) i) = rm_D m f i := by
  funext q
  unfold va_up rm_D
  rw [if_neg (show ¬ (i + 1 < i ∧ i ≤ m) by omega)]
  by_cases hq : q = i + 1
  · rw [if_pos hq, if_pos (by omega), hq, Nat.add_sub_cancel]
  · rw [if_neg hq]
    by_cases h1 : i + 1 < q ∧ q ≤ m
    · rw [if_pos h1, if_pos (by omega)]
    · rw [if_neg h1, if_neg (by omega)]
def rm_E {α : Type} (f : Nat → α) (p i : Nat) : Nat → α := fun q => if p ≤ q ∧ q < i then f (q + 1) else f q
theorem rm_E0 {α : Type} (f : Nat → α) (p : Nat) : rm_E f p p = f := by
  funext q; unfold rm_E; rw [if_neg (by omega)]
theorem rm_Eu {α : Type} (f : Nat → α) {p i : Nat} (hi : p ≤ i) : va_up (rm_E f p i) i (rm_E f p i (i + 1)) = rm_E f p (i + 1) := by
  funext q
  unfold va_up rm_E
  rw [if_neg (show ¬ (p ≤ i + 1 ∧ i + 1 < i) by omega)]
  by_cases hq : q = i
  · rw [if_pos hq, if_pos (by omega), hq]
  · rw [if_neg hq]
    by_cases h1 : p ≤ q ∧ q < i
    · rw [if_pos h1, if_pos (by omega)]
    · rw [if_neg h1, if_neg (by omega)]
theorem i32_nle {x : Int32} (h : 0 < x) : ¬ x ≤ 0 := Int32.not_le.mpr h
theorem i32_le {x : Int32} (h : ¬ 0 < x) : x ≤ 0 := Int32.not_lt.mp h
set_option maxRecDepth 100000 in
theorem k_m_clearRow {G : rsG} {n : Nat} {S T : Nat → Nat → Int32} {lv : Nat → Nat} {th mm iu bd : Int32} {mn : Nat} {av : Int32} {hf : rsH} {r : Nat} (hr : r < 14) : rsK G M_m_clearRow (rmO 0 0) [.ref (rsB G + 46), .int (nI r)] (rmd G S T lv th mm iu bd mn av hf) n (rsOk (none) (rmd G (rm_zr S r) (rm_zr T r) lv th mm iu bd mn av hf) n) := by
  have loop : ∀ (d i : Nat), i + d = 100 → rsV G M_m_clearRow (rmO 0 0) (rsOk (none) (rmd G (rm_zr S r) (rm_zr T r) lv th mm iu bd mn av hf) n) 0 0 2 [some (.ref (rsB G + 46)), some (.int (nI r)), some (.int (nI i))] [] (rmd G (rm_p S r (fun _ => 0) i) (rm_p T r (fun _ => 0) i) lv th mm iu bd mn av hf) n := by
    intro d
    induction d with
    | zero =>
      intro i hi
      obtain rfl : i = 100 := by omega
      refine rs_iload_n d_m_clearRow_2 rfl rfl ?_
      refine rs_bipush (v := (nI 100)) d_m_clearRow_3 rfl (by decide) ?_
      refine rs_icmp_ge (tgt := 38) d_m_clearRow_5 rfl (by decide) (fun _ => ?_) (fun hc => absurd (nI_le (by omega) (by omega)) hc)
      rw [rmd_eq (rm_pe S r _) (rm_pe T r _)]
      exact rs_vreturn d_m_clearRow_38 rfl ⟨rfl, rfl, rfl⟩
    | succ d ih =>
      intro i hi
      have hi100 : i < 100 := by omega
      refine rs_iload_n d_m_clearRow_2 rfl rfl ?_
      refine rs_bipush (v := (nI 100)) d_m_clearRow_3 rfl (by decide) ?_
      refine rs_icmp_ge (tgt := 38) d_m_clearRow_5 rfl (by decide) (fun hc => absurd hc (nI_ge (by omega) (by omega))) (fun _ => ?_)
      refine rs_aload_n d_m_clearRow_8 rfl rfl ?_
      refine rx_get_so d_m_clearRow_9 rfl f_m_17 ?_
      refine rs_bipush (v := (nI 100)) d_m_clearRow_12 rfl (by decide) ?_
      refine rs_iload_n d_m_clearRow_14 rfl rfl ?_
      refine rs_imul d_m_clearRow_15 rfl ?_
      refine rs_iload_n d_m_clearRow_16 rfl rfl ?_
      refine rs_iadd d_m_clearRow_17 rfl ?_
      refine rs_pix (rm_ix r i) ?_
      refine rs_iconst (v := 0) d_m_clearRow_18 rfl (by decide) ?_
      refine ry_st_s (by first | assumption | omega) (by first | assumption | omega) d_m_clearRow_19 rfl ?_
      rw [rm_pu (g := (fun _ => 0)) (x := 0) rfl]
      refine rs_aload_n d_m_clearRow_20 rfl rfl ?_
      refine rx_get_vs d_m_clearRow_21 rfl f_m_20 ?_
      refine rs_bipush (v := (nI 100)) d_m_clearRow_24 rfl (by decide) ?_
      refine rs_iload_n d_m_clearRow_26 rfl rfl ?_
      refine rs_imul d_m_clearRow_27 rfl ?_
      refine rs_iload_n d_m_clearRow_28 rfl rfl ?_
      refine rs_iadd d_m_clearRow_29 rfl ?_
      refine rs_pix (rm_ix r i) ?_
      refine rs_iconst (v := 0) d_m_clearRow_30 rfl (by decide) ?_
      refine ry_st_v (by first | assumption | omega) (by first | assumption | omega) d_m_clearRow_31 rfl ?_
      rw [rm_pu (g := (fun _ => 0)) (x := 0) rfl]
      refine rs_iinc d_m_clearRow_32 rfl (by decide) rfl (rs_inc1 i) rfl ?_
      refine rs_goto (tgt := 2) d_m_clearRow_35 (by decide) ?_
      exact ih (i + 1) (by omega)
  refine rsK_of pf_m_clearRow rfl (Nat.le_of_ble_eq_true rfl) rfl ?_
  refine rs_iconst (v := (nI 0)) d_m_clearRow_0 rfl (by decide) ?_
  refine rs_istore_n d_m_clearRow_1 rfl (by decide) rfl ?_
  refine rsV_eq ?_ (loop 100 0 (by omega))
  rw [rm_p0, rm_p0]
set_option maxRecDepth 100000 in
theorem k_m_copyRow {G : rsG} {n : Nat} {S T : Nat → Nat → Int32} {lv : Nat → Nat} {th mm iu bd : Int32} {mn : Nat} {av : Int32} {hf : rsH} {fr to : Nat} (hr : fr < 14) (ht : to < 14) : rsK G M_m_copyRow (rmO 0 0) [.ref (rsB G + 46), .int (nI fr), .int (nI to)] (rmd G S T lv th mm iu bd mn av hf) n (rsOk (none) (rmd G (rm_cp S fr to) (rm_cp T fr to) lv th mm iu bd mn av hf) n) := by
  have loop : ∀ (d i : Nat), i + d = 100 → rsV G M_m_copyRow (rmO 0 0) (rsOk (none) (rmd G (rm_cp S fr to) (rm_cp T fr to) lv th mm iu bd mn av hf) n) 0 0 2 [some (.ref (rsB G + 46)), some (.int (nI fr)), some (.int (nI to)), some (.int (nI i))] [] (rmd G (rm_p S to (S fr) i) (rm_p T to (T fr) i) lv th mm iu bd mn av hf) n := by
    intro d
    induction d with
    | zero =>
      intro i hi
      obtain rfl : i = 100 := by omega
      refine rs_iload_n d_m_copyRow_2 rfl rfl ?_
      refine rs_bipush (v := (nI 100)) d_m_copyRow_3 rfl (by decide) ?_
      refine rs_icmp_ge (tgt := 58) d_m_copyRow_5 rfl (by decide) (fun _ => ?_) (fun hc => absurd (nI_le (by omega) (by omega)) hc)
      rw [rmd_eq (rm_pe S to _) (rm_pe T to _)]
      exact rs_vreturn d_m_copyRow_58 rfl ⟨rfl, rfl, rfl⟩
    | succ d ih =>
      intro i hi
      have hi100 : i < 100 := by omega
      refine rs_iload_n d_m_copyRow_2 rfl rfl ?_
      refine rs_bipush (v := (nI 100)) d_m_copyRow_3 rfl (by decide) ?_
      refine rs_icmp_ge (tgt := 58) d_m_copyRow_5 rfl (by decide) (fun hc => absurd hc (nI_ge (by omega) (by omega))) (fun _ => ?_)
      refine rs_aload_n d_m_copyRow_8 rfl rfl ?_
      refine rx_get_so d_m_copyRow_9 rfl f_m_17 ?_
      refine rs_bipush (v := (nI 100)) d_m_copyRow_12 rfl (by decide) ?_
      refine rs_iload_n d_m_copyRow_14 rfl rfl ?_
      refine rs_imul d_m_copyRow_15 rfl ?_
      refine rs_iload_n d_m_copyRow_16 rfl rfl ?_
      refine rs_iadd d_m_copyRow_17 rfl ?_
      refine rs_pix (rm_ix to i) ?_
      refine rs_aload_n d_m_copyRow_18 rfl rfl ?_
      refine rx_get_so d_m_copyRow_19 rfl f_m_17 ?_
      refine rs_bipush (v := (nI 100)) d_m_copyRow_22 rfl (by decide) ?_
      refine rs_iload_n d_m_copyRow_24 rfl rfl ?_
      refine rs_imul d_m_copyRow_25 rfl ?_
      refine rs_iload_n d_m_copyRow_26 rfl rfl ?_
      refine rs_iadd d_m_copyRow_27 rfl ?_
      refine rs_pix (rm_ix fr i) ?_
      refine ry_ld_s (by first | assumption | omega) (by first | assumption | omega) d_m_copyRow_28 rfl ?_
      refine ry_st_s (by first | assumption | omega) (by first | assumption | omega) d_m_copyRow_29 rfl ?_
      rw [rm_pu (rm_p_at S to (S fr) i fr)]
      refine rs_aload_n d_m_copyRow_30 rfl rfl ?_
      refine rx_get_vs d_m_copyRow_31 rfl f_m_20 ?_
      refine rs_bipush (v := (nI 100)) d_m_copyRow_34 rfl (by decide) ?_
      refine rs_iload_n d_m_copyRow_36 rfl rfl ?_
      refine rs_imul d_m_copyRow_37 rfl ?_
      refine rs_iload_n d_m_copyRow_38 rfl rfl ?_
      refine rs_iadd d_m_copyRow_39 rfl ?_
      refine rs_pix (rm_ix to i) ?_
      refine rs_aload_n d_m_copyRow_40 rfl rfl ?_
      refine rx_get_vs d_m_copyRow_41 rfl f_m_20 ?_
      refine rs_bipush (v := (nI 100)) d_m_copyRow_44 rfl (by decide) ?_
      refine rs_iload_n d_m_copyRow_46 rfl rfl ?_
      refine rs_imul d_m_copyRow_47 rfl ?_
      refine rs_iload_n d_m_copyRow_48 rfl rfl ?_
      refine rs_iadd d_m_copyRow_49 rfl ?_
      refine rs_pix (rm_ix fr i) ?_
      refine ry_ld_v (by first | assumption | omega) (by first | assumption | omega) d_m_copyRow_50 rfl ?_
      refine ry_st_v (by first | assumption | omega) (by first | assumption | omega) d_m_copyRow_51 rfl ?_
      rw [rm_pu (rm_p_at T to (T fr) i fr)]
      refine rs_iinc d_m_copyRow_52 rfl (by decide) rfl (rs_inc1 i) rfl ?_
      refine rs_goto (tgt := 2) d_m_copyRow_55 (by decide) ?_
      exact ih (i + 1) (by omega)
  refine rsK_of pf_m_copyRow rfl (Nat.le_of_ble_eq_true rfl) rfl ?_
  refine rs_iconst (v := (nI 0)) d_m_copyRow_0 rfl (by decide) ?_
  refine rs_istore_n d_m_copyRow_1 rfl (by decide) rfl ?_
  refine rsV_eq ?_ (loop 100 0 (by omega))
  rw [rm_p0, rm_p0]
set_option maxRecDepth 100000 in
theorem k_m_sizeOf {G : rsG} {n : Nat} {S T : Nat → Nat → Int32} {lv : Nat → Nat} {th mm iu bd : Int32} {mn : Nat} {av : Int32} {hf : rsH} {r : Nat} (hr : r < 14) : rsK G M_m_sizeOf (rmO 0 0) [.ref (rsB G + 46), .int (nI r)] (rmd G S T lv th mm iu bd mn av hf) n (rsOk (some (.int (nI (rm_sz S r)))) (rmd G S T lv th mm iu bd mn av hf) n) := by
  have loop : ∀ (d i : Nat), i + d = 100 → rsV G M_m_sizeOf (rmO 0 0) (rsOk (some (.int (nI (rm_sz S r)))) (rmd G S T lv th mm iu bd mn av hf) n) 0 0 4 [some (.ref (rsB G + 46)), some (.int (nI r)), some (.int (nI (rp_cnt (fun k => decide (0 < S r k)) i))), some (.int (nI i))] [] (rmd G S T lv th mm iu bd mn av hf) n := by
    intro d
    induction d with
    | zero =>
      intro i hi
      obtain rfl : i = 100 := by omega
      refine rs_iload_n d_m_sizeOf_4 rfl rfl ?_
      refine rs_bipush (v := (nI 100)) d_m_sizeOf_5 rfl (by decide) ?_
      refine rs_icmp_ge (tgt := 38) d_m_sizeOf_7 rfl (by decide) (fun _ => ?_) (fun hc => absurd (nI_le (by omega) (by omega)) hc)
      refine rs_iload_n d_m_sizeOf_38 rfl rfl ?_
      exact rs_ireturn d_m_sizeOf_39 rfl ⟨rfl, rfl, rfl⟩
    | succ d ih =>
      intro i hi
      have hi100 : i < 100 := by omega
      refine rs_iload_n d_m_sizeOf_4 rfl rfl ?_
      refine rs_bipush (v := (nI 100)) d_m_sizeOf_5 rfl (by decide) ?_
      refine rs_icmp_ge (tgt := 38) d_m_sizeOf_7 rfl (by decide) (fun hc => absurd hc (nI_ge (by omega) (by omega))) (fun _ => ?_)
      refine rs_iload_n d_m_sizeOf_10 rfl rfl ?_
      refine rs_aload_n d_m_sizeOf_11 rfl rfl ?_
      refine rx_get_so d_m_sizeOf_12 rfl f_m_17 ?_
      refine rs_bipush (v := (nI 100)) d_m_sizeOf_15 rfl (by decide) ?_
      refine rs_iload_n d_m_sizeOf_17 rfl rfl ?_
      refine rs_imul d_m_sizeOf_18 rfl ?_
      refine rs_iload_n d_m_sizeOf_19 rfl rfl ?_
      refine rs_iadd d_m_sizeOf_20 rfl ?_
      refine rs_pix (rm_ix r i) ?_
      refine ry_ld_s (by first | assumption | omega) (by first | assumption | omega) d_m_sizeOf_21 rfl ?_
      by_cases hp : 0 < S r i
      · refine rs_if_le (tgt := 29) d_m_sizeOf_22 rfl (by decide) (fun hc => absurd hc (i32_nle hp)) (fun _ => ?_)
        refine rs_iconst (v := (nI 1)) d_m_sizeOf_25 rfl (by decide) ?_
        refine rs_goto (tgt := 30) d_m_sizeOf_26 (by decide) ?_
        refine rs_iadd d_m_sizeOf_30 rfl ?_
        refine rs_tope (nI_add _ _) ?_
        refine rs_istore_n d_m_sizeOf_31 rfl (by decide) rfl ?_
        refine rs_iinc d_m_sizeOf_32 rfl (by decide) rfl (rs_inc1 i) rfl ?_
        refine rs_goto (tgt := 4) d_m_sizeOf_35 (by decide) ?_
        have := ih (i + 1) (by omega)
        rw [rp_cnt_t (by simpa using hp)] at this
        exact this
      · refine rs_if_le (tgt := 29) d_m_sizeOf_22 rfl (by decide) (fun _ => ?_) (fun hc => absurd (i32_le hp) hc)
        refine rs_iconst (v := (nI 0)) d_m_sizeOf_29 rfl (by decide) ?_
        refine rs_iadd d_m_sizeOf_30 rfl ?_
        refine rs_tope (nI_add _ _) ?_
        refine rs_istore_n d_m_sizeOf_31 rfl (by decide) rfl ?_
        refine rs_iinc d_m_sizeOf_32 rfl (by decide) rfl (rs_inc1 i) rfl ?_
        refine rs_goto (tgt := 4) d_m_sizeOf_35 (by decide) ?_
        have := ih (i + 1) (by omega)
        rw [rp_cnt_f (by simpa using hp)] at this
        exact this
  refine rsK_of pf_m_sizeOf rfl (Nat.le_of_ble_eq_true rfl) rfl ?_
  refine rs_iconst (v := (nI 0)) d_m_sizeOf_0 rfl (by decide) ?_
  refine rs_istore_n d_m_sizeOf_1 rfl (by decide) rfl ?_
  refine rs_iconst (v := (nI 0)) d_m_sizeOf_2 rfl (by decide) ?_
  refine rs_istore_n d_m_sizeOf_3 rfl (by decide) rfl ?_
  exact loop 100 0 (by omega)
set_option maxRecDepth 100000 in
theorem k_m_blocksFor {G : rsG} {n : Nat} {h : rsH} {x : Nat} (hx : x ≤ 100) : rsK G M_m_blocksFor (rmO 0 0) [.int (nI x)] h n (rsOk (some (.int (nI ((x + 3) / 4)))) h n) := by
  refine rsK_of pf_m_blocksFor rfl (Nat.le_of_ble_eq_true rfl) rfl ?_
  refine rs_iload_n d_m_blocksFor_0 rfl rfl ?_
  refine rs_iconst (v := (nI 3)) d_m_blocksFor_1 rfl (by decide) ?_
  refine rs_iadd d_m_blocksFor_2 rfl ?_
  refine rs_iconst (v := (nI 4)) d_m_blocksFor_3 rfl (by decide) ?_
  refine rs_idiv d_m_blocksFor_4 rfl (by decide) ?_
  exact rs_ireturn d_m_blocksFor_5 rfl ⟨by rw [nI_add, pk_div (by omega) (by omega) (by omega)], rfl, rfl⟩
set_option maxRecDepth 100000 in
theorem k_m_freeBlocks {G : rsG} {n : Nat} {S T : Nat → Nat → Int32} {lv : Nat → Nat} {th mm iu bd : Int32} {mn : Nat} {av : Int32} {hf : rsH} (hm : mn ≤ 12) : rsK G M_m_freeBlocks (rmO 1 23) [.ref (rsB G + 46)] (rmd G S T lv th mm iu bd mn av hf) n (rsOk (some (.int (nI 40 - nI (rm_free S mn)))) (rmd G S T lv th mm iu bd mn av hf) n) := by
  have loop : ∀ (d i : Nat), i + d = mn → rsV G M_m_freeBlocks (rmO 1 23) (rsOk (some (.int (nI 40 - nI (rm_free S mn)))) (rmd G S T lv th mm iu bd mn av hf) n) 0 0 5 [some (.ref (rsB G + 46)), some (.int (nI 40 - nI (rm_free S i))), some (.int (nI i))] [] (rmd G S T lv th mm iu bd mn av hf) n := by
    intro d
    induction d with
    | zero =>
      intro i hi
      obtain rfl : i = mn := by omega
      refine rs_iload_n d_m_freeBlocks_5 rfl rfl ?_
      refine rs_aload_n d_m_freeBlocks_6 rfl rfl ?_
      refine rx_get_mn d_m_freeBlocks_7 rfl f_m_29 ?_
      refine rs_icmp_ge (tgt := 30) d_m_freeBlocks_10 rfl (by decide) (fun _ => ?_) (fun hc => absurd (nI_le (by omega) (by omega)) hc)
      refine rs_iload_n d_m_freeBlocks_30 rfl rfl ?_
      exact rs_ireturn d_m_freeBlocks_31 rfl ⟨rfl, rfl, rfl⟩
    | succ d ih =>
      intro i hi
      refine rs_iload_n d_m_freeBlocks_5 rfl rfl ?_
      refine rs_aload_n d_m_freeBlocks_6 rfl rfl ?_
      refine rx_get_mn d_m_freeBlocks_7 rfl f_m_29 ?_
      refine rs_icmp_ge (tgt := 30) d_m_freeBlocks_10 rfl (by decide) (fun hc => absurd hc (nI_ge (by omega) (by omega))) (fun _ => ?_)
      refine rs_iload_n d_m_freeBlocks_13 rfl rfl ?_
      refine rs_aload_n d_m_freeBlocks_14 rfl rfl ?_
      refine rs_iload_n d_m_freeBlocks_15 rfl rfl ?_
      refine rx_cV d_m_freeBlocks_16 rfl c_m_32 (by exact np_m_sizeOf) rm_o (k_m_sizeOf (by omega)) (by decide) ⟨rfl, rfl⟩ (Nat.le_of_ble_eq_true rfl) rfl ?_
      refine rx_cS d_m_freeBlocks_19 rfl c_m_36 (by exact np_m_blocksFor) (k_m_blocksFor (rm_sz_le S i)) (by decide) ⟨rfl, rfl⟩ (Nat.le_of_ble_eq_true rfl) rfl ?_
      refine rs_isub d_m_freeBlocks_22 rfl ?_
      refine rs_tope (rs_subsub _ _ _) ?_
      refine rs_istore_n d_m_freeBlocks_23 rfl (by decide) rfl ?_
      refine rs_iinc d_m_freeBlocks_24 rfl (by decide) rfl (rs_inc1 i) rfl ?_
      refine rs_goto (tgt := 5) d_m_freeBlocks_27 (by decide) ?_
      exact ih (i + 1) (by omega)
  refine rsK_of pf_m_freeBlocks rfl (Nat.le_of_ble_eq_true rfl) rfl ?_
  refine rs_bipush (v := nI 40 - nI (rm_free S 0)) d_m_freeBlocks_0 rfl (by show _ = nI 40 - nI 0; decide) ?_
  refine rs_istore_n d_m_freeBlocks_2 rfl (by decide) rfl ?_
  refine rs_iconst (v := (nI 0)) d_m_freeBlocks_3 rfl (by decide) ?_
  refine rs_istore_n d_m_freeBlocks_4 rfl (by decide) rfl ?_
  exact loop mn 0 (by omega)
set_option maxRecDepth 100000 in
theorem k_m_runsOf {G : rsG} {n : Nat} {S T : Nat → Nat → Int32} {lv : Nat → Nat} {th mm iu bd : Int32} {mn : Nat} {av : Int32} {hf : rsH} {x : Int32} (hm : mn ≤ 12) : rsK G M_m_runsOf (rmO 0 0) [.ref (rsB G + 46), .int x] (rmd G S T lv th mm iu bd mn av hf) n (rsOk (some (.int (nI (rp_cnt (fun i => decide (nI (lv i) = x)) mn)))) (rmd G S T lv th mm iu bd mn av hf) n) := by
  have loop : ∀ (d i : Nat), i + d = mn → rsV G M_m_runsOf (rmO 0 0) (rsOk (some (.int (nI (rp_cnt (fun i => decide (nI (lv i) = x)) mn)))) (rmd G S T lv th mm iu bd mn av hf) n) 0 0 4 [some (.ref (rsB G + 46)), some (.int x), some (.int (nI (rp_cnt (fun i => decide (nI (lv i) = x)) i))), some (.int (nI i))] [] (rmd G S T lv th mm iu bd mn av hf) n := by
    intro d
    induction d with
    | zero =>
      intro i hi
      obtain rfl : i = mn := by omega
      refine rs_iload_n d_m_runsOf_4 rfl rfl ?_
      refine rs_aload_n d_m_runsOf_5 rfl rfl ?_
      refine rx_get_mn d_m_runsOf_6 rfl f_m_29 ?_
      refine rs_icmp_ge (tgt := 36) d_m_runsOf_9 rfl (by decide) (fun _ => ?_) (fun hc => absurd (nI_le (by omega) (by omega)) hc)
      refine rs_iload_n d_m_runsOf_36 rfl rfl ?_
      exact rs_ireturn d_m_runsOf_37 rfl ⟨rfl, rfl, rfl⟩
    | succ d ih =>
      intro i hi
      refine rs_iload_n d_m_runsOf_4 rfl rfl ?_
      refine rs_aload_n d_m_runsOf_5 rfl rfl ?_
      refine rx_get_mn d_m_runsOf_6 rfl f_m_29 ?_
      refine rs_icmp_ge (tgt := 36) d_m_runsOf_9 rfl (by decide) (fun hc => absurd hc (nI_ge (by omega) (by omega))) (fun _ => ?_)
      refine rs_iload_n d_m_runsOf_12 rfl rfl ?_
      refine rs_aload_n d_m_runsOf_13 rfl rfl ?_
      refine rx_get_lv d_m_runsOf_14 rfl f_m_13 ?_
      refine rs_iload_n d_m_runsOf_17 rfl rfl ?_
      refine ry_ld_l (by first | assumption | omega) d_m_runsOf_18 rfl ?_
      refine rs_iload_n d_m_runsOf_19 rfl rfl ?_
      by_cases hp : nI (lv i) = x
      · refine rs_icmp_ne (tgt := 27) d_m_runsOf_20 rfl (by decide) (fun hc => absurd (hp) hc) (fun _ => ?_)
        refine rs_iconst (v := (nI 1)) d_m_runsOf_23 rfl (by decide) ?_
        refine rs_goto (tgt := 28) d_m_runsOf_24 (by decide) ?_
        refine rs_iadd d_m_runsOf_28 rfl ?_
        refine rs_tope (nI_add _ _) ?_
        refine rs_istore_n d_m_runsOf_29 rfl (by decide) rfl ?_
        refine rs_iinc d_m_runsOf_30 rfl (by decide) rfl (rs_inc1 i) rfl ?_
        refine rs_goto (tgt := 4) d_m_runsOf_33 (by decide) ?_
        have := ih (i + 1) (by omega)
        rw [rp_cnt_t (by simpa using hp)] at this
        exact this
      · refine rs_icmp_ne (tgt := 27) d_m_runsOf_20 rfl (by decide) (fun _ => ?_) (fun hc => absurd hc (hp))
        refine rs_iconst (v := (nI 0)) d_m_runsOf_27 rfl (by decide) ?_
        refine rs_iadd d_m_runsOf_28 rfl ?_
        refine rs_tope (nI_add _ _) ?_
        refine rs_istore_n d_m_runsOf_29 rfl (by decide) rfl ?_
        refine rs_iinc d_m_runsOf_30 rfl (by decide) rfl (rs_inc1 i) rfl ?_
        refine rs_goto (tgt := 4) d_m_runsOf_33 (by decide) ?_
        have := ih (i + 1) (by omega)
        rw [rp_cnt_f (by simpa using hp)] at this
        exact this
  refine rsK_of pf_m_runsOf rfl (Nat.le_of_ble_eq_true rfl) rfl ?_
  refine rs_iconst (v := (nI 0)) d_m_runsOf_0 rfl (by decide) ?_
  refine rs_istore_n d_m_runsOf_1 rfl (by decide) rfl ?_
  refine rs_iconst (v := (nI 0)) d_m_runsOf_2 rfl (by decide) ?_
  refine rs_istore_n d_m_runsOf_3 rfl (by decide) rfl ?_
  exact loop mn 0 (by omega)
set_option maxRecDepth 100000 in
theorem k_m_begin {G : rsG} {n : Nat} {S T : Nat → Nat → Int32} {lv : Nat → Nat} {th mm iu bd : Int32} {mn : Nat} {av : Int32} {hf : rsH} {x : Int32} {z : Nat} (hm : mn ≤ 12) (hz : z ≤ mn) (h0 : ∀ i, i < z → nI (lv i) < x) (h1 : z < mn → ¬ nI (lv z) < x) : rsK G M_m_begin (rmO 0 0) [.ref (rsB G + 46), .int x] (rmd G S T lv th mm iu bd mn av hf) n (rsOk (some (.int (nI z))) (rmd G S T lv th mm iu bd mn av hf) n) := by
  have loop : ∀ (d i : Nat), i + d = z → rsV G M_m_begin (rmO 0 0) (rsOk (some (.int (nI z))) (rmd G S T lv th mm iu bd mn av hf) n) 0 0 2 [some (.ref (rsB G + 46)), some (.int x), some (.int (nI i))] [] (rmd G S T lv th mm iu bd mn av hf) n := by
    intro d
    induction d with
    | zero =>
      intro i hi
      obtain rfl : i = z := by omega
      by_cases hzm : i < mn
      · refine ?_
        refine rs_iload_n d_m_begin_2 rfl rfl ?_
        refine rs_aload_n d_m_begin_3 rfl rfl ?_
        refine rx_get_mn d_m_begin_4 rfl f_m_29 ?_
        refine rs_icmp_ge (tgt := 26) d_m_begin_7 rfl (by decide) (fun hc => absurd hc (nI_ge hzm (by omega))) (fun _ => ?_)
        refine rs_aload_n d_m_begin_10 rfl rfl ?_
        refine rx_get_lv d_m_begin_11 rfl f_m_13 ?_
        refine rs_iload_n d_m_begin_14 rfl rfl ?_
        refine ry_ld_l (by first | assumption | omega) d_m_begin_15 rfl ?_
        refine rs_iload_n d_m_begin_16 rfl rfl ?_
        refine rs_icmp_ge (tgt := 26) d_m_begin_17 rfl (by decide) (fun _ => ?_) (fun hc => absurd (Int32.not_lt.mp (h1 hzm)) hc)
        refine rs_iload_n d_m_begin_26 rfl rfl ?_
        exact rs_ireturn d_m_begin_27 rfl ⟨rfl, rfl, rfl⟩
      · refine ?_
        refine rs_iload_n d_m_begin_2 rfl rfl ?_
        refine rs_aload_n d_m_begin_3 rfl rfl ?_
        refine rx_get_mn d_m_begin_4 rfl f_m_29 ?_
        refine rs_icmp_ge (tgt := 26) d_m_begin_7 rfl (by decide) (fun _ => ?_) (fun hc => absurd (nI_le (by omega) (by omega)) hc)
        refine rs_iload_n d_m_begin_26 rfl rfl ?_
        exact rs_ireturn d_m_begin_27 rfl ⟨rfl, rfl, rfl⟩
    | succ d ih =>
      intro i hi
      refine rs_iload_n d_m_begin_2 rfl rfl ?_
      refine rs_aload_n d_m_begin_3 rfl rfl ?_
      refine rx_get_mn d_m_begin_4 rfl f_m_29 ?_
      refine rs_icmp_ge (tgt := 26) d_m_begin_7 rfl (by decide) (fun hc => absurd hc (nI_ge (by omega) (by omega))) (fun _ => ?_)
      refine rs_aload_n d_m_begin_10 rfl rfl ?_
      refine rx_get_lv d_m_begin_11 rfl f_m_13 ?_
      refine rs_iload_n d_m_begin_14 rfl rfl ?_
      refine ry_ld_l (by first | assumption | omega) d_m_begin_15 rfl ?_
      refine rs_iload_n d_m_begin_16 rfl rfl ?_
      refine rs_icmp_ge (tgt := 26) d_m_begin_17 rfl (by decide) (fun hc => absurd hc (Int32.not_le.mpr (h0 i (by omega)))) (fun _ => ?_)
      refine rs_iinc d_m_begin_20 rfl (by decide) rfl (rs_inc1 i) rfl ?_
      refine rs_goto (tgt := 2) d_m_begin_23 (by decide) ?_
      exact ih (i + 1) (by omega)
  refine rsK_of pf_m_begin rfl (Nat.le_of_ble_eq_true rfl) rfl ?_
  refine rs_iconst (v := (nI 0)) d_m_begin_0 rfl (by decide) ?_
  refine rs_istore_n d_m_begin_1 rfl (by decide) rfl ?_
  exact loop z 0 (by omega)
set_option maxRecDepth 100000 in
theorem k_m_newest_mem {G : rsG} {n : Nat} {S T : Nat → Nat → Int32} {lv : Nat → Nat} {th mm iu bd : Int32} {mn : Nat} {av : Int32} {hf : rsH} {key : Nat} (hk : key < 100) (h1 : 0 < S 12 key) : rsK G M_m_newest (rmO 0 0) [.ref (rsB G + 46), .int (nI key)] (rmd G S T lv th mm iu bd mn av hf) n (rsOk (some (.int (nI 12))) (rmd G S T lv th mm iu bd mn av hf) n) := by
  refine rsK_of pf_m_newest rfl (Nat.le_of_ble_eq_true rfl) rfl ?_
  refine rs_aload_n d_m_newest_0 rfl rfl ?_
  refine rx_get_so d_m_newest_1 rfl f_m_17 ?_
  refine rs_sipush (v := (nI 1200)) d_m_newest_4 rfl (by decide) ?_
  refine rs_iload_n d_m_newest_7 rfl rfl ?_
  refine rs_iadd d_m_newest_8 rfl ?_
  refine rs_pix (rm_ix12 key) ?_
  refine ry_ld_s (by first | assumption | omega) (by first | assumption | omega) d_m_newest_9 rfl ?_
  refine rs_if_le (tgt := 16) d_m_newest_10 rfl (by decide) (fun hc => absurd hc (i32_nle h1)) (fun _ => ?_)
  refine rs_bipush (v := (nI 12)) d_m_newest_13 rfl (by decide) ?_
  exact rs_ireturn d_m_newest_15 rfl ⟨rfl, rfl, rfl⟩
set_option maxRecDepth 100000 in
theorem k_m_newest_none {G : rsG} {n : Nat} {S T : Nat → Nat → Int32} {lv : Nat → Nat} {th mm iu bd : Int32} {mn : Nat} {av : Int32} {hf : rsH} {key : Nat} (hk : key < 100) (hm : mn ≤ 12) (h1 : ¬ 0 < S 12 key) (h2 : ∀ i, i < mn → ¬ 0 < S i key) : rsK G M_m_newest (rmO 0 0) [.ref (rsB G + 46), .int (nI key)] (rmd G S T lv th mm iu bd mn av hf) n (rsOk (some (.int (-1))) (rmd G S T lv th mm iu bd mn av hf) n) := by
  have loop : ∀ (d i : Nat), i + d = mn → rsV G M_m_newest (rmO 0 0) (rsOk (some (.int (-1))) (rmd G S T lv th mm iu bd mn av hf) n) 0 0 18 [some (.ref (rsB G + 46)), some (.int (nI key)), some (.int (nI i))] [] (rmd G S T lv th mm iu bd mn av hf) n := by
    intro d
    induction d with
    | zero =>
      intro i hi
      obtain rfl : i = mn := by omega
      refine rs_iload_n d_m_newest_18 rfl rfl ?_
      refine rs_aload_n d_m_newest_19 rfl rfl ?_
      refine rx_get_mn d_m_newest_20 rfl f_m_29 ?_
      refine rs_icmp_ge (tgt := 48) d_m_newest_23 rfl (by decide) (fun _ => ?_) (fun hc => absurd (nI_le (by omega) (by omega)) hc)
      refine rs_iconst (v := (-1)) d_m_newest_48 rfl (by decide) ?_
      exact rs_ireturn d_m_newest_49 rfl ⟨rfl, rfl, rfl⟩
    | succ d ih =>
      intro i hi
      refine rs_iload_n d_m_newest_18 rfl rfl ?_
      refine rs_aload_n d_m_newest_19 rfl rfl ?_
      refine rx_get_mn d_m_newest_20 rfl f_m_29 ?_
      refine rs_icmp_ge (tgt := 48) d_m_newest_23 rfl (by decide) (fun hc => absurd hc (nI_ge (by omega) (by omega))) (fun _ => ?_)
      refine rs_aload_n d_m_newest_26 rfl rfl ?_
      refine rx_get_so d_m_newest_27 rfl f_m_17 ?_
      refine rs_bipush (v := (nI 100)) d_m_newest_30 rfl (by decide) ?_
      refine rs_iload_n d_m_newest_32 rfl rfl ?_
      refine rs_imul d_m_newest_33 rfl ?_
      refine rs_iload_n d_m_newest_34 rfl rfl ?_
      refine rs_iadd d_m_newest_35 rfl ?_
      refine rs_pix (rm_ix i key) ?_
      refine ry_ld_s (by first | assumption | omega) (by first | assumption | omega) d_m_newest_36 rfl ?_
      refine rs_if_le (tgt := 42) d_m_newest_37 rfl (by decide) (fun _ => ?_) (fun hc => absurd (i32_le (h2 i (by omega))) hc)
      refine rs_iinc d_m_newest_42 rfl (by decide) rfl (rs_inc1 i) rfl ?_
      refine rs_goto (tgt := 18) d_m_newest_45 (by decide) ?_
      exact ih (i + 1) (by omega)
  refine rsK_of pf_m_newest rfl (Nat.le_of_ble_eq_true rfl) rfl ?_
  refine rs_aload_n d_m_newest_0 rfl rfl ?_
  refine rx_get_so d_m_newest_1 rfl f_m_17 ?_
  refine rs_sipush (v := (nI 1200)) d_m_newest_4 rfl (by decide) ?_
  refine rs_iload_n d_m_newest_7 rfl rfl ?_
  refine rs_iadd d_m_newest_8 rfl ?_
  refine rs_pix (rm_ix12 key) ?_
  refine ry_ld_s (by first | assumption | omega) (by first | assumption | omega) d_m_newest_9 rfl ?_
  refine rs_if_le (tgt := 16) d_m_newest_10 rfl (by decide) (fun _ => ?_) (fun hc => absurd (i32_le h1) hc)
  refine rs_iconst (v := (nI 0)) d_m_newest_16 rfl (by decide) ?_
  refine rs_istore_n d_m_newest_17 rfl (by decide) rfl ?_
  exact loop mn 0 (by omega)
set_option maxRecDepth 100000 in
theorem k_m_newest_run {G : rsG} {n : Nat} {S T : Nat → Nat → Int32} {lv : Nat → Nat} {th mm iu bd : Int32} {mn : Nat} {av : Int32} {hf : rsH} {key z : Nat} (hk : key < 100) (hm : mn ≤ 12) (h1 : ¬ 0 < S 12 key) (hz : z < mn) (h2 : ∀ i, i < z → ¬ 0 < S i key) (h3 : 0 < S z key) : rsK G M_m_newest (rmO 0 0) [.ref (rsB G + 46), .int (nI key)] (rmd G S T lv th mm iu bd mn av hf) n (rsOk (some (.int (nI z))) (rmd G S T lv th mm iu bd mn av hf) n) := by
  have loop : ∀ (d i : Nat), i + d = z → rsV G M_m_newest (rmO 0 0) (rsOk (some (.int (nI z))) (rmd G S T lv th mm iu bd mn av hf) n) 0 0 18 [some (.ref (rsB G + 46)), some (.int (nI key)), some (.int (nI i))] [] (rmd G S T lv th mm iu bd mn av hf) n := by
    intro d
    induction d with
    | zero =>
      intro i hi
      obtain rfl : i = z := by omega
      refine rs_iload_n d_m_newest_18 rfl rfl ?_
      refine rs_aload_n d_m_newest_19 rfl rfl ?_
      refine rx_get_mn d_m_newest_20 rfl f_m_29 ?_
      refine rs_icmp_ge (tgt := 48) d_m_newest_23 rfl (by decide) (fun hc => absurd hc (nI_ge (by omega) (by omega))) (fun _ => ?_)
      refine rs_aload_n d_m_newest_26 rfl rfl ?_
      refine rx_get_so d_m_newest_27 rfl f_m_17 ?_
      refine rs_bipush (v := (nI 100)) d_m_newest_30 rfl (by decide) ?_
      refine rs_iload_n d_m_newest_32 rfl rfl ?_
      refine rs_imul d_m_newest_33 rfl ?_
      refine rs_iload_n d_m_newest_34 rfl rfl ?_
      refine rs_iadd d_m_newest_35 rfl ?_
      refine rs_pix (rm_ix i key) ?_
      refine ry_ld_s (by first | assumption | omega) (by first | assumption | omega) d_m_newest_36 rfl ?_
      refine rs_if_le (tgt := 42) d_m_newest_37 rfl (by decide) (fun hc => absurd hc (i32_nle h3)) (fun _ => ?_)
      refine rs_iload_n d_m_newest_40 rfl rfl ?_
      exact rs_ireturn d_m_newest_41 rfl ⟨rfl, rfl, rfl⟩
    | succ d ih =>
      intro i hi
      refine rs_iload_n d_m_newest_18 rfl rfl ?_
      refine rs_aload_n d_m_newest_19 rfl rfl ?_
      refine rx_get_mn d_m_newest_20 rfl f_m_29 ?_
      refine rs_icmp_ge (tgt := 48) d_m_newest_23 rfl (by decide) (fun hc => absurd hc (nI_ge (by omega) (by omega))) (fun _ => ?_)
      refine rs_aload_n d_m_newest_26 rfl rfl ?_
      refine rx_get_so d_m_newest_27 rfl f_m_17 ?_
      refine rs_bipush (v := (nI 100)) d_m_newest_30 rfl (by decide) ?_
      refine rs_iload_n d_m_newest_32 rfl rfl ?_
      refine rs_imul d_m_newest_33 rfl ?_
      refine rs_iload_n d_m_newest_34 rfl rfl ?_
      refine rs_iadd d_m_newest_35 rfl ?_
      refine rs_pix (rm_ix i key) ?_
      refine ry_ld_s (by first | assumption | omega) (by first | assumption | omega) d_m_newest_36 rfl ?_
      refine rs_if_le (tgt := 42) d_m_newest_37 rfl (by decide) (fun _ => ?_) (fun hc => absurd (i32_le (h2 i (by omega))) hc)
      refine rs_iinc d_m_newest_42 rfl (by decide) rfl (rs_inc1 i) rfl ?_
      refine rs_goto (tgt := 18) d_m_newest_45 (by decide) ?_
      exact ih (i + 1) (by omega)
  refine rsK_of pf_m_newest rfl (Nat.le_of_ble_eq_true rfl) rfl ?_
  refine rs_aload_n d_m_newest_0 rfl rfl ?_
  refine rx_get_so d_m_newest_1 rfl f_m_17 ?_
  refine rs_sipush (v := (nI 1200)) d_m_newest_4 rfl (by decide) ?_
  refine rs_iload_n d_m_newest_7 rfl rfl ?_
  refine rs_iadd d_m_newest_8 rfl ?_
  refine rs_pix (rm_ix12 key) ?_
  refine ry_ld_s (by first | assumption | omega) (by first | assumption | omega) d_m_newest_9 rfl ?_
  refine rs_if_le (tgt := 16) d_m_newest_10 rfl (by decide) (fun _ => ?_) (fun hc => absurd (i32_le h1) hc)
  refine rs_iconst (v := (nI 0)) d_m_newest_16 rfl (by decide) ?_
  refine rs_istore_n d_m_newest_17 rfl (by decide) rfl ?_
  exact loop z 0 (by omega)
theorem k_m_newest {G : rsG} {n : Nat} {S T : Nat → Nat → Int32} {lv : Nat → Nat} {th mm iu bd : Int32} {mn : Nat} {av : Int32} {hf : rsH} {key : Nat} (hk : key < 100) (hm : mn ≤ 12) : rsK G M_m_newest (rmO 0 0) [.ref (rsB G + 46), .int (nI key)] (rmd G S T lv th mm iu bd mn av hf) n (rsOk (some (.int (rm_nv (rm_nw S mn key)))) (rmd G S T lv th mm iu bd mn av hf) n) := by
  unfold rm_nw
  by_cases h1 : 0 < S 12 key
  · rw [if_pos h1]; exact k_m_newest_mem hk h1
  · rw [if_neg h1]
    cases hq : rp_find (fun i => decide (0 < S i key)) mn with
    | none => exact k_m_newest_none hk hm h1 (fun i hi => by have := rp_find_none hq i hi; simpa using this)
    | some z =>
      obtain ⟨g1, g2, g3⟩ := rp_find_some hq
      exact k_m_newest_run hk hm h1 g1 (fun i hi => by have := g3 i hi; simpa using this) (by simpa using g2)
set_option maxRecDepth 100000 in
theorem k_m_isThere {G : rsG} {n : Nat} {S T : Nat → Nat → Int32} {lv : Nat → Nat} {th mm iu bd : Int32} {mn : Nat} {av : Int32} {hf : rsH} {key : Nat} (hk : key < 100) (hm : mn ≤ 12) : rsK G M_m_isThere (rmO 1 22) [.ref (rsB G + 46), .int (nI key)] (rmd G S T lv th mm iu bd mn av hf) n (rsOk (some (.int (rm_th S mn key))) (rmd G S T lv th mm iu bd mn av hf) n) := by
  refine rsK_of pf_m_isThere rfl (Nat.le_of_ble_eq_true rfl) rfl ?_
  refine rs_aload_n d_m_isThere_0 rfl rfl ?_
  refine rs_iload_n d_m_isThere_1 rfl rfl ?_
  refine rx_cV d_m_isThere_2 rfl c_m_39 (by exact np_m_newest) rm_o (k_m_newest hk hm) (by decide) ⟨rfl, rfl⟩ (Nat.le_of_ble_eq_true rfl) rfl ?_
  refine rs_istore_n d_m_isThere_5 rfl (by decide) rfl ?_
  refine rs_iload_n d_m_isThere_6 rfl rfl ?_
  unfold rm_th
  cases hn : rm_nw S mn key with
  | none =>
    refine rs_if_lt (tgt := 29) d_m_isThere_7 rfl (by decide) (fun _ => ?_) (fun hc => absurd ((by decide : (-1 : Int32) < 0)) hc)
    refine rs_iconst (v := 0) d_m_isThere_29 rfl (by decide) ?_
    exact rs_zreturn d_m_isThere_30 rfl rfl ⟨rfl, rfl, rfl⟩
  | some j =>
    have hj := rm_nw_le hm hn
    refine rs_if_lt (tgt := 29) d_m_isThere_7 rfl (by decide) (fun hc => absurd hc (nI_pos (by omega))) (fun _ => ?_)
    refine rs_aload_n d_m_isThere_10 rfl rfl ?_
    refine rx_get_so d_m_isThere_11 rfl f_m_17 ?_
    refine rs_bipush (v := (nI 100)) d_m_isThere_14 rfl (by decide) ?_
    refine rs_iload_n d_m_isThere_16 rfl rfl ?_
    refine rs_imul d_m_isThere_17 rfl ?_
    refine rs_iload_n d_m_isThere_18 rfl rfl ?_
    refine rs_iadd d_m_isThere_19 rfl ?_
    refine rs_pix (rm_ix j key) ?_
    refine ry_ld_s (by first | assumption | omega) (by first | assumption | omega) d_m_isThere_20 rfl ?_
    refine rs_iconst (v := 1) d_m_isThere_21 rfl (by decide) ?_
    by_cases h1 : S j key = 1
    · refine rs_icmp_ne (tgt := 29) d_m_isThere_22 rfl (by decide) (fun hc => absurd (h1) hc) (fun _ => ?_)
      refine rs_iconst (v := 1) d_m_isThere_25 rfl (by decide) ?_
      refine rs_goto (tgt := 30) d_m_isThere_26 (by decide) ?_
      exact rs_zreturn d_m_isThere_30 rfl rfl ⟨by simp only [h1, if_true], rfl, rfl⟩
    · refine rs_icmp_ne (tgt := 29) d_m_isThere_22 rfl (by decide) (fun _ => ?_) (fun hc => absurd hc (h1))
      refine rs_iconst (v := 0) d_m_isThere_29 rfl (by decide) ?_
      exact rs_zreturn d_m_isThere_30 rfl rfl ⟨by simp only [h1, if_false], rfl, rfl⟩
set_option maxRecDepth 100000 in
theorem k_m_goDown {G : rsG} {n : Nat} {S T : Nat → Nat → Int32} {lv : Nat → Nat} {th mm iu bd : Int32} {mn : Nat} {av : Int32} {hf : rsH}  : rsK G M_m_goDown (rmO 1 22) [.ref (rsB G + 46)] (rmd G S T lv th mm iu bd mn av hf) n (rsOk (none) (rmd G (rm_zr S 12) (rm_zr T 12) lv th mm 0 (-1) mn (-1) hf) n) := by
  refine rsK_of pf_m_goDown rfl (Nat.le_of_ble_eq_true rfl) rfl ?_
  refine rs_aload_n d_m_goDown_0 rfl rfl ?_
  refine rs_iconst (v := 0) d_m_goDown_1 rfl (by decide) ?_
  refine rx_put_iu d_m_goDown_2 rfl p_m_42 rfl rfl ?_
  refine rs_aload_n d_m_goDown_5 rfl rfl ?_
  refine rs_iconst (v := (-1)) d_m_goDown_6 rfl (by decide) ?_
  refine rx_put_bd d_m_goDown_7 rfl p_m_9 ?_
  refine rs_aload_n d_m_goDown_10 rfl rfl ?_
  refine rs_iconst (v := (-1)) d_m_goDown_11 rfl (by decide) ?_
  refine rx_put_at d_m_goDown_12 rfl p_m_23 ?_
  refine rs_aload_n d_m_goDown_15 rfl rfl ?_
  refine rs_bipush (v := (nI 12)) d_m_goDown_16 rfl (by decide) ?_
  refine rx_cV d_m_goDown_18 rfl c_m_46 (by exact np_m_clearRow) rm_o (k_m_clearRow (by decide)) (by decide) ⟨rfl, rfl⟩ (Nat.le_of_ble_eq_true rfl) rfl ?_
  exact rs_vreturn d_m_goDown_21 rfl ⟨rfl, rfl, rfl⟩
set_option maxRecDepth 100000 in
theorem k_m_writes_ok {G : rsG} {n : Nat} {S T : Nat → Nat → Int32} {lv : Nat → Nat} {th mm iu bd : Int32} {mn : Nat} {av : Int32} {hf : rsH} {x bd' : Int32} (hbd : bd = -1 ∨ 0 ≤ bd) (h : rp_sp bd x = some bd') : rsK G M_m_writes (rmO 2 42) [.ref (rsB G + 46), .int x] (rmd G S T lv th mm iu bd mn av hf) n (rsOk (some (.int 1)) (rmd G S T lv th mm iu bd' mn av hf) n) := by
  refine rsK_of pf_m_writes rfl (Nat.le_of_ble_eq_true rfl) rfl ?_
  unfold rp_sp at h
  refine rs_aload_n d_m_writes_0 rfl rfl ?_
  refine rx_get_bd d_m_writes_1 rfl f_m_9 ?_
  by_cases h1 : bd = -1
  · subst h1
    rw [if_pos rfl] at h
    cases h
    refine rs_if_lt (tgt := 21) d_m_writes_4 rfl (by decide) (fun _ => ?_) (fun hc => absurd (by decide) hc)
    refine rs_aload_n d_m_writes_21 rfl rfl ?_
    refine rs_aload_n d_m_writes_22 rfl rfl ?_
    refine rx_get_bd d_m_writes_23 rfl f_m_9 ?_
    refine rs_if_ge (tgt := 36) d_m_writes_26 rfl (by decide) (fun hc => absurd hc (by decide)) (fun _ => ?_)
    refine rs_aload_n d_m_writes_29 rfl rfl ?_
    refine rx_get_bd d_m_writes_30 rfl f_m_9 ?_
    refine rs_goto (tgt := 42) d_m_writes_33 (by decide) ?_
    refine rx_put_bd d_m_writes_42 rfl p_m_9 ?_
    refine rs_iconst (v := 1) d_m_writes_45 rfl (by decide) ?_
    exact rs_zreturn d_m_writes_46 rfl rfl ⟨rfl, rfl, rfl⟩
  · rw [if_neg h1] at h
    by_cases h2 : x ≤ bd
    · rw [if_pos h2] at h
      cases h
      have h3 : 0 ≤ bd := hbd.resolve_left h1
      refine rs_if_lt (tgt := 21) d_m_writes_4 rfl (by decide) (fun hc => absurd hc (Int32.not_lt.mpr h3)) (fun _ => ?_)
      refine rs_aload_n d_m_writes_7 rfl rfl ?_
      refine rx_get_bd d_m_writes_8 rfl f_m_9 ?_
      refine rs_iload_n d_m_writes_11 rfl rfl ?_
      refine rs_icmp_ge (tgt := 21) d_m_writes_12 rfl (by decide) (fun _ => ?_) (fun hc => absurd (h2) hc)
      refine rs_aload_n d_m_writes_21 rfl rfl ?_
      refine rs_aload_n d_m_writes_22 rfl rfl ?_
      refine rx_get_bd d_m_writes_23 rfl f_m_9 ?_
      refine rs_if_ge (tgt := 36) d_m_writes_26 rfl (by decide) (fun _ => ?_) (fun hc => absurd (h3) hc)
      refine rs_aload_n d_m_writes_36 rfl rfl ?_
      refine rx_get_bd d_m_writes_37 rfl f_m_9 ?_
      refine rs_iload_n d_m_writes_40 rfl rfl ?_
      refine rs_isub d_m_writes_41 rfl ?_
      refine rx_put_bd d_m_writes_42 rfl p_m_9 ?_
      refine rs_iconst (v := 1) d_m_writes_45 rfl (by decide) ?_
      exact rs_zreturn d_m_writes_46 rfl rfl ⟨rfl, rfl, rfl⟩
    · rw [if_neg h2] at h
      cases h
set_option maxRecDepth 100000 in
theorem k_m_writes_no {G : rsG} {n : Nat} {S T : Nat → Nat → Int32} {lv : Nat → Nat} {th mm iu bd : Int32} {mn : Nat} {av : Int32} {hf : rsH} {x : Int32} (hbd : bd = -1 ∨ 0 ≤ bd) (h : rp_sp bd x = none) : rsK G M_m_writes (rmO 2 42) [.ref (rsB G + 46), .int x] (rmd G S T lv th mm iu bd mn av hf) n (rsOk (some (.int 0)) (rmd G (rm_zr S 12) (rm_zr T 12) lv th mm 0 (-1) mn (-1) hf) n) := by
  refine rsK_of pf_m_writes rfl (Nat.le_of_ble_eq_true rfl) rfl ?_
  unfold rp_sp at h
  refine rs_aload_n d_m_writes_0 rfl rfl ?_
  refine rx_get_bd d_m_writes_1 rfl f_m_9 ?_
  by_cases h1 : bd = -1
  · rw [if_pos h1] at h
    cases h
  · rw [if_neg h1] at h
    by_cases h2 : x ≤ bd
    · rw [if_pos h2] at h
      cases h
    · have h3 : 0 ≤ bd := hbd.resolve_left h1
      refine rs_if_lt (tgt := 21) d_m_writes_4 rfl (by decide) (fun hc => absurd hc (Int32.not_lt.mpr h3)) (fun _ => ?_)
      refine rs_aload_n d_m_writes_7 rfl rfl ?_
      refine rx_get_bd d_m_writes_8 rfl f_m_9 ?_
      refine rs_iload_n d_m_writes_11 rfl rfl ?_
      refine rs_icmp_ge (tgt := 21) d_m_writes_12 rfl (by decide) (fun hc => absurd hc (h2)) (fun _ => ?_)
      refine rs_aload_n d_m_writes_15 rfl rfl ?_
      refine rx_cV d_m_writes_16 rfl c_m_50 (by exact np_m_goDown) rm_o (k_m_goDown) (by decide) ⟨rfl, rfl⟩ (Nat.le_of_ble_eq_true rfl) rfl ?_
      refine rs_iconst (v := 0) d_m_writes_19 rfl (by decide) ?_
      exact rs_zreturn d_m_writes_20 rfl rfl ⟨rfl, rfl, rfl⟩
end
section
/-! 22: the reference: insert, takeOut, flushed, merged, enter (written by gen_model2.py) -/
set_option maxRecDepth 100000 in
theorem k_m_insert {G : rsG} {n : Nat} {S T : Nat → Nat → Int32} {lv : Nat → Nat} {th mm iu bd : Int32} {mn : Nat} {av : Int32} {hf : rsH} {p ll : Nat} (hm : mn ≤ 11) (hp : p ≤ mn) : rsK G M_m_insert (rmO 1 23) [.ref (rsB G + 46), .int (nI p), .int (nI ll)] (rmd G S T lv th mm iu bd mn av hf) n (rsOk none (rmd G (rm_cp (rm_D mn S p) 13 p) (rm_cp (rm_D mn T p) 13 p) (va_up (rm_D mn lv p) p ll) th mm iu bd (mn + 1) av hf) n) := by
  have loop : ∀ (d i : Nat), p + d = i → i ≤ mn → rsV G M_m_insert (rmO 1 23) (rsOk none (rmd G (rm_cp (rm_D mn S p) 13 p) (rm_cp (rm_D mn T p) 13 p) (va_up (rm_D mn lv p) p ll) th mm iu bd (mn + 1) av hf) n) 0 0 5 [some (.ref (rsB G + 46)), some (.int (nI p)), some (.int (nI ll)), some (.int (nI i))] [] (rmd G (rm_D mn S i) (rm_D mn T i) (rm_D mn lv i) th mm iu bd mn av hf) n := by
    intro d
    induction d with
    | zero =>
      intro i hi him
      obtain rfl : i = p := by omega
      refine rs_iload_n d_m_insert_5 rfl rfl ?_
      refine rs_iload_n d_m_insert_6 rfl rfl ?_
      refine rs_icmp_le (tgt := 38) d_m_insert_7 rfl (by decide) (fun _ => ?_) (fun hc => absurd (nI_le (by omega) (by omega)) hc)
      refine rs_aload_n d_m_insert_38 rfl rfl ?_
      refine rs_bipush (v := (nI 13)) d_m_insert_39 rfl (by decide) ?_
      refine rs_iload_n d_m_insert_41 rfl rfl ?_
      refine rx_cV d_m_insert_42 rfl c_m_53 (by exact np_m_copyRow) rm_o (k_m_copyRow (by decide) (by omega)) (by decide) ⟨rfl, rfl⟩ (Nat.le_of_ble_eq_true rfl) rfl ?_
      refine rs_aload_n d_m_insert_45 rfl rfl ?_
      refine rx_get_lv d_m_insert_46 rfl f_m_13 ?_
      refine rs_iload_n d_m_insert_49 rfl rfl ?_
      refine rs_iload_n d_m_insert_50 rfl rfl ?_
      refine ry_st_l (by first | assumption | omega) d_m_insert_51 rfl ?_
      refine rs_aload_n d_m_insert_52 rfl rfl ?_
      refine rs_dup d_m_insert_53 rfl rfl ?_
      refine rx_get_mn d_m_insert_54 rfl f_m_29 ?_
      refine rs_iconst (v := (nI 1)) d_m_insert_57 rfl (by decide) ?_
      refine rs_iadd d_m_insert_58 rfl ?_
      refine rs_tope (nI_add _ _) ?_
      refine rx_put_mn d_m_insert_59 rfl p_m_29 ?_
      exact rs_vreturn d_m_insert_62 rfl ⟨rfl, rfl, rfl⟩
    | succ d ih =>
      intro i hi him
      obtain ⟨k, rfl⟩ : ∃ k, i = k + 1 := ⟨i - 1, by omega⟩
      refine rs_iload_n d_m_insert_5 rfl rfl ?_
      refine rs_iload_n d_m_insert_6 rfl rfl ?_
      refine rs_icmp_le (tgt := 38) d_m_insert_7 rfl (by decide) (fun hc => absurd hc (nI_ge (by omega) (by omega))) (fun _ => ?_)
      refine rs_aload_n d_m_insert_10 rfl rfl ?_
      refine rs_iload_n d_m_insert_11 rfl rfl ?_
      refine rs_iconst (v := (nI 1)) d_m_insert_12 rfl (by decide) ?_
      refine rs_isub d_m_insert_13 rfl ?_
      refine rs_tope (y := nI k) (by rw [pk_sub (by omega), Nat.add_sub_cancel]) ?_
      refine rs_iload_n d_m_insert_14 rfl rfl ?_
      refine rx_cV d_m_insert_15 rfl c_m_53 (by exact np_m_copyRow) rm_o (k_m_copyRow (by omega) (by omega)) (by decide) ⟨rfl, rfl⟩ (Nat.le_of_ble_eq_true rfl) rfl ?_
      rw [show rm_cp (rm_D mn S (k + 1)) k (k + 1) = rm_D mn S k from rm_Du S (by omega), show rm_cp (rm_D mn T (k + 1)) k (k + 1) = rm_D mn T k from rm_Du T (by omega)]
      refine rs_aload_n d_m_insert_18 rfl rfl ?_
      refine rx_get_lv d_m_insert_19 rfl f_m_13 ?_
      refine rs_iload_n d_m_insert_22 rfl rfl ?_
      refine rs_aload_n d_m_insert_23 rfl rfl ?_
      refine rx_get_lv d_m_insert_24 rfl f_m_13 ?_
      refine rs_iload_n d_m_insert_27 rfl rfl ?_
      refine rs_iconst (v := (nI 1)) d_m_insert_28 rfl (by decide) ?_
      refine rs_isub d_m_insert_29 rfl ?_
      refine rs_tope (y := nI k) (by rw [pk_sub (by omega), Nat.add_sub_cancel]) ?_
      refine ry_ld_l (by first | assumption | omega) d_m_insert_30 rfl ?_
      refine ry_st_l (by first | assumption | omega) d_m_insert_31 rfl ?_
      rw [rm_Du lv (by omega)]
      refine rs_iinc d_m_insert_32 rfl (by decide) rfl (rs_dec1 k) rfl ?_
      refine rs_goto (tgt := 5) d_m_insert_35 (by decide) ?_
      exact ih k (by omega) (by omega)
  refine rsK_of pf_m_insert rfl (Nat.le_of_ble_eq_true rfl) rfl ?_
  refine rs_aload_n d_m_insert_0 rfl rfl ?_
  refine rx_get_mn d_m_insert_1 rfl f_m_29 ?_
  refine rs_istore_n d_m_insert_4 rfl (by decide) rfl ?_
  refine rsV_eq ?_ (loop (mn - p) mn (by omega) (by omega))
  rw [rm_Dm, rm_Dm, rm_Dm]
set_option maxRecDepth 100000 in
theorem k_m_takeOut {G : rsG} {n : Nat} {S T : Nat → Nat → Int32} {lv : Nat → Nat} {th mm iu bd : Int32} {mn : Nat} {av : Int32} {hf : rsH} {p : Nat} (hm : mn ≤ 11) (hp : p ≤ mn) : rsK G M_m_takeOut (rmO 1 23) [.ref (rsB G + 46), .int (nI p)] (rmd G S T lv th mm iu bd (mn + 1) av hf) n (rsOk none (rmd G (rm_E S p mn) (rm_E T p mn) (rm_E lv p mn) th mm iu bd mn av hf) n) := by
  have loop : ∀ (d i : Nat), i + d = mn → p ≤ i → rsV G M_m_takeOut (rmO 1 23) (rsOk none (rmd G (rm_E S p mn) (rm_E T p mn) (rm_E lv p mn) th mm iu bd mn av hf) n) 0 0 12 [some (.ref (rsB G + 46)), some (.int (nI p)), some (.int (nI i))] [] (rmd G (rm_E S p i) (rm_E T p i) (rm_E lv p i) th mm iu bd mn av hf) n := by
    intro d
    induction d with
    | zero =>
      intro i hi hpi
      obtain rfl : i = mn := by omega
      refine rs_iload_n d_m_takeOut_12 rfl rfl ?_
      refine rs_aload_n d_m_takeOut_13 rfl rfl ?_
      refine rx_get_mn d_m_takeOut_14 rfl f_m_29 ?_
      refine rs_icmp_ge (tgt := 48) d_m_takeOut_17 rfl (by decide) (fun _ => ?_) (fun hc => absurd (nI_le (by omega) (by omega)) hc)
      exact rs_vreturn d_m_takeOut_48 rfl ⟨rfl, rfl, rfl⟩
    | succ d ih =>
      intro i hi hpi
      refine rs_iload_n d_m_takeOut_12 rfl rfl ?_
      refine rs_aload_n d_m_takeOut_13 rfl rfl ?_
      refine rx_get_mn d_m_takeOut_14 rfl f_m_29 ?_
      refine rs_icmp_ge (tgt := 48) d_m_takeOut_17 rfl (by decide) (fun hc => absurd hc (nI_ge (by omega) (by omega))) (fun _ => ?_)
      refine rs_aload_n d_m_takeOut_20 rfl rfl ?_
      refine rs_iload_n d_m_takeOut_21 rfl rfl ?_
      refine rs_iconst (v := (nI 1)) d_m_takeOut_22 rfl (by decide) ?_
      refine rs_iadd d_m_takeOut_23 rfl ?_
      refine rs_tope (nI_add _ _) ?_
      refine rs_iload_n d_m_takeOut_24 rfl rfl ?_
      refine rx_cV d_m_takeOut_25 rfl c_m_53 (by exact np_m_copyRow) rm_o (k_m_copyRow (by omega) (by omega)) (by decide) ⟨rfl, rfl⟩ (Nat.le_of_ble_eq_true rfl) rfl ?_
      rw [show rm_cp (rm_E S p i) (i + 1) i = rm_E S p (i + 1) from rm_Eu S hpi, show rm_cp (rm_E T p i) (i + 1) i = rm_E T p (i + 1) from rm_Eu T hpi]
      refine rs_aload_n d_m_takeOut_28 rfl rfl ?_
      refine rx_get_lv d_m_takeOut_29 rfl f_m_13 ?_
      refine rs_iload_n d_m_takeOut_32 rfl rfl ?_
      refine rs_aload_n d_m_takeOut_33 rfl rfl ?_
      refine rx_get_lv d_m_takeOut_34 rfl f_m_13 ?_
      refine rs_iload_n d_m_takeOut_37 rfl rfl ?_
      refine rs_iconst (v := (nI 1)) d_m_takeOut_38 rfl (by decide) ?_
      refine rs_iadd d_m_takeOut_39 rfl ?_
      refine rs_tope (nI_add _ _) ?_
      refine ry_ld_l (by first | assumption | omega) d_m_takeOut_40 rfl ?_
      refine ry_st_l (by first | assumption | omega) d_m_takeOut_41 rfl ?_
      rw [rm_Eu lv hpi]
      refine rs_iinc d_m_takeOut_42 rfl (by decide) rfl (rs_inc1 i) rfl ?_
      refine rs_goto (tgt := 12) d_m_takeOut_45 (by decide) ?_
      exact ih (i + 1) (by omega) (by omega)
  refine rsK_of pf_m_takeOut rfl (Nat.le_of_ble_eq_true rfl) rfl ?_
  refine rs_aload_n d_m_takeOut_0 rfl rfl ?_
  refine rs_dup d_m_takeOut_1 rfl rfl ?_
  refine rx_get_mn d_m_takeOut_2 rfl f_m_29 ?_
  refine rs_iconst (v := (nI 1)) d_m_takeOut_5 rfl (by decide) ?_
  refine rs_isub d_m_takeOut_6 rfl ?_
  refine rs_tope (y := nI mn) (by rw [pk_sub (by omega), Nat.add_sub_cancel]) ?_
  refine rx_put_mn d_m_takeOut_7 rfl p_m_29 ?_
  refine rs_iload_n d_m_takeOut_10 rfl rfl ?_
  refine rs_istore_n d_m_takeOut_11 rfl (by decide) rfl ?_
  refine rsV_eq ?_ (loop (mn - p) p (by omega) (by omega))
  rw [rm_E0, rm_E0, rm_E0]
theorem rp_nz0 {x : Nat} (h : 0 < x) (h2 : x < 2 ^ 31) : ¬ nI x = 0 := fun e => by
  have h1 := congrArg Int32.toInt e
  rw [nI_toInt h2] at h1
  have h3 : (0 : Int32).toInt = 0 := by decide
  rw [h3] at h1
  omega
theorem rp_ne {x y : Nat} (h : x ≠ y) (h2 : x < 2 ^ 31) (h3 : y < 2 ^ 31) : ¬ nI x = nI y := fun e => by
  have h1 := congrArg Int32.toInt e
  rw [nI_toInt h2, nI_toInt h3] at h1
  omega
set_option maxRecDepth 100000 in
theorem k_m_fl_zero {G : rsG} {n : Nat} {S T : Nat → Nat → Int32} {lv : Nat → Nat} {th mm iu bd : Int32} {mn : Nat} {av : Int32} {hf : rsH} (h0 : (rm_sz S 12) = 0) : rsK G M_m_flushed (rmO 3 63) [.ref (rsB G + 46)] (rmd G S T lv th mm iu bd mn av hf) n (rsOk (some (.int 0)) (rmd G S T lv th mm iu bd mn av hf) n) := by
  refine rsK_of pf_m_flushed rfl (Nat.le_of_ble_eq_true rfl) rfl ?_
  refine rs_aload_n d_m_flushed_0 rfl rfl ?_
  refine rs_bipush (v := (nI 12)) d_m_flushed_1 rfl (by decide) ?_
  refine rx_cV d_m_flushed_3 rfl c_m_32 (by exact np_m_sizeOf) rm_o (k_m_sizeOf (by decide)) (by decide) ⟨rfl, rfl⟩ (Nat.le_of_ble_eq_true rfl) rfl ?_
  refine rs_istore_n d_m_flushed_6 rfl (by decide) rfl ?_
  refine rs_iload_n d_m_flushed_7 rfl rfl ?_
  rw [h0]
  refine rs_if_ne (tgt := 13) d_m_flushed_8 rfl (by decide) (fun hc => absurd (nI_0) hc) (fun _ => ?_)
  refine rs_iconst (v := 0) d_m_flushed_11 rfl (by decide) ?_
  exact rs_ireturn d_m_flushed_12 rfl ⟨rfl, rfl, rfl⟩
set_option maxRecDepth 100000 in
theorem k_m_fl_full {G : rsG} {n : Nat} {S T : Nat → Nat → Int32} {lv : Nat → Nat} {th mm iu bd : Int32} {mn : Nat} {av : Int32} {hf : rsH} (h0 : 0 < (rm_sz S 12)) (hm : mn = 12) : rsK G M_m_flushed (rmO 3 63) [.ref (rsB G + 46)] (rmd G S T lv th mm iu bd mn av hf) n (rsOk (some (.int 2)) (rmd G S T lv th mm iu bd mn av hf) n) := by
  refine rsK_of pf_m_flushed rfl (Nat.le_of_ble_eq_true rfl) rfl ?_
  subst hm
  refine rs_aload_n d_m_flushed_0 rfl rfl ?_
  refine rs_bipush (v := (nI 12)) d_m_flushed_1 rfl (by decide) ?_
  refine rx_cV d_m_flushed_3 rfl c_m_32 (by exact np_m_sizeOf) rm_o (k_m_sizeOf (by decide)) (by decide) ⟨rfl, rfl⟩ (Nat.le_of_ble_eq_true rfl) rfl ?_
  refine rs_istore_n d_m_flushed_6 rfl (by decide) rfl ?_
  refine rs_iload_n d_m_flushed_7 rfl rfl ?_
  refine rs_if_ne (tgt := 13) d_m_flushed_8 rfl (by decide) (fun _ => ?_) (fun hc => absurd hc (rp_nz0 h0 (by have := rm_sz_le S 12; omega)))
  refine rs_aload_n d_m_flushed_13 rfl rfl ?_
  refine rx_get_mn d_m_flushed_14 rfl f_m_29 ?_
  refine rs_bipush (v := (nI 12)) d_m_flushed_17 rfl (by decide) ?_
  refine rs_icmp_eq (tgt := 33) d_m_flushed_19 rfl (by decide) (fun _ => ?_) (fun hc => absurd (rfl) hc)
  refine rs_iconst (v := 2) d_m_flushed_33 rfl (by decide) ?_
  exact rs_ireturn d_m_flushed_34 rfl ⟨rfl, rfl, rfl⟩
set_option maxRecDepth 100000 in
theorem k_m_fl_noroom {G : rsG} {n : Nat} {S T : Nat → Nat → Int32} {lv : Nat → Nat} {th mm iu bd : Int32} {mn : Nat} {av : Int32} {hf : rsH} (h0 : 0 < (rm_sz S 12)) (hm : mn < 12) (hr : ¬ nI (((rm_sz S 12) + 3) / 4) ≤ (nI 40 - nI (rm_free S mn))) : rsK G M_m_flushed (rmO 3 63) [.ref (rsB G + 46)] (rmd G S T lv th mm iu bd mn av hf) n (rsOk (some (.int 2)) (rmd G S T lv th mm iu bd mn av hf) n) := by
  refine rsK_of pf_m_flushed rfl (Nat.le_of_ble_eq_true rfl) rfl ?_
  refine rs_aload_n d_m_flushed_0 rfl rfl ?_
  refine rs_bipush (v := (nI 12)) d_m_flushed_1 rfl (by decide) ?_
  refine rx_cV d_m_flushed_3 rfl c_m_32 (by exact np_m_sizeOf) rm_o (k_m_sizeOf (by decide)) (by decide) ⟨rfl, rfl⟩ (Nat.le_of_ble_eq_true rfl) rfl ?_
  refine rs_istore_n d_m_flushed_6 rfl (by decide) rfl ?_
  refine rs_iload_n d_m_flushed_7 rfl rfl ?_
  refine rs_if_ne (tgt := 13) d_m_flushed_8 rfl (by decide) (fun _ => ?_) (fun hc => absurd hc (rp_nz0 h0 (by have := rm_sz_le S 12; omega)))
  refine rs_aload_n d_m_flushed_13 rfl rfl ?_
  refine rx_get_mn d_m_flushed_14 rfl f_m_29 ?_
  refine rs_bipush (v := (nI 12)) d_m_flushed_17 rfl (by decide) ?_
  refine rs_icmp_eq (tgt := 33) d_m_flushed_19 rfl (by decide) (fun hc => absurd hc (rp_ne (by omega) (by omega) (by omega))) (fun _ => ?_)
  refine rs_iload_n d_m_flushed_22 rfl rfl ?_
  refine rx_cS d_m_flushed_23 rfl c_m_36 (by exact np_m_blocksFor) (k_m_blocksFor (rm_sz_le S 12)) (by decide) ⟨rfl, rfl⟩ (Nat.le_of_ble_eq_true rfl) rfl ?_
  refine rs_aload_n d_m_flushed_26 rfl rfl ?_
  refine rx_cV d_m_flushed_27 rfl c_m_57 (by exact np_m_freeBlocks) rm_o (k_m_freeBlocks (by omega)) (by decide) ⟨rfl, rfl⟩ (Nat.le_of_ble_eq_true rfl) rfl ?_
  refine rs_icmp_le (tgt := 35) d_m_flushed_30 rfl (by decide) (fun hc => absurd hc (hr)) (fun _ => ?_)
  refine rs_iconst (v := 2) d_m_flushed_33 rfl (by decide) ?_
  exact rs_ireturn d_m_flushed_34 rfl ⟨rfl, rfl, rfl⟩
set_option maxRecDepth 100000 in
theorem k_m_fl_down {G : rsG} {n : Nat} {S T : Nat → Nat → Int32} {lv : Nat → Nat} {th mm iu bd : Int32} {mn : Nat} {av : Int32} {hf : rsH} (h0 : 0 < (rm_sz S 12)) (hm : mn < 12) (hr : nI (((rm_sz S 12) + 3) / 4) ≤ (nI 40 - nI (rm_free S mn))) (hbd : bd = -1 ∨ 0 ≤ bd) (hw : rp_sp bd (nI ((((rm_sz S 12) + 3) / 4) + 1)) = none) : rsK G M_m_flushed (rmO 3 63) [.ref (rsB G + 46)] (rmd G S T lv th mm iu bd mn av hf) n (rsOk (some (.int 1)) (rmd G (rm_zr S 12) (rm_zr T 12) lv th mm 0 (-1) mn (-1) hf) n) := by
  refine rsK_of pf_m_flushed rfl (Nat.le_of_ble_eq_true rfl) rfl ?_
  refine rs_aload_n d_m_flushed_0 rfl rfl ?_
  refine rs_bipush (v := (nI 12)) d_m_flushed_1 rfl (by decide) ?_
  refine rx_cV d_m_flushed_3 rfl c_m_32 (by exact np_m_sizeOf) rm_o (k_m_sizeOf (by decide)) (by decide) ⟨rfl, rfl⟩ (Nat.le_of_ble_eq_true rfl) rfl ?_
  refine rs_istore_n d_m_flushed_6 rfl (by decide) rfl ?_
  refine rs_iload_n d_m_flushed_7 rfl rfl ?_
  refine rs_if_ne (tgt := 13) d_m_flushed_8 rfl (by decide) (fun _ => ?_) (fun hc => absurd hc (rp_nz0 h0 (by have := rm_sz_le S 12; omega)))
  refine rs_aload_n d_m_flushed_13 rfl rfl ?_
  refine rx_get_mn d_m_flushed_14 rfl f_m_29 ?_
  refine rs_bipush (v := (nI 12)) d_m_flushed_17 rfl (by decide) ?_
  refine rs_icmp_eq (tgt := 33) d_m_flushed_19 rfl (by decide) (fun hc => absurd hc (rp_ne (by omega) (by omega) (by omega))) (fun _ => ?_)
  refine rs_iload_n d_m_flushed_22 rfl rfl ?_
  refine rx_cS d_m_flushed_23 rfl c_m_36 (by exact np_m_blocksFor) (k_m_blocksFor (rm_sz_le S 12)) (by decide) ⟨rfl, rfl⟩ (Nat.le_of_ble_eq_true rfl) rfl ?_
  refine rs_aload_n d_m_flushed_26 rfl rfl ?_
  refine rx_cV d_m_flushed_27 rfl c_m_57 (by exact np_m_freeBlocks) rm_o (k_m_freeBlocks (by omega)) (by decide) ⟨rfl, rfl⟩ (Nat.le_of_ble_eq_true rfl) rfl ?_
  refine rs_icmp_le (tgt := 35) d_m_flushed_30 rfl (by decide) (fun _ => ?_) (fun hc => absurd (hr) hc)
  refine rs_aload_n d_m_flushed_35 rfl rfl ?_
  refine rs_iload_n d_m_flushed_36 rfl rfl ?_
  refine rx_cS d_m_flushed_37 rfl c_m_36 (by exact np_m_blocksFor) (k_m_blocksFor (rm_sz_le S 12)) (by decide) ⟨rfl, rfl⟩ (Nat.le_of_ble_eq_true rfl) rfl ?_
  refine rs_iconst (v := (nI 1)) d_m_flushed_40 rfl (by decide) ?_
  refine rs_iadd d_m_flushed_41 rfl ?_
  refine rs_tope (nI_add _ _) ?_
  refine rx_cV d_m_flushed_42 rfl c_m_61 (by exact np_m_writes) rm_o (k_m_writes_no hbd hw) (by decide) ⟨rfl, rfl⟩ (Nat.le_of_ble_eq_true rfl) rfl ?_
  refine rs_if_ne (tgt := 50) d_m_flushed_45 rfl (by decide) (fun hc => absurd (rfl) hc) (fun _ => ?_)
  refine rs_iconst (v := 1) d_m_flushed_48 rfl (by decide) ?_
  exact rs_ireturn d_m_flushed_49 rfl ⟨rfl, rfl, rfl⟩
set_option maxRecDepth 100000 in
theorem k_m_fl_ok {G : rsG} {n : Nat} {S T : Nat → Nat → Int32} {lv : Nat → Nat} {th mm iu bd : Int32} {mn : Nat} {av : Int32} {hf : rsH} (h0 : 0 < (rm_sz S 12)) (hm : mn < 12) (hr : nI (((rm_sz S 12) + 3) / 4) ≤ (nI 40 - nI (rm_free S mn))) (hbd : bd = -1 ∨ 0 ≤ bd) {bd' : Int32} (hw : rp_sp bd (nI ((((rm_sz S 12) + 3) / 4) + 1)) = some bd') : rsK G M_m_flushed (rmO 3 63) [.ref (rsB G + 46)] (rmd G S T lv th mm iu bd mn av hf) n (rsOk (some (.int 0)) (rmd G (rm_cp (rm_D mn (rm_zr (rm_cp S 12 13) 12) 0) 13 0) (rm_cp (rm_D mn (rm_zr (rm_cp T 12 13) 12) 0) 13 0) (va_up (rm_D mn lv 0) 0 0) th mm iu bd' (mn + 1) av hf) n) := by
  refine rsK_of pf_m_flushed rfl (Nat.le_of_ble_eq_true rfl) rfl ?_
  refine rs_aload_n d_m_flushed_0 rfl rfl ?_
  refine rs_bipush (v := (nI 12)) d_m_flushed_1 rfl (by decide) ?_
  refine rx_cV d_m_flushed_3 rfl c_m_32 (by exact np_m_sizeOf) rm_o (k_m_sizeOf (by decide)) (by decide) ⟨rfl, rfl⟩ (Nat.le_of_ble_eq_true rfl) rfl ?_
  refine rs_istore_n d_m_flushed_6 rfl (by decide) rfl ?_
  refine rs_iload_n d_m_flushed_7 rfl rfl ?_
  refine rs_if_ne (tgt := 13) d_m_flushed_8 rfl (by decide) (fun _ => ?_) (fun hc => absurd hc (rp_nz0 h0 (by have := rm_sz_le S 12; omega)))
  refine rs_aload_n d_m_flushed_13 rfl rfl ?_
  refine rx_get_mn d_m_flushed_14 rfl f_m_29 ?_
  refine rs_bipush (v := (nI 12)) d_m_flushed_17 rfl (by decide) ?_
  refine rs_icmp_eq (tgt := 33) d_m_flushed_19 rfl (by decide) (fun hc => absurd hc (rp_ne (by omega) (by omega) (by omega))) (fun _ => ?_)
  refine rs_iload_n d_m_flushed_22 rfl rfl ?_
  refine rx_cS d_m_flushed_23 rfl c_m_36 (by exact np_m_blocksFor) (k_m_blocksFor (rm_sz_le S 12)) (by decide) ⟨rfl, rfl⟩ (Nat.le_of_ble_eq_true rfl) rfl ?_
  refine rs_aload_n d_m_flushed_26 rfl rfl ?_
  refine rx_cV d_m_flushed_27 rfl c_m_57 (by exact np_m_freeBlocks) rm_o (k_m_freeBlocks (by omega)) (by decide) ⟨rfl, rfl⟩ (Nat.le_of_ble_eq_true rfl) rfl ?_
  refine rs_icmp_le (tgt := 35) d_m_flushed_30 rfl (by decide) (fun _ => ?_) (fun hc => absurd (hr) hc)
  refine rs_aload_n d_m_flushed_35 rfl rfl ?_
  refine rs_iload_n d_m_flushed_36 rfl rfl ?_
  refine rx_cS d_m_flushed_37 rfl c_m_36 (by exact np_m_blocksFor) (k_m_blocksFor (rm_sz_le S 12)) (by decide) ⟨rfl, rfl⟩ (Nat.le_of_ble_eq_true rfl) rfl ?_
  refine rs_iconst (v := (nI 1)) d_m_flushed_40 rfl (by decide) ?_
  refine rs_iadd d_m_flushed_41 rfl ?_
  refine rs_tope (nI_add _ _) ?_
  refine rx_cV d_m_flushed_42 rfl c_m_61 (by exact np_m_writes) rm_o (k_m_writes_ok hbd hw) (by decide) ⟨rfl, rfl⟩ (Nat.le_of_ble_eq_true rfl) rfl ?_
  refine rs_if_ne (tgt := 50) d_m_flushed_45 rfl (by decide) (fun _ => ?_) (fun hc => absurd hc (by decide))
  refine rs_aload_n d_m_flushed_50 rfl rfl ?_
  refine rs_bipush (v := (nI 12)) d_m_flushed_51 rfl (by decide) ?_
  refine rs_bipush (v := (nI 13)) d_m_flushed_53 rfl (by decide) ?_
  refine rx_cV d_m_flushed_55 rfl c_m_53 (by exact np_m_copyRow) rm_o (k_m_copyRow (by decide) (by decide)) (by decide) ⟨rfl, rfl⟩ (Nat.le_of_ble_eq_true rfl) rfl ?_
  refine rs_aload_n d_m_flushed_58 rfl rfl ?_
  refine rs_bipush (v := (nI 12)) d_m_flushed_59 rfl (by decide) ?_
  refine rx_cV d_m_flushed_61 rfl c_m_46 (by exact np_m_clearRow) rm_o (k_m_clearRow (by decide)) (by decide) ⟨rfl, rfl⟩ (Nat.le_of_ble_eq_true rfl) rfl ?_
  refine rs_aload_n d_m_flushed_64 rfl rfl ?_
  refine rs_iconst (v := (nI 0)) d_m_flushed_65 rfl (by decide) ?_
  refine rs_iconst (v := (nI 0)) d_m_flushed_66 rfl (by decide) ?_
  refine rx_cV d_m_flushed_67 rfl c_m_65 (by exact np_m_insert) rm_o (k_m_insert (by omega) (by omega)) (by decide) ⟨rfl, rfl⟩ (Nat.le_of_ble_eq_true rfl) rfl ?_
  refine rs_iconst (v := 0) d_m_flushed_70 rfl (by decide) ?_
  exact rs_ireturn d_m_flushed_71 rfl ⟨rfl, rfl, rfl⟩
def rm_oS (S : Nat → Nat → Int32) (z c : Nat) : Nat → Int32 := fun key => match rp_find (fun j => decide (0 < S (z + j) key)) c with
  | some j => S (z + j) key
  | none => 0
def rm_oT (S T : Nat → Nat → Int32) (z c : Nat) : Nat → Int32 := fun key => match rp_find (fun j => decide (0 < S (z + j) key)) c with
  | some j => T (z + j) key
  | none => 0
theorem rp_find_front (p : Nat → Bool) : ∀ c, rp_find p (c + 1) = if p 0 = true then some 0 else (rp_find (fun j => p (j + 1)) c).map (· + 1)
  | 0 => by
    show (if p 0 = true then some 0 else none) = _
    by_cases h : p 0 = true
    · rw [if_pos h, if_pos h]
    · rw [if_neg h, if_neg h]; rfl
  | c + 1 => by
    have ih := rp_find_front p c
    show (match rp_find p (c + 1) with | some x => some x | none => if p (c + 1) = true then some (c + 1) else none) = _
    rw [ih]
    by_cases h : p 0 = true
    · rw [if_pos h, if_pos h]
    · rw [if_neg h, if_neg h]
      show _ = Option.map (· + 1) (match rp_find (fun j => p (j + 1)) c with | some x => some x | none => if p (c + 1) = true then some c else none)
      cases rp_find (fun j => p (j + 1)) c with
      | some x => rfl
      | none =>
        by_cases h2 : p (c + 1) = true
        · simp only [h2, if_true]; rfl
        · simp only [h2]; rfl
theorem rm_oS_front (S : Nat → Nat → Int32) (i c : Nat) : (fun k => if 0 < S i k then S i k else rm_oS S (i + 1) c k) = rm_oS S i (c + 1) := by
  funext k
  unfold rm_oS
  rw [rp_find_front]
  by_cases h : 0 < S i k
  · rw [if_pos h, if_pos (by simpa using h)]; rfl
  · rw [if_neg h, if_neg (by simpa using h)]
    have e : (fun j => decide (0 < S (i + 1 + j) k)) = (fun j => decide (0 < S (i + (j + 1)) k)) := by
      funext j; rw [show i + 1 + j = i + (j + 1) by omega]
    rw [e]
    cases rp_find (fun j => decide (0 < S (i + (j + 1)) k)) c with
    | none => rfl
    | some j =>
      show S (i + 1 + j) k = S (i + (j + 1)) k
      rw [show i + 1 + j = i + (j + 1) by omega]
theorem rm_oT_front (S T : Nat → Nat → Int32) (i c : Nat) : (fun k => if 0 < S i k then T i k else rm_oT S T (i + 1) c k) = rm_oT S T i (c + 1) := by
  funext k
  unfold rm_oT
  rw [rp_find_front]
  by_cases h : 0 < S i k
  · rw [if_pos h, if_pos (by simpa using h)]; rfl
  · rw [if_neg h, if_neg (by simpa using h)]
    have e : (fun j => decide (0 < S (i + 1 + j) k)) = (fun j => decide (0 < S (i + (j + 1)) k)) := by
      funext j; rw [show i + 1 + j = i + (j + 1) by omega]
    rw [e]
    cases rp_find (fun j => decide (0 < S (i + (j + 1)) k)) c with
    | none => rfl
    | some j =>
      show T (i + 1 + j) k = T (i + (j + 1)) k
      rw [show i + 1 + j = i + (j + 1) by omega]
def rm_dr (b : Bool) (x : Int32) : Int32 := if b = true ∧ x = 2 then 0 else x
def rm_pd : Nat → Int32
  | 0 => -1
  | i + 1 => nI i
theorem rm_pd_lt {i : Nat} (h : i < 2 ^ 31) : rm_pd i < nI i := by
  cases i with
  | zero => decide
  | succ i => exact nI_lt (by omega) h
theorem rm_pd_dec (i : Nat) : nI i + Int32.ofInt (-1) = rm_pd i := by
  cases i with
  | zero => decide
  | succ i => exact pk_m1 i
def rm_tk {α : Type} (f : Nat → α) (p m : Nat) : Nat → Nat → α
  | 0 => f
  | i + 1 => rm_E (rm_tk f p m i) p (m - (i + 1))
set_option maxRecDepth 100000 in
theorem k_m_mg_in {G : rsG} {n : Nat} {S T : Nat → Nat → Int32} {lv : Nat → Nat} {th mm iu bd : Int32} {mn : Nat} {av : Int32} {hf : rsH} {Q : rsR → rsH → Nat → Prop} {ll z to i c : Nat} (hi : i < 12) (kk : rsV G M_m_merged (rmO 3 63) Q 0 0 111 [some (.ref (rsB G + 46)), some (.int (nI ll)), some (.int (nI z)), some (.int (nI to)), some (.int (nI i)), some (.int (nI 100))] [] (rmd G (va_up S 13 (rm_oS S i (c + 1))) (va_up T 13 (rm_oT S T i (c + 1))) lv th mm iu bd mn av hf) n) : ∀ (d k : Nat), k + d = 100 → rsV G M_m_merged (rmO 3 63) Q 0 0 34 [some (.ref (rsB G + 46)), some (.int (nI ll)), some (.int (nI z)), some (.int (nI to)), some (.int (nI i)), some (.int (nI k))] [] (rmd G (rm_p (va_up S 13 (rm_oS S (i + 1) c)) 13 (fun k => if 0 < S i k then S i k else rm_oS S (i + 1) c k) k) (rm_p (va_up T 13 (rm_oT S T (i + 1) c)) 13 (fun k => if 0 < S i k then T i k else rm_oT S T (i + 1) c k) k) lv th mm iu bd mn av hf) n := by
  have hi13 : i ≠ 13 := by omega
  intro d
  induction d with
  | zero =>
    intro k hk
    obtain rfl : k = 100 := by omega
    refine rs_iload d_m_merged_34 rfl rfl ?_
    refine rs_bipush (v := (nI 100)) d_m_merged_36 rfl (by decide) ?_
    refine rs_icmp_ge (tgt := 111) d_m_merged_38 rfl (by decide) (fun _ => ?_) (fun hc => absurd (nI_le (by omega) (by omega)) hc)
    rw [rmd_eq (rm_pe _ 13 _) (rm_pe _ 13 _), rp_up_up, rp_up_up, rm_oS_front, rm_oT_front]
    exact kk
  | succ d ih =>
    intro k hk
    have hk100 : k < 100 := by omega
    have eS : rm_p (va_up S 13 (rm_oS S (i + 1) c)) 13 (fun k => if 0 < S i k then S i k else rm_oS S (i + 1) c k) k i k = S i k := by rw [rm_p_at, rp_up_ne _ _ hi13]
    have eT : rm_p (va_up T 13 (rm_oT S T (i + 1) c)) 13 (fun k => if 0 < S i k then T i k else rm_oT S T (i + 1) c k) k i k = T i k := by rw [rm_p_at, rp_up_ne _ _ hi13]
    refine rs_iload d_m_merged_34 rfl rfl ?_
    refine rs_bipush (v := (nI 100)) d_m_merged_36 rfl (by decide) ?_
    refine rs_icmp_ge (tgt := 111) d_m_merged_38 rfl (by decide) (fun hc => absurd hc (nI_ge (by omega) (by omega))) (fun _ => ?_)
    refine rs_aload_n d_m_merged_41 rfl rfl ?_
    refine rx_get_so d_m_merged_42 rfl f_m_17 ?_
    refine rs_bipush (v := (nI 100)) d_m_merged_45 rfl (by decide) ?_
    refine rs_iload d_m_merged_47 rfl rfl ?_
    refine rs_imul d_m_merged_49 rfl ?_
    refine rs_iload d_m_merged_50 rfl rfl ?_
    refine rs_iadd d_m_merged_52 rfl ?_
    refine rs_pix (rm_ix i k) ?_
    refine ry_ld_s (by first | assumption | omega) (by first | assumption | omega) d_m_merged_53 rfl ?_
    rw [eS]
    by_cases hp : 0 < S i k
    · refine rs_if_le (tgt := 105) d_m_merged_54 rfl (by decide) (fun hc => absurd hc (i32_nle hp)) (fun _ => ?_)
      refine rs_aload_n d_m_merged_57 rfl rfl ?_
      refine rx_get_so d_m_merged_58 rfl f_m_17 ?_
      refine rs_sipush (v := (nI 1300)) d_m_merged_61 rfl (by decide) ?_
      refine rs_iload d_m_merged_64 rfl rfl ?_
      refine rs_iadd d_m_merged_66 rfl ?_
      refine rs_pix (rm_ix13 k) ?_
      refine rs_aload_n d_m_merged_67 rfl rfl ?_
      refine rx_get_so d_m_merged_68 rfl f_m_17 ?_
      refine rs_bipush (v := (nI 100)) d_m_merged_71 rfl (by decide) ?_
      refine rs_iload d_m_merged_73 rfl rfl ?_
      refine rs_imul d_m_merged_75 rfl ?_
      refine rs_iload d_m_merged_76 rfl rfl ?_
      refine rs_iadd d_m_merged_78 rfl ?_
      refine rs_pix (rm_ix i k) ?_
      refine ry_ld_s (by first | assumption | omega) (by first | assumption | omega) d_m_merged_79 rfl ?_
      rw [eS]
      refine ry_st_s (by first | assumption | omega) (by first | assumption | omega) d_m_merged_80 rfl ?_
      rw [rm_pu (g := (fun k => if 0 < S i k then S i k else rm_oS S (i + 1) c k)) (show S i k = _ from (if_pos hp).symm)]
      refine rs_aload_n d_m_merged_81 rfl rfl ?_
      refine rx_get_vs d_m_merged_82 rfl f_m_20 ?_
      refine rs_sipush (v := (nI 1300)) d_m_merged_85 rfl (by decide) ?_
      refine rs_iload d_m_merged_88 rfl rfl ?_
      refine rs_iadd d_m_merged_90 rfl ?_
      refine rs_pix (rm_ix13 k) ?_
      refine rs_aload_n d_m_merged_91 rfl rfl ?_
      refine rx_get_vs d_m_merged_92 rfl f_m_20 ?_
      refine rs_bipush (v := (nI 100)) d_m_merged_95 rfl (by decide) ?_
      refine rs_iload d_m_merged_97 rfl rfl ?_
      refine rs_imul d_m_merged_99 rfl ?_
      refine rs_iload d_m_merged_100 rfl rfl ?_
      refine rs_iadd d_m_merged_102 rfl ?_
      refine rs_pix (rm_ix i k) ?_
      refine ry_ld_v (by first | assumption | omega) (by first | assumption | omega) d_m_merged_103 rfl ?_
      rw [eT]
      refine ry_st_v (by first | assumption | omega) (by first | assumption | omega) d_m_merged_104 rfl ?_
      rw [rm_pu (g := (fun k => if 0 < S i k then T i k else rm_oT S T (i + 1) c k)) (show T i k = _ from (if_pos hp).symm)]
      refine rs_iinc d_m_merged_105 rfl (by decide) rfl (rs_inc1 k) rfl ?_
      refine rs_goto (tgt := 34) d_m_merged_108 (by decide) ?_
      exact ih (k + 1) (by omega)
    · refine rs_if_le (tgt := 105) d_m_merged_54 rfl (by decide) (fun _ => ?_) (fun hc => absurd (i32_le hp) hc)
      rw [rm_pk (f := (va_up S 13 (rm_oS S (i + 1) c))) (g := (fun k => if 0 < S i k then S i k else rm_oS S (i + 1) c k)) (i := k) (by rw [rp_up_j]; exact (if_neg hp).symm), rm_pk (f := (va_up T 13 (rm_oT S T (i + 1) c))) (g := (fun k => if 0 < S i k then T i k else rm_oT S T (i + 1) c k)) (i := k) (by rw [rp_up_j]; exact (if_neg hp).symm)]
      refine rs_iinc d_m_merged_105 rfl (by decide) rfl (rs_inc1 k) rfl ?_
      refine rs_goto (tgt := 34) d_m_merged_108 (by decide) ?_
      exact ih (k + 1) (by omega)
set_option maxRecDepth 100000 in
theorem k_m_mg_out {G : rsG} {n : Nat} {S T : Nat → Nat → Int32} {lv : Nat → Nat} {th mm iu bd : Int32} {mn : Nat} {av : Int32} {hf : rsH} {Q : rsR → rsH → Nat → Prop} {ll z to : Nat} (hto : to ≤ 12) (kk : ∀ x5 : Option Value, rsV G M_m_merged (rmO 3 63) Q 0 0 117 [some (.ref (rsB G + 46)), some (.int (nI ll)), some (.int (nI z)), some (.int (nI to)), some (.int (rm_pd z)), x5] [] (rmd G (va_up S 13 (rm_oS S z (to - z))) (va_up T 13 (rm_oT S T z (to - z))) lv th mm iu bd mn av hf) n) : ∀ (d i c : Nat) (x5 : Option Value), z + d = i → i + c = to → rsV G M_m_merged (rmO 3 63) Q 0 0 25 [some (.ref (rsB G + 46)), some (.int (nI ll)), some (.int (nI z)), some (.int (nI to)), some (.int (rm_pd i)), x5] [] (rmd G (va_up S 13 (rm_oS S i c)) (va_up T 13 (rm_oT S T i c)) lv th mm iu bd mn av hf) n := by
  intro d
  induction d with
  | zero =>
    intro i c x5 hi hc
    obtain rfl : i = z := by omega
    obtain rfl : c = to - i := by omega
    refine rs_iload d_m_merged_25 rfl rfl ?_
    refine rs_iload_n d_m_merged_27 rfl rfl ?_
    refine rs_icmp_lt (tgt := 117) d_m_merged_28 rfl (by decide) (fun _ => ?_) (fun hc => absurd (rm_pd_lt (by omega)) hc)
    exact kk x5
  | succ d ih =>
    intro i c x5 hi hc
    obtain ⟨k, rfl⟩ : ∃ k, i = k + 1 := ⟨i - 1, by omega⟩
    refine rs_iload (v := nI k) d_m_merged_25 rfl rfl ?_
    refine rs_iload_n d_m_merged_27 rfl rfl ?_
    refine rs_icmp_lt (tgt := 117) d_m_merged_28 rfl (by decide) (fun hc => absurd hc (Int32.not_lt.mpr (nI_le (by omega) (by omega)))) (fun _ => ?_)
    refine rs_iconst (v := (nI 0)) d_m_merged_31 rfl (by decide) ?_
    refine rs_istore d_m_merged_32 rfl (by decide) rfl ?_
    refine rsV_eq ?_ (k_m_mg_in (S := S) (T := T) (lv := lv) (th := th) (mm := mm) (iu := iu) (bd := bd) (mn := mn) (av := av) (hf := hf) (c := c) (by omega) ?_ 100 0 (by omega))
    · rw [rm_p0, rm_p0]
    · refine ?_
      refine rs_iinc d_m_merged_111 rfl (by decide) rfl (rm_pd_dec k) rfl ?_
      refine rs_goto (tgt := 25) d_m_merged_114 (by decide) ?_
      exact ih k (c + 1) _ (by omega) (by omega)
set_option maxRecDepth 100000 in
theorem k_m_mg_dr {G : rsG} {n : Nat} {S T : Nat → Nat → Int32} {lv : Nat → Nat} {th mm iu bd : Int32} {mn : Nat} {av : Int32} {hf : rsH} {Q : rsR → rsH → Nat → Prop} {ll z to c : Nat} {x5 : Option Value} (hto : to ≤ 12) (hm : mn ≤ 12) (kk : rsV G M_m_merged (rmO 3 63) Q 0 0 182 [some (.ref (rsB G + 46)), some (.int (nI ll)), some (.int (nI z)), some (.int (nI to)), some (.int (nI 100)), x5] [] (rmd G (va_up S 13 (fun k => rm_dr (decide (to = mn)) (rm_oS S z c k))) T lv th mm iu bd mn av hf) n) : ∀ (d i : Nat), i + d = 100 → rsV G M_m_merged (rmO 3 63) Q 0 0 120 [some (.ref (rsB G + 46)), some (.int (nI ll)), some (.int (nI z)), some (.int (nI to)), some (.int (nI i)), x5] [] (rmd G (rm_p (va_up S 13 (rm_oS S z c)) 13 (fun k => rm_dr (decide (to = mn)) (rm_oS S z c k)) i) T lv th mm iu bd mn av hf) n := by
  intro d
  induction d with
  | zero =>
    intro i hi
    obtain rfl : i = 100 := by omega
    refine rs_iload d_m_merged_120 rfl rfl ?_
    refine rs_bipush (v := (nI 100)) d_m_merged_122 rfl (by decide) ?_
    refine rs_icmp_ge (tgt := 182) d_m_merged_124 rfl (by decide) (fun _ => ?_) (fun hc => absurd (nI_le (by omega) (by omega)) hc)
    rw [rmd_eq (rm_pe _ 13 _) (fun _ _ _ => rfl), rp_up_up]
    exact kk
  | succ d ih =>
    intro i hi
    have hi100 : i < 100 := by omega
    have eS : rm_p (va_up S 13 (rm_oS S z c)) 13 (fun k => rm_dr (decide (to = mn)) (rm_oS S z c k)) i 13 i = rm_oS S z c i := by rw [rm_p_at, rp_up_j]
    refine rs_iload d_m_merged_120 rfl rfl ?_
    refine rs_bipush (v := (nI 100)) d_m_merged_122 rfl (by decide) ?_
    refine rs_icmp_ge (tgt := 182) d_m_merged_124 rfl (by decide) (fun hc => absurd hc (nI_ge (by omega) (by omega))) (fun _ => ?_)
    refine rs_aload_n d_m_merged_127 rfl rfl ?_
    refine rx_get_so d_m_merged_128 rfl f_m_17 ?_
    refine rs_sipush (v := (nI 1300)) d_m_merged_131 rfl (by decide) ?_
    refine rs_iload d_m_merged_134 rfl rfl ?_
    refine rs_iadd d_m_merged_136 rfl ?_
    refine rs_pix (rm_ix13 i) ?_
    refine rs_iload_n d_m_merged_137 rfl rfl ?_
    refine rs_aload_n d_m_merged_138 rfl rfl ?_
    refine rx_get_mn d_m_merged_139 rfl f_m_29 ?_
    by_cases hp : to = mn
    · refine rs_icmp_ne (tgt := 164) d_m_merged_142 rfl (by decide) (fun hc => absurd (congrArg nI hp) hc) (fun _ => ?_)
      refine rs_aload_n d_m_merged_145 rfl rfl ?_
      refine rx_get_so d_m_merged_146 rfl f_m_17 ?_
      refine rs_sipush (v := (nI 1300)) d_m_merged_149 rfl (by decide) ?_
      refine rs_iload d_m_merged_152 rfl rfl ?_
      refine rs_iadd d_m_merged_154 rfl ?_
      refine rs_pix (rm_ix13 i) ?_
      refine ry_ld_s (by first | assumption | omega) (by first | assumption | omega) d_m_merged_155 rfl ?_
      rw [eS]
      refine rs_iconst (v := 2) d_m_merged_156 rfl (by decide) ?_
      by_cases h2 : rm_oS S z c i = 2
      · refine rs_icmp_ne (tgt := 164) d_m_merged_157 rfl (by decide) (fun hc => absurd (h2) hc) (fun _ => ?_)
        refine rs_iconst (v := 0) d_m_merged_160 rfl (by decide) ?_
        refine rs_goto (tgt := 175) d_m_merged_161 (by decide) ?_
        refine ry_st_s (by first | assumption | omega) (by first | assumption | omega) d_m_merged_175 rfl ?_
        rw [rm_pu (g := (fun k => rm_dr (decide (to = mn)) (rm_oS S z c k))) (by show (0 : Int32) = rm_dr _ _; unfold rm_dr; rw [if_pos ⟨by simpa using hp, h2⟩])]
        refine rs_iinc d_m_merged_176 rfl (by decide) rfl (rs_inc1 i) rfl ?_
        refine rs_goto (tgt := 120) d_m_merged_179 (by decide) ?_
        exact ih (i + 1) (by omega)
      · refine rs_icmp_ne (tgt := 164) d_m_merged_157 rfl (by decide) (fun _ => ?_) (fun hc => absurd hc (h2))
        refine rs_aload_n d_m_merged_164 rfl rfl ?_
        refine rx_get_so d_m_merged_165 rfl f_m_17 ?_
        refine rs_sipush (v := (nI 1300)) d_m_merged_168 rfl (by decide) ?_
        refine rs_iload d_m_merged_171 rfl rfl ?_
        refine rs_iadd d_m_merged_173 rfl ?_
        refine rs_pix (rm_ix13 i) ?_
        refine ry_ld_s (by first | assumption | omega) (by first | assumption | omega) d_m_merged_174 rfl ?_
        rw [eS]
        refine ry_st_s (by first | assumption | omega) (by first | assumption | omega) d_m_merged_175 rfl ?_
        rw [rm_pu (g := (fun k => rm_dr (decide (to = mn)) (rm_oS S z c k))) (by show _ = rm_dr _ _; unfold rm_dr; rw [if_neg (fun h => h2 h.2)])]
        refine rs_iinc d_m_merged_176 rfl (by decide) rfl (rs_inc1 i) rfl ?_
        refine rs_goto (tgt := 120) d_m_merged_179 (by decide) ?_
        exact ih (i + 1) (by omega)
    · refine rs_icmp_ne (tgt := 164) d_m_merged_142 rfl (by decide) (fun _ => ?_) (fun hc => absurd hc (rp_ne hp (by omega) (by omega)))
      refine rs_aload_n d_m_merged_164 rfl rfl ?_
      refine rx_get_so d_m_merged_165 rfl f_m_17 ?_
      refine rs_sipush (v := (nI 1300)) d_m_merged_168 rfl (by decide) ?_
      refine rs_iload d_m_merged_171 rfl rfl ?_
      refine rs_iadd d_m_merged_173 rfl ?_
      refine rs_pix (rm_ix13 i) ?_
      refine ry_ld_s (by first | assumption | omega) (by first | assumption | omega) d_m_merged_174 rfl ?_
      rw [eS]
      refine ry_st_s (by first | assumption | omega) (by first | assumption | omega) d_m_merged_175 rfl ?_
      rw [rm_pu (g := (fun k => rm_dr (decide (to = mn)) (rm_oS S z c k))) (by show _ = rm_dr _ _; unfold rm_dr; rw [if_neg (fun h => hp (by simpa using h.1))])]
      refine rs_iinc d_m_merged_176 rfl (by decide) rfl (rs_inc1 i) rfl ?_
      refine rs_goto (tgt := 120) d_m_merged_179 (by decide) ?_
      exact ih (i + 1) (by omega)
set_option maxRecDepth 100000 in
theorem k_m_mg_pre {G : rsG} {n : Nat} {S T : Nat → Nat → Int32} {lv : Nat → Nat} {th mm iu bd : Int32} {mn : Nat} {av : Int32} {hf : rsH} {Q : rsR → rsH → Nat → Prop} {ll z c : Nat} (hm : mn ≤ 12) (hz : ∀ i, i < z → nI (lv i) < nI ll) (hz1 : z < mn → ¬ nI (lv z) < nI ll) (hc : (rp_cnt (fun i => decide (nI (lv i) = nI ll)) mn) = c) (hc0 : 0 < c) (hzc : z + c ≤ mn) (kk : ∀ x5 : Option Value, rsV G M_m_merged (rmO 3 63) Q 0 0 182 [some (.ref (rsB G + 46)), some (.int (nI ll)), some (.int (nI z)), some (.int (nI (z + c))), some (.int (nI 100)), x5] [] (rmd G (va_up S 13 (fun k => rm_dr (decide (z + c = mn)) (rm_oS S z c k))) (va_up T 13 (rm_oT S T z c)) lv th mm iu bd mn av hf) n) : rsV G M_m_merged (rmO 3 63) Q 0 0 0 [some (.ref (rsB G + 46)), some (.int (nI ll)), none, none, none, none] [] (rmd G S T lv th mm iu bd mn av hf) n := by
  refine rs_aload_n d_m_merged_0 rfl rfl ?_
  refine rs_iload_n d_m_merged_1 rfl rfl ?_
  refine rx_cV d_m_merged_2 rfl c_m_68 (by exact np_m_begin) rm_o (k_m_begin hm (by omega) hz hz1) (by decide) ⟨rfl, rfl⟩ (Nat.le_of_ble_eq_true rfl) rfl ?_
  refine rs_istore_n d_m_merged_5 rfl (by decide) rfl ?_
  refine rs_iload_n d_m_merged_6 rfl rfl ?_
  refine rs_aload_n d_m_merged_7 rfl rfl ?_
  refine rs_iload_n d_m_merged_8 rfl rfl ?_
  refine rx_cV d_m_merged_9 rfl c_m_71 (by exact np_m_runsOf) rm_o (k_m_runsOf hm) (by decide) ⟨rfl, rfl⟩ (Nat.le_of_ble_eq_true rfl) rfl ?_
  rw [hc]
  refine rs_iadd d_m_merged_12 rfl ?_
  refine rs_tope (nI_add _ _) ?_
  refine rs_istore_n d_m_merged_13 rfl (by decide) rfl ?_
  refine rs_aload_n d_m_merged_14 rfl rfl ?_
  refine rs_bipush (v := (nI 13)) d_m_merged_15 rfl (by decide) ?_
  refine rx_cV d_m_merged_17 rfl c_m_46 (by exact np_m_clearRow) rm_o (k_m_clearRow (by decide)) (by decide) ⟨rfl, rfl⟩ (Nat.le_of_ble_eq_true rfl) rfl ?_
  refine rs_iload_n d_m_merged_20 rfl rfl ?_
  refine rs_iconst (v := (nI 1)) d_m_merged_21 rfl (by decide) ?_
  refine rs_isub d_m_merged_22 rfl ?_
  refine rs_tope (y := rm_pd (z + c)) (by obtain ⟨k, rfl⟩ : ∃ k, c = k + 1 := ⟨c - 1, by omega⟩; rw [pk_sub (by omega)]; rfl) ?_
  refine rs_istore d_m_merged_23 rfl (by decide) rfl ?_
  refine k_m_mg_out (to := z + c) (by omega) (fun x5 => ?_) c (z + c) 0 _ rfl rfl
  rw [show z + c - z = c by omega]
  refine rs_iconst (v := (nI 0)) d_m_merged_117 rfl (by decide) ?_
  refine rs_istore d_m_merged_118 rfl (by decide) rfl ?_
  refine rsV_eq ?_ (k_m_mg_dr (by omega) hm (kk x5) 100 0 (by omega))
  rw [rm_p0]
set_option maxRecDepth 100000 in
theorem k_m_mg_noroom {G : rsG} {n : Nat} {S T : Nat → Nat → Int32} {lv : Nat → Nat} {th mm iu bd : Int32} {mn : Nat} {av : Int32} {hf : rsH} {ll z c : Nat} (hm : mn ≤ 12) (hz : ∀ i, i < z → nI (lv i) < nI ll) (hz1 : z < mn → ¬ nI (lv z) < nI ll) (hc : (rp_cnt (fun i => decide (nI (lv i) = nI ll)) mn) = c) (hc0 : 0 < c) (hzc : z + c ≤ mn) (hr : ¬ nI (((rm_sz (va_up S 13 (fun k => rm_dr (decide (z + c = mn)) (rm_oS S z c k))) 13) + 3) / 4) ≤ (nI 40 - nI (rm_free (va_up S 13 (fun k => rm_dr (decide (z + c = mn)) (rm_oS S z c k))) mn))) : rsK G M_m_merged (rmO 3 63) [.ref (rsB G + 46), .int (nI ll)] (rmd G S T lv th mm iu bd mn av hf) n (rsOk (some (.int 2)) (rmd G (va_up S 13 (fun k => rm_dr (decide (z + c = mn)) (rm_oS S z c k))) (va_up T 13 (rm_oT S T z c)) lv th mm iu bd mn av hf) n) := by
  refine rsK_of pf_m_merged rfl (Nat.le_of_ble_eq_true rfl) rfl ?_
  refine k_m_mg_pre hm hz hz1 hc hc0 hzc (fun x5 => ?_)
  refine rs_aload_n d_m_merged_182 rfl rfl ?_
  refine rs_bipush (v := (nI 13)) d_m_merged_183 rfl (by decide) ?_
  refine rx_cV d_m_merged_185 rfl c_m_32 (by exact np_m_sizeOf) rm_o (k_m_sizeOf (by decide)) (by decide) ⟨rfl, rfl⟩ (Nat.le_of_ble_eq_true rfl) rfl ?_
  refine rs_istore d_m_merged_188 rfl (by decide) rfl ?_
  refine rs_iload d_m_merged_190 rfl rfl ?_
  refine rx_cS d_m_merged_192 rfl c_m_36 (by exact np_m_blocksFor) (k_m_blocksFor (rm_sz_le _ 13)) (by decide) ⟨rfl, rfl⟩ (Nat.le_of_ble_eq_true rfl) rfl ?_
  refine rs_aload_n d_m_merged_195 rfl rfl ?_
  refine rx_cV d_m_merged_196 rfl c_m_57 (by exact np_m_freeBlocks) rm_o (k_m_freeBlocks hm) (by decide) ⟨rfl, rfl⟩ (Nat.le_of_ble_eq_true rfl) rfl ?_
  refine rs_icmp_le (tgt := 204) d_m_merged_199 rfl (by decide) (fun hc => absurd hc (hr)) (fun _ => ?_)
  refine rs_iconst (v := 2) d_m_merged_202 rfl (by decide) ?_
  exact rs_ireturn d_m_merged_203 rfl ⟨rfl, rfl, rfl⟩
set_option maxRecDepth 100000 in
theorem k_m_mg_down {G : rsG} {n : Nat} {S T : Nat → Nat → Int32} {lv : Nat → Nat} {th mm iu bd : Int32} {mn : Nat} {av : Int32} {hf : rsH} {ll z c : Nat} (hm : mn ≤ 12) (hz : ∀ i, i < z → nI (lv i) < nI ll) (hz1 : z < mn → ¬ nI (lv z) < nI ll) (hc : (rp_cnt (fun i => decide (nI (lv i) = nI ll)) mn) = c) (hc0 : 0 < c) (hzc : z + c ≤ mn) (hr : nI (((rm_sz (va_up S 13 (fun k => rm_dr (decide (z + c = mn)) (rm_oS S z c k))) 13) + 3) / 4) ≤ (nI 40 - nI (rm_free (va_up S 13 (fun k => rm_dr (decide (z + c = mn)) (rm_oS S z c k))) mn))) (hbd : bd = -1 ∨ 0 ≤ bd) (hw : rp_sp bd (nI ((((rm_sz (va_up S 13 (fun k => rm_dr (decide (z + c = mn)) (rm_oS S z c k))) 13) + 3) / 4) + 1)) = none) : rsK G M_m_merged (rmO 3 63) [.ref (rsB G + 46), .int (nI ll)] (rmd G S T lv th mm iu bd mn av hf) n (rsOk (some (.int 1)) (rmd G (rm_zr (va_up S 13 (fun k => rm_dr (decide (z + c = mn)) (rm_oS S z c k))) 12) (rm_zr (va_up T 13 (rm_oT S T z c)) 12) lv th mm 0 (-1) mn (-1) hf) n) := by
  refine rsK_of pf_m_merged rfl (Nat.le_of_ble_eq_true rfl) rfl ?_
  refine k_m_mg_pre hm hz hz1 hc hc0 hzc (fun x5 => ?_)
  refine rs_aload_n d_m_merged_182 rfl rfl ?_
  refine rs_bipush (v := (nI 13)) d_m_merged_183 rfl (by decide) ?_
  refine rx_cV d_m_merged_185 rfl c_m_32 (by exact np_m_sizeOf) rm_o (k_m_sizeOf (by decide)) (by decide) ⟨rfl, rfl⟩ (Nat.le_of_ble_eq_true rfl) rfl ?_
  refine rs_istore d_m_merged_188 rfl (by decide) rfl ?_
  refine rs_iload d_m_merged_190 rfl rfl ?_
  refine rx_cS d_m_merged_192 rfl c_m_36 (by exact np_m_blocksFor) (k_m_blocksFor (rm_sz_le _ 13)) (by decide) ⟨rfl, rfl⟩ (Nat.le_of_ble_eq_true rfl) rfl ?_
  refine rs_aload_n d_m_merged_195 rfl rfl ?_
  refine rx_cV d_m_merged_196 rfl c_m_57 (by exact np_m_freeBlocks) rm_o (k_m_freeBlocks hm) (by decide) ⟨rfl, rfl⟩ (Nat.le_of_ble_eq_true rfl) rfl ?_
  refine rs_icmp_le (tgt := 204) d_m_merged_199 rfl (by decide) (fun _ => ?_) (fun hc => absurd (hr) hc)
  refine rs_aload_n d_m_merged_204 rfl rfl ?_
  refine rs_iload d_m_merged_205 rfl rfl ?_
  refine rx_cS d_m_merged_207 rfl c_m_36 (by exact np_m_blocksFor) (k_m_blocksFor (rm_sz_le _ 13)) (by decide) ⟨rfl, rfl⟩ (Nat.le_of_ble_eq_true rfl) rfl ?_
  refine rs_iconst (v := (nI 1)) d_m_merged_210 rfl (by decide) ?_
  refine rs_iadd d_m_merged_211 rfl ?_
  refine rs_tope (nI_add _ _) ?_
  refine rx_cV d_m_merged_212 rfl c_m_61 (by exact np_m_writes) rm_o (k_m_writes_no hbd hw) (by decide) ⟨rfl, rfl⟩ (Nat.le_of_ble_eq_true rfl) rfl ?_
  refine rs_if_ne (tgt := 220) d_m_merged_215 rfl (by decide) (fun hc => absurd (rfl) hc) (fun _ => ?_)
  refine rs_iconst (v := 1) d_m_merged_218 rfl (by decide) ?_
  exact rs_ireturn d_m_merged_219 rfl ⟨rfl, rfl, rfl⟩
set_option maxRecDepth 100000 in
theorem k_m_mg_none {G : rsG} {n : Nat} {S T : Nat → Nat → Int32} {lv : Nat → Nat} {th mm iu bd : Int32} {mn : Nat} {av : Int32} {hf : rsH} {ll z c : Nat} (hm : mn ≤ 12) (hz : ∀ i, i < z → nI (lv i) < nI ll) (hz1 : z < mn → ¬ nI (lv z) < nI ll) (hc : (rp_cnt (fun i => decide (nI (lv i) = nI ll)) mn) = c) (hc0 : 0 < c) (hzc : z + c ≤ mn) (hr : nI (((rm_sz (va_up S 13 (fun k => rm_dr (decide (z + c = mn)) (rm_oS S z c k))) 13) + 3) / 4) ≤ (nI 40 - nI (rm_free (va_up S 13 (fun k => rm_dr (decide (z + c = mn)) (rm_oS S z c k))) mn))) (hbd : bd = -1 ∨ 0 ≤ bd) {bd' : Int32} (hw : rp_sp bd (nI ((((rm_sz (va_up S 13 (fun k => rm_dr (decide (z + c = mn)) (rm_oS S z c k))) 13) + 3) / 4) + 1)) = some bd') (h0 : (rm_sz (va_up S 13 (fun k => rm_dr (decide (z + c = mn)) (rm_oS S z c k))) 13) = 0) : rsK G M_m_merged (rmO 3 63) [.ref (rsB G + 46), .int (nI ll)] (rmd G S T lv th mm iu bd mn av hf) n (rsOk (some (.int 0)) (rmd G (rm_tk (va_up S 13 (fun k => rm_dr (decide (z + c = mn)) (rm_oS S z c k))) z mn c) (rm_tk (va_up T 13 (rm_oT S T z c)) z mn c) (rm_tk lv z mn c) th mm iu bd' (mn - c) av hf) n) := by
  have loop : ∀ (d i : Nat), i + d = c → rsV G M_m_merged (rmO 3 63) (rsOk (some (.int 0)) (rmd G (rm_tk (va_up S 13 (fun k => rm_dr (decide (z + c = mn)) (rm_oS S z c k))) z mn c) (rm_tk (va_up T 13 (rm_oT S T z c)) z mn c) (rm_tk lv z mn c) th mm iu bd' (mn - c) av hf) n) 0 0 223 [some (.ref (rsB G + 46)), some (.int (nI ll)), some (.int (nI z)), some (.int (nI (z + c))), some (.int (nI (rm_sz (va_up S 13 (fun k => rm_dr (decide (z + c = mn)) (rm_oS S z c k))) 13))), some (.int (nI (z + i)))] [] (rmd G (rm_tk (va_up S 13 (fun k => rm_dr (decide (z + c = mn)) (rm_oS S z c k))) z mn i) (rm_tk (va_up T 13 (rm_oT S T z c)) z mn i) (rm_tk lv z mn i) th mm iu bd' (mn - i) av hf) n := by
    intro d
    induction d with
    | zero =>
      intro i hi
      obtain rfl : i = c := by omega
      refine rs_iload d_m_merged_223 rfl rfl ?_
      refine rs_iload_n d_m_merged_225 rfl rfl ?_
      refine rs_icmp_ge (tgt := 240) d_m_merged_226 rfl (by decide) (fun _ => ?_) (fun hc => absurd (nI_le (by omega) (by omega)) hc)
      refine rs_iload d_m_merged_240 rfl rfl ?_
      rw [h0]
      refine rs_if_le (tgt := 262) d_m_merged_242 rfl (by decide) (fun _ => ?_) (fun hc => absurd (by rw [nI_0]; decide) hc)
      refine rs_iconst (v := 0) d_m_merged_262 rfl (by decide) ?_
      exact rs_ireturn d_m_merged_263 rfl ⟨rfl, rfl, rfl⟩
    | succ d ih =>
      intro i hi
      refine rs_iload d_m_merged_223 rfl rfl ?_
      refine rs_iload_n d_m_merged_225 rfl rfl ?_
      refine rs_icmp_ge (tgt := 240) d_m_merged_226 rfl (by decide) (fun hc => absurd hc (nI_ge (by omega) (by omega))) (fun _ => ?_)
      refine rs_aload_n d_m_merged_229 rfl rfl ?_
      refine rs_iload_n d_m_merged_230 rfl rfl ?_
      rw [show mn - i = mn - (i + 1) + 1 by omega]
      refine rx_cV d_m_merged_231 rfl c_m_74 (by exact np_m_takeOut) rm_o (k_m_takeOut (by omega) (by omega)) (by decide) ⟨rfl, rfl⟩ (Nat.le_of_ble_eq_true rfl) rfl ?_
      refine rs_iinc d_m_merged_234 rfl (by decide) rfl (rs_inc1 _) rfl ?_
      refine rs_goto (tgt := 223) d_m_merged_237 (by decide) ?_
      exact ih (i + 1) (by omega)
  refine rsK_of pf_m_merged rfl (Nat.le_of_ble_eq_true rfl) rfl ?_
  refine k_m_mg_pre hm hz hz1 hc hc0 hzc (fun x5 => ?_)
  refine rs_aload_n d_m_merged_182 rfl rfl ?_
  refine rs_bipush (v := (nI 13)) d_m_merged_183 rfl (by decide) ?_
  refine rx_cV d_m_merged_185 rfl c_m_32 (by exact np_m_sizeOf) rm_o (k_m_sizeOf (by decide)) (by decide) ⟨rfl, rfl⟩ (Nat.le_of_ble_eq_true rfl) rfl ?_
  refine rs_istore d_m_merged_188 rfl (by decide) rfl ?_
  refine rs_iload d_m_merged_190 rfl rfl ?_
  refine rx_cS d_m_merged_192 rfl c_m_36 (by exact np_m_blocksFor) (k_m_blocksFor (rm_sz_le _ 13)) (by decide) ⟨rfl, rfl⟩ (Nat.le_of_ble_eq_true rfl) rfl ?_
  refine rs_aload_n d_m_merged_195 rfl rfl ?_
  refine rx_cV d_m_merged_196 rfl c_m_57 (by exact np_m_freeBlocks) rm_o (k_m_freeBlocks hm) (by decide) ⟨rfl, rfl⟩ (Nat.le_of_ble_eq_true rfl) rfl ?_
  refine rs_icmp_le (tgt := 204) d_m_merged_199 rfl (by decide) (fun _ => ?_) (fun hc => absurd (hr) hc)
  refine rs_aload_n d_m_merged_204 rfl rfl ?_
  refine rs_iload d_m_merged_205 rfl rfl ?_
  refine rx_cS d_m_merged_207 rfl c_m_36 (by exact np_m_blocksFor) (k_m_blocksFor (rm_sz_le _ 13)) (by decide) ⟨rfl, rfl⟩ (Nat.le_of_ble_eq_true rfl) rfl ?_
  refine rs_iconst (v := (nI 1)) d_m_merged_210 rfl (by decide) ?_
  refine rs_iadd d_m_merged_211 rfl ?_
  refine rs_tope (nI_add _ _) ?_
  refine rx_cV d_m_merged_212 rfl c_m_61 (by exact np_m_writes) rm_o (k_m_writes_ok hbd hw) (by decide) ⟨rfl, rfl⟩ (Nat.le_of_ble_eq_true rfl) rfl ?_
  refine rs_if_ne (tgt := 220) d_m_merged_215 rfl (by decide) (fun _ => ?_) (fun hc => absurd hc (by decide))
  refine rs_iload_n d_m_merged_220 rfl rfl ?_
  refine rs_istore d_m_merged_221 rfl (by decide) rfl ?_
  exact loop c 0 (by omega)
set_option maxRecDepth 100000 in
theorem k_m_mg_some {G : rsG} {n : Nat} {S T : Nat → Nat → Int32} {lv : Nat → Nat} {th mm iu bd : Int32} {mn : Nat} {av : Int32} {hf : rsH} {ll z c : Nat} (hm : mn ≤ 12) (hz : ∀ i, i < z → nI (lv i) < nI ll) (hz1 : z < mn → ¬ nI (lv z) < nI ll) (hc : (rp_cnt (fun i => decide (nI (lv i) = nI ll)) mn) = c) (hc0 : 0 < c) (hzc : z + c ≤ mn) (hr : nI (((rm_sz (va_up S 13 (fun k => rm_dr (decide (z + c = mn)) (rm_oS S z c k))) 13) + 3) / 4) ≤ (nI 40 - nI (rm_free (va_up S 13 (fun k => rm_dr (decide (z + c = mn)) (rm_oS S z c k))) mn))) (hbd : bd = -1 ∨ 0 ≤ bd) {bd' : Int32} (hw : rp_sp bd (nI ((((rm_sz (va_up S 13 (fun k => rm_dr (decide (z + c = mn)) (rm_oS S z c k))) 13) + 3) / 4) + 1)) = some bd') (hl : ll < 3) (h0 : 0 < (rm_sz (va_up S 13 (fun k => rm_dr (decide (z + c = mn)) (rm_oS S z c k))) 13)) : rsK G M_m_merged (rmO 3 63) [.ref (rsB G + 46), .int (nI ll)] (rmd G S T lv th mm iu bd mn av hf) n (rsOk (some (.int 0)) (rmd G (rm_cp (rm_D (mn - c) (rm_tk (va_up S 13 (fun k => rm_dr (decide (z + c = mn)) (rm_oS S z c k))) z mn c) z) 13 z) (rm_cp (rm_D (mn - c) (rm_tk (va_up T 13 (rm_oT S T z c)) z mn c) z) 13 z) (va_up (rm_D (mn - c) (rm_tk lv z mn c) z) z (min (ll + 1) 2)) th mm iu bd' (mn - c + 1) av hf) n) := by
  have loop : ∀ (d i : Nat), i + d = c → rsV G M_m_merged (rmO 3 63) (rsOk (some (.int 0)) (rmd G (rm_cp (rm_D (mn - c) (rm_tk (va_up S 13 (fun k => rm_dr (decide (z + c = mn)) (rm_oS S z c k))) z mn c) z) 13 z) (rm_cp (rm_D (mn - c) (rm_tk (va_up T 13 (rm_oT S T z c)) z mn c) z) 13 z) (va_up (rm_D (mn - c) (rm_tk lv z mn c) z) z (min (ll + 1) 2)) th mm iu bd' (mn - c + 1) av hf) n) 0 0 223 [some (.ref (rsB G + 46)), some (.int (nI ll)), some (.int (nI z)), some (.int (nI (z + c))), some (.int (nI (rm_sz (va_up S 13 (fun k => rm_dr (decide (z + c = mn)) (rm_oS S z c k))) 13))), some (.int (nI (z + i)))] [] (rmd G (rm_tk (va_up S 13 (fun k => rm_dr (decide (z + c = mn)) (rm_oS S z c k))) z mn i) (rm_tk (va_up T 13 (rm_oT S T z c)) z mn i) (rm_tk lv z mn i) th mm iu bd' (mn - i) av hf) n := by
    intro d
    induction d with
    | zero =>
      intro i hi
      obtain rfl : i = c := by omega
      refine rs_iload d_m_merged_223 rfl rfl ?_
      refine rs_iload_n d_m_merged_225 rfl rfl ?_
      refine rs_icmp_ge (tgt := 240) d_m_merged_226 rfl (by decide) (fun _ => ?_) (fun hc => absurd (nI_le (by omega) (by omega)) hc)
      refine rs_iload d_m_merged_240 rfl rfl ?_
      refine rs_if_le (tgt := 262) d_m_merged_242 rfl (by decide) (fun hc => absurd hc (nI_nle h0 (Nat.lt_of_le_of_lt (rm_sz_le _ 13) (by decide)))) (fun _ => ?_)
      refine rs_aload_n d_m_merged_245 rfl rfl ?_
      refine rs_iload_n d_m_merged_246 rfl rfl ?_
      refine rs_iload_n d_m_merged_247 rfl rfl ?_
      refine rs_iconst (v := (nI 2)) d_m_merged_248 rfl (by decide) ?_
      by_cases h2 : 2 ≤ ll
      · refine rs_icmp_ge (tgt := 258) d_m_merged_249 rfl (by decide) (fun _ => ?_) (fun hc => absurd (nI_le h2 (by omega)) hc)
        refine rs_iconst (v := (nI 2)) d_m_merged_258 rfl (by decide) ?_
        rw [show min (ll + 1) 2 = 2 by omega]
        refine rx_cV d_m_merged_259 rfl c_m_65 (by exact np_m_insert) rm_o (k_m_insert (by omega) (by omega)) (by decide) ⟨rfl, rfl⟩ (Nat.le_of_ble_eq_true rfl) rfl ?_
        refine rs_iconst (v := 0) d_m_merged_262 rfl (by decide) ?_
        exact rs_ireturn d_m_merged_263 rfl ⟨rfl, rfl, rfl⟩
      · refine rs_icmp_ge (tgt := 258) d_m_merged_249 rfl (by decide) (fun hc => absurd hc (nI_ge (by omega) (by omega))) (fun _ => ?_)
        refine rs_iload_n d_m_merged_252 rfl rfl ?_
        refine rs_iconst (v := (nI 1)) d_m_merged_253 rfl (by decide) ?_
        refine rs_iadd d_m_merged_254 rfl ?_
        refine rs_tope (nI_add _ _) ?_
        refine rs_goto (tgt := 259) d_m_merged_255 (by decide) ?_
        rw [show min (ll + 1) 2 = ll + 1 by omega]
        refine rx_cV d_m_merged_259 rfl c_m_65 (by exact np_m_insert) rm_o (k_m_insert (by omega) (by omega)) (by decide) ⟨rfl, rfl⟩ (Nat.le_of_ble_eq_true rfl) rfl ?_
        refine rs_iconst (v := 0) d_m_merged_262 rfl (by decide) ?_
        exact rs_ireturn d_m_merged_263 rfl ⟨rfl, rfl, rfl⟩
    | succ d ih =>
      intro i hi
      refine rs_iload d_m_merged_223 rfl rfl ?_
      refine rs_iload_n d_m_merged_225 rfl rfl ?_
      refine rs_icmp_ge (tgt := 240) d_m_merged_226 rfl (by decide) (fun hc => absurd hc (nI_ge (by omega) (by omega))) (fun _ => ?_)
      refine rs_aload_n d_m_merged_229 rfl rfl ?_
      refine rs_iload_n d_m_merged_230 rfl rfl ?_
      rw [show mn - i = mn - (i + 1) + 1 by omega]
      refine rx_cV d_m_merged_231 rfl c_m_74 (by exact np_m_takeOut) rm_o (k_m_takeOut (by omega) (by omega)) (by decide) ⟨rfl, rfl⟩ (Nat.le_of_ble_eq_true rfl) rfl ?_
      refine rs_iinc d_m_merged_234 rfl (by decide) rfl (rs_inc1 _) rfl ?_
      refine rs_goto (tgt := 223) d_m_merged_237 (by decide) ?_
      exact ih (i + 1) (by omega)
  refine rsK_of pf_m_merged rfl (Nat.le_of_ble_eq_true rfl) rfl ?_
  refine k_m_mg_pre hm hz hz1 hc hc0 hzc (fun x5 => ?_)
  refine rs_aload_n d_m_merged_182 rfl rfl ?_
  refine rs_bipush (v := (nI 13)) d_m_merged_183 rfl (by decide) ?_
  refine rx_cV d_m_merged_185 rfl c_m_32 (by exact np_m_sizeOf) rm_o (k_m_sizeOf (by decide)) (by decide) ⟨rfl, rfl⟩ (Nat.le_of_ble_eq_true rfl) rfl ?_
  refine rs_istore d_m_merged_188 rfl (by decide) rfl ?_
  refine rs_iload d_m_merged_190 rfl rfl ?_
  refine rx_cS d_m_merged_192 rfl c_m_36 (by exact np_m_blocksFor) (k_m_blocksFor (rm_sz_le _ 13)) (by decide) ⟨rfl, rfl⟩ (Nat.le_of_ble_eq_true rfl) rfl ?_
  refine rs_aload_n d_m_merged_195 rfl rfl ?_
  refine rx_cV d_m_merged_196 rfl c_m_57 (by exact np_m_freeBlocks) rm_o (k_m_freeBlocks hm) (by decide) ⟨rfl, rfl⟩ (Nat.le_of_ble_eq_true rfl) rfl ?_
  refine rs_icmp_le (tgt := 204) d_m_merged_199 rfl (by decide) (fun _ => ?_) (fun hc => absurd (hr) hc)
  refine rs_aload_n d_m_merged_204 rfl rfl ?_
  refine rs_iload d_m_merged_205 rfl rfl ?_
  refine rx_cS d_m_merged_207 rfl c_m_36 (by exact np_m_blocksFor) (k_m_blocksFor (rm_sz_le _ 13)) (by decide) ⟨rfl, rfl⟩ (Nat.le_of_ble_eq_true rfl) rfl ?_
  refine rs_iconst (v := (nI 1)) d_m_merged_210 rfl (by decide) ?_
  refine rs_iadd d_m_merged_211 rfl ?_
  refine rs_tope (nI_add _ _) ?_
  refine rx_cV d_m_merged_212 rfl c_m_61 (by exact np_m_writes) rm_o (k_m_writes_ok hbd hw) (by decide) ⟨rfl, rfl⟩ (Nat.le_of_ble_eq_true rfl) rfl ?_
  refine rs_if_ne (tgt := 220) d_m_merged_215 rfl (by decide) (fun _ => ?_) (fun hc => absurd hc (by decide))
  refine rs_iload_n d_m_merged_220 rfl rfl ?_
  refine rs_istore d_m_merged_221 rfl (by decide) rfl ?_
  exact loop c 0 (by omega)
end
