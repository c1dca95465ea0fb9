section
/-! 01: the tables' words (the skeleton's PART A) -/
/-- a private method of a class that the tables say can be made, by its rows of tables_1 -/
def lw_okq (q : MethodName × Nat) : Prop := (q.1.cls ≠ "java/lang/invoke/MethodHandle" ∧ q.1.cls ≠ "java/lang/invoke/VarHandle") ∧ Cond.instantiable q.1.cls q.2 ∈ tables_1 ∧ Cond.privateMethod q.1 ∈ tables_1 ∧ Cond.instanceMethod q.1 ∈ tables_1
theorem lw_p0 : lw_okq (⟨"RunStore", "valueOrZero", "(I)I"⟩, 5) := ⟨⟨by decide +kernel, by decide +kernel⟩, List.mem_of_getElem? (i := 15) (by decide +kernel), List.mem_of_getElem? (i := 87) (by decide +kernel), List.mem_of_getElem? (i := 88) (by decide +kernel)⟩
theorem lw_p1 : lw_okq (⟨"RunStore", "newestWith", "(I)LRunStore$Entries;"⟩, 5) := ⟨⟨by decide +kernel, by decide +kernel⟩, List.mem_of_getElem? (i := 15) (by decide +kernel), List.mem_of_getElem? (i := 91) (by decide +kernel), List.mem_of_getElem? (i := 92) (by decide +kernel)⟩
theorem lw_p2 : lw_okq (⟨"RunStore$Disk", "firstPlaceOf", "(I)I"⟩, 3) := ⟨⟨by decide +kernel, by decide +kernel⟩, List.mem_of_getElem? (i := 40) (by decide +kernel), List.mem_of_getElem? (i := 107) (by decide +kernel), List.mem_of_getElem? (i := 108) (by decide +kernel)⟩
theorem lw_p3 : lw_okq (⟨"RunStore", "spendWrites", "(I)V"⟩, 5) := ⟨⟨by decide +kernel, by decide +kernel⟩, List.mem_of_getElem? (i := 15) (by decide +kernel), List.mem_of_getElem? (i := 132) (by decide +kernel), List.mem_of_getElem? (i := 133) (by decide +kernel)⟩
theorem lw_p4 : lw_okq (⟨"RunStore", "goDown", "()V"⟩, 5) := ⟨⟨by decide +kernel, by decide +kernel⟩, List.mem_of_getElem? (i := 15) (by decide +kernel), List.mem_of_getElem? (i := 136) (by decide +kernel), List.mem_of_getElem? (i := 137) (by decide +kernel)⟩
theorem lw_p5 : lw_okq (⟨"java/lang/Throwable", "fillInStackTrace", "(I)Ljava/lang/Throwable;"⟩, 6) := ⟨⟨by decide +kernel, by decide +kernel⟩, List.mem_of_getElem? (i := 186) (by decide +kernel), List.mem_of_getElem? (i := 184) (by decide +kernel), List.mem_of_getElem? (i := 185) (by decide +kernel)⟩
theorem lw_p6 : lw_okq (⟨"RunStore", "comeUp", "()V"⟩, 5) := ⟨⟨by decide +kernel, by decide +kernel⟩, List.mem_of_getElem? (i := 15) (by decide +kernel), List.mem_of_getElem? (i := 221) (by decide +kernel), List.mem_of_getElem? (i := 222) (by decide +kernel)⟩
theorem lw_p7 : lw_okq (⟨"RunStore", "requireDisk", "()V"⟩, 5) := ⟨⟨by decide +kernel, by decide +kernel⟩, List.mem_of_getElem? (i := 15) (by decide +kernel), List.mem_of_getElem? (i := 233) (by decide +kernel), List.mem_of_getElem? (i := 234) (by decide +kernel)⟩
theorem lw_p8 : lw_okq (⟨"RunStore", "requireUp", "()V"⟩, 5) := ⟨⟨by decide +kernel, by decide +kernel⟩, List.mem_of_getElem? (i := 15) (by decide +kernel), List.mem_of_getElem? (i := 271) (by decide +kernel), List.mem_of_getElem? (i := 272) (by decide +kernel)⟩
theorem lw_p9 : lw_okq (⟨"RunStore", "makePlaceInMemory", "(I)V"⟩, 5) := ⟨⟨by decide +kernel, by decide +kernel⟩, List.mem_of_getElem? (i := 15) (by decide +kernel), List.mem_of_getElem? (i := 276) (by decide +kernel), List.mem_of_getElem? (i := 277) (by decide +kernel)⟩
theorem lw_p10 : lw_okq (⟨"RunStore", "flushMemory", "()I"⟩, 5) := ⟨⟨by decide +kernel, by decide +kernel⟩, List.mem_of_getElem? (i := 15) (by decide +kernel), List.mem_of_getElem? (i := 280) (by decide +kernel), List.mem_of_getElem? (i := 281) (by decide +kernel)⟩
theorem lw_p11 : lw_okq (⟨"RunStore$Entries", "setEntry", "(III)V"⟩, 3) := ⟨⟨by decide +kernel, by decide +kernel⟩, List.mem_of_getElem? (i := 23) (by decide +kernel), List.mem_of_getElem? (i := 298) (by decide +kernel), List.mem_of_getElem? (i := 299) (by decide +kernel)⟩
theorem lw_p12 : lw_okq (⟨"RunStore", "writeDraft", "(Z)V"⟩, 5) := ⟨⟨by decide +kernel, by decide +kernel⟩, List.mem_of_getElem? (i := 15) (by decide +kernel), List.mem_of_getElem? (i := 302) (by decide +kernel), List.mem_of_getElem? (i := 303) (by decide +kernel)⟩
theorem lw_p13 : lw_okq (⟨"RunStore$Disk", "moveDraftTo", "(I)V"⟩, 3) := ⟨⟨by decide +kernel, by decide +kernel⟩, List.mem_of_getElem? (i := 40) (by decide +kernel), List.mem_of_getElem? (i := 336) (by decide +kernel), List.mem_of_getElem? (i := 337) (by decide +kernel)⟩
theorem lw_p14 : lw_okq (⟨"RunStore", "isThere", "(I)Z"⟩, 5) := ⟨⟨by decide +kernel, by decide +kernel⟩, List.mem_of_getElem? (i := 15) (by decide +kernel), List.mem_of_getElem? (i := 351) (by decide +kernel), List.mem_of_getElem? (i := 352) (by decide +kernel)⟩
theorem lw_p15 : lw_okq (⟨"RunStore", "leastLevelToCompact", "()I"⟩, 5) := ⟨⟨by decide +kernel, by decide +kernel⟩, List.mem_of_getElem? (i := 15) (by decide +kernel), List.mem_of_getElem? (i := 408) (by decide +kernel), List.mem_of_getElem? (i := 409) (by decide +kernel)⟩
def lw_privs_1 : List (MethodName × Nat) := [(⟨"RunStore", "valueOrZero", "(I)I"⟩, 5), (⟨"RunStore", "newestWith", "(I)LRunStore$Entries;"⟩, 5), (⟨"RunStore$Disk", "firstPlaceOf", "(I)I"⟩, 3), (⟨"RunStore", "spendWrites", "(I)V"⟩, 5), (⟨"RunStore", "goDown", "()V"⟩, 5), (⟨"java/lang/Throwable", "fillInStackTrace", "(I)Ljava/lang/Throwable;"⟩, 6), (⟨"RunStore", "comeUp", "()V"⟩, 5), (⟨"RunStore", "requireDisk", "()V"⟩, 5), (⟨"RunStore", "requireUp", "()V"⟩, 5), (⟨"RunStore", "makePlaceInMemory", "(I)V"⟩, 5), (⟨"RunStore", "flushMemory", "()I"⟩, 5), (⟨"RunStore$Entries", "setEntry", "(III)V"⟩, 3), (⟨"RunStore", "writeDraft", "(Z)V"⟩, 5), (⟨"RunStore$Disk", "moveDraftTo", "(I)V"⟩, 3), (⟨"RunStore", "isThere", "(I)Z"⟩, 5), (⟨"RunStore", "leastLevelToCompact", "()I"⟩, 5)]
theorem lw_r1 : ∀ q ∈ lw_privs_1, lw_okq q := List.forall_mem_cons.mpr ⟨lw_p0, List.forall_mem_cons.mpr ⟨lw_p1, List.forall_mem_cons.mpr ⟨lw_p2, List.forall_mem_cons.mpr ⟨lw_p3, List.forall_mem_cons.mpr ⟨lw_p4, List.forall_mem_cons.mpr ⟨lw_p5, List.forall_mem_cons.mpr ⟨lw_p6, List.forall_mem_cons.mpr ⟨lw_p7, List.forall_mem_cons.mpr ⟨lw_p8, List.forall_mem_cons.mpr ⟨lw_p9, List.forall_mem_cons.mpr ⟨lw_p10, List.forall_mem_cons.mpr ⟨lw_p11, List.forall_mem_cons.mpr ⟨lw_p12, List.forall_mem_cons.mpr ⟨lw_p13, List.forall_mem_cons.mpr ⟨lw_p14, List.forall_mem_cons.mpr ⟨lw_p15, fun _ h => absurd h List.not_mem_nil⟩⟩⟩⟩⟩⟩⟩⟩⟩⟩⟩⟩⟩⟩⟩⟩
theorem lw_p16 : lw_okq (⟨"RunStore", "mergeLevel", "(I)I"⟩, 5) := ⟨⟨by decide +kernel, by decide +kernel⟩, List.mem_of_getElem? (i := 15) (by decide +kernel), List.mem_of_getElem? (i := 416) (by decide +kernel), List.mem_of_getElem? (i := 417) (by decide +kernel)⟩
theorem lw_p17 : lw_okq (⟨"RunStore$Disk", "moveToDraft", "(I)V"⟩, 3) := ⟨⟨by decide +kernel, by decide +kernel⟩, List.mem_of_getElem? (i := 40) (by decide +kernel), List.mem_of_getElem? (i := 440) (by decide +kernel), List.mem_of_getElem? (i := 441) (by decide +kernel)⟩
theorem lw_p18 : lw_okq (⟨"RunStore", "leastKeyThere", "(I)I"⟩, 5) := ⟨⟨by decide +kernel, by decide +kernel⟩, List.mem_of_getElem? (i := 15) (by decide +kernel), List.mem_of_getElem? (i := 473) (by decide +kernel), List.mem_of_getElem? (i := 474) (by decide +kernel)⟩
theorem lw_p19 : lw_okq (⟨"RunStoreModel", "writes", "(I)Z"⟩, 9) := ⟨⟨by decide +kernel, by decide +kernel⟩, List.mem_of_getElem? (i := 515) (by decide +kernel), List.mem_of_getElem? (i := 557) (by decide +kernel), List.mem_of_getElem? (i := 558) (by decide +kernel)⟩
theorem lw_p20 : lw_okq (⟨"RunStoreModel", "goDown", "()V"⟩, 9) := ⟨⟨by decide +kernel, by decide +kernel⟩, List.mem_of_getElem? (i := 515) (by decide +kernel), List.mem_of_getElem? (i := 561) (by decide +kernel), List.mem_of_getElem? (i := 562) (by decide +kernel)⟩
theorem lw_p21 : lw_okq (⟨"RunStoreModel", "clearRow", "(I)V"⟩, 9) := ⟨⟨by decide +kernel, by decide +kernel⟩, List.mem_of_getElem? (i := 515) (by decide +kernel), List.mem_of_getElem? (i := 565) (by decide +kernel), List.mem_of_getElem? (i := 566) (by decide +kernel)⟩
theorem lw_p22 : lw_okq (⟨"RunStoreModel", "enter", "(III)V"⟩, 9) := ⟨⟨by decide +kernel, by decide +kernel⟩, List.mem_of_getElem? (i := 515) (by decide +kernel), List.mem_of_getElem? (i := 577) (by decide +kernel), List.mem_of_getElem? (i := 578) (by decide +kernel)⟩
theorem lw_p23 : lw_okq (⟨"RunStoreModel", "sizeOf", "(I)I"⟩, 9) := ⟨⟨by decide +kernel, by decide +kernel⟩, List.mem_of_getElem? (i := 515) (by decide +kernel), List.mem_of_getElem? (i := 584) (by decide +kernel), List.mem_of_getElem? (i := 585) (by decide +kernel)⟩
theorem lw_p24 : lw_okq (⟨"RunStoreModel", "flushed", "()I"⟩, 9) := ⟨⟨by decide +kernel, by decide +kernel⟩, List.mem_of_getElem? (i := 515) (by decide +kernel), List.mem_of_getElem? (i := 588) (by decide +kernel), List.mem_of_getElem? (i := 589) (by decide +kernel)⟩
theorem lw_p25 : lw_okq (⟨"RunStoreModel", "freeBlocks", "()I"⟩, 9) := ⟨⟨by decide +kernel, by decide +kernel⟩, List.mem_of_getElem? (i := 515) (by decide +kernel), List.mem_of_getElem? (i := 595) (by decide +kernel), List.mem_of_getElem? (i := 596) (by decide +kernel)⟩
theorem lw_p26 : lw_okq (⟨"RunStoreModel", "copyRow", "(II)V"⟩, 9) := ⟨⟨by decide +kernel, by decide +kernel⟩, List.mem_of_getElem? (i := 515) (by decide +kernel), List.mem_of_getElem? (i := 599) (by decide +kernel), List.mem_of_getElem? (i := 600) (by decide +kernel)⟩
theorem lw_p27 : lw_okq (⟨"RunStoreModel", "insert", "(II)V"⟩, 9) := ⟨⟨by decide +kernel, by decide +kernel⟩, List.mem_of_getElem? (i := 515) (by decide +kernel), List.mem_of_getElem? (i := 603) (by decide +kernel), List.mem_of_getElem? (i := 604) (by decide +kernel)⟩
theorem lw_p28 : lw_okq (⟨"RunStoreModel", "isThere", "(I)Z"⟩, 9) := ⟨⟨by decide +kernel, by decide +kernel⟩, List.mem_of_getElem? (i := 515) (by decide +kernel), List.mem_of_getElem? (i := 611) (by decide +kernel), List.mem_of_getElem? (i := 612) (by decide +kernel)⟩
theorem lw_p29 : lw_okq (⟨"RunStoreModel", "newest", "(I)I"⟩, 9) := ⟨⟨by decide +kernel, by decide +kernel⟩, List.mem_of_getElem? (i := 515) (by decide +kernel), List.mem_of_getElem? (i := 615) (by decide +kernel), List.mem_of_getElem? (i := 616) (by decide +kernel)⟩
theorem lw_p30 : lw_okq (⟨"RunStoreModel", "runsOf", "(I)I"⟩, 9) := ⟨⟨by decide +kernel, by decide +kernel⟩, List.mem_of_getElem? (i := 515) (by decide +kernel), List.mem_of_getElem? (i := 635) (by decide +kernel), List.mem_of_getElem? (i := 636) (by decide +kernel)⟩
theorem lw_p31 : lw_okq (⟨"RunStoreModel", "merged", "(I)I"⟩, 9) := ⟨⟨by decide +kernel, by decide +kernel⟩, List.mem_of_getElem? (i := 515) (by decide +kernel), List.mem_of_getElem? (i := 639) (by decide +kernel), List.mem_of_getElem? (i := 640) (by decide +kernel)⟩
def lw_privs_2 : List (MethodName × Nat) := [(⟨"RunStore", "mergeLevel", "(I)I"⟩, 5), (⟨"RunStore$Disk", "moveToDraft", "(I)V"⟩, 3), (⟨"RunStore", "leastKeyThere", "(I)I"⟩, 5), (⟨"RunStoreModel", "writes", "(I)Z"⟩, 9), (⟨"RunStoreModel", "goDown", "()V"⟩, 9), (⟨"RunStoreModel", "clearRow", "(I)V"⟩, 9), (⟨"RunStoreModel", "enter", "(III)V"⟩, 9), (⟨"RunStoreModel", "sizeOf", "(I)I"⟩, 9), (⟨"RunStoreModel", "flushed", "()I"⟩, 9), (⟨"RunStoreModel", "freeBlocks", "()I"⟩, 9), (⟨"RunStoreModel", "copyRow", "(II)V"⟩, 9), (⟨"RunStoreModel", "insert", "(II)V"⟩, 9), (⟨"RunStoreModel", "isThere", "(I)Z"⟩, 9), (⟨"RunStoreModel", "newest", "(I)I"⟩, 9), (⟨"RunStoreModel", "runsOf", "(I)I"⟩, 9), (⟨"RunStoreModel", "merged", "(I)I"⟩, 9)]
theorem lw_r2 : ∀ q ∈ lw_privs_2, lw_okq q := List.forall_mem_cons.mpr ⟨lw_p16, List.forall_mem_cons.mpr ⟨lw_p17, List.forall_mem_cons.mpr ⟨lw_p18, List.forall_mem_cons.mpr ⟨lw_p19, List.forall_mem_cons.mpr ⟨lw_p20, List.forall_mem_cons.mpr ⟨lw_p21, List.forall_mem_cons.mpr ⟨lw_p22, List.forall_mem_cons.mpr ⟨lw_p23, List.forall_mem_cons.mpr ⟨lw_p24, List.forall_mem_cons.mpr ⟨lw_p25, List.forall_mem_cons.mpr ⟨lw_p26, List.forall_mem_cons.mpr ⟨lw_p27, List.forall_mem_cons.mpr ⟨lw_p28, List.forall_mem_cons.mpr ⟨lw_p29, List.forall_mem_cons.mpr ⟨lw_p30, List.forall_mem_cons.mpr ⟨lw_p31, fun _ h => absurd h List.not_mem_nil⟩⟩⟩⟩⟩⟩⟩⟩⟩⟩⟩⟩⟩⟩⟩⟩
theorem lw_p32 : lw_okq (⟨"RunStoreModel", "begin", "(I)I"⟩, 9) := ⟨⟨by decide +kernel, by decide +kernel⟩, List.mem_of_getElem? (i := 515) (by decide +kernel), List.mem_of_getElem? (i := 643) (by decide +kernel), List.mem_of_getElem? (i := 644) (by decide +kernel)⟩
theorem lw_p33 : lw_okq (⟨"RunStoreModel", "takeOut", "(I)V"⟩, 9) := ⟨⟨by decide +kernel, by decide +kernel⟩, List.mem_of_getElem? (i := 515) (by decide +kernel), List.mem_of_getElem? (i := 647) (by decide +kernel), List.mem_of_getElem? (i := 648) (by decide +kernel)⟩
theorem lw_p34 : lw_okq (⟨"RunStoreModel", "goTo", "(I)Z"⟩, 9) := ⟨⟨by decide +kernel, by decide +kernel⟩, List.mem_of_getElem? (i := 515) (by decide +kernel), List.mem_of_getElem? (i := 670) (by decide +kernel), List.mem_of_getElem? (i := 671) (by decide +kernel)⟩
def lw_privs_3 : List (MethodName × Nat) := [(⟨"RunStoreModel", "begin", "(I)I"⟩, 9), (⟨"RunStoreModel", "takeOut", "(I)V"⟩, 9), (⟨"RunStoreModel", "goTo", "(I)Z"⟩, 9)]
theorem lw_r3 : ∀ q ∈ lw_privs_3, lw_okq q := List.forall_mem_cons.mpr ⟨lw_p32, List.forall_mem_cons.mpr ⟨lw_p33, List.forall_mem_cons.mpr ⟨lw_p34, fun _ h => absurd h List.not_mem_nil⟩⟩⟩
def lw_privs : List (MethodName × Nat) := lw_privs_1 ++ (lw_privs_2 ++ (lw_privs_3))
def lw_tbl : List Cond := k2_sels lw_privs ++ tables_1
theorem lw_privs_ok : ∀ q ∈ lw_privs, lw_okq q := by
  show ∀ q ∈ lw_privs_1 ++ (lw_privs_2 ++ (lw_privs_3)), lw_okq q
  exact List.forall_mem_append.mpr ⟨lw_r1, List.forall_mem_append.mpr ⟨lw_r2, lw_r3⟩⟩
end
section
/-! 02: the classes of the world, the words that are used, what is known of exceptions and texts (written by gen_words.py) -/
def rsF0 : u_T := fun k => match k with
  | 0 => ("RunStore", "gathered", "LRunStore$Entries;", true)
  | 1 => ("RunStore", "disk", "LRunStore$Disk;", true)
  | 2 => ("RunStore", "up", "Z", false)
  | 3 => ("RunStore", "writesLeft", "I", false)
  | _ => ("RunStore", "cursor", "I", false)
def rsY0 : Nat → FieldType := fun k => match k with
  | 0 => .object "RunStore$Entries"
  | 1 => .object "RunStore$Disk"
  | 2 => .boolean
  | 3 => .int
  | _ => .int
theorem rsY0_ok : ∀ k, k < 5 → parseFieldDescriptor (rsF0 k).2.2.1 = some (rsY0 k) := by decide +kernel
theorem rsF0_nm : ∀ a, a < 5 → ∀ b, b < 5 → a ≠ b → (rsF0 a).2.1 ≠ (rsF0 b).2.1 := by decide +kernel
def rsF1 : u_T := fun k => match k with
  | 0 => ("RunStore$Entries", "kinds", "[I", true)
  | 1 => ("RunStore$Entries", "values", "[I", true)
  | _ => ("RunStore$Entries", "count", "I", false)
def rsY1 : Nat → FieldType := fun k => match k with
  | 0 => .array .int
  | 1 => .array .int
  | _ => .int
theorem rsY1_ok : ∀ k, k < 3 → parseFieldDescriptor (rsF1 k).2.2.1 = some (rsY1 k) := by decide +kernel
theorem rsF1_nm : ∀ a, a < 3 → ∀ b, b < 3 → a ≠ b → (rsF1 a).2.1 ≠ (rsF1 b).2.1 := by decide +kernel
def rsF2 : u_T := fun k => match k with
  | 0 => ("RunStore$Disk", "places", "[LRunStore$Entries;", true)
  | 1 => ("RunStore$Disk", "runsOfLevel", "[I", true)
  | _ => ("RunStore$Disk", "made", "Z", false)
def rsY2 : Nat → FieldType := fun k => match k with
  | 0 => .array (.object "RunStore$Entries")
  | 1 => .array .int
  | _ => .boolean
theorem rsY2_ok : ∀ k, k < 3 → parseFieldDescriptor (rsF2 k).2.2.1 = some (rsY2 k) := by decide +kernel
theorem rsF2_nm : ∀ a, a < 3 → ∀ b, b < 3 → a ≠ b → (rsF2 a).2.1 ≠ (rsF2 b).2.1 := by decide +kernel
def rsF3 : u_T := fun k => match k with
  | 0 => ("RunStoreModel", "thrown", "I", false)
  | 1 => ("RunStoreModel", "made", "Z", false)
  | 2 => ("RunStoreModel", "isUp", "Z", false)
  | 3 => ("RunStoreModel", "bound", "I", false)
  | 4 => ("RunStoreModel", "many", "I", false)
  | 5 => ("RunStoreModel", "levels", "[I", true)
  | 6 => ("RunStoreModel", "sort", "[I", true)
  | 7 => ("RunStoreModel", "values", "[I", true)
  | _ => ("RunStoreModel", "at", "I", false)
def rsY3 : Nat → FieldType := fun k => match k with
  | 0 => .int
  | 1 => .boolean
  | 2 => .boolean
  | 3 => .int
  | 4 => .int
  | 5 => .array .int
  | 6 => .array .int
  | 7 => .array .int
  | _ => .int
theorem rsY3_ok : ∀ k, k < 9 → parseFieldDescriptor (rsF3 k).2.2.1 = some (rsY3 k) := by decide +kernel
theorem rsF3_nm : ∀ a, a < 9 → ∀ b, b < 9 → a ≠ b → (rsF3 a).2.1 ≠ (rsF3 b).2.1 := by decide +kernel
abbrev rsCl : List vw_C := [("RunStore", rsF0, 5), ("RunStore$Entries", rsF1, 3), ("RunStore$Disk", rsF2, 3), ("RunStoreModel", rsF3, 9)]
theorem rsCl_1 : rsCl[1]? = some ("RunStore$Entries", rsF1, 3) := rfl
def rsEx : Nat → String
  | 0 => "java/lang/IllegalArgumentException"
  | 1 => "java/lang/IllegalStateException"
  | 2 => "java/lang/UnsupportedOperationException"
  | _ => "java/util/NoSuchElementException"
/-- words that stay true under warmer tables -/
def rs_good : Cond → Bool
  | .arrayOver (.object _) => true
  | .castable _ _ => true
  | .declares _ => true
  | w => goodWord w
def rsTs : List Cond := lw_tbl.filter rs_good
theorem rs_in {w : Cond} (h : w ∈ lw_tbl) (g : rs_good w = true) : w ∈ rsTs := List.mem_filter.mpr ⟨h, g⟩
theorem rs_t {w : Cond} (i : Nat) (h : tables_1[i]? = some w) (g : rs_good w = true) : w ∈ rsTs := rs_in (List.mem_append_right _ (List.mem_of_getElem? h)) g
theorem rs_s {q : MethodName × Nat} (i : Nat) (h : lw_privs[i]? = some q) : Cond.selects q.1.cls q.1 q.1 ∈ rsTs := rs_in (List.mem_append_left _ (List.mem_map.mpr ⟨q, List.mem_of_getElem? h, rfl⟩)) rfl
theorem rs_good_at {args a' : Array Value} {s U : State} {w : Cond} (hW : s.WarmedH U.vm) (hg : rs_good w = true) (h : w.before args s = true) : w.before a' U = true := by
  by_cases h1 : goodWord w = true
  · exact word_at hW (good_of_word h1) h
  · cases w with
    | arrayOver t =>
      cases t with
      | object C => exact va_AO.use (va_AO.moved hW.alike (va_AO.of h))
      | _ => exact absurd hg h1
    | castable C T => exact va_Nw.use rfl (va_Nw.warmC hW (va_tabs rfl rfl h))
    | declares x => exact va_Nw.use rfl (va_Nw.warmD hW (va_tabs rfl rfl h))
    | _ => exact absurd hg h1
def rsStr : List (String × Nat × String) := [("RunStore", 145, "the store went down"), ("RunStore", 46, "the store is up"), ("RunStore", 137, "the disk was never made"), ("RunStore", 127, "a key is 0 .. 99"), ("RunStore", 131, "the store is down"), ("RunStore", 156, "there is no room"), ("RunStore", 83, "the key is not there"), ("RunStore", 129, "a level is 0 .. 2"), ("RunStore", 104, "a limit is -1 .. 1000"), ("RunStore", 110, "there is no cursor"), ("RunStore", 118, "there is no such run")]
/-- a static field of the JDK's: its class's statics cell lies below b, and holds a reference or null -/
def rs_L (C n d : String) (b : Nat) (U : State) (H : Heap) : Prop := ∃ (c : ClassId) (k : Class) (i : Nat) (f : Field) (a : Nat) (cell : Cell), U.vm.findClass C = some c ∧ U.fieldFound? C n d = some (c, k, i, f) ∧ f.isStatic = true ∧ k.statics = some a ∧ H[a]? = some cell ∧ cell.vm.isStatics = true ∧ cell.cls = c ∧ f.slot < cell.slots.size ∧ k.staticTypes[f.slot]? = some f.type ∧ a < b
theorem rs_L_at {C n d : String} {b : Nat} {s U : State} (hvm : s.vm.Alike U.vm) (hold : ∀ q, q < b → U.heap[q]? = s.heap[q]?) (h : rs_L C n d b s s.heap) (args : Array Value) : (Cond.laysStatic C n d).before args U = true := by
  obtain ⟨c, k, i, f, a, cell, h1, h2, h3, h4, h5, h6, h7, h8, h9, h10⟩ := h
  obtain ⟨k', hi', he⟩ := State.fieldFound?_setVm hvm h2
  show (Cond.laysStatic C n d).holds args U none U [] = true
  exact Cond.laysStatic_of (by rw [hvm.findClass]; exact h1) hi' h3 (by rw [he]; exact h4) (by rw [hold a h10]; exact h5) h6 h7 h8 (by rw [he]; exact h9)
theorem rs_Z_at {C n d : String} {b : Nat} {s U : State} (hvm : s.vm.Alike U.vm) (hb : s.heap.size = b) (hold : ∀ q, q < b → U.heap[q]? = s.heap[q]?) (h : va_Zq C n d (fun q => b ≤ q) s s.heap) (args : Array Value) : (Cond.isRef (.static C n d)).before args U = true := by
  have h2 := va_Zq.moved hvm (h.kept (H1 := U.heap) (fun a h1 _ => hold a (by rw [← hb]; exact h1)))
  have key : ∀ v : Value, v.isRef = true → va_Z C n d v (fun q => b ≤ q) U U.heap → (Cond.isRef (.static C n d)).before args U = true := by
    intro v hv hz
    obtain ⟨cf, kf, fi, f, a, cell, h1, h2, h3, h4, h5, h6, h7, -⟩ := hz
    have he : (Term.static C n d).eval args U none [] U = some v := by
      simp [Term.eval, State.fieldNamed?, h1, h2, h4, h5, h6, h7]
    simp only [Cond.before, Cond.holds, Cond.value, he]
    cases v <;> simp_all [Value.isRef]
  rcases h2 with h2 | ⟨t, h2⟩
  · exact key _ rfl h2
  · exact key _ rfl h2
def rsNo (k k' : Nat) : Prop := k < 4 ∧ k' < 4 ∧ k ≠ k'
/-- what is known of the start beside the words: the launch, the exceptions' classes, the texts, Throwable's statics -/
def rsX (l : Launch) (s : State) : Prop := l.flags = pinnedFlags ++ [noTraceFlag] ∧ (∀ k, k < 4 → ∃ c, ClassAt s (rsEx k) c) ∧ (∀ k k', rsNo k k' → va_Nc (rsEx k) (rsEx k') s) ∧ (∀ q ∈ rsStr, ∃ a, vk_R q.1 q.2.1 q.2.2 a s) ∧
  rs_L Bundle.tN "UNASSIGNED_STACK" Bundle.steD s.heap.size s s.heap ∧ rs_L Bundle.tN "SUPPRESSED_SENTINEL" Bundle.listD s.heap.size s s.heap ∧
  va_Zq Bundle.tN "UNASSIGNED_STACK" Bundle.steD (fun q => s.heap.size ≤ q) s s.heap ∧ va_Zq Bundle.tN "SUPPRESSED_SENTINEL" Bundle.listD (fun q => s.heap.size ≤ q) s s.heap
theorem rsEx_fit {k : Nat} (h : k < 4) : Bundle.fit (rsEx k) = true := by
  match k, h with
  | 0, _ => exact (by decide +kernel)
  | 1, _ => exact (by decide +kernel)
  | 2, _ => exact (by decide +kernel)
  | 3, _ => exact (by decide +kernel)
end
section
/-! 03: a contract whose method returns or throws; the judgement rsV: a frame over a world that is a function of addresses -/
section RSA
variable {l : Launch} {R : Room} {p : Program} {e : Env} {below : List Frame} {s : State} {m : MethodId} {args : Array Value} {meth : Method} {c : Code} {y : MethodName} {H : Heap} {locs : List Loc} {cells slots : Nat}
/-- the frame of a method that returned or threw -/
def rs_fe (first : State) (o : Outcome) (t : State) (L : List Loc) (k n : Nat) : Prop :=
  ((∃ v, o = .returned v) ∨ ∃ x, o = .threw x) ∧ first.WarmedH t.vm ∧ first.sameButNew ({ t with vm := first.vm } : State) L k n
def rs_Met (l : Launch) (y : MethodName) (ws : List Cond) (rm : Room) (Pc : Array Value → State → Prop) (Qc : Array Value → State → Outcome → State → Prop) (mc ms : Nat) (free : Addr → Prop) : Prop :=
  MetFree l y (headSpec ws rm) Pc (fun _ _ _ _ _ => True) (fun a st o t => Qc a st o t ∧ ∃ L, rs_fe st o t L mc ms ∧ ∀ q ∈ L, free q.base)
def rs_MQ (below : List Frame) (Qc : Array Value → State → Outcome → State → Prop) (a : Array Value) (s : State) (mc ms : Nat) (free : Addr → Prop) : State → Prop := fun t =>
  ∃ o, t.status = .running ∧ Ended t below o ∧ Qc a s o t ∧ ∃ L, rs_fe s o t L mc ms ∧ ∀ q ∈ L, free q.base
theorem rs_mono {Q Q' : State → Prop} {g : JFrame} (h : ∀ t, Q t → Q' t) (k : W p l e R s m args below meth c H locs cells slots Q g) : W p l e R s m args below meth c H locs cells slots Q' g := by
  intro T hT X
  obtain ⟨t, a, b⟩ := k T hT X
  exact ⟨t, a, h t b⟩
theorem rs_ofMQ {Qc : Array Value → State → Outcome → State → Prop} {a : Array Value} {mc ms : Nat} {free : Addr → Prop} : ∀ t, MQ below Qc a s mc ms free t → rs_MQ below Qc a s mc ms free t := by
  intro t h
  obtain ⟨o, h1, h2, h3, L, ⟨h4, h5, h6⟩, h7⟩ := h
  exact ⟨o, h1, h2, h3, L, ⟨Or.inl h4, h5, h6⟩, h7⟩
/-- what the words .code and .codeWith say of a method -/
def rs_is (y : MethodName) (cc : ByteArray) (maxL : Nat) (ret : Option FieldType) (hh : List (Nat × Nat × Nat × Nat)) (s : State) : Prop :=
  ∃ m meth c, s.methodNamed? y = some m ∧ s.vm.method? m = some meth ∧ meth.code = some c ∧ c.code = cc ∧ c.maxLocals = maxL ∧ meth.sig.returnType = ret ∧ meth.locks = false ∧ c.exceptionTable.toList.map (fun x => (x.startPc, x.endPc, x.handlerPc, x.catchType)) = hh ∧ parseMethodDescriptor y.desc = some meth.sig
def rs_word (y : MethodName) (cc : ByteArray) (maxL : Nat) (ret : Option FieldType) (hh : List (Nat × Nat × Nat × Nat)) : Cond := match hh with
  | [] => .code y cc maxL ret
  | q :: r => .codeWith y cc maxL ret (q :: r)
theorem rs_is_of {cc : ByteArray} {maxL : Nat} {ret : Option FieldType} {hh : List (Nat × Nat × Nat × Nat)} {a : Array Value} (h : (rs_word y cc maxL ret hh).before a s = true) : rs_is y cc maxL ret hh s := by
  cases hh with
  | nil =>
    obtain ⟨m, hn⟩ := Cond.code_named (h : (Cond.code y cc maxL ret).before a s = true)
    obtain ⟨meth, c, h1, h2, h3, h4, h5, h6, h7, h8⟩ := Cond.code_spec hn (h : (Cond.code y cc maxL ret).before a s = true)
    refine ⟨m, meth, c, hn, h1, h2, h3, h4, h5, h6, ?_, h8⟩
    have h9 : c.exceptionTable.toList = [] := by simpa using h7
    rw [h9]; rfl
  | cons q r =>
    obtain ⟨m, meth, c, hn, h1, h2, h3, h4, h7, h5, h6, h8⟩ := Cond.codeWith_spec (h : (Cond.codeWith y cc maxL ret (q :: r)).before a s = true)
    exact ⟨m, meth, c, hn, h1, h2, h3, h4, h5, h6, h7, h8⟩
theorem rs_ofW {rm : Room} {Pc : Array Value → State → Prop} {Qc : Array Value → State → Outcome → State → Prop} {mc ms : Nat} {free : Addr → Prop} {cc : ByteArray} {maxL : Nat} {ret : Option FieldType} {hh : List (Nat × Nat × Nat × Nat)}
    (hy : plainFor y = true)
    (body : ∀ p e s m args below meth c s₁, BodyLoose p l y (headSpec [rs_word y cc maxL ret hh] rm) cc maxL ret e s m args below meth c s₁ → c.maxLocals = maxL → Pc args s → c.exceptionTable.toList.map (fun x => (x.startPc, x.endPc, x.handlerPc, x.catchType)) = hh →
      W p l e rm s m args below meth c s.heap [] 0 0 (rs_MQ below Qc args s mc ms free) (entryFrame m args maxL)) : rs_Met l y [rs_word y cc maxL ret hh] rm Pc Qc mc ms free := by
  refine MetFree.of_bodySF (code := cc) (maxLocals := maxL) (ret := ret) hy ?_ ?_
  · intro args s m h hn
    obtain ⟨m', meth, c, hn', h1, h2, h3, h4, h5, h6, -, -⟩ := rs_is_of (atoms_spec (ws := [rs_word y cc maxL ret hh]) h _ List.mem_cons_self)
    cases hn.symm.trans hn'
    exact ⟨meth, c, h1, h2, h3, h4, h5, h6⟩
  · intro p e s m args below meth c s₁ B hml hP _
    have hh0 : s₁.heap = s.heap := by rw [B.state]; rfl
    obtain ⟨m', meth', c', hn', h1, h2, -, -, -, -, h7, -⟩ := rs_is_of (atoms_spec (ws := [rs_word y cc maxL ret hh]) B.pre _ List.mem_cons_self)
    cases B.named.symm.trans hn'
    cases B.method.symm.trans h1
    cases (Stand.of_body B).code.symm.trans h2
    obtain ⟨t, a1, o, b1, b2, b3⟩ := body p e s m args below meth c s₁ B hml hP h7 s₁ hh0 (Stand.of_body B)
    exact ⟨t, o, a1, b1, b2, ⟨b3.1, b3.2⟩⟩
/-- a call by contract: it comes back, or the note of a throw lies over the caller's frame -/
theorem rs_back {ws : List Cond} {rm : Room} {Pc : Array Value → State → Prop} {Qc : Array Value → State → Outcome → State → Prop} {mc ms maxL len : Nat} {free : Addr → Prop} {T : State}
    (hM : rs_Met l y ws rm Pc Qc mc ms free) (X : Stand p l e R s m args below meth c T locs cells slots) {g : JFrame} (hg : g.method = m) (hsize : g.locals.size = c.maxLocals) {ig : Instr} (hdg : decode c.code g.pc = .ok (ig, len))
    (hW : 2 * g.monitorRoom + (g.stack.map fun v => v.category).sum ≤ 8) {mk : MethodId} {a : Array Value} (hn : T.methodNamed? y = some mk) (hpre : (allAtoms ws).before a T = true)
    {methY : Method} {cY : Code} (hmY : T.vm.method? mk = some methY) (hcY : methY.code = some cY) (hlY : cY.maxLocals = maxL) (hini : (Cond.initialized y.cls).before a T = true)
    (hframes : rm.frames + 1 ≤ R.frames) (hlocals : 8 + (maxL + 11) + rm.locals ≤ R.locals) (hcells : cells + rm.cells ≤ R.cells) (hslots : slots + rm.slots ≤ R.slots) (hP : Pc a (T.calling g mk a)) :
    ∃ (o : Outcome) (t T' : State) (L : List Loc), Stand p l e R s m args below meth c T' (locs ++ L) (cells + mc) (slots + ms) ∧ T'.heap = t.heap ∧ T'.vm = t.vm ∧ Qc a (T.calling g mk a) o t ∧ (∀ q ∈ L, free q.base) ∧
      ((∃ v, o = .returned v ∧ Steps p.tables e below (doInvoke e (T.setTop g) [] mk a).1 (T'.setTop { g with pc := g.pc + len, stack := v.toList ++ g.stack })) ∨
       (∃ x, o = .threw x ∧ Steps p.tables e below (doInvoke e (T.setTop g) [] mk a).1 ((T'.setTop g).pushFrame (.throwing x)))) := by
  obtain ⟨kY, hkY, -⟩ := className_of_methodNamed hn
  have hinitY : kY.init = .initialized := Cond.initialized_spec (findClass_of_methodNamed hn) hkY hini
  have h : At T g.method c below := by rw [hg]; exact X.here
  have happ : (headSpec ws rm).appliesLoose y e.platform (T.calling g mk a) = true :=
    Spec.appliesLoose_calling (g := g) h hdg hn hkY hinitY (X.room_calling (g := g) (R' := rm) hsize hmY hcY hframes (by rw [hlY]; omega) hcells hslots) hpre
  obtain ⟨g₀, hr⟩ := X.frames_eq
  have hfr : (T.setTop g).frames = .java g :: below := State.frames_setTop _ hr
  have hfr' : (T.setTop g).frames = [.java g] ++ below := hfr
  obtain ⟨o, t, hsteps, -, hend, hq, L, ⟨hout, hW₂, hsame⟩, hL⟩ := Steps.callFree hM p X.admits X.cas X.clock (acts := []) hfr' happ hP trivial
  rw [hfr] at hend
  rcases hout with ⟨v, rfl⟩ | ⟨x, rfl⟩
  · obtain ⟨T', X', -, -, ht⟩ := X.outOf hg hdg (mk := mk) (a := a) hend hW₂ hsame
    refine ⟨_, t, T', L, X', ?_, ?_, hq, hL, Or.inl ⟨v, rfl, ?_⟩⟩
    · have h9 := congrArg State.heap ht.symm; exact h9
    · have h9 := congrArg State.vm ht.symm; exact h9
    · rw [← ht]; exact hsteps
  · obtain ⟨T', X', -, -, ht⟩ := X.outOfThrown hg (mk := mk) (a := a) hend hW₂ hsame
    refine ⟨_, t, T', L, X', ?_, ?_, hq, hL, Or.inr ⟨x, rfl, ?_⟩⟩
    · rw [ht, Stand.throwing_heap]
    · rw [ht, Stand.throwing_vm]
    · rw [← ht]; exact hsteps
end RSA
end
section
/-! 04: the judgement rsV and its rows -/
abbrev rsH : Type := Nat → Option va_E
abbrev rsR : Type := Option Value ⊕ Nat
/-- launch; the state in which the law was invoked; class numbers and slots; the array classes of int, long, entries -/
abbrev rsG : Type := Launch × State × va_G × (ClassId × ClassId × ClassId)
/-- a method: name, code, locals, answer, handlers -/
abbrev rsM : Type := MethodName × ByteArray × Nat × Option FieldType × List (Nat × Nat × Nat × Nat)
abbrev rsL (G : rsG) : Launch := G.1
abbrev rsS0 (G : rsG) : State := G.2.1
abbrev rsD (G : rsG) : va_G := G.2.2.1
abbrev rsT (G : rsG) : List (ClassId × FieldType) := [(G.2.2.2.1, .int), (G.2.2.2.2.1, .long), (G.2.2.2.2.2, .object "RunStore$Entries")]
abbrev rsB (G : rsG) : Nat := (rsS0 G).heap.size
/-- what is known of the tables: each word, at every state with warmer tables; classes and arrays; which classes aren't castable -/
def rsU (G : rsG) : Prop := (∀ w ∈ rsTs, ∀ (a : Array Value) (U : State), (rsS0 G).WarmedH U.vm → w.before a U = true) ∧ va_K (rsD G) rsCl (rsT G) (rsS0 G) ∧ rsX (rsL G) (rsS0 G)
/-- the world: what the heap holds; its size; what is old is as it was; what was written is new; the world is new -/
def rsS (G : rsG) (h : rsH) (n : Nat) (H : Heap) (locs : List Loc) : Prop :=
  (∀ a e, h a = some e → va_at (rsD G) rsCl (a, e) H) ∧ H.size = rsB G + n ∧ (∀ q, q < rsB G → H[q]? = (rsS0 G).heap[q]?) ∧ (∀ q ∈ locs, rsB G ≤ q.base) ∧ (∀ a e, h a = some e → rsB G ≤ a) ∧ ∀ q cell, rsB G ≤ q → H[q]? = some cell → cell.vm.isStatics = false
def rsl (ls : Array Slot) (nL : Nat) (L : List (Option Value)) : Prop := ls.size = nL ∧ lv_wf ls ∧ ∀ (i : Nat) (v : Value), L[i]? = some (some v) → ls[i]? = some (.val v) ∧ v.category = 1
def rsC (G : rsG) (M : rsM) (p : Program) (s : State) (m : MethodId) (meth : Method) (c : Code) : Prop :=
  p.tables.exec = Jvm.exec ∧ c.code = M.2.1 ∧ c.maxLocals = M.2.2.1 ∧ s.vm.findClass M.1.cls = some m.cls ∧ (rsS0 G).WarmedH s.vm ∧ meth.sig.returnType = M.2.2.2.1 ∧ meth.locks = false ∧ c.exceptionTable.toList.map (fun x => (x.startPc, x.endPc, x.handlerPc, x.catchType)) = M.2.2.2.2 ∧ meth.name = M.1.name ∧ (∀ q, q < rsB G → s.heap[q]? = (rsS0 G).heap[q]?) ∧ rsB G ≤ s.heap.size ∧ ∀ q cell, rsB G ≤ q → s.heap[q]? = some cell → cell.vm.isStatics = false
def rsO (r : rsR) (o : Outcome) (t : State) : Prop := match r with
  | .inl v => o = .returned v
  | .inr k => ∃ (x : Addr) (cell : Cell), o = .threw x ∧ t.heap[x]? = some cell ∧ cell.vm.isStatics = false ∧ t.vm.findClass (rsEx k) = some cell.cls
def rsQ (G : rsG) (Q : rsR → rsH → Nat → Prop) : Array Value → State → Outcome → State → Prop := fun _ _ o t => ∃ r h n, Q r h n ∧ rsO r o t ∧ rsS G h n t.heap [] ∧ (rsS0 G).WarmedH t.vm
/-- a contract: from the world h the method ends with an outcome and a world that Q allows -/
def rsK (G : rsG) (M : rsM) (rm : Room) (as : List Value) (h : rsH) (n : Nat) (Q : rsR → rsH → Nat → Prop) : Prop :=
  rsU G → rs_Met (rsL G) M.1 [rs_word M.1 M.2.1 M.2.2.1 M.2.2.2.1 M.2.2.2.2] rm (fun a U => a = as.toArray ∧ rsS G h n U.heap [] ∧ (rsS0 G).WarmedH U.vm) (rsQ G Q) rm.cells rm.slots (fun q => rsB G ≤ q)
def rsV (G : rsG) (M : rsM) (rm : Room) (Q : rsR → rsH → Nat → Prop) (kc ks pc : Nat) (L : List (Option Value)) (st : List Value) (h : rsH) (n : Nat) : Prop :=
  rsU G → ∀ (p : Program) (e : Env) (s : State) (m : MethodId) (args : Array Value) (below : List Frame) (meth : Method) (c : Code) (H : Heap) (locs : List Loc) (cells slots : Nat) (ls : Array Slot),
    rsC G M p s m meth c → rsS G h n H locs → cells + kc ≤ rm.cells → slots + ks ≤ rm.slots → rsl ls M.2.2.1 L →
    W p (rsL G) e rm s m args below meth c H locs cells slots (rs_MQ below (rsQ G Q) args s rm.cells rm.slots (fun q => rsB G ≤ q)) (F0 m pc ls st)
theorem rsl_store {ls : Array Slot} {nL i : Nat} {L : List (Option Value)} {v : Value} (h : rsl ls nL L) (hi : i < nL) (hc : v.category = 1) : ∃ ls', storeLocals ls i v = some ls' ∧ rsl ls' nL (L.set i (some v)) := by
  obtain ⟨h1, h2, h3⟩ := h
  have hh : lv_has ls nL (((List.range nL).filterMap (fun j => match L[j]? with | some (some w) => some (j, w) | _ => none))) := by
    refine ⟨h1, h2, fun q hq => ?_⟩
    obtain ⟨j, -, hj⟩ := List.mem_filterMap.mp hq
    split at hj
    · next w hw => cases hj; exact (h3 _ _ hw).1
    · cases hj
  obtain ⟨ls', e1, g1, g2, g3⟩ := lv_store1 (v := v) hh hi hc
  refine ⟨ls', e1, g1, g2, fun j w hj => ?_⟩
  by_cases hji : j = i
  · subst hji
    by_cases hl : j < L.length
    · rw [List.getElem?_set_self hl] at hj
      cases hj
      exact ⟨g3 (j, v) (List.mem_cons_self ..), hc⟩
    · rw [List.set_eq_of_length_le (by omega)] at hj
      rw [List.getElem?_eq_none (by omega)] at hj
      cases hj
  · rw [List.getElem?_set_ne (Ne.symm hji)] at hj
    have hw := h3 _ _ hj
    have hlt : j < nL := by rw [← h1]; exact lv_lt hw.1
    refine ⟨g3 (j, w) (List.mem_cons_of_mem _ (List.mem_filter.mpr ⟨List.mem_filterMap.mpr ⟨j, List.mem_range.mpr hlt, by rw [hj]⟩, ?_⟩)), hw.2⟩
    simp [hji, hw.2]
theorem rs_args : ∀ (as : List Value) (k : Nat), (∀ v ∈ as, v.category = 1) → ∀ (i : Nat) (v : Value), as[i]? = some v → (k + i, v) ∈ lv_args k as
  | [], _, _, i, v, h => by simp at h
  | a :: as, k, hc, i, v, h => by
    have ha : a.category = 1 := hc a (List.mem_cons_self ..)
    unfold lv_args
    rw [if_neg (by omega)]
    cases i with
    | zero =>
      simp only [List.getElem?_cons_zero, Option.some.injEq] at h
      subst h
      exact List.mem_cons_self ..
    | succ i =>
      rw [List.getElem?_cons_succ] at h
      have := rs_args as (k + 1) (fun w hw => hc w (List.mem_cons_of_mem _ hw)) i v h
      rw [show k + (i + 1) = k + 1 + i by omega]
      exact List.mem_cons_of_mem _ this
theorem rs_sl : ∀ (as : List Value), (∀ v ∈ as, v.category = 1) → (lg_sl as).length = as.length
  | [], _ => rfl
  | a :: as, hc => by
    have ha : a.category = 1 := hc a (List.mem_cons_self ..)
    have := rs_sl as (fun w hw => hc w (List.mem_cons_of_mem _ hw))
    simp only [lg_sl, List.flatMap_cons] at this ⊢
    rw [if_neg (by omega)]
    simp only [List.length_append, List.length_cons, List.length_nil]
    omega
/-- a contract out of a walk of the body -/
theorem rsK_of {G : rsG} {M : rsM} {rm : Room} {as : List Value} {h : rsH} {n : Nat} {Q : rsR → rsH → Nat → Prop} {L : List (Option Value)} (hy : plainFor M.1 = true) (hc : ∀ v ∈ as, v.category = 1) (hl : as.length ≤ M.2.2.1)
    (hL : L = as.map some ++ List.replicate (M.2.2.1 - as.length) none) (hv : rsV G M rm Q rm.cells rm.slots 0 L [] h n) : rsK G M rm as h n Q := by
  intro hU
  refine rs_ofW hy fun p e s m args below meth c s₁ B hml hP hhd => ?_
  obtain ⟨rfl, hS, hW⟩ := hP
  rw [lg_entry_eq]
  have hlen := rs_sl as hc
  have hlh := lv_entry as (n := M.2.2.1) (by omega)
  refine hv hU p e s m _ below meth c s.heap [] 0 0 _ ⟨B.exec, B.bytes, hml, findClass_of_methodNamed B.named, hW, B.returns, B.notSynchronized, hhd, (name_of_methodNamed B.named B.method).1, hS.2.2.1, by rw [hS.2.1]; omega, hS.2.2.2.2.2⟩ hS (by omega) (by omega) ⟨hlh.1, hlh.2.1, fun i v hi => ?_⟩
  subst hL
  by_cases hlt : i < as.length
  · rw [List.getElem?_append_left (by simpa using hlt), List.getElem?_map] at hi
    cases hv2 : as[i]? with
    | none => rw [hv2] at hi; cases hi
    | some w =>
      rw [hv2] at hi
      cases hi
      have := hlh.2.2 _ (rs_args as 0 hc i _ hv2)
      rw [Nat.zero_add] at this
      exact ⟨this, hc _ (List.mem_of_getElem? hv2)⟩
  · rw [List.getElem?_append_right (by simpa using Nat.not_lt.mp hlt)] at hi
    have := List.eq_of_mem_replicate (List.mem_of_getElem? hi)
    cases this
end
section
/-! 05: the rows of rsV that touch neither heap nor calls (written by gen_rows.py) -/
section RSR
variable {G : rsG} {M : rsM} {rm : Room} {Q : rsR → rsH → Nat → Prop} {kc ks pc pc' : Nat} {L : List (Option Value)} {st : List Value} {h : rsH} {n : Nat}
theorem rs_iconst {i : Int} {v : Int32} (hd : decode M.2.1 pc = .ok (.iconst i, 1)) (hp : pc + 1 = pc') (hv : Int32.ofInt i = v) (k : rsV G M rm Q kc ks pc' L (.int v :: st) h n) : rsV G M rm Q kc ks pc L st h n := by
  subst hp
  intro hU p e s m args below meth c H locs cells slots ls C S hc hs hl
  exact lv_iconst C.1 C.2.1 hd hv (k hU p e s m args below meth c H locs cells slots ls C S hc hs hl)
theorem rs_bipush {i : Int} {v : Int32} (hd : decode M.2.1 pc = .ok (.bipush i, 2)) (hp : pc + 2 = pc') (hv : (Int8.ofInt i).toInt32 = v) (k : rsV G M rm Q kc ks pc' L (.int v :: st) h n) : rsV G M rm Q kc ks pc L st h n := by
  subst hp
  intro hU p e s m args below meth c H locs cells slots ls C S hc hs hl
  exact lv_bipush C.1 C.2.1 hd hv (k hU p e s m args below meth c H locs cells slots ls C S hc hs hl)
theorem rs_sipush {i : Int} {v : Int32} (hd : decode M.2.1 pc = .ok (.sipush i, 3)) (hp : pc + 3 = pc') (hv : (Int16.ofInt i).toInt32 = v) (k : rsV G M rm Q kc ks pc' L (.int v :: st) h n) : rsV G M rm Q kc ks pc L st h n := by
  subst hp
  intro hU p e s m args below meth c H locs cells slots ls C S hc hs hl
  exact lv_sipush C.1 C.2.1 hd hv (k hU p e s m args below meth c H locs cells slots ls C S hc hs hl)
theorem rs_lconst {i : Fin 2} {v : Int64} (hd : decode M.2.1 pc = .ok (.lconst i, 1)) (hp : pc + 1 = pc') (hv : Int64.ofNat (i : Nat) = v) (k : rsV G M rm Q kc ks pc' L (.long v :: st) h n) : rsV G M rm Q kc ks pc L st h n := by
  subst hp
  intro hU p e s m args below meth c H locs cells slots ls C S hc hs hl
  exact lv_lconst C.1 C.2.1 hd hv (k hU p e s m args below meth c H locs cells slots ls C S hc hs hl)
theorem rs_null  (hd : decode M.2.1 pc = .ok (.aconst_null, 1)) (hp : pc + 1 = pc')  (k : rsV G M rm Q kc ks pc' L (.null :: st) h n) : rsV G M rm Q kc ks pc L st h n := by
  subst hp
  intro hU p e s m args below meth c H locs cells slots ls C S hc hs hl
  exact lv_null C.1 C.2.1 hd (k hU p e s m args below meth c H locs cells slots ls C S hc hs hl)
theorem rs_iload_n {i : Fin 4} {v : Int32} (hd : decode M.2.1 pc = .ok (.iload_n i, 1)) (hp : pc + 1 = pc') (hv : L[(i : Nat)]? = some (some (.int v))) (k : rsV G M rm Q kc ks pc' L (.int v :: st) h n) : rsV G M rm Q kc ks pc L st h n := by
  subst hp
  intro hU p e s m args below meth c H locs cells slots ls C S hc hs hl
  exact lv_iload_n C.1 C.2.1 hd rfl (hl.2.2 _ _ hv).1 (k hU p e s m args below meth c H locs cells slots ls C S hc hs hl)
theorem rs_iload {i : Nat} {v : Int32} (hd : decode M.2.1 pc = .ok (.iload i, 2)) (hp : pc + 2 = pc') (hv : L[i]? = some (some (.int v))) (k : rsV G M rm Q kc ks pc' L (.int v :: st) h n) : rsV G M rm Q kc ks pc L st h n := by
  subst hp
  intro hU p e s m args below meth c H locs cells slots ls C S hc hs hl
  exact lv_iload C.1 C.2.1 hd (hl.2.2 _ _ hv).1 (k hU p e s m args below meth c H locs cells slots ls C S hc hs hl)
theorem rs_aload_n {i : Fin 4} {v : Nat} (hd : decode M.2.1 pc = .ok (.aload_n i, 1)) (hp : pc + 1 = pc') (hv : L[(i : Nat)]? = some (some (.ref v))) (k : rsV G M rm Q kc ks pc' L (.ref v :: st) h n) : rsV G M rm Q kc ks pc L st h n := by
  subst hp
  intro hU p e s m args below meth c H locs cells slots ls C S hc hs hl
  exact lv_aload_n C.1 C.2.1 hd rfl (hl.2.2 _ _ hv).1 (k hU p e s m args below meth c H locs cells slots ls C S hc hs hl)
theorem rs_aload {i : Nat} {v : Nat} (hd : decode M.2.1 pc = .ok (.aload i, 2)) (hp : pc + 2 = pc') (hv : L[i]? = some (some (.ref v))) (k : rsV G M rm Q kc ks pc' L (.ref v :: st) h n) : rsV G M rm Q kc ks pc L st h n := by
  subst hp
  intro hU p e s m args below meth c H locs cells slots ls C S hc hs hl
  exact lv_aload C.1 C.2.1 hd (hl.2.2 _ _ hv).1 (k hU p e s m args below meth c H locs cells slots ls C S hc hs hl)
theorem rs_aload_nN {i : Fin 4} (hd : decode M.2.1 pc = .ok (.aload_n i, 1)) (hp : pc + 1 = pc') (hv : L[(i : Nat)]? = some (some .null)) (k : rsV G M rm Q kc ks pc' L (.null :: st) h n) : rsV G M rm Q kc ks pc L st h n := by
  subst hp
  intro hU p e s m args below meth c H locs cells slots ls C S hc hs hl
  exact lv_aload_nN C.1 C.2.1 hd rfl (hl.2.2 _ _ hv).1 (k hU p e s m args below meth c H locs cells slots ls C S hc hs hl)
theorem rs_aloadN {i : Nat} (hd : decode M.2.1 pc = .ok (.aload i, 2)) (hp : pc + 2 = pc') (hv : L[i]? = some (some .null)) (k : rsV G M rm Q kc ks pc' L (.null :: st) h n) : rsV G M rm Q kc ks pc L st h n := by
  subst hp
  intro hU p e s m args below meth c H locs cells slots ls C S hc hs hl
  exact lv_aloadN C.1 C.2.1 hd (hl.2.2 _ _ hv).1 (k hU p e s m args below meth c H locs cells slots ls C S hc hs hl)
theorem rs_iadd {x y : Int32} (hd : decode M.2.1 pc = .ok (.iadd, 1)) (hp : pc + 1 = pc')  (k : rsV G M rm Q kc ks pc' L (.int (x + y) :: st) h n) : rsV G M rm Q kc ks pc L (.int y :: .int x :: st) h n := by
  subst hp
  intro hU p e s m args below meth c H locs cells slots ls C S hc hs hl
  exact lv_iadd C.1 C.2.1 hd (k hU p e s m args below meth c H locs cells slots ls C S hc hs hl)
theorem rs_isub {x y : Int32} (hd : decode M.2.1 pc = .ok (.isub, 1)) (hp : pc + 1 = pc')  (k : rsV G M rm Q kc ks pc' L (.int (x - y) :: st) h n) : rsV G M rm Q kc ks pc L (.int y :: .int x :: st) h n := by
  subst hp
  intro hU p e s m args below meth c H locs cells slots ls C S hc hs hl
  exact lv_isub C.1 C.2.1 hd (k hU p e s m args below meth c H locs cells slots ls C S hc hs hl)
theorem rs_imul {x y : Int32} (hd : decode M.2.1 pc = .ok (.imul, 1)) (hp : pc + 1 = pc')  (k : rsV G M rm Q kc ks pc' L (.int (x * y) :: st) h n) : rsV G M rm Q kc ks pc L (.int y :: .int x :: st) h n := by
  subst hp
  intro hU p e s m args below meth c H locs cells slots ls C S hc hs hl
  exact lv_imul C.1 C.2.1 hd (k hU p e s m args below meth c H locs cells slots ls C S hc hs hl)
theorem rs_iand {x y : Int32} (hd : decode M.2.1 pc = .ok (.iand, 1)) (hp : pc + 1 = pc')  (k : rsV G M rm Q kc ks pc' L (.int (x &&& y) :: st) h n) : rsV G M rm Q kc ks pc L (.int y :: .int x :: st) h n := by
  subst hp
  intro hU p e s m args below meth c H locs cells slots ls C S hc hs hl
  exact lv_iand C.1 C.2.1 hd (k hU p e s m args below meth c H locs cells slots ls C S hc hs hl)
theorem rs_ior {x y : Int32} (hd : decode M.2.1 pc = .ok (.ior, 1)) (hp : pc + 1 = pc')  (k : rsV G M rm Q kc ks pc' L (.int (x ||| y) :: st) h n) : rsV G M rm Q kc ks pc L (.int y :: .int x :: st) h n := by
  subst hp
  intro hU p e s m args below meth c H locs cells slots ls C S hc hs hl
  exact lv_ior C.1 C.2.1 hd (k hU p e s m args below meth c H locs cells slots ls C S hc hs hl)
theorem rs_ixor {x y : Int32} (hd : decode M.2.1 pc = .ok (.ixor, 1)) (hp : pc + 1 = pc')  (k : rsV G M rm Q kc ks pc' L (.int (x ^^^ y) :: st) h n) : rsV G M rm Q kc ks pc L (.int y :: .int x :: st) h n := by
  subst hp
  intro hU p e s m args below meth c H locs cells slots ls C S hc hs hl
  exact lv_ixor C.1 C.2.1 hd (k hU p e s m args below meth c H locs cells slots ls C S hc hs hl)
theorem rs_idiv {x y : Int32} (hd : decode M.2.1 pc = .ok (.idiv, 1)) (hp : pc + 1 = pc') (hne : ¬ y = 0) (k : rsV G M rm Q kc ks pc' L (.int (x / y) :: st) h n) : rsV G M rm Q kc ks pc L (.int y :: .int x :: st) h n := by
  subst hp
  intro hU p e s m args below meth c H locs cells slots ls C S hc hs hl
  exact lv_idiv C.1 C.2.1 hd hne (k hU p e s m args below meth c H locs cells slots ls C S hc hs hl)
theorem rs_irem {x y : Int32} (hd : decode M.2.1 pc = .ok (.irem, 1)) (hp : pc + 1 = pc') (hne : ¬ y = 0) (k : rsV G M rm Q kc ks pc' L (.int (x - x / y * y) :: st) h n) : rsV G M rm Q kc ks pc L (.int y :: .int x :: st) h n := by
  subst hp
  intro hU p e s m args below meth c H locs cells slots ls C S hc hs hl
  exact lv_irem C.1 C.2.1 hd hne (k hU p e s m args below meth c H locs cells slots ls C S hc hs hl)
theorem rs_i2l {x : Int32} (hd : decode M.2.1 pc = .ok (.i2l, 1)) (hp : pc + 1 = pc')  (k : rsV G M rm Q kc ks pc' L (.long x.toInt64 :: st) h n) : rsV G M rm Q kc ks pc L (.int x :: st) h n := by
  subst hp
  intro hU p e s m args below meth c H locs cells slots ls C S hc hs hl
  exact lv_i2l C.1 C.2.1 hd rfl (k hU p e s m args below meth c H locs cells slots ls C S hc hs hl)
theorem rs_lcmp {x y : Int64} (hd : decode M.2.1 pc = .ok (.lcmp, 1)) (hp : pc + 1 = pc')  (k : rsV G M rm Q kc ks pc' L (.int (lg_cmp x y) :: st) h n) : rsV G M rm Q kc ks pc L (.long y :: .long x :: st) h n := by
  subst hp
  intro hU p e s m args below meth c H locs cells slots ls C S hc hs hl
  exact W.lcmp C.1 C.2.1 hd (k hU p e s m args below meth c H locs cells slots ls C S hc hs hl)
theorem rs_dup {v : Value} (hd : decode M.2.1 pc = .ok (.dup, 1)) (hp : pc + 1 = pc') (hv : v.category = 1) (k : rsV G M rm Q kc ks pc' L (v :: v :: st) h n) : rsV G M rm Q kc ks pc L (v :: st) h n := by
  subst hp
  intro hU p e s m args below meth c H locs cells slots ls C S hc hs hl
  exact lv_dup C.1 C.2.1 hd hv (k hU p e s m args below meth c H locs cells slots ls C S hc hs hl)
theorem rs_pop {v : Value} (hd : decode M.2.1 pc = .ok (.pop, 1)) (hp : pc + 1 = pc') (hv : v.category = 1) (k : rsV G M rm Q kc ks pc' L st h n) : rsV G M rm Q kc ks pc L (v :: st) h n := by
  subst hp
  intro hU p e s m args below meth c H locs cells slots ls C S hc hs hl
  exact lv_pop C.1 C.2.1 hd hv (k hU p e s m args below meth c H locs cells slots ls C S hc hs hl)
theorem rs_dup2 {v w : Value} (hd : decode M.2.1 pc = .ok (.dup2, 1)) (hp : pc + 1 = pc') (hv : v.category = 1) (hw : w.category = 1) (k : rsV G M rm Q kc ks pc' L (v :: w :: v :: w :: st) h n) : rsV G M rm Q kc ks pc L (v :: w :: st) h n := by
  subst hp
  intro hU p e s m args below meth c H locs cells slots ls C S hc hs hl
  exact lv_dup2_11 C.1 C.2.1 hd hv hw (k hU p e s m args below meth c H locs cells slots ls C S hc hs hl)
theorem rs_topi {x : Int32} (k : ∀ y : Int32, y = x → rsV G M rm Q kc ks pc L (.int y :: st) h n) : rsV G M rm Q kc ks pc L (.int x :: st) h n := k x rfl
theorem rs_tope {x y : Int32} (e : x = y) (k : rsV G M rm Q kc ks pc L (.int y :: st) h n) : rsV G M rm Q kc ks pc L (.int x :: st) h n := e ▸ k
theorem rs_istore_n {i : Fin 4} {v : Int32} {L' : List (Option Value)} (hd : decode M.2.1 pc = .ok (.istore_n i, 1)) (hp : pc + 1 = pc') (hi : (i : Nat) < M.2.2.1) (hL : L.set (i : Nat) (some (.int v)) = L') (k : rsV G M rm Q kc ks pc' L' st h n) : rsV G M rm Q kc ks pc L (.int v :: st) h n := by
  subst hp
  subst hL
  intro hU p e s m args below meth c H locs cells slots ls C S hc hs hl
  obtain ⟨ls', e', hl'⟩ := rsl_store (v := .int v) hl hi rfl
  intro T hT X
  obtain ⟨t, a, b⟩ := k hU p e s m args below meth c H locs cells slots ls' C S hc hs hl' T hT X
  refine ⟨t, ?_, b⟩
  have hexec := C.1
  have hb := C.2.1
  jvm_step X.here [X.here.top, ↓top_set X.here.top, hexec, hb, hd, e']
  first | exact a | exact ⟨rfl, a⟩
theorem rs_istore {i : Nat} {v : Int32} {L' : List (Option Value)} (hd : decode M.2.1 pc = .ok (.istore i, 2)) (hp : pc + 2 = pc') (hi : (i : Nat) < M.2.2.1) (hL : L.set (i : Nat) (some (.int v)) = L') (k : rsV G M rm Q kc ks pc' L' st h n) : rsV G M rm Q kc ks pc L (.int v :: st) h n := by
  subst hp
  subst hL
  intro hU p e s m args below meth c H locs cells slots ls C S hc hs hl
  obtain ⟨ls', e', hl'⟩ := rsl_store (v := .int v) hl hi rfl
  intro T hT X
  obtain ⟨t, a, b⟩ := k hU p e s m args below meth c H locs cells slots ls' C S hc hs hl' T hT X
  refine ⟨t, ?_, b⟩
  have hexec := C.1
  have hb := C.2.1
  jvm_step X.here [X.here.top, ↓top_set X.here.top, hexec, hb, hd, e']
  first | exact a | exact ⟨rfl, a⟩
theorem rs_astore_n {i : Fin 4} {v : Nat} {L' : List (Option Value)} (hd : decode M.2.1 pc = .ok (.astore_n i, 1)) (hp : pc + 1 = pc') (hi : (i : Nat) < M.2.2.1) (hL : L.set (i : Nat) (some (.ref v)) = L') (k : rsV G M rm Q kc ks pc' L' st h n) : rsV G M rm Q kc ks pc L (.ref v :: st) h n := by
  subst hp
  subst hL
  intro hU p e s m args below meth c H locs cells slots ls C S hc hs hl
  obtain ⟨ls', e', hl'⟩ := rsl_store (v := .ref v) hl hi rfl
  intro T hT X
  obtain ⟨t, a, b⟩ := k hU p e s m args below meth c H locs cells slots ls' C S hc hs hl' T hT X
  refine ⟨t, ?_, b⟩
  have hexec := C.1
  have hb := C.2.1
  jvm_step X.here [X.here.top, ↓top_set X.here.top, hexec, hb, hd, e']
  first | exact a | exact ⟨rfl, a⟩
theorem rs_astore {i : Nat} {v : Nat} {L' : List (Option Value)} (hd : decode M.2.1 pc = .ok (.astore i, 2)) (hp : pc + 2 = pc') (hi : (i : Nat) < M.2.2.1) (hL : L.set (i : Nat) (some (.ref v)) = L') (k : rsV G M rm Q kc ks pc' L' st h n) : rsV G M rm Q kc ks pc L (.ref v :: st) h n := by
  subst hp
  subst hL
  intro hU p e s m args below meth c H locs cells slots ls C S hc hs hl
  obtain ⟨ls', e', hl'⟩ := rsl_store (v := .ref v) hl hi rfl
  intro T hT X
  obtain ⟨t, a, b⟩ := k hU p e s m args below meth c H locs cells slots ls' C S hc hs hl' T hT X
  refine ⟨t, ?_, b⟩
  have hexec := C.1
  have hb := C.2.1
  jvm_step X.here [X.here.top, ↓top_set X.here.top, hexec, hb, hd, e']
  first | exact a | exact ⟨rfl, a⟩
theorem rs_astore_nN {i : Fin 4} {L' : List (Option Value)} (hd : decode M.2.1 pc = .ok (.astore_n i, 1)) (hp : pc + 1 = pc') (hi : (i : Nat) < M.2.2.1) (hL : L.set (i : Nat) (some (.null)) = L') (k : rsV G M rm Q kc ks pc' L' st h n) : rsV G M rm Q kc ks pc L (.null :: st) h n := by
  subst hp
  subst hL
  intro hU p e s m args below meth c H locs cells slots ls C S hc hs hl
  obtain ⟨ls', e', hl'⟩ := rsl_store (v := .null) hl hi rfl
  intro T hT X
  obtain ⟨t, a, b⟩ := k hU p e s m args below meth c H locs cells slots ls' C S hc hs hl' T hT X
  refine ⟨t, ?_, b⟩
  have hexec := C.1
  have hb := C.2.1
  jvm_step X.here [X.here.top, ↓top_set X.here.top, hexec, hb, hd, e']
  first | exact a | exact ⟨rfl, a⟩
theorem rs_astoreN {i : Nat} {L' : List (Option Value)} (hd : decode M.2.1 pc = .ok (.astore i, 2)) (hp : pc + 2 = pc') (hi : (i : Nat) < M.2.2.1) (hL : L.set (i : Nat) (some (.null)) = L') (k : rsV G M rm Q kc ks pc' L' st h n) : rsV G M rm Q kc ks pc L (.null :: st) h n := by
  subst hp
  subst hL
  intro hU p e s m args below meth c H locs cells slots ls C S hc hs hl
  obtain ⟨ls', e', hl'⟩ := rsl_store (v := .null) hl hi rfl
  intro T hT X
  obtain ⟨t, a, b⟩ := k hU p e s m args below meth c H locs cells slots ls' C S hc hs hl' T hT X
  refine ⟨t, ?_, b⟩
  have hexec := C.1
  have hb := C.2.1
  jvm_step X.here [X.here.top, ↓top_set X.here.top, hexec, hb, hd, e']
  first | exact a | exact ⟨rfl, a⟩
theorem rs_iinc {i : Nat} {j : Int} {x v : Int32} {L' : List (Option Value)} (hd : decode M.2.1 pc = .ok (.iinc i j, 3)) (hp : pc + 3 = pc') (hi : i < M.2.2.1) (hx : L[i]? = some (some (.int x))) (hv : x + Int32.ofInt j = v) (hL : L.set i (some (.int v)) = L') (k : rsV G M rm Q kc ks pc' L' st h n) : rsV G M rm Q kc ks pc L st h n := by
  subst hp
  subst hL
  subst hv
  intro hU p e s m args below meth c H locs cells slots ls C S hc hs hl
  obtain ⟨ls', e', hl'⟩ := rsl_store (v := .int (x + Int32.ofInt j)) hl hi rfl
  have hg := (hl.2.2 _ _ hx).1
  intro T hT X
  obtain ⟨t, a, b⟩ := k hU p e s m args below meth c H locs cells slots ls' C S hc hs hl' T hT X
  refine ⟨t, ?_, b⟩
  have hexec := C.1
  have hb := C.2.1
  jvm_step X.here [X.here.top, ↓top_set X.here.top, hexec, hb, hd, hg, e']
  exact a
theorem rs_if_eq {x : Int32} {off : Int} {tgt : Nat} (hd : decode M.2.1 pc = .ok (.ifCond .eq off, 3)) (hp : pc + 3 = pc') (ht : (pc : Int) + off = (tgt : Int)) (kt : x = 0 → rsV G M rm Q kc ks tgt L st h n) (kf : ¬ x = 0 → rsV G M rm Q kc ks pc' L st h n) : rsV G M rm Q kc ks pc L (.int x :: st) h n := by
  subst hp
  intro hU p e s m args below meth c H locs cells slots ls C S hc hs hl
  exact lv_if_eq C.1 C.2.1 hd ht (fun q => kt q hU p e s m args below meth c H locs cells slots ls C S hc hs hl) (fun q => kf q hU p e s m args below meth c H locs cells slots ls C S hc hs hl)
theorem rs_icmp_eq {x y : Int32} {off : Int} {tgt : Nat} (hd : decode M.2.1 pc = .ok (.if_icmp .eq off, 3)) (hp : pc + 3 = pc') (ht : (pc : Int) + off = (tgt : Int)) (kt : x = y → rsV G M rm Q kc ks tgt L st h n) (kf : ¬ x = y → rsV G M rm Q kc ks pc' L st h n) : rsV G M rm Q kc ks pc L (.int y :: .int x :: st) h n := by
  subst hp
  intro hU p e s m args below meth c H locs cells slots ls C S hc hs hl
  exact lv_icmp_eq C.1 C.2.1 hd ht (fun q => kt q hU p e s m args below meth c H locs cells slots ls C S hc hs hl) (fun q => kf q hU p e s m args below meth c H locs cells slots ls C S hc hs hl)
theorem rs_if_ne {x : Int32} {off : Int} {tgt : Nat} (hd : decode M.2.1 pc = .ok (.ifCond .ne off, 3)) (hp : pc + 3 = pc') (ht : (pc : Int) + off = (tgt : Int)) (kt : ¬ x = 0 → rsV G M rm Q kc ks tgt L st h n) (kf : x = 0 → rsV G M rm Q kc ks pc' L st h n) : rsV G M rm Q kc ks pc L (.int x :: st) h n := by
  subst hp
  intro hU p e s m args below meth c H locs cells slots ls C S hc hs hl
  exact lv_if_ne C.1 C.2.1 hd ht (fun q => kt q hU p e s m args below meth c H locs cells slots ls C S hc hs hl) (fun q => kf q hU p e s m args below meth c H locs cells slots ls C S hc hs hl)
theorem rs_icmp_ne {x y : Int32} {off : Int} {tgt : Nat} (hd : decode M.2.1 pc = .ok (.if_icmp .ne off, 3)) (hp : pc + 3 = pc') (ht : (pc : Int) + off = (tgt : Int)) (kt : ¬ x = y → rsV G M rm Q kc ks tgt L st h n) (kf : x = y → rsV G M rm Q kc ks pc' L st h n) : rsV G M rm Q kc ks pc L (.int y :: .int x :: st) h n := by
  subst hp
  intro hU p e s m args below meth c H locs cells slots ls C S hc hs hl
  exact lv_icmp_ne C.1 C.2.1 hd ht (fun q => kt q hU p e s m args below meth c H locs cells slots ls C S hc hs hl) (fun q => kf q hU p e s m args below meth c H locs cells slots ls C S hc hs hl)
theorem rs_if_lt {x : Int32} {off : Int} {tgt : Nat} (hd : decode M.2.1 pc = .ok (.ifCond .lt off, 3)) (hp : pc + 3 = pc') (ht : (pc : Int) + off = (tgt : Int)) (kt : x < 0 → rsV G M rm Q kc ks tgt L st h n) (kf : ¬ x < 0 → rsV G M rm Q kc ks pc' L st h n) : rsV G M rm Q kc ks pc L (.int x :: st) h n := by
  subst hp
  intro hU p e s m args below meth c H locs cells slots ls C S hc hs hl
  exact lv_if_lt C.1 C.2.1 hd ht (fun q => kt q hU p e s m args below meth c H locs cells slots ls C S hc hs hl) (fun q => kf q hU p e s m args below meth c H locs cells slots ls C S hc hs hl)
theorem rs_icmp_lt {x y : Int32} {off : Int} {tgt : Nat} (hd : decode M.2.1 pc = .ok (.if_icmp .lt off, 3)) (hp : pc + 3 = pc') (ht : (pc : Int) + off = (tgt : Int)) (kt : x < y → rsV G M rm Q kc ks tgt L st h n) (kf : ¬ x < y → rsV G M rm Q kc ks pc' L st h n) : rsV G M rm Q kc ks pc L (.int y :: .int x :: st) h n := by
  subst hp
  intro hU p e s m args below meth c H locs cells slots ls C S hc hs hl
  exact lv_icmp_lt C.1 C.2.1 hd ht (fun q => kt q hU p e s m args below meth c H locs cells slots ls C S hc hs hl) (fun q => kf q hU p e s m args below meth c H locs cells slots ls C S hc hs hl)
theorem rs_if_ge {x : Int32} {off : Int} {tgt : Nat} (hd : decode M.2.1 pc = .ok (.ifCond .ge off, 3)) (hp : pc + 3 = pc') (ht : (pc : Int) + off = (tgt : Int)) (kt : 0 ≤ x → rsV G M rm Q kc ks tgt L st h n) (kf : ¬ 0 ≤ x → rsV G M rm Q kc ks pc' L st h n) : rsV G M rm Q kc ks pc L (.int x :: st) h n := by
  subst hp
  intro hU p e s m args below meth c H locs cells slots ls C S hc hs hl
  exact lv_if_ge C.1 C.2.1 hd ht (fun q => kt q hU p e s m args below meth c H locs cells slots ls C S hc hs hl) (fun q => kf q hU p e s m args below meth c H locs cells slots ls C S hc hs hl)
theorem rs_icmp_ge {x y : Int32} {off : Int} {tgt : Nat} (hd : decode M.2.1 pc = .ok (.if_icmp .ge off, 3)) (hp : pc + 3 = pc') (ht : (pc : Int) + off = (tgt : Int)) (kt : y ≤ x → rsV G M rm Q kc ks tgt L st h n) (kf : ¬ y ≤ x → rsV G M rm Q kc ks pc' L st h n) : rsV G M rm Q kc ks pc L (.int y :: .int x :: st) h n := by
  subst hp
  intro hU p e s m args below meth c H locs cells slots ls C S hc hs hl
  exact lv_icmp_ge C.1 C.2.1 hd ht (fun q => kt q hU p e s m args below meth c H locs cells slots ls C S hc hs hl) (fun q => kf q hU p e s m args below meth c H locs cells slots ls C S hc hs hl)
theorem rs_if_gt {x : Int32} {off : Int} {tgt : Nat} (hd : decode M.2.1 pc = .ok (.ifCond .gt off, 3)) (hp : pc + 3 = pc') (ht : (pc : Int) + off = (tgt : Int)) (kt : 0 < x → rsV G M rm Q kc ks tgt L st h n) (kf : ¬ 0 < x → rsV G M rm Q kc ks pc' L st h n) : rsV G M rm Q kc ks pc L (.int x :: st) h n := by
  subst hp
  intro hU p e s m args below meth c H locs cells slots ls C S hc hs hl
  exact lv_if_gt C.1 C.2.1 hd ht (fun q => kt q hU p e s m args below meth c H locs cells slots ls C S hc hs hl) (fun q => kf q hU p e s m args below meth c H locs cells slots ls C S hc hs hl)
theorem rs_icmp_gt {x y : Int32} {off : Int} {tgt : Nat} (hd : decode M.2.1 pc = .ok (.if_icmp .gt off, 3)) (hp : pc + 3 = pc') (ht : (pc : Int) + off = (tgt : Int)) (kt : y < x → rsV G M rm Q kc ks tgt L st h n) (kf : ¬ y < x → rsV G M rm Q kc ks pc' L st h n) : rsV G M rm Q kc ks pc L (.int y :: .int x :: st) h n := by
  subst hp
  intro hU p e s m args below meth c H locs cells slots ls C S hc hs hl
  exact lv_icmp_gt C.1 C.2.1 hd ht (fun q => kt q hU p e s m args below meth c H locs cells slots ls C S hc hs hl) (fun q => kf q hU p e s m args below meth c H locs cells slots ls C S hc hs hl)
theorem rs_if_le {x : Int32} {off : Int} {tgt : Nat} (hd : decode M.2.1 pc = .ok (.ifCond .le off, 3)) (hp : pc + 3 = pc') (ht : (pc : Int) + off = (tgt : Int)) (kt : x ≤ 0 → rsV G M rm Q kc ks tgt L st h n) (kf : ¬ x ≤ 0 → rsV G M rm Q kc ks pc' L st h n) : rsV G M rm Q kc ks pc L (.int x :: st) h n := by
  subst hp
  intro hU p e s m args below meth c H locs cells slots ls C S hc hs hl
  exact lv_if_le C.1 C.2.1 hd ht (fun q => kt q hU p e s m args below meth c H locs cells slots ls C S hc hs hl) (fun q => kf q hU p e s m args below meth c H locs cells slots ls C S hc hs hl)
theorem rs_icmp_le {x y : Int32} {off : Int} {tgt : Nat} (hd : decode M.2.1 pc = .ok (.if_icmp .le off, 3)) (hp : pc + 3 = pc') (ht : (pc : Int) + off = (tgt : Int)) (kt : x ≤ y → rsV G M rm Q kc ks tgt L st h n) (kf : ¬ x ≤ y → rsV G M rm Q kc ks pc' L st h n) : rsV G M rm Q kc ks pc L (.int y :: .int x :: st) h n := by
  subst hp
  intro hU p e s m args below meth c H locs cells slots ls C S hc hs hl
  exact lv_icmp_le C.1 C.2.1 hd ht (fun q => kt q hU p e s m args below meth c H locs cells slots ls C S hc hs hl) (fun q => kf q hU p e s m args below meth c H locs cells slots ls C S hc hs hl)
theorem rs_goto {off : Int} {tgt : Nat} (hd : decode M.2.1 pc = .ok (.goto off, 3)) (ht : (pc : Int) + off = (tgt : Int)) (k : rsV G M rm Q kc ks tgt L st h n) : rsV G M rm Q kc ks pc L st h n := by
  intro hU p e s m args below meth c H locs cells slots ls C S hc hs hl
  exact lv_goto C.1 C.2.1 hd ht (k hU p e s m args below meth c H locs cells slots ls C S hc hs hl)
theorem rs_ifnonnull {v : Nat} {off : Int} {tgt : Nat} (hd : decode M.2.1 pc = .ok (.ifnonnull off, 3)) (ht : (pc : Int) + off = (tgt : Int)) (k : rsV G M rm Q kc ks tgt L st h n) : rsV G M rm Q kc ks pc L (.ref v :: st) h n := by
  intro hU p e s m args below meth c H locs cells slots ls C S hc hs hl
  exact lv_ifnonnull C.1 C.2.1 hd ht (k hU p e s m args below meth c H locs cells slots ls C S hc hs hl)
theorem rs_ifnullN {off : Int} {tgt : Nat} (hd : decode M.2.1 pc = .ok (.ifnull off, 3)) (ht : (pc : Int) + off = (tgt : Int)) (k : rsV G M rm Q kc ks tgt L st h n) : rsV G M rm Q kc ks pc L (.null :: st) h n := by
  intro hU p e s m args below meth c H locs cells slots ls C S hc hs hl
  exact lv_ifnullN C.1 C.2.1 hd ht (k hU p e s m args below meth c H locs cells slots ls C S hc hs hl)
theorem rs_tableIn {dflt lo hi off : Int} {offs : Array Int} {len tgt : Nat} {x : Int32} (hd : decode M.2.1 pc = .ok (.tableswitch dflt lo hi offs, len)) (h1 : ¬ x.toInt < lo) (h2 : ¬ hi < x.toInt) (ho : offs[(x.toInt - lo).toNat]? = some off) (ht : (pc : Int) + off = (tgt : Int)) (k : rsV G M rm Q kc ks tgt L st h n) : rsV G M rm Q kc ks pc L (.int x :: st) h n := by
  intro hU p e s m args below meth c H locs cells slots ls C S hc hs hl
  exact lv_tableIn C.1 C.2.1 hd h1 h2 ho ht (k hU p e s m args below meth c H locs cells slots ls C S hc hs hl)
theorem rs_tableOut {dflt lo hi : Int} {offs : Array Int} {len tgt : Nat} {x : Int32} (hd : decode M.2.1 pc = .ok (.tableswitch dflt lo hi offs, len)) (hx : x.toInt < lo ∨ hi < x.toInt) (ht : (pc : Int) + dflt = (tgt : Int)) (k : rsV G M rm Q kc ks tgt L st h n) : rsV G M rm Q kc ks pc L (.int x :: st) h n := by
  intro hU p e s m args below meth c H locs cells slots ls C S hc hs hl
  exact lv_tableOut C.1 C.2.1 hd hx ht (k hU p e s m args below meth c H locs cells slots ls C S hc hs hl)
theorem rs_ifnull {v : Nat} {off : Int} (hd : decode M.2.1 pc = .ok (.ifnull off, 3)) (hp : pc + 3 = pc')  (k : rsV G M rm Q kc ks pc' L st h n) : rsV G M rm Q kc ks pc L (.ref v :: st) h n := by
  subst hp
  intro hU p e s m args below meth c H locs cells slots ls C S hc hs hl
  exact lv_ifnull C.1 C.2.1 hd (k hU p e s m args below meth c H locs cells slots ls C S hc hs hl)
theorem rs_ifnonnullN {off : Int} (hd : decode M.2.1 pc = .ok (.ifnonnull off, 3)) (hp : pc + 3 = pc')  (k : rsV G M rm Q kc ks pc' L st h n) : rsV G M rm Q kc ks pc L (.null :: st) h n := by
  subst hp
  intro hU p e s m args below meth c H locs cells slots ls C S hc hs hl
  exact lv_ifnonnullN C.1 C.2.1 hd (k hU p e s m args below meth c H locs cells slots ls C S hc hs hl)
theorem rs_ireturn {v : Int32} (hd : decode M.2.1 pc = .ok (.ireturn, 1)) (hr : M.2.2.2.1 = some .int) (hq : Q (.inl (some (.int v))) h n) : rsV G M rm Q kc ks pc L [.int v] h n := by
  intro hU p e s m args below meth c H locs cells slots ls C S hc hs hl
  have hlocks := C.2.2.2.2.2.2.1
  refine W.widen (k := rm.cells) (n := rm.slots) (by omega) (by omega) (rs_mono rs_ofMQ ?_)
  exact W.iret C.1 C.2.1 (C.2.2.2.2.2.1.trans hr) (fun t ht hW => ⟨_, h, n, hq, rfl, by rw [ht]; exact ⟨S.1, S.2.1, S.2.2.1, fun q hq => (by cases hq), S.2.2.2.2⟩, State.WarmedH.trans C.2.2.2.2.1 hW⟩) S.2.2.2.1 hd hlocks
theorem rs_zreturn {v : Int32} (hd : decode M.2.1 pc = .ok (.ireturn, 1)) (hr : M.2.2.2.1 = some .boolean) (hv : narrow .boolean (.int v) = .int v) (hq : Q (.inl (some (.int v))) h n) : rsV G M rm Q kc ks pc L [.int v] h n := by
  intro hU p e s m args below meth c H locs cells slots ls C S hc hs hl
  have hlocks := C.2.2.2.2.2.2.1
  refine W.widen (k := rm.cells) (n := rm.slots) (by omega) (by omega) (rs_mono rs_ofMQ ?_)
  exact W.zret C.1 C.2.1 (C.2.2.2.2.2.1.trans hr) hv (fun t ht hW => ⟨_, h, n, hq, rfl, by rw [ht]; exact ⟨S.1, S.2.1, S.2.2.1, fun q hq => (by cases hq), S.2.2.2.2⟩, State.WarmedH.trans C.2.2.2.2.1 hW⟩) S.2.2.2.1 hd hlocks
theorem rs_vreturn  (hd : decode M.2.1 pc = .ok (.return_, 1)) (hr : M.2.2.2.1 = none) (hq : Q (.inl (none)) h n) : rsV G M rm Q kc ks pc L [] h n := by
  intro hU p e s m args below meth c H locs cells slots ls C S hc hs hl
  have hlocks := C.2.2.2.2.2.2.1
  refine W.widen (k := rm.cells) (n := rm.slots) (by omega) (by omega) (rs_mono rs_ofMQ ?_)
  exact W.vret C.1 C.2.1 (C.2.2.2.2.2.1.trans hr) (fun t ht hW => ⟨_, h, n, hq, rfl, by rw [ht]; exact ⟨S.1, S.2.1, S.2.2.1, fun q hq => (by cases hq), S.2.2.2.2⟩, State.WarmedH.trans C.2.2.2.2.1 hW⟩) S.2.2.2.1 hd hlocks
theorem rs_areturn {v : Nat} {cl : String} (hd : decode M.2.1 pc = .ok (.areturn, 1)) (hr : M.2.2.2.1 = some (.object cl)) (hq : Q (.inl (some (.ref v))) h n) : rsV G M rm Q kc ks pc L [.ref v] h n := by
  intro hU p e s m args below meth c H locs cells slots ls C S hc hs hl
  have hlocks := C.2.2.2.2.2.2.1
  refine W.widen (k := rm.cells) (n := rm.slots) (by omega) (by omega) (rs_mono rs_ofMQ ?_)
  exact W.aret C.1 C.2.1 (C.2.2.2.2.2.1.trans hr) (Or.inl ⟨_, rfl⟩) (Or.inr ⟨_, rfl⟩) (fun t ht hW => ⟨_, h, n, hq, rfl, by rw [ht]; exact ⟨S.1, S.2.1, S.2.2.1, fun q hq => (by cases hq), S.2.2.2.2⟩, State.WarmedH.trans C.2.2.2.2.1 hW⟩) S.2.2.2.1 hd hlocks
theorem rs_areturnN {cl : String} (hd : decode M.2.1 pc = .ok (.areturn, 1)) (hr : M.2.2.2.1 = some (.object cl)) (hq : Q (.inl (some .null)) h n) : rsV G M rm Q kc ks pc L [.null] h n := by
  intro hU p e s m args below meth c H locs cells slots ls C S hc hs hl
  have hlocks := C.2.2.2.2.2.2.1
  refine W.widen (k := rm.cells) (n := rm.slots) (by omega) (by omega) (rs_mono rs_ofMQ ?_)
  exact W.aret C.1 C.2.1 (C.2.2.2.2.2.1.trans hr) (Or.inl ⟨_, rfl⟩) (Or.inl rfl) (fun t ht hW => ⟨_, h, n, hq, rfl, by rw [ht]; exact ⟨S.1, S.2.1, S.2.2.1, fun q hq => (by cases hq), S.2.2.2.2⟩, State.WarmedH.trans C.2.2.2.2.1 hW⟩) S.2.2.2.1 hd hlocks
theorem rsV_kc {kc' ks' : Nat} (h1 : kc' ≤ kc) (h2 : ks' ≤ ks) (k : rsV G M rm Q kc' ks' pc L st h n) : rsV G M rm Q kc ks pc L st h n := by
  intro hU p e s m args below meth c H locs cells slots ls C S hc hs hl
  exact k hU p e s m args below meth c H locs cells slots ls C S (by omega) (by omega) hl
theorem rsV_w {h' : rsH} (hh : ∀ a e, h' a = some e → h a = some e) (k : rsV G M rm Q kc ks pc L st h' n) : rsV G M rm Q kc ks pc L st h n := by
  intro hU p e s m args below meth c H locs cells slots ls C S hc hs hl
  exact k hU p e s m args below meth c H locs cells slots ls C ⟨fun a x q => S.1 a x (hh a x q), S.2.1, S.2.2.1, S.2.2.2.1, fun a x q => S.2.2.2.2.1 a x (hh a x q), S.2.2.2.2.2⟩ hc hs hl
end RSR
end
section
/-! 06: the rows of rsV that read and write the heap -/
def rs_up (h : rsH) (a : Nat) (e : va_E) : rsH := fun b => if b = a then some e else h b
/-- a field that a class reaches by its pool: which class of the world, which of its fields -/
def rsF (own : String) (index ci k : Nat) : Prop := ∃ (C : String) (T : u_T) (N : Nat), rsCl[ci]? = some (C, T, N) ∧ k < N ∧ Cond.fieldLink own index (T k).1 (T k).2.1 (T k).2.2.1 ∈ rsTs ∧ (∀ w ∈ u_ws C T N, w ∈ rsTs)
def rsP (own : String) (index ci k : Nat) (ty : FieldType) (fin : Bool) : Prop := ∃ (C : String) (T : u_T) (N : Nat) (ty0 : Nat → FieldType), rsCl[ci]? = some (C, T, N) ∧ k < N ∧ Cond.fieldLink own index (T k).1 (T k).2.1 (T k).2.2.1 ∈ rsTs ∧ (∀ w ∈ u_ws C T N, w ∈ rsTs) ∧
  (∀ k, k < N → parseFieldDescriptor (T k).2.2.1 = some (ty0 k)) ∧ (∀ a, a < N → ∀ b, b < N → a ≠ b → (T a).2.1 ≠ (T b).2.1) ∧ (T k).2.2.2 = fin ∧ (T k).1 = own ∧ ty0 k = ty
theorem rs_one {D : va_G} {cl : List vw_C} {a : Nat} {e : va_E} {H : Heap} (h : va_at D cl (a, e) H) : va_P D cl [(a, e)] H := by
  intro k q hk
  cases k with
  | zero => cases hk; exact h
  | succ k => simp at hk
theorem rs_plain {D : va_G} {cl : List vw_C} {a : Nat} {e : va_E} {H : Heap} {cell : Cell} (h : va_at D cl (a, e) H) (hc : H[a]? = some cell) : cell.vm.isStatics = false := by
  cases e with
  | inl x =>
    have h1 : H[a]? = some (vp_cell x.1 x.2) := h
    cases hc.symm.trans h1
    obtain ⟨cA, n, f | f | f | f | f⟩ := x <;> rfl
  | inr o =>
    obtain ⟨r, -, cell', q1, -, q3, -⟩ := h
    cases hc.symm.trans q1
    rw [q3]; rfl
theorem rs_S_put {G : rsG} {h : rsH} {n a i : Nat} {e0 x : va_E} {H H1 : Heap} {locs : List Loc} (S : rsS G h n H locs) (hh : h a = some e0) (he : va_at (rsD G) rsCl (a, x) H1) (z : H1.size = H.size) (oq : ∀ q, q ≠ a → H1[q]? = H[q]?) :
    rsS G (rs_up h a x) n H1 (locs ++ [⟨a, i⟩]) := by
  have hb := S.2.2.2.2.1 a _ hh
  refine ⟨fun b y hy => ?_, by rw [z]; exact S.2.1, fun q hq => ?_, fun q hq => ?_, fun b y hy => ?_, fun q cell hq hcell => ?_⟩
  · unfold rs_up at hy
    split at hy
    · next hba => subst hba; cases hy; exact he
    · next hba => exact (S.1 b y hy).kept (oq b hba)
  · rw [oq q (by omega)]; exact S.2.2.1 q hq
  · rcases List.mem_append.mp hq with h1 | h1
    · exact S.2.2.2.1 q h1
    · rw [List.mem_singleton.mp h1]; exact hb
  · unfold rs_up at hy
    split at hy
    · next hba => subst hba; exact hb
    · exact S.2.2.2.2.1 b y hy
  · by_cases hqa : q = a
    · subst hqa; exact rs_plain he hcell
    · rw [oq q hqa] at hcell; exact S.2.2.2.2.2 q cell hq hcell
theorem rs_S_new {G : rsG} {h : rsH} {n : Nat} {x : va_E} {H H1 : Heap} {locs : List Loc} (S : rsS G h n H locs) (he : va_at (rsD G) rsCl (H.size, x) H1) (z : H1.size = H.size + 1) (oq : ∀ q, q < H.size → H1[q]? = H[q]?) :
    rsS G (rs_up h (rsB G + n) x) (n + 1) H1 locs := by
  have hz := S.2.1
  rw [hz] at he
  refine ⟨fun b y hy => ?_, by rw [z, hz]; omega, fun q hq => ?_, S.2.2.2.1, fun b y hy => ?_, fun q cell hq hcell => ?_⟩
  · unfold rs_up at hy
    split at hy
    · next hba => subst hba; cases hy; exact he
    · exact (S.1 b y hy).kept (oq b (S.1 b y hy).lt)
  · rw [oq q (by omega)]; exact S.2.2.1 q hq
  · unfold rs_up at hy
    split at hy
    · next hba => omega
    · exact S.2.2.2.2.1 b y hy
  · by_cases hqa : q = rsB G + n
    · subst hqa; exact rs_plain he hcell
    · by_cases hql : q < H.size
      · rw [oq q hql] at hcell; exact S.2.2.2.2.2 q cell hq hcell
      · have : q < H1.size := (Array.getElem?_eq_some_iff.mp hcell).1
        omega
section RSHP
variable {G : rsG} {M : rsM} {rm : Room} {Q : rsR → rsH → Nat → Prop} {kc ks kc' ks' pc pc' : Nat} {L : List (Option Value)} {st : List Value} {h : rsH} {n : Nat}
theorem rs_getf {index ci k a : Nat} {fs : List Value} {v : Value} (hd : decode M.2.1 pc = .ok (.getfield index, 3)) (hp : pc + 3 = pc') (hF : rsF M.1.cls index ci k) (hh : h a = some (.inr (ci, fs))) (hv : fs[k]? = some v) (kk : rsV G M rm Q kc ks pc' L (v :: st) h n) : rsV G M rm Q kc ks pc L (.ref a :: st) h n := by
  subst hp
  obtain ⟨C, T, N, hcl, hk, hl, hin⟩ := hF
  intro hU p e s m args below meth c H locs cells slots ls Cx S hc hs hls
  have hw : ∀ w ∈ rsTs, w.before args s = true := fun w hw => hU.1 w hw args s Cx.2.2.2.2.1
  have hK := va_K.moved Cx.2.2.2.2.1.alike hU.2.1
  exact va_get (ws := [(a, .inr (ci, fs))]) Cx.1 Cx.2.1 hw hin Cx.2.2.2.1 hK (rs_one (S.1 a _ hh)) 0 rfl hcl k hk (hw _ hl) (fun _ h9 => h9) hv hd (kk hU p e s m args below meth c H locs cells slots ls Cx S hc hs hls)
theorem rs_putf {index ci k a : Nat} {fs fs' : List Value} {v : Value} {ty : FieldType} (hd : decode M.2.1 pc = .ok (.putfield index, 3)) (hp : pc + 3 = pc') (hF : rsP M.1.cls index ci k ty false) (hh : h a = some (.inr (ci, fs))) (hn : narrow ty v = v) (hfit : fits ty v = true) (hlen : k < fs.length) (hfs : fs.set k v = fs')
    (kk : rsV G M rm Q kc ks pc' L st (rs_up h a (.inr (ci, fs'))) n) : rsV G M rm Q kc ks pc L (v :: .ref a :: st) h n := by
  subst hp
  subst hfs
  obtain ⟨C, T, N, ty0, hcl, hk, hl, hin, hty, hnm, hfin, hdecl, ht⟩ := hF
  intro hU p e s m args below meth c H locs cells slots ls Cx S hc hs hls
  have hw : ∀ w ∈ rsTs, w.before args s = true := fun w hw => hU.1 w hw args s Cx.2.2.2.2.1
  have hK := va_K.moved Cx.2.2.2.2.1.alike hU.2.1
  have hap := va_apart (own := M.1.cls) hw hin ty0 hty hnm hK hcl
  obtain ⟨r, h1, cell, q1, q2, q3, q4⟩ := S.1 a _ hh
  have hr : r = (C, T, N) := Option.some.inj (h1.symm.trans hcl)
  subst hr
  obtain ⟨hS, hfc, kC, hkC, hkind⟩ := hK.1 ci _ hcl
  obtain ⟨cf, kf, fi, f, hi, hsl⟩ := hS k hk
  have hlay := hw _ (hin _ (u_in_lay hk))
  unfold u_lay at hlay
  rw [if_neg (by rw [hfin]; decide)] at hlay
  have hst := (u_facts hfc hkC (u_lays hw hin hk) hi).1
  have h6 := u_store hfc hkC hkind hlay hi (by rw [hty k hk, ht]) hn hfit
  refine W.putK Cx.1 Cx.2.1 (f := f) ⟨Cx.2.2.2.1, hw _ hl, ⟨_, _, _, hi⟩, hst⟩ (by rw [q2]; exact h6) q1 q3 (by rw [hsl]; exact k2_hasslot (q4 k hk)) rfl rfl hd fun H' e1 e2 e3 => ?_
  rw [hsl] at e1 ⊢
  exact kk hU p e s m args below meth c H' _ cells slots ls Cx (rs_S_put S hh ⟨_, hcl, t_OB.to (V := updV (vp_V fs) k v) ⟨_, e1, q2, q3, t_set q4 hap hk v⟩ (fun j _ => vp_updV_set hlen v j)⟩ e2 e3) hc hs hls
theorem rs_putF {index ci k a : Nat} {fs fs' : List Value} {v : Value} {ty : FieldType} (hd : decode M.2.1 pc = .ok (.putfield index, 3)) (hp : pc + 3 = pc') (hF : rsP M.1.cls index ci k ty true) (hin2 : M.1.name = "<init>") (hh : h a = some (.inr (ci, fs))) (hn : narrow ty v = v) (hfit : fits ty v = true) (hlen : k < fs.length) (hfs : fs.set k v = fs')
    (kk : rsV G M rm Q kc ks pc' L st (rs_up h a (.inr (ci, fs'))) n) : rsV G M rm Q kc ks pc L (v :: .ref a :: st) h n := by
  subst hp
  subst hfs
  obtain ⟨C, T, N, ty0, hcl, hk, hl, hin, hty, hnm, hfin, hdecl, ht⟩ := hF
  intro hU p e s m args below meth c H locs cells slots ls Cx S hc hs hls
  have hw : ∀ w ∈ rsTs, w.before args s = true := fun w hw => hU.1 w hw args s Cx.2.2.2.2.1
  have hK := va_K.moved Cx.2.2.2.2.1.alike hU.2.1
  have hap := va_apart (own := M.1.cls) hw hin ty0 hty hnm hK hcl
  obtain ⟨r, h1, cell, q1, q2, q3, q4⟩ := S.1 a _ hh
  have hr : r = (C, T, N) := Option.some.inj (h1.symm.trans hcl)
  subst hr
  obtain ⟨hS, hfc, kC, hkC, hkind⟩ := hK.1 ci _ hcl
  obtain ⟨cf, kf, fi, f, hi, hsl⟩ := hS k hk
  have hlay := hw _ (hin _ (u_in_lay hk))
  unfold u_lay at hlay
  rw [if_pos hfin] at hlay
  have hst := (u_facts hfc hkC (u_lays hw hin hk) hi).1
  have hcf : m.cls = cf := by
    obtain ⟨_, _, c', _, _, _, -, -, hf', -, -, -, hown2, -⟩ := Cond.laysFinal_spec hlay
    have e1 : c' = cf := by have := hi.symm.trans hf'; simp at this; exact this.1.symm
    rw [hdecl] at hown2
    rw [← e1]; exact Option.some.inj (Cx.2.2.2.1.symm.trans hown2)
  have h6 := u_fits hfc hkC hkind (Or.inr hlay) hi (by rw [hty k hk, ht]) hn hfit
  refine W.putFinK Cx.1 Cx.2.1 Cx.2.2.2.1 (hw _ hl) hi hst hcf (Cx.2.2.2.2.2.2.2.2.1.trans hin2) (by rw [q2]; exact h6) q1 q3 (by rw [hsl]; exact k2_hasslot (q4 k hk)) rfl rfl hd fun H' e1 e2 e3 => ?_
  rw [hsl] at e1 ⊢
  exact kk hU p e s m args below meth c H' _ cells slots ls Cx (rs_S_put S hh ⟨_, hcl, t_OB.to (V := updV (vp_V fs) k v) ⟨_, e1, q2, q3, t_set q4 hap hk v⟩ (fun j _ => vp_updV_set hlen v j)⟩ e2 e3) hc hs hls
theorem rs_iald {a j len : Nat} {f : Nat → Int32} (hd : decode M.2.1 pc = .ok (.iaload, 1)) (hp : pc + 1 = pc') (hh : h a = some (.inl (G.2.2.2.1, len, .inl f))) (hj : j < len) (hlen : len < 2 ^ 31) (kk : rsV G M rm Q kc ks pc' L (.int (f j) :: st) h n) : rsV G M rm Q kc ks pc L (.int (nI j) :: .ref a :: st) h n := by
  subst hp
  intro hU p e s m args below meth c H locs cells slots ls Cx S hc hs hls
  have hK := va_K.moved Cx.2.2.2.2.1.alike hU.2.1
  refine va_iald (ws := [(a, .inl (G.2.2.2.1, len, .inl f))]) Cx.1 Cx.2.1 hK (rs_one (S.1 a _ hh)) 0 0 rfl rfl (vp_in_nI hj hlen) hd ?_
  rw [nI_clamp (by omega)]
  exact kk hU p e s m args below meth c H locs cells slots ls Cx S hc hs hls
theorem rs_lald {a j len : Nat} {f : Nat → Int64} (hd : decode M.2.1 pc = .ok (.laload, 1)) (hp : pc + 1 = pc') (hh : h a = some (.inl (G.2.2.2.2.1, len, .inr (.inl f)))) (hj : j < len) (hlen : len < 2 ^ 31) (kk : rsV G M rm Q kc ks pc' L (.long (f j) :: st) h n) : rsV G M rm Q kc ks pc L (.int (nI j) :: .ref a :: st) h n := by
  subst hp
  intro hU p e s m args below meth c H locs cells slots ls Cx S hc hs hls
  have hK := va_K.moved Cx.2.2.2.2.1.alike hU.2.1
  refine va_lald (ws := [(a, .inl (G.2.2.2.2.1, len, .inr (.inl f)))]) Cx.1 Cx.2.1 hK (rs_one (S.1 a _ hh)) 0 1 rfl rfl (vp_in_nI hj hlen) hd ?_
  rw [nI_clamp (by omega)]
  exact kk hU p e s m args below meth c H locs cells slots ls Cx S hc hs hls
theorem rs_aald {a j len : Nat} {f : Nat → Option Nat} (hd : decode M.2.1 pc = .ok (.aaload, 1)) (hp : pc + 1 = pc') (hh : h a = some (.inl (G.2.2.2.2.2, len, .inr (.inr (.inr (.inr f)))))) (hj : j < len) (hlen : len < 2 ^ 31) (kk : rsV G M rm Q kc ks pc' L (va_rf (f j) :: st) h n) : rsV G M rm Q kc ks pc L (.int (nI j) :: .ref a :: st) h n := by
  subst hp
  intro hU p e s m args below meth c H locs cells slots ls Cx S hc hs hls
  have hK := va_K.moved Cx.2.2.2.2.1.alike hU.2.1
  refine va_aldq (ws := [(a, .inl (G.2.2.2.2.2, len, .inr (.inr (.inr (.inr f)))))]) (C := "RunStore$Entries") Cx.1 Cx.2.1 hK (rs_one (S.1 a _ hh)) 0 2 rfl rfl (vp_in_nI hj hlen) hd ?_
  rw [nI_clamp (by omega)]
  exact kk hU p e s m args below meth c H locs cells slots ls Cx S hc hs hls
theorem rs_alenI {a len : Nat} {f : Nat → Int32} (hd : decode M.2.1 pc = .ok (.arraylength, 1)) (hp : pc + 1 = pc') (hh : h a = some (.inl (G.2.2.2.1, len, .inl f))) (kk : rsV G M rm Q kc ks pc' L (.int (nI len) :: st) h n) : rsV G M rm Q kc ks pc L (.ref a :: st) h n := by
  subst hp
  intro hU p e s m args below meth c H locs cells slots ls Cx S hc hs hls
  have hK := va_K.moved Cx.2.2.2.2.1.alike hU.2.1
  exact va_alen (ws := [(a, .inl (G.2.2.2.1, len, .inl f))]) Cx.1 Cx.2.1 hK (rs_one (S.1 a _ hh)) 0 0 rfl rfl rfl hd (kk hU p e s m args below meth c H locs cells slots ls Cx S hc hs hls)
theorem rs_alenA {a len : Nat} {f : Nat → Option Nat} (hd : decode M.2.1 pc = .ok (.arraylength, 1)) (hp : pc + 1 = pc') (hh : h a = some (.inl (G.2.2.2.2.2, len, .inr (.inr (.inr (.inr f)))))) (kk : rsV G M rm Q kc ks pc' L (.int (nI len) :: st) h n) : rsV G M rm Q kc ks pc L (.ref a :: st) h n := by
  subst hp
  intro hU p e s m args below meth c H locs cells slots ls Cx S hc hs hls
  have hK := va_K.moved Cx.2.2.2.2.1.alike hU.2.1
  exact va_alen (ws := [(a, .inl (G.2.2.2.2.2, len, .inr (.inr (.inr (.inr f)))))]) Cx.1 Cx.2.1 hK (rs_one (S.1 a _ hh)) 0 2 rfl rfl rfl hd (kk hU p e s m args below meth c H locs cells slots ls Cx S hc hs hls)
theorem rs_iast {a j len : Nat} {f : Nat → Int32} {x : Int32} (hd : decode M.2.1 pc = .ok (.iastore, 1)) (hp : pc + 1 = pc') (hh : h a = some (.inl (G.2.2.2.1, len, .inl f))) (hj : j < len) (hlen : len < 2 ^ 31) (kk : rsV G M rm Q kc ks pc' L st (rs_up h a (.inl (G.2.2.2.1, len, .inl (upd f j x)))) n) : rsV G M rm Q kc ks pc L (.int x :: .int (nI j) :: .ref a :: st) h n := by
  subst hp
  intro hU p e s m args below meth c H locs cells slots ls Cx S hc hs hls
  have hK := va_K.moved Cx.2.2.2.2.1.alike hU.2.1
  have hin : vp_in (nI j) len := vp_in_nI hj hlen
  refine W.iast Cx.1 Cx.2.1 (S.1 a _ hh) ((hK.2 0 _ rfl).1 len (fun j => .int (f j))) (fun q => by cases q) (by show ¬ (nI j < 0 ∨ (arrV _ _ _).slots.size ≤ _); rw [arrV_size]; exact hin) rfl rfl hd fun H1 e1 z oq => ?_
  refine kk hU p e s m args below meth c H1 _ cells slots ls Cx (rs_S_put S hh ?_ z oq) hc hs hls
  show H1[a]? = some (vp_cell _ _)
  rw [e1, nI_clamp (by omega)]
  rw [vp_cell_i, vp_cell_i, arrV_store]
  congr 2
  funext q
  by_cases hq : q = j
  · subst hq
    simp [updV, upd]
  · simp [updV, upd, hq]
theorem rs_last {a j len : Nat} {f : Nat → Int64} {x : Int64} (hd : decode M.2.1 pc = .ok (.lastore, 1)) (hp : pc + 1 = pc') (hh : h a = some (.inl (G.2.2.2.2.1, len, .inr (.inl f)))) (hj : j < len) (hlen : len < 2 ^ 31) (kk : rsV G M rm Q kc ks pc' L st (rs_up h a (.inl (G.2.2.2.2.1, len, .inr (.inl (vp_updL f j x))))) n) : rsV G M rm Q kc ks pc L (.long x :: .int (nI j) :: .ref a :: st) h n := by
  subst hp
  intro hU p e s m args below meth c H locs cells slots ls Cx S hc hs hls
  have hK := va_K.moved Cx.2.2.2.2.1.alike hU.2.1
  have hin : vp_in (nI j) len := vp_in_nI hj hlen
  refine W.last Cx.1 Cx.2.1 (S.1 a _ hh) ((hK.2 1 _ rfl).1 len (fun j => .long (f j))) (fun q => by cases q) (by show ¬ (nI j < 0 ∨ (arrV _ _ _).slots.size ≤ _); rw [arrV_size]; exact hin) rfl rfl hd fun H1 e1 z oq => ?_
  refine kk hU p e s m args below meth c H1 _ cells slots ls Cx (rs_S_put S hh ?_ z oq) hc hs hls
  show H1[a]? = some (vp_cell _ _)
  rw [e1, nI_clamp (by omega)]
  rw [vp_cell_l, vp_cell_l, arrV_store]
  congr 2
  funext q
  by_cases hq : q = j
  · subst hq
    simp [updV, vp_updL]
  · simp [updV, vp_updL, hq]
theorem rs_aast {a j len v ci : Nat} {f : Nat → Option Nat} {vs : List Value} {T : u_T} {N : Nat} (hd : decode M.2.1 pc = .ok (.aastore, 1)) (hp : pc + 1 = pc') (hh : h a = some (.inl (G.2.2.2.2.2, len, .inr (.inr (.inr (.inr f)))))) (hj : j < len) (hlen : len < 2 ^ 31) (hv : h v = some (.inr (ci, vs))) (hcl : rsCl[ci]? = some ("RunStore$Entries", T, N))
    (kk : rsV G M rm Q kc ks pc' L st (rs_up h a (.inl (G.2.2.2.2.2, len, .inr (.inr (.inr (.inr (va_up f j (some v)))))))) n) : rsV G M rm Q kc ks pc L (.ref v :: .int (nI j) :: .ref a :: st) h n := by
  subst hp
  intro hU p e s m args below meth c H locs cells slots ls Cx S hc hs hls
  have hK := va_K.moved Cx.2.2.2.2.1.alike hU.2.1
  have hin : vp_in (nI j) len := vp_in_nI hj hlen
  have h0 : ¬ nI j < 0 := fun q => hin (Or.inl q)
  obtain ⟨r', hr', cellV, g1, g2, g3, -⟩ := S.1 v _ hv
  have hcls := (hK.1 ci _ hcl).2
  obtain ⟨kA, comp, k1, k2, k3, -⟩ := (hK.2 2 _ rfl).2
  have hcomp : comp = (rsD G).1 ci := Option.some.inj (k3.symm.trans hcls.1)
  subst hcomp
  obtain ⟨kC, hkC, -⟩ := hcls.2
  refine W.aast Cx.1 Cx.2.1 (S.1 a _ hh) (fun q h => by cases h) (fun h => by cases h) k1 k2 rfl hkC ⟨h0, by show _ < (arrV _ _ _).slots.size; rw [arrV_size, nI_clamp (by omega)]; exact hj⟩ g1 (fun q h => by rw [g3] at h; cases h) (by rw [g2]; exact hkC) (by rw [g2]; exact va_assign hcls) rfl rfl hd fun H1 e1 z oq => ?_
  refine kk hU p e s m args below meth c H1 _ cells slots ls Cx (rs_S_put S hh ?_ z oq) hc hs hls
  show H1[a]? = some (vp_cell _ _)
  rw [e1, nI_clamp (by omega)]
  rw [vp_cell_q, vp_cell_q, arrV_store]
  congr 2
  funext q
  by_cases hq : q = j
  · subst hq
    simp [updV, va_up, va_rf]
  · simp [updV, va_up, hq]
/-- what 'new' of a class of the world asks of the tables -/
def rsN (own : String) (index ci N : Nat) (fs : List Value) : Prop := ∃ (C : String) (T : u_T) (ty0 : Nat → FieldType), rsCl[ci]? = some (C, T, N) ∧ Cond.classLink own index C ∈ rsTs ∧ Cond.instantiable C N ∈ rsTs ∧ Cond.initialized C ∈ rsTs ∧ (∀ w ∈ u_ws C T N, w ∈ rsTs) ∧ (∀ k, k < N → parseFieldDescriptor (T k).2.2.1 = some (ty0 k)) ∧ ∀ j, j < N → defaultValue (ty0 j) = vp_V fs j
theorem rs_new {index ci N : Nat} {fs : List Value} (hd : decode M.2.1 pc = .ok (.new index, 3)) (hp : pc + 3 = pc') (hN : rsN M.1.cls index ci N fs) (hkc : kc' + 1 ≤ kc) (hks : ks' + N ≤ ks) (kk : rsV G M rm Q kc' ks' pc' L (.ref (rsB G + n) :: st) (rs_up h (rsB G + n) (.inr (ci, fs))) (n + 1)) : rsV G M rm Q kc ks pc L st h n := by
  subst hp
  obtain ⟨C, T, ty0, hcl, hw1, hw2, hw3, hin, hty, hfs⟩ := hN
  intro hU p e s m args below meth c H locs cells slots ls Cx S hc hs hls
  have hw : ∀ w ∈ rsTs, w.before args s = true := fun w hw => hU.1 w hw args s Cx.2.2.2.2.1
  have hK := va_K.moved Cx.2.2.2.2.1.alike hU.2.1
  have hKn := hK.1 ci _ hcl
  refine W.newcK Cx.1 Cx.2.1 Cx.2.2.2.1 (hw _ hw1) (hw _ hw2) (hw _ hw3) rfl hd (by omega) (by omega) hKn.2.1 rfl fun H1 kC hkC e1 z1 o1 => ?_
  have hb := u_born ty0 hw hin hKn hkC e1 hty
  have := kk hU p e s m args below meth c H1 locs (cells + 1) (slots + N) ls Cx (rs_S_new S ⟨_, hcl, hb.to hfs⟩ z1 o1) (by omega) (by omega) hls
  rw [← S.2.1] at this
  exact this
theorem rs_newaI {N : Nat} {i : Int32} (hd : decode M.2.1 pc = .ok (.newarray .int, 2)) (hp : pc + 2 = pc') (hw1 : Cond.arrayClass .int ∈ rsTs) (hi : i = nI N) (hlen : N < 2 ^ 20) (hkc : kc' + 1 ≤ kc) (hks : ks' + N ≤ ks)
    (kk : rsV G M rm Q kc' ks' pc' L (.ref (rsB G + n) :: st) (rs_up h (rsB G + n) (.inl (G.2.2.2.1, N, .inl (fun _ => 0)))) (n + 1)) : rsV G M rm Q kc ks pc L (.int i :: st) h n := by
  subst hp
  subst hi
  intro hU p e s m args below meth c H locs cells slots ls Cx S hc hs hls
  have hw : ∀ w ∈ rsTs, w.before args s = true := fun w hw => hU.1 w hw args s Cx.2.2.2.2.1
  have hK := va_K.moved Cx.2.2.2.2.1.alike hU.2.1
  refine va_newaK (atype := .int) Cx.1 Cx.2.1 (hw _ hw1) rfl hd rfl (nI_pos (by omega)) (nI_clamp (by omega)) (by show N * 4 ≤ _; omega) (by omega) (by omega) rfl fun H1 cA e1 z1 o1 hAr hNm => ?_
  have hcA : cA = G.2.2.2.1 := Option.some.inj (hNm.symm.trans (hK.2 0 _ rfl).2)
  subst hcA
  have := kk hU p e s m args below meth c H1 locs (cells + 1) (slots + N) ls Cx (rs_S_new S (by show H1[H.size]? = some (vp_cell _ _); rw [vp_cell_i]; exact e1) z1 o1) (by omega) (by omega) hls
  rw [← S.2.1] at this
  exact this
theorem rs_newaL {N : Nat} {i : Int32} (hd : decode M.2.1 pc = .ok (.newarray .long, 2)) (hp : pc + 2 = pc') (hw1 : Cond.arrayClass .long ∈ rsTs) (hi : i = nI N) (hlen : N < 2 ^ 20) (hkc : kc' + 1 ≤ kc) (hks : ks' + N ≤ ks)
    (kk : rsV G M rm Q kc' ks' pc' L (.ref (rsB G + n) :: st) (rs_up h (rsB G + n) (.inl (G.2.2.2.2.1, N, .inr (.inl (fun _ => 0))))) (n + 1)) : rsV G M rm Q kc ks pc L (.int i :: st) h n := by
  subst hp
  subst hi
  intro hU p e s m args below meth c H locs cells slots ls Cx S hc hs hls
  have hw : ∀ w ∈ rsTs, w.before args s = true := fun w hw => hU.1 w hw args s Cx.2.2.2.2.1
  have hK := va_K.moved Cx.2.2.2.2.1.alike hU.2.1
  refine va_newaK (atype := .long) Cx.1 Cx.2.1 (hw _ hw1) rfl hd rfl (nI_pos (by omega)) (nI_clamp (by omega)) (by show N * 8 ≤ _; omega) (by omega) (by omega) rfl fun H1 cA e1 z1 o1 hAr hNm => ?_
  have hcA : cA = G.2.2.2.2.1 := Option.some.inj (hNm.symm.trans (hK.2 1 _ rfl).2)
  subst hcA
  have := kk hU p e s m args below meth c H1 locs (cells + 1) (slots + N) ls Cx (rs_S_new S (by show H1[H.size]? = some (vp_cell _ _); rw [vp_cell_l]; exact e1) z1 o1) (by omega) (by omega) hls
  rw [← S.2.1] at this
  exact this
theorem rs_newaE {N index : Nat} {i : Int32} (hd : decode M.2.1 pc = .ok (.anewarray index, 3)) (hp : pc + 3 = pc') (hw1 : Cond.classLink M.1.cls index "RunStore$Entries" ∈ rsTs) (hw2 : Cond.arrayOver (.object "RunStore$Entries") ∈ rsTs) (hi : i = nI N) (hlen : N < 2 ^ 20) (hkc : kc' + 1 ≤ kc) (hks : ks' + N ≤ ks)
    (kk : rsV G M rm Q kc' ks' pc' L (.ref (rsB G + n) :: st) (rs_up h (rsB G + n) (.inl (G.2.2.2.2.2, N, .inr (.inr (.inr (.inr (fun _ => none))))))) (n + 1)) : rsV G M rm Q kc ks pc L (.int i :: st) h n := by
  subst hp
  subst hi
  intro hU p e s m args below meth c H locs cells slots ls Cx S hc hs hls
  have hw : ∀ w ∈ rsTs, w.before args s = true := fun w hw => hU.1 w hw args s Cx.2.2.2.2.1
  have hK := va_K.moved Cx.2.2.2.2.1.alike hU.2.1
  have hcn : (nI N).toNatClampNeg = N := nI_clamp (by omega)
  refine W.anew Cx.1 Cx.2.1 Cx.2.2.2.1 (hw _ hw1) (hw _ hw2) rfl hd rfl (nI_pos (by omega)) (by rw [hcn]; omega) (by omega) (by rw [hcn]; omega) fun cA kA comp f1 f2 f3 f4 => ?_
  obtain ⟨kA', comp', k1, k2, k3, k4⟩ := (hK.2 2 _ rfl).2
  have hcA : cA = G.2.2.2.2.2 := Option.some.inj (f1.symm.trans k4)
  subst hcA
  rw [hcn]
  generalize hH1 : H.push ({ cls := G.2.2.2.2.2, slots := Array.replicate N .null, vm := .none } : Cell) = H1
  have z1 : H1.size = H.size + 1 := by rw [← hH1, Array.size_push]
  have e1 : H1[H.size]? = some (arrV G.2.2.2.2.2 N (fun _ => .null)) := by rw [← hH1, Array.getElem?_push_size, ← arrV_new]
  have o1 : ∀ q : Nat, q < H.size → H1[q]? = H[q]? := fun q hq => by rw [← hH1, Array.getElem?_push, if_neg (Nat.ne_of_lt hq)]
  have := kk hU p e s m args below meth c H1 locs (cells + 1) (slots + N) ls Cx (rs_S_new S (by show H1[H.size]? = some (vp_cell _ _); rw [vp_cell_q]; exact e1) z1 o1) (by omega) (by omega) hls
  rw [← S.2.1] at this
  exact this
theorem rs_obj {a index : Nat} (hd : decode M.2.1 pc = .ok (.invokespecial index, 3)) (hp : pc + 3 = pc') (hw1 : Cond.methodLink M.1.cls index Lib.objectInit ∈ rsTs) (hw2 : Cond.instanceMethod Lib.objectInit ∈ rsTs) (hw3 : Cond.code Lib.objectInit ⟨#[0xb1]⟩ 1 none ∈ rsTs) (hst : (st.map fun v => v.category).sum ≤ 8) (hfr : 1 ≤ rm.frames) (hlo : 20 ≤ rm.locals)
    (kk : rsV G M rm Q kc ks pc' L st h n) : rsV G M rm Q kc ks pc L (.ref a :: st) h n := by
  subst hp
  intro hU p e s m args below meth c H locs cells slots ls Cx S hc hs hls
  have hw : ∀ w ∈ rsTs, w.before args s = true := fun w hw => hU.1 w hw args s Cx.2.2.2.2.1
  refine W.objInit Cx.1 Cx.2.1 Cx.2.2.2.1 (hw _ hw1) (hw _ hw2) (hw _ hw3) rfl (by rw [Cx.2.2.1]; exact hls.1) rfl hd hfr (by show 2 * 0 + _ + 12 ≤ _; omega) ?_
  exact kk hU p e s m args below meth c H locs cells slots ls Cx S hc hs hls
end RSHP
end
section
/-! 07a: the constructor of an exception with a message, and its throw: the state that is left -/
/-- what the making of an exception X wants of the tables: X passes its text on to Y by (ix, bs), Y and its own by the common six bytes -/
def rs_atoms (own : String) (ic : Nat) (X Y : String) (r : List String) (ix : Nat) (bs : ByteArray) : List Cond :=
  Bundle.throwableAtoms ++ Bundle.throwableSAtoms ++ (Bundle.passSAtoms X Y ix bs ++ Bundle.chainSAtoms Y r) ++
  [.methodLink own ic (Bundle.initS X), .instantiable X 6, .castable X X, .selects X Bundle.tFill0 Bundle.tFill0, .selects X Bundle.tFill Bundle.tFill,
   .lays X Bundle.tN "cause" "Ljava/lang/Throwable;", .lays X Bundle.tN "stackTrace" Bundle.steD, .lays X Bundle.tN "suppressedExceptions" Bundle.listD, .lays X Bundle.tN "detailMessage" "Ljava/lang/String;",
   .isRef (.static Bundle.tN "UNASSIGNED_STACK" Bundle.steD), .isRef (.static Bundle.tN "SUPPRESSED_SENTINEL" Bundle.listD),
   .fieldLink Bundle.tN 198 Bundle.tN "backtrace" "Ljava/lang/Object;", .lays Bundle.tN Bundle.tN "backtrace" "Ljava/lang/Object;", .lays X Bundle.tN "backtrace" "Ljava/lang/Object;"]
section RSCR
variable {p : Program} {l : Launch} {e : Env} {R : Room} {s : State} {m₀ : MethodId} {args : Array Value} {below : List Frame} {meth : Method} {c : Code} {Wo : State} {locs : List Loc} {cells slots : Nat}
set_option maxHeartbeats 1000000 in
theorem rs_ctorThrow (X : Stand p l e R s m₀ args below meth c Wo locs cells slots) (hexec : p.tables.exec = Jvm.exec) (htr : e.platform.stackTraces = false) {own cls Yn : String} {names : List String} {ic ix : Nat} {bs : ByteArray}
    (hown : s.vm.findClass own = some m₀.cls) (hcls : Bundle.fit cls = true) (hYn : Bundle.fit Yn = true) (hnames : ∀ n ∈ names, Bundle.fit n = true) (hb0 : decode bs 0 = .ok (.aload_n 0, 1)) (hb1 : decode bs 1 = .ok (.aload_n 1, 1)) (hb2 : decode bs 2 = .ok (.invokespecial ix, 3)) (hb5 : decode bs 5 = .ok (.return_, 1)) (h : ∀ a ∈ rs_atoms own ic cls Yn names ix bs, a.before args s = true)
    (hlocs : ∀ x ∈ locs, ∀ cell, s.heap[x.base]? = some cell → cell.vm.isStatics = false)
    {a : Addr} {cX : ClassId} {kX : Class} (hfoundX : s.vm.findClass cls = some cX) (hkX : s.vm.classes[cX]? = some kX) (hcell : Wo.heap[a]? = some (freshCell cX kX)) (hnew : s.heap.size ≤ a) {msg : Value} (hmsg : msg.isRef = true)
    {g : JFrame} (hg : g.method = m₀) (hsize : g.locals.size = c.maxLocals) (hlocked : g.locked = none) (hentered : g.entered = []) {rest : List Value} (hstack : g.stack = msg :: .ref a :: .ref a :: rest)
    (hd6 : decode c.code g.pc = .ok (.invokespecial ic, 3)) (hd9 : decode c.code (g.pc + 3) = .ok (.athrow, 1)) (hout : ∀ x ∈ c.exceptionTable.toList, covers x (g.pc + 3) = false)
    (hRframes : names.length + 4 < R.frames) (hRlocals : 2 * g.monitorRoom + ((Value.ref a :: rest).map fun v => v.category).sum + (13 * (names.length + 2) + 42) ≤ R.locals) (hlocks : meth.locks = false) :
    ∃ (vm' : Vm) (ce : Cell), ce.cls = cX ∧ ce.vm = .none ∧ Steps p.tables e below (Wo.setTop g) (((Wo.setVm vm').setCell a ce).setFrames (.throwing a :: below)) ∧ (((Wo.setVm vm').setCell a ce).setFrames (.throwing a :: below)).status = .running ∧
      Ended (((Wo.setVm vm').setCell a ce).setFrames (.throwing a :: below)) below (.threw a) ∧ s.WarmedH vm' ∧ s.sameButNew ({ (((Wo.setVm vm').setCell a ce).setFrames (.throwing a :: below)) with vm := s.vm } : State) locs cells slots := by
  have howns : e.platform.frameOwnsMonitors = true := by rw [X.admits.platform]
  have hfin : e.platform.finalization = false := by rw [X.admits.platform]
  have hpl : e.platform.magicAccessors = ({} : Platform).magicAccessors := by rw [X.admits.platform]
  have a' : ∀ x, x ∈ rs_atoms own ic cls Yn names ix bs → x.holds args s none s [] = true := fun x hx => h x hx
  obtain ⟨T, Z0, L, -, Y⟩ := ThrowableC.of_atoms (args := args) howns hfin hpl (fun x hx => h x (by simp [rs_atoms, hx]))
  obtain ⟨Z, M, LZ, LM, hnZ⟩ := Init0T.ofS_atoms (args := args) hpl L Y (fun x hx => h x (by simp [rs_atoms, hx]))
  obtain ⟨P1, L1, hP1m, hP1s⟩ := PassC.ofS_atoms (args := args) (s := s) hpl (X := cls) (Y := Yn) (Bundle.fit_spec hcls).1 (Bundle.fit_spec hYn).2 hb0 hb1 hb2 hb5 (fun x hx => h x (by simp [rs_atoms, hx]))
  obtain ⟨P2, Ps, hlen, L2, hL, hP2m, hlink2, hlink⟩ := Bundle.chainS (args := args) hpl hnZ names Yn hYn hnames (fun x hx => h x (by simp [rs_atoms, hx]))
  have hlink1 : P1.sup = P2.m := Option.some.inj (hP1s.symm.trans hP2m)
  have hfound : s.vm.findClass cls = some P1.m.cls := findClass_of_methodNamed hP1m
  cases Option.some.inj (hfoundX.symm.trans hfound)
  obtain ⟨c1, kX', hc1, hk, hord, -, -, hn6⟩ := Cond.instantiable_spec (a' (.instantiable cls 6) (by simp [rs_atoms]))
  cases Option.some.inj (hc1.symm.trans hfound)
  cases Option.some.inj (hkX.symm.trans hk)
  have hsel0 : selectMethod e.platform s.vm P1.m.cls T.fill0 = .method T.fill0 := by
    obtain ⟨c2, r2, m2, q1, q2, q3, q4, -⟩ := Cond.selects_spec (a' (.selects cls Bundle.tFill0 Bundle.tFill0) (by simp [rs_atoms]))
    cases Option.some.inj (q1.symm.trans hfound)
    cases Option.some.inj (q2.symm.trans (State.methodFound?_of_named Y.fill0 (by decide)))
    cases Option.some.inj (q3.symm.trans Y.fill0)
    rw [Launch.admits_selectMethod X.admits]; exact q4
  have hselF : selectMethod e.platform s.vm P1.m.cls T.fill = .method T.fill := by
    obtain ⟨c2, r2, m2, q1, q2, q3, q4, -⟩ := Cond.selects_spec (a' (.selects cls Bundle.tFill Bundle.tFill) (by simp [rs_atoms]))
    cases Option.some.inj (q1.symm.trans hfound)
    cases Option.some.inj (q2.symm.trans (State.methodFound?_of_named Y.fill (by decide)))
    cases Option.some.inj (q3.symm.trans Y.fill)
    rw [Launch.admits_selectMethod X.admits]; exact q4
  obtain ⟨cellS0, hcS0, hiss⟩ := Y.statics
  obtain ⟨u0, hu0⟩ := Cond.staticRefV Y.unassigned L.unassignedStatic L.statics hcS0 hiss (a' (.isRef (.static Bundle.tN "UNASSIGNED_STACK" Bundle.steD)) (by simp [rs_atoms]))
  obtain ⟨sen, hsen⟩ := Cond.staticRefV Y.sentinel L.sentinelStatic L.statics hcS0 hiss (a' (.isRef (.static Bundle.tN "SUPPRESSED_SENTINEL" Bundle.listD)) (by simp [rs_atoms]))
  obtain ⟨ci198, i198, fB, hk198, hg198, ha198, hsB, -, hnB, htB, hffB⟩ := Cond.ownField (t := .object "java/lang/Object") Y.found L.cls (by decide +kernel) (a' (.fieldLink Bundle.tN 198 Bundle.tN "backtrace" "Ljava/lang/Object;") (by simp [rs_atoms])) (a' (.lays Bundle.tN Bundle.tN "backtrace" "Ljava/lang/Object;") (by simp [rs_atoms])) e.platform hpl
  obtain ⟨cellS, hcS', heS, -, hkeep⟩ := X.same.2.2.2.2.2 T.aS cellS0 hcS0
  have hcellS : Wo.heap[T.aS]? = some cellS := hcS'
  have hout' : ∀ i, (⟨T.aS, i⟩ : Loc) ∉ locs := fun i hmem => by
    have := hlocs _ hmem cellS0 hcS0
    rw [hiss] at this; cases this
  have hknownS : cellS.vm ≠ .unknown := by
    rw [heS]; intro hu
    rw [show cellS0.vm = .unknown from hu] at hiss
    cases hiss
  have hneS : T.aS ≠ a := Nat.ne_of_lt (Nat.lt_of_lt_of_le (Array.getElem?_eq_some_iff.mp hcS0).1 hnew)
  obtain ⟨iM, hffM⟩ := Y.msg
  obtain ⟨tyC, dC, hdC, hdnC⟩ := Cond.laysAt hfound hk Y.cause (a' (.lays cls Bundle.tN "cause" "Ljava/lang/Throwable;") (by simp [rs_atoms]))
  obtain ⟨tyS, dS, hdS, hdnS⟩ := Cond.laysAt hfound hk Y.stack (a' (.lays cls Bundle.tN "stackTrace" Bundle.steD) (by simp [rs_atoms]))
  obtain ⟨tyP, dP, hdP, hdnP⟩ := Cond.laysAt hfound hk Y.supp (a' (.lays cls Bundle.tN "suppressedExceptions" Bundle.listD) (by simp [rs_atoms]))
  obtain ⟨tyM, dM, hdM, hdnM⟩ := Cond.laysAt hfound hk hffM (a' (.lays cls Bundle.tN "detailMessage" "Ljava/lang/String;") (by simp [rs_atoms]))
  obtain ⟨tyB, dB, hdB, hdnB⟩ := Cond.laysAt hfound hk hffB (a' (.lays cls Bundle.tN "backtrace" "Ljava/lang/Object;") (by simp [rs_atoms]))
  have bC := Cond.laysApart hdB hdC hdnB hdnC (by rw [hnB, Y.causeName]; decide)
  have bS := Cond.laysApart hdB hdS hdnB hdnS (by rw [hnB, Y.stackName]; decide)
  have bP := Cond.laysApart hdB hdP hdnB hdnP (by rw [hnB, Y.suppName]; decide)
  have hskip : SkipFacts T e.platform s (fun u => u) u0 ((preparedCellV T.toThrowableT (freshCell P1.m.cls kX) a u0 sen).withEntry Wo.cur) :=
    ⟨{ ci198 := ci198, i198 := i198, fBack := fB }, ⟨hk198, hg198, ha198, hsB⟩, by
      have := fresh_default (c := P1.m.cls) tyB
      rw [htB] at this
      simpa [preparedCellV, Cell.setSlot, Cell.withEntry, Array.getElem?_setIfInBounds, bC, bS, bP, bC.symm, bS.symm, bP.symm, defaultValue] using this, fun _ _ => rfl⟩
  obtain ⟨tm, methC, cdC, kC, vm₁, hnC, -, -, -, -, -, -, -, hW₁, st1⟩ := Steps.initColdS (tb := p.tables) (e := e) (below := below) (s := s) (U := Wo) X.here hexec X.warmed hpl hown (t := Bundle.initS cls) rfl rfl (Bundle.fit_spec hcls).2
    (a' (.methodLink own ic (Bundle.initS cls)) (by simp [rs_atoms])) (h (.instanceMethod (Bundle.initS cls)) (by simp [rs_atoms, Bundle.passSAtoms])) (bytes := bs) (maxL := 2) (h (.code (Bundle.initS cls) bs 2 none) (by simp [rs_atoms, Bundle.passSAtoms]))
    (f := g) hg (a := a) (msg := msg) (rest := .ref a :: rest) hstack hd6
  cases Option.some.inj (hnC.symm.trans hP1m)
  have X₁ := X.noted hW₁
  obtain ⟨vm₂, X₂, st2⟩ := X₁.ctorMessageOffV hexec (g := { g with stack := .ref a :: rest }) hg hsize T L Z LZ M LM (P1 :: P2 :: Ps)
    (fun P hP => by
      rcases List.mem_cons.mp hP with rfl | hP
      · exact L1
      · rcases List.mem_cons.mp hP with rfl | hP
        · exact L2
        · exact hL P hP) ⟨hlink1, hlink2, hlink⟩ (u0 := u0) (sen := sen) (self := a) hmsg (cell := freshCell P1.m.cls kX) (cellS := cellS)
    hcell (fun _ => by simp) (by simp) rfl rfl hsel0 hselF hcellS hneS hknownS (by rw [hkeep _ (hout' _)]; exact hu0) (by rw [hkeep _ (hout' _)]; exact hsen)
    (Takes.of_laid hk hord tyC (by rw [Y.causeType]; rfl)) (Takes.of_laid hk hord tyS (by rw [Y.stackType]; exact fits_refV_array _ u0)) (Takes.of_laid hk hord tyP (by rw [Y.suppType]; exact fits_refV_object _ sen))
    (Takes.of_laid hk hord tyM (by rw [Y.msgType]; exact fits_refV_object _ ⟨msg, hmsg⟩)) Y.objLocals hskip htr [] hd6
    (by simp only [List.length_cons, hlen]; omega) (by simp only [List.length_cons, hlen]; exact hRlocals)
  obtain ⟨hwalk, hrun, hended, hWU, hsame⟩ := X₂.athrowLeaves hexec (g := { g with stack := .ref a :: rest, pc := g.pc + 3 }) hg hlocked hentered hout (a := a) (rest := rest) rfl hd9
  refine ⟨vm₂, plainBareV T.toThrowableT (freshCell P1.m.cls kX) a u0 sen msg, rfl, rfl, st1 _ (fun acts => ?_), hrun, hended, hWU, hsame.weaken (fun y hy hlt' => ?_) (Nat.le_refl _) (Nat.le_refl _)⟩
  · rw [doInvoke_state]
    exact st2 _ hwalk
  · rcases List.mem_append.mp hy with h1 | h1
    · exact h1
    · exfalso
      have hb : y.base = a := by
        simp only [List.mem_cons, List.not_mem_nil, or_false] at h1
        rcases h1 with rfl | rfl | rfl | rfl | rfl <;> rfl
      rw [hb] at hlt'
      exact Nat.not_lt.mpr hnew hlt'
end RSCR
end
section
/-! 06b: exceptions: what the start says, at every later state (written by gen_facts.py) -/
theorem rsX_tr {G : rsG} {e : Env} (hU : rsU G) (ha : (rsL G).admits e) : e.platform.stackTraces = false := Launch.traces_off hU.2.2.1 ha
theorem rsX_cls {G : rsG} {U : State} {k : Nat} (hU : rsU G) (hW : (rsS0 G).WarmedH U.vm) (hk : k < 4) : ∃ c, ClassAt U (rsEx k) c := by
  obtain ⟨c, hc⟩ := hU.2.2.2.1 k hk
  exact ⟨c, classAt_moved hW.alike hc⟩
theorem rsX_self {G : rsG} {U : State} {k : Nat} {cell : Cell} (hU : rsU G) (hW : (rsS0 G).WarmedH U.vm) (hc : U.vm.findClass (rsEx k) = some cell.cls) : U.vm.assignable cell.cls cell.cls = true := by
  by_cases hk : k < 4
  · obtain ⟨c, h1⟩ := rsX_cls hU hW hk
    have : c = cell.cls := Option.some.inj (h1.1.symm.trans hc)
    subst this
    exact va_assign h1
  · have e3 : rsEx k = rsEx 3 := by
      match k, hk with
      | 0, h => exact absurd (by decide) h
      | 1, h => exact absurd (by decide) h
      | 2, h => exact absurd (by decide) h
      | n + 3, _ => rfl
    rw [e3] at hc
    obtain ⟨c, h1⟩ := rsX_cls (k := 3) hU hW (by decide)
    have : c = cell.cls := Option.some.inj (h1.1.symm.trans hc)
    subst this
    exact va_assign h1
theorem rsX_no {G : rsG} {U : State} {k k' : Nat} {c c' : ClassId} (hU : rsU G) (hW : (rsS0 G).WarmedH U.vm) (hn : rsNo k k') (h1 : U.vm.findClass (rsEx k) = some c) (h2 : U.vm.findClass (rsEx k') = some c') : U.vm.assignable c c' = false := by
  obtain ⟨a, b, g1, g2, g3⟩ := va_Nc.moved hW.alike (hU.2.2.2.2.1 k k' hn)
  cases g1.symm.trans h1
  cases g2.symm.trans h2
  exact g3
theorem rsX_str {G : rsG} {U : State} {own tx : String} {i : Nat} (hU : rsU G) (hW : (rsS0 G).WarmedH U.vm) (h : (own, i, tx) ∈ rsStr) : ∃ a, vk_R own i tx a U := by
  obtain ⟨a, ha⟩ := hU.2.2.2.2.2.1 _ h
  exact ⟨a, vk_R.warm hW ha⟩
def rs_ix : Nat → Nat
  | 3 => 13
  | _ => 7
def rs_bs : Nat → ByteArray
  | 3 => prog_15_method_4_code
  | _ => Bundle.six
/-- every word that an exception's making wants, the caller's link apart -/
abbrev rs_at (own : String) (ic k : Nat) : List Cond := rs_atoms own ic (rsEx k) "java/lang/RuntimeException" ["java/lang/Exception"] (rs_ix k) (rs_bs k)
def rs_four : List Cond := [.isRef (.static Bundle.tN "UNASSIGNED_STACK" Bundle.steD), .isRef (.static Bundle.tN "SUPPRESSED_SENTINEL" Bundle.listD), .laysStatic Bundle.tN "UNASSIGNED_STACK" Bundle.steD, .laysStatic Bundle.tN "SUPPRESSED_SENTINEL" Bundle.listD]
theorem rs_own_0 : ∀ w ∈ rs_at "" 0 0, w ∈ rs_four ∨ w = .methodLink "" 0 (Bundle.initS (rsEx 0)) ∨ (w ∈ tables_1 ∧ rs_good w = true) := by decide +kernel
theorem rs_own_1 : ∀ w ∈ rs_at "" 0 1, w ∈ rs_four ∨ w = .methodLink "" 0 (Bundle.initS (rsEx 1)) ∨ (w ∈ tables_1 ∧ rs_good w = true) := by decide +kernel
theorem rs_own_2 : ∀ w ∈ rs_at "" 0 2, w ∈ rs_four ∨ w = .methodLink "" 0 (Bundle.initS (rsEx 2)) ∨ (w ∈ tables_1 ∧ rs_good w = true) := by decide +kernel
theorem rs_own_3 : ∀ w ∈ rs_at "" 0 3, w ∈ rs_four ∨ w = .methodLink "" 0 (Bundle.initS (rsEx 3)) ∨ (w ∈ tables_1 ∧ rs_good w = true) := by decide +kernel
theorem rs_own_in {k : Nat} (hk : k < 4) : ∀ w ∈ rs_at "" 0 k, w ∈ rs_four ∨ w = .methodLink "" 0 (Bundle.initS (rsEx k)) ∨ w ∈ rsTs := by
  have key : ∀ w : Cond, (w ∈ rs_four ∨ w = .methodLink "" 0 (Bundle.initS (rsEx k)) ∨ (w ∈ tables_1 ∧ rs_good w = true)) → w ∈ rs_four ∨ w = .methodLink "" 0 (Bundle.initS (rsEx k)) ∨ w ∈ rsTs := fun w h => by
    rcases h with h | h | ⟨h, g⟩
    · exact Or.inl h
    · exact Or.inr (Or.inl h)
    · exact Or.inr (Or.inr (rs_in (List.mem_append_right _ h) g))
  intro w hw
  match k, hk with
  | 0, _ => exact key w (rs_own_0 w hw)
  | 1, _ => exact key w (rs_own_1 w hw)
  | 2, _ => exact key w (rs_own_2 w hw)
  | 3, _ => exact key w (rs_own_3 w hw)
theorem rs_own_split {own : String} {ic k : Nat} {w : Cond} (hw : w ∈ rs_at own ic k) : w = .methodLink own ic (Bundle.initS (rsEx k)) ∨ w ∈ rs_four ∨ w ∈ rsTs ∨ ¬ k < 4 := by
  by_cases hk : k < 4
  · unfold rs_at rs_atoms at hw
    have key : w ∈ rs_at "" 0 k → w ≠ .methodLink "" 0 (Bundle.initS (rsEx k)) → w = .methodLink own ic (Bundle.initS (rsEx k)) ∨ w ∈ rs_four ∨ w ∈ rsTs ∨ ¬ k < 4 := fun h hn => by
      rcases rs_own_in hk w h with h | h | h
      · exact Or.inr (Or.inl h)
      · exact absurd h hn
      · exact Or.inr (Or.inr (Or.inl h))
    have nl : ∀ w ∈ Bundle.throwableAtoms ++ Bundle.throwableSAtoms ++ (Bundle.passSAtoms (rsEx k) "java/lang/RuntimeException" (rs_ix k) (rs_bs k) ++ Bundle.chainSAtoms "java/lang/RuntimeException" ["java/lang/Exception"]), w ≠ .methodLink "" 0 (Bundle.initS (rsEx k)) := by
      match k, hk with
      | 0, _ => exact (by decide +kernel)
      | 1, _ => exact (by decide +kernel)
      | 2, _ => exact (by decide +kernel)
      | 3, _ => exact (by decide +kernel)
    rcases List.mem_append.mp hw with h | h
    · exact key (List.mem_append_left _ h) (nl w h)
    · rcases List.mem_cons.mp h with h | h
      · exact Or.inl h
      · refine key (List.mem_append_right _ (List.mem_cons_of_mem _ h)) fun e => ?_
        subst e
        simp at h
  · exact Or.inr (Or.inr (Or.inr hk))
theorem rsX_own {G : rsG} {s : State} {args : Array Value} {own : String} {ic k : Nat} (hU : rsU G) (hW : (rsS0 G).WarmedH s.vm) (hold : ∀ q, q < rsB G → s.heap[q]? = (rsS0 G).heap[q]?) (hk : k < 4) (hl : Cond.methodLink own ic (Bundle.initS (rsEx k)) ∈ rsTs) : ∀ w ∈ rs_at own ic k, w.before args s = true := by
  intro w hw
  obtain ⟨-, -, -, -, x1, x2, x3, x4⟩ := hU.2.2
  rcases rs_own_split hw with rfl | h | h | h
  · exact hU.1 _ hl args s hW
  · simp only [rs_four, List.mem_cons, List.not_mem_nil, or_false] at h
    rcases h with rfl | rfl | rfl | rfl
    · exact rs_Z_at hW.alike rfl hold x3 args
    · exact rs_Z_at hW.alike rfl hold x4 args
    · exact rs_L_at hW.alike hold x1 args
    · exact rs_L_at hW.alike hold x2 args
  · exact hU.1 _ h args s hW
  · exact absurd hk h
end
section
/-! 07b: new X("..") thrown: the method ends by the throw -/
theorem rs_S_exc {G : rsG} {h : rsH} {n : Nat} {H H1 : Heap} {locs : List Loc} {ce : Cell} (S : rsS G h n H locs) (z1 : H1.size = H.size + 1) (o1 : ∀ q, q < H.size → H1[q]? = H[q]?) (hvm : ce.vm = .none) : rsS G h (n + 1) (H1.setIfInBounds H.size ce) [] := by
  have hz := S.2.1
  have oq : ∀ q, q < H.size → (H1.setIfInBounds H.size ce)[q]? = H[q]? := fun q hq => by rw [Array.getElem?_setIfInBounds_ne (by omega)]; exact o1 q hq
  refine ⟨fun a x hx => (S.1 a x hx).kept (oq a (S.1 a x hx).lt), by rw [Array.size_setIfInBounds, z1, hz]; omega, fun q hq => ?_, fun q hq => (by cases hq), S.2.2.2.2.1, fun q cell hq hcell => ?_⟩
  · rw [oq q (by omega)]; exact S.2.2.1 q hq
  · by_cases h1 : q < H.size
    · rw [oq q h1] at hcell; exact S.2.2.2.2.2 q cell hq hcell
    · have h2 : q < (H1.setIfInBounds H.size ce).size := (Array.getElem?_eq_some_iff.mp hcell).1
      rw [Array.size_setIfInBounds] at h2
      have h3 : q = H.size := by omega
      subst h3
      rw [Array.getElem?_setIfInBounds_self_of_lt (by omega)] at hcell
      cases hcell
      rw [hvm]; rfl
theorem rs_bs_0 (k : Nat) : decode (rs_bs k) 0 = .ok (.aload_n 0, 1) := by
  unfold rs_bs; split <;> decide +kernel
theorem rs_bs_1 (k : Nat) : decode (rs_bs k) 1 = .ok (.aload_n 1, 1) := by
  unfold rs_bs; split <;> decide +kernel
theorem rs_bs_2 (k : Nat) : decode (rs_bs k) 2 = .ok (.invokespecial (rs_ix k), 3) := by
  unfold rs_bs rs_ix; split <;> decide +kernel
theorem rs_bs_5 (k : Nat) : decode (rs_bs k) 5 = .ok (.return_, 1) := by
  unfold rs_bs; split <;> decide +kernel
section RSTH
variable {G : rsG} {M : rsM} {rm : Room} {Q : rsR → rsH → Nat → Prop} {kc ks pc : Nat} {L : List (Option Value)} {st : List Value} {h : rsH} {n : Nat}
theorem rs_throw {k index is ic : Nat} {tx : String} (hd0 : decode M.2.1 pc = .ok (.new index, 3)) (hd3 : decode M.2.1 (pc + 3) = .ok (.dup, 1)) (hd4 : decode M.2.1 (pc + 3 + 1) = .ok (.ldc is, 2)) (hd6 : decode M.2.1 (pc + 3 + 1 + 2) = .ok (.invokespecial ic, 3)) (hd9 : decode M.2.1 (pc + 3 + 1 + 2 + 3) = .ok (.athrow, 1))
    (hk4 : k < 4) (hw1 : Cond.classLink M.1.cls index (rsEx k) ∈ rsTs) (hw2 : Cond.instantiable (rsEx k) 6 ∈ rsTs) (hw3 : Cond.initialized (rsEx k) ∈ rsTs) (hwl : Cond.methodLink M.1.cls ic (Bundle.initS (rsEx k)) ∈ rsTs) (hstr : (M.1.cls, is, tx) ∈ rsStr)
    (hout : M.2.2.2.2 = []) (hst : (st.map fun v => v.category).sum ≤ 8) (hkc : 1 ≤ kc) (hks : 6 ≤ ks) (hfr : 6 ≤ rm.frames) (hlo : 90 ≤ rm.locals) (hq : Q (.inr k) h (n + 1)) : rsV G M rm Q kc ks pc L st h n := by
  intro hU p e s m args below meth c H locs cells slots ls Cx S hc hs hls
  have hw : ∀ w ∈ rsTs, w.before args s = true := fun w hw => hU.1 w hw args s Cx.2.2.2.2.1
  intro T0 hT0 X0
  have hsz : s.heap.size ≤ H.size := by
    have h1 : s.heap.size ≤ T0.heap.size := X0.same.2.1
    rw [hT0] at h1; exact h1
  refine (?_ : W p (rsL G) e rm s m args below meth c H locs cells slots _ (F0 m pc ls st)) T0 hT0 X0
  clear X0 hT0
  obtain ⟨cC, kC, hfc, hkC, -⟩ := Cond.instantiable_spec (hw _ hw2)
  obtain ⟨q, hR⟩ := rsX_str hU Cx.2.2.2.2.1 hstr
  refine W.newcK Cx.1 Cx.2.1 Cx.2.2.2.1 (hw _ hw1) (hw _ hw2) (hw _ hw3) rfl hd0 (by omega) (by omega) hfc rfl fun H1 kC' hkC' e1 z1 o1 => ?_
  refine lv_dup Cx.1 Cx.2.1 hd3 rfl ?_
  refine va_ldcS Cx.1 Cx.2.1 Cx.2.2.2.1 hR hd4 ?_
  intro T hT X
  have X := stand_widen X (k := rm.cells) (n := rm.slots) (by omega) (by omega)
  have hex : c.exceptionTable.toList = [] := by
    have h1 := Cx.2.2.2.2.2.2.2.1
    rw [hout] at h1
    exact List.map_eq_nil_iff.mp h1
  obtain ⟨vm', ce, hcls, hvm, hsteps, hrun, hended, hWv, hsame⟩ := rs_ctorThrow X Cx.1 (rsX_tr hU X.admits) (own := M.1.cls) (cls := rsEx k) (Yn := "java/lang/RuntimeException") (names := ["java/lang/Exception"]) (ic := ic) (ix := rs_ix k) (bs := rs_bs k) Cx.2.2.2.1 (rsEx_fit hk4) (by decide +kernel) (by decide +kernel) (rs_bs_0 k) (rs_bs_1 k) (rs_bs_2 k) (rs_bs_5 k)
    (rsX_own hU Cx.2.2.2.2.1 Cx.2.2.2.2.2.2.2.2.2.1 hk4 hwl) (fun x hx cell hcell => Cx.2.2.2.2.2.2.2.2.2.2.2 _ cell (S.2.2.2.1 x hx) hcell) hfc hkC' (by rw [hT]; exact e1) hsz (msg := .ref q) rfl (g := F0 m (pc + 3 + 1 + 2) ls (.ref q :: .ref H.size :: .ref H.size :: st)) rfl (by rw [Cx.2.2.1]; exact hls.1) rfl rfl (rest := st) rfl
    (by rw [Cx.2.1]; exact hd6) (by rw [Cx.2.1]; exact hd9) (by rw [hex]; intro x hx; cases hx) (by show 1 + 4 < rm.frames; omega) (by show 2 * 0 + (1 + (st.map fun v => v.category).sum) + (13 * (1 + 2) + 42) ≤ rm.locals; omega) Cx.2.2.2.2.2.2.1
  have hheap : (((T.setVm vm').setCell H.size ce).setFrames (.throwing H.size :: below)).heap = H1.setIfInBounds H.size ce := by
    show T.heap.setIfInBounds H.size ce = _
    rw [hT]
  have hWv0 : (rsS0 G).WarmedH vm' := State.WarmedH.trans Cx.2.2.2.2.1 hWv
  refine ⟨_, hsteps, .threw H.size, hrun, hended, ⟨.inr k, h, n + 1, hq, ⟨H.size, ce, rfl, ?_, by rw [hvm]; rfl, ?_⟩, ?_, hWv0⟩, locs, ⟨Or.inr ⟨_, rfl⟩, hWv, hsame⟩, S.2.2.2.1⟩
  · rw [hheap, Array.getElem?_setIfInBounds_self_of_lt (by omega)]
  · show vm'.findClass _ = _
    rw [hWv.alike.findClass, hcls]; exact hfc
  · rw [hheap]
    exact rs_S_exc S z1 o1 hvm
end RSTH
end
section
/-! 07: calls by contract, throws that go through, catches -/
section RSCT
variable {Q : Handler → _root_.Jvm.Pre} {E : _root_.Jvm.CtlPost} {e : Env} {d : Bool} {acts : List Action} {s : State} {f : JFrame} {a : Addr}
/-- a row of the table whose class is linked at the search: it takes the object, or the search goes on -/
theorem rs_row {x : ExceptionTableEntry} {t : List ExceptionTableEntry} {c : ClassId} {cell : Cell} (hx : covers x f.pc = true) (h0 : x.catchType ≠ 0)
    (hl : s.vm.ClassLinks e.platform f.method.cls x.catchType c) (hcell : s.heap[a]? = some cell) (hobj : ∀ k, cell.vm ≠ .statics k) (hk : ∃ k, s.vm.classes[cell.cls]? = some k) (hc : ∃ k, s.vm.classes[c]? = some k) :
    Sem.wp (findHandler.go f a (x :: t)) Q E e d acts s ↔
      if s.vm.assignable cell.cls c = true then Q (.found x.handlerPc) d acts (s.setVm (s.vm.noted f.method.cls x.catchType (.cls c))) else Sem.wp (findHandler.go f a t) Q E e d acts (s.setVm (s.vm.noted f.method.cls x.catchType (.cls c))) := by
  simp only [covers] at hx
  obtain ⟨ha, ht⟩ := (resolveClass_links e.toSetting hl).op (op := VmOp.resolveClass f.method.cls x.catchType) rfl
  have hal : s.vm.Alike (s.vm.noted f.method.cls x.catchType (.cls c)) := (Vm.Alike.refl s.vm).noted _ _ _
  obtain ⟨k1, hk1⟩ := hk
  obtain ⟨k2, hk2⟩ := hc
  obtain ⟨k1', hk1', -⟩ := hal.2.2 _ _ hk1
  obtain ⟨k2', hk2', -⟩ := hal.2.2 _ _ hk2
  have hfit : (s.vm.noted f.method.cls x.catchType (.cls c)).assignable cell.cls c = s.vm.assignable cell.cls c := hal.assignable _ _
  cases hq : s.vm.assignable cell.cls c with
  | true =>
    rw [hq] at hfit
    simp [findHandler.go, hx, h0, ha, ht, hcell, hobj, hk1', hk2', hfit, VmOp.dirties, VmOp.acts]
  | false =>
    rw [hq] at hfit
    simp [findHandler.go, hx, h0, ha, ht, hcell, hobj, hk1', hk2', hfit, VmOp.dirties, VmOp.acts]
end RSCT
/-- what the search finds, and the tables that it leaves -/
def rs_finds (e : Env) (s : State) (f : JFrame) (a : Addr) (h : Handler) (vm' : Vm) : Prop :=
  ∀ (Q : Handler → _root_.Jvm.Pre) (E : _root_.Jvm.CtlPost) (d : Bool) (acts : List Action), Sem.wp (findHandler f a) Q E e d acts s ↔ Q h d acts (s.setVm vm')
theorem rs_caught {tb : Tables} {e : Env} {s target : State} {g : JFrame} {c : Code} {below : List Frame} {a : Addr} (h : At s g.method c below) {pc : Nat} {vm' : Vm}
    (hfind : rs_finds e ((s.setTop g).pushFrame (.throwing a)) g a (.found pc) vm') (hrest : Steps tb e below ((s.setVm vm').setTop { g with pc := pc, stack := [.ref a] }) target) :
    Steps tb e below ((s.setTop g).pushFrame (.throwing a)) target := by
  have key : ∀ (u : State) (r : List Frame), rs_finds e u g a (.found pc) vm' → (stepThrowing e u a (.java g :: r)).Is ((u.setVm vm').setFrames (.java { g with pc := pc, stack := [.ref a] } :: r)) [] := by
    intro u r hf
    simp only [stepThrowing, searchFrame, vmDo]
    generalize hr : Sem.go _ e false [] u = res
    obtain ⟨as, rfl, ha⟩ := Sem.eq_ok_of hr (a := Handler.found pc) (s' := u.setVm vm') (acts' := []) (by simp [hf _ _ _ _])
    exact ⟨rfl, ha⟩
  obtain ⟨hgo, hw⟩ := h.throwing a
  refine Steps.head hgo hw ?_
  rw [stepThread_throwing (frames_entered h.top _), (key _ _ hfind).1]
  obtain ⟨g₀, hg⟩ := Option.isSome_iff_exists.mp h.top
  obtain ⟨r, hr⟩ := State.topJava?_eq_some.mp hg
  have hr' : (s.setVm vm').frames = .java g₀ :: r := hr
  rw [State.setTop_of_frames _ hr'] at hrest
  have e1 : ∀ (u : State) (F F' : List Frame), ((u.setFrames F).setVm vm').setFrames F' = (u.setVm vm').setFrames F' := fun u F F' => by
    have : (u.setFrames F).setVm vm' = (u.setVm vm').setFrames F := rfl
    rw [this, State.setFrames_setFrames]
  rw [hr, List.tail_cons, State.pushFrame, e1, State.setTop_of_frames _ hr, e1]
  exact hrest
/-- which handler takes an exception of kind k that comes out of a call at pc -/
def rs_takes (M : rsM) (k : Nat) : List (Nat × Nat × Nat × Nat) → Nat → Nat → Prop
  | [], _, _ => False
  | q :: r, pc, hp => (¬ (q.1 ≤ pc ∧ pc < q.2.1) ∧ rs_takes M k r pc hp) ∨
      ((q.1 ≤ pc ∧ pc < q.2.1) ∧ q.2.2.2 ≠ 0 ∧ ((q.2.2.1 = hp ∧ Cond.classLink M.1.cls q.2.2.2 (rsEx k) ∈ rsTs) ∨ ((∃ k', rsNo k k' ∧ Cond.classLink M.1.cls q.2.2.2 (rsEx k') ∈ rsTs) ∧ rs_takes M k r pc hp)))
def rsThr (G : rsG) (M : rsM) (rm : Room) (Q : rsR → rsH → Nat → Prop) (kc ks pc : Nat) (L : List (Option Value)) (k : Nat) (h : rsH) (n : Nat) : Prop :=
  (M.2.2.2.2.all (fun q => !(decide (q.1 ≤ pc) && decide (pc < q.2.1))) = true ∧ Q (.inr k) h n) ∨ ∃ hp, rs_takes M k M.2.2.2.2 pc hp ∧ ∀ x : Nat, rsV G M rm Q kc ks hp L [.ref x] h n
theorem rs_search {G : rsG} {M : rsM} {k pc hp : Nat} {e : Env} {s0 : State} {f : JFrame} {a : Addr} {cell : Cell} (hU : rsU G) (hadm : e.platform.magicAccessors = ({} : Platform).magicAccessors) (hpc : f.pc = pc)
    (hobj : ∀ q, cell.vm ≠ .statics q) :
    ∀ (rows : List ExceptionTableEntry) (S : State), (rsS0 G).WarmedH S.vm → S.vm.findClass M.1.cls = some f.method.cls → S.heap[a]? = some cell → S.vm.findClass (rsEx k) = some cell.cls →
      rs_takes M k (rows.map fun x => (x.startPc, x.endPc, x.handlerPc, x.catchType)) pc hp →
      ∃ vm', S.WarmedH vm' ∧ ∀ (Q : Handler → _root_.Jvm.Pre) (E : _root_.Jvm.CtlPost) (d : Bool) (acts : List Action), Sem.wp (findHandler.go f a rows) Q E e d acts S ↔ Q (.found hp) d acts (S.setVm vm') := by
  intro rows
  induction rows with
  | nil => intro S _ _ _ _ ht; exact ht.elim
  | cons x r ih =>
    intro S hW hown hcell hcls ht
    have hkc : ∃ k, S.vm.classes[cell.cls]? = some k := Vm.classAt_of_findClass hcls
    rcases ht with ⟨hno, ht⟩ | ⟨hcov, h0, ht⟩
    · obtain ⟨vm', hW', hq⟩ := ih S hW hown hcell hcls ht
      refine ⟨vm', hW', fun Q E d acts => ?_⟩
      have hx : covers x f.pc = false := by
        rw [hpc]
        cases hcv : covers x pc with
        | false => rfl
        | true =>
          simp only [covers, Bool.and_eq_true, decide_eq_true_eq] at hcv
          exact absurd hcv hno
      rw [W.findHandler_go_skip hx]
      exact hq Q E d acts
    · have hx : covers x f.pc = true := by
        rw [hpc]
        simp only [covers, Bool.and_eq_true, decide_eq_true_eq]
        exact hcov
      rcases ht with ⟨hhp, hlk⟩ | ⟨⟨k', hno, hlk⟩, ht⟩
      · obtain ⟨c', hc', hcl⟩ := Cond.classLink_spec hown (hU.1 _ hlk #[] S hW) e.platform hadm
        have hce : c' = cell.cls := Option.some.inj (hc'.symm.trans hcls)
        subst hce
        obtain ⟨dk, _, _, kt, hd, _, _, _, _, hkt, _, hopen⟩ := hcl.here
        refine ⟨_, (State.WarmedH.refl S).noted hd hopen (State.rightAt_cls hcl), fun Q E d acts => ?_⟩
        rw [rs_row hx h0 hcl hcell hobj hkc ⟨_, hkt⟩, if_pos (rsX_self hU hW hcls)]
        have hhp' : x.handlerPc = hp := hhp
        rw [hhp']
      · obtain ⟨c', hc', hcl⟩ := Cond.classLink_spec hown (hU.1 _ hlk #[] S hW) e.platform hadm
        obtain ⟨dk, _, _, kt, hd, _, _, _, _, hkt, _, hopen⟩ := hcl.here
        have hWn := (State.WarmedH.refl S).noted hd hopen (State.rightAt_cls hcl)
        have hal : S.vm.Alike (S.vm.noted f.method.cls x.catchType (.cls c')) := hWn.alike
        obtain ⟨vm', hW', hq⟩ := ih (S.setVm (S.vm.noted f.method.cls x.catchType (.cls c'))) (State.WarmedH.trans hW hWn) (by show (S.vm.noted _ _ _).findClass _ = _; rw [hal.findClass]; exact hown) hcell (by show (S.vm.noted _ _ _).findClass _ = _; rw [hal.findClass]; exact hcls) ht
        refine ⟨vm', State.WarmedH.trans hWn hW', fun Q E d acts => ?_⟩
        rw [rs_row hx h0 hcl hcell hobj hkc ⟨_, hkt⟩, if_neg (by rw [rsX_no hU hW hno hcls hc']; decide)]
        exact hq Q E d acts
section RSCC
variable {G : rsG} {M M' : rsM} {rm rm' : Room} {Q Q' : rsR → rsH → Nat → Prop} {kc ks kc' ks' pc pc' : Nat} {L : List (Option Value)} {as rest : List Value} {h : rsH} {n : Nat}
theorem rs_core {len : Nat} {p : Program} {e : Env} {s : State} {m : MethodId} {args : Array Value} {below : List Frame} {meth : Method} {c : Code} {H : Heap} {locs : List Loc} {cells slots : Nat} {ls : Array Slot}
    (hK : rsK G M' rm' as h n Q') (hw : rs_word M'.1 M'.2.1 M'.2.2.1 M'.2.2.2.1 M'.2.2.2.2 ∈ rsTs) (hini : Cond.initialized M'.1.cls ∈ rsTs) (hR : rm'.frames + 1 ≤ rm.frames ∧ 8 + (M'.2.2.1 + 11) + rm'.locals ≤ rm.locals) (hkc : kc' + rm'.cells ≤ kc) (hks : ks' + rm'.slots ≤ ks) (hrest : (rest.map fun v => v.category).sum ≤ 8)
    (kr : ∀ v h' n', Q' (.inl v) h' n' → rsV G M rm Q kc' ks' (pc + len) L (v.toList ++ rest) h' n') (kt : ∀ k h' n', Q' (.inr k) h' n' → rsThr G M rm Q kc' ks' pc L k h' n')
    (hU : rsU G) (Cx : rsC G M p s m meth c) (S : rsS G h n H locs) (hc : cells + kc ≤ rm.cells) (hs : slots + ks ≤ rm.slots) (hls : rsl ls M.2.2.1 L)
    {T1 : State} (hT1 : T1.heap = H) (X1 : Stand p (rsL G) e rm s m args below meth c T1 locs cells slots) {ig : Instr} (hd : decode M.2.1 pc = .ok (ig, len)) {mk : MethodId} (hn : T1.methodNamed? M'.1 = some mk) :
    ∃ t, Steps p.tables e below (doInvoke e (T1.setTop (F0 m pc ls rest)) [] mk as.toArray).1 t ∧ rs_MQ below (rsQ G Q) args s rm.cells rm.slots (fun q => rsB G ≤ q) t := by
  have hWT : (rsS0 G).WarmedH T1.vm := State.WarmedH.trans Cx.2.2.2.2.1 X1.warmed
  have hword := hU.1 _ hw as.toArray T1 hWT
  obtain ⟨mk', methY, cY, hn', hmY, hcY, -, hlY, -⟩ := rs_is_of hword
  cases hn.symm.trans hn'
  have hS1 : rsS G h n T1.heap [] := by rw [hT1]; exact ⟨S.1, S.2.1, S.2.2.1, fun q hq => (by cases hq), S.2.2.2.2⟩
  obtain ⟨o, t, T', Lc, X', eh, ev, ⟨r, h', n', hQ', hO, hS', hW'⟩, hLc, hend⟩ := rs_back (hK hU) X1 (g := F0 m pc ls rest) rfl (by rw [Cx.2.2.1]; exact hls.1) (ig := ig) (len := len) (by rw [Cx.2.1]; exact hd) (by show 2 * 0 + (rest.map fun v => v.category).sum ≤ 8; omega) hn
    (atoms_intro fun w hw' => by rw [List.mem_singleton.mp hw']; exact hword) hmY hcY hlY (hU.1 _ hini _ T1 hWT) hR.1 hR.2 (by omega) (by omega) ⟨rfl, hS1, hWT⟩
  have S' : rsS G h' n' T'.heap (locs ++ Lc) := by
    rw [eh]
    refine ⟨hS'.1, hS'.2.1, hS'.2.2.1, fun q hq => ?_, hS'.2.2.2.2⟩
    rcases List.mem_append.mp hq with h1 | h1
    · exact S.2.2.2.1 q h1
    · exact hLc q h1
  rcases hend with ⟨v, rfl, hst⟩ | ⟨x, rfl, hst⟩
  · cases r with
    | inr k => obtain ⟨x, _, ho, _⟩ := hO; cases ho
    | inl v' =>
      have hv : Outcome.returned v = Outcome.returned v' := hO
      cases hv
      obtain ⟨t2, a2, b2⟩ := kr v h' n' hQ' hU p e s m args below meth c T'.heap (locs ++ Lc) (cells + rm'.cells) (slots + rm'.slots) ls Cx S' (by omega) (by omega) hls T' rfl X'
      exact ⟨t2, hst.trans a2, b2⟩
  · cases r with
    | inl v => have hv : Outcome.threw x = Outcome.returned v := hO; cases hv
    | inr k =>
      obtain ⟨x', cell, ho, hcell, hstat, hcls⟩ := hO
      cases ho
      rcases kt k h' n' hQ' with ⟨hout, hq⟩ | ⟨hp, htk, kk⟩
      · have hex : ∀ y ∈ c.exceptionTable.toList, covers y pc = false := by
          intro y hy
          have h1 : (y.startPc, y.endPc, y.handlerPc, y.catchType) ∈ M.2.2.2.2 := by rw [← Cx.2.2.2.2.2.2.2.1]; exact List.mem_map.mpr ⟨y, hy, rfl⟩
          have h2 := List.all_eq_true.mp hout _ h1
          rw [Bool.not_eq_true'] at h2
          exact h2
        have X'' := stand_widen X' (k := rm.cells) (n := rm.slots) (by omega) (by omega)
        obtain ⟨hwalk, hrun, hended, hWd, hsame⟩ := X''.leaveThrown x (g := F0 m pc ls rest) rfl rfl rfl hex Cx.2.2.2.2.2.2.1
        refine ⟨_, hst.trans hwalk, .threw x, hrun, hended, ⟨.inr k, h', n', hq, ⟨x, cell, rfl, ?_, hstat, ?_⟩, ?_, ?_⟩, locs ++ Lc, ⟨Or.inr ⟨x, rfl⟩, hWd, hsame⟩, S'.2.2.2.1⟩
        · show T'.heap[x]? = some cell
          rw [eh]; exact hcell
        · show T'.vm.findClass _ = _
          rw [ev]; exact hcls
        · show rsS G h' n' T'.heap []
          exact ⟨S'.1, S'.2.1, S'.2.2.1, fun q hq => (by cases hq), S'.2.2.2.2⟩
        · show (rsS0 G).WarmedH T'.vm
          rw [ev]; exact hW'
      · have hWT' : (rsS0 G).WarmedH T'.vm := by rw [ev]; exact hW'
        have hadm : e.platform.magicAccessors = ({} : Platform).magicAccessors := by rw [X'.admits.platform]
        obtain ⟨vm', hWv, hq⟩ := rs_search (G := G) (M := M) (k := k) (pc := pc) (hp := hp) (e := e) (s0 := s) (f := F0 m pc ls rest) (a := x) (cell := cell) hU hadm rfl (fun q => VmData.ne_statics_of hstat q)
          c.exceptionTable.toList ((T'.setTop (F0 m pc ls rest)).pushFrame (.throwing x)) (by rw [Stand.throwing_vm]; exact hWT') (by rw [Stand.throwing_vm, X'.warmed.alike.findClass]; exact Cx.2.2.2.1) (by rw [Stand.throwing_heap, eh]; exact hcell) (by rw [Stand.throwing_vm, ev]; exact hcls) (by rw [Cx.2.2.2.2.2.2.2.1]; exact htk)
        have hWv' : T'.WarmedH vm' := hWv
        have hWs : s.WarmedH vm' := State.WarmedH.trans X'.warmed hWv'
        obtain ⟨t2, a2, b2⟩ := kk x hU p e s m args below meth c T'.heap (locs ++ Lc) (cells + rm'.cells) (slots + rm'.slots) ls Cx S' (by omega) (by omega) hls (T'.setVm vm') rfl (X'.noted hWs)
        refine ⟨t2, hst.trans (rs_caught (vm' := vm') (pc := hp) X'.here ?_ a2), b2⟩
        intro Q1 E1 d1 acts1
        rw [W.findHandler_eq (meth := meth) (code := c) (by rw [Stand.throwing_vm]; exact X'.method') X'.code]
        exact hq Q1 E1 d1 acts1
/-- what a call asks of the tables: static, virtual on an object of class C, constructor -/
def rsCS (own : String) (index : Nat) (M' : rsM) : Prop := Cond.methodLink own index M'.1 ∈ rsTs ∧ Cond.static M'.1 ∈ rsTs ∧ Cond.initialized M'.1.cls ∈ rsTs ∧ rs_word M'.1 M'.2.1 M'.2.2.1 M'.2.2.2.1 M'.2.2.2.2 ∈ rsTs ∧ (M'.1.cls ≠ "java/lang/invoke/MethodHandle" ∧ M'.1.cls ≠ "java/lang/invoke/VarHandle")
def rsCV (own : String) (index : Nat) (ci : Nat) (M' : rsM) : Prop := ∃ (C : String) (T : u_T) (N : Nat), rsCl[ci]? = some (C, T, N) ∧ Cond.methodLink own index M'.1 ∈ rsTs ∧ Cond.instanceMethod M'.1 ∈ rsTs ∧ Cond.selects C M'.1 M'.1 ∈ rsTs ∧ Cond.initialized M'.1.cls ∈ rsTs ∧ rs_word M'.1 M'.2.1 M'.2.2.1 M'.2.2.2.1 M'.2.2.2.2 ∈ rsTs ∧ (M'.1.cls ≠ "java/lang/invoke/MethodHandle" ∧ M'.1.cls ≠ "java/lang/invoke/VarHandle")
def rsCI (own : String) (index : Nat) (M' : rsM) : Prop := M'.1.name = "<init>" ∧ M'.2.2.2.2 = [] ∧ M'.2.2.2.1 = none ∧ Cond.methodLink own index M'.1 ∈ rsTs ∧ Cond.instanceMethod M'.1 ∈ rsTs ∧ Cond.initialized M'.1.cls ∈ rsTs ∧ Cond.code M'.1 M'.2.1 M'.2.2.1 none ∈ rsTs ∧ (M'.1.cls ≠ "java/lang/invoke/MethodHandle" ∧ M'.1.cls ≠ "java/lang/invoke/VarHandle")
theorem rs_cS {index : Nat} {st : List Value} (hd : decode M.2.1 pc = .ok (.invokestatic index, 3)) (hp : pc + 3 = pc') (hC : rsCS M.1.cls index M') (hnp : (parseMethodDescriptor M'.1.desc).map (fun d => d.parameters.length) = some as.length)
    (hK : rsK G M' rm' as h n Q') (hR : rm'.frames + 1 ≤ rm.frames ∧ 8 + (M'.2.2.1 + 11) + rm'.locals ≤ rm.locals) (hk : kc' + rm'.cells ≤ kc ∧ ks' + rm'.slots ≤ ks) (hrest : (rest.map fun v => v.category).sum ≤ 8) (hst : st = as.reverse ++ rest)
    (kr : ∀ v h' n', Q' (.inl v) h' n' → rsV G M rm Q kc' ks' pc' L (v.toList ++ rest) h' n') (kt : ∀ k h' n', Q' (.inr k) h' n' → rsThr G M rm Q kc' ks' pc L k h' n') : rsV G M rm Q kc ks pc L st h n := by
  subst hp
  subst hst
  obtain ⟨w1, w2, w3, w4, hy⟩ := hC
  intro hU p e s m args below meth c H locs cells slots ls Cx S hc hs hls T hT X
  have hw : ∀ w ∈ rsTs, w.before args s = true := fun w hw => hU.1 w hw args s Cx.2.2.2.2.1
  obtain ⟨mk, methM, cM, hnamed, hmethM, -, -, -, -, -, -, hsigM⟩ := rs_is_of (hw _ w4)
  have hstatic : methM.isStatic = true := Cond.static_spec hnamed hmethM (hw _ w2)
  obtain ⟨kP, hkP, -⟩ := className_of_methodNamed hnamed
  have hinitP : kP.init = .initialized := Cond.initialized_spec (findClass_of_methodNamed hnamed) hkP (hw _ w3)
  rw [hsigM] at hnp
  obtain ⟨vm₁, X₁, hstep₁⟩ := X.invokestatic Cx.1 Cx.2.2.2.1 (hw _ w1) hnamed hmethM hstatic hkP hinitP hy (g := F0 m pc ls (as.reverse ++ rest)) rfl (argsL := as) (rest := rest) (Option.some.inj hnp).symm rfl (by rw [Cx.2.1]; exact hd)
  obtain ⟨t, a1, b1⟩ := rs_core (len := 3) hK w4 w3 hR hk.1 hk.2 hrest kr kt hU Cx S hc hs hls (T1 := T.setVm vm₁) hT X₁ hd (X₁.named hnamed)
  exact ⟨t, hstep₁ _ fun acts => by rw [doInvoke_state]; exact a1, b1⟩
theorem rs_cV {index ci b : Nat} {fs st : List Value} (hd : decode M.2.1 pc = .ok (.invokevirtual index, 3)) (hp : pc + 3 = pc') (hC : rsCV M.1.cls index ci M') (hnp : (parseMethodDescriptor M'.1.desc).map (fun d => d.parameters.length) = some as.length) (hb : h b = some (.inr (ci, fs)))
    (hK : rsK G M' rm' (.ref b :: as) h n Q') (hR : rm'.frames + 1 ≤ rm.frames ∧ 8 + (M'.2.2.1 + 11) + rm'.locals ≤ rm.locals) (hk : kc' + rm'.cells ≤ kc ∧ ks' + rm'.slots ≤ ks) (hrest : (rest.map fun v => v.category).sum ≤ 8) (hst : st = as.reverse ++ .ref b :: rest)
    (kr : ∀ v h' n', Q' (.inl v) h' n' → rsV G M rm Q kc' ks' pc' L (v.toList ++ rest) h' n') (kt : ∀ k h' n', Q' (.inr k) h' n' → rsThr G M rm Q kc' ks' pc L k h' n') : rsV G M rm Q kc ks pc L st h n := by
  subst hp
  subst hst
  obtain ⟨C, T0, N, hcl, w1, w2, w3, w5, w4, hy⟩ := hC
  intro hU p e s m args below meth c H locs cells slots ls Cx S hc hs hls T hT X
  have hw : ∀ w ∈ rsTs, w.before args s = true := fun w hw => hU.1 w hw args s Cx.2.2.2.2.1
  have hK' := va_K.moved Cx.2.2.2.2.1.alike hU.2.1
  obtain ⟨mk', methM', cM, hnamed', hmethM', -, -, -, -, -, -, hsigM⟩ := rs_is_of (hw _ w4)
  obtain ⟨mk, methM, hnamed, hmethM, hstM, habM⟩ := Cond.instanceMethod_spec (hw _ w2)
  obtain rfl : mk = mk' := Option.some.inj (hnamed.symm.trans hnamed')
  obtain rfl : methM = methM' := Option.some.inj (hmethM.symm.trans hmethM')
  obtain ⟨c2, r2, m2, q1, q2, q3, q4, kP, hkP, hkPi⟩ := Cond.selects_spec (hw _ w3)
  obtain ⟨cellB, hcB, hoB, hclB⟩ := va_recv (ws := [(b, .inr (ci, fs))]) (q0 := 0) hK' (rs_one (S.1 b _ hb)) hcl rfl
  cases hclB.symm.trans q1
  cases (State.methodFound?_of_named hnamed hy).symm.trans q2
  cases hnamed.symm.trans q3
  have hselP : selectMethod e.platform s.vm cellB.cls mk = .method mk := by rw [Launch.admits_selectMethod X.admits]; exact q4
  rw [hsigM] at hnp
  obtain ⟨vm₁, X₁, hstep₁⟩ := X.invokevirtual Cx.1 Cx.2.2.2.1 (hw _ w1) hnamed hmethM hstM hkP hkPi hy (a := b) (cell := cellB) (by rw [hT]; exact hcB)
    (fun z h => by rw [h] at hoB; cases hoB) hselP hmethM habM hkP hkPi (g := F0 m pc ls (as.reverse ++ .ref b :: rest)) rfl (argsL := as) (rest := rest) (Option.some.inj hnp).symm rfl (by rw [Cx.2.1]; exact hd)
  obtain ⟨t, a1, b1⟩ := rs_core (len := 3) hK w4 w5 hR hk.1 hk.2 hrest kr kt hU Cx S hc hs hls (T1 := T.setVm vm₁) hT X₁ hd (X₁.named hnamed)
  exact ⟨t, hstep₁ _ fun acts => by rw [doInvoke_state]; exact a1, b1⟩
theorem rs_cI {index b : Nat} {st : List Value} (hd : decode M.2.1 pc = .ok (.invokespecial index, 3)) (hp : pc + 3 = pc') (hC : rsCI M.1.cls index M') (hnp : (parseMethodDescriptor M'.1.desc).map (fun d => d.parameters.length) = some as.length)
    (hK : rsK G M' rm' (.ref b :: as) h n Q') (hR : rm'.frames + 1 ≤ rm.frames ∧ 8 + (M'.2.2.1 + 11) + rm'.locals ≤ rm.locals) (hk : kc' + rm'.cells ≤ kc ∧ ks' + rm'.slots ≤ ks) (hrest : (rest.map fun v => v.category).sum ≤ 8) (hst : st = as.reverse ++ .ref b :: rest)
    (kr : ∀ v h' n', Q' (.inl v) h' n' → rsV G M rm Q kc' ks' pc' L (v.toList ++ rest) h' n') (kt : ∀ k h' n', Q' (.inr k) h' n' → rsThr G M rm Q kc' ks' pc L k h' n') : rsV G M rm Q kc ks pc L st h n := by
  subst hp
  subst hst
  obtain ⟨hy1, hhh, hret, w1, w2, w3, w4, hy⟩ := hC
  have w5 : rs_word M'.1 M'.2.1 M'.2.2.1 M'.2.2.2.1 M'.2.2.2.2 ∈ rsTs := by rw [hhh, hret]; exact w4
  intro hU p e s m args below meth c H locs cells slots ls Cx S hc hs hls T hT X
  have hw : ∀ w ∈ rsTs, w.before args s = true := fun w hw => hU.1 w hw args s Cx.2.2.2.2.1
  obtain ⟨mk', methM', cM', hnamed', hmethM', -, -, -, -, -, -, hsigM⟩ := rs_is_of (hw _ w5)
  rw [hsigM] at hnp
  have hpl : e.platform.magicAccessors = ({} : Platform).magicAccessors := by rw [X.admits.platform]
  obtain ⟨mk, methM, cM, kP, vm₁, hnamed, hmethM, hcodeM, -, hlocalsM, -, hkP, -, hW₁, hstep₁⟩ := Steps.initColdArgs (e := e) X.here Cx.1 X.warmed hpl Cx.2.2.2.1 hy1 hy (hw _ w1) (hw _ w2) (hw _ w4) (f := F0 m pc ls (as.reverse ++ .ref b :: rest)) rfl (argsL := as) (rest := rest) (a := b) (fun sig hsig => by rw [hsigM] at hsig; cases hsig; exact (Option.some.inj hnp).symm) rfl (by rw [Cx.2.1]; exact hd)
  have X₁ := X.noted hW₁
  obtain ⟨t, a1, b1⟩ := rs_core (len := 3) hK w5 w3 hR hk.1 hk.2 hrest kr kt hU Cx S hc hs hls (T1 := T.setVm vm₁) hT X₁ hd (X₁.named hnamed)
  exact ⟨t, hstep₁ _ fun acts => by rw [doInvoke_state]; exact a1, b1⟩
end RSCC
end
section
/-! 08: the class's world -/
/-- an address is a node of the world: (0,_) the store, (1,_) the disk, (2,_) its places, (3,_) its runs of a level, (4,j) (5,j) (6,j) the entries j: object, kinds, values; j = 13: what is gathered in memory -/
def rw_nd (b a : Nat) : Nat × Nat :=
  if a < b then (9, 0) else if a = b then (0, 0) else if a < b + 4 then (4 + (a - b - 1), 13) else if a = b + 4 then (1, 0) else if a = b + 5 then (2, 0)
  else if a < b + 45 then (4 + (a - b - 6) % 3, (a - b - 6) / 3) else if a = b + 45 then (3, 0) else (9, 0)
def rw_eo (b j : Nat) : Nat := if j = 13 then b + 1 else b + 6 + 3 * j
def rw_ko (b j : Nat) : Nat := if j = 13 then b + 2 else b + 7 + 3 * j
def rw_vo (b j : Nat) : Nat := if j = 13 then b + 3 else b + 8 + 3 * j
theorem rw_nd_x (b : Nat) : rw_nd b b = (0, 0) := by simp [rw_nd]
theorem rw_nd_d (b : Nat) : rw_nd b (b + 4) = (1, 0) := by simp [rw_nd]
theorem rw_nd_p (b : Nat) : rw_nd b (b + 5) = (2, 0) := by simp [rw_nd]
theorem rw_nd_r (b : Nat) : rw_nd b (b + 45) = (3, 0) := by simp [rw_nd]
theorem rw_nd_e {b j : Nat} (h : j ≤ 13) : rw_nd b (rw_eo b j) = (4, j) := by
  unfold rw_nd rw_eo
  by_cases h1 : j = 13
  · subst h1; simp
  · rw [if_neg h1, if_neg (by omega), if_neg (by omega), if_neg (by omega), if_neg (by omega), if_neg (by omega), if_pos (by omega)]
    have e1 : (b + 6 + 3 * j - b - 6) % 3 = 0 := by omega
    have e2 : (b + 6 + 3 * j - b - 6) / 3 = j := by omega
    rw [e1, e2]
theorem rw_nd_k {b j : Nat} (h : j ≤ 13) : rw_nd b (rw_ko b j) = (5, j) := by
  unfold rw_nd rw_ko
  by_cases h1 : j = 13
  · subst h1; simp
  · rw [if_neg h1, if_neg (by omega), if_neg (by omega), if_neg (by omega), if_neg (by omega), if_neg (by omega), if_pos (by omega)]
    have e1 : (b + 7 + 3 * j - b - 6) % 3 = 1 := by omega
    have e2 : (b + 7 + 3 * j - b - 6) / 3 = j := by omega
    rw [e1, e2]
theorem rw_nd_v {b j : Nat} (h : j ≤ 13) : rw_nd b (rw_vo b j) = (6, j) := by
  unfold rw_nd rw_vo
  by_cases h1 : j = 13
  · subst h1; simp
  · rw [if_neg h1, if_neg (by omega), if_neg (by omega), if_neg (by omega), if_neg (by omega), if_neg (by omega), if_pos (by omega)]
    have e1 : (b + 8 + 3 * j - b - 6) % 3 = 2 := by omega
    have e2 : (b + 8 + 3 * j - b - 6) / 3 = j := by omega
    rw [e1, e2]
theorem rw_nd_s {b q : Nat} (h : (rw_nd b q).1 < 4) : (rw_nd b q).2 = 0 := by
  revert h
  unfold rw_nd
  repeat' split
  all_goals intro h
  all_goals first | rfl | (exfalso; simp only at h; omega)
theorem rw_nd_inj {b a a' : Nat} (h : rw_nd b a = rw_nd b a') (h9 : (rw_nd b a).1 ≠ 9) : a = a' := by
  revert h h9
  unfold rw_nd
  repeat' split
  all_goals intro h h9
  all_goals simp only [Prod.mk.injEq] at h
  all_goals first | omega | (exfalso; exact h9 rfl) | (exfalso; omega)
/-- the cell of a node -/
def rw_cell (G : rsG) (K V : Nat → Nat → Int32) (c P r : Nat → Nat) (md up wl cu : Int32) : Nat × Nat → Option va_E
  | (0, _) => some (.inr (0, [.ref (rw_eo (rsB G) 13), .ref (rsB G + 4), .int up, .int wl, .int cu]))
  | (1, _) => some (.inr (2, [.ref (rsB G + 5), .ref (rsB G + 45), .int md]))
  | (2, _) => some (.inl (G.2.2.2.2.2, 13, .inr (.inr (.inr (.inr (fun i => some (rw_eo (rsB G) (P i))))))))
  | (3, _) => some (.inl (G.2.2.2.1, 3, .inl (fun i => nI (r i))))
  | (4, j) => some (.inr (1, [.ref (rw_ko (rsB G) j), .ref (rw_vo (rsB G) j), .int (nI (c j))]))
  | (5, j) => some (.inl (G.2.2.2.1, 100, .inl (K j)))
  | (6, j) => some (.inl (G.2.2.2.1, 100, .inl (V j)))
  | _ => none
/-- the class's world, over another world -/
def rwd (G : rsG) (K V : Nat → Nat → Int32) (c P r : Nat → Nat) (md up wl cu : Int32) (hf : rsH) : rsH := fun a => match rw_cell G K V c P r md up wl cu (rw_nd (rsB G) a) with
  | some e => some e
  | none => hf a
section RSW
variable {G : rsG} {K V K' V' : Nat → Nat → Int32} {c P r c' P' r' : Nat → Nat} {md up wl cu md' up' wl' cu' : Int32} {hf : rsH}
theorem rw_at {a : Nat} {n : Nat × Nat} {e : va_E} (hn : rw_nd (rsB G) a = n) (he : rw_cell G K V c P r md up wl cu n = some e) : rwd G K V c P r md up wl cu hf a = some e := by
  unfold rwd
  rw [hn, he]
theorem rw_set {a : Nat} {n : Nat × Nat} {e : va_E} (hn : rw_nd (rsB G) a = n) (h9 : n.1 ≠ 9) (he : rw_cell G K' V' c' P' r' md' up' wl' cu' n = some e) (ho : ∀ q, q ≠ n → rw_cell G K' V' c' P' r' md' up' wl' cu' q = rw_cell G K V c P r md up wl cu q) :
    rs_up (rwd G K V c P r md up wl cu hf) a e = rwd G K' V' c' P' r' md' up' wl' cu' hf := by
  funext q
  unfold rs_up
  by_cases hq : q = a
  · subst hq
    rw [if_pos rfl]
    exact (rw_at hn he).symm
  · rw [if_neg hq]
    unfold rwd
    rw [ho]
    intro h1
    exact hq (rw_nd_inj (h1.trans hn.symm) (by rw [h1]; exact h9))
theorem rw_x : rwd G K V c P r md up wl cu hf (rsB G) = some (.inr (0, [.ref (rw_eo (rsB G) 13), .ref (rsB G + 4), .int up, .int wl, .int cu])) := rw_at (rw_nd_x _) rfl
theorem rw_d : rwd G K V c P r md up wl cu hf (rsB G + 4) = some (.inr (2, [.ref (rsB G + 5), .ref (rsB G + 45), .int md])) := rw_at (rw_nd_d _) rfl
theorem rw_p : rwd G K V c P r md up wl cu hf (rsB G + 5) = some (.inl (G.2.2.2.2.2, 13, .inr (.inr (.inr (.inr (fun i => some (rw_eo (rsB G) (P i)))))))) := rw_at (rw_nd_p _) rfl
theorem rw_r : rwd G K V c P r md up wl cu hf (rsB G + 45) = some (.inl (G.2.2.2.1, 3, .inl (fun i => nI (r i)))) := rw_at (rw_nd_r _) rfl
theorem rw_e {j : Nat} (hj : j ≤ 13) : rwd G K V c P r md up wl cu hf (rw_eo (rsB G) j) = some (.inr (1, [.ref (rw_ko (rsB G) j), .ref (rw_vo (rsB G) j), .int (nI (c j))])) := rw_at (rw_nd_e hj) rfl
theorem rw_k {j : Nat} (hj : j ≤ 13) : rwd G K V c P r md up wl cu hf (rw_ko (rsB G) j) = some (.inl (G.2.2.2.1, 100, .inl (K j))) := rw_at (rw_nd_k hj) rfl
theorem rw_v {j : Nat} (hj : j ≤ 13) : rwd G K V c P r md up wl cu hf (rw_vo (rsB G) j) = some (.inl (G.2.2.2.1, 100, .inl (V j))) := rw_at (rw_nd_v hj) rfl
theorem rw_set_x : rs_up (rwd G K V c P r md up wl cu hf) (rsB G) (.inr (0, [.ref (rw_eo (rsB G) 13), .ref (rsB G + 4), .int up', .int wl', .int cu'])) = rwd G K V c P r md up' wl' cu' hf := by
  unfold rs_up
  funext q
  by_cases hq : q = rsB G
  · subst hq; rw [if_pos rfl, rw_x]
  · rw [if_neg hq]
    unfold rwd
    have h0 : rw_nd (rsB G) q ≠ (0, 0) := fun h1 => hq (rw_nd_inj (h1.trans (rw_nd_x _).symm) (by rw [h1]; decide))
    have h1 : (rw_nd (rsB G) q).1 ≠ 0 := fun h2 => h0 (Prod.ext h2 (rw_nd_s (by rw [h2]; decide)))
    generalize rw_nd (rsB G) q = w at h1
    obtain ⟨t, j⟩ := w
    match t, h1 with
    | 1, _ => rfl
    | 2, _ => rfl
    | 3, _ => rfl
    | 4, _ => rfl
    | 5, _ => rfl
    | 6, _ => rfl
    | t + 7, _ => rfl
theorem rw_set_d : rs_up (rwd G K V c P r md up wl cu hf) (rsB G + 4) (.inr (2, [.ref (rsB G + 5), .ref (rsB G + 45), .int md'])) = rwd G K V c P r md' up wl cu hf := by
  unfold rs_up
  funext q
  by_cases hq : q = rsB G + 4
  · subst hq; rw [if_pos rfl, rw_d]
  · rw [if_neg hq]
    unfold rwd
    have h0 : rw_nd (rsB G) q ≠ (1, 0) := fun h1 => hq (rw_nd_inj (h1.trans (rw_nd_d _).symm) (by rw [h1]; decide))
    have h1 : (rw_nd (rsB G) q).1 ≠ 1 := fun h2 => h0 (Prod.ext h2 (rw_nd_s (by rw [h2]; decide)))
    generalize rw_nd (rsB G) q = w at h1
    obtain ⟨t, j⟩ := w
    match t, h1 with
    | 0, _ => rfl
    | 2, _ => rfl
    | 3, _ => rfl
    | 4, _ => rfl
    | 5, _ => rfl
    | 6, _ => rfl
    | t + 7, _ => rfl
theorem rw_set_p {i j : Nat} : rs_up (rwd G K V c P r md up wl cu hf) (rsB G + 5) (.inl (G.2.2.2.2.2, 13, .inr (.inr (.inr (.inr (va_up (fun i => some (rw_eo (rsB G) (P i))) i (some (rw_eo (rsB G) j)))))))) = rwd G K V c (va_up P i j) r md up wl cu hf := by
  have e0 : (va_up (fun i => some (rw_eo (rsB G) (P i))) i (some (rw_eo (rsB G) j))) = fun q => some (rw_eo (rsB G) (va_up P i j q)) := by
    funext q
    unfold va_up
    by_cases h : q = i
    · rw [if_pos h, if_pos h]
    · rw [if_neg h, if_neg h]
  rw [e0]
  unfold rs_up
  funext q
  by_cases hq : q = rsB G + 5
  · subst hq; rw [if_pos rfl, rw_p]
  · rw [if_neg hq]
    unfold rwd
    have h0 : rw_nd (rsB G) q ≠ (2, 0) := fun h1 => hq (rw_nd_inj (h1.trans (rw_nd_p _).symm) (by rw [h1]; decide))
    have h1 : (rw_nd (rsB G) q).1 ≠ 2 := fun h2 => h0 (Prod.ext h2 (rw_nd_s (by rw [h2]; decide)))
    generalize rw_nd (rsB G) q = w at h1
    obtain ⟨t, j⟩ := w
    match t, h1 with
    | 0, _ => rfl
    | 1, _ => rfl
    | 3, _ => rfl
    | 4, _ => rfl
    | 5, _ => rfl
    | 6, _ => rfl
    | t + 7, _ => rfl
theorem rw_set_r {i x : Nat} : rs_up (rwd G K V c P r md up wl cu hf) (rsB G + 45) (.inl (G.2.2.2.1, 3, .inl (upd (fun i => nI (r i)) i (nI x)))) = rwd G K V c P (va_up r i x) md up wl cu hf := by
  have e0 : (upd (fun i => nI (r i)) i (nI x)) = fun q => nI (va_up r i x q) := by
    funext q
    unfold upd va_up
    by_cases h : q = i
    · rw [if_pos h, if_pos h]
    · rw [if_neg h, if_neg h]
  rw [e0]
  unfold rs_up
  funext q
  by_cases hq : q = rsB G + 45
  · subst hq; rw [if_pos rfl, rw_r]
  · rw [if_neg hq]
    unfold rwd
    have h0 : rw_nd (rsB G) q ≠ (3, 0) := fun h1 => hq (rw_nd_inj (h1.trans (rw_nd_r _).symm) (by rw [h1]; decide))
    have h1 : (rw_nd (rsB G) q).1 ≠ 3 := fun h2 => h0 (Prod.ext h2 (rw_nd_s (by rw [h2]; decide)))
    generalize rw_nd (rsB G) q = w at h1
    obtain ⟨t, j⟩ := w
    match t, h1 with
    | 0, _ => rfl
    | 1, _ => rfl
    | 2, _ => rfl
    | 4, _ => rfl
    | 5, _ => rfl
    | 6, _ => rfl
    | t + 7, _ => rfl
theorem rw_set_e {j x : Nat} (hj : j ≤ 13) : rs_up (rwd G K V c P r md up wl cu hf) (rw_eo (rsB G) j) (.inr (1, [.ref (rw_ko (rsB G) j), .ref (rw_vo (rsB G) j), .int (nI x)])) = rwd G K V (va_up c j x) P r md up wl cu hf := by
  refine rw_set (rw_nd_e hj) (by simp) (by simp [rw_cell, va_up]) fun q hq => ?_
  obtain ⟨t, i⟩ := q
  match t with
  | 0 => rfl
  | 1 => rfl
  | 2 => rfl
  | 3 => rfl
  | 4 =>
    have : i ≠ j := fun h => hq (by rw [h])
    simp [rw_cell, va_up, this]
  | 5 => rfl
  | 6 => rfl
  | t + 7 => rfl
theorem rw_set_k {j : Nat} {f : Nat → Int32} (hj : j ≤ 13) : rs_up (rwd G K V c P r md up wl cu hf) (rw_ko (rsB G) j) (.inl (G.2.2.2.1, 100, .inl f)) = rwd G (va_up K j f) V c P r md up wl cu hf := by
  refine rw_set (rw_nd_k hj) (by simp) (by simp [rw_cell, va_up]) fun q hq => ?_
  obtain ⟨t, i⟩ := q
  match t with
  | 0 => rfl
  | 1 => rfl
  | 2 => rfl
  | 3 => rfl
  | 4 => rfl
  | 5 =>
    have : i ≠ j := fun h => hq (by rw [h])
    simp [rw_cell, va_up, this]
  | 6 => rfl
  | t + 7 => rfl
theorem rw_set_v {j : Nat} {f : Nat → Int32} (hj : j ≤ 13) : rs_up (rwd G K V c P r md up wl cu hf) (rw_vo (rsB G) j) (.inl (G.2.2.2.1, 100, .inl f)) = rwd G K (va_up V j f) c P r md up wl cu hf := by
  refine rw_set (rw_nd_v hj) (by simp) (by simp [rw_cell, va_up]) fun q hq => ?_
  obtain ⟨t, i⟩ := q
  match t with
  | 0 => rfl
  | 1 => rfl
  | 2 => rfl
  | 3 => rfl
  | 4 => rfl
  | 5 => rfl
  | 6 =>
    have : i ≠ j := fun h => hq (by rw [h])
    simp [rw_cell, va_up, this]
  | t + 7 => rfl
end RSW
end
section
/-! 09: rows for each field and array of the class's world (written by gen_fields.py) -/
section RSFX
variable {G : rsG} {M : rsM} {rm : Room} {Q : rsR → rsH → Nat → Prop} {kc ks pc pc' : Nat} {L : List (Option Value)} {st : List Value} {n : Nat} {K V : Nat → Nat → Int32} {c P r : Nat → Nat} {md up wl cu : Int32} {hf : rsH}
theorem rx_get_ga {index : Nat}  (hd : decode M.2.1 pc = .ok (.getfield index, 3)) (hp : pc + 3 = pc') (hF : rsF M.1.cls index 0 0) (kk : rsV G M rm Q kc ks pc' L (.ref (rw_eo (rsB G) 13) :: st) (rwd G K V c P r md up wl cu hf) n) : rsV G M rm Q kc ks pc L (.ref (rsB G) :: st) (rwd G K V c P r md up wl cu hf) n :=
  rs_getf hd hp hF rw_x rfl kk
theorem rx_get_di {index : Nat}  (hd : decode M.2.1 pc = .ok (.getfield index, 3)) (hp : pc + 3 = pc') (hF : rsF M.1.cls index 0 1) (kk : rsV G M rm Q kc ks pc' L (.ref (rsB G + 4) :: st) (rwd G K V c P r md up wl cu hf) n) : rsV G M rm Q kc ks pc L (.ref (rsB G) :: st) (rwd G K V c P r md up wl cu hf) n :=
  rs_getf hd hp hF rw_x rfl kk
theorem rx_get_up {index : Nat}  (hd : decode M.2.1 pc = .ok (.getfield index, 3)) (hp : pc + 3 = pc') (hF : rsF M.1.cls index 0 2) (kk : rsV G M rm Q kc ks pc' L (.int up :: st) (rwd G K V c P r md up wl cu hf) n) : rsV G M rm Q kc ks pc L (.ref (rsB G) :: st) (rwd G K V c P r md up wl cu hf) n :=
  rs_getf hd hp hF rw_x rfl kk
theorem rx_get_wl {index : Nat}  (hd : decode M.2.1 pc = .ok (.getfield index, 3)) (hp : pc + 3 = pc') (hF : rsF M.1.cls index 0 3) (kk : rsV G M rm Q kc ks pc' L (.int wl :: st) (rwd G K V c P r md up wl cu hf) n) : rsV G M rm Q kc ks pc L (.ref (rsB G) :: st) (rwd G K V c P r md up wl cu hf) n :=
  rs_getf hd hp hF rw_x rfl kk
theorem rx_get_cu {index : Nat}  (hd : decode M.2.1 pc = .ok (.getfield index, 3)) (hp : pc + 3 = pc') (hF : rsF M.1.cls index 0 4) (kk : rsV G M rm Q kc ks pc' L (.int cu :: st) (rwd G K V c P r md up wl cu hf) n) : rsV G M rm Q kc ks pc L (.ref (rsB G) :: st) (rwd G K V c P r md up wl cu hf) n :=
  rs_getf hd hp hF rw_x rfl kk
theorem rx_get_ki {index : Nat} {j : Nat} (hj : j ≤ 13) (hd : decode M.2.1 pc = .ok (.getfield index, 3)) (hp : pc + 3 = pc') (hF : rsF M.1.cls index 1 0) (kk : rsV G M rm Q kc ks pc' L (.ref (rw_ko (rsB G) j) :: st) (rwd G K V c P r md up wl cu hf) n) : rsV G M rm Q kc ks pc L (.ref (rw_eo (rsB G) j) :: st) (rwd G K V c P r md up wl cu hf) n :=
  rs_getf hd hp hF (rw_e hj) rfl kk
theorem rx_get_va {index : Nat} {j : Nat} (hj : j ≤ 13) (hd : decode M.2.1 pc = .ok (.getfield index, 3)) (hp : pc + 3 = pc') (hF : rsF M.1.cls index 1 1) (kk : rsV G M rm Q kc ks pc' L (.ref (rw_vo (rsB G) j) :: st) (rwd G K V c P r md up wl cu hf) n) : rsV G M rm Q kc ks pc L (.ref (rw_eo (rsB G) j) :: st) (rwd G K V c P r md up wl cu hf) n :=
  rs_getf hd hp hF (rw_e hj) rfl kk
theorem rx_get_ct {index : Nat} {j : Nat} (hj : j ≤ 13) (hd : decode M.2.1 pc = .ok (.getfield index, 3)) (hp : pc + 3 = pc') (hF : rsF M.1.cls index 1 2) (kk : rsV G M rm Q kc ks pc' L (.int (nI (c j)) :: st) (rwd G K V c P r md up wl cu hf) n) : rsV G M rm Q kc ks pc L (.ref (rw_eo (rsB G) j) :: st) (rwd G K V c P r md up wl cu hf) n :=
  rs_getf hd hp hF (rw_e hj) rfl kk
theorem rx_get_pl {index : Nat}  (hd : decode M.2.1 pc = .ok (.getfield index, 3)) (hp : pc + 3 = pc') (hF : rsF M.1.cls index 2 0) (kk : rsV G M rm Q kc ks pc' L (.ref (rsB G + 5) :: st) (rwd G K V c P r md up wl cu hf) n) : rsV G M rm Q kc ks pc L (.ref (rsB G + 4) :: st) (rwd G K V c P r md up wl cu hf) n :=
  rs_getf hd hp hF rw_d rfl kk
theorem rx_get_ro {index : Nat}  (hd : decode M.2.1 pc = .ok (.getfield index, 3)) (hp : pc + 3 = pc') (hF : rsF M.1.cls index 2 1) (kk : rsV G M rm Q kc ks pc' L (.ref (rsB G + 45) :: st) (rwd G K V c P r md up wl cu hf) n) : rsV G M rm Q kc ks pc L (.ref (rsB G + 4) :: st) (rwd G K V c P r md up wl cu hf) n :=
  rs_getf hd hp hF rw_d rfl kk
theorem rx_get_md {index : Nat}  (hd : decode M.2.1 pc = .ok (.getfield index, 3)) (hp : pc + 3 = pc') (hF : rsF M.1.cls index 2 2) (kk : rsV G M rm Q kc ks pc' L (.int md :: st) (rwd G K V c P r md up wl cu hf) n) : rsV G M rm Q kc ks pc L (.ref (rsB G + 4) :: st) (rwd G K V c P r md up wl cu hf) n :=
  rs_getf hd hp hF rw_d rfl kk
theorem rx_put_up {index : Nat} {v : Int32} (hd : decode M.2.1 pc = .ok (.putfield index, 3)) (hp : pc + 3 = pc') (hF : rsP M.1.cls index 0 2 .boolean false) (hv : narrow .boolean (.int v) = .int v) (hf' : fits .boolean (.int v) = true) (kk : rsV G M rm Q kc ks pc' L st (rwd G K V c P r md v wl cu hf) n) : rsV G M rm Q kc ks pc L (.int (v) :: .ref (rsB G) :: st) (rwd G K V c P r md up wl cu hf) n := by
  refine rs_putf hd hp hF rw_x hv hf' (Nat.lt_of_ble_eq_true rfl) (fs' := [.ref (rw_eo (rsB G) 13), .ref (rsB G + 4), .int v, .int wl, .int cu]) rfl ?_
  rw [rw_set_x]
  exact kk
theorem rx_put_wl {index : Nat} {v : Int32} (hd : decode M.2.1 pc = .ok (.putfield index, 3)) (hp : pc + 3 = pc') (hF : rsP M.1.cls index 0 3 .int false)  (kk : rsV G M rm Q kc ks pc' L st (rwd G K V c P r md up v cu hf) n) : rsV G M rm Q kc ks pc L (.int (v) :: .ref (rsB G) :: st) (rwd G K V c P r md up wl cu hf) n := by
  refine rs_putf hd hp hF rw_x rfl rfl (Nat.lt_of_ble_eq_true rfl) (fs' := [.ref (rw_eo (rsB G) 13), .ref (rsB G + 4), .int up, .int v, .int cu]) rfl ?_
  rw [rw_set_x]
  exact kk
theorem rx_put_cu {index : Nat} {v : Int32} (hd : decode M.2.1 pc = .ok (.putfield index, 3)) (hp : pc + 3 = pc') (hF : rsP M.1.cls index 0 4 .int false)  (kk : rsV G M rm Q kc ks pc' L st (rwd G K V c P r md up wl v hf) n) : rsV G M rm Q kc ks pc L (.int (v) :: .ref (rsB G) :: st) (rwd G K V c P r md up wl cu hf) n := by
  refine rs_putf hd hp hF rw_x rfl rfl (Nat.lt_of_ble_eq_true rfl) (fs' := [.ref (rw_eo (rsB G) 13), .ref (rsB G + 4), .int up, .int wl, .int v]) rfl ?_
  rw [rw_set_x]
  exact kk
theorem rx_put_ct {index : Nat} {j v : Nat} (hj : j ≤ 13) (hd : decode M.2.1 pc = .ok (.putfield index, 3)) (hp : pc + 3 = pc') (hF : rsP M.1.cls index 1 2 .int false)  (kk : rsV G M rm Q kc ks pc' L st (rwd G K V (va_up c j v) P r md up wl cu hf) n) : rsV G M rm Q kc ks pc L (.int (nI v) :: .ref (rw_eo (rsB G) j) :: st) (rwd G K V c P r md up wl cu hf) n := by
  refine rs_putf hd hp hF (rw_e hj) rfl rfl (Nat.lt_of_ble_eq_true rfl) (fs' := [.ref (rw_ko (rsB G) j), .ref (rw_vo (rsB G) j), .int (nI v)]) rfl ?_
  rw [rw_set_e hj]
  exact kk
theorem rx_put_md {index : Nat} {v : Int32} (hd : decode M.2.1 pc = .ok (.putfield index, 3)) (hp : pc + 3 = pc') (hF : rsP M.1.cls index 2 2 .boolean false) (hv : narrow .boolean (.int v) = .int v) (hf' : fits .boolean (.int v) = true) (kk : rsV G M rm Q kc ks pc' L st (rwd G K V c P r v up wl cu hf) n) : rsV G M rm Q kc ks pc L (.int (v) :: .ref (rsB G + 4) :: st) (rwd G K V c P r md up wl cu hf) n := by
  refine rs_putf hd hp hF rw_d hv hf' (Nat.lt_of_ble_eq_true rfl) (fs' := [.ref (rsB G + 5), .ref (rsB G + 45), .int v]) rfl ?_
  rw [rw_set_d]
  exact kk
theorem rx_ld_k {j i : Nat} (hj : j ≤ 13) (hi : i < 100) (hd : decode M.2.1 pc = .ok (.iaload, 1)) (hp : pc + 1 = pc') (kk : rsV G M rm Q kc ks pc' L (.int (K j i) :: st) (rwd G K V c P r md up wl cu hf) n) : rsV G M rm Q kc ks pc L (.int (nI i) :: .ref (rw_ko (rsB G) j) :: st) (rwd G K V c P r md up wl cu hf) n := rs_iald hd hp (rw_k hj) hi (by omega) kk
theorem rx_ld_v {j i : Nat} (hj : j ≤ 13) (hi : i < 100) (hd : decode M.2.1 pc = .ok (.iaload, 1)) (hp : pc + 1 = pc') (kk : rsV G M rm Q kc ks pc' L (.int (V j i) :: st) (rwd G K V c P r md up wl cu hf) n) : rsV G M rm Q kc ks pc L (.int (nI i) :: .ref (rw_vo (rsB G) j) :: st) (rwd G K V c P r md up wl cu hf) n := rs_iald hd hp (rw_v hj) hi (by omega) kk
theorem rx_ld_r {i : Nat} (hi : i < 3) (hd : decode M.2.1 pc = .ok (.iaload, 1)) (hp : pc + 1 = pc') (kk : rsV G M rm Q kc ks pc' L (.int (nI (r i)) :: st) (rwd G K V c P r md up wl cu hf) n) : rsV G M rm Q kc ks pc L (.int (nI i) :: .ref (rsB G + 45) :: st) (rwd G K V c P r md up wl cu hf) n := rs_iald hd hp rw_r hi (by omega) kk
theorem rx_ld_p {i : Nat} (hi : i < 13) (hd : decode M.2.1 pc = .ok (.aaload, 1)) (hp : pc + 1 = pc') (kk : rsV G M rm Q kc ks pc' L (.ref (rw_eo (rsB G) (P i)) :: st) (rwd G K V c P r md up wl cu hf) n) : rsV G M rm Q kc ks pc L (.int (nI i) :: .ref (rsB G + 5) :: st) (rwd G K V c P r md up wl cu hf) n := rs_aald hd hp rw_p hi (by omega) kk
theorem rx_st_k {j i : Nat} {x : Int32} (hj : j ≤ 13) (hi : i < 100) (hd : decode M.2.1 pc = .ok (.iastore, 1)) (hp : pc + 1 = pc') (kk : rsV G M rm Q kc ks pc' L st (rwd G (va_up K j (upd (K j) i x)) V c P r md up wl cu hf) n) : rsV G M rm Q kc ks pc L (.int x :: .int (nI i) :: .ref (rw_ko (rsB G) j) :: st) (rwd G K V c P r md up wl cu hf) n := by
  refine rs_iast hd hp (rw_k hj) hi (by omega) ?_
  rw [rw_set_k hj]
  exact kk
theorem rx_st_v {j i : Nat} {x : Int32} (hj : j ≤ 13) (hi : i < 100) (hd : decode M.2.1 pc = .ok (.iastore, 1)) (hp : pc + 1 = pc') (kk : rsV G M rm Q kc ks pc' L st (rwd G K (va_up V j (upd (V j) i x)) c P r md up wl cu hf) n) : rsV G M rm Q kc ks pc L (.int x :: .int (nI i) :: .ref (rw_vo (rsB G) j) :: st) (rwd G K V c P r md up wl cu hf) n := by
  refine rs_iast hd hp (rw_v hj) hi (by omega) ?_
  rw [rw_set_v hj]
  exact kk
theorem rx_st_r {i x : Nat} (hi : i < 3) (hd : decode M.2.1 pc = .ok (.iastore, 1)) (hp : pc + 1 = pc') (kk : rsV G M rm Q kc ks pc' L st (rwd G K V c P (va_up r i x) md up wl cu hf) n) : rsV G M rm Q kc ks pc L (.int (nI x) :: .int (nI i) :: .ref (rsB G + 45) :: st) (rwd G K V c P r md up wl cu hf) n := by
  refine rs_iast hd hp rw_r hi (by omega) ?_
  rw [rw_set_r]
  exact kk
theorem rx_st_p {i j : Nat} (hj : j ≤ 13) (hi : i < 13) (hd : decode M.2.1 pc = .ok (.aastore, 1)) (hp : pc + 1 = pc') (kk : rsV G M rm Q kc ks pc' L st (rwd G K V c (va_up P i j) r md up wl cu hf) n) : rsV G M rm Q kc ks pc L (.ref (rw_eo (rsB G) j) :: .int (nI i) :: .ref (rsB G + 5) :: st) (rwd G K V c P r md up wl cu hf) n := by
  refine rs_aast hd hp rw_p hi (by omega) (rw_e hj) rsCl_1 ?_
  rw [rw_set_p]
  exact kk
end RSFX
def rsOk (v : Option Value) (h : rsH) (n : Nat) : rsR → rsH → Nat → Prop := fun q h' n' => q = .inl v ∧ h' = h ∧ n' = n
def rsTh (k : Nat) (h : rsH) (n : Nat) : rsR → rsH → Nat → Prop := fun q h' n' => q = .inr k ∧ h' = h ∧ n' = n
section RSCX
variable {G : rsG} {M M' : rsM} {rm rm' : Room} {Q : rsR → rsH → Nat → Prop} {kc ks kc' ks' pc pc' : Nat} {L : List (Option Value)} {as rest : List Value} {h h' : rsH} {n n' : Nat} {v : Option Value} {k : Nat}
theorem rx_cS {index : Nat} {st : List Value} (hd : decode M.2.1 pc = .ok (.invokestatic index, 3)) (hp : pc + 3 = pc') (hC : rsCS M.1.cls index M') (hnp : (parseMethodDescriptor M'.1.desc).map (fun d => d.parameters.length) = some as.length)
    (hK : rsK G M' rm' as h n (rsOk v h' n')) (hR : rm'.frames + 1 ≤ rm.frames ∧ 8 + (M'.2.2.1 + 11) + rm'.locals ≤ rm.locals) (hk : kc' + rm'.cells ≤ kc ∧ ks' + rm'.slots ≤ ks) (hrest : (rest.map fun v => v.category).sum ≤ 8) (hst : st = as.reverse ++ rest)
    (kk : rsV G M rm Q kc' ks' pc' L (v.toList ++ rest) h' n') : rsV G M rm Q kc ks pc L st h n :=
  rs_cS hd hp hC hnp hK hR hk hrest hst (fun _ _ _ q => by obtain ⟨q1, rfl, rfl⟩ := q; cases q1; exact kk) (fun _ _ _ q => by obtain ⟨q1, -, -⟩ := q; cases q1)
theorem rx_cV {index ci b : Nat} {fs st : List Value} (hd : decode M.2.1 pc = .ok (.invokevirtual index, 3)) (hp : pc + 3 = pc') (hC : rsCV M.1.cls index ci M') (hnp : (parseMethodDescriptor M'.1.desc).map (fun d => d.parameters.length) = some as.length) (hb : h b = some (.inr (ci, fs)))
    (hK : rsK G M' rm' (.ref b :: as) h n (rsOk v h' n')) (hR : rm'.frames + 1 ≤ rm.frames ∧ 8 + (M'.2.2.1 + 11) + rm'.locals ≤ rm.locals) (hk : kc' + rm'.cells ≤ kc ∧ ks' + rm'.slots ≤ ks) (hrest : (rest.map fun v => v.category).sum ≤ 8) (hst : st = as.reverse ++ .ref b :: rest)
    (kk : rsV G M rm Q kc' ks' pc' L (v.toList ++ rest) h' n') : rsV G M rm Q kc ks pc L st h n :=
  rs_cV hd hp hC hnp hb hK hR hk hrest hst (fun _ _ _ q => by obtain ⟨q1, rfl, rfl⟩ := q; cases q1; exact kk) (fun _ _ _ q => by obtain ⟨q1, -, -⟩ := q; cases q1)
theorem rx_cI {index b : Nat} {st : List Value} (hd : decode M.2.1 pc = .ok (.invokespecial index, 3)) (hp : pc + 3 = pc') (hC : rsCI M.1.cls index M') (hnp : (parseMethodDescriptor M'.1.desc).map (fun d => d.parameters.length) = some as.length)
    (hK : rsK G M' rm' (.ref b :: as) h n (rsOk v h' n')) (hR : rm'.frames + 1 ≤ rm.frames ∧ 8 + (M'.2.2.1 + 11) + rm'.locals ≤ rm.locals) (hk : kc' + rm'.cells ≤ kc ∧ ks' + rm'.slots ≤ ks) (hrest : (rest.map fun v => v.category).sum ≤ 8) (hst : st = as.reverse ++ .ref b :: rest)
    (kk : rsV G M rm Q kc' ks' pc' L (v.toList ++ rest) h' n') : rsV G M rm Q kc ks pc L st h n :=
  rs_cI hd hp hC hnp hK hR hk hrest hst (fun _ _ _ q => by obtain ⟨q1, rfl, rfl⟩ := q; cases q1; exact kk) (fun _ _ _ q => by obtain ⟨q1, -, -⟩ := q; cases q1)
theorem rx_tS {index : Nat} {st : List Value} (hd : decode M.2.1 pc = .ok (.invokestatic index, 3)) (hC : rsCS M.1.cls index M') (hnp : (parseMethodDescriptor M'.1.desc).map (fun d => d.parameters.length) = some as.length)
    (hK : rsK G M' rm' as h n (rsTh k h' n')) (hR : rm'.frames + 1 ≤ rm.frames ∧ 8 + (M'.2.2.1 + 11) + rm'.locals ≤ rm.locals) (hk : rm'.cells ≤ kc ∧ rm'.slots ≤ ks) (hrest : (rest.map fun v => v.category).sum ≤ 8) (hst : st = as.reverse ++ rest) (hout : M.2.2.2.2 = [])
    (hq : Q (.inr k) h' n') : rsV G M rm Q kc ks pc L st h n :=
  rs_cS (kc' := 0) (ks' := 0) hd rfl hC hnp hK hR ⟨by omega, by omega⟩ hrest hst (fun _ _ _ q => by obtain ⟨q1, -, -⟩ := q; cases q1) (fun _ _ _ q => by obtain ⟨q1, rfl, rfl⟩ := q; cases q1; exact Or.inl ⟨by rw [hout]; rfl, hq⟩)
theorem rx_tV {index ci b : Nat} {fs st : List Value} (hd : decode M.2.1 pc = .ok (.invokevirtual index, 3)) (hC : rsCV M.1.cls index ci M') (hnp : (parseMethodDescriptor M'.1.desc).map (fun d => d.parameters.length) = some as.length) (hb : h b = some (.inr (ci, fs)))
    (hK : rsK G M' rm' (.ref b :: as) h n (rsTh k h' n')) (hR : rm'.frames + 1 ≤ rm.frames ∧ 8 + (M'.2.2.1 + 11) + rm'.locals ≤ rm.locals) (hk : rm'.cells ≤ kc ∧ rm'.slots ≤ ks) (hrest : (rest.map fun v => v.category).sum ≤ 8) (hst : st = as.reverse ++ .ref b :: rest) (hout : M.2.2.2.2 = [])
    (hq : Q (.inr k) h' n') : rsV G M rm Q kc ks pc L st h n :=
  rs_cV (kc' := 0) (ks' := 0) hd rfl hC hnp hb hK hR ⟨by omega, by omega⟩ hrest hst (fun _ _ _ q => by obtain ⟨q1, -, -⟩ := q; cases q1) (fun _ _ _ q => by obtain ⟨q1, rfl, rfl⟩ := q; cases q1; exact Or.inl ⟨by rw [hout]; rfl, hq⟩)
end RSCX
end
