/-! 11: what the pool says at each field, call and making (written by gen_pool.py) -/
theorem rsU_00 : ∀ w ∈ u_ws "RunStore" rsF0 5, w ∈ tables_1 ∧ rs_good w = true := by decide +kernel
theorem rsU_0 : ∀ w ∈ u_ws "RunStore" rsF0 5, w ∈ rsTs := fun w h => rs_in (List.mem_append_right _ (rsU_00 w h).1) (rsU_00 w h).2
theorem rsU_10 : ∀ w ∈ u_ws "RunStore$Entries" rsF1 3, w ∈ tables_1 ∧ rs_good w = true := by decide +kernel
theorem rsU_1 : ∀ w ∈ u_ws "RunStore$Entries" rsF1 3, w ∈ rsTs := fun w h => rs_in (List.mem_append_right _ (rsU_10 w h).1) (rsU_10 w h).2
theorem rsU_20 : ∀ w ∈ u_ws "RunStore$Disk" rsF2 3, w ∈ tables_1 ∧ rs_good w = true := by decide +kernel
theorem rsU_2 : ∀ w ∈ u_ws "RunStore$Disk" rsF2 3, w ∈ rsTs := fun w h => rs_in (List.mem_append_right _ (rsU_20 w h).1) (rsU_20 w h).2
theorem rsU_30 : ∀ w ∈ u_ws "RunStoreModel" rsF3 9, w ∈ tables_1 ∧ rs_good w = true := by decide +kernel
theorem rsU_3 : ∀ w ∈ u_ws "RunStoreModel" rsF3 9, w ∈ rsTs := fun w h => rs_in (List.mem_append_right _ (rsU_30 w h).1) (rsU_30 w h).2
theorem o_s_1 : Cond.methodLink "RunStore" 1 Lib.objectInit ∈ rsTs := rs_t 19 (by decide +kernel) (by decide +kernel)
theorem n_s_7 : rsN "RunStore" 7 1 3 [.null, .null, .int 0] := ⟨"RunStore$Entries", rsF1, rsY1, rfl, rs_t 22 (by decide +kernel) (by decide +kernel), rs_t 23 (by decide +kernel) (by decide +kernel), rs_t 2 (by decide +kernel) (by decide +kernel), rsU_1, rsY1_ok, by decide +kernel⟩
theorem c_s_9 : rsCI "RunStore" 9 M_e_init := ⟨rfl, rfl, rfl, rs_t 24 (by decide +kernel) (by decide +kernel), rs_t 25 (by decide +kernel) (by decide +kernel), rs_t 2 (by decide +kernel) (by decide +kernel), rs_t 26 (by decide +kernel) (by decide +kernel), ⟨by decide, by decide⟩⟩
theorem p_s_10 : rsP "RunStore" 10 0 0 (.object "RunStore$Entries") true := ⟨"RunStore", rsF0, 5, rsY0, rfl, by decide, rs_t 58 (by decide +kernel) (by decide +kernel), rsU_0, rsY0_ok, rsF0_nm, rfl, rfl, rfl⟩
theorem n_s_16 : rsN "RunStore" 16 2 3 [.null, .null, .int 0] := ⟨"RunStore$Disk", rsF2, rsY2, rfl, rs_t 39 (by decide +kernel) (by decide +kernel), rs_t 40 (by decide +kernel) (by decide +kernel), rs_t 3 (by decide +kernel) (by decide +kernel), rsU_2, rsY2_ok, by decide +kernel⟩
theorem c_s_18 : rsCI "RunStore" 18 M_d_init := ⟨rfl, rfl, rfl, rs_t 41 (by decide +kernel) (by decide +kernel), rs_t 42 (by decide +kernel) (by decide +kernel), rs_t 3 (by decide +kernel) (by decide +kernel), rs_t 43 (by decide +kernel) (by decide +kernel), ⟨by decide, by decide⟩⟩
theorem p_s_19 : rsP "RunStore" 19 0 1 (.object "RunStore$Disk") true := ⟨"RunStore", rsF0, 5, rsY0, rfl, by decide, rs_t 59 (by decide +kernel) (by decide +kernel), rsU_0, rsY0_ok, rsF0_nm, rfl, rfl, rfl⟩
theorem p_s_23 : rsP "RunStore" 23 0 2 .boolean false := ⟨"RunStore", rsF0, 5, rsY0, rfl, by decide, rs_t 60 (by decide +kernel) (by decide +kernel), rsU_0, rsY0_ok, rsF0_nm, rfl, rfl, rfl⟩
theorem p_s_27 : rsP "RunStore" 27 0 3 .int false := ⟨"RunStore", rsF0, 5, rsY0, rfl, by decide, rs_t 61 (by decide +kernel) (by decide +kernel), rsU_0, rsY0_ok, rsF0_nm, rfl, rfl, rfl⟩
theorem p_s_31 : rsP "RunStore" 31 0 4 .int false := ⟨"RunStore", rsF0, 5, rsY0, rfl, by decide, rs_t 62 (by decide +kernel) (by decide +kernel), rsU_0, rsY0_ok, rsF0_nm, rfl, rfl, rfl⟩
theorem o_e_3 : Cond.methodLink "RunStore$Entries" 3 Lib.objectInit ∈ rsTs := rs_t 27 (by decide +kernel) (by decide +kernel)
theorem p_e_9 : rsP "RunStore$Entries" 9 1 0 (.array .int) true := ⟨"RunStore$Entries", rsF1, 3, rsY1, rfl, by decide, rs_t 28 (by decide +kernel) (by decide +kernel), rsU_1, rsY1_ok, rsF1_nm, rfl, rfl, rfl⟩
theorem p_e_15 : rsP "RunStore$Entries" 15 1 1 (.array .int) true := ⟨"RunStore$Entries", rsF1, 3, rsY1, rfl, by decide, rs_t 29 (by decide +kernel) (by decide +kernel), rsU_1, rsY1_ok, rsF1_nm, rfl, rfl, rfl⟩
theorem p_e_18 : rsP "RunStore$Entries" 18 1 2 .int false := ⟨"RunStore$Entries", rsF1, 3, rsY1, rfl, by decide, rs_t 30 (by decide +kernel) (by decide +kernel), rsU_1, rsY1_ok, rsF1_nm, rfl, rfl, rfl⟩
theorem o_d_3 : Cond.methodLink "RunStore$Disk" 3 Lib.objectInit ∈ rsTs := rs_t 44 (by decide +kernel) (by decide +kernel)
theorem na_d_9 : Cond.classLink "RunStore$Disk" 9 "RunStore$Entries" ∈ rsTs := rs_t 45 (by decide +kernel) (by decide +kernel)
theorem p_d_11 : rsP "RunStore$Disk" 11 2 0 (.array (.object "RunStore$Entries")) true := ⟨"RunStore$Disk", rsF2, 3, rsY2, rfl, by decide, rs_t 48 (by decide +kernel) (by decide +kernel), rsU_2, rsY2_ok, rsF2_nm, rfl, rfl, rfl⟩
theorem f_d_11 : rsF "RunStore$Disk" 11 2 0 := ⟨"RunStore$Disk", rsF2, 3, rfl, by decide, rs_t 48 (by decide +kernel) (by decide +kernel), rsU_2⟩
theorem n_d_9 : rsN "RunStore$Disk" 9 1 3 [.null, .null, .int 0] := ⟨"RunStore$Entries", rsF1, rsY1, rfl, rs_t 45 (by decide +kernel) (by decide +kernel), rs_t 23 (by decide +kernel) (by decide +kernel), rs_t 2 (by decide +kernel) (by decide +kernel), rsU_1, rsY1_ok, by decide +kernel⟩
theorem c_d_17 : rsCI "RunStore$Disk" 17 M_e_init := ⟨rfl, rfl, rfl, rs_t 47 (by decide +kernel) (by decide +kernel), rs_t 25 (by decide +kernel) (by decide +kernel), rs_t 2 (by decide +kernel) (by decide +kernel), rs_t 26 (by decide +kernel) (by decide +kernel), ⟨by decide, by decide⟩⟩
theorem p_d_18 : rsP "RunStore$Disk" 18 2 1 (.array .int) true := ⟨"RunStore$Disk", rsF2, 3, rsY2, rfl, by decide, rs_t 49 (by decide +kernel) (by decide +kernel), rsU_2, rsY2_ok, rsF2_nm, rfl, rfl, rfl⟩
theorem p_d_22 : rsP "RunStore$Disk" 22 2 2 .boolean false := ⟨"RunStore$Disk", rsF2, 3, rsY2, rfl, by decide, rs_t 50 (by decide +kernel) (by decide +kernel), rsU_2, rsY2_ok, rsF2_nm, rfl, rfl, rfl⟩
theorem f_s_27 : rsF "RunStore" 27 0 3 := ⟨"RunStore", rsF0, 5, rfl, by decide, rs_t 61 (by decide +kernel) (by decide +kernel), rsU_0⟩
theorem f_s_31 : rsF "RunStore" 31 0 4 := ⟨"RunStore", rsF0, 5, rfl, by decide, rs_t 62 (by decide +kernel) (by decide +kernel), rsU_0⟩
theorem c_s_86 : rsCV "RunStore" 86 0 M_s_valueOrZero := ⟨"RunStore", rsF0, 5, rfl, rs_t 86 (by decide +kernel) (by decide +kernel), rs_t 88 (by decide +kernel) (by decide +kernel), rs_s (q := (⟨"RunStore", "valueOrZero", "(I)I"⟩, 5)) 0 (by decide +kernel), rs_t 1 (by decide +kernel) (by decide +kernel), rs_t 89 (by decide +kernel) (by decide +kernel), ⟨by decide, by decide⟩⟩
theorem c_s_179 : rsCV "RunStore" 179 0 M_s_newestWith := ⟨"RunStore", rsF0, 5, rfl, rs_t 90 (by decide +kernel) (by decide +kernel), rs_t 92 (by decide +kernel) (by decide +kernel), rs_s (q := (⟨"RunStore", "newestWith", "(I)LRunStore$Entries;"⟩, 5)) 1 (by decide +kernel), rs_t 1 (by decide +kernel) (by decide +kernel), rs_t 93 (by decide +kernel) (by decide +kernel), ⟨by decide, by decide⟩⟩
theorem c_s_186 : rsCV "RunStore" 186 1 M_e_valueAt := ⟨"RunStore$Entries", rsF1, 3, rfl, rs_t 111 (by decide +kernel) (by decide +kernel), rs_t 112 (by decide +kernel) (by decide +kernel), rs_t 113 (by decide +kernel) (by decide +kernel), rs_t 2 (by decide +kernel) (by decide +kernel), rs_t 114 (by decide +kernel) (by decide +kernel), ⟨by decide, by decide⟩⟩
theorem f_s_10 : rsF "RunStore" 10 0 0 := ⟨"RunStore", rsF0, 5, rfl, by decide, rs_t 58 (by decide +kernel) (by decide +kernel), rsU_0⟩
theorem c_s_159 : rsCV "RunStore" 159 1 M_e_holds := ⟨"RunStore$Entries", rsF1, 3, rfl, rs_t 94 (by decide +kernel) (by decide +kernel), rs_t 95 (by decide +kernel) (by decide +kernel), rs_t 96 (by decide +kernel) (by decide +kernel), rs_t 2 (by decide +kernel) (by decide +kernel), rs_t 97 (by decide +kernel) (by decide +kernel), ⟨by decide, by decide⟩⟩
theorem f_s_19 : rsF "RunStore" 19 0 1 := ⟨"RunStore", rsF0, 5, rfl, by decide, rs_t 59 (by decide +kernel) (by decide +kernel), rsU_0⟩
theorem c_s_189 : rsCV "RunStore" 189 2 M_d_newestRunWith := ⟨"RunStore$Disk", rsF2, 3, rfl, rs_t 98 (by decide +kernel) (by decide +kernel), rs_t 99 (by decide +kernel) (by decide +kernel), rs_t 100 (by decide +kernel) (by decide +kernel), rs_t 3 (by decide +kernel) (by decide +kernel), rs_t 101 (by decide +kernel) (by decide +kernel), ⟨by decide, by decide⟩⟩
theorem f_e_9 : rsF "RunStore$Entries" 9 1 0 := ⟨"RunStore$Entries", rsF1, 3, rfl, by decide, rs_t 28 (by decide +kernel) (by decide +kernel), rsU_1⟩
theorem c_d_36 : rsCV "RunStore$Disk" 36 2 M_d_countRuns := ⟨"RunStore$Disk", rsF2, 3, rfl, rs_t 102 (by decide +kernel) (by decide +kernel), rs_t 103 (by decide +kernel) (by decide +kernel), rs_t 104 (by decide +kernel) (by decide +kernel), rs_t 3 (by decide +kernel) (by decide +kernel), rs_t 105 (by decide +kernel) (by decide +kernel), ⟨by decide, by decide⟩⟩
theorem c_d_43 : rsCV "RunStore$Disk" 43 1 M_e_holds := ⟨"RunStore$Entries", rsF1, 3, rfl, rs_t 110 (by decide +kernel) (by decide +kernel), rs_t 95 (by decide +kernel) (by decide +kernel), rs_t 96 (by decide +kernel) (by decide +kernel), rs_t 2 (by decide +kernel) (by decide +kernel), rs_t 97 (by decide +kernel) (by decide +kernel), ⟨by decide, by decide⟩⟩
theorem c_d_32 : rsCV "RunStore$Disk" 32 2 M_d_firstPlaceOf := ⟨"RunStore$Disk", rsF2, 3, rfl, rs_t 106 (by decide +kernel) (by decide +kernel), rs_t 108 (by decide +kernel) (by decide +kernel), rs_s (q := (⟨"RunStore$Disk", "firstPlaceOf", "(I)I"⟩, 3)) 2 (by decide +kernel), rs_t 3 (by decide +kernel) (by decide +kernel), rs_t 109 (by decide +kernel) (by decide +kernel), ⟨by decide, by decide⟩⟩
theorem f_d_18 : rsF "RunStore$Disk" 18 2 1 := ⟨"RunStore$Disk", rsF2, 3, rfl, by decide, rs_t 49 (by decide +kernel) (by decide +kernel), rsU_2⟩
theorem f_e_15 : rsF "RunStore$Entries" 15 1 1 := ⟨"RunStore$Entries", rsF1, 3, rfl, by decide, rs_t 29 (by decide +kernel) (by decide +kernel), rsU_1⟩
theorem f_s_23 : rsF "RunStore" 23 0 2 := ⟨"RunStore", rsF0, 5, rfl, by decide, rs_t 60 (by decide +kernel) (by decide +kernel), rsU_0⟩
theorem c_s_71 : rsCV "RunStore" 71 1 M_e_count := ⟨"RunStore$Entries", rsF1, 3, rfl, rs_t 119 (by decide +kernel) (by decide +kernel), rs_t 120 (by decide +kernel) (by decide +kernel), rs_t 121 (by decide +kernel) (by decide +kernel), rs_t 2 (by decide +kernel) (by decide +kernel), rs_t 122 (by decide +kernel) (by decide +kernel), ⟨by decide, by decide⟩⟩
theorem f_e_18 : rsF "RunStore$Entries" 18 1 2 := ⟨"RunStore$Entries", rsF1, 3, rfl, by decide, rs_t 30 (by decide +kernel) (by decide +kernel), rsU_1⟩
theorem c_l_7 : rsCV "RunStoreLaw" 7 0 M_s_format := ⟨"RunStore", rsF0, 5, rfl, rs_t 127 (by decide +kernel) (by decide +kernel), rs_t 128 (by decide +kernel) (by decide +kernel), rs_t 129 (by decide +kernel) (by decide +kernel), rs_t 1 (by decide +kernel) (by decide +kernel), rs_t 130 (by decide +kernel) (by decide +kernel), ⟨by decide, by decide⟩⟩
theorem c_s_34 : rsCV "RunStore" 34 0 M_s_spendWrites := ⟨"RunStore", rsF0, 5, rfl, rs_t 131 (by decide +kernel) (by decide +kernel), rs_t 133 (by decide +kernel) (by decide +kernel), rs_s (q := (⟨"RunStore", "spendWrites", "(I)V"⟩, 5)) 3 (by decide +kernel), rs_t 1 (by decide +kernel) (by decide +kernel), rs_t 134 (by decide +kernel) (by decide +kernel), ⟨by decide, by decide⟩⟩
theorem c_s_38 : rsCV "RunStore" 38 2 M_d_makeAnew := ⟨"RunStore$Disk", rsF2, 3, rfl, rs_t 215 (by decide +kernel) (by decide +kernel), rs_t 216 (by decide +kernel) (by decide +kernel), rs_t 217 (by decide +kernel) (by decide +kernel), rs_t 3 (by decide +kernel) (by decide +kernel), rs_t 218 (by decide +kernel) (by decide +kernel), ⟨by decide, by decide⟩⟩
theorem c_s_41 : rsCV "RunStore" 41 0 M_s_comeUp := ⟨"RunStore", rsF0, 5, rfl, rs_t 220 (by decide +kernel) (by decide +kernel), rs_t 222 (by decide +kernel) (by decide +kernel), rs_s (q := (⟨"RunStore", "comeUp", "()V"⟩, 5)) 6 (by decide +kernel), rs_t 1 (by decide +kernel) (by decide +kernel), rs_t 223 (by decide +kernel) (by decide +kernel), ⟨by decide, by decide⟩⟩
theorem c_s_142 : rsCV "RunStore" 142 0 M_s_goDown := ⟨"RunStore", rsF0, 5, rfl, rs_t 135 (by decide +kernel) (by decide +kernel), rs_t 137 (by decide +kernel) (by decide +kernel), rs_s (q := (⟨"RunStore", "goDown", "()V"⟩, 5)) 4 (by decide +kernel), rs_t 1 (by decide +kernel) (by decide +kernel), rs_t 138 (by decide +kernel) (by decide +kernel), ⟨by decide, by decide⟩⟩
theorem n_s_44 : Cond.classLink "RunStore" 44 "java/lang/IllegalStateException" ∈ rsTs := rs_t 146 (by decide +kernel) (by decide +kernel)
theorem x_s_48 : Cond.methodLink "RunStore" 48 (Bundle.initS "java/lang/IllegalStateException") ∈ rsTs := rs_t 189 (by decide +kernel) (by decide +kernel)
theorem c_s_139 : rsCV "RunStore" 139 1 M_e_clear := ⟨"RunStore$Entries", rsF1, 3, rfl, rs_t 139 (by decide +kernel) (by decide +kernel), rs_t 140 (by decide +kernel) (by decide +kernel), rs_t 141 (by decide +kernel) (by decide +kernel), rs_t 2 (by decide +kernel) (by decide +kernel), rs_t 142 (by decide +kernel) (by decide +kernel), ⟨by decide, by decide⟩⟩
theorem c_e_26 : rsCS "RunStore$Entries" 26 M_a_fill := ⟨rs_t 143 (by decide +kernel) (by decide +kernel), rs_t 144 (by decide +kernel) (by decide +kernel), rs_t 5 (by decide +kernel) (by decide +kernel), rs_t 145 (by decide +kernel) (by decide +kernel), ⟨by decide, by decide⟩⟩
theorem c_d_26 : rsCS "RunStore$Disk" 26 M_a_fill := ⟨rs_t 219 (by decide +kernel) (by decide +kernel), rs_t 144 (by decide +kernel) (by decide +kernel), rs_t 5 (by decide +kernel) (by decide +kernel), rs_t 145 (by decide +kernel) (by decide +kernel), ⟨by decide, by decide⟩⟩
theorem c_l_14 : rsCV "RunStoreLaw" 14 0 M_s_recover := ⟨"RunStore", rsF0, 5, rfl, rs_t 227 (by decide +kernel) (by decide +kernel), rs_t 228 (by decide +kernel) (by decide +kernel), rs_t 229 (by decide +kernel) (by decide +kernel), rs_t 1 (by decide +kernel) (by decide +kernel), rs_t 230 (by decide +kernel) (by decide +kernel), ⟨by decide, by decide⟩⟩
theorem c_s_51 : rsCV "RunStore" 51 0 M_s_requireDisk := ⟨"RunStore", rsF0, 5, rfl, rs_t 232 (by decide +kernel) (by decide +kernel), rs_t 234 (by decide +kernel) (by decide +kernel), rs_s (q := (⟨"RunStore", "requireDisk", "()V"⟩, 5)) 7 (by decide +kernel), rs_t 1 (by decide +kernel) (by decide +kernel), rs_t 235 (by decide +kernel) (by decide +kernel), ⟨by decide, by decide⟩⟩
theorem c_s_54 : rsCV "RunStore" 54 2 M_d_countRuns := ⟨"RunStore$Disk", rsF2, 3, rfl, rs_t 241 (by decide +kernel) (by decide +kernel), rs_t 103 (by decide +kernel) (by decide +kernel), rs_t 104 (by decide +kernel) (by decide +kernel), rs_t 3 (by decide +kernel) (by decide +kernel), rs_t 105 (by decide +kernel) (by decide +kernel), ⟨by decide, by decide⟩⟩
theorem c_s_133 : rsCV "RunStore" 133 2 M_d_isMade := ⟨"RunStore$Disk", rsF2, 3, rfl, rs_t 236 (by decide +kernel) (by decide +kernel), rs_t 237 (by decide +kernel) (by decide +kernel), rs_t 238 (by decide +kernel) (by decide +kernel), rs_t 3 (by decide +kernel) (by decide +kernel), rs_t 239 (by decide +kernel) (by decide +kernel), ⟨by decide, by decide⟩⟩
theorem f_d_22 : rsF "RunStore$Disk" 22 2 2 := ⟨"RunStore$Disk", rsF2, 3, rfl, by decide, rs_t 50 (by decide +kernel) (by decide +kernel), rsU_2⟩
theorem c_l_18 : rsCV "RunStoreLaw" 18 0 M_s_put := ⟨"RunStore", rsF0, 5, rfl, rs_t 247 (by decide +kernel) (by decide +kernel), rs_t 248 (by decide +kernel) (by decide +kernel), rs_t 249 (by decide +kernel) (by decide +kernel), rs_t 1 (by decide +kernel) (by decide +kernel), rs_t 250 (by decide +kernel) (by decide +kernel), ⟨by decide, by decide⟩⟩
theorem c_s_58 : rsCS "RunStore" 58 M_s_requireKey := ⟨rs_t 251 (by decide +kernel) (by decide +kernel), rs_t 252 (by decide +kernel) (by decide +kernel), rs_t 1 (by decide +kernel) (by decide +kernel), rs_t 253 (by decide +kernel) (by decide +kernel), ⟨by decide, by decide⟩⟩
theorem c_s_61 : rsCV "RunStore" 61 0 M_s_requireUp := ⟨"RunStore", rsF0, 5, rfl, rs_t 270 (by decide +kernel) (by decide +kernel), rs_t 272 (by decide +kernel) (by decide +kernel), rs_s (q := (⟨"RunStore", "requireUp", "()V"⟩, 5)) 8 (by decide +kernel), rs_t 1 (by decide +kernel) (by decide +kernel), rs_t 273 (by decide +kernel) (by decide +kernel), ⟨by decide, by decide⟩⟩
theorem c_s_64 : rsCV "RunStore" 64 0 M_s_makePlaceInMemory := ⟨"RunStore", rsF0, 5, rfl, rs_t 275 (by decide +kernel) (by decide +kernel), rs_t 277 (by decide +kernel) (by decide +kernel), rs_s (q := (⟨"RunStore", "makePlaceInMemory", "(I)V"⟩, 5)) 9 (by decide +kernel), rs_t 1 (by decide +kernel) (by decide +kernel), rs_t 278 (by decide +kernel) (by decide +kernel), ⟨by decide, by decide⟩⟩
theorem c_s_67 : rsCV "RunStore" 67 1 M_e_setValue := ⟨"RunStore$Entries", rsF1, 3, rfl, rs_t 339 (by decide +kernel) (by decide +kernel), rs_t 340 (by decide +kernel) (by decide +kernel), rs_t 341 (by decide +kernel) (by decide +kernel), rs_t 2 (by decide +kernel) (by decide +kernel), rs_t 342 (by decide +kernel) (by decide +kernel), ⟨by decide, by decide⟩⟩
theorem n_s_102 : Cond.classLink "RunStore" 102 "java/lang/IllegalArgumentException" ∈ rsTs := rs_t 254 (by decide +kernel) (by decide +kernel)
theorem x_s_106 : Cond.methodLink "RunStore" 106 (Bundle.initS "java/lang/IllegalArgumentException") ∈ rsTs := rs_t 264 (by decide +kernel) (by decide +kernel)
theorem c_s_90 : rsCV "RunStore" 90 0 M_s_flushMemory := ⟨"RunStore", rsF0, 5, rfl, rs_t 279 (by decide +kernel) (by decide +kernel), rs_t 281 (by decide +kernel) (by decide +kernel), rs_s (q := (⟨"RunStore", "flushMemory", "()I"⟩, 5)) 10 (by decide +kernel), rs_t 1 (by decide +kernel) (by decide +kernel), rs_t 282 (by decide +kernel) (by decide +kernel), ⟨by decide, by decide⟩⟩
theorem c_s_162 : rsCV "RunStore" 162 2 M_d_draftFrom := ⟨"RunStore$Disk", rsF2, 3, rfl, rs_t 283 (by decide +kernel) (by decide +kernel), rs_t 284 (by decide +kernel) (by decide +kernel), rs_t 285 (by decide +kernel) (by decide +kernel), rs_t 3 (by decide +kernel) (by decide +kernel), rs_t 286 (by decide +kernel) (by decide +kernel), ⟨by decide, by decide⟩⟩
theorem c_s_166 : rsCV "RunStore" 166 0 M_s_writeDraft := ⟨"RunStore", rsF0, 5, rfl, rs_t 301 (by decide +kernel) (by decide +kernel), rs_t 303 (by decide +kernel) (by decide +kernel), rs_s (q := (⟨"RunStore", "writeDraft", "(Z)V"⟩, 5)) 12 (by decide +kernel), rs_t 1 (by decide +kernel) (by decide +kernel), rs_t 304 (by decide +kernel) (by decide +kernel), ⟨by decide, by decide⟩⟩
theorem c_s_170 : rsCV "RunStore" 170 2 M_d_listDraftAsFlushed := ⟨"RunStore$Disk", rsF2, 3, rfl, rs_t 331 (by decide +kernel) (by decide +kernel), rs_t 332 (by decide +kernel) (by decide +kernel), rs_t 333 (by decide +kernel) (by decide +kernel), rs_t 3 (by decide +kernel) (by decide +kernel), rs_t 334 (by decide +kernel) (by decide +kernel), ⟨by decide, by decide⟩⟩
theorem c_d_47 : rsCV "RunStore$Disk" 47 2 M_d_draft := ⟨"RunStore$Disk", rsF2, 3, rfl, rs_t 287 (by decide +kernel) (by decide +kernel), rs_t 288 (by decide +kernel) (by decide +kernel), rs_t 289 (by decide +kernel) (by decide +kernel), rs_t 3 (by decide +kernel) (by decide +kernel), rs_t 290 (by decide +kernel) (by decide +kernel), ⟨by decide, by decide⟩⟩
theorem c_d_51 : rsCV "RunStore$Disk" 51 1 M_e_clear := ⟨"RunStore$Entries", rsF1, 3, rfl, rs_t 291 (by decide +kernel) (by decide +kernel), rs_t 140 (by decide +kernel) (by decide +kernel), rs_t 141 (by decide +kernel) (by decide +kernel), rs_t 2 (by decide +kernel) (by decide +kernel), rs_t 142 (by decide +kernel) (by decide +kernel), ⟨by decide, by decide⟩⟩
theorem c_d_54 : rsCV "RunStore$Disk" 54 1 M_e_addOlder := ⟨"RunStore$Entries", rsF1, 3, rfl, rs_t 292 (by decide +kernel) (by decide +kernel), rs_t 293 (by decide +kernel) (by decide +kernel), rs_t 294 (by decide +kernel) (by decide +kernel), rs_t 2 (by decide +kernel) (by decide +kernel), rs_t 295 (by decide +kernel) (by decide +kernel), ⟨by decide, by decide⟩⟩
theorem c_e_32 : rsCV "RunStore$Entries" 32 1 M_e_holds := ⟨"RunStore$Entries", rsF1, 3, rfl, rs_t 296 (by decide +kernel) (by decide +kernel), rs_t 95 (by decide +kernel) (by decide +kernel), rs_t 96 (by decide +kernel) (by decide +kernel), rs_t 2 (by decide +kernel) (by decide +kernel), rs_t 97 (by decide +kernel) (by decide +kernel), ⟨by decide, by decide⟩⟩
theorem c_e_22 : rsCV "RunStore$Entries" 22 1 M_e_setEntry := ⟨"RunStore$Entries", rsF1, 3, rfl, rs_t 297 (by decide +kernel) (by decide +kernel), rs_t 299 (by decide +kernel) (by decide +kernel), rs_s (q := (⟨"RunStore$Entries", "setEntry", "(III)V"⟩, 3)) 11 (by decide +kernel), rs_t 2 (by decide +kernel) (by decide +kernel), rs_t 300 (by decide +kernel) (by decide +kernel), ⟨by decide, by decide⟩⟩
theorem c_s_147 : rsCV "RunStore" 147 2 M_d_draft := ⟨"RunStore$Disk", rsF2, 3, rfl, rs_t 305 (by decide +kernel) (by decide +kernel), rs_t 288 (by decide +kernel) (by decide +kernel), rs_t 289 (by decide +kernel) (by decide +kernel), rs_t 3 (by decide +kernel) (by decide +kernel), rs_t 290 (by decide +kernel) (by decide +kernel), ⟨by decide, by decide⟩⟩
theorem c_s_151 : rsCV "RunStore" 151 1 M_e_blocks := ⟨"RunStore$Entries", rsF1, 3, rfl, rs_t 306 (by decide +kernel) (by decide +kernel), rs_t 307 (by decide +kernel) (by decide +kernel), rs_t 308 (by decide +kernel) (by decide +kernel), rs_t 2 (by decide +kernel) (by decide +kernel), rs_t 309 (by decide +kernel) (by decide +kernel), ⟨by decide, by decide⟩⟩
theorem c_s_124 : rsCV "RunStore" 124 2 M_d_freeBlocks := ⟨"RunStore$Disk", rsF2, 3, rfl, rs_t 310 (by decide +kernel) (by decide +kernel), rs_t 311 (by decide +kernel) (by decide +kernel), rs_t 312 (by decide +kernel) (by decide +kernel), rs_t 3 (by decide +kernel) (by decide +kernel), rs_t 313 (by decide +kernel) (by decide +kernel), ⟨by decide, by decide⟩⟩
theorem n_s_154 : Cond.classLink "RunStore" 154 "java/lang/UnsupportedOperationException" ∈ rsTs := rs_t 315 (by decide +kernel) (by decide +kernel)
theorem x_s_158 : Cond.methodLink "RunStore" 158 (Bundle.initS "java/lang/UnsupportedOperationException") ∈ rsTs := rs_t 325 (by decide +kernel) (by decide +kernel)
theorem c_d_40 : rsCV "RunStore$Disk" 40 1 M_e_blocks := ⟨"RunStore$Entries", rsF1, 3, rfl, rs_t 314 (by decide +kernel) (by decide +kernel), rs_t 307 (by decide +kernel) (by decide +kernel), rs_t 308 (by decide +kernel) (by decide +kernel), rs_t 2 (by decide +kernel) (by decide +kernel), rs_t 309 (by decide +kernel) (by decide +kernel), ⟨by decide, by decide⟩⟩
theorem c_d_65 : rsCV "RunStore$Disk" 65 2 M_d_moveDraftTo := ⟨"RunStore$Disk", rsF2, 3, rfl, rs_t 335 (by decide +kernel) (by decide +kernel), rs_t 337 (by decide +kernel) (by decide +kernel), rs_s (q := (⟨"RunStore$Disk", "moveDraftTo", "(I)V"⟩, 3)) 13 (by decide +kernel), rs_t 3 (by decide +kernel) (by decide +kernel), rs_t 338 (by decide +kernel) (by decide +kernel), ⟨by decide, by decide⟩⟩
theorem c_l_26 : rsCV "RunStoreLaw" 26 0 M_s_remove := ⟨"RunStore", rsF0, 5, rfl, rs_t 346 (by decide +kernel) (by decide +kernel), rs_t 347 (by decide +kernel) (by decide +kernel), rs_t 348 (by decide +kernel) (by decide +kernel), rs_t 1 (by decide +kernel) (by decide +kernel), rs_t 349 (by decide +kernel) (by decide +kernel), ⟨by decide, by decide⟩⟩
theorem c_s_74 : rsCV "RunStore" 74 0 M_s_isThere := ⟨"RunStore", rsF0, 5, rfl, rs_t 350 (by decide +kernel) (by decide +kernel), rs_t 352 (by decide +kernel) (by decide +kernel), rs_s (q := (⟨"RunStore", "isThere", "(I)Z"⟩, 5)) 14 (by decide +kernel), rs_t 1 (by decide +kernel) (by decide +kernel), rs_t 353 (by decide +kernel) (by decide +kernel), ⟨by decide, by decide⟩⟩
theorem c_s_78 : rsCV "RunStore" 78 1 M_e_setMark := ⟨"RunStore$Entries", rsF1, 3, rfl, rs_t 358 (by decide +kernel) (by decide +kernel), rs_t 359 (by decide +kernel) (by decide +kernel), rs_t 360 (by decide +kernel) (by decide +kernel), rs_t 2 (by decide +kernel) (by decide +kernel), rs_t 361 (by decide +kernel) (by decide +kernel), ⟨by decide, by decide⟩⟩
theorem c_s_183 : rsCV "RunStore" 183 1 M_e_holdsValue := ⟨"RunStore$Entries", rsF1, 3, rfl, rs_t 354 (by decide +kernel) (by decide +kernel), rs_t 355 (by decide +kernel) (by decide +kernel), rs_t 356 (by decide +kernel) (by decide +kernel), rs_t 2 (by decide +kernel) (by decide +kernel), rs_t 357 (by decide +kernel) (by decide +kernel), ⟨by decide, by decide⟩⟩
theorem c_l_30 : rsCV "RunStoreLaw" 30 0 M_s_get := ⟨"RunStore", rsF0, 5, rfl, rs_t 366 (by decide +kernel) (by decide +kernel), rs_t 367 (by decide +kernel) (by decide +kernel), rs_t 368 (by decide +kernel) (by decide +kernel), rs_t 1 (by decide +kernel) (by decide +kernel), rs_t 369 (by decide +kernel) (by decide +kernel), ⟨by decide, by decide⟩⟩
theorem n_s_81 : Cond.classLink "RunStore" 81 "java/util/NoSuchElementException" ∈ rsTs := rs_t 370 (by decide +kernel) (by decide +kernel)
theorem x_s_85 : Cond.methodLink "RunStore" 85 (Bundle.initS "java/util/NoSuchElementException") ∈ rsTs := rs_t 380 (by decide +kernel) (by decide +kernel)
theorem c_l_36 : rsCV "RunStoreLaw" 36 0 M_s_has := ⟨"RunStore", rsF0, 5, rfl, rs_t 389 (by decide +kernel) (by decide +kernel), rs_t 390 (by decide +kernel) (by decide +kernel), rs_t 391 (by decide +kernel) (by decide +kernel), rs_t 1 (by decide +kernel) (by decide +kernel), rs_t 392 (by decide +kernel) (by decide +kernel), ⟨by decide, by decide⟩⟩
theorem c_l_39 : rsCV "RunStoreLaw" 39 0 M_s_flush := ⟨"RunStore", rsF0, 5, rfl, rs_t 396 (by decide +kernel) (by decide +kernel), rs_t 397 (by decide +kernel) (by decide +kernel), rs_t 398 (by decide +kernel) (by decide +kernel), rs_t 1 (by decide +kernel) (by decide +kernel), rs_t 399 (by decide +kernel) (by decide +kernel), ⟨by decide, by decide⟩⟩
theorem c_l_42 : rsCV "RunStoreLaw" 42 0 M_s_compact := ⟨"RunStore", rsF0, 5, rfl, rs_t 403 (by decide +kernel) (by decide +kernel), rs_t 404 (by decide +kernel) (by decide +kernel), rs_t 405 (by decide +kernel) (by decide +kernel), rs_t 1 (by decide +kernel) (by decide +kernel), rs_t 406 (by decide +kernel) (by decide +kernel), ⟨by decide, by decide⟩⟩
theorem c_s_93 : rsCV "RunStore" 93 0 M_s_leastLevelToCompact := ⟨"RunStore", rsF0, 5, rfl, rs_t 407 (by decide +kernel) (by decide +kernel), rs_t 409 (by decide +kernel) (by decide +kernel), rs_s (q := (⟨"RunStore", "leastLevelToCompact", "()I"⟩, 5)) 15 (by decide +kernel), rs_t 1 (by decide +kernel) (by decide +kernel), rs_t 410 (by decide +kernel) (by decide +kernel), ⟨by decide, by decide⟩⟩
theorem c_s_96 : rsCV "RunStore" 96 0 M_s_mergeLevel := ⟨"RunStore", rsF0, 5, rfl, rs_t 415 (by decide +kernel) (by decide +kernel), rs_t 417 (by decide +kernel) (by decide +kernel), rs_s (q := (⟨"RunStore", "mergeLevel", "(I)I"⟩, 5)) 16 (by decide +kernel), rs_t 1 (by decide +kernel) (by decide +kernel), rs_t 418 (by decide +kernel) (by decide +kernel), ⟨by decide, by decide⟩⟩
theorem c_s_112 : rsCV "RunStore" 112 2 M_d_countRunsOf := ⟨"RunStore$Disk", rsF2, 3, rfl, rs_t 411 (by decide +kernel) (by decide +kernel), rs_t 412 (by decide +kernel) (by decide +kernel), rs_t 413 (by decide +kernel) (by decide +kernel), rs_t 3 (by decide +kernel) (by decide +kernel), rs_t 414 (by decide +kernel) (by decide +kernel), ⟨by decide, by decide⟩⟩
theorem c_s_173 : rsCV "RunStore" 173 2 M_d_draftFromLevel := ⟨"RunStore$Disk", rsF2, 3, rfl, rs_t 419 (by decide +kernel) (by decide +kernel), rs_t 420 (by decide +kernel) (by decide +kernel), rs_t 421 (by decide +kernel) (by decide +kernel), rs_t 3 (by decide +kernel) (by decide +kernel), rs_t 422 (by decide +kernel) (by decide +kernel), ⟨by decide, by decide⟩⟩
theorem c_s_176 : rsCV "RunStore" 176 2 M_d_listDraftAsMerged := ⟨"RunStore$Disk", rsF2, 3, rfl, rs_t 431 (by decide +kernel) (by decide +kernel), rs_t 432 (by decide +kernel) (by decide +kernel), rs_t 433 (by decide +kernel) (by decide +kernel), rs_t 3 (by decide +kernel) (by decide +kernel), rs_t 434 (by decide +kernel) (by decide +kernel), ⟨by decide, by decide⟩⟩
theorem c_d_58 : rsCV "RunStore$Disk" 58 2 M_d_run := ⟨"RunStore$Disk", rsF2, 3, rfl, rs_t 423 (by decide +kernel) (by decide +kernel), rs_t 424 (by decide +kernel) (by decide +kernel), rs_t 425 (by decide +kernel) (by decide +kernel), rs_t 3 (by decide +kernel) (by decide +kernel), rs_t 426 (by decide +kernel) (by decide +kernel), ⟨by decide, by decide⟩⟩
theorem c_d_62 : rsCV "RunStore$Disk" 62 1 M_e_leaveOutMarks := ⟨"RunStore$Entries", rsF1, 3, rfl, rs_t 427 (by decide +kernel) (by decide +kernel), rs_t 428 (by decide +kernel) (by decide +kernel), rs_t 429 (by decide +kernel) (by decide +kernel), rs_t 2 (by decide +kernel) (by decide +kernel), rs_t 430 (by decide +kernel) (by decide +kernel), ⟨by decide, by decide⟩⟩
theorem c_d_69 : rsCV "RunStore$Disk" 69 1 M_e_count := ⟨"RunStore$Entries", rsF1, 3, rfl, rs_t 435 (by decide +kernel) (by decide +kernel), rs_t 120 (by decide +kernel) (by decide +kernel), rs_t 121 (by decide +kernel) (by decide +kernel), rs_t 2 (by decide +kernel) (by decide +kernel), rs_t 122 (by decide +kernel) (by decide +kernel), ⟨by decide, by decide⟩⟩
theorem c_d_72 : rsCS "RunStore$Disk" 72 M_a_min := ⟨rs_t 436 (by decide +kernel) (by decide +kernel), rs_t 437 (by decide +kernel) (by decide +kernel), rs_t 13 (by decide +kernel) (by decide +kernel), rs_t 438 (by decide +kernel) (by decide +kernel), ⟨by decide, by decide⟩⟩
theorem c_d_78 : rsCV "RunStore$Disk" 78 2 M_d_moveToDraft := ⟨"RunStore$Disk", rsF2, 3, rfl, rs_t 439 (by decide +kernel) (by decide +kernel), rs_t 441 (by decide +kernel) (by decide +kernel), rs_s (q := (⟨"RunStore$Disk", "moveToDraft", "(I)V"⟩, 3)) 17 (by decide +kernel), rs_t 3 (by decide +kernel) (by decide +kernel), rs_t 442 (by decide +kernel) (by decide +kernel), ⟨by decide, by decide⟩⟩
theorem c_l_45 : rsCV "RunStoreLaw" 45 0 M_s_merge := ⟨"RunStore", rsF0, 5, rfl, rs_t 446 (by decide +kernel) (by decide +kernel), rs_t 447 (by decide +kernel) (by decide +kernel), rs_t 448 (by decide +kernel) (by decide +kernel), rs_t 1 (by decide +kernel) (by decide +kernel), rs_t 449 (by decide +kernel) (by decide +kernel), ⟨by decide, by decide⟩⟩
theorem c_s_99 : rsCS "RunStore" 99 M_s_requireLevel := ⟨rs_t 450 (by decide +kernel) (by decide +kernel), rs_t 451 (by decide +kernel) (by decide +kernel), rs_t 1 (by decide +kernel) (by decide +kernel), rs_t 452 (by decide +kernel) (by decide +kernel), ⟨by decide, by decide⟩⟩
theorem c_s_115 : rsCS "RunStore" 115 M_s_isLevel := ⟨rs_t 453 (by decide +kernel) (by decide +kernel), rs_t 454 (by decide +kernel) (by decide +kernel), rs_t 1 (by decide +kernel) (by decide +kernel), rs_t 455 (by decide +kernel) (by decide +kernel), ⟨by decide, by decide⟩⟩
theorem c_l_48 : rsCV "RunStoreLaw" 48 0 M_s_limit := ⟨"RunStore", rsF0, 5, rfl, rs_t 460 (by decide +kernel) (by decide +kernel), rs_t 461 (by decide +kernel) (by decide +kernel), rs_t 462 (by decide +kernel) (by decide +kernel), rs_t 1 (by decide +kernel) (by decide +kernel), rs_t 463 (by decide +kernel) (by decide +kernel), ⟨by decide, by decide⟩⟩
theorem c_l_52 : rsCV "RunStoreLaw" 52 0 M_s_seek := ⟨"RunStore", rsF0, 5, rfl, rs_t 468 (by decide +kernel) (by decide +kernel), rs_t 469 (by decide +kernel) (by decide +kernel), rs_t 470 (by decide +kernel) (by decide +kernel), rs_t 1 (by decide +kernel) (by decide +kernel), rs_t 471 (by decide +kernel) (by decide +kernel), ⟨by decide, by decide⟩⟩
theorem c_s_107 : rsCV "RunStore" 107 0 M_s_leastKeyThere := ⟨"RunStore", rsF0, 5, rfl, rs_t 472 (by decide +kernel) (by decide +kernel), rs_t 474 (by decide +kernel) (by decide +kernel), rs_s (q := (⟨"RunStore", "leastKeyThere", "(I)I"⟩, 5)) 18 (by decide +kernel), rs_t 1 (by decide +kernel) (by decide +kernel), rs_t 475 (by decide +kernel) (by decide +kernel), ⟨by decide, by decide⟩⟩
theorem c_l_55 : rsCV "RunStoreLaw" 55 0 M_s_next := ⟨"RunStore", rsF0, 5, rfl, rs_t 479 (by decide +kernel) (by decide +kernel), rs_t 480 (by decide +kernel) (by decide +kernel), rs_t 481 (by decide +kernel) (by decide +kernel), rs_t 1 (by decide +kernel) (by decide +kernel), rs_t 482 (by decide +kernel) (by decide +kernel), ⟨by decide, by decide⟩⟩
theorem c_l_59 : rsCV "RunStoreLaw" 59 0 M_s_size := ⟨"RunStore", rsF0, 5, rfl, rs_t 487 (by decide +kernel) (by decide +kernel), rs_t 488 (by decide +kernel) (by decide +kernel), rs_t 489 (by decide +kernel) (by decide +kernel), rs_t 1 (by decide +kernel) (by decide +kernel), rs_t 490 (by decide +kernel) (by decide +kernel), ⟨by decide, by decide⟩⟩
theorem c_l_62 : rsCV "RunStoreLaw" 62 0 M_s_runs := ⟨"RunStore", rsF0, 5, rfl, rs_t 494 (by decide +kernel) (by decide +kernel), rs_t 495 (by decide +kernel) (by decide +kernel), rs_t 496 (by decide +kernel) (by decide +kernel), rs_t 1 (by decide +kernel) (by decide +kernel), rs_t 497 (by decide +kernel) (by decide +kernel), ⟨by decide, by decide⟩⟩
theorem c_l_65 : rsCV "RunStoreLaw" 65 0 M_s_entries := ⟨"RunStore", rsF0, 5, rfl, rs_t 501 (by decide +kernel) (by decide +kernel), rs_t 502 (by decide +kernel) (by decide +kernel), rs_t 503 (by decide +kernel) (by decide +kernel), rs_t 1 (by decide +kernel) (by decide +kernel), rs_t 504 (by decide +kernel) (by decide +kernel), ⟨by decide, by decide⟩⟩
theorem c_s_120 : rsCV "RunStore" 120 2 M_d_run := ⟨"RunStore$Disk", rsF2, 3, rfl, rs_t 506 (by decide +kernel) (by decide +kernel), rs_t 424 (by decide +kernel) (by decide +kernel), rs_t 425 (by decide +kernel) (by decide +kernel), rs_t 3 (by decide +kernel) (by decide +kernel), rs_t 426 (by decide +kernel) (by decide +kernel), ⟨by decide, by decide⟩⟩
theorem c_l_68 : rsCV "RunStoreLaw" 68 0 M_s_room := ⟨"RunStore", rsF0, 5, rfl, rs_t 510 (by decide +kernel) (by decide +kernel), rs_t 511 (by decide +kernel) (by decide +kernel), rs_t 512 (by decide +kernel) (by decide +kernel), rs_t 1 (by decide +kernel) (by decide +kernel), rs_t 513 (by decide +kernel) (by decide +kernel), ⟨by decide, by decide⟩⟩
theorem o_m_1 : Cond.methodLink "RunStoreModel" 1 Lib.objectInit ∈ rsTs := rs_t 519 (by decide +kernel) (by decide +kernel)
theorem p_m_9 : rsP "RunStoreModel" 9 3 3 .int false := ⟨"RunStoreModel", rsF3, 9, rsY3, rfl, by decide, rs_t 523 (by decide +kernel) (by decide +kernel), rsU_3, rsY3_ok, rsF3_nm, rfl, rfl, rfl⟩
theorem p_m_13 : rsP "RunStoreModel" 13 3 5 (.array .int) true := ⟨"RunStoreModel", rsF3, 9, rsY3, rfl, by decide, rs_t 525 (by decide +kernel) (by decide +kernel), rsU_3, rsY3_ok, rsF3_nm, rfl, rfl, rfl⟩
theorem p_m_17 : rsP "RunStoreModel" 17 3 6 (.array .int) true := ⟨"RunStoreModel", rsF3, 9, rsY3, rfl, by decide, rs_t 526 (by decide +kernel) (by decide +kernel), rsU_3, rsY3_ok, rsF3_nm, rfl, rfl, rfl⟩
theorem p_m_20 : rsP "RunStoreModel" 20 3 7 (.array .int) true := ⟨"RunStoreModel", rsF3, 9, rsY3, rfl, by decide, rs_t 527 (by decide +kernel) (by decide +kernel), rsU_3, rsY3_ok, rsF3_nm, rfl, rfl, rfl⟩
theorem p_m_23 : rsP "RunStoreModel" 23 3 8 .int false := ⟨"RunStoreModel", rsF3, 9, rsY3, rfl, by decide, rs_t 528 (by decide +kernel) (by decide +kernel), rsU_3, rsY3_ok, rsF3_nm, rfl, rfl, rfl⟩
theorem f_m_26 : rsF "RunStoreModel" 26 3 0 := ⟨"RunStoreModel", rsF3, 9, rfl, by decide, rs_t 520 (by decide +kernel) (by decide +kernel), rsU_3⟩
theorem c_m_61 : rsCV "RunStoreModel" 61 3 M_m_writes := ⟨"RunStoreModel", rsF3, 9, rfl, rs_t 556 (by decide +kernel) (by decide +kernel), rs_t 558 (by decide +kernel) (by decide +kernel), rs_s (q := (⟨"RunStoreModel", "writes", "(I)Z"⟩, 9)) 19 (by decide +kernel), rs_t 4 (by decide +kernel) (by decide +kernel), rs_t 559 (by decide +kernel) (by decide +kernel), ⟨by decide, by decide⟩⟩
theorem p_m_26 : rsP "RunStoreModel" 26 3 0 .int false := ⟨"RunStoreModel", rsF3, 9, rsY3, rfl, by decide, rs_t 520 (by decide +kernel) (by decide +kernel), rsU_3, rsY3_ok, rsF3_nm, rfl, rfl, rfl⟩
theorem p_m_77 : rsP "RunStoreModel" 77 3 1 .boolean false := ⟨"RunStoreModel", rsF3, 9, rsY3, rfl, by decide, rs_t 521 (by decide +kernel) (by decide +kernel), rsU_3, rsY3_ok, rsF3_nm, rfl, rfl, rfl⟩
theorem p_m_42 : rsP "RunStoreModel" 42 3 2 .boolean false := ⟨"RunStoreModel", rsF3, 9, rsY3, rfl, by decide, rs_t 522 (by decide +kernel) (by decide +kernel), rsU_3, rsY3_ok, rsF3_nm, rfl, rfl, rfl⟩
theorem p_m_29 : rsP "RunStoreModel" 29 3 4 .int false := ⟨"RunStoreModel", rsF3, 9, rsY3, rfl, by decide, rs_t 524 (by decide +kernel) (by decide +kernel), rsU_3, rsY3_ok, rsF3_nm, rfl, rfl, rfl⟩
theorem c_m_46 : rsCV "RunStoreModel" 46 3 M_m_clearRow := ⟨"RunStoreModel", rsF3, 9, rfl, rs_t 564 (by decide +kernel) (by decide +kernel), rs_t 566 (by decide +kernel) (by decide +kernel), rs_s (q := (⟨"RunStoreModel", "clearRow", "(I)V"⟩, 9)) 21 (by decide +kernel), rs_t 4 (by decide +kernel) (by decide +kernel), rs_t 567 (by decide +kernel) (by decide +kernel), ⟨by decide, by decide⟩⟩
theorem f_m_9 : rsF "RunStoreModel" 9 3 3 := ⟨"RunStoreModel", rsF3, 9, rfl, by decide, rs_t 523 (by decide +kernel) (by decide +kernel), rsU_3⟩
theorem c_m_50 : rsCV "RunStoreModel" 50 3 M_m_goDown := ⟨"RunStoreModel", rsF3, 9, rfl, rs_t 560 (by decide +kernel) (by decide +kernel), rs_t 562 (by decide +kernel) (by decide +kernel), rs_s (q := (⟨"RunStoreModel", "goDown", "()V"⟩, 9)) 20 (by decide +kernel), rs_t 4 (by decide +kernel) (by decide +kernel), rs_t 563 (by decide +kernel) (by decide +kernel), ⟨by decide, by decide⟩⟩
theorem f_m_17 : rsF "RunStoreModel" 17 3 6 := ⟨"RunStoreModel", rsF3, 9, rfl, by decide, rs_t 526 (by decide +kernel) (by decide +kernel), rsU_3⟩
theorem f_m_20 : rsF "RunStoreModel" 20 3 7 := ⟨"RunStoreModel", rsF3, 9, rfl, by decide, rs_t 527 (by decide +kernel) (by decide +kernel), rsU_3⟩
theorem f_m_42 : rsF "RunStoreModel" 42 3 2 := ⟨"RunStoreModel", rsF3, 9, rfl, by decide, rs_t 522 (by decide +kernel) (by decide +kernel), rsU_3⟩
theorem f_m_77 : rsF "RunStoreModel" 77 3 1 := ⟨"RunStoreModel", rsF3, 9, rfl, by decide, rs_t 521 (by decide +kernel) (by decide +kernel), rsU_3⟩
theorem f_m_29 : rsF "RunStoreModel" 29 3 4 := ⟨"RunStoreModel", rsF3, 9, rfl, by decide, rs_t 524 (by decide +kernel) (by decide +kernel), rsU_3⟩
theorem c_m_86 : rsCV "RunStoreModel" 86 3 M_m_enter := ⟨"RunStoreModel", rsF3, 9, rfl, rs_t 576 (by decide +kernel) (by decide +kernel), rs_t 578 (by decide +kernel) (by decide +kernel), rs_s (q := (⟨"RunStoreModel", "enter", "(III)V"⟩, 9)) 22 (by decide +kernel), rs_t 4 (by decide +kernel) (by decide +kernel), rs_t 579 (by decide +kernel) (by decide +kernel), ⟨by decide, by decide⟩⟩
theorem c_m_32 : rsCV "RunStoreModel" 32 3 M_m_sizeOf := ⟨"RunStoreModel", rsF3, 9, rfl, rs_t 583 (by decide +kernel) (by decide +kernel), rs_t 585 (by decide +kernel) (by decide +kernel), rs_s (q := (⟨"RunStoreModel", "sizeOf", "(I)I"⟩, 9)) 23 (by decide +kernel), rs_t 4 (by decide +kernel) (by decide +kernel), rs_t 586 (by decide +kernel) (by decide +kernel), ⟨by decide, by decide⟩⟩
theorem c_m_80 : rsCS "RunStoreModel" 80 M_m_isKey := ⟨rs_t 580 (by decide +kernel) (by decide +kernel), rs_t 581 (by decide +kernel) (by decide +kernel), rs_t 4 (by decide +kernel) (by decide +kernel), rs_t 582 (by decide +kernel) (by decide +kernel), ⟨by decide, by decide⟩⟩
theorem c_m_83 : rsCV "RunStoreModel" 83 3 M_m_flushed := ⟨"RunStoreModel", rsF3, 9, rfl, rs_t 587 (by decide +kernel) (by decide +kernel), rs_t 589 (by decide +kernel) (by decide +kernel), rs_s (q := (⟨"RunStoreModel", "flushed", "()I"⟩, 9)) 24 (by decide +kernel), rs_t 4 (by decide +kernel) (by decide +kernel), rs_t 590 (by decide +kernel) (by decide +kernel), ⟨by decide, by decide⟩⟩
theorem c_m_36 : rsCS "RunStoreModel" 36 M_m_blocksFor := ⟨rs_t 591 (by decide +kernel) (by decide +kernel), rs_t 592 (by decide +kernel) (by decide +kernel), rs_t 4 (by decide +kernel) (by decide +kernel), rs_t 593 (by decide +kernel) (by decide +kernel), ⟨by decide, by decide⟩⟩
theorem c_m_57 : rsCV "RunStoreModel" 57 3 M_m_freeBlocks := ⟨"RunStoreModel", rsF3, 9, rfl, rs_t 594 (by decide +kernel) (by decide +kernel), rs_t 596 (by decide +kernel) (by decide +kernel), rs_s (q := (⟨"RunStoreModel", "freeBlocks", "()I"⟩, 9)) 25 (by decide +kernel), rs_t 4 (by decide +kernel) (by decide +kernel), rs_t 597 (by decide +kernel) (by decide +kernel), ⟨by decide, by decide⟩⟩
theorem c_m_53 : rsCV "RunStoreModel" 53 3 M_m_copyRow := ⟨"RunStoreModel", rsF3, 9, rfl, rs_t 598 (by decide +kernel) (by decide +kernel), rs_t 600 (by decide +kernel) (by decide +kernel), rs_s (q := (⟨"RunStoreModel", "copyRow", "(II)V"⟩, 9)) 26 (by decide +kernel), rs_t 4 (by decide +kernel) (by decide +kernel), rs_t 601 (by decide +kernel) (by decide +kernel), ⟨by decide, by decide⟩⟩
theorem c_m_65 : rsCV "RunStoreModel" 65 3 M_m_insert := ⟨"RunStoreModel", rsF3, 9, rfl, rs_t 602 (by decide +kernel) (by decide +kernel), rs_t 604 (by decide +kernel) (by decide +kernel), rs_s (q := (⟨"RunStoreModel", "insert", "(II)V"⟩, 9)) 27 (by decide +kernel), rs_t 4 (by decide +kernel) (by decide +kernel), rs_t 605 (by decide +kernel) (by decide +kernel), ⟨by decide, by decide⟩⟩
theorem f_m_13 : rsF "RunStoreModel" 13 3 5 := ⟨"RunStoreModel", rsF3, 9, rfl, by decide, rs_t 525 (by decide +kernel) (by decide +kernel), rsU_3⟩
theorem c_m_90 : rsCV "RunStoreModel" 90 3 M_m_isThere := ⟨"RunStoreModel", rsF3, 9, rfl, rs_t 610 (by decide +kernel) (by decide +kernel), rs_t 612 (by decide +kernel) (by decide +kernel), rs_s (q := (⟨"RunStoreModel", "isThere", "(I)Z"⟩, 9)) 28 (by decide +kernel), rs_t 4 (by decide +kernel) (by decide +kernel), rs_t 613 (by decide +kernel) (by decide +kernel), ⟨by decide, by decide⟩⟩
theorem c_m_39 : rsCV "RunStoreModel" 39 3 M_m_newest := ⟨"RunStoreModel", rsF3, 9, rfl, rs_t 614 (by decide +kernel) (by decide +kernel), rs_t 616 (by decide +kernel) (by decide +kernel), rs_s (q := (⟨"RunStoreModel", "newest", "(I)I"⟩, 9)) 29 (by decide +kernel), rs_t 4 (by decide +kernel) (by decide +kernel), rs_t 617 (by decide +kernel) (by decide +kernel), ⟨by decide, by decide⟩⟩
theorem c_m_71 : rsCV "RunStoreModel" 71 3 M_m_runsOf := ⟨"RunStoreModel", rsF3, 9, rfl, rs_t 634 (by decide +kernel) (by decide +kernel), rs_t 636 (by decide +kernel) (by decide +kernel), rs_s (q := (⟨"RunStoreModel", "runsOf", "(I)I"⟩, 9)) 30 (by decide +kernel), rs_t 4 (by decide +kernel) (by decide +kernel), rs_t 637 (by decide +kernel) (by decide +kernel), ⟨by decide, by decide⟩⟩
theorem c_m_93 : rsCV "RunStoreModel" 93 3 M_m_merged := ⟨"RunStoreModel", rsF3, 9, rfl, rs_t 638 (by decide +kernel) (by decide +kernel), rs_t 640 (by decide +kernel) (by decide +kernel), rs_s (q := (⟨"RunStoreModel", "merged", "(I)I"⟩, 9)) 31 (by decide +kernel), rs_t 4 (by decide +kernel) (by decide +kernel), rs_t 641 (by decide +kernel) (by decide +kernel), ⟨by decide, by decide⟩⟩
theorem c_m_68 : rsCV "RunStoreModel" 68 3 M_m_begin := ⟨"RunStoreModel", rsF3, 9, rfl, rs_t 642 (by decide +kernel) (by decide +kernel), rs_t 644 (by decide +kernel) (by decide +kernel), rs_s (q := (⟨"RunStoreModel", "begin", "(I)I"⟩, 9)) 32 (by decide +kernel), rs_t 4 (by decide +kernel) (by decide +kernel), rs_t 645 (by decide +kernel) (by decide +kernel), ⟨by decide, by decide⟩⟩
theorem c_m_74 : rsCV "RunStoreModel" 74 3 M_m_takeOut := ⟨"RunStoreModel", rsF3, 9, rfl, rs_t 646 (by decide +kernel) (by decide +kernel), rs_t 648 (by decide +kernel) (by decide +kernel), rs_s (q := (⟨"RunStoreModel", "takeOut", "(I)V"⟩, 9)) 33 (by decide +kernel), rs_t 4 (by decide +kernel) (by decide +kernel), rs_t 649 (by decide +kernel) (by decide +kernel), ⟨by decide, by decide⟩⟩
theorem c_m_96 : rsCS "RunStoreModel" 96 M_m_isLevel := ⟨rs_t 654 (by decide +kernel) (by decide +kernel), rs_t 655 (by decide +kernel) (by decide +kernel), rs_t 4 (by decide +kernel) (by decide +kernel), rs_t 656 (by decide +kernel) (by decide +kernel), ⟨by decide, by decide⟩⟩
theorem c_m_99 : rsCV "RunStoreModel" 99 3 M_m_goTo := ⟨"RunStoreModel", rsF3, 9, rfl, rs_t 669 (by decide +kernel) (by decide +kernel), rs_t 671 (by decide +kernel) (by decide +kernel), rs_s (q := (⟨"RunStoreModel", "goTo", "(I)Z"⟩, 9)) 34 (by decide +kernel), rs_t 4 (by decide +kernel) (by decide +kernel), rs_t 672 (by decide +kernel) (by decide +kernel), ⟨by decide, by decide⟩⟩
theorem f_m_23 : rsF "RunStoreModel" 23 3 8 := ⟨"RunStoreModel", rsF3, 9, rfl, by decide, rs_t 528 (by decide +kernel) (by decide +kernel), rsU_3⟩
theorem n_l_8 : rsN "RunStoreLaw" 8 0 5 [.null, .null, .int 0, .int 0, .int 0] := ⟨"RunStore", rsF0, rsY0, rfl, rs_t 14 (by decide +kernel) (by decide +kernel), rs_t 15 (by decide +kernel) (by decide +kernel), rs_t 1 (by decide +kernel) (by decide +kernel), rsU_0, rsY0_ok, by decide +kernel⟩
theorem c_l_71 : rsCI "RunStoreLaw" 71 M_s_init := ⟨rfl, rfl, rfl, rs_t 16 (by decide +kernel) (by decide +kernel), rs_t 17 (by decide +kernel) (by decide +kernel), rs_t 1 (by decide +kernel) (by decide +kernel), rs_t 18 (by decide +kernel) (by decide +kernel), ⟨by decide, by decide⟩⟩
theorem n_l_72 : rsN "RunStoreLaw" 72 3 9 [.int 0, .int 0, .int 0, .int 0, .int 0, .null, .null, .null, .int 0] := ⟨"RunStoreModel", rsF3, rsY3, rfl, rs_t 514 (by decide +kernel) (by decide +kernel), rs_t 515 (by decide +kernel) (by decide +kernel), rs_t 4 (by decide +kernel) (by decide +kernel), rsU_3, rsY3_ok, by decide +kernel⟩
theorem c_l_74 : rsCI "RunStoreLaw" 74 M_m_init := ⟨rfl, rfl, rfl, rs_t 516 (by decide +kernel) (by decide +kernel), rs_t 517 (by decide +kernel) (by decide +kernel), rs_t 4 (by decide +kernel) (by decide +kernel), rs_t 518 (by decide +kernel) (by decide +kernel), ⟨by decide, by decide⟩⟩
theorem c_l_75 : rsCS "RunStoreLaw" 75 M_l_format := ⟨rs_t 123 (by decide +kernel) (by decide +kernel), rs_t 124 (by decide +kernel) (by decide +kernel), rs_t 0 (by decide +kernel) (by decide +kernel), rs_t 125 (by decide +kernel) (by decide +kernel), ⟨by decide, by decide⟩⟩
theorem c_l_80 : rsCV "RunStoreLaw" 80 3 M_m_format := ⟨"RunStoreModel", rsF3, 9, rfl, rs_t 552 (by decide +kernel) (by decide +kernel), rs_t 553 (by decide +kernel) (by decide +kernel), rs_t 554 (by decide +kernel) (by decide +kernel), rs_t 4 (by decide +kernel) (by decide +kernel), rs_t 555 (by decide +kernel) (by decide +kernel), ⟨by decide, by decide⟩⟩
theorem c_l_81 : rsCV "RunStoreLaw" 81 3 M_m_thrown := ⟨"RunStoreModel", rsF3, 9, rfl, rs_t 548 (by decide +kernel) (by decide +kernel), rs_t 549 (by decide +kernel) (by decide +kernel), rs_t 550 (by decide +kernel) (by decide +kernel), rs_t 4 (by decide +kernel) (by decide +kernel), rs_t 551 (by decide +kernel) (by decide +kernel), ⟨by decide, by decide⟩⟩
theorem c_l_84 : rsCS "RunStoreLaw" 84 M_l_recover := ⟨rs_t 224 (by decide +kernel) (by decide +kernel), rs_t 225 (by decide +kernel) (by decide +kernel), rs_t 0 (by decide +kernel) (by decide +kernel), rs_t 226 (by decide +kernel) (by decide +kernel), ⟨by decide, by decide⟩⟩
theorem c_l_87 : rsCV "RunStoreLaw" 87 3 M_m_recover := ⟨"RunStoreModel", rsF3, 9, rfl, rs_t 568 (by decide +kernel) (by decide +kernel), rs_t 569 (by decide +kernel) (by decide +kernel), rs_t 570 (by decide +kernel) (by decide +kernel), rs_t 4 (by decide +kernel) (by decide +kernel), rs_t 571 (by decide +kernel) (by decide +kernel), ⟨by decide, by decide⟩⟩
theorem c_l_88 : rsCS "RunStoreLaw" 88 M_l_put := ⟨rs_t 242 (by decide +kernel) (by decide +kernel), rs_t 243 (by decide +kernel) (by decide +kernel), rs_t 0 (by decide +kernel) (by decide +kernel), rs_t 244 (by decide +kernel) (by decide +kernel), ⟨by decide, by decide⟩⟩
theorem c_l_91 : rsCV "RunStoreLaw" 91 3 M_m_put := ⟨"RunStoreModel", rsF3, 9, rfl, rs_t 572 (by decide +kernel) (by decide +kernel), rs_t 573 (by decide +kernel) (by decide +kernel), rs_t 574 (by decide +kernel) (by decide +kernel), rs_t 4 (by decide +kernel) (by decide +kernel), rs_t 575 (by decide +kernel) (by decide +kernel), ⟨by decide, by decide⟩⟩
theorem c_l_92 : rsCS "RunStoreLaw" 92 M_l_remove := ⟨rs_t 343 (by decide +kernel) (by decide +kernel), rs_t 344 (by decide +kernel) (by decide +kernel), rs_t 0 (by decide +kernel) (by decide +kernel), rs_t 345 (by decide +kernel) (by decide +kernel), ⟨by decide, by decide⟩⟩
theorem c_l_95 : rsCV "RunStoreLaw" 95 3 M_m_remove := ⟨"RunStoreModel", rsF3, 9, rfl, rs_t 606 (by decide +kernel) (by decide +kernel), rs_t 607 (by decide +kernel) (by decide +kernel), rs_t 608 (by decide +kernel) (by decide +kernel), rs_t 4 (by decide +kernel) (by decide +kernel), rs_t 609 (by decide +kernel) (by decide +kernel), ⟨by decide, by decide⟩⟩
theorem c_l_96 : rsCS "RunStoreLaw" 96 M_l_get := ⟨rs_t 362 (by decide +kernel) (by decide +kernel), rs_t 363 (by decide +kernel) (by decide +kernel), rs_t 0 (by decide +kernel) (by decide +kernel), rs_t 364 (by decide +kernel) (by decide +kernel), ⟨by decide, by decide⟩⟩
theorem c_l_98 : rsCV "RunStoreLaw" 98 3 M_m_get := ⟨"RunStoreModel", rsF3, 9, rfl, rs_t 618 (by decide +kernel) (by decide +kernel), rs_t 619 (by decide +kernel) (by decide +kernel), rs_t 620 (by decide +kernel) (by decide +kernel), rs_t 4 (by decide +kernel) (by decide +kernel), rs_t 621 (by decide +kernel) (by decide +kernel), ⟨by decide, by decide⟩⟩
theorem c_l_99 : rsCS "RunStoreLaw" 99 M_l_has := ⟨rs_t 386 (by decide +kernel) (by decide +kernel), rs_t 387 (by decide +kernel) (by decide +kernel), rs_t 0 (by decide +kernel) (by decide +kernel), rs_t 388 (by decide +kernel) (by decide +kernel), ⟨by decide, by decide⟩⟩
theorem c_l_101 : rsCV "RunStoreLaw" 101 3 M_m_has := ⟨"RunStoreModel", rsF3, 9, rfl, rs_t 622 (by decide +kernel) (by decide +kernel), rs_t 623 (by decide +kernel) (by decide +kernel), rs_t 624 (by decide +kernel) (by decide +kernel), rs_t 4 (by decide +kernel) (by decide +kernel), rs_t 625 (by decide +kernel) (by decide +kernel), ⟨by decide, by decide⟩⟩
theorem c_l_102 : rsCS "RunStoreLaw" 102 M_l_flush := ⟨rs_t 393 (by decide +kernel) (by decide +kernel), rs_t 394 (by decide +kernel) (by decide +kernel), rs_t 0 (by decide +kernel) (by decide +kernel), rs_t 395 (by decide +kernel) (by decide +kernel), ⟨by decide, by decide⟩⟩
theorem c_l_104 : rsCV "RunStoreLaw" 104 3 M_m_flush := ⟨"RunStoreModel", rsF3, 9, rfl, rs_t 626 (by decide +kernel) (by decide +kernel), rs_t 627 (by decide +kernel) (by decide +kernel), rs_t 628 (by decide +kernel) (by decide +kernel), rs_t 4 (by decide +kernel) (by decide +kernel), rs_t 629 (by decide +kernel) (by decide +kernel), ⟨by decide, by decide⟩⟩
theorem c_l_105 : rsCS "RunStoreLaw" 105 M_l_compact := ⟨rs_t 400 (by decide +kernel) (by decide +kernel), rs_t 401 (by decide +kernel) (by decide +kernel), rs_t 0 (by decide +kernel) (by decide +kernel), rs_t 402 (by decide +kernel) (by decide +kernel), ⟨by decide, by decide⟩⟩
theorem c_l_107 : rsCV "RunStoreLaw" 107 3 M_m_compact := ⟨"RunStoreModel", rsF3, 9, rfl, rs_t 630 (by decide +kernel) (by decide +kernel), rs_t 631 (by decide +kernel) (by decide +kernel), rs_t 632 (by decide +kernel) (by decide +kernel), rs_t 4 (by decide +kernel) (by decide +kernel), rs_t 633 (by decide +kernel) (by decide +kernel), ⟨by decide, by decide⟩⟩
theorem c_l_108 : rsCS "RunStoreLaw" 108 M_l_merge := ⟨rs_t 443 (by decide +kernel) (by decide +kernel), rs_t 444 (by decide +kernel) (by decide +kernel), rs_t 0 (by decide +kernel) (by decide +kernel), rs_t 445 (by decide +kernel) (by decide +kernel), ⟨by decide, by decide⟩⟩
theorem c_l_110 : rsCV "RunStoreLaw" 110 3 M_m_merge := ⟨"RunStoreModel", rsF3, 9, rfl, rs_t 650 (by decide +kernel) (by decide +kernel), rs_t 651 (by decide +kernel) (by decide +kernel), rs_t 652 (by decide +kernel) (by decide +kernel), rs_t 4 (by decide +kernel) (by decide +kernel), rs_t 653 (by decide +kernel) (by decide +kernel), ⟨by decide, by decide⟩⟩
theorem c_l_111 : rsCS "RunStoreLaw" 111 M_l_limit := ⟨rs_t 457 (by decide +kernel) (by decide +kernel), rs_t 458 (by decide +kernel) (by decide +kernel), rs_t 0 (by decide +kernel) (by decide +kernel), rs_t 459 (by decide +kernel) (by decide +kernel), ⟨by decide, by decide⟩⟩
theorem c_l_114 : rsCV "RunStoreLaw" 114 3 M_m_limit := ⟨"RunStoreModel", rsF3, 9, rfl, rs_t 657 (by decide +kernel) (by decide +kernel), rs_t 658 (by decide +kernel) (by decide +kernel), rs_t 659 (by decide +kernel) (by decide +kernel), rs_t 4 (by decide +kernel) (by decide +kernel), rs_t 660 (by decide +kernel) (by decide +kernel), ⟨by decide, by decide⟩⟩
theorem c_l_115 : rsCV "RunStoreLaw" 115 0 M_s_left := ⟨"RunStore", rsF0, 5, rfl, rs_t 74 (by decide +kernel) (by decide +kernel), rs_t 75 (by decide +kernel) (by decide +kernel), rs_t 76 (by decide +kernel) (by decide +kernel), rs_t 1 (by decide +kernel) (by decide +kernel), rs_t 77 (by decide +kernel) (by decide +kernel), ⟨by decide, by decide⟩⟩
theorem c_l_118 : rsCV "RunStoreLaw" 118 3 M_m_left := ⟨"RunStoreModel", rsF3, 9, rfl, rs_t 661 (by decide +kernel) (by decide +kernel), rs_t 662 (by decide +kernel) (by decide +kernel), rs_t 663 (by decide +kernel) (by decide +kernel), rs_t 4 (by decide +kernel) (by decide +kernel), rs_t 664 (by decide +kernel) (by decide +kernel), ⟨by decide, by decide⟩⟩
theorem c_l_119 : rsCS "RunStoreLaw" 119 M_l_seek := ⟨rs_t 465 (by decide +kernel) (by decide +kernel), rs_t 466 (by decide +kernel) (by decide +kernel), rs_t 0 (by decide +kernel) (by decide +kernel), rs_t 467 (by decide +kernel) (by decide +kernel), ⟨by decide, by decide⟩⟩
theorem c_l_121 : rsCV "RunStoreLaw" 121 3 M_m_seek := ⟨"RunStoreModel", rsF3, 9, rfl, rs_t 665 (by decide +kernel) (by decide +kernel), rs_t 666 (by decide +kernel) (by decide +kernel), rs_t 667 (by decide +kernel) (by decide +kernel), rs_t 4 (by decide +kernel) (by decide +kernel), rs_t 668 (by decide +kernel) (by decide +kernel), ⟨by decide, by decide⟩⟩
theorem c_l_122 : rsCS "RunStoreLaw" 122 M_l_next := ⟨rs_t 476 (by decide +kernel) (by decide +kernel), rs_t 477 (by decide +kernel) (by decide +kernel), rs_t 0 (by decide +kernel) (by decide +kernel), rs_t 478 (by decide +kernel) (by decide +kernel), ⟨by decide, by decide⟩⟩
theorem c_l_124 : rsCV "RunStoreLaw" 124 3 M_m_next := ⟨"RunStoreModel", rsF3, 9, rfl, rs_t 673 (by decide +kernel) (by decide +kernel), rs_t 674 (by decide +kernel) (by decide +kernel), rs_t 675 (by decide +kernel) (by decide +kernel), rs_t 4 (by decide +kernel) (by decide +kernel), rs_t 676 (by decide +kernel) (by decide +kernel), ⟨by decide, by decide⟩⟩
theorem c_l_125 : rsCV "RunStoreLaw" 125 0 M_s_key := ⟨"RunStore", rsF0, 5, rfl, rs_t 78 (by decide +kernel) (by decide +kernel), rs_t 79 (by decide +kernel) (by decide +kernel), rs_t 80 (by decide +kernel) (by decide +kernel), rs_t 1 (by decide +kernel) (by decide +kernel), rs_t 81 (by decide +kernel) (by decide +kernel), ⟨by decide, by decide⟩⟩
theorem c_l_128 : rsCV "RunStoreLaw" 128 3 M_m_key := ⟨"RunStoreModel", rsF3, 9, rfl, rs_t 677 (by decide +kernel) (by decide +kernel), rs_t 678 (by decide +kernel) (by decide +kernel), rs_t 679 (by decide +kernel) (by decide +kernel), rs_t 4 (by decide +kernel) (by decide +kernel), rs_t 680 (by decide +kernel) (by decide +kernel), ⟨by decide, by decide⟩⟩
theorem c_l_129 : rsCV "RunStoreLaw" 129 0 M_s_value := ⟨"RunStore", rsF0, 5, rfl, rs_t 82 (by decide +kernel) (by decide +kernel), rs_t 83 (by decide +kernel) (by decide +kernel), rs_t 84 (by decide +kernel) (by decide +kernel), rs_t 1 (by decide +kernel) (by decide +kernel), rs_t 85 (by decide +kernel) (by decide +kernel), ⟨by decide, by decide⟩⟩
theorem c_l_132 : rsCV "RunStoreLaw" 132 3 M_m_value := ⟨"RunStoreModel", rsF3, 9, rfl, rs_t 681 (by decide +kernel) (by decide +kernel), rs_t 682 (by decide +kernel) (by decide +kernel), rs_t 683 (by decide +kernel) (by decide +kernel), rs_t 4 (by decide +kernel) (by decide +kernel), rs_t 684 (by decide +kernel) (by decide +kernel), ⟨by decide, by decide⟩⟩
theorem c_l_133 : rsCS "RunStoreLaw" 133 M_l_size := ⟨rs_t 484 (by decide +kernel) (by decide +kernel), rs_t 485 (by decide +kernel) (by decide +kernel), rs_t 0 (by decide +kernel) (by decide +kernel), rs_t 486 (by decide +kernel) (by decide +kernel), ⟨by decide, by decide⟩⟩
theorem c_l_135 : rsCV "RunStoreLaw" 135 3 M_m_size := ⟨"RunStoreModel", rsF3, 9, rfl, rs_t 685 (by decide +kernel) (by decide +kernel), rs_t 686 (by decide +kernel) (by decide +kernel), rs_t 687 (by decide +kernel) (by decide +kernel), rs_t 4 (by decide +kernel) (by decide +kernel), rs_t 688 (by decide +kernel) (by decide +kernel), ⟨by decide, by decide⟩⟩
theorem c_l_136 : rsCV "RunStoreLaw" 136 0 M_s_memory := ⟨"RunStore", rsF0, 5, rfl, rs_t 115 (by decide +kernel) (by decide +kernel), rs_t 116 (by decide +kernel) (by decide +kernel), rs_t 117 (by decide +kernel) (by decide +kernel), rs_t 1 (by decide +kernel) (by decide +kernel), rs_t 118 (by decide +kernel) (by decide +kernel), ⟨by decide, by decide⟩⟩
theorem c_l_139 : rsCV "RunStoreLaw" 139 3 M_m_memory := ⟨"RunStoreModel", rsF3, 9, rfl, rs_t 689 (by decide +kernel) (by decide +kernel), rs_t 690 (by decide +kernel) (by decide +kernel), rs_t 691 (by decide +kernel) (by decide +kernel), rs_t 4 (by decide +kernel) (by decide +kernel), rs_t 692 (by decide +kernel) (by decide +kernel), ⟨by decide, by decide⟩⟩
theorem c_l_140 : rsCS "RunStoreLaw" 140 M_l_runs := ⟨rs_t 491 (by decide +kernel) (by decide +kernel), rs_t 492 (by decide +kernel) (by decide +kernel), rs_t 0 (by decide +kernel) (by decide +kernel), rs_t 493 (by decide +kernel) (by decide +kernel), ⟨by decide, by decide⟩⟩
theorem c_l_142 : rsCV "RunStoreLaw" 142 3 M_m_runs := ⟨"RunStoreModel", rsF3, 9, rfl, rs_t 693 (by decide +kernel) (by decide +kernel), rs_t 694 (by decide +kernel) (by decide +kernel), rs_t 695 (by decide +kernel) (by decide +kernel), rs_t 4 (by decide +kernel) (by decide +kernel), rs_t 696 (by decide +kernel) (by decide +kernel), ⟨by decide, by decide⟩⟩
theorem c_l_143 : rsCS "RunStoreLaw" 143 M_l_entries := ⟨rs_t 498 (by decide +kernel) (by decide +kernel), rs_t 499 (by decide +kernel) (by decide +kernel), rs_t 0 (by decide +kernel) (by decide +kernel), rs_t 500 (by decide +kernel) (by decide +kernel), ⟨by decide, by decide⟩⟩
theorem c_l_145 : rsCV "RunStoreLaw" 145 3 M_m_entries := ⟨"RunStoreModel", rsF3, 9, rfl, rs_t 697 (by decide +kernel) (by decide +kernel), rs_t 698 (by decide +kernel) (by decide +kernel), rs_t 699 (by decide +kernel) (by decide +kernel), rs_t 4 (by decide +kernel) (by decide +kernel), rs_t 700 (by decide +kernel) (by decide +kernel), ⟨by decide, by decide⟩⟩
theorem c_l_146 : rsCS "RunStoreLaw" 146 M_l_room := ⟨rs_t 507 (by decide +kernel) (by decide +kernel), rs_t 508 (by decide +kernel) (by decide +kernel), rs_t 0 (by decide +kernel) (by decide +kernel), rs_t 509 (by decide +kernel) (by decide +kernel), ⟨by decide, by decide⟩⟩
theorem c_l_148 : rsCV "RunStoreLaw" 148 3 M_m_room := ⟨"RunStoreModel", rsF3, 9, rfl, rs_t 701 (by decide +kernel) (by decide +kernel), rs_t 702 (by decide +kernel) (by decide +kernel), rs_t 703 (by decide +kernel) (by decide +kernel), rs_t 4 (by decide +kernel) (by decide +kernel), rs_t 704 (by decide +kernel) (by decide +kernel), ⟨by decide, by decide⟩⟩
theorem np_s_init : (parseMethodDescriptor M_s_init.1.desc).map (fun d => d.parameters.length) = some 0 := by decide +kernel
theorem pf_s_init : plainFor M_s_init.1 = true := by decide +kernel
theorem np_e_init : (parseMethodDescriptor M_e_init.1.desc).map (fun d => d.parameters.length) = some 0 := by decide +kernel
theorem pf_e_init : plainFor M_e_init.1 = true := by decide +kernel
theorem np_d_init : (parseMethodDescriptor M_d_init.1.desc).map (fun d => d.parameters.length) = some 0 := by decide +kernel
theorem pf_d_init : plainFor M_d_init.1 = true := by decide +kernel
theorem np_s_left : (parseMethodDescriptor M_s_left.1.desc).map (fun d => d.parameters.length) = some 0 := by decide +kernel
theorem pf_s_left : plainFor M_s_left.1 = true := by decide +kernel
theorem np_s_key : (parseMethodDescriptor M_s_key.1.desc).map (fun d => d.parameters.length) = some 0 := by decide +kernel
theorem pf_s_key : plainFor M_s_key.1 = true := by decide +kernel
theorem np_s_value : (parseMethodDescriptor M_s_value.1.desc).map (fun d => d.parameters.length) = some 0 := by decide +kernel
theorem pf_s_value : plainFor M_s_value.1 = true := by decide +kernel
theorem np_s_valueOrZero : (parseMethodDescriptor M_s_valueOrZero.1.desc).map (fun d => d.parameters.length) = some 1 := by decide +kernel
theorem pf_s_valueOrZero : plainFor M_s_valueOrZero.1 = true := by decide +kernel
theorem np_s_newestWith : (parseMethodDescriptor M_s_newestWith.1.desc).map (fun d => d.parameters.length) = some 1 := by decide +kernel
theorem pf_s_newestWith : plainFor M_s_newestWith.1 = true := by decide +kernel
theorem np_e_holds : (parseMethodDescriptor M_e_holds.1.desc).map (fun d => d.parameters.length) = some 1 := by decide +kernel
theorem pf_e_holds : plainFor M_e_holds.1 = true := by decide +kernel
theorem np_d_newestRunWith : (parseMethodDescriptor M_d_newestRunWith.1.desc).map (fun d => d.parameters.length) = some 1 := by decide +kernel
theorem pf_d_newestRunWith : plainFor M_d_newestRunWith.1 = true := by decide +kernel
theorem np_d_countRuns : (parseMethodDescriptor M_d_countRuns.1.desc).map (fun d => d.parameters.length) = some 0 := by decide +kernel
theorem pf_d_countRuns : plainFor M_d_countRuns.1 = true := by decide +kernel
theorem np_d_firstPlaceOf : (parseMethodDescriptor M_d_firstPlaceOf.1.desc).map (fun d => d.parameters.length) = some 1 := by decide +kernel
theorem pf_d_firstPlaceOf : plainFor M_d_firstPlaceOf.1 = true := by decide +kernel
theorem np_e_valueAt : (parseMethodDescriptor M_e_valueAt.1.desc).map (fun d => d.parameters.length) = some 1 := by decide +kernel
theorem pf_e_valueAt : plainFor M_e_valueAt.1 = true := by decide +kernel
theorem np_s_memory : (parseMethodDescriptor M_s_memory.1.desc).map (fun d => d.parameters.length) = some 0 := by decide +kernel
theorem pf_s_memory : plainFor M_s_memory.1 = true := by decide +kernel
theorem np_e_count : (parseMethodDescriptor M_e_count.1.desc).map (fun d => d.parameters.length) = some 0 := by decide +kernel
theorem pf_e_count : plainFor M_e_count.1 = true := by decide +kernel
theorem np_l_format : (parseMethodDescriptor M_l_format.1.desc).map (fun d => d.parameters.length) = some 1 := by decide +kernel
theorem pf_l_format : plainFor M_l_format.1 = true := by decide +kernel
theorem np_s_format : (parseMethodDescriptor M_s_format.1.desc).map (fun d => d.parameters.length) = some 0 := by decide +kernel
theorem pf_s_format : plainFor M_s_format.1 = true := by decide +kernel
theorem np_s_spendWrites : (parseMethodDescriptor M_s_spendWrites.1.desc).map (fun d => d.parameters.length) = some 1 := by decide +kernel
theorem pf_s_spendWrites : plainFor M_s_spendWrites.1 = true := by decide +kernel
theorem np_s_goDown : (parseMethodDescriptor M_s_goDown.1.desc).map (fun d => d.parameters.length) = some 0 := by decide +kernel
theorem pf_s_goDown : plainFor M_s_goDown.1 = true := by decide +kernel
theorem np_e_clear : (parseMethodDescriptor M_e_clear.1.desc).map (fun d => d.parameters.length) = some 0 := by decide +kernel
theorem pf_e_clear : plainFor M_e_clear.1 = true := by decide +kernel
theorem np_a_fill : (parseMethodDescriptor M_a_fill.1.desc).map (fun d => d.parameters.length) = some 2 := by decide +kernel
theorem pf_a_fill : plainFor M_a_fill.1 = true := by decide +kernel
theorem np_d_makeAnew : (parseMethodDescriptor M_d_makeAnew.1.desc).map (fun d => d.parameters.length) = some 0 := by decide +kernel
theorem pf_d_makeAnew : plainFor M_d_makeAnew.1 = true := by decide +kernel
theorem np_s_comeUp : (parseMethodDescriptor M_s_comeUp.1.desc).map (fun d => d.parameters.length) = some 0 := by decide +kernel
theorem pf_s_comeUp : plainFor M_s_comeUp.1 = true := by decide +kernel
theorem np_l_recover : (parseMethodDescriptor M_l_recover.1.desc).map (fun d => d.parameters.length) = some 2 := by decide +kernel
theorem pf_l_recover : plainFor M_l_recover.1 = true := by decide +kernel
theorem np_s_recover : (parseMethodDescriptor M_s_recover.1.desc).map (fun d => d.parameters.length) = some 0 := by decide +kernel
theorem pf_s_recover : plainFor M_s_recover.1 = true := by decide +kernel
theorem np_s_requireDisk : (parseMethodDescriptor M_s_requireDisk.1.desc).map (fun d => d.parameters.length) = some 0 := by decide +kernel
theorem pf_s_requireDisk : plainFor M_s_requireDisk.1 = true := by decide +kernel
theorem np_d_isMade : (parseMethodDescriptor M_d_isMade.1.desc).map (fun d => d.parameters.length) = some 0 := by decide +kernel
theorem pf_d_isMade : plainFor M_d_isMade.1 = true := by decide +kernel
theorem np_l_put : (parseMethodDescriptor M_l_put.1.desc).map (fun d => d.parameters.length) = some 4 := by decide +kernel
theorem pf_l_put : plainFor M_l_put.1 = true := by decide +kernel
theorem np_s_put : (parseMethodDescriptor M_s_put.1.desc).map (fun d => d.parameters.length) = some 2 := by decide +kernel
theorem pf_s_put : plainFor M_s_put.1 = true := by decide +kernel
theorem np_s_requireKey : (parseMethodDescriptor M_s_requireKey.1.desc).map (fun d => d.parameters.length) = some 1 := by decide +kernel
theorem pf_s_requireKey : plainFor M_s_requireKey.1 = true := by decide +kernel
theorem np_s_requireUp : (parseMethodDescriptor M_s_requireUp.1.desc).map (fun d => d.parameters.length) = some 0 := by decide +kernel
theorem pf_s_requireUp : plainFor M_s_requireUp.1 = true := by decide +kernel
theorem np_s_makePlaceInMemory : (parseMethodDescriptor M_s_makePlaceInMemory.1.desc).map (fun d => d.parameters.length) = some 1 := by decide +kernel
theorem pf_s_makePlaceInMemory : plainFor M_s_makePlaceInMemory.1 = true := by decide +kernel
theorem np_s_flushMemory : (parseMethodDescriptor M_s_flushMemory.1.desc).map (fun d => d.parameters.length) = some 0 := by decide +kernel
theorem pf_s_flushMemory : plainFor M_s_flushMemory.1 = true := by decide +kernel
theorem np_d_draftFrom : (parseMethodDescriptor M_d_draftFrom.1.desc).map (fun d => d.parameters.length) = some 1 := by decide +kernel
theorem pf_d_draftFrom : plainFor M_d_draftFrom.1 = true := by decide +kernel
theorem np_d_draft : (parseMethodDescriptor M_d_draft.1.desc).map (fun d => d.parameters.length) = some 0 := by decide +kernel
theorem pf_d_draft : plainFor M_d_draft.1 = true := by decide +kernel
theorem np_e_addOlder : (parseMethodDescriptor M_e_addOlder.1.desc).map (fun d => d.parameters.length) = some 1 := by decide +kernel
theorem pf_e_addOlder : plainFor M_e_addOlder.1 = true := by decide +kernel
theorem np_e_setEntry : (parseMethodDescriptor M_e_setEntry.1.desc).map (fun d => d.parameters.length) = some 3 := by decide +kernel
theorem pf_e_setEntry : plainFor M_e_setEntry.1 = true := by decide +kernel
theorem np_s_writeDraft : (parseMethodDescriptor M_s_writeDraft.1.desc).map (fun d => d.parameters.length) = some 1 := by decide +kernel
theorem pf_s_writeDraft : plainFor M_s_writeDraft.1 = true := by decide +kernel
theorem np_e_blocks : (parseMethodDescriptor M_e_blocks.1.desc).map (fun d => d.parameters.length) = some 0 := by decide +kernel
theorem pf_e_blocks : plainFor M_e_blocks.1 = true := by decide +kernel
theorem np_d_freeBlocks : (parseMethodDescriptor M_d_freeBlocks.1.desc).map (fun d => d.parameters.length) = some 0 := by decide +kernel
theorem pf_d_freeBlocks : plainFor M_d_freeBlocks.1 = true := by decide +kernel
theorem np_d_listDraftAsFlushed : (parseMethodDescriptor M_d_listDraftAsFlushed.1.desc).map (fun d => d.parameters.length) = some 0 := by decide +kernel
theorem pf_d_listDraftAsFlushed : plainFor M_d_listDraftAsFlushed.1 = true := by decide +kernel
theorem np_d_moveDraftTo : (parseMethodDescriptor M_d_moveDraftTo.1.desc).map (fun d => d.parameters.length) = some 1 := by decide +kernel
theorem pf_d_moveDraftTo : plainFor M_d_moveDraftTo.1 = true := by decide +kernel
theorem np_e_setValue : (parseMethodDescriptor M_e_setValue.1.desc).map (fun d => d.parameters.length) = some 2 := by decide +kernel
theorem pf_e_setValue : plainFor M_e_setValue.1 = true := by decide +kernel
theorem np_l_remove : (parseMethodDescriptor M_l_remove.1.desc).map (fun d => d.parameters.length) = some 3 := by decide +kernel
theorem pf_l_remove : plainFor M_l_remove.1 = true := by decide +kernel
theorem np_s_remove : (parseMethodDescriptor M_s_remove.1.desc).map (fun d => d.parameters.length) = some 1 := by decide +kernel
theorem pf_s_remove : plainFor M_s_remove.1 = true := by decide +kernel
theorem np_s_isThere : (parseMethodDescriptor M_s_isThere.1.desc).map (fun d => d.parameters.length) = some 1 := by decide +kernel
theorem pf_s_isThere : plainFor M_s_isThere.1 = true := by decide +kernel
theorem np_e_holdsValue : (parseMethodDescriptor M_e_holdsValue.1.desc).map (fun d => d.parameters.length) = some 1 := by decide +kernel
theorem pf_e_holdsValue : plainFor M_e_holdsValue.1 = true := by decide +kernel
theorem np_e_setMark : (parseMethodDescriptor M_e_setMark.1.desc).map (fun d => d.parameters.length) = some 1 := by decide +kernel
theorem pf_e_setMark : plainFor M_e_setMark.1 = true := by decide +kernel
theorem np_l_get : (parseMethodDescriptor M_l_get.1.desc).map (fun d => d.parameters.length) = some 3 := by decide +kernel
theorem pf_l_get : plainFor M_l_get.1 = true := by decide +kernel
theorem np_s_get : (parseMethodDescriptor M_s_get.1.desc).map (fun d => d.parameters.length) = some 1 := by decide +kernel
theorem pf_s_get : plainFor M_s_get.1 = true := by decide +kernel
theorem np_l_has : (parseMethodDescriptor M_l_has.1.desc).map (fun d => d.parameters.length) = some 3 := by decide +kernel
theorem pf_l_has : plainFor M_l_has.1 = true := by decide +kernel
theorem np_s_has : (parseMethodDescriptor M_s_has.1.desc).map (fun d => d.parameters.length) = some 1 := by decide +kernel
theorem pf_s_has : plainFor M_s_has.1 = true := by decide +kernel
theorem np_l_flush : (parseMethodDescriptor M_l_flush.1.desc).map (fun d => d.parameters.length) = some 2 := by decide +kernel
theorem pf_l_flush : plainFor M_l_flush.1 = true := by decide +kernel
theorem np_s_flush : (parseMethodDescriptor M_s_flush.1.desc).map (fun d => d.parameters.length) = some 0 := by decide +kernel
theorem pf_s_flush : plainFor M_s_flush.1 = true := by decide +kernel
theorem np_l_compact : (parseMethodDescriptor M_l_compact.1.desc).map (fun d => d.parameters.length) = some 2 := by decide +kernel
theorem pf_l_compact : plainFor M_l_compact.1 = true := by decide +kernel
theorem np_s_compact : (parseMethodDescriptor M_s_compact.1.desc).map (fun d => d.parameters.length) = some 0 := by decide +kernel
theorem pf_s_compact : plainFor M_s_compact.1 = true := by decide +kernel
theorem np_s_leastLevelToCompact : (parseMethodDescriptor M_s_leastLevelToCompact.1.desc).map (fun d => d.parameters.length) = some 0 := by decide +kernel
theorem pf_s_leastLevelToCompact : plainFor M_s_leastLevelToCompact.1 = true := by decide +kernel
theorem np_d_countRunsOf : (parseMethodDescriptor M_d_countRunsOf.1.desc).map (fun d => d.parameters.length) = some 1 := by decide +kernel
theorem pf_d_countRunsOf : plainFor M_d_countRunsOf.1 = true := by decide +kernel
theorem np_s_mergeLevel : (parseMethodDescriptor M_s_mergeLevel.1.desc).map (fun d => d.parameters.length) = some 1 := by decide +kernel
theorem pf_s_mergeLevel : plainFor M_s_mergeLevel.1 = true := by decide +kernel
theorem np_d_draftFromLevel : (parseMethodDescriptor M_d_draftFromLevel.1.desc).map (fun d => d.parameters.length) = some 1 := by decide +kernel
theorem pf_d_draftFromLevel : plainFor M_d_draftFromLevel.1 = true := by decide +kernel
theorem np_d_run : (parseMethodDescriptor M_d_run.1.desc).map (fun d => d.parameters.length) = some 2 := by decide +kernel
theorem pf_d_run : plainFor M_d_run.1 = true := by decide +kernel
theorem np_e_leaveOutMarks : (parseMethodDescriptor M_e_leaveOutMarks.1.desc).map (fun d => d.parameters.length) = some 0 := by decide +kernel
theorem pf_e_leaveOutMarks : plainFor M_e_leaveOutMarks.1 = true := by decide +kernel
theorem np_d_listDraftAsMerged : (parseMethodDescriptor M_d_listDraftAsMerged.1.desc).map (fun d => d.parameters.length) = some 1 := by decide +kernel
theorem pf_d_listDraftAsMerged : plainFor M_d_listDraftAsMerged.1 = true := by decide +kernel
theorem np_a_min : (parseMethodDescriptor M_a_min.1.desc).map (fun d => d.parameters.length) = some 2 := by decide +kernel
theorem pf_a_min : plainFor M_a_min.1 = true := by decide +kernel
theorem np_d_moveToDraft : (parseMethodDescriptor M_d_moveToDraft.1.desc).map (fun d => d.parameters.length) = some 1 := by decide +kernel
theorem pf_d_moveToDraft : plainFor M_d_moveToDraft.1 = true := by decide +kernel
theorem np_l_merge : (parseMethodDescriptor M_l_merge.1.desc).map (fun d => d.parameters.length) = some 3 := by decide +kernel
theorem pf_l_merge : plainFor M_l_merge.1 = true := by decide +kernel
theorem np_s_merge : (parseMethodDescriptor M_s_merge.1.desc).map (fun d => d.parameters.length) = some 1 := by decide +kernel
theorem pf_s_merge : plainFor M_s_merge.1 = true := by decide +kernel
theorem np_s_requireLevel : (parseMethodDescriptor M_s_requireLevel.1.desc).map (fun d => d.parameters.length) = some 1 := by decide +kernel
theorem pf_s_requireLevel : plainFor M_s_requireLevel.1 = true := by decide +kernel
theorem np_s_isLevel : (parseMethodDescriptor M_s_isLevel.1.desc).map (fun d => d.parameters.length) = some 1 := by decide +kernel
theorem pf_s_isLevel : plainFor M_s_isLevel.1 = true := by decide +kernel
theorem np_l_limit : (parseMethodDescriptor M_l_limit.1.desc).map (fun d => d.parameters.length) = some 2 := by decide +kernel
theorem pf_l_limit : plainFor M_l_limit.1 = true := by decide +kernel
theorem np_s_limit : (parseMethodDescriptor M_s_limit.1.desc).map (fun d => d.parameters.length) = some 1 := by decide +kernel
theorem pf_s_limit : plainFor M_s_limit.1 = true := by decide +kernel
theorem np_l_seek : (parseMethodDescriptor M_l_seek.1.desc).map (fun d => d.parameters.length) = some 3 := by decide +kernel
theorem pf_l_seek : plainFor M_l_seek.1 = true := by decide +kernel
theorem np_s_seek : (parseMethodDescriptor M_s_seek.1.desc).map (fun d => d.parameters.length) = some 1 := by decide +kernel
theorem pf_s_seek : plainFor M_s_seek.1 = true := by decide +kernel
theorem np_s_leastKeyThere : (parseMethodDescriptor M_s_leastKeyThere.1.desc).map (fun d => d.parameters.length) = some 1 := by decide +kernel
theorem pf_s_leastKeyThere : plainFor M_s_leastKeyThere.1 = true := by decide +kernel
theorem np_l_next : (parseMethodDescriptor M_l_next.1.desc).map (fun d => d.parameters.length) = some 2 := by decide +kernel
theorem pf_l_next : plainFor M_l_next.1 = true := by decide +kernel
theorem np_s_next : (parseMethodDescriptor M_s_next.1.desc).map (fun d => d.parameters.length) = some 0 := by decide +kernel
theorem pf_s_next : plainFor M_s_next.1 = true := by decide +kernel
theorem np_l_size : (parseMethodDescriptor M_l_size.1.desc).map (fun d => d.parameters.length) = some 2 := by decide +kernel
theorem pf_l_size : plainFor M_l_size.1 = true := by decide +kernel
theorem np_s_size : (parseMethodDescriptor M_s_size.1.desc).map (fun d => d.parameters.length) = some 0 := by decide +kernel
theorem pf_s_size : plainFor M_s_size.1 = true := by decide +kernel
theorem np_l_runs : (parseMethodDescriptor M_l_runs.1.desc).map (fun d => d.parameters.length) = some 3 := by decide +kernel
theorem pf_l_runs : plainFor M_l_runs.1 = true := by decide +kernel
theorem np_s_runs : (parseMethodDescriptor M_s_runs.1.desc).map (fun d => d.parameters.length) = some 1 := by decide +kernel
theorem pf_s_runs : plainFor M_s_runs.1 = true := by decide +kernel
theorem np_l_entries : (parseMethodDescriptor M_l_entries.1.desc).map (fun d => d.parameters.length) = some 4 := by decide +kernel
theorem pf_l_entries : plainFor M_l_entries.1 = true := by decide +kernel
theorem np_s_entries : (parseMethodDescriptor M_s_entries.1.desc).map (fun d => d.parameters.length) = some 2 := by decide +kernel
theorem pf_s_entries : plainFor M_s_entries.1 = true := by decide +kernel
theorem np_l_room : (parseMethodDescriptor M_l_room.1.desc).map (fun d => d.parameters.length) = some 2 := by decide +kernel
theorem pf_l_room : plainFor M_l_room.1 = true := by decide +kernel
theorem np_s_room : (parseMethodDescriptor M_s_room.1.desc).map (fun d => d.parameters.length) = some 0 := by decide +kernel
theorem pf_s_room : plainFor M_s_room.1 = true := by decide +kernel
theorem np_m_init : (parseMethodDescriptor M_m_init.1.desc).map (fun d => d.parameters.length) = some 0 := by decide +kernel
theorem pf_m_init : plainFor M_m_init.1 = true := by decide +kernel
theorem np_m_thrown : (parseMethodDescriptor M_m_thrown.1.desc).map (fun d => d.parameters.length) = some 0 := by decide +kernel
theorem pf_m_thrown : plainFor M_m_thrown.1 = true := by decide +kernel
theorem np_m_format : (parseMethodDescriptor M_m_format.1.desc).map (fun d => d.parameters.length) = some 0 := by decide +kernel
theorem pf_m_format : plainFor M_m_format.1 = true := by decide +kernel
theorem np_m_writes : (parseMethodDescriptor M_m_writes.1.desc).map (fun d => d.parameters.length) = some 1 := by decide +kernel
theorem pf_m_writes : plainFor M_m_writes.1 = true := by decide +kernel
theorem np_m_goDown : (parseMethodDescriptor M_m_goDown.1.desc).map (fun d => d.parameters.length) = some 0 := by decide +kernel
theorem pf_m_goDown : plainFor M_m_goDown.1 = true := by decide +kernel
theorem np_m_clearRow : (parseMethodDescriptor M_m_clearRow.1.desc).map (fun d => d.parameters.length) = some 1 := by decide +kernel
theorem pf_m_clearRow : plainFor M_m_clearRow.1 = true := by decide +kernel
theorem np_m_recover : (parseMethodDescriptor M_m_recover.1.desc).map (fun d => d.parameters.length) = some 0 := by decide +kernel
theorem pf_m_recover : plainFor M_m_recover.1 = true := by decide +kernel
theorem np_m_put : (parseMethodDescriptor M_m_put.1.desc).map (fun d => d.parameters.length) = some 2 := by decide +kernel
theorem pf_m_put : plainFor M_m_put.1 = true := by decide +kernel
theorem np_m_enter : (parseMethodDescriptor M_m_enter.1.desc).map (fun d => d.parameters.length) = some 3 := by decide +kernel
theorem pf_m_enter : plainFor M_m_enter.1 = true := by decide +kernel
theorem np_m_isKey : (parseMethodDescriptor M_m_isKey.1.desc).map (fun d => d.parameters.length) = some 1 := by decide +kernel
theorem pf_m_isKey : plainFor M_m_isKey.1 = true := by decide +kernel
theorem np_m_sizeOf : (parseMethodDescriptor M_m_sizeOf.1.desc).map (fun d => d.parameters.length) = some 1 := by decide +kernel
theorem pf_m_sizeOf : plainFor M_m_sizeOf.1 = true := by decide +kernel
theorem np_m_flushed : (parseMethodDescriptor M_m_flushed.1.desc).map (fun d => d.parameters.length) = some 0 := by decide +kernel
theorem pf_m_flushed : plainFor M_m_flushed.1 = true := by decide +kernel
theorem np_m_blocksFor : (parseMethodDescriptor M_m_blocksFor.1.desc).map (fun d => d.parameters.length) = some 1 := by decide +kernel
theorem pf_m_blocksFor : plainFor M_m_blocksFor.1 = true := by decide +kernel
theorem np_m_freeBlocks : (parseMethodDescriptor M_m_freeBlocks.1.desc).map (fun d => d.parameters.length) = some 0 := by decide +kernel
theorem pf_m_freeBlocks : plainFor M_m_freeBlocks.1 = true := by decide +kernel
theorem np_m_copyRow : (parseMethodDescriptor M_m_copyRow.1.desc).map (fun d => d.parameters.length) = some 2 := by decide +kernel
theorem pf_m_copyRow : plainFor M_m_copyRow.1 = true := by decide +kernel
theorem np_m_insert : (parseMethodDescriptor M_m_insert.1.desc).map (fun d => d.parameters.length) = some 2 := by decide +kernel
theorem pf_m_insert : plainFor M_m_insert.1 = true := by decide +kernel
theorem np_m_remove : (parseMethodDescriptor M_m_remove.1.desc).map (fun d => d.parameters.length) = some 1 := by decide +kernel
theorem pf_m_remove : plainFor M_m_remove.1 = true := by decide +kernel
theorem np_m_isThere : (parseMethodDescriptor M_m_isThere.1.desc).map (fun d => d.parameters.length) = some 1 := by decide +kernel
theorem pf_m_isThere : plainFor M_m_isThere.1 = true := by decide +kernel
theorem np_m_newest : (parseMethodDescriptor M_m_newest.1.desc).map (fun d => d.parameters.length) = some 1 := by decide +kernel
theorem pf_m_newest : plainFor M_m_newest.1 = true := by decide +kernel
theorem np_m_get : (parseMethodDescriptor M_m_get.1.desc).map (fun d => d.parameters.length) = some 1 := by decide +kernel
theorem pf_m_get : plainFor M_m_get.1 = true := by decide +kernel
theorem np_m_has : (parseMethodDescriptor M_m_has.1.desc).map (fun d => d.parameters.length) = some 1 := by decide +kernel
theorem pf_m_has : plainFor M_m_has.1 = true := by decide +kernel
theorem np_m_flush : (parseMethodDescriptor M_m_flush.1.desc).map (fun d => d.parameters.length) = some 0 := by decide +kernel
theorem pf_m_flush : plainFor M_m_flush.1 = true := by decide +kernel
theorem np_m_compact : (parseMethodDescriptor M_m_compact.1.desc).map (fun d => d.parameters.length) = some 0 := by decide +kernel
theorem pf_m_compact : plainFor M_m_compact.1 = true := by decide +kernel
theorem np_m_runsOf : (parseMethodDescriptor M_m_runsOf.1.desc).map (fun d => d.parameters.length) = some 1 := by decide +kernel
theorem pf_m_runsOf : plainFor M_m_runsOf.1 = true := by decide +kernel
theorem np_m_merged : (parseMethodDescriptor M_m_merged.1.desc).map (fun d => d.parameters.length) = some 1 := by decide +kernel
theorem pf_m_merged : plainFor M_m_merged.1 = true := by decide +kernel
theorem np_m_begin : (parseMethodDescriptor M_m_begin.1.desc).map (fun d => d.parameters.length) = some 1 := by decide +kernel
theorem pf_m_begin : plainFor M_m_begin.1 = true := by decide +kernel
theorem np_m_takeOut : (parseMethodDescriptor M_m_takeOut.1.desc).map (fun d => d.parameters.length) = some 1 := by decide +kernel
theorem pf_m_takeOut : plainFor M_m_takeOut.1 = true := by decide +kernel
theorem np_m_merge : (parseMethodDescriptor M_m_merge.1.desc).map (fun d => d.parameters.length) = some 1 := by decide +kernel
theorem pf_m_merge : plainFor M_m_merge.1 = true := by decide +kernel
theorem np_m_isLevel : (parseMethodDescriptor M_m_isLevel.1.desc).map (fun d => d.parameters.length) = some 1 := by decide +kernel
theorem pf_m_isLevel : plainFor M_m_isLevel.1 = true := by decide +kernel
theorem np_m_limit : (parseMethodDescriptor M_m_limit.1.desc).map (fun d => d.parameters.length) = some 1 := by decide +kernel
theorem pf_m_limit : plainFor M_m_limit.1 = true := by decide +kernel
theorem np_m_left : (parseMethodDescriptor M_m_left.1.desc).map (fun d => d.parameters.length) = some 0 := by decide +kernel
theorem pf_m_left : plainFor M_m_left.1 = true := by decide +kernel
theorem np_m_seek : (parseMethodDescriptor M_m_seek.1.desc).map (fun d => d.parameters.length) = some 1 := by decide +kernel
theorem pf_m_seek : plainFor M_m_seek.1 = true := by decide +kernel
theorem np_m_goTo : (parseMethodDescriptor M_m_goTo.1.desc).map (fun d => d.parameters.length) = some 1 := by decide +kernel
theorem pf_m_goTo : plainFor M_m_goTo.1 = true := by decide +kernel
theorem np_m_next : (parseMethodDescriptor M_m_next.1.desc).map (fun d => d.parameters.length) = some 0 := by decide +kernel
theorem pf_m_next : plainFor M_m_next.1 = true := by decide +kernel
theorem np_m_key : (parseMethodDescriptor M_m_key.1.desc).map (fun d => d.parameters.length) = some 0 := by decide +kernel
theorem pf_m_key : plainFor M_m_key.1 = true := by decide +kernel
theorem np_m_value : (parseMethodDescriptor M_m_value.1.desc).map (fun d => d.parameters.length) = some 0 := by decide +kernel
theorem pf_m_value : plainFor M_m_value.1 = true := by decide +kernel
theorem np_m_size : (parseMethodDescriptor M_m_size.1.desc).map (fun d => d.parameters.length) = some 0 := by decide +kernel
theorem pf_m_size : plainFor M_m_size.1 = true := by decide +kernel
theorem np_m_memory : (parseMethodDescriptor M_m_memory.1.desc).map (fun d => d.parameters.length) = some 0 := by decide +kernel
theorem pf_m_memory : plainFor M_m_memory.1 = true := by decide +kernel
theorem np_m_runs : (parseMethodDescriptor M_m_runs.1.desc).map (fun d => d.parameters.length) = some 1 := by decide +kernel
theorem pf_m_runs : plainFor M_m_runs.1 = true := by decide +kernel
theorem np_m_entries : (parseMethodDescriptor M_m_entries.1.desc).map (fun d => d.parameters.length) = some 2 := by decide +kernel
theorem pf_m_entries : plainFor M_m_entries.1 = true := by decide +kernel
theorem np_m_room : (parseMethodDescriptor M_m_room.1.desc).map (fun d => d.parameters.length) = some 0 := by decide +kernel
theorem pf_m_room : plainFor M_m_room.1 = true := by decide +kernel
theorem np_l_law : (parseMethodDescriptor M_l_law.1.desc).map (fun d => d.parameters.length) = some 1 := by decide +kernel
theorem pf_l_law : plainFor M_l_law.1 = true := by decide +kernel
theorem k_l_12 : Cond.classLink "RunStoreLaw" 12 "java/lang/IllegalStateException" ∈ rsTs := rs_t 126 (by decide +kernel) (by decide +kernel)
theorem k_l_22 : Cond.classLink "RunStoreLaw" 22 "java/lang/IllegalArgumentException" ∈ rsTs := rs_t 245 (by decide +kernel) (by decide +kernel)
theorem k_l_24 : Cond.classLink "RunStoreLaw" 24 "java/lang/UnsupportedOperationException" ∈ rsTs := rs_t 246 (by decide +kernel) (by decide +kernel)
theorem k_l_34 : Cond.classLink "RunStoreLaw" 34 "java/util/NoSuchElementException" ∈ rsTs := rs_t 365 (by decide +kernel) (by decide +kernel)
theorem t_arrI : Cond.arrayClass .int ∈ rsTs := rs_t 38 (by decide +kernel) (by decide +kernel)
theorem t_arrL : Cond.arrayClass .long ∈ rsTs := rs_t 705 (by decide +kernel) (by decide +kernel)
theorem t_arrE : Cond.arrayOver (.object "RunStore$Entries") ∈ rsTs := rs_t 46 (by decide +kernel) (by decide +kernel)
theorem t_obj1 : Cond.instanceMethod Lib.objectInit ∈ rsTs := rs_t 20 (by decide +kernel) (by decide +kernel)
theorem t_obj2 : Cond.code Lib.objectInit ⟨#[0xb1]⟩ 1 none ∈ rsTs := rs_t 21 (by decide +kernel) (by decide +kernel)
theorem t_ins0 : Cond.instantiable (rsEx 0) 6 ∈ rsTs := rs_t 255 (by decide +kernel) (by decide +kernel)
theorem t_ini0 : Cond.initialized (rsEx 0) ∈ rsTs := rs_t 10 (by decide +kernel) (by decide +kernel)
theorem t_ins1 : Cond.instantiable (rsEx 1) 6 ∈ rsTs := rs_t 147 (by decide +kernel) (by decide +kernel)
theorem t_ini1 : Cond.initialized (rsEx 1) ∈ rsTs := rs_t 9 (by decide +kernel) (by decide +kernel)
theorem t_ins2 : Cond.instantiable (rsEx 2) 6 ∈ rsTs := rs_t 316 (by decide +kernel) (by decide +kernel)
theorem t_ini2 : Cond.initialized (rsEx 2) ∈ rsTs := rs_t 11 (by decide +kernel) (by decide +kernel)
theorem t_ins3 : Cond.instantiable (rsEx 3) 6 ∈ rsTs := rs_t 371 (by decide +kernel) (by decide +kernel)
theorem t_ini3 : Cond.initialized (rsEx 3) ∈ rsTs := rs_t 12 (by decide +kernel) (by decide +kernel)
