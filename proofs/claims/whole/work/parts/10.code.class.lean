/-! 10.code.class: methods and what stands at each place of their code (written by gen_code.py) -/
abbrev M_s_init : rsM := (⟨"RunStore", "<init>", "()V"⟩, prog_1_method_1_code, 1, none, [])
theorem d_s_init_0 : decode prog_1_method_1_code 0 = .ok (.aload_n 0, 1) := by decide +kernel
theorem d_s_init_1 : decode prog_1_method_1_code 1 = .ok (.invokespecial 1, 3) := by decide +kernel
theorem d_s_init_4 : decode prog_1_method_1_code 4 = .ok (.aload_n 0, 1) := by decide +kernel
theorem d_s_init_5 : decode prog_1_method_1_code 5 = .ok (.new 7, 3) := by decide +kernel
theorem d_s_init_8 : decode prog_1_method_1_code 8 = .ok (.dup, 1) := by decide +kernel
theorem d_s_init_9 : decode prog_1_method_1_code 9 = .ok (.invokespecial 9, 3) := by decide +kernel
theorem d_s_init_12 : decode prog_1_method_1_code 12 = .ok (.putfield 10, 3) := by decide +kernel
theorem d_s_init_15 : decode prog_1_method_1_code 15 = .ok (.aload_n 0, 1) := by decide +kernel
theorem d_s_init_16 : decode prog_1_method_1_code 16 = .ok (.new 16, 3) := by decide +kernel
theorem d_s_init_19 : decode prog_1_method_1_code 19 = .ok (.dup, 1) := by decide +kernel
theorem d_s_init_20 : decode prog_1_method_1_code 20 = .ok (.invokespecial 18, 3) := by decide +kernel
theorem d_s_init_23 : decode prog_1_method_1_code 23 = .ok (.putfield 19, 3) := by decide +kernel
theorem d_s_init_26 : decode prog_1_method_1_code 26 = .ok (.aload_n 0, 1) := by decide +kernel
theorem d_s_init_27 : decode prog_1_method_1_code 27 = .ok (.iconst 0, 1) := by decide +kernel
theorem d_s_init_28 : decode prog_1_method_1_code 28 = .ok (.putfield 23, 3) := by decide +kernel
theorem d_s_init_31 : decode prog_1_method_1_code 31 = .ok (.aload_n 0, 1) := by decide +kernel
theorem d_s_init_32 : decode prog_1_method_1_code 32 = .ok (.iconst (-1), 1) := by decide +kernel
theorem d_s_init_33 : decode prog_1_method_1_code 33 = .ok (.putfield 27, 3) := by decide +kernel
theorem d_s_init_36 : decode prog_1_method_1_code 36 = .ok (.aload_n 0, 1) := by decide +kernel
theorem d_s_init_37 : decode prog_1_method_1_code 37 = .ok (.iconst (-1), 1) := by decide +kernel
theorem d_s_init_38 : decode prog_1_method_1_code 38 = .ok (.putfield 31, 3) := by decide +kernel
theorem d_s_init_41 : decode prog_1_method_1_code 41 = .ok (.return_, 1) := by decide +kernel
abbrev M_e_init : rsM := (⟨"RunStore$Entries", "<init>", "()V"⟩, prog_3_method_1_code, 1, none, [])
theorem d_e_init_0 : decode prog_3_method_1_code 0 = .ok (.aload_n 0, 1) := by decide +kernel
theorem d_e_init_1 : decode prog_3_method_1_code 1 = .ok (.invokespecial 3, 3) := by decide +kernel
theorem d_e_init_4 : decode prog_3_method_1_code 4 = .ok (.aload_n 0, 1) := by decide +kernel
theorem d_e_init_5 : decode prog_3_method_1_code 5 = .ok (.bipush 100, 2) := by decide +kernel
theorem d_e_init_7 : decode prog_3_method_1_code 7 = .ok (.newarray .int, 2) := by decide +kernel
theorem d_e_init_9 : decode prog_3_method_1_code 9 = .ok (.putfield 9, 3) := by decide +kernel
theorem d_e_init_12 : decode prog_3_method_1_code 12 = .ok (.aload_n 0, 1) := by decide +kernel
theorem d_e_init_13 : decode prog_3_method_1_code 13 = .ok (.bipush 100, 2) := by decide +kernel
theorem d_e_init_15 : decode prog_3_method_1_code 15 = .ok (.newarray .int, 2) := by decide +kernel
theorem d_e_init_17 : decode prog_3_method_1_code 17 = .ok (.putfield 15, 3) := by decide +kernel
theorem d_e_init_20 : decode prog_3_method_1_code 20 = .ok (.aload_n 0, 1) := by decide +kernel
theorem d_e_init_21 : decode prog_3_method_1_code 21 = .ok (.iconst 0, 1) := by decide +kernel
theorem d_e_init_22 : decode prog_3_method_1_code 22 = .ok (.putfield 18, 3) := by decide +kernel
theorem d_e_init_25 : decode prog_3_method_1_code 25 = .ok (.return_, 1) := by decide +kernel
abbrev M_d_init : rsM := (⟨"RunStore$Disk", "<init>", "()V"⟩, prog_2_method_1_code, 2, none, [])
theorem d_d_init_0 : decode prog_2_method_1_code 0 = .ok (.aload_n 0, 1) := by decide +kernel
theorem d_d_init_1 : decode prog_2_method_1_code 1 = .ok (.invokespecial 3, 3) := by decide +kernel
theorem d_d_init_4 : decode prog_2_method_1_code 4 = .ok (.aload_n 0, 1) := by decide +kernel
theorem d_d_init_5 : decode prog_2_method_1_code 5 = .ok (.bipush 13, 2) := by decide +kernel
theorem d_d_init_7 : decode prog_2_method_1_code 7 = .ok (.anewarray 9, 3) := by decide +kernel
theorem d_d_init_10 : decode prog_2_method_1_code 10 = .ok (.putfield 11, 3) := by decide +kernel
theorem d_d_init_13 : decode prog_2_method_1_code 13 = .ok (.iconst 0, 1) := by decide +kernel
theorem d_d_init_14 : decode prog_2_method_1_code 14 = .ok (.istore_n 1, 1) := by decide +kernel
theorem d_d_init_15 : decode prog_2_method_1_code 15 = .ok (.iload_n 1, 1) := by decide +kernel
theorem d_d_init_16 : decode prog_2_method_1_code 16 = .ok (.aload_n 0, 1) := by decide +kernel
theorem d_d_init_17 : decode prog_2_method_1_code 17 = .ok (.getfield 11, 3) := by decide +kernel
theorem d_d_init_20 : decode prog_2_method_1_code 20 = .ok (.arraylength, 1) := by decide +kernel
theorem d_d_init_21 : decode prog_2_method_1_code 21 = .ok (.if_icmp .ge 22, 3) := by decide +kernel
theorem d_d_init_24 : decode prog_2_method_1_code 24 = .ok (.aload_n 0, 1) := by decide +kernel
theorem d_d_init_25 : decode prog_2_method_1_code 25 = .ok (.getfield 11, 3) := by decide +kernel
theorem d_d_init_28 : decode prog_2_method_1_code 28 = .ok (.iload_n 1, 1) := by decide +kernel
theorem d_d_init_29 : decode prog_2_method_1_code 29 = .ok (.new 9, 3) := by decide +kernel
theorem d_d_init_32 : decode prog_2_method_1_code 32 = .ok (.dup, 1) := by decide +kernel
theorem d_d_init_33 : decode prog_2_method_1_code 33 = .ok (.invokespecial 17, 3) := by decide +kernel
theorem d_d_init_36 : decode prog_2_method_1_code 36 = .ok (.aastore, 1) := by decide +kernel
theorem d_d_init_37 : decode prog_2_method_1_code 37 = .ok (.iinc 1 1, 3) := by decide +kernel
theorem d_d_init_40 : decode prog_2_method_1_code 40 = .ok (.goto (-25), 3) := by decide +kernel
theorem d_d_init_43 : decode prog_2_method_1_code 43 = .ok (.aload_n 0, 1) := by decide +kernel
theorem d_d_init_44 : decode prog_2_method_1_code 44 = .ok (.iconst 3, 1) := by decide +kernel
theorem d_d_init_45 : decode prog_2_method_1_code 45 = .ok (.newarray .int, 2) := by decide +kernel
theorem d_d_init_47 : decode prog_2_method_1_code 47 = .ok (.putfield 18, 3) := by decide +kernel
theorem d_d_init_50 : decode prog_2_method_1_code 50 = .ok (.aload_n 0, 1) := by decide +kernel
theorem d_d_init_51 : decode prog_2_method_1_code 51 = .ok (.iconst 0, 1) := by decide +kernel
theorem d_d_init_52 : decode prog_2_method_1_code 52 = .ok (.putfield 22, 3) := by decide +kernel
theorem d_d_init_55 : decode prog_2_method_1_code 55 = .ok (.return_, 1) := by decide +kernel
abbrev M_s_left : rsM := (⟨"RunStore", "left", "()I"⟩, prog_1_method_12_code, 1, some .int, [])
theorem d_s_left_0 : decode prog_1_method_12_code 0 = .ok (.aload_n 0, 1) := by decide +kernel
theorem d_s_left_1 : decode prog_1_method_12_code 1 = .ok (.getfield 27, 3) := by decide +kernel
theorem d_s_left_4 : decode prog_1_method_12_code 4 = .ok (.ireturn, 1) := by decide +kernel
abbrev M_s_key : rsM := (⟨"RunStore", "key", "()I"⟩, prog_1_method_15_code, 1, some .int, [])
theorem d_s_key_0 : decode prog_1_method_15_code 0 = .ok (.aload_n 0, 1) := by decide +kernel
theorem d_s_key_1 : decode prog_1_method_15_code 1 = .ok (.getfield 31, 3) := by decide +kernel
theorem d_s_key_4 : decode prog_1_method_15_code 4 = .ok (.ireturn, 1) := by decide +kernel
abbrev M_s_value : rsM := (⟨"RunStore", "value", "()I"⟩, prog_1_method_16_code, 1, some .int, [])
theorem d_s_value_0 : decode prog_1_method_16_code 0 = .ok (.aload_n 0, 1) := by decide +kernel
theorem d_s_value_1 : decode prog_1_method_16_code 1 = .ok (.getfield 31, 3) := by decide +kernel
theorem d_s_value_4 : decode prog_1_method_16_code 4 = .ok (.iconst (-1), 1) := by decide +kernel
theorem d_s_value_5 : decode prog_1_method_16_code 5 = .ok (.if_icmp .ne 7, 3) := by decide +kernel
theorem d_s_value_8 : decode prog_1_method_16_code 8 = .ok (.iconst 0, 1) := by decide +kernel
theorem d_s_value_9 : decode prog_1_method_16_code 9 = .ok (.goto 11, 3) := by decide +kernel
theorem d_s_value_12 : decode prog_1_method_16_code 12 = .ok (.aload_n 0, 1) := by decide +kernel
theorem d_s_value_13 : decode prog_1_method_16_code 13 = .ok (.aload_n 0, 1) := by decide +kernel
theorem d_s_value_14 : decode prog_1_method_16_code 14 = .ok (.getfield 31, 3) := by decide +kernel
theorem d_s_value_17 : decode prog_1_method_16_code 17 = .ok (.invokevirtual 86, 3) := by decide +kernel
theorem d_s_value_20 : decode prog_1_method_16_code 20 = .ok (.ireturn, 1) := by decide +kernel
abbrev M_s_valueOrZero : rsM := (⟨"RunStore", "valueOrZero", "(I)I"⟩, prog_1_method_37_code, 3, some .int, [])
theorem d_s_valueOrZero_0 : decode prog_1_method_37_code 0 = .ok (.aload_n 0, 1) := by decide +kernel
theorem d_s_valueOrZero_1 : decode prog_1_method_37_code 1 = .ok (.iload_n 1, 1) := by decide +kernel
theorem d_s_valueOrZero_2 : decode prog_1_method_37_code 2 = .ok (.invokevirtual 179, 3) := by decide +kernel
theorem d_s_valueOrZero_5 : decode prog_1_method_37_code 5 = .ok (.astore_n 2, 1) := by decide +kernel
theorem d_s_valueOrZero_6 : decode prog_1_method_37_code 6 = .ok (.aload_n 2, 1) := by decide +kernel
theorem d_s_valueOrZero_7 : decode prog_1_method_37_code 7 = .ok (.ifnonnull 7, 3) := by decide +kernel
theorem d_s_valueOrZero_10 : decode prog_1_method_37_code 10 = .ok (.iconst 0, 1) := by decide +kernel
theorem d_s_valueOrZero_11 : decode prog_1_method_37_code 11 = .ok (.goto 8, 3) := by decide +kernel
theorem d_s_valueOrZero_14 : decode prog_1_method_37_code 14 = .ok (.aload_n 2, 1) := by decide +kernel
theorem d_s_valueOrZero_15 : decode prog_1_method_37_code 15 = .ok (.iload_n 1, 1) := by decide +kernel
theorem d_s_valueOrZero_16 : decode prog_1_method_37_code 16 = .ok (.invokevirtual 186, 3) := by decide +kernel
theorem d_s_valueOrZero_19 : decode prog_1_method_37_code 19 = .ok (.ireturn, 1) := by decide +kernel
abbrev M_s_newestWith : rsM := (⟨"RunStore", "newestWith", "(I)LRunStore$Entries;"⟩, prog_1_method_38_code, 2, some (.object "RunStore$Entries"), [])
theorem d_s_newestWith_0 : decode prog_1_method_38_code 0 = .ok (.aload_n 0, 1) := by decide +kernel
theorem d_s_newestWith_1 : decode prog_1_method_38_code 1 = .ok (.getfield 10, 3) := by decide +kernel
theorem d_s_newestWith_4 : decode prog_1_method_38_code 4 = .ok (.iload_n 1, 1) := by decide +kernel
theorem d_s_newestWith_5 : decode prog_1_method_38_code 5 = .ok (.invokevirtual 159, 3) := by decide +kernel
theorem d_s_newestWith_8 : decode prog_1_method_38_code 8 = .ok (.ifCond .eq 10, 3) := by decide +kernel
theorem d_s_newestWith_11 : decode prog_1_method_38_code 11 = .ok (.aload_n 0, 1) := by decide +kernel
theorem d_s_newestWith_12 : decode prog_1_method_38_code 12 = .ok (.getfield 10, 3) := by decide +kernel
theorem d_s_newestWith_15 : decode prog_1_method_38_code 15 = .ok (.goto 11, 3) := by decide +kernel
theorem d_s_newestWith_18 : decode prog_1_method_38_code 18 = .ok (.aload_n 0, 1) := by decide +kernel
theorem d_s_newestWith_19 : decode prog_1_method_38_code 19 = .ok (.getfield 19, 3) := by decide +kernel
theorem d_s_newestWith_22 : decode prog_1_method_38_code 22 = .ok (.iload_n 1, 1) := by decide +kernel
theorem d_s_newestWith_23 : decode prog_1_method_38_code 23 = .ok (.invokevirtual 189, 3) := by decide +kernel
theorem d_s_newestWith_26 : decode prog_1_method_38_code 26 = .ok (.areturn, 1) := by decide +kernel
abbrev M_e_holds : rsM := (⟨"RunStore$Entries", "holds", "(I)Z"⟩, prog_3_method_4_code, 2, some .boolean, [])
theorem d_e_holds_0 : decode prog_3_method_4_code 0 = .ok (.aload_n 0, 1) := by decide +kernel
theorem d_e_holds_1 : decode prog_3_method_4_code 1 = .ok (.getfield 9, 3) := by decide +kernel
theorem d_e_holds_4 : decode prog_3_method_4_code 4 = .ok (.iload_n 1, 1) := by decide +kernel
theorem d_e_holds_5 : decode prog_3_method_4_code 5 = .ok (.iaload, 1) := by decide +kernel
theorem d_e_holds_6 : decode prog_3_method_4_code 6 = .ok (.ifCond .eq 7, 3) := by decide +kernel
theorem d_e_holds_9 : decode prog_3_method_4_code 9 = .ok (.iconst 1, 1) := by decide +kernel
theorem d_e_holds_10 : decode prog_3_method_4_code 10 = .ok (.goto 4, 3) := by decide +kernel
theorem d_e_holds_13 : decode prog_3_method_4_code 13 = .ok (.iconst 0, 1) := by decide +kernel
theorem d_e_holds_14 : decode prog_3_method_4_code 14 = .ok (.ireturn, 1) := by decide +kernel
abbrev M_d_newestRunWith : rsM := (⟨"RunStore$Disk", "newestRunWith", "(I)LRunStore$Entries;"⟩, prog_2_method_8_code, 4, some (.object "RunStore$Entries"), [])
theorem d_d_newestRunWith_0 : decode prog_2_method_8_code 0 = .ok (.aload_n 0, 1) := by decide +kernel
theorem d_d_newestRunWith_1 : decode prog_2_method_8_code 1 = .ok (.invokevirtual 36, 3) := by decide +kernel
theorem d_d_newestRunWith_4 : decode prog_2_method_8_code 4 = .ok (.istore_n 2, 1) := by decide +kernel
theorem d_d_newestRunWith_5 : decode prog_2_method_8_code 5 = .ok (.iconst 0, 1) := by decide +kernel
theorem d_d_newestRunWith_6 : decode prog_2_method_8_code 6 = .ok (.istore_n 3, 1) := by decide +kernel
theorem d_d_newestRunWith_7 : decode prog_2_method_8_code 7 = .ok (.iload_n 3, 1) := by decide +kernel
theorem d_d_newestRunWith_8 : decode prog_2_method_8_code 8 = .ok (.iload_n 2, 1) := by decide +kernel
theorem d_d_newestRunWith_9 : decode prog_2_method_8_code 9 = .ok (.if_icmp .ge 29, 3) := by decide +kernel
theorem d_d_newestRunWith_12 : decode prog_2_method_8_code 12 = .ok (.aload_n 0, 1) := by decide +kernel
theorem d_d_newestRunWith_13 : decode prog_2_method_8_code 13 = .ok (.getfield 11, 3) := by decide +kernel
theorem d_d_newestRunWith_16 : decode prog_2_method_8_code 16 = .ok (.iload_n 3, 1) := by decide +kernel
theorem d_d_newestRunWith_17 : decode prog_2_method_8_code 17 = .ok (.aaload, 1) := by decide +kernel
theorem d_d_newestRunWith_18 : decode prog_2_method_8_code 18 = .ok (.iload_n 1, 1) := by decide +kernel
theorem d_d_newestRunWith_19 : decode prog_2_method_8_code 19 = .ok (.invokevirtual 43, 3) := by decide +kernel
theorem d_d_newestRunWith_22 : decode prog_2_method_8_code 22 = .ok (.ifCond .eq 10, 3) := by decide +kernel
theorem d_d_newestRunWith_25 : decode prog_2_method_8_code 25 = .ok (.aload_n 0, 1) := by decide +kernel
theorem d_d_newestRunWith_26 : decode prog_2_method_8_code 26 = .ok (.getfield 11, 3) := by decide +kernel
theorem d_d_newestRunWith_29 : decode prog_2_method_8_code 29 = .ok (.iload_n 3, 1) := by decide +kernel
theorem d_d_newestRunWith_30 : decode prog_2_method_8_code 30 = .ok (.aaload, 1) := by decide +kernel
theorem d_d_newestRunWith_31 : decode prog_2_method_8_code 31 = .ok (.areturn, 1) := by decide +kernel
theorem d_d_newestRunWith_32 : decode prog_2_method_8_code 32 = .ok (.iinc 3 1, 3) := by decide +kernel
theorem d_d_newestRunWith_35 : decode prog_2_method_8_code 35 = .ok (.goto (-28), 3) := by decide +kernel
theorem d_d_newestRunWith_38 : decode prog_2_method_8_code 38 = .ok (.aconst_null, 1) := by decide +kernel
theorem d_d_newestRunWith_39 : decode prog_2_method_8_code 39 = .ok (.areturn, 1) := by decide +kernel
abbrev M_d_countRuns : rsM := (⟨"RunStore$Disk", "countRuns", "()I"⟩, prog_2_method_5_code, 1, some .int, [])
theorem d_d_countRuns_0 : decode prog_2_method_5_code 0 = .ok (.aload_n 0, 1) := by decide +kernel
theorem d_d_countRuns_1 : decode prog_2_method_5_code 1 = .ok (.iconst 3, 1) := by decide +kernel
theorem d_d_countRuns_2 : decode prog_2_method_5_code 2 = .ok (.invokevirtual 32, 3) := by decide +kernel
theorem d_d_countRuns_5 : decode prog_2_method_5_code 5 = .ok (.ireturn, 1) := by decide +kernel
abbrev M_d_firstPlaceOf : rsM := (⟨"RunStore$Disk", "firstPlaceOf", "(I)I"⟩, prog_2_method_14_code, 4, some .int, [])
theorem d_d_firstPlaceOf_0 : decode prog_2_method_14_code 0 = .ok (.iconst 0, 1) := by decide +kernel
theorem d_d_firstPlaceOf_1 : decode prog_2_method_14_code 1 = .ok (.istore_n 2, 1) := by decide +kernel
theorem d_d_firstPlaceOf_2 : decode prog_2_method_14_code 2 = .ok (.iconst 0, 1) := by decide +kernel
theorem d_d_firstPlaceOf_3 : decode prog_2_method_14_code 3 = .ok (.istore_n 3, 1) := by decide +kernel
theorem d_d_firstPlaceOf_4 : decode prog_2_method_14_code 4 = .ok (.iload_n 3, 1) := by decide +kernel
theorem d_d_firstPlaceOf_5 : decode prog_2_method_14_code 5 = .ok (.iload_n 1, 1) := by decide +kernel
theorem d_d_firstPlaceOf_6 : decode prog_2_method_14_code 6 = .ok (.if_icmp .ge 18, 3) := by decide +kernel
theorem d_d_firstPlaceOf_9 : decode prog_2_method_14_code 9 = .ok (.iload_n 2, 1) := by decide +kernel
theorem d_d_firstPlaceOf_10 : decode prog_2_method_14_code 10 = .ok (.aload_n 0, 1) := by decide +kernel
theorem d_d_firstPlaceOf_11 : decode prog_2_method_14_code 11 = .ok (.getfield 18, 3) := by decide +kernel
theorem d_d_firstPlaceOf_14 : decode prog_2_method_14_code 14 = .ok (.iload_n 3, 1) := by decide +kernel
theorem d_d_firstPlaceOf_15 : decode prog_2_method_14_code 15 = .ok (.iaload, 1) := by decide +kernel
theorem d_d_firstPlaceOf_16 : decode prog_2_method_14_code 16 = .ok (.iadd, 1) := by decide +kernel
theorem d_d_firstPlaceOf_17 : decode prog_2_method_14_code 17 = .ok (.istore_n 2, 1) := by decide +kernel
theorem d_d_firstPlaceOf_18 : decode prog_2_method_14_code 18 = .ok (.iinc 3 1, 3) := by decide +kernel
theorem d_d_firstPlaceOf_21 : decode prog_2_method_14_code 21 = .ok (.goto (-17), 3) := by decide +kernel
theorem d_d_firstPlaceOf_24 : decode prog_2_method_14_code 24 = .ok (.iload_n 2, 1) := by decide +kernel
theorem d_d_firstPlaceOf_25 : decode prog_2_method_14_code 25 = .ok (.ireturn, 1) := by decide +kernel
abbrev M_e_valueAt : rsM := (⟨"RunStore$Entries", "valueAt", "(I)I"⟩, prog_3_method_6_code, 2, some .int, [])
theorem d_e_valueAt_0 : decode prog_3_method_6_code 0 = .ok (.aload_n 0, 1) := by decide +kernel
theorem d_e_valueAt_1 : decode prog_3_method_6_code 1 = .ok (.getfield 15, 3) := by decide +kernel
theorem d_e_valueAt_4 : decode prog_3_method_6_code 4 = .ok (.iload_n 1, 1) := by decide +kernel
theorem d_e_valueAt_5 : decode prog_3_method_6_code 5 = .ok (.iaload, 1) := by decide +kernel
theorem d_e_valueAt_6 : decode prog_3_method_6_code 6 = .ok (.ireturn, 1) := by decide +kernel
abbrev M_s_memory : rsM := (⟨"RunStore", "memory", "()I"⟩, prog_1_method_18_code, 1, some .int, [])
theorem d_s_memory_0 : decode prog_1_method_18_code 0 = .ok (.aload_n 0, 1) := by decide +kernel
theorem d_s_memory_1 : decode prog_1_method_18_code 1 = .ok (.getfield 23, 3) := by decide +kernel
theorem d_s_memory_4 : decode prog_1_method_18_code 4 = .ok (.ifCond .eq 13, 3) := by decide +kernel
theorem d_s_memory_7 : decode prog_1_method_18_code 7 = .ok (.aload_n 0, 1) := by decide +kernel
theorem d_s_memory_8 : decode prog_1_method_18_code 8 = .ok (.getfield 10, 3) := by decide +kernel
theorem d_s_memory_11 : decode prog_1_method_18_code 11 = .ok (.invokevirtual 71, 3) := by decide +kernel
theorem d_s_memory_14 : decode prog_1_method_18_code 14 = .ok (.goto 4, 3) := by decide +kernel
theorem d_s_memory_17 : decode prog_1_method_18_code 17 = .ok (.iconst (-1), 1) := by decide +kernel
theorem d_s_memory_18 : decode prog_1_method_18_code 18 = .ok (.ireturn, 1) := by decide +kernel
abbrev M_e_count : rsM := (⟨"RunStore$Entries", "count", "()I"⟩, prog_3_method_2_code, 1, some .int, [])
theorem d_e_count_0 : decode prog_3_method_2_code 0 = .ok (.aload_n 0, 1) := by decide +kernel
theorem d_e_count_1 : decode prog_3_method_2_code 1 = .ok (.getfield 18, 3) := by decide +kernel
theorem d_e_count_4 : decode prog_3_method_2_code 4 = .ok (.ireturn, 1) := by decide +kernel
abbrev M_s_format : rsM := (⟨"RunStore", "format", "()V"⟩, prog_1_method_2_code, 1, none, [])
theorem d_s_format_0 : decode prog_1_method_2_code 0 = .ok (.aload_n 0, 1) := by decide +kernel
theorem d_s_format_1 : decode prog_1_method_2_code 1 = .ok (.iconst 1, 1) := by decide +kernel
theorem d_s_format_2 : decode prog_1_method_2_code 2 = .ok (.invokevirtual 34, 3) := by decide +kernel
theorem d_s_format_5 : decode prog_1_method_2_code 5 = .ok (.aload_n 0, 1) := by decide +kernel
theorem d_s_format_6 : decode prog_1_method_2_code 6 = .ok (.getfield 19, 3) := by decide +kernel
theorem d_s_format_9 : decode prog_1_method_2_code 9 = .ok (.invokevirtual 38, 3) := by decide +kernel
theorem d_s_format_12 : decode prog_1_method_2_code 12 = .ok (.aload_n 0, 1) := by decide +kernel
theorem d_s_format_13 : decode prog_1_method_2_code 13 = .ok (.invokevirtual 41, 3) := by decide +kernel
theorem d_s_format_16 : decode prog_1_method_2_code 16 = .ok (.return_, 1) := by decide +kernel
abbrev M_s_spendWrites : rsM := (⟨"RunStore", "spendWrites", "(I)V"⟩, prog_1_method_29_code, 2, none, [])
theorem d_s_spendWrites_0 : decode prog_1_method_29_code 0 = .ok (.aload_n 0, 1) := by decide +kernel
theorem d_s_spendWrites_1 : decode prog_1_method_29_code 1 = .ok (.getfield 27, 3) := by decide +kernel
theorem d_s_spendWrites_4 : decode prog_1_method_29_code 4 = .ok (.iconst (-1), 1) := by decide +kernel
theorem d_s_spendWrites_5 : decode prog_1_method_29_code 5 = .ok (.if_icmp .ne 4, 3) := by decide +kernel
theorem d_s_spendWrites_8 : decode prog_1_method_29_code 8 = .ok (.return_, 1) := by decide +kernel
theorem d_s_spendWrites_9 : decode prog_1_method_29_code 9 = .ok (.aload_n 0, 1) := by decide +kernel
theorem d_s_spendWrites_10 : decode prog_1_method_29_code 10 = .ok (.getfield 27, 3) := by decide +kernel
theorem d_s_spendWrites_13 : decode prog_1_method_29_code 13 = .ok (.iload_n 1, 1) := by decide +kernel
theorem d_s_spendWrites_14 : decode prog_1_method_29_code 14 = .ok (.if_icmp .ge 17, 3) := by decide +kernel
theorem d_s_spendWrites_17 : decode prog_1_method_29_code 17 = .ok (.aload_n 0, 1) := by decide +kernel
theorem d_s_spendWrites_18 : decode prog_1_method_29_code 18 = .ok (.invokevirtual 142, 3) := by decide +kernel
theorem d_s_spendWrites_21 : decode prog_1_method_29_code 21 = .ok (.new 44, 3) := by decide +kernel
theorem d_s_spendWrites_24 : decode prog_1_method_29_code 24 = .ok (.dup, 1) := by decide +kernel
theorem d_s_spendWrites_25 : decode prog_1_method_29_code 25 = .ok (.ldc 145, 2) := by decide +kernel
theorem d_s_spendWrites_27 : decode prog_1_method_29_code 27 = .ok (.invokespecial 48, 3) := by decide +kernel
theorem d_s_spendWrites_30 : decode prog_1_method_29_code 30 = .ok (.athrow, 1) := by decide +kernel
theorem d_s_spendWrites_31 : decode prog_1_method_29_code 31 = .ok (.aload_n 0, 1) := by decide +kernel
theorem d_s_spendWrites_32 : decode prog_1_method_29_code 32 = .ok (.dup, 1) := by decide +kernel
theorem d_s_spendWrites_33 : decode prog_1_method_29_code 33 = .ok (.getfield 27, 3) := by decide +kernel
theorem d_s_spendWrites_36 : decode prog_1_method_29_code 36 = .ok (.iload_n 1, 1) := by decide +kernel
theorem d_s_spendWrites_37 : decode prog_1_method_29_code 37 = .ok (.isub, 1) := by decide +kernel
theorem d_s_spendWrites_38 : decode prog_1_method_29_code 38 = .ok (.putfield 27, 3) := by decide +kernel
theorem d_s_spendWrites_41 : decode prog_1_method_29_code 41 = .ok (.return_, 1) := by decide +kernel
abbrev M_s_goDown : rsM := (⟨"RunStore", "goDown", "()V"⟩, prog_1_method_28_code, 1, none, [])
theorem d_s_goDown_0 : decode prog_1_method_28_code 0 = .ok (.aload_n 0, 1) := by decide +kernel
theorem d_s_goDown_1 : decode prog_1_method_28_code 1 = .ok (.getfield 10, 3) := by decide +kernel
theorem d_s_goDown_4 : decode prog_1_method_28_code 4 = .ok (.invokevirtual 139, 3) := by decide +kernel
theorem d_s_goDown_7 : decode prog_1_method_28_code 7 = .ok (.aload_n 0, 1) := by decide +kernel
theorem d_s_goDown_8 : decode prog_1_method_28_code 8 = .ok (.iconst (-1), 1) := by decide +kernel
theorem d_s_goDown_9 : decode prog_1_method_28_code 9 = .ok (.putfield 31, 3) := by decide +kernel
theorem d_s_goDown_12 : decode prog_1_method_28_code 12 = .ok (.aload_n 0, 1) := by decide +kernel
theorem d_s_goDown_13 : decode prog_1_method_28_code 13 = .ok (.iconst (-1), 1) := by decide +kernel
theorem d_s_goDown_14 : decode prog_1_method_28_code 14 = .ok (.putfield 27, 3) := by decide +kernel
theorem d_s_goDown_17 : decode prog_1_method_28_code 17 = .ok (.aload_n 0, 1) := by decide +kernel
theorem d_s_goDown_18 : decode prog_1_method_28_code 18 = .ok (.iconst 0, 1) := by decide +kernel
theorem d_s_goDown_19 : decode prog_1_method_28_code 19 = .ok (.putfield 23, 3) := by decide +kernel
theorem d_s_goDown_22 : decode prog_1_method_28_code 22 = .ok (.return_, 1) := by decide +kernel
abbrev M_e_clear : rsM := (⟨"RunStore$Entries", "clear", "()V"⟩, prog_3_method_9_code, 1, none, [])
theorem d_e_clear_0 : decode prog_3_method_9_code 0 = .ok (.aload_n 0, 1) := by decide +kernel
theorem d_e_clear_1 : decode prog_3_method_9_code 1 = .ok (.getfield 9, 3) := by decide +kernel
theorem d_e_clear_4 : decode prog_3_method_9_code 4 = .ok (.iconst 0, 1) := by decide +kernel
theorem d_e_clear_5 : decode prog_3_method_9_code 5 = .ok (.invokestatic 26, 3) := by decide +kernel
theorem d_e_clear_8 : decode prog_3_method_9_code 8 = .ok (.aload_n 0, 1) := by decide +kernel
theorem d_e_clear_9 : decode prog_3_method_9_code 9 = .ok (.iconst 0, 1) := by decide +kernel
theorem d_e_clear_10 : decode prog_3_method_9_code 10 = .ok (.putfield 18, 3) := by decide +kernel
theorem d_e_clear_13 : decode prog_3_method_9_code 13 = .ok (.return_, 1) := by decide +kernel
abbrev M_a_fill : rsM := (⟨"java/util/Arrays", "fill", "([II)V"⟩, prog_14_method_103_code, 4, none, [])
theorem d_a_fill_0 : decode prog_14_method_103_code 0 = .ok (.iconst 0, 1) := by decide +kernel
theorem d_a_fill_1 : decode prog_14_method_103_code 1 = .ok (.istore_n 2, 1) := by decide +kernel
theorem d_a_fill_2 : decode prog_14_method_103_code 2 = .ok (.aload_n 0, 1) := by decide +kernel
theorem d_a_fill_3 : decode prog_14_method_103_code 3 = .ok (.arraylength, 1) := by decide +kernel
theorem d_a_fill_4 : decode prog_14_method_103_code 4 = .ok (.istore_n 3, 1) := by decide +kernel
theorem d_a_fill_5 : decode prog_14_method_103_code 5 = .ok (.iload_n 2, 1) := by decide +kernel
theorem d_a_fill_6 : decode prog_14_method_103_code 6 = .ok (.iload_n 3, 1) := by decide +kernel
theorem d_a_fill_7 : decode prog_14_method_103_code 7 = .ok (.if_icmp .ge 13, 3) := by decide +kernel
theorem d_a_fill_10 : decode prog_14_method_103_code 10 = .ok (.aload_n 0, 1) := by decide +kernel
theorem d_a_fill_11 : decode prog_14_method_103_code 11 = .ok (.iload_n 2, 1) := by decide +kernel
theorem d_a_fill_12 : decode prog_14_method_103_code 12 = .ok (.iload_n 1, 1) := by decide +kernel
theorem d_a_fill_13 : decode prog_14_method_103_code 13 = .ok (.iastore, 1) := by decide +kernel
theorem d_a_fill_14 : decode prog_14_method_103_code 14 = .ok (.iinc 2 1, 3) := by decide +kernel
theorem d_a_fill_17 : decode prog_14_method_103_code 17 = .ok (.goto (-12), 3) := by decide +kernel
theorem d_a_fill_20 : decode prog_14_method_103_code 20 = .ok (.return_, 1) := by decide +kernel
abbrev M_d_makeAnew : rsM := (⟨"RunStore$Disk", "makeAnew", "()V"⟩, prog_2_method_3_code, 1, none, [])
theorem d_d_makeAnew_0 : decode prog_2_method_3_code 0 = .ok (.aload_n 0, 1) := by decide +kernel
theorem d_d_makeAnew_1 : decode prog_2_method_3_code 1 = .ok (.getfield 18, 3) := by decide +kernel
theorem d_d_makeAnew_4 : decode prog_2_method_3_code 4 = .ok (.iconst 0, 1) := by decide +kernel
theorem d_d_makeAnew_5 : decode prog_2_method_3_code 5 = .ok (.invokestatic 26, 3) := by decide +kernel
theorem d_d_makeAnew_8 : decode prog_2_method_3_code 8 = .ok (.aload_n 0, 1) := by decide +kernel
theorem d_d_makeAnew_9 : decode prog_2_method_3_code 9 = .ok (.iconst 1, 1) := by decide +kernel
theorem d_d_makeAnew_10 : decode prog_2_method_3_code 10 = .ok (.putfield 22, 3) := by decide +kernel
theorem d_d_makeAnew_13 : decode prog_2_method_3_code 13 = .ok (.return_, 1) := by decide +kernel
abbrev M_s_comeUp : rsM := (⟨"RunStore", "comeUp", "()V"⟩, prog_1_method_27_code, 1, none, [])
theorem d_s_comeUp_0 : decode prog_1_method_27_code 0 = .ok (.aload_n 0, 1) := by decide +kernel
theorem d_s_comeUp_1 : decode prog_1_method_27_code 1 = .ok (.getfield 10, 3) := by decide +kernel
theorem d_s_comeUp_4 : decode prog_1_method_27_code 4 = .ok (.invokevirtual 139, 3) := by decide +kernel
theorem d_s_comeUp_7 : decode prog_1_method_27_code 7 = .ok (.aload_n 0, 1) := by decide +kernel
theorem d_s_comeUp_8 : decode prog_1_method_27_code 8 = .ok (.iconst (-1), 1) := by decide +kernel
theorem d_s_comeUp_9 : decode prog_1_method_27_code 9 = .ok (.putfield 31, 3) := by decide +kernel
theorem d_s_comeUp_12 : decode prog_1_method_27_code 12 = .ok (.aload_n 0, 1) := by decide +kernel
theorem d_s_comeUp_13 : decode prog_1_method_27_code 13 = .ok (.iconst 1, 1) := by decide +kernel
theorem d_s_comeUp_14 : decode prog_1_method_27_code 14 = .ok (.putfield 23, 3) := by decide +kernel
theorem d_s_comeUp_17 : decode prog_1_method_27_code 17 = .ok (.return_, 1) := by decide +kernel
abbrev M_s_recover : rsM := (⟨"RunStore", "recover", "()I"⟩, prog_1_method_3_code, 1, some .int, [])
theorem d_s_recover_0 : decode prog_1_method_3_code 0 = .ok (.aload_n 0, 1) := by decide +kernel
theorem d_s_recover_1 : decode prog_1_method_3_code 1 = .ok (.getfield 23, 3) := by decide +kernel
theorem d_s_recover_4 : decode prog_1_method_3_code 4 = .ok (.ifCond .eq 13, 3) := by decide +kernel
theorem d_s_recover_7 : decode prog_1_method_3_code 7 = .ok (.new 44, 3) := by decide +kernel
theorem d_s_recover_10 : decode prog_1_method_3_code 10 = .ok (.dup, 1) := by decide +kernel
theorem d_s_recover_11 : decode prog_1_method_3_code 11 = .ok (.ldc 46, 2) := by decide +kernel
theorem d_s_recover_13 : decode prog_1_method_3_code 13 = .ok (.invokespecial 48, 3) := by decide +kernel
theorem d_s_recover_16 : decode prog_1_method_3_code 16 = .ok (.athrow, 1) := by decide +kernel
theorem d_s_recover_17 : decode prog_1_method_3_code 17 = .ok (.aload_n 0, 1) := by decide +kernel
theorem d_s_recover_18 : decode prog_1_method_3_code 18 = .ok (.invokevirtual 51, 3) := by decide +kernel
theorem d_s_recover_21 : decode prog_1_method_3_code 21 = .ok (.aload_n 0, 1) := by decide +kernel
theorem d_s_recover_22 : decode prog_1_method_3_code 22 = .ok (.invokevirtual 41, 3) := by decide +kernel
theorem d_s_recover_25 : decode prog_1_method_3_code 25 = .ok (.aload_n 0, 1) := by decide +kernel
theorem d_s_recover_26 : decode prog_1_method_3_code 26 = .ok (.getfield 19, 3) := by decide +kernel
theorem d_s_recover_29 : decode prog_1_method_3_code 29 = .ok (.invokevirtual 54, 3) := by decide +kernel
theorem d_s_recover_32 : decode prog_1_method_3_code 32 = .ok (.ireturn, 1) := by decide +kernel
abbrev M_s_requireDisk : rsM := (⟨"RunStore", "requireDisk", "()V"⟩, prog_1_method_26_code, 1, none, [])
theorem d_s_requireDisk_0 : decode prog_1_method_26_code 0 = .ok (.aload_n 0, 1) := by decide +kernel
theorem d_s_requireDisk_1 : decode prog_1_method_26_code 1 = .ok (.getfield 19, 3) := by decide +kernel
theorem d_s_requireDisk_4 : decode prog_1_method_26_code 4 = .ok (.invokevirtual 133, 3) := by decide +kernel
theorem d_s_requireDisk_7 : decode prog_1_method_26_code 7 = .ok (.ifCond .ne 13, 3) := by decide +kernel
theorem d_s_requireDisk_10 : decode prog_1_method_26_code 10 = .ok (.new 44, 3) := by decide +kernel
theorem d_s_requireDisk_13 : decode prog_1_method_26_code 13 = .ok (.dup, 1) := by decide +kernel
theorem d_s_requireDisk_14 : decode prog_1_method_26_code 14 = .ok (.ldc 137, 2) := by decide +kernel
theorem d_s_requireDisk_16 : decode prog_1_method_26_code 16 = .ok (.invokespecial 48, 3) := by decide +kernel
theorem d_s_requireDisk_19 : decode prog_1_method_26_code 19 = .ok (.athrow, 1) := by decide +kernel
theorem d_s_requireDisk_20 : decode prog_1_method_26_code 20 = .ok (.return_, 1) := by decide +kernel
abbrev M_d_isMade : rsM := (⟨"RunStore$Disk", "isMade", "()Z"⟩, prog_2_method_2_code, 1, some .boolean, [])
theorem d_d_isMade_0 : decode prog_2_method_2_code 0 = .ok (.aload_n 0, 1) := by decide +kernel
theorem d_d_isMade_1 : decode prog_2_method_2_code 1 = .ok (.getfield 22, 3) := by decide +kernel
theorem d_d_isMade_4 : decode prog_2_method_2_code 4 = .ok (.ireturn, 1) := by decide +kernel
abbrev M_s_put : rsM := (⟨"RunStore", "put", "(II)I"⟩, prog_1_method_4_code, 3, some .int, [])
theorem d_s_put_0 : decode prog_1_method_4_code 0 = .ok (.iload_n 1, 1) := by decide +kernel
theorem d_s_put_1 : decode prog_1_method_4_code 1 = .ok (.invokestatic 58, 3) := by decide +kernel
theorem d_s_put_4 : decode prog_1_method_4_code 4 = .ok (.aload_n 0, 1) := by decide +kernel
theorem d_s_put_5 : decode prog_1_method_4_code 5 = .ok (.invokevirtual 61, 3) := by decide +kernel
theorem d_s_put_8 : decode prog_1_method_4_code 8 = .ok (.aload_n 0, 1) := by decide +kernel
theorem d_s_put_9 : decode prog_1_method_4_code 9 = .ok (.iload_n 1, 1) := by decide +kernel
theorem d_s_put_10 : decode prog_1_method_4_code 10 = .ok (.invokevirtual 64, 3) := by decide +kernel
theorem d_s_put_13 : decode prog_1_method_4_code 13 = .ok (.aload_n 0, 1) := by decide +kernel
theorem d_s_put_14 : decode prog_1_method_4_code 14 = .ok (.getfield 10, 3) := by decide +kernel
theorem d_s_put_17 : decode prog_1_method_4_code 17 = .ok (.iload_n 1, 1) := by decide +kernel
theorem d_s_put_18 : decode prog_1_method_4_code 18 = .ok (.iload_n 2, 1) := by decide +kernel
theorem d_s_put_19 : decode prog_1_method_4_code 19 = .ok (.invokevirtual 67, 3) := by decide +kernel
theorem d_s_put_22 : decode prog_1_method_4_code 22 = .ok (.aload_n 0, 1) := by decide +kernel
theorem d_s_put_23 : decode prog_1_method_4_code 23 = .ok (.iconst (-1), 1) := by decide +kernel
theorem d_s_put_24 : decode prog_1_method_4_code 24 = .ok (.putfield 31, 3) := by decide +kernel
theorem d_s_put_27 : decode prog_1_method_4_code 27 = .ok (.aload_n 0, 1) := by decide +kernel
theorem d_s_put_28 : decode prog_1_method_4_code 28 = .ok (.getfield 10, 3) := by decide +kernel
theorem d_s_put_31 : decode prog_1_method_4_code 31 = .ok (.invokevirtual 71, 3) := by decide +kernel
theorem d_s_put_34 : decode prog_1_method_4_code 34 = .ok (.ireturn, 1) := by decide +kernel
abbrev M_s_requireKey : rsM := (⟨"RunStore", "requireKey", "(I)V"⟩, prog_1_method_23_code, 1, none, [])
theorem d_s_requireKey_0 : decode prog_1_method_23_code 0 = .ok (.iload_n 0, 1) := by decide +kernel
theorem d_s_requireKey_1 : decode prog_1_method_23_code 1 = .ok (.ifCond .lt 9, 3) := by decide +kernel
theorem d_s_requireKey_4 : decode prog_1_method_23_code 4 = .ok (.iload_n 0, 1) := by decide +kernel
theorem d_s_requireKey_5 : decode prog_1_method_23_code 5 = .ok (.bipush 100, 2) := by decide +kernel
theorem d_s_requireKey_7 : decode prog_1_method_23_code 7 = .ok (.if_icmp .lt 13, 3) := by decide +kernel
theorem d_s_requireKey_10 : decode prog_1_method_23_code 10 = .ok (.new 102, 3) := by decide +kernel
theorem d_s_requireKey_13 : decode prog_1_method_23_code 13 = .ok (.dup, 1) := by decide +kernel
theorem d_s_requireKey_14 : decode prog_1_method_23_code 14 = .ok (.ldc 127, 2) := by decide +kernel
theorem d_s_requireKey_16 : decode prog_1_method_23_code 16 = .ok (.invokespecial 106, 3) := by decide +kernel
theorem d_s_requireKey_19 : decode prog_1_method_23_code 19 = .ok (.athrow, 1) := by decide +kernel
theorem d_s_requireKey_20 : decode prog_1_method_23_code 20 = .ok (.return_, 1) := by decide +kernel
abbrev M_s_requireUp : rsM := (⟨"RunStore", "requireUp", "()V"⟩, prog_1_method_25_code, 1, none, [])
theorem d_s_requireUp_0 : decode prog_1_method_25_code 0 = .ok (.aload_n 0, 1) := by decide +kernel
theorem d_s_requireUp_1 : decode prog_1_method_25_code 1 = .ok (.getfield 23, 3) := by decide +kernel
theorem d_s_requireUp_4 : decode prog_1_method_25_code 4 = .ok (.ifCond .ne 13, 3) := by decide +kernel
theorem d_s_requireUp_7 : decode prog_1_method_25_code 7 = .ok (.new 44, 3) := by decide +kernel
theorem d_s_requireUp_10 : decode prog_1_method_25_code 10 = .ok (.dup, 1) := by decide +kernel
theorem d_s_requireUp_11 : decode prog_1_method_25_code 11 = .ok (.ldc 131, 2) := by decide +kernel
theorem d_s_requireUp_13 : decode prog_1_method_25_code 13 = .ok (.invokespecial 48, 3) := by decide +kernel
theorem d_s_requireUp_16 : decode prog_1_method_25_code 16 = .ok (.athrow, 1) := by decide +kernel
theorem d_s_requireUp_17 : decode prog_1_method_25_code 17 = .ok (.return_, 1) := by decide +kernel
abbrev M_s_makePlaceInMemory : rsM := (⟨"RunStore", "makePlaceInMemory", "(I)V"⟩, prog_1_method_31_code, 2, none, [])
theorem d_s_makePlaceInMemory_0 : decode prog_1_method_31_code 0 = .ok (.aload_n 0, 1) := by decide +kernel
theorem d_s_makePlaceInMemory_1 : decode prog_1_method_31_code 1 = .ok (.getfield 10, 3) := by decide +kernel
theorem d_s_makePlaceInMemory_4 : decode prog_1_method_31_code 4 = .ok (.invokevirtual 71, 3) := by decide +kernel
theorem d_s_makePlaceInMemory_7 : decode prog_1_method_31_code 7 = .ok (.bipush 8, 2) := by decide +kernel
theorem d_s_makePlaceInMemory_9 : decode prog_1_method_31_code 9 = .ok (.if_icmp .lt 19, 3) := by decide +kernel
theorem d_s_makePlaceInMemory_12 : decode prog_1_method_31_code 12 = .ok (.aload_n 0, 1) := by decide +kernel
theorem d_s_makePlaceInMemory_13 : decode prog_1_method_31_code 13 = .ok (.getfield 10, 3) := by decide +kernel
theorem d_s_makePlaceInMemory_16 : decode prog_1_method_31_code 16 = .ok (.iload_n 1, 1) := by decide +kernel
theorem d_s_makePlaceInMemory_17 : decode prog_1_method_31_code 17 = .ok (.invokevirtual 159, 3) := by decide +kernel
theorem d_s_makePlaceInMemory_20 : decode prog_1_method_31_code 20 = .ok (.ifCond .ne 8, 3) := by decide +kernel
theorem d_s_makePlaceInMemory_23 : decode prog_1_method_31_code 23 = .ok (.aload_n 0, 1) := by decide +kernel
theorem d_s_makePlaceInMemory_24 : decode prog_1_method_31_code 24 = .ok (.invokevirtual 90, 3) := by decide +kernel
theorem d_s_makePlaceInMemory_27 : decode prog_1_method_31_code 27 = .ok (.pop, 1) := by decide +kernel
theorem d_s_makePlaceInMemory_28 : decode prog_1_method_31_code 28 = .ok (.return_, 1) := by decide +kernel
abbrev M_s_flushMemory : rsM := (⟨"RunStore", "flushMemory", "()I"⟩, prog_1_method_32_code, 2, some .int, [])
theorem d_s_flushMemory_0 : decode prog_1_method_32_code 0 = .ok (.aload_n 0, 1) := by decide +kernel
theorem d_s_flushMemory_1 : decode prog_1_method_32_code 1 = .ok (.getfield 10, 3) := by decide +kernel
theorem d_s_flushMemory_4 : decode prog_1_method_32_code 4 = .ok (.invokevirtual 71, 3) := by decide +kernel
theorem d_s_flushMemory_7 : decode prog_1_method_32_code 7 = .ok (.istore_n 1, 1) := by decide +kernel
theorem d_s_flushMemory_8 : decode prog_1_method_32_code 8 = .ok (.iload_n 1, 1) := by decide +kernel
theorem d_s_flushMemory_9 : decode prog_1_method_32_code 9 = .ok (.ifCond .ne 5, 3) := by decide +kernel
theorem d_s_flushMemory_12 : decode prog_1_method_32_code 12 = .ok (.iconst 0, 1) := by decide +kernel
theorem d_s_flushMemory_13 : decode prog_1_method_32_code 13 = .ok (.ireturn, 1) := by decide +kernel
theorem d_s_flushMemory_14 : decode prog_1_method_32_code 14 = .ok (.aload_n 0, 1) := by decide +kernel
theorem d_s_flushMemory_15 : decode prog_1_method_32_code 15 = .ok (.getfield 19, 3) := by decide +kernel
theorem d_s_flushMemory_18 : decode prog_1_method_32_code 18 = .ok (.aload_n 0, 1) := by decide +kernel
theorem d_s_flushMemory_19 : decode prog_1_method_32_code 19 = .ok (.getfield 10, 3) := by decide +kernel
theorem d_s_flushMemory_22 : decode prog_1_method_32_code 22 = .ok (.invokevirtual 162, 3) := by decide +kernel
theorem d_s_flushMemory_25 : decode prog_1_method_32_code 25 = .ok (.aload_n 0, 1) := by decide +kernel
theorem d_s_flushMemory_26 : decode prog_1_method_32_code 26 = .ok (.aload_n 0, 1) := by decide +kernel
theorem d_s_flushMemory_27 : decode prog_1_method_32_code 27 = .ok (.getfield 19, 3) := by decide +kernel
theorem d_s_flushMemory_30 : decode prog_1_method_32_code 30 = .ok (.invokevirtual 54, 3) := by decide +kernel
theorem d_s_flushMemory_33 : decode prog_1_method_32_code 33 = .ok (.bipush 12, 2) := by decide +kernel
theorem d_s_flushMemory_35 : decode prog_1_method_32_code 35 = .ok (.if_icmp .ge 7, 3) := by decide +kernel
theorem d_s_flushMemory_38 : decode prog_1_method_32_code 38 = .ok (.iconst 1, 1) := by decide +kernel
theorem d_s_flushMemory_39 : decode prog_1_method_32_code 39 = .ok (.goto 4, 3) := by decide +kernel
theorem d_s_flushMemory_42 : decode prog_1_method_32_code 42 = .ok (.iconst 0, 1) := by decide +kernel
theorem d_s_flushMemory_43 : decode prog_1_method_32_code 43 = .ok (.invokevirtual 166, 3) := by decide +kernel
theorem d_s_flushMemory_46 : decode prog_1_method_32_code 46 = .ok (.aload_n 0, 1) := by decide +kernel
theorem d_s_flushMemory_47 : decode prog_1_method_32_code 47 = .ok (.getfield 19, 3) := by decide +kernel
theorem d_s_flushMemory_50 : decode prog_1_method_32_code 50 = .ok (.invokevirtual 170, 3) := by decide +kernel
theorem d_s_flushMemory_53 : decode prog_1_method_32_code 53 = .ok (.aload_n 0, 1) := by decide +kernel
theorem d_s_flushMemory_54 : decode prog_1_method_32_code 54 = .ok (.getfield 10, 3) := by decide +kernel
theorem d_s_flushMemory_57 : decode prog_1_method_32_code 57 = .ok (.invokevirtual 139, 3) := by decide +kernel
theorem d_s_flushMemory_60 : decode prog_1_method_32_code 60 = .ok (.iload_n 1, 1) := by decide +kernel
theorem d_s_flushMemory_61 : decode prog_1_method_32_code 61 = .ok (.ireturn, 1) := by decide +kernel
abbrev M_d_draftFrom : rsM := (⟨"RunStore$Disk", "draftFrom", "(LRunStore$Entries;)V"⟩, prog_2_method_10_code, 2, none, [])
theorem d_d_draftFrom_0 : decode prog_2_method_10_code 0 = .ok (.aload_n 0, 1) := by decide +kernel
theorem d_d_draftFrom_1 : decode prog_2_method_10_code 1 = .ok (.invokevirtual 47, 3) := by decide +kernel
theorem d_d_draftFrom_4 : decode prog_2_method_10_code 4 = .ok (.invokevirtual 51, 3) := by decide +kernel
theorem d_d_draftFrom_7 : decode prog_2_method_10_code 7 = .ok (.aload_n 0, 1) := by decide +kernel
theorem d_d_draftFrom_8 : decode prog_2_method_10_code 8 = .ok (.invokevirtual 47, 3) := by decide +kernel
theorem d_d_draftFrom_11 : decode prog_2_method_10_code 11 = .ok (.aload_n 1, 1) := by decide +kernel
theorem d_d_draftFrom_12 : decode prog_2_method_10_code 12 = .ok (.invokevirtual 54, 3) := by decide +kernel
theorem d_d_draftFrom_15 : decode prog_2_method_10_code 15 = .ok (.return_, 1) := by decide +kernel
abbrev M_d_draft : rsM := (⟨"RunStore$Disk", "draft", "()LRunStore$Entries;"⟩, prog_2_method_9_code, 1, some (.object "RunStore$Entries"), [])
theorem d_d_draft_0 : decode prog_2_method_9_code 0 = .ok (.aload_n 0, 1) := by decide +kernel
theorem d_d_draft_1 : decode prog_2_method_9_code 1 = .ok (.getfield 11, 3) := by decide +kernel
theorem d_d_draft_4 : decode prog_2_method_9_code 4 = .ok (.bipush 12, 2) := by decide +kernel
theorem d_d_draft_6 : decode prog_2_method_9_code 6 = .ok (.aaload, 1) := by decide +kernel
theorem d_d_draft_7 : decode prog_2_method_9_code 7 = .ok (.areturn, 1) := by decide +kernel
abbrev M_e_addOlder : rsM := (⟨"RunStore$Entries", "addOlder", "(LRunStore$Entries;)V"⟩, prog_3_method_10_code, 3, none, [])
theorem d_e_addOlder_0 : decode prog_3_method_10_code 0 = .ok (.iconst 0, 1) := by decide +kernel
theorem d_e_addOlder_1 : decode prog_3_method_10_code 1 = .ok (.istore_n 2, 1) := by decide +kernel
theorem d_e_addOlder_2 : decode prog_3_method_10_code 2 = .ok (.iload_n 2, 1) := by decide +kernel
theorem d_e_addOlder_3 : decode prog_3_method_10_code 3 = .ok (.bipush 100, 2) := by decide +kernel
theorem d_e_addOlder_5 : decode prog_3_method_10_code 5 = .ok (.if_icmp .ge 42, 3) := by decide +kernel
theorem d_e_addOlder_8 : decode prog_3_method_10_code 8 = .ok (.aload_n 0, 1) := by decide +kernel
theorem d_e_addOlder_9 : decode prog_3_method_10_code 9 = .ok (.iload_n 2, 1) := by decide +kernel
theorem d_e_addOlder_10 : decode prog_3_method_10_code 10 = .ok (.invokevirtual 32, 3) := by decide +kernel
theorem d_e_addOlder_13 : decode prog_3_method_10_code 13 = .ok (.ifCond .ne 28, 3) := by decide +kernel
theorem d_e_addOlder_16 : decode prog_3_method_10_code 16 = .ok (.aload_n 1, 1) := by decide +kernel
theorem d_e_addOlder_17 : decode prog_3_method_10_code 17 = .ok (.iload_n 2, 1) := by decide +kernel
theorem d_e_addOlder_18 : decode prog_3_method_10_code 18 = .ok (.invokevirtual 32, 3) := by decide +kernel
theorem d_e_addOlder_21 : decode prog_3_method_10_code 21 = .ok (.ifCond .eq 20, 3) := by decide +kernel
theorem d_e_addOlder_24 : decode prog_3_method_10_code 24 = .ok (.aload_n 0, 1) := by decide +kernel
theorem d_e_addOlder_25 : decode prog_3_method_10_code 25 = .ok (.iload_n 2, 1) := by decide +kernel
theorem d_e_addOlder_26 : decode prog_3_method_10_code 26 = .ok (.aload_n 1, 1) := by decide +kernel
theorem d_e_addOlder_27 : decode prog_3_method_10_code 27 = .ok (.getfield 9, 3) := by decide +kernel
theorem d_e_addOlder_30 : decode prog_3_method_10_code 30 = .ok (.iload_n 2, 1) := by decide +kernel
theorem d_e_addOlder_31 : decode prog_3_method_10_code 31 = .ok (.iaload, 1) := by decide +kernel
theorem d_e_addOlder_32 : decode prog_3_method_10_code 32 = .ok (.aload_n 1, 1) := by decide +kernel
theorem d_e_addOlder_33 : decode prog_3_method_10_code 33 = .ok (.getfield 15, 3) := by decide +kernel
theorem d_e_addOlder_36 : decode prog_3_method_10_code 36 = .ok (.iload_n 2, 1) := by decide +kernel
theorem d_e_addOlder_37 : decode prog_3_method_10_code 37 = .ok (.iaload, 1) := by decide +kernel
theorem d_e_addOlder_38 : decode prog_3_method_10_code 38 = .ok (.invokevirtual 22, 3) := by decide +kernel
theorem d_e_addOlder_41 : decode prog_3_method_10_code 41 = .ok (.iinc 2 1, 3) := by decide +kernel
theorem d_e_addOlder_44 : decode prog_3_method_10_code 44 = .ok (.goto (-42), 3) := by decide +kernel
theorem d_e_addOlder_47 : decode prog_3_method_10_code 47 = .ok (.return_, 1) := by decide +kernel
abbrev M_e_setEntry : rsM := (⟨"RunStore$Entries", "setEntry", "(III)V"⟩, prog_3_method_12_code, 4, none, [])
theorem d_e_setEntry_0 : decode prog_3_method_12_code 0 = .ok (.aload_n 0, 1) := by decide +kernel
theorem d_e_setEntry_1 : decode prog_3_method_12_code 1 = .ok (.iload_n 1, 1) := by decide +kernel
theorem d_e_setEntry_2 : decode prog_3_method_12_code 2 = .ok (.invokevirtual 32, 3) := by decide +kernel
theorem d_e_setEntry_5 : decode prog_3_method_12_code 5 = .ok (.ifCond .ne 13, 3) := by decide +kernel
theorem d_e_setEntry_8 : decode prog_3_method_12_code 8 = .ok (.aload_n 0, 1) := by decide +kernel
theorem d_e_setEntry_9 : decode prog_3_method_12_code 9 = .ok (.dup, 1) := by decide +kernel
theorem d_e_setEntry_10 : decode prog_3_method_12_code 10 = .ok (.getfield 18, 3) := by decide +kernel
theorem d_e_setEntry_13 : decode prog_3_method_12_code 13 = .ok (.iconst 1, 1) := by decide +kernel
theorem d_e_setEntry_14 : decode prog_3_method_12_code 14 = .ok (.iadd, 1) := by decide +kernel
theorem d_e_setEntry_15 : decode prog_3_method_12_code 15 = .ok (.putfield 18, 3) := by decide +kernel
theorem d_e_setEntry_18 : decode prog_3_method_12_code 18 = .ok (.aload_n 0, 1) := by decide +kernel
theorem d_e_setEntry_19 : decode prog_3_method_12_code 19 = .ok (.getfield 9, 3) := by decide +kernel
theorem d_e_setEntry_22 : decode prog_3_method_12_code 22 = .ok (.iload_n 1, 1) := by decide +kernel
theorem d_e_setEntry_23 : decode prog_3_method_12_code 23 = .ok (.iload_n 2, 1) := by decide +kernel
theorem d_e_setEntry_24 : decode prog_3_method_12_code 24 = .ok (.iastore, 1) := by decide +kernel
theorem d_e_setEntry_25 : decode prog_3_method_12_code 25 = .ok (.aload_n 0, 1) := by decide +kernel
theorem d_e_setEntry_26 : decode prog_3_method_12_code 26 = .ok (.getfield 15, 3) := by decide +kernel
theorem d_e_setEntry_29 : decode prog_3_method_12_code 29 = .ok (.iload_n 1, 1) := by decide +kernel
theorem d_e_setEntry_30 : decode prog_3_method_12_code 30 = .ok (.iload_n 3, 1) := by decide +kernel
theorem d_e_setEntry_31 : decode prog_3_method_12_code 31 = .ok (.iastore, 1) := by decide +kernel
theorem d_e_setEntry_32 : decode prog_3_method_12_code 32 = .ok (.return_, 1) := by decide +kernel
abbrev M_s_writeDraft : rsM := (⟨"RunStore", "writeDraft", "(Z)V"⟩, prog_1_method_30_code, 3, none, [])
theorem d_s_writeDraft_0 : decode prog_1_method_30_code 0 = .ok (.aload_n 0, 1) := by decide +kernel
theorem d_s_writeDraft_1 : decode prog_1_method_30_code 1 = .ok (.getfield 19, 3) := by decide +kernel
theorem d_s_writeDraft_4 : decode prog_1_method_30_code 4 = .ok (.invokevirtual 147, 3) := by decide +kernel
theorem d_s_writeDraft_7 : decode prog_1_method_30_code 7 = .ok (.invokevirtual 151, 3) := by decide +kernel
theorem d_s_writeDraft_10 : decode prog_1_method_30_code 10 = .ok (.istore_n 2, 1) := by decide +kernel
theorem d_s_writeDraft_11 : decode prog_1_method_30_code 11 = .ok (.iload_n 1, 1) := by decide +kernel
theorem d_s_writeDraft_12 : decode prog_1_method_30_code 12 = .ok (.ifCond .eq 14, 3) := by decide +kernel
theorem d_s_writeDraft_15 : decode prog_1_method_30_code 15 = .ok (.iload_n 2, 1) := by decide +kernel
theorem d_s_writeDraft_16 : decode prog_1_method_30_code 16 = .ok (.aload_n 0, 1) := by decide +kernel
theorem d_s_writeDraft_17 : decode prog_1_method_30_code 17 = .ok (.getfield 19, 3) := by decide +kernel
theorem d_s_writeDraft_20 : decode prog_1_method_30_code 20 = .ok (.invokevirtual 124, 3) := by decide +kernel
theorem d_s_writeDraft_23 : decode prog_1_method_30_code 23 = .ok (.if_icmp .le 13, 3) := by decide +kernel
theorem d_s_writeDraft_26 : decode prog_1_method_30_code 26 = .ok (.new 154, 3) := by decide +kernel
theorem d_s_writeDraft_29 : decode prog_1_method_30_code 29 = .ok (.dup, 1) := by decide +kernel
theorem d_s_writeDraft_30 : decode prog_1_method_30_code 30 = .ok (.ldc 156, 2) := by decide +kernel
theorem d_s_writeDraft_32 : decode prog_1_method_30_code 32 = .ok (.invokespecial 158, 3) := by decide +kernel
theorem d_s_writeDraft_35 : decode prog_1_method_30_code 35 = .ok (.athrow, 1) := by decide +kernel
theorem d_s_writeDraft_36 : decode prog_1_method_30_code 36 = .ok (.aload_n 0, 1) := by decide +kernel
theorem d_s_writeDraft_37 : decode prog_1_method_30_code 37 = .ok (.iload_n 2, 1) := by decide +kernel
theorem d_s_writeDraft_38 : decode prog_1_method_30_code 38 = .ok (.iconst 1, 1) := by decide +kernel
theorem d_s_writeDraft_39 : decode prog_1_method_30_code 39 = .ok (.iadd, 1) := by decide +kernel
theorem d_s_writeDraft_40 : decode prog_1_method_30_code 40 = .ok (.invokevirtual 34, 3) := by decide +kernel
theorem d_s_writeDraft_43 : decode prog_1_method_30_code 43 = .ok (.return_, 1) := by decide +kernel
abbrev M_e_blocks : rsM := (⟨"RunStore$Entries", "blocks", "()I"⟩, prog_3_method_3_code, 1, some .int, [])
theorem d_e_blocks_0 : decode prog_3_method_3_code 0 = .ok (.aload_n 0, 1) := by decide +kernel
theorem d_e_blocks_1 : decode prog_3_method_3_code 1 = .ok (.getfield 18, 3) := by decide +kernel
theorem d_e_blocks_4 : decode prog_3_method_3_code 4 = .ok (.iconst 4, 1) := by decide +kernel
theorem d_e_blocks_5 : decode prog_3_method_3_code 5 = .ok (.iadd, 1) := by decide +kernel
theorem d_e_blocks_6 : decode prog_3_method_3_code 6 = .ok (.iconst 1, 1) := by decide +kernel
theorem d_e_blocks_7 : decode prog_3_method_3_code 7 = .ok (.isub, 1) := by decide +kernel
theorem d_e_blocks_8 : decode prog_3_method_3_code 8 = .ok (.iconst 4, 1) := by decide +kernel
theorem d_e_blocks_9 : decode prog_3_method_3_code 9 = .ok (.idiv, 1) := by decide +kernel
theorem d_e_blocks_10 : decode prog_3_method_3_code 10 = .ok (.ireturn, 1) := by decide +kernel
abbrev M_d_freeBlocks : rsM := (⟨"RunStore$Disk", "freeBlocks", "()I"⟩, prog_2_method_7_code, 4, some .int, [])
theorem d_d_freeBlocks_0 : decode prog_2_method_7_code 0 = .ok (.bipush 40, 2) := by decide +kernel
theorem d_d_freeBlocks_2 : decode prog_2_method_7_code 2 = .ok (.istore_n 1, 1) := by decide +kernel
theorem d_d_freeBlocks_3 : decode prog_2_method_7_code 3 = .ok (.aload_n 0, 1) := by decide +kernel
theorem d_d_freeBlocks_4 : decode prog_2_method_7_code 4 = .ok (.invokevirtual 36, 3) := by decide +kernel
theorem d_d_freeBlocks_7 : decode prog_2_method_7_code 7 = .ok (.istore_n 2, 1) := by decide +kernel
theorem d_d_freeBlocks_8 : decode prog_2_method_7_code 8 = .ok (.iconst 0, 1) := by decide +kernel
theorem d_d_freeBlocks_9 : decode prog_2_method_7_code 9 = .ok (.istore_n 3, 1) := by decide +kernel
theorem d_d_freeBlocks_10 : decode prog_2_method_7_code 10 = .ok (.iload_n 3, 1) := by decide +kernel
theorem d_d_freeBlocks_11 : decode prog_2_method_7_code 11 = .ok (.iload_n 2, 1) := by decide +kernel
theorem d_d_freeBlocks_12 : decode prog_2_method_7_code 12 = .ok (.if_icmp .ge 21, 3) := by decide +kernel
theorem d_d_freeBlocks_15 : decode prog_2_method_7_code 15 = .ok (.iload_n 1, 1) := by decide +kernel
theorem d_d_freeBlocks_16 : decode prog_2_method_7_code 16 = .ok (.aload_n 0, 1) := by decide +kernel
theorem d_d_freeBlocks_17 : decode prog_2_method_7_code 17 = .ok (.getfield 11, 3) := by decide +kernel
theorem d_d_freeBlocks_20 : decode prog_2_method_7_code 20 = .ok (.iload_n 3, 1) := by decide +kernel
theorem d_d_freeBlocks_21 : decode prog_2_method_7_code 21 = .ok (.aaload, 1) := by decide +kernel
theorem d_d_freeBlocks_22 : decode prog_2_method_7_code 22 = .ok (.invokevirtual 40, 3) := by decide +kernel
theorem d_d_freeBlocks_25 : decode prog_2_method_7_code 25 = .ok (.isub, 1) := by decide +kernel
theorem d_d_freeBlocks_26 : decode prog_2_method_7_code 26 = .ok (.istore_n 1, 1) := by decide +kernel
theorem d_d_freeBlocks_27 : decode prog_2_method_7_code 27 = .ok (.iinc 3 1, 3) := by decide +kernel
theorem d_d_freeBlocks_30 : decode prog_2_method_7_code 30 = .ok (.goto (-20), 3) := by decide +kernel
theorem d_d_freeBlocks_33 : decode prog_2_method_7_code 33 = .ok (.iload_n 1, 1) := by decide +kernel
theorem d_d_freeBlocks_34 : decode prog_2_method_7_code 34 = .ok (.ireturn, 1) := by decide +kernel
abbrev M_d_listDraftAsFlushed : rsM := (⟨"RunStore$Disk", "listDraftAsFlushed", "()V"⟩, prog_2_method_12_code, 1, none, [])
theorem d_d_listDraftAsFlushed_0 : decode prog_2_method_12_code 0 = .ok (.aload_n 0, 1) := by decide +kernel
theorem d_d_listDraftAsFlushed_1 : decode prog_2_method_12_code 1 = .ok (.iconst 0, 1) := by decide +kernel
theorem d_d_listDraftAsFlushed_2 : decode prog_2_method_12_code 2 = .ok (.invokevirtual 65, 3) := by decide +kernel
theorem d_d_listDraftAsFlushed_5 : decode prog_2_method_12_code 5 = .ok (.aload_n 0, 1) := by decide +kernel
theorem d_d_listDraftAsFlushed_6 : decode prog_2_method_12_code 6 = .ok (.getfield 18, 3) := by decide +kernel
theorem d_d_listDraftAsFlushed_9 : decode prog_2_method_12_code 9 = .ok (.iconst 0, 1) := by decide +kernel
theorem d_d_listDraftAsFlushed_10 : decode prog_2_method_12_code 10 = .ok (.dup2, 1) := by decide +kernel
theorem d_d_listDraftAsFlushed_11 : decode prog_2_method_12_code 11 = .ok (.iaload, 1) := by decide +kernel
theorem d_d_listDraftAsFlushed_12 : decode prog_2_method_12_code 12 = .ok (.iconst 1, 1) := by decide +kernel
theorem d_d_listDraftAsFlushed_13 : decode prog_2_method_12_code 13 = .ok (.iadd, 1) := by decide +kernel
theorem d_d_listDraftAsFlushed_14 : decode prog_2_method_12_code 14 = .ok (.iastore, 1) := by decide +kernel
theorem d_d_listDraftAsFlushed_15 : decode prog_2_method_12_code 15 = .ok (.return_, 1) := by decide +kernel
abbrev M_d_moveDraftTo : rsM := (⟨"RunStore$Disk", "moveDraftTo", "(I)V"⟩, prog_2_method_15_code, 4, none, [])
theorem d_d_moveDraftTo_0 : decode prog_2_method_15_code 0 = .ok (.aload_n 0, 1) := by decide +kernel
theorem d_d_moveDraftTo_1 : decode prog_2_method_15_code 1 = .ok (.getfield 11, 3) := by decide +kernel
theorem d_d_moveDraftTo_4 : decode prog_2_method_15_code 4 = .ok (.bipush 12, 2) := by decide +kernel
theorem d_d_moveDraftTo_6 : decode prog_2_method_15_code 6 = .ok (.aaload, 1) := by decide +kernel
theorem d_d_moveDraftTo_7 : decode prog_2_method_15_code 7 = .ok (.astore_n 2, 1) := by decide +kernel
theorem d_d_moveDraftTo_8 : decode prog_2_method_15_code 8 = .ok (.bipush 12, 2) := by decide +kernel
theorem d_d_moveDraftTo_10 : decode prog_2_method_15_code 10 = .ok (.istore_n 3, 1) := by decide +kernel
theorem d_d_moveDraftTo_11 : decode prog_2_method_15_code 11 = .ok (.iload_n 3, 1) := by decide +kernel
theorem d_d_moveDraftTo_12 : decode prog_2_method_15_code 12 = .ok (.iload_n 1, 1) := by decide +kernel
theorem d_d_moveDraftTo_13 : decode prog_2_method_15_code 13 = .ok (.if_icmp .le 23, 3) := by decide +kernel
theorem d_d_moveDraftTo_16 : decode prog_2_method_15_code 16 = .ok (.aload_n 0, 1) := by decide +kernel
theorem d_d_moveDraftTo_17 : decode prog_2_method_15_code 17 = .ok (.getfield 11, 3) := by decide +kernel
theorem d_d_moveDraftTo_20 : decode prog_2_method_15_code 20 = .ok (.iload_n 3, 1) := by decide +kernel
theorem d_d_moveDraftTo_21 : decode prog_2_method_15_code 21 = .ok (.aload_n 0, 1) := by decide +kernel
theorem d_d_moveDraftTo_22 : decode prog_2_method_15_code 22 = .ok (.getfield 11, 3) := by decide +kernel
theorem d_d_moveDraftTo_25 : decode prog_2_method_15_code 25 = .ok (.iload_n 3, 1) := by decide +kernel
theorem d_d_moveDraftTo_26 : decode prog_2_method_15_code 26 = .ok (.iconst 1, 1) := by decide +kernel
theorem d_d_moveDraftTo_27 : decode prog_2_method_15_code 27 = .ok (.isub, 1) := by decide +kernel
theorem d_d_moveDraftTo_28 : decode prog_2_method_15_code 28 = .ok (.aaload, 1) := by decide +kernel
theorem d_d_moveDraftTo_29 : decode prog_2_method_15_code 29 = .ok (.aastore, 1) := by decide +kernel
theorem d_d_moveDraftTo_30 : decode prog_2_method_15_code 30 = .ok (.iinc 3 (-1), 3) := by decide +kernel
theorem d_d_moveDraftTo_33 : decode prog_2_method_15_code 33 = .ok (.goto (-22), 3) := by decide +kernel
theorem d_d_moveDraftTo_36 : decode prog_2_method_15_code 36 = .ok (.aload_n 0, 1) := by decide +kernel
theorem d_d_moveDraftTo_37 : decode prog_2_method_15_code 37 = .ok (.getfield 11, 3) := by decide +kernel
theorem d_d_moveDraftTo_40 : decode prog_2_method_15_code 40 = .ok (.iload_n 1, 1) := by decide +kernel
theorem d_d_moveDraftTo_41 : decode prog_2_method_15_code 41 = .ok (.aload_n 2, 1) := by decide +kernel
theorem d_d_moveDraftTo_42 : decode prog_2_method_15_code 42 = .ok (.aastore, 1) := by decide +kernel
theorem d_d_moveDraftTo_43 : decode prog_2_method_15_code 43 = .ok (.return_, 1) := by decide +kernel
abbrev M_e_setValue : rsM := (⟨"RunStore$Entries", "setValue", "(II)V"⟩, prog_3_method_7_code, 3, none, [])
theorem d_e_setValue_0 : decode prog_3_method_7_code 0 = .ok (.aload_n 0, 1) := by decide +kernel
theorem d_e_setValue_1 : decode prog_3_method_7_code 1 = .ok (.iload_n 1, 1) := by decide +kernel
theorem d_e_setValue_2 : decode prog_3_method_7_code 2 = .ok (.iconst 1, 1) := by decide +kernel
theorem d_e_setValue_3 : decode prog_3_method_7_code 3 = .ok (.iload_n 2, 1) := by decide +kernel
theorem d_e_setValue_4 : decode prog_3_method_7_code 4 = .ok (.invokevirtual 22, 3) := by decide +kernel
theorem d_e_setValue_7 : decode prog_3_method_7_code 7 = .ok (.return_, 1) := by decide +kernel
abbrev M_s_remove : rsM := (⟨"RunStore", "remove", "(I)Z"⟩, prog_1_method_5_code, 3, some .boolean, [])
theorem d_s_remove_0 : decode prog_1_method_5_code 0 = .ok (.iload_n 1, 1) := by decide +kernel
theorem d_s_remove_1 : decode prog_1_method_5_code 1 = .ok (.invokestatic 58, 3) := by decide +kernel
theorem d_s_remove_4 : decode prog_1_method_5_code 4 = .ok (.aload_n 0, 1) := by decide +kernel
theorem d_s_remove_5 : decode prog_1_method_5_code 5 = .ok (.invokevirtual 61, 3) := by decide +kernel
theorem d_s_remove_8 : decode prog_1_method_5_code 8 = .ok (.aload_n 0, 1) := by decide +kernel
theorem d_s_remove_9 : decode prog_1_method_5_code 9 = .ok (.iload_n 1, 1) := by decide +kernel
theorem d_s_remove_10 : decode prog_1_method_5_code 10 = .ok (.invokevirtual 74, 3) := by decide +kernel
theorem d_s_remove_13 : decode prog_1_method_5_code 13 = .ok (.istore_n 2, 1) := by decide +kernel
theorem d_s_remove_14 : decode prog_1_method_5_code 14 = .ok (.aload_n 0, 1) := by decide +kernel
theorem d_s_remove_15 : decode prog_1_method_5_code 15 = .ok (.iload_n 1, 1) := by decide +kernel
theorem d_s_remove_16 : decode prog_1_method_5_code 16 = .ok (.invokevirtual 64, 3) := by decide +kernel
theorem d_s_remove_19 : decode prog_1_method_5_code 19 = .ok (.aload_n 0, 1) := by decide +kernel
theorem d_s_remove_20 : decode prog_1_method_5_code 20 = .ok (.getfield 10, 3) := by decide +kernel
theorem d_s_remove_23 : decode prog_1_method_5_code 23 = .ok (.iload_n 1, 1) := by decide +kernel
theorem d_s_remove_24 : decode prog_1_method_5_code 24 = .ok (.invokevirtual 78, 3) := by decide +kernel
theorem d_s_remove_27 : decode prog_1_method_5_code 27 = .ok (.aload_n 0, 1) := by decide +kernel
theorem d_s_remove_28 : decode prog_1_method_5_code 28 = .ok (.iconst (-1), 1) := by decide +kernel
theorem d_s_remove_29 : decode prog_1_method_5_code 29 = .ok (.putfield 31, 3) := by decide +kernel
theorem d_s_remove_32 : decode prog_1_method_5_code 32 = .ok (.iload_n 2, 1) := by decide +kernel
theorem d_s_remove_33 : decode prog_1_method_5_code 33 = .ok (.ireturn, 1) := by decide +kernel
abbrev M_s_isThere : rsM := (⟨"RunStore", "isThere", "(I)Z"⟩, prog_1_method_36_code, 3, some .boolean, [])
theorem d_s_isThere_0 : decode prog_1_method_36_code 0 = .ok (.aload_n 0, 1) := by decide +kernel
theorem d_s_isThere_1 : decode prog_1_method_36_code 1 = .ok (.iload_n 1, 1) := by decide +kernel
theorem d_s_isThere_2 : decode prog_1_method_36_code 2 = .ok (.invokevirtual 179, 3) := by decide +kernel
theorem d_s_isThere_5 : decode prog_1_method_36_code 5 = .ok (.astore_n 2, 1) := by decide +kernel
theorem d_s_isThere_6 : decode prog_1_method_36_code 6 = .ok (.aload_n 2, 1) := by decide +kernel
theorem d_s_isThere_7 : decode prog_1_method_36_code 7 = .ok (.ifnull 15, 3) := by decide +kernel
theorem d_s_isThere_10 : decode prog_1_method_36_code 10 = .ok (.aload_n 2, 1) := by decide +kernel
theorem d_s_isThere_11 : decode prog_1_method_36_code 11 = .ok (.iload_n 1, 1) := by decide +kernel
theorem d_s_isThere_12 : decode prog_1_method_36_code 12 = .ok (.invokevirtual 183, 3) := by decide +kernel
theorem d_s_isThere_15 : decode prog_1_method_36_code 15 = .ok (.ifCond .eq 7, 3) := by decide +kernel
theorem d_s_isThere_18 : decode prog_1_method_36_code 18 = .ok (.iconst 1, 1) := by decide +kernel
theorem d_s_isThere_19 : decode prog_1_method_36_code 19 = .ok (.goto 4, 3) := by decide +kernel
theorem d_s_isThere_22 : decode prog_1_method_36_code 22 = .ok (.iconst 0, 1) := by decide +kernel
theorem d_s_isThere_23 : decode prog_1_method_36_code 23 = .ok (.ireturn, 1) := by decide +kernel
abbrev M_e_holdsValue : rsM := (⟨"RunStore$Entries", "holdsValue", "(I)Z"⟩, prog_3_method_5_code, 2, some .boolean, [])
theorem d_e_holdsValue_0 : decode prog_3_method_5_code 0 = .ok (.aload_n 0, 1) := by decide +kernel
theorem d_e_holdsValue_1 : decode prog_3_method_5_code 1 = .ok (.getfield 9, 3) := by decide +kernel
theorem d_e_holdsValue_4 : decode prog_3_method_5_code 4 = .ok (.iload_n 1, 1) := by decide +kernel
theorem d_e_holdsValue_5 : decode prog_3_method_5_code 5 = .ok (.iaload, 1) := by decide +kernel
theorem d_e_holdsValue_6 : decode prog_3_method_5_code 6 = .ok (.iconst 1, 1) := by decide +kernel
theorem d_e_holdsValue_7 : decode prog_3_method_5_code 7 = .ok (.if_icmp .ne 7, 3) := by decide +kernel
theorem d_e_holdsValue_10 : decode prog_3_method_5_code 10 = .ok (.iconst 1, 1) := by decide +kernel
theorem d_e_holdsValue_11 : decode prog_3_method_5_code 11 = .ok (.goto 4, 3) := by decide +kernel
theorem d_e_holdsValue_14 : decode prog_3_method_5_code 14 = .ok (.iconst 0, 1) := by decide +kernel
theorem d_e_holdsValue_15 : decode prog_3_method_5_code 15 = .ok (.ireturn, 1) := by decide +kernel
abbrev M_e_setMark : rsM := (⟨"RunStore$Entries", "setMark", "(I)V"⟩, prog_3_method_8_code, 2, none, [])
theorem d_e_setMark_0 : decode prog_3_method_8_code 0 = .ok (.aload_n 0, 1) := by decide +kernel
theorem d_e_setMark_1 : decode prog_3_method_8_code 1 = .ok (.iload_n 1, 1) := by decide +kernel
theorem d_e_setMark_2 : decode prog_3_method_8_code 2 = .ok (.iconst 2, 1) := by decide +kernel
theorem d_e_setMark_3 : decode prog_3_method_8_code 3 = .ok (.iconst 0, 1) := by decide +kernel
theorem d_e_setMark_4 : decode prog_3_method_8_code 4 = .ok (.invokevirtual 22, 3) := by decide +kernel
theorem d_e_setMark_7 : decode prog_3_method_8_code 7 = .ok (.return_, 1) := by decide +kernel
abbrev M_s_get : rsM := (⟨"RunStore", "get", "(I)I"⟩, prog_1_method_6_code, 2, some .int, [])
theorem d_s_get_0 : decode prog_1_method_6_code 0 = .ok (.iload_n 1, 1) := by decide +kernel
theorem d_s_get_1 : decode prog_1_method_6_code 1 = .ok (.invokestatic 58, 3) := by decide +kernel
theorem d_s_get_4 : decode prog_1_method_6_code 4 = .ok (.aload_n 0, 1) := by decide +kernel
theorem d_s_get_5 : decode prog_1_method_6_code 5 = .ok (.invokevirtual 61, 3) := by decide +kernel
theorem d_s_get_8 : decode prog_1_method_6_code 8 = .ok (.aload_n 0, 1) := by decide +kernel
theorem d_s_get_9 : decode prog_1_method_6_code 9 = .ok (.iload_n 1, 1) := by decide +kernel
theorem d_s_get_10 : decode prog_1_method_6_code 10 = .ok (.invokevirtual 74, 3) := by decide +kernel
theorem d_s_get_13 : decode prog_1_method_6_code 13 = .ok (.ifCond .ne 13, 3) := by decide +kernel
theorem d_s_get_16 : decode prog_1_method_6_code 16 = .ok (.new 81, 3) := by decide +kernel
theorem d_s_get_19 : decode prog_1_method_6_code 19 = .ok (.dup, 1) := by decide +kernel
theorem d_s_get_20 : decode prog_1_method_6_code 20 = .ok (.ldc 83, 2) := by decide +kernel
theorem d_s_get_22 : decode prog_1_method_6_code 22 = .ok (.invokespecial 85, 3) := by decide +kernel
theorem d_s_get_25 : decode prog_1_method_6_code 25 = .ok (.athrow, 1) := by decide +kernel
theorem d_s_get_26 : decode prog_1_method_6_code 26 = .ok (.aload_n 0, 1) := by decide +kernel
theorem d_s_get_27 : decode prog_1_method_6_code 27 = .ok (.iload_n 1, 1) := by decide +kernel
theorem d_s_get_28 : decode prog_1_method_6_code 28 = .ok (.invokevirtual 86, 3) := by decide +kernel
theorem d_s_get_31 : decode prog_1_method_6_code 31 = .ok (.ireturn, 1) := by decide +kernel
abbrev M_s_has : rsM := (⟨"RunStore", "has", "(I)Z"⟩, prog_1_method_7_code, 2, some .boolean, [])
theorem d_s_has_0 : decode prog_1_method_7_code 0 = .ok (.iload_n 1, 1) := by decide +kernel
theorem d_s_has_1 : decode prog_1_method_7_code 1 = .ok (.invokestatic 58, 3) := by decide +kernel
theorem d_s_has_4 : decode prog_1_method_7_code 4 = .ok (.aload_n 0, 1) := by decide +kernel
theorem d_s_has_5 : decode prog_1_method_7_code 5 = .ok (.invokevirtual 61, 3) := by decide +kernel
theorem d_s_has_8 : decode prog_1_method_7_code 8 = .ok (.aload_n 0, 1) := by decide +kernel
theorem d_s_has_9 : decode prog_1_method_7_code 9 = .ok (.iload_n 1, 1) := by decide +kernel
theorem d_s_has_10 : decode prog_1_method_7_code 10 = .ok (.invokevirtual 74, 3) := by decide +kernel
theorem d_s_has_13 : decode prog_1_method_7_code 13 = .ok (.ireturn, 1) := by decide +kernel
abbrev M_s_flush : rsM := (⟨"RunStore", "flush", "()I"⟩, prog_1_method_8_code, 2, some .int, [])
theorem d_s_flush_0 : decode prog_1_method_8_code 0 = .ok (.aload_n 0, 1) := by decide +kernel
theorem d_s_flush_1 : decode prog_1_method_8_code 1 = .ok (.invokevirtual 61, 3) := by decide +kernel
theorem d_s_flush_4 : decode prog_1_method_8_code 4 = .ok (.aload_n 0, 1) := by decide +kernel
theorem d_s_flush_5 : decode prog_1_method_8_code 5 = .ok (.invokevirtual 90, 3) := by decide +kernel
theorem d_s_flush_8 : decode prog_1_method_8_code 8 = .ok (.istore_n 1, 1) := by decide +kernel
theorem d_s_flush_9 : decode prog_1_method_8_code 9 = .ok (.aload_n 0, 1) := by decide +kernel
theorem d_s_flush_10 : decode prog_1_method_8_code 10 = .ok (.iconst (-1), 1) := by decide +kernel
theorem d_s_flush_11 : decode prog_1_method_8_code 11 = .ok (.putfield 31, 3) := by decide +kernel
theorem d_s_flush_14 : decode prog_1_method_8_code 14 = .ok (.iload_n 1, 1) := by decide +kernel
theorem d_s_flush_15 : decode prog_1_method_8_code 15 = .ok (.ireturn, 1) := by decide +kernel
abbrev M_s_compact : rsM := (⟨"RunStore", "compact", "()I"⟩, prog_1_method_9_code, 2, some .int, [])
theorem d_s_compact_0 : decode prog_1_method_9_code 0 = .ok (.aload_n 0, 1) := by decide +kernel
theorem d_s_compact_1 : decode prog_1_method_9_code 1 = .ok (.invokevirtual 61, 3) := by decide +kernel
theorem d_s_compact_4 : decode prog_1_method_9_code 4 = .ok (.aload_n 0, 1) := by decide +kernel
theorem d_s_compact_5 : decode prog_1_method_9_code 5 = .ok (.invokevirtual 93, 3) := by decide +kernel
theorem d_s_compact_8 : decode prog_1_method_9_code 8 = .ok (.istore_n 1, 1) := by decide +kernel
theorem d_s_compact_9 : decode prog_1_method_9_code 9 = .ok (.iload_n 1, 1) := by decide +kernel
theorem d_s_compact_10 : decode prog_1_method_9_code 10 = .ok (.iconst (-1), 1) := by decide +kernel
theorem d_s_compact_11 : decode prog_1_method_9_code 11 = .ok (.if_icmp .eq 9, 3) := by decide +kernel
theorem d_s_compact_14 : decode prog_1_method_9_code 14 = .ok (.aload_n 0, 1) := by decide +kernel
theorem d_s_compact_15 : decode prog_1_method_9_code 15 = .ok (.iload_n 1, 1) := by decide +kernel
theorem d_s_compact_16 : decode prog_1_method_9_code 16 = .ok (.invokevirtual 96, 3) := by decide +kernel
theorem d_s_compact_19 : decode prog_1_method_9_code 19 = .ok (.pop, 1) := by decide +kernel
theorem d_s_compact_20 : decode prog_1_method_9_code 20 = .ok (.aload_n 0, 1) := by decide +kernel
theorem d_s_compact_21 : decode prog_1_method_9_code 21 = .ok (.iconst (-1), 1) := by decide +kernel
theorem d_s_compact_22 : decode prog_1_method_9_code 22 = .ok (.putfield 31, 3) := by decide +kernel
theorem d_s_compact_25 : decode prog_1_method_9_code 25 = .ok (.iload_n 1, 1) := by decide +kernel
theorem d_s_compact_26 : decode prog_1_method_9_code 26 = .ok (.ireturn, 1) := by decide +kernel
abbrev M_s_leastLevelToCompact : rsM := (⟨"RunStore", "leastLevelToCompact", "()I"⟩, prog_1_method_34_code, 2, some .int, [])
theorem d_s_leastLevelToCompact_0 : decode prog_1_method_34_code 0 = .ok (.iconst 0, 1) := by decide +kernel
theorem d_s_leastLevelToCompact_1 : decode prog_1_method_34_code 1 = .ok (.istore_n 1, 1) := by decide +kernel
theorem d_s_leastLevelToCompact_2 : decode prog_1_method_34_code 2 = .ok (.iload_n 1, 1) := by decide +kernel
theorem d_s_leastLevelToCompact_3 : decode prog_1_method_34_code 3 = .ok (.iconst 3, 1) := by decide +kernel
theorem d_s_leastLevelToCompact_4 : decode prog_1_method_34_code 4 = .ok (.if_icmp .ge 23, 3) := by decide +kernel
theorem d_s_leastLevelToCompact_7 : decode prog_1_method_34_code 7 = .ok (.aload_n 0, 1) := by decide +kernel
theorem d_s_leastLevelToCompact_8 : decode prog_1_method_34_code 8 = .ok (.getfield 19, 3) := by decide +kernel
theorem d_s_leastLevelToCompact_11 : decode prog_1_method_34_code 11 = .ok (.iload_n 1, 1) := by decide +kernel
theorem d_s_leastLevelToCompact_12 : decode prog_1_method_34_code 12 = .ok (.invokevirtual 112, 3) := by decide +kernel
theorem d_s_leastLevelToCompact_15 : decode prog_1_method_34_code 15 = .ok (.iconst 3, 1) := by decide +kernel
theorem d_s_leastLevelToCompact_16 : decode prog_1_method_34_code 16 = .ok (.if_icmp .le 5, 3) := by decide +kernel
theorem d_s_leastLevelToCompact_19 : decode prog_1_method_34_code 19 = .ok (.iload_n 1, 1) := by decide +kernel
theorem d_s_leastLevelToCompact_20 : decode prog_1_method_34_code 20 = .ok (.ireturn, 1) := by decide +kernel
theorem d_s_leastLevelToCompact_21 : decode prog_1_method_34_code 21 = .ok (.iinc 1 1, 3) := by decide +kernel
theorem d_s_leastLevelToCompact_24 : decode prog_1_method_34_code 24 = .ok (.goto (-22), 3) := by decide +kernel
theorem d_s_leastLevelToCompact_27 : decode prog_1_method_34_code 27 = .ok (.iconst (-1), 1) := by decide +kernel
theorem d_s_leastLevelToCompact_28 : decode prog_1_method_34_code 28 = .ok (.ireturn, 1) := by decide +kernel
abbrev M_d_countRunsOf : rsM := (⟨"RunStore$Disk", "countRunsOf", "(I)I"⟩, prog_2_method_4_code, 2, some .int, [])
theorem d_d_countRunsOf_0 : decode prog_2_method_4_code 0 = .ok (.aload_n 0, 1) := by decide +kernel
theorem d_d_countRunsOf_1 : decode prog_2_method_4_code 1 = .ok (.getfield 18, 3) := by decide +kernel
theorem d_d_countRunsOf_4 : decode prog_2_method_4_code 4 = .ok (.iload_n 1, 1) := by decide +kernel
theorem d_d_countRunsOf_5 : decode prog_2_method_4_code 5 = .ok (.iaload, 1) := by decide +kernel
theorem d_d_countRunsOf_6 : decode prog_2_method_4_code 6 = .ok (.ireturn, 1) := by decide +kernel
abbrev M_s_mergeLevel : rsM := (⟨"RunStore", "mergeLevel", "(I)I"⟩, prog_1_method_33_code, 3, some .int, [])
theorem d_s_mergeLevel_0 : decode prog_1_method_33_code 0 = .ok (.aload_n 0, 1) := by decide +kernel
theorem d_s_mergeLevel_1 : decode prog_1_method_33_code 1 = .ok (.getfield 19, 3) := by decide +kernel
theorem d_s_mergeLevel_4 : decode prog_1_method_33_code 4 = .ok (.iload_n 1, 1) := by decide +kernel
theorem d_s_mergeLevel_5 : decode prog_1_method_33_code 5 = .ok (.invokevirtual 112, 3) := by decide +kernel
theorem d_s_mergeLevel_8 : decode prog_1_method_33_code 8 = .ok (.ifCond .ne 5, 3) := by decide +kernel
theorem d_s_mergeLevel_11 : decode prog_1_method_33_code 11 = .ok (.iconst 0, 1) := by decide +kernel
theorem d_s_mergeLevel_12 : decode prog_1_method_33_code 12 = .ok (.ireturn, 1) := by decide +kernel
theorem d_s_mergeLevel_13 : decode prog_1_method_33_code 13 = .ok (.aload_n 0, 1) := by decide +kernel
theorem d_s_mergeLevel_14 : decode prog_1_method_33_code 14 = .ok (.getfield 19, 3) := by decide +kernel
theorem d_s_mergeLevel_17 : decode prog_1_method_33_code 17 = .ok (.iload_n 1, 1) := by decide +kernel
theorem d_s_mergeLevel_18 : decode prog_1_method_33_code 18 = .ok (.invokevirtual 173, 3) := by decide +kernel
theorem d_s_mergeLevel_21 : decode prog_1_method_33_code 21 = .ok (.aload_n 0, 1) := by decide +kernel
theorem d_s_mergeLevel_22 : decode prog_1_method_33_code 22 = .ok (.getfield 19, 3) := by decide +kernel
theorem d_s_mergeLevel_25 : decode prog_1_method_33_code 25 = .ok (.invokevirtual 147, 3) := by decide +kernel
theorem d_s_mergeLevel_28 : decode prog_1_method_33_code 28 = .ok (.invokevirtual 71, 3) := by decide +kernel
theorem d_s_mergeLevel_31 : decode prog_1_method_33_code 31 = .ok (.istore_n 2, 1) := by decide +kernel
theorem d_s_mergeLevel_32 : decode prog_1_method_33_code 32 = .ok (.aload_n 0, 1) := by decide +kernel
theorem d_s_mergeLevel_33 : decode prog_1_method_33_code 33 = .ok (.iconst 1, 1) := by decide +kernel
theorem d_s_mergeLevel_34 : decode prog_1_method_33_code 34 = .ok (.invokevirtual 166, 3) := by decide +kernel
theorem d_s_mergeLevel_37 : decode prog_1_method_33_code 37 = .ok (.aload_n 0, 1) := by decide +kernel
theorem d_s_mergeLevel_38 : decode prog_1_method_33_code 38 = .ok (.getfield 19, 3) := by decide +kernel
theorem d_s_mergeLevel_41 : decode prog_1_method_33_code 41 = .ok (.iload_n 1, 1) := by decide +kernel
theorem d_s_mergeLevel_42 : decode prog_1_method_33_code 42 = .ok (.invokevirtual 176, 3) := by decide +kernel
theorem d_s_mergeLevel_45 : decode prog_1_method_33_code 45 = .ok (.iload_n 2, 1) := by decide +kernel
theorem d_s_mergeLevel_46 : decode prog_1_method_33_code 46 = .ok (.ireturn, 1) := by decide +kernel
abbrev M_d_draftFromLevel : rsM := (⟨"RunStore$Disk", "draftFromLevel", "(I)V"⟩, prog_2_method_11_code, 3, none, [])
theorem d_d_draftFromLevel_0 : decode prog_2_method_11_code 0 = .ok (.aload_n 0, 1) := by decide +kernel
theorem d_d_draftFromLevel_1 : decode prog_2_method_11_code 1 = .ok (.invokevirtual 47, 3) := by decide +kernel
theorem d_d_draftFromLevel_4 : decode prog_2_method_11_code 4 = .ok (.invokevirtual 51, 3) := by decide +kernel
theorem d_d_draftFromLevel_7 : decode prog_2_method_11_code 7 = .ok (.iconst 0, 1) := by decide +kernel
theorem d_d_draftFromLevel_8 : decode prog_2_method_11_code 8 = .ok (.istore_n 2, 1) := by decide +kernel
theorem d_d_draftFromLevel_9 : decode prog_2_method_11_code 9 = .ok (.iload_n 2, 1) := by decide +kernel
theorem d_d_draftFromLevel_10 : decode prog_2_method_11_code 10 = .ok (.aload_n 0, 1) := by decide +kernel
theorem d_d_draftFromLevel_11 : decode prog_2_method_11_code 11 = .ok (.getfield 18, 3) := by decide +kernel
theorem d_d_draftFromLevel_14 : decode prog_2_method_11_code 14 = .ok (.iload_n 1, 1) := by decide +kernel
theorem d_d_draftFromLevel_15 : decode prog_2_method_11_code 15 = .ok (.iaload, 1) := by decide +kernel
theorem d_d_draftFromLevel_16 : decode prog_2_method_11_code 16 = .ok (.if_icmp .ge 22, 3) := by decide +kernel
theorem d_d_draftFromLevel_19 : decode prog_2_method_11_code 19 = .ok (.aload_n 0, 1) := by decide +kernel
theorem d_d_draftFromLevel_20 : decode prog_2_method_11_code 20 = .ok (.invokevirtual 47, 3) := by decide +kernel
theorem d_d_draftFromLevel_23 : decode prog_2_method_11_code 23 = .ok (.aload_n 0, 1) := by decide +kernel
theorem d_d_draftFromLevel_24 : decode prog_2_method_11_code 24 = .ok (.iload_n 1, 1) := by decide +kernel
theorem d_d_draftFromLevel_25 : decode prog_2_method_11_code 25 = .ok (.iload_n 2, 1) := by decide +kernel
theorem d_d_draftFromLevel_26 : decode prog_2_method_11_code 26 = .ok (.invokevirtual 58, 3) := by decide +kernel
theorem d_d_draftFromLevel_29 : decode prog_2_method_11_code 29 = .ok (.invokevirtual 54, 3) := by decide +kernel
theorem d_d_draftFromLevel_32 : decode prog_2_method_11_code 32 = .ok (.iinc 2 1, 3) := by decide +kernel
theorem d_d_draftFromLevel_35 : decode prog_2_method_11_code 35 = .ok (.goto (-26), 3) := by decide +kernel
theorem d_d_draftFromLevel_38 : decode prog_2_method_11_code 38 = .ok (.aload_n 0, 1) := by decide +kernel
theorem d_d_draftFromLevel_39 : decode prog_2_method_11_code 39 = .ok (.iload_n 1, 1) := by decide +kernel
theorem d_d_draftFromLevel_40 : decode prog_2_method_11_code 40 = .ok (.iconst 1, 1) := by decide +kernel
theorem d_d_draftFromLevel_41 : decode prog_2_method_11_code 41 = .ok (.iadd, 1) := by decide +kernel
theorem d_d_draftFromLevel_42 : decode prog_2_method_11_code 42 = .ok (.invokevirtual 32, 3) := by decide +kernel
theorem d_d_draftFromLevel_45 : decode prog_2_method_11_code 45 = .ok (.aload_n 0, 1) := by decide +kernel
theorem d_d_draftFromLevel_46 : decode prog_2_method_11_code 46 = .ok (.invokevirtual 36, 3) := by decide +kernel
theorem d_d_draftFromLevel_49 : decode prog_2_method_11_code 49 = .ok (.if_icmp .ge 7, 3) := by decide +kernel
theorem d_d_draftFromLevel_52 : decode prog_2_method_11_code 52 = .ok (.iconst 1, 1) := by decide +kernel
theorem d_d_draftFromLevel_53 : decode prog_2_method_11_code 53 = .ok (.goto 4, 3) := by decide +kernel
theorem d_d_draftFromLevel_56 : decode prog_2_method_11_code 56 = .ok (.iconst 0, 1) := by decide +kernel
theorem d_d_draftFromLevel_57 : decode prog_2_method_11_code 57 = .ok (.istore_n 2, 1) := by decide +kernel
theorem d_d_draftFromLevel_58 : decode prog_2_method_11_code 58 = .ok (.iload_n 2, 1) := by decide +kernel
theorem d_d_draftFromLevel_59 : decode prog_2_method_11_code 59 = .ok (.ifCond .ne 10, 3) := by decide +kernel
theorem d_d_draftFromLevel_62 : decode prog_2_method_11_code 62 = .ok (.aload_n 0, 1) := by decide +kernel
theorem d_d_draftFromLevel_63 : decode prog_2_method_11_code 63 = .ok (.invokevirtual 47, 3) := by decide +kernel
theorem d_d_draftFromLevel_66 : decode prog_2_method_11_code 66 = .ok (.invokevirtual 62, 3) := by decide +kernel
theorem d_d_draftFromLevel_69 : decode prog_2_method_11_code 69 = .ok (.return_, 1) := by decide +kernel
abbrev M_d_run : rsM := (⟨"RunStore$Disk", "run", "(II)LRunStore$Entries;"⟩, prog_2_method_6_code, 3, some (.object "RunStore$Entries"), [])
theorem d_d_run_0 : decode prog_2_method_6_code 0 = .ok (.aload_n 0, 1) := by decide +kernel
theorem d_d_run_1 : decode prog_2_method_6_code 1 = .ok (.getfield 11, 3) := by decide +kernel
theorem d_d_run_4 : decode prog_2_method_6_code 4 = .ok (.aload_n 0, 1) := by decide +kernel
theorem d_d_run_5 : decode prog_2_method_6_code 5 = .ok (.iload_n 1, 1) := by decide +kernel
theorem d_d_run_6 : decode prog_2_method_6_code 6 = .ok (.invokevirtual 32, 3) := by decide +kernel
theorem d_d_run_9 : decode prog_2_method_6_code 9 = .ok (.iload_n 2, 1) := by decide +kernel
theorem d_d_run_10 : decode prog_2_method_6_code 10 = .ok (.iadd, 1) := by decide +kernel
theorem d_d_run_11 : decode prog_2_method_6_code 11 = .ok (.aaload, 1) := by decide +kernel
theorem d_d_run_12 : decode prog_2_method_6_code 12 = .ok (.areturn, 1) := by decide +kernel
abbrev M_e_leaveOutMarks : rsM := (⟨"RunStore$Entries", "leaveOutMarks", "()V"⟩, prog_3_method_11_code, 2, none, [])
theorem d_e_leaveOutMarks_0 : decode prog_3_method_11_code 0 = .ok (.iconst 0, 1) := by decide +kernel
theorem d_e_leaveOutMarks_1 : decode prog_3_method_11_code 1 = .ok (.istore_n 1, 1) := by decide +kernel
theorem d_e_leaveOutMarks_2 : decode prog_3_method_11_code 2 = .ok (.iload_n 1, 1) := by decide +kernel
theorem d_e_leaveOutMarks_3 : decode prog_3_method_11_code 3 = .ok (.bipush 100, 2) := by decide +kernel
theorem d_e_leaveOutMarks_5 : decode prog_3_method_11_code 5 = .ok (.if_icmp .ge 36, 3) := by decide +kernel
theorem d_e_leaveOutMarks_8 : decode prog_3_method_11_code 8 = .ok (.aload_n 0, 1) := by decide +kernel
theorem d_e_leaveOutMarks_9 : decode prog_3_method_11_code 9 = .ok (.getfield 9, 3) := by decide +kernel
theorem d_e_leaveOutMarks_12 : decode prog_3_method_11_code 12 = .ok (.iload_n 1, 1) := by decide +kernel
theorem d_e_leaveOutMarks_13 : decode prog_3_method_11_code 13 = .ok (.iaload, 1) := by decide +kernel
theorem d_e_leaveOutMarks_14 : decode prog_3_method_11_code 14 = .ok (.iconst 2, 1) := by decide +kernel
theorem d_e_leaveOutMarks_15 : decode prog_3_method_11_code 15 = .ok (.if_icmp .ne 20, 3) := by decide +kernel
theorem d_e_leaveOutMarks_18 : decode prog_3_method_11_code 18 = .ok (.aload_n 0, 1) := by decide +kernel
theorem d_e_leaveOutMarks_19 : decode prog_3_method_11_code 19 = .ok (.getfield 9, 3) := by decide +kernel
theorem d_e_leaveOutMarks_22 : decode prog_3_method_11_code 22 = .ok (.iload_n 1, 1) := by decide +kernel
theorem d_e_leaveOutMarks_23 : decode prog_3_method_11_code 23 = .ok (.iconst 0, 1) := by decide +kernel
theorem d_e_leaveOutMarks_24 : decode prog_3_method_11_code 24 = .ok (.iastore, 1) := by decide +kernel
theorem d_e_leaveOutMarks_25 : decode prog_3_method_11_code 25 = .ok (.aload_n 0, 1) := by decide +kernel
theorem d_e_leaveOutMarks_26 : decode prog_3_method_11_code 26 = .ok (.dup, 1) := by decide +kernel
theorem d_e_leaveOutMarks_27 : decode prog_3_method_11_code 27 = .ok (.getfield 18, 3) := by decide +kernel
theorem d_e_leaveOutMarks_30 : decode prog_3_method_11_code 30 = .ok (.iconst 1, 1) := by decide +kernel
theorem d_e_leaveOutMarks_31 : decode prog_3_method_11_code 31 = .ok (.isub, 1) := by decide +kernel
theorem d_e_leaveOutMarks_32 : decode prog_3_method_11_code 32 = .ok (.putfield 18, 3) := by decide +kernel
theorem d_e_leaveOutMarks_35 : decode prog_3_method_11_code 35 = .ok (.iinc 1 1, 3) := by decide +kernel
theorem d_e_leaveOutMarks_38 : decode prog_3_method_11_code 38 = .ok (.goto (-36), 3) := by decide +kernel
theorem d_e_leaveOutMarks_41 : decode prog_3_method_11_code 41 = .ok (.return_, 1) := by decide +kernel
abbrev M_d_listDraftAsMerged : rsM := (⟨"RunStore$Disk", "listDraftAsMerged", "(I)V"⟩, prog_2_method_13_code, 5, none, [])
theorem d_d_listDraftAsMerged_0 : decode prog_2_method_13_code 0 = .ok (.aload_n 0, 1) := by decide +kernel
theorem d_d_listDraftAsMerged_1 : decode prog_2_method_13_code 1 = .ok (.getfield 18, 3) := by decide +kernel
theorem d_d_listDraftAsMerged_4 : decode prog_2_method_13_code 4 = .ok (.iload_n 1, 1) := by decide +kernel
theorem d_d_listDraftAsMerged_5 : decode prog_2_method_13_code 5 = .ok (.iaload, 1) := by decide +kernel
theorem d_d_listDraftAsMerged_6 : decode prog_2_method_13_code 6 = .ok (.istore_n 2, 1) := by decide +kernel
theorem d_d_listDraftAsMerged_7 : decode prog_2_method_13_code 7 = .ok (.aload_n 0, 1) := by decide +kernel
theorem d_d_listDraftAsMerged_8 : decode prog_2_method_13_code 8 = .ok (.iload_n 1, 1) := by decide +kernel
theorem d_d_listDraftAsMerged_9 : decode prog_2_method_13_code 9 = .ok (.invokevirtual 32, 3) := by decide +kernel
theorem d_d_listDraftAsMerged_12 : decode prog_2_method_13_code 12 = .ok (.istore_n 3, 1) := by decide +kernel
theorem d_d_listDraftAsMerged_13 : decode prog_2_method_13_code 13 = .ok (.aload_n 0, 1) := by decide +kernel
theorem d_d_listDraftAsMerged_14 : decode prog_2_method_13_code 14 = .ok (.getfield 18, 3) := by decide +kernel
theorem d_d_listDraftAsMerged_17 : decode prog_2_method_13_code 17 = .ok (.iload_n 1, 1) := by decide +kernel
theorem d_d_listDraftAsMerged_18 : decode prog_2_method_13_code 18 = .ok (.iconst 0, 1) := by decide +kernel
theorem d_d_listDraftAsMerged_19 : decode prog_2_method_13_code 19 = .ok (.iastore, 1) := by decide +kernel
theorem d_d_listDraftAsMerged_20 : decode prog_2_method_13_code 20 = .ok (.aload_n 0, 1) := by decide +kernel
theorem d_d_listDraftAsMerged_21 : decode prog_2_method_13_code 21 = .ok (.invokevirtual 47, 3) := by decide +kernel
theorem d_d_listDraftAsMerged_24 : decode prog_2_method_13_code 24 = .ok (.invokevirtual 69, 3) := by decide +kernel
theorem d_d_listDraftAsMerged_27 : decode prog_2_method_13_code 27 = .ok (.ifCond .le 27, 3) := by decide +kernel
theorem d_d_listDraftAsMerged_30 : decode prog_2_method_13_code 30 = .ok (.aload_n 0, 1) := by decide +kernel
theorem d_d_listDraftAsMerged_31 : decode prog_2_method_13_code 31 = .ok (.iload_n 3, 1) := by decide +kernel
theorem d_d_listDraftAsMerged_32 : decode prog_2_method_13_code 32 = .ok (.invokevirtual 65, 3) := by decide +kernel
theorem d_d_listDraftAsMerged_35 : decode prog_2_method_13_code 35 = .ok (.aload_n 0, 1) := by decide +kernel
theorem d_d_listDraftAsMerged_36 : decode prog_2_method_13_code 36 = .ok (.getfield 18, 3) := by decide +kernel
theorem d_d_listDraftAsMerged_39 : decode prog_2_method_13_code 39 = .ok (.iload_n 1, 1) := by decide +kernel
theorem d_d_listDraftAsMerged_40 : decode prog_2_method_13_code 40 = .ok (.iconst 1, 1) := by decide +kernel
theorem d_d_listDraftAsMerged_41 : decode prog_2_method_13_code 41 = .ok (.iadd, 1) := by decide +kernel
theorem d_d_listDraftAsMerged_42 : decode prog_2_method_13_code 42 = .ok (.iconst 2, 1) := by decide +kernel
theorem d_d_listDraftAsMerged_43 : decode prog_2_method_13_code 43 = .ok (.invokestatic 72, 3) := by decide +kernel
theorem d_d_listDraftAsMerged_46 : decode prog_2_method_13_code 46 = .ok (.dup2, 1) := by decide +kernel
theorem d_d_listDraftAsMerged_47 : decode prog_2_method_13_code 47 = .ok (.iaload, 1) := by decide +kernel
theorem d_d_listDraftAsMerged_48 : decode prog_2_method_13_code 48 = .ok (.iconst 1, 1) := by decide +kernel
theorem d_d_listDraftAsMerged_49 : decode prog_2_method_13_code 49 = .ok (.iadd, 1) := by decide +kernel
theorem d_d_listDraftAsMerged_50 : decode prog_2_method_13_code 50 = .ok (.iastore, 1) := by decide +kernel
theorem d_d_listDraftAsMerged_51 : decode prog_2_method_13_code 51 = .ok (.iinc 3 1, 3) := by decide +kernel
theorem d_d_listDraftAsMerged_54 : decode prog_2_method_13_code 54 = .ok (.iconst 0, 1) := by decide +kernel
theorem d_d_listDraftAsMerged_55 : decode prog_2_method_13_code 55 = .ok (.istore 4, 2) := by decide +kernel
theorem d_d_listDraftAsMerged_57 : decode prog_2_method_13_code 57 = .ok (.iload 4, 2) := by decide +kernel
theorem d_d_listDraftAsMerged_59 : decode prog_2_method_13_code 59 = .ok (.iload_n 2, 1) := by decide +kernel
theorem d_d_listDraftAsMerged_60 : decode prog_2_method_13_code 60 = .ok (.if_icmp .ge 14, 3) := by decide +kernel
theorem d_d_listDraftAsMerged_63 : decode prog_2_method_13_code 63 = .ok (.aload_n 0, 1) := by decide +kernel
theorem d_d_listDraftAsMerged_64 : decode prog_2_method_13_code 64 = .ok (.iload_n 3, 1) := by decide +kernel
theorem d_d_listDraftAsMerged_65 : decode prog_2_method_13_code 65 = .ok (.invokevirtual 78, 3) := by decide +kernel
theorem d_d_listDraftAsMerged_68 : decode prog_2_method_13_code 68 = .ok (.iinc 4 1, 3) := by decide +kernel
theorem d_d_listDraftAsMerged_71 : decode prog_2_method_13_code 71 = .ok (.goto (-14), 3) := by decide +kernel
theorem d_d_listDraftAsMerged_74 : decode prog_2_method_13_code 74 = .ok (.return_, 1) := by decide +kernel
abbrev M_a_min : rsM := (⟨"java/lang/Math", "min", "(II)I"⟩, prog_9_method_69_code, 2, some .int, [])
theorem d_a_min_0 : decode prog_9_method_69_code 0 = .ok (.iload_n 0, 1) := by decide +kernel
theorem d_a_min_1 : decode prog_9_method_69_code 1 = .ok (.iload_n 1, 1) := by decide +kernel
theorem d_a_min_2 : decode prog_9_method_69_code 2 = .ok (.if_icmp .gt 7, 3) := by decide +kernel
theorem d_a_min_5 : decode prog_9_method_69_code 5 = .ok (.iload_n 0, 1) := by decide +kernel
theorem d_a_min_6 : decode prog_9_method_69_code 6 = .ok (.goto 4, 3) := by decide +kernel
theorem d_a_min_9 : decode prog_9_method_69_code 9 = .ok (.iload_n 1, 1) := by decide +kernel
theorem d_a_min_10 : decode prog_9_method_69_code 10 = .ok (.ireturn, 1) := by decide +kernel
abbrev M_d_moveToDraft : rsM := (⟨"RunStore$Disk", "moveToDraft", "(I)V"⟩, prog_2_method_16_code, 4, none, [])
theorem d_d_moveToDraft_0 : decode prog_2_method_16_code 0 = .ok (.aload_n 0, 1) := by decide +kernel
theorem d_d_moveToDraft_1 : decode prog_2_method_16_code 1 = .ok (.getfield 11, 3) := by decide +kernel
theorem d_d_moveToDraft_4 : decode prog_2_method_16_code 4 = .ok (.iload_n 1, 1) := by decide +kernel
theorem d_d_moveToDraft_5 : decode prog_2_method_16_code 5 = .ok (.aaload, 1) := by decide +kernel
theorem d_d_moveToDraft_6 : decode prog_2_method_16_code 6 = .ok (.astore_n 2, 1) := by decide +kernel
theorem d_d_moveToDraft_7 : decode prog_2_method_16_code 7 = .ok (.iload_n 1, 1) := by decide +kernel
theorem d_d_moveToDraft_8 : decode prog_2_method_16_code 8 = .ok (.istore_n 3, 1) := by decide +kernel
theorem d_d_moveToDraft_9 : decode prog_2_method_16_code 9 = .ok (.iload_n 3, 1) := by decide +kernel
theorem d_d_moveToDraft_10 : decode prog_2_method_16_code 10 = .ok (.bipush 12, 2) := by decide +kernel
theorem d_d_moveToDraft_12 : decode prog_2_method_16_code 12 = .ok (.if_icmp .ge 23, 3) := by decide +kernel
theorem d_d_moveToDraft_15 : decode prog_2_method_16_code 15 = .ok (.aload_n 0, 1) := by decide +kernel
theorem d_d_moveToDraft_16 : decode prog_2_method_16_code 16 = .ok (.getfield 11, 3) := by decide +kernel
theorem d_d_moveToDraft_19 : decode prog_2_method_16_code 19 = .ok (.iload_n 3, 1) := by decide +kernel
theorem d_d_moveToDraft_20 : decode prog_2_method_16_code 20 = .ok (.aload_n 0, 1) := by decide +kernel
theorem d_d_moveToDraft_21 : decode prog_2_method_16_code 21 = .ok (.getfield 11, 3) := by decide +kernel
theorem d_d_moveToDraft_24 : decode prog_2_method_16_code 24 = .ok (.iload_n 3, 1) := by decide +kernel
theorem d_d_moveToDraft_25 : decode prog_2_method_16_code 25 = .ok (.iconst 1, 1) := by decide +kernel
theorem d_d_moveToDraft_26 : decode prog_2_method_16_code 26 = .ok (.iadd, 1) := by decide +kernel
theorem d_d_moveToDraft_27 : decode prog_2_method_16_code 27 = .ok (.aaload, 1) := by decide +kernel
theorem d_d_moveToDraft_28 : decode prog_2_method_16_code 28 = .ok (.aastore, 1) := by decide +kernel
theorem d_d_moveToDraft_29 : decode prog_2_method_16_code 29 = .ok (.iinc 3 1, 3) := by decide +kernel
theorem d_d_moveToDraft_32 : decode prog_2_method_16_code 32 = .ok (.goto (-23), 3) := by decide +kernel
theorem d_d_moveToDraft_35 : decode prog_2_method_16_code 35 = .ok (.aload_n 0, 1) := by decide +kernel
theorem d_d_moveToDraft_36 : decode prog_2_method_16_code 36 = .ok (.getfield 11, 3) := by decide +kernel
theorem d_d_moveToDraft_39 : decode prog_2_method_16_code 39 = .ok (.bipush 12, 2) := by decide +kernel
theorem d_d_moveToDraft_41 : decode prog_2_method_16_code 41 = .ok (.aload_n 2, 1) := by decide +kernel
theorem d_d_moveToDraft_42 : decode prog_2_method_16_code 42 = .ok (.aastore, 1) := by decide +kernel
theorem d_d_moveToDraft_43 : decode prog_2_method_16_code 43 = .ok (.return_, 1) := by decide +kernel
abbrev M_s_merge : rsM := (⟨"RunStore", "merge", "(I)I"⟩, prog_1_method_10_code, 3, some .int, [])
theorem d_s_merge_0 : decode prog_1_method_10_code 0 = .ok (.iload_n 1, 1) := by decide +kernel
theorem d_s_merge_1 : decode prog_1_method_10_code 1 = .ok (.invokestatic 99, 3) := by decide +kernel
theorem d_s_merge_4 : decode prog_1_method_10_code 4 = .ok (.aload_n 0, 1) := by decide +kernel
theorem d_s_merge_5 : decode prog_1_method_10_code 5 = .ok (.invokevirtual 61, 3) := by decide +kernel
theorem d_s_merge_8 : decode prog_1_method_10_code 8 = .ok (.aload_n 0, 1) := by decide +kernel
theorem d_s_merge_9 : decode prog_1_method_10_code 9 = .ok (.iload_n 1, 1) := by decide +kernel
theorem d_s_merge_10 : decode prog_1_method_10_code 10 = .ok (.invokevirtual 96, 3) := by decide +kernel
theorem d_s_merge_13 : decode prog_1_method_10_code 13 = .ok (.istore_n 2, 1) := by decide +kernel
theorem d_s_merge_14 : decode prog_1_method_10_code 14 = .ok (.aload_n 0, 1) := by decide +kernel
theorem d_s_merge_15 : decode prog_1_method_10_code 15 = .ok (.iconst (-1), 1) := by decide +kernel
theorem d_s_merge_16 : decode prog_1_method_10_code 16 = .ok (.putfield 31, 3) := by decide +kernel
theorem d_s_merge_19 : decode prog_1_method_10_code 19 = .ok (.iload_n 2, 1) := by decide +kernel
theorem d_s_merge_20 : decode prog_1_method_10_code 20 = .ok (.ireturn, 1) := by decide +kernel
abbrev M_s_requireLevel : rsM := (⟨"RunStore", "requireLevel", "(I)V"⟩, prog_1_method_24_code, 1, none, [])
theorem d_s_requireLevel_0 : decode prog_1_method_24_code 0 = .ok (.iload_n 0, 1) := by decide +kernel
theorem d_s_requireLevel_1 : decode prog_1_method_24_code 1 = .ok (.invokestatic 115, 3) := by decide +kernel
theorem d_s_requireLevel_4 : decode prog_1_method_24_code 4 = .ok (.ifCond .ne 13, 3) := by decide +kernel
theorem d_s_requireLevel_7 : decode prog_1_method_24_code 7 = .ok (.new 102, 3) := by decide +kernel
theorem d_s_requireLevel_10 : decode prog_1_method_24_code 10 = .ok (.dup, 1) := by decide +kernel
theorem d_s_requireLevel_11 : decode prog_1_method_24_code 11 = .ok (.ldc 129, 2) := by decide +kernel
theorem d_s_requireLevel_13 : decode prog_1_method_24_code 13 = .ok (.invokespecial 106, 3) := by decide +kernel
theorem d_s_requireLevel_16 : decode prog_1_method_24_code 16 = .ok (.athrow, 1) := by decide +kernel
theorem d_s_requireLevel_17 : decode prog_1_method_24_code 17 = .ok (.return_, 1) := by decide +kernel
abbrev M_s_isLevel : rsM := (⟨"RunStore", "isLevel", "(I)Z"⟩, prog_1_method_22_code, 1, some .boolean, [])
theorem d_s_isLevel_0 : decode prog_1_method_22_code 0 = .ok (.iload_n 0, 1) := by decide +kernel
theorem d_s_isLevel_1 : decode prog_1_method_22_code 1 = .ok (.ifCond .lt 12, 3) := by decide +kernel
theorem d_s_isLevel_4 : decode prog_1_method_22_code 4 = .ok (.iload_n 0, 1) := by decide +kernel
theorem d_s_isLevel_5 : decode prog_1_method_22_code 5 = .ok (.iconst 3, 1) := by decide +kernel
theorem d_s_isLevel_6 : decode prog_1_method_22_code 6 = .ok (.if_icmp .ge 7, 3) := by decide +kernel
theorem d_s_isLevel_9 : decode prog_1_method_22_code 9 = .ok (.iconst 1, 1) := by decide +kernel
theorem d_s_isLevel_10 : decode prog_1_method_22_code 10 = .ok (.goto 4, 3) := by decide +kernel
theorem d_s_isLevel_13 : decode prog_1_method_22_code 13 = .ok (.iconst 0, 1) := by decide +kernel
theorem d_s_isLevel_14 : decode prog_1_method_22_code 14 = .ok (.ireturn, 1) := by decide +kernel
abbrev M_s_limit : rsM := (⟨"RunStore", "limit", "(I)V"⟩, prog_1_method_11_code, 2, none, [])
theorem d_s_limit_0 : decode prog_1_method_11_code 0 = .ok (.iload_n 1, 1) := by decide +kernel
theorem d_s_limit_1 : decode prog_1_method_11_code 1 = .ok (.iconst (-1), 1) := by decide +kernel
theorem d_s_limit_2 : decode prog_1_method_11_code 2 = .ok (.if_icmp .lt 10, 3) := by decide +kernel
theorem d_s_limit_5 : decode prog_1_method_11_code 5 = .ok (.iload_n 1, 1) := by decide +kernel
theorem d_s_limit_6 : decode prog_1_method_11_code 6 = .ok (.sipush 1000, 3) := by decide +kernel
theorem d_s_limit_9 : decode prog_1_method_11_code 9 = .ok (.if_icmp .le 13, 3) := by decide +kernel
theorem d_s_limit_12 : decode prog_1_method_11_code 12 = .ok (.new 102, 3) := by decide +kernel
theorem d_s_limit_15 : decode prog_1_method_11_code 15 = .ok (.dup, 1) := by decide +kernel
theorem d_s_limit_16 : decode prog_1_method_11_code 16 = .ok (.ldc 104, 2) := by decide +kernel
theorem d_s_limit_18 : decode prog_1_method_11_code 18 = .ok (.invokespecial 106, 3) := by decide +kernel
theorem d_s_limit_21 : decode prog_1_method_11_code 21 = .ok (.athrow, 1) := by decide +kernel
theorem d_s_limit_22 : decode prog_1_method_11_code 22 = .ok (.aload_n 0, 1) := by decide +kernel
theorem d_s_limit_23 : decode prog_1_method_11_code 23 = .ok (.invokevirtual 51, 3) := by decide +kernel
theorem d_s_limit_26 : decode prog_1_method_11_code 26 = .ok (.aload_n 0, 1) := by decide +kernel
theorem d_s_limit_27 : decode prog_1_method_11_code 27 = .ok (.iload_n 1, 1) := by decide +kernel
theorem d_s_limit_28 : decode prog_1_method_11_code 28 = .ok (.putfield 27, 3) := by decide +kernel
theorem d_s_limit_31 : decode prog_1_method_11_code 31 = .ok (.return_, 1) := by decide +kernel
abbrev M_s_seek : rsM := (⟨"RunStore", "seek", "(I)Z"⟩, prog_1_method_13_code, 2, some .boolean, [])
theorem d_s_seek_0 : decode prog_1_method_13_code 0 = .ok (.iload_n 1, 1) := by decide +kernel
theorem d_s_seek_1 : decode prog_1_method_13_code 1 = .ok (.invokestatic 58, 3) := by decide +kernel
theorem d_s_seek_4 : decode prog_1_method_13_code 4 = .ok (.aload_n 0, 1) := by decide +kernel
theorem d_s_seek_5 : decode prog_1_method_13_code 5 = .ok (.invokevirtual 61, 3) := by decide +kernel
theorem d_s_seek_8 : decode prog_1_method_13_code 8 = .ok (.aload_n 0, 1) := by decide +kernel
theorem d_s_seek_9 : decode prog_1_method_13_code 9 = .ok (.aload_n 0, 1) := by decide +kernel
theorem d_s_seek_10 : decode prog_1_method_13_code 10 = .ok (.iload_n 1, 1) := by decide +kernel
theorem d_s_seek_11 : decode prog_1_method_13_code 11 = .ok (.invokevirtual 107, 3) := by decide +kernel
theorem d_s_seek_14 : decode prog_1_method_13_code 14 = .ok (.putfield 31, 3) := by decide +kernel
theorem d_s_seek_17 : decode prog_1_method_13_code 17 = .ok (.aload_n 0, 1) := by decide +kernel
theorem d_s_seek_18 : decode prog_1_method_13_code 18 = .ok (.getfield 31, 3) := by decide +kernel
theorem d_s_seek_21 : decode prog_1_method_13_code 21 = .ok (.iconst (-1), 1) := by decide +kernel
theorem d_s_seek_22 : decode prog_1_method_13_code 22 = .ok (.if_icmp .eq 7, 3) := by decide +kernel
theorem d_s_seek_25 : decode prog_1_method_13_code 25 = .ok (.iconst 1, 1) := by decide +kernel
theorem d_s_seek_26 : decode prog_1_method_13_code 26 = .ok (.goto 4, 3) := by decide +kernel
theorem d_s_seek_29 : decode prog_1_method_13_code 29 = .ok (.iconst 0, 1) := by decide +kernel
theorem d_s_seek_30 : decode prog_1_method_13_code 30 = .ok (.ireturn, 1) := by decide +kernel
abbrev M_s_leastKeyThere : rsM := (⟨"RunStore", "leastKeyThere", "(I)I"⟩, prog_1_method_35_code, 3, some .int, [])
theorem d_s_leastKeyThere_0 : decode prog_1_method_35_code 0 = .ok (.iload_n 1, 1) := by decide +kernel
theorem d_s_leastKeyThere_1 : decode prog_1_method_35_code 1 = .ok (.istore_n 2, 1) := by decide +kernel
theorem d_s_leastKeyThere_2 : decode prog_1_method_35_code 2 = .ok (.iload_n 2, 1) := by decide +kernel
theorem d_s_leastKeyThere_3 : decode prog_1_method_35_code 3 = .ok (.bipush 100, 2) := by decide +kernel
theorem d_s_leastKeyThere_5 : decode prog_1_method_35_code 5 = .ok (.if_icmp .ge 19, 3) := by decide +kernel
theorem d_s_leastKeyThere_8 : decode prog_1_method_35_code 8 = .ok (.aload_n 0, 1) := by decide +kernel
theorem d_s_leastKeyThere_9 : decode prog_1_method_35_code 9 = .ok (.iload_n 2, 1) := by decide +kernel
theorem d_s_leastKeyThere_10 : decode prog_1_method_35_code 10 = .ok (.invokevirtual 74, 3) := by decide +kernel
theorem d_s_leastKeyThere_13 : decode prog_1_method_35_code 13 = .ok (.ifCond .eq 5, 3) := by decide +kernel
theorem d_s_leastKeyThere_16 : decode prog_1_method_35_code 16 = .ok (.iload_n 2, 1) := by decide +kernel
theorem d_s_leastKeyThere_17 : decode prog_1_method_35_code 17 = .ok (.ireturn, 1) := by decide +kernel
theorem d_s_leastKeyThere_18 : decode prog_1_method_35_code 18 = .ok (.iinc 2 1, 3) := by decide +kernel
theorem d_s_leastKeyThere_21 : decode prog_1_method_35_code 21 = .ok (.goto (-19), 3) := by decide +kernel
theorem d_s_leastKeyThere_24 : decode prog_1_method_35_code 24 = .ok (.iconst (-1), 1) := by decide +kernel
theorem d_s_leastKeyThere_25 : decode prog_1_method_35_code 25 = .ok (.ireturn, 1) := by decide +kernel
abbrev M_s_next : rsM := (⟨"RunStore", "next", "()Z"⟩, prog_1_method_14_code, 1, some .boolean, [])
theorem d_s_next_0 : decode prog_1_method_14_code 0 = .ok (.aload_n 0, 1) := by decide +kernel
theorem d_s_next_1 : decode prog_1_method_14_code 1 = .ok (.invokevirtual 61, 3) := by decide +kernel
theorem d_s_next_4 : decode prog_1_method_14_code 4 = .ok (.aload_n 0, 1) := by decide +kernel
theorem d_s_next_5 : decode prog_1_method_14_code 5 = .ok (.getfield 31, 3) := by decide +kernel
theorem d_s_next_8 : decode prog_1_method_14_code 8 = .ok (.iconst (-1), 1) := by decide +kernel
theorem d_s_next_9 : decode prog_1_method_14_code 9 = .ok (.if_icmp .ne 13, 3) := by decide +kernel
theorem d_s_next_12 : decode prog_1_method_14_code 12 = .ok (.new 44, 3) := by decide +kernel
theorem d_s_next_15 : decode prog_1_method_14_code 15 = .ok (.dup, 1) := by decide +kernel
theorem d_s_next_16 : decode prog_1_method_14_code 16 = .ok (.ldc 110, 2) := by decide +kernel
theorem d_s_next_18 : decode prog_1_method_14_code 18 = .ok (.invokespecial 48, 3) := by decide +kernel
theorem d_s_next_21 : decode prog_1_method_14_code 21 = .ok (.athrow, 1) := by decide +kernel
theorem d_s_next_22 : decode prog_1_method_14_code 22 = .ok (.aload_n 0, 1) := by decide +kernel
theorem d_s_next_23 : decode prog_1_method_14_code 23 = .ok (.aload_n 0, 1) := by decide +kernel
theorem d_s_next_24 : decode prog_1_method_14_code 24 = .ok (.aload_n 0, 1) := by decide +kernel
theorem d_s_next_25 : decode prog_1_method_14_code 25 = .ok (.getfield 31, 3) := by decide +kernel
theorem d_s_next_28 : decode prog_1_method_14_code 28 = .ok (.iconst 1, 1) := by decide +kernel
theorem d_s_next_29 : decode prog_1_method_14_code 29 = .ok (.iadd, 1) := by decide +kernel
theorem d_s_next_30 : decode prog_1_method_14_code 30 = .ok (.invokevirtual 107, 3) := by decide +kernel
theorem d_s_next_33 : decode prog_1_method_14_code 33 = .ok (.putfield 31, 3) := by decide +kernel
theorem d_s_next_36 : decode prog_1_method_14_code 36 = .ok (.aload_n 0, 1) := by decide +kernel
theorem d_s_next_37 : decode prog_1_method_14_code 37 = .ok (.getfield 31, 3) := by decide +kernel
theorem d_s_next_40 : decode prog_1_method_14_code 40 = .ok (.iconst (-1), 1) := by decide +kernel
theorem d_s_next_41 : decode prog_1_method_14_code 41 = .ok (.if_icmp .eq 7, 3) := by decide +kernel
theorem d_s_next_44 : decode prog_1_method_14_code 44 = .ok (.iconst 1, 1) := by decide +kernel
theorem d_s_next_45 : decode prog_1_method_14_code 45 = .ok (.goto 4, 3) := by decide +kernel
theorem d_s_next_48 : decode prog_1_method_14_code 48 = .ok (.iconst 0, 1) := by decide +kernel
theorem d_s_next_49 : decode prog_1_method_14_code 49 = .ok (.ireturn, 1) := by decide +kernel
abbrev M_s_size : rsM := (⟨"RunStore", "size", "()I"⟩, prog_1_method_17_code, 3, some .int, [])
theorem d_s_size_0 : decode prog_1_method_17_code 0 = .ok (.aload_n 0, 1) := by decide +kernel
theorem d_s_size_1 : decode prog_1_method_17_code 1 = .ok (.invokevirtual 61, 3) := by decide +kernel
theorem d_s_size_4 : decode prog_1_method_17_code 4 = .ok (.iconst 0, 1) := by decide +kernel
theorem d_s_size_5 : decode prog_1_method_17_code 5 = .ok (.istore_n 1, 1) := by decide +kernel
theorem d_s_size_6 : decode prog_1_method_17_code 6 = .ok (.iconst 0, 1) := by decide +kernel
theorem d_s_size_7 : decode prog_1_method_17_code 7 = .ok (.istore_n 2, 1) := by decide +kernel
theorem d_s_size_8 : decode prog_1_method_17_code 8 = .ok (.iload_n 2, 1) := by decide +kernel
theorem d_s_size_9 : decode prog_1_method_17_code 9 = .ok (.bipush 100, 2) := by decide +kernel
theorem d_s_size_11 : decode prog_1_method_17_code 11 = .ok (.if_icmp .ge 20, 3) := by decide +kernel
theorem d_s_size_14 : decode prog_1_method_17_code 14 = .ok (.aload_n 0, 1) := by decide +kernel
theorem d_s_size_15 : decode prog_1_method_17_code 15 = .ok (.iload_n 2, 1) := by decide +kernel
theorem d_s_size_16 : decode prog_1_method_17_code 16 = .ok (.invokevirtual 74, 3) := by decide +kernel
theorem d_s_size_19 : decode prog_1_method_17_code 19 = .ok (.ifCond .eq 6, 3) := by decide +kernel
theorem d_s_size_22 : decode prog_1_method_17_code 22 = .ok (.iinc 1 1, 3) := by decide +kernel
theorem d_s_size_25 : decode prog_1_method_17_code 25 = .ok (.iinc 2 1, 3) := by decide +kernel
theorem d_s_size_28 : decode prog_1_method_17_code 28 = .ok (.goto (-20), 3) := by decide +kernel
theorem d_s_size_31 : decode prog_1_method_17_code 31 = .ok (.iload_n 1, 1) := by decide +kernel
theorem d_s_size_32 : decode prog_1_method_17_code 32 = .ok (.ireturn, 1) := by decide +kernel
abbrev M_s_runs : rsM := (⟨"RunStore", "runs", "(I)I"⟩, prog_1_method_19_code, 2, some .int, [])
theorem d_s_runs_0 : decode prog_1_method_19_code 0 = .ok (.iload_n 1, 1) := by decide +kernel
theorem d_s_runs_1 : decode prog_1_method_19_code 1 = .ok (.invokestatic 99, 3) := by decide +kernel
theorem d_s_runs_4 : decode prog_1_method_19_code 4 = .ok (.aload_n 0, 1) := by decide +kernel
theorem d_s_runs_5 : decode prog_1_method_19_code 5 = .ok (.invokevirtual 61, 3) := by decide +kernel
theorem d_s_runs_8 : decode prog_1_method_19_code 8 = .ok (.aload_n 0, 1) := by decide +kernel
theorem d_s_runs_9 : decode prog_1_method_19_code 9 = .ok (.getfield 19, 3) := by decide +kernel
theorem d_s_runs_12 : decode prog_1_method_19_code 12 = .ok (.iload_n 1, 1) := by decide +kernel
theorem d_s_runs_13 : decode prog_1_method_19_code 13 = .ok (.invokevirtual 112, 3) := by decide +kernel
theorem d_s_runs_16 : decode prog_1_method_19_code 16 = .ok (.ireturn, 1) := by decide +kernel
abbrev M_s_entries : rsM := (⟨"RunStore", "entries", "(II)I"⟩, prog_1_method_20_code, 3, some .int, [])
theorem d_s_entries_0 : decode prog_1_method_20_code 0 = .ok (.aload_n 0, 1) := by decide +kernel
theorem d_s_entries_1 : decode prog_1_method_20_code 1 = .ok (.invokevirtual 61, 3) := by decide +kernel
theorem d_s_entries_4 : decode prog_1_method_20_code 4 = .ok (.iload_n 1, 1) := by decide +kernel
theorem d_s_entries_5 : decode prog_1_method_20_code 5 = .ok (.invokestatic 115, 3) := by decide +kernel
theorem d_s_entries_8 : decode prog_1_method_20_code 8 = .ok (.ifCond .eq 19, 3) := by decide +kernel
theorem d_s_entries_11 : decode prog_1_method_20_code 11 = .ok (.iload_n 2, 1) := by decide +kernel
theorem d_s_entries_12 : decode prog_1_method_20_code 12 = .ok (.ifCond .lt 15, 3) := by decide +kernel
theorem d_s_entries_15 : decode prog_1_method_20_code 15 = .ok (.iload_n 2, 1) := by decide +kernel
theorem d_s_entries_16 : decode prog_1_method_20_code 16 = .ok (.aload_n 0, 1) := by decide +kernel
theorem d_s_entries_17 : decode prog_1_method_20_code 17 = .ok (.getfield 19, 3) := by decide +kernel
theorem d_s_entries_20 : decode prog_1_method_20_code 20 = .ok (.iload_n 1, 1) := by decide +kernel
theorem d_s_entries_21 : decode prog_1_method_20_code 21 = .ok (.invokevirtual 112, 3) := by decide +kernel
theorem d_s_entries_24 : decode prog_1_method_20_code 24 = .ok (.if_icmp .lt 13, 3) := by decide +kernel
theorem d_s_entries_27 : decode prog_1_method_20_code 27 = .ok (.new 81, 3) := by decide +kernel
theorem d_s_entries_30 : decode prog_1_method_20_code 30 = .ok (.dup, 1) := by decide +kernel
theorem d_s_entries_31 : decode prog_1_method_20_code 31 = .ok (.ldc 118, 2) := by decide +kernel
theorem d_s_entries_33 : decode prog_1_method_20_code 33 = .ok (.invokespecial 85, 3) := by decide +kernel
theorem d_s_entries_36 : decode prog_1_method_20_code 36 = .ok (.athrow, 1) := by decide +kernel
theorem d_s_entries_37 : decode prog_1_method_20_code 37 = .ok (.aload_n 0, 1) := by decide +kernel
theorem d_s_entries_38 : decode prog_1_method_20_code 38 = .ok (.getfield 19, 3) := by decide +kernel
theorem d_s_entries_41 : decode prog_1_method_20_code 41 = .ok (.iload_n 1, 1) := by decide +kernel
theorem d_s_entries_42 : decode prog_1_method_20_code 42 = .ok (.iload_n 2, 1) := by decide +kernel
theorem d_s_entries_43 : decode prog_1_method_20_code 43 = .ok (.invokevirtual 120, 3) := by decide +kernel
theorem d_s_entries_46 : decode prog_1_method_20_code 46 = .ok (.invokevirtual 71, 3) := by decide +kernel
theorem d_s_entries_49 : decode prog_1_method_20_code 49 = .ok (.ireturn, 1) := by decide +kernel
abbrev M_s_room : rsM := (⟨"RunStore", "room", "()I"⟩, prog_1_method_21_code, 1, some .int, [])
theorem d_s_room_0 : decode prog_1_method_21_code 0 = .ok (.aload_n 0, 1) := by decide +kernel
theorem d_s_room_1 : decode prog_1_method_21_code 1 = .ok (.invokevirtual 61, 3) := by decide +kernel
theorem d_s_room_4 : decode prog_1_method_21_code 4 = .ok (.aload_n 0, 1) := by decide +kernel
theorem d_s_room_5 : decode prog_1_method_21_code 5 = .ok (.getfield 19, 3) := by decide +kernel
theorem d_s_room_8 : decode prog_1_method_21_code 8 = .ok (.invokevirtual 124, 3) := by decide +kernel
theorem d_s_room_11 : decode prog_1_method_21_code 11 = .ok (.ireturn, 1) := by decide +kernel
