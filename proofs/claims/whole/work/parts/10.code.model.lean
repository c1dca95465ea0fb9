/-! 10.code.model: methods and what stands at each place of their code (written by gen_code.py) -/
abbrev M_m_init : rsM := (⟨"RunStoreModel", "<init>", "()V"⟩, prog_5_method_1_code, 1, none, [])
theorem d_m_init_0 : decode prog_5_method_1_code 0 = .ok (.aload_n 0, 1) := by decide +kernel
theorem d_m_init_1 : decode prog_5_method_1_code 1 = .ok (.invokespecial 1, 3) := by decide +kernel
theorem d_m_init_4 : decode prog_5_method_1_code 4 = .ok (.aload_n 0, 1) := by decide +kernel
theorem d_m_init_5 : decode prog_5_method_1_code 5 = .ok (.iconst (-1), 1) := by decide +kernel
theorem d_m_init_6 : decode prog_5_method_1_code 6 = .ok (.putfield 9, 3) := by decide +kernel
theorem d_m_init_9 : decode prog_5_method_1_code 9 = .ok (.aload_n 0, 1) := by decide +kernel
theorem d_m_init_10 : decode prog_5_method_1_code 10 = .ok (.bipush 12, 2) := by decide +kernel
theorem d_m_init_12 : decode prog_5_method_1_code 12 = .ok (.newarray .int, 2) := by decide +kernel
theorem d_m_init_14 : decode prog_5_method_1_code 14 = .ok (.putfield 13, 3) := by decide +kernel
theorem d_m_init_17 : decode prog_5_method_1_code 17 = .ok (.aload_n 0, 1) := by decide +kernel
theorem d_m_init_18 : decode prog_5_method_1_code 18 = .ok (.sipush 1400, 3) := by decide +kernel
theorem d_m_init_21 : decode prog_5_method_1_code 21 = .ok (.newarray .int, 2) := by decide +kernel
theorem d_m_init_23 : decode prog_5_method_1_code 23 = .ok (.putfield 17, 3) := by decide +kernel
theorem d_m_init_26 : decode prog_5_method_1_code 26 = .ok (.aload_n 0, 1) := by decide +kernel
theorem d_m_init_27 : decode prog_5_method_1_code 27 = .ok (.sipush 1400, 3) := by decide +kernel
theorem d_m_init_30 : decode prog_5_method_1_code 30 = .ok (.newarray .int, 2) := by decide +kernel
theorem d_m_init_32 : decode prog_5_method_1_code 32 = .ok (.putfield 20, 3) := by decide +kernel
theorem d_m_init_35 : decode prog_5_method_1_code 35 = .ok (.aload_n 0, 1) := by decide +kernel
theorem d_m_init_36 : decode prog_5_method_1_code 36 = .ok (.iconst (-1), 1) := by decide +kernel
theorem d_m_init_37 : decode prog_5_method_1_code 37 = .ok (.putfield 23, 3) := by decide +kernel
theorem d_m_init_40 : decode prog_5_method_1_code 40 = .ok (.return_, 1) := by decide +kernel
abbrev M_m_thrown : rsM := (⟨"RunStoreModel", "thrown", "()I"⟩, prog_5_method_2_code, 1, some .int, [])
theorem d_m_thrown_0 : decode prog_5_method_2_code 0 = .ok (.aload_n 0, 1) := by decide +kernel
theorem d_m_thrown_1 : decode prog_5_method_2_code 1 = .ok (.getfield 26, 3) := by decide +kernel
theorem d_m_thrown_4 : decode prog_5_method_2_code 4 = .ok (.ireturn, 1) := by decide +kernel
abbrev M_m_format : rsM := (⟨"RunStoreModel", "format", "()V"⟩, prog_5_method_18_code, 1, none, [])
theorem d_m_format_0 : decode prog_5_method_18_code 0 = .ok (.aload_n 0, 1) := by decide +kernel
theorem d_m_format_1 : decode prog_5_method_18_code 1 = .ok (.aload_n 0, 1) := by decide +kernel
theorem d_m_format_2 : decode prog_5_method_18_code 2 = .ok (.iconst 1, 1) := by decide +kernel
theorem d_m_format_3 : decode prog_5_method_18_code 3 = .ok (.invokevirtual 61, 3) := by decide +kernel
theorem d_m_format_6 : decode prog_5_method_18_code 6 = .ok (.ifCond .eq 7, 3) := by decide +kernel
theorem d_m_format_9 : decode prog_5_method_18_code 9 = .ok (.iconst 0, 1) := by decide +kernel
theorem d_m_format_10 : decode prog_5_method_18_code 10 = .ok (.goto 4, 3) := by decide +kernel
theorem d_m_format_13 : decode prog_5_method_18_code 13 = .ok (.iconst 1, 1) := by decide +kernel
theorem d_m_format_14 : decode prog_5_method_18_code 14 = .ok (.putfield 26, 3) := by decide +kernel
theorem d_m_format_17 : decode prog_5_method_18_code 17 = .ok (.aload_n 0, 1) := by decide +kernel
theorem d_m_format_18 : decode prog_5_method_18_code 18 = .ok (.getfield 26, 3) := by decide +kernel
theorem d_m_format_21 : decode prog_5_method_18_code 21 = .ok (.ifCond .ne 29, 3) := by decide +kernel
theorem d_m_format_24 : decode prog_5_method_18_code 24 = .ok (.aload_n 0, 1) := by decide +kernel
theorem d_m_format_25 : decode prog_5_method_18_code 25 = .ok (.iconst 1, 1) := by decide +kernel
theorem d_m_format_26 : decode prog_5_method_18_code 26 = .ok (.putfield 77, 3) := by decide +kernel
theorem d_m_format_29 : decode prog_5_method_18_code 29 = .ok (.aload_n 0, 1) := by decide +kernel
theorem d_m_format_30 : decode prog_5_method_18_code 30 = .ok (.iconst 1, 1) := by decide +kernel
theorem d_m_format_31 : decode prog_5_method_18_code 31 = .ok (.putfield 42, 3) := by decide +kernel
theorem d_m_format_34 : decode prog_5_method_18_code 34 = .ok (.aload_n 0, 1) := by decide +kernel
theorem d_m_format_35 : decode prog_5_method_18_code 35 = .ok (.iconst 0, 1) := by decide +kernel
theorem d_m_format_36 : decode prog_5_method_18_code 36 = .ok (.putfield 29, 3) := by decide +kernel
theorem d_m_format_39 : decode prog_5_method_18_code 39 = .ok (.aload_n 0, 1) := by decide +kernel
theorem d_m_format_40 : decode prog_5_method_18_code 40 = .ok (.iconst (-1), 1) := by decide +kernel
theorem d_m_format_41 : decode prog_5_method_18_code 41 = .ok (.putfield 23, 3) := by decide +kernel
theorem d_m_format_44 : decode prog_5_method_18_code 44 = .ok (.aload_n 0, 1) := by decide +kernel
theorem d_m_format_45 : decode prog_5_method_18_code 45 = .ok (.bipush 12, 2) := by decide +kernel
theorem d_m_format_47 : decode prog_5_method_18_code 47 = .ok (.invokevirtual 46, 3) := by decide +kernel
theorem d_m_format_50 : decode prog_5_method_18_code 50 = .ok (.return_, 1) := by decide +kernel
abbrev M_m_writes : rsM := (⟨"RunStoreModel", "writes", "(I)Z"⟩, prog_5_method_13_code, 2, some .boolean, [])
theorem d_m_writes_0 : decode prog_5_method_13_code 0 = .ok (.aload_n 0, 1) := by decide +kernel
theorem d_m_writes_1 : decode prog_5_method_13_code 1 = .ok (.getfield 9, 3) := by decide +kernel
theorem d_m_writes_4 : decode prog_5_method_13_code 4 = .ok (.ifCond .lt 17, 3) := by decide +kernel
theorem d_m_writes_7 : decode prog_5_method_13_code 7 = .ok (.aload_n 0, 1) := by decide +kernel
theorem d_m_writes_8 : decode prog_5_method_13_code 8 = .ok (.getfield 9, 3) := by decide +kernel
theorem d_m_writes_11 : decode prog_5_method_13_code 11 = .ok (.iload_n 1, 1) := by decide +kernel
theorem d_m_writes_12 : decode prog_5_method_13_code 12 = .ok (.if_icmp .ge 9, 3) := by decide +kernel
theorem d_m_writes_15 : decode prog_5_method_13_code 15 = .ok (.aload_n 0, 1) := by decide +kernel
theorem d_m_writes_16 : decode prog_5_method_13_code 16 = .ok (.invokevirtual 50, 3) := by decide +kernel
theorem d_m_writes_19 : decode prog_5_method_13_code 19 = .ok (.iconst 0, 1) := by decide +kernel
theorem d_m_writes_20 : decode prog_5_method_13_code 20 = .ok (.ireturn, 1) := by decide +kernel
theorem d_m_writes_21 : decode prog_5_method_13_code 21 = .ok (.aload_n 0, 1) := by decide +kernel
theorem d_m_writes_22 : decode prog_5_method_13_code 22 = .ok (.aload_n 0, 1) := by decide +kernel
theorem d_m_writes_23 : decode prog_5_method_13_code 23 = .ok (.getfield 9, 3) := by decide +kernel
theorem d_m_writes_26 : decode prog_5_method_13_code 26 = .ok (.ifCond .ge 10, 3) := by decide +kernel
theorem d_m_writes_29 : decode prog_5_method_13_code 29 = .ok (.aload_n 0, 1) := by decide +kernel
theorem d_m_writes_30 : decode prog_5_method_13_code 30 = .ok (.getfield 9, 3) := by decide +kernel
theorem d_m_writes_33 : decode prog_5_method_13_code 33 = .ok (.goto 9, 3) := by decide +kernel
theorem d_m_writes_36 : decode prog_5_method_13_code 36 = .ok (.aload_n 0, 1) := by decide +kernel
theorem d_m_writes_37 : decode prog_5_method_13_code 37 = .ok (.getfield 9, 3) := by decide +kernel
theorem d_m_writes_40 : decode prog_5_method_13_code 40 = .ok (.iload_n 1, 1) := by decide +kernel
theorem d_m_writes_41 : decode prog_5_method_13_code 41 = .ok (.isub, 1) := by decide +kernel
theorem d_m_writes_42 : decode prog_5_method_13_code 42 = .ok (.putfield 9, 3) := by decide +kernel
theorem d_m_writes_45 : decode prog_5_method_13_code 45 = .ok (.iconst 1, 1) := by decide +kernel
theorem d_m_writes_46 : decode prog_5_method_13_code 46 = .ok (.ireturn, 1) := by decide +kernel
abbrev M_m_goDown : rsM := (⟨"RunStoreModel", "goDown", "()V"⟩, prog_5_method_12_code, 1, none, [])
theorem d_m_goDown_0 : decode prog_5_method_12_code 0 = .ok (.aload_n 0, 1) := by decide +kernel
theorem d_m_goDown_1 : decode prog_5_method_12_code 1 = .ok (.iconst 0, 1) := by decide +kernel
theorem d_m_goDown_2 : decode prog_5_method_12_code 2 = .ok (.putfield 42, 3) := by decide +kernel
theorem d_m_goDown_5 : decode prog_5_method_12_code 5 = .ok (.aload_n 0, 1) := by decide +kernel
theorem d_m_goDown_6 : decode prog_5_method_12_code 6 = .ok (.iconst (-1), 1) := by decide +kernel
theorem d_m_goDown_7 : decode prog_5_method_12_code 7 = .ok (.putfield 9, 3) := by decide +kernel
theorem d_m_goDown_10 : decode prog_5_method_12_code 10 = .ok (.aload_n 0, 1) := by decide +kernel
theorem d_m_goDown_11 : decode prog_5_method_12_code 11 = .ok (.iconst (-1), 1) := by decide +kernel
theorem d_m_goDown_12 : decode prog_5_method_12_code 12 = .ok (.putfield 23, 3) := by decide +kernel
theorem d_m_goDown_15 : decode prog_5_method_12_code 15 = .ok (.aload_n 0, 1) := by decide +kernel
theorem d_m_goDown_16 : decode prog_5_method_12_code 16 = .ok (.bipush 12, 2) := by decide +kernel
theorem d_m_goDown_18 : decode prog_5_method_12_code 18 = .ok (.invokevirtual 46, 3) := by decide +kernel
theorem d_m_goDown_21 : decode prog_5_method_12_code 21 = .ok (.return_, 1) := by decide +kernel
abbrev M_m_clearRow : rsM := (⟨"RunStoreModel", "clearRow", "(I)V"⟩, prog_5_method_3_code, 3, none, [])
theorem d_m_clearRow_0 : decode prog_5_method_3_code 0 = .ok (.iconst 0, 1) := by decide +kernel
theorem d_m_clearRow_1 : decode prog_5_method_3_code 1 = .ok (.istore_n 2, 1) := by decide +kernel
theorem d_m_clearRow_2 : decode prog_5_method_3_code 2 = .ok (.iload_n 2, 1) := by decide +kernel
theorem d_m_clearRow_3 : decode prog_5_method_3_code 3 = .ok (.bipush 100, 2) := by decide +kernel
theorem d_m_clearRow_5 : decode prog_5_method_3_code 5 = .ok (.if_icmp .ge 33, 3) := by decide +kernel
theorem d_m_clearRow_8 : decode prog_5_method_3_code 8 = .ok (.aload_n 0, 1) := by decide +kernel
theorem d_m_clearRow_9 : decode prog_5_method_3_code 9 = .ok (.getfield 17, 3) := by decide +kernel
theorem d_m_clearRow_12 : decode prog_5_method_3_code 12 = .ok (.bipush 100, 2) := by decide +kernel
theorem d_m_clearRow_14 : decode prog_5_method_3_code 14 = .ok (.iload_n 1, 1) := by decide +kernel
theorem d_m_clearRow_15 : decode prog_5_method_3_code 15 = .ok (.imul, 1) := by decide +kernel
theorem d_m_clearRow_16 : decode prog_5_method_3_code 16 = .ok (.iload_n 2, 1) := by decide +kernel
theorem d_m_clearRow_17 : decode prog_5_method_3_code 17 = .ok (.iadd, 1) := by decide +kernel
theorem d_m_clearRow_18 : decode prog_5_method_3_code 18 = .ok (.iconst 0, 1) := by decide +kernel
theorem d_m_clearRow_19 : decode prog_5_method_3_code 19 = .ok (.iastore, 1) := by decide +kernel
theorem d_m_clearRow_20 : decode prog_5_method_3_code 20 = .ok (.aload_n 0, 1) := by decide +kernel
theorem d_m_clearRow_21 : decode prog_5_method_3_code 21 = .ok (.getfield 20, 3) := by decide +kernel
theorem d_m_clearRow_24 : decode prog_5_method_3_code 24 = .ok (.bipush 100, 2) := by decide +kernel
theorem d_m_clearRow_26 : decode prog_5_method_3_code 26 = .ok (.iload_n 1, 1) := by decide +kernel
theorem d_m_clearRow_27 : decode prog_5_method_3_code 27 = .ok (.imul, 1) := by decide +kernel
theorem d_m_clearRow_28 : decode prog_5_method_3_code 28 = .ok (.iload_n 2, 1) := by decide +kernel
theorem d_m_clearRow_29 : decode prog_5_method_3_code 29 = .ok (.iadd, 1) := by decide +kernel
theorem d_m_clearRow_30 : decode prog_5_method_3_code 30 = .ok (.iconst 0, 1) := by decide +kernel
theorem d_m_clearRow_31 : decode prog_5_method_3_code 31 = .ok (.iastore, 1) := by decide +kernel
theorem d_m_clearRow_32 : decode prog_5_method_3_code 32 = .ok (.iinc 2 1, 3) := by decide +kernel
theorem d_m_clearRow_35 : decode prog_5_method_3_code 35 = .ok (.goto (-33), 3) := by decide +kernel
theorem d_m_clearRow_38 : decode prog_5_method_3_code 38 = .ok (.return_, 1) := by decide +kernel
abbrev M_m_recover : rsM := (⟨"RunStoreModel", "recover", "()I"⟩, prog_5_method_19_code, 1, some .int, [])
theorem d_m_recover_0 : decode prog_5_method_19_code 0 = .ok (.aload_n 0, 1) := by decide +kernel
theorem d_m_recover_1 : decode prog_5_method_19_code 1 = .ok (.aload_n 0, 1) := by decide +kernel
theorem d_m_recover_2 : decode prog_5_method_19_code 2 = .ok (.getfield 42, 3) := by decide +kernel
theorem d_m_recover_5 : decode prog_5_method_19_code 5 = .ok (.ifCond .ne 10, 3) := by decide +kernel
theorem d_m_recover_8 : decode prog_5_method_19_code 8 = .ok (.aload_n 0, 1) := by decide +kernel
theorem d_m_recover_9 : decode prog_5_method_19_code 9 = .ok (.getfield 77, 3) := by decide +kernel
theorem d_m_recover_12 : decode prog_5_method_19_code 12 = .ok (.ifCond .ne 7, 3) := by decide +kernel
theorem d_m_recover_15 : decode prog_5_method_19_code 15 = .ok (.iconst 1, 1) := by decide +kernel
theorem d_m_recover_16 : decode prog_5_method_19_code 16 = .ok (.goto 4, 3) := by decide +kernel
theorem d_m_recover_19 : decode prog_5_method_19_code 19 = .ok (.iconst 0, 1) := by decide +kernel
theorem d_m_recover_20 : decode prog_5_method_19_code 20 = .ok (.putfield 26, 3) := by decide +kernel
theorem d_m_recover_23 : decode prog_5_method_19_code 23 = .ok (.aload_n 0, 1) := by decide +kernel
theorem d_m_recover_24 : decode prog_5_method_19_code 24 = .ok (.getfield 26, 3) := by decide +kernel
theorem d_m_recover_27 : decode prog_5_method_19_code 27 = .ok (.ifCond .eq 5, 3) := by decide +kernel
theorem d_m_recover_30 : decode prog_5_method_19_code 30 = .ok (.iconst 0, 1) := by decide +kernel
theorem d_m_recover_31 : decode prog_5_method_19_code 31 = .ok (.ireturn, 1) := by decide +kernel
theorem d_m_recover_32 : decode prog_5_method_19_code 32 = .ok (.aload_n 0, 1) := by decide +kernel
theorem d_m_recover_33 : decode prog_5_method_19_code 33 = .ok (.iconst 1, 1) := by decide +kernel
theorem d_m_recover_34 : decode prog_5_method_19_code 34 = .ok (.putfield 42, 3) := by decide +kernel
theorem d_m_recover_37 : decode prog_5_method_19_code 37 = .ok (.aload_n 0, 1) := by decide +kernel
theorem d_m_recover_38 : decode prog_5_method_19_code 38 = .ok (.iconst (-1), 1) := by decide +kernel
theorem d_m_recover_39 : decode prog_5_method_19_code 39 = .ok (.putfield 23, 3) := by decide +kernel
theorem d_m_recover_42 : decode prog_5_method_19_code 42 = .ok (.aload_n 0, 1) := by decide +kernel
theorem d_m_recover_43 : decode prog_5_method_19_code 43 = .ok (.getfield 29, 3) := by decide +kernel
theorem d_m_recover_46 : decode prog_5_method_19_code 46 = .ok (.ireturn, 1) := by decide +kernel
abbrev M_m_put : rsM := (⟨"RunStoreModel", "put", "(II)I"⟩, prog_5_method_22_code, 3, some .int, [])
theorem d_m_put_0 : decode prog_5_method_22_code 0 = .ok (.aload_n 0, 1) := by decide +kernel
theorem d_m_put_1 : decode prog_5_method_22_code 1 = .ok (.iload_n 1, 1) := by decide +kernel
theorem d_m_put_2 : decode prog_5_method_22_code 2 = .ok (.iload_n 2, 1) := by decide +kernel
theorem d_m_put_3 : decode prog_5_method_22_code 3 = .ok (.iconst 1, 1) := by decide +kernel
theorem d_m_put_4 : decode prog_5_method_22_code 4 = .ok (.invokevirtual 86, 3) := by decide +kernel
theorem d_m_put_7 : decode prog_5_method_22_code 7 = .ok (.aload_n 0, 1) := by decide +kernel
theorem d_m_put_8 : decode prog_5_method_22_code 8 = .ok (.getfield 26, 3) := by decide +kernel
theorem d_m_put_11 : decode prog_5_method_22_code 11 = .ok (.ifCond .ne 12, 3) := by decide +kernel
theorem d_m_put_14 : decode prog_5_method_22_code 14 = .ok (.aload_n 0, 1) := by decide +kernel
theorem d_m_put_15 : decode prog_5_method_22_code 15 = .ok (.bipush 12, 2) := by decide +kernel
theorem d_m_put_17 : decode prog_5_method_22_code 17 = .ok (.invokevirtual 32, 3) := by decide +kernel
theorem d_m_put_20 : decode prog_5_method_22_code 20 = .ok (.goto 4, 3) := by decide +kernel
theorem d_m_put_23 : decode prog_5_method_22_code 23 = .ok (.iconst 0, 1) := by decide +kernel
theorem d_m_put_24 : decode prog_5_method_22_code 24 = .ok (.ireturn, 1) := by decide +kernel
abbrev M_m_enter : rsM := (⟨"RunStoreModel", "enter", "(III)V"⟩, prog_5_method_21_code, 5, none, [])
theorem d_m_enter_0 : decode prog_5_method_21_code 0 = .ok (.aload_n 0, 1) := by decide +kernel
theorem d_m_enter_1 : decode prog_5_method_21_code 1 = .ok (.iload_n 1, 1) := by decide +kernel
theorem d_m_enter_2 : decode prog_5_method_21_code 2 = .ok (.invokestatic 80, 3) := by decide +kernel
theorem d_m_enter_5 : decode prog_5_method_21_code 5 = .ok (.ifCond .ne 7, 3) := by decide +kernel
theorem d_m_enter_8 : decode prog_5_method_21_code 8 = .ok (.iconst 1, 1) := by decide +kernel
theorem d_m_enter_9 : decode prog_5_method_21_code 9 = .ok (.goto 15, 3) := by decide +kernel
theorem d_m_enter_12 : decode prog_5_method_21_code 12 = .ok (.aload_n 0, 1) := by decide +kernel
theorem d_m_enter_13 : decode prog_5_method_21_code 13 = .ok (.getfield 42, 3) := by decide +kernel
theorem d_m_enter_16 : decode prog_5_method_21_code 16 = .ok (.ifCond .ne 7, 3) := by decide +kernel
theorem d_m_enter_19 : decode prog_5_method_21_code 19 = .ok (.iconst 2, 1) := by decide +kernel
theorem d_m_enter_20 : decode prog_5_method_21_code 20 = .ok (.goto 4, 3) := by decide +kernel
theorem d_m_enter_23 : decode prog_5_method_21_code 23 = .ok (.iconst 0, 1) := by decide +kernel
theorem d_m_enter_24 : decode prog_5_method_21_code 24 = .ok (.putfield 26, 3) := by decide +kernel
theorem d_m_enter_27 : decode prog_5_method_21_code 27 = .ok (.aload_n 0, 1) := by decide +kernel
theorem d_m_enter_28 : decode prog_5_method_21_code 28 = .ok (.getfield 26, 3) := by decide +kernel
theorem d_m_enter_31 : decode prog_5_method_21_code 31 = .ok (.ifCond .eq 4, 3) := by decide +kernel
theorem d_m_enter_34 : decode prog_5_method_21_code 34 = .ok (.return_, 1) := by decide +kernel
theorem d_m_enter_35 : decode prog_5_method_21_code 35 = .ok (.aload_n 0, 1) := by decide +kernel
theorem d_m_enter_36 : decode prog_5_method_21_code 36 = .ok (.getfield 17, 3) := by decide +kernel
theorem d_m_enter_39 : decode prog_5_method_21_code 39 = .ok (.sipush 1200, 3) := by decide +kernel
theorem d_m_enter_42 : decode prog_5_method_21_code 42 = .ok (.iload_n 1, 1) := by decide +kernel
theorem d_m_enter_43 : decode prog_5_method_21_code 43 = .ok (.iadd, 1) := by decide +kernel
theorem d_m_enter_44 : decode prog_5_method_21_code 44 = .ok (.iaload, 1) := by decide +kernel
theorem d_m_enter_45 : decode prog_5_method_21_code 45 = .ok (.ifCond .ne 37, 3) := by decide +kernel
theorem d_m_enter_48 : decode prog_5_method_21_code 48 = .ok (.aload_n 0, 1) := by decide +kernel
theorem d_m_enter_49 : decode prog_5_method_21_code 49 = .ok (.bipush 12, 2) := by decide +kernel
theorem d_m_enter_51 : decode prog_5_method_21_code 51 = .ok (.invokevirtual 32, 3) := by decide +kernel
theorem d_m_enter_54 : decode prog_5_method_21_code 54 = .ok (.bipush 8, 2) := by decide +kernel
theorem d_m_enter_56 : decode prog_5_method_21_code 56 = .ok (.if_icmp .ne 26, 3) := by decide +kernel
theorem d_m_enter_59 : decode prog_5_method_21_code 59 = .ok (.aload_n 0, 1) := by decide +kernel
theorem d_m_enter_60 : decode prog_5_method_21_code 60 = .ok (.invokevirtual 83, 3) := by decide +kernel
theorem d_m_enter_63 : decode prog_5_method_21_code 63 = .ok (.istore 4, 2) := by decide +kernel
theorem d_m_enter_65 : decode prog_5_method_21_code 65 = .ok (.aload_n 0, 1) := by decide +kernel
theorem d_m_enter_66 : decode prog_5_method_21_code 66 = .ok (.iload 4, 2) := by decide +kernel
theorem d_m_enter_68 : decode prog_5_method_21_code 68 = .ok (.ifCond .ne 7, 3) := by decide +kernel
theorem d_m_enter_71 : decode prog_5_method_21_code 71 = .ok (.iconst 0, 1) := by decide +kernel
theorem d_m_enter_72 : decode prog_5_method_21_code 72 = .ok (.goto 7, 3) := by decide +kernel
theorem d_m_enter_75 : decode prog_5_method_21_code 75 = .ok (.iload 4, 2) := by decide +kernel
theorem d_m_enter_77 : decode prog_5_method_21_code 77 = .ok (.iconst 1, 1) := by decide +kernel
theorem d_m_enter_78 : decode prog_5_method_21_code 78 = .ok (.iadd, 1) := by decide +kernel
theorem d_m_enter_79 : decode prog_5_method_21_code 79 = .ok (.putfield 26, 3) := by decide +kernel
theorem d_m_enter_82 : decode prog_5_method_21_code 82 = .ok (.aload_n 0, 1) := by decide +kernel
theorem d_m_enter_83 : decode prog_5_method_21_code 83 = .ok (.getfield 26, 3) := by decide +kernel
theorem d_m_enter_86 : decode prog_5_method_21_code 86 = .ok (.ifCond .ne 30, 3) := by decide +kernel
theorem d_m_enter_89 : decode prog_5_method_21_code 89 = .ok (.aload_n 0, 1) := by decide +kernel
theorem d_m_enter_90 : decode prog_5_method_21_code 90 = .ok (.getfield 17, 3) := by decide +kernel
theorem d_m_enter_93 : decode prog_5_method_21_code 93 = .ok (.sipush 1200, 3) := by decide +kernel
theorem d_m_enter_96 : decode prog_5_method_21_code 96 = .ok (.iload_n 1, 1) := by decide +kernel
theorem d_m_enter_97 : decode prog_5_method_21_code 97 = .ok (.iadd, 1) := by decide +kernel
theorem d_m_enter_98 : decode prog_5_method_21_code 98 = .ok (.iload_n 3, 1) := by decide +kernel
theorem d_m_enter_99 : decode prog_5_method_21_code 99 = .ok (.iastore, 1) := by decide +kernel
theorem d_m_enter_100 : decode prog_5_method_21_code 100 = .ok (.aload_n 0, 1) := by decide +kernel
theorem d_m_enter_101 : decode prog_5_method_21_code 101 = .ok (.getfield 20, 3) := by decide +kernel
theorem d_m_enter_104 : decode prog_5_method_21_code 104 = .ok (.sipush 1200, 3) := by decide +kernel
theorem d_m_enter_107 : decode prog_5_method_21_code 107 = .ok (.iload_n 1, 1) := by decide +kernel
theorem d_m_enter_108 : decode prog_5_method_21_code 108 = .ok (.iadd, 1) := by decide +kernel
theorem d_m_enter_109 : decode prog_5_method_21_code 109 = .ok (.iload_n 2, 1) := by decide +kernel
theorem d_m_enter_110 : decode prog_5_method_21_code 110 = .ok (.iastore, 1) := by decide +kernel
theorem d_m_enter_111 : decode prog_5_method_21_code 111 = .ok (.aload_n 0, 1) := by decide +kernel
theorem d_m_enter_112 : decode prog_5_method_21_code 112 = .ok (.iconst (-1), 1) := by decide +kernel
theorem d_m_enter_113 : decode prog_5_method_21_code 113 = .ok (.putfield 23, 3) := by decide +kernel
theorem d_m_enter_116 : decode prog_5_method_21_code 116 = .ok (.return_, 1) := by decide +kernel
abbrev M_m_isKey : rsM := (⟨"RunStoreModel", "isKey", "(I)Z"⟩, prog_5_method_20_code, 1, some .boolean, [])
theorem d_m_isKey_0 : decode prog_5_method_20_code 0 = .ok (.iload_n 0, 1) := by decide +kernel
theorem d_m_isKey_1 : decode prog_5_method_20_code 1 = .ok (.ifCond .lt 13, 3) := by decide +kernel
theorem d_m_isKey_4 : decode prog_5_method_20_code 4 = .ok (.iload_n 0, 1) := by decide +kernel
theorem d_m_isKey_5 : decode prog_5_method_20_code 5 = .ok (.bipush 99, 2) := by decide +kernel
theorem d_m_isKey_7 : decode prog_5_method_20_code 7 = .ok (.if_icmp .gt 7, 3) := by decide +kernel
theorem d_m_isKey_10 : decode prog_5_method_20_code 10 = .ok (.iconst 1, 1) := by decide +kernel
theorem d_m_isKey_11 : decode prog_5_method_20_code 11 = .ok (.goto 4, 3) := by decide +kernel
theorem d_m_isKey_14 : decode prog_5_method_20_code 14 = .ok (.iconst 0, 1) := by decide +kernel
theorem d_m_isKey_15 : decode prog_5_method_20_code 15 = .ok (.ireturn, 1) := by decide +kernel
abbrev M_m_sizeOf : rsM := (⟨"RunStoreModel", "sizeOf", "(I)I"⟩, prog_5_method_5_code, 4, some .int, [])
theorem d_m_sizeOf_0 : decode prog_5_method_5_code 0 = .ok (.iconst 0, 1) := by decide +kernel
theorem d_m_sizeOf_1 : decode prog_5_method_5_code 1 = .ok (.istore_n 2, 1) := by decide +kernel
theorem d_m_sizeOf_2 : decode prog_5_method_5_code 2 = .ok (.iconst 0, 1) := by decide +kernel
theorem d_m_sizeOf_3 : decode prog_5_method_5_code 3 = .ok (.istore_n 3, 1) := by decide +kernel
theorem d_m_sizeOf_4 : decode prog_5_method_5_code 4 = .ok (.iload_n 3, 1) := by decide +kernel
theorem d_m_sizeOf_5 : decode prog_5_method_5_code 5 = .ok (.bipush 100, 2) := by decide +kernel
theorem d_m_sizeOf_7 : decode prog_5_method_5_code 7 = .ok (.if_icmp .ge 31, 3) := by decide +kernel
theorem d_m_sizeOf_10 : decode prog_5_method_5_code 10 = .ok (.iload_n 2, 1) := by decide +kernel
theorem d_m_sizeOf_11 : decode prog_5_method_5_code 11 = .ok (.aload_n 0, 1) := by decide +kernel
theorem d_m_sizeOf_12 : decode prog_5_method_5_code 12 = .ok (.getfield 17, 3) := by decide +kernel
theorem d_m_sizeOf_15 : decode prog_5_method_5_code 15 = .ok (.bipush 100, 2) := by decide +kernel
theorem d_m_sizeOf_17 : decode prog_5_method_5_code 17 = .ok (.iload_n 1, 1) := by decide +kernel
theorem d_m_sizeOf_18 : decode prog_5_method_5_code 18 = .ok (.imul, 1) := by decide +kernel
theorem d_m_sizeOf_19 : decode prog_5_method_5_code 19 = .ok (.iload_n 3, 1) := by decide +kernel
theorem d_m_sizeOf_20 : decode prog_5_method_5_code 20 = .ok (.iadd, 1) := by decide +kernel
theorem d_m_sizeOf_21 : decode prog_5_method_5_code 21 = .ok (.iaload, 1) := by decide +kernel
theorem d_m_sizeOf_22 : decode prog_5_method_5_code 22 = .ok (.ifCond .le 7, 3) := by decide +kernel
theorem d_m_sizeOf_25 : decode prog_5_method_5_code 25 = .ok (.iconst 1, 1) := by decide +kernel
theorem d_m_sizeOf_26 : decode prog_5_method_5_code 26 = .ok (.goto 4, 3) := by decide +kernel
theorem d_m_sizeOf_29 : decode prog_5_method_5_code 29 = .ok (.iconst 0, 1) := by decide +kernel
theorem d_m_sizeOf_30 : decode prog_5_method_5_code 30 = .ok (.iadd, 1) := by decide +kernel
theorem d_m_sizeOf_31 : decode prog_5_method_5_code 31 = .ok (.istore_n 2, 1) := by decide +kernel
theorem d_m_sizeOf_32 : decode prog_5_method_5_code 32 = .ok (.iinc 3 1, 3) := by decide +kernel
theorem d_m_sizeOf_35 : decode prog_5_method_5_code 35 = .ok (.goto (-31), 3) := by decide +kernel
theorem d_m_sizeOf_38 : decode prog_5_method_5_code 38 = .ok (.iload_n 2, 1) := by decide +kernel
theorem d_m_sizeOf_39 : decode prog_5_method_5_code 39 = .ok (.ireturn, 1) := by decide +kernel
abbrev M_m_flushed : rsM := (⟨"RunStoreModel", "flushed", "()I"⟩, prog_5_method_16_code, 2, some .int, [])
theorem d_m_flushed_0 : decode prog_5_method_16_code 0 = .ok (.aload_n 0, 1) := by decide +kernel
theorem d_m_flushed_1 : decode prog_5_method_16_code 1 = .ok (.bipush 12, 2) := by decide +kernel
theorem d_m_flushed_3 : decode prog_5_method_16_code 3 = .ok (.invokevirtual 32, 3) := by decide +kernel
theorem d_m_flushed_6 : decode prog_5_method_16_code 6 = .ok (.istore_n 1, 1) := by decide +kernel
theorem d_m_flushed_7 : decode prog_5_method_16_code 7 = .ok (.iload_n 1, 1) := by decide +kernel
theorem d_m_flushed_8 : decode prog_5_method_16_code 8 = .ok (.ifCond .ne 5, 3) := by decide +kernel
theorem d_m_flushed_11 : decode prog_5_method_16_code 11 = .ok (.iconst 0, 1) := by decide +kernel
theorem d_m_flushed_12 : decode prog_5_method_16_code 12 = .ok (.ireturn, 1) := by decide +kernel
theorem d_m_flushed_13 : decode prog_5_method_16_code 13 = .ok (.aload_n 0, 1) := by decide +kernel
theorem d_m_flushed_14 : decode prog_5_method_16_code 14 = .ok (.getfield 29, 3) := by decide +kernel
theorem d_m_flushed_17 : decode prog_5_method_16_code 17 = .ok (.bipush 12, 2) := by decide +kernel
theorem d_m_flushed_19 : decode prog_5_method_16_code 19 = .ok (.if_icmp .eq 14, 3) := by decide +kernel
theorem d_m_flushed_22 : decode prog_5_method_16_code 22 = .ok (.iload_n 1, 1) := by decide +kernel
theorem d_m_flushed_23 : decode prog_5_method_16_code 23 = .ok (.invokestatic 36, 3) := by decide +kernel
theorem d_m_flushed_26 : decode prog_5_method_16_code 26 = .ok (.aload_n 0, 1) := by decide +kernel
theorem d_m_flushed_27 : decode prog_5_method_16_code 27 = .ok (.invokevirtual 57, 3) := by decide +kernel
theorem d_m_flushed_30 : decode prog_5_method_16_code 30 = .ok (.if_icmp .le 5, 3) := by decide +kernel
theorem d_m_flushed_33 : decode prog_5_method_16_code 33 = .ok (.iconst 2, 1) := by decide +kernel
theorem d_m_flushed_34 : decode prog_5_method_16_code 34 = .ok (.ireturn, 1) := by decide +kernel
theorem d_m_flushed_35 : decode prog_5_method_16_code 35 = .ok (.aload_n 0, 1) := by decide +kernel
theorem d_m_flushed_36 : decode prog_5_method_16_code 36 = .ok (.iload_n 1, 1) := by decide +kernel
theorem d_m_flushed_37 : decode prog_5_method_16_code 37 = .ok (.invokestatic 36, 3) := by decide +kernel
theorem d_m_flushed_40 : decode prog_5_method_16_code 40 = .ok (.iconst 1, 1) := by decide +kernel
theorem d_m_flushed_41 : decode prog_5_method_16_code 41 = .ok (.iadd, 1) := by decide +kernel
theorem d_m_flushed_42 : decode prog_5_method_16_code 42 = .ok (.invokevirtual 61, 3) := by decide +kernel
theorem d_m_flushed_45 : decode prog_5_method_16_code 45 = .ok (.ifCond .ne 5, 3) := by decide +kernel
theorem d_m_flushed_48 : decode prog_5_method_16_code 48 = .ok (.iconst 1, 1) := by decide +kernel
theorem d_m_flushed_49 : decode prog_5_method_16_code 49 = .ok (.ireturn, 1) := by decide +kernel
theorem d_m_flushed_50 : decode prog_5_method_16_code 50 = .ok (.aload_n 0, 1) := by decide +kernel
theorem d_m_flushed_51 : decode prog_5_method_16_code 51 = .ok (.bipush 12, 2) := by decide +kernel
theorem d_m_flushed_53 : decode prog_5_method_16_code 53 = .ok (.bipush 13, 2) := by decide +kernel
theorem d_m_flushed_55 : decode prog_5_method_16_code 55 = .ok (.invokevirtual 53, 3) := by decide +kernel
theorem d_m_flushed_58 : decode prog_5_method_16_code 58 = .ok (.aload_n 0, 1) := by decide +kernel
theorem d_m_flushed_59 : decode prog_5_method_16_code 59 = .ok (.bipush 12, 2) := by decide +kernel
theorem d_m_flushed_61 : decode prog_5_method_16_code 61 = .ok (.invokevirtual 46, 3) := by decide +kernel
theorem d_m_flushed_64 : decode prog_5_method_16_code 64 = .ok (.aload_n 0, 1) := by decide +kernel
theorem d_m_flushed_65 : decode prog_5_method_16_code 65 = .ok (.iconst 0, 1) := by decide +kernel
theorem d_m_flushed_66 : decode prog_5_method_16_code 66 = .ok (.iconst 0, 1) := by decide +kernel
theorem d_m_flushed_67 : decode prog_5_method_16_code 67 = .ok (.invokevirtual 65, 3) := by decide +kernel
theorem d_m_flushed_70 : decode prog_5_method_16_code 70 = .ok (.iconst 0, 1) := by decide +kernel
theorem d_m_flushed_71 : decode prog_5_method_16_code 71 = .ok (.ireturn, 1) := by decide +kernel
abbrev M_m_blocksFor : rsM := (⟨"RunStoreModel", "blocksFor", "(I)I"⟩, prog_5_method_6_code, 1, some .int, [])
theorem d_m_blocksFor_0 : decode prog_5_method_6_code 0 = .ok (.iload_n 0, 1) := by decide +kernel
theorem d_m_blocksFor_1 : decode prog_5_method_6_code 1 = .ok (.iconst 3, 1) := by decide +kernel
theorem d_m_blocksFor_2 : decode prog_5_method_6_code 2 = .ok (.iadd, 1) := by decide +kernel
theorem d_m_blocksFor_3 : decode prog_5_method_6_code 3 = .ok (.iconst 4, 1) := by decide +kernel
theorem d_m_blocksFor_4 : decode prog_5_method_6_code 4 = .ok (.idiv, 1) := by decide +kernel
theorem d_m_blocksFor_5 : decode prog_5_method_6_code 5 = .ok (.ireturn, 1) := by decide +kernel
abbrev M_m_freeBlocks : rsM := (⟨"RunStoreModel", "freeBlocks", "()I"⟩, prog_5_method_7_code, 3, some .int, [])
theorem d_m_freeBlocks_0 : decode prog_5_method_7_code 0 = .ok (.bipush 40, 2) := by decide +kernel
theorem d_m_freeBlocks_2 : decode prog_5_method_7_code 2 = .ok (.istore_n 1, 1) := by decide +kernel
theorem d_m_freeBlocks_3 : decode prog_5_method_7_code 3 = .ok (.iconst 0, 1) := by decide +kernel
theorem d_m_freeBlocks_4 : decode prog_5_method_7_code 4 = .ok (.istore_n 2, 1) := by decide +kernel
theorem d_m_freeBlocks_5 : decode prog_5_method_7_code 5 = .ok (.iload_n 2, 1) := by decide +kernel
theorem d_m_freeBlocks_6 : decode prog_5_method_7_code 6 = .ok (.aload_n 0, 1) := by decide +kernel
theorem d_m_freeBlocks_7 : decode prog_5_method_7_code 7 = .ok (.getfield 29, 3) := by decide +kernel
theorem d_m_freeBlocks_10 : decode prog_5_method_7_code 10 = .ok (.if_icmp .ge 20, 3) := by decide +kernel
theorem d_m_freeBlocks_13 : decode prog_5_method_7_code 13 = .ok (.iload_n 1, 1) := by decide +kernel
theorem d_m_freeBlocks_14 : decode prog_5_method_7_code 14 = .ok (.aload_n 0, 1) := by decide +kernel
theorem d_m_freeBlocks_15 : decode prog_5_method_7_code 15 = .ok (.iload_n 2, 1) := by decide +kernel
theorem d_m_freeBlocks_16 : decode prog_5_method_7_code 16 = .ok (.invokevirtual 32, 3) := by decide +kernel
theorem d_m_freeBlocks_19 : decode prog_5_method_7_code 19 = .ok (.invokestatic 36, 3) := by decide +kernel
theorem d_m_freeBlocks_22 : decode prog_5_method_7_code 22 = .ok (.isub, 1) := by decide +kernel
theorem d_m_freeBlocks_23 : decode prog_5_method_7_code 23 = .ok (.istore_n 1, 1) := by decide +kernel
theorem d_m_freeBlocks_24 : decode prog_5_method_7_code 24 = .ok (.iinc 2 1, 3) := by decide +kernel
theorem d_m_freeBlocks_27 : decode prog_5_method_7_code 27 = .ok (.goto (-22), 3) := by decide +kernel
theorem d_m_freeBlocks_30 : decode prog_5_method_7_code 30 = .ok (.iload_n 1, 1) := by decide +kernel
theorem d_m_freeBlocks_31 : decode prog_5_method_7_code 31 = .ok (.ireturn, 1) := by decide +kernel
abbrev M_m_copyRow : rsM := (⟨"RunStoreModel", "copyRow", "(II)V"⟩, prog_5_method_4_code, 4, none, [])
theorem d_m_copyRow_0 : decode prog_5_method_4_code 0 = .ok (.iconst 0, 1) := by decide +kernel
theorem d_m_copyRow_1 : decode prog_5_method_4_code 1 = .ok (.istore_n 3, 1) := by decide +kernel
theorem d_m_copyRow_2 : decode prog_5_method_4_code 2 = .ok (.iload_n 3, 1) := by decide +kernel
theorem d_m_copyRow_3 : decode prog_5_method_4_code 3 = .ok (.bipush 100, 2) := by decide +kernel
theorem d_m_copyRow_5 : decode prog_5_method_4_code 5 = .ok (.if_icmp .ge 53, 3) := by decide +kernel
theorem d_m_copyRow_8 : decode prog_5_method_4_code 8 = .ok (.aload_n 0, 1) := by decide +kernel
theorem d_m_copyRow_9 : decode prog_5_method_4_code 9 = .ok (.getfield 17, 3) := by decide +kernel
theorem d_m_copyRow_12 : decode prog_5_method_4_code 12 = .ok (.bipush 100, 2) := by decide +kernel
theorem d_m_copyRow_14 : decode prog_5_method_4_code 14 = .ok (.iload_n 2, 1) := by decide +kernel
theorem d_m_copyRow_15 : decode prog_5_method_4_code 15 = .ok (.imul, 1) := by decide +kernel
theorem d_m_copyRow_16 : decode prog_5_method_4_code 16 = .ok (.iload_n 3, 1) := by decide +kernel
theorem d_m_copyRow_17 : decode prog_5_method_4_code 17 = .ok (.iadd, 1) := by decide +kernel
theorem d_m_copyRow_18 : decode prog_5_method_4_code 18 = .ok (.aload_n 0, 1) := by decide +kernel
theorem d_m_copyRow_19 : decode prog_5_method_4_code 19 = .ok (.getfield 17, 3) := by decide +kernel
theorem d_m_copyRow_22 : decode prog_5_method_4_code 22 = .ok (.bipush 100, 2) := by decide +kernel
theorem d_m_copyRow_24 : decode prog_5_method_4_code 24 = .ok (.iload_n 1, 1) := by decide +kernel
theorem d_m_copyRow_25 : decode prog_5_method_4_code 25 = .ok (.imul, 1) := by decide +kernel
theorem d_m_copyRow_26 : decode prog_5_method_4_code 26 = .ok (.iload_n 3, 1) := by decide +kernel
theorem d_m_copyRow_27 : decode prog_5_method_4_code 27 = .ok (.iadd, 1) := by decide +kernel
theorem d_m_copyRow_28 : decode prog_5_method_4_code 28 = .ok (.iaload, 1) := by decide +kernel
theorem d_m_copyRow_29 : decode prog_5_method_4_code 29 = .ok (.iastore, 1) := by decide +kernel
theorem d_m_copyRow_30 : decode prog_5_method_4_code 30 = .ok (.aload_n 0, 1) := by decide +kernel
theorem d_m_copyRow_31 : decode prog_5_method_4_code 31 = .ok (.getfield 20, 3) := by decide +kernel
theorem d_m_copyRow_34 : decode prog_5_method_4_code 34 = .ok (.bipush 100, 2) := by decide +kernel
theorem d_m_copyRow_36 : decode prog_5_method_4_code 36 = .ok (.iload_n 2, 1) := by decide +kernel
theorem d_m_copyRow_37 : decode prog_5_method_4_code 37 = .ok (.imul, 1) := by decide +kernel
theorem d_m_copyRow_38 : decode prog_5_method_4_code 38 = .ok (.iload_n 3, 1) := by decide +kernel
theorem d_m_copyRow_39 : decode prog_5_method_4_code 39 = .ok (.iadd, 1) := by decide +kernel
theorem d_m_copyRow_40 : decode prog_5_method_4_code 40 = .ok (.aload_n 0, 1) := by decide +kernel
theorem d_m_copyRow_41 : decode prog_5_method_4_code 41 = .ok (.getfield 20, 3) := by decide +kernel
theorem d_m_copyRow_44 : decode prog_5_method_4_code 44 = .ok (.bipush 100, 2) := by decide +kernel
theorem d_m_copyRow_46 : decode prog_5_method_4_code 46 = .ok (.iload_n 1, 1) := by decide +kernel
theorem d_m_copyRow_47 : decode prog_5_method_4_code 47 = .ok (.imul, 1) := by decide +kernel
theorem d_m_copyRow_48 : decode prog_5_method_4_code 48 = .ok (.iload_n 3, 1) := by decide +kernel
theorem d_m_copyRow_49 : decode prog_5_method_4_code 49 = .ok (.iadd, 1) := by decide +kernel
theorem d_m_copyRow_50 : decode prog_5_method_4_code 50 = .ok (.iaload, 1) := by decide +kernel
theorem d_m_copyRow_51 : decode prog_5_method_4_code 51 = .ok (.iastore, 1) := by decide +kernel
theorem d_m_copyRow_52 : decode prog_5_method_4_code 52 = .ok (.iinc 3 1, 3) := by decide +kernel
theorem d_m_copyRow_55 : decode prog_5_method_4_code 55 = .ok (.goto (-53), 3) := by decide +kernel
theorem d_m_copyRow_58 : decode prog_5_method_4_code 58 = .ok (.return_, 1) := by decide +kernel
abbrev M_m_insert : rsM := (⟨"RunStoreModel", "insert", "(II)V"⟩, prog_5_method_14_code, 4, none, [])
theorem d_m_insert_0 : decode prog_5_method_14_code 0 = .ok (.aload_n 0, 1) := by decide +kernel
theorem d_m_insert_1 : decode prog_5_method_14_code 1 = .ok (.getfield 29, 3) := by decide +kernel
theorem d_m_insert_4 : decode prog_5_method_14_code 4 = .ok (.istore_n 3, 1) := by decide +kernel
theorem d_m_insert_5 : decode prog_5_method_14_code 5 = .ok (.iload_n 3, 1) := by decide +kernel
theorem d_m_insert_6 : decode prog_5_method_14_code 6 = .ok (.iload_n 1, 1) := by decide +kernel
theorem d_m_insert_7 : decode prog_5_method_14_code 7 = .ok (.if_icmp .le 31, 3) := by decide +kernel
theorem d_m_insert_10 : decode prog_5_method_14_code 10 = .ok (.aload_n 0, 1) := by decide +kernel
theorem d_m_insert_11 : decode prog_5_method_14_code 11 = .ok (.iload_n 3, 1) := by decide +kernel
theorem d_m_insert_12 : decode prog_5_method_14_code 12 = .ok (.iconst 1, 1) := by decide +kernel
theorem d_m_insert_13 : decode prog_5_method_14_code 13 = .ok (.isub, 1) := by decide +kernel
theorem d_m_insert_14 : decode prog_5_method_14_code 14 = .ok (.iload_n 3, 1) := by decide +kernel
theorem d_m_insert_15 : decode prog_5_method_14_code 15 = .ok (.invokevirtual 53, 3) := by decide +kernel
theorem d_m_insert_18 : decode prog_5_method_14_code 18 = .ok (.aload_n 0, 1) := by decide +kernel
theorem d_m_insert_19 : decode prog_5_method_14_code 19 = .ok (.getfield 13, 3) := by decide +kernel
theorem d_m_insert_22 : decode prog_5_method_14_code 22 = .ok (.iload_n 3, 1) := by decide +kernel
theorem d_m_insert_23 : decode prog_5_method_14_code 23 = .ok (.aload_n 0, 1) := by decide +kernel
theorem d_m_insert_24 : decode prog_5_method_14_code 24 = .ok (.getfield 13, 3) := by decide +kernel
theorem d_m_insert_27 : decode prog_5_method_14_code 27 = .ok (.iload_n 3, 1) := by decide +kernel
theorem d_m_insert_28 : decode prog_5_method_14_code 28 = .ok (.iconst 1, 1) := by decide +kernel
theorem d_m_insert_29 : decode prog_5_method_14_code 29 = .ok (.isub, 1) := by decide +kernel
theorem d_m_insert_30 : decode prog_5_method_14_code 30 = .ok (.iaload, 1) := by decide +kernel
theorem d_m_insert_31 : decode prog_5_method_14_code 31 = .ok (.iastore, 1) := by decide +kernel
theorem d_m_insert_32 : decode prog_5_method_14_code 32 = .ok (.iinc 3 (-1), 3) := by decide +kernel
theorem d_m_insert_35 : decode prog_5_method_14_code 35 = .ok (.goto (-30), 3) := by decide +kernel
theorem d_m_insert_38 : decode prog_5_method_14_code 38 = .ok (.aload_n 0, 1) := by decide +kernel
theorem d_m_insert_39 : decode prog_5_method_14_code 39 = .ok (.bipush 13, 2) := by decide +kernel
theorem d_m_insert_41 : decode prog_5_method_14_code 41 = .ok (.iload_n 1, 1) := by decide +kernel
theorem d_m_insert_42 : decode prog_5_method_14_code 42 = .ok (.invokevirtual 53, 3) := by decide +kernel
theorem d_m_insert_45 : decode prog_5_method_14_code 45 = .ok (.aload_n 0, 1) := by decide +kernel
theorem d_m_insert_46 : decode prog_5_method_14_code 46 = .ok (.getfield 13, 3) := by decide +kernel
theorem d_m_insert_49 : decode prog_5_method_14_code 49 = .ok (.iload_n 1, 1) := by decide +kernel
theorem d_m_insert_50 : decode prog_5_method_14_code 50 = .ok (.iload_n 2, 1) := by decide +kernel
theorem d_m_insert_51 : decode prog_5_method_14_code 51 = .ok (.iastore, 1) := by decide +kernel
theorem d_m_insert_52 : decode prog_5_method_14_code 52 = .ok (.aload_n 0, 1) := by decide +kernel
theorem d_m_insert_53 : decode prog_5_method_14_code 53 = .ok (.dup, 1) := by decide +kernel
theorem d_m_insert_54 : decode prog_5_method_14_code 54 = .ok (.getfield 29, 3) := by decide +kernel
theorem d_m_insert_57 : decode prog_5_method_14_code 57 = .ok (.iconst 1, 1) := by decide +kernel
theorem d_m_insert_58 : decode prog_5_method_14_code 58 = .ok (.iadd, 1) := by decide +kernel
theorem d_m_insert_59 : decode prog_5_method_14_code 59 = .ok (.putfield 29, 3) := by decide +kernel
theorem d_m_insert_62 : decode prog_5_method_14_code 62 = .ok (.return_, 1) := by decide +kernel
abbrev M_m_remove : rsM := (⟨"RunStoreModel", "remove", "(I)Z"⟩, prog_5_method_23_code, 3, some .boolean, [])
theorem d_m_remove_0 : decode prog_5_method_23_code 0 = .ok (.iload_n 1, 1) := by decide +kernel
theorem d_m_remove_1 : decode prog_5_method_23_code 1 = .ok (.invokestatic 80, 3) := by decide +kernel
theorem d_m_remove_4 : decode prog_5_method_23_code 4 = .ok (.ifCond .eq 15, 3) := by decide +kernel
theorem d_m_remove_7 : decode prog_5_method_23_code 7 = .ok (.aload_n 0, 1) := by decide +kernel
theorem d_m_remove_8 : decode prog_5_method_23_code 8 = .ok (.iload_n 1, 1) := by decide +kernel
theorem d_m_remove_9 : decode prog_5_method_23_code 9 = .ok (.invokevirtual 90, 3) := by decide +kernel
theorem d_m_remove_12 : decode prog_5_method_23_code 12 = .ok (.ifCond .eq 7, 3) := by decide +kernel
theorem d_m_remove_15 : decode prog_5_method_23_code 15 = .ok (.iconst 1, 1) := by decide +kernel
theorem d_m_remove_16 : decode prog_5_method_23_code 16 = .ok (.goto 4, 3) := by decide +kernel
theorem d_m_remove_19 : decode prog_5_method_23_code 19 = .ok (.iconst 0, 1) := by decide +kernel
theorem d_m_remove_20 : decode prog_5_method_23_code 20 = .ok (.istore_n 2, 1) := by decide +kernel
theorem d_m_remove_21 : decode prog_5_method_23_code 21 = .ok (.aload_n 0, 1) := by decide +kernel
theorem d_m_remove_22 : decode prog_5_method_23_code 22 = .ok (.iload_n 1, 1) := by decide +kernel
theorem d_m_remove_23 : decode prog_5_method_23_code 23 = .ok (.iconst 0, 1) := by decide +kernel
theorem d_m_remove_24 : decode prog_5_method_23_code 24 = .ok (.iconst 2, 1) := by decide +kernel
theorem d_m_remove_25 : decode prog_5_method_23_code 25 = .ok (.invokevirtual 86, 3) := by decide +kernel
theorem d_m_remove_28 : decode prog_5_method_23_code 28 = .ok (.aload_n 0, 1) := by decide +kernel
theorem d_m_remove_29 : decode prog_5_method_23_code 29 = .ok (.getfield 26, 3) := by decide +kernel
theorem d_m_remove_32 : decode prog_5_method_23_code 32 = .ok (.ifCond .ne 11, 3) := by decide +kernel
theorem d_m_remove_35 : decode prog_5_method_23_code 35 = .ok (.iload_n 2, 1) := by decide +kernel
theorem d_m_remove_36 : decode prog_5_method_23_code 36 = .ok (.ifCond .eq 7, 3) := by decide +kernel
theorem d_m_remove_39 : decode prog_5_method_23_code 39 = .ok (.iconst 1, 1) := by decide +kernel
theorem d_m_remove_40 : decode prog_5_method_23_code 40 = .ok (.goto 4, 3) := by decide +kernel
theorem d_m_remove_43 : decode prog_5_method_23_code 43 = .ok (.iconst 0, 1) := by decide +kernel
theorem d_m_remove_44 : decode prog_5_method_23_code 44 = .ok (.ireturn, 1) := by decide +kernel
abbrev M_m_isThere : rsM := (⟨"RunStoreModel", "isThere", "(I)Z"⟩, prog_5_method_11_code, 3, some .boolean, [])
theorem d_m_isThere_0 : decode prog_5_method_11_code 0 = .ok (.aload_n 0, 1) := by decide +kernel
theorem d_m_isThere_1 : decode prog_5_method_11_code 1 = .ok (.iload_n 1, 1) := by decide +kernel
theorem d_m_isThere_2 : decode prog_5_method_11_code 2 = .ok (.invokevirtual 39, 3) := by decide +kernel
theorem d_m_isThere_5 : decode prog_5_method_11_code 5 = .ok (.istore_n 2, 1) := by decide +kernel
theorem d_m_isThere_6 : decode prog_5_method_11_code 6 = .ok (.iload_n 2, 1) := by decide +kernel
theorem d_m_isThere_7 : decode prog_5_method_11_code 7 = .ok (.ifCond .lt 22, 3) := by decide +kernel
theorem d_m_isThere_10 : decode prog_5_method_11_code 10 = .ok (.aload_n 0, 1) := by decide +kernel
theorem d_m_isThere_11 : decode prog_5_method_11_code 11 = .ok (.getfield 17, 3) := by decide +kernel
theorem d_m_isThere_14 : decode prog_5_method_11_code 14 = .ok (.bipush 100, 2) := by decide +kernel
theorem d_m_isThere_16 : decode prog_5_method_11_code 16 = .ok (.iload_n 2, 1) := by decide +kernel
theorem d_m_isThere_17 : decode prog_5_method_11_code 17 = .ok (.imul, 1) := by decide +kernel
theorem d_m_isThere_18 : decode prog_5_method_11_code 18 = .ok (.iload_n 1, 1) := by decide +kernel
theorem d_m_isThere_19 : decode prog_5_method_11_code 19 = .ok (.iadd, 1) := by decide +kernel
theorem d_m_isThere_20 : decode prog_5_method_11_code 20 = .ok (.iaload, 1) := by decide +kernel
theorem d_m_isThere_21 : decode prog_5_method_11_code 21 = .ok (.iconst 1, 1) := by decide +kernel
theorem d_m_isThere_22 : decode prog_5_method_11_code 22 = .ok (.if_icmp .ne 7, 3) := by decide +kernel
theorem d_m_isThere_25 : decode prog_5_method_11_code 25 = .ok (.iconst 1, 1) := by decide +kernel
theorem d_m_isThere_26 : decode prog_5_method_11_code 26 = .ok (.goto 4, 3) := by decide +kernel
theorem d_m_isThere_29 : decode prog_5_method_11_code 29 = .ok (.iconst 0, 1) := by decide +kernel
theorem d_m_isThere_30 : decode prog_5_method_11_code 30 = .ok (.ireturn, 1) := by decide +kernel
abbrev M_m_newest : rsM := (⟨"RunStoreModel", "newest", "(I)I"⟩, prog_5_method_10_code, 3, some .int, [])
theorem d_m_newest_0 : decode prog_5_method_10_code 0 = .ok (.aload_n 0, 1) := by decide +kernel
theorem d_m_newest_1 : decode prog_5_method_10_code 1 = .ok (.getfield 17, 3) := by decide +kernel
theorem d_m_newest_4 : decode prog_5_method_10_code 4 = .ok (.sipush 1200, 3) := by decide +kernel
theorem d_m_newest_7 : decode prog_5_method_10_code 7 = .ok (.iload_n 1, 1) := by decide +kernel
theorem d_m_newest_8 : decode prog_5_method_10_code 8 = .ok (.iadd, 1) := by decide +kernel
theorem d_m_newest_9 : decode prog_5_method_10_code 9 = .ok (.iaload, 1) := by decide +kernel
theorem d_m_newest_10 : decode prog_5_method_10_code 10 = .ok (.ifCond .le 6, 3) := by decide +kernel
theorem d_m_newest_13 : decode prog_5_method_10_code 13 = .ok (.bipush 12, 2) := by decide +kernel
theorem d_m_newest_15 : decode prog_5_method_10_code 15 = .ok (.ireturn, 1) := by decide +kernel
theorem d_m_newest_16 : decode prog_5_method_10_code 16 = .ok (.iconst 0, 1) := by decide +kernel
theorem d_m_newest_17 : decode prog_5_method_10_code 17 = .ok (.istore_n 2, 1) := by decide +kernel
theorem d_m_newest_18 : decode prog_5_method_10_code 18 = .ok (.iload_n 2, 1) := by decide +kernel
theorem d_m_newest_19 : decode prog_5_method_10_code 19 = .ok (.aload_n 0, 1) := by decide +kernel
theorem d_m_newest_20 : decode prog_5_method_10_code 20 = .ok (.getfield 29, 3) := by decide +kernel
theorem d_m_newest_23 : decode prog_5_method_10_code 23 = .ok (.if_icmp .ge 25, 3) := by decide +kernel
theorem d_m_newest_26 : decode prog_5_method_10_code 26 = .ok (.aload_n 0, 1) := by decide +kernel
theorem d_m_newest_27 : decode prog_5_method_10_code 27 = .ok (.getfield 17, 3) := by decide +kernel
theorem d_m_newest_30 : decode prog_5_method_10_code 30 = .ok (.bipush 100, 2) := by decide +kernel
theorem d_m_newest_32 : decode prog_5_method_10_code 32 = .ok (.iload_n 2, 1) := by decide +kernel
theorem d_m_newest_33 : decode prog_5_method_10_code 33 = .ok (.imul, 1) := by decide +kernel
theorem d_m_newest_34 : decode prog_5_method_10_code 34 = .ok (.iload_n 1, 1) := by decide +kernel
theorem d_m_newest_35 : decode prog_5_method_10_code 35 = .ok (.iadd, 1) := by decide +kernel
theorem d_m_newest_36 : decode prog_5_method_10_code 36 = .ok (.iaload, 1) := by decide +kernel
theorem d_m_newest_37 : decode prog_5_method_10_code 37 = .ok (.ifCond .le 5, 3) := by decide +kernel
theorem d_m_newest_40 : decode prog_5_method_10_code 40 = .ok (.iload_n 2, 1) := by decide +kernel
theorem d_m_newest_41 : decode prog_5_method_10_code 41 = .ok (.ireturn, 1) := by decide +kernel
theorem d_m_newest_42 : decode prog_5_method_10_code 42 = .ok (.iinc 2 1, 3) := by decide +kernel
theorem d_m_newest_45 : decode prog_5_method_10_code 45 = .ok (.goto (-27), 3) := by decide +kernel
theorem d_m_newest_48 : decode prog_5_method_10_code 48 = .ok (.iconst (-1), 1) := by decide +kernel
theorem d_m_newest_49 : decode prog_5_method_10_code 49 = .ok (.ireturn, 1) := by decide +kernel
abbrev M_m_get : rsM := (⟨"RunStoreModel", "get", "(I)I"⟩, prog_5_method_24_code, 2, some .int, [])
theorem d_m_get_0 : decode prog_5_method_24_code 0 = .ok (.aload_n 0, 1) := by decide +kernel
theorem d_m_get_1 : decode prog_5_method_24_code 1 = .ok (.iload_n 1, 1) := by decide +kernel
theorem d_m_get_2 : decode prog_5_method_24_code 2 = .ok (.invokestatic 80, 3) := by decide +kernel
theorem d_m_get_5 : decode prog_5_method_24_code 5 = .ok (.ifCond .ne 7, 3) := by decide +kernel
theorem d_m_get_8 : decode prog_5_method_24_code 8 = .ok (.iconst 1, 1) := by decide +kernel
theorem d_m_get_9 : decode prog_5_method_24_code 9 = .ok (.goto 27, 3) := by decide +kernel
theorem d_m_get_12 : decode prog_5_method_24_code 12 = .ok (.aload_n 0, 1) := by decide +kernel
theorem d_m_get_13 : decode prog_5_method_24_code 13 = .ok (.getfield 42, 3) := by decide +kernel
theorem d_m_get_16 : decode prog_5_method_24_code 16 = .ok (.ifCond .ne 7, 3) := by decide +kernel
theorem d_m_get_19 : decode prog_5_method_24_code 19 = .ok (.iconst 2, 1) := by decide +kernel
theorem d_m_get_20 : decode prog_5_method_24_code 20 = .ok (.goto 16, 3) := by decide +kernel
theorem d_m_get_23 : decode prog_5_method_24_code 23 = .ok (.aload_n 0, 1) := by decide +kernel
theorem d_m_get_24 : decode prog_5_method_24_code 24 = .ok (.iload_n 1, 1) := by decide +kernel
theorem d_m_get_25 : decode prog_5_method_24_code 25 = .ok (.invokevirtual 90, 3) := by decide +kernel
theorem d_m_get_28 : decode prog_5_method_24_code 28 = .ok (.ifCond .ne 7, 3) := by decide +kernel
theorem d_m_get_31 : decode prog_5_method_24_code 31 = .ok (.iconst 3, 1) := by decide +kernel
theorem d_m_get_32 : decode prog_5_method_24_code 32 = .ok (.goto 4, 3) := by decide +kernel
theorem d_m_get_35 : decode prog_5_method_24_code 35 = .ok (.iconst 0, 1) := by decide +kernel
theorem d_m_get_36 : decode prog_5_method_24_code 36 = .ok (.putfield 26, 3) := by decide +kernel
theorem d_m_get_39 : decode prog_5_method_24_code 39 = .ok (.aload_n 0, 1) := by decide +kernel
theorem d_m_get_40 : decode prog_5_method_24_code 40 = .ok (.getfield 26, 3) := by decide +kernel
theorem d_m_get_43 : decode prog_5_method_24_code 43 = .ok (.ifCond .ne 21, 3) := by decide +kernel
theorem d_m_get_46 : decode prog_5_method_24_code 46 = .ok (.aload_n 0, 1) := by decide +kernel
theorem d_m_get_47 : decode prog_5_method_24_code 47 = .ok (.getfield 20, 3) := by decide +kernel
theorem d_m_get_50 : decode prog_5_method_24_code 50 = .ok (.bipush 100, 2) := by decide +kernel
theorem d_m_get_52 : decode prog_5_method_24_code 52 = .ok (.aload_n 0, 1) := by decide +kernel
theorem d_m_get_53 : decode prog_5_method_24_code 53 = .ok (.iload_n 1, 1) := by decide +kernel
theorem d_m_get_54 : decode prog_5_method_24_code 54 = .ok (.invokevirtual 39, 3) := by decide +kernel
theorem d_m_get_57 : decode prog_5_method_24_code 57 = .ok (.imul, 1) := by decide +kernel
theorem d_m_get_58 : decode prog_5_method_24_code 58 = .ok (.iload_n 1, 1) := by decide +kernel
theorem d_m_get_59 : decode prog_5_method_24_code 59 = .ok (.iadd, 1) := by decide +kernel
theorem d_m_get_60 : decode prog_5_method_24_code 60 = .ok (.iaload, 1) := by decide +kernel
theorem d_m_get_61 : decode prog_5_method_24_code 61 = .ok (.goto 4, 3) := by decide +kernel
theorem d_m_get_64 : decode prog_5_method_24_code 64 = .ok (.iconst 0, 1) := by decide +kernel
theorem d_m_get_65 : decode prog_5_method_24_code 65 = .ok (.ireturn, 1) := by decide +kernel
abbrev M_m_has : rsM := (⟨"RunStoreModel", "has", "(I)Z"⟩, prog_5_method_25_code, 2, some .boolean, [])
theorem d_m_has_0 : decode prog_5_method_25_code 0 = .ok (.aload_n 0, 1) := by decide +kernel
theorem d_m_has_1 : decode prog_5_method_25_code 1 = .ok (.iload_n 1, 1) := by decide +kernel
theorem d_m_has_2 : decode prog_5_method_25_code 2 = .ok (.invokestatic 80, 3) := by decide +kernel
theorem d_m_has_5 : decode prog_5_method_25_code 5 = .ok (.ifCond .ne 7, 3) := by decide +kernel
theorem d_m_has_8 : decode prog_5_method_25_code 8 = .ok (.iconst 1, 1) := by decide +kernel
theorem d_m_has_9 : decode prog_5_method_25_code 9 = .ok (.goto 15, 3) := by decide +kernel
theorem d_m_has_12 : decode prog_5_method_25_code 12 = .ok (.aload_n 0, 1) := by decide +kernel
theorem d_m_has_13 : decode prog_5_method_25_code 13 = .ok (.getfield 42, 3) := by decide +kernel
theorem d_m_has_16 : decode prog_5_method_25_code 16 = .ok (.ifCond .ne 7, 3) := by decide +kernel
theorem d_m_has_19 : decode prog_5_method_25_code 19 = .ok (.iconst 2, 1) := by decide +kernel
theorem d_m_has_20 : decode prog_5_method_25_code 20 = .ok (.goto 4, 3) := by decide +kernel
theorem d_m_has_23 : decode prog_5_method_25_code 23 = .ok (.iconst 0, 1) := by decide +kernel
theorem d_m_has_24 : decode prog_5_method_25_code 24 = .ok (.putfield 26, 3) := by decide +kernel
theorem d_m_has_27 : decode prog_5_method_25_code 27 = .ok (.aload_n 0, 1) := by decide +kernel
theorem d_m_has_28 : decode prog_5_method_25_code 28 = .ok (.getfield 26, 3) := by decide +kernel
theorem d_m_has_31 : decode prog_5_method_25_code 31 = .ok (.ifCond .ne 15, 3) := by decide +kernel
theorem d_m_has_34 : decode prog_5_method_25_code 34 = .ok (.aload_n 0, 1) := by decide +kernel
theorem d_m_has_35 : decode prog_5_method_25_code 35 = .ok (.iload_n 1, 1) := by decide +kernel
theorem d_m_has_36 : decode prog_5_method_25_code 36 = .ok (.invokevirtual 90, 3) := by decide +kernel
theorem d_m_has_39 : decode prog_5_method_25_code 39 = .ok (.ifCond .eq 7, 3) := by decide +kernel
theorem d_m_has_42 : decode prog_5_method_25_code 42 = .ok (.iconst 1, 1) := by decide +kernel
theorem d_m_has_43 : decode prog_5_method_25_code 43 = .ok (.goto 4, 3) := by decide +kernel
theorem d_m_has_46 : decode prog_5_method_25_code 46 = .ok (.iconst 0, 1) := by decide +kernel
theorem d_m_has_47 : decode prog_5_method_25_code 47 = .ok (.ireturn, 1) := by decide +kernel
abbrev M_m_flush : rsM := (⟨"RunStoreModel", "flush", "()I"⟩, prog_5_method_26_code, 2, some .int, [])
theorem d_m_flush_0 : decode prog_5_method_26_code 0 = .ok (.aload_n 0, 1) := by decide +kernel
theorem d_m_flush_1 : decode prog_5_method_26_code 1 = .ok (.bipush 12, 2) := by decide +kernel
theorem d_m_flush_3 : decode prog_5_method_26_code 3 = .ok (.invokevirtual 32, 3) := by decide +kernel
theorem d_m_flush_6 : decode prog_5_method_26_code 6 = .ok (.istore_n 1, 1) := by decide +kernel
theorem d_m_flush_7 : decode prog_5_method_26_code 7 = .ok (.aload_n 0, 1) := by decide +kernel
theorem d_m_flush_8 : decode prog_5_method_26_code 8 = .ok (.aload_n 0, 1) := by decide +kernel
theorem d_m_flush_9 : decode prog_5_method_26_code 9 = .ok (.getfield 42, 3) := by decide +kernel
theorem d_m_flush_12 : decode prog_5_method_26_code 12 = .ok (.ifCond .eq 10, 3) := by decide +kernel
theorem d_m_flush_15 : decode prog_5_method_26_code 15 = .ok (.aload_n 0, 1) := by decide +kernel
theorem d_m_flush_16 : decode prog_5_method_26_code 16 = .ok (.invokevirtual 83, 3) := by decide +kernel
theorem d_m_flush_19 : decode prog_5_method_26_code 19 = .ok (.goto 4, 3) := by decide +kernel
theorem d_m_flush_22 : decode prog_5_method_26_code 22 = .ok (.iconst 1, 1) := by decide +kernel
theorem d_m_flush_23 : decode prog_5_method_26_code 23 = .ok (.putfield 26, 3) := by decide +kernel
theorem d_m_flush_26 : decode prog_5_method_26_code 26 = .ok (.aload_n 0, 1) := by decide +kernel
theorem d_m_flush_27 : decode prog_5_method_26_code 27 = .ok (.getfield 26, 3) := by decide +kernel
theorem d_m_flush_30 : decode prog_5_method_26_code 30 = .ok (.ifCond .eq 5, 3) := by decide +kernel
theorem d_m_flush_33 : decode prog_5_method_26_code 33 = .ok (.iconst 0, 1) := by decide +kernel
theorem d_m_flush_34 : decode prog_5_method_26_code 34 = .ok (.ireturn, 1) := by decide +kernel
theorem d_m_flush_35 : decode prog_5_method_26_code 35 = .ok (.aload_n 0, 1) := by decide +kernel
theorem d_m_flush_36 : decode prog_5_method_26_code 36 = .ok (.iconst (-1), 1) := by decide +kernel
theorem d_m_flush_37 : decode prog_5_method_26_code 37 = .ok (.putfield 23, 3) := by decide +kernel
theorem d_m_flush_40 : decode prog_5_method_26_code 40 = .ok (.iload_n 1, 1) := by decide +kernel
theorem d_m_flush_41 : decode prog_5_method_26_code 41 = .ok (.ireturn, 1) := by decide +kernel
abbrev M_m_compact : rsM := (⟨"RunStoreModel", "compact", "()I"⟩, prog_5_method_27_code, 2, some .int, [])
theorem d_m_compact_0 : decode prog_5_method_27_code 0 = .ok (.aload_n 0, 1) := by decide +kernel
theorem d_m_compact_1 : decode prog_5_method_27_code 1 = .ok (.aload_n 0, 1) := by decide +kernel
theorem d_m_compact_2 : decode prog_5_method_27_code 2 = .ok (.getfield 42, 3) := by decide +kernel
theorem d_m_compact_5 : decode prog_5_method_27_code 5 = .ok (.ifCond .eq 7, 3) := by decide +kernel
theorem d_m_compact_8 : decode prog_5_method_27_code 8 = .ok (.iconst 0, 1) := by decide +kernel
theorem d_m_compact_9 : decode prog_5_method_27_code 9 = .ok (.goto 4, 3) := by decide +kernel
theorem d_m_compact_12 : decode prog_5_method_27_code 12 = .ok (.iconst 1, 1) := by decide +kernel
theorem d_m_compact_13 : decode prog_5_method_27_code 13 = .ok (.putfield 26, 3) := by decide +kernel
theorem d_m_compact_16 : decode prog_5_method_27_code 16 = .ok (.aload_n 0, 1) := by decide +kernel
theorem d_m_compact_17 : decode prog_5_method_27_code 17 = .ok (.getfield 26, 3) := by decide +kernel
theorem d_m_compact_20 : decode prog_5_method_27_code 20 = .ok (.ifCond .eq 5, 3) := by decide +kernel
theorem d_m_compact_23 : decode prog_5_method_27_code 23 = .ok (.iconst 0, 1) := by decide +kernel
theorem d_m_compact_24 : decode prog_5_method_27_code 24 = .ok (.ireturn, 1) := by decide +kernel
theorem d_m_compact_25 : decode prog_5_method_27_code 25 = .ok (.iconst 0, 1) := by decide +kernel
theorem d_m_compact_26 : decode prog_5_method_27_code 26 = .ok (.istore_n 1, 1) := by decide +kernel
theorem d_m_compact_27 : decode prog_5_method_27_code 27 = .ok (.iload_n 1, 1) := by decide +kernel
theorem d_m_compact_28 : decode prog_5_method_27_code 28 = .ok (.iconst 3, 1) := by decide +kernel
theorem d_m_compact_29 : decode prog_5_method_27_code 29 = .ok (.if_icmp .ge 18, 3) := by decide +kernel
theorem d_m_compact_32 : decode prog_5_method_27_code 32 = .ok (.aload_n 0, 1) := by decide +kernel
theorem d_m_compact_33 : decode prog_5_method_27_code 33 = .ok (.iload_n 1, 1) := by decide +kernel
theorem d_m_compact_34 : decode prog_5_method_27_code 34 = .ok (.invokevirtual 71, 3) := by decide +kernel
theorem d_m_compact_37 : decode prog_5_method_27_code 37 = .ok (.iconst 3, 1) := by decide +kernel
theorem d_m_compact_38 : decode prog_5_method_27_code 38 = .ok (.if_icmp .gt 9, 3) := by decide +kernel
theorem d_m_compact_41 : decode prog_5_method_27_code 41 = .ok (.iinc 1 1, 3) := by decide +kernel
theorem d_m_compact_44 : decode prog_5_method_27_code 44 = .ok (.goto (-17), 3) := by decide +kernel
theorem d_m_compact_47 : decode prog_5_method_27_code 47 = .ok (.aload_n 0, 1) := by decide +kernel
theorem d_m_compact_48 : decode prog_5_method_27_code 48 = .ok (.iload_n 1, 1) := by decide +kernel
theorem d_m_compact_49 : decode prog_5_method_27_code 49 = .ok (.iconst 3, 1) := by decide +kernel
theorem d_m_compact_50 : decode prog_5_method_27_code 50 = .ok (.if_icmp .ge 11, 3) := by decide +kernel
theorem d_m_compact_53 : decode prog_5_method_27_code 53 = .ok (.aload_n 0, 1) := by decide +kernel
theorem d_m_compact_54 : decode prog_5_method_27_code 54 = .ok (.iload_n 1, 1) := by decide +kernel
theorem d_m_compact_55 : decode prog_5_method_27_code 55 = .ok (.invokevirtual 93, 3) := by decide +kernel
theorem d_m_compact_58 : decode prog_5_method_27_code 58 = .ok (.goto 4, 3) := by decide +kernel
theorem d_m_compact_61 : decode prog_5_method_27_code 61 = .ok (.iconst 0, 1) := by decide +kernel
theorem d_m_compact_62 : decode prog_5_method_27_code 62 = .ok (.putfield 26, 3) := by decide +kernel
theorem d_m_compact_65 : decode prog_5_method_27_code 65 = .ok (.aload_n 0, 1) := by decide +kernel
theorem d_m_compact_66 : decode prog_5_method_27_code 66 = .ok (.getfield 26, 3) := by decide +kernel
theorem d_m_compact_69 : decode prog_5_method_27_code 69 = .ok (.ifCond .eq 5, 3) := by decide +kernel
theorem d_m_compact_72 : decode prog_5_method_27_code 72 = .ok (.iconst 0, 1) := by decide +kernel
theorem d_m_compact_73 : decode prog_5_method_27_code 73 = .ok (.ireturn, 1) := by decide +kernel
theorem d_m_compact_74 : decode prog_5_method_27_code 74 = .ok (.aload_n 0, 1) := by decide +kernel
theorem d_m_compact_75 : decode prog_5_method_27_code 75 = .ok (.iconst (-1), 1) := by decide +kernel
theorem d_m_compact_76 : decode prog_5_method_27_code 76 = .ok (.putfield 23, 3) := by decide +kernel
theorem d_m_compact_79 : decode prog_5_method_27_code 79 = .ok (.iload_n 1, 1) := by decide +kernel
theorem d_m_compact_80 : decode prog_5_method_27_code 80 = .ok (.iconst 3, 1) := by decide +kernel
theorem d_m_compact_81 : decode prog_5_method_27_code 81 = .ok (.if_icmp .ge 7, 3) := by decide +kernel
theorem d_m_compact_84 : decode prog_5_method_27_code 84 = .ok (.iload_n 1, 1) := by decide +kernel
theorem d_m_compact_85 : decode prog_5_method_27_code 85 = .ok (.goto 4, 3) := by decide +kernel
theorem d_m_compact_88 : decode prog_5_method_27_code 88 = .ok (.iconst (-1), 1) := by decide +kernel
theorem d_m_compact_89 : decode prog_5_method_27_code 89 = .ok (.ireturn, 1) := by decide +kernel
abbrev M_m_runsOf : rsM := (⟨"RunStoreModel", "runsOf", "(I)I"⟩, prog_5_method_8_code, 4, some .int, [])
theorem d_m_runsOf_0 : decode prog_5_method_8_code 0 = .ok (.iconst 0, 1) := by decide +kernel
theorem d_m_runsOf_1 : decode prog_5_method_8_code 1 = .ok (.istore_n 2, 1) := by decide +kernel
theorem d_m_runsOf_2 : decode prog_5_method_8_code 2 = .ok (.iconst 0, 1) := by decide +kernel
theorem d_m_runsOf_3 : decode prog_5_method_8_code 3 = .ok (.istore_n 3, 1) := by decide +kernel
theorem d_m_runsOf_4 : decode prog_5_method_8_code 4 = .ok (.iload_n 3, 1) := by decide +kernel
theorem d_m_runsOf_5 : decode prog_5_method_8_code 5 = .ok (.aload_n 0, 1) := by decide +kernel
theorem d_m_runsOf_6 : decode prog_5_method_8_code 6 = .ok (.getfield 29, 3) := by decide +kernel
theorem d_m_runsOf_9 : decode prog_5_method_8_code 9 = .ok (.if_icmp .ge 27, 3) := by decide +kernel
theorem d_m_runsOf_12 : decode prog_5_method_8_code 12 = .ok (.iload_n 2, 1) := by decide +kernel
theorem d_m_runsOf_13 : decode prog_5_method_8_code 13 = .ok (.aload_n 0, 1) := by decide +kernel
theorem d_m_runsOf_14 : decode prog_5_method_8_code 14 = .ok (.getfield 13, 3) := by decide +kernel
theorem d_m_runsOf_17 : decode prog_5_method_8_code 17 = .ok (.iload_n 3, 1) := by decide +kernel
theorem d_m_runsOf_18 : decode prog_5_method_8_code 18 = .ok (.iaload, 1) := by decide +kernel
theorem d_m_runsOf_19 : decode prog_5_method_8_code 19 = .ok (.iload_n 1, 1) := by decide +kernel
theorem d_m_runsOf_20 : decode prog_5_method_8_code 20 = .ok (.if_icmp .ne 7, 3) := by decide +kernel
theorem d_m_runsOf_23 : decode prog_5_method_8_code 23 = .ok (.iconst 1, 1) := by decide +kernel
theorem d_m_runsOf_24 : decode prog_5_method_8_code 24 = .ok (.goto 4, 3) := by decide +kernel
theorem d_m_runsOf_27 : decode prog_5_method_8_code 27 = .ok (.iconst 0, 1) := by decide +kernel
theorem d_m_runsOf_28 : decode prog_5_method_8_code 28 = .ok (.iadd, 1) := by decide +kernel
theorem d_m_runsOf_29 : decode prog_5_method_8_code 29 = .ok (.istore_n 2, 1) := by decide +kernel
theorem d_m_runsOf_30 : decode prog_5_method_8_code 30 = .ok (.iinc 3 1, 3) := by decide +kernel
theorem d_m_runsOf_33 : decode prog_5_method_8_code 33 = .ok (.goto (-29), 3) := by decide +kernel
theorem d_m_runsOf_36 : decode prog_5_method_8_code 36 = .ok (.iload_n 2, 1) := by decide +kernel
theorem d_m_runsOf_37 : decode prog_5_method_8_code 37 = .ok (.ireturn, 1) := by decide +kernel
abbrev M_m_merged : rsM := (⟨"RunStoreModel", "merged", "(I)I"⟩, prog_5_method_17_code, 6, some .int, [])
theorem d_m_merged_0 : decode prog_5_method_17_code 0 = .ok (.aload_n 0, 1) := by decide +kernel
theorem d_m_merged_1 : decode prog_5_method_17_code 1 = .ok (.iload_n 1, 1) := by decide +kernel
theorem d_m_merged_2 : decode prog_5_method_17_code 2 = .ok (.invokevirtual 68, 3) := by decide +kernel
theorem d_m_merged_5 : decode prog_5_method_17_code 5 = .ok (.istore_n 2, 1) := by decide +kernel
theorem d_m_merged_6 : decode prog_5_method_17_code 6 = .ok (.iload_n 2, 1) := by decide +kernel
theorem d_m_merged_7 : decode prog_5_method_17_code 7 = .ok (.aload_n 0, 1) := by decide +kernel
theorem d_m_merged_8 : decode prog_5_method_17_code 8 = .ok (.iload_n 1, 1) := by decide +kernel
theorem d_m_merged_9 : decode prog_5_method_17_code 9 = .ok (.invokevirtual 71, 3) := by decide +kernel
theorem d_m_merged_12 : decode prog_5_method_17_code 12 = .ok (.iadd, 1) := by decide +kernel
theorem d_m_merged_13 : decode prog_5_method_17_code 13 = .ok (.istore_n 3, 1) := by decide +kernel
theorem d_m_merged_14 : decode prog_5_method_17_code 14 = .ok (.aload_n 0, 1) := by decide +kernel
theorem d_m_merged_15 : decode prog_5_method_17_code 15 = .ok (.bipush 13, 2) := by decide +kernel
theorem d_m_merged_17 : decode prog_5_method_17_code 17 = .ok (.invokevirtual 46, 3) := by decide +kernel
theorem d_m_merged_20 : decode prog_5_method_17_code 20 = .ok (.iload_n 3, 1) := by decide +kernel
theorem d_m_merged_21 : decode prog_5_method_17_code 21 = .ok (.iconst 1, 1) := by decide +kernel
theorem d_m_merged_22 : decode prog_5_method_17_code 22 = .ok (.isub, 1) := by decide +kernel
theorem d_m_merged_23 : decode prog_5_method_17_code 23 = .ok (.istore 4, 2) := by decide +kernel
theorem d_m_merged_25 : decode prog_5_method_17_code 25 = .ok (.iload 4, 2) := by decide +kernel
theorem d_m_merged_27 : decode prog_5_method_17_code 27 = .ok (.iload_n 2, 1) := by decide +kernel
theorem d_m_merged_28 : decode prog_5_method_17_code 28 = .ok (.if_icmp .lt 89, 3) := by decide +kernel
theorem d_m_merged_31 : decode prog_5_method_17_code 31 = .ok (.iconst 0, 1) := by decide +kernel
theorem d_m_merged_32 : decode prog_5_method_17_code 32 = .ok (.istore 5, 2) := by decide +kernel
theorem d_m_merged_34 : decode prog_5_method_17_code 34 = .ok (.iload 5, 2) := by decide +kernel
theorem d_m_merged_36 : decode prog_5_method_17_code 36 = .ok (.bipush 100, 2) := by decide +kernel
theorem d_m_merged_38 : decode prog_5_method_17_code 38 = .ok (.if_icmp .ge 73, 3) := by decide +kernel
theorem d_m_merged_41 : decode prog_5_method_17_code 41 = .ok (.aload_n 0, 1) := by decide +kernel
theorem d_m_merged_42 : decode prog_5_method_17_code 42 = .ok (.getfield 17, 3) := by decide +kernel
theorem d_m_merged_45 : decode prog_5_method_17_code 45 = .ok (.bipush 100, 2) := by decide +kernel
theorem d_m_merged_47 : decode prog_5_method_17_code 47 = .ok (.iload 4, 2) := by decide +kernel
theorem d_m_merged_49 : decode prog_5_method_17_code 49 = .ok (.imul, 1) := by decide +kernel
theorem d_m_merged_50 : decode prog_5_method_17_code 50 = .ok (.iload 5, 2) := by decide +kernel
theorem d_m_merged_52 : decode prog_5_method_17_code 52 = .ok (.iadd, 1) := by decide +kernel
theorem d_m_merged_53 : decode prog_5_method_17_code 53 = .ok (.iaload, 1) := by decide +kernel
theorem d_m_merged_54 : decode prog_5_method_17_code 54 = .ok (.ifCond .le 51, 3) := by decide +kernel
theorem d_m_merged_57 : decode prog_5_method_17_code 57 = .ok (.aload_n 0, 1) := by decide +kernel
theorem d_m_merged_58 : decode prog_5_method_17_code 58 = .ok (.getfield 17, 3) := by decide +kernel
theorem d_m_merged_61 : decode prog_5_method_17_code 61 = .ok (.sipush 1300, 3) := by decide +kernel
theorem d_m_merged_64 : decode prog_5_method_17_code 64 = .ok (.iload 5, 2) := by decide +kernel
theorem d_m_merged_66 : decode prog_5_method_17_code 66 = .ok (.iadd, 1) := by decide +kernel
theorem d_m_merged_67 : decode prog_5_method_17_code 67 = .ok (.aload_n 0, 1) := by decide +kernel
theorem d_m_merged_68 : decode prog_5_method_17_code 68 = .ok (.getfield 17, 3) := by decide +kernel
theorem d_m_merged_71 : decode prog_5_method_17_code 71 = .ok (.bipush 100, 2) := by decide +kernel
theorem d_m_merged_73 : decode prog_5_method_17_code 73 = .ok (.iload 4, 2) := by decide +kernel
theorem d_m_merged_75 : decode prog_5_method_17_code 75 = .ok (.imul, 1) := by decide +kernel
theorem d_m_merged_76 : decode prog_5_method_17_code 76 = .ok (.iload 5, 2) := by decide +kernel
theorem d_m_merged_78 : decode prog_5_method_17_code 78 = .ok (.iadd, 1) := by decide +kernel
theorem d_m_merged_79 : decode prog_5_method_17_code 79 = .ok (.iaload, 1) := by decide +kernel
theorem d_m_merged_80 : decode prog_5_method_17_code 80 = .ok (.iastore, 1) := by decide +kernel
theorem d_m_merged_81 : decode prog_5_method_17_code 81 = .ok (.aload_n 0, 1) := by decide +kernel
theorem d_m_merged_82 : decode prog_5_method_17_code 82 = .ok (.getfield 20, 3) := by decide +kernel
theorem d_m_merged_85 : decode prog_5_method_17_code 85 = .ok (.sipush 1300, 3) := by decide +kernel
theorem d_m_merged_88 : decode prog_5_method_17_code 88 = .ok (.iload 5, 2) := by decide +kernel
theorem d_m_merged_90 : decode prog_5_method_17_code 90 = .ok (.iadd, 1) := by decide +kernel
theorem d_m_merged_91 : decode prog_5_method_17_code 91 = .ok (.aload_n 0, 1) := by decide +kernel
theorem d_m_merged_92 : decode prog_5_method_17_code 92 = .ok (.getfield 20, 3) := by decide +kernel
theorem d_m_merged_95 : decode prog_5_method_17_code 95 = .ok (.bipush 100, 2) := by decide +kernel
theorem d_m_merged_97 : decode prog_5_method_17_code 97 = .ok (.iload 4, 2) := by decide +kernel
theorem d_m_merged_99 : decode prog_5_method_17_code 99 = .ok (.imul, 1) := by decide +kernel
theorem d_m_merged_100 : decode prog_5_method_17_code 100 = .ok (.iload 5, 2) := by decide +kernel
theorem d_m_merged_102 : decode prog_5_method_17_code 102 = .ok (.iadd, 1) := by decide +kernel
theorem d_m_merged_103 : decode prog_5_method_17_code 103 = .ok (.iaload, 1) := by decide +kernel
theorem d_m_merged_104 : decode prog_5_method_17_code 104 = .ok (.iastore, 1) := by decide +kernel
theorem d_m_merged_105 : decode prog_5_method_17_code 105 = .ok (.iinc 5 1, 3) := by decide +kernel
theorem d_m_merged_108 : decode prog_5_method_17_code 108 = .ok (.goto (-74), 3) := by decide +kernel
theorem d_m_merged_111 : decode prog_5_method_17_code 111 = .ok (.iinc 4 (-1), 3) := by decide +kernel
theorem d_m_merged_114 : decode prog_5_method_17_code 114 = .ok (.goto (-89), 3) := by decide +kernel
theorem d_m_merged_117 : decode prog_5_method_17_code 117 = .ok (.iconst 0, 1) := by decide +kernel
theorem d_m_merged_118 : decode prog_5_method_17_code 118 = .ok (.istore 4, 2) := by decide +kernel
theorem d_m_merged_120 : decode prog_5_method_17_code 120 = .ok (.iload 4, 2) := by decide +kernel
theorem d_m_merged_122 : decode prog_5_method_17_code 122 = .ok (.bipush 100, 2) := by decide +kernel
theorem d_m_merged_124 : decode prog_5_method_17_code 124 = .ok (.if_icmp .ge 58, 3) := by decide +kernel
theorem d_m_merged_127 : decode prog_5_method_17_code 127 = .ok (.aload_n 0, 1) := by decide +kernel
theorem d_m_merged_128 : decode prog_5_method_17_code 128 = .ok (.getfield 17, 3) := by decide +kernel
theorem d_m_merged_131 : decode prog_5_method_17_code 131 = .ok (.sipush 1300, 3) := by decide +kernel
theorem d_m_merged_134 : decode prog_5_method_17_code 134 = .ok (.iload 4, 2) := by decide +kernel
theorem d_m_merged_136 : decode prog_5_method_17_code 136 = .ok (.iadd, 1) := by decide +kernel
theorem d_m_merged_137 : decode prog_5_method_17_code 137 = .ok (.iload_n 3, 1) := by decide +kernel
theorem d_m_merged_138 : decode prog_5_method_17_code 138 = .ok (.aload_n 0, 1) := by decide +kernel
theorem d_m_merged_139 : decode prog_5_method_17_code 139 = .ok (.getfield 29, 3) := by decide +kernel
theorem d_m_merged_142 : decode prog_5_method_17_code 142 = .ok (.if_icmp .ne 22, 3) := by decide +kernel
theorem d_m_merged_145 : decode prog_5_method_17_code 145 = .ok (.aload_n 0, 1) := by decide +kernel
theorem d_m_merged_146 : decode prog_5_method_17_code 146 = .ok (.getfield 17, 3) := by decide +kernel
theorem d_m_merged_149 : decode prog_5_method_17_code 149 = .ok (.sipush 1300, 3) := by decide +kernel
theorem d_m_merged_152 : decode prog_5_method_17_code 152 = .ok (.iload 4, 2) := by decide +kernel
theorem d_m_merged_154 : decode prog_5_method_17_code 154 = .ok (.iadd, 1) := by decide +kernel
theorem d_m_merged_155 : decode prog_5_method_17_code 155 = .ok (.iaload, 1) := by decide +kernel
theorem d_m_merged_156 : decode prog_5_method_17_code 156 = .ok (.iconst 2, 1) := by decide +kernel
theorem d_m_merged_157 : decode prog_5_method_17_code 157 = .ok (.if_icmp .ne 7, 3) := by decide +kernel
theorem d_m_merged_160 : decode prog_5_method_17_code 160 = .ok (.iconst 0, 1) := by decide +kernel
theorem d_m_merged_161 : decode prog_5_method_17_code 161 = .ok (.goto 14, 3) := by decide +kernel
theorem d_m_merged_164 : decode prog_5_method_17_code 164 = .ok (.aload_n 0, 1) := by decide +kernel
theorem d_m_merged_165 : decode prog_5_method_17_code 165 = .ok (.getfield 17, 3) := by decide +kernel
theorem d_m_merged_168 : decode prog_5_method_17_code 168 = .ok (.sipush 1300, 3) := by decide +kernel
theorem d_m_merged_171 : decode prog_5_method_17_code 171 = .ok (.iload 4, 2) := by decide +kernel
theorem d_m_merged_173 : decode prog_5_method_17_code 173 = .ok (.iadd, 1) := by decide +kernel
theorem d_m_merged_174 : decode prog_5_method_17_code 174 = .ok (.iaload, 1) := by decide +kernel
theorem d_m_merged_175 : decode prog_5_method_17_code 175 = .ok (.iastore, 1) := by decide +kernel
theorem d_m_merged_176 : decode prog_5_method_17_code 176 = .ok (.iinc 4 1, 3) := by decide +kernel
theorem d_m_merged_179 : decode prog_5_method_17_code 179 = .ok (.goto (-59), 3) := by decide +kernel
theorem d_m_merged_182 : decode prog_5_method_17_code 182 = .ok (.aload_n 0, 1) := by decide +kernel
theorem d_m_merged_183 : decode prog_5_method_17_code 183 = .ok (.bipush 13, 2) := by decide +kernel
theorem d_m_merged_185 : decode prog_5_method_17_code 185 = .ok (.invokevirtual 32, 3) := by decide +kernel
theorem d_m_merged_188 : decode prog_5_method_17_code 188 = .ok (.istore 4, 2) := by decide +kernel
theorem d_m_merged_190 : decode prog_5_method_17_code 190 = .ok (.iload 4, 2) := by decide +kernel
theorem d_m_merged_192 : decode prog_5_method_17_code 192 = .ok (.invokestatic 36, 3) := by decide +kernel
theorem d_m_merged_195 : decode prog_5_method_17_code 195 = .ok (.aload_n 0, 1) := by decide +kernel
theorem d_m_merged_196 : decode prog_5_method_17_code 196 = .ok (.invokevirtual 57, 3) := by decide +kernel
theorem d_m_merged_199 : decode prog_5_method_17_code 199 = .ok (.if_icmp .le 5, 3) := by decide +kernel
theorem d_m_merged_202 : decode prog_5_method_17_code 202 = .ok (.iconst 2, 1) := by decide +kernel
theorem d_m_merged_203 : decode prog_5_method_17_code 203 = .ok (.ireturn, 1) := by decide +kernel
theorem d_m_merged_204 : decode prog_5_method_17_code 204 = .ok (.aload_n 0, 1) := by decide +kernel
theorem d_m_merged_205 : decode prog_5_method_17_code 205 = .ok (.iload 4, 2) := by decide +kernel
theorem d_m_merged_207 : decode prog_5_method_17_code 207 = .ok (.invokestatic 36, 3) := by decide +kernel
theorem d_m_merged_210 : decode prog_5_method_17_code 210 = .ok (.iconst 1, 1) := by decide +kernel
theorem d_m_merged_211 : decode prog_5_method_17_code 211 = .ok (.iadd, 1) := by decide +kernel
theorem d_m_merged_212 : decode prog_5_method_17_code 212 = .ok (.invokevirtual 61, 3) := by decide +kernel
theorem d_m_merged_215 : decode prog_5_method_17_code 215 = .ok (.ifCond .ne 5, 3) := by decide +kernel
theorem d_m_merged_218 : decode prog_5_method_17_code 218 = .ok (.iconst 1, 1) := by decide +kernel
theorem d_m_merged_219 : decode prog_5_method_17_code 219 = .ok (.ireturn, 1) := by decide +kernel
theorem d_m_merged_220 : decode prog_5_method_17_code 220 = .ok (.iload_n 2, 1) := by decide +kernel
theorem d_m_merged_221 : decode prog_5_method_17_code 221 = .ok (.istore 5, 2) := by decide +kernel
theorem d_m_merged_223 : decode prog_5_method_17_code 223 = .ok (.iload 5, 2) := by decide +kernel
theorem d_m_merged_225 : decode prog_5_method_17_code 225 = .ok (.iload_n 3, 1) := by decide +kernel
theorem d_m_merged_226 : decode prog_5_method_17_code 226 = .ok (.if_icmp .ge 14, 3) := by decide +kernel
theorem d_m_merged_229 : decode prog_5_method_17_code 229 = .ok (.aload_n 0, 1) := by decide +kernel
theorem d_m_merged_230 : decode prog_5_method_17_code 230 = .ok (.iload_n 2, 1) := by decide +kernel
theorem d_m_merged_231 : decode prog_5_method_17_code 231 = .ok (.invokevirtual 74, 3) := by decide +kernel
theorem d_m_merged_234 : decode prog_5_method_17_code 234 = .ok (.iinc 5 1, 3) := by decide +kernel
theorem d_m_merged_237 : decode prog_5_method_17_code 237 = .ok (.goto (-14), 3) := by decide +kernel
theorem d_m_merged_240 : decode prog_5_method_17_code 240 = .ok (.iload 4, 2) := by decide +kernel
theorem d_m_merged_242 : decode prog_5_method_17_code 242 = .ok (.ifCond .le 20, 3) := by decide +kernel
theorem d_m_merged_245 : decode prog_5_method_17_code 245 = .ok (.aload_n 0, 1) := by decide +kernel
theorem d_m_merged_246 : decode prog_5_method_17_code 246 = .ok (.iload_n 2, 1) := by decide +kernel
theorem d_m_merged_247 : decode prog_5_method_17_code 247 = .ok (.iload_n 1, 1) := by decide +kernel
theorem d_m_merged_248 : decode prog_5_method_17_code 248 = .ok (.iconst 2, 1) := by decide +kernel
theorem d_m_merged_249 : decode prog_5_method_17_code 249 = .ok (.if_icmp .ge 9, 3) := by decide +kernel
theorem d_m_merged_252 : decode prog_5_method_17_code 252 = .ok (.iload_n 1, 1) := by decide +kernel
theorem d_m_merged_253 : decode prog_5_method_17_code 253 = .ok (.iconst 1, 1) := by decide +kernel
theorem d_m_merged_254 : decode prog_5_method_17_code 254 = .ok (.iadd, 1) := by decide +kernel
theorem d_m_merged_255 : decode prog_5_method_17_code 255 = .ok (.goto 4, 3) := by decide +kernel
theorem d_m_merged_258 : decode prog_5_method_17_code 258 = .ok (.iconst 2, 1) := by decide +kernel
theorem d_m_merged_259 : decode prog_5_method_17_code 259 = .ok (.invokevirtual 65, 3) := by decide +kernel
theorem d_m_merged_262 : decode prog_5_method_17_code 262 = .ok (.iconst 0, 1) := by decide +kernel
theorem d_m_merged_263 : decode prog_5_method_17_code 263 = .ok (.ireturn, 1) := by decide +kernel
abbrev M_m_begin : rsM := (⟨"RunStoreModel", "begin", "(I)I"⟩, prog_5_method_9_code, 3, some .int, [])
theorem d_m_begin_0 : decode prog_5_method_9_code 0 = .ok (.iconst 0, 1) := by decide +kernel
theorem d_m_begin_1 : decode prog_5_method_9_code 1 = .ok (.istore_n 2, 1) := by decide +kernel
theorem d_m_begin_2 : decode prog_5_method_9_code 2 = .ok (.iload_n 2, 1) := by decide +kernel
theorem d_m_begin_3 : decode prog_5_method_9_code 3 = .ok (.aload_n 0, 1) := by decide +kernel
theorem d_m_begin_4 : decode prog_5_method_9_code 4 = .ok (.getfield 29, 3) := by decide +kernel
theorem d_m_begin_7 : decode prog_5_method_9_code 7 = .ok (.if_icmp .ge 19, 3) := by decide +kernel
theorem d_m_begin_10 : decode prog_5_method_9_code 10 = .ok (.aload_n 0, 1) := by decide +kernel
theorem d_m_begin_11 : decode prog_5_method_9_code 11 = .ok (.getfield 13, 3) := by decide +kernel
theorem d_m_begin_14 : decode prog_5_method_9_code 14 = .ok (.iload_n 2, 1) := by decide +kernel
theorem d_m_begin_15 : decode prog_5_method_9_code 15 = .ok (.iaload, 1) := by decide +kernel
theorem d_m_begin_16 : decode prog_5_method_9_code 16 = .ok (.iload_n 1, 1) := by decide +kernel
theorem d_m_begin_17 : decode prog_5_method_9_code 17 = .ok (.if_icmp .ge 9, 3) := by decide +kernel
theorem d_m_begin_20 : decode prog_5_method_9_code 20 = .ok (.iinc 2 1, 3) := by decide +kernel
theorem d_m_begin_23 : decode prog_5_method_9_code 23 = .ok (.goto (-21), 3) := by decide +kernel
theorem d_m_begin_26 : decode prog_5_method_9_code 26 = .ok (.iload_n 2, 1) := by decide +kernel
theorem d_m_begin_27 : decode prog_5_method_9_code 27 = .ok (.ireturn, 1) := by decide +kernel
abbrev M_m_takeOut : rsM := (⟨"RunStoreModel", "takeOut", "(I)V"⟩, prog_5_method_15_code, 3, none, [])
theorem d_m_takeOut_0 : decode prog_5_method_15_code 0 = .ok (.aload_n 0, 1) := by decide +kernel
theorem d_m_takeOut_1 : decode prog_5_method_15_code 1 = .ok (.dup, 1) := by decide +kernel
theorem d_m_takeOut_2 : decode prog_5_method_15_code 2 = .ok (.getfield 29, 3) := by decide +kernel
theorem d_m_takeOut_5 : decode prog_5_method_15_code 5 = .ok (.iconst 1, 1) := by decide +kernel
theorem d_m_takeOut_6 : decode prog_5_method_15_code 6 = .ok (.isub, 1) := by decide +kernel
theorem d_m_takeOut_7 : decode prog_5_method_15_code 7 = .ok (.putfield 29, 3) := by decide +kernel
theorem d_m_takeOut_10 : decode prog_5_method_15_code 10 = .ok (.iload_n 1, 1) := by decide +kernel
theorem d_m_takeOut_11 : decode prog_5_method_15_code 11 = .ok (.istore_n 2, 1) := by decide +kernel
theorem d_m_takeOut_12 : decode prog_5_method_15_code 12 = .ok (.iload_n 2, 1) := by decide +kernel
theorem d_m_takeOut_13 : decode prog_5_method_15_code 13 = .ok (.aload_n 0, 1) := by decide +kernel
theorem d_m_takeOut_14 : decode prog_5_method_15_code 14 = .ok (.getfield 29, 3) := by decide +kernel
theorem d_m_takeOut_17 : decode prog_5_method_15_code 17 = .ok (.if_icmp .ge 31, 3) := by decide +kernel
theorem d_m_takeOut_20 : decode prog_5_method_15_code 20 = .ok (.aload_n 0, 1) := by decide +kernel
theorem d_m_takeOut_21 : decode prog_5_method_15_code 21 = .ok (.iload_n 2, 1) := by decide +kernel
theorem d_m_takeOut_22 : decode prog_5_method_15_code 22 = .ok (.iconst 1, 1) := by decide +kernel
theorem d_m_takeOut_23 : decode prog_5_method_15_code 23 = .ok (.iadd, 1) := by decide +kernel
theorem d_m_takeOut_24 : decode prog_5_method_15_code 24 = .ok (.iload_n 2, 1) := by decide +kernel
theorem d_m_takeOut_25 : decode prog_5_method_15_code 25 = .ok (.invokevirtual 53, 3) := by decide +kernel
theorem d_m_takeOut_28 : decode prog_5_method_15_code 28 = .ok (.aload_n 0, 1) := by decide +kernel
theorem d_m_takeOut_29 : decode prog_5_method_15_code 29 = .ok (.getfield 13, 3) := by decide +kernel
theorem d_m_takeOut_32 : decode prog_5_method_15_code 32 = .ok (.iload_n 2, 1) := by decide +kernel
theorem d_m_takeOut_33 : decode prog_5_method_15_code 33 = .ok (.aload_n 0, 1) := by decide +kernel
theorem d_m_takeOut_34 : decode prog_5_method_15_code 34 = .ok (.getfield 13, 3) := by decide +kernel
theorem d_m_takeOut_37 : decode prog_5_method_15_code 37 = .ok (.iload_n 2, 1) := by decide +kernel
theorem d_m_takeOut_38 : decode prog_5_method_15_code 38 = .ok (.iconst 1, 1) := by decide +kernel
theorem d_m_takeOut_39 : decode prog_5_method_15_code 39 = .ok (.iadd, 1) := by decide +kernel
theorem d_m_takeOut_40 : decode prog_5_method_15_code 40 = .ok (.iaload, 1) := by decide +kernel
theorem d_m_takeOut_41 : decode prog_5_method_15_code 41 = .ok (.iastore, 1) := by decide +kernel
theorem d_m_takeOut_42 : decode prog_5_method_15_code 42 = .ok (.iinc 2 1, 3) := by decide +kernel
theorem d_m_takeOut_45 : decode prog_5_method_15_code 45 = .ok (.goto (-33), 3) := by decide +kernel
theorem d_m_takeOut_48 : decode prog_5_method_15_code 48 = .ok (.return_, 1) := by decide +kernel
abbrev M_m_merge : rsM := (⟨"RunStoreModel", "merge", "(I)I"⟩, prog_5_method_29_code, 4, some .int, [])
theorem d_m_merge_0 : decode prog_5_method_29_code 0 = .ok (.aload_n 0, 1) := by decide +kernel
theorem d_m_merge_1 : decode prog_5_method_29_code 1 = .ok (.iload_n 1, 1) := by decide +kernel
theorem d_m_merge_2 : decode prog_5_method_29_code 2 = .ok (.invokestatic 96, 3) := by decide +kernel
theorem d_m_merge_5 : decode prog_5_method_29_code 5 = .ok (.ifCond .ne 7, 3) := by decide +kernel
theorem d_m_merge_8 : decode prog_5_method_29_code 8 = .ok (.iconst 1, 1) := by decide +kernel
theorem d_m_merge_9 : decode prog_5_method_29_code 9 = .ok (.goto 15, 3) := by decide +kernel
theorem d_m_merge_12 : decode prog_5_method_29_code 12 = .ok (.aload_n 0, 1) := by decide +kernel
theorem d_m_merge_13 : decode prog_5_method_29_code 13 = .ok (.getfield 42, 3) := by decide +kernel
theorem d_m_merge_16 : decode prog_5_method_29_code 16 = .ok (.ifCond .ne 7, 3) := by decide +kernel
theorem d_m_merge_19 : decode prog_5_method_29_code 19 = .ok (.iconst 2, 1) := by decide +kernel
theorem d_m_merge_20 : decode prog_5_method_29_code 20 = .ok (.goto 4, 3) := by decide +kernel
theorem d_m_merge_23 : decode prog_5_method_29_code 23 = .ok (.iconst 0, 1) := by decide +kernel
theorem d_m_merge_24 : decode prog_5_method_29_code 24 = .ok (.putfield 26, 3) := by decide +kernel
theorem d_m_merge_27 : decode prog_5_method_29_code 27 = .ok (.aload_n 0, 1) := by decide +kernel
theorem d_m_merge_28 : decode prog_5_method_29_code 28 = .ok (.getfield 26, 3) := by decide +kernel
theorem d_m_merge_31 : decode prog_5_method_29_code 31 = .ok (.ifCond .eq 5, 3) := by decide +kernel
theorem d_m_merge_34 : decode prog_5_method_29_code 34 = .ok (.iconst 0, 1) := by decide +kernel
theorem d_m_merge_35 : decode prog_5_method_29_code 35 = .ok (.ireturn, 1) := by decide +kernel
theorem d_m_merge_36 : decode prog_5_method_29_code 36 = .ok (.aload_n 0, 1) := by decide +kernel
theorem d_m_merge_37 : decode prog_5_method_29_code 37 = .ok (.iload_n 1, 1) := by decide +kernel
theorem d_m_merge_38 : decode prog_5_method_29_code 38 = .ok (.invokevirtual 71, 3) := by decide +kernel
theorem d_m_merge_41 : decode prog_5_method_29_code 41 = .ok (.ifCond .le 7, 3) := by decide +kernel
theorem d_m_merge_44 : decode prog_5_method_29_code 44 = .ok (.iconst 1, 1) := by decide +kernel
theorem d_m_merge_45 : decode prog_5_method_29_code 45 = .ok (.goto 4, 3) := by decide +kernel
theorem d_m_merge_48 : decode prog_5_method_29_code 48 = .ok (.iconst 0, 1) := by decide +kernel
theorem d_m_merge_49 : decode prog_5_method_29_code 49 = .ok (.istore_n 2, 1) := by decide +kernel
theorem d_m_merge_50 : decode prog_5_method_29_code 50 = .ok (.iload_n 2, 1) := by decide +kernel
theorem d_m_merge_51 : decode prog_5_method_29_code 51 = .ok (.ifCond .eq 11, 3) := by decide +kernel
theorem d_m_merge_54 : decode prog_5_method_29_code 54 = .ok (.aload_n 0, 1) := by decide +kernel
theorem d_m_merge_55 : decode prog_5_method_29_code 55 = .ok (.iload_n 1, 1) := by decide +kernel
theorem d_m_merge_56 : decode prog_5_method_29_code 56 = .ok (.invokevirtual 93, 3) := by decide +kernel
theorem d_m_merge_59 : decode prog_5_method_29_code 59 = .ok (.goto 4, 3) := by decide +kernel
theorem d_m_merge_62 : decode prog_5_method_29_code 62 = .ok (.iconst 0, 1) := by decide +kernel
theorem d_m_merge_63 : decode prog_5_method_29_code 63 = .ok (.istore_n 3, 1) := by decide +kernel
theorem d_m_merge_64 : decode prog_5_method_29_code 64 = .ok (.aload_n 0, 1) := by decide +kernel
theorem d_m_merge_65 : decode prog_5_method_29_code 65 = .ok (.iload_n 3, 1) := by decide +kernel
theorem d_m_merge_66 : decode prog_5_method_29_code 66 = .ok (.ifCond .ne 7, 3) := by decide +kernel
theorem d_m_merge_69 : decode prog_5_method_29_code 69 = .ok (.iconst 0, 1) := by decide +kernel
theorem d_m_merge_70 : decode prog_5_method_29_code 70 = .ok (.goto 6, 3) := by decide +kernel
theorem d_m_merge_73 : decode prog_5_method_29_code 73 = .ok (.iload_n 3, 1) := by decide +kernel
theorem d_m_merge_74 : decode prog_5_method_29_code 74 = .ok (.iconst 1, 1) := by decide +kernel
theorem d_m_merge_75 : decode prog_5_method_29_code 75 = .ok (.iadd, 1) := by decide +kernel
theorem d_m_merge_76 : decode prog_5_method_29_code 76 = .ok (.putfield 26, 3) := by decide +kernel
theorem d_m_merge_79 : decode prog_5_method_29_code 79 = .ok (.aload_n 0, 1) := by decide +kernel
theorem d_m_merge_80 : decode prog_5_method_29_code 80 = .ok (.getfield 26, 3) := by decide +kernel
theorem d_m_merge_83 : decode prog_5_method_29_code 83 = .ok (.ifCond .eq 5, 3) := by decide +kernel
theorem d_m_merge_86 : decode prog_5_method_29_code 86 = .ok (.iconst 0, 1) := by decide +kernel
theorem d_m_merge_87 : decode prog_5_method_29_code 87 = .ok (.ireturn, 1) := by decide +kernel
theorem d_m_merge_88 : decode prog_5_method_29_code 88 = .ok (.aload_n 0, 1) := by decide +kernel
theorem d_m_merge_89 : decode prog_5_method_29_code 89 = .ok (.iconst (-1), 1) := by decide +kernel
theorem d_m_merge_90 : decode prog_5_method_29_code 90 = .ok (.putfield 23, 3) := by decide +kernel
theorem d_m_merge_93 : decode prog_5_method_29_code 93 = .ok (.iload_n 2, 1) := by decide +kernel
theorem d_m_merge_94 : decode prog_5_method_29_code 94 = .ok (.ifCond .eq 12, 3) := by decide +kernel
theorem d_m_merge_97 : decode prog_5_method_29_code 97 = .ok (.aload_n 0, 1) := by decide +kernel
theorem d_m_merge_98 : decode prog_5_method_29_code 98 = .ok (.bipush 13, 2) := by decide +kernel
theorem d_m_merge_100 : decode prog_5_method_29_code 100 = .ok (.invokevirtual 32, 3) := by decide +kernel
theorem d_m_merge_103 : decode prog_5_method_29_code 103 = .ok (.goto 4, 3) := by decide +kernel
theorem d_m_merge_106 : decode prog_5_method_29_code 106 = .ok (.iconst 0, 1) := by decide +kernel
theorem d_m_merge_107 : decode prog_5_method_29_code 107 = .ok (.ireturn, 1) := by decide +kernel
abbrev M_m_isLevel : rsM := (⟨"RunStoreModel", "isLevel", "(I)Z"⟩, prog_5_method_28_code, 1, some .boolean, [])
theorem d_m_isLevel_0 : decode prog_5_method_28_code 0 = .ok (.iload_n 0, 1) := by decide +kernel
theorem d_m_isLevel_1 : decode prog_5_method_28_code 1 = .ok (.ifCond .lt 12, 3) := by decide +kernel
theorem d_m_isLevel_4 : decode prog_5_method_28_code 4 = .ok (.iload_n 0, 1) := by decide +kernel
theorem d_m_isLevel_5 : decode prog_5_method_28_code 5 = .ok (.iconst 2, 1) := by decide +kernel
theorem d_m_isLevel_6 : decode prog_5_method_28_code 6 = .ok (.if_icmp .gt 7, 3) := by decide +kernel
theorem d_m_isLevel_9 : decode prog_5_method_28_code 9 = .ok (.iconst 1, 1) := by decide +kernel
theorem d_m_isLevel_10 : decode prog_5_method_28_code 10 = .ok (.goto 4, 3) := by decide +kernel
theorem d_m_isLevel_13 : decode prog_5_method_28_code 13 = .ok (.iconst 0, 1) := by decide +kernel
theorem d_m_isLevel_14 : decode prog_5_method_28_code 14 = .ok (.ireturn, 1) := by decide +kernel
abbrev M_m_limit : rsM := (⟨"RunStoreModel", "limit", "(I)V"⟩, prog_5_method_30_code, 2, none, [])
theorem d_m_limit_0 : decode prog_5_method_30_code 0 = .ok (.aload_n 0, 1) := by decide +kernel
theorem d_m_limit_1 : decode prog_5_method_30_code 1 = .ok (.iload_n 1, 1) := by decide +kernel
theorem d_m_limit_2 : decode prog_5_method_30_code 2 = .ok (.iconst (-1), 1) := by decide +kernel
theorem d_m_limit_3 : decode prog_5_method_30_code 3 = .ok (.if_icmp .lt 10, 3) := by decide +kernel
theorem d_m_limit_6 : decode prog_5_method_30_code 6 = .ok (.iload_n 1, 1) := by decide +kernel
theorem d_m_limit_7 : decode prog_5_method_30_code 7 = .ok (.sipush 1000, 3) := by decide +kernel
theorem d_m_limit_10 : decode prog_5_method_30_code 10 = .ok (.if_icmp .le 7, 3) := by decide +kernel
theorem d_m_limit_13 : decode prog_5_method_30_code 13 = .ok (.iconst 1, 1) := by decide +kernel
theorem d_m_limit_14 : decode prog_5_method_30_code 14 = .ok (.goto 15, 3) := by decide +kernel
theorem d_m_limit_17 : decode prog_5_method_30_code 17 = .ok (.aload_n 0, 1) := by decide +kernel
theorem d_m_limit_18 : decode prog_5_method_30_code 18 = .ok (.getfield 77, 3) := by decide +kernel
theorem d_m_limit_21 : decode prog_5_method_30_code 21 = .ok (.ifCond .ne 7, 3) := by decide +kernel
theorem d_m_limit_24 : decode prog_5_method_30_code 24 = .ok (.iconst 2, 1) := by decide +kernel
theorem d_m_limit_25 : decode prog_5_method_30_code 25 = .ok (.goto 4, 3) := by decide +kernel
theorem d_m_limit_28 : decode prog_5_method_30_code 28 = .ok (.iconst 0, 1) := by decide +kernel
theorem d_m_limit_29 : decode prog_5_method_30_code 29 = .ok (.putfield 26, 3) := by decide +kernel
theorem d_m_limit_32 : decode prog_5_method_30_code 32 = .ok (.aload_n 0, 1) := by decide +kernel
theorem d_m_limit_33 : decode prog_5_method_30_code 33 = .ok (.getfield 26, 3) := by decide +kernel
theorem d_m_limit_36 : decode prog_5_method_30_code 36 = .ok (.ifCond .ne 8, 3) := by decide +kernel
theorem d_m_limit_39 : decode prog_5_method_30_code 39 = .ok (.aload_n 0, 1) := by decide +kernel
theorem d_m_limit_40 : decode prog_5_method_30_code 40 = .ok (.iload_n 1, 1) := by decide +kernel
theorem d_m_limit_41 : decode prog_5_method_30_code 41 = .ok (.putfield 9, 3) := by decide +kernel
theorem d_m_limit_44 : decode prog_5_method_30_code 44 = .ok (.return_, 1) := by decide +kernel
abbrev M_m_left : rsM := (⟨"RunStoreModel", "left", "()I"⟩, prog_5_method_31_code, 1, some .int, [])
theorem d_m_left_0 : decode prog_5_method_31_code 0 = .ok (.aload_n 0, 1) := by decide +kernel
theorem d_m_left_1 : decode prog_5_method_31_code 1 = .ok (.iconst 0, 1) := by decide +kernel
theorem d_m_left_2 : decode prog_5_method_31_code 2 = .ok (.putfield 26, 3) := by decide +kernel
theorem d_m_left_5 : decode prog_5_method_31_code 5 = .ok (.aload_n 0, 1) := by decide +kernel
theorem d_m_left_6 : decode prog_5_method_31_code 6 = .ok (.getfield 9, 3) := by decide +kernel
theorem d_m_left_9 : decode prog_5_method_31_code 9 = .ok (.ireturn, 1) := by decide +kernel
abbrev M_m_seek : rsM := (⟨"RunStoreModel", "seek", "(I)Z"⟩, prog_5_method_33_code, 2, some .boolean, [])
theorem d_m_seek_0 : decode prog_5_method_33_code 0 = .ok (.aload_n 0, 1) := by decide +kernel
theorem d_m_seek_1 : decode prog_5_method_33_code 1 = .ok (.iload_n 1, 1) := by decide +kernel
theorem d_m_seek_2 : decode prog_5_method_33_code 2 = .ok (.invokestatic 80, 3) := by decide +kernel
theorem d_m_seek_5 : decode prog_5_method_33_code 5 = .ok (.ifCond .ne 7, 3) := by decide +kernel
theorem d_m_seek_8 : decode prog_5_method_33_code 8 = .ok (.iconst 1, 1) := by decide +kernel
theorem d_m_seek_9 : decode prog_5_method_33_code 9 = .ok (.goto 15, 3) := by decide +kernel
theorem d_m_seek_12 : decode prog_5_method_33_code 12 = .ok (.aload_n 0, 1) := by decide +kernel
theorem d_m_seek_13 : decode prog_5_method_33_code 13 = .ok (.getfield 42, 3) := by decide +kernel
theorem d_m_seek_16 : decode prog_5_method_33_code 16 = .ok (.ifCond .ne 7, 3) := by decide +kernel
theorem d_m_seek_19 : decode prog_5_method_33_code 19 = .ok (.iconst 2, 1) := by decide +kernel
theorem d_m_seek_20 : decode prog_5_method_33_code 20 = .ok (.goto 4, 3) := by decide +kernel
theorem d_m_seek_23 : decode prog_5_method_33_code 23 = .ok (.iconst 0, 1) := by decide +kernel
theorem d_m_seek_24 : decode prog_5_method_33_code 24 = .ok (.putfield 26, 3) := by decide +kernel
theorem d_m_seek_27 : decode prog_5_method_33_code 27 = .ok (.aload_n 0, 1) := by decide +kernel
theorem d_m_seek_28 : decode prog_5_method_33_code 28 = .ok (.getfield 26, 3) := by decide +kernel
theorem d_m_seek_31 : decode prog_5_method_33_code 31 = .ok (.ifCond .ne 15, 3) := by decide +kernel
theorem d_m_seek_34 : decode prog_5_method_33_code 34 = .ok (.aload_n 0, 1) := by decide +kernel
theorem d_m_seek_35 : decode prog_5_method_33_code 35 = .ok (.iload_n 1, 1) := by decide +kernel
theorem d_m_seek_36 : decode prog_5_method_33_code 36 = .ok (.invokevirtual 99, 3) := by decide +kernel
theorem d_m_seek_39 : decode prog_5_method_33_code 39 = .ok (.ifCond .eq 7, 3) := by decide +kernel
theorem d_m_seek_42 : decode prog_5_method_33_code 42 = .ok (.iconst 1, 1) := by decide +kernel
theorem d_m_seek_43 : decode prog_5_method_33_code 43 = .ok (.goto 4, 3) := by decide +kernel
theorem d_m_seek_46 : decode prog_5_method_33_code 46 = .ok (.iconst 0, 1) := by decide +kernel
theorem d_m_seek_47 : decode prog_5_method_33_code 47 = .ok (.ireturn, 1) := by decide +kernel
abbrev M_m_goTo : rsM := (⟨"RunStoreModel", "goTo", "(I)Z"⟩, prog_5_method_32_code, 2, some .boolean, [])
theorem d_m_goTo_0 : decode prog_5_method_32_code 0 = .ok (.aload_n 0, 1) := by decide +kernel
theorem d_m_goTo_1 : decode prog_5_method_32_code 1 = .ok (.iload_n 1, 1) := by decide +kernel
theorem d_m_goTo_2 : decode prog_5_method_32_code 2 = .ok (.putfield 23, 3) := by decide +kernel
theorem d_m_goTo_5 : decode prog_5_method_32_code 5 = .ok (.aload_n 0, 1) := by decide +kernel
theorem d_m_goTo_6 : decode prog_5_method_32_code 6 = .ok (.getfield 23, 3) := by decide +kernel
theorem d_m_goTo_9 : decode prog_5_method_32_code 9 = .ok (.bipush 100, 2) := by decide +kernel
theorem d_m_goTo_11 : decode prog_5_method_32_code 11 = .ok (.if_icmp .ge 27, 3) := by decide +kernel
theorem d_m_goTo_14 : decode prog_5_method_32_code 14 = .ok (.aload_n 0, 1) := by decide +kernel
theorem d_m_goTo_15 : decode prog_5_method_32_code 15 = .ok (.aload_n 0, 1) := by decide +kernel
theorem d_m_goTo_16 : decode prog_5_method_32_code 16 = .ok (.getfield 23, 3) := by decide +kernel
theorem d_m_goTo_19 : decode prog_5_method_32_code 19 = .ok (.invokevirtual 90, 3) := by decide +kernel
theorem d_m_goTo_22 : decode prog_5_method_32_code 22 = .ok (.ifCond .ne 16, 3) := by decide +kernel
theorem d_m_goTo_25 : decode prog_5_method_32_code 25 = .ok (.aload_n 0, 1) := by decide +kernel
theorem d_m_goTo_26 : decode prog_5_method_32_code 26 = .ok (.dup, 1) := by decide +kernel
theorem d_m_goTo_27 : decode prog_5_method_32_code 27 = .ok (.getfield 23, 3) := by decide +kernel
theorem d_m_goTo_30 : decode prog_5_method_32_code 30 = .ok (.iconst 1, 1) := by decide +kernel
theorem d_m_goTo_31 : decode prog_5_method_32_code 31 = .ok (.iadd, 1) := by decide +kernel
theorem d_m_goTo_32 : decode prog_5_method_32_code 32 = .ok (.putfield 23, 3) := by decide +kernel
theorem d_m_goTo_35 : decode prog_5_method_32_code 35 = .ok (.goto (-30), 3) := by decide +kernel
theorem d_m_goTo_38 : decode prog_5_method_32_code 38 = .ok (.aload_n 0, 1) := by decide +kernel
theorem d_m_goTo_39 : decode prog_5_method_32_code 39 = .ok (.aload_n 0, 1) := by decide +kernel
theorem d_m_goTo_40 : decode prog_5_method_32_code 40 = .ok (.getfield 23, 3) := by decide +kernel
theorem d_m_goTo_43 : decode prog_5_method_32_code 43 = .ok (.bipush 100, 2) := by decide +kernel
theorem d_m_goTo_45 : decode prog_5_method_32_code 45 = .ok (.if_icmp .ge 10, 3) := by decide +kernel
theorem d_m_goTo_48 : decode prog_5_method_32_code 48 = .ok (.aload_n 0, 1) := by decide +kernel
theorem d_m_goTo_49 : decode prog_5_method_32_code 49 = .ok (.getfield 23, 3) := by decide +kernel
theorem d_m_goTo_52 : decode prog_5_method_32_code 52 = .ok (.goto 4, 3) := by decide +kernel
theorem d_m_goTo_55 : decode prog_5_method_32_code 55 = .ok (.iconst (-1), 1) := by decide +kernel
theorem d_m_goTo_56 : decode prog_5_method_32_code 56 = .ok (.putfield 23, 3) := by decide +kernel
theorem d_m_goTo_59 : decode prog_5_method_32_code 59 = .ok (.aload_n 0, 1) := by decide +kernel
theorem d_m_goTo_60 : decode prog_5_method_32_code 60 = .ok (.getfield 23, 3) := by decide +kernel
theorem d_m_goTo_63 : decode prog_5_method_32_code 63 = .ok (.ifCond .lt 7, 3) := by decide +kernel
theorem d_m_goTo_66 : decode prog_5_method_32_code 66 = .ok (.iconst 1, 1) := by decide +kernel
theorem d_m_goTo_67 : decode prog_5_method_32_code 67 = .ok (.goto 4, 3) := by decide +kernel
theorem d_m_goTo_70 : decode prog_5_method_32_code 70 = .ok (.iconst 0, 1) := by decide +kernel
theorem d_m_goTo_71 : decode prog_5_method_32_code 71 = .ok (.ireturn, 1) := by decide +kernel
abbrev M_m_next : rsM := (⟨"RunStoreModel", "next", "()Z"⟩, prog_5_method_34_code, 1, some .boolean, [])
theorem d_m_next_0 : decode prog_5_method_34_code 0 = .ok (.aload_n 0, 1) := by decide +kernel
theorem d_m_next_1 : decode prog_5_method_34_code 1 = .ok (.aload_n 0, 1) := by decide +kernel
theorem d_m_next_2 : decode prog_5_method_34_code 2 = .ok (.getfield 42, 3) := by decide +kernel
theorem d_m_next_5 : decode prog_5_method_34_code 5 = .ok (.ifCond .eq 10, 3) := by decide +kernel
theorem d_m_next_8 : decode prog_5_method_34_code 8 = .ok (.aload_n 0, 1) := by decide +kernel
theorem d_m_next_9 : decode prog_5_method_34_code 9 = .ok (.getfield 23, 3) := by decide +kernel
theorem d_m_next_12 : decode prog_5_method_34_code 12 = .ok (.ifCond .ge 7, 3) := by decide +kernel
theorem d_m_next_15 : decode prog_5_method_34_code 15 = .ok (.iconst 1, 1) := by decide +kernel
theorem d_m_next_16 : decode prog_5_method_34_code 16 = .ok (.goto 4, 3) := by decide +kernel
theorem d_m_next_19 : decode prog_5_method_34_code 19 = .ok (.iconst 0, 1) := by decide +kernel
theorem d_m_next_20 : decode prog_5_method_34_code 20 = .ok (.putfield 26, 3) := by decide +kernel
theorem d_m_next_23 : decode prog_5_method_34_code 23 = .ok (.aload_n 0, 1) := by decide +kernel
theorem d_m_next_24 : decode prog_5_method_34_code 24 = .ok (.getfield 26, 3) := by decide +kernel
theorem d_m_next_27 : decode prog_5_method_34_code 27 = .ok (.ifCond .ne 20, 3) := by decide +kernel
theorem d_m_next_30 : decode prog_5_method_34_code 30 = .ok (.aload_n 0, 1) := by decide +kernel
theorem d_m_next_31 : decode prog_5_method_34_code 31 = .ok (.aload_n 0, 1) := by decide +kernel
theorem d_m_next_32 : decode prog_5_method_34_code 32 = .ok (.getfield 23, 3) := by decide +kernel
theorem d_m_next_35 : decode prog_5_method_34_code 35 = .ok (.iconst 1, 1) := by decide +kernel
theorem d_m_next_36 : decode prog_5_method_34_code 36 = .ok (.iadd, 1) := by decide +kernel
theorem d_m_next_37 : decode prog_5_method_34_code 37 = .ok (.invokevirtual 99, 3) := by decide +kernel
theorem d_m_next_40 : decode prog_5_method_34_code 40 = .ok (.ifCond .eq 7, 3) := by decide +kernel
theorem d_m_next_43 : decode prog_5_method_34_code 43 = .ok (.iconst 1, 1) := by decide +kernel
theorem d_m_next_44 : decode prog_5_method_34_code 44 = .ok (.goto 4, 3) := by decide +kernel
theorem d_m_next_47 : decode prog_5_method_34_code 47 = .ok (.iconst 0, 1) := by decide +kernel
theorem d_m_next_48 : decode prog_5_method_34_code 48 = .ok (.ireturn, 1) := by decide +kernel
abbrev M_m_key : rsM := (⟨"RunStoreModel", "key", "()I"⟩, prog_5_method_35_code, 1, some .int, [])
theorem d_m_key_0 : decode prog_5_method_35_code 0 = .ok (.aload_n 0, 1) := by decide +kernel
theorem d_m_key_1 : decode prog_5_method_35_code 1 = .ok (.iconst 0, 1) := by decide +kernel
theorem d_m_key_2 : decode prog_5_method_35_code 2 = .ok (.putfield 26, 3) := by decide +kernel
theorem d_m_key_5 : decode prog_5_method_35_code 5 = .ok (.aload_n 0, 1) := by decide +kernel
theorem d_m_key_6 : decode prog_5_method_35_code 6 = .ok (.getfield 23, 3) := by decide +kernel
theorem d_m_key_9 : decode prog_5_method_35_code 9 = .ok (.ireturn, 1) := by decide +kernel
abbrev M_m_value : rsM := (⟨"RunStoreModel", "value", "()I"⟩, prog_5_method_36_code, 1, some .int, [])
theorem d_m_value_0 : decode prog_5_method_36_code 0 = .ok (.aload_n 0, 1) := by decide +kernel
theorem d_m_value_1 : decode prog_5_method_36_code 1 = .ok (.iconst 0, 1) := by decide +kernel
theorem d_m_value_2 : decode prog_5_method_36_code 2 = .ok (.putfield 26, 3) := by decide +kernel
theorem d_m_value_5 : decode prog_5_method_36_code 5 = .ok (.aload_n 0, 1) := by decide +kernel
theorem d_m_value_6 : decode prog_5_method_36_code 6 = .ok (.getfield 23, 3) := by decide +kernel
theorem d_m_value_9 : decode prog_5_method_36_code 9 = .ok (.ifCond .ge 7, 3) := by decide +kernel
theorem d_m_value_12 : decode prog_5_method_36_code 12 = .ok (.iconst 0, 1) := by decide +kernel
theorem d_m_value_13 : decode prog_5_method_36_code 13 = .ok (.goto 24, 3) := by decide +kernel
theorem d_m_value_16 : decode prog_5_method_36_code 16 = .ok (.aload_n 0, 1) := by decide +kernel
theorem d_m_value_17 : decode prog_5_method_36_code 17 = .ok (.getfield 20, 3) := by decide +kernel
theorem d_m_value_20 : decode prog_5_method_36_code 20 = .ok (.bipush 100, 2) := by decide +kernel
theorem d_m_value_22 : decode prog_5_method_36_code 22 = .ok (.aload_n 0, 1) := by decide +kernel
theorem d_m_value_23 : decode prog_5_method_36_code 23 = .ok (.aload_n 0, 1) := by decide +kernel
theorem d_m_value_24 : decode prog_5_method_36_code 24 = .ok (.getfield 23, 3) := by decide +kernel
theorem d_m_value_27 : decode prog_5_method_36_code 27 = .ok (.invokevirtual 39, 3) := by decide +kernel
theorem d_m_value_30 : decode prog_5_method_36_code 30 = .ok (.imul, 1) := by decide +kernel
theorem d_m_value_31 : decode prog_5_method_36_code 31 = .ok (.aload_n 0, 1) := by decide +kernel
theorem d_m_value_32 : decode prog_5_method_36_code 32 = .ok (.getfield 23, 3) := by decide +kernel
theorem d_m_value_35 : decode prog_5_method_36_code 35 = .ok (.iadd, 1) := by decide +kernel
theorem d_m_value_36 : decode prog_5_method_36_code 36 = .ok (.iaload, 1) := by decide +kernel
theorem d_m_value_37 : decode prog_5_method_36_code 37 = .ok (.ireturn, 1) := by decide +kernel
abbrev M_m_size : rsM := (⟨"RunStoreModel", "size", "()I"⟩, prog_5_method_37_code, 3, some .int, [])
theorem d_m_size_0 : decode prog_5_method_37_code 0 = .ok (.aload_n 0, 1) := by decide +kernel
theorem d_m_size_1 : decode prog_5_method_37_code 1 = .ok (.aload_n 0, 1) := by decide +kernel
theorem d_m_size_2 : decode prog_5_method_37_code 2 = .ok (.getfield 42, 3) := by decide +kernel
theorem d_m_size_5 : decode prog_5_method_37_code 5 = .ok (.ifCond .eq 7, 3) := by decide +kernel
theorem d_m_size_8 : decode prog_5_method_37_code 8 = .ok (.iconst 0, 1) := by decide +kernel
theorem d_m_size_9 : decode prog_5_method_37_code 9 = .ok (.goto 4, 3) := by decide +kernel
theorem d_m_size_12 : decode prog_5_method_37_code 12 = .ok (.iconst 1, 1) := by decide +kernel
theorem d_m_size_13 : decode prog_5_method_37_code 13 = .ok (.putfield 26, 3) := by decide +kernel
theorem d_m_size_16 : decode prog_5_method_37_code 16 = .ok (.iconst 0, 1) := by decide +kernel
theorem d_m_size_17 : decode prog_5_method_37_code 17 = .ok (.istore_n 1, 1) := by decide +kernel
theorem d_m_size_18 : decode prog_5_method_37_code 18 = .ok (.iconst 0, 1) := by decide +kernel
theorem d_m_size_19 : decode prog_5_method_37_code 19 = .ok (.istore_n 2, 1) := by decide +kernel
theorem d_m_size_20 : decode prog_5_method_37_code 20 = .ok (.iload_n 2, 1) := by decide +kernel
theorem d_m_size_21 : decode prog_5_method_37_code 21 = .ok (.bipush 100, 2) := by decide +kernel
theorem d_m_size_23 : decode prog_5_method_37_code 23 = .ok (.if_icmp .ge 32, 3) := by decide +kernel
theorem d_m_size_26 : decode prog_5_method_37_code 26 = .ok (.aload_n 0, 1) := by decide +kernel
theorem d_m_size_27 : decode prog_5_method_37_code 27 = .ok (.getfield 26, 3) := by decide +kernel
theorem d_m_size_30 : decode prog_5_method_37_code 30 = .ok (.ifCond .ne 25, 3) := by decide +kernel
theorem d_m_size_33 : decode prog_5_method_37_code 33 = .ok (.iload_n 1, 1) := by decide +kernel
theorem d_m_size_34 : decode prog_5_method_37_code 34 = .ok (.aload_n 0, 1) := by decide +kernel
theorem d_m_size_35 : decode prog_5_method_37_code 35 = .ok (.iload_n 2, 1) := by decide +kernel
theorem d_m_size_36 : decode prog_5_method_37_code 36 = .ok (.invokevirtual 90, 3) := by decide +kernel
theorem d_m_size_39 : decode prog_5_method_37_code 39 = .ok (.ifCond .eq 7, 3) := by decide +kernel
theorem d_m_size_42 : decode prog_5_method_37_code 42 = .ok (.iconst 1, 1) := by decide +kernel
theorem d_m_size_43 : decode prog_5_method_37_code 43 = .ok (.goto 4, 3) := by decide +kernel
theorem d_m_size_46 : decode prog_5_method_37_code 46 = .ok (.iconst 0, 1) := by decide +kernel
theorem d_m_size_47 : decode prog_5_method_37_code 47 = .ok (.iadd, 1) := by decide +kernel
theorem d_m_size_48 : decode prog_5_method_37_code 48 = .ok (.istore_n 1, 1) := by decide +kernel
theorem d_m_size_49 : decode prog_5_method_37_code 49 = .ok (.iinc 2 1, 3) := by decide +kernel
theorem d_m_size_52 : decode prog_5_method_37_code 52 = .ok (.goto (-32), 3) := by decide +kernel
theorem d_m_size_55 : decode prog_5_method_37_code 55 = .ok (.iload_n 1, 1) := by decide +kernel
theorem d_m_size_56 : decode prog_5_method_37_code 56 = .ok (.ireturn, 1) := by decide +kernel
abbrev M_m_memory : rsM := (⟨"RunStoreModel", "memory", "()I"⟩, prog_5_method_38_code, 1, some .int, [])
theorem d_m_memory_0 : decode prog_5_method_38_code 0 = .ok (.aload_n 0, 1) := by decide +kernel
theorem d_m_memory_1 : decode prog_5_method_38_code 1 = .ok (.iconst 0, 1) := by decide +kernel
theorem d_m_memory_2 : decode prog_5_method_38_code 2 = .ok (.putfield 26, 3) := by decide +kernel
theorem d_m_memory_5 : decode prog_5_method_38_code 5 = .ok (.aload_n 0, 1) := by decide +kernel
theorem d_m_memory_6 : decode prog_5_method_38_code 6 = .ok (.getfield 42, 3) := by decide +kernel
theorem d_m_memory_9 : decode prog_5_method_38_code 9 = .ok (.ifCond .eq 12, 3) := by decide +kernel
theorem d_m_memory_12 : decode prog_5_method_38_code 12 = .ok (.aload_n 0, 1) := by decide +kernel
theorem d_m_memory_13 : decode prog_5_method_38_code 13 = .ok (.bipush 12, 2) := by decide +kernel
theorem d_m_memory_15 : decode prog_5_method_38_code 15 = .ok (.invokevirtual 32, 3) := by decide +kernel
theorem d_m_memory_18 : decode prog_5_method_38_code 18 = .ok (.goto 4, 3) := by decide +kernel
theorem d_m_memory_21 : decode prog_5_method_38_code 21 = .ok (.iconst (-1), 1) := by decide +kernel
theorem d_m_memory_22 : decode prog_5_method_38_code 22 = .ok (.ireturn, 1) := by decide +kernel
abbrev M_m_runs : rsM := (⟨"RunStoreModel", "runs", "(I)I"⟩, prog_5_method_39_code, 2, some .int, [])
theorem d_m_runs_0 : decode prog_5_method_39_code 0 = .ok (.aload_n 0, 1) := by decide +kernel
theorem d_m_runs_1 : decode prog_5_method_39_code 1 = .ok (.iload_n 1, 1) := by decide +kernel
theorem d_m_runs_2 : decode prog_5_method_39_code 2 = .ok (.invokestatic 96, 3) := by decide +kernel
theorem d_m_runs_5 : decode prog_5_method_39_code 5 = .ok (.ifCond .ne 7, 3) := by decide +kernel
theorem d_m_runs_8 : decode prog_5_method_39_code 8 = .ok (.iconst 1, 1) := by decide +kernel
theorem d_m_runs_9 : decode prog_5_method_39_code 9 = .ok (.goto 15, 3) := by decide +kernel
theorem d_m_runs_12 : decode prog_5_method_39_code 12 = .ok (.aload_n 0, 1) := by decide +kernel
theorem d_m_runs_13 : decode prog_5_method_39_code 13 = .ok (.getfield 42, 3) := by decide +kernel
theorem d_m_runs_16 : decode prog_5_method_39_code 16 = .ok (.ifCond .ne 7, 3) := by decide +kernel
theorem d_m_runs_19 : decode prog_5_method_39_code 19 = .ok (.iconst 2, 1) := by decide +kernel
theorem d_m_runs_20 : decode prog_5_method_39_code 20 = .ok (.goto 4, 3) := by decide +kernel
theorem d_m_runs_23 : decode prog_5_method_39_code 23 = .ok (.iconst 0, 1) := by decide +kernel
theorem d_m_runs_24 : decode prog_5_method_39_code 24 = .ok (.putfield 26, 3) := by decide +kernel
theorem d_m_runs_27 : decode prog_5_method_39_code 27 = .ok (.aload_n 0, 1) := by decide +kernel
theorem d_m_runs_28 : decode prog_5_method_39_code 28 = .ok (.getfield 26, 3) := by decide +kernel
theorem d_m_runs_31 : decode prog_5_method_39_code 31 = .ok (.ifCond .ne 11, 3) := by decide +kernel
theorem d_m_runs_34 : decode prog_5_method_39_code 34 = .ok (.aload_n 0, 1) := by decide +kernel
theorem d_m_runs_35 : decode prog_5_method_39_code 35 = .ok (.iload_n 1, 1) := by decide +kernel
theorem d_m_runs_36 : decode prog_5_method_39_code 36 = .ok (.invokevirtual 71, 3) := by decide +kernel
theorem d_m_runs_39 : decode prog_5_method_39_code 39 = .ok (.goto 4, 3) := by decide +kernel
theorem d_m_runs_42 : decode prog_5_method_39_code 42 = .ok (.iconst 0, 1) := by decide +kernel
theorem d_m_runs_43 : decode prog_5_method_39_code 43 = .ok (.ireturn, 1) := by decide +kernel
abbrev M_m_entries : rsM := (⟨"RunStoreModel", "entries", "(II)I"⟩, prog_5_method_40_code, 3, some .int, [])
theorem d_m_entries_0 : decode prog_5_method_40_code 0 = .ok (.aload_n 0, 1) := by decide +kernel
theorem d_m_entries_1 : decode prog_5_method_40_code 1 = .ok (.aload_n 0, 1) := by decide +kernel
theorem d_m_entries_2 : decode prog_5_method_40_code 2 = .ok (.getfield 42, 3) := by decide +kernel
theorem d_m_entries_5 : decode prog_5_method_40_code 5 = .ok (.ifCond .ne 7, 3) := by decide +kernel
theorem d_m_entries_8 : decode prog_5_method_40_code 8 = .ok (.iconst 1, 1) := by decide +kernel
theorem d_m_entries_9 : decode prog_5_method_40_code 9 = .ok (.goto 28, 3) := by decide +kernel
theorem d_m_entries_12 : decode prog_5_method_40_code 12 = .ok (.iload_n 1, 1) := by decide +kernel
theorem d_m_entries_13 : decode prog_5_method_40_code 13 = .ok (.invokestatic 96, 3) := by decide +kernel
theorem d_m_entries_16 : decode prog_5_method_40_code 16 = .ok (.ifCond .eq 16, 3) := by decide +kernel
theorem d_m_entries_19 : decode prog_5_method_40_code 19 = .ok (.iload_n 2, 1) := by decide +kernel
theorem d_m_entries_20 : decode prog_5_method_40_code 20 = .ok (.ifCond .lt 12, 3) := by decide +kernel
theorem d_m_entries_23 : decode prog_5_method_40_code 23 = .ok (.iload_n 2, 1) := by decide +kernel
theorem d_m_entries_24 : decode prog_5_method_40_code 24 = .ok (.aload_n 0, 1) := by decide +kernel
theorem d_m_entries_25 : decode prog_5_method_40_code 25 = .ok (.iload_n 1, 1) := by decide +kernel
theorem d_m_entries_26 : decode prog_5_method_40_code 26 = .ok (.invokevirtual 71, 3) := by decide +kernel
theorem d_m_entries_29 : decode prog_5_method_40_code 29 = .ok (.if_icmp .lt 7, 3) := by decide +kernel
theorem d_m_entries_32 : decode prog_5_method_40_code 32 = .ok (.iconst 2, 1) := by decide +kernel
theorem d_m_entries_33 : decode prog_5_method_40_code 33 = .ok (.goto 4, 3) := by decide +kernel
theorem d_m_entries_36 : decode prog_5_method_40_code 36 = .ok (.iconst 0, 1) := by decide +kernel
theorem d_m_entries_37 : decode prog_5_method_40_code 37 = .ok (.putfield 26, 3) := by decide +kernel
theorem d_m_entries_40 : decode prog_5_method_40_code 40 = .ok (.aload_n 0, 1) := by decide +kernel
theorem d_m_entries_41 : decode prog_5_method_40_code 41 = .ok (.getfield 26, 3) := by decide +kernel
theorem d_m_entries_44 : decode prog_5_method_40_code 44 = .ok (.ifCond .ne 17, 3) := by decide +kernel
theorem d_m_entries_47 : decode prog_5_method_40_code 47 = .ok (.aload_n 0, 1) := by decide +kernel
theorem d_m_entries_48 : decode prog_5_method_40_code 48 = .ok (.aload_n 0, 1) := by decide +kernel
theorem d_m_entries_49 : decode prog_5_method_40_code 49 = .ok (.iload_n 1, 1) := by decide +kernel
theorem d_m_entries_50 : decode prog_5_method_40_code 50 = .ok (.invokevirtual 68, 3) := by decide +kernel
theorem d_m_entries_53 : decode prog_5_method_40_code 53 = .ok (.iload_n 2, 1) := by decide +kernel
theorem d_m_entries_54 : decode prog_5_method_40_code 54 = .ok (.iadd, 1) := by decide +kernel
theorem d_m_entries_55 : decode prog_5_method_40_code 55 = .ok (.invokevirtual 32, 3) := by decide +kernel
theorem d_m_entries_58 : decode prog_5_method_40_code 58 = .ok (.goto 4, 3) := by decide +kernel
theorem d_m_entries_61 : decode prog_5_method_40_code 61 = .ok (.iconst 0, 1) := by decide +kernel
theorem d_m_entries_62 : decode prog_5_method_40_code 62 = .ok (.ireturn, 1) := by decide +kernel
abbrev M_m_room : rsM := (⟨"RunStoreModel", "room", "()I"⟩, prog_5_method_41_code, 1, some .int, [])
theorem d_m_room_0 : decode prog_5_method_41_code 0 = .ok (.aload_n 0, 1) := by decide +kernel
theorem d_m_room_1 : decode prog_5_method_41_code 1 = .ok (.aload_n 0, 1) := by decide +kernel
theorem d_m_room_2 : decode prog_5_method_41_code 2 = .ok (.getfield 42, 3) := by decide +kernel
theorem d_m_room_5 : decode prog_5_method_41_code 5 = .ok (.ifCond .eq 7, 3) := by decide +kernel
theorem d_m_room_8 : decode prog_5_method_41_code 8 = .ok (.iconst 0, 1) := by decide +kernel
theorem d_m_room_9 : decode prog_5_method_41_code 9 = .ok (.goto 4, 3) := by decide +kernel
theorem d_m_room_12 : decode prog_5_method_41_code 12 = .ok (.iconst 1, 1) := by decide +kernel
theorem d_m_room_13 : decode prog_5_method_41_code 13 = .ok (.putfield 26, 3) := by decide +kernel
theorem d_m_room_16 : decode prog_5_method_41_code 16 = .ok (.aload_n 0, 1) := by decide +kernel
theorem d_m_room_17 : decode prog_5_method_41_code 17 = .ok (.getfield 26, 3) := by decide +kernel
theorem d_m_room_20 : decode prog_5_method_41_code 20 = .ok (.ifCond .ne 10, 3) := by decide +kernel
theorem d_m_room_23 : decode prog_5_method_41_code 23 = .ok (.aload_n 0, 1) := by decide +kernel
theorem d_m_room_24 : decode prog_5_method_41_code 24 = .ok (.invokevirtual 57, 3) := by decide +kernel
theorem d_m_room_27 : decode prog_5_method_41_code 27 = .ok (.goto 4, 3) := by decide +kernel
theorem d_m_room_30 : decode prog_5_method_41_code 30 = .ok (.iconst 0, 1) := by decide +kernel
theorem d_m_room_31 : decode prog_5_method_41_code 31 = .ok (.ireturn, 1) := by decide +kernel
