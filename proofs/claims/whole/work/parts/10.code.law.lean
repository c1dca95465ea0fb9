/-! 10.code.law: methods and what stands at each place of their code (written by gen_code.py) -/
abbrev M_l_format : rsM := (⟨"RunStoreLaw", "format", "(LRunStore;)I"⟩, method_3_code, 2, some .int, [(0, 4, 7, 12)])
theorem d_l_format_0 : decode method_3_code 0 = .ok (.aload_n 0, 1) := by decide +kernel
theorem d_l_format_1 : decode method_3_code 1 = .ok (.invokevirtual 7, 3) := by decide +kernel
theorem d_l_format_4 : decode method_3_code 4 = .ok (.goto 6, 3) := by decide +kernel
theorem d_l_format_7 : decode method_3_code 7 = .ok (.astore_n 1, 1) := by decide +kernel
theorem d_l_format_8 : decode method_3_code 8 = .ok (.iconst 1, 1) := by decide +kernel
theorem d_l_format_9 : decode method_3_code 9 = .ok (.ireturn, 1) := by decide +kernel
theorem d_l_format_10 : decode method_3_code 10 = .ok (.iconst 0, 1) := by decide +kernel
theorem d_l_format_11 : decode method_3_code 11 = .ok (.ireturn, 1) := by decide +kernel
abbrev M_l_recover : rsM := (⟨"RunStoreLaw", "recover", "(LRunStore;[J)I"⟩, method_4_code, 3, some .int, [(0, 8, 11, 12)])
theorem d_l_recover_0 : decode method_4_code 0 = .ok (.aload_n 1, 1) := by decide +kernel
theorem d_l_recover_1 : decode method_4_code 1 = .ok (.iconst 0, 1) := by decide +kernel
theorem d_l_recover_2 : decode method_4_code 2 = .ok (.aload_n 0, 1) := by decide +kernel
theorem d_l_recover_3 : decode method_4_code 3 = .ok (.invokevirtual 14, 3) := by decide +kernel
theorem d_l_recover_6 : decode method_4_code 6 = .ok (.i2l, 1) := by decide +kernel
theorem d_l_recover_7 : decode method_4_code 7 = .ok (.lastore, 1) := by decide +kernel
theorem d_l_recover_8 : decode method_4_code 8 = .ok (.goto 6, 3) := by decide +kernel
theorem d_l_recover_11 : decode method_4_code 11 = .ok (.astore_n 2, 1) := by decide +kernel
theorem d_l_recover_12 : decode method_4_code 12 = .ok (.iconst 1, 1) := by decide +kernel
theorem d_l_recover_13 : decode method_4_code 13 = .ok (.ireturn, 1) := by decide +kernel
theorem d_l_recover_14 : decode method_4_code 14 = .ok (.iconst 0, 1) := by decide +kernel
theorem d_l_recover_15 : decode method_4_code 15 = .ok (.ireturn, 1) := by decide +kernel
abbrev M_l_put : rsM := (⟨"RunStoreLaw", "put", "(LRunStore;II[J)I"⟩, method_5_code, 5, some .int, [(0, 10, 13, 22), (0, 10, 17, 12), (0, 10, 21, 24)])
theorem d_l_put_0 : decode method_5_code 0 = .ok (.aload_n 3, 1) := by decide +kernel
theorem d_l_put_1 : decode method_5_code 1 = .ok (.iconst 0, 1) := by decide +kernel
theorem d_l_put_2 : decode method_5_code 2 = .ok (.aload_n 0, 1) := by decide +kernel
theorem d_l_put_3 : decode method_5_code 3 = .ok (.iload_n 1, 1) := by decide +kernel
theorem d_l_put_4 : decode method_5_code 4 = .ok (.iload_n 2, 1) := by decide +kernel
theorem d_l_put_5 : decode method_5_code 5 = .ok (.invokevirtual 18, 3) := by decide +kernel
theorem d_l_put_8 : decode method_5_code 8 = .ok (.i2l, 1) := by decide +kernel
theorem d_l_put_9 : decode method_5_code 9 = .ok (.lastore, 1) := by decide +kernel
theorem d_l_put_10 : decode method_5_code 10 = .ok (.goto 15, 3) := by decide +kernel
theorem d_l_put_13 : decode method_5_code 13 = .ok (.astore 4, 2) := by decide +kernel
theorem d_l_put_15 : decode method_5_code 15 = .ok (.iconst 1, 1) := by decide +kernel
theorem d_l_put_16 : decode method_5_code 16 = .ok (.ireturn, 1) := by decide +kernel
theorem d_l_put_17 : decode method_5_code 17 = .ok (.astore 4, 2) := by decide +kernel
theorem d_l_put_19 : decode method_5_code 19 = .ok (.iconst 2, 1) := by decide +kernel
theorem d_l_put_20 : decode method_5_code 20 = .ok (.ireturn, 1) := by decide +kernel
theorem d_l_put_21 : decode method_5_code 21 = .ok (.astore 4, 2) := by decide +kernel
theorem d_l_put_23 : decode method_5_code 23 = .ok (.iconst 3, 1) := by decide +kernel
theorem d_l_put_24 : decode method_5_code 24 = .ok (.ireturn, 1) := by decide +kernel
theorem d_l_put_25 : decode method_5_code 25 = .ok (.iconst 0, 1) := by decide +kernel
theorem d_l_put_26 : decode method_5_code 26 = .ok (.ireturn, 1) := by decide +kernel
abbrev M_l_remove : rsM := (⟨"RunStoreLaw", "remove", "(LRunStore;I[J)I"⟩, method_6_code, 4, some .int, [(0, 16, 19, 22), (0, 16, 22, 12), (0, 16, 25, 24)])
theorem d_l_remove_0 : decode method_6_code 0 = .ok (.aload_n 2, 1) := by decide +kernel
theorem d_l_remove_1 : decode method_6_code 1 = .ok (.iconst 0, 1) := by decide +kernel
theorem d_l_remove_2 : decode method_6_code 2 = .ok (.aload_n 0, 1) := by decide +kernel
theorem d_l_remove_3 : decode method_6_code 3 = .ok (.iload_n 1, 1) := by decide +kernel
theorem d_l_remove_4 : decode method_6_code 4 = .ok (.invokevirtual 26, 3) := by decide +kernel
theorem d_l_remove_7 : decode method_6_code 7 = .ok (.ifCond .eq 7, 3) := by decide +kernel
theorem d_l_remove_10 : decode method_6_code 10 = .ok (.lconst 1, 1) := by decide +kernel
theorem d_l_remove_11 : decode method_6_code 11 = .ok (.goto 4, 3) := by decide +kernel
theorem d_l_remove_14 : decode method_6_code 14 = .ok (.lconst 0, 1) := by decide +kernel
theorem d_l_remove_15 : decode method_6_code 15 = .ok (.lastore, 1) := by decide +kernel
theorem d_l_remove_16 : decode method_6_code 16 = .ok (.goto 12, 3) := by decide +kernel
theorem d_l_remove_19 : decode method_6_code 19 = .ok (.astore_n 3, 1) := by decide +kernel
theorem d_l_remove_20 : decode method_6_code 20 = .ok (.iconst 1, 1) := by decide +kernel
theorem d_l_remove_21 : decode method_6_code 21 = .ok (.ireturn, 1) := by decide +kernel
theorem d_l_remove_22 : decode method_6_code 22 = .ok (.astore_n 3, 1) := by decide +kernel
theorem d_l_remove_23 : decode method_6_code 23 = .ok (.iconst 2, 1) := by decide +kernel
theorem d_l_remove_24 : decode method_6_code 24 = .ok (.ireturn, 1) := by decide +kernel
theorem d_l_remove_25 : decode method_6_code 25 = .ok (.astore_n 3, 1) := by decide +kernel
theorem d_l_remove_26 : decode method_6_code 26 = .ok (.iconst 3, 1) := by decide +kernel
theorem d_l_remove_27 : decode method_6_code 27 = .ok (.ireturn, 1) := by decide +kernel
theorem d_l_remove_28 : decode method_6_code 28 = .ok (.iconst 0, 1) := by decide +kernel
theorem d_l_remove_29 : decode method_6_code 29 = .ok (.ireturn, 1) := by decide +kernel
abbrev M_l_get : rsM := (⟨"RunStoreLaw", "get", "(LRunStore;I[J)I"⟩, method_7_code, 4, some .int, [(0, 9, 12, 22), (0, 9, 15, 12), (0, 9, 18, 34)])
theorem d_l_get_0 : decode method_7_code 0 = .ok (.aload_n 2, 1) := by decide +kernel
theorem d_l_get_1 : decode method_7_code 1 = .ok (.iconst 0, 1) := by decide +kernel
theorem d_l_get_2 : decode method_7_code 2 = .ok (.aload_n 0, 1) := by decide +kernel
theorem d_l_get_3 : decode method_7_code 3 = .ok (.iload_n 1, 1) := by decide +kernel
theorem d_l_get_4 : decode method_7_code 4 = .ok (.invokevirtual 30, 3) := by decide +kernel
theorem d_l_get_7 : decode method_7_code 7 = .ok (.i2l, 1) := by decide +kernel
theorem d_l_get_8 : decode method_7_code 8 = .ok (.lastore, 1) := by decide +kernel
theorem d_l_get_9 : decode method_7_code 9 = .ok (.goto 12, 3) := by decide +kernel
theorem d_l_get_12 : decode method_7_code 12 = .ok (.astore_n 3, 1) := by decide +kernel
theorem d_l_get_13 : decode method_7_code 13 = .ok (.iconst 1, 1) := by decide +kernel
theorem d_l_get_14 : decode method_7_code 14 = .ok (.ireturn, 1) := by decide +kernel
theorem d_l_get_15 : decode method_7_code 15 = .ok (.astore_n 3, 1) := by decide +kernel
theorem d_l_get_16 : decode method_7_code 16 = .ok (.iconst 2, 1) := by decide +kernel
theorem d_l_get_17 : decode method_7_code 17 = .ok (.ireturn, 1) := by decide +kernel
theorem d_l_get_18 : decode method_7_code 18 = .ok (.astore_n 3, 1) := by decide +kernel
theorem d_l_get_19 : decode method_7_code 19 = .ok (.iconst 3, 1) := by decide +kernel
theorem d_l_get_20 : decode method_7_code 20 = .ok (.ireturn, 1) := by decide +kernel
theorem d_l_get_21 : decode method_7_code 21 = .ok (.iconst 0, 1) := by decide +kernel
theorem d_l_get_22 : decode method_7_code 22 = .ok (.ireturn, 1) := by decide +kernel
abbrev M_l_has : rsM := (⟨"RunStoreLaw", "has", "(LRunStore;I[J)I"⟩, method_8_code, 4, some .int, [(0, 16, 19, 22), (0, 16, 22, 12)])
theorem d_l_has_0 : decode method_8_code 0 = .ok (.aload_n 2, 1) := by decide +kernel
theorem d_l_has_1 : decode method_8_code 1 = .ok (.iconst 0, 1) := by decide +kernel
theorem d_l_has_2 : decode method_8_code 2 = .ok (.aload_n 0, 1) := by decide +kernel
theorem d_l_has_3 : decode method_8_code 3 = .ok (.iload_n 1, 1) := by decide +kernel
theorem d_l_has_4 : decode method_8_code 4 = .ok (.invokevirtual 36, 3) := by decide +kernel
theorem d_l_has_7 : decode method_8_code 7 = .ok (.ifCond .eq 7, 3) := by decide +kernel
theorem d_l_has_10 : decode method_8_code 10 = .ok (.lconst 1, 1) := by decide +kernel
theorem d_l_has_11 : decode method_8_code 11 = .ok (.goto 4, 3) := by decide +kernel
theorem d_l_has_14 : decode method_8_code 14 = .ok (.lconst 0, 1) := by decide +kernel
theorem d_l_has_15 : decode method_8_code 15 = .ok (.lastore, 1) := by decide +kernel
theorem d_l_has_16 : decode method_8_code 16 = .ok (.goto 9, 3) := by decide +kernel
theorem d_l_has_19 : decode method_8_code 19 = .ok (.astore_n 3, 1) := by decide +kernel
theorem d_l_has_20 : decode method_8_code 20 = .ok (.iconst 1, 1) := by decide +kernel
theorem d_l_has_21 : decode method_8_code 21 = .ok (.ireturn, 1) := by decide +kernel
theorem d_l_has_22 : decode method_8_code 22 = .ok (.astore_n 3, 1) := by decide +kernel
theorem d_l_has_23 : decode method_8_code 23 = .ok (.iconst 2, 1) := by decide +kernel
theorem d_l_has_24 : decode method_8_code 24 = .ok (.ireturn, 1) := by decide +kernel
theorem d_l_has_25 : decode method_8_code 25 = .ok (.iconst 0, 1) := by decide +kernel
theorem d_l_has_26 : decode method_8_code 26 = .ok (.ireturn, 1) := by decide +kernel
abbrev M_l_flush : rsM := (⟨"RunStoreLaw", "flush", "(LRunStore;[J)I"⟩, method_9_code, 3, some .int, [(0, 8, 11, 12), (0, 8, 14, 24)])
theorem d_l_flush_0 : decode method_9_code 0 = .ok (.aload_n 1, 1) := by decide +kernel
theorem d_l_flush_1 : decode method_9_code 1 = .ok (.iconst 0, 1) := by decide +kernel
theorem d_l_flush_2 : decode method_9_code 2 = .ok (.aload_n 0, 1) := by decide +kernel
theorem d_l_flush_3 : decode method_9_code 3 = .ok (.invokevirtual 39, 3) := by decide +kernel
theorem d_l_flush_6 : decode method_9_code 6 = .ok (.i2l, 1) := by decide +kernel
theorem d_l_flush_7 : decode method_9_code 7 = .ok (.lastore, 1) := by decide +kernel
theorem d_l_flush_8 : decode method_9_code 8 = .ok (.goto 9, 3) := by decide +kernel
theorem d_l_flush_11 : decode method_9_code 11 = .ok (.astore_n 2, 1) := by decide +kernel
theorem d_l_flush_12 : decode method_9_code 12 = .ok (.iconst 1, 1) := by decide +kernel
theorem d_l_flush_13 : decode method_9_code 13 = .ok (.ireturn, 1) := by decide +kernel
theorem d_l_flush_14 : decode method_9_code 14 = .ok (.astore_n 2, 1) := by decide +kernel
theorem d_l_flush_15 : decode method_9_code 15 = .ok (.iconst 2, 1) := by decide +kernel
theorem d_l_flush_16 : decode method_9_code 16 = .ok (.ireturn, 1) := by decide +kernel
theorem d_l_flush_17 : decode method_9_code 17 = .ok (.iconst 0, 1) := by decide +kernel
theorem d_l_flush_18 : decode method_9_code 18 = .ok (.ireturn, 1) := by decide +kernel
abbrev M_l_compact : rsM := (⟨"RunStoreLaw", "compact", "(LRunStore;[J)I"⟩, method_10_code, 3, some .int, [(0, 8, 11, 12), (0, 8, 14, 24)])
theorem d_l_compact_0 : decode method_10_code 0 = .ok (.aload_n 1, 1) := by decide +kernel
theorem d_l_compact_1 : decode method_10_code 1 = .ok (.iconst 0, 1) := by decide +kernel
theorem d_l_compact_2 : decode method_10_code 2 = .ok (.aload_n 0, 1) := by decide +kernel
theorem d_l_compact_3 : decode method_10_code 3 = .ok (.invokevirtual 42, 3) := by decide +kernel
theorem d_l_compact_6 : decode method_10_code 6 = .ok (.i2l, 1) := by decide +kernel
theorem d_l_compact_7 : decode method_10_code 7 = .ok (.lastore, 1) := by decide +kernel
theorem d_l_compact_8 : decode method_10_code 8 = .ok (.goto 9, 3) := by decide +kernel
theorem d_l_compact_11 : decode method_10_code 11 = .ok (.astore_n 2, 1) := by decide +kernel
theorem d_l_compact_12 : decode method_10_code 12 = .ok (.iconst 1, 1) := by decide +kernel
theorem d_l_compact_13 : decode method_10_code 13 = .ok (.ireturn, 1) := by decide +kernel
theorem d_l_compact_14 : decode method_10_code 14 = .ok (.astore_n 2, 1) := by decide +kernel
theorem d_l_compact_15 : decode method_10_code 15 = .ok (.iconst 2, 1) := by decide +kernel
theorem d_l_compact_16 : decode method_10_code 16 = .ok (.ireturn, 1) := by decide +kernel
theorem d_l_compact_17 : decode method_10_code 17 = .ok (.iconst 0, 1) := by decide +kernel
theorem d_l_compact_18 : decode method_10_code 18 = .ok (.ireturn, 1) := by decide +kernel
abbrev M_l_merge : rsM := (⟨"RunStoreLaw", "merge", "(LRunStore;I[J)I"⟩, method_11_code, 4, some .int, [(0, 9, 12, 22), (0, 9, 15, 12), (0, 9, 18, 24)])
theorem d_l_merge_0 : decode method_11_code 0 = .ok (.aload_n 2, 1) := by decide +kernel
theorem d_l_merge_1 : decode method_11_code 1 = .ok (.iconst 0, 1) := by decide +kernel
theorem d_l_merge_2 : decode method_11_code 2 = .ok (.aload_n 0, 1) := by decide +kernel
theorem d_l_merge_3 : decode method_11_code 3 = .ok (.iload_n 1, 1) := by decide +kernel
theorem d_l_merge_4 : decode method_11_code 4 = .ok (.invokevirtual 45, 3) := by decide +kernel
theorem d_l_merge_7 : decode method_11_code 7 = .ok (.i2l, 1) := by decide +kernel
theorem d_l_merge_8 : decode method_11_code 8 = .ok (.lastore, 1) := by decide +kernel
theorem d_l_merge_9 : decode method_11_code 9 = .ok (.goto 12, 3) := by decide +kernel
theorem d_l_merge_12 : decode method_11_code 12 = .ok (.astore_n 3, 1) := by decide +kernel
theorem d_l_merge_13 : decode method_11_code 13 = .ok (.iconst 1, 1) := by decide +kernel
theorem d_l_merge_14 : decode method_11_code 14 = .ok (.ireturn, 1) := by decide +kernel
theorem d_l_merge_15 : decode method_11_code 15 = .ok (.astore_n 3, 1) := by decide +kernel
theorem d_l_merge_16 : decode method_11_code 16 = .ok (.iconst 2, 1) := by decide +kernel
theorem d_l_merge_17 : decode method_11_code 17 = .ok (.ireturn, 1) := by decide +kernel
theorem d_l_merge_18 : decode method_11_code 18 = .ok (.astore_n 3, 1) := by decide +kernel
theorem d_l_merge_19 : decode method_11_code 19 = .ok (.iconst 3, 1) := by decide +kernel
theorem d_l_merge_20 : decode method_11_code 20 = .ok (.ireturn, 1) := by decide +kernel
theorem d_l_merge_21 : decode method_11_code 21 = .ok (.iconst 0, 1) := by decide +kernel
theorem d_l_merge_22 : decode method_11_code 22 = .ok (.ireturn, 1) := by decide +kernel
abbrev M_l_limit : rsM := (⟨"RunStoreLaw", "limit", "(LRunStore;I)I"⟩, method_12_code, 3, some .int, [(0, 5, 8, 22), (0, 5, 11, 12)])
theorem d_l_limit_0 : decode method_12_code 0 = .ok (.aload_n 0, 1) := by decide +kernel
theorem d_l_limit_1 : decode method_12_code 1 = .ok (.iload_n 1, 1) := by decide +kernel
theorem d_l_limit_2 : decode method_12_code 2 = .ok (.invokevirtual 48, 3) := by decide +kernel
theorem d_l_limit_5 : decode method_12_code 5 = .ok (.goto 9, 3) := by decide +kernel
theorem d_l_limit_8 : decode method_12_code 8 = .ok (.astore_n 2, 1) := by decide +kernel
theorem d_l_limit_9 : decode method_12_code 9 = .ok (.iconst 1, 1) := by decide +kernel
theorem d_l_limit_10 : decode method_12_code 10 = .ok (.ireturn, 1) := by decide +kernel
theorem d_l_limit_11 : decode method_12_code 11 = .ok (.astore_n 2, 1) := by decide +kernel
theorem d_l_limit_12 : decode method_12_code 12 = .ok (.iconst 2, 1) := by decide +kernel
theorem d_l_limit_13 : decode method_12_code 13 = .ok (.ireturn, 1) := by decide +kernel
theorem d_l_limit_14 : decode method_12_code 14 = .ok (.iconst 0, 1) := by decide +kernel
theorem d_l_limit_15 : decode method_12_code 15 = .ok (.ireturn, 1) := by decide +kernel
abbrev M_l_seek : rsM := (⟨"RunStoreLaw", "seek", "(LRunStore;I[J)I"⟩, method_13_code, 4, some .int, [(0, 16, 19, 22), (0, 16, 22, 12)])
theorem d_l_seek_0 : decode method_13_code 0 = .ok (.aload_n 2, 1) := by decide +kernel
theorem d_l_seek_1 : decode method_13_code 1 = .ok (.iconst 0, 1) := by decide +kernel
theorem d_l_seek_2 : decode method_13_code 2 = .ok (.aload_n 0, 1) := by decide +kernel
theorem d_l_seek_3 : decode method_13_code 3 = .ok (.iload_n 1, 1) := by decide +kernel
theorem d_l_seek_4 : decode method_13_code 4 = .ok (.invokevirtual 52, 3) := by decide +kernel
theorem d_l_seek_7 : decode method_13_code 7 = .ok (.ifCond .eq 7, 3) := by decide +kernel
theorem d_l_seek_10 : decode method_13_code 10 = .ok (.lconst 1, 1) := by decide +kernel
theorem d_l_seek_11 : decode method_13_code 11 = .ok (.goto 4, 3) := by decide +kernel
theorem d_l_seek_14 : decode method_13_code 14 = .ok (.lconst 0, 1) := by decide +kernel
theorem d_l_seek_15 : decode method_13_code 15 = .ok (.lastore, 1) := by decide +kernel
theorem d_l_seek_16 : decode method_13_code 16 = .ok (.goto 9, 3) := by decide +kernel
theorem d_l_seek_19 : decode method_13_code 19 = .ok (.astore_n 3, 1) := by decide +kernel
theorem d_l_seek_20 : decode method_13_code 20 = .ok (.iconst 1, 1) := by decide +kernel
theorem d_l_seek_21 : decode method_13_code 21 = .ok (.ireturn, 1) := by decide +kernel
theorem d_l_seek_22 : decode method_13_code 22 = .ok (.astore_n 3, 1) := by decide +kernel
theorem d_l_seek_23 : decode method_13_code 23 = .ok (.iconst 2, 1) := by decide +kernel
theorem d_l_seek_24 : decode method_13_code 24 = .ok (.ireturn, 1) := by decide +kernel
theorem d_l_seek_25 : decode method_13_code 25 = .ok (.iconst 0, 1) := by decide +kernel
theorem d_l_seek_26 : decode method_13_code 26 = .ok (.ireturn, 1) := by decide +kernel
abbrev M_l_next : rsM := (⟨"RunStoreLaw", "next", "(LRunStore;[J)I"⟩, method_14_code, 3, some .int, [(0, 15, 18, 12)])
theorem d_l_next_0 : decode method_14_code 0 = .ok (.aload_n 1, 1) := by decide +kernel
theorem d_l_next_1 : decode method_14_code 1 = .ok (.iconst 0, 1) := by decide +kernel
theorem d_l_next_2 : decode method_14_code 2 = .ok (.aload_n 0, 1) := by decide +kernel
theorem d_l_next_3 : decode method_14_code 3 = .ok (.invokevirtual 55, 3) := by decide +kernel
theorem d_l_next_6 : decode method_14_code 6 = .ok (.ifCond .eq 7, 3) := by decide +kernel
theorem d_l_next_9 : decode method_14_code 9 = .ok (.lconst 1, 1) := by decide +kernel
theorem d_l_next_10 : decode method_14_code 10 = .ok (.goto 4, 3) := by decide +kernel
theorem d_l_next_13 : decode method_14_code 13 = .ok (.lconst 0, 1) := by decide +kernel
theorem d_l_next_14 : decode method_14_code 14 = .ok (.lastore, 1) := by decide +kernel
theorem d_l_next_15 : decode method_14_code 15 = .ok (.goto 6, 3) := by decide +kernel
theorem d_l_next_18 : decode method_14_code 18 = .ok (.astore_n 2, 1) := by decide +kernel
theorem d_l_next_19 : decode method_14_code 19 = .ok (.iconst 1, 1) := by decide +kernel
theorem d_l_next_20 : decode method_14_code 20 = .ok (.ireturn, 1) := by decide +kernel
theorem d_l_next_21 : decode method_14_code 21 = .ok (.iconst 0, 1) := by decide +kernel
theorem d_l_next_22 : decode method_14_code 22 = .ok (.ireturn, 1) := by decide +kernel
abbrev M_l_size : rsM := (⟨"RunStoreLaw", "size", "(LRunStore;[J)I"⟩, method_15_code, 3, some .int, [(0, 8, 11, 12)])
theorem d_l_size_0 : decode method_15_code 0 = .ok (.aload_n 1, 1) := by decide +kernel
theorem d_l_size_1 : decode method_15_code 1 = .ok (.iconst 0, 1) := by decide +kernel
theorem d_l_size_2 : decode method_15_code 2 = .ok (.aload_n 0, 1) := by decide +kernel
theorem d_l_size_3 : decode method_15_code 3 = .ok (.invokevirtual 59, 3) := by decide +kernel
theorem d_l_size_6 : decode method_15_code 6 = .ok (.i2l, 1) := by decide +kernel
theorem d_l_size_7 : decode method_15_code 7 = .ok (.lastore, 1) := by decide +kernel
theorem d_l_size_8 : decode method_15_code 8 = .ok (.goto 6, 3) := by decide +kernel
theorem d_l_size_11 : decode method_15_code 11 = .ok (.astore_n 2, 1) := by decide +kernel
theorem d_l_size_12 : decode method_15_code 12 = .ok (.iconst 1, 1) := by decide +kernel
theorem d_l_size_13 : decode method_15_code 13 = .ok (.ireturn, 1) := by decide +kernel
theorem d_l_size_14 : decode method_15_code 14 = .ok (.iconst 0, 1) := by decide +kernel
theorem d_l_size_15 : decode method_15_code 15 = .ok (.ireturn, 1) := by decide +kernel
abbrev M_l_runs : rsM := (⟨"RunStoreLaw", "runs", "(LRunStore;I[J)I"⟩, method_16_code, 4, some .int, [(0, 9, 12, 22), (0, 9, 15, 12)])
theorem d_l_runs_0 : decode method_16_code 0 = .ok (.aload_n 2, 1) := by decide +kernel
theorem d_l_runs_1 : decode method_16_code 1 = .ok (.iconst 0, 1) := by decide +kernel
theorem d_l_runs_2 : decode method_16_code 2 = .ok (.aload_n 0, 1) := by decide +kernel
theorem d_l_runs_3 : decode method_16_code 3 = .ok (.iload_n 1, 1) := by decide +kernel
theorem d_l_runs_4 : decode method_16_code 4 = .ok (.invokevirtual 62, 3) := by decide +kernel
theorem d_l_runs_7 : decode method_16_code 7 = .ok (.i2l, 1) := by decide +kernel
theorem d_l_runs_8 : decode method_16_code 8 = .ok (.lastore, 1) := by decide +kernel
theorem d_l_runs_9 : decode method_16_code 9 = .ok (.goto 9, 3) := by decide +kernel
theorem d_l_runs_12 : decode method_16_code 12 = .ok (.astore_n 3, 1) := by decide +kernel
theorem d_l_runs_13 : decode method_16_code 13 = .ok (.iconst 1, 1) := by decide +kernel
theorem d_l_runs_14 : decode method_16_code 14 = .ok (.ireturn, 1) := by decide +kernel
theorem d_l_runs_15 : decode method_16_code 15 = .ok (.astore_n 3, 1) := by decide +kernel
theorem d_l_runs_16 : decode method_16_code 16 = .ok (.iconst 2, 1) := by decide +kernel
theorem d_l_runs_17 : decode method_16_code 17 = .ok (.ireturn, 1) := by decide +kernel
theorem d_l_runs_18 : decode method_16_code 18 = .ok (.iconst 0, 1) := by decide +kernel
theorem d_l_runs_19 : decode method_16_code 19 = .ok (.ireturn, 1) := by decide +kernel
abbrev M_l_entries : rsM := (⟨"RunStoreLaw", "entries", "(LRunStore;II[J)I"⟩, method_17_code, 5, some .int, [(0, 10, 13, 12), (0, 10, 17, 34)])
theorem d_l_entries_0 : decode method_17_code 0 = .ok (.aload_n 3, 1) := by decide +kernel
theorem d_l_entries_1 : decode method_17_code 1 = .ok (.iconst 0, 1) := by decide +kernel
theorem d_l_entries_2 : decode method_17_code 2 = .ok (.aload_n 0, 1) := by decide +kernel
theorem d_l_entries_3 : decode method_17_code 3 = .ok (.iload_n 1, 1) := by decide +kernel
theorem d_l_entries_4 : decode method_17_code 4 = .ok (.iload_n 2, 1) := by decide +kernel
theorem d_l_entries_5 : decode method_17_code 5 = .ok (.invokevirtual 65, 3) := by decide +kernel
theorem d_l_entries_8 : decode method_17_code 8 = .ok (.i2l, 1) := by decide +kernel
theorem d_l_entries_9 : decode method_17_code 9 = .ok (.lastore, 1) := by decide +kernel
theorem d_l_entries_10 : decode method_17_code 10 = .ok (.goto 11, 3) := by decide +kernel
theorem d_l_entries_13 : decode method_17_code 13 = .ok (.astore 4, 2) := by decide +kernel
theorem d_l_entries_15 : decode method_17_code 15 = .ok (.iconst 1, 1) := by decide +kernel
theorem d_l_entries_16 : decode method_17_code 16 = .ok (.ireturn, 1) := by decide +kernel
theorem d_l_entries_17 : decode method_17_code 17 = .ok (.astore 4, 2) := by decide +kernel
theorem d_l_entries_19 : decode method_17_code 19 = .ok (.iconst 2, 1) := by decide +kernel
theorem d_l_entries_20 : decode method_17_code 20 = .ok (.ireturn, 1) := by decide +kernel
theorem d_l_entries_21 : decode method_17_code 21 = .ok (.iconst 0, 1) := by decide +kernel
theorem d_l_entries_22 : decode method_17_code 22 = .ok (.ireturn, 1) := by decide +kernel
abbrev M_l_room : rsM := (⟨"RunStoreLaw", "room", "(LRunStore;[J)I"⟩, method_18_code, 3, some .int, [(0, 8, 11, 12)])
theorem d_l_room_0 : decode method_18_code 0 = .ok (.aload_n 1, 1) := by decide +kernel
theorem d_l_room_1 : decode method_18_code 1 = .ok (.iconst 0, 1) := by decide +kernel
theorem d_l_room_2 : decode method_18_code 2 = .ok (.aload_n 0, 1) := by decide +kernel
theorem d_l_room_3 : decode method_18_code 3 = .ok (.invokevirtual 68, 3) := by decide +kernel
theorem d_l_room_6 : decode method_18_code 6 = .ok (.i2l, 1) := by decide +kernel
theorem d_l_room_7 : decode method_18_code 7 = .ok (.lastore, 1) := by decide +kernel
theorem d_l_room_8 : decode method_18_code 8 = .ok (.goto 6, 3) := by decide +kernel
theorem d_l_room_11 : decode method_18_code 11 = .ok (.astore_n 2, 1) := by decide +kernel
theorem d_l_room_12 : decode method_18_code 12 = .ok (.iconst 1, 1) := by decide +kernel
theorem d_l_room_13 : decode method_18_code 13 = .ok (.ireturn, 1) := by decide +kernel
theorem d_l_room_14 : decode method_18_code 14 = .ok (.iconst 0, 1) := by decide +kernel
theorem d_l_room_15 : decode method_18_code 15 = .ok (.ireturn, 1) := by decide +kernel
abbrev M_l_law : rsM := (⟨"RunStoreLaw", "law", "([I)Z"⟩, code, 7, some .boolean, [])
theorem d_l_law_0 : decode code 0 = .ok (.new 8, 3) := by decide +kernel
theorem d_l_law_3 : decode code 3 = .ok (.dup, 1) := by decide +kernel
theorem d_l_law_4 : decode code 4 = .ok (.invokespecial 71, 3) := by decide +kernel
theorem d_l_law_7 : decode code 7 = .ok (.astore_n 1, 1) := by decide +kernel
theorem d_l_law_8 : decode code 8 = .ok (.new 72, 3) := by decide +kernel
theorem d_l_law_11 : decode code 11 = .ok (.dup, 1) := by decide +kernel
theorem d_l_law_12 : decode code 12 = .ok (.invokespecial 74, 3) := by decide +kernel
theorem d_l_law_15 : decode code 15 = .ok (.astore_n 2, 1) := by decide +kernel
theorem d_l_law_16 : decode code 16 = .ok (.iconst 1, 1) := by decide +kernel
theorem d_l_law_17 : decode code 17 = .ok (.newarray .long, 2) := by decide +kernel
theorem d_l_law_19 : decode code 19 = .ok (.astore_n 3, 1) := by decide +kernel
theorem d_l_law_20 : decode code 20 = .ok (.iconst 0, 1) := by decide +kernel
theorem d_l_law_21 : decode code 21 = .ok (.istore 4, 2) := by decide +kernel
theorem d_l_law_23 : decode code 23 = .ok (.iload 4, 2) := by decide +kernel
theorem d_l_law_25 : decode code 25 = .ok (.aload_n 0, 1) := by decide +kernel
theorem d_l_law_26 : decode code 26 = .ok (.arraylength, 1) := by decide +kernel
theorem d_l_law_27 : decode code 27 = .ok (.iconst 3, 1) := by decide +kernel
theorem d_l_law_28 : decode code 28 = .ok (.isub, 1) := by decide +kernel
theorem d_l_law_29 : decode code 29 = .ok (.if_icmp .gt 985, 3) := by decide +kernel
theorem d_l_law_32 : decode code 32 = .ok (.aload_n 0, 1) := by decide +kernel
theorem d_l_law_33 : decode code 33 = .ok (.iload 4, 2) := by decide +kernel
theorem d_l_law_35 : decode code 35 = .ok (.iaload, 1) := by decide +kernel
theorem d_l_law_36 : decode code 36 = .ok (.bipush 31, 2) := by decide +kernel
theorem d_l_law_38 : decode code 38 = .ok (.iand, 1) := by decide +kernel
theorem d_l_law_39 : decode code 39 = .ok (.tableswitch 969 0 19 #[93, 117, 161, 229, 292, 348, 411, 455, 499, 555, 591, 604, 667, 718, 731, 744, 788, 801, 857, 925], 93) := by decide +kernel
theorem d_l_law_132 : decode code 132 = .ok (.aload_n 1, 1) := by decide +kernel
theorem d_l_law_133 : decode code 133 = .ok (.invokestatic 75, 3) := by decide +kernel
theorem d_l_law_136 : decode code 136 = .ok (.istore 5, 2) := by decide +kernel
theorem d_l_law_138 : decode code 138 = .ok (.aload_n 2, 1) := by decide +kernel
theorem d_l_law_139 : decode code 139 = .ok (.invokevirtual 80, 3) := by decide +kernel
theorem d_l_law_142 : decode code 142 = .ok (.aload_n 2, 1) := by decide +kernel
theorem d_l_law_143 : decode code 143 = .ok (.invokevirtual 81, 3) := by decide +kernel
theorem d_l_law_146 : decode code 146 = .ok (.iload 5, 2) := by decide +kernel
theorem d_l_law_148 : decode code 148 = .ok (.if_icmp .eq 5, 3) := by decide +kernel
theorem d_l_law_151 : decode code 151 = .ok (.iconst 0, 1) := by decide +kernel
theorem d_l_law_152 : decode code 152 = .ok (.ireturn, 1) := by decide +kernel
theorem d_l_law_153 : decode code 153 = .ok (.goto 855, 3) := by decide +kernel
theorem d_l_law_156 : decode code 156 = .ok (.aload_n 1, 1) := by decide +kernel
theorem d_l_law_157 : decode code 157 = .ok (.aload_n 3, 1) := by decide +kernel
theorem d_l_law_158 : decode code 158 = .ok (.invokestatic 84, 3) := by decide +kernel
theorem d_l_law_161 : decode code 161 = .ok (.istore 5, 2) := by decide +kernel
theorem d_l_law_163 : decode code 163 = .ok (.aload_n 2, 1) := by decide +kernel
theorem d_l_law_164 : decode code 164 = .ok (.invokevirtual 87, 3) := by decide +kernel
theorem d_l_law_167 : decode code 167 = .ok (.istore 6, 2) := by decide +kernel
theorem d_l_law_169 : decode code 169 = .ok (.aload_n 2, 1) := by decide +kernel
theorem d_l_law_170 : decode code 170 = .ok (.invokevirtual 81, 3) := by decide +kernel
theorem d_l_law_173 : decode code 173 = .ok (.iload 5, 2) := by decide +kernel
theorem d_l_law_175 : decode code 175 = .ok (.if_icmp .eq 5, 3) := by decide +kernel
theorem d_l_law_178 : decode code 178 = .ok (.iconst 0, 1) := by decide +kernel
theorem d_l_law_179 : decode code 179 = .ok (.ireturn, 1) := by decide +kernel
theorem d_l_law_180 : decode code 180 = .ok (.iload 5, 2) := by decide +kernel
theorem d_l_law_182 : decode code 182 = .ok (.ifCond .ne 15, 3) := by decide +kernel
theorem d_l_law_185 : decode code 185 = .ok (.aload_n 3, 1) := by decide +kernel
theorem d_l_law_186 : decode code 186 = .ok (.iconst 0, 1) := by decide +kernel
theorem d_l_law_187 : decode code 187 = .ok (.laload, 1) := by decide +kernel
theorem d_l_law_188 : decode code 188 = .ok (.iload 6, 2) := by decide +kernel
theorem d_l_law_190 : decode code 190 = .ok (.i2l, 1) := by decide +kernel
theorem d_l_law_191 : decode code 191 = .ok (.lcmp, 1) := by decide +kernel
theorem d_l_law_192 : decode code 192 = .ok (.ifCond .eq 5, 3) := by decide +kernel
theorem d_l_law_195 : decode code 195 = .ok (.iconst 0, 1) := by decide +kernel
theorem d_l_law_196 : decode code 196 = .ok (.ireturn, 1) := by decide +kernel
theorem d_l_law_197 : decode code 197 = .ok (.goto 811, 3) := by decide +kernel
theorem d_l_law_200 : decode code 200 = .ok (.aload_n 1, 1) := by decide +kernel
theorem d_l_law_201 : decode code 201 = .ok (.aload_n 0, 1) := by decide +kernel
theorem d_l_law_202 : decode code 202 = .ok (.iload 4, 2) := by decide +kernel
theorem d_l_law_204 : decode code 204 = .ok (.iconst 1, 1) := by decide +kernel
theorem d_l_law_205 : decode code 205 = .ok (.iadd, 1) := by decide +kernel
theorem d_l_law_206 : decode code 206 = .ok (.iaload, 1) := by decide +kernel
theorem d_l_law_207 : decode code 207 = .ok (.aload_n 0, 1) := by decide +kernel
theorem d_l_law_208 : decode code 208 = .ok (.iload 4, 2) := by decide +kernel
theorem d_l_law_210 : decode code 210 = .ok (.iconst 2, 1) := by decide +kernel
theorem d_l_law_211 : decode code 211 = .ok (.iadd, 1) := by decide +kernel
theorem d_l_law_212 : decode code 212 = .ok (.iaload, 1) := by decide +kernel
theorem d_l_law_213 : decode code 213 = .ok (.aload_n 3, 1) := by decide +kernel
theorem d_l_law_214 : decode code 214 = .ok (.invokestatic 88, 3) := by decide +kernel
theorem d_l_law_217 : decode code 217 = .ok (.istore 5, 2) := by decide +kernel
theorem d_l_law_219 : decode code 219 = .ok (.aload_n 2, 1) := by decide +kernel
theorem d_l_law_220 : decode code 220 = .ok (.aload_n 0, 1) := by decide +kernel
theorem d_l_law_221 : decode code 221 = .ok (.iload 4, 2) := by decide +kernel
theorem d_l_law_223 : decode code 223 = .ok (.iconst 1, 1) := by decide +kernel
theorem d_l_law_224 : decode code 224 = .ok (.iadd, 1) := by decide +kernel
theorem d_l_law_225 : decode code 225 = .ok (.iaload, 1) := by decide +kernel
theorem d_l_law_226 : decode code 226 = .ok (.aload_n 0, 1) := by decide +kernel
theorem d_l_law_227 : decode code 227 = .ok (.iload 4, 2) := by decide +kernel
theorem d_l_law_229 : decode code 229 = .ok (.iconst 2, 1) := by decide +kernel
theorem d_l_law_230 : decode code 230 = .ok (.iadd, 1) := by decide +kernel
theorem d_l_law_231 : decode code 231 = .ok (.iaload, 1) := by decide +kernel
theorem d_l_law_232 : decode code 232 = .ok (.invokevirtual 91, 3) := by decide +kernel
theorem d_l_law_235 : decode code 235 = .ok (.istore 6, 2) := by decide +kernel
theorem d_l_law_237 : decode code 237 = .ok (.aload_n 2, 1) := by decide +kernel
theorem d_l_law_238 : decode code 238 = .ok (.invokevirtual 81, 3) := by decide +kernel
theorem d_l_law_241 : decode code 241 = .ok (.iload 5, 2) := by decide +kernel
theorem d_l_law_243 : decode code 243 = .ok (.if_icmp .eq 5, 3) := by decide +kernel
theorem d_l_law_246 : decode code 246 = .ok (.iconst 0, 1) := by decide +kernel
theorem d_l_law_247 : decode code 247 = .ok (.ireturn, 1) := by decide +kernel
theorem d_l_law_248 : decode code 248 = .ok (.iload 5, 2) := by decide +kernel
theorem d_l_law_250 : decode code 250 = .ok (.ifCond .ne 15, 3) := by decide +kernel
theorem d_l_law_253 : decode code 253 = .ok (.aload_n 3, 1) := by decide +kernel
theorem d_l_law_254 : decode code 254 = .ok (.iconst 0, 1) := by decide +kernel
theorem d_l_law_255 : decode code 255 = .ok (.laload, 1) := by decide +kernel
theorem d_l_law_256 : decode code 256 = .ok (.iload 6, 2) := by decide +kernel
theorem d_l_law_258 : decode code 258 = .ok (.i2l, 1) := by decide +kernel
theorem d_l_law_259 : decode code 259 = .ok (.lcmp, 1) := by decide +kernel
theorem d_l_law_260 : decode code 260 = .ok (.ifCond .eq 5, 3) := by decide +kernel
theorem d_l_law_263 : decode code 263 = .ok (.iconst 0, 1) := by decide +kernel
theorem d_l_law_264 : decode code 264 = .ok (.ireturn, 1) := by decide +kernel
theorem d_l_law_265 : decode code 265 = .ok (.goto 743, 3) := by decide +kernel
theorem d_l_law_268 : decode code 268 = .ok (.aload_n 1, 1) := by decide +kernel
theorem d_l_law_269 : decode code 269 = .ok (.aload_n 0, 1) := by decide +kernel
theorem d_l_law_270 : decode code 270 = .ok (.iload 4, 2) := by decide +kernel
theorem d_l_law_272 : decode code 272 = .ok (.iconst 1, 1) := by decide +kernel
theorem d_l_law_273 : decode code 273 = .ok (.iadd, 1) := by decide +kernel
theorem d_l_law_274 : decode code 274 = .ok (.iaload, 1) := by decide +kernel
theorem d_l_law_275 : decode code 275 = .ok (.aload_n 3, 1) := by decide +kernel
theorem d_l_law_276 : decode code 276 = .ok (.invokestatic 92, 3) := by decide +kernel
theorem d_l_law_279 : decode code 279 = .ok (.istore 5, 2) := by decide +kernel
theorem d_l_law_281 : decode code 281 = .ok (.aload_n 2, 1) := by decide +kernel
theorem d_l_law_282 : decode code 282 = .ok (.aload_n 0, 1) := by decide +kernel
theorem d_l_law_283 : decode code 283 = .ok (.iload 4, 2) := by decide +kernel
theorem d_l_law_285 : decode code 285 = .ok (.iconst 1, 1) := by decide +kernel
theorem d_l_law_286 : decode code 286 = .ok (.iadd, 1) := by decide +kernel
theorem d_l_law_287 : decode code 287 = .ok (.iaload, 1) := by decide +kernel
theorem d_l_law_288 : decode code 288 = .ok (.invokevirtual 95, 3) := by decide +kernel
theorem d_l_law_291 : decode code 291 = .ok (.istore 6, 2) := by decide +kernel
theorem d_l_law_293 : decode code 293 = .ok (.aload_n 2, 1) := by decide +kernel
theorem d_l_law_294 : decode code 294 = .ok (.invokevirtual 81, 3) := by decide +kernel
theorem d_l_law_297 : decode code 297 = .ok (.iload 5, 2) := by decide +kernel
theorem d_l_law_299 : decode code 299 = .ok (.if_icmp .eq 5, 3) := by decide +kernel
theorem d_l_law_302 : decode code 302 = .ok (.iconst 0, 1) := by decide +kernel
theorem d_l_law_303 : decode code 303 = .ok (.ireturn, 1) := by decide +kernel
theorem d_l_law_304 : decode code 304 = .ok (.iload 5, 2) := by decide +kernel
theorem d_l_law_306 : decode code 306 = .ok (.ifCond .ne 22, 3) := by decide +kernel
theorem d_l_law_309 : decode code 309 = .ok (.aload_n 3, 1) := by decide +kernel
theorem d_l_law_310 : decode code 310 = .ok (.iconst 0, 1) := by decide +kernel
theorem d_l_law_311 : decode code 311 = .ok (.laload, 1) := by decide +kernel
theorem d_l_law_312 : decode code 312 = .ok (.iload 6, 2) := by decide +kernel
theorem d_l_law_314 : decode code 314 = .ok (.ifCond .eq 7, 3) := by decide +kernel
theorem d_l_law_317 : decode code 317 = .ok (.lconst 1, 1) := by decide +kernel
theorem d_l_law_318 : decode code 318 = .ok (.goto 4, 3) := by decide +kernel
theorem d_l_law_321 : decode code 321 = .ok (.lconst 0, 1) := by decide +kernel
theorem d_l_law_322 : decode code 322 = .ok (.lcmp, 1) := by decide +kernel
theorem d_l_law_323 : decode code 323 = .ok (.ifCond .eq 5, 3) := by decide +kernel
theorem d_l_law_326 : decode code 326 = .ok (.iconst 0, 1) := by decide +kernel
theorem d_l_law_327 : decode code 327 = .ok (.ireturn, 1) := by decide +kernel
theorem d_l_law_328 : decode code 328 = .ok (.goto 680, 3) := by decide +kernel
theorem d_l_law_331 : decode code 331 = .ok (.aload_n 1, 1) := by decide +kernel
theorem d_l_law_332 : decode code 332 = .ok (.aload_n 0, 1) := by decide +kernel
theorem d_l_law_333 : decode code 333 = .ok (.iload 4, 2) := by decide +kernel
theorem d_l_law_335 : decode code 335 = .ok (.iconst 1, 1) := by decide +kernel
theorem d_l_law_336 : decode code 336 = .ok (.iadd, 1) := by decide +kernel
theorem d_l_law_337 : decode code 337 = .ok (.iaload, 1) := by decide +kernel
theorem d_l_law_338 : decode code 338 = .ok (.aload_n 3, 1) := by decide +kernel
theorem d_l_law_339 : decode code 339 = .ok (.invokestatic 96, 3) := by decide +kernel
theorem d_l_law_342 : decode code 342 = .ok (.istore 5, 2) := by decide +kernel
theorem d_l_law_344 : decode code 344 = .ok (.aload_n 2, 1) := by decide +kernel
theorem d_l_law_345 : decode code 345 = .ok (.aload_n 0, 1) := by decide +kernel
theorem d_l_law_346 : decode code 346 = .ok (.iload 4, 2) := by decide +kernel
theorem d_l_law_348 : decode code 348 = .ok (.iconst 1, 1) := by decide +kernel
theorem d_l_law_349 : decode code 349 = .ok (.iadd, 1) := by decide +kernel
theorem d_l_law_350 : decode code 350 = .ok (.iaload, 1) := by decide +kernel
theorem d_l_law_351 : decode code 351 = .ok (.invokevirtual 98, 3) := by decide +kernel
theorem d_l_law_354 : decode code 354 = .ok (.istore 6, 2) := by decide +kernel
theorem d_l_law_356 : decode code 356 = .ok (.aload_n 2, 1) := by decide +kernel
theorem d_l_law_357 : decode code 357 = .ok (.invokevirtual 81, 3) := by decide +kernel
theorem d_l_law_360 : decode code 360 = .ok (.iload 5, 2) := by decide +kernel
theorem d_l_law_362 : decode code 362 = .ok (.if_icmp .eq 5, 3) := by decide +kernel
theorem d_l_law_365 : decode code 365 = .ok (.iconst 0, 1) := by decide +kernel
theorem d_l_law_366 : decode code 366 = .ok (.ireturn, 1) := by decide +kernel
theorem d_l_law_367 : decode code 367 = .ok (.iload 5, 2) := by decide +kernel
theorem d_l_law_369 : decode code 369 = .ok (.ifCond .ne 15, 3) := by decide +kernel
theorem d_l_law_372 : decode code 372 = .ok (.aload_n 3, 1) := by decide +kernel
theorem d_l_law_373 : decode code 373 = .ok (.iconst 0, 1) := by decide +kernel
theorem d_l_law_374 : decode code 374 = .ok (.laload, 1) := by decide +kernel
theorem d_l_law_375 : decode code 375 = .ok (.iload 6, 2) := by decide +kernel
theorem d_l_law_377 : decode code 377 = .ok (.i2l, 1) := by decide +kernel
theorem d_l_law_378 : decode code 378 = .ok (.lcmp, 1) := by decide +kernel
theorem d_l_law_379 : decode code 379 = .ok (.ifCond .eq 5, 3) := by decide +kernel
theorem d_l_law_382 : decode code 382 = .ok (.iconst 0, 1) := by decide +kernel
theorem d_l_law_383 : decode code 383 = .ok (.ireturn, 1) := by decide +kernel
theorem d_l_law_384 : decode code 384 = .ok (.goto 624, 3) := by decide +kernel
theorem d_l_law_387 : decode code 387 = .ok (.aload_n 1, 1) := by decide +kernel
theorem d_l_law_388 : decode code 388 = .ok (.aload_n 0, 1) := by decide +kernel
theorem d_l_law_389 : decode code 389 = .ok (.iload 4, 2) := by decide +kernel
theorem d_l_law_391 : decode code 391 = .ok (.iconst 1, 1) := by decide +kernel
theorem d_l_law_392 : decode code 392 = .ok (.iadd, 1) := by decide +kernel
theorem d_l_law_393 : decode code 393 = .ok (.iaload, 1) := by decide +kernel
theorem d_l_law_394 : decode code 394 = .ok (.aload_n 3, 1) := by decide +kernel
theorem d_l_law_395 : decode code 395 = .ok (.invokestatic 99, 3) := by decide +kernel
theorem d_l_law_398 : decode code 398 = .ok (.istore 5, 2) := by decide +kernel
theorem d_l_law_400 : decode code 400 = .ok (.aload_n 2, 1) := by decide +kernel
theorem d_l_law_401 : decode code 401 = .ok (.aload_n 0, 1) := by decide +kernel
theorem d_l_law_402 : decode code 402 = .ok (.iload 4, 2) := by decide +kernel
theorem d_l_law_404 : decode code 404 = .ok (.iconst 1, 1) := by decide +kernel
theorem d_l_law_405 : decode code 405 = .ok (.iadd, 1) := by decide +kernel
theorem d_l_law_406 : decode code 406 = .ok (.iaload, 1) := by decide +kernel
theorem d_l_law_407 : decode code 407 = .ok (.invokevirtual 101, 3) := by decide +kernel
theorem d_l_law_410 : decode code 410 = .ok (.istore 6, 2) := by decide +kernel
theorem d_l_law_412 : decode code 412 = .ok (.aload_n 2, 1) := by decide +kernel
theorem d_l_law_413 : decode code 413 = .ok (.invokevirtual 81, 3) := by decide +kernel
theorem d_l_law_416 : decode code 416 = .ok (.iload 5, 2) := by decide +kernel
theorem d_l_law_418 : decode code 418 = .ok (.if_icmp .eq 5, 3) := by decide +kernel
theorem d_l_law_421 : decode code 421 = .ok (.iconst 0, 1) := by decide +kernel
theorem d_l_law_422 : decode code 422 = .ok (.ireturn, 1) := by decide +kernel
theorem d_l_law_423 : decode code 423 = .ok (.iload 5, 2) := by decide +kernel
theorem d_l_law_425 : decode code 425 = .ok (.ifCond .ne 22, 3) := by decide +kernel
theorem d_l_law_428 : decode code 428 = .ok (.aload_n 3, 1) := by decide +kernel
theorem d_l_law_429 : decode code 429 = .ok (.iconst 0, 1) := by decide +kernel
theorem d_l_law_430 : decode code 430 = .ok (.laload, 1) := by decide +kernel
theorem d_l_law_431 : decode code 431 = .ok (.iload 6, 2) := by decide +kernel
theorem d_l_law_433 : decode code 433 = .ok (.ifCond .eq 7, 3) := by decide +kernel
theorem d_l_law_436 : decode code 436 = .ok (.lconst 1, 1) := by decide +kernel
theorem d_l_law_437 : decode code 437 = .ok (.goto 4, 3) := by decide +kernel
theorem d_l_law_440 : decode code 440 = .ok (.lconst 0, 1) := by decide +kernel
theorem d_l_law_441 : decode code 441 = .ok (.lcmp, 1) := by decide +kernel
theorem d_l_law_442 : decode code 442 = .ok (.ifCond .eq 5, 3) := by decide +kernel
theorem d_l_law_445 : decode code 445 = .ok (.iconst 0, 1) := by decide +kernel
theorem d_l_law_446 : decode code 446 = .ok (.ireturn, 1) := by decide +kernel
theorem d_l_law_447 : decode code 447 = .ok (.goto 561, 3) := by decide +kernel
theorem d_l_law_450 : decode code 450 = .ok (.aload_n 1, 1) := by decide +kernel
theorem d_l_law_451 : decode code 451 = .ok (.aload_n 3, 1) := by decide +kernel
theorem d_l_law_452 : decode code 452 = .ok (.invokestatic 102, 3) := by decide +kernel
theorem d_l_law_455 : decode code 455 = .ok (.istore 5, 2) := by decide +kernel
theorem d_l_law_457 : decode code 457 = .ok (.aload_n 2, 1) := by decide +kernel
theorem d_l_law_458 : decode code 458 = .ok (.invokevirtual 104, 3) := by decide +kernel
theorem d_l_law_461 : decode code 461 = .ok (.istore 6, 2) := by decide +kernel
theorem d_l_law_463 : decode code 463 = .ok (.aload_n 2, 1) := by decide +kernel
theorem d_l_law_464 : decode code 464 = .ok (.invokevirtual 81, 3) := by decide +kernel
theorem d_l_law_467 : decode code 467 = .ok (.iload 5, 2) := by decide +kernel
theorem d_l_law_469 : decode code 469 = .ok (.if_icmp .eq 5, 3) := by decide +kernel
theorem d_l_law_472 : decode code 472 = .ok (.iconst 0, 1) := by decide +kernel
theorem d_l_law_473 : decode code 473 = .ok (.ireturn, 1) := by decide +kernel
theorem d_l_law_474 : decode code 474 = .ok (.iload 5, 2) := by decide +kernel
theorem d_l_law_476 : decode code 476 = .ok (.ifCond .ne 15, 3) := by decide +kernel
theorem d_l_law_479 : decode code 479 = .ok (.aload_n 3, 1) := by decide +kernel
theorem d_l_law_480 : decode code 480 = .ok (.iconst 0, 1) := by decide +kernel
theorem d_l_law_481 : decode code 481 = .ok (.laload, 1) := by decide +kernel
theorem d_l_law_482 : decode code 482 = .ok (.iload 6, 2) := by decide +kernel
theorem d_l_law_484 : decode code 484 = .ok (.i2l, 1) := by decide +kernel
theorem d_l_law_485 : decode code 485 = .ok (.lcmp, 1) := by decide +kernel
theorem d_l_law_486 : decode code 486 = .ok (.ifCond .eq 5, 3) := by decide +kernel
theorem d_l_law_489 : decode code 489 = .ok (.iconst 0, 1) := by decide +kernel
theorem d_l_law_490 : decode code 490 = .ok (.ireturn, 1) := by decide +kernel
theorem d_l_law_491 : decode code 491 = .ok (.goto 517, 3) := by decide +kernel
theorem d_l_law_494 : decode code 494 = .ok (.aload_n 1, 1) := by decide +kernel
theorem d_l_law_495 : decode code 495 = .ok (.aload_n 3, 1) := by decide +kernel
theorem d_l_law_496 : decode code 496 = .ok (.invokestatic 105, 3) := by decide +kernel
theorem d_l_law_499 : decode code 499 = .ok (.istore 5, 2) := by decide +kernel
theorem d_l_law_501 : decode code 501 = .ok (.aload_n 2, 1) := by decide +kernel
theorem d_l_law_502 : decode code 502 = .ok (.invokevirtual 107, 3) := by decide +kernel
theorem d_l_law_505 : decode code 505 = .ok (.istore 6, 2) := by decide +kernel
theorem d_l_law_507 : decode code 507 = .ok (.aload_n 2, 1) := by decide +kernel
theorem d_l_law_508 : decode code 508 = .ok (.invokevirtual 81, 3) := by decide +kernel
theorem d_l_law_511 : decode code 511 = .ok (.iload 5, 2) := by decide +kernel
theorem d_l_law_513 : decode code 513 = .ok (.if_icmp .eq 5, 3) := by decide +kernel
theorem d_l_law_516 : decode code 516 = .ok (.iconst 0, 1) := by decide +kernel
theorem d_l_law_517 : decode code 517 = .ok (.ireturn, 1) := by decide +kernel
theorem d_l_law_518 : decode code 518 = .ok (.iload 5, 2) := by decide +kernel
theorem d_l_law_520 : decode code 520 = .ok (.ifCond .ne 15, 3) := by decide +kernel
theorem d_l_law_523 : decode code 523 = .ok (.aload_n 3, 1) := by decide +kernel
theorem d_l_law_524 : decode code 524 = .ok (.iconst 0, 1) := by decide +kernel
theorem d_l_law_525 : decode code 525 = .ok (.laload, 1) := by decide +kernel
theorem d_l_law_526 : decode code 526 = .ok (.iload 6, 2) := by decide +kernel
theorem d_l_law_528 : decode code 528 = .ok (.i2l, 1) := by decide +kernel
theorem d_l_law_529 : decode code 529 = .ok (.lcmp, 1) := by decide +kernel
theorem d_l_law_530 : decode code 530 = .ok (.ifCond .eq 5, 3) := by decide +kernel
theorem d_l_law_533 : decode code 533 = .ok (.iconst 0, 1) := by decide +kernel
theorem d_l_law_534 : decode code 534 = .ok (.ireturn, 1) := by decide +kernel
theorem d_l_law_535 : decode code 535 = .ok (.goto 473, 3) := by decide +kernel
theorem d_l_law_538 : decode code 538 = .ok (.aload_n 1, 1) := by decide +kernel
theorem d_l_law_539 : decode code 539 = .ok (.aload_n 0, 1) := by decide +kernel
theorem d_l_law_540 : decode code 540 = .ok (.iload 4, 2) := by decide +kernel
theorem d_l_law_542 : decode code 542 = .ok (.iconst 1, 1) := by decide +kernel
theorem d_l_law_543 : decode code 543 = .ok (.iadd, 1) := by decide +kernel
theorem d_l_law_544 : decode code 544 = .ok (.iaload, 1) := by decide +kernel
theorem d_l_law_545 : decode code 545 = .ok (.aload_n 3, 1) := by decide +kernel
theorem d_l_law_546 : decode code 546 = .ok (.invokestatic 108, 3) := by decide +kernel
theorem d_l_law_549 : decode code 549 = .ok (.istore 5, 2) := by decide +kernel
theorem d_l_law_551 : decode code 551 = .ok (.aload_n 2, 1) := by decide +kernel
theorem d_l_law_552 : decode code 552 = .ok (.aload_n 0, 1) := by decide +kernel
theorem d_l_law_553 : decode code 553 = .ok (.iload 4, 2) := by decide +kernel
theorem d_l_law_555 : decode code 555 = .ok (.iconst 1, 1) := by decide +kernel
theorem d_l_law_556 : decode code 556 = .ok (.iadd, 1) := by decide +kernel
theorem d_l_law_557 : decode code 557 = .ok (.iaload, 1) := by decide +kernel
theorem d_l_law_558 : decode code 558 = .ok (.invokevirtual 110, 3) := by decide +kernel
theorem d_l_law_561 : decode code 561 = .ok (.istore 6, 2) := by decide +kernel
theorem d_l_law_563 : decode code 563 = .ok (.aload_n 2, 1) := by decide +kernel
theorem d_l_law_564 : decode code 564 = .ok (.invokevirtual 81, 3) := by decide +kernel
theorem d_l_law_567 : decode code 567 = .ok (.iload 5, 2) := by decide +kernel
theorem d_l_law_569 : decode code 569 = .ok (.if_icmp .eq 5, 3) := by decide +kernel
theorem d_l_law_572 : decode code 572 = .ok (.iconst 0, 1) := by decide +kernel
theorem d_l_law_573 : decode code 573 = .ok (.ireturn, 1) := by decide +kernel
theorem d_l_law_574 : decode code 574 = .ok (.iload 5, 2) := by decide +kernel
theorem d_l_law_576 : decode code 576 = .ok (.ifCond .ne 15, 3) := by decide +kernel
theorem d_l_law_579 : decode code 579 = .ok (.aload_n 3, 1) := by decide +kernel
theorem d_l_law_580 : decode code 580 = .ok (.iconst 0, 1) := by decide +kernel
theorem d_l_law_581 : decode code 581 = .ok (.laload, 1) := by decide +kernel
theorem d_l_law_582 : decode code 582 = .ok (.iload 6, 2) := by decide +kernel
theorem d_l_law_584 : decode code 584 = .ok (.i2l, 1) := by decide +kernel
theorem d_l_law_585 : decode code 585 = .ok (.lcmp, 1) := by decide +kernel
theorem d_l_law_586 : decode code 586 = .ok (.ifCond .eq 5, 3) := by decide +kernel
theorem d_l_law_589 : decode code 589 = .ok (.iconst 0, 1) := by decide +kernel
theorem d_l_law_590 : decode code 590 = .ok (.ireturn, 1) := by decide +kernel
theorem d_l_law_591 : decode code 591 = .ok (.goto 417, 3) := by decide +kernel
theorem d_l_law_594 : decode code 594 = .ok (.aload_n 1, 1) := by decide +kernel
theorem d_l_law_595 : decode code 595 = .ok (.aload_n 0, 1) := by decide +kernel
theorem d_l_law_596 : decode code 596 = .ok (.iload 4, 2) := by decide +kernel
theorem d_l_law_598 : decode code 598 = .ok (.iconst 1, 1) := by decide +kernel
theorem d_l_law_599 : decode code 599 = .ok (.iadd, 1) := by decide +kernel
theorem d_l_law_600 : decode code 600 = .ok (.iaload, 1) := by decide +kernel
theorem d_l_law_601 : decode code 601 = .ok (.invokestatic 111, 3) := by decide +kernel
theorem d_l_law_604 : decode code 604 = .ok (.istore 5, 2) := by decide +kernel
theorem d_l_law_606 : decode code 606 = .ok (.aload_n 2, 1) := by decide +kernel
theorem d_l_law_607 : decode code 607 = .ok (.aload_n 0, 1) := by decide +kernel
theorem d_l_law_608 : decode code 608 = .ok (.iload 4, 2) := by decide +kernel
theorem d_l_law_610 : decode code 610 = .ok (.iconst 1, 1) := by decide +kernel
theorem d_l_law_611 : decode code 611 = .ok (.iadd, 1) := by decide +kernel
theorem d_l_law_612 : decode code 612 = .ok (.iaload, 1) := by decide +kernel
theorem d_l_law_613 : decode code 613 = .ok (.invokevirtual 114, 3) := by decide +kernel
theorem d_l_law_616 : decode code 616 = .ok (.aload_n 2, 1) := by decide +kernel
theorem d_l_law_617 : decode code 617 = .ok (.invokevirtual 81, 3) := by decide +kernel
theorem d_l_law_620 : decode code 620 = .ok (.iload 5, 2) := by decide +kernel
theorem d_l_law_622 : decode code 622 = .ok (.if_icmp .eq 5, 3) := by decide +kernel
theorem d_l_law_625 : decode code 625 = .ok (.iconst 0, 1) := by decide +kernel
theorem d_l_law_626 : decode code 626 = .ok (.ireturn, 1) := by decide +kernel
theorem d_l_law_627 : decode code 627 = .ok (.goto 381, 3) := by decide +kernel
theorem d_l_law_630 : decode code 630 = .ok (.aload_n 1, 1) := by decide +kernel
theorem d_l_law_631 : decode code 631 = .ok (.invokevirtual 115, 3) := by decide +kernel
theorem d_l_law_634 : decode code 634 = .ok (.aload_n 2, 1) := by decide +kernel
theorem d_l_law_635 : decode code 635 = .ok (.invokevirtual 118, 3) := by decide +kernel
theorem d_l_law_638 : decode code 638 = .ok (.if_icmp .eq 370, 3) := by decide +kernel
theorem d_l_law_641 : decode code 641 = .ok (.iconst 0, 1) := by decide +kernel
theorem d_l_law_642 : decode code 642 = .ok (.ireturn, 1) := by decide +kernel
theorem d_l_law_643 : decode code 643 = .ok (.aload_n 1, 1) := by decide +kernel
theorem d_l_law_644 : decode code 644 = .ok (.aload_n 0, 1) := by decide +kernel
theorem d_l_law_645 : decode code 645 = .ok (.iload 4, 2) := by decide +kernel
theorem d_l_law_647 : decode code 647 = .ok (.iconst 1, 1) := by decide +kernel
theorem d_l_law_648 : decode code 648 = .ok (.iadd, 1) := by decide +kernel
theorem d_l_law_649 : decode code 649 = .ok (.iaload, 1) := by decide +kernel
theorem d_l_law_650 : decode code 650 = .ok (.aload_n 3, 1) := by decide +kernel
theorem d_l_law_651 : decode code 651 = .ok (.invokestatic 119, 3) := by decide +kernel
theorem d_l_law_654 : decode code 654 = .ok (.istore 5, 2) := by decide +kernel
theorem d_l_law_656 : decode code 656 = .ok (.aload_n 2, 1) := by decide +kernel
theorem d_l_law_657 : decode code 657 = .ok (.aload_n 0, 1) := by decide +kernel
theorem d_l_law_658 : decode code 658 = .ok (.iload 4, 2) := by decide +kernel
theorem d_l_law_660 : decode code 660 = .ok (.iconst 1, 1) := by decide +kernel
theorem d_l_law_661 : decode code 661 = .ok (.iadd, 1) := by decide +kernel
theorem d_l_law_662 : decode code 662 = .ok (.iaload, 1) := by decide +kernel
theorem d_l_law_663 : decode code 663 = .ok (.invokevirtual 121, 3) := by decide +kernel
theorem d_l_law_666 : decode code 666 = .ok (.istore 6, 2) := by decide +kernel
theorem d_l_law_668 : decode code 668 = .ok (.aload_n 2, 1) := by decide +kernel
theorem d_l_law_669 : decode code 669 = .ok (.invokevirtual 81, 3) := by decide +kernel
theorem d_l_law_672 : decode code 672 = .ok (.iload 5, 2) := by decide +kernel
theorem d_l_law_674 : decode code 674 = .ok (.if_icmp .eq 5, 3) := by decide +kernel
theorem d_l_law_677 : decode code 677 = .ok (.iconst 0, 1) := by decide +kernel
theorem d_l_law_678 : decode code 678 = .ok (.ireturn, 1) := by decide +kernel
theorem d_l_law_679 : decode code 679 = .ok (.iload 5, 2) := by decide +kernel
theorem d_l_law_681 : decode code 681 = .ok (.ifCond .ne 22, 3) := by decide +kernel
theorem d_l_law_684 : decode code 684 = .ok (.aload_n 3, 1) := by decide +kernel
theorem d_l_law_685 : decode code 685 = .ok (.iconst 0, 1) := by decide +kernel
theorem d_l_law_686 : decode code 686 = .ok (.laload, 1) := by decide +kernel
theorem d_l_law_687 : decode code 687 = .ok (.iload 6, 2) := by decide +kernel
theorem d_l_law_689 : decode code 689 = .ok (.ifCond .eq 7, 3) := by decide +kernel
theorem d_l_law_692 : decode code 692 = .ok (.lconst 1, 1) := by decide +kernel
theorem d_l_law_693 : decode code 693 = .ok (.goto 4, 3) := by decide +kernel
theorem d_l_law_696 : decode code 696 = .ok (.lconst 0, 1) := by decide +kernel
theorem d_l_law_697 : decode code 697 = .ok (.lcmp, 1) := by decide +kernel
theorem d_l_law_698 : decode code 698 = .ok (.ifCond .eq 5, 3) := by decide +kernel
theorem d_l_law_701 : decode code 701 = .ok (.iconst 0, 1) := by decide +kernel
theorem d_l_law_702 : decode code 702 = .ok (.ireturn, 1) := by decide +kernel
theorem d_l_law_703 : decode code 703 = .ok (.goto 305, 3) := by decide +kernel
theorem d_l_law_706 : decode code 706 = .ok (.aload_n 1, 1) := by decide +kernel
theorem d_l_law_707 : decode code 707 = .ok (.aload_n 3, 1) := by decide +kernel
theorem d_l_law_708 : decode code 708 = .ok (.invokestatic 122, 3) := by decide +kernel
theorem d_l_law_711 : decode code 711 = .ok (.istore 5, 2) := by decide +kernel
theorem d_l_law_713 : decode code 713 = .ok (.aload_n 2, 1) := by decide +kernel
theorem d_l_law_714 : decode code 714 = .ok (.invokevirtual 124, 3) := by decide +kernel
theorem d_l_law_717 : decode code 717 = .ok (.istore 6, 2) := by decide +kernel
theorem d_l_law_719 : decode code 719 = .ok (.aload_n 2, 1) := by decide +kernel
theorem d_l_law_720 : decode code 720 = .ok (.invokevirtual 81, 3) := by decide +kernel
theorem d_l_law_723 : decode code 723 = .ok (.iload 5, 2) := by decide +kernel
theorem d_l_law_725 : decode code 725 = .ok (.if_icmp .eq 5, 3) := by decide +kernel
theorem d_l_law_728 : decode code 728 = .ok (.iconst 0, 1) := by decide +kernel
theorem d_l_law_729 : decode code 729 = .ok (.ireturn, 1) := by decide +kernel
theorem d_l_law_730 : decode code 730 = .ok (.iload 5, 2) := by decide +kernel
theorem d_l_law_732 : decode code 732 = .ok (.ifCond .ne 22, 3) := by decide +kernel
theorem d_l_law_735 : decode code 735 = .ok (.aload_n 3, 1) := by decide +kernel
theorem d_l_law_736 : decode code 736 = .ok (.iconst 0, 1) := by decide +kernel
theorem d_l_law_737 : decode code 737 = .ok (.laload, 1) := by decide +kernel
theorem d_l_law_738 : decode code 738 = .ok (.iload 6, 2) := by decide +kernel
theorem d_l_law_740 : decode code 740 = .ok (.ifCond .eq 7, 3) := by decide +kernel
theorem d_l_law_743 : decode code 743 = .ok (.lconst 1, 1) := by decide +kernel
theorem d_l_law_744 : decode code 744 = .ok (.goto 4, 3) := by decide +kernel
theorem d_l_law_747 : decode code 747 = .ok (.lconst 0, 1) := by decide +kernel
theorem d_l_law_748 : decode code 748 = .ok (.lcmp, 1) := by decide +kernel
theorem d_l_law_749 : decode code 749 = .ok (.ifCond .eq 5, 3) := by decide +kernel
theorem d_l_law_752 : decode code 752 = .ok (.iconst 0, 1) := by decide +kernel
theorem d_l_law_753 : decode code 753 = .ok (.ireturn, 1) := by decide +kernel
theorem d_l_law_754 : decode code 754 = .ok (.goto 254, 3) := by decide +kernel
theorem d_l_law_757 : decode code 757 = .ok (.aload_n 1, 1) := by decide +kernel
theorem d_l_law_758 : decode code 758 = .ok (.invokevirtual 125, 3) := by decide +kernel
theorem d_l_law_761 : decode code 761 = .ok (.aload_n 2, 1) := by decide +kernel
theorem d_l_law_762 : decode code 762 = .ok (.invokevirtual 128, 3) := by decide +kernel
theorem d_l_law_765 : decode code 765 = .ok (.if_icmp .eq 243, 3) := by decide +kernel
theorem d_l_law_768 : decode code 768 = .ok (.iconst 0, 1) := by decide +kernel
theorem d_l_law_769 : decode code 769 = .ok (.ireturn, 1) := by decide +kernel
theorem d_l_law_770 : decode code 770 = .ok (.aload_n 1, 1) := by decide +kernel
theorem d_l_law_771 : decode code 771 = .ok (.invokevirtual 129, 3) := by decide +kernel
theorem d_l_law_774 : decode code 774 = .ok (.aload_n 2, 1) := by decide +kernel
theorem d_l_law_775 : decode code 775 = .ok (.invokevirtual 132, 3) := by decide +kernel
theorem d_l_law_778 : decode code 778 = .ok (.if_icmp .eq 230, 3) := by decide +kernel
theorem d_l_law_781 : decode code 781 = .ok (.iconst 0, 1) := by decide +kernel
theorem d_l_law_782 : decode code 782 = .ok (.ireturn, 1) := by decide +kernel
theorem d_l_law_783 : decode code 783 = .ok (.aload_n 1, 1) := by decide +kernel
theorem d_l_law_784 : decode code 784 = .ok (.aload_n 3, 1) := by decide +kernel
theorem d_l_law_785 : decode code 785 = .ok (.invokestatic 133, 3) := by decide +kernel
theorem d_l_law_788 : decode code 788 = .ok (.istore 5, 2) := by decide +kernel
theorem d_l_law_790 : decode code 790 = .ok (.aload_n 2, 1) := by decide +kernel
theorem d_l_law_791 : decode code 791 = .ok (.invokevirtual 135, 3) := by decide +kernel
theorem d_l_law_794 : decode code 794 = .ok (.istore 6, 2) := by decide +kernel
theorem d_l_law_796 : decode code 796 = .ok (.aload_n 2, 1) := by decide +kernel
theorem d_l_law_797 : decode code 797 = .ok (.invokevirtual 81, 3) := by decide +kernel
theorem d_l_law_800 : decode code 800 = .ok (.iload 5, 2) := by decide +kernel
theorem d_l_law_802 : decode code 802 = .ok (.if_icmp .eq 5, 3) := by decide +kernel
theorem d_l_law_805 : decode code 805 = .ok (.iconst 0, 1) := by decide +kernel
theorem d_l_law_806 : decode code 806 = .ok (.ireturn, 1) := by decide +kernel
theorem d_l_law_807 : decode code 807 = .ok (.iload 5, 2) := by decide +kernel
theorem d_l_law_809 : decode code 809 = .ok (.ifCond .ne 15, 3) := by decide +kernel
theorem d_l_law_812 : decode code 812 = .ok (.aload_n 3, 1) := by decide +kernel
theorem d_l_law_813 : decode code 813 = .ok (.iconst 0, 1) := by decide +kernel
theorem d_l_law_814 : decode code 814 = .ok (.laload, 1) := by decide +kernel
theorem d_l_law_815 : decode code 815 = .ok (.iload 6, 2) := by decide +kernel
theorem d_l_law_817 : decode code 817 = .ok (.i2l, 1) := by decide +kernel
theorem d_l_law_818 : decode code 818 = .ok (.lcmp, 1) := by decide +kernel
theorem d_l_law_819 : decode code 819 = .ok (.ifCond .eq 5, 3) := by decide +kernel
theorem d_l_law_822 : decode code 822 = .ok (.iconst 0, 1) := by decide +kernel
theorem d_l_law_823 : decode code 823 = .ok (.ireturn, 1) := by decide +kernel
theorem d_l_law_824 : decode code 824 = .ok (.goto 184, 3) := by decide +kernel
theorem d_l_law_827 : decode code 827 = .ok (.aload_n 1, 1) := by decide +kernel
theorem d_l_law_828 : decode code 828 = .ok (.invokevirtual 136, 3) := by decide +kernel
theorem d_l_law_831 : decode code 831 = .ok (.aload_n 2, 1) := by decide +kernel
theorem d_l_law_832 : decode code 832 = .ok (.invokevirtual 139, 3) := by decide +kernel
theorem d_l_law_835 : decode code 835 = .ok (.if_icmp .eq 173, 3) := by decide +kernel
theorem d_l_law_838 : decode code 838 = .ok (.iconst 0, 1) := by decide +kernel
theorem d_l_law_839 : decode code 839 = .ok (.ireturn, 1) := by decide +kernel
theorem d_l_law_840 : decode code 840 = .ok (.aload_n 1, 1) := by decide +kernel
theorem d_l_law_841 : decode code 841 = .ok (.aload_n 0, 1) := by decide +kernel
theorem d_l_law_842 : decode code 842 = .ok (.iload 4, 2) := by decide +kernel
theorem d_l_law_844 : decode code 844 = .ok (.iconst 1, 1) := by decide +kernel
theorem d_l_law_845 : decode code 845 = .ok (.iadd, 1) := by decide +kernel
theorem d_l_law_846 : decode code 846 = .ok (.iaload, 1) := by decide +kernel
theorem d_l_law_847 : decode code 847 = .ok (.aload_n 3, 1) := by decide +kernel
theorem d_l_law_848 : decode code 848 = .ok (.invokestatic 140, 3) := by decide +kernel
theorem d_l_law_851 : decode code 851 = .ok (.istore 5, 2) := by decide +kernel
theorem d_l_law_853 : decode code 853 = .ok (.aload_n 2, 1) := by decide +kernel
theorem d_l_law_854 : decode code 854 = .ok (.aload_n 0, 1) := by decide +kernel
theorem d_l_law_855 : decode code 855 = .ok (.iload 4, 2) := by decide +kernel
theorem d_l_law_857 : decode code 857 = .ok (.iconst 1, 1) := by decide +kernel
theorem d_l_law_858 : decode code 858 = .ok (.iadd, 1) := by decide +kernel
theorem d_l_law_859 : decode code 859 = .ok (.iaload, 1) := by decide +kernel
theorem d_l_law_860 : decode code 860 = .ok (.invokevirtual 142, 3) := by decide +kernel
theorem d_l_law_863 : decode code 863 = .ok (.istore 6, 2) := by decide +kernel
theorem d_l_law_865 : decode code 865 = .ok (.aload_n 2, 1) := by decide +kernel
theorem d_l_law_866 : decode code 866 = .ok (.invokevirtual 81, 3) := by decide +kernel
theorem d_l_law_869 : decode code 869 = .ok (.iload 5, 2) := by decide +kernel
theorem d_l_law_871 : decode code 871 = .ok (.if_icmp .eq 5, 3) := by decide +kernel
theorem d_l_law_874 : decode code 874 = .ok (.iconst 0, 1) := by decide +kernel
theorem d_l_law_875 : decode code 875 = .ok (.ireturn, 1) := by decide +kernel
theorem d_l_law_876 : decode code 876 = .ok (.iload 5, 2) := by decide +kernel
theorem d_l_law_878 : decode code 878 = .ok (.ifCond .ne 15, 3) := by decide +kernel
theorem d_l_law_881 : decode code 881 = .ok (.aload_n 3, 1) := by decide +kernel
theorem d_l_law_882 : decode code 882 = .ok (.iconst 0, 1) := by decide +kernel
theorem d_l_law_883 : decode code 883 = .ok (.laload, 1) := by decide +kernel
theorem d_l_law_884 : decode code 884 = .ok (.iload 6, 2) := by decide +kernel
theorem d_l_law_886 : decode code 886 = .ok (.i2l, 1) := by decide +kernel
theorem d_l_law_887 : decode code 887 = .ok (.lcmp, 1) := by decide +kernel
theorem d_l_law_888 : decode code 888 = .ok (.ifCond .eq 5, 3) := by decide +kernel
theorem d_l_law_891 : decode code 891 = .ok (.iconst 0, 1) := by decide +kernel
theorem d_l_law_892 : decode code 892 = .ok (.ireturn, 1) := by decide +kernel
theorem d_l_law_893 : decode code 893 = .ok (.goto 115, 3) := by decide +kernel
theorem d_l_law_896 : decode code 896 = .ok (.aload_n 1, 1) := by decide +kernel
theorem d_l_law_897 : decode code 897 = .ok (.aload_n 0, 1) := by decide +kernel
theorem d_l_law_898 : decode code 898 = .ok (.iload 4, 2) := by decide +kernel
theorem d_l_law_900 : decode code 900 = .ok (.iconst 1, 1) := by decide +kernel
theorem d_l_law_901 : decode code 901 = .ok (.iadd, 1) := by decide +kernel
theorem d_l_law_902 : decode code 902 = .ok (.iaload, 1) := by decide +kernel
theorem d_l_law_903 : decode code 903 = .ok (.aload_n 0, 1) := by decide +kernel
theorem d_l_law_904 : decode code 904 = .ok (.iload 4, 2) := by decide +kernel
theorem d_l_law_906 : decode code 906 = .ok (.iconst 2, 1) := by decide +kernel
theorem d_l_law_907 : decode code 907 = .ok (.iadd, 1) := by decide +kernel
theorem d_l_law_908 : decode code 908 = .ok (.iaload, 1) := by decide +kernel
theorem d_l_law_909 : decode code 909 = .ok (.aload_n 3, 1) := by decide +kernel
theorem d_l_law_910 : decode code 910 = .ok (.invokestatic 143, 3) := by decide +kernel
theorem d_l_law_913 : decode code 913 = .ok (.istore 5, 2) := by decide +kernel
theorem d_l_law_915 : decode code 915 = .ok (.aload_n 2, 1) := by decide +kernel
theorem d_l_law_916 : decode code 916 = .ok (.aload_n 0, 1) := by decide +kernel
theorem d_l_law_917 : decode code 917 = .ok (.iload 4, 2) := by decide +kernel
theorem d_l_law_919 : decode code 919 = .ok (.iconst 1, 1) := by decide +kernel
theorem d_l_law_920 : decode code 920 = .ok (.iadd, 1) := by decide +kernel
theorem d_l_law_921 : decode code 921 = .ok (.iaload, 1) := by decide +kernel
theorem d_l_law_922 : decode code 922 = .ok (.aload_n 0, 1) := by decide +kernel
theorem d_l_law_923 : decode code 923 = .ok (.iload 4, 2) := by decide +kernel
theorem d_l_law_925 : decode code 925 = .ok (.iconst 2, 1) := by decide +kernel
theorem d_l_law_926 : decode code 926 = .ok (.iadd, 1) := by decide +kernel
theorem d_l_law_927 : decode code 927 = .ok (.iaload, 1) := by decide +kernel
theorem d_l_law_928 : decode code 928 = .ok (.invokevirtual 145, 3) := by decide +kernel
theorem d_l_law_931 : decode code 931 = .ok (.istore 6, 2) := by decide +kernel
theorem d_l_law_933 : decode code 933 = .ok (.aload_n 2, 1) := by decide +kernel
theorem d_l_law_934 : decode code 934 = .ok (.invokevirtual 81, 3) := by decide +kernel
theorem d_l_law_937 : decode code 937 = .ok (.iload 5, 2) := by decide +kernel
theorem d_l_law_939 : decode code 939 = .ok (.if_icmp .eq 5, 3) := by decide +kernel
theorem d_l_law_942 : decode code 942 = .ok (.iconst 0, 1) := by decide +kernel
theorem d_l_law_943 : decode code 943 = .ok (.ireturn, 1) := by decide +kernel
theorem d_l_law_944 : decode code 944 = .ok (.iload 5, 2) := by decide +kernel
theorem d_l_law_946 : decode code 946 = .ok (.ifCond .ne 15, 3) := by decide +kernel
theorem d_l_law_949 : decode code 949 = .ok (.aload_n 3, 1) := by decide +kernel
theorem d_l_law_950 : decode code 950 = .ok (.iconst 0, 1) := by decide +kernel
theorem d_l_law_951 : decode code 951 = .ok (.laload, 1) := by decide +kernel
theorem d_l_law_952 : decode code 952 = .ok (.iload 6, 2) := by decide +kernel
theorem d_l_law_954 : decode code 954 = .ok (.i2l, 1) := by decide +kernel
theorem d_l_law_955 : decode code 955 = .ok (.lcmp, 1) := by decide +kernel
theorem d_l_law_956 : decode code 956 = .ok (.ifCond .eq 5, 3) := by decide +kernel
theorem d_l_law_959 : decode code 959 = .ok (.iconst 0, 1) := by decide +kernel
theorem d_l_law_960 : decode code 960 = .ok (.ireturn, 1) := by decide +kernel
theorem d_l_law_961 : decode code 961 = .ok (.goto 47, 3) := by decide +kernel
theorem d_l_law_964 : decode code 964 = .ok (.aload_n 1, 1) := by decide +kernel
theorem d_l_law_965 : decode code 965 = .ok (.aload_n 3, 1) := by decide +kernel
theorem d_l_law_966 : decode code 966 = .ok (.invokestatic 146, 3) := by decide +kernel
theorem d_l_law_969 : decode code 969 = .ok (.istore 5, 2) := by decide +kernel
theorem d_l_law_971 : decode code 971 = .ok (.aload_n 2, 1) := by decide +kernel
theorem d_l_law_972 : decode code 972 = .ok (.invokevirtual 148, 3) := by decide +kernel
theorem d_l_law_975 : decode code 975 = .ok (.istore 6, 2) := by decide +kernel
theorem d_l_law_977 : decode code 977 = .ok (.aload_n 2, 1) := by decide +kernel
theorem d_l_law_978 : decode code 978 = .ok (.invokevirtual 81, 3) := by decide +kernel
theorem d_l_law_981 : decode code 981 = .ok (.iload 5, 2) := by decide +kernel
theorem d_l_law_983 : decode code 983 = .ok (.if_icmp .eq 5, 3) := by decide +kernel
theorem d_l_law_986 : decode code 986 = .ok (.iconst 0, 1) := by decide +kernel
theorem d_l_law_987 : decode code 987 = .ok (.ireturn, 1) := by decide +kernel
theorem d_l_law_988 : decode code 988 = .ok (.iload 5, 2) := by decide +kernel
theorem d_l_law_990 : decode code 990 = .ok (.ifCond .ne 15, 3) := by decide +kernel
theorem d_l_law_993 : decode code 993 = .ok (.aload_n 3, 1) := by decide +kernel
theorem d_l_law_994 : decode code 994 = .ok (.iconst 0, 1) := by decide +kernel
theorem d_l_law_995 : decode code 995 = .ok (.laload, 1) := by decide +kernel
theorem d_l_law_996 : decode code 996 = .ok (.iload 6, 2) := by decide +kernel
theorem d_l_law_998 : decode code 998 = .ok (.i2l, 1) := by decide +kernel
theorem d_l_law_999 : decode code 999 = .ok (.lcmp, 1) := by decide +kernel
theorem d_l_law_1000 : decode code 1000 = .ok (.ifCond .eq 5, 3) := by decide +kernel
theorem d_l_law_1003 : decode code 1003 = .ok (.iconst 0, 1) := by decide +kernel
theorem d_l_law_1004 : decode code 1004 = .ok (.ireturn, 1) := by decide +kernel
theorem d_l_law_1005 : decode code 1005 = .ok (.goto 3, 3) := by decide +kernel
theorem d_l_law_1008 : decode code 1008 = .ok (.iinc 4 3, 3) := by decide +kernel
theorem d_l_law_1011 : decode code 1011 = .ok (.goto (-988), 3) := by decide +kernel
theorem d_l_law_1014 : decode code 1014 = .ok (.iconst 1, 1) := by decide +kernel
theorem d_l_law_1015 : decode code 1015 = .ok (.ireturn, 1) := by decide +kernel
