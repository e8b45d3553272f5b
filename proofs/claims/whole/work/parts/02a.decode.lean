theorem d_ps_init_0 : decode prog_2_method_1_code 0 = .ok (.aload_n 0, 1) := by decide +kernel
theorem d_ps_init_1 : decode prog_2_method_1_code 1 = .ok (.invokespecial 1, 3) := by decide +kernel
theorem d_ps_init_4 : decode prog_2_method_1_code 4 = .ok (.return_, 1) := by decide +kernel
theorem d_ps_clear_0 : decode prog_2_method_8_code 0 = .ok (.aload_n 0, 1) := by decide +kernel
theorem d_ps_clear_1 : decode prog_2_method_8_code 1 = .ok (.lconst 0, 1) := by decide +kernel
theorem d_ps_clear_2 : decode prog_2_method_8_code 2 = .ok (.putfield 15, 3) := by decide +kernel
theorem d_ps_clear_5 : decode prog_2_method_8_code 5 = .ok (.aload_n 0, 1) := by decide +kernel
theorem d_ps_clear_6 : decode prog_2_method_8_code 6 = .ok (.lconst 0, 1) := by decide +kernel
theorem d_ps_clear_7 : decode prog_2_method_8_code 7 = .ok (.putfield 23, 3) := by decide +kernel
theorem d_ps_clear_10 : decode prog_2_method_8_code 10 = .ok (.return_, 1) := by decide +kernel
theorem d_ps_add_0 : decode prog_2_method_6_code 0 = .ok (.aload_n 0, 1) := by decide +kernel
theorem d_ps_add_1 : decode prog_2_method_6_code 1 = .ok (.dup, 1) := by decide +kernel
theorem d_ps_add_2 : decode prog_2_method_6_code 2 = .ok (.getfield 15, 3) := by decide +kernel
theorem d_ps_add_5 : decode prog_2_method_6_code 5 = .ok (.iload_n 1, 1) := by decide +kernel
theorem d_ps_add_6 : decode prog_2_method_6_code 6 = .ok (.invokestatic 19, 3) := by decide +kernel
theorem d_ps_add_9 : decode prog_2_method_6_code 9 = .ok (.lor, 1) := by decide +kernel
theorem d_ps_add_10 : decode prog_2_method_6_code 10 = .ok (.putfield 15, 3) := by decide +kernel
theorem d_ps_add_13 : decode prog_2_method_6_code 13 = .ok (.aload_n 0, 1) := by decide +kernel
theorem d_ps_add_14 : decode prog_2_method_6_code 14 = .ok (.dup, 1) := by decide +kernel
theorem d_ps_add_15 : decode prog_2_method_6_code 15 = .ok (.getfield 23, 3) := by decide +kernel
theorem d_ps_add_18 : decode prog_2_method_6_code 18 = .ok (.iload_n 1, 1) := by decide +kernel
theorem d_ps_add_19 : decode prog_2_method_6_code 19 = .ok (.invokestatic 26, 3) := by decide +kernel
theorem d_ps_add_22 : decode prog_2_method_6_code 22 = .ok (.lor, 1) := by decide +kernel
theorem d_ps_add_23 : decode prog_2_method_6_code 23 = .ok (.putfield 23, 3) := by decide +kernel
theorem d_ps_add_26 : decode prog_2_method_6_code 26 = .ok (.return_, 1) := by decide +kernel
theorem d_ps_lowBit_0 : decode prog_2_method_2_code 0 = .ok (.iload_n 0, 1) := by decide +kernel
theorem d_ps_lowBit_1 : decode prog_2_method_2_code 1 = .ok (.ifCond .lt 15, 3) := by decide +kernel
theorem d_ps_lowBit_4 : decode prog_2_method_2_code 4 = .ok (.iload_n 0, 1) := by decide +kernel
theorem d_ps_lowBit_5 : decode prog_2_method_2_code 5 = .ok (.bipush 64, 2) := by decide +kernel
theorem d_ps_lowBit_7 : decode prog_2_method_2_code 7 = .ok (.if_icmp .ge 9, 3) := by decide +kernel
theorem d_ps_lowBit_10 : decode prog_2_method_2_code 10 = .ok (.lconst 1, 1) := by decide +kernel
theorem d_ps_lowBit_11 : decode prog_2_method_2_code 11 = .ok (.iload_n 0, 1) := by decide +kernel
theorem d_ps_lowBit_12 : decode prog_2_method_2_code 12 = .ok (.lshl, 1) := by decide +kernel
theorem d_ps_lowBit_13 : decode prog_2_method_2_code 13 = .ok (.goto 4, 3) := by decide +kernel
theorem d_ps_lowBit_16 : decode prog_2_method_2_code 16 = .ok (.lconst 0, 1) := by decide +kernel
theorem d_ps_lowBit_17 : decode prog_2_method_2_code 17 = .ok (.lreturn, 1) := by decide +kernel
theorem d_ps_highBit_0 : decode prog_2_method_3_code 0 = .ok (.iload_n 0, 1) := by decide +kernel
theorem d_ps_highBit_1 : decode prog_2_method_3_code 1 = .ok (.bipush 64, 2) := by decide +kernel
theorem d_ps_highBit_3 : decode prog_2_method_3_code 3 = .ok (.if_icmp .lt 19, 3) := by decide +kernel
theorem d_ps_highBit_6 : decode prog_2_method_3_code 6 = .ok (.iload_n 0, 1) := by decide +kernel
theorem d_ps_highBit_7 : decode prog_2_method_3_code 7 = .ok (.sipush 128, 3) := by decide +kernel
theorem d_ps_highBit_10 : decode prog_2_method_3_code 10 = .ok (.if_icmp .ge 12, 3) := by decide +kernel
theorem d_ps_highBit_13 : decode prog_2_method_3_code 13 = .ok (.lconst 1, 1) := by decide +kernel
theorem d_ps_highBit_14 : decode prog_2_method_3_code 14 = .ok (.iload_n 0, 1) := by decide +kernel
theorem d_ps_highBit_15 : decode prog_2_method_3_code 15 = .ok (.bipush 64, 2) := by decide +kernel
theorem d_ps_highBit_17 : decode prog_2_method_3_code 17 = .ok (.isub, 1) := by decide +kernel
theorem d_ps_highBit_18 : decode prog_2_method_3_code 18 = .ok (.lshl, 1) := by decide +kernel
theorem d_ps_highBit_19 : decode prog_2_method_3_code 19 = .ok (.goto 4, 3) := by decide +kernel
theorem d_ps_highBit_22 : decode prog_2_method_3_code 22 = .ok (.lconst 0, 1) := by decide +kernel
theorem d_ps_highBit_23 : decode prog_2_method_3_code 23 = .ok (.lreturn, 1) := by decide +kernel
theorem d_ps_has_0 : decode prog_2_method_5_code 0 = .ok (.aload_n 0, 1) := by decide +kernel
theorem d_ps_has_1 : decode prog_2_method_5_code 1 = .ok (.getfield 15, 3) := by decide +kernel
theorem d_ps_has_4 : decode prog_2_method_5_code 4 = .ok (.iload_n 1, 1) := by decide +kernel
theorem d_ps_has_5 : decode prog_2_method_5_code 5 = .ok (.invokestatic 19, 3) := by decide +kernel
theorem d_ps_has_8 : decode prog_2_method_5_code 8 = .ok (.land, 1) := by decide +kernel
theorem d_ps_has_9 : decode prog_2_method_5_code 9 = .ok (.lconst 0, 1) := by decide +kernel
theorem d_ps_has_10 : decode prog_2_method_5_code 10 = .ok (.lcmp, 1) := by decide +kernel
theorem d_ps_has_11 : decode prog_2_method_5_code 11 = .ok (.ifCond .ne 17, 3) := by decide +kernel
theorem d_ps_has_14 : decode prog_2_method_5_code 14 = .ok (.aload_n 0, 1) := by decide +kernel
theorem d_ps_has_15 : decode prog_2_method_5_code 15 = .ok (.getfield 23, 3) := by decide +kernel
theorem d_ps_has_18 : decode prog_2_method_5_code 18 = .ok (.iload_n 1, 1) := by decide +kernel
theorem d_ps_has_19 : decode prog_2_method_5_code 19 = .ok (.invokestatic 26, 3) := by decide +kernel
theorem d_ps_has_22 : decode prog_2_method_5_code 22 = .ok (.land, 1) := by decide +kernel
theorem d_ps_has_23 : decode prog_2_method_5_code 23 = .ok (.lconst 0, 1) := by decide +kernel
theorem d_ps_has_24 : decode prog_2_method_5_code 24 = .ok (.lcmp, 1) := by decide +kernel
theorem d_ps_has_25 : decode prog_2_method_5_code 25 = .ok (.ifCond .eq 7, 3) := by decide +kernel
theorem d_ps_has_28 : decode prog_2_method_5_code 28 = .ok (.iconst 1, 1) := by decide +kernel
theorem d_ps_has_29 : decode prog_2_method_5_code 29 = .ok (.goto 4, 3) := by decide +kernel
theorem d_ps_has_32 : decode prog_2_method_5_code 32 = .ok (.iconst 0, 1) := by decide +kernel
theorem d_ps_has_33 : decode prog_2_method_5_code 33 = .ok (.ireturn, 1) := by decide +kernel
theorem d_ps_next_0 : decode prog_2_method_15_code 0 = .ok (.iload_n 1, 1) := by decide +kernel
theorem d_ps_next_1 : decode prog_2_method_15_code 1 = .ok (.bipush 64, 2) := by decide +kernel
theorem d_ps_next_3 : decode prog_2_method_15_code 3 = .ok (.if_icmp .ge 16, 3) := by decide +kernel
theorem d_ps_next_6 : decode prog_2_method_15_code 6 = .ok (.aload_n 0, 1) := by decide +kernel
theorem d_ps_next_7 : decode prog_2_method_15_code 7 = .ok (.getfield 15, 3) := by decide +kernel
theorem d_ps_next_10 : decode prog_2_method_15_code 10 = .ok (.iload_n 1, 1) := by decide +kernel
theorem d_ps_next_11 : decode prog_2_method_15_code 11 = .ok (.invokestatic 19, 3) := by decide +kernel
theorem d_ps_next_14 : decode prog_2_method_15_code 14 = .ok (.lneg, 1) := by decide +kernel
theorem d_ps_next_15 : decode prog_2_method_15_code 15 = .ok (.land, 1) := by decide +kernel
theorem d_ps_next_16 : decode prog_2_method_15_code 16 = .ok (.goto 4, 3) := by decide +kernel
theorem d_ps_next_19 : decode prog_2_method_15_code 19 = .ok (.lconst 0, 1) := by decide +kernel
theorem d_ps_next_20 : decode prog_2_method_15_code 20 = .ok (.lstore_n 2, 1) := by decide +kernel
theorem d_ps_next_21 : decode prog_2_method_15_code 21 = .ok (.lload_n 2, 1) := by decide +kernel
theorem d_ps_next_22 : decode prog_2_method_15_code 22 = .ok (.lconst 0, 1) := by decide +kernel
theorem d_ps_next_23 : decode prog_2_method_15_code 23 = .ok (.lcmp, 1) := by decide +kernel
theorem d_ps_next_24 : decode prog_2_method_15_code 24 = .ok (.ifCond .eq 8, 3) := by decide +kernel
theorem d_ps_next_27 : decode prog_2_method_15_code 27 = .ok (.lload_n 2, 1) := by decide +kernel
theorem d_ps_next_28 : decode prog_2_method_15_code 28 = .ok (.invokestatic 31, 3) := by decide +kernel
theorem d_ps_next_31 : decode prog_2_method_15_code 31 = .ok (.ireturn, 1) := by decide +kernel
theorem d_ps_next_32 : decode prog_2_method_15_code 32 = .ok (.iload_n 1, 1) := by decide +kernel
theorem d_ps_next_33 : decode prog_2_method_15_code 33 = .ok (.bipush 64, 2) := by decide +kernel
theorem d_ps_next_35 : decode prog_2_method_15_code 35 = .ok (.if_icmp .ge 10, 3) := by decide +kernel
theorem d_ps_next_38 : decode prog_2_method_15_code 38 = .ok (.aload_n 0, 1) := by decide +kernel
theorem d_ps_next_39 : decode prog_2_method_15_code 39 = .ok (.getfield 23, 3) := by decide +kernel
theorem d_ps_next_42 : decode prog_2_method_15_code 42 = .ok (.goto 13, 3) := by decide +kernel
theorem d_ps_next_45 : decode prog_2_method_15_code 45 = .ok (.aload_n 0, 1) := by decide +kernel
theorem d_ps_next_46 : decode prog_2_method_15_code 46 = .ok (.getfield 23, 3) := by decide +kernel
theorem d_ps_next_49 : decode prog_2_method_15_code 49 = .ok (.iload_n 1, 1) := by decide +kernel
theorem d_ps_next_50 : decode prog_2_method_15_code 50 = .ok (.invokestatic 26, 3) := by decide +kernel
theorem d_ps_next_53 : decode prog_2_method_15_code 53 = .ok (.lneg, 1) := by decide +kernel
theorem d_ps_next_54 : decode prog_2_method_15_code 54 = .ok (.land, 1) := by decide +kernel
theorem d_ps_next_55 : decode prog_2_method_15_code 55 = .ok (.lstore 4, 2) := by decide +kernel
theorem d_ps_next_57 : decode prog_2_method_15_code 57 = .ok (.lload 4, 2) := by decide +kernel
theorem d_ps_next_59 : decode prog_2_method_15_code 59 = .ok (.lconst 0, 1) := by decide +kernel
theorem d_ps_next_60 : decode prog_2_method_15_code 60 = .ok (.lcmp, 1) := by decide +kernel
theorem d_ps_next_61 : decode prog_2_method_15_code 61 = .ok (.ifCond .eq 14, 3) := by decide +kernel
theorem d_ps_next_64 : decode prog_2_method_15_code 64 = .ok (.bipush 64, 2) := by decide +kernel
theorem d_ps_next_66 : decode prog_2_method_15_code 66 = .ok (.lload 4, 2) := by decide +kernel
theorem d_ps_next_68 : decode prog_2_method_15_code 68 = .ok (.invokestatic 31, 3) := by decide +kernel
theorem d_ps_next_71 : decode prog_2_method_15_code 71 = .ok (.iadd, 1) := by decide +kernel
theorem d_ps_next_72 : decode prog_2_method_15_code 72 = .ok (.goto 6, 3) := by decide +kernel
theorem d_ps_next_75 : decode prog_2_method_15_code 75 = .ok (.sipush 128, 3) := by decide +kernel
theorem d_ps_next_78 : decode prog_2_method_15_code 78 = .ok (.ireturn, 1) := by decide +kernel
theorem d_ps_lowest_0 : decode prog_2_method_4_code 0 = .ok (.lload_n 0, 1) := by decide +kernel
theorem d_ps_lowest_1 : decode prog_2_method_4_code 1 = .ok (.lload_n 0, 1) := by decide +kernel
theorem d_ps_lowest_2 : decode prog_2_method_4_code 2 = .ok (.lneg, 1) := by decide +kernel
theorem d_ps_lowest_3 : decode prog_2_method_4_code 3 = .ok (.land, 1) := by decide +kernel
theorem d_ps_lowest_4 : decode prog_2_method_4_code 4 = .ok (.lconst 1, 1) := by decide +kernel
theorem d_ps_lowest_5 : decode prog_2_method_4_code 5 = .ok (.lsub, 1) := by decide +kernel
theorem d_ps_lowest_6 : decode prog_2_method_4_code 6 = .ok (.invokestatic 9, 3) := by decide +kernel
theorem d_ps_lowest_9 : decode prog_2_method_4_code 9 = .ok (.ireturn, 1) := by decide +kernel
theorem d_jl_bitCount_0 : decode prog_8_method_50_code 0 = .ok (.lload_n 0, 1) := by decide +kernel
theorem d_jl_bitCount_1 : decode prog_8_method_50_code 1 = .ok (.lload_n 0, 1) := by decide +kernel
theorem d_jl_bitCount_2 : decode prog_8_method_50_code 2 = .ok (.iconst 1, 1) := by decide +kernel
theorem d_jl_bitCount_3 : decode prog_8_method_50_code 3 = .ok (.lushr, 1) := by decide +kernel
theorem d_jl_bitCount_4 : decode prog_8_method_50_code 4 = .ok (.ldc2_w 314, 3) := by decide +kernel
theorem d_jl_bitCount_7 : decode prog_8_method_50_code 7 = .ok (.land, 1) := by decide +kernel
theorem d_jl_bitCount_8 : decode prog_8_method_50_code 8 = .ok (.lsub, 1) := by decide +kernel
theorem d_jl_bitCount_9 : decode prog_8_method_50_code 9 = .ok (.lstore_n 0, 1) := by decide +kernel
theorem d_jl_bitCount_10 : decode prog_8_method_50_code 10 = .ok (.lload_n 0, 1) := by decide +kernel
theorem d_jl_bitCount_11 : decode prog_8_method_50_code 11 = .ok (.ldc2_w 316, 3) := by decide +kernel
theorem d_jl_bitCount_14 : decode prog_8_method_50_code 14 = .ok (.land, 1) := by decide +kernel
theorem d_jl_bitCount_15 : decode prog_8_method_50_code 15 = .ok (.lload_n 0, 1) := by decide +kernel
theorem d_jl_bitCount_16 : decode prog_8_method_50_code 16 = .ok (.iconst 2, 1) := by decide +kernel
theorem d_jl_bitCount_17 : decode prog_8_method_50_code 17 = .ok (.lushr, 1) := by decide +kernel
theorem d_jl_bitCount_18 : decode prog_8_method_50_code 18 = .ok (.ldc2_w 316, 3) := by decide +kernel
theorem d_jl_bitCount_21 : decode prog_8_method_50_code 21 = .ok (.land, 1) := by decide +kernel
theorem d_jl_bitCount_22 : decode prog_8_method_50_code 22 = .ok (.ladd, 1) := by decide +kernel
theorem d_jl_bitCount_23 : decode prog_8_method_50_code 23 = .ok (.lstore_n 0, 1) := by decide +kernel
theorem d_jl_bitCount_24 : decode prog_8_method_50_code 24 = .ok (.lload_n 0, 1) := by decide +kernel
theorem d_jl_bitCount_25 : decode prog_8_method_50_code 25 = .ok (.lload_n 0, 1) := by decide +kernel
theorem d_jl_bitCount_26 : decode prog_8_method_50_code 26 = .ok (.iconst 4, 1) := by decide +kernel
theorem d_jl_bitCount_27 : decode prog_8_method_50_code 27 = .ok (.lushr, 1) := by decide +kernel
theorem d_jl_bitCount_28 : decode prog_8_method_50_code 28 = .ok (.ladd, 1) := by decide +kernel
theorem d_jl_bitCount_29 : decode prog_8_method_50_code 29 = .ok (.ldc2_w 318, 3) := by decide +kernel
theorem d_jl_bitCount_32 : decode prog_8_method_50_code 32 = .ok (.land, 1) := by decide +kernel
theorem d_jl_bitCount_33 : decode prog_8_method_50_code 33 = .ok (.lstore_n 0, 1) := by decide +kernel
theorem d_jl_bitCount_34 : decode prog_8_method_50_code 34 = .ok (.lload_n 0, 1) := by decide +kernel
theorem d_jl_bitCount_35 : decode prog_8_method_50_code 35 = .ok (.lload_n 0, 1) := by decide +kernel
theorem d_jl_bitCount_36 : decode prog_8_method_50_code 36 = .ok (.bipush 8, 2) := by decide +kernel
theorem d_jl_bitCount_38 : decode prog_8_method_50_code 38 = .ok (.lushr, 1) := by decide +kernel
theorem d_jl_bitCount_39 : decode prog_8_method_50_code 39 = .ok (.ladd, 1) := by decide +kernel
theorem d_jl_bitCount_40 : decode prog_8_method_50_code 40 = .ok (.lstore_n 0, 1) := by decide +kernel
theorem d_jl_bitCount_41 : decode prog_8_method_50_code 41 = .ok (.lload_n 0, 1) := by decide +kernel
theorem d_jl_bitCount_42 : decode prog_8_method_50_code 42 = .ok (.lload_n 0, 1) := by decide +kernel
theorem d_jl_bitCount_43 : decode prog_8_method_50_code 43 = .ok (.bipush 16, 2) := by decide +kernel
theorem d_jl_bitCount_45 : decode prog_8_method_50_code 45 = .ok (.lushr, 1) := by decide +kernel
theorem d_jl_bitCount_46 : decode prog_8_method_50_code 46 = .ok (.ladd, 1) := by decide +kernel
theorem d_jl_bitCount_47 : decode prog_8_method_50_code 47 = .ok (.lstore_n 0, 1) := by decide +kernel
theorem d_jl_bitCount_48 : decode prog_8_method_50_code 48 = .ok (.lload_n 0, 1) := by decide +kernel
theorem d_jl_bitCount_49 : decode prog_8_method_50_code 49 = .ok (.lload_n 0, 1) := by decide +kernel
theorem d_jl_bitCount_50 : decode prog_8_method_50_code 50 = .ok (.bipush 32, 2) := by decide +kernel
theorem d_jl_bitCount_52 : decode prog_8_method_50_code 52 = .ok (.lushr, 1) := by decide +kernel
theorem d_jl_bitCount_53 : decode prog_8_method_50_code 53 = .ok (.ladd, 1) := by decide +kernel
theorem d_jl_bitCount_54 : decode prog_8_method_50_code 54 = .ok (.lstore_n 0, 1) := by decide +kernel
theorem d_jl_bitCount_55 : decode prog_8_method_50_code 55 = .ok (.lload_n 0, 1) := by decide +kernel
theorem d_jl_bitCount_56 : decode prog_8_method_50_code 56 = .ok (.l2i, 1) := by decide +kernel
theorem d_jl_bitCount_57 : decode prog_8_method_50_code 57 = .ok (.bipush 127, 2) := by decide +kernel
theorem d_jl_bitCount_59 : decode prog_8_method_50_code 59 = .ok (.iand, 1) := by decide +kernel
theorem d_jl_bitCount_60 : decode prog_8_method_50_code 60 = .ok (.ireturn, 1) := by decide +kernel
theorem d_ps_addAllOf_0 : decode prog_2_method_9_code 0 = .ok (.aload_n 0, 1) := by decide +kernel
theorem d_ps_addAllOf_1 : decode prog_2_method_9_code 1 = .ok (.dup, 1) := by decide +kernel
theorem d_ps_addAllOf_2 : decode prog_2_method_9_code 2 = .ok (.getfield 15, 3) := by decide +kernel
theorem d_ps_addAllOf_5 : decode prog_2_method_9_code 5 = .ok (.aload_n 1, 1) := by decide +kernel
theorem d_ps_addAllOf_6 : decode prog_2_method_9_code 6 = .ok (.getfield 15, 3) := by decide +kernel
theorem d_ps_addAllOf_9 : decode prog_2_method_9_code 9 = .ok (.lor, 1) := by decide +kernel
theorem d_ps_addAllOf_10 : decode prog_2_method_9_code 10 = .ok (.putfield 15, 3) := by decide +kernel
theorem d_ps_addAllOf_13 : decode prog_2_method_9_code 13 = .ok (.aload_n 0, 1) := by decide +kernel
theorem d_ps_addAllOf_14 : decode prog_2_method_9_code 14 = .ok (.dup, 1) := by decide +kernel
theorem d_ps_addAllOf_15 : decode prog_2_method_9_code 15 = .ok (.getfield 23, 3) := by decide +kernel
theorem d_ps_addAllOf_18 : decode prog_2_method_9_code 18 = .ok (.aload_n 1, 1) := by decide +kernel
theorem d_ps_addAllOf_19 : decode prog_2_method_9_code 19 = .ok (.getfield 23, 3) := by decide +kernel
theorem d_ps_addAllOf_22 : decode prog_2_method_9_code 22 = .ok (.lor, 1) := by decide +kernel
theorem d_ps_addAllOf_23 : decode prog_2_method_9_code 23 = .ok (.putfield 23, 3) := by decide +kernel
theorem d_ps_addAllOf_26 : decode prog_2_method_9_code 26 = .ok (.return_, 1) := by decide +kernel
theorem d_ps_removeAllOf_0 : decode prog_2_method_10_code 0 = .ok (.aload_n 0, 1) := by decide +kernel
theorem d_ps_removeAllOf_1 : decode prog_2_method_10_code 1 = .ok (.aload_n 0, 1) := by decide +kernel
theorem d_ps_removeAllOf_2 : decode prog_2_method_10_code 2 = .ok (.getfield 15, 3) := by decide +kernel
theorem d_ps_removeAllOf_5 : decode prog_2_method_10_code 5 = .ok (.aload_n 1, 1) := by decide +kernel
theorem d_ps_removeAllOf_6 : decode prog_2_method_10_code 6 = .ok (.getfield 15, 3) := by decide +kernel
theorem d_ps_removeAllOf_9 : decode prog_2_method_10_code 9 = .ok (.ldc2_w 29, 3) := by decide +kernel
theorem d_ps_removeAllOf_12 : decode prog_2_method_10_code 12 = .ok (.lxor, 1) := by decide +kernel
theorem d_ps_removeAllOf_13 : decode prog_2_method_10_code 13 = .ok (.land, 1) := by decide +kernel
theorem d_ps_removeAllOf_14 : decode prog_2_method_10_code 14 = .ok (.putfield 15, 3) := by decide +kernel
theorem d_ps_removeAllOf_17 : decode prog_2_method_10_code 17 = .ok (.aload_n 0, 1) := by decide +kernel
theorem d_ps_removeAllOf_18 : decode prog_2_method_10_code 18 = .ok (.aload_n 0, 1) := by decide +kernel
theorem d_ps_removeAllOf_19 : decode prog_2_method_10_code 19 = .ok (.getfield 23, 3) := by decide +kernel
theorem d_ps_removeAllOf_22 : decode prog_2_method_10_code 22 = .ok (.aload_n 1, 1) := by decide +kernel
theorem d_ps_removeAllOf_23 : decode prog_2_method_10_code 23 = .ok (.getfield 23, 3) := by decide +kernel
theorem d_ps_removeAllOf_26 : decode prog_2_method_10_code 26 = .ok (.ldc2_w 29, 3) := by decide +kernel
theorem d_ps_removeAllOf_29 : decode prog_2_method_10_code 29 = .ok (.lxor, 1) := by decide +kernel
theorem d_ps_removeAllOf_30 : decode prog_2_method_10_code 30 = .ok (.land, 1) := by decide +kernel
theorem d_ps_removeAllOf_31 : decode prog_2_method_10_code 31 = .ok (.putfield 23, 3) := by decide +kernel
theorem d_ps_removeAllOf_34 : decode prog_2_method_10_code 34 = .ok (.return_, 1) := by decide +kernel
theorem d_ps_remove_0 : decode prog_2_method_7_code 0 = .ok (.aload_n 0, 1) := by decide +kernel
theorem d_ps_remove_1 : decode prog_2_method_7_code 1 = .ok (.dup, 1) := by decide +kernel
theorem d_ps_remove_2 : decode prog_2_method_7_code 2 = .ok (.getfield 15, 3) := by decide +kernel
theorem d_ps_remove_5 : decode prog_2_method_7_code 5 = .ok (.iload_n 1, 1) := by decide +kernel
theorem d_ps_remove_6 : decode prog_2_method_7_code 6 = .ok (.invokestatic 19, 3) := by decide +kernel
theorem d_ps_remove_9 : decode prog_2_method_7_code 9 = .ok (.ldc2_w 29, 3) := by decide +kernel
theorem d_ps_remove_12 : decode prog_2_method_7_code 12 = .ok (.lxor, 1) := by decide +kernel
theorem d_ps_remove_13 : decode prog_2_method_7_code 13 = .ok (.land, 1) := by decide +kernel
theorem d_ps_remove_14 : decode prog_2_method_7_code 14 = .ok (.putfield 15, 3) := by decide +kernel
theorem d_ps_remove_17 : decode prog_2_method_7_code 17 = .ok (.aload_n 0, 1) := by decide +kernel
theorem d_ps_remove_18 : decode prog_2_method_7_code 18 = .ok (.dup, 1) := by decide +kernel
theorem d_ps_remove_19 : decode prog_2_method_7_code 19 = .ok (.getfield 23, 3) := by decide +kernel
theorem d_ps_remove_22 : decode prog_2_method_7_code 22 = .ok (.iload_n 1, 1) := by decide +kernel
theorem d_ps_remove_23 : decode prog_2_method_7_code 23 = .ok (.invokestatic 26, 3) := by decide +kernel
theorem d_ps_remove_26 : decode prog_2_method_7_code 26 = .ok (.ldc2_w 29, 3) := by decide +kernel
theorem d_ps_remove_29 : decode prog_2_method_7_code 29 = .ok (.lxor, 1) := by decide +kernel
theorem d_ps_remove_30 : decode prog_2_method_7_code 30 = .ok (.land, 1) := by decide +kernel
theorem d_ps_remove_31 : decode prog_2_method_7_code 31 = .ok (.putfield 23, 3) := by decide +kernel
theorem d_ps_remove_34 : decode prog_2_method_7_code 34 = .ok (.return_, 1) := by decide +kernel
theorem d_ps_isEmpty_0 : decode prog_2_method_13_code 0 = .ok (.aload_n 0, 1) := by decide +kernel
theorem d_ps_isEmpty_1 : decode prog_2_method_13_code 1 = .ok (.getfield 15, 3) := by decide +kernel
theorem d_ps_isEmpty_4 : decode prog_2_method_13_code 4 = .ok (.lconst 0, 1) := by decide +kernel
theorem d_ps_isEmpty_5 : decode prog_2_method_13_code 5 = .ok (.lcmp, 1) := by decide +kernel
theorem d_ps_isEmpty_6 : decode prog_2_method_13_code 6 = .ok (.ifCond .ne 16, 3) := by decide +kernel
theorem d_ps_isEmpty_9 : decode prog_2_method_13_code 9 = .ok (.aload_n 0, 1) := by decide +kernel
theorem d_ps_isEmpty_10 : decode prog_2_method_13_code 10 = .ok (.getfield 23, 3) := by decide +kernel
theorem d_ps_isEmpty_13 : decode prog_2_method_13_code 13 = .ok (.lconst 0, 1) := by decide +kernel
theorem d_ps_isEmpty_14 : decode prog_2_method_13_code 14 = .ok (.lcmp, 1) := by decide +kernel
theorem d_ps_isEmpty_15 : decode prog_2_method_13_code 15 = .ok (.ifCond .ne 7, 3) := by decide +kernel
theorem d_ps_isEmpty_18 : decode prog_2_method_13_code 18 = .ok (.iconst 1, 1) := by decide +kernel
theorem d_ps_isEmpty_19 : decode prog_2_method_13_code 19 = .ok (.goto 4, 3) := by decide +kernel
theorem d_ps_isEmpty_22 : decode prog_2_method_13_code 22 = .ok (.iconst 0, 1) := by decide +kernel
theorem d_ps_isEmpty_23 : decode prog_2_method_13_code 23 = .ok (.ireturn, 1) := by decide +kernel
theorem d_ps_meets_0 : decode prog_2_method_12_code 0 = .ok (.aload_n 0, 1) := by decide +kernel
theorem d_ps_meets_1 : decode prog_2_method_12_code 1 = .ok (.getfield 15, 3) := by decide +kernel
theorem d_ps_meets_4 : decode prog_2_method_12_code 4 = .ok (.aload_n 1, 1) := by decide +kernel
theorem d_ps_meets_5 : decode prog_2_method_12_code 5 = .ok (.getfield 15, 3) := by decide +kernel
theorem d_ps_meets_8 : decode prog_2_method_12_code 8 = .ok (.land, 1) := by decide +kernel
theorem d_ps_meets_9 : decode prog_2_method_12_code 9 = .ok (.lconst 0, 1) := by decide +kernel
theorem d_ps_meets_10 : decode prog_2_method_12_code 10 = .ok (.lcmp, 1) := by decide +kernel
theorem d_ps_meets_11 : decode prog_2_method_12_code 11 = .ok (.ifCond .ne 17, 3) := by decide +kernel
theorem d_ps_meets_14 : decode prog_2_method_12_code 14 = .ok (.aload_n 0, 1) := by decide +kernel
theorem d_ps_meets_15 : decode prog_2_method_12_code 15 = .ok (.getfield 23, 3) := by decide +kernel
theorem d_ps_meets_18 : decode prog_2_method_12_code 18 = .ok (.aload_n 1, 1) := by decide +kernel
theorem d_ps_meets_19 : decode prog_2_method_12_code 19 = .ok (.getfield 23, 3) := by decide +kernel
theorem d_ps_meets_22 : decode prog_2_method_12_code 22 = .ok (.land, 1) := by decide +kernel
theorem d_ps_meets_23 : decode prog_2_method_12_code 23 = .ok (.lconst 0, 1) := by decide +kernel
theorem d_ps_meets_24 : decode prog_2_method_12_code 24 = .ok (.lcmp, 1) := by decide +kernel
theorem d_ps_meets_25 : decode prog_2_method_12_code 25 = .ok (.ifCond .eq 7, 3) := by decide +kernel
theorem d_ps_meets_28 : decode prog_2_method_12_code 28 = .ok (.iconst 1, 1) := by decide +kernel
theorem d_ps_meets_29 : decode prog_2_method_12_code 29 = .ok (.goto 4, 3) := by decide +kernel
theorem d_ps_meets_32 : decode prog_2_method_12_code 32 = .ok (.iconst 0, 1) := by decide +kernel
theorem d_ps_meets_33 : decode prog_2_method_12_code 33 = .ok (.ireturn, 1) := by decide +kernel
theorem d_ps_keepAllOf_0 : decode prog_2_method_11_code 0 = .ok (.aload_n 0, 1) := by decide +kernel
theorem d_ps_keepAllOf_1 : decode prog_2_method_11_code 1 = .ok (.dup, 1) := by decide +kernel
theorem d_ps_keepAllOf_2 : decode prog_2_method_11_code 2 = .ok (.getfield 15, 3) := by decide +kernel
theorem d_ps_keepAllOf_5 : decode prog_2_method_11_code 5 = .ok (.aload_n 1, 1) := by decide +kernel
theorem d_ps_keepAllOf_6 : decode prog_2_method_11_code 6 = .ok (.getfield 15, 3) := by decide +kernel
theorem d_ps_keepAllOf_9 : decode prog_2_method_11_code 9 = .ok (.land, 1) := by decide +kernel
theorem d_ps_keepAllOf_10 : decode prog_2_method_11_code 10 = .ok (.putfield 15, 3) := by decide +kernel
theorem d_ps_keepAllOf_13 : decode prog_2_method_11_code 13 = .ok (.aload_n 0, 1) := by decide +kernel
theorem d_ps_keepAllOf_14 : decode prog_2_method_11_code 14 = .ok (.dup, 1) := by decide +kernel
theorem d_ps_keepAllOf_15 : decode prog_2_method_11_code 15 = .ok (.getfield 23, 3) := by decide +kernel
theorem d_ps_keepAllOf_18 : decode prog_2_method_11_code 18 = .ok (.aload_n 1, 1) := by decide +kernel
theorem d_ps_keepAllOf_19 : decode prog_2_method_11_code 19 = .ok (.getfield 23, 3) := by decide +kernel
theorem d_ps_keepAllOf_22 : decode prog_2_method_11_code 22 = .ok (.land, 1) := by decide +kernel
theorem d_ps_keepAllOf_23 : decode prog_2_method_11_code 23 = .ok (.putfield 23, 3) := by decide +kernel
theorem d_ps_keepAllOf_26 : decode prog_2_method_11_code 26 = .ok (.return_, 1) := by decide +kernel
theorem d_ps_size_0 : decode prog_2_method_14_code 0 = .ok (.aload_n 0, 1) := by decide +kernel
theorem d_ps_size_1 : decode prog_2_method_14_code 1 = .ok (.getfield 15, 3) := by decide +kernel
theorem d_ps_size_4 : decode prog_2_method_14_code 4 = .ok (.invokestatic 9, 3) := by decide +kernel
theorem d_ps_size_7 : decode prog_2_method_14_code 7 = .ok (.aload_n 0, 1) := by decide +kernel
theorem d_ps_size_8 : decode prog_2_method_14_code 8 = .ok (.getfield 23, 3) := by decide +kernel
theorem d_ps_size_11 : decode prog_2_method_14_code 11 = .ok (.invokestatic 9, 3) := by decide +kernel
theorem d_ps_size_14 : decode prog_2_method_14_code 14 = .ok (.iadd, 1) := by decide +kernel
theorem d_ps_size_15 : decode prog_2_method_14_code 15 = .ok (.ireturn, 1) := by decide +kernel
theorem d_ja_fill_0 : decode prog_12_method_103_code 0 = .ok (.iconst 0, 1) := by decide +kernel
theorem d_ja_fill_1 : decode prog_12_method_103_code 1 = .ok (.istore_n 2, 1) := by decide +kernel
theorem d_ja_fill_2 : decode prog_12_method_103_code 2 = .ok (.aload_n 0, 1) := by decide +kernel
theorem d_ja_fill_3 : decode prog_12_method_103_code 3 = .ok (.arraylength, 1) := by decide +kernel
theorem d_ja_fill_4 : decode prog_12_method_103_code 4 = .ok (.istore_n 3, 1) := by decide +kernel
theorem d_ja_fill_5 : decode prog_12_method_103_code 5 = .ok (.iload_n 2, 1) := by decide +kernel
theorem d_ja_fill_6 : decode prog_12_method_103_code 6 = .ok (.iload_n 3, 1) := by decide +kernel
theorem d_ja_fill_7 : decode prog_12_method_103_code 7 = .ok (.if_icmp .ge 13, 3) := by decide +kernel
theorem d_ja_fill_10 : decode prog_12_method_103_code 10 = .ok (.aload_n 0, 1) := by decide +kernel
theorem d_ja_fill_11 : decode prog_12_method_103_code 11 = .ok (.iload_n 2, 1) := by decide +kernel
theorem d_ja_fill_12 : decode prog_12_method_103_code 12 = .ok (.iload_n 1, 1) := by decide +kernel
theorem d_ja_fill_13 : decode prog_12_method_103_code 13 = .ok (.iastore, 1) := by decide +kernel
theorem d_ja_fill_14 : decode prog_12_method_103_code 14 = .ok (.iinc 2 1, 3) := by decide +kernel
theorem d_ja_fill_17 : decode prog_12_method_103_code 17 = .ok (.goto (-12), 3) := by decide +kernel
theorem d_ja_fill_20 : decode prog_12_method_103_code 20 = .ok (.return_, 1) := by decide +kernel
theorem d_jm_max_0 : decode prog_9_method_65_code 0 = .ok (.iload_n 0, 1) := by decide +kernel
theorem d_jm_max_1 : decode prog_9_method_65_code 1 = .ok (.iload_n 1, 1) := by decide +kernel
theorem d_jm_max_2 : decode prog_9_method_65_code 2 = .ok (.if_icmp .lt 7, 3) := by decide +kernel
theorem d_jm_max_5 : decode prog_9_method_65_code 5 = .ok (.iload_n 0, 1) := by decide +kernel
theorem d_jm_max_6 : decode prog_9_method_65_code 6 = .ok (.goto 4, 3) := by decide +kernel
theorem d_jm_max_9 : decode prog_9_method_65_code 9 = .ok (.iload_n 1, 1) := by decide +kernel
theorem d_jm_max_10 : decode prog_9_method_65_code 10 = .ok (.ireturn, 1) := by decide +kernel
