theorem d_md_init_0 : decode prog_4_method_1_code 0 = .ok (.aload_n 0, 1) := by decide +kernel
theorem d_md_init_1 : decode prog_4_method_1_code 1 = .ok (.invokespecial 1, 3) := by decide +kernel
theorem d_md_init_4 : decode prog_4_method_1_code 4 = .ok (.aload_n 0, 1) := by decide +kernel
theorem d_md_init_5 : decode prog_4_method_1_code 5 = .ok (.iconst 0, 1) := by decide +kernel
theorem d_md_init_6 : decode prog_4_method_1_code 6 = .ok (.putfield 7, 3) := by decide +kernel
theorem d_md_init_9 : decode prog_4_method_1_code 9 = .ok (.aload_n 0, 1) := by decide +kernel
theorem d_md_init_10 : decode prog_4_method_1_code 10 = .ok (.bipush 10, 2) := by decide +kernel
theorem d_md_init_12 : decode prog_4_method_1_code 12 = .ok (.putfield 13, 3) := by decide +kernel
theorem d_md_init_15 : decode prog_4_method_1_code 15 = .ok (.aload_n 0, 1) := by decide +kernel
theorem d_md_init_16 : decode prog_4_method_1_code 16 = .ok (.bipush 120, 2) := by decide +kernel
theorem d_md_init_18 : decode prog_4_method_1_code 18 = .ok (.bipush 120, 2) := by decide +kernel
theorem d_md_init_20 : decode prog_4_method_1_code 20 = .ok (.multianewarray 16 2, 4) := by decide +kernel
theorem d_md_init_24 : decode prog_4_method_1_code 24 = .ok (.putfield 18, 3) := by decide +kernel
theorem d_md_init_27 : decode prog_4_method_1_code 27 = .ok (.aload_n 0, 1) := by decide +kernel
theorem d_md_init_28 : decode prog_4_method_1_code 28 = .ok (.bipush 120, 2) := by decide +kernel
theorem d_md_init_30 : decode prog_4_method_1_code 30 = .ok (.newarray .int, 2) := by decide +kernel
theorem d_md_init_32 : decode prog_4_method_1_code 32 = .ok (.putfield 21, 3) := by decide +kernel
theorem d_md_init_35 : decode prog_4_method_1_code 35 = .ok (.aload_n 0, 1) := by decide +kernel
theorem d_md_init_36 : decode prog_4_method_1_code 36 = .ok (.bipush 120, 2) := by decide +kernel
theorem d_md_init_38 : decode prog_4_method_1_code 38 = .ok (.bipush 120, 2) := by decide +kernel
theorem d_md_init_40 : decode prog_4_method_1_code 40 = .ok (.multianewarray 16 2, 4) := by decide +kernel
theorem d_md_init_44 : decode prog_4_method_1_code 44 = .ok (.putfield 25, 3) := by decide +kernel
theorem d_md_init_47 : decode prog_4_method_1_code 47 = .ok (.aload_n 0, 1) := by decide +kernel
theorem d_md_init_48 : decode prog_4_method_1_code 48 = .ok (.bipush 120, 2) := by decide +kernel
theorem d_md_init_50 : decode prog_4_method_1_code 50 = .ok (.newarray .int, 2) := by decide +kernel
theorem d_md_init_52 : decode prog_4_method_1_code 52 = .ok (.putfield 28, 3) := by decide +kernel
theorem d_md_init_55 : decode prog_4_method_1_code 55 = .ok (.aload_n 0, 1) := by decide +kernel
theorem d_md_init_56 : decode prog_4_method_1_code 56 = .ok (.bipush 120, 2) := by decide +kernel
theorem d_md_init_58 : decode prog_4_method_1_code 58 = .ok (.newarray .boolean, 2) := by decide +kernel
theorem d_md_init_60 : decode prog_4_method_1_code 60 = .ok (.putfield 31, 3) := by decide +kernel
theorem d_md_init_63 : decode prog_4_method_1_code 63 = .ok (.aload_n 0, 1) := by decide +kernel
theorem d_md_init_64 : decode prog_4_method_1_code 64 = .ok (.bipush 120, 2) := by decide +kernel
theorem d_md_init_66 : decode prog_4_method_1_code 66 = .ok (.newarray .int, 2) := by decide +kernel
theorem d_md_init_68 : decode prog_4_method_1_code 68 = .ok (.putfield 35, 3) := by decide +kernel
theorem d_md_init_71 : decode prog_4_method_1_code 71 = .ok (.return_, 1) := by decide +kernel
theorem d_md_thrown_0 : decode prog_4_method_2_code 0 = .ok (.aload_n 0, 1) := by decide +kernel
theorem d_md_thrown_1 : decode prog_4_method_2_code 1 = .ok (.getfield 7, 3) := by decide +kernel
theorem d_md_thrown_4 : decode prog_4_method_2_code 4 = .ok (.ireturn, 1) := by decide +kernel
theorem d_md_places_0 : decode prog_4_method_5_code 0 = .ok (.aload_n 0, 1) := by decide +kernel
theorem d_md_places_1 : decode prog_4_method_5_code 1 = .ok (.iconst 0, 1) := by decide +kernel
theorem d_md_places_2 : decode prog_4_method_5_code 2 = .ok (.putfield 7, 3) := by decide +kernel
theorem d_md_places_5 : decode prog_4_method_5_code 5 = .ok (.aload_n 0, 1) := by decide +kernel
theorem d_md_places_6 : decode prog_4_method_5_code 6 = .ok (.iconst 1, 1) := by decide +kernel
theorem d_md_places_7 : decode prog_4_method_5_code 7 = .ok (.iload_n 1, 1) := by decide +kernel
theorem d_md_places_8 : decode prog_4_method_5_code 8 = .ok (.iconst 1, 1) := by decide +kernel
theorem d_md_places_9 : decode prog_4_method_5_code 9 = .ok (.if_icmp .lt 9, 3) := by decide +kernel
theorem d_md_places_12 : decode prog_4_method_5_code 12 = .ok (.iload_n 1, 1) := by decide +kernel
theorem d_md_places_13 : decode prog_4_method_5_code 13 = .ok (.bipush 120, 2) := by decide +kernel
theorem d_md_places_15 : decode prog_4_method_5_code 15 = .ok (.if_icmp .le 7, 3) := by decide +kernel
theorem d_md_places_18 : decode prog_4_method_5_code 18 = .ok (.iconst 1, 1) := by decide +kernel
theorem d_md_places_19 : decode prog_4_method_5_code 19 = .ok (.goto 4, 3) := by decide +kernel
theorem d_md_places_22 : decode prog_4_method_5_code 22 = .ok (.iconst 0, 1) := by decide +kernel
theorem d_md_places_23 : decode prog_4_method_5_code 23 = .ok (.invokevirtual 38, 3) := by decide +kernel
theorem d_md_places_26 : decode prog_4_method_5_code 26 = .ok (.ifCond .eq 5, 3) := by decide +kernel
theorem d_md_places_29 : decode prog_4_method_5_code 29 = .ok (.iconst 0, 1) := by decide +kernel
theorem d_md_places_30 : decode prog_4_method_5_code 30 = .ok (.ireturn, 1) := by decide +kernel
theorem d_md_places_31 : decode prog_4_method_5_code 31 = .ok (.aload_n 0, 1) := by decide +kernel
theorem d_md_places_32 : decode prog_4_method_5_code 32 = .ok (.getfield 13, 3) := by decide +kernel
theorem d_md_places_35 : decode prog_4_method_5_code 35 = .ok (.istore_n 2, 1) := by decide +kernel
theorem d_md_places_36 : decode prog_4_method_5_code 36 = .ok (.aload_n 0, 1) := by decide +kernel
theorem d_md_places_37 : decode prog_4_method_5_code 37 = .ok (.iload_n 1, 1) := by decide +kernel
theorem d_md_places_38 : decode prog_4_method_5_code 38 = .ok (.putfield 13, 3) := by decide +kernel
theorem d_md_places_41 : decode prog_4_method_5_code 41 = .ok (.iconst 0, 1) := by decide +kernel
theorem d_md_places_42 : decode prog_4_method_5_code 42 = .ok (.istore_n 3, 1) := by decide +kernel
theorem d_md_places_43 : decode prog_4_method_5_code 43 = .ok (.iload_n 3, 1) := by decide +kernel
theorem d_md_places_44 : decode prog_4_method_5_code 44 = .ok (.bipush 120, 2) := by decide +kernel
theorem d_md_places_46 : decode prog_4_method_5_code 46 = .ok (.if_icmp .ge 35, 3) := by decide +kernel
theorem d_md_places_49 : decode prog_4_method_5_code 49 = .ok (.iconst 0, 1) := by decide +kernel
theorem d_md_places_50 : decode prog_4_method_5_code 50 = .ok (.istore 4, 2) := by decide +kernel
theorem d_md_places_52 : decode prog_4_method_5_code 52 = .ok (.iload 4, 2) := by decide +kernel
theorem d_md_places_54 : decode prog_4_method_5_code 54 = .ok (.bipush 120, 2) := by decide +kernel
theorem d_md_places_56 : decode prog_4_method_5_code 56 = .ok (.if_icmp .ge 19, 3) := by decide +kernel
theorem d_md_places_59 : decode prog_4_method_5_code 59 = .ok (.aload_n 0, 1) := by decide +kernel
theorem d_md_places_60 : decode prog_4_method_5_code 60 = .ok (.getfield 18, 3) := by decide +kernel
theorem d_md_places_63 : decode prog_4_method_5_code 63 = .ok (.iload_n 3, 1) := by decide +kernel
theorem d_md_places_64 : decode prog_4_method_5_code 64 = .ok (.aaload, 1) := by decide +kernel
theorem d_md_places_65 : decode prog_4_method_5_code 65 = .ok (.iload 4, 2) := by decide +kernel
theorem d_md_places_67 : decode prog_4_method_5_code 67 = .ok (.iconst 0, 1) := by decide +kernel
theorem d_md_places_68 : decode prog_4_method_5_code 68 = .ok (.bastore, 1) := by decide +kernel
theorem d_md_places_69 : decode prog_4_method_5_code 69 = .ok (.iinc 4 1, 3) := by decide +kernel
theorem d_md_places_72 : decode prog_4_method_5_code 72 = .ok (.goto (-20), 3) := by decide +kernel
theorem d_md_places_75 : decode prog_4_method_5_code 75 = .ok (.iinc 3 1, 3) := by decide +kernel
theorem d_md_places_78 : decode prog_4_method_5_code 78 = .ok (.goto (-35), 3) := by decide +kernel
theorem d_md_places_81 : decode prog_4_method_5_code 81 = .ok (.iload_n 2, 1) := by decide +kernel
theorem d_md_places_82 : decode prog_4_method_5_code 82 = .ok (.ireturn, 1) := by decide +kernel
theorem d_md_refuse_0 : decode prog_4_method_3_code 0 = .ok (.iload_n 2, 1) := by decide +kernel
theorem d_md_refuse_1 : decode prog_4_method_3_code 1 = .ok (.ifCond .eq 8, 3) := by decide +kernel
theorem d_md_refuse_4 : decode prog_4_method_3_code 4 = .ok (.aload_n 0, 1) := by decide +kernel
theorem d_md_refuse_5 : decode prog_4_method_3_code 5 = .ok (.iload_n 1, 1) := by decide +kernel
theorem d_md_refuse_6 : decode prog_4_method_3_code 6 = .ok (.putfield 7, 3) := by decide +kernel
theorem d_md_refuse_9 : decode prog_4_method_3_code 9 = .ok (.iload_n 2, 1) := by decide +kernel
theorem d_md_refuse_10 : decode prog_4_method_3_code 10 = .ok (.ireturn, 1) := by decide +kernel
theorem d_md_way_0 : decode prog_4_method_7_code 0 = .ok (.aload_n 0, 1) := by decide +kernel
theorem d_md_way_1 : decode prog_4_method_7_code 1 = .ok (.iload_n 1, 1) := by decide +kernel
theorem d_md_way_2 : decode prog_4_method_7_code 2 = .ok (.iload_n 2, 1) := by decide +kernel
theorem d_md_way_3 : decode prog_4_method_7_code 3 = .ok (.iconst 1, 1) := by decide +kernel
theorem d_md_way_4 : decode prog_4_method_7_code 4 = .ok (.invokevirtual 46, 3) := by decide +kernel
theorem d_md_way_7 : decode prog_4_method_7_code 7 = .ok (.ireturn, 1) := by decide +kernel
theorem d_md_set_0 : decode prog_4_method_6_code 0 = .ok (.aload_n 0, 1) := by decide +kernel
theorem d_md_set_1 : decode prog_4_method_6_code 1 = .ok (.iload_n 1, 1) := by decide +kernel
theorem d_md_set_2 : decode prog_4_method_6_code 2 = .ok (.invokevirtual 42, 3) := by decide +kernel
theorem d_md_set_5 : decode prog_4_method_6_code 5 = .ok (.ifCond .ne 11, 3) := by decide +kernel
theorem d_md_set_8 : decode prog_4_method_6_code 8 = .ok (.aload_n 0, 1) := by decide +kernel
theorem d_md_set_9 : decode prog_4_method_6_code 9 = .ok (.iload_n 2, 1) := by decide +kernel
theorem d_md_set_10 : decode prog_4_method_6_code 10 = .ok (.invokevirtual 42, 3) := by decide +kernel
theorem d_md_set_13 : decode prog_4_method_6_code 13 = .ok (.ifCond .eq 5, 3) := by decide +kernel
theorem d_md_set_16 : decode prog_4_method_6_code 16 = .ok (.iconst 0, 1) := by decide +kernel
theorem d_md_set_17 : decode prog_4_method_6_code 17 = .ok (.ireturn, 1) := by decide +kernel
theorem d_md_set_18 : decode prog_4_method_6_code 18 = .ok (.aload_n 0, 1) := by decide +kernel
theorem d_md_set_19 : decode prog_4_method_6_code 19 = .ok (.getfield 18, 3) := by decide +kernel
theorem d_md_set_22 : decode prog_4_method_6_code 22 = .ok (.iload_n 1, 1) := by decide +kernel
theorem d_md_set_23 : decode prog_4_method_6_code 23 = .ok (.aaload, 1) := by decide +kernel
theorem d_md_set_24 : decode prog_4_method_6_code 24 = .ok (.iload_n 2, 1) := by decide +kernel
theorem d_md_set_25 : decode prog_4_method_6_code 25 = .ok (.baload, 1) := by decide +kernel
theorem d_md_set_26 : decode prog_4_method_6_code 26 = .ok (.istore 4, 2) := by decide +kernel
theorem d_md_set_28 : decode prog_4_method_6_code 28 = .ok (.aload_n 0, 1) := by decide +kernel
theorem d_md_set_29 : decode prog_4_method_6_code 29 = .ok (.getfield 18, 3) := by decide +kernel
theorem d_md_set_32 : decode prog_4_method_6_code 32 = .ok (.iload_n 1, 1) := by decide +kernel
theorem d_md_set_33 : decode prog_4_method_6_code 33 = .ok (.aaload, 1) := by decide +kernel
theorem d_md_set_34 : decode prog_4_method_6_code 34 = .ok (.iload_n 2, 1) := by decide +kernel
theorem d_md_set_35 : decode prog_4_method_6_code 35 = .ok (.iload_n 3, 1) := by decide +kernel
theorem d_md_set_36 : decode prog_4_method_6_code 36 = .ok (.bastore, 1) := by decide +kernel
theorem d_md_set_37 : decode prog_4_method_6_code 37 = .ok (.iload 4, 2) := by decide +kernel
theorem d_md_set_39 : decode prog_4_method_6_code 39 = .ok (.ireturn, 1) := by decide +kernel
theorem d_md_none_0 : decode prog_4_method_4_code 0 = .ok (.aload_n 0, 1) := by decide +kernel
theorem d_md_none_1 : decode prog_4_method_4_code 1 = .ok (.iconst 0, 1) := by decide +kernel
theorem d_md_none_2 : decode prog_4_method_4_code 2 = .ok (.putfield 7, 3) := by decide +kernel
theorem d_md_none_5 : decode prog_4_method_4_code 5 = .ok (.aload_n 0, 1) := by decide +kernel
theorem d_md_none_6 : decode prog_4_method_4_code 6 = .ok (.iconst 1, 1) := by decide +kernel
theorem d_md_none_7 : decode prog_4_method_4_code 7 = .ok (.iload_n 1, 1) := by decide +kernel
theorem d_md_none_8 : decode prog_4_method_4_code 8 = .ok (.ifCond .lt 11, 3) := by decide +kernel
theorem d_md_none_11 : decode prog_4_method_4_code 11 = .ok (.iload_n 1, 1) := by decide +kernel
theorem d_md_none_12 : decode prog_4_method_4_code 12 = .ok (.aload_n 0, 1) := by decide +kernel
theorem d_md_none_13 : decode prog_4_method_4_code 13 = .ok (.getfield 13, 3) := by decide +kernel
theorem d_md_none_16 : decode prog_4_method_4_code 16 = .ok (.if_icmp .lt 7, 3) := by decide +kernel
theorem d_md_none_19 : decode prog_4_method_4_code 19 = .ok (.iconst 1, 1) := by decide +kernel
theorem d_md_none_20 : decode prog_4_method_4_code 20 = .ok (.goto 4, 3) := by decide +kernel
theorem d_md_none_23 : decode prog_4_method_4_code 23 = .ok (.iconst 0, 1) := by decide +kernel
theorem d_md_none_24 : decode prog_4_method_4_code 24 = .ok (.invokevirtual 38, 3) := by decide +kernel
theorem d_md_none_27 : decode prog_4_method_4_code 27 = .ok (.ireturn, 1) := by decide +kernel
theorem d_md_drop_0 : decode prog_4_method_8_code 0 = .ok (.aload_n 0, 1) := by decide +kernel
theorem d_md_drop_1 : decode prog_4_method_8_code 1 = .ok (.iload_n 1, 1) := by decide +kernel
theorem d_md_drop_2 : decode prog_4_method_8_code 2 = .ok (.iload_n 2, 1) := by decide +kernel
theorem d_md_drop_3 : decode prog_4_method_8_code 3 = .ok (.iconst 0, 1) := by decide +kernel
theorem d_md_drop_4 : decode prog_4_method_8_code 4 = .ok (.invokevirtual 46, 3) := by decide +kernel
theorem d_md_drop_7 : decode prog_4_method_8_code 7 = .ok (.ireturn, 1) := by decide +kernel
theorem d_md_reaches_0 : decode prog_4_method_10_code 0 = .ok (.aload_n 0, 1) := by decide +kernel
theorem d_md_reaches_1 : decode prog_4_method_10_code 1 = .ok (.iload_n 1, 1) := by decide +kernel
theorem d_md_reaches_2 : decode prog_4_method_10_code 2 = .ok (.invokevirtual 42, 3) := by decide +kernel
theorem d_md_reaches_5 : decode prog_4_method_10_code 5 = .ok (.ifCond .ne 11, 3) := by decide +kernel
theorem d_md_reaches_8 : decode prog_4_method_10_code 8 = .ok (.aload_n 0, 1) := by decide +kernel
theorem d_md_reaches_9 : decode prog_4_method_10_code 9 = .ok (.iload_n 2, 1) := by decide +kernel
theorem d_md_reaches_10 : decode prog_4_method_10_code 10 = .ok (.invokevirtual 42, 3) := by decide +kernel
theorem d_md_reaches_13 : decode prog_4_method_10_code 13 = .ok (.ifCond .eq 5, 3) := by decide +kernel
theorem d_md_reaches_16 : decode prog_4_method_10_code 16 = .ok (.iconst 0, 1) := by decide +kernel
theorem d_md_reaches_17 : decode prog_4_method_10_code 17 = .ok (.ireturn, 1) := by decide +kernel
theorem d_md_reaches_18 : decode prog_4_method_10_code 18 = .ok (.aload_n 0, 1) := by decide +kernel
theorem d_md_reaches_19 : decode prog_4_method_10_code 19 = .ok (.iload_n 1, 1) := by decide +kernel
theorem d_md_reaches_20 : decode prog_4_method_10_code 20 = .ok (.iconst (-1), 1) := by decide +kernel
theorem d_md_reaches_21 : decode prog_4_method_10_code 21 = .ok (.invokevirtual 50, 3) := by decide +kernel
theorem d_md_reaches_24 : decode prog_4_method_10_code 24 = .ok (.aload_n 0, 1) := by decide +kernel
theorem d_md_reaches_25 : decode prog_4_method_10_code 25 = .ok (.getfield 21, 3) := by decide +kernel
theorem d_md_reaches_28 : decode prog_4_method_10_code 28 = .ok (.iload_n 2, 1) := by decide +kernel
theorem d_md_reaches_29 : decode prog_4_method_10_code 29 = .ok (.iaload, 1) := by decide +kernel
theorem d_md_reaches_30 : decode prog_4_method_10_code 30 = .ok (.ifCond .lt 7, 3) := by decide +kernel
theorem d_md_reaches_33 : decode prog_4_method_10_code 33 = .ok (.iconst 1, 1) := by decide +kernel
theorem d_md_reaches_34 : decode prog_4_method_10_code 34 = .ok (.goto 4, 3) := by decide +kernel
theorem d_md_reaches_37 : decode prog_4_method_10_code 37 = .ok (.iconst 0, 1) := by decide +kernel
theorem d_md_reaches_38 : decode prog_4_method_10_code 38 = .ok (.ireturn, 1) := by decide +kernel
theorem d_md_from_0 : decode prog_4_method_9_code 0 = .ok (.iconst 0, 1) := by decide +kernel
theorem d_md_from_1 : decode prog_4_method_9_code 1 = .ok (.istore_n 3, 1) := by decide +kernel
theorem d_md_from_2 : decode prog_4_method_9_code 2 = .ok (.iload_n 3, 1) := by decide +kernel
theorem d_md_from_3 : decode prog_4_method_9_code 3 = .ok (.aload_n 0, 1) := by decide +kernel
theorem d_md_from_4 : decode prog_4_method_9_code 4 = .ok (.getfield 13, 3) := by decide +kernel
theorem d_md_from_7 : decode prog_4_method_9_code 7 = .ok (.if_icmp .ge 30, 3) := by decide +kernel
theorem d_md_from_10 : decode prog_4_method_9_code 10 = .ok (.aload_n 0, 1) := by decide +kernel
theorem d_md_from_11 : decode prog_4_method_9_code 11 = .ok (.getfield 21, 3) := by decide +kernel
theorem d_md_from_14 : decode prog_4_method_9_code 14 = .ok (.iload_n 3, 1) := by decide +kernel
theorem d_md_from_15 : decode prog_4_method_9_code 15 = .ok (.iload_n 3, 1) := by decide +kernel
theorem d_md_from_16 : decode prog_4_method_9_code 16 = .ok (.iload_n 1, 1) := by decide +kernel
theorem d_md_from_17 : decode prog_4_method_9_code 17 = .ok (.if_icmp .ne 12, 3) := by decide +kernel
theorem d_md_from_20 : decode prog_4_method_9_code 20 = .ok (.iload_n 1, 1) := by decide +kernel
theorem d_md_from_21 : decode prog_4_method_9_code 21 = .ok (.iload_n 2, 1) := by decide +kernel
theorem d_md_from_22 : decode prog_4_method_9_code 22 = .ok (.if_icmp .eq 7, 3) := by decide +kernel
theorem d_md_from_25 : decode prog_4_method_9_code 25 = .ok (.iconst 0, 1) := by decide +kernel
theorem d_md_from_26 : decode prog_4_method_9_code 26 = .ok (.goto 4, 3) := by decide +kernel
theorem d_md_from_29 : decode prog_4_method_9_code 29 = .ok (.iconst (-1), 1) := by decide +kernel
theorem d_md_from_30 : decode prog_4_method_9_code 30 = .ok (.iastore, 1) := by decide +kernel
theorem d_md_from_31 : decode prog_4_method_9_code 31 = .ok (.iinc 3 1, 3) := by decide +kernel
theorem d_md_from_34 : decode prog_4_method_9_code 34 = .ok (.goto (-32), 3) := by decide +kernel
theorem d_md_from_37 : decode prog_4_method_9_code 37 = .ok (.iconst 1, 1) := by decide +kernel
theorem d_md_from_38 : decode prog_4_method_9_code 38 = .ok (.istore_n 3, 1) := by decide +kernel
theorem d_md_from_39 : decode prog_4_method_9_code 39 = .ok (.iconst 0, 1) := by decide +kernel
theorem d_md_from_40 : decode prog_4_method_9_code 40 = .ok (.istore 4, 2) := by decide +kernel
theorem d_md_from_42 : decode prog_4_method_9_code 42 = .ok (.iload_n 3, 1) := by decide +kernel
theorem d_md_from_43 : decode prog_4_method_9_code 43 = .ok (.ifCond .eq 107, 3) := by decide +kernel
theorem d_md_from_46 : decode prog_4_method_9_code 46 = .ok (.iconst 0, 1) := by decide +kernel
theorem d_md_from_47 : decode prog_4_method_9_code 47 = .ok (.istore_n 3, 1) := by decide +kernel
theorem d_md_from_48 : decode prog_4_method_9_code 48 = .ok (.iconst 0, 1) := by decide +kernel
theorem d_md_from_49 : decode prog_4_method_9_code 49 = .ok (.istore 5, 2) := by decide +kernel
theorem d_md_from_51 : decode prog_4_method_9_code 51 = .ok (.iload 5, 2) := by decide +kernel
theorem d_md_from_53 : decode prog_4_method_9_code 53 = .ok (.aload_n 0, 1) := by decide +kernel
theorem d_md_from_54 : decode prog_4_method_9_code 54 = .ok (.getfield 13, 3) := by decide +kernel
theorem d_md_from_57 : decode prog_4_method_9_code 57 = .ok (.if_icmp .ge 87, 3) := by decide +kernel
theorem d_md_from_60 : decode prog_4_method_9_code 60 = .ok (.aload_n 0, 1) := by decide +kernel
theorem d_md_from_61 : decode prog_4_method_9_code 61 = .ok (.getfield 21, 3) := by decide +kernel
theorem d_md_from_64 : decode prog_4_method_9_code 64 = .ok (.iload 5, 2) := by decide +kernel
theorem d_md_from_66 : decode prog_4_method_9_code 66 = .ok (.iaload, 1) := by decide +kernel
theorem d_md_from_67 : decode prog_4_method_9_code 67 = .ok (.iload 4, 2) := by decide +kernel
theorem d_md_from_69 : decode prog_4_method_9_code 69 = .ok (.if_icmp .eq 6, 3) := by decide +kernel
theorem d_md_from_72 : decode prog_4_method_9_code 72 = .ok (.goto 66, 3) := by decide +kernel
theorem d_md_from_75 : decode prog_4_method_9_code 75 = .ok (.iconst 0, 1) := by decide +kernel
theorem d_md_from_76 : decode prog_4_method_9_code 76 = .ok (.istore 6, 2) := by decide +kernel
theorem d_md_from_78 : decode prog_4_method_9_code 78 = .ok (.iload 6, 2) := by decide +kernel
theorem d_md_from_80 : decode prog_4_method_9_code 80 = .ok (.aload_n 0, 1) := by decide +kernel
theorem d_md_from_81 : decode prog_4_method_9_code 81 = .ok (.getfield 13, 3) := by decide +kernel
theorem d_md_from_84 : decode prog_4_method_9_code 84 = .ok (.if_icmp .ge 54, 3) := by decide +kernel
theorem d_md_from_87 : decode prog_4_method_9_code 87 = .ok (.aload_n 0, 1) := by decide +kernel
theorem d_md_from_88 : decode prog_4_method_9_code 88 = .ok (.getfield 18, 3) := by decide +kernel
theorem d_md_from_91 : decode prog_4_method_9_code 91 = .ok (.iload 5, 2) := by decide +kernel
theorem d_md_from_93 : decode prog_4_method_9_code 93 = .ok (.aaload, 1) := by decide +kernel
theorem d_md_from_94 : decode prog_4_method_9_code 94 = .ok (.iload 6, 2) := by decide +kernel
theorem d_md_from_96 : decode prog_4_method_9_code 96 = .ok (.baload, 1) := by decide +kernel
theorem d_md_from_97 : decode prog_4_method_9_code 97 = .ok (.ifCond .eq 35, 3) := by decide +kernel
theorem d_md_from_100 : decode prog_4_method_9_code 100 = .ok (.iload 6, 2) := by decide +kernel
theorem d_md_from_102 : decode prog_4_method_9_code 102 = .ok (.iload_n 2, 1) := by decide +kernel
theorem d_md_from_103 : decode prog_4_method_9_code 103 = .ok (.if_icmp .eq 29, 3) := by decide +kernel
theorem d_md_from_106 : decode prog_4_method_9_code 106 = .ok (.aload_n 0, 1) := by decide +kernel
theorem d_md_from_107 : decode prog_4_method_9_code 107 = .ok (.getfield 21, 3) := by decide +kernel
theorem d_md_from_110 : decode prog_4_method_9_code 110 = .ok (.iload 6, 2) := by decide +kernel
theorem d_md_from_112 : decode prog_4_method_9_code 112 = .ok (.iaload, 1) := by decide +kernel
theorem d_md_from_113 : decode prog_4_method_9_code 113 = .ok (.ifCond .lt 6, 3) := by decide +kernel
theorem d_md_from_116 : decode prog_4_method_9_code 116 = .ok (.goto 16, 3) := by decide +kernel
theorem d_md_from_119 : decode prog_4_method_9_code 119 = .ok (.aload_n 0, 1) := by decide +kernel
theorem d_md_from_120 : decode prog_4_method_9_code 120 = .ok (.getfield 21, 3) := by decide +kernel
theorem d_md_from_123 : decode prog_4_method_9_code 123 = .ok (.iload 6, 2) := by decide +kernel
theorem d_md_from_125 : decode prog_4_method_9_code 125 = .ok (.iload 4, 2) := by decide +kernel
theorem d_md_from_127 : decode prog_4_method_9_code 127 = .ok (.iconst 1, 1) := by decide +kernel
theorem d_md_from_128 : decode prog_4_method_9_code 128 = .ok (.iadd, 1) := by decide +kernel
theorem d_md_from_129 : decode prog_4_method_9_code 129 = .ok (.iastore, 1) := by decide +kernel
theorem d_md_from_130 : decode prog_4_method_9_code 130 = .ok (.iconst 1, 1) := by decide +kernel
theorem d_md_from_131 : decode prog_4_method_9_code 131 = .ok (.istore_n 3, 1) := by decide +kernel
theorem d_md_from_132 : decode prog_4_method_9_code 132 = .ok (.iinc 6 1, 3) := by decide +kernel
theorem d_md_from_135 : decode prog_4_method_9_code 135 = .ok (.goto (-57), 3) := by decide +kernel
theorem d_md_from_138 : decode prog_4_method_9_code 138 = .ok (.iinc 5 1, 3) := by decide +kernel
theorem d_md_from_141 : decode prog_4_method_9_code 141 = .ok (.goto (-90), 3) := by decide +kernel
theorem d_md_from_144 : decode prog_4_method_9_code 144 = .ok (.iinc 4 1, 3) := by decide +kernel
theorem d_md_from_147 : decode prog_4_method_9_code 147 = .ok (.goto (-105), 3) := by decide +kernel
theorem d_md_from_150 : decode prog_4_method_9_code 150 = .ok (.return_, 1) := by decide +kernel
theorem d_md_far_0 : decode prog_4_method_11_code 0 = .ok (.aload_n 0, 1) := by decide +kernel
theorem d_md_far_1 : decode prog_4_method_11_code 1 = .ok (.iload_n 1, 1) := by decide +kernel
theorem d_md_far_2 : decode prog_4_method_11_code 2 = .ok (.invokevirtual 42, 3) := by decide +kernel
theorem d_md_far_5 : decode prog_4_method_11_code 5 = .ok (.ifCond .ne 11, 3) := by decide +kernel
theorem d_md_far_8 : decode prog_4_method_11_code 8 = .ok (.aload_n 0, 1) := by decide +kernel
theorem d_md_far_9 : decode prog_4_method_11_code 9 = .ok (.iload_n 2, 1) := by decide +kernel
theorem d_md_far_10 : decode prog_4_method_11_code 10 = .ok (.invokevirtual 42, 3) := by decide +kernel
theorem d_md_far_13 : decode prog_4_method_11_code 13 = .ok (.ifCond .eq 5, 3) := by decide +kernel
theorem d_md_far_16 : decode prog_4_method_11_code 16 = .ok (.iconst 0, 1) := by decide +kernel
theorem d_md_far_17 : decode prog_4_method_11_code 17 = .ok (.ireturn, 1) := by decide +kernel
theorem d_md_far_18 : decode prog_4_method_11_code 18 = .ok (.aload_n 0, 1) := by decide +kernel
theorem d_md_far_19 : decode prog_4_method_11_code 19 = .ok (.iload_n 1, 1) := by decide +kernel
theorem d_md_far_20 : decode prog_4_method_11_code 20 = .ok (.iconst (-1), 1) := by decide +kernel
theorem d_md_far_21 : decode prog_4_method_11_code 21 = .ok (.invokevirtual 50, 3) := by decide +kernel
theorem d_md_far_24 : decode prog_4_method_11_code 24 = .ok (.aload_n 0, 1) := by decide +kernel
theorem d_md_far_25 : decode prog_4_method_11_code 25 = .ok (.getfield 21, 3) := by decide +kernel
theorem d_md_far_28 : decode prog_4_method_11_code 28 = .ok (.iload_n 2, 1) := by decide +kernel
theorem d_md_far_29 : decode prog_4_method_11_code 29 = .ok (.iaload, 1) := by decide +kernel
theorem d_md_far_30 : decode prog_4_method_11_code 30 = .ok (.ireturn, 1) := by decide +kernel
theorem d_md_circle_0 : decode prog_4_method_14_code 0 = .ok (.aload_n 0, 1) := by decide +kernel
theorem d_md_circle_1 : decode prog_4_method_14_code 1 = .ok (.iconst 0, 1) := by decide +kernel
theorem d_md_circle_2 : decode prog_4_method_14_code 2 = .ok (.putfield 7, 3) := by decide +kernel
theorem d_md_circle_5 : decode prog_4_method_14_code 5 = .ok (.aload_n 0, 1) := by decide +kernel
theorem d_md_circle_6 : decode prog_4_method_14_code 6 = .ok (.invokevirtual 54, 3) := by decide +kernel
theorem d_md_circle_9 : decode prog_4_method_14_code 9 = .ok (.iconst 0, 1) := by decide +kernel
theorem d_md_circle_10 : decode prog_4_method_14_code 10 = .ok (.istore_n 1, 1) := by decide +kernel
theorem d_md_circle_11 : decode prog_4_method_14_code 11 = .ok (.iload_n 1, 1) := by decide +kernel
theorem d_md_circle_12 : decode prog_4_method_14_code 12 = .ok (.aload_n 0, 1) := by decide +kernel
theorem d_md_circle_13 : decode prog_4_method_14_code 13 = .ok (.getfield 13, 3) := by decide +kernel
theorem d_md_circle_16 : decode prog_4_method_14_code 16 = .ok (.if_icmp .ge 19, 3) := by decide +kernel
theorem d_md_circle_19 : decode prog_4_method_14_code 19 = .ok (.aload_n 0, 1) := by decide +kernel
theorem d_md_circle_20 : decode prog_4_method_14_code 20 = .ok (.iload_n 1, 1) := by decide +kernel
theorem d_md_circle_21 : decode prog_4_method_14_code 21 = .ok (.invokevirtual 57, 3) := by decide +kernel
theorem d_md_circle_24 : decode prog_4_method_14_code 24 = .ok (.ifCond .eq 5, 3) := by decide +kernel
theorem d_md_circle_27 : decode prog_4_method_14_code 27 = .ok (.iload_n 1, 1) := by decide +kernel
theorem d_md_circle_28 : decode prog_4_method_14_code 28 = .ok (.ireturn, 1) := by decide +kernel
theorem d_md_circle_29 : decode prog_4_method_14_code 29 = .ok (.iinc 1 1, 3) := by decide +kernel
theorem d_md_circle_32 : decode prog_4_method_14_code 32 = .ok (.goto (-21), 3) := by decide +kernel
theorem d_md_circle_35 : decode prog_4_method_14_code 35 = .ok (.iconst (-1), 1) := by decide +kernel
theorem d_md_circle_36 : decode prog_4_method_14_code 36 = .ok (.ireturn, 1) := by decide +kernel
theorem d_md_all0_0 : decode prog_4_method_12_code 0 = .ok (.iconst 0, 1) := by decide +kernel
theorem d_md_all0_1 : decode prog_4_method_12_code 1 = .ok (.istore_n 1, 1) := by decide +kernel
theorem d_md_all0_2 : decode prog_4_method_12_code 2 = .ok (.iload_n 1, 1) := by decide +kernel
theorem d_md_all0_3 : decode prog_4_method_12_code 3 = .ok (.aload_n 0, 1) := by decide +kernel
theorem d_md_all0_4 : decode prog_4_method_12_code 4 = .ok (.getfield 13, 3) := by decide +kernel
theorem d_md_all0_7 : decode prog_4_method_12_code 7 = .ok (.if_icmp .ge 53, 3) := by decide +kernel
theorem d_md_all0_10 : decode prog_4_method_12_code 10 = .ok (.aload_n 0, 1) := by decide +kernel
theorem d_md_all0_11 : decode prog_4_method_12_code 11 = .ok (.iload_n 1, 1) := by decide +kernel
theorem d_md_all0_12 : decode prog_4_method_12_code 12 = .ok (.iconst (-1), 1) := by decide +kernel
theorem d_md_all0_13 : decode prog_4_method_12_code 13 = .ok (.invokevirtual 50, 3) := by decide +kernel
theorem d_md_all0_16 : decode prog_4_method_12_code 16 = .ok (.iconst 0, 1) := by decide +kernel
theorem d_md_all0_17 : decode prog_4_method_12_code 17 = .ok (.istore_n 2, 1) := by decide +kernel
theorem d_md_all0_18 : decode prog_4_method_12_code 18 = .ok (.iload_n 2, 1) := by decide +kernel
theorem d_md_all0_19 : decode prog_4_method_12_code 19 = .ok (.aload_n 0, 1) := by decide +kernel
theorem d_md_all0_20 : decode prog_4_method_12_code 20 = .ok (.getfield 13, 3) := by decide +kernel
theorem d_md_all0_23 : decode prog_4_method_12_code 23 = .ok (.if_icmp .ge 31, 3) := by decide +kernel
theorem d_md_all0_26 : decode prog_4_method_12_code 26 = .ok (.aload_n 0, 1) := by decide +kernel
theorem d_md_all0_27 : decode prog_4_method_12_code 27 = .ok (.getfield 25, 3) := by decide +kernel
theorem d_md_all0_30 : decode prog_4_method_12_code 30 = .ok (.iload_n 1, 1) := by decide +kernel
theorem d_md_all0_31 : decode prog_4_method_12_code 31 = .ok (.aaload, 1) := by decide +kernel
theorem d_md_all0_32 : decode prog_4_method_12_code 32 = .ok (.iload_n 2, 1) := by decide +kernel
theorem d_md_all0_33 : decode prog_4_method_12_code 33 = .ok (.aload_n 0, 1) := by decide +kernel
theorem d_md_all0_34 : decode prog_4_method_12_code 34 = .ok (.getfield 21, 3) := by decide +kernel
theorem d_md_all0_37 : decode prog_4_method_12_code 37 = .ok (.iload_n 2, 1) := by decide +kernel
theorem d_md_all0_38 : decode prog_4_method_12_code 38 = .ok (.iaload, 1) := by decide +kernel
theorem d_md_all0_39 : decode prog_4_method_12_code 39 = .ok (.ifCond .lt 7, 3) := by decide +kernel
theorem d_md_all0_42 : decode prog_4_method_12_code 42 = .ok (.iconst 1, 1) := by decide +kernel
theorem d_md_all0_43 : decode prog_4_method_12_code 43 = .ok (.goto 4, 3) := by decide +kernel
theorem d_md_all0_46 : decode prog_4_method_12_code 46 = .ok (.iconst 0, 1) := by decide +kernel
theorem d_md_all0_47 : decode prog_4_method_12_code 47 = .ok (.bastore, 1) := by decide +kernel
theorem d_md_all0_48 : decode prog_4_method_12_code 48 = .ok (.iinc 2 1, 3) := by decide +kernel
theorem d_md_all0_51 : decode prog_4_method_12_code 51 = .ok (.goto (-33), 3) := by decide +kernel
theorem d_md_all0_54 : decode prog_4_method_12_code 54 = .ok (.iinc 1 1, 3) := by decide +kernel
theorem d_md_all0_57 : decode prog_4_method_12_code 57 = .ok (.goto (-55), 3) := by decide +kernel
theorem d_md_all0_60 : decode prog_4_method_12_code 60 = .ok (.return_, 1) := by decide +kernel
theorem d_md_onCircle_0 : decode prog_4_method_13_code 0 = .ok (.iconst 0, 1) := by decide +kernel
theorem d_md_onCircle_1 : decode prog_4_method_13_code 1 = .ok (.istore_n 2, 1) := by decide +kernel
theorem d_md_onCircle_2 : decode prog_4_method_13_code 2 = .ok (.iload_n 2, 1) := by decide +kernel
theorem d_md_onCircle_3 : decode prog_4_method_13_code 3 = .ok (.aload_n 0, 1) := by decide +kernel
theorem d_md_onCircle_4 : decode prog_4_method_13_code 4 = .ok (.getfield 13, 3) := by decide +kernel
theorem d_md_onCircle_7 : decode prog_4_method_13_code 7 = .ok (.if_icmp .ge 33, 3) := by decide +kernel
theorem d_md_onCircle_10 : decode prog_4_method_13_code 10 = .ok (.aload_n 0, 1) := by decide +kernel
theorem d_md_onCircle_11 : decode prog_4_method_13_code 11 = .ok (.getfield 18, 3) := by decide +kernel
theorem d_md_onCircle_14 : decode prog_4_method_13_code 14 = .ok (.iload_n 1, 1) := by decide +kernel
theorem d_md_onCircle_15 : decode prog_4_method_13_code 15 = .ok (.aaload, 1) := by decide +kernel
theorem d_md_onCircle_16 : decode prog_4_method_13_code 16 = .ok (.iload_n 2, 1) := by decide +kernel
theorem d_md_onCircle_17 : decode prog_4_method_13_code 17 = .ok (.baload, 1) := by decide +kernel
theorem d_md_onCircle_18 : decode prog_4_method_13_code 18 = .ok (.ifCond .eq 16, 3) := by decide +kernel
theorem d_md_onCircle_21 : decode prog_4_method_13_code 21 = .ok (.aload_n 0, 1) := by decide +kernel
theorem d_md_onCircle_22 : decode prog_4_method_13_code 22 = .ok (.getfield 25, 3) := by decide +kernel
theorem d_md_onCircle_25 : decode prog_4_method_13_code 25 = .ok (.iload_n 2, 1) := by decide +kernel
theorem d_md_onCircle_26 : decode prog_4_method_13_code 26 = .ok (.aaload, 1) := by decide +kernel
theorem d_md_onCircle_27 : decode prog_4_method_13_code 27 = .ok (.iload_n 1, 1) := by decide +kernel
theorem d_md_onCircle_28 : decode prog_4_method_13_code 28 = .ok (.baload, 1) := by decide +kernel
theorem d_md_onCircle_29 : decode prog_4_method_13_code 29 = .ok (.ifCond .eq 5, 3) := by decide +kernel
theorem d_md_onCircle_32 : decode prog_4_method_13_code 32 = .ok (.iconst 1, 1) := by decide +kernel
theorem d_md_onCircle_33 : decode prog_4_method_13_code 33 = .ok (.ireturn, 1) := by decide +kernel
theorem d_md_onCircle_34 : decode prog_4_method_13_code 34 = .ok (.iinc 2 1, 3) := by decide +kernel
theorem d_md_onCircle_37 : decode prog_4_method_13_code 37 = .ok (.goto (-35), 3) := by decide +kernel
theorem d_md_onCircle_40 : decode prog_4_method_13_code 40 = .ok (.iconst 0, 1) := by decide +kernel
theorem d_md_onCircle_41 : decode prog_4_method_13_code 41 = .ok (.ireturn, 1) := by decide +kernel
theorem d_md_group_0 : decode prog_4_method_16_code 0 = .ok (.aload_n 0, 1) := by decide +kernel
theorem d_md_group_1 : decode prog_4_method_16_code 1 = .ok (.iload_n 1, 1) := by decide +kernel
theorem d_md_group_2 : decode prog_4_method_16_code 2 = .ok (.invokevirtual 42, 3) := by decide +kernel
theorem d_md_group_5 : decode prog_4_method_16_code 5 = .ok (.ifCond .eq 5, 3) := by decide +kernel
theorem d_md_group_8 : decode prog_4_method_16_code 8 = .ok (.iconst 0, 1) := by decide +kernel
theorem d_md_group_9 : decode prog_4_method_16_code 9 = .ok (.ireturn, 1) := by decide +kernel
theorem d_md_group_10 : decode prog_4_method_16_code 10 = .ok (.aload_n 0, 1) := by decide +kernel
theorem d_md_group_11 : decode prog_4_method_16_code 11 = .ok (.invokevirtual 54, 3) := by decide +kernel
theorem d_md_group_14 : decode prog_4_method_16_code 14 = .ok (.aload_n 0, 1) := by decide +kernel
theorem d_md_group_15 : decode prog_4_method_16_code 15 = .ok (.iload_n 1, 1) := by decide +kernel
theorem d_md_group_16 : decode prog_4_method_16_code 16 = .ok (.invokevirtual 60, 3) := by decide +kernel
theorem d_md_group_19 : decode prog_4_method_16_code 19 = .ok (.ireturn, 1) := by decide +kernel
theorem d_md_least_0 : decode prog_4_method_15_code 0 = .ok (.iconst 0, 1) := by decide +kernel
theorem d_md_least_1 : decode prog_4_method_15_code 1 = .ok (.istore_n 2, 1) := by decide +kernel
theorem d_md_least_2 : decode prog_4_method_15_code 2 = .ok (.aload_n 0, 1) := by decide +kernel
theorem d_md_least_3 : decode prog_4_method_15_code 3 = .ok (.getfield 25, 3) := by decide +kernel
theorem d_md_least_6 : decode prog_4_method_15_code 6 = .ok (.iload_n 1, 1) := by decide +kernel
theorem d_md_least_7 : decode prog_4_method_15_code 7 = .ok (.aaload, 1) := by decide +kernel
theorem d_md_least_8 : decode prog_4_method_15_code 8 = .ok (.iload_n 2, 1) := by decide +kernel
theorem d_md_least_9 : decode prog_4_method_15_code 9 = .ok (.baload, 1) := by decide +kernel
theorem d_md_least_10 : decode prog_4_method_15_code 10 = .ok (.ifCond .eq 14, 3) := by decide +kernel
theorem d_md_least_13 : decode prog_4_method_15_code 13 = .ok (.aload_n 0, 1) := by decide +kernel
theorem d_md_least_14 : decode prog_4_method_15_code 14 = .ok (.getfield 25, 3) := by decide +kernel
theorem d_md_least_17 : decode prog_4_method_15_code 17 = .ok (.iload_n 2, 1) := by decide +kernel
theorem d_md_least_18 : decode prog_4_method_15_code 18 = .ok (.aaload, 1) := by decide +kernel
theorem d_md_least_19 : decode prog_4_method_15_code 19 = .ok (.iload_n 1, 1) := by decide +kernel
theorem d_md_least_20 : decode prog_4_method_15_code 20 = .ok (.baload, 1) := by decide +kernel
theorem d_md_least_21 : decode prog_4_method_15_code 21 = .ok (.ifCond .ne 9, 3) := by decide +kernel
theorem d_md_least_24 : decode prog_4_method_15_code 24 = .ok (.iinc 2 1, 3) := by decide +kernel
theorem d_md_least_27 : decode prog_4_method_15_code 27 = .ok (.goto (-25), 3) := by decide +kernel
theorem d_md_least_30 : decode prog_4_method_15_code 30 = .ok (.iload_n 2, 1) := by decide +kernel
theorem d_md_least_31 : decode prog_4_method_15_code 31 = .ok (.ireturn, 1) := by decide +kernel
theorem d_md_groups_0 : decode prog_4_method_17_code 0 = .ok (.aload_n 0, 1) := by decide +kernel
theorem d_md_groups_1 : decode prog_4_method_17_code 1 = .ok (.iconst 0, 1) := by decide +kernel
theorem d_md_groups_2 : decode prog_4_method_17_code 2 = .ok (.putfield 7, 3) := by decide +kernel
theorem d_md_groups_5 : decode prog_4_method_17_code 5 = .ok (.aload_n 0, 1) := by decide +kernel
theorem d_md_groups_6 : decode prog_4_method_17_code 6 = .ok (.invokevirtual 54, 3) := by decide +kernel
theorem d_md_groups_9 : decode prog_4_method_17_code 9 = .ok (.iconst 0, 1) := by decide +kernel
theorem d_md_groups_10 : decode prog_4_method_17_code 10 = .ok (.istore_n 1, 1) := by decide +kernel
theorem d_md_groups_11 : decode prog_4_method_17_code 11 = .ok (.iconst 0, 1) := by decide +kernel
theorem d_md_groups_12 : decode prog_4_method_17_code 12 = .ok (.istore_n 2, 1) := by decide +kernel
theorem d_md_groups_13 : decode prog_4_method_17_code 13 = .ok (.iload_n 2, 1) := by decide +kernel
theorem d_md_groups_14 : decode prog_4_method_17_code 14 = .ok (.aload_n 0, 1) := by decide +kernel
theorem d_md_groups_15 : decode prog_4_method_17_code 15 = .ok (.getfield 13, 3) := by decide +kernel
theorem d_md_groups_18 : decode prog_4_method_17_code 18 = .ok (.if_icmp .ge 21, 3) := by decide +kernel
theorem d_md_groups_21 : decode prog_4_method_17_code 21 = .ok (.aload_n 0, 1) := by decide +kernel
theorem d_md_groups_22 : decode prog_4_method_17_code 22 = .ok (.iload_n 2, 1) := by decide +kernel
theorem d_md_groups_23 : decode prog_4_method_17_code 23 = .ok (.invokevirtual 60, 3) := by decide +kernel
theorem d_md_groups_26 : decode prog_4_method_17_code 26 = .ok (.iload_n 2, 1) := by decide +kernel
theorem d_md_groups_27 : decode prog_4_method_17_code 27 = .ok (.if_icmp .ne 6, 3) := by decide +kernel
theorem d_md_groups_30 : decode prog_4_method_17_code 30 = .ok (.iinc 1 1, 3) := by decide +kernel
theorem d_md_groups_33 : decode prog_4_method_17_code 33 = .ok (.iinc 2 1, 3) := by decide +kernel
theorem d_md_groups_36 : decode prog_4_method_17_code 36 = .ok (.goto (-23), 3) := by decide +kernel
theorem d_md_groups_39 : decode prog_4_method_17_code 39 = .ok (.iload_n 1, 1) := by decide +kernel
theorem d_md_groups_40 : decode prog_4_method_17_code 40 = .ok (.ireturn, 1) := by decide +kernel
theorem d_md_order_0 : decode prog_4_method_20_code 0 = .ok (.aload_n 0, 1) := by decide +kernel
theorem d_md_order_1 : decode prog_4_method_20_code 1 = .ok (.iload_n 1, 1) := by decide +kernel
theorem d_md_order_2 : decode prog_4_method_20_code 2 = .ok (.invokevirtual 42, 3) := by decide +kernel
theorem d_md_order_5 : decode prog_4_method_20_code 5 = .ok (.ifCond .ne 23, 3) := by decide +kernel
theorem d_md_order_8 : decode prog_4_method_20_code 8 = .ok (.aload_n 0, 1) := by decide +kernel
theorem d_md_order_9 : decode prog_4_method_20_code 9 = .ok (.iconst 2, 1) := by decide +kernel
theorem d_md_order_10 : decode prog_4_method_20_code 10 = .ok (.aload_n 0, 1) := by decide +kernel
theorem d_md_order_11 : decode prog_4_method_20_code 11 = .ok (.invokevirtual 67, 3) := by decide +kernel
theorem d_md_order_14 : decode prog_4_method_20_code 14 = .ok (.ifCond .ne 7, 3) := by decide +kernel
theorem d_md_order_17 : decode prog_4_method_20_code 17 = .ok (.iconst 1, 1) := by decide +kernel
theorem d_md_order_18 : decode prog_4_method_20_code 18 = .ok (.goto 4, 3) := by decide +kernel
theorem d_md_order_21 : decode prog_4_method_20_code 21 = .ok (.iconst 0, 1) := by decide +kernel
theorem d_md_order_22 : decode prog_4_method_20_code 22 = .ok (.invokevirtual 38, 3) := by decide +kernel
theorem d_md_order_25 : decode prog_4_method_20_code 25 = .ok (.ifCond .eq 5, 3) := by decide +kernel
theorem d_md_order_28 : decode prog_4_method_20_code 28 = .ok (.iconst 0, 1) := by decide +kernel
theorem d_md_order_29 : decode prog_4_method_20_code 29 = .ok (.ireturn, 1) := by decide +kernel
theorem d_md_order_30 : decode prog_4_method_20_code 30 = .ok (.aload_n 0, 1) := by decide +kernel
theorem d_md_order_31 : decode prog_4_method_20_code 31 = .ok (.getfield 28, 3) := by decide +kernel
theorem d_md_order_34 : decode prog_4_method_20_code 34 = .ok (.iload_n 1, 1) := by decide +kernel
theorem d_md_order_35 : decode prog_4_method_20_code 35 = .ok (.iaload, 1) := by decide +kernel
theorem d_md_order_36 : decode prog_4_method_20_code 36 = .ok (.ireturn, 1) := by decide +kernel
theorem d_md_ordered_0 : decode prog_4_method_19_code 0 = .ok (.iconst 0, 1) := by decide +kernel
theorem d_md_ordered_1 : decode prog_4_method_19_code 1 = .ok (.istore_n 1, 1) := by decide +kernel
theorem d_md_ordered_2 : decode prog_4_method_19_code 2 = .ok (.iload_n 1, 1) := by decide +kernel
theorem d_md_ordered_3 : decode prog_4_method_19_code 3 = .ok (.aload_n 0, 1) := by decide +kernel
theorem d_md_ordered_4 : decode prog_4_method_19_code 4 = .ok (.getfield 13, 3) := by decide +kernel
theorem d_md_ordered_7 : decode prog_4_method_19_code 7 = .ok (.if_icmp .ge 16, 3) := by decide +kernel
theorem d_md_ordered_10 : decode prog_4_method_19_code 10 = .ok (.aload_n 0, 1) := by decide +kernel
theorem d_md_ordered_11 : decode prog_4_method_19_code 11 = .ok (.getfield 31, 3) := by decide +kernel
theorem d_md_ordered_14 : decode prog_4_method_19_code 14 = .ok (.iload_n 1, 1) := by decide +kernel
theorem d_md_ordered_15 : decode prog_4_method_19_code 15 = .ok (.iconst 0, 1) := by decide +kernel
theorem d_md_ordered_16 : decode prog_4_method_19_code 16 = .ok (.bastore, 1) := by decide +kernel
theorem d_md_ordered_17 : decode prog_4_method_19_code 17 = .ok (.iinc 1 1, 3) := by decide +kernel
theorem d_md_ordered_20 : decode prog_4_method_19_code 20 = .ok (.goto (-18), 3) := by decide +kernel
theorem d_md_ordered_23 : decode prog_4_method_19_code 23 = .ok (.iconst 0, 1) := by decide +kernel
theorem d_md_ordered_24 : decode prog_4_method_19_code 24 = .ok (.istore_n 1, 1) := by decide +kernel
theorem d_md_ordered_25 : decode prog_4_method_19_code 25 = .ok (.iload_n 1, 1) := by decide +kernel
theorem d_md_ordered_26 : decode prog_4_method_19_code 26 = .ok (.aload_n 0, 1) := by decide +kernel
theorem d_md_ordered_27 : decode prog_4_method_19_code 27 = .ok (.getfield 13, 3) := by decide +kernel
theorem d_md_ordered_30 : decode prog_4_method_19_code 30 = .ok (.if_icmp .ge 57, 3) := by decide +kernel
theorem d_md_ordered_33 : decode prog_4_method_19_code 33 = .ok (.iconst 0, 1) := by decide +kernel
theorem d_md_ordered_34 : decode prog_4_method_19_code 34 = .ok (.istore_n 2, 1) := by decide +kernel
theorem d_md_ordered_35 : decode prog_4_method_19_code 35 = .ok (.iload_n 2, 1) := by decide +kernel
theorem d_md_ordered_36 : decode prog_4_method_19_code 36 = .ok (.aload_n 0, 1) := by decide +kernel
theorem d_md_ordered_37 : decode prog_4_method_19_code 37 = .ok (.getfield 13, 3) := by decide +kernel
theorem d_md_ordered_40 : decode prog_4_method_19_code 40 = .ok (.if_icmp .ge 17, 3) := by decide +kernel
theorem d_md_ordered_43 : decode prog_4_method_19_code 43 = .ok (.aload_n 0, 1) := by decide +kernel
theorem d_md_ordered_44 : decode prog_4_method_19_code 44 = .ok (.iload_n 2, 1) := by decide +kernel
theorem d_md_ordered_45 : decode prog_4_method_19_code 45 = .ok (.invokevirtual 64, 3) := by decide +kernel
theorem d_md_ordered_48 : decode prog_4_method_19_code 48 = .ok (.ifCond .ne 9, 3) := by decide +kernel
theorem d_md_ordered_51 : decode prog_4_method_19_code 51 = .ok (.iinc 2 1, 3) := by decide +kernel
theorem d_md_ordered_54 : decode prog_4_method_19_code 54 = .ok (.goto (-19), 3) := by decide +kernel
theorem d_md_ordered_57 : decode prog_4_method_19_code 57 = .ok (.iload_n 2, 1) := by decide +kernel
theorem d_md_ordered_58 : decode prog_4_method_19_code 58 = .ok (.aload_n 0, 1) := by decide +kernel
theorem d_md_ordered_59 : decode prog_4_method_19_code 59 = .ok (.getfield 13, 3) := by decide +kernel
theorem d_md_ordered_62 : decode prog_4_method_19_code 62 = .ok (.if_icmp .ne 5, 3) := by decide +kernel
theorem d_md_ordered_65 : decode prog_4_method_19_code 65 = .ok (.iconst 0, 1) := by decide +kernel
theorem d_md_ordered_66 : decode prog_4_method_19_code 66 = .ok (.ireturn, 1) := by decide +kernel
theorem d_md_ordered_67 : decode prog_4_method_19_code 67 = .ok (.aload_n 0, 1) := by decide +kernel
theorem d_md_ordered_68 : decode prog_4_method_19_code 68 = .ok (.getfield 31, 3) := by decide +kernel
theorem d_md_ordered_71 : decode prog_4_method_19_code 71 = .ok (.iload_n 2, 1) := by decide +kernel
theorem d_md_ordered_72 : decode prog_4_method_19_code 72 = .ok (.iconst 1, 1) := by decide +kernel
theorem d_md_ordered_73 : decode prog_4_method_19_code 73 = .ok (.bastore, 1) := by decide +kernel
theorem d_md_ordered_74 : decode prog_4_method_19_code 74 = .ok (.aload_n 0, 1) := by decide +kernel
theorem d_md_ordered_75 : decode prog_4_method_19_code 75 = .ok (.getfield 28, 3) := by decide +kernel
theorem d_md_ordered_78 : decode prog_4_method_19_code 78 = .ok (.iload_n 1, 1) := by decide +kernel
theorem d_md_ordered_79 : decode prog_4_method_19_code 79 = .ok (.iload_n 2, 1) := by decide +kernel
theorem d_md_ordered_80 : decode prog_4_method_19_code 80 = .ok (.iastore, 1) := by decide +kernel
theorem d_md_ordered_81 : decode prog_4_method_19_code 81 = .ok (.iinc 1 1, 3) := by decide +kernel
theorem d_md_ordered_84 : decode prog_4_method_19_code 84 = .ok (.goto (-59), 3) := by decide +kernel
theorem d_md_ordered_87 : decode prog_4_method_19_code 87 = .ok (.iconst 1, 1) := by decide +kernel
theorem d_md_ordered_88 : decode prog_4_method_19_code 88 = .ok (.ireturn, 1) := by decide +kernel
theorem d_md_ready_0 : decode prog_4_method_18_code 0 = .ok (.aload_n 0, 1) := by decide +kernel
theorem d_md_ready_1 : decode prog_4_method_18_code 1 = .ok (.getfield 31, 3) := by decide +kernel
theorem d_md_ready_4 : decode prog_4_method_18_code 4 = .ok (.iload_n 1, 1) := by decide +kernel
theorem d_md_ready_5 : decode prog_4_method_18_code 5 = .ok (.baload, 1) := by decide +kernel
theorem d_md_ready_6 : decode prog_4_method_18_code 6 = .ok (.ifCond .eq 5, 3) := by decide +kernel
theorem d_md_ready_9 : decode prog_4_method_18_code 9 = .ok (.iconst 0, 1) := by decide +kernel
theorem d_md_ready_10 : decode prog_4_method_18_code 10 = .ok (.ireturn, 1) := by decide +kernel
theorem d_md_ready_11 : decode prog_4_method_18_code 11 = .ok (.iconst 0, 1) := by decide +kernel
theorem d_md_ready_12 : decode prog_4_method_18_code 12 = .ok (.istore_n 2, 1) := by decide +kernel
theorem d_md_ready_13 : decode prog_4_method_18_code 13 = .ok (.iload_n 2, 1) := by decide +kernel
theorem d_md_ready_14 : decode prog_4_method_18_code 14 = .ok (.aload_n 0, 1) := by decide +kernel
theorem d_md_ready_15 : decode prog_4_method_18_code 15 = .ok (.getfield 13, 3) := by decide +kernel
theorem d_md_ready_18 : decode prog_4_method_18_code 18 = .ok (.if_icmp .ge 31, 3) := by decide +kernel
theorem d_md_ready_21 : decode prog_4_method_18_code 21 = .ok (.aload_n 0, 1) := by decide +kernel
theorem d_md_ready_22 : decode prog_4_method_18_code 22 = .ok (.getfield 18, 3) := by decide +kernel
theorem d_md_ready_25 : decode prog_4_method_18_code 25 = .ok (.iload_n 2, 1) := by decide +kernel
theorem d_md_ready_26 : decode prog_4_method_18_code 26 = .ok (.aaload, 1) := by decide +kernel
theorem d_md_ready_27 : decode prog_4_method_18_code 27 = .ok (.iload_n 1, 1) := by decide +kernel
theorem d_md_ready_28 : decode prog_4_method_18_code 28 = .ok (.baload, 1) := by decide +kernel
theorem d_md_ready_29 : decode prog_4_method_18_code 29 = .ok (.ifCond .eq 14, 3) := by decide +kernel
theorem d_md_ready_32 : decode prog_4_method_18_code 32 = .ok (.aload_n 0, 1) := by decide +kernel
theorem d_md_ready_33 : decode prog_4_method_18_code 33 = .ok (.getfield 31, 3) := by decide +kernel
theorem d_md_ready_36 : decode prog_4_method_18_code 36 = .ok (.iload_n 2, 1) := by decide +kernel
theorem d_md_ready_37 : decode prog_4_method_18_code 37 = .ok (.baload, 1) := by decide +kernel
theorem d_md_ready_38 : decode prog_4_method_18_code 38 = .ok (.ifCond .ne 5, 3) := by decide +kernel
theorem d_md_ready_41 : decode prog_4_method_18_code 41 = .ok (.iconst 0, 1) := by decide +kernel
theorem d_md_ready_42 : decode prog_4_method_18_code 42 = .ok (.ireturn, 1) := by decide +kernel
theorem d_md_ready_43 : decode prog_4_method_18_code 43 = .ok (.iinc 2 1, 3) := by decide +kernel
theorem d_md_ready_46 : decode prog_4_method_18_code 46 = .ok (.goto (-33), 3) := by decide +kernel
theorem d_md_ready_49 : decode prog_4_method_18_code 49 = .ok (.iconst 1, 1) := by decide +kernel
theorem d_md_ready_50 : decode prog_4_method_18_code 50 = .ok (.ireturn, 1) := by decide +kernel
theorem d_md_level_0 : decode prog_4_method_21_code 0 = .ok (.aload_n 0, 1) := by decide +kernel
theorem d_md_level_1 : decode prog_4_method_21_code 1 = .ok (.iload_n 1, 1) := by decide +kernel
theorem d_md_level_2 : decode prog_4_method_21_code 2 = .ok (.invokevirtual 42, 3) := by decide +kernel
theorem d_md_level_5 : decode prog_4_method_21_code 5 = .ok (.ifCond .ne 23, 3) := by decide +kernel
theorem d_md_level_8 : decode prog_4_method_21_code 8 = .ok (.aload_n 0, 1) := by decide +kernel
theorem d_md_level_9 : decode prog_4_method_21_code 9 = .ok (.iconst 2, 1) := by decide +kernel
theorem d_md_level_10 : decode prog_4_method_21_code 10 = .ok (.aload_n 0, 1) := by decide +kernel
theorem d_md_level_11 : decode prog_4_method_21_code 11 = .ok (.invokevirtual 67, 3) := by decide +kernel
theorem d_md_level_14 : decode prog_4_method_21_code 14 = .ok (.ifCond .ne 7, 3) := by decide +kernel
theorem d_md_level_17 : decode prog_4_method_21_code 17 = .ok (.iconst 1, 1) := by decide +kernel
theorem d_md_level_18 : decode prog_4_method_21_code 18 = .ok (.goto 4, 3) := by decide +kernel
theorem d_md_level_21 : decode prog_4_method_21_code 21 = .ok (.iconst 0, 1) := by decide +kernel
theorem d_md_level_22 : decode prog_4_method_21_code 22 = .ok (.invokevirtual 38, 3) := by decide +kernel
theorem d_md_level_25 : decode prog_4_method_21_code 25 = .ok (.ifCond .eq 5, 3) := by decide +kernel
theorem d_md_level_28 : decode prog_4_method_21_code 28 = .ok (.iconst 0, 1) := by decide +kernel
theorem d_md_level_29 : decode prog_4_method_21_code 29 = .ok (.ireturn, 1) := by decide +kernel
theorem d_md_level_30 : decode prog_4_method_21_code 30 = .ok (.iconst 0, 1) := by decide +kernel
theorem d_md_level_31 : decode prog_4_method_21_code 31 = .ok (.istore_n 2, 1) := by decide +kernel
theorem d_md_level_32 : decode prog_4_method_21_code 32 = .ok (.iload_n 2, 1) := by decide +kernel
theorem d_md_level_33 : decode prog_4_method_21_code 33 = .ok (.aload_n 0, 1) := by decide +kernel
theorem d_md_level_34 : decode prog_4_method_21_code 34 = .ok (.getfield 13, 3) := by decide +kernel
theorem d_md_level_37 : decode prog_4_method_21_code 37 = .ok (.if_icmp .ge 77, 3) := by decide +kernel
theorem d_md_level_40 : decode prog_4_method_21_code 40 = .ok (.aload_n 0, 1) := by decide +kernel
theorem d_md_level_41 : decode prog_4_method_21_code 41 = .ok (.getfield 28, 3) := by decide +kernel
theorem d_md_level_44 : decode prog_4_method_21_code 44 = .ok (.iload_n 2, 1) := by decide +kernel
theorem d_md_level_45 : decode prog_4_method_21_code 45 = .ok (.iaload, 1) := by decide +kernel
theorem d_md_level_46 : decode prog_4_method_21_code 46 = .ok (.istore_n 3, 1) := by decide +kernel
theorem d_md_level_47 : decode prog_4_method_21_code 47 = .ok (.aload_n 0, 1) := by decide +kernel
theorem d_md_level_48 : decode prog_4_method_21_code 48 = .ok (.getfield 35, 3) := by decide +kernel
theorem d_md_level_51 : decode prog_4_method_21_code 51 = .ok (.iload_n 3, 1) := by decide +kernel
theorem d_md_level_52 : decode prog_4_method_21_code 52 = .ok (.iconst 0, 1) := by decide +kernel
theorem d_md_level_53 : decode prog_4_method_21_code 53 = .ok (.iastore, 1) := by decide +kernel
theorem d_md_level_54 : decode prog_4_method_21_code 54 = .ok (.iconst 0, 1) := by decide +kernel
theorem d_md_level_55 : decode prog_4_method_21_code 55 = .ok (.istore 4, 2) := by decide +kernel
theorem d_md_level_57 : decode prog_4_method_21_code 57 = .ok (.iload 4, 2) := by decide +kernel
theorem d_md_level_59 : decode prog_4_method_21_code 59 = .ok (.aload_n 0, 1) := by decide +kernel
theorem d_md_level_60 : decode prog_4_method_21_code 60 = .ok (.getfield 13, 3) := by decide +kernel
theorem d_md_level_63 : decode prog_4_method_21_code 63 = .ok (.if_icmp .ge 45, 3) := by decide +kernel
theorem d_md_level_66 : decode prog_4_method_21_code 66 = .ok (.aload_n 0, 1) := by decide +kernel
theorem d_md_level_67 : decode prog_4_method_21_code 67 = .ok (.getfield 18, 3) := by decide +kernel
theorem d_md_level_70 : decode prog_4_method_21_code 70 = .ok (.iload 4, 2) := by decide +kernel
theorem d_md_level_72 : decode prog_4_method_21_code 72 = .ok (.aaload, 1) := by decide +kernel
theorem d_md_level_73 : decode prog_4_method_21_code 73 = .ok (.iload_n 3, 1) := by decide +kernel
theorem d_md_level_74 : decode prog_4_method_21_code 74 = .ok (.baload, 1) := by decide +kernel
theorem d_md_level_75 : decode prog_4_method_21_code 75 = .ok (.ifCond .eq 27, 3) := by decide +kernel
theorem d_md_level_78 : decode prog_4_method_21_code 78 = .ok (.aload_n 0, 1) := by decide +kernel
theorem d_md_level_79 : decode prog_4_method_21_code 79 = .ok (.getfield 35, 3) := by decide +kernel
theorem d_md_level_82 : decode prog_4_method_21_code 82 = .ok (.iload_n 3, 1) := by decide +kernel
theorem d_md_level_83 : decode prog_4_method_21_code 83 = .ok (.aload_n 0, 1) := by decide +kernel
theorem d_md_level_84 : decode prog_4_method_21_code 84 = .ok (.getfield 35, 3) := by decide +kernel
theorem d_md_level_87 : decode prog_4_method_21_code 87 = .ok (.iload_n 3, 1) := by decide +kernel
theorem d_md_level_88 : decode prog_4_method_21_code 88 = .ok (.iaload, 1) := by decide +kernel
theorem d_md_level_89 : decode prog_4_method_21_code 89 = .ok (.aload_n 0, 1) := by decide +kernel
theorem d_md_level_90 : decode prog_4_method_21_code 90 = .ok (.getfield 35, 3) := by decide +kernel
theorem d_md_level_93 : decode prog_4_method_21_code 93 = .ok (.iload 4, 2) := by decide +kernel
theorem d_md_level_95 : decode prog_4_method_21_code 95 = .ok (.iaload, 1) := by decide +kernel
theorem d_md_level_96 : decode prog_4_method_21_code 96 = .ok (.iconst 1, 1) := by decide +kernel
theorem d_md_level_97 : decode prog_4_method_21_code 97 = .ok (.iadd, 1) := by decide +kernel
theorem d_md_level_98 : decode prog_4_method_21_code 98 = .ok (.invokestatic 71, 3) := by decide +kernel
theorem d_md_level_101 : decode prog_4_method_21_code 101 = .ok (.iastore, 1) := by decide +kernel
theorem d_md_level_102 : decode prog_4_method_21_code 102 = .ok (.iinc 4 1, 3) := by decide +kernel
theorem d_md_level_105 : decode prog_4_method_21_code 105 = .ok (.goto (-48), 3) := by decide +kernel
theorem d_md_level_108 : decode prog_4_method_21_code 108 = .ok (.iinc 2 1, 3) := by decide +kernel
theorem d_md_level_111 : decode prog_4_method_21_code 111 = .ok (.goto (-79), 3) := by decide +kernel
theorem d_md_level_114 : decode prog_4_method_21_code 114 = .ok (.aload_n 0, 1) := by decide +kernel
theorem d_md_level_115 : decode prog_4_method_21_code 115 = .ok (.getfield 35, 3) := by decide +kernel
theorem d_md_level_118 : decode prog_4_method_21_code 118 = .ok (.iload_n 1, 1) := by decide +kernel
theorem d_md_level_119 : decode prog_4_method_21_code 119 = .ok (.iaload, 1) := by decide +kernel
theorem d_md_level_120 : decode prog_4_method_21_code 120 = .ok (.ireturn, 1) := by decide +kernel
theorem d_md_paths_0 : decode prog_4_method_22_code 0 = .ok (.aload_n 0, 1) := by decide +kernel
theorem d_md_paths_1 : decode prog_4_method_22_code 1 = .ok (.iload_n 1, 1) := by decide +kernel
theorem d_md_paths_2 : decode prog_4_method_22_code 2 = .ok (.invokevirtual 42, 3) := by decide +kernel
theorem d_md_paths_5 : decode prog_4_method_22_code 5 = .ok (.ifCond .ne 31, 3) := by decide +kernel
theorem d_md_paths_8 : decode prog_4_method_22_code 8 = .ok (.aload_n 0, 1) := by decide +kernel
theorem d_md_paths_9 : decode prog_4_method_22_code 9 = .ok (.iload_n 2, 1) := by decide +kernel
theorem d_md_paths_10 : decode prog_4_method_22_code 10 = .ok (.invokevirtual 42, 3) := by decide +kernel
theorem d_md_paths_13 : decode prog_4_method_22_code 13 = .ok (.ifCond .ne 23, 3) := by decide +kernel
theorem d_md_paths_16 : decode prog_4_method_22_code 16 = .ok (.aload_n 0, 1) := by decide +kernel
theorem d_md_paths_17 : decode prog_4_method_22_code 17 = .ok (.iconst 2, 1) := by decide +kernel
theorem d_md_paths_18 : decode prog_4_method_22_code 18 = .ok (.aload_n 0, 1) := by decide +kernel
theorem d_md_paths_19 : decode prog_4_method_22_code 19 = .ok (.invokevirtual 67, 3) := by decide +kernel
theorem d_md_paths_22 : decode prog_4_method_22_code 22 = .ok (.ifCond .ne 7, 3) := by decide +kernel
theorem d_md_paths_25 : decode prog_4_method_22_code 25 = .ok (.iconst 1, 1) := by decide +kernel
theorem d_md_paths_26 : decode prog_4_method_22_code 26 = .ok (.goto 4, 3) := by decide +kernel
theorem d_md_paths_29 : decode prog_4_method_22_code 29 = .ok (.iconst 0, 1) := by decide +kernel
theorem d_md_paths_30 : decode prog_4_method_22_code 30 = .ok (.invokevirtual 38, 3) := by decide +kernel
theorem d_md_paths_33 : decode prog_4_method_22_code 33 = .ok (.ifCond .eq 5, 3) := by decide +kernel
theorem d_md_paths_36 : decode prog_4_method_22_code 36 = .ok (.iconst 0, 1) := by decide +kernel
theorem d_md_paths_37 : decode prog_4_method_22_code 37 = .ok (.ireturn, 1) := by decide +kernel
theorem d_md_paths_38 : decode prog_4_method_22_code 38 = .ok (.iconst 0, 1) := by decide +kernel
theorem d_md_paths_39 : decode prog_4_method_22_code 39 = .ok (.istore_n 3, 1) := by decide +kernel
theorem d_md_paths_40 : decode prog_4_method_22_code 40 = .ok (.iload_n 3, 1) := by decide +kernel
theorem d_md_paths_41 : decode prog_4_method_22_code 41 = .ok (.aload_n 0, 1) := by decide +kernel
theorem d_md_paths_42 : decode prog_4_method_22_code 42 = .ok (.getfield 13, 3) := by decide +kernel
theorem d_md_paths_45 : decode prog_4_method_22_code 45 = .ok (.if_icmp .ge 91, 3) := by decide +kernel
theorem d_md_paths_48 : decode prog_4_method_22_code 48 = .ok (.aload_n 0, 1) := by decide +kernel
theorem d_md_paths_49 : decode prog_4_method_22_code 49 = .ok (.getfield 28, 3) := by decide +kernel
theorem d_md_paths_52 : decode prog_4_method_22_code 52 = .ok (.iload_n 3, 1) := by decide +kernel
theorem d_md_paths_53 : decode prog_4_method_22_code 53 = .ok (.iaload, 1) := by decide +kernel
theorem d_md_paths_54 : decode prog_4_method_22_code 54 = .ok (.istore 4, 2) := by decide +kernel
theorem d_md_paths_56 : decode prog_4_method_22_code 56 = .ok (.aload_n 0, 1) := by decide +kernel
theorem d_md_paths_57 : decode prog_4_method_22_code 57 = .ok (.getfield 35, 3) := by decide +kernel
theorem d_md_paths_60 : decode prog_4_method_22_code 60 = .ok (.iload 4, 2) := by decide +kernel
theorem d_md_paths_62 : decode prog_4_method_22_code 62 = .ok (.iload 4, 2) := by decide +kernel
theorem d_md_paths_64 : decode prog_4_method_22_code 64 = .ok (.iload_n 1, 1) := by decide +kernel
theorem d_md_paths_65 : decode prog_4_method_22_code 65 = .ok (.if_icmp .ne 7, 3) := by decide +kernel
theorem d_md_paths_68 : decode prog_4_method_22_code 68 = .ok (.iconst 1, 1) := by decide +kernel
theorem d_md_paths_69 : decode prog_4_method_22_code 69 = .ok (.goto 4, 3) := by decide +kernel
theorem d_md_paths_72 : decode prog_4_method_22_code 72 = .ok (.iconst 0, 1) := by decide +kernel
theorem d_md_paths_73 : decode prog_4_method_22_code 73 = .ok (.iastore, 1) := by decide +kernel
theorem d_md_paths_74 : decode prog_4_method_22_code 74 = .ok (.iconst 0, 1) := by decide +kernel
theorem d_md_paths_75 : decode prog_4_method_22_code 75 = .ok (.istore 5, 2) := by decide +kernel
theorem d_md_paths_77 : decode prog_4_method_22_code 77 = .ok (.iload 5, 2) := by decide +kernel
theorem d_md_paths_79 : decode prog_4_method_22_code 79 = .ok (.aload_n 0, 1) := by decide +kernel
theorem d_md_paths_80 : decode prog_4_method_22_code 80 = .ok (.getfield 13, 3) := by decide +kernel
theorem d_md_paths_83 : decode prog_4_method_22_code 83 = .ok (.if_icmp .ge 47, 3) := by decide +kernel
theorem d_md_paths_86 : decode prog_4_method_22_code 86 = .ok (.aload_n 0, 1) := by decide +kernel
theorem d_md_paths_87 : decode prog_4_method_22_code 87 = .ok (.getfield 18, 3) := by decide +kernel
theorem d_md_paths_90 : decode prog_4_method_22_code 90 = .ok (.iload 5, 2) := by decide +kernel
theorem d_md_paths_92 : decode prog_4_method_22_code 92 = .ok (.aaload, 1) := by decide +kernel
theorem d_md_paths_93 : decode prog_4_method_22_code 93 = .ok (.iload 4, 2) := by decide +kernel
theorem d_md_paths_95 : decode prog_4_method_22_code 95 = .ok (.baload, 1) := by decide +kernel
theorem d_md_paths_96 : decode prog_4_method_22_code 96 = .ok (.ifCond .eq 28, 3) := by decide +kernel
theorem d_md_paths_99 : decode prog_4_method_22_code 99 = .ok (.aload_n 0, 1) := by decide +kernel
theorem d_md_paths_100 : decode prog_4_method_22_code 100 = .ok (.getfield 35, 3) := by decide +kernel
theorem d_md_paths_103 : decode prog_4_method_22_code 103 = .ok (.iload 4, 2) := by decide +kernel
theorem d_md_paths_105 : decode prog_4_method_22_code 105 = .ok (.aload_n 0, 1) := by decide +kernel
theorem d_md_paths_106 : decode prog_4_method_22_code 106 = .ok (.getfield 35, 3) := by decide +kernel
theorem d_md_paths_109 : decode prog_4_method_22_code 109 = .ok (.iload 4, 2) := by decide +kernel
theorem d_md_paths_111 : decode prog_4_method_22_code 111 = .ok (.iaload, 1) := by decide +kernel
theorem d_md_paths_112 : decode prog_4_method_22_code 112 = .ok (.aload_n 0, 1) := by decide +kernel
theorem d_md_paths_113 : decode prog_4_method_22_code 113 = .ok (.getfield 35, 3) := by decide +kernel
theorem d_md_paths_116 : decode prog_4_method_22_code 116 = .ok (.iload 5, 2) := by decide +kernel
theorem d_md_paths_118 : decode prog_4_method_22_code 118 = .ok (.iaload, 1) := by decide +kernel
theorem d_md_paths_119 : decode prog_4_method_22_code 119 = .ok (.iadd, 1) := by decide +kernel
theorem d_md_paths_120 : decode prog_4_method_22_code 120 = .ok (.ldc 77, 2) := by decide +kernel
theorem d_md_paths_122 : decode prog_4_method_22_code 122 = .ok (.irem, 1) := by decide +kernel
theorem d_md_paths_123 : decode prog_4_method_22_code 123 = .ok (.iastore, 1) := by decide +kernel
theorem d_md_paths_124 : decode prog_4_method_22_code 124 = .ok (.iinc 5 1, 3) := by decide +kernel
theorem d_md_paths_127 : decode prog_4_method_22_code 127 = .ok (.goto (-50), 3) := by decide +kernel
theorem d_md_paths_130 : decode prog_4_method_22_code 130 = .ok (.iinc 3 1, 3) := by decide +kernel
theorem d_md_paths_133 : decode prog_4_method_22_code 133 = .ok (.goto (-93), 3) := by decide +kernel
theorem d_md_paths_136 : decode prog_4_method_22_code 136 = .ok (.aload_n 0, 1) := by decide +kernel
theorem d_md_paths_137 : decode prog_4_method_22_code 137 = .ok (.getfield 35, 3) := by decide +kernel
theorem d_md_paths_140 : decode prog_4_method_22_code 140 = .ok (.iload_n 2, 1) := by decide +kernel
theorem d_md_paths_141 : decode prog_4_method_22_code 141 = .ok (.iaload, 1) := by decide +kernel
theorem d_md_paths_142 : decode prog_4_method_22_code 142 = .ok (.ireturn, 1) := by decide +kernel
theorem d_md_gate_0 : decode prog_4_method_24_code 0 = .ok (.aload_n 0, 1) := by decide +kernel
theorem d_md_gate_1 : decode prog_4_method_24_code 1 = .ok (.iload_n 1, 1) := by decide +kernel
theorem d_md_gate_2 : decode prog_4_method_24_code 2 = .ok (.invokevirtual 42, 3) := by decide +kernel
theorem d_md_gate_5 : decode prog_4_method_24_code 5 = .ok (.ifCond .ne 11, 3) := by decide +kernel
theorem d_md_gate_8 : decode prog_4_method_24_code 8 = .ok (.aload_n 0, 1) := by decide +kernel
theorem d_md_gate_9 : decode prog_4_method_24_code 9 = .ok (.iload_n 2, 1) := by decide +kernel
theorem d_md_gate_10 : decode prog_4_method_24_code 10 = .ok (.invokevirtual 42, 3) := by decide +kernel
theorem d_md_gate_13 : decode prog_4_method_24_code 13 = .ok (.ifCond .eq 5, 3) := by decide +kernel
theorem d_md_gate_16 : decode prog_4_method_24_code 16 = .ok (.iconst 0, 1) := by decide +kernel
theorem d_md_gate_17 : decode prog_4_method_24_code 17 = .ok (.ireturn, 1) := by decide +kernel
theorem d_md_gate_18 : decode prog_4_method_24_code 18 = .ok (.aload_n 0, 1) := by decide +kernel
theorem d_md_gate_19 : decode prog_4_method_24_code 19 = .ok (.iload_n 1, 1) := by decide +kernel
theorem d_md_gate_20 : decode prog_4_method_24_code 20 = .ok (.iconst (-1), 1) := by decide +kernel
theorem d_md_gate_21 : decode prog_4_method_24_code 21 = .ok (.invokevirtual 50, 3) := by decide +kernel
theorem d_md_gate_24 : decode prog_4_method_24_code 24 = .ok (.iload_n 1, 1) := by decide +kernel
theorem d_md_gate_25 : decode prog_4_method_24_code 25 = .ok (.iload_n 2, 1) := by decide +kernel
theorem d_md_gate_26 : decode prog_4_method_24_code 26 = .ok (.if_icmp .eq 12, 3) := by decide +kernel
theorem d_md_gate_29 : decode prog_4_method_24_code 29 = .ok (.aload_n 0, 1) := by decide +kernel
theorem d_md_gate_30 : decode prog_4_method_24_code 30 = .ok (.getfield 21, 3) := by decide +kernel
theorem d_md_gate_33 : decode prog_4_method_24_code 33 = .ok (.iload_n 2, 1) := by decide +kernel
theorem d_md_gate_34 : decode prog_4_method_24_code 34 = .ok (.iaload, 1) := by decide +kernel
theorem d_md_gate_35 : decode prog_4_method_24_code 35 = .ok (.ifCond .ge 5, 3) := by decide +kernel
theorem d_md_gate_38 : decode prog_4_method_24_code 38 = .ok (.iconst (-1), 1) := by decide +kernel
theorem d_md_gate_39 : decode prog_4_method_24_code 39 = .ok (.ireturn, 1) := by decide +kernel
theorem d_md_gate_40 : decode prog_4_method_24_code 40 = .ok (.iload_n 1, 1) := by decide +kernel
theorem d_md_gate_41 : decode prog_4_method_24_code 41 = .ok (.istore_n 3, 1) := by decide +kernel
theorem d_md_gate_42 : decode prog_4_method_24_code 42 = .ok (.iconst 0, 1) := by decide +kernel
theorem d_md_gate_43 : decode prog_4_method_24_code 43 = .ok (.istore 4, 2) := by decide +kernel
theorem d_md_gate_45 : decode prog_4_method_24_code 45 = .ok (.iload 4, 2) := by decide +kernel
theorem d_md_gate_47 : decode prog_4_method_24_code 47 = .ok (.aload_n 0, 1) := by decide +kernel
theorem d_md_gate_48 : decode prog_4_method_24_code 48 = .ok (.getfield 13, 3) := by decide +kernel
theorem d_md_gate_51 : decode prog_4_method_24_code 51 = .ok (.if_icmp .ge 46, 3) := by decide +kernel
theorem d_md_gate_54 : decode prog_4_method_24_code 54 = .ok (.iload 4, 2) := by decide +kernel
theorem d_md_gate_56 : decode prog_4_method_24_code 56 = .ok (.iload_n 2, 1) := by decide +kernel
theorem d_md_gate_57 : decode prog_4_method_24_code 57 = .ok (.if_icmp .eq 34, 3) := by decide +kernel
theorem d_md_gate_60 : decode prog_4_method_24_code 60 = .ok (.iload 4, 2) := by decide +kernel
theorem d_md_gate_62 : decode prog_4_method_24_code 62 = .ok (.iload_n 3, 1) := by decide +kernel
theorem d_md_gate_63 : decode prog_4_method_24_code 63 = .ok (.if_icmp .eq 28, 3) := by decide +kernel
theorem d_md_gate_66 : decode prog_4_method_24_code 66 = .ok (.aload_n 0, 1) := by decide +kernel
theorem d_md_gate_67 : decode prog_4_method_24_code 67 = .ok (.iload_n 1, 1) := by decide +kernel
theorem d_md_gate_68 : decode prog_4_method_24_code 68 = .ok (.iload_n 2, 1) := by decide +kernel
theorem d_md_gate_69 : decode prog_4_method_24_code 69 = .ok (.iload 4, 2) := by decide +kernel
theorem d_md_gate_71 : decode prog_4_method_24_code 71 = .ok (.invokevirtual 78, 3) := by decide +kernel
theorem d_md_gate_74 : decode prog_4_method_24_code 74 = .ok (.ifCond .eq 17, 3) := by decide +kernel
theorem d_md_gate_77 : decode prog_4_method_24_code 77 = .ok (.aload_n 0, 1) := by decide +kernel
theorem d_md_gate_78 : decode prog_4_method_24_code 78 = .ok (.iload_n 1, 1) := by decide +kernel
theorem d_md_gate_79 : decode prog_4_method_24_code 79 = .ok (.iload 4, 2) := by decide +kernel
theorem d_md_gate_81 : decode prog_4_method_24_code 81 = .ok (.iload_n 3, 1) := by decide +kernel
theorem d_md_gate_82 : decode prog_4_method_24_code 82 = .ok (.invokevirtual 78, 3) := by decide +kernel
theorem d_md_gate_85 : decode prog_4_method_24_code 85 = .ok (.ifCond .eq 6, 3) := by decide +kernel
theorem d_md_gate_88 : decode prog_4_method_24_code 88 = .ok (.iload 4, 2) := by decide +kernel
theorem d_md_gate_90 : decode prog_4_method_24_code 90 = .ok (.istore_n 3, 1) := by decide +kernel
theorem d_md_gate_91 : decode prog_4_method_24_code 91 = .ok (.iinc 4 1, 3) := by decide +kernel
theorem d_md_gate_94 : decode prog_4_method_24_code 94 = .ok (.goto (-49), 3) := by decide +kernel
theorem d_md_gate_97 : decode prog_4_method_24_code 97 = .ok (.iload_n 3, 1) := by decide +kernel
theorem d_md_gate_98 : decode prog_4_method_24_code 98 = .ok (.ireturn, 1) := by decide +kernel
theorem d_md_always_0 : decode prog_4_method_23_code 0 = .ok (.aload_n 0, 1) := by decide +kernel
theorem d_md_always_1 : decode prog_4_method_23_code 1 = .ok (.iload_n 1, 1) := by decide +kernel
theorem d_md_always_2 : decode prog_4_method_23_code 2 = .ok (.iload_n 3, 1) := by decide +kernel
theorem d_md_always_3 : decode prog_4_method_23_code 3 = .ok (.invokevirtual 50, 3) := by decide +kernel
theorem d_md_always_6 : decode prog_4_method_23_code 6 = .ok (.aload_n 0, 1) := by decide +kernel
theorem d_md_always_7 : decode prog_4_method_23_code 7 = .ok (.getfield 21, 3) := by decide +kernel
theorem d_md_always_10 : decode prog_4_method_23_code 10 = .ok (.iload_n 2, 1) := by decide +kernel
theorem d_md_always_11 : decode prog_4_method_23_code 11 = .ok (.iaload, 1) := by decide +kernel
theorem d_md_always_12 : decode prog_4_method_23_code 12 = .ok (.ifCond .ge 7, 3) := by decide +kernel
theorem d_md_always_15 : decode prog_4_method_23_code 15 = .ok (.iconst 1, 1) := by decide +kernel
theorem d_md_always_16 : decode prog_4_method_23_code 16 = .ok (.goto 4, 3) := by decide +kernel
theorem d_md_always_19 : decode prog_4_method_23_code 19 = .ok (.iconst 0, 1) := by decide +kernel
theorem d_md_always_20 : decode prog_4_method_23_code 20 = .ok (.ireturn, 1) := by decide +kernel
theorem d_md_all3_0 : decode prog_4_method_25_code 0 = .ok (.aload_n 0, 1) := by decide +kernel
theorem d_md_all3_1 : decode prog_4_method_25_code 1 = .ok (.iload_n 1, 1) := by decide +kernel
theorem d_md_all3_2 : decode prog_4_method_25_code 2 = .ok (.invokevirtual 42, 3) := by decide +kernel
theorem d_md_all3_5 : decode prog_4_method_25_code 5 = .ok (.ifCond .ne 19, 3) := by decide +kernel
theorem d_md_all3_8 : decode prog_4_method_25_code 8 = .ok (.aload_n 0, 1) := by decide +kernel
theorem d_md_all3_9 : decode prog_4_method_25_code 9 = .ok (.iload_n 2, 1) := by decide +kernel
theorem d_md_all3_10 : decode prog_4_method_25_code 10 = .ok (.invokevirtual 42, 3) := by decide +kernel
theorem d_md_all3_13 : decode prog_4_method_25_code 13 = .ok (.ifCond .ne 11, 3) := by decide +kernel
theorem d_md_all3_16 : decode prog_4_method_25_code 16 = .ok (.aload_n 0, 1) := by decide +kernel
theorem d_md_all3_17 : decode prog_4_method_25_code 17 = .ok (.iload_n 3, 1) := by decide +kernel
theorem d_md_all3_18 : decode prog_4_method_25_code 18 = .ok (.invokevirtual 42, 3) := by decide +kernel
theorem d_md_all3_21 : decode prog_4_method_25_code 21 = .ok (.ifCond .eq 5, 3) := by decide +kernel
theorem d_md_all3_24 : decode prog_4_method_25_code 24 = .ok (.iconst 0, 1) := by decide +kernel
theorem d_md_all3_25 : decode prog_4_method_25_code 25 = .ok (.ireturn, 1) := by decide +kernel
theorem d_md_all3_26 : decode prog_4_method_25_code 26 = .ok (.aload_n 0, 1) := by decide +kernel
theorem d_md_all3_27 : decode prog_4_method_25_code 27 = .ok (.iload_n 1, 1) := by decide +kernel
theorem d_md_all3_28 : decode prog_4_method_25_code 28 = .ok (.iload_n 2, 1) := by decide +kernel
theorem d_md_all3_29 : decode prog_4_method_25_code 29 = .ok (.iload_n 3, 1) := by decide +kernel
theorem d_md_all3_30 : decode prog_4_method_25_code 30 = .ok (.invokevirtual 78, 3) := by decide +kernel
theorem d_md_all3_33 : decode prog_4_method_25_code 33 = .ok (.ireturn, 1) := by decide +kernel
theorem d_md_count_0 : decode prog_4_method_26_code 0 = .ok (.aload_n 0, 1) := by decide +kernel
theorem d_md_count_1 : decode prog_4_method_26_code 1 = .ok (.iconst 0, 1) := by decide +kernel
theorem d_md_count_2 : decode prog_4_method_26_code 2 = .ok (.putfield 7, 3) := by decide +kernel
theorem d_md_count_5 : decode prog_4_method_26_code 5 = .ok (.iconst 0, 1) := by decide +kernel
theorem d_md_count_6 : decode prog_4_method_26_code 6 = .ok (.istore_n 2, 1) := by decide +kernel
theorem d_md_count_7 : decode prog_4_method_26_code 7 = .ok (.iconst 0, 1) := by decide +kernel
theorem d_md_count_8 : decode prog_4_method_26_code 8 = .ok (.istore_n 3, 1) := by decide +kernel
theorem d_md_count_9 : decode prog_4_method_26_code 9 = .ok (.iconst 0, 1) := by decide +kernel
theorem d_md_count_10 : decode prog_4_method_26_code 10 = .ok (.istore 4, 2) := by decide +kernel
theorem d_md_count_12 : decode prog_4_method_26_code 12 = .ok (.aload_n 0, 1) := by decide +kernel
theorem d_md_count_13 : decode prog_4_method_26_code 13 = .ok (.invokevirtual 54, 3) := by decide +kernel
theorem d_md_count_16 : decode prog_4_method_26_code 16 = .ok (.iconst 0, 1) := by decide +kernel
theorem d_md_count_17 : decode prog_4_method_26_code 17 = .ok (.istore 5, 2) := by decide +kernel
theorem d_md_count_19 : decode prog_4_method_26_code 19 = .ok (.iload 5, 2) := by decide +kernel
theorem d_md_count_21 : decode prog_4_method_26_code 21 = .ok (.aload_n 0, 1) := by decide +kernel
theorem d_md_count_22 : decode prog_4_method_26_code 22 = .ok (.getfield 13, 3) := by decide +kernel
theorem d_md_count_25 : decode prog_4_method_26_code 25 = .ok (.if_icmp .ge 82, 3) := by decide +kernel
theorem d_md_count_28 : decode prog_4_method_26_code 28 = .ok (.iconst 0, 1) := by decide +kernel
theorem d_md_count_29 : decode prog_4_method_26_code 29 = .ok (.istore 6, 2) := by decide +kernel
theorem d_md_count_31 : decode prog_4_method_26_code 31 = .ok (.iconst 0, 1) := by decide +kernel
theorem d_md_count_32 : decode prog_4_method_26_code 32 = .ok (.istore 7, 2) := by decide +kernel
theorem d_md_count_34 : decode prog_4_method_26_code 34 = .ok (.iload 7, 2) := by decide +kernel
theorem d_md_count_36 : decode prog_4_method_26_code 36 = .ok (.aload_n 0, 1) := by decide +kernel
theorem d_md_count_37 : decode prog_4_method_26_code 37 = .ok (.getfield 13, 3) := by decide +kernel
theorem d_md_count_40 : decode prog_4_method_26_code 40 = .ok (.if_icmp .ge 41, 3) := by decide +kernel
theorem d_md_count_43 : decode prog_4_method_26_code 43 = .ok (.aload_n 0, 1) := by decide +kernel
theorem d_md_count_44 : decode prog_4_method_26_code 44 = .ok (.getfield 18, 3) := by decide +kernel
theorem d_md_count_47 : decode prog_4_method_26_code 47 = .ok (.iload 5, 2) := by decide +kernel
theorem d_md_count_49 : decode prog_4_method_26_code 49 = .ok (.aaload, 1) := by decide +kernel
theorem d_md_count_50 : decode prog_4_method_26_code 50 = .ok (.iload 7, 2) := by decide +kernel
theorem d_md_count_52 : decode prog_4_method_26_code 52 = .ok (.baload, 1) := by decide +kernel
theorem d_md_count_53 : decode prog_4_method_26_code 53 = .ok (.ifCond .eq 6, 3) := by decide +kernel
theorem d_md_count_56 : decode prog_4_method_26_code 56 = .ok (.iinc 2 1, 3) := by decide +kernel
theorem d_md_count_59 : decode prog_4_method_26_code 59 = .ok (.aload_n 0, 1) := by decide +kernel
theorem d_md_count_60 : decode prog_4_method_26_code 60 = .ok (.getfield 18, 3) := by decide +kernel
theorem d_md_count_63 : decode prog_4_method_26_code 63 = .ok (.iload 7, 2) := by decide +kernel
theorem d_md_count_65 : decode prog_4_method_26_code 65 = .ok (.aaload, 1) := by decide +kernel
theorem d_md_count_66 : decode prog_4_method_26_code 66 = .ok (.iload 5, 2) := by decide +kernel
theorem d_md_count_68 : decode prog_4_method_26_code 68 = .ok (.baload, 1) := by decide +kernel
theorem d_md_count_69 : decode prog_4_method_26_code 69 = .ok (.ifCond .eq 6, 3) := by decide +kernel
theorem d_md_count_72 : decode prog_4_method_26_code 72 = .ok (.iinc 6 1, 3) := by decide +kernel
theorem d_md_count_75 : decode prog_4_method_26_code 75 = .ok (.iinc 7 1, 3) := by decide +kernel
theorem d_md_count_78 : decode prog_4_method_26_code 78 = .ok (.goto (-44), 3) := by decide +kernel
theorem d_md_count_81 : decode prog_4_method_26_code 81 = .ok (.iload 6, 2) := by decide +kernel
theorem d_md_count_83 : decode prog_4_method_26_code 83 = .ok (.ifCond .ne 6, 3) := by decide +kernel
theorem d_md_count_86 : decode prog_4_method_26_code 86 = .ok (.iinc 3 1, 3) := by decide +kernel
theorem d_md_count_89 : decode prog_4_method_26_code 89 = .ok (.aload_n 0, 1) := by decide +kernel
theorem d_md_count_90 : decode prog_4_method_26_code 90 = .ok (.iload 5, 2) := by decide +kernel
theorem d_md_count_92 : decode prog_4_method_26_code 92 = .ok (.invokevirtual 57, 3) := by decide +kernel
theorem d_md_count_95 : decode prog_4_method_26_code 95 = .ok (.ifCond .eq 6, 3) := by decide +kernel
theorem d_md_count_98 : decode prog_4_method_26_code 98 = .ok (.iinc 4 1, 3) := by decide +kernel
theorem d_md_count_101 : decode prog_4_method_26_code 101 = .ok (.iinc 5 1, 3) := by decide +kernel
theorem d_md_count_104 : decode prog_4_method_26_code 104 = .ok (.goto (-85), 3) := by decide +kernel
theorem d_md_count_107 : decode prog_4_method_26_code 107 = .ok (.iload_n 1, 1) := by decide +kernel
theorem d_md_count_108 : decode prog_4_method_26_code 108 = .ok (.ifCond .ne 10, 3) := by decide +kernel
theorem d_md_count_111 : decode prog_4_method_26_code 111 = .ok (.aload_n 0, 1) := by decide +kernel
theorem d_md_count_112 : decode prog_4_method_26_code 112 = .ok (.getfield 13, 3) := by decide +kernel
theorem d_md_count_115 : decode prog_4_method_26_code 115 = .ok (.goto 32, 3) := by decide +kernel
theorem d_md_count_118 : decode prog_4_method_26_code 118 = .ok (.iload_n 1, 1) := by decide +kernel
theorem d_md_count_119 : decode prog_4_method_26_code 119 = .ok (.iconst 1, 1) := by decide +kernel
theorem d_md_count_120 : decode prog_4_method_26_code 120 = .ok (.if_icmp .ne 7, 3) := by decide +kernel
theorem d_md_count_123 : decode prog_4_method_26_code 123 = .ok (.iload_n 2, 1) := by decide +kernel
theorem d_md_count_124 : decode prog_4_method_26_code 124 = .ok (.goto 23, 3) := by decide +kernel
theorem d_md_count_127 : decode prog_4_method_26_code 127 = .ok (.iload_n 1, 1) := by decide +kernel
theorem d_md_count_128 : decode prog_4_method_26_code 128 = .ok (.iconst 2, 1) := by decide +kernel
theorem d_md_count_129 : decode prog_4_method_26_code 129 = .ok (.if_icmp .ne 7, 3) := by decide +kernel
theorem d_md_count_132 : decode prog_4_method_26_code 132 = .ok (.iload_n 3, 1) := by decide +kernel
theorem d_md_count_133 : decode prog_4_method_26_code 133 = .ok (.goto 14, 3) := by decide +kernel
theorem d_md_count_136 : decode prog_4_method_26_code 136 = .ok (.iload_n 1, 1) := by decide +kernel
theorem d_md_count_137 : decode prog_4_method_26_code 137 = .ok (.iconst 3, 1) := by decide +kernel
theorem d_md_count_138 : decode prog_4_method_26_code 138 = .ok (.if_icmp .ne 8, 3) := by decide +kernel
theorem d_md_count_141 : decode prog_4_method_26_code 141 = .ok (.iload 4, 2) := by decide +kernel
theorem d_md_count_143 : decode prog_4_method_26_code 143 = .ok (.goto 4, 3) := by decide +kernel
theorem d_md_count_146 : decode prog_4_method_26_code 146 = .ok (.iconst (-1), 1) := by decide +kernel
theorem d_md_count_147 : decode prog_4_method_26_code 147 = .ok (.ireturn, 1) := by decide +kernel
