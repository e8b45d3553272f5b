theorem d_lw_places_0 : decode method_3_code 0 = .ok (.aload_n 2, 1) := by decide +kernel
theorem d_lw_places_1 : decode method_3_code 1 = .ok (.iconst 0, 1) := by decide +kernel
theorem d_lw_places_2 : decode method_3_code 2 = .ok (.aload_n 0, 1) := by decide +kernel
theorem d_lw_places_3 : decode method_3_code 3 = .ok (.iload_n 1, 1) := by decide +kernel
theorem d_lw_places_4 : decode method_3_code 4 = .ok (.invokevirtual 7, 3) := by decide +kernel
theorem d_lw_places_7 : decode method_3_code 7 = .ok (.i2l, 1) := by decide +kernel
theorem d_lw_places_8 : decode method_3_code 8 = .ok (.lastore, 1) := by decide +kernel
theorem d_lw_places_9 : decode method_3_code 9 = .ok (.goto 6, 3) := by decide +kernel
theorem d_lw_places_12 : decode method_3_code 12 = .ok (.astore_n 3, 1) := by decide +kernel
theorem d_lw_places_13 : decode method_3_code 13 = .ok (.iconst 1, 1) := by decide +kernel
theorem d_lw_places_14 : decode method_3_code 14 = .ok (.ireturn, 1) := by decide +kernel
theorem d_lw_places_15 : decode method_3_code 15 = .ok (.iconst 0, 1) := by decide +kernel
theorem d_lw_places_16 : decode method_3_code 16 = .ok (.ireturn, 1) := by decide +kernel
theorem d_lw_way_0 : decode method_4_code 0 = .ok (.aload_n 3, 1) := by decide +kernel
theorem d_lw_way_1 : decode method_4_code 1 = .ok (.iconst 0, 1) := by decide +kernel
theorem d_lw_way_2 : decode method_4_code 2 = .ok (.aload_n 0, 1) := by decide +kernel
theorem d_lw_way_3 : decode method_4_code 3 = .ok (.iload_n 1, 1) := by decide +kernel
theorem d_lw_way_4 : decode method_4_code 4 = .ok (.iload_n 2, 1) := by decide +kernel
theorem d_lw_way_5 : decode method_4_code 5 = .ok (.invokevirtual 15, 3) := by decide +kernel
theorem d_lw_way_8 : decode method_4_code 8 = .ok (.ifCond .eq 7, 3) := by decide +kernel
theorem d_lw_way_11 : decode method_4_code 11 = .ok (.lconst 1, 1) := by decide +kernel
theorem d_lw_way_12 : decode method_4_code 12 = .ok (.goto 4, 3) := by decide +kernel
theorem d_lw_way_15 : decode method_4_code 15 = .ok (.lconst 0, 1) := by decide +kernel
theorem d_lw_way_16 : decode method_4_code 16 = .ok (.lastore, 1) := by decide +kernel
theorem d_lw_way_17 : decode method_4_code 17 = .ok (.goto 7, 3) := by decide +kernel
theorem d_lw_way_20 : decode method_4_code 20 = .ok (.astore 4, 2) := by decide +kernel
theorem d_lw_way_22 : decode method_4_code 22 = .ok (.iconst 1, 1) := by decide +kernel
theorem d_lw_way_23 : decode method_4_code 23 = .ok (.ireturn, 1) := by decide +kernel
theorem d_lw_way_24 : decode method_4_code 24 = .ok (.iconst 0, 1) := by decide +kernel
theorem d_lw_way_25 : decode method_4_code 25 = .ok (.ireturn, 1) := by decide +kernel
theorem d_lw_drop_0 : decode method_5_code 0 = .ok (.aload_n 3, 1) := by decide +kernel
theorem d_lw_drop_1 : decode method_5_code 1 = .ok (.iconst 0, 1) := by decide +kernel
theorem d_lw_drop_2 : decode method_5_code 2 = .ok (.aload_n 0, 1) := by decide +kernel
theorem d_lw_drop_3 : decode method_5_code 3 = .ok (.iload_n 1, 1) := by decide +kernel
theorem d_lw_drop_4 : decode method_5_code 4 = .ok (.iload_n 2, 1) := by decide +kernel
theorem d_lw_drop_5 : decode method_5_code 5 = .ok (.invokevirtual 21, 3) := by decide +kernel
theorem d_lw_drop_8 : decode method_5_code 8 = .ok (.ifCond .eq 7, 3) := by decide +kernel
theorem d_lw_drop_11 : decode method_5_code 11 = .ok (.lconst 1, 1) := by decide +kernel
theorem d_lw_drop_12 : decode method_5_code 12 = .ok (.goto 4, 3) := by decide +kernel
theorem d_lw_drop_15 : decode method_5_code 15 = .ok (.lconst 0, 1) := by decide +kernel
theorem d_lw_drop_16 : decode method_5_code 16 = .ok (.lastore, 1) := by decide +kernel
theorem d_lw_drop_17 : decode method_5_code 17 = .ok (.goto 7, 3) := by decide +kernel
theorem d_lw_drop_20 : decode method_5_code 20 = .ok (.astore 4, 2) := by decide +kernel
theorem d_lw_drop_22 : decode method_5_code 22 = .ok (.iconst 1, 1) := by decide +kernel
theorem d_lw_drop_23 : decode method_5_code 23 = .ok (.ireturn, 1) := by decide +kernel
theorem d_lw_drop_24 : decode method_5_code 24 = .ok (.iconst 0, 1) := by decide +kernel
theorem d_lw_drop_25 : decode method_5_code 25 = .ok (.ireturn, 1) := by decide +kernel
theorem d_lw_reaches_0 : decode method_6_code 0 = .ok (.aload_n 3, 1) := by decide +kernel
theorem d_lw_reaches_1 : decode method_6_code 1 = .ok (.iconst 0, 1) := by decide +kernel
theorem d_lw_reaches_2 : decode method_6_code 2 = .ok (.aload_n 0, 1) := by decide +kernel
theorem d_lw_reaches_3 : decode method_6_code 3 = .ok (.iload_n 1, 1) := by decide +kernel
theorem d_lw_reaches_4 : decode method_6_code 4 = .ok (.iload_n 2, 1) := by decide +kernel
theorem d_lw_reaches_5 : decode method_6_code 5 = .ok (.invokevirtual 24, 3) := by decide +kernel
theorem d_lw_reaches_8 : decode method_6_code 8 = .ok (.ifCond .eq 7, 3) := by decide +kernel
theorem d_lw_reaches_11 : decode method_6_code 11 = .ok (.lconst 1, 1) := by decide +kernel
theorem d_lw_reaches_12 : decode method_6_code 12 = .ok (.goto 4, 3) := by decide +kernel
theorem d_lw_reaches_15 : decode method_6_code 15 = .ok (.lconst 0, 1) := by decide +kernel
theorem d_lw_reaches_16 : decode method_6_code 16 = .ok (.lastore, 1) := by decide +kernel
theorem d_lw_reaches_17 : decode method_6_code 17 = .ok (.goto 7, 3) := by decide +kernel
theorem d_lw_reaches_20 : decode method_6_code 20 = .ok (.astore 4, 2) := by decide +kernel
theorem d_lw_reaches_22 : decode method_6_code 22 = .ok (.iconst 1, 1) := by decide +kernel
theorem d_lw_reaches_23 : decode method_6_code 23 = .ok (.ireturn, 1) := by decide +kernel
theorem d_lw_reaches_24 : decode method_6_code 24 = .ok (.iconst 0, 1) := by decide +kernel
theorem d_lw_reaches_25 : decode method_6_code 25 = .ok (.ireturn, 1) := by decide +kernel
theorem d_lw_far_0 : decode method_7_code 0 = .ok (.aload_n 3, 1) := by decide +kernel
theorem d_lw_far_1 : decode method_7_code 1 = .ok (.iconst 0, 1) := by decide +kernel
theorem d_lw_far_2 : decode method_7_code 2 = .ok (.aload_n 0, 1) := by decide +kernel
theorem d_lw_far_3 : decode method_7_code 3 = .ok (.iload_n 1, 1) := by decide +kernel
theorem d_lw_far_4 : decode method_7_code 4 = .ok (.iload_n 2, 1) := by decide +kernel
theorem d_lw_far_5 : decode method_7_code 5 = .ok (.invokevirtual 27, 3) := by decide +kernel
theorem d_lw_far_8 : decode method_7_code 8 = .ok (.i2l, 1) := by decide +kernel
theorem d_lw_far_9 : decode method_7_code 9 = .ok (.lastore, 1) := by decide +kernel
theorem d_lw_far_10 : decode method_7_code 10 = .ok (.goto 7, 3) := by decide +kernel
theorem d_lw_far_13 : decode method_7_code 13 = .ok (.astore 4, 2) := by decide +kernel
theorem d_lw_far_15 : decode method_7_code 15 = .ok (.iconst 1, 1) := by decide +kernel
theorem d_lw_far_16 : decode method_7_code 16 = .ok (.ireturn, 1) := by decide +kernel
theorem d_lw_far_17 : decode method_7_code 17 = .ok (.iconst 0, 1) := by decide +kernel
theorem d_lw_far_18 : decode method_7_code 18 = .ok (.ireturn, 1) := by decide +kernel
theorem d_lw_group_0 : decode method_8_code 0 = .ok (.aload_n 2, 1) := by decide +kernel
theorem d_lw_group_1 : decode method_8_code 1 = .ok (.iconst 0, 1) := by decide +kernel
theorem d_lw_group_2 : decode method_8_code 2 = .ok (.aload_n 0, 1) := by decide +kernel
theorem d_lw_group_3 : decode method_8_code 3 = .ok (.iload_n 1, 1) := by decide +kernel
theorem d_lw_group_4 : decode method_8_code 4 = .ok (.invokevirtual 31, 3) := by decide +kernel
theorem d_lw_group_7 : decode method_8_code 7 = .ok (.i2l, 1) := by decide +kernel
theorem d_lw_group_8 : decode method_8_code 8 = .ok (.lastore, 1) := by decide +kernel
theorem d_lw_group_9 : decode method_8_code 9 = .ok (.goto 6, 3) := by decide +kernel
theorem d_lw_group_12 : decode method_8_code 12 = .ok (.astore_n 3, 1) := by decide +kernel
theorem d_lw_group_13 : decode method_8_code 13 = .ok (.iconst 1, 1) := by decide +kernel
theorem d_lw_group_14 : decode method_8_code 14 = .ok (.ireturn, 1) := by decide +kernel
theorem d_lw_group_15 : decode method_8_code 15 = .ok (.iconst 0, 1) := by decide +kernel
theorem d_lw_group_16 : decode method_8_code 16 = .ok (.ireturn, 1) := by decide +kernel
theorem d_lw_order_0 : decode method_9_code 0 = .ok (.aload_n 2, 1) := by decide +kernel
theorem d_lw_order_1 : decode method_9_code 1 = .ok (.iconst 0, 1) := by decide +kernel
theorem d_lw_order_2 : decode method_9_code 2 = .ok (.aload_n 0, 1) := by decide +kernel
theorem d_lw_order_3 : decode method_9_code 3 = .ok (.iload_n 1, 1) := by decide +kernel
theorem d_lw_order_4 : decode method_9_code 4 = .ok (.invokevirtual 34, 3) := by decide +kernel
theorem d_lw_order_7 : decode method_9_code 7 = .ok (.i2l, 1) := by decide +kernel
theorem d_lw_order_8 : decode method_9_code 8 = .ok (.lastore, 1) := by decide +kernel
theorem d_lw_order_9 : decode method_9_code 9 = .ok (.goto 9, 3) := by decide +kernel
theorem d_lw_order_12 : decode method_9_code 12 = .ok (.astore_n 3, 1) := by decide +kernel
theorem d_lw_order_13 : decode method_9_code 13 = .ok (.iconst 1, 1) := by decide +kernel
theorem d_lw_order_14 : decode method_9_code 14 = .ok (.ireturn, 1) := by decide +kernel
theorem d_lw_order_15 : decode method_9_code 15 = .ok (.astore_n 3, 1) := by decide +kernel
theorem d_lw_order_16 : decode method_9_code 16 = .ok (.iconst 2, 1) := by decide +kernel
theorem d_lw_order_17 : decode method_9_code 17 = .ok (.ireturn, 1) := by decide +kernel
theorem d_lw_order_18 : decode method_9_code 18 = .ok (.iconst 0, 1) := by decide +kernel
theorem d_lw_order_19 : decode method_9_code 19 = .ok (.ireturn, 1) := by decide +kernel
theorem d_lw_level_0 : decode method_10_code 0 = .ok (.aload_n 2, 1) := by decide +kernel
theorem d_lw_level_1 : decode method_10_code 1 = .ok (.iconst 0, 1) := by decide +kernel
theorem d_lw_level_2 : decode method_10_code 2 = .ok (.aload_n 0, 1) := by decide +kernel
theorem d_lw_level_3 : decode method_10_code 3 = .ok (.iload_n 1, 1) := by decide +kernel
theorem d_lw_level_4 : decode method_10_code 4 = .ok (.invokevirtual 39, 3) := by decide +kernel
theorem d_lw_level_7 : decode method_10_code 7 = .ok (.i2l, 1) := by decide +kernel
theorem d_lw_level_8 : decode method_10_code 8 = .ok (.lastore, 1) := by decide +kernel
theorem d_lw_level_9 : decode method_10_code 9 = .ok (.goto 9, 3) := by decide +kernel
theorem d_lw_level_12 : decode method_10_code 12 = .ok (.astore_n 3, 1) := by decide +kernel
theorem d_lw_level_13 : decode method_10_code 13 = .ok (.iconst 1, 1) := by decide +kernel
theorem d_lw_level_14 : decode method_10_code 14 = .ok (.ireturn, 1) := by decide +kernel
theorem d_lw_level_15 : decode method_10_code 15 = .ok (.astore_n 3, 1) := by decide +kernel
theorem d_lw_level_16 : decode method_10_code 16 = .ok (.iconst 2, 1) := by decide +kernel
theorem d_lw_level_17 : decode method_10_code 17 = .ok (.ireturn, 1) := by decide +kernel
theorem d_lw_level_18 : decode method_10_code 18 = .ok (.iconst 0, 1) := by decide +kernel
theorem d_lw_level_19 : decode method_10_code 19 = .ok (.ireturn, 1) := by decide +kernel
theorem d_lw_paths_0 : decode method_11_code 0 = .ok (.aload_n 3, 1) := by decide +kernel
theorem d_lw_paths_1 : decode method_11_code 1 = .ok (.iconst 0, 1) := by decide +kernel
theorem d_lw_paths_2 : decode method_11_code 2 = .ok (.aload_n 0, 1) := by decide +kernel
theorem d_lw_paths_3 : decode method_11_code 3 = .ok (.iload_n 1, 1) := by decide +kernel
theorem d_lw_paths_4 : decode method_11_code 4 = .ok (.iload_n 2, 1) := by decide +kernel
theorem d_lw_paths_5 : decode method_11_code 5 = .ok (.invokevirtual 42, 3) := by decide +kernel
theorem d_lw_paths_8 : decode method_11_code 8 = .ok (.i2l, 1) := by decide +kernel
theorem d_lw_paths_9 : decode method_11_code 9 = .ok (.lastore, 1) := by decide +kernel
theorem d_lw_paths_10 : decode method_11_code 10 = .ok (.goto 11, 3) := by decide +kernel
theorem d_lw_paths_13 : decode method_11_code 13 = .ok (.astore 4, 2) := by decide +kernel
theorem d_lw_paths_15 : decode method_11_code 15 = .ok (.iconst 1, 1) := by decide +kernel
theorem d_lw_paths_16 : decode method_11_code 16 = .ok (.ireturn, 1) := by decide +kernel
theorem d_lw_paths_17 : decode method_11_code 17 = .ok (.astore 4, 2) := by decide +kernel
theorem d_lw_paths_19 : decode method_11_code 19 = .ok (.iconst 2, 1) := by decide +kernel
theorem d_lw_paths_20 : decode method_11_code 20 = .ok (.ireturn, 1) := by decide +kernel
theorem d_lw_paths_21 : decode method_11_code 21 = .ok (.iconst 0, 1) := by decide +kernel
theorem d_lw_paths_22 : decode method_11_code 22 = .ok (.ireturn, 1) := by decide +kernel
theorem d_lw_gate_0 : decode method_12_code 0 = .ok (.aload_n 3, 1) := by decide +kernel
theorem d_lw_gate_1 : decode method_12_code 1 = .ok (.iconst 0, 1) := by decide +kernel
theorem d_lw_gate_2 : decode method_12_code 2 = .ok (.aload_n 0, 1) := by decide +kernel
theorem d_lw_gate_3 : decode method_12_code 3 = .ok (.iload_n 1, 1) := by decide +kernel
theorem d_lw_gate_4 : decode method_12_code 4 = .ok (.iload_n 2, 1) := by decide +kernel
theorem d_lw_gate_5 : decode method_12_code 5 = .ok (.invokevirtual 45, 3) := by decide +kernel
theorem d_lw_gate_8 : decode method_12_code 8 = .ok (.i2l, 1) := by decide +kernel
theorem d_lw_gate_9 : decode method_12_code 9 = .ok (.lastore, 1) := by decide +kernel
theorem d_lw_gate_10 : decode method_12_code 10 = .ok (.goto 7, 3) := by decide +kernel
theorem d_lw_gate_13 : decode method_12_code 13 = .ok (.astore 4, 2) := by decide +kernel
theorem d_lw_gate_15 : decode method_12_code 15 = .ok (.iconst 1, 1) := by decide +kernel
theorem d_lw_gate_16 : decode method_12_code 16 = .ok (.ireturn, 1) := by decide +kernel
theorem d_lw_gate_17 : decode method_12_code 17 = .ok (.iconst 0, 1) := by decide +kernel
theorem d_lw_gate_18 : decode method_12_code 18 = .ok (.ireturn, 1) := by decide +kernel
theorem d_lw_all_0 : decode method_13_code 0 = .ok (.aload 4, 2) := by decide +kernel
theorem d_lw_all_2 : decode method_13_code 2 = .ok (.iconst 0, 1) := by decide +kernel
theorem d_lw_all_3 : decode method_13_code 3 = .ok (.aload_n 0, 1) := by decide +kernel
theorem d_lw_all_4 : decode method_13_code 4 = .ok (.iload_n 1, 1) := by decide +kernel
theorem d_lw_all_5 : decode method_13_code 5 = .ok (.iload_n 2, 1) := by decide +kernel
theorem d_lw_all_6 : decode method_13_code 6 = .ok (.iload_n 3, 1) := by decide +kernel
theorem d_lw_all_7 : decode method_13_code 7 = .ok (.invokevirtual 48, 3) := by decide +kernel
theorem d_lw_all_10 : decode method_13_code 10 = .ok (.ifCond .eq 7, 3) := by decide +kernel
theorem d_lw_all_13 : decode method_13_code 13 = .ok (.lconst 1, 1) := by decide +kernel
theorem d_lw_all_14 : decode method_13_code 14 = .ok (.goto 4, 3) := by decide +kernel
theorem d_lw_all_17 : decode method_13_code 17 = .ok (.lconst 0, 1) := by decide +kernel
theorem d_lw_all_18 : decode method_13_code 18 = .ok (.lastore, 1) := by decide +kernel
theorem d_lw_all_19 : decode method_13_code 19 = .ok (.goto 7, 3) := by decide +kernel
theorem d_lw_all_22 : decode method_13_code 22 = .ok (.astore 5, 2) := by decide +kernel
theorem d_lw_all_24 : decode method_13_code 24 = .ok (.iconst 1, 1) := by decide +kernel
theorem d_lw_all_25 : decode method_13_code 25 = .ok (.ireturn, 1) := by decide +kernel
theorem d_lw_all_26 : decode method_13_code 26 = .ok (.iconst 0, 1) := by decide +kernel
theorem d_lw_all_27 : decode method_13_code 27 = .ok (.ireturn, 1) := by decide +kernel
