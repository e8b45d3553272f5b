theorem d_ob_init_0 : decode prog_1_method_1_code 0 = .ok (.aload_n 0, 1) := by decide +kernel
theorem d_ob_init_1 : decode prog_1_method_1_code 1 = .ok (.invokespecial 1, 3) := by decide +kernel
theorem d_ob_init_4 : decode prog_1_method_1_code 4 = .ok (.aload_n 0, 1) := by decide +kernel
theorem d_ob_init_5 : decode prog_1_method_1_code 5 = .ok (.bipush 10, 2) := by decide +kernel
theorem d_ob_init_7 : decode prog_1_method_1_code 7 = .ok (.putfield 9, 3) := by decide +kernel
theorem d_ob_init_10 : decode prog_1_method_1_code 10 = .ok (.aload_n 0, 1) := by decide +kernel
theorem d_ob_init_11 : decode prog_1_method_1_code 11 = .ok (.bipush 120, 2) := by decide +kernel
theorem d_ob_init_13 : decode prog_1_method_1_code 13 = .ok (.anewarray 13, 3) := by decide +kernel
theorem d_ob_init_16 : decode prog_1_method_1_code 16 = .ok (.putfield 15, 3) := by decide +kernel
theorem d_ob_init_19 : decode prog_1_method_1_code 19 = .ok (.aload_n 0, 1) := by decide +kernel
theorem d_ob_init_20 : decode prog_1_method_1_code 20 = .ok (.bipush 120, 2) := by decide +kernel
theorem d_ob_init_22 : decode prog_1_method_1_code 22 = .ok (.anewarray 13, 3) := by decide +kernel
theorem d_ob_init_25 : decode prog_1_method_1_code 25 = .ok (.putfield 19, 3) := by decide +kernel
theorem d_ob_init_28 : decode prog_1_method_1_code 28 = .ok (.iconst 0, 1) := by decide +kernel
theorem d_ob_init_29 : decode prog_1_method_1_code 29 = .ok (.istore_n 1, 1) := by decide +kernel
theorem d_ob_init_30 : decode prog_1_method_1_code 30 = .ok (.iload_n 1, 1) := by decide +kernel
theorem d_ob_init_31 : decode prog_1_method_1_code 31 = .ok (.bipush 120, 2) := by decide +kernel
theorem d_ob_init_33 : decode prog_1_method_1_code 33 = .ok (.if_icmp .ge 35, 3) := by decide +kernel
theorem d_ob_init_36 : decode prog_1_method_1_code 36 = .ok (.aload_n 0, 1) := by decide +kernel
theorem d_ob_init_37 : decode prog_1_method_1_code 37 = .ok (.getfield 15, 3) := by decide +kernel
theorem d_ob_init_40 : decode prog_1_method_1_code 40 = .ok (.iload_n 1, 1) := by decide +kernel
theorem d_ob_init_41 : decode prog_1_method_1_code 41 = .ok (.new 13, 3) := by decide +kernel
theorem d_ob_init_44 : decode prog_1_method_1_code 44 = .ok (.dup, 1) := by decide +kernel
theorem d_ob_init_45 : decode prog_1_method_1_code 45 = .ok (.invokespecial 22, 3) := by decide +kernel
theorem d_ob_init_48 : decode prog_1_method_1_code 48 = .ok (.aastore, 1) := by decide +kernel
theorem d_ob_init_49 : decode prog_1_method_1_code 49 = .ok (.aload_n 0, 1) := by decide +kernel
theorem d_ob_init_50 : decode prog_1_method_1_code 50 = .ok (.getfield 19, 3) := by decide +kernel
theorem d_ob_init_53 : decode prog_1_method_1_code 53 = .ok (.iload_n 1, 1) := by decide +kernel
theorem d_ob_init_54 : decode prog_1_method_1_code 54 = .ok (.new 13, 3) := by decide +kernel
theorem d_ob_init_57 : decode prog_1_method_1_code 57 = .ok (.dup, 1) := by decide +kernel
theorem d_ob_init_58 : decode prog_1_method_1_code 58 = .ok (.invokespecial 22, 3) := by decide +kernel
theorem d_ob_init_61 : decode prog_1_method_1_code 61 = .ok (.aastore, 1) := by decide +kernel
theorem d_ob_init_62 : decode prog_1_method_1_code 62 = .ok (.iinc 1 1, 3) := by decide +kernel
theorem d_ob_init_65 : decode prog_1_method_1_code 65 = .ok (.goto (-35), 3) := by decide +kernel
theorem d_ob_init_68 : decode prog_1_method_1_code 68 = .ok (.aload_n 0, 1) := by decide +kernel
theorem d_ob_init_69 : decode prog_1_method_1_code 69 = .ok (.new 13, 3) := by decide +kernel
theorem d_ob_init_72 : decode prog_1_method_1_code 72 = .ok (.dup, 1) := by decide +kernel
theorem d_ob_init_73 : decode prog_1_method_1_code 73 = .ok (.invokespecial 22, 3) := by decide +kernel
theorem d_ob_init_76 : decode prog_1_method_1_code 76 = .ok (.putfield 23, 3) := by decide +kernel
theorem d_ob_init_79 : decode prog_1_method_1_code 79 = .ok (.aload_n 0, 1) := by decide +kernel
theorem d_ob_init_80 : decode prog_1_method_1_code 80 = .ok (.new 13, 3) := by decide +kernel
theorem d_ob_init_83 : decode prog_1_method_1_code 83 = .ok (.dup, 1) := by decide +kernel
theorem d_ob_init_84 : decode prog_1_method_1_code 84 = .ok (.invokespecial 22, 3) := by decide +kernel
theorem d_ob_init_87 : decode prog_1_method_1_code 87 = .ok (.putfield 27, 3) := by decide +kernel
theorem d_ob_init_90 : decode prog_1_method_1_code 90 = .ok (.aload_n 0, 1) := by decide +kernel
theorem d_ob_init_91 : decode prog_1_method_1_code 91 = .ok (.new 13, 3) := by decide +kernel
theorem d_ob_init_94 : decode prog_1_method_1_code 94 = .ok (.dup, 1) := by decide +kernel
theorem d_ob_init_95 : decode prog_1_method_1_code 95 = .ok (.invokespecial 22, 3) := by decide +kernel
theorem d_ob_init_98 : decode prog_1_method_1_code 98 = .ok (.putfield 30, 3) := by decide +kernel
theorem d_ob_init_101 : decode prog_1_method_1_code 101 = .ok (.aload_n 0, 1) := by decide +kernel
theorem d_ob_init_102 : decode prog_1_method_1_code 102 = .ok (.new 13, 3) := by decide +kernel
theorem d_ob_init_105 : decode prog_1_method_1_code 105 = .ok (.dup, 1) := by decide +kernel
theorem d_ob_init_106 : decode prog_1_method_1_code 106 = .ok (.invokespecial 22, 3) := by decide +kernel
theorem d_ob_init_109 : decode prog_1_method_1_code 109 = .ok (.putfield 33, 3) := by decide +kernel
theorem d_ob_init_112 : decode prog_1_method_1_code 112 = .ok (.aload_n 0, 1) := by decide +kernel
theorem d_ob_init_113 : decode prog_1_method_1_code 113 = .ok (.bipush 120, 2) := by decide +kernel
theorem d_ob_init_115 : decode prog_1_method_1_code 115 = .ok (.newarray .int, 2) := by decide +kernel
theorem d_ob_init_117 : decode prog_1_method_1_code 117 = .ok (.putfield 36, 3) := by decide +kernel
theorem d_ob_init_120 : decode prog_1_method_1_code 120 = .ok (.aload_n 0, 1) := by decide +kernel
theorem d_ob_init_121 : decode prog_1_method_1_code 121 = .ok (.bipush 120, 2) := by decide +kernel
theorem d_ob_init_123 : decode prog_1_method_1_code 123 = .ok (.newarray .int, 2) := by decide +kernel
theorem d_ob_init_125 : decode prog_1_method_1_code 125 = .ok (.putfield 40, 3) := by decide +kernel
theorem d_ob_init_128 : decode prog_1_method_1_code 128 = .ok (.aload_n 0, 1) := by decide +kernel
theorem d_ob_init_129 : decode prog_1_method_1_code 129 = .ok (.bipush 120, 2) := by decide +kernel
theorem d_ob_init_131 : decode prog_1_method_1_code 131 = .ok (.newarray .int, 2) := by decide +kernel
theorem d_ob_init_133 : decode prog_1_method_1_code 133 = .ok (.putfield 43, 3) := by decide +kernel
theorem d_ob_init_136 : decode prog_1_method_1_code 136 = .ok (.return_, 1) := by decide +kernel
theorem d_ob_circle_0 : decode prog_1_method_7_code 0 = .ok (.iconst 0, 1) := by decide +kernel
theorem d_ob_circle_1 : decode prog_1_method_7_code 1 = .ok (.istore_n 1, 1) := by decide +kernel
theorem d_ob_circle_2 : decode prog_1_method_7_code 2 = .ok (.iload_n 1, 1) := by decide +kernel
theorem d_ob_circle_3 : decode prog_1_method_7_code 3 = .ok (.aload_n 0, 1) := by decide +kernel
theorem d_ob_circle_4 : decode prog_1_method_7_code 4 = .ok (.getfield 9, 3) := by decide +kernel
theorem d_ob_circle_7 : decode prog_1_method_7_code 7 = .ok (.if_icmp .ge 19, 3) := by decide +kernel
theorem d_ob_circle_10 : decode prog_1_method_7_code 10 = .ok (.aload_n 0, 1) := by decide +kernel
theorem d_ob_circle_11 : decode prog_1_method_7_code 11 = .ok (.iload_n 1, 1) := by decide +kernel
theorem d_ob_circle_12 : decode prog_1_method_7_code 12 = .ok (.invokevirtual 70, 3) := by decide +kernel
theorem d_ob_circle_15 : decode prog_1_method_7_code 15 = .ok (.ifCond .eq 5, 3) := by decide +kernel
theorem d_ob_circle_18 : decode prog_1_method_7_code 18 = .ok (.iload_n 1, 1) := by decide +kernel
theorem d_ob_circle_19 : decode prog_1_method_7_code 19 = .ok (.ireturn, 1) := by decide +kernel
theorem d_ob_circle_20 : decode prog_1_method_7_code 20 = .ok (.iinc 1 1, 3) := by decide +kernel
theorem d_ob_circle_23 : decode prog_1_method_7_code 23 = .ok (.goto (-21), 3) := by decide +kernel
theorem d_ob_circle_26 : decode prog_1_method_7_code 26 = .ok (.iconst (-1), 1) := by decide +kernel
theorem d_ob_circle_27 : decode prog_1_method_7_code 27 = .ok (.ireturn, 1) := by decide +kernel
theorem d_ob_isOnCircle_0 : decode prog_1_method_19_code 0 = .ok (.aload_n 0, 1) := by decide +kernel
theorem d_ob_isOnCircle_1 : decode prog_1_method_19_code 1 = .ok (.aload_n 0, 1) := by decide +kernel
theorem d_ob_isOnCircle_2 : decode prog_1_method_19_code 2 = .ok (.getfield 15, 3) := by decide +kernel
theorem d_ob_isOnCircle_5 : decode prog_1_method_19_code 5 = .ok (.iload_n 1, 1) := by decide +kernel
theorem d_ob_isOnCircle_6 : decode prog_1_method_19_code 6 = .ok (.iconst (-1), 1) := by decide +kernel
theorem d_ob_isOnCircle_7 : decode prog_1_method_19_code 7 = .ok (.iconst (-1), 1) := by decide +kernel
theorem d_ob_isOnCircle_8 : decode prog_1_method_19_code 8 = .ok (.invokevirtual 66, 3) := by decide +kernel
theorem d_ob_isOnCircle_11 : decode prog_1_method_19_code 11 = .ok (.pop, 1) := by decide +kernel
theorem d_ob_isOnCircle_12 : decode prog_1_method_19_code 12 = .ok (.aload_n 0, 1) := by decide +kernel
theorem d_ob_isOnCircle_13 : decode prog_1_method_19_code 13 = .ok (.getfield 23, 3) := by decide +kernel
theorem d_ob_isOnCircle_16 : decode prog_1_method_19_code 16 = .ok (.aload_n 0, 1) := by decide +kernel
theorem d_ob_isOnCircle_17 : decode prog_1_method_19_code 17 = .ok (.getfield 19, 3) := by decide +kernel
theorem d_ob_isOnCircle_20 : decode prog_1_method_19_code 20 = .ok (.iload_n 1, 1) := by decide +kernel
theorem d_ob_isOnCircle_21 : decode prog_1_method_19_code 21 = .ok (.aaload, 1) := by decide +kernel
theorem d_ob_isOnCircle_22 : decode prog_1_method_19_code 22 = .ok (.invokevirtual 121, 3) := by decide +kernel
theorem d_ob_isOnCircle_25 : decode prog_1_method_19_code 25 = .ok (.ireturn, 1) := by decide +kernel
theorem d_ob_search_0 : decode prog_1_method_17_code 0 = .ok (.aload_n 0, 1) := by decide +kernel
theorem d_ob_search_1 : decode prog_1_method_17_code 1 = .ok (.getfield 23, 3) := by decide +kernel
theorem d_ob_search_4 : decode prog_1_method_17_code 4 = .ok (.invokevirtual 49, 3) := by decide +kernel
theorem d_ob_search_7 : decode prog_1_method_17_code 7 = .ok (.iload_n 2, 1) := by decide +kernel
theorem d_ob_search_8 : decode prog_1_method_17_code 8 = .ok (.iload 4, 2) := by decide +kernel
theorem d_ob_search_10 : decode prog_1_method_17_code 10 = .ok (.if_icmp .ne 5, 3) := by decide +kernel
theorem d_ob_search_13 : decode prog_1_method_17_code 13 = .ok (.iconst (-1), 1) := by decide +kernel
theorem d_ob_search_14 : decode prog_1_method_17_code 14 = .ok (.ireturn, 1) := by decide +kernel
theorem d_ob_search_15 : decode prog_1_method_17_code 15 = .ok (.aload_n 0, 1) := by decide +kernel
theorem d_ob_search_16 : decode prog_1_method_17_code 16 = .ok (.getfield 23, 3) := by decide +kernel
theorem d_ob_search_19 : decode prog_1_method_17_code 19 = .ok (.iload_n 2, 1) := by decide +kernel
theorem d_ob_search_20 : decode prog_1_method_17_code 20 = .ok (.invokevirtual 60, 3) := by decide +kernel
theorem d_ob_search_23 : decode prog_1_method_17_code 23 = .ok (.aload_n 0, 1) := by decide +kernel
theorem d_ob_search_24 : decode prog_1_method_17_code 24 = .ok (.getfield 27, 3) := by decide +kernel
theorem d_ob_search_27 : decode prog_1_method_17_code 27 = .ok (.invokevirtual 49, 3) := by decide +kernel
theorem d_ob_search_30 : decode prog_1_method_17_code 30 = .ok (.aload_n 0, 1) := by decide +kernel
theorem d_ob_search_31 : decode prog_1_method_17_code 31 = .ok (.getfield 27, 3) := by decide +kernel
theorem d_ob_search_34 : decode prog_1_method_17_code 34 = .ok (.iload_n 2, 1) := by decide +kernel
theorem d_ob_search_35 : decode prog_1_method_17_code 35 = .ok (.invokevirtual 60, 3) := by decide +kernel
theorem d_ob_search_38 : decode prog_1_method_17_code 38 = .ok (.iconst 0, 1) := by decide +kernel
theorem d_ob_search_39 : decode prog_1_method_17_code 39 = .ok (.istore 5, 2) := by decide +kernel
theorem d_ob_search_41 : decode prog_1_method_17_code 41 = .ok (.iload 5, 2) := by decide +kernel
theorem d_ob_search_43 : decode prog_1_method_17_code 43 = .ok (.aload_n 0, 1) := by decide +kernel
theorem d_ob_search_44 : decode prog_1_method_17_code 44 = .ok (.getfield 9, 3) := by decide +kernel
theorem d_ob_search_47 : decode prog_1_method_17_code 47 = .ok (.if_icmp .ge 42, 3) := by decide +kernel
theorem d_ob_search_50 : decode prog_1_method_17_code 50 = .ok (.aload_n 0, 1) := by decide +kernel
theorem d_ob_search_51 : decode prog_1_method_17_code 51 = .ok (.getfield 27, 3) := by decide +kernel
theorem d_ob_search_54 : decode prog_1_method_17_code 54 = .ok (.iload_n 3, 1) := by decide +kernel
theorem d_ob_search_55 : decode prog_1_method_17_code 55 = .ok (.invokevirtual 56, 3) := by decide +kernel
theorem d_ob_search_58 : decode prog_1_method_17_code 58 = .ok (.ifCond .eq 6, 3) := by decide +kernel
theorem d_ob_search_61 : decode prog_1_method_17_code 61 = .ok (.iload 5, 2) := by decide +kernel
theorem d_ob_search_63 : decode prog_1_method_17_code 63 = .ok (.ireturn, 1) := by decide +kernel
theorem d_ob_search_64 : decode prog_1_method_17_code 64 = .ok (.aload_n 0, 1) := by decide +kernel
theorem d_ob_search_65 : decode prog_1_method_17_code 65 = .ok (.aload_n 1, 1) := by decide +kernel
theorem d_ob_search_66 : decode prog_1_method_17_code 66 = .ok (.iload 4, 2) := by decide +kernel
theorem d_ob_search_68 : decode prog_1_method_17_code 68 = .ok (.invokevirtual 103, 3) := by decide +kernel
theorem d_ob_search_71 : decode prog_1_method_17_code 71 = .ok (.aload_n 0, 1) := by decide +kernel
theorem d_ob_search_72 : decode prog_1_method_17_code 72 = .ok (.getfield 27, 3) := by decide +kernel
theorem d_ob_search_75 : decode prog_1_method_17_code 75 = .ok (.invokevirtual 107, 3) := by decide +kernel
theorem d_ob_search_78 : decode prog_1_method_17_code 78 = .ok (.ifCond .eq 5, 3) := by decide +kernel
theorem d_ob_search_81 : decode prog_1_method_17_code 81 = .ok (.iconst (-1), 1) := by decide +kernel
theorem d_ob_search_82 : decode prog_1_method_17_code 82 = .ok (.ireturn, 1) := by decide +kernel
theorem d_ob_search_83 : decode prog_1_method_17_code 83 = .ok (.iinc 5 1, 3) := by decide +kernel
theorem d_ob_search_86 : decode prog_1_method_17_code 86 = .ok (.goto (-45), 3) := by decide +kernel
theorem d_ob_search_89 : decode prog_1_method_17_code 89 = .ok (.iconst (-1), 1) := by decide +kernel
theorem d_ob_search_90 : decode prog_1_method_17_code 90 = .ok (.ireturn, 1) := by decide +kernel
theorem d_ob_moveRim_0 : decode prog_1_method_18_code 0 = .ok (.aload_n 0, 1) := by decide +kernel
theorem d_ob_moveRim_1 : decode prog_1_method_18_code 1 = .ok (.getfield 30, 3) := by decide +kernel
theorem d_ob_moveRim_4 : decode prog_1_method_18_code 4 = .ok (.invokevirtual 49, 3) := by decide +kernel
theorem d_ob_moveRim_7 : decode prog_1_method_18_code 7 = .ok (.aload_n 0, 1) := by decide +kernel
theorem d_ob_moveRim_8 : decode prog_1_method_18_code 8 = .ok (.getfield 27, 3) := by decide +kernel
theorem d_ob_moveRim_11 : decode prog_1_method_18_code 11 = .ok (.iconst 0, 1) := by decide +kernel
theorem d_ob_moveRim_12 : decode prog_1_method_18_code 12 = .ok (.invokevirtual 111, 3) := by decide +kernel
theorem d_ob_moveRim_15 : decode prog_1_method_18_code 15 = .ok (.istore_n 3, 1) := by decide +kernel
theorem d_ob_moveRim_16 : decode prog_1_method_18_code 16 = .ok (.iload_n 3, 1) := by decide +kernel
theorem d_ob_moveRim_17 : decode prog_1_method_18_code 17 = .ok (.aload_n 0, 1) := by decide +kernel
theorem d_ob_moveRim_18 : decode prog_1_method_18_code 18 = .ok (.getfield 9, 3) := by decide +kernel
theorem d_ob_moveRim_21 : decode prog_1_method_18_code 21 = .ok (.if_icmp .ge 27, 3) := by decide +kernel
theorem d_ob_moveRim_24 : decode prog_1_method_18_code 24 = .ok (.aload_n 0, 1) := by decide +kernel
theorem d_ob_moveRim_25 : decode prog_1_method_18_code 25 = .ok (.getfield 30, 3) := by decide +kernel
theorem d_ob_moveRim_28 : decode prog_1_method_18_code 28 = .ok (.aload_n 1, 1) := by decide +kernel
theorem d_ob_moveRim_29 : decode prog_1_method_18_code 29 = .ok (.iload_n 3, 1) := by decide +kernel
theorem d_ob_moveRim_30 : decode prog_1_method_18_code 30 = .ok (.aaload, 1) := by decide +kernel
theorem d_ob_moveRim_31 : decode prog_1_method_18_code 31 = .ok (.invokevirtual 114, 3) := by decide +kernel
theorem d_ob_moveRim_34 : decode prog_1_method_18_code 34 = .ok (.aload_n 0, 1) := by decide +kernel
theorem d_ob_moveRim_35 : decode prog_1_method_18_code 35 = .ok (.getfield 27, 3) := by decide +kernel
theorem d_ob_moveRim_38 : decode prog_1_method_18_code 38 = .ok (.iload_n 3, 1) := by decide +kernel
theorem d_ob_moveRim_39 : decode prog_1_method_18_code 39 = .ok (.iconst 1, 1) := by decide +kernel
theorem d_ob_moveRim_40 : decode prog_1_method_18_code 40 = .ok (.iadd, 1) := by decide +kernel
theorem d_ob_moveRim_41 : decode prog_1_method_18_code 41 = .ok (.invokevirtual 111, 3) := by decide +kernel
theorem d_ob_moveRim_44 : decode prog_1_method_18_code 44 = .ok (.istore_n 3, 1) := by decide +kernel
theorem d_ob_moveRim_45 : decode prog_1_method_18_code 45 = .ok (.goto (-29), 3) := by decide +kernel
theorem d_ob_moveRim_48 : decode prog_1_method_18_code 48 = .ok (.aload_n 0, 1) := by decide +kernel
theorem d_ob_moveRim_49 : decode prog_1_method_18_code 49 = .ok (.getfield 30, 3) := by decide +kernel
theorem d_ob_moveRim_52 : decode prog_1_method_18_code 52 = .ok (.aload_n 0, 1) := by decide +kernel
theorem d_ob_moveRim_53 : decode prog_1_method_18_code 53 = .ok (.getfield 23, 3) := by decide +kernel
theorem d_ob_moveRim_56 : decode prog_1_method_18_code 56 = .ok (.invokevirtual 118, 3) := by decide +kernel
theorem d_ob_moveRim_59 : decode prog_1_method_18_code 59 = .ok (.aload_n 0, 1) := by decide +kernel
theorem d_ob_moveRim_60 : decode prog_1_method_18_code 60 = .ok (.getfield 30, 3) := by decide +kernel
theorem d_ob_moveRim_63 : decode prog_1_method_18_code 63 = .ok (.iload_n 2, 1) := by decide +kernel
theorem d_ob_moveRim_64 : decode prog_1_method_18_code 64 = .ok (.invokevirtual 63, 3) := by decide +kernel
theorem d_ob_moveRim_67 : decode prog_1_method_18_code 67 = .ok (.aload_n 0, 1) := by decide +kernel
theorem d_ob_moveRim_68 : decode prog_1_method_18_code 68 = .ok (.getfield 23, 3) := by decide +kernel
theorem d_ob_moveRim_71 : decode prog_1_method_18_code 71 = .ok (.aload_n 0, 1) := by decide +kernel
theorem d_ob_moveRim_72 : decode prog_1_method_18_code 72 = .ok (.getfield 30, 3) := by decide +kernel
theorem d_ob_moveRim_75 : decode prog_1_method_18_code 75 = .ok (.invokevirtual 114, 3) := by decide +kernel
theorem d_ob_moveRim_78 : decode prog_1_method_18_code 78 = .ok (.aload_n 0, 1) := by decide +kernel
theorem d_ob_moveRim_79 : decode prog_1_method_18_code 79 = .ok (.getfield 27, 3) := by decide +kernel
theorem d_ob_moveRim_82 : decode prog_1_method_18_code 82 = .ok (.invokevirtual 49, 3) := by decide +kernel
theorem d_ob_moveRim_85 : decode prog_1_method_18_code 85 = .ok (.aload_n 0, 1) := by decide +kernel
theorem d_ob_moveRim_86 : decode prog_1_method_18_code 86 = .ok (.getfield 27, 3) := by decide +kernel
theorem d_ob_moveRim_89 : decode prog_1_method_18_code 89 = .ok (.aload_n 0, 1) := by decide +kernel
theorem d_ob_moveRim_90 : decode prog_1_method_18_code 90 = .ok (.getfield 30, 3) := by decide +kernel
theorem d_ob_moveRim_93 : decode prog_1_method_18_code 93 = .ok (.invokevirtual 114, 3) := by decide +kernel
theorem d_ob_moveRim_96 : decode prog_1_method_18_code 96 = .ok (.return_, 1) := by decide +kernel
theorem d_ob_groups_0 : decode prog_1_method_9_code 0 = .ok (.iconst 0, 1) := by decide +kernel
theorem d_ob_groups_1 : decode prog_1_method_9_code 1 = .ok (.istore_n 1, 1) := by decide +kernel
theorem d_ob_groups_2 : decode prog_1_method_9_code 2 = .ok (.iconst 0, 1) := by decide +kernel
theorem d_ob_groups_3 : decode prog_1_method_9_code 3 = .ok (.istore_n 2, 1) := by decide +kernel
theorem d_ob_groups_4 : decode prog_1_method_9_code 4 = .ok (.iload_n 2, 1) := by decide +kernel
theorem d_ob_groups_5 : decode prog_1_method_9_code 5 = .ok (.aload_n 0, 1) := by decide +kernel
theorem d_ob_groups_6 : decode prog_1_method_9_code 6 = .ok (.getfield 9, 3) := by decide +kernel
theorem d_ob_groups_9 : decode prog_1_method_9_code 9 = .ok (.if_icmp .ge 21, 3) := by decide +kernel
theorem d_ob_groups_12 : decode prog_1_method_9_code 12 = .ok (.aload_n 0, 1) := by decide +kernel
theorem d_ob_groups_13 : decode prog_1_method_9_code 13 = .ok (.iload_n 2, 1) := by decide +kernel
theorem d_ob_groups_14 : decode prog_1_method_9_code 14 = .ok (.invokevirtual 73, 3) := by decide +kernel
theorem d_ob_groups_17 : decode prog_1_method_9_code 17 = .ok (.iload_n 2, 1) := by decide +kernel
theorem d_ob_groups_18 : decode prog_1_method_9_code 18 = .ok (.if_icmp .ne 6, 3) := by decide +kernel
theorem d_ob_groups_21 : decode prog_1_method_9_code 21 = .ok (.iinc 1 1, 3) := by decide +kernel
theorem d_ob_groups_24 : decode prog_1_method_9_code 24 = .ok (.iinc 2 1, 3) := by decide +kernel
theorem d_ob_groups_27 : decode prog_1_method_9_code 27 = .ok (.goto (-23), 3) := by decide +kernel
theorem d_ob_groups_30 : decode prog_1_method_9_code 30 = .ok (.iload_n 1, 1) := by decide +kernel
theorem d_ob_groups_31 : decode prog_1_method_9_code 31 = .ok (.ireturn, 1) := by decide +kernel
theorem d_ob_leastOfGroup_0 : decode prog_1_method_20_code 0 = .ok (.aload_n 0, 1) := by decide +kernel
theorem d_ob_leastOfGroup_1 : decode prog_1_method_20_code 1 = .ok (.aload_n 0, 1) := by decide +kernel
theorem d_ob_leastOfGroup_2 : decode prog_1_method_20_code 2 = .ok (.getfield 15, 3) := by decide +kernel
theorem d_ob_leastOfGroup_5 : decode prog_1_method_20_code 5 = .ok (.iload_n 1, 1) := by decide +kernel
theorem d_ob_leastOfGroup_6 : decode prog_1_method_20_code 6 = .ok (.iconst (-1), 1) := by decide +kernel
theorem d_ob_leastOfGroup_7 : decode prog_1_method_20_code 7 = .ok (.iconst (-1), 1) := by decide +kernel
theorem d_ob_leastOfGroup_8 : decode prog_1_method_20_code 8 = .ok (.invokevirtual 66, 3) := by decide +kernel
theorem d_ob_leastOfGroup_11 : decode prog_1_method_20_code 11 = .ok (.pop, 1) := by decide +kernel
theorem d_ob_leastOfGroup_12 : decode prog_1_method_20_code 12 = .ok (.aload_n 0, 1) := by decide +kernel
theorem d_ob_leastOfGroup_13 : decode prog_1_method_20_code 13 = .ok (.getfield 33, 3) := by decide +kernel
theorem d_ob_leastOfGroup_16 : decode prog_1_method_20_code 16 = .ok (.invokevirtual 49, 3) := by decide +kernel
theorem d_ob_leastOfGroup_19 : decode prog_1_method_20_code 19 = .ok (.aload_n 0, 1) := by decide +kernel
theorem d_ob_leastOfGroup_20 : decode prog_1_method_20_code 20 = .ok (.getfield 33, 3) := by decide +kernel
theorem d_ob_leastOfGroup_23 : decode prog_1_method_20_code 23 = .ok (.aload_n 0, 1) := by decide +kernel
theorem d_ob_leastOfGroup_24 : decode prog_1_method_20_code 24 = .ok (.getfield 23, 3) := by decide +kernel
theorem d_ob_leastOfGroup_27 : decode prog_1_method_20_code 27 = .ok (.invokevirtual 114, 3) := by decide +kernel
theorem d_ob_leastOfGroup_30 : decode prog_1_method_20_code 30 = .ok (.aload_n 0, 1) := by decide +kernel
theorem d_ob_leastOfGroup_31 : decode prog_1_method_20_code 31 = .ok (.aload_n 0, 1) := by decide +kernel
theorem d_ob_leastOfGroup_32 : decode prog_1_method_20_code 32 = .ok (.getfield 19, 3) := by decide +kernel
theorem d_ob_leastOfGroup_35 : decode prog_1_method_20_code 35 = .ok (.iload_n 1, 1) := by decide +kernel
theorem d_ob_leastOfGroup_36 : decode prog_1_method_20_code 36 = .ok (.iconst (-1), 1) := by decide +kernel
theorem d_ob_leastOfGroup_37 : decode prog_1_method_20_code 37 = .ok (.iconst (-1), 1) := by decide +kernel
theorem d_ob_leastOfGroup_38 : decode prog_1_method_20_code 38 = .ok (.invokevirtual 66, 3) := by decide +kernel
theorem d_ob_leastOfGroup_41 : decode prog_1_method_20_code 41 = .ok (.pop, 1) := by decide +kernel
theorem d_ob_leastOfGroup_42 : decode prog_1_method_20_code 42 = .ok (.aload_n 0, 1) := by decide +kernel
theorem d_ob_leastOfGroup_43 : decode prog_1_method_20_code 43 = .ok (.getfield 33, 3) := by decide +kernel
theorem d_ob_leastOfGroup_46 : decode prog_1_method_20_code 46 = .ok (.aload_n 0, 1) := by decide +kernel
theorem d_ob_leastOfGroup_47 : decode prog_1_method_20_code 47 = .ok (.getfield 23, 3) := by decide +kernel
theorem d_ob_leastOfGroup_50 : decode prog_1_method_20_code 50 = .ok (.invokevirtual 125, 3) := by decide +kernel
theorem d_ob_leastOfGroup_53 : decode prog_1_method_20_code 53 = .ok (.aload_n 0, 1) := by decide +kernel
theorem d_ob_leastOfGroup_54 : decode prog_1_method_20_code 54 = .ok (.getfield 33, 3) := by decide +kernel
theorem d_ob_leastOfGroup_57 : decode prog_1_method_20_code 57 = .ok (.iconst 0, 1) := by decide +kernel
theorem d_ob_leastOfGroup_58 : decode prog_1_method_20_code 58 = .ok (.invokevirtual 111, 3) := by decide +kernel
theorem d_ob_leastOfGroup_61 : decode prog_1_method_20_code 61 = .ok (.ireturn, 1) := by decide +kernel
theorem d_ob_count_0 : decode prog_1_method_15_code 0 = .ok (.iload_n 1, 1) := by decide +kernel
theorem d_ob_count_1 : decode prog_1_method_15_code 1 = .ok (.tableswitch 51 0 3 #[31, 36, 41, 46], 31) := by decide +kernel
theorem d_ob_count_32 : decode prog_1_method_15_code 32 = .ok (.aload_n 0, 1) := by decide +kernel
theorem d_ob_count_33 : decode prog_1_method_15_code 33 = .ok (.getfield 9, 3) := by decide +kernel
theorem d_ob_count_36 : decode prog_1_method_15_code 36 = .ok (.ireturn, 1) := by decide +kernel
theorem d_ob_count_37 : decode prog_1_method_15_code 37 = .ok (.aload_n 0, 1) := by decide +kernel
theorem d_ob_count_38 : decode prog_1_method_15_code 38 = .ok (.invokevirtual 90, 3) := by decide +kernel
theorem d_ob_count_41 : decode prog_1_method_15_code 41 = .ok (.ireturn, 1) := by decide +kernel
theorem d_ob_count_42 : decode prog_1_method_15_code 42 = .ok (.aload_n 0, 1) := by decide +kernel
theorem d_ob_count_43 : decode prog_1_method_15_code 43 = .ok (.invokevirtual 94, 3) := by decide +kernel
theorem d_ob_count_46 : decode prog_1_method_15_code 46 = .ok (.ireturn, 1) := by decide +kernel
theorem d_ob_count_47 : decode prog_1_method_15_code 47 = .ok (.aload_n 0, 1) := by decide +kernel
theorem d_ob_count_48 : decode prog_1_method_15_code 48 = .ok (.invokevirtual 97, 3) := by decide +kernel
theorem d_ob_count_51 : decode prog_1_method_15_code 51 = .ok (.ireturn, 1) := by decide +kernel
theorem d_ob_count_52 : decode prog_1_method_15_code 52 = .ok (.iconst (-1), 1) := by decide +kernel
theorem d_ob_count_53 : decode prog_1_method_15_code 53 = .ok (.ireturn, 1) := by decide +kernel
theorem d_ob_countWays_0 : decode prog_1_method_26_code 0 = .ok (.iconst 0, 1) := by decide +kernel
theorem d_ob_countWays_1 : decode prog_1_method_26_code 1 = .ok (.istore_n 1, 1) := by decide +kernel
theorem d_ob_countWays_2 : decode prog_1_method_26_code 2 = .ok (.iconst 0, 1) := by decide +kernel
theorem d_ob_countWays_3 : decode prog_1_method_26_code 3 = .ok (.istore_n 2, 1) := by decide +kernel
theorem d_ob_countWays_4 : decode prog_1_method_26_code 4 = .ok (.iload_n 2, 1) := by decide +kernel
theorem d_ob_countWays_5 : decode prog_1_method_26_code 5 = .ok (.aload_n 0, 1) := by decide +kernel
theorem d_ob_countWays_6 : decode prog_1_method_26_code 6 = .ok (.getfield 9, 3) := by decide +kernel
theorem d_ob_countWays_9 : decode prog_1_method_26_code 9 = .ok (.if_icmp .ge 21, 3) := by decide +kernel
theorem d_ob_countWays_12 : decode prog_1_method_26_code 12 = .ok (.iload_n 1, 1) := by decide +kernel
theorem d_ob_countWays_13 : decode prog_1_method_26_code 13 = .ok (.aload_n 0, 1) := by decide +kernel
theorem d_ob_countWays_14 : decode prog_1_method_26_code 14 = .ok (.getfield 15, 3) := by decide +kernel
theorem d_ob_countWays_17 : decode prog_1_method_26_code 17 = .ok (.iload_n 2, 1) := by decide +kernel
theorem d_ob_countWays_18 : decode prog_1_method_26_code 18 = .ok (.aaload, 1) := by decide +kernel
theorem d_ob_countWays_19 : decode prog_1_method_26_code 19 = .ok (.invokevirtual 128, 3) := by decide +kernel
theorem d_ob_countWays_22 : decode prog_1_method_26_code 22 = .ok (.iadd, 1) := by decide +kernel
theorem d_ob_countWays_23 : decode prog_1_method_26_code 23 = .ok (.istore_n 1, 1) := by decide +kernel
theorem d_ob_countWays_24 : decode prog_1_method_26_code 24 = .ok (.iinc 2 1, 3) := by decide +kernel
theorem d_ob_countWays_27 : decode prog_1_method_26_code 27 = .ok (.goto (-23), 3) := by decide +kernel
theorem d_ob_countWays_30 : decode prog_1_method_26_code 30 = .ok (.iload_n 1, 1) := by decide +kernel
theorem d_ob_countWays_31 : decode prog_1_method_26_code 31 = .ok (.ireturn, 1) := by decide +kernel
theorem d_ob_countWithoutWayTo_0 : decode prog_1_method_27_code 0 = .ok (.iconst 0, 1) := by decide +kernel
theorem d_ob_countWithoutWayTo_1 : decode prog_1_method_27_code 1 = .ok (.istore_n 1, 1) := by decide +kernel
theorem d_ob_countWithoutWayTo_2 : decode prog_1_method_27_code 2 = .ok (.iconst 0, 1) := by decide +kernel
theorem d_ob_countWithoutWayTo_3 : decode prog_1_method_27_code 3 = .ok (.istore_n 2, 1) := by decide +kernel
theorem d_ob_countWithoutWayTo_4 : decode prog_1_method_27_code 4 = .ok (.iload_n 2, 1) := by decide +kernel
theorem d_ob_countWithoutWayTo_5 : decode prog_1_method_27_code 5 = .ok (.aload_n 0, 1) := by decide +kernel
theorem d_ob_countWithoutWayTo_6 : decode prog_1_method_27_code 6 = .ok (.getfield 9, 3) := by decide +kernel
theorem d_ob_countWithoutWayTo_9 : decode prog_1_method_27_code 9 = .ok (.if_icmp .ge 24, 3) := by decide +kernel
theorem d_ob_countWithoutWayTo_12 : decode prog_1_method_27_code 12 = .ok (.aload_n 0, 1) := by decide +kernel
theorem d_ob_countWithoutWayTo_13 : decode prog_1_method_27_code 13 = .ok (.getfield 19, 3) := by decide +kernel
theorem d_ob_countWithoutWayTo_16 : decode prog_1_method_27_code 16 = .ok (.iload_n 2, 1) := by decide +kernel
theorem d_ob_countWithoutWayTo_17 : decode prog_1_method_27_code 17 = .ok (.aaload, 1) := by decide +kernel
theorem d_ob_countWithoutWayTo_18 : decode prog_1_method_27_code 18 = .ok (.invokevirtual 107, 3) := by decide +kernel
theorem d_ob_countWithoutWayTo_21 : decode prog_1_method_27_code 21 = .ok (.ifCond .eq 6, 3) := by decide +kernel
theorem d_ob_countWithoutWayTo_24 : decode prog_1_method_27_code 24 = .ok (.iinc 1 1, 3) := by decide +kernel
theorem d_ob_countWithoutWayTo_27 : decode prog_1_method_27_code 27 = .ok (.iinc 2 1, 3) := by decide +kernel
theorem d_ob_countWithoutWayTo_30 : decode prog_1_method_27_code 30 = .ok (.goto (-26), 3) := by decide +kernel
theorem d_ob_countWithoutWayTo_33 : decode prog_1_method_27_code 33 = .ok (.iload_n 1, 1) := by decide +kernel
theorem d_ob_countWithoutWayTo_34 : decode prog_1_method_27_code 34 = .ok (.ireturn, 1) := by decide +kernel
theorem d_ob_countOnCircles_0 : decode prog_1_method_28_code 0 = .ok (.iconst 0, 1) := by decide +kernel
theorem d_ob_countOnCircles_1 : decode prog_1_method_28_code 1 = .ok (.istore_n 1, 1) := by decide +kernel
theorem d_ob_countOnCircles_2 : decode prog_1_method_28_code 2 = .ok (.iconst 0, 1) := by decide +kernel
theorem d_ob_countOnCircles_3 : decode prog_1_method_28_code 3 = .ok (.istore_n 2, 1) := by decide +kernel
theorem d_ob_countOnCircles_4 : decode prog_1_method_28_code 4 = .ok (.iload_n 2, 1) := by decide +kernel
theorem d_ob_countOnCircles_5 : decode prog_1_method_28_code 5 = .ok (.aload_n 0, 1) := by decide +kernel
theorem d_ob_countOnCircles_6 : decode prog_1_method_28_code 6 = .ok (.getfield 9, 3) := by decide +kernel
theorem d_ob_countOnCircles_9 : decode prog_1_method_28_code 9 = .ok (.if_icmp .ge 20, 3) := by decide +kernel
theorem d_ob_countOnCircles_12 : decode prog_1_method_28_code 12 = .ok (.aload_n 0, 1) := by decide +kernel
theorem d_ob_countOnCircles_13 : decode prog_1_method_28_code 13 = .ok (.iload_n 2, 1) := by decide +kernel
theorem d_ob_countOnCircles_14 : decode prog_1_method_28_code 14 = .ok (.invokevirtual 70, 3) := by decide +kernel
theorem d_ob_countOnCircles_17 : decode prog_1_method_28_code 17 = .ok (.ifCond .eq 6, 3) := by decide +kernel
theorem d_ob_countOnCircles_20 : decode prog_1_method_28_code 20 = .ok (.iinc 1 1, 3) := by decide +kernel
theorem d_ob_countOnCircles_23 : decode prog_1_method_28_code 23 = .ok (.iinc 2 1, 3) := by decide +kernel
theorem d_ob_countOnCircles_26 : decode prog_1_method_28_code 26 = .ok (.goto (-22), 3) := by decide +kernel
theorem d_ob_countOnCircles_29 : decode prog_1_method_28_code 29 = .ok (.iload_n 1, 1) := by decide +kernel
theorem d_ob_countOnCircles_30 : decode prog_1_method_28_code 30 = .ok (.ireturn, 1) := by decide +kernel
theorem d_ob_places_0 : decode prog_1_method_2_code 0 = .ok (.iload_n 1, 1) := by decide +kernel
theorem d_ob_places_1 : decode prog_1_method_2_code 1 = .ok (.iconst 1, 1) := by decide +kernel
theorem d_ob_places_2 : decode prog_1_method_2_code 2 = .ok (.if_icmp .lt 9, 3) := by decide +kernel
theorem d_ob_places_5 : decode prog_1_method_2_code 5 = .ok (.iload_n 1, 1) := by decide +kernel
theorem d_ob_places_6 : decode prog_1_method_2_code 6 = .ok (.bipush 120, 2) := by decide +kernel
theorem d_ob_places_8 : decode prog_1_method_2_code 8 = .ok (.if_icmp .le 11, 3) := by decide +kernel
theorem d_ob_places_11 : decode prog_1_method_2_code 11 = .ok (.new 46, 3) := by decide +kernel
theorem d_ob_places_14 : decode prog_1_method_2_code 14 = .ok (.dup, 1) := by decide +kernel
theorem d_ob_places_15 : decode prog_1_method_2_code 15 = .ok (.invokespecial 48, 3) := by decide +kernel
theorem d_ob_places_18 : decode prog_1_method_2_code 18 = .ok (.athrow, 1) := by decide +kernel
theorem d_ob_places_19 : decode prog_1_method_2_code 19 = .ok (.aload_n 0, 1) := by decide +kernel
theorem d_ob_places_20 : decode prog_1_method_2_code 20 = .ok (.getfield 9, 3) := by decide +kernel
theorem d_ob_places_23 : decode prog_1_method_2_code 23 = .ok (.istore_n 2, 1) := by decide +kernel
theorem d_ob_places_24 : decode prog_1_method_2_code 24 = .ok (.aload_n 0, 1) := by decide +kernel
theorem d_ob_places_25 : decode prog_1_method_2_code 25 = .ok (.iload_n 1, 1) := by decide +kernel
theorem d_ob_places_26 : decode prog_1_method_2_code 26 = .ok (.putfield 9, 3) := by decide +kernel
theorem d_ob_places_29 : decode prog_1_method_2_code 29 = .ok (.iconst 0, 1) := by decide +kernel
theorem d_ob_places_30 : decode prog_1_method_2_code 30 = .ok (.istore_n 3, 1) := by decide +kernel
theorem d_ob_places_31 : decode prog_1_method_2_code 31 = .ok (.iload_n 3, 1) := by decide +kernel
theorem d_ob_places_32 : decode prog_1_method_2_code 32 = .ok (.bipush 120, 2) := by decide +kernel
theorem d_ob_places_34 : decode prog_1_method_2_code 34 = .ok (.if_icmp .ge 27, 3) := by decide +kernel
theorem d_ob_places_37 : decode prog_1_method_2_code 37 = .ok (.aload_n 0, 1) := by decide +kernel
theorem d_ob_places_38 : decode prog_1_method_2_code 38 = .ok (.getfield 15, 3) := by decide +kernel
theorem d_ob_places_41 : decode prog_1_method_2_code 41 = .ok (.iload_n 3, 1) := by decide +kernel
theorem d_ob_places_42 : decode prog_1_method_2_code 42 = .ok (.aaload, 1) := by decide +kernel
theorem d_ob_places_43 : decode prog_1_method_2_code 43 = .ok (.invokevirtual 49, 3) := by decide +kernel
theorem d_ob_places_46 : decode prog_1_method_2_code 46 = .ok (.aload_n 0, 1) := by decide +kernel
theorem d_ob_places_47 : decode prog_1_method_2_code 47 = .ok (.getfield 19, 3) := by decide +kernel
theorem d_ob_places_50 : decode prog_1_method_2_code 50 = .ok (.iload_n 3, 1) := by decide +kernel
theorem d_ob_places_51 : decode prog_1_method_2_code 51 = .ok (.aaload, 1) := by decide +kernel
theorem d_ob_places_52 : decode prog_1_method_2_code 52 = .ok (.invokevirtual 49, 3) := by decide +kernel
theorem d_ob_places_55 : decode prog_1_method_2_code 55 = .ok (.iinc 3 1, 3) := by decide +kernel
theorem d_ob_places_58 : decode prog_1_method_2_code 58 = .ok (.goto (-27), 3) := by decide +kernel
theorem d_ob_places_61 : decode prog_1_method_2_code 61 = .ok (.iload_n 2, 1) := by decide +kernel
theorem d_ob_places_62 : decode prog_1_method_2_code 62 = .ok (.ireturn, 1) := by decide +kernel
theorem d_ob_way_0 : decode prog_1_method_3_code 0 = .ok (.aload_n 0, 1) := by decide +kernel
theorem d_ob_way_1 : decode prog_1_method_3_code 1 = .ok (.iload_n 1, 1) := by decide +kernel
theorem d_ob_way_2 : decode prog_1_method_3_code 2 = .ok (.invokevirtual 52, 3) := by decide +kernel
theorem d_ob_way_5 : decode prog_1_method_3_code 5 = .ok (.aload_n 0, 1) := by decide +kernel
theorem d_ob_way_6 : decode prog_1_method_3_code 6 = .ok (.iload_n 2, 1) := by decide +kernel
theorem d_ob_way_7 : decode prog_1_method_3_code 7 = .ok (.invokevirtual 52, 3) := by decide +kernel
theorem d_ob_way_10 : decode prog_1_method_3_code 10 = .ok (.aload_n 0, 1) := by decide +kernel
theorem d_ob_way_11 : decode prog_1_method_3_code 11 = .ok (.getfield 15, 3) := by decide +kernel
theorem d_ob_way_14 : decode prog_1_method_3_code 14 = .ok (.iload_n 1, 1) := by decide +kernel
theorem d_ob_way_15 : decode prog_1_method_3_code 15 = .ok (.aaload, 1) := by decide +kernel
theorem d_ob_way_16 : decode prog_1_method_3_code 16 = .ok (.iload_n 2, 1) := by decide +kernel
theorem d_ob_way_17 : decode prog_1_method_3_code 17 = .ok (.invokevirtual 56, 3) := by decide +kernel
theorem d_ob_way_20 : decode prog_1_method_3_code 20 = .ok (.istore_n 3, 1) := by decide +kernel
theorem d_ob_way_21 : decode prog_1_method_3_code 21 = .ok (.aload_n 0, 1) := by decide +kernel
theorem d_ob_way_22 : decode prog_1_method_3_code 22 = .ok (.getfield 15, 3) := by decide +kernel
theorem d_ob_way_25 : decode prog_1_method_3_code 25 = .ok (.iload_n 1, 1) := by decide +kernel
theorem d_ob_way_26 : decode prog_1_method_3_code 26 = .ok (.aaload, 1) := by decide +kernel
theorem d_ob_way_27 : decode prog_1_method_3_code 27 = .ok (.iload_n 2, 1) := by decide +kernel
theorem d_ob_way_28 : decode prog_1_method_3_code 28 = .ok (.invokevirtual 60, 3) := by decide +kernel
theorem d_ob_way_31 : decode prog_1_method_3_code 31 = .ok (.aload_n 0, 1) := by decide +kernel
theorem d_ob_way_32 : decode prog_1_method_3_code 32 = .ok (.getfield 19, 3) := by decide +kernel
theorem d_ob_way_35 : decode prog_1_method_3_code 35 = .ok (.iload_n 2, 1) := by decide +kernel
theorem d_ob_way_36 : decode prog_1_method_3_code 36 = .ok (.aaload, 1) := by decide +kernel
theorem d_ob_way_37 : decode prog_1_method_3_code 37 = .ok (.iload_n 1, 1) := by decide +kernel
theorem d_ob_way_38 : decode prog_1_method_3_code 38 = .ok (.invokevirtual 60, 3) := by decide +kernel
theorem d_ob_way_41 : decode prog_1_method_3_code 41 = .ok (.iload_n 3, 1) := by decide +kernel
theorem d_ob_way_42 : decode prog_1_method_3_code 42 = .ok (.ireturn, 1) := by decide +kernel
theorem d_ob_mustBePlace_0 : decode prog_1_method_16_code 0 = .ok (.iload_n 1, 1) := by decide +kernel
theorem d_ob_mustBePlace_1 : decode prog_1_method_16_code 1 = .ok (.ifCond .lt 11, 3) := by decide +kernel
theorem d_ob_mustBePlace_4 : decode prog_1_method_16_code 4 = .ok (.iload_n 1, 1) := by decide +kernel
theorem d_ob_mustBePlace_5 : decode prog_1_method_16_code 5 = .ok (.aload_n 0, 1) := by decide +kernel
theorem d_ob_mustBePlace_6 : decode prog_1_method_16_code 6 = .ok (.getfield 9, 3) := by decide +kernel
theorem d_ob_mustBePlace_9 : decode prog_1_method_16_code 9 = .ok (.if_icmp .lt 11, 3) := by decide +kernel
theorem d_ob_mustBePlace_12 : decode prog_1_method_16_code 12 = .ok (.new 100, 3) := by decide +kernel
theorem d_ob_mustBePlace_15 : decode prog_1_method_16_code 15 = .ok (.dup, 1) := by decide +kernel
theorem d_ob_mustBePlace_16 : decode prog_1_method_16_code 16 = .ok (.invokespecial 102, 3) := by decide +kernel
theorem d_ob_mustBePlace_19 : decode prog_1_method_16_code 19 = .ok (.athrow, 1) := by decide +kernel
theorem d_ob_mustBePlace_20 : decode prog_1_method_16_code 20 = .ok (.return_, 1) := by decide +kernel
theorem d_ob_drop_0 : decode prog_1_method_4_code 0 = .ok (.aload_n 0, 1) := by decide +kernel
theorem d_ob_drop_1 : decode prog_1_method_4_code 1 = .ok (.iload_n 1, 1) := by decide +kernel
theorem d_ob_drop_2 : decode prog_1_method_4_code 2 = .ok (.invokevirtual 52, 3) := by decide +kernel
theorem d_ob_drop_5 : decode prog_1_method_4_code 5 = .ok (.aload_n 0, 1) := by decide +kernel
theorem d_ob_drop_6 : decode prog_1_method_4_code 6 = .ok (.iload_n 2, 1) := by decide +kernel
theorem d_ob_drop_7 : decode prog_1_method_4_code 7 = .ok (.invokevirtual 52, 3) := by decide +kernel
theorem d_ob_drop_10 : decode prog_1_method_4_code 10 = .ok (.aload_n 0, 1) := by decide +kernel
theorem d_ob_drop_11 : decode prog_1_method_4_code 11 = .ok (.getfield 15, 3) := by decide +kernel
theorem d_ob_drop_14 : decode prog_1_method_4_code 14 = .ok (.iload_n 1, 1) := by decide +kernel
theorem d_ob_drop_15 : decode prog_1_method_4_code 15 = .ok (.aaload, 1) := by decide +kernel
theorem d_ob_drop_16 : decode prog_1_method_4_code 16 = .ok (.iload_n 2, 1) := by decide +kernel
theorem d_ob_drop_17 : decode prog_1_method_4_code 17 = .ok (.invokevirtual 56, 3) := by decide +kernel
theorem d_ob_drop_20 : decode prog_1_method_4_code 20 = .ok (.istore_n 3, 1) := by decide +kernel
theorem d_ob_drop_21 : decode prog_1_method_4_code 21 = .ok (.aload_n 0, 1) := by decide +kernel
theorem d_ob_drop_22 : decode prog_1_method_4_code 22 = .ok (.getfield 15, 3) := by decide +kernel
theorem d_ob_drop_25 : decode prog_1_method_4_code 25 = .ok (.iload_n 1, 1) := by decide +kernel
theorem d_ob_drop_26 : decode prog_1_method_4_code 26 = .ok (.aaload, 1) := by decide +kernel
theorem d_ob_drop_27 : decode prog_1_method_4_code 27 = .ok (.iload_n 2, 1) := by decide +kernel
theorem d_ob_drop_28 : decode prog_1_method_4_code 28 = .ok (.invokevirtual 63, 3) := by decide +kernel
theorem d_ob_drop_31 : decode prog_1_method_4_code 31 = .ok (.aload_n 0, 1) := by decide +kernel
theorem d_ob_drop_32 : decode prog_1_method_4_code 32 = .ok (.getfield 19, 3) := by decide +kernel
theorem d_ob_drop_35 : decode prog_1_method_4_code 35 = .ok (.iload_n 2, 1) := by decide +kernel
theorem d_ob_drop_36 : decode prog_1_method_4_code 36 = .ok (.aaload, 1) := by decide +kernel
theorem d_ob_drop_37 : decode prog_1_method_4_code 37 = .ok (.iload_n 1, 1) := by decide +kernel
theorem d_ob_drop_38 : decode prog_1_method_4_code 38 = .ok (.invokevirtual 63, 3) := by decide +kernel
theorem d_ob_drop_41 : decode prog_1_method_4_code 41 = .ok (.iload_n 3, 1) := by decide +kernel
theorem d_ob_drop_42 : decode prog_1_method_4_code 42 = .ok (.ireturn, 1) := by decide +kernel
theorem d_ob_reaches_0 : decode prog_1_method_5_code 0 = .ok (.aload_n 0, 1) := by decide +kernel
theorem d_ob_reaches_1 : decode prog_1_method_5_code 1 = .ok (.iload_n 1, 1) := by decide +kernel
theorem d_ob_reaches_2 : decode prog_1_method_5_code 2 = .ok (.invokevirtual 52, 3) := by decide +kernel
theorem d_ob_reaches_5 : decode prog_1_method_5_code 5 = .ok (.aload_n 0, 1) := by decide +kernel
theorem d_ob_reaches_6 : decode prog_1_method_5_code 6 = .ok (.iload_n 2, 1) := by decide +kernel
theorem d_ob_reaches_7 : decode prog_1_method_5_code 7 = .ok (.invokevirtual 52, 3) := by decide +kernel
theorem d_ob_reaches_10 : decode prog_1_method_5_code 10 = .ok (.aload_n 0, 1) := by decide +kernel
theorem d_ob_reaches_11 : decode prog_1_method_5_code 11 = .ok (.aload_n 0, 1) := by decide +kernel
theorem d_ob_reaches_12 : decode prog_1_method_5_code 12 = .ok (.getfield 15, 3) := by decide +kernel
theorem d_ob_reaches_15 : decode prog_1_method_5_code 15 = .ok (.iload_n 1, 1) := by decide +kernel
theorem d_ob_reaches_16 : decode prog_1_method_5_code 16 = .ok (.iload_n 2, 1) := by decide +kernel
theorem d_ob_reaches_17 : decode prog_1_method_5_code 17 = .ok (.iconst (-1), 1) := by decide +kernel
theorem d_ob_reaches_18 : decode prog_1_method_5_code 18 = .ok (.invokevirtual 66, 3) := by decide +kernel
theorem d_ob_reaches_21 : decode prog_1_method_5_code 21 = .ok (.iconst (-1), 1) := by decide +kernel
theorem d_ob_reaches_22 : decode prog_1_method_5_code 22 = .ok (.if_icmp .eq 7, 3) := by decide +kernel
theorem d_ob_reaches_25 : decode prog_1_method_5_code 25 = .ok (.iconst 1, 1) := by decide +kernel
theorem d_ob_reaches_26 : decode prog_1_method_5_code 26 = .ok (.goto 4, 3) := by decide +kernel
theorem d_ob_reaches_29 : decode prog_1_method_5_code 29 = .ok (.iconst 0, 1) := by decide +kernel
theorem d_ob_reaches_30 : decode prog_1_method_5_code 30 = .ok (.ireturn, 1) := by decide +kernel
theorem d_ob_far_0 : decode prog_1_method_6_code 0 = .ok (.aload_n 0, 1) := by decide +kernel
theorem d_ob_far_1 : decode prog_1_method_6_code 1 = .ok (.iload_n 1, 1) := by decide +kernel
theorem d_ob_far_2 : decode prog_1_method_6_code 2 = .ok (.invokevirtual 52, 3) := by decide +kernel
theorem d_ob_far_5 : decode prog_1_method_6_code 5 = .ok (.aload_n 0, 1) := by decide +kernel
theorem d_ob_far_6 : decode prog_1_method_6_code 6 = .ok (.iload_n 2, 1) := by decide +kernel
theorem d_ob_far_7 : decode prog_1_method_6_code 7 = .ok (.invokevirtual 52, 3) := by decide +kernel
theorem d_ob_far_10 : decode prog_1_method_6_code 10 = .ok (.aload_n 0, 1) := by decide +kernel
theorem d_ob_far_11 : decode prog_1_method_6_code 11 = .ok (.aload_n 0, 1) := by decide +kernel
theorem d_ob_far_12 : decode prog_1_method_6_code 12 = .ok (.getfield 15, 3) := by decide +kernel
theorem d_ob_far_15 : decode prog_1_method_6_code 15 = .ok (.iload_n 1, 1) := by decide +kernel
theorem d_ob_far_16 : decode prog_1_method_6_code 16 = .ok (.iload_n 2, 1) := by decide +kernel
theorem d_ob_far_17 : decode prog_1_method_6_code 17 = .ok (.iconst (-1), 1) := by decide +kernel
theorem d_ob_far_18 : decode prog_1_method_6_code 18 = .ok (.invokevirtual 66, 3) := by decide +kernel
theorem d_ob_far_21 : decode prog_1_method_6_code 21 = .ok (.ireturn, 1) := by decide +kernel
theorem d_ob_group_0 : decode prog_1_method_8_code 0 = .ok (.aload_n 0, 1) := by decide +kernel
theorem d_ob_group_1 : decode prog_1_method_8_code 1 = .ok (.iload_n 1, 1) := by decide +kernel
theorem d_ob_group_2 : decode prog_1_method_8_code 2 = .ok (.invokevirtual 52, 3) := by decide +kernel
theorem d_ob_group_5 : decode prog_1_method_8_code 5 = .ok (.aload_n 0, 1) := by decide +kernel
theorem d_ob_group_6 : decode prog_1_method_8_code 6 = .ok (.iload_n 1, 1) := by decide +kernel
theorem d_ob_group_7 : decode prog_1_method_8_code 7 = .ok (.invokevirtual 73, 3) := by decide +kernel
theorem d_ob_group_10 : decode prog_1_method_8_code 10 = .ok (.ireturn, 1) := by decide +kernel
theorem d_ob_order_0 : decode prog_1_method_10_code 0 = .ok (.aload_n 0, 1) := by decide +kernel
theorem d_ob_order_1 : decode prog_1_method_10_code 1 = .ok (.iload_n 1, 1) := by decide +kernel
theorem d_ob_order_2 : decode prog_1_method_10_code 2 = .ok (.invokevirtual 52, 3) := by decide +kernel
theorem d_ob_order_5 : decode prog_1_method_10_code 5 = .ok (.aload_n 0, 1) := by decide +kernel
theorem d_ob_order_6 : decode prog_1_method_10_code 6 = .ok (.invokevirtual 77, 3) := by decide +kernel
theorem d_ob_order_9 : decode prog_1_method_10_code 9 = .ok (.aload_n 0, 1) := by decide +kernel
theorem d_ob_order_10 : decode prog_1_method_10_code 10 = .ok (.getfield 36, 3) := by decide +kernel
theorem d_ob_order_13 : decode prog_1_method_10_code 13 = .ok (.iload_n 1, 1) := by decide +kernel
theorem d_ob_order_14 : decode prog_1_method_10_code 14 = .ok (.iaload, 1) := by decide +kernel
theorem d_ob_order_15 : decode prog_1_method_10_code 15 = .ok (.ireturn, 1) := by decide +kernel
theorem d_ob_lineUp_0 : decode prog_1_method_22_code 0 = .ok (.aload_n 0, 1) := by decide +kernel
theorem d_ob_lineUp_1 : decode prog_1_method_22_code 1 = .ok (.getfield 27, 3) := by decide +kernel
theorem d_ob_lineUp_4 : decode prog_1_method_22_code 4 = .ok (.invokevirtual 49, 3) := by decide +kernel
theorem d_ob_lineUp_7 : decode prog_1_method_22_code 7 = .ok (.iconst 0, 1) := by decide +kernel
theorem d_ob_lineUp_8 : decode prog_1_method_22_code 8 = .ok (.istore_n 1, 1) := by decide +kernel
theorem d_ob_lineUp_9 : decode prog_1_method_22_code 9 = .ok (.iload_n 1, 1) := by decide +kernel
theorem d_ob_lineUp_10 : decode prog_1_method_22_code 10 = .ok (.aload_n 0, 1) := by decide +kernel
theorem d_ob_lineUp_11 : decode prog_1_method_22_code 11 = .ok (.getfield 9, 3) := by decide +kernel
theorem d_ob_lineUp_14 : decode prog_1_method_22_code 14 = .ok (.if_icmp .ge 41, 3) := by decide +kernel
theorem d_ob_lineUp_17 : decode prog_1_method_22_code 17 = .ok (.aload_n 0, 1) := by decide +kernel
theorem d_ob_lineUp_18 : decode prog_1_method_22_code 18 = .ok (.getfield 40, 3) := by decide +kernel
theorem d_ob_lineUp_21 : decode prog_1_method_22_code 21 = .ok (.iload_n 1, 1) := by decide +kernel
theorem d_ob_lineUp_22 : decode prog_1_method_22_code 22 = .ok (.aload_n 0, 1) := by decide +kernel
theorem d_ob_lineUp_23 : decode prog_1_method_22_code 23 = .ok (.getfield 19, 3) := by decide +kernel
theorem d_ob_lineUp_26 : decode prog_1_method_22_code 26 = .ok (.iload_n 1, 1) := by decide +kernel
theorem d_ob_lineUp_27 : decode prog_1_method_22_code 27 = .ok (.aaload, 1) := by decide +kernel
theorem d_ob_lineUp_28 : decode prog_1_method_22_code 28 = .ok (.invokevirtual 128, 3) := by decide +kernel
theorem d_ob_lineUp_31 : decode prog_1_method_22_code 31 = .ok (.iastore, 1) := by decide +kernel
theorem d_ob_lineUp_32 : decode prog_1_method_22_code 32 = .ok (.aload_n 0, 1) := by decide +kernel
theorem d_ob_lineUp_33 : decode prog_1_method_22_code 33 = .ok (.getfield 40, 3) := by decide +kernel
theorem d_ob_lineUp_36 : decode prog_1_method_22_code 36 = .ok (.iload_n 1, 1) := by decide +kernel
theorem d_ob_lineUp_37 : decode prog_1_method_22_code 37 = .ok (.iaload, 1) := by decide +kernel
theorem d_ob_lineUp_38 : decode prog_1_method_22_code 38 = .ok (.ifCond .ne 11, 3) := by decide +kernel
theorem d_ob_lineUp_41 : decode prog_1_method_22_code 41 = .ok (.aload_n 0, 1) := by decide +kernel
theorem d_ob_lineUp_42 : decode prog_1_method_22_code 42 = .ok (.getfield 27, 3) := by decide +kernel
theorem d_ob_lineUp_45 : decode prog_1_method_22_code 45 = .ok (.iload_n 1, 1) := by decide +kernel
theorem d_ob_lineUp_46 : decode prog_1_method_22_code 46 = .ok (.invokevirtual 60, 3) := by decide +kernel
theorem d_ob_lineUp_49 : decode prog_1_method_22_code 49 = .ok (.iinc 1 1, 3) := by decide +kernel
theorem d_ob_lineUp_52 : decode prog_1_method_22_code 52 = .ok (.goto (-43), 3) := by decide +kernel
theorem d_ob_lineUp_55 : decode prog_1_method_22_code 55 = .ok (.iconst 0, 1) := by decide +kernel
theorem d_ob_lineUp_56 : decode prog_1_method_22_code 56 = .ok (.istore_n 1, 1) := by decide +kernel
theorem d_ob_lineUp_57 : decode prog_1_method_22_code 57 = .ok (.iload_n 1, 1) := by decide +kernel
theorem d_ob_lineUp_58 : decode prog_1_method_22_code 58 = .ok (.aload_n 0, 1) := by decide +kernel
theorem d_ob_lineUp_59 : decode prog_1_method_22_code 59 = .ok (.getfield 9, 3) := by decide +kernel
theorem d_ob_lineUp_62 : decode prog_1_method_22_code 62 = .ok (.if_icmp .ge 54, 3) := by decide +kernel
theorem d_ob_lineUp_65 : decode prog_1_method_22_code 65 = .ok (.aload_n 0, 1) := by decide +kernel
theorem d_ob_lineUp_66 : decode prog_1_method_22_code 66 = .ok (.getfield 27, 3) := by decide +kernel
theorem d_ob_lineUp_69 : decode prog_1_method_22_code 69 = .ok (.iconst 0, 1) := by decide +kernel
theorem d_ob_lineUp_70 : decode prog_1_method_22_code 70 = .ok (.invokevirtual 111, 3) := by decide +kernel
theorem d_ob_lineUp_73 : decode prog_1_method_22_code 73 = .ok (.istore_n 2, 1) := by decide +kernel
theorem d_ob_lineUp_74 : decode prog_1_method_22_code 74 = .ok (.iload_n 2, 1) := by decide +kernel
theorem d_ob_lineUp_75 : decode prog_1_method_22_code 75 = .ok (.aload_n 0, 1) := by decide +kernel
theorem d_ob_lineUp_76 : decode prog_1_method_22_code 76 = .ok (.getfield 9, 3) := by decide +kernel
theorem d_ob_lineUp_79 : decode prog_1_method_22_code 79 = .ok (.if_icmp .lt 11, 3) := by decide +kernel
theorem d_ob_lineUp_82 : decode prog_1_method_22_code 82 = .ok (.new 130, 3) := by decide +kernel
theorem d_ob_lineUp_85 : decode prog_1_method_22_code 85 = .ok (.dup, 1) := by decide +kernel
theorem d_ob_lineUp_86 : decode prog_1_method_22_code 86 = .ok (.invokespecial 132, 3) := by decide +kernel
theorem d_ob_lineUp_89 : decode prog_1_method_22_code 89 = .ok (.athrow, 1) := by decide +kernel
theorem d_ob_lineUp_90 : decode prog_1_method_22_code 90 = .ok (.aload_n 0, 1) := by decide +kernel
theorem d_ob_lineUp_91 : decode prog_1_method_22_code 91 = .ok (.getfield 27, 3) := by decide +kernel
theorem d_ob_lineUp_94 : decode prog_1_method_22_code 94 = .ok (.iload_n 2, 1) := by decide +kernel
theorem d_ob_lineUp_95 : decode prog_1_method_22_code 95 = .ok (.invokevirtual 63, 3) := by decide +kernel
theorem d_ob_lineUp_98 : decode prog_1_method_22_code 98 = .ok (.aload_n 0, 1) := by decide +kernel
theorem d_ob_lineUp_99 : decode prog_1_method_22_code 99 = .ok (.getfield 36, 3) := by decide +kernel
theorem d_ob_lineUp_102 : decode prog_1_method_22_code 102 = .ok (.iload_n 1, 1) := by decide +kernel
theorem d_ob_lineUp_103 : decode prog_1_method_22_code 103 = .ok (.iload_n 2, 1) := by decide +kernel
theorem d_ob_lineUp_104 : decode prog_1_method_22_code 104 = .ok (.iastore, 1) := by decide +kernel
theorem d_ob_lineUp_105 : decode prog_1_method_22_code 105 = .ok (.aload_n 0, 1) := by decide +kernel
theorem d_ob_lineUp_106 : decode prog_1_method_22_code 106 = .ok (.iload_n 2, 1) := by decide +kernel
theorem d_ob_lineUp_107 : decode prog_1_method_22_code 107 = .ok (.invokevirtual 133, 3) := by decide +kernel
theorem d_ob_lineUp_110 : decode prog_1_method_22_code 110 = .ok (.iinc 1 1, 3) := by decide +kernel
theorem d_ob_lineUp_113 : decode prog_1_method_22_code 113 = .ok (.goto (-56), 3) := by decide +kernel
theorem d_ob_lineUp_116 : decode prog_1_method_22_code 116 = .ok (.return_, 1) := by decide +kernel
theorem d_ob_release_0 : decode prog_1_method_23_code 0 = .ok (.aload_n 0, 1) := by decide +kernel
theorem d_ob_release_1 : decode prog_1_method_23_code 1 = .ok (.getfield 15, 3) := by decide +kernel
theorem d_ob_release_4 : decode prog_1_method_23_code 4 = .ok (.iload_n 1, 1) := by decide +kernel
theorem d_ob_release_5 : decode prog_1_method_23_code 5 = .ok (.aaload, 1) := by decide +kernel
theorem d_ob_release_6 : decode prog_1_method_23_code 6 = .ok (.iconst 0, 1) := by decide +kernel
theorem d_ob_release_7 : decode prog_1_method_23_code 7 = .ok (.invokevirtual 111, 3) := by decide +kernel
theorem d_ob_release_10 : decode prog_1_method_23_code 10 = .ok (.istore_n 2, 1) := by decide +kernel
theorem d_ob_release_11 : decode prog_1_method_23_code 11 = .ok (.iload_n 2, 1) := by decide +kernel
theorem d_ob_release_12 : decode prog_1_method_23_code 12 = .ok (.aload_n 0, 1) := by decide +kernel
theorem d_ob_release_13 : decode prog_1_method_23_code 13 = .ok (.getfield 9, 3) := by decide +kernel
theorem d_ob_release_16 : decode prog_1_method_23_code 16 = .ok (.if_icmp .ge 46, 3) := by decide +kernel
theorem d_ob_release_19 : decode prog_1_method_23_code 19 = .ok (.aload_n 0, 1) := by decide +kernel
theorem d_ob_release_20 : decode prog_1_method_23_code 20 = .ok (.getfield 40, 3) := by decide +kernel
theorem d_ob_release_23 : decode prog_1_method_23_code 23 = .ok (.iload_n 2, 1) := by decide +kernel
theorem d_ob_release_24 : decode prog_1_method_23_code 24 = .ok (.dup2, 1) := by decide +kernel
theorem d_ob_release_25 : decode prog_1_method_23_code 25 = .ok (.iaload, 1) := by decide +kernel
theorem d_ob_release_26 : decode prog_1_method_23_code 26 = .ok (.iconst 1, 1) := by decide +kernel
theorem d_ob_release_27 : decode prog_1_method_23_code 27 = .ok (.isub, 1) := by decide +kernel
theorem d_ob_release_28 : decode prog_1_method_23_code 28 = .ok (.iastore, 1) := by decide +kernel
theorem d_ob_release_29 : decode prog_1_method_23_code 29 = .ok (.aload_n 0, 1) := by decide +kernel
theorem d_ob_release_30 : decode prog_1_method_23_code 30 = .ok (.getfield 40, 3) := by decide +kernel
theorem d_ob_release_33 : decode prog_1_method_23_code 33 = .ok (.iload_n 2, 1) := by decide +kernel
theorem d_ob_release_34 : decode prog_1_method_23_code 34 = .ok (.iaload, 1) := by decide +kernel
theorem d_ob_release_35 : decode prog_1_method_23_code 35 = .ok (.ifCond .ne 11, 3) := by decide +kernel
theorem d_ob_release_38 : decode prog_1_method_23_code 38 = .ok (.aload_n 0, 1) := by decide +kernel
theorem d_ob_release_39 : decode prog_1_method_23_code 39 = .ok (.getfield 27, 3) := by decide +kernel
theorem d_ob_release_42 : decode prog_1_method_23_code 42 = .ok (.iload_n 2, 1) := by decide +kernel
theorem d_ob_release_43 : decode prog_1_method_23_code 43 = .ok (.invokevirtual 60, 3) := by decide +kernel
theorem d_ob_release_46 : decode prog_1_method_23_code 46 = .ok (.aload_n 0, 1) := by decide +kernel
theorem d_ob_release_47 : decode prog_1_method_23_code 47 = .ok (.getfield 15, 3) := by decide +kernel
theorem d_ob_release_50 : decode prog_1_method_23_code 50 = .ok (.iload_n 1, 1) := by decide +kernel
theorem d_ob_release_51 : decode prog_1_method_23_code 51 = .ok (.aaload, 1) := by decide +kernel
theorem d_ob_release_52 : decode prog_1_method_23_code 52 = .ok (.iload_n 2, 1) := by decide +kernel
theorem d_ob_release_53 : decode prog_1_method_23_code 53 = .ok (.iconst 1, 1) := by decide +kernel
theorem d_ob_release_54 : decode prog_1_method_23_code 54 = .ok (.iadd, 1) := by decide +kernel
theorem d_ob_release_55 : decode prog_1_method_23_code 55 = .ok (.invokevirtual 111, 3) := by decide +kernel
theorem d_ob_release_58 : decode prog_1_method_23_code 58 = .ok (.istore_n 2, 1) := by decide +kernel
theorem d_ob_release_59 : decode prog_1_method_23_code 59 = .ok (.goto (-48), 3) := by decide +kernel
theorem d_ob_release_62 : decode prog_1_method_23_code 62 = .ok (.return_, 1) := by decide +kernel
theorem d_ob_level_0 : decode prog_1_method_11_code 0 = .ok (.aload_n 0, 1) := by decide +kernel
theorem d_ob_level_1 : decode prog_1_method_11_code 1 = .ok (.iload_n 1, 1) := by decide +kernel
theorem d_ob_level_2 : decode prog_1_method_11_code 2 = .ok (.invokevirtual 52, 3) := by decide +kernel
theorem d_ob_level_5 : decode prog_1_method_11_code 5 = .ok (.aload_n 0, 1) := by decide +kernel
theorem d_ob_level_6 : decode prog_1_method_11_code 6 = .ok (.invokevirtual 77, 3) := by decide +kernel
theorem d_ob_level_9 : decode prog_1_method_11_code 9 = .ok (.aload_n 0, 1) := by decide +kernel
theorem d_ob_level_10 : decode prog_1_method_11_code 10 = .ok (.invokevirtual 80, 3) := by decide +kernel
theorem d_ob_level_13 : decode prog_1_method_11_code 13 = .ok (.aload_n 0, 1) := by decide +kernel
theorem d_ob_level_14 : decode prog_1_method_11_code 14 = .ok (.getfield 43, 3) := by decide +kernel
theorem d_ob_level_17 : decode prog_1_method_11_code 17 = .ok (.iload_n 1, 1) := by decide +kernel
theorem d_ob_level_18 : decode prog_1_method_11_code 18 = .ok (.iaload, 1) := by decide +kernel
theorem d_ob_level_19 : decode prog_1_method_11_code 19 = .ok (.ireturn, 1) := by decide +kernel
theorem d_ob_tallyLongest_0 : decode prog_1_method_24_code 0 = .ok (.aload_n 0, 1) := by decide +kernel
theorem d_ob_tallyLongest_1 : decode prog_1_method_24_code 1 = .ok (.getfield 43, 3) := by decide +kernel
theorem d_ob_tallyLongest_4 : decode prog_1_method_24_code 4 = .ok (.iconst 0, 1) := by decide +kernel
theorem d_ob_tallyLongest_5 : decode prog_1_method_24_code 5 = .ok (.invokestatic 136, 3) := by decide +kernel
theorem d_ob_tallyLongest_8 : decode prog_1_method_24_code 8 = .ok (.iconst 0, 1) := by decide +kernel
theorem d_ob_tallyLongest_9 : decode prog_1_method_24_code 9 = .ok (.istore_n 1, 1) := by decide +kernel
theorem d_ob_tallyLongest_10 : decode prog_1_method_24_code 10 = .ok (.iload_n 1, 1) := by decide +kernel
theorem d_ob_tallyLongest_11 : decode prog_1_method_24_code 11 = .ok (.aload_n 0, 1) := by decide +kernel
theorem d_ob_tallyLongest_12 : decode prog_1_method_24_code 12 = .ok (.getfield 9, 3) := by decide +kernel
theorem d_ob_tallyLongest_15 : decode prog_1_method_24_code 15 = .ok (.if_icmp .ge 74, 3) := by decide +kernel
theorem d_ob_tallyLongest_18 : decode prog_1_method_24_code 18 = .ok (.aload_n 0, 1) := by decide +kernel
theorem d_ob_tallyLongest_19 : decode prog_1_method_24_code 19 = .ok (.getfield 36, 3) := by decide +kernel
theorem d_ob_tallyLongest_22 : decode prog_1_method_24_code 22 = .ok (.iload_n 1, 1) := by decide +kernel
theorem d_ob_tallyLongest_23 : decode prog_1_method_24_code 23 = .ok (.iaload, 1) := by decide +kernel
theorem d_ob_tallyLongest_24 : decode prog_1_method_24_code 24 = .ok (.istore_n 2, 1) := by decide +kernel
theorem d_ob_tallyLongest_25 : decode prog_1_method_24_code 25 = .ok (.aload_n 0, 1) := by decide +kernel
theorem d_ob_tallyLongest_26 : decode prog_1_method_24_code 26 = .ok (.getfield 15, 3) := by decide +kernel
theorem d_ob_tallyLongest_29 : decode prog_1_method_24_code 29 = .ok (.iload_n 2, 1) := by decide +kernel
theorem d_ob_tallyLongest_30 : decode prog_1_method_24_code 30 = .ok (.aaload, 1) := by decide +kernel
theorem d_ob_tallyLongest_31 : decode prog_1_method_24_code 31 = .ok (.iconst 0, 1) := by decide +kernel
theorem d_ob_tallyLongest_32 : decode prog_1_method_24_code 32 = .ok (.invokevirtual 111, 3) := by decide +kernel
theorem d_ob_tallyLongest_35 : decode prog_1_method_24_code 35 = .ok (.istore_n 3, 1) := by decide +kernel
theorem d_ob_tallyLongest_36 : decode prog_1_method_24_code 36 = .ok (.iload_n 3, 1) := by decide +kernel
theorem d_ob_tallyLongest_37 : decode prog_1_method_24_code 37 = .ok (.aload_n 0, 1) := by decide +kernel
theorem d_ob_tallyLongest_38 : decode prog_1_method_24_code 38 = .ok (.getfield 9, 3) := by decide +kernel
theorem d_ob_tallyLongest_41 : decode prog_1_method_24_code 41 = .ok (.if_icmp .ge 42, 3) := by decide +kernel
theorem d_ob_tallyLongest_44 : decode prog_1_method_24_code 44 = .ok (.aload_n 0, 1) := by decide +kernel
theorem d_ob_tallyLongest_45 : decode prog_1_method_24_code 45 = .ok (.getfield 43, 3) := by decide +kernel
theorem d_ob_tallyLongest_48 : decode prog_1_method_24_code 48 = .ok (.iload_n 3, 1) := by decide +kernel
theorem d_ob_tallyLongest_49 : decode prog_1_method_24_code 49 = .ok (.aload_n 0, 1) := by decide +kernel
theorem d_ob_tallyLongest_50 : decode prog_1_method_24_code 50 = .ok (.getfield 43, 3) := by decide +kernel
theorem d_ob_tallyLongest_53 : decode prog_1_method_24_code 53 = .ok (.iload_n 3, 1) := by decide +kernel
theorem d_ob_tallyLongest_54 : decode prog_1_method_24_code 54 = .ok (.iaload, 1) := by decide +kernel
theorem d_ob_tallyLongest_55 : decode prog_1_method_24_code 55 = .ok (.aload_n 0, 1) := by decide +kernel
theorem d_ob_tallyLongest_56 : decode prog_1_method_24_code 56 = .ok (.getfield 43, 3) := by decide +kernel
theorem d_ob_tallyLongest_59 : decode prog_1_method_24_code 59 = .ok (.iload_n 2, 1) := by decide +kernel
theorem d_ob_tallyLongest_60 : decode prog_1_method_24_code 60 = .ok (.iaload, 1) := by decide +kernel
theorem d_ob_tallyLongest_61 : decode prog_1_method_24_code 61 = .ok (.iconst 1, 1) := by decide +kernel
theorem d_ob_tallyLongest_62 : decode prog_1_method_24_code 62 = .ok (.iadd, 1) := by decide +kernel
theorem d_ob_tallyLongest_63 : decode prog_1_method_24_code 63 = .ok (.invokestatic 142, 3) := by decide +kernel
theorem d_ob_tallyLongest_66 : decode prog_1_method_24_code 66 = .ok (.iastore, 1) := by decide +kernel
theorem d_ob_tallyLongest_67 : decode prog_1_method_24_code 67 = .ok (.aload_n 0, 1) := by decide +kernel
theorem d_ob_tallyLongest_68 : decode prog_1_method_24_code 68 = .ok (.getfield 15, 3) := by decide +kernel
theorem d_ob_tallyLongest_71 : decode prog_1_method_24_code 71 = .ok (.iload_n 2, 1) := by decide +kernel
theorem d_ob_tallyLongest_72 : decode prog_1_method_24_code 72 = .ok (.aaload, 1) := by decide +kernel
theorem d_ob_tallyLongest_73 : decode prog_1_method_24_code 73 = .ok (.iload_n 3, 1) := by decide +kernel
theorem d_ob_tallyLongest_74 : decode prog_1_method_24_code 74 = .ok (.iconst 1, 1) := by decide +kernel
theorem d_ob_tallyLongest_75 : decode prog_1_method_24_code 75 = .ok (.iadd, 1) := by decide +kernel
theorem d_ob_tallyLongest_76 : decode prog_1_method_24_code 76 = .ok (.invokevirtual 111, 3) := by decide +kernel
theorem d_ob_tallyLongest_79 : decode prog_1_method_24_code 79 = .ok (.istore_n 3, 1) := by decide +kernel
theorem d_ob_tallyLongest_80 : decode prog_1_method_24_code 80 = .ok (.goto (-44), 3) := by decide +kernel
theorem d_ob_tallyLongest_83 : decode prog_1_method_24_code 83 = .ok (.iinc 1 1, 3) := by decide +kernel
theorem d_ob_tallyLongest_86 : decode prog_1_method_24_code 86 = .ok (.goto (-76), 3) := by decide +kernel
theorem d_ob_tallyLongest_89 : decode prog_1_method_24_code 89 = .ok (.return_, 1) := by decide +kernel
theorem d_ob_paths_0 : decode prog_1_method_12_code 0 = .ok (.aload_n 0, 1) := by decide +kernel
theorem d_ob_paths_1 : decode prog_1_method_12_code 1 = .ok (.iload_n 1, 1) := by decide +kernel
theorem d_ob_paths_2 : decode prog_1_method_12_code 2 = .ok (.invokevirtual 52, 3) := by decide +kernel
theorem d_ob_paths_5 : decode prog_1_method_12_code 5 = .ok (.aload_n 0, 1) := by decide +kernel
theorem d_ob_paths_6 : decode prog_1_method_12_code 6 = .ok (.iload_n 2, 1) := by decide +kernel
theorem d_ob_paths_7 : decode prog_1_method_12_code 7 = .ok (.invokevirtual 52, 3) := by decide +kernel
theorem d_ob_paths_10 : decode prog_1_method_12_code 10 = .ok (.aload_n 0, 1) := by decide +kernel
theorem d_ob_paths_11 : decode prog_1_method_12_code 11 = .ok (.invokevirtual 77, 3) := by decide +kernel
theorem d_ob_paths_14 : decode prog_1_method_12_code 14 = .ok (.aload_n 0, 1) := by decide +kernel
theorem d_ob_paths_15 : decode prog_1_method_12_code 15 = .ok (.iload_n 1, 1) := by decide +kernel
theorem d_ob_paths_16 : decode prog_1_method_12_code 16 = .ok (.invokevirtual 83, 3) := by decide +kernel
theorem d_ob_paths_19 : decode prog_1_method_12_code 19 = .ok (.aload_n 0, 1) := by decide +kernel
theorem d_ob_paths_20 : decode prog_1_method_12_code 20 = .ok (.getfield 43, 3) := by decide +kernel
theorem d_ob_paths_23 : decode prog_1_method_12_code 23 = .ok (.iload_n 2, 1) := by decide +kernel
theorem d_ob_paths_24 : decode prog_1_method_12_code 24 = .ok (.iaload, 1) := by decide +kernel
theorem d_ob_paths_25 : decode prog_1_method_12_code 25 = .ok (.ireturn, 1) := by decide +kernel
theorem d_ob_tallyPaths_0 : decode prog_1_method_25_code 0 = .ok (.aload_n 0, 1) := by decide +kernel
theorem d_ob_tallyPaths_1 : decode prog_1_method_25_code 1 = .ok (.getfield 43, 3) := by decide +kernel
theorem d_ob_tallyPaths_4 : decode prog_1_method_25_code 4 = .ok (.iconst 0, 1) := by decide +kernel
theorem d_ob_tallyPaths_5 : decode prog_1_method_25_code 5 = .ok (.invokestatic 136, 3) := by decide +kernel
theorem d_ob_tallyPaths_8 : decode prog_1_method_25_code 8 = .ok (.aload_n 0, 1) := by decide +kernel
theorem d_ob_tallyPaths_9 : decode prog_1_method_25_code 9 = .ok (.getfield 43, 3) := by decide +kernel
theorem d_ob_tallyPaths_12 : decode prog_1_method_25_code 12 = .ok (.iload_n 1, 1) := by decide +kernel
theorem d_ob_tallyPaths_13 : decode prog_1_method_25_code 13 = .ok (.iconst 1, 1) := by decide +kernel
theorem d_ob_tallyPaths_14 : decode prog_1_method_25_code 14 = .ok (.iastore, 1) := by decide +kernel
theorem d_ob_tallyPaths_15 : decode prog_1_method_25_code 15 = .ok (.iconst 0, 1) := by decide +kernel
theorem d_ob_tallyPaths_16 : decode prog_1_method_25_code 16 = .ok (.istore_n 2, 1) := by decide +kernel
theorem d_ob_tallyPaths_17 : decode prog_1_method_25_code 17 = .ok (.iload_n 2, 1) := by decide +kernel
theorem d_ob_tallyPaths_18 : decode prog_1_method_25_code 18 = .ok (.aload_n 0, 1) := by decide +kernel
theorem d_ob_tallyPaths_19 : decode prog_1_method_25_code 19 = .ok (.getfield 9, 3) := by decide +kernel
theorem d_ob_tallyPaths_22 : decode prog_1_method_25_code 22 = .ok (.if_icmp .ge 79, 3) := by decide +kernel
theorem d_ob_tallyPaths_25 : decode prog_1_method_25_code 25 = .ok (.aload_n 0, 1) := by decide +kernel
theorem d_ob_tallyPaths_26 : decode prog_1_method_25_code 26 = .ok (.getfield 36, 3) := by decide +kernel
theorem d_ob_tallyPaths_29 : decode prog_1_method_25_code 29 = .ok (.iload_n 2, 1) := by decide +kernel
theorem d_ob_tallyPaths_30 : decode prog_1_method_25_code 30 = .ok (.iaload, 1) := by decide +kernel
theorem d_ob_tallyPaths_31 : decode prog_1_method_25_code 31 = .ok (.istore_n 3, 1) := by decide +kernel
theorem d_ob_tallyPaths_32 : decode prog_1_method_25_code 32 = .ok (.aload_n 0, 1) := by decide +kernel
theorem d_ob_tallyPaths_33 : decode prog_1_method_25_code 33 = .ok (.getfield 15, 3) := by decide +kernel
theorem d_ob_tallyPaths_36 : decode prog_1_method_25_code 36 = .ok (.iload_n 3, 1) := by decide +kernel
theorem d_ob_tallyPaths_37 : decode prog_1_method_25_code 37 = .ok (.aaload, 1) := by decide +kernel
theorem d_ob_tallyPaths_38 : decode prog_1_method_25_code 38 = .ok (.iconst 0, 1) := by decide +kernel
theorem d_ob_tallyPaths_39 : decode prog_1_method_25_code 39 = .ok (.invokevirtual 111, 3) := by decide +kernel
theorem d_ob_tallyPaths_42 : decode prog_1_method_25_code 42 = .ok (.istore 4, 2) := by decide +kernel
theorem d_ob_tallyPaths_44 : decode prog_1_method_25_code 44 = .ok (.iload 4, 2) := by decide +kernel
theorem d_ob_tallyPaths_46 : decode prog_1_method_25_code 46 = .ok (.aload_n 0, 1) := by decide +kernel
theorem d_ob_tallyPaths_47 : decode prog_1_method_25_code 47 = .ok (.getfield 9, 3) := by decide +kernel
theorem d_ob_tallyPaths_50 : decode prog_1_method_25_code 50 = .ok (.if_icmp .ge 45, 3) := by decide +kernel
theorem d_ob_tallyPaths_53 : decode prog_1_method_25_code 53 = .ok (.aload_n 0, 1) := by decide +kernel
theorem d_ob_tallyPaths_54 : decode prog_1_method_25_code 54 = .ok (.getfield 43, 3) := by decide +kernel
theorem d_ob_tallyPaths_57 : decode prog_1_method_25_code 57 = .ok (.iload 4, 2) := by decide +kernel
theorem d_ob_tallyPaths_59 : decode prog_1_method_25_code 59 = .ok (.aload_n 0, 1) := by decide +kernel
theorem d_ob_tallyPaths_60 : decode prog_1_method_25_code 60 = .ok (.getfield 43, 3) := by decide +kernel
theorem d_ob_tallyPaths_63 : decode prog_1_method_25_code 63 = .ok (.iload 4, 2) := by decide +kernel
theorem d_ob_tallyPaths_65 : decode prog_1_method_25_code 65 = .ok (.iaload, 1) := by decide +kernel
theorem d_ob_tallyPaths_66 : decode prog_1_method_25_code 66 = .ok (.aload_n 0, 1) := by decide +kernel
theorem d_ob_tallyPaths_67 : decode prog_1_method_25_code 67 = .ok (.getfield 43, 3) := by decide +kernel
theorem d_ob_tallyPaths_70 : decode prog_1_method_25_code 70 = .ok (.iload_n 3, 1) := by decide +kernel
theorem d_ob_tallyPaths_71 : decode prog_1_method_25_code 71 = .ok (.iaload, 1) := by decide +kernel
theorem d_ob_tallyPaths_72 : decode prog_1_method_25_code 72 = .ok (.iadd, 1) := by decide +kernel
theorem d_ob_tallyPaths_73 : decode prog_1_method_25_code 73 = .ok (.ldc 147, 2) := by decide +kernel
theorem d_ob_tallyPaths_75 : decode prog_1_method_25_code 75 = .ok (.irem, 1) := by decide +kernel
theorem d_ob_tallyPaths_76 : decode prog_1_method_25_code 76 = .ok (.iastore, 1) := by decide +kernel
theorem d_ob_tallyPaths_77 : decode prog_1_method_25_code 77 = .ok (.aload_n 0, 1) := by decide +kernel
theorem d_ob_tallyPaths_78 : decode prog_1_method_25_code 78 = .ok (.getfield 15, 3) := by decide +kernel
theorem d_ob_tallyPaths_81 : decode prog_1_method_25_code 81 = .ok (.iload_n 3, 1) := by decide +kernel
theorem d_ob_tallyPaths_82 : decode prog_1_method_25_code 82 = .ok (.aaload, 1) := by decide +kernel
theorem d_ob_tallyPaths_83 : decode prog_1_method_25_code 83 = .ok (.iload 4, 2) := by decide +kernel
theorem d_ob_tallyPaths_85 : decode prog_1_method_25_code 85 = .ok (.iconst 1, 1) := by decide +kernel
theorem d_ob_tallyPaths_86 : decode prog_1_method_25_code 86 = .ok (.iadd, 1) := by decide +kernel
theorem d_ob_tallyPaths_87 : decode prog_1_method_25_code 87 = .ok (.invokevirtual 111, 3) := by decide +kernel
theorem d_ob_tallyPaths_90 : decode prog_1_method_25_code 90 = .ok (.istore 4, 2) := by decide +kernel
theorem d_ob_tallyPaths_92 : decode prog_1_method_25_code 92 = .ok (.goto (-48), 3) := by decide +kernel
theorem d_ob_tallyPaths_95 : decode prog_1_method_25_code 95 = .ok (.iinc 2 1, 3) := by decide +kernel
theorem d_ob_tallyPaths_98 : decode prog_1_method_25_code 98 = .ok (.goto (-81), 3) := by decide +kernel
theorem d_ob_tallyPaths_101 : decode prog_1_method_25_code 101 = .ok (.return_, 1) := by decide +kernel
theorem d_ob_gate_0 : decode prog_1_method_13_code 0 = .ok (.aload_n 0, 1) := by decide +kernel
theorem d_ob_gate_1 : decode prog_1_method_13_code 1 = .ok (.iload_n 1, 1) := by decide +kernel
theorem d_ob_gate_2 : decode prog_1_method_13_code 2 = .ok (.invokevirtual 52, 3) := by decide +kernel
theorem d_ob_gate_5 : decode prog_1_method_13_code 5 = .ok (.aload_n 0, 1) := by decide +kernel
theorem d_ob_gate_6 : decode prog_1_method_13_code 6 = .ok (.iload_n 2, 1) := by decide +kernel
theorem d_ob_gate_7 : decode prog_1_method_13_code 7 = .ok (.invokevirtual 52, 3) := by decide +kernel
theorem d_ob_gate_10 : decode prog_1_method_13_code 10 = .ok (.iload_n 1, 1) := by decide +kernel
theorem d_ob_gate_11 : decode prog_1_method_13_code 11 = .ok (.iload_n 2, 1) := by decide +kernel
theorem d_ob_gate_12 : decode prog_1_method_13_code 12 = .ok (.if_icmp .eq 18, 3) := by decide +kernel
theorem d_ob_gate_15 : decode prog_1_method_13_code 15 = .ok (.aload_n 0, 1) := by decide +kernel
theorem d_ob_gate_16 : decode prog_1_method_13_code 16 = .ok (.aload_n 0, 1) := by decide +kernel
theorem d_ob_gate_17 : decode prog_1_method_13_code 17 = .ok (.getfield 15, 3) := by decide +kernel
theorem d_ob_gate_20 : decode prog_1_method_13_code 20 = .ok (.iload_n 1, 1) := by decide +kernel
theorem d_ob_gate_21 : decode prog_1_method_13_code 21 = .ok (.iload_n 2, 1) := by decide +kernel
theorem d_ob_gate_22 : decode prog_1_method_13_code 22 = .ok (.iconst (-1), 1) := by decide +kernel
theorem d_ob_gate_23 : decode prog_1_method_13_code 23 = .ok (.invokevirtual 66, 3) := by decide +kernel
theorem d_ob_gate_26 : decode prog_1_method_13_code 26 = .ok (.iconst (-1), 1) := by decide +kernel
theorem d_ob_gate_27 : decode prog_1_method_13_code 27 = .ok (.if_icmp .ne 5, 3) := by decide +kernel
theorem d_ob_gate_30 : decode prog_1_method_13_code 30 = .ok (.iconst (-1), 1) := by decide +kernel
theorem d_ob_gate_31 : decode prog_1_method_13_code 31 = .ok (.ireturn, 1) := by decide +kernel
theorem d_ob_gate_32 : decode prog_1_method_13_code 32 = .ok (.aload_n 0, 1) := by decide +kernel
theorem d_ob_gate_33 : decode prog_1_method_13_code 33 = .ok (.iload_n 1, 1) := by decide +kernel
theorem d_ob_gate_34 : decode prog_1_method_13_code 34 = .ok (.iload_n 2, 1) := by decide +kernel
theorem d_ob_gate_35 : decode prog_1_method_13_code 35 = .ok (.invokevirtual 86, 3) := by decide +kernel
theorem d_ob_gate_38 : decode prog_1_method_13_code 38 = .ok (.ireturn, 1) := by decide +kernel
theorem d_ob_lastGate_0 : decode prog_1_method_21_code 0 = .ok (.iconst (-1), 1) := by decide +kernel
theorem d_ob_lastGate_1 : decode prog_1_method_21_code 1 = .ok (.istore_n 3, 1) := by decide +kernel
theorem d_ob_lastGate_2 : decode prog_1_method_21_code 2 = .ok (.iconst (-1), 1) := by decide +kernel
theorem d_ob_lastGate_3 : decode prog_1_method_21_code 3 = .ok (.istore 4, 2) := by decide +kernel
theorem d_ob_lastGate_5 : decode prog_1_method_21_code 5 = .ok (.iconst 0, 1) := by decide +kernel
theorem d_ob_lastGate_6 : decode prog_1_method_21_code 6 = .ok (.istore 5, 2) := by decide +kernel
theorem d_ob_lastGate_8 : decode prog_1_method_21_code 8 = .ok (.iload 5, 2) := by decide +kernel
theorem d_ob_lastGate_10 : decode prog_1_method_21_code 10 = .ok (.aload_n 0, 1) := by decide +kernel
theorem d_ob_lastGate_11 : decode prog_1_method_21_code 11 = .ok (.getfield 9, 3) := by decide +kernel
theorem d_ob_lastGate_14 : decode prog_1_method_21_code 14 = .ok (.if_icmp .ge 55, 3) := by decide +kernel
theorem d_ob_lastGate_17 : decode prog_1_method_21_code 17 = .ok (.iload 5, 2) := by decide +kernel
theorem d_ob_lastGate_19 : decode prog_1_method_21_code 19 = .ok (.iload_n 2, 1) := by decide +kernel
theorem d_ob_lastGate_20 : decode prog_1_method_21_code 20 = .ok (.if_icmp .eq 43, 3) := by decide +kernel
theorem d_ob_lastGate_23 : decode prog_1_method_21_code 23 = .ok (.aload_n 0, 1) := by decide +kernel
theorem d_ob_lastGate_24 : decode prog_1_method_21_code 24 = .ok (.aload_n 0, 1) := by decide +kernel
theorem d_ob_lastGate_25 : decode prog_1_method_21_code 25 = .ok (.getfield 15, 3) := by decide +kernel
theorem d_ob_lastGate_28 : decode prog_1_method_21_code 28 = .ok (.iload_n 1, 1) := by decide +kernel
theorem d_ob_lastGate_29 : decode prog_1_method_21_code 29 = .ok (.iload_n 2, 1) := by decide +kernel
theorem d_ob_lastGate_30 : decode prog_1_method_21_code 30 = .ok (.iload 5, 2) := by decide +kernel
theorem d_ob_lastGate_32 : decode prog_1_method_21_code 32 = .ok (.invokevirtual 66, 3) := by decide +kernel
theorem d_ob_lastGate_35 : decode prog_1_method_21_code 35 = .ok (.iconst (-1), 1) := by decide +kernel
theorem d_ob_lastGate_36 : decode prog_1_method_21_code 36 = .ok (.if_icmp .ne 27, 3) := by decide +kernel
theorem d_ob_lastGate_39 : decode prog_1_method_21_code 39 = .ok (.aload_n 0, 1) := by decide +kernel
theorem d_ob_lastGate_40 : decode prog_1_method_21_code 40 = .ok (.getfield 23, 3) := by decide +kernel
theorem d_ob_lastGate_43 : decode prog_1_method_21_code 43 = .ok (.invokevirtual 128, 3) := by decide +kernel
theorem d_ob_lastGate_46 : decode prog_1_method_21_code 46 = .ok (.iload 4, 2) := by decide +kernel
theorem d_ob_lastGate_48 : decode prog_1_method_21_code 48 = .ok (.if_icmp .le 15, 3) := by decide +kernel
theorem d_ob_lastGate_51 : decode prog_1_method_21_code 51 = .ok (.aload_n 0, 1) := by decide +kernel
theorem d_ob_lastGate_52 : decode prog_1_method_21_code 52 = .ok (.getfield 23, 3) := by decide +kernel
theorem d_ob_lastGate_55 : decode prog_1_method_21_code 55 = .ok (.invokevirtual 128, 3) := by decide +kernel
theorem d_ob_lastGate_58 : decode prog_1_method_21_code 58 = .ok (.istore 4, 2) := by decide +kernel
theorem d_ob_lastGate_60 : decode prog_1_method_21_code 60 = .ok (.iload 5, 2) := by decide +kernel
theorem d_ob_lastGate_62 : decode prog_1_method_21_code 62 = .ok (.istore_n 3, 1) := by decide +kernel
theorem d_ob_lastGate_63 : decode prog_1_method_21_code 63 = .ok (.iinc 5 1, 3) := by decide +kernel
theorem d_ob_lastGate_66 : decode prog_1_method_21_code 66 = .ok (.goto (-58), 3) := by decide +kernel
theorem d_ob_lastGate_69 : decode prog_1_method_21_code 69 = .ok (.iload_n 3, 1) := by decide +kernel
theorem d_ob_lastGate_70 : decode prog_1_method_21_code 70 = .ok (.ireturn, 1) := by decide +kernel
theorem d_ob_all_0 : decode prog_1_method_14_code 0 = .ok (.aload_n 0, 1) := by decide +kernel
theorem d_ob_all_1 : decode prog_1_method_14_code 1 = .ok (.iload_n 1, 1) := by decide +kernel
theorem d_ob_all_2 : decode prog_1_method_14_code 2 = .ok (.invokevirtual 52, 3) := by decide +kernel
theorem d_ob_all_5 : decode prog_1_method_14_code 5 = .ok (.aload_n 0, 1) := by decide +kernel
theorem d_ob_all_6 : decode prog_1_method_14_code 6 = .ok (.iload_n 2, 1) := by decide +kernel
theorem d_ob_all_7 : decode prog_1_method_14_code 7 = .ok (.invokevirtual 52, 3) := by decide +kernel
theorem d_ob_all_10 : decode prog_1_method_14_code 10 = .ok (.aload_n 0, 1) := by decide +kernel
theorem d_ob_all_11 : decode prog_1_method_14_code 11 = .ok (.iload_n 3, 1) := by decide +kernel
theorem d_ob_all_12 : decode prog_1_method_14_code 12 = .ok (.invokevirtual 52, 3) := by decide +kernel
theorem d_ob_all_15 : decode prog_1_method_14_code 15 = .ok (.aload_n 0, 1) := by decide +kernel
theorem d_ob_all_16 : decode prog_1_method_14_code 16 = .ok (.aload_n 0, 1) := by decide +kernel
theorem d_ob_all_17 : decode prog_1_method_14_code 17 = .ok (.getfield 15, 3) := by decide +kernel
theorem d_ob_all_20 : decode prog_1_method_14_code 20 = .ok (.iload_n 1, 1) := by decide +kernel
theorem d_ob_all_21 : decode prog_1_method_14_code 21 = .ok (.iload_n 2, 1) := by decide +kernel
theorem d_ob_all_22 : decode prog_1_method_14_code 22 = .ok (.iload_n 3, 1) := by decide +kernel
theorem d_ob_all_23 : decode prog_1_method_14_code 23 = .ok (.invokevirtual 66, 3) := by decide +kernel
theorem d_ob_all_26 : decode prog_1_method_14_code 26 = .ok (.iconst (-1), 1) := by decide +kernel
theorem d_ob_all_27 : decode prog_1_method_14_code 27 = .ok (.if_icmp .ne 7, 3) := by decide +kernel
theorem d_ob_all_30 : decode prog_1_method_14_code 30 = .ok (.iconst 1, 1) := by decide +kernel
theorem d_ob_all_31 : decode prog_1_method_14_code 31 = .ok (.goto 4, 3) := by decide +kernel
theorem d_ob_all_34 : decode prog_1_method_14_code 34 = .ok (.iconst 0, 1) := by decide +kernel
theorem d_ob_all_35 : decode prog_1_method_14_code 35 = .ok (.ireturn, 1) := by decide +kernel
