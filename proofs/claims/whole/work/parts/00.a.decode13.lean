theorem d_Slacks_init_0 : decode prog_8_method_1_code 0 = .ok (.aload_n 0, 1) := by decide +kernel
theorem d_Slacks_init_1 : decode prog_8_method_1_code 1 = .ok (.invokespecial 3, 3) := by decide +kernel
theorem d_Slacks_init_4 : decode prog_8_method_1_code 4 = .ok (.aload_n 0, 1) := by decide +kernel
theorem d_Slacks_init_5 : decode prog_8_method_1_code 5 = .ok (.bipush 96, 2) := by decide +kernel
theorem d_Slacks_init_7 : decode prog_8_method_1_code 7 = .ok (.newarray .int, 2) := by decide +kernel
theorem d_Slacks_init_9 : decode prog_8_method_1_code 9 = .ok (.putfield 9, 3) := by decide +kernel
theorem d_Slacks_init_12 : decode prog_8_method_1_code 12 = .ok (.aload_n 0, 1) := by decide +kernel
theorem d_Slacks_init_13 : decode prog_8_method_1_code 13 = .ok (.aload_n 1, 1) := by decide +kernel
theorem d_Slacks_init_14 : decode prog_8_method_1_code 14 = .ok (.putfield 15, 3) := by decide +kernel
theorem d_Slacks_init_17 : decode prog_8_method_1_code 17 = .ok (.aload_n 0, 1) := by decide +kernel
theorem d_Slacks_init_18 : decode prog_8_method_1_code 18 = .ok (.aload_n 2, 1) := by decide +kernel
theorem d_Slacks_init_19 : decode prog_8_method_1_code 19 = .ok (.putfield 19, 3) := by decide +kernel
theorem d_Slacks_init_22 : decode prog_8_method_1_code 22 = .ok (.aload_n 0, 1) := by decide +kernel
theorem d_Slacks_init_23 : decode prog_8_method_1_code 23 = .ok (.aload_n 3, 1) := by decide +kernel
theorem d_Slacks_init_24 : decode prog_8_method_1_code 24 = .ok (.putfield 23, 3) := by decide +kernel
theorem d_Slacks_init_27 : decode prog_8_method_1_code 27 = .ok (.aload_n 0, 1) := by decide +kernel
theorem d_Slacks_init_28 : decode prog_8_method_1_code 28 = .ok (.aload 4, 2) := by decide +kernel
theorem d_Slacks_init_30 : decode prog_8_method_1_code 30 = .ok (.putfield 27, 3) := by decide +kernel
theorem d_Slacks_init_33 : decode prog_8_method_1_code 33 = .ok (.return_, 1) := by decide +kernel
theorem d_Slacks_reckon_0 : decode prog_8_method_2_code 0 = .ok (.aload_n 0, 1) := by decide +kernel
theorem d_Slacks_reckon_1 : decode prog_8_method_2_code 1 = .ok (.getfield 9, 3) := by decide +kernel
theorem d_Slacks_reckon_4 : decode prog_8_method_2_code 4 = .ok (.ldc 31, 2) := by decide +kernel
theorem d_Slacks_reckon_6 : decode prog_8_method_2_code 6 = .ok (.invokestatic 32, 3) := by decide +kernel
theorem d_Slacks_reckon_9 : decode prog_8_method_2_code 9 = .ok (.aload_n 0, 1) := by decide +kernel
theorem d_Slacks_reckon_10 : decode prog_8_method_2_code 10 = .ok (.ldc 31, 2) := by decide +kernel
theorem d_Slacks_reckon_12 : decode prog_8_method_2_code 12 = .ok (.putfield 38, 3) := by decide +kernel
theorem d_Slacks_reckon_15 : decode prog_8_method_2_code 15 = .ok (.aload_n 0, 1) := by decide +kernel
theorem d_Slacks_reckon_16 : decode prog_8_method_2_code 16 = .ok (.ldc 31, 2) := by decide +kernel
theorem d_Slacks_reckon_18 : decode prog_8_method_2_code 18 = .ok (.putfield 42, 3) := by decide +kernel
theorem d_Slacks_reckon_21 : decode prog_8_method_2_code 21 = .ok (.aload_n 0, 1) := by decide +kernel
theorem d_Slacks_reckon_22 : decode prog_8_method_2_code 22 = .ok (.iconst 0, 1) := by decide +kernel
theorem d_Slacks_reckon_23 : decode prog_8_method_2_code 23 = .ok (.putfield 45, 3) := by decide +kernel
theorem d_Slacks_reckon_26 : decode prog_8_method_2_code 26 = .ok (.iconst 0, 1) := by decide +kernel
theorem d_Slacks_reckon_27 : decode prog_8_method_2_code 27 = .ok (.istore_n 1, 1) := by decide +kernel
theorem d_Slacks_reckon_28 : decode prog_8_method_2_code 28 = .ok (.iload_n 1, 1) := by decide +kernel
theorem d_Slacks_reckon_29 : decode prog_8_method_2_code 29 = .ok (.aload_n 0, 1) := by decide +kernel
theorem d_Slacks_reckon_30 : decode prog_8_method_2_code 30 = .ok (.getfield 15, 3) := by decide +kernel
theorem d_Slacks_reckon_33 : decode prog_8_method_2_code 33 = .ok (.getfield 48, 3) := by decide +kernel
theorem d_Slacks_reckon_36 : decode prog_8_method_2_code 36 = .ok (.if_icmp .ge 62, 3) := by decide +kernel
theorem d_Slacks_reckon_39 : decode prog_8_method_2_code 39 = .ok (.aload_n 0, 1) := by decide +kernel
theorem d_Slacks_reckon_40 : decode prog_8_method_2_code 40 = .ok (.getfield 19, 3) := by decide +kernel
theorem d_Slacks_reckon_43 : decode prog_8_method_2_code 43 = .ok (.iload_n 1, 1) := by decide +kernel
theorem d_Slacks_reckon_44 : decode prog_8_method_2_code 44 = .ok (.invokevirtual 53, 3) := by decide +kernel
theorem d_Slacks_reckon_47 : decode prog_8_method_2_code 47 = .ok (.ifCond .eq 45, 3) := by decide +kernel
theorem d_Slacks_reckon_50 : decode prog_8_method_2_code 50 = .ok (.aload_n 0, 1) := by decide +kernel
theorem d_Slacks_reckon_51 : decode prog_8_method_2_code 51 = .ok (.getfield 23, 3) := by decide +kernel
theorem d_Slacks_reckon_54 : decode prog_8_method_2_code 54 = .ok (.iload_n 1, 1) := by decide +kernel
theorem d_Slacks_reckon_55 : decode prog_8_method_2_code 55 = .ok (.aload_n 0, 1) := by decide +kernel
theorem d_Slacks_reckon_56 : decode prog_8_method_2_code 56 = .ok (.getfield 19, 3) := by decide +kernel
theorem d_Slacks_reckon_59 : decode prog_8_method_2_code 59 = .ok (.getfield 59, 3) := by decide +kernel
theorem d_Slacks_reckon_62 : decode prog_8_method_2_code 62 = .ok (.iload_n 1, 1) := by decide +kernel
theorem d_Slacks_reckon_63 : decode prog_8_method_2_code 63 = .ok (.iaload, 1) := by decide +kernel
theorem d_Slacks_reckon_64 : decode prog_8_method_2_code 64 = .ok (.invokevirtual 62, 3) := by decide +kernel
theorem d_Slacks_reckon_67 : decode prog_8_method_2_code 67 = .ok (.iconst 0, 1) := by decide +kernel
theorem d_Slacks_reckon_68 : decode prog_8_method_2_code 68 = .ok (.istore_n 2, 1) := by decide +kernel
theorem d_Slacks_reckon_69 : decode prog_8_method_2_code 69 = .ok (.iload_n 2, 1) := by decide +kernel
theorem d_Slacks_reckon_70 : decode prog_8_method_2_code 70 = .ok (.aload_n 0, 1) := by decide +kernel
theorem d_Slacks_reckon_71 : decode prog_8_method_2_code 71 = .ok (.getfield 15, 3) := by decide +kernel
theorem d_Slacks_reckon_74 : decode prog_8_method_2_code 74 = .ok (.getfield 48, 3) := by decide +kernel
theorem d_Slacks_reckon_77 : decode prog_8_method_2_code 77 = .ok (.if_icmp .ge 15, 3) := by decide +kernel
theorem d_Slacks_reckon_80 : decode prog_8_method_2_code 80 = .ok (.aload_n 0, 1) := by decide +kernel
theorem d_Slacks_reckon_81 : decode prog_8_method_2_code 81 = .ok (.iload_n 1, 1) := by decide +kernel
theorem d_Slacks_reckon_82 : decode prog_8_method_2_code 82 = .ok (.iload_n 2, 1) := by decide +kernel
theorem d_Slacks_reckon_83 : decode prog_8_method_2_code 83 = .ok (.invokevirtual 68, 3) := by decide +kernel
theorem d_Slacks_reckon_86 : decode prog_8_method_2_code 86 = .ok (.iinc 2 1, 3) := by decide +kernel
theorem d_Slacks_reckon_89 : decode prog_8_method_2_code 89 = .ok (.goto (-20), 3) := by decide +kernel
theorem d_Slacks_reckon_92 : decode prog_8_method_2_code 92 = .ok (.iinc 1 1, 3) := by decide +kernel
theorem d_Slacks_reckon_95 : decode prog_8_method_2_code 95 = .ok (.goto (-67), 3) := by decide +kernel
theorem d_Slacks_reckon_98 : decode prog_8_method_2_code 98 = .ok (.return_, 1) := by decide +kernel
theorem d_Slacks_countEnds_0 : decode prog_8_method_3_code 0 = .ok (.iconst 0, 1) := by decide +kernel
theorem d_Slacks_countEnds_1 : decode prog_8_method_3_code 1 = .ok (.istore_n 1, 1) := by decide +kernel
theorem d_Slacks_countEnds_2 : decode prog_8_method_3_code 2 = .ok (.iconst 0, 1) := by decide +kernel
theorem d_Slacks_countEnds_3 : decode prog_8_method_3_code 3 = .ok (.istore_n 2, 1) := by decide +kernel
theorem d_Slacks_countEnds_4 : decode prog_8_method_3_code 4 = .ok (.iload_n 2, 1) := by decide +kernel
theorem d_Slacks_countEnds_5 : decode prog_8_method_3_code 5 = .ok (.aload_n 0, 1) := by decide +kernel
theorem d_Slacks_countEnds_6 : decode prog_8_method_3_code 6 = .ok (.getfield 15, 3) := by decide +kernel
theorem d_Slacks_countEnds_9 : decode prog_8_method_3_code 9 = .ok (.getfield 48, 3) := by decide +kernel
theorem d_Slacks_countEnds_12 : decode prog_8_method_3_code 12 = .ok (.if_icmp .ge 27, 3) := by decide +kernel
theorem d_Slacks_countEnds_15 : decode prog_8_method_3_code 15 = .ok (.aload_n 0, 1) := by decide +kernel
theorem d_Slacks_countEnds_16 : decode prog_8_method_3_code 16 = .ok (.getfield 9, 3) := by decide +kernel
theorem d_Slacks_countEnds_19 : decode prog_8_method_3_code 19 = .ok (.iconst 2, 1) := by decide +kernel
theorem d_Slacks_countEnds_20 : decode prog_8_method_3_code 20 = .ok (.iload_n 2, 1) := by decide +kernel
theorem d_Slacks_countEnds_21 : decode prog_8_method_3_code 21 = .ok (.imul, 1) := by decide +kernel
theorem d_Slacks_countEnds_22 : decode prog_8_method_3_code 22 = .ok (.iconst 0, 1) := by decide +kernel
theorem d_Slacks_countEnds_23 : decode prog_8_method_3_code 23 = .ok (.iadd, 1) := by decide +kernel
theorem d_Slacks_countEnds_24 : decode prog_8_method_3_code 24 = .ok (.iaload, 1) := by decide +kernel
theorem d_Slacks_countEnds_25 : decode prog_8_method_3_code 25 = .ok (.ldc 31, 2) := by decide +kernel
theorem d_Slacks_countEnds_27 : decode prog_8_method_3_code 27 = .ok (.if_icmp .eq 6, 3) := by decide +kernel
theorem d_Slacks_countEnds_30 : decode prog_8_method_3_code 30 = .ok (.iinc 1 1, 3) := by decide +kernel
theorem d_Slacks_countEnds_33 : decode prog_8_method_3_code 33 = .ok (.iinc 2 1, 3) := by decide +kernel
theorem d_Slacks_countEnds_36 : decode prog_8_method_3_code 36 = .ok (.goto (-32), 3) := by decide +kernel
theorem d_Slacks_countEnds_39 : decode prog_8_method_3_code 39 = .ok (.iload_n 1, 1) := by decide +kernel
theorem d_Slacks_countEnds_40 : decode prog_8_method_3_code 40 = .ok (.ireturn, 1) := by decide +kernel
theorem d_Slacks_leastAt_0 : decode prog_8_method_4_code 0 = .ok (.aload_n 0, 1) := by decide +kernel
theorem d_Slacks_leastAt_1 : decode prog_8_method_4_code 1 = .ok (.getfield 9, 3) := by decide +kernel
theorem d_Slacks_leastAt_4 : decode prog_8_method_4_code 4 = .ok (.iconst 2, 1) := by decide +kernel
theorem d_Slacks_leastAt_5 : decode prog_8_method_4_code 5 = .ok (.iload_n 1, 1) := by decide +kernel
theorem d_Slacks_leastAt_6 : decode prog_8_method_4_code 6 = .ok (.imul, 1) := by decide +kernel
theorem d_Slacks_leastAt_7 : decode prog_8_method_4_code 7 = .ok (.iload_n 2, 1) := by decide +kernel
theorem d_Slacks_leastAt_8 : decode prog_8_method_4_code 8 = .ok (.iadd, 1) := by decide +kernel
theorem d_Slacks_leastAt_9 : decode prog_8_method_4_code 9 = .ok (.iaload, 1) := by decide +kernel
theorem d_Slacks_leastAt_10 : decode prog_8_method_4_code 10 = .ok (.istore_n 3, 1) := by decide +kernel
theorem d_Slacks_leastAt_11 : decode prog_8_method_4_code 11 = .ok (.iload_n 3, 1) := by decide +kernel
theorem d_Slacks_leastAt_12 : decode prog_8_method_4_code 12 = .ok (.ldc 31, 2) := by decide +kernel
theorem d_Slacks_leastAt_14 : decode prog_8_method_4_code 14 = .ok (.if_icmp .ne 8, 3) := by decide +kernel
theorem d_Slacks_leastAt_17 : decode prog_8_method_4_code 17 = .ok (.ldc 71, 2) := by decide +kernel
theorem d_Slacks_leastAt_19 : decode prog_8_method_4_code 19 = .ok (.goto 4, 3) := by decide +kernel
theorem d_Slacks_leastAt_22 : decode prog_8_method_4_code 22 = .ok (.iload_n 3, 1) := by decide +kernel
theorem d_Slacks_leastAt_23 : decode prog_8_method_4_code 23 = .ok (.ireturn, 1) := by decide +kernel
theorem d_Slacks_leastOfAll_0 : decode prog_8_method_5_code 0 = .ok (.ldc 31, 2) := by decide +kernel
theorem d_Slacks_leastOfAll_2 : decode prog_8_method_5_code 2 = .ok (.istore_n 2, 1) := by decide +kernel
theorem d_Slacks_leastOfAll_3 : decode prog_8_method_5_code 3 = .ok (.iconst 0, 1) := by decide +kernel
theorem d_Slacks_leastOfAll_4 : decode prog_8_method_5_code 4 = .ok (.istore_n 3, 1) := by decide +kernel
theorem d_Slacks_leastOfAll_5 : decode prog_8_method_5_code 5 = .ok (.iload_n 3, 1) := by decide +kernel
theorem d_Slacks_leastOfAll_6 : decode prog_8_method_5_code 6 = .ok (.aload_n 0, 1) := by decide +kernel
theorem d_Slacks_leastOfAll_7 : decode prog_8_method_5_code 7 = .ok (.getfield 15, 3) := by decide +kernel
theorem d_Slacks_leastOfAll_10 : decode prog_8_method_5_code 10 = .ok (.getfield 48, 3) := by decide +kernel
theorem d_Slacks_leastOfAll_13 : decode prog_8_method_5_code 13 = .ok (.if_icmp .ge 24, 3) := by decide +kernel
theorem d_Slacks_leastOfAll_16 : decode prog_8_method_5_code 16 = .ok (.iload_n 2, 1) := by decide +kernel
theorem d_Slacks_leastOfAll_17 : decode prog_8_method_5_code 17 = .ok (.aload_n 0, 1) := by decide +kernel
theorem d_Slacks_leastOfAll_18 : decode prog_8_method_5_code 18 = .ok (.getfield 9, 3) := by decide +kernel
theorem d_Slacks_leastOfAll_21 : decode prog_8_method_5_code 21 = .ok (.iconst 2, 1) := by decide +kernel
theorem d_Slacks_leastOfAll_22 : decode prog_8_method_5_code 22 = .ok (.iload_n 3, 1) := by decide +kernel
theorem d_Slacks_leastOfAll_23 : decode prog_8_method_5_code 23 = .ok (.imul, 1) := by decide +kernel
theorem d_Slacks_leastOfAll_24 : decode prog_8_method_5_code 24 = .ok (.iload_n 1, 1) := by decide +kernel
theorem d_Slacks_leastOfAll_25 : decode prog_8_method_5_code 25 = .ok (.iadd, 1) := by decide +kernel
theorem d_Slacks_leastOfAll_26 : decode prog_8_method_5_code 26 = .ok (.iaload, 1) := by decide +kernel
theorem d_Slacks_leastOfAll_27 : decode prog_8_method_5_code 27 = .ok (.invokestatic 72, 3) := by decide +kernel
theorem d_Slacks_leastOfAll_30 : decode prog_8_method_5_code 30 = .ok (.istore_n 2, 1) := by decide +kernel
theorem d_Slacks_leastOfAll_31 : decode prog_8_method_5_code 31 = .ok (.iinc 3 1, 3) := by decide +kernel
theorem d_Slacks_leastOfAll_34 : decode prog_8_method_5_code 34 = .ok (.goto (-29), 3) := by decide +kernel
theorem d_Slacks_leastOfAll_37 : decode prog_8_method_5_code 37 = .ok (.iload_n 2, 1) := by decide +kernel
theorem d_Slacks_leastOfAll_38 : decode prog_8_method_5_code 38 = .ok (.ldc 31, 2) := by decide +kernel
theorem d_Slacks_leastOfAll_40 : decode prog_8_method_5_code 40 = .ok (.if_icmp .ne 8, 3) := by decide +kernel
theorem d_Slacks_leastOfAll_43 : decode prog_8_method_5_code 43 = .ok (.ldc 71, 2) := by decide +kernel
theorem d_Slacks_leastOfAll_45 : decode prog_8_method_5_code 45 = .ok (.goto 4, 3) := by decide +kernel
theorem d_Slacks_leastOfAll_48 : decode prog_8_method_5_code 48 = .ok (.iload_n 2, 1) := by decide +kernel
theorem d_Slacks_leastOfAll_49 : decode prog_8_method_5_code 49 = .ok (.ireturn, 1) := by decide +kernel
theorem d_Slacks_sumBelowZero_0 : decode prog_8_method_6_code 0 = .ok (.iconst 0, 1) := by decide +kernel
theorem d_Slacks_sumBelowZero_1 : decode prog_8_method_6_code 1 = .ok (.istore_n 2, 1) := by decide +kernel
theorem d_Slacks_sumBelowZero_2 : decode prog_8_method_6_code 2 = .ok (.iconst 0, 1) := by decide +kernel
theorem d_Slacks_sumBelowZero_3 : decode prog_8_method_6_code 3 = .ok (.istore_n 3, 1) := by decide +kernel
theorem d_Slacks_sumBelowZero_4 : decode prog_8_method_6_code 4 = .ok (.iload_n 3, 1) := by decide +kernel
theorem d_Slacks_sumBelowZero_5 : decode prog_8_method_6_code 5 = .ok (.aload_n 0, 1) := by decide +kernel
theorem d_Slacks_sumBelowZero_6 : decode prog_8_method_6_code 6 = .ok (.getfield 15, 3) := by decide +kernel
theorem d_Slacks_sumBelowZero_9 : decode prog_8_method_6_code 9 = .ok (.getfield 48, 3) := by decide +kernel
theorem d_Slacks_sumBelowZero_12 : decode prog_8_method_6_code 12 = .ok (.if_icmp .ge 26, 3) := by decide +kernel
theorem d_Slacks_sumBelowZero_15 : decode prog_8_method_6_code 15 = .ok (.iload_n 2, 1) := by decide +kernel
theorem d_Slacks_sumBelowZero_16 : decode prog_8_method_6_code 16 = .ok (.iconst 0, 1) := by decide +kernel
theorem d_Slacks_sumBelowZero_17 : decode prog_8_method_6_code 17 = .ok (.aload_n 0, 1) := by decide +kernel
theorem d_Slacks_sumBelowZero_18 : decode prog_8_method_6_code 18 = .ok (.getfield 9, 3) := by decide +kernel
theorem d_Slacks_sumBelowZero_21 : decode prog_8_method_6_code 21 = .ok (.iconst 2, 1) := by decide +kernel
theorem d_Slacks_sumBelowZero_22 : decode prog_8_method_6_code 22 = .ok (.iload_n 3, 1) := by decide +kernel
theorem d_Slacks_sumBelowZero_23 : decode prog_8_method_6_code 23 = .ok (.imul, 1) := by decide +kernel
theorem d_Slacks_sumBelowZero_24 : decode prog_8_method_6_code 24 = .ok (.iload_n 1, 1) := by decide +kernel
theorem d_Slacks_sumBelowZero_25 : decode prog_8_method_6_code 25 = .ok (.iadd, 1) := by decide +kernel
theorem d_Slacks_sumBelowZero_26 : decode prog_8_method_6_code 26 = .ok (.iaload, 1) := by decide +kernel
theorem d_Slacks_sumBelowZero_27 : decode prog_8_method_6_code 27 = .ok (.invokestatic 72, 3) := by decide +kernel
theorem d_Slacks_sumBelowZero_30 : decode prog_8_method_6_code 30 = .ok (.iadd, 1) := by decide +kernel
theorem d_Slacks_sumBelowZero_31 : decode prog_8_method_6_code 31 = .ok (.istore_n 2, 1) := by decide +kernel
theorem d_Slacks_sumBelowZero_32 : decode prog_8_method_6_code 32 = .ok (.iinc 3 1, 3) := by decide +kernel
theorem d_Slacks_sumBelowZero_35 : decode prog_8_method_6_code 35 = .ok (.goto (-31), 3) := by decide +kernel
theorem d_Slacks_sumBelowZero_38 : decode prog_8_method_6_code 38 = .ok (.iload_n 2, 1) := by decide +kernel
theorem d_Slacks_sumBelowZero_39 : decode prog_8_method_6_code 39 = .ok (.ireturn, 1) := by decide +kernel
theorem d_Slacks_leastPeriodKept_0 : decode prog_8_method_7_code 0 = .ok (.aload_n 0, 1) := by decide +kernel
theorem d_Slacks_leastPeriodKept_1 : decode prog_8_method_7_code 1 = .ok (.getfield 15, 3) := by decide +kernel
theorem d_Slacks_leastPeriodKept_4 : decode prog_8_method_7_code 4 = .ok (.getfield 78, 3) := by decide +kernel
theorem d_Slacks_leastPeriodKept_7 : decode prog_8_method_7_code 7 = .ok (.iconst 1, 1) := by decide +kernel
theorem d_Slacks_leastPeriodKept_8 : decode prog_8_method_7_code 8 = .ok (.iadd, 1) := by decide +kernel
theorem d_Slacks_leastPeriodKept_9 : decode prog_8_method_7_code 9 = .ok (.aload_n 0, 1) := by decide +kernel
theorem d_Slacks_leastPeriodKept_10 : decode prog_8_method_7_code 10 = .ok (.getfield 15, 3) := by decide +kernel
theorem d_Slacks_leastPeriodKept_13 : decode prog_8_method_7_code 13 = .ok (.getfield 81, 3) := by decide +kernel
theorem d_Slacks_leastPeriodKept_16 : decode prog_8_method_7_code 16 = .ok (.aload_n 0, 1) := by decide +kernel
theorem d_Slacks_leastPeriodKept_17 : decode prog_8_method_7_code 17 = .ok (.getfield 38, 3) := by decide +kernel
theorem d_Slacks_leastPeriodKept_20 : decode prog_8_method_7_code 20 = .ok (.isub, 1) := by decide +kernel
theorem d_Slacks_leastPeriodKept_21 : decode prog_8_method_7_code 21 = .ok (.invokestatic 84, 3) := by decide +kernel
theorem d_Slacks_leastPeriodKept_24 : decode prog_8_method_7_code 24 = .ok (.istore_n 1, 1) := by decide +kernel
theorem d_Slacks_leastPeriodKept_25 : decode prog_8_method_7_code 25 = .ok (.aload_n 0, 1) := by decide +kernel
theorem d_Slacks_leastPeriodKept_26 : decode prog_8_method_7_code 26 = .ok (.getfield 42, 3) := by decide +kernel
theorem d_Slacks_leastPeriodKept_29 : decode prog_8_method_7_code 29 = .ok (.ifCond .lt 9, 3) := by decide +kernel
theorem d_Slacks_leastPeriodKept_32 : decode prog_8_method_7_code 32 = .ok (.iload_n 1, 1) := by decide +kernel
theorem d_Slacks_leastPeriodKept_33 : decode prog_8_method_7_code 33 = .ok (.ldc 87, 2) := by decide +kernel
theorem d_Slacks_leastPeriodKept_35 : decode prog_8_method_7_code 35 = .ok (.if_icmp .le 8, 3) := by decide +kernel
theorem d_Slacks_leastPeriodKept_38 : decode prog_8_method_7_code 38 = .ok (.ldc 71, 2) := by decide +kernel
theorem d_Slacks_leastPeriodKept_40 : decode prog_8_method_7_code 40 = .ok (.goto 4, 3) := by decide +kernel
theorem d_Slacks_leastPeriodKept_43 : decode prog_8_method_7_code 43 = .ok (.iload_n 1, 1) := by decide +kernel
theorem d_Slacks_leastPeriodKept_44 : decode prog_8_method_7_code 44 = .ok (.ireturn, 1) := by decide +kernel
theorem d_Slacks_reckonPair_0 : decode prog_8_method_8_code 0 = .ok (.aload_n 0, 1) := by decide +kernel
theorem d_Slacks_reckonPair_1 : decode prog_8_method_8_code 1 = .ok (.getfield 19, 3) := by decide +kernel
theorem d_Slacks_reckonPair_4 : decode prog_8_method_8_code 4 = .ok (.iload_n 2, 1) := by decide +kernel
theorem d_Slacks_reckonPair_5 : decode prog_8_method_8_code 5 = .ok (.invokevirtual 88, 3) := by decide +kernel
theorem d_Slacks_reckonPair_8 : decode prog_8_method_8_code 8 = .ok (.ifCond .ne 4, 3) := by decide +kernel
theorem d_Slacks_reckonPair_11 : decode prog_8_method_8_code 11 = .ok (.return_, 1) := by decide +kernel
theorem d_Slacks_reckonPair_12 : decode prog_8_method_8_code 12 = .ok (.iload_n 2, 1) := by decide +kernel
theorem d_Slacks_reckonPair_13 : decode prog_8_method_8_code 13 = .ok (.iconst 3, 1) := by decide +kernel
theorem d_Slacks_reckonPair_14 : decode prog_8_method_8_code 14 = .ok (.imul, 1) := by decide +kernel
theorem d_Slacks_reckonPair_15 : decode prog_8_method_8_code 15 = .ok (.iconst 0, 1) := by decide +kernel
theorem d_Slacks_reckonPair_16 : decode prog_8_method_8_code 16 = .ok (.iadd, 1) := by decide +kernel
theorem d_Slacks_reckonPair_17 : decode prog_8_method_8_code 17 = .ok (.istore_n 3, 1) := by decide +kernel
theorem d_Slacks_reckonPair_18 : decode prog_8_method_8_code 18 = .ok (.ldc 91, 2) := by decide +kernel
theorem d_Slacks_reckonPair_20 : decode prog_8_method_8_code 20 = .ok (.istore 4, 2) := by decide +kernel
theorem d_Slacks_reckonPair_22 : decode prog_8_method_8_code 22 = .ok (.ldc 31, 2) := by decide +kernel
theorem d_Slacks_reckonPair_24 : decode prog_8_method_8_code 24 = .ok (.istore 5, 2) := by decide +kernel
theorem d_Slacks_reckonPair_26 : decode prog_8_method_8_code 26 = .ok (.iconst 0, 1) := by decide +kernel
theorem d_Slacks_reckonPair_27 : decode prog_8_method_8_code 27 = .ok (.istore 6, 2) := by decide +kernel
theorem d_Slacks_reckonPair_29 : decode prog_8_method_8_code 29 = .ok (.iconst 0, 1) := by decide +kernel
theorem d_Slacks_reckonPair_30 : decode prog_8_method_8_code 30 = .ok (.istore 7, 2) := by decide +kernel
theorem d_Slacks_reckonPair_32 : decode prog_8_method_8_code 32 = .ok (.iload 7, 2) := by decide +kernel
theorem d_Slacks_reckonPair_34 : decode prog_8_method_8_code 34 = .ok (.iconst 2, 1) := by decide +kernel
theorem d_Slacks_reckonPair_35 : decode prog_8_method_8_code 35 = .ok (.if_icmp .ge 137, 3) := by decide +kernel
theorem d_Slacks_reckonPair_38 : decode prog_8_method_8_code 38 = .ok (.iconst 2, 1) := by decide +kernel
theorem d_Slacks_reckonPair_39 : decode prog_8_method_8_code 39 = .ok (.aload_n 0, 1) := by decide +kernel
theorem d_Slacks_reckonPair_40 : decode prog_8_method_8_code 40 = .ok (.getfield 15, 3) := by decide +kernel
theorem d_Slacks_reckonPair_43 : decode prog_8_method_8_code 43 = .ok (.getfield 92, 3) := by decide +kernel
theorem d_Slacks_reckonPair_46 : decode prog_8_method_8_code 46 = .ok (.iload_n 3, 1) := by decide +kernel
theorem d_Slacks_reckonPair_47 : decode prog_8_method_8_code 47 = .ok (.iaload, 1) := by decide +kernel
theorem d_Slacks_reckonPair_48 : decode prog_8_method_8_code 48 = .ok (.imul, 1) := by decide +kernel
theorem d_Slacks_reckonPair_49 : decode prog_8_method_8_code 49 = .ok (.iload 7, 2) := by decide +kernel
theorem d_Slacks_reckonPair_51 : decode prog_8_method_8_code 51 = .ok (.iadd, 1) := by decide +kernel
theorem d_Slacks_reckonPair_52 : decode prog_8_method_8_code 52 = .ok (.istore 8, 2) := by decide +kernel
theorem d_Slacks_reckonPair_54 : decode prog_8_method_8_code 54 = .ok (.iconst 2, 1) := by decide +kernel
theorem d_Slacks_reckonPair_55 : decode prog_8_method_8_code 55 = .ok (.iload_n 2, 1) := by decide +kernel
theorem d_Slacks_reckonPair_56 : decode prog_8_method_8_code 56 = .ok (.imul, 1) := by decide +kernel
theorem d_Slacks_reckonPair_57 : decode prog_8_method_8_code 57 = .ok (.iload 7, 2) := by decide +kernel
theorem d_Slacks_reckonPair_59 : decode prog_8_method_8_code 59 = .ok (.iadd, 1) := by decide +kernel
theorem d_Slacks_reckonPair_60 : decode prog_8_method_8_code 60 = .ok (.istore 9, 2) := by decide +kernel
theorem d_Slacks_reckonPair_62 : decode prog_8_method_8_code 62 = .ok (.aload_n 0, 1) := by decide +kernel
theorem d_Slacks_reckonPair_63 : decode prog_8_method_8_code 63 = .ok (.getfield 23, 3) := by decide +kernel
theorem d_Slacks_reckonPair_66 : decode prog_8_method_8_code 66 = .ok (.getfield 95, 3) := by decide +kernel
theorem d_Slacks_reckonPair_69 : decode prog_8_method_8_code 69 = .ok (.iload 8, 2) := by decide +kernel
theorem d_Slacks_reckonPair_71 : decode prog_8_method_8_code 71 = .ok (.iaload, 1) := by decide +kernel
theorem d_Slacks_reckonPair_72 : decode prog_8_method_8_code 72 = .ok (.ifCond .le 94, 3) := by decide +kernel
theorem d_Slacks_reckonPair_75 : decode prog_8_method_8_code 75 = .ok (.iload 6, 2) := by decide +kernel
theorem d_Slacks_reckonPair_77 : decode prog_8_method_8_code 77 = .ok (.aload_n 0, 1) := by decide +kernel
theorem d_Slacks_reckonPair_78 : decode prog_8_method_8_code 78 = .ok (.getfield 23, 3) := by decide +kernel
theorem d_Slacks_reckonPair_81 : decode prog_8_method_8_code 81 = .ok (.getfield 95, 3) := by decide +kernel
theorem d_Slacks_reckonPair_84 : decode prog_8_method_8_code 84 = .ok (.iload 8, 2) := by decide +kernel
theorem d_Slacks_reckonPair_86 : decode prog_8_method_8_code 86 = .ok (.iaload, 1) := by decide +kernel
theorem d_Slacks_reckonPair_87 : decode prog_8_method_8_code 87 = .ok (.iadd, 1) := by decide +kernel
theorem d_Slacks_reckonPair_88 : decode prog_8_method_8_code 88 = .ok (.istore 6, 2) := by decide +kernel
theorem d_Slacks_reckonPair_90 : decode prog_8_method_8_code 90 = .ok (.iload 4, 2) := by decide +kernel
theorem d_Slacks_reckonPair_92 : decode prog_8_method_8_code 92 = .ok (.aload_n 0, 1) := by decide +kernel
theorem d_Slacks_reckonPair_93 : decode prog_8_method_8_code 93 = .ok (.getfield 23, 3) := by decide +kernel
theorem d_Slacks_reckonPair_96 : decode prog_8_method_8_code 96 = .ok (.getfield 96, 3) := by decide +kernel
theorem d_Slacks_reckonPair_99 : decode prog_8_method_8_code 99 = .ok (.iload 8, 2) := by decide +kernel
theorem d_Slacks_reckonPair_101 : decode prog_8_method_8_code 101 = .ok (.iaload, 1) := by decide +kernel
theorem d_Slacks_reckonPair_102 : decode prog_8_method_8_code 102 = .ok (.aload_n 0, 1) := by decide +kernel
theorem d_Slacks_reckonPair_103 : decode prog_8_method_8_code 103 = .ok (.getfield 15, 3) := by decide +kernel
theorem d_Slacks_reckonPair_106 : decode prog_8_method_8_code 106 = .ok (.getfield 99, 3) := by decide +kernel
theorem d_Slacks_reckonPair_109 : decode prog_8_method_8_code 109 = .ok (.iload_n 3, 1) := by decide +kernel
theorem d_Slacks_reckonPair_110 : decode prog_8_method_8_code 110 = .ok (.iaload, 1) := by decide +kernel
theorem d_Slacks_reckonPair_111 : decode prog_8_method_8_code 111 = .ok (.iadd, 1) := by decide +kernel
theorem d_Slacks_reckonPair_112 : decode prog_8_method_8_code 112 = .ok (.aload_n 0, 1) := by decide +kernel
theorem d_Slacks_reckonPair_113 : decode prog_8_method_8_code 113 = .ok (.getfield 15, 3) := by decide +kernel
theorem d_Slacks_reckonPair_116 : decode prog_8_method_8_code 116 = .ok (.getfield 102, 3) := by decide +kernel
theorem d_Slacks_reckonPair_119 : decode prog_8_method_8_code 119 = .ok (.iload 9, 2) := by decide +kernel
theorem d_Slacks_reckonPair_121 : decode prog_8_method_8_code 121 = .ok (.iaload, 1) := by decide +kernel
theorem d_Slacks_reckonPair_122 : decode prog_8_method_8_code 122 = .ok (.iadd, 1) := by decide +kernel
theorem d_Slacks_reckonPair_123 : decode prog_8_method_8_code 123 = .ok (.invokestatic 84, 3) := by decide +kernel
theorem d_Slacks_reckonPair_126 : decode prog_8_method_8_code 126 = .ok (.istore 4, 2) := by decide +kernel
theorem d_Slacks_reckonPair_128 : decode prog_8_method_8_code 128 = .ok (.iload 5, 2) := by decide +kernel
theorem d_Slacks_reckonPair_130 : decode prog_8_method_8_code 130 = .ok (.aload_n 0, 1) := by decide +kernel
theorem d_Slacks_reckonPair_131 : decode prog_8_method_8_code 131 = .ok (.getfield 23, 3) := by decide +kernel
theorem d_Slacks_reckonPair_134 : decode prog_8_method_8_code 134 = .ok (.getfield 105, 3) := by decide +kernel
theorem d_Slacks_reckonPair_137 : decode prog_8_method_8_code 137 = .ok (.iload 8, 2) := by decide +kernel
theorem d_Slacks_reckonPair_139 : decode prog_8_method_8_code 139 = .ok (.iaload, 1) := by decide +kernel
theorem d_Slacks_reckonPair_140 : decode prog_8_method_8_code 140 = .ok (.aload_n 0, 1) := by decide +kernel
theorem d_Slacks_reckonPair_141 : decode prog_8_method_8_code 141 = .ok (.getfield 15, 3) := by decide +kernel
theorem d_Slacks_reckonPair_144 : decode prog_8_method_8_code 144 = .ok (.getfield 108, 3) := by decide +kernel
theorem d_Slacks_reckonPair_147 : decode prog_8_method_8_code 147 = .ok (.iload_n 3, 1) := by decide +kernel
theorem d_Slacks_reckonPair_148 : decode prog_8_method_8_code 148 = .ok (.iaload, 1) := by decide +kernel
theorem d_Slacks_reckonPair_149 : decode prog_8_method_8_code 149 = .ok (.iadd, 1) := by decide +kernel
theorem d_Slacks_reckonPair_150 : decode prog_8_method_8_code 150 = .ok (.aload_n 0, 1) := by decide +kernel
theorem d_Slacks_reckonPair_151 : decode prog_8_method_8_code 151 = .ok (.getfield 15, 3) := by decide +kernel
theorem d_Slacks_reckonPair_154 : decode prog_8_method_8_code 154 = .ok (.getfield 111, 3) := by decide +kernel
theorem d_Slacks_reckonPair_157 : decode prog_8_method_8_code 157 = .ok (.iload 9, 2) := by decide +kernel
theorem d_Slacks_reckonPair_159 : decode prog_8_method_8_code 159 = .ok (.iaload, 1) := by decide +kernel
theorem d_Slacks_reckonPair_160 : decode prog_8_method_8_code 160 = .ok (.isub, 1) := by decide +kernel
theorem d_Slacks_reckonPair_161 : decode prog_8_method_8_code 161 = .ok (.invokestatic 72, 3) := by decide +kernel
theorem d_Slacks_reckonPair_164 : decode prog_8_method_8_code 164 = .ok (.istore 5, 2) := by decide +kernel
theorem d_Slacks_reckonPair_166 : decode prog_8_method_8_code 166 = .ok (.iinc 7 1, 3) := by decide +kernel
theorem d_Slacks_reckonPair_169 : decode prog_8_method_8_code 169 = .ok (.goto (-137), 3) := by decide +kernel
theorem d_Slacks_reckonPair_172 : decode prog_8_method_8_code 172 = .ok (.iload 6, 2) := by decide +kernel
theorem d_Slacks_reckonPair_174 : decode prog_8_method_8_code 174 = .ok (.ifCond .le 48, 3) := by decide +kernel
theorem d_Slacks_reckonPair_177 : decode prog_8_method_8_code 177 = .ok (.aload_n 0, 1) := by decide +kernel
theorem d_Slacks_reckonPair_178 : decode prog_8_method_8_code 178 = .ok (.aload_n 0, 1) := by decide +kernel
theorem d_Slacks_reckonPair_179 : decode prog_8_method_8_code 179 = .ok (.getfield 45, 3) := by decide +kernel
theorem d_Slacks_reckonPair_182 : decode prog_8_method_8_code 182 = .ok (.iload 6, 2) := by decide +kernel
theorem d_Slacks_reckonPair_184 : decode prog_8_method_8_code 184 = .ok (.aload_n 0, 1) := by decide +kernel
theorem d_Slacks_reckonPair_185 : decode prog_8_method_8_code 185 = .ok (.getfield 19, 3) := by decide +kernel
theorem d_Slacks_reckonPair_188 : decode prog_8_method_8_code 188 = .ok (.getfield 59, 3) := by decide +kernel
theorem d_Slacks_reckonPair_191 : decode prog_8_method_8_code 191 = .ok (.iload_n 2, 1) := by decide +kernel
theorem d_Slacks_reckonPair_192 : decode prog_8_method_8_code 192 = .ok (.iaload, 1) := by decide +kernel
theorem d_Slacks_reckonPair_193 : decode prog_8_method_8_code 193 = .ok (.imul, 1) := by decide +kernel
theorem d_Slacks_reckonPair_194 : decode prog_8_method_8_code 194 = .ok (.iadd, 1) := by decide +kernel
theorem d_Slacks_reckonPair_195 : decode prog_8_method_8_code 195 = .ok (.sipush 4001, 3) := by decide +kernel
theorem d_Slacks_reckonPair_198 : decode prog_8_method_8_code 198 = .ok (.invokestatic 72, 3) := by decide +kernel
theorem d_Slacks_reckonPair_201 : decode prog_8_method_8_code 201 = .ok (.putfield 45, 3) := by decide +kernel
theorem d_Slacks_reckonPair_204 : decode prog_8_method_8_code 204 = .ok (.aload_n 0, 1) := by decide +kernel
theorem d_Slacks_reckonPair_205 : decode prog_8_method_8_code 205 = .ok (.getfield 27, 3) := by decide +kernel
theorem d_Slacks_reckonPair_208 : decode prog_8_method_8_code 208 = .ok (.iload_n 1, 1) := by decide +kernel
theorem d_Slacks_reckonPair_209 : decode prog_8_method_8_code 209 = .ok (.iload_n 2, 1) := by decide +kernel
theorem d_Slacks_reckonPair_210 : decode prog_8_method_8_code 210 = .ok (.invokevirtual 114, 3) := by decide +kernel
theorem d_Slacks_reckonPair_213 : decode prog_8_method_8_code 213 = .ok (.aload_n 0, 1) := by decide +kernel
theorem d_Slacks_reckonPair_214 : decode prog_8_method_8_code 214 = .ok (.iload_n 2, 1) := by decide +kernel
theorem d_Slacks_reckonPair_215 : decode prog_8_method_8_code 215 = .ok (.iload 4, 2) := by decide +kernel
theorem d_Slacks_reckonPair_217 : decode prog_8_method_8_code 217 = .ok (.iload 5, 2) := by decide +kernel
theorem d_Slacks_reckonPair_219 : decode prog_8_method_8_code 219 = .ok (.invokevirtual 119, 3) := by decide +kernel
theorem d_Slacks_reckonPair_222 : decode prog_8_method_8_code 222 = .ok (.return_, 1) := by decide +kernel
theorem d_Slacks_keepLeast_0 : decode prog_8_method_9_code 0 = .ok (.aload_n 0, 1) := by decide +kernel
theorem d_Slacks_keepLeast_1 : decode prog_8_method_9_code 1 = .ok (.getfield 27, 3) := by decide +kernel
theorem d_Slacks_keepLeast_4 : decode prog_8_method_9_code 4 = .ok (.getfield 123, 3) := by decide +kernel
theorem d_Slacks_keepLeast_7 : decode prog_8_method_9_code 7 = .ok (.aload_n 0, 1) := by decide +kernel
theorem d_Slacks_keepLeast_8 : decode prog_8_method_9_code 8 = .ok (.getfield 27, 3) := by decide +kernel
theorem d_Slacks_keepLeast_11 : decode prog_8_method_9_code 11 = .ok (.getfield 124, 3) := by decide +kernel
theorem d_Slacks_keepLeast_14 : decode prog_8_method_9_code 14 = .ok (.invokestatic 72, 3) := by decide +kernel
theorem d_Slacks_keepLeast_17 : decode prog_8_method_9_code 17 = .ok (.istore 4, 2) := by decide +kernel
theorem d_Slacks_keepLeast_19 : decode prog_8_method_9_code 19 = .ok (.aload_n 0, 1) := by decide +kernel
theorem d_Slacks_keepLeast_20 : decode prog_8_method_9_code 20 = .ok (.getfield 9, 3) := by decide +kernel
theorem d_Slacks_keepLeast_23 : decode prog_8_method_9_code 23 = .ok (.iconst 2, 1) := by decide +kernel
theorem d_Slacks_keepLeast_24 : decode prog_8_method_9_code 24 = .ok (.iload_n 1, 1) := by decide +kernel
theorem d_Slacks_keepLeast_25 : decode prog_8_method_9_code 25 = .ok (.imul, 1) := by decide +kernel
theorem d_Slacks_keepLeast_26 : decode prog_8_method_9_code 26 = .ok (.iconst 0, 1) := by decide +kernel
theorem d_Slacks_keepLeast_27 : decode prog_8_method_9_code 27 = .ok (.iadd, 1) := by decide +kernel
theorem d_Slacks_keepLeast_28 : decode prog_8_method_9_code 28 = .ok (.aload_n 0, 1) := by decide +kernel
theorem d_Slacks_keepLeast_29 : decode prog_8_method_9_code 29 = .ok (.getfield 9, 3) := by decide +kernel
theorem d_Slacks_keepLeast_32 : decode prog_8_method_9_code 32 = .ok (.iconst 2, 1) := by decide +kernel
theorem d_Slacks_keepLeast_33 : decode prog_8_method_9_code 33 = .ok (.iload_n 1, 1) := by decide +kernel
theorem d_Slacks_keepLeast_34 : decode prog_8_method_9_code 34 = .ok (.imul, 1) := by decide +kernel
theorem d_Slacks_keepLeast_35 : decode prog_8_method_9_code 35 = .ok (.iconst 0, 1) := by decide +kernel
theorem d_Slacks_keepLeast_36 : decode prog_8_method_9_code 36 = .ok (.iadd, 1) := by decide +kernel
theorem d_Slacks_keepLeast_37 : decode prog_8_method_9_code 37 = .ok (.iaload, 1) := by decide +kernel
theorem d_Slacks_keepLeast_38 : decode prog_8_method_9_code 38 = .ok (.iload 4, 2) := by decide +kernel
theorem d_Slacks_keepLeast_40 : decode prog_8_method_9_code 40 = .ok (.iload_n 2, 1) := by decide +kernel
theorem d_Slacks_keepLeast_41 : decode prog_8_method_9_code 41 = .ok (.isub, 1) := by decide +kernel
theorem d_Slacks_keepLeast_42 : decode prog_8_method_9_code 42 = .ok (.invokestatic 72, 3) := by decide +kernel
theorem d_Slacks_keepLeast_45 : decode prog_8_method_9_code 45 = .ok (.iastore, 1) := by decide +kernel
theorem d_Slacks_keepLeast_46 : decode prog_8_method_9_code 46 = .ok (.aload_n 0, 1) := by decide +kernel
theorem d_Slacks_keepLeast_47 : decode prog_8_method_9_code 47 = .ok (.getfield 9, 3) := by decide +kernel
theorem d_Slacks_keepLeast_50 : decode prog_8_method_9_code 50 = .ok (.iconst 2, 1) := by decide +kernel
theorem d_Slacks_keepLeast_51 : decode prog_8_method_9_code 51 = .ok (.iload_n 1, 1) := by decide +kernel
theorem d_Slacks_keepLeast_52 : decode prog_8_method_9_code 52 = .ok (.imul, 1) := by decide +kernel
theorem d_Slacks_keepLeast_53 : decode prog_8_method_9_code 53 = .ok (.iconst 1, 1) := by decide +kernel
theorem d_Slacks_keepLeast_54 : decode prog_8_method_9_code 54 = .ok (.iadd, 1) := by decide +kernel
theorem d_Slacks_keepLeast_55 : decode prog_8_method_9_code 55 = .ok (.aload_n 0, 1) := by decide +kernel
theorem d_Slacks_keepLeast_56 : decode prog_8_method_9_code 56 = .ok (.getfield 9, 3) := by decide +kernel
theorem d_Slacks_keepLeast_59 : decode prog_8_method_9_code 59 = .ok (.iconst 2, 1) := by decide +kernel
theorem d_Slacks_keepLeast_60 : decode prog_8_method_9_code 60 = .ok (.iload_n 1, 1) := by decide +kernel
theorem d_Slacks_keepLeast_61 : decode prog_8_method_9_code 61 = .ok (.imul, 1) := by decide +kernel
theorem d_Slacks_keepLeast_62 : decode prog_8_method_9_code 62 = .ok (.iconst 1, 1) := by decide +kernel
theorem d_Slacks_keepLeast_63 : decode prog_8_method_9_code 63 = .ok (.iadd, 1) := by decide +kernel
theorem d_Slacks_keepLeast_64 : decode prog_8_method_9_code 64 = .ok (.iaload, 1) := by decide +kernel
theorem d_Slacks_keepLeast_65 : decode prog_8_method_9_code 65 = .ok (.aload_n 0, 1) := by decide +kernel
theorem d_Slacks_keepLeast_66 : decode prog_8_method_9_code 66 = .ok (.getfield 27, 3) := by decide +kernel
theorem d_Slacks_keepLeast_69 : decode prog_8_method_9_code 69 = .ok (.getfield 125, 3) := by decide +kernel
theorem d_Slacks_keepLeast_72 : decode prog_8_method_9_code 72 = .ok (.iload_n 3, 1) := by decide +kernel
theorem d_Slacks_keepLeast_73 : decode prog_8_method_9_code 73 = .ok (.iadd, 1) := by decide +kernel
theorem d_Slacks_keepLeast_74 : decode prog_8_method_9_code 74 = .ok (.invokestatic 72, 3) := by decide +kernel
theorem d_Slacks_keepLeast_77 : decode prog_8_method_9_code 77 = .ok (.iastore, 1) := by decide +kernel
theorem d_Slacks_keepLeast_78 : decode prog_8_method_9_code 78 = .ok (.aload_n 0, 1) := by decide +kernel
theorem d_Slacks_keepLeast_79 : decode prog_8_method_9_code 79 = .ok (.getfield 27, 3) := by decide +kernel
theorem d_Slacks_keepLeast_82 : decode prog_8_method_9_code 82 = .ok (.getfield 123, 3) := by decide +kernel
theorem d_Slacks_keepLeast_85 : decode prog_8_method_9_code 85 = .ok (.ldc 31, 2) := by decide +kernel
theorem d_Slacks_keepLeast_87 : decode prog_8_method_9_code 87 = .ok (.if_icmp .eq 23, 3) := by decide +kernel
theorem d_Slacks_keepLeast_90 : decode prog_8_method_9_code 90 = .ok (.aload_n 0, 1) := by decide +kernel
theorem d_Slacks_keepLeast_91 : decode prog_8_method_9_code 91 = .ok (.aload_n 0, 1) := by decide +kernel
theorem d_Slacks_keepLeast_92 : decode prog_8_method_9_code 92 = .ok (.getfield 38, 3) := by decide +kernel
theorem d_Slacks_keepLeast_95 : decode prog_8_method_9_code 95 = .ok (.aload_n 0, 1) := by decide +kernel
theorem d_Slacks_keepLeast_96 : decode prog_8_method_9_code 96 = .ok (.getfield 27, 3) := by decide +kernel
theorem d_Slacks_keepLeast_99 : decode prog_8_method_9_code 99 = .ok (.getfield 123, 3) := by decide +kernel
theorem d_Slacks_keepLeast_102 : decode prog_8_method_9_code 102 = .ok (.iload_n 2, 1) := by decide +kernel
theorem d_Slacks_keepLeast_103 : decode prog_8_method_9_code 103 = .ok (.isub, 1) := by decide +kernel
theorem d_Slacks_keepLeast_104 : decode prog_8_method_9_code 104 = .ok (.invokestatic 72, 3) := by decide +kernel
theorem d_Slacks_keepLeast_107 : decode prog_8_method_9_code 107 = .ok (.putfield 38, 3) := by decide +kernel
theorem d_Slacks_keepLeast_110 : decode prog_8_method_9_code 110 = .ok (.aload_n 0, 1) := by decide +kernel
theorem d_Slacks_keepLeast_111 : decode prog_8_method_9_code 111 = .ok (.getfield 27, 3) := by decide +kernel
theorem d_Slacks_keepLeast_114 : decode prog_8_method_9_code 114 = .ok (.getfield 124, 3) := by decide +kernel
theorem d_Slacks_keepLeast_117 : decode prog_8_method_9_code 117 = .ok (.ldc 31, 2) := by decide +kernel
theorem d_Slacks_keepLeast_119 : decode prog_8_method_9_code 119 = .ok (.if_icmp .eq 23, 3) := by decide +kernel
theorem d_Slacks_keepLeast_122 : decode prog_8_method_9_code 122 = .ok (.aload_n 0, 1) := by decide +kernel
theorem d_Slacks_keepLeast_123 : decode prog_8_method_9_code 123 = .ok (.aload_n 0, 1) := by decide +kernel
theorem d_Slacks_keepLeast_124 : decode prog_8_method_9_code 124 = .ok (.getfield 42, 3) := by decide +kernel
theorem d_Slacks_keepLeast_127 : decode prog_8_method_9_code 127 = .ok (.aload_n 0, 1) := by decide +kernel
theorem d_Slacks_keepLeast_128 : decode prog_8_method_9_code 128 = .ok (.getfield 27, 3) := by decide +kernel
theorem d_Slacks_keepLeast_131 : decode prog_8_method_9_code 131 = .ok (.getfield 124, 3) := by decide +kernel
theorem d_Slacks_keepLeast_134 : decode prog_8_method_9_code 134 = .ok (.iload_n 2, 1) := by decide +kernel
theorem d_Slacks_keepLeast_135 : decode prog_8_method_9_code 135 = .ok (.isub, 1) := by decide +kernel
theorem d_Slacks_keepLeast_136 : decode prog_8_method_9_code 136 = .ok (.invokestatic 72, 3) := by decide +kernel
theorem d_Slacks_keepLeast_139 : decode prog_8_method_9_code 139 = .ok (.putfield 42, 3) := by decide +kernel
theorem d_Slacks_keepLeast_142 : decode prog_8_method_9_code 142 = .ok (.return_, 1) := by decide +kernel
