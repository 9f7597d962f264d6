theorem d_Spread_init_0 : decode prog_9_method_1_code 0 = .ok (.aload_n 0, 1) := by decide +kernel
theorem d_Spread_init_1 : decode prog_9_method_1_code 1 = .ok (.invokespecial 3, 3) := by decide +kernel
theorem d_Spread_init_4 : decode prog_9_method_1_code 4 = .ok (.aload_n 0, 1) := by decide +kernel
theorem d_Spread_init_5 : decode prog_9_method_1_code 5 = .ok (.bipush 96, 2) := by decide +kernel
theorem d_Spread_init_7 : decode prog_9_method_1_code 7 = .ok (.newarray .int, 2) := by decide +kernel
theorem d_Spread_init_9 : decode prog_9_method_1_code 9 = .ok (.putfield 9, 3) := by decide +kernel
theorem d_Spread_init_12 : decode prog_9_method_1_code 12 = .ok (.aload_n 0, 1) := by decide +kernel
theorem d_Spread_init_13 : decode prog_9_method_1_code 13 = .ok (.bipush 96, 2) := by decide +kernel
theorem d_Spread_init_15 : decode prog_9_method_1_code 15 = .ok (.newarray .int, 2) := by decide +kernel
theorem d_Spread_init_17 : decode prog_9_method_1_code 17 = .ok (.putfield 15, 3) := by decide +kernel
theorem d_Spread_init_20 : decode prog_9_method_1_code 20 = .ok (.aload_n 0, 1) := by decide +kernel
theorem d_Spread_init_21 : decode prog_9_method_1_code 21 = .ok (.bipush 96, 2) := by decide +kernel
theorem d_Spread_init_23 : decode prog_9_method_1_code 23 = .ok (.newarray .int, 2) := by decide +kernel
theorem d_Spread_init_25 : decode prog_9_method_1_code 25 = .ok (.putfield 18, 3) := by decide +kernel
theorem d_Spread_init_28 : decode prog_9_method_1_code 28 = .ok (.aload_n 0, 1) := by decide +kernel
theorem d_Spread_init_29 : decode prog_9_method_1_code 29 = .ok (.aload_n 1, 1) := by decide +kernel
theorem d_Spread_init_30 : decode prog_9_method_1_code 30 = .ok (.putfield 21, 3) := by decide +kernel
theorem d_Spread_init_33 : decode prog_9_method_1_code 33 = .ok (.aload_n 0, 1) := by decide +kernel
theorem d_Spread_init_34 : decode prog_9_method_1_code 34 = .ok (.aload_n 2, 1) := by decide +kernel
theorem d_Spread_init_35 : decode prog_9_method_1_code 35 = .ok (.putfield 25, 3) := by decide +kernel
theorem d_Spread_init_38 : decode prog_9_method_1_code 38 = .ok (.return_, 1) := by decide +kernel
theorem d_Spread_clear_0 : decode prog_9_method_2_code 0 = .ok (.aload_n 0, 1) := by decide +kernel
theorem d_Spread_clear_1 : decode prog_9_method_2_code 1 = .ok (.getfield 9, 3) := by decide +kernel
theorem d_Spread_clear_4 : decode prog_9_method_2_code 4 = .ok (.iconst 0, 1) := by decide +kernel
theorem d_Spread_clear_5 : decode prog_9_method_2_code 5 = .ok (.invokestatic 29, 3) := by decide +kernel
theorem d_Spread_clear_8 : decode prog_9_method_2_code 8 = .ok (.return_, 1) := by decide +kernel
theorem d_Spread_reaches_0 : decode prog_9_method_3_code 0 = .ok (.aload_n 0, 1) := by decide +kernel
theorem d_Spread_reaches_1 : decode prog_9_method_3_code 1 = .ok (.getfield 9, 3) := by decide +kernel
theorem d_Spread_reaches_4 : decode prog_9_method_3_code 4 = .ok (.iconst 2, 1) := by decide +kernel
theorem d_Spread_reaches_5 : decode prog_9_method_3_code 5 = .ok (.iload_n 1, 1) := by decide +kernel
theorem d_Spread_reaches_6 : decode prog_9_method_3_code 6 = .ok (.imul, 1) := by decide +kernel
theorem d_Spread_reaches_7 : decode prog_9_method_3_code 7 = .ok (.iaload, 1) := by decide +kernel
theorem d_Spread_reaches_8 : decode prog_9_method_3_code 8 = .ok (.ifCond .gt 16, 3) := by decide +kernel
theorem d_Spread_reaches_11 : decode prog_9_method_3_code 11 = .ok (.aload_n 0, 1) := by decide +kernel
theorem d_Spread_reaches_12 : decode prog_9_method_3_code 12 = .ok (.getfield 9, 3) := by decide +kernel
theorem d_Spread_reaches_15 : decode prog_9_method_3_code 15 = .ok (.iconst 2, 1) := by decide +kernel
theorem d_Spread_reaches_16 : decode prog_9_method_3_code 16 = .ok (.iload_n 1, 1) := by decide +kernel
theorem d_Spread_reaches_17 : decode prog_9_method_3_code 17 = .ok (.imul, 1) := by decide +kernel
theorem d_Spread_reaches_18 : decode prog_9_method_3_code 18 = .ok (.iconst 1, 1) := by decide +kernel
theorem d_Spread_reaches_19 : decode prog_9_method_3_code 19 = .ok (.iadd, 1) := by decide +kernel
theorem d_Spread_reaches_20 : decode prog_9_method_3_code 20 = .ok (.iaload, 1) := by decide +kernel
theorem d_Spread_reaches_21 : decode prog_9_method_3_code 21 = .ok (.ifCond .le 7, 3) := by decide +kernel
theorem d_Spread_reaches_24 : decode prog_9_method_3_code 24 = .ok (.iconst 1, 1) := by decide +kernel
theorem d_Spread_reaches_25 : decode prog_9_method_3_code 25 = .ok (.goto 4, 3) := by decide +kernel
theorem d_Spread_reaches_28 : decode prog_9_method_3_code 28 = .ok (.iconst 0, 1) := by decide +kernel
theorem d_Spread_reaches_29 : decode prog_9_method_3_code 29 = .ok (.ireturn, 1) := by decide +kernel
theorem d_Spread_join_0 : decode prog_9_method_4_code 0 = .ok (.aload_n 0, 1) := by decide +kernel
theorem d_Spread_join_1 : decode prog_9_method_4_code 1 = .ok (.getfield 9, 3) := by decide +kernel
theorem d_Spread_join_4 : decode prog_9_method_4_code 4 = .ok (.iload_n 1, 1) := by decide +kernel
theorem d_Spread_join_5 : decode prog_9_method_4_code 5 = .ok (.iaload, 1) := by decide +kernel
theorem d_Spread_join_6 : decode prog_9_method_4_code 6 = .ok (.ifCond .ne 7, 3) := by decide +kernel
theorem d_Spread_join_9 : decode prog_9_method_4_code 9 = .ok (.iconst 1, 1) := by decide +kernel
theorem d_Spread_join_10 : decode prog_9_method_4_code 10 = .ok (.goto 4, 3) := by decide +kernel
theorem d_Spread_join_13 : decode prog_9_method_4_code 13 = .ok (.iconst 0, 1) := by decide +kernel
theorem d_Spread_join_14 : decode prog_9_method_4_code 14 = .ok (.istore 5, 2) := by decide +kernel
theorem d_Spread_join_16 : decode prog_9_method_4_code 16 = .ok (.iload 5, 2) := by decide +kernel
theorem d_Spread_join_18 : decode prog_9_method_4_code 18 = .ok (.ifCond .ne 13, 3) := by decide +kernel
theorem d_Spread_join_21 : decode prog_9_method_4_code 21 = .ok (.iload_n 3, 1) := by decide +kernel
theorem d_Spread_join_22 : decode prog_9_method_4_code 22 = .ok (.aload_n 0, 1) := by decide +kernel
theorem d_Spread_join_23 : decode prog_9_method_4_code 23 = .ok (.getfield 15, 3) := by decide +kernel
theorem d_Spread_join_26 : decode prog_9_method_4_code 26 = .ok (.iload_n 1, 1) := by decide +kernel
theorem d_Spread_join_27 : decode prog_9_method_4_code 27 = .ok (.iaload, 1) := by decide +kernel
theorem d_Spread_join_28 : decode prog_9_method_4_code 28 = .ok (.if_icmp .ge 10, 3) := by decide +kernel
theorem d_Spread_join_31 : decode prog_9_method_4_code 31 = .ok (.aload_n 0, 1) := by decide +kernel
theorem d_Spread_join_32 : decode prog_9_method_4_code 32 = .ok (.getfield 15, 3) := by decide +kernel
theorem d_Spread_join_35 : decode prog_9_method_4_code 35 = .ok (.iload_n 1, 1) := by decide +kernel
theorem d_Spread_join_36 : decode prog_9_method_4_code 36 = .ok (.iload_n 3, 1) := by decide +kernel
theorem d_Spread_join_37 : decode prog_9_method_4_code 37 = .ok (.iastore, 1) := by decide +kernel
theorem d_Spread_join_38 : decode prog_9_method_4_code 38 = .ok (.iload 5, 2) := by decide +kernel
theorem d_Spread_join_40 : decode prog_9_method_4_code 40 = .ok (.ifCond .ne 14, 3) := by decide +kernel
theorem d_Spread_join_43 : decode prog_9_method_4_code 43 = .ok (.iload 4, 2) := by decide +kernel
theorem d_Spread_join_45 : decode prog_9_method_4_code 45 = .ok (.aload_n 0, 1) := by decide +kernel
theorem d_Spread_join_46 : decode prog_9_method_4_code 46 = .ok (.getfield 18, 3) := by decide +kernel
theorem d_Spread_join_49 : decode prog_9_method_4_code 49 = .ok (.iload_n 1, 1) := by decide +kernel
theorem d_Spread_join_50 : decode prog_9_method_4_code 50 = .ok (.iaload, 1) := by decide +kernel
theorem d_Spread_join_51 : decode prog_9_method_4_code 51 = .ok (.if_icmp .le 11, 3) := by decide +kernel
theorem d_Spread_join_54 : decode prog_9_method_4_code 54 = .ok (.aload_n 0, 1) := by decide +kernel
theorem d_Spread_join_55 : decode prog_9_method_4_code 55 = .ok (.getfield 18, 3) := by decide +kernel
theorem d_Spread_join_58 : decode prog_9_method_4_code 58 = .ok (.iload_n 1, 1) := by decide +kernel
theorem d_Spread_join_59 : decode prog_9_method_4_code 59 = .ok (.iload 4, 2) := by decide +kernel
theorem d_Spread_join_61 : decode prog_9_method_4_code 61 = .ok (.iastore, 1) := by decide +kernel
theorem d_Spread_join_62 : decode prog_9_method_4_code 62 = .ok (.aload_n 0, 1) := by decide +kernel
theorem d_Spread_join_63 : decode prog_9_method_4_code 63 = .ok (.getfield 9, 3) := by decide +kernel
theorem d_Spread_join_66 : decode prog_9_method_4_code 66 = .ok (.iload_n 1, 1) := by decide +kernel
theorem d_Spread_join_67 : decode prog_9_method_4_code 67 = .ok (.aload_n 0, 1) := by decide +kernel
theorem d_Spread_join_68 : decode prog_9_method_4_code 68 = .ok (.getfield 9, 3) := by decide +kernel
theorem d_Spread_join_71 : decode prog_9_method_4_code 71 = .ok (.iload_n 1, 1) := by decide +kernel
theorem d_Spread_join_72 : decode prog_9_method_4_code 72 = .ok (.iaload, 1) := by decide +kernel
theorem d_Spread_join_73 : decode prog_9_method_4_code 73 = .ok (.iload_n 2, 1) := by decide +kernel
theorem d_Spread_join_74 : decode prog_9_method_4_code 74 = .ok (.iadd, 1) := by decide +kernel
theorem d_Spread_join_75 : decode prog_9_method_4_code 75 = .ok (.sipush 4001, 3) := by decide +kernel
theorem d_Spread_join_78 : decode prog_9_method_4_code 78 = .ok (.invokestatic 35, 3) := by decide +kernel
theorem d_Spread_join_81 : decode prog_9_method_4_code 81 = .ok (.iastore, 1) := by decide +kernel
theorem d_Spread_join_82 : decode prog_9_method_4_code 82 = .ok (.return_, 1) := by decide +kernel
theorem d_Spread_spread_0 : decode prog_9_method_5_code 0 = .ok (.iconst 0, 1) := by decide +kernel
theorem d_Spread_spread_1 : decode prog_9_method_5_code 1 = .ok (.istore_n 1, 1) := by decide +kernel
theorem d_Spread_spread_2 : decode prog_9_method_5_code 2 = .ok (.iload_n 1, 1) := by decide +kernel
theorem d_Spread_spread_3 : decode prog_9_method_5_code 3 = .ok (.aload_n 0, 1) := by decide +kernel
theorem d_Spread_spread_4 : decode prog_9_method_5_code 4 = .ok (.getfield 25, 3) := by decide +kernel
theorem d_Spread_spread_7 : decode prog_9_method_5_code 7 = .ok (.getfield 41, 3) := by decide +kernel
theorem d_Spread_spread_10 : decode prog_9_method_5_code 10 = .ok (.if_icmp .ge 46, 3) := by decide +kernel
theorem d_Spread_spread_13 : decode prog_9_method_5_code 13 = .ok (.aload_n 0, 1) := by decide +kernel
theorem d_Spread_spread_14 : decode prog_9_method_5_code 14 = .ok (.getfield 25, 3) := by decide +kernel
theorem d_Spread_spread_17 : decode prog_9_method_5_code 17 = .ok (.getfield 46, 3) := by decide +kernel
theorem d_Spread_spread_20 : decode prog_9_method_5_code 20 = .ok (.iload_n 1, 1) := by decide +kernel
theorem d_Spread_spread_21 : decode prog_9_method_5_code 21 = .ok (.iaload, 1) := by decide +kernel
theorem d_Spread_spread_22 : decode prog_9_method_5_code 22 = .ok (.istore_n 2, 1) := by decide +kernel
theorem d_Spread_spread_23 : decode prog_9_method_5_code 23 = .ok (.iconst 0, 1) := by decide +kernel
theorem d_Spread_spread_24 : decode prog_9_method_5_code 24 = .ok (.istore_n 3, 1) := by decide +kernel
theorem d_Spread_spread_25 : decode prog_9_method_5_code 25 = .ok (.iload_n 3, 1) := by decide +kernel
theorem d_Spread_spread_26 : decode prog_9_method_5_code 26 = .ok (.aload_n 0, 1) := by decide +kernel
theorem d_Spread_spread_27 : decode prog_9_method_5_code 27 = .ok (.getfield 21, 3) := by decide +kernel
theorem d_Spread_spread_30 : decode prog_9_method_5_code 30 = .ok (.getfield 49, 3) := by decide +kernel
theorem d_Spread_spread_33 : decode prog_9_method_5_code 33 = .ok (.iload_n 2, 1) := by decide +kernel
theorem d_Spread_spread_34 : decode prog_9_method_5_code 34 = .ok (.iaload, 1) := by decide +kernel
theorem d_Spread_spread_35 : decode prog_9_method_5_code 35 = .ok (.if_icmp .ge 15, 3) := by decide +kernel
theorem d_Spread_spread_38 : decode prog_9_method_5_code 38 = .ok (.aload_n 0, 1) := by decide +kernel
theorem d_Spread_spread_39 : decode prog_9_method_5_code 39 = .ok (.iload_n 2, 1) := by decide +kernel
theorem d_Spread_spread_40 : decode prog_9_method_5_code 40 = .ok (.iload_n 3, 1) := by decide +kernel
theorem d_Spread_spread_41 : decode prog_9_method_5_code 41 = .ok (.invokevirtual 54, 3) := by decide +kernel
theorem d_Spread_spread_44 : decode prog_9_method_5_code 44 = .ok (.iinc 3 1, 3) := by decide +kernel
theorem d_Spread_spread_47 : decode prog_9_method_5_code 47 = .ok (.goto (-22), 3) := by decide +kernel
theorem d_Spread_spread_50 : decode prog_9_method_5_code 50 = .ok (.iinc 1 1, 3) := by decide +kernel
theorem d_Spread_spread_53 : decode prog_9_method_5_code 53 = .ok (.goto (-51), 3) := by decide +kernel
theorem d_Spread_spread_56 : decode prog_9_method_5_code 56 = .ok (.return_, 1) := by decide +kernel
theorem d_Spread_spreadFrom_0 : decode prog_9_method_6_code 0 = .ok (.aload_n 0, 1) := by decide +kernel
theorem d_Spread_spreadFrom_1 : decode prog_9_method_6_code 1 = .ok (.invokevirtual 58, 3) := by decide +kernel
theorem d_Spread_spreadFrom_4 : decode prog_9_method_6_code 4 = .ok (.iconst 2, 1) := by decide +kernel
theorem d_Spread_spreadFrom_5 : decode prog_9_method_6_code 5 = .ok (.iload_n 1, 1) := by decide +kernel
theorem d_Spread_spreadFrom_6 : decode prog_9_method_6_code 6 = .ok (.imul, 1) := by decide +kernel
theorem d_Spread_spreadFrom_7 : decode prog_9_method_6_code 7 = .ok (.istore_n 3, 1) := by decide +kernel
theorem d_Spread_spreadFrom_8 : decode prog_9_method_6_code 8 = .ok (.iload_n 3, 1) := by decide +kernel
theorem d_Spread_spreadFrom_9 : decode prog_9_method_6_code 9 = .ok (.iconst 2, 1) := by decide +kernel
theorem d_Spread_spreadFrom_10 : decode prog_9_method_6_code 10 = .ok (.iload_n 1, 1) := by decide +kernel
theorem d_Spread_spreadFrom_11 : decode prog_9_method_6_code 11 = .ok (.imul, 1) := by decide +kernel
theorem d_Spread_spreadFrom_12 : decode prog_9_method_6_code 12 = .ok (.iconst 1, 1) := by decide +kernel
theorem d_Spread_spreadFrom_13 : decode prog_9_method_6_code 13 = .ok (.iadd, 1) := by decide +kernel
theorem d_Spread_spreadFrom_14 : decode prog_9_method_6_code 14 = .ok (.if_icmp .gt 33, 3) := by decide +kernel
theorem d_Spread_spreadFrom_17 : decode prog_9_method_6_code 17 = .ok (.aload_n 0, 1) := by decide +kernel
theorem d_Spread_spreadFrom_18 : decode prog_9_method_6_code 18 = .ok (.iload_n 3, 1) := by decide +kernel
theorem d_Spread_spreadFrom_19 : decode prog_9_method_6_code 19 = .ok (.iload_n 2, 1) := by decide +kernel
theorem d_Spread_spreadFrom_20 : decode prog_9_method_6_code 20 = .ok (.aload_n 0, 1) := by decide +kernel
theorem d_Spread_spreadFrom_21 : decode prog_9_method_6_code 21 = .ok (.getfield 21, 3) := by decide +kernel
theorem d_Spread_spreadFrom_24 : decode prog_9_method_6_code 24 = .ok (.getfield 61, 3) := by decide +kernel
theorem d_Spread_spreadFrom_27 : decode prog_9_method_6_code 27 = .ok (.iload_n 3, 1) := by decide +kernel
theorem d_Spread_spreadFrom_28 : decode prog_9_method_6_code 28 = .ok (.iaload, 1) := by decide +kernel
theorem d_Spread_spreadFrom_29 : decode prog_9_method_6_code 29 = .ok (.aload_n 0, 1) := by decide +kernel
theorem d_Spread_spreadFrom_30 : decode prog_9_method_6_code 30 = .ok (.getfield 21, 3) := by decide +kernel
theorem d_Spread_spreadFrom_33 : decode prog_9_method_6_code 33 = .ok (.getfield 64, 3) := by decide +kernel
theorem d_Spread_spreadFrom_36 : decode prog_9_method_6_code 36 = .ok (.iload_n 3, 1) := by decide +kernel
theorem d_Spread_spreadFrom_37 : decode prog_9_method_6_code 37 = .ok (.iaload, 1) := by decide +kernel
theorem d_Spread_spreadFrom_38 : decode prog_9_method_6_code 38 = .ok (.invokevirtual 67, 3) := by decide +kernel
theorem d_Spread_spreadFrom_41 : decode prog_9_method_6_code 41 = .ok (.iinc 3 1, 3) := by decide +kernel
theorem d_Spread_spreadFrom_44 : decode prog_9_method_6_code 44 = .ok (.goto (-36), 3) := by decide +kernel
theorem d_Spread_spreadFrom_47 : decode prog_9_method_6_code 47 = .ok (.aload_n 0, 1) := by decide +kernel
theorem d_Spread_spreadFrom_48 : decode prog_9_method_6_code 48 = .ok (.invokevirtual 71, 3) := by decide +kernel
theorem d_Spread_spreadFrom_51 : decode prog_9_method_6_code 51 = .ok (.return_, 1) := by decide +kernel
theorem d_Spread_spreadBy_0 : decode prog_9_method_7_code 0 = .ok (.iload_n 1, 1) := by decide +kernel
theorem d_Spread_spreadBy_1 : decode prog_9_method_7_code 1 = .ok (.iconst 3, 1) := by decide +kernel
theorem d_Spread_spreadBy_2 : decode prog_9_method_7_code 2 = .ok (.imul, 1) := by decide +kernel
theorem d_Spread_spreadBy_3 : decode prog_9_method_7_code 3 = .ok (.iload_n 2, 1) := by decide +kernel
theorem d_Spread_spreadBy_4 : decode prog_9_method_7_code 4 = .ok (.iadd, 1) := by decide +kernel
theorem d_Spread_spreadBy_5 : decode prog_9_method_7_code 5 = .ok (.istore_n 3, 1) := by decide +kernel
theorem d_Spread_spreadBy_6 : decode prog_9_method_7_code 6 = .ok (.aload_n 0, 1) := by decide +kernel
theorem d_Spread_spreadBy_7 : decode prog_9_method_7_code 7 = .ok (.getfield 21, 3) := by decide +kernel
theorem d_Spread_spreadBy_10 : decode prog_9_method_7_code 10 = .ok (.getfield 74, 3) := by decide +kernel
theorem d_Spread_spreadBy_13 : decode prog_9_method_7_code 13 = .ok (.iload_n 3, 1) := by decide +kernel
theorem d_Spread_spreadBy_14 : decode prog_9_method_7_code 14 = .ok (.iaload, 1) := by decide +kernel
theorem d_Spread_spreadBy_15 : decode prog_9_method_7_code 15 = .ok (.ifCond .ge 4, 3) := by decide +kernel
theorem d_Spread_spreadBy_18 : decode prog_9_method_7_code 18 = .ok (.return_, 1) := by decide +kernel
theorem d_Spread_spreadBy_19 : decode prog_9_method_7_code 19 = .ok (.iconst 0, 1) := by decide +kernel
theorem d_Spread_spreadBy_20 : decode prog_9_method_7_code 20 = .ok (.istore 4, 2) := by decide +kernel
theorem d_Spread_spreadBy_22 : decode prog_9_method_7_code 22 = .ok (.iload 4, 2) := by decide +kernel
theorem d_Spread_spreadBy_24 : decode prog_9_method_7_code 24 = .ok (.iconst 2, 1) := by decide +kernel
theorem d_Spread_spreadBy_25 : decode prog_9_method_7_code 25 = .ok (.if_icmp .ge 118, 3) := by decide +kernel
theorem d_Spread_spreadBy_28 : decode prog_9_method_7_code 28 = .ok (.iconst 2, 1) := by decide +kernel
theorem d_Spread_spreadBy_29 : decode prog_9_method_7_code 29 = .ok (.aload_n 0, 1) := by decide +kernel
theorem d_Spread_spreadBy_30 : decode prog_9_method_7_code 30 = .ok (.getfield 21, 3) := by decide +kernel
theorem d_Spread_spreadBy_33 : decode prog_9_method_7_code 33 = .ok (.getfield 74, 3) := by decide +kernel
theorem d_Spread_spreadBy_36 : decode prog_9_method_7_code 36 = .ok (.iload_n 3, 1) := by decide +kernel
theorem d_Spread_spreadBy_37 : decode prog_9_method_7_code 37 = .ok (.iaload, 1) := by decide +kernel
theorem d_Spread_spreadBy_38 : decode prog_9_method_7_code 38 = .ok (.imul, 1) := by decide +kernel
theorem d_Spread_spreadBy_39 : decode prog_9_method_7_code 39 = .ok (.iload 4, 2) := by decide +kernel
theorem d_Spread_spreadBy_41 : decode prog_9_method_7_code 41 = .ok (.iadd, 1) := by decide +kernel
theorem d_Spread_spreadBy_42 : decode prog_9_method_7_code 42 = .ok (.istore 5, 2) := by decide +kernel
theorem d_Spread_spreadBy_44 : decode prog_9_method_7_code 44 = .ok (.iconst 0, 1) := by decide +kernel
theorem d_Spread_spreadBy_45 : decode prog_9_method_7_code 45 = .ok (.istore 6, 2) := by decide +kernel
theorem d_Spread_spreadBy_47 : decode prog_9_method_7_code 47 = .ok (.iload 6, 2) := by decide +kernel
theorem d_Spread_spreadBy_49 : decode prog_9_method_7_code 49 = .ok (.iconst 2, 1) := by decide +kernel
theorem d_Spread_spreadBy_50 : decode prog_9_method_7_code 50 = .ok (.if_icmp .ge 87, 3) := by decide +kernel
theorem d_Spread_spreadBy_53 : decode prog_9_method_7_code 53 = .ok (.aload_n 0, 1) := by decide +kernel
theorem d_Spread_spreadBy_54 : decode prog_9_method_7_code 54 = .ok (.getfield 9, 3) := by decide +kernel
theorem d_Spread_spreadBy_57 : decode prog_9_method_7_code 57 = .ok (.iload 5, 2) := by decide +kernel
theorem d_Spread_spreadBy_59 : decode prog_9_method_7_code 59 = .ok (.iaload, 1) := by decide +kernel
theorem d_Spread_spreadBy_60 : decode prog_9_method_7_code 60 = .ok (.ifCond .le 77, 3) := by decide +kernel
theorem d_Spread_spreadBy_63 : decode prog_9_method_7_code 63 = .ok (.aload_n 0, 1) := by decide +kernel
theorem d_Spread_spreadBy_64 : decode prog_9_method_7_code 64 = .ok (.getfield 21, 3) := by decide +kernel
theorem d_Spread_spreadBy_67 : decode prog_9_method_7_code 67 = .ok (.iload_n 3, 1) := by decide +kernel
theorem d_Spread_spreadBy_68 : decode prog_9_method_7_code 68 = .ok (.iload 4, 2) := by decide +kernel
theorem d_Spread_spreadBy_70 : decode prog_9_method_7_code 70 = .ok (.iload 6, 2) := by decide +kernel
theorem d_Spread_spreadBy_72 : decode prog_9_method_7_code 72 = .ok (.invokevirtual 77, 3) := by decide +kernel
theorem d_Spread_spreadBy_75 : decode prog_9_method_7_code 75 = .ok (.ifCond .eq 56, 3) := by decide +kernel
theorem d_Spread_spreadBy_78 : decode prog_9_method_7_code 78 = .ok (.aload_n 0, 1) := by decide +kernel
theorem d_Spread_spreadBy_79 : decode prog_9_method_7_code 79 = .ok (.iconst 2, 1) := by decide +kernel
theorem d_Spread_spreadBy_80 : decode prog_9_method_7_code 80 = .ok (.iload_n 1, 1) := by decide +kernel
theorem d_Spread_spreadBy_81 : decode prog_9_method_7_code 81 = .ok (.imul, 1) := by decide +kernel
theorem d_Spread_spreadBy_82 : decode prog_9_method_7_code 82 = .ok (.iload 6, 2) := by decide +kernel
theorem d_Spread_spreadBy_84 : decode prog_9_method_7_code 84 = .ok (.iadd, 1) := by decide +kernel
theorem d_Spread_spreadBy_85 : decode prog_9_method_7_code 85 = .ok (.aload_n 0, 1) := by decide +kernel
theorem d_Spread_spreadBy_86 : decode prog_9_method_7_code 86 = .ok (.getfield 9, 3) := by decide +kernel
theorem d_Spread_spreadBy_89 : decode prog_9_method_7_code 89 = .ok (.iload 5, 2) := by decide +kernel
theorem d_Spread_spreadBy_91 : decode prog_9_method_7_code 91 = .ok (.iaload, 1) := by decide +kernel
theorem d_Spread_spreadBy_92 : decode prog_9_method_7_code 92 = .ok (.aload_n 0, 1) := by decide +kernel
theorem d_Spread_spreadBy_93 : decode prog_9_method_7_code 93 = .ok (.getfield 15, 3) := by decide +kernel
theorem d_Spread_spreadBy_96 : decode prog_9_method_7_code 96 = .ok (.iload 5, 2) := by decide +kernel
theorem d_Spread_spreadBy_98 : decode prog_9_method_7_code 98 = .ok (.iaload, 1) := by decide +kernel
theorem d_Spread_spreadBy_99 : decode prog_9_method_7_code 99 = .ok (.aload_n 0, 1) := by decide +kernel
theorem d_Spread_spreadBy_100 : decode prog_9_method_7_code 100 = .ok (.getfield 21, 3) := by decide +kernel
theorem d_Spread_spreadBy_103 : decode prog_9_method_7_code 103 = .ok (.iload_n 3, 1) := by decide +kernel
theorem d_Spread_spreadBy_104 : decode prog_9_method_7_code 104 = .ok (.iload 6, 2) := by decide +kernel
theorem d_Spread_spreadBy_106 : decode prog_9_method_7_code 106 = .ok (.invokevirtual 81, 3) := by decide +kernel
theorem d_Spread_spreadBy_109 : decode prog_9_method_7_code 109 = .ok (.iadd, 1) := by decide +kernel
theorem d_Spread_spreadBy_110 : decode prog_9_method_7_code 110 = .ok (.aload_n 0, 1) := by decide +kernel
theorem d_Spread_spreadBy_111 : decode prog_9_method_7_code 111 = .ok (.getfield 18, 3) := by decide +kernel
theorem d_Spread_spreadBy_114 : decode prog_9_method_7_code 114 = .ok (.iload 5, 2) := by decide +kernel
theorem d_Spread_spreadBy_116 : decode prog_9_method_7_code 116 = .ok (.iaload, 1) := by decide +kernel
theorem d_Spread_spreadBy_117 : decode prog_9_method_7_code 117 = .ok (.aload_n 0, 1) := by decide +kernel
theorem d_Spread_spreadBy_118 : decode prog_9_method_7_code 118 = .ok (.getfield 21, 3) := by decide +kernel
theorem d_Spread_spreadBy_121 : decode prog_9_method_7_code 121 = .ok (.iload_n 3, 1) := by decide +kernel
theorem d_Spread_spreadBy_122 : decode prog_9_method_7_code 122 = .ok (.iload 6, 2) := by decide +kernel
theorem d_Spread_spreadBy_124 : decode prog_9_method_7_code 124 = .ok (.invokevirtual 84, 3) := by decide +kernel
theorem d_Spread_spreadBy_127 : decode prog_9_method_7_code 127 = .ok (.iadd, 1) := by decide +kernel
theorem d_Spread_spreadBy_128 : decode prog_9_method_7_code 128 = .ok (.invokevirtual 67, 3) := by decide +kernel
theorem d_Spread_spreadBy_131 : decode prog_9_method_7_code 131 = .ok (.iinc 6 1, 3) := by decide +kernel
theorem d_Spread_spreadBy_134 : decode prog_9_method_7_code 134 = .ok (.goto (-87), 3) := by decide +kernel
theorem d_Spread_spreadBy_137 : decode prog_9_method_7_code 137 = .ok (.iinc 4 1, 3) := by decide +kernel
theorem d_Spread_spreadBy_140 : decode prog_9_method_7_code 140 = .ok (.goto (-118), 3) := by decide +kernel
theorem d_Spread_spreadBy_143 : decode prog_9_method_7_code 143 = .ok (.return_, 1) := by decide +kernel
