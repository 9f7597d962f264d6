theorem d_ClockWays_init_0 : decode prog_3_method_1_code 0 = .ok (.aload_n 0, 1) := by decide +kernel
theorem d_ClockWays_init_1 : decode prog_3_method_1_code 1 = .ok (.invokespecial 3, 3) := by decide +kernel
theorem d_ClockWays_init_4 : decode prog_3_method_1_code 4 = .ok (.aload_n 0, 1) := by decide +kernel
theorem d_ClockWays_init_5 : decode prog_3_method_1_code 5 = .ok (.bipush 96, 2) := by decide +kernel
theorem d_ClockWays_init_7 : decode prog_3_method_1_code 7 = .ok (.newarray .boolean, 2) := by decide +kernel
theorem d_ClockWays_init_9 : decode prog_3_method_1_code 9 = .ok (.putfield 9, 3) := by decide +kernel
theorem d_ClockWays_init_12 : decode prog_3_method_1_code 12 = .ok (.aload_n 0, 1) := by decide +kernel
theorem d_ClockWays_init_13 : decode prog_3_method_1_code 13 = .ok (.sipush 770, 3) := by decide +kernel
theorem d_ClockWays_init_16 : decode prog_3_method_1_code 16 = .ok (.newarray .int, 2) := by decide +kernel
theorem d_ClockWays_init_18 : decode prog_3_method_1_code 18 = .ok (.putfield 15, 3) := by decide +kernel
theorem d_ClockWays_init_21 : decode prog_3_method_1_code 21 = .ok (.aload_n 0, 1) := by decide +kernel
theorem d_ClockWays_init_22 : decode prog_3_method_1_code 22 = .ok (.sipush 770, 3) := by decide +kernel
theorem d_ClockWays_init_25 : decode prog_3_method_1_code 25 = .ok (.newarray .int, 2) := by decide +kernel
theorem d_ClockWays_init_27 : decode prog_3_method_1_code 27 = .ok (.putfield 19, 3) := by decide +kernel
theorem d_ClockWays_init_30 : decode prog_3_method_1_code 30 = .ok (.aload_n 0, 1) := by decide +kernel
theorem d_ClockWays_init_31 : decode prog_3_method_1_code 31 = .ok (.sipush 770, 3) := by decide +kernel
theorem d_ClockWays_init_34 : decode prog_3_method_1_code 34 = .ok (.newarray .int, 2) := by decide +kernel
theorem d_ClockWays_init_36 : decode prog_3_method_1_code 36 = .ok (.putfield 22, 3) := by decide +kernel
theorem d_ClockWays_init_39 : decode prog_3_method_1_code 39 = .ok (.aload_n 0, 1) := by decide +kernel
theorem d_ClockWays_init_40 : decode prog_3_method_1_code 40 = .ok (.sipush 770, 3) := by decide +kernel
theorem d_ClockWays_init_43 : decode prog_3_method_1_code 43 = .ok (.newarray .int, 2) := by decide +kernel
theorem d_ClockWays_init_45 : decode prog_3_method_1_code 45 = .ok (.putfield 25, 3) := by decide +kernel
theorem d_ClockWays_init_48 : decode prog_3_method_1_code 48 = .ok (.aload_n 0, 1) := by decide +kernel
theorem d_ClockWays_init_49 : decode prog_3_method_1_code 49 = .ok (.sipush 770, 3) := by decide +kernel
theorem d_ClockWays_init_52 : decode prog_3_method_1_code 52 = .ok (.newarray .int, 2) := by decide +kernel
theorem d_ClockWays_init_54 : decode prog_3_method_1_code 54 = .ok (.putfield 28, 3) := by decide +kernel
theorem d_ClockWays_init_57 : decode prog_3_method_1_code 57 = .ok (.aload_n 0, 1) := by decide +kernel
theorem d_ClockWays_init_58 : decode prog_3_method_1_code 58 = .ok (.bipush 96, 2) := by decide +kernel
theorem d_ClockWays_init_60 : decode prog_3_method_1_code 60 = .ok (.newarray .int, 2) := by decide +kernel
theorem d_ClockWays_init_62 : decode prog_3_method_1_code 62 = .ok (.putfield 31, 3) := by decide +kernel
theorem d_ClockWays_init_65 : decode prog_3_method_1_code 65 = .ok (.aload_n 0, 1) := by decide +kernel
theorem d_ClockWays_init_66 : decode prog_3_method_1_code 66 = .ok (.sipush 770, 3) := by decide +kernel
theorem d_ClockWays_init_69 : decode prog_3_method_1_code 69 = .ok (.newarray .int, 2) := by decide +kernel
theorem d_ClockWays_init_71 : decode prog_3_method_1_code 71 = .ok (.putfield 34, 3) := by decide +kernel
theorem d_ClockWays_init_74 : decode prog_3_method_1_code 74 = .ok (.aload_n 0, 1) := by decide +kernel
theorem d_ClockWays_init_75 : decode prog_3_method_1_code 75 = .ok (.bipush 48, 2) := by decide +kernel
theorem d_ClockWays_init_77 : decode prog_3_method_1_code 77 = .ok (.newarray .int, 2) := by decide +kernel
theorem d_ClockWays_init_79 : decode prog_3_method_1_code 79 = .ok (.putfield 37, 3) := by decide +kernel
theorem d_ClockWays_init_82 : decode prog_3_method_1_code 82 = .ok (.aload_n 0, 1) := by decide +kernel
theorem d_ClockWays_init_83 : decode prog_3_method_1_code 83 = .ok (.sipush 384, 3) := by decide +kernel
theorem d_ClockWays_init_86 : decode prog_3_method_1_code 86 = .ok (.newarray .int, 2) := by decide +kernel
theorem d_ClockWays_init_88 : decode prog_3_method_1_code 88 = .ok (.putfield 40, 3) := by decide +kernel
theorem d_ClockWays_init_91 : decode prog_3_method_1_code 91 = .ok (.aload_n 0, 1) := by decide +kernel
theorem d_ClockWays_init_92 : decode prog_3_method_1_code 92 = .ok (.sipush 384, 3) := by decide +kernel
theorem d_ClockWays_init_95 : decode prog_3_method_1_code 95 = .ok (.newarray .int, 2) := by decide +kernel
theorem d_ClockWays_init_97 : decode prog_3_method_1_code 97 = .ok (.putfield 43, 3) := by decide +kernel
theorem d_ClockWays_init_100 : decode prog_3_method_1_code 100 = .ok (.aload_n 0, 1) := by decide +kernel
theorem d_ClockWays_init_101 : decode prog_3_method_1_code 101 = .ok (.sipush 384, 3) := by decide +kernel
theorem d_ClockWays_init_104 : decode prog_3_method_1_code 104 = .ok (.newarray .int, 2) := by decide +kernel
theorem d_ClockWays_init_106 : decode prog_3_method_1_code 106 = .ok (.putfield 46, 3) := by decide +kernel
theorem d_ClockWays_init_109 : decode prog_3_method_1_code 109 = .ok (.aload_n 0, 1) := by decide +kernel
theorem d_ClockWays_init_110 : decode prog_3_method_1_code 110 = .ok (.sipush 384, 3) := by decide +kernel
theorem d_ClockWays_init_113 : decode prog_3_method_1_code 113 = .ok (.newarray .int, 2) := by decide +kernel
theorem d_ClockWays_init_115 : decode prog_3_method_1_code 115 = .ok (.putfield 49, 3) := by decide +kernel
theorem d_ClockWays_init_118 : decode prog_3_method_1_code 118 = .ok (.aload_n 0, 1) := by decide +kernel
theorem d_ClockWays_init_119 : decode prog_3_method_1_code 119 = .ok (.aload_n 1, 1) := by decide +kernel
theorem d_ClockWays_init_120 : decode prog_3_method_1_code 120 = .ok (.putfield 52, 3) := by decide +kernel
theorem d_ClockWays_init_123 : decode prog_3_method_1_code 123 = .ok (.aload_n 0, 1) := by decide +kernel
theorem d_ClockWays_init_124 : decode prog_3_method_1_code 124 = .ok (.aload_n 2, 1) := by decide +kernel
theorem d_ClockWays_init_125 : decode prog_3_method_1_code 125 = .ok (.putfield 56, 3) := by decide +kernel
theorem d_ClockWays_init_128 : decode prog_3_method_1_code 128 = .ok (.aload_n 0, 1) := by decide +kernel
theorem d_ClockWays_init_129 : decode prog_3_method_1_code 129 = .ok (.new 60, 3) := by decide +kernel
theorem d_ClockWays_init_132 : decode prog_3_method_1_code 132 = .ok (.dup, 1) := by decide +kernel
theorem d_ClockWays_init_133 : decode prog_3_method_1_code 133 = .ok (.aload_n 1, 1) := by decide +kernel
theorem d_ClockWays_init_134 : decode prog_3_method_1_code 134 = .ok (.aload_n 2, 1) := by decide +kernel
theorem d_ClockWays_init_135 : decode prog_3_method_1_code 135 = .ok (.invokespecial 62, 3) := by decide +kernel
theorem d_ClockWays_init_138 : decode prog_3_method_1_code 138 = .ok (.putfield 65, 3) := by decide +kernel
theorem d_ClockWays_init_141 : decode prog_3_method_1_code 141 = .ok (.return_, 1) := by decide +kernel
theorem d_ClockWays_find_0 : decode prog_3_method_2_code 0 = .ok (.aload_n 0, 1) := by decide +kernel
theorem d_ClockWays_find_1 : decode prog_3_method_2_code 1 = .ok (.invokevirtual 69, 3) := by decide +kernel
theorem d_ClockWays_find_4 : decode prog_3_method_2_code 4 = .ok (.ifCond .eq 5, 3) := by decide +kernel
theorem d_ClockWays_find_7 : decode prog_3_method_2_code 7 = .ok (.iconst 0, 1) := by decide +kernel
theorem d_ClockWays_find_8 : decode prog_3_method_2_code 8 = .ok (.ireturn, 1) := by decide +kernel
theorem d_ClockWays_find_9 : decode prog_3_method_2_code 9 = .ok (.aload_n 0, 1) := by decide +kernel
theorem d_ClockWays_find_10 : decode prog_3_method_2_code 10 = .ok (.invokevirtual 73, 3) := by decide +kernel
theorem d_ClockWays_find_13 : decode prog_3_method_2_code 13 = .ok (.aload_n 0, 1) := by decide +kernel
theorem d_ClockWays_find_14 : decode prog_3_method_2_code 14 = .ok (.invokevirtual 76, 3) := by decide +kernel
theorem d_ClockWays_find_17 : decode prog_3_method_2_code 17 = .ok (.iconst 0, 1) := by decide +kernel
theorem d_ClockWays_find_18 : decode prog_3_method_2_code 18 = .ok (.istore_n 1, 1) := by decide +kernel
theorem d_ClockWays_find_19 : decode prog_3_method_2_code 19 = .ok (.iload_n 1, 1) := by decide +kernel
theorem d_ClockWays_find_20 : decode prog_3_method_2_code 20 = .ok (.aload_n 0, 1) := by decide +kernel
theorem d_ClockWays_find_21 : decode prog_3_method_2_code 21 = .ok (.getfield 52, 3) := by decide +kernel
theorem d_ClockWays_find_24 : decode prog_3_method_2_code 24 = .ok (.getfield 79, 3) := by decide +kernel
theorem d_ClockWays_find_27 : decode prog_3_method_2_code 27 = .ok (.if_icmp .ge 72, 3) := by decide +kernel
theorem d_ClockWays_find_30 : decode prog_3_method_2_code 30 = .ok (.aload_n 0, 1) := by decide +kernel
theorem d_ClockWays_find_31 : decode prog_3_method_2_code 31 = .ok (.getfield 37, 3) := by decide +kernel
theorem d_ClockWays_find_34 : decode prog_3_method_2_code 34 = .ok (.iload_n 1, 1) := by decide +kernel
theorem d_ClockWays_find_35 : decode prog_3_method_2_code 35 = .ok (.iconst 0, 1) := by decide +kernel
theorem d_ClockWays_find_36 : decode prog_3_method_2_code 36 = .ok (.iastore, 1) := by decide +kernel
theorem d_ClockWays_find_37 : decode prog_3_method_2_code 37 = .ok (.aload_n 0, 1) := by decide +kernel
theorem d_ClockWays_find_38 : decode prog_3_method_2_code 38 = .ok (.getfield 52, 3) := by decide +kernel
theorem d_ClockWays_find_41 : decode prog_3_method_2_code 41 = .ok (.getfield 85, 3) := by decide +kernel
theorem d_ClockWays_find_44 : decode prog_3_method_2_code 44 = .ok (.iload_n 1, 1) := by decide +kernel
theorem d_ClockWays_find_45 : decode prog_3_method_2_code 45 = .ok (.iaload, 1) := by decide +kernel
theorem d_ClockWays_find_46 : decode prog_3_method_2_code 46 = .ok (.iconst 3, 1) := by decide +kernel
theorem d_ClockWays_find_47 : decode prog_3_method_2_code 47 = .ok (.if_icmp .ne 11, 3) := by decide +kernel
theorem d_ClockWays_find_50 : decode prog_3_method_2_code 50 = .ok (.aload_n 0, 1) := by decide +kernel
theorem d_ClockWays_find_51 : decode prog_3_method_2_code 51 = .ok (.iload_n 1, 1) := by decide +kernel
theorem d_ClockWays_find_52 : decode prog_3_method_2_code 52 = .ok (.invokevirtual 88, 3) := by decide +kernel
theorem d_ClockWays_find_55 : decode prog_3_method_2_code 55 = .ok (.goto 38, 3) := by decide +kernel
theorem d_ClockWays_find_58 : decode prog_3_method_2_code 58 = .ok (.aload_n 0, 1) := by decide +kernel
theorem d_ClockWays_find_59 : decode prog_3_method_2_code 59 = .ok (.getfield 52, 3) := by decide +kernel
theorem d_ClockWays_find_62 : decode prog_3_method_2_code 62 = .ok (.getfield 85, 3) := by decide +kernel
theorem d_ClockWays_find_65 : decode prog_3_method_2_code 65 = .ok (.iload_n 1, 1) := by decide +kernel
theorem d_ClockWays_find_66 : decode prog_3_method_2_code 66 = .ok (.iaload, 1) := by decide +kernel
theorem d_ClockWays_find_67 : decode prog_3_method_2_code 67 = .ok (.iconst 1, 1) := by decide +kernel
theorem d_ClockWays_find_68 : decode prog_3_method_2_code 68 = .ok (.if_icmp .eq 16, 3) := by decide +kernel
theorem d_ClockWays_find_71 : decode prog_3_method_2_code 71 = .ok (.aload_n 0, 1) := by decide +kernel
theorem d_ClockWays_find_72 : decode prog_3_method_2_code 72 = .ok (.getfield 52, 3) := by decide +kernel
theorem d_ClockWays_find_75 : decode prog_3_method_2_code 75 = .ok (.getfield 85, 3) := by decide +kernel
theorem d_ClockWays_find_78 : decode prog_3_method_2_code 78 = .ok (.iload_n 1, 1) := by decide +kernel
theorem d_ClockWays_find_79 : decode prog_3_method_2_code 79 = .ok (.iaload, 1) := by decide +kernel
theorem d_ClockWays_find_80 : decode prog_3_method_2_code 80 = .ok (.iconst 4, 1) := by decide +kernel
theorem d_ClockWays_find_81 : decode prog_3_method_2_code 81 = .ok (.if_icmp .ne 12, 3) := by decide +kernel
theorem d_ClockWays_find_84 : decode prog_3_method_2_code 84 = .ok (.aload_n 0, 1) := by decide +kernel
theorem d_ClockWays_find_85 : decode prog_3_method_2_code 85 = .ok (.iload_n 1, 1) := by decide +kernel
theorem d_ClockWays_find_86 : decode prog_3_method_2_code 86 = .ok (.iconst (-1), 1) := by decide +kernel
theorem d_ClockWays_find_87 : decode prog_3_method_2_code 87 = .ok (.iconst 0, 1) := by decide +kernel
theorem d_ClockWays_find_88 : decode prog_3_method_2_code 88 = .ok (.iconst 0, 1) := by decide +kernel
theorem d_ClockWays_find_89 : decode prog_3_method_2_code 89 = .ok (.iconst 0, 1) := by decide +kernel
theorem d_ClockWays_find_90 : decode prog_3_method_2_code 90 = .ok (.invokevirtual 92, 3) := by decide +kernel
theorem d_ClockWays_find_93 : decode prog_3_method_2_code 93 = .ok (.iinc 1 1, 3) := by decide +kernel
theorem d_ClockWays_find_96 : decode prog_3_method_2_code 96 = .ok (.goto (-77), 3) := by decide +kernel
theorem d_ClockWays_find_99 : decode prog_3_method_2_code 99 = .ok (.iconst 1, 1) := by decide +kernel
theorem d_ClockWays_find_100 : decode prog_3_method_2_code 100 = .ok (.ireturn, 1) := by decide +kernel
theorem d_ClockWays_begins_0 : decode prog_3_method_3_code 0 = .ok (.aload_n 0, 1) := by decide +kernel
theorem d_ClockWays_begins_1 : decode prog_3_method_3_code 1 = .ok (.getfield 52, 3) := by decide +kernel
theorem d_ClockWays_begins_4 : decode prog_3_method_3_code 4 = .ok (.iload_n 1, 1) := by decide +kernel
theorem d_ClockWays_begins_5 : decode prog_3_method_3_code 5 = .ok (.invokevirtual 96, 3) := by decide +kernel
theorem d_ClockWays_begins_8 : decode prog_3_method_3_code 8 = .ok (.ifCond .eq 16, 3) := by decide +kernel
theorem d_ClockWays_begins_11 : decode prog_3_method_3_code 11 = .ok (.aload_n 0, 1) := by decide +kernel
theorem d_ClockWays_begins_12 : decode prog_3_method_3_code 12 = .ok (.getfield 37, 3) := by decide +kernel
theorem d_ClockWays_begins_15 : decode prog_3_method_3_code 15 = .ok (.iload_n 1, 1) := by decide +kernel
theorem d_ClockWays_begins_16 : decode prog_3_method_3_code 16 = .ok (.iaload, 1) := by decide +kernel
theorem d_ClockWays_begins_17 : decode prog_3_method_3_code 17 = .ok (.ifCond .le 7, 3) := by decide +kernel
theorem d_ClockWays_begins_20 : decode prog_3_method_3_code 20 = .ok (.iconst 1, 1) := by decide +kernel
theorem d_ClockWays_begins_21 : decode prog_3_method_3_code 21 = .ok (.goto 4, 3) := by decide +kernel
theorem d_ClockWays_begins_24 : decode prog_3_method_3_code 24 = .ok (.iconst 0, 1) := by decide +kernel
theorem d_ClockWays_begins_25 : decode prog_3_method_3_code 25 = .ok (.ireturn, 1) := by decide +kernel
theorem d_ClockWays_ends_0 : decode prog_3_method_4_code 0 = .ok (.aload_n 0, 1) := by decide +kernel
theorem d_ClockWays_ends_1 : decode prog_3_method_4_code 1 = .ok (.getfield 52, 3) := by decide +kernel
theorem d_ClockWays_ends_4 : decode prog_3_method_4_code 4 = .ok (.iload_n 1, 1) := by decide +kernel
theorem d_ClockWays_ends_5 : decode prog_3_method_4_code 5 = .ok (.invokevirtual 100, 3) := by decide +kernel
theorem d_ClockWays_ends_8 : decode prog_3_method_4_code 8 = .ok (.ifCond .eq 32, 3) := by decide +kernel
theorem d_ClockWays_ends_11 : decode prog_3_method_4_code 11 = .ok (.aload_n 0, 1) := by decide +kernel
theorem d_ClockWays_ends_12 : decode prog_3_method_4_code 12 = .ok (.getfield 37, 3) := by decide +kernel
theorem d_ClockWays_ends_15 : decode prog_3_method_4_code 15 = .ok (.iload_n 1, 1) := by decide +kernel
theorem d_ClockWays_ends_16 : decode prog_3_method_4_code 16 = .ok (.iaload, 1) := by decide +kernel
theorem d_ClockWays_ends_17 : decode prog_3_method_4_code 17 = .ok (.ifCond .le 23, 3) := by decide +kernel
theorem d_ClockWays_ends_20 : decode prog_3_method_4_code 20 = .ok (.aload_n 0, 1) := by decide +kernel
theorem d_ClockWays_ends_21 : decode prog_3_method_4_code 21 = .ok (.getfield 52, 3) := by decide +kernel
theorem d_ClockWays_ends_24 : decode prog_3_method_4_code 24 = .ok (.getfield 103, 3) := by decide +kernel
theorem d_ClockWays_ends_27 : decode prog_3_method_4_code 27 = .ok (.iload_n 1, 1) := by decide +kernel
theorem d_ClockWays_ends_28 : decode prog_3_method_4_code 28 = .ok (.iconst 3, 1) := by decide +kernel
theorem d_ClockWays_ends_29 : decode prog_3_method_4_code 29 = .ok (.imul, 1) := by decide +kernel
theorem d_ClockWays_ends_30 : decode prog_3_method_4_code 30 = .ok (.iconst 0, 1) := by decide +kernel
theorem d_ClockWays_ends_31 : decode prog_3_method_4_code 31 = .ok (.iadd, 1) := by decide +kernel
theorem d_ClockWays_ends_32 : decode prog_3_method_4_code 32 = .ok (.iaload, 1) := by decide +kernel
theorem d_ClockWays_ends_33 : decode prog_3_method_4_code 33 = .ok (.ifCond .lt 7, 3) := by decide +kernel
theorem d_ClockWays_ends_36 : decode prog_3_method_4_code 36 = .ok (.iconst 1, 1) := by decide +kernel
theorem d_ClockWays_ends_37 : decode prog_3_method_4_code 37 = .ok (.goto 4, 3) := by decide +kernel
theorem d_ClockWays_ends_40 : decode prog_3_method_4_code 40 = .ok (.iconst 0, 1) := by decide +kernel
theorem d_ClockWays_ends_41 : decode prog_3_method_4_code 41 = .ok (.ireturn, 1) := by decide +kernel
theorem d_ClockWays_credit_0 : decode prog_3_method_5_code 0 = .ok (.aload_n 0, 1) := by decide +kernel
theorem d_ClockWays_credit_1 : decode prog_3_method_5_code 1 = .ok (.getfield 40, 3) := by decide +kernel
theorem d_ClockWays_credit_4 : decode prog_3_method_5_code 4 = .ok (.iload_n 1, 1) := by decide +kernel
theorem d_ClockWays_credit_5 : decode prog_3_method_5_code 5 = .ok (.bipush 8, 2) := by decide +kernel
theorem d_ClockWays_credit_7 : decode prog_3_method_5_code 7 = .ok (.imul, 1) := by decide +kernel
theorem d_ClockWays_credit_8 : decode prog_3_method_5_code 8 = .ok (.iload_n 2, 1) := by decide +kernel
theorem d_ClockWays_credit_9 : decode prog_3_method_5_code 9 = .ok (.iadd, 1) := by decide +kernel
theorem d_ClockWays_credit_10 : decode prog_3_method_5_code 10 = .ok (.iaload, 1) := by decide +kernel
theorem d_ClockWays_credit_11 : decode prog_3_method_5_code 11 = .ok (.istore 5, 2) := by decide +kernel
theorem d_ClockWays_credit_13 : decode prog_3_method_5_code 13 = .ok (.aload_n 0, 1) := by decide +kernel
theorem d_ClockWays_credit_14 : decode prog_3_method_5_code 14 = .ok (.getfield 40, 3) := by decide +kernel
theorem d_ClockWays_credit_17 : decode prog_3_method_5_code 17 = .ok (.iload_n 3, 1) := by decide +kernel
theorem d_ClockWays_credit_18 : decode prog_3_method_5_code 18 = .ok (.bipush 8, 2) := by decide +kernel
theorem d_ClockWays_credit_20 : decode prog_3_method_5_code 20 = .ok (.imul, 1) := by decide +kernel
theorem d_ClockWays_credit_21 : decode prog_3_method_5_code 21 = .ok (.iload 4, 2) := by decide +kernel
theorem d_ClockWays_credit_23 : decode prog_3_method_5_code 23 = .ok (.iadd, 1) := by decide +kernel
theorem d_ClockWays_credit_24 : decode prog_3_method_5_code 24 = .ok (.iaload, 1) := by decide +kernel
theorem d_ClockWays_credit_25 : decode prog_3_method_5_code 25 = .ok (.istore 6, 2) := by decide +kernel
theorem d_ClockWays_credit_27 : decode prog_3_method_5_code 27 = .ok (.aload_n 0, 1) := by decide +kernel
theorem d_ClockWays_credit_28 : decode prog_3_method_5_code 28 = .ok (.iload 5, 2) := by decide +kernel
theorem d_ClockWays_credit_30 : decode prog_3_method_5_code 30 = .ok (.iload 6, 2) := by decide +kernel
theorem d_ClockWays_credit_32 : decode prog_3_method_5_code 32 = .ok (.invokevirtual 106, 3) := by decide +kernel
theorem d_ClockWays_credit_35 : decode prog_3_method_5_code 35 = .ok (.istore 7, 2) := by decide +kernel
theorem d_ClockWays_credit_37 : decode prog_3_method_5_code 37 = .ok (.iload 7, 2) := by decide +kernel
theorem d_ClockWays_credit_39 : decode prog_3_method_5_code 39 = .ok (.ifCond .ge 5, 3) := by decide +kernel
theorem d_ClockWays_credit_42 : decode prog_3_method_5_code 42 = .ok (.iconst 0, 1) := by decide +kernel
theorem d_ClockWays_credit_43 : decode prog_3_method_5_code 43 = .ok (.ireturn, 1) := by decide +kernel
theorem d_ClockWays_credit_44 : decode prog_3_method_5_code 44 = .ok (.aload_n 0, 1) := by decide +kernel
theorem d_ClockWays_credit_45 : decode prog_3_method_5_code 45 = .ok (.getfield 28, 3) := by decide +kernel
theorem d_ClockWays_credit_48 : decode prog_3_method_5_code 48 = .ok (.iload 7, 2) := by decide +kernel
theorem d_ClockWays_credit_50 : decode prog_3_method_5_code 50 = .ok (.iaload, 1) := by decide +kernel
theorem d_ClockWays_credit_51 : decode prog_3_method_5_code 51 = .ok (.aload_n 0, 1) := by decide +kernel
theorem d_ClockWays_credit_52 : decode prog_3_method_5_code 52 = .ok (.getfield 25, 3) := by decide +kernel
theorem d_ClockWays_credit_55 : decode prog_3_method_5_code 55 = .ok (.iload 7, 2) := by decide +kernel
theorem d_ClockWays_credit_57 : decode prog_3_method_5_code 57 = .ok (.iaload, 1) := by decide +kernel
theorem d_ClockWays_credit_58 : decode prog_3_method_5_code 58 = .ok (.isub, 1) := by decide +kernel
theorem d_ClockWays_credit_59 : decode prog_3_method_5_code 59 = .ok (.istore 8, 2) := by decide +kernel
theorem d_ClockWays_credit_61 : decode prog_3_method_5_code 61 = .ok (.iload_n 1, 1) := by decide +kernel
theorem d_ClockWays_credit_62 : decode prog_3_method_5_code 62 = .ok (.iload_n 3, 1) := by decide +kernel
theorem d_ClockWays_credit_63 : decode prog_3_method_5_code 63 = .ok (.if_icmp .ne 43, 3) := by decide +kernel
theorem d_ClockWays_credit_66 : decode prog_3_method_5_code 66 = .ok (.iload 5, 2) := by decide +kernel
theorem d_ClockWays_credit_68 : decode prog_3_method_5_code 68 = .ok (.iload 6, 2) := by decide +kernel
theorem d_ClockWays_credit_70 : decode prog_3_method_5_code 70 = .ok (.if_icmp .ne 36, 3) := by decide +kernel
theorem d_ClockWays_credit_73 : decode prog_3_method_5_code 73 = .ok (.iload_n 1, 1) := by decide +kernel
theorem d_ClockWays_credit_74 : decode prog_3_method_5_code 74 = .ok (.iconst 3, 1) := by decide +kernel
theorem d_ClockWays_credit_75 : decode prog_3_method_5_code 75 = .ok (.imul, 1) := by decide +kernel
theorem d_ClockWays_credit_76 : decode prog_3_method_5_code 76 = .ok (.iconst 1, 1) := by decide +kernel
theorem d_ClockWays_credit_77 : decode prog_3_method_5_code 77 = .ok (.iadd, 1) := by decide +kernel
theorem d_ClockWays_credit_78 : decode prog_3_method_5_code 78 = .ok (.istore 9, 2) := by decide +kernel
theorem d_ClockWays_credit_80 : decode prog_3_method_5_code 80 = .ok (.iload 8, 2) := by decide +kernel
theorem d_ClockWays_credit_82 : decode prog_3_method_5_code 82 = .ok (.aload_n 0, 1) := by decide +kernel
theorem d_ClockWays_credit_83 : decode prog_3_method_5_code 83 = .ok (.getfield 52, 3) := by decide +kernel
theorem d_ClockWays_credit_86 : decode prog_3_method_5_code 86 = .ok (.getfield 110, 3) := by decide +kernel
theorem d_ClockWays_credit_89 : decode prog_3_method_5_code 89 = .ok (.iload 9, 2) := by decide +kernel
theorem d_ClockWays_credit_91 : decode prog_3_method_5_code 91 = .ok (.iaload, 1) := by decide +kernel
theorem d_ClockWays_credit_92 : decode prog_3_method_5_code 92 = .ok (.aload_n 0, 1) := by decide +kernel
theorem d_ClockWays_credit_93 : decode prog_3_method_5_code 93 = .ok (.getfield 52, 3) := by decide +kernel
theorem d_ClockWays_credit_96 : decode prog_3_method_5_code 96 = .ok (.getfield 113, 3) := by decide +kernel
theorem d_ClockWays_credit_99 : decode prog_3_method_5_code 99 = .ok (.iload 9, 2) := by decide +kernel
theorem d_ClockWays_credit_101 : decode prog_3_method_5_code 101 = .ok (.iaload, 1) := by decide +kernel
theorem d_ClockWays_credit_102 : decode prog_3_method_5_code 102 = .ok (.isub, 1) := by decide +kernel
theorem d_ClockWays_credit_103 : decode prog_3_method_5_code 103 = .ok (.iadd, 1) := by decide +kernel
theorem d_ClockWays_credit_104 : decode prog_3_method_5_code 104 = .ok (.istore 8, 2) := by decide +kernel
theorem d_ClockWays_credit_106 : decode prog_3_method_5_code 106 = .ok (.iload 8, 2) := by decide +kernel
theorem d_ClockWays_credit_108 : decode prog_3_method_5_code 108 = .ok (.ireturn, 1) := by decide +kernel
theorem d_ClockWays_write_0 : decode prog_3_method_6_code 0 = .ok (.aload_n 0, 1) := by decide +kernel
theorem d_ClockWays_write_1 : decode prog_3_method_6_code 1 = .ok (.getfield 40, 3) := by decide +kernel
theorem d_ClockWays_write_4 : decode prog_3_method_6_code 4 = .ok (.iload_n 1, 1) := by decide +kernel
theorem d_ClockWays_write_5 : decode prog_3_method_6_code 5 = .ok (.bipush 8, 2) := by decide +kernel
theorem d_ClockWays_write_7 : decode prog_3_method_6_code 7 = .ok (.imul, 1) := by decide +kernel
theorem d_ClockWays_write_8 : decode prog_3_method_6_code 8 = .ok (.iload_n 2, 1) := by decide +kernel
theorem d_ClockWays_write_9 : decode prog_3_method_6_code 9 = .ok (.iadd, 1) := by decide +kernel
theorem d_ClockWays_write_10 : decode prog_3_method_6_code 10 = .ok (.iaload, 1) := by decide +kernel
theorem d_ClockWays_write_11 : decode prog_3_method_6_code 11 = .ok (.istore 5, 2) := by decide +kernel
theorem d_ClockWays_write_13 : decode prog_3_method_6_code 13 = .ok (.iload 5, 2) := by decide +kernel
theorem d_ClockWays_write_15 : decode prog_3_method_6_code 15 = .ok (.ifCond .ge 6, 3) := by decide +kernel
theorem d_ClockWays_write_18 : decode prog_3_method_6_code 18 = .ok (.iload 4, 2) := by decide +kernel
theorem d_ClockWays_write_20 : decode prog_3_method_6_code 20 = .ok (.ireturn, 1) := by decide +kernel
theorem d_ClockWays_write_21 : decode prog_3_method_6_code 21 = .ok (.iload 4, 2) := by decide +kernel
theorem d_ClockWays_write_23 : decode prog_3_method_6_code 23 = .ok (.aload_n 0, 1) := by decide +kernel
theorem d_ClockWays_write_24 : decode prog_3_method_6_code 24 = .ok (.getfield 22, 3) := by decide +kernel
theorem d_ClockWays_write_27 : decode prog_3_method_6_code 27 = .ok (.iload 5, 2) := by decide +kernel
theorem d_ClockWays_write_29 : decode prog_3_method_6_code 29 = .ok (.iaload, 1) := by decide +kernel
theorem d_ClockWays_write_30 : decode prog_3_method_6_code 30 = .ok (.iadd, 1) := by decide +kernel
theorem d_ClockWays_write_31 : decode prog_3_method_6_code 31 = .ok (.istore 6, 2) := by decide +kernel
theorem d_ClockWays_write_33 : decode prog_3_method_6_code 33 = .ok (.iload 6, 2) := by decide +kernel
theorem d_ClockWays_write_35 : decode prog_3_method_6_code 35 = .ok (.iconst 1, 1) := by decide +kernel
theorem d_ClockWays_write_36 : decode prog_3_method_6_code 36 = .ok (.isub, 1) := by decide +kernel
theorem d_ClockWays_write_37 : decode prog_3_method_6_code 37 = .ok (.istore 7, 2) := by decide +kernel
theorem d_ClockWays_write_39 : decode prog_3_method_6_code 39 = .ok (.iload 7, 2) := by decide +kernel
theorem d_ClockWays_write_41 : decode prog_3_method_6_code 41 = .ok (.iload 4, 2) := by decide +kernel
theorem d_ClockWays_write_43 : decode prog_3_method_6_code 43 = .ok (.if_icmp .lt 34, 3) := by decide +kernel
theorem d_ClockWays_write_46 : decode prog_3_method_6_code 46 = .ok (.iload 5, 2) := by decide +kernel
theorem d_ClockWays_write_48 : decode prog_3_method_6_code 48 = .ok (.ifCond .lt 29, 3) := by decide +kernel
theorem d_ClockWays_write_51 : decode prog_3_method_6_code 51 = .ok (.aload_n 3, 1) := by decide +kernel
theorem d_ClockWays_write_52 : decode prog_3_method_6_code 52 = .ok (.iload 7, 2) := by decide +kernel
theorem d_ClockWays_write_54 : decode prog_3_method_6_code 54 = .ok (.aload_n 0, 1) := by decide +kernel
theorem d_ClockWays_write_55 : decode prog_3_method_6_code 55 = .ok (.getfield 15, 3) := by decide +kernel
theorem d_ClockWays_write_58 : decode prog_3_method_6_code 58 = .ok (.iload 5, 2) := by decide +kernel
theorem d_ClockWays_write_60 : decode prog_3_method_6_code 60 = .ok (.iaload, 1) := by decide +kernel
theorem d_ClockWays_write_61 : decode prog_3_method_6_code 61 = .ok (.iastore, 1) := by decide +kernel
theorem d_ClockWays_write_62 : decode prog_3_method_6_code 62 = .ok (.aload_n 0, 1) := by decide +kernel
theorem d_ClockWays_write_63 : decode prog_3_method_6_code 63 = .ok (.getfield 19, 3) := by decide +kernel
theorem d_ClockWays_write_66 : decode prog_3_method_6_code 66 = .ok (.iload 5, 2) := by decide +kernel
theorem d_ClockWays_write_68 : decode prog_3_method_6_code 68 = .ok (.iaload, 1) := by decide +kernel
theorem d_ClockWays_write_69 : decode prog_3_method_6_code 69 = .ok (.istore 5, 2) := by decide +kernel
theorem d_ClockWays_write_71 : decode prog_3_method_6_code 71 = .ok (.iinc 7 (-1), 3) := by decide +kernel
theorem d_ClockWays_write_74 : decode prog_3_method_6_code 74 = .ok (.goto (-35), 3) := by decide +kernel
theorem d_ClockWays_write_77 : decode prog_3_method_6_code 77 = .ok (.iload 6, 2) := by decide +kernel
theorem d_ClockWays_write_79 : decode prog_3_method_6_code 79 = .ok (.ireturn, 1) := by decide +kernel
theorem d_ClockWays_isTangled_0 : decode prog_3_method_7_code 0 = .ok (.aload_n 0, 1) := by decide +kernel
theorem d_ClockWays_isTangled_1 : decode prog_3_method_7_code 1 = .ok (.getfield 65, 3) := by decide +kernel
theorem d_ClockWays_isTangled_4 : decode prog_3_method_7_code 4 = .ok (.invokevirtual 116, 3) := by decide +kernel
theorem d_ClockWays_isTangled_7 : decode prog_3_method_7_code 7 = .ok (.aload_n 0, 1) := by decide +kernel
theorem d_ClockWays_isTangled_8 : decode prog_3_method_7_code 8 = .ok (.getfield 65, 3) := by decide +kernel
theorem d_ClockWays_isTangled_11 : decode prog_3_method_7_code 11 = .ok (.iconst 0, 1) := by decide +kernel
theorem d_ClockWays_isTangled_12 : decode prog_3_method_7_code 12 = .ok (.iconst 1, 1) := by decide +kernel
theorem d_ClockWays_isTangled_13 : decode prog_3_method_7_code 13 = .ok (.iconst 0, 1) := by decide +kernel
theorem d_ClockWays_isTangled_14 : decode prog_3_method_7_code 14 = .ok (.iconst 0, 1) := by decide +kernel
theorem d_ClockWays_isTangled_15 : decode prog_3_method_7_code 15 = .ok (.invokevirtual 119, 3) := by decide +kernel
theorem d_ClockWays_isTangled_18 : decode prog_3_method_7_code 18 = .ok (.aload_n 0, 1) := by decide +kernel
theorem d_ClockWays_isTangled_19 : decode prog_3_method_7_code 19 = .ok (.getfield 65, 3) := by decide +kernel
theorem d_ClockWays_isTangled_22 : decode prog_3_method_7_code 22 = .ok (.iconst 1, 1) := by decide +kernel
theorem d_ClockWays_isTangled_23 : decode prog_3_method_7_code 23 = .ok (.iconst 1, 1) := by decide +kernel
theorem d_ClockWays_isTangled_24 : decode prog_3_method_7_code 24 = .ok (.iconst 0, 1) := by decide +kernel
theorem d_ClockWays_isTangled_25 : decode prog_3_method_7_code 25 = .ok (.iconst 0, 1) := by decide +kernel
theorem d_ClockWays_isTangled_26 : decode prog_3_method_7_code 26 = .ok (.invokevirtual 119, 3) := by decide +kernel
theorem d_ClockWays_isTangled_29 : decode prog_3_method_7_code 29 = .ok (.aload_n 0, 1) := by decide +kernel
theorem d_ClockWays_isTangled_30 : decode prog_3_method_7_code 30 = .ok (.getfield 65, 3) := by decide +kernel
theorem d_ClockWays_isTangled_33 : decode prog_3_method_7_code 33 = .ok (.invokevirtual 123, 3) := by decide +kernel
theorem d_ClockWays_isTangled_36 : decode prog_3_method_7_code 36 = .ok (.iconst 0, 1) := by decide +kernel
theorem d_ClockWays_isTangled_37 : decode prog_3_method_7_code 37 = .ok (.istore_n 1, 1) := by decide +kernel
theorem d_ClockWays_isTangled_38 : decode prog_3_method_7_code 38 = .ok (.iload_n 1, 1) := by decide +kernel
theorem d_ClockWays_isTangled_39 : decode prog_3_method_7_code 39 = .ok (.aload_n 0, 1) := by decide +kernel
theorem d_ClockWays_isTangled_40 : decode prog_3_method_7_code 40 = .ok (.getfield 52, 3) := by decide +kernel
theorem d_ClockWays_isTangled_43 : decode prog_3_method_7_code 43 = .ok (.getfield 79, 3) := by decide +kernel
theorem d_ClockWays_isTangled_46 : decode prog_3_method_7_code 46 = .ok (.if_icmp .ge 60, 3) := by decide +kernel
theorem d_ClockWays_isTangled_49 : decode prog_3_method_7_code 49 = .ok (.aload_n 0, 1) := by decide +kernel
theorem d_ClockWays_isTangled_50 : decode prog_3_method_7_code 50 = .ok (.getfield 52, 3) := by decide +kernel
theorem d_ClockWays_isTangled_53 : decode prog_3_method_7_code 53 = .ok (.getfield 103, 3) := by decide +kernel
theorem d_ClockWays_isTangled_56 : decode prog_3_method_7_code 56 = .ok (.iload_n 1, 1) := by decide +kernel
theorem d_ClockWays_isTangled_57 : decode prog_3_method_7_code 57 = .ok (.iconst 3, 1) := by decide +kernel
theorem d_ClockWays_isTangled_58 : decode prog_3_method_7_code 58 = .ok (.imul, 1) := by decide +kernel
theorem d_ClockWays_isTangled_59 : decode prog_3_method_7_code 59 = .ok (.iconst 1, 1) := by decide +kernel
theorem d_ClockWays_isTangled_60 : decode prog_3_method_7_code 60 = .ok (.iadd, 1) := by decide +kernel
theorem d_ClockWays_isTangled_61 : decode prog_3_method_7_code 61 = .ok (.iaload, 1) := by decide +kernel
theorem d_ClockWays_isTangled_62 : decode prog_3_method_7_code 62 = .ok (.istore_n 2, 1) := by decide +kernel
theorem d_ClockWays_isTangled_63 : decode prog_3_method_7_code 63 = .ok (.aload_n 0, 1) := by decide +kernel
theorem d_ClockWays_isTangled_64 : decode prog_3_method_7_code 64 = .ok (.getfield 52, 3) := by decide +kernel
theorem d_ClockWays_isTangled_67 : decode prog_3_method_7_code 67 = .ok (.getfield 85, 3) := by decide +kernel
theorem d_ClockWays_isTangled_70 : decode prog_3_method_7_code 70 = .ok (.iload_n 1, 1) := by decide +kernel
theorem d_ClockWays_isTangled_71 : decode prog_3_method_7_code 71 = .ok (.iaload, 1) := by decide +kernel
theorem d_ClockWays_isTangled_72 : decode prog_3_method_7_code 72 = .ok (.iconst 3, 1) := by decide +kernel
theorem d_ClockWays_isTangled_73 : decode prog_3_method_7_code 73 = .ok (.if_icmp .ne 27, 3) := by decide +kernel
theorem d_ClockWays_isTangled_76 : decode prog_3_method_7_code 76 = .ok (.iload_n 2, 1) := by decide +kernel
theorem d_ClockWays_isTangled_77 : decode prog_3_method_7_code 77 = .ok (.ifCond .lt 23, 3) := by decide +kernel
theorem d_ClockWays_isTangled_80 : decode prog_3_method_7_code 80 = .ok (.aload_n 0, 1) := by decide +kernel
theorem d_ClockWays_isTangled_81 : decode prog_3_method_7_code 81 = .ok (.getfield 65, 3) := by decide +kernel
theorem d_ClockWays_isTangled_84 : decode prog_3_method_7_code 84 = .ok (.getfield 126, 3) := by decide +kernel
theorem d_ClockWays_isTangled_87 : decode prog_3_method_7_code 87 = .ok (.iconst 2, 1) := by decide +kernel
theorem d_ClockWays_isTangled_88 : decode prog_3_method_7_code 88 = .ok (.iload_n 2, 1) := by decide +kernel
theorem d_ClockWays_isTangled_89 : decode prog_3_method_7_code 89 = .ok (.imul, 1) := by decide +kernel
theorem d_ClockWays_isTangled_90 : decode prog_3_method_7_code 90 = .ok (.iconst 0, 1) := by decide +kernel
theorem d_ClockWays_isTangled_91 : decode prog_3_method_7_code 91 = .ok (.iadd, 1) := by decide +kernel
theorem d_ClockWays_isTangled_92 : decode prog_3_method_7_code 92 = .ok (.iaload, 1) := by decide +kernel
theorem d_ClockWays_isTangled_93 : decode prog_3_method_7_code 93 = .ok (.bipush 8, 2) := by decide +kernel
theorem d_ClockWays_isTangled_95 : decode prog_3_method_7_code 95 = .ok (.if_icmp .le 5, 3) := by decide +kernel
theorem d_ClockWays_isTangled_98 : decode prog_3_method_7_code 98 = .ok (.iconst 1, 1) := by decide +kernel
theorem d_ClockWays_isTangled_99 : decode prog_3_method_7_code 99 = .ok (.ireturn, 1) := by decide +kernel
theorem d_ClockWays_isTangled_100 : decode prog_3_method_7_code 100 = .ok (.iinc 1 1, 3) := by decide +kernel
theorem d_ClockWays_isTangled_103 : decode prog_3_method_7_code 103 = .ok (.goto (-65), 3) := by decide +kernel
theorem d_ClockWays_isTangled_106 : decode prog_3_method_7_code 106 = .ok (.iconst 0, 1) := by decide +kernel
theorem d_ClockWays_isTangled_107 : decode prog_3_method_7_code 107 = .ok (.ireturn, 1) := by decide +kernel
theorem d_ClockWays_markNeeded_0 : decode prog_3_method_8_code 0 = .ok (.iconst 0, 1) := by decide +kernel
theorem d_ClockWays_markNeeded_1 : decode prog_3_method_8_code 1 = .ok (.istore_n 1, 1) := by decide +kernel
theorem d_ClockWays_markNeeded_2 : decode prog_3_method_8_code 2 = .ok (.iload_n 1, 1) := by decide +kernel
theorem d_ClockWays_markNeeded_3 : decode prog_3_method_8_code 3 = .ok (.bipush 96, 2) := by decide +kernel
theorem d_ClockWays_markNeeded_5 : decode prog_3_method_8_code 5 = .ok (.if_icmp .ge 16, 3) := by decide +kernel
theorem d_ClockWays_markNeeded_8 : decode prog_3_method_8_code 8 = .ok (.aload_n 0, 1) := by decide +kernel
theorem d_ClockWays_markNeeded_9 : decode prog_3_method_8_code 9 = .ok (.getfield 9, 3) := by decide +kernel
theorem d_ClockWays_markNeeded_12 : decode prog_3_method_8_code 12 = .ok (.iload_n 1, 1) := by decide +kernel
theorem d_ClockWays_markNeeded_13 : decode prog_3_method_8_code 13 = .ok (.iconst 0, 1) := by decide +kernel
theorem d_ClockWays_markNeeded_14 : decode prog_3_method_8_code 14 = .ok (.bastore, 1) := by decide +kernel
theorem d_ClockWays_markNeeded_15 : decode prog_3_method_8_code 15 = .ok (.iinc 1 1, 3) := by decide +kernel
theorem d_ClockWays_markNeeded_18 : decode prog_3_method_8_code 18 = .ok (.goto (-16), 3) := by decide +kernel
theorem d_ClockWays_markNeeded_21 : decode prog_3_method_8_code 21 = .ok (.iconst 0, 1) := by decide +kernel
theorem d_ClockWays_markNeeded_22 : decode prog_3_method_8_code 22 = .ok (.istore_n 1, 1) := by decide +kernel
theorem d_ClockWays_markNeeded_23 : decode prog_3_method_8_code 23 = .ok (.iload_n 1, 1) := by decide +kernel
theorem d_ClockWays_markNeeded_24 : decode prog_3_method_8_code 24 = .ok (.aload_n 0, 1) := by decide +kernel
theorem d_ClockWays_markNeeded_25 : decode prog_3_method_8_code 25 = .ok (.getfield 52, 3) := by decide +kernel
theorem d_ClockWays_markNeeded_28 : decode prog_3_method_8_code 28 = .ok (.getfield 79, 3) := by decide +kernel
theorem d_ClockWays_markNeeded_31 : decode prog_3_method_8_code 31 = .ok (.if_icmp .ge 51, 3) := by decide +kernel
theorem d_ClockWays_markNeeded_34 : decode prog_3_method_8_code 34 = .ok (.aload_n 0, 1) := by decide +kernel
theorem d_ClockWays_markNeeded_35 : decode prog_3_method_8_code 35 = .ok (.getfield 52, 3) := by decide +kernel
theorem d_ClockWays_markNeeded_38 : decode prog_3_method_8_code 38 = .ok (.getfield 103, 3) := by decide +kernel
theorem d_ClockWays_markNeeded_41 : decode prog_3_method_8_code 41 = .ok (.iload_n 1, 1) := by decide +kernel
theorem d_ClockWays_markNeeded_42 : decode prog_3_method_8_code 42 = .ok (.iconst 3, 1) := by decide +kernel
theorem d_ClockWays_markNeeded_43 : decode prog_3_method_8_code 43 = .ok (.imul, 1) := by decide +kernel
theorem d_ClockWays_markNeeded_44 : decode prog_3_method_8_code 44 = .ok (.iconst 1, 1) := by decide +kernel
theorem d_ClockWays_markNeeded_45 : decode prog_3_method_8_code 45 = .ok (.iadd, 1) := by decide +kernel
theorem d_ClockWays_markNeeded_46 : decode prog_3_method_8_code 46 = .ok (.iaload, 1) := by decide +kernel
theorem d_ClockWays_markNeeded_47 : decode prog_3_method_8_code 47 = .ok (.istore_n 2, 1) := by decide +kernel
theorem d_ClockWays_markNeeded_48 : decode prog_3_method_8_code 48 = .ok (.aload_n 0, 1) := by decide +kernel
theorem d_ClockWays_markNeeded_49 : decode prog_3_method_8_code 49 = .ok (.getfield 52, 3) := by decide +kernel
theorem d_ClockWays_markNeeded_52 : decode prog_3_method_8_code 52 = .ok (.getfield 85, 3) := by decide +kernel
theorem d_ClockWays_markNeeded_55 : decode prog_3_method_8_code 55 = .ok (.iload_n 1, 1) := by decide +kernel
theorem d_ClockWays_markNeeded_56 : decode prog_3_method_8_code 56 = .ok (.iaload, 1) := by decide +kernel
theorem d_ClockWays_markNeeded_57 : decode prog_3_method_8_code 57 = .ok (.iconst 3, 1) := by decide +kernel
theorem d_ClockWays_markNeeded_58 : decode prog_3_method_8_code 58 = .ok (.if_icmp .ne 18, 3) := by decide +kernel
theorem d_ClockWays_markNeeded_61 : decode prog_3_method_8_code 61 = .ok (.iload_n 2, 1) := by decide +kernel
theorem d_ClockWays_markNeeded_62 : decode prog_3_method_8_code 62 = .ok (.ifCond .lt 14, 3) := by decide +kernel
theorem d_ClockWays_markNeeded_65 : decode prog_3_method_8_code 65 = .ok (.aload_n 0, 1) := by decide +kernel
theorem d_ClockWays_markNeeded_66 : decode prog_3_method_8_code 66 = .ok (.getfield 9, 3) := by decide +kernel
theorem d_ClockWays_markNeeded_69 : decode prog_3_method_8_code 69 = .ok (.iconst 2, 1) := by decide +kernel
theorem d_ClockWays_markNeeded_70 : decode prog_3_method_8_code 70 = .ok (.iload_n 2, 1) := by decide +kernel
theorem d_ClockWays_markNeeded_71 : decode prog_3_method_8_code 71 = .ok (.imul, 1) := by decide +kernel
theorem d_ClockWays_markNeeded_72 : decode prog_3_method_8_code 72 = .ok (.iconst 0, 1) := by decide +kernel
theorem d_ClockWays_markNeeded_73 : decode prog_3_method_8_code 73 = .ok (.iadd, 1) := by decide +kernel
theorem d_ClockWays_markNeeded_74 : decode prog_3_method_8_code 74 = .ok (.iconst 1, 1) := by decide +kernel
theorem d_ClockWays_markNeeded_75 : decode prog_3_method_8_code 75 = .ok (.bastore, 1) := by decide +kernel
theorem d_ClockWays_markNeeded_76 : decode prog_3_method_8_code 76 = .ok (.iinc 1 1, 3) := by decide +kernel
theorem d_ClockWays_markNeeded_79 : decode prog_3_method_8_code 79 = .ok (.goto (-56), 3) := by decide +kernel
theorem d_ClockWays_markNeeded_82 : decode prog_3_method_8_code 82 = .ok (.aload_n 0, 1) := by decide +kernel
theorem d_ClockWays_markNeeded_83 : decode prog_3_method_8_code 83 = .ok (.getfield 56, 3) := by decide +kernel
theorem d_ClockWays_markNeeded_86 : decode prog_3_method_8_code 86 = .ok (.getfield 127, 3) := by decide +kernel
theorem d_ClockWays_markNeeded_89 : decode prog_3_method_8_code 89 = .ok (.iconst 1, 1) := by decide +kernel
theorem d_ClockWays_markNeeded_90 : decode prog_3_method_8_code 90 = .ok (.isub, 1) := by decide +kernel
theorem d_ClockWays_markNeeded_91 : decode prog_3_method_8_code 91 = .ok (.istore_n 1, 1) := by decide +kernel
theorem d_ClockWays_markNeeded_92 : decode prog_3_method_8_code 92 = .ok (.iload_n 1, 1) := by decide +kernel
theorem d_ClockWays_markNeeded_93 : decode prog_3_method_8_code 93 = .ok (.ifCond .lt 52, 3) := by decide +kernel
theorem d_ClockWays_markNeeded_96 : decode prog_3_method_8_code 96 = .ok (.iconst 0, 1) := by decide +kernel
theorem d_ClockWays_markNeeded_97 : decode prog_3_method_8_code 97 = .ok (.istore_n 2, 1) := by decide +kernel
theorem d_ClockWays_markNeeded_98 : decode prog_3_method_8_code 98 = .ok (.iload_n 2, 1) := by decide +kernel
theorem d_ClockWays_markNeeded_99 : decode prog_3_method_8_code 99 = .ok (.aload_n 0, 1) := by decide +kernel
theorem d_ClockWays_markNeeded_100 : decode prog_3_method_8_code 100 = .ok (.getfield 52, 3) := by decide +kernel
theorem d_ClockWays_markNeeded_103 : decode prog_3_method_8_code 103 = .ok (.getfield 131, 3) := by decide +kernel
theorem d_ClockWays_markNeeded_106 : decode prog_3_method_8_code 106 = .ok (.aload_n 0, 1) := by decide +kernel
theorem d_ClockWays_markNeeded_107 : decode prog_3_method_8_code 107 = .ok (.getfield 56, 3) := by decide +kernel
theorem d_ClockWays_markNeeded_110 : decode prog_3_method_8_code 110 = .ok (.getfield 134, 3) := by decide +kernel
theorem d_ClockWays_markNeeded_113 : decode prog_3_method_8_code 113 = .ok (.iload_n 1, 1) := by decide +kernel
theorem d_ClockWays_markNeeded_114 : decode prog_3_method_8_code 114 = .ok (.iaload, 1) := by decide +kernel
theorem d_ClockWays_markNeeded_115 : decode prog_3_method_8_code 115 = .ok (.iaload, 1) := by decide +kernel
theorem d_ClockWays_markNeeded_116 : decode prog_3_method_8_code 116 = .ok (.if_icmp .ge 23, 3) := by decide +kernel
theorem d_ClockWays_markNeeded_119 : decode prog_3_method_8_code 119 = .ok (.aload_n 0, 1) := by decide +kernel
theorem d_ClockWays_markNeeded_120 : decode prog_3_method_8_code 120 = .ok (.aload_n 0, 1) := by decide +kernel
theorem d_ClockWays_markNeeded_121 : decode prog_3_method_8_code 121 = .ok (.getfield 56, 3) := by decide +kernel
theorem d_ClockWays_markNeeded_124 : decode prog_3_method_8_code 124 = .ok (.getfield 134, 3) := by decide +kernel
theorem d_ClockWays_markNeeded_127 : decode prog_3_method_8_code 127 = .ok (.iload_n 1, 1) := by decide +kernel
theorem d_ClockWays_markNeeded_128 : decode prog_3_method_8_code 128 = .ok (.iaload, 1) := by decide +kernel
theorem d_ClockWays_markNeeded_129 : decode prog_3_method_8_code 129 = .ok (.iload_n 2, 1) := by decide +kernel
theorem d_ClockWays_markNeeded_130 : decode prog_3_method_8_code 130 = .ok (.invokevirtual 137, 3) := by decide +kernel
theorem d_ClockWays_markNeeded_133 : decode prog_3_method_8_code 133 = .ok (.iinc 2 1, 3) := by decide +kernel
theorem d_ClockWays_markNeeded_136 : decode prog_3_method_8_code 136 = .ok (.goto (-38), 3) := by decide +kernel
theorem d_ClockWays_markNeeded_139 : decode prog_3_method_8_code 139 = .ok (.iinc 1 (-1), 3) := by decide +kernel
theorem d_ClockWays_markNeeded_142 : decode prog_3_method_8_code 142 = .ok (.goto (-50), 3) := by decide +kernel
theorem d_ClockWays_markNeeded_145 : decode prog_3_method_8_code 145 = .ok (.return_, 1) := by decide +kernel
theorem d_ClockWays_markNeededBy_0 : decode prog_3_method_9_code 0 = .ok (.iload_n 1, 1) := by decide +kernel
theorem d_ClockWays_markNeededBy_1 : decode prog_3_method_9_code 1 = .ok (.iconst 3, 1) := by decide +kernel
theorem d_ClockWays_markNeededBy_2 : decode prog_3_method_9_code 2 = .ok (.imul, 1) := by decide +kernel
theorem d_ClockWays_markNeededBy_3 : decode prog_3_method_9_code 3 = .ok (.iload_n 2, 1) := by decide +kernel
theorem d_ClockWays_markNeededBy_4 : decode prog_3_method_9_code 4 = .ok (.iadd, 1) := by decide +kernel
theorem d_ClockWays_markNeededBy_5 : decode prog_3_method_9_code 5 = .ok (.istore_n 3, 1) := by decide +kernel
theorem d_ClockWays_markNeededBy_6 : decode prog_3_method_9_code 6 = .ok (.aload_n 0, 1) := by decide +kernel
theorem d_ClockWays_markNeededBy_7 : decode prog_3_method_9_code 7 = .ok (.getfield 52, 3) := by decide +kernel
theorem d_ClockWays_markNeededBy_10 : decode prog_3_method_9_code 10 = .ok (.getfield 103, 3) := by decide +kernel
theorem d_ClockWays_markNeededBy_13 : decode prog_3_method_9_code 13 = .ok (.iload_n 3, 1) := by decide +kernel
theorem d_ClockWays_markNeededBy_14 : decode prog_3_method_9_code 14 = .ok (.iaload, 1) := by decide +kernel
theorem d_ClockWays_markNeededBy_15 : decode prog_3_method_9_code 15 = .ok (.ifCond .ge 4, 3) := by decide +kernel
theorem d_ClockWays_markNeededBy_18 : decode prog_3_method_9_code 18 = .ok (.return_, 1) := by decide +kernel
theorem d_ClockWays_markNeededBy_19 : decode prog_3_method_9_code 19 = .ok (.iconst 0, 1) := by decide +kernel
theorem d_ClockWays_markNeededBy_20 : decode prog_3_method_9_code 20 = .ok (.istore 4, 2) := by decide +kernel
theorem d_ClockWays_markNeededBy_22 : decode prog_3_method_9_code 22 = .ok (.iload 4, 2) := by decide +kernel
theorem d_ClockWays_markNeededBy_24 : decode prog_3_method_9_code 24 = .ok (.iconst 2, 1) := by decide +kernel
theorem d_ClockWays_markNeededBy_25 : decode prog_3_method_9_code 25 = .ok (.if_icmp .ge 73, 3) := by decide +kernel
theorem d_ClockWays_markNeededBy_28 : decode prog_3_method_9_code 28 = .ok (.iconst 0, 1) := by decide +kernel
theorem d_ClockWays_markNeededBy_29 : decode prog_3_method_9_code 29 = .ok (.istore 5, 2) := by decide +kernel
theorem d_ClockWays_markNeededBy_31 : decode prog_3_method_9_code 31 = .ok (.iload 5, 2) := by decide +kernel
theorem d_ClockWays_markNeededBy_33 : decode prog_3_method_9_code 33 = .ok (.iconst 2, 1) := by decide +kernel
theorem d_ClockWays_markNeededBy_34 : decode prog_3_method_9_code 34 = .ok (.if_icmp .ge 58, 3) := by decide +kernel
theorem d_ClockWays_markNeededBy_37 : decode prog_3_method_9_code 37 = .ok (.aload_n 0, 1) := by decide +kernel
theorem d_ClockWays_markNeededBy_38 : decode prog_3_method_9_code 38 = .ok (.getfield 9, 3) := by decide +kernel
theorem d_ClockWays_markNeededBy_41 : decode prog_3_method_9_code 41 = .ok (.iconst 2, 1) := by decide +kernel
theorem d_ClockWays_markNeededBy_42 : decode prog_3_method_9_code 42 = .ok (.iload_n 1, 1) := by decide +kernel
theorem d_ClockWays_markNeededBy_43 : decode prog_3_method_9_code 43 = .ok (.imul, 1) := by decide +kernel
theorem d_ClockWays_markNeededBy_44 : decode prog_3_method_9_code 44 = .ok (.iload 5, 2) := by decide +kernel
theorem d_ClockWays_markNeededBy_46 : decode prog_3_method_9_code 46 = .ok (.iadd, 1) := by decide +kernel
theorem d_ClockWays_markNeededBy_47 : decode prog_3_method_9_code 47 = .ok (.baload, 1) := by decide +kernel
theorem d_ClockWays_markNeededBy_48 : decode prog_3_method_9_code 48 = .ok (.ifCond .eq 38, 3) := by decide +kernel
theorem d_ClockWays_markNeededBy_51 : decode prog_3_method_9_code 51 = .ok (.aload_n 0, 1) := by decide +kernel
theorem d_ClockWays_markNeededBy_52 : decode prog_3_method_9_code 52 = .ok (.getfield 52, 3) := by decide +kernel
theorem d_ClockWays_markNeededBy_55 : decode prog_3_method_9_code 55 = .ok (.iload_n 3, 1) := by decide +kernel
theorem d_ClockWays_markNeededBy_56 : decode prog_3_method_9_code 56 = .ok (.iload 4, 2) := by decide +kernel
theorem d_ClockWays_markNeededBy_58 : decode prog_3_method_9_code 58 = .ok (.iload 5, 2) := by decide +kernel
theorem d_ClockWays_markNeededBy_60 : decode prog_3_method_9_code 60 = .ok (.invokevirtual 141, 3) := by decide +kernel
theorem d_ClockWays_markNeededBy_63 : decode prog_3_method_9_code 63 = .ok (.ifCond .eq 23, 3) := by decide +kernel
theorem d_ClockWays_markNeededBy_66 : decode prog_3_method_9_code 66 = .ok (.aload_n 0, 1) := by decide +kernel
theorem d_ClockWays_markNeededBy_67 : decode prog_3_method_9_code 67 = .ok (.getfield 9, 3) := by decide +kernel
theorem d_ClockWays_markNeededBy_70 : decode prog_3_method_9_code 70 = .ok (.iconst 2, 1) := by decide +kernel
theorem d_ClockWays_markNeededBy_71 : decode prog_3_method_9_code 71 = .ok (.aload_n 0, 1) := by decide +kernel
theorem d_ClockWays_markNeededBy_72 : decode prog_3_method_9_code 72 = .ok (.getfield 52, 3) := by decide +kernel
theorem d_ClockWays_markNeededBy_75 : decode prog_3_method_9_code 75 = .ok (.getfield 103, 3) := by decide +kernel
theorem d_ClockWays_markNeededBy_78 : decode prog_3_method_9_code 78 = .ok (.iload_n 3, 1) := by decide +kernel
theorem d_ClockWays_markNeededBy_79 : decode prog_3_method_9_code 79 = .ok (.iaload, 1) := by decide +kernel
theorem d_ClockWays_markNeededBy_80 : decode prog_3_method_9_code 80 = .ok (.imul, 1) := by decide +kernel
theorem d_ClockWays_markNeededBy_81 : decode prog_3_method_9_code 81 = .ok (.iload 4, 2) := by decide +kernel
theorem d_ClockWays_markNeededBy_83 : decode prog_3_method_9_code 83 = .ok (.iadd, 1) := by decide +kernel
theorem d_ClockWays_markNeededBy_84 : decode prog_3_method_9_code 84 = .ok (.iconst 1, 1) := by decide +kernel
theorem d_ClockWays_markNeededBy_85 : decode prog_3_method_9_code 85 = .ok (.bastore, 1) := by decide +kernel
theorem d_ClockWays_markNeededBy_86 : decode prog_3_method_9_code 86 = .ok (.iinc 5 1, 3) := by decide +kernel
theorem d_ClockWays_markNeededBy_89 : decode prog_3_method_9_code 89 = .ok (.goto (-58), 3) := by decide +kernel
theorem d_ClockWays_markNeededBy_92 : decode prog_3_method_9_code 92 = .ok (.iinc 4 1, 3) := by decide +kernel
theorem d_ClockWays_markNeededBy_95 : decode prog_3_method_9_code 95 = .ok (.goto (-73), 3) := by decide +kernel
theorem d_ClockWays_markNeededBy_98 : decode prog_3_method_9_code 98 = .ok (.return_, 1) := by decide +kernel
theorem d_ClockWays_growTree_0 : decode prog_3_method_10_code 0 = .ok (.aload_n 0, 1) := by decide +kernel
theorem d_ClockWays_growTree_1 : decode prog_3_method_10_code 1 = .ok (.iconst 0, 1) := by decide +kernel
theorem d_ClockWays_growTree_2 : decode prog_3_method_10_code 2 = .ok (.putfield 145, 3) := by decide +kernel
theorem d_ClockWays_growTree_5 : decode prog_3_method_10_code 5 = .ok (.aload_n 0, 1) := by decide +kernel
theorem d_ClockWays_growTree_6 : decode prog_3_method_10_code 6 = .ok (.getfield 31, 3) := by decide +kernel
theorem d_ClockWays_growTree_9 : decode prog_3_method_10_code 9 = .ok (.iconst (-1), 1) := by decide +kernel
theorem d_ClockWays_growTree_10 : decode prog_3_method_10_code 10 = .ok (.invokestatic 146, 3) := by decide +kernel
theorem d_ClockWays_growTree_13 : decode prog_3_method_10_code 13 = .ok (.aload_n 0, 1) := by decide +kernel
theorem d_ClockWays_growTree_14 : decode prog_3_method_10_code 14 = .ok (.iconst 0, 1) := by decide +kernel
theorem d_ClockWays_growTree_15 : decode prog_3_method_10_code 15 = .ok (.iconst 0, 1) := by decide +kernel
theorem d_ClockWays_growTree_16 : decode prog_3_method_10_code 16 = .ok (.iconst 0, 1) := by decide +kernel
theorem d_ClockWays_growTree_17 : decode prog_3_method_10_code 17 = .ok (.iconst 0, 1) := by decide +kernel
theorem d_ClockWays_growTree_18 : decode prog_3_method_10_code 18 = .ok (.invokestatic 152, 3) := by decide +kernel
theorem d_ClockWays_growTree_21 : decode prog_3_method_10_code 21 = .ok (.iconst (-1), 1) := by decide +kernel
theorem d_ClockWays_growTree_22 : decode prog_3_method_10_code 22 = .ok (.iconst 0, 1) := by decide +kernel
theorem d_ClockWays_growTree_23 : decode prog_3_method_10_code 23 = .ok (.iconst 0, 1) := by decide +kernel
theorem d_ClockWays_growTree_24 : decode prog_3_method_10_code 24 = .ok (.invokevirtual 156, 3) := by decide +kernel
theorem d_ClockWays_growTree_27 : decode prog_3_method_10_code 27 = .ok (.aload_n 0, 1) := by decide +kernel
theorem d_ClockWays_growTree_28 : decode prog_3_method_10_code 28 = .ok (.iconst 1, 1) := by decide +kernel
theorem d_ClockWays_growTree_29 : decode prog_3_method_10_code 29 = .ok (.iconst 0, 1) := by decide +kernel
theorem d_ClockWays_growTree_30 : decode prog_3_method_10_code 30 = .ok (.iconst 0, 1) := by decide +kernel
theorem d_ClockWays_growTree_31 : decode prog_3_method_10_code 31 = .ok (.iconst 1, 1) := by decide +kernel
theorem d_ClockWays_growTree_32 : decode prog_3_method_10_code 32 = .ok (.invokestatic 152, 3) := by decide +kernel
theorem d_ClockWays_growTree_35 : decode prog_3_method_10_code 35 = .ok (.iconst (-1), 1) := by decide +kernel
theorem d_ClockWays_growTree_36 : decode prog_3_method_10_code 36 = .ok (.iconst 0, 1) := by decide +kernel
theorem d_ClockWays_growTree_37 : decode prog_3_method_10_code 37 = .ok (.iconst 0, 1) := by decide +kernel
theorem d_ClockWays_growTree_38 : decode prog_3_method_10_code 38 = .ok (.invokevirtual 156, 3) := by decide +kernel
theorem d_ClockWays_growTree_41 : decode prog_3_method_10_code 41 = .ok (.iconst 0, 1) := by decide +kernel
theorem d_ClockWays_growTree_42 : decode prog_3_method_10_code 42 = .ok (.istore_n 1, 1) := by decide +kernel
theorem d_ClockWays_growTree_43 : decode prog_3_method_10_code 43 = .ok (.iload_n 1, 1) := by decide +kernel
theorem d_ClockWays_growTree_44 : decode prog_3_method_10_code 44 = .ok (.aload_n 0, 1) := by decide +kernel
theorem d_ClockWays_growTree_45 : decode prog_3_method_10_code 45 = .ok (.getfield 56, 3) := by decide +kernel
theorem d_ClockWays_growTree_48 : decode prog_3_method_10_code 48 = .ok (.getfield 127, 3) := by decide +kernel
theorem d_ClockWays_growTree_51 : decode prog_3_method_10_code 51 = .ok (.if_icmp .ge 54, 3) := by decide +kernel
theorem d_ClockWays_growTree_54 : decode prog_3_method_10_code 54 = .ok (.aload_n 0, 1) := by decide +kernel
theorem d_ClockWays_growTree_55 : decode prog_3_method_10_code 55 = .ok (.getfield 56, 3) := by decide +kernel
theorem d_ClockWays_growTree_58 : decode prog_3_method_10_code 58 = .ok (.getfield 134, 3) := by decide +kernel
theorem d_ClockWays_growTree_61 : decode prog_3_method_10_code 61 = .ok (.iload_n 1, 1) := by decide +kernel
theorem d_ClockWays_growTree_62 : decode prog_3_method_10_code 62 = .ok (.iaload, 1) := by decide +kernel
theorem d_ClockWays_growTree_63 : decode prog_3_method_10_code 63 = .ok (.istore_n 2, 1) := by decide +kernel
theorem d_ClockWays_growTree_64 : decode prog_3_method_10_code 64 = .ok (.iconst 0, 1) := by decide +kernel
theorem d_ClockWays_growTree_65 : decode prog_3_method_10_code 65 = .ok (.istore_n 3, 1) := by decide +kernel
theorem d_ClockWays_growTree_66 : decode prog_3_method_10_code 66 = .ok (.iload_n 3, 1) := by decide +kernel
theorem d_ClockWays_growTree_67 : decode prog_3_method_10_code 67 = .ok (.aload_n 0, 1) := by decide +kernel
theorem d_ClockWays_growTree_68 : decode prog_3_method_10_code 68 = .ok (.getfield 52, 3) := by decide +kernel
theorem d_ClockWays_growTree_71 : decode prog_3_method_10_code 71 = .ok (.getfield 131, 3) := by decide +kernel
theorem d_ClockWays_growTree_74 : decode prog_3_method_10_code 74 = .ok (.iload_n 2, 1) := by decide +kernel
theorem d_ClockWays_growTree_75 : decode prog_3_method_10_code 75 = .ok (.iaload, 1) := by decide +kernel
theorem d_ClockWays_growTree_76 : decode prog_3_method_10_code 76 = .ok (.if_icmp .ge 23, 3) := by decide +kernel
theorem d_ClockWays_growTree_79 : decode prog_3_method_10_code 79 = .ok (.aload_n 0, 1) := by decide +kernel
theorem d_ClockWays_growTree_80 : decode prog_3_method_10_code 80 = .ok (.iload_n 2, 1) := by decide +kernel
theorem d_ClockWays_growTree_81 : decode prog_3_method_10_code 81 = .ok (.iload_n 3, 1) := by decide +kernel
theorem d_ClockWays_growTree_82 : decode prog_3_method_10_code 82 = .ok (.iconst 0, 1) := by decide +kernel
theorem d_ClockWays_growTree_83 : decode prog_3_method_10_code 83 = .ok (.invokevirtual 159, 3) := by decide +kernel
theorem d_ClockWays_growTree_86 : decode prog_3_method_10_code 86 = .ok (.aload_n 0, 1) := by decide +kernel
theorem d_ClockWays_growTree_87 : decode prog_3_method_10_code 87 = .ok (.iload_n 2, 1) := by decide +kernel
theorem d_ClockWays_growTree_88 : decode prog_3_method_10_code 88 = .ok (.iload_n 3, 1) := by decide +kernel
theorem d_ClockWays_growTree_89 : decode prog_3_method_10_code 89 = .ok (.iconst 1, 1) := by decide +kernel
theorem d_ClockWays_growTree_90 : decode prog_3_method_10_code 90 = .ok (.invokevirtual 159, 3) := by decide +kernel
theorem d_ClockWays_growTree_93 : decode prog_3_method_10_code 93 = .ok (.iinc 3 1, 3) := by decide +kernel
theorem d_ClockWays_growTree_96 : decode prog_3_method_10_code 96 = .ok (.goto (-30), 3) := by decide +kernel
theorem d_ClockWays_growTree_99 : decode prog_3_method_10_code 99 = .ok (.iinc 1 1, 3) := by decide +kernel
theorem d_ClockWays_growTree_102 : decode prog_3_method_10_code 102 = .ok (.goto (-59), 3) := by decide +kernel
theorem d_ClockWays_growTree_105 : decode prog_3_method_10_code 105 = .ok (.return_, 1) := by decide +kernel
theorem d_ClockWays_growBy_0 : decode prog_3_method_11_code 0 = .ok (.iload_n 1, 1) := by decide +kernel
theorem d_ClockWays_growBy_1 : decode prog_3_method_11_code 1 = .ok (.iconst 3, 1) := by decide +kernel
theorem d_ClockWays_growBy_2 : decode prog_3_method_11_code 2 = .ok (.imul, 1) := by decide +kernel
theorem d_ClockWays_growBy_3 : decode prog_3_method_11_code 3 = .ok (.iload_n 2, 1) := by decide +kernel
theorem d_ClockWays_growBy_4 : decode prog_3_method_11_code 4 = .ok (.iadd, 1) := by decide +kernel
theorem d_ClockWays_growBy_5 : decode prog_3_method_11_code 5 = .ok (.istore 4, 2) := by decide +kernel
theorem d_ClockWays_growBy_7 : decode prog_3_method_11_code 7 = .ok (.aload_n 0, 1) := by decide +kernel
theorem d_ClockWays_growBy_8 : decode prog_3_method_11_code 8 = .ok (.getfield 52, 3) := by decide +kernel
theorem d_ClockWays_growBy_11 : decode prog_3_method_11_code 11 = .ok (.getfield 103, 3) := by decide +kernel
theorem d_ClockWays_growBy_14 : decode prog_3_method_11_code 14 = .ok (.iload 4, 2) := by decide +kernel
theorem d_ClockWays_growBy_16 : decode prog_3_method_11_code 16 = .ok (.iaload, 1) := by decide +kernel
theorem d_ClockWays_growBy_17 : decode prog_3_method_11_code 17 = .ok (.ifCond .lt 16, 3) := by decide +kernel
theorem d_ClockWays_growBy_20 : decode prog_3_method_11_code 20 = .ok (.aload_n 0, 1) := by decide +kernel
theorem d_ClockWays_growBy_21 : decode prog_3_method_11_code 21 = .ok (.getfield 9, 3) := by decide +kernel
theorem d_ClockWays_growBy_24 : decode prog_3_method_11_code 24 = .ok (.iconst 2, 1) := by decide +kernel
theorem d_ClockWays_growBy_25 : decode prog_3_method_11_code 25 = .ok (.iload_n 1, 1) := by decide +kernel
theorem d_ClockWays_growBy_26 : decode prog_3_method_11_code 26 = .ok (.imul, 1) := by decide +kernel
theorem d_ClockWays_growBy_27 : decode prog_3_method_11_code 27 = .ok (.iload_n 3, 1) := by decide +kernel
theorem d_ClockWays_growBy_28 : decode prog_3_method_11_code 28 = .ok (.iadd, 1) := by decide +kernel
theorem d_ClockWays_growBy_29 : decode prog_3_method_11_code 29 = .ok (.baload, 1) := by decide +kernel
theorem d_ClockWays_growBy_30 : decode prog_3_method_11_code 30 = .ok (.ifCond .ne 4, 3) := by decide +kernel
theorem d_ClockWays_growBy_33 : decode prog_3_method_11_code 33 = .ok (.return_, 1) := by decide +kernel
theorem d_ClockWays_growBy_34 : decode prog_3_method_11_code 34 = .ok (.aload_n 0, 1) := by decide +kernel
theorem d_ClockWays_growBy_35 : decode prog_3_method_11_code 35 = .ok (.getfield 52, 3) := by decide +kernel
theorem d_ClockWays_growBy_38 : decode prog_3_method_11_code 38 = .ok (.iload 4, 2) := by decide +kernel
theorem d_ClockWays_growBy_40 : decode prog_3_method_11_code 40 = .ok (.iload_n 3, 1) := by decide +kernel
theorem d_ClockWays_growBy_41 : decode prog_3_method_11_code 41 = .ok (.invokevirtual 163, 3) := by decide +kernel
theorem d_ClockWays_growBy_44 : decode prog_3_method_11_code 44 = .ok (.istore 5, 2) := by decide +kernel
theorem d_ClockWays_growBy_46 : decode prog_3_method_11_code 46 = .ok (.aload_n 0, 1) := by decide +kernel
theorem d_ClockWays_growBy_47 : decode prog_3_method_11_code 47 = .ok (.getfield 52, 3) := by decide +kernel
theorem d_ClockWays_growBy_50 : decode prog_3_method_11_code 50 = .ok (.iload 4, 2) := by decide +kernel
theorem d_ClockWays_growBy_52 : decode prog_3_method_11_code 52 = .ok (.iload_n 3, 1) := by decide +kernel
theorem d_ClockWays_growBy_53 : decode prog_3_method_11_code 53 = .ok (.invokevirtual 166, 3) := by decide +kernel
theorem d_ClockWays_growBy_56 : decode prog_3_method_11_code 56 = .ok (.istore 6, 2) := by decide +kernel
theorem d_ClockWays_growBy_58 : decode prog_3_method_11_code 58 = .ok (.iconst 0, 1) := by decide +kernel
theorem d_ClockWays_growBy_59 : decode prog_3_method_11_code 59 = .ok (.istore 7, 2) := by decide +kernel
theorem d_ClockWays_growBy_61 : decode prog_3_method_11_code 61 = .ok (.iload 7, 2) := by decide +kernel
theorem d_ClockWays_growBy_63 : decode prog_3_method_11_code 63 = .ok (.iconst 2, 1) := by decide +kernel
theorem d_ClockWays_growBy_64 : decode prog_3_method_11_code 64 = .ok (.if_icmp .ge 117, 3) := by decide +kernel
theorem d_ClockWays_growBy_67 : decode prog_3_method_11_code 67 = .ok (.aload_n 0, 1) := by decide +kernel
theorem d_ClockWays_growBy_68 : decode prog_3_method_11_code 68 = .ok (.getfield 52, 3) := by decide +kernel
theorem d_ClockWays_growBy_71 : decode prog_3_method_11_code 71 = .ok (.iload 4, 2) := by decide +kernel
theorem d_ClockWays_growBy_73 : decode prog_3_method_11_code 73 = .ok (.iload 7, 2) := by decide +kernel
theorem d_ClockWays_growBy_75 : decode prog_3_method_11_code 75 = .ok (.iload_n 3, 1) := by decide +kernel
theorem d_ClockWays_growBy_76 : decode prog_3_method_11_code 76 = .ok (.invokevirtual 141, 3) := by decide +kernel
theorem d_ClockWays_growBy_79 : decode prog_3_method_11_code 79 = .ok (.ifCond .eq 26, 3) := by decide +kernel
theorem d_ClockWays_growBy_82 : decode prog_3_method_11_code 82 = .ok (.aload_n 0, 1) := by decide +kernel
theorem d_ClockWays_growBy_83 : decode prog_3_method_11_code 83 = .ok (.getfield 31, 3) := by decide +kernel
theorem d_ClockWays_growBy_86 : decode prog_3_method_11_code 86 = .ok (.iconst 2, 1) := by decide +kernel
theorem d_ClockWays_growBy_87 : decode prog_3_method_11_code 87 = .ok (.aload_n 0, 1) := by decide +kernel
theorem d_ClockWays_growBy_88 : decode prog_3_method_11_code 88 = .ok (.getfield 52, 3) := by decide +kernel
theorem d_ClockWays_growBy_91 : decode prog_3_method_11_code 91 = .ok (.getfield 103, 3) := by decide +kernel
theorem d_ClockWays_growBy_94 : decode prog_3_method_11_code 94 = .ok (.iload 4, 2) := by decide +kernel
theorem d_ClockWays_growBy_96 : decode prog_3_method_11_code 96 = .ok (.iaload, 1) := by decide +kernel
theorem d_ClockWays_growBy_97 : decode prog_3_method_11_code 97 = .ok (.imul, 1) := by decide +kernel
theorem d_ClockWays_growBy_98 : decode prog_3_method_11_code 98 = .ok (.iload 7, 2) := by decide +kernel
theorem d_ClockWays_growBy_100 : decode prog_3_method_11_code 100 = .ok (.iadd, 1) := by decide +kernel
theorem d_ClockWays_growBy_101 : decode prog_3_method_11_code 101 = .ok (.iaload, 1) := by decide +kernel
theorem d_ClockWays_growBy_102 : decode prog_3_method_11_code 102 = .ok (.goto 4, 3) := by decide +kernel
theorem d_ClockWays_growBy_105 : decode prog_3_method_11_code 105 = .ok (.iconst (-1), 1) := by decide +kernel
theorem d_ClockWays_growBy_106 : decode prog_3_method_11_code 106 = .ok (.istore 8, 2) := by decide +kernel
theorem d_ClockWays_growBy_108 : decode prog_3_method_11_code 108 = .ok (.iconst 0, 1) := by decide +kernel
theorem d_ClockWays_growBy_109 : decode prog_3_method_11_code 109 = .ok (.istore 9, 2) := by decide +kernel
theorem d_ClockWays_growBy_111 : decode prog_3_method_11_code 111 = .ok (.iload 9, 2) := by decide +kernel
theorem d_ClockWays_growBy_113 : decode prog_3_method_11_code 113 = .ok (.bipush 8, 2) := by decide +kernel
theorem d_ClockWays_growBy_115 : decode prog_3_method_11_code 115 = .ok (.if_icmp .ge 60, 3) := by decide +kernel
theorem d_ClockWays_growBy_118 : decode prog_3_method_11_code 118 = .ok (.iload 8, 2) := by decide +kernel
theorem d_ClockWays_growBy_120 : decode prog_3_method_11_code 120 = .ok (.ifCond .lt 55, 3) := by decide +kernel
theorem d_ClockWays_growBy_123 : decode prog_3_method_11_code 123 = .ok (.aload_n 0, 1) := by decide +kernel
theorem d_ClockWays_growBy_124 : decode prog_3_method_11_code 124 = .ok (.iconst 2, 1) := by decide +kernel
theorem d_ClockWays_growBy_125 : decode prog_3_method_11_code 125 = .ok (.iload_n 1, 1) := by decide +kernel
theorem d_ClockWays_growBy_126 : decode prog_3_method_11_code 126 = .ok (.imul, 1) := by decide +kernel
theorem d_ClockWays_growBy_127 : decode prog_3_method_11_code 127 = .ok (.iload_n 3, 1) := by decide +kernel
theorem d_ClockWays_growBy_128 : decode prog_3_method_11_code 128 = .ok (.iadd, 1) := by decide +kernel
theorem d_ClockWays_growBy_129 : decode prog_3_method_11_code 129 = .ok (.iload_n 1, 1) := by decide +kernel
theorem d_ClockWays_growBy_130 : decode prog_3_method_11_code 130 = .ok (.iload_n 2, 1) := by decide +kernel
theorem d_ClockWays_growBy_131 : decode prog_3_method_11_code 131 = .ok (.iload_n 3, 1) := by decide +kernel
theorem d_ClockWays_growBy_132 : decode prog_3_method_11_code 132 = .ok (.invokestatic 152, 3) := by decide +kernel
theorem d_ClockWays_growBy_135 : decode prog_3_method_11_code 135 = .ok (.iload 8, 2) := by decide +kernel
theorem d_ClockWays_growBy_137 : decode prog_3_method_11_code 137 = .ok (.aload_n 0, 1) := by decide +kernel
theorem d_ClockWays_growBy_138 : decode prog_3_method_11_code 138 = .ok (.getfield 25, 3) := by decide +kernel
theorem d_ClockWays_growBy_141 : decode prog_3_method_11_code 141 = .ok (.iload 8, 2) := by decide +kernel
theorem d_ClockWays_growBy_143 : decode prog_3_method_11_code 143 = .ok (.iaload, 1) := by decide +kernel
theorem d_ClockWays_growBy_144 : decode prog_3_method_11_code 144 = .ok (.iload 5, 2) := by decide +kernel
theorem d_ClockWays_growBy_146 : decode prog_3_method_11_code 146 = .ok (.iadd, 1) := by decide +kernel
theorem d_ClockWays_growBy_147 : decode prog_3_method_11_code 147 = .ok (.aload_n 0, 1) := by decide +kernel
theorem d_ClockWays_growBy_148 : decode prog_3_method_11_code 148 = .ok (.getfield 28, 3) := by decide +kernel
theorem d_ClockWays_growBy_151 : decode prog_3_method_11_code 151 = .ok (.iload 8, 2) := by decide +kernel
theorem d_ClockWays_growBy_153 : decode prog_3_method_11_code 153 = .ok (.iaload, 1) := by decide +kernel
theorem d_ClockWays_growBy_154 : decode prog_3_method_11_code 154 = .ok (.iload 6, 2) := by decide +kernel
theorem d_ClockWays_growBy_156 : decode prog_3_method_11_code 156 = .ok (.iadd, 1) := by decide +kernel
theorem d_ClockWays_growBy_157 : decode prog_3_method_11_code 157 = .ok (.invokevirtual 156, 3) := by decide +kernel
theorem d_ClockWays_growBy_160 : decode prog_3_method_11_code 160 = .ok (.aload_n 0, 1) := by decide +kernel
theorem d_ClockWays_growBy_161 : decode prog_3_method_11_code 161 = .ok (.getfield 34, 3) := by decide +kernel
theorem d_ClockWays_growBy_164 : decode prog_3_method_11_code 164 = .ok (.iload 8, 2) := by decide +kernel
theorem d_ClockWays_growBy_166 : decode prog_3_method_11_code 166 = .ok (.iaload, 1) := by decide +kernel
theorem d_ClockWays_growBy_167 : decode prog_3_method_11_code 167 = .ok (.istore 8, 2) := by decide +kernel
theorem d_ClockWays_growBy_169 : decode prog_3_method_11_code 169 = .ok (.iinc 9 1, 3) := by decide +kernel
theorem d_ClockWays_growBy_172 : decode prog_3_method_11_code 172 = .ok (.goto (-61), 3) := by decide +kernel
theorem d_ClockWays_growBy_175 : decode prog_3_method_11_code 175 = .ok (.iinc 7 1, 3) := by decide +kernel
theorem d_ClockWays_growBy_178 : decode prog_3_method_11_code 178 = .ok (.goto (-117), 3) := by decide +kernel
theorem d_ClockWays_growBy_181 : decode prog_3_method_11_code 181 = .ok (.return_, 1) := by decide +kernel
theorem d_ClockWays_grow_0 : decode prog_3_method_12_code 0 = .ok (.aload_n 0, 1) := by decide +kernel
theorem d_ClockWays_grow_1 : decode prog_3_method_12_code 1 = .ok (.getfield 145, 3) := by decide +kernel
theorem d_ClockWays_grow_4 : decode prog_3_method_12_code 4 = .ok (.sipush 770, 3) := by decide +kernel
theorem d_ClockWays_grow_7 : decode prog_3_method_12_code 7 = .ok (.if_icmp .lt 4, 3) := by decide +kernel
theorem d_ClockWays_grow_10 : decode prog_3_method_12_code 10 = .ok (.return_, 1) := by decide +kernel
theorem d_ClockWays_grow_11 : decode prog_3_method_12_code 11 = .ok (.aload_n 0, 1) := by decide +kernel
theorem d_ClockWays_grow_12 : decode prog_3_method_12_code 12 = .ok (.getfield 15, 3) := by decide +kernel
theorem d_ClockWays_grow_15 : decode prog_3_method_12_code 15 = .ok (.aload_n 0, 1) := by decide +kernel
theorem d_ClockWays_grow_16 : decode prog_3_method_12_code 16 = .ok (.getfield 145, 3) := by decide +kernel
theorem d_ClockWays_grow_19 : decode prog_3_method_12_code 19 = .ok (.iload_n 2, 1) := by decide +kernel
theorem d_ClockWays_grow_20 : decode prog_3_method_12_code 20 = .ok (.iastore, 1) := by decide +kernel
theorem d_ClockWays_grow_21 : decode prog_3_method_12_code 21 = .ok (.aload_n 0, 1) := by decide +kernel
theorem d_ClockWays_grow_22 : decode prog_3_method_12_code 22 = .ok (.getfield 19, 3) := by decide +kernel
theorem d_ClockWays_grow_25 : decode prog_3_method_12_code 25 = .ok (.aload_n 0, 1) := by decide +kernel
theorem d_ClockWays_grow_26 : decode prog_3_method_12_code 26 = .ok (.getfield 145, 3) := by decide +kernel
theorem d_ClockWays_grow_29 : decode prog_3_method_12_code 29 = .ok (.iload_n 3, 1) := by decide +kernel
theorem d_ClockWays_grow_30 : decode prog_3_method_12_code 30 = .ok (.iastore, 1) := by decide +kernel
theorem d_ClockWays_grow_31 : decode prog_3_method_12_code 31 = .ok (.aload_n 0, 1) := by decide +kernel
theorem d_ClockWays_grow_32 : decode prog_3_method_12_code 32 = .ok (.getfield 22, 3) := by decide +kernel
theorem d_ClockWays_grow_35 : decode prog_3_method_12_code 35 = .ok (.aload_n 0, 1) := by decide +kernel
theorem d_ClockWays_grow_36 : decode prog_3_method_12_code 36 = .ok (.getfield 145, 3) := by decide +kernel
theorem d_ClockWays_grow_39 : decode prog_3_method_12_code 39 = .ok (.iload_n 3, 1) := by decide +kernel
theorem d_ClockWays_grow_40 : decode prog_3_method_12_code 40 = .ok (.ifCond .ge 7, 3) := by decide +kernel
theorem d_ClockWays_grow_43 : decode prog_3_method_12_code 43 = .ok (.iconst 1, 1) := by decide +kernel
theorem d_ClockWays_grow_44 : decode prog_3_method_12_code 44 = .ok (.goto 11, 3) := by decide +kernel
theorem d_ClockWays_grow_47 : decode prog_3_method_12_code 47 = .ok (.aload_n 0, 1) := by decide +kernel
theorem d_ClockWays_grow_48 : decode prog_3_method_12_code 48 = .ok (.getfield 22, 3) := by decide +kernel
theorem d_ClockWays_grow_51 : decode prog_3_method_12_code 51 = .ok (.iload_n 3, 1) := by decide +kernel
theorem d_ClockWays_grow_52 : decode prog_3_method_12_code 52 = .ok (.iaload, 1) := by decide +kernel
theorem d_ClockWays_grow_53 : decode prog_3_method_12_code 53 = .ok (.iconst 1, 1) := by decide +kernel
theorem d_ClockWays_grow_54 : decode prog_3_method_12_code 54 = .ok (.iadd, 1) := by decide +kernel
theorem d_ClockWays_grow_55 : decode prog_3_method_12_code 55 = .ok (.iastore, 1) := by decide +kernel
theorem d_ClockWays_grow_56 : decode prog_3_method_12_code 56 = .ok (.aload_n 0, 1) := by decide +kernel
theorem d_ClockWays_grow_57 : decode prog_3_method_12_code 57 = .ok (.getfield 25, 3) := by decide +kernel
theorem d_ClockWays_grow_60 : decode prog_3_method_12_code 60 = .ok (.aload_n 0, 1) := by decide +kernel
theorem d_ClockWays_grow_61 : decode prog_3_method_12_code 61 = .ok (.getfield 145, 3) := by decide +kernel
theorem d_ClockWays_grow_64 : decode prog_3_method_12_code 64 = .ok (.iload 4, 2) := by decide +kernel
theorem d_ClockWays_grow_66 : decode prog_3_method_12_code 66 = .ok (.iastore, 1) := by decide +kernel
theorem d_ClockWays_grow_67 : decode prog_3_method_12_code 67 = .ok (.aload_n 0, 1) := by decide +kernel
theorem d_ClockWays_grow_68 : decode prog_3_method_12_code 68 = .ok (.getfield 28, 3) := by decide +kernel
theorem d_ClockWays_grow_71 : decode prog_3_method_12_code 71 = .ok (.aload_n 0, 1) := by decide +kernel
theorem d_ClockWays_grow_72 : decode prog_3_method_12_code 72 = .ok (.getfield 145, 3) := by decide +kernel
theorem d_ClockWays_grow_75 : decode prog_3_method_12_code 75 = .ok (.iload 5, 2) := by decide +kernel
theorem d_ClockWays_grow_77 : decode prog_3_method_12_code 77 = .ok (.iastore, 1) := by decide +kernel
theorem d_ClockWays_grow_78 : decode prog_3_method_12_code 78 = .ok (.aload_n 0, 1) := by decide +kernel
theorem d_ClockWays_grow_79 : decode prog_3_method_12_code 79 = .ok (.getfield 34, 3) := by decide +kernel
theorem d_ClockWays_grow_82 : decode prog_3_method_12_code 82 = .ok (.aload_n 0, 1) := by decide +kernel
theorem d_ClockWays_grow_83 : decode prog_3_method_12_code 83 = .ok (.getfield 145, 3) := by decide +kernel
theorem d_ClockWays_grow_86 : decode prog_3_method_12_code 86 = .ok (.aload_n 0, 1) := by decide +kernel
theorem d_ClockWays_grow_87 : decode prog_3_method_12_code 87 = .ok (.getfield 31, 3) := by decide +kernel
theorem d_ClockWays_grow_90 : decode prog_3_method_12_code 90 = .ok (.iload_n 1, 1) := by decide +kernel
theorem d_ClockWays_grow_91 : decode prog_3_method_12_code 91 = .ok (.iaload, 1) := by decide +kernel
theorem d_ClockWays_grow_92 : decode prog_3_method_12_code 92 = .ok (.iastore, 1) := by decide +kernel
theorem d_ClockWays_grow_93 : decode prog_3_method_12_code 93 = .ok (.aload_n 0, 1) := by decide +kernel
theorem d_ClockWays_grow_94 : decode prog_3_method_12_code 94 = .ok (.getfield 31, 3) := by decide +kernel
theorem d_ClockWays_grow_97 : decode prog_3_method_12_code 97 = .ok (.iload_n 1, 1) := by decide +kernel
theorem d_ClockWays_grow_98 : decode prog_3_method_12_code 98 = .ok (.aload_n 0, 1) := by decide +kernel
theorem d_ClockWays_grow_99 : decode prog_3_method_12_code 99 = .ok (.getfield 145, 3) := by decide +kernel
theorem d_ClockWays_grow_102 : decode prog_3_method_12_code 102 = .ok (.iastore, 1) := by decide +kernel
theorem d_ClockWays_grow_103 : decode prog_3_method_12_code 103 = .ok (.aload_n 0, 1) := by decide +kernel
theorem d_ClockWays_grow_104 : decode prog_3_method_12_code 104 = .ok (.dup, 1) := by decide +kernel
theorem d_ClockWays_grow_105 : decode prog_3_method_12_code 105 = .ok (.getfield 145, 3) := by decide +kernel
theorem d_ClockWays_grow_108 : decode prog_3_method_12_code 108 = .ok (.iconst 1, 1) := by decide +kernel
theorem d_ClockWays_grow_109 : decode prog_3_method_12_code 109 = .ok (.iadd, 1) := by decide +kernel
theorem d_ClockWays_grow_110 : decode prog_3_method_12_code 110 = .ok (.putfield 145, 3) := by decide +kernel
theorem d_ClockWays_grow_113 : decode prog_3_method_12_code 113 = .ok (.return_, 1) := by decide +kernel
theorem d_ClockWays_gather_0 : decode prog_3_method_13_code 0 = .ok (.iload_n 1, 1) := by decide +kernel
theorem d_ClockWays_gather_1 : decode prog_3_method_13_code 1 = .ok (.iconst 3, 1) := by decide +kernel
theorem d_ClockWays_gather_2 : decode prog_3_method_13_code 2 = .ok (.imul, 1) := by decide +kernel
theorem d_ClockWays_gather_3 : decode prog_3_method_13_code 3 = .ok (.iconst 1, 1) := by decide +kernel
theorem d_ClockWays_gather_4 : decode prog_3_method_13_code 4 = .ok (.iadd, 1) := by decide +kernel
theorem d_ClockWays_gather_5 : decode prog_3_method_13_code 5 = .ok (.istore_n 2, 1) := by decide +kernel
theorem d_ClockWays_gather_6 : decode prog_3_method_13_code 6 = .ok (.aload_n 0, 1) := by decide +kernel
theorem d_ClockWays_gather_7 : decode prog_3_method_13_code 7 = .ok (.getfield 52, 3) := by decide +kernel
theorem d_ClockWays_gather_10 : decode prog_3_method_13_code 10 = .ok (.getfield 103, 3) := by decide +kernel
theorem d_ClockWays_gather_13 : decode prog_3_method_13_code 13 = .ok (.iload_n 2, 1) := by decide +kernel
theorem d_ClockWays_gather_14 : decode prog_3_method_13_code 14 = .ok (.iaload, 1) := by decide +kernel
theorem d_ClockWays_gather_15 : decode prog_3_method_13_code 15 = .ok (.ifCond .ge 4, 3) := by decide +kernel
theorem d_ClockWays_gather_18 : decode prog_3_method_13_code 18 = .ok (.return_, 1) := by decide +kernel
theorem d_ClockWays_gather_19 : decode prog_3_method_13_code 19 = .ok (.aload_n 0, 1) := by decide +kernel
theorem d_ClockWays_gather_20 : decode prog_3_method_13_code 20 = .ok (.getfield 31, 3) := by decide +kernel
theorem d_ClockWays_gather_23 : decode prog_3_method_13_code 23 = .ok (.iconst 2, 1) := by decide +kernel
theorem d_ClockWays_gather_24 : decode prog_3_method_13_code 24 = .ok (.aload_n 0, 1) := by decide +kernel
theorem d_ClockWays_gather_25 : decode prog_3_method_13_code 25 = .ok (.getfield 52, 3) := by decide +kernel
theorem d_ClockWays_gather_28 : decode prog_3_method_13_code 28 = .ok (.getfield 103, 3) := by decide +kernel
theorem d_ClockWays_gather_31 : decode prog_3_method_13_code 31 = .ok (.iload_n 2, 1) := by decide +kernel
theorem d_ClockWays_gather_32 : decode prog_3_method_13_code 32 = .ok (.iaload, 1) := by decide +kernel
theorem d_ClockWays_gather_33 : decode prog_3_method_13_code 33 = .ok (.imul, 1) := by decide +kernel
theorem d_ClockWays_gather_34 : decode prog_3_method_13_code 34 = .ok (.iconst 0, 1) := by decide +kernel
theorem d_ClockWays_gather_35 : decode prog_3_method_13_code 35 = .ok (.iadd, 1) := by decide +kernel
theorem d_ClockWays_gather_36 : decode prog_3_method_13_code 36 = .ok (.iaload, 1) := by decide +kernel
theorem d_ClockWays_gather_37 : decode prog_3_method_13_code 37 = .ok (.istore_n 3, 1) := by decide +kernel
theorem d_ClockWays_gather_38 : decode prog_3_method_13_code 38 = .ok (.iconst 0, 1) := by decide +kernel
theorem d_ClockWays_gather_39 : decode prog_3_method_13_code 39 = .ok (.istore 4, 2) := by decide +kernel
theorem d_ClockWays_gather_41 : decode prog_3_method_13_code 41 = .ok (.iload 4, 2) := by decide +kernel
theorem d_ClockWays_gather_43 : decode prog_3_method_13_code 43 = .ok (.bipush 8, 2) := by decide +kernel
theorem d_ClockWays_gather_45 : decode prog_3_method_13_code 45 = .ok (.if_icmp .ge 63, 3) := by decide +kernel
theorem d_ClockWays_gather_48 : decode prog_3_method_13_code 48 = .ok (.iload_n 3, 1) := by decide +kernel
theorem d_ClockWays_gather_49 : decode prog_3_method_13_code 49 = .ok (.ifCond .lt 59, 3) := by decide +kernel
theorem d_ClockWays_gather_52 : decode prog_3_method_13_code 52 = .ok (.aload_n 0, 1) := by decide +kernel
theorem d_ClockWays_gather_53 : decode prog_3_method_13_code 53 = .ok (.iload_n 1, 1) := by decide +kernel
theorem d_ClockWays_gather_54 : decode prog_3_method_13_code 54 = .ok (.iload_n 3, 1) := by decide +kernel
theorem d_ClockWays_gather_55 : decode prog_3_method_13_code 55 = .ok (.aload_n 0, 1) := by decide +kernel
theorem d_ClockWays_gather_56 : decode prog_3_method_13_code 56 = .ok (.iload_n 3, 1) := by decide +kernel
theorem d_ClockWays_gather_57 : decode prog_3_method_13_code 57 = .ok (.invokevirtual 169, 3) := by decide +kernel
theorem d_ClockWays_gather_60 : decode prog_3_method_13_code 60 = .ok (.aload_n 0, 1) := by decide +kernel
theorem d_ClockWays_gather_61 : decode prog_3_method_13_code 61 = .ok (.getfield 25, 3) := by decide +kernel
theorem d_ClockWays_gather_64 : decode prog_3_method_13_code 64 = .ok (.iload_n 3, 1) := by decide +kernel
theorem d_ClockWays_gather_65 : decode prog_3_method_13_code 65 = .ok (.iaload, 1) := by decide +kernel
theorem d_ClockWays_gather_66 : decode prog_3_method_13_code 66 = .ok (.aload_n 0, 1) := by decide +kernel
theorem d_ClockWays_gather_67 : decode prog_3_method_13_code 67 = .ok (.getfield 52, 3) := by decide +kernel
theorem d_ClockWays_gather_70 : decode prog_3_method_13_code 70 = .ok (.getfield 113, 3) := by decide +kernel
theorem d_ClockWays_gather_73 : decode prog_3_method_13_code 73 = .ok (.iload_n 2, 1) := by decide +kernel
theorem d_ClockWays_gather_74 : decode prog_3_method_13_code 74 = .ok (.iaload, 1) := by decide +kernel
theorem d_ClockWays_gather_75 : decode prog_3_method_13_code 75 = .ok (.iadd, 1) := by decide +kernel
theorem d_ClockWays_gather_76 : decode prog_3_method_13_code 76 = .ok (.aload_n 0, 1) := by decide +kernel
theorem d_ClockWays_gather_77 : decode prog_3_method_13_code 77 = .ok (.getfield 28, 3) := by decide +kernel
theorem d_ClockWays_gather_80 : decode prog_3_method_13_code 80 = .ok (.iload_n 3, 1) := by decide +kernel
theorem d_ClockWays_gather_81 : decode prog_3_method_13_code 81 = .ok (.iaload, 1) := by decide +kernel
theorem d_ClockWays_gather_82 : decode prog_3_method_13_code 82 = .ok (.aload_n 0, 1) := by decide +kernel
theorem d_ClockWays_gather_83 : decode prog_3_method_13_code 83 = .ok (.getfield 52, 3) := by decide +kernel
theorem d_ClockWays_gather_86 : decode prog_3_method_13_code 86 = .ok (.getfield 110, 3) := by decide +kernel
theorem d_ClockWays_gather_89 : decode prog_3_method_13_code 89 = .ok (.iload_n 2, 1) := by decide +kernel
theorem d_ClockWays_gather_90 : decode prog_3_method_13_code 90 = .ok (.iaload, 1) := by decide +kernel
theorem d_ClockWays_gather_91 : decode prog_3_method_13_code 91 = .ok (.iadd, 1) := by decide +kernel
theorem d_ClockWays_gather_92 : decode prog_3_method_13_code 92 = .ok (.invokevirtual 92, 3) := by decide +kernel
theorem d_ClockWays_gather_95 : decode prog_3_method_13_code 95 = .ok (.aload_n 0, 1) := by decide +kernel
theorem d_ClockWays_gather_96 : decode prog_3_method_13_code 96 = .ok (.getfield 34, 3) := by decide +kernel
theorem d_ClockWays_gather_99 : decode prog_3_method_13_code 99 = .ok (.iload_n 3, 1) := by decide +kernel
theorem d_ClockWays_gather_100 : decode prog_3_method_13_code 100 = .ok (.iaload, 1) := by decide +kernel
theorem d_ClockWays_gather_101 : decode prog_3_method_13_code 101 = .ok (.istore_n 3, 1) := by decide +kernel
theorem d_ClockWays_gather_102 : decode prog_3_method_13_code 102 = .ok (.iinc 4 1, 3) := by decide +kernel
theorem d_ClockWays_gather_105 : decode prog_3_method_13_code 105 = .ok (.goto (-64), 3) := by decide +kernel
theorem d_ClockWays_gather_108 : decode prog_3_method_13_code 108 = .ok (.return_, 1) := by decide +kernel
theorem d_ClockWays_addWay_0 : decode prog_3_method_14_code 0 = .ok (.iload_n 1, 1) := by decide +kernel
theorem d_ClockWays_addWay_1 : decode prog_3_method_14_code 1 = .ok (.bipush 8, 2) := by decide +kernel
theorem d_ClockWays_addWay_3 : decode prog_3_method_14_code 3 = .ok (.imul, 1) := by decide +kernel
theorem d_ClockWays_addWay_4 : decode prog_3_method_14_code 4 = .ok (.aload_n 0, 1) := by decide +kernel
theorem d_ClockWays_addWay_5 : decode prog_3_method_14_code 5 = .ok (.getfield 37, 3) := by decide +kernel
theorem d_ClockWays_addWay_8 : decode prog_3_method_14_code 8 = .ok (.iload_n 1, 1) := by decide +kernel
theorem d_ClockWays_addWay_9 : decode prog_3_method_14_code 9 = .ok (.iaload, 1) := by decide +kernel
theorem d_ClockWays_addWay_10 : decode prog_3_method_14_code 10 = .ok (.iadd, 1) := by decide +kernel
theorem d_ClockWays_addWay_11 : decode prog_3_method_14_code 11 = .ok (.istore 6, 2) := by decide +kernel
theorem d_ClockWays_addWay_13 : decode prog_3_method_14_code 13 = .ok (.aload_n 0, 1) := by decide +kernel
theorem d_ClockWays_addWay_14 : decode prog_3_method_14_code 14 = .ok (.getfield 40, 3) := by decide +kernel
theorem d_ClockWays_addWay_17 : decode prog_3_method_14_code 17 = .ok (.iload 6, 2) := by decide +kernel
theorem d_ClockWays_addWay_19 : decode prog_3_method_14_code 19 = .ok (.iload_n 2, 1) := by decide +kernel
theorem d_ClockWays_addWay_20 : decode prog_3_method_14_code 20 = .ok (.iastore, 1) := by decide +kernel
theorem d_ClockWays_addWay_21 : decode prog_3_method_14_code 21 = .ok (.aload_n 0, 1) := by decide +kernel
theorem d_ClockWays_addWay_22 : decode prog_3_method_14_code 22 = .ok (.getfield 43, 3) := by decide +kernel
theorem d_ClockWays_addWay_25 : decode prog_3_method_14_code 25 = .ok (.iload 6, 2) := by decide +kernel
theorem d_ClockWays_addWay_27 : decode prog_3_method_14_code 27 = .ok (.iload_n 3, 1) := by decide +kernel
theorem d_ClockWays_addWay_28 : decode prog_3_method_14_code 28 = .ok (.iastore, 1) := by decide +kernel
theorem d_ClockWays_addWay_29 : decode prog_3_method_14_code 29 = .ok (.aload_n 0, 1) := by decide +kernel
theorem d_ClockWays_addWay_30 : decode prog_3_method_14_code 30 = .ok (.getfield 46, 3) := by decide +kernel
theorem d_ClockWays_addWay_33 : decode prog_3_method_14_code 33 = .ok (.iload 6, 2) := by decide +kernel
theorem d_ClockWays_addWay_35 : decode prog_3_method_14_code 35 = .ok (.iload 4, 2) := by decide +kernel
theorem d_ClockWays_addWay_37 : decode prog_3_method_14_code 37 = .ok (.iastore, 1) := by decide +kernel
