theorem d_WorstPaths_init_0 : decode prog_10_method_1_code 0 = .ok (.aload_n 0, 1) := by decide +kernel
theorem d_WorstPaths_init_1 : decode prog_10_method_1_code 1 = .ok (.invokespecial 3, 3) := by decide +kernel
theorem d_WorstPaths_init_4 : decode prog_10_method_1_code 4 = .ok (.aload_n 0, 1) := by decide +kernel
theorem d_WorstPaths_init_5 : decode prog_10_method_1_code 5 = .ok (.new 9, 3) := by decide +kernel
theorem d_WorstPaths_init_8 : decode prog_10_method_1_code 8 = .ok (.dup, 1) := by decide +kernel
theorem d_WorstPaths_init_9 : decode prog_10_method_1_code 9 = .ok (.invokespecial 11, 3) := by decide +kernel
theorem d_WorstPaths_init_12 : decode prog_10_method_1_code 12 = .ok (.putfield 12, 3) := by decide +kernel
theorem d_WorstPaths_init_15 : decode prog_10_method_1_code 15 = .ok (.aload_n 0, 1) := by decide +kernel
theorem d_WorstPaths_init_16 : decode prog_10_method_1_code 16 = .ok (.new 9, 3) := by decide +kernel
theorem d_WorstPaths_init_19 : decode prog_10_method_1_code 19 = .ok (.dup, 1) := by decide +kernel
theorem d_WorstPaths_init_20 : decode prog_10_method_1_code 20 = .ok (.invokespecial 11, 3) := by decide +kernel
theorem d_WorstPaths_init_23 : decode prog_10_method_1_code 23 = .ok (.putfield 18, 3) := by decide +kernel
theorem d_WorstPaths_init_26 : decode prog_10_method_1_code 26 = .ok (.aload_n 0, 1) := by decide +kernel
theorem d_WorstPaths_init_27 : decode prog_10_method_1_code 27 = .ok (.bipush 48, 2) := by decide +kernel
theorem d_WorstPaths_init_29 : decode prog_10_method_1_code 29 = .ok (.newarray .int, 2) := by decide +kernel
theorem d_WorstPaths_init_31 : decode prog_10_method_1_code 31 = .ok (.putfield 21, 3) := by decide +kernel
theorem d_WorstPaths_init_34 : decode prog_10_method_1_code 34 = .ok (.aload_n 0, 1) := by decide +kernel
theorem d_WorstPaths_init_35 : decode prog_10_method_1_code 35 = .ok (.sipush 144, 3) := by decide +kernel
theorem d_WorstPaths_init_38 : decode prog_10_method_1_code 38 = .ok (.newarray .int, 2) := by decide +kernel
theorem d_WorstPaths_init_40 : decode prog_10_method_1_code 40 = .ok (.putfield 25, 3) := by decide +kernel
theorem d_WorstPaths_init_43 : decode prog_10_method_1_code 43 = .ok (.aload_n 0, 1) := by decide +kernel
theorem d_WorstPaths_init_44 : decode prog_10_method_1_code 44 = .ok (.aload_n 1, 1) := by decide +kernel
theorem d_WorstPaths_init_45 : decode prog_10_method_1_code 45 = .ok (.putfield 28, 3) := by decide +kernel
theorem d_WorstPaths_init_48 : decode prog_10_method_1_code 48 = .ok (.aload_n 0, 1) := by decide +kernel
theorem d_WorstPaths_init_49 : decode prog_10_method_1_code 49 = .ok (.aload_n 2, 1) := by decide +kernel
theorem d_WorstPaths_init_50 : decode prog_10_method_1_code 50 = .ok (.putfield 32, 3) := by decide +kernel
theorem d_WorstPaths_init_53 : decode prog_10_method_1_code 53 = .ok (.aload_n 0, 1) := by decide +kernel
theorem d_WorstPaths_init_54 : decode prog_10_method_1_code 54 = .ok (.aload_n 3, 1) := by decide +kernel
theorem d_WorstPaths_init_55 : decode prog_10_method_1_code 55 = .ok (.putfield 36, 3) := by decide +kernel
theorem d_WorstPaths_init_58 : decode prog_10_method_1_code 58 = .ok (.aload_n 0, 1) := by decide +kernel
theorem d_WorstPaths_init_59 : decode prog_10_method_1_code 59 = .ok (.aload 4, 2) := by decide +kernel
theorem d_WorstPaths_init_61 : decode prog_10_method_1_code 61 = .ok (.putfield 40, 3) := by decide +kernel
theorem d_WorstPaths_init_64 : decode prog_10_method_1_code 64 = .ok (.return_, 1) := by decide +kernel
theorem d_WorstPaths_listOf_0 : decode prog_10_method_2_code 0 = .ok (.iload_n 1, 1) := by decide +kernel
theorem d_WorstPaths_listOf_1 : decode prog_10_method_2_code 1 = .ok (.ifCond .ne 10, 3) := by decide +kernel
theorem d_WorstPaths_listOf_4 : decode prog_10_method_2_code 4 = .ok (.aload_n 0, 1) := by decide +kernel
theorem d_WorstPaths_listOf_5 : decode prog_10_method_2_code 5 = .ok (.getfield 12, 3) := by decide +kernel
theorem d_WorstPaths_listOf_8 : decode prog_10_method_2_code 8 = .ok (.goto 7, 3) := by decide +kernel
theorem d_WorstPaths_listOf_11 : decode prog_10_method_2_code 11 = .ok (.aload_n 0, 1) := by decide +kernel
theorem d_WorstPaths_listOf_12 : decode prog_10_method_2_code 12 = .ok (.getfield 18, 3) := by decide +kernel
theorem d_WorstPaths_listOf_15 : decode prog_10_method_2_code 15 = .ok (.areturn, 1) := by decide +kernel
theorem d_WorstPaths_forget_0 : decode prog_10_method_3_code 0 = .ok (.aload_n 0, 1) := by decide +kernel
theorem d_WorstPaths_forget_1 : decode prog_10_method_3_code 1 = .ok (.iconst 0, 1) := by decide +kernel
theorem d_WorstPaths_forget_2 : decode prog_10_method_3_code 2 = .ok (.putfield 44, 3) := by decide +kernel
theorem d_WorstPaths_forget_5 : decode prog_10_method_3_code 5 = .ok (.return_, 1) := by decide +kernel
theorem d_WorstPaths_collect_0 : decode prog_10_method_4_code 0 = .ok (.aload_n 0, 1) := by decide +kernel
theorem d_WorstPaths_collect_1 : decode prog_10_method_4_code 1 = .ok (.getfield 44, 3) := by decide +kernel
theorem d_WorstPaths_collect_4 : decode prog_10_method_4_code 4 = .ok (.ifCond .eq 4, 3) := by decide +kernel
theorem d_WorstPaths_collect_7 : decode prog_10_method_4_code 7 = .ok (.return_, 1) := by decide +kernel
theorem d_WorstPaths_collect_8 : decode prog_10_method_4_code 8 = .ok (.aload_n 0, 1) := by decide +kernel
theorem d_WorstPaths_collect_9 : decode prog_10_method_4_code 9 = .ok (.iconst 1, 1) := by decide +kernel
theorem d_WorstPaths_collect_10 : decode prog_10_method_4_code 10 = .ok (.putfield 44, 3) := by decide +kernel
theorem d_WorstPaths_collect_13 : decode prog_10_method_4_code 13 = .ok (.aload_n 0, 1) := by decide +kernel
theorem d_WorstPaths_collect_14 : decode prog_10_method_4_code 14 = .ok (.getfield 12, 3) := by decide +kernel
theorem d_WorstPaths_collect_17 : decode prog_10_method_4_code 17 = .ok (.iconst 0, 1) := by decide +kernel
theorem d_WorstPaths_collect_18 : decode prog_10_method_4_code 18 = .ok (.putfield 48, 3) := by decide +kernel
theorem d_WorstPaths_collect_21 : decode prog_10_method_4_code 21 = .ok (.aload_n 0, 1) := by decide +kernel
theorem d_WorstPaths_collect_22 : decode prog_10_method_4_code 22 = .ok (.getfield 18, 3) := by decide +kernel
theorem d_WorstPaths_collect_25 : decode prog_10_method_4_code 25 = .ok (.iconst 0, 1) := by decide +kernel
theorem d_WorstPaths_collect_26 : decode prog_10_method_4_code 26 = .ok (.putfield 48, 3) := by decide +kernel
theorem d_WorstPaths_collect_29 : decode prog_10_method_4_code 29 = .ok (.iconst 0, 1) := by decide +kernel
theorem d_WorstPaths_collect_30 : decode prog_10_method_4_code 30 = .ok (.istore_n 1, 1) := by decide +kernel
theorem d_WorstPaths_collect_31 : decode prog_10_method_4_code 31 = .ok (.iload_n 1, 1) := by decide +kernel
theorem d_WorstPaths_collect_32 : decode prog_10_method_4_code 32 = .ok (.aload_n 0, 1) := by decide +kernel
theorem d_WorstPaths_collect_33 : decode prog_10_method_4_code 33 = .ok (.getfield 28, 3) := by decide +kernel
theorem d_WorstPaths_collect_36 : decode prog_10_method_4_code 36 = .ok (.getfield 52, 3) := by decide +kernel
theorem d_WorstPaths_collect_39 : decode prog_10_method_4_code 39 = .ok (.if_icmp .ge 72, 3) := by decide +kernel
theorem d_WorstPaths_collect_42 : decode prog_10_method_4_code 42 = .ok (.aload_n 0, 1) := by decide +kernel
theorem d_WorstPaths_collect_43 : decode prog_10_method_4_code 43 = .ok (.getfield 32, 3) := by decide +kernel
theorem d_WorstPaths_collect_46 : decode prog_10_method_4_code 46 = .ok (.iload_n 1, 1) := by decide +kernel
theorem d_WorstPaths_collect_47 : decode prog_10_method_4_code 47 = .ok (.invokevirtual 55, 3) := by decide +kernel
theorem d_WorstPaths_collect_50 : decode prog_10_method_4_code 50 = .ok (.ifCond .eq 55, 3) := by decide +kernel
theorem d_WorstPaths_collect_53 : decode prog_10_method_4_code 53 = .ok (.aload_n 0, 1) := by decide +kernel
theorem d_WorstPaths_collect_54 : decode prog_10_method_4_code 54 = .ok (.iload_n 1, 1) := by decide +kernel
theorem d_WorstPaths_collect_55 : decode prog_10_method_4_code 55 = .ok (.putfield 61, 3) := by decide +kernel
theorem d_WorstPaths_collect_58 : decode prog_10_method_4_code 58 = .ok (.aload_n 0, 1) := by decide +kernel
theorem d_WorstPaths_collect_59 : decode prog_10_method_4_code 59 = .ok (.getfield 36, 3) := by decide +kernel
theorem d_WorstPaths_collect_62 : decode prog_10_method_4_code 62 = .ok (.aload_n 0, 1) := by decide +kernel
theorem d_WorstPaths_collect_63 : decode prog_10_method_4_code 63 = .ok (.getfield 61, 3) := by decide +kernel
theorem d_WorstPaths_collect_66 : decode prog_10_method_4_code 66 = .ok (.aload_n 0, 1) := by decide +kernel
theorem d_WorstPaths_collect_67 : decode prog_10_method_4_code 67 = .ok (.getfield 32, 3) := by decide +kernel
theorem d_WorstPaths_collect_70 : decode prog_10_method_4_code 70 = .ok (.getfield 64, 3) := by decide +kernel
theorem d_WorstPaths_collect_73 : decode prog_10_method_4_code 73 = .ok (.aload_n 0, 1) := by decide +kernel
theorem d_WorstPaths_collect_74 : decode prog_10_method_4_code 74 = .ok (.getfield 61, 3) := by decide +kernel
theorem d_WorstPaths_collect_77 : decode prog_10_method_4_code 77 = .ok (.iaload, 1) := by decide +kernel
theorem d_WorstPaths_collect_78 : decode prog_10_method_4_code 78 = .ok (.invokevirtual 67, 3) := by decide +kernel
theorem d_WorstPaths_collect_81 : decode prog_10_method_4_code 81 = .ok (.iconst 0, 1) := by decide +kernel
theorem d_WorstPaths_collect_82 : decode prog_10_method_4_code 82 = .ok (.istore_n 2, 1) := by decide +kernel
theorem d_WorstPaths_collect_83 : decode prog_10_method_4_code 83 = .ok (.iload_n 2, 1) := by decide +kernel
theorem d_WorstPaths_collect_84 : decode prog_10_method_4_code 84 = .ok (.aload_n 0, 1) := by decide +kernel
theorem d_WorstPaths_collect_85 : decode prog_10_method_4_code 85 = .ok (.getfield 28, 3) := by decide +kernel
theorem d_WorstPaths_collect_88 : decode prog_10_method_4_code 88 = .ok (.getfield 52, 3) := by decide +kernel
theorem d_WorstPaths_collect_91 : decode prog_10_method_4_code 91 = .ok (.if_icmp .ge 14, 3) := by decide +kernel
theorem d_WorstPaths_collect_94 : decode prog_10_method_4_code 94 = .ok (.aload_n 0, 1) := by decide +kernel
theorem d_WorstPaths_collect_95 : decode prog_10_method_4_code 95 = .ok (.iload_n 2, 1) := by decide +kernel
theorem d_WorstPaths_collect_96 : decode prog_10_method_4_code 96 = .ok (.invokevirtual 73, 3) := by decide +kernel
theorem d_WorstPaths_collect_99 : decode prog_10_method_4_code 99 = .ok (.iinc 2 1, 3) := by decide +kernel
theorem d_WorstPaths_collect_102 : decode prog_10_method_4_code 102 = .ok (.goto (-19), 3) := by decide +kernel
theorem d_WorstPaths_collect_105 : decode prog_10_method_4_code 105 = .ok (.iinc 1 1, 3) := by decide +kernel
theorem d_WorstPaths_collect_108 : decode prog_10_method_4_code 108 = .ok (.goto (-77), 3) := by decide +kernel
theorem d_WorstPaths_collect_111 : decode prog_10_method_4_code 111 = .ok (.return_, 1) := by decide +kernel
theorem d_WorstPaths_collectTo_0 : decode prog_10_method_5_code 0 = .ok (.iload_n 1, 1) := by decide +kernel
theorem d_WorstPaths_collectTo_1 : decode prog_10_method_5_code 1 = .ok (.iconst 3, 1) := by decide +kernel
theorem d_WorstPaths_collectTo_2 : decode prog_10_method_5_code 2 = .ok (.imul, 1) := by decide +kernel
theorem d_WorstPaths_collectTo_3 : decode prog_10_method_5_code 3 = .ok (.iconst 0, 1) := by decide +kernel
theorem d_WorstPaths_collectTo_4 : decode prog_10_method_5_code 4 = .ok (.iadd, 1) := by decide +kernel
theorem d_WorstPaths_collectTo_5 : decode prog_10_method_5_code 5 = .ok (.istore_n 2, 1) := by decide +kernel
theorem d_WorstPaths_collectTo_6 : decode prog_10_method_5_code 6 = .ok (.aload_n 0, 1) := by decide +kernel
theorem d_WorstPaths_collectTo_7 : decode prog_10_method_5_code 7 = .ok (.getfield 32, 3) := by decide +kernel
theorem d_WorstPaths_collectTo_10 : decode prog_10_method_5_code 10 = .ok (.iload_n 1, 1) := by decide +kernel
theorem d_WorstPaths_collectTo_11 : decode prog_10_method_5_code 11 = .ok (.invokevirtual 77, 3) := by decide +kernel
theorem d_WorstPaths_collectTo_14 : decode prog_10_method_5_code 14 = .ok (.ifCond .eq 22, 3) := by decide +kernel
theorem d_WorstPaths_collectTo_17 : decode prog_10_method_5_code 17 = .ok (.aload_n 0, 1) := by decide +kernel
theorem d_WorstPaths_collectTo_18 : decode prog_10_method_5_code 18 = .ok (.getfield 36, 3) := by decide +kernel
theorem d_WorstPaths_collectTo_21 : decode prog_10_method_5_code 21 = .ok (.aload_n 0, 1) := by decide +kernel
theorem d_WorstPaths_collectTo_22 : decode prog_10_method_5_code 22 = .ok (.getfield 28, 3) := by decide +kernel
theorem d_WorstPaths_collectTo_25 : decode prog_10_method_5_code 25 = .ok (.getfield 80, 3) := by decide +kernel
theorem d_WorstPaths_collectTo_28 : decode prog_10_method_5_code 28 = .ok (.iload_n 2, 1) := by decide +kernel
theorem d_WorstPaths_collectTo_29 : decode prog_10_method_5_code 29 = .ok (.iaload, 1) := by decide +kernel
theorem d_WorstPaths_collectTo_30 : decode prog_10_method_5_code 30 = .ok (.invokevirtual 83, 3) := by decide +kernel
theorem d_WorstPaths_collectTo_33 : decode prog_10_method_5_code 33 = .ok (.ifCond .ne 4, 3) := by decide +kernel
theorem d_WorstPaths_collectTo_36 : decode prog_10_method_5_code 36 = .ok (.return_, 1) := by decide +kernel
theorem d_WorstPaths_collectTo_37 : decode prog_10_method_5_code 37 = .ok (.aload_n 0, 1) := by decide +kernel
theorem d_WorstPaths_collectTo_38 : decode prog_10_method_5_code 38 = .ok (.iload_n 1, 1) := by decide +kernel
theorem d_WorstPaths_collectTo_39 : decode prog_10_method_5_code 39 = .ok (.putfield 86, 3) := by decide +kernel
theorem d_WorstPaths_collectTo_42 : decode prog_10_method_5_code 42 = .ok (.aload_n 0, 1) := by decide +kernel
theorem d_WorstPaths_collectTo_43 : decode prog_10_method_5_code 43 = .ok (.getfield 40, 3) := by decide +kernel
theorem d_WorstPaths_collectTo_46 : decode prog_10_method_5_code 46 = .ok (.aload_n 0, 1) := by decide +kernel
theorem d_WorstPaths_collectTo_47 : decode prog_10_method_5_code 47 = .ok (.getfield 61, 3) := by decide +kernel
theorem d_WorstPaths_collectTo_50 : decode prog_10_method_5_code 50 = .ok (.aload_n 0, 1) := by decide +kernel
theorem d_WorstPaths_collectTo_51 : decode prog_10_method_5_code 51 = .ok (.getfield 86, 3) := by decide +kernel
theorem d_WorstPaths_collectTo_54 : decode prog_10_method_5_code 54 = .ok (.invokevirtual 89, 3) := by decide +kernel
theorem d_WorstPaths_collectTo_57 : decode prog_10_method_5_code 57 = .ok (.iconst 0, 1) := by decide +kernel
theorem d_WorstPaths_collectTo_58 : decode prog_10_method_5_code 58 = .ok (.istore_n 3, 1) := by decide +kernel
theorem d_WorstPaths_collectTo_59 : decode prog_10_method_5_code 59 = .ok (.iload_n 3, 1) := by decide +kernel
theorem d_WorstPaths_collectTo_60 : decode prog_10_method_5_code 60 = .ok (.iconst 2, 1) := by decide +kernel
theorem d_WorstPaths_collectTo_61 : decode prog_10_method_5_code 61 = .ok (.if_icmp .ge 67, 3) := by decide +kernel
theorem d_WorstPaths_collectTo_64 : decode prog_10_method_5_code 64 = .ok (.iconst 2, 1) := by decide +kernel
theorem d_WorstPaths_collectTo_65 : decode prog_10_method_5_code 65 = .ok (.aload_n 0, 1) := by decide +kernel
theorem d_WorstPaths_collectTo_66 : decode prog_10_method_5_code 66 = .ok (.getfield 28, 3) := by decide +kernel
theorem d_WorstPaths_collectTo_69 : decode prog_10_method_5_code 69 = .ok (.getfield 80, 3) := by decide +kernel
theorem d_WorstPaths_collectTo_72 : decode prog_10_method_5_code 72 = .ok (.iload_n 2, 1) := by decide +kernel
theorem d_WorstPaths_collectTo_73 : decode prog_10_method_5_code 73 = .ok (.iaload, 1) := by decide +kernel
theorem d_WorstPaths_collectTo_74 : decode prog_10_method_5_code 74 = .ok (.imul, 1) := by decide +kernel
theorem d_WorstPaths_collectTo_75 : decode prog_10_method_5_code 75 = .ok (.iload_n 3, 1) := by decide +kernel
theorem d_WorstPaths_collectTo_76 : decode prog_10_method_5_code 76 = .ok (.iadd, 1) := by decide +kernel
theorem d_WorstPaths_collectTo_77 : decode prog_10_method_5_code 77 = .ok (.istore 4, 2) := by decide +kernel
theorem d_WorstPaths_collectTo_79 : decode prog_10_method_5_code 79 = .ok (.aload_n 0, 1) := by decide +kernel
theorem d_WorstPaths_collectTo_80 : decode prog_10_method_5_code 80 = .ok (.getfield 36, 3) := by decide +kernel
theorem d_WorstPaths_collectTo_83 : decode prog_10_method_5_code 83 = .ok (.getfield 94, 3) := by decide +kernel
theorem d_WorstPaths_collectTo_86 : decode prog_10_method_5_code 86 = .ok (.iload 4, 2) := by decide +kernel
theorem d_WorstPaths_collectTo_88 : decode prog_10_method_5_code 88 = .ok (.iaload, 1) := by decide +kernel
theorem d_WorstPaths_collectTo_89 : decode prog_10_method_5_code 89 = .ok (.ifCond .le 33, 3) := by decide +kernel
theorem d_WorstPaths_collectTo_92 : decode prog_10_method_5_code 92 = .ok (.aload_n 0, 1) := by decide +kernel
theorem d_WorstPaths_collectTo_93 : decode prog_10_method_5_code 93 = .ok (.iload_n 3, 1) := by decide +kernel
theorem d_WorstPaths_collectTo_94 : decode prog_10_method_5_code 94 = .ok (.putfield 95, 3) := by decide +kernel
theorem d_WorstPaths_collectTo_97 : decode prog_10_method_5_code 97 = .ok (.aload_n 0, 1) := by decide +kernel
theorem d_WorstPaths_collectTo_98 : decode prog_10_method_5_code 98 = .ok (.iload 4, 2) := by decide +kernel
theorem d_WorstPaths_collectTo_100 : decode prog_10_method_5_code 100 = .ok (.iconst 0, 1) := by decide +kernel
theorem d_WorstPaths_collectTo_101 : decode prog_10_method_5_code 101 = .ok (.aload_n 0, 1) := by decide +kernel
theorem d_WorstPaths_collectTo_102 : decode prog_10_method_5_code 102 = .ok (.getfield 28, 3) := by decide +kernel
theorem d_WorstPaths_collectTo_105 : decode prog_10_method_5_code 105 = .ok (.getfield 98, 3) := by decide +kernel
theorem d_WorstPaths_collectTo_108 : decode prog_10_method_5_code 108 = .ok (.iload_n 2, 1) := by decide +kernel
theorem d_WorstPaths_collectTo_109 : decode prog_10_method_5_code 109 = .ok (.iaload, 1) := by decide +kernel
theorem d_WorstPaths_collectTo_110 : decode prog_10_method_5_code 110 = .ok (.aload_n 0, 1) := by decide +kernel
theorem d_WorstPaths_collectTo_111 : decode prog_10_method_5_code 111 = .ok (.getfield 28, 3) := by decide +kernel
theorem d_WorstPaths_collectTo_114 : decode prog_10_method_5_code 114 = .ok (.getfield 101, 3) := by decide +kernel
theorem d_WorstPaths_collectTo_117 : decode prog_10_method_5_code 117 = .ok (.iload_n 2, 1) := by decide +kernel
theorem d_WorstPaths_collectTo_118 : decode prog_10_method_5_code 118 = .ok (.iaload, 1) := by decide +kernel
theorem d_WorstPaths_collectTo_119 : decode prog_10_method_5_code 119 = .ok (.invokevirtual 104, 3) := by decide +kernel
theorem d_WorstPaths_collectTo_122 : decode prog_10_method_5_code 122 = .ok (.iinc 3 1, 3) := by decide +kernel
theorem d_WorstPaths_collectTo_125 : decode prog_10_method_5_code 125 = .ok (.goto (-66), 3) := by decide +kernel
theorem d_WorstPaths_collectTo_128 : decode prog_10_method_5_code 128 = .ok (.return_, 1) := by decide +kernel
theorem d_WorstPaths_goBack_0 : decode prog_10_method_6_code 0 = .ok (.iload_n 1, 1) := by decide +kernel
theorem d_WorstPaths_goBack_1 : decode prog_10_method_6_code 1 = .ok (.iconst 1, 1) := by decide +kernel
theorem d_WorstPaths_goBack_2 : decode prog_10_method_6_code 2 = .ok (.ishr, 1) := by decide +kernel
theorem d_WorstPaths_goBack_3 : decode prog_10_method_6_code 3 = .ok (.istore 5, 2) := by decide +kernel
theorem d_WorstPaths_goBack_5 : decode prog_10_method_6_code 5 = .ok (.iload_n 1, 1) := by decide +kernel
theorem d_WorstPaths_goBack_6 : decode prog_10_method_6_code 6 = .ok (.iconst 1, 1) := by decide +kernel
theorem d_WorstPaths_goBack_7 : decode prog_10_method_6_code 7 = .ok (.iand, 1) := by decide +kernel
theorem d_WorstPaths_goBack_8 : decode prog_10_method_6_code 8 = .ok (.istore 6, 2) := by decide +kernel
theorem d_WorstPaths_goBack_10 : decode prog_10_method_6_code 10 = .ok (.iload 5, 2) := by decide +kernel
theorem d_WorstPaths_goBack_12 : decode prog_10_method_6_code 12 = .ok (.aload_n 0, 1) := by decide +kernel
theorem d_WorstPaths_goBack_13 : decode prog_10_method_6_code 13 = .ok (.getfield 61, 3) := by decide +kernel
theorem d_WorstPaths_goBack_16 : decode prog_10_method_6_code 16 = .ok (.if_icmp .ne 34, 3) := by decide +kernel
theorem d_WorstPaths_goBack_19 : decode prog_10_method_6_code 19 = .ok (.aload_n 0, 1) := by decide +kernel
theorem d_WorstPaths_goBack_20 : decode prog_10_method_6_code 20 = .ok (.iload 6, 2) := by decide +kernel
theorem d_WorstPaths_goBack_22 : decode prog_10_method_6_code 22 = .ok (.iload_n 2, 1) := by decide +kernel
theorem d_WorstPaths_goBack_23 : decode prog_10_method_6_code 23 = .ok (.iload_n 3, 1) := by decide +kernel
theorem d_WorstPaths_goBack_24 : decode prog_10_method_6_code 24 = .ok (.aload_n 0, 1) := by decide +kernel
theorem d_WorstPaths_goBack_25 : decode prog_10_method_6_code 25 = .ok (.getfield 28, 3) := by decide +kernel
theorem d_WorstPaths_goBack_28 : decode prog_10_method_6_code 28 = .ok (.getfield 108, 3) := by decide +kernel
theorem d_WorstPaths_goBack_31 : decode prog_10_method_6_code 31 = .ok (.iload_n 1, 1) := by decide +kernel
theorem d_WorstPaths_goBack_32 : decode prog_10_method_6_code 32 = .ok (.iaload, 1) := by decide +kernel
theorem d_WorstPaths_goBack_33 : decode prog_10_method_6_code 33 = .ok (.iadd, 1) := by decide +kernel
theorem d_WorstPaths_goBack_34 : decode prog_10_method_6_code 34 = .ok (.iload 4, 2) := by decide +kernel
theorem d_WorstPaths_goBack_36 : decode prog_10_method_6_code 36 = .ok (.aload_n 0, 1) := by decide +kernel
theorem d_WorstPaths_goBack_37 : decode prog_10_method_6_code 37 = .ok (.getfield 28, 3) := by decide +kernel
theorem d_WorstPaths_goBack_40 : decode prog_10_method_6_code 40 = .ok (.getfield 111, 3) := by decide +kernel
theorem d_WorstPaths_goBack_43 : decode prog_10_method_6_code 43 = .ok (.iload_n 1, 1) := by decide +kernel
theorem d_WorstPaths_goBack_44 : decode prog_10_method_6_code 44 = .ok (.iaload, 1) := by decide +kernel
theorem d_WorstPaths_goBack_45 : decode prog_10_method_6_code 45 = .ok (.iadd, 1) := by decide +kernel
theorem d_WorstPaths_goBack_46 : decode prog_10_method_6_code 46 = .ok (.invokevirtual 114, 3) := by decide +kernel
theorem d_WorstPaths_goBack_49 : decode prog_10_method_6_code 49 = .ok (.return_, 1) := by decide +kernel
theorem d_WorstPaths_goBack_50 : decode prog_10_method_6_code 50 = .ok (.iconst 0, 1) := by decide +kernel
theorem d_WorstPaths_goBack_51 : decode prog_10_method_6_code 51 = .ok (.istore 7, 2) := by decide +kernel
theorem d_WorstPaths_goBack_53 : decode prog_10_method_6_code 53 = .ok (.iload 7, 2) := by decide +kernel
theorem d_WorstPaths_goBack_55 : decode prog_10_method_6_code 55 = .ok (.aload_n 0, 1) := by decide +kernel
theorem d_WorstPaths_goBack_56 : decode prog_10_method_6_code 56 = .ok (.getfield 28, 3) := by decide +kernel
theorem d_WorstPaths_goBack_59 : decode prog_10_method_6_code 59 = .ok (.getfield 117, 3) := by decide +kernel
theorem d_WorstPaths_goBack_62 : decode prog_10_method_6_code 62 = .ok (.iload 5, 2) := by decide +kernel
theorem d_WorstPaths_goBack_64 : decode prog_10_method_6_code 64 = .ok (.iaload, 1) := by decide +kernel
theorem d_WorstPaths_goBack_65 : decode prog_10_method_6_code 65 = .ok (.if_icmp .ge 116, 3) := by decide +kernel
theorem d_WorstPaths_goBack_68 : decode prog_10_method_6_code 68 = .ok (.iload_n 2, 1) := by decide +kernel
theorem d_WorstPaths_goBack_69 : decode prog_10_method_6_code 69 = .ok (.bipush 48, 2) := by decide +kernel
theorem d_WorstPaths_goBack_71 : decode prog_10_method_6_code 71 = .ok (.if_icmp .ge 110, 3) := by decide +kernel
theorem d_WorstPaths_goBack_74 : decode prog_10_method_6_code 74 = .ok (.iload 5, 2) := by decide +kernel
theorem d_WorstPaths_goBack_76 : decode prog_10_method_6_code 76 = .ok (.iconst 3, 1) := by decide +kernel
theorem d_WorstPaths_goBack_77 : decode prog_10_method_6_code 77 = .ok (.imul, 1) := by decide +kernel
theorem d_WorstPaths_goBack_78 : decode prog_10_method_6_code 78 = .ok (.iload 7, 2) := by decide +kernel
theorem d_WorstPaths_goBack_80 : decode prog_10_method_6_code 80 = .ok (.iadd, 1) := by decide +kernel
theorem d_WorstPaths_goBack_81 : decode prog_10_method_6_code 81 = .ok (.istore 8, 2) := by decide +kernel
theorem d_WorstPaths_goBack_83 : decode prog_10_method_6_code 83 = .ok (.aload_n 0, 1) := by decide +kernel
theorem d_WorstPaths_goBack_84 : decode prog_10_method_6_code 84 = .ok (.getfield 21, 3) := by decide +kernel
theorem d_WorstPaths_goBack_87 : decode prog_10_method_6_code 87 = .ok (.iload_n 2, 1) := by decide +kernel
theorem d_WorstPaths_goBack_88 : decode prog_10_method_6_code 88 = .ok (.iload 5, 2) := by decide +kernel
theorem d_WorstPaths_goBack_90 : decode prog_10_method_6_code 90 = .ok (.iload 7, 2) := by decide +kernel
theorem d_WorstPaths_goBack_92 : decode prog_10_method_6_code 92 = .ok (.iload 6, 2) := by decide +kernel
theorem d_WorstPaths_goBack_94 : decode prog_10_method_6_code 94 = .ok (.invokestatic 120, 3) := by decide +kernel
theorem d_WorstPaths_goBack_97 : decode prog_10_method_6_code 97 = .ok (.iastore, 1) := by decide +kernel
theorem d_WorstPaths_goBack_98 : decode prog_10_method_6_code 98 = .ok (.iconst 0, 1) := by decide +kernel
theorem d_WorstPaths_goBack_99 : decode prog_10_method_6_code 99 = .ok (.istore 9, 2) := by decide +kernel
theorem d_WorstPaths_goBack_101 : decode prog_10_method_6_code 101 = .ok (.iload 9, 2) := by decide +kernel
theorem d_WorstPaths_goBack_103 : decode prog_10_method_6_code 103 = .ok (.iconst 2, 1) := by decide +kernel
theorem d_WorstPaths_goBack_104 : decode prog_10_method_6_code 104 = .ok (.if_icmp .ge 71, 3) := by decide +kernel
theorem d_WorstPaths_goBack_107 : decode prog_10_method_6_code 107 = .ok (.aload_n 0, 1) := by decide +kernel
theorem d_WorstPaths_goBack_108 : decode prog_10_method_6_code 108 = .ok (.iload 8, 2) := by decide +kernel
theorem d_WorstPaths_goBack_110 : decode prog_10_method_6_code 110 = .ok (.iload 9, 2) := by decide +kernel
theorem d_WorstPaths_goBack_112 : decode prog_10_method_6_code 112 = .ok (.iload 6, 2) := by decide +kernel
theorem d_WorstPaths_goBack_114 : decode prog_10_method_6_code 114 = .ok (.invokevirtual 124, 3) := by decide +kernel
theorem d_WorstPaths_goBack_117 : decode prog_10_method_6_code 117 = .ok (.ifCond .eq 52, 3) := by decide +kernel
theorem d_WorstPaths_goBack_120 : decode prog_10_method_6_code 120 = .ok (.aload_n 0, 1) := by decide +kernel
theorem d_WorstPaths_goBack_121 : decode prog_10_method_6_code 121 = .ok (.iconst 2, 1) := by decide +kernel
theorem d_WorstPaths_goBack_122 : decode prog_10_method_6_code 122 = .ok (.aload_n 0, 1) := by decide +kernel
theorem d_WorstPaths_goBack_123 : decode prog_10_method_6_code 123 = .ok (.getfield 28, 3) := by decide +kernel
theorem d_WorstPaths_goBack_126 : decode prog_10_method_6_code 126 = .ok (.getfield 80, 3) := by decide +kernel
theorem d_WorstPaths_goBack_129 : decode prog_10_method_6_code 129 = .ok (.iload 8, 2) := by decide +kernel
theorem d_WorstPaths_goBack_131 : decode prog_10_method_6_code 131 = .ok (.iaload, 1) := by decide +kernel
theorem d_WorstPaths_goBack_132 : decode prog_10_method_6_code 132 = .ok (.imul, 1) := by decide +kernel
theorem d_WorstPaths_goBack_133 : decode prog_10_method_6_code 133 = .ok (.iload 9, 2) := by decide +kernel
theorem d_WorstPaths_goBack_135 : decode prog_10_method_6_code 135 = .ok (.iadd, 1) := by decide +kernel
theorem d_WorstPaths_goBack_136 : decode prog_10_method_6_code 136 = .ok (.iload_n 2, 1) := by decide +kernel
theorem d_WorstPaths_goBack_137 : decode prog_10_method_6_code 137 = .ok (.iconst 1, 1) := by decide +kernel
theorem d_WorstPaths_goBack_138 : decode prog_10_method_6_code 138 = .ok (.iadd, 1) := by decide +kernel
theorem d_WorstPaths_goBack_139 : decode prog_10_method_6_code 139 = .ok (.iload_n 3, 1) := by decide +kernel
theorem d_WorstPaths_goBack_140 : decode prog_10_method_6_code 140 = .ok (.aload_n 0, 1) := by decide +kernel
theorem d_WorstPaths_goBack_141 : decode prog_10_method_6_code 141 = .ok (.getfield 28, 3) := by decide +kernel
theorem d_WorstPaths_goBack_144 : decode prog_10_method_6_code 144 = .ok (.iload 8, 2) := by decide +kernel
theorem d_WorstPaths_goBack_146 : decode prog_10_method_6_code 146 = .ok (.iload 6, 2) := by decide +kernel
theorem d_WorstPaths_goBack_148 : decode prog_10_method_6_code 148 = .ok (.invokevirtual 128, 3) := by decide +kernel
theorem d_WorstPaths_goBack_151 : decode prog_10_method_6_code 151 = .ok (.iadd, 1) := by decide +kernel
theorem d_WorstPaths_goBack_152 : decode prog_10_method_6_code 152 = .ok (.iload 4, 2) := by decide +kernel
theorem d_WorstPaths_goBack_154 : decode prog_10_method_6_code 154 = .ok (.aload_n 0, 1) := by decide +kernel
theorem d_WorstPaths_goBack_155 : decode prog_10_method_6_code 155 = .ok (.getfield 28, 3) := by decide +kernel
theorem d_WorstPaths_goBack_158 : decode prog_10_method_6_code 158 = .ok (.iload 8, 2) := by decide +kernel
theorem d_WorstPaths_goBack_160 : decode prog_10_method_6_code 160 = .ok (.iload 6, 2) := by decide +kernel
theorem d_WorstPaths_goBack_162 : decode prog_10_method_6_code 162 = .ok (.invokevirtual 132, 3) := by decide +kernel
theorem d_WorstPaths_goBack_165 : decode prog_10_method_6_code 165 = .ok (.iadd, 1) := by decide +kernel
theorem d_WorstPaths_goBack_166 : decode prog_10_method_6_code 166 = .ok (.invokevirtual 104, 3) := by decide +kernel
theorem d_WorstPaths_goBack_169 : decode prog_10_method_6_code 169 = .ok (.iinc 9 1, 3) := by decide +kernel
theorem d_WorstPaths_goBack_172 : decode prog_10_method_6_code 172 = .ok (.goto (-71), 3) := by decide +kernel
theorem d_WorstPaths_goBack_175 : decode prog_10_method_6_code 175 = .ok (.iinc 7 1, 3) := by decide +kernel
theorem d_WorstPaths_goBack_178 : decode prog_10_method_6_code 178 = .ok (.goto (-125), 3) := by decide +kernel
theorem d_WorstPaths_goBack_181 : decode prog_10_method_6_code 181 = .ok (.return_, 1) := by decide +kernel
theorem d_WorstPaths_leads_0 : decode prog_10_method_7_code 0 = .ok (.aload_n 0, 1) := by decide +kernel
theorem d_WorstPaths_leads_1 : decode prog_10_method_7_code 1 = .ok (.getfield 28, 3) := by decide +kernel
theorem d_WorstPaths_leads_4 : decode prog_10_method_7_code 4 = .ok (.getfield 80, 3) := by decide +kernel
theorem d_WorstPaths_leads_7 : decode prog_10_method_7_code 7 = .ok (.iload_n 1, 1) := by decide +kernel
theorem d_WorstPaths_leads_8 : decode prog_10_method_7_code 8 = .ok (.iaload, 1) := by decide +kernel
theorem d_WorstPaths_leads_9 : decode prog_10_method_7_code 9 = .ok (.istore 4, 2) := by decide +kernel
theorem d_WorstPaths_leads_11 : decode prog_10_method_7_code 11 = .ok (.iload 4, 2) := by decide +kernel
theorem d_WorstPaths_leads_13 : decode prog_10_method_7_code 13 = .ok (.ifCond .lt 37, 3) := by decide +kernel
theorem d_WorstPaths_leads_16 : decode prog_10_method_7_code 16 = .ok (.aload_n 0, 1) := by decide +kernel
theorem d_WorstPaths_leads_17 : decode prog_10_method_7_code 17 = .ok (.getfield 28, 3) := by decide +kernel
theorem d_WorstPaths_leads_20 : decode prog_10_method_7_code 20 = .ok (.iload_n 1, 1) := by decide +kernel
theorem d_WorstPaths_leads_21 : decode prog_10_method_7_code 21 = .ok (.iload_n 2, 1) := by decide +kernel
theorem d_WorstPaths_leads_22 : decode prog_10_method_7_code 22 = .ok (.iload_n 3, 1) := by decide +kernel
theorem d_WorstPaths_leads_23 : decode prog_10_method_7_code 23 = .ok (.invokevirtual 135, 3) := by decide +kernel
theorem d_WorstPaths_leads_26 : decode prog_10_method_7_code 26 = .ok (.ifCond .eq 24, 3) := by decide +kernel
theorem d_WorstPaths_leads_29 : decode prog_10_method_7_code 29 = .ok (.aload_n 0, 1) := by decide +kernel
theorem d_WorstPaths_leads_30 : decode prog_10_method_7_code 30 = .ok (.getfield 36, 3) := by decide +kernel
theorem d_WorstPaths_leads_33 : decode prog_10_method_7_code 33 = .ok (.getfield 94, 3) := by decide +kernel
theorem d_WorstPaths_leads_36 : decode prog_10_method_7_code 36 = .ok (.iconst 2, 1) := by decide +kernel
theorem d_WorstPaths_leads_37 : decode prog_10_method_7_code 37 = .ok (.iload 4, 2) := by decide +kernel
theorem d_WorstPaths_leads_39 : decode prog_10_method_7_code 39 = .ok (.imul, 1) := by decide +kernel
theorem d_WorstPaths_leads_40 : decode prog_10_method_7_code 40 = .ok (.iload_n 2, 1) := by decide +kernel
theorem d_WorstPaths_leads_41 : decode prog_10_method_7_code 41 = .ok (.iadd, 1) := by decide +kernel
theorem d_WorstPaths_leads_42 : decode prog_10_method_7_code 42 = .ok (.iaload, 1) := by decide +kernel
theorem d_WorstPaths_leads_43 : decode prog_10_method_7_code 43 = .ok (.ifCond .le 7, 3) := by decide +kernel
theorem d_WorstPaths_leads_46 : decode prog_10_method_7_code 46 = .ok (.iconst 1, 1) := by decide +kernel
theorem d_WorstPaths_leads_47 : decode prog_10_method_7_code 47 = .ok (.goto 4, 3) := by decide +kernel
theorem d_WorstPaths_leads_50 : decode prog_10_method_7_code 50 = .ok (.iconst 0, 1) := by decide +kernel
theorem d_WorstPaths_leads_51 : decode prog_10_method_7_code 51 = .ok (.ireturn, 1) := by decide +kernel
theorem d_WorstPaths_offerAll_0 : decode prog_10_method_8_code 0 = .ok (.iload 4, 2) := by decide +kernel
theorem d_WorstPaths_offerAll_2 : decode prog_10_method_8_code 2 = .ok (.aload_n 0, 1) := by decide +kernel
theorem d_WorstPaths_offerAll_3 : decode prog_10_method_8_code 3 = .ok (.getfield 28, 3) := by decide +kernel
theorem d_WorstPaths_offerAll_6 : decode prog_10_method_8_code 6 = .ok (.getfield 138, 3) := by decide +kernel
theorem d_WorstPaths_offerAll_9 : decode prog_10_method_8_code 9 = .ok (.iconst 2, 1) := by decide +kernel
theorem d_WorstPaths_offerAll_10 : decode prog_10_method_8_code 10 = .ok (.aload_n 0, 1) := by decide +kernel
theorem d_WorstPaths_offerAll_11 : decode prog_10_method_8_code 11 = .ok (.getfield 86, 3) := by decide +kernel
theorem d_WorstPaths_offerAll_14 : decode prog_10_method_8_code 14 = .ok (.imul, 1) := by decide +kernel
theorem d_WorstPaths_offerAll_15 : decode prog_10_method_8_code 15 = .ok (.aload_n 0, 1) := by decide +kernel
theorem d_WorstPaths_offerAll_16 : decode prog_10_method_8_code 16 = .ok (.getfield 95, 3) := by decide +kernel
theorem d_WorstPaths_offerAll_19 : decode prog_10_method_8_code 19 = .ok (.iadd, 1) := by decide +kernel
theorem d_WorstPaths_offerAll_20 : decode prog_10_method_8_code 20 = .ok (.iaload, 1) := by decide +kernel
theorem d_WorstPaths_offerAll_21 : decode prog_10_method_8_code 21 = .ok (.iadd, 1) := by decide +kernel
theorem d_WorstPaths_offerAll_22 : decode prog_10_method_8_code 22 = .ok (.istore 5, 2) := by decide +kernel
theorem d_WorstPaths_offerAll_24 : decode prog_10_method_8_code 24 = .ok (.iload_n 3, 1) := by decide +kernel
theorem d_WorstPaths_offerAll_25 : decode prog_10_method_8_code 25 = .ok (.aload_n 0, 1) := by decide +kernel
theorem d_WorstPaths_offerAll_26 : decode prog_10_method_8_code 26 = .ok (.getfield 28, 3) := by decide +kernel
theorem d_WorstPaths_offerAll_29 : decode prog_10_method_8_code 29 = .ok (.getfield 141, 3) := by decide +kernel
theorem d_WorstPaths_offerAll_32 : decode prog_10_method_8_code 32 = .ok (.iconst 2, 1) := by decide +kernel
theorem d_WorstPaths_offerAll_33 : decode prog_10_method_8_code 33 = .ok (.aload_n 0, 1) := by decide +kernel
theorem d_WorstPaths_offerAll_34 : decode prog_10_method_8_code 34 = .ok (.getfield 86, 3) := by decide +kernel
theorem d_WorstPaths_offerAll_37 : decode prog_10_method_8_code 37 = .ok (.imul, 1) := by decide +kernel
theorem d_WorstPaths_offerAll_38 : decode prog_10_method_8_code 38 = .ok (.aload_n 0, 1) := by decide +kernel
theorem d_WorstPaths_offerAll_39 : decode prog_10_method_8_code 39 = .ok (.getfield 95, 3) := by decide +kernel
theorem d_WorstPaths_offerAll_42 : decode prog_10_method_8_code 42 = .ok (.iadd, 1) := by decide +kernel
theorem d_WorstPaths_offerAll_43 : decode prog_10_method_8_code 43 = .ok (.iaload, 1) := by decide +kernel
theorem d_WorstPaths_offerAll_44 : decode prog_10_method_8_code 44 = .ok (.isub, 1) := by decide +kernel
theorem d_WorstPaths_offerAll_45 : decode prog_10_method_8_code 45 = .ok (.istore 6, 2) := by decide +kernel
theorem d_WorstPaths_offerAll_47 : decode prog_10_method_8_code 47 = .ok (.iconst 0, 1) := by decide +kernel
theorem d_WorstPaths_offerAll_48 : decode prog_10_method_8_code 48 = .ok (.istore 7, 2) := by decide +kernel
theorem d_WorstPaths_offerAll_50 : decode prog_10_method_8_code 50 = .ok (.iload 7, 2) := by decide +kernel
theorem d_WorstPaths_offerAll_52 : decode prog_10_method_8_code 52 = .ok (.aload_n 0, 1) := by decide +kernel
theorem d_WorstPaths_offerAll_53 : decode prog_10_method_8_code 53 = .ok (.getfield 32, 3) := by decide +kernel
theorem d_WorstPaths_offerAll_56 : decode prog_10_method_8_code 56 = .ok (.getfield 64, 3) := by decide +kernel
theorem d_WorstPaths_offerAll_59 : decode prog_10_method_8_code 59 = .ok (.aload_n 0, 1) := by decide +kernel
theorem d_WorstPaths_offerAll_60 : decode prog_10_method_8_code 60 = .ok (.getfield 61, 3) := by decide +kernel
theorem d_WorstPaths_offerAll_63 : decode prog_10_method_8_code 63 = .ok (.iaload, 1) := by decide +kernel
theorem d_WorstPaths_offerAll_64 : decode prog_10_method_8_code 64 = .ok (.if_icmp .ge 141, 3) := by decide +kernel
theorem d_WorstPaths_offerAll_67 : decode prog_10_method_8_code 67 = .ok (.iconst 0, 1) := by decide +kernel
theorem d_WorstPaths_offerAll_68 : decode prog_10_method_8_code 68 = .ok (.istore 8, 2) := by decide +kernel
theorem d_WorstPaths_offerAll_70 : decode prog_10_method_8_code 70 = .ok (.iload 8, 2) := by decide +kernel
theorem d_WorstPaths_offerAll_72 : decode prog_10_method_8_code 72 = .ok (.aload_n 0, 1) := by decide +kernel
theorem d_WorstPaths_offerAll_73 : decode prog_10_method_8_code 73 = .ok (.getfield 32, 3) := by decide +kernel
theorem d_WorstPaths_offerAll_76 : decode prog_10_method_8_code 76 = .ok (.getfield 64, 3) := by decide +kernel
theorem d_WorstPaths_offerAll_79 : decode prog_10_method_8_code 79 = .ok (.aload_n 0, 1) := by decide +kernel
theorem d_WorstPaths_offerAll_80 : decode prog_10_method_8_code 80 = .ok (.getfield 86, 3) := by decide +kernel
theorem d_WorstPaths_offerAll_83 : decode prog_10_method_8_code 83 = .ok (.iaload, 1) := by decide +kernel
theorem d_WorstPaths_offerAll_84 : decode prog_10_method_8_code 84 = .ok (.if_icmp .ge 115, 3) := by decide +kernel
theorem d_WorstPaths_offerAll_87 : decode prog_10_method_8_code 87 = .ok (.iload 7, 2) := by decide +kernel
theorem d_WorstPaths_offerAll_89 : decode prog_10_method_8_code 89 = .ok (.bipush 8, 2) := by decide +kernel
theorem d_WorstPaths_offerAll_91 : decode prog_10_method_8_code 91 = .ok (.imul, 1) := by decide +kernel
theorem d_WorstPaths_offerAll_92 : decode prog_10_method_8_code 92 = .ok (.iload 8, 2) := by decide +kernel
theorem d_WorstPaths_offerAll_94 : decode prog_10_method_8_code 94 = .ok (.iadd, 1) := by decide +kernel
theorem d_WorstPaths_offerAll_95 : decode prog_10_method_8_code 95 = .ok (.istore 9, 2) := by decide +kernel
theorem d_WorstPaths_offerAll_97 : decode prog_10_method_8_code 97 = .ok (.aload_n 0, 1) := by decide +kernel
theorem d_WorstPaths_offerAll_98 : decode prog_10_method_8_code 98 = .ok (.getfield 40, 3) := by decide +kernel
theorem d_WorstPaths_offerAll_101 : decode prog_10_method_8_code 101 = .ok (.getfield 144, 3) := by decide +kernel
theorem d_WorstPaths_offerAll_104 : decode prog_10_method_8_code 104 = .ok (.iload 9, 2) := by decide +kernel
theorem d_WorstPaths_offerAll_106 : decode prog_10_method_8_code 106 = .ok (.iaload, 1) := by decide +kernel
theorem d_WorstPaths_offerAll_107 : decode prog_10_method_8_code 107 = .ok (.iload 5, 2) := by decide +kernel
theorem d_WorstPaths_offerAll_109 : decode prog_10_method_8_code 109 = .ok (.isub, 1) := by decide +kernel
theorem d_WorstPaths_offerAll_110 : decode prog_10_method_8_code 110 = .ok (.istore 10, 2) := by decide +kernel
theorem d_WorstPaths_offerAll_112 : decode prog_10_method_8_code 112 = .ok (.aload_n 0, 1) := by decide +kernel
theorem d_WorstPaths_offerAll_113 : decode prog_10_method_8_code 113 = .ok (.getfield 40, 3) := by decide +kernel
theorem d_WorstPaths_offerAll_116 : decode prog_10_method_8_code 116 = .ok (.getfield 147, 3) := by decide +kernel
theorem d_WorstPaths_offerAll_119 : decode prog_10_method_8_code 119 = .ok (.iload 9, 2) := by decide +kernel
theorem d_WorstPaths_offerAll_121 : decode prog_10_method_8_code 121 = .ok (.iaload, 1) := by decide +kernel
theorem d_WorstPaths_offerAll_122 : decode prog_10_method_8_code 122 = .ok (.iload 6, 2) := by decide +kernel
theorem d_WorstPaths_offerAll_124 : decode prog_10_method_8_code 124 = .ok (.iadd, 1) := by decide +kernel
theorem d_WorstPaths_offerAll_125 : decode prog_10_method_8_code 125 = .ok (.istore 11, 2) := by decide +kernel
theorem d_WorstPaths_offerAll_127 : decode prog_10_method_8_code 127 = .ok (.aload_n 0, 1) := by decide +kernel
theorem d_WorstPaths_offerAll_128 : decode prog_10_method_8_code 128 = .ok (.getfield 12, 3) := by decide +kernel
theorem d_WorstPaths_offerAll_131 : decode prog_10_method_8_code 131 = .ok (.iload 10, 2) := by decide +kernel
theorem d_WorstPaths_offerAll_133 : decode prog_10_method_8_code 133 = .ok (.invokevirtual 150, 3) := by decide +kernel
theorem d_WorstPaths_offerAll_136 : decode prog_10_method_8_code 136 = .ok (.ifCond .ne 15, 3) := by decide +kernel
theorem d_WorstPaths_offerAll_139 : decode prog_10_method_8_code 139 = .ok (.aload_n 0, 1) := by decide +kernel
theorem d_WorstPaths_offerAll_140 : decode prog_10_method_8_code 140 = .ok (.getfield 18, 3) := by decide +kernel
theorem d_WorstPaths_offerAll_143 : decode prog_10_method_8_code 143 = .ok (.iload 11, 2) := by decide +kernel
theorem d_WorstPaths_offerAll_145 : decode prog_10_method_8_code 145 = .ok (.invokevirtual 150, 3) := by decide +kernel
theorem d_WorstPaths_offerAll_148 : decode prog_10_method_8_code 148 = .ok (.ifCond .eq 45, 3) := by decide +kernel
theorem d_WorstPaths_offerAll_151 : decode prog_10_method_8_code 151 = .ok (.aload_n 0, 1) := by decide +kernel
theorem d_WorstPaths_offerAll_152 : decode prog_10_method_8_code 152 = .ok (.iload 7, 2) := by decide +kernel
theorem d_WorstPaths_offerAll_154 : decode prog_10_method_8_code 154 = .ok (.iload 8, 2) := by decide +kernel
theorem d_WorstPaths_offerAll_156 : decode prog_10_method_8_code 156 = .ok (.iload_n 1, 1) := by decide +kernel
theorem d_WorstPaths_offerAll_157 : decode prog_10_method_8_code 157 = .ok (.iload_n 2, 1) := by decide +kernel
theorem d_WorstPaths_offerAll_158 : decode prog_10_method_8_code 158 = .ok (.invokevirtual 153, 3) := by decide +kernel
theorem d_WorstPaths_offerAll_161 : decode prog_10_method_8_code 161 = .ok (.istore 12, 2) := by decide +kernel
theorem d_WorstPaths_offerAll_163 : decode prog_10_method_8_code 163 = .ok (.aload_n 0, 1) := by decide +kernel
theorem d_WorstPaths_offerAll_164 : decode prog_10_method_8_code 164 = .ok (.getfield 12, 3) := by decide +kernel
theorem d_WorstPaths_offerAll_167 : decode prog_10_method_8_code 167 = .ok (.iload 10, 2) := by decide +kernel
theorem d_WorstPaths_offerAll_169 : decode prog_10_method_8_code 169 = .ok (.aload_n 0, 1) := by decide +kernel
theorem d_WorstPaths_offerAll_170 : decode prog_10_method_8_code 170 = .ok (.getfield 25, 3) := by decide +kernel
theorem d_WorstPaths_offerAll_173 : decode prog_10_method_8_code 173 = .ok (.iload 12, 2) := by decide +kernel
theorem d_WorstPaths_offerAll_175 : decode prog_10_method_8_code 175 = .ok (.invokevirtual 157, 3) := by decide +kernel
theorem d_WorstPaths_offerAll_178 : decode prog_10_method_8_code 178 = .ok (.aload_n 0, 1) := by decide +kernel
theorem d_WorstPaths_offerAll_179 : decode prog_10_method_8_code 179 = .ok (.getfield 18, 3) := by decide +kernel
theorem d_WorstPaths_offerAll_182 : decode prog_10_method_8_code 182 = .ok (.iload 11, 2) := by decide +kernel
theorem d_WorstPaths_offerAll_184 : decode prog_10_method_8_code 184 = .ok (.aload_n 0, 1) := by decide +kernel
theorem d_WorstPaths_offerAll_185 : decode prog_10_method_8_code 185 = .ok (.getfield 25, 3) := by decide +kernel
theorem d_WorstPaths_offerAll_188 : decode prog_10_method_8_code 188 = .ok (.iload 12, 2) := by decide +kernel
theorem d_WorstPaths_offerAll_190 : decode prog_10_method_8_code 190 = .ok (.invokevirtual 157, 3) := by decide +kernel
theorem d_WorstPaths_offerAll_193 : decode prog_10_method_8_code 193 = .ok (.iinc 8 1, 3) := by decide +kernel
theorem d_WorstPaths_offerAll_196 : decode prog_10_method_8_code 196 = .ok (.goto (-126), 3) := by decide +kernel
theorem d_WorstPaths_offerAll_199 : decode prog_10_method_8_code 199 = .ok (.iinc 7 1, 3) := by decide +kernel
theorem d_WorstPaths_offerAll_202 : decode prog_10_method_8_code 202 = .ok (.goto (-152), 3) := by decide +kernel
theorem d_WorstPaths_offerAll_205 : decode prog_10_method_8_code 205 = .ok (.return_, 1) := by decide +kernel
theorem d_WorstPaths_writeRow_0 : decode prog_10_method_9_code 0 = .ok (.aload_n 0, 1) := by decide +kernel
theorem d_WorstPaths_writeRow_1 : decode prog_10_method_9_code 1 = .ok (.getfield 32, 3) := by decide +kernel
theorem d_WorstPaths_writeRow_4 : decode prog_10_method_9_code 4 = .ok (.aload_n 0, 1) := by decide +kernel
theorem d_WorstPaths_writeRow_5 : decode prog_10_method_9_code 5 = .ok (.getfield 61, 3) := by decide +kernel
theorem d_WorstPaths_writeRow_8 : decode prog_10_method_9_code 8 = .ok (.iload_n 1, 1) := by decide +kernel
theorem d_WorstPaths_writeRow_9 : decode prog_10_method_9_code 9 = .ok (.aload_n 0, 1) := by decide +kernel
theorem d_WorstPaths_writeRow_10 : decode prog_10_method_9_code 10 = .ok (.getfield 25, 3) := by decide +kernel
theorem d_WorstPaths_writeRow_13 : decode prog_10_method_9_code 13 = .ok (.iconst 0, 1) := by decide +kernel
theorem d_WorstPaths_writeRow_14 : decode prog_10_method_9_code 14 = .ok (.invokevirtual 161, 3) := by decide +kernel
theorem d_WorstPaths_writeRow_17 : decode prog_10_method_9_code 17 = .ok (.istore 5, 2) := by decide +kernel
theorem d_WorstPaths_writeRow_19 : decode prog_10_method_9_code 19 = .ok (.aload_n 0, 1) := by decide +kernel
theorem d_WorstPaths_writeRow_20 : decode prog_10_method_9_code 20 = .ok (.getfield 25, 3) := by decide +kernel
theorem d_WorstPaths_writeRow_23 : decode prog_10_method_9_code 23 = .ok (.iload 5, 2) := by decide +kernel
theorem d_WorstPaths_writeRow_25 : decode prog_10_method_9_code 25 = .ok (.aload_n 0, 1) := by decide +kernel
theorem d_WorstPaths_writeRow_26 : decode prog_10_method_9_code 26 = .ok (.getfield 61, 3) := by decide +kernel
theorem d_WorstPaths_writeRow_29 : decode prog_10_method_9_code 29 = .ok (.aload_n 0, 1) := by decide +kernel
theorem d_WorstPaths_writeRow_30 : decode prog_10_method_9_code 30 = .ok (.getfield 28, 3) := by decide +kernel
theorem d_WorstPaths_writeRow_33 : decode prog_10_method_9_code 33 = .ok (.getfield 165, 3) := by decide +kernel
theorem d_WorstPaths_writeRow_36 : decode prog_10_method_9_code 36 = .ok (.aload_n 0, 1) := by decide +kernel
theorem d_WorstPaths_writeRow_37 : decode prog_10_method_9_code 37 = .ok (.getfield 61, 3) := by decide +kernel
theorem d_WorstPaths_writeRow_40 : decode prog_10_method_9_code 40 = .ok (.iaload, 1) := by decide +kernel
theorem d_WorstPaths_writeRow_41 : decode prog_10_method_9_code 41 = .ok (.iconst 3, 1) := by decide +kernel
theorem d_WorstPaths_writeRow_42 : decode prog_10_method_9_code 42 = .ok (.if_icmp .ne 7, 3) := by decide +kernel
theorem d_WorstPaths_writeRow_45 : decode prog_10_method_9_code 45 = .ok (.iconst 1, 1) := by decide +kernel
theorem d_WorstPaths_writeRow_46 : decode prog_10_method_9_code 46 = .ok (.goto 4, 3) := by decide +kernel
theorem d_WorstPaths_writeRow_49 : decode prog_10_method_9_code 49 = .ok (.iconst 0, 1) := by decide +kernel
theorem d_WorstPaths_writeRow_50 : decode prog_10_method_9_code 50 = .ok (.iload_n 3, 1) := by decide +kernel
theorem d_WorstPaths_writeRow_51 : decode prog_10_method_9_code 51 = .ok (.invokestatic 120, 3) := by decide +kernel
theorem d_WorstPaths_writeRow_54 : decode prog_10_method_9_code 54 = .ok (.iastore, 1) := by decide +kernel
theorem d_WorstPaths_writeRow_55 : decode prog_10_method_9_code 55 = .ok (.iinc 5 1, 3) := by decide +kernel
theorem d_WorstPaths_writeRow_58 : decode prog_10_method_9_code 58 = .ok (.iload 4, 2) := by decide +kernel
theorem d_WorstPaths_writeRow_60 : decode prog_10_method_9_code 60 = .ok (.iconst 1, 1) := by decide +kernel
theorem d_WorstPaths_writeRow_61 : decode prog_10_method_9_code 61 = .ok (.isub, 1) := by decide +kernel
theorem d_WorstPaths_writeRow_62 : decode prog_10_method_9_code 62 = .ok (.istore 6, 2) := by decide +kernel
theorem d_WorstPaths_writeRow_64 : decode prog_10_method_9_code 64 = .ok (.iload 6, 2) := by decide +kernel
theorem d_WorstPaths_writeRow_66 : decode prog_10_method_9_code 66 = .ok (.ifCond .lt 26, 3) := by decide +kernel
theorem d_WorstPaths_writeRow_69 : decode prog_10_method_9_code 69 = .ok (.aload_n 0, 1) := by decide +kernel
theorem d_WorstPaths_writeRow_70 : decode prog_10_method_9_code 70 = .ok (.getfield 25, 3) := by decide +kernel
theorem d_WorstPaths_writeRow_73 : decode prog_10_method_9_code 73 = .ok (.iload 5, 2) := by decide +kernel
theorem d_WorstPaths_writeRow_75 : decode prog_10_method_9_code 75 = .ok (.aload_n 0, 1) := by decide +kernel
theorem d_WorstPaths_writeRow_76 : decode prog_10_method_9_code 76 = .ok (.getfield 21, 3) := by decide +kernel
theorem d_WorstPaths_writeRow_79 : decode prog_10_method_9_code 79 = .ok (.iload 6, 2) := by decide +kernel
theorem d_WorstPaths_writeRow_81 : decode prog_10_method_9_code 81 = .ok (.iaload, 1) := by decide +kernel
theorem d_WorstPaths_writeRow_82 : decode prog_10_method_9_code 82 = .ok (.iastore, 1) := by decide +kernel
theorem d_WorstPaths_writeRow_83 : decode prog_10_method_9_code 83 = .ok (.iinc 5 1, 3) := by decide +kernel
theorem d_WorstPaths_writeRow_86 : decode prog_10_method_9_code 86 = .ok (.iinc 6 (-1), 3) := by decide +kernel
theorem d_WorstPaths_writeRow_89 : decode prog_10_method_9_code 89 = .ok (.goto (-25), 3) := by decide +kernel
theorem d_WorstPaths_writeRow_92 : decode prog_10_method_9_code 92 = .ok (.aload_n 0, 1) := by decide +kernel
theorem d_WorstPaths_writeRow_93 : decode prog_10_method_9_code 93 = .ok (.getfield 25, 3) := by decide +kernel
theorem d_WorstPaths_writeRow_96 : decode prog_10_method_9_code 96 = .ok (.iload 5, 2) := by decide +kernel
theorem d_WorstPaths_writeRow_98 : decode prog_10_method_9_code 98 = .ok (.aload_n 0, 1) := by decide +kernel
theorem d_WorstPaths_writeRow_99 : decode prog_10_method_9_code 99 = .ok (.getfield 86, 3) := by decide +kernel
theorem d_WorstPaths_writeRow_102 : decode prog_10_method_9_code 102 = .ok (.iconst 0, 1) := by decide +kernel
theorem d_WorstPaths_writeRow_103 : decode prog_10_method_9_code 103 = .ok (.aload_n 0, 1) := by decide +kernel
theorem d_WorstPaths_writeRow_104 : decode prog_10_method_9_code 104 = .ok (.getfield 95, 3) := by decide +kernel
theorem d_WorstPaths_writeRow_107 : decode prog_10_method_9_code 107 = .ok (.invokestatic 120, 3) := by decide +kernel
theorem d_WorstPaths_writeRow_110 : decode prog_10_method_9_code 110 = .ok (.iastore, 1) := by decide +kernel
theorem d_WorstPaths_writeRow_111 : decode prog_10_method_9_code 111 = .ok (.aload_n 0, 1) := by decide +kernel
theorem d_WorstPaths_writeRow_112 : decode prog_10_method_9_code 112 = .ok (.getfield 32, 3) := by decide +kernel
theorem d_WorstPaths_writeRow_115 : decode prog_10_method_9_code 115 = .ok (.aload_n 0, 1) := by decide +kernel
theorem d_WorstPaths_writeRow_116 : decode prog_10_method_9_code 116 = .ok (.getfield 86, 3) := by decide +kernel
theorem d_WorstPaths_writeRow_119 : decode prog_10_method_9_code 119 = .ok (.iload_n 2, 1) := by decide +kernel
theorem d_WorstPaths_writeRow_120 : decode prog_10_method_9_code 120 = .ok (.aload_n 0, 1) := by decide +kernel
theorem d_WorstPaths_writeRow_121 : decode prog_10_method_9_code 121 = .ok (.getfield 25, 3) := by decide +kernel
theorem d_WorstPaths_writeRow_124 : decode prog_10_method_9_code 124 = .ok (.iload 5, 2) := by decide +kernel
theorem d_WorstPaths_writeRow_126 : decode prog_10_method_9_code 126 = .ok (.iconst 1, 1) := by decide +kernel
theorem d_WorstPaths_writeRow_127 : decode prog_10_method_9_code 127 = .ok (.iadd, 1) := by decide +kernel
theorem d_WorstPaths_writeRow_128 : decode prog_10_method_9_code 128 = .ok (.invokevirtual 161, 3) := by decide +kernel
theorem d_WorstPaths_writeRow_131 : decode prog_10_method_9_code 131 = .ok (.ireturn, 1) := by decide +kernel
