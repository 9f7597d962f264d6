theorem d_Arrivals_init_0 : decode prog_2_method_1_code 0 = .ok (.aload_n 0, 1) := by decide +kernel
theorem d_Arrivals_init_1 : decode prog_2_method_1_code 1 = .ok (.invokespecial 3, 3) := by decide +kernel
theorem d_Arrivals_init_4 : decode prog_2_method_1_code 4 = .ok (.aload_n 0, 1) := by decide +kernel
theorem d_Arrivals_init_5 : decode prog_2_method_1_code 5 = .ok (.aload_n 1, 1) := by decide +kernel
theorem d_Arrivals_init_6 : decode prog_2_method_1_code 6 = .ok (.putfield 9, 3) := by decide +kernel
theorem d_Arrivals_init_9 : decode prog_2_method_1_code 9 = .ok (.aload_n 0, 1) := by decide +kernel
theorem d_Arrivals_init_10 : decode prog_2_method_1_code 10 = .ok (.aload_n 2, 1) := by decide +kernel
theorem d_Arrivals_init_11 : decode prog_2_method_1_code 11 = .ok (.putfield 15, 3) := by decide +kernel
theorem d_Arrivals_init_14 : decode prog_2_method_1_code 14 = .ok (.aload_n 0, 1) := by decide +kernel
theorem d_Arrivals_init_15 : decode prog_2_method_1_code 15 = .ok (.aload_n 3, 1) := by decide +kernel
theorem d_Arrivals_init_16 : decode prog_2_method_1_code 16 = .ok (.putfield 19, 3) := by decide +kernel
theorem d_Arrivals_init_19 : decode prog_2_method_1_code 19 = .ok (.aload_n 0, 1) := by decide +kernel
theorem d_Arrivals_init_20 : decode prog_2_method_1_code 20 = .ok (.aload 4, 2) := by decide +kernel
theorem d_Arrivals_init_22 : decode prog_2_method_1_code 22 = .ok (.putfield 23, 3) := by decide +kernel
theorem d_Arrivals_init_25 : decode prog_2_method_1_code 25 = .ok (.return_, 1) := by decide +kernel
theorem d_Arrivals_reckon_0 : decode prog_2_method_2_code 0 = .ok (.aload_n 0, 1) := by decide +kernel
theorem d_Arrivals_reckon_1 : decode prog_2_method_2_code 1 = .ok (.getfield 19, 3) := by decide +kernel
theorem d_Arrivals_reckon_4 : decode prog_2_method_2_code 4 = .ok (.invokevirtual 26, 3) := by decide +kernel
theorem d_Arrivals_reckon_7 : decode prog_2_method_2_code 7 = .ok (.aload_n 0, 1) := by decide +kernel
theorem d_Arrivals_reckon_8 : decode prog_2_method_2_code 8 = .ok (.getfield 23, 3) := by decide +kernel
theorem d_Arrivals_reckon_11 : decode prog_2_method_2_code 11 = .ok (.invokevirtual 26, 3) := by decide +kernel
theorem d_Arrivals_reckon_14 : decode prog_2_method_2_code 14 = .ok (.iconst 0, 1) := by decide +kernel
theorem d_Arrivals_reckon_15 : decode prog_2_method_2_code 15 = .ok (.istore_n 1, 1) := by decide +kernel
theorem d_Arrivals_reckon_16 : decode prog_2_method_2_code 16 = .ok (.iload_n 1, 1) := by decide +kernel
theorem d_Arrivals_reckon_17 : decode prog_2_method_2_code 17 = .ok (.aload_n 0, 1) := by decide +kernel
theorem d_Arrivals_reckon_18 : decode prog_2_method_2_code 18 = .ok (.getfield 9, 3) := by decide +kernel
theorem d_Arrivals_reckon_21 : decode prog_2_method_2_code 21 = .ok (.getfield 31, 3) := by decide +kernel
theorem d_Arrivals_reckon_24 : decode prog_2_method_2_code 24 = .ok (.if_icmp .ge 52, 3) := by decide +kernel
theorem d_Arrivals_reckon_27 : decode prog_2_method_2_code 27 = .ok (.iconst 0, 1) := by decide +kernel
theorem d_Arrivals_reckon_28 : decode prog_2_method_2_code 28 = .ok (.istore_n 2, 1) := by decide +kernel
theorem d_Arrivals_reckon_29 : decode prog_2_method_2_code 29 = .ok (.aload_n 0, 1) := by decide +kernel
theorem d_Arrivals_reckon_30 : decode prog_2_method_2_code 30 = .ok (.getfield 9, 3) := by decide +kernel
theorem d_Arrivals_reckon_33 : decode prog_2_method_2_code 33 = .ok (.iload_n 1, 1) := by decide +kernel
theorem d_Arrivals_reckon_34 : decode prog_2_method_2_code 34 = .ok (.invokevirtual 37, 3) := by decide +kernel
theorem d_Arrivals_reckon_37 : decode prog_2_method_2_code 37 = .ok (.ifCond .eq 33, 3) := by decide +kernel
theorem d_Arrivals_reckon_40 : decode prog_2_method_2_code 40 = .ok (.iload_n 2, 1) := by decide +kernel
theorem d_Arrivals_reckon_41 : decode prog_2_method_2_code 41 = .ok (.aload_n 0, 1) := by decide +kernel
theorem d_Arrivals_reckon_42 : decode prog_2_method_2_code 42 = .ok (.getfield 15, 3) := by decide +kernel
theorem d_Arrivals_reckon_45 : decode prog_2_method_2_code 45 = .ok (.getfield 41, 3) := by decide +kernel
theorem d_Arrivals_reckon_48 : decode prog_2_method_2_code 48 = .ok (.iload_n 1, 1) := by decide +kernel
theorem d_Arrivals_reckon_49 : decode prog_2_method_2_code 49 = .ok (.iaload, 1) := by decide +kernel
theorem d_Arrivals_reckon_50 : decode prog_2_method_2_code 50 = .ok (.if_icmp .ge 20, 3) := by decide +kernel
theorem d_Arrivals_reckon_53 : decode prog_2_method_2_code 53 = .ok (.aload_n 0, 1) := by decide +kernel
theorem d_Arrivals_reckon_54 : decode prog_2_method_2_code 54 = .ok (.iload_n 1, 1) := by decide +kernel
theorem d_Arrivals_reckon_55 : decode prog_2_method_2_code 55 = .ok (.iload_n 1, 1) := by decide +kernel
theorem d_Arrivals_reckon_56 : decode prog_2_method_2_code 56 = .ok (.bipush 8, 2) := by decide +kernel
theorem d_Arrivals_reckon_58 : decode prog_2_method_2_code 58 = .ok (.imul, 1) := by decide +kernel
theorem d_Arrivals_reckon_59 : decode prog_2_method_2_code 59 = .ok (.iload_n 2, 1) := by decide +kernel
theorem d_Arrivals_reckon_60 : decode prog_2_method_2_code 60 = .ok (.iadd, 1) := by decide +kernel
theorem d_Arrivals_reckon_61 : decode prog_2_method_2_code 61 = .ok (.invokevirtual 47, 3) := by decide +kernel
theorem d_Arrivals_reckon_64 : decode prog_2_method_2_code 64 = .ok (.iinc 2 1, 3) := by decide +kernel
theorem d_Arrivals_reckon_67 : decode prog_2_method_2_code 67 = .ok (.goto (-38), 3) := by decide +kernel
theorem d_Arrivals_reckon_70 : decode prog_2_method_2_code 70 = .ok (.iinc 1 1, 3) := by decide +kernel
theorem d_Arrivals_reckon_73 : decode prog_2_method_2_code 73 = .ok (.goto (-57), 3) := by decide +kernel
theorem d_Arrivals_reckon_76 : decode prog_2_method_2_code 76 = .ok (.aload_n 0, 1) := by decide +kernel
theorem d_Arrivals_reckon_77 : decode prog_2_method_2_code 77 = .ok (.getfield 19, 3) := by decide +kernel
theorem d_Arrivals_reckon_80 : decode prog_2_method_2_code 80 = .ok (.invokevirtual 51, 3) := by decide +kernel
theorem d_Arrivals_reckon_83 : decode prog_2_method_2_code 83 = .ok (.aload_n 0, 1) := by decide +kernel
theorem d_Arrivals_reckon_84 : decode prog_2_method_2_code 84 = .ok (.getfield 23, 3) := by decide +kernel
theorem d_Arrivals_reckon_87 : decode prog_2_method_2_code 87 = .ok (.invokevirtual 51, 3) := by decide +kernel
theorem d_Arrivals_reckon_90 : decode prog_2_method_2_code 90 = .ok (.return_, 1) := by decide +kernel
theorem d_Arrivals_timeAt_0 : decode prog_2_method_3_code 0 = .ok (.iload_n 3, 1) := by decide +kernel
theorem d_Arrivals_timeAt_1 : decode prog_2_method_3_code 1 = .ok (.ifCond .ne 10, 3) := by decide +kernel
theorem d_Arrivals_timeAt_4 : decode prog_2_method_3_code 4 = .ok (.aload_n 0, 1) := by decide +kernel
theorem d_Arrivals_timeAt_5 : decode prog_2_method_3_code 5 = .ok (.getfield 19, 3) := by decide +kernel
theorem d_Arrivals_timeAt_8 : decode prog_2_method_3_code 8 = .ok (.goto 7, 3) := by decide +kernel
theorem d_Arrivals_timeAt_11 : decode prog_2_method_3_code 11 = .ok (.aload_n 0, 1) := by decide +kernel
theorem d_Arrivals_timeAt_12 : decode prog_2_method_3_code 12 = .ok (.getfield 23, 3) := by decide +kernel
theorem d_Arrivals_timeAt_15 : decode prog_2_method_3_code 15 = .ok (.astore 5, 2) := by decide +kernel
theorem d_Arrivals_timeAt_17 : decode prog_2_method_3_code 17 = .ok (.aload_n 0, 1) := by decide +kernel
theorem d_Arrivals_timeAt_18 : decode prog_2_method_3_code 18 = .ok (.getfield 9, 3) := by decide +kernel
theorem d_Arrivals_timeAt_21 : decode prog_2_method_3_code 21 = .ok (.iload_n 1, 1) := by decide +kernel
theorem d_Arrivals_timeAt_22 : decode prog_2_method_3_code 22 = .ok (.invokevirtual 54, 3) := by decide +kernel
theorem d_Arrivals_timeAt_25 : decode prog_2_method_3_code 25 = .ok (.ifCond .ne 16, 3) := by decide +kernel
theorem d_Arrivals_timeAt_28 : decode prog_2_method_3_code 28 = .ok (.aload 5, 2) := by decide +kernel
theorem d_Arrivals_timeAt_30 : decode prog_2_method_3_code 30 = .ok (.iconst 2, 1) := by decide +kernel
theorem d_Arrivals_timeAt_31 : decode prog_2_method_3_code 31 = .ok (.iload_n 1, 1) := by decide +kernel
theorem d_Arrivals_timeAt_32 : decode prog_2_method_3_code 32 = .ok (.imul, 1) := by decide +kernel
theorem d_Arrivals_timeAt_33 : decode prog_2_method_3_code 33 = .ok (.iload_n 2, 1) := by decide +kernel
theorem d_Arrivals_timeAt_34 : decode prog_2_method_3_code 34 = .ok (.iadd, 1) := by decide +kernel
theorem d_Arrivals_timeAt_35 : decode prog_2_method_3_code 35 = .ok (.iload 4, 2) := by decide +kernel
theorem d_Arrivals_timeAt_37 : decode prog_2_method_3_code 37 = .ok (.invokestatic 57, 3) := by decide +kernel
theorem d_Arrivals_timeAt_40 : decode prog_2_method_3_code 40 = .ok (.ireturn, 1) := by decide +kernel
theorem d_Arrivals_timeAt_41 : decode prog_2_method_3_code 41 = .ok (.iload_n 1, 1) := by decide +kernel
theorem d_Arrivals_timeAt_42 : decode prog_2_method_3_code 42 = .ok (.iconst 3, 1) := by decide +kernel
theorem d_Arrivals_timeAt_43 : decode prog_2_method_3_code 43 = .ok (.imul, 1) := by decide +kernel
theorem d_Arrivals_timeAt_44 : decode prog_2_method_3_code 44 = .ok (.iconst 0, 1) := by decide +kernel
theorem d_Arrivals_timeAt_45 : decode prog_2_method_3_code 45 = .ok (.iadd, 1) := by decide +kernel
theorem d_Arrivals_timeAt_46 : decode prog_2_method_3_code 46 = .ok (.istore 6, 2) := by decide +kernel
theorem d_Arrivals_timeAt_48 : decode prog_2_method_3_code 48 = .ok (.aload_n 0, 1) := by decide +kernel
theorem d_Arrivals_timeAt_49 : decode prog_2_method_3_code 49 = .ok (.getfield 9, 3) := by decide +kernel
theorem d_Arrivals_timeAt_52 : decode prog_2_method_3_code 52 = .ok (.getfield 61, 3) := by decide +kernel
theorem d_Arrivals_timeAt_55 : decode prog_2_method_3_code 55 = .ok (.iload 6, 2) := by decide +kernel
theorem d_Arrivals_timeAt_57 : decode prog_2_method_3_code 57 = .ok (.iaload, 1) := by decide +kernel
theorem d_Arrivals_timeAt_58 : decode prog_2_method_3_code 58 = .ok (.ifCond .ge 6, 3) := by decide +kernel
theorem d_Arrivals_timeAt_61 : decode prog_2_method_3_code 61 = .ok (.ldc 64, 2) := by decide +kernel
theorem d_Arrivals_timeAt_63 : decode prog_2_method_3_code 63 = .ok (.ireturn, 1) := by decide +kernel
theorem d_Arrivals_timeAt_64 : decode prog_2_method_3_code 64 = .ok (.aload 5, 2) := by decide +kernel
theorem d_Arrivals_timeAt_66 : decode prog_2_method_3_code 66 = .ok (.iconst 2, 1) := by decide +kernel
theorem d_Arrivals_timeAt_67 : decode prog_2_method_3_code 67 = .ok (.aload_n 0, 1) := by decide +kernel
theorem d_Arrivals_timeAt_68 : decode prog_2_method_3_code 68 = .ok (.getfield 9, 3) := by decide +kernel
theorem d_Arrivals_timeAt_71 : decode prog_2_method_3_code 71 = .ok (.getfield 61, 3) := by decide +kernel
theorem d_Arrivals_timeAt_74 : decode prog_2_method_3_code 74 = .ok (.iload 6, 2) := by decide +kernel
theorem d_Arrivals_timeAt_76 : decode prog_2_method_3_code 76 = .ok (.iaload, 1) := by decide +kernel
theorem d_Arrivals_timeAt_77 : decode prog_2_method_3_code 77 = .ok (.imul, 1) := by decide +kernel
theorem d_Arrivals_timeAt_78 : decode prog_2_method_3_code 78 = .ok (.iload_n 2, 1) := by decide +kernel
theorem d_Arrivals_timeAt_79 : decode prog_2_method_3_code 79 = .ok (.iadd, 1) := by decide +kernel
theorem d_Arrivals_timeAt_80 : decode prog_2_method_3_code 80 = .ok (.iload 4, 2) := by decide +kernel
theorem d_Arrivals_timeAt_82 : decode prog_2_method_3_code 82 = .ok (.invokestatic 57, 3) := by decide +kernel
theorem d_Arrivals_timeAt_85 : decode prog_2_method_3_code 85 = .ok (.istore 7, 2) := by decide +kernel
theorem d_Arrivals_timeAt_87 : decode prog_2_method_3_code 87 = .ok (.iload 7, 2) := by decide +kernel
theorem d_Arrivals_timeAt_89 : decode prog_2_method_3_code 89 = .ok (.ldc 64, 2) := by decide +kernel
theorem d_Arrivals_timeAt_91 : decode prog_2_method_3_code 91 = .ok (.if_icmp .ne 6, 3) := by decide +kernel
theorem d_Arrivals_timeAt_94 : decode prog_2_method_3_code 94 = .ok (.ldc 64, 2) := by decide +kernel
theorem d_Arrivals_timeAt_96 : decode prog_2_method_3_code 96 = .ok (.ireturn, 1) := by decide +kernel
theorem d_Arrivals_timeAt_97 : decode prog_2_method_3_code 97 = .ok (.iload 7, 2) := by decide +kernel
theorem d_Arrivals_timeAt_99 : decode prog_2_method_3_code 99 = .ok (.iload 4, 2) := by decide +kernel
theorem d_Arrivals_timeAt_101 : decode prog_2_method_3_code 101 = .ok (.ifCond .eq 16, 3) := by decide +kernel
theorem d_Arrivals_timeAt_104 : decode prog_2_method_3_code 104 = .ok (.aload_n 0, 1) := by decide +kernel
theorem d_Arrivals_timeAt_105 : decode prog_2_method_3_code 105 = .ok (.getfield 9, 3) := by decide +kernel
theorem d_Arrivals_timeAt_108 : decode prog_2_method_3_code 108 = .ok (.getfield 65, 3) := by decide +kernel
theorem d_Arrivals_timeAt_111 : decode prog_2_method_3_code 111 = .ok (.iload 6, 2) := by decide +kernel
theorem d_Arrivals_timeAt_113 : decode prog_2_method_3_code 113 = .ok (.iaload, 1) := by decide +kernel
theorem d_Arrivals_timeAt_114 : decode prog_2_method_3_code 114 = .ok (.goto 13, 3) := by decide +kernel
theorem d_Arrivals_timeAt_117 : decode prog_2_method_3_code 117 = .ok (.aload_n 0, 1) := by decide +kernel
theorem d_Arrivals_timeAt_118 : decode prog_2_method_3_code 118 = .ok (.getfield 9, 3) := by decide +kernel
theorem d_Arrivals_timeAt_121 : decode prog_2_method_3_code 121 = .ok (.getfield 68, 3) := by decide +kernel
theorem d_Arrivals_timeAt_124 : decode prog_2_method_3_code 124 = .ok (.iload 6, 2) := by decide +kernel
theorem d_Arrivals_timeAt_126 : decode prog_2_method_3_code 126 = .ok (.iaload, 1) := by decide +kernel
theorem d_Arrivals_timeAt_127 : decode prog_2_method_3_code 127 = .ok (.iadd, 1) := by decide +kernel
theorem d_Arrivals_timeAt_128 : decode prog_2_method_3_code 128 = .ok (.ireturn, 1) := by decide +kernel
theorem d_Arrivals_begin_0 : decode prog_2_method_4_code 0 = .ok (.aload_n 0, 1) := by decide +kernel
theorem d_Arrivals_begin_1 : decode prog_2_method_4_code 1 = .ok (.getfield 15, 3) := by decide +kernel
theorem d_Arrivals_begin_4 : decode prog_2_method_4_code 4 = .ok (.getfield 71, 3) := by decide +kernel
theorem d_Arrivals_begin_7 : decode prog_2_method_4_code 7 = .ok (.iload_n 2, 1) := by decide +kernel
theorem d_Arrivals_begin_8 : decode prog_2_method_4_code 8 = .ok (.iaload, 1) := by decide +kernel
theorem d_Arrivals_begin_9 : decode prog_2_method_4_code 9 = .ok (.istore_n 3, 1) := by decide +kernel
theorem d_Arrivals_begin_10 : decode prog_2_method_4_code 10 = .ok (.iload_n 3, 1) := by decide +kernel
theorem d_Arrivals_begin_11 : decode prog_2_method_4_code 11 = .ok (.ifCond .ne 10, 3) := by decide +kernel
theorem d_Arrivals_begin_14 : decode prog_2_method_4_code 14 = .ok (.aload_n 0, 1) := by decide +kernel
theorem d_Arrivals_begin_15 : decode prog_2_method_4_code 15 = .ok (.getfield 19, 3) := by decide +kernel
theorem d_Arrivals_begin_18 : decode prog_2_method_4_code 18 = .ok (.goto 7, 3) := by decide +kernel
theorem d_Arrivals_begin_21 : decode prog_2_method_4_code 21 = .ok (.aload_n 0, 1) := by decide +kernel
theorem d_Arrivals_begin_22 : decode prog_2_method_4_code 22 = .ok (.getfield 23, 3) := by decide +kernel
theorem d_Arrivals_begin_25 : decode prog_2_method_4_code 25 = .ok (.astore 4, 2) := by decide +kernel
theorem d_Arrivals_begin_27 : decode prog_2_method_4_code 27 = .ok (.iconst 2, 1) := by decide +kernel
theorem d_Arrivals_begin_28 : decode prog_2_method_4_code 28 = .ok (.iload_n 1, 1) := by decide +kernel
theorem d_Arrivals_begin_29 : decode prog_2_method_4_code 29 = .ok (.imul, 1) := by decide +kernel
theorem d_Arrivals_begin_30 : decode prog_2_method_4_code 30 = .ok (.istore 5, 2) := by decide +kernel
theorem d_Arrivals_begin_32 : decode prog_2_method_4_code 32 = .ok (.iload 5, 2) := by decide +kernel
theorem d_Arrivals_begin_34 : decode prog_2_method_4_code 34 = .ok (.iconst 2, 1) := by decide +kernel
theorem d_Arrivals_begin_35 : decode prog_2_method_4_code 35 = .ok (.iload_n 1, 1) := by decide +kernel
theorem d_Arrivals_begin_36 : decode prog_2_method_4_code 36 = .ok (.imul, 1) := by decide +kernel
theorem d_Arrivals_begin_37 : decode prog_2_method_4_code 37 = .ok (.iconst 1, 1) := by decide +kernel
theorem d_Arrivals_begin_38 : decode prog_2_method_4_code 38 = .ok (.iadd, 1) := by decide +kernel
theorem d_Arrivals_begin_39 : decode prog_2_method_4_code 39 = .ok (.if_icmp .gt 61, 3) := by decide +kernel
theorem d_Arrivals_begin_42 : decode prog_2_method_4_code 42 = .ok (.aload 4, 2) := by decide +kernel
theorem d_Arrivals_begin_44 : decode prog_2_method_4_code 44 = .ok (.iload 5, 2) := by decide +kernel
theorem d_Arrivals_begin_46 : decode prog_2_method_4_code 46 = .ok (.iconst 1, 1) := by decide +kernel
theorem d_Arrivals_begin_47 : decode prog_2_method_4_code 47 = .ok (.iload_n 3, 1) := by decide +kernel
theorem d_Arrivals_begin_48 : decode prog_2_method_4_code 48 = .ok (.aload_n 0, 1) := by decide +kernel
theorem d_Arrivals_begin_49 : decode prog_2_method_4_code 49 = .ok (.getfield 15, 3) := by decide +kernel
theorem d_Arrivals_begin_52 : decode prog_2_method_4_code 52 = .ok (.getfield 74, 3) := by decide +kernel
theorem d_Arrivals_begin_55 : decode prog_2_method_4_code 55 = .ok (.iload_n 2, 1) := by decide +kernel
theorem d_Arrivals_begin_56 : decode prog_2_method_4_code 56 = .ok (.iaload, 1) := by decide +kernel
theorem d_Arrivals_begin_57 : decode prog_2_method_4_code 57 = .ok (.iadd, 1) := by decide +kernel
theorem d_Arrivals_begin_58 : decode prog_2_method_4_code 58 = .ok (.aload_n 0, 1) := by decide +kernel
theorem d_Arrivals_begin_59 : decode prog_2_method_4_code 59 = .ok (.getfield 9, 3) := by decide +kernel
theorem d_Arrivals_begin_62 : decode prog_2_method_4_code 62 = .ok (.getfield 77, 3) := by decide +kernel
theorem d_Arrivals_begin_65 : decode prog_2_method_4_code 65 = .ok (.iload 5, 2) := by decide +kernel
theorem d_Arrivals_begin_67 : decode prog_2_method_4_code 67 = .ok (.iaload, 1) := by decide +kernel
theorem d_Arrivals_begin_68 : decode prog_2_method_4_code 68 = .ok (.iadd, 1) := by decide +kernel
theorem d_Arrivals_begin_69 : decode prog_2_method_4_code 69 = .ok (.iload_n 3, 1) := by decide +kernel
theorem d_Arrivals_begin_70 : decode prog_2_method_4_code 70 = .ok (.aload_n 0, 1) := by decide +kernel
theorem d_Arrivals_begin_71 : decode prog_2_method_4_code 71 = .ok (.getfield 15, 3) := by decide +kernel
theorem d_Arrivals_begin_74 : decode prog_2_method_4_code 74 = .ok (.getfield 80, 3) := by decide +kernel
theorem d_Arrivals_begin_77 : decode prog_2_method_4_code 77 = .ok (.iload_n 2, 1) := by decide +kernel
theorem d_Arrivals_begin_78 : decode prog_2_method_4_code 78 = .ok (.iaload, 1) := by decide +kernel
theorem d_Arrivals_begin_79 : decode prog_2_method_4_code 79 = .ok (.iadd, 1) := by decide +kernel
theorem d_Arrivals_begin_80 : decode prog_2_method_4_code 80 = .ok (.aload_n 0, 1) := by decide +kernel
theorem d_Arrivals_begin_81 : decode prog_2_method_4_code 81 = .ok (.getfield 9, 3) := by decide +kernel
theorem d_Arrivals_begin_84 : decode prog_2_method_4_code 84 = .ok (.getfield 83, 3) := by decide +kernel
theorem d_Arrivals_begin_87 : decode prog_2_method_4_code 87 = .ok (.iload 5, 2) := by decide +kernel
theorem d_Arrivals_begin_89 : decode prog_2_method_4_code 89 = .ok (.iaload, 1) := by decide +kernel
theorem d_Arrivals_begin_90 : decode prog_2_method_4_code 90 = .ok (.iadd, 1) := by decide +kernel
theorem d_Arrivals_begin_91 : decode prog_2_method_4_code 91 = .ok (.invokevirtual 86, 3) := by decide +kernel
theorem d_Arrivals_begin_94 : decode prog_2_method_4_code 94 = .ok (.iinc 5 1, 3) := by decide +kernel
theorem d_Arrivals_begin_97 : decode prog_2_method_4_code 97 = .ok (.goto (-65), 3) := by decide +kernel
theorem d_Arrivals_begin_100 : decode prog_2_method_4_code 100 = .ok (.return_, 1) := by decide +kernel
theorem d_Arrivals_timeOf_0 : decode prog_2_method_5_code 0 = .ok (.aload_n 0, 1) := by decide +kernel
theorem d_Arrivals_timeOf_1 : decode prog_2_method_5_code 1 = .ok (.getfield 90, 3) := by decide +kernel
theorem d_Arrivals_timeOf_4 : decode prog_2_method_5_code 4 = .ok (.iload_n 1, 1) := by decide +kernel
theorem d_Arrivals_timeOf_5 : decode prog_2_method_5_code 5 = .ok (.iaload, 1) := by decide +kernel
theorem d_Arrivals_timeOf_6 : decode prog_2_method_5_code 6 = .ok (.ifCond .ne 6, 3) := by decide +kernel
theorem d_Arrivals_timeOf_9 : decode prog_2_method_5_code 9 = .ok (.ldc 64, 2) := by decide +kernel
theorem d_Arrivals_timeOf_11 : decode prog_2_method_5_code 11 = .ok (.ireturn, 1) := by decide +kernel
theorem d_Arrivals_timeOf_12 : decode prog_2_method_5_code 12 = .ok (.iload_n 2, 1) := by decide +kernel
theorem d_Arrivals_timeOf_13 : decode prog_2_method_5_code 13 = .ok (.ifCond .eq 12, 3) := by decide +kernel
theorem d_Arrivals_timeOf_16 : decode prog_2_method_5_code 16 = .ok (.aload_n 0, 1) := by decide +kernel
theorem d_Arrivals_timeOf_17 : decode prog_2_method_5_code 17 = .ok (.getfield 91, 3) := by decide +kernel
theorem d_Arrivals_timeOf_20 : decode prog_2_method_5_code 20 = .ok (.iload_n 1, 1) := by decide +kernel
theorem d_Arrivals_timeOf_21 : decode prog_2_method_5_code 21 = .ok (.iaload, 1) := by decide +kernel
theorem d_Arrivals_timeOf_22 : decode prog_2_method_5_code 22 = .ok (.goto 9, 3) := by decide +kernel
theorem d_Arrivals_timeOf_25 : decode prog_2_method_5_code 25 = .ok (.aload_n 0, 1) := by decide +kernel
theorem d_Arrivals_timeOf_26 : decode prog_2_method_5_code 26 = .ok (.getfield 94, 3) := by decide +kernel
theorem d_Arrivals_timeOf_29 : decode prog_2_method_5_code 29 = .ok (.iload_n 1, 1) := by decide +kernel
theorem d_Arrivals_timeOf_30 : decode prog_2_method_5_code 30 = .ok (.iaload, 1) := by decide +kernel
theorem d_Arrivals_timeOf_31 : decode prog_2_method_5_code 31 = .ok (.ireturn, 1) := by decide +kernel
