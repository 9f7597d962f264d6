theorem d_M_analyse_206 : decode prog_12_method_45_code 206 = .ok (.aload_n 0, 1) := by decide +kernel
theorem d_M_analyse_207 : decode prog_12_method_45_code 207 = .ok (.getfield 96, 3) := by decide +kernel
theorem d_M_analyse_210 : decode prog_12_method_45_code 210 = .ok (.iconst 2, 1) := by decide +kernel
theorem d_M_analyse_211 : decode prog_12_method_45_code 211 = .ok (.iload_n 2, 1) := by decide +kernel
theorem d_M_analyse_212 : decode prog_12_method_45_code 212 = .ok (.imul, 1) := by decide +kernel
theorem d_M_analyse_213 : decode prog_12_method_45_code 213 = .ok (.iaload, 1) := by decide +kernel
theorem d_M_analyse_214 : decode prog_12_method_45_code 214 = .ok (.ldc 140, 2) := by decide +kernel
theorem d_M_analyse_216 : decode prog_12_method_45_code 216 = .ok (.if_icmp .eq 7, 3) := by decide +kernel
theorem d_M_analyse_219 : decode prog_12_method_45_code 219 = .ok (.iconst 1, 1) := by decide +kernel
theorem d_M_analyse_220 : decode prog_12_method_45_code 220 = .ok (.goto 4, 3) := by decide +kernel
theorem d_M_analyse_223 : decode prog_12_method_45_code 223 = .ok (.iconst 0, 1) := by decide +kernel
theorem d_M_analyse_224 : decode prog_12_method_45_code 224 = .ok (.iadd, 1) := by decide +kernel
theorem d_M_analyse_225 : decode prog_12_method_45_code 225 = .ok (.istore_n 1, 1) := by decide +kernel
theorem d_M_analyse_226 : decode prog_12_method_45_code 226 = .ok (.iinc 2 1, 3) := by decide +kernel
theorem d_M_analyse_229 : decode prog_12_method_45_code 229 = .ok (.goto (-32), 3) := by decide +kernel
theorem d_M_analyse_232 : decode prog_12_method_45_code 232 = .ok (.iload_n 1, 1) := by decide +kernel
theorem d_M_analyse_233 : decode prog_12_method_45_code 233 = .ok (.ireturn, 1) := by decide +kernel
theorem d_M_noBit_0 : decode prog_12_method_46_code 0 = .ok (.iload_n 0, 1) := by decide +kernel
theorem d_M_noBit_1 : decode prog_12_method_46_code 1 = .ok (.ifCond .lt 8, 3) := by decide +kernel
theorem d_M_noBit_4 : decode prog_12_method_46_code 4 = .ok (.iload_n 0, 1) := by decide +kernel
theorem d_M_noBit_5 : decode prog_12_method_46_code 5 = .ok (.iconst 1, 1) := by decide +kernel
theorem d_M_noBit_6 : decode prog_12_method_46_code 6 = .ok (.if_icmp .le 7, 3) := by decide +kernel
theorem d_M_noBit_9 : decode prog_12_method_46_code 9 = .ok (.iconst 1, 1) := by decide +kernel
theorem d_M_noBit_10 : decode prog_12_method_46_code 10 = .ok (.goto 4, 3) := by decide +kernel
theorem d_M_noBit_13 : decode prog_12_method_46_code 13 = .ok (.iconst 0, 1) := by decide +kernel
theorem d_M_noBit_14 : decode prog_12_method_46_code 14 = .ok (.ireturn, 1) := by decide +kernel
theorem d_M_ways_0 : decode prog_12_method_47_code 0 = .ok (.aload_n 0, 1) := by decide +kernel
theorem d_M_ways_1 : decode prog_12_method_47_code 1 = .ok (.aload_n 0, 1) := by decide +kernel
theorem d_M_ways_2 : decode prog_12_method_47_code 2 = .ok (.getfield 141, 3) := by decide +kernel
theorem d_M_ways_5 : decode prog_12_method_47_code 5 = .ok (.ifCond .ne 7, 3) := by decide +kernel
theorem d_M_ways_8 : decode prog_12_method_47_code 8 = .ok (.iconst 1, 1) := by decide +kernel
theorem d_M_ways_9 : decode prog_12_method_47_code 9 = .ok (.goto 30, 3) := by decide +kernel
theorem d_M_ways_12 : decode prog_12_method_47_code 12 = .ok (.iload_n 1, 1) := by decide +kernel
theorem d_M_ways_13 : decode prog_12_method_47_code 13 = .ok (.ifCond .lt 21, 3) := by decide +kernel
theorem d_M_ways_16 : decode prog_12_method_47_code 16 = .ok (.iload_n 1, 1) := by decide +kernel
theorem d_M_ways_17 : decode prog_12_method_47_code 17 = .ok (.aload_n 0, 1) := by decide +kernel
theorem d_M_ways_18 : decode prog_12_method_47_code 18 = .ok (.getfield 16, 3) := by decide +kernel
theorem d_M_ways_21 : decode prog_12_method_47_code 21 = .ok (.if_icmp .ge 13, 3) := by decide +kernel
theorem d_M_ways_24 : decode prog_12_method_47_code 24 = .ok (.aload_n 0, 1) := by decide +kernel
theorem d_M_ways_25 : decode prog_12_method_47_code 25 = .ok (.getfield 19, 3) := by decide +kernel
theorem d_M_ways_28 : decode prog_12_method_47_code 28 = .ok (.iload_n 1, 1) := by decide +kernel
theorem d_M_ways_29 : decode prog_12_method_47_code 29 = .ok (.iaload, 1) := by decide +kernel
theorem d_M_ways_30 : decode prog_12_method_47_code 30 = .ok (.iconst 3, 1) := by decide +kernel
theorem d_M_ways_31 : decode prog_12_method_47_code 31 = .ok (.if_icmp .eq 7, 3) := by decide +kernel
theorem d_M_ways_34 : decode prog_12_method_47_code 34 = .ok (.iconst 2, 1) := by decide +kernel
theorem d_M_ways_35 : decode prog_12_method_47_code 35 = .ok (.goto 4, 3) := by decide +kernel
theorem d_M_ways_38 : decode prog_12_method_47_code 38 = .ok (.iconst 0, 1) := by decide +kernel
theorem d_M_ways_39 : decode prog_12_method_47_code 39 = .ok (.putfield 137, 3) := by decide +kernel
theorem d_M_ways_42 : decode prog_12_method_47_code 42 = .ok (.aload_n 0, 1) := by decide +kernel
theorem d_M_ways_43 : decode prog_12_method_47_code 43 = .ok (.getfield 137, 3) := by decide +kernel
theorem d_M_ways_46 : decode prog_12_method_47_code 46 = .ok (.ifCond .le 7, 3) := by decide +kernel
theorem d_M_ways_49 : decode prog_12_method_47_code 49 = .ok (.iconst 0, 1) := by decide +kernel
theorem d_M_ways_50 : decode prog_12_method_47_code 50 = .ok (.goto 9, 3) := by decide +kernel
theorem d_M_ways_53 : decode prog_12_method_47_code 53 = .ok (.aload_n 0, 1) := by decide +kernel
theorem d_M_ways_54 : decode prog_12_method_47_code 54 = .ok (.getfield 53, 3) := by decide +kernel
theorem d_M_ways_57 : decode prog_12_method_47_code 57 = .ok (.iload_n 1, 1) := by decide +kernel
theorem d_M_ways_58 : decode prog_12_method_47_code 58 = .ok (.iaload, 1) := by decide +kernel
theorem d_M_ways_59 : decode prog_12_method_47_code 59 = .ok (.ireturn, 1) := by decide +kernel
theorem d_M_arrival_0 : decode prog_12_method_48_code 0 = .ok (.aload_n 0, 1) := by decide +kernel
theorem d_M_arrival_1 : decode prog_12_method_48_code 1 = .ok (.aload_n 0, 1) := by decide +kernel
theorem d_M_arrival_2 : decode prog_12_method_48_code 2 = .ok (.getfield 141, 3) := by decide +kernel
theorem d_M_arrival_5 : decode prog_12_method_48_code 5 = .ok (.ifCond .ne 7, 3) := by decide +kernel
theorem d_M_arrival_8 : decode prog_12_method_48_code 8 = .ok (.iconst 1, 1) := by decide +kernel
theorem d_M_arrival_9 : decode prog_12_method_48_code 9 = .ok (.goto 34, 3) := by decide +kernel
theorem d_M_arrival_12 : decode prog_12_method_48_code 12 = .ok (.iload_n 1, 1) := by decide +kernel
theorem d_M_arrival_13 : decode prog_12_method_48_code 13 = .ok (.ifCond .lt 25, 3) := by decide +kernel
theorem d_M_arrival_16 : decode prog_12_method_48_code 16 = .ok (.iload_n 1, 1) := by decide +kernel
theorem d_M_arrival_17 : decode prog_12_method_48_code 17 = .ok (.aload_n 0, 1) := by decide +kernel
theorem d_M_arrival_18 : decode prog_12_method_48_code 18 = .ok (.getfield 16, 3) := by decide +kernel
theorem d_M_arrival_21 : decode prog_12_method_48_code 21 = .ok (.if_icmp .ge 17, 3) := by decide +kernel
theorem d_M_arrival_24 : decode prog_12_method_48_code 24 = .ok (.iload_n 2, 1) := by decide +kernel
theorem d_M_arrival_25 : decode prog_12_method_48_code 25 = .ok (.invokestatic 293, 3) := by decide +kernel
theorem d_M_arrival_28 : decode prog_12_method_48_code 28 = .ok (.ifCond .ne 10, 3) := by decide +kernel
theorem d_M_arrival_31 : decode prog_12_method_48_code 31 = .ok (.iload_n 3, 1) := by decide +kernel
theorem d_M_arrival_32 : decode prog_12_method_48_code 32 = .ok (.invokestatic 293, 3) := by decide +kernel
theorem d_M_arrival_35 : decode prog_12_method_48_code 35 = .ok (.ifCond .eq 7, 3) := by decide +kernel
theorem d_M_arrival_38 : decode prog_12_method_48_code 38 = .ok (.iconst 2, 1) := by decide +kernel
theorem d_M_arrival_39 : decode prog_12_method_48_code 39 = .ok (.goto 4, 3) := by decide +kernel
theorem d_M_arrival_42 : decode prog_12_method_48_code 42 = .ok (.iconst 0, 1) := by decide +kernel
theorem d_M_arrival_43 : decode prog_12_method_48_code 43 = .ok (.putfield 137, 3) := by decide +kernel
theorem d_M_arrival_46 : decode prog_12_method_48_code 46 = .ok (.aload_n 0, 1) := by decide +kernel
theorem d_M_arrival_47 : decode prog_12_method_48_code 47 = .ok (.getfield 137, 3) := by decide +kernel
theorem d_M_arrival_50 : decode prog_12_method_48_code 50 = .ok (.ifCond .le 7, 3) := by decide +kernel
theorem d_M_arrival_53 : decode prog_12_method_48_code 53 = .ok (.iconst 0, 1) := by decide +kernel
theorem d_M_arrival_54 : decode prog_12_method_48_code 54 = .ok (.goto 39, 3) := by decide +kernel
theorem d_M_arrival_57 : decode prog_12_method_48_code 57 = .ok (.iload 4, 2) := by decide +kernel
theorem d_M_arrival_59 : decode prog_12_method_48_code 59 = .ok (.ifCond .eq 20, 3) := by decide +kernel
theorem d_M_arrival_62 : decode prog_12_method_48_code 62 = .ok (.aload_n 0, 1) := by decide +kernel
theorem d_M_arrival_63 : decode prog_12_method_48_code 63 = .ok (.getfield 93, 3) := by decide +kernel
theorem d_M_arrival_66 : decode prog_12_method_48_code 66 = .ok (.iconst 4, 1) := by decide +kernel
theorem d_M_arrival_67 : decode prog_12_method_48_code 67 = .ok (.iload_n 1, 1) := by decide +kernel
theorem d_M_arrival_68 : decode prog_12_method_48_code 68 = .ok (.imul, 1) := by decide +kernel
theorem d_M_arrival_69 : decode prog_12_method_48_code 69 = .ok (.iconst 2, 1) := by decide +kernel
theorem d_M_arrival_70 : decode prog_12_method_48_code 70 = .ok (.iload_n 2, 1) := by decide +kernel
theorem d_M_arrival_71 : decode prog_12_method_48_code 71 = .ok (.imul, 1) := by decide +kernel
theorem d_M_arrival_72 : decode prog_12_method_48_code 72 = .ok (.iadd, 1) := by decide +kernel
theorem d_M_arrival_73 : decode prog_12_method_48_code 73 = .ok (.iload_n 3, 1) := by decide +kernel
theorem d_M_arrival_74 : decode prog_12_method_48_code 74 = .ok (.iadd, 1) := by decide +kernel
theorem d_M_arrival_75 : decode prog_12_method_48_code 75 = .ok (.iaload, 1) := by decide +kernel
theorem d_M_arrival_76 : decode prog_12_method_48_code 76 = .ok (.goto 17, 3) := by decide +kernel
theorem d_M_arrival_79 : decode prog_12_method_48_code 79 = .ok (.aload_n 0, 1) := by decide +kernel
theorem d_M_arrival_80 : decode prog_12_method_48_code 80 = .ok (.getfield 90, 3) := by decide +kernel
theorem d_M_arrival_83 : decode prog_12_method_48_code 83 = .ok (.iconst 4, 1) := by decide +kernel
theorem d_M_arrival_84 : decode prog_12_method_48_code 84 = .ok (.iload_n 1, 1) := by decide +kernel
theorem d_M_arrival_85 : decode prog_12_method_48_code 85 = .ok (.imul, 1) := by decide +kernel
theorem d_M_arrival_86 : decode prog_12_method_48_code 86 = .ok (.iconst 2, 1) := by decide +kernel
theorem d_M_arrival_87 : decode prog_12_method_48_code 87 = .ok (.iload_n 2, 1) := by decide +kernel
theorem d_M_arrival_88 : decode prog_12_method_48_code 88 = .ok (.imul, 1) := by decide +kernel
theorem d_M_arrival_89 : decode prog_12_method_48_code 89 = .ok (.iadd, 1) := by decide +kernel
theorem d_M_arrival_90 : decode prog_12_method_48_code 90 = .ok (.iload_n 3, 1) := by decide +kernel
theorem d_M_arrival_91 : decode prog_12_method_48_code 91 = .ok (.iadd, 1) := by decide +kernel
theorem d_M_arrival_92 : decode prog_12_method_48_code 92 = .ok (.iaload, 1) := by decide +kernel
theorem d_M_arrival_93 : decode prog_12_method_48_code 93 = .ok (.ireturn, 1) := by decide +kernel
theorem d_M_slack_0 : decode prog_12_method_49_code 0 = .ok (.aload_n 0, 1) := by decide +kernel
theorem d_M_slack_1 : decode prog_12_method_49_code 1 = .ok (.aload_n 0, 1) := by decide +kernel
theorem d_M_slack_2 : decode prog_12_method_49_code 2 = .ok (.getfield 141, 3) := by decide +kernel
theorem d_M_slack_5 : decode prog_12_method_49_code 5 = .ok (.ifCond .ne 7, 3) := by decide +kernel
theorem d_M_slack_8 : decode prog_12_method_49_code 8 = .ok (.iconst 1, 1) := by decide +kernel
theorem d_M_slack_9 : decode prog_12_method_49_code 9 = .ok (.goto 23, 3) := by decide +kernel
theorem d_M_slack_12 : decode prog_12_method_49_code 12 = .ok (.aload_n 0, 1) := by decide +kernel
theorem d_M_slack_13 : decode prog_12_method_49_code 13 = .ok (.iload_n 1, 1) := by decide +kernel
theorem d_M_slack_14 : decode prog_12_method_49_code 14 = .ok (.invokevirtual 159, 3) := by decide +kernel
theorem d_M_slack_17 : decode prog_12_method_49_code 17 = .ok (.ifCond .eq 10, 3) := by decide +kernel
theorem d_M_slack_20 : decode prog_12_method_49_code 20 = .ok (.iload_n 2, 1) := by decide +kernel
theorem d_M_slack_21 : decode prog_12_method_49_code 21 = .ok (.invokestatic 293, 3) := by decide +kernel
theorem d_M_slack_24 : decode prog_12_method_49_code 24 = .ok (.ifCond .eq 7, 3) := by decide +kernel
theorem d_M_slack_27 : decode prog_12_method_49_code 27 = .ok (.iconst 2, 1) := by decide +kernel
theorem d_M_slack_28 : decode prog_12_method_49_code 28 = .ok (.goto 4, 3) := by decide +kernel
theorem d_M_slack_31 : decode prog_12_method_49_code 31 = .ok (.iconst 0, 1) := by decide +kernel
theorem d_M_slack_32 : decode prog_12_method_49_code 32 = .ok (.putfield 137, 3) := by decide +kernel
theorem d_M_slack_35 : decode prog_12_method_49_code 35 = .ok (.aload_n 0, 1) := by decide +kernel
theorem d_M_slack_36 : decode prog_12_method_49_code 36 = .ok (.getfield 137, 3) := by decide +kernel
theorem d_M_slack_39 : decode prog_12_method_49_code 39 = .ok (.ifCond .le 7, 3) := by decide +kernel
theorem d_M_slack_42 : decode prog_12_method_49_code 42 = .ok (.iconst 0, 1) := by decide +kernel
theorem d_M_slack_43 : decode prog_12_method_49_code 43 = .ok (.goto 13, 3) := by decide +kernel
theorem d_M_slack_46 : decode prog_12_method_49_code 46 = .ok (.aload_n 0, 1) := by decide +kernel
theorem d_M_slack_47 : decode prog_12_method_49_code 47 = .ok (.getfield 96, 3) := by decide +kernel
theorem d_M_slack_50 : decode prog_12_method_49_code 50 = .ok (.iconst 2, 1) := by decide +kernel
theorem d_M_slack_51 : decode prog_12_method_49_code 51 = .ok (.iload_n 1, 1) := by decide +kernel
theorem d_M_slack_52 : decode prog_12_method_49_code 52 = .ok (.imul, 1) := by decide +kernel
theorem d_M_slack_53 : decode prog_12_method_49_code 53 = .ok (.iload_n 2, 1) := by decide +kernel
theorem d_M_slack_54 : decode prog_12_method_49_code 54 = .ok (.iadd, 1) := by decide +kernel
theorem d_M_slack_55 : decode prog_12_method_49_code 55 = .ok (.iaload, 1) := by decide +kernel
theorem d_M_slack_56 : decode prog_12_method_49_code 56 = .ok (.ireturn, 1) := by decide +kernel
theorem d_M_worst_0 : decode prog_12_method_50_code 0 = .ok (.aload_n 0, 1) := by decide +kernel
theorem d_M_worst_1 : decode prog_12_method_50_code 1 = .ok (.aload_n 0, 1) := by decide +kernel
theorem d_M_worst_2 : decode prog_12_method_50_code 2 = .ok (.getfield 141, 3) := by decide +kernel
theorem d_M_worst_5 : decode prog_12_method_50_code 5 = .ok (.ifCond .ne 7, 3) := by decide +kernel
theorem d_M_worst_8 : decode prog_12_method_50_code 8 = .ok (.iconst 1, 1) := by decide +kernel
theorem d_M_worst_9 : decode prog_12_method_50_code 9 = .ok (.goto 15, 3) := by decide +kernel
theorem d_M_worst_12 : decode prog_12_method_50_code 12 = .ok (.iload_n 1, 1) := by decide +kernel
theorem d_M_worst_13 : decode prog_12_method_50_code 13 = .ok (.invokestatic 293, 3) := by decide +kernel
theorem d_M_worst_16 : decode prog_12_method_50_code 16 = .ok (.ifCond .eq 7, 3) := by decide +kernel
theorem d_M_worst_19 : decode prog_12_method_50_code 19 = .ok (.iconst 2, 1) := by decide +kernel
theorem d_M_worst_20 : decode prog_12_method_50_code 20 = .ok (.goto 4, 3) := by decide +kernel
theorem d_M_worst_23 : decode prog_12_method_50_code 23 = .ok (.iconst 0, 1) := by decide +kernel
theorem d_M_worst_24 : decode prog_12_method_50_code 24 = .ok (.putfield 137, 3) := by decide +kernel
theorem d_M_worst_27 : decode prog_12_method_50_code 27 = .ok (.ldc 140, 2) := by decide +kernel
theorem d_M_worst_29 : decode prog_12_method_50_code 29 = .ok (.istore_n 2, 1) := by decide +kernel
theorem d_M_worst_30 : decode prog_12_method_50_code 30 = .ok (.iconst 0, 1) := by decide +kernel
theorem d_M_worst_31 : decode prog_12_method_50_code 31 = .ok (.istore_n 3, 1) := by decide +kernel
theorem d_M_worst_32 : decode prog_12_method_50_code 32 = .ok (.iload_n 3, 1) := by decide +kernel
theorem d_M_worst_33 : decode prog_12_method_50_code 33 = .ok (.aload_n 0, 1) := by decide +kernel
theorem d_M_worst_34 : decode prog_12_method_50_code 34 = .ok (.getfield 16, 3) := by decide +kernel
theorem d_M_worst_37 : decode prog_12_method_50_code 37 = .ok (.if_icmp .ge 54, 3) := by decide +kernel
theorem d_M_worst_40 : decode prog_12_method_50_code 40 = .ok (.aload_n 0, 1) := by decide +kernel
theorem d_M_worst_41 : decode prog_12_method_50_code 41 = .ok (.getfield 137, 3) := by decide +kernel
theorem d_M_worst_44 : decode prog_12_method_50_code 44 = .ok (.ifCond .ne 47, 3) := by decide +kernel
theorem d_M_worst_47 : decode prog_12_method_50_code 47 = .ok (.aload_n 0, 1) := by decide +kernel
theorem d_M_worst_48 : decode prog_12_method_50_code 48 = .ok (.getfield 96, 3) := by decide +kernel
theorem d_M_worst_51 : decode prog_12_method_50_code 51 = .ok (.iconst 2, 1) := by decide +kernel
theorem d_M_worst_52 : decode prog_12_method_50_code 52 = .ok (.iload_n 3, 1) := by decide +kernel
theorem d_M_worst_53 : decode prog_12_method_50_code 53 = .ok (.imul, 1) := by decide +kernel
theorem d_M_worst_54 : decode prog_12_method_50_code 54 = .ok (.iload_n 1, 1) := by decide +kernel
theorem d_M_worst_55 : decode prog_12_method_50_code 55 = .ok (.iadd, 1) := by decide +kernel
theorem d_M_worst_56 : decode prog_12_method_50_code 56 = .ok (.iaload, 1) := by decide +kernel
theorem d_M_worst_57 : decode prog_12_method_50_code 57 = .ok (.istore 4, 2) := by decide +kernel
theorem d_M_worst_59 : decode prog_12_method_50_code 59 = .ok (.iload 4, 2) := by decide +kernel
theorem d_M_worst_61 : decode prog_12_method_50_code 61 = .ok (.ldc 140, 2) := by decide +kernel
theorem d_M_worst_63 : decode prog_12_method_50_code 63 = .ok (.if_icmp .eq 20, 3) := by decide +kernel
theorem d_M_worst_66 : decode prog_12_method_50_code 66 = .ok (.iload_n 2, 1) := by decide +kernel
theorem d_M_worst_67 : decode prog_12_method_50_code 67 = .ok (.ldc 140, 2) := by decide +kernel
theorem d_M_worst_69 : decode prog_12_method_50_code 69 = .ok (.if_icmp .eq 9, 3) := by decide +kernel
theorem d_M_worst_72 : decode prog_12_method_50_code 72 = .ok (.iload 4, 2) := by decide +kernel
theorem d_M_worst_74 : decode prog_12_method_50_code 74 = .ok (.iload_n 2, 1) := by decide +kernel
theorem d_M_worst_75 : decode prog_12_method_50_code 75 = .ok (.if_icmp .ge 8, 3) := by decide +kernel
theorem d_M_worst_78 : decode prog_12_method_50_code 78 = .ok (.iload 4, 2) := by decide +kernel
theorem d_M_worst_80 : decode prog_12_method_50_code 80 = .ok (.goto 4, 3) := by decide +kernel
theorem d_M_worst_83 : decode prog_12_method_50_code 83 = .ok (.iload_n 2, 1) := by decide +kernel
theorem d_M_worst_84 : decode prog_12_method_50_code 84 = .ok (.istore_n 2, 1) := by decide +kernel
theorem d_M_worst_85 : decode prog_12_method_50_code 85 = .ok (.iinc 3 1, 3) := by decide +kernel
theorem d_M_worst_88 : decode prog_12_method_50_code 88 = .ok (.goto (-56), 3) := by decide +kernel
theorem d_M_worst_91 : decode prog_12_method_50_code 91 = .ok (.aload_n 0, 1) := by decide +kernel
theorem d_M_worst_92 : decode prog_12_method_50_code 92 = .ok (.getfield 137, 3) := by decide +kernel
theorem d_M_worst_95 : decode prog_12_method_50_code 95 = .ok (.ifCond .le 7, 3) := by decide +kernel
theorem d_M_worst_98 : decode prog_12_method_50_code 98 = .ok (.iconst 0, 1) := by decide +kernel
theorem d_M_worst_99 : decode prog_12_method_50_code 99 = .ok (.goto 4, 3) := by decide +kernel
theorem d_M_worst_102 : decode prog_12_method_50_code 102 = .ok (.iload_n 2, 1) := by decide +kernel
theorem d_M_worst_103 : decode prog_12_method_50_code 103 = .ok (.ireturn, 1) := by decide +kernel
theorem d_M_total_0 : decode prog_12_method_51_code 0 = .ok (.aload_n 0, 1) := by decide +kernel
theorem d_M_total_1 : decode prog_12_method_51_code 1 = .ok (.aload_n 0, 1) := by decide +kernel
theorem d_M_total_2 : decode prog_12_method_51_code 2 = .ok (.getfield 141, 3) := by decide +kernel
theorem d_M_total_5 : decode prog_12_method_51_code 5 = .ok (.ifCond .ne 7, 3) := by decide +kernel
theorem d_M_total_8 : decode prog_12_method_51_code 8 = .ok (.iconst 1, 1) := by decide +kernel
theorem d_M_total_9 : decode prog_12_method_51_code 9 = .ok (.goto 15, 3) := by decide +kernel
theorem d_M_total_12 : decode prog_12_method_51_code 12 = .ok (.iload_n 1, 1) := by decide +kernel
theorem d_M_total_13 : decode prog_12_method_51_code 13 = .ok (.invokestatic 293, 3) := by decide +kernel
theorem d_M_total_16 : decode prog_12_method_51_code 16 = .ok (.ifCond .eq 7, 3) := by decide +kernel
theorem d_M_total_19 : decode prog_12_method_51_code 19 = .ok (.iconst 2, 1) := by decide +kernel
theorem d_M_total_20 : decode prog_12_method_51_code 20 = .ok (.goto 4, 3) := by decide +kernel
theorem d_M_total_23 : decode prog_12_method_51_code 23 = .ok (.iconst 0, 1) := by decide +kernel
theorem d_M_total_24 : decode prog_12_method_51_code 24 = .ok (.putfield 137, 3) := by decide +kernel
theorem d_M_total_27 : decode prog_12_method_51_code 27 = .ok (.iconst 0, 1) := by decide +kernel
theorem d_M_total_28 : decode prog_12_method_51_code 28 = .ok (.istore_n 2, 1) := by decide +kernel
theorem d_M_total_29 : decode prog_12_method_51_code 29 = .ok (.iconst 0, 1) := by decide +kernel
theorem d_M_total_30 : decode prog_12_method_51_code 30 = .ok (.istore_n 3, 1) := by decide +kernel
theorem d_M_total_31 : decode prog_12_method_51_code 31 = .ok (.iload_n 3, 1) := by decide +kernel
theorem d_M_total_32 : decode prog_12_method_51_code 32 = .ok (.aload_n 0, 1) := by decide +kernel
theorem d_M_total_33 : decode prog_12_method_51_code 33 = .ok (.getfield 16, 3) := by decide +kernel
theorem d_M_total_36 : decode prog_12_method_51_code 36 = .ok (.if_icmp .ge 49, 3) := by decide +kernel
theorem d_M_total_39 : decode prog_12_method_51_code 39 = .ok (.aload_n 0, 1) := by decide +kernel
theorem d_M_total_40 : decode prog_12_method_51_code 40 = .ok (.getfield 137, 3) := by decide +kernel
theorem d_M_total_43 : decode prog_12_method_51_code 43 = .ok (.ifCond .ne 42, 3) := by decide +kernel
theorem d_M_total_46 : decode prog_12_method_51_code 46 = .ok (.aload_n 0, 1) := by decide +kernel
theorem d_M_total_47 : decode prog_12_method_51_code 47 = .ok (.getfield 96, 3) := by decide +kernel
theorem d_M_total_50 : decode prog_12_method_51_code 50 = .ok (.iconst 2, 1) := by decide +kernel
theorem d_M_total_51 : decode prog_12_method_51_code 51 = .ok (.iload_n 3, 1) := by decide +kernel
theorem d_M_total_52 : decode prog_12_method_51_code 52 = .ok (.imul, 1) := by decide +kernel
theorem d_M_total_53 : decode prog_12_method_51_code 53 = .ok (.iload_n 1, 1) := by decide +kernel
theorem d_M_total_54 : decode prog_12_method_51_code 54 = .ok (.iadd, 1) := by decide +kernel
theorem d_M_total_55 : decode prog_12_method_51_code 55 = .ok (.iaload, 1) := by decide +kernel
theorem d_M_total_56 : decode prog_12_method_51_code 56 = .ok (.istore 4, 2) := by decide +kernel
theorem d_M_total_58 : decode prog_12_method_51_code 58 = .ok (.iload_n 2, 1) := by decide +kernel
theorem d_M_total_59 : decode prog_12_method_51_code 59 = .ok (.iload 4, 2) := by decide +kernel
theorem d_M_total_61 : decode prog_12_method_51_code 61 = .ok (.ldc 140, 2) := by decide +kernel
theorem d_M_total_63 : decode prog_12_method_51_code 63 = .ok (.if_icmp .eq 13, 3) := by decide +kernel
theorem d_M_total_66 : decode prog_12_method_51_code 66 = .ok (.iload 4, 2) := by decide +kernel
theorem d_M_total_68 : decode prog_12_method_51_code 68 = .ok (.ifCond .ge 8, 3) := by decide +kernel
theorem d_M_total_71 : decode prog_12_method_51_code 71 = .ok (.iload 4, 2) := by decide +kernel
theorem d_M_total_73 : decode prog_12_method_51_code 73 = .ok (.goto 4, 3) := by decide +kernel
theorem d_M_total_76 : decode prog_12_method_51_code 76 = .ok (.iconst 0, 1) := by decide +kernel
theorem d_M_total_77 : decode prog_12_method_51_code 77 = .ok (.iadd, 1) := by decide +kernel
theorem d_M_total_78 : decode prog_12_method_51_code 78 = .ok (.istore_n 2, 1) := by decide +kernel
theorem d_M_total_79 : decode prog_12_method_51_code 79 = .ok (.iinc 3 1, 3) := by decide +kernel
theorem d_M_total_82 : decode prog_12_method_51_code 82 = .ok (.goto (-51), 3) := by decide +kernel
theorem d_M_total_85 : decode prog_12_method_51_code 85 = .ok (.iload_n 2, 1) := by decide +kernel
theorem d_M_total_86 : decode prog_12_method_51_code 86 = .ok (.ireturn, 1) := by decide +kernel
theorem d_M_leastPeriod_0 : decode prog_12_method_52_code 0 = .ok (.aload_n 0, 1) := by decide +kernel
theorem d_M_leastPeriod_1 : decode prog_12_method_52_code 1 = .ok (.aload_n 0, 1) := by decide +kernel
theorem d_M_leastPeriod_2 : decode prog_12_method_52_code 2 = .ok (.getfield 141, 3) := by decide +kernel
theorem d_M_leastPeriod_5 : decode prog_12_method_52_code 5 = .ok (.ifCond .eq 7, 3) := by decide +kernel
theorem d_M_leastPeriod_8 : decode prog_12_method_52_code 8 = .ok (.iconst 0, 1) := by decide +kernel
theorem d_M_leastPeriod_9 : decode prog_12_method_52_code 9 = .ok (.goto 4, 3) := by decide +kernel
theorem d_M_leastPeriod_12 : decode prog_12_method_52_code 12 = .ok (.iconst 1, 1) := by decide +kernel
theorem d_M_leastPeriod_13 : decode prog_12_method_52_code 13 = .ok (.putfield 137, 3) := by decide +kernel
theorem d_M_leastPeriod_16 : decode prog_12_method_52_code 16 = .ok (.aload_n 0, 1) := by decide +kernel
theorem d_M_leastPeriod_17 : decode prog_12_method_52_code 17 = .ok (.getfield 137, 3) := by decide +kernel
theorem d_M_leastPeriod_20 : decode prog_12_method_52_code 20 = .ok (.ifCond .le 5, 3) := by decide +kernel
theorem d_M_leastPeriod_23 : decode prog_12_method_52_code 23 = .ok (.iconst 0, 1) := by decide +kernel
theorem d_M_leastPeriod_24 : decode prog_12_method_52_code 24 = .ok (.ireturn, 1) := by decide +kernel
theorem d_M_leastPeriod_25 : decode prog_12_method_52_code 25 = .ok (.aload_n 0, 1) := by decide +kernel
theorem d_M_leastPeriod_26 : decode prog_12_method_52_code 26 = .ok (.getfield 217, 3) := by decide +kernel
theorem d_M_leastPeriod_29 : decode prog_12_method_52_code 29 = .ok (.ldc 140, 2) := by decide +kernel
theorem d_M_leastPeriod_31 : decode prog_12_method_52_code 31 = .ok (.if_icmp .eq 13, 3) := by decide +kernel
theorem d_M_leastPeriod_34 : decode prog_12_method_52_code 34 = .ok (.aload_n 0, 1) := by decide +kernel
theorem d_M_leastPeriod_35 : decode prog_12_method_52_code 35 = .ok (.getfield 217, 3) := by decide +kernel
theorem d_M_leastPeriod_38 : decode prog_12_method_52_code 38 = .ok (.ifCond .ge 6, 3) := by decide +kernel
theorem d_M_leastPeriod_41 : decode prog_12_method_52_code 41 = .ok (.ldc 140, 2) := by decide +kernel
theorem d_M_leastPeriod_43 : decode prog_12_method_52_code 43 = .ok (.ireturn, 1) := by decide +kernel
theorem d_M_leastPeriod_44 : decode prog_12_method_52_code 44 = .ok (.aload_n 0, 1) := by decide +kernel
theorem d_M_leastPeriod_45 : decode prog_12_method_52_code 45 = .ok (.getfield 214, 3) := by decide +kernel
theorem d_M_leastPeriod_48 : decode prog_12_method_52_code 48 = .ok (.ldc 140, 2) := by decide +kernel
theorem d_M_leastPeriod_50 : decode prog_12_method_52_code 50 = .ok (.if_icmp .ne 12, 3) := by decide +kernel
theorem d_M_leastPeriod_53 : decode prog_12_method_52_code 53 = .ok (.aload_n 0, 1) := by decide +kernel
theorem d_M_leastPeriod_54 : decode prog_12_method_52_code 54 = .ok (.getfield 13, 3) := by decide +kernel
theorem d_M_leastPeriod_57 : decode prog_12_method_52_code 57 = .ok (.iconst 1, 1) := by decide +kernel
theorem d_M_leastPeriod_58 : decode prog_12_method_52_code 58 = .ok (.iadd, 1) := by decide +kernel
theorem d_M_leastPeriod_59 : decode prog_12_method_52_code 59 = .ok (.goto 12, 3) := by decide +kernel
theorem d_M_leastPeriod_62 : decode prog_12_method_52_code 62 = .ok (.aload_n 0, 1) := by decide +kernel
theorem d_M_leastPeriod_63 : decode prog_12_method_52_code 63 = .ok (.getfield 7, 3) := by decide +kernel
theorem d_M_leastPeriod_66 : decode prog_12_method_52_code 66 = .ok (.aload_n 0, 1) := by decide +kernel
theorem d_M_leastPeriod_67 : decode prog_12_method_52_code 67 = .ok (.getfield 214, 3) := by decide +kernel
theorem d_M_leastPeriod_70 : decode prog_12_method_52_code 70 = .ok (.isub, 1) := by decide +kernel
theorem d_M_leastPeriod_71 : decode prog_12_method_52_code 71 = .ok (.istore_n 1, 1) := by decide +kernel
theorem d_M_leastPeriod_72 : decode prog_12_method_52_code 72 = .ok (.iload_n 1, 1) := by decide +kernel
theorem d_M_leastPeriod_73 : decode prog_12_method_52_code 73 = .ok (.aload_n 0, 1) := by decide +kernel
theorem d_M_leastPeriod_74 : decode prog_12_method_52_code 74 = .ok (.getfield 13, 3) := by decide +kernel
theorem d_M_leastPeriod_77 : decode prog_12_method_52_code 77 = .ok (.if_icmp .le 7, 3) := by decide +kernel
theorem d_M_leastPeriod_80 : decode prog_12_method_52_code 80 = .ok (.iload_n 1, 1) := by decide +kernel
theorem d_M_leastPeriod_81 : decode prog_12_method_52_code 81 = .ok (.goto 9, 3) := by decide +kernel
theorem d_M_leastPeriod_84 : decode prog_12_method_52_code 84 = .ok (.aload_n 0, 1) := by decide +kernel
theorem d_M_leastPeriod_85 : decode prog_12_method_52_code 85 = .ok (.getfield 13, 3) := by decide +kernel
theorem d_M_leastPeriod_88 : decode prog_12_method_52_code 88 = .ok (.iconst 1, 1) := by decide +kernel
theorem d_M_leastPeriod_89 : decode prog_12_method_52_code 89 = .ok (.iadd, 1) := by decide +kernel
theorem d_M_leastPeriod_90 : decode prog_12_method_52_code 90 = .ok (.istore_n 1, 1) := by decide +kernel
theorem d_M_leastPeriod_91 : decode prog_12_method_52_code 91 = .ok (.iload_n 1, 1) := by decide +kernel
theorem d_M_leastPeriod_92 : decode prog_12_method_52_code 92 = .ok (.ldc 145, 2) := by decide +kernel
theorem d_M_leastPeriod_94 : decode prog_12_method_52_code 94 = .ok (.if_icmp .le 8, 3) := by decide +kernel
theorem d_M_leastPeriod_97 : decode prog_12_method_52_code 97 = .ok (.ldc 140, 2) := by decide +kernel
theorem d_M_leastPeriod_99 : decode prog_12_method_52_code 99 = .ok (.goto 4, 3) := by decide +kernel
theorem d_M_leastPeriod_102 : decode prog_12_method_52_code 102 = .ok (.iload_n 1, 1) := by decide +kernel
theorem d_M_leastPeriod_103 : decode prog_12_method_52_code 103 = .ok (.ireturn, 1) := by decide +kernel
theorem d_M_paths_0 : decode prog_12_method_53_code 0 = .ok (.aload_n 0, 1) := by decide +kernel
theorem d_M_paths_1 : decode prog_12_method_53_code 1 = .ok (.aload_n 0, 1) := by decide +kernel
theorem d_M_paths_2 : decode prog_12_method_53_code 2 = .ok (.getfield 141, 3) := by decide +kernel
theorem d_M_paths_5 : decode prog_12_method_53_code 5 = .ok (.ifCond .eq 7, 3) := by decide +kernel
theorem d_M_paths_8 : decode prog_12_method_53_code 8 = .ok (.iconst 0, 1) := by decide +kernel
theorem d_M_paths_9 : decode prog_12_method_53_code 9 = .ok (.goto 4, 3) := by decide +kernel
theorem d_M_paths_12 : decode prog_12_method_53_code 12 = .ok (.iconst 1, 1) := by decide +kernel
theorem d_M_paths_13 : decode prog_12_method_53_code 13 = .ok (.putfield 137, 3) := by decide +kernel
theorem d_M_paths_16 : decode prog_12_method_53_code 16 = .ok (.aload_n 0, 1) := by decide +kernel
theorem d_M_paths_17 : decode prog_12_method_53_code 17 = .ok (.getfield 137, 3) := by decide +kernel
theorem d_M_paths_20 : decode prog_12_method_53_code 20 = .ok (.ifCond .le 7, 3) := by decide +kernel
theorem d_M_paths_23 : decode prog_12_method_53_code 23 = .ok (.iconst 0, 1) := by decide +kernel
theorem d_M_paths_24 : decode prog_12_method_53_code 24 = .ok (.goto 24, 3) := by decide +kernel
theorem d_M_paths_27 : decode prog_12_method_53_code 27 = .ok (.aload_n 0, 1) := by decide +kernel
theorem d_M_paths_28 : decode prog_12_method_53_code 28 = .ok (.getfield 237, 3) := by decide +kernel
theorem d_M_paths_31 : decode prog_12_method_53_code 31 = .ok (.ldc2_w 288, 3) := by decide +kernel
theorem d_M_paths_34 : decode prog_12_method_53_code 34 = .ok (.lcmp, 1) := by decide +kernel
theorem d_M_paths_35 : decode prog_12_method_53_code 35 = .ok (.ifCond .le 8, 3) := by decide +kernel
theorem d_M_paths_38 : decode prog_12_method_53_code 38 = .ok (.bipush (-3), 2) := by decide +kernel
theorem d_M_paths_40 : decode prog_12_method_53_code 40 = .ok (.goto 8, 3) := by decide +kernel
theorem d_M_paths_43 : decode prog_12_method_53_code 43 = .ok (.aload_n 0, 1) := by decide +kernel
theorem d_M_paths_44 : decode prog_12_method_53_code 44 = .ok (.getfield 237, 3) := by decide +kernel
theorem d_M_paths_47 : decode prog_12_method_53_code 47 = .ok (.l2i, 1) := by decide +kernel
theorem d_M_paths_48 : decode prog_12_method_53_code 48 = .ok (.ireturn, 1) := by decide +kernel
theorem d_M_refused_0 : decode prog_12_method_54_code 0 = .ok (.aload_n 0, 1) := by decide +kernel
theorem d_M_refused_1 : decode prog_12_method_54_code 1 = .ok (.getfield 141, 3) := by decide +kernel
theorem d_M_refused_4 : decode prog_12_method_54_code 4 = .ok (.ifCond .eq 14, 3) := by decide +kernel
theorem d_M_refused_7 : decode prog_12_method_54_code 7 = .ok (.aload_n 0, 1) := by decide +kernel
theorem d_M_refused_8 : decode prog_12_method_54_code 8 = .ok (.getfield 237, 3) := by decide +kernel
theorem d_M_refused_11 : decode prog_12_method_54_code 11 = .ok (.ldc2_w 288, 3) := by decide +kernel
theorem d_M_refused_14 : decode prog_12_method_54_code 14 = .ok (.lcmp, 1) := by decide +kernel
theorem d_M_refused_15 : decode prog_12_method_54_code 15 = .ok (.ifCond .le 7, 3) := by decide +kernel
theorem d_M_refused_18 : decode prog_12_method_54_code 18 = .ok (.iconst 1, 1) := by decide +kernel
theorem d_M_refused_19 : decode prog_12_method_54_code 19 = .ok (.goto 39, 3) := by decide +kernel
theorem d_M_refused_22 : decode prog_12_method_54_code 22 = .ok (.iload_n 1, 1) := by decide +kernel
theorem d_M_refused_23 : decode prog_12_method_54_code 23 = .ok (.invokestatic 293, 3) := by decide +kernel
theorem d_M_refused_26 : decode prog_12_method_54_code 26 = .ok (.ifCond .eq 7, 3) := by decide +kernel
theorem d_M_refused_29 : decode prog_12_method_54_code 29 = .ok (.iconst 2, 1) := by decide +kernel
theorem d_M_refused_30 : decode prog_12_method_54_code 30 = .ok (.goto 28, 3) := by decide +kernel
theorem d_M_refused_33 : decode prog_12_method_54_code 33 = .ok (.iload_n 2, 1) := by decide +kernel
theorem d_M_refused_34 : decode prog_12_method_54_code 34 = .ok (.ifCond .lt 19, 3) := by decide +kernel
theorem d_M_refused_37 : decode prog_12_method_54_code 37 = .ok (.iload_n 2, 1) := by decide +kernel
theorem d_M_refused_38 : decode prog_12_method_54_code 38 = .ok (.bipush 20, 2) := by decide +kernel
theorem d_M_refused_40 : decode prog_12_method_54_code 40 = .ok (.if_icmp .ge 13, 3) := by decide +kernel
theorem d_M_refused_43 : decode prog_12_method_54_code 43 = .ok (.iload_n 2, 1) := by decide +kernel
theorem d_M_refused_44 : decode prog_12_method_54_code 44 = .ok (.aload_n 0, 1) := by decide +kernel
theorem d_M_refused_45 : decode prog_12_method_54_code 45 = .ok (.getfield 121, 3) := by decide +kernel
theorem d_M_refused_48 : decode prog_12_method_54_code 48 = .ok (.iload_n 1, 1) := by decide +kernel
theorem d_M_refused_49 : decode prog_12_method_54_code 49 = .ok (.iaload, 1) := by decide +kernel
theorem d_M_refused_50 : decode prog_12_method_54_code 50 = .ok (.if_icmp .lt 7, 3) := by decide +kernel
theorem d_M_refused_53 : decode prog_12_method_54_code 53 = .ok (.iconst 3, 1) := by decide +kernel
theorem d_M_refused_54 : decode prog_12_method_54_code 54 = .ok (.goto 4, 3) := by decide +kernel
theorem d_M_refused_57 : decode prog_12_method_54_code 57 = .ok (.iconst 0, 1) := by decide +kernel
theorem d_M_refused_58 : decode prog_12_method_54_code 58 = .ok (.ireturn, 1) := by decide +kernel
theorem d_M_path_0 : decode prog_12_method_55_code 0 = .ok (.aload_n 0, 1) := by decide +kernel
theorem d_M_path_1 : decode prog_12_method_55_code 1 = .ok (.aload_n 0, 1) := by decide +kernel
theorem d_M_path_2 : decode prog_12_method_55_code 2 = .ok (.iload_n 1, 1) := by decide +kernel
theorem d_M_path_3 : decode prog_12_method_55_code 3 = .ok (.iload_n 2, 1) := by decide +kernel
theorem d_M_path_4 : decode prog_12_method_55_code 4 = .ok (.invokevirtual 296, 3) := by decide +kernel
theorem d_M_path_7 : decode prog_12_method_55_code 7 = .ok (.putfield 137, 3) := by decide +kernel
theorem d_M_path_10 : decode prog_12_method_55_code 10 = .ok (.aload_n 0, 1) := by decide +kernel
theorem d_M_path_11 : decode prog_12_method_55_code 11 = .ok (.getfield 137, 3) := by decide +kernel
theorem d_M_path_14 : decode prog_12_method_55_code 14 = .ok (.ifCond .le 7, 3) := by decide +kernel
theorem d_M_path_17 : decode prog_12_method_55_code 17 = .ok (.iconst 0, 1) := by decide +kernel
theorem d_M_path_18 : decode prog_12_method_55_code 18 = .ok (.goto 14, 3) := by decide +kernel
theorem d_M_path_21 : decode prog_12_method_55_code 21 = .ok (.aload_n 0, 1) := by decide +kernel
theorem d_M_path_22 : decode prog_12_method_55_code 22 = .ok (.getfield 124, 3) := by decide +kernel
theorem d_M_path_25 : decode prog_12_method_55_code 25 = .ok (.bipush 21, 2) := by decide +kernel
theorem d_M_path_27 : decode prog_12_method_55_code 27 = .ok (.iload_n 1, 1) := by decide +kernel
theorem d_M_path_28 : decode prog_12_method_55_code 28 = .ok (.imul, 1) := by decide +kernel
theorem d_M_path_29 : decode prog_12_method_55_code 29 = .ok (.iload_n 2, 1) := by decide +kernel
theorem d_M_path_30 : decode prog_12_method_55_code 30 = .ok (.iadd, 1) := by decide +kernel
theorem d_M_path_31 : decode prog_12_method_55_code 31 = .ok (.iaload, 1) := by decide +kernel
theorem d_M_path_32 : decode prog_12_method_55_code 32 = .ok (.ireturn, 1) := by decide +kernel
theorem d_M_element_0 : decode prog_12_method_56_code 0 = .ok (.aload_n 0, 1) := by decide +kernel
theorem d_M_element_1 : decode prog_12_method_56_code 1 = .ok (.aload_n 0, 1) := by decide +kernel
theorem d_M_element_2 : decode prog_12_method_56_code 2 = .ok (.iload_n 1, 1) := by decide +kernel
theorem d_M_element_3 : decode prog_12_method_56_code 3 = .ok (.iload_n 2, 1) := by decide +kernel
theorem d_M_element_4 : decode prog_12_method_56_code 4 = .ok (.invokevirtual 296, 3) := by decide +kernel
theorem d_M_element_7 : decode prog_12_method_56_code 7 = .ok (.putfield 137, 3) := by decide +kernel
theorem d_M_element_10 : decode prog_12_method_56_code 10 = .ok (.aload_n 0, 1) := by decide +kernel
theorem d_M_element_11 : decode prog_12_method_56_code 11 = .ok (.getfield 137, 3) := by decide +kernel
theorem d_M_element_14 : decode prog_12_method_56_code 14 = .ok (.ifCond .le 7, 3) := by decide +kernel
theorem d_M_element_17 : decode prog_12_method_56_code 17 = .ok (.iconst 0, 1) := by decide +kernel
theorem d_M_element_18 : decode prog_12_method_56_code 18 = .ok (.goto 43, 3) := by decide +kernel
theorem d_M_element_21 : decode prog_12_method_56_code 21 = .ok (.iload_n 3, 1) := by decide +kernel
theorem d_M_element_22 : decode prog_12_method_56_code 22 = .ok (.ifCond .lt 18, 3) := by decide +kernel
theorem d_M_element_25 : decode prog_12_method_56_code 25 = .ok (.iload_n 3, 1) := by decide +kernel
theorem d_M_element_26 : decode prog_12_method_56_code 26 = .ok (.aload_n 0, 1) := by decide +kernel
theorem d_M_element_27 : decode prog_12_method_56_code 27 = .ok (.getfield 127, 3) := by decide +kernel
theorem d_M_element_30 : decode prog_12_method_56_code 30 = .ok (.bipush 21, 2) := by decide +kernel
theorem d_M_element_32 : decode prog_12_method_56_code 32 = .ok (.iload_n 1, 1) := by decide +kernel
theorem d_M_element_33 : decode prog_12_method_56_code 33 = .ok (.imul, 1) := by decide +kernel
theorem d_M_element_34 : decode prog_12_method_56_code 34 = .ok (.iload_n 2, 1) := by decide +kernel
theorem d_M_element_35 : decode prog_12_method_56_code 35 = .ok (.iadd, 1) := by decide +kernel
theorem d_M_element_36 : decode prog_12_method_56_code 36 = .ok (.iaload, 1) := by decide +kernel
theorem d_M_element_37 : decode prog_12_method_56_code 37 = .ok (.if_icmp .lt 7, 3) := by decide +kernel
theorem d_M_element_40 : decode prog_12_method_56_code 40 = .ok (.iconst (-1), 1) := by decide +kernel
theorem d_M_element_41 : decode prog_12_method_56_code 41 = .ok (.goto 20, 3) := by decide +kernel
theorem d_M_element_44 : decode prog_12_method_56_code 44 = .ok (.aload_n 0, 1) := by decide +kernel
theorem d_M_element_45 : decode prog_12_method_56_code 45 = .ok (.getfield 130, 3) := by decide +kernel
theorem d_M_element_48 : decode prog_12_method_56_code 48 = .ok (.sipush 160, 3) := by decide +kernel
theorem d_M_element_51 : decode prog_12_method_56_code 51 = .ok (.bipush 21, 2) := by decide +kernel
theorem d_M_element_53 : decode prog_12_method_56_code 53 = .ok (.iload_n 1, 1) := by decide +kernel
theorem d_M_element_54 : decode prog_12_method_56_code 54 = .ok (.imul, 1) := by decide +kernel
theorem d_M_element_55 : decode prog_12_method_56_code 55 = .ok (.iload_n 2, 1) := by decide +kernel
theorem d_M_element_56 : decode prog_12_method_56_code 56 = .ok (.iadd, 1) := by decide +kernel
theorem d_M_element_57 : decode prog_12_method_56_code 57 = .ok (.imul, 1) := by decide +kernel
theorem d_M_element_58 : decode prog_12_method_56_code 58 = .ok (.iload_n 3, 1) := by decide +kernel
theorem d_M_element_59 : decode prog_12_method_56_code 59 = .ok (.iadd, 1) := by decide +kernel
theorem d_M_element_60 : decode prog_12_method_56_code 60 = .ok (.iaload, 1) := by decide +kernel
theorem d_M_element_61 : decode prog_12_method_56_code 61 = .ok (.ireturn, 1) := by decide +kernel
