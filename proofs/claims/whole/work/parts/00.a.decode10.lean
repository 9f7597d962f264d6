theorem d_Net_init_0 : decode prog_5_method_1_code 0 = .ok (.aload_n 0, 1) := by decide +kernel
theorem d_Net_init_1 : decode prog_5_method_1_code 1 = .ok (.invokespecial 3, 3) := by decide +kernel
theorem d_Net_init_4 : decode prog_5_method_1_code 4 = .ok (.aload_n 0, 1) := by decide +kernel
theorem d_Net_init_5 : decode prog_5_method_1_code 5 = .ok (.sipush 1000, 3) := by decide +kernel
theorem d_Net_init_8 : decode prog_5_method_1_code 8 = .ok (.putfield 9, 3) := by decide +kernel
theorem d_Net_init_11 : decode prog_5_method_1_code 11 = .ok (.aload_n 0, 1) := by decide +kernel
theorem d_Net_init_12 : decode prog_5_method_1_code 12 = .ok (.sipush 500, 3) := by decide +kernel
theorem d_Net_init_15 : decode prog_5_method_1_code 15 = .ok (.putfield 15, 3) := by decide +kernel
theorem d_Net_init_18 : decode prog_5_method_1_code 18 = .ok (.aload_n 0, 1) := by decide +kernel
theorem d_Net_init_19 : decode prog_5_method_1_code 19 = .ok (.iconst 1, 1) := by decide +kernel
theorem d_Net_init_20 : decode prog_5_method_1_code 20 = .ok (.putfield 18, 3) := by decide +kernel
theorem d_Net_init_23 : decode prog_5_method_1_code 23 = .ok (.aload_n 0, 1) := by decide +kernel
theorem d_Net_init_24 : decode prog_5_method_1_code 24 = .ok (.bipush 48, 2) := by decide +kernel
theorem d_Net_init_26 : decode prog_5_method_1_code 26 = .ok (.newarray .int, 2) := by decide +kernel
theorem d_Net_init_28 : decode prog_5_method_1_code 28 = .ok (.putfield 21, 3) := by decide +kernel
theorem d_Net_init_31 : decode prog_5_method_1_code 31 = .ok (.aload_n 0, 1) := by decide +kernel
theorem d_Net_init_32 : decode prog_5_method_1_code 32 = .ok (.bipush 48, 2) := by decide +kernel
theorem d_Net_init_34 : decode prog_5_method_1_code 34 = .ok (.newarray .int, 2) := by decide +kernel
theorem d_Net_init_36 : decode prog_5_method_1_code 36 = .ok (.putfield 25, 3) := by decide +kernel
theorem d_Net_init_39 : decode prog_5_method_1_code 39 = .ok (.aload_n 0, 1) := by decide +kernel
theorem d_Net_init_40 : decode prog_5_method_1_code 40 = .ok (.sipush 144, 3) := by decide +kernel
theorem d_Net_init_43 : decode prog_5_method_1_code 43 = .ok (.newarray .int, 2) := by decide +kernel
theorem d_Net_init_45 : decode prog_5_method_1_code 45 = .ok (.putfield 28, 3) := by decide +kernel
theorem d_Net_init_48 : decode prog_5_method_1_code 48 = .ok (.aload_n 0, 1) := by decide +kernel
theorem d_Net_init_49 : decode prog_5_method_1_code 49 = .ok (.sipush 144, 3) := by decide +kernel
theorem d_Net_init_52 : decode prog_5_method_1_code 52 = .ok (.newarray .int, 2) := by decide +kernel
theorem d_Net_init_54 : decode prog_5_method_1_code 54 = .ok (.putfield 31, 3) := by decide +kernel
theorem d_Net_init_57 : decode prog_5_method_1_code 57 = .ok (.aload_n 0, 1) := by decide +kernel
theorem d_Net_init_58 : decode prog_5_method_1_code 58 = .ok (.sipush 144, 3) := by decide +kernel
theorem d_Net_init_61 : decode prog_5_method_1_code 61 = .ok (.newarray .int, 2) := by decide +kernel
theorem d_Net_init_63 : decode prog_5_method_1_code 63 = .ok (.putfield 34, 3) := by decide +kernel
theorem d_Net_init_66 : decode prog_5_method_1_code 66 = .ok (.aload_n 0, 1) := by decide +kernel
theorem d_Net_init_67 : decode prog_5_method_1_code 67 = .ok (.sipush 144, 3) := by decide +kernel
theorem d_Net_init_70 : decode prog_5_method_1_code 70 = .ok (.newarray .int, 2) := by decide +kernel
theorem d_Net_init_72 : decode prog_5_method_1_code 72 = .ok (.putfield 37, 3) := by decide +kernel
theorem d_Net_init_75 : decode prog_5_method_1_code 75 = .ok (.aload_n 0, 1) := by decide +kernel
theorem d_Net_init_76 : decode prog_5_method_1_code 76 = .ok (.sipush 288, 3) := by decide +kernel
theorem d_Net_init_79 : decode prog_5_method_1_code 79 = .ok (.newarray .int, 2) := by decide +kernel
theorem d_Net_init_81 : decode prog_5_method_1_code 81 = .ok (.putfield 40, 3) := by decide +kernel
theorem d_Net_init_84 : decode prog_5_method_1_code 84 = .ok (.aload_n 0, 1) := by decide +kernel
theorem d_Net_init_85 : decode prog_5_method_1_code 85 = .ok (.sipush 288, 3) := by decide +kernel
theorem d_Net_init_88 : decode prog_5_method_1_code 88 = .ok (.newarray .int, 2) := by decide +kernel
theorem d_Net_init_90 : decode prog_5_method_1_code 90 = .ok (.putfield 43, 3) := by decide +kernel
theorem d_Net_init_93 : decode prog_5_method_1_code 93 = .ok (.aload_n 0, 1) := by decide +kernel
theorem d_Net_init_94 : decode prog_5_method_1_code 94 = .ok (.bipush 96, 2) := by decide +kernel
theorem d_Net_init_96 : decode prog_5_method_1_code 96 = .ok (.newarray .int, 2) := by decide +kernel
theorem d_Net_init_98 : decode prog_5_method_1_code 98 = .ok (.putfield 46, 3) := by decide +kernel
theorem d_Net_init_101 : decode prog_5_method_1_code 101 = .ok (.aload_n 0, 1) := by decide +kernel
theorem d_Net_init_102 : decode prog_5_method_1_code 102 = .ok (.bipush 96, 2) := by decide +kernel
theorem d_Net_init_104 : decode prog_5_method_1_code 104 = .ok (.newarray .int, 2) := by decide +kernel
theorem d_Net_init_106 : decode prog_5_method_1_code 106 = .ok (.putfield 49, 3) := by decide +kernel
theorem d_Net_init_109 : decode prog_5_method_1_code 109 = .ok (.aload_n 0, 1) := by decide +kernel
theorem d_Net_init_110 : decode prog_5_method_1_code 110 = .ok (.bipush 96, 2) := by decide +kernel
theorem d_Net_init_112 : decode prog_5_method_1_code 112 = .ok (.newarray .int, 2) := by decide +kernel
theorem d_Net_init_114 : decode prog_5_method_1_code 114 = .ok (.putfield 52, 3) := by decide +kernel
theorem d_Net_init_117 : decode prog_5_method_1_code 117 = .ok (.aload_n 0, 1) := by decide +kernel
theorem d_Net_init_118 : decode prog_5_method_1_code 118 = .ok (.bipush 96, 2) := by decide +kernel
theorem d_Net_init_120 : decode prog_5_method_1_code 120 = .ok (.newarray .int, 2) := by decide +kernel
theorem d_Net_init_122 : decode prog_5_method_1_code 122 = .ok (.putfield 55, 3) := by decide +kernel
theorem d_Net_init_125 : decode prog_5_method_1_code 125 = .ok (.aload_n 0, 1) := by decide +kernel
theorem d_Net_init_126 : decode prog_5_method_1_code 126 = .ok (.getfield 21, 3) := by decide +kernel
theorem d_Net_init_129 : decode prog_5_method_1_code 129 = .ok (.iconst 0, 1) := by decide +kernel
theorem d_Net_init_130 : decode prog_5_method_1_code 130 = .ok (.iconst 0, 1) := by decide +kernel
theorem d_Net_init_131 : decode prog_5_method_1_code 131 = .ok (.iastore, 1) := by decide +kernel
theorem d_Net_init_132 : decode prog_5_method_1_code 132 = .ok (.aload_n 0, 1) := by decide +kernel
theorem d_Net_init_133 : decode prog_5_method_1_code 133 = .ok (.getfield 28, 3) := by decide +kernel
theorem d_Net_init_136 : decode prog_5_method_1_code 136 = .ok (.iconst (-1), 1) := by decide +kernel
theorem d_Net_init_137 : decode prog_5_method_1_code 137 = .ok (.invokestatic 58, 3) := by decide +kernel
theorem d_Net_init_140 : decode prog_5_method_1_code 140 = .ok (.return_, 1) := by decide +kernel
theorem d_Net_add_0 : decode prog_5_method_2_code 0 = .ok (.aload_n 0, 1) := by decide +kernel
theorem d_Net_add_1 : decode prog_5_method_2_code 1 = .ok (.getfield 21, 3) := by decide +kernel
theorem d_Net_add_4 : decode prog_5_method_2_code 4 = .ok (.aload_n 0, 1) := by decide +kernel
theorem d_Net_add_5 : decode prog_5_method_2_code 5 = .ok (.getfield 18, 3) := by decide +kernel
theorem d_Net_add_8 : decode prog_5_method_2_code 8 = .ok (.iload_n 1, 1) := by decide +kernel
theorem d_Net_add_9 : decode prog_5_method_2_code 9 = .ok (.iastore, 1) := by decide +kernel
theorem d_Net_add_10 : decode prog_5_method_2_code 10 = .ok (.aload_n 0, 1) := by decide +kernel
theorem d_Net_add_11 : decode prog_5_method_2_code 11 = .ok (.getfield 25, 3) := by decide +kernel
theorem d_Net_add_14 : decode prog_5_method_2_code 14 = .ok (.aload_n 0, 1) := by decide +kernel
theorem d_Net_add_15 : decode prog_5_method_2_code 15 = .ok (.getfield 18, 3) := by decide +kernel
theorem d_Net_add_18 : decode prog_5_method_2_code 18 = .ok (.iload_n 2, 1) := by decide +kernel
theorem d_Net_add_19 : decode prog_5_method_2_code 19 = .ok (.iastore, 1) := by decide +kernel
theorem d_Net_add_20 : decode prog_5_method_2_code 20 = .ok (.aload_n 0, 1) := by decide +kernel
theorem d_Net_add_21 : decode prog_5_method_2_code 21 = .ok (.dup, 1) := by decide +kernel
theorem d_Net_add_22 : decode prog_5_method_2_code 22 = .ok (.getfield 18, 3) := by decide +kernel
theorem d_Net_add_25 : decode prog_5_method_2_code 25 = .ok (.iconst 1, 1) := by decide +kernel
theorem d_Net_add_26 : decode prog_5_method_2_code 26 = .ok (.iadd, 1) := by decide +kernel
theorem d_Net_add_27 : decode prog_5_method_2_code 27 = .ok (.putfield 18, 3) := by decide +kernel
theorem d_Net_add_30 : decode prog_5_method_2_code 30 = .ok (.aload_n 0, 1) := by decide +kernel
theorem d_Net_add_31 : decode prog_5_method_2_code 31 = .ok (.getfield 18, 3) := by decide +kernel
theorem d_Net_add_34 : decode prog_5_method_2_code 34 = .ok (.iconst 1, 1) := by decide +kernel
theorem d_Net_add_35 : decode prog_5_method_2_code 35 = .ok (.isub, 1) := by decide +kernel
theorem d_Net_add_36 : decode prog_5_method_2_code 36 = .ok (.ireturn, 1) := by decide +kernel
theorem d_Net_isNode_0 : decode prog_5_method_3_code 0 = .ok (.iload_n 1, 1) := by decide +kernel
theorem d_Net_isNode_1 : decode prog_5_method_3_code 1 = .ok (.iconst 0, 1) := by decide +kernel
theorem d_Net_isNode_2 : decode prog_5_method_3_code 2 = .ok (.aload_n 0, 1) := by decide +kernel
theorem d_Net_isNode_3 : decode prog_5_method_3_code 3 = .ok (.getfield 18, 3) := by decide +kernel
theorem d_Net_isNode_6 : decode prog_5_method_3_code 6 = .ok (.iconst 1, 1) := by decide +kernel
theorem d_Net_isNode_7 : decode prog_5_method_3_code 7 = .ok (.isub, 1) := by decide +kernel
theorem d_Net_isNode_8 : decode prog_5_method_3_code 8 = .ok (.invokestatic 64, 3) := by decide +kernel
theorem d_Net_isNode_11 : decode prog_5_method_3_code 11 = .ok (.ireturn, 1) := by decide +kernel
theorem d_Net_hasPin_0 : decode prog_5_method_4_code 0 = .ok (.aload_n 0, 1) := by decide +kernel
theorem d_Net_hasPin_1 : decode prog_5_method_4_code 1 = .ok (.iload_n 1, 1) := by decide +kernel
theorem d_Net_hasPin_2 : decode prog_5_method_4_code 2 = .ok (.invokevirtual 68, 3) := by decide +kernel
theorem d_Net_hasPin_5 : decode prog_5_method_4_code 5 = .ok (.ifCond .eq 23, 3) := by decide +kernel
theorem d_Net_hasPin_8 : decode prog_5_method_4_code 8 = .ok (.iload_n 2, 1) := by decide +kernel
theorem d_Net_hasPin_9 : decode prog_5_method_4_code 9 = .ok (.iconst 0, 1) := by decide +kernel
theorem d_Net_hasPin_10 : decode prog_5_method_4_code 10 = .ok (.aload_n 0, 1) := by decide +kernel
theorem d_Net_hasPin_11 : decode prog_5_method_4_code 11 = .ok (.getfield 25, 3) := by decide +kernel
theorem d_Net_hasPin_14 : decode prog_5_method_4_code 14 = .ok (.iload_n 1, 1) := by decide +kernel
theorem d_Net_hasPin_15 : decode prog_5_method_4_code 15 = .ok (.iaload, 1) := by decide +kernel
theorem d_Net_hasPin_16 : decode prog_5_method_4_code 16 = .ok (.iconst 1, 1) := by decide +kernel
theorem d_Net_hasPin_17 : decode prog_5_method_4_code 17 = .ok (.isub, 1) := by decide +kernel
theorem d_Net_hasPin_18 : decode prog_5_method_4_code 18 = .ok (.invokestatic 64, 3) := by decide +kernel
theorem d_Net_hasPin_21 : decode prog_5_method_4_code 21 = .ok (.ifCond .eq 7, 3) := by decide +kernel
theorem d_Net_hasPin_24 : decode prog_5_method_4_code 24 = .ok (.iconst 1, 1) := by decide +kernel
theorem d_Net_hasPin_25 : decode prog_5_method_4_code 25 = .ok (.goto 4, 3) := by decide +kernel
theorem d_Net_hasPin_28 : decode prog_5_method_4_code 28 = .ok (.iconst 0, 1) := by decide +kernel
theorem d_Net_hasPin_29 : decode prog_5_method_4_code 29 = .ok (.ireturn, 1) := by decide +kernel
theorem d_Net_hasDelay_0 : decode prog_5_method_5_code 0 = .ok (.aload_n 0, 1) := by decide +kernel
theorem d_Net_hasDelay_1 : decode prog_5_method_5_code 1 = .ok (.iload_n 1, 1) := by decide +kernel
theorem d_Net_hasDelay_2 : decode prog_5_method_5_code 2 = .ok (.iload_n 2, 1) := by decide +kernel
theorem d_Net_hasDelay_3 : decode prog_5_method_5_code 3 = .ok (.invokevirtual 72, 3) := by decide +kernel
theorem d_Net_hasDelay_6 : decode prog_5_method_5_code 6 = .ok (.ifCond .eq 32, 3) := by decide +kernel
theorem d_Net_hasDelay_9 : decode prog_5_method_5_code 9 = .ok (.aload_n 0, 1) := by decide +kernel
theorem d_Net_hasDelay_10 : decode prog_5_method_5_code 10 = .ok (.getfield 21, 3) := by decide +kernel
theorem d_Net_hasDelay_13 : decode prog_5_method_5_code 13 = .ok (.iload_n 1, 1) := by decide +kernel
theorem d_Net_hasDelay_14 : decode prog_5_method_5_code 14 = .ok (.iaload, 1) := by decide +kernel
theorem d_Net_hasDelay_15 : decode prog_5_method_5_code 15 = .ok (.iconst 2, 1) := by decide +kernel
theorem d_Net_hasDelay_16 : decode prog_5_method_5_code 16 = .ok (.if_icmp .eq 18, 3) := by decide +kernel
theorem d_Net_hasDelay_19 : decode prog_5_method_5_code 19 = .ok (.aload_n 0, 1) := by decide +kernel
theorem d_Net_hasDelay_20 : decode prog_5_method_5_code 20 = .ok (.getfield 21, 3) := by decide +kernel
theorem d_Net_hasDelay_23 : decode prog_5_method_5_code 23 = .ok (.iload_n 1, 1) := by decide +kernel
theorem d_Net_hasDelay_24 : decode prog_5_method_5_code 24 = .ok (.iaload, 1) := by decide +kernel
theorem d_Net_hasDelay_25 : decode prog_5_method_5_code 25 = .ok (.iconst 3, 1) := by decide +kernel
theorem d_Net_hasDelay_26 : decode prog_5_method_5_code 26 = .ok (.if_icmp .ne 12, 3) := by decide +kernel
theorem d_Net_hasDelay_29 : decode prog_5_method_5_code 29 = .ok (.iload_n 2, 1) := by decide +kernel
theorem d_Net_hasDelay_30 : decode prog_5_method_5_code 30 = .ok (.iconst 1, 1) := by decide +kernel
theorem d_Net_hasDelay_31 : decode prog_5_method_5_code 31 = .ok (.if_icmp .ne 7, 3) := by decide +kernel
theorem d_Net_hasDelay_34 : decode prog_5_method_5_code 34 = .ok (.iconst 1, 1) := by decide +kernel
theorem d_Net_hasDelay_35 : decode prog_5_method_5_code 35 = .ok (.goto 4, 3) := by decide +kernel
theorem d_Net_hasDelay_38 : decode prog_5_method_5_code 38 = .ok (.iconst 0, 1) := by decide +kernel
theorem d_Net_hasDelay_39 : decode prog_5_method_5_code 39 = .ok (.ireturn, 1) := by decide +kernel
theorem d_Net_maySend_0 : decode prog_5_method_6_code 0 = .ok (.aload_n 0, 1) := by decide +kernel
theorem d_Net_maySend_1 : decode prog_5_method_6_code 1 = .ok (.iload_n 1, 1) := by decide +kernel
theorem d_Net_maySend_2 : decode prog_5_method_6_code 2 = .ok (.invokevirtual 68, 3) := by decide +kernel
theorem d_Net_maySend_5 : decode prog_5_method_6_code 5 = .ok (.ifCond .eq 17, 3) := by decide +kernel
theorem d_Net_maySend_8 : decode prog_5_method_6_code 8 = .ok (.aload_n 0, 1) := by decide +kernel
theorem d_Net_maySend_9 : decode prog_5_method_6_code 9 = .ok (.getfield 21, 3) := by decide +kernel
theorem d_Net_maySend_12 : decode prog_5_method_6_code 12 = .ok (.iload_n 1, 1) := by decide +kernel
theorem d_Net_maySend_13 : decode prog_5_method_6_code 13 = .ok (.iaload, 1) := by decide +kernel
theorem d_Net_maySend_14 : decode prog_5_method_6_code 14 = .ok (.iconst 4, 1) := by decide +kernel
theorem d_Net_maySend_15 : decode prog_5_method_6_code 15 = .ok (.if_icmp .eq 7, 3) := by decide +kernel
theorem d_Net_maySend_18 : decode prog_5_method_6_code 18 = .ok (.iconst 1, 1) := by decide +kernel
theorem d_Net_maySend_19 : decode prog_5_method_6_code 19 = .ok (.goto 4, 3) := by decide +kernel
theorem d_Net_maySend_22 : decode prog_5_method_6_code 22 = .ok (.iconst 0, 1) := by decide +kernel
theorem d_Net_maySend_23 : decode prog_5_method_6_code 23 = .ok (.ireturn, 1) := by decide +kernel
theorem d_Net_isStart_0 : decode prog_5_method_7_code 0 = .ok (.aload_n 0, 1) := by decide +kernel
theorem d_Net_isStart_1 : decode prog_5_method_7_code 1 = .ok (.iload_n 1, 1) := by decide +kernel
theorem d_Net_isStart_2 : decode prog_5_method_7_code 2 = .ok (.invokevirtual 68, 3) := by decide +kernel
theorem d_Net_isStart_5 : decode prog_5_method_7_code 5 = .ok (.ifCond .eq 27, 3) := by decide +kernel
theorem d_Net_isStart_8 : decode prog_5_method_7_code 8 = .ok (.aload_n 0, 1) := by decide +kernel
theorem d_Net_isStart_9 : decode prog_5_method_7_code 9 = .ok (.getfield 21, 3) := by decide +kernel
theorem d_Net_isStart_12 : decode prog_5_method_7_code 12 = .ok (.iload_n 1, 1) := by decide +kernel
theorem d_Net_isStart_13 : decode prog_5_method_7_code 13 = .ok (.iaload, 1) := by decide +kernel
theorem d_Net_isStart_14 : decode prog_5_method_7_code 14 = .ok (.iconst 1, 1) := by decide +kernel
theorem d_Net_isStart_15 : decode prog_5_method_7_code 15 = .ok (.if_icmp .eq 13, 3) := by decide +kernel
theorem d_Net_isStart_18 : decode prog_5_method_7_code 18 = .ok (.aload_n 0, 1) := by decide +kernel
theorem d_Net_isStart_19 : decode prog_5_method_7_code 19 = .ok (.getfield 21, 3) := by decide +kernel
theorem d_Net_isStart_22 : decode prog_5_method_7_code 22 = .ok (.iload_n 1, 1) := by decide +kernel
theorem d_Net_isStart_23 : decode prog_5_method_7_code 23 = .ok (.iaload, 1) := by decide +kernel
theorem d_Net_isStart_24 : decode prog_5_method_7_code 24 = .ok (.iconst 3, 1) := by decide +kernel
theorem d_Net_isStart_25 : decode prog_5_method_7_code 25 = .ok (.if_icmp .ne 7, 3) := by decide +kernel
theorem d_Net_isStart_28 : decode prog_5_method_7_code 28 = .ok (.iconst 1, 1) := by decide +kernel
theorem d_Net_isStart_29 : decode prog_5_method_7_code 29 = .ok (.goto 4, 3) := by decide +kernel
theorem d_Net_isStart_32 : decode prog_5_method_7_code 32 = .ok (.iconst 0, 1) := by decide +kernel
theorem d_Net_isStart_33 : decode prog_5_method_7_code 33 = .ok (.ireturn, 1) := by decide +kernel
theorem d_Net_isEnd_0 : decode prog_5_method_8_code 0 = .ok (.aload_n 0, 1) := by decide +kernel
theorem d_Net_isEnd_1 : decode prog_5_method_8_code 1 = .ok (.iload_n 1, 1) := by decide +kernel
theorem d_Net_isEnd_2 : decode prog_5_method_8_code 2 = .ok (.invokevirtual 68, 3) := by decide +kernel
theorem d_Net_isEnd_5 : decode prog_5_method_8_code 5 = .ok (.ifCond .eq 27, 3) := by decide +kernel
theorem d_Net_isEnd_8 : decode prog_5_method_8_code 8 = .ok (.aload_n 0, 1) := by decide +kernel
theorem d_Net_isEnd_9 : decode prog_5_method_8_code 9 = .ok (.getfield 21, 3) := by decide +kernel
theorem d_Net_isEnd_12 : decode prog_5_method_8_code 12 = .ok (.iload_n 1, 1) := by decide +kernel
theorem d_Net_isEnd_13 : decode prog_5_method_8_code 13 = .ok (.iaload, 1) := by decide +kernel
theorem d_Net_isEnd_14 : decode prog_5_method_8_code 14 = .ok (.iconst 4, 1) := by decide +kernel
theorem d_Net_isEnd_15 : decode prog_5_method_8_code 15 = .ok (.if_icmp .eq 13, 3) := by decide +kernel
theorem d_Net_isEnd_18 : decode prog_5_method_8_code 18 = .ok (.aload_n 0, 1) := by decide +kernel
theorem d_Net_isEnd_19 : decode prog_5_method_8_code 19 = .ok (.getfield 21, 3) := by decide +kernel
theorem d_Net_isEnd_22 : decode prog_5_method_8_code 22 = .ok (.iload_n 1, 1) := by decide +kernel
theorem d_Net_isEnd_23 : decode prog_5_method_8_code 23 = .ok (.iaload, 1) := by decide +kernel
theorem d_Net_isEnd_24 : decode prog_5_method_8_code 24 = .ok (.iconst 3, 1) := by decide +kernel
theorem d_Net_isEnd_25 : decode prog_5_method_8_code 25 = .ok (.if_icmp .ne 7, 3) := by decide +kernel
theorem d_Net_isEnd_28 : decode prog_5_method_8_code 28 = .ok (.iconst 1, 1) := by decide +kernel
theorem d_Net_isEnd_29 : decode prog_5_method_8_code 29 = .ok (.goto 4, 3) := by decide +kernel
theorem d_Net_isEnd_32 : decode prog_5_method_8_code 32 = .ok (.iconst 0, 1) := by decide +kernel
theorem d_Net_isEnd_33 : decode prog_5_method_8_code 33 = .ok (.ireturn, 1) := by decide +kernel
theorem d_Net_setWire_0 : decode prog_5_method_9_code 0 = .ok (.aload_n 0, 1) := by decide +kernel
theorem d_Net_setWire_1 : decode prog_5_method_9_code 1 = .ok (.getfield 28, 3) := by decide +kernel
theorem d_Net_setWire_4 : decode prog_5_method_9_code 4 = .ok (.iload_n 1, 1) := by decide +kernel
theorem d_Net_setWire_5 : decode prog_5_method_9_code 5 = .ok (.iload_n 2, 1) := by decide +kernel
theorem d_Net_setWire_6 : decode prog_5_method_9_code 6 = .ok (.iastore, 1) := by decide +kernel
theorem d_Net_setWire_7 : decode prog_5_method_9_code 7 = .ok (.aload_n 0, 1) := by decide +kernel
theorem d_Net_setWire_8 : decode prog_5_method_9_code 8 = .ok (.getfield 31, 3) := by decide +kernel
theorem d_Net_setWire_11 : decode prog_5_method_9_code 11 = .ok (.iload_n 1, 1) := by decide +kernel
theorem d_Net_setWire_12 : decode prog_5_method_9_code 12 = .ok (.iload_n 3, 1) := by decide +kernel
theorem d_Net_setWire_13 : decode prog_5_method_9_code 13 = .ok (.iastore, 1) := by decide +kernel
theorem d_Net_setWire_14 : decode prog_5_method_9_code 14 = .ok (.aload_n 0, 1) := by decide +kernel
theorem d_Net_setWire_15 : decode prog_5_method_9_code 15 = .ok (.getfield 34, 3) := by decide +kernel
theorem d_Net_setWire_18 : decode prog_5_method_9_code 18 = .ok (.iload_n 1, 1) := by decide +kernel
theorem d_Net_setWire_19 : decode prog_5_method_9_code 19 = .ok (.iload 4, 2) := by decide +kernel
theorem d_Net_setWire_21 : decode prog_5_method_9_code 21 = .ok (.iastore, 1) := by decide +kernel
theorem d_Net_setWire_22 : decode prog_5_method_9_code 22 = .ok (.return_, 1) := by decide +kernel
theorem d_Net_setGateDelay_0 : decode prog_5_method_10_code 0 = .ok (.aload_n 0, 1) := by decide +kernel
theorem d_Net_setGateDelay_1 : decode prog_5_method_10_code 1 = .ok (.getfield 40, 3) := by decide +kernel
theorem d_Net_setGateDelay_4 : decode prog_5_method_10_code 4 = .ok (.iconst 2, 1) := by decide +kernel
theorem d_Net_setGateDelay_5 : decode prog_5_method_10_code 5 = .ok (.iload_n 1, 1) := by decide +kernel
theorem d_Net_setGateDelay_6 : decode prog_5_method_10_code 6 = .ok (.imul, 1) := by decide +kernel
theorem d_Net_setGateDelay_7 : decode prog_5_method_10_code 7 = .ok (.iload_n 2, 1) := by decide +kernel
theorem d_Net_setGateDelay_8 : decode prog_5_method_10_code 8 = .ok (.iadd, 1) := by decide +kernel
theorem d_Net_setGateDelay_9 : decode prog_5_method_10_code 9 = .ok (.iload_n 3, 1) := by decide +kernel
theorem d_Net_setGateDelay_10 : decode prog_5_method_10_code 10 = .ok (.iastore, 1) := by decide +kernel
theorem d_Net_setGateDelay_11 : decode prog_5_method_10_code 11 = .ok (.aload_n 0, 1) := by decide +kernel
theorem d_Net_setGateDelay_12 : decode prog_5_method_10_code 12 = .ok (.getfield 43, 3) := by decide +kernel
theorem d_Net_setGateDelay_15 : decode prog_5_method_10_code 15 = .ok (.iconst 2, 1) := by decide +kernel
theorem d_Net_setGateDelay_16 : decode prog_5_method_10_code 16 = .ok (.iload_n 1, 1) := by decide +kernel
theorem d_Net_setGateDelay_17 : decode prog_5_method_10_code 17 = .ok (.imul, 1) := by decide +kernel
theorem d_Net_setGateDelay_18 : decode prog_5_method_10_code 18 = .ok (.iload_n 2, 1) := by decide +kernel
theorem d_Net_setGateDelay_19 : decode prog_5_method_10_code 19 = .ok (.iadd, 1) := by decide +kernel
theorem d_Net_setGateDelay_20 : decode prog_5_method_10_code 20 = .ok (.iload 4, 2) := by decide +kernel
theorem d_Net_setGateDelay_22 : decode prog_5_method_10_code 22 = .ok (.iastore, 1) := by decide +kernel
theorem d_Net_setGateDelay_23 : decode prog_5_method_10_code 23 = .ok (.return_, 1) := by decide +kernel
theorem d_Net_setStart_0 : decode prog_5_method_11_code 0 = .ok (.aload_n 0, 1) := by decide +kernel
theorem d_Net_setStart_1 : decode prog_5_method_11_code 1 = .ok (.getfield 46, 3) := by decide +kernel
theorem d_Net_setStart_4 : decode prog_5_method_11_code 4 = .ok (.iconst 2, 1) := by decide +kernel
theorem d_Net_setStart_5 : decode prog_5_method_11_code 5 = .ok (.iload_n 1, 1) := by decide +kernel
theorem d_Net_setStart_6 : decode prog_5_method_11_code 6 = .ok (.imul, 1) := by decide +kernel
theorem d_Net_setStart_7 : decode prog_5_method_11_code 7 = .ok (.iload_n 2, 1) := by decide +kernel
theorem d_Net_setStart_8 : decode prog_5_method_11_code 8 = .ok (.iadd, 1) := by decide +kernel
theorem d_Net_setStart_9 : decode prog_5_method_11_code 9 = .ok (.iload_n 3, 1) := by decide +kernel
theorem d_Net_setStart_10 : decode prog_5_method_11_code 10 = .ok (.iastore, 1) := by decide +kernel
theorem d_Net_setStart_11 : decode prog_5_method_11_code 11 = .ok (.aload_n 0, 1) := by decide +kernel
theorem d_Net_setStart_12 : decode prog_5_method_11_code 12 = .ok (.getfield 49, 3) := by decide +kernel
theorem d_Net_setStart_15 : decode prog_5_method_11_code 15 = .ok (.iconst 2, 1) := by decide +kernel
theorem d_Net_setStart_16 : decode prog_5_method_11_code 16 = .ok (.iload_n 1, 1) := by decide +kernel
theorem d_Net_setStart_17 : decode prog_5_method_11_code 17 = .ok (.imul, 1) := by decide +kernel
theorem d_Net_setStart_18 : decode prog_5_method_11_code 18 = .ok (.iload_n 2, 1) := by decide +kernel
theorem d_Net_setStart_19 : decode prog_5_method_11_code 19 = .ok (.iadd, 1) := by decide +kernel
theorem d_Net_setStart_20 : decode prog_5_method_11_code 20 = .ok (.iload 4, 2) := by decide +kernel
theorem d_Net_setStart_22 : decode prog_5_method_11_code 22 = .ok (.iastore, 1) := by decide +kernel
theorem d_Net_setStart_23 : decode prog_5_method_11_code 23 = .ok (.return_, 1) := by decide +kernel
theorem d_Net_lets_0 : decode prog_5_method_12_code 0 = .ok (.aload_n 0, 1) := by decide +kernel
theorem d_Net_lets_1 : decode prog_5_method_12_code 1 = .ok (.getfield 37, 3) := by decide +kernel
theorem d_Net_lets_4 : decode prog_5_method_12_code 4 = .ok (.iload_n 1, 1) := by decide +kernel
theorem d_Net_lets_5 : decode prog_5_method_12_code 5 = .ok (.iaload, 1) := by decide +kernel
theorem d_Net_lets_6 : decode prog_5_method_12_code 6 = .ok (.iconst 2, 1) := by decide +kernel
theorem d_Net_lets_7 : decode prog_5_method_12_code 7 = .ok (.if_icmp .ne 5, 3) := by decide +kernel
theorem d_Net_lets_10 : decode prog_5_method_12_code 10 = .ok (.iconst 1, 1) := by decide +kernel
theorem d_Net_lets_11 : decode prog_5_method_12_code 11 = .ok (.ireturn, 1) := by decide +kernel
theorem d_Net_lets_12 : decode prog_5_method_12_code 12 = .ok (.aload_n 0, 1) := by decide +kernel
theorem d_Net_lets_13 : decode prog_5_method_12_code 13 = .ok (.getfield 37, 3) := by decide +kernel
theorem d_Net_lets_16 : decode prog_5_method_12_code 16 = .ok (.iload_n 1, 1) := by decide +kernel
theorem d_Net_lets_17 : decode prog_5_method_12_code 17 = .ok (.iaload, 1) := by decide +kernel
theorem d_Net_lets_18 : decode prog_5_method_12_code 18 = .ok (.iconst 1, 1) := by decide +kernel
theorem d_Net_lets_19 : decode prog_5_method_12_code 19 = .ok (.if_icmp .ne 7, 3) := by decide +kernel
theorem d_Net_lets_22 : decode prog_5_method_12_code 22 = .ok (.iconst 1, 1) := by decide +kernel
theorem d_Net_lets_23 : decode prog_5_method_12_code 23 = .ok (.goto 4, 3) := by decide +kernel
theorem d_Net_lets_26 : decode prog_5_method_12_code 26 = .ok (.iconst 0, 1) := by decide +kernel
theorem d_Net_lets_27 : decode prog_5_method_12_code 27 = .ok (.iload_n 2, 1) := by decide +kernel
theorem d_Net_lets_28 : decode prog_5_method_12_code 28 = .ok (.iload_n 3, 1) := by decide +kernel
theorem d_Net_lets_29 : decode prog_5_method_12_code 29 = .ok (.if_icmp .eq 7, 3) := by decide +kernel
theorem d_Net_lets_32 : decode prog_5_method_12_code 32 = .ok (.iconst 1, 1) := by decide +kernel
theorem d_Net_lets_33 : decode prog_5_method_12_code 33 = .ok (.goto 4, 3) := by decide +kernel
theorem d_Net_lets_36 : decode prog_5_method_12_code 36 = .ok (.iconst 0, 1) := by decide +kernel
theorem d_Net_lets_37 : decode prog_5_method_12_code 37 = .ok (.if_icmp .ne 7, 3) := by decide +kernel
theorem d_Net_lets_40 : decode prog_5_method_12_code 40 = .ok (.iconst 1, 1) := by decide +kernel
theorem d_Net_lets_41 : decode prog_5_method_12_code 41 = .ok (.goto 4, 3) := by decide +kernel
theorem d_Net_lets_44 : decode prog_5_method_12_code 44 = .ok (.iconst 0, 1) := by decide +kernel
theorem d_Net_lets_45 : decode prog_5_method_12_code 45 = .ok (.ireturn, 1) := by decide +kernel
theorem d_Net_stepEarly_0 : decode prog_5_method_13_code 0 = .ok (.aload_n 0, 1) := by decide +kernel
theorem d_Net_stepEarly_1 : decode prog_5_method_13_code 1 = .ok (.getfield 31, 3) := by decide +kernel
theorem d_Net_stepEarly_4 : decode prog_5_method_13_code 4 = .ok (.iload_n 1, 1) := by decide +kernel
theorem d_Net_stepEarly_5 : decode prog_5_method_13_code 5 = .ok (.iaload, 1) := by decide +kernel
theorem d_Net_stepEarly_6 : decode prog_5_method_13_code 6 = .ok (.aload_n 0, 1) := by decide +kernel
theorem d_Net_stepEarly_7 : decode prog_5_method_13_code 7 = .ok (.getfield 40, 3) := by decide +kernel
theorem d_Net_stepEarly_10 : decode prog_5_method_13_code 10 = .ok (.iconst 2, 1) := by decide +kernel
theorem d_Net_stepEarly_11 : decode prog_5_method_13_code 11 = .ok (.iload_n 1, 1) := by decide +kernel
theorem d_Net_stepEarly_12 : decode prog_5_method_13_code 12 = .ok (.imul, 1) := by decide +kernel
theorem d_Net_stepEarly_13 : decode prog_5_method_13_code 13 = .ok (.iload_n 2, 1) := by decide +kernel
theorem d_Net_stepEarly_14 : decode prog_5_method_13_code 14 = .ok (.iadd, 1) := by decide +kernel
theorem d_Net_stepEarly_15 : decode prog_5_method_13_code 15 = .ok (.iaload, 1) := by decide +kernel
theorem d_Net_stepEarly_16 : decode prog_5_method_13_code 16 = .ok (.iadd, 1) := by decide +kernel
theorem d_Net_stepEarly_17 : decode prog_5_method_13_code 17 = .ok (.ireturn, 1) := by decide +kernel
theorem d_Net_stepLate_0 : decode prog_5_method_14_code 0 = .ok (.aload_n 0, 1) := by decide +kernel
theorem d_Net_stepLate_1 : decode prog_5_method_14_code 1 = .ok (.getfield 34, 3) := by decide +kernel
theorem d_Net_stepLate_4 : decode prog_5_method_14_code 4 = .ok (.iload_n 1, 1) := by decide +kernel
theorem d_Net_stepLate_5 : decode prog_5_method_14_code 5 = .ok (.iaload, 1) := by decide +kernel
theorem d_Net_stepLate_6 : decode prog_5_method_14_code 6 = .ok (.aload_n 0, 1) := by decide +kernel
theorem d_Net_stepLate_7 : decode prog_5_method_14_code 7 = .ok (.getfield 43, 3) := by decide +kernel
theorem d_Net_stepLate_10 : decode prog_5_method_14_code 10 = .ok (.iconst 2, 1) := by decide +kernel
theorem d_Net_stepLate_11 : decode prog_5_method_14_code 11 = .ok (.iload_n 1, 1) := by decide +kernel
theorem d_Net_stepLate_12 : decode prog_5_method_14_code 12 = .ok (.imul, 1) := by decide +kernel
theorem d_Net_stepLate_13 : decode prog_5_method_14_code 13 = .ok (.iload_n 2, 1) := by decide +kernel
theorem d_Net_stepLate_14 : decode prog_5_method_14_code 14 = .ok (.iadd, 1) := by decide +kernel
theorem d_Net_stepLate_15 : decode prog_5_method_14_code 15 = .ok (.iaload, 1) := by decide +kernel
theorem d_Net_stepLate_16 : decode prog_5_method_14_code 16 = .ok (.iadd, 1) := by decide +kernel
theorem d_Net_stepLate_17 : decode prog_5_method_14_code 17 = .ok (.ireturn, 1) := by decide +kernel
