theorem d_PathList_init_0 : decode prog_6_method_1_code 0 = .ok (.aload_n 0, 1) := by decide +kernel
theorem d_PathList_init_1 : decode prog_6_method_1_code 1 = .ok (.invokespecial 3, 3) := by decide +kernel
theorem d_PathList_init_4 : decode prog_6_method_1_code 4 = .ok (.aload_n 0, 1) := by decide +kernel
theorem d_PathList_init_5 : decode prog_6_method_1_code 5 = .ok (.bipush 20, 2) := by decide +kernel
theorem d_PathList_init_7 : decode prog_6_method_1_code 7 = .ok (.newarray .int, 2) := by decide +kernel
theorem d_PathList_init_9 : decode prog_6_method_1_code 9 = .ok (.putfield 9, 3) := by decide +kernel
theorem d_PathList_init_12 : decode prog_6_method_1_code 12 = .ok (.aload_n 0, 1) := by decide +kernel
theorem d_PathList_init_13 : decode prog_6_method_1_code 13 = .ok (.bipush 20, 2) := by decide +kernel
theorem d_PathList_init_15 : decode prog_6_method_1_code 15 = .ok (.newarray .int, 2) := by decide +kernel
theorem d_PathList_init_17 : decode prog_6_method_1_code 17 = .ok (.putfield 15, 3) := by decide +kernel
theorem d_PathList_init_20 : decode prog_6_method_1_code 20 = .ok (.aload_n 0, 1) := by decide +kernel
theorem d_PathList_init_21 : decode prog_6_method_1_code 21 = .ok (.bipush 20, 2) := by decide +kernel
theorem d_PathList_init_23 : decode prog_6_method_1_code 23 = .ok (.newarray .int, 2) := by decide +kernel
theorem d_PathList_init_25 : decode prog_6_method_1_code 25 = .ok (.putfield 18, 3) := by decide +kernel
theorem d_PathList_init_28 : decode prog_6_method_1_code 28 = .ok (.aload_n 0, 1) := by decide +kernel
theorem d_PathList_init_29 : decode prog_6_method_1_code 29 = .ok (.sipush 2880, 3) := by decide +kernel
theorem d_PathList_init_32 : decode prog_6_method_1_code 32 = .ok (.newarray .int, 2) := by decide +kernel
theorem d_PathList_init_34 : decode prog_6_method_1_code 34 = .ok (.putfield 21, 3) := by decide +kernel
theorem d_PathList_init_37 : decode prog_6_method_1_code 37 = .ok (.return_, 1) := by decide +kernel
theorem d_PathList_slackOf_0 : decode prog_6_method_2_code 0 = .ok (.iload_n 1, 1) := by decide +kernel
theorem d_PathList_slackOf_1 : decode prog_6_method_2_code 1 = .ok (.aload_n 0, 1) := by decide +kernel
theorem d_PathList_slackOf_2 : decode prog_6_method_2_code 2 = .ok (.getfield 24, 3) := by decide +kernel
theorem d_PathList_slackOf_5 : decode prog_6_method_2_code 5 = .ok (.if_icmp .ge 17, 3) := by decide +kernel
theorem d_PathList_slackOf_8 : decode prog_6_method_2_code 8 = .ok (.aload_n 0, 1) := by decide +kernel
theorem d_PathList_slackOf_9 : decode prog_6_method_2_code 9 = .ok (.getfield 15, 3) := by decide +kernel
theorem d_PathList_slackOf_12 : decode prog_6_method_2_code 12 = .ok (.aload_n 0, 1) := by decide +kernel
theorem d_PathList_slackOf_13 : decode prog_6_method_2_code 13 = .ok (.getfield 9, 3) := by decide +kernel
theorem d_PathList_slackOf_16 : decode prog_6_method_2_code 16 = .ok (.iload_n 1, 1) := by decide +kernel
theorem d_PathList_slackOf_17 : decode prog_6_method_2_code 17 = .ok (.iaload, 1) := by decide +kernel
theorem d_PathList_slackOf_18 : decode prog_6_method_2_code 18 = .ok (.iaload, 1) := by decide +kernel
theorem d_PathList_slackOf_19 : decode prog_6_method_2_code 19 = .ok (.goto 5, 3) := by decide +kernel
theorem d_PathList_slackOf_22 : decode prog_6_method_2_code 22 = .ok (.ldc 28, 2) := by decide +kernel
theorem d_PathList_slackOf_24 : decode prog_6_method_2_code 24 = .ok (.ireturn, 1) := by decide +kernel
theorem d_PathList_elementAt_0 : decode prog_6_method_3_code 0 = .ok (.iload_n 1, 1) := by decide +kernel
theorem d_PathList_elementAt_1 : decode prog_6_method_3_code 1 = .ok (.aload_n 0, 1) := by decide +kernel
theorem d_PathList_elementAt_2 : decode prog_6_method_3_code 2 = .ok (.getfield 24, 3) := by decide +kernel
theorem d_PathList_elementAt_5 : decode prog_6_method_3_code 5 = .ok (.if_icmp .ge 22, 3) := by decide +kernel
theorem d_PathList_elementAt_8 : decode prog_6_method_3_code 8 = .ok (.iload_n 2, 1) := by decide +kernel
theorem d_PathList_elementAt_9 : decode prog_6_method_3_code 9 = .ok (.ifCond .lt 18, 3) := by decide +kernel
theorem d_PathList_elementAt_12 : decode prog_6_method_3_code 12 = .ok (.iload_n 2, 1) := by decide +kernel
theorem d_PathList_elementAt_13 : decode prog_6_method_3_code 13 = .ok (.aload_n 0, 1) := by decide +kernel
theorem d_PathList_elementAt_14 : decode prog_6_method_3_code 14 = .ok (.getfield 18, 3) := by decide +kernel
theorem d_PathList_elementAt_17 : decode prog_6_method_3_code 17 = .ok (.aload_n 0, 1) := by decide +kernel
theorem d_PathList_elementAt_18 : decode prog_6_method_3_code 18 = .ok (.getfield 9, 3) := by decide +kernel
theorem d_PathList_elementAt_21 : decode prog_6_method_3_code 21 = .ok (.iload_n 1, 1) := by decide +kernel
theorem d_PathList_elementAt_22 : decode prog_6_method_3_code 22 = .ok (.iaload, 1) := by decide +kernel
theorem d_PathList_elementAt_23 : decode prog_6_method_3_code 23 = .ok (.iaload, 1) := by decide +kernel
theorem d_PathList_elementAt_24 : decode prog_6_method_3_code 24 = .ok (.if_icmp .lt 5, 3) := by decide +kernel
theorem d_PathList_elementAt_27 : decode prog_6_method_3_code 27 = .ok (.iconst (-1), 1) := by decide +kernel
theorem d_PathList_elementAt_28 : decode prog_6_method_3_code 28 = .ok (.ireturn, 1) := by decide +kernel
theorem d_PathList_elementAt_29 : decode prog_6_method_3_code 29 = .ok (.aload_n 0, 1) := by decide +kernel
theorem d_PathList_elementAt_30 : decode prog_6_method_3_code 30 = .ok (.getfield 21, 3) := by decide +kernel
theorem d_PathList_elementAt_33 : decode prog_6_method_3_code 33 = .ok (.aload_n 0, 1) := by decide +kernel
theorem d_PathList_elementAt_34 : decode prog_6_method_3_code 34 = .ok (.getfield 9, 3) := by decide +kernel
theorem d_PathList_elementAt_37 : decode prog_6_method_3_code 37 = .ok (.iload_n 1, 1) := by decide +kernel
theorem d_PathList_elementAt_38 : decode prog_6_method_3_code 38 = .ok (.iaload, 1) := by decide +kernel
theorem d_PathList_elementAt_39 : decode prog_6_method_3_code 39 = .ok (.sipush 144, 3) := by decide +kernel
theorem d_PathList_elementAt_42 : decode prog_6_method_3_code 42 = .ok (.imul, 1) := by decide +kernel
theorem d_PathList_elementAt_43 : decode prog_6_method_3_code 43 = .ok (.iload_n 2, 1) := by decide +kernel
theorem d_PathList_elementAt_44 : decode prog_6_method_3_code 44 = .ok (.iadd, 1) := by decide +kernel
theorem d_PathList_elementAt_45 : decode prog_6_method_3_code 45 = .ok (.iaload, 1) := by decide +kernel
theorem d_PathList_elementAt_46 : decode prog_6_method_3_code 46 = .ok (.ireturn, 1) := by decide +kernel
theorem d_PathList_mayTake_0 : decode prog_6_method_4_code 0 = .ok (.aload_n 0, 1) := by decide +kernel
theorem d_PathList_mayTake_1 : decode prog_6_method_4_code 1 = .ok (.getfield 24, 3) := by decide +kernel
theorem d_PathList_mayTake_4 : decode prog_6_method_4_code 4 = .ok (.bipush 20, 2) := by decide +kernel
theorem d_PathList_mayTake_6 : decode prog_6_method_4_code 6 = .ok (.if_icmp .lt 19, 3) := by decide +kernel
theorem d_PathList_mayTake_9 : decode prog_6_method_4_code 9 = .ok (.iload_n 1, 1) := by decide +kernel
theorem d_PathList_mayTake_10 : decode prog_6_method_4_code 10 = .ok (.aload_n 0, 1) := by decide +kernel
theorem d_PathList_mayTake_11 : decode prog_6_method_4_code 11 = .ok (.getfield 15, 3) := by decide +kernel
theorem d_PathList_mayTake_14 : decode prog_6_method_4_code 14 = .ok (.aload_n 0, 1) := by decide +kernel
theorem d_PathList_mayTake_15 : decode prog_6_method_4_code 15 = .ok (.getfield 9, 3) := by decide +kernel
theorem d_PathList_mayTake_18 : decode prog_6_method_4_code 18 = .ok (.bipush 19, 2) := by decide +kernel
theorem d_PathList_mayTake_20 : decode prog_6_method_4_code 20 = .ok (.iaload, 1) := by decide +kernel
theorem d_PathList_mayTake_21 : decode prog_6_method_4_code 21 = .ok (.iaload, 1) := by decide +kernel
theorem d_PathList_mayTake_22 : decode prog_6_method_4_code 22 = .ok (.if_icmp .gt 7, 3) := by decide +kernel
theorem d_PathList_mayTake_25 : decode prog_6_method_4_code 25 = .ok (.iconst 1, 1) := by decide +kernel
theorem d_PathList_mayTake_26 : decode prog_6_method_4_code 26 = .ok (.goto 4, 3) := by decide +kernel
theorem d_PathList_mayTake_29 : decode prog_6_method_4_code 29 = .ok (.iconst 0, 1) := by decide +kernel
theorem d_PathList_mayTake_30 : decode prog_6_method_4_code 30 = .ok (.ireturn, 1) := by decide +kernel
theorem d_PathList_offer_0 : decode prog_6_method_5_code 0 = .ok (.aload_n 0, 1) := by decide +kernel
theorem d_PathList_offer_1 : decode prog_6_method_5_code 1 = .ok (.getfield 24, 3) := by decide +kernel
theorem d_PathList_offer_4 : decode prog_6_method_5_code 4 = .ok (.istore 4, 2) := by decide +kernel
theorem d_PathList_offer_6 : decode prog_6_method_5_code 6 = .ok (.iload 4, 2) := by decide +kernel
theorem d_PathList_offer_8 : decode prog_6_method_5_code 8 = .ok (.ifCond .le 28, 3) := by decide +kernel
theorem d_PathList_offer_11 : decode prog_6_method_5_code 11 = .ok (.aload_n 0, 1) := by decide +kernel
theorem d_PathList_offer_12 : decode prog_6_method_5_code 12 = .ok (.iload_n 1, 1) := by decide +kernel
theorem d_PathList_offer_13 : decode prog_6_method_5_code 13 = .ok (.aload_n 2, 1) := by decide +kernel
theorem d_PathList_offer_14 : decode prog_6_method_5_code 14 = .ok (.iload_n 3, 1) := by decide +kernel
theorem d_PathList_offer_15 : decode prog_6_method_5_code 15 = .ok (.aload_n 0, 1) := by decide +kernel
theorem d_PathList_offer_16 : decode prog_6_method_5_code 16 = .ok (.getfield 9, 3) := by decide +kernel
theorem d_PathList_offer_19 : decode prog_6_method_5_code 19 = .ok (.iload 4, 2) := by decide +kernel
theorem d_PathList_offer_21 : decode prog_6_method_5_code 21 = .ok (.iconst 1, 1) := by decide +kernel
theorem d_PathList_offer_22 : decode prog_6_method_5_code 22 = .ok (.isub, 1) := by decide +kernel
theorem d_PathList_offer_23 : decode prog_6_method_5_code 23 = .ok (.iaload, 1) := by decide +kernel
theorem d_PathList_offer_24 : decode prog_6_method_5_code 24 = .ok (.invokevirtual 29, 3) := by decide +kernel
theorem d_PathList_offer_27 : decode prog_6_method_5_code 27 = .ok (.ifCond .eq 9, 3) := by decide +kernel
theorem d_PathList_offer_30 : decode prog_6_method_5_code 30 = .ok (.iinc 4 (-1), 3) := by decide +kernel
theorem d_PathList_offer_33 : decode prog_6_method_5_code 33 = .ok (.goto (-27), 3) := by decide +kernel
theorem d_PathList_offer_36 : decode prog_6_method_5_code 36 = .ok (.iload 4, 2) := by decide +kernel
theorem d_PathList_offer_38 : decode prog_6_method_5_code 38 = .ok (.bipush 20, 2) := by decide +kernel
theorem d_PathList_offer_40 : decode prog_6_method_5_code 40 = .ok (.if_icmp .lt 4, 3) := by decide +kernel
theorem d_PathList_offer_43 : decode prog_6_method_5_code 43 = .ok (.return_, 1) := by decide +kernel
theorem d_PathList_offer_44 : decode prog_6_method_5_code 44 = .ok (.aload_n 0, 1) := by decide +kernel
theorem d_PathList_offer_45 : decode prog_6_method_5_code 45 = .ok (.invokevirtual 33, 3) := by decide +kernel
theorem d_PathList_offer_48 : decode prog_6_method_5_code 48 = .ok (.istore 5, 2) := by decide +kernel
theorem d_PathList_offer_50 : decode prog_6_method_5_code 50 = .ok (.aload_n 0, 1) := by decide +kernel
theorem d_PathList_offer_51 : decode prog_6_method_5_code 51 = .ok (.getfield 24, 3) := by decide +kernel
theorem d_PathList_offer_54 : decode prog_6_method_5_code 54 = .ok (.iconst 1, 1) := by decide +kernel
theorem d_PathList_offer_55 : decode prog_6_method_5_code 55 = .ok (.isub, 1) := by decide +kernel
theorem d_PathList_offer_56 : decode prog_6_method_5_code 56 = .ok (.istore 6, 2) := by decide +kernel
theorem d_PathList_offer_58 : decode prog_6_method_5_code 58 = .ok (.iload 6, 2) := by decide +kernel
theorem d_PathList_offer_60 : decode prog_6_method_5_code 60 = .ok (.iload 4, 2) := by decide +kernel
theorem d_PathList_offer_62 : decode prog_6_method_5_code 62 = .ok (.if_icmp .le 25, 3) := by decide +kernel
theorem d_PathList_offer_65 : decode prog_6_method_5_code 65 = .ok (.aload_n 0, 1) := by decide +kernel
theorem d_PathList_offer_66 : decode prog_6_method_5_code 66 = .ok (.getfield 9, 3) := by decide +kernel
theorem d_PathList_offer_69 : decode prog_6_method_5_code 69 = .ok (.iload 6, 2) := by decide +kernel
theorem d_PathList_offer_71 : decode prog_6_method_5_code 71 = .ok (.aload_n 0, 1) := by decide +kernel
theorem d_PathList_offer_72 : decode prog_6_method_5_code 72 = .ok (.getfield 9, 3) := by decide +kernel
theorem d_PathList_offer_75 : decode prog_6_method_5_code 75 = .ok (.iload 6, 2) := by decide +kernel
theorem d_PathList_offer_77 : decode prog_6_method_5_code 77 = .ok (.iconst 1, 1) := by decide +kernel
theorem d_PathList_offer_78 : decode prog_6_method_5_code 78 = .ok (.isub, 1) := by decide +kernel
theorem d_PathList_offer_79 : decode prog_6_method_5_code 79 = .ok (.iaload, 1) := by decide +kernel
theorem d_PathList_offer_80 : decode prog_6_method_5_code 80 = .ok (.iastore, 1) := by decide +kernel
theorem d_PathList_offer_81 : decode prog_6_method_5_code 81 = .ok (.iinc 6 (-1), 3) := by decide +kernel
theorem d_PathList_offer_84 : decode prog_6_method_5_code 84 = .ok (.goto (-26), 3) := by decide +kernel
theorem d_PathList_offer_87 : decode prog_6_method_5_code 87 = .ok (.aload_n 0, 1) := by decide +kernel
theorem d_PathList_offer_88 : decode prog_6_method_5_code 88 = .ok (.getfield 9, 3) := by decide +kernel
theorem d_PathList_offer_91 : decode prog_6_method_5_code 91 = .ok (.iload 4, 2) := by decide +kernel
theorem d_PathList_offer_93 : decode prog_6_method_5_code 93 = .ok (.iload 5, 2) := by decide +kernel
theorem d_PathList_offer_95 : decode prog_6_method_5_code 95 = .ok (.iastore, 1) := by decide +kernel
theorem d_PathList_offer_96 : decode prog_6_method_5_code 96 = .ok (.aload_n 0, 1) := by decide +kernel
theorem d_PathList_offer_97 : decode prog_6_method_5_code 97 = .ok (.getfield 15, 3) := by decide +kernel
theorem d_PathList_offer_100 : decode prog_6_method_5_code 100 = .ok (.iload 5, 2) := by decide +kernel
theorem d_PathList_offer_102 : decode prog_6_method_5_code 102 = .ok (.iload_n 1, 1) := by decide +kernel
theorem d_PathList_offer_103 : decode prog_6_method_5_code 103 = .ok (.iastore, 1) := by decide +kernel
theorem d_PathList_offer_104 : decode prog_6_method_5_code 104 = .ok (.aload_n 0, 1) := by decide +kernel
theorem d_PathList_offer_105 : decode prog_6_method_5_code 105 = .ok (.getfield 18, 3) := by decide +kernel
theorem d_PathList_offer_108 : decode prog_6_method_5_code 108 = .ok (.iload 5, 2) := by decide +kernel
theorem d_PathList_offer_110 : decode prog_6_method_5_code 110 = .ok (.iload_n 3, 1) := by decide +kernel
theorem d_PathList_offer_111 : decode prog_6_method_5_code 111 = .ok (.iastore, 1) := by decide +kernel
theorem d_PathList_offer_112 : decode prog_6_method_5_code 112 = .ok (.aload_n 2, 1) := by decide +kernel
theorem d_PathList_offer_113 : decode prog_6_method_5_code 113 = .ok (.iconst 0, 1) := by decide +kernel
theorem d_PathList_offer_114 : decode prog_6_method_5_code 114 = .ok (.aload_n 0, 1) := by decide +kernel
theorem d_PathList_offer_115 : decode prog_6_method_5_code 115 = .ok (.getfield 21, 3) := by decide +kernel
theorem d_PathList_offer_118 : decode prog_6_method_5_code 118 = .ok (.iload 5, 2) := by decide +kernel
theorem d_PathList_offer_120 : decode prog_6_method_5_code 120 = .ok (.sipush 144, 3) := by decide +kernel
theorem d_PathList_offer_123 : decode prog_6_method_5_code 123 = .ok (.imul, 1) := by decide +kernel
theorem d_PathList_offer_124 : decode prog_6_method_5_code 124 = .ok (.iload_n 3, 1) := by decide +kernel
theorem d_PathList_offer_125 : decode prog_6_method_5_code 125 = .ok (.invokestatic 37, 3) := by decide +kernel
theorem d_PathList_offer_128 : decode prog_6_method_5_code 128 = .ok (.return_, 1) := by decide +kernel
theorem d_PathList_takeSlot_0 : decode prog_6_method_6_code 0 = .ok (.aload_n 0, 1) := by decide +kernel
theorem d_PathList_takeSlot_1 : decode prog_6_method_6_code 1 = .ok (.getfield 24, 3) := by decide +kernel
theorem d_PathList_takeSlot_4 : decode prog_6_method_6_code 4 = .ok (.bipush 20, 2) := by decide +kernel
theorem d_PathList_takeSlot_6 : decode prog_6_method_6_code 6 = .ok (.if_icmp .ge 20, 3) := by decide +kernel
theorem d_PathList_takeSlot_9 : decode prog_6_method_6_code 9 = .ok (.aload_n 0, 1) := by decide +kernel
theorem d_PathList_takeSlot_10 : decode prog_6_method_6_code 10 = .ok (.dup, 1) := by decide +kernel
theorem d_PathList_takeSlot_11 : decode prog_6_method_6_code 11 = .ok (.getfield 24, 3) := by decide +kernel
theorem d_PathList_takeSlot_14 : decode prog_6_method_6_code 14 = .ok (.iconst 1, 1) := by decide +kernel
theorem d_PathList_takeSlot_15 : decode prog_6_method_6_code 15 = .ok (.iadd, 1) := by decide +kernel
theorem d_PathList_takeSlot_16 : decode prog_6_method_6_code 16 = .ok (.putfield 24, 3) := by decide +kernel
theorem d_PathList_takeSlot_19 : decode prog_6_method_6_code 19 = .ok (.aload_n 0, 1) := by decide +kernel
theorem d_PathList_takeSlot_20 : decode prog_6_method_6_code 20 = .ok (.getfield 24, 3) := by decide +kernel
theorem d_PathList_takeSlot_23 : decode prog_6_method_6_code 23 = .ok (.iconst 1, 1) := by decide +kernel
theorem d_PathList_takeSlot_24 : decode prog_6_method_6_code 24 = .ok (.isub, 1) := by decide +kernel
theorem d_PathList_takeSlot_25 : decode prog_6_method_6_code 25 = .ok (.ireturn, 1) := by decide +kernel
theorem d_PathList_takeSlot_26 : decode prog_6_method_6_code 26 = .ok (.aload_n 0, 1) := by decide +kernel
theorem d_PathList_takeSlot_27 : decode prog_6_method_6_code 27 = .ok (.getfield 9, 3) := by decide +kernel
theorem d_PathList_takeSlot_30 : decode prog_6_method_6_code 30 = .ok (.bipush 19, 2) := by decide +kernel
theorem d_PathList_takeSlot_32 : decode prog_6_method_6_code 32 = .ok (.iaload, 1) := by decide +kernel
theorem d_PathList_takeSlot_33 : decode prog_6_method_6_code 33 = .ok (.ireturn, 1) := by decide +kernel
theorem d_PathList_comesBefore_0 : decode prog_6_method_7_code 0 = .ok (.iload_n 1, 1) := by decide +kernel
theorem d_PathList_comesBefore_1 : decode prog_6_method_7_code 1 = .ok (.aload_n 0, 1) := by decide +kernel
theorem d_PathList_comesBefore_2 : decode prog_6_method_7_code 2 = .ok (.getfield 15, 3) := by decide +kernel
theorem d_PathList_comesBefore_5 : decode prog_6_method_7_code 5 = .ok (.iload 4, 2) := by decide +kernel
theorem d_PathList_comesBefore_7 : decode prog_6_method_7_code 7 = .ok (.iaload, 1) := by decide +kernel
theorem d_PathList_comesBefore_8 : decode prog_6_method_7_code 8 = .ok (.if_icmp .eq 20, 3) := by decide +kernel
theorem d_PathList_comesBefore_11 : decode prog_6_method_7_code 11 = .ok (.iload_n 1, 1) := by decide +kernel
theorem d_PathList_comesBefore_12 : decode prog_6_method_7_code 12 = .ok (.aload_n 0, 1) := by decide +kernel
theorem d_PathList_comesBefore_13 : decode prog_6_method_7_code 13 = .ok (.getfield 15, 3) := by decide +kernel
theorem d_PathList_comesBefore_16 : decode prog_6_method_7_code 16 = .ok (.iload 4, 2) := by decide +kernel
theorem d_PathList_comesBefore_18 : decode prog_6_method_7_code 18 = .ok (.iaload, 1) := by decide +kernel
theorem d_PathList_comesBefore_19 : decode prog_6_method_7_code 19 = .ok (.if_icmp .ge 7, 3) := by decide +kernel
theorem d_PathList_comesBefore_22 : decode prog_6_method_7_code 22 = .ok (.iconst 1, 1) := by decide +kernel
theorem d_PathList_comesBefore_23 : decode prog_6_method_7_code 23 = .ok (.goto 4, 3) := by decide +kernel
theorem d_PathList_comesBefore_26 : decode prog_6_method_7_code 26 = .ok (.iconst 0, 1) := by decide +kernel
theorem d_PathList_comesBefore_27 : decode prog_6_method_7_code 27 = .ok (.ireturn, 1) := by decide +kernel
theorem d_PathList_comesBefore_28 : decode prog_6_method_7_code 28 = .ok (.iload_n 3, 1) := by decide +kernel
theorem d_PathList_comesBefore_29 : decode prog_6_method_7_code 29 = .ok (.aload_n 0, 1) := by decide +kernel
theorem d_PathList_comesBefore_30 : decode prog_6_method_7_code 30 = .ok (.getfield 18, 3) := by decide +kernel
theorem d_PathList_comesBefore_33 : decode prog_6_method_7_code 33 = .ok (.iload 4, 2) := by decide +kernel
theorem d_PathList_comesBefore_35 : decode prog_6_method_7_code 35 = .ok (.iaload, 1) := by decide +kernel
theorem d_PathList_comesBefore_36 : decode prog_6_method_7_code 36 = .ok (.invokestatic 43, 3) := by decide +kernel
theorem d_PathList_comesBefore_39 : decode prog_6_method_7_code 39 = .ok (.istore 5, 2) := by decide +kernel
theorem d_PathList_comesBefore_41 : decode prog_6_method_7_code 41 = .ok (.iconst 0, 1) := by decide +kernel
theorem d_PathList_comesBefore_42 : decode prog_6_method_7_code 42 = .ok (.istore 6, 2) := by decide +kernel
theorem d_PathList_comesBefore_44 : decode prog_6_method_7_code 44 = .ok (.iload 6, 2) := by decide +kernel
theorem d_PathList_comesBefore_46 : decode prog_6_method_7_code 46 = .ok (.iload 5, 2) := by decide +kernel
theorem d_PathList_comesBefore_48 : decode prog_6_method_7_code 48 = .ok (.if_icmp .ge 49, 3) := by decide +kernel
theorem d_PathList_comesBefore_51 : decode prog_6_method_7_code 51 = .ok (.aload_n 0, 1) := by decide +kernel
theorem d_PathList_comesBefore_52 : decode prog_6_method_7_code 52 = .ok (.getfield 21, 3) := by decide +kernel
theorem d_PathList_comesBefore_55 : decode prog_6_method_7_code 55 = .ok (.iload 4, 2) := by decide +kernel
theorem d_PathList_comesBefore_57 : decode prog_6_method_7_code 57 = .ok (.sipush 144, 3) := by decide +kernel
theorem d_PathList_comesBefore_60 : decode prog_6_method_7_code 60 = .ok (.imul, 1) := by decide +kernel
theorem d_PathList_comesBefore_61 : decode prog_6_method_7_code 61 = .ok (.iload 6, 2) := by decide +kernel
theorem d_PathList_comesBefore_63 : decode prog_6_method_7_code 63 = .ok (.iadd, 1) := by decide +kernel
theorem d_PathList_comesBefore_64 : decode prog_6_method_7_code 64 = .ok (.iaload, 1) := by decide +kernel
theorem d_PathList_comesBefore_65 : decode prog_6_method_7_code 65 = .ok (.istore 7, 2) := by decide +kernel
theorem d_PathList_comesBefore_67 : decode prog_6_method_7_code 67 = .ok (.aload_n 2, 1) := by decide +kernel
theorem d_PathList_comesBefore_68 : decode prog_6_method_7_code 68 = .ok (.iload 6, 2) := by decide +kernel
theorem d_PathList_comesBefore_70 : decode prog_6_method_7_code 70 = .ok (.iaload, 1) := by decide +kernel
theorem d_PathList_comesBefore_71 : decode prog_6_method_7_code 71 = .ok (.iload 7, 2) := by decide +kernel
theorem d_PathList_comesBefore_73 : decode prog_6_method_7_code 73 = .ok (.if_icmp .eq 18, 3) := by decide +kernel
theorem d_PathList_comesBefore_76 : decode prog_6_method_7_code 76 = .ok (.aload_n 2, 1) := by decide +kernel
theorem d_PathList_comesBefore_77 : decode prog_6_method_7_code 77 = .ok (.iload 6, 2) := by decide +kernel
theorem d_PathList_comesBefore_79 : decode prog_6_method_7_code 79 = .ok (.iaload, 1) := by decide +kernel
theorem d_PathList_comesBefore_80 : decode prog_6_method_7_code 80 = .ok (.iload 7, 2) := by decide +kernel
theorem d_PathList_comesBefore_82 : decode prog_6_method_7_code 82 = .ok (.if_icmp .ge 7, 3) := by decide +kernel
theorem d_PathList_comesBefore_85 : decode prog_6_method_7_code 85 = .ok (.iconst 1, 1) := by decide +kernel
theorem d_PathList_comesBefore_86 : decode prog_6_method_7_code 86 = .ok (.goto 4, 3) := by decide +kernel
theorem d_PathList_comesBefore_89 : decode prog_6_method_7_code 89 = .ok (.iconst 0, 1) := by decide +kernel
theorem d_PathList_comesBefore_90 : decode prog_6_method_7_code 90 = .ok (.ireturn, 1) := by decide +kernel
theorem d_PathList_comesBefore_91 : decode prog_6_method_7_code 91 = .ok (.iinc 6 1, 3) := by decide +kernel
theorem d_PathList_comesBefore_94 : decode prog_6_method_7_code 94 = .ok (.goto (-50), 3) := by decide +kernel
theorem d_PathList_comesBefore_97 : decode prog_6_method_7_code 97 = .ok (.iload_n 3, 1) := by decide +kernel
theorem d_PathList_comesBefore_98 : decode prog_6_method_7_code 98 = .ok (.aload_n 0, 1) := by decide +kernel
theorem d_PathList_comesBefore_99 : decode prog_6_method_7_code 99 = .ok (.getfield 18, 3) := by decide +kernel
theorem d_PathList_comesBefore_102 : decode prog_6_method_7_code 102 = .ok (.iload 4, 2) := by decide +kernel
theorem d_PathList_comesBefore_104 : decode prog_6_method_7_code 104 = .ok (.iaload, 1) := by decide +kernel
theorem d_PathList_comesBefore_105 : decode prog_6_method_7_code 105 = .ok (.if_icmp .ge 7, 3) := by decide +kernel
theorem d_PathList_comesBefore_108 : decode prog_6_method_7_code 108 = .ok (.iconst 1, 1) := by decide +kernel
theorem d_PathList_comesBefore_109 : decode prog_6_method_7_code 109 = .ok (.goto 4, 3) := by decide +kernel
theorem d_PathList_comesBefore_112 : decode prog_6_method_7_code 112 = .ok (.iconst 0, 1) := by decide +kernel
theorem d_PathList_comesBefore_113 : decode prog_6_method_7_code 113 = .ok (.ireturn, 1) := by decide +kernel
