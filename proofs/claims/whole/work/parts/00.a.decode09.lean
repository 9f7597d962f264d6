theorem d_GateOrder_init_0 : decode prog_4_method_1_code 0 = .ok (.aload_n 0, 1) := by decide +kernel
theorem d_GateOrder_init_1 : decode prog_4_method_1_code 1 = .ok (.invokespecial 3, 3) := by decide +kernel
theorem d_GateOrder_init_4 : decode prog_4_method_1_code 4 = .ok (.aload_n 0, 1) := by decide +kernel
theorem d_GateOrder_init_5 : decode prog_4_method_1_code 5 = .ok (.bipush 48, 2) := by decide +kernel
theorem d_GateOrder_init_7 : decode prog_4_method_1_code 7 = .ok (.newarray .long, 2) := by decide +kernel
theorem d_GateOrder_init_9 : decode prog_4_method_1_code 9 = .ok (.putfield 9, 3) := by decide +kernel
theorem d_GateOrder_init_12 : decode prog_4_method_1_code 12 = .ok (.aload_n 0, 1) := by decide +kernel
theorem d_GateOrder_init_13 : decode prog_4_method_1_code 13 = .ok (.bipush 48, 2) := by decide +kernel
theorem d_GateOrder_init_15 : decode prog_4_method_1_code 15 = .ok (.newarray .int, 2) := by decide +kernel
theorem d_GateOrder_init_17 : decode prog_4_method_1_code 17 = .ok (.putfield 15, 3) := by decide +kernel
theorem d_GateOrder_init_20 : decode prog_4_method_1_code 20 = .ok (.aload_n 0, 1) := by decide +kernel
theorem d_GateOrder_init_21 : decode prog_4_method_1_code 21 = .ok (.aload_n 1, 1) := by decide +kernel
theorem d_GateOrder_init_22 : decode prog_4_method_1_code 22 = .ok (.putfield 19, 3) := by decide +kernel
theorem d_GateOrder_init_25 : decode prog_4_method_1_code 25 = .ok (.return_, 1) := by decide +kernel
theorem d_GateOrder_leastOnCycle_0 : decode prog_4_method_2_code 0 = .ok (.aload_n 0, 1) := by decide +kernel
theorem d_GateOrder_leastOnCycle_1 : decode prog_4_method_2_code 1 = .ok (.invokevirtual 23, 3) := by decide +kernel
theorem d_GateOrder_leastOnCycle_4 : decode prog_4_method_2_code 4 = .ok (.iconst 0, 1) := by decide +kernel
theorem d_GateOrder_leastOnCycle_5 : decode prog_4_method_2_code 5 = .ok (.istore_n 1, 1) := by decide +kernel
theorem d_GateOrder_leastOnCycle_6 : decode prog_4_method_2_code 6 = .ok (.iload_n 1, 1) := by decide +kernel
theorem d_GateOrder_leastOnCycle_7 : decode prog_4_method_2_code 7 = .ok (.aload_n 0, 1) := by decide +kernel
theorem d_GateOrder_leastOnCycle_8 : decode prog_4_method_2_code 8 = .ok (.getfield 19, 3) := by decide +kernel
theorem d_GateOrder_leastOnCycle_11 : decode prog_4_method_2_code 11 = .ok (.getfield 26, 3) := by decide +kernel
theorem d_GateOrder_leastOnCycle_14 : decode prog_4_method_2_code 14 = .ok (.if_icmp .ge 24, 3) := by decide +kernel
theorem d_GateOrder_leastOnCycle_17 : decode prog_4_method_2_code 17 = .ok (.aload_n 0, 1) := by decide +kernel
theorem d_GateOrder_leastOnCycle_18 : decode prog_4_method_2_code 18 = .ok (.getfield 9, 3) := by decide +kernel
theorem d_GateOrder_leastOnCycle_21 : decode prog_4_method_2_code 21 = .ok (.iload_n 1, 1) := by decide +kernel
theorem d_GateOrder_leastOnCycle_22 : decode prog_4_method_2_code 22 = .ok (.laload, 1) := by decide +kernel
theorem d_GateOrder_leastOnCycle_23 : decode prog_4_method_2_code 23 = .ok (.iload_n 1, 1) := by decide +kernel
theorem d_GateOrder_leastOnCycle_24 : decode prog_4_method_2_code 24 = .ok (.invokestatic 32, 3) := by decide +kernel
theorem d_GateOrder_leastOnCycle_27 : decode prog_4_method_2_code 27 = .ok (.ifCond .eq 5, 3) := by decide +kernel
theorem d_GateOrder_leastOnCycle_30 : decode prog_4_method_2_code 30 = .ok (.iload_n 1, 1) := by decide +kernel
theorem d_GateOrder_leastOnCycle_31 : decode prog_4_method_2_code 31 = .ok (.ireturn, 1) := by decide +kernel
theorem d_GateOrder_leastOnCycle_32 : decode prog_4_method_2_code 32 = .ok (.iinc 1 1, 3) := by decide +kernel
theorem d_GateOrder_leastOnCycle_35 : decode prog_4_method_2_code 35 = .ok (.goto (-29), 3) := by decide +kernel
theorem d_GateOrder_leastOnCycle_38 : decode prog_4_method_2_code 38 = .ok (.ldc 36, 2) := by decide +kernel
theorem d_GateOrder_leastOnCycle_40 : decode prog_4_method_2_code 40 = .ok (.ireturn, 1) := by decide +kernel
theorem d_GateOrder_sort_0 : decode prog_4_method_3_code 0 = .ok (.aload_n 0, 1) := by decide +kernel
theorem d_GateOrder_sort_1 : decode prog_4_method_3_code 1 = .ok (.iconst 0, 1) := by decide +kernel
theorem d_GateOrder_sort_2 : decode prog_4_method_3_code 2 = .ok (.putfield 37, 3) := by decide +kernel
theorem d_GateOrder_sort_5 : decode prog_4_method_3_code 5 = .ok (.iconst 0, 1) := by decide +kernel
theorem d_GateOrder_sort_6 : decode prog_4_method_3_code 6 = .ok (.istore_n 1, 1) := by decide +kernel
theorem d_GateOrder_sort_7 : decode prog_4_method_3_code 7 = .ok (.iload_n 1, 1) := by decide +kernel
theorem d_GateOrder_sort_8 : decode prog_4_method_3_code 8 = .ok (.bipush 48, 2) := by decide +kernel
theorem d_GateOrder_sort_10 : decode prog_4_method_3_code 10 = .ok (.if_icmp .ge 74, 3) := by decide +kernel
theorem d_GateOrder_sort_13 : decode prog_4_method_3_code 13 = .ok (.iconst 0, 1) := by decide +kernel
theorem d_GateOrder_sort_14 : decode prog_4_method_3_code 14 = .ok (.istore_n 2, 1) := by decide +kernel
theorem d_GateOrder_sort_15 : decode prog_4_method_3_code 15 = .ok (.iload_n 2, 1) := by decide +kernel
theorem d_GateOrder_sort_16 : decode prog_4_method_3_code 16 = .ok (.aload_n 0, 1) := by decide +kernel
theorem d_GateOrder_sort_17 : decode prog_4_method_3_code 17 = .ok (.getfield 19, 3) := by decide +kernel
theorem d_GateOrder_sort_20 : decode prog_4_method_3_code 20 = .ok (.getfield 26, 3) := by decide +kernel
theorem d_GateOrder_sort_23 : decode prog_4_method_3_code 23 = .ok (.if_icmp .ge 55, 3) := by decide +kernel
theorem d_GateOrder_sort_26 : decode prog_4_method_3_code 26 = .ok (.aload_n 0, 1) := by decide +kernel
theorem d_GateOrder_sort_27 : decode prog_4_method_3_code 27 = .ok (.getfield 19, 3) := by decide +kernel
theorem d_GateOrder_sort_30 : decode prog_4_method_3_code 30 = .ok (.getfield 40, 3) := by decide +kernel
theorem d_GateOrder_sort_33 : decode prog_4_method_3_code 33 = .ok (.iload_n 2, 1) := by decide +kernel
theorem d_GateOrder_sort_34 : decode prog_4_method_3_code 34 = .ok (.iaload, 1) := by decide +kernel
theorem d_GateOrder_sort_35 : decode prog_4_method_3_code 35 = .ok (.iconst 2, 1) := by decide +kernel
theorem d_GateOrder_sort_36 : decode prog_4_method_3_code 36 = .ok (.if_icmp .ne 36, 3) := by decide +kernel
theorem d_GateOrder_sort_39 : decode prog_4_method_3_code 39 = .ok (.aload_n 0, 1) := by decide +kernel
theorem d_GateOrder_sort_40 : decode prog_4_method_3_code 40 = .ok (.getfield 9, 3) := by decide +kernel
theorem d_GateOrder_sort_43 : decode prog_4_method_3_code 43 = .ok (.iload_n 2, 1) := by decide +kernel
theorem d_GateOrder_sort_44 : decode prog_4_method_3_code 44 = .ok (.laload, 1) := by decide +kernel
theorem d_GateOrder_sort_45 : decode prog_4_method_3_code 45 = .ok (.invokestatic 43, 3) := by decide +kernel
theorem d_GateOrder_sort_48 : decode prog_4_method_3_code 48 = .ok (.iload_n 1, 1) := by decide +kernel
theorem d_GateOrder_sort_49 : decode prog_4_method_3_code 49 = .ok (.if_icmp .ne 23, 3) := by decide +kernel
theorem d_GateOrder_sort_52 : decode prog_4_method_3_code 52 = .ok (.aload_n 0, 1) := by decide +kernel
theorem d_GateOrder_sort_53 : decode prog_4_method_3_code 53 = .ok (.getfield 15, 3) := by decide +kernel
theorem d_GateOrder_sort_56 : decode prog_4_method_3_code 56 = .ok (.aload_n 0, 1) := by decide +kernel
theorem d_GateOrder_sort_57 : decode prog_4_method_3_code 57 = .ok (.getfield 37, 3) := by decide +kernel
theorem d_GateOrder_sort_60 : decode prog_4_method_3_code 60 = .ok (.iload_n 2, 1) := by decide +kernel
theorem d_GateOrder_sort_61 : decode prog_4_method_3_code 61 = .ok (.iastore, 1) := by decide +kernel
theorem d_GateOrder_sort_62 : decode prog_4_method_3_code 62 = .ok (.aload_n 0, 1) := by decide +kernel
theorem d_GateOrder_sort_63 : decode prog_4_method_3_code 63 = .ok (.dup, 1) := by decide +kernel
theorem d_GateOrder_sort_64 : decode prog_4_method_3_code 64 = .ok (.getfield 37, 3) := by decide +kernel
theorem d_GateOrder_sort_67 : decode prog_4_method_3_code 67 = .ok (.iconst 1, 1) := by decide +kernel
theorem d_GateOrder_sort_68 : decode prog_4_method_3_code 68 = .ok (.iadd, 1) := by decide +kernel
theorem d_GateOrder_sort_69 : decode prog_4_method_3_code 69 = .ok (.putfield 37, 3) := by decide +kernel
theorem d_GateOrder_sort_72 : decode prog_4_method_3_code 72 = .ok (.iinc 2 1, 3) := by decide +kernel
theorem d_GateOrder_sort_75 : decode prog_4_method_3_code 75 = .ok (.goto (-60), 3) := by decide +kernel
theorem d_GateOrder_sort_78 : decode prog_4_method_3_code 78 = .ok (.iinc 1 1, 3) := by decide +kernel
theorem d_GateOrder_sort_81 : decode prog_4_method_3_code 81 = .ok (.goto (-74), 3) := by decide +kernel
theorem d_GateOrder_sort_84 : decode prog_4_method_3_code 84 = .ok (.return_, 1) := by decide +kernel
theorem d_GateOrder_findLeading_0 : decode prog_4_method_4_code 0 = .ok (.iconst 0, 1) := by decide +kernel
theorem d_GateOrder_findLeading_1 : decode prog_4_method_4_code 1 = .ok (.istore_n 1, 1) := by decide +kernel
theorem d_GateOrder_findLeading_2 : decode prog_4_method_4_code 2 = .ok (.iload_n 1, 1) := by decide +kernel
theorem d_GateOrder_findLeading_3 : decode prog_4_method_4_code 3 = .ok (.aload_n 0, 1) := by decide +kernel
theorem d_GateOrder_findLeading_4 : decode prog_4_method_4_code 4 = .ok (.getfield 19, 3) := by decide +kernel
theorem d_GateOrder_findLeading_7 : decode prog_4_method_4_code 7 = .ok (.getfield 26, 3) := by decide +kernel
theorem d_GateOrder_findLeading_10 : decode prog_4_method_4_code 10 = .ok (.if_icmp .ge 37, 3) := by decide +kernel
theorem d_GateOrder_findLeading_13 : decode prog_4_method_4_code 13 = .ok (.aload_n 0, 1) := by decide +kernel
theorem d_GateOrder_findLeading_14 : decode prog_4_method_4_code 14 = .ok (.getfield 9, 3) := by decide +kernel
theorem d_GateOrder_findLeading_17 : decode prog_4_method_4_code 17 = .ok (.iload_n 1, 1) := by decide +kernel
theorem d_GateOrder_findLeading_18 : decode prog_4_method_4_code 18 = .ok (.aload_n 0, 1) := by decide +kernel
theorem d_GateOrder_findLeading_19 : decode prog_4_method_4_code 19 = .ok (.getfield 19, 3) := by decide +kernel
theorem d_GateOrder_findLeading_22 : decode prog_4_method_4_code 22 = .ok (.getfield 40, 3) := by decide +kernel
theorem d_GateOrder_findLeading_25 : decode prog_4_method_4_code 25 = .ok (.iload_n 1, 1) := by decide +kernel
theorem d_GateOrder_findLeading_26 : decode prog_4_method_4_code 26 = .ok (.iaload, 1) := by decide +kernel
theorem d_GateOrder_findLeading_27 : decode prog_4_method_4_code 27 = .ok (.iconst 2, 1) := by decide +kernel
theorem d_GateOrder_findLeading_28 : decode prog_4_method_4_code 28 = .ok (.if_icmp .ne 11, 3) := by decide +kernel
theorem d_GateOrder_findLeading_31 : decode prog_4_method_4_code 31 = .ok (.aload_n 0, 1) := by decide +kernel
theorem d_GateOrder_findLeading_32 : decode prog_4_method_4_code 32 = .ok (.iload_n 1, 1) := by decide +kernel
theorem d_GateOrder_findLeading_33 : decode prog_4_method_4_code 33 = .ok (.invokevirtual 49, 3) := by decide +kernel
theorem d_GateOrder_findLeading_36 : decode prog_4_method_4_code 36 = .ok (.goto 4, 3) := by decide +kernel
theorem d_GateOrder_findLeading_39 : decode prog_4_method_4_code 39 = .ok (.lconst 0, 1) := by decide +kernel
theorem d_GateOrder_findLeading_40 : decode prog_4_method_4_code 40 = .ok (.lastore, 1) := by decide +kernel
theorem d_GateOrder_findLeading_41 : decode prog_4_method_4_code 41 = .ok (.iinc 1 1, 3) := by decide +kernel
theorem d_GateOrder_findLeading_44 : decode prog_4_method_4_code 44 = .ok (.goto (-42), 3) := by decide +kernel
theorem d_GateOrder_findLeading_47 : decode prog_4_method_4_code 47 = .ok (.iconst 0, 1) := by decide +kernel
theorem d_GateOrder_findLeading_48 : decode prog_4_method_4_code 48 = .ok (.istore_n 1, 1) := by decide +kernel
theorem d_GateOrder_findLeading_49 : decode prog_4_method_4_code 49 = .ok (.iload_n 1, 1) := by decide +kernel
theorem d_GateOrder_findLeading_50 : decode prog_4_method_4_code 50 = .ok (.aload_n 0, 1) := by decide +kernel
theorem d_GateOrder_findLeading_51 : decode prog_4_method_4_code 51 = .ok (.getfield 19, 3) := by decide +kernel
theorem d_GateOrder_findLeading_54 : decode prog_4_method_4_code 54 = .ok (.getfield 26, 3) := by decide +kernel
theorem d_GateOrder_findLeading_57 : decode prog_4_method_4_code 57 = .ok (.if_icmp .ge 56, 3) := by decide +kernel
theorem d_GateOrder_findLeading_60 : decode prog_4_method_4_code 60 = .ok (.iconst 0, 1) := by decide +kernel
theorem d_GateOrder_findLeading_61 : decode prog_4_method_4_code 61 = .ok (.istore_n 2, 1) := by decide +kernel
theorem d_GateOrder_findLeading_62 : decode prog_4_method_4_code 62 = .ok (.iload_n 2, 1) := by decide +kernel
theorem d_GateOrder_findLeading_63 : decode prog_4_method_4_code 63 = .ok (.aload_n 0, 1) := by decide +kernel
theorem d_GateOrder_findLeading_64 : decode prog_4_method_4_code 64 = .ok (.getfield 19, 3) := by decide +kernel
theorem d_GateOrder_findLeading_67 : decode prog_4_method_4_code 67 = .ok (.getfield 26, 3) := by decide +kernel
theorem d_GateOrder_findLeading_70 : decode prog_4_method_4_code 70 = .ok (.if_icmp .ge 37, 3) := by decide +kernel
theorem d_GateOrder_findLeading_73 : decode prog_4_method_4_code 73 = .ok (.aload_n 0, 1) := by decide +kernel
theorem d_GateOrder_findLeading_74 : decode prog_4_method_4_code 74 = .ok (.getfield 9, 3) := by decide +kernel
theorem d_GateOrder_findLeading_77 : decode prog_4_method_4_code 77 = .ok (.iload_n 2, 1) := by decide +kernel
theorem d_GateOrder_findLeading_78 : decode prog_4_method_4_code 78 = .ok (.laload, 1) := by decide +kernel
theorem d_GateOrder_findLeading_79 : decode prog_4_method_4_code 79 = .ok (.iload_n 1, 1) := by decide +kernel
theorem d_GateOrder_findLeading_80 : decode prog_4_method_4_code 80 = .ok (.invokestatic 32, 3) := by decide +kernel
theorem d_GateOrder_findLeading_83 : decode prog_4_method_4_code 83 = .ok (.ifCond .eq 18, 3) := by decide +kernel
theorem d_GateOrder_findLeading_86 : decode prog_4_method_4_code 86 = .ok (.aload_n 0, 1) := by decide +kernel
theorem d_GateOrder_findLeading_87 : decode prog_4_method_4_code 87 = .ok (.getfield 9, 3) := by decide +kernel
theorem d_GateOrder_findLeading_90 : decode prog_4_method_4_code 90 = .ok (.iload_n 2, 1) := by decide +kernel
theorem d_GateOrder_findLeading_91 : decode prog_4_method_4_code 91 = .ok (.dup2, 1) := by decide +kernel
theorem d_GateOrder_findLeading_92 : decode prog_4_method_4_code 92 = .ok (.laload, 1) := by decide +kernel
theorem d_GateOrder_findLeading_93 : decode prog_4_method_4_code 93 = .ok (.aload_n 0, 1) := by decide +kernel
theorem d_GateOrder_findLeading_94 : decode prog_4_method_4_code 94 = .ok (.getfield 9, 3) := by decide +kernel
theorem d_GateOrder_findLeading_97 : decode prog_4_method_4_code 97 = .ok (.iload_n 1, 1) := by decide +kernel
theorem d_GateOrder_findLeading_98 : decode prog_4_method_4_code 98 = .ok (.laload, 1) := by decide +kernel
theorem d_GateOrder_findLeading_99 : decode prog_4_method_4_code 99 = .ok (.lor, 1) := by decide +kernel
theorem d_GateOrder_findLeading_100 : decode prog_4_method_4_code 100 = .ok (.lastore, 1) := by decide +kernel
theorem d_GateOrder_findLeading_101 : decode prog_4_method_4_code 101 = .ok (.iinc 2 1, 3) := by decide +kernel
theorem d_GateOrder_findLeading_104 : decode prog_4_method_4_code 104 = .ok (.goto (-42), 3) := by decide +kernel
theorem d_GateOrder_findLeading_107 : decode prog_4_method_4_code 107 = .ok (.iinc 1 1, 3) := by decide +kernel
theorem d_GateOrder_findLeading_110 : decode prog_4_method_4_code 110 = .ok (.goto (-61), 3) := by decide +kernel
theorem d_GateOrder_findLeading_113 : decode prog_4_method_4_code 113 = .ok (.return_, 1) := by decide +kernel
theorem d_GateOrder_gatesWiredTo_0 : decode prog_4_method_5_code 0 = .ok (.lconst 0, 1) := by decide +kernel
theorem d_GateOrder_gatesWiredTo_1 : decode prog_4_method_5_code 1 = .ok (.lstore_n 2, 1) := by decide +kernel
theorem d_GateOrder_gatesWiredTo_2 : decode prog_4_method_5_code 2 = .ok (.iconst 0, 1) := by decide +kernel
theorem d_GateOrder_gatesWiredTo_3 : decode prog_4_method_5_code 3 = .ok (.istore 4, 2) := by decide +kernel
theorem d_GateOrder_gatesWiredTo_5 : decode prog_4_method_5_code 5 = .ok (.iload 4, 2) := by decide +kernel
theorem d_GateOrder_gatesWiredTo_7 : decode prog_4_method_5_code 7 = .ok (.aload_n 0, 1) := by decide +kernel
theorem d_GateOrder_gatesWiredTo_8 : decode prog_4_method_5_code 8 = .ok (.getfield 19, 3) := by decide +kernel
theorem d_GateOrder_gatesWiredTo_11 : decode prog_4_method_5_code 11 = .ok (.getfield 53, 3) := by decide +kernel
theorem d_GateOrder_gatesWiredTo_14 : decode prog_4_method_5_code 14 = .ok (.iload_n 1, 1) := by decide +kernel
theorem d_GateOrder_gatesWiredTo_15 : decode prog_4_method_5_code 15 = .ok (.iaload, 1) := by decide +kernel
theorem d_GateOrder_gatesWiredTo_16 : decode prog_4_method_5_code 16 = .ok (.if_icmp .ge 51, 3) := by decide +kernel
theorem d_GateOrder_gatesWiredTo_19 : decode prog_4_method_5_code 19 = .ok (.aload_n 0, 1) := by decide +kernel
theorem d_GateOrder_gatesWiredTo_20 : decode prog_4_method_5_code 20 = .ok (.getfield 19, 3) := by decide +kernel
theorem d_GateOrder_gatesWiredTo_23 : decode prog_4_method_5_code 23 = .ok (.getfield 56, 3) := by decide +kernel
theorem d_GateOrder_gatesWiredTo_26 : decode prog_4_method_5_code 26 = .ok (.iload_n 1, 1) := by decide +kernel
theorem d_GateOrder_gatesWiredTo_27 : decode prog_4_method_5_code 27 = .ok (.iconst 3, 1) := by decide +kernel
theorem d_GateOrder_gatesWiredTo_28 : decode prog_4_method_5_code 28 = .ok (.imul, 1) := by decide +kernel
theorem d_GateOrder_gatesWiredTo_29 : decode prog_4_method_5_code 29 = .ok (.iload 4, 2) := by decide +kernel
theorem d_GateOrder_gatesWiredTo_31 : decode prog_4_method_5_code 31 = .ok (.iadd, 1) := by decide +kernel
theorem d_GateOrder_gatesWiredTo_32 : decode prog_4_method_5_code 32 = .ok (.iaload, 1) := by decide +kernel
theorem d_GateOrder_gatesWiredTo_33 : decode prog_4_method_5_code 33 = .ok (.istore 5, 2) := by decide +kernel
theorem d_GateOrder_gatesWiredTo_35 : decode prog_4_method_5_code 35 = .ok (.iload 5, 2) := by decide +kernel
theorem d_GateOrder_gatesWiredTo_37 : decode prog_4_method_5_code 37 = .ok (.ifCond .lt 24, 3) := by decide +kernel
theorem d_GateOrder_gatesWiredTo_40 : decode prog_4_method_5_code 40 = .ok (.aload_n 0, 1) := by decide +kernel
theorem d_GateOrder_gatesWiredTo_41 : decode prog_4_method_5_code 41 = .ok (.getfield 19, 3) := by decide +kernel
theorem d_GateOrder_gatesWiredTo_44 : decode prog_4_method_5_code 44 = .ok (.getfield 40, 3) := by decide +kernel
theorem d_GateOrder_gatesWiredTo_47 : decode prog_4_method_5_code 47 = .ok (.iload 5, 2) := by decide +kernel
theorem d_GateOrder_gatesWiredTo_49 : decode prog_4_method_5_code 49 = .ok (.iaload, 1) := by decide +kernel
theorem d_GateOrder_gatesWiredTo_50 : decode prog_4_method_5_code 50 = .ok (.iconst 2, 1) := by decide +kernel
theorem d_GateOrder_gatesWiredTo_51 : decode prog_4_method_5_code 51 = .ok (.if_icmp .ne 10, 3) := by decide +kernel
theorem d_GateOrder_gatesWiredTo_54 : decode prog_4_method_5_code 54 = .ok (.lload_n 2, 1) := by decide +kernel
theorem d_GateOrder_gatesWiredTo_55 : decode prog_4_method_5_code 55 = .ok (.lconst 1, 1) := by decide +kernel
theorem d_GateOrder_gatesWiredTo_56 : decode prog_4_method_5_code 56 = .ok (.iload 5, 2) := by decide +kernel
theorem d_GateOrder_gatesWiredTo_58 : decode prog_4_method_5_code 58 = .ok (.lshl, 1) := by decide +kernel
theorem d_GateOrder_gatesWiredTo_59 : decode prog_4_method_5_code 59 = .ok (.lor, 1) := by decide +kernel
theorem d_GateOrder_gatesWiredTo_60 : decode prog_4_method_5_code 60 = .ok (.lstore_n 2, 1) := by decide +kernel
theorem d_GateOrder_gatesWiredTo_61 : decode prog_4_method_5_code 61 = .ok (.iinc 4 1, 3) := by decide +kernel
theorem d_GateOrder_gatesWiredTo_64 : decode prog_4_method_5_code 64 = .ok (.goto (-59), 3) := by decide +kernel
theorem d_GateOrder_gatesWiredTo_67 : decode prog_4_method_5_code 67 = .ok (.lload_n 2, 1) := by decide +kernel
theorem d_GateOrder_gatesWiredTo_68 : decode prog_4_method_5_code 68 = .ok (.lreturn, 1) := by decide +kernel
theorem d_GateOrder_has_0 : decode prog_4_method_6_code 0 = .ok (.lload_n 0, 1) := by decide +kernel
theorem d_GateOrder_has_1 : decode prog_4_method_6_code 1 = .ok (.iload_n 2, 1) := by decide +kernel
theorem d_GateOrder_has_2 : decode prog_4_method_6_code 2 = .ok (.lshr, 1) := by decide +kernel
theorem d_GateOrder_has_3 : decode prog_4_method_6_code 3 = .ok (.lconst 1, 1) := by decide +kernel
theorem d_GateOrder_has_4 : decode prog_4_method_6_code 4 = .ok (.land, 1) := by decide +kernel
theorem d_GateOrder_has_5 : decode prog_4_method_6_code 5 = .ok (.lconst 0, 1) := by decide +kernel
theorem d_GateOrder_has_6 : decode prog_4_method_6_code 6 = .ok (.lcmp, 1) := by decide +kernel
theorem d_GateOrder_has_7 : decode prog_4_method_6_code 7 = .ok (.ifCond .eq 7, 3) := by decide +kernel
theorem d_GateOrder_has_10 : decode prog_4_method_6_code 10 = .ok (.iconst 1, 1) := by decide +kernel
theorem d_GateOrder_has_11 : decode prog_4_method_6_code 11 = .ok (.goto 4, 3) := by decide +kernel
theorem d_GateOrder_has_14 : decode prog_4_method_6_code 14 = .ok (.iconst 0, 1) := by decide +kernel
theorem d_GateOrder_has_15 : decode prog_4_method_6_code 15 = .ok (.ireturn, 1) := by decide +kernel
