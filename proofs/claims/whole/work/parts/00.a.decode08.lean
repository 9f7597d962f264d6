theorem d_ClockWays_addWay_38 : decode prog_3_method_14_code 38 = .ok (.aload_n 0, 1) := by decide +kernel
theorem d_ClockWays_addWay_39 : decode prog_3_method_14_code 39 = .ok (.getfield 49, 3) := by decide +kernel
theorem d_ClockWays_addWay_42 : decode prog_3_method_14_code 42 = .ok (.iload 6, 2) := by decide +kernel
theorem d_ClockWays_addWay_44 : decode prog_3_method_14_code 44 = .ok (.iload 5, 2) := by decide +kernel
theorem d_ClockWays_addWay_46 : decode prog_3_method_14_code 46 = .ok (.iastore, 1) := by decide +kernel
theorem d_ClockWays_addWay_47 : decode prog_3_method_14_code 47 = .ok (.aload_n 0, 1) := by decide +kernel
theorem d_ClockWays_addWay_48 : decode prog_3_method_14_code 48 = .ok (.getfield 37, 3) := by decide +kernel
theorem d_ClockWays_addWay_51 : decode prog_3_method_14_code 51 = .ok (.iload_n 1, 1) := by decide +kernel
theorem d_ClockWays_addWay_52 : decode prog_3_method_14_code 52 = .ok (.dup2, 1) := by decide +kernel
theorem d_ClockWays_addWay_53 : decode prog_3_method_14_code 53 = .ok (.iaload, 1) := by decide +kernel
theorem d_ClockWays_addWay_54 : decode prog_3_method_14_code 54 = .ok (.iconst 1, 1) := by decide +kernel
theorem d_ClockWays_addWay_55 : decode prog_3_method_14_code 55 = .ok (.iadd, 1) := by decide +kernel
theorem d_ClockWays_addWay_56 : decode prog_3_method_14_code 56 = .ok (.iastore, 1) := by decide +kernel
theorem d_ClockWays_addWay_57 : decode prog_3_method_14_code 57 = .ok (.return_, 1) := by decide +kernel
theorem d_ClockWays_baseOf_0 : decode prog_3_method_15_code 0 = .ok (.iload_n 1, 1) := by decide +kernel
theorem d_ClockWays_baseOf_1 : decode prog_3_method_15_code 1 = .ok (.istore_n 2, 1) := by decide +kernel
theorem d_ClockWays_baseOf_2 : decode prog_3_method_15_code 2 = .ok (.iconst 0, 1) := by decide +kernel
theorem d_ClockWays_baseOf_3 : decode prog_3_method_15_code 3 = .ok (.istore_n 3, 1) := by decide +kernel
theorem d_ClockWays_baseOf_4 : decode prog_3_method_15_code 4 = .ok (.iload_n 3, 1) := by decide +kernel
theorem d_ClockWays_baseOf_5 : decode prog_3_method_15_code 5 = .ok (.bipush 48, 2) := by decide +kernel
theorem d_ClockWays_baseOf_7 : decode prog_3_method_15_code 7 = .ok (.if_icmp .ge 25, 3) := by decide +kernel
theorem d_ClockWays_baseOf_10 : decode prog_3_method_15_code 10 = .ok (.aload_n 0, 1) := by decide +kernel
theorem d_ClockWays_baseOf_11 : decode prog_3_method_15_code 11 = .ok (.getfield 19, 3) := by decide +kernel
theorem d_ClockWays_baseOf_14 : decode prog_3_method_15_code 14 = .ok (.iload_n 2, 1) := by decide +kernel
theorem d_ClockWays_baseOf_15 : decode prog_3_method_15_code 15 = .ok (.iaload, 1) := by decide +kernel
theorem d_ClockWays_baseOf_16 : decode prog_3_method_15_code 16 = .ok (.ifCond .lt 16, 3) := by decide +kernel
theorem d_ClockWays_baseOf_19 : decode prog_3_method_15_code 19 = .ok (.aload_n 0, 1) := by decide +kernel
theorem d_ClockWays_baseOf_20 : decode prog_3_method_15_code 20 = .ok (.getfield 19, 3) := by decide +kernel
theorem d_ClockWays_baseOf_23 : decode prog_3_method_15_code 23 = .ok (.iload_n 2, 1) := by decide +kernel
theorem d_ClockWays_baseOf_24 : decode prog_3_method_15_code 24 = .ok (.iaload, 1) := by decide +kernel
theorem d_ClockWays_baseOf_25 : decode prog_3_method_15_code 25 = .ok (.istore_n 2, 1) := by decide +kernel
theorem d_ClockWays_baseOf_26 : decode prog_3_method_15_code 26 = .ok (.iinc 3 1, 3) := by decide +kernel
theorem d_ClockWays_baseOf_29 : decode prog_3_method_15_code 29 = .ok (.goto (-25), 3) := by decide +kernel
theorem d_ClockWays_baseOf_32 : decode prog_3_method_15_code 32 = .ok (.aload_n 0, 1) := by decide +kernel
theorem d_ClockWays_baseOf_33 : decode prog_3_method_15_code 33 = .ok (.getfield 15, 3) := by decide +kernel
theorem d_ClockWays_baseOf_36 : decode prog_3_method_15_code 36 = .ok (.iload_n 2, 1) := by decide +kernel
theorem d_ClockWays_baseOf_37 : decode prog_3_method_15_code 37 = .ok (.iaload, 1) := by decide +kernel
theorem d_ClockWays_baseOf_38 : decode prog_3_method_15_code 38 = .ok (.iconst 0, 1) := by decide +kernel
theorem d_ClockWays_baseOf_39 : decode prog_3_method_15_code 39 = .ok (.iconst 0, 1) := by decide +kernel
theorem d_ClockWays_baseOf_40 : decode prog_3_method_15_code 40 = .ok (.iconst 0, 1) := by decide +kernel
theorem d_ClockWays_baseOf_41 : decode prog_3_method_15_code 41 = .ok (.invokestatic 152, 3) := by decide +kernel
theorem d_ClockWays_baseOf_44 : decode prog_3_method_15_code 44 = .ok (.if_icmp .ne 7, 3) := by decide +kernel
theorem d_ClockWays_baseOf_47 : decode prog_3_method_15_code 47 = .ok (.iconst 0, 1) := by decide +kernel
theorem d_ClockWays_baseOf_48 : decode prog_3_method_15_code 48 = .ok (.goto 10, 3) := by decide +kernel
theorem d_ClockWays_baseOf_51 : decode prog_3_method_15_code 51 = .ok (.aload_n 0, 1) := by decide +kernel
theorem d_ClockWays_baseOf_52 : decode prog_3_method_15_code 52 = .ok (.getfield 52, 3) := by decide +kernel
theorem d_ClockWays_baseOf_55 : decode prog_3_method_15_code 55 = .ok (.getfield 173, 3) := by decide +kernel
theorem d_ClockWays_baseOf_58 : decode prog_3_method_15_code 58 = .ok (.ireturn, 1) := by decide +kernel
theorem d_ClockWays_sharedEnd_0 : decode prog_3_method_16_code 0 = .ok (.iload_n 1, 1) := by decide +kernel
theorem d_ClockWays_sharedEnd_1 : decode prog_3_method_16_code 1 = .ok (.istore_n 3, 1) := by decide +kernel
theorem d_ClockWays_sharedEnd_2 : decode prog_3_method_16_code 2 = .ok (.iload_n 2, 1) := by decide +kernel
theorem d_ClockWays_sharedEnd_3 : decode prog_3_method_16_code 3 = .ok (.istore 4, 2) := by decide +kernel
theorem d_ClockWays_sharedEnd_5 : decode prog_3_method_16_code 5 = .ok (.iconst 0, 1) := by decide +kernel
theorem d_ClockWays_sharedEnd_6 : decode prog_3_method_16_code 6 = .ok (.istore 5, 2) := by decide +kernel
theorem d_ClockWays_sharedEnd_8 : decode prog_3_method_16_code 8 = .ok (.iload 5, 2) := by decide +kernel
theorem d_ClockWays_sharedEnd_10 : decode prog_3_method_16_code 10 = .ok (.bipush 96, 2) := by decide +kernel
theorem d_ClockWays_sharedEnd_12 : decode prog_3_method_16_code 12 = .ok (.if_icmp .ge 59, 3) := by decide +kernel
theorem d_ClockWays_sharedEnd_15 : decode prog_3_method_16_code 15 = .ok (.iload_n 3, 1) := by decide +kernel
theorem d_ClockWays_sharedEnd_16 : decode prog_3_method_16_code 16 = .ok (.ifCond .lt 55, 3) := by decide +kernel
theorem d_ClockWays_sharedEnd_19 : decode prog_3_method_16_code 19 = .ok (.iload 4, 2) := by decide +kernel
theorem d_ClockWays_sharedEnd_21 : decode prog_3_method_16_code 21 = .ok (.ifCond .lt 50, 3) := by decide +kernel
theorem d_ClockWays_sharedEnd_24 : decode prog_3_method_16_code 24 = .ok (.iload_n 3, 1) := by decide +kernel
theorem d_ClockWays_sharedEnd_25 : decode prog_3_method_16_code 25 = .ok (.iload 4, 2) := by decide +kernel
theorem d_ClockWays_sharedEnd_27 : decode prog_3_method_16_code 27 = .ok (.if_icmp .eq 44, 3) := by decide +kernel
theorem d_ClockWays_sharedEnd_30 : decode prog_3_method_16_code 30 = .ok (.aload_n 0, 1) := by decide +kernel
theorem d_ClockWays_sharedEnd_31 : decode prog_3_method_16_code 31 = .ok (.getfield 22, 3) := by decide +kernel
theorem d_ClockWays_sharedEnd_34 : decode prog_3_method_16_code 34 = .ok (.iload_n 3, 1) := by decide +kernel
theorem d_ClockWays_sharedEnd_35 : decode prog_3_method_16_code 35 = .ok (.iaload, 1) := by decide +kernel
theorem d_ClockWays_sharedEnd_36 : decode prog_3_method_16_code 36 = .ok (.aload_n 0, 1) := by decide +kernel
theorem d_ClockWays_sharedEnd_37 : decode prog_3_method_16_code 37 = .ok (.getfield 22, 3) := by decide +kernel
theorem d_ClockWays_sharedEnd_40 : decode prog_3_method_16_code 40 = .ok (.iload 4, 2) := by decide +kernel
theorem d_ClockWays_sharedEnd_42 : decode prog_3_method_16_code 42 = .ok (.iaload, 1) := by decide +kernel
theorem d_ClockWays_sharedEnd_43 : decode prog_3_method_16_code 43 = .ok (.if_icmp .lt 13, 3) := by decide +kernel
theorem d_ClockWays_sharedEnd_46 : decode prog_3_method_16_code 46 = .ok (.aload_n 0, 1) := by decide +kernel
theorem d_ClockWays_sharedEnd_47 : decode prog_3_method_16_code 47 = .ok (.getfield 19, 3) := by decide +kernel
theorem d_ClockWays_sharedEnd_50 : decode prog_3_method_16_code 50 = .ok (.iload_n 3, 1) := by decide +kernel
theorem d_ClockWays_sharedEnd_51 : decode prog_3_method_16_code 51 = .ok (.iaload, 1) := by decide +kernel
theorem d_ClockWays_sharedEnd_52 : decode prog_3_method_16_code 52 = .ok (.istore_n 3, 1) := by decide +kernel
theorem d_ClockWays_sharedEnd_53 : decode prog_3_method_16_code 53 = .ok (.goto 12, 3) := by decide +kernel
theorem d_ClockWays_sharedEnd_56 : decode prog_3_method_16_code 56 = .ok (.aload_n 0, 1) := by decide +kernel
theorem d_ClockWays_sharedEnd_57 : decode prog_3_method_16_code 57 = .ok (.getfield 19, 3) := by decide +kernel
theorem d_ClockWays_sharedEnd_60 : decode prog_3_method_16_code 60 = .ok (.iload 4, 2) := by decide +kernel
theorem d_ClockWays_sharedEnd_62 : decode prog_3_method_16_code 62 = .ok (.iaload, 1) := by decide +kernel
theorem d_ClockWays_sharedEnd_63 : decode prog_3_method_16_code 63 = .ok (.istore 4, 2) := by decide +kernel
theorem d_ClockWays_sharedEnd_65 : decode prog_3_method_16_code 65 = .ok (.iinc 5 1, 3) := by decide +kernel
theorem d_ClockWays_sharedEnd_68 : decode prog_3_method_16_code 68 = .ok (.goto (-60), 3) := by decide +kernel
theorem d_ClockWays_sharedEnd_71 : decode prog_3_method_16_code 71 = .ok (.iload_n 3, 1) := by decide +kernel
theorem d_ClockWays_sharedEnd_72 : decode prog_3_method_16_code 72 = .ok (.iload 4, 2) := by decide +kernel
theorem d_ClockWays_sharedEnd_74 : decode prog_3_method_16_code 74 = .ok (.if_icmp .ne 7, 3) := by decide +kernel
theorem d_ClockWays_sharedEnd_77 : decode prog_3_method_16_code 77 = .ok (.iload_n 3, 1) := by decide +kernel
theorem d_ClockWays_sharedEnd_78 : decode prog_3_method_16_code 78 = .ok (.goto 4, 3) := by decide +kernel
theorem d_ClockWays_sharedEnd_81 : decode prog_3_method_16_code 81 = .ok (.iconst (-1), 1) := by decide +kernel
theorem d_ClockWays_sharedEnd_82 : decode prog_3_method_16_code 82 = .ok (.ireturn, 1) := by decide +kernel
