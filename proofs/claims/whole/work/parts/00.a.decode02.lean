theorem d_M_isRound_136 : decode prog_12_method_18_code 136 = .ok (.iload_n 3, 1) := by decide +kernel
theorem d_M_isRound_137 : decode prog_12_method_18_code 137 = .ok (.iconst 1, 1) := by decide +kernel
theorem d_M_isRound_138 : decode prog_12_method_18_code 138 = .ok (.bastore, 1) := by decide +kernel
theorem d_M_isRound_139 : decode prog_12_method_18_code 139 = .ok (.iinc 4 1, 3) := by decide +kernel
theorem d_M_isRound_142 : decode prog_12_method_18_code 142 = .ok (.goto (-93), 3) := by decide +kernel
theorem d_M_isRound_145 : decode prog_12_method_18_code 145 = .ok (.iinc 3 1, 3) := by decide +kernel
theorem d_M_isRound_148 : decode prog_12_method_18_code 148 = .ok (.goto (-110), 3) := by decide +kernel
theorem d_M_isRound_151 : decode prog_12_method_18_code 151 = .ok (.goto (-121), 3) := by decide +kernel
theorem d_M_isRound_154 : decode prog_12_method_18_code 154 = .ok (.iconst 0, 1) := by decide +kernel
theorem d_M_isRound_155 : decode prog_12_method_18_code 155 = .ok (.ireturn, 1) := by decide +kernel
theorem d_M_cycle_0 : decode prog_12_method_19_code 0 = .ok (.aload_n 0, 1) := by decide +kernel
theorem d_M_cycle_1 : decode prog_12_method_19_code 1 = .ok (.iconst 0, 1) := by decide +kernel
theorem d_M_cycle_2 : decode prog_12_method_19_code 2 = .ok (.putfield 137, 3) := by decide +kernel
theorem d_M_cycle_5 : decode prog_12_method_19_code 5 = .ok (.iconst 0, 1) := by decide +kernel
theorem d_M_cycle_6 : decode prog_12_method_19_code 6 = .ok (.istore_n 1, 1) := by decide +kernel
theorem d_M_cycle_7 : decode prog_12_method_19_code 7 = .ok (.iload_n 1, 1) := by decide +kernel
theorem d_M_cycle_8 : decode prog_12_method_19_code 8 = .ok (.aload_n 0, 1) := by decide +kernel
theorem d_M_cycle_9 : decode prog_12_method_19_code 9 = .ok (.getfield 16, 3) := by decide +kernel
theorem d_M_cycle_12 : decode prog_12_method_19_code 12 = .ok (.if_icmp .ge 27, 3) := by decide +kernel
theorem d_M_cycle_15 : decode prog_12_method_19_code 15 = .ok (.aload_n 0, 1) := by decide +kernel
theorem d_M_cycle_16 : decode prog_12_method_19_code 16 = .ok (.iload_n 1, 1) := by decide +kernel
theorem d_M_cycle_17 : decode prog_12_method_19_code 17 = .ok (.invokevirtual 163, 3) := by decide +kernel
theorem d_M_cycle_20 : decode prog_12_method_19_code 20 = .ok (.ifCond .eq 13, 3) := by decide +kernel
theorem d_M_cycle_23 : decode prog_12_method_19_code 23 = .ok (.aload_n 0, 1) := by decide +kernel
theorem d_M_cycle_24 : decode prog_12_method_19_code 24 = .ok (.iload_n 1, 1) := by decide +kernel
theorem d_M_cycle_25 : decode prog_12_method_19_code 25 = .ok (.invokevirtual 166, 3) := by decide +kernel
theorem d_M_cycle_28 : decode prog_12_method_19_code 28 = .ok (.ifCond .eq 5, 3) := by decide +kernel
theorem d_M_cycle_31 : decode prog_12_method_19_code 31 = .ok (.iload_n 1, 1) := by decide +kernel
theorem d_M_cycle_32 : decode prog_12_method_19_code 32 = .ok (.ireturn, 1) := by decide +kernel
theorem d_M_cycle_33 : decode prog_12_method_19_code 33 = .ok (.iinc 1 1, 3) := by decide +kernel
theorem d_M_cycle_36 : decode prog_12_method_19_code 36 = .ok (.goto (-29), 3) := by decide +kernel
theorem d_M_cycle_39 : decode prog_12_method_19_code 39 = .ok (.ldc 140, 2) := by decide +kernel
theorem d_M_cycle_41 : decode prog_12_method_19_code 41 = .ok (.ireturn, 1) := by decide +kernel
theorem d_M_sort_0 : decode prog_12_method_20_code 0 = .ok (.aload_n 0, 1) := by decide +kernel
theorem d_M_sort_1 : decode prog_12_method_20_code 1 = .ok (.iconst 0, 1) := by decide +kernel
theorem d_M_sort_2 : decode prog_12_method_20_code 2 = .ok (.putfield 169, 3) := by decide +kernel
theorem d_M_sort_5 : decode prog_12_method_20_code 5 = .ok (.iconst 0, 1) := by decide +kernel
theorem d_M_sort_6 : decode prog_12_method_20_code 6 = .ok (.istore_n 1, 1) := by decide +kernel
theorem d_M_sort_7 : decode prog_12_method_20_code 7 = .ok (.iload_n 1, 1) := by decide +kernel
theorem d_M_sort_8 : decode prog_12_method_20_code 8 = .ok (.bipush 96, 2) := by decide +kernel
theorem d_M_sort_10 : decode prog_12_method_20_code 10 = .ok (.if_icmp .ge 16, 3) := by decide +kernel
theorem d_M_sort_13 : decode prog_12_method_20_code 13 = .ok (.aload_n 0, 1) := by decide +kernel
theorem d_M_sort_14 : decode prog_12_method_20_code 14 = .ok (.getfield 80, 3) := by decide +kernel
theorem d_M_sort_17 : decode prog_12_method_20_code 17 = .ok (.iload_n 1, 1) := by decide +kernel
theorem d_M_sort_18 : decode prog_12_method_20_code 18 = .ok (.iconst 0, 1) := by decide +kernel
theorem d_M_sort_19 : decode prog_12_method_20_code 19 = .ok (.bastore, 1) := by decide +kernel
theorem d_M_sort_20 : decode prog_12_method_20_code 20 = .ok (.iinc 1 1, 3) := by decide +kernel
theorem d_M_sort_23 : decode prog_12_method_20_code 23 = .ok (.goto (-16), 3) := by decide +kernel
theorem d_M_sort_26 : decode prog_12_method_20_code 26 = .ok (.iconst 0, 1) := by decide +kernel
theorem d_M_sort_27 : decode prog_12_method_20_code 27 = .ok (.istore_n 1, 1) := by decide +kernel
theorem d_M_sort_28 : decode prog_12_method_20_code 28 = .ok (.iload_n 1, 1) := by decide +kernel
theorem d_M_sort_29 : decode prog_12_method_20_code 29 = .ok (.aload_n 0, 1) := by decide +kernel
theorem d_M_sort_30 : decode prog_12_method_20_code 30 = .ok (.getfield 16, 3) := by decide +kernel
theorem d_M_sort_33 : decode prog_12_method_20_code 33 = .ok (.if_icmp .ge 141, 3) := by decide +kernel
theorem d_M_sort_36 : decode prog_12_method_20_code 36 = .ok (.iconst 0, 1) := by decide +kernel
theorem d_M_sort_37 : decode prog_12_method_20_code 37 = .ok (.istore_n 2, 1) := by decide +kernel
theorem d_M_sort_38 : decode prog_12_method_20_code 38 = .ok (.iload_n 2, 1) := by decide +kernel
theorem d_M_sort_39 : decode prog_12_method_20_code 39 = .ok (.aload_n 0, 1) := by decide +kernel
theorem d_M_sort_40 : decode prog_12_method_20_code 40 = .ok (.getfield 16, 3) := by decide +kernel
theorem d_M_sort_43 : decode prog_12_method_20_code 43 = .ok (.if_icmp .ge 125, 3) := by decide +kernel
theorem d_M_sort_46 : decode prog_12_method_20_code 46 = .ok (.aload_n 0, 1) := by decide +kernel
theorem d_M_sort_47 : decode prog_12_method_20_code 47 = .ok (.iload_n 2, 1) := by decide +kernel
theorem d_M_sort_48 : decode prog_12_method_20_code 48 = .ok (.invokevirtual 163, 3) := by decide +kernel
theorem d_M_sort_51 : decode prog_12_method_20_code 51 = .ok (.ifCond .eq 16, 3) := by decide +kernel
theorem d_M_sort_54 : decode prog_12_method_20_code 54 = .ok (.aload_n 0, 1) := by decide +kernel
theorem d_M_sort_55 : decode prog_12_method_20_code 55 = .ok (.getfield 80, 3) := by decide +kernel
theorem d_M_sort_58 : decode prog_12_method_20_code 58 = .ok (.iload_n 2, 1) := by decide +kernel
theorem d_M_sort_59 : decode prog_12_method_20_code 59 = .ok (.baload, 1) := by decide +kernel
theorem d_M_sort_60 : decode prog_12_method_20_code 60 = .ok (.ifCond .ne 7, 3) := by decide +kernel
theorem d_M_sort_63 : decode prog_12_method_20_code 63 = .ok (.iconst 1, 1) := by decide +kernel
theorem d_M_sort_64 : decode prog_12_method_20_code 64 = .ok (.goto 4, 3) := by decide +kernel
theorem d_M_sort_67 : decode prog_12_method_20_code 67 = .ok (.iconst 0, 1) := by decide +kernel
theorem d_M_sort_68 : decode prog_12_method_20_code 68 = .ok (.istore_n 3, 1) := by decide +kernel
theorem d_M_sort_69 : decode prog_12_method_20_code 69 = .ok (.iconst 0, 1) := by decide +kernel
theorem d_M_sort_70 : decode prog_12_method_20_code 70 = .ok (.istore 4, 2) := by decide +kernel
theorem d_M_sort_72 : decode prog_12_method_20_code 72 = .ok (.iload 4, 2) := by decide +kernel
theorem d_M_sort_74 : decode prog_12_method_20_code 74 = .ok (.aload_n 0, 1) := by decide +kernel
theorem d_M_sort_75 : decode prog_12_method_20_code 75 = .ok (.getfield 23, 3) := by decide +kernel
theorem d_M_sort_78 : decode prog_12_method_20_code 78 = .ok (.iload_n 2, 1) := by decide +kernel
theorem d_M_sort_79 : decode prog_12_method_20_code 79 = .ok (.iaload, 1) := by decide +kernel
theorem d_M_sort_80 : decode prog_12_method_20_code 80 = .ok (.if_icmp .ge 51, 3) := by decide +kernel
theorem d_M_sort_83 : decode prog_12_method_20_code 83 = .ok (.iload_n 3, 1) := by decide +kernel
theorem d_M_sort_84 : decode prog_12_method_20_code 84 = .ok (.ifCond .eq 47, 3) := by decide +kernel
theorem d_M_sort_87 : decode prog_12_method_20_code 87 = .ok (.aload_n 0, 1) := by decide +kernel
theorem d_M_sort_88 : decode prog_12_method_20_code 88 = .ok (.getfield 26, 3) := by decide +kernel
theorem d_M_sort_91 : decode prog_12_method_20_code 91 = .ok (.iconst 3, 1) := by decide +kernel
theorem d_M_sort_92 : decode prog_12_method_20_code 92 = .ok (.iload_n 2, 1) := by decide +kernel
theorem d_M_sort_93 : decode prog_12_method_20_code 93 = .ok (.imul, 1) := by decide +kernel
theorem d_M_sort_94 : decode prog_12_method_20_code 94 = .ok (.iload 4, 2) := by decide +kernel
theorem d_M_sort_96 : decode prog_12_method_20_code 96 = .ok (.iadd, 1) := by decide +kernel
theorem d_M_sort_97 : decode prog_12_method_20_code 97 = .ok (.iaload, 1) := by decide +kernel
theorem d_M_sort_98 : decode prog_12_method_20_code 98 = .ok (.istore 5, 2) := by decide +kernel
theorem d_M_sort_100 : decode prog_12_method_20_code 100 = .ok (.aload_n 0, 1) := by decide +kernel
theorem d_M_sort_101 : decode prog_12_method_20_code 101 = .ok (.iload 5, 2) := by decide +kernel
theorem d_M_sort_103 : decode prog_12_method_20_code 103 = .ok (.invokevirtual 163, 3) := by decide +kernel
theorem d_M_sort_106 : decode prog_12_method_20_code 106 = .ok (.ifCond .eq 13, 3) := by decide +kernel
theorem d_M_sort_109 : decode prog_12_method_20_code 109 = .ok (.aload_n 0, 1) := by decide +kernel
theorem d_M_sort_110 : decode prog_12_method_20_code 110 = .ok (.getfield 80, 3) := by decide +kernel
theorem d_M_sort_113 : decode prog_12_method_20_code 113 = .ok (.iload 5, 2) := by decide +kernel
theorem d_M_sort_115 : decode prog_12_method_20_code 115 = .ok (.baload, 1) := by decide +kernel
theorem d_M_sort_116 : decode prog_12_method_20_code 116 = .ok (.ifCond .eq 7, 3) := by decide +kernel
theorem d_M_sort_119 : decode prog_12_method_20_code 119 = .ok (.iconst 1, 1) := by decide +kernel
theorem d_M_sort_120 : decode prog_12_method_20_code 120 = .ok (.goto 4, 3) := by decide +kernel
theorem d_M_sort_123 : decode prog_12_method_20_code 123 = .ok (.iconst 0, 1) := by decide +kernel
theorem d_M_sort_124 : decode prog_12_method_20_code 124 = .ok (.istore_n 3, 1) := by decide +kernel
theorem d_M_sort_125 : decode prog_12_method_20_code 125 = .ok (.iinc 4 1, 3) := by decide +kernel
theorem d_M_sort_128 : decode prog_12_method_20_code 128 = .ok (.goto (-56), 3) := by decide +kernel
theorem d_M_sort_131 : decode prog_12_method_20_code 131 = .ok (.iload_n 3, 1) := by decide +kernel
theorem d_M_sort_132 : decode prog_12_method_20_code 132 = .ok (.ifCond .eq 30, 3) := by decide +kernel
theorem d_M_sort_135 : decode prog_12_method_20_code 135 = .ok (.aload_n 0, 1) := by decide +kernel
theorem d_M_sort_136 : decode prog_12_method_20_code 136 = .ok (.getfield 80, 3) := by decide +kernel
theorem d_M_sort_139 : decode prog_12_method_20_code 139 = .ok (.iload_n 2, 1) := by decide +kernel
theorem d_M_sort_140 : decode prog_12_method_20_code 140 = .ok (.iconst 1, 1) := by decide +kernel
theorem d_M_sort_141 : decode prog_12_method_20_code 141 = .ok (.bastore, 1) := by decide +kernel
theorem d_M_sort_142 : decode prog_12_method_20_code 142 = .ok (.aload_n 0, 1) := by decide +kernel
theorem d_M_sort_143 : decode prog_12_method_20_code 143 = .ok (.getfield 50, 3) := by decide +kernel
theorem d_M_sort_146 : decode prog_12_method_20_code 146 = .ok (.aload_n 0, 1) := by decide +kernel
theorem d_M_sort_147 : decode prog_12_method_20_code 147 = .ok (.getfield 169, 3) := by decide +kernel
theorem d_M_sort_150 : decode prog_12_method_20_code 150 = .ok (.iload_n 2, 1) := by decide +kernel
theorem d_M_sort_151 : decode prog_12_method_20_code 151 = .ok (.iastore, 1) := by decide +kernel
theorem d_M_sort_152 : decode prog_12_method_20_code 152 = .ok (.aload_n 0, 1) := by decide +kernel
theorem d_M_sort_153 : decode prog_12_method_20_code 153 = .ok (.dup, 1) := by decide +kernel
theorem d_M_sort_154 : decode prog_12_method_20_code 154 = .ok (.getfield 169, 3) := by decide +kernel
theorem d_M_sort_157 : decode prog_12_method_20_code 157 = .ok (.iconst 1, 1) := by decide +kernel
theorem d_M_sort_158 : decode prog_12_method_20_code 158 = .ok (.iadd, 1) := by decide +kernel
theorem d_M_sort_159 : decode prog_12_method_20_code 159 = .ok (.putfield 169, 3) := by decide +kernel
theorem d_M_sort_162 : decode prog_12_method_20_code 162 = .ok (.iinc 2 1, 3) := by decide +kernel
theorem d_M_sort_165 : decode prog_12_method_20_code 165 = .ok (.goto (-127), 3) := by decide +kernel
theorem d_M_sort_168 : decode prog_12_method_20_code 168 = .ok (.iinc 1 1, 3) := by decide +kernel
theorem d_M_sort_171 : decode prog_12_method_20_code 171 = .ok (.goto (-143), 3) := by decide +kernel
theorem d_M_sort_174 : decode prog_12_method_20_code 174 = .ok (.return_, 1) := by decide +kernel
theorem d_M_lets_0 : decode prog_12_method_21_code 0 = .ok (.aload_n 0, 1) := by decide +kernel
theorem d_M_lets_1 : decode prog_12_method_21_code 1 = .ok (.getfield 35, 3) := by decide +kernel
theorem d_M_lets_4 : decode prog_12_method_21_code 4 = .ok (.iconst 3, 1) := by decide +kernel
theorem d_M_lets_5 : decode prog_12_method_21_code 5 = .ok (.iload_n 1, 1) := by decide +kernel
theorem d_M_lets_6 : decode prog_12_method_21_code 6 = .ok (.imul, 1) := by decide +kernel
theorem d_M_lets_7 : decode prog_12_method_21_code 7 = .ok (.iload_n 2, 1) := by decide +kernel
theorem d_M_lets_8 : decode prog_12_method_21_code 8 = .ok (.iadd, 1) := by decide +kernel
theorem d_M_lets_9 : decode prog_12_method_21_code 9 = .ok (.iaload, 1) := by decide +kernel
theorem d_M_lets_10 : decode prog_12_method_21_code 10 = .ok (.istore 5, 2) := by decide +kernel
theorem d_M_lets_12 : decode prog_12_method_21_code 12 = .ok (.iload 5, 2) := by decide +kernel
theorem d_M_lets_14 : decode prog_12_method_21_code 14 = .ok (.iconst 2, 1) := by decide +kernel
theorem d_M_lets_15 : decode prog_12_method_21_code 15 = .ok (.if_icmp .eq 23, 3) := by decide +kernel
theorem d_M_lets_18 : decode prog_12_method_21_code 18 = .ok (.iload 5, 2) := by decide +kernel
theorem d_M_lets_20 : decode prog_12_method_21_code 20 = .ok (.ifCond .ne 12, 3) := by decide +kernel
theorem d_M_lets_23 : decode prog_12_method_21_code 23 = .ok (.iload_n 3, 1) := by decide +kernel
theorem d_M_lets_24 : decode prog_12_method_21_code 24 = .ok (.iload 4, 2) := by decide +kernel
theorem d_M_lets_26 : decode prog_12_method_21_code 26 = .ok (.if_icmp .ne 16, 3) := by decide +kernel
theorem d_M_lets_29 : decode prog_12_method_21_code 29 = .ok (.goto 9, 3) := by decide +kernel
theorem d_M_lets_32 : decode prog_12_method_21_code 32 = .ok (.iload_n 3, 1) := by decide +kernel
theorem d_M_lets_33 : decode prog_12_method_21_code 33 = .ok (.iload 4, 2) := by decide +kernel
theorem d_M_lets_35 : decode prog_12_method_21_code 35 = .ok (.if_icmp .eq 7, 3) := by decide +kernel
theorem d_M_lets_38 : decode prog_12_method_21_code 38 = .ok (.iconst 1, 1) := by decide +kernel
theorem d_M_lets_39 : decode prog_12_method_21_code 39 = .ok (.goto 4, 3) := by decide +kernel
theorem d_M_lets_42 : decode prog_12_method_21_code 42 = .ok (.iconst 0, 1) := by decide +kernel
theorem d_M_lets_43 : decode prog_12_method_21_code 43 = .ok (.ireturn, 1) := by decide +kernel
theorem d_M_countClock_0 : decode prog_12_method_22_code 0 = .ok (.iconst 0, 1) := by decide +kernel
theorem d_M_countClock_1 : decode prog_12_method_22_code 1 = .ok (.istore_n 1, 1) := by decide +kernel
theorem d_M_countClock_2 : decode prog_12_method_22_code 2 = .ok (.iload_n 1, 1) := by decide +kernel
theorem d_M_countClock_3 : decode prog_12_method_22_code 3 = .ok (.bipush 96, 2) := by decide +kernel
theorem d_M_countClock_5 : decode prog_12_method_22_code 5 = .ok (.if_icmp .ge 16, 3) := by decide +kernel
theorem d_M_countClock_8 : decode prog_12_method_22_code 8 = .ok (.aload_n 0, 1) := by decide +kernel
theorem d_M_countClock_9 : decode prog_12_method_22_code 9 = .ok (.getfield 77, 3) := by decide +kernel
theorem d_M_countClock_12 : decode prog_12_method_22_code 12 = .ok (.iload_n 1, 1) := by decide +kernel
theorem d_M_countClock_13 : decode prog_12_method_22_code 13 = .ok (.iconst 0, 1) := by decide +kernel
theorem d_M_countClock_14 : decode prog_12_method_22_code 14 = .ok (.iastore, 1) := by decide +kernel
theorem d_M_countClock_15 : decode prog_12_method_22_code 15 = .ok (.iinc 1 1, 3) := by decide +kernel
theorem d_M_countClock_18 : decode prog_12_method_22_code 18 = .ok (.goto (-16), 3) := by decide +kernel
theorem d_M_countClock_21 : decode prog_12_method_22_code 21 = .ok (.aload_n 0, 1) := by decide +kernel
theorem d_M_countClock_22 : decode prog_12_method_22_code 22 = .ok (.getfield 77, 3) := by decide +kernel
theorem d_M_countClock_25 : decode prog_12_method_22_code 25 = .ok (.iconst 0, 1) := by decide +kernel
theorem d_M_countClock_26 : decode prog_12_method_22_code 26 = .ok (.iconst 1, 1) := by decide +kernel
theorem d_M_countClock_27 : decode prog_12_method_22_code 27 = .ok (.iastore, 1) := by decide +kernel
theorem d_M_countClock_28 : decode prog_12_method_22_code 28 = .ok (.aload_n 0, 1) := by decide +kernel
theorem d_M_countClock_29 : decode prog_12_method_22_code 29 = .ok (.getfield 77, 3) := by decide +kernel
theorem d_M_countClock_32 : decode prog_12_method_22_code 32 = .ok (.iconst 1, 1) := by decide +kernel
theorem d_M_countClock_33 : decode prog_12_method_22_code 33 = .ok (.iconst 1, 1) := by decide +kernel
theorem d_M_countClock_34 : decode prog_12_method_22_code 34 = .ok (.iastore, 1) := by decide +kernel
theorem d_M_countClock_35 : decode prog_12_method_22_code 35 = .ok (.iconst 0, 1) := by decide +kernel
theorem d_M_countClock_36 : decode prog_12_method_22_code 36 = .ok (.istore_n 1, 1) := by decide +kernel
theorem d_M_countClock_37 : decode prog_12_method_22_code 37 = .ok (.iload_n 1, 1) := by decide +kernel
theorem d_M_countClock_38 : decode prog_12_method_22_code 38 = .ok (.aload_n 0, 1) := by decide +kernel
theorem d_M_countClock_39 : decode prog_12_method_22_code 39 = .ok (.getfield 169, 3) := by decide +kernel
theorem d_M_countClock_42 : decode prog_12_method_22_code 42 = .ok (.if_icmp .ge 133, 3) := by decide +kernel
theorem d_M_countClock_45 : decode prog_12_method_22_code 45 = .ok (.aload_n 0, 1) := by decide +kernel
theorem d_M_countClock_46 : decode prog_12_method_22_code 46 = .ok (.getfield 50, 3) := by decide +kernel
theorem d_M_countClock_49 : decode prog_12_method_22_code 49 = .ok (.iload_n 1, 1) := by decide +kernel
theorem d_M_countClock_50 : decode prog_12_method_22_code 50 = .ok (.iaload, 1) := by decide +kernel
theorem d_M_countClock_51 : decode prog_12_method_22_code 51 = .ok (.istore_n 2, 1) := by decide +kernel
theorem d_M_countClock_52 : decode prog_12_method_22_code 52 = .ok (.iconst 0, 1) := by decide +kernel
theorem d_M_countClock_53 : decode prog_12_method_22_code 53 = .ok (.istore_n 3, 1) := by decide +kernel
theorem d_M_countClock_54 : decode prog_12_method_22_code 54 = .ok (.iload_n 3, 1) := by decide +kernel
theorem d_M_countClock_55 : decode prog_12_method_22_code 55 = .ok (.iconst 4, 1) := by decide +kernel
theorem d_M_countClock_56 : decode prog_12_method_22_code 56 = .ok (.aload_n 0, 1) := by decide +kernel
theorem d_M_countClock_57 : decode prog_12_method_22_code 57 = .ok (.getfield 23, 3) := by decide +kernel
theorem d_M_countClock_60 : decode prog_12_method_22_code 60 = .ok (.iload_n 2, 1) := by decide +kernel
theorem d_M_countClock_61 : decode prog_12_method_22_code 61 = .ok (.iaload, 1) := by decide +kernel
theorem d_M_countClock_62 : decode prog_12_method_22_code 62 = .ok (.imul, 1) := by decide +kernel
theorem d_M_countClock_63 : decode prog_12_method_22_code 63 = .ok (.if_icmp .ge 106, 3) := by decide +kernel
theorem d_M_countClock_66 : decode prog_12_method_22_code 66 = .ok (.iload_n 3, 1) := by decide +kernel
theorem d_M_countClock_67 : decode prog_12_method_22_code 67 = .ok (.iconst 4, 1) := by decide +kernel
theorem d_M_countClock_68 : decode prog_12_method_22_code 68 = .ok (.idiv, 1) := by decide +kernel
theorem d_M_countClock_69 : decode prog_12_method_22_code 69 = .ok (.istore 4, 2) := by decide +kernel
theorem d_M_countClock_71 : decode prog_12_method_22_code 71 = .ok (.aload_n 0, 1) := by decide +kernel
theorem d_M_countClock_72 : decode prog_12_method_22_code 72 = .ok (.getfield 26, 3) := by decide +kernel
theorem d_M_countClock_75 : decode prog_12_method_22_code 75 = .ok (.iconst 3, 1) := by decide +kernel
theorem d_M_countClock_76 : decode prog_12_method_22_code 76 = .ok (.iload_n 2, 1) := by decide +kernel
theorem d_M_countClock_77 : decode prog_12_method_22_code 77 = .ok (.imul, 1) := by decide +kernel
theorem d_M_countClock_78 : decode prog_12_method_22_code 78 = .ok (.iload 4, 2) := by decide +kernel
theorem d_M_countClock_80 : decode prog_12_method_22_code 80 = .ok (.iadd, 1) := by decide +kernel
theorem d_M_countClock_81 : decode prog_12_method_22_code 81 = .ok (.iaload, 1) := by decide +kernel
theorem d_M_countClock_82 : decode prog_12_method_22_code 82 = .ok (.istore 5, 2) := by decide +kernel
theorem d_M_countClock_84 : decode prog_12_method_22_code 84 = .ok (.iload 5, 2) := by decide +kernel
theorem d_M_countClock_86 : decode prog_12_method_22_code 86 = .ok (.ifCond .lt 77, 3) := by decide +kernel
theorem d_M_countClock_89 : decode prog_12_method_22_code 89 = .ok (.aload_n 0, 1) := by decide +kernel
theorem d_M_countClock_90 : decode prog_12_method_22_code 90 = .ok (.iload_n 2, 1) := by decide +kernel
theorem d_M_countClock_91 : decode prog_12_method_22_code 91 = .ok (.iload 4, 2) := by decide +kernel
theorem d_M_countClock_93 : decode prog_12_method_22_code 93 = .ok (.iload_n 3, 1) := by decide +kernel
theorem d_M_countClock_94 : decode prog_12_method_22_code 94 = .ok (.iconst 2, 1) := by decide +kernel
theorem d_M_countClock_95 : decode prog_12_method_22_code 95 = .ok (.idiv, 1) := by decide +kernel
theorem d_M_countClock_96 : decode prog_12_method_22_code 96 = .ok (.iconst 2, 1) := by decide +kernel
theorem d_M_countClock_97 : decode prog_12_method_22_code 97 = .ok (.irem, 1) := by decide +kernel
theorem d_M_countClock_98 : decode prog_12_method_22_code 98 = .ok (.iload_n 3, 1) := by decide +kernel
theorem d_M_countClock_99 : decode prog_12_method_22_code 99 = .ok (.iconst 2, 1) := by decide +kernel
theorem d_M_countClock_100 : decode prog_12_method_22_code 100 = .ok (.irem, 1) := by decide +kernel
theorem d_M_countClock_101 : decode prog_12_method_22_code 101 = .ok (.invokevirtual 172, 3) := by decide +kernel
theorem d_M_countClock_104 : decode prog_12_method_22_code 104 = .ok (.ifCond .eq 59, 3) := by decide +kernel
theorem d_M_countClock_107 : decode prog_12_method_22_code 107 = .ok (.aload_n 0, 1) := by decide +kernel
theorem d_M_countClock_108 : decode prog_12_method_22_code 108 = .ok (.getfield 77, 3) := by decide +kernel
theorem d_M_countClock_111 : decode prog_12_method_22_code 111 = .ok (.iconst 2, 1) := by decide +kernel
theorem d_M_countClock_112 : decode prog_12_method_22_code 112 = .ok (.iload_n 2, 1) := by decide +kernel
theorem d_M_countClock_113 : decode prog_12_method_22_code 113 = .ok (.imul, 1) := by decide +kernel
theorem d_M_countClock_114 : decode prog_12_method_22_code 114 = .ok (.iload_n 3, 1) := by decide +kernel
theorem d_M_countClock_115 : decode prog_12_method_22_code 115 = .ok (.iconst 2, 1) := by decide +kernel
theorem d_M_countClock_116 : decode prog_12_method_22_code 116 = .ok (.irem, 1) := by decide +kernel
theorem d_M_countClock_117 : decode prog_12_method_22_code 117 = .ok (.iadd, 1) := by decide +kernel
theorem d_M_countClock_118 : decode prog_12_method_22_code 118 = .ok (.iaload, 1) := by decide +kernel
theorem d_M_countClock_119 : decode prog_12_method_22_code 119 = .ok (.aload_n 0, 1) := by decide +kernel
theorem d_M_countClock_120 : decode prog_12_method_22_code 120 = .ok (.getfield 77, 3) := by decide +kernel
theorem d_M_countClock_123 : decode prog_12_method_22_code 123 = .ok (.iconst 2, 1) := by decide +kernel
theorem d_M_countClock_124 : decode prog_12_method_22_code 124 = .ok (.iload 5, 2) := by decide +kernel
theorem d_M_countClock_126 : decode prog_12_method_22_code 126 = .ok (.imul, 1) := by decide +kernel
theorem d_M_countClock_127 : decode prog_12_method_22_code 127 = .ok (.iload_n 3, 1) := by decide +kernel
theorem d_M_countClock_128 : decode prog_12_method_22_code 128 = .ok (.iconst 2, 1) := by decide +kernel
theorem d_M_countClock_129 : decode prog_12_method_22_code 129 = .ok (.idiv, 1) := by decide +kernel
theorem d_M_countClock_130 : decode prog_12_method_22_code 130 = .ok (.iconst 2, 1) := by decide +kernel
theorem d_M_countClock_131 : decode prog_12_method_22_code 131 = .ok (.irem, 1) := by decide +kernel
theorem d_M_countClock_132 : decode prog_12_method_22_code 132 = .ok (.iadd, 1) := by decide +kernel
theorem d_M_countClock_133 : decode prog_12_method_22_code 133 = .ok (.iaload, 1) := by decide +kernel
theorem d_M_countClock_134 : decode prog_12_method_22_code 134 = .ok (.iadd, 1) := by decide +kernel
theorem d_M_countClock_135 : decode prog_12_method_22_code 135 = .ok (.istore 6, 2) := by decide +kernel
theorem d_M_countClock_137 : decode prog_12_method_22_code 137 = .ok (.aload_n 0, 1) := by decide +kernel
theorem d_M_countClock_138 : decode prog_12_method_22_code 138 = .ok (.getfield 77, 3) := by decide +kernel
theorem d_M_countClock_141 : decode prog_12_method_22_code 141 = .ok (.iconst 2, 1) := by decide +kernel
theorem d_M_countClock_142 : decode prog_12_method_22_code 142 = .ok (.iload_n 2, 1) := by decide +kernel
theorem d_M_countClock_143 : decode prog_12_method_22_code 143 = .ok (.imul, 1) := by decide +kernel
theorem d_M_countClock_144 : decode prog_12_method_22_code 144 = .ok (.iload_n 3, 1) := by decide +kernel
theorem d_M_countClock_145 : decode prog_12_method_22_code 145 = .ok (.iconst 2, 1) := by decide +kernel
theorem d_M_countClock_146 : decode prog_12_method_22_code 146 = .ok (.irem, 1) := by decide +kernel
theorem d_M_countClock_147 : decode prog_12_method_22_code 147 = .ok (.iadd, 1) := by decide +kernel
theorem d_M_countClock_148 : decode prog_12_method_22_code 148 = .ok (.iload 6, 2) := by decide +kernel
theorem d_M_countClock_150 : decode prog_12_method_22_code 150 = .ok (.bipush 9, 2) := by decide +kernel
theorem d_M_countClock_152 : decode prog_12_method_22_code 152 = .ok (.if_icmp .le 8, 3) := by decide +kernel
theorem d_M_countClock_155 : decode prog_12_method_22_code 155 = .ok (.bipush 9, 2) := by decide +kernel
theorem d_M_countClock_157 : decode prog_12_method_22_code 157 = .ok (.goto 5, 3) := by decide +kernel
theorem d_M_countClock_160 : decode prog_12_method_22_code 160 = .ok (.iload 6, 2) := by decide +kernel
theorem d_M_countClock_162 : decode prog_12_method_22_code 162 = .ok (.iastore, 1) := by decide +kernel
theorem d_M_countClock_163 : decode prog_12_method_22_code 163 = .ok (.iinc 3 1, 3) := by decide +kernel
theorem d_M_countClock_166 : decode prog_12_method_22_code 166 = .ok (.goto (-112), 3) := by decide +kernel
theorem d_M_countClock_169 : decode prog_12_method_22_code 169 = .ok (.iinc 1 1, 3) := by decide +kernel
theorem d_M_countClock_172 : decode prog_12_method_22_code 172 = .ok (.goto (-135), 3) := by decide +kernel
theorem d_M_countClock_175 : decode prog_12_method_22_code 175 = .ok (.return_, 1) := by decide +kernel
theorem d_M_keepWay_0 : decode prog_12_method_23_code 0 = .ok (.bipush 8, 2) := by decide +kernel
theorem d_M_keepWay_2 : decode prog_12_method_23_code 2 = .ok (.iload_n 1, 1) := by decide +kernel
theorem d_M_keepWay_3 : decode prog_12_method_23_code 3 = .ok (.imul, 1) := by decide +kernel
theorem d_M_keepWay_4 : decode prog_12_method_23_code 4 = .ok (.aload_n 0, 1) := by decide +kernel
theorem d_M_keepWay_5 : decode prog_12_method_23_code 5 = .ok (.getfield 53, 3) := by decide +kernel
theorem d_M_keepWay_8 : decode prog_12_method_23_code 8 = .ok (.iload_n 1, 1) := by decide +kernel
theorem d_M_keepWay_9 : decode prog_12_method_23_code 9 = .ok (.iaload, 1) := by decide +kernel
theorem d_M_keepWay_10 : decode prog_12_method_23_code 10 = .ok (.iadd, 1) := by decide +kernel
theorem d_M_keepWay_11 : decode prog_12_method_23_code 11 = .ok (.istore_n 3, 1) := by decide +kernel
theorem d_M_keepWay_12 : decode prog_12_method_23_code 12 = .ok (.aload_n 0, 1) := by decide +kernel
theorem d_M_keepWay_13 : decode prog_12_method_23_code 13 = .ok (.getfield 53, 3) := by decide +kernel
theorem d_M_keepWay_16 : decode prog_12_method_23_code 16 = .ok (.iload_n 1, 1) := by decide +kernel
theorem d_M_keepWay_17 : decode prog_12_method_23_code 17 = .ok (.dup2, 1) := by decide +kernel
theorem d_M_keepWay_18 : decode prog_12_method_23_code 18 = .ok (.iaload, 1) := by decide +kernel
theorem d_M_keepWay_19 : decode prog_12_method_23_code 19 = .ok (.iconst 1, 1) := by decide +kernel
theorem d_M_keepWay_20 : decode prog_12_method_23_code 20 = .ok (.iadd, 1) := by decide +kernel
theorem d_M_keepWay_21 : decode prog_12_method_23_code 21 = .ok (.iastore, 1) := by decide +kernel
theorem d_M_keepWay_22 : decode prog_12_method_23_code 22 = .ok (.aload_n 0, 1) := by decide +kernel
theorem d_M_keepWay_23 : decode prog_12_method_23_code 23 = .ok (.getfield 29, 3) := by decide +kernel
theorem d_M_keepWay_26 : decode prog_12_method_23_code 26 = .ok (.iconst 3, 1) := by decide +kernel
theorem d_M_keepWay_27 : decode prog_12_method_23_code 27 = .ok (.iload_n 1, 1) := by decide +kernel
theorem d_M_keepWay_28 : decode prog_12_method_23_code 28 = .ok (.imul, 1) := by decide +kernel
theorem d_M_keepWay_29 : decode prog_12_method_23_code 29 = .ok (.iconst 1, 1) := by decide +kernel
theorem d_M_keepWay_30 : decode prog_12_method_23_code 30 = .ok (.iadd, 1) := by decide +kernel
theorem d_M_keepWay_31 : decode prog_12_method_23_code 31 = .ok (.iaload, 1) := by decide +kernel
theorem d_M_keepWay_32 : decode prog_12_method_23_code 32 = .ok (.istore 4, 2) := by decide +kernel
theorem d_M_keepWay_34 : decode prog_12_method_23_code 34 = .ok (.aload_n 0, 1) := by decide +kernel
theorem d_M_keepWay_35 : decode prog_12_method_23_code 35 = .ok (.getfield 32, 3) := by decide +kernel
theorem d_M_keepWay_38 : decode prog_12_method_23_code 38 = .ok (.iconst 3, 1) := by decide +kernel
theorem d_M_keepWay_39 : decode prog_12_method_23_code 39 = .ok (.iload_n 1, 1) := by decide +kernel
theorem d_M_keepWay_40 : decode prog_12_method_23_code 40 = .ok (.imul, 1) := by decide +kernel
theorem d_M_keepWay_41 : decode prog_12_method_23_code 41 = .ok (.iconst 1, 1) := by decide +kernel
theorem d_M_keepWay_42 : decode prog_12_method_23_code 42 = .ok (.iadd, 1) := by decide +kernel
theorem d_M_keepWay_43 : decode prog_12_method_23_code 43 = .ok (.iaload, 1) := by decide +kernel
theorem d_M_keepWay_44 : decode prog_12_method_23_code 44 = .ok (.istore 5, 2) := by decide +kernel
theorem d_M_keepWay_46 : decode prog_12_method_23_code 46 = .ok (.aload_n 0, 1) := by decide +kernel
theorem d_M_keepWay_47 : decode prog_12_method_23_code 47 = .ok (.getfield 65, 3) := by decide +kernel
theorem d_M_keepWay_50 : decode prog_12_method_23_code 50 = .ok (.iload_n 3, 1) := by decide +kernel
theorem d_M_keepWay_51 : decode prog_12_method_23_code 51 = .ok (.iload 5, 2) := by decide +kernel
theorem d_M_keepWay_53 : decode prog_12_method_23_code 53 = .ok (.iload 4, 2) := by decide +kernel
theorem d_M_keepWay_55 : decode prog_12_method_23_code 55 = .ok (.isub, 1) := by decide +kernel
theorem d_M_keepWay_56 : decode prog_12_method_23_code 56 = .ok (.iastore, 1) := by decide +kernel
theorem d_M_keepWay_57 : decode prog_12_method_23_code 57 = .ok (.aload_n 0, 1) := by decide +kernel
theorem d_M_keepWay_58 : decode prog_12_method_23_code 58 = .ok (.getfield 68, 3) := by decide +kernel
theorem d_M_keepWay_61 : decode prog_12_method_23_code 61 = .ok (.iload_n 3, 1) := by decide +kernel
theorem d_M_keepWay_62 : decode prog_12_method_23_code 62 = .ok (.iload_n 2, 1) := by decide +kernel
theorem d_M_keepWay_63 : decode prog_12_method_23_code 63 = .ok (.iconst 1, 1) := by decide +kernel
theorem d_M_keepWay_64 : decode prog_12_method_23_code 64 = .ok (.iadd, 1) := by decide +kernel
theorem d_M_keepWay_65 : decode prog_12_method_23_code 65 = .ok (.iastore, 1) := by decide +kernel
theorem d_M_keepWay_66 : decode prog_12_method_23_code 66 = .ok (.iconst 0, 1) := by decide +kernel
theorem d_M_keepWay_67 : decode prog_12_method_23_code 67 = .ok (.istore 6, 2) := by decide +kernel
theorem d_M_keepWay_69 : decode prog_12_method_23_code 69 = .ok (.iload 6, 2) := by decide +kernel
theorem d_M_keepWay_71 : decode prog_12_method_23_code 71 = .ok (.iload_n 2, 1) := by decide +kernel
theorem d_M_keepWay_72 : decode prog_12_method_23_code 72 = .ok (.if_icmp .gt 178, 3) := by decide +kernel
theorem d_M_keepWay_75 : decode prog_12_method_23_code 75 = .ok (.bipush 49, 2) := by decide +kernel
theorem d_M_keepWay_77 : decode prog_12_method_23_code 77 = .ok (.iload_n 3, 1) := by decide +kernel
theorem d_M_keepWay_78 : decode prog_12_method_23_code 78 = .ok (.imul, 1) := by decide +kernel
theorem d_M_keepWay_79 : decode prog_12_method_23_code 79 = .ok (.iload_n 2, 1) := by decide +kernel
theorem d_M_keepWay_80 : decode prog_12_method_23_code 80 = .ok (.iadd, 1) := by decide +kernel
theorem d_M_keepWay_81 : decode prog_12_method_23_code 81 = .ok (.iload 6, 2) := by decide +kernel
theorem d_M_keepWay_83 : decode prog_12_method_23_code 83 = .ok (.isub, 1) := by decide +kernel
theorem d_M_keepWay_84 : decode prog_12_method_23_code 84 = .ok (.istore 7, 2) := by decide +kernel
theorem d_M_keepWay_86 : decode prog_12_method_23_code 86 = .ok (.aload_n 0, 1) := by decide +kernel
theorem d_M_keepWay_87 : decode prog_12_method_23_code 87 = .ok (.getfield 71, 3) := by decide +kernel
theorem d_M_keepWay_90 : decode prog_12_method_23_code 90 = .ok (.iload 7, 2) := by decide +kernel
theorem d_M_keepWay_92 : decode prog_12_method_23_code 92 = .ok (.aload_n 0, 1) := by decide +kernel
theorem d_M_keepWay_93 : decode prog_12_method_23_code 93 = .ok (.getfield 118, 3) := by decide +kernel
theorem d_M_keepWay_96 : decode prog_12_method_23_code 96 = .ok (.iload 6, 2) := by decide +kernel
theorem d_M_keepWay_98 : decode prog_12_method_23_code 98 = .ok (.iaload, 1) := by decide +kernel
theorem d_M_keepWay_99 : decode prog_12_method_23_code 99 = .ok (.iastore, 1) := by decide +kernel
theorem d_M_keepWay_100 : decode prog_12_method_23_code 100 = .ok (.aload_n 0, 1) := by decide +kernel
theorem d_M_keepWay_101 : decode prog_12_method_23_code 101 = .ok (.getfield 74, 3) := by decide +kernel
theorem d_M_keepWay_104 : decode prog_12_method_23_code 104 = .ok (.iload 7, 2) := by decide +kernel
theorem d_M_keepWay_106 : decode prog_12_method_23_code 106 = .ok (.iconst 0, 1) := by decide +kernel
theorem d_M_keepWay_107 : decode prog_12_method_23_code 107 = .ok (.iastore, 1) := by decide +kernel
theorem d_M_keepWay_108 : decode prog_12_method_23_code 108 = .ok (.aload_n 0, 1) := by decide +kernel
theorem d_M_keepWay_109 : decode prog_12_method_23_code 109 = .ok (.getfield 118, 3) := by decide +kernel
theorem d_M_keepWay_112 : decode prog_12_method_23_code 112 = .ok (.iload 6, 2) := by decide +kernel
theorem d_M_keepWay_114 : decode prog_12_method_23_code 114 = .ok (.iaload, 1) := by decide +kernel
theorem d_M_keepWay_115 : decode prog_12_method_23_code 115 = .ok (.bipush 8, 2) := by decide +kernel
theorem d_M_keepWay_117 : decode prog_12_method_23_code 117 = .ok (.idiv, 1) := by decide +kernel
theorem d_M_keepWay_118 : decode prog_12_method_23_code 118 = .ok (.istore 8, 2) := by decide +kernel
theorem d_M_keepWay_120 : decode prog_12_method_23_code 120 = .ok (.iload 8, 2) := by decide +kernel
theorem d_M_keepWay_122 : decode prog_12_method_23_code 122 = .ok (.ifCond .le 122, 3) := by decide +kernel
theorem d_M_keepWay_125 : decode prog_12_method_23_code 125 = .ok (.aload_n 0, 1) := by decide +kernel
theorem d_M_keepWay_126 : decode prog_12_method_23_code 126 = .ok (.getfield 118, 3) := by decide +kernel
theorem d_M_keepWay_129 : decode prog_12_method_23_code 129 = .ok (.iload 6, 2) := by decide +kernel
theorem d_M_keepWay_131 : decode prog_12_method_23_code 131 = .ok (.iaload, 1) := by decide +kernel
theorem d_M_keepWay_132 : decode prog_12_method_23_code 132 = .ok (.iconst 2, 1) := by decide +kernel
theorem d_M_keepWay_133 : decode prog_12_method_23_code 133 = .ok (.idiv, 1) := by decide +kernel
theorem d_M_keepWay_134 : decode prog_12_method_23_code 134 = .ok (.iconst 4, 1) := by decide +kernel
theorem d_M_keepWay_135 : decode prog_12_method_23_code 135 = .ok (.irem, 1) := by decide +kernel
theorem d_M_keepWay_136 : decode prog_12_method_23_code 136 = .ok (.istore 9, 2) := by decide +kernel
theorem d_M_keepWay_138 : decode prog_12_method_23_code 138 = .ok (.aload_n 0, 1) := by decide +kernel
theorem d_M_keepWay_139 : decode prog_12_method_23_code 139 = .ok (.getfield 29, 3) := by decide +kernel
theorem d_M_keepWay_142 : decode prog_12_method_23_code 142 = .ok (.iconst 3, 1) := by decide +kernel
theorem d_M_keepWay_143 : decode prog_12_method_23_code 143 = .ok (.iload 8, 2) := by decide +kernel
theorem d_M_keepWay_145 : decode prog_12_method_23_code 145 = .ok (.imul, 1) := by decide +kernel
theorem d_M_keepWay_146 : decode prog_12_method_23_code 146 = .ok (.iload 9, 2) := by decide +kernel
theorem d_M_keepWay_148 : decode prog_12_method_23_code 148 = .ok (.iadd, 1) := by decide +kernel
theorem d_M_keepWay_149 : decode prog_12_method_23_code 149 = .ok (.iaload, 1) := by decide +kernel
theorem d_M_keepWay_150 : decode prog_12_method_23_code 150 = .ok (.aload_n 0, 1) := by decide +kernel
theorem d_M_keepWay_151 : decode prog_12_method_23_code 151 = .ok (.getfield 38, 3) := by decide +kernel
theorem d_M_keepWay_154 : decode prog_12_method_23_code 154 = .ok (.bipush 6, 2) := by decide +kernel
theorem d_M_keepWay_156 : decode prog_12_method_23_code 156 = .ok (.iload 8, 2) := by decide +kernel
theorem d_M_keepWay_158 : decode prog_12_method_23_code 158 = .ok (.imul, 1) := by decide +kernel
theorem d_M_keepWay_159 : decode prog_12_method_23_code 159 = .ok (.iconst 2, 1) := by decide +kernel
theorem d_M_keepWay_160 : decode prog_12_method_23_code 160 = .ok (.iload 9, 2) := by decide +kernel
theorem d_M_keepWay_162 : decode prog_12_method_23_code 162 = .ok (.imul, 1) := by decide +kernel
theorem d_M_keepWay_163 : decode prog_12_method_23_code 163 = .ok (.iadd, 1) := by decide +kernel
theorem d_M_keepWay_164 : decode prog_12_method_23_code 164 = .ok (.aload_n 0, 1) := by decide +kernel
theorem d_M_keepWay_165 : decode prog_12_method_23_code 165 = .ok (.getfield 118, 3) := by decide +kernel
theorem d_M_keepWay_168 : decode prog_12_method_23_code 168 = .ok (.iload 6, 2) := by decide +kernel
theorem d_M_keepWay_170 : decode prog_12_method_23_code 170 = .ok (.iaload, 1) := by decide +kernel
theorem d_M_keepWay_171 : decode prog_12_method_23_code 171 = .ok (.iconst 2, 1) := by decide +kernel
theorem d_M_keepWay_172 : decode prog_12_method_23_code 172 = .ok (.irem, 1) := by decide +kernel
theorem d_M_keepWay_173 : decode prog_12_method_23_code 173 = .ok (.iadd, 1) := by decide +kernel
theorem d_M_keepWay_174 : decode prog_12_method_23_code 174 = .ok (.iaload, 1) := by decide +kernel
theorem d_M_keepWay_175 : decode prog_12_method_23_code 175 = .ok (.iadd, 1) := by decide +kernel
theorem d_M_keepWay_176 : decode prog_12_method_23_code 176 = .ok (.istore 10, 2) := by decide +kernel
theorem d_M_keepWay_178 : decode prog_12_method_23_code 178 = .ok (.aload_n 0, 1) := by decide +kernel
theorem d_M_keepWay_179 : decode prog_12_method_23_code 179 = .ok (.getfield 32, 3) := by decide +kernel
theorem d_M_keepWay_182 : decode prog_12_method_23_code 182 = .ok (.iconst 3, 1) := by decide +kernel
theorem d_M_keepWay_183 : decode prog_12_method_23_code 183 = .ok (.iload 8, 2) := by decide +kernel
theorem d_M_keepWay_185 : decode prog_12_method_23_code 185 = .ok (.imul, 1) := by decide +kernel
theorem d_M_keepWay_186 : decode prog_12_method_23_code 186 = .ok (.iload 9, 2) := by decide +kernel
theorem d_M_keepWay_188 : decode prog_12_method_23_code 188 = .ok (.iadd, 1) := by decide +kernel
theorem d_M_keepWay_189 : decode prog_12_method_23_code 189 = .ok (.iaload, 1) := by decide +kernel
theorem d_M_keepWay_190 : decode prog_12_method_23_code 190 = .ok (.aload_n 0, 1) := by decide +kernel
theorem d_M_keepWay_191 : decode prog_12_method_23_code 191 = .ok (.getfield 41, 3) := by decide +kernel
theorem d_M_keepWay_194 : decode prog_12_method_23_code 194 = .ok (.bipush 6, 2) := by decide +kernel
theorem d_M_keepWay_196 : decode prog_12_method_23_code 196 = .ok (.iload 8, 2) := by decide +kernel
theorem d_M_keepWay_198 : decode prog_12_method_23_code 198 = .ok (.imul, 1) := by decide +kernel
theorem d_M_keepWay_199 : decode prog_12_method_23_code 199 = .ok (.iconst 2, 1) := by decide +kernel
theorem d_M_keepWay_200 : decode prog_12_method_23_code 200 = .ok (.iload 9, 2) := by decide +kernel
theorem d_M_keepWay_202 : decode prog_12_method_23_code 202 = .ok (.imul, 1) := by decide +kernel
theorem d_M_keepWay_203 : decode prog_12_method_23_code 203 = .ok (.iadd, 1) := by decide +kernel
theorem d_M_keepWay_204 : decode prog_12_method_23_code 204 = .ok (.aload_n 0, 1) := by decide +kernel
theorem d_M_keepWay_205 : decode prog_12_method_23_code 205 = .ok (.getfield 118, 3) := by decide +kernel
theorem d_M_keepWay_208 : decode prog_12_method_23_code 208 = .ok (.iload 6, 2) := by decide +kernel
theorem d_M_keepWay_210 : decode prog_12_method_23_code 210 = .ok (.iaload, 1) := by decide +kernel
theorem d_M_keepWay_211 : decode prog_12_method_23_code 211 = .ok (.iconst 2, 1) := by decide +kernel
theorem d_M_keepWay_212 : decode prog_12_method_23_code 212 = .ok (.irem, 1) := by decide +kernel
theorem d_M_keepWay_213 : decode prog_12_method_23_code 213 = .ok (.iadd, 1) := by decide +kernel
theorem d_M_keepWay_214 : decode prog_12_method_23_code 214 = .ok (.iaload, 1) := by decide +kernel
theorem d_M_keepWay_215 : decode prog_12_method_23_code 215 = .ok (.iadd, 1) := by decide +kernel
theorem d_M_keepWay_216 : decode prog_12_method_23_code 216 = .ok (.istore 11, 2) := by decide +kernel
theorem d_M_keepWay_218 : decode prog_12_method_23_code 218 = .ok (.aload_n 0, 1) := by decide +kernel
theorem d_M_keepWay_219 : decode prog_12_method_23_code 219 = .ok (.getfield 74, 3) := by decide +kernel
theorem d_M_keepWay_222 : decode prog_12_method_23_code 222 = .ok (.iload 7, 2) := by decide +kernel
theorem d_M_keepWay_224 : decode prog_12_method_23_code 224 = .ok (.iload 11, 2) := by decide +kernel
theorem d_M_keepWay_226 : decode prog_12_method_23_code 226 = .ok (.iload 10, 2) := by decide +kernel
theorem d_M_keepWay_228 : decode prog_12_method_23_code 228 = .ok (.isub, 1) := by decide +kernel
theorem d_M_keepWay_229 : decode prog_12_method_23_code 229 = .ok (.iastore, 1) := by decide +kernel
theorem d_M_keepWay_230 : decode prog_12_method_23_code 230 = .ok (.iload 4, 2) := by decide +kernel
theorem d_M_keepWay_232 : decode prog_12_method_23_code 232 = .ok (.iload 10, 2) := by decide +kernel
theorem d_M_keepWay_234 : decode prog_12_method_23_code 234 = .ok (.iadd, 1) := by decide +kernel
theorem d_M_keepWay_235 : decode prog_12_method_23_code 235 = .ok (.istore 4, 2) := by decide +kernel
theorem d_M_keepWay_237 : decode prog_12_method_23_code 237 = .ok (.iload 5, 2) := by decide +kernel
theorem d_M_keepWay_239 : decode prog_12_method_23_code 239 = .ok (.iload 11, 2) := by decide +kernel
theorem d_M_keepWay_241 : decode prog_12_method_23_code 241 = .ok (.iadd, 1) := by decide +kernel
theorem d_M_keepWay_242 : decode prog_12_method_23_code 242 = .ok (.istore 5, 2) := by decide +kernel
theorem d_M_keepWay_244 : decode prog_12_method_23_code 244 = .ok (.iinc 6 1, 3) := by decide +kernel
theorem d_M_keepWay_247 : decode prog_12_method_23_code 247 = .ok (.goto (-178), 3) := by decide +kernel
theorem d_M_keepWay_250 : decode prog_12_method_23_code 250 = .ok (.aload_n 0, 1) := by decide +kernel
theorem d_M_keepWay_251 : decode prog_12_method_23_code 251 = .ok (.getfield 59, 3) := by decide +kernel
theorem d_M_keepWay_254 : decode prog_12_method_23_code 254 = .ok (.iload_n 3, 1) := by decide +kernel
theorem d_M_keepWay_255 : decode prog_12_method_23_code 255 = .ok (.iload 4, 2) := by decide +kernel
theorem d_M_keepWay_257 : decode prog_12_method_23_code 257 = .ok (.iastore, 1) := by decide +kernel
theorem d_M_keepWay_258 : decode prog_12_method_23_code 258 = .ok (.aload_n 0, 1) := by decide +kernel
theorem d_M_keepWay_259 : decode prog_12_method_23_code 259 = .ok (.getfield 62, 3) := by decide +kernel
theorem d_M_keepWay_262 : decode prog_12_method_23_code 262 = .ok (.iload_n 3, 1) := by decide +kernel
theorem d_M_keepWay_263 : decode prog_12_method_23_code 263 = .ok (.iload 5, 2) := by decide +kernel
theorem d_M_keepWay_265 : decode prog_12_method_23_code 265 = .ok (.iastore, 1) := by decide +kernel
theorem d_M_keepWay_266 : decode prog_12_method_23_code 266 = .ok (.aload_n 0, 1) := by decide +kernel
theorem d_M_keepWay_267 : decode prog_12_method_23_code 267 = .ok (.getfield 56, 3) := by decide +kernel
theorem d_M_keepWay_270 : decode prog_12_method_23_code 270 = .ok (.iload_n 3, 1) := by decide +kernel
theorem d_M_keepWay_271 : decode prog_12_method_23_code 271 = .ok (.aload_n 0, 1) := by decide +kernel
theorem d_M_keepWay_272 : decode prog_12_method_23_code 272 = .ok (.getfield 118, 3) := by decide +kernel
theorem d_M_keepWay_275 : decode prog_12_method_23_code 275 = .ok (.iload_n 2, 1) := by decide +kernel
theorem d_M_keepWay_276 : decode prog_12_method_23_code 276 = .ok (.iaload, 1) := by decide +kernel
theorem d_M_keepWay_277 : decode prog_12_method_23_code 277 = .ok (.iconst 2, 1) := by decide +kernel
theorem d_M_keepWay_278 : decode prog_12_method_23_code 278 = .ok (.irem, 1) := by decide +kernel
theorem d_M_keepWay_279 : decode prog_12_method_23_code 279 = .ok (.ifCond .ne 7, 3) := by decide +kernel
theorem d_M_keepWay_282 : decode prog_12_method_23_code 282 = .ok (.iconst 0, 1) := by decide +kernel
theorem d_M_keepWay_283 : decode prog_12_method_23_code 283 = .ok (.goto 7, 3) := by decide +kernel
theorem d_M_keepWay_286 : decode prog_12_method_23_code 286 = .ok (.aload_n 0, 1) := by decide +kernel
theorem d_M_keepWay_287 : decode prog_12_method_23_code 287 = .ok (.getfield 13, 3) := by decide +kernel
theorem d_M_keepWay_290 : decode prog_12_method_23_code 290 = .ok (.iastore, 1) := by decide +kernel
theorem d_M_keepWay_291 : decode prog_12_method_23_code 291 = .ok (.return_, 1) := by decide +kernel
theorem d_M_findWays_0 : decode prog_12_method_24_code 0 = .ok (.aload_n 0, 1) := by decide +kernel
theorem d_M_findWays_1 : decode prog_12_method_24_code 1 = .ok (.getfield 53, 3) := by decide +kernel
theorem d_M_findWays_4 : decode prog_12_method_24_code 4 = .ok (.iload_n 1, 1) := by decide +kernel
theorem d_M_findWays_5 : decode prog_12_method_24_code 5 = .ok (.iconst 0, 1) := by decide +kernel
theorem d_M_findWays_6 : decode prog_12_method_24_code 6 = .ok (.iastore, 1) := by decide +kernel
theorem d_M_findWays_7 : decode prog_12_method_24_code 7 = .ok (.aload_n 0, 1) := by decide +kernel
theorem d_M_findWays_8 : decode prog_12_method_24_code 8 = .ok (.getfield 26, 3) := by decide +kernel
theorem d_M_findWays_11 : decode prog_12_method_24_code 11 = .ok (.iconst 3, 1) := by decide +kernel
theorem d_M_findWays_12 : decode prog_12_method_24_code 12 = .ok (.iload_n 1, 1) := by decide +kernel
theorem d_M_findWays_13 : decode prog_12_method_24_code 13 = .ok (.imul, 1) := by decide +kernel
theorem d_M_findWays_14 : decode prog_12_method_24_code 14 = .ok (.iconst 1, 1) := by decide +kernel
theorem d_M_findWays_15 : decode prog_12_method_24_code 15 = .ok (.iadd, 1) := by decide +kernel
theorem d_M_findWays_16 : decode prog_12_method_24_code 16 = .ok (.iaload, 1) := by decide +kernel
theorem d_M_findWays_17 : decode prog_12_method_24_code 17 = .ok (.istore_n 2, 1) := by decide +kernel
theorem d_M_findWays_18 : decode prog_12_method_24_code 18 = .ok (.iload_n 2, 1) := by decide +kernel
theorem d_M_findWays_19 : decode prog_12_method_24_code 19 = .ok (.ifCond .lt 14, 3) := by decide +kernel
theorem d_M_findWays_22 : decode prog_12_method_24_code 22 = .ok (.aload_n 0, 1) := by decide +kernel
theorem d_M_findWays_23 : decode prog_12_method_24_code 23 = .ok (.getfield 77, 3) := by decide +kernel
theorem d_M_findWays_26 : decode prog_12_method_24_code 26 = .ok (.iconst 2, 1) := by decide +kernel
theorem d_M_findWays_27 : decode prog_12_method_24_code 27 = .ok (.iload_n 2, 1) := by decide +kernel
theorem d_M_findWays_28 : decode prog_12_method_24_code 28 = .ok (.imul, 1) := by decide +kernel
theorem d_M_findWays_29 : decode prog_12_method_24_code 29 = .ok (.iaload, 1) := by decide +kernel
theorem d_M_findWays_30 : decode prog_12_method_24_code 30 = .ok (.ifCond .ne 4, 3) := by decide +kernel
theorem d_M_findWays_33 : decode prog_12_method_24_code 33 = .ok (.return_, 1) := by decide +kernel
theorem d_M_findWays_34 : decode prog_12_method_24_code 34 = .ok (.iconst 0, 1) := by decide +kernel
theorem d_M_findWays_35 : decode prog_12_method_24_code 35 = .ok (.istore_n 3, 1) := by decide +kernel
theorem d_M_findWays_36 : decode prog_12_method_24_code 36 = .ok (.aload_n 0, 1) := by decide +kernel
theorem d_M_findWays_37 : decode prog_12_method_24_code 37 = .ok (.getfield 103, 3) := by decide +kernel
theorem d_M_findWays_40 : decode prog_12_method_24_code 40 = .ok (.iconst 0, 1) := by decide +kernel
theorem d_M_findWays_41 : decode prog_12_method_24_code 41 = .ok (.iload_n 2, 1) := by decide +kernel
theorem d_M_findWays_42 : decode prog_12_method_24_code 42 = .ok (.iastore, 1) := by decide +kernel
theorem d_M_findWays_43 : decode prog_12_method_24_code 43 = .ok (.aload_n 0, 1) := by decide +kernel
theorem d_M_findWays_44 : decode prog_12_method_24_code 44 = .ok (.getfield 106, 3) := by decide +kernel
theorem d_M_findWays_47 : decode prog_12_method_24_code 47 = .ok (.iconst 0, 1) := by decide +kernel
theorem d_M_findWays_48 : decode prog_12_method_24_code 48 = .ok (.iconst 0, 1) := by decide +kernel
theorem d_M_findWays_49 : decode prog_12_method_24_code 49 = .ok (.iastore, 1) := by decide +kernel
theorem d_M_findWays_50 : decode prog_12_method_24_code 50 = .ok (.aload_n 0, 1) := by decide +kernel
theorem d_M_findWays_51 : decode prog_12_method_24_code 51 = .ok (.getfield 109, 3) := by decide +kernel
theorem d_M_findWays_54 : decode prog_12_method_24_code 54 = .ok (.iconst 0, 1) := by decide +kernel
theorem d_M_findWays_55 : decode prog_12_method_24_code 55 = .ok (.iconst 0, 1) := by decide +kernel
theorem d_M_findWays_56 : decode prog_12_method_24_code 56 = .ok (.iastore, 1) := by decide +kernel
theorem d_M_findWays_57 : decode prog_12_method_24_code 57 = .ok (.iload_n 3, 1) := by decide +kernel
theorem d_M_findWays_58 : decode prog_12_method_24_code 58 = .ok (.ifCond .lt 195, 3) := by decide +kernel
theorem d_M_findWays_61 : decode prog_12_method_24_code 61 = .ok (.aload_n 0, 1) := by decide +kernel
theorem d_M_findWays_62 : decode prog_12_method_24_code 62 = .ok (.getfield 103, 3) := by decide +kernel
theorem d_M_findWays_65 : decode prog_12_method_24_code 65 = .ok (.iload_n 3, 1) := by decide +kernel
theorem d_M_findWays_66 : decode prog_12_method_24_code 66 = .ok (.iaload, 1) := by decide +kernel
theorem d_M_findWays_67 : decode prog_12_method_24_code 67 = .ok (.istore 4, 2) := by decide +kernel
theorem d_M_findWays_69 : decode prog_12_method_24_code 69 = .ok (.iload 4, 2) := by decide +kernel
theorem d_M_findWays_71 : decode prog_12_method_24_code 71 = .ok (.ifCond .ne 27, 3) := by decide +kernel
theorem d_M_findWays_74 : decode prog_12_method_24_code 74 = .ok (.aload_n 0, 1) := by decide +kernel
theorem d_M_findWays_75 : decode prog_12_method_24_code 75 = .ok (.getfield 118, 3) := by decide +kernel
theorem d_M_findWays_78 : decode prog_12_method_24_code 78 = .ok (.iload_n 3, 1) := by decide +kernel
theorem d_M_findWays_79 : decode prog_12_method_24_code 79 = .ok (.aload_n 0, 1) := by decide +kernel
theorem d_M_findWays_80 : decode prog_12_method_24_code 80 = .ok (.getfield 106, 3) := by decide +kernel
theorem d_M_findWays_83 : decode prog_12_method_24_code 83 = .ok (.iload_n 3, 1) := by decide +kernel
theorem d_M_findWays_84 : decode prog_12_method_24_code 84 = .ok (.iaload, 1) := by decide +kernel
theorem d_M_findWays_85 : decode prog_12_method_24_code 85 = .ok (.iastore, 1) := by decide +kernel
theorem d_M_findWays_86 : decode prog_12_method_24_code 86 = .ok (.aload_n 0, 1) := by decide +kernel
theorem d_M_findWays_87 : decode prog_12_method_24_code 87 = .ok (.iload_n 1, 1) := by decide +kernel
theorem d_M_findWays_88 : decode prog_12_method_24_code 88 = .ok (.iload_n 3, 1) := by decide +kernel
theorem d_M_findWays_89 : decode prog_12_method_24_code 89 = .ok (.invokevirtual 175, 3) := by decide +kernel
theorem d_M_findWays_92 : decode prog_12_method_24_code 92 = .ok (.iinc 3 (-1), 3) := by decide +kernel
theorem d_M_findWays_95 : decode prog_12_method_24_code 95 = .ok (.goto (-38), 3) := by decide +kernel
theorem d_M_findWays_98 : decode prog_12_method_24_code 98 = .ok (.aload_n 0, 1) := by decide +kernel
theorem d_M_findWays_99 : decode prog_12_method_24_code 99 = .ok (.getfield 109, 3) := by decide +kernel
theorem d_M_findWays_102 : decode prog_12_method_24_code 102 = .ok (.iload_n 3, 1) := by decide +kernel
theorem d_M_findWays_103 : decode prog_12_method_24_code 103 = .ok (.iaload, 1) := by decide +kernel
theorem d_M_findWays_104 : decode prog_12_method_24_code 104 = .ok (.istore 5, 2) := by decide +kernel
theorem d_M_findWays_106 : decode prog_12_method_24_code 106 = .ok (.aload_n 0, 1) := by decide +kernel
theorem d_M_findWays_107 : decode prog_12_method_24_code 107 = .ok (.getfield 109, 3) := by decide +kernel
theorem d_M_findWays_110 : decode prog_12_method_24_code 110 = .ok (.iload_n 3, 1) := by decide +kernel
theorem d_M_findWays_111 : decode prog_12_method_24_code 111 = .ok (.dup2, 1) := by decide +kernel
theorem d_M_findWays_112 : decode prog_12_method_24_code 112 = .ok (.iaload, 1) := by decide +kernel
theorem d_M_findWays_113 : decode prog_12_method_24_code 113 = .ok (.iconst 1, 1) := by decide +kernel
theorem d_M_findWays_114 : decode prog_12_method_24_code 114 = .ok (.iadd, 1) := by decide +kernel
theorem d_M_findWays_115 : decode prog_12_method_24_code 115 = .ok (.iastore, 1) := by decide +kernel
theorem d_M_findWays_116 : decode prog_12_method_24_code 116 = .ok (.iload 5, 2) := by decide +kernel
theorem d_M_findWays_118 : decode prog_12_method_24_code 118 = .ok (.iconst 2, 1) := by decide +kernel
theorem d_M_findWays_119 : decode prog_12_method_24_code 119 = .ok (.aload_n 0, 1) := by decide +kernel
theorem d_M_findWays_120 : decode prog_12_method_24_code 120 = .ok (.getfield 23, 3) := by decide +kernel
theorem d_M_findWays_123 : decode prog_12_method_24_code 123 = .ok (.iload 4, 2) := by decide +kernel
theorem d_M_findWays_125 : decode prog_12_method_24_code 125 = .ok (.iaload, 1) := by decide +kernel
theorem d_M_findWays_126 : decode prog_12_method_24_code 126 = .ok (.imul, 1) := by decide +kernel
theorem d_M_findWays_127 : decode prog_12_method_24_code 127 = .ok (.if_icmp .lt 9, 3) := by decide +kernel
theorem d_M_findWays_130 : decode prog_12_method_24_code 130 = .ok (.iinc 3 (-1), 3) := by decide +kernel
theorem d_M_findWays_133 : decode prog_12_method_24_code 133 = .ok (.goto (-76), 3) := by decide +kernel
theorem d_M_findWays_136 : decode prog_12_method_24_code 136 = .ok (.aload_n 0, 1) := by decide +kernel
theorem d_M_findWays_137 : decode prog_12_method_24_code 137 = .ok (.getfield 26, 3) := by decide +kernel
theorem d_M_findWays_140 : decode prog_12_method_24_code 140 = .ok (.iconst 3, 1) := by decide +kernel
theorem d_M_findWays_141 : decode prog_12_method_24_code 141 = .ok (.iload 4, 2) := by decide +kernel
theorem d_M_findWays_143 : decode prog_12_method_24_code 143 = .ok (.imul, 1) := by decide +kernel
theorem d_M_findWays_144 : decode prog_12_method_24_code 144 = .ok (.iload 5, 2) := by decide +kernel
theorem d_M_findWays_146 : decode prog_12_method_24_code 146 = .ok (.iconst 2, 1) := by decide +kernel
theorem d_M_findWays_147 : decode prog_12_method_24_code 147 = .ok (.idiv, 1) := by decide +kernel
theorem d_M_findWays_148 : decode prog_12_method_24_code 148 = .ok (.iadd, 1) := by decide +kernel
theorem d_M_findWays_149 : decode prog_12_method_24_code 149 = .ok (.iaload, 1) := by decide +kernel
theorem d_M_findWays_150 : decode prog_12_method_24_code 150 = .ok (.istore 6, 2) := by decide +kernel
theorem d_M_findWays_152 : decode prog_12_method_24_code 152 = .ok (.iload 6, 2) := by decide +kernel
theorem d_M_findWays_154 : decode prog_12_method_24_code 154 = .ok (.ifCond .lt 96, 3) := by decide +kernel
theorem d_M_findWays_157 : decode prog_12_method_24_code 157 = .ok (.aload_n 0, 1) := by decide +kernel
theorem d_M_findWays_158 : decode prog_12_method_24_code 158 = .ok (.getfield 77, 3) := by decide +kernel
theorem d_M_findWays_161 : decode prog_12_method_24_code 161 = .ok (.iconst 2, 1) := by decide +kernel
theorem d_M_findWays_162 : decode prog_12_method_24_code 162 = .ok (.iload 6, 2) := by decide +kernel
theorem d_M_findWays_164 : decode prog_12_method_24_code 164 = .ok (.imul, 1) := by decide +kernel
theorem d_M_findWays_165 : decode prog_12_method_24_code 165 = .ok (.iload 5, 2) := by decide +kernel
theorem d_M_findWays_167 : decode prog_12_method_24_code 167 = .ok (.iconst 2, 1) := by decide +kernel
theorem d_M_findWays_168 : decode prog_12_method_24_code 168 = .ok (.irem, 1) := by decide +kernel
theorem d_M_findWays_169 : decode prog_12_method_24_code 169 = .ok (.iadd, 1) := by decide +kernel
theorem d_M_findWays_170 : decode prog_12_method_24_code 170 = .ok (.iaload, 1) := by decide +kernel
theorem d_M_findWays_171 : decode prog_12_method_24_code 171 = .ok (.ifCond .le 79, 3) := by decide +kernel
theorem d_M_findWays_174 : decode prog_12_method_24_code 174 = .ok (.aload_n 0, 1) := by decide +kernel
theorem d_M_findWays_175 : decode prog_12_method_24_code 175 = .ok (.iload 4, 2) := by decide +kernel
theorem d_M_findWays_177 : decode prog_12_method_24_code 177 = .ok (.iload 5, 2) := by decide +kernel
theorem d_M_findWays_179 : decode prog_12_method_24_code 179 = .ok (.iconst 2, 1) := by decide +kernel
theorem d_M_findWays_180 : decode prog_12_method_24_code 180 = .ok (.idiv, 1) := by decide +kernel
theorem d_M_findWays_181 : decode prog_12_method_24_code 181 = .ok (.iload 5, 2) := by decide +kernel
theorem d_M_findWays_183 : decode prog_12_method_24_code 183 = .ok (.iconst 2, 1) := by decide +kernel
theorem d_M_findWays_184 : decode prog_12_method_24_code 184 = .ok (.irem, 1) := by decide +kernel
theorem d_M_findWays_185 : decode prog_12_method_24_code 185 = .ok (.aload_n 0, 1) := by decide +kernel
theorem d_M_findWays_186 : decode prog_12_method_24_code 186 = .ok (.getfield 106, 3) := by decide +kernel
theorem d_M_findWays_189 : decode prog_12_method_24_code 189 = .ok (.iload_n 3, 1) := by decide +kernel
theorem d_M_findWays_190 : decode prog_12_method_24_code 190 = .ok (.iaload, 1) := by decide +kernel
theorem d_M_findWays_191 : decode prog_12_method_24_code 191 = .ok (.invokevirtual 172, 3) := by decide +kernel
theorem d_M_findWays_194 : decode prog_12_method_24_code 194 = .ok (.ifCond .eq 56, 3) := by decide +kernel
theorem d_M_findWays_197 : decode prog_12_method_24_code 197 = .ok (.aload_n 0, 1) := by decide +kernel
theorem d_M_findWays_198 : decode prog_12_method_24_code 198 = .ok (.getfield 118, 3) := by decide +kernel
theorem d_M_findWays_201 : decode prog_12_method_24_code 201 = .ok (.iload_n 3, 1) := by decide +kernel
theorem d_M_findWays_202 : decode prog_12_method_24_code 202 = .ok (.bipush 8, 2) := by decide +kernel
theorem d_M_findWays_204 : decode prog_12_method_24_code 204 = .ok (.iload 4, 2) := by decide +kernel
theorem d_M_findWays_206 : decode prog_12_method_24_code 206 = .ok (.imul, 1) := by decide +kernel
theorem d_M_findWays_207 : decode prog_12_method_24_code 207 = .ok (.iconst 2, 1) := by decide +kernel
theorem d_M_findWays_208 : decode prog_12_method_24_code 208 = .ok (.iload 5, 2) := by decide +kernel
theorem d_M_findWays_210 : decode prog_12_method_24_code 210 = .ok (.iconst 2, 1) := by decide +kernel
theorem d_M_findWays_211 : decode prog_12_method_24_code 211 = .ok (.idiv, 1) := by decide +kernel
theorem d_M_findWays_212 : decode prog_12_method_24_code 212 = .ok (.imul, 1) := by decide +kernel
theorem d_M_findWays_213 : decode prog_12_method_24_code 213 = .ok (.iadd, 1) := by decide +kernel
theorem d_M_findWays_214 : decode prog_12_method_24_code 214 = .ok (.aload_n 0, 1) := by decide +kernel
theorem d_M_findWays_215 : decode prog_12_method_24_code 215 = .ok (.getfield 106, 3) := by decide +kernel
theorem d_M_findWays_218 : decode prog_12_method_24_code 218 = .ok (.iload_n 3, 1) := by decide +kernel
theorem d_M_findWays_219 : decode prog_12_method_24_code 219 = .ok (.iaload, 1) := by decide +kernel
theorem d_M_findWays_220 : decode prog_12_method_24_code 220 = .ok (.iadd, 1) := by decide +kernel
theorem d_M_findWays_221 : decode prog_12_method_24_code 221 = .ok (.iastore, 1) := by decide +kernel
theorem d_M_findWays_222 : decode prog_12_method_24_code 222 = .ok (.iinc 3 1, 3) := by decide +kernel
theorem d_M_findWays_225 : decode prog_12_method_24_code 225 = .ok (.aload_n 0, 1) := by decide +kernel
theorem d_M_findWays_226 : decode prog_12_method_24_code 226 = .ok (.getfield 103, 3) := by decide +kernel
theorem d_M_findWays_229 : decode prog_12_method_24_code 229 = .ok (.iload_n 3, 1) := by decide +kernel
theorem d_M_findWays_230 : decode prog_12_method_24_code 230 = .ok (.iload 6, 2) := by decide +kernel
theorem d_M_findWays_232 : decode prog_12_method_24_code 232 = .ok (.iastore, 1) := by decide +kernel
theorem d_M_findWays_233 : decode prog_12_method_24_code 233 = .ok (.aload_n 0, 1) := by decide +kernel
theorem d_M_findWays_234 : decode prog_12_method_24_code 234 = .ok (.getfield 106, 3) := by decide +kernel
theorem d_M_findWays_237 : decode prog_12_method_24_code 237 = .ok (.iload_n 3, 1) := by decide +kernel
theorem d_M_findWays_238 : decode prog_12_method_24_code 238 = .ok (.iload 5, 2) := by decide +kernel
theorem d_M_findWays_240 : decode prog_12_method_24_code 240 = .ok (.iconst 2, 1) := by decide +kernel
theorem d_M_findWays_241 : decode prog_12_method_24_code 241 = .ok (.irem, 1) := by decide +kernel
theorem d_M_findWays_242 : decode prog_12_method_24_code 242 = .ok (.iastore, 1) := by decide +kernel
theorem d_M_findWays_243 : decode prog_12_method_24_code 243 = .ok (.aload_n 0, 1) := by decide +kernel
theorem d_M_findWays_244 : decode prog_12_method_24_code 244 = .ok (.getfield 109, 3) := by decide +kernel
theorem d_M_findWays_247 : decode prog_12_method_24_code 247 = .ok (.iload_n 3, 1) := by decide +kernel
theorem d_M_findWays_248 : decode prog_12_method_24_code 248 = .ok (.iconst 0, 1) := by decide +kernel
theorem d_M_findWays_249 : decode prog_12_method_24_code 249 = .ok (.iastore, 1) := by decide +kernel
theorem d_M_findWays_250 : decode prog_12_method_24_code 250 = .ok (.goto (-193), 3) := by decide +kernel
theorem d_M_findWays_253 : decode prog_12_method_24_code 253 = .ok (.return_, 1) := by decide +kernel
theorem d_M_clearStart_0 : decode prog_12_method_25_code 0 = .ok (.iconst 0, 1) := by decide +kernel
theorem d_M_clearStart_1 : decode prog_12_method_25_code 1 = .ok (.istore_n 1, 1) := by decide +kernel
theorem d_M_clearStart_2 : decode prog_12_method_25_code 2 = .ok (.iload_n 1, 1) := by decide +kernel
theorem d_M_clearStart_3 : decode prog_12_method_25_code 3 = .ok (.bipush 96, 2) := by decide +kernel
theorem d_M_clearStart_5 : decode prog_12_method_25_code 5 = .ok (.if_icmp .ge 16, 3) := by decide +kernel
theorem d_M_clearStart_8 : decode prog_12_method_25_code 8 = .ok (.aload_n 0, 1) := by decide +kernel
theorem d_M_clearStart_9 : decode prog_12_method_25_code 9 = .ok (.getfield 80, 3) := by decide +kernel
theorem d_M_clearStart_12 : decode prog_12_method_25_code 12 = .ok (.iload_n 1, 1) := by decide +kernel
theorem d_M_clearStart_13 : decode prog_12_method_25_code 13 = .ok (.iconst 0, 1) := by decide +kernel
theorem d_M_clearStart_14 : decode prog_12_method_25_code 14 = .ok (.bastore, 1) := by decide +kernel
theorem d_M_clearStart_15 : decode prog_12_method_25_code 15 = .ok (.iinc 1 1, 3) := by decide +kernel
theorem d_M_clearStart_18 : decode prog_12_method_25_code 18 = .ok (.goto (-16), 3) := by decide +kernel
theorem d_M_clearStart_21 : decode prog_12_method_25_code 21 = .ok (.aload_n 0, 1) := by decide +kernel
theorem d_M_clearStart_22 : decode prog_12_method_25_code 22 = .ok (.getfield 80, 3) := by decide +kernel
theorem d_M_clearStart_25 : decode prog_12_method_25_code 25 = .ok (.iconst 2, 1) := by decide +kernel
theorem d_M_clearStart_26 : decode prog_12_method_25_code 26 = .ok (.aload_n 0, 1) := by decide +kernel
theorem d_M_clearStart_27 : decode prog_12_method_25_code 27 = .ok (.getfield 179, 3) := by decide +kernel
theorem d_M_clearStart_30 : decode prog_12_method_25_code 30 = .ok (.imul, 1) := by decide +kernel
theorem d_M_clearStart_31 : decode prog_12_method_25_code 31 = .ok (.aload_n 0, 1) := by decide +kernel
theorem d_M_clearStart_32 : decode prog_12_method_25_code 32 = .ok (.getfield 182, 3) := by decide +kernel
theorem d_M_clearStart_35 : decode prog_12_method_25_code 35 = .ok (.iadd, 1) := by decide +kernel
theorem d_M_clearStart_36 : decode prog_12_method_25_code 36 = .ok (.iconst 1, 1) := by decide +kernel
theorem d_M_clearStart_37 : decode prog_12_method_25_code 37 = .ok (.bastore, 1) := by decide +kernel
theorem d_M_clearStart_38 : decode prog_12_method_25_code 38 = .ok (.aload_n 0, 1) := by decide +kernel
theorem d_M_clearStart_39 : decode prog_12_method_25_code 39 = .ok (.getfield 84, 3) := by decide +kernel
theorem d_M_clearStart_42 : decode prog_12_method_25_code 42 = .ok (.iconst 2, 1) := by decide +kernel
theorem d_M_clearStart_43 : decode prog_12_method_25_code 43 = .ok (.aload_n 0, 1) := by decide +kernel
theorem d_M_clearStart_44 : decode prog_12_method_25_code 44 = .ok (.getfield 179, 3) := by decide +kernel
theorem d_M_clearStart_47 : decode prog_12_method_25_code 47 = .ok (.imul, 1) := by decide +kernel
theorem d_M_clearStart_48 : decode prog_12_method_25_code 48 = .ok (.aload_n 0, 1) := by decide +kernel
theorem d_M_clearStart_49 : decode prog_12_method_25_code 49 = .ok (.getfield 182, 3) := by decide +kernel
theorem d_M_clearStart_52 : decode prog_12_method_25_code 52 = .ok (.iadd, 1) := by decide +kernel
theorem d_M_clearStart_53 : decode prog_12_method_25_code 53 = .ok (.aload_n 0, 1) := by decide +kernel
theorem d_M_clearStart_54 : decode prog_12_method_25_code 54 = .ok (.getfield 185, 3) := by decide +kernel
theorem d_M_clearStart_57 : decode prog_12_method_25_code 57 = .ok (.iastore, 1) := by decide +kernel
theorem d_M_clearStart_58 : decode prog_12_method_25_code 58 = .ok (.aload_n 0, 1) := by decide +kernel
theorem d_M_clearStart_59 : decode prog_12_method_25_code 59 = .ok (.getfield 87, 3) := by decide +kernel
theorem d_M_clearStart_62 : decode prog_12_method_25_code 62 = .ok (.iconst 2, 1) := by decide +kernel
theorem d_M_clearStart_63 : decode prog_12_method_25_code 63 = .ok (.aload_n 0, 1) := by decide +kernel
theorem d_M_clearStart_64 : decode prog_12_method_25_code 64 = .ok (.getfield 179, 3) := by decide +kernel
theorem d_M_clearStart_67 : decode prog_12_method_25_code 67 = .ok (.imul, 1) := by decide +kernel
theorem d_M_clearStart_68 : decode prog_12_method_25_code 68 = .ok (.aload_n 0, 1) := by decide +kernel
theorem d_M_clearStart_69 : decode prog_12_method_25_code 69 = .ok (.getfield 182, 3) := by decide +kernel
theorem d_M_clearStart_72 : decode prog_12_method_25_code 72 = .ok (.iadd, 1) := by decide +kernel
theorem d_M_clearStart_73 : decode prog_12_method_25_code 73 = .ok (.aload_n 0, 1) := by decide +kernel
theorem d_M_clearStart_74 : decode prog_12_method_25_code 74 = .ok (.getfield 188, 3) := by decide +kernel
theorem d_M_clearStart_77 : decode prog_12_method_25_code 77 = .ok (.iastore, 1) := by decide +kernel
theorem d_M_clearStart_78 : decode prog_12_method_25_code 78 = .ok (.return_, 1) := by decide +kernel
theorem d_M_reach_0 : decode prog_12_method_26_code 0 = .ok (.aload_n 0, 1) := by decide +kernel
theorem d_M_reach_1 : decode prog_12_method_26_code 1 = .ok (.getfield 84, 3) := by decide +kernel
theorem d_M_reach_4 : decode prog_12_method_26_code 4 = .ok (.iload_n 1, 1) := by decide +kernel
theorem d_M_reach_5 : decode prog_12_method_26_code 5 = .ok (.aload_n 0, 1) := by decide +kernel
theorem d_M_reach_6 : decode prog_12_method_26_code 6 = .ok (.getfield 80, 3) := by decide +kernel
theorem d_M_reach_9 : decode prog_12_method_26_code 9 = .ok (.iload_n 1, 1) := by decide +kernel
theorem d_M_reach_10 : decode prog_12_method_26_code 10 = .ok (.baload, 1) := by decide +kernel
theorem d_M_reach_11 : decode prog_12_method_26_code 11 = .ok (.ifCond .eq 22, 3) := by decide +kernel
theorem d_M_reach_14 : decode prog_12_method_26_code 14 = .ok (.aload_n 0, 1) := by decide +kernel
theorem d_M_reach_15 : decode prog_12_method_26_code 15 = .ok (.getfield 84, 3) := by decide +kernel
theorem d_M_reach_18 : decode prog_12_method_26_code 18 = .ok (.iload_n 1, 1) := by decide +kernel
theorem d_M_reach_19 : decode prog_12_method_26_code 19 = .ok (.iaload, 1) := by decide +kernel
theorem d_M_reach_20 : decode prog_12_method_26_code 20 = .ok (.iload_n 2, 1) := by decide +kernel
theorem d_M_reach_21 : decode prog_12_method_26_code 21 = .ok (.if_icmp .ge 12, 3) := by decide +kernel
theorem d_M_reach_24 : decode prog_12_method_26_code 24 = .ok (.aload_n 0, 1) := by decide +kernel
theorem d_M_reach_25 : decode prog_12_method_26_code 25 = .ok (.getfield 84, 3) := by decide +kernel
theorem d_M_reach_28 : decode prog_12_method_26_code 28 = .ok (.iload_n 1, 1) := by decide +kernel
theorem d_M_reach_29 : decode prog_12_method_26_code 29 = .ok (.iaload, 1) := by decide +kernel
theorem d_M_reach_30 : decode prog_12_method_26_code 30 = .ok (.goto 4, 3) := by decide +kernel
theorem d_M_reach_33 : decode prog_12_method_26_code 33 = .ok (.iload_n 2, 1) := by decide +kernel
theorem d_M_reach_34 : decode prog_12_method_26_code 34 = .ok (.iastore, 1) := by decide +kernel
theorem d_M_reach_35 : decode prog_12_method_26_code 35 = .ok (.aload_n 0, 1) := by decide +kernel
theorem d_M_reach_36 : decode prog_12_method_26_code 36 = .ok (.getfield 87, 3) := by decide +kernel
theorem d_M_reach_39 : decode prog_12_method_26_code 39 = .ok (.iload_n 1, 1) := by decide +kernel
theorem d_M_reach_40 : decode prog_12_method_26_code 40 = .ok (.aload_n 0, 1) := by decide +kernel
theorem d_M_reach_41 : decode prog_12_method_26_code 41 = .ok (.getfield 80, 3) := by decide +kernel
theorem d_M_reach_44 : decode prog_12_method_26_code 44 = .ok (.iload_n 1, 1) := by decide +kernel
theorem d_M_reach_45 : decode prog_12_method_26_code 45 = .ok (.baload, 1) := by decide +kernel
theorem d_M_reach_46 : decode prog_12_method_26_code 46 = .ok (.ifCond .eq 22, 3) := by decide +kernel
theorem d_M_reach_49 : decode prog_12_method_26_code 49 = .ok (.aload_n 0, 1) := by decide +kernel
theorem d_M_reach_50 : decode prog_12_method_26_code 50 = .ok (.getfield 87, 3) := by decide +kernel
theorem d_M_reach_53 : decode prog_12_method_26_code 53 = .ok (.iload_n 1, 1) := by decide +kernel
theorem d_M_reach_54 : decode prog_12_method_26_code 54 = .ok (.iaload, 1) := by decide +kernel
theorem d_M_reach_55 : decode prog_12_method_26_code 55 = .ok (.iload_n 3, 1) := by decide +kernel
theorem d_M_reach_56 : decode prog_12_method_26_code 56 = .ok (.if_icmp .le 12, 3) := by decide +kernel
theorem d_M_reach_59 : decode prog_12_method_26_code 59 = .ok (.aload_n 0, 1) := by decide +kernel
theorem d_M_reach_60 : decode prog_12_method_26_code 60 = .ok (.getfield 87, 3) := by decide +kernel
theorem d_M_reach_63 : decode prog_12_method_26_code 63 = .ok (.iload_n 1, 1) := by decide +kernel
theorem d_M_reach_64 : decode prog_12_method_26_code 64 = .ok (.iaload, 1) := by decide +kernel
theorem d_M_reach_65 : decode prog_12_method_26_code 65 = .ok (.goto 4, 3) := by decide +kernel
theorem d_M_reach_68 : decode prog_12_method_26_code 68 = .ok (.iload_n 3, 1) := by decide +kernel
theorem d_M_reach_69 : decode prog_12_method_26_code 69 = .ok (.iastore, 1) := by decide +kernel
theorem d_M_reach_70 : decode prog_12_method_26_code 70 = .ok (.aload_n 0, 1) := by decide +kernel
theorem d_M_reach_71 : decode prog_12_method_26_code 71 = .ok (.getfield 80, 3) := by decide +kernel
theorem d_M_reach_74 : decode prog_12_method_26_code 74 = .ok (.iload_n 1, 1) := by decide +kernel
theorem d_M_reach_75 : decode prog_12_method_26_code 75 = .ok (.iconst 1, 1) := by decide +kernel
theorem d_M_reach_76 : decode prog_12_method_26_code 76 = .ok (.bastore, 1) := by decide +kernel
theorem d_M_reach_77 : decode prog_12_method_26_code 77 = .ok (.return_, 1) := by decide +kernel
theorem d_M_lead_0 : decode prog_12_method_27_code 0 = .ok (.aload_n 0, 1) := by decide +kernel
theorem d_M_lead_1 : decode prog_12_method_27_code 1 = .ok (.invokevirtual 191, 3) := by decide +kernel
theorem d_M_lead_4 : decode prog_12_method_27_code 4 = .ok (.iconst 0, 1) := by decide +kernel
theorem d_M_lead_5 : decode prog_12_method_27_code 5 = .ok (.istore_n 1, 1) := by decide +kernel
theorem d_M_lead_6 : decode prog_12_method_27_code 6 = .ok (.iload_n 1, 1) := by decide +kernel
theorem d_M_lead_7 : decode prog_12_method_27_code 7 = .ok (.aload_n 0, 1) := by decide +kernel
theorem d_M_lead_8 : decode prog_12_method_27_code 8 = .ok (.getfield 169, 3) := by decide +kernel
theorem d_M_lead_11 : decode prog_12_method_27_code 11 = .ok (.if_icmp .ge 186, 3) := by decide +kernel
theorem d_M_lead_14 : decode prog_12_method_27_code 14 = .ok (.aload_n 0, 1) := by decide +kernel
theorem d_M_lead_15 : decode prog_12_method_27_code 15 = .ok (.getfield 50, 3) := by decide +kernel
theorem d_M_lead_18 : decode prog_12_method_27_code 18 = .ok (.iload_n 1, 1) := by decide +kernel
theorem d_M_lead_19 : decode prog_12_method_27_code 19 = .ok (.iaload, 1) := by decide +kernel
theorem d_M_lead_20 : decode prog_12_method_27_code 20 = .ok (.istore_n 2, 1) := by decide +kernel
theorem d_M_lead_21 : decode prog_12_method_27_code 21 = .ok (.iconst 0, 1) := by decide +kernel
theorem d_M_lead_22 : decode prog_12_method_27_code 22 = .ok (.istore_n 3, 1) := by decide +kernel
theorem d_M_lead_23 : decode prog_12_method_27_code 23 = .ok (.iload_n 3, 1) := by decide +kernel
theorem d_M_lead_24 : decode prog_12_method_27_code 24 = .ok (.iconst 4, 1) := by decide +kernel
theorem d_M_lead_25 : decode prog_12_method_27_code 25 = .ok (.aload_n 0, 1) := by decide +kernel
theorem d_M_lead_26 : decode prog_12_method_27_code 26 = .ok (.getfield 23, 3) := by decide +kernel
theorem d_M_lead_29 : decode prog_12_method_27_code 29 = .ok (.iload_n 2, 1) := by decide +kernel
theorem d_M_lead_30 : decode prog_12_method_27_code 30 = .ok (.iaload, 1) := by decide +kernel
theorem d_M_lead_31 : decode prog_12_method_27_code 31 = .ok (.imul, 1) := by decide +kernel
theorem d_M_lead_32 : decode prog_12_method_27_code 32 = .ok (.if_icmp .ge 159, 3) := by decide +kernel
theorem d_M_lead_35 : decode prog_12_method_27_code 35 = .ok (.iload_n 3, 1) := by decide +kernel
theorem d_M_lead_36 : decode prog_12_method_27_code 36 = .ok (.iconst 4, 1) := by decide +kernel
theorem d_M_lead_37 : decode prog_12_method_27_code 37 = .ok (.idiv, 1) := by decide +kernel
theorem d_M_lead_38 : decode prog_12_method_27_code 38 = .ok (.istore 4, 2) := by decide +kernel
theorem d_M_lead_40 : decode prog_12_method_27_code 40 = .ok (.aload_n 0, 1) := by decide +kernel
theorem d_M_lead_41 : decode prog_12_method_27_code 41 = .ok (.getfield 26, 3) := by decide +kernel
theorem d_M_lead_44 : decode prog_12_method_27_code 44 = .ok (.iconst 3, 1) := by decide +kernel
theorem d_M_lead_45 : decode prog_12_method_27_code 45 = .ok (.iload_n 2, 1) := by decide +kernel
theorem d_M_lead_46 : decode prog_12_method_27_code 46 = .ok (.imul, 1) := by decide +kernel
theorem d_M_lead_47 : decode prog_12_method_27_code 47 = .ok (.iload 4, 2) := by decide +kernel
theorem d_M_lead_49 : decode prog_12_method_27_code 49 = .ok (.iadd, 1) := by decide +kernel
theorem d_M_lead_50 : decode prog_12_method_27_code 50 = .ok (.iaload, 1) := by decide +kernel
theorem d_M_lead_51 : decode prog_12_method_27_code 51 = .ok (.istore 5, 2) := by decide +kernel
theorem d_M_lead_53 : decode prog_12_method_27_code 53 = .ok (.iload_n 3, 1) := by decide +kernel
theorem d_M_lead_54 : decode prog_12_method_27_code 54 = .ok (.iconst 2, 1) := by decide +kernel
theorem d_M_lead_55 : decode prog_12_method_27_code 55 = .ok (.idiv, 1) := by decide +kernel
theorem d_M_lead_56 : decode prog_12_method_27_code 56 = .ok (.iconst 2, 1) := by decide +kernel
theorem d_M_lead_57 : decode prog_12_method_27_code 57 = .ok (.irem, 1) := by decide +kernel
theorem d_M_lead_58 : decode prog_12_method_27_code 58 = .ok (.istore 6, 2) := by decide +kernel
theorem d_M_lead_60 : decode prog_12_method_27_code 60 = .ok (.iload 5, 2) := by decide +kernel
theorem d_M_lead_62 : decode prog_12_method_27_code 62 = .ok (.ifCond .lt 123, 3) := by decide +kernel
theorem d_M_lead_65 : decode prog_12_method_27_code 65 = .ok (.aload_n 0, 1) := by decide +kernel
theorem d_M_lead_66 : decode prog_12_method_27_code 66 = .ok (.getfield 80, 3) := by decide +kernel
theorem d_M_lead_69 : decode prog_12_method_27_code 69 = .ok (.iconst 2, 1) := by decide +kernel
theorem d_M_lead_70 : decode prog_12_method_27_code 70 = .ok (.iload 5, 2) := by decide +kernel
theorem d_M_lead_72 : decode prog_12_method_27_code 72 = .ok (.imul, 1) := by decide +kernel
theorem d_M_lead_73 : decode prog_12_method_27_code 73 = .ok (.iload 6, 2) := by decide +kernel
theorem d_M_lead_75 : decode prog_12_method_27_code 75 = .ok (.iadd, 1) := by decide +kernel
theorem d_M_lead_76 : decode prog_12_method_27_code 76 = .ok (.baload, 1) := by decide +kernel
theorem d_M_lead_77 : decode prog_12_method_27_code 77 = .ok (.ifCond .eq 108, 3) := by decide +kernel
theorem d_M_lead_80 : decode prog_12_method_27_code 80 = .ok (.aload_n 0, 1) := by decide +kernel
theorem d_M_lead_81 : decode prog_12_method_27_code 81 = .ok (.iload_n 2, 1) := by decide +kernel
theorem d_M_lead_82 : decode prog_12_method_27_code 82 = .ok (.iload 4, 2) := by decide +kernel
theorem d_M_lead_84 : decode prog_12_method_27_code 84 = .ok (.iload 6, 2) := by decide +kernel
theorem d_M_lead_86 : decode prog_12_method_27_code 86 = .ok (.iload_n 3, 1) := by decide +kernel
theorem d_M_lead_87 : decode prog_12_method_27_code 87 = .ok (.iconst 2, 1) := by decide +kernel
theorem d_M_lead_88 : decode prog_12_method_27_code 88 = .ok (.irem, 1) := by decide +kernel
theorem d_M_lead_89 : decode prog_12_method_27_code 89 = .ok (.invokevirtual 172, 3) := by decide +kernel
theorem d_M_lead_92 : decode prog_12_method_27_code 92 = .ok (.ifCond .eq 93, 3) := by decide +kernel
theorem d_M_lead_95 : decode prog_12_method_27_code 95 = .ok (.bipush 6, 2) := by decide +kernel
theorem d_M_lead_97 : decode prog_12_method_27_code 97 = .ok (.iload_n 2, 1) := by decide +kernel
theorem d_M_lead_98 : decode prog_12_method_27_code 98 = .ok (.imul, 1) := by decide +kernel
theorem d_M_lead_99 : decode prog_12_method_27_code 99 = .ok (.iconst 2, 1) := by decide +kernel
theorem d_M_lead_100 : decode prog_12_method_27_code 100 = .ok (.iload 4, 2) := by decide +kernel
theorem d_M_lead_102 : decode prog_12_method_27_code 102 = .ok (.imul, 1) := by decide +kernel
theorem d_M_lead_103 : decode prog_12_method_27_code 103 = .ok (.iadd, 1) := by decide +kernel
theorem d_M_lead_104 : decode prog_12_method_27_code 104 = .ok (.iload_n 3, 1) := by decide +kernel
theorem d_M_lead_105 : decode prog_12_method_27_code 105 = .ok (.iconst 2, 1) := by decide +kernel
theorem d_M_lead_106 : decode prog_12_method_27_code 106 = .ok (.irem, 1) := by decide +kernel
theorem d_M_lead_107 : decode prog_12_method_27_code 107 = .ok (.iadd, 1) := by decide +kernel
theorem d_M_lead_108 : decode prog_12_method_27_code 108 = .ok (.istore 7, 2) := by decide +kernel
theorem d_M_lead_110 : decode prog_12_method_27_code 110 = .ok (.aload_n 0, 1) := by decide +kernel
theorem d_M_lead_111 : decode prog_12_method_27_code 111 = .ok (.iconst 2, 1) := by decide +kernel
theorem d_M_lead_112 : decode prog_12_method_27_code 112 = .ok (.iload_n 2, 1) := by decide +kernel
theorem d_M_lead_113 : decode prog_12_method_27_code 113 = .ok (.imul, 1) := by decide +kernel
theorem d_M_lead_114 : decode prog_12_method_27_code 114 = .ok (.iload_n 3, 1) := by decide +kernel
