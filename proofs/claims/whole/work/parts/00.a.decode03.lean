theorem d_M_lead_115 : decode prog_12_method_27_code 115 = .ok (.iconst 2, 1) := by decide +kernel
theorem d_M_lead_116 : decode prog_12_method_27_code 116 = .ok (.irem, 1) := by decide +kernel
theorem d_M_lead_117 : decode prog_12_method_27_code 117 = .ok (.iadd, 1) := by decide +kernel
theorem d_M_lead_118 : decode prog_12_method_27_code 118 = .ok (.aload_n 0, 1) := by decide +kernel
theorem d_M_lead_119 : decode prog_12_method_27_code 119 = .ok (.getfield 84, 3) := by decide +kernel
theorem d_M_lead_122 : decode prog_12_method_27_code 122 = .ok (.iconst 2, 1) := by decide +kernel
theorem d_M_lead_123 : decode prog_12_method_27_code 123 = .ok (.iload 5, 2) := by decide +kernel
theorem d_M_lead_125 : decode prog_12_method_27_code 125 = .ok (.imul, 1) := by decide +kernel
theorem d_M_lead_126 : decode prog_12_method_27_code 126 = .ok (.iload 6, 2) := by decide +kernel
theorem d_M_lead_128 : decode prog_12_method_27_code 128 = .ok (.iadd, 1) := by decide +kernel
theorem d_M_lead_129 : decode prog_12_method_27_code 129 = .ok (.iaload, 1) := by decide +kernel
theorem d_M_lead_130 : decode prog_12_method_27_code 130 = .ok (.aload_n 0, 1) := by decide +kernel
theorem d_M_lead_131 : decode prog_12_method_27_code 131 = .ok (.getfield 29, 3) := by decide +kernel
theorem d_M_lead_134 : decode prog_12_method_27_code 134 = .ok (.iconst 3, 1) := by decide +kernel
theorem d_M_lead_135 : decode prog_12_method_27_code 135 = .ok (.iload_n 2, 1) := by decide +kernel
theorem d_M_lead_136 : decode prog_12_method_27_code 136 = .ok (.imul, 1) := by decide +kernel
theorem d_M_lead_137 : decode prog_12_method_27_code 137 = .ok (.iload 4, 2) := by decide +kernel
theorem d_M_lead_139 : decode prog_12_method_27_code 139 = .ok (.iadd, 1) := by decide +kernel
theorem d_M_lead_140 : decode prog_12_method_27_code 140 = .ok (.iaload, 1) := by decide +kernel
theorem d_M_lead_141 : decode prog_12_method_27_code 141 = .ok (.iadd, 1) := by decide +kernel
theorem d_M_lead_142 : decode prog_12_method_27_code 142 = .ok (.aload_n 0, 1) := by decide +kernel
theorem d_M_lead_143 : decode prog_12_method_27_code 143 = .ok (.getfield 38, 3) := by decide +kernel
theorem d_M_lead_146 : decode prog_12_method_27_code 146 = .ok (.iload 7, 2) := by decide +kernel
theorem d_M_lead_148 : decode prog_12_method_27_code 148 = .ok (.iaload, 1) := by decide +kernel
theorem d_M_lead_149 : decode prog_12_method_27_code 149 = .ok (.iadd, 1) := by decide +kernel
theorem d_M_lead_150 : decode prog_12_method_27_code 150 = .ok (.aload_n 0, 1) := by decide +kernel
theorem d_M_lead_151 : decode prog_12_method_27_code 151 = .ok (.getfield 87, 3) := by decide +kernel
theorem d_M_lead_154 : decode prog_12_method_27_code 154 = .ok (.iconst 2, 1) := by decide +kernel
theorem d_M_lead_155 : decode prog_12_method_27_code 155 = .ok (.iload 5, 2) := by decide +kernel
theorem d_M_lead_157 : decode prog_12_method_27_code 157 = .ok (.imul, 1) := by decide +kernel
theorem d_M_lead_158 : decode prog_12_method_27_code 158 = .ok (.iload 6, 2) := by decide +kernel
theorem d_M_lead_160 : decode prog_12_method_27_code 160 = .ok (.iadd, 1) := by decide +kernel
theorem d_M_lead_161 : decode prog_12_method_27_code 161 = .ok (.iaload, 1) := by decide +kernel
theorem d_M_lead_162 : decode prog_12_method_27_code 162 = .ok (.aload_n 0, 1) := by decide +kernel
theorem d_M_lead_163 : decode prog_12_method_27_code 163 = .ok (.getfield 32, 3) := by decide +kernel
theorem d_M_lead_166 : decode prog_12_method_27_code 166 = .ok (.iconst 3, 1) := by decide +kernel
theorem d_M_lead_167 : decode prog_12_method_27_code 167 = .ok (.iload_n 2, 1) := by decide +kernel
theorem d_M_lead_168 : decode prog_12_method_27_code 168 = .ok (.imul, 1) := by decide +kernel
theorem d_M_lead_169 : decode prog_12_method_27_code 169 = .ok (.iload 4, 2) := by decide +kernel
theorem d_M_lead_171 : decode prog_12_method_27_code 171 = .ok (.iadd, 1) := by decide +kernel
theorem d_M_lead_172 : decode prog_12_method_27_code 172 = .ok (.iaload, 1) := by decide +kernel
theorem d_M_lead_173 : decode prog_12_method_27_code 173 = .ok (.iadd, 1) := by decide +kernel
theorem d_M_lead_174 : decode prog_12_method_27_code 174 = .ok (.aload_n 0, 1) := by decide +kernel
theorem d_M_lead_175 : decode prog_12_method_27_code 175 = .ok (.getfield 41, 3) := by decide +kernel
theorem d_M_lead_178 : decode prog_12_method_27_code 178 = .ok (.iload 7, 2) := by decide +kernel
theorem d_M_lead_180 : decode prog_12_method_27_code 180 = .ok (.iaload, 1) := by decide +kernel
theorem d_M_lead_181 : decode prog_12_method_27_code 181 = .ok (.iadd, 1) := by decide +kernel
theorem d_M_lead_182 : decode prog_12_method_27_code 182 = .ok (.invokevirtual 194, 3) := by decide +kernel
theorem d_M_lead_185 : decode prog_12_method_27_code 185 = .ok (.iinc 3 1, 3) := by decide +kernel
theorem d_M_lead_188 : decode prog_12_method_27_code 188 = .ok (.goto (-165), 3) := by decide +kernel
theorem d_M_lead_191 : decode prog_12_method_27_code 191 = .ok (.iinc 1 1, 3) := by decide +kernel
theorem d_M_lead_194 : decode prog_12_method_27_code 194 = .ok (.goto (-188), 3) := by decide +kernel
theorem d_M_lead_197 : decode prog_12_method_27_code 197 = .ok (.return_, 1) := by decide +kernel
theorem d_M_arrive_0 : decode prog_12_method_28_code 0 = .ok (.iconst 4, 1) := by decide +kernel
theorem d_M_arrive_1 : decode prog_12_method_28_code 1 = .ok (.iload_n 1, 1) := by decide +kernel
theorem d_M_arrive_2 : decode prog_12_method_28_code 2 = .ok (.imul, 1) := by decide +kernel
theorem d_M_arrive_3 : decode prog_12_method_28_code 3 = .ok (.iconst 2, 1) := by decide +kernel
theorem d_M_arrive_4 : decode prog_12_method_28_code 4 = .ok (.iload_n 2, 1) := by decide +kernel
theorem d_M_arrive_5 : decode prog_12_method_28_code 5 = .ok (.imul, 1) := by decide +kernel
theorem d_M_arrive_6 : decode prog_12_method_28_code 6 = .ok (.iadd, 1) := by decide +kernel
theorem d_M_arrive_7 : decode prog_12_method_28_code 7 = .ok (.aload_n 0, 1) := by decide +kernel
theorem d_M_arrive_8 : decode prog_12_method_28_code 8 = .ok (.getfield 197, 3) := by decide +kernel
theorem d_M_arrive_11 : decode prog_12_method_28_code 11 = .ok (.ifCond .ne 7, 3) := by decide +kernel
theorem d_M_arrive_14 : decode prog_12_method_28_code 14 = .ok (.iconst 0, 1) := by decide +kernel
theorem d_M_arrive_15 : decode prog_12_method_28_code 15 = .ok (.goto 4, 3) := by decide +kernel
theorem d_M_arrive_18 : decode prog_12_method_28_code 18 = .ok (.iconst 1, 1) := by decide +kernel
theorem d_M_arrive_19 : decode prog_12_method_28_code 19 = .ok (.iadd, 1) := by decide +kernel
theorem d_M_arrive_20 : decode prog_12_method_28_code 20 = .ok (.istore 5, 2) := by decide +kernel
theorem d_M_arrive_22 : decode prog_12_method_28_code 22 = .ok (.aload_n 0, 1) := by decide +kernel
theorem d_M_arrive_23 : decode prog_12_method_28_code 23 = .ok (.getfield 90, 3) := by decide +kernel
theorem d_M_arrive_26 : decode prog_12_method_28_code 26 = .ok (.iload 5, 2) := by decide +kernel
theorem d_M_arrive_28 : decode prog_12_method_28_code 28 = .ok (.aload_n 0, 1) := by decide +kernel
theorem d_M_arrive_29 : decode prog_12_method_28_code 29 = .ok (.getfield 90, 3) := by decide +kernel
theorem d_M_arrive_32 : decode prog_12_method_28_code 32 = .ok (.iload 5, 2) := by decide +kernel
theorem d_M_arrive_34 : decode prog_12_method_28_code 34 = .ok (.iaload, 1) := by decide +kernel
theorem d_M_arrive_35 : decode prog_12_method_28_code 35 = .ok (.ldc 140, 2) := by decide +kernel
theorem d_M_arrive_37 : decode prog_12_method_28_code 37 = .ok (.if_icmp .eq 14, 3) := by decide +kernel
theorem d_M_arrive_40 : decode prog_12_method_28_code 40 = .ok (.iload_n 3, 1) := by decide +kernel
theorem d_M_arrive_41 : decode prog_12_method_28_code 41 = .ok (.aload_n 0, 1) := by decide +kernel
theorem d_M_arrive_42 : decode prog_12_method_28_code 42 = .ok (.getfield 90, 3) := by decide +kernel
theorem d_M_arrive_45 : decode prog_12_method_28_code 45 = .ok (.iload 5, 2) := by decide +kernel
theorem d_M_arrive_47 : decode prog_12_method_28_code 47 = .ok (.iaload, 1) := by decide +kernel
theorem d_M_arrive_48 : decode prog_12_method_28_code 48 = .ok (.if_icmp .ge 7, 3) := by decide +kernel
theorem d_M_arrive_51 : decode prog_12_method_28_code 51 = .ok (.iload_n 3, 1) := by decide +kernel
theorem d_M_arrive_52 : decode prog_12_method_28_code 52 = .ok (.goto 10, 3) := by decide +kernel
theorem d_M_arrive_55 : decode prog_12_method_28_code 55 = .ok (.aload_n 0, 1) := by decide +kernel
theorem d_M_arrive_56 : decode prog_12_method_28_code 56 = .ok (.getfield 90, 3) := by decide +kernel
theorem d_M_arrive_59 : decode prog_12_method_28_code 59 = .ok (.iload 5, 2) := by decide +kernel
theorem d_M_arrive_61 : decode prog_12_method_28_code 61 = .ok (.iaload, 1) := by decide +kernel
theorem d_M_arrive_62 : decode prog_12_method_28_code 62 = .ok (.iastore, 1) := by decide +kernel
theorem d_M_arrive_63 : decode prog_12_method_28_code 63 = .ok (.aload_n 0, 1) := by decide +kernel
theorem d_M_arrive_64 : decode prog_12_method_28_code 64 = .ok (.getfield 93, 3) := by decide +kernel
theorem d_M_arrive_67 : decode prog_12_method_28_code 67 = .ok (.iload 5, 2) := by decide +kernel
theorem d_M_arrive_69 : decode prog_12_method_28_code 69 = .ok (.iload 4, 2) := by decide +kernel
theorem d_M_arrive_71 : decode prog_12_method_28_code 71 = .ok (.aload_n 0, 1) := by decide +kernel
theorem d_M_arrive_72 : decode prog_12_method_28_code 72 = .ok (.getfield 93, 3) := by decide +kernel
theorem d_M_arrive_75 : decode prog_12_method_28_code 75 = .ok (.iload 5, 2) := by decide +kernel
theorem d_M_arrive_77 : decode prog_12_method_28_code 77 = .ok (.iaload, 1) := by decide +kernel
theorem d_M_arrive_78 : decode prog_12_method_28_code 78 = .ok (.if_icmp .le 8, 3) := by decide +kernel
theorem d_M_arrive_81 : decode prog_12_method_28_code 81 = .ok (.iload 4, 2) := by decide +kernel
theorem d_M_arrive_83 : decode prog_12_method_28_code 83 = .ok (.goto 10, 3) := by decide +kernel
theorem d_M_arrive_86 : decode prog_12_method_28_code 86 = .ok (.aload_n 0, 1) := by decide +kernel
theorem d_M_arrive_87 : decode prog_12_method_28_code 87 = .ok (.getfield 93, 3) := by decide +kernel
theorem d_M_arrive_90 : decode prog_12_method_28_code 90 = .ok (.iload 5, 2) := by decide +kernel
theorem d_M_arrive_92 : decode prog_12_method_28_code 92 = .ok (.iaload, 1) := by decide +kernel
theorem d_M_arrive_93 : decode prog_12_method_28_code 93 = .ok (.iastore, 1) := by decide +kernel
theorem d_M_arrive_94 : decode prog_12_method_28_code 94 = .ok (.return_, 1) := by decide +kernel
theorem d_M_credit_0 : decode prog_12_method_29_code 0 = .ok (.aload_n 0, 1) := by decide +kernel
theorem d_M_credit_1 : decode prog_12_method_29_code 1 = .ok (.getfield 200, 3) := by decide +kernel
theorem d_M_credit_4 : decode prog_12_method_29_code 4 = .ok (.ifCond .lt 7, 3) := by decide +kernel
theorem d_M_credit_7 : decode prog_12_method_29_code 7 = .ok (.iload_n 1, 1) := by decide +kernel
theorem d_M_credit_8 : decode prog_12_method_29_code 8 = .ok (.ifCond .ge 5, 3) := by decide +kernel
theorem d_M_credit_11 : decode prog_12_method_29_code 11 = .ok (.iconst 0, 1) := by decide +kernel
theorem d_M_credit_12 : decode prog_12_method_29_code 12 = .ok (.ireturn, 1) := by decide +kernel
theorem d_M_credit_13 : decode prog_12_method_29_code 13 = .ok (.iconst 0, 1) := by decide +kernel
theorem d_M_credit_14 : decode prog_12_method_29_code 14 = .ok (.istore_n 2, 1) := by decide +kernel
theorem d_M_credit_15 : decode prog_12_method_29_code 15 = .ok (.iconst 0, 1) := by decide +kernel
theorem d_M_credit_16 : decode prog_12_method_29_code 16 = .ok (.istore_n 3, 1) := by decide +kernel
theorem d_M_credit_17 : decode prog_12_method_29_code 17 = .ok (.iload_n 3, 1) := by decide +kernel
theorem d_M_credit_18 : decode prog_12_method_29_code 18 = .ok (.aload_n 0, 1) := by decide +kernel
theorem d_M_credit_19 : decode prog_12_method_29_code 19 = .ok (.getfield 68, 3) := by decide +kernel
theorem d_M_credit_22 : decode prog_12_method_29_code 22 = .ok (.aload_n 0, 1) := by decide +kernel
theorem d_M_credit_23 : decode prog_12_method_29_code 23 = .ok (.getfield 200, 3) := by decide +kernel
theorem d_M_credit_26 : decode prog_12_method_29_code 26 = .ok (.iaload, 1) := by decide +kernel
theorem d_M_credit_27 : decode prog_12_method_29_code 27 = .ok (.if_icmp .ge 61, 3) := by decide +kernel
theorem d_M_credit_30 : decode prog_12_method_29_code 30 = .ok (.iload_n 3, 1) := by decide +kernel
theorem d_M_credit_31 : decode prog_12_method_29_code 31 = .ok (.aload_n 0, 1) := by decide +kernel
theorem d_M_credit_32 : decode prog_12_method_29_code 32 = .ok (.getfield 68, 3) := by decide +kernel
theorem d_M_credit_35 : decode prog_12_method_29_code 35 = .ok (.iload_n 1, 1) := by decide +kernel
theorem d_M_credit_36 : decode prog_12_method_29_code 36 = .ok (.iaload, 1) := by decide +kernel
theorem d_M_credit_37 : decode prog_12_method_29_code 37 = .ok (.if_icmp .ge 51, 3) := by decide +kernel
theorem d_M_credit_40 : decode prog_12_method_29_code 40 = .ok (.aload_n 0, 1) := by decide +kernel
theorem d_M_credit_41 : decode prog_12_method_29_code 41 = .ok (.getfield 71, 3) := by decide +kernel
theorem d_M_credit_44 : decode prog_12_method_29_code 44 = .ok (.bipush 49, 2) := by decide +kernel
theorem d_M_credit_46 : decode prog_12_method_29_code 46 = .ok (.aload_n 0, 1) := by decide +kernel
theorem d_M_credit_47 : decode prog_12_method_29_code 47 = .ok (.getfield 200, 3) := by decide +kernel
theorem d_M_credit_50 : decode prog_12_method_29_code 50 = .ok (.imul, 1) := by decide +kernel
theorem d_M_credit_51 : decode prog_12_method_29_code 51 = .ok (.iload_n 3, 1) := by decide +kernel
theorem d_M_credit_52 : decode prog_12_method_29_code 52 = .ok (.iadd, 1) := by decide +kernel
theorem d_M_credit_53 : decode prog_12_method_29_code 53 = .ok (.iaload, 1) := by decide +kernel
theorem d_M_credit_54 : decode prog_12_method_29_code 54 = .ok (.aload_n 0, 1) := by decide +kernel
theorem d_M_credit_55 : decode prog_12_method_29_code 55 = .ok (.getfield 71, 3) := by decide +kernel
theorem d_M_credit_58 : decode prog_12_method_29_code 58 = .ok (.bipush 49, 2) := by decide +kernel
theorem d_M_credit_60 : decode prog_12_method_29_code 60 = .ok (.iload_n 1, 1) := by decide +kernel
theorem d_M_credit_61 : decode prog_12_method_29_code 61 = .ok (.imul, 1) := by decide +kernel
theorem d_M_credit_62 : decode prog_12_method_29_code 62 = .ok (.iload_n 3, 1) := by decide +kernel
theorem d_M_credit_63 : decode prog_12_method_29_code 63 = .ok (.iadd, 1) := by decide +kernel
theorem d_M_credit_64 : decode prog_12_method_29_code 64 = .ok (.iaload, 1) := by decide +kernel
theorem d_M_credit_65 : decode prog_12_method_29_code 65 = .ok (.if_icmp .ne 23, 3) := by decide +kernel
theorem d_M_credit_68 : decode prog_12_method_29_code 68 = .ok (.iload_n 2, 1) := by decide +kernel
theorem d_M_credit_69 : decode prog_12_method_29_code 69 = .ok (.aload_n 0, 1) := by decide +kernel
theorem d_M_credit_70 : decode prog_12_method_29_code 70 = .ok (.getfield 74, 3) := by decide +kernel
theorem d_M_credit_73 : decode prog_12_method_29_code 73 = .ok (.bipush 49, 2) := by decide +kernel
theorem d_M_credit_75 : decode prog_12_method_29_code 75 = .ok (.iload_n 1, 1) := by decide +kernel
theorem d_M_credit_76 : decode prog_12_method_29_code 76 = .ok (.imul, 1) := by decide +kernel
theorem d_M_credit_77 : decode prog_12_method_29_code 77 = .ok (.iload_n 3, 1) := by decide +kernel
theorem d_M_credit_78 : decode prog_12_method_29_code 78 = .ok (.iadd, 1) := by decide +kernel
theorem d_M_credit_79 : decode prog_12_method_29_code 79 = .ok (.iaload, 1) := by decide +kernel
theorem d_M_credit_80 : decode prog_12_method_29_code 80 = .ok (.iadd, 1) := by decide +kernel
theorem d_M_credit_81 : decode prog_12_method_29_code 81 = .ok (.istore_n 2, 1) := by decide +kernel
theorem d_M_credit_82 : decode prog_12_method_29_code 82 = .ok (.iinc 3 1, 3) := by decide +kernel
theorem d_M_credit_85 : decode prog_12_method_29_code 85 = .ok (.goto (-68), 3) := by decide +kernel
theorem d_M_credit_88 : decode prog_12_method_29_code 88 = .ok (.aload_n 0, 1) := by decide +kernel
theorem d_M_credit_89 : decode prog_12_method_29_code 89 = .ok (.getfield 200, 3) := by decide +kernel
theorem d_M_credit_92 : decode prog_12_method_29_code 92 = .ok (.iload_n 1, 1) := by decide +kernel
theorem d_M_credit_93 : decode prog_12_method_29_code 93 = .ok (.if_icmp .ne 14, 3) := by decide +kernel
theorem d_M_credit_96 : decode prog_12_method_29_code 96 = .ok (.iload_n 2, 1) := by decide +kernel
theorem d_M_credit_97 : decode prog_12_method_29_code 97 = .ok (.aload_n 0, 1) := by decide +kernel
theorem d_M_credit_98 : decode prog_12_method_29_code 98 = .ok (.getfield 65, 3) := by decide +kernel
theorem d_M_credit_101 : decode prog_12_method_29_code 101 = .ok (.iload_n 1, 1) := by decide +kernel
theorem d_M_credit_102 : decode prog_12_method_29_code 102 = .ok (.iaload, 1) := by decide +kernel
theorem d_M_credit_103 : decode prog_12_method_29_code 103 = .ok (.iadd, 1) := by decide +kernel
theorem d_M_credit_104 : decode prog_12_method_29_code 104 = .ok (.goto 4, 3) := by decide +kernel
theorem d_M_credit_107 : decode prog_12_method_29_code 107 = .ok (.iload_n 2, 1) := by decide +kernel
theorem d_M_credit_108 : decode prog_12_method_29_code 108 = .ok (.ireturn, 1) := by decide +kernel
theorem d_M_edge_0 : decode prog_12_method_30_code 0 = .ok (.iload_n 1, 1) := by decide +kernel
theorem d_M_edge_1 : decode prog_12_method_30_code 1 = .ok (.ifCond .ge 7, 3) := by decide +kernel
theorem d_M_edge_4 : decode prog_12_method_30_code 4 = .ok (.iconst 0, 1) := by decide +kernel
theorem d_M_edge_5 : decode prog_12_method_30_code 5 = .ok (.goto 9, 3) := by decide +kernel
theorem d_M_edge_8 : decode prog_12_method_30_code 8 = .ok (.aload_n 0, 1) := by decide +kernel
theorem d_M_edge_9 : decode prog_12_method_30_code 9 = .ok (.getfield 56, 3) := by decide +kernel
theorem d_M_edge_12 : decode prog_12_method_30_code 12 = .ok (.iload_n 1, 1) := by decide +kernel
theorem d_M_edge_13 : decode prog_12_method_30_code 13 = .ok (.iaload, 1) := by decide +kernel
theorem d_M_edge_14 : decode prog_12_method_30_code 14 = .ok (.istore_n 2, 1) := by decide +kernel
theorem d_M_edge_15 : decode prog_12_method_30_code 15 = .ok (.iload_n 2, 1) := by decide +kernel
theorem d_M_edge_16 : decode prog_12_method_30_code 16 = .ok (.aload_n 0, 1) := by decide +kernel
theorem d_M_edge_17 : decode prog_12_method_30_code 17 = .ok (.getfield 197, 3) := by decide +kernel
theorem d_M_edge_20 : decode prog_12_method_30_code 20 = .ok (.if_icmp .le 7, 3) := by decide +kernel
theorem d_M_edge_23 : decode prog_12_method_30_code 23 = .ok (.iload_n 2, 1) := by decide +kernel
theorem d_M_edge_24 : decode prog_12_method_30_code 24 = .ok (.goto 9, 3) := by decide +kernel
theorem d_M_edge_27 : decode prog_12_method_30_code 27 = .ok (.iload_n 2, 1) := by decide +kernel
theorem d_M_edge_28 : decode prog_12_method_30_code 28 = .ok (.aload_n 0, 1) := by decide +kernel
theorem d_M_edge_29 : decode prog_12_method_30_code 29 = .ok (.getfield 7, 3) := by decide +kernel
theorem d_M_edge_32 : decode prog_12_method_30_code 32 = .ok (.iadd, 1) := by decide +kernel
theorem d_M_edge_33 : decode prog_12_method_30_code 33 = .ok (.ireturn, 1) := by decide +kernel
theorem d_M_slackOf_0 : decode prog_12_method_31_code 0 = .ok (.iload_n 1, 1) := by decide +kernel
theorem d_M_slackOf_1 : decode prog_12_method_31_code 1 = .ok (.ifCond .ne 48, 3) := by decide +kernel
theorem d_M_slackOf_4 : decode prog_12_method_31_code 4 = .ok (.aload_n 0, 1) := by decide +kernel
theorem d_M_slackOf_5 : decode prog_12_method_31_code 5 = .ok (.iload 4, 2) := by decide +kernel
theorem d_M_slackOf_7 : decode prog_12_method_31_code 7 = .ok (.invokevirtual 203, 3) := by decide +kernel
theorem d_M_slackOf_10 : decode prog_12_method_31_code 10 = .ok (.iload 4, 2) := by decide +kernel
theorem d_M_slackOf_12 : decode prog_12_method_31_code 12 = .ok (.ifCond .ge 7, 3) := by decide +kernel
theorem d_M_slackOf_15 : decode prog_12_method_31_code 15 = .ok (.iconst 0, 1) := by decide +kernel
theorem d_M_slackOf_16 : decode prog_12_method_31_code 16 = .ok (.goto 10, 3) := by decide +kernel
theorem d_M_slackOf_19 : decode prog_12_method_31_code 19 = .ok (.aload_n 0, 1) := by decide +kernel
theorem d_M_slackOf_20 : decode prog_12_method_31_code 20 = .ok (.getfield 59, 3) := by decide +kernel
theorem d_M_slackOf_23 : decode prog_12_method_31_code 23 = .ok (.iload 4, 2) := by decide +kernel
theorem d_M_slackOf_25 : decode prog_12_method_31_code 25 = .ok (.iaload, 1) := by decide +kernel
theorem d_M_slackOf_26 : decode prog_12_method_31_code 26 = .ok (.iadd, 1) := by decide +kernel
theorem d_M_slackOf_27 : decode prog_12_method_31_code 27 = .ok (.aload_n 0, 1) := by decide +kernel
theorem d_M_slackOf_28 : decode prog_12_method_31_code 28 = .ok (.iload 4, 2) := by decide +kernel
theorem d_M_slackOf_30 : decode prog_12_method_31_code 30 = .ok (.invokevirtual 207, 3) := by decide +kernel
theorem d_M_slackOf_33 : decode prog_12_method_31_code 33 = .ok (.iadd, 1) := by decide +kernel
theorem d_M_slackOf_34 : decode prog_12_method_31_code 34 = .ok (.aload_n 0, 1) := by decide +kernel
theorem d_M_slackOf_35 : decode prog_12_method_31_code 35 = .ok (.getfield 44, 3) := by decide +kernel
theorem d_M_slackOf_38 : decode prog_12_method_31_code 38 = .ok (.iconst 2, 1) := by decide +kernel
theorem d_M_slackOf_39 : decode prog_12_method_31_code 39 = .ok (.iload_n 2, 1) := by decide +kernel
theorem d_M_slackOf_40 : decode prog_12_method_31_code 40 = .ok (.imul, 1) := by decide +kernel
theorem d_M_slackOf_41 : decode prog_12_method_31_code 41 = .ok (.iload_n 3, 1) := by decide +kernel
theorem d_M_slackOf_42 : decode prog_12_method_31_code 42 = .ok (.iadd, 1) := by decide +kernel
theorem d_M_slackOf_43 : decode prog_12_method_31_code 43 = .ok (.iaload, 1) := by decide +kernel
theorem d_M_slackOf_44 : decode prog_12_method_31_code 44 = .ok (.isub, 1) := by decide +kernel
theorem d_M_slackOf_45 : decode prog_12_method_31_code 45 = .ok (.iload 6, 2) := by decide +kernel
theorem d_M_slackOf_47 : decode prog_12_method_31_code 47 = .ok (.isub, 1) := by decide +kernel
theorem d_M_slackOf_48 : decode prog_12_method_31_code 48 = .ok (.ireturn, 1) := by decide +kernel
theorem d_M_slackOf_49 : decode prog_12_method_31_code 49 = .ok (.iload 5, 2) := by decide +kernel
theorem d_M_slackOf_51 : decode prog_12_method_31_code 51 = .ok (.aload_n 0, 1) := by decide +kernel
theorem d_M_slackOf_52 : decode prog_12_method_31_code 52 = .ok (.iload 4, 2) := by decide +kernel
theorem d_M_slackOf_54 : decode prog_12_method_31_code 54 = .ok (.invokevirtual 207, 3) := by decide +kernel
theorem d_M_slackOf_57 : decode prog_12_method_31_code 57 = .ok (.iadd, 1) := by decide +kernel
theorem d_M_slackOf_58 : decode prog_12_method_31_code 58 = .ok (.aload_n 0, 1) := by decide +kernel
theorem d_M_slackOf_59 : decode prog_12_method_31_code 59 = .ok (.iload 4, 2) := by decide +kernel
theorem d_M_slackOf_61 : decode prog_12_method_31_code 61 = .ok (.invokevirtual 203, 3) := by decide +kernel
theorem d_M_slackOf_64 : decode prog_12_method_31_code 64 = .ok (.isub, 1) := by decide +kernel
theorem d_M_slackOf_65 : decode prog_12_method_31_code 65 = .ok (.iload 4, 2) := by decide +kernel
theorem d_M_slackOf_67 : decode prog_12_method_31_code 67 = .ok (.ifCond .ge 7, 3) := by decide +kernel
theorem d_M_slackOf_70 : decode prog_12_method_31_code 70 = .ok (.iconst 0, 1) := by decide +kernel
theorem d_M_slackOf_71 : decode prog_12_method_31_code 71 = .ok (.goto 10, 3) := by decide +kernel
theorem d_M_slackOf_74 : decode prog_12_method_31_code 74 = .ok (.aload_n 0, 1) := by decide +kernel
theorem d_M_slackOf_75 : decode prog_12_method_31_code 75 = .ok (.getfield 62, 3) := by decide +kernel
theorem d_M_slackOf_78 : decode prog_12_method_31_code 78 = .ok (.iload 4, 2) := by decide +kernel
theorem d_M_slackOf_80 : decode prog_12_method_31_code 80 = .ok (.iaload, 1) := by decide +kernel
theorem d_M_slackOf_81 : decode prog_12_method_31_code 81 = .ok (.isub, 1) := by decide +kernel
theorem d_M_slackOf_82 : decode prog_12_method_31_code 82 = .ok (.aload_n 0, 1) := by decide +kernel
theorem d_M_slackOf_83 : decode prog_12_method_31_code 83 = .ok (.getfield 47, 3) := by decide +kernel
theorem d_M_slackOf_86 : decode prog_12_method_31_code 86 = .ok (.iconst 2, 1) := by decide +kernel
theorem d_M_slackOf_87 : decode prog_12_method_31_code 87 = .ok (.iload_n 2, 1) := by decide +kernel
theorem d_M_slackOf_88 : decode prog_12_method_31_code 88 = .ok (.imul, 1) := by decide +kernel
theorem d_M_slackOf_89 : decode prog_12_method_31_code 89 = .ok (.iload_n 3, 1) := by decide +kernel
theorem d_M_slackOf_90 : decode prog_12_method_31_code 90 = .ok (.iadd, 1) := by decide +kernel
theorem d_M_slackOf_91 : decode prog_12_method_31_code 91 = .ok (.iaload, 1) := by decide +kernel
theorem d_M_slackOf_92 : decode prog_12_method_31_code 92 = .ok (.isub, 1) := by decide +kernel
theorem d_M_slackOf_93 : decode prog_12_method_31_code 93 = .ok (.aload_n 0, 1) := by decide +kernel
theorem d_M_slackOf_94 : decode prog_12_method_31_code 94 = .ok (.getfield 7, 3) := by decide +kernel
theorem d_M_slackOf_97 : decode prog_12_method_31_code 97 = .ok (.iadd, 1) := by decide +kernel
theorem d_M_slackOf_98 : decode prog_12_method_31_code 98 = .ok (.ireturn, 1) := by decide +kernel
theorem d_M_meet_0 : decode prog_12_method_32_code 0 = .ok (.iconst 0, 1) := by decide +kernel
theorem d_M_meet_1 : decode prog_12_method_32_code 1 = .ok (.istore 6, 2) := by decide +kernel
theorem d_M_meet_3 : decode prog_12_method_32_code 3 = .ok (.iload 6, 2) := by decide +kernel
theorem d_M_meet_5 : decode prog_12_method_32_code 5 = .ok (.iconst 2, 1) := by decide +kernel
theorem d_M_meet_6 : decode prog_12_method_32_code 6 = .ok (.if_icmp .ge 164, 3) := by decide +kernel
theorem d_M_meet_9 : decode prog_12_method_32_code 9 = .ok (.aload_n 0, 1) := by decide +kernel
theorem d_M_meet_10 : decode prog_12_method_32_code 10 = .ok (.iload 6, 2) := by decide +kernel
theorem d_M_meet_12 : decode prog_12_method_32_code 12 = .ok (.iload_n 1, 1) := by decide +kernel
theorem d_M_meet_13 : decode prog_12_method_32_code 13 = .ok (.iload_n 2, 1) := by decide +kernel
theorem d_M_meet_14 : decode prog_12_method_32_code 14 = .ok (.iload_n 3, 1) := by decide +kernel
theorem d_M_meet_15 : decode prog_12_method_32_code 15 = .ok (.iload 4, 2) := by decide +kernel
theorem d_M_meet_17 : decode prog_12_method_32_code 17 = .ok (.iload 5, 2) := by decide +kernel
theorem d_M_meet_19 : decode prog_12_method_32_code 19 = .ok (.invokevirtual 210, 3) := by decide +kernel
theorem d_M_meet_22 : decode prog_12_method_32_code 22 = .ok (.istore 7, 2) := by decide +kernel
theorem d_M_meet_24 : decode prog_12_method_32_code 24 = .ok (.iconst 2, 1) := by decide +kernel
theorem d_M_meet_25 : decode prog_12_method_32_code 25 = .ok (.iload_n 1, 1) := by decide +kernel
theorem d_M_meet_26 : decode prog_12_method_32_code 26 = .ok (.imul, 1) := by decide +kernel
theorem d_M_meet_27 : decode prog_12_method_32_code 27 = .ok (.iload 6, 2) := by decide +kernel
theorem d_M_meet_29 : decode prog_12_method_32_code 29 = .ok (.iadd, 1) := by decide +kernel
theorem d_M_meet_30 : decode prog_12_method_32_code 30 = .ok (.istore 8, 2) := by decide +kernel
theorem d_M_meet_32 : decode prog_12_method_32_code 32 = .ok (.aload_n 0, 1) := by decide +kernel
theorem d_M_meet_33 : decode prog_12_method_32_code 33 = .ok (.getfield 96, 3) := by decide +kernel
theorem d_M_meet_36 : decode prog_12_method_32_code 36 = .ok (.iload 8, 2) := by decide +kernel
theorem d_M_meet_38 : decode prog_12_method_32_code 38 = .ok (.aload_n 0, 1) := by decide +kernel
theorem d_M_meet_39 : decode prog_12_method_32_code 39 = .ok (.getfield 96, 3) := by decide +kernel
theorem d_M_meet_42 : decode prog_12_method_32_code 42 = .ok (.iload 8, 2) := by decide +kernel
theorem d_M_meet_44 : decode prog_12_method_32_code 44 = .ok (.iaload, 1) := by decide +kernel
theorem d_M_meet_45 : decode prog_12_method_32_code 45 = .ok (.ldc 140, 2) := by decide +kernel
theorem d_M_meet_47 : decode prog_12_method_32_code 47 = .ok (.if_icmp .eq 15, 3) := by decide +kernel
theorem d_M_meet_50 : decode prog_12_method_32_code 50 = .ok (.iload 7, 2) := by decide +kernel
theorem d_M_meet_52 : decode prog_12_method_32_code 52 = .ok (.aload_n 0, 1) := by decide +kernel
theorem d_M_meet_53 : decode prog_12_method_32_code 53 = .ok (.getfield 96, 3) := by decide +kernel
theorem d_M_meet_56 : decode prog_12_method_32_code 56 = .ok (.iload 8, 2) := by decide +kernel
theorem d_M_meet_58 : decode prog_12_method_32_code 58 = .ok (.iaload, 1) := by decide +kernel
theorem d_M_meet_59 : decode prog_12_method_32_code 59 = .ok (.if_icmp .ge 8, 3) := by decide +kernel
theorem d_M_meet_62 : decode prog_12_method_32_code 62 = .ok (.iload 7, 2) := by decide +kernel
theorem d_M_meet_64 : decode prog_12_method_32_code 64 = .ok (.goto 10, 3) := by decide +kernel
theorem d_M_meet_67 : decode prog_12_method_32_code 67 = .ok (.aload_n 0, 1) := by decide +kernel
theorem d_M_meet_68 : decode prog_12_method_32_code 68 = .ok (.getfield 96, 3) := by decide +kernel
theorem d_M_meet_71 : decode prog_12_method_32_code 71 = .ok (.iload 8, 2) := by decide +kernel
theorem d_M_meet_73 : decode prog_12_method_32_code 73 = .ok (.iaload, 1) := by decide +kernel
theorem d_M_meet_74 : decode prog_12_method_32_code 74 = .ok (.iastore, 1) := by decide +kernel
theorem d_M_meet_75 : decode prog_12_method_32_code 75 = .ok (.iload 6, 2) := by decide +kernel
theorem d_M_meet_77 : decode prog_12_method_32_code 77 = .ok (.ifCond .ne 51, 3) := by decide +kernel
theorem d_M_meet_80 : decode prog_12_method_32_code 80 = .ok (.aload_n 0, 1) := by decide +kernel
theorem d_M_meet_81 : decode prog_12_method_32_code 81 = .ok (.iload_n 3, 1) := by decide +kernel
theorem d_M_meet_82 : decode prog_12_method_32_code 82 = .ok (.invokevirtual 203, 3) := by decide +kernel
theorem d_M_meet_85 : decode prog_12_method_32_code 85 = .ok (.aload_n 0, 1) := by decide +kernel
theorem d_M_meet_86 : decode prog_12_method_32_code 86 = .ok (.getfield 7, 3) := by decide +kernel
theorem d_M_meet_89 : decode prog_12_method_32_code 89 = .ok (.iconst 1, 1) := by decide +kernel
theorem d_M_meet_90 : decode prog_12_method_32_code 90 = .ok (.isub, 1) := by decide +kernel
theorem d_M_meet_91 : decode prog_12_method_32_code 91 = .ok (.if_icmp .le 37, 3) := by decide +kernel
theorem d_M_meet_94 : decode prog_12_method_32_code 94 = .ok (.aload_n 0, 1) := by decide +kernel
theorem d_M_meet_95 : decode prog_12_method_32_code 95 = .ok (.aload_n 0, 1) := by decide +kernel
theorem d_M_meet_96 : decode prog_12_method_32_code 96 = .ok (.getfield 214, 3) := by decide +kernel
theorem d_M_meet_99 : decode prog_12_method_32_code 99 = .ok (.ldc 140, 2) := by decide +kernel
theorem d_M_meet_101 : decode prog_12_method_32_code 101 = .ok (.if_icmp .eq 12, 3) := by decide +kernel
theorem d_M_meet_104 : decode prog_12_method_32_code 104 = .ok (.iload 7, 2) := by decide +kernel
theorem d_M_meet_106 : decode prog_12_method_32_code 106 = .ok (.aload_n 0, 1) := by decide +kernel
theorem d_M_meet_107 : decode prog_12_method_32_code 107 = .ok (.getfield 214, 3) := by decide +kernel
theorem d_M_meet_110 : decode prog_12_method_32_code 110 = .ok (.if_icmp .ge 8, 3) := by decide +kernel
theorem d_M_meet_113 : decode prog_12_method_32_code 113 = .ok (.iload 7, 2) := by decide +kernel
theorem d_M_meet_115 : decode prog_12_method_32_code 115 = .ok (.goto 7, 3) := by decide +kernel
theorem d_M_meet_118 : decode prog_12_method_32_code 118 = .ok (.aload_n 0, 1) := by decide +kernel
theorem d_M_meet_119 : decode prog_12_method_32_code 119 = .ok (.getfield 214, 3) := by decide +kernel
theorem d_M_meet_122 : decode prog_12_method_32_code 122 = .ok (.putfield 214, 3) := by decide +kernel
theorem d_M_meet_125 : decode prog_12_method_32_code 125 = .ok (.goto 39, 3) := by decide +kernel
theorem d_M_meet_128 : decode prog_12_method_32_code 128 = .ok (.iload 6, 2) := by decide +kernel
theorem d_M_meet_130 : decode prog_12_method_32_code 130 = .ok (.ifCond .ne 34, 3) := by decide +kernel
theorem d_M_meet_133 : decode prog_12_method_32_code 133 = .ok (.aload_n 0, 1) := by decide +kernel
theorem d_M_meet_134 : decode prog_12_method_32_code 134 = .ok (.aload_n 0, 1) := by decide +kernel
theorem d_M_meet_135 : decode prog_12_method_32_code 135 = .ok (.getfield 217, 3) := by decide +kernel
theorem d_M_meet_138 : decode prog_12_method_32_code 138 = .ok (.ldc 140, 2) := by decide +kernel
theorem d_M_meet_140 : decode prog_12_method_32_code 140 = .ok (.if_icmp .eq 12, 3) := by decide +kernel
theorem d_M_meet_143 : decode prog_12_method_32_code 143 = .ok (.iload 7, 2) := by decide +kernel
theorem d_M_meet_145 : decode prog_12_method_32_code 145 = .ok (.aload_n 0, 1) := by decide +kernel
theorem d_M_meet_146 : decode prog_12_method_32_code 146 = .ok (.getfield 217, 3) := by decide +kernel
theorem d_M_meet_149 : decode prog_12_method_32_code 149 = .ok (.if_icmp .ge 8, 3) := by decide +kernel
theorem d_M_meet_152 : decode prog_12_method_32_code 152 = .ok (.iload 7, 2) := by decide +kernel
theorem d_M_meet_154 : decode prog_12_method_32_code 154 = .ok (.goto 7, 3) := by decide +kernel
theorem d_M_meet_157 : decode prog_12_method_32_code 157 = .ok (.aload_n 0, 1) := by decide +kernel
theorem d_M_meet_158 : decode prog_12_method_32_code 158 = .ok (.getfield 217, 3) := by decide +kernel
theorem d_M_meet_161 : decode prog_12_method_32_code 161 = .ok (.putfield 217, 3) := by decide +kernel
theorem d_M_meet_164 : decode prog_12_method_32_code 164 = .ok (.iinc 6 1, 3) := by decide +kernel
theorem d_M_meet_167 : decode prog_12_method_32_code 167 = .ok (.goto (-164), 3) := by decide +kernel
theorem d_M_meet_170 : decode prog_12_method_32_code 170 = .ok (.return_, 1) := by decide +kernel
theorem d_M_finishAt_0 : decode prog_12_method_33_code 0 = .ok (.aload_n 0, 1) := by decide +kernel
theorem d_M_finishAt_1 : decode prog_12_method_33_code 1 = .ok (.getfield 26, 3) := by decide +kernel
theorem d_M_finishAt_4 : decode prog_12_method_33_code 4 = .ok (.iconst 3, 1) := by decide +kernel
theorem d_M_finishAt_5 : decode prog_12_method_33_code 5 = .ok (.iload_n 1, 1) := by decide +kernel
theorem d_M_finishAt_6 : decode prog_12_method_33_code 6 = .ok (.imul, 1) := by decide +kernel
theorem d_M_finishAt_7 : decode prog_12_method_33_code 7 = .ok (.iaload, 1) := by decide +kernel
theorem d_M_finishAt_8 : decode prog_12_method_33_code 8 = .ok (.istore_n 2, 1) := by decide +kernel
theorem d_M_finishAt_9 : decode prog_12_method_33_code 9 = .ok (.iconst 0, 1) := by decide +kernel
theorem d_M_finishAt_10 : decode prog_12_method_33_code 10 = .ok (.istore_n 3, 1) := by decide +kernel
theorem d_M_finishAt_11 : decode prog_12_method_33_code 11 = .ok (.iload_n 3, 1) := by decide +kernel
theorem d_M_finishAt_12 : decode prog_12_method_33_code 12 = .ok (.iconst 2, 1) := by decide +kernel
theorem d_M_finishAt_13 : decode prog_12_method_33_code 13 = .ok (.if_icmp .ge 147, 3) := by decide +kernel
theorem d_M_finishAt_16 : decode prog_12_method_33_code 16 = .ok (.iload_n 2, 1) := by decide +kernel
theorem d_M_finishAt_17 : decode prog_12_method_33_code 17 = .ok (.ifCond .lt 143, 3) := by decide +kernel
theorem d_M_finishAt_20 : decode prog_12_method_33_code 20 = .ok (.aload_n 0, 1) := by decide +kernel
theorem d_M_finishAt_21 : decode prog_12_method_33_code 21 = .ok (.getfield 80, 3) := by decide +kernel
theorem d_M_finishAt_24 : decode prog_12_method_33_code 24 = .ok (.iconst 2, 1) := by decide +kernel
theorem d_M_finishAt_25 : decode prog_12_method_33_code 25 = .ok (.iload_n 2, 1) := by decide +kernel
theorem d_M_finishAt_26 : decode prog_12_method_33_code 26 = .ok (.imul, 1) := by decide +kernel
theorem d_M_finishAt_27 : decode prog_12_method_33_code 27 = .ok (.iload_n 3, 1) := by decide +kernel
theorem d_M_finishAt_28 : decode prog_12_method_33_code 28 = .ok (.iadd, 1) := by decide +kernel
theorem d_M_finishAt_29 : decode prog_12_method_33_code 29 = .ok (.baload, 1) := by decide +kernel
theorem d_M_finishAt_30 : decode prog_12_method_33_code 30 = .ok (.ifCond .eq 124, 3) := by decide +kernel
theorem d_M_finishAt_33 : decode prog_12_method_33_code 33 = .ok (.aload_n 0, 1) := by decide +kernel
theorem d_M_finishAt_34 : decode prog_12_method_33_code 34 = .ok (.getfield 84, 3) := by decide +kernel
theorem d_M_finishAt_37 : decode prog_12_method_33_code 37 = .ok (.iconst 2, 1) := by decide +kernel
theorem d_M_finishAt_38 : decode prog_12_method_33_code 38 = .ok (.iload_n 2, 1) := by decide +kernel
theorem d_M_finishAt_39 : decode prog_12_method_33_code 39 = .ok (.imul, 1) := by decide +kernel
theorem d_M_finishAt_40 : decode prog_12_method_33_code 40 = .ok (.iload_n 3, 1) := by decide +kernel
theorem d_M_finishAt_41 : decode prog_12_method_33_code 41 = .ok (.iadd, 1) := by decide +kernel
theorem d_M_finishAt_42 : decode prog_12_method_33_code 42 = .ok (.iaload, 1) := by decide +kernel
theorem d_M_finishAt_43 : decode prog_12_method_33_code 43 = .ok (.aload_n 0, 1) := by decide +kernel
theorem d_M_finishAt_44 : decode prog_12_method_33_code 44 = .ok (.getfield 29, 3) := by decide +kernel
theorem d_M_finishAt_47 : decode prog_12_method_33_code 47 = .ok (.iconst 3, 1) := by decide +kernel
theorem d_M_finishAt_48 : decode prog_12_method_33_code 48 = .ok (.iload_n 1, 1) := by decide +kernel
theorem d_M_finishAt_49 : decode prog_12_method_33_code 49 = .ok (.imul, 1) := by decide +kernel
theorem d_M_finishAt_50 : decode prog_12_method_33_code 50 = .ok (.iaload, 1) := by decide +kernel
theorem d_M_finishAt_51 : decode prog_12_method_33_code 51 = .ok (.iadd, 1) := by decide +kernel
theorem d_M_finishAt_52 : decode prog_12_method_33_code 52 = .ok (.istore 4, 2) := by decide +kernel
theorem d_M_finishAt_54 : decode prog_12_method_33_code 54 = .ok (.aload_n 0, 1) := by decide +kernel
theorem d_M_finishAt_55 : decode prog_12_method_33_code 55 = .ok (.getfield 87, 3) := by decide +kernel
theorem d_M_finishAt_58 : decode prog_12_method_33_code 58 = .ok (.iconst 2, 1) := by decide +kernel
theorem d_M_finishAt_59 : decode prog_12_method_33_code 59 = .ok (.iload_n 2, 1) := by decide +kernel
theorem d_M_finishAt_60 : decode prog_12_method_33_code 60 = .ok (.imul, 1) := by decide +kernel
theorem d_M_finishAt_61 : decode prog_12_method_33_code 61 = .ok (.iload_n 3, 1) := by decide +kernel
theorem d_M_finishAt_62 : decode prog_12_method_33_code 62 = .ok (.iadd, 1) := by decide +kernel
theorem d_M_finishAt_63 : decode prog_12_method_33_code 63 = .ok (.iaload, 1) := by decide +kernel
theorem d_M_finishAt_64 : decode prog_12_method_33_code 64 = .ok (.aload_n 0, 1) := by decide +kernel
theorem d_M_finishAt_65 : decode prog_12_method_33_code 65 = .ok (.getfield 32, 3) := by decide +kernel
theorem d_M_finishAt_68 : decode prog_12_method_33_code 68 = .ok (.iconst 3, 1) := by decide +kernel
theorem d_M_finishAt_69 : decode prog_12_method_33_code 69 = .ok (.iload_n 1, 1) := by decide +kernel
theorem d_M_finishAt_70 : decode prog_12_method_33_code 70 = .ok (.imul, 1) := by decide +kernel
theorem d_M_finishAt_71 : decode prog_12_method_33_code 71 = .ok (.iaload, 1) := by decide +kernel
theorem d_M_finishAt_72 : decode prog_12_method_33_code 72 = .ok (.iadd, 1) := by decide +kernel
theorem d_M_finishAt_73 : decode prog_12_method_33_code 73 = .ok (.istore 5, 2) := by decide +kernel
theorem d_M_finishAt_75 : decode prog_12_method_33_code 75 = .ok (.aload_n 0, 1) := by decide +kernel
theorem d_M_finishAt_76 : decode prog_12_method_33_code 76 = .ok (.iload_n 1, 1) := by decide +kernel
theorem d_M_finishAt_77 : decode prog_12_method_33_code 77 = .ok (.iload_n 3, 1) := by decide +kernel
theorem d_M_finishAt_78 : decode prog_12_method_33_code 78 = .ok (.iload 4, 2) := by decide +kernel
theorem d_M_finishAt_80 : decode prog_12_method_33_code 80 = .ok (.iload 5, 2) := by decide +kernel
theorem d_M_finishAt_82 : decode prog_12_method_33_code 82 = .ok (.invokevirtual 220, 3) := by decide +kernel
theorem d_M_finishAt_85 : decode prog_12_method_33_code 85 = .ok (.aload_n 0, 1) := by decide +kernel
theorem d_M_finishAt_86 : decode prog_12_method_33_code 86 = .ok (.getfield 19, 3) := by decide +kernel
theorem d_M_finishAt_89 : decode prog_12_method_33_code 89 = .ok (.iload_n 1, 1) := by decide +kernel
theorem d_M_finishAt_90 : decode prog_12_method_33_code 90 = .ok (.iaload, 1) := by decide +kernel
theorem d_M_finishAt_91 : decode prog_12_method_33_code 91 = .ok (.iconst 4, 1) := by decide +kernel
theorem d_M_finishAt_92 : decode prog_12_method_33_code 92 = .ok (.if_icmp .ne 15, 3) := by decide +kernel
theorem d_M_finishAt_95 : decode prog_12_method_33_code 95 = .ok (.aload_n 0, 1) := by decide +kernel
theorem d_M_finishAt_96 : decode prog_12_method_33_code 96 = .ok (.iload_n 1, 1) := by decide +kernel
theorem d_M_finishAt_97 : decode prog_12_method_33_code 97 = .ok (.iload_n 3, 1) := by decide +kernel
theorem d_M_finishAt_98 : decode prog_12_method_33_code 98 = .ok (.ldc 140, 2) := by decide +kernel
theorem d_M_finishAt_100 : decode prog_12_method_33_code 100 = .ok (.iload 4, 2) := by decide +kernel
theorem d_M_finishAt_102 : decode prog_12_method_33_code 102 = .ok (.iload 5, 2) := by decide +kernel
theorem d_M_finishAt_104 : decode prog_12_method_33_code 104 = .ok (.invokevirtual 224, 3) := by decide +kernel
theorem d_M_finishAt_107 : decode prog_12_method_33_code 107 = .ok (.iconst 0, 1) := by decide +kernel
theorem d_M_finishAt_108 : decode prog_12_method_33_code 108 = .ok (.istore 6, 2) := by decide +kernel
theorem d_M_finishAt_110 : decode prog_12_method_33_code 110 = .ok (.iload 6, 2) := by decide +kernel
theorem d_M_finishAt_112 : decode prog_12_method_33_code 112 = .ok (.aload_n 0, 1) := by decide +kernel
theorem d_M_finishAt_113 : decode prog_12_method_33_code 113 = .ok (.getfield 53, 3) := by decide +kernel
theorem d_M_finishAt_116 : decode prog_12_method_33_code 116 = .ok (.iload_n 1, 1) := by decide +kernel
theorem d_M_finishAt_117 : decode prog_12_method_33_code 117 = .ok (.iaload, 1) := by decide +kernel
theorem d_M_finishAt_118 : decode prog_12_method_33_code 118 = .ok (.if_icmp .ge 36, 3) := by decide +kernel
theorem d_M_finishAt_121 : decode prog_12_method_33_code 121 = .ok (.aload_n 0, 1) := by decide +kernel
theorem d_M_finishAt_122 : decode prog_12_method_33_code 122 = .ok (.getfield 19, 3) := by decide +kernel
theorem d_M_finishAt_125 : decode prog_12_method_33_code 125 = .ok (.iload_n 1, 1) := by decide +kernel
theorem d_M_finishAt_126 : decode prog_12_method_33_code 126 = .ok (.iaload, 1) := by decide +kernel
theorem d_M_finishAt_127 : decode prog_12_method_33_code 127 = .ok (.iconst 3, 1) := by decide +kernel
theorem d_M_finishAt_128 : decode prog_12_method_33_code 128 = .ok (.if_icmp .ne 26, 3) := by decide +kernel
theorem d_M_finishAt_131 : decode prog_12_method_33_code 131 = .ok (.aload_n 0, 1) := by decide +kernel
theorem d_M_finishAt_132 : decode prog_12_method_33_code 132 = .ok (.iload_n 1, 1) := by decide +kernel
theorem d_M_finishAt_133 : decode prog_12_method_33_code 133 = .ok (.iload_n 3, 1) := by decide +kernel
theorem d_M_finishAt_134 : decode prog_12_method_33_code 134 = .ok (.bipush 8, 2) := by decide +kernel
theorem d_M_finishAt_136 : decode prog_12_method_33_code 136 = .ok (.iload_n 1, 1) := by decide +kernel
theorem d_M_finishAt_137 : decode prog_12_method_33_code 137 = .ok (.imul, 1) := by decide +kernel
theorem d_M_finishAt_138 : decode prog_12_method_33_code 138 = .ok (.iload 6, 2) := by decide +kernel
theorem d_M_finishAt_140 : decode prog_12_method_33_code 140 = .ok (.iadd, 1) := by decide +kernel
theorem d_M_finishAt_141 : decode prog_12_method_33_code 141 = .ok (.iload 4, 2) := by decide +kernel
theorem d_M_finishAt_143 : decode prog_12_method_33_code 143 = .ok (.iload 5, 2) := by decide +kernel
theorem d_M_finishAt_145 : decode prog_12_method_33_code 145 = .ok (.invokevirtual 224, 3) := by decide +kernel
theorem d_M_finishAt_148 : decode prog_12_method_33_code 148 = .ok (.iinc 6 1, 3) := by decide +kernel
theorem d_M_finishAt_151 : decode prog_12_method_33_code 151 = .ok (.goto (-41), 3) := by decide +kernel
theorem d_M_finishAt_154 : decode prog_12_method_33_code 154 = .ok (.iinc 3 1, 3) := by decide +kernel
theorem d_M_finishAt_157 : decode prog_12_method_33_code 157 = .ok (.goto (-146), 3) := by decide +kernel
theorem d_M_finishAt_160 : decode prog_12_method_33_code 160 = .ok (.return_, 1) := by decide +kernel
theorem d_M_fromStart_0 : decode prog_12_method_34_code 0 = .ok (.aload_n 0, 1) := by decide +kernel
theorem d_M_fromStart_1 : decode prog_12_method_34_code 1 = .ok (.invokevirtual 228, 3) := by decide +kernel
theorem d_M_fromStart_4 : decode prog_12_method_34_code 4 = .ok (.iconst 0, 1) := by decide +kernel
theorem d_M_fromStart_5 : decode prog_12_method_34_code 5 = .ok (.istore_n 1, 1) := by decide +kernel
theorem d_M_fromStart_6 : decode prog_12_method_34_code 6 = .ok (.iload_n 1, 1) := by decide +kernel
theorem d_M_fromStart_7 : decode prog_12_method_34_code 7 = .ok (.aload_n 0, 1) := by decide +kernel
theorem d_M_fromStart_8 : decode prog_12_method_34_code 8 = .ok (.getfield 16, 3) := by decide +kernel
theorem d_M_fromStart_11 : decode prog_12_method_34_code 11 = .ok (.if_icmp .ge 94, 3) := by decide +kernel
theorem d_M_fromStart_14 : decode prog_12_method_34_code 14 = .ok (.iconst 0, 1) := by decide +kernel
theorem d_M_fromStart_15 : decode prog_12_method_34_code 15 = .ok (.istore_n 2, 1) := by decide +kernel
theorem d_M_fromStart_16 : decode prog_12_method_34_code 16 = .ok (.iload_n 2, 1) := by decide +kernel
theorem d_M_fromStart_17 : decode prog_12_method_34_code 17 = .ok (.iconst 2, 1) := by decide +kernel
theorem d_M_fromStart_18 : decode prog_12_method_34_code 18 = .ok (.if_icmp .ge 68, 3) := by decide +kernel
theorem d_M_fromStart_21 : decode prog_12_method_34_code 21 = .ok (.aload_n 0, 1) := by decide +kernel
theorem d_M_fromStart_22 : decode prog_12_method_34_code 22 = .ok (.getfield 80, 3) := by decide +kernel
theorem d_M_fromStart_25 : decode prog_12_method_34_code 25 = .ok (.iconst 2, 1) := by decide +kernel
theorem d_M_fromStart_26 : decode prog_12_method_34_code 26 = .ok (.iload_n 1, 1) := by decide +kernel
theorem d_M_fromStart_27 : decode prog_12_method_34_code 27 = .ok (.imul, 1) := by decide +kernel
theorem d_M_fromStart_28 : decode prog_12_method_34_code 28 = .ok (.iload_n 2, 1) := by decide +kernel
theorem d_M_fromStart_29 : decode prog_12_method_34_code 29 = .ok (.iadd, 1) := by decide +kernel
theorem d_M_fromStart_30 : decode prog_12_method_34_code 30 = .ok (.baload, 1) := by decide +kernel
theorem d_M_fromStart_31 : decode prog_12_method_34_code 31 = .ok (.ifCond .eq 49, 3) := by decide +kernel
theorem d_M_fromStart_34 : decode prog_12_method_34_code 34 = .ok (.aload_n 0, 1) := by decide +kernel
theorem d_M_fromStart_35 : decode prog_12_method_34_code 35 = .ok (.getfield 19, 3) := by decide +kernel
theorem d_M_fromStart_38 : decode prog_12_method_34_code 38 = .ok (.iload_n 1, 1) := by decide +kernel
theorem d_M_fromStart_39 : decode prog_12_method_34_code 39 = .ok (.iaload, 1) := by decide +kernel
theorem d_M_fromStart_40 : decode prog_12_method_34_code 40 = .ok (.iconst 2, 1) := by decide +kernel
theorem d_M_fromStart_41 : decode prog_12_method_34_code 41 = .ok (.if_icmp .eq 13, 3) := by decide +kernel
theorem d_M_fromStart_44 : decode prog_12_method_34_code 44 = .ok (.aload_n 0, 1) := by decide +kernel
theorem d_M_fromStart_45 : decode prog_12_method_34_code 45 = .ok (.getfield 19, 3) := by decide +kernel
theorem d_M_fromStart_48 : decode prog_12_method_34_code 48 = .ok (.iload_n 1, 1) := by decide +kernel
theorem d_M_fromStart_49 : decode prog_12_method_34_code 49 = .ok (.iaload, 1) := by decide +kernel
theorem d_M_fromStart_50 : decode prog_12_method_34_code 50 = .ok (.iconst 1, 1) := by decide +kernel
theorem d_M_fromStart_51 : decode prog_12_method_34_code 51 = .ok (.if_icmp .ne 29, 3) := by decide +kernel
theorem d_M_fromStart_54 : decode prog_12_method_34_code 54 = .ok (.aload_n 0, 1) := by decide +kernel
theorem d_M_fromStart_55 : decode prog_12_method_34_code 55 = .ok (.iload_n 1, 1) := by decide +kernel
theorem d_M_fromStart_56 : decode prog_12_method_34_code 56 = .ok (.iload_n 2, 1) := by decide +kernel
theorem d_M_fromStart_57 : decode prog_12_method_34_code 57 = .ok (.aload_n 0, 1) := by decide +kernel
theorem d_M_fromStart_58 : decode prog_12_method_34_code 58 = .ok (.getfield 84, 3) := by decide +kernel
theorem d_M_fromStart_61 : decode prog_12_method_34_code 61 = .ok (.iconst 2, 1) := by decide +kernel
theorem d_M_fromStart_62 : decode prog_12_method_34_code 62 = .ok (.iload_n 1, 1) := by decide +kernel
theorem d_M_fromStart_63 : decode prog_12_method_34_code 63 = .ok (.imul, 1) := by decide +kernel
theorem d_M_fromStart_64 : decode prog_12_method_34_code 64 = .ok (.iload_n 2, 1) := by decide +kernel
theorem d_M_fromStart_65 : decode prog_12_method_34_code 65 = .ok (.iadd, 1) := by decide +kernel
theorem d_M_fromStart_66 : decode prog_12_method_34_code 66 = .ok (.iaload, 1) := by decide +kernel
theorem d_M_fromStart_67 : decode prog_12_method_34_code 67 = .ok (.aload_n 0, 1) := by decide +kernel
theorem d_M_fromStart_68 : decode prog_12_method_34_code 68 = .ok (.getfield 87, 3) := by decide +kernel
theorem d_M_fromStart_71 : decode prog_12_method_34_code 71 = .ok (.iconst 2, 1) := by decide +kernel
theorem d_M_fromStart_72 : decode prog_12_method_34_code 72 = .ok (.iload_n 1, 1) := by decide +kernel
theorem d_M_fromStart_73 : decode prog_12_method_34_code 73 = .ok (.imul, 1) := by decide +kernel
theorem d_M_fromStart_74 : decode prog_12_method_34_code 74 = .ok (.iload_n 2, 1) := by decide +kernel
theorem d_M_fromStart_75 : decode prog_12_method_34_code 75 = .ok (.iadd, 1) := by decide +kernel
theorem d_M_fromStart_76 : decode prog_12_method_34_code 76 = .ok (.iaload, 1) := by decide +kernel
theorem d_M_fromStart_77 : decode prog_12_method_34_code 77 = .ok (.invokevirtual 220, 3) := by decide +kernel
theorem d_M_fromStart_80 : decode prog_12_method_34_code 80 = .ok (.iinc 2 1, 3) := by decide +kernel
theorem d_M_fromStart_83 : decode prog_12_method_34_code 83 = .ok (.goto (-67), 3) := by decide +kernel
theorem d_M_fromStart_86 : decode prog_12_method_34_code 86 = .ok (.aload_n 0, 1) := by decide +kernel
theorem d_M_fromStart_87 : decode prog_12_method_34_code 87 = .ok (.iload_n 1, 1) := by decide +kernel
theorem d_M_fromStart_88 : decode prog_12_method_34_code 88 = .ok (.invokevirtual 159, 3) := by decide +kernel
theorem d_M_fromStart_91 : decode prog_12_method_34_code 91 = .ok (.ifCond .eq 8, 3) := by decide +kernel
theorem d_M_fromStart_94 : decode prog_12_method_34_code 94 = .ok (.aload_n 0, 1) := by decide +kernel
theorem d_M_fromStart_95 : decode prog_12_method_34_code 95 = .ok (.iload_n 1, 1) := by decide +kernel
theorem d_M_fromStart_96 : decode prog_12_method_34_code 96 = .ok (.invokevirtual 231, 3) := by decide +kernel
theorem d_M_fromStart_99 : decode prog_12_method_34_code 99 = .ok (.iinc 1 1, 3) := by decide +kernel
theorem d_M_fromStart_102 : decode prog_12_method_34_code 102 = .ok (.goto (-96), 3) := by decide +kernel
theorem d_M_fromStart_105 : decode prog_12_method_34_code 105 = .ok (.return_, 1) := by decide +kernel
theorem d_M_setStart_0 : decode prog_12_method_35_code 0 = .ok (.aload_n 0, 1) := by decide +kernel
theorem d_M_setStart_1 : decode prog_12_method_35_code 1 = .ok (.iload_n 1, 1) := by decide +kernel
theorem d_M_setStart_2 : decode prog_12_method_35_code 2 = .ok (.putfield 179, 3) := by decide +kernel
theorem d_M_setStart_5 : decode prog_12_method_35_code 5 = .ok (.aload_n 0, 1) := by decide +kernel
theorem d_M_setStart_6 : decode prog_12_method_35_code 6 = .ok (.iload_n 2, 1) := by decide +kernel
theorem d_M_setStart_7 : decode prog_12_method_35_code 7 = .ok (.iconst 2, 1) := by decide +kernel
theorem d_M_setStart_8 : decode prog_12_method_35_code 8 = .ok (.irem, 1) := by decide +kernel
theorem d_M_setStart_9 : decode prog_12_method_35_code 9 = .ok (.putfield 182, 3) := by decide +kernel
theorem d_M_setStart_12 : decode prog_12_method_35_code 12 = .ok (.aload_n 0, 1) := by decide +kernel
theorem d_M_setStart_13 : decode prog_12_method_35_code 13 = .ok (.getfield 19, 3) := by decide +kernel
theorem d_M_setStart_16 : decode prog_12_method_35_code 16 = .ok (.iload_n 1, 1) := by decide +kernel
theorem d_M_setStart_17 : decode prog_12_method_35_code 17 = .ok (.iaload, 1) := by decide +kernel
theorem d_M_setStart_18 : decode prog_12_method_35_code 18 = .ok (.iconst 1, 1) := by decide +kernel
theorem d_M_setStart_19 : decode prog_12_method_35_code 19 = .ok (.if_icmp .ne 49, 3) := by decide +kernel
theorem d_M_setStart_22 : decode prog_12_method_35_code 22 = .ok (.aload_n 0, 1) := by decide +kernel
theorem d_M_setStart_23 : decode prog_12_method_35_code 23 = .ok (.ldc 140, 2) := by decide +kernel
theorem d_M_setStart_25 : decode prog_12_method_35_code 25 = .ok (.putfield 200, 3) := by decide +kernel
theorem d_M_setStart_28 : decode prog_12_method_35_code 28 = .ok (.aload_n 0, 1) := by decide +kernel
theorem d_M_setStart_29 : decode prog_12_method_35_code 29 = .ok (.iconst 0, 1) := by decide +kernel
theorem d_M_setStart_30 : decode prog_12_method_35_code 30 = .ok (.putfield 197, 3) := by decide +kernel
theorem d_M_setStart_33 : decode prog_12_method_35_code 33 = .ok (.aload_n 0, 1) := by decide +kernel
theorem d_M_setStart_34 : decode prog_12_method_35_code 34 = .ok (.aload_n 0, 1) := by decide +kernel
theorem d_M_setStart_35 : decode prog_12_method_35_code 35 = .ok (.getfield 44, 3) := by decide +kernel
theorem d_M_setStart_38 : decode prog_12_method_35_code 38 = .ok (.iconst 2, 1) := by decide +kernel
theorem d_M_setStart_39 : decode prog_12_method_35_code 39 = .ok (.iload_n 1, 1) := by decide +kernel
theorem d_M_setStart_40 : decode prog_12_method_35_code 40 = .ok (.imul, 1) := by decide +kernel
theorem d_M_setStart_41 : decode prog_12_method_35_code 41 = .ok (.iload_n 2, 1) := by decide +kernel
theorem d_M_setStart_42 : decode prog_12_method_35_code 42 = .ok (.iconst 2, 1) := by decide +kernel
theorem d_M_setStart_43 : decode prog_12_method_35_code 43 = .ok (.irem, 1) := by decide +kernel
theorem d_M_setStart_44 : decode prog_12_method_35_code 44 = .ok (.iadd, 1) := by decide +kernel
theorem d_M_setStart_45 : decode prog_12_method_35_code 45 = .ok (.iaload, 1) := by decide +kernel
theorem d_M_setStart_46 : decode prog_12_method_35_code 46 = .ok (.putfield 185, 3) := by decide +kernel
theorem d_M_setStart_49 : decode prog_12_method_35_code 49 = .ok (.aload_n 0, 1) := by decide +kernel
theorem d_M_setStart_50 : decode prog_12_method_35_code 50 = .ok (.aload_n 0, 1) := by decide +kernel
theorem d_M_setStart_51 : decode prog_12_method_35_code 51 = .ok (.getfield 47, 3) := by decide +kernel
theorem d_M_setStart_54 : decode prog_12_method_35_code 54 = .ok (.iconst 2, 1) := by decide +kernel
theorem d_M_setStart_55 : decode prog_12_method_35_code 55 = .ok (.iload_n 1, 1) := by decide +kernel
theorem d_M_setStart_56 : decode prog_12_method_35_code 56 = .ok (.imul, 1) := by decide +kernel
theorem d_M_setStart_57 : decode prog_12_method_35_code 57 = .ok (.iload_n 2, 1) := by decide +kernel
theorem d_M_setStart_58 : decode prog_12_method_35_code 58 = .ok (.iconst 2, 1) := by decide +kernel
theorem d_M_setStart_59 : decode prog_12_method_35_code 59 = .ok (.irem, 1) := by decide +kernel
theorem d_M_setStart_60 : decode prog_12_method_35_code 60 = .ok (.iadd, 1) := by decide +kernel
theorem d_M_setStart_61 : decode prog_12_method_35_code 61 = .ok (.iaload, 1) := by decide +kernel
theorem d_M_setStart_62 : decode prog_12_method_35_code 62 = .ok (.putfield 188, 3) := by decide +kernel
theorem d_M_setStart_65 : decode prog_12_method_35_code 65 = .ok (.goto 96, 3) := by decide +kernel
theorem d_M_setStart_68 : decode prog_12_method_35_code 68 = .ok (.aload_n 0, 1) := by decide +kernel
theorem d_M_setStart_69 : decode prog_12_method_35_code 69 = .ok (.bipush 8, 2) := by decide +kernel
theorem d_M_setStart_71 : decode prog_12_method_35_code 71 = .ok (.iload_n 1, 1) := by decide +kernel
theorem d_M_setStart_72 : decode prog_12_method_35_code 72 = .ok (.imul, 1) := by decide +kernel
theorem d_M_setStart_73 : decode prog_12_method_35_code 73 = .ok (.iload_n 2, 1) := by decide +kernel
theorem d_M_setStart_74 : decode prog_12_method_35_code 74 = .ok (.iconst 2, 1) := by decide +kernel
theorem d_M_setStart_75 : decode prog_12_method_35_code 75 = .ok (.idiv, 1) := by decide +kernel
theorem d_M_setStart_76 : decode prog_12_method_35_code 76 = .ok (.iadd, 1) := by decide +kernel
theorem d_M_setStart_77 : decode prog_12_method_35_code 77 = .ok (.putfield 200, 3) := by decide +kernel
theorem d_M_setStart_80 : decode prog_12_method_35_code 80 = .ok (.aload_n 0, 1) := by decide +kernel
theorem d_M_setStart_81 : decode prog_12_method_35_code 81 = .ok (.aload_n 0, 1) := by decide +kernel
theorem d_M_setStart_82 : decode prog_12_method_35_code 82 = .ok (.getfield 56, 3) := by decide +kernel
theorem d_M_setStart_85 : decode prog_12_method_35_code 85 = .ok (.aload_n 0, 1) := by decide +kernel
theorem d_M_setStart_86 : decode prog_12_method_35_code 86 = .ok (.getfield 200, 3) := by decide +kernel
theorem d_M_setStart_89 : decode prog_12_method_35_code 89 = .ok (.iaload, 1) := by decide +kernel
theorem d_M_setStart_90 : decode prog_12_method_35_code 90 = .ok (.putfield 197, 3) := by decide +kernel
theorem d_M_setStart_93 : decode prog_12_method_35_code 93 = .ok (.aload_n 0, 1) := by decide +kernel
theorem d_M_setStart_94 : decode prog_12_method_35_code 94 = .ok (.aload_n 0, 1) := by decide +kernel
theorem d_M_setStart_95 : decode prog_12_method_35_code 95 = .ok (.getfield 197, 3) := by decide +kernel
theorem d_M_setStart_98 : decode prog_12_method_35_code 98 = .ok (.aload_n 0, 1) := by decide +kernel
theorem d_M_setStart_99 : decode prog_12_method_35_code 99 = .ok (.getfield 59, 3) := by decide +kernel
theorem d_M_setStart_102 : decode prog_12_method_35_code 102 = .ok (.aload_n 0, 1) := by decide +kernel
theorem d_M_setStart_103 : decode prog_12_method_35_code 103 = .ok (.getfield 200, 3) := by decide +kernel
theorem d_M_setStart_106 : decode prog_12_method_35_code 106 = .ok (.iaload, 1) := by decide +kernel
theorem d_M_setStart_107 : decode prog_12_method_35_code 107 = .ok (.iadd, 1) := by decide +kernel
theorem d_M_setStart_108 : decode prog_12_method_35_code 108 = .ok (.aload_n 0, 1) := by decide +kernel
theorem d_M_setStart_109 : decode prog_12_method_35_code 109 = .ok (.getfield 38, 3) := by decide +kernel
theorem d_M_setStart_112 : decode prog_12_method_35_code 112 = .ok (.bipush 6, 2) := by decide +kernel
theorem d_M_setStart_114 : decode prog_12_method_35_code 114 = .ok (.iload_n 1, 1) := by decide +kernel
theorem d_M_setStart_115 : decode prog_12_method_35_code 115 = .ok (.imul, 1) := by decide +kernel
theorem d_M_setStart_116 : decode prog_12_method_35_code 116 = .ok (.iconst 2, 1) := by decide +kernel
theorem d_M_setStart_117 : decode prog_12_method_35_code 117 = .ok (.iadd, 1) := by decide +kernel
theorem d_M_setStart_118 : decode prog_12_method_35_code 118 = .ok (.iload_n 2, 1) := by decide +kernel
theorem d_M_setStart_119 : decode prog_12_method_35_code 119 = .ok (.iconst 2, 1) := by decide +kernel
theorem d_M_setStart_120 : decode prog_12_method_35_code 120 = .ok (.irem, 1) := by decide +kernel
theorem d_M_setStart_121 : decode prog_12_method_35_code 121 = .ok (.iadd, 1) := by decide +kernel
theorem d_M_setStart_122 : decode prog_12_method_35_code 122 = .ok (.iaload, 1) := by decide +kernel
theorem d_M_setStart_123 : decode prog_12_method_35_code 123 = .ok (.iadd, 1) := by decide +kernel
theorem d_M_setStart_124 : decode prog_12_method_35_code 124 = .ok (.putfield 185, 3) := by decide +kernel
theorem d_M_setStart_127 : decode prog_12_method_35_code 127 = .ok (.aload_n 0, 1) := by decide +kernel
theorem d_M_setStart_128 : decode prog_12_method_35_code 128 = .ok (.aload_n 0, 1) := by decide +kernel
theorem d_M_setStart_129 : decode prog_12_method_35_code 129 = .ok (.getfield 197, 3) := by decide +kernel
theorem d_M_setStart_132 : decode prog_12_method_35_code 132 = .ok (.aload_n 0, 1) := by decide +kernel
theorem d_M_setStart_133 : decode prog_12_method_35_code 133 = .ok (.getfield 62, 3) := by decide +kernel
theorem d_M_setStart_136 : decode prog_12_method_35_code 136 = .ok (.aload_n 0, 1) := by decide +kernel
theorem d_M_setStart_137 : decode prog_12_method_35_code 137 = .ok (.getfield 200, 3) := by decide +kernel
theorem d_M_setStart_140 : decode prog_12_method_35_code 140 = .ok (.iaload, 1) := by decide +kernel
theorem d_M_setStart_141 : decode prog_12_method_35_code 141 = .ok (.iadd, 1) := by decide +kernel
theorem d_M_setStart_142 : decode prog_12_method_35_code 142 = .ok (.aload_n 0, 1) := by decide +kernel
theorem d_M_setStart_143 : decode prog_12_method_35_code 143 = .ok (.getfield 41, 3) := by decide +kernel
theorem d_M_setStart_146 : decode prog_12_method_35_code 146 = .ok (.bipush 6, 2) := by decide +kernel
theorem d_M_setStart_148 : decode prog_12_method_35_code 148 = .ok (.iload_n 1, 1) := by decide +kernel
theorem d_M_setStart_149 : decode prog_12_method_35_code 149 = .ok (.imul, 1) := by decide +kernel
theorem d_M_setStart_150 : decode prog_12_method_35_code 150 = .ok (.iconst 2, 1) := by decide +kernel
theorem d_M_setStart_151 : decode prog_12_method_35_code 151 = .ok (.iadd, 1) := by decide +kernel
theorem d_M_setStart_152 : decode prog_12_method_35_code 152 = .ok (.iload_n 2, 1) := by decide +kernel
theorem d_M_setStart_153 : decode prog_12_method_35_code 153 = .ok (.iconst 2, 1) := by decide +kernel
theorem d_M_setStart_154 : decode prog_12_method_35_code 154 = .ok (.irem, 1) := by decide +kernel
theorem d_M_setStart_155 : decode prog_12_method_35_code 155 = .ok (.iadd, 1) := by decide +kernel
theorem d_M_setStart_156 : decode prog_12_method_35_code 156 = .ok (.iaload, 1) := by decide +kernel
theorem d_M_setStart_157 : decode prog_12_method_35_code 157 = .ok (.iadd, 1) := by decide +kernel
theorem d_M_setStart_158 : decode prog_12_method_35_code 158 = .ok (.putfield 188, 3) := by decide +kernel
theorem d_M_setStart_161 : decode prog_12_method_35_code 161 = .ok (.return_, 1) := by decide +kernel
theorem d_M_starts_0 : decode prog_12_method_36_code 0 = .ok (.aload_n 0, 1) := by decide +kernel
theorem d_M_starts_1 : decode prog_12_method_36_code 1 = .ok (.getfield 19, 3) := by decide +kernel
theorem d_M_starts_4 : decode prog_12_method_36_code 4 = .ok (.iload_n 1, 1) := by decide +kernel
theorem d_M_starts_5 : decode prog_12_method_36_code 5 = .ok (.iaload, 1) := by decide +kernel
theorem d_M_starts_6 : decode prog_12_method_36_code 6 = .ok (.iconst 1, 1) := by decide +kernel
theorem d_M_starts_7 : decode prog_12_method_36_code 7 = .ok (.if_icmp .ne 7, 3) := by decide +kernel
theorem d_M_starts_10 : decode prog_12_method_36_code 10 = .ok (.iconst 2, 1) := by decide +kernel
theorem d_M_starts_11 : decode prog_12_method_36_code 11 = .ok (.goto 25, 3) := by decide +kernel
theorem d_M_starts_14 : decode prog_12_method_36_code 14 = .ok (.aload_n 0, 1) := by decide +kernel
theorem d_M_starts_15 : decode prog_12_method_36_code 15 = .ok (.getfield 19, 3) := by decide +kernel
theorem d_M_starts_18 : decode prog_12_method_36_code 18 = .ok (.iload_n 1, 1) := by decide +kernel
theorem d_M_starts_19 : decode prog_12_method_36_code 19 = .ok (.iaload, 1) := by decide +kernel
theorem d_M_starts_20 : decode prog_12_method_36_code 20 = .ok (.iconst 3, 1) := by decide +kernel
theorem d_M_starts_21 : decode prog_12_method_36_code 21 = .ok (.if_icmp .ne 14, 3) := by decide +kernel
theorem d_M_starts_24 : decode prog_12_method_36_code 24 = .ok (.iconst 2, 1) := by decide +kernel
theorem d_M_starts_25 : decode prog_12_method_36_code 25 = .ok (.aload_n 0, 1) := by decide +kernel
theorem d_M_starts_26 : decode prog_12_method_36_code 26 = .ok (.getfield 53, 3) := by decide +kernel
theorem d_M_starts_29 : decode prog_12_method_36_code 29 = .ok (.iload_n 1, 1) := by decide +kernel
theorem d_M_starts_30 : decode prog_12_method_36_code 30 = .ok (.iaload, 1) := by decide +kernel
theorem d_M_starts_31 : decode prog_12_method_36_code 31 = .ok (.imul, 1) := by decide +kernel
theorem d_M_starts_32 : decode prog_12_method_36_code 32 = .ok (.goto 4, 3) := by decide +kernel
theorem d_M_starts_35 : decode prog_12_method_36_code 35 = .ok (.iconst 0, 1) := by decide +kernel
theorem d_M_starts_36 : decode prog_12_method_36_code 36 = .ok (.ireturn, 1) := by decide +kernel
theorem d_M_countGoals_0 : decode prog_12_method_37_code 0 = .ok (.iconst 0, 1) := by decide +kernel
theorem d_M_countGoals_1 : decode prog_12_method_37_code 1 = .ok (.istore_n 1, 1) := by decide +kernel
theorem d_M_countGoals_2 : decode prog_12_method_37_code 2 = .ok (.iload_n 1, 1) := by decide +kernel
theorem d_M_countGoals_3 : decode prog_12_method_37_code 3 = .ok (.bipush 96, 2) := by decide +kernel
theorem d_M_countGoals_5 : decode prog_12_method_37_code 5 = .ok (.if_icmp .ge 16, 3) := by decide +kernel
theorem d_M_countGoals_8 : decode prog_12_method_37_code 8 = .ok (.aload_n 0, 1) := by decide +kernel
theorem d_M_countGoals_9 : decode prog_12_method_37_code 9 = .ok (.getfield 99, 3) := by decide +kernel
theorem d_M_countGoals_12 : decode prog_12_method_37_code 12 = .ok (.iload_n 1, 1) := by decide +kernel
theorem d_M_countGoals_13 : decode prog_12_method_37_code 13 = .ok (.lconst 0, 1) := by decide +kernel
theorem d_M_countGoals_14 : decode prog_12_method_37_code 14 = .ok (.lastore, 1) := by decide +kernel
theorem d_M_countGoals_15 : decode prog_12_method_37_code 15 = .ok (.iinc 1 1, 3) := by decide +kernel
theorem d_M_countGoals_18 : decode prog_12_method_37_code 18 = .ok (.goto (-16), 3) := by decide +kernel
theorem d_M_countGoals_21 : decode prog_12_method_37_code 21 = .ok (.iconst 0, 1) := by decide +kernel
theorem d_M_countGoals_22 : decode prog_12_method_37_code 22 = .ok (.istore_n 1, 1) := by decide +kernel
theorem d_M_countGoals_23 : decode prog_12_method_37_code 23 = .ok (.iload_n 1, 1) := by decide +kernel
theorem d_M_countGoals_24 : decode prog_12_method_37_code 24 = .ok (.aload_n 0, 1) := by decide +kernel
theorem d_M_countGoals_25 : decode prog_12_method_37_code 25 = .ok (.getfield 16, 3) := by decide +kernel
theorem d_M_countGoals_28 : decode prog_12_method_37_code 28 = .ok (.if_icmp .ge 77, 3) := by decide +kernel
theorem d_M_countGoals_31 : decode prog_12_method_37_code 31 = .ok (.aload_n 0, 1) := by decide +kernel
theorem d_M_countGoals_32 : decode prog_12_method_37_code 32 = .ok (.getfield 26, 3) := by decide +kernel
theorem d_M_countGoals_35 : decode prog_12_method_37_code 35 = .ok (.iconst 3, 1) := by decide +kernel
theorem d_M_countGoals_36 : decode prog_12_method_37_code 36 = .ok (.iload_n 1, 1) := by decide +kernel
theorem d_M_countGoals_37 : decode prog_12_method_37_code 37 = .ok (.imul, 1) := by decide +kernel
theorem d_M_countGoals_38 : decode prog_12_method_37_code 38 = .ok (.iaload, 1) := by decide +kernel
theorem d_M_countGoals_39 : decode prog_12_method_37_code 39 = .ok (.istore_n 2, 1) := by decide +kernel
theorem d_M_countGoals_40 : decode prog_12_method_37_code 40 = .ok (.iconst 0, 1) := by decide +kernel
theorem d_M_countGoals_41 : decode prog_12_method_37_code 41 = .ok (.istore_n 3, 1) := by decide +kernel
theorem d_M_countGoals_42 : decode prog_12_method_37_code 42 = .ok (.iload_n 3, 1) := by decide +kernel
theorem d_M_countGoals_43 : decode prog_12_method_37_code 43 = .ok (.iconst 2, 1) := by decide +kernel
theorem d_M_countGoals_44 : decode prog_12_method_37_code 44 = .ok (.if_icmp .ge 55, 3) := by decide +kernel
theorem d_M_countGoals_47 : decode prog_12_method_37_code 47 = .ok (.aload_n 0, 1) := by decide +kernel
theorem d_M_countGoals_48 : decode prog_12_method_37_code 48 = .ok (.iload_n 1, 1) := by decide +kernel
theorem d_M_countGoals_49 : decode prog_12_method_37_code 49 = .ok (.invokevirtual 159, 3) := by decide +kernel
theorem d_M_countGoals_52 : decode prog_12_method_37_code 52 = .ok (.ifCond .eq 47, 3) := by decide +kernel
theorem d_M_countGoals_55 : decode prog_12_method_37_code 55 = .ok (.iload_n 2, 1) := by decide +kernel
theorem d_M_countGoals_56 : decode prog_12_method_37_code 56 = .ok (.ifCond .lt 43, 3) := by decide +kernel
theorem d_M_countGoals_59 : decode prog_12_method_37_code 59 = .ok (.aload_n 0, 1) := by decide +kernel
theorem d_M_countGoals_60 : decode prog_12_method_37_code 60 = .ok (.getfield 99, 3) := by decide +kernel
theorem d_M_countGoals_63 : decode prog_12_method_37_code 63 = .ok (.iconst 2, 1) := by decide +kernel
theorem d_M_countGoals_64 : decode prog_12_method_37_code 64 = .ok (.iload_n 2, 1) := by decide +kernel
theorem d_M_countGoals_65 : decode prog_12_method_37_code 65 = .ok (.imul, 1) := by decide +kernel
theorem d_M_countGoals_66 : decode prog_12_method_37_code 66 = .ok (.iload_n 3, 1) := by decide +kernel
theorem d_M_countGoals_67 : decode prog_12_method_37_code 67 = .ok (.iadd, 1) := by decide +kernel
theorem d_M_countGoals_68 : decode prog_12_method_37_code 68 = .ok (.dup2, 1) := by decide +kernel
theorem d_M_countGoals_69 : decode prog_12_method_37_code 69 = .ok (.laload, 1) := by decide +kernel
theorem d_M_countGoals_70 : decode prog_12_method_37_code 70 = .ok (.aload_n 0, 1) := by decide +kernel
theorem d_M_countGoals_71 : decode prog_12_method_37_code 71 = .ok (.getfield 19, 3) := by decide +kernel
theorem d_M_countGoals_74 : decode prog_12_method_37_code 74 = .ok (.iload_n 1, 1) := by decide +kernel
theorem d_M_countGoals_75 : decode prog_12_method_37_code 75 = .ok (.iaload, 1) := by decide +kernel
theorem d_M_countGoals_76 : decode prog_12_method_37_code 76 = .ok (.iconst 4, 1) := by decide +kernel
theorem d_M_countGoals_77 : decode prog_12_method_37_code 77 = .ok (.if_icmp .ne 7, 3) := by decide +kernel
theorem d_M_countGoals_80 : decode prog_12_method_37_code 80 = .ok (.lconst 1, 1) := by decide +kernel
theorem d_M_countGoals_81 : decode prog_12_method_37_code 81 = .ok (.goto 10, 3) := by decide +kernel
theorem d_M_countGoals_84 : decode prog_12_method_37_code 84 = .ok (.aload_n 0, 1) := by decide +kernel
theorem d_M_countGoals_85 : decode prog_12_method_37_code 85 = .ok (.getfield 53, 3) := by decide +kernel
theorem d_M_countGoals_88 : decode prog_12_method_37_code 88 = .ok (.iload_n 1, 1) := by decide +kernel
theorem d_M_countGoals_89 : decode prog_12_method_37_code 89 = .ok (.iaload, 1) := by decide +kernel
theorem d_M_countGoals_90 : decode prog_12_method_37_code 90 = .ok (.i2l, 1) := by decide +kernel
theorem d_M_countGoals_91 : decode prog_12_method_37_code 91 = .ok (.ladd, 1) := by decide +kernel
theorem d_M_countGoals_92 : decode prog_12_method_37_code 92 = .ok (.lastore, 1) := by decide +kernel
theorem d_M_countGoals_93 : decode prog_12_method_37_code 93 = .ok (.iinc 3 1, 3) := by decide +kernel
theorem d_M_countGoals_96 : decode prog_12_method_37_code 96 = .ok (.goto (-54), 3) := by decide +kernel
theorem d_M_countGoals_99 : decode prog_12_method_37_code 99 = .ok (.iinc 1 1, 3) := by decide +kernel
theorem d_M_countGoals_102 : decode prog_12_method_37_code 102 = .ok (.goto (-79), 3) := by decide +kernel
theorem d_M_countGoals_105 : decode prog_12_method_37_code 105 = .ok (.aload_n 0, 1) := by decide +kernel
theorem d_M_countGoals_106 : decode prog_12_method_37_code 106 = .ok (.getfield 169, 3) := by decide +kernel
theorem d_M_countGoals_109 : decode prog_12_method_37_code 109 = .ok (.iconst 1, 1) := by decide +kernel
theorem d_M_countGoals_110 : decode prog_12_method_37_code 110 = .ok (.isub, 1) := by decide +kernel
theorem d_M_countGoals_111 : decode prog_12_method_37_code 111 = .ok (.istore_n 1, 1) := by decide +kernel
theorem d_M_countGoals_112 : decode prog_12_method_37_code 112 = .ok (.iload_n 1, 1) := by decide +kernel
theorem d_M_countGoals_113 : decode prog_12_method_37_code 113 = .ok (.ifCond .lt 136, 3) := by decide +kernel
theorem d_M_countGoals_116 : decode prog_12_method_37_code 116 = .ok (.aload_n 0, 1) := by decide +kernel
theorem d_M_countGoals_117 : decode prog_12_method_37_code 117 = .ok (.getfield 50, 3) := by decide +kernel
theorem d_M_countGoals_120 : decode prog_12_method_37_code 120 = .ok (.iload_n 1, 1) := by decide +kernel
theorem d_M_countGoals_121 : decode prog_12_method_37_code 121 = .ok (.iaload, 1) := by decide +kernel
theorem d_M_countGoals_122 : decode prog_12_method_37_code 122 = .ok (.istore_n 2, 1) := by decide +kernel
theorem d_M_countGoals_123 : decode prog_12_method_37_code 123 = .ok (.iconst 0, 1) := by decide +kernel
theorem d_M_countGoals_124 : decode prog_12_method_37_code 124 = .ok (.istore_n 3, 1) := by decide +kernel
theorem d_M_countGoals_125 : decode prog_12_method_37_code 125 = .ok (.iload_n 3, 1) := by decide +kernel
theorem d_M_countGoals_126 : decode prog_12_method_37_code 126 = .ok (.iconst 4, 1) := by decide +kernel
theorem d_M_countGoals_127 : decode prog_12_method_37_code 127 = .ok (.aload_n 0, 1) := by decide +kernel
theorem d_M_countGoals_128 : decode prog_12_method_37_code 128 = .ok (.getfield 23, 3) := by decide +kernel
theorem d_M_countGoals_131 : decode prog_12_method_37_code 131 = .ok (.iload_n 2, 1) := by decide +kernel
theorem d_M_countGoals_132 : decode prog_12_method_37_code 132 = .ok (.iaload, 1) := by decide +kernel
theorem d_M_countGoals_133 : decode prog_12_method_37_code 133 = .ok (.imul, 1) := by decide +kernel
theorem d_M_countGoals_134 : decode prog_12_method_37_code 134 = .ok (.if_icmp .ge 109, 3) := by decide +kernel
theorem d_M_countGoals_137 : decode prog_12_method_37_code 137 = .ok (.aload_n 0, 1) := by decide +kernel
theorem d_M_countGoals_138 : decode prog_12_method_37_code 138 = .ok (.getfield 26, 3) := by decide +kernel
theorem d_M_countGoals_141 : decode prog_12_method_37_code 141 = .ok (.iconst 3, 1) := by decide +kernel
theorem d_M_countGoals_142 : decode prog_12_method_37_code 142 = .ok (.iload_n 2, 1) := by decide +kernel
theorem d_M_countGoals_143 : decode prog_12_method_37_code 143 = .ok (.imul, 1) := by decide +kernel
theorem d_M_countGoals_144 : decode prog_12_method_37_code 144 = .ok (.iload_n 3, 1) := by decide +kernel
theorem d_M_countGoals_145 : decode prog_12_method_37_code 145 = .ok (.iconst 4, 1) := by decide +kernel
theorem d_M_countGoals_146 : decode prog_12_method_37_code 146 = .ok (.idiv, 1) := by decide +kernel
theorem d_M_countGoals_147 : decode prog_12_method_37_code 147 = .ok (.iadd, 1) := by decide +kernel
theorem d_M_countGoals_148 : decode prog_12_method_37_code 148 = .ok (.iaload, 1) := by decide +kernel
theorem d_M_countGoals_149 : decode prog_12_method_37_code 149 = .ok (.istore 4, 2) := by decide +kernel
theorem d_M_countGoals_151 : decode prog_12_method_37_code 151 = .ok (.iload 4, 2) := by decide +kernel
theorem d_M_countGoals_153 : decode prog_12_method_37_code 153 = .ok (.ifCond .lt 84, 3) := by decide +kernel
theorem d_M_countGoals_156 : decode prog_12_method_37_code 156 = .ok (.aload_n 0, 1) := by decide +kernel
theorem d_M_countGoals_157 : decode prog_12_method_37_code 157 = .ok (.iload_n 2, 1) := by decide +kernel
theorem d_M_countGoals_158 : decode prog_12_method_37_code 158 = .ok (.iload_n 3, 1) := by decide +kernel
theorem d_M_countGoals_159 : decode prog_12_method_37_code 159 = .ok (.iconst 4, 1) := by decide +kernel
theorem d_M_countGoals_160 : decode prog_12_method_37_code 160 = .ok (.idiv, 1) := by decide +kernel
theorem d_M_countGoals_161 : decode prog_12_method_37_code 161 = .ok (.iload_n 3, 1) := by decide +kernel
theorem d_M_countGoals_162 : decode prog_12_method_37_code 162 = .ok (.iconst 2, 1) := by decide +kernel
theorem d_M_countGoals_163 : decode prog_12_method_37_code 163 = .ok (.idiv, 1) := by decide +kernel
theorem d_M_countGoals_164 : decode prog_12_method_37_code 164 = .ok (.iconst 2, 1) := by decide +kernel
theorem d_M_countGoals_165 : decode prog_12_method_37_code 165 = .ok (.irem, 1) := by decide +kernel
theorem d_M_countGoals_166 : decode prog_12_method_37_code 166 = .ok (.iload_n 3, 1) := by decide +kernel
theorem d_M_countGoals_167 : decode prog_12_method_37_code 167 = .ok (.iconst 2, 1) := by decide +kernel
theorem d_M_countGoals_168 : decode prog_12_method_37_code 168 = .ok (.irem, 1) := by decide +kernel
theorem d_M_countGoals_169 : decode prog_12_method_37_code 169 = .ok (.invokevirtual 172, 3) := by decide +kernel
theorem d_M_countGoals_172 : decode prog_12_method_37_code 172 = .ok (.ifCond .eq 65, 3) := by decide +kernel
theorem d_M_countGoals_175 : decode prog_12_method_37_code 175 = .ok (.aload_n 0, 1) := by decide +kernel
theorem d_M_countGoals_176 : decode prog_12_method_37_code 176 = .ok (.getfield 99, 3) := by decide +kernel
theorem d_M_countGoals_179 : decode prog_12_method_37_code 179 = .ok (.iconst 2, 1) := by decide +kernel
theorem d_M_countGoals_180 : decode prog_12_method_37_code 180 = .ok (.iload 4, 2) := by decide +kernel
theorem d_M_countGoals_182 : decode prog_12_method_37_code 182 = .ok (.imul, 1) := by decide +kernel
theorem d_M_countGoals_183 : decode prog_12_method_37_code 183 = .ok (.iload_n 3, 1) := by decide +kernel
theorem d_M_countGoals_184 : decode prog_12_method_37_code 184 = .ok (.iconst 2, 1) := by decide +kernel
theorem d_M_countGoals_185 : decode prog_12_method_37_code 185 = .ok (.idiv, 1) := by decide +kernel
theorem d_M_countGoals_186 : decode prog_12_method_37_code 186 = .ok (.iconst 2, 1) := by decide +kernel
theorem d_M_countGoals_187 : decode prog_12_method_37_code 187 = .ok (.irem, 1) := by decide +kernel
theorem d_M_countGoals_188 : decode prog_12_method_37_code 188 = .ok (.iadd, 1) := by decide +kernel
theorem d_M_countGoals_189 : decode prog_12_method_37_code 189 = .ok (.laload, 1) := by decide +kernel
theorem d_M_countGoals_190 : decode prog_12_method_37_code 190 = .ok (.aload_n 0, 1) := by decide +kernel
theorem d_M_countGoals_191 : decode prog_12_method_37_code 191 = .ok (.getfield 99, 3) := by decide +kernel
theorem d_M_countGoals_194 : decode prog_12_method_37_code 194 = .ok (.iconst 2, 1) := by decide +kernel
theorem d_M_countGoals_195 : decode prog_12_method_37_code 195 = .ok (.iload_n 2, 1) := by decide +kernel
theorem d_M_countGoals_196 : decode prog_12_method_37_code 196 = .ok (.imul, 1) := by decide +kernel
theorem d_M_countGoals_197 : decode prog_12_method_37_code 197 = .ok (.iload_n 3, 1) := by decide +kernel
theorem d_M_countGoals_198 : decode prog_12_method_37_code 198 = .ok (.iconst 2, 1) := by decide +kernel
theorem d_M_countGoals_199 : decode prog_12_method_37_code 199 = .ok (.irem, 1) := by decide +kernel
theorem d_M_countGoals_200 : decode prog_12_method_37_code 200 = .ok (.iadd, 1) := by decide +kernel
theorem d_M_countGoals_201 : decode prog_12_method_37_code 201 = .ok (.laload, 1) := by decide +kernel
theorem d_M_countGoals_202 : decode prog_12_method_37_code 202 = .ok (.ladd, 1) := by decide +kernel
theorem d_M_countGoals_203 : decode prog_12_method_37_code 203 = .ok (.lstore 5, 2) := by decide +kernel
theorem d_M_countGoals_205 : decode prog_12_method_37_code 205 = .ok (.aload_n 0, 1) := by decide +kernel
theorem d_M_countGoals_206 : decode prog_12_method_37_code 206 = .ok (.getfield 99, 3) := by decide +kernel
theorem d_M_countGoals_209 : decode prog_12_method_37_code 209 = .ok (.iconst 2, 1) := by decide +kernel
theorem d_M_countGoals_210 : decode prog_12_method_37_code 210 = .ok (.iload 4, 2) := by decide +kernel
theorem d_M_countGoals_212 : decode prog_12_method_37_code 212 = .ok (.imul, 1) := by decide +kernel
theorem d_M_countGoals_213 : decode prog_12_method_37_code 213 = .ok (.iload_n 3, 1) := by decide +kernel
theorem d_M_countGoals_214 : decode prog_12_method_37_code 214 = .ok (.iconst 2, 1) := by decide +kernel
theorem d_M_countGoals_215 : decode prog_12_method_37_code 215 = .ok (.idiv, 1) := by decide +kernel
theorem d_M_countGoals_216 : decode prog_12_method_37_code 216 = .ok (.iconst 2, 1) := by decide +kernel
theorem d_M_countGoals_217 : decode prog_12_method_37_code 217 = .ok (.irem, 1) := by decide +kernel
theorem d_M_countGoals_218 : decode prog_12_method_37_code 218 = .ok (.iadd, 1) := by decide +kernel
theorem d_M_countGoals_219 : decode prog_12_method_37_code 219 = .ok (.lload 5, 2) := by decide +kernel
theorem d_M_countGoals_221 : decode prog_12_method_37_code 221 = .ok (.ldc2_w 235, 3) := by decide +kernel
theorem d_M_countGoals_224 : decode prog_12_method_37_code 224 = .ok (.lcmp, 1) := by decide +kernel
theorem d_M_countGoals_225 : decode prog_12_method_37_code 225 = .ok (.ifCond .le 9, 3) := by decide +kernel
theorem d_M_countGoals_228 : decode prog_12_method_37_code 228 = .ok (.ldc2_w 235, 3) := by decide +kernel
theorem d_M_countGoals_231 : decode prog_12_method_37_code 231 = .ok (.goto 5, 3) := by decide +kernel
theorem d_M_countGoals_234 : decode prog_12_method_37_code 234 = .ok (.lload 5, 2) := by decide +kernel
theorem d_M_countGoals_236 : decode prog_12_method_37_code 236 = .ok (.lastore, 1) := by decide +kernel
