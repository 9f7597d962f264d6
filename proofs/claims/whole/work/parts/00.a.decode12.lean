theorem d_Rooms_init_0 : decode prog_7_method_1_code 0 = .ok (.aload_n 0, 1) := by decide +kernel
theorem d_Rooms_init_1 : decode prog_7_method_1_code 1 = .ok (.invokespecial 3, 3) := by decide +kernel
theorem d_Rooms_init_4 : decode prog_7_method_1_code 4 = .ok (.aload_n 0, 1) := by decide +kernel
theorem d_Rooms_init_5 : decode prog_7_method_1_code 5 = .ok (.bipush 64, 2) := by decide +kernel
theorem d_Rooms_init_7 : decode prog_7_method_1_code 7 = .ok (.newarray .int, 2) := by decide +kernel
theorem d_Rooms_init_9 : decode prog_7_method_1_code 9 = .ok (.putfield 9, 3) := by decide +kernel
theorem d_Rooms_init_12 : decode prog_7_method_1_code 12 = .ok (.aload_n 0, 1) := by decide +kernel
theorem d_Rooms_init_13 : decode prog_7_method_1_code 13 = .ok (.bipush 64, 2) := by decide +kernel
theorem d_Rooms_init_15 : decode prog_7_method_1_code 15 = .ok (.newarray .int, 2) := by decide +kernel
theorem d_Rooms_init_17 : decode prog_7_method_1_code 17 = .ok (.putfield 15, 3) := by decide +kernel
theorem d_Rooms_init_20 : decode prog_7_method_1_code 20 = .ok (.aload_n 0, 1) := by decide +kernel
theorem d_Rooms_init_21 : decode prog_7_method_1_code 21 = .ok (.aload_n 1, 1) := by decide +kernel
theorem d_Rooms_init_22 : decode prog_7_method_1_code 22 = .ok (.putfield 18, 3) := by decide +kernel
theorem d_Rooms_init_25 : decode prog_7_method_1_code 25 = .ok (.aload_n 0, 1) := by decide +kernel
theorem d_Rooms_init_26 : decode prog_7_method_1_code 26 = .ok (.aload_n 2, 1) := by decide +kernel
theorem d_Rooms_init_27 : decode prog_7_method_1_code 27 = .ok (.putfield 22, 3) := by decide +kernel
theorem d_Rooms_init_30 : decode prog_7_method_1_code 30 = .ok (.return_, 1) := by decide +kernel
theorem d_Rooms_measure_0 : decode prog_7_method_2_code 0 = .ok (.aload_n 0, 1) := by decide +kernel
theorem d_Rooms_measure_1 : decode prog_7_method_2_code 1 = .ok (.ldc 26, 2) := by decide +kernel
theorem d_Rooms_measure_3 : decode prog_7_method_2_code 3 = .ok (.putfield 27, 3) := by decide +kernel
theorem d_Rooms_measure_6 : decode prog_7_method_2_code 6 = .ok (.aload_n 0, 1) := by decide +kernel
theorem d_Rooms_measure_7 : decode prog_7_method_2_code 7 = .ok (.ldc 26, 2) := by decide +kernel
theorem d_Rooms_measure_9 : decode prog_7_method_2_code 9 = .ok (.putfield 31, 3) := by decide +kernel
theorem d_Rooms_measure_12 : decode prog_7_method_2_code 12 = .ok (.aload_n 0, 1) := by decide +kernel
theorem d_Rooms_measure_13 : decode prog_7_method_2_code 13 = .ok (.ldc 26, 2) := by decide +kernel
theorem d_Rooms_measure_15 : decode prog_7_method_2_code 15 = .ok (.putfield 34, 3) := by decide +kernel
theorem d_Rooms_measure_18 : decode prog_7_method_2_code 18 = .ok (.iconst 0, 1) := by decide +kernel
theorem d_Rooms_measure_19 : decode prog_7_method_2_code 19 = .ok (.istore_n 3, 1) := by decide +kernel
theorem d_Rooms_measure_20 : decode prog_7_method_2_code 20 = .ok (.iload_n 3, 1) := by decide +kernel
theorem d_Rooms_measure_21 : decode prog_7_method_2_code 21 = .ok (.aload_n 0, 1) := by decide +kernel
theorem d_Rooms_measure_22 : decode prog_7_method_2_code 22 = .ok (.getfield 22, 3) := by decide +kernel
theorem d_Rooms_measure_25 : decode prog_7_method_2_code 25 = .ok (.getfield 37, 3) := by decide +kernel
theorem d_Rooms_measure_28 : decode prog_7_method_2_code 28 = .ok (.iload_n 1, 1) := by decide +kernel
theorem d_Rooms_measure_29 : decode prog_7_method_2_code 29 = .ok (.iaload, 1) := by decide +kernel
theorem d_Rooms_measure_30 : decode prog_7_method_2_code 30 = .ok (.if_icmp .ge 41, 3) := by decide +kernel
theorem d_Rooms_measure_33 : decode prog_7_method_2_code 33 = .ok (.iconst 0, 1) := by decide +kernel
theorem d_Rooms_measure_34 : decode prog_7_method_2_code 34 = .ok (.istore 4, 2) := by decide +kernel
theorem d_Rooms_measure_36 : decode prog_7_method_2_code 36 = .ok (.iload 4, 2) := by decide +kernel
theorem d_Rooms_measure_38 : decode prog_7_method_2_code 38 = .ok (.aload_n 0, 1) := by decide +kernel
theorem d_Rooms_measure_39 : decode prog_7_method_2_code 39 = .ok (.getfield 22, 3) := by decide +kernel
theorem d_Rooms_measure_42 : decode prog_7_method_2_code 42 = .ok (.getfield 37, 3) := by decide +kernel
theorem d_Rooms_measure_45 : decode prog_7_method_2_code 45 = .ok (.iload_n 2, 1) := by decide +kernel
theorem d_Rooms_measure_46 : decode prog_7_method_2_code 46 = .ok (.iaload, 1) := by decide +kernel
theorem d_Rooms_measure_47 : decode prog_7_method_2_code 47 = .ok (.if_icmp .ge 18, 3) := by decide +kernel
theorem d_Rooms_measure_50 : decode prog_7_method_2_code 50 = .ok (.aload_n 0, 1) := by decide +kernel
theorem d_Rooms_measure_51 : decode prog_7_method_2_code 51 = .ok (.iload_n 1, 1) := by decide +kernel
theorem d_Rooms_measure_52 : decode prog_7_method_2_code 52 = .ok (.iload_n 3, 1) := by decide +kernel
theorem d_Rooms_measure_53 : decode prog_7_method_2_code 53 = .ok (.iload_n 2, 1) := by decide +kernel
theorem d_Rooms_measure_54 : decode prog_7_method_2_code 54 = .ok (.iload 4, 2) := by decide +kernel
theorem d_Rooms_measure_56 : decode prog_7_method_2_code 56 = .ok (.invokevirtual 42, 3) := by decide +kernel
theorem d_Rooms_measure_59 : decode prog_7_method_2_code 59 = .ok (.iinc 4 1, 3) := by decide +kernel
theorem d_Rooms_measure_62 : decode prog_7_method_2_code 62 = .ok (.goto (-26), 3) := by decide +kernel
theorem d_Rooms_measure_65 : decode prog_7_method_2_code 65 = .ok (.iinc 3 1, 3) := by decide +kernel
theorem d_Rooms_measure_68 : decode prog_7_method_2_code 68 = .ok (.goto (-48), 3) := by decide +kernel
theorem d_Rooms_measure_71 : decode prog_7_method_2_code 71 = .ok (.return_, 1) := by decide +kernel
theorem d_Rooms_measurePair_0 : decode prog_7_method_3_code 0 = .ok (.iload_n 1, 1) := by decide +kernel
theorem d_Rooms_measurePair_1 : decode prog_7_method_3_code 1 = .ok (.bipush 8, 2) := by decide +kernel
theorem d_Rooms_measurePair_3 : decode prog_7_method_3_code 3 = .ok (.imul, 1) := by decide +kernel
theorem d_Rooms_measurePair_4 : decode prog_7_method_3_code 4 = .ok (.iload_n 2, 1) := by decide +kernel
theorem d_Rooms_measurePair_5 : decode prog_7_method_3_code 5 = .ok (.iadd, 1) := by decide +kernel
theorem d_Rooms_measurePair_6 : decode prog_7_method_3_code 6 = .ok (.istore 5, 2) := by decide +kernel
theorem d_Rooms_measurePair_8 : decode prog_7_method_3_code 8 = .ok (.iload_n 3, 1) := by decide +kernel
theorem d_Rooms_measurePair_9 : decode prog_7_method_3_code 9 = .ok (.bipush 8, 2) := by decide +kernel
theorem d_Rooms_measurePair_11 : decode prog_7_method_3_code 11 = .ok (.imul, 1) := by decide +kernel
theorem d_Rooms_measurePair_12 : decode prog_7_method_3_code 12 = .ok (.iload 4, 2) := by decide +kernel
theorem d_Rooms_measurePair_14 : decode prog_7_method_3_code 14 = .ok (.iadd, 1) := by decide +kernel
theorem d_Rooms_measurePair_15 : decode prog_7_method_3_code 15 = .ok (.istore 6, 2) := by decide +kernel
theorem d_Rooms_measurePair_17 : decode prog_7_method_3_code 17 = .ok (.iload_n 2, 1) := by decide +kernel
theorem d_Rooms_measurePair_18 : decode prog_7_method_3_code 18 = .ok (.bipush 8, 2) := by decide +kernel
theorem d_Rooms_measurePair_20 : decode prog_7_method_3_code 20 = .ok (.imul, 1) := by decide +kernel
theorem d_Rooms_measurePair_21 : decode prog_7_method_3_code 21 = .ok (.iload 4, 2) := by decide +kernel
theorem d_Rooms_measurePair_23 : decode prog_7_method_3_code 23 = .ok (.iadd, 1) := by decide +kernel
theorem d_Rooms_measurePair_24 : decode prog_7_method_3_code 24 = .ok (.istore 7, 2) := by decide +kernel
theorem d_Rooms_measurePair_26 : decode prog_7_method_3_code 26 = .ok (.aload_n 0, 1) := by decide +kernel
theorem d_Rooms_measurePair_27 : decode prog_7_method_3_code 27 = .ok (.getfield 22, 3) := by decide +kernel
theorem d_Rooms_measurePair_30 : decode prog_7_method_3_code 30 = .ok (.getfield 46, 3) := by decide +kernel
theorem d_Rooms_measurePair_33 : decode prog_7_method_3_code 33 = .ok (.iload 6, 2) := by decide +kernel
theorem d_Rooms_measurePair_35 : decode prog_7_method_3_code 35 = .ok (.iaload, 1) := by decide +kernel
theorem d_Rooms_measurePair_36 : decode prog_7_method_3_code 36 = .ok (.aload_n 0, 1) := by decide +kernel
theorem d_Rooms_measurePair_37 : decode prog_7_method_3_code 37 = .ok (.getfield 22, 3) := by decide +kernel
theorem d_Rooms_measurePair_40 : decode prog_7_method_3_code 40 = .ok (.getfield 46, 3) := by decide +kernel
theorem d_Rooms_measurePair_43 : decode prog_7_method_3_code 43 = .ok (.iload 5, 2) := by decide +kernel
theorem d_Rooms_measurePair_45 : decode prog_7_method_3_code 45 = .ok (.iaload, 1) := by decide +kernel
theorem d_Rooms_measurePair_46 : decode prog_7_method_3_code 46 = .ok (.if_icmp .gt 7, 3) := by decide +kernel
theorem d_Rooms_measurePair_49 : decode prog_7_method_3_code 49 = .ok (.iconst 1, 1) := by decide +kernel
theorem d_Rooms_measurePair_50 : decode prog_7_method_3_code 50 = .ok (.goto 4, 3) := by decide +kernel
theorem d_Rooms_measurePair_53 : decode prog_7_method_3_code 53 = .ok (.iconst 0, 1) := by decide +kernel
theorem d_Rooms_measurePair_54 : decode prog_7_method_3_code 54 = .ok (.istore 8, 2) := by decide +kernel
theorem d_Rooms_measurePair_56 : decode prog_7_method_3_code 56 = .ok (.aload_n 0, 1) := by decide +kernel
theorem d_Rooms_measurePair_57 : decode prog_7_method_3_code 57 = .ok (.getfield 22, 3) := by decide +kernel
theorem d_Rooms_measurePair_60 : decode prog_7_method_3_code 60 = .ok (.getfield 46, 3) := by decide +kernel
theorem d_Rooms_measurePair_63 : decode prog_7_method_3_code 63 = .ok (.iload 6, 2) := by decide +kernel
theorem d_Rooms_measurePair_65 : decode prog_7_method_3_code 65 = .ok (.iaload, 1) := by decide +kernel
theorem d_Rooms_measurePair_66 : decode prog_7_method_3_code 66 = .ok (.iload 8, 2) := by decide +kernel
theorem d_Rooms_measurePair_68 : decode prog_7_method_3_code 68 = .ok (.ifCond .eq 13, 3) := by decide +kernel
theorem d_Rooms_measurePair_71 : decode prog_7_method_3_code 71 = .ok (.aload_n 0, 1) := by decide +kernel
theorem d_Rooms_measurePair_72 : decode prog_7_method_3_code 72 = .ok (.getfield 18, 3) := by decide +kernel
theorem d_Rooms_measurePair_75 : decode prog_7_method_3_code 75 = .ok (.getfield 49, 3) := by decide +kernel
theorem d_Rooms_measurePair_78 : decode prog_7_method_3_code 78 = .ok (.goto 4, 3) := by decide +kernel
theorem d_Rooms_measurePair_81 : decode prog_7_method_3_code 81 = .ok (.iconst 0, 1) := by decide +kernel
theorem d_Rooms_measurePair_82 : decode prog_7_method_3_code 82 = .ok (.iadd, 1) := by decide +kernel
theorem d_Rooms_measurePair_83 : decode prog_7_method_3_code 83 = .ok (.istore 9, 2) := by decide +kernel
theorem d_Rooms_measurePair_85 : decode prog_7_method_3_code 85 = .ok (.aload_n 0, 1) := by decide +kernel
theorem d_Rooms_measurePair_86 : decode prog_7_method_3_code 86 = .ok (.getfield 22, 3) := by decide +kernel
theorem d_Rooms_measurePair_89 : decode prog_7_method_3_code 89 = .ok (.iload_n 1, 1) := by decide +kernel
theorem d_Rooms_measurePair_90 : decode prog_7_method_3_code 90 = .ok (.iload_n 2, 1) := by decide +kernel
theorem d_Rooms_measurePair_91 : decode prog_7_method_3_code 91 = .ok (.iload_n 3, 1) := by decide +kernel
theorem d_Rooms_measurePair_92 : decode prog_7_method_3_code 92 = .ok (.iload 4, 2) := by decide +kernel
theorem d_Rooms_measurePair_94 : decode prog_7_method_3_code 94 = .ok (.invokevirtual 54, 3) := by decide +kernel
theorem d_Rooms_measurePair_97 : decode prog_7_method_3_code 97 = .ok (.istore 10, 2) := by decide +kernel
theorem d_Rooms_measurePair_99 : decode prog_7_method_3_code 99 = .ok (.aload_n 0, 1) := by decide +kernel
theorem d_Rooms_measurePair_100 : decode prog_7_method_3_code 100 = .ok (.getfield 9, 3) := by decide +kernel
theorem d_Rooms_measurePair_103 : decode prog_7_method_3_code 103 = .ok (.iload 7, 2) := by decide +kernel
theorem d_Rooms_measurePair_105 : decode prog_7_method_3_code 105 = .ok (.iload 9, 2) := by decide +kernel
theorem d_Rooms_measurePair_107 : decode prog_7_method_3_code 107 = .ok (.aload_n 0, 1) := by decide +kernel
theorem d_Rooms_measurePair_108 : decode prog_7_method_3_code 108 = .ok (.getfield 22, 3) := by decide +kernel
theorem d_Rooms_measurePair_111 : decode prog_7_method_3_code 111 = .ok (.getfield 58, 3) := by decide +kernel
theorem d_Rooms_measurePair_114 : decode prog_7_method_3_code 114 = .ok (.iload 6, 2) := by decide +kernel
theorem d_Rooms_measurePair_116 : decode prog_7_method_3_code 116 = .ok (.iaload, 1) := by decide +kernel
theorem d_Rooms_measurePair_117 : decode prog_7_method_3_code 117 = .ok (.iadd, 1) := by decide +kernel
theorem d_Rooms_measurePair_118 : decode prog_7_method_3_code 118 = .ok (.iload 10, 2) := by decide +kernel
theorem d_Rooms_measurePair_120 : decode prog_7_method_3_code 120 = .ok (.iadd, 1) := by decide +kernel
theorem d_Rooms_measurePair_121 : decode prog_7_method_3_code 121 = .ok (.aload_n 0, 1) := by decide +kernel
theorem d_Rooms_measurePair_122 : decode prog_7_method_3_code 122 = .ok (.getfield 22, 3) := by decide +kernel
theorem d_Rooms_measurePair_125 : decode prog_7_method_3_code 125 = .ok (.getfield 46, 3) := by decide +kernel
theorem d_Rooms_measurePair_128 : decode prog_7_method_3_code 128 = .ok (.iload 5, 2) := by decide +kernel
theorem d_Rooms_measurePair_130 : decode prog_7_method_3_code 130 = .ok (.iaload, 1) := by decide +kernel
theorem d_Rooms_measurePair_131 : decode prog_7_method_3_code 131 = .ok (.isub, 1) := by decide +kernel
theorem d_Rooms_measurePair_132 : decode prog_7_method_3_code 132 = .ok (.aload_n 0, 1) := by decide +kernel
theorem d_Rooms_measurePair_133 : decode prog_7_method_3_code 133 = .ok (.getfield 22, 3) := by decide +kernel
theorem d_Rooms_measurePair_136 : decode prog_7_method_3_code 136 = .ok (.getfield 61, 3) := by decide +kernel
theorem d_Rooms_measurePair_139 : decode prog_7_method_3_code 139 = .ok (.iload 5, 2) := by decide +kernel
theorem d_Rooms_measurePair_141 : decode prog_7_method_3_code 141 = .ok (.iaload, 1) := by decide +kernel
theorem d_Rooms_measurePair_142 : decode prog_7_method_3_code 142 = .ok (.isub, 1) := by decide +kernel
theorem d_Rooms_measurePair_143 : decode prog_7_method_3_code 143 = .ok (.iastore, 1) := by decide +kernel
theorem d_Rooms_measurePair_144 : decode prog_7_method_3_code 144 = .ok (.aload_n 0, 1) := by decide +kernel
theorem d_Rooms_measurePair_145 : decode prog_7_method_3_code 145 = .ok (.getfield 15, 3) := by decide +kernel
theorem d_Rooms_measurePair_148 : decode prog_7_method_3_code 148 = .ok (.iload 7, 2) := by decide +kernel
theorem d_Rooms_measurePair_150 : decode prog_7_method_3_code 150 = .ok (.aload_n 0, 1) := by decide +kernel
theorem d_Rooms_measurePair_151 : decode prog_7_method_3_code 151 = .ok (.getfield 22, 3) := by decide +kernel
theorem d_Rooms_measurePair_154 : decode prog_7_method_3_code 154 = .ok (.getfield 46, 3) := by decide +kernel
theorem d_Rooms_measurePair_157 : decode prog_7_method_3_code 157 = .ok (.iload 5, 2) := by decide +kernel
theorem d_Rooms_measurePair_159 : decode prog_7_method_3_code 159 = .ok (.iaload, 1) := by decide +kernel
theorem d_Rooms_measurePair_160 : decode prog_7_method_3_code 160 = .ok (.aload_n 0, 1) := by decide +kernel
theorem d_Rooms_measurePair_161 : decode prog_7_method_3_code 161 = .ok (.getfield 22, 3) := by decide +kernel
theorem d_Rooms_measurePair_164 : decode prog_7_method_3_code 164 = .ok (.getfield 58, 3) := by decide +kernel
theorem d_Rooms_measurePair_167 : decode prog_7_method_3_code 167 = .ok (.iload 5, 2) := by decide +kernel
theorem d_Rooms_measurePair_169 : decode prog_7_method_3_code 169 = .ok (.iaload, 1) := by decide +kernel
theorem d_Rooms_measurePair_170 : decode prog_7_method_3_code 170 = .ok (.iadd, 1) := by decide +kernel
theorem d_Rooms_measurePair_171 : decode prog_7_method_3_code 171 = .ok (.iload 10, 2) := by decide +kernel
theorem d_Rooms_measurePair_173 : decode prog_7_method_3_code 173 = .ok (.iadd, 1) := by decide +kernel
theorem d_Rooms_measurePair_174 : decode prog_7_method_3_code 174 = .ok (.iload 9, 2) := by decide +kernel
theorem d_Rooms_measurePair_176 : decode prog_7_method_3_code 176 = .ok (.isub, 1) := by decide +kernel
theorem d_Rooms_measurePair_177 : decode prog_7_method_3_code 177 = .ok (.aload_n 0, 1) := by decide +kernel
theorem d_Rooms_measurePair_178 : decode prog_7_method_3_code 178 = .ok (.getfield 22, 3) := by decide +kernel
theorem d_Rooms_measurePair_181 : decode prog_7_method_3_code 181 = .ok (.getfield 61, 3) := by decide +kernel
theorem d_Rooms_measurePair_184 : decode prog_7_method_3_code 184 = .ok (.iload 6, 2) := by decide +kernel
theorem d_Rooms_measurePair_186 : decode prog_7_method_3_code 186 = .ok (.iaload, 1) := by decide +kernel
theorem d_Rooms_measurePair_187 : decode prog_7_method_3_code 187 = .ok (.isub, 1) := by decide +kernel
theorem d_Rooms_measurePair_188 : decode prog_7_method_3_code 188 = .ok (.aload_n 0, 1) := by decide +kernel
theorem d_Rooms_measurePair_189 : decode prog_7_method_3_code 189 = .ok (.getfield 18, 3) := by decide +kernel
theorem d_Rooms_measurePair_192 : decode prog_7_method_3_code 192 = .ok (.getfield 49, 3) := by decide +kernel
theorem d_Rooms_measurePair_195 : decode prog_7_method_3_code 195 = .ok (.iadd, 1) := by decide +kernel
theorem d_Rooms_measurePair_196 : decode prog_7_method_3_code 196 = .ok (.iastore, 1) := by decide +kernel
theorem d_Rooms_measurePair_197 : decode prog_7_method_3_code 197 = .ok (.iload 8, 2) := by decide +kernel
theorem d_Rooms_measurePair_199 : decode prog_7_method_3_code 199 = .ok (.ifCond .eq 24, 3) := by decide +kernel
theorem d_Rooms_measurePair_202 : decode prog_7_method_3_code 202 = .ok (.aload_n 0, 1) := by decide +kernel
theorem d_Rooms_measurePair_203 : decode prog_7_method_3_code 203 = .ok (.aload_n 0, 1) := by decide +kernel
theorem d_Rooms_measurePair_204 : decode prog_7_method_3_code 204 = .ok (.getfield 27, 3) := by decide +kernel
theorem d_Rooms_measurePair_207 : decode prog_7_method_3_code 207 = .ok (.aload_n 0, 1) := by decide +kernel
theorem d_Rooms_measurePair_208 : decode prog_7_method_3_code 208 = .ok (.getfield 9, 3) := by decide +kernel
theorem d_Rooms_measurePair_211 : decode prog_7_method_3_code 211 = .ok (.iload 7, 2) := by decide +kernel
theorem d_Rooms_measurePair_213 : decode prog_7_method_3_code 213 = .ok (.iaload, 1) := by decide +kernel
theorem d_Rooms_measurePair_214 : decode prog_7_method_3_code 214 = .ok (.invokestatic 64, 3) := by decide +kernel
theorem d_Rooms_measurePair_217 : decode prog_7_method_3_code 217 = .ok (.putfield 27, 3) := by decide +kernel
theorem d_Rooms_measurePair_220 : decode prog_7_method_3_code 220 = .ok (.goto 21, 3) := by decide +kernel
theorem d_Rooms_measurePair_223 : decode prog_7_method_3_code 223 = .ok (.aload_n 0, 1) := by decide +kernel
theorem d_Rooms_measurePair_224 : decode prog_7_method_3_code 224 = .ok (.aload_n 0, 1) := by decide +kernel
theorem d_Rooms_measurePair_225 : decode prog_7_method_3_code 225 = .ok (.getfield 31, 3) := by decide +kernel
theorem d_Rooms_measurePair_228 : decode prog_7_method_3_code 228 = .ok (.aload_n 0, 1) := by decide +kernel
theorem d_Rooms_measurePair_229 : decode prog_7_method_3_code 229 = .ok (.getfield 9, 3) := by decide +kernel
theorem d_Rooms_measurePair_232 : decode prog_7_method_3_code 232 = .ok (.iload 7, 2) := by decide +kernel
theorem d_Rooms_measurePair_234 : decode prog_7_method_3_code 234 = .ok (.iaload, 1) := by decide +kernel
theorem d_Rooms_measurePair_235 : decode prog_7_method_3_code 235 = .ok (.invokestatic 64, 3) := by decide +kernel
theorem d_Rooms_measurePair_238 : decode prog_7_method_3_code 238 = .ok (.putfield 31, 3) := by decide +kernel
theorem d_Rooms_measurePair_241 : decode prog_7_method_3_code 241 = .ok (.aload_n 0, 1) := by decide +kernel
theorem d_Rooms_measurePair_242 : decode prog_7_method_3_code 242 = .ok (.aload_n 0, 1) := by decide +kernel
theorem d_Rooms_measurePair_243 : decode prog_7_method_3_code 243 = .ok (.getfield 34, 3) := by decide +kernel
theorem d_Rooms_measurePair_246 : decode prog_7_method_3_code 246 = .ok (.aload_n 0, 1) := by decide +kernel
theorem d_Rooms_measurePair_247 : decode prog_7_method_3_code 247 = .ok (.getfield 15, 3) := by decide +kernel
theorem d_Rooms_measurePair_250 : decode prog_7_method_3_code 250 = .ok (.iload 7, 2) := by decide +kernel
theorem d_Rooms_measurePair_252 : decode prog_7_method_3_code 252 = .ok (.iaload, 1) := by decide +kernel
theorem d_Rooms_measurePair_253 : decode prog_7_method_3_code 253 = .ok (.invokestatic 64, 3) := by decide +kernel
theorem d_Rooms_measurePair_256 : decode prog_7_method_3_code 256 = .ok (.putfield 34, 3) := by decide +kernel
theorem d_Rooms_measurePair_259 : decode prog_7_method_3_code 259 = .ok (.return_, 1) := by decide +kernel
