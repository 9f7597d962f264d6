theorem d_M_init_0 : decode prog_12_method_1_code 0 = .ok (.aload_n 0, 1) := by decide +kernel
theorem d_M_init_1 : decode prog_12_method_1_code 1 = .ok (.invokespecial 1, 3) := by decide +kernel
theorem d_M_init_4 : decode prog_12_method_1_code 4 = .ok (.aload_n 0, 1) := by decide +kernel
theorem d_M_init_5 : decode prog_12_method_1_code 5 = .ok (.sipush 1000, 3) := by decide +kernel
theorem d_M_init_8 : decode prog_12_method_1_code 8 = .ok (.putfield 7, 3) := by decide +kernel
theorem d_M_init_11 : decode prog_12_method_1_code 11 = .ok (.aload_n 0, 1) := by decide +kernel
theorem d_M_init_12 : decode prog_12_method_1_code 12 = .ok (.sipush 500, 3) := by decide +kernel
theorem d_M_init_15 : decode prog_12_method_1_code 15 = .ok (.putfield 13, 3) := by decide +kernel
theorem d_M_init_18 : decode prog_12_method_1_code 18 = .ok (.aload_n 0, 1) := by decide +kernel
theorem d_M_init_19 : decode prog_12_method_1_code 19 = .ok (.iconst 1, 1) := by decide +kernel
theorem d_M_init_20 : decode prog_12_method_1_code 20 = .ok (.putfield 16, 3) := by decide +kernel
theorem d_M_init_23 : decode prog_12_method_1_code 23 = .ok (.aload_n 0, 1) := by decide +kernel
theorem d_M_init_24 : decode prog_12_method_1_code 24 = .ok (.bipush 48, 2) := by decide +kernel
theorem d_M_init_26 : decode prog_12_method_1_code 26 = .ok (.newarray .int, 2) := by decide +kernel
theorem d_M_init_28 : decode prog_12_method_1_code 28 = .ok (.putfield 19, 3) := by decide +kernel
theorem d_M_init_31 : decode prog_12_method_1_code 31 = .ok (.aload_n 0, 1) := by decide +kernel
theorem d_M_init_32 : decode prog_12_method_1_code 32 = .ok (.bipush 48, 2) := by decide +kernel
theorem d_M_init_34 : decode prog_12_method_1_code 34 = .ok (.newarray .int, 2) := by decide +kernel
theorem d_M_init_36 : decode prog_12_method_1_code 36 = .ok (.putfield 23, 3) := by decide +kernel
theorem d_M_init_39 : decode prog_12_method_1_code 39 = .ok (.aload_n 0, 1) := by decide +kernel
theorem d_M_init_40 : decode prog_12_method_1_code 40 = .ok (.sipush 144, 3) := by decide +kernel
theorem d_M_init_43 : decode prog_12_method_1_code 43 = .ok (.newarray .int, 2) := by decide +kernel
theorem d_M_init_45 : decode prog_12_method_1_code 45 = .ok (.putfield 26, 3) := by decide +kernel
theorem d_M_init_48 : decode prog_12_method_1_code 48 = .ok (.aload_n 0, 1) := by decide +kernel
theorem d_M_init_49 : decode prog_12_method_1_code 49 = .ok (.sipush 144, 3) := by decide +kernel
theorem d_M_init_52 : decode prog_12_method_1_code 52 = .ok (.newarray .int, 2) := by decide +kernel
theorem d_M_init_54 : decode prog_12_method_1_code 54 = .ok (.putfield 29, 3) := by decide +kernel
theorem d_M_init_57 : decode prog_12_method_1_code 57 = .ok (.aload_n 0, 1) := by decide +kernel
theorem d_M_init_58 : decode prog_12_method_1_code 58 = .ok (.sipush 144, 3) := by decide +kernel
theorem d_M_init_61 : decode prog_12_method_1_code 61 = .ok (.newarray .int, 2) := by decide +kernel
theorem d_M_init_63 : decode prog_12_method_1_code 63 = .ok (.putfield 32, 3) := by decide +kernel
theorem d_M_init_66 : decode prog_12_method_1_code 66 = .ok (.aload_n 0, 1) := by decide +kernel
theorem d_M_init_67 : decode prog_12_method_1_code 67 = .ok (.sipush 144, 3) := by decide +kernel
theorem d_M_init_70 : decode prog_12_method_1_code 70 = .ok (.newarray .int, 2) := by decide +kernel
theorem d_M_init_72 : decode prog_12_method_1_code 72 = .ok (.putfield 35, 3) := by decide +kernel
theorem d_M_init_75 : decode prog_12_method_1_code 75 = .ok (.aload_n 0, 1) := by decide +kernel
theorem d_M_init_76 : decode prog_12_method_1_code 76 = .ok (.sipush 288, 3) := by decide +kernel
theorem d_M_init_79 : decode prog_12_method_1_code 79 = .ok (.newarray .int, 2) := by decide +kernel
theorem d_M_init_81 : decode prog_12_method_1_code 81 = .ok (.putfield 38, 3) := by decide +kernel
theorem d_M_init_84 : decode prog_12_method_1_code 84 = .ok (.aload_n 0, 1) := by decide +kernel
theorem d_M_init_85 : decode prog_12_method_1_code 85 = .ok (.sipush 288, 3) := by decide +kernel
theorem d_M_init_88 : decode prog_12_method_1_code 88 = .ok (.newarray .int, 2) := by decide +kernel
theorem d_M_init_90 : decode prog_12_method_1_code 90 = .ok (.putfield 41, 3) := by decide +kernel
theorem d_M_init_93 : decode prog_12_method_1_code 93 = .ok (.aload_n 0, 1) := by decide +kernel
theorem d_M_init_94 : decode prog_12_method_1_code 94 = .ok (.bipush 96, 2) := by decide +kernel
theorem d_M_init_96 : decode prog_12_method_1_code 96 = .ok (.newarray .int, 2) := by decide +kernel
theorem d_M_init_98 : decode prog_12_method_1_code 98 = .ok (.putfield 44, 3) := by decide +kernel
theorem d_M_init_101 : decode prog_12_method_1_code 101 = .ok (.aload_n 0, 1) := by decide +kernel
theorem d_M_init_102 : decode prog_12_method_1_code 102 = .ok (.bipush 96, 2) := by decide +kernel
theorem d_M_init_104 : decode prog_12_method_1_code 104 = .ok (.newarray .int, 2) := by decide +kernel
theorem d_M_init_106 : decode prog_12_method_1_code 106 = .ok (.putfield 47, 3) := by decide +kernel
theorem d_M_init_109 : decode prog_12_method_1_code 109 = .ok (.aload_n 0, 1) := by decide +kernel
theorem d_M_init_110 : decode prog_12_method_1_code 110 = .ok (.bipush 48, 2) := by decide +kernel
theorem d_M_init_112 : decode prog_12_method_1_code 112 = .ok (.newarray .int, 2) := by decide +kernel
theorem d_M_init_114 : decode prog_12_method_1_code 114 = .ok (.putfield 50, 3) := by decide +kernel
theorem d_M_init_117 : decode prog_12_method_1_code 117 = .ok (.aload_n 0, 1) := by decide +kernel
theorem d_M_init_118 : decode prog_12_method_1_code 118 = .ok (.bipush 48, 2) := by decide +kernel
theorem d_M_init_120 : decode prog_12_method_1_code 120 = .ok (.newarray .int, 2) := by decide +kernel
theorem d_M_init_122 : decode prog_12_method_1_code 122 = .ok (.putfield 53, 3) := by decide +kernel
theorem d_M_init_125 : decode prog_12_method_1_code 125 = .ok (.aload_n 0, 1) := by decide +kernel
theorem d_M_init_126 : decode prog_12_method_1_code 126 = .ok (.sipush 384, 3) := by decide +kernel
theorem d_M_init_129 : decode prog_12_method_1_code 129 = .ok (.newarray .int, 2) := by decide +kernel
theorem d_M_init_131 : decode prog_12_method_1_code 131 = .ok (.putfield 56, 3) := by decide +kernel
theorem d_M_init_134 : decode prog_12_method_1_code 134 = .ok (.aload_n 0, 1) := by decide +kernel
theorem d_M_init_135 : decode prog_12_method_1_code 135 = .ok (.sipush 384, 3) := by decide +kernel
theorem d_M_init_138 : decode prog_12_method_1_code 138 = .ok (.newarray .int, 2) := by decide +kernel
theorem d_M_init_140 : decode prog_12_method_1_code 140 = .ok (.putfield 59, 3) := by decide +kernel
theorem d_M_init_143 : decode prog_12_method_1_code 143 = .ok (.aload_n 0, 1) := by decide +kernel
theorem d_M_init_144 : decode prog_12_method_1_code 144 = .ok (.sipush 384, 3) := by decide +kernel
theorem d_M_init_147 : decode prog_12_method_1_code 147 = .ok (.newarray .int, 2) := by decide +kernel
theorem d_M_init_149 : decode prog_12_method_1_code 149 = .ok (.putfield 62, 3) := by decide +kernel
theorem d_M_init_152 : decode prog_12_method_1_code 152 = .ok (.aload_n 0, 1) := by decide +kernel
theorem d_M_init_153 : decode prog_12_method_1_code 153 = .ok (.sipush 384, 3) := by decide +kernel
theorem d_M_init_156 : decode prog_12_method_1_code 156 = .ok (.newarray .int, 2) := by decide +kernel
theorem d_M_init_158 : decode prog_12_method_1_code 158 = .ok (.putfield 65, 3) := by decide +kernel
theorem d_M_init_161 : decode prog_12_method_1_code 161 = .ok (.aload_n 0, 1) := by decide +kernel
theorem d_M_init_162 : decode prog_12_method_1_code 162 = .ok (.sipush 384, 3) := by decide +kernel
theorem d_M_init_165 : decode prog_12_method_1_code 165 = .ok (.newarray .int, 2) := by decide +kernel
theorem d_M_init_167 : decode prog_12_method_1_code 167 = .ok (.putfield 68, 3) := by decide +kernel
theorem d_M_init_170 : decode prog_12_method_1_code 170 = .ok (.aload_n 0, 1) := by decide +kernel
theorem d_M_init_171 : decode prog_12_method_1_code 171 = .ok (.sipush 18816, 3) := by decide +kernel
theorem d_M_init_174 : decode prog_12_method_1_code 174 = .ok (.newarray .int, 2) := by decide +kernel
theorem d_M_init_176 : decode prog_12_method_1_code 176 = .ok (.putfield 71, 3) := by decide +kernel
theorem d_M_init_179 : decode prog_12_method_1_code 179 = .ok (.aload_n 0, 1) := by decide +kernel
theorem d_M_init_180 : decode prog_12_method_1_code 180 = .ok (.sipush 18816, 3) := by decide +kernel
theorem d_M_init_183 : decode prog_12_method_1_code 183 = .ok (.newarray .int, 2) := by decide +kernel
theorem d_M_init_185 : decode prog_12_method_1_code 185 = .ok (.putfield 74, 3) := by decide +kernel
theorem d_M_init_188 : decode prog_12_method_1_code 188 = .ok (.aload_n 0, 1) := by decide +kernel
theorem d_M_init_189 : decode prog_12_method_1_code 189 = .ok (.bipush 96, 2) := by decide +kernel
theorem d_M_init_191 : decode prog_12_method_1_code 191 = .ok (.newarray .int, 2) := by decide +kernel
theorem d_M_init_193 : decode prog_12_method_1_code 193 = .ok (.putfield 77, 3) := by decide +kernel
theorem d_M_init_196 : decode prog_12_method_1_code 196 = .ok (.aload_n 0, 1) := by decide +kernel
theorem d_M_init_197 : decode prog_12_method_1_code 197 = .ok (.bipush 96, 2) := by decide +kernel
theorem d_M_init_199 : decode prog_12_method_1_code 199 = .ok (.newarray .boolean, 2) := by decide +kernel
theorem d_M_init_201 : decode prog_12_method_1_code 201 = .ok (.putfield 80, 3) := by decide +kernel
theorem d_M_init_204 : decode prog_12_method_1_code 204 = .ok (.aload_n 0, 1) := by decide +kernel
theorem d_M_init_205 : decode prog_12_method_1_code 205 = .ok (.bipush 96, 2) := by decide +kernel
theorem d_M_init_207 : decode prog_12_method_1_code 207 = .ok (.newarray .int, 2) := by decide +kernel
theorem d_M_init_209 : decode prog_12_method_1_code 209 = .ok (.putfield 84, 3) := by decide +kernel
theorem d_M_init_212 : decode prog_12_method_1_code 212 = .ok (.aload_n 0, 1) := by decide +kernel
theorem d_M_init_213 : decode prog_12_method_1_code 213 = .ok (.bipush 96, 2) := by decide +kernel
theorem d_M_init_215 : decode prog_12_method_1_code 215 = .ok (.newarray .int, 2) := by decide +kernel
theorem d_M_init_217 : decode prog_12_method_1_code 217 = .ok (.putfield 87, 3) := by decide +kernel
theorem d_M_init_220 : decode prog_12_method_1_code 220 = .ok (.aload_n 0, 1) := by decide +kernel
theorem d_M_init_221 : decode prog_12_method_1_code 221 = .ok (.sipush 192, 3) := by decide +kernel
theorem d_M_init_224 : decode prog_12_method_1_code 224 = .ok (.newarray .int, 2) := by decide +kernel
theorem d_M_init_226 : decode prog_12_method_1_code 226 = .ok (.putfield 90, 3) := by decide +kernel
theorem d_M_init_229 : decode prog_12_method_1_code 229 = .ok (.aload_n 0, 1) := by decide +kernel
theorem d_M_init_230 : decode prog_12_method_1_code 230 = .ok (.sipush 192, 3) := by decide +kernel
theorem d_M_init_233 : decode prog_12_method_1_code 233 = .ok (.newarray .int, 2) := by decide +kernel
theorem d_M_init_235 : decode prog_12_method_1_code 235 = .ok (.putfield 93, 3) := by decide +kernel
theorem d_M_init_238 : decode prog_12_method_1_code 238 = .ok (.aload_n 0, 1) := by decide +kernel
theorem d_M_init_239 : decode prog_12_method_1_code 239 = .ok (.bipush 96, 2) := by decide +kernel
theorem d_M_init_241 : decode prog_12_method_1_code 241 = .ok (.newarray .int, 2) := by decide +kernel
theorem d_M_init_243 : decode prog_12_method_1_code 243 = .ok (.putfield 96, 3) := by decide +kernel
theorem d_M_init_246 : decode prog_12_method_1_code 246 = .ok (.aload_n 0, 1) := by decide +kernel
theorem d_M_init_247 : decode prog_12_method_1_code 247 = .ok (.bipush 96, 2) := by decide +kernel
theorem d_M_init_249 : decode prog_12_method_1_code 249 = .ok (.newarray .long, 2) := by decide +kernel
theorem d_M_init_251 : decode prog_12_method_1_code 251 = .ok (.putfield 99, 3) := by decide +kernel
theorem d_M_init_254 : decode prog_12_method_1_code 254 = .ok (.aload_n 0, 1) := by decide +kernel
theorem d_M_init_255 : decode prog_12_method_1_code 255 = .ok (.bipush 60, 2) := by decide +kernel
theorem d_M_init_257 : decode prog_12_method_1_code 257 = .ok (.newarray .int, 2) := by decide +kernel
theorem d_M_init_259 : decode prog_12_method_1_code 259 = .ok (.putfield 103, 3) := by decide +kernel
theorem d_M_init_262 : decode prog_12_method_1_code 262 = .ok (.aload_n 0, 1) := by decide +kernel
theorem d_M_init_263 : decode prog_12_method_1_code 263 = .ok (.bipush 60, 2) := by decide +kernel
theorem d_M_init_265 : decode prog_12_method_1_code 265 = .ok (.newarray .int, 2) := by decide +kernel
theorem d_M_init_267 : decode prog_12_method_1_code 267 = .ok (.putfield 106, 3) := by decide +kernel
theorem d_M_init_270 : decode prog_12_method_1_code 270 = .ok (.aload_n 0, 1) := by decide +kernel
theorem d_M_init_271 : decode prog_12_method_1_code 271 = .ok (.bipush 60, 2) := by decide +kernel
theorem d_M_init_273 : decode prog_12_method_1_code 273 = .ok (.newarray .int, 2) := by decide +kernel
theorem d_M_init_275 : decode prog_12_method_1_code 275 = .ok (.putfield 109, 3) := by decide +kernel
theorem d_M_init_278 : decode prog_12_method_1_code 278 = .ok (.aload_n 0, 1) := by decide +kernel
theorem d_M_init_279 : decode prog_12_method_1_code 279 = .ok (.bipush 60, 2) := by decide +kernel
theorem d_M_init_281 : decode prog_12_method_1_code 281 = .ok (.newarray .int, 2) := by decide +kernel
theorem d_M_init_283 : decode prog_12_method_1_code 283 = .ok (.putfield 112, 3) := by decide +kernel
theorem d_M_init_286 : decode prog_12_method_1_code 286 = .ok (.aload_n 0, 1) := by decide +kernel
theorem d_M_init_287 : decode prog_12_method_1_code 287 = .ok (.bipush 60, 2) := by decide +kernel
theorem d_M_init_289 : decode prog_12_method_1_code 289 = .ok (.newarray .int, 2) := by decide +kernel
theorem d_M_init_291 : decode prog_12_method_1_code 291 = .ok (.putfield 115, 3) := by decide +kernel
theorem d_M_init_294 : decode prog_12_method_1_code 294 = .ok (.aload_n 0, 1) := by decide +kernel
theorem d_M_init_295 : decode prog_12_method_1_code 295 = .ok (.sipush 160, 3) := by decide +kernel
theorem d_M_init_298 : decode prog_12_method_1_code 298 = .ok (.newarray .int, 2) := by decide +kernel
theorem d_M_init_300 : decode prog_12_method_1_code 300 = .ok (.putfield 118, 3) := by decide +kernel
theorem d_M_init_303 : decode prog_12_method_1_code 303 = .ok (.aload_n 0, 1) := by decide +kernel
theorem d_M_init_304 : decode prog_12_method_1_code 304 = .ok (.iconst 2, 1) := by decide +kernel
theorem d_M_init_305 : decode prog_12_method_1_code 305 = .ok (.newarray .int, 2) := by decide +kernel
theorem d_M_init_307 : decode prog_12_method_1_code 307 = .ok (.putfield 121, 3) := by decide +kernel
theorem d_M_init_310 : decode prog_12_method_1_code 310 = .ok (.aload_n 0, 1) := by decide +kernel
theorem d_M_init_311 : decode prog_12_method_1_code 311 = .ok (.bipush 42, 2) := by decide +kernel
theorem d_M_init_313 : decode prog_12_method_1_code 313 = .ok (.newarray .int, 2) := by decide +kernel
theorem d_M_init_315 : decode prog_12_method_1_code 315 = .ok (.putfield 124, 3) := by decide +kernel
theorem d_M_init_318 : decode prog_12_method_1_code 318 = .ok (.aload_n 0, 1) := by decide +kernel
theorem d_M_init_319 : decode prog_12_method_1_code 319 = .ok (.bipush 42, 2) := by decide +kernel
theorem d_M_init_321 : decode prog_12_method_1_code 321 = .ok (.newarray .int, 2) := by decide +kernel
theorem d_M_init_323 : decode prog_12_method_1_code 323 = .ok (.putfield 127, 3) := by decide +kernel
theorem d_M_init_326 : decode prog_12_method_1_code 326 = .ok (.aload_n 0, 1) := by decide +kernel
theorem d_M_init_327 : decode prog_12_method_1_code 327 = .ok (.sipush 6720, 3) := by decide +kernel
theorem d_M_init_330 : decode prog_12_method_1_code 330 = .ok (.newarray .int, 2) := by decide +kernel
theorem d_M_init_332 : decode prog_12_method_1_code 332 = .ok (.putfield 130, 3) := by decide +kernel
theorem d_M_init_335 : decode prog_12_method_1_code 335 = .ok (.aload_n 0, 1) := by decide +kernel
theorem d_M_init_336 : decode prog_12_method_1_code 336 = .ok (.iconst 0, 1) := by decide +kernel
theorem d_M_init_337 : decode prog_12_method_1_code 337 = .ok (.iconst 0, 1) := by decide +kernel
theorem d_M_init_338 : decode prog_12_method_1_code 338 = .ok (.iconst 0, 1) := by decide +kernel
theorem d_M_init_339 : decode prog_12_method_1_code 339 = .ok (.invokevirtual 133, 3) := by decide +kernel
theorem d_M_init_342 : decode prog_12_method_1_code 342 = .ok (.return_, 1) := by decide +kernel
theorem d_M_thrown_0 : decode prog_12_method_2_code 0 = .ok (.aload_n 0, 1) := by decide +kernel
theorem d_M_thrown_1 : decode prog_12_method_2_code 1 = .ok (.getfield 137, 3) := by decide +kernel
theorem d_M_thrown_4 : decode prog_12_method_2_code 4 = .ok (.ireturn, 1) := by decide +kernel
theorem d_M_clearNode_0 : decode prog_12_method_3_code 0 = .ok (.aload_n 0, 1) := by decide +kernel
theorem d_M_clearNode_1 : decode prog_12_method_3_code 1 = .ok (.getfield 19, 3) := by decide +kernel
theorem d_M_clearNode_4 : decode prog_12_method_3_code 4 = .ok (.iload_n 1, 1) := by decide +kernel
theorem d_M_clearNode_5 : decode prog_12_method_3_code 5 = .ok (.iload_n 2, 1) := by decide +kernel
theorem d_M_clearNode_6 : decode prog_12_method_3_code 6 = .ok (.iastore, 1) := by decide +kernel
theorem d_M_clearNode_7 : decode prog_12_method_3_code 7 = .ok (.aload_n 0, 1) := by decide +kernel
theorem d_M_clearNode_8 : decode prog_12_method_3_code 8 = .ok (.getfield 23, 3) := by decide +kernel
theorem d_M_clearNode_11 : decode prog_12_method_3_code 11 = .ok (.iload_n 1, 1) := by decide +kernel
theorem d_M_clearNode_12 : decode prog_12_method_3_code 12 = .ok (.iload_n 3, 1) := by decide +kernel
theorem d_M_clearNode_13 : decode prog_12_method_3_code 13 = .ok (.iastore, 1) := by decide +kernel
theorem d_M_clearNode_14 : decode prog_12_method_3_code 14 = .ok (.iconst 0, 1) := by decide +kernel
theorem d_M_clearNode_15 : decode prog_12_method_3_code 15 = .ok (.istore 4, 2) := by decide +kernel
theorem d_M_clearNode_17 : decode prog_12_method_3_code 17 = .ok (.iload 4, 2) := by decide +kernel
theorem d_M_clearNode_19 : decode prog_12_method_3_code 19 = .ok (.iconst 3, 1) := by decide +kernel
theorem d_M_clearNode_20 : decode prog_12_method_3_code 20 = .ok (.if_icmp .ge 109, 3) := by decide +kernel
theorem d_M_clearNode_23 : decode prog_12_method_3_code 23 = .ok (.aload_n 0, 1) := by decide +kernel
theorem d_M_clearNode_24 : decode prog_12_method_3_code 24 = .ok (.getfield 26, 3) := by decide +kernel
theorem d_M_clearNode_27 : decode prog_12_method_3_code 27 = .ok (.iconst 3, 1) := by decide +kernel
theorem d_M_clearNode_28 : decode prog_12_method_3_code 28 = .ok (.iload_n 1, 1) := by decide +kernel
theorem d_M_clearNode_29 : decode prog_12_method_3_code 29 = .ok (.imul, 1) := by decide +kernel
theorem d_M_clearNode_30 : decode prog_12_method_3_code 30 = .ok (.iload 4, 2) := by decide +kernel
theorem d_M_clearNode_32 : decode prog_12_method_3_code 32 = .ok (.iadd, 1) := by decide +kernel
theorem d_M_clearNode_33 : decode prog_12_method_3_code 33 = .ok (.ldc 140, 2) := by decide +kernel
theorem d_M_clearNode_35 : decode prog_12_method_3_code 35 = .ok (.iastore, 1) := by decide +kernel
theorem d_M_clearNode_36 : decode prog_12_method_3_code 36 = .ok (.aload_n 0, 1) := by decide +kernel
theorem d_M_clearNode_37 : decode prog_12_method_3_code 37 = .ok (.getfield 29, 3) := by decide +kernel
theorem d_M_clearNode_40 : decode prog_12_method_3_code 40 = .ok (.iconst 3, 1) := by decide +kernel
theorem d_M_clearNode_41 : decode prog_12_method_3_code 41 = .ok (.iload_n 1, 1) := by decide +kernel
theorem d_M_clearNode_42 : decode prog_12_method_3_code 42 = .ok (.imul, 1) := by decide +kernel
theorem d_M_clearNode_43 : decode prog_12_method_3_code 43 = .ok (.iload 4, 2) := by decide +kernel
theorem d_M_clearNode_45 : decode prog_12_method_3_code 45 = .ok (.iadd, 1) := by decide +kernel
theorem d_M_clearNode_46 : decode prog_12_method_3_code 46 = .ok (.iconst 0, 1) := by decide +kernel
theorem d_M_clearNode_47 : decode prog_12_method_3_code 47 = .ok (.iastore, 1) := by decide +kernel
theorem d_M_clearNode_48 : decode prog_12_method_3_code 48 = .ok (.aload_n 0, 1) := by decide +kernel
theorem d_M_clearNode_49 : decode prog_12_method_3_code 49 = .ok (.getfield 32, 3) := by decide +kernel
theorem d_M_clearNode_52 : decode prog_12_method_3_code 52 = .ok (.iconst 3, 1) := by decide +kernel
theorem d_M_clearNode_53 : decode prog_12_method_3_code 53 = .ok (.iload_n 1, 1) := by decide +kernel
theorem d_M_clearNode_54 : decode prog_12_method_3_code 54 = .ok (.imul, 1) := by decide +kernel
theorem d_M_clearNode_55 : decode prog_12_method_3_code 55 = .ok (.iload 4, 2) := by decide +kernel
theorem d_M_clearNode_57 : decode prog_12_method_3_code 57 = .ok (.iadd, 1) := by decide +kernel
theorem d_M_clearNode_58 : decode prog_12_method_3_code 58 = .ok (.iconst 0, 1) := by decide +kernel
theorem d_M_clearNode_59 : decode prog_12_method_3_code 59 = .ok (.iastore, 1) := by decide +kernel
theorem d_M_clearNode_60 : decode prog_12_method_3_code 60 = .ok (.aload_n 0, 1) := by decide +kernel
theorem d_M_clearNode_61 : decode prog_12_method_3_code 61 = .ok (.getfield 35, 3) := by decide +kernel
theorem d_M_clearNode_64 : decode prog_12_method_3_code 64 = .ok (.iconst 3, 1) := by decide +kernel
theorem d_M_clearNode_65 : decode prog_12_method_3_code 65 = .ok (.iload_n 1, 1) := by decide +kernel
theorem d_M_clearNode_66 : decode prog_12_method_3_code 66 = .ok (.imul, 1) := by decide +kernel
theorem d_M_clearNode_67 : decode prog_12_method_3_code 67 = .ok (.iload 4, 2) := by decide +kernel
theorem d_M_clearNode_69 : decode prog_12_method_3_code 69 = .ok (.iadd, 1) := by decide +kernel
theorem d_M_clearNode_70 : decode prog_12_method_3_code 70 = .ok (.iconst 0, 1) := by decide +kernel
theorem d_M_clearNode_71 : decode prog_12_method_3_code 71 = .ok (.iastore, 1) := by decide +kernel
theorem d_M_clearNode_72 : decode prog_12_method_3_code 72 = .ok (.iconst 0, 1) := by decide +kernel
theorem d_M_clearNode_73 : decode prog_12_method_3_code 73 = .ok (.istore 5, 2) := by decide +kernel
theorem d_M_clearNode_75 : decode prog_12_method_3_code 75 = .ok (.iload 5, 2) := by decide +kernel
theorem d_M_clearNode_77 : decode prog_12_method_3_code 77 = .ok (.iconst 2, 1) := by decide +kernel
theorem d_M_clearNode_78 : decode prog_12_method_3_code 78 = .ok (.if_icmp .ge 45, 3) := by decide +kernel
theorem d_M_clearNode_81 : decode prog_12_method_3_code 81 = .ok (.aload_n 0, 1) := by decide +kernel
theorem d_M_clearNode_82 : decode prog_12_method_3_code 82 = .ok (.getfield 38, 3) := by decide +kernel
theorem d_M_clearNode_85 : decode prog_12_method_3_code 85 = .ok (.bipush 6, 2) := by decide +kernel
theorem d_M_clearNode_87 : decode prog_12_method_3_code 87 = .ok (.iload_n 1, 1) := by decide +kernel
theorem d_M_clearNode_88 : decode prog_12_method_3_code 88 = .ok (.imul, 1) := by decide +kernel
theorem d_M_clearNode_89 : decode prog_12_method_3_code 89 = .ok (.iconst 2, 1) := by decide +kernel
theorem d_M_clearNode_90 : decode prog_12_method_3_code 90 = .ok (.iload 4, 2) := by decide +kernel
theorem d_M_clearNode_92 : decode prog_12_method_3_code 92 = .ok (.imul, 1) := by decide +kernel
theorem d_M_clearNode_93 : decode prog_12_method_3_code 93 = .ok (.iadd, 1) := by decide +kernel
theorem d_M_clearNode_94 : decode prog_12_method_3_code 94 = .ok (.iload 5, 2) := by decide +kernel
theorem d_M_clearNode_96 : decode prog_12_method_3_code 96 = .ok (.iadd, 1) := by decide +kernel
theorem d_M_clearNode_97 : decode prog_12_method_3_code 97 = .ok (.iconst 0, 1) := by decide +kernel
theorem d_M_clearNode_98 : decode prog_12_method_3_code 98 = .ok (.iastore, 1) := by decide +kernel
theorem d_M_clearNode_99 : decode prog_12_method_3_code 99 = .ok (.aload_n 0, 1) := by decide +kernel
theorem d_M_clearNode_100 : decode prog_12_method_3_code 100 = .ok (.getfield 41, 3) := by decide +kernel
theorem d_M_clearNode_103 : decode prog_12_method_3_code 103 = .ok (.bipush 6, 2) := by decide +kernel
theorem d_M_clearNode_105 : decode prog_12_method_3_code 105 = .ok (.iload_n 1, 1) := by decide +kernel
theorem d_M_clearNode_106 : decode prog_12_method_3_code 106 = .ok (.imul, 1) := by decide +kernel
theorem d_M_clearNode_107 : decode prog_12_method_3_code 107 = .ok (.iconst 2, 1) := by decide +kernel
theorem d_M_clearNode_108 : decode prog_12_method_3_code 108 = .ok (.iload 4, 2) := by decide +kernel
theorem d_M_clearNode_110 : decode prog_12_method_3_code 110 = .ok (.imul, 1) := by decide +kernel
theorem d_M_clearNode_111 : decode prog_12_method_3_code 111 = .ok (.iadd, 1) := by decide +kernel
theorem d_M_clearNode_112 : decode prog_12_method_3_code 112 = .ok (.iload 5, 2) := by decide +kernel
theorem d_M_clearNode_114 : decode prog_12_method_3_code 114 = .ok (.iadd, 1) := by decide +kernel
theorem d_M_clearNode_115 : decode prog_12_method_3_code 115 = .ok (.iconst 0, 1) := by decide +kernel
theorem d_M_clearNode_116 : decode prog_12_method_3_code 116 = .ok (.iastore, 1) := by decide +kernel
theorem d_M_clearNode_117 : decode prog_12_method_3_code 117 = .ok (.iinc 5 1, 3) := by decide +kernel
theorem d_M_clearNode_120 : decode prog_12_method_3_code 120 = .ok (.goto (-45), 3) := by decide +kernel
theorem d_M_clearNode_123 : decode prog_12_method_3_code 123 = .ok (.iinc 4 1, 3) := by decide +kernel
theorem d_M_clearNode_126 : decode prog_12_method_3_code 126 = .ok (.goto (-109), 3) := by decide +kernel
theorem d_M_clearNode_129 : decode prog_12_method_3_code 129 = .ok (.iconst 0, 1) := by decide +kernel
theorem d_M_clearNode_130 : decode prog_12_method_3_code 130 = .ok (.istore 4, 2) := by decide +kernel
theorem d_M_clearNode_132 : decode prog_12_method_3_code 132 = .ok (.iload 4, 2) := by decide +kernel
theorem d_M_clearNode_134 : decode prog_12_method_3_code 134 = .ok (.iconst 2, 1) := by decide +kernel
theorem d_M_clearNode_135 : decode prog_12_method_3_code 135 = .ok (.if_icmp .ge 33, 3) := by decide +kernel
theorem d_M_clearNode_138 : decode prog_12_method_3_code 138 = .ok (.aload_n 0, 1) := by decide +kernel
theorem d_M_clearNode_139 : decode prog_12_method_3_code 139 = .ok (.getfield 44, 3) := by decide +kernel
theorem d_M_clearNode_142 : decode prog_12_method_3_code 142 = .ok (.iconst 2, 1) := by decide +kernel
theorem d_M_clearNode_143 : decode prog_12_method_3_code 143 = .ok (.iload_n 1, 1) := by decide +kernel
theorem d_M_clearNode_144 : decode prog_12_method_3_code 144 = .ok (.imul, 1) := by decide +kernel
theorem d_M_clearNode_145 : decode prog_12_method_3_code 145 = .ok (.iload 4, 2) := by decide +kernel
theorem d_M_clearNode_147 : decode prog_12_method_3_code 147 = .ok (.iadd, 1) := by decide +kernel
theorem d_M_clearNode_148 : decode prog_12_method_3_code 148 = .ok (.iconst 0, 1) := by decide +kernel
theorem d_M_clearNode_149 : decode prog_12_method_3_code 149 = .ok (.iastore, 1) := by decide +kernel
theorem d_M_clearNode_150 : decode prog_12_method_3_code 150 = .ok (.aload_n 0, 1) := by decide +kernel
theorem d_M_clearNode_151 : decode prog_12_method_3_code 151 = .ok (.getfield 47, 3) := by decide +kernel
theorem d_M_clearNode_154 : decode prog_12_method_3_code 154 = .ok (.iconst 2, 1) := by decide +kernel
theorem d_M_clearNode_155 : decode prog_12_method_3_code 155 = .ok (.iload_n 1, 1) := by decide +kernel
theorem d_M_clearNode_156 : decode prog_12_method_3_code 156 = .ok (.imul, 1) := by decide +kernel
theorem d_M_clearNode_157 : decode prog_12_method_3_code 157 = .ok (.iload 4, 2) := by decide +kernel
theorem d_M_clearNode_159 : decode prog_12_method_3_code 159 = .ok (.iadd, 1) := by decide +kernel
theorem d_M_clearNode_160 : decode prog_12_method_3_code 160 = .ok (.iconst 0, 1) := by decide +kernel
theorem d_M_clearNode_161 : decode prog_12_method_3_code 161 = .ok (.iastore, 1) := by decide +kernel
theorem d_M_clearNode_162 : decode prog_12_method_3_code 162 = .ok (.iinc 4 1, 3) := by decide +kernel
theorem d_M_clearNode_165 : decode prog_12_method_3_code 165 = .ok (.goto (-33), 3) := by decide +kernel
theorem d_M_clearNode_168 : decode prog_12_method_3_code 168 = .ok (.return_, 1) := by decide +kernel
theorem d_M_add_0 : decode prog_12_method_4_code 0 = .ok (.aload_n 0, 1) := by decide +kernel
theorem d_M_add_1 : decode prog_12_method_4_code 1 = .ok (.getfield 16, 3) := by decide +kernel
theorem d_M_add_4 : decode prog_12_method_4_code 4 = .ok (.bipush 48, 2) := by decide +kernel
theorem d_M_add_6 : decode prog_12_method_4_code 6 = .ok (.if_icmp .ne 6, 3) := by decide +kernel
theorem d_M_add_9 : decode prog_12_method_4_code 9 = .ok (.ldc 140, 2) := by decide +kernel
theorem d_M_add_11 : decode prog_12_method_4_code 11 = .ok (.ireturn, 1) := by decide +kernel
theorem d_M_add_12 : decode prog_12_method_4_code 12 = .ok (.aload_n 0, 1) := by decide +kernel
theorem d_M_add_13 : decode prog_12_method_4_code 13 = .ok (.aload_n 0, 1) := by decide +kernel
theorem d_M_add_14 : decode prog_12_method_4_code 14 = .ok (.getfield 16, 3) := by decide +kernel
theorem d_M_add_17 : decode prog_12_method_4_code 17 = .ok (.iload_n 1, 1) := by decide +kernel
theorem d_M_add_18 : decode prog_12_method_4_code 18 = .ok (.iload_n 2, 1) := by decide +kernel
theorem d_M_add_19 : decode prog_12_method_4_code 19 = .ok (.invokevirtual 133, 3) := by decide +kernel
theorem d_M_add_22 : decode prog_12_method_4_code 22 = .ok (.aload_n 0, 1) := by decide +kernel
theorem d_M_add_23 : decode prog_12_method_4_code 23 = .ok (.dup, 1) := by decide +kernel
theorem d_M_add_24 : decode prog_12_method_4_code 24 = .ok (.getfield 16, 3) := by decide +kernel
theorem d_M_add_27 : decode prog_12_method_4_code 27 = .ok (.iconst 1, 1) := by decide +kernel
theorem d_M_add_28 : decode prog_12_method_4_code 28 = .ok (.iadd, 1) := by decide +kernel
theorem d_M_add_29 : decode prog_12_method_4_code 29 = .ok (.putfield 16, 3) := by decide +kernel
theorem d_M_add_32 : decode prog_12_method_4_code 32 = .ok (.aload_n 0, 1) := by decide +kernel
theorem d_M_add_33 : decode prog_12_method_4_code 33 = .ok (.iconst 0, 1) := by decide +kernel
theorem d_M_add_34 : decode prog_12_method_4_code 34 = .ok (.putfield 141, 3) := by decide +kernel
theorem d_M_add_37 : decode prog_12_method_4_code 37 = .ok (.aload_n 0, 1) := by decide +kernel
theorem d_M_add_38 : decode prog_12_method_4_code 38 = .ok (.getfield 16, 3) := by decide +kernel
theorem d_M_add_41 : decode prog_12_method_4_code 41 = .ok (.iconst 1, 1) := by decide +kernel
theorem d_M_add_42 : decode prog_12_method_4_code 42 = .ok (.isub, 1) := by decide +kernel
theorem d_M_add_43 : decode prog_12_method_4_code 43 = .ok (.ireturn, 1) := by decide +kernel
theorem d_M_clock_0 : decode prog_12_method_5_code 0 = .ok (.aload_n 0, 1) := by decide +kernel
theorem d_M_clock_1 : decode prog_12_method_5_code 1 = .ok (.iload_n 1, 1) := by decide +kernel
theorem d_M_clock_2 : decode prog_12_method_5_code 2 = .ok (.iconst 2, 1) := by decide +kernel
theorem d_M_clock_3 : decode prog_12_method_5_code 3 = .ok (.if_icmp .lt 19, 3) := by decide +kernel
theorem d_M_clock_6 : decode prog_12_method_5_code 6 = .ok (.iload_n 1, 1) := by decide +kernel
theorem d_M_clock_7 : decode prog_12_method_5_code 7 = .ok (.ldc 145, 2) := by decide +kernel
theorem d_M_clock_9 : decode prog_12_method_5_code 9 = .ok (.if_icmp .gt 13, 3) := by decide +kernel
theorem d_M_clock_12 : decode prog_12_method_5_code 12 = .ok (.iload_n 2, 1) := by decide +kernel
theorem d_M_clock_13 : decode prog_12_method_5_code 13 = .ok (.iconst 1, 1) := by decide +kernel
theorem d_M_clock_14 : decode prog_12_method_5_code 14 = .ok (.if_icmp .lt 8, 3) := by decide +kernel
theorem d_M_clock_17 : decode prog_12_method_5_code 17 = .ok (.iload_n 2, 1) := by decide +kernel
theorem d_M_clock_18 : decode prog_12_method_5_code 18 = .ok (.iload_n 1, 1) := by decide +kernel
theorem d_M_clock_19 : decode prog_12_method_5_code 19 = .ok (.if_icmp .lt 7, 3) := by decide +kernel
theorem d_M_clock_22 : decode prog_12_method_5_code 22 = .ok (.iconst 1, 1) := by decide +kernel
theorem d_M_clock_23 : decode prog_12_method_5_code 23 = .ok (.goto 4, 3) := by decide +kernel
theorem d_M_clock_26 : decode prog_12_method_5_code 26 = .ok (.iconst 0, 1) := by decide +kernel
theorem d_M_clock_27 : decode prog_12_method_5_code 27 = .ok (.putfield 137, 3) := by decide +kernel
theorem d_M_clock_30 : decode prog_12_method_5_code 30 = .ok (.aload_n 0, 1) := by decide +kernel
theorem d_M_clock_31 : decode prog_12_method_5_code 31 = .ok (.getfield 137, 3) := by decide +kernel
theorem d_M_clock_34 : decode prog_12_method_5_code 34 = .ok (.ifCond .ne 18, 3) := by decide +kernel
theorem d_M_clock_37 : decode prog_12_method_5_code 37 = .ok (.aload_n 0, 1) := by decide +kernel
theorem d_M_clock_38 : decode prog_12_method_5_code 38 = .ok (.iload_n 1, 1) := by decide +kernel
theorem d_M_clock_39 : decode prog_12_method_5_code 39 = .ok (.putfield 7, 3) := by decide +kernel
theorem d_M_clock_42 : decode prog_12_method_5_code 42 = .ok (.aload_n 0, 1) := by decide +kernel
theorem d_M_clock_43 : decode prog_12_method_5_code 43 = .ok (.iload_n 2, 1) := by decide +kernel
theorem d_M_clock_44 : decode prog_12_method_5_code 44 = .ok (.putfield 13, 3) := by decide +kernel
theorem d_M_clock_47 : decode prog_12_method_5_code 47 = .ok (.aload_n 0, 1) := by decide +kernel
theorem d_M_clock_48 : decode prog_12_method_5_code 48 = .ok (.iconst 0, 1) := by decide +kernel
theorem d_M_clock_49 : decode prog_12_method_5_code 49 = .ok (.putfield 141, 3) := by decide +kernel
theorem d_M_clock_52 : decode prog_12_method_5_code 52 = .ok (.return_, 1) := by decide +kernel
theorem d_M_noTimes_0 : decode prog_12_method_6_code 0 = .ok (.iload_n 0, 1) := by decide +kernel
theorem d_M_noTimes_1 : decode prog_12_method_6_code 1 = .ok (.iload_n 3, 1) := by decide +kernel
theorem d_M_noTimes_2 : decode prog_12_method_6_code 2 = .ok (.if_icmp .lt 13, 3) := by decide +kernel
theorem d_M_noTimes_5 : decode prog_12_method_6_code 5 = .ok (.iload_n 1, 1) := by decide +kernel
theorem d_M_noTimes_6 : decode prog_12_method_6_code 6 = .ok (.iload_n 2, 1) := by decide +kernel
theorem d_M_noTimes_7 : decode prog_12_method_6_code 7 = .ok (.if_icmp .gt 8, 3) := by decide +kernel
theorem d_M_noTimes_10 : decode prog_12_method_6_code 10 = .ok (.iload_n 0, 1) := by decide +kernel
theorem d_M_noTimes_11 : decode prog_12_method_6_code 11 = .ok (.iload_n 1, 1) := by decide +kernel
theorem d_M_noTimes_12 : decode prog_12_method_6_code 12 = .ok (.if_icmp .le 7, 3) := by decide +kernel
theorem d_M_noTimes_15 : decode prog_12_method_6_code 15 = .ok (.iconst 1, 1) := by decide +kernel
theorem d_M_noTimes_16 : decode prog_12_method_6_code 16 = .ok (.goto 4, 3) := by decide +kernel
theorem d_M_noTimes_19 : decode prog_12_method_6_code 19 = .ok (.iconst 0, 1) := by decide +kernel
theorem d_M_noTimes_20 : decode prog_12_method_6_code 20 = .ok (.ireturn, 1) := by decide +kernel
theorem d_M_input_0 : decode prog_12_method_7_code 0 = .ok (.aload_n 0, 1) := by decide +kernel
theorem d_M_input_1 : decode prog_12_method_7_code 1 = .ok (.iload_n 1, 1) := by decide +kernel
theorem d_M_input_2 : decode prog_12_method_7_code 2 = .ok (.iload_n 2, 1) := by decide +kernel
theorem d_M_input_3 : decode prog_12_method_7_code 3 = .ok (.ldc 145, 2) := by decide +kernel
theorem d_M_input_5 : decode prog_12_method_7_code 5 = .ok (.ldc 146, 2) := by decide +kernel
theorem d_M_input_7 : decode prog_12_method_7_code 7 = .ok (.invokestatic 147, 3) := by decide +kernel
theorem d_M_input_10 : decode prog_12_method_7_code 10 = .ok (.ifCond .ne 16, 3) := by decide +kernel
theorem d_M_input_13 : decode prog_12_method_7_code 13 = .ok (.iload_n 3, 1) := by decide +kernel
theorem d_M_input_14 : decode prog_12_method_7_code 14 = .ok (.iload 4, 2) := by decide +kernel
theorem d_M_input_16 : decode prog_12_method_7_code 16 = .ok (.ldc 145, 2) := by decide +kernel
theorem d_M_input_18 : decode prog_12_method_7_code 18 = .ok (.ldc 146, 2) := by decide +kernel
theorem d_M_input_20 : decode prog_12_method_7_code 20 = .ok (.invokestatic 147, 3) := by decide +kernel
theorem d_M_input_23 : decode prog_12_method_7_code 23 = .ok (.ifCond .eq 7, 3) := by decide +kernel
theorem d_M_input_26 : decode prog_12_method_7_code 26 = .ok (.iconst 1, 1) := by decide +kernel
theorem d_M_input_27 : decode prog_12_method_7_code 27 = .ok (.goto 4, 3) := by decide +kernel
theorem d_M_input_30 : decode prog_12_method_7_code 30 = .ok (.iconst 0, 1) := by decide +kernel
theorem d_M_input_31 : decode prog_12_method_7_code 31 = .ok (.putfield 137, 3) := by decide +kernel
theorem d_M_input_34 : decode prog_12_method_7_code 34 = .ok (.aload_n 0, 1) := by decide +kernel
theorem d_M_input_35 : decode prog_12_method_7_code 35 = .ok (.getfield 137, 3) := by decide +kernel
theorem d_M_input_38 : decode prog_12_method_7_code 38 = .ok (.ifCond .le 5, 3) := by decide +kernel
theorem d_M_input_41 : decode prog_12_method_7_code 41 = .ok (.iconst 0, 1) := by decide +kernel
theorem d_M_input_42 : decode prog_12_method_7_code 42 = .ok (.ireturn, 1) := by decide +kernel
theorem d_M_input_43 : decode prog_12_method_7_code 43 = .ok (.aload_n 0, 1) := by decide +kernel
theorem d_M_input_44 : decode prog_12_method_7_code 44 = .ok (.iconst 1, 1) := by decide +kernel
theorem d_M_input_45 : decode prog_12_method_7_code 45 = .ok (.iconst 0, 1) := by decide +kernel
theorem d_M_input_46 : decode prog_12_method_7_code 46 = .ok (.invokevirtual 151, 3) := by decide +kernel
theorem d_M_input_49 : decode prog_12_method_7_code 49 = .ok (.istore 5, 2) := by decide +kernel
theorem d_M_input_51 : decode prog_12_method_7_code 51 = .ok (.iload 5, 2) := by decide +kernel
theorem d_M_input_53 : decode prog_12_method_7_code 53 = .ok (.ifCond .lt 48, 3) := by decide +kernel
theorem d_M_input_56 : decode prog_12_method_7_code 56 = .ok (.aload_n 0, 1) := by decide +kernel
theorem d_M_input_57 : decode prog_12_method_7_code 57 = .ok (.getfield 44, 3) := by decide +kernel
theorem d_M_input_60 : decode prog_12_method_7_code 60 = .ok (.iconst 2, 1) := by decide +kernel
theorem d_M_input_61 : decode prog_12_method_7_code 61 = .ok (.iload 5, 2) := by decide +kernel
theorem d_M_input_63 : decode prog_12_method_7_code 63 = .ok (.imul, 1) := by decide +kernel
theorem d_M_input_64 : decode prog_12_method_7_code 64 = .ok (.iload_n 1, 1) := by decide +kernel
theorem d_M_input_65 : decode prog_12_method_7_code 65 = .ok (.iastore, 1) := by decide +kernel
theorem d_M_input_66 : decode prog_12_method_7_code 66 = .ok (.aload_n 0, 1) := by decide +kernel
theorem d_M_input_67 : decode prog_12_method_7_code 67 = .ok (.getfield 47, 3) := by decide +kernel
theorem d_M_input_70 : decode prog_12_method_7_code 70 = .ok (.iconst 2, 1) := by decide +kernel
theorem d_M_input_71 : decode prog_12_method_7_code 71 = .ok (.iload 5, 2) := by decide +kernel
theorem d_M_input_73 : decode prog_12_method_7_code 73 = .ok (.imul, 1) := by decide +kernel
theorem d_M_input_74 : decode prog_12_method_7_code 74 = .ok (.iload_n 2, 1) := by decide +kernel
theorem d_M_input_75 : decode prog_12_method_7_code 75 = .ok (.iastore, 1) := by decide +kernel
theorem d_M_input_76 : decode prog_12_method_7_code 76 = .ok (.aload_n 0, 1) := by decide +kernel
theorem d_M_input_77 : decode prog_12_method_7_code 77 = .ok (.getfield 44, 3) := by decide +kernel
theorem d_M_input_80 : decode prog_12_method_7_code 80 = .ok (.iconst 2, 1) := by decide +kernel
theorem d_M_input_81 : decode prog_12_method_7_code 81 = .ok (.iload 5, 2) := by decide +kernel
theorem d_M_input_83 : decode prog_12_method_7_code 83 = .ok (.imul, 1) := by decide +kernel
theorem d_M_input_84 : decode prog_12_method_7_code 84 = .ok (.iconst 1, 1) := by decide +kernel
theorem d_M_input_85 : decode prog_12_method_7_code 85 = .ok (.iadd, 1) := by decide +kernel
theorem d_M_input_86 : decode prog_12_method_7_code 86 = .ok (.iload_n 3, 1) := by decide +kernel
theorem d_M_input_87 : decode prog_12_method_7_code 87 = .ok (.iastore, 1) := by decide +kernel
theorem d_M_input_88 : decode prog_12_method_7_code 88 = .ok (.aload_n 0, 1) := by decide +kernel
theorem d_M_input_89 : decode prog_12_method_7_code 89 = .ok (.getfield 47, 3) := by decide +kernel
theorem d_M_input_92 : decode prog_12_method_7_code 92 = .ok (.iconst 2, 1) := by decide +kernel
theorem d_M_input_93 : decode prog_12_method_7_code 93 = .ok (.iload 5, 2) := by decide +kernel
theorem d_M_input_95 : decode prog_12_method_7_code 95 = .ok (.imul, 1) := by decide +kernel
theorem d_M_input_96 : decode prog_12_method_7_code 96 = .ok (.iconst 1, 1) := by decide +kernel
theorem d_M_input_97 : decode prog_12_method_7_code 97 = .ok (.iadd, 1) := by decide +kernel
theorem d_M_input_98 : decode prog_12_method_7_code 98 = .ok (.iload 4, 2) := by decide +kernel
theorem d_M_input_100 : decode prog_12_method_7_code 100 = .ok (.iastore, 1) := by decide +kernel
theorem d_M_input_101 : decode prog_12_method_7_code 101 = .ok (.iload 5, 2) := by decide +kernel
theorem d_M_input_103 : decode prog_12_method_7_code 103 = .ok (.ireturn, 1) := by decide +kernel
theorem d_M_gate_0 : decode prog_12_method_8_code 0 = .ok (.aload_n 0, 1) := by decide +kernel
theorem d_M_gate_1 : decode prog_12_method_8_code 1 = .ok (.iload_n 1, 1) := by decide +kernel
theorem d_M_gate_2 : decode prog_12_method_8_code 2 = .ok (.iconst 1, 1) := by decide +kernel
theorem d_M_gate_3 : decode prog_12_method_8_code 3 = .ok (.if_icmp .lt 8, 3) := by decide +kernel
theorem d_M_gate_6 : decode prog_12_method_8_code 6 = .ok (.iload_n 1, 1) := by decide +kernel
theorem d_M_gate_7 : decode prog_12_method_8_code 7 = .ok (.iconst 3, 1) := by decide +kernel
theorem d_M_gate_8 : decode prog_12_method_8_code 8 = .ok (.if_icmp .le 7, 3) := by decide +kernel
theorem d_M_gate_11 : decode prog_12_method_8_code 11 = .ok (.iconst 1, 1) := by decide +kernel
theorem d_M_gate_12 : decode prog_12_method_8_code 12 = .ok (.goto 4, 3) := by decide +kernel
theorem d_M_gate_15 : decode prog_12_method_8_code 15 = .ok (.iconst 0, 1) := by decide +kernel
theorem d_M_gate_16 : decode prog_12_method_8_code 16 = .ok (.putfield 137, 3) := by decide +kernel
theorem d_M_gate_19 : decode prog_12_method_8_code 19 = .ok (.aload_n 0, 1) := by decide +kernel
theorem d_M_gate_20 : decode prog_12_method_8_code 20 = .ok (.getfield 137, 3) := by decide +kernel
theorem d_M_gate_23 : decode prog_12_method_8_code 23 = .ok (.ifCond .le 7, 3) := by decide +kernel
theorem d_M_gate_26 : decode prog_12_method_8_code 26 = .ok (.iconst 0, 1) := by decide +kernel
theorem d_M_gate_27 : decode prog_12_method_8_code 27 = .ok (.goto 9, 3) := by decide +kernel
theorem d_M_gate_30 : decode prog_12_method_8_code 30 = .ok (.aload_n 0, 1) := by decide +kernel
theorem d_M_gate_31 : decode prog_12_method_8_code 31 = .ok (.iconst 2, 1) := by decide +kernel
theorem d_M_gate_32 : decode prog_12_method_8_code 32 = .ok (.iload_n 1, 1) := by decide +kernel
theorem d_M_gate_33 : decode prog_12_method_8_code 33 = .ok (.invokevirtual 151, 3) := by decide +kernel
theorem d_M_gate_36 : decode prog_12_method_8_code 36 = .ok (.ireturn, 1) := by decide +kernel
theorem d_M_register_0 : decode prog_12_method_9_code 0 = .ok (.aload_n 0, 1) := by decide +kernel
theorem d_M_register_1 : decode prog_12_method_9_code 1 = .ok (.iconst 0, 1) := by decide +kernel
theorem d_M_register_2 : decode prog_12_method_9_code 2 = .ok (.putfield 137, 3) := by decide +kernel
theorem d_M_register_5 : decode prog_12_method_9_code 5 = .ok (.aload_n 0, 1) := by decide +kernel
theorem d_M_register_6 : decode prog_12_method_9_code 6 = .ok (.iconst 3, 1) := by decide +kernel
theorem d_M_register_7 : decode prog_12_method_9_code 7 = .ok (.iconst 2, 1) := by decide +kernel
theorem d_M_register_8 : decode prog_12_method_9_code 8 = .ok (.invokevirtual 151, 3) := by decide +kernel
theorem d_M_register_11 : decode prog_12_method_9_code 11 = .ok (.ireturn, 1) := by decide +kernel
theorem d_M_output_0 : decode prog_12_method_10_code 0 = .ok (.aload_n 0, 1) := by decide +kernel
theorem d_M_output_1 : decode prog_12_method_10_code 1 = .ok (.iconst 0, 1) := by decide +kernel
theorem d_M_output_2 : decode prog_12_method_10_code 2 = .ok (.putfield 137, 3) := by decide +kernel
theorem d_M_output_5 : decode prog_12_method_10_code 5 = .ok (.aload_n 0, 1) := by decide +kernel
theorem d_M_output_6 : decode prog_12_method_10_code 6 = .ok (.iconst 4, 1) := by decide +kernel
theorem d_M_output_7 : decode prog_12_method_10_code 7 = .ok (.iconst 1, 1) := by decide +kernel
theorem d_M_output_8 : decode prog_12_method_10_code 8 = .ok (.invokevirtual 151, 3) := by decide +kernel
theorem d_M_output_11 : decode prog_12_method_10_code 11 = .ok (.ireturn, 1) := by decide +kernel
theorem d_M_noPin_0 : decode prog_12_method_11_code 0 = .ok (.iload_n 1, 1) := by decide +kernel
theorem d_M_noPin_1 : decode prog_12_method_11_code 1 = .ok (.ifCond .lt 25, 3) := by decide +kernel
theorem d_M_noPin_4 : decode prog_12_method_11_code 4 = .ok (.iload_n 1, 1) := by decide +kernel
theorem d_M_noPin_5 : decode prog_12_method_11_code 5 = .ok (.aload_n 0, 1) := by decide +kernel
theorem d_M_noPin_6 : decode prog_12_method_11_code 6 = .ok (.getfield 16, 3) := by decide +kernel
theorem d_M_noPin_9 : decode prog_12_method_11_code 9 = .ok (.if_icmp .ge 17, 3) := by decide +kernel
theorem d_M_noPin_12 : decode prog_12_method_11_code 12 = .ok (.iload_n 2, 1) := by decide +kernel
theorem d_M_noPin_13 : decode prog_12_method_11_code 13 = .ok (.ifCond .lt 13, 3) := by decide +kernel
theorem d_M_noPin_16 : decode prog_12_method_11_code 16 = .ok (.iload_n 2, 1) := by decide +kernel
theorem d_M_noPin_17 : decode prog_12_method_11_code 17 = .ok (.aload_n 0, 1) := by decide +kernel
theorem d_M_noPin_18 : decode prog_12_method_11_code 18 = .ok (.getfield 23, 3) := by decide +kernel
theorem d_M_noPin_21 : decode prog_12_method_11_code 21 = .ok (.iload_n 1, 1) := by decide +kernel
theorem d_M_noPin_22 : decode prog_12_method_11_code 22 = .ok (.iaload, 1) := by decide +kernel
theorem d_M_noPin_23 : decode prog_12_method_11_code 23 = .ok (.if_icmp .lt 7, 3) := by decide +kernel
theorem d_M_noPin_26 : decode prog_12_method_11_code 26 = .ok (.iconst 1, 1) := by decide +kernel
theorem d_M_noPin_27 : decode prog_12_method_11_code 27 = .ok (.goto 4, 3) := by decide +kernel
theorem d_M_noPin_30 : decode prog_12_method_11_code 30 = .ok (.iconst 0, 1) := by decide +kernel
theorem d_M_noPin_31 : decode prog_12_method_11_code 31 = .ok (.ireturn, 1) := by decide +kernel
theorem d_M_wire_0 : decode prog_12_method_12_code 0 = .ok (.aload_n 0, 1) := by decide +kernel
theorem d_M_wire_1 : decode prog_12_method_12_code 1 = .ok (.aload_n 0, 1) := by decide +kernel
theorem d_M_wire_2 : decode prog_12_method_12_code 2 = .ok (.iload_n 1, 1) := by decide +kernel
theorem d_M_wire_3 : decode prog_12_method_12_code 3 = .ok (.iload_n 2, 1) := by decide +kernel
theorem d_M_wire_4 : decode prog_12_method_12_code 4 = .ok (.invokevirtual 155, 3) := by decide +kernel
theorem d_M_wire_7 : decode prog_12_method_12_code 7 = .ok (.ifCond .ne 39, 3) := by decide +kernel
theorem d_M_wire_10 : decode prog_12_method_12_code 10 = .ok (.iload_n 3, 1) := by decide +kernel
theorem d_M_wire_11 : decode prog_12_method_12_code 11 = .ok (.ifCond .lt 35, 3) := by decide +kernel
theorem d_M_wire_14 : decode prog_12_method_12_code 14 = .ok (.iload_n 3, 1) := by decide +kernel
theorem d_M_wire_15 : decode prog_12_method_12_code 15 = .ok (.aload_n 0, 1) := by decide +kernel
theorem d_M_wire_16 : decode prog_12_method_12_code 16 = .ok (.getfield 16, 3) := by decide +kernel
theorem d_M_wire_19 : decode prog_12_method_12_code 19 = .ok (.if_icmp .ge 27, 3) := by decide +kernel
theorem d_M_wire_22 : decode prog_12_method_12_code 22 = .ok (.aload_n 0, 1) := by decide +kernel
theorem d_M_wire_23 : decode prog_12_method_12_code 23 = .ok (.getfield 19, 3) := by decide +kernel
theorem d_M_wire_26 : decode prog_12_method_12_code 26 = .ok (.iload_n 3, 1) := by decide +kernel
theorem d_M_wire_27 : decode prog_12_method_12_code 27 = .ok (.iaload, 1) := by decide +kernel
theorem d_M_wire_28 : decode prog_12_method_12_code 28 = .ok (.iconst 4, 1) := by decide +kernel
theorem d_M_wire_29 : decode prog_12_method_12_code 29 = .ok (.if_icmp .eq 17, 3) := by decide +kernel
theorem d_M_wire_32 : decode prog_12_method_12_code 32 = .ok (.iload 4, 2) := by decide +kernel
theorem d_M_wire_34 : decode prog_12_method_12_code 34 = .ok (.iload 5, 2) := by decide +kernel
theorem d_M_wire_36 : decode prog_12_method_12_code 36 = .ok (.sipush 10000, 3) := by decide +kernel
theorem d_M_wire_39 : decode prog_12_method_12_code 39 = .ok (.iconst 0, 1) := by decide +kernel
theorem d_M_wire_40 : decode prog_12_method_12_code 40 = .ok (.invokestatic 147, 3) := by decide +kernel
theorem d_M_wire_43 : decode prog_12_method_12_code 43 = .ok (.ifCond .eq 7, 3) := by decide +kernel
theorem d_M_wire_46 : decode prog_12_method_12_code 46 = .ok (.iconst 1, 1) := by decide +kernel
theorem d_M_wire_47 : decode prog_12_method_12_code 47 = .ok (.goto 4, 3) := by decide +kernel
theorem d_M_wire_50 : decode prog_12_method_12_code 50 = .ok (.iconst 0, 1) := by decide +kernel
theorem d_M_wire_51 : decode prog_12_method_12_code 51 = .ok (.putfield 137, 3) := by decide +kernel
theorem d_M_wire_54 : decode prog_12_method_12_code 54 = .ok (.aload_n 0, 1) := by decide +kernel
theorem d_M_wire_55 : decode prog_12_method_12_code 55 = .ok (.getfield 137, 3) := by decide +kernel
theorem d_M_wire_58 : decode prog_12_method_12_code 58 = .ok (.ifCond .ne 43, 3) := by decide +kernel
theorem d_M_wire_61 : decode prog_12_method_12_code 61 = .ok (.aload_n 0, 1) := by decide +kernel
theorem d_M_wire_62 : decode prog_12_method_12_code 62 = .ok (.getfield 26, 3) := by decide +kernel
theorem d_M_wire_65 : decode prog_12_method_12_code 65 = .ok (.iconst 3, 1) := by decide +kernel
theorem d_M_wire_66 : decode prog_12_method_12_code 66 = .ok (.iload_n 1, 1) := by decide +kernel
theorem d_M_wire_67 : decode prog_12_method_12_code 67 = .ok (.imul, 1) := by decide +kernel
theorem d_M_wire_68 : decode prog_12_method_12_code 68 = .ok (.iload_n 2, 1) := by decide +kernel
theorem d_M_wire_69 : decode prog_12_method_12_code 69 = .ok (.iadd, 1) := by decide +kernel
theorem d_M_wire_70 : decode prog_12_method_12_code 70 = .ok (.iload_n 3, 1) := by decide +kernel
theorem d_M_wire_71 : decode prog_12_method_12_code 71 = .ok (.iastore, 1) := by decide +kernel
theorem d_M_wire_72 : decode prog_12_method_12_code 72 = .ok (.aload_n 0, 1) := by decide +kernel
theorem d_M_wire_73 : decode prog_12_method_12_code 73 = .ok (.getfield 29, 3) := by decide +kernel
theorem d_M_wire_76 : decode prog_12_method_12_code 76 = .ok (.iconst 3, 1) := by decide +kernel
theorem d_M_wire_77 : decode prog_12_method_12_code 77 = .ok (.iload_n 1, 1) := by decide +kernel
theorem d_M_wire_78 : decode prog_12_method_12_code 78 = .ok (.imul, 1) := by decide +kernel
theorem d_M_wire_79 : decode prog_12_method_12_code 79 = .ok (.iload_n 2, 1) := by decide +kernel
theorem d_M_wire_80 : decode prog_12_method_12_code 80 = .ok (.iadd, 1) := by decide +kernel
theorem d_M_wire_81 : decode prog_12_method_12_code 81 = .ok (.iload 4, 2) := by decide +kernel
theorem d_M_wire_83 : decode prog_12_method_12_code 83 = .ok (.iastore, 1) := by decide +kernel
theorem d_M_wire_84 : decode prog_12_method_12_code 84 = .ok (.aload_n 0, 1) := by decide +kernel
theorem d_M_wire_85 : decode prog_12_method_12_code 85 = .ok (.getfield 32, 3) := by decide +kernel
theorem d_M_wire_88 : decode prog_12_method_12_code 88 = .ok (.iconst 3, 1) := by decide +kernel
theorem d_M_wire_89 : decode prog_12_method_12_code 89 = .ok (.iload_n 1, 1) := by decide +kernel
theorem d_M_wire_90 : decode prog_12_method_12_code 90 = .ok (.imul, 1) := by decide +kernel
theorem d_M_wire_91 : decode prog_12_method_12_code 91 = .ok (.iload_n 2, 1) := by decide +kernel
theorem d_M_wire_92 : decode prog_12_method_12_code 92 = .ok (.iadd, 1) := by decide +kernel
theorem d_M_wire_93 : decode prog_12_method_12_code 93 = .ok (.iload 5, 2) := by decide +kernel
theorem d_M_wire_95 : decode prog_12_method_12_code 95 = .ok (.iastore, 1) := by decide +kernel
theorem d_M_wire_96 : decode prog_12_method_12_code 96 = .ok (.aload_n 0, 1) := by decide +kernel
theorem d_M_wire_97 : decode prog_12_method_12_code 97 = .ok (.iconst 0, 1) := by decide +kernel
theorem d_M_wire_98 : decode prog_12_method_12_code 98 = .ok (.putfield 141, 3) := by decide +kernel
theorem d_M_wire_101 : decode prog_12_method_12_code 101 = .ok (.return_, 1) := by decide +kernel
theorem d_M_sense_0 : decode prog_12_method_13_code 0 = .ok (.aload_n 0, 1) := by decide +kernel
theorem d_M_sense_1 : decode prog_12_method_13_code 1 = .ok (.aload_n 0, 1) := by decide +kernel
theorem d_M_sense_2 : decode prog_12_method_13_code 2 = .ok (.iload_n 1, 1) := by decide +kernel
theorem d_M_sense_3 : decode prog_12_method_13_code 3 = .ok (.iload_n 2, 1) := by decide +kernel
theorem d_M_sense_4 : decode prog_12_method_13_code 4 = .ok (.invokevirtual 155, 3) := by decide +kernel
theorem d_M_sense_7 : decode prog_12_method_13_code 7 = .ok (.ifCond .ne 22, 3) := by decide +kernel
theorem d_M_sense_10 : decode prog_12_method_13_code 10 = .ok (.aload_n 0, 1) := by decide +kernel
theorem d_M_sense_11 : decode prog_12_method_13_code 11 = .ok (.getfield 19, 3) := by decide +kernel
theorem d_M_sense_14 : decode prog_12_method_13_code 14 = .ok (.iload_n 1, 1) := by decide +kernel
theorem d_M_sense_15 : decode prog_12_method_13_code 15 = .ok (.iaload, 1) := by decide +kernel
theorem d_M_sense_16 : decode prog_12_method_13_code 16 = .ok (.iconst 2, 1) := by decide +kernel
theorem d_M_sense_17 : decode prog_12_method_13_code 17 = .ok (.if_icmp .ne 12, 3) := by decide +kernel
theorem d_M_sense_20 : decode prog_12_method_13_code 20 = .ok (.iload_n 3, 1) := by decide +kernel
theorem d_M_sense_21 : decode prog_12_method_13_code 21 = .ok (.ifCond .lt 8, 3) := by decide +kernel
theorem d_M_sense_24 : decode prog_12_method_13_code 24 = .ok (.iload_n 3, 1) := by decide +kernel
theorem d_M_sense_25 : decode prog_12_method_13_code 25 = .ok (.iconst 2, 1) := by decide +kernel
theorem d_M_sense_26 : decode prog_12_method_13_code 26 = .ok (.if_icmp .le 7, 3) := by decide +kernel
theorem d_M_sense_29 : decode prog_12_method_13_code 29 = .ok (.iconst 1, 1) := by decide +kernel
theorem d_M_sense_30 : decode prog_12_method_13_code 30 = .ok (.goto 4, 3) := by decide +kernel
theorem d_M_sense_33 : decode prog_12_method_13_code 33 = .ok (.iconst 0, 1) := by decide +kernel
theorem d_M_sense_34 : decode prog_12_method_13_code 34 = .ok (.putfield 137, 3) := by decide +kernel
theorem d_M_sense_37 : decode prog_12_method_13_code 37 = .ok (.aload_n 0, 1) := by decide +kernel
theorem d_M_sense_38 : decode prog_12_method_13_code 38 = .ok (.getfield 137, 3) := by decide +kernel
theorem d_M_sense_41 : decode prog_12_method_13_code 41 = .ok (.ifCond .ne 19, 3) := by decide +kernel
theorem d_M_sense_44 : decode prog_12_method_13_code 44 = .ok (.aload_n 0, 1) := by decide +kernel
theorem d_M_sense_45 : decode prog_12_method_13_code 45 = .ok (.getfield 35, 3) := by decide +kernel
theorem d_M_sense_48 : decode prog_12_method_13_code 48 = .ok (.iconst 3, 1) := by decide +kernel
theorem d_M_sense_49 : decode prog_12_method_13_code 49 = .ok (.iload_n 1, 1) := by decide +kernel
theorem d_M_sense_50 : decode prog_12_method_13_code 50 = .ok (.imul, 1) := by decide +kernel
theorem d_M_sense_51 : decode prog_12_method_13_code 51 = .ok (.iload_n 2, 1) := by decide +kernel
theorem d_M_sense_52 : decode prog_12_method_13_code 52 = .ok (.iadd, 1) := by decide +kernel
theorem d_M_sense_53 : decode prog_12_method_13_code 53 = .ok (.iload_n 3, 1) := by decide +kernel
theorem d_M_sense_54 : decode prog_12_method_13_code 54 = .ok (.iastore, 1) := by decide +kernel
theorem d_M_sense_55 : decode prog_12_method_13_code 55 = .ok (.aload_n 0, 1) := by decide +kernel
theorem d_M_sense_56 : decode prog_12_method_13_code 56 = .ok (.iconst 0, 1) := by decide +kernel
theorem d_M_sense_57 : decode prog_12_method_13_code 57 = .ok (.putfield 141, 3) := by decide +kernel
theorem d_M_sense_60 : decode prog_12_method_13_code 60 = .ok (.return_, 1) := by decide +kernel
theorem d_M_delay_0 : decode prog_12_method_14_code 0 = .ok (.aload_n 0, 1) := by decide +kernel
theorem d_M_delay_1 : decode prog_12_method_14_code 1 = .ok (.aload_n 0, 1) := by decide +kernel
theorem d_M_delay_2 : decode prog_12_method_14_code 2 = .ok (.iload_n 1, 1) := by decide +kernel
theorem d_M_delay_3 : decode prog_12_method_14_code 3 = .ok (.iload_n 2, 1) := by decide +kernel
theorem d_M_delay_4 : decode prog_12_method_14_code 4 = .ok (.invokevirtual 155, 3) := by decide +kernel
theorem d_M_delay_7 : decode prog_12_method_14_code 7 = .ok (.ifCond .ne 51, 3) := by decide +kernel
theorem d_M_delay_10 : decode prog_12_method_14_code 10 = .ok (.aload_n 0, 1) := by decide +kernel
theorem d_M_delay_11 : decode prog_12_method_14_code 11 = .ok (.getfield 19, 3) := by decide +kernel
theorem d_M_delay_14 : decode prog_12_method_14_code 14 = .ok (.iload_n 1, 1) := by decide +kernel
theorem d_M_delay_15 : decode prog_12_method_14_code 15 = .ok (.iaload, 1) := by decide +kernel
theorem d_M_delay_16 : decode prog_12_method_14_code 16 = .ok (.iconst 2, 1) := by decide +kernel
theorem d_M_delay_17 : decode prog_12_method_14_code 17 = .ok (.if_icmp .eq 18, 3) := by decide +kernel
theorem d_M_delay_20 : decode prog_12_method_14_code 20 = .ok (.aload_n 0, 1) := by decide +kernel
theorem d_M_delay_21 : decode prog_12_method_14_code 21 = .ok (.getfield 19, 3) := by decide +kernel
theorem d_M_delay_24 : decode prog_12_method_14_code 24 = .ok (.iload_n 1, 1) := by decide +kernel
theorem d_M_delay_25 : decode prog_12_method_14_code 25 = .ok (.iaload, 1) := by decide +kernel
theorem d_M_delay_26 : decode prog_12_method_14_code 26 = .ok (.iconst 3, 1) := by decide +kernel
theorem d_M_delay_27 : decode prog_12_method_14_code 27 = .ok (.if_icmp .ne 31, 3) := by decide +kernel
theorem d_M_delay_30 : decode prog_12_method_14_code 30 = .ok (.iload_n 2, 1) := by decide +kernel
theorem d_M_delay_31 : decode prog_12_method_14_code 31 = .ok (.iconst 1, 1) := by decide +kernel
theorem d_M_delay_32 : decode prog_12_method_14_code 32 = .ok (.if_icmp .ne 26, 3) := by decide +kernel
theorem d_M_delay_35 : decode prog_12_method_14_code 35 = .ok (.iload_n 3, 1) := by decide +kernel
theorem d_M_delay_36 : decode prog_12_method_14_code 36 = .ok (.ifCond .lt 22, 3) := by decide +kernel
theorem d_M_delay_39 : decode prog_12_method_14_code 39 = .ok (.iload_n 3, 1) := by decide +kernel
theorem d_M_delay_40 : decode prog_12_method_14_code 40 = .ok (.iconst 1, 1) := by decide +kernel
theorem d_M_delay_41 : decode prog_12_method_14_code 41 = .ok (.if_icmp .gt 17, 3) := by decide +kernel
theorem d_M_delay_44 : decode prog_12_method_14_code 44 = .ok (.iload 4, 2) := by decide +kernel
theorem d_M_delay_46 : decode prog_12_method_14_code 46 = .ok (.iload 5, 2) := by decide +kernel
theorem d_M_delay_48 : decode prog_12_method_14_code 48 = .ok (.sipush 10000, 3) := by decide +kernel
theorem d_M_delay_51 : decode prog_12_method_14_code 51 = .ok (.iconst 0, 1) := by decide +kernel
theorem d_M_delay_52 : decode prog_12_method_14_code 52 = .ok (.invokestatic 147, 3) := by decide +kernel
theorem d_M_delay_55 : decode prog_12_method_14_code 55 = .ok (.ifCond .eq 7, 3) := by decide +kernel
theorem d_M_delay_58 : decode prog_12_method_14_code 58 = .ok (.iconst 1, 1) := by decide +kernel
theorem d_M_delay_59 : decode prog_12_method_14_code 59 = .ok (.goto 4, 3) := by decide +kernel
theorem d_M_delay_62 : decode prog_12_method_14_code 62 = .ok (.iconst 0, 1) := by decide +kernel
theorem d_M_delay_63 : decode prog_12_method_14_code 63 = .ok (.putfield 137, 3) := by decide +kernel
theorem d_M_delay_66 : decode prog_12_method_14_code 66 = .ok (.aload_n 0, 1) := by decide +kernel
theorem d_M_delay_67 : decode prog_12_method_14_code 67 = .ok (.getfield 137, 3) := by decide +kernel
theorem d_M_delay_70 : decode prog_12_method_14_code 70 = .ok (.ifCond .ne 42, 3) := by decide +kernel
theorem d_M_delay_73 : decode prog_12_method_14_code 73 = .ok (.aload_n 0, 1) := by decide +kernel
theorem d_M_delay_74 : decode prog_12_method_14_code 74 = .ok (.getfield 38, 3) := by decide +kernel
theorem d_M_delay_77 : decode prog_12_method_14_code 77 = .ok (.bipush 6, 2) := by decide +kernel
theorem d_M_delay_79 : decode prog_12_method_14_code 79 = .ok (.iload_n 1, 1) := by decide +kernel
theorem d_M_delay_80 : decode prog_12_method_14_code 80 = .ok (.imul, 1) := by decide +kernel
theorem d_M_delay_81 : decode prog_12_method_14_code 81 = .ok (.iconst 2, 1) := by decide +kernel
theorem d_M_delay_82 : decode prog_12_method_14_code 82 = .ok (.iload_n 2, 1) := by decide +kernel
theorem d_M_delay_83 : decode prog_12_method_14_code 83 = .ok (.imul, 1) := by decide +kernel
theorem d_M_delay_84 : decode prog_12_method_14_code 84 = .ok (.iadd, 1) := by decide +kernel
theorem d_M_delay_85 : decode prog_12_method_14_code 85 = .ok (.iload_n 3, 1) := by decide +kernel
theorem d_M_delay_86 : decode prog_12_method_14_code 86 = .ok (.iadd, 1) := by decide +kernel
theorem d_M_delay_87 : decode prog_12_method_14_code 87 = .ok (.iload 4, 2) := by decide +kernel
theorem d_M_delay_89 : decode prog_12_method_14_code 89 = .ok (.iastore, 1) := by decide +kernel
theorem d_M_delay_90 : decode prog_12_method_14_code 90 = .ok (.aload_n 0, 1) := by decide +kernel
theorem d_M_delay_91 : decode prog_12_method_14_code 91 = .ok (.getfield 41, 3) := by decide +kernel
theorem d_M_delay_94 : decode prog_12_method_14_code 94 = .ok (.bipush 6, 2) := by decide +kernel
theorem d_M_delay_96 : decode prog_12_method_14_code 96 = .ok (.iload_n 1, 1) := by decide +kernel
theorem d_M_delay_97 : decode prog_12_method_14_code 97 = .ok (.imul, 1) := by decide +kernel
theorem d_M_delay_98 : decode prog_12_method_14_code 98 = .ok (.iconst 2, 1) := by decide +kernel
theorem d_M_delay_99 : decode prog_12_method_14_code 99 = .ok (.iload_n 2, 1) := by decide +kernel
theorem d_M_delay_100 : decode prog_12_method_14_code 100 = .ok (.imul, 1) := by decide +kernel
theorem d_M_delay_101 : decode prog_12_method_14_code 101 = .ok (.iadd, 1) := by decide +kernel
theorem d_M_delay_102 : decode prog_12_method_14_code 102 = .ok (.iload_n 3, 1) := by decide +kernel
theorem d_M_delay_103 : decode prog_12_method_14_code 103 = .ok (.iadd, 1) := by decide +kernel
theorem d_M_delay_104 : decode prog_12_method_14_code 104 = .ok (.iload 5, 2) := by decide +kernel
theorem d_M_delay_106 : decode prog_12_method_14_code 106 = .ok (.iastore, 1) := by decide +kernel
theorem d_M_delay_107 : decode prog_12_method_14_code 107 = .ok (.aload_n 0, 1) := by decide +kernel
theorem d_M_delay_108 : decode prog_12_method_14_code 108 = .ok (.iconst 0, 1) := by decide +kernel
theorem d_M_delay_109 : decode prog_12_method_14_code 109 = .ok (.putfield 141, 3) := by decide +kernel
theorem d_M_delay_112 : decode prog_12_method_14_code 112 = .ok (.return_, 1) := by decide +kernel
theorem d_M_isEnd_0 : decode prog_12_method_15_code 0 = .ok (.iload_n 1, 1) := by decide +kernel
theorem d_M_isEnd_1 : decode prog_12_method_15_code 1 = .ok (.ifCond .lt 35, 3) := by decide +kernel
theorem d_M_isEnd_4 : decode prog_12_method_15_code 4 = .ok (.iload_n 1, 1) := by decide +kernel
theorem d_M_isEnd_5 : decode prog_12_method_15_code 5 = .ok (.aload_n 0, 1) := by decide +kernel
theorem d_M_isEnd_6 : decode prog_12_method_15_code 6 = .ok (.getfield 16, 3) := by decide +kernel
theorem d_M_isEnd_9 : decode prog_12_method_15_code 9 = .ok (.if_icmp .ge 27, 3) := by decide +kernel
theorem d_M_isEnd_12 : decode prog_12_method_15_code 12 = .ok (.aload_n 0, 1) := by decide +kernel
theorem d_M_isEnd_13 : decode prog_12_method_15_code 13 = .ok (.getfield 19, 3) := by decide +kernel
theorem d_M_isEnd_16 : decode prog_12_method_15_code 16 = .ok (.iload_n 1, 1) := by decide +kernel
theorem d_M_isEnd_17 : decode prog_12_method_15_code 17 = .ok (.iaload, 1) := by decide +kernel
theorem d_M_isEnd_18 : decode prog_12_method_15_code 18 = .ok (.iconst 3, 1) := by decide +kernel
theorem d_M_isEnd_19 : decode prog_12_method_15_code 19 = .ok (.if_icmp .eq 13, 3) := by decide +kernel
theorem d_M_isEnd_22 : decode prog_12_method_15_code 22 = .ok (.aload_n 0, 1) := by decide +kernel
theorem d_M_isEnd_23 : decode prog_12_method_15_code 23 = .ok (.getfield 19, 3) := by decide +kernel
theorem d_M_isEnd_26 : decode prog_12_method_15_code 26 = .ok (.iload_n 1, 1) := by decide +kernel
theorem d_M_isEnd_27 : decode prog_12_method_15_code 27 = .ok (.iaload, 1) := by decide +kernel
theorem d_M_isEnd_28 : decode prog_12_method_15_code 28 = .ok (.iconst 4, 1) := by decide +kernel
theorem d_M_isEnd_29 : decode prog_12_method_15_code 29 = .ok (.if_icmp .ne 7, 3) := by decide +kernel
theorem d_M_isEnd_32 : decode prog_12_method_15_code 32 = .ok (.iconst 1, 1) := by decide +kernel
theorem d_M_isEnd_33 : decode prog_12_method_15_code 33 = .ok (.goto 4, 3) := by decide +kernel
theorem d_M_isEnd_36 : decode prog_12_method_15_code 36 = .ok (.iconst 0, 1) := by decide +kernel
theorem d_M_isEnd_37 : decode prog_12_method_15_code 37 = .ok (.ireturn, 1) := by decide +kernel
theorem d_M_check_0 : decode prog_12_method_16_code 0 = .ok (.aload_n 0, 1) := by decide +kernel
theorem d_M_check_1 : decode prog_12_method_16_code 1 = .ok (.aload_n 0, 1) := by decide +kernel
theorem d_M_check_2 : decode prog_12_method_16_code 2 = .ok (.iload_n 1, 1) := by decide +kernel
theorem d_M_check_3 : decode prog_12_method_16_code 3 = .ok (.invokevirtual 159, 3) := by decide +kernel
theorem d_M_check_6 : decode prog_12_method_16_code 6 = .ok (.ifCond .eq 42, 3) := by decide +kernel
theorem d_M_check_9 : decode prog_12_method_16_code 9 = .ok (.iload_n 2, 1) := by decide +kernel
theorem d_M_check_10 : decode prog_12_method_16_code 10 = .ok (.ifCond .lt 38, 3) := by decide +kernel
theorem d_M_check_13 : decode prog_12_method_16_code 13 = .ok (.iload_n 2, 1) := by decide +kernel
theorem d_M_check_14 : decode prog_12_method_16_code 14 = .ok (.iconst 1, 1) := by decide +kernel
theorem d_M_check_15 : decode prog_12_method_16_code 15 = .ok (.if_icmp .gt 33, 3) := by decide +kernel
theorem d_M_check_18 : decode prog_12_method_16_code 18 = .ok (.iload_n 3, 1) := by decide +kernel
theorem d_M_check_19 : decode prog_12_method_16_code 19 = .ok (.sipush (-10000), 3) := by decide +kernel
theorem d_M_check_22 : decode prog_12_method_16_code 22 = .ok (.if_icmp .lt 26, 3) := by decide +kernel
theorem d_M_check_25 : decode prog_12_method_16_code 25 = .ok (.iload_n 3, 1) := by decide +kernel
theorem d_M_check_26 : decode prog_12_method_16_code 26 = .ok (.sipush 10000, 3) := by decide +kernel
theorem d_M_check_29 : decode prog_12_method_16_code 29 = .ok (.if_icmp .gt 19, 3) := by decide +kernel
theorem d_M_check_32 : decode prog_12_method_16_code 32 = .ok (.iload 4, 2) := by decide +kernel
theorem d_M_check_34 : decode prog_12_method_16_code 34 = .ok (.sipush (-10000), 3) := by decide +kernel
theorem d_M_check_37 : decode prog_12_method_16_code 37 = .ok (.if_icmp .lt 11, 3) := by decide +kernel
theorem d_M_check_40 : decode prog_12_method_16_code 40 = .ok (.iload 4, 2) := by decide +kernel
theorem d_M_check_42 : decode prog_12_method_16_code 42 = .ok (.sipush 10000, 3) := by decide +kernel
theorem d_M_check_45 : decode prog_12_method_16_code 45 = .ok (.if_icmp .le 7, 3) := by decide +kernel
theorem d_M_check_48 : decode prog_12_method_16_code 48 = .ok (.iconst 1, 1) := by decide +kernel
theorem d_M_check_49 : decode prog_12_method_16_code 49 = .ok (.goto 4, 3) := by decide +kernel
theorem d_M_check_52 : decode prog_12_method_16_code 52 = .ok (.iconst 0, 1) := by decide +kernel
theorem d_M_check_53 : decode prog_12_method_16_code 53 = .ok (.putfield 137, 3) := by decide +kernel
theorem d_M_check_56 : decode prog_12_method_16_code 56 = .ok (.aload_n 0, 1) := by decide +kernel
theorem d_M_check_57 : decode prog_12_method_16_code 57 = .ok (.getfield 137, 3) := by decide +kernel
theorem d_M_check_60 : decode prog_12_method_16_code 60 = .ok (.ifCond .ne 31, 3) := by decide +kernel
theorem d_M_check_63 : decode prog_12_method_16_code 63 = .ok (.aload_n 0, 1) := by decide +kernel
theorem d_M_check_64 : decode prog_12_method_16_code 64 = .ok (.getfield 44, 3) := by decide +kernel
theorem d_M_check_67 : decode prog_12_method_16_code 67 = .ok (.iconst 2, 1) := by decide +kernel
theorem d_M_check_68 : decode prog_12_method_16_code 68 = .ok (.iload_n 1, 1) := by decide +kernel
theorem d_M_check_69 : decode prog_12_method_16_code 69 = .ok (.imul, 1) := by decide +kernel
theorem d_M_check_70 : decode prog_12_method_16_code 70 = .ok (.iload_n 2, 1) := by decide +kernel
theorem d_M_check_71 : decode prog_12_method_16_code 71 = .ok (.iadd, 1) := by decide +kernel
theorem d_M_check_72 : decode prog_12_method_16_code 72 = .ok (.iload_n 3, 1) := by decide +kernel
theorem d_M_check_73 : decode prog_12_method_16_code 73 = .ok (.iastore, 1) := by decide +kernel
theorem d_M_check_74 : decode prog_12_method_16_code 74 = .ok (.aload_n 0, 1) := by decide +kernel
theorem d_M_check_75 : decode prog_12_method_16_code 75 = .ok (.getfield 47, 3) := by decide +kernel
theorem d_M_check_78 : decode prog_12_method_16_code 78 = .ok (.iconst 2, 1) := by decide +kernel
theorem d_M_check_79 : decode prog_12_method_16_code 79 = .ok (.iload_n 1, 1) := by decide +kernel
theorem d_M_check_80 : decode prog_12_method_16_code 80 = .ok (.imul, 1) := by decide +kernel
theorem d_M_check_81 : decode prog_12_method_16_code 81 = .ok (.iload_n 2, 1) := by decide +kernel
theorem d_M_check_82 : decode prog_12_method_16_code 82 = .ok (.iadd, 1) := by decide +kernel
theorem d_M_check_83 : decode prog_12_method_16_code 83 = .ok (.iload 4, 2) := by decide +kernel
theorem d_M_check_85 : decode prog_12_method_16_code 85 = .ok (.iastore, 1) := by decide +kernel
theorem d_M_check_86 : decode prog_12_method_16_code 86 = .ok (.aload_n 0, 1) := by decide +kernel
theorem d_M_check_87 : decode prog_12_method_16_code 87 = .ok (.iconst 0, 1) := by decide +kernel
theorem d_M_check_88 : decode prog_12_method_16_code 88 = .ok (.putfield 141, 3) := by decide +kernel
theorem d_M_check_91 : decode prog_12_method_16_code 91 = .ok (.return_, 1) := by decide +kernel
theorem d_M_isGate_0 : decode prog_12_method_17_code 0 = .ok (.iload_n 1, 1) := by decide +kernel
theorem d_M_isGate_1 : decode prog_12_method_17_code 1 = .ok (.ifCond .lt 17, 3) := by decide +kernel
theorem d_M_isGate_4 : decode prog_12_method_17_code 4 = .ok (.aload_n 0, 1) := by decide +kernel
theorem d_M_isGate_5 : decode prog_12_method_17_code 5 = .ok (.getfield 19, 3) := by decide +kernel
theorem d_M_isGate_8 : decode prog_12_method_17_code 8 = .ok (.iload_n 1, 1) := by decide +kernel
theorem d_M_isGate_9 : decode prog_12_method_17_code 9 = .ok (.iaload, 1) := by decide +kernel
theorem d_M_isGate_10 : decode prog_12_method_17_code 10 = .ok (.iconst 2, 1) := by decide +kernel
theorem d_M_isGate_11 : decode prog_12_method_17_code 11 = .ok (.if_icmp .ne 7, 3) := by decide +kernel
theorem d_M_isGate_14 : decode prog_12_method_17_code 14 = .ok (.iconst 1, 1) := by decide +kernel
theorem d_M_isGate_15 : decode prog_12_method_17_code 15 = .ok (.goto 4, 3) := by decide +kernel
theorem d_M_isGate_18 : decode prog_12_method_17_code 18 = .ok (.iconst 0, 1) := by decide +kernel
theorem d_M_isGate_19 : decode prog_12_method_17_code 19 = .ok (.ireturn, 1) := by decide +kernel
theorem d_M_isRound_0 : decode prog_12_method_18_code 0 = .ok (.iconst 0, 1) := by decide +kernel
theorem d_M_isRound_1 : decode prog_12_method_18_code 1 = .ok (.istore_n 2, 1) := by decide +kernel
theorem d_M_isRound_2 : decode prog_12_method_18_code 2 = .ok (.iload_n 2, 1) := by decide +kernel
theorem d_M_isRound_3 : decode prog_12_method_18_code 3 = .ok (.bipush 96, 2) := by decide +kernel
theorem d_M_isRound_5 : decode prog_12_method_18_code 5 = .ok (.if_icmp .ge 16, 3) := by decide +kernel
theorem d_M_isRound_8 : decode prog_12_method_18_code 8 = .ok (.aload_n 0, 1) := by decide +kernel
theorem d_M_isRound_9 : decode prog_12_method_18_code 9 = .ok (.getfield 80, 3) := by decide +kernel
theorem d_M_isRound_12 : decode prog_12_method_18_code 12 = .ok (.iload_n 2, 1) := by decide +kernel
theorem d_M_isRound_13 : decode prog_12_method_18_code 13 = .ok (.iconst 0, 1) := by decide +kernel
theorem d_M_isRound_14 : decode prog_12_method_18_code 14 = .ok (.bastore, 1) := by decide +kernel
theorem d_M_isRound_15 : decode prog_12_method_18_code 15 = .ok (.iinc 2 1, 3) := by decide +kernel
theorem d_M_isRound_18 : decode prog_12_method_18_code 18 = .ok (.goto (-16), 3) := by decide +kernel
theorem d_M_isRound_21 : decode prog_12_method_18_code 21 = .ok (.aload_n 0, 1) := by decide +kernel
theorem d_M_isRound_22 : decode prog_12_method_18_code 22 = .ok (.getfield 80, 3) := by decide +kernel
theorem d_M_isRound_25 : decode prog_12_method_18_code 25 = .ok (.iload_n 1, 1) := by decide +kernel
theorem d_M_isRound_26 : decode prog_12_method_18_code 26 = .ok (.iconst 1, 1) := by decide +kernel
theorem d_M_isRound_27 : decode prog_12_method_18_code 27 = .ok (.bastore, 1) := by decide +kernel
theorem d_M_isRound_28 : decode prog_12_method_18_code 28 = .ok (.iconst 1, 1) := by decide +kernel
theorem d_M_isRound_29 : decode prog_12_method_18_code 29 = .ok (.istore_n 2, 1) := by decide +kernel
theorem d_M_isRound_30 : decode prog_12_method_18_code 30 = .ok (.iload_n 2, 1) := by decide +kernel
theorem d_M_isRound_31 : decode prog_12_method_18_code 31 = .ok (.ifCond .eq 123, 3) := by decide +kernel
theorem d_M_isRound_34 : decode prog_12_method_18_code 34 = .ok (.iconst 0, 1) := by decide +kernel
theorem d_M_isRound_35 : decode prog_12_method_18_code 35 = .ok (.istore_n 2, 1) := by decide +kernel
theorem d_M_isRound_36 : decode prog_12_method_18_code 36 = .ok (.iconst 0, 1) := by decide +kernel
theorem d_M_isRound_37 : decode prog_12_method_18_code 37 = .ok (.istore_n 3, 1) := by decide +kernel
theorem d_M_isRound_38 : decode prog_12_method_18_code 38 = .ok (.iload_n 3, 1) := by decide +kernel
theorem d_M_isRound_39 : decode prog_12_method_18_code 39 = .ok (.aload_n 0, 1) := by decide +kernel
theorem d_M_isRound_40 : decode prog_12_method_18_code 40 = .ok (.getfield 16, 3) := by decide +kernel
theorem d_M_isRound_43 : decode prog_12_method_18_code 43 = .ok (.if_icmp .ge 108, 3) := by decide +kernel
theorem d_M_isRound_46 : decode prog_12_method_18_code 46 = .ok (.iconst 0, 1) := by decide +kernel
theorem d_M_isRound_47 : decode prog_12_method_18_code 47 = .ok (.istore 4, 2) := by decide +kernel
theorem d_M_isRound_49 : decode prog_12_method_18_code 49 = .ok (.iload 4, 2) := by decide +kernel
theorem d_M_isRound_51 : decode prog_12_method_18_code 51 = .ok (.iconst 3, 1) := by decide +kernel
theorem d_M_isRound_52 : decode prog_12_method_18_code 52 = .ok (.if_icmp .ge 93, 3) := by decide +kernel
theorem d_M_isRound_55 : decode prog_12_method_18_code 55 = .ok (.aload_n 0, 1) := by decide +kernel
theorem d_M_isRound_56 : decode prog_12_method_18_code 56 = .ok (.getfield 26, 3) := by decide +kernel
theorem d_M_isRound_59 : decode prog_12_method_18_code 59 = .ok (.iconst 3, 1) := by decide +kernel
theorem d_M_isRound_60 : decode prog_12_method_18_code 60 = .ok (.iload_n 3, 1) := by decide +kernel
theorem d_M_isRound_61 : decode prog_12_method_18_code 61 = .ok (.imul, 1) := by decide +kernel
theorem d_M_isRound_62 : decode prog_12_method_18_code 62 = .ok (.iload 4, 2) := by decide +kernel
theorem d_M_isRound_64 : decode prog_12_method_18_code 64 = .ok (.iadd, 1) := by decide +kernel
theorem d_M_isRound_65 : decode prog_12_method_18_code 65 = .ok (.iaload, 1) := by decide +kernel
theorem d_M_isRound_66 : decode prog_12_method_18_code 66 = .ok (.istore 5, 2) := by decide +kernel
theorem d_M_isRound_68 : decode prog_12_method_18_code 68 = .ok (.aload_n 0, 1) := by decide +kernel
theorem d_M_isRound_69 : decode prog_12_method_18_code 69 = .ok (.iload_n 3, 1) := by decide +kernel
theorem d_M_isRound_70 : decode prog_12_method_18_code 70 = .ok (.invokevirtual 163, 3) := by decide +kernel
theorem d_M_isRound_73 : decode prog_12_method_18_code 73 = .ok (.ifCond .eq 66, 3) := by decide +kernel
theorem d_M_isRound_76 : decode prog_12_method_18_code 76 = .ok (.iload 4, 2) := by decide +kernel
theorem d_M_isRound_78 : decode prog_12_method_18_code 78 = .ok (.aload_n 0, 1) := by decide +kernel
theorem d_M_isRound_79 : decode prog_12_method_18_code 79 = .ok (.getfield 23, 3) := by decide +kernel
theorem d_M_isRound_82 : decode prog_12_method_18_code 82 = .ok (.iload_n 3, 1) := by decide +kernel
theorem d_M_isRound_83 : decode prog_12_method_18_code 83 = .ok (.iaload, 1) := by decide +kernel
theorem d_M_isRound_84 : decode prog_12_method_18_code 84 = .ok (.if_icmp .ge 55, 3) := by decide +kernel
theorem d_M_isRound_87 : decode prog_12_method_18_code 87 = .ok (.aload_n 0, 1) := by decide +kernel
theorem d_M_isRound_88 : decode prog_12_method_18_code 88 = .ok (.iload 5, 2) := by decide +kernel
theorem d_M_isRound_90 : decode prog_12_method_18_code 90 = .ok (.invokevirtual 163, 3) := by decide +kernel
theorem d_M_isRound_93 : decode prog_12_method_18_code 93 = .ok (.ifCond .eq 46, 3) := by decide +kernel
theorem d_M_isRound_96 : decode prog_12_method_18_code 96 = .ok (.aload_n 0, 1) := by decide +kernel
theorem d_M_isRound_97 : decode prog_12_method_18_code 97 = .ok (.getfield 80, 3) := by decide +kernel
theorem d_M_isRound_100 : decode prog_12_method_18_code 100 = .ok (.iload 5, 2) := by decide +kernel
theorem d_M_isRound_102 : decode prog_12_method_18_code 102 = .ok (.baload, 1) := by decide +kernel
theorem d_M_isRound_103 : decode prog_12_method_18_code 103 = .ok (.ifCond .eq 36, 3) := by decide +kernel
theorem d_M_isRound_106 : decode prog_12_method_18_code 106 = .ok (.iload_n 3, 1) := by decide +kernel
theorem d_M_isRound_107 : decode prog_12_method_18_code 107 = .ok (.iload_n 1, 1) := by decide +kernel
theorem d_M_isRound_108 : decode prog_12_method_18_code 108 = .ok (.if_icmp .ne 5, 3) := by decide +kernel
theorem d_M_isRound_111 : decode prog_12_method_18_code 111 = .ok (.iconst 1, 1) := by decide +kernel
theorem d_M_isRound_112 : decode prog_12_method_18_code 112 = .ok (.ireturn, 1) := by decide +kernel
theorem d_M_isRound_113 : decode prog_12_method_18_code 113 = .ok (.iload_n 2, 1) := by decide +kernel
theorem d_M_isRound_114 : decode prog_12_method_18_code 114 = .ok (.ifCond .ne 12, 3) := by decide +kernel
theorem d_M_isRound_117 : decode prog_12_method_18_code 117 = .ok (.aload_n 0, 1) := by decide +kernel
theorem d_M_isRound_118 : decode prog_12_method_18_code 118 = .ok (.getfield 80, 3) := by decide +kernel
theorem d_M_isRound_121 : decode prog_12_method_18_code 121 = .ok (.iload_n 3, 1) := by decide +kernel
theorem d_M_isRound_122 : decode prog_12_method_18_code 122 = .ok (.baload, 1) := by decide +kernel
theorem d_M_isRound_123 : decode prog_12_method_18_code 123 = .ok (.ifCond .ne 7, 3) := by decide +kernel
theorem d_M_isRound_126 : decode prog_12_method_18_code 126 = .ok (.iconst 1, 1) := by decide +kernel
theorem d_M_isRound_127 : decode prog_12_method_18_code 127 = .ok (.goto 4, 3) := by decide +kernel
theorem d_M_isRound_130 : decode prog_12_method_18_code 130 = .ok (.iconst 0, 1) := by decide +kernel
theorem d_M_isRound_131 : decode prog_12_method_18_code 131 = .ok (.istore_n 2, 1) := by decide +kernel
theorem d_M_isRound_132 : decode prog_12_method_18_code 132 = .ok (.aload_n 0, 1) := by decide +kernel
theorem d_M_isRound_133 : decode prog_12_method_18_code 133 = .ok (.getfield 80, 3) := by decide +kernel
