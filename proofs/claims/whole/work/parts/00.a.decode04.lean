theorem d_M_countGoals_237 : decode prog_12_method_37_code 237 = .ok (.iinc 3 1, 3) := by decide +kernel
theorem d_M_countGoals_240 : decode prog_12_method_37_code 240 = .ok (.goto (-115), 3) := by decide +kernel
theorem d_M_countGoals_243 : decode prog_12_method_37_code 243 = .ok (.iinc 1 (-1), 3) := by decide +kernel
theorem d_M_countGoals_246 : decode prog_12_method_37_code 246 = .ok (.goto (-134), 3) := by decide +kernel
theorem d_M_countGoals_249 : decode prog_12_method_37_code 249 = .ok (.aload_n 0, 1) := by decide +kernel
theorem d_M_countGoals_250 : decode prog_12_method_37_code 250 = .ok (.lconst 0, 1) := by decide +kernel
theorem d_M_countGoals_251 : decode prog_12_method_37_code 251 = .ok (.putfield 237, 3) := by decide +kernel
theorem d_M_countGoals_254 : decode prog_12_method_37_code 254 = .ok (.iconst 0, 1) := by decide +kernel
theorem d_M_countGoals_255 : decode prog_12_method_37_code 255 = .ok (.istore_n 1, 1) := by decide +kernel
theorem d_M_countGoals_256 : decode prog_12_method_37_code 256 = .ok (.iload_n 1, 1) := by decide +kernel
theorem d_M_countGoals_257 : decode prog_12_method_37_code 257 = .ok (.aload_n 0, 1) := by decide +kernel
theorem d_M_countGoals_258 : decode prog_12_method_37_code 258 = .ok (.getfield 16, 3) := by decide +kernel
theorem d_M_countGoals_261 : decode prog_12_method_37_code 261 = .ok (.if_icmp .ge 47, 3) := by decide +kernel
theorem d_M_countGoals_264 : decode prog_12_method_37_code 264 = .ok (.iconst 0, 1) := by decide +kernel
theorem d_M_countGoals_265 : decode prog_12_method_37_code 265 = .ok (.istore_n 2, 1) := by decide +kernel
theorem d_M_countGoals_266 : decode prog_12_method_37_code 266 = .ok (.iload_n 2, 1) := by decide +kernel
theorem d_M_countGoals_267 : decode prog_12_method_37_code 267 = .ok (.aload_n 0, 1) := by decide +kernel
theorem d_M_countGoals_268 : decode prog_12_method_37_code 268 = .ok (.iload_n 1, 1) := by decide +kernel
theorem d_M_countGoals_269 : decode prog_12_method_37_code 269 = .ok (.invokevirtual 241, 3) := by decide +kernel
theorem d_M_countGoals_272 : decode prog_12_method_37_code 272 = .ok (.if_icmp .ge 30, 3) := by decide +kernel
theorem d_M_countGoals_275 : decode prog_12_method_37_code 275 = .ok (.aload_n 0, 1) := by decide +kernel
theorem d_M_countGoals_276 : decode prog_12_method_37_code 276 = .ok (.dup, 1) := by decide +kernel
theorem d_M_countGoals_277 : decode prog_12_method_37_code 277 = .ok (.getfield 237, 3) := by decide +kernel
theorem d_M_countGoals_280 : decode prog_12_method_37_code 280 = .ok (.aload_n 0, 1) := by decide +kernel
theorem d_M_countGoals_281 : decode prog_12_method_37_code 281 = .ok (.getfield 99, 3) := by decide +kernel
theorem d_M_countGoals_284 : decode prog_12_method_37_code 284 = .ok (.iconst 2, 1) := by decide +kernel
theorem d_M_countGoals_285 : decode prog_12_method_37_code 285 = .ok (.iload_n 1, 1) := by decide +kernel
theorem d_M_countGoals_286 : decode prog_12_method_37_code 286 = .ok (.imul, 1) := by decide +kernel
theorem d_M_countGoals_287 : decode prog_12_method_37_code 287 = .ok (.iload_n 2, 1) := by decide +kernel
theorem d_M_countGoals_288 : decode prog_12_method_37_code 288 = .ok (.iconst 2, 1) := by decide +kernel
theorem d_M_countGoals_289 : decode prog_12_method_37_code 289 = .ok (.irem, 1) := by decide +kernel
theorem d_M_countGoals_290 : decode prog_12_method_37_code 290 = .ok (.iadd, 1) := by decide +kernel
theorem d_M_countGoals_291 : decode prog_12_method_37_code 291 = .ok (.laload, 1) := by decide +kernel
theorem d_M_countGoals_292 : decode prog_12_method_37_code 292 = .ok (.ladd, 1) := by decide +kernel
theorem d_M_countGoals_293 : decode prog_12_method_37_code 293 = .ok (.putfield 237, 3) := by decide +kernel
theorem d_M_countGoals_296 : decode prog_12_method_37_code 296 = .ok (.iinc 2 1, 3) := by decide +kernel
theorem d_M_countGoals_299 : decode prog_12_method_37_code 299 = .ok (.goto (-33), 3) := by decide +kernel
theorem d_M_countGoals_302 : decode prog_12_method_37_code 302 = .ok (.iinc 1 1, 3) := by decide +kernel
theorem d_M_countGoals_305 : decode prog_12_method_37_code 305 = .ok (.goto (-49), 3) := by decide +kernel
theorem d_M_countGoals_308 : decode prog_12_method_37_code 308 = .ok (.return_, 1) := by decide +kernel
theorem d_M_isBefore_0 : decode prog_12_method_38_code 0 = .ok (.iload_n 1, 1) := by decide +kernel
theorem d_M_isBefore_1 : decode prog_12_method_38_code 1 = .ok (.aload_n 0, 1) := by decide +kernel
theorem d_M_isBefore_2 : decode prog_12_method_38_code 2 = .ok (.getfield 124, 3) := by decide +kernel
theorem d_M_isBefore_5 : decode prog_12_method_38_code 5 = .ok (.iload_n 2, 1) := by decide +kernel
theorem d_M_isBefore_6 : decode prog_12_method_38_code 6 = .ok (.iaload, 1) := by decide +kernel
theorem d_M_isBefore_7 : decode prog_12_method_38_code 7 = .ok (.if_icmp .eq 19, 3) := by decide +kernel
theorem d_M_isBefore_10 : decode prog_12_method_38_code 10 = .ok (.iload_n 1, 1) := by decide +kernel
theorem d_M_isBefore_11 : decode prog_12_method_38_code 11 = .ok (.aload_n 0, 1) := by decide +kernel
theorem d_M_isBefore_12 : decode prog_12_method_38_code 12 = .ok (.getfield 124, 3) := by decide +kernel
theorem d_M_isBefore_15 : decode prog_12_method_38_code 15 = .ok (.iload_n 2, 1) := by decide +kernel
theorem d_M_isBefore_16 : decode prog_12_method_38_code 16 = .ok (.iaload, 1) := by decide +kernel
theorem d_M_isBefore_17 : decode prog_12_method_38_code 17 = .ok (.if_icmp .ge 7, 3) := by decide +kernel
theorem d_M_isBefore_20 : decode prog_12_method_38_code 20 = .ok (.iconst 1, 1) := by decide +kernel
theorem d_M_isBefore_21 : decode prog_12_method_38_code 21 = .ok (.goto 4, 3) := by decide +kernel
theorem d_M_isBefore_24 : decode prog_12_method_38_code 24 = .ok (.iconst 0, 1) := by decide +kernel
theorem d_M_isBefore_25 : decode prog_12_method_38_code 25 = .ok (.ireturn, 1) := by decide +kernel
theorem d_M_isBefore_26 : decode prog_12_method_38_code 26 = .ok (.iconst 0, 1) := by decide +kernel
theorem d_M_isBefore_27 : decode prog_12_method_38_code 27 = .ok (.istore_n 3, 1) := by decide +kernel
theorem d_M_isBefore_28 : decode prog_12_method_38_code 28 = .ok (.iload_n 3, 1) := by decide +kernel
theorem d_M_isBefore_29 : decode prog_12_method_38_code 29 = .ok (.aload_n 0, 1) := by decide +kernel
theorem d_M_isBefore_30 : decode prog_12_method_38_code 30 = .ok (.getfield 244, 3) := by decide +kernel
theorem d_M_isBefore_33 : decode prog_12_method_38_code 33 = .ok (.if_icmp .ge 67, 3) := by decide +kernel
theorem d_M_isBefore_36 : decode prog_12_method_38_code 36 = .ok (.iload_n 3, 1) := by decide +kernel
theorem d_M_isBefore_37 : decode prog_12_method_38_code 37 = .ok (.aload_n 0, 1) := by decide +kernel
theorem d_M_isBefore_38 : decode prog_12_method_38_code 38 = .ok (.getfield 127, 3) := by decide +kernel
theorem d_M_isBefore_41 : decode prog_12_method_38_code 41 = .ok (.iload_n 2, 1) := by decide +kernel
theorem d_M_isBefore_42 : decode prog_12_method_38_code 42 = .ok (.iaload, 1) := by decide +kernel
theorem d_M_isBefore_43 : decode prog_12_method_38_code 43 = .ok (.if_icmp .ge 57, 3) := by decide +kernel
theorem d_M_isBefore_46 : decode prog_12_method_38_code 46 = .ok (.aload_n 0, 1) := by decide +kernel
theorem d_M_isBefore_47 : decode prog_12_method_38_code 47 = .ok (.getfield 118, 3) := by decide +kernel
theorem d_M_isBefore_50 : decode prog_12_method_38_code 50 = .ok (.iload_n 3, 1) := by decide +kernel
theorem d_M_isBefore_51 : decode prog_12_method_38_code 51 = .ok (.iaload, 1) := by decide +kernel
theorem d_M_isBefore_52 : decode prog_12_method_38_code 52 = .ok (.aload_n 0, 1) := by decide +kernel
theorem d_M_isBefore_53 : decode prog_12_method_38_code 53 = .ok (.getfield 130, 3) := by decide +kernel
theorem d_M_isBefore_56 : decode prog_12_method_38_code 56 = .ok (.sipush 160, 3) := by decide +kernel
theorem d_M_isBefore_59 : decode prog_12_method_38_code 59 = .ok (.iload_n 2, 1) := by decide +kernel
theorem d_M_isBefore_60 : decode prog_12_method_38_code 60 = .ok (.imul, 1) := by decide +kernel
theorem d_M_isBefore_61 : decode prog_12_method_38_code 61 = .ok (.iload_n 3, 1) := by decide +kernel
theorem d_M_isBefore_62 : decode prog_12_method_38_code 62 = .ok (.iadd, 1) := by decide +kernel
theorem d_M_isBefore_63 : decode prog_12_method_38_code 63 = .ok (.iaload, 1) := by decide +kernel
theorem d_M_isBefore_64 : decode prog_12_method_38_code 64 = .ok (.if_icmp .eq 30, 3) := by decide +kernel
theorem d_M_isBefore_67 : decode prog_12_method_38_code 67 = .ok (.aload_n 0, 1) := by decide +kernel
theorem d_M_isBefore_68 : decode prog_12_method_38_code 68 = .ok (.getfield 118, 3) := by decide +kernel
theorem d_M_isBefore_71 : decode prog_12_method_38_code 71 = .ok (.iload_n 3, 1) := by decide +kernel
theorem d_M_isBefore_72 : decode prog_12_method_38_code 72 = .ok (.iaload, 1) := by decide +kernel
theorem d_M_isBefore_73 : decode prog_12_method_38_code 73 = .ok (.aload_n 0, 1) := by decide +kernel
theorem d_M_isBefore_74 : decode prog_12_method_38_code 74 = .ok (.getfield 130, 3) := by decide +kernel
theorem d_M_isBefore_77 : decode prog_12_method_38_code 77 = .ok (.sipush 160, 3) := by decide +kernel
theorem d_M_isBefore_80 : decode prog_12_method_38_code 80 = .ok (.iload_n 2, 1) := by decide +kernel
theorem d_M_isBefore_81 : decode prog_12_method_38_code 81 = .ok (.imul, 1) := by decide +kernel
theorem d_M_isBefore_82 : decode prog_12_method_38_code 82 = .ok (.iload_n 3, 1) := by decide +kernel
theorem d_M_isBefore_83 : decode prog_12_method_38_code 83 = .ok (.iadd, 1) := by decide +kernel
theorem d_M_isBefore_84 : decode prog_12_method_38_code 84 = .ok (.iaload, 1) := by decide +kernel
theorem d_M_isBefore_85 : decode prog_12_method_38_code 85 = .ok (.if_icmp .ge 7, 3) := by decide +kernel
theorem d_M_isBefore_88 : decode prog_12_method_38_code 88 = .ok (.iconst 1, 1) := by decide +kernel
theorem d_M_isBefore_89 : decode prog_12_method_38_code 89 = .ok (.goto 4, 3) := by decide +kernel
theorem d_M_isBefore_92 : decode prog_12_method_38_code 92 = .ok (.iconst 0, 1) := by decide +kernel
theorem d_M_isBefore_93 : decode prog_12_method_38_code 93 = .ok (.ireturn, 1) := by decide +kernel
theorem d_M_isBefore_94 : decode prog_12_method_38_code 94 = .ok (.iinc 3 1, 3) := by decide +kernel
theorem d_M_isBefore_97 : decode prog_12_method_38_code 97 = .ok (.goto (-69), 3) := by decide +kernel
theorem d_M_isBefore_100 : decode prog_12_method_38_code 100 = .ok (.aload_n 0, 1) := by decide +kernel
theorem d_M_isBefore_101 : decode prog_12_method_38_code 101 = .ok (.getfield 244, 3) := by decide +kernel
theorem d_M_isBefore_104 : decode prog_12_method_38_code 104 = .ok (.aload_n 0, 1) := by decide +kernel
theorem d_M_isBefore_105 : decode prog_12_method_38_code 105 = .ok (.getfield 127, 3) := by decide +kernel
theorem d_M_isBefore_108 : decode prog_12_method_38_code 108 = .ok (.iload_n 2, 1) := by decide +kernel
theorem d_M_isBefore_109 : decode prog_12_method_38_code 109 = .ok (.iaload, 1) := by decide +kernel
theorem d_M_isBefore_110 : decode prog_12_method_38_code 110 = .ok (.if_icmp .ge 7, 3) := by decide +kernel
theorem d_M_isBefore_113 : decode prog_12_method_38_code 113 = .ok (.iconst 1, 1) := by decide +kernel
theorem d_M_isBefore_114 : decode prog_12_method_38_code 114 = .ok (.goto 4, 3) := by decide +kernel
theorem d_M_isBefore_117 : decode prog_12_method_38_code 117 = .ok (.iconst 0, 1) := by decide +kernel
theorem d_M_isBefore_118 : decode prog_12_method_38_code 118 = .ok (.ireturn, 1) := by decide +kernel
theorem d_M_list_0 : decode prog_12_method_39_code 0 = .ok (.bipush 21, 2) := by decide +kernel
theorem d_M_list_2 : decode prog_12_method_39_code 2 = .ok (.iload_n 1, 1) := by decide +kernel
theorem d_M_list_3 : decode prog_12_method_39_code 3 = .ok (.imul, 1) := by decide +kernel
theorem d_M_list_4 : decode prog_12_method_39_code 4 = .ok (.istore_n 3, 1) := by decide +kernel
theorem d_M_list_5 : decode prog_12_method_39_code 5 = .ok (.aload_n 0, 1) := by decide +kernel
theorem d_M_list_6 : decode prog_12_method_39_code 6 = .ok (.getfield 121, 3) := by decide +kernel
theorem d_M_list_9 : decode prog_12_method_39_code 9 = .ok (.iload_n 1, 1) := by decide +kernel
theorem d_M_list_10 : decode prog_12_method_39_code 10 = .ok (.iaload, 1) := by decide +kernel
theorem d_M_list_11 : decode prog_12_method_39_code 11 = .ok (.istore 4, 2) := by decide +kernel
theorem d_M_list_13 : decode prog_12_method_39_code 13 = .ok (.iload 4, 2) := by decide +kernel
theorem d_M_list_15 : decode prog_12_method_39_code 15 = .ok (.ifCond .le 112, 3) := by decide +kernel
theorem d_M_list_18 : decode prog_12_method_39_code 18 = .ok (.aload_n 0, 1) := by decide +kernel
theorem d_M_list_19 : decode prog_12_method_39_code 19 = .ok (.iload_n 2, 1) := by decide +kernel
theorem d_M_list_20 : decode prog_12_method_39_code 20 = .ok (.iload_n 3, 1) := by decide +kernel
theorem d_M_list_21 : decode prog_12_method_39_code 21 = .ok (.iload 4, 2) := by decide +kernel
theorem d_M_list_23 : decode prog_12_method_39_code 23 = .ok (.iadd, 1) := by decide +kernel
theorem d_M_list_24 : decode prog_12_method_39_code 24 = .ok (.iconst 1, 1) := by decide +kernel
theorem d_M_list_25 : decode prog_12_method_39_code 25 = .ok (.isub, 1) := by decide +kernel
theorem d_M_list_26 : decode prog_12_method_39_code 26 = .ok (.invokevirtual 247, 3) := by decide +kernel
theorem d_M_list_29 : decode prog_12_method_39_code 29 = .ok (.ifCond .eq 98, 3) := by decide +kernel
theorem d_M_list_32 : decode prog_12_method_39_code 32 = .ok (.iload_n 3, 1) := by decide +kernel
theorem d_M_list_33 : decode prog_12_method_39_code 33 = .ok (.iload 4, 2) := by decide +kernel
theorem d_M_list_35 : decode prog_12_method_39_code 35 = .ok (.iadd, 1) := by decide +kernel
theorem d_M_list_36 : decode prog_12_method_39_code 36 = .ok (.istore 5, 2) := by decide +kernel
theorem d_M_list_38 : decode prog_12_method_39_code 38 = .ok (.aload_n 0, 1) := by decide +kernel
theorem d_M_list_39 : decode prog_12_method_39_code 39 = .ok (.getfield 124, 3) := by decide +kernel
theorem d_M_list_42 : decode prog_12_method_39_code 42 = .ok (.iload 5, 2) := by decide +kernel
theorem d_M_list_44 : decode prog_12_method_39_code 44 = .ok (.aload_n 0, 1) := by decide +kernel
theorem d_M_list_45 : decode prog_12_method_39_code 45 = .ok (.getfield 124, 3) := by decide +kernel
theorem d_M_list_48 : decode prog_12_method_39_code 48 = .ok (.iload 5, 2) := by decide +kernel
theorem d_M_list_50 : decode prog_12_method_39_code 50 = .ok (.iconst 1, 1) := by decide +kernel
theorem d_M_list_51 : decode prog_12_method_39_code 51 = .ok (.isub, 1) := by decide +kernel
theorem d_M_list_52 : decode prog_12_method_39_code 52 = .ok (.iaload, 1) := by decide +kernel
theorem d_M_list_53 : decode prog_12_method_39_code 53 = .ok (.iastore, 1) := by decide +kernel
theorem d_M_list_54 : decode prog_12_method_39_code 54 = .ok (.aload_n 0, 1) := by decide +kernel
theorem d_M_list_55 : decode prog_12_method_39_code 55 = .ok (.getfield 127, 3) := by decide +kernel
theorem d_M_list_58 : decode prog_12_method_39_code 58 = .ok (.iload 5, 2) := by decide +kernel
theorem d_M_list_60 : decode prog_12_method_39_code 60 = .ok (.aload_n 0, 1) := by decide +kernel
theorem d_M_list_61 : decode prog_12_method_39_code 61 = .ok (.getfield 127, 3) := by decide +kernel
theorem d_M_list_64 : decode prog_12_method_39_code 64 = .ok (.iload 5, 2) := by decide +kernel
theorem d_M_list_66 : decode prog_12_method_39_code 66 = .ok (.iconst 1, 1) := by decide +kernel
theorem d_M_list_67 : decode prog_12_method_39_code 67 = .ok (.isub, 1) := by decide +kernel
theorem d_M_list_68 : decode prog_12_method_39_code 68 = .ok (.iaload, 1) := by decide +kernel
theorem d_M_list_69 : decode prog_12_method_39_code 69 = .ok (.iastore, 1) := by decide +kernel
theorem d_M_list_70 : decode prog_12_method_39_code 70 = .ok (.iconst 0, 1) := by decide +kernel
theorem d_M_list_71 : decode prog_12_method_39_code 71 = .ok (.istore 6, 2) := by decide +kernel
theorem d_M_list_73 : decode prog_12_method_39_code 73 = .ok (.iload 6, 2) := by decide +kernel
theorem d_M_list_75 : decode prog_12_method_39_code 75 = .ok (.aload_n 0, 1) := by decide +kernel
theorem d_M_list_76 : decode prog_12_method_39_code 76 = .ok (.getfield 127, 3) := by decide +kernel
theorem d_M_list_79 : decode prog_12_method_39_code 79 = .ok (.iload 5, 2) := by decide +kernel
theorem d_M_list_81 : decode prog_12_method_39_code 81 = .ok (.iaload, 1) := by decide +kernel
theorem d_M_list_82 : decode prog_12_method_39_code 82 = .ok (.if_icmp .ge 39, 3) := by decide +kernel
theorem d_M_list_85 : decode prog_12_method_39_code 85 = .ok (.aload_n 0, 1) := by decide +kernel
theorem d_M_list_86 : decode prog_12_method_39_code 86 = .ok (.getfield 130, 3) := by decide +kernel
theorem d_M_list_89 : decode prog_12_method_39_code 89 = .ok (.sipush 160, 3) := by decide +kernel
theorem d_M_list_92 : decode prog_12_method_39_code 92 = .ok (.iload 5, 2) := by decide +kernel
theorem d_M_list_94 : decode prog_12_method_39_code 94 = .ok (.imul, 1) := by decide +kernel
theorem d_M_list_95 : decode prog_12_method_39_code 95 = .ok (.iload 6, 2) := by decide +kernel
theorem d_M_list_97 : decode prog_12_method_39_code 97 = .ok (.iadd, 1) := by decide +kernel
theorem d_M_list_98 : decode prog_12_method_39_code 98 = .ok (.aload_n 0, 1) := by decide +kernel
theorem d_M_list_99 : decode prog_12_method_39_code 99 = .ok (.getfield 130, 3) := by decide +kernel
theorem d_M_list_102 : decode prog_12_method_39_code 102 = .ok (.sipush 160, 3) := by decide +kernel
theorem d_M_list_105 : decode prog_12_method_39_code 105 = .ok (.iload 5, 2) := by decide +kernel
theorem d_M_list_107 : decode prog_12_method_39_code 107 = .ok (.iconst 1, 1) := by decide +kernel
theorem d_M_list_108 : decode prog_12_method_39_code 108 = .ok (.isub, 1) := by decide +kernel
theorem d_M_list_109 : decode prog_12_method_39_code 109 = .ok (.imul, 1) := by decide +kernel
theorem d_M_list_110 : decode prog_12_method_39_code 110 = .ok (.iload 6, 2) := by decide +kernel
theorem d_M_list_112 : decode prog_12_method_39_code 112 = .ok (.iadd, 1) := by decide +kernel
theorem d_M_list_113 : decode prog_12_method_39_code 113 = .ok (.iaload, 1) := by decide +kernel
theorem d_M_list_114 : decode prog_12_method_39_code 114 = .ok (.iastore, 1) := by decide +kernel
theorem d_M_list_115 : decode prog_12_method_39_code 115 = .ok (.iinc 6 1, 3) := by decide +kernel
theorem d_M_list_118 : decode prog_12_method_39_code 118 = .ok (.goto (-45), 3) := by decide +kernel
theorem d_M_list_121 : decode prog_12_method_39_code 121 = .ok (.iinc 4 (-1), 3) := by decide +kernel
theorem d_M_list_124 : decode prog_12_method_39_code 124 = .ok (.goto (-111), 3) := by decide +kernel
theorem d_M_list_127 : decode prog_12_method_39_code 127 = .ok (.iload 4, 2) := by decide +kernel
theorem d_M_list_129 : decode prog_12_method_39_code 129 = .ok (.bipush 20, 2) := by decide +kernel
theorem d_M_list_131 : decode prog_12_method_39_code 131 = .ok (.if_icmp .ge 67, 3) := by decide +kernel
theorem d_M_list_134 : decode prog_12_method_39_code 134 = .ok (.aload_n 0, 1) := by decide +kernel
theorem d_M_list_135 : decode prog_12_method_39_code 135 = .ok (.getfield 124, 3) := by decide +kernel
theorem d_M_list_138 : decode prog_12_method_39_code 138 = .ok (.iload_n 3, 1) := by decide +kernel
theorem d_M_list_139 : decode prog_12_method_39_code 139 = .ok (.iload 4, 2) := by decide +kernel
theorem d_M_list_141 : decode prog_12_method_39_code 141 = .ok (.iadd, 1) := by decide +kernel
theorem d_M_list_142 : decode prog_12_method_39_code 142 = .ok (.iload_n 2, 1) := by decide +kernel
theorem d_M_list_143 : decode prog_12_method_39_code 143 = .ok (.iastore, 1) := by decide +kernel
theorem d_M_list_144 : decode prog_12_method_39_code 144 = .ok (.aload_n 0, 1) := by decide +kernel
theorem d_M_list_145 : decode prog_12_method_39_code 145 = .ok (.getfield 127, 3) := by decide +kernel
theorem d_M_list_148 : decode prog_12_method_39_code 148 = .ok (.iload_n 3, 1) := by decide +kernel
theorem d_M_list_149 : decode prog_12_method_39_code 149 = .ok (.iload 4, 2) := by decide +kernel
theorem d_M_list_151 : decode prog_12_method_39_code 151 = .ok (.iadd, 1) := by decide +kernel
theorem d_M_list_152 : decode prog_12_method_39_code 152 = .ok (.aload_n 0, 1) := by decide +kernel
theorem d_M_list_153 : decode prog_12_method_39_code 153 = .ok (.getfield 244, 3) := by decide +kernel
theorem d_M_list_156 : decode prog_12_method_39_code 156 = .ok (.iastore, 1) := by decide +kernel
theorem d_M_list_157 : decode prog_12_method_39_code 157 = .ok (.iconst 0, 1) := by decide +kernel
theorem d_M_list_158 : decode prog_12_method_39_code 158 = .ok (.istore 5, 2) := by decide +kernel
theorem d_M_list_160 : decode prog_12_method_39_code 160 = .ok (.iload 5, 2) := by decide +kernel
theorem d_M_list_162 : decode prog_12_method_39_code 162 = .ok (.aload_n 0, 1) := by decide +kernel
theorem d_M_list_163 : decode prog_12_method_39_code 163 = .ok (.getfield 244, 3) := by decide +kernel
theorem d_M_list_166 : decode prog_12_method_39_code 166 = .ok (.if_icmp .ge 32, 3) := by decide +kernel
theorem d_M_list_169 : decode prog_12_method_39_code 169 = .ok (.aload_n 0, 1) := by decide +kernel
theorem d_M_list_170 : decode prog_12_method_39_code 170 = .ok (.getfield 130, 3) := by decide +kernel
theorem d_M_list_173 : decode prog_12_method_39_code 173 = .ok (.sipush 160, 3) := by decide +kernel
theorem d_M_list_176 : decode prog_12_method_39_code 176 = .ok (.iload_n 3, 1) := by decide +kernel
theorem d_M_list_177 : decode prog_12_method_39_code 177 = .ok (.iload 4, 2) := by decide +kernel
theorem d_M_list_179 : decode prog_12_method_39_code 179 = .ok (.iadd, 1) := by decide +kernel
theorem d_M_list_180 : decode prog_12_method_39_code 180 = .ok (.imul, 1) := by decide +kernel
theorem d_M_list_181 : decode prog_12_method_39_code 181 = .ok (.iload 5, 2) := by decide +kernel
theorem d_M_list_183 : decode prog_12_method_39_code 183 = .ok (.iadd, 1) := by decide +kernel
theorem d_M_list_184 : decode prog_12_method_39_code 184 = .ok (.aload_n 0, 1) := by decide +kernel
theorem d_M_list_185 : decode prog_12_method_39_code 185 = .ok (.getfield 118, 3) := by decide +kernel
theorem d_M_list_188 : decode prog_12_method_39_code 188 = .ok (.iload 5, 2) := by decide +kernel
theorem d_M_list_190 : decode prog_12_method_39_code 190 = .ok (.iaload, 1) := by decide +kernel
theorem d_M_list_191 : decode prog_12_method_39_code 191 = .ok (.iastore, 1) := by decide +kernel
theorem d_M_list_192 : decode prog_12_method_39_code 192 = .ok (.iinc 5 1, 3) := by decide +kernel
theorem d_M_list_195 : decode prog_12_method_39_code 195 = .ok (.goto (-35), 3) := by decide +kernel
theorem d_M_list_198 : decode prog_12_method_39_code 198 = .ok (.aload_n 0, 1) := by decide +kernel
theorem d_M_list_199 : decode prog_12_method_39_code 199 = .ok (.getfield 121, 3) := by decide +kernel
theorem d_M_list_202 : decode prog_12_method_39_code 202 = .ok (.iload_n 1, 1) := by decide +kernel
theorem d_M_list_203 : decode prog_12_method_39_code 203 = .ok (.aload_n 0, 1) := by decide +kernel
theorem d_M_list_204 : decode prog_12_method_39_code 204 = .ok (.getfield 121, 3) := by decide +kernel
theorem d_M_list_207 : decode prog_12_method_39_code 207 = .ok (.iload_n 1, 1) := by decide +kernel
theorem d_M_list_208 : decode prog_12_method_39_code 208 = .ok (.iaload, 1) := by decide +kernel
theorem d_M_list_209 : decode prog_12_method_39_code 209 = .ok (.bipush 20, 2) := by decide +kernel
theorem d_M_list_211 : decode prog_12_method_39_code 211 = .ok (.if_icmp .ge 14, 3) := by decide +kernel
theorem d_M_list_214 : decode prog_12_method_39_code 214 = .ok (.aload_n 0, 1) := by decide +kernel
theorem d_M_list_215 : decode prog_12_method_39_code 215 = .ok (.getfield 121, 3) := by decide +kernel
theorem d_M_list_218 : decode prog_12_method_39_code 218 = .ok (.iload_n 1, 1) := by decide +kernel
theorem d_M_list_219 : decode prog_12_method_39_code 219 = .ok (.iaload, 1) := by decide +kernel
theorem d_M_list_220 : decode prog_12_method_39_code 220 = .ok (.iconst 1, 1) := by decide +kernel
theorem d_M_list_221 : decode prog_12_method_39_code 221 = .ok (.iadd, 1) := by decide +kernel
theorem d_M_list_222 : decode prog_12_method_39_code 222 = .ok (.goto 5, 3) := by decide +kernel
theorem d_M_list_225 : decode prog_12_method_39_code 225 = .ok (.bipush 20, 2) := by decide +kernel
theorem d_M_list_227 : decode prog_12_method_39_code 227 = .ok (.iastore, 1) := by decide +kernel
theorem d_M_list_228 : decode prog_12_method_39_code 228 = .ok (.return_, 1) := by decide +kernel
theorem d_M_end_0 : decode prog_12_method_40_code 0 = .ok (.aload_n 0, 1) := by decide +kernel
theorem d_M_end_1 : decode prog_12_method_40_code 1 = .ok (.getfield 118, 3) := by decide +kernel
theorem d_M_end_4 : decode prog_12_method_40_code 4 = .ok (.iload 4, 2) := by decide +kernel
theorem d_M_end_6 : decode prog_12_method_40_code 6 = .ok (.bipush 8, 2) := by decide +kernel
theorem d_M_end_8 : decode prog_12_method_40_code 8 = .ok (.iload_n 1, 1) := by decide +kernel
theorem d_M_end_9 : decode prog_12_method_40_code 9 = .ok (.imul, 1) := by decide +kernel
theorem d_M_end_10 : decode prog_12_method_40_code 10 = .ok (.iload_n 2, 1) := by decide +kernel
theorem d_M_end_11 : decode prog_12_method_40_code 11 = .ok (.iadd, 1) := by decide +kernel
theorem d_M_end_12 : decode prog_12_method_40_code 12 = .ok (.iastore, 1) := by decide +kernel
theorem d_M_end_13 : decode prog_12_method_40_code 13 = .ok (.aload_n 0, 1) := by decide +kernel
theorem d_M_end_14 : decode prog_12_method_40_code 14 = .ok (.iload 4, 2) := by decide +kernel
theorem d_M_end_16 : decode prog_12_method_40_code 16 = .ok (.iconst 1, 1) := by decide +kernel
theorem d_M_end_17 : decode prog_12_method_40_code 17 = .ok (.iadd, 1) := by decide +kernel
theorem d_M_end_18 : decode prog_12_method_40_code 18 = .ok (.putfield 244, 3) := by decide +kernel
theorem d_M_end_21 : decode prog_12_method_40_code 21 = .ok (.iconst 0, 1) := by decide +kernel
theorem d_M_end_22 : decode prog_12_method_40_code 22 = .ok (.istore 7, 2) := by decide +kernel
theorem d_M_end_24 : decode prog_12_method_40_code 24 = .ok (.iload_n 3, 1) := by decide +kernel
theorem d_M_end_25 : decode prog_12_method_40_code 25 = .ok (.ifCond .lt 51, 3) := by decide +kernel
theorem d_M_end_28 : decode prog_12_method_40_code 28 = .ok (.iload 7, 2) := by decide +kernel
theorem d_M_end_30 : decode prog_12_method_40_code 30 = .ok (.aload_n 0, 1) := by decide +kernel
theorem d_M_end_31 : decode prog_12_method_40_code 31 = .ok (.getfield 68, 3) := by decide +kernel
theorem d_M_end_34 : decode prog_12_method_40_code 34 = .ok (.iload_n 3, 1) := by decide +kernel
theorem d_M_end_35 : decode prog_12_method_40_code 35 = .ok (.iaload, 1) := by decide +kernel
theorem d_M_end_36 : decode prog_12_method_40_code 36 = .ok (.if_icmp .ge 40, 3) := by decide +kernel
theorem d_M_end_39 : decode prog_12_method_40_code 39 = .ok (.aload_n 0, 1) := by decide +kernel
theorem d_M_end_40 : decode prog_12_method_40_code 40 = .ok (.getfield 118, 3) := by decide +kernel
theorem d_M_end_43 : decode prog_12_method_40_code 43 = .ok (.aload_n 0, 1) := by decide +kernel
theorem d_M_end_44 : decode prog_12_method_40_code 44 = .ok (.getfield 244, 3) := by decide +kernel
theorem d_M_end_47 : decode prog_12_method_40_code 47 = .ok (.aload_n 0, 1) := by decide +kernel
theorem d_M_end_48 : decode prog_12_method_40_code 48 = .ok (.getfield 71, 3) := by decide +kernel
theorem d_M_end_51 : decode prog_12_method_40_code 51 = .ok (.bipush 49, 2) := by decide +kernel
theorem d_M_end_53 : decode prog_12_method_40_code 53 = .ok (.iload_n 3, 1) := by decide +kernel
theorem d_M_end_54 : decode prog_12_method_40_code 54 = .ok (.imul, 1) := by decide +kernel
theorem d_M_end_55 : decode prog_12_method_40_code 55 = .ok (.iload 7, 2) := by decide +kernel
theorem d_M_end_57 : decode prog_12_method_40_code 57 = .ok (.iadd, 1) := by decide +kernel
theorem d_M_end_58 : decode prog_12_method_40_code 58 = .ok (.iaload, 1) := by decide +kernel
theorem d_M_end_59 : decode prog_12_method_40_code 59 = .ok (.iastore, 1) := by decide +kernel
theorem d_M_end_60 : decode prog_12_method_40_code 60 = .ok (.aload_n 0, 1) := by decide +kernel
theorem d_M_end_61 : decode prog_12_method_40_code 61 = .ok (.dup, 1) := by decide +kernel
theorem d_M_end_62 : decode prog_12_method_40_code 62 = .ok (.getfield 244, 3) := by decide +kernel
theorem d_M_end_65 : decode prog_12_method_40_code 65 = .ok (.iconst 1, 1) := by decide +kernel
theorem d_M_end_66 : decode prog_12_method_40_code 66 = .ok (.iadd, 1) := by decide +kernel
theorem d_M_end_67 : decode prog_12_method_40_code 67 = .ok (.putfield 244, 3) := by decide +kernel
theorem d_M_end_70 : decode prog_12_method_40_code 70 = .ok (.iinc 7 1, 3) := by decide +kernel
theorem d_M_end_73 : decode prog_12_method_40_code 73 = .ok (.goto (-49), 3) := by decide +kernel
theorem d_M_end_76 : decode prog_12_method_40_code 76 = .ok (.iconst 0, 1) := by decide +kernel
theorem d_M_end_77 : decode prog_12_method_40_code 77 = .ok (.istore 7, 2) := by decide +kernel
theorem d_M_end_79 : decode prog_12_method_40_code 79 = .ok (.iload 7, 2) := by decide +kernel
theorem d_M_end_81 : decode prog_12_method_40_code 81 = .ok (.iconst 2, 1) := by decide +kernel
theorem d_M_end_82 : decode prog_12_method_40_code 82 = .ok (.if_icmp .ge 28, 3) := by decide +kernel
theorem d_M_end_85 : decode prog_12_method_40_code 85 = .ok (.aload_n 0, 1) := by decide +kernel
theorem d_M_end_86 : decode prog_12_method_40_code 86 = .ok (.iload 7, 2) := by decide +kernel
theorem d_M_end_88 : decode prog_12_method_40_code 88 = .ok (.aload_n 0, 1) := by decide +kernel
theorem d_M_end_89 : decode prog_12_method_40_code 89 = .ok (.iload 7, 2) := by decide +kernel
theorem d_M_end_91 : decode prog_12_method_40_code 91 = .ok (.iload_n 1, 1) := by decide +kernel
theorem d_M_end_92 : decode prog_12_method_40_code 92 = .ok (.iload_n 2, 1) := by decide +kernel
theorem d_M_end_93 : decode prog_12_method_40_code 93 = .ok (.iload_n 3, 1) := by decide +kernel
theorem d_M_end_94 : decode prog_12_method_40_code 94 = .ok (.iload 5, 2) := by decide +kernel
theorem d_M_end_96 : decode prog_12_method_40_code 96 = .ok (.iload 6, 2) := by decide +kernel
theorem d_M_end_98 : decode prog_12_method_40_code 98 = .ok (.invokevirtual 210, 3) := by decide +kernel
theorem d_M_end_101 : decode prog_12_method_40_code 101 = .ok (.invokevirtual 250, 3) := by decide +kernel
theorem d_M_end_104 : decode prog_12_method_40_code 104 = .ok (.iinc 7 1, 3) := by decide +kernel
theorem d_M_end_107 : decode prog_12_method_40_code 107 = .ok (.goto (-28), 3) := by decide +kernel
theorem d_M_end_110 : decode prog_12_method_40_code 110 = .ok (.return_, 1) := by decide +kernel
theorem d_M_endAll_0 : decode prog_12_method_41_code 0 = .ok (.aload_n 0, 1) := by decide +kernel
theorem d_M_endAll_1 : decode prog_12_method_41_code 1 = .ok (.getfield 19, 3) := by decide +kernel
theorem d_M_endAll_4 : decode prog_12_method_41_code 4 = .ok (.iload_n 1, 1) := by decide +kernel
theorem d_M_endAll_5 : decode prog_12_method_41_code 5 = .ok (.iaload, 1) := by decide +kernel
theorem d_M_endAll_6 : decode prog_12_method_41_code 6 = .ok (.iconst 4, 1) := by decide +kernel
theorem d_M_endAll_7 : decode prog_12_method_41_code 7 = .ok (.if_icmp .ne 16, 3) := by decide +kernel
theorem d_M_endAll_10 : decode prog_12_method_41_code 10 = .ok (.aload_n 0, 1) := by decide +kernel
theorem d_M_endAll_11 : decode prog_12_method_41_code 11 = .ok (.iload_n 1, 1) := by decide +kernel
theorem d_M_endAll_12 : decode prog_12_method_41_code 12 = .ok (.iload_n 2, 1) := by decide +kernel
theorem d_M_endAll_13 : decode prog_12_method_41_code 13 = .ok (.ldc 140, 2) := by decide +kernel
theorem d_M_endAll_15 : decode prog_12_method_41_code 15 = .ok (.iload_n 3, 1) := by decide +kernel
theorem d_M_endAll_16 : decode prog_12_method_41_code 16 = .ok (.iload 4, 2) := by decide +kernel
theorem d_M_endAll_18 : decode prog_12_method_41_code 18 = .ok (.iload 5, 2) := by decide +kernel
theorem d_M_endAll_20 : decode prog_12_method_41_code 20 = .ok (.invokevirtual 253, 3) := by decide +kernel
theorem d_M_endAll_23 : decode prog_12_method_41_code 23 = .ok (.iconst 0, 1) := by decide +kernel
theorem d_M_endAll_24 : decode prog_12_method_41_code 24 = .ok (.istore 6, 2) := by decide +kernel
theorem d_M_endAll_26 : decode prog_12_method_41_code 26 = .ok (.iload 6, 2) := by decide +kernel
theorem d_M_endAll_28 : decode prog_12_method_41_code 28 = .ok (.aload_n 0, 1) := by decide +kernel
theorem d_M_endAll_29 : decode prog_12_method_41_code 29 = .ok (.getfield 53, 3) := by decide +kernel
theorem d_M_endAll_32 : decode prog_12_method_41_code 32 = .ok (.iload_n 1, 1) := by decide +kernel
theorem d_M_endAll_33 : decode prog_12_method_41_code 33 = .ok (.iaload, 1) := by decide +kernel
theorem d_M_endAll_34 : decode prog_12_method_41_code 34 = .ok (.if_icmp .ge 37, 3) := by decide +kernel
theorem d_M_endAll_37 : decode prog_12_method_41_code 37 = .ok (.aload_n 0, 1) := by decide +kernel
theorem d_M_endAll_38 : decode prog_12_method_41_code 38 = .ok (.getfield 19, 3) := by decide +kernel
theorem d_M_endAll_41 : decode prog_12_method_41_code 41 = .ok (.iload_n 1, 1) := by decide +kernel
theorem d_M_endAll_42 : decode prog_12_method_41_code 42 = .ok (.iaload, 1) := by decide +kernel
theorem d_M_endAll_43 : decode prog_12_method_41_code 43 = .ok (.iconst 3, 1) := by decide +kernel
theorem d_M_endAll_44 : decode prog_12_method_41_code 44 = .ok (.if_icmp .ne 27, 3) := by decide +kernel
theorem d_M_endAll_47 : decode prog_12_method_41_code 47 = .ok (.aload_n 0, 1) := by decide +kernel
theorem d_M_endAll_48 : decode prog_12_method_41_code 48 = .ok (.iload_n 1, 1) := by decide +kernel
theorem d_M_endAll_49 : decode prog_12_method_41_code 49 = .ok (.iload_n 2, 1) := by decide +kernel
theorem d_M_endAll_50 : decode prog_12_method_41_code 50 = .ok (.bipush 8, 2) := by decide +kernel
theorem d_M_endAll_52 : decode prog_12_method_41_code 52 = .ok (.iload_n 1, 1) := by decide +kernel
theorem d_M_endAll_53 : decode prog_12_method_41_code 53 = .ok (.imul, 1) := by decide +kernel
theorem d_M_endAll_54 : decode prog_12_method_41_code 54 = .ok (.iload 6, 2) := by decide +kernel
theorem d_M_endAll_56 : decode prog_12_method_41_code 56 = .ok (.iadd, 1) := by decide +kernel
theorem d_M_endAll_57 : decode prog_12_method_41_code 57 = .ok (.iload_n 3, 1) := by decide +kernel
theorem d_M_endAll_58 : decode prog_12_method_41_code 58 = .ok (.iload 4, 2) := by decide +kernel
theorem d_M_endAll_60 : decode prog_12_method_41_code 60 = .ok (.iload 5, 2) := by decide +kernel
theorem d_M_endAll_62 : decode prog_12_method_41_code 62 = .ok (.invokevirtual 253, 3) := by decide +kernel
theorem d_M_endAll_65 : decode prog_12_method_41_code 65 = .ok (.iinc 6 1, 3) := by decide +kernel
theorem d_M_endAll_68 : decode prog_12_method_41_code 68 = .ok (.goto (-42), 3) := by decide +kernel
theorem d_M_endAll_71 : decode prog_12_method_41_code 71 = .ok (.return_, 1) := by decide +kernel
theorem d_M_startRow_0 : decode prog_12_method_42_code 0 = .ok (.iconst 0, 1) := by decide +kernel
theorem d_M_startRow_1 : decode prog_12_method_42_code 1 = .ok (.istore_n 1, 1) := by decide +kernel
theorem d_M_startRow_2 : decode prog_12_method_42_code 2 = .ok (.iconst 0, 1) := by decide +kernel
theorem d_M_startRow_3 : decode prog_12_method_42_code 3 = .ok (.istore_n 2, 1) := by decide +kernel
theorem d_M_startRow_4 : decode prog_12_method_42_code 4 = .ok (.aload_n 0, 1) := by decide +kernel
theorem d_M_startRow_5 : decode prog_12_method_42_code 5 = .ok (.getfield 200, 3) := by decide +kernel
theorem d_M_startRow_8 : decode prog_12_method_42_code 8 = .ok (.ifCond .lt 45, 3) := by decide +kernel
theorem d_M_startRow_11 : decode prog_12_method_42_code 11 = .ok (.iload_n 2, 1) := by decide +kernel
theorem d_M_startRow_12 : decode prog_12_method_42_code 12 = .ok (.aload_n 0, 1) := by decide +kernel
theorem d_M_startRow_13 : decode prog_12_method_42_code 13 = .ok (.getfield 68, 3) := by decide +kernel
theorem d_M_startRow_16 : decode prog_12_method_42_code 16 = .ok (.aload_n 0, 1) := by decide +kernel
theorem d_M_startRow_17 : decode prog_12_method_42_code 17 = .ok (.getfield 200, 3) := by decide +kernel
theorem d_M_startRow_20 : decode prog_12_method_42_code 20 = .ok (.iaload, 1) := by decide +kernel
theorem d_M_startRow_21 : decode prog_12_method_42_code 21 = .ok (.if_icmp .ge 32, 3) := by decide +kernel
theorem d_M_startRow_24 : decode prog_12_method_42_code 24 = .ok (.aload_n 0, 1) := by decide +kernel
theorem d_M_startRow_25 : decode prog_12_method_42_code 25 = .ok (.getfield 118, 3) := by decide +kernel
theorem d_M_startRow_28 : decode prog_12_method_42_code 28 = .ok (.iload_n 1, 1) := by decide +kernel
theorem d_M_startRow_29 : decode prog_12_method_42_code 29 = .ok (.aload_n 0, 1) := by decide +kernel
theorem d_M_startRow_30 : decode prog_12_method_42_code 30 = .ok (.getfield 71, 3) := by decide +kernel
theorem d_M_startRow_33 : decode prog_12_method_42_code 33 = .ok (.bipush 49, 2) := by decide +kernel
theorem d_M_startRow_35 : decode prog_12_method_42_code 35 = .ok (.aload_n 0, 1) := by decide +kernel
theorem d_M_startRow_36 : decode prog_12_method_42_code 36 = .ok (.getfield 200, 3) := by decide +kernel
theorem d_M_startRow_39 : decode prog_12_method_42_code 39 = .ok (.imul, 1) := by decide +kernel
theorem d_M_startRow_40 : decode prog_12_method_42_code 40 = .ok (.iload_n 2, 1) := by decide +kernel
theorem d_M_startRow_41 : decode prog_12_method_42_code 41 = .ok (.iadd, 1) := by decide +kernel
theorem d_M_startRow_42 : decode prog_12_method_42_code 42 = .ok (.iaload, 1) := by decide +kernel
theorem d_M_startRow_43 : decode prog_12_method_42_code 43 = .ok (.iastore, 1) := by decide +kernel
theorem d_M_startRow_44 : decode prog_12_method_42_code 44 = .ok (.iinc 1 1, 3) := by decide +kernel
theorem d_M_startRow_47 : decode prog_12_method_42_code 47 = .ok (.iinc 2 1, 3) := by decide +kernel
theorem d_M_startRow_50 : decode prog_12_method_42_code 50 = .ok (.goto (-46), 3) := by decide +kernel
theorem d_M_startRow_53 : decode prog_12_method_42_code 53 = .ok (.aload_n 0, 1) := by decide +kernel
theorem d_M_startRow_54 : decode prog_12_method_42_code 54 = .ok (.getfield 118, 3) := by decide +kernel
theorem d_M_startRow_57 : decode prog_12_method_42_code 57 = .ok (.iload_n 1, 1) := by decide +kernel
theorem d_M_startRow_58 : decode prog_12_method_42_code 58 = .ok (.bipush 8, 2) := by decide +kernel
theorem d_M_startRow_60 : decode prog_12_method_42_code 60 = .ok (.aload_n 0, 1) := by decide +kernel
theorem d_M_startRow_61 : decode prog_12_method_42_code 61 = .ok (.getfield 179, 3) := by decide +kernel
theorem d_M_startRow_64 : decode prog_12_method_42_code 64 = .ok (.imul, 1) := by decide +kernel
theorem d_M_startRow_65 : decode prog_12_method_42_code 65 = .ok (.aload_n 0, 1) := by decide +kernel
theorem d_M_startRow_66 : decode prog_12_method_42_code 66 = .ok (.getfield 200, 3) := by decide +kernel
theorem d_M_startRow_69 : decode prog_12_method_42_code 69 = .ok (.ifCond .ge 7, 3) := by decide +kernel
theorem d_M_startRow_72 : decode prog_12_method_42_code 72 = .ok (.iconst 0, 1) := by decide +kernel
theorem d_M_startRow_73 : decode prog_12_method_42_code 73 = .ok (.goto 4, 3) := by decide +kernel
theorem d_M_startRow_76 : decode prog_12_method_42_code 76 = .ok (.iconst 2, 1) := by decide +kernel
theorem d_M_startRow_77 : decode prog_12_method_42_code 77 = .ok (.iadd, 1) := by decide +kernel
theorem d_M_startRow_78 : decode prog_12_method_42_code 78 = .ok (.aload_n 0, 1) := by decide +kernel
theorem d_M_startRow_79 : decode prog_12_method_42_code 79 = .ok (.getfield 182, 3) := by decide +kernel
theorem d_M_startRow_82 : decode prog_12_method_42_code 82 = .ok (.iadd, 1) := by decide +kernel
theorem d_M_startRow_83 : decode prog_12_method_42_code 83 = .ok (.iastore, 1) := by decide +kernel
theorem d_M_startRow_84 : decode prog_12_method_42_code 84 = .ok (.iload_n 1, 1) := by decide +kernel
theorem d_M_startRow_85 : decode prog_12_method_42_code 85 = .ok (.iconst 1, 1) := by decide +kernel
theorem d_M_startRow_86 : decode prog_12_method_42_code 86 = .ok (.iadd, 1) := by decide +kernel
theorem d_M_startRow_87 : decode prog_12_method_42_code 87 = .ok (.ireturn, 1) := by decide +kernel
theorem d_M_walk_0 : decode prog_12_method_43_code 0 = .ok (.aload_n 0, 1) := by decide +kernel
theorem d_M_walk_1 : decode prog_12_method_43_code 1 = .ok (.invokevirtual 257, 3) := by decide +kernel
theorem d_M_walk_4 : decode prog_12_method_43_code 4 = .ok (.istore_n 1, 1) := by decide +kernel
theorem d_M_walk_5 : decode prog_12_method_43_code 5 = .ok (.iconst 0, 1) := by decide +kernel
theorem d_M_walk_6 : decode prog_12_method_43_code 6 = .ok (.istore_n 2, 1) := by decide +kernel
theorem d_M_walk_7 : decode prog_12_method_43_code 7 = .ok (.aload_n 0, 1) := by decide +kernel
theorem d_M_walk_8 : decode prog_12_method_43_code 8 = .ok (.getfield 103, 3) := by decide +kernel
theorem d_M_walk_11 : decode prog_12_method_43_code 11 = .ok (.iconst 0, 1) := by decide +kernel
theorem d_M_walk_12 : decode prog_12_method_43_code 12 = .ok (.aload_n 0, 1) := by decide +kernel
theorem d_M_walk_13 : decode prog_12_method_43_code 13 = .ok (.getfield 179, 3) := by decide +kernel
theorem d_M_walk_16 : decode prog_12_method_43_code 16 = .ok (.iastore, 1) := by decide +kernel
theorem d_M_walk_17 : decode prog_12_method_43_code 17 = .ok (.aload_n 0, 1) := by decide +kernel
theorem d_M_walk_18 : decode prog_12_method_43_code 18 = .ok (.getfield 106, 3) := by decide +kernel
theorem d_M_walk_21 : decode prog_12_method_43_code 21 = .ok (.iconst 0, 1) := by decide +kernel
theorem d_M_walk_22 : decode prog_12_method_43_code 22 = .ok (.aload_n 0, 1) := by decide +kernel
theorem d_M_walk_23 : decode prog_12_method_43_code 23 = .ok (.getfield 182, 3) := by decide +kernel
theorem d_M_walk_26 : decode prog_12_method_43_code 26 = .ok (.iastore, 1) := by decide +kernel
theorem d_M_walk_27 : decode prog_12_method_43_code 27 = .ok (.aload_n 0, 1) := by decide +kernel
theorem d_M_walk_28 : decode prog_12_method_43_code 28 = .ok (.getfield 109, 3) := by decide +kernel
theorem d_M_walk_31 : decode prog_12_method_43_code 31 = .ok (.iconst 0, 1) := by decide +kernel
theorem d_M_walk_32 : decode prog_12_method_43_code 32 = .ok (.iconst 0, 1) := by decide +kernel
theorem d_M_walk_33 : decode prog_12_method_43_code 33 = .ok (.iastore, 1) := by decide +kernel
theorem d_M_walk_34 : decode prog_12_method_43_code 34 = .ok (.aload_n 0, 1) := by decide +kernel
theorem d_M_walk_35 : decode prog_12_method_43_code 35 = .ok (.getfield 112, 3) := by decide +kernel
theorem d_M_walk_38 : decode prog_12_method_43_code 38 = .ok (.iconst 0, 1) := by decide +kernel
theorem d_M_walk_39 : decode prog_12_method_43_code 39 = .ok (.aload_n 0, 1) := by decide +kernel
theorem d_M_walk_40 : decode prog_12_method_43_code 40 = .ok (.getfield 185, 3) := by decide +kernel
theorem d_M_walk_43 : decode prog_12_method_43_code 43 = .ok (.iastore, 1) := by decide +kernel
theorem d_M_walk_44 : decode prog_12_method_43_code 44 = .ok (.aload_n 0, 1) := by decide +kernel
theorem d_M_walk_45 : decode prog_12_method_43_code 45 = .ok (.getfield 115, 3) := by decide +kernel
theorem d_M_walk_48 : decode prog_12_method_43_code 48 = .ok (.iconst 0, 1) := by decide +kernel
theorem d_M_walk_49 : decode prog_12_method_43_code 49 = .ok (.aload_n 0, 1) := by decide +kernel
theorem d_M_walk_50 : decode prog_12_method_43_code 50 = .ok (.getfield 188, 3) := by decide +kernel
theorem d_M_walk_53 : decode prog_12_method_43_code 53 = .ok (.iastore, 1) := by decide +kernel
theorem d_M_walk_54 : decode prog_12_method_43_code 54 = .ok (.iload_n 2, 1) := by decide +kernel
theorem d_M_walk_55 : decode prog_12_method_43_code 55 = .ok (.ifCond .lt 318, 3) := by decide +kernel
theorem d_M_walk_58 : decode prog_12_method_43_code 58 = .ok (.aload_n 0, 1) := by decide +kernel
theorem d_M_walk_59 : decode prog_12_method_43_code 59 = .ok (.getfield 109, 3) := by decide +kernel
theorem d_M_walk_62 : decode prog_12_method_43_code 62 = .ok (.iload_n 2, 1) := by decide +kernel
theorem d_M_walk_63 : decode prog_12_method_43_code 63 = .ok (.iaload, 1) := by decide +kernel
theorem d_M_walk_64 : decode prog_12_method_43_code 64 = .ok (.istore_n 3, 1) := by decide +kernel
theorem d_M_walk_65 : decode prog_12_method_43_code 65 = .ok (.aload_n 0, 1) := by decide +kernel
theorem d_M_walk_66 : decode prog_12_method_43_code 66 = .ok (.getfield 109, 3) := by decide +kernel
theorem d_M_walk_69 : decode prog_12_method_43_code 69 = .ok (.iload_n 2, 1) := by decide +kernel
theorem d_M_walk_70 : decode prog_12_method_43_code 70 = .ok (.dup2, 1) := by decide +kernel
theorem d_M_walk_71 : decode prog_12_method_43_code 71 = .ok (.iaload, 1) := by decide +kernel
theorem d_M_walk_72 : decode prog_12_method_43_code 72 = .ok (.iconst 1, 1) := by decide +kernel
theorem d_M_walk_73 : decode prog_12_method_43_code 73 = .ok (.iadd, 1) := by decide +kernel
theorem d_M_walk_74 : decode prog_12_method_43_code 74 = .ok (.iastore, 1) := by decide +kernel
theorem d_M_walk_75 : decode prog_12_method_43_code 75 = .ok (.iload_n 3, 1) := by decide +kernel
theorem d_M_walk_76 : decode prog_12_method_43_code 76 = .ok (.bipush 6, 2) := by decide +kernel
theorem d_M_walk_78 : decode prog_12_method_43_code 78 = .ok (.aload_n 0, 1) := by decide +kernel
theorem d_M_walk_79 : decode prog_12_method_43_code 79 = .ok (.getfield 16, 3) := by decide +kernel
theorem d_M_walk_82 : decode prog_12_method_43_code 82 = .ok (.imul, 1) := by decide +kernel
theorem d_M_walk_83 : decode prog_12_method_43_code 83 = .ok (.if_icmp .lt 9, 3) := by decide +kernel
theorem d_M_walk_86 : decode prog_12_method_43_code 86 = .ok (.iinc 2 (-1), 3) := by decide +kernel
theorem d_M_walk_89 : decode prog_12_method_43_code 89 = .ok (.goto (-35), 3) := by decide +kernel
theorem d_M_walk_92 : decode prog_12_method_43_code 92 = .ok (.iload_n 3, 1) := by decide +kernel
theorem d_M_walk_93 : decode prog_12_method_43_code 93 = .ok (.bipush 6, 2) := by decide +kernel
theorem d_M_walk_95 : decode prog_12_method_43_code 95 = .ok (.idiv, 1) := by decide +kernel
theorem d_M_walk_96 : decode prog_12_method_43_code 96 = .ok (.istore 4, 2) := by decide +kernel
theorem d_M_walk_98 : decode prog_12_method_43_code 98 = .ok (.iload_n 3, 1) := by decide +kernel
theorem d_M_walk_99 : decode prog_12_method_43_code 99 = .ok (.iconst 2, 1) := by decide +kernel
theorem d_M_walk_100 : decode prog_12_method_43_code 100 = .ok (.idiv, 1) := by decide +kernel
theorem d_M_walk_101 : decode prog_12_method_43_code 101 = .ok (.iconst 3, 1) := by decide +kernel
theorem d_M_walk_102 : decode prog_12_method_43_code 102 = .ok (.irem, 1) := by decide +kernel
theorem d_M_walk_103 : decode prog_12_method_43_code 103 = .ok (.istore 5, 2) := by decide +kernel
theorem d_M_walk_105 : decode prog_12_method_43_code 105 = .ok (.iload_n 3, 1) := by decide +kernel
theorem d_M_walk_106 : decode prog_12_method_43_code 106 = .ok (.iconst 2, 1) := by decide +kernel
theorem d_M_walk_107 : decode prog_12_method_43_code 107 = .ok (.irem, 1) := by decide +kernel
theorem d_M_walk_108 : decode prog_12_method_43_code 108 = .ok (.istore 6, 2) := by decide +kernel
theorem d_M_walk_110 : decode prog_12_method_43_code 110 = .ok (.iload 5, 2) := by decide +kernel
theorem d_M_walk_112 : decode prog_12_method_43_code 112 = .ok (.aload_n 0, 1) := by decide +kernel
theorem d_M_walk_113 : decode prog_12_method_43_code 113 = .ok (.getfield 23, 3) := by decide +kernel
theorem d_M_walk_116 : decode prog_12_method_43_code 116 = .ok (.iload 4, 2) := by decide +kernel
theorem d_M_walk_118 : decode prog_12_method_43_code 118 = .ok (.iaload, 1) := by decide +kernel
theorem d_M_walk_119 : decode prog_12_method_43_code 119 = .ok (.if_icmp .ge (-65), 3) := by decide +kernel
theorem d_M_walk_122 : decode prog_12_method_43_code 122 = .ok (.aload_n 0, 1) := by decide +kernel
theorem d_M_walk_123 : decode prog_12_method_43_code 123 = .ok (.getfield 26, 3) := by decide +kernel
theorem d_M_walk_126 : decode prog_12_method_43_code 126 = .ok (.iconst 3, 1) := by decide +kernel
theorem d_M_walk_127 : decode prog_12_method_43_code 127 = .ok (.iload 4, 2) := by decide +kernel
theorem d_M_walk_129 : decode prog_12_method_43_code 129 = .ok (.imul, 1) := by decide +kernel
theorem d_M_walk_130 : decode prog_12_method_43_code 130 = .ok (.iload 5, 2) := by decide +kernel
theorem d_M_walk_132 : decode prog_12_method_43_code 132 = .ok (.iadd, 1) := by decide +kernel
theorem d_M_walk_133 : decode prog_12_method_43_code 133 = .ok (.iaload, 1) := by decide +kernel
theorem d_M_walk_134 : decode prog_12_method_43_code 134 = .ok (.aload_n 0, 1) := by decide +kernel
theorem d_M_walk_135 : decode prog_12_method_43_code 135 = .ok (.getfield 103, 3) := by decide +kernel
theorem d_M_walk_138 : decode prog_12_method_43_code 138 = .ok (.iload_n 2, 1) := by decide +kernel
theorem d_M_walk_139 : decode prog_12_method_43_code 139 = .ok (.iaload, 1) := by decide +kernel
theorem d_M_walk_140 : decode prog_12_method_43_code 140 = .ok (.if_icmp .eq 6, 3) := by decide +kernel
theorem d_M_walk_143 : decode prog_12_method_43_code 143 = .ok (.goto (-89), 3) := by decide +kernel
theorem d_M_walk_146 : decode prog_12_method_43_code 146 = .ok (.aload_n 0, 1) := by decide +kernel
theorem d_M_walk_147 : decode prog_12_method_43_code 147 = .ok (.getfield 112, 3) := by decide +kernel
theorem d_M_walk_150 : decode prog_12_method_43_code 150 = .ok (.iload_n 2, 1) := by decide +kernel
theorem d_M_walk_151 : decode prog_12_method_43_code 151 = .ok (.iaload, 1) := by decide +kernel
theorem d_M_walk_152 : decode prog_12_method_43_code 152 = .ok (.aload_n 0, 1) := by decide +kernel
theorem d_M_walk_153 : decode prog_12_method_43_code 153 = .ok (.getfield 29, 3) := by decide +kernel
theorem d_M_walk_156 : decode prog_12_method_43_code 156 = .ok (.iconst 3, 1) := by decide +kernel
theorem d_M_walk_157 : decode prog_12_method_43_code 157 = .ok (.iload 4, 2) := by decide +kernel
theorem d_M_walk_159 : decode prog_12_method_43_code 159 = .ok (.imul, 1) := by decide +kernel
theorem d_M_walk_160 : decode prog_12_method_43_code 160 = .ok (.iload 5, 2) := by decide +kernel
theorem d_M_walk_162 : decode prog_12_method_43_code 162 = .ok (.iadd, 1) := by decide +kernel
theorem d_M_walk_163 : decode prog_12_method_43_code 163 = .ok (.iaload, 1) := by decide +kernel
theorem d_M_walk_164 : decode prog_12_method_43_code 164 = .ok (.iadd, 1) := by decide +kernel
theorem d_M_walk_165 : decode prog_12_method_43_code 165 = .ok (.istore 7, 2) := by decide +kernel
theorem d_M_walk_167 : decode prog_12_method_43_code 167 = .ok (.aload_n 0, 1) := by decide +kernel
theorem d_M_walk_168 : decode prog_12_method_43_code 168 = .ok (.getfield 115, 3) := by decide +kernel
theorem d_M_walk_171 : decode prog_12_method_43_code 171 = .ok (.iload_n 2, 1) := by decide +kernel
theorem d_M_walk_172 : decode prog_12_method_43_code 172 = .ok (.iaload, 1) := by decide +kernel
theorem d_M_walk_173 : decode prog_12_method_43_code 173 = .ok (.aload_n 0, 1) := by decide +kernel
theorem d_M_walk_174 : decode prog_12_method_43_code 174 = .ok (.getfield 32, 3) := by decide +kernel
theorem d_M_walk_177 : decode prog_12_method_43_code 177 = .ok (.iconst 3, 1) := by decide +kernel
theorem d_M_walk_178 : decode prog_12_method_43_code 178 = .ok (.iload 4, 2) := by decide +kernel
theorem d_M_walk_180 : decode prog_12_method_43_code 180 = .ok (.imul, 1) := by decide +kernel
theorem d_M_walk_181 : decode prog_12_method_43_code 181 = .ok (.iload 5, 2) := by decide +kernel
theorem d_M_walk_183 : decode prog_12_method_43_code 183 = .ok (.iadd, 1) := by decide +kernel
theorem d_M_walk_184 : decode prog_12_method_43_code 184 = .ok (.iaload, 1) := by decide +kernel
theorem d_M_walk_185 : decode prog_12_method_43_code 185 = .ok (.iadd, 1) := by decide +kernel
theorem d_M_walk_186 : decode prog_12_method_43_code 186 = .ok (.istore 8, 2) := by decide +kernel
theorem d_M_walk_188 : decode prog_12_method_43_code 188 = .ok (.aload_n 0, 1) := by decide +kernel
theorem d_M_walk_189 : decode prog_12_method_43_code 189 = .ok (.getfield 19, 3) := by decide +kernel
theorem d_M_walk_192 : decode prog_12_method_43_code 192 = .ok (.iload 4, 2) := by decide +kernel
theorem d_M_walk_194 : decode prog_12_method_43_code 194 = .ok (.iaload, 1) := by decide +kernel
theorem d_M_walk_195 : decode prog_12_method_43_code 195 = .ok (.iconst 2, 1) := by decide +kernel
theorem d_M_walk_196 : decode prog_12_method_43_code 196 = .ok (.if_icmp .eq 37, 3) := by decide +kernel
theorem d_M_walk_199 : decode prog_12_method_43_code 199 = .ok (.iload 5, 2) := by decide +kernel
theorem d_M_walk_201 : decode prog_12_method_43_code 201 = .ok (.ifCond .ne 169, 3) := by decide +kernel
theorem d_M_walk_204 : decode prog_12_method_43_code 204 = .ok (.iload 6, 2) := by decide +kernel
theorem d_M_walk_206 : decode prog_12_method_43_code 206 = .ok (.aload_n 0, 1) := by decide +kernel
theorem d_M_walk_207 : decode prog_12_method_43_code 207 = .ok (.getfield 106, 3) := by decide +kernel
theorem d_M_walk_210 : decode prog_12_method_43_code 210 = .ok (.iload_n 2, 1) := by decide +kernel
theorem d_M_walk_211 : decode prog_12_method_43_code 211 = .ok (.iaload, 1) := by decide +kernel
theorem d_M_walk_212 : decode prog_12_method_43_code 212 = .ok (.if_icmp .ne 158, 3) := by decide +kernel
theorem d_M_walk_215 : decode prog_12_method_43_code 215 = .ok (.aload_n 0, 1) := by decide +kernel
theorem d_M_walk_216 : decode prog_12_method_43_code 216 = .ok (.iload 4, 2) := by decide +kernel
theorem d_M_walk_218 : decode prog_12_method_43_code 218 = .ok (.iload 6, 2) := by decide +kernel
theorem d_M_walk_220 : decode prog_12_method_43_code 220 = .ok (.iload_n 1, 1) := by decide +kernel
theorem d_M_walk_221 : decode prog_12_method_43_code 221 = .ok (.iload_n 2, 1) := by decide +kernel
theorem d_M_walk_222 : decode prog_12_method_43_code 222 = .ok (.iadd, 1) := by decide +kernel
theorem d_M_walk_223 : decode prog_12_method_43_code 223 = .ok (.iload 7, 2) := by decide +kernel
theorem d_M_walk_225 : decode prog_12_method_43_code 225 = .ok (.iload 8, 2) := by decide +kernel
theorem d_M_walk_227 : decode prog_12_method_43_code 227 = .ok (.invokevirtual 261, 3) := by decide +kernel
theorem d_M_walk_230 : decode prog_12_method_43_code 230 = .ok (.goto 140, 3) := by decide +kernel
theorem d_M_walk_233 : decode prog_12_method_43_code 233 = .ok (.aload_n 0, 1) := by decide +kernel
theorem d_M_walk_234 : decode prog_12_method_43_code 234 = .ok (.getfield 99, 3) := by decide +kernel
theorem d_M_walk_237 : decode prog_12_method_43_code 237 = .ok (.iconst 2, 1) := by decide +kernel
theorem d_M_walk_238 : decode prog_12_method_43_code 238 = .ok (.iload 4, 2) := by decide +kernel
theorem d_M_walk_240 : decode prog_12_method_43_code 240 = .ok (.imul, 1) := by decide +kernel
theorem d_M_walk_241 : decode prog_12_method_43_code 241 = .ok (.iload 6, 2) := by decide +kernel
theorem d_M_walk_243 : decode prog_12_method_43_code 243 = .ok (.iadd, 1) := by decide +kernel
theorem d_M_walk_244 : decode prog_12_method_43_code 244 = .ok (.laload, 1) := by decide +kernel
theorem d_M_walk_245 : decode prog_12_method_43_code 245 = .ok (.lconst 0, 1) := by decide +kernel
theorem d_M_walk_246 : decode prog_12_method_43_code 246 = .ok (.lcmp, 1) := by decide +kernel
theorem d_M_walk_247 : decode prog_12_method_43_code 247 = .ok (.ifCond .le 123, 3) := by decide +kernel
theorem d_M_walk_250 : decode prog_12_method_43_code 250 = .ok (.aload_n 0, 1) := by decide +kernel
theorem d_M_walk_251 : decode prog_12_method_43_code 251 = .ok (.iload 4, 2) := by decide +kernel
theorem d_M_walk_253 : decode prog_12_method_43_code 253 = .ok (.iload 5, 2) := by decide +kernel
theorem d_M_walk_255 : decode prog_12_method_43_code 255 = .ok (.aload_n 0, 1) := by decide +kernel
theorem d_M_walk_256 : decode prog_12_method_43_code 256 = .ok (.getfield 106, 3) := by decide +kernel
theorem d_M_walk_259 : decode prog_12_method_43_code 259 = .ok (.iload_n 2, 1) := by decide +kernel
theorem d_M_walk_260 : decode prog_12_method_43_code 260 = .ok (.iaload, 1) := by decide +kernel
theorem d_M_walk_261 : decode prog_12_method_43_code 261 = .ok (.iload 6, 2) := by decide +kernel
theorem d_M_walk_263 : decode prog_12_method_43_code 263 = .ok (.invokevirtual 172, 3) := by decide +kernel
theorem d_M_walk_266 : decode prog_12_method_43_code 266 = .ok (.ifCond .eq 104, 3) := by decide +kernel
theorem d_M_walk_269 : decode prog_12_method_43_code 269 = .ok (.aload_n 0, 1) := by decide +kernel
theorem d_M_walk_270 : decode prog_12_method_43_code 270 = .ok (.getfield 118, 3) := by decide +kernel
theorem d_M_walk_273 : decode prog_12_method_43_code 273 = .ok (.iload_n 1, 1) := by decide +kernel
theorem d_M_walk_274 : decode prog_12_method_43_code 274 = .ok (.iload_n 2, 1) := by decide +kernel
theorem d_M_walk_275 : decode prog_12_method_43_code 275 = .ok (.iadd, 1) := by decide +kernel
theorem d_M_walk_276 : decode prog_12_method_43_code 276 = .ok (.bipush 8, 2) := by decide +kernel
theorem d_M_walk_278 : decode prog_12_method_43_code 278 = .ok (.iload 4, 2) := by decide +kernel
theorem d_M_walk_280 : decode prog_12_method_43_code 280 = .ok (.imul, 1) := by decide +kernel
theorem d_M_walk_281 : decode prog_12_method_43_code 281 = .ok (.iconst 2, 1) := by decide +kernel
theorem d_M_walk_282 : decode prog_12_method_43_code 282 = .ok (.iload 5, 2) := by decide +kernel
theorem d_M_walk_284 : decode prog_12_method_43_code 284 = .ok (.imul, 1) := by decide +kernel
theorem d_M_walk_285 : decode prog_12_method_43_code 285 = .ok (.iadd, 1) := by decide +kernel
theorem d_M_walk_286 : decode prog_12_method_43_code 286 = .ok (.iload 6, 2) := by decide +kernel
theorem d_M_walk_288 : decode prog_12_method_43_code 288 = .ok (.iadd, 1) := by decide +kernel
theorem d_M_walk_289 : decode prog_12_method_43_code 289 = .ok (.iastore, 1) := by decide +kernel
theorem d_M_walk_290 : decode prog_12_method_43_code 290 = .ok (.iinc 2 1, 3) := by decide +kernel
theorem d_M_walk_293 : decode prog_12_method_43_code 293 = .ok (.aload_n 0, 1) := by decide +kernel
theorem d_M_walk_294 : decode prog_12_method_43_code 294 = .ok (.getfield 103, 3) := by decide +kernel
theorem d_M_walk_297 : decode prog_12_method_43_code 297 = .ok (.iload_n 2, 1) := by decide +kernel
theorem d_M_walk_298 : decode prog_12_method_43_code 298 = .ok (.iload 4, 2) := by decide +kernel
theorem d_M_walk_300 : decode prog_12_method_43_code 300 = .ok (.iastore, 1) := by decide +kernel
theorem d_M_walk_301 : decode prog_12_method_43_code 301 = .ok (.aload_n 0, 1) := by decide +kernel
theorem d_M_walk_302 : decode prog_12_method_43_code 302 = .ok (.getfield 106, 3) := by decide +kernel
theorem d_M_walk_305 : decode prog_12_method_43_code 305 = .ok (.iload_n 2, 1) := by decide +kernel
theorem d_M_walk_306 : decode prog_12_method_43_code 306 = .ok (.iload 6, 2) := by decide +kernel
theorem d_M_walk_308 : decode prog_12_method_43_code 308 = .ok (.iastore, 1) := by decide +kernel
theorem d_M_walk_309 : decode prog_12_method_43_code 309 = .ok (.aload_n 0, 1) := by decide +kernel
theorem d_M_walk_310 : decode prog_12_method_43_code 310 = .ok (.getfield 109, 3) := by decide +kernel
theorem d_M_walk_313 : decode prog_12_method_43_code 313 = .ok (.iload_n 2, 1) := by decide +kernel
theorem d_M_walk_314 : decode prog_12_method_43_code 314 = .ok (.iconst 0, 1) := by decide +kernel
theorem d_M_walk_315 : decode prog_12_method_43_code 315 = .ok (.iastore, 1) := by decide +kernel
theorem d_M_walk_316 : decode prog_12_method_43_code 316 = .ok (.aload_n 0, 1) := by decide +kernel
theorem d_M_walk_317 : decode prog_12_method_43_code 317 = .ok (.getfield 112, 3) := by decide +kernel
theorem d_M_walk_320 : decode prog_12_method_43_code 320 = .ok (.iload_n 2, 1) := by decide +kernel
theorem d_M_walk_321 : decode prog_12_method_43_code 321 = .ok (.iload 7, 2) := by decide +kernel
theorem d_M_walk_323 : decode prog_12_method_43_code 323 = .ok (.aload_n 0, 1) := by decide +kernel
theorem d_M_walk_324 : decode prog_12_method_43_code 324 = .ok (.getfield 38, 3) := by decide +kernel
theorem d_M_walk_327 : decode prog_12_method_43_code 327 = .ok (.bipush 6, 2) := by decide +kernel
theorem d_M_walk_329 : decode prog_12_method_43_code 329 = .ok (.iload 4, 2) := by decide +kernel
theorem d_M_walk_331 : decode prog_12_method_43_code 331 = .ok (.imul, 1) := by decide +kernel
theorem d_M_walk_332 : decode prog_12_method_43_code 332 = .ok (.iconst 2, 1) := by decide +kernel
theorem d_M_walk_333 : decode prog_12_method_43_code 333 = .ok (.iload 5, 2) := by decide +kernel
theorem d_M_walk_335 : decode prog_12_method_43_code 335 = .ok (.imul, 1) := by decide +kernel
theorem d_M_walk_336 : decode prog_12_method_43_code 336 = .ok (.iadd, 1) := by decide +kernel
theorem d_M_walk_337 : decode prog_12_method_43_code 337 = .ok (.iload 6, 2) := by decide +kernel
theorem d_M_walk_339 : decode prog_12_method_43_code 339 = .ok (.iadd, 1) := by decide +kernel
theorem d_M_walk_340 : decode prog_12_method_43_code 340 = .ok (.iaload, 1) := by decide +kernel
theorem d_M_walk_341 : decode prog_12_method_43_code 341 = .ok (.iadd, 1) := by decide +kernel
theorem d_M_walk_342 : decode prog_12_method_43_code 342 = .ok (.iastore, 1) := by decide +kernel
theorem d_M_walk_343 : decode prog_12_method_43_code 343 = .ok (.aload_n 0, 1) := by decide +kernel
theorem d_M_walk_344 : decode prog_12_method_43_code 344 = .ok (.getfield 115, 3) := by decide +kernel
theorem d_M_walk_347 : decode prog_12_method_43_code 347 = .ok (.iload_n 2, 1) := by decide +kernel
theorem d_M_walk_348 : decode prog_12_method_43_code 348 = .ok (.iload 8, 2) := by decide +kernel
theorem d_M_walk_350 : decode prog_12_method_43_code 350 = .ok (.aload_n 0, 1) := by decide +kernel
theorem d_M_walk_351 : decode prog_12_method_43_code 351 = .ok (.getfield 41, 3) := by decide +kernel
theorem d_M_walk_354 : decode prog_12_method_43_code 354 = .ok (.bipush 6, 2) := by decide +kernel
theorem d_M_walk_356 : decode prog_12_method_43_code 356 = .ok (.iload 4, 2) := by decide +kernel
theorem d_M_walk_358 : decode prog_12_method_43_code 358 = .ok (.imul, 1) := by decide +kernel
theorem d_M_walk_359 : decode prog_12_method_43_code 359 = .ok (.iconst 2, 1) := by decide +kernel
theorem d_M_walk_360 : decode prog_12_method_43_code 360 = .ok (.iload 5, 2) := by decide +kernel
theorem d_M_walk_362 : decode prog_12_method_43_code 362 = .ok (.imul, 1) := by decide +kernel
theorem d_M_walk_363 : decode prog_12_method_43_code 363 = .ok (.iadd, 1) := by decide +kernel
theorem d_M_walk_364 : decode prog_12_method_43_code 364 = .ok (.iload 6, 2) := by decide +kernel
theorem d_M_walk_366 : decode prog_12_method_43_code 366 = .ok (.iadd, 1) := by decide +kernel
theorem d_M_walk_367 : decode prog_12_method_43_code 367 = .ok (.iaload, 1) := by decide +kernel
theorem d_M_walk_368 : decode prog_12_method_43_code 368 = .ok (.iadd, 1) := by decide +kernel
theorem d_M_walk_369 : decode prog_12_method_43_code 369 = .ok (.iastore, 1) := by decide +kernel
theorem d_M_walk_370 : decode prog_12_method_43_code 370 = .ok (.goto (-316), 3) := by decide +kernel
theorem d_M_walk_373 : decode prog_12_method_43_code 373 = .ok (.return_, 1) := by decide +kernel
theorem d_M_clearAll_0 : decode prog_12_method_44_code 0 = .ok (.iconst 0, 1) := by decide +kernel
theorem d_M_clearAll_1 : decode prog_12_method_44_code 1 = .ok (.istore_n 1, 1) := by decide +kernel
theorem d_M_clearAll_2 : decode prog_12_method_44_code 2 = .ok (.iload_n 1, 1) := by decide +kernel
theorem d_M_clearAll_3 : decode prog_12_method_44_code 3 = .ok (.sipush 192, 3) := by decide +kernel
theorem d_M_clearAll_6 : decode prog_12_method_44_code 6 = .ok (.if_icmp .ge 25, 3) := by decide +kernel
theorem d_M_clearAll_9 : decode prog_12_method_44_code 9 = .ok (.aload_n 0, 1) := by decide +kernel
theorem d_M_clearAll_10 : decode prog_12_method_44_code 10 = .ok (.getfield 90, 3) := by decide +kernel
theorem d_M_clearAll_13 : decode prog_12_method_44_code 13 = .ok (.iload_n 1, 1) := by decide +kernel
theorem d_M_clearAll_14 : decode prog_12_method_44_code 14 = .ok (.ldc 140, 2) := by decide +kernel
theorem d_M_clearAll_16 : decode prog_12_method_44_code 16 = .ok (.iastore, 1) := by decide +kernel
theorem d_M_clearAll_17 : decode prog_12_method_44_code 17 = .ok (.aload_n 0, 1) := by decide +kernel
theorem d_M_clearAll_18 : decode prog_12_method_44_code 18 = .ok (.getfield 93, 3) := by decide +kernel
theorem d_M_clearAll_21 : decode prog_12_method_44_code 21 = .ok (.iload_n 1, 1) := by decide +kernel
theorem d_M_clearAll_22 : decode prog_12_method_44_code 22 = .ok (.ldc 140, 2) := by decide +kernel
theorem d_M_clearAll_24 : decode prog_12_method_44_code 24 = .ok (.iastore, 1) := by decide +kernel
theorem d_M_clearAll_25 : decode prog_12_method_44_code 25 = .ok (.iinc 1 1, 3) := by decide +kernel
theorem d_M_clearAll_28 : decode prog_12_method_44_code 28 = .ok (.goto (-26), 3) := by decide +kernel
theorem d_M_clearAll_31 : decode prog_12_method_44_code 31 = .ok (.iconst 0, 1) := by decide +kernel
theorem d_M_clearAll_32 : decode prog_12_method_44_code 32 = .ok (.istore_n 1, 1) := by decide +kernel
theorem d_M_clearAll_33 : decode prog_12_method_44_code 33 = .ok (.iload_n 1, 1) := by decide +kernel
theorem d_M_clearAll_34 : decode prog_12_method_44_code 34 = .ok (.bipush 96, 2) := by decide +kernel
theorem d_M_clearAll_36 : decode prog_12_method_44_code 36 = .ok (.if_icmp .ge 17, 3) := by decide +kernel
theorem d_M_clearAll_39 : decode prog_12_method_44_code 39 = .ok (.aload_n 0, 1) := by decide +kernel
theorem d_M_clearAll_40 : decode prog_12_method_44_code 40 = .ok (.getfield 96, 3) := by decide +kernel
theorem d_M_clearAll_43 : decode prog_12_method_44_code 43 = .ok (.iload_n 1, 1) := by decide +kernel
theorem d_M_clearAll_44 : decode prog_12_method_44_code 44 = .ok (.ldc 140, 2) := by decide +kernel
theorem d_M_clearAll_46 : decode prog_12_method_44_code 46 = .ok (.iastore, 1) := by decide +kernel
theorem d_M_clearAll_47 : decode prog_12_method_44_code 47 = .ok (.iinc 1 1, 3) := by decide +kernel
theorem d_M_clearAll_50 : decode prog_12_method_44_code 50 = .ok (.goto (-17), 3) := by decide +kernel
theorem d_M_clearAll_53 : decode prog_12_method_44_code 53 = .ok (.aload_n 0, 1) := by decide +kernel
theorem d_M_clearAll_54 : decode prog_12_method_44_code 54 = .ok (.ldc 140, 2) := by decide +kernel
theorem d_M_clearAll_56 : decode prog_12_method_44_code 56 = .ok (.putfield 214, 3) := by decide +kernel
theorem d_M_clearAll_59 : decode prog_12_method_44_code 59 = .ok (.aload_n 0, 1) := by decide +kernel
theorem d_M_clearAll_60 : decode prog_12_method_44_code 60 = .ok (.ldc 140, 2) := by decide +kernel
theorem d_M_clearAll_62 : decode prog_12_method_44_code 62 = .ok (.putfield 217, 3) := by decide +kernel
theorem d_M_clearAll_65 : decode prog_12_method_44_code 65 = .ok (.aload_n 0, 1) := by decide +kernel
theorem d_M_clearAll_66 : decode prog_12_method_44_code 66 = .ok (.getfield 121, 3) := by decide +kernel
theorem d_M_clearAll_69 : decode prog_12_method_44_code 69 = .ok (.iconst 0, 1) := by decide +kernel
theorem d_M_clearAll_70 : decode prog_12_method_44_code 70 = .ok (.iconst 0, 1) := by decide +kernel
theorem d_M_clearAll_71 : decode prog_12_method_44_code 71 = .ok (.iastore, 1) := by decide +kernel
theorem d_M_clearAll_72 : decode prog_12_method_44_code 72 = .ok (.aload_n 0, 1) := by decide +kernel
theorem d_M_clearAll_73 : decode prog_12_method_44_code 73 = .ok (.getfield 121, 3) := by decide +kernel
theorem d_M_clearAll_76 : decode prog_12_method_44_code 76 = .ok (.iconst 1, 1) := by decide +kernel
theorem d_M_clearAll_77 : decode prog_12_method_44_code 77 = .ok (.iconst 0, 1) := by decide +kernel
theorem d_M_clearAll_78 : decode prog_12_method_44_code 78 = .ok (.iastore, 1) := by decide +kernel
theorem d_M_clearAll_79 : decode prog_12_method_44_code 79 = .ok (.return_, 1) := by decide +kernel
theorem d_M_analyse_0 : decode prog_12_method_45_code 0 = .ok (.aload_n 0, 1) := by decide +kernel
theorem d_M_analyse_1 : decode prog_12_method_45_code 1 = .ok (.iconst 0, 1) := by decide +kernel
theorem d_M_analyse_2 : decode prog_12_method_45_code 2 = .ok (.putfield 137, 3) := by decide +kernel
theorem d_M_analyse_5 : decode prog_12_method_45_code 5 = .ok (.aload_n 0, 1) := by decide +kernel
theorem d_M_analyse_6 : decode prog_12_method_45_code 6 = .ok (.iconst 0, 1) := by decide +kernel
theorem d_M_analyse_7 : decode prog_12_method_45_code 7 = .ok (.putfield 141, 3) := by decide +kernel
theorem d_M_analyse_10 : decode prog_12_method_45_code 10 = .ok (.aload_n 0, 1) := by decide +kernel
theorem d_M_analyse_11 : decode prog_12_method_45_code 11 = .ok (.invokevirtual 264, 3) := by decide +kernel
theorem d_M_analyse_14 : decode prog_12_method_45_code 14 = .ok (.ifCond .lt 5, 3) := by decide +kernel
theorem d_M_analyse_17 : decode prog_12_method_45_code 17 = .ok (.iconst (-1), 1) := by decide +kernel
theorem d_M_analyse_18 : decode prog_12_method_45_code 18 = .ok (.ireturn, 1) := by decide +kernel
theorem d_M_analyse_19 : decode prog_12_method_45_code 19 = .ok (.aload_n 0, 1) := by decide +kernel
theorem d_M_analyse_20 : decode prog_12_method_45_code 20 = .ok (.invokevirtual 267, 3) := by decide +kernel
theorem d_M_analyse_23 : decode prog_12_method_45_code 23 = .ok (.aload_n 0, 1) := by decide +kernel
theorem d_M_analyse_24 : decode prog_12_method_45_code 24 = .ok (.invokevirtual 270, 3) := by decide +kernel
theorem d_M_analyse_27 : decode prog_12_method_45_code 27 = .ok (.iconst 0, 1) := by decide +kernel
theorem d_M_analyse_28 : decode prog_12_method_45_code 28 = .ok (.istore_n 1, 1) := by decide +kernel
theorem d_M_analyse_29 : decode prog_12_method_45_code 29 = .ok (.iload_n 1, 1) := by decide +kernel
theorem d_M_analyse_30 : decode prog_12_method_45_code 30 = .ok (.aload_n 0, 1) := by decide +kernel
theorem d_M_analyse_31 : decode prog_12_method_45_code 31 = .ok (.getfield 16, 3) := by decide +kernel
theorem d_M_analyse_34 : decode prog_12_method_45_code 34 = .ok (.if_icmp .ge 57, 3) := by decide +kernel
theorem d_M_analyse_37 : decode prog_12_method_45_code 37 = .ok (.aload_n 0, 1) := by decide +kernel
theorem d_M_analyse_38 : decode prog_12_method_45_code 38 = .ok (.getfield 53, 3) := by decide +kernel
theorem d_M_analyse_41 : decode prog_12_method_45_code 41 = .ok (.iload_n 1, 1) := by decide +kernel
theorem d_M_analyse_42 : decode prog_12_method_45_code 42 = .ok (.iconst 0, 1) := by decide +kernel
theorem d_M_analyse_43 : decode prog_12_method_45_code 43 = .ok (.iastore, 1) := by decide +kernel
theorem d_M_analyse_44 : decode prog_12_method_45_code 44 = .ok (.aload_n 0, 1) := by decide +kernel
theorem d_M_analyse_45 : decode prog_12_method_45_code 45 = .ok (.getfield 26, 3) := by decide +kernel
theorem d_M_analyse_48 : decode prog_12_method_45_code 48 = .ok (.iconst 3, 1) := by decide +kernel
theorem d_M_analyse_49 : decode prog_12_method_45_code 49 = .ok (.iload_n 1, 1) := by decide +kernel
theorem d_M_analyse_50 : decode prog_12_method_45_code 50 = .ok (.imul, 1) := by decide +kernel
theorem d_M_analyse_51 : decode prog_12_method_45_code 51 = .ok (.iconst 1, 1) := by decide +kernel
theorem d_M_analyse_52 : decode prog_12_method_45_code 52 = .ok (.iadd, 1) := by decide +kernel
theorem d_M_analyse_53 : decode prog_12_method_45_code 53 = .ok (.iaload, 1) := by decide +kernel
theorem d_M_analyse_54 : decode prog_12_method_45_code 54 = .ok (.istore_n 2, 1) := by decide +kernel
theorem d_M_analyse_55 : decode prog_12_method_45_code 55 = .ok (.aload_n 0, 1) := by decide +kernel
theorem d_M_analyse_56 : decode prog_12_method_45_code 56 = .ok (.getfield 19, 3) := by decide +kernel
theorem d_M_analyse_59 : decode prog_12_method_45_code 59 = .ok (.iload_n 1, 1) := by decide +kernel
theorem d_M_analyse_60 : decode prog_12_method_45_code 60 = .ok (.iaload, 1) := by decide +kernel
theorem d_M_analyse_61 : decode prog_12_method_45_code 61 = .ok (.iconst 3, 1) := by decide +kernel
theorem d_M_analyse_62 : decode prog_12_method_45_code 62 = .ok (.if_icmp .ne 23, 3) := by decide +kernel
theorem d_M_analyse_65 : decode prog_12_method_45_code 65 = .ok (.iload_n 2, 1) := by decide +kernel
theorem d_M_analyse_66 : decode prog_12_method_45_code 66 = .ok (.ifCond .lt 19, 3) := by decide +kernel
theorem d_M_analyse_69 : decode prog_12_method_45_code 69 = .ok (.aload_n 0, 1) := by decide +kernel
theorem d_M_analyse_70 : decode prog_12_method_45_code 70 = .ok (.getfield 77, 3) := by decide +kernel
theorem d_M_analyse_73 : decode prog_12_method_45_code 73 = .ok (.iconst 2, 1) := by decide +kernel
theorem d_M_analyse_74 : decode prog_12_method_45_code 74 = .ok (.iload_n 2, 1) := by decide +kernel
theorem d_M_analyse_75 : decode prog_12_method_45_code 75 = .ok (.imul, 1) := by decide +kernel
theorem d_M_analyse_76 : decode prog_12_method_45_code 76 = .ok (.iaload, 1) := by decide +kernel
theorem d_M_analyse_77 : decode prog_12_method_45_code 77 = .ok (.bipush 8, 2) := by decide +kernel
theorem d_M_analyse_79 : decode prog_12_method_45_code 79 = .ok (.if_icmp .le 6, 3) := by decide +kernel
theorem d_M_analyse_82 : decode prog_12_method_45_code 82 = .ok (.bipush (-2), 2) := by decide +kernel
theorem d_M_analyse_84 : decode prog_12_method_45_code 84 = .ok (.ireturn, 1) := by decide +kernel
theorem d_M_analyse_85 : decode prog_12_method_45_code 85 = .ok (.iinc 1 1, 3) := by decide +kernel
theorem d_M_analyse_88 : decode prog_12_method_45_code 88 = .ok (.goto (-59), 3) := by decide +kernel
theorem d_M_analyse_91 : decode prog_12_method_45_code 91 = .ok (.iconst 0, 1) := by decide +kernel
theorem d_M_analyse_92 : decode prog_12_method_45_code 92 = .ok (.istore_n 1, 1) := by decide +kernel
theorem d_M_analyse_93 : decode prog_12_method_45_code 93 = .ok (.iload_n 1, 1) := by decide +kernel
theorem d_M_analyse_94 : decode prog_12_method_45_code 94 = .ok (.aload_n 0, 1) := by decide +kernel
theorem d_M_analyse_95 : decode prog_12_method_45_code 95 = .ok (.getfield 16, 3) := by decide +kernel
theorem d_M_analyse_98 : decode prog_12_method_45_code 98 = .ok (.if_icmp .ge 24, 3) := by decide +kernel
theorem d_M_analyse_101 : decode prog_12_method_45_code 101 = .ok (.aload_n 0, 1) := by decide +kernel
theorem d_M_analyse_102 : decode prog_12_method_45_code 102 = .ok (.getfield 19, 3) := by decide +kernel
theorem d_M_analyse_105 : decode prog_12_method_45_code 105 = .ok (.iload_n 1, 1) := by decide +kernel
theorem d_M_analyse_106 : decode prog_12_method_45_code 106 = .ok (.iaload, 1) := by decide +kernel
theorem d_M_analyse_107 : decode prog_12_method_45_code 107 = .ok (.iconst 3, 1) := by decide +kernel
theorem d_M_analyse_108 : decode prog_12_method_45_code 108 = .ok (.if_icmp .ne 8, 3) := by decide +kernel
theorem d_M_analyse_111 : decode prog_12_method_45_code 111 = .ok (.aload_n 0, 1) := by decide +kernel
theorem d_M_analyse_112 : decode prog_12_method_45_code 112 = .ok (.iload_n 1, 1) := by decide +kernel
theorem d_M_analyse_113 : decode prog_12_method_45_code 113 = .ok (.invokevirtual 273, 3) := by decide +kernel
theorem d_M_analyse_116 : decode prog_12_method_45_code 116 = .ok (.iinc 1 1, 3) := by decide +kernel
theorem d_M_analyse_119 : decode prog_12_method_45_code 119 = .ok (.goto (-26), 3) := by decide +kernel
theorem d_M_analyse_122 : decode prog_12_method_45_code 122 = .ok (.aload_n 0, 1) := by decide +kernel
theorem d_M_analyse_123 : decode prog_12_method_45_code 123 = .ok (.invokevirtual 276, 3) := by decide +kernel
theorem d_M_analyse_126 : decode prog_12_method_45_code 126 = .ok (.aload_n 0, 1) := by decide +kernel
theorem d_M_analyse_127 : decode prog_12_method_45_code 127 = .ok (.invokevirtual 279, 3) := by decide +kernel
theorem d_M_analyse_130 : decode prog_12_method_45_code 130 = .ok (.iconst 0, 1) := by decide +kernel
theorem d_M_analyse_131 : decode prog_12_method_45_code 131 = .ok (.istore_n 1, 1) := by decide +kernel
theorem d_M_analyse_132 : decode prog_12_method_45_code 132 = .ok (.iload_n 1, 1) := by decide +kernel
theorem d_M_analyse_133 : decode prog_12_method_45_code 133 = .ok (.aload_n 0, 1) := by decide +kernel
theorem d_M_analyse_134 : decode prog_12_method_45_code 134 = .ok (.getfield 16, 3) := by decide +kernel
theorem d_M_analyse_137 : decode prog_12_method_45_code 137 = .ok (.if_icmp .ge 51, 3) := by decide +kernel
theorem d_M_analyse_140 : decode prog_12_method_45_code 140 = .ok (.iconst 0, 1) := by decide +kernel
theorem d_M_analyse_141 : decode prog_12_method_45_code 141 = .ok (.istore_n 2, 1) := by decide +kernel
theorem d_M_analyse_142 : decode prog_12_method_45_code 142 = .ok (.iload_n 2, 1) := by decide +kernel
theorem d_M_analyse_143 : decode prog_12_method_45_code 143 = .ok (.aload_n 0, 1) := by decide +kernel
theorem d_M_analyse_144 : decode prog_12_method_45_code 144 = .ok (.iload_n 1, 1) := by decide +kernel
theorem d_M_analyse_145 : decode prog_12_method_45_code 145 = .ok (.invokevirtual 241, 3) := by decide +kernel
theorem d_M_analyse_148 : decode prog_12_method_45_code 148 = .ok (.if_icmp .ge 34, 3) := by decide +kernel
theorem d_M_analyse_151 : decode prog_12_method_45_code 151 = .ok (.aload_n 0, 1) := by decide +kernel
theorem d_M_analyse_152 : decode prog_12_method_45_code 152 = .ok (.iload_n 1, 1) := by decide +kernel
theorem d_M_analyse_153 : decode prog_12_method_45_code 153 = .ok (.iload_n 2, 1) := by decide +kernel
theorem d_M_analyse_154 : decode prog_12_method_45_code 154 = .ok (.invokevirtual 282, 3) := by decide +kernel
theorem d_M_analyse_157 : decode prog_12_method_45_code 157 = .ok (.aload_n 0, 1) := by decide +kernel
theorem d_M_analyse_158 : decode prog_12_method_45_code 158 = .ok (.invokevirtual 285, 3) := by decide +kernel
theorem d_M_analyse_161 : decode prog_12_method_45_code 161 = .ok (.aload_n 0, 1) := by decide +kernel
theorem d_M_analyse_162 : decode prog_12_method_45_code 162 = .ok (.getfield 237, 3) := by decide +kernel
theorem d_M_analyse_165 : decode prog_12_method_45_code 165 = .ok (.ldc2_w 288, 3) := by decide +kernel
theorem d_M_analyse_168 : decode prog_12_method_45_code 168 = .ok (.lcmp, 1) := by decide +kernel
theorem d_M_analyse_169 : decode prog_12_method_45_code 169 = .ok (.ifCond .gt 7, 3) := by decide +kernel
theorem d_M_analyse_172 : decode prog_12_method_45_code 172 = .ok (.aload_n 0, 1) := by decide +kernel
theorem d_M_analyse_173 : decode prog_12_method_45_code 173 = .ok (.invokevirtual 290, 3) := by decide +kernel
theorem d_M_analyse_176 : decode prog_12_method_45_code 176 = .ok (.iinc 2 1, 3) := by decide +kernel
theorem d_M_analyse_179 : decode prog_12_method_45_code 179 = .ok (.goto (-37), 3) := by decide +kernel
theorem d_M_analyse_182 : decode prog_12_method_45_code 182 = .ok (.iinc 1 1, 3) := by decide +kernel
theorem d_M_analyse_185 : decode prog_12_method_45_code 185 = .ok (.goto (-53), 3) := by decide +kernel
theorem d_M_analyse_188 : decode prog_12_method_45_code 188 = .ok (.aload_n 0, 1) := by decide +kernel
theorem d_M_analyse_189 : decode prog_12_method_45_code 189 = .ok (.iconst 1, 1) := by decide +kernel
theorem d_M_analyse_190 : decode prog_12_method_45_code 190 = .ok (.putfield 141, 3) := by decide +kernel
theorem d_M_analyse_193 : decode prog_12_method_45_code 193 = .ok (.iconst 0, 1) := by decide +kernel
theorem d_M_analyse_194 : decode prog_12_method_45_code 194 = .ok (.istore_n 1, 1) := by decide +kernel
theorem d_M_analyse_195 : decode prog_12_method_45_code 195 = .ok (.iconst 0, 1) := by decide +kernel
theorem d_M_analyse_196 : decode prog_12_method_45_code 196 = .ok (.istore_n 2, 1) := by decide +kernel
theorem d_M_analyse_197 : decode prog_12_method_45_code 197 = .ok (.iload_n 2, 1) := by decide +kernel
theorem d_M_analyse_198 : decode prog_12_method_45_code 198 = .ok (.aload_n 0, 1) := by decide +kernel
theorem d_M_analyse_199 : decode prog_12_method_45_code 199 = .ok (.getfield 16, 3) := by decide +kernel
theorem d_M_analyse_202 : decode prog_12_method_45_code 202 = .ok (.if_icmp .ge 30, 3) := by decide +kernel
theorem d_M_analyse_205 : decode prog_12_method_45_code 205 = .ok (.iload_n 1, 1) := by decide +kernel
