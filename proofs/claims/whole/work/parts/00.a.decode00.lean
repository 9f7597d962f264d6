theorem d_T_init_0 : decode prog_1_method_1_code 0 = .ok (.aload_n 0, 1) := by decide +kernel
theorem d_T_init_1 : decode prog_1_method_1_code 1 = .ok (.invokespecial 3, 3) := by decide +kernel
theorem d_T_init_4 : decode prog_1_method_1_code 4 = .ok (.aload_n 0, 1) := by decide +kernel
theorem d_T_init_5 : decode prog_1_method_1_code 5 = .ok (.new 9, 3) := by decide +kernel
theorem d_T_init_8 : decode prog_1_method_1_code 8 = .ok (.dup, 1) := by decide +kernel
theorem d_T_init_9 : decode prog_1_method_1_code 9 = .ok (.invokespecial 11, 3) := by decide +kernel
theorem d_T_init_12 : decode prog_1_method_1_code 12 = .ok (.putfield 12, 3) := by decide +kernel
theorem d_T_init_15 : decode prog_1_method_1_code 15 = .ok (.aload_n 0, 1) := by decide +kernel
theorem d_T_init_16 : decode prog_1_method_1_code 16 = .ok (.new 16, 3) := by decide +kernel
theorem d_T_init_19 : decode prog_1_method_1_code 19 = .ok (.dup, 1) := by decide +kernel
theorem d_T_init_20 : decode prog_1_method_1_code 20 = .ok (.aload_n 0, 1) := by decide +kernel
theorem d_T_init_21 : decode prog_1_method_1_code 21 = .ok (.getfield 12, 3) := by decide +kernel
theorem d_T_init_24 : decode prog_1_method_1_code 24 = .ok (.invokespecial 18, 3) := by decide +kernel
theorem d_T_init_27 : decode prog_1_method_1_code 27 = .ok (.putfield 21, 3) := by decide +kernel
theorem d_T_init_30 : decode prog_1_method_1_code 30 = .ok (.aload_n 0, 1) := by decide +kernel
theorem d_T_init_31 : decode prog_1_method_1_code 31 = .ok (.new 25, 3) := by decide +kernel
theorem d_T_init_34 : decode prog_1_method_1_code 34 = .ok (.dup, 1) := by decide +kernel
theorem d_T_init_35 : decode prog_1_method_1_code 35 = .ok (.aload_n 0, 1) := by decide +kernel
theorem d_T_init_36 : decode prog_1_method_1_code 36 = .ok (.getfield 12, 3) := by decide +kernel
theorem d_T_init_39 : decode prog_1_method_1_code 39 = .ok (.aload_n 0, 1) := by decide +kernel
theorem d_T_init_40 : decode prog_1_method_1_code 40 = .ok (.getfield 21, 3) := by decide +kernel
theorem d_T_init_43 : decode prog_1_method_1_code 43 = .ok (.invokespecial 27, 3) := by decide +kernel
theorem d_T_init_46 : decode prog_1_method_1_code 46 = .ok (.putfield 30, 3) := by decide +kernel
theorem d_T_init_49 : decode prog_1_method_1_code 49 = .ok (.new 34, 3) := by decide +kernel
theorem d_T_init_52 : decode prog_1_method_1_code 52 = .ok (.dup, 1) := by decide +kernel
theorem d_T_init_53 : decode prog_1_method_1_code 53 = .ok (.aload_n 0, 1) := by decide +kernel
theorem d_T_init_54 : decode prog_1_method_1_code 54 = .ok (.getfield 12, 3) := by decide +kernel
theorem d_T_init_57 : decode prog_1_method_1_code 57 = .ok (.aload_n 0, 1) := by decide +kernel
theorem d_T_init_58 : decode prog_1_method_1_code 58 = .ok (.getfield 21, 3) := by decide +kernel
theorem d_T_init_61 : decode prog_1_method_1_code 61 = .ok (.invokespecial 36, 3) := by decide +kernel
theorem d_T_init_64 : decode prog_1_method_1_code 64 = .ok (.astore_n 1, 1) := by decide +kernel
theorem d_T_init_65 : decode prog_1_method_1_code 65 = .ok (.new 37, 3) := by decide +kernel
theorem d_T_init_68 : decode prog_1_method_1_code 68 = .ok (.dup, 1) := by decide +kernel
theorem d_T_init_69 : decode prog_1_method_1_code 69 = .ok (.aload_n 0, 1) := by decide +kernel
theorem d_T_init_70 : decode prog_1_method_1_code 70 = .ok (.getfield 12, 3) := by decide +kernel
theorem d_T_init_73 : decode prog_1_method_1_code 73 = .ok (.aload_n 0, 1) := by decide +kernel
theorem d_T_init_74 : decode prog_1_method_1_code 74 = .ok (.getfield 30, 3) := by decide +kernel
theorem d_T_init_77 : decode prog_1_method_1_code 77 = .ok (.invokespecial 39, 3) := by decide +kernel
theorem d_T_init_80 : decode prog_1_method_1_code 80 = .ok (.astore_n 2, 1) := by decide +kernel
theorem d_T_init_81 : decode prog_1_method_1_code 81 = .ok (.aload_n 0, 1) := by decide +kernel
theorem d_T_init_82 : decode prog_1_method_1_code 82 = .ok (.new 42, 3) := by decide +kernel
theorem d_T_init_85 : decode prog_1_method_1_code 85 = .ok (.dup, 1) := by decide +kernel
theorem d_T_init_86 : decode prog_1_method_1_code 86 = .ok (.aload_n 0, 1) := by decide +kernel
theorem d_T_init_87 : decode prog_1_method_1_code 87 = .ok (.getfield 12, 3) := by decide +kernel
theorem d_T_init_90 : decode prog_1_method_1_code 90 = .ok (.aload_n 0, 1) := by decide +kernel
theorem d_T_init_91 : decode prog_1_method_1_code 91 = .ok (.getfield 30, 3) := by decide +kernel
theorem d_T_init_94 : decode prog_1_method_1_code 94 = .ok (.new 34, 3) := by decide +kernel
theorem d_T_init_97 : decode prog_1_method_1_code 97 = .ok (.dup, 1) := by decide +kernel
theorem d_T_init_98 : decode prog_1_method_1_code 98 = .ok (.aload_n 0, 1) := by decide +kernel
theorem d_T_init_99 : decode prog_1_method_1_code 99 = .ok (.getfield 12, 3) := by decide +kernel
theorem d_T_init_102 : decode prog_1_method_1_code 102 = .ok (.aload_n 0, 1) := by decide +kernel
theorem d_T_init_103 : decode prog_1_method_1_code 103 = .ok (.getfield 21, 3) := by decide +kernel
theorem d_T_init_106 : decode prog_1_method_1_code 106 = .ok (.invokespecial 36, 3) := by decide +kernel
theorem d_T_init_109 : decode prog_1_method_1_code 109 = .ok (.new 34, 3) := by decide +kernel
theorem d_T_init_112 : decode prog_1_method_1_code 112 = .ok (.dup, 1) := by decide +kernel
theorem d_T_init_113 : decode prog_1_method_1_code 113 = .ok (.aload_n 0, 1) := by decide +kernel
theorem d_T_init_114 : decode prog_1_method_1_code 114 = .ok (.getfield 12, 3) := by decide +kernel
theorem d_T_init_117 : decode prog_1_method_1_code 117 = .ok (.aload_n 0, 1) := by decide +kernel
theorem d_T_init_118 : decode prog_1_method_1_code 118 = .ok (.getfield 21, 3) := by decide +kernel
theorem d_T_init_121 : decode prog_1_method_1_code 121 = .ok (.invokespecial 36, 3) := by decide +kernel
theorem d_T_init_124 : decode prog_1_method_1_code 124 = .ok (.invokespecial 44, 3) := by decide +kernel
theorem d_T_init_127 : decode prog_1_method_1_code 127 = .ok (.putfield 47, 3) := by decide +kernel
theorem d_T_init_130 : decode prog_1_method_1_code 130 = .ok (.aload_n 0, 1) := by decide +kernel
theorem d_T_init_131 : decode prog_1_method_1_code 131 = .ok (.new 51, 3) := by decide +kernel
theorem d_T_init_134 : decode prog_1_method_1_code 134 = .ok (.dup, 1) := by decide +kernel
theorem d_T_init_135 : decode prog_1_method_1_code 135 = .ok (.aload_n 0, 1) := by decide +kernel
theorem d_T_init_136 : decode prog_1_method_1_code 136 = .ok (.getfield 12, 3) := by decide +kernel
theorem d_T_init_139 : decode prog_1_method_1_code 139 = .ok (.aload_n 0, 1) := by decide +kernel
theorem d_T_init_140 : decode prog_1_method_1_code 140 = .ok (.getfield 30, 3) := by decide +kernel
theorem d_T_init_143 : decode prog_1_method_1_code 143 = .ok (.aload_n 1, 1) := by decide +kernel
theorem d_T_init_144 : decode prog_1_method_1_code 144 = .ok (.aload_n 2, 1) := by decide +kernel
theorem d_T_init_145 : decode prog_1_method_1_code 145 = .ok (.invokespecial 53, 3) := by decide +kernel
theorem d_T_init_148 : decode prog_1_method_1_code 148 = .ok (.putfield 56, 3) := by decide +kernel
theorem d_T_init_151 : decode prog_1_method_1_code 151 = .ok (.aload_n 0, 1) := by decide +kernel
theorem d_T_init_152 : decode prog_1_method_1_code 152 = .ok (.new 60, 3) := by decide +kernel
theorem d_T_init_155 : decode prog_1_method_1_code 155 = .ok (.dup, 1) := by decide +kernel
theorem d_T_init_156 : decode prog_1_method_1_code 156 = .ok (.aload_n 0, 1) := by decide +kernel
theorem d_T_init_157 : decode prog_1_method_1_code 157 = .ok (.getfield 12, 3) := by decide +kernel
theorem d_T_init_160 : decode prog_1_method_1_code 160 = .ok (.aload_n 0, 1) := by decide +kernel
theorem d_T_init_161 : decode prog_1_method_1_code 161 = .ok (.getfield 30, 3) := by decide +kernel
theorem d_T_init_164 : decode prog_1_method_1_code 164 = .ok (.aload_n 1, 1) := by decide +kernel
theorem d_T_init_165 : decode prog_1_method_1_code 165 = .ok (.aload_n 2, 1) := by decide +kernel
theorem d_T_init_166 : decode prog_1_method_1_code 166 = .ok (.invokespecial 62, 3) := by decide +kernel
theorem d_T_init_169 : decode prog_1_method_1_code 169 = .ok (.putfield 63, 3) := by decide +kernel
theorem d_T_init_172 : decode prog_1_method_1_code 172 = .ok (.return_, 1) := by decide +kernel
theorem d_T_clock_0 : decode prog_1_method_2_code 0 = .ok (.iload_n 1, 1) := by decide +kernel
theorem d_T_clock_1 : decode prog_1_method_2_code 1 = .ok (.iconst 2, 1) := by decide +kernel
theorem d_T_clock_2 : decode prog_1_method_2_code 2 = .ok (.ldc 67, 2) := by decide +kernel
theorem d_T_clock_4 : decode prog_1_method_2_code 4 = .ok (.invokestatic 68, 3) := by decide +kernel
theorem d_T_clock_7 : decode prog_1_method_2_code 7 = .ok (.ifCond .eq 14, 3) := by decide +kernel
theorem d_T_clock_10 : decode prog_1_method_2_code 10 = .ok (.iload_n 2, 1) := by decide +kernel
theorem d_T_clock_11 : decode prog_1_method_2_code 11 = .ok (.iconst 1, 1) := by decide +kernel
theorem d_T_clock_12 : decode prog_1_method_2_code 12 = .ok (.iload_n 1, 1) := by decide +kernel
theorem d_T_clock_13 : decode prog_1_method_2_code 13 = .ok (.iconst 1, 1) := by decide +kernel
theorem d_T_clock_14 : decode prog_1_method_2_code 14 = .ok (.isub, 1) := by decide +kernel
theorem d_T_clock_15 : decode prog_1_method_2_code 15 = .ok (.invokestatic 68, 3) := by decide +kernel
theorem d_T_clock_18 : decode prog_1_method_2_code 18 = .ok (.ifCond .ne 11, 3) := by decide +kernel
theorem d_T_clock_21 : decode prog_1_method_2_code 21 = .ok (.new 72, 3) := by decide +kernel
theorem d_T_clock_24 : decode prog_1_method_2_code 24 = .ok (.dup, 1) := by decide +kernel
theorem d_T_clock_25 : decode prog_1_method_2_code 25 = .ok (.invokespecial 74, 3) := by decide +kernel
theorem d_T_clock_28 : decode prog_1_method_2_code 28 = .ok (.athrow, 1) := by decide +kernel
theorem d_T_clock_29 : decode prog_1_method_2_code 29 = .ok (.aload_n 0, 1) := by decide +kernel
theorem d_T_clock_30 : decode prog_1_method_2_code 30 = .ok (.getfield 12, 3) := by decide +kernel
theorem d_T_clock_33 : decode prog_1_method_2_code 33 = .ok (.iload_n 1, 1) := by decide +kernel
theorem d_T_clock_34 : decode prog_1_method_2_code 34 = .ok (.putfield 75, 3) := by decide +kernel
theorem d_T_clock_37 : decode prog_1_method_2_code 37 = .ok (.aload_n 0, 1) := by decide +kernel
theorem d_T_clock_38 : decode prog_1_method_2_code 38 = .ok (.getfield 12, 3) := by decide +kernel
theorem d_T_clock_41 : decode prog_1_method_2_code 41 = .ok (.iload_n 2, 1) := by decide +kernel
theorem d_T_clock_42 : decode prog_1_method_2_code 42 = .ok (.putfield 79, 3) := by decide +kernel
theorem d_T_clock_45 : decode prog_1_method_2_code 45 = .ok (.aload_n 0, 1) := by decide +kernel
theorem d_T_clock_46 : decode prog_1_method_2_code 46 = .ok (.iconst 0, 1) := by decide +kernel
theorem d_T_clock_47 : decode prog_1_method_2_code 47 = .ok (.putfield 82, 3) := by decide +kernel
theorem d_T_clock_50 : decode prog_1_method_2_code 50 = .ok (.return_, 1) := by decide +kernel
theorem d_T_input_0 : decode prog_1_method_3_code 0 = .ok (.iload_n 1, 1) := by decide +kernel
theorem d_T_input_1 : decode prog_1_method_3_code 1 = .ok (.iload_n 2, 1) := by decide +kernel
theorem d_T_input_2 : decode prog_1_method_3_code 2 = .ok (.invokestatic 86, 3) := by decide +kernel
theorem d_T_input_5 : decode prog_1_method_3_code 5 = .ok (.ifCond .eq 12, 3) := by decide +kernel
theorem d_T_input_8 : decode prog_1_method_3_code 8 = .ok (.iload_n 3, 1) := by decide +kernel
theorem d_T_input_9 : decode prog_1_method_3_code 9 = .ok (.iload 4, 2) := by decide +kernel
theorem d_T_input_11 : decode prog_1_method_3_code 11 = .ok (.invokestatic 86, 3) := by decide +kernel
theorem d_T_input_14 : decode prog_1_method_3_code 14 = .ok (.ifCond .ne 11, 3) := by decide +kernel
theorem d_T_input_17 : decode prog_1_method_3_code 17 = .ok (.new 72, 3) := by decide +kernel
theorem d_T_input_20 : decode prog_1_method_3_code 20 = .ok (.dup, 1) := by decide +kernel
theorem d_T_input_21 : decode prog_1_method_3_code 21 = .ok (.invokespecial 74, 3) := by decide +kernel
theorem d_T_input_24 : decode prog_1_method_3_code 24 = .ok (.athrow, 1) := by decide +kernel
theorem d_T_input_25 : decode prog_1_method_3_code 25 = .ok (.aload_n 0, 1) := by decide +kernel
theorem d_T_input_26 : decode prog_1_method_3_code 26 = .ok (.iconst 1, 1) := by decide +kernel
theorem d_T_input_27 : decode prog_1_method_3_code 27 = .ok (.iconst 0, 1) := by decide +kernel
theorem d_T_input_28 : decode prog_1_method_3_code 28 = .ok (.invokevirtual 90, 3) := by decide +kernel
theorem d_T_input_31 : decode prog_1_method_3_code 31 = .ok (.istore 5, 2) := by decide +kernel
theorem d_T_input_33 : decode prog_1_method_3_code 33 = .ok (.iload 5, 2) := by decide +kernel
theorem d_T_input_35 : decode prog_1_method_3_code 35 = .ok (.ldc 94, 2) := by decide +kernel
theorem d_T_input_37 : decode prog_1_method_3_code 37 = .ok (.if_icmp .eq 28, 3) := by decide +kernel
theorem d_T_input_40 : decode prog_1_method_3_code 40 = .ok (.aload_n 0, 1) := by decide +kernel
theorem d_T_input_41 : decode prog_1_method_3_code 41 = .ok (.getfield 12, 3) := by decide +kernel
theorem d_T_input_44 : decode prog_1_method_3_code 44 = .ok (.iload 5, 2) := by decide +kernel
theorem d_T_input_46 : decode prog_1_method_3_code 46 = .ok (.iconst 0, 1) := by decide +kernel
theorem d_T_input_47 : decode prog_1_method_3_code 47 = .ok (.iload_n 1, 1) := by decide +kernel
theorem d_T_input_48 : decode prog_1_method_3_code 48 = .ok (.iload_n 2, 1) := by decide +kernel
theorem d_T_input_49 : decode prog_1_method_3_code 49 = .ok (.invokevirtual 95, 3) := by decide +kernel
theorem d_T_input_52 : decode prog_1_method_3_code 52 = .ok (.aload_n 0, 1) := by decide +kernel
theorem d_T_input_53 : decode prog_1_method_3_code 53 = .ok (.getfield 12, 3) := by decide +kernel
theorem d_T_input_56 : decode prog_1_method_3_code 56 = .ok (.iload 5, 2) := by decide +kernel
theorem d_T_input_58 : decode prog_1_method_3_code 58 = .ok (.iconst 1, 1) := by decide +kernel
theorem d_T_input_59 : decode prog_1_method_3_code 59 = .ok (.iload_n 3, 1) := by decide +kernel
theorem d_T_input_60 : decode prog_1_method_3_code 60 = .ok (.iload 4, 2) := by decide +kernel
theorem d_T_input_62 : decode prog_1_method_3_code 62 = .ok (.invokevirtual 95, 3) := by decide +kernel
theorem d_T_input_65 : decode prog_1_method_3_code 65 = .ok (.iload 5, 2) := by decide +kernel
theorem d_T_input_67 : decode prog_1_method_3_code 67 = .ok (.ireturn, 1) := by decide +kernel
theorem d_T_gate_0 : decode prog_1_method_4_code 0 = .ok (.iload_n 1, 1) := by decide +kernel
theorem d_T_gate_1 : decode prog_1_method_4_code 1 = .ok (.iconst 1, 1) := by decide +kernel
theorem d_T_gate_2 : decode prog_1_method_4_code 2 = .ok (.iconst 3, 1) := by decide +kernel
theorem d_T_gate_3 : decode prog_1_method_4_code 3 = .ok (.invokestatic 68, 3) := by decide +kernel
theorem d_T_gate_6 : decode prog_1_method_4_code 6 = .ok (.ifCond .ne 11, 3) := by decide +kernel
theorem d_T_gate_9 : decode prog_1_method_4_code 9 = .ok (.new 72, 3) := by decide +kernel
theorem d_T_gate_12 : decode prog_1_method_4_code 12 = .ok (.dup, 1) := by decide +kernel
theorem d_T_gate_13 : decode prog_1_method_4_code 13 = .ok (.invokespecial 74, 3) := by decide +kernel
theorem d_T_gate_16 : decode prog_1_method_4_code 16 = .ok (.athrow, 1) := by decide +kernel
theorem d_T_gate_17 : decode prog_1_method_4_code 17 = .ok (.aload_n 0, 1) := by decide +kernel
theorem d_T_gate_18 : decode prog_1_method_4_code 18 = .ok (.iconst 2, 1) := by decide +kernel
theorem d_T_gate_19 : decode prog_1_method_4_code 19 = .ok (.iload_n 1, 1) := by decide +kernel
theorem d_T_gate_20 : decode prog_1_method_4_code 20 = .ok (.invokevirtual 90, 3) := by decide +kernel
theorem d_T_gate_23 : decode prog_1_method_4_code 23 = .ok (.ireturn, 1) := by decide +kernel
theorem d_T_register_0 : decode prog_1_method_5_code 0 = .ok (.aload_n 0, 1) := by decide +kernel
theorem d_T_register_1 : decode prog_1_method_5_code 1 = .ok (.iconst 3, 1) := by decide +kernel
theorem d_T_register_2 : decode prog_1_method_5_code 2 = .ok (.iconst 2, 1) := by decide +kernel
theorem d_T_register_3 : decode prog_1_method_5_code 3 = .ok (.invokevirtual 90, 3) := by decide +kernel
theorem d_T_register_6 : decode prog_1_method_5_code 6 = .ok (.ireturn, 1) := by decide +kernel
theorem d_T_output_0 : decode prog_1_method_6_code 0 = .ok (.aload_n 0, 1) := by decide +kernel
theorem d_T_output_1 : decode prog_1_method_6_code 1 = .ok (.iconst 4, 1) := by decide +kernel
theorem d_T_output_2 : decode prog_1_method_6_code 2 = .ok (.iconst 1, 1) := by decide +kernel
theorem d_T_output_3 : decode prog_1_method_6_code 3 = .ok (.invokevirtual 90, 3) := by decide +kernel
theorem d_T_output_6 : decode prog_1_method_6_code 6 = .ok (.ireturn, 1) := by decide +kernel
theorem d_T_wire_0 : decode prog_1_method_7_code 0 = .ok (.aload_n 0, 1) := by decide +kernel
theorem d_T_wire_1 : decode prog_1_method_7_code 1 = .ok (.getfield 12, 3) := by decide +kernel
theorem d_T_wire_4 : decode prog_1_method_7_code 4 = .ok (.iload_n 1, 1) := by decide +kernel
theorem d_T_wire_5 : decode prog_1_method_7_code 5 = .ok (.iload_n 2, 1) := by decide +kernel
theorem d_T_wire_6 : decode prog_1_method_7_code 6 = .ok (.invokevirtual 99, 3) := by decide +kernel
theorem d_T_wire_9 : decode prog_1_method_7_code 9 = .ok (.ifCond .eq 24, 3) := by decide +kernel
theorem d_T_wire_12 : decode prog_1_method_7_code 12 = .ok (.aload_n 0, 1) := by decide +kernel
theorem d_T_wire_13 : decode prog_1_method_7_code 13 = .ok (.getfield 12, 3) := by decide +kernel
theorem d_T_wire_16 : decode prog_1_method_7_code 16 = .ok (.iload_n 3, 1) := by decide +kernel
theorem d_T_wire_17 : decode prog_1_method_7_code 17 = .ok (.invokevirtual 102, 3) := by decide +kernel
theorem d_T_wire_20 : decode prog_1_method_7_code 20 = .ok (.ifCond .eq 13, 3) := by decide +kernel
theorem d_T_wire_23 : decode prog_1_method_7_code 23 = .ok (.iload 4, 2) := by decide +kernel
theorem d_T_wire_25 : decode prog_1_method_7_code 25 = .ok (.iload 5, 2) := by decide +kernel
theorem d_T_wire_27 : decode prog_1_method_7_code 27 = .ok (.invokestatic 106, 3) := by decide +kernel
theorem d_T_wire_30 : decode prog_1_method_7_code 30 = .ok (.ifCond .ne 11, 3) := by decide +kernel
theorem d_T_wire_33 : decode prog_1_method_7_code 33 = .ok (.new 72, 3) := by decide +kernel
theorem d_T_wire_36 : decode prog_1_method_7_code 36 = .ok (.dup, 1) := by decide +kernel
theorem d_T_wire_37 : decode prog_1_method_7_code 37 = .ok (.invokespecial 74, 3) := by decide +kernel
theorem d_T_wire_40 : decode prog_1_method_7_code 40 = .ok (.athrow, 1) := by decide +kernel
theorem d_T_wire_41 : decode prog_1_method_7_code 41 = .ok (.aload_n 0, 1) := by decide +kernel
theorem d_T_wire_42 : decode prog_1_method_7_code 42 = .ok (.getfield 12, 3) := by decide +kernel
theorem d_T_wire_45 : decode prog_1_method_7_code 45 = .ok (.iload_n 1, 1) := by decide +kernel
theorem d_T_wire_46 : decode prog_1_method_7_code 46 = .ok (.iconst 3, 1) := by decide +kernel
theorem d_T_wire_47 : decode prog_1_method_7_code 47 = .ok (.imul, 1) := by decide +kernel
theorem d_T_wire_48 : decode prog_1_method_7_code 48 = .ok (.iload_n 2, 1) := by decide +kernel
theorem d_T_wire_49 : decode prog_1_method_7_code 49 = .ok (.iadd, 1) := by decide +kernel
theorem d_T_wire_50 : decode prog_1_method_7_code 50 = .ok (.iload_n 3, 1) := by decide +kernel
theorem d_T_wire_51 : decode prog_1_method_7_code 51 = .ok (.iload 4, 2) := by decide +kernel
theorem d_T_wire_53 : decode prog_1_method_7_code 53 = .ok (.iload 5, 2) := by decide +kernel
theorem d_T_wire_55 : decode prog_1_method_7_code 55 = .ok (.invokevirtual 109, 3) := by decide +kernel
theorem d_T_wire_58 : decode prog_1_method_7_code 58 = .ok (.aload_n 0, 1) := by decide +kernel
theorem d_T_wire_59 : decode prog_1_method_7_code 59 = .ok (.iconst 0, 1) := by decide +kernel
theorem d_T_wire_60 : decode prog_1_method_7_code 60 = .ok (.putfield 82, 3) := by decide +kernel
theorem d_T_wire_63 : decode prog_1_method_7_code 63 = .ok (.return_, 1) := by decide +kernel
theorem d_T_sense_0 : decode prog_1_method_8_code 0 = .ok (.aload_n 0, 1) := by decide +kernel
theorem d_T_sense_1 : decode prog_1_method_8_code 1 = .ok (.getfield 12, 3) := by decide +kernel
theorem d_T_sense_4 : decode prog_1_method_8_code 4 = .ok (.iload_n 1, 1) := by decide +kernel
theorem d_T_sense_5 : decode prog_1_method_8_code 5 = .ok (.iload_n 2, 1) := by decide +kernel
theorem d_T_sense_6 : decode prog_1_method_8_code 6 = .ok (.invokevirtual 99, 3) := by decide +kernel
theorem d_T_sense_9 : decode prog_1_method_8_code 9 = .ok (.ifCond .eq 25, 3) := by decide +kernel
theorem d_T_sense_12 : decode prog_1_method_8_code 12 = .ok (.aload_n 0, 1) := by decide +kernel
theorem d_T_sense_13 : decode prog_1_method_8_code 13 = .ok (.getfield 12, 3) := by decide +kernel
theorem d_T_sense_16 : decode prog_1_method_8_code 16 = .ok (.getfield 112, 3) := by decide +kernel
theorem d_T_sense_19 : decode prog_1_method_8_code 19 = .ok (.iload_n 1, 1) := by decide +kernel
theorem d_T_sense_20 : decode prog_1_method_8_code 20 = .ok (.iaload, 1) := by decide +kernel
theorem d_T_sense_21 : decode prog_1_method_8_code 21 = .ok (.iconst 2, 1) := by decide +kernel
theorem d_T_sense_22 : decode prog_1_method_8_code 22 = .ok (.if_icmp .ne 12, 3) := by decide +kernel
theorem d_T_sense_25 : decode prog_1_method_8_code 25 = .ok (.iload_n 3, 1) := by decide +kernel
theorem d_T_sense_26 : decode prog_1_method_8_code 26 = .ok (.iconst 0, 1) := by decide +kernel
theorem d_T_sense_27 : decode prog_1_method_8_code 27 = .ok (.iconst 2, 1) := by decide +kernel
theorem d_T_sense_28 : decode prog_1_method_8_code 28 = .ok (.invokestatic 68, 3) := by decide +kernel
theorem d_T_sense_31 : decode prog_1_method_8_code 31 = .ok (.ifCond .ne 11, 3) := by decide +kernel
theorem d_T_sense_34 : decode prog_1_method_8_code 34 = .ok (.new 72, 3) := by decide +kernel
theorem d_T_sense_37 : decode prog_1_method_8_code 37 = .ok (.dup, 1) := by decide +kernel
theorem d_T_sense_38 : decode prog_1_method_8_code 38 = .ok (.invokespecial 74, 3) := by decide +kernel
theorem d_T_sense_41 : decode prog_1_method_8_code 41 = .ok (.athrow, 1) := by decide +kernel
theorem d_T_sense_42 : decode prog_1_method_8_code 42 = .ok (.aload_n 0, 1) := by decide +kernel
theorem d_T_sense_43 : decode prog_1_method_8_code 43 = .ok (.getfield 12, 3) := by decide +kernel
theorem d_T_sense_46 : decode prog_1_method_8_code 46 = .ok (.getfield 116, 3) := by decide +kernel
theorem d_T_sense_49 : decode prog_1_method_8_code 49 = .ok (.iload_n 1, 1) := by decide +kernel
theorem d_T_sense_50 : decode prog_1_method_8_code 50 = .ok (.iconst 3, 1) := by decide +kernel
theorem d_T_sense_51 : decode prog_1_method_8_code 51 = .ok (.imul, 1) := by decide +kernel
theorem d_T_sense_52 : decode prog_1_method_8_code 52 = .ok (.iload_n 2, 1) := by decide +kernel
theorem d_T_sense_53 : decode prog_1_method_8_code 53 = .ok (.iadd, 1) := by decide +kernel
theorem d_T_sense_54 : decode prog_1_method_8_code 54 = .ok (.iload_n 3, 1) := by decide +kernel
theorem d_T_sense_55 : decode prog_1_method_8_code 55 = .ok (.iastore, 1) := by decide +kernel
theorem d_T_sense_56 : decode prog_1_method_8_code 56 = .ok (.aload_n 0, 1) := by decide +kernel
theorem d_T_sense_57 : decode prog_1_method_8_code 57 = .ok (.iconst 0, 1) := by decide +kernel
theorem d_T_sense_58 : decode prog_1_method_8_code 58 = .ok (.putfield 82, 3) := by decide +kernel
theorem d_T_sense_61 : decode prog_1_method_8_code 61 = .ok (.return_, 1) := by decide +kernel
theorem d_T_delay_0 : decode prog_1_method_9_code 0 = .ok (.aload_n 0, 1) := by decide +kernel
theorem d_T_delay_1 : decode prog_1_method_9_code 1 = .ok (.getfield 12, 3) := by decide +kernel
theorem d_T_delay_4 : decode prog_1_method_9_code 4 = .ok (.iload_n 1, 1) := by decide +kernel
theorem d_T_delay_5 : decode prog_1_method_9_code 5 = .ok (.iload_n 2, 1) := by decide +kernel
theorem d_T_delay_6 : decode prog_1_method_9_code 6 = .ok (.invokevirtual 119, 3) := by decide +kernel
theorem d_T_delay_9 : decode prog_1_method_9_code 9 = .ok (.ifCond .eq 20, 3) := by decide +kernel
theorem d_T_delay_12 : decode prog_1_method_9_code 12 = .ok (.iload_n 3, 1) := by decide +kernel
theorem d_T_delay_13 : decode prog_1_method_9_code 13 = .ok (.invokestatic 122, 3) := by decide +kernel
theorem d_T_delay_16 : decode prog_1_method_9_code 16 = .ok (.ifCond .eq 13, 3) := by decide +kernel
theorem d_T_delay_19 : decode prog_1_method_9_code 19 = .ok (.iload 4, 2) := by decide +kernel
theorem d_T_delay_21 : decode prog_1_method_9_code 21 = .ok (.iload 5, 2) := by decide +kernel
theorem d_T_delay_23 : decode prog_1_method_9_code 23 = .ok (.invokestatic 106, 3) := by decide +kernel
theorem d_T_delay_26 : decode prog_1_method_9_code 26 = .ok (.ifCond .ne 11, 3) := by decide +kernel
theorem d_T_delay_29 : decode prog_1_method_9_code 29 = .ok (.new 72, 3) := by decide +kernel
theorem d_T_delay_32 : decode prog_1_method_9_code 32 = .ok (.dup, 1) := by decide +kernel
theorem d_T_delay_33 : decode prog_1_method_9_code 33 = .ok (.invokespecial 74, 3) := by decide +kernel
theorem d_T_delay_36 : decode prog_1_method_9_code 36 = .ok (.athrow, 1) := by decide +kernel
theorem d_T_delay_37 : decode prog_1_method_9_code 37 = .ok (.aload_n 0, 1) := by decide +kernel
theorem d_T_delay_38 : decode prog_1_method_9_code 38 = .ok (.getfield 12, 3) := by decide +kernel
theorem d_T_delay_41 : decode prog_1_method_9_code 41 = .ok (.getfield 112, 3) := by decide +kernel
theorem d_T_delay_44 : decode prog_1_method_9_code 44 = .ok (.iload_n 1, 1) := by decide +kernel
theorem d_T_delay_45 : decode prog_1_method_9_code 45 = .ok (.iaload, 1) := by decide +kernel
theorem d_T_delay_46 : decode prog_1_method_9_code 46 = .ok (.iconst 2, 1) := by decide +kernel
theorem d_T_delay_47 : decode prog_1_method_9_code 47 = .ok (.if_icmp .ne 23, 3) := by decide +kernel
theorem d_T_delay_50 : decode prog_1_method_9_code 50 = .ok (.aload_n 0, 1) := by decide +kernel
theorem d_T_delay_51 : decode prog_1_method_9_code 51 = .ok (.getfield 12, 3) := by decide +kernel
theorem d_T_delay_54 : decode prog_1_method_9_code 54 = .ok (.iload_n 1, 1) := by decide +kernel
theorem d_T_delay_55 : decode prog_1_method_9_code 55 = .ok (.iconst 3, 1) := by decide +kernel
theorem d_T_delay_56 : decode prog_1_method_9_code 56 = .ok (.imul, 1) := by decide +kernel
theorem d_T_delay_57 : decode prog_1_method_9_code 57 = .ok (.iload_n 2, 1) := by decide +kernel
theorem d_T_delay_58 : decode prog_1_method_9_code 58 = .ok (.iadd, 1) := by decide +kernel
theorem d_T_delay_59 : decode prog_1_method_9_code 59 = .ok (.iload_n 3, 1) := by decide +kernel
theorem d_T_delay_60 : decode prog_1_method_9_code 60 = .ok (.iload 4, 2) := by decide +kernel
theorem d_T_delay_62 : decode prog_1_method_9_code 62 = .ok (.iload 5, 2) := by decide +kernel
theorem d_T_delay_64 : decode prog_1_method_9_code 64 = .ok (.invokevirtual 125, 3) := by decide +kernel
theorem d_T_delay_67 : decode prog_1_method_9_code 67 = .ok (.goto 16, 3) := by decide +kernel
theorem d_T_delay_70 : decode prog_1_method_9_code 70 = .ok (.aload_n 0, 1) := by decide +kernel
theorem d_T_delay_71 : decode prog_1_method_9_code 71 = .ok (.getfield 12, 3) := by decide +kernel
theorem d_T_delay_74 : decode prog_1_method_9_code 74 = .ok (.iload_n 1, 1) := by decide +kernel
theorem d_T_delay_75 : decode prog_1_method_9_code 75 = .ok (.iload_n 3, 1) := by decide +kernel
theorem d_T_delay_76 : decode prog_1_method_9_code 76 = .ok (.iload 4, 2) := by decide +kernel
theorem d_T_delay_78 : decode prog_1_method_9_code 78 = .ok (.iload 5, 2) := by decide +kernel
theorem d_T_delay_80 : decode prog_1_method_9_code 80 = .ok (.invokevirtual 95, 3) := by decide +kernel
theorem d_T_delay_83 : decode prog_1_method_9_code 83 = .ok (.aload_n 0, 1) := by decide +kernel
theorem d_T_delay_84 : decode prog_1_method_9_code 84 = .ok (.iconst 0, 1) := by decide +kernel
theorem d_T_delay_85 : decode prog_1_method_9_code 85 = .ok (.putfield 82, 3) := by decide +kernel
theorem d_T_delay_88 : decode prog_1_method_9_code 88 = .ok (.return_, 1) := by decide +kernel
theorem d_T_check_0 : decode prog_1_method_10_code 0 = .ok (.aload_n 0, 1) := by decide +kernel
theorem d_T_check_1 : decode prog_1_method_10_code 1 = .ok (.getfield 12, 3) := by decide +kernel
theorem d_T_check_4 : decode prog_1_method_10_code 4 = .ok (.iload_n 1, 1) := by decide +kernel
theorem d_T_check_5 : decode prog_1_method_10_code 5 = .ok (.invokevirtual 128, 3) := by decide +kernel
theorem d_T_check_8 : decode prog_1_method_10_code 8 = .ok (.ifCond .eq 25, 3) := by decide +kernel
theorem d_T_check_11 : decode prog_1_method_10_code 11 = .ok (.iload_n 2, 1) := by decide +kernel
theorem d_T_check_12 : decode prog_1_method_10_code 12 = .ok (.invokestatic 122, 3) := by decide +kernel
theorem d_T_check_15 : decode prog_1_method_10_code 15 = .ok (.ifCond .eq 18, 3) := by decide +kernel
theorem d_T_check_18 : decode prog_1_method_10_code 18 = .ok (.iload_n 3, 1) := by decide +kernel
theorem d_T_check_19 : decode prog_1_method_10_code 19 = .ok (.invokestatic 131, 3) := by decide +kernel
theorem d_T_check_22 : decode prog_1_method_10_code 22 = .ok (.ifCond .eq 11, 3) := by decide +kernel
theorem d_T_check_25 : decode prog_1_method_10_code 25 = .ok (.iload 4, 2) := by decide +kernel
theorem d_T_check_27 : decode prog_1_method_10_code 27 = .ok (.invokestatic 131, 3) := by decide +kernel
theorem d_T_check_30 : decode prog_1_method_10_code 30 = .ok (.ifCond .ne 11, 3) := by decide +kernel
theorem d_T_check_33 : decode prog_1_method_10_code 33 = .ok (.new 72, 3) := by decide +kernel
theorem d_T_check_36 : decode prog_1_method_10_code 36 = .ok (.dup, 1) := by decide +kernel
theorem d_T_check_37 : decode prog_1_method_10_code 37 = .ok (.invokespecial 74, 3) := by decide +kernel
theorem d_T_check_40 : decode prog_1_method_10_code 40 = .ok (.athrow, 1) := by decide +kernel
theorem d_T_check_41 : decode prog_1_method_10_code 41 = .ok (.aload_n 0, 1) := by decide +kernel
theorem d_T_check_42 : decode prog_1_method_10_code 42 = .ok (.getfield 12, 3) := by decide +kernel
theorem d_T_check_45 : decode prog_1_method_10_code 45 = .ok (.getfield 134, 3) := by decide +kernel
theorem d_T_check_48 : decode prog_1_method_10_code 48 = .ok (.iconst 2, 1) := by decide +kernel
theorem d_T_check_49 : decode prog_1_method_10_code 49 = .ok (.iload_n 1, 1) := by decide +kernel
theorem d_T_check_50 : decode prog_1_method_10_code 50 = .ok (.imul, 1) := by decide +kernel
theorem d_T_check_51 : decode prog_1_method_10_code 51 = .ok (.iload_n 2, 1) := by decide +kernel
theorem d_T_check_52 : decode prog_1_method_10_code 52 = .ok (.iadd, 1) := by decide +kernel
theorem d_T_check_53 : decode prog_1_method_10_code 53 = .ok (.iload_n 3, 1) := by decide +kernel
theorem d_T_check_54 : decode prog_1_method_10_code 54 = .ok (.iastore, 1) := by decide +kernel
theorem d_T_check_55 : decode prog_1_method_10_code 55 = .ok (.aload_n 0, 1) := by decide +kernel
theorem d_T_check_56 : decode prog_1_method_10_code 56 = .ok (.getfield 12, 3) := by decide +kernel
theorem d_T_check_59 : decode prog_1_method_10_code 59 = .ok (.getfield 137, 3) := by decide +kernel
theorem d_T_check_62 : decode prog_1_method_10_code 62 = .ok (.iconst 2, 1) := by decide +kernel
theorem d_T_check_63 : decode prog_1_method_10_code 63 = .ok (.iload_n 1, 1) := by decide +kernel
theorem d_T_check_64 : decode prog_1_method_10_code 64 = .ok (.imul, 1) := by decide +kernel
theorem d_T_check_65 : decode prog_1_method_10_code 65 = .ok (.iload_n 2, 1) := by decide +kernel
theorem d_T_check_66 : decode prog_1_method_10_code 66 = .ok (.iadd, 1) := by decide +kernel
theorem d_T_check_67 : decode prog_1_method_10_code 67 = .ok (.iload 4, 2) := by decide +kernel
theorem d_T_check_69 : decode prog_1_method_10_code 69 = .ok (.iastore, 1) := by decide +kernel
theorem d_T_check_70 : decode prog_1_method_10_code 70 = .ok (.aload_n 0, 1) := by decide +kernel
theorem d_T_check_71 : decode prog_1_method_10_code 71 = .ok (.iconst 0, 1) := by decide +kernel
theorem d_T_check_72 : decode prog_1_method_10_code 72 = .ok (.putfield 82, 3) := by decide +kernel
theorem d_T_check_75 : decode prog_1_method_10_code 75 = .ok (.return_, 1) := by decide +kernel
theorem d_T_analyse_0 : decode prog_1_method_11_code 0 = .ok (.aload_n 0, 1) := by decide +kernel
theorem d_T_analyse_1 : decode prog_1_method_11_code 1 = .ok (.iconst 0, 1) := by decide +kernel
theorem d_T_analyse_2 : decode prog_1_method_11_code 2 = .ok (.putfield 82, 3) := by decide +kernel
theorem d_T_analyse_5 : decode prog_1_method_11_code 5 = .ok (.aload_n 0, 1) := by decide +kernel
theorem d_T_analyse_6 : decode prog_1_method_11_code 6 = .ok (.getfield 21, 3) := by decide +kernel
theorem d_T_analyse_9 : decode prog_1_method_11_code 9 = .ok (.invokevirtual 140, 3) := by decide +kernel
theorem d_T_analyse_12 : decode prog_1_method_11_code 12 = .ok (.ldc 94, 2) := by decide +kernel
theorem d_T_analyse_14 : decode prog_1_method_11_code 14 = .ok (.if_icmp .eq 5, 3) := by decide +kernel
theorem d_T_analyse_17 : decode prog_1_method_11_code 17 = .ok (.iconst (-1), 1) := by decide +kernel
theorem d_T_analyse_18 : decode prog_1_method_11_code 18 = .ok (.ireturn, 1) := by decide +kernel
theorem d_T_analyse_19 : decode prog_1_method_11_code 19 = .ok (.aload_n 0, 1) := by decide +kernel
theorem d_T_analyse_20 : decode prog_1_method_11_code 20 = .ok (.getfield 21, 3) := by decide +kernel
theorem d_T_analyse_23 : decode prog_1_method_11_code 23 = .ok (.invokevirtual 144, 3) := by decide +kernel
theorem d_T_analyse_26 : decode prog_1_method_11_code 26 = .ok (.aload_n 0, 1) := by decide +kernel
theorem d_T_analyse_27 : decode prog_1_method_11_code 27 = .ok (.getfield 30, 3) := by decide +kernel
theorem d_T_analyse_30 : decode prog_1_method_11_code 30 = .ok (.invokevirtual 147, 3) := by decide +kernel
theorem d_T_analyse_33 : decode prog_1_method_11_code 33 = .ok (.ifCond .ne 6, 3) := by decide +kernel
theorem d_T_analyse_36 : decode prog_1_method_11_code 36 = .ok (.bipush (-2), 2) := by decide +kernel
theorem d_T_analyse_38 : decode prog_1_method_11_code 38 = .ok (.ireturn, 1) := by decide +kernel
theorem d_T_analyse_39 : decode prog_1_method_11_code 39 = .ok (.aload_n 0, 1) := by decide +kernel
theorem d_T_analyse_40 : decode prog_1_method_11_code 40 = .ok (.getfield 47, 3) := by decide +kernel
theorem d_T_analyse_43 : decode prog_1_method_11_code 43 = .ok (.invokevirtual 151, 3) := by decide +kernel
theorem d_T_analyse_46 : decode prog_1_method_11_code 46 = .ok (.aload_n 0, 1) := by decide +kernel
theorem d_T_analyse_47 : decode prog_1_method_11_code 47 = .ok (.getfield 56, 3) := by decide +kernel
theorem d_T_analyse_50 : decode prog_1_method_11_code 50 = .ok (.invokevirtual 154, 3) := by decide +kernel
theorem d_T_analyse_53 : decode prog_1_method_11_code 53 = .ok (.aload_n 0, 1) := by decide +kernel
theorem d_T_analyse_54 : decode prog_1_method_11_code 54 = .ok (.getfield 63, 3) := by decide +kernel
theorem d_T_analyse_57 : decode prog_1_method_11_code 57 = .ok (.invokevirtual 155, 3) := by decide +kernel
theorem d_T_analyse_60 : decode prog_1_method_11_code 60 = .ok (.aload_n 0, 1) := by decide +kernel
theorem d_T_analyse_61 : decode prog_1_method_11_code 61 = .ok (.iconst 1, 1) := by decide +kernel
theorem d_T_analyse_62 : decode prog_1_method_11_code 62 = .ok (.putfield 82, 3) := by decide +kernel
theorem d_T_analyse_65 : decode prog_1_method_11_code 65 = .ok (.aload_n 0, 1) := by decide +kernel
theorem d_T_analyse_66 : decode prog_1_method_11_code 66 = .ok (.getfield 56, 3) := by decide +kernel
theorem d_T_analyse_69 : decode prog_1_method_11_code 69 = .ok (.invokevirtual 158, 3) := by decide +kernel
theorem d_T_analyse_72 : decode prog_1_method_11_code 72 = .ok (.ireturn, 1) := by decide +kernel
theorem d_T_cycle_0 : decode prog_1_method_12_code 0 = .ok (.aload_n 0, 1) := by decide +kernel
theorem d_T_cycle_1 : decode prog_1_method_12_code 1 = .ok (.getfield 21, 3) := by decide +kernel
theorem d_T_cycle_4 : decode prog_1_method_12_code 4 = .ok (.invokevirtual 140, 3) := by decide +kernel
theorem d_T_cycle_7 : decode prog_1_method_12_code 7 = .ok (.ireturn, 1) := by decide +kernel
theorem d_T_ways_0 : decode prog_1_method_13_code 0 = .ok (.aload_n 0, 1) := by decide +kernel
theorem d_T_ways_1 : decode prog_1_method_13_code 1 = .ok (.invokevirtual 161, 3) := by decide +kernel
theorem d_T_ways_4 : decode prog_1_method_13_code 4 = .ok (.aload_n 0, 1) := by decide +kernel
theorem d_T_ways_5 : decode prog_1_method_13_code 5 = .ok (.getfield 12, 3) := by decide +kernel
theorem d_T_ways_8 : decode prog_1_method_13_code 8 = .ok (.iload_n 1, 1) := by decide +kernel
theorem d_T_ways_9 : decode prog_1_method_13_code 9 = .ok (.invokevirtual 164, 3) := by decide +kernel
theorem d_T_ways_12 : decode prog_1_method_13_code 12 = .ok (.ifCond .eq 16, 3) := by decide +kernel
theorem d_T_ways_15 : decode prog_1_method_13_code 15 = .ok (.aload_n 0, 1) := by decide +kernel
theorem d_T_ways_16 : decode prog_1_method_13_code 16 = .ok (.getfield 12, 3) := by decide +kernel
theorem d_T_ways_19 : decode prog_1_method_13_code 19 = .ok (.getfield 112, 3) := by decide +kernel
theorem d_T_ways_22 : decode prog_1_method_13_code 22 = .ok (.iload_n 1, 1) := by decide +kernel
theorem d_T_ways_23 : decode prog_1_method_13_code 23 = .ok (.iaload, 1) := by decide +kernel
theorem d_T_ways_24 : decode prog_1_method_13_code 24 = .ok (.iconst 3, 1) := by decide +kernel
theorem d_T_ways_25 : decode prog_1_method_13_code 25 = .ok (.if_icmp .eq 11, 3) := by decide +kernel
theorem d_T_ways_28 : decode prog_1_method_13_code 28 = .ok (.new 72, 3) := by decide +kernel
theorem d_T_ways_31 : decode prog_1_method_13_code 31 = .ok (.dup, 1) := by decide +kernel
theorem d_T_ways_32 : decode prog_1_method_13_code 32 = .ok (.invokespecial 74, 3) := by decide +kernel
theorem d_T_ways_35 : decode prog_1_method_13_code 35 = .ok (.athrow, 1) := by decide +kernel
theorem d_T_ways_36 : decode prog_1_method_13_code 36 = .ok (.aload_n 0, 1) := by decide +kernel
theorem d_T_ways_37 : decode prog_1_method_13_code 37 = .ok (.getfield 30, 3) := by decide +kernel
theorem d_T_ways_40 : decode prog_1_method_13_code 40 = .ok (.getfield 167, 3) := by decide +kernel
theorem d_T_ways_43 : decode prog_1_method_13_code 43 = .ok (.iload_n 1, 1) := by decide +kernel
theorem d_T_ways_44 : decode prog_1_method_13_code 44 = .ok (.iaload, 1) := by decide +kernel
theorem d_T_ways_45 : decode prog_1_method_13_code 45 = .ok (.ireturn, 1) := by decide +kernel
theorem d_T_arrival_0 : decode prog_1_method_14_code 0 = .ok (.aload_n 0, 1) := by decide +kernel
theorem d_T_arrival_1 : decode prog_1_method_14_code 1 = .ok (.invokevirtual 161, 3) := by decide +kernel
theorem d_T_arrival_4 : decode prog_1_method_14_code 4 = .ok (.aload_n 0, 1) := by decide +kernel
theorem d_T_arrival_5 : decode prog_1_method_14_code 5 = .ok (.getfield 12, 3) := by decide +kernel
theorem d_T_arrival_8 : decode prog_1_method_14_code 8 = .ok (.iload_n 1, 1) := by decide +kernel
theorem d_T_arrival_9 : decode prog_1_method_14_code 9 = .ok (.invokevirtual 164, 3) := by decide +kernel
theorem d_T_arrival_12 : decode prog_1_method_14_code 12 = .ok (.ifCond .eq 17, 3) := by decide +kernel
theorem d_T_arrival_15 : decode prog_1_method_14_code 15 = .ok (.iload_n 2, 1) := by decide +kernel
theorem d_T_arrival_16 : decode prog_1_method_14_code 16 = .ok (.invokestatic 122, 3) := by decide +kernel
theorem d_T_arrival_19 : decode prog_1_method_14_code 19 = .ok (.ifCond .eq 10, 3) := by decide +kernel
theorem d_T_arrival_22 : decode prog_1_method_14_code 22 = .ok (.iload_n 3, 1) := by decide +kernel
theorem d_T_arrival_23 : decode prog_1_method_14_code 23 = .ok (.invokestatic 122, 3) := by decide +kernel
theorem d_T_arrival_26 : decode prog_1_method_14_code 26 = .ok (.ifCond .ne 11, 3) := by decide +kernel
theorem d_T_arrival_29 : decode prog_1_method_14_code 29 = .ok (.new 72, 3) := by decide +kernel
theorem d_T_arrival_32 : decode prog_1_method_14_code 32 = .ok (.dup, 1) := by decide +kernel
theorem d_T_arrival_33 : decode prog_1_method_14_code 33 = .ok (.invokespecial 74, 3) := by decide +kernel
theorem d_T_arrival_36 : decode prog_1_method_14_code 36 = .ok (.athrow, 1) := by decide +kernel
theorem d_T_arrival_37 : decode prog_1_method_14_code 37 = .ok (.aload_n 0, 1) := by decide +kernel
theorem d_T_arrival_38 : decode prog_1_method_14_code 38 = .ok (.getfield 47, 3) := by decide +kernel
theorem d_T_arrival_41 : decode prog_1_method_14_code 41 = .ok (.iload_n 1, 1) := by decide +kernel
theorem d_T_arrival_42 : decode prog_1_method_14_code 42 = .ok (.iload_n 2, 1) := by decide +kernel
theorem d_T_arrival_43 : decode prog_1_method_14_code 43 = .ok (.iload_n 3, 1) := by decide +kernel
theorem d_T_arrival_44 : decode prog_1_method_14_code 44 = .ok (.iload 4, 2) := by decide +kernel
theorem d_T_arrival_46 : decode prog_1_method_14_code 46 = .ok (.invokevirtual 170, 3) := by decide +kernel
theorem d_T_arrival_49 : decode prog_1_method_14_code 49 = .ok (.ireturn, 1) := by decide +kernel
theorem d_T_slack_0 : decode prog_1_method_15_code 0 = .ok (.aload_n 0, 1) := by decide +kernel
theorem d_T_slack_1 : decode prog_1_method_15_code 1 = .ok (.invokevirtual 161, 3) := by decide +kernel
theorem d_T_slack_4 : decode prog_1_method_15_code 4 = .ok (.aload_n 0, 1) := by decide +kernel
theorem d_T_slack_5 : decode prog_1_method_15_code 5 = .ok (.getfield 12, 3) := by decide +kernel
theorem d_T_slack_8 : decode prog_1_method_15_code 8 = .ok (.iload_n 1, 1) := by decide +kernel
theorem d_T_slack_9 : decode prog_1_method_15_code 9 = .ok (.invokevirtual 128, 3) := by decide +kernel
theorem d_T_slack_12 : decode prog_1_method_15_code 12 = .ok (.ifCond .eq 10, 3) := by decide +kernel
theorem d_T_slack_15 : decode prog_1_method_15_code 15 = .ok (.iload_n 2, 1) := by decide +kernel
theorem d_T_slack_16 : decode prog_1_method_15_code 16 = .ok (.invokestatic 122, 3) := by decide +kernel
theorem d_T_slack_19 : decode prog_1_method_15_code 19 = .ok (.ifCond .ne 11, 3) := by decide +kernel
theorem d_T_slack_22 : decode prog_1_method_15_code 22 = .ok (.new 72, 3) := by decide +kernel
theorem d_T_slack_25 : decode prog_1_method_15_code 25 = .ok (.dup, 1) := by decide +kernel
theorem d_T_slack_26 : decode prog_1_method_15_code 26 = .ok (.invokespecial 74, 3) := by decide +kernel
theorem d_T_slack_29 : decode prog_1_method_15_code 29 = .ok (.athrow, 1) := by decide +kernel
theorem d_T_slack_30 : decode prog_1_method_15_code 30 = .ok (.aload_n 0, 1) := by decide +kernel
theorem d_T_slack_31 : decode prog_1_method_15_code 31 = .ok (.getfield 56, 3) := by decide +kernel
theorem d_T_slack_34 : decode prog_1_method_15_code 34 = .ok (.iload_n 1, 1) := by decide +kernel
theorem d_T_slack_35 : decode prog_1_method_15_code 35 = .ok (.iload_n 2, 1) := by decide +kernel
theorem d_T_slack_36 : decode prog_1_method_15_code 36 = .ok (.invokevirtual 174, 3) := by decide +kernel
theorem d_T_slack_39 : decode prog_1_method_15_code 39 = .ok (.ireturn, 1) := by decide +kernel
theorem d_T_worst_0 : decode prog_1_method_16_code 0 = .ok (.aload_n 0, 1) := by decide +kernel
theorem d_T_worst_1 : decode prog_1_method_16_code 1 = .ok (.invokevirtual 161, 3) := by decide +kernel
theorem d_T_worst_4 : decode prog_1_method_16_code 4 = .ok (.iload_n 1, 1) := by decide +kernel
theorem d_T_worst_5 : decode prog_1_method_16_code 5 = .ok (.invokestatic 177, 3) := by decide +kernel
theorem d_T_worst_8 : decode prog_1_method_16_code 8 = .ok (.aload_n 0, 1) := by decide +kernel
theorem d_T_worst_9 : decode prog_1_method_16_code 9 = .ok (.getfield 56, 3) := by decide +kernel
theorem d_T_worst_12 : decode prog_1_method_16_code 12 = .ok (.iload_n 1, 1) := by decide +kernel
theorem d_T_worst_13 : decode prog_1_method_16_code 13 = .ok (.invokevirtual 181, 3) := by decide +kernel
theorem d_T_worst_16 : decode prog_1_method_16_code 16 = .ok (.ireturn, 1) := by decide +kernel
theorem d_T_total_0 : decode prog_1_method_17_code 0 = .ok (.aload_n 0, 1) := by decide +kernel
theorem d_T_total_1 : decode prog_1_method_17_code 1 = .ok (.invokevirtual 161, 3) := by decide +kernel
theorem d_T_total_4 : decode prog_1_method_17_code 4 = .ok (.iload_n 1, 1) := by decide +kernel
theorem d_T_total_5 : decode prog_1_method_17_code 5 = .ok (.invokestatic 177, 3) := by decide +kernel
theorem d_T_total_8 : decode prog_1_method_17_code 8 = .ok (.aload_n 0, 1) := by decide +kernel
theorem d_T_total_9 : decode prog_1_method_17_code 9 = .ok (.getfield 56, 3) := by decide +kernel
theorem d_T_total_12 : decode prog_1_method_17_code 12 = .ok (.iload_n 1, 1) := by decide +kernel
theorem d_T_total_13 : decode prog_1_method_17_code 13 = .ok (.invokevirtual 185, 3) := by decide +kernel
theorem d_T_total_16 : decode prog_1_method_17_code 16 = .ok (.ireturn, 1) := by decide +kernel
theorem d_T_leastPeriod_0 : decode prog_1_method_18_code 0 = .ok (.aload_n 0, 1) := by decide +kernel
theorem d_T_leastPeriod_1 : decode prog_1_method_18_code 1 = .ok (.invokevirtual 161, 3) := by decide +kernel
theorem d_T_leastPeriod_4 : decode prog_1_method_18_code 4 = .ok (.aload_n 0, 1) := by decide +kernel
theorem d_T_leastPeriod_5 : decode prog_1_method_18_code 5 = .ok (.getfield 56, 3) := by decide +kernel
theorem d_T_leastPeriod_8 : decode prog_1_method_18_code 8 = .ok (.invokevirtual 188, 3) := by decide +kernel
theorem d_T_leastPeriod_11 : decode prog_1_method_18_code 11 = .ok (.ireturn, 1) := by decide +kernel
theorem d_T_paths_0 : decode prog_1_method_19_code 0 = .ok (.aload_n 0, 1) := by decide +kernel
theorem d_T_paths_1 : decode prog_1_method_19_code 1 = .ok (.invokevirtual 161, 3) := by decide +kernel
theorem d_T_paths_4 : decode prog_1_method_19_code 4 = .ok (.aload_n 0, 1) := by decide +kernel
theorem d_T_paths_5 : decode prog_1_method_19_code 5 = .ok (.getfield 56, 3) := by decide +kernel
theorem d_T_paths_8 : decode prog_1_method_19_code 8 = .ok (.getfield 191, 3) := by decide +kernel
theorem d_T_paths_11 : decode prog_1_method_19_code 11 = .ok (.sipush 4000, 3) := by decide +kernel
theorem d_T_paths_14 : decode prog_1_method_19_code 14 = .ok (.if_icmp .le 8, 3) := by decide +kernel
theorem d_T_paths_17 : decode prog_1_method_19_code 17 = .ok (.bipush (-3), 2) := by decide +kernel
theorem d_T_paths_19 : decode prog_1_method_19_code 19 = .ok (.goto 10, 3) := by decide +kernel
theorem d_T_paths_22 : decode prog_1_method_19_code 22 = .ok (.aload_n 0, 1) := by decide +kernel
theorem d_T_paths_23 : decode prog_1_method_19_code 23 = .ok (.getfield 56, 3) := by decide +kernel
theorem d_T_paths_26 : decode prog_1_method_19_code 26 = .ok (.getfield 191, 3) := by decide +kernel
theorem d_T_paths_29 : decode prog_1_method_19_code 29 = .ok (.ireturn, 1) := by decide +kernel
theorem d_T_path_0 : decode prog_1_method_20_code 0 = .ok (.aload_n 0, 1) := by decide +kernel
theorem d_T_path_1 : decode prog_1_method_20_code 1 = .ok (.iload_n 1, 1) := by decide +kernel
theorem d_T_path_2 : decode prog_1_method_20_code 2 = .ok (.iload_n 2, 1) := by decide +kernel
theorem d_T_path_3 : decode prog_1_method_20_code 3 = .ok (.invokevirtual 194, 3) := by decide +kernel
theorem d_T_path_6 : decode prog_1_method_20_code 6 = .ok (.aload_n 0, 1) := by decide +kernel
theorem d_T_path_7 : decode prog_1_method_20_code 7 = .ok (.getfield 63, 3) := by decide +kernel
theorem d_T_path_10 : decode prog_1_method_20_code 10 = .ok (.invokevirtual 198, 3) := by decide +kernel
theorem d_T_path_13 : decode prog_1_method_20_code 13 = .ok (.aload_n 0, 1) := by decide +kernel
theorem d_T_path_14 : decode prog_1_method_20_code 14 = .ok (.getfield 63, 3) := by decide +kernel
theorem d_T_path_17 : decode prog_1_method_20_code 17 = .ok (.iload_n 1, 1) := by decide +kernel
theorem d_T_path_18 : decode prog_1_method_20_code 18 = .ok (.invokevirtual 201, 3) := by decide +kernel
theorem d_T_path_21 : decode prog_1_method_20_code 21 = .ok (.iload_n 2, 1) := by decide +kernel
theorem d_T_path_22 : decode prog_1_method_20_code 22 = .ok (.invokevirtual 205, 3) := by decide +kernel
theorem d_T_path_25 : decode prog_1_method_20_code 25 = .ok (.ireturn, 1) := by decide +kernel
theorem d_T_element_0 : decode prog_1_method_21_code 0 = .ok (.aload_n 0, 1) := by decide +kernel
theorem d_T_element_1 : decode prog_1_method_21_code 1 = .ok (.iload_n 1, 1) := by decide +kernel
theorem d_T_element_2 : decode prog_1_method_21_code 2 = .ok (.iload_n 2, 1) := by decide +kernel
theorem d_T_element_3 : decode prog_1_method_21_code 3 = .ok (.invokevirtual 194, 3) := by decide +kernel
theorem d_T_element_6 : decode prog_1_method_21_code 6 = .ok (.aload_n 0, 1) := by decide +kernel
theorem d_T_element_7 : decode prog_1_method_21_code 7 = .ok (.getfield 63, 3) := by decide +kernel
theorem d_T_element_10 : decode prog_1_method_21_code 10 = .ok (.invokevirtual 198, 3) := by decide +kernel
theorem d_T_element_13 : decode prog_1_method_21_code 13 = .ok (.aload_n 0, 1) := by decide +kernel
theorem d_T_element_14 : decode prog_1_method_21_code 14 = .ok (.getfield 63, 3) := by decide +kernel
theorem d_T_element_17 : decode prog_1_method_21_code 17 = .ok (.iload_n 1, 1) := by decide +kernel
theorem d_T_element_18 : decode prog_1_method_21_code 18 = .ok (.invokevirtual 201, 3) := by decide +kernel
theorem d_T_element_21 : decode prog_1_method_21_code 21 = .ok (.iload_n 2, 1) := by decide +kernel
theorem d_T_element_22 : decode prog_1_method_21_code 22 = .ok (.iload_n 3, 1) := by decide +kernel
theorem d_T_element_23 : decode prog_1_method_21_code 23 = .ok (.invokevirtual 210, 3) := by decide +kernel
theorem d_T_element_26 : decode prog_1_method_21_code 26 = .ok (.ireturn, 1) := by decide +kernel
theorem d_T_addNode_0 : decode prog_1_method_22_code 0 = .ok (.aload_n 0, 1) := by decide +kernel
theorem d_T_addNode_1 : decode prog_1_method_22_code 1 = .ok (.getfield 12, 3) := by decide +kernel
theorem d_T_addNode_4 : decode prog_1_method_22_code 4 = .ok (.getfield 213, 3) := by decide +kernel
theorem d_T_addNode_7 : decode prog_1_method_22_code 7 = .ok (.bipush 48, 2) := by decide +kernel
theorem d_T_addNode_9 : decode prog_1_method_22_code 9 = .ok (.if_icmp .lt 6, 3) := by decide +kernel
theorem d_T_addNode_12 : decode prog_1_method_22_code 12 = .ok (.ldc 94, 2) := by decide +kernel
theorem d_T_addNode_14 : decode prog_1_method_22_code 14 = .ok (.ireturn, 1) := by decide +kernel
theorem d_T_addNode_15 : decode prog_1_method_22_code 15 = .ok (.aload_n 0, 1) := by decide +kernel
theorem d_T_addNode_16 : decode prog_1_method_22_code 16 = .ok (.iconst 0, 1) := by decide +kernel
theorem d_T_addNode_17 : decode prog_1_method_22_code 17 = .ok (.putfield 82, 3) := by decide +kernel
theorem d_T_addNode_20 : decode prog_1_method_22_code 20 = .ok (.aload_n 0, 1) := by decide +kernel
theorem d_T_addNode_21 : decode prog_1_method_22_code 21 = .ok (.getfield 12, 3) := by decide +kernel
theorem d_T_addNode_24 : decode prog_1_method_22_code 24 = .ok (.iload_n 1, 1) := by decide +kernel
theorem d_T_addNode_25 : decode prog_1_method_22_code 25 = .ok (.iload_n 2, 1) := by decide +kernel
theorem d_T_addNode_26 : decode prog_1_method_22_code 26 = .ok (.invokevirtual 216, 3) := by decide +kernel
theorem d_T_addNode_29 : decode prog_1_method_22_code 29 = .ok (.ireturn, 1) := by decide +kernel
theorem d_T_needAnalysis_0 : decode prog_1_method_23_code 0 = .ok (.aload_n 0, 1) := by decide +kernel
theorem d_T_needAnalysis_1 : decode prog_1_method_23_code 1 = .ok (.getfield 82, 3) := by decide +kernel
theorem d_T_needAnalysis_4 : decode prog_1_method_23_code 4 = .ok (.ifCond .ne 11, 3) := by decide +kernel
theorem d_T_needAnalysis_7 : decode prog_1_method_23_code 7 = .ok (.new 219, 3) := by decide +kernel
theorem d_T_needAnalysis_10 : decode prog_1_method_23_code 10 = .ok (.dup, 1) := by decide +kernel
theorem d_T_needAnalysis_11 : decode prog_1_method_23_code 11 = .ok (.invokespecial 221, 3) := by decide +kernel
theorem d_T_needAnalysis_14 : decode prog_1_method_23_code 14 = .ok (.athrow, 1) := by decide +kernel
theorem d_T_needAnalysis_15 : decode prog_1_method_23_code 15 = .ok (.return_, 1) := by decide +kernel
theorem d_T_needPath_0 : decode prog_1_method_24_code 0 = .ok (.aload_n 0, 1) := by decide +kernel
theorem d_T_needPath_1 : decode prog_1_method_24_code 1 = .ok (.invokevirtual 161, 3) := by decide +kernel
theorem d_T_needPath_4 : decode prog_1_method_24_code 4 = .ok (.aload_n 0, 1) := by decide +kernel
theorem d_T_needPath_5 : decode prog_1_method_24_code 5 = .ok (.getfield 56, 3) := by decide +kernel
theorem d_T_needPath_8 : decode prog_1_method_24_code 8 = .ok (.getfield 191, 3) := by decide +kernel
theorem d_T_needPath_11 : decode prog_1_method_24_code 11 = .ok (.sipush 4000, 3) := by decide +kernel
theorem d_T_needPath_14 : decode prog_1_method_24_code 14 = .ok (.if_icmp .le 11, 3) := by decide +kernel
theorem d_T_needPath_17 : decode prog_1_method_24_code 17 = .ok (.new 219, 3) := by decide +kernel
theorem d_T_needPath_20 : decode prog_1_method_24_code 20 = .ok (.dup, 1) := by decide +kernel
theorem d_T_needPath_21 : decode prog_1_method_24_code 21 = .ok (.invokespecial 221, 3) := by decide +kernel
theorem d_T_needPath_24 : decode prog_1_method_24_code 24 = .ok (.athrow, 1) := by decide +kernel
theorem d_T_needPath_25 : decode prog_1_method_24_code 25 = .ok (.iload_n 1, 1) := by decide +kernel
theorem d_T_needPath_26 : decode prog_1_method_24_code 26 = .ok (.invokestatic 177, 3) := by decide +kernel
theorem d_T_needPath_29 : decode prog_1_method_24_code 29 = .ok (.iload_n 2, 1) := by decide +kernel
theorem d_T_needPath_30 : decode prog_1_method_24_code 30 = .ok (.iconst 0, 1) := by decide +kernel
theorem d_T_needPath_31 : decode prog_1_method_24_code 31 = .ok (.bipush 20, 2) := by decide +kernel
theorem d_T_needPath_33 : decode prog_1_method_24_code 33 = .ok (.aload_n 0, 1) := by decide +kernel
theorem d_T_needPath_34 : decode prog_1_method_24_code 34 = .ok (.getfield 56, 3) := by decide +kernel
theorem d_T_needPath_37 : decode prog_1_method_24_code 37 = .ok (.getfield 191, 3) := by decide +kernel
theorem d_T_needPath_40 : decode prog_1_method_24_code 40 = .ok (.invokestatic 222, 3) := by decide +kernel
theorem d_T_needPath_43 : decode prog_1_method_24_code 43 = .ok (.iconst 1, 1) := by decide +kernel
theorem d_T_needPath_44 : decode prog_1_method_24_code 44 = .ok (.isub, 1) := by decide +kernel
theorem d_T_needPath_45 : decode prog_1_method_24_code 45 = .ok (.invokestatic 68, 3) := by decide +kernel
theorem d_T_needPath_48 : decode prog_1_method_24_code 48 = .ok (.ifCond .ne 11, 3) := by decide +kernel
theorem d_T_needPath_51 : decode prog_1_method_24_code 51 = .ok (.new 227, 3) := by decide +kernel
theorem d_T_needPath_54 : decode prog_1_method_24_code 54 = .ok (.dup, 1) := by decide +kernel
theorem d_T_needPath_55 : decode prog_1_method_24_code 55 = .ok (.invokespecial 229, 3) := by decide +kernel
theorem d_T_needPath_58 : decode prog_1_method_24_code 58 = .ok (.athrow, 1) := by decide +kernel
theorem d_T_needPath_59 : decode prog_1_method_24_code 59 = .ok (.return_, 1) := by decide +kernel
theorem d_T_needBit_0 : decode prog_1_method_25_code 0 = .ok (.iload_n 0, 1) := by decide +kernel
theorem d_T_needBit_1 : decode prog_1_method_25_code 1 = .ok (.invokestatic 122, 3) := by decide +kernel
theorem d_T_needBit_4 : decode prog_1_method_25_code 4 = .ok (.ifCond .ne 11, 3) := by decide +kernel
theorem d_T_needBit_7 : decode prog_1_method_25_code 7 = .ok (.new 72, 3) := by decide +kernel
theorem d_T_needBit_10 : decode prog_1_method_25_code 10 = .ok (.dup, 1) := by decide +kernel
theorem d_T_needBit_11 : decode prog_1_method_25_code 11 = .ok (.invokespecial 74, 3) := by decide +kernel
theorem d_T_needBit_14 : decode prog_1_method_25_code 14 = .ok (.athrow, 1) := by decide +kernel
theorem d_T_needBit_15 : decode prog_1_method_25_code 15 = .ok (.return_, 1) := by decide +kernel
theorem d_T_isBit_0 : decode prog_1_method_26_code 0 = .ok (.iload_n 0, 1) := by decide +kernel
theorem d_T_isBit_1 : decode prog_1_method_26_code 1 = .ok (.ifCond .eq 8, 3) := by decide +kernel
theorem d_T_isBit_4 : decode prog_1_method_26_code 4 = .ok (.iload_n 0, 1) := by decide +kernel
theorem d_T_isBit_5 : decode prog_1_method_26_code 5 = .ok (.iconst 1, 1) := by decide +kernel
theorem d_T_isBit_6 : decode prog_1_method_26_code 6 = .ok (.if_icmp .ne 7, 3) := by decide +kernel
theorem d_T_isBit_9 : decode prog_1_method_26_code 9 = .ok (.iconst 1, 1) := by decide +kernel
theorem d_T_isBit_10 : decode prog_1_method_26_code 10 = .ok (.goto 4, 3) := by decide +kernel
theorem d_T_isBit_13 : decode prog_1_method_26_code 13 = .ok (.iconst 0, 1) := by decide +kernel
theorem d_T_isBit_14 : decode prog_1_method_26_code 14 = .ok (.ireturn, 1) := by decide +kernel
theorem d_T_isWithin_0 : decode prog_1_method_27_code 0 = .ok (.iload_n 0, 1) := by decide +kernel
theorem d_T_isWithin_1 : decode prog_1_method_27_code 1 = .ok (.iload_n 1, 1) := by decide +kernel
theorem d_T_isWithin_2 : decode prog_1_method_27_code 2 = .ok (.if_icmp .lt 12, 3) := by decide +kernel
theorem d_T_isWithin_5 : decode prog_1_method_27_code 5 = .ok (.iload_n 0, 1) := by decide +kernel
theorem d_T_isWithin_6 : decode prog_1_method_27_code 6 = .ok (.iload_n 2, 1) := by decide +kernel
theorem d_T_isWithin_7 : decode prog_1_method_27_code 7 = .ok (.if_icmp .gt 7, 3) := by decide +kernel
theorem d_T_isWithin_10 : decode prog_1_method_27_code 10 = .ok (.iconst 1, 1) := by decide +kernel
theorem d_T_isWithin_11 : decode prog_1_method_27_code 11 = .ok (.goto 4, 3) := by decide +kernel
theorem d_T_isWithin_14 : decode prog_1_method_27_code 14 = .ok (.iconst 0, 1) := by decide +kernel
theorem d_T_isWithin_15 : decode prog_1_method_27_code 15 = .ok (.ireturn, 1) := by decide +kernel
theorem d_T_isDelay_0 : decode prog_1_method_28_code 0 = .ok (.iload_n 0, 1) := by decide +kernel
theorem d_T_isDelay_1 : decode prog_1_method_28_code 1 = .ok (.ifCond .lt 19, 3) := by decide +kernel
theorem d_T_isDelay_4 : decode prog_1_method_28_code 4 = .ok (.iload_n 1, 1) := by decide +kernel
theorem d_T_isDelay_5 : decode prog_1_method_28_code 5 = .ok (.sipush 10000, 3) := by decide +kernel
theorem d_T_isDelay_8 : decode prog_1_method_28_code 8 = .ok (.if_icmp .gt 12, 3) := by decide +kernel
theorem d_T_isDelay_11 : decode prog_1_method_28_code 11 = .ok (.iload_n 0, 1) := by decide +kernel
theorem d_T_isDelay_12 : decode prog_1_method_28_code 12 = .ok (.iload_n 1, 1) := by decide +kernel
theorem d_T_isDelay_13 : decode prog_1_method_28_code 13 = .ok (.if_icmp .gt 7, 3) := by decide +kernel
theorem d_T_isDelay_16 : decode prog_1_method_28_code 16 = .ok (.iconst 1, 1) := by decide +kernel
theorem d_T_isDelay_17 : decode prog_1_method_28_code 17 = .ok (.goto 4, 3) := by decide +kernel
theorem d_T_isDelay_20 : decode prog_1_method_28_code 20 = .ok (.iconst 0, 1) := by decide +kernel
theorem d_T_isDelay_21 : decode prog_1_method_28_code 21 = .ok (.ireturn, 1) := by decide +kernel
theorem d_T_isInputTime_0 : decode prog_1_method_29_code 0 = .ok (.iload_n 0, 1) := by decide +kernel
theorem d_T_isInputTime_1 : decode prog_1_method_29_code 1 = .ok (.ldc 230, 2) := by decide +kernel
theorem d_T_isInputTime_3 : decode prog_1_method_29_code 3 = .ok (.if_icmp .lt 18, 3) := by decide +kernel
theorem d_T_isInputTime_6 : decode prog_1_method_29_code 6 = .ok (.iload_n 1, 1) := by decide +kernel
theorem d_T_isInputTime_7 : decode prog_1_method_29_code 7 = .ok (.ldc 67, 2) := by decide +kernel
theorem d_T_isInputTime_9 : decode prog_1_method_29_code 9 = .ok (.if_icmp .gt 12, 3) := by decide +kernel
theorem d_T_isInputTime_12 : decode prog_1_method_29_code 12 = .ok (.iload_n 0, 1) := by decide +kernel
theorem d_T_isInputTime_13 : decode prog_1_method_29_code 13 = .ok (.iload_n 1, 1) := by decide +kernel
theorem d_T_isInputTime_14 : decode prog_1_method_29_code 14 = .ok (.if_icmp .gt 7, 3) := by decide +kernel
theorem d_T_isInputTime_17 : decode prog_1_method_29_code 17 = .ok (.iconst 1, 1) := by decide +kernel
theorem d_T_isInputTime_18 : decode prog_1_method_29_code 18 = .ok (.goto 4, 3) := by decide +kernel
theorem d_T_isInputTime_21 : decode prog_1_method_29_code 21 = .ok (.iconst 0, 1) := by decide +kernel
theorem d_T_isInputTime_22 : decode prog_1_method_29_code 22 = .ok (.ireturn, 1) := by decide +kernel
theorem d_T_isCheckTime_0 : decode prog_1_method_30_code 0 = .ok (.iload_n 0, 1) := by decide +kernel
theorem d_T_isCheckTime_1 : decode prog_1_method_30_code 1 = .ok (.sipush (-10000), 3) := by decide +kernel
theorem d_T_isCheckTime_4 : decode prog_1_method_30_code 4 = .ok (.sipush 10000, 3) := by decide +kernel
theorem d_T_isCheckTime_7 : decode prog_1_method_30_code 7 = .ok (.invokestatic 68, 3) := by decide +kernel
theorem d_T_isCheckTime_10 : decode prog_1_method_30_code 10 = .ok (.ireturn, 1) := by decide +kernel
theorem d_T_elementOf_0 : decode prog_1_method_31_code 0 = .ok (.bipush 8, 2) := by decide +kernel
theorem d_T_elementOf_2 : decode prog_1_method_31_code 2 = .ok (.iload_n 0, 1) := by decide +kernel
theorem d_T_elementOf_3 : decode prog_1_method_31_code 3 = .ok (.imul, 1) := by decide +kernel
theorem d_T_elementOf_4 : decode prog_1_method_31_code 4 = .ok (.iconst 2, 1) := by decide +kernel
theorem d_T_elementOf_5 : decode prog_1_method_31_code 5 = .ok (.iload_n 1, 1) := by decide +kernel
theorem d_T_elementOf_6 : decode prog_1_method_31_code 6 = .ok (.imul, 1) := by decide +kernel
theorem d_T_elementOf_7 : decode prog_1_method_31_code 7 = .ok (.iadd, 1) := by decide +kernel
theorem d_T_elementOf_8 : decode prog_1_method_31_code 8 = .ok (.iload_n 2, 1) := by decide +kernel
theorem d_T_elementOf_9 : decode prog_1_method_31_code 9 = .ok (.iadd, 1) := by decide +kernel
theorem d_T_elementOf_10 : decode prog_1_method_31_code 10 = .ok (.ireturn, 1) := by decide +kernel
