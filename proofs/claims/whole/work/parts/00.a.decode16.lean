theorem d_Law_clock_0 : decode method_3_code 0 = .ok (.aload_n 0, 1) := by decide +kernel
theorem d_Law_clock_1 : decode method_3_code 1 = .ok (.iload_n 1, 1) := by decide +kernel
theorem d_Law_clock_2 : decode method_3_code 2 = .ok (.iload_n 2, 1) := by decide +kernel
theorem d_Law_clock_3 : decode method_3_code 3 = .ok (.invokevirtual 7, 3) := by decide +kernel
theorem d_Law_clock_6 : decode method_3_code 6 = .ok (.goto 6, 3) := by decide +kernel
theorem d_Law_clock_9 : decode method_3_code 9 = .ok (.astore_n 3, 1) := by decide +kernel
theorem d_Law_clock_10 : decode method_3_code 10 = .ok (.iconst 1, 1) := by decide +kernel
theorem d_Law_clock_11 : decode method_3_code 11 = .ok (.ireturn, 1) := by decide +kernel
theorem d_Law_clock_12 : decode method_3_code 12 = .ok (.iconst 0, 1) := by decide +kernel
theorem d_Law_clock_13 : decode method_3_code 13 = .ok (.ireturn, 1) := by decide +kernel
theorem d_Law_input_0 : decode method_4_code 0 = .ok (.aload 5, 2) := by decide +kernel
theorem d_Law_input_2 : decode method_4_code 2 = .ok (.iconst 0, 1) := by decide +kernel
theorem d_Law_input_3 : decode method_4_code 3 = .ok (.aload_n 0, 1) := by decide +kernel
theorem d_Law_input_4 : decode method_4_code 4 = .ok (.iload_n 1, 1) := by decide +kernel
theorem d_Law_input_5 : decode method_4_code 5 = .ok (.iload_n 2, 1) := by decide +kernel
theorem d_Law_input_6 : decode method_4_code 6 = .ok (.iload_n 3, 1) := by decide +kernel
theorem d_Law_input_7 : decode method_4_code 7 = .ok (.iload 4, 2) := by decide +kernel
theorem d_Law_input_9 : decode method_4_code 9 = .ok (.invokevirtual 15, 3) := by decide +kernel
theorem d_Law_input_12 : decode method_4_code 12 = .ok (.i2l, 1) := by decide +kernel
theorem d_Law_input_13 : decode method_4_code 13 = .ok (.lastore, 1) := by decide +kernel
theorem d_Law_input_14 : decode method_4_code 14 = .ok (.goto 7, 3) := by decide +kernel
theorem d_Law_input_17 : decode method_4_code 17 = .ok (.astore 6, 2) := by decide +kernel
theorem d_Law_input_19 : decode method_4_code 19 = .ok (.iconst 1, 1) := by decide +kernel
theorem d_Law_input_20 : decode method_4_code 20 = .ok (.ireturn, 1) := by decide +kernel
theorem d_Law_input_21 : decode method_4_code 21 = .ok (.iconst 0, 1) := by decide +kernel
theorem d_Law_input_22 : decode method_4_code 22 = .ok (.ireturn, 1) := by decide +kernel
theorem d_Law_gate_0 : decode method_5_code 0 = .ok (.aload_n 2, 1) := by decide +kernel
theorem d_Law_gate_1 : decode method_5_code 1 = .ok (.iconst 0, 1) := by decide +kernel
theorem d_Law_gate_2 : decode method_5_code 2 = .ok (.aload_n 0, 1) := by decide +kernel
theorem d_Law_gate_3 : decode method_5_code 3 = .ok (.iload_n 1, 1) := by decide +kernel
theorem d_Law_gate_4 : decode method_5_code 4 = .ok (.invokevirtual 19, 3) := by decide +kernel
theorem d_Law_gate_7 : decode method_5_code 7 = .ok (.i2l, 1) := by decide +kernel
theorem d_Law_gate_8 : decode method_5_code 8 = .ok (.lastore, 1) := by decide +kernel
theorem d_Law_gate_9 : decode method_5_code 9 = .ok (.goto 6, 3) := by decide +kernel
theorem d_Law_gate_12 : decode method_5_code 12 = .ok (.astore_n 3, 1) := by decide +kernel
theorem d_Law_gate_13 : decode method_5_code 13 = .ok (.iconst 1, 1) := by decide +kernel
theorem d_Law_gate_14 : decode method_5_code 14 = .ok (.ireturn, 1) := by decide +kernel
theorem d_Law_gate_15 : decode method_5_code 15 = .ok (.iconst 0, 1) := by decide +kernel
theorem d_Law_gate_16 : decode method_5_code 16 = .ok (.ireturn, 1) := by decide +kernel
theorem d_Law_wire_0 : decode method_6_code 0 = .ok (.aload_n 0, 1) := by decide +kernel
theorem d_Law_wire_1 : decode method_6_code 1 = .ok (.iload_n 1, 1) := by decide +kernel
theorem d_Law_wire_2 : decode method_6_code 2 = .ok (.iload_n 2, 1) := by decide +kernel
theorem d_Law_wire_3 : decode method_6_code 3 = .ok (.iload_n 3, 1) := by decide +kernel
theorem d_Law_wire_4 : decode method_6_code 4 = .ok (.iload 4, 2) := by decide +kernel
theorem d_Law_wire_6 : decode method_6_code 6 = .ok (.iload 5, 2) := by decide +kernel
theorem d_Law_wire_8 : decode method_6_code 8 = .ok (.invokevirtual 23, 3) := by decide +kernel
theorem d_Law_wire_11 : decode method_6_code 11 = .ok (.goto 7, 3) := by decide +kernel
theorem d_Law_wire_14 : decode method_6_code 14 = .ok (.astore 6, 2) := by decide +kernel
theorem d_Law_wire_16 : decode method_6_code 16 = .ok (.iconst 1, 1) := by decide +kernel
theorem d_Law_wire_17 : decode method_6_code 17 = .ok (.ireturn, 1) := by decide +kernel
theorem d_Law_wire_18 : decode method_6_code 18 = .ok (.iconst 0, 1) := by decide +kernel
theorem d_Law_wire_19 : decode method_6_code 19 = .ok (.ireturn, 1) := by decide +kernel
theorem d_Law_sense_0 : decode method_7_code 0 = .ok (.aload_n 0, 1) := by decide +kernel
theorem d_Law_sense_1 : decode method_7_code 1 = .ok (.iload_n 1, 1) := by decide +kernel
theorem d_Law_sense_2 : decode method_7_code 2 = .ok (.iload_n 2, 1) := by decide +kernel
theorem d_Law_sense_3 : decode method_7_code 3 = .ok (.iload_n 3, 1) := by decide +kernel
theorem d_Law_sense_4 : decode method_7_code 4 = .ok (.invokevirtual 27, 3) := by decide +kernel
theorem d_Law_sense_7 : decode method_7_code 7 = .ok (.goto 7, 3) := by decide +kernel
theorem d_Law_sense_10 : decode method_7_code 10 = .ok (.astore 4, 2) := by decide +kernel
theorem d_Law_sense_12 : decode method_7_code 12 = .ok (.iconst 1, 1) := by decide +kernel
theorem d_Law_sense_13 : decode method_7_code 13 = .ok (.ireturn, 1) := by decide +kernel
theorem d_Law_sense_14 : decode method_7_code 14 = .ok (.iconst 0, 1) := by decide +kernel
theorem d_Law_sense_15 : decode method_7_code 15 = .ok (.ireturn, 1) := by decide +kernel
theorem d_Law_delay_0 : decode method_8_code 0 = .ok (.aload_n 0, 1) := by decide +kernel
theorem d_Law_delay_1 : decode method_8_code 1 = .ok (.iload_n 1, 1) := by decide +kernel
theorem d_Law_delay_2 : decode method_8_code 2 = .ok (.iload_n 2, 1) := by decide +kernel
theorem d_Law_delay_3 : decode method_8_code 3 = .ok (.iload_n 3, 1) := by decide +kernel
theorem d_Law_delay_4 : decode method_8_code 4 = .ok (.iload 4, 2) := by decide +kernel
theorem d_Law_delay_6 : decode method_8_code 6 = .ok (.iload 5, 2) := by decide +kernel
theorem d_Law_delay_8 : decode method_8_code 8 = .ok (.invokevirtual 31, 3) := by decide +kernel
theorem d_Law_delay_11 : decode method_8_code 11 = .ok (.goto 7, 3) := by decide +kernel
theorem d_Law_delay_14 : decode method_8_code 14 = .ok (.astore 6, 2) := by decide +kernel
theorem d_Law_delay_16 : decode method_8_code 16 = .ok (.iconst 1, 1) := by decide +kernel
theorem d_Law_delay_17 : decode method_8_code 17 = .ok (.ireturn, 1) := by decide +kernel
theorem d_Law_delay_18 : decode method_8_code 18 = .ok (.iconst 0, 1) := by decide +kernel
theorem d_Law_delay_19 : decode method_8_code 19 = .ok (.ireturn, 1) := by decide +kernel
theorem d_Law_check_0 : decode method_9_code 0 = .ok (.aload_n 0, 1) := by decide +kernel
theorem d_Law_check_1 : decode method_9_code 1 = .ok (.iload_n 1, 1) := by decide +kernel
theorem d_Law_check_2 : decode method_9_code 2 = .ok (.iload_n 2, 1) := by decide +kernel
theorem d_Law_check_3 : decode method_9_code 3 = .ok (.iload_n 3, 1) := by decide +kernel
theorem d_Law_check_4 : decode method_9_code 4 = .ok (.iload 4, 2) := by decide +kernel
theorem d_Law_check_6 : decode method_9_code 6 = .ok (.invokevirtual 34, 3) := by decide +kernel
theorem d_Law_check_9 : decode method_9_code 9 = .ok (.goto 7, 3) := by decide +kernel
theorem d_Law_check_12 : decode method_9_code 12 = .ok (.astore 5, 2) := by decide +kernel
theorem d_Law_check_14 : decode method_9_code 14 = .ok (.iconst 1, 1) := by decide +kernel
theorem d_Law_check_15 : decode method_9_code 15 = .ok (.ireturn, 1) := by decide +kernel
theorem d_Law_check_16 : decode method_9_code 16 = .ok (.iconst 0, 1) := by decide +kernel
theorem d_Law_check_17 : decode method_9_code 17 = .ok (.ireturn, 1) := by decide +kernel
theorem d_Law_ways_0 : decode method_10_code 0 = .ok (.aload_n 2, 1) := by decide +kernel
theorem d_Law_ways_1 : decode method_10_code 1 = .ok (.iconst 0, 1) := by decide +kernel
theorem d_Law_ways_2 : decode method_10_code 2 = .ok (.aload_n 0, 1) := by decide +kernel
theorem d_Law_ways_3 : decode method_10_code 3 = .ok (.iload_n 1, 1) := by decide +kernel
theorem d_Law_ways_4 : decode method_10_code 4 = .ok (.invokevirtual 38, 3) := by decide +kernel
theorem d_Law_ways_7 : decode method_10_code 7 = .ok (.i2l, 1) := by decide +kernel
theorem d_Law_ways_8 : decode method_10_code 8 = .ok (.lastore, 1) := by decide +kernel
theorem d_Law_ways_9 : decode method_10_code 9 = .ok (.goto 9, 3) := by decide +kernel
theorem d_Law_ways_12 : decode method_10_code 12 = .ok (.astore_n 3, 1) := by decide +kernel
theorem d_Law_ways_13 : decode method_10_code 13 = .ok (.iconst 1, 1) := by decide +kernel
theorem d_Law_ways_14 : decode method_10_code 14 = .ok (.ireturn, 1) := by decide +kernel
theorem d_Law_ways_15 : decode method_10_code 15 = .ok (.astore_n 3, 1) := by decide +kernel
theorem d_Law_ways_16 : decode method_10_code 16 = .ok (.iconst 2, 1) := by decide +kernel
theorem d_Law_ways_17 : decode method_10_code 17 = .ok (.ireturn, 1) := by decide +kernel
theorem d_Law_ways_18 : decode method_10_code 18 = .ok (.iconst 0, 1) := by decide +kernel
theorem d_Law_ways_19 : decode method_10_code 19 = .ok (.ireturn, 1) := by decide +kernel
theorem d_Law_arrival_0 : decode method_11_code 0 = .ok (.aload 5, 2) := by decide +kernel
theorem d_Law_arrival_2 : decode method_11_code 2 = .ok (.iconst 0, 1) := by decide +kernel
theorem d_Law_arrival_3 : decode method_11_code 3 = .ok (.aload_n 0, 1) := by decide +kernel
theorem d_Law_arrival_4 : decode method_11_code 4 = .ok (.iload_n 1, 1) := by decide +kernel
theorem d_Law_arrival_5 : decode method_11_code 5 = .ok (.iload_n 2, 1) := by decide +kernel
theorem d_Law_arrival_6 : decode method_11_code 6 = .ok (.iload_n 3, 1) := by decide +kernel
theorem d_Law_arrival_7 : decode method_11_code 7 = .ok (.iload 4, 2) := by decide +kernel
theorem d_Law_arrival_9 : decode method_11_code 9 = .ok (.invokevirtual 43, 3) := by decide +kernel
theorem d_Law_arrival_12 : decode method_11_code 12 = .ok (.i2l, 1) := by decide +kernel
theorem d_Law_arrival_13 : decode method_11_code 13 = .ok (.lastore, 1) := by decide +kernel
theorem d_Law_arrival_14 : decode method_11_code 14 = .ok (.goto 11, 3) := by decide +kernel
theorem d_Law_arrival_17 : decode method_11_code 17 = .ok (.astore 6, 2) := by decide +kernel
theorem d_Law_arrival_19 : decode method_11_code 19 = .ok (.iconst 1, 1) := by decide +kernel
theorem d_Law_arrival_20 : decode method_11_code 20 = .ok (.ireturn, 1) := by decide +kernel
theorem d_Law_arrival_21 : decode method_11_code 21 = .ok (.astore 6, 2) := by decide +kernel
theorem d_Law_arrival_23 : decode method_11_code 23 = .ok (.iconst 2, 1) := by decide +kernel
theorem d_Law_arrival_24 : decode method_11_code 24 = .ok (.ireturn, 1) := by decide +kernel
theorem d_Law_arrival_25 : decode method_11_code 25 = .ok (.iconst 0, 1) := by decide +kernel
theorem d_Law_arrival_26 : decode method_11_code 26 = .ok (.ireturn, 1) := by decide +kernel
theorem d_Law_slack_0 : decode method_12_code 0 = .ok (.aload_n 3, 1) := by decide +kernel
theorem d_Law_slack_1 : decode method_12_code 1 = .ok (.iconst 0, 1) := by decide +kernel
theorem d_Law_slack_2 : decode method_12_code 2 = .ok (.aload_n 0, 1) := by decide +kernel
theorem d_Law_slack_3 : decode method_12_code 3 = .ok (.iload_n 1, 1) := by decide +kernel
theorem d_Law_slack_4 : decode method_12_code 4 = .ok (.iload_n 2, 1) := by decide +kernel
theorem d_Law_slack_5 : decode method_12_code 5 = .ok (.invokevirtual 47, 3) := by decide +kernel
theorem d_Law_slack_8 : decode method_12_code 8 = .ok (.i2l, 1) := by decide +kernel
theorem d_Law_slack_9 : decode method_12_code 9 = .ok (.lastore, 1) := by decide +kernel
theorem d_Law_slack_10 : decode method_12_code 10 = .ok (.goto 11, 3) := by decide +kernel
theorem d_Law_slack_13 : decode method_12_code 13 = .ok (.astore 4, 2) := by decide +kernel
theorem d_Law_slack_15 : decode method_12_code 15 = .ok (.iconst 1, 1) := by decide +kernel
theorem d_Law_slack_16 : decode method_12_code 16 = .ok (.ireturn, 1) := by decide +kernel
theorem d_Law_slack_17 : decode method_12_code 17 = .ok (.astore 4, 2) := by decide +kernel
theorem d_Law_slack_19 : decode method_12_code 19 = .ok (.iconst 2, 1) := by decide +kernel
theorem d_Law_slack_20 : decode method_12_code 20 = .ok (.ireturn, 1) := by decide +kernel
theorem d_Law_slack_21 : decode method_12_code 21 = .ok (.iconst 0, 1) := by decide +kernel
theorem d_Law_slack_22 : decode method_12_code 22 = .ok (.ireturn, 1) := by decide +kernel
theorem d_Law_worst_0 : decode method_13_code 0 = .ok (.aload_n 2, 1) := by decide +kernel
theorem d_Law_worst_1 : decode method_13_code 1 = .ok (.iconst 0, 1) := by decide +kernel
theorem d_Law_worst_2 : decode method_13_code 2 = .ok (.aload_n 0, 1) := by decide +kernel
theorem d_Law_worst_3 : decode method_13_code 3 = .ok (.iload_n 1, 1) := by decide +kernel
theorem d_Law_worst_4 : decode method_13_code 4 = .ok (.invokevirtual 51, 3) := by decide +kernel
theorem d_Law_worst_7 : decode method_13_code 7 = .ok (.i2l, 1) := by decide +kernel
theorem d_Law_worst_8 : decode method_13_code 8 = .ok (.lastore, 1) := by decide +kernel
theorem d_Law_worst_9 : decode method_13_code 9 = .ok (.goto 9, 3) := by decide +kernel
theorem d_Law_worst_12 : decode method_13_code 12 = .ok (.astore_n 3, 1) := by decide +kernel
theorem d_Law_worst_13 : decode method_13_code 13 = .ok (.iconst 1, 1) := by decide +kernel
theorem d_Law_worst_14 : decode method_13_code 14 = .ok (.ireturn, 1) := by decide +kernel
theorem d_Law_worst_15 : decode method_13_code 15 = .ok (.astore_n 3, 1) := by decide +kernel
theorem d_Law_worst_16 : decode method_13_code 16 = .ok (.iconst 2, 1) := by decide +kernel
theorem d_Law_worst_17 : decode method_13_code 17 = .ok (.ireturn, 1) := by decide +kernel
theorem d_Law_worst_18 : decode method_13_code 18 = .ok (.iconst 0, 1) := by decide +kernel
theorem d_Law_worst_19 : decode method_13_code 19 = .ok (.ireturn, 1) := by decide +kernel
theorem d_Law_total_0 : decode method_14_code 0 = .ok (.aload_n 2, 1) := by decide +kernel
theorem d_Law_total_1 : decode method_14_code 1 = .ok (.iconst 0, 1) := by decide +kernel
theorem d_Law_total_2 : decode method_14_code 2 = .ok (.aload_n 0, 1) := by decide +kernel
theorem d_Law_total_3 : decode method_14_code 3 = .ok (.iload_n 1, 1) := by decide +kernel
theorem d_Law_total_4 : decode method_14_code 4 = .ok (.invokevirtual 54, 3) := by decide +kernel
theorem d_Law_total_7 : decode method_14_code 7 = .ok (.i2l, 1) := by decide +kernel
theorem d_Law_total_8 : decode method_14_code 8 = .ok (.lastore, 1) := by decide +kernel
theorem d_Law_total_9 : decode method_14_code 9 = .ok (.goto 9, 3) := by decide +kernel
theorem d_Law_total_12 : decode method_14_code 12 = .ok (.astore_n 3, 1) := by decide +kernel
theorem d_Law_total_13 : decode method_14_code 13 = .ok (.iconst 1, 1) := by decide +kernel
theorem d_Law_total_14 : decode method_14_code 14 = .ok (.ireturn, 1) := by decide +kernel
theorem d_Law_total_15 : decode method_14_code 15 = .ok (.astore_n 3, 1) := by decide +kernel
theorem d_Law_total_16 : decode method_14_code 16 = .ok (.iconst 2, 1) := by decide +kernel
theorem d_Law_total_17 : decode method_14_code 17 = .ok (.ireturn, 1) := by decide +kernel
theorem d_Law_total_18 : decode method_14_code 18 = .ok (.iconst 0, 1) := by decide +kernel
theorem d_Law_total_19 : decode method_14_code 19 = .ok (.ireturn, 1) := by decide +kernel
theorem d_Law_leastPeriod_0 : decode method_15_code 0 = .ok (.aload_n 1, 1) := by decide +kernel
theorem d_Law_leastPeriod_1 : decode method_15_code 1 = .ok (.iconst 0, 1) := by decide +kernel
theorem d_Law_leastPeriod_2 : decode method_15_code 2 = .ok (.aload_n 0, 1) := by decide +kernel
theorem d_Law_leastPeriod_3 : decode method_15_code 3 = .ok (.invokevirtual 57, 3) := by decide +kernel
theorem d_Law_leastPeriod_6 : decode method_15_code 6 = .ok (.i2l, 1) := by decide +kernel
theorem d_Law_leastPeriod_7 : decode method_15_code 7 = .ok (.lastore, 1) := by decide +kernel
theorem d_Law_leastPeriod_8 : decode method_15_code 8 = .ok (.goto 6, 3) := by decide +kernel
theorem d_Law_leastPeriod_11 : decode method_15_code 11 = .ok (.astore_n 2, 1) := by decide +kernel
theorem d_Law_leastPeriod_12 : decode method_15_code 12 = .ok (.iconst 1, 1) := by decide +kernel
theorem d_Law_leastPeriod_13 : decode method_15_code 13 = .ok (.ireturn, 1) := by decide +kernel
theorem d_Law_leastPeriod_14 : decode method_15_code 14 = .ok (.iconst 0, 1) := by decide +kernel
theorem d_Law_leastPeriod_15 : decode method_15_code 15 = .ok (.ireturn, 1) := by decide +kernel
theorem d_Law_paths_0 : decode method_16_code 0 = .ok (.aload_n 1, 1) := by decide +kernel
theorem d_Law_paths_1 : decode method_16_code 1 = .ok (.iconst 0, 1) := by decide +kernel
theorem d_Law_paths_2 : decode method_16_code 2 = .ok (.aload_n 0, 1) := by decide +kernel
theorem d_Law_paths_3 : decode method_16_code 3 = .ok (.invokevirtual 61, 3) := by decide +kernel
theorem d_Law_paths_6 : decode method_16_code 6 = .ok (.i2l, 1) := by decide +kernel
theorem d_Law_paths_7 : decode method_16_code 7 = .ok (.lastore, 1) := by decide +kernel
theorem d_Law_paths_8 : decode method_16_code 8 = .ok (.goto 6, 3) := by decide +kernel
theorem d_Law_paths_11 : decode method_16_code 11 = .ok (.astore_n 2, 1) := by decide +kernel
theorem d_Law_paths_12 : decode method_16_code 12 = .ok (.iconst 1, 1) := by decide +kernel
theorem d_Law_paths_13 : decode method_16_code 13 = .ok (.ireturn, 1) := by decide +kernel
theorem d_Law_paths_14 : decode method_16_code 14 = .ok (.iconst 0, 1) := by decide +kernel
theorem d_Law_paths_15 : decode method_16_code 15 = .ok (.ireturn, 1) := by decide +kernel
theorem d_Law_path_0 : decode method_17_code 0 = .ok (.aload_n 3, 1) := by decide +kernel
theorem d_Law_path_1 : decode method_17_code 1 = .ok (.iconst 0, 1) := by decide +kernel
theorem d_Law_path_2 : decode method_17_code 2 = .ok (.aload_n 0, 1) := by decide +kernel
theorem d_Law_path_3 : decode method_17_code 3 = .ok (.iload_n 1, 1) := by decide +kernel
theorem d_Law_path_4 : decode method_17_code 4 = .ok (.iload_n 2, 1) := by decide +kernel
theorem d_Law_path_5 : decode method_17_code 5 = .ok (.invokevirtual 64, 3) := by decide +kernel
theorem d_Law_path_8 : decode method_17_code 8 = .ok (.i2l, 1) := by decide +kernel
theorem d_Law_path_9 : decode method_17_code 9 = .ok (.lastore, 1) := by decide +kernel
theorem d_Law_path_10 : decode method_17_code 10 = .ok (.goto 15, 3) := by decide +kernel
theorem d_Law_path_13 : decode method_17_code 13 = .ok (.astore 4, 2) := by decide +kernel
theorem d_Law_path_15 : decode method_17_code 15 = .ok (.iconst 1, 1) := by decide +kernel
theorem d_Law_path_16 : decode method_17_code 16 = .ok (.ireturn, 1) := by decide +kernel
theorem d_Law_path_17 : decode method_17_code 17 = .ok (.astore 4, 2) := by decide +kernel
theorem d_Law_path_19 : decode method_17_code 19 = .ok (.iconst 2, 1) := by decide +kernel
theorem d_Law_path_20 : decode method_17_code 20 = .ok (.ireturn, 1) := by decide +kernel
theorem d_Law_path_21 : decode method_17_code 21 = .ok (.astore 4, 2) := by decide +kernel
theorem d_Law_path_23 : decode method_17_code 23 = .ok (.iconst 3, 1) := by decide +kernel
theorem d_Law_path_24 : decode method_17_code 24 = .ok (.ireturn, 1) := by decide +kernel
theorem d_Law_path_25 : decode method_17_code 25 = .ok (.iconst 0, 1) := by decide +kernel
theorem d_Law_path_26 : decode method_17_code 26 = .ok (.ireturn, 1) := by decide +kernel
theorem d_Law_element_0 : decode method_18_code 0 = .ok (.aload 4, 2) := by decide +kernel
theorem d_Law_element_2 : decode method_18_code 2 = .ok (.iconst 0, 1) := by decide +kernel
theorem d_Law_element_3 : decode method_18_code 3 = .ok (.aload_n 0, 1) := by decide +kernel
theorem d_Law_element_4 : decode method_18_code 4 = .ok (.iload_n 1, 1) := by decide +kernel
theorem d_Law_element_5 : decode method_18_code 5 = .ok (.iload_n 2, 1) := by decide +kernel
theorem d_Law_element_6 : decode method_18_code 6 = .ok (.iload_n 3, 1) := by decide +kernel
theorem d_Law_element_7 : decode method_18_code 7 = .ok (.invokevirtual 69, 3) := by decide +kernel
theorem d_Law_element_10 : decode method_18_code 10 = .ok (.i2l, 1) := by decide +kernel
theorem d_Law_element_11 : decode method_18_code 11 = .ok (.lastore, 1) := by decide +kernel
theorem d_Law_element_12 : decode method_18_code 12 = .ok (.goto 15, 3) := by decide +kernel
theorem d_Law_element_15 : decode method_18_code 15 = .ok (.astore 5, 2) := by decide +kernel
theorem d_Law_element_17 : decode method_18_code 17 = .ok (.iconst 1, 1) := by decide +kernel
theorem d_Law_element_18 : decode method_18_code 18 = .ok (.ireturn, 1) := by decide +kernel
theorem d_Law_element_19 : decode method_18_code 19 = .ok (.astore 5, 2) := by decide +kernel
theorem d_Law_element_21 : decode method_18_code 21 = .ok (.iconst 2, 1) := by decide +kernel
theorem d_Law_element_22 : decode method_18_code 22 = .ok (.ireturn, 1) := by decide +kernel
theorem d_Law_element_23 : decode method_18_code 23 = .ok (.astore 5, 2) := by decide +kernel
theorem d_Law_element_25 : decode method_18_code 25 = .ok (.iconst 3, 1) := by decide +kernel
theorem d_Law_element_26 : decode method_18_code 26 = .ok (.ireturn, 1) := by decide +kernel
theorem d_Law_element_27 : decode method_18_code 27 = .ok (.iconst 0, 1) := by decide +kernel
theorem d_Law_element_28 : decode method_18_code 28 = .ok (.ireturn, 1) := by decide +kernel
theorem d_Law_law_0 : decode code 0 = .ok (.new 8, 3) := by decide +kernel
theorem d_Law_law_3 : decode code 3 = .ok (.dup, 1) := by decide +kernel
theorem d_Law_law_4 : decode code 4 = .ok (.invokespecial 73, 3) := by decide +kernel
theorem d_Law_law_7 : decode code 7 = .ok (.astore_n 1, 1) := by decide +kernel
theorem d_Law_law_8 : decode code 8 = .ok (.new 74, 3) := by decide +kernel
theorem d_Law_law_11 : decode code 11 = .ok (.dup, 1) := by decide +kernel
theorem d_Law_law_12 : decode code 12 = .ok (.invokespecial 76, 3) := by decide +kernel
theorem d_Law_law_15 : decode code 15 = .ok (.astore_n 2, 1) := by decide +kernel
theorem d_Law_law_16 : decode code 16 = .ok (.iconst 1, 1) := by decide +kernel
theorem d_Law_law_17 : decode code 17 = .ok (.newarray .long, 2) := by decide +kernel
theorem d_Law_law_19 : decode code 19 = .ok (.astore_n 3, 1) := by decide +kernel
theorem d_Law_law_20 : decode code 20 = .ok (.iconst 0, 1) := by decide +kernel
theorem d_Law_law_21 : decode code 21 = .ok (.istore 4, 2) := by decide +kernel
theorem d_Law_law_23 : decode code 23 = .ok (.iload 4, 2) := by decide +kernel
theorem d_Law_law_25 : decode code 25 = .ok (.aload_n 0, 1) := by decide +kernel
theorem d_Law_law_26 : decode code 26 = .ok (.arraylength, 1) := by decide +kernel
theorem d_Law_law_27 : decode code 27 = .ok (.bipush 6, 2) := by decide +kernel
theorem d_Law_law_29 : decode code 29 = .ok (.isub, 1) := by decide +kernel
theorem d_Law_law_30 : decode code 30 = .ok (.if_icmp .gt 1240, 3) := by decide +kernel
theorem d_Law_law_33 : decode code 33 = .ok (.aload_n 0, 1) := by decide +kernel
theorem d_Law_law_34 : decode code 34 = .ok (.iload 4, 2) := by decide +kernel
theorem d_Law_law_36 : decode code 36 = .ok (.iaload, 1) := by decide +kernel
theorem d_Law_law_37 : decode code 37 = .ok (.bipush 31, 2) := by decide +kernel
theorem d_Law_law_39 : decode code 39 = .ok (.iand, 1) := by decide +kernel
theorem d_Law_law_40 : decode code 40 = .ok (.tableswitch 1224 0 19 #[96, 144, 236, 292, 305, 318, 402, 462, 546, 618, 631, 644, 700, 808, 876, 932, 988, 1032, 1076, 1144], 96) := by decide +kernel
theorem d_Law_law_136 : decode code 136 = .ok (.aload_n 1, 1) := by decide +kernel
theorem d_Law_law_137 : decode code 137 = .ok (.aload_n 0, 1) := by decide +kernel
theorem d_Law_law_138 : decode code 138 = .ok (.iload 4, 2) := by decide +kernel
theorem d_Law_law_140 : decode code 140 = .ok (.iconst 1, 1) := by decide +kernel
theorem d_Law_law_141 : decode code 141 = .ok (.iadd, 1) := by decide +kernel
theorem d_Law_law_142 : decode code 142 = .ok (.iaload, 1) := by decide +kernel
theorem d_Law_law_143 : decode code 143 = .ok (.aload_n 0, 1) := by decide +kernel
theorem d_Law_law_144 : decode code 144 = .ok (.iload 4, 2) := by decide +kernel
theorem d_Law_law_146 : decode code 146 = .ok (.iconst 2, 1) := by decide +kernel
theorem d_Law_law_147 : decode code 147 = .ok (.iadd, 1) := by decide +kernel
theorem d_Law_law_148 : decode code 148 = .ok (.iaload, 1) := by decide +kernel
theorem d_Law_law_149 : decode code 149 = .ok (.invokestatic 77, 3) := by decide +kernel
theorem d_Law_law_152 : decode code 152 = .ok (.istore 5, 2) := by decide +kernel
theorem d_Law_law_154 : decode code 154 = .ok (.aload_n 2, 1) := by decide +kernel
theorem d_Law_law_155 : decode code 155 = .ok (.aload_n 0, 1) := by decide +kernel
theorem d_Law_law_156 : decode code 156 = .ok (.iload 4, 2) := by decide +kernel
theorem d_Law_law_158 : decode code 158 = .ok (.iconst 1, 1) := by decide +kernel
theorem d_Law_law_159 : decode code 159 = .ok (.iadd, 1) := by decide +kernel
theorem d_Law_law_160 : decode code 160 = .ok (.iaload, 1) := by decide +kernel
theorem d_Law_law_161 : decode code 161 = .ok (.aload_n 0, 1) := by decide +kernel
theorem d_Law_law_162 : decode code 162 = .ok (.iload 4, 2) := by decide +kernel
theorem d_Law_law_164 : decode code 164 = .ok (.iconst 2, 1) := by decide +kernel
theorem d_Law_law_165 : decode code 165 = .ok (.iadd, 1) := by decide +kernel
theorem d_Law_law_166 : decode code 166 = .ok (.iaload, 1) := by decide +kernel
theorem d_Law_law_167 : decode code 167 = .ok (.invokevirtual 82, 3) := by decide +kernel
theorem d_Law_law_170 : decode code 170 = .ok (.aload_n 2, 1) := by decide +kernel
theorem d_Law_law_171 : decode code 171 = .ok (.invokevirtual 83, 3) := by decide +kernel
theorem d_Law_law_174 : decode code 174 = .ok (.iload 5, 2) := by decide +kernel
theorem d_Law_law_176 : decode code 176 = .ok (.if_icmp .eq 5, 3) := by decide +kernel
theorem d_Law_law_179 : decode code 179 = .ok (.iconst 0, 1) := by decide +kernel
theorem d_Law_law_180 : decode code 180 = .ok (.ireturn, 1) := by decide +kernel
theorem d_Law_law_181 : decode code 181 = .ok (.goto 1083, 3) := by decide +kernel
theorem d_Law_law_184 : decode code 184 = .ok (.aload_n 1, 1) := by decide +kernel
theorem d_Law_law_185 : decode code 185 = .ok (.aload_n 0, 1) := by decide +kernel
theorem d_Law_law_186 : decode code 186 = .ok (.iload 4, 2) := by decide +kernel
theorem d_Law_law_188 : decode code 188 = .ok (.iconst 1, 1) := by decide +kernel
theorem d_Law_law_189 : decode code 189 = .ok (.iadd, 1) := by decide +kernel
theorem d_Law_law_190 : decode code 190 = .ok (.iaload, 1) := by decide +kernel
theorem d_Law_law_191 : decode code 191 = .ok (.aload_n 0, 1) := by decide +kernel
theorem d_Law_law_192 : decode code 192 = .ok (.iload 4, 2) := by decide +kernel
theorem d_Law_law_194 : decode code 194 = .ok (.iconst 2, 1) := by decide +kernel
theorem d_Law_law_195 : decode code 195 = .ok (.iadd, 1) := by decide +kernel
theorem d_Law_law_196 : decode code 196 = .ok (.iaload, 1) := by decide +kernel
theorem d_Law_law_197 : decode code 197 = .ok (.aload_n 0, 1) := by decide +kernel
theorem d_Law_law_198 : decode code 198 = .ok (.iload 4, 2) := by decide +kernel
theorem d_Law_law_200 : decode code 200 = .ok (.iconst 3, 1) := by decide +kernel
theorem d_Law_law_201 : decode code 201 = .ok (.iadd, 1) := by decide +kernel
theorem d_Law_law_202 : decode code 202 = .ok (.iaload, 1) := by decide +kernel
theorem d_Law_law_203 : decode code 203 = .ok (.aload_n 0, 1) := by decide +kernel
theorem d_Law_law_204 : decode code 204 = .ok (.iload 4, 2) := by decide +kernel
theorem d_Law_law_206 : decode code 206 = .ok (.iconst 4, 1) := by decide +kernel
theorem d_Law_law_207 : decode code 207 = .ok (.iadd, 1) := by decide +kernel
theorem d_Law_law_208 : decode code 208 = .ok (.iaload, 1) := by decide +kernel
theorem d_Law_law_209 : decode code 209 = .ok (.aload_n 3, 1) := by decide +kernel
theorem d_Law_law_210 : decode code 210 = .ok (.invokestatic 86, 3) := by decide +kernel
theorem d_Law_law_213 : decode code 213 = .ok (.istore 5, 2) := by decide +kernel
theorem d_Law_law_215 : decode code 215 = .ok (.aload_n 2, 1) := by decide +kernel
theorem d_Law_law_216 : decode code 216 = .ok (.aload_n 0, 1) := by decide +kernel
theorem d_Law_law_217 : decode code 217 = .ok (.iload 4, 2) := by decide +kernel
theorem d_Law_law_219 : decode code 219 = .ok (.iconst 1, 1) := by decide +kernel
theorem d_Law_law_220 : decode code 220 = .ok (.iadd, 1) := by decide +kernel
theorem d_Law_law_221 : decode code 221 = .ok (.iaload, 1) := by decide +kernel
theorem d_Law_law_222 : decode code 222 = .ok (.aload_n 0, 1) := by decide +kernel
theorem d_Law_law_223 : decode code 223 = .ok (.iload 4, 2) := by decide +kernel
theorem d_Law_law_225 : decode code 225 = .ok (.iconst 2, 1) := by decide +kernel
theorem d_Law_law_226 : decode code 226 = .ok (.iadd, 1) := by decide +kernel
theorem d_Law_law_227 : decode code 227 = .ok (.iaload, 1) := by decide +kernel
theorem d_Law_law_228 : decode code 228 = .ok (.aload_n 0, 1) := by decide +kernel
theorem d_Law_law_229 : decode code 229 = .ok (.iload 4, 2) := by decide +kernel
theorem d_Law_law_231 : decode code 231 = .ok (.iconst 3, 1) := by decide +kernel
theorem d_Law_law_232 : decode code 232 = .ok (.iadd, 1) := by decide +kernel
theorem d_Law_law_233 : decode code 233 = .ok (.iaload, 1) := by decide +kernel
theorem d_Law_law_234 : decode code 234 = .ok (.aload_n 0, 1) := by decide +kernel
theorem d_Law_law_235 : decode code 235 = .ok (.iload 4, 2) := by decide +kernel
theorem d_Law_law_237 : decode code 237 = .ok (.iconst 4, 1) := by decide +kernel
theorem d_Law_law_238 : decode code 238 = .ok (.iadd, 1) := by decide +kernel
theorem d_Law_law_239 : decode code 239 = .ok (.iaload, 1) := by decide +kernel
theorem d_Law_law_240 : decode code 240 = .ok (.invokevirtual 89, 3) := by decide +kernel
theorem d_Law_law_243 : decode code 243 = .ok (.istore 6, 2) := by decide +kernel
theorem d_Law_law_245 : decode code 245 = .ok (.aload_n 2, 1) := by decide +kernel
theorem d_Law_law_246 : decode code 246 = .ok (.invokevirtual 83, 3) := by decide +kernel
theorem d_Law_law_249 : decode code 249 = .ok (.iload 5, 2) := by decide +kernel
theorem d_Law_law_251 : decode code 251 = .ok (.if_icmp .eq 5, 3) := by decide +kernel
theorem d_Law_law_254 : decode code 254 = .ok (.iconst 0, 1) := by decide +kernel
theorem d_Law_law_255 : decode code 255 = .ok (.ireturn, 1) := by decide +kernel
theorem d_Law_law_256 : decode code 256 = .ok (.iload 5, 2) := by decide +kernel
theorem d_Law_law_258 : decode code 258 = .ok (.ifCond .ne 15, 3) := by decide +kernel
theorem d_Law_law_261 : decode code 261 = .ok (.aload_n 3, 1) := by decide +kernel
theorem d_Law_law_262 : decode code 262 = .ok (.iconst 0, 1) := by decide +kernel
theorem d_Law_law_263 : decode code 263 = .ok (.laload, 1) := by decide +kernel
theorem d_Law_law_264 : decode code 264 = .ok (.iload 6, 2) := by decide +kernel
theorem d_Law_law_266 : decode code 266 = .ok (.i2l, 1) := by decide +kernel
theorem d_Law_law_267 : decode code 267 = .ok (.lcmp, 1) := by decide +kernel
theorem d_Law_law_268 : decode code 268 = .ok (.ifCond .eq 5, 3) := by decide +kernel
theorem d_Law_law_271 : decode code 271 = .ok (.iconst 0, 1) := by decide +kernel
theorem d_Law_law_272 : decode code 272 = .ok (.ireturn, 1) := by decide +kernel
theorem d_Law_law_273 : decode code 273 = .ok (.goto 991, 3) := by decide +kernel
theorem d_Law_law_276 : decode code 276 = .ok (.aload_n 1, 1) := by decide +kernel
theorem d_Law_law_277 : decode code 277 = .ok (.aload_n 0, 1) := by decide +kernel
theorem d_Law_law_278 : decode code 278 = .ok (.iload 4, 2) := by decide +kernel
theorem d_Law_law_280 : decode code 280 = .ok (.iconst 1, 1) := by decide +kernel
theorem d_Law_law_281 : decode code 281 = .ok (.iadd, 1) := by decide +kernel
theorem d_Law_law_282 : decode code 282 = .ok (.iaload, 1) := by decide +kernel
theorem d_Law_law_283 : decode code 283 = .ok (.aload_n 3, 1) := by decide +kernel
theorem d_Law_law_284 : decode code 284 = .ok (.invokestatic 90, 3) := by decide +kernel
theorem d_Law_law_287 : decode code 287 = .ok (.istore 5, 2) := by decide +kernel
theorem d_Law_law_289 : decode code 289 = .ok (.aload_n 2, 1) := by decide +kernel
theorem d_Law_law_290 : decode code 290 = .ok (.aload_n 0, 1) := by decide +kernel
theorem d_Law_law_291 : decode code 291 = .ok (.iload 4, 2) := by decide +kernel
theorem d_Law_law_293 : decode code 293 = .ok (.iconst 1, 1) := by decide +kernel
theorem d_Law_law_294 : decode code 294 = .ok (.iadd, 1) := by decide +kernel
theorem d_Law_law_295 : decode code 295 = .ok (.iaload, 1) := by decide +kernel
theorem d_Law_law_296 : decode code 296 = .ok (.invokevirtual 93, 3) := by decide +kernel
theorem d_Law_law_299 : decode code 299 = .ok (.istore 6, 2) := by decide +kernel
theorem d_Law_law_301 : decode code 301 = .ok (.aload_n 2, 1) := by decide +kernel
theorem d_Law_law_302 : decode code 302 = .ok (.invokevirtual 83, 3) := by decide +kernel
theorem d_Law_law_305 : decode code 305 = .ok (.iload 5, 2) := by decide +kernel
theorem d_Law_law_307 : decode code 307 = .ok (.if_icmp .eq 5, 3) := by decide +kernel
theorem d_Law_law_310 : decode code 310 = .ok (.iconst 0, 1) := by decide +kernel
theorem d_Law_law_311 : decode code 311 = .ok (.ireturn, 1) := by decide +kernel
theorem d_Law_law_312 : decode code 312 = .ok (.iload 5, 2) := by decide +kernel
theorem d_Law_law_314 : decode code 314 = .ok (.ifCond .ne 15, 3) := by decide +kernel
theorem d_Law_law_317 : decode code 317 = .ok (.aload_n 3, 1) := by decide +kernel
theorem d_Law_law_318 : decode code 318 = .ok (.iconst 0, 1) := by decide +kernel
theorem d_Law_law_319 : decode code 319 = .ok (.laload, 1) := by decide +kernel
theorem d_Law_law_320 : decode code 320 = .ok (.iload 6, 2) := by decide +kernel
theorem d_Law_law_322 : decode code 322 = .ok (.i2l, 1) := by decide +kernel
theorem d_Law_law_323 : decode code 323 = .ok (.lcmp, 1) := by decide +kernel
theorem d_Law_law_324 : decode code 324 = .ok (.ifCond .eq 5, 3) := by decide +kernel
theorem d_Law_law_327 : decode code 327 = .ok (.iconst 0, 1) := by decide +kernel
theorem d_Law_law_328 : decode code 328 = .ok (.ireturn, 1) := by decide +kernel
theorem d_Law_law_329 : decode code 329 = .ok (.goto 935, 3) := by decide +kernel
theorem d_Law_law_332 : decode code 332 = .ok (.aload_n 1, 1) := by decide +kernel
theorem d_Law_law_333 : decode code 333 = .ok (.invokevirtual 94, 3) := by decide +kernel
theorem d_Law_law_336 : decode code 336 = .ok (.aload_n 2, 1) := by decide +kernel
theorem d_Law_law_337 : decode code 337 = .ok (.invokevirtual 97, 3) := by decide +kernel
theorem d_Law_law_340 : decode code 340 = .ok (.if_icmp .eq 924, 3) := by decide +kernel
theorem d_Law_law_343 : decode code 343 = .ok (.iconst 0, 1) := by decide +kernel
theorem d_Law_law_344 : decode code 344 = .ok (.ireturn, 1) := by decide +kernel
theorem d_Law_law_345 : decode code 345 = .ok (.aload_n 1, 1) := by decide +kernel
theorem d_Law_law_346 : decode code 346 = .ok (.invokevirtual 98, 3) := by decide +kernel
theorem d_Law_law_349 : decode code 349 = .ok (.aload_n 2, 1) := by decide +kernel
theorem d_Law_law_350 : decode code 350 = .ok (.invokevirtual 101, 3) := by decide +kernel
theorem d_Law_law_353 : decode code 353 = .ok (.if_icmp .eq 911, 3) := by decide +kernel
theorem d_Law_law_356 : decode code 356 = .ok (.iconst 0, 1) := by decide +kernel
theorem d_Law_law_357 : decode code 357 = .ok (.ireturn, 1) := by decide +kernel
theorem d_Law_law_358 : decode code 358 = .ok (.aload_n 1, 1) := by decide +kernel
theorem d_Law_law_359 : decode code 359 = .ok (.aload_n 0, 1) := by decide +kernel
theorem d_Law_law_360 : decode code 360 = .ok (.iload 4, 2) := by decide +kernel
theorem d_Law_law_362 : decode code 362 = .ok (.iconst 1, 1) := by decide +kernel
theorem d_Law_law_363 : decode code 363 = .ok (.iadd, 1) := by decide +kernel
theorem d_Law_law_364 : decode code 364 = .ok (.iaload, 1) := by decide +kernel
theorem d_Law_law_365 : decode code 365 = .ok (.aload_n 0, 1) := by decide +kernel
theorem d_Law_law_366 : decode code 366 = .ok (.iload 4, 2) := by decide +kernel
theorem d_Law_law_368 : decode code 368 = .ok (.iconst 2, 1) := by decide +kernel
theorem d_Law_law_369 : decode code 369 = .ok (.iadd, 1) := by decide +kernel
theorem d_Law_law_370 : decode code 370 = .ok (.iaload, 1) := by decide +kernel
theorem d_Law_law_371 : decode code 371 = .ok (.aload_n 0, 1) := by decide +kernel
theorem d_Law_law_372 : decode code 372 = .ok (.iload 4, 2) := by decide +kernel
theorem d_Law_law_374 : decode code 374 = .ok (.iconst 3, 1) := by decide +kernel
theorem d_Law_law_375 : decode code 375 = .ok (.iadd, 1) := by decide +kernel
theorem d_Law_law_376 : decode code 376 = .ok (.iaload, 1) := by decide +kernel
theorem d_Law_law_377 : decode code 377 = .ok (.aload_n 0, 1) := by decide +kernel
theorem d_Law_law_378 : decode code 378 = .ok (.iload 4, 2) := by decide +kernel
theorem d_Law_law_380 : decode code 380 = .ok (.iconst 4, 1) := by decide +kernel
theorem d_Law_law_381 : decode code 381 = .ok (.iadd, 1) := by decide +kernel
theorem d_Law_law_382 : decode code 382 = .ok (.iaload, 1) := by decide +kernel
theorem d_Law_law_383 : decode code 383 = .ok (.aload_n 0, 1) := by decide +kernel
theorem d_Law_law_384 : decode code 384 = .ok (.iload 4, 2) := by decide +kernel
theorem d_Law_law_386 : decode code 386 = .ok (.iconst 5, 1) := by decide +kernel
theorem d_Law_law_387 : decode code 387 = .ok (.iadd, 1) := by decide +kernel
theorem d_Law_law_388 : decode code 388 = .ok (.iaload, 1) := by decide +kernel
theorem d_Law_law_389 : decode code 389 = .ok (.invokestatic 102, 3) := by decide +kernel
theorem d_Law_law_392 : decode code 392 = .ok (.istore 5, 2) := by decide +kernel
theorem d_Law_law_394 : decode code 394 = .ok (.aload_n 2, 1) := by decide +kernel
theorem d_Law_law_395 : decode code 395 = .ok (.aload_n 0, 1) := by decide +kernel
theorem d_Law_law_396 : decode code 396 = .ok (.iload 4, 2) := by decide +kernel
theorem d_Law_law_398 : decode code 398 = .ok (.iconst 1, 1) := by decide +kernel
theorem d_Law_law_399 : decode code 399 = .ok (.iadd, 1) := by decide +kernel
theorem d_Law_law_400 : decode code 400 = .ok (.iaload, 1) := by decide +kernel
theorem d_Law_law_401 : decode code 401 = .ok (.aload_n 0, 1) := by decide +kernel
theorem d_Law_law_402 : decode code 402 = .ok (.iload 4, 2) := by decide +kernel
theorem d_Law_law_404 : decode code 404 = .ok (.iconst 2, 1) := by decide +kernel
theorem d_Law_law_405 : decode code 405 = .ok (.iadd, 1) := by decide +kernel
theorem d_Law_law_406 : decode code 406 = .ok (.iaload, 1) := by decide +kernel
theorem d_Law_law_407 : decode code 407 = .ok (.aload_n 0, 1) := by decide +kernel
theorem d_Law_law_408 : decode code 408 = .ok (.iload 4, 2) := by decide +kernel
theorem d_Law_law_410 : decode code 410 = .ok (.iconst 3, 1) := by decide +kernel
theorem d_Law_law_411 : decode code 411 = .ok (.iadd, 1) := by decide +kernel
theorem d_Law_law_412 : decode code 412 = .ok (.iaload, 1) := by decide +kernel
theorem d_Law_law_413 : decode code 413 = .ok (.aload_n 0, 1) := by decide +kernel
theorem d_Law_law_414 : decode code 414 = .ok (.iload 4, 2) := by decide +kernel
theorem d_Law_law_416 : decode code 416 = .ok (.iconst 4, 1) := by decide +kernel
theorem d_Law_law_417 : decode code 417 = .ok (.iadd, 1) := by decide +kernel
theorem d_Law_law_418 : decode code 418 = .ok (.iaload, 1) := by decide +kernel
theorem d_Law_law_419 : decode code 419 = .ok (.aload_n 0, 1) := by decide +kernel
theorem d_Law_law_420 : decode code 420 = .ok (.iload 4, 2) := by decide +kernel
theorem d_Law_law_422 : decode code 422 = .ok (.iconst 5, 1) := by decide +kernel
theorem d_Law_law_423 : decode code 423 = .ok (.iadd, 1) := by decide +kernel
theorem d_Law_law_424 : decode code 424 = .ok (.iaload, 1) := by decide +kernel
theorem d_Law_law_425 : decode code 425 = .ok (.invokevirtual 105, 3) := by decide +kernel
theorem d_Law_law_428 : decode code 428 = .ok (.aload_n 2, 1) := by decide +kernel
theorem d_Law_law_429 : decode code 429 = .ok (.invokevirtual 83, 3) := by decide +kernel
theorem d_Law_law_432 : decode code 432 = .ok (.iload 5, 2) := by decide +kernel
theorem d_Law_law_434 : decode code 434 = .ok (.if_icmp .eq 5, 3) := by decide +kernel
theorem d_Law_law_437 : decode code 437 = .ok (.iconst 0, 1) := by decide +kernel
theorem d_Law_law_438 : decode code 438 = .ok (.ireturn, 1) := by decide +kernel
theorem d_Law_law_439 : decode code 439 = .ok (.goto 825, 3) := by decide +kernel
theorem d_Law_law_442 : decode code 442 = .ok (.aload_n 1, 1) := by decide +kernel
theorem d_Law_law_443 : decode code 443 = .ok (.aload_n 0, 1) := by decide +kernel
theorem d_Law_law_444 : decode code 444 = .ok (.iload 4, 2) := by decide +kernel
theorem d_Law_law_446 : decode code 446 = .ok (.iconst 1, 1) := by decide +kernel
theorem d_Law_law_447 : decode code 447 = .ok (.iadd, 1) := by decide +kernel
theorem d_Law_law_448 : decode code 448 = .ok (.iaload, 1) := by decide +kernel
theorem d_Law_law_449 : decode code 449 = .ok (.aload_n 0, 1) := by decide +kernel
theorem d_Law_law_450 : decode code 450 = .ok (.iload 4, 2) := by decide +kernel
theorem d_Law_law_452 : decode code 452 = .ok (.iconst 2, 1) := by decide +kernel
theorem d_Law_law_453 : decode code 453 = .ok (.iadd, 1) := by decide +kernel
theorem d_Law_law_454 : decode code 454 = .ok (.iaload, 1) := by decide +kernel
theorem d_Law_law_455 : decode code 455 = .ok (.aload_n 0, 1) := by decide +kernel
theorem d_Law_law_456 : decode code 456 = .ok (.iload 4, 2) := by decide +kernel
theorem d_Law_law_458 : decode code 458 = .ok (.iconst 3, 1) := by decide +kernel
theorem d_Law_law_459 : decode code 459 = .ok (.iadd, 1) := by decide +kernel
theorem d_Law_law_460 : decode code 460 = .ok (.iaload, 1) := by decide +kernel
theorem d_Law_law_461 : decode code 461 = .ok (.invokestatic 106, 3) := by decide +kernel
theorem d_Law_law_464 : decode code 464 = .ok (.istore 5, 2) := by decide +kernel
theorem d_Law_law_466 : decode code 466 = .ok (.aload_n 2, 1) := by decide +kernel
theorem d_Law_law_467 : decode code 467 = .ok (.aload_n 0, 1) := by decide +kernel
theorem d_Law_law_468 : decode code 468 = .ok (.iload 4, 2) := by decide +kernel
theorem d_Law_law_470 : decode code 470 = .ok (.iconst 1, 1) := by decide +kernel
theorem d_Law_law_471 : decode code 471 = .ok (.iadd, 1) := by decide +kernel
theorem d_Law_law_472 : decode code 472 = .ok (.iaload, 1) := by decide +kernel
theorem d_Law_law_473 : decode code 473 = .ok (.aload_n 0, 1) := by decide +kernel
theorem d_Law_law_474 : decode code 474 = .ok (.iload 4, 2) := by decide +kernel
theorem d_Law_law_476 : decode code 476 = .ok (.iconst 2, 1) := by decide +kernel
theorem d_Law_law_477 : decode code 477 = .ok (.iadd, 1) := by decide +kernel
theorem d_Law_law_478 : decode code 478 = .ok (.iaload, 1) := by decide +kernel
theorem d_Law_law_479 : decode code 479 = .ok (.aload_n 0, 1) := by decide +kernel
theorem d_Law_law_480 : decode code 480 = .ok (.iload 4, 2) := by decide +kernel
theorem d_Law_law_482 : decode code 482 = .ok (.iconst 3, 1) := by decide +kernel
theorem d_Law_law_483 : decode code 483 = .ok (.iadd, 1) := by decide +kernel
theorem d_Law_law_484 : decode code 484 = .ok (.iaload, 1) := by decide +kernel
theorem d_Law_law_485 : decode code 485 = .ok (.invokevirtual 109, 3) := by decide +kernel
theorem d_Law_law_488 : decode code 488 = .ok (.aload_n 2, 1) := by decide +kernel
theorem d_Law_law_489 : decode code 489 = .ok (.invokevirtual 83, 3) := by decide +kernel
theorem d_Law_law_492 : decode code 492 = .ok (.iload 5, 2) := by decide +kernel
theorem d_Law_law_494 : decode code 494 = .ok (.if_icmp .eq 5, 3) := by decide +kernel
theorem d_Law_law_497 : decode code 497 = .ok (.iconst 0, 1) := by decide +kernel
theorem d_Law_law_498 : decode code 498 = .ok (.ireturn, 1) := by decide +kernel
theorem d_Law_law_499 : decode code 499 = .ok (.goto 765, 3) := by decide +kernel
theorem d_Law_law_502 : decode code 502 = .ok (.aload_n 1, 1) := by decide +kernel
theorem d_Law_law_503 : decode code 503 = .ok (.aload_n 0, 1) := by decide +kernel
theorem d_Law_law_504 : decode code 504 = .ok (.iload 4, 2) := by decide +kernel
theorem d_Law_law_506 : decode code 506 = .ok (.iconst 1, 1) := by decide +kernel
theorem d_Law_law_507 : decode code 507 = .ok (.iadd, 1) := by decide +kernel
theorem d_Law_law_508 : decode code 508 = .ok (.iaload, 1) := by decide +kernel
theorem d_Law_law_509 : decode code 509 = .ok (.aload_n 0, 1) := by decide +kernel
theorem d_Law_law_510 : decode code 510 = .ok (.iload 4, 2) := by decide +kernel
theorem d_Law_law_512 : decode code 512 = .ok (.iconst 2, 1) := by decide +kernel
theorem d_Law_law_513 : decode code 513 = .ok (.iadd, 1) := by decide +kernel
theorem d_Law_law_514 : decode code 514 = .ok (.iaload, 1) := by decide +kernel
theorem d_Law_law_515 : decode code 515 = .ok (.aload_n 0, 1) := by decide +kernel
theorem d_Law_law_516 : decode code 516 = .ok (.iload 4, 2) := by decide +kernel
theorem d_Law_law_518 : decode code 518 = .ok (.iconst 3, 1) := by decide +kernel
theorem d_Law_law_519 : decode code 519 = .ok (.iadd, 1) := by decide +kernel
theorem d_Law_law_520 : decode code 520 = .ok (.iaload, 1) := by decide +kernel
theorem d_Law_law_521 : decode code 521 = .ok (.aload_n 0, 1) := by decide +kernel
theorem d_Law_law_522 : decode code 522 = .ok (.iload 4, 2) := by decide +kernel
theorem d_Law_law_524 : decode code 524 = .ok (.iconst 4, 1) := by decide +kernel
theorem d_Law_law_525 : decode code 525 = .ok (.iadd, 1) := by decide +kernel
theorem d_Law_law_526 : decode code 526 = .ok (.iaload, 1) := by decide +kernel
theorem d_Law_law_527 : decode code 527 = .ok (.aload_n 0, 1) := by decide +kernel
theorem d_Law_law_528 : decode code 528 = .ok (.iload 4, 2) := by decide +kernel
theorem d_Law_law_530 : decode code 530 = .ok (.iconst 5, 1) := by decide +kernel
theorem d_Law_law_531 : decode code 531 = .ok (.iadd, 1) := by decide +kernel
theorem d_Law_law_532 : decode code 532 = .ok (.iaload, 1) := by decide +kernel
theorem d_Law_law_533 : decode code 533 = .ok (.invokestatic 110, 3) := by decide +kernel
theorem d_Law_law_536 : decode code 536 = .ok (.istore 5, 2) := by decide +kernel
theorem d_Law_law_538 : decode code 538 = .ok (.aload_n 2, 1) := by decide +kernel
theorem d_Law_law_539 : decode code 539 = .ok (.aload_n 0, 1) := by decide +kernel
theorem d_Law_law_540 : decode code 540 = .ok (.iload 4, 2) := by decide +kernel
theorem d_Law_law_542 : decode code 542 = .ok (.iconst 1, 1) := by decide +kernel
theorem d_Law_law_543 : decode code 543 = .ok (.iadd, 1) := by decide +kernel
theorem d_Law_law_544 : decode code 544 = .ok (.iaload, 1) := by decide +kernel
theorem d_Law_law_545 : decode code 545 = .ok (.aload_n 0, 1) := by decide +kernel
theorem d_Law_law_546 : decode code 546 = .ok (.iload 4, 2) := by decide +kernel
theorem d_Law_law_548 : decode code 548 = .ok (.iconst 2, 1) := by decide +kernel
theorem d_Law_law_549 : decode code 549 = .ok (.iadd, 1) := by decide +kernel
theorem d_Law_law_550 : decode code 550 = .ok (.iaload, 1) := by decide +kernel
theorem d_Law_law_551 : decode code 551 = .ok (.aload_n 0, 1) := by decide +kernel
theorem d_Law_law_552 : decode code 552 = .ok (.iload 4, 2) := by decide +kernel
theorem d_Law_law_554 : decode code 554 = .ok (.iconst 3, 1) := by decide +kernel
theorem d_Law_law_555 : decode code 555 = .ok (.iadd, 1) := by decide +kernel
theorem d_Law_law_556 : decode code 556 = .ok (.iaload, 1) := by decide +kernel
theorem d_Law_law_557 : decode code 557 = .ok (.aload_n 0, 1) := by decide +kernel
theorem d_Law_law_558 : decode code 558 = .ok (.iload 4, 2) := by decide +kernel
theorem d_Law_law_560 : decode code 560 = .ok (.iconst 4, 1) := by decide +kernel
theorem d_Law_law_561 : decode code 561 = .ok (.iadd, 1) := by decide +kernel
theorem d_Law_law_562 : decode code 562 = .ok (.iaload, 1) := by decide +kernel
theorem d_Law_law_563 : decode code 563 = .ok (.aload_n 0, 1) := by decide +kernel
theorem d_Law_law_564 : decode code 564 = .ok (.iload 4, 2) := by decide +kernel
theorem d_Law_law_566 : decode code 566 = .ok (.iconst 5, 1) := by decide +kernel
theorem d_Law_law_567 : decode code 567 = .ok (.iadd, 1) := by decide +kernel
theorem d_Law_law_568 : decode code 568 = .ok (.iaload, 1) := by decide +kernel
theorem d_Law_law_569 : decode code 569 = .ok (.invokevirtual 112, 3) := by decide +kernel
theorem d_Law_law_572 : decode code 572 = .ok (.aload_n 2, 1) := by decide +kernel
theorem d_Law_law_573 : decode code 573 = .ok (.invokevirtual 83, 3) := by decide +kernel
theorem d_Law_law_576 : decode code 576 = .ok (.iload 5, 2) := by decide +kernel
theorem d_Law_law_578 : decode code 578 = .ok (.if_icmp .eq 5, 3) := by decide +kernel
theorem d_Law_law_581 : decode code 581 = .ok (.iconst 0, 1) := by decide +kernel
theorem d_Law_law_582 : decode code 582 = .ok (.ireturn, 1) := by decide +kernel
theorem d_Law_law_583 : decode code 583 = .ok (.goto 681, 3) := by decide +kernel
theorem d_Law_law_586 : decode code 586 = .ok (.aload_n 1, 1) := by decide +kernel
theorem d_Law_law_587 : decode code 587 = .ok (.aload_n 0, 1) := by decide +kernel
theorem d_Law_law_588 : decode code 588 = .ok (.iload 4, 2) := by decide +kernel
theorem d_Law_law_590 : decode code 590 = .ok (.iconst 1, 1) := by decide +kernel
theorem d_Law_law_591 : decode code 591 = .ok (.iadd, 1) := by decide +kernel
theorem d_Law_law_592 : decode code 592 = .ok (.iaload, 1) := by decide +kernel
theorem d_Law_law_593 : decode code 593 = .ok (.aload_n 0, 1) := by decide +kernel
theorem d_Law_law_594 : decode code 594 = .ok (.iload 4, 2) := by decide +kernel
theorem d_Law_law_596 : decode code 596 = .ok (.iconst 2, 1) := by decide +kernel
theorem d_Law_law_597 : decode code 597 = .ok (.iadd, 1) := by decide +kernel
theorem d_Law_law_598 : decode code 598 = .ok (.iaload, 1) := by decide +kernel
theorem d_Law_law_599 : decode code 599 = .ok (.aload_n 0, 1) := by decide +kernel
theorem d_Law_law_600 : decode code 600 = .ok (.iload 4, 2) := by decide +kernel
theorem d_Law_law_602 : decode code 602 = .ok (.iconst 3, 1) := by decide +kernel
theorem d_Law_law_603 : decode code 603 = .ok (.iadd, 1) := by decide +kernel
theorem d_Law_law_604 : decode code 604 = .ok (.iaload, 1) := by decide +kernel
theorem d_Law_law_605 : decode code 605 = .ok (.aload_n 0, 1) := by decide +kernel
theorem d_Law_law_606 : decode code 606 = .ok (.iload 4, 2) := by decide +kernel
theorem d_Law_law_608 : decode code 608 = .ok (.iconst 4, 1) := by decide +kernel
theorem d_Law_law_609 : decode code 609 = .ok (.iadd, 1) := by decide +kernel
theorem d_Law_law_610 : decode code 610 = .ok (.iaload, 1) := by decide +kernel
theorem d_Law_law_611 : decode code 611 = .ok (.invokestatic 113, 3) := by decide +kernel
theorem d_Law_law_614 : decode code 614 = .ok (.istore 5, 2) := by decide +kernel
theorem d_Law_law_616 : decode code 616 = .ok (.aload_n 2, 1) := by decide +kernel
theorem d_Law_law_617 : decode code 617 = .ok (.aload_n 0, 1) := by decide +kernel
theorem d_Law_law_618 : decode code 618 = .ok (.iload 4, 2) := by decide +kernel
theorem d_Law_law_620 : decode code 620 = .ok (.iconst 1, 1) := by decide +kernel
theorem d_Law_law_621 : decode code 621 = .ok (.iadd, 1) := by decide +kernel
theorem d_Law_law_622 : decode code 622 = .ok (.iaload, 1) := by decide +kernel
theorem d_Law_law_623 : decode code 623 = .ok (.aload_n 0, 1) := by decide +kernel
theorem d_Law_law_624 : decode code 624 = .ok (.iload 4, 2) := by decide +kernel
theorem d_Law_law_626 : decode code 626 = .ok (.iconst 2, 1) := by decide +kernel
theorem d_Law_law_627 : decode code 627 = .ok (.iadd, 1) := by decide +kernel
theorem d_Law_law_628 : decode code 628 = .ok (.iaload, 1) := by decide +kernel
theorem d_Law_law_629 : decode code 629 = .ok (.aload_n 0, 1) := by decide +kernel
theorem d_Law_law_630 : decode code 630 = .ok (.iload 4, 2) := by decide +kernel
theorem d_Law_law_632 : decode code 632 = .ok (.iconst 3, 1) := by decide +kernel
theorem d_Law_law_633 : decode code 633 = .ok (.iadd, 1) := by decide +kernel
theorem d_Law_law_634 : decode code 634 = .ok (.iaload, 1) := by decide +kernel
theorem d_Law_law_635 : decode code 635 = .ok (.aload_n 0, 1) := by decide +kernel
theorem d_Law_law_636 : decode code 636 = .ok (.iload 4, 2) := by decide +kernel
theorem d_Law_law_638 : decode code 638 = .ok (.iconst 4, 1) := by decide +kernel
theorem d_Law_law_639 : decode code 639 = .ok (.iadd, 1) := by decide +kernel
theorem d_Law_law_640 : decode code 640 = .ok (.iaload, 1) := by decide +kernel
theorem d_Law_law_641 : decode code 641 = .ok (.invokevirtual 116, 3) := by decide +kernel
theorem d_Law_law_644 : decode code 644 = .ok (.aload_n 2, 1) := by decide +kernel
theorem d_Law_law_645 : decode code 645 = .ok (.invokevirtual 83, 3) := by decide +kernel
theorem d_Law_law_648 : decode code 648 = .ok (.iload 5, 2) := by decide +kernel
theorem d_Law_law_650 : decode code 650 = .ok (.if_icmp .eq 5, 3) := by decide +kernel
theorem d_Law_law_653 : decode code 653 = .ok (.iconst 0, 1) := by decide +kernel
theorem d_Law_law_654 : decode code 654 = .ok (.ireturn, 1) := by decide +kernel
theorem d_Law_law_655 : decode code 655 = .ok (.goto 609, 3) := by decide +kernel
theorem d_Law_law_658 : decode code 658 = .ok (.aload_n 1, 1) := by decide +kernel
theorem d_Law_law_659 : decode code 659 = .ok (.invokevirtual 117, 3) := by decide +kernel
theorem d_Law_law_662 : decode code 662 = .ok (.aload_n 2, 1) := by decide +kernel
theorem d_Law_law_663 : decode code 663 = .ok (.invokevirtual 120, 3) := by decide +kernel
theorem d_Law_law_666 : decode code 666 = .ok (.if_icmp .eq 598, 3) := by decide +kernel
theorem d_Law_law_669 : decode code 669 = .ok (.iconst 0, 1) := by decide +kernel
theorem d_Law_law_670 : decode code 670 = .ok (.ireturn, 1) := by decide +kernel
theorem d_Law_law_671 : decode code 671 = .ok (.aload_n 1, 1) := by decide +kernel
theorem d_Law_law_672 : decode code 672 = .ok (.invokevirtual 121, 3) := by decide +kernel
theorem d_Law_law_675 : decode code 675 = .ok (.aload_n 2, 1) := by decide +kernel
theorem d_Law_law_676 : decode code 676 = .ok (.invokevirtual 124, 3) := by decide +kernel
theorem d_Law_law_679 : decode code 679 = .ok (.if_icmp .eq 585, 3) := by decide +kernel
theorem d_Law_law_682 : decode code 682 = .ok (.iconst 0, 1) := by decide +kernel
theorem d_Law_law_683 : decode code 683 = .ok (.ireturn, 1) := by decide +kernel
theorem d_Law_law_684 : decode code 684 = .ok (.aload_n 1, 1) := by decide +kernel
theorem d_Law_law_685 : decode code 685 = .ok (.aload_n 0, 1) := by decide +kernel
theorem d_Law_law_686 : decode code 686 = .ok (.iload 4, 2) := by decide +kernel
theorem d_Law_law_688 : decode code 688 = .ok (.iconst 1, 1) := by decide +kernel
theorem d_Law_law_689 : decode code 689 = .ok (.iadd, 1) := by decide +kernel
theorem d_Law_law_690 : decode code 690 = .ok (.iaload, 1) := by decide +kernel
theorem d_Law_law_691 : decode code 691 = .ok (.aload_n 3, 1) := by decide +kernel
theorem d_Law_law_692 : decode code 692 = .ok (.invokestatic 125, 3) := by decide +kernel
theorem d_Law_law_695 : decode code 695 = .ok (.istore 5, 2) := by decide +kernel
theorem d_Law_law_697 : decode code 697 = .ok (.aload_n 2, 1) := by decide +kernel
theorem d_Law_law_698 : decode code 698 = .ok (.aload_n 0, 1) := by decide +kernel
theorem d_Law_law_699 : decode code 699 = .ok (.iload 4, 2) := by decide +kernel
theorem d_Law_law_701 : decode code 701 = .ok (.iconst 1, 1) := by decide +kernel
theorem d_Law_law_702 : decode code 702 = .ok (.iadd, 1) := by decide +kernel
theorem d_Law_law_703 : decode code 703 = .ok (.iaload, 1) := by decide +kernel
theorem d_Law_law_704 : decode code 704 = .ok (.invokevirtual 127, 3) := by decide +kernel
theorem d_Law_law_707 : decode code 707 = .ok (.istore 6, 2) := by decide +kernel
theorem d_Law_law_709 : decode code 709 = .ok (.aload_n 2, 1) := by decide +kernel
theorem d_Law_law_710 : decode code 710 = .ok (.invokevirtual 83, 3) := by decide +kernel
theorem d_Law_law_713 : decode code 713 = .ok (.iload 5, 2) := by decide +kernel
theorem d_Law_law_715 : decode code 715 = .ok (.if_icmp .eq 5, 3) := by decide +kernel
theorem d_Law_law_718 : decode code 718 = .ok (.iconst 0, 1) := by decide +kernel
theorem d_Law_law_719 : decode code 719 = .ok (.ireturn, 1) := by decide +kernel
theorem d_Law_law_720 : decode code 720 = .ok (.iload 5, 2) := by decide +kernel
theorem d_Law_law_722 : decode code 722 = .ok (.ifCond .ne 15, 3) := by decide +kernel
theorem d_Law_law_725 : decode code 725 = .ok (.aload_n 3, 1) := by decide +kernel
theorem d_Law_law_726 : decode code 726 = .ok (.iconst 0, 1) := by decide +kernel
theorem d_Law_law_727 : decode code 727 = .ok (.laload, 1) := by decide +kernel
theorem d_Law_law_728 : decode code 728 = .ok (.iload 6, 2) := by decide +kernel
theorem d_Law_law_730 : decode code 730 = .ok (.i2l, 1) := by decide +kernel
theorem d_Law_law_731 : decode code 731 = .ok (.lcmp, 1) := by decide +kernel
theorem d_Law_law_732 : decode code 732 = .ok (.ifCond .eq 5, 3) := by decide +kernel
theorem d_Law_law_735 : decode code 735 = .ok (.iconst 0, 1) := by decide +kernel
theorem d_Law_law_736 : decode code 736 = .ok (.ireturn, 1) := by decide +kernel
theorem d_Law_law_737 : decode code 737 = .ok (.goto 527, 3) := by decide +kernel
theorem d_Law_law_740 : decode code 740 = .ok (.aload_n 1, 1) := by decide +kernel
theorem d_Law_law_741 : decode code 741 = .ok (.aload_n 0, 1) := by decide +kernel
theorem d_Law_law_742 : decode code 742 = .ok (.iload 4, 2) := by decide +kernel
theorem d_Law_law_744 : decode code 744 = .ok (.iconst 1, 1) := by decide +kernel
theorem d_Law_law_745 : decode code 745 = .ok (.iadd, 1) := by decide +kernel
theorem d_Law_law_746 : decode code 746 = .ok (.iaload, 1) := by decide +kernel
theorem d_Law_law_747 : decode code 747 = .ok (.aload_n 0, 1) := by decide +kernel
theorem d_Law_law_748 : decode code 748 = .ok (.iload 4, 2) := by decide +kernel
theorem d_Law_law_750 : decode code 750 = .ok (.iconst 2, 1) := by decide +kernel
theorem d_Law_law_751 : decode code 751 = .ok (.iadd, 1) := by decide +kernel
theorem d_Law_law_752 : decode code 752 = .ok (.iaload, 1) := by decide +kernel
theorem d_Law_law_753 : decode code 753 = .ok (.aload_n 0, 1) := by decide +kernel
theorem d_Law_law_754 : decode code 754 = .ok (.iload 4, 2) := by decide +kernel
theorem d_Law_law_756 : decode code 756 = .ok (.iconst 3, 1) := by decide +kernel
theorem d_Law_law_757 : decode code 757 = .ok (.iadd, 1) := by decide +kernel
theorem d_Law_law_758 : decode code 758 = .ok (.iaload, 1) := by decide +kernel
theorem d_Law_law_759 : decode code 759 = .ok (.aload_n 0, 1) := by decide +kernel
theorem d_Law_law_760 : decode code 760 = .ok (.iload 4, 2) := by decide +kernel
theorem d_Law_law_762 : decode code 762 = .ok (.iconst 4, 1) := by decide +kernel
theorem d_Law_law_763 : decode code 763 = .ok (.iadd, 1) := by decide +kernel
theorem d_Law_law_764 : decode code 764 = .ok (.iaload, 1) := by decide +kernel
theorem d_Law_law_765 : decode code 765 = .ok (.ifCond .eq 7, 3) := by decide +kernel
theorem d_Law_law_768 : decode code 768 = .ok (.iconst 1, 1) := by decide +kernel
theorem d_Law_law_769 : decode code 769 = .ok (.goto 4, 3) := by decide +kernel
theorem d_Law_law_772 : decode code 772 = .ok (.iconst 0, 1) := by decide +kernel
theorem d_Law_law_773 : decode code 773 = .ok (.aload_n 3, 1) := by decide +kernel
theorem d_Law_law_774 : decode code 774 = .ok (.invokestatic 128, 3) := by decide +kernel
theorem d_Law_law_777 : decode code 777 = .ok (.istore 5, 2) := by decide +kernel
theorem d_Law_law_779 : decode code 779 = .ok (.aload_n 2, 1) := by decide +kernel
theorem d_Law_law_780 : decode code 780 = .ok (.aload_n 0, 1) := by decide +kernel
theorem d_Law_law_781 : decode code 781 = .ok (.iload 4, 2) := by decide +kernel
theorem d_Law_law_783 : decode code 783 = .ok (.iconst 1, 1) := by decide +kernel
theorem d_Law_law_784 : decode code 784 = .ok (.iadd, 1) := by decide +kernel
theorem d_Law_law_785 : decode code 785 = .ok (.iaload, 1) := by decide +kernel
theorem d_Law_law_786 : decode code 786 = .ok (.aload_n 0, 1) := by decide +kernel
theorem d_Law_law_787 : decode code 787 = .ok (.iload 4, 2) := by decide +kernel
theorem d_Law_law_789 : decode code 789 = .ok (.iconst 2, 1) := by decide +kernel
theorem d_Law_law_790 : decode code 790 = .ok (.iadd, 1) := by decide +kernel
theorem d_Law_law_791 : decode code 791 = .ok (.iaload, 1) := by decide +kernel
theorem d_Law_law_792 : decode code 792 = .ok (.aload_n 0, 1) := by decide +kernel
theorem d_Law_law_793 : decode code 793 = .ok (.iload 4, 2) := by decide +kernel
theorem d_Law_law_795 : decode code 795 = .ok (.iconst 3, 1) := by decide +kernel
theorem d_Law_law_796 : decode code 796 = .ok (.iadd, 1) := by decide +kernel
theorem d_Law_law_797 : decode code 797 = .ok (.iaload, 1) := by decide +kernel
theorem d_Law_law_798 : decode code 798 = .ok (.aload_n 0, 1) := by decide +kernel
theorem d_Law_law_799 : decode code 799 = .ok (.iload 4, 2) := by decide +kernel
theorem d_Law_law_801 : decode code 801 = .ok (.iconst 4, 1) := by decide +kernel
theorem d_Law_law_802 : decode code 802 = .ok (.iadd, 1) := by decide +kernel
theorem d_Law_law_803 : decode code 803 = .ok (.iaload, 1) := by decide +kernel
theorem d_Law_law_804 : decode code 804 = .ok (.ifCond .eq 7, 3) := by decide +kernel
theorem d_Law_law_807 : decode code 807 = .ok (.iconst 1, 1) := by decide +kernel
theorem d_Law_law_808 : decode code 808 = .ok (.goto 4, 3) := by decide +kernel
theorem d_Law_law_811 : decode code 811 = .ok (.iconst 0, 1) := by decide +kernel
theorem d_Law_law_812 : decode code 812 = .ok (.invokevirtual 131, 3) := by decide +kernel
theorem d_Law_law_815 : decode code 815 = .ok (.istore 6, 2) := by decide +kernel
theorem d_Law_law_817 : decode code 817 = .ok (.aload_n 2, 1) := by decide +kernel
theorem d_Law_law_818 : decode code 818 = .ok (.invokevirtual 83, 3) := by decide +kernel
theorem d_Law_law_821 : decode code 821 = .ok (.iload 5, 2) := by decide +kernel
theorem d_Law_law_823 : decode code 823 = .ok (.if_icmp .eq 5, 3) := by decide +kernel
theorem d_Law_law_826 : decode code 826 = .ok (.iconst 0, 1) := by decide +kernel
theorem d_Law_law_827 : decode code 827 = .ok (.ireturn, 1) := by decide +kernel
theorem d_Law_law_828 : decode code 828 = .ok (.iload 5, 2) := by decide +kernel
theorem d_Law_law_830 : decode code 830 = .ok (.ifCond .ne 15, 3) := by decide +kernel
theorem d_Law_law_833 : decode code 833 = .ok (.aload_n 3, 1) := by decide +kernel
theorem d_Law_law_834 : decode code 834 = .ok (.iconst 0, 1) := by decide +kernel
theorem d_Law_law_835 : decode code 835 = .ok (.laload, 1) := by decide +kernel
theorem d_Law_law_836 : decode code 836 = .ok (.iload 6, 2) := by decide +kernel
theorem d_Law_law_838 : decode code 838 = .ok (.i2l, 1) := by decide +kernel
theorem d_Law_law_839 : decode code 839 = .ok (.lcmp, 1) := by decide +kernel
theorem d_Law_law_840 : decode code 840 = .ok (.ifCond .eq 5, 3) := by decide +kernel
theorem d_Law_law_843 : decode code 843 = .ok (.iconst 0, 1) := by decide +kernel
theorem d_Law_law_844 : decode code 844 = .ok (.ireturn, 1) := by decide +kernel
theorem d_Law_law_845 : decode code 845 = .ok (.goto 419, 3) := by decide +kernel
theorem d_Law_law_848 : decode code 848 = .ok (.aload_n 1, 1) := by decide +kernel
theorem d_Law_law_849 : decode code 849 = .ok (.aload_n 0, 1) := by decide +kernel
theorem d_Law_law_850 : decode code 850 = .ok (.iload 4, 2) := by decide +kernel
theorem d_Law_law_852 : decode code 852 = .ok (.iconst 1, 1) := by decide +kernel
theorem d_Law_law_853 : decode code 853 = .ok (.iadd, 1) := by decide +kernel
theorem d_Law_law_854 : decode code 854 = .ok (.iaload, 1) := by decide +kernel
theorem d_Law_law_855 : decode code 855 = .ok (.aload_n 0, 1) := by decide +kernel
theorem d_Law_law_856 : decode code 856 = .ok (.iload 4, 2) := by decide +kernel
theorem d_Law_law_858 : decode code 858 = .ok (.iconst 2, 1) := by decide +kernel
theorem d_Law_law_859 : decode code 859 = .ok (.iadd, 1) := by decide +kernel
theorem d_Law_law_860 : decode code 860 = .ok (.iaload, 1) := by decide +kernel
theorem d_Law_law_861 : decode code 861 = .ok (.aload_n 3, 1) := by decide +kernel
theorem d_Law_law_862 : decode code 862 = .ok (.invokestatic 132, 3) := by decide +kernel
theorem d_Law_law_865 : decode code 865 = .ok (.istore 5, 2) := by decide +kernel
theorem d_Law_law_867 : decode code 867 = .ok (.aload_n 2, 1) := by decide +kernel
theorem d_Law_law_868 : decode code 868 = .ok (.aload_n 0, 1) := by decide +kernel
theorem d_Law_law_869 : decode code 869 = .ok (.iload 4, 2) := by decide +kernel
theorem d_Law_law_871 : decode code 871 = .ok (.iconst 1, 1) := by decide +kernel
theorem d_Law_law_872 : decode code 872 = .ok (.iadd, 1) := by decide +kernel
theorem d_Law_law_873 : decode code 873 = .ok (.iaload, 1) := by decide +kernel
theorem d_Law_law_874 : decode code 874 = .ok (.aload_n 0, 1) := by decide +kernel
theorem d_Law_law_875 : decode code 875 = .ok (.iload 4, 2) := by decide +kernel
theorem d_Law_law_877 : decode code 877 = .ok (.iconst 2, 1) := by decide +kernel
theorem d_Law_law_878 : decode code 878 = .ok (.iadd, 1) := by decide +kernel
theorem d_Law_law_879 : decode code 879 = .ok (.iaload, 1) := by decide +kernel
theorem d_Law_law_880 : decode code 880 = .ok (.invokevirtual 135, 3) := by decide +kernel
theorem d_Law_law_883 : decode code 883 = .ok (.istore 6, 2) := by decide +kernel
theorem d_Law_law_885 : decode code 885 = .ok (.aload_n 2, 1) := by decide +kernel
theorem d_Law_law_886 : decode code 886 = .ok (.invokevirtual 83, 3) := by decide +kernel
theorem d_Law_law_889 : decode code 889 = .ok (.iload 5, 2) := by decide +kernel
theorem d_Law_law_891 : decode code 891 = .ok (.if_icmp .eq 5, 3) := by decide +kernel
theorem d_Law_law_894 : decode code 894 = .ok (.iconst 0, 1) := by decide +kernel
theorem d_Law_law_895 : decode code 895 = .ok (.ireturn, 1) := by decide +kernel
theorem d_Law_law_896 : decode code 896 = .ok (.iload 5, 2) := by decide +kernel
theorem d_Law_law_898 : decode code 898 = .ok (.ifCond .ne 15, 3) := by decide +kernel
theorem d_Law_law_901 : decode code 901 = .ok (.aload_n 3, 1) := by decide +kernel
theorem d_Law_law_902 : decode code 902 = .ok (.iconst 0, 1) := by decide +kernel
theorem d_Law_law_903 : decode code 903 = .ok (.laload, 1) := by decide +kernel
theorem d_Law_law_904 : decode code 904 = .ok (.iload 6, 2) := by decide +kernel
theorem d_Law_law_906 : decode code 906 = .ok (.i2l, 1) := by decide +kernel
theorem d_Law_law_907 : decode code 907 = .ok (.lcmp, 1) := by decide +kernel
theorem d_Law_law_908 : decode code 908 = .ok (.ifCond .eq 5, 3) := by decide +kernel
theorem d_Law_law_911 : decode code 911 = .ok (.iconst 0, 1) := by decide +kernel
theorem d_Law_law_912 : decode code 912 = .ok (.ireturn, 1) := by decide +kernel
theorem d_Law_law_913 : decode code 913 = .ok (.goto 351, 3) := by decide +kernel
theorem d_Law_law_916 : decode code 916 = .ok (.aload_n 1, 1) := by decide +kernel
theorem d_Law_law_917 : decode code 917 = .ok (.aload_n 0, 1) := by decide +kernel
theorem d_Law_law_918 : decode code 918 = .ok (.iload 4, 2) := by decide +kernel
theorem d_Law_law_920 : decode code 920 = .ok (.iconst 1, 1) := by decide +kernel
theorem d_Law_law_921 : decode code 921 = .ok (.iadd, 1) := by decide +kernel
theorem d_Law_law_922 : decode code 922 = .ok (.iaload, 1) := by decide +kernel
theorem d_Law_law_923 : decode code 923 = .ok (.aload_n 3, 1) := by decide +kernel
