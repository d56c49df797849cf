theorem d_Lw_type_0 : decode method_3_code 0 = .ok (.aload 5, 2) := by decide +kernel
theorem d_Lw_type_2 : decode method_3_code 2 = .ok (.iconst 0, 1) := by decide +kernel
theorem d_Lw_type_3 : decode method_3_code 3 = .ok (.aload_n 0, 1) := by decide +kernel
theorem d_Lw_type_4 : decode method_3_code 4 = .ok (.iload_n 1, 1) := by decide +kernel
theorem d_Lw_type_5 : decode method_3_code 5 = .ok (.lload_n 2, 1) := by decide +kernel
theorem d_Lw_type_6 : decode method_3_code 6 = .ok (.iload 4, 2) := by decide +kernel
theorem d_Lw_type_8 : decode method_3_code 8 = .ok (.invokevirtual 7, 3) := by decide +kernel
theorem d_Lw_type_11 : decode method_3_code 11 = .ok (.i2l, 1) := by decide +kernel
theorem d_Lw_type_12 : decode method_3_code 12 = .ok (.lastore, 1) := by decide +kernel
theorem d_Lw_type_13 : decode method_3_code 13 = .ok (.goto 15, 3) := by decide +kernel
theorem d_Lw_type_16 : decode method_3_code 16 = .ok (.astore 6, 2) := by decide +kernel
theorem d_Lw_type_18 : decode method_3_code 18 = .ok (.iconst 1, 1) := by decide +kernel
theorem d_Lw_type_19 : decode method_3_code 19 = .ok (.ireturn, 1) := by decide +kernel
theorem d_Lw_type_20 : decode method_3_code 20 = .ok (.astore 6, 2) := by decide +kernel
theorem d_Lw_type_22 : decode method_3_code 22 = .ok (.iconst 2, 1) := by decide +kernel
theorem d_Lw_type_23 : decode method_3_code 23 = .ok (.ireturn, 1) := by decide +kernel
theorem d_Lw_type_24 : decode method_3_code 24 = .ok (.astore 6, 2) := by decide +kernel
theorem d_Lw_type_26 : decode method_3_code 26 = .ok (.iconst 3, 1) := by decide +kernel
theorem d_Lw_type_27 : decode method_3_code 27 = .ok (.ireturn, 1) := by decide +kernel
theorem d_Lw_type_28 : decode method_3_code 28 = .ok (.iconst 0, 1) := by decide +kernel
theorem d_Lw_type_29 : decode method_3_code 29 = .ok (.ireturn, 1) := by decide +kernel
theorem d_Lw_cut_0 : decode method_4_code 0 = .ok (.aload_n 0, 1) := by decide +kernel
theorem d_Lw_cut_1 : decode method_4_code 1 = .ok (.iload_n 1, 1) := by decide +kernel
theorem d_Lw_cut_2 : decode method_4_code 2 = .ok (.iload_n 2, 1) := by decide +kernel
theorem d_Lw_cut_3 : decode method_4_code 3 = .ok (.invokevirtual 19, 3) := by decide +kernel
theorem d_Lw_cut_6 : decode method_4_code 6 = .ok (.goto 9, 3) := by decide +kernel
theorem d_Lw_cut_9 : decode method_4_code 9 = .ok (.astore_n 3, 1) := by decide +kernel
theorem d_Lw_cut_10 : decode method_4_code 10 = .ok (.iconst 1, 1) := by decide +kernel
theorem d_Lw_cut_11 : decode method_4_code 11 = .ok (.ireturn, 1) := by decide +kernel
theorem d_Lw_cut_12 : decode method_4_code 12 = .ok (.astore_n 3, 1) := by decide +kernel
theorem d_Lw_cut_13 : decode method_4_code 13 = .ok (.iconst 2, 1) := by decide +kernel
theorem d_Lw_cut_14 : decode method_4_code 14 = .ok (.ireturn, 1) := by decide +kernel
theorem d_Lw_cut_15 : decode method_4_code 15 = .ok (.iconst 0, 1) := by decide +kernel
theorem d_Lw_cut_16 : decode method_4_code 16 = .ok (.ireturn, 1) := by decide +kernel
theorem d_Lw_turn_0 : decode method_5_code 0 = .ok (.aload_n 0, 1) := by decide +kernel
theorem d_Lw_turn_1 : decode method_5_code 1 = .ok (.iload_n 1, 1) := by decide +kernel
theorem d_Lw_turn_2 : decode method_5_code 2 = .ok (.invokevirtual 23, 3) := by decide +kernel
theorem d_Lw_turn_5 : decode method_5_code 5 = .ok (.goto 6, 3) := by decide +kernel
theorem d_Lw_turn_8 : decode method_5_code 8 = .ok (.astore_n 2, 1) := by decide +kernel
theorem d_Lw_turn_9 : decode method_5_code 9 = .ok (.iconst 1, 1) := by decide +kernel
theorem d_Lw_turn_10 : decode method_5_code 10 = .ok (.ireturn, 1) := by decide +kernel
theorem d_Lw_turn_11 : decode method_5_code 11 = .ok (.iconst 0, 1) := by decide +kernel
theorem d_Lw_turn_12 : decode method_5_code 12 = .ok (.ireturn, 1) := by decide +kernel
theorem d_Lw_letter_0 : decode method_6_code 0 = .ok (.aload_n 3, 1) := by decide +kernel
theorem d_Lw_letter_1 : decode method_6_code 1 = .ok (.iconst 0, 1) := by decide +kernel
theorem d_Lw_letter_2 : decode method_6_code 2 = .ok (.aload_n 0, 1) := by decide +kernel
theorem d_Lw_letter_3 : decode method_6_code 3 = .ok (.iload_n 1, 1) := by decide +kernel
theorem d_Lw_letter_4 : decode method_6_code 4 = .ok (.iload_n 2, 1) := by decide +kernel
theorem d_Lw_letter_5 : decode method_6_code 5 = .ok (.invokevirtual 27, 3) := by decide +kernel
theorem d_Lw_letter_8 : decode method_6_code 8 = .ok (.i2l, 1) := by decide +kernel
theorem d_Lw_letter_9 : decode method_6_code 9 = .ok (.lastore, 1) := by decide +kernel
theorem d_Lw_letter_10 : decode method_6_code 10 = .ok (.goto 7, 3) := by decide +kernel
theorem d_Lw_letter_13 : decode method_6_code 13 = .ok (.astore 4, 2) := by decide +kernel
theorem d_Lw_letter_15 : decode method_6_code 15 = .ok (.iconst 1, 1) := by decide +kernel
theorem d_Lw_letter_16 : decode method_6_code 16 = .ok (.ireturn, 1) := by decide +kernel
theorem d_Lw_letter_17 : decode method_6_code 17 = .ok (.iconst 0, 1) := by decide +kernel
theorem d_Lw_letter_18 : decode method_6_code 18 = .ok (.ireturn, 1) := by decide +kernel
theorem d_Lw_size_0 : decode method_7_code 0 = .ok (.aload_n 2, 1) := by decide +kernel
theorem d_Lw_size_1 : decode method_7_code 1 = .ok (.iconst 0, 1) := by decide +kernel
theorem d_Lw_size_2 : decode method_7_code 2 = .ok (.aload_n 0, 1) := by decide +kernel
theorem d_Lw_size_3 : decode method_7_code 3 = .ok (.iload_n 1, 1) := by decide +kernel
theorem d_Lw_size_4 : decode method_7_code 4 = .ok (.invokevirtual 31, 3) := by decide +kernel
theorem d_Lw_size_7 : decode method_7_code 7 = .ok (.i2l, 1) := by decide +kernel
theorem d_Lw_size_8 : decode method_7_code 8 = .ok (.lastore, 1) := by decide +kernel
theorem d_Lw_size_9 : decode method_7_code 9 = .ok (.goto 6, 3) := by decide +kernel
theorem d_Lw_size_12 : decode method_7_code 12 = .ok (.astore_n 3, 1) := by decide +kernel
theorem d_Lw_size_13 : decode method_7_code 13 = .ok (.iconst 1, 1) := by decide +kernel
theorem d_Lw_size_14 : decode method_7_code 14 = .ok (.ireturn, 1) := by decide +kernel
theorem d_Lw_size_15 : decode method_7_code 15 = .ok (.iconst 0, 1) := by decide +kernel
theorem d_Lw_size_16 : decode method_7_code 16 = .ok (.ireturn, 1) := by decide +kernel
theorem d_Lw_score_0 : decode method_8_code 0 = .ok (.aload_n 0, 1) := by decide +kernel
theorem d_Lw_score_1 : decode method_8_code 1 = .ok (.iload_n 1, 1) := by decide +kernel
theorem d_Lw_score_2 : decode method_8_code 2 = .ok (.iload_n 2, 1) := by decide +kernel
theorem d_Lw_score_3 : decode method_8_code 3 = .ok (.iload_n 3, 1) := by decide +kernel
theorem d_Lw_score_4 : decode method_8_code 4 = .ok (.invokevirtual 35, 3) := by decide +kernel
theorem d_Lw_score_7 : decode method_8_code 7 = .ok (.goto 11, 3) := by decide +kernel
theorem d_Lw_score_10 : decode method_8_code 10 = .ok (.astore 4, 2) := by decide +kernel
theorem d_Lw_score_12 : decode method_8_code 12 = .ok (.iconst 1, 1) := by decide +kernel
theorem d_Lw_score_13 : decode method_8_code 13 = .ok (.ireturn, 1) := by decide +kernel
theorem d_Lw_score_14 : decode method_8_code 14 = .ok (.astore 4, 2) := by decide +kernel
theorem d_Lw_score_16 : decode method_8_code 16 = .ok (.iconst 2, 1) := by decide +kernel
theorem d_Lw_score_17 : decode method_8_code 17 = .ok (.ireturn, 1) := by decide +kernel
theorem d_Lw_score_18 : decode method_8_code 18 = .ok (.iconst 0, 1) := by decide +kernel
theorem d_Lw_score_19 : decode method_8_code 19 = .ok (.ireturn, 1) := by decide +kernel
theorem d_Lw_scores_0 : decode method_9_code 0 = .ok (.aload_n 0, 1) := by decide +kernel
theorem d_Lw_scores_1 : decode method_9_code 1 = .ok (.iload_n 1, 1) := by decide +kernel
theorem d_Lw_scores_2 : decode method_9_code 2 = .ok (.iload_n 2, 1) := by decide +kernel
theorem d_Lw_scores_3 : decode method_9_code 3 = .ok (.invokevirtual 39, 3) := by decide +kernel
theorem d_Lw_scores_6 : decode method_9_code 6 = .ok (.goto 6, 3) := by decide +kernel
theorem d_Lw_scores_9 : decode method_9_code 9 = .ok (.astore_n 3, 1) := by decide +kernel
theorem d_Lw_scores_10 : decode method_9_code 10 = .ok (.iconst 1, 1) := by decide +kernel
theorem d_Lw_scores_11 : decode method_9_code 11 = .ok (.ireturn, 1) := by decide +kernel
theorem d_Lw_scores_12 : decode method_9_code 12 = .ok (.iconst 0, 1) := by decide +kernel
theorem d_Lw_scores_13 : decode method_9_code 13 = .ok (.ireturn, 1) := by decide +kernel
theorem d_Lw_costs_0 : decode method_10_code 0 = .ok (.aload_n 0, 1) := by decide +kernel
theorem d_Lw_costs_1 : decode method_10_code 1 = .ok (.iload_n 1, 1) := by decide +kernel
theorem d_Lw_costs_2 : decode method_10_code 2 = .ok (.iload_n 2, 1) := by decide +kernel
theorem d_Lw_costs_3 : decode method_10_code 3 = .ok (.invokevirtual 42, 3) := by decide +kernel
theorem d_Lw_costs_6 : decode method_10_code 6 = .ok (.goto 6, 3) := by decide +kernel
theorem d_Lw_costs_9 : decode method_10_code 9 = .ok (.astore_n 3, 1) := by decide +kernel
theorem d_Lw_costs_10 : decode method_10_code 10 = .ok (.iconst 1, 1) := by decide +kernel
theorem d_Lw_costs_11 : decode method_10_code 11 = .ok (.ireturn, 1) := by decide +kernel
theorem d_Lw_costs_12 : decode method_10_code 12 = .ok (.iconst 0, 1) := by decide +kernel
theorem d_Lw_costs_13 : decode method_10_code 13 = .ok (.ireturn, 1) := by decide +kernel
theorem d_Lw_whole_0 : decode method_11_code 0 = .ok (.aload_n 2, 1) := by decide +kernel
theorem d_Lw_whole_1 : decode method_11_code 1 = .ok (.iconst 0, 1) := by decide +kernel
theorem d_Lw_whole_2 : decode method_11_code 2 = .ok (.aload_n 0, 1) := by decide +kernel
theorem d_Lw_whole_3 : decode method_11_code 3 = .ok (.iload_n 1, 1) := by decide +kernel
theorem d_Lw_whole_4 : decode method_11_code 4 = .ok (.invokevirtual 45, 3) := by decide +kernel
theorem d_Lw_whole_7 : decode method_11_code 7 = .ok (.i2l, 1) := by decide +kernel
theorem d_Lw_whole_8 : decode method_11_code 8 = .ok (.lastore, 1) := by decide +kernel
theorem d_Lw_whole_9 : decode method_11_code 9 = .ok (.goto 6, 3) := by decide +kernel
theorem d_Lw_whole_12 : decode method_11_code 12 = .ok (.astore_n 3, 1) := by decide +kernel
theorem d_Lw_whole_13 : decode method_11_code 13 = .ok (.iconst 1, 1) := by decide +kernel
theorem d_Lw_whole_14 : decode method_11_code 14 = .ok (.ireturn, 1) := by decide +kernel
theorem d_Lw_whole_15 : decode method_11_code 15 = .ok (.iconst 0, 1) := by decide +kernel
theorem d_Lw_whole_16 : decode method_11_code 16 = .ok (.ireturn, 1) := by decide +kernel
theorem d_Lw_steps_0 : decode method_12_code 0 = .ok (.aload_n 1, 1) := by decide +kernel
theorem d_Lw_steps_1 : decode method_12_code 1 = .ok (.iconst 0, 1) := by decide +kernel
theorem d_Lw_steps_2 : decode method_12_code 2 = .ok (.aload_n 0, 1) := by decide +kernel
theorem d_Lw_steps_3 : decode method_12_code 3 = .ok (.invokevirtual 48, 3) := by decide +kernel
theorem d_Lw_steps_6 : decode method_12_code 6 = .ok (.i2l, 1) := by decide +kernel
theorem d_Lw_steps_7 : decode method_12_code 7 = .ok (.lastore, 1) := by decide +kernel
theorem d_Lw_steps_8 : decode method_12_code 8 = .ok (.goto 6, 3) := by decide +kernel
theorem d_Lw_steps_11 : decode method_12_code 11 = .ok (.astore_n 2, 1) := by decide +kernel
theorem d_Lw_steps_12 : decode method_12_code 12 = .ok (.iconst 1, 1) := by decide +kernel
theorem d_Lw_steps_13 : decode method_12_code 13 = .ok (.ireturn, 1) := by decide +kernel
theorem d_Lw_steps_14 : decode method_12_code 14 = .ok (.iconst 0, 1) := by decide +kernel
theorem d_Lw_steps_15 : decode method_12_code 15 = .ok (.ireturn, 1) := by decide +kernel
theorem d_Lw_step_0 : decode method_13_code 0 = .ok (.aload_n 2, 1) := by decide +kernel
theorem d_Lw_step_1 : decode method_13_code 1 = .ok (.iconst 0, 1) := by decide +kernel
theorem d_Lw_step_2 : decode method_13_code 2 = .ok (.aload_n 0, 1) := by decide +kernel
theorem d_Lw_step_3 : decode method_13_code 3 = .ok (.iload_n 1, 1) := by decide +kernel
theorem d_Lw_step_4 : decode method_13_code 4 = .ok (.invokevirtual 52, 3) := by decide +kernel
theorem d_Lw_step_7 : decode method_13_code 7 = .ok (.i2l, 1) := by decide +kernel
theorem d_Lw_step_8 : decode method_13_code 8 = .ok (.lastore, 1) := by decide +kernel
theorem d_Lw_step_9 : decode method_13_code 9 = .ok (.goto 9, 3) := by decide +kernel
theorem d_Lw_step_12 : decode method_13_code 12 = .ok (.astore_n 3, 1) := by decide +kernel
theorem d_Lw_step_13 : decode method_13_code 13 = .ok (.iconst 1, 1) := by decide +kernel
theorem d_Lw_step_14 : decode method_13_code 14 = .ok (.ireturn, 1) := by decide +kernel
theorem d_Lw_step_15 : decode method_13_code 15 = .ok (.astore_n 3, 1) := by decide +kernel
theorem d_Lw_step_16 : decode method_13_code 16 = .ok (.iconst 2, 1) := by decide +kernel
theorem d_Lw_step_17 : decode method_13_code 17 = .ok (.ireturn, 1) := by decide +kernel
theorem d_Lw_step_18 : decode method_13_code 18 = .ok (.iconst 0, 1) := by decide +kernel
theorem d_Lw_step_19 : decode method_13_code 19 = .ok (.ireturn, 1) := by decide +kernel
theorem d_Lw_place_0 : decode method_14_code 0 = .ok (.aload_n 3, 1) := by decide +kernel
theorem d_Lw_place_1 : decode method_14_code 1 = .ok (.iconst 0, 1) := by decide +kernel
theorem d_Lw_place_2 : decode method_14_code 2 = .ok (.aload_n 0, 1) := by decide +kernel
theorem d_Lw_place_3 : decode method_14_code 3 = .ok (.iload_n 1, 1) := by decide +kernel
theorem d_Lw_place_4 : decode method_14_code 4 = .ok (.iload_n 2, 1) := by decide +kernel
theorem d_Lw_place_5 : decode method_14_code 5 = .ok (.invokevirtual 55, 3) := by decide +kernel
theorem d_Lw_place_8 : decode method_14_code 8 = .ok (.i2l, 1) := by decide +kernel
theorem d_Lw_place_9 : decode method_14_code 9 = .ok (.lastore, 1) := by decide +kernel
theorem d_Lw_place_10 : decode method_14_code 10 = .ok (.goto 11, 3) := by decide +kernel
theorem d_Lw_place_13 : decode method_14_code 13 = .ok (.astore 4, 2) := by decide +kernel
theorem d_Lw_place_15 : decode method_14_code 15 = .ok (.iconst 1, 1) := by decide +kernel
theorem d_Lw_place_16 : decode method_14_code 16 = .ok (.ireturn, 1) := by decide +kernel
theorem d_Lw_place_17 : decode method_14_code 17 = .ok (.astore 4, 2) := by decide +kernel
theorem d_Lw_place_19 : decode method_14_code 19 = .ok (.iconst 2, 1) := by decide +kernel
theorem d_Lw_place_20 : decode method_14_code 20 = .ok (.ireturn, 1) := by decide +kernel
theorem d_Lw_place_21 : decode method_14_code 21 = .ok (.iconst 0, 1) := by decide +kernel
theorem d_Lw_place_22 : decode method_14_code 22 = .ok (.ireturn, 1) := by decide +kernel
theorem d_Lw_count_0 : decode method_15_code 0 = .ok (.aload_n 2, 1) := by decide +kernel
theorem d_Lw_count_1 : decode method_15_code 1 = .ok (.iconst 0, 1) := by decide +kernel
theorem d_Lw_count_2 : decode method_15_code 2 = .ok (.aload_n 0, 1) := by decide +kernel
theorem d_Lw_count_3 : decode method_15_code 3 = .ok (.iload_n 1, 1) := by decide +kernel
theorem d_Lw_count_4 : decode method_15_code 4 = .ok (.invokevirtual 59, 3) := by decide +kernel
theorem d_Lw_count_7 : decode method_15_code 7 = .ok (.i2l, 1) := by decide +kernel
theorem d_Lw_count_8 : decode method_15_code 8 = .ok (.lastore, 1) := by decide +kernel
theorem d_Lw_count_9 : decode method_15_code 9 = .ok (.goto 9, 3) := by decide +kernel
theorem d_Lw_count_12 : decode method_15_code 12 = .ok (.astore_n 3, 1) := by decide +kernel
theorem d_Lw_count_13 : decode method_15_code 13 = .ok (.iconst 1, 1) := by decide +kernel
theorem d_Lw_count_14 : decode method_15_code 14 = .ok (.ireturn, 1) := by decide +kernel
theorem d_Lw_count_15 : decode method_15_code 15 = .ok (.astore_n 3, 1) := by decide +kernel
theorem d_Lw_count_16 : decode method_15_code 16 = .ok (.iconst 2, 1) := by decide +kernel
theorem d_Lw_count_17 : decode method_15_code 17 = .ok (.ireturn, 1) := by decide +kernel
theorem d_Lw_count_18 : decode method_15_code 18 = .ok (.iconst 0, 1) := by decide +kernel
theorem d_Lw_count_19 : decode method_15_code 19 = .ok (.ireturn, 1) := by decide +kernel
theorem d_Lw_run_0 : decode method_16_code 0 = .ok (.aload_n 3, 1) := by decide +kernel
theorem d_Lw_run_1 : decode method_16_code 1 = .ok (.iconst 0, 1) := by decide +kernel
theorem d_Lw_run_2 : decode method_16_code 2 = .ok (.aload_n 0, 1) := by decide +kernel
theorem d_Lw_run_3 : decode method_16_code 3 = .ok (.iload_n 1, 1) := by decide +kernel
theorem d_Lw_run_4 : decode method_16_code 4 = .ok (.iload_n 2, 1) := by decide +kernel
theorem d_Lw_run_5 : decode method_16_code 5 = .ok (.invokevirtual 62, 3) := by decide +kernel
theorem d_Lw_run_8 : decode method_16_code 8 = .ok (.i2l, 1) := by decide +kernel
theorem d_Lw_run_9 : decode method_16_code 9 = .ok (.lastore, 1) := by decide +kernel
theorem d_Lw_run_10 : decode method_16_code 10 = .ok (.goto 15, 3) := by decide +kernel
theorem d_Lw_run_13 : decode method_16_code 13 = .ok (.astore 4, 2) := by decide +kernel
theorem d_Lw_run_15 : decode method_16_code 15 = .ok (.iconst 1, 1) := by decide +kernel
theorem d_Lw_run_16 : decode method_16_code 16 = .ok (.ireturn, 1) := by decide +kernel
theorem d_Lw_run_17 : decode method_16_code 17 = .ok (.astore 4, 2) := by decide +kernel
theorem d_Lw_run_19 : decode method_16_code 19 = .ok (.iconst 2, 1) := by decide +kernel
theorem d_Lw_run_20 : decode method_16_code 20 = .ok (.ireturn, 1) := by decide +kernel
theorem d_Lw_run_21 : decode method_16_code 21 = .ok (.astore 4, 2) := by decide +kernel
theorem d_Lw_run_23 : decode method_16_code 23 = .ok (.iconst 3, 1) := by decide +kernel
theorem d_Lw_run_24 : decode method_16_code 24 = .ok (.ireturn, 1) := by decide +kernel
theorem d_Lw_run_25 : decode method_16_code 25 = .ok (.iconst 0, 1) := by decide +kernel
theorem d_Lw_run_26 : decode method_16_code 26 = .ok (.ireturn, 1) := by decide +kernel
theorem d_Lw_ways_0 : decode method_17_code 0 = .ok (.aload_n 1, 1) := by decide +kernel
theorem d_Lw_ways_1 : decode method_17_code 1 = .ok (.iconst 0, 1) := by decide +kernel
theorem d_Lw_ways_2 : decode method_17_code 2 = .ok (.aload_n 0, 1) := by decide +kernel
theorem d_Lw_ways_3 : decode method_17_code 3 = .ok (.invokevirtual 65, 3) := by decide +kernel
theorem d_Lw_ways_6 : decode method_17_code 6 = .ok (.lastore, 1) := by decide +kernel
theorem d_Lw_ways_7 : decode method_17_code 7 = .ok (.goto 6, 3) := by decide +kernel
theorem d_Lw_ways_10 : decode method_17_code 10 = .ok (.astore_n 2, 1) := by decide +kernel
theorem d_Lw_ways_11 : decode method_17_code 11 = .ok (.iconst 1, 1) := by decide +kernel
theorem d_Lw_ways_12 : decode method_17_code 12 = .ok (.ireturn, 1) := by decide +kernel
theorem d_Lw_ways_13 : decode method_17_code 13 = .ok (.iconst 0, 1) := by decide +kernel
theorem d_Lw_ways_14 : decode method_17_code 14 = .ok (.ireturn, 1) := by decide +kernel
theorem d_Lw_crossing_0 : decode method_18_code 0 = .ok (.aload_n 2, 1) := by decide +kernel
theorem d_Lw_crossing_1 : decode method_18_code 1 = .ok (.iconst 0, 1) := by decide +kernel
theorem d_Lw_crossing_2 : decode method_18_code 2 = .ok (.aload_n 0, 1) := by decide +kernel
theorem d_Lw_crossing_3 : decode method_18_code 3 = .ok (.iload_n 1, 1) := by decide +kernel
theorem d_Lw_crossing_4 : decode method_18_code 4 = .ok (.invokevirtual 69, 3) := by decide +kernel
theorem d_Lw_crossing_7 : decode method_18_code 7 = .ok (.i2l, 1) := by decide +kernel
theorem d_Lw_crossing_8 : decode method_18_code 8 = .ok (.lastore, 1) := by decide +kernel
theorem d_Lw_crossing_9 : decode method_18_code 9 = .ok (.goto 9, 3) := by decide +kernel
theorem d_Lw_crossing_12 : decode method_18_code 12 = .ok (.astore_n 3, 1) := by decide +kernel
theorem d_Lw_crossing_13 : decode method_18_code 13 = .ok (.iconst 1, 1) := by decide +kernel
theorem d_Lw_crossing_14 : decode method_18_code 14 = .ok (.ireturn, 1) := by decide +kernel
theorem d_Lw_crossing_15 : decode method_18_code 15 = .ok (.astore_n 3, 1) := by decide +kernel
theorem d_Lw_crossing_16 : decode method_18_code 16 = .ok (.iconst 2, 1) := by decide +kernel
theorem d_Lw_crossing_17 : decode method_18_code 17 = .ok (.ireturn, 1) := by decide +kernel
theorem d_Lw_crossing_18 : decode method_18_code 18 = .ok (.iconst 0, 1) := by decide +kernel
theorem d_Lw_crossing_19 : decode method_18_code 19 = .ok (.ireturn, 1) := by decide +kernel
theorem d_Lw_draw_0 : decode method_19_code 0 = .ok (.aload_n 2, 1) := by decide +kernel
theorem d_Lw_draw_1 : decode method_19_code 1 = .ok (.iconst 0, 1) := by decide +kernel
theorem d_Lw_draw_2 : decode method_19_code 2 = .ok (.aload_n 0, 1) := by decide +kernel
theorem d_Lw_draw_3 : decode method_19_code 3 = .ok (.iload_n 1, 1) := by decide +kernel
theorem d_Lw_draw_4 : decode method_19_code 4 = .ok (.invokevirtual 72, 3) := by decide +kernel
theorem d_Lw_draw_7 : decode method_19_code 7 = .ok (.i2l, 1) := by decide +kernel
theorem d_Lw_draw_8 : decode method_19_code 8 = .ok (.lastore, 1) := by decide +kernel
theorem d_Lw_draw_9 : decode method_19_code 9 = .ok (.goto 9, 3) := by decide +kernel
theorem d_Lw_draw_12 : decode method_19_code 12 = .ok (.astore_n 3, 1) := by decide +kernel
theorem d_Lw_draw_13 : decode method_19_code 13 = .ok (.iconst 1, 1) := by decide +kernel
theorem d_Lw_draw_14 : decode method_19_code 14 = .ok (.ireturn, 1) := by decide +kernel
theorem d_Lw_draw_15 : decode method_19_code 15 = .ok (.astore_n 3, 1) := by decide +kernel
theorem d_Lw_draw_16 : decode method_19_code 16 = .ok (.iconst 2, 1) := by decide +kernel
theorem d_Lw_draw_17 : decode method_19_code 17 = .ok (.ireturn, 1) := by decide +kernel
theorem d_Lw_draw_18 : decode method_19_code 18 = .ok (.iconst 0, 1) := by decide +kernel
theorem d_Lw_draw_19 : decode method_19_code 19 = .ok (.ireturn, 1) := by decide +kernel
theorem d_Lw_worth_0 : decode method_20_code 0 = .ok (.aload_n 2, 1) := by decide +kernel
theorem d_Lw_worth_1 : decode method_20_code 1 = .ok (.iconst 0, 1) := by decide +kernel
theorem d_Lw_worth_2 : decode method_20_code 2 = .ok (.aload_n 0, 1) := by decide +kernel
theorem d_Lw_worth_3 : decode method_20_code 3 = .ok (.iload_n 1, 1) := by decide +kernel
theorem d_Lw_worth_4 : decode method_20_code 4 = .ok (.invokevirtual 75, 3) := by decide +kernel
theorem d_Lw_worth_7 : decode method_20_code 7 = .ok (.i2l, 1) := by decide +kernel
theorem d_Lw_worth_8 : decode method_20_code 8 = .ok (.lastore, 1) := by decide +kernel
theorem d_Lw_worth_9 : decode method_20_code 9 = .ok (.goto 6, 3) := by decide +kernel
theorem d_Lw_worth_12 : decode method_20_code 12 = .ok (.astore_n 3, 1) := by decide +kernel
theorem d_Lw_worth_13 : decode method_20_code 13 = .ok (.iconst 1, 1) := by decide +kernel
theorem d_Lw_worth_14 : decode method_20_code 14 = .ok (.ireturn, 1) := by decide +kernel
theorem d_Lw_worth_15 : decode method_20_code 15 = .ok (.iconst 0, 1) := by decide +kernel
theorem d_Lw_worth_16 : decode method_20_code 16 = .ok (.ireturn, 1) := by decide +kernel
theorem d_Lw_law_0 : decode code 0 = .ok (.new 8, 3) := by decide +kernel
theorem d_Lw_law_3 : decode code 3 = .ok (.dup, 1) := by decide +kernel
theorem d_Lw_law_4 : decode code 4 = .ok (.invokespecial 78, 3) := by decide +kernel
theorem d_Lw_law_7 : decode code 7 = .ok (.astore_n 1, 1) := by decide +kernel
theorem d_Lw_law_8 : decode code 8 = .ok (.new 79, 3) := by decide +kernel
theorem d_Lw_law_11 : decode code 11 = .ok (.dup, 1) := by decide +kernel
theorem d_Lw_law_12 : decode code 12 = .ok (.invokespecial 81, 3) := by decide +kernel
theorem d_Lw_law_15 : decode code 15 = .ok (.astore_n 2, 1) := by decide +kernel
theorem d_Lw_law_16 : decode code 16 = .ok (.iconst 1, 1) := by decide +kernel
theorem d_Lw_law_17 : decode code 17 = .ok (.newarray .long, 2) := by decide +kernel
theorem d_Lw_law_19 : decode code 19 = .ok (.astore_n 3, 1) := by decide +kernel
theorem d_Lw_law_20 : decode code 20 = .ok (.iconst 0, 1) := by decide +kernel
theorem d_Lw_law_21 : decode code 21 = .ok (.istore 4, 2) := by decide +kernel
theorem d_Lw_law_23 : decode code 23 = .ok (.iload 4, 2) := by decide +kernel
theorem d_Lw_law_25 : decode code 25 = .ok (.aload_n 0, 1) := by decide +kernel
theorem d_Lw_law_26 : decode code 26 = .ok (.arraylength, 1) := by decide +kernel
theorem d_Lw_law_27 : decode code 27 = .ok (.iconst 5, 1) := by decide +kernel
theorem d_Lw_law_28 : decode code 28 = .ok (.isub, 1) := by decide +kernel
theorem d_Lw_law_29 : decode code 29 = .ok (.if_icmp .gt 1186, 3) := by decide +kernel
theorem d_Lw_law_32 : decode code 32 = .ok (.aload_n 0, 1) := by decide +kernel
theorem d_Lw_law_33 : decode code 33 = .ok (.iload 4, 2) := by decide +kernel
theorem d_Lw_law_35 : decode code 35 = .ok (.iaload, 1) := by decide +kernel
theorem d_Lw_law_36 : decode code 36 = .ok (.bipush 31, 2) := by decide +kernel
theorem d_Lw_law_38 : decode code 38 = .ok (.iand, 1) := by decide +kernel
theorem d_Lw_law_39 : decode code 39 = .ok (.tableswitch 1170 0 19 #[93, 205, 253, 289, 357, 413, 473, 521, 569, 625, 638, 682, 738, 822, 878, 946, 989, 1045, 1101, 1114], 93) := by decide +kernel
theorem d_Lw_law_132 : decode code 132 = .ok (.aload_n 1, 1) := by decide +kernel
theorem d_Lw_law_133 : decode code 133 = .ok (.aload_n 0, 1) := by decide +kernel
theorem d_Lw_law_134 : decode code 134 = .ok (.iload 4, 2) := by decide +kernel
theorem d_Lw_law_136 : decode code 136 = .ok (.iconst 1, 1) := by decide +kernel
theorem d_Lw_law_137 : decode code 137 = .ok (.iadd, 1) := by decide +kernel
theorem d_Lw_law_138 : decode code 138 = .ok (.iaload, 1) := by decide +kernel
theorem d_Lw_law_139 : decode code 139 = .ok (.aload_n 0, 1) := by decide +kernel
theorem d_Lw_law_140 : decode code 140 = .ok (.iload 4, 2) := by decide +kernel
theorem d_Lw_law_142 : decode code 142 = .ok (.iconst 2, 1) := by decide +kernel
theorem d_Lw_law_143 : decode code 143 = .ok (.iadd, 1) := by decide +kernel
theorem d_Lw_law_144 : decode code 144 = .ok (.iaload, 1) := by decide +kernel
theorem d_Lw_law_145 : decode code 145 = .ok (.i2l, 1) := by decide +kernel
theorem d_Lw_law_146 : decode code 146 = .ok (.bipush 32, 2) := by decide +kernel
theorem d_Lw_law_148 : decode code 148 = .ok (.lshl, 1) := by decide +kernel
theorem d_Lw_law_149 : decode code 149 = .ok (.aload_n 0, 1) := by decide +kernel
theorem d_Lw_law_150 : decode code 150 = .ok (.iload 4, 2) := by decide +kernel
theorem d_Lw_law_152 : decode code 152 = .ok (.iconst 3, 1) := by decide +kernel
theorem d_Lw_law_153 : decode code 153 = .ok (.iadd, 1) := by decide +kernel
theorem d_Lw_law_154 : decode code 154 = .ok (.iaload, 1) := by decide +kernel
theorem d_Lw_law_155 : decode code 155 = .ok (.i2l, 1) := by decide +kernel
theorem d_Lw_law_156 : decode code 156 = .ok (.ldc2_w 82, 3) := by decide +kernel
theorem d_Lw_law_159 : decode code 159 = .ok (.land, 1) := by decide +kernel
theorem d_Lw_law_160 : decode code 160 = .ok (.lor, 1) := by decide +kernel
theorem d_Lw_law_161 : decode code 161 = .ok (.aload_n 0, 1) := by decide +kernel
theorem d_Lw_law_162 : decode code 162 = .ok (.iload 4, 2) := by decide +kernel
theorem d_Lw_law_164 : decode code 164 = .ok (.iconst 4, 1) := by decide +kernel
theorem d_Lw_law_165 : decode code 165 = .ok (.iadd, 1) := by decide +kernel
theorem d_Lw_law_166 : decode code 166 = .ok (.iaload, 1) := by decide +kernel
theorem d_Lw_law_167 : decode code 167 = .ok (.aload_n 3, 1) := by decide +kernel
theorem d_Lw_law_168 : decode code 168 = .ok (.invokestatic 84, 3) := by decide +kernel
theorem d_Lw_law_171 : decode code 171 = .ok (.istore 5, 2) := by decide +kernel
theorem d_Lw_law_173 : decode code 173 = .ok (.aload_n 2, 1) := by decide +kernel
theorem d_Lw_law_174 : decode code 174 = .ok (.aload_n 0, 1) := by decide +kernel
theorem d_Lw_law_175 : decode code 175 = .ok (.iload 4, 2) := by decide +kernel
theorem d_Lw_law_177 : decode code 177 = .ok (.iconst 1, 1) := by decide +kernel
theorem d_Lw_law_178 : decode code 178 = .ok (.iadd, 1) := by decide +kernel
theorem d_Lw_law_179 : decode code 179 = .ok (.iaload, 1) := by decide +kernel
theorem d_Lw_law_180 : decode code 180 = .ok (.aload_n 0, 1) := by decide +kernel
theorem d_Lw_law_181 : decode code 181 = .ok (.iload 4, 2) := by decide +kernel
theorem d_Lw_law_183 : decode code 183 = .ok (.iconst 2, 1) := by decide +kernel
theorem d_Lw_law_184 : decode code 184 = .ok (.iadd, 1) := by decide +kernel
theorem d_Lw_law_185 : decode code 185 = .ok (.iaload, 1) := by decide +kernel
theorem d_Lw_law_186 : decode code 186 = .ok (.i2l, 1) := by decide +kernel
theorem d_Lw_law_187 : decode code 187 = .ok (.bipush 32, 2) := by decide +kernel
theorem d_Lw_law_189 : decode code 189 = .ok (.lshl, 1) := by decide +kernel
theorem d_Lw_law_190 : decode code 190 = .ok (.aload_n 0, 1) := by decide +kernel
theorem d_Lw_law_191 : decode code 191 = .ok (.iload 4, 2) := by decide +kernel
theorem d_Lw_law_193 : decode code 193 = .ok (.iconst 3, 1) := by decide +kernel
theorem d_Lw_law_194 : decode code 194 = .ok (.iadd, 1) := by decide +kernel
theorem d_Lw_law_195 : decode code 195 = .ok (.iaload, 1) := by decide +kernel
theorem d_Lw_law_196 : decode code 196 = .ok (.i2l, 1) := by decide +kernel
theorem d_Lw_law_197 : decode code 197 = .ok (.ldc2_w 82, 3) := by decide +kernel
theorem d_Lw_law_200 : decode code 200 = .ok (.land, 1) := by decide +kernel
theorem d_Lw_law_201 : decode code 201 = .ok (.lor, 1) := by decide +kernel
theorem d_Lw_law_202 : decode code 202 = .ok (.aload_n 0, 1) := by decide +kernel
theorem d_Lw_law_203 : decode code 203 = .ok (.iload 4, 2) := by decide +kernel
theorem d_Lw_law_205 : decode code 205 = .ok (.iconst 4, 1) := by decide +kernel
theorem d_Lw_law_206 : decode code 206 = .ok (.iadd, 1) := by decide +kernel
theorem d_Lw_law_207 : decode code 207 = .ok (.iaload, 1) := by decide +kernel
theorem d_Lw_law_208 : decode code 208 = .ok (.invokevirtual 89, 3) := by decide +kernel
theorem d_Lw_law_211 : decode code 211 = .ok (.istore 6, 2) := by decide +kernel
theorem d_Lw_law_213 : decode code 213 = .ok (.aload_n 2, 1) := by decide +kernel
theorem d_Lw_law_214 : decode code 214 = .ok (.invokevirtual 90, 3) := by decide +kernel
theorem d_Lw_law_217 : decode code 217 = .ok (.iload 5, 2) := by decide +kernel
theorem d_Lw_law_219 : decode code 219 = .ok (.if_icmp .eq 5, 3) := by decide +kernel
theorem d_Lw_law_222 : decode code 222 = .ok (.iconst 0, 1) := by decide +kernel
theorem d_Lw_law_223 : decode code 223 = .ok (.ireturn, 1) := by decide +kernel
theorem d_Lw_law_224 : decode code 224 = .ok (.iload 5, 2) := by decide +kernel
theorem d_Lw_law_226 : decode code 226 = .ok (.ifCond .ne 15, 3) := by decide +kernel
theorem d_Lw_law_229 : decode code 229 = .ok (.aload_n 3, 1) := by decide +kernel
theorem d_Lw_law_230 : decode code 230 = .ok (.iconst 0, 1) := by decide +kernel
theorem d_Lw_law_231 : decode code 231 = .ok (.laload, 1) := by decide +kernel
theorem d_Lw_law_232 : decode code 232 = .ok (.iload 6, 2) := by decide +kernel
theorem d_Lw_law_234 : decode code 234 = .ok (.i2l, 1) := by decide +kernel
theorem d_Lw_law_235 : decode code 235 = .ok (.lcmp, 1) := by decide +kernel
theorem d_Lw_law_236 : decode code 236 = .ok (.ifCond .eq 5, 3) := by decide +kernel
theorem d_Lw_law_239 : decode code 239 = .ok (.iconst 0, 1) := by decide +kernel
theorem d_Lw_law_240 : decode code 240 = .ok (.ireturn, 1) := by decide +kernel
theorem d_Lw_law_241 : decode code 241 = .ok (.goto 968, 3) := by decide +kernel
theorem d_Lw_law_244 : decode code 244 = .ok (.aload_n 1, 1) := by decide +kernel
theorem d_Lw_law_245 : decode code 245 = .ok (.aload_n 0, 1) := by decide +kernel
theorem d_Lw_law_246 : decode code 246 = .ok (.iload 4, 2) := by decide +kernel
theorem d_Lw_law_248 : decode code 248 = .ok (.iconst 1, 1) := by decide +kernel
theorem d_Lw_law_249 : decode code 249 = .ok (.iadd, 1) := by decide +kernel
theorem d_Lw_law_250 : decode code 250 = .ok (.iaload, 1) := by decide +kernel
theorem d_Lw_law_251 : decode code 251 = .ok (.aload_n 0, 1) := by decide +kernel
theorem d_Lw_law_252 : decode code 252 = .ok (.iload 4, 2) := by decide +kernel
theorem d_Lw_law_254 : decode code 254 = .ok (.iconst 2, 1) := by decide +kernel
theorem d_Lw_law_255 : decode code 255 = .ok (.iadd, 1) := by decide +kernel
theorem d_Lw_law_256 : decode code 256 = .ok (.iaload, 1) := by decide +kernel
theorem d_Lw_law_257 : decode code 257 = .ok (.invokestatic 93, 3) := by decide +kernel
theorem d_Lw_law_260 : decode code 260 = .ok (.istore 5, 2) := by decide +kernel
theorem d_Lw_law_262 : decode code 262 = .ok (.aload_n 2, 1) := by decide +kernel
theorem d_Lw_law_263 : decode code 263 = .ok (.aload_n 0, 1) := by decide +kernel
theorem d_Lw_law_264 : decode code 264 = .ok (.iload 4, 2) := by decide +kernel
theorem d_Lw_law_266 : decode code 266 = .ok (.iconst 1, 1) := by decide +kernel
theorem d_Lw_law_267 : decode code 267 = .ok (.iadd, 1) := by decide +kernel
theorem d_Lw_law_268 : decode code 268 = .ok (.iaload, 1) := by decide +kernel
theorem d_Lw_law_269 : decode code 269 = .ok (.aload_n 0, 1) := by decide +kernel
theorem d_Lw_law_270 : decode code 270 = .ok (.iload 4, 2) := by decide +kernel
theorem d_Lw_law_272 : decode code 272 = .ok (.iconst 2, 1) := by decide +kernel
theorem d_Lw_law_273 : decode code 273 = .ok (.iadd, 1) := by decide +kernel
theorem d_Lw_law_274 : decode code 274 = .ok (.iaload, 1) := by decide +kernel
theorem d_Lw_law_275 : decode code 275 = .ok (.invokevirtual 96, 3) := by decide +kernel
theorem d_Lw_law_278 : decode code 278 = .ok (.aload_n 2, 1) := by decide +kernel
theorem d_Lw_law_279 : decode code 279 = .ok (.invokevirtual 90, 3) := by decide +kernel
theorem d_Lw_law_282 : decode code 282 = .ok (.iload 5, 2) := by decide +kernel
theorem d_Lw_law_284 : decode code 284 = .ok (.if_icmp .eq 5, 3) := by decide +kernel
theorem d_Lw_law_287 : decode code 287 = .ok (.iconst 0, 1) := by decide +kernel
theorem d_Lw_law_288 : decode code 288 = .ok (.ireturn, 1) := by decide +kernel
theorem d_Lw_law_289 : decode code 289 = .ok (.goto 920, 3) := by decide +kernel
theorem d_Lw_law_292 : decode code 292 = .ok (.aload_n 1, 1) := by decide +kernel
theorem d_Lw_law_293 : decode code 293 = .ok (.aload_n 0, 1) := by decide +kernel
theorem d_Lw_law_294 : decode code 294 = .ok (.iload 4, 2) := by decide +kernel
theorem d_Lw_law_296 : decode code 296 = .ok (.iconst 1, 1) := by decide +kernel
theorem d_Lw_law_297 : decode code 297 = .ok (.iadd, 1) := by decide +kernel
theorem d_Lw_law_298 : decode code 298 = .ok (.iaload, 1) := by decide +kernel
theorem d_Lw_law_299 : decode code 299 = .ok (.invokestatic 97, 3) := by decide +kernel
theorem d_Lw_law_302 : decode code 302 = .ok (.istore 5, 2) := by decide +kernel
theorem d_Lw_law_304 : decode code 304 = .ok (.aload_n 2, 1) := by decide +kernel
theorem d_Lw_law_305 : decode code 305 = .ok (.aload_n 0, 1) := by decide +kernel
theorem d_Lw_law_306 : decode code 306 = .ok (.iload 4, 2) := by decide +kernel
theorem d_Lw_law_308 : decode code 308 = .ok (.iconst 1, 1) := by decide +kernel
theorem d_Lw_law_309 : decode code 309 = .ok (.iadd, 1) := by decide +kernel
theorem d_Lw_law_310 : decode code 310 = .ok (.iaload, 1) := by decide +kernel
theorem d_Lw_law_311 : decode code 311 = .ok (.invokevirtual 100, 3) := by decide +kernel
theorem d_Lw_law_314 : decode code 314 = .ok (.aload_n 2, 1) := by decide +kernel
theorem d_Lw_law_315 : decode code 315 = .ok (.invokevirtual 90, 3) := by decide +kernel
theorem d_Lw_law_318 : decode code 318 = .ok (.iload 5, 2) := by decide +kernel
theorem d_Lw_law_320 : decode code 320 = .ok (.if_icmp .eq 5, 3) := by decide +kernel
theorem d_Lw_law_323 : decode code 323 = .ok (.iconst 0, 1) := by decide +kernel
theorem d_Lw_law_324 : decode code 324 = .ok (.ireturn, 1) := by decide +kernel
theorem d_Lw_law_325 : decode code 325 = .ok (.goto 884, 3) := by decide +kernel
theorem d_Lw_law_328 : decode code 328 = .ok (.aload_n 1, 1) := by decide +kernel
theorem d_Lw_law_329 : decode code 329 = .ok (.aload_n 0, 1) := by decide +kernel
theorem d_Lw_law_330 : decode code 330 = .ok (.iload 4, 2) := by decide +kernel
theorem d_Lw_law_332 : decode code 332 = .ok (.iconst 1, 1) := by decide +kernel
theorem d_Lw_law_333 : decode code 333 = .ok (.iadd, 1) := by decide +kernel
theorem d_Lw_law_334 : decode code 334 = .ok (.iaload, 1) := by decide +kernel
theorem d_Lw_law_335 : decode code 335 = .ok (.aload_n 0, 1) := by decide +kernel
theorem d_Lw_law_336 : decode code 336 = .ok (.iload 4, 2) := by decide +kernel
theorem d_Lw_law_338 : decode code 338 = .ok (.iconst 2, 1) := by decide +kernel
theorem d_Lw_law_339 : decode code 339 = .ok (.iadd, 1) := by decide +kernel
theorem d_Lw_law_340 : decode code 340 = .ok (.iaload, 1) := by decide +kernel
theorem d_Lw_law_341 : decode code 341 = .ok (.aload_n 3, 1) := by decide +kernel
theorem d_Lw_law_342 : decode code 342 = .ok (.invokestatic 101, 3) := by decide +kernel
theorem d_Lw_law_345 : decode code 345 = .ok (.istore 5, 2) := by decide +kernel
theorem d_Lw_law_347 : decode code 347 = .ok (.aload_n 2, 1) := by decide +kernel
theorem d_Lw_law_348 : decode code 348 = .ok (.aload_n 0, 1) := by decide +kernel
theorem d_Lw_law_349 : decode code 349 = .ok (.iload 4, 2) := by decide +kernel
theorem d_Lw_law_351 : decode code 351 = .ok (.iconst 1, 1) := by decide +kernel
theorem d_Lw_law_352 : decode code 352 = .ok (.iadd, 1) := by decide +kernel
theorem d_Lw_law_353 : decode code 353 = .ok (.iaload, 1) := by decide +kernel
theorem d_Lw_law_354 : decode code 354 = .ok (.aload_n 0, 1) := by decide +kernel
theorem d_Lw_law_355 : decode code 355 = .ok (.iload 4, 2) := by decide +kernel
theorem d_Lw_law_357 : decode code 357 = .ok (.iconst 2, 1) := by decide +kernel
theorem d_Lw_law_358 : decode code 358 = .ok (.iadd, 1) := by decide +kernel
theorem d_Lw_law_359 : decode code 359 = .ok (.iaload, 1) := by decide +kernel
theorem d_Lw_law_360 : decode code 360 = .ok (.invokevirtual 104, 3) := by decide +kernel
theorem d_Lw_law_363 : decode code 363 = .ok (.istore 6, 2) := by decide +kernel
theorem d_Lw_law_365 : decode code 365 = .ok (.aload_n 2, 1) := by decide +kernel
theorem d_Lw_law_366 : decode code 366 = .ok (.invokevirtual 90, 3) := by decide +kernel
theorem d_Lw_law_369 : decode code 369 = .ok (.iload 5, 2) := by decide +kernel
theorem d_Lw_law_371 : decode code 371 = .ok (.if_icmp .eq 5, 3) := by decide +kernel
theorem d_Lw_law_374 : decode code 374 = .ok (.iconst 0, 1) := by decide +kernel
theorem d_Lw_law_375 : decode code 375 = .ok (.ireturn, 1) := by decide +kernel
theorem d_Lw_law_376 : decode code 376 = .ok (.iload 5, 2) := by decide +kernel
theorem d_Lw_law_378 : decode code 378 = .ok (.ifCond .ne 15, 3) := by decide +kernel
theorem d_Lw_law_381 : decode code 381 = .ok (.aload_n 3, 1) := by decide +kernel
theorem d_Lw_law_382 : decode code 382 = .ok (.iconst 0, 1) := by decide +kernel
theorem d_Lw_law_383 : decode code 383 = .ok (.laload, 1) := by decide +kernel
theorem d_Lw_law_384 : decode code 384 = .ok (.iload 6, 2) := by decide +kernel
theorem d_Lw_law_386 : decode code 386 = .ok (.i2l, 1) := by decide +kernel
theorem d_Lw_law_387 : decode code 387 = .ok (.lcmp, 1) := by decide +kernel
theorem d_Lw_law_388 : decode code 388 = .ok (.ifCond .eq 5, 3) := by decide +kernel
theorem d_Lw_law_391 : decode code 391 = .ok (.iconst 0, 1) := by decide +kernel
theorem d_Lw_law_392 : decode code 392 = .ok (.ireturn, 1) := by decide +kernel
theorem d_Lw_law_393 : decode code 393 = .ok (.goto 816, 3) := by decide +kernel
theorem d_Lw_law_396 : decode code 396 = .ok (.aload_n 1, 1) := by decide +kernel
theorem d_Lw_law_397 : decode code 397 = .ok (.aload_n 0, 1) := by decide +kernel
theorem d_Lw_law_398 : decode code 398 = .ok (.iload 4, 2) := by decide +kernel
theorem d_Lw_law_400 : decode code 400 = .ok (.iconst 1, 1) := by decide +kernel
theorem d_Lw_law_401 : decode code 401 = .ok (.iadd, 1) := by decide +kernel
theorem d_Lw_law_402 : decode code 402 = .ok (.iaload, 1) := by decide +kernel
theorem d_Lw_law_403 : decode code 403 = .ok (.aload_n 3, 1) := by decide +kernel
theorem d_Lw_law_404 : decode code 404 = .ok (.invokestatic 105, 3) := by decide +kernel
theorem d_Lw_law_407 : decode code 407 = .ok (.istore 5, 2) := by decide +kernel
theorem d_Lw_law_409 : decode code 409 = .ok (.aload_n 2, 1) := by decide +kernel
theorem d_Lw_law_410 : decode code 410 = .ok (.aload_n 0, 1) := by decide +kernel
theorem d_Lw_law_411 : decode code 411 = .ok (.iload 4, 2) := by decide +kernel
theorem d_Lw_law_413 : decode code 413 = .ok (.iconst 1, 1) := by decide +kernel
theorem d_Lw_law_414 : decode code 414 = .ok (.iadd, 1) := by decide +kernel
theorem d_Lw_law_415 : decode code 415 = .ok (.iaload, 1) := by decide +kernel
theorem d_Lw_law_416 : decode code 416 = .ok (.invokevirtual 108, 3) := by decide +kernel
theorem d_Lw_law_419 : decode code 419 = .ok (.istore 6, 2) := by decide +kernel
theorem d_Lw_law_421 : decode code 421 = .ok (.aload_n 2, 1) := by decide +kernel
theorem d_Lw_law_422 : decode code 422 = .ok (.invokevirtual 90, 3) := by decide +kernel
theorem d_Lw_law_425 : decode code 425 = .ok (.iload 5, 2) := by decide +kernel
theorem d_Lw_law_427 : decode code 427 = .ok (.if_icmp .eq 5, 3) := by decide +kernel
theorem d_Lw_law_430 : decode code 430 = .ok (.iconst 0, 1) := by decide +kernel
theorem d_Lw_law_431 : decode code 431 = .ok (.ireturn, 1) := by decide +kernel
theorem d_Lw_law_432 : decode code 432 = .ok (.iload 5, 2) := by decide +kernel
theorem d_Lw_law_434 : decode code 434 = .ok (.ifCond .ne 15, 3) := by decide +kernel
theorem d_Lw_law_437 : decode code 437 = .ok (.aload_n 3, 1) := by decide +kernel
theorem d_Lw_law_438 : decode code 438 = .ok (.iconst 0, 1) := by decide +kernel
theorem d_Lw_law_439 : decode code 439 = .ok (.laload, 1) := by decide +kernel
theorem d_Lw_law_440 : decode code 440 = .ok (.iload 6, 2) := by decide +kernel
theorem d_Lw_law_442 : decode code 442 = .ok (.i2l, 1) := by decide +kernel
theorem d_Lw_law_443 : decode code 443 = .ok (.lcmp, 1) := by decide +kernel
theorem d_Lw_law_444 : decode code 444 = .ok (.ifCond .eq 5, 3) := by decide +kernel
theorem d_Lw_law_447 : decode code 447 = .ok (.iconst 0, 1) := by decide +kernel
theorem d_Lw_law_448 : decode code 448 = .ok (.ireturn, 1) := by decide +kernel
theorem d_Lw_law_449 : decode code 449 = .ok (.goto 760, 3) := by decide +kernel
theorem d_Lw_law_452 : decode code 452 = .ok (.aload_n 1, 1) := by decide +kernel
theorem d_Lw_law_453 : decode code 453 = .ok (.aload_n 0, 1) := by decide +kernel
theorem d_Lw_law_454 : decode code 454 = .ok (.iload 4, 2) := by decide +kernel
theorem d_Lw_law_456 : decode code 456 = .ok (.iconst 1, 1) := by decide +kernel
theorem d_Lw_law_457 : decode code 457 = .ok (.iadd, 1) := by decide +kernel
theorem d_Lw_law_458 : decode code 458 = .ok (.iaload, 1) := by decide +kernel
theorem d_Lw_law_459 : decode code 459 = .ok (.aload_n 0, 1) := by decide +kernel
theorem d_Lw_law_460 : decode code 460 = .ok (.iload 4, 2) := by decide +kernel
theorem d_Lw_law_462 : decode code 462 = .ok (.iconst 2, 1) := by decide +kernel
theorem d_Lw_law_463 : decode code 463 = .ok (.iadd, 1) := by decide +kernel
theorem d_Lw_law_464 : decode code 464 = .ok (.iaload, 1) := by decide +kernel
theorem d_Lw_law_465 : decode code 465 = .ok (.aload_n 0, 1) := by decide +kernel
theorem d_Lw_law_466 : decode code 466 = .ok (.iload 4, 2) := by decide +kernel
theorem d_Lw_law_468 : decode code 468 = .ok (.iconst 3, 1) := by decide +kernel
theorem d_Lw_law_469 : decode code 469 = .ok (.iadd, 1) := by decide +kernel
theorem d_Lw_law_470 : decode code 470 = .ok (.iaload, 1) := by decide +kernel
theorem d_Lw_law_471 : decode code 471 = .ok (.invokestatic 109, 3) := by decide +kernel
theorem d_Lw_law_474 : decode code 474 = .ok (.istore 5, 2) := by decide +kernel
theorem d_Lw_law_476 : decode code 476 = .ok (.aload_n 2, 1) := by decide +kernel
theorem d_Lw_law_477 : decode code 477 = .ok (.aload_n 0, 1) := by decide +kernel
theorem d_Lw_law_478 : decode code 478 = .ok (.iload 4, 2) := by decide +kernel
theorem d_Lw_law_480 : decode code 480 = .ok (.iconst 1, 1) := by decide +kernel
theorem d_Lw_law_481 : decode code 481 = .ok (.iadd, 1) := by decide +kernel
theorem d_Lw_law_482 : decode code 482 = .ok (.iaload, 1) := by decide +kernel
theorem d_Lw_law_483 : decode code 483 = .ok (.aload_n 0, 1) := by decide +kernel
theorem d_Lw_law_484 : decode code 484 = .ok (.iload 4, 2) := by decide +kernel
theorem d_Lw_law_486 : decode code 486 = .ok (.iconst 2, 1) := by decide +kernel
theorem d_Lw_law_487 : decode code 487 = .ok (.iadd, 1) := by decide +kernel
theorem d_Lw_law_488 : decode code 488 = .ok (.iaload, 1) := by decide +kernel
theorem d_Lw_law_489 : decode code 489 = .ok (.aload_n 0, 1) := by decide +kernel
theorem d_Lw_law_490 : decode code 490 = .ok (.iload 4, 2) := by decide +kernel
theorem d_Lw_law_492 : decode code 492 = .ok (.iconst 3, 1) := by decide +kernel
theorem d_Lw_law_493 : decode code 493 = .ok (.iadd, 1) := by decide +kernel
theorem d_Lw_law_494 : decode code 494 = .ok (.iaload, 1) := by decide +kernel
theorem d_Lw_law_495 : decode code 495 = .ok (.invokevirtual 112, 3) := by decide +kernel
theorem d_Lw_law_498 : decode code 498 = .ok (.aload_n 2, 1) := by decide +kernel
theorem d_Lw_law_499 : decode code 499 = .ok (.invokevirtual 90, 3) := by decide +kernel
theorem d_Lw_law_502 : decode code 502 = .ok (.iload 5, 2) := by decide +kernel
theorem d_Lw_law_504 : decode code 504 = .ok (.if_icmp .eq 5, 3) := by decide +kernel
theorem d_Lw_law_507 : decode code 507 = .ok (.iconst 0, 1) := by decide +kernel
theorem d_Lw_law_508 : decode code 508 = .ok (.ireturn, 1) := by decide +kernel
theorem d_Lw_law_509 : decode code 509 = .ok (.goto 700, 3) := by decide +kernel
theorem d_Lw_law_512 : decode code 512 = .ok (.aload_n 1, 1) := by decide +kernel
theorem d_Lw_law_513 : decode code 513 = .ok (.aload_n 0, 1) := by decide +kernel
theorem d_Lw_law_514 : decode code 514 = .ok (.iload 4, 2) := by decide +kernel
theorem d_Lw_law_516 : decode code 516 = .ok (.iconst 1, 1) := by decide +kernel
theorem d_Lw_law_517 : decode code 517 = .ok (.iadd, 1) := by decide +kernel
theorem d_Lw_law_518 : decode code 518 = .ok (.iaload, 1) := by decide +kernel
theorem d_Lw_law_519 : decode code 519 = .ok (.aload_n 0, 1) := by decide +kernel
theorem d_Lw_law_520 : decode code 520 = .ok (.iload 4, 2) := by decide +kernel
theorem d_Lw_law_522 : decode code 522 = .ok (.iconst 2, 1) := by decide +kernel
theorem d_Lw_law_523 : decode code 523 = .ok (.iadd, 1) := by decide +kernel
theorem d_Lw_law_524 : decode code 524 = .ok (.iaload, 1) := by decide +kernel
theorem d_Lw_law_525 : decode code 525 = .ok (.invokestatic 113, 3) := by decide +kernel
theorem d_Lw_law_528 : decode code 528 = .ok (.istore 5, 2) := by decide +kernel
theorem d_Lw_law_530 : decode code 530 = .ok (.aload_n 2, 1) := by decide +kernel
theorem d_Lw_law_531 : decode code 531 = .ok (.aload_n 0, 1) := by decide +kernel
theorem d_Lw_law_532 : decode code 532 = .ok (.iload 4, 2) := by decide +kernel
theorem d_Lw_law_534 : decode code 534 = .ok (.iconst 1, 1) := by decide +kernel
theorem d_Lw_law_535 : decode code 535 = .ok (.iadd, 1) := by decide +kernel
theorem d_Lw_law_536 : decode code 536 = .ok (.iaload, 1) := by decide +kernel
theorem d_Lw_law_537 : decode code 537 = .ok (.aload_n 0, 1) := by decide +kernel
theorem d_Lw_law_538 : decode code 538 = .ok (.iload 4, 2) := by decide +kernel
theorem d_Lw_law_540 : decode code 540 = .ok (.iconst 2, 1) := by decide +kernel
theorem d_Lw_law_541 : decode code 541 = .ok (.iadd, 1) := by decide +kernel
theorem d_Lw_law_542 : decode code 542 = .ok (.iaload, 1) := by decide +kernel
theorem d_Lw_law_543 : decode code 543 = .ok (.invokevirtual 115, 3) := by decide +kernel
theorem d_Lw_law_546 : decode code 546 = .ok (.aload_n 2, 1) := by decide +kernel
theorem d_Lw_law_547 : decode code 547 = .ok (.invokevirtual 90, 3) := by decide +kernel
theorem d_Lw_law_550 : decode code 550 = .ok (.iload 5, 2) := by decide +kernel
theorem d_Lw_law_552 : decode code 552 = .ok (.if_icmp .eq 5, 3) := by decide +kernel
theorem d_Lw_law_555 : decode code 555 = .ok (.iconst 0, 1) := by decide +kernel
theorem d_Lw_law_556 : decode code 556 = .ok (.ireturn, 1) := by decide +kernel
theorem d_Lw_law_557 : decode code 557 = .ok (.goto 652, 3) := by decide +kernel
theorem d_Lw_law_560 : decode code 560 = .ok (.aload_n 1, 1) := by decide +kernel
theorem d_Lw_law_561 : decode code 561 = .ok (.aload_n 0, 1) := by decide +kernel
theorem d_Lw_law_562 : decode code 562 = .ok (.iload 4, 2) := by decide +kernel
theorem d_Lw_law_564 : decode code 564 = .ok (.iconst 1, 1) := by decide +kernel
theorem d_Lw_law_565 : decode code 565 = .ok (.iadd, 1) := by decide +kernel
theorem d_Lw_law_566 : decode code 566 = .ok (.iaload, 1) := by decide +kernel
theorem d_Lw_law_567 : decode code 567 = .ok (.aload_n 0, 1) := by decide +kernel
theorem d_Lw_law_568 : decode code 568 = .ok (.iload 4, 2) := by decide +kernel
theorem d_Lw_law_570 : decode code 570 = .ok (.iconst 2, 1) := by decide +kernel
theorem d_Lw_law_571 : decode code 571 = .ok (.iadd, 1) := by decide +kernel
theorem d_Lw_law_572 : decode code 572 = .ok (.iaload, 1) := by decide +kernel
theorem d_Lw_law_573 : decode code 573 = .ok (.invokestatic 116, 3) := by decide +kernel
theorem d_Lw_law_576 : decode code 576 = .ok (.istore 5, 2) := by decide +kernel
theorem d_Lw_law_578 : decode code 578 = .ok (.aload_n 2, 1) := by decide +kernel
theorem d_Lw_law_579 : decode code 579 = .ok (.aload_n 0, 1) := by decide +kernel
theorem d_Lw_law_580 : decode code 580 = .ok (.iload 4, 2) := by decide +kernel
theorem d_Lw_law_582 : decode code 582 = .ok (.iconst 1, 1) := by decide +kernel
theorem d_Lw_law_583 : decode code 583 = .ok (.iadd, 1) := by decide +kernel
theorem d_Lw_law_584 : decode code 584 = .ok (.iaload, 1) := by decide +kernel
theorem d_Lw_law_585 : decode code 585 = .ok (.aload_n 0, 1) := by decide +kernel
theorem d_Lw_law_586 : decode code 586 = .ok (.iload 4, 2) := by decide +kernel
theorem d_Lw_law_588 : decode code 588 = .ok (.iconst 2, 1) := by decide +kernel
theorem d_Lw_law_589 : decode code 589 = .ok (.iadd, 1) := by decide +kernel
theorem d_Lw_law_590 : decode code 590 = .ok (.iaload, 1) := by decide +kernel
theorem d_Lw_law_591 : decode code 591 = .ok (.invokevirtual 118, 3) := by decide +kernel
theorem d_Lw_law_594 : decode code 594 = .ok (.aload_n 2, 1) := by decide +kernel
theorem d_Lw_law_595 : decode code 595 = .ok (.invokevirtual 90, 3) := by decide +kernel
theorem d_Lw_law_598 : decode code 598 = .ok (.iload 5, 2) := by decide +kernel
theorem d_Lw_law_600 : decode code 600 = .ok (.if_icmp .eq 5, 3) := by decide +kernel
theorem d_Lw_law_603 : decode code 603 = .ok (.iconst 0, 1) := by decide +kernel
theorem d_Lw_law_604 : decode code 604 = .ok (.ireturn, 1) := by decide +kernel
theorem d_Lw_law_605 : decode code 605 = .ok (.goto 604, 3) := by decide +kernel
theorem d_Lw_law_608 : decode code 608 = .ok (.aload_n 1, 1) := by decide +kernel
theorem d_Lw_law_609 : decode code 609 = .ok (.aload_n 0, 1) := by decide +kernel
theorem d_Lw_law_610 : decode code 610 = .ok (.iload 4, 2) := by decide +kernel
theorem d_Lw_law_612 : decode code 612 = .ok (.iconst 1, 1) := by decide +kernel
theorem d_Lw_law_613 : decode code 613 = .ok (.iadd, 1) := by decide +kernel
theorem d_Lw_law_614 : decode code 614 = .ok (.iaload, 1) := by decide +kernel
theorem d_Lw_law_615 : decode code 615 = .ok (.aload_n 3, 1) := by decide +kernel
theorem d_Lw_law_616 : decode code 616 = .ok (.invokestatic 119, 3) := by decide +kernel
theorem d_Lw_law_619 : decode code 619 = .ok (.istore 5, 2) := by decide +kernel
theorem d_Lw_law_621 : decode code 621 = .ok (.aload_n 2, 1) := by decide +kernel
theorem d_Lw_law_622 : decode code 622 = .ok (.aload_n 0, 1) := by decide +kernel
theorem d_Lw_law_623 : decode code 623 = .ok (.iload 4, 2) := by decide +kernel
theorem d_Lw_law_625 : decode code 625 = .ok (.iconst 1, 1) := by decide +kernel
theorem d_Lw_law_626 : decode code 626 = .ok (.iadd, 1) := by decide +kernel
theorem d_Lw_law_627 : decode code 627 = .ok (.iaload, 1) := by decide +kernel
theorem d_Lw_law_628 : decode code 628 = .ok (.invokevirtual 121, 3) := by decide +kernel
theorem d_Lw_law_631 : decode code 631 = .ok (.istore 6, 2) := by decide +kernel
theorem d_Lw_law_633 : decode code 633 = .ok (.aload_n 2, 1) := by decide +kernel
theorem d_Lw_law_634 : decode code 634 = .ok (.invokevirtual 90, 3) := by decide +kernel
theorem d_Lw_law_637 : decode code 637 = .ok (.iload 5, 2) := by decide +kernel
theorem d_Lw_law_639 : decode code 639 = .ok (.if_icmp .eq 5, 3) := by decide +kernel
theorem d_Lw_law_642 : decode code 642 = .ok (.iconst 0, 1) := by decide +kernel
theorem d_Lw_law_643 : decode code 643 = .ok (.ireturn, 1) := by decide +kernel
theorem d_Lw_law_644 : decode code 644 = .ok (.iload 5, 2) := by decide +kernel
theorem d_Lw_law_646 : decode code 646 = .ok (.ifCond .ne 15, 3) := by decide +kernel
theorem d_Lw_law_649 : decode code 649 = .ok (.aload_n 3, 1) := by decide +kernel
theorem d_Lw_law_650 : decode code 650 = .ok (.iconst 0, 1) := by decide +kernel
theorem d_Lw_law_651 : decode code 651 = .ok (.laload, 1) := by decide +kernel
theorem d_Lw_law_652 : decode code 652 = .ok (.iload 6, 2) := by decide +kernel
theorem d_Lw_law_654 : decode code 654 = .ok (.i2l, 1) := by decide +kernel
theorem d_Lw_law_655 : decode code 655 = .ok (.lcmp, 1) := by decide +kernel
theorem d_Lw_law_656 : decode code 656 = .ok (.ifCond .eq 5, 3) := by decide +kernel
theorem d_Lw_law_659 : decode code 659 = .ok (.iconst 0, 1) := by decide +kernel
theorem d_Lw_law_660 : decode code 660 = .ok (.ireturn, 1) := by decide +kernel
theorem d_Lw_law_661 : decode code 661 = .ok (.goto 548, 3) := by decide +kernel
theorem d_Lw_law_664 : decode code 664 = .ok (.aload_n 1, 1) := by decide +kernel
theorem d_Lw_law_665 : decode code 665 = .ok (.invokevirtual 122, 3) := by decide +kernel
theorem d_Lw_law_668 : decode code 668 = .ok (.aload_n 2, 1) := by decide +kernel
theorem d_Lw_law_669 : decode code 669 = .ok (.invokevirtual 125, 3) := by decide +kernel
theorem d_Lw_law_672 : decode code 672 = .ok (.if_icmp .eq 537, 3) := by decide +kernel
theorem d_Lw_law_675 : decode code 675 = .ok (.iconst 0, 1) := by decide +kernel
theorem d_Lw_law_676 : decode code 676 = .ok (.ireturn, 1) := by decide +kernel
theorem d_Lw_law_677 : decode code 677 = .ok (.aload_n 1, 1) := by decide +kernel
theorem d_Lw_law_678 : decode code 678 = .ok (.aload_n 3, 1) := by decide +kernel
theorem d_Lw_law_679 : decode code 679 = .ok (.invokestatic 126, 3) := by decide +kernel
theorem d_Lw_law_682 : decode code 682 = .ok (.istore 5, 2) := by decide +kernel
theorem d_Lw_law_684 : decode code 684 = .ok (.aload_n 2, 1) := by decide +kernel
theorem d_Lw_law_685 : decode code 685 = .ok (.invokevirtual 129, 3) := by decide +kernel
theorem d_Lw_law_688 : decode code 688 = .ok (.istore 6, 2) := by decide +kernel
theorem d_Lw_law_690 : decode code 690 = .ok (.aload_n 2, 1) := by decide +kernel
theorem d_Lw_law_691 : decode code 691 = .ok (.invokevirtual 90, 3) := by decide +kernel
theorem d_Lw_law_694 : decode code 694 = .ok (.iload 5, 2) := by decide +kernel
theorem d_Lw_law_696 : decode code 696 = .ok (.if_icmp .eq 5, 3) := by decide +kernel
theorem d_Lw_law_699 : decode code 699 = .ok (.iconst 0, 1) := by decide +kernel
theorem d_Lw_law_700 : decode code 700 = .ok (.ireturn, 1) := by decide +kernel
theorem d_Lw_law_701 : decode code 701 = .ok (.iload 5, 2) := by decide +kernel
theorem d_Lw_law_703 : decode code 703 = .ok (.ifCond .ne 15, 3) := by decide +kernel
theorem d_Lw_law_706 : decode code 706 = .ok (.aload_n 3, 1) := by decide +kernel
theorem d_Lw_law_707 : decode code 707 = .ok (.iconst 0, 1) := by decide +kernel
theorem d_Lw_law_708 : decode code 708 = .ok (.laload, 1) := by decide +kernel
theorem d_Lw_law_709 : decode code 709 = .ok (.iload 6, 2) := by decide +kernel
theorem d_Lw_law_711 : decode code 711 = .ok (.i2l, 1) := by decide +kernel
theorem d_Lw_law_712 : decode code 712 = .ok (.lcmp, 1) := by decide +kernel
theorem d_Lw_law_713 : decode code 713 = .ok (.ifCond .eq 5, 3) := by decide +kernel
theorem d_Lw_law_716 : decode code 716 = .ok (.iconst 0, 1) := by decide +kernel
theorem d_Lw_law_717 : decode code 717 = .ok (.ireturn, 1) := by decide +kernel
theorem d_Lw_law_718 : decode code 718 = .ok (.goto 491, 3) := by decide +kernel
theorem d_Lw_law_721 : decode code 721 = .ok (.aload_n 1, 1) := by decide +kernel
theorem d_Lw_law_722 : decode code 722 = .ok (.aload_n 0, 1) := by decide +kernel
theorem d_Lw_law_723 : decode code 723 = .ok (.iload 4, 2) := by decide +kernel
theorem d_Lw_law_725 : decode code 725 = .ok (.iconst 1, 1) := by decide +kernel
theorem d_Lw_law_726 : decode code 726 = .ok (.iadd, 1) := by decide +kernel
theorem d_Lw_law_727 : decode code 727 = .ok (.iaload, 1) := by decide +kernel
theorem d_Lw_law_728 : decode code 728 = .ok (.aload_n 3, 1) := by decide +kernel
theorem d_Lw_law_729 : decode code 729 = .ok (.invokestatic 130, 3) := by decide +kernel
theorem d_Lw_law_732 : decode code 732 = .ok (.istore 5, 2) := by decide +kernel
theorem d_Lw_law_734 : decode code 734 = .ok (.aload_n 2, 1) := by decide +kernel
theorem d_Lw_law_735 : decode code 735 = .ok (.aload_n 0, 1) := by decide +kernel
theorem d_Lw_law_736 : decode code 736 = .ok (.iload 4, 2) := by decide +kernel
theorem d_Lw_law_738 : decode code 738 = .ok (.iconst 1, 1) := by decide +kernel
theorem d_Lw_law_739 : decode code 739 = .ok (.iadd, 1) := by decide +kernel
theorem d_Lw_law_740 : decode code 740 = .ok (.iaload, 1) := by decide +kernel
theorem d_Lw_law_741 : decode code 741 = .ok (.invokevirtual 132, 3) := by decide +kernel
theorem d_Lw_law_744 : decode code 744 = .ok (.istore 6, 2) := by decide +kernel
theorem d_Lw_law_746 : decode code 746 = .ok (.aload_n 2, 1) := by decide +kernel
theorem d_Lw_law_747 : decode code 747 = .ok (.invokevirtual 90, 3) := by decide +kernel
theorem d_Lw_law_750 : decode code 750 = .ok (.iload 5, 2) := by decide +kernel
theorem d_Lw_law_752 : decode code 752 = .ok (.if_icmp .eq 5, 3) := by decide +kernel
theorem d_Lw_law_755 : decode code 755 = .ok (.iconst 0, 1) := by decide +kernel
theorem d_Lw_law_756 : decode code 756 = .ok (.ireturn, 1) := by decide +kernel
theorem d_Lw_law_757 : decode code 757 = .ok (.iload 5, 2) := by decide +kernel
theorem d_Lw_law_759 : decode code 759 = .ok (.ifCond .ne 15, 3) := by decide +kernel
theorem d_Lw_law_762 : decode code 762 = .ok (.aload_n 3, 1) := by decide +kernel
theorem d_Lw_law_763 : decode code 763 = .ok (.iconst 0, 1) := by decide +kernel
theorem d_Lw_law_764 : decode code 764 = .ok (.laload, 1) := by decide +kernel
theorem d_Lw_law_765 : decode code 765 = .ok (.iload 6, 2) := by decide +kernel
theorem d_Lw_law_767 : decode code 767 = .ok (.i2l, 1) := by decide +kernel
theorem d_Lw_law_768 : decode code 768 = .ok (.lcmp, 1) := by decide +kernel
theorem d_Lw_law_769 : decode code 769 = .ok (.ifCond .eq 5, 3) := by decide +kernel
theorem d_Lw_law_772 : decode code 772 = .ok (.iconst 0, 1) := by decide +kernel
theorem d_Lw_law_773 : decode code 773 = .ok (.ireturn, 1) := by decide +kernel
theorem d_Lw_law_774 : decode code 774 = .ok (.goto 435, 3) := by decide +kernel
theorem d_Lw_law_777 : decode code 777 = .ok (.aload_n 1, 1) := by decide +kernel
theorem d_Lw_law_778 : decode code 778 = .ok (.aload_n 0, 1) := by decide +kernel
theorem d_Lw_law_779 : decode code 779 = .ok (.iload 4, 2) := by decide +kernel
theorem d_Lw_law_781 : decode code 781 = .ok (.iconst 1, 1) := by decide +kernel
theorem d_Lw_law_782 : decode code 782 = .ok (.iadd, 1) := by decide +kernel
theorem d_Lw_law_783 : decode code 783 = .ok (.iaload, 1) := by decide +kernel
theorem d_Lw_law_784 : decode code 784 = .ok (.aload_n 0, 1) := by decide +kernel
theorem d_Lw_law_785 : decode code 785 = .ok (.iload 4, 2) := by decide +kernel
theorem d_Lw_law_787 : decode code 787 = .ok (.iconst 2, 1) := by decide +kernel
theorem d_Lw_law_788 : decode code 788 = .ok (.iadd, 1) := by decide +kernel
theorem d_Lw_law_789 : decode code 789 = .ok (.iaload, 1) := by decide +kernel
theorem d_Lw_law_790 : decode code 790 = .ok (.ifCond .eq 7, 3) := by decide +kernel
theorem d_Lw_law_793 : decode code 793 = .ok (.iconst 1, 1) := by decide +kernel
theorem d_Lw_law_794 : decode code 794 = .ok (.goto 4, 3) := by decide +kernel
theorem d_Lw_law_797 : decode code 797 = .ok (.iconst 0, 1) := by decide +kernel
theorem d_Lw_law_798 : decode code 798 = .ok (.aload_n 3, 1) := by decide +kernel
theorem d_Lw_law_799 : decode code 799 = .ok (.invokestatic 133, 3) := by decide +kernel
theorem d_Lw_law_802 : decode code 802 = .ok (.istore 5, 2) := by decide +kernel
theorem d_Lw_law_804 : decode code 804 = .ok (.aload_n 2, 1) := by decide +kernel
theorem d_Lw_law_805 : decode code 805 = .ok (.aload_n 0, 1) := by decide +kernel
theorem d_Lw_law_806 : decode code 806 = .ok (.iload 4, 2) := by decide +kernel
theorem d_Lw_law_808 : decode code 808 = .ok (.iconst 1, 1) := by decide +kernel
theorem d_Lw_law_809 : decode code 809 = .ok (.iadd, 1) := by decide +kernel
theorem d_Lw_law_810 : decode code 810 = .ok (.iaload, 1) := by decide +kernel
theorem d_Lw_law_811 : decode code 811 = .ok (.aload_n 0, 1) := by decide +kernel
theorem d_Lw_law_812 : decode code 812 = .ok (.iload 4, 2) := by decide +kernel
theorem d_Lw_law_814 : decode code 814 = .ok (.iconst 2, 1) := by decide +kernel
theorem d_Lw_law_815 : decode code 815 = .ok (.iadd, 1) := by decide +kernel
theorem d_Lw_law_816 : decode code 816 = .ok (.iaload, 1) := by decide +kernel
theorem d_Lw_law_817 : decode code 817 = .ok (.ifCond .eq 7, 3) := by decide +kernel
theorem d_Lw_law_820 : decode code 820 = .ok (.iconst 1, 1) := by decide +kernel
theorem d_Lw_law_821 : decode code 821 = .ok (.goto 4, 3) := by decide +kernel
theorem d_Lw_law_824 : decode code 824 = .ok (.iconst 0, 1) := by decide +kernel
theorem d_Lw_law_825 : decode code 825 = .ok (.invokevirtual 136, 3) := by decide +kernel
theorem d_Lw_law_828 : decode code 828 = .ok (.istore 6, 2) := by decide +kernel
theorem d_Lw_law_830 : decode code 830 = .ok (.aload_n 2, 1) := by decide +kernel
theorem d_Lw_law_831 : decode code 831 = .ok (.invokevirtual 90, 3) := by decide +kernel
theorem d_Lw_law_834 : decode code 834 = .ok (.iload 5, 2) := by decide +kernel
theorem d_Lw_law_836 : decode code 836 = .ok (.if_icmp .eq 5, 3) := by decide +kernel
theorem d_Lw_law_839 : decode code 839 = .ok (.iconst 0, 1) := by decide +kernel
theorem d_Lw_law_840 : decode code 840 = .ok (.ireturn, 1) := by decide +kernel
theorem d_Lw_law_841 : decode code 841 = .ok (.iload 5, 2) := by decide +kernel
theorem d_Lw_law_843 : decode code 843 = .ok (.ifCond .ne 15, 3) := by decide +kernel
theorem d_Lw_law_846 : decode code 846 = .ok (.aload_n 3, 1) := by decide +kernel
theorem d_Lw_law_847 : decode code 847 = .ok (.iconst 0, 1) := by decide +kernel
theorem d_Lw_law_848 : decode code 848 = .ok (.laload, 1) := by decide +kernel
theorem d_Lw_law_849 : decode code 849 = .ok (.iload 6, 2) := by decide +kernel
theorem d_Lw_law_851 : decode code 851 = .ok (.i2l, 1) := by decide +kernel
theorem d_Lw_law_852 : decode code 852 = .ok (.lcmp, 1) := by decide +kernel
theorem d_Lw_law_853 : decode code 853 = .ok (.ifCond .eq 5, 3) := by decide +kernel
theorem d_Lw_law_856 : decode code 856 = .ok (.iconst 0, 1) := by decide +kernel
theorem d_Lw_law_857 : decode code 857 = .ok (.ireturn, 1) := by decide +kernel
theorem d_Lw_law_858 : decode code 858 = .ok (.goto 351, 3) := by decide +kernel
theorem d_Lw_law_861 : decode code 861 = .ok (.aload_n 1, 1) := by decide +kernel
theorem d_Lw_law_862 : decode code 862 = .ok (.aload_n 0, 1) := by decide +kernel
theorem d_Lw_law_863 : decode code 863 = .ok (.iload 4, 2) := by decide +kernel
theorem d_Lw_law_865 : decode code 865 = .ok (.iconst 1, 1) := by decide +kernel
theorem d_Lw_law_866 : decode code 866 = .ok (.iadd, 1) := by decide +kernel
theorem d_Lw_law_867 : decode code 867 = .ok (.iaload, 1) := by decide +kernel
theorem d_Lw_law_868 : decode code 868 = .ok (.aload_n 3, 1) := by decide +kernel
theorem d_Lw_law_869 : decode code 869 = .ok (.invokestatic 137, 3) := by decide +kernel
theorem d_Lw_law_872 : decode code 872 = .ok (.istore 5, 2) := by decide +kernel
theorem d_Lw_law_874 : decode code 874 = .ok (.aload_n 2, 1) := by decide +kernel
theorem d_Lw_law_875 : decode code 875 = .ok (.aload_n 0, 1) := by decide +kernel
theorem d_Lw_law_876 : decode code 876 = .ok (.iload 4, 2) := by decide +kernel
theorem d_Lw_law_878 : decode code 878 = .ok (.iconst 1, 1) := by decide +kernel
theorem d_Lw_law_879 : decode code 879 = .ok (.iadd, 1) := by decide +kernel
theorem d_Lw_law_880 : decode code 880 = .ok (.iaload, 1) := by decide +kernel
theorem d_Lw_law_881 : decode code 881 = .ok (.invokevirtual 139, 3) := by decide +kernel
theorem d_Lw_law_884 : decode code 884 = .ok (.istore 6, 2) := by decide +kernel
theorem d_Lw_law_886 : decode code 886 = .ok (.aload_n 2, 1) := by decide +kernel
theorem d_Lw_law_887 : decode code 887 = .ok (.invokevirtual 90, 3) := by decide +kernel
theorem d_Lw_law_890 : decode code 890 = .ok (.iload 5, 2) := by decide +kernel
theorem d_Lw_law_892 : decode code 892 = .ok (.if_icmp .eq 5, 3) := by decide +kernel
theorem d_Lw_law_895 : decode code 895 = .ok (.iconst 0, 1) := by decide +kernel
theorem d_Lw_law_896 : decode code 896 = .ok (.ireturn, 1) := by decide +kernel
theorem d_Lw_law_897 : decode code 897 = .ok (.iload 5, 2) := by decide +kernel
theorem d_Lw_law_899 : decode code 899 = .ok (.ifCond .ne 15, 3) := by decide +kernel
theorem d_Lw_law_902 : decode code 902 = .ok (.aload_n 3, 1) := by decide +kernel
theorem d_Lw_law_903 : decode code 903 = .ok (.iconst 0, 1) := by decide +kernel
theorem d_Lw_law_904 : decode code 904 = .ok (.laload, 1) := by decide +kernel
theorem d_Lw_law_905 : decode code 905 = .ok (.iload 6, 2) := by decide +kernel
theorem d_Lw_law_907 : decode code 907 = .ok (.i2l, 1) := by decide +kernel
theorem d_Lw_law_908 : decode code 908 = .ok (.lcmp, 1) := by decide +kernel
theorem d_Lw_law_909 : decode code 909 = .ok (.ifCond .eq 5, 3) := by decide +kernel
theorem d_Lw_law_912 : decode code 912 = .ok (.iconst 0, 1) := by decide +kernel
theorem d_Lw_law_913 : decode code 913 = .ok (.ireturn, 1) := by decide +kernel
theorem d_Lw_law_914 : decode code 914 = .ok (.goto 295, 3) := by decide +kernel
theorem d_Lw_law_917 : decode code 917 = .ok (.aload_n 1, 1) := by decide +kernel
theorem d_Lw_law_918 : decode code 918 = .ok (.aload_n 0, 1) := by decide +kernel
theorem d_Lw_law_919 : decode code 919 = .ok (.iload 4, 2) := by decide +kernel
theorem d_Lw_law_921 : decode code 921 = .ok (.iconst 1, 1) := by decide +kernel
theorem d_Lw_law_922 : decode code 922 = .ok (.iadd, 1) := by decide +kernel
theorem d_Lw_law_923 : decode code 923 = .ok (.iaload, 1) := by decide +kernel
theorem d_Lw_law_924 : decode code 924 = .ok (.aload_n 0, 1) := by decide +kernel
theorem d_Lw_law_925 : decode code 925 = .ok (.iload 4, 2) := by decide +kernel
theorem d_Lw_law_927 : decode code 927 = .ok (.iconst 2, 1) := by decide +kernel
theorem d_Lw_law_928 : decode code 928 = .ok (.iadd, 1) := by decide +kernel
theorem d_Lw_law_929 : decode code 929 = .ok (.iaload, 1) := by decide +kernel
theorem d_Lw_law_930 : decode code 930 = .ok (.aload_n 3, 1) := by decide +kernel
theorem d_Lw_law_931 : decode code 931 = .ok (.invokestatic 140, 3) := by decide +kernel
theorem d_Lw_law_934 : decode code 934 = .ok (.istore 5, 2) := by decide +kernel
theorem d_Lw_law_936 : decode code 936 = .ok (.aload_n 2, 1) := by decide +kernel
theorem d_Lw_law_937 : decode code 937 = .ok (.aload_n 0, 1) := by decide +kernel
theorem d_Lw_law_938 : decode code 938 = .ok (.iload 4, 2) := by decide +kernel
theorem d_Lw_law_940 : decode code 940 = .ok (.iconst 1, 1) := by decide +kernel
theorem d_Lw_law_941 : decode code 941 = .ok (.iadd, 1) := by decide +kernel
theorem d_Lw_law_942 : decode code 942 = .ok (.iaload, 1) := by decide +kernel
theorem d_Lw_law_943 : decode code 943 = .ok (.aload_n 0, 1) := by decide +kernel
theorem d_Lw_law_944 : decode code 944 = .ok (.iload 4, 2) := by decide +kernel
theorem d_Lw_law_946 : decode code 946 = .ok (.iconst 2, 1) := by decide +kernel
theorem d_Lw_law_947 : decode code 947 = .ok (.iadd, 1) := by decide +kernel
theorem d_Lw_law_948 : decode code 948 = .ok (.iaload, 1) := by decide +kernel
theorem d_Lw_law_949 : decode code 949 = .ok (.invokevirtual 142, 3) := by decide +kernel
theorem d_Lw_law_952 : decode code 952 = .ok (.istore 6, 2) := by decide +kernel
theorem d_Lw_law_954 : decode code 954 = .ok (.aload_n 2, 1) := by decide +kernel
theorem d_Lw_law_955 : decode code 955 = .ok (.invokevirtual 90, 3) := by decide +kernel
theorem d_Lw_law_958 : decode code 958 = .ok (.iload 5, 2) := by decide +kernel
theorem d_Lw_law_960 : decode code 960 = .ok (.if_icmp .eq 5, 3) := by decide +kernel
theorem d_Lw_law_963 : decode code 963 = .ok (.iconst 0, 1) := by decide +kernel
theorem d_Lw_law_964 : decode code 964 = .ok (.ireturn, 1) := by decide +kernel
theorem d_Lw_law_965 : decode code 965 = .ok (.iload 5, 2) := by decide +kernel
theorem d_Lw_law_967 : decode code 967 = .ok (.ifCond .ne 15, 3) := by decide +kernel
theorem d_Lw_law_970 : decode code 970 = .ok (.aload_n 3, 1) := by decide +kernel
theorem d_Lw_law_971 : decode code 971 = .ok (.iconst 0, 1) := by decide +kernel
theorem d_Lw_law_972 : decode code 972 = .ok (.laload, 1) := by decide +kernel
theorem d_Lw_law_973 : decode code 973 = .ok (.iload 6, 2) := by decide +kernel
theorem d_Lw_law_975 : decode code 975 = .ok (.i2l, 1) := by decide +kernel
theorem d_Lw_law_976 : decode code 976 = .ok (.lcmp, 1) := by decide +kernel
theorem d_Lw_law_977 : decode code 977 = .ok (.ifCond .eq 5, 3) := by decide +kernel
theorem d_Lw_law_980 : decode code 980 = .ok (.iconst 0, 1) := by decide +kernel
theorem d_Lw_law_981 : decode code 981 = .ok (.ireturn, 1) := by decide +kernel
theorem d_Lw_law_982 : decode code 982 = .ok (.goto 227, 3) := by decide +kernel
theorem d_Lw_law_985 : decode code 985 = .ok (.aload_n 1, 1) := by decide +kernel
theorem d_Lw_law_986 : decode code 986 = .ok (.aload_n 3, 1) := by decide +kernel
theorem d_Lw_law_987 : decode code 987 = .ok (.invokestatic 143, 3) := by decide +kernel
theorem d_Lw_law_990 : decode code 990 = .ok (.istore 5, 2) := by decide +kernel
theorem d_Lw_law_992 : decode code 992 = .ok (.aload_n 2, 1) := by decide +kernel
theorem d_Lw_law_993 : decode code 993 = .ok (.invokevirtual 145, 3) := by decide +kernel
theorem d_Lw_law_996 : decode code 996 = .ok (.lstore 6, 2) := by decide +kernel
theorem d_Lw_law_998 : decode code 998 = .ok (.aload_n 2, 1) := by decide +kernel
theorem d_Lw_law_999 : decode code 999 = .ok (.invokevirtual 90, 3) := by decide +kernel
theorem d_Lw_law_1002 : decode code 1002 = .ok (.iload 5, 2) := by decide +kernel
theorem d_Lw_law_1004 : decode code 1004 = .ok (.if_icmp .eq 5, 3) := by decide +kernel
theorem d_Lw_law_1007 : decode code 1007 = .ok (.iconst 0, 1) := by decide +kernel
theorem d_Lw_law_1008 : decode code 1008 = .ok (.ireturn, 1) := by decide +kernel
theorem d_Lw_law_1009 : decode code 1009 = .ok (.iload 5, 2) := by decide +kernel
theorem d_Lw_law_1011 : decode code 1011 = .ok (.ifCond .ne 14, 3) := by decide +kernel
theorem d_Lw_law_1014 : decode code 1014 = .ok (.aload_n 3, 1) := by decide +kernel
theorem d_Lw_law_1015 : decode code 1015 = .ok (.iconst 0, 1) := by decide +kernel
theorem d_Lw_law_1016 : decode code 1016 = .ok (.laload, 1) := by decide +kernel
theorem d_Lw_law_1017 : decode code 1017 = .ok (.lload 6, 2) := by decide +kernel
theorem d_Lw_law_1019 : decode code 1019 = .ok (.lcmp, 1) := by decide +kernel
theorem d_Lw_law_1020 : decode code 1020 = .ok (.ifCond .eq 5, 3) := by decide +kernel
theorem d_Lw_law_1023 : decode code 1023 = .ok (.iconst 0, 1) := by decide +kernel
theorem d_Lw_law_1024 : decode code 1024 = .ok (.ireturn, 1) := by decide +kernel
theorem d_Lw_law_1025 : decode code 1025 = .ok (.goto 184, 3) := by decide +kernel
theorem d_Lw_law_1028 : decode code 1028 = .ok (.aload_n 1, 1) := by decide +kernel
theorem d_Lw_law_1029 : decode code 1029 = .ok (.aload_n 0, 1) := by decide +kernel
theorem d_Lw_law_1030 : decode code 1030 = .ok (.iload 4, 2) := by decide +kernel
theorem d_Lw_law_1032 : decode code 1032 = .ok (.iconst 1, 1) := by decide +kernel
theorem d_Lw_law_1033 : decode code 1033 = .ok (.iadd, 1) := by decide +kernel
theorem d_Lw_law_1034 : decode code 1034 = .ok (.iaload, 1) := by decide +kernel
theorem d_Lw_law_1035 : decode code 1035 = .ok (.aload_n 3, 1) := by decide +kernel
theorem d_Lw_law_1036 : decode code 1036 = .ok (.invokestatic 146, 3) := by decide +kernel
theorem d_Lw_law_1039 : decode code 1039 = .ok (.istore 5, 2) := by decide +kernel
theorem d_Lw_law_1041 : decode code 1041 = .ok (.aload_n 2, 1) := by decide +kernel
theorem d_Lw_law_1042 : decode code 1042 = .ok (.aload_n 0, 1) := by decide +kernel
theorem d_Lw_law_1043 : decode code 1043 = .ok (.iload 4, 2) := by decide +kernel
theorem d_Lw_law_1045 : decode code 1045 = .ok (.iconst 1, 1) := by decide +kernel
theorem d_Lw_law_1046 : decode code 1046 = .ok (.iadd, 1) := by decide +kernel
theorem d_Lw_law_1047 : decode code 1047 = .ok (.iaload, 1) := by decide +kernel
theorem d_Lw_law_1048 : decode code 1048 = .ok (.invokevirtual 148, 3) := by decide +kernel
theorem d_Lw_law_1051 : decode code 1051 = .ok (.istore 6, 2) := by decide +kernel
theorem d_Lw_law_1053 : decode code 1053 = .ok (.aload_n 2, 1) := by decide +kernel
theorem d_Lw_law_1054 : decode code 1054 = .ok (.invokevirtual 90, 3) := by decide +kernel
theorem d_Lw_law_1057 : decode code 1057 = .ok (.iload 5, 2) := by decide +kernel
theorem d_Lw_law_1059 : decode code 1059 = .ok (.if_icmp .eq 5, 3) := by decide +kernel
theorem d_Lw_law_1062 : decode code 1062 = .ok (.iconst 0, 1) := by decide +kernel
theorem d_Lw_law_1063 : decode code 1063 = .ok (.ireturn, 1) := by decide +kernel
theorem d_Lw_law_1064 : decode code 1064 = .ok (.iload 5, 2) := by decide +kernel
theorem d_Lw_law_1066 : decode code 1066 = .ok (.ifCond .ne 15, 3) := by decide +kernel
theorem d_Lw_law_1069 : decode code 1069 = .ok (.aload_n 3, 1) := by decide +kernel
theorem d_Lw_law_1070 : decode code 1070 = .ok (.iconst 0, 1) := by decide +kernel
theorem d_Lw_law_1071 : decode code 1071 = .ok (.laload, 1) := by decide +kernel
theorem d_Lw_law_1072 : decode code 1072 = .ok (.iload 6, 2) := by decide +kernel
theorem d_Lw_law_1074 : decode code 1074 = .ok (.i2l, 1) := by decide +kernel
theorem d_Lw_law_1075 : decode code 1075 = .ok (.lcmp, 1) := by decide +kernel
theorem d_Lw_law_1076 : decode code 1076 = .ok (.ifCond .eq 5, 3) := by decide +kernel
theorem d_Lw_law_1079 : decode code 1079 = .ok (.iconst 0, 1) := by decide +kernel
theorem d_Lw_law_1080 : decode code 1080 = .ok (.ireturn, 1) := by decide +kernel
theorem d_Lw_law_1081 : decode code 1081 = .ok (.goto 128, 3) := by decide +kernel
theorem d_Lw_law_1084 : decode code 1084 = .ok (.aload_n 1, 1) := by decide +kernel
theorem d_Lw_law_1085 : decode code 1085 = .ok (.aload_n 0, 1) := by decide +kernel
theorem d_Lw_law_1086 : decode code 1086 = .ok (.iload 4, 2) := by decide +kernel
theorem d_Lw_law_1088 : decode code 1088 = .ok (.iconst 1, 1) := by decide +kernel
theorem d_Lw_law_1089 : decode code 1089 = .ok (.iadd, 1) := by decide +kernel
theorem d_Lw_law_1090 : decode code 1090 = .ok (.iaload, 1) := by decide +kernel
theorem d_Lw_law_1091 : decode code 1091 = .ok (.aload_n 3, 1) := by decide +kernel
theorem d_Lw_law_1092 : decode code 1092 = .ok (.invokestatic 149, 3) := by decide +kernel
theorem d_Lw_law_1095 : decode code 1095 = .ok (.istore 5, 2) := by decide +kernel
theorem d_Lw_law_1097 : decode code 1097 = .ok (.aload_n 2, 1) := by decide +kernel
theorem d_Lw_law_1098 : decode code 1098 = .ok (.aload_n 0, 1) := by decide +kernel
theorem d_Lw_law_1099 : decode code 1099 = .ok (.iload 4, 2) := by decide +kernel
theorem d_Lw_law_1101 : decode code 1101 = .ok (.iconst 1, 1) := by decide +kernel
theorem d_Lw_law_1102 : decode code 1102 = .ok (.iadd, 1) := by decide +kernel
theorem d_Lw_law_1103 : decode code 1103 = .ok (.iaload, 1) := by decide +kernel
theorem d_Lw_law_1104 : decode code 1104 = .ok (.invokevirtual 151, 3) := by decide +kernel
theorem d_Lw_law_1107 : decode code 1107 = .ok (.istore 6, 2) := by decide +kernel
theorem d_Lw_law_1109 : decode code 1109 = .ok (.aload_n 2, 1) := by decide +kernel
theorem d_Lw_law_1110 : decode code 1110 = .ok (.invokevirtual 90, 3) := by decide +kernel
theorem d_Lw_law_1113 : decode code 1113 = .ok (.iload 5, 2) := by decide +kernel
theorem d_Lw_law_1115 : decode code 1115 = .ok (.if_icmp .eq 5, 3) := by decide +kernel
theorem d_Lw_law_1118 : decode code 1118 = .ok (.iconst 0, 1) := by decide +kernel
theorem d_Lw_law_1119 : decode code 1119 = .ok (.ireturn, 1) := by decide +kernel
theorem d_Lw_law_1120 : decode code 1120 = .ok (.iload 5, 2) := by decide +kernel
theorem d_Lw_law_1122 : decode code 1122 = .ok (.ifCond .ne 15, 3) := by decide +kernel
theorem d_Lw_law_1125 : decode code 1125 = .ok (.aload_n 3, 1) := by decide +kernel
theorem d_Lw_law_1126 : decode code 1126 = .ok (.iconst 0, 1) := by decide +kernel
theorem d_Lw_law_1127 : decode code 1127 = .ok (.laload, 1) := by decide +kernel
theorem d_Lw_law_1128 : decode code 1128 = .ok (.iload 6, 2) := by decide +kernel
theorem d_Lw_law_1130 : decode code 1130 = .ok (.i2l, 1) := by decide +kernel
theorem d_Lw_law_1131 : decode code 1131 = .ok (.lcmp, 1) := by decide +kernel
theorem d_Lw_law_1132 : decode code 1132 = .ok (.ifCond .eq 5, 3) := by decide +kernel
theorem d_Lw_law_1135 : decode code 1135 = .ok (.iconst 0, 1) := by decide +kernel
theorem d_Lw_law_1136 : decode code 1136 = .ok (.ireturn, 1) := by decide +kernel
theorem d_Lw_law_1137 : decode code 1137 = .ok (.goto 72, 3) := by decide +kernel
theorem d_Lw_law_1140 : decode code 1140 = .ok (.aload_n 1, 1) := by decide +kernel
theorem d_Lw_law_1141 : decode code 1141 = .ok (.invokevirtual 152, 3) := by decide +kernel
theorem d_Lw_law_1144 : decode code 1144 = .ok (.aload_n 2, 1) := by decide +kernel
theorem d_Lw_law_1145 : decode code 1145 = .ok (.invokevirtual 155, 3) := by decide +kernel
theorem d_Lw_law_1148 : decode code 1148 = .ok (.if_icmp .eq 61, 3) := by decide +kernel
theorem d_Lw_law_1151 : decode code 1151 = .ok (.iconst 0, 1) := by decide +kernel
theorem d_Lw_law_1152 : decode code 1152 = .ok (.ireturn, 1) := by decide +kernel
theorem d_Lw_law_1153 : decode code 1153 = .ok (.aload_n 1, 1) := by decide +kernel
theorem d_Lw_law_1154 : decode code 1154 = .ok (.aload_n 0, 1) := by decide +kernel
theorem d_Lw_law_1155 : decode code 1155 = .ok (.iload 4, 2) := by decide +kernel
theorem d_Lw_law_1157 : decode code 1157 = .ok (.iconst 1, 1) := by decide +kernel
theorem d_Lw_law_1158 : decode code 1158 = .ok (.iadd, 1) := by decide +kernel
theorem d_Lw_law_1159 : decode code 1159 = .ok (.iaload, 1) := by decide +kernel
theorem d_Lw_law_1160 : decode code 1160 = .ok (.aload_n 3, 1) := by decide +kernel
theorem d_Lw_law_1161 : decode code 1161 = .ok (.invokestatic 156, 3) := by decide +kernel
theorem d_Lw_law_1164 : decode code 1164 = .ok (.istore 5, 2) := by decide +kernel
theorem d_Lw_law_1166 : decode code 1166 = .ok (.aload_n 2, 1) := by decide +kernel
theorem d_Lw_law_1167 : decode code 1167 = .ok (.aload_n 0, 1) := by decide +kernel
theorem d_Lw_law_1168 : decode code 1168 = .ok (.iload 4, 2) := by decide +kernel
theorem d_Lw_law_1170 : decode code 1170 = .ok (.iconst 1, 1) := by decide +kernel
theorem d_Lw_law_1171 : decode code 1171 = .ok (.iadd, 1) := by decide +kernel
theorem d_Lw_law_1172 : decode code 1172 = .ok (.iaload, 1) := by decide +kernel
theorem d_Lw_law_1173 : decode code 1173 = .ok (.invokevirtual 158, 3) := by decide +kernel
theorem d_Lw_law_1176 : decode code 1176 = .ok (.istore 6, 2) := by decide +kernel
theorem d_Lw_law_1178 : decode code 1178 = .ok (.aload_n 2, 1) := by decide +kernel
theorem d_Lw_law_1179 : decode code 1179 = .ok (.invokevirtual 90, 3) := by decide +kernel
theorem d_Lw_law_1182 : decode code 1182 = .ok (.iload 5, 2) := by decide +kernel
theorem d_Lw_law_1184 : decode code 1184 = .ok (.if_icmp .eq 5, 3) := by decide +kernel
theorem d_Lw_law_1187 : decode code 1187 = .ok (.iconst 0, 1) := by decide +kernel
theorem d_Lw_law_1188 : decode code 1188 = .ok (.ireturn, 1) := by decide +kernel
theorem d_Lw_law_1189 : decode code 1189 = .ok (.iload 5, 2) := by decide +kernel
theorem d_Lw_law_1191 : decode code 1191 = .ok (.ifCond .ne 15, 3) := by decide +kernel
theorem d_Lw_law_1194 : decode code 1194 = .ok (.aload_n 3, 1) := by decide +kernel
theorem d_Lw_law_1195 : decode code 1195 = .ok (.iconst 0, 1) := by decide +kernel
theorem d_Lw_law_1196 : decode code 1196 = .ok (.laload, 1) := by decide +kernel
theorem d_Lw_law_1197 : decode code 1197 = .ok (.iload 6, 2) := by decide +kernel
theorem d_Lw_law_1199 : decode code 1199 = .ok (.i2l, 1) := by decide +kernel
theorem d_Lw_law_1200 : decode code 1200 = .ok (.lcmp, 1) := by decide +kernel
theorem d_Lw_law_1201 : decode code 1201 = .ok (.ifCond .eq 5, 3) := by decide +kernel
theorem d_Lw_law_1204 : decode code 1204 = .ok (.iconst 0, 1) := by decide +kernel
theorem d_Lw_law_1205 : decode code 1205 = .ok (.ireturn, 1) := by decide +kernel
theorem d_Lw_law_1206 : decode code 1206 = .ok (.goto 3, 3) := by decide +kernel
theorem d_Lw_law_1209 : decode code 1209 = .ok (.iinc 4 5, 3) := by decide +kernel
theorem d_Lw_law_1212 : decode code 1212 = .ok (.goto (-1189), 3) := by decide +kernel
theorem d_Lw_law_1215 : decode code 1215 = .ok (.iconst 1, 1) := by decide +kernel
theorem d_Lw_law_1216 : decode code 1216 = .ok (.ireturn, 1) := by decide +kernel
