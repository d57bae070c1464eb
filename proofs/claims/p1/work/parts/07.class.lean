theorem d_PC_people_0 : decode prog_1_method_2_code 0 = .ok (.iload_n 1, 1) := by decide +kernel
theorem d_PC_people_1 : decode prog_1_method_2_code 1 = .ok (.iconst 2, 1) := by decide +kernel
theorem d_PC_people_2 : decode prog_1_method_2_code 2 = .ok (.bipush 7, 2) := by decide +kernel
theorem d_PC_people_4 : decode prog_1_method_2_code 4 = .ok (.invokestatic 65, 3) := by decide +kernel
theorem d_PC_people_7 : decode prog_1_method_2_code 7 = .ok (.ifCond .ne 6, 3) := by decide +kernel
theorem d_PC_people_13 : decode prog_1_method_2_code 13 = .ok (.aload_n 0, 1) := by decide +kernel
theorem d_PC_people_14 : decode prog_1_method_2_code 14 = .ok (.getfield 12, 3) := by decide +kernel
theorem d_PC_people_17 : decode prog_1_method_2_code 17 = .ok (.iload_n 1, 1) := by decide +kernel
theorem d_PC_people_18 : decode prog_1_method_2_code 18 = .ok (.invokevirtual 61, 3) := by decide +kernel
theorem d_PC_people_21 : decode prog_1_method_2_code 21 = .ok (.aload_n 0, 1) := by decide +kernel
theorem d_PC_people_22 : decode prog_1_method_2_code 22 = .ok (.getfield 19, 3) := by decide +kernel
theorem d_PC_people_25 : decode prog_1_method_2_code 25 = .ok (.iconst 0, 1) := by decide +kernel
theorem d_PC_people_26 : decode prog_1_method_2_code 26 = .ok (.putfield 69, 3) := by decide +kernel
theorem d_PC_people_29 : decode prog_1_method_2_code 29 = .ok (.aload_n 0, 1) := by decide +kernel
theorem d_PC_people_30 : decode prog_1_method_2_code 30 = .ok (.getfield 26, 3) := by decide +kernel
theorem d_PC_people_33 : decode prog_1_method_2_code 33 = .ok (.invokevirtual 72, 3) := by decide +kernel
theorem d_PC_people_36 : decode prog_1_method_2_code 36 = .ok (.aload_n 0, 1) := by decide +kernel
theorem d_PC_people_37 : decode prog_1_method_2_code 37 = .ok (.getfield 47, 3) := by decide +kernel
theorem d_PC_people_40 : decode prog_1_method_2_code 40 = .ok (.iconst 0, 1) := by decide +kernel
theorem d_PC_people_41 : decode prog_1_method_2_code 41 = .ok (.putfield 74, 3) := by decide +kernel
theorem d_PC_people_44 : decode prog_1_method_2_code 44 = .ok (.aload_n 0, 1) := by decide +kernel
theorem d_PC_people_45 : decode prog_1_method_2_code 45 = .ok (.iconst 0, 1) := by decide +kernel
theorem d_PC_people_46 : decode prog_1_method_2_code 46 = .ok (.putfield 51, 3) := by decide +kernel
theorem d_PC_people_49 : decode prog_1_method_2_code 49 = .ok (.iconst 1, 1) := by decide +kernel
theorem d_PC_people_50 : decode prog_1_method_2_code 50 = .ok (.ireturn, 1) := by decide +kernel
theorem d_PC_people_10 : decode prog_1_method_2_code 10 = .ok (.bipush (-2), 2) := by decide +kernel
theorem d_PC_people_12 : decode prog_1_method_2_code 12 = .ok (.ireturn, 1) := by decide +kernel
theorem d_PC_pair_0 : decode prog_1_method_3_code 0 = .ok (.aload_n 0, 1) := by decide +kernel
theorem d_PC_pair_1 : decode prog_1_method_3_code 1 = .ok (.getfield 12, 3) := by decide +kernel
theorem d_PC_pair_4 : decode prog_1_method_3_code 4 = .ok (.iload_n 1, 1) := by decide +kernel
theorem d_PC_pair_5 : decode prog_1_method_3_code 5 = .ok (.invokevirtual 77, 3) := by decide +kernel
theorem d_PC_pair_8 : decode prog_1_method_3_code 8 = .ok (.ifCond .eq 19, 3) := by decide +kernel
theorem d_PC_pair_27 : decode prog_1_method_3_code 27 = .ok (.bipush (-2), 2) := by decide +kernel
theorem d_PC_pair_29 : decode prog_1_method_3_code 29 = .ok (.ireturn, 1) := by decide +kernel
theorem d_PC_pair_11 : decode prog_1_method_3_code 11 = .ok (.aload_n 0, 1) := by decide +kernel
theorem d_PC_pair_12 : decode prog_1_method_3_code 12 = .ok (.getfield 12, 3) := by decide +kernel
theorem d_PC_pair_15 : decode prog_1_method_3_code 15 = .ok (.iload_n 2, 1) := by decide +kernel
theorem d_PC_pair_16 : decode prog_1_method_3_code 16 = .ok (.invokevirtual 77, 3) := by decide +kernel
theorem d_PC_pair_19 : decode prog_1_method_3_code 19 = .ok (.ifCond .eq 8, 3) := by decide +kernel
theorem d_PC_pair_22 : decode prog_1_method_3_code 22 = .ok (.iload_n 1, 1) := by decide +kernel
theorem d_PC_pair_23 : decode prog_1_method_3_code 23 = .ok (.iload_n 2, 1) := by decide +kernel
theorem d_PC_pair_24 : decode prog_1_method_3_code 24 = .ok (.if_icmp .ne 6, 3) := by decide +kernel
theorem d_PC_pair_30 : decode prog_1_method_3_code 30 = .ok (.iload_n 3, 1) := by decide +kernel
theorem d_PC_pair_31 : decode prog_1_method_3_code 31 = .ok (.iconst 0, 1) := by decide +kernel
theorem d_PC_pair_32 : decode prog_1_method_3_code 32 = .ok (.ldc 81, 2) := by decide +kernel
theorem d_PC_pair_34 : decode prog_1_method_3_code 34 = .ok (.invokestatic 65, 3) := by decide +kernel
theorem d_PC_pair_37 : decode prog_1_method_3_code 37 = .ok (.ifCond .eq 14, 3) := by decide +kernel
theorem d_PC_pair_51 : decode prog_1_method_3_code 51 = .ok (.bipush (-2), 2) := by decide +kernel
theorem d_PC_pair_53 : decode prog_1_method_3_code 53 = .ok (.ireturn, 1) := by decide +kernel
theorem d_PC_pair_40 : decode prog_1_method_3_code 40 = .ok (.iload 4, 2) := by decide +kernel
theorem d_PC_pair_42 : decode prog_1_method_3_code 42 = .ok (.iconst 0, 1) := by decide +kernel
theorem d_PC_pair_43 : decode prog_1_method_3_code 43 = .ok (.ldc 81, 2) := by decide +kernel
theorem d_PC_pair_45 : decode prog_1_method_3_code 45 = .ok (.invokestatic 65, 3) := by decide +kernel
theorem d_PC_pair_48 : decode prog_1_method_3_code 48 = .ok (.ifCond .ne 6, 3) := by decide +kernel
theorem d_PC_pair_54 : decode prog_1_method_3_code 54 = .ok (.aload_n 0, 1) := by decide +kernel
theorem d_PC_pair_55 : decode prog_1_method_3_code 55 = .ok (.getfield 19, 3) := by decide +kernel
theorem d_PC_pair_58 : decode prog_1_method_3_code 58 = .ok (.getfield 69, 3) := by decide +kernel
theorem d_PC_pair_61 : decode prog_1_method_3_code 61 = .ok (.bipush 12, 2) := by decide +kernel
theorem d_PC_pair_63 : decode prog_1_method_3_code 63 = .ok (.if_icmp .lt 6, 3) := by decide +kernel
theorem d_PC_pair_69 : decode prog_1_method_3_code 69 = .ok (.aload_n 0, 1) := by decide +kernel
theorem d_PC_pair_70 : decode prog_1_method_3_code 70 = .ok (.getfield 19, 3) := by decide +kernel
theorem d_PC_pair_73 : decode prog_1_method_3_code 73 = .ok (.iload_n 1, 1) := by decide +kernel
theorem d_PC_pair_74 : decode prog_1_method_3_code 74 = .ok (.iload_n 2, 1) := by decide +kernel
theorem d_PC_pair_75 : decode prog_1_method_3_code 75 = .ok (.iload_n 3, 1) := by decide +kernel
theorem d_PC_pair_76 : decode prog_1_method_3_code 76 = .ok (.iload 4, 2) := by decide +kernel
theorem d_PC_pair_78 : decode prog_1_method_3_code 78 = .ok (.invokevirtual 82, 3) := by decide +kernel
theorem d_PC_pair_81 : decode prog_1_method_3_code 81 = .ok (.ireturn, 1) := by decide +kernel
theorem d_PC_fee_0 : decode prog_1_method_4_code 0 = .ok (.aload_n 0, 1) := by decide +kernel
theorem d_PC_fee_1 : decode prog_1_method_4_code 1 = .ok (.getfield 12, 3) := by decide +kernel
theorem d_PC_fee_4 : decode prog_1_method_4_code 4 = .ok (.iload_n 1, 1) := by decide +kernel
theorem d_PC_fee_5 : decode prog_1_method_4_code 5 = .ok (.invokevirtual 77, 3) := by decide +kernel
theorem d_PC_fee_8 : decode prog_1_method_4_code 8 = .ok (.ifCond .eq 23, 3) := by decide +kernel
theorem d_PC_fee_31 : decode prog_1_method_4_code 31 = .ok (.bipush (-2), 2) := by decide +kernel
theorem d_PC_fee_33 : decode prog_1_method_4_code 33 = .ok (.ireturn, 1) := by decide +kernel
theorem d_PC_fee_11 : decode prog_1_method_4_code 11 = .ok (.iload_n 2, 1) := by decide +kernel
theorem d_PC_fee_12 : decode prog_1_method_4_code 12 = .ok (.iconst 0, 1) := by decide +kernel
theorem d_PC_fee_13 : decode prog_1_method_4_code 13 = .ok (.bipush 100, 2) := by decide +kernel
theorem d_PC_fee_15 : decode prog_1_method_4_code 15 = .ok (.invokestatic 65, 3) := by decide +kernel
theorem d_PC_fee_18 : decode prog_1_method_4_code 18 = .ok (.ifCond .eq 13, 3) := by decide +kernel
theorem d_PC_fee_21 : decode prog_1_method_4_code 21 = .ok (.iload_n 3, 1) := by decide +kernel
theorem d_PC_fee_22 : decode prog_1_method_4_code 22 = .ok (.iconst 0, 1) := by decide +kernel
theorem d_PC_fee_23 : decode prog_1_method_4_code 23 = .ok (.bipush 100, 2) := by decide +kernel
theorem d_PC_fee_25 : decode prog_1_method_4_code 25 = .ok (.invokestatic 65, 3) := by decide +kernel
theorem d_PC_fee_28 : decode prog_1_method_4_code 28 = .ok (.ifCond .ne 6, 3) := by decide +kernel
theorem d_PC_fee_34 : decode prog_1_method_4_code 34 = .ok (.aload_n 0, 1) := by decide +kernel
theorem d_PC_fee_35 : decode prog_1_method_4_code 35 = .ok (.getfield 12, 3) := by decide +kernel
theorem d_PC_fee_38 : decode prog_1_method_4_code 38 = .ok (.getfield 86, 3) := by decide +kernel
theorem d_PC_fee_41 : decode prog_1_method_4_code 41 = .ok (.iload_n 1, 1) := by decide +kernel
theorem d_PC_fee_42 : decode prog_1_method_4_code 42 = .ok (.iload_n 2, 1) := by decide +kernel
theorem d_PC_fee_43 : decode prog_1_method_4_code 43 = .ok (.iastore, 1) := by decide +kernel
theorem d_PC_fee_44 : decode prog_1_method_4_code 44 = .ok (.aload_n 0, 1) := by decide +kernel
theorem d_PC_fee_45 : decode prog_1_method_4_code 45 = .ok (.getfield 12, 3) := by decide +kernel
theorem d_PC_fee_48 : decode prog_1_method_4_code 48 = .ok (.getfield 90, 3) := by decide +kernel
theorem d_PC_fee_51 : decode prog_1_method_4_code 51 = .ok (.iload_n 1, 1) := by decide +kernel
theorem d_PC_fee_52 : decode prog_1_method_4_code 52 = .ok (.iload_n 3, 1) := by decide +kernel
theorem d_PC_fee_53 : decode prog_1_method_4_code 53 = .ok (.iastore, 1) := by decide +kernel
theorem d_PC_fee_54 : decode prog_1_method_4_code 54 = .ok (.iconst 1, 1) := by decide +kernel
theorem d_PC_fee_55 : decode prog_1_method_4_code 55 = .ok (.ireturn, 1) := by decide +kernel
theorem d_PC_gap_0 : decode prog_1_method_5_code 0 = .ok (.iload_n 1, 1) := by decide +kernel
theorem d_PC_gap_1 : decode prog_1_method_5_code 1 = .ok (.iconst 1, 1) := by decide +kernel
theorem d_PC_gap_2 : decode prog_1_method_5_code 2 = .ok (.bipush 50, 2) := by decide +kernel
theorem d_PC_gap_4 : decode prog_1_method_5_code 4 = .ok (.invokestatic 65, 3) := by decide +kernel
theorem d_PC_gap_7 : decode prog_1_method_5_code 7 = .ok (.ifCond .ne 6, 3) := by decide +kernel
theorem d_PC_gap_13 : decode prog_1_method_5_code 13 = .ok (.aload_n 0, 1) := by decide +kernel
theorem d_PC_gap_14 : decode prog_1_method_5_code 14 = .ok (.getfield 55, 3) := by decide +kernel
theorem d_PC_gap_17 : decode prog_1_method_5_code 17 = .ok (.istore_n 2, 1) := by decide +kernel
theorem d_PC_gap_18 : decode prog_1_method_5_code 18 = .ok (.aload_n 0, 1) := by decide +kernel
theorem d_PC_gap_19 : decode prog_1_method_5_code 19 = .ok (.iload_n 1, 1) := by decide +kernel
theorem d_PC_gap_20 : decode prog_1_method_5_code 20 = .ok (.putfield 55, 3) := by decide +kernel
theorem d_PC_gap_23 : decode prog_1_method_5_code 23 = .ok (.iload_n 2, 1) := by decide +kernel
theorem d_PC_gap_24 : decode prog_1_method_5_code 24 = .ok (.ireturn, 1) := by decide +kernel
theorem d_PC_gap_10 : decode prog_1_method_5_code 10 = .ok (.bipush (-2), 2) := by decide +kernel
theorem d_PC_gap_12 : decode prog_1_method_5_code 12 = .ok (.ireturn, 1) := by decide +kernel
theorem d_PC_look_0 : decode prog_1_method_6_code 0 = .ok (.iload_n 1, 1) := by decide +kernel
theorem d_PC_look_1 : decode prog_1_method_6_code 1 = .ok (.iconst 1, 1) := by decide +kernel
theorem d_PC_look_2 : decode prog_1_method_6_code 2 = .ok (.bipush 50, 2) := by decide +kernel
theorem d_PC_look_4 : decode prog_1_method_6_code 4 = .ok (.invokestatic 65, 3) := by decide +kernel
theorem d_PC_look_7 : decode prog_1_method_6_code 7 = .ok (.ifCond .ne 6, 3) := by decide +kernel
theorem d_PC_look_13 : decode prog_1_method_6_code 13 = .ok (.aload_n 0, 1) := by decide +kernel
theorem d_PC_look_14 : decode prog_1_method_6_code 14 = .ok (.getfield 58, 3) := by decide +kernel
theorem d_PC_look_17 : decode prog_1_method_6_code 17 = .ok (.istore_n 2, 1) := by decide +kernel
theorem d_PC_look_18 : decode prog_1_method_6_code 18 = .ok (.aload_n 0, 1) := by decide +kernel
theorem d_PC_look_19 : decode prog_1_method_6_code 19 = .ok (.iload_n 1, 1) := by decide +kernel
theorem d_PC_look_20 : decode prog_1_method_6_code 20 = .ok (.putfield 58, 3) := by decide +kernel
theorem d_PC_look_23 : decode prog_1_method_6_code 23 = .ok (.iload_n 2, 1) := by decide +kernel
theorem d_PC_look_24 : decode prog_1_method_6_code 24 = .ok (.ireturn, 1) := by decide +kernel
theorem d_PC_look_10 : decode prog_1_method_6_code 10 = .ok (.bipush (-2), 2) := by decide +kernel
theorem d_PC_look_12 : decode prog_1_method_6_code 12 = .ok (.ireturn, 1) := by decide +kernel
theorem d_PC_away_0 : decode prog_1_method_7_code 0 = .ok (.aload_n 0, 1) := by decide +kernel
theorem d_PC_away_1 : decode prog_1_method_7_code 1 = .ok (.getfield 12, 3) := by decide +kernel
theorem d_PC_away_4 : decode prog_1_method_7_code 4 = .ok (.iload_n 1, 1) := by decide +kernel
theorem d_PC_away_5 : decode prog_1_method_7_code 5 = .ok (.invokevirtual 77, 3) := by decide +kernel
theorem d_PC_away_8 : decode prog_1_method_7_code 8 = .ok (.ifCond .ne 6, 3) := by decide +kernel
theorem d_PC_away_14 : decode prog_1_method_7_code 14 = .ok (.aload_n 0, 1) := by decide +kernel
theorem d_PC_away_15 : decode prog_1_method_7_code 15 = .ok (.getfield 12, 3) := by decide +kernel
theorem d_PC_away_18 : decode prog_1_method_7_code 18 = .ok (.getfield 93, 3) := by decide +kernel
theorem d_PC_away_21 : decode prog_1_method_7_code 21 = .ok (.iload_n 1, 1) := by decide +kernel
theorem d_PC_away_22 : decode prog_1_method_7_code 22 = .ok (.baload, 1) := by decide +kernel
theorem d_PC_away_23 : decode prog_1_method_7_code 23 = .ok (.iload_n 2, 1) := by decide +kernel
theorem d_PC_away_24 : decode prog_1_method_7_code 24 = .ok (.if_icmp .ne 6, 3) := by decide +kernel
theorem d_PC_away_30 : decode prog_1_method_7_code 30 = .ok (.aload_n 0, 1) := by decide +kernel
theorem d_PC_away_31 : decode prog_1_method_7_code 31 = .ok (.getfield 12, 3) := by decide +kernel
theorem d_PC_away_34 : decode prog_1_method_7_code 34 = .ok (.getfield 93, 3) := by decide +kernel
theorem d_PC_away_37 : decode prog_1_method_7_code 37 = .ok (.iload_n 1, 1) := by decide +kernel
theorem d_PC_away_38 : decode prog_1_method_7_code 38 = .ok (.iload_n 2, 1) := by decide +kernel
theorem d_PC_away_39 : decode prog_1_method_7_code 39 = .ok (.bastore, 1) := by decide +kernel
theorem d_PC_away_40 : decode prog_1_method_7_code 40 = .ok (.iload_n 2, 1) := by decide +kernel
theorem d_PC_away_41 : decode prog_1_method_7_code 41 = .ok (.ifCond .eq 5, 3) := by decide +kernel
theorem d_PC_away_44 : decode prog_1_method_7_code 44 = .ok (.iconst 0, 1) := by decide +kernel
theorem d_PC_away_45 : decode prog_1_method_7_code 45 = .ok (.ireturn, 1) := by decide +kernel
theorem d_PC_away_27 : decode prog_1_method_7_code 27 = .ok (.bipush (-3), 2) := by decide +kernel
theorem d_PC_away_29 : decode prog_1_method_7_code 29 = .ok (.ireturn, 1) := by decide +kernel
theorem d_PC_away_11 : decode prog_1_method_7_code 11 = .ok (.bipush (-2), 2) := by decide +kernel
theorem d_PC_away_13 : decode prog_1_method_7_code 13 = .ok (.ireturn, 1) := by decide +kernel
theorem d_PC_best_0 : decode prog_1_method_8_code 0 = .ok (.aload_n 0, 1) := by decide +kernel
theorem d_PC_best_1 : decode prog_1_method_8_code 1 = .ok (.iload_n 1, 1) := by decide +kernel
theorem d_PC_best_2 : decode prog_1_method_8_code 2 = .ok (.iload_n 2, 1) := by decide +kernel
theorem d_PC_best_3 : decode prog_1_method_8_code 3 = .ok (.iload_n 3, 1) := by decide +kernel
theorem d_PC_best_4 : decode prog_1_method_8_code 4 = .ok (.invokevirtual 105, 3) := by decide +kernel
theorem d_PC_best_7 : decode prog_1_method_8_code 7 = .ok (.ifCond .ne 6, 3) := by decide +kernel
theorem d_PC_best_13 : decode prog_1_method_8_code 13 = .ok (.aload_n 0, 1) := by decide +kernel
theorem d_PC_best_14 : decode prog_1_method_8_code 14 = .ok (.iload_n 1, 1) := by decide +kernel
theorem d_PC_best_15 : decode prog_1_method_8_code 15 = .ok (.iload_n 2, 1) := by decide +kernel
theorem d_PC_best_16 : decode prog_1_method_8_code 16 = .ok (.iload_n 3, 1) := by decide +kernel
theorem d_PC_best_17 : decode prog_1_method_8_code 17 = .ok (.invokevirtual 108, 3) := by decide +kernel
theorem d_PC_best_20 : decode prog_1_method_8_code 20 = .ok (.ifCond .ne 5, 3) := by decide +kernel
theorem d_PC_best_23 : decode prog_1_method_8_code 23 = .ok (.iconst (-1), 1) := by decide +kernel
theorem d_PC_best_24 : decode prog_1_method_8_code 24 = .ok (.ireturn, 1) := by decide +kernel
theorem d_PC_best_10 : decode prog_1_method_8_code 10 = .ok (.bipush (-2), 2) := by decide +kernel
theorem d_PC_best_12 : decode prog_1_method_8_code 12 = .ok (.ireturn, 1) := by decide +kernel
theorem d_PC_wayAt_0 : decode prog_1_method_9_code 0 = .ok (.iload_n 1, 1) := by decide +kernel
theorem d_PC_wayAt_1 : decode prog_1_method_9_code 1 = .ok (.iconst 0, 1) := by decide +kernel
theorem d_PC_wayAt_2 : decode prog_1_method_9_code 2 = .ok (.aload_n 0, 1) := by decide +kernel
theorem d_PC_wayAt_3 : decode prog_1_method_9_code 3 = .ok (.getfield 47, 3) := by decide +kernel
theorem d_PC_wayAt_6 : decode prog_1_method_9_code 6 = .ok (.getfield 74, 3) := by decide +kernel
theorem d_PC_wayAt_9 : decode prog_1_method_9_code 9 = .ok (.iconst 1, 1) := by decide +kernel
theorem d_PC_wayAt_10 : decode prog_1_method_9_code 10 = .ok (.isub, 1) := by decide +kernel
theorem d_PC_wayAt_11 : decode prog_1_method_9_code 11 = .ok (.invokestatic 65, 3) := by decide +kernel
theorem d_PC_wayAt_14 : decode prog_1_method_9_code 14 = .ok (.ifCond .ne 5, 3) := by decide +kernel
theorem d_PC_wayAt_17 : decode prog_1_method_9_code 17 = .ok (.iconst (-1), 1) := by decide +kernel
theorem d_PC_wayAt_18 : decode prog_1_method_9_code 18 = .ok (.ireturn, 1) := by decide +kernel
theorem d_PC_promise_0 : decode prog_1_method_10_code 0 = .ok (.aload_n 0, 1) := by decide +kernel
theorem d_PC_promise_1 : decode prog_1_method_10_code 1 = .ok (.iload_n 1, 1) := by decide +kernel
theorem d_PC_promise_2 : decode prog_1_method_10_code 2 = .ok (.iload_n 2, 1) := by decide +kernel
theorem d_PC_promise_3 : decode prog_1_method_10_code 3 = .ok (.iload_n 3, 1) := by decide +kernel
theorem d_PC_promise_4 : decode prog_1_method_10_code 4 = .ok (.invokevirtual 105, 3) := by decide +kernel
theorem d_PC_promise_7 : decode prog_1_method_10_code 7 = .ok (.ifCond .ne 6, 3) := by decide +kernel
theorem d_PC_promise_13 : decode prog_1_method_10_code 13 = .ok (.aload_n 0, 1) := by decide +kernel
theorem d_PC_promise_14 : decode prog_1_method_10_code 14 = .ok (.getfield 12, 3) := by decide +kernel
theorem d_PC_promise_17 : decode prog_1_method_10_code 17 = .ok (.getfield 93, 3) := by decide +kernel
theorem d_PC_promise_20 : decode prog_1_method_10_code 20 = .ok (.iload_n 1, 1) := by decide +kernel
theorem d_PC_promise_21 : decode prog_1_method_10_code 21 = .ok (.baload, 1) := by decide +kernel
theorem d_PC_promise_22 : decode prog_1_method_10_code 22 = .ok (.ifCond .ne 13, 3) := by decide +kernel
theorem d_PC_promise_25 : decode prog_1_method_10_code 25 = .ok (.aload_n 0, 1) := by decide +kernel
theorem d_PC_promise_26 : decode prog_1_method_10_code 26 = .ok (.iload_n 1, 1) := by decide +kernel
theorem d_PC_promise_27 : decode prog_1_method_10_code 27 = .ok (.iload_n 2, 1) := by decide +kernel
theorem d_PC_promise_28 : decode prog_1_method_10_code 28 = .ok (.iload_n 3, 1) := by decide +kernel
theorem d_PC_promise_29 : decode prog_1_method_10_code 29 = .ok (.invokevirtual 108, 3) := by decide +kernel
theorem d_PC_promise_32 : decode prog_1_method_10_code 32 = .ok (.ifCond .ne 6, 3) := by decide +kernel
theorem d_PC_promise_35 : decode prog_1_method_10_code 35 = .ok (.bipush (-3), 2) := by decide +kernel
theorem d_PC_promise_37 : decode prog_1_method_10_code 37 = .ok (.ireturn, 1) := by decide +kernel
theorem d_PC_promise_10 : decode prog_1_method_10_code 10 = .ok (.bipush (-2), 2) := by decide +kernel
theorem d_PC_promise_12 : decode prog_1_method_10_code 12 = .ok (.ireturn, 1) := by decide +kernel
theorem d_PC_tell_0 : decode prog_1_method_11_code 0 = .ok (.aload_n 0, 1) := by decide +kernel
theorem d_PC_tell_1 : decode prog_1_method_11_code 1 = .ok (.getfield 26, 3) := by decide +kernel
theorem d_PC_tell_4 : decode prog_1_method_11_code 4 = .ok (.iload_n 1, 1) := by decide +kernel
theorem d_PC_tell_5 : decode prog_1_method_11_code 5 = .ok (.invokevirtual 129, 3) := by decide +kernel
theorem d_PC_tell_8 : decode prog_1_method_11_code 8 = .ok (.ifCond .ne 6, 3) := by decide +kernel
theorem d_PC_tell_11 : decode prog_1_method_11_code 11 = .ok (.bipush (-2), 2) := by decide +kernel
theorem d_PC_tell_13 : decode prog_1_method_11_code 13 = .ok (.ireturn, 1) := by decide +kernel
theorem d_PC_tick_0 : decode prog_1_method_12_code 0 = .ok (.iload_n 1, 1) := by decide +kernel
theorem d_PC_tick_1 : decode prog_1_method_12_code 1 = .ok (.iconst 1, 1) := by decide +kernel
theorem d_PC_tick_2 : decode prog_1_method_12_code 2 = .ok (.bipush 60, 2) := by decide +kernel
theorem d_PC_tick_4 : decode prog_1_method_12_code 4 = .ok (.invokestatic 65, 3) := by decide +kernel
theorem d_PC_tick_7 : decode prog_1_method_12_code 7 = .ok (.ifCond .ne 6, 3) := by decide +kernel
theorem d_PC_tick_13 : decode prog_1_method_12_code 13 = .ok (.iconst 0, 1) := by decide +kernel
theorem d_PC_tick_14 : decode prog_1_method_12_code 14 = .ok (.istore_n 2, 1) := by decide +kernel
theorem d_PC_tick_15 : decode prog_1_method_12_code 15 = .ok (.iconst 0, 1) := by decide +kernel
theorem d_PC_tick_16 : decode prog_1_method_12_code 16 = .ok (.istore_n 3, 1) := by decide +kernel
theorem d_PC_tick_17 : decode prog_1_method_12_code 17 = .ok (.iload_n 3, 1) := by decide +kernel
theorem d_PC_tick_18 : decode prog_1_method_12_code 18 = .ok (.iload_n 1, 1) := by decide +kernel
theorem d_PC_tick_19 : decode prog_1_method_12_code 19 = .ok (.if_icmp .ge 72, 3) := by decide +kernel
theorem d_PC_tick_91 : decode prog_1_method_12_code 91 = .ok (.iload_n 2, 1) := by decide +kernel
theorem d_PC_tick_92 : decode prog_1_method_12_code 92 = .ok (.ireturn, 1) := by decide +kernel
theorem d_PC_tick_22 : decode prog_1_method_12_code 22 = .ok (.aload_n 0, 1) := by decide +kernel
theorem d_PC_tick_23 : decode prog_1_method_12_code 23 = .ok (.dup, 1) := by decide +kernel
theorem d_PC_tick_24 : decode prog_1_method_12_code 24 = .ok (.getfield 51, 3) := by decide +kernel
theorem d_PC_tick_27 : decode prog_1_method_12_code 27 = .ok (.iconst 1, 1) := by decide +kernel
theorem d_PC_tick_28 : decode prog_1_method_12_code 28 = .ok (.iadd, 1) := by decide +kernel
theorem d_PC_tick_29 : decode prog_1_method_12_code 29 = .ok (.putfield 51, 3) := by decide +kernel
theorem d_PC_tick_32 : decode prog_1_method_12_code 32 = .ok (.iload_n 2, 1) := by decide +kernel
theorem d_PC_tick_33 : decode prog_1_method_12_code 33 = .ok (.aload_n 0, 1) := by decide +kernel
theorem d_PC_tick_34 : decode prog_1_method_12_code 34 = .ok (.getfield 26, 3) := by decide +kernel
theorem d_PC_tick_37 : decode prog_1_method_12_code 37 = .ok (.aload_n 0, 1) := by decide +kernel
theorem d_PC_tick_38 : decode prog_1_method_12_code 38 = .ok (.getfield 19, 3) := by decide +kernel
theorem d_PC_tick_41 : decode prog_1_method_12_code 41 = .ok (.aload_n 0, 1) := by decide +kernel
theorem d_PC_tick_42 : decode prog_1_method_12_code 42 = .ok (.getfield 51, 3) := by decide +kernel
theorem d_PC_tick_45 : decode prog_1_method_12_code 45 = .ok (.invokevirtual 136, 3) := by decide +kernel
theorem d_PC_tick_48 : decode prog_1_method_12_code 48 = .ok (.iadd, 1) := by decide +kernel
theorem d_PC_tick_49 : decode prog_1_method_12_code 49 = .ok (.istore_n 2, 1) := by decide +kernel
theorem d_PC_tick_50 : decode prog_1_method_12_code 50 = .ok (.aload_n 0, 1) := by decide +kernel
theorem d_PC_tick_51 : decode prog_1_method_12_code 51 = .ok (.getfield 26, 3) := by decide +kernel
theorem d_PC_tick_54 : decode prog_1_method_12_code 54 = .ok (.aload_n 0, 1) := by decide +kernel
theorem d_PC_tick_55 : decode prog_1_method_12_code 55 = .ok (.getfield 12, 3) := by decide +kernel
theorem d_PC_tick_58 : decode prog_1_method_12_code 58 = .ok (.aload_n 0, 1) := by decide +kernel
theorem d_PC_tick_59 : decode prog_1_method_12_code 59 = .ok (.getfield 19, 3) := by decide +kernel
theorem d_PC_tick_62 : decode prog_1_method_12_code 62 = .ok (.aload_n 0, 1) := by decide +kernel
theorem d_PC_tick_63 : decode prog_1_method_12_code 63 = .ok (.getfield 51, 3) := by decide +kernel
theorem d_PC_tick_66 : decode prog_1_method_12_code 66 = .ok (.invokevirtual 97, 3) := by decide +kernel
theorem d_PC_tick_69 : decode prog_1_method_12_code 69 = .ok (.pop, 1) := by decide +kernel
theorem d_PC_tick_70 : decode prog_1_method_12_code 70 = .ok (.aload_n 0, 1) := by decide +kernel
theorem d_PC_tick_71 : decode prog_1_method_12_code 71 = .ok (.getfield 19, 3) := by decide +kernel
theorem d_PC_tick_74 : decode prog_1_method_12_code 74 = .ok (.aload_n 0, 1) := by decide +kernel
theorem d_PC_tick_75 : decode prog_1_method_12_code 75 = .ok (.getfield 12, 3) := by decide +kernel
theorem d_PC_tick_78 : decode prog_1_method_12_code 78 = .ok (.aload_n 0, 1) := by decide +kernel
theorem d_PC_tick_79 : decode prog_1_method_12_code 79 = .ok (.getfield 51, 3) := by decide +kernel
theorem d_PC_tick_82 : decode prog_1_method_12_code 82 = .ok (.invokevirtual 101, 3) := by decide +kernel
theorem d_PC_tick_85 : decode prog_1_method_12_code 85 = .ok (.iinc 3 1, 3) := by decide +kernel
theorem d_PC_tick_88 : decode prog_1_method_12_code 88 = .ok (.goto (-71), 3) := by decide +kernel
theorem d_PC_tick_10 : decode prog_1_method_12_code 10 = .ok (.bipush (-2), 2) := by decide +kernel
theorem d_PC_tick_12 : decode prog_1_method_12_code 12 = .ok (.ireturn, 1) := by decide +kernel
theorem d_PC_promiseAt_0 : decode prog_1_method_13_code 0 = .ok (.aload_n 0, 1) := by decide +kernel
theorem d_PC_promiseAt_1 : decode prog_1_method_13_code 1 = .ok (.getfield 26, 3) := by decide +kernel
theorem d_PC_promiseAt_4 : decode prog_1_method_13_code 4 = .ok (.iload_n 1, 1) := by decide +kernel
theorem d_PC_promiseAt_5 : decode prog_1_method_13_code 5 = .ok (.invokevirtual 129, 3) := by decide +kernel
theorem d_PC_promiseAt_8 : decode prog_1_method_13_code 8 = .ok (.ifCond .ne 6, 3) := by decide +kernel
theorem d_PC_promiseAt_11 : decode prog_1_method_13_code 11 = .ok (.bipush (-2), 2) := by decide +kernel
theorem d_PC_promiseAt_13 : decode prog_1_method_13_code 13 = .ok (.ireturn, 1) := by decide +kernel
theorem d_PC_side_0 : decode prog_1_method_14_code 0 = .ok (.aload_n 0, 1) := by decide +kernel
theorem d_PC_side_1 : decode prog_1_method_14_code 1 = .ok (.getfield 19, 3) := by decide +kernel
theorem d_PC_side_4 : decode prog_1_method_14_code 4 = .ok (.iload_n 1, 1) := by decide +kernel
theorem d_PC_side_5 : decode prog_1_method_14_code 5 = .ok (.invokevirtual 159, 3) := by decide +kernel
theorem d_PC_side_8 : decode prog_1_method_14_code 8 = .ok (.ifCond .eq 12, 3) := by decide +kernel
theorem d_PC_side_20 : decode prog_1_method_14_code 20 = .ok (.bipush (-2), 2) := by decide +kernel
theorem d_PC_side_22 : decode prog_1_method_14_code 22 = .ok (.ireturn, 1) := by decide +kernel
theorem d_PC_locked_0 : decode prog_1_method_15_code 0 = .ok (.aload_n 0, 1) := by decide +kernel
theorem d_PC_locked_1 : decode prog_1_method_15_code 1 = .ok (.getfield 19, 3) := by decide +kernel
theorem d_PC_locked_4 : decode prog_1_method_15_code 4 = .ok (.iload_n 1, 1) := by decide +kernel
theorem d_PC_locked_5 : decode prog_1_method_15_code 5 = .ok (.invokevirtual 159, 3) := by decide +kernel
theorem d_PC_locked_8 : decode prog_1_method_15_code 8 = .ok (.ifCond .eq 12, 3) := by decide +kernel
theorem d_PC_locked_20 : decode prog_1_method_15_code 20 = .ok (.bipush (-2), 2) := by decide +kernel
theorem d_PC_locked_22 : decode prog_1_method_15_code 22 = .ok (.ireturn, 1) := by decide +kernel
theorem d_PC_about_0 : decode prog_1_method_16_code 0 = .ok (.aload_n 0, 1) := by decide +kernel
theorem d_PC_about_1 : decode prog_1_method_16_code 1 = .ok (.getfield 19, 3) := by decide +kernel
theorem d_PC_about_4 : decode prog_1_method_16_code 4 = .ok (.iload_n 1, 1) := by decide +kernel
theorem d_PC_about_5 : decode prog_1_method_16_code 5 = .ok (.invokevirtual 159, 3) := by decide +kernel
theorem d_PC_about_8 : decode prog_1_method_16_code 8 = .ok (.ifCond .ne 6, 3) := by decide +kernel
theorem d_PC_about_11 : decode prog_1_method_16_code 11 = .ok (.bipush (-2), 2) := by decide +kernel
theorem d_PC_about_13 : decode prog_1_method_16_code 13 = .ok (.ireturn, 1) := by decide +kernel
theorem d_PC_learnt_0 : decode prog_1_method_24_code 0 = .ok (.aload_n 0, 1) := by decide +kernel
theorem d_PC_learnt_1 : decode prog_1_method_24_code 1 = .ok (.getfield 19, 3) := by decide +kernel
theorem d_PC_learnt_4 : decode prog_1_method_24_code 4 = .ok (.iload_n 1, 1) := by decide +kernel
theorem d_PC_learnt_5 : decode prog_1_method_24_code 5 = .ok (.invokevirtual 159, 3) := by decide +kernel
theorem d_PC_learnt_8 : decode prog_1_method_24_code 8 = .ok (.ifCond .eq 12, 3) := by decide +kernel
theorem d_PC_learnt_20 : decode prog_1_method_24_code 20 = .ok (.bipush (-2), 2) := by decide +kernel
theorem d_PC_learnt_22 : decode prog_1_method_24_code 22 = .ok (.ireturn, 1) := by decide +kernel
theorem d_PC_stateAt_0 : decode prog_1_method_17_code 0 = .ok (.aload_n 0, 1) := by decide +kernel
theorem d_PC_stateAt_1 : decode prog_1_method_17_code 1 = .ok (.getfield 19, 3) := by decide +kernel
theorem d_PC_stateAt_4 : decode prog_1_method_17_code 4 = .ok (.iload_n 1, 1) := by decide +kernel
theorem d_PC_stateAt_5 : decode prog_1_method_17_code 5 = .ok (.invokevirtual 159, 3) := by decide +kernel
theorem d_PC_stateAt_8 : decode prog_1_method_17_code 8 = .ok (.ifCond .eq 16, 3) := by decide +kernel
theorem d_PC_stateAt_24 : decode prog_1_method_17_code 24 = .ok (.bipush (-2), 2) := by decide +kernel
theorem d_PC_stateAt_26 : decode prog_1_method_17_code 26 = .ok (.ireturn, 1) := by decide +kernel
theorem d_PC_close_0 : decode prog_1_method_18_code 0 = .ok (.aload_n 0, 1) := by decide +kernel
theorem d_PC_close_1 : decode prog_1_method_18_code 1 = .ok (.getfield 19, 3) := by decide +kernel
theorem d_PC_close_4 : decode prog_1_method_18_code 4 = .ok (.iload_n 1, 1) := by decide +kernel
theorem d_PC_close_5 : decode prog_1_method_18_code 5 = .ok (.invokevirtual 159, 3) := by decide +kernel
theorem d_PC_close_8 : decode prog_1_method_18_code 8 = .ok (.ifCond .eq 33, 3) := by decide +kernel
theorem d_PC_close_41 : decode prog_1_method_18_code 41 = .ok (.bipush (-2), 2) := by decide +kernel
theorem d_PC_close_43 : decode prog_1_method_18_code 43 = .ok (.ireturn, 1) := by decide +kernel
theorem d_PC_wealth_0 : decode prog_1_method_19_code 0 = .ok (.aload_n 0, 1) := by decide +kernel
theorem d_PC_wealth_1 : decode prog_1_method_19_code 1 = .ok (.getfield 12, 3) := by decide +kernel
theorem d_PC_wealth_4 : decode prog_1_method_19_code 4 = .ok (.iload_n 1, 1) := by decide +kernel
theorem d_PC_wealth_5 : decode prog_1_method_19_code 5 = .ok (.invokevirtual 77, 3) := by decide +kernel
theorem d_PC_wealth_8 : decode prog_1_method_19_code 8 = .ok (.ifCond .ne 6, 3) := by decide +kernel
theorem d_PC_wealth_14 : decode prog_1_method_19_code 14 = .ok (.aload_n 0, 1) := by decide +kernel
theorem d_PC_wealth_15 : decode prog_1_method_19_code 15 = .ok (.getfield 12, 3) := by decide +kernel
theorem d_PC_wealth_18 : decode prog_1_method_19_code 18 = .ok (.getfield 196, 3) := by decide +kernel
theorem d_PC_wealth_21 : decode prog_1_method_19_code 21 = .ok (.iload_n 1, 1) := by decide +kernel
theorem d_PC_wealth_22 : decode prog_1_method_19_code 22 = .ok (.iaload, 1) := by decide +kernel
theorem d_PC_wealth_23 : decode prog_1_method_19_code 23 = .ok (.istore_n 2, 1) := by decide +kernel
theorem d_PC_wealth_24 : decode prog_1_method_19_code 24 = .ok (.iconst 0, 1) := by decide +kernel
theorem d_PC_wealth_25 : decode prog_1_method_19_code 25 = .ok (.istore_n 3, 1) := by decide +kernel
theorem d_PC_wealth_26 : decode prog_1_method_19_code 26 = .ok (.iload_n 3, 1) := by decide +kernel
theorem d_PC_wealth_27 : decode prog_1_method_19_code 27 = .ok (.iconst 2, 1) := by decide +kernel
theorem d_PC_wealth_28 : decode prog_1_method_19_code 28 = .ok (.aload_n 0, 1) := by decide +kernel
theorem d_PC_wealth_29 : decode prog_1_method_19_code 29 = .ok (.getfield 19, 3) := by decide +kernel
theorem d_PC_wealth_32 : decode prog_1_method_19_code 32 = .ok (.getfield 69, 3) := by decide +kernel
theorem d_PC_wealth_35 : decode prog_1_method_19_code 35 = .ok (.imul, 1) := by decide +kernel
theorem d_PC_wealth_36 : decode prog_1_method_19_code 36 = .ok (.if_icmp .ge 44, 3) := by decide +kernel
theorem d_PC_wealth_80 : decode prog_1_method_19_code 80 = .ok (.iload_n 2, 1) := by decide +kernel
theorem d_PC_wealth_81 : decode prog_1_method_19_code 81 = .ok (.ireturn, 1) := by decide +kernel
theorem d_PC_wealth_11 : decode prog_1_method_19_code 11 = .ok (.bipush (-2), 2) := by decide +kernel
theorem d_PC_wealth_13 : decode prog_1_method_19_code 13 = .ok (.ireturn, 1) := by decide +kernel
theorem d_PC_off_0 : decode prog_1_method_20_code 0 = .ok (.aload_n 0, 1) := by decide +kernel
theorem d_PC_off_1 : decode prog_1_method_20_code 1 = .ok (.getfield 19, 3) := by decide +kernel
theorem d_PC_off_4 : decode prog_1_method_20_code 4 = .ok (.invokevirtual 199, 3) := by decide +kernel
theorem d_PC_off_7 : decode prog_1_method_20_code 7 = .ok (.ireturn, 1) := by decide +kernel
theorem d_PC_ring_0 : decode prog_1_method_21_code 0 = .ok (.iload_n 1, 1) := by decide +kernel
theorem d_PC_ring_1 : decode prog_1_method_21_code 1 = .ok (.iconst 0, 1) := by decide +kernel
theorem d_PC_ring_2 : decode prog_1_method_21_code 2 = .ok (.iconst 4, 1) := by decide +kernel
theorem d_PC_ring_3 : decode prog_1_method_21_code 3 = .ok (.invokestatic 65, 3) := by decide +kernel
theorem d_PC_ring_6 : decode prog_1_method_21_code 6 = .ok (.ifCond .ne 6, 3) := by decide +kernel
theorem d_PC_ring_12 : decode prog_1_method_21_code 12 = .ok (.aload_n 0, 1) := by decide +kernel
theorem d_PC_ring_13 : decode prog_1_method_21_code 13 = .ok (.invokevirtual 203, 3) := by decide +kernel
theorem d_PC_ring_16 : decode prog_1_method_21_code 16 = .ok (.ifCond .ne 5, 3) := by decide +kernel
theorem d_PC_ring_19 : decode prog_1_method_21_code 19 = .ok (.iconst (-1), 1) := by decide +kernel
theorem d_PC_ring_20 : decode prog_1_method_21_code 20 = .ok (.ireturn, 1) := by decide +kernel
theorem d_PC_ring_9 : decode prog_1_method_21_code 9 = .ok (.bipush (-2), 2) := by decide +kernel
theorem d_PC_ring_11 : decode prog_1_method_21_code 11 = .ok (.ireturn, 1) := by decide +kernel
theorem d_PC_even_0 : decode prog_1_method_22_code 0 = .ok (.aload_n 0, 1) := by decide +kernel
theorem d_PC_even_1 : decode prog_1_method_22_code 1 = .ok (.invokevirtual 203, 3) := by decide +kernel
theorem d_PC_even_4 : decode prog_1_method_22_code 4 = .ok (.ifCond .ne 6, 3) := by decide +kernel
theorem d_PC_even_7 : decode prog_1_method_22_code 7 = .ok (.bipush (-3), 2) := by decide +kernel
theorem d_PC_even_9 : decode prog_1_method_22_code 9 = .ok (.ireturn, 1) := by decide +kernel
theorem d_PC_tries_0 : decode prog_1_method_23_code 0 = .ok (.iload_n 1, 1) := by decide +kernel
theorem d_PC_tries_1 : decode prog_1_method_23_code 1 = .ok (.iconst 1, 1) := by decide +kernel
theorem d_PC_tries_2 : decode prog_1_method_23_code 2 = .ok (.ldc 221, 2) := by decide +kernel
theorem d_PC_tries_4 : decode prog_1_method_23_code 4 = .ok (.invokestatic 65, 3) := by decide +kernel
theorem d_PC_tries_7 : decode prog_1_method_23_code 7 = .ok (.ifCond .ne 6, 3) := by decide +kernel
theorem d_PC_tries_13 : decode prog_1_method_23_code 13 = .ok (.aload_n 0, 1) := by decide +kernel
theorem d_PC_tries_14 : decode prog_1_method_23_code 14 = .ok (.getfield 47, 3) := by decide +kernel
theorem d_PC_tries_17 : decode prog_1_method_23_code 17 = .ok (.getfield 74, 3) := by decide +kernel
theorem d_PC_tries_20 : decode prog_1_method_23_code 20 = .ok (.ifCond .eq 17, 3) := by decide +kernel
theorem d_PC_tries_37 : decode prog_1_method_23_code 37 = .ok (.bipush (-3), 2) := by decide +kernel
theorem d_PC_tries_39 : decode prog_1_method_23_code 39 = .ok (.ireturn, 1) := by decide +kernel
theorem d_PC_tries_10 : decode prog_1_method_23_code 10 = .ok (.bipush (-2), 2) := by decide +kernel
theorem d_PC_tries_12 : decode prog_1_method_23_code 12 = .ok (.ireturn, 1) := by decide +kernel
theorem d_PC_count_0 : decode prog_1_method_25_code 0 = .ok (.iload_n 1, 1) := by decide +kernel
theorem d_PC_count_1 : decode prog_1_method_25_code 1 = .ok (.tableswitch 102 0 7 #[47, 55, 63, 71, 79, 84, 89, 94], 47) := by decide +kernel
theorem d_PC_count_48 : decode prog_1_method_25_code 48 = .ok (.aload_n 0, 1) := by decide +kernel
theorem d_PC_count_49 : decode prog_1_method_25_code 49 = .ok (.getfield 12, 3) := by decide +kernel
theorem d_PC_count_52 : decode prog_1_method_25_code 52 = .ok (.getfield 235, 3) := by decide +kernel
theorem d_PC_count_55 : decode prog_1_method_25_code 55 = .ok (.ireturn, 1) := by decide +kernel
theorem d_PC_count_56 : decode prog_1_method_25_code 56 = .ok (.aload_n 0, 1) := by decide +kernel
theorem d_PC_count_57 : decode prog_1_method_25_code 57 = .ok (.getfield 19, 3) := by decide +kernel
theorem d_PC_count_60 : decode prog_1_method_25_code 60 = .ok (.getfield 69, 3) := by decide +kernel
theorem d_PC_count_63 : decode prog_1_method_25_code 63 = .ok (.ireturn, 1) := by decide +kernel
theorem d_PC_count_64 : decode prog_1_method_25_code 64 = .ok (.aload_n 0, 1) := by decide +kernel
theorem d_PC_count_65 : decode prog_1_method_25_code 65 = .ok (.getfield 26, 3) := by decide +kernel
theorem d_PC_count_68 : decode prog_1_method_25_code 68 = .ok (.getfield 124, 3) := by decide +kernel
theorem d_PC_count_71 : decode prog_1_method_25_code 71 = .ok (.ireturn, 1) := by decide +kernel
theorem d_PC_count_72 : decode prog_1_method_25_code 72 = .ok (.aload_n 0, 1) := by decide +kernel
theorem d_PC_count_73 : decode prog_1_method_25_code 73 = .ok (.getfield 26, 3) := by decide +kernel
theorem d_PC_count_76 : decode prog_1_method_25_code 76 = .ok (.getfield 236, 3) := by decide +kernel
theorem d_PC_count_79 : decode prog_1_method_25_code 79 = .ok (.ireturn, 1) := by decide +kernel
theorem d_PC_count_80 : decode prog_1_method_25_code 80 = .ok (.aload_n 0, 1) := by decide +kernel
theorem d_PC_count_81 : decode prog_1_method_25_code 81 = .ok (.getfield 51, 3) := by decide +kernel
theorem d_PC_count_84 : decode prog_1_method_25_code 84 = .ok (.ireturn, 1) := by decide +kernel
theorem d_PC_count_85 : decode prog_1_method_25_code 85 = .ok (.aload_n 0, 1) := by decide +kernel
theorem d_PC_count_86 : decode prog_1_method_25_code 86 = .ok (.getfield 55, 3) := by decide +kernel
theorem d_PC_count_89 : decode prog_1_method_25_code 89 = .ok (.ireturn, 1) := by decide +kernel
theorem d_PC_count_90 : decode prog_1_method_25_code 90 = .ok (.aload_n 0, 1) := by decide +kernel
theorem d_PC_count_91 : decode prog_1_method_25_code 91 = .ok (.getfield 58, 3) := by decide +kernel
theorem d_PC_count_94 : decode prog_1_method_25_code 94 = .ok (.ireturn, 1) := by decide +kernel
theorem d_PC_count_95 : decode prog_1_method_25_code 95 = .ok (.aload_n 0, 1) := by decide +kernel
theorem d_PC_count_96 : decode prog_1_method_25_code 96 = .ok (.getfield 12, 3) := by decide +kernel
theorem d_PC_count_99 : decode prog_1_method_25_code 99 = .ok (.invokevirtual 239, 3) := by decide +kernel
theorem d_PC_count_102 : decode prog_1_method_25_code 102 = .ok (.ireturn, 1) := by decide +kernel
theorem d_PC_count_103 : decode prog_1_method_25_code 103 = .ok (.bipush (-2), 2) := by decide +kernel
theorem d_PC_count_105 : decode prog_1_method_25_code 105 = .ok (.ireturn, 1) := by decide +kernel
theorem d_PC_digest_0 : decode prog_1_method_26_code 0 = .ok (.ldc2_w 242, 3) := by decide +kernel
theorem d_PC_digest_3 : decode prog_1_method_26_code 3 = .ok (.lstore_n 1, 1) := by decide +kernel
theorem d_PC_digest_4 : decode prog_1_method_26_code 4 = .ok (.iconst 0, 1) := by decide +kernel
theorem d_PC_digest_5 : decode prog_1_method_26_code 5 = .ok (.istore_n 3, 1) := by decide +kernel
theorem d_PC_digest_6 : decode prog_1_method_26_code 6 = .ok (.iload_n 3, 1) := by decide +kernel
theorem d_PC_digest_7 : decode prog_1_method_26_code 7 = .ok (.bipush 7, 2) := by decide +kernel
theorem d_PC_digest_9 : decode prog_1_method_26_code 9 = .ok (.if_icmp .gt 22, 3) := by decide +kernel
theorem d_PC_digest_12 : decode prog_1_method_26_code 12 = .ok (.ldc2_w 244, 3) := by decide +kernel
theorem d_PC_digest_15 : decode prog_1_method_26_code 15 = .ok (.lload_n 1, 1) := by decide +kernel
theorem d_PC_digest_16 : decode prog_1_method_26_code 16 = .ok (.lmul, 1) := by decide +kernel
theorem d_PC_digest_17 : decode prog_1_method_26_code 17 = .ok (.aload_n 0, 1) := by decide +kernel
theorem d_PC_digest_18 : decode prog_1_method_26_code 18 = .ok (.iload_n 3, 1) := by decide +kernel
theorem d_PC_digest_19 : decode prog_1_method_26_code 19 = .ok (.invokevirtual 246, 3) := by decide +kernel
theorem d_PC_digest_22 : decode prog_1_method_26_code 22 = .ok (.i2l, 1) := by decide +kernel
theorem d_PC_digest_23 : decode prog_1_method_26_code 23 = .ok (.ladd, 1) := by decide +kernel
theorem d_PC_digest_24 : decode prog_1_method_26_code 24 = .ok (.lstore_n 1, 1) := by decide +kernel
theorem d_PC_digest_25 : decode prog_1_method_26_code 25 = .ok (.iinc 3 1, 3) := by decide +kernel
theorem d_PC_digest_28 : decode prog_1_method_26_code 28 = .ok (.goto (-22), 3) := by decide +kernel
theorem d_PC_digest_31 : decode prog_1_method_26_code 31 = .ok (.iconst 0, 1) := by decide +kernel
theorem d_PC_digest_32 : decode prog_1_method_26_code 32 = .ok (.istore_n 3, 1) := by decide +kernel
theorem d_PC_digest_33 : decode prog_1_method_26_code 33 = .ok (.iload_n 3, 1) := by decide +kernel
theorem d_PC_digest_34 : decode prog_1_method_26_code 34 = .ok (.aload_n 0, 1) := by decide +kernel
theorem d_PC_digest_35 : decode prog_1_method_26_code 35 = .ok (.getfield 12, 3) := by decide +kernel
theorem d_PC_digest_38 : decode prog_1_method_26_code 38 = .ok (.getfield 235, 3) := by decide +kernel
theorem d_PC_digest_41 : decode prog_1_method_26_code 41 = .ok (.if_icmp .ge 22, 3) := by decide +kernel
theorem d_PC_digest_44 : decode prog_1_method_26_code 44 = .ok (.ldc2_w 244, 3) := by decide +kernel
theorem d_PC_digest_47 : decode prog_1_method_26_code 47 = .ok (.lload_n 1, 1) := by decide +kernel
theorem d_PC_digest_48 : decode prog_1_method_26_code 48 = .ok (.lmul, 1) := by decide +kernel
theorem d_PC_digest_49 : decode prog_1_method_26_code 49 = .ok (.aload_n 0, 1) := by decide +kernel
theorem d_PC_digest_50 : decode prog_1_method_26_code 50 = .ok (.iload_n 3, 1) := by decide +kernel
theorem d_PC_digest_51 : decode prog_1_method_26_code 51 = .ok (.invokevirtual 249, 3) := by decide +kernel
theorem d_PC_digest_54 : decode prog_1_method_26_code 54 = .ok (.i2l, 1) := by decide +kernel
theorem d_PC_digest_55 : decode prog_1_method_26_code 55 = .ok (.ladd, 1) := by decide +kernel
theorem d_PC_digest_56 : decode prog_1_method_26_code 56 = .ok (.lstore_n 1, 1) := by decide +kernel
theorem d_PC_digest_57 : decode prog_1_method_26_code 57 = .ok (.iinc 3 1, 3) := by decide +kernel
theorem d_PC_digest_60 : decode prog_1_method_26_code 60 = .ok (.goto (-27), 3) := by decide +kernel
theorem d_PC_digest_63 : decode prog_1_method_26_code 63 = .ok (.iconst 0, 1) := by decide +kernel
theorem d_PC_digest_64 : decode prog_1_method_26_code 64 = .ok (.istore_n 3, 1) := by decide +kernel
theorem d_PC_digest_65 : decode prog_1_method_26_code 65 = .ok (.iload_n 3, 1) := by decide +kernel
theorem d_PC_digest_66 : decode prog_1_method_26_code 66 = .ok (.aload_n 0, 1) := by decide +kernel
theorem d_PC_digest_67 : decode prog_1_method_26_code 67 = .ok (.getfield 19, 3) := by decide +kernel
theorem d_PC_digest_70 : decode prog_1_method_26_code 70 = .ok (.getfield 69, 3) := by decide +kernel
theorem d_PC_digest_73 : decode prog_1_method_26_code 73 = .ok (.if_icmp .ge 16, 3) := by decide +kernel
theorem d_PC_digest_89 : decode prog_1_method_26_code 89 = .ok (.iconst 0, 1) := by decide +kernel
theorem d_PC_digest_90 : decode prog_1_method_26_code 90 = .ok (.istore_n 3, 1) := by decide +kernel
theorem d_PC_digest_91 : decode prog_1_method_26_code 91 = .ok (.iload_n 3, 1) := by decide +kernel
theorem d_PC_digest_92 : decode prog_1_method_26_code 92 = .ok (.aload_n 0, 1) := by decide +kernel
theorem d_PC_digest_93 : decode prog_1_method_26_code 93 = .ok (.getfield 26, 3) := by decide +kernel
theorem d_PC_digest_96 : decode prog_1_method_26_code 96 = .ok (.getfield 124, 3) := by decide +kernel
theorem d_PC_digest_99 : decode prog_1_method_26_code 99 = .ok (.if_icmp .ge 40, 3) := by decide +kernel
theorem d_PC_digest_139 : decode prog_1_method_26_code 139 = .ok (.lload_n 1, 1) := by decide +kernel
theorem d_PC_digest_140 : decode prog_1_method_26_code 140 = .ok (.lreturn, 1) := by decide +kernel
set_option maxHeartbeats 4000000 in
set_option maxRecDepth 100000 in
theorem f_PC_people (l : Launch) (D : va_G) (cI cZ : ClassId) (x : Nat) (n : Int32) (f0 : Nat) (a0 : Nat) (r0 : Nat) (w0 : Nat) (g0 : Nat) (k0 : Nat) (f1 : Nat) (f2 : Nat) (f3 : Nat) (f4 : Nat) (a1 : Nat) (a2 : Nat) (a3 : Nat) (a4 : Nat) (a5 : Nat) (a6 : Nat) (a7 : Nat) (a8 : Nat) (a9 : Nat) (a10 : Nat) (a11 : Nat) (r1 : Nat) (r2 : Nat) (r3 : Nat) (r4 : Nat) (r5 : Nat) (r6 : Nat) (r7 : Nat) (r8 : Nat) (r9 : Nat) (r10 : Nat) (r11 : Nat) (k1 : Nat) (k2 : Nat) (sz : Nat)  : Met l ⟨"PromiseChains", "people", "(I)I"⟩ (mw ⟨"PromiseChains", "people", "(I)I"⟩ prog_1_method_2_code 2 (some .int)) ({ frames := 1, cells := 0, slots := 0, locals := 22 }) (va_Pc [.ref x, .int n] (PB D cI cZ sz [(x, .inr (0, [.ref f0, .ref a0, .ref r0, .ref w0, .ref g0, .ref k0, .int 0, .int 3, .int 5])), (f0, .inr (1, [.int 2, .ref f1, .ref f2, .ref f3, .ref f4])), (f1, .inl (cI, 7, .inl (fun _ => 0))), (f2, .inl (cI, 7, .inl (fun _ => 0))), (f3, .inl (cI, 7, .inl (fun _ => 0))), (f4, .inl (cZ, 7, .inl (fun _ => 0))), (a0, .inr (2, [.int 0, .ref a1, .ref a2, .ref a3, .ref a4, .ref a5, .ref a6, .ref a7, .ref a8, .ref a9, .ref a10, .ref a11])), (r0, .inr (3, [.int 0, .int 0, .ref r1, .ref r2, .ref r3, .ref r4, .ref r5, .ref r6, .ref r7, .ref r8, .ref r9, .ref r10, .ref r11])), (k0, .inr (6, [.int 0, .ref k1, .ref k2]))])) (va_Qi (S := Unit) (fun (r : Int32) uU => r = sp_people n) (fun uU tT => BB D (va_A [(x, .inr (0, [.ref f0, .ref a0, .ref r0, .ref w0, .ref g0, .ref k0, .int 0, .int 3, .int 5])), (f0, .inr (1, [.int 2, .ref f1, .ref f2, .ref f3, .ref f4])), (f1, .inl (cI, 7, .inl (fun _ => 0))), (f2, .inl (cI, 7, .inl (fun _ => 0))), (f3, .inl (cI, 7, .inl (fun _ => 0))), (f4, .inl (cZ, 7, .inl (fun _ => 0))), (a0, .inr (2, [.int 0, .ref a1, .ref a2, .ref a3, .ref a4, .ref a5, .ref a6, .ref a7, .ref a8, .ref a9, .ref a10, .ref a11])), (r0, .inr (3, [.int 0, .int 0, .ref r1, .ref r2, .ref r3, .ref r4, .ref r5, .ref r6, .ref r7, .ref r8, .ref r9, .ref r10, .ref r11])), (k0, .inr (6, [.int 0, .ref k1, .ref k2]))] sz) [] tT) (va_A [(x, .inr (0, [.ref f0, .ref a0, .ref r0, .ref w0, .ref g0, .ref k0, .int 0, .int 3, .int 5])), (f0, .inr (1, [.int 2, .ref f1, .ref f2, .ref f3, .ref f4])), (f1, .inl (cI, 7, .inl (fun _ => 0))), (f2, .inl (cI, 7, .inl (fun _ => 0))), (f3, .inl (cI, 7, .inl (fun _ => 0))), (f4, .inl (cZ, 7, .inl (fun _ => 0))), (a0, .inr (2, [.int 0, .ref a1, .ref a2, .ref a3, .ref a4, .ref a5, .ref a6, .ref a7, .ref a8, .ref a9, .ref a10, .ref a11])), (r0, .inr (3, [.int 0, .int 0, .ref r1, .ref r2, .ref r3, .ref r4, .ref r5, .ref r6, .ref r7, .ref r8, .ref r9, .ref r10, .ref r11])), (k0, .inr (6, [.int 0, .ref k1, .ref k2]))] sz)) 0 0 (va_A [(x, .inr (0, [.ref f0, .ref a0, .ref r0, .ref w0, .ref g0, .ref k0, .int 0, .int 3, .int 5])), (f0, .inr (1, [.int 2, .ref f1, .ref f2, .ref f3, .ref f4])), (f1, .inl (cI, 7, .inl (fun _ => 0))), (f2, .inl (cI, 7, .inl (fun _ => 0))), (f3, .inl (cI, 7, .inl (fun _ => 0))), (f4, .inl (cZ, 7, .inl (fun _ => 0))), (a0, .inr (2, [.int 0, .ref a1, .ref a2, .ref a3, .ref a4, .ref a5, .ref a6, .ref a7, .ref a8, .ref a9, .ref a10, .ref a11])), (r0, .inr (3, [.int 0, .int 0, .ref r1, .ref r2, .ref r3, .ref r4, .ref r5, .ref r6, .ref r7, .ref r8, .ref r9, .ref r10, .ref r11])), (k0, .inr (6, [.int 0, .ref k1, .ref k2]))] sz) := by
  refine Met.ofW (cc := prog_1_method_2_code) (maxL := 2) (ret := (some .int)) (by decide) rfl ?_
  intro p e s m args below meth c s₁ B hml hv
  obtain ⟨rfl, hsz, hP, hK, hD0, hN⟩ := hv
  have hx := B.exec
  have hb := B.bytes
  have hr := B.returns
  have hts0 := atoms_spec (ws := mw ⟨"PromiseChains", "people", "(I)I"⟩ prog_1_method_2_code 2 (some .int)) B.pre
  have hts : ∀ w ∈ tblG, w.before _ s = true := fun w h => hts0 w (List.mem_cons_of_mem _ h)
  have hown : s.vm.findClass "PromiseChains" = some m.cls := findClass_of_methodNamed B.named
  have hlocks := B.notSynchronized
  subst hsz
  have hD := hD0.self (sz := s.heap.size)
  generalize hAe : va_A [(x, .inr (0, [.ref f0, .ref a0, .ref r0, .ref w0, .ref g0, .ref k0, .int 0, .int 3, .int 5])), (f0, .inr (1, [.int 2, .ref f1, .ref f2, .ref f3, .ref f4])), (f1, .inl (cI, 7, .inl (fun _ => 0))), (f2, .inl (cI, 7, .inl (fun _ => 0))), (f3, .inl (cI, 7, .inl (fun _ => 0))), (f4, .inl (cZ, 7, .inl (fun _ => 0))), (a0, .inr (2, [.int 0, .ref a1, .ref a2, .ref a3, .ref a4, .ref a5, .ref a6, .ref a7, .ref a8, .ref a9, .ref a10, .ref a11])), (r0, .inr (3, [.int 0, .int 0, .ref r1, .ref r2, .ref r3, .ref r4, .ref r5, .ref r6, .ref r7, .ref r8, .ref r9, .ref r10, .ref r11])), (k0, .inr (6, [.int 0, .ref k1, .ref k2]))] s.heap.size = A at hD ⊢
  have hA : ∀ q : Nat, s.heap.size ≤ q → A q := fun q h => by rw [← hAe]; exact Or.inr h
  have hS : va_S A s.heap s.heap [] := va_S.rf
  have hP : va_P D vwCl [(x, .inr (0, [.ref f0, .ref a0, .ref r0, .ref w0, .ref g0, .ref k0, .int 0, .int 3, .int 5])), (f0, .inr (1, [.int 2, .ref f1, .ref f2, .ref f3, .ref f4])), (f1, .inl (cI, 7, .inl (fun _ => 0))), (f2, .inl (cI, 7, .inl (fun _ => 0))), (f3, .inl (cI, 7, .inl (fun _ => 0))), (f4, .inl (cZ, 7, .inl (fun _ => 0))), (a0, .inr (2, [.int 0, .ref a1, .ref a2, .ref a3, .ref a4, .ref a5, .ref a6, .ref a7, .ref a8, .ref a9, .ref a10, .ref a11])), (r0, .inr (3, [.int 0, .int 0, .ref r1, .ref r2, .ref r3, .ref r4, .ref r5, .ref r6, .ref r7, .ref r8, .ref r9, .ref r10, .ref r11])), (k0, .inr (6, [.int 0, .ref k1, .ref k2]))] s.heap := hP
  have hl := lv_entry ([.ref x, .int n]) (n := 2) (Nat.le_of_ble_eq_true rfl)
  rw [lg_entry_eq]
  generalize (lg_sl ([.ref x, .int n]) ++ List.replicate (2 - (lg_sl ([.ref x, .int n])).length) Slot.unset).toArray = ls at hl ⊢
  have hl : lv_has ls 2 [(0, .ref x), (1, .int n)] := hl
  refine lv_iload_n hx hb d_PC_people_0 rfl (lv_at hl 1 rfl) ?_
  refine lv_iconst (v := 2) hx hb d_PC_people_1 (by decide) ?_
  refine lv_bipush (v := 7) hx hb d_PC_people_2 (by decide) ?_
  have hPc := hP.sub (ws' := []) [] rfl
  have hDc := hD.sub (ws' := []) [] (by decide) rfl
  refine vp_callSi (va_Run.run (va_runS (As := [.int n, .int 2, .int 7]) (rest := []) ⟨hx, hb, hml, hown, hts⟩ (c_within l D cI cZ n 2 7 s.heap.size ) (my_cwS 3 hts q_290 q_288 q_289 q_1 rfl rfl (by decide +kernel) ⟨Nat.le_of_ble_eq_true rfl, Nat.le_of_ble_eq_true rfl⟩) (my_preS hPc hDc hK hN) rfl rfl hl.1 rfl (lv_room (Nat.le_of_ble_eq_true rfl)) d_PC_people_4 ⟨Nat.le_of_ble_eq_true rfl, Nat.le_of_ble_eq_true rfl⟩)) (fun r_1 hw_1 => ?_)
  have hw_1 : r_1 = isw n 2 7 := hw_1
  subst hw_1
  refine lv_if_ne (tgt := 13) hx hb d_PC_people_7 (by decide) (fun h_2 => ?_) (fun h_2 => ?_)
  · refine lv_aload_n hx hb d_PC_people_13 rfl (lv_at hl 0 rfl) ?_
    refine va_get (D := D) (ci := 0) (v := .ref f0) (C := R_PC) (T := F_PC) (N := 9) hx hb hts i_PC hown hK hP 0 rfl rfl 0 (by decide) (hts _ q_256) (fun _ h9 => h9) rfl d_PC_people_14 ?_
    refine lv_iload_n hx hb d_PC_people_17 rfl (lv_at hl 1 rfl) ?_
    have hPc := hP.sub (ws' := [(f0, .inr (1, [.int 2, .ref f1, .ref f2, .ref f3, .ref f4])), (f1, .inl (cI, 7, .inl (fun _ => 0))), (f2, .inl (cI, 7, .inl (fun _ => 0))), (f3, .inl (cI, 7, .inl (fun _ => 0))), (f4, .inl (cZ, 7, .inl (fun _ => 0)))]) [1, 2, 3, 4, 5] rfl
    have hDc := hD.sub (ws' := [(f0, .inr (1, [.int 2, .ref f1, .ref f2, .ref f3, .ref f4])), (f1, .inl (cI, 7, .inl (fun _ => 0))), (f2, .inl (cI, 7, .inl (fun _ => 0))), (f3, .inl (cI, 7, .inl (fun _ => 0))), (f4, .inl (cZ, 7, .inl (fun _ => 0)))]) [1, 2, 3, 4, 5] (by decide) rfl
    have hFc := va_free (wc := [(f0, .inr (1, [.int 2, .ref f1, .ref f2, .ref f3, .ref f4])), (f1, .inl (cI, 7, .inl (fun _ => 0))), (f2, .inl (cI, 7, .inl (fun _ => 0))), (f3, .inl (cI, 7, .inl (fun _ => 0))), (f4, .inl (cZ, 7, .inl (fun _ => 0)))]) hD hS hA [1, 2, 3, 4, 5] rfl
    refine va_callv (va_runV (As := [.int n]) (rest := []) ⟨hx, hb, hml, hown, hts⟩ (c_PE_begin l D cI cZ f0 n 2 f1 f2 f3 f4 (fun _ => 0) (fun _ => 0) (fun _ => 0) (fun _ => 0) s.heap.size ) (my_cwV 1 hts q_255 q_252 q_253 q_254 q_2 rfl rfl (by decide +kernel) ⟨Nat.le_of_ble_eq_true rfl, Nat.le_of_ble_eq_true rfl⟩) (my_preV hPc hDc hK hN 1 0 rfl rfl) rfl rfl hl.1 rfl (lv_room (Nat.le_of_ble_eq_true rfl)) d_PC_people_18 ⟨Nat.le_of_ble_eq_true rfl, Nat.le_of_ble_eq_true rfl⟩) hS (fun q _ h => hFc q h) hFc (fun uU tT H_4 locs ht hvm hw_3 hB hz1 hk1 hS => ?_)
    obtain ⟨hP1, hD1⟩ := hB
    rw [ht] at hP1
    obtain ⟨hP, hD⟩ := va_join (wr := [(x, .inr (0, [.ref f0, .ref a0, .ref r0, .ref w0, .ref g0, .ref k0, .int 0, .int 3, .int 5])), (a0, .inr (2, [.int 0, .ref a1, .ref a2, .ref a3, .ref a4, .ref a5, .ref a6, .ref a7, .ref a8, .ref a9, .ref a10, .ref a11])), (r0, .inr (3, [.int 0, .int 0, .ref r1, .ref r2, .ref r3, .ref r4, .ref r5, .ref r6, .ref r7, .ref r8, .ref r9, .ref r10, .ref r11])), (k0, .inr (6, [.int 0, .ref k1, .ref k2]))]) (w1 := [(f0, .inr (1, [.int n, .ref f1, .ref f2, .ref f3, .ref f4])), (f1, .inl (cI, 7, .inl (zf 7 (fun _ => 0)))), (f2, .inl (cI, 7, .inl (zf 7 (fun _ => 0)))), (f3, .inl (cI, 7, .inl (zf 7 (fun _ => 0)))), (f4, .inl (cZ, 7, .inl (zf 7 (fun _ => 0))))]) hP hD [1, 2, 3, 4, 5] [0, 6, 7, 8] rfl rfl (by decide) (by decide) hk1 hFc hP1 hD1
    have hP : va_P D vwCl [(x, .inr (0, [.ref f0, .ref a0, .ref r0, .ref w0, .ref g0, .ref k0, .int 0, .int 3, .int 5])), (a0, .inr (2, [.int 0, .ref a1, .ref a2, .ref a3, .ref a4, .ref a5, .ref a6, .ref a7, .ref a8, .ref a9, .ref a10, .ref a11])), (r0, .inr (3, [.int 0, .int 0, .ref r1, .ref r2, .ref r3, .ref r4, .ref r5, .ref r6, .ref r7, .ref r8, .ref r9, .ref r10, .ref r11])), (k0, .inr (6, [.int 0, .ref k1, .ref k2])), (f0, .inr (1, [.int n, .ref f1, .ref f2, .ref f3, .ref f4])), (f1, .inl (cI, 7, .inl (zf 7 (fun _ => 0)))), (f2, .inl (cI, 7, .inl (zf 7 (fun _ => 0)))), (f3, .inl (cI, 7, .inl (zf 7 (fun _ => 0)))), (f4, .inl (cZ, 7, .inl (zf 7 (fun _ => 0))))] H_4 := hP
    have hD : va_D A [(x, .inr (0, [.ref f0, .ref a0, .ref r0, .ref w0, .ref g0, .ref k0, .int 0, .int 3, .int 5])), (a0, .inr (2, [.int 0, .ref a1, .ref a2, .ref a3, .ref a4, .ref a5, .ref a6, .ref a7, .ref a8, .ref a9, .ref a10, .ref a11])), (r0, .inr (3, [.int 0, .int 0, .ref r1, .ref r2, .ref r3, .ref r4, .ref r5, .ref r6, .ref r7, .ref r8, .ref r9, .ref r10, .ref r11])), (k0, .inr (6, [.int 0, .ref k1, .ref k2])), (f0, .inr (1, [.int n, .ref f1, .ref f2, .ref f3, .ref f4])), (f1, .inl (cI, 7, .inl (zf 7 (fun _ => 0)))), (f2, .inl (cI, 7, .inl (zf 7 (fun _ => 0)))), (f3, .inl (cI, 7, .inl (zf 7 (fun _ => 0)))), (f4, .inl (cZ, 7, .inl (zf 7 (fun _ => 0))))] := hD
    refine lv_aload_n hx hb d_PC_people_21 rfl (lv_at hl 0 rfl) ?_
    refine va_get (D := D) (ci := 0) (v := .ref a0) (C := R_PC) (T := F_PC) (N := 9) hx hb hts i_PC hown hK hP 0 rfl rfl 1 (by decide) (hts _ q_257) (fun _ h9 => h9) rfl d_PC_people_22 ?_
    refine lv_iconst (v := 0) hx hb d_PC_people_25 (by decide) ?_
    refine va_put (D := D) (ci := 2) (v := .int 0) (ty := .int) (C := R_PA) (T := F_PA) (N := 12) hx hb hts i_PA t_PA t_PA_ok n_PA hown hK hP hD hS 1 rfl rfl 0 (by decide) (hts _ q_57) (fun _ h9 => h9) rfl (by decide +kernel) rfl rfl (Nat.le_of_ble_eq_true rfl) d_PC_people_26 (fun H_5 locs hP hD hS => ?_)
    have hP : va_P D vwCl [(x, .inr (0, [.ref f0, .ref a0, .ref r0, .ref w0, .ref g0, .ref k0, .int 0, .int 3, .int 5])), (a0, .inr (2, [.int 0, .ref a1, .ref a2, .ref a3, .ref a4, .ref a5, .ref a6, .ref a7, .ref a8, .ref a9, .ref a10, .ref a11])), (r0, .inr (3, [.int 0, .int 0, .ref r1, .ref r2, .ref r3, .ref r4, .ref r5, .ref r6, .ref r7, .ref r8, .ref r9, .ref r10, .ref r11])), (k0, .inr (6, [.int 0, .ref k1, .ref k2])), (f0, .inr (1, [.int n, .ref f1, .ref f2, .ref f3, .ref f4])), (f1, .inl (cI, 7, .inl (zf 7 (fun _ => 0)))), (f2, .inl (cI, 7, .inl (zf 7 (fun _ => 0)))), (f3, .inl (cI, 7, .inl (zf 7 (fun _ => 0)))), (f4, .inl (cZ, 7, .inl (zf 7 (fun _ => 0))))] H_5 := hP
    have hD : va_D A [(x, .inr (0, [.ref f0, .ref a0, .ref r0, .ref w0, .ref g0, .ref k0, .int 0, .int 3, .int 5])), (a0, .inr (2, [.int 0, .ref a1, .ref a2, .ref a3, .ref a4, .ref a5, .ref a6, .ref a7, .ref a8, .ref a9, .ref a10, .ref a11])), (r0, .inr (3, [.int 0, .int 0, .ref r1, .ref r2, .ref r3, .ref r4, .ref r5, .ref r6, .ref r7, .ref r8, .ref r9, .ref r10, .ref r11])), (k0, .inr (6, [.int 0, .ref k1, .ref k2])), (f0, .inr (1, [.int n, .ref f1, .ref f2, .ref f3, .ref f4])), (f1, .inl (cI, 7, .inl (zf 7 (fun _ => 0)))), (f2, .inl (cI, 7, .inl (zf 7 (fun _ => 0)))), (f3, .inl (cI, 7, .inl (zf 7 (fun _ => 0)))), (f4, .inl (cZ, 7, .inl (zf 7 (fun _ => 0))))] := hD
    refine lv_aload_n hx hb d_PC_people_29 rfl (lv_at hl 0 rfl) ?_
    refine va_get (D := D) (ci := 0) (v := .ref r0) (C := R_PC) (T := F_PC) (N := 9) hx hb hts i_PC hown hK hP 0 rfl rfl 2 (by decide) (hts _ q_258) (fun _ h9 => h9) rfl d_PC_people_30 ?_
    have hPc := hP.sub (ws' := [(r0, .inr (3, [.int 0, .int 0, .ref r1, .ref r2, .ref r3, .ref r4, .ref r5, .ref r6, .ref r7, .ref r8, .ref r9, .ref r10, .ref r11]))]) [2] rfl
    have hDc := hD.sub (ws' := [(r0, .inr (3, [.int 0, .int 0, .ref r1, .ref r2, .ref r3, .ref r4, .ref r5, .ref r6, .ref r7, .ref r8, .ref r9, .ref r10, .ref r11]))]) [2] (by decide) rfl
    have hFc := va_free (wc := [(r0, .inr (3, [.int 0, .int 0, .ref r1, .ref r2, .ref r3, .ref r4, .ref r5, .ref r6, .ref r7, .ref r8, .ref r9, .ref r10, .ref r11]))]) hD hS hA [2] rfl
    refine va_callv (va_runV (As := []) (rest := []) ⟨hx, hb, hml, hown, hts⟩ (c_PR_begin l D cI cZ r0 0 0 r1 r2 r3 r4 r5 r6 r7 r8 r9 r10 r11 H_5.size ) (my_cwV 0 hts q_294 q_291 q_292 q_293 q_4 rfl rfl (by decide +kernel) ⟨Nat.le_of_ble_eq_true rfl, Nat.le_of_ble_eq_true rfl⟩) (my_preV hPc hDc hK hN 3 0 rfl rfl) rfl rfl hl.1 rfl (lv_room (Nat.le_of_ble_eq_true rfl)) d_PC_people_33 ⟨Nat.le_of_ble_eq_true rfl, Nat.le_of_ble_eq_true rfl⟩) hS (fun q _ h => hFc q h) hFc (fun uU tT H_7 locs ht hvm hw_6 hB hz1 hk1 hS => ?_)
    obtain ⟨hP1, hD1⟩ := hB
    rw [ht] at hP1
    obtain ⟨hP, hD⟩ := va_join (wr := [(x, .inr (0, [.ref f0, .ref a0, .ref r0, .ref w0, .ref g0, .ref k0, .int 0, .int 3, .int 5])), (a0, .inr (2, [.int 0, .ref a1, .ref a2, .ref a3, .ref a4, .ref a5, .ref a6, .ref a7, .ref a8, .ref a9, .ref a10, .ref a11])), (k0, .inr (6, [.int 0, .ref k1, .ref k2])), (f0, .inr (1, [.int n, .ref f1, .ref f2, .ref f3, .ref f4])), (f1, .inl (cI, 7, .inl (zf 7 (fun _ => 0)))), (f2, .inl (cI, 7, .inl (zf 7 (fun _ => 0)))), (f3, .inl (cI, 7, .inl (zf 7 (fun _ => 0)))), (f4, .inl (cZ, 7, .inl (zf 7 (fun _ => 0))))]) (w1 := [(r0, .inr (3, [.int 0, .int 0, .ref r1, .ref r2, .ref r3, .ref r4, .ref r5, .ref r6, .ref r7, .ref r8, .ref r9, .ref r10, .ref r11]))]) hP hD [2] [0, 1, 3, 4, 5, 6, 7, 8] rfl rfl (by decide) (by decide) hk1 hFc hP1 hD1
    have hP : va_P D vwCl [(x, .inr (0, [.ref f0, .ref a0, .ref r0, .ref w0, .ref g0, .ref k0, .int 0, .int 3, .int 5])), (a0, .inr (2, [.int 0, .ref a1, .ref a2, .ref a3, .ref a4, .ref a5, .ref a6, .ref a7, .ref a8, .ref a9, .ref a10, .ref a11])), (k0, .inr (6, [.int 0, .ref k1, .ref k2])), (f0, .inr (1, [.int n, .ref f1, .ref f2, .ref f3, .ref f4])), (f1, .inl (cI, 7, .inl (zf 7 (fun _ => 0)))), (f2, .inl (cI, 7, .inl (zf 7 (fun _ => 0)))), (f3, .inl (cI, 7, .inl (zf 7 (fun _ => 0)))), (f4, .inl (cZ, 7, .inl (zf 7 (fun _ => 0)))), (r0, .inr (3, [.int 0, .int 0, .ref r1, .ref r2, .ref r3, .ref r4, .ref r5, .ref r6, .ref r7, .ref r8, .ref r9, .ref r10, .ref r11]))] H_7 := hP
    have hD : va_D A [(x, .inr (0, [.ref f0, .ref a0, .ref r0, .ref w0, .ref g0, .ref k0, .int 0, .int 3, .int 5])), (a0, .inr (2, [.int 0, .ref a1, .ref a2, .ref a3, .ref a4, .ref a5, .ref a6, .ref a7, .ref a8, .ref a9, .ref a10, .ref a11])), (k0, .inr (6, [.int 0, .ref k1, .ref k2])), (f0, .inr (1, [.int n, .ref f1, .ref f2, .ref f3, .ref f4])), (f1, .inl (cI, 7, .inl (zf 7 (fun _ => 0)))), (f2, .inl (cI, 7, .inl (zf 7 (fun _ => 0)))), (f3, .inl (cI, 7, .inl (zf 7 (fun _ => 0)))), (f4, .inl (cZ, 7, .inl (zf 7 (fun _ => 0)))), (r0, .inr (3, [.int 0, .int 0, .ref r1, .ref r2, .ref r3, .ref r4, .ref r5, .ref r6, .ref r7, .ref r8, .ref r9, .ref r10, .ref r11]))] := hD
    refine lv_aload_n hx hb d_PC_people_36 rfl (lv_at hl 0 rfl) ?_
    refine va_get (D := D) (ci := 0) (v := .ref k0) (C := R_PC) (T := F_PC) (N := 9) hx hb hts i_PC hown hK hP 0 rfl rfl 5 (by decide) (hts _ q_261) (fun _ h9 => h9) rfl d_PC_people_37 ?_
    refine lv_iconst (v := 0) hx hb d_PC_people_40 (by decide) ?_
    refine va_put (D := D) (ci := 6) (v := .int 0) (ty := .int) (C := R_RO) (T := F_RO) (N := 3) hx hb hts i_RO t_RO t_RO_ok n_RO hown hK hP hD hS 2 rfl rfl 0 (by decide) (hts _ q_174) (fun _ h9 => h9) rfl (by decide +kernel) rfl rfl (Nat.le_of_ble_eq_true rfl) d_PC_people_41 (fun H_8 locs hP hD hS => ?_)
    have hP : va_P D vwCl [(x, .inr (0, [.ref f0, .ref a0, .ref r0, .ref w0, .ref g0, .ref k0, .int 0, .int 3, .int 5])), (a0, .inr (2, [.int 0, .ref a1, .ref a2, .ref a3, .ref a4, .ref a5, .ref a6, .ref a7, .ref a8, .ref a9, .ref a10, .ref a11])), (k0, .inr (6, [.int 0, .ref k1, .ref k2])), (f0, .inr (1, [.int n, .ref f1, .ref f2, .ref f3, .ref f4])), (f1, .inl (cI, 7, .inl (zf 7 (fun _ => 0)))), (f2, .inl (cI, 7, .inl (zf 7 (fun _ => 0)))), (f3, .inl (cI, 7, .inl (zf 7 (fun _ => 0)))), (f4, .inl (cZ, 7, .inl (zf 7 (fun _ => 0)))), (r0, .inr (3, [.int 0, .int 0, .ref r1, .ref r2, .ref r3, .ref r4, .ref r5, .ref r6, .ref r7, .ref r8, .ref r9, .ref r10, .ref r11]))] H_8 := hP
    have hD : va_D A [(x, .inr (0, [.ref f0, .ref a0, .ref r0, .ref w0, .ref g0, .ref k0, .int 0, .int 3, .int 5])), (a0, .inr (2, [.int 0, .ref a1, .ref a2, .ref a3, .ref a4, .ref a5, .ref a6, .ref a7, .ref a8, .ref a9, .ref a10, .ref a11])), (k0, .inr (6, [.int 0, .ref k1, .ref k2])), (f0, .inr (1, [.int n, .ref f1, .ref f2, .ref f3, .ref f4])), (f1, .inl (cI, 7, .inl (zf 7 (fun _ => 0)))), (f2, .inl (cI, 7, .inl (zf 7 (fun _ => 0)))), (f3, .inl (cI, 7, .inl (zf 7 (fun _ => 0)))), (f4, .inl (cZ, 7, .inl (zf 7 (fun _ => 0)))), (r0, .inr (3, [.int 0, .int 0, .ref r1, .ref r2, .ref r3, .ref r4, .ref r5, .ref r6, .ref r7, .ref r8, .ref r9, .ref r10, .ref r11]))] := hD
    refine lv_aload_n hx hb d_PC_people_44 rfl (lv_at hl 0 rfl) ?_
    refine lv_iconst (v := 0) hx hb d_PC_people_45 (by decide) ?_
    refine va_put (D := D) (ci := 0) (v := .int 0) (ty := .int) (C := R_PC) (T := F_PC) (N := 9) hx hb hts i_PC t_PC t_PC_ok n_PC hown hK hP hD hS 0 rfl rfl 6 (by decide) (hts _ q_262) (fun _ h9 => h9) rfl (by decide +kernel) rfl rfl (Nat.le_of_ble_eq_true rfl) d_PC_people_46 (fun H_9 locs hP hD hS => ?_)
    have hP : va_P D vwCl [(x, .inr (0, [.ref f0, .ref a0, .ref r0, .ref w0, .ref g0, .ref k0, .int 0, .int 3, .int 5])), (a0, .inr (2, [.int 0, .ref a1, .ref a2, .ref a3, .ref a4, .ref a5, .ref a6, .ref a7, .ref a8, .ref a9, .ref a10, .ref a11])), (k0, .inr (6, [.int 0, .ref k1, .ref k2])), (f0, .inr (1, [.int n, .ref f1, .ref f2, .ref f3, .ref f4])), (f1, .inl (cI, 7, .inl (zf 7 (fun _ => 0)))), (f2, .inl (cI, 7, .inl (zf 7 (fun _ => 0)))), (f3, .inl (cI, 7, .inl (zf 7 (fun _ => 0)))), (f4, .inl (cZ, 7, .inl (zf 7 (fun _ => 0)))), (r0, .inr (3, [.int 0, .int 0, .ref r1, .ref r2, .ref r3, .ref r4, .ref r5, .ref r6, .ref r7, .ref r8, .ref r9, .ref r10, .ref r11]))] H_9 := hP
    have hD : va_D A [(x, .inr (0, [.ref f0, .ref a0, .ref r0, .ref w0, .ref g0, .ref k0, .int 0, .int 3, .int 5])), (a0, .inr (2, [.int 0, .ref a1, .ref a2, .ref a3, .ref a4, .ref a5, .ref a6, .ref a7, .ref a8, .ref a9, .ref a10, .ref a11])), (k0, .inr (6, [.int 0, .ref k1, .ref k2])), (f0, .inr (1, [.int n, .ref f1, .ref f2, .ref f3, .ref f4])), (f1, .inl (cI, 7, .inl (zf 7 (fun _ => 0)))), (f2, .inl (cI, 7, .inl (zf 7 (fun _ => 0)))), (f3, .inl (cI, 7, .inl (zf 7 (fun _ => 0)))), (f4, .inl (cZ, 7, .inl (zf 7 (fun _ => 0)))), (r0, .inr (3, [.int 0, .int 0, .ref r1, .ref r2, .ref r3, .ref r4, .ref r5, .ref r6, .ref r7, .ref r8, .ref r9, .ref r10, .ref r11]))] := hD
    refine lv_iconst (v := 1) hx hb d_PC_people_49 (by decide) ?_
    have hP9 := hP.sub (ws' := []) [] rfl
    have hD9 := hD.sub (ws' := []) [] (by decide) rfl
    refine W.widen (k := 0) (n := 0) (Nat.le_of_ble_eq_true rfl) (Nat.le_of_ble_eq_true rfl) ?_
    exact W.iret (v := 1) hx hb hr (fun t ht hW => ⟨⟨1, (), rfl, (by first | decide | simp [sp_people, h_2]), by rw [ht]; exact hP9, hD9⟩, hS.F ht⟩) hS.2.2 d_PC_people_50
  · refine lv_bipush (v := (-2)) hx hb d_PC_people_10 (by decide) ?_
    have hP9 := hP.sub (ws' := []) [] rfl
    have hD9 := hD.sub (ws' := []) [] (by decide) rfl
    refine W.widen (k := 0) (n := 0) (Nat.le_of_ble_eq_true rfl) (Nat.le_of_ble_eq_true rfl) ?_
    exact W.iret (v := (-2)) hx hb hr (fun t ht hW => ⟨⟨(-2), (), rfl, (by first | decide | simp [sp_people, h_2]), by rw [ht]; exact hP9, hD9⟩, hS.F ht⟩) hS.2.2 d_PC_people_12

set_option maxHeartbeats 4000000 in
set_option maxRecDepth 100000 in
theorem f_PC_pair (l : Launch) (D : va_G) (cI cZ : ClassId) (x : Nat) (i : Int32) (j : Int32) (u : Int32) (v : Int32) (f0 : Nat) (a0 : Nat) (r0 : Nat) (w0 : Nat) (g0 : Nat) (k0 : Nat) (f1 : Nat) (f2 : Nat) (f3 : Nat) (f4 : Nat) (a1 : Nat) (a2 : Nat) (a3 : Nat) (a4 : Nat) (a5 : Nat) (a6 : Nat) (a7 : Nat) (a8 : Nat) (a9 : Nat) (a10 : Nat) (a11 : Nat) (sz : Nat)  : Met l ⟨"PromiseChains", "pair", "(IIII)I"⟩ (mw ⟨"PromiseChains", "pair", "(IIII)I"⟩ prog_1_method_3_code 5 (some .int)) ({ frames := 2, cells := 0, slots := 0, locals := 48 }) (va_Pc [.ref x, .int i, .int j, .int u, .int v] (PB D cI cZ sz [(x, .inr (0, [.ref f0, .ref a0, .ref r0, .ref w0, .ref g0, .ref k0, .int 0, .int 3, .int 5])), (f0, .inr (1, [.int 2, .ref f1, .ref f2, .ref f3, .ref f4])), (a0, .inr (2, [.int 0, .ref a1, .ref a2, .ref a3, .ref a4, .ref a5, .ref a6, .ref a7, .ref a8, .ref a9, .ref a10, .ref a11])), (a1, .inl (cI, 24, .inl (fun _ => 0))), (a2, .inl (cI, 24, .inl (fun _ => 0))), (a3, .inl (cI, 24, .inl (fun _ => 0))), (a4, .inl (cI, 1536, .inl (fun _ => 0))), (a5, .inl (cI, 12, .inl (fun _ => 0))), (a6, .inl (cI, 12, .inl (fun _ => 0))), (a10, .inl (cI, 12, .inl (fun _ => 0))), (a11, .inl (cI, 12, .inl (fun _ => 0)))])) (va_Qi (S := Unit) (fun (r : Int32) uU => r = sp_pair i j u v) (fun uU tT => BB D (va_A [(x, .inr (0, [.ref f0, .ref a0, .ref r0, .ref w0, .ref g0, .ref k0, .int 0, .int 3, .int 5])), (f0, .inr (1, [.int 2, .ref f1, .ref f2, .ref f3, .ref f4])), (a0, .inr (2, [.int 0, .ref a1, .ref a2, .ref a3, .ref a4, .ref a5, .ref a6, .ref a7, .ref a8, .ref a9, .ref a10, .ref a11])), (a1, .inl (cI, 24, .inl (fun _ => 0))), (a2, .inl (cI, 24, .inl (fun _ => 0))), (a3, .inl (cI, 24, .inl (fun _ => 0))), (a4, .inl (cI, 1536, .inl (fun _ => 0))), (a5, .inl (cI, 12, .inl (fun _ => 0))), (a6, .inl (cI, 12, .inl (fun _ => 0))), (a10, .inl (cI, 12, .inl (fun _ => 0))), (a11, .inl (cI, 12, .inl (fun _ => 0)))] sz) [] tT) (va_A [(x, .inr (0, [.ref f0, .ref a0, .ref r0, .ref w0, .ref g0, .ref k0, .int 0, .int 3, .int 5])), (f0, .inr (1, [.int 2, .ref f1, .ref f2, .ref f3, .ref f4])), (a0, .inr (2, [.int 0, .ref a1, .ref a2, .ref a3, .ref a4, .ref a5, .ref a6, .ref a7, .ref a8, .ref a9, .ref a10, .ref a11])), (a1, .inl (cI, 24, .inl (fun _ => 0))), (a2, .inl (cI, 24, .inl (fun _ => 0))), (a3, .inl (cI, 24, .inl (fun _ => 0))), (a4, .inl (cI, 1536, .inl (fun _ => 0))), (a5, .inl (cI, 12, .inl (fun _ => 0))), (a6, .inl (cI, 12, .inl (fun _ => 0))), (a10, .inl (cI, 12, .inl (fun _ => 0))), (a11, .inl (cI, 12, .inl (fun _ => 0)))] sz)) 0 0 (va_A [(x, .inr (0, [.ref f0, .ref a0, .ref r0, .ref w0, .ref g0, .ref k0, .int 0, .int 3, .int 5])), (f0, .inr (1, [.int 2, .ref f1, .ref f2, .ref f3, .ref f4])), (a0, .inr (2, [.int 0, .ref a1, .ref a2, .ref a3, .ref a4, .ref a5, .ref a6, .ref a7, .ref a8, .ref a9, .ref a10, .ref a11])), (a1, .inl (cI, 24, .inl (fun _ => 0))), (a2, .inl (cI, 24, .inl (fun _ => 0))), (a3, .inl (cI, 24, .inl (fun _ => 0))), (a4, .inl (cI, 1536, .inl (fun _ => 0))), (a5, .inl (cI, 12, .inl (fun _ => 0))), (a6, .inl (cI, 12, .inl (fun _ => 0))), (a10, .inl (cI, 12, .inl (fun _ => 0))), (a11, .inl (cI, 12, .inl (fun _ => 0)))] sz) := by
  refine Met.ofW (cc := prog_1_method_3_code) (maxL := 5) (ret := (some .int)) (by decide) rfl ?_
  intro p e s m args below meth c s₁ B hml hv
  obtain ⟨rfl, hsz, hP, hK, hD0, hN⟩ := hv
  have hx := B.exec
  have hb := B.bytes
  have hr := B.returns
  have hts0 := atoms_spec (ws := mw ⟨"PromiseChains", "pair", "(IIII)I"⟩ prog_1_method_3_code 5 (some .int)) B.pre
  have hts : ∀ w ∈ tblG, w.before _ s = true := fun w h => hts0 w (List.mem_cons_of_mem _ h)
  have hown : s.vm.findClass "PromiseChains" = some m.cls := findClass_of_methodNamed B.named
  have hlocks := B.notSynchronized
  subst hsz
  have hD := hD0.self (sz := s.heap.size)
  generalize hAe : va_A [(x, .inr (0, [.ref f0, .ref a0, .ref r0, .ref w0, .ref g0, .ref k0, .int 0, .int 3, .int 5])), (f0, .inr (1, [.int 2, .ref f1, .ref f2, .ref f3, .ref f4])), (a0, .inr (2, [.int 0, .ref a1, .ref a2, .ref a3, .ref a4, .ref a5, .ref a6, .ref a7, .ref a8, .ref a9, .ref a10, .ref a11])), (a1, .inl (cI, 24, .inl (fun _ => 0))), (a2, .inl (cI, 24, .inl (fun _ => 0))), (a3, .inl (cI, 24, .inl (fun _ => 0))), (a4, .inl (cI, 1536, .inl (fun _ => 0))), (a5, .inl (cI, 12, .inl (fun _ => 0))), (a6, .inl (cI, 12, .inl (fun _ => 0))), (a10, .inl (cI, 12, .inl (fun _ => 0))), (a11, .inl (cI, 12, .inl (fun _ => 0)))] s.heap.size = A at hD ⊢
  have hA : ∀ q : Nat, s.heap.size ≤ q → A q := fun q h => by rw [← hAe]; exact Or.inr h
  have hS : va_S A s.heap s.heap [] := va_S.rf
  have hP : va_P D vwCl [(x, .inr (0, [.ref f0, .ref a0, .ref r0, .ref w0, .ref g0, .ref k0, .int 0, .int 3, .int 5])), (f0, .inr (1, [.int 2, .ref f1, .ref f2, .ref f3, .ref f4])), (a0, .inr (2, [.int 0, .ref a1, .ref a2, .ref a3, .ref a4, .ref a5, .ref a6, .ref a7, .ref a8, .ref a9, .ref a10, .ref a11])), (a1, .inl (cI, 24, .inl (fun _ => 0))), (a2, .inl (cI, 24, .inl (fun _ => 0))), (a3, .inl (cI, 24, .inl (fun _ => 0))), (a4, .inl (cI, 1536, .inl (fun _ => 0))), (a5, .inl (cI, 12, .inl (fun _ => 0))), (a6, .inl (cI, 12, .inl (fun _ => 0))), (a10, .inl (cI, 12, .inl (fun _ => 0))), (a11, .inl (cI, 12, .inl (fun _ => 0)))] s.heap := hP
  have hl := lv_entry ([.ref x, .int i, .int j, .int u, .int v]) (n := 5) (Nat.le_of_ble_eq_true rfl)
  rw [lg_entry_eq]
  generalize (lg_sl ([.ref x, .int i, .int j, .int u, .int v]) ++ List.replicate (5 - (lg_sl ([.ref x, .int i, .int j, .int u, .int v])).length) Slot.unset).toArray = ls at hl ⊢
  have hl : lv_has ls 5 [(0, .ref x), (1, .int i), (2, .int j), (3, .int u), (4, .int v)] := hl
  refine lv_aload_n hx hb d_PC_pair_0 rfl (lv_at hl 0 rfl) ?_
  refine va_get (D := D) (ci := 0) (v := .ref f0) (C := R_PC) (T := F_PC) (N := 9) hx hb hts i_PC hown hK hP 0 rfl rfl 0 (by decide) (hts _ q_256) (fun _ h9 => h9) rfl d_PC_pair_1 ?_
  refine lv_iload_n hx hb d_PC_pair_4 rfl (lv_at hl 1 rfl) ?_
  have hPc := hP.sub (ws' := [(f0, .inr (1, [.int 2, .ref f1, .ref f2, .ref f3, .ref f4]))]) [1] rfl
  have hDc := hD.sub (ws' := [(f0, .inr (1, [.int 2, .ref f1, .ref f2, .ref f3, .ref f4]))]) [1] (by decide) rfl
  refine vp_callSi (va_Run.run (va_runV (As := [.int i]) (rest := []) ⟨hx, hb, hml, hown, hts⟩ (f_PE_has l D cI cZ f0 i f1 f2 f3 f4 s.heap.size ) (my_cwV 1 hts q_302 q_299 q_300 q_301 q_2 rfl rfl (by decide +kernel) ⟨Nat.le_of_ble_eq_true rfl, Nat.le_of_ble_eq_true rfl⟩) (my_preV hPc hDc hK hN 1 0 rfl rfl) rfl rfl hl.1 rfl (lv_room (Nat.le_of_ble_eq_true rfl)) d_PC_pair_5 ⟨Nat.le_of_ble_eq_true rfl, Nat.le_of_ble_eq_true rfl⟩)) (fun r_1 hw_1 => ?_)
  have hw_1 : r_1 = isw i 0 1 := hw_1
  subst hw_1
  refine lv_if_eq (tgt := 27) hx hb d_PC_pair_8 (by decide) (fun h_2 => ?_) (fun h_2 => ?_)
  · refine lv_bipush (v := (-2)) hx hb d_PC_pair_27 (by decide) ?_
    have hP9 := hP.sub (ws' := []) [] rfl
    have hD9 := hD.sub (ws' := []) [] (by decide) rfl
    refine W.widen (k := 0) (n := 0) (Nat.le_of_ble_eq_true rfl) (Nat.le_of_ble_eq_true rfl) ?_
    exact W.iret (v := (-2)) hx hb hr (fun t ht hW => ⟨⟨(-2), (), rfl, (by first | decide | simp [sp_pair, h_2]), by rw [ht]; exact hP9, hD9⟩, hS.F ht⟩) hS.2.2 d_PC_pair_29
  · refine lv_aload_n hx hb d_PC_pair_11 rfl (lv_at hl 0 rfl) ?_
    refine va_get (D := D) (ci := 0) (v := .ref f0) (C := R_PC) (T := F_PC) (N := 9) hx hb hts i_PC hown hK hP 0 rfl rfl 0 (by decide) (hts _ q_256) (fun _ h9 => h9) rfl d_PC_pair_12 ?_
    refine lv_iload_n hx hb d_PC_pair_15 rfl (lv_at hl 2 rfl) ?_
    have hPc := hP.sub (ws' := [(f0, .inr (1, [.int 2, .ref f1, .ref f2, .ref f3, .ref f4]))]) [1] rfl
    have hDc := hD.sub (ws' := [(f0, .inr (1, [.int 2, .ref f1, .ref f2, .ref f3, .ref f4]))]) [1] (by decide) rfl
    refine vp_callSi (va_Run.run (va_runV (As := [.int j]) (rest := []) ⟨hx, hb, hml, hown, hts⟩ (f_PE_has l D cI cZ f0 j f1 f2 f3 f4 s.heap.size ) (my_cwV 1 hts q_302 q_299 q_300 q_301 q_2 rfl rfl (by decide +kernel) ⟨Nat.le_of_ble_eq_true rfl, Nat.le_of_ble_eq_true rfl⟩) (my_preV hPc hDc hK hN 1 0 rfl rfl) rfl rfl hl.1 rfl (lv_room (Nat.le_of_ble_eq_true rfl)) d_PC_pair_16 ⟨Nat.le_of_ble_eq_true rfl, Nat.le_of_ble_eq_true rfl⟩)) (fun r_3 hw_3 => ?_)
    have hw_3 : r_3 = isw j 0 1 := hw_3
    subst hw_3
    refine lv_if_eq (tgt := 27) hx hb d_PC_pair_19 (by decide) (fun h_4 => ?_) (fun h_4 => ?_)
    · refine lv_bipush (v := (-2)) hx hb d_PC_pair_27 (by decide) ?_
      have hP9 := hP.sub (ws' := []) [] rfl
      have hD9 := hD.sub (ws' := []) [] (by decide) rfl
      refine W.widen (k := 0) (n := 0) (Nat.le_of_ble_eq_true rfl) (Nat.le_of_ble_eq_true rfl) ?_
      exact W.iret (v := (-2)) hx hb hr (fun t ht hW => ⟨⟨(-2), (), rfl, (by first | decide | simp [sp_pair, h_2, h_4]), by rw [ht]; exact hP9, hD9⟩, hS.F ht⟩) hS.2.2 d_PC_pair_29
    · refine lv_iload_n hx hb d_PC_pair_22 rfl (lv_at hl 1 rfl) ?_
      refine lv_iload_n hx hb d_PC_pair_23 rfl (lv_at hl 2 rfl) ?_
      refine lv_icmp_ne (tgt := 30) hx hb d_PC_pair_24 (by decide) (fun h_5 => ?_) (fun h_5 => ?_)
      · refine lv_iload_n hx hb d_PC_pair_30 rfl (lv_at hl 3 rfl) ?_
        refine lv_iconst (v := 0) hx hb d_PC_pair_31 (by decide) ?_
        refine lv_ldc hx hb hown (hts _ q_304) d_PC_pair_32 ?_
        have hPc := hP.sub (ws' := []) [] rfl
        have hDc := hD.sub (ws' := []) [] (by decide) rfl
        refine vp_callSi (va_Run.run (va_runS (As := [.int u, .int 0, .int 100000]) (rest := []) ⟨hx, hb, hml, hown, hts⟩ (c_within l D cI cZ u 0 100000 s.heap.size ) (my_cwS 3 hts q_290 q_288 q_289 q_1 rfl rfl (by decide +kernel) ⟨Nat.le_of_ble_eq_true rfl, Nat.le_of_ble_eq_true rfl⟩) (my_preS hPc hDc hK hN) rfl rfl hl.1 rfl (lv_room (Nat.le_of_ble_eq_true rfl)) d_PC_pair_34 ⟨Nat.le_of_ble_eq_true rfl, Nat.le_of_ble_eq_true rfl⟩)) (fun r_6 hw_6 => ?_)
        have hw_6 : r_6 = isw u 0 100000 := hw_6
        subst hw_6
        refine lv_if_eq (tgt := 51) hx hb d_PC_pair_37 (by decide) (fun h_7 => ?_) (fun h_7 => ?_)
        · refine lv_bipush (v := (-2)) hx hb d_PC_pair_51 (by decide) ?_
          have hP9 := hP.sub (ws' := []) [] rfl
          have hD9 := hD.sub (ws' := []) [] (by decide) rfl
          refine W.widen (k := 0) (n := 0) (Nat.le_of_ble_eq_true rfl) (Nat.le_of_ble_eq_true rfl) ?_
          exact W.iret (v := (-2)) hx hb hr (fun t ht hW => ⟨⟨(-2), (), rfl, (by first | decide | simp [sp_pair, h_2, h_4, h_5, h_7]), by rw [ht]; exact hP9, hD9⟩, hS.F ht⟩) hS.2.2 d_PC_pair_53
        · refine lv_iload hx hb d_PC_pair_40 (lv_at hl 4 rfl) ?_
          refine lv_iconst (v := 0) hx hb d_PC_pair_42 (by decide) ?_
          refine lv_ldc hx hb hown (hts _ q_304) d_PC_pair_43 ?_
          have hPc := hP.sub (ws' := []) [] rfl
          have hDc := hD.sub (ws' := []) [] (by decide) rfl
          refine vp_callSi (va_Run.run (va_runS (As := [.int v, .int 0, .int 100000]) (rest := []) ⟨hx, hb, hml, hown, hts⟩ (c_within l D cI cZ v 0 100000 s.heap.size ) (my_cwS 3 hts q_290 q_288 q_289 q_1 rfl rfl (by decide +kernel) ⟨Nat.le_of_ble_eq_true rfl, Nat.le_of_ble_eq_true rfl⟩) (my_preS hPc hDc hK hN) rfl rfl hl.1 rfl (lv_room (Nat.le_of_ble_eq_true rfl)) d_PC_pair_45 ⟨Nat.le_of_ble_eq_true rfl, Nat.le_of_ble_eq_true rfl⟩)) (fun r_8 hw_8 => ?_)
          have hw_8 : r_8 = isw v 0 100000 := hw_8
          subst hw_8
          refine lv_if_ne (tgt := 54) hx hb d_PC_pair_48 (by decide) (fun h_9 => ?_) (fun h_9 => ?_)
          · refine lv_aload_n hx hb d_PC_pair_54 rfl (lv_at hl 0 rfl) ?_
            refine va_get (D := D) (ci := 0) (v := .ref a0) (C := R_PC) (T := F_PC) (N := 9) hx hb hts i_PC hown hK hP 0 rfl rfl 1 (by decide) (hts _ q_257) (fun _ h9 => h9) rfl d_PC_pair_55 ?_
            refine va_get (D := D) (ci := 2) (v := .int 0) (C := R_PA) (T := F_PA) (N := 12) hx hb hts i_PA hown hK hP 2 rfl rfl 0 (by decide) (hts _ q_57) (fun _ h9 => h9) rfl d_PC_pair_58 ?_
            refine lv_bipush (v := 12) hx hb d_PC_pair_61 (by decide) ?_
            refine lv_icmp_lt (tgt := 69) hx hb d_PC_pair_63 (by decide) (fun _ => ?_) (fun h => absurd h (by decide))
            refine lv_aload_n hx hb d_PC_pair_69 rfl (lv_at hl 0 rfl) ?_
            refine va_get (D := D) (ci := 0) (v := .ref a0) (C := R_PC) (T := F_PC) (N := 9) hx hb hts i_PC hown hK hP 0 rfl rfl 1 (by decide) (hts _ q_257) (fun _ h9 => h9) rfl d_PC_pair_70 ?_
            refine lv_iload_n hx hb d_PC_pair_73 rfl (lv_at hl 1 rfl) ?_
            refine lv_iload_n hx hb d_PC_pair_74 rfl (lv_at hl 2 rfl) ?_
            refine lv_iload_n hx hb d_PC_pair_75 rfl (lv_at hl 3 rfl) ?_
            refine lv_iload hx hb d_PC_pair_76 (lv_at hl 4 rfl) ?_
            have hPc := hP.sub (ws' := [(a0, .inr (2, [.int 0, .ref a1, .ref a2, .ref a3, .ref a4, .ref a5, .ref a6, .ref a7, .ref a8, .ref a9, .ref a10, .ref a11])), (a1, .inl (cI, 24, .inl (fun _ => 0))), (a2, .inl (cI, 24, .inl (fun _ => 0))), (a3, .inl (cI, 24, .inl (fun _ => 0))), (a4, .inl (cI, 1536, .inl (fun _ => 0))), (a5, .inl (cI, 12, .inl (fun _ => 0))), (a6, .inl (cI, 12, .inl (fun _ => 0))), (a10, .inl (cI, 12, .inl (fun _ => 0))), (a11, .inl (cI, 12, .inl (fun _ => 0)))]) [2, 3, 4, 5, 6, 7, 8, 9, 10] rfl
            have hDc := hD.sub (ws' := [(a0, .inr (2, [.int 0, .ref a1, .ref a2, .ref a3, .ref a4, .ref a5, .ref a6, .ref a7, .ref a8, .ref a9, .ref a10, .ref a11])), (a1, .inl (cI, 24, .inl (fun _ => 0))), (a2, .inl (cI, 24, .inl (fun _ => 0))), (a3, .inl (cI, 24, .inl (fun _ => 0))), (a4, .inl (cI, 1536, .inl (fun _ => 0))), (a5, .inl (cI, 12, .inl (fun _ => 0))), (a6, .inl (cI, 12, .inl (fun _ => 0))), (a10, .inl (cI, 12, .inl (fun _ => 0))), (a11, .inl (cI, 12, .inl (fun _ => 0)))]) [2, 3, 4, 5, 6, 7, 8, 9, 10] (by decide) rfl
            have hFc := va_free (wc := [(a0, .inr (2, [.int 0, .ref a1, .ref a2, .ref a3, .ref a4, .ref a5, .ref a6, .ref a7, .ref a8, .ref a9, .ref a10, .ref a11])), (a1, .inl (cI, 24, .inl (fun _ => 0))), (a2, .inl (cI, 24, .inl (fun _ => 0))), (a3, .inl (cI, 24, .inl (fun _ => 0))), (a4, .inl (cI, 1536, .inl (fun _ => 0))), (a5, .inl (cI, 12, .inl (fun _ => 0))), (a6, .inl (cI, 12, .inl (fun _ => 0))), (a10, .inl (cI, 12, .inl (fun _ => 0))), (a11, .inl (cI, 12, .inl (fun _ => 0)))]) hD hS hA [2, 3, 4, 5, 6, 7, 8, 9, 10] rfl
            refine va_calli (va_runV (As := [.int i, .int j, .int u, .int v]) (rest := []) ⟨hx, hb, hml, hown, hts⟩ (f_PA_add l D cI cZ a0 i j u v a1 a2 a3 a4 a5 a6 a7 a8 a9 a10 a11 s.heap.size ) (my_cwV 4 hts q_308 q_305 q_306 q_307 q_3 rfl rfl (by decide +kernel) ⟨Nat.le_of_ble_eq_true rfl, Nat.le_of_ble_eq_true rfl⟩) (my_preV hPc hDc hK hN 2 0 rfl rfl) rfl rfl hl.1 rfl (lv_room (Nat.le_of_ble_eq_true rfl)) d_PC_pair_78 ⟨Nat.le_of_ble_eq_true rfl, Nat.le_of_ble_eq_true rfl⟩) hS (fun q _ h => hFc q h) hFc (fun r_11 uU tT H_12 locs ht hvm hw_11 hB hz1 hk1 hS => ?_)
            obtain ⟨hP1, hD1⟩ := hB
            rw [ht] at hP1
            obtain ⟨hP, hD⟩ := va_join (wr := [(x, .inr (0, [.ref f0, .ref a0, .ref r0, .ref w0, .ref g0, .ref k0, .int 0, .int 3, .int 5])), (f0, .inr (1, [.int 2, .ref f1, .ref f2, .ref f3, .ref f4]))]) (w1 := []) hP hD [2, 3, 4, 5, 6, 7, 8, 9, 10] [0, 1] rfl rfl (by decide) (by decide) hk1 hFc hP1 hD1
            have hP : va_P D vwCl [(x, .inr (0, [.ref f0, .ref a0, .ref r0, .ref w0, .ref g0, .ref k0, .int 0, .int 3, .int 5])), (f0, .inr (1, [.int 2, .ref f1, .ref f2, .ref f3, .ref f4]))] H_12 := hP
            have hD : va_D A [(x, .inr (0, [.ref f0, .ref a0, .ref r0, .ref w0, .ref g0, .ref k0, .int 0, .int 3, .int 5])), (f0, .inr (1, [.int 2, .ref f1, .ref f2, .ref f3, .ref f4]))] := hD
            have hw_11 : r_11 = 0 := hw_11
            subst hw_11
            have hP9 := hP.sub (ws' := []) [] rfl
            have hD9 := hD.sub (ws' := []) [] (by decide) rfl
            refine W.widen (k := 0) (n := 0) (Nat.le_of_ble_eq_true rfl) (Nat.le_of_ble_eq_true rfl) ?_
            exact W.iret (v := 0) hx hb hr (fun t ht hW => ⟨⟨0, (), rfl, (by first | decide | simp [sp_pair, h_2, h_4, h_5, h_7, h_9]), by rw [ht]; exact hP9, hD9⟩, hS.F ht⟩) hS.2.2 d_PC_pair_81
          · refine lv_bipush (v := (-2)) hx hb d_PC_pair_51 (by decide) ?_
            have hP9 := hP.sub (ws' := []) [] rfl
            have hD9 := hD.sub (ws' := []) [] (by decide) rfl
            refine W.widen (k := 0) (n := 0) (Nat.le_of_ble_eq_true rfl) (Nat.le_of_ble_eq_true rfl) ?_
            exact W.iret (v := (-2)) hx hb hr (fun t ht hW => ⟨⟨(-2), (), rfl, (by first | decide | simp [sp_pair, h_2, h_4, h_5, h_7, h_9]), by rw [ht]; exact hP9, hD9⟩, hS.F ht⟩) hS.2.2 d_PC_pair_53
      · refine lv_bipush (v := (-2)) hx hb d_PC_pair_27 (by decide) ?_
        have hP9 := hP.sub (ws' := []) [] rfl
        have hD9 := hD.sub (ws' := []) [] (by decide) rfl
        refine W.widen (k := 0) (n := 0) (Nat.le_of_ble_eq_true rfl) (Nat.le_of_ble_eq_true rfl) ?_
        exact W.iret (v := (-2)) hx hb hr (fun t ht hW => ⟨⟨(-2), (), rfl, (by first | decide | simp [sp_pair, h_2, h_4, h_5]), by rw [ht]; exact hP9, hD9⟩, hS.F ht⟩) hS.2.2 d_PC_pair_29

set_option maxHeartbeats 4000000 in
set_option maxRecDepth 100000 in
theorem f_PC_fee (l : Launch) (D : va_G) (cI cZ : ClassId) (x : Nat) (i : Int32) (u : Int32) (v : Int32) (f0 : Nat) (a0 : Nat) (r0 : Nat) (w0 : Nat) (g0 : Nat) (k0 : Nat) (f1 : Nat) (f2 : Nat) (f3 : Nat) (f4 : Nat) (sz : Nat)  : Met l ⟨"PromiseChains", "fee", "(III)I"⟩ (mw ⟨"PromiseChains", "fee", "(III)I"⟩ prog_1_method_4_code 4 (some .int)) ({ frames := 2, cells := 0, slots := 0, locals := 43 }) (va_Pc [.ref x, .int i, .int u, .int v] (PB D cI cZ sz [(x, .inr (0, [.ref f0, .ref a0, .ref r0, .ref w0, .ref g0, .ref k0, .int 0, .int 3, .int 5])), (f0, .inr (1, [.int 2, .ref f1, .ref f2, .ref f3, .ref f4])), (f2, .inl (cI, 7, .inl (fun _ => 0))), (f3, .inl (cI, 7, .inl (fun _ => 0)))])) (va_Qi (S := Unit) (fun (r : Int32) uU => r = sp_fee i u v) (fun uU tT => BB D (va_A [(x, .inr (0, [.ref f0, .ref a0, .ref r0, .ref w0, .ref g0, .ref k0, .int 0, .int 3, .int 5])), (f0, .inr (1, [.int 2, .ref f1, .ref f2, .ref f3, .ref f4])), (f2, .inl (cI, 7, .inl (fun _ => 0))), (f3, .inl (cI, 7, .inl (fun _ => 0)))] sz) [] tT) (va_A [(x, .inr (0, [.ref f0, .ref a0, .ref r0, .ref w0, .ref g0, .ref k0, .int 0, .int 3, .int 5])), (f0, .inr (1, [.int 2, .ref f1, .ref f2, .ref f3, .ref f4])), (f2, .inl (cI, 7, .inl (fun _ => 0))), (f3, .inl (cI, 7, .inl (fun _ => 0)))] sz)) 0 0 (va_A [(x, .inr (0, [.ref f0, .ref a0, .ref r0, .ref w0, .ref g0, .ref k0, .int 0, .int 3, .int 5])), (f0, .inr (1, [.int 2, .ref f1, .ref f2, .ref f3, .ref f4])), (f2, .inl (cI, 7, .inl (fun _ => 0))), (f3, .inl (cI, 7, .inl (fun _ => 0)))] sz) := by
  refine Met.ofW (cc := prog_1_method_4_code) (maxL := 4) (ret := (some .int)) (by decide) rfl ?_
  intro p e s m args below meth c s₁ B hml hv
  obtain ⟨rfl, hsz, hP, hK, hD0, hN⟩ := hv
  have hx := B.exec
  have hb := B.bytes
  have hr := B.returns
  have hts0 := atoms_spec (ws := mw ⟨"PromiseChains", "fee", "(III)I"⟩ prog_1_method_4_code 4 (some .int)) B.pre
  have hts : ∀ w ∈ tblG, w.before _ s = true := fun w h => hts0 w (List.mem_cons_of_mem _ h)
  have hown : s.vm.findClass "PromiseChains" = some m.cls := findClass_of_methodNamed B.named
  have hlocks := B.notSynchronized
  subst hsz
  have hD := hD0.self (sz := s.heap.size)
  generalize hAe : va_A [(x, .inr (0, [.ref f0, .ref a0, .ref r0, .ref w0, .ref g0, .ref k0, .int 0, .int 3, .int 5])), (f0, .inr (1, [.int 2, .ref f1, .ref f2, .ref f3, .ref f4])), (f2, .inl (cI, 7, .inl (fun _ => 0))), (f3, .inl (cI, 7, .inl (fun _ => 0)))] s.heap.size = A at hD ⊢
  have hA : ∀ q : Nat, s.heap.size ≤ q → A q := fun q h => by rw [← hAe]; exact Or.inr h
  have hS : va_S A s.heap s.heap [] := va_S.rf
  have hP : va_P D vwCl [(x, .inr (0, [.ref f0, .ref a0, .ref r0, .ref w0, .ref g0, .ref k0, .int 0, .int 3, .int 5])), (f0, .inr (1, [.int 2, .ref f1, .ref f2, .ref f3, .ref f4])), (f2, .inl (cI, 7, .inl (fun _ => 0))), (f3, .inl (cI, 7, .inl (fun _ => 0)))] s.heap := hP
  have hl := lv_entry ([.ref x, .int i, .int u, .int v]) (n := 4) (Nat.le_of_ble_eq_true rfl)
  rw [lg_entry_eq]
  generalize (lg_sl ([.ref x, .int i, .int u, .int v]) ++ List.replicate (4 - (lg_sl ([.ref x, .int i, .int u, .int v])).length) Slot.unset).toArray = ls at hl ⊢
  have hl : lv_has ls 4 [(0, .ref x), (1, .int i), (2, .int u), (3, .int v)] := hl
  refine lv_aload_n hx hb d_PC_fee_0 rfl (lv_at hl 0 rfl) ?_
  refine va_get (D := D) (ci := 0) (v := .ref f0) (C := R_PC) (T := F_PC) (N := 9) hx hb hts i_PC hown hK hP 0 rfl rfl 0 (by decide) (hts _ q_256) (fun _ h9 => h9) rfl d_PC_fee_1 ?_
  refine lv_iload_n hx hb d_PC_fee_4 rfl (lv_at hl 1 rfl) ?_
  have hPc := hP.sub (ws' := [(f0, .inr (1, [.int 2, .ref f1, .ref f2, .ref f3, .ref f4]))]) [1] rfl
  have hDc := hD.sub (ws' := [(f0, .inr (1, [.int 2, .ref f1, .ref f2, .ref f3, .ref f4]))]) [1] (by decide) rfl
  refine vp_callSi (va_Run.run (va_runV (As := [.int i]) (rest := []) ⟨hx, hb, hml, hown, hts⟩ (f_PE_has l D cI cZ f0 i f1 f2 f3 f4 s.heap.size ) (my_cwV 1 hts q_302 q_299 q_300 q_301 q_2 rfl rfl (by decide +kernel) ⟨Nat.le_of_ble_eq_true rfl, Nat.le_of_ble_eq_true rfl⟩) (my_preV hPc hDc hK hN 1 0 rfl rfl) rfl rfl hl.1 rfl (lv_room (Nat.le_of_ble_eq_true rfl)) d_PC_fee_5 ⟨Nat.le_of_ble_eq_true rfl, Nat.le_of_ble_eq_true rfl⟩)) (fun r_1 hw_1 => ?_)
  have hw_1 : r_1 = isw i 0 1 := hw_1
  subst hw_1
  refine lv_if_eq (tgt := 31) hx hb d_PC_fee_8 (by decide) (fun h_2 => ?_) (fun h_2 => ?_)
  · refine lv_bipush (v := (-2)) hx hb d_PC_fee_31 (by decide) ?_
    have hP9 := hP.sub (ws' := []) [] rfl
    have hD9 := hD.sub (ws' := []) [] (by decide) rfl
    refine W.widen (k := 0) (n := 0) (Nat.le_of_ble_eq_true rfl) (Nat.le_of_ble_eq_true rfl) ?_
    exact W.iret (v := (-2)) hx hb hr (fun t ht hW => ⟨⟨(-2), (), rfl, (by first | decide | simp [sp_fee, h_2]), by rw [ht]; exact hP9, hD9⟩, hS.F ht⟩) hS.2.2 d_PC_fee_33
  · refine lv_iload_n hx hb d_PC_fee_11 rfl (lv_at hl 2 rfl) ?_
    refine lv_iconst (v := 0) hx hb d_PC_fee_12 (by decide) ?_
    refine lv_bipush (v := 100) hx hb d_PC_fee_13 (by decide) ?_
    have hPc := hP.sub (ws' := []) [] rfl
    have hDc := hD.sub (ws' := []) [] (by decide) rfl
    refine vp_callSi (va_Run.run (va_runS (As := [.int u, .int 0, .int 100]) (rest := []) ⟨hx, hb, hml, hown, hts⟩ (c_within l D cI cZ u 0 100 s.heap.size ) (my_cwS 3 hts q_290 q_288 q_289 q_1 rfl rfl (by decide +kernel) ⟨Nat.le_of_ble_eq_true rfl, Nat.le_of_ble_eq_true rfl⟩) (my_preS hPc hDc hK hN) rfl rfl hl.1 rfl (lv_room (Nat.le_of_ble_eq_true rfl)) d_PC_fee_15 ⟨Nat.le_of_ble_eq_true rfl, Nat.le_of_ble_eq_true rfl⟩)) (fun r_3 hw_3 => ?_)
    have hw_3 : r_3 = isw u 0 100 := hw_3
    subst hw_3
    refine lv_if_eq (tgt := 31) hx hb d_PC_fee_18 (by decide) (fun h_4 => ?_) (fun h_4 => ?_)
    · refine lv_bipush (v := (-2)) hx hb d_PC_fee_31 (by decide) ?_
      have hP9 := hP.sub (ws' := []) [] rfl
      have hD9 := hD.sub (ws' := []) [] (by decide) rfl
      refine W.widen (k := 0) (n := 0) (Nat.le_of_ble_eq_true rfl) (Nat.le_of_ble_eq_true rfl) ?_
      exact W.iret (v := (-2)) hx hb hr (fun t ht hW => ⟨⟨(-2), (), rfl, (by first | decide | simp [sp_fee, h_2, h_4]), by rw [ht]; exact hP9, hD9⟩, hS.F ht⟩) hS.2.2 d_PC_fee_33
    · refine lv_iload_n hx hb d_PC_fee_21 rfl (lv_at hl 3 rfl) ?_
      refine lv_iconst (v := 0) hx hb d_PC_fee_22 (by decide) ?_
      refine lv_bipush (v := 100) hx hb d_PC_fee_23 (by decide) ?_
      have hPc := hP.sub (ws' := []) [] rfl
      have hDc := hD.sub (ws' := []) [] (by decide) rfl
      refine vp_callSi (va_Run.run (va_runS (As := [.int v, .int 0, .int 100]) (rest := []) ⟨hx, hb, hml, hown, hts⟩ (c_within l D cI cZ v 0 100 s.heap.size ) (my_cwS 3 hts q_290 q_288 q_289 q_1 rfl rfl (by decide +kernel) ⟨Nat.le_of_ble_eq_true rfl, Nat.le_of_ble_eq_true rfl⟩) (my_preS hPc hDc hK hN) rfl rfl hl.1 rfl (lv_room (Nat.le_of_ble_eq_true rfl)) d_PC_fee_25 ⟨Nat.le_of_ble_eq_true rfl, Nat.le_of_ble_eq_true rfl⟩)) (fun r_5 hw_5 => ?_)
      have hw_5 : r_5 = isw v 0 100 := hw_5
      subst hw_5
      refine lv_if_ne (tgt := 34) hx hb d_PC_fee_28 (by decide) (fun h_6 => ?_) (fun h_6 => ?_)
      · refine lv_aload_n hx hb d_PC_fee_34 rfl (lv_at hl 0 rfl) ?_
        refine va_get (D := D) (ci := 0) (v := .ref f0) (C := R_PC) (T := F_PC) (N := 9) hx hb hts i_PC hown hK hP 0 rfl rfl 0 (by decide) (hts _ q_256) (fun _ h9 => h9) rfl d_PC_fee_35 ?_
        refine va_get (D := D) (ci := 1) (v := .ref f2) (C := R_PE) (T := F_PE) (N := 5) hx hb hts i_PE hown hK hP 1 rfl rfl 2 (by decide) (hts _ q_30) (fun _ h9 => h9) rfl d_PC_fee_38 ?_
        refine lv_iload_n hx hb d_PC_fee_41 rfl (lv_at hl 1 rfl) ?_
        refine lv_iload_n hx hb d_PC_fee_42 rfl (lv_at hl 2 rfl) ?_
        refine va_iast hx hb hK hP hD hS 2 0 rfl rfl (isw_in h_2 (by decide)) d_PC_fee_43 (fun H_7 locs hP hD hS => ?_)
        have hP : va_P D vwCl [(x, .inr (0, [.ref f0, .ref a0, .ref r0, .ref w0, .ref g0, .ref k0, .int 0, .int 3, .int 5])), (f0, .inr (1, [.int 2, .ref f1, .ref f2, .ref f3, .ref f4])), (f2, .inl (cI, 7, .inl (upd (fun _ => 0) i.toNatClampNeg u))), (f3, .inl (cI, 7, .inl (fun _ => 0)))] H_7 := hP
        have hD : va_D A [(x, .inr (0, [.ref f0, .ref a0, .ref r0, .ref w0, .ref g0, .ref k0, .int 0, .int 3, .int 5])), (f0, .inr (1, [.int 2, .ref f1, .ref f2, .ref f3, .ref f4])), (f2, .inl (cI, 7, .inl (upd (fun _ => 0) i.toNatClampNeg u))), (f3, .inl (cI, 7, .inl (fun _ => 0)))] := hD
        refine lv_aload_n hx hb d_PC_fee_44 rfl (lv_at hl 0 rfl) ?_
        refine va_get (D := D) (ci := 0) (v := .ref f0) (C := R_PC) (T := F_PC) (N := 9) hx hb hts i_PC hown hK hP 0 rfl rfl 0 (by decide) (hts _ q_256) (fun _ h9 => h9) rfl d_PC_fee_45 ?_
        refine va_get (D := D) (ci := 1) (v := .ref f3) (C := R_PE) (T := F_PE) (N := 5) hx hb hts i_PE hown hK hP 1 rfl rfl 3 (by decide) (hts _ q_32) (fun _ h9 => h9) rfl d_PC_fee_48 ?_
        refine lv_iload_n hx hb d_PC_fee_51 rfl (lv_at hl 1 rfl) ?_
        refine lv_iload_n hx hb d_PC_fee_52 rfl (lv_at hl 3 rfl) ?_
        refine va_iast hx hb hK hP hD hS 3 0 rfl rfl (isw_in h_2 (by decide)) d_PC_fee_53 (fun H_8 locs hP hD hS => ?_)
        have hP : va_P D vwCl [(x, .inr (0, [.ref f0, .ref a0, .ref r0, .ref w0, .ref g0, .ref k0, .int 0, .int 3, .int 5])), (f0, .inr (1, [.int 2, .ref f1, .ref f2, .ref f3, .ref f4])), (f2, .inl (cI, 7, .inl (upd (fun _ => 0) i.toNatClampNeg u))), (f3, .inl (cI, 7, .inl (upd (fun _ => 0) i.toNatClampNeg v)))] H_8 := hP
        have hD : va_D A [(x, .inr (0, [.ref f0, .ref a0, .ref r0, .ref w0, .ref g0, .ref k0, .int 0, .int 3, .int 5])), (f0, .inr (1, [.int 2, .ref f1, .ref f2, .ref f3, .ref f4])), (f2, .inl (cI, 7, .inl (upd (fun _ => 0) i.toNatClampNeg u))), (f3, .inl (cI, 7, .inl (upd (fun _ => 0) i.toNatClampNeg v)))] := hD
        refine lv_iconst (v := 1) hx hb d_PC_fee_54 (by decide) ?_
        have hP9 := hP.sub (ws' := []) [] rfl
        have hD9 := hD.sub (ws' := []) [] (by decide) rfl
        refine W.widen (k := 0) (n := 0) (Nat.le_of_ble_eq_true rfl) (Nat.le_of_ble_eq_true rfl) ?_
        exact W.iret (v := 1) hx hb hr (fun t ht hW => ⟨⟨1, (), rfl, (by first | decide | simp [sp_fee, h_2, h_4, h_6]), by rw [ht]; exact hP9, hD9⟩, hS.F ht⟩) hS.2.2 d_PC_fee_55
      · refine lv_bipush (v := (-2)) hx hb d_PC_fee_31 (by decide) ?_
        have hP9 := hP.sub (ws' := []) [] rfl
        have hD9 := hD.sub (ws' := []) [] (by decide) rfl
        refine W.widen (k := 0) (n := 0) (Nat.le_of_ble_eq_true rfl) (Nat.le_of_ble_eq_true rfl) ?_
        exact W.iret (v := (-2)) hx hb hr (fun t ht hW => ⟨⟨(-2), (), rfl, (by first | decide | simp [sp_fee, h_2, h_4, h_6]), by rw [ht]; exact hP9, hD9⟩, hS.F ht⟩) hS.2.2 d_PC_fee_33

set_option maxHeartbeats 4000000 in
set_option maxRecDepth 100000 in
theorem f_PC_gap (l : Launch) (D : va_G) (cI cZ : ClassId) (x : Nat) (v : Int32) (f0 : Nat) (a0 : Nat) (r0 : Nat) (w0 : Nat) (g0 : Nat) (k0 : Nat) (sz : Nat)  : Met l ⟨"PromiseChains", "gap", "(I)I"⟩ (mw ⟨"PromiseChains", "gap", "(I)I"⟩ prog_1_method_5_code 3 (some .int)) ({ frames := 1, cells := 0, slots := 0, locals := 22 }) (va_Pc [.ref x, .int v] (PB D cI cZ sz [(x, .inr (0, [.ref f0, .ref a0, .ref r0, .ref w0, .ref g0, .ref k0, .int 0, .int 3, .int 5]))])) (va_Qi (S := Unit) (fun (r : Int32) uU => r = sp_gap v) (fun uU tT => BB D (va_A [(x, .inr (0, [.ref f0, .ref a0, .ref r0, .ref w0, .ref g0, .ref k0, .int 0, .int 3, .int 5]))] sz) [] tT) (va_A [(x, .inr (0, [.ref f0, .ref a0, .ref r0, .ref w0, .ref g0, .ref k0, .int 0, .int 3, .int 5]))] sz)) 0 0 (va_A [(x, .inr (0, [.ref f0, .ref a0, .ref r0, .ref w0, .ref g0, .ref k0, .int 0, .int 3, .int 5]))] sz) := by
  refine Met.ofW (cc := prog_1_method_5_code) (maxL := 3) (ret := (some .int)) (by decide) rfl ?_
  intro p e s m args below meth c s₁ B hml hv
  obtain ⟨rfl, hsz, hP, hK, hD0, hN⟩ := hv
  have hx := B.exec
  have hb := B.bytes
  have hr := B.returns
  have hts0 := atoms_spec (ws := mw ⟨"PromiseChains", "gap", "(I)I"⟩ prog_1_method_5_code 3 (some .int)) B.pre
  have hts : ∀ w ∈ tblG, w.before _ s = true := fun w h => hts0 w (List.mem_cons_of_mem _ h)
  have hown : s.vm.findClass "PromiseChains" = some m.cls := findClass_of_methodNamed B.named
  have hlocks := B.notSynchronized
  subst hsz
  have hD := hD0.self (sz := s.heap.size)
  generalize hAe : va_A [(x, .inr (0, [.ref f0, .ref a0, .ref r0, .ref w0, .ref g0, .ref k0, .int 0, .int 3, .int 5]))] s.heap.size = A at hD ⊢
  have hA : ∀ q : Nat, s.heap.size ≤ q → A q := fun q h => by rw [← hAe]; exact Or.inr h
  have hS : va_S A s.heap s.heap [] := va_S.rf
  have hP : va_P D vwCl [(x, .inr (0, [.ref f0, .ref a0, .ref r0, .ref w0, .ref g0, .ref k0, .int 0, .int 3, .int 5]))] s.heap := hP
  have hl := lv_entry ([.ref x, .int v]) (n := 3) (Nat.le_of_ble_eq_true rfl)
  rw [lg_entry_eq]
  generalize (lg_sl ([.ref x, .int v]) ++ List.replicate (3 - (lg_sl ([.ref x, .int v])).length) Slot.unset).toArray = ls at hl ⊢
  have hl : lv_has ls 3 [(0, .ref x), (1, .int v)] := hl
  refine lv_iload_n hx hb d_PC_gap_0 rfl (lv_at hl 1 rfl) ?_
  refine lv_iconst (v := 1) hx hb d_PC_gap_1 (by decide) ?_
  refine lv_bipush (v := 50) hx hb d_PC_gap_2 (by decide) ?_
  have hPc := hP.sub (ws' := []) [] rfl
  have hDc := hD.sub (ws' := []) [] (by decide) rfl
  refine vp_callSi (va_Run.run (va_runS (As := [.int v, .int 1, .int 50]) (rest := []) ⟨hx, hb, hml, hown, hts⟩ (c_within l D cI cZ v 1 50 s.heap.size ) (my_cwS 3 hts q_290 q_288 q_289 q_1 rfl rfl (by decide +kernel) ⟨Nat.le_of_ble_eq_true rfl, Nat.le_of_ble_eq_true rfl⟩) (my_preS hPc hDc hK hN) rfl rfl hl.1 rfl (lv_room (Nat.le_of_ble_eq_true rfl)) d_PC_gap_4 ⟨Nat.le_of_ble_eq_true rfl, Nat.le_of_ble_eq_true rfl⟩)) (fun r_1 hw_1 => ?_)
  have hw_1 : r_1 = isw v 1 50 := hw_1
  subst hw_1
  refine lv_if_ne (tgt := 13) hx hb d_PC_gap_7 (by decide) (fun h_2 => ?_) (fun h_2 => ?_)
  · refine lv_aload_n hx hb d_PC_gap_13 rfl (lv_at hl 0 rfl) ?_
    refine va_get (D := D) (ci := 0) (v := .int 3) (C := R_PC) (T := F_PC) (N := 9) hx hb hts i_PC hown hK hP 0 rfl rfl 7 (by decide) (hts _ q_263) (fun _ h9 => h9) rfl d_PC_gap_14 ?_
    refine lv_istore_n (lv' := [(2, .int 3), (0, .ref x), (1, .int v)]) hx hb d_PC_gap_17 rfl hl (by decide) rfl (fun ls hl => ?_)
    refine lv_aload_n hx hb d_PC_gap_18 rfl (lv_at hl 1 rfl) ?_
    refine lv_iload_n hx hb d_PC_gap_19 rfl (lv_at hl 2 rfl) ?_
    refine va_put (D := D) (ci := 0) (v := .int v) (ty := .int) (C := R_PC) (T := F_PC) (N := 9) hx hb hts i_PC t_PC t_PC_ok n_PC hown hK hP hD hS 0 rfl rfl 7 (by decide) (hts _ q_263) (fun _ h9 => h9) rfl (by decide +kernel) rfl rfl (Nat.le_of_ble_eq_true rfl) d_PC_gap_20 (fun H_3 locs hP hD hS => ?_)
    have hP : va_P D vwCl [(x, .inr (0, [.ref f0, .ref a0, .ref r0, .ref w0, .ref g0, .ref k0, .int 0, .int v, .int 5]))] H_3 := hP
    have hD : va_D A [(x, .inr (0, [.ref f0, .ref a0, .ref r0, .ref w0, .ref g0, .ref k0, .int 0, .int v, .int 5]))] := hD
    refine lv_iload_n hx hb d_PC_gap_23 rfl (lv_at hl 0 rfl) ?_
    have hP9 := hP.sub (ws' := []) [] rfl
    have hD9 := hD.sub (ws' := []) [] (by decide) rfl
    refine W.widen (k := 0) (n := 0) (Nat.le_of_ble_eq_true rfl) (Nat.le_of_ble_eq_true rfl) ?_
    exact W.iret (v := 3) hx hb hr (fun t ht hW => ⟨⟨3, (), rfl, (by first | decide | simp [sp_gap, h_2]), by rw [ht]; exact hP9, hD9⟩, hS.F ht⟩) hS.2.2 d_PC_gap_24
  · refine lv_bipush (v := (-2)) hx hb d_PC_gap_10 (by decide) ?_
    have hP9 := hP.sub (ws' := []) [] rfl
    have hD9 := hD.sub (ws' := []) [] (by decide) rfl
    refine W.widen (k := 0) (n := 0) (Nat.le_of_ble_eq_true rfl) (Nat.le_of_ble_eq_true rfl) ?_
    exact W.iret (v := (-2)) hx hb hr (fun t ht hW => ⟨⟨(-2), (), rfl, (by first | decide | simp [sp_gap, h_2]), by rw [ht]; exact hP9, hD9⟩, hS.F ht⟩) hS.2.2 d_PC_gap_12

set_option maxHeartbeats 4000000 in
set_option maxRecDepth 100000 in
theorem f_PC_look (l : Launch) (D : va_G) (cI cZ : ClassId) (x : Nat) (v : Int32) (f0 : Nat) (a0 : Nat) (r0 : Nat) (w0 : Nat) (g0 : Nat) (k0 : Nat) (sz : Nat)  : Met l ⟨"PromiseChains", "look", "(I)I"⟩ (mw ⟨"PromiseChains", "look", "(I)I"⟩ prog_1_method_6_code 3 (some .int)) ({ frames := 1, cells := 0, slots := 0, locals := 22 }) (va_Pc [.ref x, .int v] (PB D cI cZ sz [(x, .inr (0, [.ref f0, .ref a0, .ref r0, .ref w0, .ref g0, .ref k0, .int 0, .int 3, .int 5]))])) (va_Qi (S := Unit) (fun (r : Int32) uU => r = sp_look v) (fun uU tT => BB D (va_A [(x, .inr (0, [.ref f0, .ref a0, .ref r0, .ref w0, .ref g0, .ref k0, .int 0, .int 3, .int 5]))] sz) [] tT) (va_A [(x, .inr (0, [.ref f0, .ref a0, .ref r0, .ref w0, .ref g0, .ref k0, .int 0, .int 3, .int 5]))] sz)) 0 0 (va_A [(x, .inr (0, [.ref f0, .ref a0, .ref r0, .ref w0, .ref g0, .ref k0, .int 0, .int 3, .int 5]))] sz) := by
  refine Met.ofW (cc := prog_1_method_6_code) (maxL := 3) (ret := (some .int)) (by decide) rfl ?_
  intro p e s m args below meth c s₁ B hml hv
  obtain ⟨rfl, hsz, hP, hK, hD0, hN⟩ := hv
  have hx := B.exec
  have hb := B.bytes
  have hr := B.returns
  have hts0 := atoms_spec (ws := mw ⟨"PromiseChains", "look", "(I)I"⟩ prog_1_method_6_code 3 (some .int)) B.pre
  have hts : ∀ w ∈ tblG, w.before _ s = true := fun w h => hts0 w (List.mem_cons_of_mem _ h)
  have hown : s.vm.findClass "PromiseChains" = some m.cls := findClass_of_methodNamed B.named
  have hlocks := B.notSynchronized
  subst hsz
  have hD := hD0.self (sz := s.heap.size)
  generalize hAe : va_A [(x, .inr (0, [.ref f0, .ref a0, .ref r0, .ref w0, .ref g0, .ref k0, .int 0, .int 3, .int 5]))] s.heap.size = A at hD ⊢
  have hA : ∀ q : Nat, s.heap.size ≤ q → A q := fun q h => by rw [← hAe]; exact Or.inr h
  have hS : va_S A s.heap s.heap [] := va_S.rf
  have hP : va_P D vwCl [(x, .inr (0, [.ref f0, .ref a0, .ref r0, .ref w0, .ref g0, .ref k0, .int 0, .int 3, .int 5]))] s.heap := hP
  have hl := lv_entry ([.ref x, .int v]) (n := 3) (Nat.le_of_ble_eq_true rfl)
  rw [lg_entry_eq]
  generalize (lg_sl ([.ref x, .int v]) ++ List.replicate (3 - (lg_sl ([.ref x, .int v])).length) Slot.unset).toArray = ls at hl ⊢
  have hl : lv_has ls 3 [(0, .ref x), (1, .int v)] := hl
  refine lv_iload_n hx hb d_PC_look_0 rfl (lv_at hl 1 rfl) ?_
  refine lv_iconst (v := 1) hx hb d_PC_look_1 (by decide) ?_
  refine lv_bipush (v := 50) hx hb d_PC_look_2 (by decide) ?_
  have hPc := hP.sub (ws' := []) [] rfl
  have hDc := hD.sub (ws' := []) [] (by decide) rfl
  refine vp_callSi (va_Run.run (va_runS (As := [.int v, .int 1, .int 50]) (rest := []) ⟨hx, hb, hml, hown, hts⟩ (c_within l D cI cZ v 1 50 s.heap.size ) (my_cwS 3 hts q_290 q_288 q_289 q_1 rfl rfl (by decide +kernel) ⟨Nat.le_of_ble_eq_true rfl, Nat.le_of_ble_eq_true rfl⟩) (my_preS hPc hDc hK hN) rfl rfl hl.1 rfl (lv_room (Nat.le_of_ble_eq_true rfl)) d_PC_look_4 ⟨Nat.le_of_ble_eq_true rfl, Nat.le_of_ble_eq_true rfl⟩)) (fun r_1 hw_1 => ?_)
  have hw_1 : r_1 = isw v 1 50 := hw_1
  subst hw_1
  refine lv_if_ne (tgt := 13) hx hb d_PC_look_7 (by decide) (fun h_2 => ?_) (fun h_2 => ?_)
  · refine lv_aload_n hx hb d_PC_look_13 rfl (lv_at hl 0 rfl) ?_
    refine va_get (D := D) (ci := 0) (v := .int 5) (C := R_PC) (T := F_PC) (N := 9) hx hb hts i_PC hown hK hP 0 rfl rfl 8 (by decide) (hts _ q_264) (fun _ h9 => h9) rfl d_PC_look_14 ?_
    refine lv_istore_n (lv' := [(2, .int 5), (0, .ref x), (1, .int v)]) hx hb d_PC_look_17 rfl hl (by decide) rfl (fun ls hl => ?_)
    refine lv_aload_n hx hb d_PC_look_18 rfl (lv_at hl 1 rfl) ?_
    refine lv_iload_n hx hb d_PC_look_19 rfl (lv_at hl 2 rfl) ?_
    refine va_put (D := D) (ci := 0) (v := .int v) (ty := .int) (C := R_PC) (T := F_PC) (N := 9) hx hb hts i_PC t_PC t_PC_ok n_PC hown hK hP hD hS 0 rfl rfl 8 (by decide) (hts _ q_264) (fun _ h9 => h9) rfl (by decide +kernel) rfl rfl (Nat.le_of_ble_eq_true rfl) d_PC_look_20 (fun H_3 locs hP hD hS => ?_)
    have hP : va_P D vwCl [(x, .inr (0, [.ref f0, .ref a0, .ref r0, .ref w0, .ref g0, .ref k0, .int 0, .int 3, .int v]))] H_3 := hP
    have hD : va_D A [(x, .inr (0, [.ref f0, .ref a0, .ref r0, .ref w0, .ref g0, .ref k0, .int 0, .int 3, .int v]))] := hD
    refine lv_iload_n hx hb d_PC_look_23 rfl (lv_at hl 0 rfl) ?_
    have hP9 := hP.sub (ws' := []) [] rfl
    have hD9 := hD.sub (ws' := []) [] (by decide) rfl
    refine W.widen (k := 0) (n := 0) (Nat.le_of_ble_eq_true rfl) (Nat.le_of_ble_eq_true rfl) ?_
    exact W.iret (v := 5) hx hb hr (fun t ht hW => ⟨⟨5, (), rfl, (by first | decide | simp [sp_look, h_2]), by rw [ht]; exact hP9, hD9⟩, hS.F ht⟩) hS.2.2 d_PC_look_24
  · refine lv_bipush (v := (-2)) hx hb d_PC_look_10 (by decide) ?_
    have hP9 := hP.sub (ws' := []) [] rfl
    have hD9 := hD.sub (ws' := []) [] (by decide) rfl
    refine W.widen (k := 0) (n := 0) (Nat.le_of_ble_eq_true rfl) (Nat.le_of_ble_eq_true rfl) ?_
    exact W.iret (v := (-2)) hx hb hr (fun t ht hW => ⟨⟨(-2), (), rfl, (by first | decide | simp [sp_look, h_2]), by rw [ht]; exact hP9, hD9⟩, hS.F ht⟩) hS.2.2 d_PC_look_12

set_option maxHeartbeats 4000000 in
set_option maxRecDepth 100000 in
theorem f_PC_away (l : Launch) (D : va_G) (cI cZ : ClassId) (x : Nat) (i : Int32) (z : Int32) (f0 : Nat) (a0 : Nat) (r0 : Nat) (w0 : Nat) (g0 : Nat) (k0 : Nat) (f1 : Nat) (f2 : Nat) (f3 : Nat) (f4 : Nat) (sz : Nat)  : Met l ⟨"PromiseChains", "away", "(IZ)I"⟩ (mw ⟨"PromiseChains", "away", "(IZ)I"⟩ prog_1_method_7_code 4 (some .int)) ({ frames := 2, cells := 0, slots := 0, locals := 43 }) (va_Pc [.ref x, .int i, .int z] (PB D cI cZ sz [(x, .inr (0, [.ref f0, .ref a0, .ref r0, .ref w0, .ref g0, .ref k0, .int 0, .int 3, .int 5])), (f0, .inr (1, [.int 2, .ref f1, .ref f2, .ref f3, .ref f4])), (f4, .inl (cZ, 7, .inl (fun _ => 0)))])) (va_Qi (S := Unit) (fun (r : Int32) uU => r = sp_away i z) (fun uU tT => BB D (va_A [(x, .inr (0, [.ref f0, .ref a0, .ref r0, .ref w0, .ref g0, .ref k0, .int 0, .int 3, .int 5])), (f0, .inr (1, [.int 2, .ref f1, .ref f2, .ref f3, .ref f4])), (f4, .inl (cZ, 7, .inl (fun _ => 0)))] sz) [] tT) (va_A [(x, .inr (0, [.ref f0, .ref a0, .ref r0, .ref w0, .ref g0, .ref k0, .int 0, .int 3, .int 5])), (f0, .inr (1, [.int 2, .ref f1, .ref f2, .ref f3, .ref f4])), (f4, .inl (cZ, 7, .inl (fun _ => 0)))] sz)) 0 0 (va_A [(x, .inr (0, [.ref f0, .ref a0, .ref r0, .ref w0, .ref g0, .ref k0, .int 0, .int 3, .int 5])), (f0, .inr (1, [.int 2, .ref f1, .ref f2, .ref f3, .ref f4])), (f4, .inl (cZ, 7, .inl (fun _ => 0)))] sz) := by
  refine Met.ofW (cc := prog_1_method_7_code) (maxL := 4) (ret := (some .int)) (by decide) rfl ?_
  intro p e s m args below meth c s₁ B hml hv
  obtain ⟨rfl, hsz, hP, hK, hD0, hN⟩ := hv
  have hx := B.exec
  have hb := B.bytes
  have hr := B.returns
  have hts0 := atoms_spec (ws := mw ⟨"PromiseChains", "away", "(IZ)I"⟩ prog_1_method_7_code 4 (some .int)) B.pre
  have hts : ∀ w ∈ tblG, w.before _ s = true := fun w h => hts0 w (List.mem_cons_of_mem _ h)
  have hown : s.vm.findClass "PromiseChains" = some m.cls := findClass_of_methodNamed B.named
  have hlocks := B.notSynchronized
  subst hsz
  have hD := hD0.self (sz := s.heap.size)
  generalize hAe : va_A [(x, .inr (0, [.ref f0, .ref a0, .ref r0, .ref w0, .ref g0, .ref k0, .int 0, .int 3, .int 5])), (f0, .inr (1, [.int 2, .ref f1, .ref f2, .ref f3, .ref f4])), (f4, .inl (cZ, 7, .inl (fun _ => 0)))] s.heap.size = A at hD ⊢
  have hA : ∀ q : Nat, s.heap.size ≤ q → A q := fun q h => by rw [← hAe]; exact Or.inr h
  have hS : va_S A s.heap s.heap [] := va_S.rf
  have hP : va_P D vwCl [(x, .inr (0, [.ref f0, .ref a0, .ref r0, .ref w0, .ref g0, .ref k0, .int 0, .int 3, .int 5])), (f0, .inr (1, [.int 2, .ref f1, .ref f2, .ref f3, .ref f4])), (f4, .inl (cZ, 7, .inl (fun _ => 0)))] s.heap := hP
  have hl := lv_entry ([.ref x, .int i, .int z]) (n := 4) (Nat.le_of_ble_eq_true rfl)
  rw [lg_entry_eq]
  generalize (lg_sl ([.ref x, .int i, .int z]) ++ List.replicate (4 - (lg_sl ([.ref x, .int i, .int z])).length) Slot.unset).toArray = ls at hl ⊢
  have hl : lv_has ls 4 [(0, .ref x), (1, .int i), (2, .int z)] := hl
  refine lv_aload_n hx hb d_PC_away_0 rfl (lv_at hl 0 rfl) ?_
  refine va_get (D := D) (ci := 0) (v := .ref f0) (C := R_PC) (T := F_PC) (N := 9) hx hb hts i_PC hown hK hP 0 rfl rfl 0 (by decide) (hts _ q_256) (fun _ h9 => h9) rfl d_PC_away_1 ?_
  refine lv_iload_n hx hb d_PC_away_4 rfl (lv_at hl 1 rfl) ?_
  have hPc := hP.sub (ws' := [(f0, .inr (1, [.int 2, .ref f1, .ref f2, .ref f3, .ref f4]))]) [1] rfl
  have hDc := hD.sub (ws' := [(f0, .inr (1, [.int 2, .ref f1, .ref f2, .ref f3, .ref f4]))]) [1] (by decide) rfl
  refine vp_callSi (va_Run.run (va_runV (As := [.int i]) (rest := []) ⟨hx, hb, hml, hown, hts⟩ (f_PE_has l D cI cZ f0 i f1 f2 f3 f4 s.heap.size ) (my_cwV 1 hts q_302 q_299 q_300 q_301 q_2 rfl rfl (by decide +kernel) ⟨Nat.le_of_ble_eq_true rfl, Nat.le_of_ble_eq_true rfl⟩) (my_preV hPc hDc hK hN 1 0 rfl rfl) rfl rfl hl.1 rfl (lv_room (Nat.le_of_ble_eq_true rfl)) d_PC_away_5 ⟨Nat.le_of_ble_eq_true rfl, Nat.le_of_ble_eq_true rfl⟩)) (fun r_1 hw_1 => ?_)
  have hw_1 : r_1 = isw i 0 1 := hw_1
  subst hw_1
  refine lv_if_ne (tgt := 14) hx hb d_PC_away_8 (by decide) (fun h_2 => ?_) (fun h_2 => ?_)
  · refine lv_aload_n hx hb d_PC_away_14 rfl (lv_at hl 0 rfl) ?_
    refine va_get (D := D) (ci := 0) (v := .ref f0) (C := R_PC) (T := F_PC) (N := 9) hx hb hts i_PC hown hK hP 0 rfl rfl 0 (by decide) (hts _ q_256) (fun _ h9 => h9) rfl d_PC_away_15 ?_
    refine va_get (D := D) (ci := 1) (v := .ref f4) (C := R_PE) (T := F_PE) (N := 5) hx hb hts i_PE hown hK hP 1 rfl rfl 4 (by decide) (hts _ q_34) (fun _ h9 => h9) rfl d_PC_away_18 ?_
    refine lv_iload_n hx hb d_PC_away_21 rfl (lv_at hl 1 rfl) ?_
    refine va_zald hx hb hK hP 2 1 rfl rfl (isw_in h_2 (by decide)) d_PC_away_22 ?_
    refine lv_seti (0) (rfl) ?_
    refine lv_iload_n hx hb d_PC_away_23 rfl (lv_at hl 2 rfl) ?_
    refine lv_icmp_ne (tgt := 30) hx hb d_PC_away_24 (by decide) (fun h_3 => ?_) (fun h_3 => ?_)
    · refine lv_aload_n hx hb d_PC_away_30 rfl (lv_at hl 0 rfl) ?_
      refine va_get (D := D) (ci := 0) (v := .ref f0) (C := R_PC) (T := F_PC) (N := 9) hx hb hts i_PC hown hK hP 0 rfl rfl 0 (by decide) (hts _ q_256) (fun _ h9 => h9) rfl d_PC_away_31 ?_
      refine va_get (D := D) (ci := 1) (v := .ref f4) (C := R_PE) (T := F_PE) (N := 5) hx hb hts i_PE hown hK hP 1 rfl rfl 4 (by decide) (hts _ q_34) (fun _ h9 => h9) rfl d_PC_away_34 ?_
      refine lv_iload_n hx hb d_PC_away_37 rfl (lv_at hl 1 rfl) ?_
      refine lv_iload_n hx hb d_PC_away_38 rfl (lv_at hl 2 rfl) ?_
      refine va_zast hx hb hK hP hD hS 2 1 rfl rfl (isw_in h_2 (by decide)) d_PC_away_39 (fun H_4 locs hP hD hS => ?_)
      have hP : va_P D vwCl [(x, .inr (0, [.ref f0, .ref a0, .ref r0, .ref w0, .ref g0, .ref k0, .int 0, .int 3, .int 5])), (f0, .inr (1, [.int 2, .ref f1, .ref f2, .ref f3, .ref f4])), (f4, .inl (cZ, 7, .inl (upd (fun _ => 0) i.toNatClampNeg (vp_nar .boolean z))))] H_4 := hP
      have hD : va_D A [(x, .inr (0, [.ref f0, .ref a0, .ref r0, .ref w0, .ref g0, .ref k0, .int 0, .int 3, .int 5])), (f0, .inr (1, [.int 2, .ref f1, .ref f2, .ref f3, .ref f4])), (f4, .inl (cZ, 7, .inl (upd (fun _ => 0) i.toNatClampNeg (vp_nar .boolean z))))] := hD
      refine lv_iload_n hx hb d_PC_away_40 rfl (lv_at hl 2 rfl) ?_
      refine lv_if_eq (tgt := 46) hx hb d_PC_away_41 (by decide) (fun h => absurd h (Ne.symm h_3)) (fun _ => ?_)
      refine lv_iconst (v := 0) hx hb d_PC_away_44 (by decide) ?_
      have hP9 := hP.sub (ws' := []) [] rfl
      have hD9 := hD.sub (ws' := []) [] (by decide) rfl
      refine W.widen (k := 0) (n := 0) (Nat.le_of_ble_eq_true rfl) (Nat.le_of_ble_eq_true rfl) ?_
      exact W.iret (v := 0) hx hb hr (fun t ht hW => ⟨⟨0, (), rfl, (by first | decide | simp [sp_away, h_2, (Ne.symm h_3)]), by rw [ht]; exact hP9, hD9⟩, hS.F ht⟩) hS.2.2 d_PC_away_45
    · refine lv_bipush (v := (-3)) hx hb d_PC_away_27 (by decide) ?_
      have hP9 := hP.sub (ws' := []) [] rfl
      have hD9 := hD.sub (ws' := []) [] (by decide) rfl
      refine W.widen (k := 0) (n := 0) (Nat.le_of_ble_eq_true rfl) (Nat.le_of_ble_eq_true rfl) ?_
      exact W.iret (v := (-3)) hx hb hr (fun t ht hW => ⟨⟨(-3), (), rfl, (by first | decide | simp [sp_away, h_2, (Eq.symm h_3)]), by rw [ht]; exact hP9, hD9⟩, hS.F ht⟩) hS.2.2 d_PC_away_29
  · refine lv_bipush (v := (-2)) hx hb d_PC_away_11 (by decide) ?_
    have hP9 := hP.sub (ws' := []) [] rfl
    have hD9 := hD.sub (ws' := []) [] (by decide) rfl
    refine W.widen (k := 0) (n := 0) (Nat.le_of_ble_eq_true rfl) (Nat.le_of_ble_eq_true rfl) ?_
    exact W.iret (v := (-2)) hx hb hr (fun t ht hW => ⟨⟨(-2), (), rfl, (by first | decide | simp [sp_away, h_2]), by rw [ht]; exact hP9, hD9⟩, hS.F ht⟩) hS.2.2 d_PC_away_13

set_option maxHeartbeats 4000000 in
set_option maxRecDepth 100000 in
theorem f_PC_best (l : Launch) (D : va_G) (cI cZ : ClassId) (x : Nat) (i : Int32) (j : Int32) (v : Int32) (f0 : Nat) (a0 : Nat) (r0 : Nat) (w0 : Nat) (g0 : Nat) (k0 : Nat) (f1 : Nat) (f2 : Nat) (f3 : Nat) (f4 : Nat) (a1 : Nat) (a2 : Nat) (a3 : Nat) (a4 : Nat) (a5 : Nat) (a6 : Nat) (a7 : Nat) (a8 : Nat) (a9 : Nat) (a10 : Nat) (a11 : Nat) (w1 : Nat) (w2 : Nat) (w5 : Nat) (w8 : Nat) (w9 : Nat) (w10 : Nat) (sz : Nat)  : Met l ⟨"PromiseChains", "best", "(III)I"⟩ (mw ⟨"PromiseChains", "best", "(III)I"⟩ prog_1_method_8_code 4 (some .int)) ({ frames := 3, cells := 0, slots := 0, locals := 66 }) (va_Pc [.ref x, .int i, .int j, .int v] (PB D cI cZ sz [(x, .inr (0, [.ref f0, .ref a0, .ref r0, .ref w0, .ref g0, .ref k0, .int 0, .int 3, .int 5])), (f0, .inr (1, [.int 2, .ref f1, .ref f2, .ref f3, .ref f4])), (a0, .inr (2, [.int 0, .ref a1, .ref a2, .ref a3, .ref a4, .ref a5, .ref a6, .ref a7, .ref a8, .ref a9, .ref a10, .ref a11])), (w0, .inr (4, [.int 0, .int 0, .ref w1, .ref w2, .ref w5, .ref w8])), (w1, .inl (cZ, 7, .inl (fun _ => 0))), (w8, .inr (6, [.int 0, .ref w9, .ref w10]))])) (va_Qi (S := Unit) (fun (r : Int32) uU => r = sp_best i j v) (fun uU tT => BB D (va_A [(x, .inr (0, [.ref f0, .ref a0, .ref r0, .ref w0, .ref g0, .ref k0, .int 0, .int 3, .int 5])), (f0, .inr (1, [.int 2, .ref f1, .ref f2, .ref f3, .ref f4])), (a0, .inr (2, [.int 0, .ref a1, .ref a2, .ref a3, .ref a4, .ref a5, .ref a6, .ref a7, .ref a8, .ref a9, .ref a10, .ref a11])), (w0, .inr (4, [.int 0, .int 0, .ref w1, .ref w2, .ref w5, .ref w8])), (w1, .inl (cZ, 7, .inl (fun _ => 0))), (w8, .inr (6, [.int 0, .ref w9, .ref w10]))] sz) [] tT) (va_A [(x, .inr (0, [.ref f0, .ref a0, .ref r0, .ref w0, .ref g0, .ref k0, .int 0, .int 3, .int 5])), (f0, .inr (1, [.int 2, .ref f1, .ref f2, .ref f3, .ref f4])), (a0, .inr (2, [.int 0, .ref a1, .ref a2, .ref a3, .ref a4, .ref a5, .ref a6, .ref a7, .ref a8, .ref a9, .ref a10, .ref a11])), (w0, .inr (4, [.int 0, .int 0, .ref w1, .ref w2, .ref w5, .ref w8])), (w1, .inl (cZ, 7, .inl (fun _ => 0))), (w8, .inr (6, [.int 0, .ref w9, .ref w10]))] sz)) 0 0 (va_A [(x, .inr (0, [.ref f0, .ref a0, .ref r0, .ref w0, .ref g0, .ref k0, .int 0, .int 3, .int 5])), (f0, .inr (1, [.int 2, .ref f1, .ref f2, .ref f3, .ref f4])), (a0, .inr (2, [.int 0, .ref a1, .ref a2, .ref a3, .ref a4, .ref a5, .ref a6, .ref a7, .ref a8, .ref a9, .ref a10, .ref a11])), (w0, .inr (4, [.int 0, .int 0, .ref w1, .ref w2, .ref w5, .ref w8])), (w1, .inl (cZ, 7, .inl (fun _ => 0))), (w8, .inr (6, [.int 0, .ref w9, .ref w10]))] sz) := by
  refine Met.ofW (cc := prog_1_method_8_code) (maxL := 4) (ret := (some .int)) (by decide) rfl ?_
  intro p e s m args below meth c s₁ B hml hv
  obtain ⟨rfl, hsz, hP, hK, hD0, hN⟩ := hv
  have hx := B.exec
  have hb := B.bytes
  have hr := B.returns
  have hts0 := atoms_spec (ws := mw ⟨"PromiseChains", "best", "(III)I"⟩ prog_1_method_8_code 4 (some .int)) B.pre
  have hts : ∀ w ∈ tblG, w.before _ s = true := fun w h => hts0 w (List.mem_cons_of_mem _ h)
  have hown : s.vm.findClass "PromiseChains" = some m.cls := findClass_of_methodNamed B.named
  have hlocks := B.notSynchronized
  subst hsz
  have hD := hD0.self (sz := s.heap.size)
  generalize hAe : va_A [(x, .inr (0, [.ref f0, .ref a0, .ref r0, .ref w0, .ref g0, .ref k0, .int 0, .int 3, .int 5])), (f0, .inr (1, [.int 2, .ref f1, .ref f2, .ref f3, .ref f4])), (a0, .inr (2, [.int 0, .ref a1, .ref a2, .ref a3, .ref a4, .ref a5, .ref a6, .ref a7, .ref a8, .ref a9, .ref a10, .ref a11])), (w0, .inr (4, [.int 0, .int 0, .ref w1, .ref w2, .ref w5, .ref w8])), (w1, .inl (cZ, 7, .inl (fun _ => 0))), (w8, .inr (6, [.int 0, .ref w9, .ref w10]))] s.heap.size = A at hD ⊢
  have hA : ∀ q : Nat, s.heap.size ≤ q → A q := fun q h => by rw [← hAe]; exact Or.inr h
  have hS : va_S A s.heap s.heap [] := va_S.rf
  have hP : va_P D vwCl [(x, .inr (0, [.ref f0, .ref a0, .ref r0, .ref w0, .ref g0, .ref k0, .int 0, .int 3, .int 5])), (f0, .inr (1, [.int 2, .ref f1, .ref f2, .ref f3, .ref f4])), (a0, .inr (2, [.int 0, .ref a1, .ref a2, .ref a3, .ref a4, .ref a5, .ref a6, .ref a7, .ref a8, .ref a9, .ref a10, .ref a11])), (w0, .inr (4, [.int 0, .int 0, .ref w1, .ref w2, .ref w5, .ref w8])), (w1, .inl (cZ, 7, .inl (fun _ => 0))), (w8, .inr (6, [.int 0, .ref w9, .ref w10]))] s.heap := hP
  have hl := lv_entry ([.ref x, .int i, .int j, .int v]) (n := 4) (Nat.le_of_ble_eq_true rfl)
  rw [lg_entry_eq]
  generalize (lg_sl ([.ref x, .int i, .int j, .int v]) ++ List.replicate (4 - (lg_sl ([.ref x, .int i, .int j, .int v])).length) Slot.unset).toArray = ls at hl ⊢
  have hl : lv_has ls 4 [(0, .ref x), (1, .int i), (2, .int j), (3, .int v)] := hl
  refine lv_aload_n hx hb d_PC_best_0 rfl (lv_at hl 0 rfl) ?_
  refine lv_iload_n hx hb d_PC_best_1 rfl (lv_at hl 1 rfl) ?_
  refine lv_iload_n hx hb d_PC_best_2 rfl (lv_at hl 2 rfl) ?_
  refine lv_iload_n hx hb d_PC_best_3 rfl (lv_at hl 3 rfl) ?_
  have hPc := hP.sub (ws' := [(x, .inr (0, [.ref f0, .ref a0, .ref r0, .ref w0, .ref g0, .ref k0, .int 0, .int 3, .int 5])), (f0, .inr (1, [.int 2, .ref f1, .ref f2, .ref f3, .ref f4]))]) [0, 1] rfl
  have hDc := hD.sub (ws' := [(x, .inr (0, [.ref f0, .ref a0, .ref r0, .ref w0, .ref g0, .ref k0, .int 0, .int 3, .int 5])), (f0, .inr (1, [.int 2, .ref f1, .ref f2, .ref f3, .ref f4]))]) [0, 1] (by decide) rfl
  refine vp_callSi (va_Run.run (va_runV (As := [.int i, .int j, .int v]) (rest := []) ⟨hx, hb, hml, hown, hts⟩ (f_PC_mayAskWay l D cI cZ x i j v f0 a0 r0 w0 g0 k0 f1 f2 f3 f4 s.heap.size ) (my_cwV 3 hts q_384 q_381 q_383 q_p0 q_1 rfl rfl (by decide +kernel) ⟨Nat.le_of_ble_eq_true rfl, Nat.le_of_ble_eq_true rfl⟩) (my_preV hPc hDc hK hN 0 0 rfl rfl) rfl rfl hl.1 rfl (lv_room (Nat.le_of_ble_eq_true rfl)) d_PC_best_4 ⟨Nat.le_of_ble_eq_true rfl, Nat.le_of_ble_eq_true rfl⟩)) (fun r_1 hw_1 => ?_)
  have hw_1 : r_1 = maw i j v := hw_1
  subst hw_1
  refine lv_if_ne (tgt := 13) hx hb d_PC_best_7 (by decide) (fun h_2 => ?_) (fun h_2 => ?_)
  · refine lv_aload_n hx hb d_PC_best_13 rfl (lv_at hl 0 rfl) ?_
    refine lv_iload_n hx hb d_PC_best_14 rfl (lv_at hl 1 rfl) ?_
    refine lv_iload_n hx hb d_PC_best_15 rfl (lv_at hl 2 rfl) ?_
    refine lv_iload_n hx hb d_PC_best_16 rfl (lv_at hl 3 rfl) ?_
    have hPc := hP.sub (ws' := [(x, .inr (0, [.ref f0, .ref a0, .ref r0, .ref w0, .ref g0, .ref k0, .int 0, .int 3, .int 5])), (a0, .inr (2, [.int 0, .ref a1, .ref a2, .ref a3, .ref a4, .ref a5, .ref a6, .ref a7, .ref a8, .ref a9, .ref a10, .ref a11])), (w0, .inr (4, [.int 0, .int 0, .ref w1, .ref w2, .ref w5, .ref w8])), (w1, .inl (cZ, 7, .inl (fun _ => 0))), (w8, .inr (6, [.int 0, .ref w9, .ref w10]))]) [0, 2, 3, 4, 5] rfl
    have hDc := hD.sub (ws' := [(x, .inr (0, [.ref f0, .ref a0, .ref r0, .ref w0, .ref g0, .ref k0, .int 0, .int 3, .int 5])), (a0, .inr (2, [.int 0, .ref a1, .ref a2, .ref a3, .ref a4, .ref a5, .ref a6, .ref a7, .ref a8, .ref a9, .ref a10, .ref a11])), (w0, .inr (4, [.int 0, .int 0, .ref w1, .ref w2, .ref w5, .ref w8])), (w1, .inl (cZ, 7, .inl (fun _ => 0))), (w8, .inr (6, [.int 0, .ref w9, .ref w10]))]) [0, 2, 3, 4, 5] (by decide) rfl
    have hFc := va_free (wc := [(x, .inr (0, [.ref f0, .ref a0, .ref r0, .ref w0, .ref g0, .ref k0, .int 0, .int 3, .int 5])), (a0, .inr (2, [.int 0, .ref a1, .ref a2, .ref a3, .ref a4, .ref a5, .ref a6, .ref a7, .ref a8, .ref a9, .ref a10, .ref a11])), (w0, .inr (4, [.int 0, .int 0, .ref w1, .ref w2, .ref w5, .ref w8])), (w1, .inl (cZ, 7, .inl (fun _ => 0))), (w8, .inr (6, [.int 0, .ref w9, .ref w10]))]) hD hS hA [0, 2, 3, 4, 5] rfl
    refine va_calli (va_runV (As := [.int i, .int j, .int v]) (rest := []) ⟨hx, hb, hml, hown, hts⟩ (f_PC_findWay l D cI cZ x i j v f0 a0 r0 w0 g0 k0 a1 a2 a3 a4 a5 a6 a7 a8 a9 a10 a11 w1 w2 w5 w8 w9 w10 s.heap.size ) (my_cwV 3 hts q_388 q_385 q_387 q_p1 q_1 rfl rfl (by decide +kernel) ⟨Nat.le_of_ble_eq_true rfl, Nat.le_of_ble_eq_true rfl⟩) (my_preV hPc hDc hK hN 0 0 rfl rfl) rfl rfl hl.1 rfl (lv_room (Nat.le_of_ble_eq_true rfl)) d_PC_best_17 ⟨Nat.le_of_ble_eq_true rfl, Nat.le_of_ble_eq_true rfl⟩) hS (fun q _ h => hFc q h) hFc (fun r_3 uU tT H_4 locs ht hvm hw_3 hB hz1 hk1 hS => ?_)
    obtain ⟨hP1, hD1⟩ := hB
    rw [ht] at hP1
    obtain ⟨hP, hD⟩ := va_join (wr := [(f0, .inr (1, [.int 2, .ref f1, .ref f2, .ref f3, .ref f4]))]) (w1 := []) hP hD [0, 2, 3, 4, 5] [1] rfl rfl (by decide) (by decide) hk1 hFc hP1 hD1
    have hP : va_P D vwCl [(f0, .inr (1, [.int 2, .ref f1, .ref f2, .ref f3, .ref f4]))] H_4 := hP
    have hD : va_D A [(f0, .inr (1, [.int 2, .ref f1, .ref f2, .ref f3, .ref f4]))] := hD
    have hw_3 : r_3 = 0 := hw_3
    subst hw_3
    refine lv_if_ne (tgt := 25) hx hb d_PC_best_20 (by decide) (fun h => absurd h (by decide)) (fun _ => ?_)
    refine lv_iconst (v := (-1)) hx hb d_PC_best_23 (by decide) ?_
    have hP9 := hP.sub (ws' := []) [] rfl
    have hD9 := hD.sub (ws' := []) [] (by decide) rfl
    refine W.widen (k := 0) (n := 0) (Nat.le_of_ble_eq_true rfl) (Nat.le_of_ble_eq_true rfl) ?_
    exact W.iret (v := (-1)) hx hb hr (fun t ht hW => ⟨⟨(-1), (), rfl, (by first | decide | simp [sp_best, h_2]), by rw [ht]; exact hP9, hD9⟩, hS.F ht⟩) hS.2.2 d_PC_best_24
  · refine lv_bipush (v := (-2)) hx hb d_PC_best_10 (by decide) ?_
    have hP9 := hP.sub (ws' := []) [] rfl
    have hD9 := hD.sub (ws' := []) [] (by decide) rfl
    refine W.widen (k := 0) (n := 0) (Nat.le_of_ble_eq_true rfl) (Nat.le_of_ble_eq_true rfl) ?_
    exact W.iret (v := (-2)) hx hb hr (fun t ht hW => ⟨⟨(-2), (), rfl, (by first | decide | simp [sp_best, h_2]), by rw [ht]; exact hP9, hD9⟩, hS.F ht⟩) hS.2.2 d_PC_best_12

set_option maxHeartbeats 4000000 in
set_option maxRecDepth 100000 in
theorem f_PC_wayAt (l : Launch) (D : va_G) (cI cZ : ClassId) (x : Nat) (i : Int32) (f0 : Nat) (a0 : Nat) (r0 : Nat) (w0 : Nat) (g0 : Nat) (k0 : Nat) (k1 : Nat) (k2 : Nat) (sz : Nat)  : Met l ⟨"PromiseChains", "wayAt", "(I)I"⟩ (mw ⟨"PromiseChains", "wayAt", "(I)I"⟩ prog_1_method_9_code 2 (some .int)) ({ frames := 1, cells := 0, slots := 0, locals := 22 }) (va_Pc [.ref x, .int i] (PB D cI cZ sz [(x, .inr (0, [.ref f0, .ref a0, .ref r0, .ref w0, .ref g0, .ref k0, .int 0, .int 3, .int 5])), (k0, .inr (6, [.int 0, .ref k1, .ref k2]))])) (vp_Si (fun r => r = -1)) 0 0 (fun _ => False) := by
  refine Met.ofW (cc := prog_1_method_9_code) (maxL := 2) (ret := (some .int)) (by decide) rfl ?_
  intro p e s m args below meth c s₁ B hml hv
  obtain ⟨rfl, hsz, hP, hK, hD0, hN⟩ := hv
  have hx := B.exec
  have hb := B.bytes
  have hr := B.returns
  have hts0 := atoms_spec (ws := mw ⟨"PromiseChains", "wayAt", "(I)I"⟩ prog_1_method_9_code 2 (some .int)) B.pre
  have hts : ∀ w ∈ tblG, w.before _ s = true := fun w h => hts0 w (List.mem_cons_of_mem _ h)
  have hown : s.vm.findClass "PromiseChains" = some m.cls := findClass_of_methodNamed B.named
  have hlocks := B.notSynchronized
  subst hsz
  have hD := hD0
  have hP : va_P D vwCl [(x, .inr (0, [.ref f0, .ref a0, .ref r0, .ref w0, .ref g0, .ref k0, .int 0, .int 3, .int 5])), (k0, .inr (6, [.int 0, .ref k1, .ref k2]))] s.heap := hP
  have hl := lv_entry ([.ref x, .int i]) (n := 2) (Nat.le_of_ble_eq_true rfl)
  rw [lg_entry_eq]
  generalize (lg_sl ([.ref x, .int i]) ++ List.replicate (2 - (lg_sl ([.ref x, .int i])).length) Slot.unset).toArray = ls at hl ⊢
  have hl : lv_has ls 2 [(0, .ref x), (1, .int i)] := hl
  refine lv_iload_n hx hb d_PC_wayAt_0 rfl (lv_at hl 1 rfl) ?_
  refine lv_iconst (v := 0) hx hb d_PC_wayAt_1 (by decide) ?_
  refine lv_aload_n hx hb d_PC_wayAt_2 rfl (lv_at hl 0 rfl) ?_
  refine va_get (D := D) (ci := 0) (v := .ref k0) (C := R_PC) (T := F_PC) (N := 9) hx hb hts i_PC hown hK hP 0 rfl rfl 5 (by decide) (hts _ q_261) (fun _ h9 => h9) rfl d_PC_wayAt_3 ?_
  refine va_get (D := D) (ci := 6) (v := .int 0) (C := R_RO) (T := F_RO) (N := 3) hx hb hts i_RO hown hK hP 1 rfl rfl 0 (by decide) (hts _ q_174) (fun _ h9 => h9) rfl d_PC_wayAt_6 ?_
  refine lv_iconst (v := 1) hx hb d_PC_wayAt_9 (by decide) ?_
  refine lv_isub hx hb d_PC_wayAt_10 ?_
  refine lv_seti (-1) (by decide) ?_
  have hPc := hP.sub (ws' := []) [] rfl
  have hDc := hD.sub (ws' := []) [] (by decide) rfl
  refine vp_callSi (va_Run.run (va_runS (As := [.int i, .int 0, .int (-1)]) (rest := []) ⟨hx, hb, hml, hown, hts⟩ (c_within l D cI cZ i 0 (-1) s.heap.size ) (my_cwS 3 hts q_290 q_288 q_289 q_1 rfl rfl (by decide +kernel) ⟨Nat.le_of_ble_eq_true rfl, Nat.le_of_ble_eq_true rfl⟩) (my_preS hPc hDc hK hN) rfl rfl hl.1 rfl (lv_room (Nat.le_of_ble_eq_true rfl)) d_PC_wayAt_11 ⟨Nat.le_of_ble_eq_true rfl, Nat.le_of_ble_eq_true rfl⟩)) (fun r_1 hw_1 => ?_)
  have hw_1 : r_1 = isw i 0 (-1) := hw_1
  subst hw_1
  refine lv_seti (0) (isw_neg _) ?_
  refine lv_if_ne (tgt := 19) hx hb d_PC_wayAt_14 (by decide) (fun h => absurd h (by decide)) (fun _ => ?_)
  refine lv_iconst (v := (-1)) hx hb d_PC_wayAt_17 (by decide) ?_
  exact W.iret (v := (-1)) hx hb hr (fun t ht hW => ⟨(-1), rfl, rfl, ht⟩) (fun q h => absurd h List.not_mem_nil) d_PC_wayAt_18

set_option maxHeartbeats 4000000 in
set_option maxRecDepth 100000 in
theorem f_PC_promise (l : Launch) (D : va_G) (cI cZ : ClassId) (x : Nat) (i : Int32) (j : Int32) (v : Int32) (f0 : Nat) (a0 : Nat) (r0 : Nat) (w0 : Nat) (g0 : Nat) (k0 : Nat) (f1 : Nat) (f2 : Nat) (f3 : Nat) (f4 : Nat) (a1 : Nat) (a2 : Nat) (a3 : Nat) (a4 : Nat) (a5 : Nat) (a6 : Nat) (a7 : Nat) (a8 : Nat) (a9 : Nat) (a10 : Nat) (a11 : Nat) (w1 : Nat) (w2 : Nat) (w5 : Nat) (w8 : Nat) (w9 : Nat) (w10 : Nat) (sz : Nat)  : Met l ⟨"PromiseChains", "promise", "(III)I"⟩ (mw ⟨"PromiseChains", "promise", "(III)I"⟩ prog_1_method_10_code 4 (some .int)) ({ frames := 3, cells := 0, slots := 0, locals := 66 }) (va_Pc [.ref x, .int i, .int j, .int v] (PB D cI cZ sz [(x, .inr (0, [.ref f0, .ref a0, .ref r0, .ref w0, .ref g0, .ref k0, .int 0, .int 3, .int 5])), (f0, .inr (1, [.int 2, .ref f1, .ref f2, .ref f3, .ref f4])), (f4, .inl (cZ, 7, .inl (fun _ => 0))), (a0, .inr (2, [.int 0, .ref a1, .ref a2, .ref a3, .ref a4, .ref a5, .ref a6, .ref a7, .ref a8, .ref a9, .ref a10, .ref a11])), (w0, .inr (4, [.int 0, .int 0, .ref w1, .ref w2, .ref w5, .ref w8])), (w1, .inl (cZ, 7, .inl (fun _ => 0))), (w8, .inr (6, [.int 0, .ref w9, .ref w10]))])) (va_Qi (S := Unit) (fun (r : Int32) uU => r = sp_promise i j v) (fun uU tT => BB D (va_A [(x, .inr (0, [.ref f0, .ref a0, .ref r0, .ref w0, .ref g0, .ref k0, .int 0, .int 3, .int 5])), (f0, .inr (1, [.int 2, .ref f1, .ref f2, .ref f3, .ref f4])), (f4, .inl (cZ, 7, .inl (fun _ => 0))), (a0, .inr (2, [.int 0, .ref a1, .ref a2, .ref a3, .ref a4, .ref a5, .ref a6, .ref a7, .ref a8, .ref a9, .ref a10, .ref a11])), (w0, .inr (4, [.int 0, .int 0, .ref w1, .ref w2, .ref w5, .ref w8])), (w1, .inl (cZ, 7, .inl (fun _ => 0))), (w8, .inr (6, [.int 0, .ref w9, .ref w10]))] sz) [] tT) (va_A [(x, .inr (0, [.ref f0, .ref a0, .ref r0, .ref w0, .ref g0, .ref k0, .int 0, .int 3, .int 5])), (f0, .inr (1, [.int 2, .ref f1, .ref f2, .ref f3, .ref f4])), (f4, .inl (cZ, 7, .inl (fun _ => 0))), (a0, .inr (2, [.int 0, .ref a1, .ref a2, .ref a3, .ref a4, .ref a5, .ref a6, .ref a7, .ref a8, .ref a9, .ref a10, .ref a11])), (w0, .inr (4, [.int 0, .int 0, .ref w1, .ref w2, .ref w5, .ref w8])), (w1, .inl (cZ, 7, .inl (fun _ => 0))), (w8, .inr (6, [.int 0, .ref w9, .ref w10]))] sz)) 0 0 (va_A [(x, .inr (0, [.ref f0, .ref a0, .ref r0, .ref w0, .ref g0, .ref k0, .int 0, .int 3, .int 5])), (f0, .inr (1, [.int 2, .ref f1, .ref f2, .ref f3, .ref f4])), (f4, .inl (cZ, 7, .inl (fun _ => 0))), (a0, .inr (2, [.int 0, .ref a1, .ref a2, .ref a3, .ref a4, .ref a5, .ref a6, .ref a7, .ref a8, .ref a9, .ref a10, .ref a11])), (w0, .inr (4, [.int 0, .int 0, .ref w1, .ref w2, .ref w5, .ref w8])), (w1, .inl (cZ, 7, .inl (fun _ => 0))), (w8, .inr (6, [.int 0, .ref w9, .ref w10]))] sz) := by
  refine Met.ofW (cc := prog_1_method_10_code) (maxL := 4) (ret := (some .int)) (by decide) rfl ?_
  intro p e s m args below meth c s₁ B hml hv
  obtain ⟨rfl, hsz, hP, hK, hD0, hN⟩ := hv
  have hx := B.exec
  have hb := B.bytes
  have hr := B.returns
  have hts0 := atoms_spec (ws := mw ⟨"PromiseChains", "promise", "(III)I"⟩ prog_1_method_10_code 4 (some .int)) B.pre
  have hts : ∀ w ∈ tblG, w.before _ s = true := fun w h => hts0 w (List.mem_cons_of_mem _ h)
  have hown : s.vm.findClass "PromiseChains" = some m.cls := findClass_of_methodNamed B.named
  have hlocks := B.notSynchronized
  subst hsz
  have hD := hD0.self (sz := s.heap.size)
  generalize hAe : va_A [(x, .inr (0, [.ref f0, .ref a0, .ref r0, .ref w0, .ref g0, .ref k0, .int 0, .int 3, .int 5])), (f0, .inr (1, [.int 2, .ref f1, .ref f2, .ref f3, .ref f4])), (f4, .inl (cZ, 7, .inl (fun _ => 0))), (a0, .inr (2, [.int 0, .ref a1, .ref a2, .ref a3, .ref a4, .ref a5, .ref a6, .ref a7, .ref a8, .ref a9, .ref a10, .ref a11])), (w0, .inr (4, [.int 0, .int 0, .ref w1, .ref w2, .ref w5, .ref w8])), (w1, .inl (cZ, 7, .inl (fun _ => 0))), (w8, .inr (6, [.int 0, .ref w9, .ref w10]))] s.heap.size = A at hD ⊢
  have hA : ∀ q : Nat, s.heap.size ≤ q → A q := fun q h => by rw [← hAe]; exact Or.inr h
  have hS : va_S A s.heap s.heap [] := va_S.rf
  have hP : va_P D vwCl [(x, .inr (0, [.ref f0, .ref a0, .ref r0, .ref w0, .ref g0, .ref k0, .int 0, .int 3, .int 5])), (f0, .inr (1, [.int 2, .ref f1, .ref f2, .ref f3, .ref f4])), (f4, .inl (cZ, 7, .inl (fun _ => 0))), (a0, .inr (2, [.int 0, .ref a1, .ref a2, .ref a3, .ref a4, .ref a5, .ref a6, .ref a7, .ref a8, .ref a9, .ref a10, .ref a11])), (w0, .inr (4, [.int 0, .int 0, .ref w1, .ref w2, .ref w5, .ref w8])), (w1, .inl (cZ, 7, .inl (fun _ => 0))), (w8, .inr (6, [.int 0, .ref w9, .ref w10]))] s.heap := hP
  have hl := lv_entry ([.ref x, .int i, .int j, .int v]) (n := 4) (Nat.le_of_ble_eq_true rfl)
  rw [lg_entry_eq]
  generalize (lg_sl ([.ref x, .int i, .int j, .int v]) ++ List.replicate (4 - (lg_sl ([.ref x, .int i, .int j, .int v])).length) Slot.unset).toArray = ls at hl ⊢
  have hl : lv_has ls 4 [(0, .ref x), (1, .int i), (2, .int j), (3, .int v)] := hl
  refine lv_aload_n hx hb d_PC_promise_0 rfl (lv_at hl 0 rfl) ?_
  refine lv_iload_n hx hb d_PC_promise_1 rfl (lv_at hl 1 rfl) ?_
  refine lv_iload_n hx hb d_PC_promise_2 rfl (lv_at hl 2 rfl) ?_
  refine lv_iload_n hx hb d_PC_promise_3 rfl (lv_at hl 3 rfl) ?_
  have hPc := hP.sub (ws' := [(x, .inr (0, [.ref f0, .ref a0, .ref r0, .ref w0, .ref g0, .ref k0, .int 0, .int 3, .int 5])), (f0, .inr (1, [.int 2, .ref f1, .ref f2, .ref f3, .ref f4]))]) [0, 1] rfl
  have hDc := hD.sub (ws' := [(x, .inr (0, [.ref f0, .ref a0, .ref r0, .ref w0, .ref g0, .ref k0, .int 0, .int 3, .int 5])), (f0, .inr (1, [.int 2, .ref f1, .ref f2, .ref f3, .ref f4]))]) [0, 1] (by decide) rfl
  refine vp_callSi (va_Run.run (va_runV (As := [.int i, .int j, .int v]) (rest := []) ⟨hx, hb, hml, hown, hts⟩ (f_PC_mayAskWay l D cI cZ x i j v f0 a0 r0 w0 g0 k0 f1 f2 f3 f4 s.heap.size ) (my_cwV 3 hts q_384 q_381 q_383 q_p0 q_1 rfl rfl (by decide +kernel) ⟨Nat.le_of_ble_eq_true rfl, Nat.le_of_ble_eq_true rfl⟩) (my_preV hPc hDc hK hN 0 0 rfl rfl) rfl rfl hl.1 rfl (lv_room (Nat.le_of_ble_eq_true rfl)) d_PC_promise_4 ⟨Nat.le_of_ble_eq_true rfl, Nat.le_of_ble_eq_true rfl⟩)) (fun r_1 hw_1 => ?_)
  have hw_1 : r_1 = maw i j v := hw_1
  subst hw_1
  refine lv_if_ne (tgt := 13) hx hb d_PC_promise_7 (by decide) (fun h_2 => ?_) (fun h_2 => ?_)
  · refine lv_aload_n hx hb d_PC_promise_13 rfl (lv_at hl 0 rfl) ?_
    refine va_get (D := D) (ci := 0) (v := .ref f0) (C := R_PC) (T := F_PC) (N := 9) hx hb hts i_PC hown hK hP 0 rfl rfl 0 (by decide) (hts _ q_256) (fun _ h9 => h9) rfl d_PC_promise_14 ?_
    refine va_get (D := D) (ci := 1) (v := .ref f4) (C := R_PE) (T := F_PE) (N := 5) hx hb hts i_PE hown hK hP 1 rfl rfl 4 (by decide) (hts _ q_34) (fun _ h9 => h9) rfl d_PC_promise_17 ?_
    refine lv_iload_n hx hb d_PC_promise_20 rfl (lv_at hl 1 rfl) ?_
    refine va_zald hx hb hK hP 2 1 rfl rfl (isw_in (maw_s h_2) (by decide)) d_PC_promise_21 ?_
    refine lv_seti (0) (rfl) ?_
    refine lv_if_ne (tgt := 35) hx hb d_PC_promise_22 (by decide) (fun h => absurd h (by decide)) (fun _ => ?_)
    refine lv_aload_n hx hb d_PC_promise_25 rfl (lv_at hl 0 rfl) ?_
    refine lv_iload_n hx hb d_PC_promise_26 rfl (lv_at hl 1 rfl) ?_
    refine lv_iload_n hx hb d_PC_promise_27 rfl (lv_at hl 2 rfl) ?_
    refine lv_iload_n hx hb d_PC_promise_28 rfl (lv_at hl 3 rfl) ?_
    have hPc := hP.sub (ws' := [(x, .inr (0, [.ref f0, .ref a0, .ref r0, .ref w0, .ref g0, .ref k0, .int 0, .int 3, .int 5])), (a0, .inr (2, [.int 0, .ref a1, .ref a2, .ref a3, .ref a4, .ref a5, .ref a6, .ref a7, .ref a8, .ref a9, .ref a10, .ref a11])), (w0, .inr (4, [.int 0, .int 0, .ref w1, .ref w2, .ref w5, .ref w8])), (w1, .inl (cZ, 7, .inl (fun _ => 0))), (w8, .inr (6, [.int 0, .ref w9, .ref w10]))]) [0, 3, 4, 5, 6] rfl
    have hDc := hD.sub (ws' := [(x, .inr (0, [.ref f0, .ref a0, .ref r0, .ref w0, .ref g0, .ref k0, .int 0, .int 3, .int 5])), (a0, .inr (2, [.int 0, .ref a1, .ref a2, .ref a3, .ref a4, .ref a5, .ref a6, .ref a7, .ref a8, .ref a9, .ref a10, .ref a11])), (w0, .inr (4, [.int 0, .int 0, .ref w1, .ref w2, .ref w5, .ref w8])), (w1, .inl (cZ, 7, .inl (fun _ => 0))), (w8, .inr (6, [.int 0, .ref w9, .ref w10]))]) [0, 3, 4, 5, 6] (by decide) rfl
    have hFc := va_free (wc := [(x, .inr (0, [.ref f0, .ref a0, .ref r0, .ref w0, .ref g0, .ref k0, .int 0, .int 3, .int 5])), (a0, .inr (2, [.int 0, .ref a1, .ref a2, .ref a3, .ref a4, .ref a5, .ref a6, .ref a7, .ref a8, .ref a9, .ref a10, .ref a11])), (w0, .inr (4, [.int 0, .int 0, .ref w1, .ref w2, .ref w5, .ref w8])), (w1, .inl (cZ, 7, .inl (fun _ => 0))), (w8, .inr (6, [.int 0, .ref w9, .ref w10]))]) hD hS hA [0, 3, 4, 5, 6] rfl
    refine va_calli (va_runV (As := [.int i, .int j, .int v]) (rest := []) ⟨hx, hb, hml, hown, hts⟩ (f_PC_findWay l D cI cZ x i j v f0 a0 r0 w0 g0 k0 a1 a2 a3 a4 a5 a6 a7 a8 a9 a10 a11 w1 w2 w5 w8 w9 w10 s.heap.size ) (my_cwV 3 hts q_388 q_385 q_387 q_p1 q_1 rfl rfl (by decide +kernel) ⟨Nat.le_of_ble_eq_true rfl, Nat.le_of_ble_eq_true rfl⟩) (my_preV hPc hDc hK hN 0 0 rfl rfl) rfl rfl hl.1 rfl (lv_room (Nat.le_of_ble_eq_true rfl)) d_PC_promise_29 ⟨Nat.le_of_ble_eq_true rfl, Nat.le_of_ble_eq_true rfl⟩) hS (fun q _ h => hFc q h) hFc (fun r_4 uU tT H_5 locs ht hvm hw_4 hB hz1 hk1 hS => ?_)
    obtain ⟨hP1, hD1⟩ := hB
    rw [ht] at hP1
    obtain ⟨hP, hD⟩ := va_join (wr := [(f0, .inr (1, [.int 2, .ref f1, .ref f2, .ref f3, .ref f4])), (f4, .inl (cZ, 7, .inl (fun _ => 0)))]) (w1 := []) hP hD [0, 3, 4, 5, 6] [1, 2] rfl rfl (by decide) (by decide) hk1 hFc hP1 hD1
    have hP : va_P D vwCl [(f0, .inr (1, [.int 2, .ref f1, .ref f2, .ref f3, .ref f4])), (f4, .inl (cZ, 7, .inl (fun _ => 0)))] H_5 := hP
    have hD : va_D A [(f0, .inr (1, [.int 2, .ref f1, .ref f2, .ref f3, .ref f4])), (f4, .inl (cZ, 7, .inl (fun _ => 0)))] := hD
    have hw_4 : r_4 = 0 := hw_4
    subst hw_4
    refine lv_if_ne (tgt := 38) hx hb d_PC_promise_32 (by decide) (fun h => absurd h (by decide)) (fun _ => ?_)
    refine lv_bipush (v := (-3)) hx hb d_PC_promise_35 (by decide) ?_
    have hP9 := hP.sub (ws' := []) [] rfl
    have hD9 := hD.sub (ws' := []) [] (by decide) rfl
    refine W.widen (k := 0) (n := 0) (Nat.le_of_ble_eq_true rfl) (Nat.le_of_ble_eq_true rfl) ?_
    exact W.iret (v := (-3)) hx hb hr (fun t ht hW => ⟨⟨(-3), (), rfl, (by first | decide | simp [sp_promise, h_2]), by rw [ht]; exact hP9, hD9⟩, hS.F ht⟩) hS.2.2 d_PC_promise_37
  · refine lv_bipush (v := (-2)) hx hb d_PC_promise_10 (by decide) ?_
    have hP9 := hP.sub (ws' := []) [] rfl
    have hD9 := hD.sub (ws' := []) [] (by decide) rfl
    refine W.widen (k := 0) (n := 0) (Nat.le_of_ble_eq_true rfl) (Nat.le_of_ble_eq_true rfl) ?_
    exact W.iret (v := (-2)) hx hb hr (fun t ht hW => ⟨⟨(-2), (), rfl, (by first | decide | simp [sp_promise, h_2]), by rw [ht]; exact hP9, hD9⟩, hS.F ht⟩) hS.2.2 d_PC_promise_12

set_option maxHeartbeats 4000000 in
set_option maxRecDepth 100000 in
theorem f_PC_tell (l : Launch) (D : va_G) (cI cZ : ClassId) (x : Nat) (i : Int32) (f0 : Nat) (a0 : Nat) (r0 : Nat) (w0 : Nat) (g0 : Nat) (k0 : Nat) (r1 : Nat) (r2 : Nat) (r3 : Nat) (r4 : Nat) (r5 : Nat) (r6 : Nat) (r7 : Nat) (r8 : Nat) (r9 : Nat) (r10 : Nat) (r11 : Nat) (sz : Nat)  : Met l ⟨"PromiseChains", "tell", "(I)I"⟩ (mw ⟨"PromiseChains", "tell", "(I)I"⟩ prog_1_method_11_code 2 (some .int)) ({ frames := 2, cells := 0, slots := 0, locals := 43 }) (va_Pc [.ref x, .int i] (PB D cI cZ sz [(x, .inr (0, [.ref f0, .ref a0, .ref r0, .ref w0, .ref g0, .ref k0, .int 0, .int 3, .int 5])), (r0, .inr (3, [.int 0, .int 0, .ref r1, .ref r2, .ref r3, .ref r4, .ref r5, .ref r6, .ref r7, .ref r8, .ref r9, .ref r10, .ref r11]))])) (vp_Si (fun r => r = -2)) 0 0 (fun _ => False) := by
  refine Met.ofW (cc := prog_1_method_11_code) (maxL := 2) (ret := (some .int)) (by decide) rfl ?_
  intro p e s m args below meth c s₁ B hml hv
  obtain ⟨rfl, hsz, hP, hK, hD0, hN⟩ := hv
  have hx := B.exec
  have hb := B.bytes
  have hr := B.returns
  have hts0 := atoms_spec (ws := mw ⟨"PromiseChains", "tell", "(I)I"⟩ prog_1_method_11_code 2 (some .int)) B.pre
  have hts : ∀ w ∈ tblG, w.before _ s = true := fun w h => hts0 w (List.mem_cons_of_mem _ h)
  have hown : s.vm.findClass "PromiseChains" = some m.cls := findClass_of_methodNamed B.named
  have hlocks := B.notSynchronized
  subst hsz
  have hD := hD0
  have hP : va_P D vwCl [(x, .inr (0, [.ref f0, .ref a0, .ref r0, .ref w0, .ref g0, .ref k0, .int 0, .int 3, .int 5])), (r0, .inr (3, [.int 0, .int 0, .ref r1, .ref r2, .ref r3, .ref r4, .ref r5, .ref r6, .ref r7, .ref r8, .ref r9, .ref r10, .ref r11]))] s.heap := hP
  have hl := lv_entry ([.ref x, .int i]) (n := 2) (Nat.le_of_ble_eq_true rfl)
  rw [lg_entry_eq]
  generalize (lg_sl ([.ref x, .int i]) ++ List.replicate (2 - (lg_sl ([.ref x, .int i])).length) Slot.unset).toArray = ls at hl ⊢
  have hl : lv_has ls 2 [(0, .ref x), (1, .int i)] := hl
  refine lv_aload_n hx hb d_PC_tell_0 rfl (lv_at hl 0 rfl) ?_
  refine va_get (D := D) (ci := 0) (v := .ref r0) (C := R_PC) (T := F_PC) (N := 9) hx hb hts i_PC hown hK hP 0 rfl rfl 2 (by decide) (hts _ q_258) (fun _ h9 => h9) rfl d_PC_tell_1 ?_
  refine lv_iload_n hx hb d_PC_tell_4 rfl (lv_at hl 1 rfl) ?_
  have hPc := hP.sub (ws' := [(r0, .inr (3, [.int 0, .int 0, .ref r1, .ref r2, .ref r3, .ref r4, .ref r5, .ref r6, .ref r7, .ref r8, .ref r9, .ref r10, .ref r11]))]) [1] rfl
  have hDc := hD.sub (ws' := [(r0, .inr (3, [.int 0, .int 0, .ref r1, .ref r2, .ref r3, .ref r4, .ref r5, .ref r6, .ref r7, .ref r8, .ref r9, .ref r10, .ref r11]))]) [1] (by decide) rfl
  refine vp_callSi (va_Run.run (va_runV (As := [.int i]) (rest := []) ⟨hx, hb, hml, hown, hts⟩ (f_PR_has l D cI cZ r0 i r1 r2 r3 r4 r5 r6 r7 r8 r9 r10 r11 s.heap.size ) (my_cwV 1 hts q_457 q_454 q_455 q_456 q_4 rfl rfl (by decide +kernel) ⟨Nat.le_of_ble_eq_true rfl, Nat.le_of_ble_eq_true rfl⟩) (my_preV hPc hDc hK hN 3 0 rfl rfl) rfl rfl hl.1 rfl (lv_room (Nat.le_of_ble_eq_true rfl)) d_PC_tell_5 ⟨Nat.le_of_ble_eq_true rfl, Nat.le_of_ble_eq_true rfl⟩)) (fun r_1 hw_1 => ?_)
  have hw_1 : r_1 = 0 := hw_1
  subst hw_1
  refine lv_if_ne (tgt := 14) hx hb d_PC_tell_8 (by decide) (fun h => absurd h (by decide)) (fun _ => ?_)
  refine lv_bipush (v := (-2)) hx hb d_PC_tell_11 (by decide) ?_
  exact W.iret (v := (-2)) hx hb hr (fun t ht hW => ⟨(-2), rfl, rfl, ht⟩) (fun q h => absurd h List.not_mem_nil) d_PC_tell_13

set_option maxHeartbeats 4000000 in
set_option maxRecDepth 100000 in
theorem f_PC_tick (l : Launch) (D : va_G) (cI cZ : ClassId) (x : Nat) (n : Int32) (f0 : Nat) (a0 : Nat) (r0 : Nat) (w0 : Nat) (g0 : Nat) (k0 : Nat) (f1 : Nat) (f2 : Nat) (f3 : Nat) (f4 : Nat) (a1 : Nat) (a2 : Nat) (a3 : Nat) (a4 : Nat) (a5 : Nat) (a6 : Nat) (a7 : Nat) (a8 : Nat) (a9 : Nat) (a10 : Nat) (a11 : Nat) (r1 : Nat) (r2 : Nat) (r3 : Nat) (r4 : Nat) (r5 : Nat) (r6 : Nat) (r7 : Nat) (r8 : Nat) (r9 : Nat) (r10 : Nat) (r11 : Nat) (sz : Nat)  : Met l ⟨"PromiseChains", "tick", "(I)I"⟩ (mw ⟨"PromiseChains", "tick", "(I)I"⟩ prog_1_method_12_code 4 (some .int)) ({ frames := 2, cells := 0, slots := 0, locals := 53 }) (va_Pc [.ref x, .int n] (PB D cI cZ sz [(x, .inr (0, [.ref f0, .ref a0, .ref r0, .ref w0, .ref g0, .ref k0, .int 0, .int 3, .int 5])), (f0, .inr (1, [.int 2, .ref f1, .ref f2, .ref f3, .ref f4])), (a0, .inr (2, [.int 0, .ref a1, .ref a2, .ref a3, .ref a4, .ref a5, .ref a6, .ref a7, .ref a8, .ref a9, .ref a10, .ref a11])), (r0, .inr (3, [.int 0, .int 0, .ref r1, .ref r2, .ref r3, .ref r4, .ref r5, .ref r6, .ref r7, .ref r8, .ref r9, .ref r10, .ref r11]))])) (va_Qi (S := Unit) (fun (r : Int32) uU => r = sp_tick n) (fun uU tT => BB D (va_A [(x, .inr (0, [.ref f0, .ref a0, .ref r0, .ref w0, .ref g0, .ref k0, .int 0, .int 3, .int 5])), (f0, .inr (1, [.int 2, .ref f1, .ref f2, .ref f3, .ref f4])), (a0, .inr (2, [.int 0, .ref a1, .ref a2, .ref a3, .ref a4, .ref a5, .ref a6, .ref a7, .ref a8, .ref a9, .ref a10, .ref a11])), (r0, .inr (3, [.int 0, .int 0, .ref r1, .ref r2, .ref r3, .ref r4, .ref r5, .ref r6, .ref r7, .ref r8, .ref r9, .ref r10, .ref r11]))] sz) [] tT) (va_A [(x, .inr (0, [.ref f0, .ref a0, .ref r0, .ref w0, .ref g0, .ref k0, .int 0, .int 3, .int 5])), (f0, .inr (1, [.int 2, .ref f1, .ref f2, .ref f3, .ref f4])), (a0, .inr (2, [.int 0, .ref a1, .ref a2, .ref a3, .ref a4, .ref a5, .ref a6, .ref a7, .ref a8, .ref a9, .ref a10, .ref a11])), (r0, .inr (3, [.int 0, .int 0, .ref r1, .ref r2, .ref r3, .ref r4, .ref r5, .ref r6, .ref r7, .ref r8, .ref r9, .ref r10, .ref r11]))] sz)) 0 0 (va_A [(x, .inr (0, [.ref f0, .ref a0, .ref r0, .ref w0, .ref g0, .ref k0, .int 0, .int 3, .int 5])), (f0, .inr (1, [.int 2, .ref f1, .ref f2, .ref f3, .ref f4])), (a0, .inr (2, [.int 0, .ref a1, .ref a2, .ref a3, .ref a4, .ref a5, .ref a6, .ref a7, .ref a8, .ref a9, .ref a10, .ref a11])), (r0, .inr (3, [.int 0, .int 0, .ref r1, .ref r2, .ref r3, .ref r4, .ref r5, .ref r6, .ref r7, .ref r8, .ref r9, .ref r10, .ref r11]))] sz) := by
  refine Met.ofW (cc := prog_1_method_12_code) (maxL := 4) (ret := (some .int)) (by decide) rfl ?_
  intro p e s m args below meth c s₁ B hml hv
  obtain ⟨rfl, hsz, hP, hK, hD0, hN⟩ := hv
  have hx := B.exec
  have hb := B.bytes
  have hr := B.returns
  have hts0 := atoms_spec (ws := mw ⟨"PromiseChains", "tick", "(I)I"⟩ prog_1_method_12_code 4 (some .int)) B.pre
  have hts : ∀ w ∈ tblG, w.before _ s = true := fun w h => hts0 w (List.mem_cons_of_mem _ h)
  have hown : s.vm.findClass "PromiseChains" = some m.cls := findClass_of_methodNamed B.named
  have hlocks := B.notSynchronized
  subst hsz
  have hD := hD0.self (sz := s.heap.size)
  generalize hAe : va_A [(x, .inr (0, [.ref f0, .ref a0, .ref r0, .ref w0, .ref g0, .ref k0, .int 0, .int 3, .int 5])), (f0, .inr (1, [.int 2, .ref f1, .ref f2, .ref f3, .ref f4])), (a0, .inr (2, [.int 0, .ref a1, .ref a2, .ref a3, .ref a4, .ref a5, .ref a6, .ref a7, .ref a8, .ref a9, .ref a10, .ref a11])), (r0, .inr (3, [.int 0, .int 0, .ref r1, .ref r2, .ref r3, .ref r4, .ref r5, .ref r6, .ref r7, .ref r8, .ref r9, .ref r10, .ref r11]))] s.heap.size = A at hD ⊢
  have hA : ∀ q : Nat, s.heap.size ≤ q → A q := fun q h => by rw [← hAe]; exact Or.inr h
  have hS : va_S A s.heap s.heap [] := va_S.rf
  have hP : va_P D vwCl [(x, .inr (0, [.ref f0, .ref a0, .ref r0, .ref w0, .ref g0, .ref k0, .int 0, .int 3, .int 5])), (f0, .inr (1, [.int 2, .ref f1, .ref f2, .ref f3, .ref f4])), (a0, .inr (2, [.int 0, .ref a1, .ref a2, .ref a3, .ref a4, .ref a5, .ref a6, .ref a7, .ref a8, .ref a9, .ref a10, .ref a11])), (r0, .inr (3, [.int 0, .int 0, .ref r1, .ref r2, .ref r3, .ref r4, .ref r5, .ref r6, .ref r7, .ref r8, .ref r9, .ref r10, .ref r11]))] s.heap := hP
  have hl := lv_entry ([.ref x, .int n]) (n := 4) (Nat.le_of_ble_eq_true rfl)
  rw [lg_entry_eq]
  generalize (lg_sl ([.ref x, .int n]) ++ List.replicate (4 - (lg_sl ([.ref x, .int n])).length) Slot.unset).toArray = ls at hl ⊢
  have hl : lv_has ls 4 [(0, .ref x), (1, .int n)] := hl
  refine lv_iload_n hx hb d_PC_tick_0 rfl (lv_at hl 1 rfl) ?_
  refine lv_iconst (v := 1) hx hb d_PC_tick_1 (by decide) ?_
  refine lv_bipush (v := 60) hx hb d_PC_tick_2 (by decide) ?_
  have hPc := hP.sub (ws' := []) [] rfl
  have hDc := hD.sub (ws' := []) [] (by decide) rfl
  refine vp_callSi (va_Run.run (va_runS (As := [.int n, .int 1, .int 60]) (rest := []) ⟨hx, hb, hml, hown, hts⟩ (c_within l D cI cZ n 1 60 s.heap.size ) (my_cwS 3 hts q_290 q_288 q_289 q_1 rfl rfl (by decide +kernel) ⟨Nat.le_of_ble_eq_true rfl, Nat.le_of_ble_eq_true rfl⟩) (my_preS hPc hDc hK hN) rfl rfl hl.1 rfl (lv_room (Nat.le_of_ble_eq_true rfl)) d_PC_tick_4 ⟨Nat.le_of_ble_eq_true rfl, Nat.le_of_ble_eq_true rfl⟩)) (fun r_1 hw_1 => ?_)
  have hw_1 : r_1 = isw n 1 60 := hw_1
  subst hw_1
  refine lv_if_ne (tgt := 13) hx hb d_PC_tick_7 (by decide) (fun h_2 => ?_) (fun h_2 => ?_)
  · obtain ⟨N, hN60, rfl⟩ := isw_nat (K := 60) rfl h_2
    refine lv_iconst (v := 0) hx hb d_PC_tick_13 (by decide) ?_
    refine lv_istore_n (lv' := [(2, .int 0), (0, .ref x), (1, .int (nI N))]) hx hb d_PC_tick_14 rfl hl (by decide) rfl (fun ls hl => ?_)
    refine lv_iconst (v := 0) hx hb d_PC_tick_15 (by decide) ?_
    refine lv_istore_n (lv' := [(3, .int 0), (2, .int 0), (0, .ref x), (1, .int (nI N))]) hx hb d_PC_tick_16 rfl hl (by decide) rfl (fun ls hl => ?_)
    refine W_loop (σ := Nat × Int32) (I := fun xX H locs ls => xX.1 ≤ N ∧ va_P D vwCl [(x, .inr (0, [.ref f0, .ref a0, .ref r0, .ref w0, .ref g0, .ref k0, .int xX.2, .int 3, .int 5])), (f0, .inr (1, [.int 2, .ref f1, .ref f2, .ref f3, .ref f4])), (a0, .inr (2, [.int 0, .ref a1, .ref a2, .ref a3, .ref a4, .ref a5, .ref a6, .ref a7, .ref a8, .ref a9, .ref a10, .ref a11])), (r0, .inr (3, [.int 0, .int 0, .ref r1, .ref r2, .ref r3, .ref r4, .ref r5, .ref r6, .ref r7, .ref r8, .ref r9, .ref r10, .ref r11]))] H ∧ va_D A [(x, .inr (0, [.ref f0, .ref a0, .ref r0, .ref w0, .ref g0, .ref k0, .int xX.2, .int 3, .int 5])), (f0, .inr (1, [.int 2, .ref f1, .ref f2, .ref f3, .ref f4])), (a0, .inr (2, [.int 0, .ref a1, .ref a2, .ref a3, .ref a4, .ref a5, .ref a6, .ref a7, .ref a8, .ref a9, .ref a10, .ref a11])), (r0, .inr (3, [.int 0, .int 0, .ref r1, .ref r2, .ref r3, .ref r4, .ref r5, .ref r6, .ref r7, .ref r8, .ref r9, .ref r10, .ref r11]))] ∧ va_S A s.heap H locs ∧ lv_has ls 4 [(3, .int (nI xX.1)), (2, .int 0), (0, .ref x), (1, .int (nI N))]) (μ := fun xX => N + 1 - xX.1) ?_ (0, 0) ⟨(Nat.zero_le _), hP, hD, hS, lv_sub hl [0, 1, 2, 3] rfl⟩
    intro xX H_3 locs ls hI ih
    obtain ⟨k, tm⟩ := xX
    obtain ⟨hi, hP, hD, hS, hl⟩ := hI
    have hP : va_P D vwCl [(x, .inr (0, [.ref f0, .ref a0, .ref r0, .ref w0, .ref g0, .ref k0, .int tm, .int 3, .int 5])), (f0, .inr (1, [.int 2, .ref f1, .ref f2, .ref f3, .ref f4])), (a0, .inr (2, [.int 0, .ref a1, .ref a2, .ref a3, .ref a4, .ref a5, .ref a6, .ref a7, .ref a8, .ref a9, .ref a10, .ref a11])), (r0, .inr (3, [.int 0, .int 0, .ref r1, .ref r2, .ref r3, .ref r4, .ref r5, .ref r6, .ref r7, .ref r8, .ref r9, .ref r10, .ref r11]))] H_3 := hP
    have hD : va_D A [(x, .inr (0, [.ref f0, .ref a0, .ref r0, .ref w0, .ref g0, .ref k0, .int tm, .int 3, .int 5])), (f0, .inr (1, [.int 2, .ref f1, .ref f2, .ref f3, .ref f4])), (a0, .inr (2, [.int 0, .ref a1, .ref a2, .ref a3, .ref a4, .ref a5, .ref a6, .ref a7, .ref a8, .ref a9, .ref a10, .ref a11])), (r0, .inr (3, [.int 0, .int 0, .ref r1, .ref r2, .ref r3, .ref r4, .ref r5, .ref r6, .ref r7, .ref r8, .ref r9, .ref r10, .ref r11]))] := hD
    have hl : lv_has ls 4 [(3, .int (nI k)), (2, .int 0), (0, .ref x), (1, .int (nI N))] := hl
    have hi : k ≤ N := hi
    refine lv_iload_n hx hb d_PC_tick_17 rfl (lv_at hl 0 rfl) ?_
    refine lv_iload_n hx hb d_PC_tick_18 rfl (lv_at hl 3 rfl) ?_
    refine lv_icmp_ge (tgt := 91) hx hb d_PC_tick_19 (by decide) (fun h_4 => ?_) (fun h_4 => ?_)
    · have nh_4 : N ≤ k := (nI_leI (a := N) (b := k) (by omega) (by omega)).mp h_4
      refine lv_iload_n hx hb d_PC_tick_91 rfl (lv_at hl 1 rfl) ?_
      have hP9 := hP.sub (ws' := []) [] rfl
      have hD9 := hD.sub (ws' := []) [] (by decide) rfl
      refine W.widen (k := 0) (n := 0) (Nat.le_of_ble_eq_true rfl) (Nat.le_of_ble_eq_true rfl) ?_
      exact W.iret (v := 0) hx hb hr (fun t ht hW => ⟨⟨0, (), rfl, (by first | decide | simp [sp_tick, h_2, h_4]), by rw [ht]; exact hP9, hD9⟩, hS.F ht⟩) hS.2.2 d_PC_tick_92
    · have nh_4 : ¬ N ≤ k := fun q => h_4 ((nI_leI (a := N) (b := k) (by omega) (by omega)).mpr q)
      refine lv_aload_n hx hb d_PC_tick_22 rfl (lv_at hl 2 rfl) ?_
      refine lv_dup hx hb d_PC_tick_23 rfl ?_
      refine va_get (D := D) (ci := 0) (v := .int tm) (C := R_PC) (T := F_PC) (N := 9) hx hb hts i_PC hown hK hP 0 rfl rfl 6 (by decide) (hts _ q_262) (fun _ h9 => h9) rfl d_PC_tick_24 ?_
      refine lv_iconst (v := 1) hx hb d_PC_tick_27 (by decide) ?_
      refine lv_iadd hx hb d_PC_tick_28 ?_
      refine va_put (D := D) (ci := 0) (v := .int (tm + 1)) (ty := .int) (C := R_PC) (T := F_PC) (N := 9) hx hb hts i_PC t_PC t_PC_ok n_PC hown hK hP hD hS 0 rfl rfl 6 (by decide) (hts _ q_262) (fun _ h9 => h9) rfl (by decide +kernel) rfl rfl (Nat.le_of_ble_eq_true rfl) d_PC_tick_29 (fun H_5 locs hP hD hS => ?_)
      have hP : va_P D vwCl [(x, .inr (0, [.ref f0, .ref a0, .ref r0, .ref w0, .ref g0, .ref k0, .int (tm + 1), .int 3, .int 5])), (f0, .inr (1, [.int 2, .ref f1, .ref f2, .ref f3, .ref f4])), (a0, .inr (2, [.int 0, .ref a1, .ref a2, .ref a3, .ref a4, .ref a5, .ref a6, .ref a7, .ref a8, .ref a9, .ref a10, .ref a11])), (r0, .inr (3, [.int 0, .int 0, .ref r1, .ref r2, .ref r3, .ref r4, .ref r5, .ref r6, .ref r7, .ref r8, .ref r9, .ref r10, .ref r11]))] H_5 := hP
      have hD : va_D A [(x, .inr (0, [.ref f0, .ref a0, .ref r0, .ref w0, .ref g0, .ref k0, .int (tm + 1), .int 3, .int 5])), (f0, .inr (1, [.int 2, .ref f1, .ref f2, .ref f3, .ref f4])), (a0, .inr (2, [.int 0, .ref a1, .ref a2, .ref a3, .ref a4, .ref a5, .ref a6, .ref a7, .ref a8, .ref a9, .ref a10, .ref a11])), (r0, .inr (3, [.int 0, .int 0, .ref r1, .ref r2, .ref r3, .ref r4, .ref r5, .ref r6, .ref r7, .ref r8, .ref r9, .ref r10, .ref r11]))] := hD
      refine lv_iload_n hx hb d_PC_tick_32 rfl (lv_at hl 1 rfl) ?_
      refine lv_aload_n hx hb d_PC_tick_33 rfl (lv_at hl 2 rfl) ?_
      refine va_get (D := D) (ci := 0) (v := .ref r0) (C := R_PC) (T := F_PC) (N := 9) hx hb hts i_PC hown hK hP 0 rfl rfl 2 (by decide) (hts _ q_258) (fun _ h9 => h9) rfl d_PC_tick_34 ?_
      refine lv_aload_n hx hb d_PC_tick_37 rfl (lv_at hl 2 rfl) ?_
      refine va_get (D := D) (ci := 0) (v := .ref a0) (C := R_PC) (T := F_PC) (N := 9) hx hb hts i_PC hown hK hP 0 rfl rfl 1 (by decide) (hts _ q_257) (fun _ h9 => h9) rfl d_PC_tick_38 ?_
      refine lv_aload_n hx hb d_PC_tick_41 rfl (lv_at hl 2 rfl) ?_
      refine va_get (D := D) (ci := 0) (v := .int (tm + 1)) (C := R_PC) (T := F_PC) (N := 9) hx hb hts i_PC hown hK hP 0 rfl rfl 6 (by decide) (hts _ q_262) (fun _ h9 => h9) rfl d_PC_tick_42 ?_
      have hPc := hP.sub (ws' := [(r0, .inr (3, [.int 0, .int 0, .ref r1, .ref r2, .ref r3, .ref r4, .ref r5, .ref r6, .ref r7, .ref r8, .ref r9, .ref r10, .ref r11]))]) [3] rfl
      have hDc := hD.sub (ws' := [(r0, .inr (3, [.int 0, .int 0, .ref r1, .ref r2, .ref r3, .ref r4, .ref r5, .ref r6, .ref r7, .ref r8, .ref r9, .ref r10, .ref r11]))]) [3] (by decide) rfl
      refine vp_callSi (va_Run.run (va_runV (As := [.ref a0, .int (tm + 1)]) (rest := [.int 0]) ⟨hx, hb, hml, hown, hts⟩ (f_PR_runOut l D cI cZ r0 a0 (tm + 1) r1 r2 r3 r4 r5 r6 r7 r8 r9 r10 r11 H_5.size ) (my_cwV 2 hts q_466 q_463 q_464 q_465 q_4 rfl rfl (by decide +kernel) ⟨Nat.le_of_ble_eq_true rfl, Nat.le_of_ble_eq_true rfl⟩) (my_preV hPc hDc hK hN 3 0 rfl rfl) rfl rfl hl.1 rfl (lv_room (Nat.le_of_ble_eq_true rfl)) d_PC_tick_45 ⟨Nat.le_of_ble_eq_true rfl, Nat.le_of_ble_eq_true rfl⟩)) (fun r_6 hw_6 => ?_)
      have hw_6 : r_6 = 0 := hw_6
      subst hw_6
      refine lv_iadd hx hb d_PC_tick_48 ?_
      refine lv_seti (0) (by decide) ?_
      refine lv_istore_n (lv' := [(2, .int 0), (3, .int (nI k)), (0, .ref x), (1, .int (nI N))]) hx hb d_PC_tick_49 rfl hl (by decide) rfl (fun ls hl => ?_)
      refine lv_aload_n hx hb d_PC_tick_50 rfl (lv_at hl 2 rfl) ?_
      refine va_get (D := D) (ci := 0) (v := .ref r0) (C := R_PC) (T := F_PC) (N := 9) hx hb hts i_PC hown hK hP 0 rfl rfl 2 (by decide) (hts _ q_258) (fun _ h9 => h9) rfl d_PC_tick_51 ?_
      refine lv_aload_n hx hb d_PC_tick_54 rfl (lv_at hl 2 rfl) ?_
      refine va_get (D := D) (ci := 0) (v := .ref f0) (C := R_PC) (T := F_PC) (N := 9) hx hb hts i_PC hown hK hP 0 rfl rfl 0 (by decide) (hts _ q_256) (fun _ h9 => h9) rfl d_PC_tick_55 ?_
      refine lv_aload_n hx hb d_PC_tick_58 rfl (lv_at hl 2 rfl) ?_
      refine va_get (D := D) (ci := 0) (v := .ref a0) (C := R_PC) (T := F_PC) (N := 9) hx hb hts i_PC hown hK hP 0 rfl rfl 1 (by decide) (hts _ q_257) (fun _ h9 => h9) rfl d_PC_tick_59 ?_
      refine lv_aload_n hx hb d_PC_tick_62 rfl (lv_at hl 2 rfl) ?_
      refine va_get (D := D) (ci := 0) (v := .int (tm + 1)) (C := R_PC) (T := F_PC) (N := 9) hx hb hts i_PC hown hK hP 0 rfl rfl 6 (by decide) (hts _ q_262) (fun _ h9 => h9) rfl d_PC_tick_63 ?_
      have hPc := hP.sub (ws' := [(r0, .inr (3, [.int 0, .int 0, .ref r1, .ref r2, .ref r3, .ref r4, .ref r5, .ref r6, .ref r7, .ref r8, .ref r9, .ref r10, .ref r11]))]) [3] rfl
      have hDc := hD.sub (ws' := [(r0, .inr (3, [.int 0, .int 0, .ref r1, .ref r2, .ref r3, .ref r4, .ref r5, .ref r6, .ref r7, .ref r8, .ref r9, .ref r10, .ref r11]))]) [3] (by decide) rfl
      refine vp_callSi (va_Run.run (va_runV (As := [.ref f0, .ref a0, .int (tm + 1)]) (rest := []) ⟨hx, hb, hml, hown, hts⟩ (f_PR_keepAll l D cI cZ r0 f0 a0 (tm + 1) r1 r2 r3 r4 r5 r6 r7 r8 r9 r10 r11 H_5.size ) (my_cwV 3 hts q_336 q_333 q_334 q_335 q_4 rfl rfl (by decide +kernel) ⟨Nat.le_of_ble_eq_true rfl, Nat.le_of_ble_eq_true rfl⟩) (my_preV hPc hDc hK hN 3 0 rfl rfl) rfl rfl hl.1 rfl (lv_room (Nat.le_of_ble_eq_true rfl)) d_PC_tick_66 ⟨Nat.le_of_ble_eq_true rfl, Nat.le_of_ble_eq_true rfl⟩)) (fun r_7 hw_7 => ?_)
      have hw_7 : r_7 = 0 := hw_7
      subst hw_7
      refine lv_pop hx hb d_PC_tick_69 rfl ?_
      refine lv_aload_n hx hb d_PC_tick_70 rfl (lv_at hl 2 rfl) ?_
      refine va_get (D := D) (ci := 0) (v := .ref a0) (C := R_PC) (T := F_PC) (N := 9) hx hb hts i_PC hown hK hP 0 rfl rfl 1 (by decide) (hts _ q_257) (fun _ h9 => h9) rfl d_PC_tick_71 ?_
      refine lv_aload_n hx hb d_PC_tick_74 rfl (lv_at hl 2 rfl) ?_
      refine va_get (D := D) (ci := 0) (v := .ref f0) (C := R_PC) (T := F_PC) (N := 9) hx hb hts i_PC hown hK hP 0 rfl rfl 0 (by decide) (hts _ q_256) (fun _ h9 => h9) rfl d_PC_tick_75 ?_
      refine lv_aload_n hx hb d_PC_tick_78 rfl (lv_at hl 2 rfl) ?_
      refine va_get (D := D) (ci := 0) (v := .int (tm + 1)) (C := R_PC) (T := F_PC) (N := 9) hx hb hts i_PC hown hK hP 0 rfl rfl 6 (by decide) (hts _ q_262) (fun _ h9 => h9) rfl d_PC_tick_79 ?_
      have hPc := hP.sub (ws' := [(a0, .inr (2, [.int 0, .ref a1, .ref a2, .ref a3, .ref a4, .ref a5, .ref a6, .ref a7, .ref a8, .ref a9, .ref a10, .ref a11]))]) [2] rfl
      have hDc := hD.sub (ws' := [(a0, .inr (2, [.int 0, .ref a1, .ref a2, .ref a3, .ref a4, .ref a5, .ref a6, .ref a7, .ref a8, .ref a9, .ref a10, .ref a11]))]) [2] (by decide) rfl
      refine va_csv (va_Run.run (va_runV (As := [.ref f0, .int (tm + 1)]) (rest := []) ⟨hx, hb, hml, hown, hts⟩ (f_PA_settle l D cI cZ a0 f0 (tm + 1) a1 a2 a3 a4 a5 a6 a7 a8 a9 a10 a11 H_5.size ) (my_cwV 2 hts q_364 q_361 q_362 q_363 q_3 rfl rfl (by decide +kernel) ⟨Nat.le_of_ble_eq_true rfl, Nat.le_of_ble_eq_true rfl⟩) (my_preV hPc hDc hK hN 2 0 rfl rfl) rfl rfl hl.1 rfl (lv_room (Nat.le_of_ble_eq_true rfl)) d_PC_tick_82 ⟨Nat.le_of_ble_eq_true rfl, Nat.le_of_ble_eq_true rfl⟩)) (fun _ => ?_)
      refine lv_iinc (v := nI (k + 1)) (lv' := [(3, .int (nI (k + 1))), (2, .int 0), (0, .ref x), (1, .int (nI N))]) hx hb d_PC_tick_85 hl (k := 1) rfl (nI_1 k) (by decide) rfl (fun ls hl => ?_)
      refine lv_goto (tgt := 17) hx hb d_PC_tick_88 (by decide) ?_
      exact ih ((k + 1), (tm + 1)) _ _ _ (by first | omega | (dsimp only; omega)) ⟨(by first | omega | (dsimp only; omega)), hP, hD, hS, lv_sub hl [0, 1, 2, 3] rfl⟩
  · refine lv_bipush (v := (-2)) hx hb d_PC_tick_10 (by decide) ?_
    have hP9 := hP.sub (ws' := []) [] rfl
    have hD9 := hD.sub (ws' := []) [] (by decide) rfl
    refine W.widen (k := 0) (n := 0) (Nat.le_of_ble_eq_true rfl) (Nat.le_of_ble_eq_true rfl) ?_
    exact W.iret (v := (-2)) hx hb hr (fun t ht hW => ⟨⟨(-2), (), rfl, (by first | decide | simp [sp_tick, h_2]), by rw [ht]; exact hP9, hD9⟩, hS.F ht⟩) hS.2.2 d_PC_tick_12

set_option maxHeartbeats 4000000 in
set_option maxRecDepth 100000 in
theorem f_PC_promiseAt (l : Launch) (D : va_G) (cI cZ : ClassId) (x : Nat) (i : Int32) (j : Int32) (f0 : Nat) (a0 : Nat) (r0 : Nat) (w0 : Nat) (g0 : Nat) (k0 : Nat) (r1 : Nat) (r2 : Nat) (r3 : Nat) (r4 : Nat) (r5 : Nat) (r6 : Nat) (r7 : Nat) (r8 : Nat) (r9 : Nat) (r10 : Nat) (r11 : Nat) (sz : Nat)  : Met l ⟨"PromiseChains", "promiseAt", "(II)I"⟩ (mw ⟨"PromiseChains", "promiseAt", "(II)I"⟩ prog_1_method_13_code 3 (some .int)) ({ frames := 2, cells := 0, slots := 0, locals := 43 }) (va_Pc [.ref x, .int i, .int j] (PB D cI cZ sz [(x, .inr (0, [.ref f0, .ref a0, .ref r0, .ref w0, .ref g0, .ref k0, .int 0, .int 3, .int 5])), (r0, .inr (3, [.int 0, .int 0, .ref r1, .ref r2, .ref r3, .ref r4, .ref r5, .ref r6, .ref r7, .ref r8, .ref r9, .ref r10, .ref r11]))])) (vp_Si (fun r => r = -2)) 0 0 (fun _ => False) := by
  refine Met.ofW (cc := prog_1_method_13_code) (maxL := 3) (ret := (some .int)) (by decide) rfl ?_
  intro p e s m args below meth c s₁ B hml hv
  obtain ⟨rfl, hsz, hP, hK, hD0, hN⟩ := hv
  have hx := B.exec
  have hb := B.bytes
  have hr := B.returns
  have hts0 := atoms_spec (ws := mw ⟨"PromiseChains", "promiseAt", "(II)I"⟩ prog_1_method_13_code 3 (some .int)) B.pre
  have hts : ∀ w ∈ tblG, w.before _ s = true := fun w h => hts0 w (List.mem_cons_of_mem _ h)
  have hown : s.vm.findClass "PromiseChains" = some m.cls := findClass_of_methodNamed B.named
  have hlocks := B.notSynchronized
  subst hsz
  have hD := hD0
  have hP : va_P D vwCl [(x, .inr (0, [.ref f0, .ref a0, .ref r0, .ref w0, .ref g0, .ref k0, .int 0, .int 3, .int 5])), (r0, .inr (3, [.int 0, .int 0, .ref r1, .ref r2, .ref r3, .ref r4, .ref r5, .ref r6, .ref r7, .ref r8, .ref r9, .ref r10, .ref r11]))] s.heap := hP
  have hl := lv_entry ([.ref x, .int i, .int j]) (n := 3) (Nat.le_of_ble_eq_true rfl)
  rw [lg_entry_eq]
  generalize (lg_sl ([.ref x, .int i, .int j]) ++ List.replicate (3 - (lg_sl ([.ref x, .int i, .int j])).length) Slot.unset).toArray = ls at hl ⊢
  have hl : lv_has ls 3 [(0, .ref x), (1, .int i), (2, .int j)] := hl
  refine lv_aload_n hx hb d_PC_promiseAt_0 rfl (lv_at hl 0 rfl) ?_
  refine va_get (D := D) (ci := 0) (v := .ref r0) (C := R_PC) (T := F_PC) (N := 9) hx hb hts i_PC hown hK hP 0 rfl rfl 2 (by decide) (hts _ q_258) (fun _ h9 => h9) rfl d_PC_promiseAt_1 ?_
  refine lv_iload_n hx hb d_PC_promiseAt_4 rfl (lv_at hl 1 rfl) ?_
  have hPc := hP.sub (ws' := [(r0, .inr (3, [.int 0, .int 0, .ref r1, .ref r2, .ref r3, .ref r4, .ref r5, .ref r6, .ref r7, .ref r8, .ref r9, .ref r10, .ref r11]))]) [1] rfl
  have hDc := hD.sub (ws' := [(r0, .inr (3, [.int 0, .int 0, .ref r1, .ref r2, .ref r3, .ref r4, .ref r5, .ref r6, .ref r7, .ref r8, .ref r9, .ref r10, .ref r11]))]) [1] (by decide) rfl
  refine vp_callSi (va_Run.run (va_runV (As := [.int i]) (rest := []) ⟨hx, hb, hml, hown, hts⟩ (f_PR_has l D cI cZ r0 i r1 r2 r3 r4 r5 r6 r7 r8 r9 r10 r11 s.heap.size ) (my_cwV 1 hts q_457 q_454 q_455 q_456 q_4 rfl rfl (by decide +kernel) ⟨Nat.le_of_ble_eq_true rfl, Nat.le_of_ble_eq_true rfl⟩) (my_preV hPc hDc hK hN 3 0 rfl rfl) rfl rfl hl.1 rfl (lv_room (Nat.le_of_ble_eq_true rfl)) d_PC_promiseAt_5 ⟨Nat.le_of_ble_eq_true rfl, Nat.le_of_ble_eq_true rfl⟩)) (fun r_1 hw_1 => ?_)
  have hw_1 : r_1 = 0 := hw_1
  subst hw_1
  refine lv_if_ne (tgt := 14) hx hb d_PC_promiseAt_8 (by decide) (fun h => absurd h (by decide)) (fun _ => ?_)
  refine lv_bipush (v := (-2)) hx hb d_PC_promiseAt_11 (by decide) ?_
  exact W.iret (v := (-2)) hx hb hr (fun t ht hW => ⟨(-2), rfl, rfl, ht⟩) (fun q h => absurd h List.not_mem_nil) d_PC_promiseAt_13

set_option maxHeartbeats 4000000 in
set_option maxRecDepth 100000 in
theorem f_PC_side (l : Launch) (D : va_G) (cI cZ : ClassId) (x : Nat) (i : Int32) (j : Int32) (f0 : Nat) (a0 : Nat) (r0 : Nat) (w0 : Nat) (g0 : Nat) (k0 : Nat) (a1 : Nat) (a2 : Nat) (a3 : Nat) (a4 : Nat) (a5 : Nat) (a6 : Nat) (a7 : Nat) (a8 : Nat) (a9 : Nat) (a10 : Nat) (a11 : Nat) (sz : Nat)  : Met l ⟨"PromiseChains", "side", "(II)I"⟩ (mw ⟨"PromiseChains", "side", "(II)I"⟩ prog_1_method_14_code 3 (some .int)) ({ frames := 2, cells := 0, slots := 0, locals := 43 }) (va_Pc [.ref x, .int i, .int j] (PB D cI cZ sz [(x, .inr (0, [.ref f0, .ref a0, .ref r0, .ref w0, .ref g0, .ref k0, .int 0, .int 3, .int 5])), (a0, .inr (2, [.int 0, .ref a1, .ref a2, .ref a3, .ref a4, .ref a5, .ref a6, .ref a7, .ref a8, .ref a9, .ref a10, .ref a11]))])) (vp_Si (fun r => r = -2)) 0 0 (fun _ => False) := by
  refine Met.ofW (cc := prog_1_method_14_code) (maxL := 3) (ret := (some .int)) (by decide) rfl ?_
  intro p e s m args below meth c s₁ B hml hv
  obtain ⟨rfl, hsz, hP, hK, hD0, hN⟩ := hv
  have hx := B.exec
  have hb := B.bytes
  have hr := B.returns
  have hts0 := atoms_spec (ws := mw ⟨"PromiseChains", "side", "(II)I"⟩ prog_1_method_14_code 3 (some .int)) B.pre
  have hts : ∀ w ∈ tblG, w.before _ s = true := fun w h => hts0 w (List.mem_cons_of_mem _ h)
  have hown : s.vm.findClass "PromiseChains" = some m.cls := findClass_of_methodNamed B.named
  have hlocks := B.notSynchronized
  subst hsz
  have hD := hD0
  have hP : va_P D vwCl [(x, .inr (0, [.ref f0, .ref a0, .ref r0, .ref w0, .ref g0, .ref k0, .int 0, .int 3, .int 5])), (a0, .inr (2, [.int 0, .ref a1, .ref a2, .ref a3, .ref a4, .ref a5, .ref a6, .ref a7, .ref a8, .ref a9, .ref a10, .ref a11]))] s.heap := hP
  have hl := lv_entry ([.ref x, .int i, .int j]) (n := 3) (Nat.le_of_ble_eq_true rfl)
  rw [lg_entry_eq]
  generalize (lg_sl ([.ref x, .int i, .int j]) ++ List.replicate (3 - (lg_sl ([.ref x, .int i, .int j])).length) Slot.unset).toArray = ls at hl ⊢
  have hl : lv_has ls 3 [(0, .ref x), (1, .int i), (2, .int j)] := hl
  refine lv_aload_n hx hb d_PC_side_0 rfl (lv_at hl 0 rfl) ?_
  refine va_get (D := D) (ci := 0) (v := .ref a0) (C := R_PC) (T := F_PC) (N := 9) hx hb hts i_PC hown hK hP 0 rfl rfl 1 (by decide) (hts _ q_257) (fun _ h9 => h9) rfl d_PC_side_1 ?_
  refine lv_iload_n hx hb d_PC_side_4 rfl (lv_at hl 1 rfl) ?_
  have hPc := hP.sub (ws' := [(a0, .inr (2, [.int 0, .ref a1, .ref a2, .ref a3, .ref a4, .ref a5, .ref a6, .ref a7, .ref a8, .ref a9, .ref a10, .ref a11]))]) [1] rfl
  have hDc := hD.sub (ws' := [(a0, .inr (2, [.int 0, .ref a1, .ref a2, .ref a3, .ref a4, .ref a5, .ref a6, .ref a7, .ref a8, .ref a9, .ref a10, .ref a11]))]) [1] (by decide) rfl
  refine vp_callSi (va_Run.run (va_runV (As := [.int i]) (rest := []) ⟨hx, hb, hml, hown, hts⟩ (f_PA_has l D cI cZ a0 i a1 a2 a3 a4 a5 a6 a7 a8 a9 a10 a11 s.heap.size ) (my_cwV 1 hts q_486 q_483 q_484 q_485 q_3 rfl rfl (by decide +kernel) ⟨Nat.le_of_ble_eq_true rfl, Nat.le_of_ble_eq_true rfl⟩) (my_preV hPc hDc hK hN 2 0 rfl rfl) rfl rfl hl.1 rfl (lv_room (Nat.le_of_ble_eq_true rfl)) d_PC_side_5 ⟨Nat.le_of_ble_eq_true rfl, Nat.le_of_ble_eq_true rfl⟩)) (fun r_1 hw_1 => ?_)
  have hw_1 : r_1 = 0 := hw_1
  subst hw_1
  refine lv_if_eq (tgt := 20) hx hb d_PC_side_8 (by decide) (fun _ => ?_) (fun h => absurd h (by decide))
  refine lv_bipush (v := (-2)) hx hb d_PC_side_20 (by decide) ?_
  exact W.iret (v := (-2)) hx hb hr (fun t ht hW => ⟨(-2), rfl, rfl, ht⟩) (fun q h => absurd h List.not_mem_nil) d_PC_side_22

set_option maxHeartbeats 4000000 in
set_option maxRecDepth 100000 in
theorem f_PC_locked (l : Launch) (D : va_G) (cI cZ : ClassId) (x : Nat) (i : Int32) (j : Int32) (f0 : Nat) (a0 : Nat) (r0 : Nat) (w0 : Nat) (g0 : Nat) (k0 : Nat) (a1 : Nat) (a2 : Nat) (a3 : Nat) (a4 : Nat) (a5 : Nat) (a6 : Nat) (a7 : Nat) (a8 : Nat) (a9 : Nat) (a10 : Nat) (a11 : Nat) (sz : Nat)  : Met l ⟨"PromiseChains", "locked", "(II)I"⟩ (mw ⟨"PromiseChains", "locked", "(II)I"⟩ prog_1_method_15_code 3 (some .int)) ({ frames := 2, cells := 0, slots := 0, locals := 43 }) (va_Pc [.ref x, .int i, .int j] (PB D cI cZ sz [(x, .inr (0, [.ref f0, .ref a0, .ref r0, .ref w0, .ref g0, .ref k0, .int 0, .int 3, .int 5])), (a0, .inr (2, [.int 0, .ref a1, .ref a2, .ref a3, .ref a4, .ref a5, .ref a6, .ref a7, .ref a8, .ref a9, .ref a10, .ref a11]))])) (vp_Si (fun r => r = -2)) 0 0 (fun _ => False) := by
  refine Met.ofW (cc := prog_1_method_15_code) (maxL := 3) (ret := (some .int)) (by decide) rfl ?_
  intro p e s m args below meth c s₁ B hml hv
  obtain ⟨rfl, hsz, hP, hK, hD0, hN⟩ := hv
  have hx := B.exec
  have hb := B.bytes
  have hr := B.returns
  have hts0 := atoms_spec (ws := mw ⟨"PromiseChains", "locked", "(II)I"⟩ prog_1_method_15_code 3 (some .int)) B.pre
  have hts : ∀ w ∈ tblG, w.before _ s = true := fun w h => hts0 w (List.mem_cons_of_mem _ h)
  have hown : s.vm.findClass "PromiseChains" = some m.cls := findClass_of_methodNamed B.named
  have hlocks := B.notSynchronized
  subst hsz
  have hD := hD0
  have hP : va_P D vwCl [(x, .inr (0, [.ref f0, .ref a0, .ref r0, .ref w0, .ref g0, .ref k0, .int 0, .int 3, .int 5])), (a0, .inr (2, [.int 0, .ref a1, .ref a2, .ref a3, .ref a4, .ref a5, .ref a6, .ref a7, .ref a8, .ref a9, .ref a10, .ref a11]))] s.heap := hP
  have hl := lv_entry ([.ref x, .int i, .int j]) (n := 3) (Nat.le_of_ble_eq_true rfl)
  rw [lg_entry_eq]
  generalize (lg_sl ([.ref x, .int i, .int j]) ++ List.replicate (3 - (lg_sl ([.ref x, .int i, .int j])).length) Slot.unset).toArray = ls at hl ⊢
  have hl : lv_has ls 3 [(0, .ref x), (1, .int i), (2, .int j)] := hl
  refine lv_aload_n hx hb d_PC_locked_0 rfl (lv_at hl 0 rfl) ?_
  refine va_get (D := D) (ci := 0) (v := .ref a0) (C := R_PC) (T := F_PC) (N := 9) hx hb hts i_PC hown hK hP 0 rfl rfl 1 (by decide) (hts _ q_257) (fun _ h9 => h9) rfl d_PC_locked_1 ?_
  refine lv_iload_n hx hb d_PC_locked_4 rfl (lv_at hl 1 rfl) ?_
  have hPc := hP.sub (ws' := [(a0, .inr (2, [.int 0, .ref a1, .ref a2, .ref a3, .ref a4, .ref a5, .ref a6, .ref a7, .ref a8, .ref a9, .ref a10, .ref a11]))]) [1] rfl
  have hDc := hD.sub (ws' := [(a0, .inr (2, [.int 0, .ref a1, .ref a2, .ref a3, .ref a4, .ref a5, .ref a6, .ref a7, .ref a8, .ref a9, .ref a10, .ref a11]))]) [1] (by decide) rfl
  refine vp_callSi (va_Run.run (va_runV (As := [.int i]) (rest := []) ⟨hx, hb, hml, hown, hts⟩ (f_PA_has l D cI cZ a0 i a1 a2 a3 a4 a5 a6 a7 a8 a9 a10 a11 s.heap.size ) (my_cwV 1 hts q_486 q_483 q_484 q_485 q_3 rfl rfl (by decide +kernel) ⟨Nat.le_of_ble_eq_true rfl, Nat.le_of_ble_eq_true rfl⟩) (my_preV hPc hDc hK hN 2 0 rfl rfl) rfl rfl hl.1 rfl (lv_room (Nat.le_of_ble_eq_true rfl)) d_PC_locked_5 ⟨Nat.le_of_ble_eq_true rfl, Nat.le_of_ble_eq_true rfl⟩)) (fun r_1 hw_1 => ?_)
  have hw_1 : r_1 = 0 := hw_1
  subst hw_1
  refine lv_if_eq (tgt := 20) hx hb d_PC_locked_8 (by decide) (fun _ => ?_) (fun h => absurd h (by decide))
  refine lv_bipush (v := (-2)) hx hb d_PC_locked_20 (by decide) ?_
  exact W.iret (v := (-2)) hx hb hr (fun t ht hW => ⟨(-2), rfl, rfl, ht⟩) (fun q h => absurd h List.not_mem_nil) d_PC_locked_22

set_option maxHeartbeats 4000000 in
set_option maxRecDepth 100000 in
theorem f_PC_about (l : Launch) (D : va_G) (cI cZ : ClassId) (x : Nat) (i : Int32) (j : Int32) (f0 : Nat) (a0 : Nat) (r0 : Nat) (w0 : Nat) (g0 : Nat) (k0 : Nat) (a1 : Nat) (a2 : Nat) (a3 : Nat) (a4 : Nat) (a5 : Nat) (a6 : Nat) (a7 : Nat) (a8 : Nat) (a9 : Nat) (a10 : Nat) (a11 : Nat) (sz : Nat)  : Met l ⟨"PromiseChains", "about", "(II)I"⟩ (mw ⟨"PromiseChains", "about", "(II)I"⟩ prog_1_method_16_code 3 (some .int)) ({ frames := 2, cells := 0, slots := 0, locals := 43 }) (va_Pc [.ref x, .int i, .int j] (PB D cI cZ sz [(x, .inr (0, [.ref f0, .ref a0, .ref r0, .ref w0, .ref g0, .ref k0, .int 0, .int 3, .int 5])), (a0, .inr (2, [.int 0, .ref a1, .ref a2, .ref a3, .ref a4, .ref a5, .ref a6, .ref a7, .ref a8, .ref a9, .ref a10, .ref a11]))])) (vp_Si (fun r => r = -2)) 0 0 (fun _ => False) := by
  refine Met.ofW (cc := prog_1_method_16_code) (maxL := 3) (ret := (some .int)) (by decide) rfl ?_
  intro p e s m args below meth c s₁ B hml hv
  obtain ⟨rfl, hsz, hP, hK, hD0, hN⟩ := hv
  have hx := B.exec
  have hb := B.bytes
  have hr := B.returns
  have hts0 := atoms_spec (ws := mw ⟨"PromiseChains", "about", "(II)I"⟩ prog_1_method_16_code 3 (some .int)) B.pre
  have hts : ∀ w ∈ tblG, w.before _ s = true := fun w h => hts0 w (List.mem_cons_of_mem _ h)
  have hown : s.vm.findClass "PromiseChains" = some m.cls := findClass_of_methodNamed B.named
  have hlocks := B.notSynchronized
  subst hsz
  have hD := hD0
  have hP : va_P D vwCl [(x, .inr (0, [.ref f0, .ref a0, .ref r0, .ref w0, .ref g0, .ref k0, .int 0, .int 3, .int 5])), (a0, .inr (2, [.int 0, .ref a1, .ref a2, .ref a3, .ref a4, .ref a5, .ref a6, .ref a7, .ref a8, .ref a9, .ref a10, .ref a11]))] s.heap := hP
  have hl := lv_entry ([.ref x, .int i, .int j]) (n := 3) (Nat.le_of_ble_eq_true rfl)
  rw [lg_entry_eq]
  generalize (lg_sl ([.ref x, .int i, .int j]) ++ List.replicate (3 - (lg_sl ([.ref x, .int i, .int j])).length) Slot.unset).toArray = ls at hl ⊢
  have hl : lv_has ls 3 [(0, .ref x), (1, .int i), (2, .int j)] := hl
  refine lv_aload_n hx hb d_PC_about_0 rfl (lv_at hl 0 rfl) ?_
  refine va_get (D := D) (ci := 0) (v := .ref a0) (C := R_PC) (T := F_PC) (N := 9) hx hb hts i_PC hown hK hP 0 rfl rfl 1 (by decide) (hts _ q_257) (fun _ h9 => h9) rfl d_PC_about_1 ?_
  refine lv_iload_n hx hb d_PC_about_4 rfl (lv_at hl 1 rfl) ?_
  have hPc := hP.sub (ws' := [(a0, .inr (2, [.int 0, .ref a1, .ref a2, .ref a3, .ref a4, .ref a5, .ref a6, .ref a7, .ref a8, .ref a9, .ref a10, .ref a11]))]) [1] rfl
  have hDc := hD.sub (ws' := [(a0, .inr (2, [.int 0, .ref a1, .ref a2, .ref a3, .ref a4, .ref a5, .ref a6, .ref a7, .ref a8, .ref a9, .ref a10, .ref a11]))]) [1] (by decide) rfl
  refine vp_callSi (va_Run.run (va_runV (As := [.int i]) (rest := []) ⟨hx, hb, hml, hown, hts⟩ (f_PA_has l D cI cZ a0 i a1 a2 a3 a4 a5 a6 a7 a8 a9 a10 a11 s.heap.size ) (my_cwV 1 hts q_486 q_483 q_484 q_485 q_3 rfl rfl (by decide +kernel) ⟨Nat.le_of_ble_eq_true rfl, Nat.le_of_ble_eq_true rfl⟩) (my_preV hPc hDc hK hN 2 0 rfl rfl) rfl rfl hl.1 rfl (lv_room (Nat.le_of_ble_eq_true rfl)) d_PC_about_5 ⟨Nat.le_of_ble_eq_true rfl, Nat.le_of_ble_eq_true rfl⟩)) (fun r_1 hw_1 => ?_)
  have hw_1 : r_1 = 0 := hw_1
  subst hw_1
  refine lv_if_ne (tgt := 14) hx hb d_PC_about_8 (by decide) (fun h => absurd h (by decide)) (fun _ => ?_)
  refine lv_bipush (v := (-2)) hx hb d_PC_about_11 (by decide) ?_
  exact W.iret (v := (-2)) hx hb hr (fun t ht hW => ⟨(-2), rfl, rfl, ht⟩) (fun q h => absurd h List.not_mem_nil) d_PC_about_13

set_option maxHeartbeats 4000000 in
set_option maxRecDepth 100000 in
theorem f_PC_learnt (l : Launch) (D : va_G) (cI cZ : ClassId) (x : Nat) (i : Int32) (j : Int32) (f0 : Nat) (a0 : Nat) (r0 : Nat) (w0 : Nat) (g0 : Nat) (k0 : Nat) (a1 : Nat) (a2 : Nat) (a3 : Nat) (a4 : Nat) (a5 : Nat) (a6 : Nat) (a7 : Nat) (a8 : Nat) (a9 : Nat) (a10 : Nat) (a11 : Nat) (sz : Nat)  : Met l ⟨"PromiseChains", "learnt", "(II)I"⟩ (mw ⟨"PromiseChains", "learnt", "(II)I"⟩ prog_1_method_24_code 3 (some .int)) ({ frames := 2, cells := 0, slots := 0, locals := 43 }) (va_Pc [.ref x, .int i, .int j] (PB D cI cZ sz [(x, .inr (0, [.ref f0, .ref a0, .ref r0, .ref w0, .ref g0, .ref k0, .int 0, .int 3, .int 5])), (a0, .inr (2, [.int 0, .ref a1, .ref a2, .ref a3, .ref a4, .ref a5, .ref a6, .ref a7, .ref a8, .ref a9, .ref a10, .ref a11]))])) (vp_Si (fun r => r = -2)) 0 0 (fun _ => False) := by
  refine Met.ofW (cc := prog_1_method_24_code) (maxL := 3) (ret := (some .int)) (by decide) rfl ?_
  intro p e s m args below meth c s₁ B hml hv
  obtain ⟨rfl, hsz, hP, hK, hD0, hN⟩ := hv
  have hx := B.exec
  have hb := B.bytes
  have hr := B.returns
  have hts0 := atoms_spec (ws := mw ⟨"PromiseChains", "learnt", "(II)I"⟩ prog_1_method_24_code 3 (some .int)) B.pre
  have hts : ∀ w ∈ tblG, w.before _ s = true := fun w h => hts0 w (List.mem_cons_of_mem _ h)
  have hown : s.vm.findClass "PromiseChains" = some m.cls := findClass_of_methodNamed B.named
  have hlocks := B.notSynchronized
  subst hsz
  have hD := hD0
  have hP : va_P D vwCl [(x, .inr (0, [.ref f0, .ref a0, .ref r0, .ref w0, .ref g0, .ref k0, .int 0, .int 3, .int 5])), (a0, .inr (2, [.int 0, .ref a1, .ref a2, .ref a3, .ref a4, .ref a5, .ref a6, .ref a7, .ref a8, .ref a9, .ref a10, .ref a11]))] s.heap := hP
  have hl := lv_entry ([.ref x, .int i, .int j]) (n := 3) (Nat.le_of_ble_eq_true rfl)
  rw [lg_entry_eq]
  generalize (lg_sl ([.ref x, .int i, .int j]) ++ List.replicate (3 - (lg_sl ([.ref x, .int i, .int j])).length) Slot.unset).toArray = ls at hl ⊢
  have hl : lv_has ls 3 [(0, .ref x), (1, .int i), (2, .int j)] := hl
  refine lv_aload_n hx hb d_PC_learnt_0 rfl (lv_at hl 0 rfl) ?_
  refine va_get (D := D) (ci := 0) (v := .ref a0) (C := R_PC) (T := F_PC) (N := 9) hx hb hts i_PC hown hK hP 0 rfl rfl 1 (by decide) (hts _ q_257) (fun _ h9 => h9) rfl d_PC_learnt_1 ?_
  refine lv_iload_n hx hb d_PC_learnt_4 rfl (lv_at hl 1 rfl) ?_
  have hPc := hP.sub (ws' := [(a0, .inr (2, [.int 0, .ref a1, .ref a2, .ref a3, .ref a4, .ref a5, .ref a6, .ref a7, .ref a8, .ref a9, .ref a10, .ref a11]))]) [1] rfl
  have hDc := hD.sub (ws' := [(a0, .inr (2, [.int 0, .ref a1, .ref a2, .ref a3, .ref a4, .ref a5, .ref a6, .ref a7, .ref a8, .ref a9, .ref a10, .ref a11]))]) [1] (by decide) rfl
  refine vp_callSi (va_Run.run (va_runV (As := [.int i]) (rest := []) ⟨hx, hb, hml, hown, hts⟩ (f_PA_has l D cI cZ a0 i a1 a2 a3 a4 a5 a6 a7 a8 a9 a10 a11 s.heap.size ) (my_cwV 1 hts q_486 q_483 q_484 q_485 q_3 rfl rfl (by decide +kernel) ⟨Nat.le_of_ble_eq_true rfl, Nat.le_of_ble_eq_true rfl⟩) (my_preV hPc hDc hK hN 2 0 rfl rfl) rfl rfl hl.1 rfl (lv_room (Nat.le_of_ble_eq_true rfl)) d_PC_learnt_5 ⟨Nat.le_of_ble_eq_true rfl, Nat.le_of_ble_eq_true rfl⟩)) (fun r_1 hw_1 => ?_)
  have hw_1 : r_1 = 0 := hw_1
  subst hw_1
  refine lv_if_eq (tgt := 20) hx hb d_PC_learnt_8 (by decide) (fun _ => ?_) (fun h => absurd h (by decide))
  refine lv_bipush (v := (-2)) hx hb d_PC_learnt_20 (by decide) ?_
  exact W.iret (v := (-2)) hx hb hr (fun t ht hW => ⟨(-2), rfl, rfl, ht⟩) (fun q h => absurd h List.not_mem_nil) d_PC_learnt_22

set_option maxHeartbeats 4000000 in
set_option maxRecDepth 100000 in
theorem f_PC_stateAt (l : Launch) (D : va_G) (cI cZ : ClassId) (x : Nat) (i : Int32) (j : Int32) (v : Int32) (f0 : Nat) (a0 : Nat) (r0 : Nat) (w0 : Nat) (g0 : Nat) (k0 : Nat) (a1 : Nat) (a2 : Nat) (a3 : Nat) (a4 : Nat) (a5 : Nat) (a6 : Nat) (a7 : Nat) (a8 : Nat) (a9 : Nat) (a10 : Nat) (a11 : Nat) (sz : Nat)  : Met l ⟨"PromiseChains", "stateAt", "(III)I"⟩ (mw ⟨"PromiseChains", "stateAt", "(III)I"⟩ prog_1_method_17_code 4 (some .int)) ({ frames := 2, cells := 0, slots := 0, locals := 43 }) (va_Pc [.ref x, .int i, .int j, .int v] (PB D cI cZ sz [(x, .inr (0, [.ref f0, .ref a0, .ref r0, .ref w0, .ref g0, .ref k0, .int 0, .int 3, .int 5])), (a0, .inr (2, [.int 0, .ref a1, .ref a2, .ref a3, .ref a4, .ref a5, .ref a6, .ref a7, .ref a8, .ref a9, .ref a10, .ref a11]))])) (vp_Si (fun r => r = -2)) 0 0 (fun _ => False) := by
  refine Met.ofW (cc := prog_1_method_17_code) (maxL := 4) (ret := (some .int)) (by decide) rfl ?_
  intro p e s m args below meth c s₁ B hml hv
  obtain ⟨rfl, hsz, hP, hK, hD0, hN⟩ := hv
  have hx := B.exec
  have hb := B.bytes
  have hr := B.returns
  have hts0 := atoms_spec (ws := mw ⟨"PromiseChains", "stateAt", "(III)I"⟩ prog_1_method_17_code 4 (some .int)) B.pre
  have hts : ∀ w ∈ tblG, w.before _ s = true := fun w h => hts0 w (List.mem_cons_of_mem _ h)
  have hown : s.vm.findClass "PromiseChains" = some m.cls := findClass_of_methodNamed B.named
  have hlocks := B.notSynchronized
  subst hsz
  have hD := hD0
  have hP : va_P D vwCl [(x, .inr (0, [.ref f0, .ref a0, .ref r0, .ref w0, .ref g0, .ref k0, .int 0, .int 3, .int 5])), (a0, .inr (2, [.int 0, .ref a1, .ref a2, .ref a3, .ref a4, .ref a5, .ref a6, .ref a7, .ref a8, .ref a9, .ref a10, .ref a11]))] s.heap := hP
  have hl := lv_entry ([.ref x, .int i, .int j, .int v]) (n := 4) (Nat.le_of_ble_eq_true rfl)
  rw [lg_entry_eq]
  generalize (lg_sl ([.ref x, .int i, .int j, .int v]) ++ List.replicate (4 - (lg_sl ([.ref x, .int i, .int j, .int v])).length) Slot.unset).toArray = ls at hl ⊢
  have hl : lv_has ls 4 [(0, .ref x), (1, .int i), (2, .int j), (3, .int v)] := hl
  refine lv_aload_n hx hb d_PC_stateAt_0 rfl (lv_at hl 0 rfl) ?_
  refine va_get (D := D) (ci := 0) (v := .ref a0) (C := R_PC) (T := F_PC) (N := 9) hx hb hts i_PC hown hK hP 0 rfl rfl 1 (by decide) (hts _ q_257) (fun _ h9 => h9) rfl d_PC_stateAt_1 ?_
  refine lv_iload_n hx hb d_PC_stateAt_4 rfl (lv_at hl 1 rfl) ?_
  have hPc := hP.sub (ws' := [(a0, .inr (2, [.int 0, .ref a1, .ref a2, .ref a3, .ref a4, .ref a5, .ref a6, .ref a7, .ref a8, .ref a9, .ref a10, .ref a11]))]) [1] rfl
  have hDc := hD.sub (ws' := [(a0, .inr (2, [.int 0, .ref a1, .ref a2, .ref a3, .ref a4, .ref a5, .ref a6, .ref a7, .ref a8, .ref a9, .ref a10, .ref a11]))]) [1] (by decide) rfl
  refine vp_callSi (va_Run.run (va_runV (As := [.int i]) (rest := []) ⟨hx, hb, hml, hown, hts⟩ (f_PA_has l D cI cZ a0 i a1 a2 a3 a4 a5 a6 a7 a8 a9 a10 a11 s.heap.size ) (my_cwV 1 hts q_486 q_483 q_484 q_485 q_3 rfl rfl (by decide +kernel) ⟨Nat.le_of_ble_eq_true rfl, Nat.le_of_ble_eq_true rfl⟩) (my_preV hPc hDc hK hN 2 0 rfl rfl) rfl rfl hl.1 rfl (lv_room (Nat.le_of_ble_eq_true rfl)) d_PC_stateAt_5 ⟨Nat.le_of_ble_eq_true rfl, Nat.le_of_ble_eq_true rfl⟩)) (fun r_1 hw_1 => ?_)
  have hw_1 : r_1 = 0 := hw_1
  subst hw_1
  refine lv_if_eq (tgt := 24) hx hb d_PC_stateAt_8 (by decide) (fun _ => ?_) (fun h => absurd h (by decide))
  refine lv_bipush (v := (-2)) hx hb d_PC_stateAt_24 (by decide) ?_
  exact W.iret (v := (-2)) hx hb hr (fun t ht hW => ⟨(-2), rfl, rfl, ht⟩) (fun q h => absurd h List.not_mem_nil) d_PC_stateAt_26

set_option maxHeartbeats 4000000 in
set_option maxRecDepth 100000 in
theorem f_PC_close (l : Launch) (D : va_G) (cI cZ : ClassId) (x : Nat) (i : Int32) (j : Int32) (v : Int32) (f0 : Nat) (a0 : Nat) (r0 : Nat) (w0 : Nat) (g0 : Nat) (k0 : Nat) (a1 : Nat) (a2 : Nat) (a3 : Nat) (a4 : Nat) (a5 : Nat) (a6 : Nat) (a7 : Nat) (a8 : Nat) (a9 : Nat) (a10 : Nat) (a11 : Nat) (sz : Nat)  : Met l ⟨"PromiseChains", "close", "(III)I"⟩ (mw ⟨"PromiseChains", "close", "(III)I"⟩ prog_1_method_18_code 5 (some .int)) ({ frames := 2, cells := 0, slots := 0, locals := 43 }) (va_Pc [.ref x, .int i, .int j, .int v] (PB D cI cZ sz [(x, .inr (0, [.ref f0, .ref a0, .ref r0, .ref w0, .ref g0, .ref k0, .int 0, .int 3, .int 5])), (a0, .inr (2, [.int 0, .ref a1, .ref a2, .ref a3, .ref a4, .ref a5, .ref a6, .ref a7, .ref a8, .ref a9, .ref a10, .ref a11]))])) (vp_Si (fun r => r = -2)) 0 0 (fun _ => False) := by
  refine Met.ofW (cc := prog_1_method_18_code) (maxL := 5) (ret := (some .int)) (by decide) rfl ?_
  intro p e s m args below meth c s₁ B hml hv
  obtain ⟨rfl, hsz, hP, hK, hD0, hN⟩ := hv
  have hx := B.exec
  have hb := B.bytes
  have hr := B.returns
  have hts0 := atoms_spec (ws := mw ⟨"PromiseChains", "close", "(III)I"⟩ prog_1_method_18_code 5 (some .int)) B.pre
  have hts : ∀ w ∈ tblG, w.before _ s = true := fun w h => hts0 w (List.mem_cons_of_mem _ h)
  have hown : s.vm.findClass "PromiseChains" = some m.cls := findClass_of_methodNamed B.named
  have hlocks := B.notSynchronized
  subst hsz
  have hD := hD0
  have hP : va_P D vwCl [(x, .inr (0, [.ref f0, .ref a0, .ref r0, .ref w0, .ref g0, .ref k0, .int 0, .int 3, .int 5])), (a0, .inr (2, [.int 0, .ref a1, .ref a2, .ref a3, .ref a4, .ref a5, .ref a6, .ref a7, .ref a8, .ref a9, .ref a10, .ref a11]))] s.heap := hP
  have hl := lv_entry ([.ref x, .int i, .int j, .int v]) (n := 5) (Nat.le_of_ble_eq_true rfl)
  rw [lg_entry_eq]
  generalize (lg_sl ([.ref x, .int i, .int j, .int v]) ++ List.replicate (5 - (lg_sl ([.ref x, .int i, .int j, .int v])).length) Slot.unset).toArray = ls at hl ⊢
  have hl : lv_has ls 5 [(0, .ref x), (1, .int i), (2, .int j), (3, .int v)] := hl
  refine lv_aload_n hx hb d_PC_close_0 rfl (lv_at hl 0 rfl) ?_
  refine va_get (D := D) (ci := 0) (v := .ref a0) (C := R_PC) (T := F_PC) (N := 9) hx hb hts i_PC hown hK hP 0 rfl rfl 1 (by decide) (hts _ q_257) (fun _ h9 => h9) rfl d_PC_close_1 ?_
  refine lv_iload_n hx hb d_PC_close_4 rfl (lv_at hl 1 rfl) ?_
  have hPc := hP.sub (ws' := [(a0, .inr (2, [.int 0, .ref a1, .ref a2, .ref a3, .ref a4, .ref a5, .ref a6, .ref a7, .ref a8, .ref a9, .ref a10, .ref a11]))]) [1] rfl
  have hDc := hD.sub (ws' := [(a0, .inr (2, [.int 0, .ref a1, .ref a2, .ref a3, .ref a4, .ref a5, .ref a6, .ref a7, .ref a8, .ref a9, .ref a10, .ref a11]))]) [1] (by decide) rfl
  refine vp_callSi (va_Run.run (va_runV (As := [.int i]) (rest := []) ⟨hx, hb, hml, hown, hts⟩ (f_PA_has l D cI cZ a0 i a1 a2 a3 a4 a5 a6 a7 a8 a9 a10 a11 s.heap.size ) (my_cwV 1 hts q_486 q_483 q_484 q_485 q_3 rfl rfl (by decide +kernel) ⟨Nat.le_of_ble_eq_true rfl, Nat.le_of_ble_eq_true rfl⟩) (my_preV hPc hDc hK hN 2 0 rfl rfl) rfl rfl hl.1 rfl (lv_room (Nat.le_of_ble_eq_true rfl)) d_PC_close_5 ⟨Nat.le_of_ble_eq_true rfl, Nat.le_of_ble_eq_true rfl⟩)) (fun r_1 hw_1 => ?_)
  have hw_1 : r_1 = 0 := hw_1
  subst hw_1
  refine lv_if_eq (tgt := 41) hx hb d_PC_close_8 (by decide) (fun _ => ?_) (fun h => absurd h (by decide))
  refine lv_bipush (v := (-2)) hx hb d_PC_close_41 (by decide) ?_
  exact W.iret (v := (-2)) hx hb hr (fun t ht hW => ⟨(-2), rfl, rfl, ht⟩) (fun q h => absurd h List.not_mem_nil) d_PC_close_43

set_option maxHeartbeats 4000000 in
set_option maxRecDepth 100000 in
theorem f_PC_wealth (l : Launch) (D : va_G) (cI cZ : ClassId) (x : Nat) (i : Int32) (f0 : Nat) (a0 : Nat) (r0 : Nat) (w0 : Nat) (g0 : Nat) (k0 : Nat) (f1 : Nat) (f2 : Nat) (f3 : Nat) (f4 : Nat) (a1 : Nat) (a2 : Nat) (a3 : Nat) (a4 : Nat) (a5 : Nat) (a6 : Nat) (a7 : Nat) (a8 : Nat) (a9 : Nat) (a10 : Nat) (a11 : Nat) (sz : Nat)  : Met l ⟨"PromiseChains", "wealth", "(I)I"⟩ (mw ⟨"PromiseChains", "wealth", "(I)I"⟩ prog_1_method_19_code 4 (some .int)) ({ frames := 2, cells := 0, slots := 0, locals := 43 }) (va_Pc [.ref x, .int i] (PB D cI cZ sz [(x, .inr (0, [.ref f0, .ref a0, .ref r0, .ref w0, .ref g0, .ref k0, .int 0, .int 3, .int 5])), (f0, .inr (1, [.int 2, .ref f1, .ref f2, .ref f3, .ref f4])), (f1, .inl (cI, 7, .inl (fun _ => 0))), (a0, .inr (2, [.int 0, .ref a1, .ref a2, .ref a3, .ref a4, .ref a5, .ref a6, .ref a7, .ref a8, .ref a9, .ref a10, .ref a11]))])) (vp_Si (fun r => r = sp_wealth i)) 0 0 (fun _ => False) := by
  refine Met.ofW (cc := prog_1_method_19_code) (maxL := 4) (ret := (some .int)) (by decide) rfl ?_
  intro p e s m args below meth c s₁ B hml hv
  obtain ⟨rfl, hsz, hP, hK, hD0, hN⟩ := hv
  have hx := B.exec
  have hb := B.bytes
  have hr := B.returns
  have hts0 := atoms_spec (ws := mw ⟨"PromiseChains", "wealth", "(I)I"⟩ prog_1_method_19_code 4 (some .int)) B.pre
  have hts : ∀ w ∈ tblG, w.before _ s = true := fun w h => hts0 w (List.mem_cons_of_mem _ h)
  have hown : s.vm.findClass "PromiseChains" = some m.cls := findClass_of_methodNamed B.named
  have hlocks := B.notSynchronized
  subst hsz
  have hD := hD0
  have hP : va_P D vwCl [(x, .inr (0, [.ref f0, .ref a0, .ref r0, .ref w0, .ref g0, .ref k0, .int 0, .int 3, .int 5])), (f0, .inr (1, [.int 2, .ref f1, .ref f2, .ref f3, .ref f4])), (f1, .inl (cI, 7, .inl (fun _ => 0))), (a0, .inr (2, [.int 0, .ref a1, .ref a2, .ref a3, .ref a4, .ref a5, .ref a6, .ref a7, .ref a8, .ref a9, .ref a10, .ref a11]))] s.heap := hP
  have hl := lv_entry ([.ref x, .int i]) (n := 4) (Nat.le_of_ble_eq_true rfl)
  rw [lg_entry_eq]
  generalize (lg_sl ([.ref x, .int i]) ++ List.replicate (4 - (lg_sl ([.ref x, .int i])).length) Slot.unset).toArray = ls at hl ⊢
  have hl : lv_has ls 4 [(0, .ref x), (1, .int i)] := hl
  refine lv_aload_n hx hb d_PC_wealth_0 rfl (lv_at hl 0 rfl) ?_
  refine va_get (D := D) (ci := 0) (v := .ref f0) (C := R_PC) (T := F_PC) (N := 9) hx hb hts i_PC hown hK hP 0 rfl rfl 0 (by decide) (hts _ q_256) (fun _ h9 => h9) rfl d_PC_wealth_1 ?_
  refine lv_iload_n hx hb d_PC_wealth_4 rfl (lv_at hl 1 rfl) ?_
  have hPc := hP.sub (ws' := [(f0, .inr (1, [.int 2, .ref f1, .ref f2, .ref f3, .ref f4]))]) [1] rfl
  have hDc := hD.sub (ws' := [(f0, .inr (1, [.int 2, .ref f1, .ref f2, .ref f3, .ref f4]))]) [1] (by decide) rfl
  refine vp_callSi (va_Run.run (va_runV (As := [.int i]) (rest := []) ⟨hx, hb, hml, hown, hts⟩ (f_PE_has l D cI cZ f0 i f1 f2 f3 f4 s.heap.size ) (my_cwV 1 hts q_302 q_299 q_300 q_301 q_2 rfl rfl (by decide +kernel) ⟨Nat.le_of_ble_eq_true rfl, Nat.le_of_ble_eq_true rfl⟩) (my_preV hPc hDc hK hN 1 0 rfl rfl) rfl rfl hl.1 rfl (lv_room (Nat.le_of_ble_eq_true rfl)) d_PC_wealth_5 ⟨Nat.le_of_ble_eq_true rfl, Nat.le_of_ble_eq_true rfl⟩)) (fun r_1 hw_1 => ?_)
  have hw_1 : r_1 = isw i 0 1 := hw_1
  subst hw_1
  refine lv_if_ne (tgt := 14) hx hb d_PC_wealth_8 (by decide) (fun h_2 => ?_) (fun h_2 => ?_)
  · refine lv_aload_n hx hb d_PC_wealth_14 rfl (lv_at hl 0 rfl) ?_
    refine va_get (D := D) (ci := 0) (v := .ref f0) (C := R_PC) (T := F_PC) (N := 9) hx hb hts i_PC hown hK hP 0 rfl rfl 0 (by decide) (hts _ q_256) (fun _ h9 => h9) rfl d_PC_wealth_15 ?_
    refine va_get (D := D) (ci := 1) (v := .ref f1) (C := R_PE) (T := F_PE) (N := 5) hx hb hts i_PE hown hK hP 1 rfl rfl 1 (by decide) (hts _ q_28) (fun _ h9 => h9) rfl d_PC_wealth_18 ?_
    refine lv_iload_n hx hb d_PC_wealth_21 rfl (lv_at hl 1 rfl) ?_
    refine va_iald hx hb hK hP 2 0 rfl rfl (isw_in h_2 (by decide)) d_PC_wealth_22 ?_
    refine lv_seti (0) (rfl) ?_
    refine lv_istore_n (lv' := [(2, .int 0), (0, .ref x), (1, .int i)]) hx hb d_PC_wealth_23 rfl hl (by decide) rfl (fun ls hl => ?_)
    refine lv_iconst (v := 0) hx hb d_PC_wealth_24 (by decide) ?_
    refine lv_istore_n (lv' := [(3, .int 0), (2, .int 0), (0, .ref x), (1, .int i)]) hx hb d_PC_wealth_25 rfl hl (by decide) rfl (fun ls hl => ?_)
    refine lv_iload_n hx hb d_PC_wealth_26 rfl (lv_at hl 0 rfl) ?_
    refine lv_iconst (v := 2) hx hb d_PC_wealth_27 (by decide) ?_
    refine lv_aload_n hx hb d_PC_wealth_28 rfl (lv_at hl 2 rfl) ?_
    refine va_get (D := D) (ci := 0) (v := .ref a0) (C := R_PC) (T := F_PC) (N := 9) hx hb hts i_PC hown hK hP 0 rfl rfl 1 (by decide) (hts _ q_257) (fun _ h9 => h9) rfl d_PC_wealth_29 ?_
    refine va_get (D := D) (ci := 2) (v := .int 0) (C := R_PA) (T := F_PA) (N := 12) hx hb hts i_PA hown hK hP 3 rfl rfl 0 (by decide) (hts _ q_57) (fun _ h9 => h9) rfl d_PC_wealth_32 ?_
    refine lv_imul hx hb d_PC_wealth_35 ?_
    refine lv_seti (0) (by decide) ?_
    refine lv_icmp_ge (tgt := 80) hx hb d_PC_wealth_36 (by decide) (fun _ => ?_) (fun h => absurd h (by decide))
    refine lv_iload_n hx hb d_PC_wealth_80 rfl (lv_at hl 1 rfl) ?_
    exact W.iret (v := 0) hx hb hr (fun t ht hW => ⟨0, rfl, (by first | decide | simp [sp_wealth, h_2]), ht⟩) (fun q h => absurd h List.not_mem_nil) d_PC_wealth_81
  · refine lv_bipush (v := (-2)) hx hb d_PC_wealth_11 (by decide) ?_
    exact W.iret (v := (-2)) hx hb hr (fun t ht hW => ⟨(-2), rfl, (by first | decide | simp [sp_wealth, h_2]), ht⟩) (fun q h => absurd h List.not_mem_nil) d_PC_wealth_13

set_option maxHeartbeats 4000000 in
set_option maxRecDepth 100000 in
theorem f_PC_off (l : Launch) (D : va_G) (cI cZ : ClassId) (x : Nat) (f0 : Nat) (a0 : Nat) (r0 : Nat) (w0 : Nat) (g0 : Nat) (k0 : Nat) (a1 : Nat) (a2 : Nat) (a3 : Nat) (a4 : Nat) (a5 : Nat) (a6 : Nat) (a7 : Nat) (a8 : Nat) (a9 : Nat) (a10 : Nat) (a11 : Nat) (sz : Nat)  : Met l ⟨"PromiseChains", "off", "()I"⟩ (mw ⟨"PromiseChains", "off", "()I"⟩ prog_1_method_20_code 1 (some .int)) ({ frames := 1, cells := 0, slots := 0, locals := 22 }) (va_Pc [.ref x] (PB D cI cZ sz [(x, .inr (0, [.ref f0, .ref a0, .ref r0, .ref w0, .ref g0, .ref k0, .int 0, .int 3, .int 5])), (a0, .inr (2, [.int 0, .ref a1, .ref a2, .ref a3, .ref a4, .ref a5, .ref a6, .ref a7, .ref a8, .ref a9, .ref a10, .ref a11]))])) (vp_Si (fun r => r = 0)) 0 0 (fun _ => False) := by
  refine Met.ofW (cc := prog_1_method_20_code) (maxL := 1) (ret := (some .int)) (by decide) rfl ?_
  intro p e s m args below meth c s₁ B hml hv
  obtain ⟨rfl, hsz, hP, hK, hD0, hN⟩ := hv
  have hx := B.exec
  have hb := B.bytes
  have hr := B.returns
  have hts0 := atoms_spec (ws := mw ⟨"PromiseChains", "off", "()I"⟩ prog_1_method_20_code 1 (some .int)) B.pre
  have hts : ∀ w ∈ tblG, w.before _ s = true := fun w h => hts0 w (List.mem_cons_of_mem _ h)
  have hown : s.vm.findClass "PromiseChains" = some m.cls := findClass_of_methodNamed B.named
  have hlocks := B.notSynchronized
  subst hsz
  have hD := hD0
  have hP : va_P D vwCl [(x, .inr (0, [.ref f0, .ref a0, .ref r0, .ref w0, .ref g0, .ref k0, .int 0, .int 3, .int 5])), (a0, .inr (2, [.int 0, .ref a1, .ref a2, .ref a3, .ref a4, .ref a5, .ref a6, .ref a7, .ref a8, .ref a9, .ref a10, .ref a11]))] s.heap := hP
  have hl := lv_entry ([.ref x]) (n := 1) (Nat.le_of_ble_eq_true rfl)
  rw [lg_entry_eq]
  generalize (lg_sl ([.ref x]) ++ List.replicate (1 - (lg_sl ([.ref x])).length) Slot.unset).toArray = ls at hl ⊢
  have hl : lv_has ls 1 [(0, .ref x)] := hl
  refine lv_aload_n hx hb d_PC_off_0 rfl (lv_at hl 0 rfl) ?_
  refine va_get (D := D) (ci := 0) (v := .ref a0) (C := R_PC) (T := F_PC) (N := 9) hx hb hts i_PC hown hK hP 0 rfl rfl 1 (by decide) (hts _ q_257) (fun _ h9 => h9) rfl d_PC_off_1 ?_
  have hPc := hP.sub (ws' := [(a0, .inr (2, [.int 0, .ref a1, .ref a2, .ref a3, .ref a4, .ref a5, .ref a6, .ref a7, .ref a8, .ref a9, .ref a10, .ref a11]))]) [1] rfl
  have hDc := hD.sub (ws' := [(a0, .inr (2, [.int 0, .ref a1, .ref a2, .ref a3, .ref a4, .ref a5, .ref a6, .ref a7, .ref a8, .ref a9, .ref a10, .ref a11]))]) [1] (by decide) rfl
  refine vp_callSi (va_Run.run (va_runV (As := []) (rest := []) ⟨hx, hb, hml, hown, hts⟩ (f_PA_sumOff l D cI cZ a0 a1 a2 a3 a4 a5 a6 a7 a8 a9 a10 a11 s.heap.size ) (my_cwV 0 hts q_525 q_522 q_523 q_524 q_3 rfl rfl (by decide +kernel) ⟨Nat.le_of_ble_eq_true rfl, Nat.le_of_ble_eq_true rfl⟩) (my_preV hPc hDc hK hN 2 0 rfl rfl) rfl rfl hl.1 rfl (lv_room (Nat.le_of_ble_eq_true rfl)) d_PC_off_4 ⟨Nat.le_of_ble_eq_true rfl, Nat.le_of_ble_eq_true rfl⟩)) (fun r_1 hw_1 => ?_)
  have hw_1 : r_1 = 0 := hw_1
  subst hw_1
  exact W.iret (v := 0) hx hb hr (fun t ht hW => ⟨0, rfl, rfl, ht⟩) (fun q h => absurd h List.not_mem_nil) d_PC_off_7

set_option maxHeartbeats 4000000 in
set_option maxRecDepth 100000 in
theorem f_PC_ring (l : Launch) (D : va_G) (cI cZ : ClassId) (x : Nat) (i : Int32) (j : Int32) (f0 : Nat) (a0 : Nat) (r0 : Nat) (w0 : Nat) (g0 : Nat) (k0 : Nat) (a1 : Nat) (a2 : Nat) (a3 : Nat) (a4 : Nat) (a5 : Nat) (a6 : Nat) (a7 : Nat) (a8 : Nat) (a9 : Nat) (a10 : Nat) (a11 : Nat) (g1 : Nat) (g2 : Nat) (g5 : Nat) (g6 : Nat) (g7 : Nat) (sz : Nat)  : Met l ⟨"PromiseChains", "ring", "(II)I"⟩ (mw ⟨"PromiseChains", "ring", "(II)I"⟩ prog_1_method_21_code 4 (some .int)) ({ frames := 2, cells := 0, slots := 0, locals := 45 }) (va_Pc [.ref x, .int i, .int j] (PB D cI cZ sz [(x, .inr (0, [.ref f0, .ref a0, .ref r0, .ref w0, .ref g0, .ref k0, .int 0, .int 3, .int 5])), (a0, .inr (2, [.int 0, .ref a1, .ref a2, .ref a3, .ref a4, .ref a5, .ref a6, .ref a7, .ref a8, .ref a9, .ref a10, .ref a11])), (g0, .inr (5, [.int 0, .int 0, .int 0, .int 0, .ref g1, .ref g2, .ref g5])), (g5, .inr (6, [.int 0, .ref g6, .ref g7]))])) (va_Qi (S := Unit) (fun (r : Int32) uU => r = sp_ring i) (fun uU tT => BB D (va_A [(x, .inr (0, [.ref f0, .ref a0, .ref r0, .ref w0, .ref g0, .ref k0, .int 0, .int 3, .int 5])), (a0, .inr (2, [.int 0, .ref a1, .ref a2, .ref a3, .ref a4, .ref a5, .ref a6, .ref a7, .ref a8, .ref a9, .ref a10, .ref a11])), (g0, .inr (5, [.int 0, .int 0, .int 0, .int 0, .ref g1, .ref g2, .ref g5])), (g5, .inr (6, [.int 0, .ref g6, .ref g7]))] sz) [] tT) (va_A [(x, .inr (0, [.ref f0, .ref a0, .ref r0, .ref w0, .ref g0, .ref k0, .int 0, .int 3, .int 5])), (a0, .inr (2, [.int 0, .ref a1, .ref a2, .ref a3, .ref a4, .ref a5, .ref a6, .ref a7, .ref a8, .ref a9, .ref a10, .ref a11])), (g0, .inr (5, [.int 0, .int 0, .int 0, .int 0, .ref g1, .ref g2, .ref g5])), (g5, .inr (6, [.int 0, .ref g6, .ref g7]))] sz)) 0 0 (va_A [(x, .inr (0, [.ref f0, .ref a0, .ref r0, .ref w0, .ref g0, .ref k0, .int 0, .int 3, .int 5])), (a0, .inr (2, [.int 0, .ref a1, .ref a2, .ref a3, .ref a4, .ref a5, .ref a6, .ref a7, .ref a8, .ref a9, .ref a10, .ref a11])), (g0, .inr (5, [.int 0, .int 0, .int 0, .int 0, .ref g1, .ref g2, .ref g5])), (g5, .inr (6, [.int 0, .ref g6, .ref g7]))] sz) := by
  refine Met.ofW (cc := prog_1_method_21_code) (maxL := 4) (ret := (some .int)) (by decide) rfl ?_
  intro p e s m args below meth c s₁ B hml hv
  obtain ⟨rfl, hsz, hP, hK, hD0, hN⟩ := hv
  have hx := B.exec
  have hb := B.bytes
  have hr := B.returns
  have hts0 := atoms_spec (ws := mw ⟨"PromiseChains", "ring", "(II)I"⟩ prog_1_method_21_code 4 (some .int)) B.pre
  have hts : ∀ w ∈ tblG, w.before _ s = true := fun w h => hts0 w (List.mem_cons_of_mem _ h)
  have hown : s.vm.findClass "PromiseChains" = some m.cls := findClass_of_methodNamed B.named
  have hlocks := B.notSynchronized
  subst hsz
  have hD := hD0.self (sz := s.heap.size)
  generalize hAe : va_A [(x, .inr (0, [.ref f0, .ref a0, .ref r0, .ref w0, .ref g0, .ref k0, .int 0, .int 3, .int 5])), (a0, .inr (2, [.int 0, .ref a1, .ref a2, .ref a3, .ref a4, .ref a5, .ref a6, .ref a7, .ref a8, .ref a9, .ref a10, .ref a11])), (g0, .inr (5, [.int 0, .int 0, .int 0, .int 0, .ref g1, .ref g2, .ref g5])), (g5, .inr (6, [.int 0, .ref g6, .ref g7]))] s.heap.size = A at hD ⊢
  have hA : ∀ q : Nat, s.heap.size ≤ q → A q := fun q h => by rw [← hAe]; exact Or.inr h
  have hS : va_S A s.heap s.heap [] := va_S.rf
  have hP : va_P D vwCl [(x, .inr (0, [.ref f0, .ref a0, .ref r0, .ref w0, .ref g0, .ref k0, .int 0, .int 3, .int 5])), (a0, .inr (2, [.int 0, .ref a1, .ref a2, .ref a3, .ref a4, .ref a5, .ref a6, .ref a7, .ref a8, .ref a9, .ref a10, .ref a11])), (g0, .inr (5, [.int 0, .int 0, .int 0, .int 0, .ref g1, .ref g2, .ref g5])), (g5, .inr (6, [.int 0, .ref g6, .ref g7]))] s.heap := hP
  have hl := lv_entry ([.ref x, .int i, .int j]) (n := 4) (Nat.le_of_ble_eq_true rfl)
  rw [lg_entry_eq]
  generalize (lg_sl ([.ref x, .int i, .int j]) ++ List.replicate (4 - (lg_sl ([.ref x, .int i, .int j])).length) Slot.unset).toArray = ls at hl ⊢
  have hl : lv_has ls 4 [(0, .ref x), (1, .int i), (2, .int j)] := hl
  refine lv_iload_n hx hb d_PC_ring_0 rfl (lv_at hl 1 rfl) ?_
  refine lv_iconst (v := 0) hx hb d_PC_ring_1 (by decide) ?_
  refine lv_iconst (v := 4) hx hb d_PC_ring_2 (by decide) ?_
  have hPc := hP.sub (ws' := []) [] rfl
  have hDc := hD.sub (ws' := []) [] (by decide) rfl
  refine vp_callSi (va_Run.run (va_runS (As := [.int i, .int 0, .int 4]) (rest := []) ⟨hx, hb, hml, hown, hts⟩ (c_within l D cI cZ i 0 4 s.heap.size ) (my_cwS 3 hts q_290 q_288 q_289 q_1 rfl rfl (by decide +kernel) ⟨Nat.le_of_ble_eq_true rfl, Nat.le_of_ble_eq_true rfl⟩) (my_preS hPc hDc hK hN) rfl rfl hl.1 rfl (lv_room (Nat.le_of_ble_eq_true rfl)) d_PC_ring_3 ⟨Nat.le_of_ble_eq_true rfl, Nat.le_of_ble_eq_true rfl⟩)) (fun r_1 hw_1 => ?_)
  have hw_1 : r_1 = isw i 0 4 := hw_1
  subst hw_1
  refine lv_if_ne (tgt := 12) hx hb d_PC_ring_6 (by decide) (fun h_2 => ?_) (fun h_2 => ?_)
  · refine lv_aload_n hx hb d_PC_ring_12 rfl (lv_at hl 0 rfl) ?_
    have hPc := hP.sub (ws' := [(x, .inr (0, [.ref f0, .ref a0, .ref r0, .ref w0, .ref g0, .ref k0, .int 0, .int 3, .int 5])), (a0, .inr (2, [.int 0, .ref a1, .ref a2, .ref a3, .ref a4, .ref a5, .ref a6, .ref a7, .ref a8, .ref a9, .ref a10, .ref a11])), (g0, .inr (5, [.int 0, .int 0, .int 0, .int 0, .ref g1, .ref g2, .ref g5])), (g5, .inr (6, [.int 0, .ref g6, .ref g7]))]) [0, 1, 2, 3] rfl
    have hDc := hD.sub (ws' := [(x, .inr (0, [.ref f0, .ref a0, .ref r0, .ref w0, .ref g0, .ref k0, .int 0, .int 3, .int 5])), (a0, .inr (2, [.int 0, .ref a1, .ref a2, .ref a3, .ref a4, .ref a5, .ref a6, .ref a7, .ref a8, .ref a9, .ref a10, .ref a11])), (g0, .inr (5, [.int 0, .int 0, .int 0, .int 0, .ref g1, .ref g2, .ref g5])), (g5, .inr (6, [.int 0, .ref g6, .ref g7]))]) [0, 1, 2, 3] (by decide) rfl
    have hFc := va_free (wc := [(x, .inr (0, [.ref f0, .ref a0, .ref r0, .ref w0, .ref g0, .ref k0, .int 0, .int 3, .int 5])), (a0, .inr (2, [.int 0, .ref a1, .ref a2, .ref a3, .ref a4, .ref a5, .ref a6, .ref a7, .ref a8, .ref a9, .ref a10, .ref a11])), (g0, .inr (5, [.int 0, .int 0, .int 0, .int 0, .ref g1, .ref g2, .ref g5])), (g5, .inr (6, [.int 0, .ref g6, .ref g7]))]) hD hS hA [0, 1, 2, 3] rfl
    refine va_calli (va_runV (As := []) (rest := []) ⟨hx, hb, hml, hown, hts⟩ (f_PC_findRing l D cI cZ x f0 a0 r0 w0 g0 k0 a1 a2 a3 a4 a5 a6 a7 a8 a9 a10 a11 g1 g2 g5 g6 g7 s.heap.size ) (my_cwV 0 hts q_536 q_533 q_535 q_p3 q_1 rfl rfl (by decide +kernel) ⟨Nat.le_of_ble_eq_true rfl, Nat.le_of_ble_eq_true rfl⟩) (my_preV hPc hDc hK hN 0 0 rfl rfl) rfl rfl hl.1 rfl (lv_room (Nat.le_of_ble_eq_true rfl)) d_PC_ring_13 ⟨Nat.le_of_ble_eq_true rfl, Nat.le_of_ble_eq_true rfl⟩) hS (fun q _ h => hFc q h) hFc (fun r_3 uU tT H_4 locs ht hvm hw_3 hB hz1 hk1 hS => ?_)
    obtain ⟨hP1, hD1⟩ := hB
    rw [ht] at hP1
    obtain ⟨hP, hD⟩ := va_join (wr := []) (w1 := []) hP hD [0, 1, 2, 3] [] rfl rfl (by decide) (by decide) hk1 hFc hP1 hD1
    have hP : va_P D vwCl [] H_4 := hP
    have hD : va_D A [] := hD
    have hw_3 : r_3 = 0 := hw_3
    subst hw_3
    refine lv_if_ne (tgt := 21) hx hb d_PC_ring_16 (by decide) (fun h => absurd h (by decide)) (fun _ => ?_)
    refine lv_iconst (v := (-1)) hx hb d_PC_ring_19 (by decide) ?_
    have hP9 := hP.sub (ws' := []) [] rfl
    have hD9 := hD.sub (ws' := []) [] (by decide) rfl
    refine W.widen (k := 0) (n := 0) (Nat.le_of_ble_eq_true rfl) (Nat.le_of_ble_eq_true rfl) ?_
    exact W.iret (v := (-1)) hx hb hr (fun t ht hW => ⟨⟨(-1), (), rfl, (by first | decide | simp [sp_ring, h_2]), by rw [ht]; exact hP9, hD9⟩, hS.F ht⟩) hS.2.2 d_PC_ring_20
  · refine lv_bipush (v := (-2)) hx hb d_PC_ring_9 (by decide) ?_
    have hP9 := hP.sub (ws' := []) [] rfl
    have hD9 := hD.sub (ws' := []) [] (by decide) rfl
    refine W.widen (k := 0) (n := 0) (Nat.le_of_ble_eq_true rfl) (Nat.le_of_ble_eq_true rfl) ?_
    exact W.iret (v := (-2)) hx hb hr (fun t ht hW => ⟨⟨(-2), (), rfl, (by first | decide | simp [sp_ring, h_2]), by rw [ht]; exact hP9, hD9⟩, hS.F ht⟩) hS.2.2 d_PC_ring_11

set_option maxHeartbeats 4000000 in
set_option maxRecDepth 100000 in
theorem f_PC_even (l : Launch) (D : va_G) (cI cZ : ClassId) (x : Nat) (f0 : Nat) (a0 : Nat) (r0 : Nat) (w0 : Nat) (g0 : Nat) (k0 : Nat) (a1 : Nat) (a2 : Nat) (a3 : Nat) (a4 : Nat) (a5 : Nat) (a6 : Nat) (a7 : Nat) (a8 : Nat) (a9 : Nat) (a10 : Nat) (a11 : Nat) (g1 : Nat) (g2 : Nat) (g5 : Nat) (g6 : Nat) (g7 : Nat) (sz : Nat)  : Met l ⟨"PromiseChains", "even", "()I"⟩ (mw ⟨"PromiseChains", "even", "()I"⟩ prog_1_method_22_code 2 (some .int)) ({ frames := 2, cells := 0, slots := 0, locals := 45 }) (va_Pc [.ref x] (PB D cI cZ sz [(x, .inr (0, [.ref f0, .ref a0, .ref r0, .ref w0, .ref g0, .ref k0, .int 0, .int 3, .int 5])), (a0, .inr (2, [.int 0, .ref a1, .ref a2, .ref a3, .ref a4, .ref a5, .ref a6, .ref a7, .ref a8, .ref a9, .ref a10, .ref a11])), (g0, .inr (5, [.int 0, .int 0, .int 0, .int 0, .ref g1, .ref g2, .ref g5])), (g5, .inr (6, [.int 0, .ref g6, .ref g7]))])) (va_Qi (S := Unit) (fun (r : Int32) uU => r = -3) (fun uU tT => BB D (va_A [(x, .inr (0, [.ref f0, .ref a0, .ref r0, .ref w0, .ref g0, .ref k0, .int 0, .int 3, .int 5])), (a0, .inr (2, [.int 0, .ref a1, .ref a2, .ref a3, .ref a4, .ref a5, .ref a6, .ref a7, .ref a8, .ref a9, .ref a10, .ref a11])), (g0, .inr (5, [.int 0, .int 0, .int 0, .int 0, .ref g1, .ref g2, .ref g5])), (g5, .inr (6, [.int 0, .ref g6, .ref g7]))] sz) [] tT) (va_A [(x, .inr (0, [.ref f0, .ref a0, .ref r0, .ref w0, .ref g0, .ref k0, .int 0, .int 3, .int 5])), (a0, .inr (2, [.int 0, .ref a1, .ref a2, .ref a3, .ref a4, .ref a5, .ref a6, .ref a7, .ref a8, .ref a9, .ref a10, .ref a11])), (g0, .inr (5, [.int 0, .int 0, .int 0, .int 0, .ref g1, .ref g2, .ref g5])), (g5, .inr (6, [.int 0, .ref g6, .ref g7]))] sz)) 0 0 (va_A [(x, .inr (0, [.ref f0, .ref a0, .ref r0, .ref w0, .ref g0, .ref k0, .int 0, .int 3, .int 5])), (a0, .inr (2, [.int 0, .ref a1, .ref a2, .ref a3, .ref a4, .ref a5, .ref a6, .ref a7, .ref a8, .ref a9, .ref a10, .ref a11])), (g0, .inr (5, [.int 0, .int 0, .int 0, .int 0, .ref g1, .ref g2, .ref g5])), (g5, .inr (6, [.int 0, .ref g6, .ref g7]))] sz) := by
  refine Met.ofW (cc := prog_1_method_22_code) (maxL := 2) (ret := (some .int)) (by decide) rfl ?_
  intro p e s m args below meth c s₁ B hml hv
  obtain ⟨rfl, hsz, hP, hK, hD0, hN⟩ := hv
  have hx := B.exec
  have hb := B.bytes
  have hr := B.returns
  have hts0 := atoms_spec (ws := mw ⟨"PromiseChains", "even", "()I"⟩ prog_1_method_22_code 2 (some .int)) B.pre
  have hts : ∀ w ∈ tblG, w.before _ s = true := fun w h => hts0 w (List.mem_cons_of_mem _ h)
  have hown : s.vm.findClass "PromiseChains" = some m.cls := findClass_of_methodNamed B.named
  have hlocks := B.notSynchronized
  subst hsz
  have hD := hD0.self (sz := s.heap.size)
  generalize hAe : va_A [(x, .inr (0, [.ref f0, .ref a0, .ref r0, .ref w0, .ref g0, .ref k0, .int 0, .int 3, .int 5])), (a0, .inr (2, [.int 0, .ref a1, .ref a2, .ref a3, .ref a4, .ref a5, .ref a6, .ref a7, .ref a8, .ref a9, .ref a10, .ref a11])), (g0, .inr (5, [.int 0, .int 0, .int 0, .int 0, .ref g1, .ref g2, .ref g5])), (g5, .inr (6, [.int 0, .ref g6, .ref g7]))] s.heap.size = A at hD ⊢
  have hA : ∀ q : Nat, s.heap.size ≤ q → A q := fun q h => by rw [← hAe]; exact Or.inr h
  have hS : va_S A s.heap s.heap [] := va_S.rf
  have hP : va_P D vwCl [(x, .inr (0, [.ref f0, .ref a0, .ref r0, .ref w0, .ref g0, .ref k0, .int 0, .int 3, .int 5])), (a0, .inr (2, [.int 0, .ref a1, .ref a2, .ref a3, .ref a4, .ref a5, .ref a6, .ref a7, .ref a8, .ref a9, .ref a10, .ref a11])), (g0, .inr (5, [.int 0, .int 0, .int 0, .int 0, .ref g1, .ref g2, .ref g5])), (g5, .inr (6, [.int 0, .ref g6, .ref g7]))] s.heap := hP
  have hl := lv_entry ([.ref x]) (n := 2) (Nat.le_of_ble_eq_true rfl)
  rw [lg_entry_eq]
  generalize (lg_sl ([.ref x]) ++ List.replicate (2 - (lg_sl ([.ref x])).length) Slot.unset).toArray = ls at hl ⊢
  have hl : lv_has ls 2 [(0, .ref x)] := hl
  refine lv_aload_n hx hb d_PC_even_0 rfl (lv_at hl 0 rfl) ?_
  have hPc := hP.sub (ws' := [(x, .inr (0, [.ref f0, .ref a0, .ref r0, .ref w0, .ref g0, .ref k0, .int 0, .int 3, .int 5])), (a0, .inr (2, [.int 0, .ref a1, .ref a2, .ref a3, .ref a4, .ref a5, .ref a6, .ref a7, .ref a8, .ref a9, .ref a10, .ref a11])), (g0, .inr (5, [.int 0, .int 0, .int 0, .int 0, .ref g1, .ref g2, .ref g5])), (g5, .inr (6, [.int 0, .ref g6, .ref g7]))]) [0, 1, 2, 3] rfl
  have hDc := hD.sub (ws' := [(x, .inr (0, [.ref f0, .ref a0, .ref r0, .ref w0, .ref g0, .ref k0, .int 0, .int 3, .int 5])), (a0, .inr (2, [.int 0, .ref a1, .ref a2, .ref a3, .ref a4, .ref a5, .ref a6, .ref a7, .ref a8, .ref a9, .ref a10, .ref a11])), (g0, .inr (5, [.int 0, .int 0, .int 0, .int 0, .ref g1, .ref g2, .ref g5])), (g5, .inr (6, [.int 0, .ref g6, .ref g7]))]) [0, 1, 2, 3] (by decide) rfl
  have hFc := va_free (wc := [(x, .inr (0, [.ref f0, .ref a0, .ref r0, .ref w0, .ref g0, .ref k0, .int 0, .int 3, .int 5])), (a0, .inr (2, [.int 0, .ref a1, .ref a2, .ref a3, .ref a4, .ref a5, .ref a6, .ref a7, .ref a8, .ref a9, .ref a10, .ref a11])), (g0, .inr (5, [.int 0, .int 0, .int 0, .int 0, .ref g1, .ref g2, .ref g5])), (g5, .inr (6, [.int 0, .ref g6, .ref g7]))]) hD hS hA [0, 1, 2, 3] rfl
  refine va_calli (va_runV (As := []) (rest := []) ⟨hx, hb, hml, hown, hts⟩ (f_PC_findRing l D cI cZ x f0 a0 r0 w0 g0 k0 a1 a2 a3 a4 a5 a6 a7 a8 a9 a10 a11 g1 g2 g5 g6 g7 s.heap.size ) (my_cwV 0 hts q_536 q_533 q_535 q_p3 q_1 rfl rfl (by decide +kernel) ⟨Nat.le_of_ble_eq_true rfl, Nat.le_of_ble_eq_true rfl⟩) (my_preV hPc hDc hK hN 0 0 rfl rfl) rfl rfl hl.1 rfl (lv_room (Nat.le_of_ble_eq_true rfl)) d_PC_even_1 ⟨Nat.le_of_ble_eq_true rfl, Nat.le_of_ble_eq_true rfl⟩) hS (fun q _ h => hFc q h) hFc (fun r_1 uU tT H_2 locs ht hvm hw_1 hB hz1 hk1 hS => ?_)
  obtain ⟨hP1, hD1⟩ := hB
  rw [ht] at hP1
  obtain ⟨hP, hD⟩ := va_join (wr := []) (w1 := []) hP hD [0, 1, 2, 3] [] rfl rfl (by decide) (by decide) hk1 hFc hP1 hD1
  have hP : va_P D vwCl [] H_2 := hP
  have hD : va_D A [] := hD
  have hw_1 : r_1 = 0 := hw_1
  subst hw_1
  refine lv_if_ne (tgt := 10) hx hb d_PC_even_4 (by decide) (fun h => absurd h (by decide)) (fun _ => ?_)
  refine lv_bipush (v := (-3)) hx hb d_PC_even_7 (by decide) ?_
  have hP9 := hP.sub (ws' := []) [] rfl
  have hD9 := hD.sub (ws' := []) [] (by decide) rfl
  refine W.widen (k := 0) (n := 0) (Nat.le_of_ble_eq_true rfl) (Nat.le_of_ble_eq_true rfl) ?_
  exact W.iret (v := (-3)) hx hb hr (fun t ht hW => ⟨⟨(-3), (), rfl, rfl, by rw [ht]; exact hP9, hD9⟩, hS.F ht⟩) hS.2.2 d_PC_even_9

set_option maxHeartbeats 4000000 in
set_option maxRecDepth 100000 in
theorem f_PC_tries (l : Launch) (D : va_G) (cI cZ : ClassId) (x : Nat) (i : Int32) (f0 : Nat) (a0 : Nat) (r0 : Nat) (w0 : Nat) (g0 : Nat) (k0 : Nat) (k1 : Nat) (k2 : Nat) (sz : Nat)  : Met l ⟨"PromiseChains", "tries", "(I)I"⟩ (mw ⟨"PromiseChains", "tries", "(I)I"⟩ prog_1_method_23_code 3 (some .int)) ({ frames := 1, cells := 0, slots := 0, locals := 22 }) (va_Pc [.ref x, .int i] (PB D cI cZ sz [(x, .inr (0, [.ref f0, .ref a0, .ref r0, .ref w0, .ref g0, .ref k0, .int 0, .int 3, .int 5])), (k0, .inr (6, [.int 0, .ref k1, .ref k2]))])) (vp_Si (fun r => r = sp_tries i)) 0 0 (fun _ => False) := by
  refine Met.ofW (cc := prog_1_method_23_code) (maxL := 3) (ret := (some .int)) (by decide) rfl ?_
  intro p e s m args below meth c s₁ B hml hv
  obtain ⟨rfl, hsz, hP, hK, hD0, hN⟩ := hv
  have hx := B.exec
  have hb := B.bytes
  have hr := B.returns
  have hts0 := atoms_spec (ws := mw ⟨"PromiseChains", "tries", "(I)I"⟩ prog_1_method_23_code 3 (some .int)) B.pre
  have hts : ∀ w ∈ tblG, w.before _ s = true := fun w h => hts0 w (List.mem_cons_of_mem _ h)
  have hown : s.vm.findClass "PromiseChains" = some m.cls := findClass_of_methodNamed B.named
  have hlocks := B.notSynchronized
  subst hsz
  have hD := hD0
  have hP : va_P D vwCl [(x, .inr (0, [.ref f0, .ref a0, .ref r0, .ref w0, .ref g0, .ref k0, .int 0, .int 3, .int 5])), (k0, .inr (6, [.int 0, .ref k1, .ref k2]))] s.heap := hP
  have hl := lv_entry ([.ref x, .int i]) (n := 3) (Nat.le_of_ble_eq_true rfl)
  rw [lg_entry_eq]
  generalize (lg_sl ([.ref x, .int i]) ++ List.replicate (3 - (lg_sl ([.ref x, .int i])).length) Slot.unset).toArray = ls at hl ⊢
  have hl : lv_has ls 3 [(0, .ref x), (1, .int i)] := hl
  refine lv_iload_n hx hb d_PC_tries_0 rfl (lv_at hl 1 rfl) ?_
  refine lv_iconst (v := 1) hx hb d_PC_tries_1 (by decide) ?_
  refine lv_ldc hx hb hown (hts _ q_584) d_PC_tries_2 ?_
  have hPc := hP.sub (ws' := []) [] rfl
  have hDc := hD.sub (ws' := []) [] (by decide) rfl
  refine vp_callSi (va_Run.run (va_runS (As := [.int i, .int 1, .int 200000]) (rest := []) ⟨hx, hb, hml, hown, hts⟩ (c_within l D cI cZ i 1 200000 s.heap.size ) (my_cwS 3 hts q_290 q_288 q_289 q_1 rfl rfl (by decide +kernel) ⟨Nat.le_of_ble_eq_true rfl, Nat.le_of_ble_eq_true rfl⟩) (my_preS hPc hDc hK hN) rfl rfl hl.1 rfl (lv_room (Nat.le_of_ble_eq_true rfl)) d_PC_tries_4 ⟨Nat.le_of_ble_eq_true rfl, Nat.le_of_ble_eq_true rfl⟩)) (fun r_1 hw_1 => ?_)
  have hw_1 : r_1 = isw i 1 200000 := hw_1
  subst hw_1
  refine lv_if_ne (tgt := 13) hx hb d_PC_tries_7 (by decide) (fun h_2 => ?_) (fun h_2 => ?_)
  · refine lv_aload_n hx hb d_PC_tries_13 rfl (lv_at hl 0 rfl) ?_
    refine va_get (D := D) (ci := 0) (v := .ref k0) (C := R_PC) (T := F_PC) (N := 9) hx hb hts i_PC hown hK hP 0 rfl rfl 5 (by decide) (hts _ q_261) (fun _ h9 => h9) rfl d_PC_tries_14 ?_
    refine va_get (D := D) (ci := 6) (v := .int 0) (C := R_RO) (T := F_RO) (N := 3) hx hb hts i_RO hown hK hP 1 rfl rfl 0 (by decide) (hts _ q_174) (fun _ h9 => h9) rfl d_PC_tries_17 ?_
    refine lv_if_eq (tgt := 37) hx hb d_PC_tries_20 (by decide) (fun _ => ?_) (fun h => absurd h (by decide))
    refine lv_bipush (v := (-3)) hx hb d_PC_tries_37 (by decide) ?_
    exact W.iret (v := (-3)) hx hb hr (fun t ht hW => ⟨(-3), rfl, (by first | decide | simp [sp_tries, h_2]), ht⟩) (fun q h => absurd h List.not_mem_nil) d_PC_tries_39
  · refine lv_bipush (v := (-2)) hx hb d_PC_tries_10 (by decide) ?_
    exact W.iret (v := (-2)) hx hb hr (fun t ht hW => ⟨(-2), rfl, (by first | decide | simp [sp_tries, h_2]), ht⟩) (fun q h => absurd h List.not_mem_nil) d_PC_tries_12

set_option maxHeartbeats 4000000 in
set_option maxRecDepth 100000 in
theorem f_PC_count (l : Launch) (D : va_G) (cI cZ : ClassId) (x : Nat) (i : Int32) (f0 : Nat) (a0 : Nat) (r0 : Nat) (w0 : Nat) (g0 : Nat) (k0 : Nat) (f1 : Nat) (f2 : Nat) (f3 : Nat) (f4 : Nat) (a1 : Nat) (a2 : Nat) (a3 : Nat) (a4 : Nat) (a5 : Nat) (a6 : Nat) (a7 : Nat) (a8 : Nat) (a9 : Nat) (a10 : Nat) (a11 : Nat) (r1 : Nat) (r2 : Nat) (r3 : Nat) (r4 : Nat) (r5 : Nat) (r6 : Nat) (r7 : Nat) (r8 : Nat) (r9 : Nat) (r10 : Nat) (r11 : Nat) (sz : Nat)  : Met l ⟨"PromiseChains", "count", "(I)I"⟩ (mw ⟨"PromiseChains", "count", "(I)I"⟩ prog_1_method_25_code 2 (some .int)) ({ frames := 1, cells := 0, slots := 0, locals := 22 }) (va_Pc [.ref x, .int i] (PB D cI cZ sz [(x, .inr (0, [.ref f0, .ref a0, .ref r0, .ref w0, .ref g0, .ref k0, .int 0, .int 3, .int 5])), (f0, .inr (1, [.int 2, .ref f1, .ref f2, .ref f3, .ref f4])), (f4, .inl (cZ, 7, .inl (fun _ => 0))), (a0, .inr (2, [.int 0, .ref a1, .ref a2, .ref a3, .ref a4, .ref a5, .ref a6, .ref a7, .ref a8, .ref a9, .ref a10, .ref a11])), (r0, .inr (3, [.int 0, .int 0, .ref r1, .ref r2, .ref r3, .ref r4, .ref r5, .ref r6, .ref r7, .ref r8, .ref r9, .ref r10, .ref r11]))])) (vp_Si (fun r => r = sp_count i)) 0 0 (fun _ => False) := by
  refine Met.ofW (cc := prog_1_method_25_code) (maxL := 2) (ret := (some .int)) (by decide) rfl ?_
  intro p e s m args below meth c s₁ B hml hv
  obtain ⟨rfl, hsz, hP, hK, hD0, hN⟩ := hv
  have hx := B.exec
  have hb := B.bytes
  have hr := B.returns
  have hts0 := atoms_spec (ws := mw ⟨"PromiseChains", "count", "(I)I"⟩ prog_1_method_25_code 2 (some .int)) B.pre
  have hts : ∀ w ∈ tblG, w.before _ s = true := fun w h => hts0 w (List.mem_cons_of_mem _ h)
  have hown : s.vm.findClass "PromiseChains" = some m.cls := findClass_of_methodNamed B.named
  have hlocks := B.notSynchronized
  subst hsz
  have hD := hD0
  have hP : va_P D vwCl [(x, .inr (0, [.ref f0, .ref a0, .ref r0, .ref w0, .ref g0, .ref k0, .int 0, .int 3, .int 5])), (f0, .inr (1, [.int 2, .ref f1, .ref f2, .ref f3, .ref f4])), (f4, .inl (cZ, 7, .inl (fun _ => 0))), (a0, .inr (2, [.int 0, .ref a1, .ref a2, .ref a3, .ref a4, .ref a5, .ref a6, .ref a7, .ref a8, .ref a9, .ref a10, .ref a11])), (r0, .inr (3, [.int 0, .int 0, .ref r1, .ref r2, .ref r3, .ref r4, .ref r5, .ref r6, .ref r7, .ref r8, .ref r9, .ref r10, .ref r11]))] s.heap := hP
  have hl := lv_entry ([.ref x, .int i]) (n := 2) (Nat.le_of_ble_eq_true rfl)
  rw [lg_entry_eq]
  generalize (lg_sl ([.ref x, .int i]) ++ List.replicate (2 - (lg_sl ([.ref x, .int i])).length) Slot.unset).toArray = ls at hl ⊢
  have hl : lv_has ls 2 [(0, .ref x), (1, .int i)] := hl
  refine lv_iload_n hx hb d_PC_count_0 rfl (lv_at hl 1 rfl) ?_
  by_cases hz_1 : i = 0
  · subst hz_1
    refine lv_tableIn (off := 47) (tgt := 48) hx hb d_PC_count_1 (by decide) (by decide) (by decide) (by decide) ?_
    refine lv_aload_n hx hb d_PC_count_48 rfl (lv_at hl 0 rfl) ?_
    refine va_get (D := D) (ci := 0) (v := .ref f0) (C := R_PC) (T := F_PC) (N := 9) hx hb hts i_PC hown hK hP 0 rfl rfl 0 (by decide) (hts _ q_256) (fun _ h9 => h9) rfl d_PC_count_49 ?_
    refine va_get (D := D) (ci := 1) (v := .int 2) (C := R_PE) (T := F_PE) (N := 5) hx hb hts i_PE hown hK hP 1 rfl rfl 0 (by decide) (hts _ q_25) (fun _ h9 => h9) rfl d_PC_count_52 ?_
    exact W.iret (v := 2) hx hb hr (fun t ht hW => ⟨2, rfl, (by first | decide | simp [sp_count]), ht⟩) (fun q h => absurd h List.not_mem_nil) d_PC_count_55
  by_cases hz_2 : i = 1
  · subst hz_2
    refine lv_tableIn (off := 55) (tgt := 56) hx hb d_PC_count_1 (by decide) (by decide) (by decide) (by decide) ?_
    refine lv_aload_n hx hb d_PC_count_56 rfl (lv_at hl 0 rfl) ?_
    refine va_get (D := D) (ci := 0) (v := .ref a0) (C := R_PC) (T := F_PC) (N := 9) hx hb hts i_PC hown hK hP 0 rfl rfl 1 (by decide) (hts _ q_257) (fun _ h9 => h9) rfl d_PC_count_57 ?_
    refine va_get (D := D) (ci := 2) (v := .int 0) (C := R_PA) (T := F_PA) (N := 12) hx hb hts i_PA hown hK hP 3 rfl rfl 0 (by decide) (hts _ q_57) (fun _ h9 => h9) rfl d_PC_count_60 ?_
    exact W.iret (v := 0) hx hb hr (fun t ht hW => ⟨0, rfl, (by first | decide | simp [sp_count, (Ne.symm hz_1)]), ht⟩) (fun q h => absurd h List.not_mem_nil) d_PC_count_63
  by_cases hz_3 : i = 2
  · subst hz_3
    refine lv_tableIn (off := 63) (tgt := 64) hx hb d_PC_count_1 (by decide) (by decide) (by decide) (by decide) ?_
    refine lv_aload_n hx hb d_PC_count_64 rfl (lv_at hl 0 rfl) ?_
    refine va_get (D := D) (ci := 0) (v := .ref r0) (C := R_PC) (T := F_PC) (N := 9) hx hb hts i_PC hown hK hP 0 rfl rfl 2 (by decide) (hts _ q_258) (fun _ h9 => h9) rfl d_PC_count_65 ?_
    refine va_get (D := D) (ci := 3) (v := .int 0) (C := R_PR) (T := F_PR) (N := 13) hx hb hts i_PR hown hK hP 4 rfl rfl 0 (by decide) (hts _ q_111) (fun _ h9 => h9) rfl d_PC_count_68 ?_
    exact W.iret (v := 0) hx hb hr (fun t ht hW => ⟨0, rfl, (by first | decide | simp [sp_count, (Ne.symm hz_1), (Ne.symm hz_2)]), ht⟩) (fun q h => absurd h List.not_mem_nil) d_PC_count_71
  by_cases hz_4 : i = 3
  · subst hz_4
    refine lv_tableIn (off := 71) (tgt := 72) hx hb d_PC_count_1 (by decide) (by decide) (by decide) (by decide) ?_
    refine lv_aload_n hx hb d_PC_count_72 rfl (lv_at hl 0 rfl) ?_
    refine va_get (D := D) (ci := 0) (v := .ref r0) (C := R_PC) (T := F_PC) (N := 9) hx hb hts i_PC hown hK hP 0 rfl rfl 2 (by decide) (hts _ q_258) (fun _ h9 => h9) rfl d_PC_count_73 ?_
    refine va_get (D := D) (ci := 3) (v := .int 0) (C := R_PR) (T := F_PR) (N := 13) hx hb hts i_PR hown hK hP 4 rfl rfl 1 (by decide) (hts _ q_113) (fun _ h9 => h9) rfl d_PC_count_76 ?_
    exact W.iret (v := 0) hx hb hr (fun t ht hW => ⟨0, rfl, (by first | decide | simp [sp_count, (Ne.symm hz_1), (Ne.symm hz_2), (Ne.symm hz_3)]), ht⟩) (fun q h => absurd h List.not_mem_nil) d_PC_count_79
  by_cases hz_5 : i = 4
  · subst hz_5
    refine lv_tableIn (off := 79) (tgt := 80) hx hb d_PC_count_1 (by decide) (by decide) (by decide) (by decide) ?_
    refine lv_aload_n hx hb d_PC_count_80 rfl (lv_at hl 0 rfl) ?_
    refine va_get (D := D) (ci := 0) (v := .int 0) (C := R_PC) (T := F_PC) (N := 9) hx hb hts i_PC hown hK hP 0 rfl rfl 6 (by decide) (hts _ q_262) (fun _ h9 => h9) rfl d_PC_count_81 ?_
    exact W.iret (v := 0) hx hb hr (fun t ht hW => ⟨0, rfl, (by first | decide | simp [sp_count, (Ne.symm hz_1), (Ne.symm hz_2), (Ne.symm hz_3), (Ne.symm hz_4)]), ht⟩) (fun q h => absurd h List.not_mem_nil) d_PC_count_84
  by_cases hz_6 : i = 5
  · subst hz_6
    refine lv_tableIn (off := 84) (tgt := 85) hx hb d_PC_count_1 (by decide) (by decide) (by decide) (by decide) ?_
    refine lv_aload_n hx hb d_PC_count_85 rfl (lv_at hl 0 rfl) ?_
    refine va_get (D := D) (ci := 0) (v := .int 3) (C := R_PC) (T := F_PC) (N := 9) hx hb hts i_PC hown hK hP 0 rfl rfl 7 (by decide) (hts _ q_263) (fun _ h9 => h9) rfl d_PC_count_86 ?_
    exact W.iret (v := 3) hx hb hr (fun t ht hW => ⟨3, rfl, (by first | decide | simp [sp_count, (Ne.symm hz_1), (Ne.symm hz_2), (Ne.symm hz_3), (Ne.symm hz_4), (Ne.symm hz_5)]), ht⟩) (fun q h => absurd h List.not_mem_nil) d_PC_count_89
  by_cases hz_7 : i = 6
  · subst hz_7
    refine lv_tableIn (off := 89) (tgt := 90) hx hb d_PC_count_1 (by decide) (by decide) (by decide) (by decide) ?_
    refine lv_aload_n hx hb d_PC_count_90 rfl (lv_at hl 0 rfl) ?_
    refine va_get (D := D) (ci := 0) (v := .int 5) (C := R_PC) (T := F_PC) (N := 9) hx hb hts i_PC hown hK hP 0 rfl rfl 8 (by decide) (hts _ q_264) (fun _ h9 => h9) rfl d_PC_count_91 ?_
    exact W.iret (v := 5) hx hb hr (fun t ht hW => ⟨5, rfl, (by first | decide | simp [sp_count, (Ne.symm hz_1), (Ne.symm hz_2), (Ne.symm hz_3), (Ne.symm hz_4), (Ne.symm hz_5), (Ne.symm hz_6)]), ht⟩) (fun q h => absurd h List.not_mem_nil) d_PC_count_94
  by_cases hz_8 : i = 7
  · subst hz_8
    refine lv_tableIn (off := 94) (tgt := 95) hx hb d_PC_count_1 (by decide) (by decide) (by decide) (by decide) ?_
    refine lv_aload_n hx hb d_PC_count_95 rfl (lv_at hl 0 rfl) ?_
    refine va_get (D := D) (ci := 0) (v := .ref f0) (C := R_PC) (T := F_PC) (N := 9) hx hb hts i_PC hown hK hP 0 rfl rfl 0 (by decide) (hts _ q_256) (fun _ h9 => h9) rfl d_PC_count_96 ?_
    have hPc := hP.sub (ws' := [(f0, .inr (1, [.int 2, .ref f1, .ref f2, .ref f3, .ref f4])), (f4, .inl (cZ, 7, .inl (fun _ => 0)))]) [1, 2] rfl
    have hDc := hD.sub (ws' := [(f0, .inr (1, [.int 2, .ref f1, .ref f2, .ref f3, .ref f4])), (f4, .inl (cZ, 7, .inl (fun _ => 0)))]) [1, 2] (by decide) rfl
    refine vp_callSi (va_Run.run (va_runV (As := []) (rest := []) ⟨hx, hb, hml, hown, hts⟩ (f_PE_howManyAway l D cI cZ f0 f1 f2 f3 f4 s.heap.size ) (my_cwV 0 hts q_608 q_605 q_606 q_607 q_2 rfl rfl (by decide +kernel) ⟨Nat.le_of_ble_eq_true rfl, Nat.le_of_ble_eq_true rfl⟩) (my_preV hPc hDc hK hN 1 0 rfl rfl) rfl rfl hl.1 rfl (lv_room (Nat.le_of_ble_eq_true rfl)) d_PC_count_99 ⟨Nat.le_of_ble_eq_true rfl, Nat.le_of_ble_eq_true rfl⟩)) (fun r_9 hw_9 => ?_)
    have hw_9 : r_9 = 0 := hw_9
    subst hw_9
    exact W.iret (v := 0) hx hb hr (fun t ht hW => ⟨0, rfl, (by first | decide | simp [sp_count, (Ne.symm hz_1), (Ne.symm hz_2), (Ne.symm hz_3), (Ne.symm hz_4), (Ne.symm hz_5), (Ne.symm hz_6), (Ne.symm hz_7)]), ht⟩) (fun q h => absurd h List.not_mem_nil) d_PC_count_102
  refine lv_tableOut (tgt := 103) hx hb d_PC_count_1 (tb_out 8 (by decide) (fun j hj => by rcases (show j = 0 ∨ j = 1 ∨ j = 2 ∨ j = 3 ∨ j = 4 ∨ j = 5 ∨ j = 6 ∨ j = 7 by omega) with rfl | rfl | rfl | rfl | rfl | rfl | rfl | rfl <;> assumption)) (by decide) ?_
  refine lv_bipush (v := (-2)) hx hb d_PC_count_103 (by decide) ?_
  exact W.iret (v := (-2)) hx hb hr (fun t ht hW => ⟨(-2), rfl, (by first | decide | simp [sp_count, hz_1, hz_2, hz_3, hz_4, hz_5, hz_6, hz_7, hz_8]), ht⟩) (fun q h => absurd h List.not_mem_nil) d_PC_count_105

set_option maxHeartbeats 4000000 in
set_option maxRecDepth 100000 in
theorem f_PC_digest (l : Launch) (D : va_G) (cI cZ : ClassId) (x : Nat) (f0 : Nat) (a0 : Nat) (r0 : Nat) (w0 : Nat) (g0 : Nat) (k0 : Nat) (f1 : Nat) (f2 : Nat) (f3 : Nat) (f4 : Nat) (a1 : Nat) (a2 : Nat) (a3 : Nat) (a4 : Nat) (a5 : Nat) (a6 : Nat) (a7 : Nat) (a8 : Nat) (a9 : Nat) (a10 : Nat) (a11 : Nat) (r1 : Nat) (r2 : Nat) (r3 : Nat) (r4 : Nat) (r5 : Nat) (r6 : Nat) (r7 : Nat) (r8 : Nat) (r9 : Nat) (r10 : Nat) (r11 : Nat) (sz : Nat)  : Met l ⟨"PromiseChains", "digest", "()J"⟩ (mw ⟨"PromiseChains", "digest", "()J"⟩ prog_1_method_26_code 5 (some .long)) ({ frames := 3, cells := 0, slots := 0, locals := 66 }) (va_Pc [.ref x] (PB D cI cZ sz [(x, .inr (0, [.ref f0, .ref a0, .ref r0, .ref w0, .ref g0, .ref k0, .int 0, .int 3, .int 5])), (f0, .inr (1, [.int 2, .ref f1, .ref f2, .ref f3, .ref f4])), (f1, .inl (cI, 7, .inl (fun _ => 0))), (f4, .inl (cZ, 7, .inl (fun _ => 0))), (a0, .inr (2, [.int 0, .ref a1, .ref a2, .ref a3, .ref a4, .ref a5, .ref a6, .ref a7, .ref a8, .ref a9, .ref a10, .ref a11])), (r0, .inr (3, [.int 0, .int 0, .ref r1, .ref r2, .ref r3, .ref r4, .ref r5, .ref r6, .ref r7, .ref r8, .ref r9, .ref r10, .ref r11]))])) (vp_Sl (fun r => r = 191026270113767493)) 0 0 (fun _ => False) := by
  refine Met.ofW (cc := prog_1_method_26_code) (maxL := 5) (ret := (some .long)) (by decide) rfl ?_
  intro p e s m args below meth c s₁ B hml hv
  obtain ⟨rfl, hsz, hP, hK, hD0, hN⟩ := hv
  have hx := B.exec
  have hb := B.bytes
  have hr := B.returns
  have hts0 := atoms_spec (ws := mw ⟨"PromiseChains", "digest", "()J"⟩ prog_1_method_26_code 5 (some .long)) B.pre
  have hts : ∀ w ∈ tblG, w.before _ s = true := fun w h => hts0 w (List.mem_cons_of_mem _ h)
  have hown : s.vm.findClass "PromiseChains" = some m.cls := findClass_of_methodNamed B.named
  have hlocks := B.notSynchronized
  subst hsz
  have hD := hD0
  have hP : va_P D vwCl [(x, .inr (0, [.ref f0, .ref a0, .ref r0, .ref w0, .ref g0, .ref k0, .int 0, .int 3, .int 5])), (f0, .inr (1, [.int 2, .ref f1, .ref f2, .ref f3, .ref f4])), (f1, .inl (cI, 7, .inl (fun _ => 0))), (f4, .inl (cZ, 7, .inl (fun _ => 0))), (a0, .inr (2, [.int 0, .ref a1, .ref a2, .ref a3, .ref a4, .ref a5, .ref a6, .ref a7, .ref a8, .ref a9, .ref a10, .ref a11])), (r0, .inr (3, [.int 0, .int 0, .ref r1, .ref r2, .ref r3, .ref r4, .ref r5, .ref r6, .ref r7, .ref r8, .ref r9, .ref r10, .ref r11]))] s.heap := hP
  have hl := lv_entry ([.ref x]) (n := 5) (Nat.le_of_ble_eq_true rfl)
  rw [lg_entry_eq]
  generalize (lg_sl ([.ref x]) ++ List.replicate (5 - (lg_sl ([.ref x])).length) Slot.unset).toArray = ls at hl ⊢
  have hl : lv_has ls 5 [(0, .ref x)] := hl
  refine lv_ldc2 hx hb hown (hts _ q_613) d_PC_digest_0 ?_
  refine lv_lstore_n (lv' := [(1, .long 233), (0, .ref x)]) hx hb d_PC_digest_3 rfl hl (by decide) rfl (fun ls hl => ?_)
  refine lv_iconst (v := 0) hx hb d_PC_digest_4 (by decide) ?_
  refine lv_istore_n (lv' := [(3, .int 0), (1, .long 233), (0, .ref x)]) hx hb d_PC_digest_5 rfl hl (by decide) rfl (fun ls hl => ?_)
  refine lv_iload_n hx hb d_PC_digest_6 rfl (lv_at hl 0 rfl) ?_
  refine lv_bipush (v := 7) hx hb d_PC_digest_7 (by decide) ?_
  refine lv_icmp_gt (tgt := 31) hx hb d_PC_digest_9 (by decide) (fun h => absurd h (by decide)) (fun _ => ?_)
  refine lv_ldc2 hx hb hown (hts _ q_614) d_PC_digest_12 ?_
  refine lv_lload_n hx hb d_PC_digest_15 rfl (lv_at hl 1 rfl) ?_
  refine lv_lmul hx hb d_PC_digest_16 ?_
  refine lv_setl (7223) (by decide) ?_
  refine lv_aload_n hx hb d_PC_digest_17 rfl (lv_at hl 2 rfl) ?_
  refine lv_iload_n hx hb d_PC_digest_18 rfl (lv_at hl 0 rfl) ?_
  have hPc := hP.sub (ws' := [(x, .inr (0, [.ref f0, .ref a0, .ref r0, .ref w0, .ref g0, .ref k0, .int 0, .int 3, .int 5])), (f0, .inr (1, [.int 2, .ref f1, .ref f2, .ref f3, .ref f4])), (f4, .inl (cZ, 7, .inl (fun _ => 0))), (a0, .inr (2, [.int 0, .ref a1, .ref a2, .ref a3, .ref a4, .ref a5, .ref a6, .ref a7, .ref a8, .ref a9, .ref a10, .ref a11])), (r0, .inr (3, [.int 0, .int 0, .ref r1, .ref r2, .ref r3, .ref r4, .ref r5, .ref r6, .ref r7, .ref r8, .ref r9, .ref r10, .ref r11]))]) [0, 1, 3, 4, 5] rfl
  have hDc := hD.sub (ws' := [(x, .inr (0, [.ref f0, .ref a0, .ref r0, .ref w0, .ref g0, .ref k0, .int 0, .int 3, .int 5])), (f0, .inr (1, [.int 2, .ref f1, .ref f2, .ref f3, .ref f4])), (f4, .inl (cZ, 7, .inl (fun _ => 0))), (a0, .inr (2, [.int 0, .ref a1, .ref a2, .ref a3, .ref a4, .ref a5, .ref a6, .ref a7, .ref a8, .ref a9, .ref a10, .ref a11])), (r0, .inr (3, [.int 0, .int 0, .ref r1, .ref r2, .ref r3, .ref r4, .ref r5, .ref r6, .ref r7, .ref r8, .ref r9, .ref r10, .ref r11]))]) [0, 1, 3, 4, 5] (by decide) rfl
  refine vp_callSi (va_Run.run (va_runV (As := [.int 0]) (rest := [.long 7223]) ⟨hx, hb, hml, hown, hts⟩ (f_PC_count l D cI cZ x 0 f0 a0 r0 w0 g0 k0 f1 f2 f3 f4 a1 a2 a3 a4 a5 a6 a7 a8 a9 a10 a11 r1 r2 r3 r4 r5 r6 r7 r8 r9 r10 r11 s.heap.size ) (my_cwV 1 hts q_604 q_615 q_602 q_603 q_1 rfl rfl (by decide +kernel) ⟨Nat.le_of_ble_eq_true rfl, Nat.le_of_ble_eq_true rfl⟩) (my_preV hPc hDc hK hN 0 0 rfl rfl) rfl rfl hl.1 rfl (lv_room (Nat.le_of_ble_eq_true rfl)) d_PC_digest_19 ⟨Nat.le_of_ble_eq_true rfl, Nat.le_of_ble_eq_true rfl⟩)) (fun r_2 hw_2 => ?_)
  have hw_2 : r_2 = sp_count 0 := hw_2
  subst hw_2
  refine lv_seti (2) (by decide) ?_
  refine lv_i2l (v := 2) hx hb d_PC_digest_22 (by decide) ?_
  refine lv_ladd hx hb d_PC_digest_23 ?_
  refine lv_setl (7225) (by decide) ?_
  refine lv_lstore_n (lv' := [(1, .long 7225), (3, .int 0), (0, .ref x)]) hx hb d_PC_digest_24 rfl hl (by decide) rfl (fun ls hl => ?_)
  refine lv_iinc (v := 1) (lv' := [(3, .int 1), (1, .long 7225), (0, .ref x)]) hx hb d_PC_digest_25 hl (k := 1) rfl (by decide) (by decide) rfl (fun ls hl => ?_)
  refine lv_goto (tgt := 6) hx hb d_PC_digest_28 (by decide) ?_
  refine lv_iload_n hx hb d_PC_digest_6 rfl (lv_at hl 0 rfl) ?_
  refine lv_bipush (v := 7) hx hb d_PC_digest_7 (by decide) ?_
  refine lv_icmp_gt (tgt := 31) hx hb d_PC_digest_9 (by decide) (fun h => absurd h (by decide)) (fun _ => ?_)
  refine lv_ldc2 hx hb hown (hts _ q_614) d_PC_digest_12 ?_
  refine lv_lload_n hx hb d_PC_digest_15 rfl (lv_at hl 1 rfl) ?_
  refine lv_lmul hx hb d_PC_digest_16 ?_
  refine lv_setl (223975) (by decide) ?_
  refine lv_aload_n hx hb d_PC_digest_17 rfl (lv_at hl 2 rfl) ?_
  refine lv_iload_n hx hb d_PC_digest_18 rfl (lv_at hl 0 rfl) ?_
  have hPc := hP.sub (ws' := [(x, .inr (0, [.ref f0, .ref a0, .ref r0, .ref w0, .ref g0, .ref k0, .int 0, .int 3, .int 5])), (f0, .inr (1, [.int 2, .ref f1, .ref f2, .ref f3, .ref f4])), (f4, .inl (cZ, 7, .inl (fun _ => 0))), (a0, .inr (2, [.int 0, .ref a1, .ref a2, .ref a3, .ref a4, .ref a5, .ref a6, .ref a7, .ref a8, .ref a9, .ref a10, .ref a11])), (r0, .inr (3, [.int 0, .int 0, .ref r1, .ref r2, .ref r3, .ref r4, .ref r5, .ref r6, .ref r7, .ref r8, .ref r9, .ref r10, .ref r11]))]) [0, 1, 3, 4, 5] rfl
  have hDc := hD.sub (ws' := [(x, .inr (0, [.ref f0, .ref a0, .ref r0, .ref w0, .ref g0, .ref k0, .int 0, .int 3, .int 5])), (f0, .inr (1, [.int 2, .ref f1, .ref f2, .ref f3, .ref f4])), (f4, .inl (cZ, 7, .inl (fun _ => 0))), (a0, .inr (2, [.int 0, .ref a1, .ref a2, .ref a3, .ref a4, .ref a5, .ref a6, .ref a7, .ref a8, .ref a9, .ref a10, .ref a11])), (r0, .inr (3, [.int 0, .int 0, .ref r1, .ref r2, .ref r3, .ref r4, .ref r5, .ref r6, .ref r7, .ref r8, .ref r9, .ref r10, .ref r11]))]) [0, 1, 3, 4, 5] (by decide) rfl
  refine vp_callSi (va_Run.run (va_runV (As := [.int 1]) (rest := [.long 223975]) ⟨hx, hb, hml, hown, hts⟩ (f_PC_count l D cI cZ x 1 f0 a0 r0 w0 g0 k0 f1 f2 f3 f4 a1 a2 a3 a4 a5 a6 a7 a8 a9 a10 a11 r1 r2 r3 r4 r5 r6 r7 r8 r9 r10 r11 s.heap.size ) (my_cwV 1 hts q_604 q_615 q_602 q_603 q_1 rfl rfl (by decide +kernel) ⟨Nat.le_of_ble_eq_true rfl, Nat.le_of_ble_eq_true rfl⟩) (my_preV hPc hDc hK hN 0 0 rfl rfl) rfl rfl hl.1 rfl (lv_room (Nat.le_of_ble_eq_true rfl)) d_PC_digest_19 ⟨Nat.le_of_ble_eq_true rfl, Nat.le_of_ble_eq_true rfl⟩)) (fun r_4 hw_4 => ?_)
  have hw_4 : r_4 = sp_count 1 := hw_4
  subst hw_4
  refine lv_seti (0) (by decide) ?_
  refine lv_i2l (v := 0) hx hb d_PC_digest_22 (by decide) ?_
  refine lv_ladd hx hb d_PC_digest_23 ?_
  refine lv_setl (223975) (by decide) ?_
  refine lv_lstore_n (lv' := [(1, .long 223975), (3, .int 1), (0, .ref x)]) hx hb d_PC_digest_24 rfl hl (by decide) rfl (fun ls hl => ?_)
  refine lv_iinc (v := 2) (lv' := [(3, .int 2), (1, .long 223975), (0, .ref x)]) hx hb d_PC_digest_25 hl (k := 1) rfl (by decide) (by decide) rfl (fun ls hl => ?_)
  refine lv_goto (tgt := 6) hx hb d_PC_digest_28 (by decide) ?_
  refine lv_iload_n hx hb d_PC_digest_6 rfl (lv_at hl 0 rfl) ?_
  refine lv_bipush (v := 7) hx hb d_PC_digest_7 (by decide) ?_
  refine lv_icmp_gt (tgt := 31) hx hb d_PC_digest_9 (by decide) (fun h => absurd h (by decide)) (fun _ => ?_)
  refine lv_ldc2 hx hb hown (hts _ q_614) d_PC_digest_12 ?_
  refine lv_lload_n hx hb d_PC_digest_15 rfl (lv_at hl 1 rfl) ?_
  refine lv_lmul hx hb d_PC_digest_16 ?_
  refine lv_setl (6943225) (by decide) ?_
  refine lv_aload_n hx hb d_PC_digest_17 rfl (lv_at hl 2 rfl) ?_
  refine lv_iload_n hx hb d_PC_digest_18 rfl (lv_at hl 0 rfl) ?_
  have hPc := hP.sub (ws' := [(x, .inr (0, [.ref f0, .ref a0, .ref r0, .ref w0, .ref g0, .ref k0, .int 0, .int 3, .int 5])), (f0, .inr (1, [.int 2, .ref f1, .ref f2, .ref f3, .ref f4])), (f4, .inl (cZ, 7, .inl (fun _ => 0))), (a0, .inr (2, [.int 0, .ref a1, .ref a2, .ref a3, .ref a4, .ref a5, .ref a6, .ref a7, .ref a8, .ref a9, .ref a10, .ref a11])), (r0, .inr (3, [.int 0, .int 0, .ref r1, .ref r2, .ref r3, .ref r4, .ref r5, .ref r6, .ref r7, .ref r8, .ref r9, .ref r10, .ref r11]))]) [0, 1, 3, 4, 5] rfl
  have hDc := hD.sub (ws' := [(x, .inr (0, [.ref f0, .ref a0, .ref r0, .ref w0, .ref g0, .ref k0, .int 0, .int 3, .int 5])), (f0, .inr (1, [.int 2, .ref f1, .ref f2, .ref f3, .ref f4])), (f4, .inl (cZ, 7, .inl (fun _ => 0))), (a0, .inr (2, [.int 0, .ref a1, .ref a2, .ref a3, .ref a4, .ref a5, .ref a6, .ref a7, .ref a8, .ref a9, .ref a10, .ref a11])), (r0, .inr (3, [.int 0, .int 0, .ref r1, .ref r2, .ref r3, .ref r4, .ref r5, .ref r6, .ref r7, .ref r8, .ref r9, .ref r10, .ref r11]))]) [0, 1, 3, 4, 5] (by decide) rfl
  refine vp_callSi (va_Run.run (va_runV (As := [.int 2]) (rest := [.long 6943225]) ⟨hx, hb, hml, hown, hts⟩ (f_PC_count l D cI cZ x 2 f0 a0 r0 w0 g0 k0 f1 f2 f3 f4 a1 a2 a3 a4 a5 a6 a7 a8 a9 a10 a11 r1 r2 r3 r4 r5 r6 r7 r8 r9 r10 r11 s.heap.size ) (my_cwV 1 hts q_604 q_615 q_602 q_603 q_1 rfl rfl (by decide +kernel) ⟨Nat.le_of_ble_eq_true rfl, Nat.le_of_ble_eq_true rfl⟩) (my_preV hPc hDc hK hN 0 0 rfl rfl) rfl rfl hl.1 rfl (lv_room (Nat.le_of_ble_eq_true rfl)) d_PC_digest_19 ⟨Nat.le_of_ble_eq_true rfl, Nat.le_of_ble_eq_true rfl⟩)) (fun r_6 hw_6 => ?_)
  have hw_6 : r_6 = sp_count 2 := hw_6
  subst hw_6
  refine lv_seti (0) (by decide) ?_
  refine lv_i2l (v := 0) hx hb d_PC_digest_22 (by decide) ?_
  refine lv_ladd hx hb d_PC_digest_23 ?_
  refine lv_setl (6943225) (by decide) ?_
  refine lv_lstore_n (lv' := [(1, .long 6943225), (3, .int 2), (0, .ref x)]) hx hb d_PC_digest_24 rfl hl (by decide) rfl (fun ls hl => ?_)
  refine lv_iinc (v := 3) (lv' := [(3, .int 3), (1, .long 6943225), (0, .ref x)]) hx hb d_PC_digest_25 hl (k := 1) rfl (by decide) (by decide) rfl (fun ls hl => ?_)
  refine lv_goto (tgt := 6) hx hb d_PC_digest_28 (by decide) ?_
  refine lv_iload_n hx hb d_PC_digest_6 rfl (lv_at hl 0 rfl) ?_
  refine lv_bipush (v := 7) hx hb d_PC_digest_7 (by decide) ?_
  refine lv_icmp_gt (tgt := 31) hx hb d_PC_digest_9 (by decide) (fun h => absurd h (by decide)) (fun _ => ?_)
  refine lv_ldc2 hx hb hown (hts _ q_614) d_PC_digest_12 ?_
  refine lv_lload_n hx hb d_PC_digest_15 rfl (lv_at hl 1 rfl) ?_
  refine lv_lmul hx hb d_PC_digest_16 ?_
  refine lv_setl (215239975) (by decide) ?_
  refine lv_aload_n hx hb d_PC_digest_17 rfl (lv_at hl 2 rfl) ?_
  refine lv_iload_n hx hb d_PC_digest_18 rfl (lv_at hl 0 rfl) ?_
  have hPc := hP.sub (ws' := [(x, .inr (0, [.ref f0, .ref a0, .ref r0, .ref w0, .ref g0, .ref k0, .int 0, .int 3, .int 5])), (f0, .inr (1, [.int 2, .ref f1, .ref f2, .ref f3, .ref f4])), (f4, .inl (cZ, 7, .inl (fun _ => 0))), (a0, .inr (2, [.int 0, .ref a1, .ref a2, .ref a3, .ref a4, .ref a5, .ref a6, .ref a7, .ref a8, .ref a9, .ref a10, .ref a11])), (r0, .inr (3, [.int 0, .int 0, .ref r1, .ref r2, .ref r3, .ref r4, .ref r5, .ref r6, .ref r7, .ref r8, .ref r9, .ref r10, .ref r11]))]) [0, 1, 3, 4, 5] rfl
  have hDc := hD.sub (ws' := [(x, .inr (0, [.ref f0, .ref a0, .ref r0, .ref w0, .ref g0, .ref k0, .int 0, .int 3, .int 5])), (f0, .inr (1, [.int 2, .ref f1, .ref f2, .ref f3, .ref f4])), (f4, .inl (cZ, 7, .inl (fun _ => 0))), (a0, .inr (2, [.int 0, .ref a1, .ref a2, .ref a3, .ref a4, .ref a5, .ref a6, .ref a7, .ref a8, .ref a9, .ref a10, .ref a11])), (r0, .inr (3, [.int 0, .int 0, .ref r1, .ref r2, .ref r3, .ref r4, .ref r5, .ref r6, .ref r7, .ref r8, .ref r9, .ref r10, .ref r11]))]) [0, 1, 3, 4, 5] (by decide) rfl
  refine vp_callSi (va_Run.run (va_runV (As := [.int 3]) (rest := [.long 215239975]) ⟨hx, hb, hml, hown, hts⟩ (f_PC_count l D cI cZ x 3 f0 a0 r0 w0 g0 k0 f1 f2 f3 f4 a1 a2 a3 a4 a5 a6 a7 a8 a9 a10 a11 r1 r2 r3 r4 r5 r6 r7 r8 r9 r10 r11 s.heap.size ) (my_cwV 1 hts q_604 q_615 q_602 q_603 q_1 rfl rfl (by decide +kernel) ⟨Nat.le_of_ble_eq_true rfl, Nat.le_of_ble_eq_true rfl⟩) (my_preV hPc hDc hK hN 0 0 rfl rfl) rfl rfl hl.1 rfl (lv_room (Nat.le_of_ble_eq_true rfl)) d_PC_digest_19 ⟨Nat.le_of_ble_eq_true rfl, Nat.le_of_ble_eq_true rfl⟩)) (fun r_8 hw_8 => ?_)
  have hw_8 : r_8 = sp_count 3 := hw_8
  subst hw_8
  refine lv_seti (0) (by decide) ?_
  refine lv_i2l (v := 0) hx hb d_PC_digest_22 (by decide) ?_
  refine lv_ladd hx hb d_PC_digest_23 ?_
  refine lv_setl (215239975) (by decide) ?_
  refine lv_lstore_n (lv' := [(1, .long 215239975), (3, .int 3), (0, .ref x)]) hx hb d_PC_digest_24 rfl hl (by decide) rfl (fun ls hl => ?_)
  refine lv_iinc (v := 4) (lv' := [(3, .int 4), (1, .long 215239975), (0, .ref x)]) hx hb d_PC_digest_25 hl (k := 1) rfl (by decide) (by decide) rfl (fun ls hl => ?_)
  refine lv_goto (tgt := 6) hx hb d_PC_digest_28 (by decide) ?_
  refine lv_iload_n hx hb d_PC_digest_6 rfl (lv_at hl 0 rfl) ?_
  refine lv_bipush (v := 7) hx hb d_PC_digest_7 (by decide) ?_
  refine lv_icmp_gt (tgt := 31) hx hb d_PC_digest_9 (by decide) (fun h => absurd h (by decide)) (fun _ => ?_)
  refine lv_ldc2 hx hb hown (hts _ q_614) d_PC_digest_12 ?_
  refine lv_lload_n hx hb d_PC_digest_15 rfl (lv_at hl 1 rfl) ?_
  refine lv_lmul hx hb d_PC_digest_16 ?_
  refine lv_setl (6672439225) (by decide) ?_
  refine lv_aload_n hx hb d_PC_digest_17 rfl (lv_at hl 2 rfl) ?_
  refine lv_iload_n hx hb d_PC_digest_18 rfl (lv_at hl 0 rfl) ?_
  have hPc := hP.sub (ws' := [(x, .inr (0, [.ref f0, .ref a0, .ref r0, .ref w0, .ref g0, .ref k0, .int 0, .int 3, .int 5])), (f0, .inr (1, [.int 2, .ref f1, .ref f2, .ref f3, .ref f4])), (f4, .inl (cZ, 7, .inl (fun _ => 0))), (a0, .inr (2, [.int 0, .ref a1, .ref a2, .ref a3, .ref a4, .ref a5, .ref a6, .ref a7, .ref a8, .ref a9, .ref a10, .ref a11])), (r0, .inr (3, [.int 0, .int 0, .ref r1, .ref r2, .ref r3, .ref r4, .ref r5, .ref r6, .ref r7, .ref r8, .ref r9, .ref r10, .ref r11]))]) [0, 1, 3, 4, 5] rfl
  have hDc := hD.sub (ws' := [(x, .inr (0, [.ref f0, .ref a0, .ref r0, .ref w0, .ref g0, .ref k0, .int 0, .int 3, .int 5])), (f0, .inr (1, [.int 2, .ref f1, .ref f2, .ref f3, .ref f4])), (f4, .inl (cZ, 7, .inl (fun _ => 0))), (a0, .inr (2, [.int 0, .ref a1, .ref a2, .ref a3, .ref a4, .ref a5, .ref a6, .ref a7, .ref a8, .ref a9, .ref a10, .ref a11])), (r0, .inr (3, [.int 0, .int 0, .ref r1, .ref r2, .ref r3, .ref r4, .ref r5, .ref r6, .ref r7, .ref r8, .ref r9, .ref r10, .ref r11]))]) [0, 1, 3, 4, 5] (by decide) rfl
  refine vp_callSi (va_Run.run (va_runV (As := [.int 4]) (rest := [.long 6672439225]) ⟨hx, hb, hml, hown, hts⟩ (f_PC_count l D cI cZ x 4 f0 a0 r0 w0 g0 k0 f1 f2 f3 f4 a1 a2 a3 a4 a5 a6 a7 a8 a9 a10 a11 r1 r2 r3 r4 r5 r6 r7 r8 r9 r10 r11 s.heap.size ) (my_cwV 1 hts q_604 q_615 q_602 q_603 q_1 rfl rfl (by decide +kernel) ⟨Nat.le_of_ble_eq_true rfl, Nat.le_of_ble_eq_true rfl⟩) (my_preV hPc hDc hK hN 0 0 rfl rfl) rfl rfl hl.1 rfl (lv_room (Nat.le_of_ble_eq_true rfl)) d_PC_digest_19 ⟨Nat.le_of_ble_eq_true rfl, Nat.le_of_ble_eq_true rfl⟩)) (fun r_10 hw_10 => ?_)
  have hw_10 : r_10 = sp_count 4 := hw_10
  subst hw_10
  refine lv_seti (0) (by decide) ?_
  refine lv_i2l (v := 0) hx hb d_PC_digest_22 (by decide) ?_
  refine lv_ladd hx hb d_PC_digest_23 ?_
  refine lv_setl (6672439225) (by decide) ?_
  refine lv_lstore_n (lv' := [(1, .long 6672439225), (3, .int 4), (0, .ref x)]) hx hb d_PC_digest_24 rfl hl (by decide) rfl (fun ls hl => ?_)
  refine lv_iinc (v := 5) (lv' := [(3, .int 5), (1, .long 6672439225), (0, .ref x)]) hx hb d_PC_digest_25 hl (k := 1) rfl (by decide) (by decide) rfl (fun ls hl => ?_)
  refine lv_goto (tgt := 6) hx hb d_PC_digest_28 (by decide) ?_
  refine lv_iload_n hx hb d_PC_digest_6 rfl (lv_at hl 0 rfl) ?_
  refine lv_bipush (v := 7) hx hb d_PC_digest_7 (by decide) ?_
  refine lv_icmp_gt (tgt := 31) hx hb d_PC_digest_9 (by decide) (fun h => absurd h (by decide)) (fun _ => ?_)
  refine lv_ldc2 hx hb hown (hts _ q_614) d_PC_digest_12 ?_
  refine lv_lload_n hx hb d_PC_digest_15 rfl (lv_at hl 1 rfl) ?_
  refine lv_lmul hx hb d_PC_digest_16 ?_
  refine lv_setl (206845615975) (by decide) ?_
  refine lv_aload_n hx hb d_PC_digest_17 rfl (lv_at hl 2 rfl) ?_
  refine lv_iload_n hx hb d_PC_digest_18 rfl (lv_at hl 0 rfl) ?_
  have hPc := hP.sub (ws' := [(x, .inr (0, [.ref f0, .ref a0, .ref r0, .ref w0, .ref g0, .ref k0, .int 0, .int 3, .int 5])), (f0, .inr (1, [.int 2, .ref f1, .ref f2, .ref f3, .ref f4])), (f4, .inl (cZ, 7, .inl (fun _ => 0))), (a0, .inr (2, [.int 0, .ref a1, .ref a2, .ref a3, .ref a4, .ref a5, .ref a6, .ref a7, .ref a8, .ref a9, .ref a10, .ref a11])), (r0, .inr (3, [.int 0, .int 0, .ref r1, .ref r2, .ref r3, .ref r4, .ref r5, .ref r6, .ref r7, .ref r8, .ref r9, .ref r10, .ref r11]))]) [0, 1, 3, 4, 5] rfl
  have hDc := hD.sub (ws' := [(x, .inr (0, [.ref f0, .ref a0, .ref r0, .ref w0, .ref g0, .ref k0, .int 0, .int 3, .int 5])), (f0, .inr (1, [.int 2, .ref f1, .ref f2, .ref f3, .ref f4])), (f4, .inl (cZ, 7, .inl (fun _ => 0))), (a0, .inr (2, [.int 0, .ref a1, .ref a2, .ref a3, .ref a4, .ref a5, .ref a6, .ref a7, .ref a8, .ref a9, .ref a10, .ref a11])), (r0, .inr (3, [.int 0, .int 0, .ref r1, .ref r2, .ref r3, .ref r4, .ref r5, .ref r6, .ref r7, .ref r8, .ref r9, .ref r10, .ref r11]))]) [0, 1, 3, 4, 5] (by decide) rfl
  refine vp_callSi (va_Run.run (va_runV (As := [.int 5]) (rest := [.long 206845615975]) ⟨hx, hb, hml, hown, hts⟩ (f_PC_count l D cI cZ x 5 f0 a0 r0 w0 g0 k0 f1 f2 f3 f4 a1 a2 a3 a4 a5 a6 a7 a8 a9 a10 a11 r1 r2 r3 r4 r5 r6 r7 r8 r9 r10 r11 s.heap.size ) (my_cwV 1 hts q_604 q_615 q_602 q_603 q_1 rfl rfl (by decide +kernel) ⟨Nat.le_of_ble_eq_true rfl, Nat.le_of_ble_eq_true rfl⟩) (my_preV hPc hDc hK hN 0 0 rfl rfl) rfl rfl hl.1 rfl (lv_room (Nat.le_of_ble_eq_true rfl)) d_PC_digest_19 ⟨Nat.le_of_ble_eq_true rfl, Nat.le_of_ble_eq_true rfl⟩)) (fun r_12 hw_12 => ?_)
  have hw_12 : r_12 = sp_count 5 := hw_12
  subst hw_12
  refine lv_seti (3) (by decide) ?_
  refine lv_i2l (v := 3) hx hb d_PC_digest_22 (by decide) ?_
  refine lv_ladd hx hb d_PC_digest_23 ?_
  refine lv_setl (206845615978) (by decide) ?_
  refine lv_lstore_n (lv' := [(1, .long 206845615978), (3, .int 5), (0, .ref x)]) hx hb d_PC_digest_24 rfl hl (by decide) rfl (fun ls hl => ?_)
  refine lv_iinc (v := 6) (lv' := [(3, .int 6), (1, .long 206845615978), (0, .ref x)]) hx hb d_PC_digest_25 hl (k := 1) rfl (by decide) (by decide) rfl (fun ls hl => ?_)
  refine lv_goto (tgt := 6) hx hb d_PC_digest_28 (by decide) ?_
  refine lv_iload_n hx hb d_PC_digest_6 rfl (lv_at hl 0 rfl) ?_
  refine lv_bipush (v := 7) hx hb d_PC_digest_7 (by decide) ?_
  refine lv_icmp_gt (tgt := 31) hx hb d_PC_digest_9 (by decide) (fun h => absurd h (by decide)) (fun _ => ?_)
  refine lv_ldc2 hx hb hown (hts _ q_614) d_PC_digest_12 ?_
  refine lv_lload_n hx hb d_PC_digest_15 rfl (lv_at hl 1 rfl) ?_
  refine lv_lmul hx hb d_PC_digest_16 ?_
  refine lv_setl (6412214095318) (by decide) ?_
  refine lv_aload_n hx hb d_PC_digest_17 rfl (lv_at hl 2 rfl) ?_
  refine lv_iload_n hx hb d_PC_digest_18 rfl (lv_at hl 0 rfl) ?_
  have hPc := hP.sub (ws' := [(x, .inr (0, [.ref f0, .ref a0, .ref r0, .ref w0, .ref g0, .ref k0, .int 0, .int 3, .int 5])), (f0, .inr (1, [.int 2, .ref f1, .ref f2, .ref f3, .ref f4])), (f4, .inl (cZ, 7, .inl (fun _ => 0))), (a0, .inr (2, [.int 0, .ref a1, .ref a2, .ref a3, .ref a4, .ref a5, .ref a6, .ref a7, .ref a8, .ref a9, .ref a10, .ref a11])), (r0, .inr (3, [.int 0, .int 0, .ref r1, .ref r2, .ref r3, .ref r4, .ref r5, .ref r6, .ref r7, .ref r8, .ref r9, .ref r10, .ref r11]))]) [0, 1, 3, 4, 5] rfl
  have hDc := hD.sub (ws' := [(x, .inr (0, [.ref f0, .ref a0, .ref r0, .ref w0, .ref g0, .ref k0, .int 0, .int 3, .int 5])), (f0, .inr (1, [.int 2, .ref f1, .ref f2, .ref f3, .ref f4])), (f4, .inl (cZ, 7, .inl (fun _ => 0))), (a0, .inr (2, [.int 0, .ref a1, .ref a2, .ref a3, .ref a4, .ref a5, .ref a6, .ref a7, .ref a8, .ref a9, .ref a10, .ref a11])), (r0, .inr (3, [.int 0, .int 0, .ref r1, .ref r2, .ref r3, .ref r4, .ref r5, .ref r6, .ref r7, .ref r8, .ref r9, .ref r10, .ref r11]))]) [0, 1, 3, 4, 5] (by decide) rfl
  refine vp_callSi (va_Run.run (va_runV (As := [.int 6]) (rest := [.long 6412214095318]) ⟨hx, hb, hml, hown, hts⟩ (f_PC_count l D cI cZ x 6 f0 a0 r0 w0 g0 k0 f1 f2 f3 f4 a1 a2 a3 a4 a5 a6 a7 a8 a9 a10 a11 r1 r2 r3 r4 r5 r6 r7 r8 r9 r10 r11 s.heap.size ) (my_cwV 1 hts q_604 q_615 q_602 q_603 q_1 rfl rfl (by decide +kernel) ⟨Nat.le_of_ble_eq_true rfl, Nat.le_of_ble_eq_true rfl⟩) (my_preV hPc hDc hK hN 0 0 rfl rfl) rfl rfl hl.1 rfl (lv_room (Nat.le_of_ble_eq_true rfl)) d_PC_digest_19 ⟨Nat.le_of_ble_eq_true rfl, Nat.le_of_ble_eq_true rfl⟩)) (fun r_14 hw_14 => ?_)
  have hw_14 : r_14 = sp_count 6 := hw_14
  subst hw_14
  refine lv_seti (5) (by decide) ?_
  refine lv_i2l (v := 5) hx hb d_PC_digest_22 (by decide) ?_
  refine lv_ladd hx hb d_PC_digest_23 ?_
  refine lv_setl (6412214095323) (by decide) ?_
  refine lv_lstore_n (lv' := [(1, .long 6412214095323), (3, .int 6), (0, .ref x)]) hx hb d_PC_digest_24 rfl hl (by decide) rfl (fun ls hl => ?_)
  refine lv_iinc (v := 7) (lv' := [(3, .int 7), (1, .long 6412214095323), (0, .ref x)]) hx hb d_PC_digest_25 hl (k := 1) rfl (by decide) (by decide) rfl (fun ls hl => ?_)
  refine lv_goto (tgt := 6) hx hb d_PC_digest_28 (by decide) ?_
  refine lv_iload_n hx hb d_PC_digest_6 rfl (lv_at hl 0 rfl) ?_
  refine lv_bipush (v := 7) hx hb d_PC_digest_7 (by decide) ?_
  refine lv_icmp_gt (tgt := 31) hx hb d_PC_digest_9 (by decide) (fun h => absurd h (by decide)) (fun _ => ?_)
  refine lv_ldc2 hx hb hown (hts _ q_614) d_PC_digest_12 ?_
  refine lv_lload_n hx hb d_PC_digest_15 rfl (lv_at hl 1 rfl) ?_
  refine lv_lmul hx hb d_PC_digest_16 ?_
  refine lv_setl (198778636955013) (by decide) ?_
  refine lv_aload_n hx hb d_PC_digest_17 rfl (lv_at hl 2 rfl) ?_
  refine lv_iload_n hx hb d_PC_digest_18 rfl (lv_at hl 0 rfl) ?_
  have hPc := hP.sub (ws' := [(x, .inr (0, [.ref f0, .ref a0, .ref r0, .ref w0, .ref g0, .ref k0, .int 0, .int 3, .int 5])), (f0, .inr (1, [.int 2, .ref f1, .ref f2, .ref f3, .ref f4])), (f4, .inl (cZ, 7, .inl (fun _ => 0))), (a0, .inr (2, [.int 0, .ref a1, .ref a2, .ref a3, .ref a4, .ref a5, .ref a6, .ref a7, .ref a8, .ref a9, .ref a10, .ref a11])), (r0, .inr (3, [.int 0, .int 0, .ref r1, .ref r2, .ref r3, .ref r4, .ref r5, .ref r6, .ref r7, .ref r8, .ref r9, .ref r10, .ref r11]))]) [0, 1, 3, 4, 5] rfl
  have hDc := hD.sub (ws' := [(x, .inr (0, [.ref f0, .ref a0, .ref r0, .ref w0, .ref g0, .ref k0, .int 0, .int 3, .int 5])), (f0, .inr (1, [.int 2, .ref f1, .ref f2, .ref f3, .ref f4])), (f4, .inl (cZ, 7, .inl (fun _ => 0))), (a0, .inr (2, [.int 0, .ref a1, .ref a2, .ref a3, .ref a4, .ref a5, .ref a6, .ref a7, .ref a8, .ref a9, .ref a10, .ref a11])), (r0, .inr (3, [.int 0, .int 0, .ref r1, .ref r2, .ref r3, .ref r4, .ref r5, .ref r6, .ref r7, .ref r8, .ref r9, .ref r10, .ref r11]))]) [0, 1, 3, 4, 5] (by decide) rfl
  refine vp_callSi (va_Run.run (va_runV (As := [.int 7]) (rest := [.long 198778636955013]) ⟨hx, hb, hml, hown, hts⟩ (f_PC_count l D cI cZ x 7 f0 a0 r0 w0 g0 k0 f1 f2 f3 f4 a1 a2 a3 a4 a5 a6 a7 a8 a9 a10 a11 r1 r2 r3 r4 r5 r6 r7 r8 r9 r10 r11 s.heap.size ) (my_cwV 1 hts q_604 q_615 q_602 q_603 q_1 rfl rfl (by decide +kernel) ⟨Nat.le_of_ble_eq_true rfl, Nat.le_of_ble_eq_true rfl⟩) (my_preV hPc hDc hK hN 0 0 rfl rfl) rfl rfl hl.1 rfl (lv_room (Nat.le_of_ble_eq_true rfl)) d_PC_digest_19 ⟨Nat.le_of_ble_eq_true rfl, Nat.le_of_ble_eq_true rfl⟩)) (fun r_16 hw_16 => ?_)
  have hw_16 : r_16 = sp_count 7 := hw_16
  subst hw_16
  refine lv_seti (0) (by decide) ?_
  refine lv_i2l (v := 0) hx hb d_PC_digest_22 (by decide) ?_
  refine lv_ladd hx hb d_PC_digest_23 ?_
  refine lv_setl (198778636955013) (by decide) ?_
  refine lv_lstore_n (lv' := [(1, .long 198778636955013), (3, .int 7), (0, .ref x)]) hx hb d_PC_digest_24 rfl hl (by decide) rfl (fun ls hl => ?_)
  refine lv_iinc (v := 8) (lv' := [(3, .int 8), (1, .long 198778636955013), (0, .ref x)]) hx hb d_PC_digest_25 hl (k := 1) rfl (by decide) (by decide) rfl (fun ls hl => ?_)
  refine lv_goto (tgt := 6) hx hb d_PC_digest_28 (by decide) ?_
  refine lv_iload_n hx hb d_PC_digest_6 rfl (lv_at hl 0 rfl) ?_
  refine lv_bipush (v := 7) hx hb d_PC_digest_7 (by decide) ?_
  refine lv_icmp_gt (tgt := 31) hx hb d_PC_digest_9 (by decide) (fun _ => ?_) (fun h => absurd h (by decide))
  refine lv_iconst (v := 0) hx hb d_PC_digest_31 (by decide) ?_
  refine lv_istore_n (lv' := [(3, .int 0), (1, .long 198778636955013), (0, .ref x)]) hx hb d_PC_digest_32 rfl hl (by decide) rfl (fun ls hl => ?_)
  refine lv_iload_n hx hb d_PC_digest_33 rfl (lv_at hl 0 rfl) ?_
  refine lv_aload_n hx hb d_PC_digest_34 rfl (lv_at hl 2 rfl) ?_
  refine va_get (D := D) (ci := 0) (v := .ref f0) (C := R_PC) (T := F_PC) (N := 9) hx hb hts i_PC hown hK hP 0 rfl rfl 0 (by decide) (hts _ q_256) (fun _ h9 => h9) rfl d_PC_digest_35 ?_
  refine va_get (D := D) (ci := 1) (v := .int 2) (C := R_PE) (T := F_PE) (N := 5) hx hb hts i_PE hown hK hP 1 rfl rfl 0 (by decide) (hts _ q_25) (fun _ h9 => h9) rfl d_PC_digest_38 ?_
  refine lv_icmp_ge (tgt := 63) hx hb d_PC_digest_41 (by decide) (fun h => absurd h (by decide)) (fun _ => ?_)
  refine lv_ldc2 hx hb hown (hts _ q_614) d_PC_digest_44 ?_
  refine lv_lload_n hx hb d_PC_digest_47 rfl (lv_at hl 1 rfl) ?_
  refine lv_lmul hx hb d_PC_digest_48 ?_
  refine lv_setl (6162137745605403) (by decide) ?_
  refine lv_aload_n hx hb d_PC_digest_49 rfl (lv_at hl 2 rfl) ?_
  refine lv_iload_n hx hb d_PC_digest_50 rfl (lv_at hl 0 rfl) ?_
  have hPc := hP.sub (ws' := [(x, .inr (0, [.ref f0, .ref a0, .ref r0, .ref w0, .ref g0, .ref k0, .int 0, .int 3, .int 5])), (f0, .inr (1, [.int 2, .ref f1, .ref f2, .ref f3, .ref f4])), (f1, .inl (cI, 7, .inl (fun _ => 0))), (a0, .inr (2, [.int 0, .ref a1, .ref a2, .ref a3, .ref a4, .ref a5, .ref a6, .ref a7, .ref a8, .ref a9, .ref a10, .ref a11]))]) [0, 1, 2, 4] rfl
  have hDc := hD.sub (ws' := [(x, .inr (0, [.ref f0, .ref a0, .ref r0, .ref w0, .ref g0, .ref k0, .int 0, .int 3, .int 5])), (f0, .inr (1, [.int 2, .ref f1, .ref f2, .ref f3, .ref f4])), (f1, .inl (cI, 7, .inl (fun _ => 0))), (a0, .inr (2, [.int 0, .ref a1, .ref a2, .ref a3, .ref a4, .ref a5, .ref a6, .ref a7, .ref a8, .ref a9, .ref a10, .ref a11]))]) [0, 1, 2, 4] (by decide) rfl
  refine vp_callSi (va_Run.run (va_runV (As := [.int 0]) (rest := [.long 6162137745605403]) ⟨hx, hb, hml, hown, hts⟩ (f_PC_wealth l D cI cZ x 0 f0 a0 r0 w0 g0 k0 f1 f2 f3 f4 a1 a2 a3 a4 a5 a6 a7 a8 a9 a10 a11 s.heap.size ) (my_cwV 1 hts q_517 q_616 q_515 q_516 q_1 rfl rfl (by decide +kernel) ⟨Nat.le_of_ble_eq_true rfl, Nat.le_of_ble_eq_true rfl⟩) (my_preV hPc hDc hK hN 0 0 rfl rfl) rfl rfl hl.1 rfl (lv_room (Nat.le_of_ble_eq_true rfl)) d_PC_digest_51 ⟨Nat.le_of_ble_eq_true rfl, Nat.le_of_ble_eq_true rfl⟩)) (fun r_19 hw_19 => ?_)
  have hw_19 : r_19 = sp_wealth 0 := hw_19
  subst hw_19
  refine lv_seti (0) (by decide) ?_
  refine lv_i2l (v := 0) hx hb d_PC_digest_54 (by decide) ?_
  refine lv_ladd hx hb d_PC_digest_55 ?_
  refine lv_setl (6162137745605403) (by decide) ?_
  refine lv_lstore_n (lv' := [(1, .long 6162137745605403), (3, .int 0), (0, .ref x)]) hx hb d_PC_digest_56 rfl hl (by decide) rfl (fun ls hl => ?_)
  refine lv_iinc (v := 1) (lv' := [(3, .int 1), (1, .long 6162137745605403), (0, .ref x)]) hx hb d_PC_digest_57 hl (k := 1) rfl (by decide) (by decide) rfl (fun ls hl => ?_)
  refine lv_goto (tgt := 33) hx hb d_PC_digest_60 (by decide) ?_
  refine lv_iload_n hx hb d_PC_digest_33 rfl (lv_at hl 0 rfl) ?_
  refine lv_aload_n hx hb d_PC_digest_34 rfl (lv_at hl 2 rfl) ?_
  refine va_get (D := D) (ci := 0) (v := .ref f0) (C := R_PC) (T := F_PC) (N := 9) hx hb hts i_PC hown hK hP 0 rfl rfl 0 (by decide) (hts _ q_256) (fun _ h9 => h9) rfl d_PC_digest_35 ?_
  refine va_get (D := D) (ci := 1) (v := .int 2) (C := R_PE) (T := F_PE) (N := 5) hx hb hts i_PE hown hK hP 1 rfl rfl 0 (by decide) (hts _ q_25) (fun _ h9 => h9) rfl d_PC_digest_38 ?_
  refine lv_icmp_ge (tgt := 63) hx hb d_PC_digest_41 (by decide) (fun h => absurd h (by decide)) (fun _ => ?_)
  refine lv_ldc2 hx hb hown (hts _ q_614) d_PC_digest_44 ?_
  refine lv_lload_n hx hb d_PC_digest_47 rfl (lv_at hl 1 rfl) ?_
  refine lv_lmul hx hb d_PC_digest_48 ?_
  refine lv_setl (191026270113767493) (by decide) ?_
  refine lv_aload_n hx hb d_PC_digest_49 rfl (lv_at hl 2 rfl) ?_
  refine lv_iload_n hx hb d_PC_digest_50 rfl (lv_at hl 0 rfl) ?_
  have hPc := hP.sub (ws' := [(x, .inr (0, [.ref f0, .ref a0, .ref r0, .ref w0, .ref g0, .ref k0, .int 0, .int 3, .int 5])), (f0, .inr (1, [.int 2, .ref f1, .ref f2, .ref f3, .ref f4])), (f1, .inl (cI, 7, .inl (fun _ => 0))), (a0, .inr (2, [.int 0, .ref a1, .ref a2, .ref a3, .ref a4, .ref a5, .ref a6, .ref a7, .ref a8, .ref a9, .ref a10, .ref a11]))]) [0, 1, 2, 4] rfl
  have hDc := hD.sub (ws' := [(x, .inr (0, [.ref f0, .ref a0, .ref r0, .ref w0, .ref g0, .ref k0, .int 0, .int 3, .int 5])), (f0, .inr (1, [.int 2, .ref f1, .ref f2, .ref f3, .ref f4])), (f1, .inl (cI, 7, .inl (fun _ => 0))), (a0, .inr (2, [.int 0, .ref a1, .ref a2, .ref a3, .ref a4, .ref a5, .ref a6, .ref a7, .ref a8, .ref a9, .ref a10, .ref a11]))]) [0, 1, 2, 4] (by decide) rfl
  refine vp_callSi (va_Run.run (va_runV (As := [.int 1]) (rest := [.long 191026270113767493]) ⟨hx, hb, hml, hown, hts⟩ (f_PC_wealth l D cI cZ x 1 f0 a0 r0 w0 g0 k0 f1 f2 f3 f4 a1 a2 a3 a4 a5 a6 a7 a8 a9 a10 a11 s.heap.size ) (my_cwV 1 hts q_517 q_616 q_515 q_516 q_1 rfl rfl (by decide +kernel) ⟨Nat.le_of_ble_eq_true rfl, Nat.le_of_ble_eq_true rfl⟩) (my_preV hPc hDc hK hN 0 0 rfl rfl) rfl rfl hl.1 rfl (lv_room (Nat.le_of_ble_eq_true rfl)) d_PC_digest_51 ⟨Nat.le_of_ble_eq_true rfl, Nat.le_of_ble_eq_true rfl⟩)) (fun r_21 hw_21 => ?_)
  have hw_21 : r_21 = sp_wealth 1 := hw_21
  subst hw_21
  refine lv_seti (0) (by decide) ?_
  refine lv_i2l (v := 0) hx hb d_PC_digest_54 (by decide) ?_
  refine lv_ladd hx hb d_PC_digest_55 ?_
  refine lv_setl (191026270113767493) (by decide) ?_
  refine lv_lstore_n (lv' := [(1, .long 191026270113767493), (3, .int 1), (0, .ref x)]) hx hb d_PC_digest_56 rfl hl (by decide) rfl (fun ls hl => ?_)
  refine lv_iinc (v := 2) (lv' := [(3, .int 2), (1, .long 191026270113767493), (0, .ref x)]) hx hb d_PC_digest_57 hl (k := 1) rfl (by decide) (by decide) rfl (fun ls hl => ?_)
  refine lv_goto (tgt := 33) hx hb d_PC_digest_60 (by decide) ?_
  refine lv_iload_n hx hb d_PC_digest_33 rfl (lv_at hl 0 rfl) ?_
  refine lv_aload_n hx hb d_PC_digest_34 rfl (lv_at hl 2 rfl) ?_
  refine va_get (D := D) (ci := 0) (v := .ref f0) (C := R_PC) (T := F_PC) (N := 9) hx hb hts i_PC hown hK hP 0 rfl rfl 0 (by decide) (hts _ q_256) (fun _ h9 => h9) rfl d_PC_digest_35 ?_
  refine va_get (D := D) (ci := 1) (v := .int 2) (C := R_PE) (T := F_PE) (N := 5) hx hb hts i_PE hown hK hP 1 rfl rfl 0 (by decide) (hts _ q_25) (fun _ h9 => h9) rfl d_PC_digest_38 ?_
  refine lv_icmp_ge (tgt := 63) hx hb d_PC_digest_41 (by decide) (fun _ => ?_) (fun h => absurd h (by decide))
  refine lv_iconst (v := 0) hx hb d_PC_digest_63 (by decide) ?_
  refine lv_istore_n (lv' := [(3, .int 0), (1, .long 191026270113767493), (0, .ref x)]) hx hb d_PC_digest_64 rfl hl (by decide) rfl (fun ls hl => ?_)
  refine lv_iload_n hx hb d_PC_digest_65 rfl (lv_at hl 0 rfl) ?_
  refine lv_aload_n hx hb d_PC_digest_66 rfl (lv_at hl 2 rfl) ?_
  refine va_get (D := D) (ci := 0) (v := .ref a0) (C := R_PC) (T := F_PC) (N := 9) hx hb hts i_PC hown hK hP 0 rfl rfl 1 (by decide) (hts _ q_257) (fun _ h9 => h9) rfl d_PC_digest_67 ?_
  refine va_get (D := D) (ci := 2) (v := .int 0) (C := R_PA) (T := F_PA) (N := 12) hx hb hts i_PA hown hK hP 4 rfl rfl 0 (by decide) (hts _ q_57) (fun _ h9 => h9) rfl d_PC_digest_70 ?_
  refine lv_icmp_ge (tgt := 89) hx hb d_PC_digest_73 (by decide) (fun _ => ?_) (fun h => absurd h (by decide))
  refine lv_iconst (v := 0) hx hb d_PC_digest_89 (by decide) ?_
  refine lv_istore_n (lv' := [(3, .int 0), (1, .long 191026270113767493), (0, .ref x)]) hx hb d_PC_digest_90 rfl hl (by decide) rfl (fun ls hl => ?_)
  refine lv_iload_n hx hb d_PC_digest_91 rfl (lv_at hl 0 rfl) ?_
  refine lv_aload_n hx hb d_PC_digest_92 rfl (lv_at hl 2 rfl) ?_
  refine va_get (D := D) (ci := 0) (v := .ref r0) (C := R_PC) (T := F_PC) (N := 9) hx hb hts i_PC hown hK hP 0 rfl rfl 2 (by decide) (hts _ q_258) (fun _ h9 => h9) rfl d_PC_digest_93 ?_
  refine va_get (D := D) (ci := 3) (v := .int 0) (C := R_PR) (T := F_PR) (N := 13) hx hb hts i_PR hown hK hP 5 rfl rfl 0 (by decide) (hts _ q_111) (fun _ h9 => h9) rfl d_PC_digest_96 ?_
  refine lv_icmp_ge (tgt := 139) hx hb d_PC_digest_99 (by decide) (fun _ => ?_) (fun h => absurd h (by decide))
  refine lv_lload_n hx hb d_PC_digest_139 rfl (lv_at hl 1 rfl) ?_
  exact W.lret (v := 191026270113767493) hx hb hr (fun t ht hW => ⟨191026270113767493, rfl, rfl, ht⟩) (fun q h => absurd h List.not_mem_nil) d_PC_digest_140
