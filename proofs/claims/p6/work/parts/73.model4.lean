theorem gd_MO_side_0 : (decode prog_9_method_33_code 0 = .ok (.aload_n 0, 1)) ∧ (decode prog_9_method_33_code 1 = .ok (.iload_n 1, 1)) ∧ (decode prog_9_method_33_code 2 = .ok (.invokevirtual 210, 3)) ∧ (decode prog_9_method_33_code 5 = .ok (.ifCond .eq 25, 3)) ∧ (decode prog_9_method_33_code 30 = .ok (.bipush (-2), 2)) ∧ (decode prog_9_method_33_code 32 = .ok (.ireturn, 1)) ∧ (decode prog_9_method_33_code 8 = .ok (.iload_n 2, 1)) ∧ (decode prog_9_method_33_code 9 = .ok (.iconst 0, 1)) ∧ (decode prog_9_method_33_code 10 = .ok (.iconst 1, 1)) ∧ (decode prog_9_method_33_code 11 = .ok (.invokestatic 135, 3)) := by decide +kernel
theorem d_MO_side_0 : decode prog_9_method_33_code 0 = .ok (.aload_n 0, 1) := gd_MO_side_0.1
theorem d_MO_side_1 : decode prog_9_method_33_code 1 = .ok (.iload_n 1, 1) := gd_MO_side_0.2.1
theorem d_MO_side_2 : decode prog_9_method_33_code 2 = .ok (.invokevirtual 210, 3) := gd_MO_side_0.2.2.1
theorem d_MO_side_5 : decode prog_9_method_33_code 5 = .ok (.ifCond .eq 25, 3) := gd_MO_side_0.2.2.2.1
theorem d_MO_side_30 : decode prog_9_method_33_code 30 = .ok (.bipush (-2), 2) := gd_MO_side_0.2.2.2.2.1
theorem d_MO_side_32 : decode prog_9_method_33_code 32 = .ok (.ireturn, 1) := gd_MO_side_0.2.2.2.2.2.1
theorem d_MO_side_8 : decode prog_9_method_33_code 8 = .ok (.iload_n 2, 1) := gd_MO_side_0.2.2.2.2.2.2.1
theorem d_MO_side_9 : decode prog_9_method_33_code 9 = .ok (.iconst 0, 1) := gd_MO_side_0.2.2.2.2.2.2.2.1
theorem d_MO_side_10 : decode prog_9_method_33_code 10 = .ok (.iconst 1, 1) := gd_MO_side_0.2.2.2.2.2.2.2.2.1
theorem d_MO_side_11 : decode prog_9_method_33_code 11 = .ok (.invokestatic 135, 3) := gd_MO_side_0.2.2.2.2.2.2.2.2.2
theorem gd_MO_side_14 : (decode prog_9_method_33_code 14 = .ok (.ifCond .eq 16, 3)) ∧ (decode prog_9_method_33_code 17 = .ok (.aload_n 0, 1)) ∧ (decode prog_9_method_33_code 18 = .ok (.getfield 36, 3)) ∧ (decode prog_9_method_33_code 21 = .ok (.iconst 2, 1)) ∧ (decode prog_9_method_33_code 22 = .ok (.iload_n 1, 1)) ∧ (decode prog_9_method_33_code 23 = .ok (.imul, 1)) ∧ (decode prog_9_method_33_code 24 = .ok (.iload_n 2, 1)) ∧ (decode prog_9_method_33_code 25 = .ok (.iadd, 1)) ∧ (decode prog_9_method_33_code 26 = .ok (.iaload, 1)) ∧ (decode prog_9_method_33_code 27 = .ok (.goto 5, 3)) := by decide +kernel
theorem d_MO_side_14 : decode prog_9_method_33_code 14 = .ok (.ifCond .eq 16, 3) := gd_MO_side_14.1
theorem d_MO_side_17 : decode prog_9_method_33_code 17 = .ok (.aload_n 0, 1) := gd_MO_side_14.2.1
theorem d_MO_side_18 : decode prog_9_method_33_code 18 = .ok (.getfield 36, 3) := gd_MO_side_14.2.2.1
theorem d_MO_side_21 : decode prog_9_method_33_code 21 = .ok (.iconst 2, 1) := gd_MO_side_14.2.2.2.1
theorem d_MO_side_22 : decode prog_9_method_33_code 22 = .ok (.iload_n 1, 1) := gd_MO_side_14.2.2.2.2.1
theorem d_MO_side_23 : decode prog_9_method_33_code 23 = .ok (.imul, 1) := gd_MO_side_14.2.2.2.2.2.1
theorem d_MO_side_24 : decode prog_9_method_33_code 24 = .ok (.iload_n 2, 1) := gd_MO_side_14.2.2.2.2.2.2.1
theorem d_MO_side_25 : decode prog_9_method_33_code 25 = .ok (.iadd, 1) := gd_MO_side_14.2.2.2.2.2.2.2.1
theorem d_MO_side_26 : decode prog_9_method_33_code 26 = .ok (.iaload, 1) := gd_MO_side_14.2.2.2.2.2.2.2.2.1
theorem d_MO_side_27 : decode prog_9_method_33_code 27 = .ok (.goto 5, 3) := gd_MO_side_14.2.2.2.2.2.2.2.2.2
theorem gd_MO_locked_0 : (decode prog_9_method_34_code 0 = .ok (.aload_n 0, 1)) ∧ (decode prog_9_method_34_code 1 = .ok (.iload_n 1, 1)) ∧ (decode prog_9_method_34_code 2 = .ok (.invokevirtual 210, 3)) ∧ (decode prog_9_method_34_code 5 = .ok (.ifCond .eq 25, 3)) ∧ (decode prog_9_method_34_code 30 = .ok (.bipush (-2), 2)) ∧ (decode prog_9_method_34_code 32 = .ok (.ireturn, 1)) ∧ (decode prog_9_method_34_code 8 = .ok (.iload_n 2, 1)) ∧ (decode prog_9_method_34_code 9 = .ok (.iconst 0, 1)) ∧ (decode prog_9_method_34_code 10 = .ok (.iconst 1, 1)) ∧ (decode prog_9_method_34_code 11 = .ok (.invokestatic 135, 3)) := by decide +kernel
theorem d_MO_locked_0 : decode prog_9_method_34_code 0 = .ok (.aload_n 0, 1) := gd_MO_locked_0.1
theorem d_MO_locked_1 : decode prog_9_method_34_code 1 = .ok (.iload_n 1, 1) := gd_MO_locked_0.2.1
theorem d_MO_locked_2 : decode prog_9_method_34_code 2 = .ok (.invokevirtual 210, 3) := gd_MO_locked_0.2.2.1
theorem d_MO_locked_5 : decode prog_9_method_34_code 5 = .ok (.ifCond .eq 25, 3) := gd_MO_locked_0.2.2.2.1
theorem d_MO_locked_30 : decode prog_9_method_34_code 30 = .ok (.bipush (-2), 2) := gd_MO_locked_0.2.2.2.2.1
theorem d_MO_locked_32 : decode prog_9_method_34_code 32 = .ok (.ireturn, 1) := gd_MO_locked_0.2.2.2.2.2.1
theorem d_MO_locked_8 : decode prog_9_method_34_code 8 = .ok (.iload_n 2, 1) := gd_MO_locked_0.2.2.2.2.2.2.1
theorem d_MO_locked_9 : decode prog_9_method_34_code 9 = .ok (.iconst 0, 1) := gd_MO_locked_0.2.2.2.2.2.2.2.1
theorem d_MO_locked_10 : decode prog_9_method_34_code 10 = .ok (.iconst 1, 1) := gd_MO_locked_0.2.2.2.2.2.2.2.2.1
theorem d_MO_locked_11 : decode prog_9_method_34_code 11 = .ok (.invokestatic 135, 3) := gd_MO_locked_0.2.2.2.2.2.2.2.2.2
theorem gd_MO_locked_14 : (decode prog_9_method_34_code 14 = .ok (.ifCond .eq 16, 3)) ∧ (decode prog_9_method_34_code 17 = .ok (.aload_n 0, 1)) ∧ (decode prog_9_method_34_code 18 = .ok (.getfield 39, 3)) ∧ (decode prog_9_method_34_code 21 = .ok (.iconst 2, 1)) ∧ (decode prog_9_method_34_code 22 = .ok (.iload_n 1, 1)) ∧ (decode prog_9_method_34_code 23 = .ok (.imul, 1)) ∧ (decode prog_9_method_34_code 24 = .ok (.iload_n 2, 1)) ∧ (decode prog_9_method_34_code 25 = .ok (.iadd, 1)) ∧ (decode prog_9_method_34_code 26 = .ok (.iaload, 1)) ∧ (decode prog_9_method_34_code 27 = .ok (.goto 5, 3)) := by decide +kernel
theorem d_MO_locked_14 : decode prog_9_method_34_code 14 = .ok (.ifCond .eq 16, 3) := gd_MO_locked_14.1
theorem d_MO_locked_17 : decode prog_9_method_34_code 17 = .ok (.aload_n 0, 1) := gd_MO_locked_14.2.1
theorem d_MO_locked_18 : decode prog_9_method_34_code 18 = .ok (.getfield 39, 3) := gd_MO_locked_14.2.2.1
theorem d_MO_locked_21 : decode prog_9_method_34_code 21 = .ok (.iconst 2, 1) := gd_MO_locked_14.2.2.2.1
theorem d_MO_locked_22 : decode prog_9_method_34_code 22 = .ok (.iload_n 1, 1) := gd_MO_locked_14.2.2.2.2.1
theorem d_MO_locked_23 : decode prog_9_method_34_code 23 = .ok (.imul, 1) := gd_MO_locked_14.2.2.2.2.2.1
theorem d_MO_locked_24 : decode prog_9_method_34_code 24 = .ok (.iload_n 2, 1) := gd_MO_locked_14.2.2.2.2.2.2.1
theorem d_MO_locked_25 : decode prog_9_method_34_code 25 = .ok (.iadd, 1) := gd_MO_locked_14.2.2.2.2.2.2.2.1
theorem d_MO_locked_26 : decode prog_9_method_34_code 26 = .ok (.iaload, 1) := gd_MO_locked_14.2.2.2.2.2.2.2.2.1
theorem d_MO_locked_27 : decode prog_9_method_34_code 27 = .ok (.goto 5, 3) := gd_MO_locked_14.2.2.2.2.2.2.2.2.2
theorem gd_MO_learnt_0 : (decode prog_9_method_50_code 0 = .ok (.aload_n 0, 1)) ∧ (decode prog_9_method_50_code 1 = .ok (.iload_n 1, 1)) ∧ (decode prog_9_method_50_code 2 = .ok (.invokevirtual 210, 3)) ∧ (decode prog_9_method_50_code 5 = .ok (.ifCond .eq 34, 3)) ∧ (decode prog_9_method_50_code 39 = .ok (.bipush (-2), 2)) ∧ (decode prog_9_method_50_code 41 = .ok (.ireturn, 1)) ∧ (decode prog_9_method_50_code 8 = .ok (.iload_n 2, 1)) ∧ (decode prog_9_method_50_code 9 = .ok (.iconst 0, 1)) ∧ (decode prog_9_method_50_code 10 = .ok (.iconst 1, 1)) ∧ (decode prog_9_method_50_code 11 = .ok (.invokestatic 135, 3)) := by decide +kernel
theorem d_MO_learnt_0 : decode prog_9_method_50_code 0 = .ok (.aload_n 0, 1) := gd_MO_learnt_0.1
theorem d_MO_learnt_1 : decode prog_9_method_50_code 1 = .ok (.iload_n 1, 1) := gd_MO_learnt_0.2.1
theorem d_MO_learnt_2 : decode prog_9_method_50_code 2 = .ok (.invokevirtual 210, 3) := gd_MO_learnt_0.2.2.1
theorem d_MO_learnt_5 : decode prog_9_method_50_code 5 = .ok (.ifCond .eq 34, 3) := gd_MO_learnt_0.2.2.2.1
theorem d_MO_learnt_39 : decode prog_9_method_50_code 39 = .ok (.bipush (-2), 2) := gd_MO_learnt_0.2.2.2.2.1
theorem d_MO_learnt_41 : decode prog_9_method_50_code 41 = .ok (.ireturn, 1) := gd_MO_learnt_0.2.2.2.2.2.1
theorem d_MO_learnt_8 : decode prog_9_method_50_code 8 = .ok (.iload_n 2, 1) := gd_MO_learnt_0.2.2.2.2.2.2.1
theorem d_MO_learnt_9 : decode prog_9_method_50_code 9 = .ok (.iconst 0, 1) := gd_MO_learnt_0.2.2.2.2.2.2.2.1
theorem d_MO_learnt_10 : decode prog_9_method_50_code 10 = .ok (.iconst 1, 1) := gd_MO_learnt_0.2.2.2.2.2.2.2.2.1
theorem d_MO_learnt_11 : decode prog_9_method_50_code 11 = .ok (.invokestatic 135, 3) := gd_MO_learnt_0.2.2.2.2.2.2.2.2.2
theorem gd_MO_learnt_14 : (decode prog_9_method_50_code 14 = .ok (.ifCond .eq 25, 3)) ∧ (decode prog_9_method_50_code 17 = .ok (.iload_n 2, 1)) ∧ (decode prog_9_method_50_code 18 = .ok (.ifCond .ne 12, 3)) ∧ (decode prog_9_method_50_code 30 = .ok (.aload_n 0, 1)) ∧ (decode prog_9_method_50_code 31 = .ok (.getfield 63, 3)) ∧ (decode prog_9_method_50_code 34 = .ok (.iload_n 1, 1)) ∧ (decode prog_9_method_50_code 35 = .ok (.iaload, 1)) ∧ (decode prog_9_method_50_code 36 = .ok (.goto 5, 3)) ∧ (decode prog_9_method_50_code 21 = .ok (.aload_n 0, 1)) ∧ (decode prog_9_method_50_code 22 = .ok (.getfield 60, 3)) := by decide +kernel
theorem d_MO_learnt_14 : decode prog_9_method_50_code 14 = .ok (.ifCond .eq 25, 3) := gd_MO_learnt_14.1
theorem d_MO_learnt_17 : decode prog_9_method_50_code 17 = .ok (.iload_n 2, 1) := gd_MO_learnt_14.2.1
theorem d_MO_learnt_18 : decode prog_9_method_50_code 18 = .ok (.ifCond .ne 12, 3) := gd_MO_learnt_14.2.2.1
theorem d_MO_learnt_30 : decode prog_9_method_50_code 30 = .ok (.aload_n 0, 1) := gd_MO_learnt_14.2.2.2.1
theorem d_MO_learnt_31 : decode prog_9_method_50_code 31 = .ok (.getfield 63, 3) := gd_MO_learnt_14.2.2.2.2.1
theorem d_MO_learnt_34 : decode prog_9_method_50_code 34 = .ok (.iload_n 1, 1) := gd_MO_learnt_14.2.2.2.2.2.1
theorem d_MO_learnt_35 : decode prog_9_method_50_code 35 = .ok (.iaload, 1) := gd_MO_learnt_14.2.2.2.2.2.2.1
theorem d_MO_learnt_36 : decode prog_9_method_50_code 36 = .ok (.goto 5, 3) := gd_MO_learnt_14.2.2.2.2.2.2.2.1
theorem d_MO_learnt_21 : decode prog_9_method_50_code 21 = .ok (.aload_n 0, 1) := gd_MO_learnt_14.2.2.2.2.2.2.2.2.1
theorem d_MO_learnt_22 : decode prog_9_method_50_code 22 = .ok (.getfield 60, 3) := gd_MO_learnt_14.2.2.2.2.2.2.2.2.2
theorem gd_MO_learnt_25 : (decode prog_9_method_50_code 25 = .ok (.iload_n 1, 1)) ∧ (decode prog_9_method_50_code 26 = .ok (.iaload, 1)) ∧ (decode prog_9_method_50_code 27 = .ok (.goto 14, 3)) := by decide +kernel
theorem d_MO_learnt_25 : decode prog_9_method_50_code 25 = .ok (.iload_n 1, 1) := gd_MO_learnt_25.1
theorem d_MO_learnt_26 : decode prog_9_method_50_code 26 = .ok (.iaload, 1) := gd_MO_learnt_25.2.1
theorem d_MO_learnt_27 : decode prog_9_method_50_code 27 = .ok (.goto 14, 3) := gd_MO_learnt_25.2.2
theorem gd_MO_about_0 : (decode prog_9_method_35_code 0 = .ok (.aload_n 0, 1)) ∧ (decode prog_9_method_35_code 1 = .ok (.iload_n 1, 1)) ∧ (decode prog_9_method_35_code 2 = .ok (.invokevirtual 210, 3)) ∧ (decode prog_9_method_35_code 5 = .ok (.ifCond .ne 6, 3)) ∧ (decode prog_9_method_35_code 8 = .ok (.bipush (-2), 2)) ∧ (decode prog_9_method_35_code 10 = .ok (.ireturn, 1)) ∧ (decode prog_9_method_35_code 11 = .ok (.iload_n 2, 1)) ∧ (decode prog_9_method_35_code 12 = .ok (.tableswitch 68 0 4 #[36, 36, 47, 54, 61], 36)) ∧ (decode prog_9_method_35_code 48 = .ok (.aload_n 0, 1)) ∧ (decode prog_9_method_35_code 49 = .ok (.getfield 33, 3)) := by decide +kernel
theorem d_MO_about_0 : decode prog_9_method_35_code 0 = .ok (.aload_n 0, 1) := gd_MO_about_0.1
theorem d_MO_about_1 : decode prog_9_method_35_code 1 = .ok (.iload_n 1, 1) := gd_MO_about_0.2.1
theorem d_MO_about_2 : decode prog_9_method_35_code 2 = .ok (.invokevirtual 210, 3) := gd_MO_about_0.2.2.1
theorem d_MO_about_5 : decode prog_9_method_35_code 5 = .ok (.ifCond .ne 6, 3) := gd_MO_about_0.2.2.2.1
theorem d_MO_about_8 : decode prog_9_method_35_code 8 = .ok (.bipush (-2), 2) := gd_MO_about_0.2.2.2.2.1
theorem d_MO_about_10 : decode prog_9_method_35_code 10 = .ok (.ireturn, 1) := gd_MO_about_0.2.2.2.2.2.1
theorem d_MO_about_11 : decode prog_9_method_35_code 11 = .ok (.iload_n 2, 1) := gd_MO_about_0.2.2.2.2.2.2.1
theorem d_MO_about_12 : decode prog_9_method_35_code 12 = .ok (.tableswitch 68 0 4 #[36, 36, 47, 54, 61], 36) := gd_MO_about_0.2.2.2.2.2.2.2.1
theorem d_MO_about_48 : decode prog_9_method_35_code 48 = .ok (.aload_n 0, 1) := gd_MO_about_0.2.2.2.2.2.2.2.2.1
theorem d_MO_about_49 : decode prog_9_method_35_code 49 = .ok (.getfield 33, 3) := gd_MO_about_0.2.2.2.2.2.2.2.2.2
theorem gd_MO_about_52 : (decode prog_9_method_35_code 52 = .ok (.iconst 2, 1)) ∧ (decode prog_9_method_35_code 53 = .ok (.iload_n 1, 1)) ∧ (decode prog_9_method_35_code 54 = .ok (.imul, 1)) ∧ (decode prog_9_method_35_code 55 = .ok (.iload_n 2, 1)) ∧ (decode prog_9_method_35_code 56 = .ok (.iadd, 1)) ∧ (decode prog_9_method_35_code 57 = .ok (.iaload, 1)) ∧ (decode prog_9_method_35_code 58 = .ok (.ireturn, 1)) ∧ (decode prog_9_method_35_code 59 = .ok (.aload_n 0, 1)) ∧ (decode prog_9_method_35_code 60 = .ok (.getfield 42, 3)) ∧ (decode prog_9_method_35_code 63 = .ok (.iload_n 1, 1)) := by decide +kernel
theorem d_MO_about_52 : decode prog_9_method_35_code 52 = .ok (.iconst 2, 1) := gd_MO_about_52.1
theorem d_MO_about_53 : decode prog_9_method_35_code 53 = .ok (.iload_n 1, 1) := gd_MO_about_52.2.1
theorem d_MO_about_54 : decode prog_9_method_35_code 54 = .ok (.imul, 1) := gd_MO_about_52.2.2.1
theorem d_MO_about_55 : decode prog_9_method_35_code 55 = .ok (.iload_n 2, 1) := gd_MO_about_52.2.2.2.1
theorem d_MO_about_56 : decode prog_9_method_35_code 56 = .ok (.iadd, 1) := gd_MO_about_52.2.2.2.2.1
theorem d_MO_about_57 : decode prog_9_method_35_code 57 = .ok (.iaload, 1) := gd_MO_about_52.2.2.2.2.2.1
theorem d_MO_about_58 : decode prog_9_method_35_code 58 = .ok (.ireturn, 1) := gd_MO_about_52.2.2.2.2.2.2.1
theorem d_MO_about_59 : decode prog_9_method_35_code 59 = .ok (.aload_n 0, 1) := gd_MO_about_52.2.2.2.2.2.2.2.1
theorem d_MO_about_60 : decode prog_9_method_35_code 60 = .ok (.getfield 42, 3) := gd_MO_about_52.2.2.2.2.2.2.2.2.1
theorem d_MO_about_63 : decode prog_9_method_35_code 63 = .ok (.iload_n 1, 1) := gd_MO_about_52.2.2.2.2.2.2.2.2.2
theorem gd_MO_about_64 : (decode prog_9_method_35_code 64 = .ok (.iaload, 1)) ∧ (decode prog_9_method_35_code 65 = .ok (.ireturn, 1)) ∧ (decode prog_9_method_35_code 66 = .ok (.aload_n 0, 1)) ∧ (decode prog_9_method_35_code 67 = .ok (.getfield 57, 3)) ∧ (decode prog_9_method_35_code 70 = .ok (.iload_n 1, 1)) ∧ (decode prog_9_method_35_code 71 = .ok (.iaload, 1)) ∧ (decode prog_9_method_35_code 72 = .ok (.ireturn, 1)) ∧ (decode prog_9_method_35_code 73 = .ok (.aload_n 0, 1)) ∧ (decode prog_9_method_35_code 74 = .ok (.getfield 45, 3)) ∧ (decode prog_9_method_35_code 77 = .ok (.iload_n 1, 1)) := by decide +kernel
theorem d_MO_about_64 : decode prog_9_method_35_code 64 = .ok (.iaload, 1) := gd_MO_about_64.1
theorem d_MO_about_65 : decode prog_9_method_35_code 65 = .ok (.ireturn, 1) := gd_MO_about_64.2.1
theorem d_MO_about_66 : decode prog_9_method_35_code 66 = .ok (.aload_n 0, 1) := gd_MO_about_64.2.2.1
theorem d_MO_about_67 : decode prog_9_method_35_code 67 = .ok (.getfield 57, 3) := gd_MO_about_64.2.2.2.1
theorem d_MO_about_70 : decode prog_9_method_35_code 70 = .ok (.iload_n 1, 1) := gd_MO_about_64.2.2.2.2.1
theorem d_MO_about_71 : decode prog_9_method_35_code 71 = .ok (.iaload, 1) := gd_MO_about_64.2.2.2.2.2.1
theorem d_MO_about_72 : decode prog_9_method_35_code 72 = .ok (.ireturn, 1) := gd_MO_about_64.2.2.2.2.2.2.1
theorem d_MO_about_73 : decode prog_9_method_35_code 73 = .ok (.aload_n 0, 1) := gd_MO_about_64.2.2.2.2.2.2.2.1
theorem d_MO_about_74 : decode prog_9_method_35_code 74 = .ok (.getfield 45, 3) := gd_MO_about_64.2.2.2.2.2.2.2.2.1
theorem d_MO_about_77 : decode prog_9_method_35_code 77 = .ok (.iload_n 1, 1) := gd_MO_about_64.2.2.2.2.2.2.2.2.2
theorem gd_MO_about_78 : (decode prog_9_method_35_code 78 = .ok (.iaload, 1)) ∧ (decode prog_9_method_35_code 79 = .ok (.ireturn, 1)) ∧ (decode prog_9_method_35_code 80 = .ok (.bipush (-2), 2)) ∧ (decode prog_9_method_35_code 82 = .ok (.ireturn, 1)) := by decide +kernel
theorem d_MO_about_78 : decode prog_9_method_35_code 78 = .ok (.iaload, 1) := gd_MO_about_78.1
theorem d_MO_about_79 : decode prog_9_method_35_code 79 = .ok (.ireturn, 1) := gd_MO_about_78.2.1
theorem d_MO_about_80 : decode prog_9_method_35_code 80 = .ok (.bipush (-2), 2) := gd_MO_about_78.2.2.1
theorem d_MO_about_82 : decode prog_9_method_35_code 82 = .ok (.ireturn, 1) := gd_MO_about_78.2.2.2
theorem gd_MO_stateAt_0 : (decode prog_9_method_36_code 0 = .ok (.aload_n 0, 1)) ∧ (decode prog_9_method_36_code 1 = .ok (.iload_n 1, 1)) ∧ (decode prog_9_method_36_code 2 = .ok (.invokevirtual 210, 3)) ∧ (decode prog_9_method_36_code 5 = .ok (.ifCond .eq 16, 3)) ∧ (decode prog_9_method_36_code 21 = .ok (.bipush (-2), 2)) ∧ (decode prog_9_method_36_code 23 = .ok (.ireturn, 1)) ∧ (decode prog_9_method_36_code 8 = .ok (.iload_n 2, 1)) ∧ (decode prog_9_method_36_code 9 = .ok (.ifCond .lt 12, 3)) ∧ (decode prog_9_method_36_code 12 = .ok (.iload_n 3, 1)) ∧ (decode prog_9_method_36_code 13 = .ok (.iconst 0, 1)) := by decide +kernel
theorem d_MO_stateAt_0 : decode prog_9_method_36_code 0 = .ok (.aload_n 0, 1) := gd_MO_stateAt_0.1
theorem d_MO_stateAt_1 : decode prog_9_method_36_code 1 = .ok (.iload_n 1, 1) := gd_MO_stateAt_0.2.1
theorem d_MO_stateAt_2 : decode prog_9_method_36_code 2 = .ok (.invokevirtual 210, 3) := gd_MO_stateAt_0.2.2.1
theorem d_MO_stateAt_5 : decode prog_9_method_36_code 5 = .ok (.ifCond .eq 16, 3) := gd_MO_stateAt_0.2.2.2.1
theorem d_MO_stateAt_21 : decode prog_9_method_36_code 21 = .ok (.bipush (-2), 2) := gd_MO_stateAt_0.2.2.2.2.1
theorem d_MO_stateAt_23 : decode prog_9_method_36_code 23 = .ok (.ireturn, 1) := gd_MO_stateAt_0.2.2.2.2.2.1
theorem d_MO_stateAt_8 : decode prog_9_method_36_code 8 = .ok (.iload_n 2, 1) := gd_MO_stateAt_0.2.2.2.2.2.2.1
theorem d_MO_stateAt_9 : decode prog_9_method_36_code 9 = .ok (.ifCond .lt 12, 3) := gd_MO_stateAt_0.2.2.2.2.2.2.2.1
theorem d_MO_stateAt_12 : decode prog_9_method_36_code 12 = .ok (.iload_n 3, 1) := gd_MO_stateAt_0.2.2.2.2.2.2.2.2.1
theorem d_MO_stateAt_13 : decode prog_9_method_36_code 13 = .ok (.iconst 0, 1) := gd_MO_stateAt_0.2.2.2.2.2.2.2.2.2
theorem gd_MO_stateAt_14 : (decode prog_9_method_36_code 14 = .ok (.iconst 1, 1)) ∧ (decode prog_9_method_36_code 15 = .ok (.invokestatic 135, 3)) ∧ (decode prog_9_method_36_code 18 = .ok (.ifCond .ne 6, 3)) ∧ (decode prog_9_method_36_code 24 = .ok (.iload_n 2, 1)) ∧ (decode prog_9_method_36_code 25 = .ok (.aload_n 0, 1)) ∧ (decode prog_9_method_36_code 26 = .ok (.getfield 57, 3)) ∧ (decode prog_9_method_36_code 29 = .ok (.iload_n 1, 1)) ∧ (decode prog_9_method_36_code 30 = .ok (.iaload, 1)) ∧ (decode prog_9_method_36_code 31 = .ok (.if_icmp .ge 22, 3)) ∧ (decode prog_9_method_36_code 53 = .ok (.iconst (-1), 1)) := by decide +kernel
theorem d_MO_stateAt_14 : decode prog_9_method_36_code 14 = .ok (.iconst 1, 1) := gd_MO_stateAt_14.1
theorem d_MO_stateAt_15 : decode prog_9_method_36_code 15 = .ok (.invokestatic 135, 3) := gd_MO_stateAt_14.2.1
theorem d_MO_stateAt_18 : decode prog_9_method_36_code 18 = .ok (.ifCond .ne 6, 3) := gd_MO_stateAt_14.2.2.1
theorem d_MO_stateAt_24 : decode prog_9_method_36_code 24 = .ok (.iload_n 2, 1) := gd_MO_stateAt_14.2.2.2.1
theorem d_MO_stateAt_25 : decode prog_9_method_36_code 25 = .ok (.aload_n 0, 1) := gd_MO_stateAt_14.2.2.2.2.1
theorem d_MO_stateAt_26 : decode prog_9_method_36_code 26 = .ok (.getfield 57, 3) := gd_MO_stateAt_14.2.2.2.2.2.1
theorem d_MO_stateAt_29 : decode prog_9_method_36_code 29 = .ok (.iload_n 1, 1) := gd_MO_stateAt_14.2.2.2.2.2.2.1
theorem d_MO_stateAt_30 : decode prog_9_method_36_code 30 = .ok (.iaload, 1) := gd_MO_stateAt_14.2.2.2.2.2.2.2.1
theorem d_MO_stateAt_31 : decode prog_9_method_36_code 31 = .ok (.if_icmp .ge 22, 3) := gd_MO_stateAt_14.2.2.2.2.2.2.2.2.1
theorem d_MO_stateAt_53 : decode prog_9_method_36_code 53 = .ok (.iconst (-1), 1) := gd_MO_stateAt_14.2.2.2.2.2.2.2.2.2
theorem gd_MO_stateAt_54 : (decode prog_9_method_36_code 54 = .ok (.ireturn, 1)) ∧ (decode prog_9_method_36_code 34 = .ok (.aload_n 0, 1)) ∧ (decode prog_9_method_36_code 35 = .ok (.getfield 54, 3)) ∧ (decode prog_9_method_36_code 38 = .ok (.sipush 128, 3)) ∧ (decode prog_9_method_36_code 41 = .ok (.iload_n 1, 1)) ∧ (decode prog_9_method_36_code 42 = .ok (.imul, 1)) ∧ (decode prog_9_method_36_code 43 = .ok (.iconst 2, 1)) ∧ (decode prog_9_method_36_code 44 = .ok (.iload_n 2, 1)) ∧ (decode prog_9_method_36_code 45 = .ok (.imul, 1)) ∧ (decode prog_9_method_36_code 46 = .ok (.iadd, 1)) := by decide +kernel
theorem d_MO_stateAt_54 : decode prog_9_method_36_code 54 = .ok (.ireturn, 1) := gd_MO_stateAt_54.1
theorem d_MO_stateAt_34 : decode prog_9_method_36_code 34 = .ok (.aload_n 0, 1) := gd_MO_stateAt_54.2.1
theorem d_MO_stateAt_35 : decode prog_9_method_36_code 35 = .ok (.getfield 54, 3) := gd_MO_stateAt_54.2.2.1
theorem d_MO_stateAt_38 : decode prog_9_method_36_code 38 = .ok (.sipush 128, 3) := gd_MO_stateAt_54.2.2.2.1
theorem d_MO_stateAt_41 : decode prog_9_method_36_code 41 = .ok (.iload_n 1, 1) := gd_MO_stateAt_54.2.2.2.2.1
theorem d_MO_stateAt_42 : decode prog_9_method_36_code 42 = .ok (.imul, 1) := gd_MO_stateAt_54.2.2.2.2.2.1
theorem d_MO_stateAt_43 : decode prog_9_method_36_code 43 = .ok (.iconst 2, 1) := gd_MO_stateAt_54.2.2.2.2.2.2.1
theorem d_MO_stateAt_44 : decode prog_9_method_36_code 44 = .ok (.iload_n 2, 1) := gd_MO_stateAt_54.2.2.2.2.2.2.2.1
theorem d_MO_stateAt_45 : decode prog_9_method_36_code 45 = .ok (.imul, 1) := gd_MO_stateAt_54.2.2.2.2.2.2.2.2.1
theorem d_MO_stateAt_46 : decode prog_9_method_36_code 46 = .ok (.iadd, 1) := gd_MO_stateAt_54.2.2.2.2.2.2.2.2.2
theorem gd_MO_stateAt_47 : (decode prog_9_method_36_code 47 = .ok (.iload_n 3, 1)) ∧ (decode prog_9_method_36_code 48 = .ok (.iadd, 1)) ∧ (decode prog_9_method_36_code 49 = .ok (.iaload, 1)) ∧ (decode prog_9_method_36_code 50 = .ok (.goto 4, 3)) := by decide +kernel
theorem d_MO_stateAt_47 : decode prog_9_method_36_code 47 = .ok (.iload_n 3, 1) := gd_MO_stateAt_47.1
theorem d_MO_stateAt_48 : decode prog_9_method_36_code 48 = .ok (.iadd, 1) := gd_MO_stateAt_47.2.1
theorem d_MO_stateAt_49 : decode prog_9_method_36_code 49 = .ok (.iaload, 1) := gd_MO_stateAt_47.2.2.1
theorem d_MO_stateAt_50 : decode prog_9_method_36_code 50 = .ok (.goto 4, 3) := gd_MO_stateAt_47.2.2.2
theorem gd_MO_wealthOf_0 : (decode prog_9_method_37_code 0 = .ok (.aload_n 0, 1)) ∧ (decode prog_9_method_37_code 1 = .ok (.getfield 23, 3)) ∧ (decode prog_9_method_37_code 4 = .ok (.iload_n 1, 1)) ∧ (decode prog_9_method_37_code 5 = .ok (.iaload, 1)) ∧ (decode prog_9_method_37_code 6 = .ok (.istore_n 2, 1)) ∧ (decode prog_9_method_37_code 7 = .ok (.iconst 0, 1)) ∧ (decode prog_9_method_37_code 8 = .ok (.istore_n 3, 1)) ∧ (decode prog_9_method_37_code 9 = .ok (.iload_n 3, 1)) ∧ (decode prog_9_method_37_code 10 = .ok (.iconst 2, 1)) ∧ (decode prog_9_method_37_code 11 = .ok (.aload_n 0, 1)) := by decide +kernel
theorem d_MO_wealthOf_0 : decode prog_9_method_37_code 0 = .ok (.aload_n 0, 1) := gd_MO_wealthOf_0.1
theorem d_MO_wealthOf_1 : decode prog_9_method_37_code 1 = .ok (.getfield 23, 3) := gd_MO_wealthOf_0.2.1
theorem d_MO_wealthOf_4 : decode prog_9_method_37_code 4 = .ok (.iload_n 1, 1) := gd_MO_wealthOf_0.2.2.1
theorem d_MO_wealthOf_5 : decode prog_9_method_37_code 5 = .ok (.iaload, 1) := gd_MO_wealthOf_0.2.2.2.1
theorem d_MO_wealthOf_6 : decode prog_9_method_37_code 6 = .ok (.istore_n 2, 1) := gd_MO_wealthOf_0.2.2.2.2.1
theorem d_MO_wealthOf_7 : decode prog_9_method_37_code 7 = .ok (.iconst 0, 1) := gd_MO_wealthOf_0.2.2.2.2.2.1
theorem d_MO_wealthOf_8 : decode prog_9_method_37_code 8 = .ok (.istore_n 3, 1) := gd_MO_wealthOf_0.2.2.2.2.2.2.1
theorem d_MO_wealthOf_9 : decode prog_9_method_37_code 9 = .ok (.iload_n 3, 1) := gd_MO_wealthOf_0.2.2.2.2.2.2.2.1
theorem d_MO_wealthOf_10 : decode prog_9_method_37_code 10 = .ok (.iconst 2, 1) := gd_MO_wealthOf_0.2.2.2.2.2.2.2.2.1
theorem d_MO_wealthOf_11 : decode prog_9_method_37_code 11 = .ok (.aload_n 0, 1) := gd_MO_wealthOf_0.2.2.2.2.2.2.2.2.2
theorem gd_MO_wealthOf_12 : (decode prog_9_method_37_code 12 = .ok (.getfield 139, 3)) ∧ (decode prog_9_method_37_code 15 = .ok (.imul, 1)) ∧ (decode prog_9_method_37_code 16 = .ok (.if_icmp .ge 39, 3)) ∧ (decode prog_9_method_37_code 55 = .ok (.iload_n 2, 1)) ∧ (decode prog_9_method_37_code 56 = .ok (.ireturn, 1)) ∧ (decode prog_9_method_37_code 19 = .ok (.iload_n 2, 1)) ∧ (decode prog_9_method_37_code 20 = .ok (.aload_n 0, 1)) ∧ (decode prog_9_method_37_code 21 = .ok (.getfield 33, 3)) ∧ (decode prog_9_method_37_code 24 = .ok (.iload_n 3, 1)) ∧ (decode prog_9_method_37_code 25 = .ok (.iaload, 1)) := by decide +kernel
theorem d_MO_wealthOf_12 : decode prog_9_method_37_code 12 = .ok (.getfield 139, 3) := gd_MO_wealthOf_12.1
theorem d_MO_wealthOf_15 : decode prog_9_method_37_code 15 = .ok (.imul, 1) := gd_MO_wealthOf_12.2.1
theorem d_MO_wealthOf_16 : decode prog_9_method_37_code 16 = .ok (.if_icmp .ge 39, 3) := gd_MO_wealthOf_12.2.2.1
theorem d_MO_wealthOf_55 : decode prog_9_method_37_code 55 = .ok (.iload_n 2, 1) := gd_MO_wealthOf_12.2.2.2.1
theorem d_MO_wealthOf_56 : decode prog_9_method_37_code 56 = .ok (.ireturn, 1) := gd_MO_wealthOf_12.2.2.2.2.1
theorem d_MO_wealthOf_19 : decode prog_9_method_37_code 19 = .ok (.iload_n 2, 1) := gd_MO_wealthOf_12.2.2.2.2.2.1
theorem d_MO_wealthOf_20 : decode prog_9_method_37_code 20 = .ok (.aload_n 0, 1) := gd_MO_wealthOf_12.2.2.2.2.2.2.1
theorem d_MO_wealthOf_21 : decode prog_9_method_37_code 21 = .ok (.getfield 33, 3) := gd_MO_wealthOf_12.2.2.2.2.2.2.2.1
theorem d_MO_wealthOf_24 : decode prog_9_method_37_code 24 = .ok (.iload_n 3, 1) := gd_MO_wealthOf_12.2.2.2.2.2.2.2.2.1
theorem d_MO_wealthOf_25 : decode prog_9_method_37_code 25 = .ok (.iaload, 1) := gd_MO_wealthOf_12.2.2.2.2.2.2.2.2.2
theorem gd_MO_wealthOf_26 : (decode prog_9_method_37_code 26 = .ok (.iload_n 1, 1)) ∧ (decode prog_9_method_37_code 27 = .ok (.if_icmp .ne 19, 3)) ∧ (decode prog_9_method_37_code 46 = .ok (.iconst 0, 1)) ∧ (decode prog_9_method_37_code 47 = .ok (.iadd, 1)) ∧ (decode prog_9_method_37_code 48 = .ok (.istore_n 2, 1)) ∧ (decode prog_9_method_37_code 49 = .ok (.iinc 3 1, 3)) ∧ (decode prog_9_method_37_code 52 = .ok (.goto (-43), 3)) ∧ (decode prog_9_method_37_code 30 = .ok (.aload_n 0, 1)) ∧ (decode prog_9_method_37_code 31 = .ok (.getfield 36, 3)) ∧ (decode prog_9_method_37_code 34 = .ok (.iload_n 3, 1)) := by decide +kernel
theorem d_MO_wealthOf_26 : decode prog_9_method_37_code 26 = .ok (.iload_n 1, 1) := gd_MO_wealthOf_26.1
theorem d_MO_wealthOf_27 : decode prog_9_method_37_code 27 = .ok (.if_icmp .ne 19, 3) := gd_MO_wealthOf_26.2.1
theorem d_MO_wealthOf_46 : decode prog_9_method_37_code 46 = .ok (.iconst 0, 1) := gd_MO_wealthOf_26.2.2.1
theorem d_MO_wealthOf_47 : decode prog_9_method_37_code 47 = .ok (.iadd, 1) := gd_MO_wealthOf_26.2.2.2.1
theorem d_MO_wealthOf_48 : decode prog_9_method_37_code 48 = .ok (.istore_n 2, 1) := gd_MO_wealthOf_26.2.2.2.2.1
theorem d_MO_wealthOf_49 : decode prog_9_method_37_code 49 = .ok (.iinc 3 1, 3) := gd_MO_wealthOf_26.2.2.2.2.2.1
theorem d_MO_wealthOf_52 : decode prog_9_method_37_code 52 = .ok (.goto (-43), 3) := gd_MO_wealthOf_26.2.2.2.2.2.2.1
theorem d_MO_wealthOf_30 : decode prog_9_method_37_code 30 = .ok (.aload_n 0, 1) := gd_MO_wealthOf_26.2.2.2.2.2.2.2.1
theorem d_MO_wealthOf_31 : decode prog_9_method_37_code 31 = .ok (.getfield 36, 3) := gd_MO_wealthOf_26.2.2.2.2.2.2.2.2.1
theorem d_MO_wealthOf_34 : decode prog_9_method_37_code 34 = .ok (.iload_n 3, 1) := gd_MO_wealthOf_26.2.2.2.2.2.2.2.2.2
theorem gd_MO_wealthOf_35 : (decode prog_9_method_37_code 35 = .ok (.iaload, 1)) ∧ (decode prog_9_method_37_code 36 = .ok (.aload_n 0, 1)) ∧ (decode prog_9_method_37_code 37 = .ok (.getfield 39, 3)) ∧ (decode prog_9_method_37_code 40 = .ok (.iload_n 3, 1)) ∧ (decode prog_9_method_37_code 41 = .ok (.iaload, 1)) ∧ (decode prog_9_method_37_code 42 = .ok (.iadd, 1)) ∧ (decode prog_9_method_37_code 43 = .ok (.goto 4, 3)) := by decide +kernel
theorem d_MO_wealthOf_35 : decode prog_9_method_37_code 35 = .ok (.iaload, 1) := gd_MO_wealthOf_35.1
theorem d_MO_wealthOf_36 : decode prog_9_method_37_code 36 = .ok (.aload_n 0, 1) := gd_MO_wealthOf_35.2.1
theorem d_MO_wealthOf_37 : decode prog_9_method_37_code 37 = .ok (.getfield 39, 3) := gd_MO_wealthOf_35.2.2.1
theorem d_MO_wealthOf_40 : decode prog_9_method_37_code 40 = .ok (.iload_n 3, 1) := gd_MO_wealthOf_35.2.2.2.1
theorem d_MO_wealthOf_41 : decode prog_9_method_37_code 41 = .ok (.iaload, 1) := gd_MO_wealthOf_35.2.2.2.2.1
theorem d_MO_wealthOf_42 : decode prog_9_method_37_code 42 = .ok (.iadd, 1) := gd_MO_wealthOf_35.2.2.2.2.2.1
theorem d_MO_wealthOf_43 : decode prog_9_method_37_code 43 = .ok (.goto 4, 3) := gd_MO_wealthOf_35.2.2.2.2.2.2
theorem gd_MO_wealth_0 : (decode prog_9_method_38_code 0 = .ok (.aload_n 0, 1)) ∧ (decode prog_9_method_38_code 1 = .ok (.iload_n 1, 1)) ∧ (decode prog_9_method_38_code 2 = .ok (.invokevirtual 155, 3)) ∧ (decode prog_9_method_38_code 5 = .ok (.ifCond .eq 11, 3)) ∧ (decode prog_9_method_38_code 16 = .ok (.bipush (-2), 2)) ∧ (decode prog_9_method_38_code 18 = .ok (.ireturn, 1)) ∧ (decode prog_9_method_38_code 8 = .ok (.aload_n 0, 1)) ∧ (decode prog_9_method_38_code 9 = .ok (.iload_n 1, 1)) ∧ (decode prog_9_method_38_code 10 = .ok (.invokevirtual 216, 3)) ∧ (decode prog_9_method_38_code 13 = .ok (.goto 5, 3)) := by decide +kernel
theorem d_MO_wealth_0 : decode prog_9_method_38_code 0 = .ok (.aload_n 0, 1) := gd_MO_wealth_0.1
theorem d_MO_wealth_1 : decode prog_9_method_38_code 1 = .ok (.iload_n 1, 1) := gd_MO_wealth_0.2.1
theorem d_MO_wealth_2 : decode prog_9_method_38_code 2 = .ok (.invokevirtual 155, 3) := gd_MO_wealth_0.2.2.1
theorem d_MO_wealth_5 : decode prog_9_method_38_code 5 = .ok (.ifCond .eq 11, 3) := gd_MO_wealth_0.2.2.2.1
theorem d_MO_wealth_16 : decode prog_9_method_38_code 16 = .ok (.bipush (-2), 2) := gd_MO_wealth_0.2.2.2.2.1
theorem d_MO_wealth_18 : decode prog_9_method_38_code 18 = .ok (.ireturn, 1) := gd_MO_wealth_0.2.2.2.2.2.1
theorem d_MO_wealth_8 : decode prog_9_method_38_code 8 = .ok (.aload_n 0, 1) := gd_MO_wealth_0.2.2.2.2.2.2.1
theorem d_MO_wealth_9 : decode prog_9_method_38_code 9 = .ok (.iload_n 1, 1) := gd_MO_wealth_0.2.2.2.2.2.2.2.1
theorem d_MO_wealth_10 : decode prog_9_method_38_code 10 = .ok (.invokevirtual 216, 3) := gd_MO_wealth_0.2.2.2.2.2.2.2.2.1
theorem d_MO_wealth_13 : decode prog_9_method_38_code 13 = .ok (.goto 5, 3) := gd_MO_wealth_0.2.2.2.2.2.2.2.2.2
theorem gd_MO_promiseAt_0 : (decode prog_9_method_27_code 0 = .ok (.iload_n 1, 1)) ∧ (decode prog_9_method_27_code 1 = .ok (.iconst 0, 1)) ∧ (decode prog_9_method_27_code 2 = .ok (.aload_n 0, 1)) ∧ (decode prog_9_method_27_code 3 = .ok (.getfield 145, 3)) ∧ (decode prog_9_method_27_code 6 = .ok (.iconst 1, 1)) ∧ (decode prog_9_method_27_code 7 = .ok (.isub, 1)) ∧ (decode prog_9_method_27_code 8 = .ok (.invokestatic 135, 3)) ∧ (decode prog_9_method_27_code 11 = .ok (.ifCond .ne 6, 3)) ∧ (decode prog_9_method_27_code 17 = .ok (.iload_n 2, 1)) ∧ (decode prog_9_method_27_code 18 = .ok (.tableswitch 141 0 6 #[42, 88, 95, 105, 112, 119, 134], 42)) := by decide +kernel
theorem d_MO_promiseAt_0 : decode prog_9_method_27_code 0 = .ok (.iload_n 1, 1) := gd_MO_promiseAt_0.1
theorem d_MO_promiseAt_1 : decode prog_9_method_27_code 1 = .ok (.iconst 0, 1) := gd_MO_promiseAt_0.2.1
theorem d_MO_promiseAt_2 : decode prog_9_method_27_code 2 = .ok (.aload_n 0, 1) := gd_MO_promiseAt_0.2.2.1
theorem d_MO_promiseAt_3 : decode prog_9_method_27_code 3 = .ok (.getfield 145, 3) := gd_MO_promiseAt_0.2.2.2.1
theorem d_MO_promiseAt_6 : decode prog_9_method_27_code 6 = .ok (.iconst 1, 1) := gd_MO_promiseAt_0.2.2.2.2.1
theorem d_MO_promiseAt_7 : decode prog_9_method_27_code 7 = .ok (.isub, 1) := gd_MO_promiseAt_0.2.2.2.2.2.1
theorem d_MO_promiseAt_8 : decode prog_9_method_27_code 8 = .ok (.invokestatic 135, 3) := gd_MO_promiseAt_0.2.2.2.2.2.2.1
theorem d_MO_promiseAt_11 : decode prog_9_method_27_code 11 = .ok (.ifCond .ne 6, 3) := gd_MO_promiseAt_0.2.2.2.2.2.2.2.1
theorem d_MO_promiseAt_17 : decode prog_9_method_27_code 17 = .ok (.iload_n 2, 1) := gd_MO_promiseAt_0.2.2.2.2.2.2.2.2.1
theorem d_MO_promiseAt_18 : decode prog_9_method_27_code 18 = .ok (.tableswitch 141 0 6 #[42, 88, 95, 105, 112, 119, 134], 42) := gd_MO_promiseAt_0.2.2.2.2.2.2.2.2.2
theorem gd_MO_promiseAt_60 : (decode prog_9_method_27_code 60 = .ok (.aload_n 0, 1)) ∧ (decode prog_9_method_27_code 61 = .ok (.iload_n 1, 1)) ∧ (decode prog_9_method_27_code 62 = .ok (.invokevirtual 200, 3)) ∧ (decode prog_9_method_27_code 65 = .ok (.ifCond .eq 7, 3)) ∧ (decode prog_9_method_27_code 72 = .ok (.aload_n 0, 1)) ∧ (decode prog_9_method_27_code 73 = .ok (.getfield 75, 3)) ∧ (decode prog_9_method_27_code 76 = .ok (.iload_n 1, 1)) ∧ (decode prog_9_method_27_code 77 = .ok (.iaload, 1)) ∧ (decode prog_9_method_27_code 78 = .ok (.aload_n 0, 1)) ∧ (decode prog_9_method_27_code 79 = .ok (.getfield 72, 3)) := by decide +kernel
theorem d_MO_promiseAt_60 : decode prog_9_method_27_code 60 = .ok (.aload_n 0, 1) := gd_MO_promiseAt_60.1
theorem d_MO_promiseAt_61 : decode prog_9_method_27_code 61 = .ok (.iload_n 1, 1) := gd_MO_promiseAt_60.2.1
theorem d_MO_promiseAt_62 : decode prog_9_method_27_code 62 = .ok (.invokevirtual 200, 3) := gd_MO_promiseAt_60.2.2.1
theorem d_MO_promiseAt_65 : decode prog_9_method_27_code 65 = .ok (.ifCond .eq 7, 3) := gd_MO_promiseAt_60.2.2.2.1
theorem d_MO_promiseAt_72 : decode prog_9_method_27_code 72 = .ok (.aload_n 0, 1) := gd_MO_promiseAt_60.2.2.2.2.1
theorem d_MO_promiseAt_73 : decode prog_9_method_27_code 73 = .ok (.getfield 75, 3) := gd_MO_promiseAt_60.2.2.2.2.2.1
theorem d_MO_promiseAt_76 : decode prog_9_method_27_code 76 = .ok (.iload_n 1, 1) := gd_MO_promiseAt_60.2.2.2.2.2.2.1
theorem d_MO_promiseAt_77 : decode prog_9_method_27_code 77 = .ok (.iaload, 1) := gd_MO_promiseAt_60.2.2.2.2.2.2.2.1
theorem d_MO_promiseAt_78 : decode prog_9_method_27_code 78 = .ok (.aload_n 0, 1) := gd_MO_promiseAt_60.2.2.2.2.2.2.2.2.1
theorem d_MO_promiseAt_79 : decode prog_9_method_27_code 79 = .ok (.getfield 72, 3) := gd_MO_promiseAt_60.2.2.2.2.2.2.2.2.2
theorem gd_MO_promiseAt_82 : (decode prog_9_method_27_code 82 = .ok (.iload_n 1, 1)) ∧ (decode prog_9_method_27_code 83 = .ok (.iaload, 1)) ∧ (decode prog_9_method_27_code 84 = .ok (.if_icmp .ne 7, 3)) ∧ (decode prog_9_method_27_code 91 = .ok (.aload_n 0, 1)) ∧ (decode prog_9_method_27_code 92 = .ok (.getfield 75, 3)) ∧ (decode prog_9_method_27_code 95 = .ok (.iload_n 1, 1)) ∧ (decode prog_9_method_27_code 96 = .ok (.iaload, 1)) ∧ (decode prog_9_method_27_code 97 = .ok (.ifCond .ne 7, 3)) ∧ (decode prog_9_method_27_code 104 = .ok (.iconst 3, 1)) ∧ (decode prog_9_method_27_code 105 = .ok (.ireturn, 1)) := by decide +kernel
theorem d_MO_promiseAt_82 : decode prog_9_method_27_code 82 = .ok (.iload_n 1, 1) := gd_MO_promiseAt_82.1
theorem d_MO_promiseAt_83 : decode prog_9_method_27_code 83 = .ok (.iaload, 1) := gd_MO_promiseAt_82.2.1
theorem d_MO_promiseAt_84 : decode prog_9_method_27_code 84 = .ok (.if_icmp .ne 7, 3) := gd_MO_promiseAt_82.2.2.1
theorem d_MO_promiseAt_91 : decode prog_9_method_27_code 91 = .ok (.aload_n 0, 1) := gd_MO_promiseAt_82.2.2.2.1
theorem d_MO_promiseAt_92 : decode prog_9_method_27_code 92 = .ok (.getfield 75, 3) := gd_MO_promiseAt_82.2.2.2.2.1
theorem d_MO_promiseAt_95 : decode prog_9_method_27_code 95 = .ok (.iload_n 1, 1) := gd_MO_promiseAt_82.2.2.2.2.2.1
theorem d_MO_promiseAt_96 : decode prog_9_method_27_code 96 = .ok (.iaload, 1) := gd_MO_promiseAt_82.2.2.2.2.2.2.1
theorem d_MO_promiseAt_97 : decode prog_9_method_27_code 97 = .ok (.ifCond .ne 7, 3) := gd_MO_promiseAt_82.2.2.2.2.2.2.2.1
theorem d_MO_promiseAt_104 : decode prog_9_method_27_code 104 = .ok (.iconst 3, 1) := gd_MO_promiseAt_82.2.2.2.2.2.2.2.2.1
theorem d_MO_promiseAt_105 : decode prog_9_method_27_code 105 = .ok (.ireturn, 1) := gd_MO_promiseAt_82.2.2.2.2.2.2.2.2.2
theorem gd_MO_promiseAt_100 : (decode prog_9_method_27_code 100 = .ok (.iconst 2, 1)) ∧ (decode prog_9_method_27_code 101 = .ok (.goto 4, 3)) ∧ (decode prog_9_method_27_code 87 = .ok (.iconst 1, 1)) ∧ (decode prog_9_method_27_code 88 = .ok (.goto 17, 3)) ∧ (decode prog_9_method_27_code 68 = .ok (.iconst 0, 1)) ∧ (decode prog_9_method_27_code 69 = .ok (.goto 36, 3)) ∧ (decode prog_9_method_27_code 106 = .ok (.aload_n 0, 1)) ∧ (decode prog_9_method_27_code 107 = .ok (.getfield 66, 3)) ∧ (decode prog_9_method_27_code 110 = .ok (.iload_n 1, 1)) ∧ (decode prog_9_method_27_code 111 = .ok (.iaload, 1)) := by decide +kernel
theorem d_MO_promiseAt_100 : decode prog_9_method_27_code 100 = .ok (.iconst 2, 1) := gd_MO_promiseAt_100.1
theorem d_MO_promiseAt_101 : decode prog_9_method_27_code 101 = .ok (.goto 4, 3) := gd_MO_promiseAt_100.2.1
theorem d_MO_promiseAt_87 : decode prog_9_method_27_code 87 = .ok (.iconst 1, 1) := gd_MO_promiseAt_100.2.2.1
theorem d_MO_promiseAt_88 : decode prog_9_method_27_code 88 = .ok (.goto 17, 3) := gd_MO_promiseAt_100.2.2.2.1
theorem d_MO_promiseAt_68 : decode prog_9_method_27_code 68 = .ok (.iconst 0, 1) := gd_MO_promiseAt_100.2.2.2.2.1
theorem d_MO_promiseAt_69 : decode prog_9_method_27_code 69 = .ok (.goto 36, 3) := gd_MO_promiseAt_100.2.2.2.2.2.1
theorem d_MO_promiseAt_106 : decode prog_9_method_27_code 106 = .ok (.aload_n 0, 1) := gd_MO_promiseAt_100.2.2.2.2.2.2.1
theorem d_MO_promiseAt_107 : decode prog_9_method_27_code 107 = .ok (.getfield 66, 3) := gd_MO_promiseAt_100.2.2.2.2.2.2.2.1
theorem d_MO_promiseAt_110 : decode prog_9_method_27_code 110 = .ok (.iload_n 1, 1) := gd_MO_promiseAt_100.2.2.2.2.2.2.2.2.1
theorem d_MO_promiseAt_111 : decode prog_9_method_27_code 111 = .ok (.iaload, 1) := gd_MO_promiseAt_100.2.2.2.2.2.2.2.2.2
theorem gd_MO_promiseAt_112 : (decode prog_9_method_27_code 112 = .ok (.ireturn, 1)) ∧ (decode prog_9_method_27_code 113 = .ok (.aload_n 0, 1)) ∧ (decode prog_9_method_27_code 114 = .ok (.getfield 93, 3)) ∧ (decode prog_9_method_27_code 117 = .ok (.bipush 8, 2)) ∧ (decode prog_9_method_27_code 119 = .ok (.iload_n 1, 1)) ∧ (decode prog_9_method_27_code 120 = .ok (.imul, 1)) ∧ (decode prog_9_method_27_code 121 = .ok (.iaload, 1)) ∧ (decode prog_9_method_27_code 122 = .ok (.ireturn, 1)) ∧ (decode prog_9_method_27_code 123 = .ok (.aload_n 0, 1)) ∧ (decode prog_9_method_27_code 124 = .ok (.getfield 72, 3)) := by decide +kernel
theorem d_MO_promiseAt_112 : decode prog_9_method_27_code 112 = .ok (.ireturn, 1) := gd_MO_promiseAt_112.1
theorem d_MO_promiseAt_113 : decode prog_9_method_27_code 113 = .ok (.aload_n 0, 1) := gd_MO_promiseAt_112.2.1
theorem d_MO_promiseAt_114 : decode prog_9_method_27_code 114 = .ok (.getfield 93, 3) := gd_MO_promiseAt_112.2.2.1
theorem d_MO_promiseAt_117 : decode prog_9_method_27_code 117 = .ok (.bipush 8, 2) := gd_MO_promiseAt_112.2.2.2.1
theorem d_MO_promiseAt_119 : decode prog_9_method_27_code 119 = .ok (.iload_n 1, 1) := gd_MO_promiseAt_112.2.2.2.2.1
theorem d_MO_promiseAt_120 : decode prog_9_method_27_code 120 = .ok (.imul, 1) := gd_MO_promiseAt_112.2.2.2.2.2.1
theorem d_MO_promiseAt_121 : decode prog_9_method_27_code 121 = .ok (.iaload, 1) := gd_MO_promiseAt_112.2.2.2.2.2.2.1
theorem d_MO_promiseAt_122 : decode prog_9_method_27_code 122 = .ok (.ireturn, 1) := gd_MO_promiseAt_112.2.2.2.2.2.2.2.1
theorem d_MO_promiseAt_123 : decode prog_9_method_27_code 123 = .ok (.aload_n 0, 1) := gd_MO_promiseAt_112.2.2.2.2.2.2.2.2.1
theorem d_MO_promiseAt_124 : decode prog_9_method_27_code 124 = .ok (.getfield 72, 3) := gd_MO_promiseAt_112.2.2.2.2.2.2.2.2.2
theorem gd_MO_promiseAt_127 : (decode prog_9_method_27_code 127 = .ok (.iload_n 1, 1)) ∧ (decode prog_9_method_27_code 128 = .ok (.iaload, 1)) ∧ (decode prog_9_method_27_code 129 = .ok (.ireturn, 1)) ∧ (decode prog_9_method_27_code 130 = .ok (.aload_n 0, 1)) ∧ (decode prog_9_method_27_code 131 = .ok (.getfield 75, 3)) ∧ (decode prog_9_method_27_code 134 = .ok (.iload_n 1, 1)) ∧ (decode prog_9_method_27_code 135 = .ok (.iaload, 1)) ∧ (decode prog_9_method_27_code 136 = .ok (.ireturn, 1)) ∧ (decode prog_9_method_27_code 137 = .ok (.aload_n 0, 1)) ∧ (decode prog_9_method_27_code 138 = .ok (.getfield 81, 3)) := by decide +kernel
theorem d_MO_promiseAt_127 : decode prog_9_method_27_code 127 = .ok (.iload_n 1, 1) := gd_MO_promiseAt_127.1
theorem d_MO_promiseAt_128 : decode prog_9_method_27_code 128 = .ok (.iaload, 1) := gd_MO_promiseAt_127.2.1
theorem d_MO_promiseAt_129 : decode prog_9_method_27_code 129 = .ok (.ireturn, 1) := gd_MO_promiseAt_127.2.2.1
theorem d_MO_promiseAt_130 : decode prog_9_method_27_code 130 = .ok (.aload_n 0, 1) := gd_MO_promiseAt_127.2.2.2.1
theorem d_MO_promiseAt_131 : decode prog_9_method_27_code 131 = .ok (.getfield 75, 3) := gd_MO_promiseAt_127.2.2.2.2.1
theorem d_MO_promiseAt_134 : decode prog_9_method_27_code 134 = .ok (.iload_n 1, 1) := gd_MO_promiseAt_127.2.2.2.2.2.1
theorem d_MO_promiseAt_135 : decode prog_9_method_27_code 135 = .ok (.iaload, 1) := gd_MO_promiseAt_127.2.2.2.2.2.2.1
theorem d_MO_promiseAt_136 : decode prog_9_method_27_code 136 = .ok (.ireturn, 1) := gd_MO_promiseAt_127.2.2.2.2.2.2.2.1
theorem d_MO_promiseAt_137 : decode prog_9_method_27_code 137 = .ok (.aload_n 0, 1) := gd_MO_promiseAt_127.2.2.2.2.2.2.2.2.1
theorem d_MO_promiseAt_138 : decode prog_9_method_27_code 138 = .ok (.getfield 81, 3) := gd_MO_promiseAt_127.2.2.2.2.2.2.2.2.2
theorem gd_MO_promiseAt_141 : (decode prog_9_method_27_code 141 = .ok (.iload_n 1, 1)) ∧ (decode prog_9_method_27_code 142 = .ok (.baload, 1)) ∧ (decode prog_9_method_27_code 143 = .ok (.ifCond .eq 7, 3)) ∧ (decode prog_9_method_27_code 150 = .ok (.iconst 0, 1)) ∧ (decode prog_9_method_27_code 151 = .ok (.ireturn, 1)) ∧ (decode prog_9_method_27_code 146 = .ok (.iconst 1, 1)) ∧ (decode prog_9_method_27_code 147 = .ok (.goto 4, 3)) ∧ (decode prog_9_method_27_code 152 = .ok (.aload_n 0, 1)) ∧ (decode prog_9_method_27_code 153 = .ok (.getfield 69, 3)) ∧ (decode prog_9_method_27_code 156 = .ok (.iload_n 1, 1)) := by decide +kernel
theorem d_MO_promiseAt_141 : decode prog_9_method_27_code 141 = .ok (.iload_n 1, 1) := gd_MO_promiseAt_141.1
theorem d_MO_promiseAt_142 : decode prog_9_method_27_code 142 = .ok (.baload, 1) := gd_MO_promiseAt_141.2.1
theorem d_MO_promiseAt_143 : decode prog_9_method_27_code 143 = .ok (.ifCond .eq 7, 3) := gd_MO_promiseAt_141.2.2.1
theorem d_MO_promiseAt_150 : decode prog_9_method_27_code 150 = .ok (.iconst 0, 1) := gd_MO_promiseAt_141.2.2.2.1
theorem d_MO_promiseAt_151 : decode prog_9_method_27_code 151 = .ok (.ireturn, 1) := gd_MO_promiseAt_141.2.2.2.2.1
theorem d_MO_promiseAt_146 : decode prog_9_method_27_code 146 = .ok (.iconst 1, 1) := gd_MO_promiseAt_141.2.2.2.2.2.1
theorem d_MO_promiseAt_147 : decode prog_9_method_27_code 147 = .ok (.goto 4, 3) := gd_MO_promiseAt_141.2.2.2.2.2.2.1
theorem d_MO_promiseAt_152 : decode prog_9_method_27_code 152 = .ok (.aload_n 0, 1) := gd_MO_promiseAt_141.2.2.2.2.2.2.2.1
theorem d_MO_promiseAt_153 : decode prog_9_method_27_code 153 = .ok (.getfield 69, 3) := gd_MO_promiseAt_141.2.2.2.2.2.2.2.2.1
theorem d_MO_promiseAt_156 : decode prog_9_method_27_code 156 = .ok (.iload_n 1, 1) := gd_MO_promiseAt_141.2.2.2.2.2.2.2.2.2
theorem gd_MO_promiseAt_157 : (decode prog_9_method_27_code 157 = .ok (.iaload, 1)) ∧ (decode prog_9_method_27_code 158 = .ok (.ireturn, 1)) ∧ (decode prog_9_method_27_code 159 = .ok (.bipush (-2), 2)) ∧ (decode prog_9_method_27_code 161 = .ok (.ireturn, 1)) ∧ (decode prog_9_method_27_code 14 = .ok (.bipush (-2), 2)) ∧ (decode prog_9_method_27_code 16 = .ok (.ireturn, 1)) := by decide +kernel
theorem d_MO_promiseAt_157 : decode prog_9_method_27_code 157 = .ok (.iaload, 1) := gd_MO_promiseAt_157.1
theorem d_MO_promiseAt_158 : decode prog_9_method_27_code 158 = .ok (.ireturn, 1) := gd_MO_promiseAt_157.2.1
theorem d_MO_promiseAt_159 : decode prog_9_method_27_code 159 = .ok (.bipush (-2), 2) := gd_MO_promiseAt_157.2.2.1
theorem d_MO_promiseAt_161 : decode prog_9_method_27_code 161 = .ok (.ireturn, 1) := gd_MO_promiseAt_157.2.2.2.1
theorem d_MO_promiseAt_14 : decode prog_9_method_27_code 14 = .ok (.bipush (-2), 2) := gd_MO_promiseAt_157.2.2.2.2.1
theorem d_MO_promiseAt_16 : decode prog_9_method_27_code 16 = .ok (.ireturn, 1) := gd_MO_promiseAt_157.2.2.2.2.2
theorem gd_MO_count_0 : (decode prog_9_method_51_code 0 = .ok (.iconst 0, 1)) ∧ (decode prog_9_method_51_code 1 = .ok (.istore_n 2, 1)) ∧ (decode prog_9_method_51_code 2 = .ok (.iload_n 1, 1)) ∧ (decode prog_9_method_51_code 3 = .ok (.tableswitch 151 0 7 #[45, 50, 55, 60, 101, 106, 111, 116], 45)) ∧ (decode prog_9_method_51_code 48 = .ok (.aload_n 0, 1)) ∧ (decode prog_9_method_51_code 49 = .ok (.getfield 7, 3)) ∧ (decode prog_9_method_51_code 52 = .ok (.ireturn, 1)) ∧ (decode prog_9_method_51_code 53 = .ok (.aload_n 0, 1)) ∧ (decode prog_9_method_51_code 54 = .ok (.getfield 139, 3)) ∧ (decode prog_9_method_51_code 57 = .ok (.ireturn, 1)) := by decide +kernel
theorem d_MO_count_0 : decode prog_9_method_51_code 0 = .ok (.iconst 0, 1) := gd_MO_count_0.1
theorem d_MO_count_1 : decode prog_9_method_51_code 1 = .ok (.istore_n 2, 1) := gd_MO_count_0.2.1
theorem d_MO_count_2 : decode prog_9_method_51_code 2 = .ok (.iload_n 1, 1) := gd_MO_count_0.2.2.1
theorem d_MO_count_3 : decode prog_9_method_51_code 3 = .ok (.tableswitch 151 0 7 #[45, 50, 55, 60, 101, 106, 111, 116], 45) := gd_MO_count_0.2.2.2.1
theorem d_MO_count_48 : decode prog_9_method_51_code 48 = .ok (.aload_n 0, 1) := gd_MO_count_0.2.2.2.2.1
theorem d_MO_count_49 : decode prog_9_method_51_code 49 = .ok (.getfield 7, 3) := gd_MO_count_0.2.2.2.2.2.1
theorem d_MO_count_52 : decode prog_9_method_51_code 52 = .ok (.ireturn, 1) := gd_MO_count_0.2.2.2.2.2.2.1
theorem d_MO_count_53 : decode prog_9_method_51_code 53 = .ok (.aload_n 0, 1) := gd_MO_count_0.2.2.2.2.2.2.2.1
theorem d_MO_count_54 : decode prog_9_method_51_code 54 = .ok (.getfield 139, 3) := gd_MO_count_0.2.2.2.2.2.2.2.2.1
theorem d_MO_count_57 : decode prog_9_method_51_code 57 = .ok (.ireturn, 1) := gd_MO_count_0.2.2.2.2.2.2.2.2.2
theorem gd_MO_count_58 : (decode prog_9_method_51_code 58 = .ok (.aload_n 0, 1)) ∧ (decode prog_9_method_51_code 59 = .ok (.getfield 145, 3)) ∧ (decode prog_9_method_51_code 62 = .ok (.ireturn, 1)) ∧ (decode prog_9_method_51_code 63 = .ok (.iconst 0, 1)) ∧ (decode prog_9_method_51_code 64 = .ok (.istore_n 3, 1)) ∧ (decode prog_9_method_51_code 65 = .ok (.iload_n 3, 1)) ∧ (decode prog_9_method_51_code 66 = .ok (.aload_n 0, 1)) ∧ (decode prog_9_method_51_code 67 = .ok (.getfield 145, 3)) ∧ (decode prog_9_method_51_code 70 = .ok (.if_icmp .ge 32, 3)) ∧ (decode prog_9_method_51_code 102 = .ok (.iload_n 2, 1)) := by decide +kernel
theorem d_MO_count_58 : decode prog_9_method_51_code 58 = .ok (.aload_n 0, 1) := gd_MO_count_58.1
theorem d_MO_count_59 : decode prog_9_method_51_code 59 = .ok (.getfield 145, 3) := gd_MO_count_58.2.1
theorem d_MO_count_62 : decode prog_9_method_51_code 62 = .ok (.ireturn, 1) := gd_MO_count_58.2.2.1
theorem d_MO_count_63 : decode prog_9_method_51_code 63 = .ok (.iconst 0, 1) := gd_MO_count_58.2.2.2.1
theorem d_MO_count_64 : decode prog_9_method_51_code 64 = .ok (.istore_n 3, 1) := gd_MO_count_58.2.2.2.2.1
theorem d_MO_count_65 : decode prog_9_method_51_code 65 = .ok (.iload_n 3, 1) := gd_MO_count_58.2.2.2.2.2.1
theorem d_MO_count_66 : decode prog_9_method_51_code 66 = .ok (.aload_n 0, 1) := gd_MO_count_58.2.2.2.2.2.2.1
theorem d_MO_count_67 : decode prog_9_method_51_code 67 = .ok (.getfield 145, 3) := gd_MO_count_58.2.2.2.2.2.2.2.1
theorem d_MO_count_70 : decode prog_9_method_51_code 70 = .ok (.if_icmp .ge 32, 3) := gd_MO_count_58.2.2.2.2.2.2.2.2.1
theorem d_MO_count_102 : decode prog_9_method_51_code 102 = .ok (.iload_n 2, 1) := gd_MO_count_58.2.2.2.2.2.2.2.2.2
theorem gd_MO_count_103 : (decode prog_9_method_51_code 103 = .ok (.ireturn, 1)) ∧ (decode prog_9_method_51_code 73 = .ok (.iload_n 2, 1)) ∧ (decode prog_9_method_51_code 74 = .ok (.aload_n 0, 1)) ∧ (decode prog_9_method_51_code 75 = .ok (.getfield 72, 3)) ∧ (decode prog_9_method_51_code 78 = .ok (.iload_n 3, 1)) ∧ (decode prog_9_method_51_code 79 = .ok (.iaload, 1)) ∧ (decode prog_9_method_51_code 80 = .ok (.aload_n 0, 1)) ∧ (decode prog_9_method_51_code 81 = .ok (.getfield 75, 3)) ∧ (decode prog_9_method_51_code 84 = .ok (.iload_n 3, 1)) ∧ (decode prog_9_method_51_code 85 = .ok (.iaload, 1)) := by decide +kernel
theorem d_MO_count_103 : decode prog_9_method_51_code 103 = .ok (.ireturn, 1) := gd_MO_count_103.1
theorem d_MO_count_73 : decode prog_9_method_51_code 73 = .ok (.iload_n 2, 1) := gd_MO_count_103.2.1
theorem d_MO_count_74 : decode prog_9_method_51_code 74 = .ok (.aload_n 0, 1) := gd_MO_count_103.2.2.1
theorem d_MO_count_75 : decode prog_9_method_51_code 75 = .ok (.getfield 72, 3) := gd_MO_count_103.2.2.2.1
theorem d_MO_count_78 : decode prog_9_method_51_code 78 = .ok (.iload_n 3, 1) := gd_MO_count_103.2.2.2.2.1
theorem d_MO_count_79 : decode prog_9_method_51_code 79 = .ok (.iaload, 1) := gd_MO_count_103.2.2.2.2.2.1
theorem d_MO_count_80 : decode prog_9_method_51_code 80 = .ok (.aload_n 0, 1) := gd_MO_count_103.2.2.2.2.2.2.1
theorem d_MO_count_81 : decode prog_9_method_51_code 81 = .ok (.getfield 75, 3) := gd_MO_count_103.2.2.2.2.2.2.2.1
theorem d_MO_count_84 : decode prog_9_method_51_code 84 = .ok (.iload_n 3, 1) := gd_MO_count_103.2.2.2.2.2.2.2.2.1
theorem d_MO_count_85 : decode prog_9_method_51_code 85 = .ok (.iaload, 1) := gd_MO_count_103.2.2.2.2.2.2.2.2.2
theorem gd_MO_count_86 : (decode prog_9_method_51_code 86 = .ok (.isub, 1)) ∧ (decode prog_9_method_51_code 87 = .ok (.aload_n 0, 1)) ∧ (decode prog_9_method_51_code 88 = .ok (.getfield 78, 3)) ∧ (decode prog_9_method_51_code 91 = .ok (.iload_n 3, 1)) ∧ (decode prog_9_method_51_code 92 = .ok (.iaload, 1)) ∧ (decode prog_9_method_51_code 93 = .ok (.isub, 1)) ∧ (decode prog_9_method_51_code 94 = .ok (.iadd, 1)) ∧ (decode prog_9_method_51_code 95 = .ok (.istore_n 2, 1)) ∧ (decode prog_9_method_51_code 96 = .ok (.iinc 3 1, 3)) ∧ (decode prog_9_method_51_code 99 = .ok (.goto (-34), 3)) := by decide +kernel
theorem d_MO_count_86 : decode prog_9_method_51_code 86 = .ok (.isub, 1) := gd_MO_count_86.1
theorem d_MO_count_87 : decode prog_9_method_51_code 87 = .ok (.aload_n 0, 1) := gd_MO_count_86.2.1
theorem d_MO_count_88 : decode prog_9_method_51_code 88 = .ok (.getfield 78, 3) := gd_MO_count_86.2.2.1
theorem d_MO_count_91 : decode prog_9_method_51_code 91 = .ok (.iload_n 3, 1) := gd_MO_count_86.2.2.2.1
theorem d_MO_count_92 : decode prog_9_method_51_code 92 = .ok (.iaload, 1) := gd_MO_count_86.2.2.2.2.1
theorem d_MO_count_93 : decode prog_9_method_51_code 93 = .ok (.isub, 1) := gd_MO_count_86.2.2.2.2.2.1
theorem d_MO_count_94 : decode prog_9_method_51_code 94 = .ok (.iadd, 1) := gd_MO_count_86.2.2.2.2.2.2.1
theorem d_MO_count_95 : decode prog_9_method_51_code 95 = .ok (.istore_n 2, 1) := gd_MO_count_86.2.2.2.2.2.2.2.1
theorem d_MO_count_96 : decode prog_9_method_51_code 96 = .ok (.iinc 3 1, 3) := gd_MO_count_86.2.2.2.2.2.2.2.2.1
theorem d_MO_count_99 : decode prog_9_method_51_code 99 = .ok (.goto (-34), 3) := gd_MO_count_86.2.2.2.2.2.2.2.2.2
theorem gd_MO_count_104 : (decode prog_9_method_51_code 104 = .ok (.aload_n 0, 1)) ∧ (decode prog_9_method_51_code 105 = .ok (.getfield 142, 3)) ∧ (decode prog_9_method_51_code 108 = .ok (.ireturn, 1)) ∧ (decode prog_9_method_51_code 109 = .ok (.aload_n 0, 1)) ∧ (decode prog_9_method_51_code 110 = .ok (.getfield 13, 3)) ∧ (decode prog_9_method_51_code 113 = .ok (.ireturn, 1)) ∧ (decode prog_9_method_51_code 114 = .ok (.aload_n 0, 1)) ∧ (decode prog_9_method_51_code 115 = .ok (.getfield 16, 3)) ∧ (decode prog_9_method_51_code 118 = .ok (.ireturn, 1)) ∧ (decode prog_9_method_51_code 119 = .ok (.iconst 0, 1)) := by decide +kernel
theorem d_MO_count_104 : decode prog_9_method_51_code 104 = .ok (.aload_n 0, 1) := gd_MO_count_104.1
theorem d_MO_count_105 : decode prog_9_method_51_code 105 = .ok (.getfield 142, 3) := gd_MO_count_104.2.1
theorem d_MO_count_108 : decode prog_9_method_51_code 108 = .ok (.ireturn, 1) := gd_MO_count_104.2.2.1
theorem d_MO_count_109 : decode prog_9_method_51_code 109 = .ok (.aload_n 0, 1) := gd_MO_count_104.2.2.2.1
theorem d_MO_count_110 : decode prog_9_method_51_code 110 = .ok (.getfield 13, 3) := gd_MO_count_104.2.2.2.2.1
theorem d_MO_count_113 : decode prog_9_method_51_code 113 = .ok (.ireturn, 1) := gd_MO_count_104.2.2.2.2.2.1
theorem d_MO_count_114 : decode prog_9_method_51_code 114 = .ok (.aload_n 0, 1) := gd_MO_count_104.2.2.2.2.2.2.1
theorem d_MO_count_115 : decode prog_9_method_51_code 115 = .ok (.getfield 16, 3) := gd_MO_count_104.2.2.2.2.2.2.2.1
theorem d_MO_count_118 : decode prog_9_method_51_code 118 = .ok (.ireturn, 1) := gd_MO_count_104.2.2.2.2.2.2.2.2.1
theorem d_MO_count_119 : decode prog_9_method_51_code 119 = .ok (.iconst 0, 1) := gd_MO_count_104.2.2.2.2.2.2.2.2.2
theorem gd_MO_count_120 : (decode prog_9_method_51_code 120 = .ok (.istore_n 3, 1)) ∧ (decode prog_9_method_51_code 121 = .ok (.iload_n 3, 1)) ∧ (decode prog_9_method_51_code 122 = .ok (.aload_n 0, 1)) ∧ (decode prog_9_method_51_code 123 = .ok (.getfield 7, 3)) ∧ (decode prog_9_method_51_code 126 = .ok (.if_icmp .ge 26, 3)) ∧ (decode prog_9_method_51_code 152 = .ok (.iload_n 2, 1)) ∧ (decode prog_9_method_51_code 153 = .ok (.ireturn, 1)) ∧ (decode prog_9_method_51_code 129 = .ok (.iload_n 2, 1)) ∧ (decode prog_9_method_51_code 130 = .ok (.aload_n 0, 1)) ∧ (decode prog_9_method_51_code 131 = .ok (.getfield 19, 3)) := by decide +kernel
theorem d_MO_count_120 : decode prog_9_method_51_code 120 = .ok (.istore_n 3, 1) := gd_MO_count_120.1
theorem d_MO_count_121 : decode prog_9_method_51_code 121 = .ok (.iload_n 3, 1) := gd_MO_count_120.2.1
theorem d_MO_count_122 : decode prog_9_method_51_code 122 = .ok (.aload_n 0, 1) := gd_MO_count_120.2.2.1
theorem d_MO_count_123 : decode prog_9_method_51_code 123 = .ok (.getfield 7, 3) := gd_MO_count_120.2.2.2.1
theorem d_MO_count_126 : decode prog_9_method_51_code 126 = .ok (.if_icmp .ge 26, 3) := gd_MO_count_120.2.2.2.2.1
theorem d_MO_count_152 : decode prog_9_method_51_code 152 = .ok (.iload_n 2, 1) := gd_MO_count_120.2.2.2.2.2.1
theorem d_MO_count_153 : decode prog_9_method_51_code 153 = .ok (.ireturn, 1) := gd_MO_count_120.2.2.2.2.2.2.1
theorem d_MO_count_129 : decode prog_9_method_51_code 129 = .ok (.iload_n 2, 1) := gd_MO_count_120.2.2.2.2.2.2.2.1
theorem d_MO_count_130 : decode prog_9_method_51_code 130 = .ok (.aload_n 0, 1) := gd_MO_count_120.2.2.2.2.2.2.2.2.1
theorem d_MO_count_131 : decode prog_9_method_51_code 131 = .ok (.getfield 19, 3) := gd_MO_count_120.2.2.2.2.2.2.2.2.2
theorem gd_MO_count_134 : (decode prog_9_method_51_code 134 = .ok (.iload_n 3, 1)) ∧ (decode prog_9_method_51_code 135 = .ok (.baload, 1)) ∧ (decode prog_9_method_51_code 136 = .ok (.ifCond .eq 7, 3)) ∧ (decode prog_9_method_51_code 143 = .ok (.iconst 0, 1)) ∧ (decode prog_9_method_51_code 144 = .ok (.iadd, 1)) ∧ (decode prog_9_method_51_code 145 = .ok (.istore_n 2, 1)) ∧ (decode prog_9_method_51_code 146 = .ok (.iinc 3 1, 3)) ∧ (decode prog_9_method_51_code 149 = .ok (.goto (-28), 3)) ∧ (decode prog_9_method_51_code 139 = .ok (.iconst 1, 1)) ∧ (decode prog_9_method_51_code 140 = .ok (.goto 4, 3)) := by decide +kernel
theorem d_MO_count_134 : decode prog_9_method_51_code 134 = .ok (.iload_n 3, 1) := gd_MO_count_134.1
theorem d_MO_count_135 : decode prog_9_method_51_code 135 = .ok (.baload, 1) := gd_MO_count_134.2.1
theorem d_MO_count_136 : decode prog_9_method_51_code 136 = .ok (.ifCond .eq 7, 3) := gd_MO_count_134.2.2.1
theorem d_MO_count_143 : decode prog_9_method_51_code 143 = .ok (.iconst 0, 1) := gd_MO_count_134.2.2.2.1
theorem d_MO_count_144 : decode prog_9_method_51_code 144 = .ok (.iadd, 1) := gd_MO_count_134.2.2.2.2.1
theorem d_MO_count_145 : decode prog_9_method_51_code 145 = .ok (.istore_n 2, 1) := gd_MO_count_134.2.2.2.2.2.1
theorem d_MO_count_146 : decode prog_9_method_51_code 146 = .ok (.iinc 3 1, 3) := gd_MO_count_134.2.2.2.2.2.2.1
theorem d_MO_count_149 : decode prog_9_method_51_code 149 = .ok (.goto (-28), 3) := gd_MO_count_134.2.2.2.2.2.2.2.1
theorem d_MO_count_139 : decode prog_9_method_51_code 139 = .ok (.iconst 1, 1) := gd_MO_count_134.2.2.2.2.2.2.2.2.1
theorem d_MO_count_140 : decode prog_9_method_51_code 140 = .ok (.goto 4, 3) := gd_MO_count_134.2.2.2.2.2.2.2.2.2
theorem gd_MO_count_154 : (decode prog_9_method_51_code 154 = .ok (.bipush (-2), 2)) ∧ (decode prog_9_method_51_code 156 = .ok (.ireturn, 1)) := by decide +kernel
theorem d_MO_count_154 : decode prog_9_method_51_code 154 = .ok (.bipush (-2), 2) := gd_MO_count_154.1
theorem d_MO_count_156 : decode prog_9_method_51_code 156 = .ok (.ireturn, 1) := gd_MO_count_154.2
theorem gd_MO_digest_0 : (decode prog_9_method_52_code 0 = .ok (.ldc2_w 254, 3)) ∧ (decode prog_9_method_52_code 3 = .ok (.lstore_n 1, 1)) ∧ (decode prog_9_method_52_code 4 = .ok (.iconst 0, 1)) ∧ (decode prog_9_method_52_code 5 = .ok (.istore_n 3, 1)) ∧ (decode prog_9_method_52_code 6 = .ok (.iload_n 3, 1)) ∧ (decode prog_9_method_52_code 7 = .ok (.bipush 8, 2)) ∧ (decode prog_9_method_52_code 9 = .ok (.if_icmp .ge 22, 3)) ∧ (decode prog_9_method_52_code 31 = .ok (.iconst 0, 1)) ∧ (decode prog_9_method_52_code 32 = .ok (.istore_n 3, 1)) ∧ (decode prog_9_method_52_code 33 = .ok (.iload_n 3, 1)) := by decide +kernel
theorem d_MO_digest_0 : decode prog_9_method_52_code 0 = .ok (.ldc2_w 254, 3) := gd_MO_digest_0.1
theorem d_MO_digest_3 : decode prog_9_method_52_code 3 = .ok (.lstore_n 1, 1) := gd_MO_digest_0.2.1
theorem d_MO_digest_4 : decode prog_9_method_52_code 4 = .ok (.iconst 0, 1) := gd_MO_digest_0.2.2.1
theorem d_MO_digest_5 : decode prog_9_method_52_code 5 = .ok (.istore_n 3, 1) := gd_MO_digest_0.2.2.2.1
theorem d_MO_digest_6 : decode prog_9_method_52_code 6 = .ok (.iload_n 3, 1) := gd_MO_digest_0.2.2.2.2.1
theorem d_MO_digest_7 : decode prog_9_method_52_code 7 = .ok (.bipush 8, 2) := gd_MO_digest_0.2.2.2.2.2.1
theorem d_MO_digest_9 : decode prog_9_method_52_code 9 = .ok (.if_icmp .ge 22, 3) := gd_MO_digest_0.2.2.2.2.2.2.1
theorem d_MO_digest_31 : decode prog_9_method_52_code 31 = .ok (.iconst 0, 1) := gd_MO_digest_0.2.2.2.2.2.2.2.1
theorem d_MO_digest_32 : decode prog_9_method_52_code 32 = .ok (.istore_n 3, 1) := gd_MO_digest_0.2.2.2.2.2.2.2.2.1
theorem d_MO_digest_33 : decode prog_9_method_52_code 33 = .ok (.iload_n 3, 1) := gd_MO_digest_0.2.2.2.2.2.2.2.2.2
theorem gd_MO_digest_34 : (decode prog_9_method_52_code 34 = .ok (.aload_n 0, 1)) ∧ (decode prog_9_method_52_code 35 = .ok (.getfield 7, 3)) ∧ (decode prog_9_method_52_code 38 = .ok (.if_icmp .ge 22, 3)) ∧ (decode prog_9_method_52_code 60 = .ok (.iconst 0, 1)) ∧ (decode prog_9_method_52_code 61 = .ok (.istore_n 3, 1)) ∧ (decode prog_9_method_52_code 62 = .ok (.iload_n 3, 1)) ∧ (decode prog_9_method_52_code 63 = .ok (.aload_n 0, 1)) ∧ (decode prog_9_method_52_code 64 = .ok (.getfield 139, 3)) ∧ (decode prog_9_method_52_code 67 = .ok (.if_icmp .ge 127, 3)) ∧ (decode prog_9_method_52_code 194 = .ok (.iconst 0, 1)) := by decide +kernel
theorem d_MO_digest_34 : decode prog_9_method_52_code 34 = .ok (.aload_n 0, 1) := gd_MO_digest_34.1
theorem d_MO_digest_35 : decode prog_9_method_52_code 35 = .ok (.getfield 7, 3) := gd_MO_digest_34.2.1
theorem d_MO_digest_38 : decode prog_9_method_52_code 38 = .ok (.if_icmp .ge 22, 3) := gd_MO_digest_34.2.2.1
theorem d_MO_digest_60 : decode prog_9_method_52_code 60 = .ok (.iconst 0, 1) := gd_MO_digest_34.2.2.2.1
theorem d_MO_digest_61 : decode prog_9_method_52_code 61 = .ok (.istore_n 3, 1) := gd_MO_digest_34.2.2.2.2.1
theorem d_MO_digest_62 : decode prog_9_method_52_code 62 = .ok (.iload_n 3, 1) := gd_MO_digest_34.2.2.2.2.2.1
theorem d_MO_digest_63 : decode prog_9_method_52_code 63 = .ok (.aload_n 0, 1) := gd_MO_digest_34.2.2.2.2.2.2.1
theorem d_MO_digest_64 : decode prog_9_method_52_code 64 = .ok (.getfield 139, 3) := gd_MO_digest_34.2.2.2.2.2.2.2.1
theorem d_MO_digest_67 : decode prog_9_method_52_code 67 = .ok (.if_icmp .ge 127, 3) := gd_MO_digest_34.2.2.2.2.2.2.2.2.1
theorem d_MO_digest_194 : decode prog_9_method_52_code 194 = .ok (.iconst 0, 1) := gd_MO_digest_34.2.2.2.2.2.2.2.2.2
theorem gd_MO_digest_195 : (decode prog_9_method_52_code 195 = .ok (.istore_n 3, 1)) ∧ (decode prog_9_method_52_code 196 = .ok (.iload_n 3, 1)) ∧ (decode prog_9_method_52_code 197 = .ok (.aload_n 0, 1)) ∧ (decode prog_9_method_52_code 198 = .ok (.getfield 145, 3)) ∧ (decode prog_9_method_52_code 201 = .ok (.if_icmp .ge 40, 3)) ∧ (decode prog_9_method_52_code 241 = .ok (.lload_n 1, 1)) ∧ (decode prog_9_method_52_code 242 = .ok (.lreturn, 1)) ∧ (decode prog_9_method_52_code 204 = .ok (.iconst 0, 1)) ∧ (decode prog_9_method_52_code 205 = .ok (.istore 4, 2)) ∧ (decode prog_9_method_52_code 207 = .ok (.iload 4, 2)) := by decide +kernel
theorem d_MO_digest_195 : decode prog_9_method_52_code 195 = .ok (.istore_n 3, 1) := gd_MO_digest_195.1
theorem d_MO_digest_196 : decode prog_9_method_52_code 196 = .ok (.iload_n 3, 1) := gd_MO_digest_195.2.1
theorem d_MO_digest_197 : decode prog_9_method_52_code 197 = .ok (.aload_n 0, 1) := gd_MO_digest_195.2.2.1
theorem d_MO_digest_198 : decode prog_9_method_52_code 198 = .ok (.getfield 145, 3) := gd_MO_digest_195.2.2.2.1
theorem d_MO_digest_201 : decode prog_9_method_52_code 201 = .ok (.if_icmp .ge 40, 3) := gd_MO_digest_195.2.2.2.2.1
theorem d_MO_digest_241 : decode prog_9_method_52_code 241 = .ok (.lload_n 1, 1) := gd_MO_digest_195.2.2.2.2.2.1
theorem d_MO_digest_242 : decode prog_9_method_52_code 242 = .ok (.lreturn, 1) := gd_MO_digest_195.2.2.2.2.2.2.1
theorem d_MO_digest_204 : decode prog_9_method_52_code 204 = .ok (.iconst 0, 1) := gd_MO_digest_195.2.2.2.2.2.2.2.1
theorem d_MO_digest_205 : decode prog_9_method_52_code 205 = .ok (.istore 4, 2) := gd_MO_digest_195.2.2.2.2.2.2.2.2.1
theorem d_MO_digest_207 : decode prog_9_method_52_code 207 = .ok (.iload 4, 2) := gd_MO_digest_195.2.2.2.2.2.2.2.2.2
theorem gd_MO_digest_209 : (decode prog_9_method_52_code 209 = .ok (.bipush 7, 2)) ∧ (decode prog_9_method_52_code 211 = .ok (.if_icmp .ge 24, 3)) ∧ (decode prog_9_method_52_code 235 = .ok (.iinc 3 1, 3)) ∧ (decode prog_9_method_52_code 238 = .ok (.goto (-42), 3)) ∧ (decode prog_9_method_52_code 214 = .ok (.ldc2_w 256, 3)) ∧ (decode prog_9_method_52_code 217 = .ok (.lload_n 1, 1)) ∧ (decode prog_9_method_52_code 218 = .ok (.lmul, 1)) ∧ (decode prog_9_method_52_code 219 = .ok (.aload_n 0, 1)) ∧ (decode prog_9_method_52_code 220 = .ok (.iload_n 3, 1)) ∧ (decode prog_9_method_52_code 221 = .ok (.iload 4, 2)) := by decide +kernel
theorem d_MO_digest_209 : decode prog_9_method_52_code 209 = .ok (.bipush 7, 2) := gd_MO_digest_209.1
theorem d_MO_digest_211 : decode prog_9_method_52_code 211 = .ok (.if_icmp .ge 24, 3) := gd_MO_digest_209.2.1
theorem d_MO_digest_235 : decode prog_9_method_52_code 235 = .ok (.iinc 3 1, 3) := gd_MO_digest_209.2.2.1
theorem d_MO_digest_238 : decode prog_9_method_52_code 238 = .ok (.goto (-42), 3) := gd_MO_digest_209.2.2.2.1
theorem d_MO_digest_214 : decode prog_9_method_52_code 214 = .ok (.ldc2_w 256, 3) := gd_MO_digest_209.2.2.2.2.1
theorem d_MO_digest_217 : decode prog_9_method_52_code 217 = .ok (.lload_n 1, 1) := gd_MO_digest_209.2.2.2.2.2.1
theorem d_MO_digest_218 : decode prog_9_method_52_code 218 = .ok (.lmul, 1) := gd_MO_digest_209.2.2.2.2.2.2.1
theorem d_MO_digest_219 : decode prog_9_method_52_code 219 = .ok (.aload_n 0, 1) := gd_MO_digest_209.2.2.2.2.2.2.2.1
theorem d_MO_digest_220 : decode prog_9_method_52_code 220 = .ok (.iload_n 3, 1) := gd_MO_digest_209.2.2.2.2.2.2.2.2.1
theorem d_MO_digest_221 : decode prog_9_method_52_code 221 = .ok (.iload 4, 2) := gd_MO_digest_209.2.2.2.2.2.2.2.2.2
theorem gd_MO_digest_223 : (decode prog_9_method_52_code 223 = .ok (.invokevirtual 264, 3)) ∧ (decode prog_9_method_52_code 226 = .ok (.i2l, 1)) ∧ (decode prog_9_method_52_code 227 = .ok (.ladd, 1)) ∧ (decode prog_9_method_52_code 228 = .ok (.lstore_n 1, 1)) ∧ (decode prog_9_method_52_code 229 = .ok (.iinc 4 1, 3)) ∧ (decode prog_9_method_52_code 232 = .ok (.goto (-25), 3)) ∧ (decode prog_9_method_52_code 70 = .ok (.iconst 0, 1)) ∧ (decode prog_9_method_52_code 71 = .ok (.istore 4, 2)) ∧ (decode prog_9_method_52_code 73 = .ok (.iload 4, 2)) ∧ (decode prog_9_method_52_code 75 = .ok (.iconst 5, 1)) := by decide +kernel
theorem d_MO_digest_223 : decode prog_9_method_52_code 223 = .ok (.invokevirtual 264, 3) := gd_MO_digest_223.1
theorem d_MO_digest_226 : decode prog_9_method_52_code 226 = .ok (.i2l, 1) := gd_MO_digest_223.2.1
theorem d_MO_digest_227 : decode prog_9_method_52_code 227 = .ok (.ladd, 1) := gd_MO_digest_223.2.2.1
theorem d_MO_digest_228 : decode prog_9_method_52_code 228 = .ok (.lstore_n 1, 1) := gd_MO_digest_223.2.2.2.1
theorem d_MO_digest_229 : decode prog_9_method_52_code 229 = .ok (.iinc 4 1, 3) := gd_MO_digest_223.2.2.2.2.1
theorem d_MO_digest_232 : decode prog_9_method_52_code 232 = .ok (.goto (-25), 3) := gd_MO_digest_223.2.2.2.2.2.1
theorem d_MO_digest_70 : decode prog_9_method_52_code 70 = .ok (.iconst 0, 1) := gd_MO_digest_223.2.2.2.2.2.2.1
theorem d_MO_digest_71 : decode prog_9_method_52_code 71 = .ok (.istore 4, 2) := gd_MO_digest_223.2.2.2.2.2.2.2.1
theorem d_MO_digest_73 : decode prog_9_method_52_code 73 = .ok (.iload 4, 2) := gd_MO_digest_223.2.2.2.2.2.2.2.2.1
theorem d_MO_digest_75 : decode prog_9_method_52_code 75 = .ok (.iconst 5, 1) := gd_MO_digest_223.2.2.2.2.2.2.2.2.2
theorem gd_MO_digest_76 : (decode prog_9_method_52_code 76 = .ok (.if_icmp .ge 24, 3)) ∧ (decode prog_9_method_52_code 100 = .ok (.ldc2_w 256, 3)) ∧ (decode prog_9_method_52_code 103 = .ok (.ldc2_w 256, 3)) ∧ (decode prog_9_method_52_code 106 = .ok (.ldc2_w 256, 3)) ∧ (decode prog_9_method_52_code 109 = .ok (.ldc2_w 256, 3)) ∧ (decode prog_9_method_52_code 112 = .ok (.lload_n 1, 1)) ∧ (decode prog_9_method_52_code 113 = .ok (.lmul, 1)) ∧ (decode prog_9_method_52_code 114 = .ok (.aload_n 0, 1)) ∧ (decode prog_9_method_52_code 115 = .ok (.getfield 36, 3)) ∧ (decode prog_9_method_52_code 118 = .ok (.iconst 2, 1)) := by decide +kernel
theorem d_MO_digest_76 : decode prog_9_method_52_code 76 = .ok (.if_icmp .ge 24, 3) := gd_MO_digest_76.1
theorem d_MO_digest_100 : decode prog_9_method_52_code 100 = .ok (.ldc2_w 256, 3) := gd_MO_digest_76.2.1
theorem d_MO_digest_103 : decode prog_9_method_52_code 103 = .ok (.ldc2_w 256, 3) := gd_MO_digest_76.2.2.1
theorem d_MO_digest_106 : decode prog_9_method_52_code 106 = .ok (.ldc2_w 256, 3) := gd_MO_digest_76.2.2.2.1
theorem d_MO_digest_109 : decode prog_9_method_52_code 109 = .ok (.ldc2_w 256, 3) := gd_MO_digest_76.2.2.2.2.1
theorem d_MO_digest_112 : decode prog_9_method_52_code 112 = .ok (.lload_n 1, 1) := gd_MO_digest_76.2.2.2.2.2.1
theorem d_MO_digest_113 : decode prog_9_method_52_code 113 = .ok (.lmul, 1) := gd_MO_digest_76.2.2.2.2.2.2.1
theorem d_MO_digest_114 : decode prog_9_method_52_code 114 = .ok (.aload_n 0, 1) := gd_MO_digest_76.2.2.2.2.2.2.2.1
theorem d_MO_digest_115 : decode prog_9_method_52_code 115 = .ok (.getfield 36, 3) := gd_MO_digest_76.2.2.2.2.2.2.2.2.1
theorem d_MO_digest_118 : decode prog_9_method_52_code 118 = .ok (.iconst 2, 1) := gd_MO_digest_76.2.2.2.2.2.2.2.2.2
theorem gd_MO_digest_119 : (decode prog_9_method_52_code 119 = .ok (.iload_n 3, 1)) ∧ (decode prog_9_method_52_code 120 = .ok (.imul, 1)) ∧ (decode prog_9_method_52_code 121 = .ok (.iaload, 1)) ∧ (decode prog_9_method_52_code 122 = .ok (.i2l, 1)) ∧ (decode prog_9_method_52_code 123 = .ok (.ladd, 1)) ∧ (decode prog_9_method_52_code 124 = .ok (.lmul, 1)) ∧ (decode prog_9_method_52_code 125 = .ok (.aload_n 0, 1)) ∧ (decode prog_9_method_52_code 126 = .ok (.getfield 36, 3)) ∧ (decode prog_9_method_52_code 129 = .ok (.iconst 2, 1)) ∧ (decode prog_9_method_52_code 130 = .ok (.iload_n 3, 1)) := by decide +kernel
theorem d_MO_digest_119 : decode prog_9_method_52_code 119 = .ok (.iload_n 3, 1) := gd_MO_digest_119.1
theorem d_MO_digest_120 : decode prog_9_method_52_code 120 = .ok (.imul, 1) := gd_MO_digest_119.2.1
theorem d_MO_digest_121 : decode prog_9_method_52_code 121 = .ok (.iaload, 1) := gd_MO_digest_119.2.2.1
theorem d_MO_digest_122 : decode prog_9_method_52_code 122 = .ok (.i2l, 1) := gd_MO_digest_119.2.2.2.1
theorem d_MO_digest_123 : decode prog_9_method_52_code 123 = .ok (.ladd, 1) := gd_MO_digest_119.2.2.2.2.1
theorem d_MO_digest_124 : decode prog_9_method_52_code 124 = .ok (.lmul, 1) := gd_MO_digest_119.2.2.2.2.2.1
theorem d_MO_digest_125 : decode prog_9_method_52_code 125 = .ok (.aload_n 0, 1) := gd_MO_digest_119.2.2.2.2.2.2.1
theorem d_MO_digest_126 : decode prog_9_method_52_code 126 = .ok (.getfield 36, 3) := gd_MO_digest_119.2.2.2.2.2.2.2.1
theorem d_MO_digest_129 : decode prog_9_method_52_code 129 = .ok (.iconst 2, 1) := gd_MO_digest_119.2.2.2.2.2.2.2.2.1
theorem d_MO_digest_130 : decode prog_9_method_52_code 130 = .ok (.iload_n 3, 1) := gd_MO_digest_119.2.2.2.2.2.2.2.2.2
theorem gd_MO_digest_131 : (decode prog_9_method_52_code 131 = .ok (.imul, 1)) ∧ (decode prog_9_method_52_code 132 = .ok (.iconst 1, 1)) ∧ (decode prog_9_method_52_code 133 = .ok (.iadd, 1)) ∧ (decode prog_9_method_52_code 134 = .ok (.iaload, 1)) ∧ (decode prog_9_method_52_code 135 = .ok (.i2l, 1)) ∧ (decode prog_9_method_52_code 136 = .ok (.ladd, 1)) ∧ (decode prog_9_method_52_code 137 = .ok (.lmul, 1)) ∧ (decode prog_9_method_52_code 138 = .ok (.aload_n 0, 1)) ∧ (decode prog_9_method_52_code 139 = .ok (.getfield 39, 3)) ∧ (decode prog_9_method_52_code 142 = .ok (.iconst 2, 1)) := by decide +kernel
theorem d_MO_digest_131 : decode prog_9_method_52_code 131 = .ok (.imul, 1) := gd_MO_digest_131.1
theorem d_MO_digest_132 : decode prog_9_method_52_code 132 = .ok (.iconst 1, 1) := gd_MO_digest_131.2.1
theorem d_MO_digest_133 : decode prog_9_method_52_code 133 = .ok (.iadd, 1) := gd_MO_digest_131.2.2.1
theorem d_MO_digest_134 : decode prog_9_method_52_code 134 = .ok (.iaload, 1) := gd_MO_digest_131.2.2.2.1
theorem d_MO_digest_135 : decode prog_9_method_52_code 135 = .ok (.i2l, 1) := gd_MO_digest_131.2.2.2.2.1
theorem d_MO_digest_136 : decode prog_9_method_52_code 136 = .ok (.ladd, 1) := gd_MO_digest_131.2.2.2.2.2.1
theorem d_MO_digest_137 : decode prog_9_method_52_code 137 = .ok (.lmul, 1) := gd_MO_digest_131.2.2.2.2.2.2.1
theorem d_MO_digest_138 : decode prog_9_method_52_code 138 = .ok (.aload_n 0, 1) := gd_MO_digest_131.2.2.2.2.2.2.2.1
theorem d_MO_digest_139 : decode prog_9_method_52_code 139 = .ok (.getfield 39, 3) := gd_MO_digest_131.2.2.2.2.2.2.2.2.1
theorem d_MO_digest_142 : decode prog_9_method_52_code 142 = .ok (.iconst 2, 1) := gd_MO_digest_131.2.2.2.2.2.2.2.2.2
theorem gd_MO_digest_143 : (decode prog_9_method_52_code 143 = .ok (.iload_n 3, 1)) ∧ (decode prog_9_method_52_code 144 = .ok (.imul, 1)) ∧ (decode prog_9_method_52_code 145 = .ok (.iaload, 1)) ∧ (decode prog_9_method_52_code 146 = .ok (.i2l, 1)) ∧ (decode prog_9_method_52_code 147 = .ok (.ladd, 1)) ∧ (decode prog_9_method_52_code 148 = .ok (.lmul, 1)) ∧ (decode prog_9_method_52_code 149 = .ok (.aload_n 0, 1)) ∧ (decode prog_9_method_52_code 150 = .ok (.getfield 39, 3)) ∧ (decode prog_9_method_52_code 153 = .ok (.iconst 2, 1)) ∧ (decode prog_9_method_52_code 154 = .ok (.iload_n 3, 1)) := by decide +kernel
theorem d_MO_digest_143 : decode prog_9_method_52_code 143 = .ok (.iload_n 3, 1) := gd_MO_digest_143.1
theorem d_MO_digest_144 : decode prog_9_method_52_code 144 = .ok (.imul, 1) := gd_MO_digest_143.2.1
theorem d_MO_digest_145 : decode prog_9_method_52_code 145 = .ok (.iaload, 1) := gd_MO_digest_143.2.2.1
theorem d_MO_digest_146 : decode prog_9_method_52_code 146 = .ok (.i2l, 1) := gd_MO_digest_143.2.2.2.1
theorem d_MO_digest_147 : decode prog_9_method_52_code 147 = .ok (.ladd, 1) := gd_MO_digest_143.2.2.2.2.1
theorem d_MO_digest_148 : decode prog_9_method_52_code 148 = .ok (.lmul, 1) := gd_MO_digest_143.2.2.2.2.2.1
theorem d_MO_digest_149 : decode prog_9_method_52_code 149 = .ok (.aload_n 0, 1) := gd_MO_digest_143.2.2.2.2.2.2.1
theorem d_MO_digest_150 : decode prog_9_method_52_code 150 = .ok (.getfield 39, 3) := gd_MO_digest_143.2.2.2.2.2.2.2.1
theorem d_MO_digest_153 : decode prog_9_method_52_code 153 = .ok (.iconst 2, 1) := gd_MO_digest_143.2.2.2.2.2.2.2.2.1
theorem d_MO_digest_154 : decode prog_9_method_52_code 154 = .ok (.iload_n 3, 1) := gd_MO_digest_143.2.2.2.2.2.2.2.2.2
theorem gd_MO_digest_155 : (decode prog_9_method_52_code 155 = .ok (.imul, 1)) ∧ (decode prog_9_method_52_code 156 = .ok (.iconst 1, 1)) ∧ (decode prog_9_method_52_code 157 = .ok (.iadd, 1)) ∧ (decode prog_9_method_52_code 158 = .ok (.iaload, 1)) ∧ (decode prog_9_method_52_code 159 = .ok (.i2l, 1)) ∧ (decode prog_9_method_52_code 160 = .ok (.ladd, 1)) ∧ (decode prog_9_method_52_code 161 = .ok (.lstore_n 1, 1)) ∧ (decode prog_9_method_52_code 162 = .ok (.ldc2_w 256, 3)) ∧ (decode prog_9_method_52_code 165 = .ok (.ldc2_w 256, 3)) ∧ (decode prog_9_method_52_code 168 = .ok (.lload_n 1, 1)) := by decide +kernel
theorem d_MO_digest_155 : decode prog_9_method_52_code 155 = .ok (.imul, 1) := gd_MO_digest_155.1
theorem d_MO_digest_156 : decode prog_9_method_52_code 156 = .ok (.iconst 1, 1) := gd_MO_digest_155.2.1
theorem d_MO_digest_157 : decode prog_9_method_52_code 157 = .ok (.iadd, 1) := gd_MO_digest_155.2.2.1
theorem d_MO_digest_158 : decode prog_9_method_52_code 158 = .ok (.iaload, 1) := gd_MO_digest_155.2.2.2.1
theorem d_MO_digest_159 : decode prog_9_method_52_code 159 = .ok (.i2l, 1) := gd_MO_digest_155.2.2.2.2.1
theorem d_MO_digest_160 : decode prog_9_method_52_code 160 = .ok (.ladd, 1) := gd_MO_digest_155.2.2.2.2.2.1
theorem d_MO_digest_161 : decode prog_9_method_52_code 161 = .ok (.lstore_n 1, 1) := gd_MO_digest_155.2.2.2.2.2.2.1
theorem d_MO_digest_162 : decode prog_9_method_52_code 162 = .ok (.ldc2_w 256, 3) := gd_MO_digest_155.2.2.2.2.2.2.2.1
theorem d_MO_digest_165 : decode prog_9_method_52_code 165 = .ok (.ldc2_w 256, 3) := gd_MO_digest_155.2.2.2.2.2.2.2.2.1
theorem d_MO_digest_168 : decode prog_9_method_52_code 168 = .ok (.lload_n 1, 1) := gd_MO_digest_155.2.2.2.2.2.2.2.2.2
theorem gd_MO_digest_169 : (decode prog_9_method_52_code 169 = .ok (.lmul, 1)) ∧ (decode prog_9_method_52_code 170 = .ok (.aload_n 0, 1)) ∧ (decode prog_9_method_52_code 171 = .ok (.getfield 60, 3)) ∧ (decode prog_9_method_52_code 174 = .ok (.iload_n 3, 1)) ∧ (decode prog_9_method_52_code 175 = .ok (.iaload, 1)) ∧ (decode prog_9_method_52_code 176 = .ok (.i2l, 1)) ∧ (decode prog_9_method_52_code 177 = .ok (.ladd, 1)) ∧ (decode prog_9_method_52_code 178 = .ok (.lmul, 1)) ∧ (decode prog_9_method_52_code 179 = .ok (.aload_n 0, 1)) ∧ (decode prog_9_method_52_code 180 = .ok (.getfield 63, 3)) := by decide +kernel
theorem d_MO_digest_169 : decode prog_9_method_52_code 169 = .ok (.lmul, 1) := gd_MO_digest_169.1
theorem d_MO_digest_170 : decode prog_9_method_52_code 170 = .ok (.aload_n 0, 1) := gd_MO_digest_169.2.1
theorem d_MO_digest_171 : decode prog_9_method_52_code 171 = .ok (.getfield 60, 3) := gd_MO_digest_169.2.2.1
theorem d_MO_digest_174 : decode prog_9_method_52_code 174 = .ok (.iload_n 3, 1) := gd_MO_digest_169.2.2.2.1
theorem d_MO_digest_175 : decode prog_9_method_52_code 175 = .ok (.iaload, 1) := gd_MO_digest_169.2.2.2.2.1
theorem d_MO_digest_176 : decode prog_9_method_52_code 176 = .ok (.i2l, 1) := gd_MO_digest_169.2.2.2.2.2.1
theorem d_MO_digest_177 : decode prog_9_method_52_code 177 = .ok (.ladd, 1) := gd_MO_digest_169.2.2.2.2.2.2.1
theorem d_MO_digest_178 : decode prog_9_method_52_code 178 = .ok (.lmul, 1) := gd_MO_digest_169.2.2.2.2.2.2.2.1
theorem d_MO_digest_179 : decode prog_9_method_52_code 179 = .ok (.aload_n 0, 1) := gd_MO_digest_169.2.2.2.2.2.2.2.2.1
theorem d_MO_digest_180 : decode prog_9_method_52_code 180 = .ok (.getfield 63, 3) := gd_MO_digest_169.2.2.2.2.2.2.2.2.2
theorem gd_MO_digest_183 : (decode prog_9_method_52_code 183 = .ok (.iload_n 3, 1)) ∧ (decode prog_9_method_52_code 184 = .ok (.iaload, 1)) ∧ (decode prog_9_method_52_code 185 = .ok (.i2l, 1)) ∧ (decode prog_9_method_52_code 186 = .ok (.ladd, 1)) ∧ (decode prog_9_method_52_code 187 = .ok (.lstore_n 1, 1)) ∧ (decode prog_9_method_52_code 188 = .ok (.iinc 3 1, 3)) ∧ (decode prog_9_method_52_code 191 = .ok (.goto (-129), 3)) ∧ (decode prog_9_method_52_code 79 = .ok (.ldc2_w 256, 3)) ∧ (decode prog_9_method_52_code 82 = .ok (.lload_n 1, 1)) ∧ (decode prog_9_method_52_code 83 = .ok (.lmul, 1)) := by decide +kernel
theorem d_MO_digest_183 : decode prog_9_method_52_code 183 = .ok (.iload_n 3, 1) := gd_MO_digest_183.1
theorem d_MO_digest_184 : decode prog_9_method_52_code 184 = .ok (.iaload, 1) := gd_MO_digest_183.2.1
theorem d_MO_digest_185 : decode prog_9_method_52_code 185 = .ok (.i2l, 1) := gd_MO_digest_183.2.2.1
theorem d_MO_digest_186 : decode prog_9_method_52_code 186 = .ok (.ladd, 1) := gd_MO_digest_183.2.2.2.1
theorem d_MO_digest_187 : decode prog_9_method_52_code 187 = .ok (.lstore_n 1, 1) := gd_MO_digest_183.2.2.2.2.1
theorem d_MO_digest_188 : decode prog_9_method_52_code 188 = .ok (.iinc 3 1, 3) := gd_MO_digest_183.2.2.2.2.2.1
theorem d_MO_digest_191 : decode prog_9_method_52_code 191 = .ok (.goto (-129), 3) := gd_MO_digest_183.2.2.2.2.2.2.1
theorem d_MO_digest_79 : decode prog_9_method_52_code 79 = .ok (.ldc2_w 256, 3) := gd_MO_digest_183.2.2.2.2.2.2.2.1
theorem d_MO_digest_82 : decode prog_9_method_52_code 82 = .ok (.lload_n 1, 1) := gd_MO_digest_183.2.2.2.2.2.2.2.2.1
theorem d_MO_digest_83 : decode prog_9_method_52_code 83 = .ok (.lmul, 1) := gd_MO_digest_183.2.2.2.2.2.2.2.2.2
theorem gd_MO_digest_84 : (decode prog_9_method_52_code 84 = .ok (.aload_n 0, 1)) ∧ (decode prog_9_method_52_code 85 = .ok (.iload_n 3, 1)) ∧ (decode prog_9_method_52_code 86 = .ok (.iload 4, 2)) ∧ (decode prog_9_method_52_code 88 = .ok (.invokevirtual 261, 3)) ∧ (decode prog_9_method_52_code 91 = .ok (.i2l, 1)) ∧ (decode prog_9_method_52_code 92 = .ok (.ladd, 1)) ∧ (decode prog_9_method_52_code 93 = .ok (.lstore_n 1, 1)) ∧ (decode prog_9_method_52_code 94 = .ok (.iinc 4 1, 3)) ∧ (decode prog_9_method_52_code 97 = .ok (.goto (-24), 3)) ∧ (decode prog_9_method_52_code 41 = .ok (.ldc2_w 256, 3)) := by decide +kernel
theorem d_MO_digest_84 : decode prog_9_method_52_code 84 = .ok (.aload_n 0, 1) := gd_MO_digest_84.1
theorem d_MO_digest_85 : decode prog_9_method_52_code 85 = .ok (.iload_n 3, 1) := gd_MO_digest_84.2.1
theorem d_MO_digest_86 : decode prog_9_method_52_code 86 = .ok (.iload 4, 2) := gd_MO_digest_84.2.2.1
theorem d_MO_digest_88 : decode prog_9_method_52_code 88 = .ok (.invokevirtual 261, 3) := gd_MO_digest_84.2.2.2.1
theorem d_MO_digest_91 : decode prog_9_method_52_code 91 = .ok (.i2l, 1) := gd_MO_digest_84.2.2.2.2.1
theorem d_MO_digest_92 : decode prog_9_method_52_code 92 = .ok (.ladd, 1) := gd_MO_digest_84.2.2.2.2.2.1
theorem d_MO_digest_93 : decode prog_9_method_52_code 93 = .ok (.lstore_n 1, 1) := gd_MO_digest_84.2.2.2.2.2.2.1
theorem d_MO_digest_94 : decode prog_9_method_52_code 94 = .ok (.iinc 4 1, 3) := gd_MO_digest_84.2.2.2.2.2.2.2.1
theorem d_MO_digest_97 : decode prog_9_method_52_code 97 = .ok (.goto (-24), 3) := gd_MO_digest_84.2.2.2.2.2.2.2.2.1
theorem d_MO_digest_41 : decode prog_9_method_52_code 41 = .ok (.ldc2_w 256, 3) := gd_MO_digest_84.2.2.2.2.2.2.2.2.2
theorem gd_MO_digest_44 : (decode prog_9_method_52_code 44 = .ok (.lload_n 1, 1)) ∧ (decode prog_9_method_52_code 45 = .ok (.lmul, 1)) ∧ (decode prog_9_method_52_code 46 = .ok (.aload_n 0, 1)) ∧ (decode prog_9_method_52_code 47 = .ok (.iload_n 3, 1)) ∧ (decode prog_9_method_52_code 48 = .ok (.invokevirtual 216, 3)) ∧ (decode prog_9_method_52_code 51 = .ok (.i2l, 1)) ∧ (decode prog_9_method_52_code 52 = .ok (.ladd, 1)) ∧ (decode prog_9_method_52_code 53 = .ok (.lstore_n 1, 1)) ∧ (decode prog_9_method_52_code 54 = .ok (.iinc 3 1, 3)) ∧ (decode prog_9_method_52_code 57 = .ok (.goto (-24), 3)) := by decide +kernel
theorem d_MO_digest_44 : decode prog_9_method_52_code 44 = .ok (.lload_n 1, 1) := gd_MO_digest_44.1
theorem d_MO_digest_45 : decode prog_9_method_52_code 45 = .ok (.lmul, 1) := gd_MO_digest_44.2.1
theorem d_MO_digest_46 : decode prog_9_method_52_code 46 = .ok (.aload_n 0, 1) := gd_MO_digest_44.2.2.1
theorem d_MO_digest_47 : decode prog_9_method_52_code 47 = .ok (.iload_n 3, 1) := gd_MO_digest_44.2.2.2.1
theorem d_MO_digest_48 : decode prog_9_method_52_code 48 = .ok (.invokevirtual 216, 3) := gd_MO_digest_44.2.2.2.2.1
theorem d_MO_digest_51 : decode prog_9_method_52_code 51 = .ok (.i2l, 1) := gd_MO_digest_44.2.2.2.2.2.1
theorem d_MO_digest_52 : decode prog_9_method_52_code 52 = .ok (.ladd, 1) := gd_MO_digest_44.2.2.2.2.2.2.1
theorem d_MO_digest_53 : decode prog_9_method_52_code 53 = .ok (.lstore_n 1, 1) := gd_MO_digest_44.2.2.2.2.2.2.2.1
theorem d_MO_digest_54 : decode prog_9_method_52_code 54 = .ok (.iinc 3 1, 3) := gd_MO_digest_44.2.2.2.2.2.2.2.2.1
theorem d_MO_digest_57 : decode prog_9_method_52_code 57 = .ok (.goto (-24), 3) := gd_MO_digest_44.2.2.2.2.2.2.2.2.2
theorem gd_MO_digest_12 : (decode prog_9_method_52_code 12 = .ok (.ldc2_w 256, 3)) ∧ (decode prog_9_method_52_code 15 = .ok (.lload_n 1, 1)) ∧ (decode prog_9_method_52_code 16 = .ok (.lmul, 1)) ∧ (decode prog_9_method_52_code 17 = .ok (.aload_n 0, 1)) ∧ (decode prog_9_method_52_code 18 = .ok (.iload_n 3, 1)) ∧ (decode prog_9_method_52_code 19 = .ok (.invokevirtual 258, 3)) ∧ (decode prog_9_method_52_code 22 = .ok (.i2l, 1)) ∧ (decode prog_9_method_52_code 23 = .ok (.ladd, 1)) ∧ (decode prog_9_method_52_code 24 = .ok (.lstore_n 1, 1)) ∧ (decode prog_9_method_52_code 25 = .ok (.iinc 3 1, 3)) := by decide +kernel
theorem d_MO_digest_12 : decode prog_9_method_52_code 12 = .ok (.ldc2_w 256, 3) := gd_MO_digest_12.1
theorem d_MO_digest_15 : decode prog_9_method_52_code 15 = .ok (.lload_n 1, 1) := gd_MO_digest_12.2.1
theorem d_MO_digest_16 : decode prog_9_method_52_code 16 = .ok (.lmul, 1) := gd_MO_digest_12.2.2.1
theorem d_MO_digest_17 : decode prog_9_method_52_code 17 = .ok (.aload_n 0, 1) := gd_MO_digest_12.2.2.2.1
theorem d_MO_digest_18 : decode prog_9_method_52_code 18 = .ok (.iload_n 3, 1) := gd_MO_digest_12.2.2.2.2.1
theorem d_MO_digest_19 : decode prog_9_method_52_code 19 = .ok (.invokevirtual 258, 3) := gd_MO_digest_12.2.2.2.2.2.1
theorem d_MO_digest_22 : decode prog_9_method_52_code 22 = .ok (.i2l, 1) := gd_MO_digest_12.2.2.2.2.2.2.1
theorem d_MO_digest_23 : decode prog_9_method_52_code 23 = .ok (.ladd, 1) := gd_MO_digest_12.2.2.2.2.2.2.2.1
theorem d_MO_digest_24 : decode prog_9_method_52_code 24 = .ok (.lstore_n 1, 1) := gd_MO_digest_12.2.2.2.2.2.2.2.2.1
theorem d_MO_digest_25 : decode prog_9_method_52_code 25 = .ok (.iinc 3 1, 3) := gd_MO_digest_12.2.2.2.2.2.2.2.2.2
theorem d_MO_digest_28 : decode prog_9_method_52_code 28 = .ok (.goto (-22), 3) := by decide +kernel
set_option maxHeartbeats 4000000 in
set_option maxRecDepth 100000 in
theorem e_MO_side (l : Launch) (D : va_G) (cI cZ : ClassId) (y : Nat) (i : Int32) (z : Int32) (mn : Nat) (mtm : Int32) (mgp : Int32) (mlk : Int32) (y1 : Nat) (y2 : Nat) (y3 : Nat) (y4 : Nat) (mp : Nat) (y5 : Nat) (y6 : Nat) (y7 : Nat) (y8 : Nat) (y9 : Nat) (y10 : Nat) (y11 : Nat) (y12 : Nat) (y13 : Nat) (y14 : Nat) (y15 : Nat) (mq : Nat) (y16 : Nat) (y17 : Nat) (y18 : Nat) (y19 : Nat) (y20 : Nat) (y21 : Nat) (y22 : Nat) (y23 : Nat) (y24 : Nat) (y25 : Nat) (y26 : Nat) (y27 : Nat) (mhw : Int32) (mwn : Nat) (y28 : Nat) (y29 : Nat) (y30 : Nat) (y31 : Nat) (y32 : Nat) (y33 : Nat) (y34 : Nat) (y35 : Nat) (y36 : Nat) (mbm : Nat) (y37 : Nat) (y38 : Nat) (mrm : Nat) (mro : Int32) (mrs : Int32) (MS : Nat → Int32) (sz : Nat) (h_mn : mn ≤ 7) (h_mp : mp ≤ 12) (h_mq : mq ≤ 40) (h_mwn : mwn ≤ 8) (h_mbm : mbm ≤ 8) (h_mrm : mrm ≤ 8) : Met l ⟨"PromiseChainsModel", "side", "(II)I"⟩ (mw ⟨"PromiseChainsModel", "side", "(II)I"⟩ prog_9_method_33_code 3 (some .int)) ({ frames := 2, cells := 0, slots := 0, locals := 43 }) (va_Pc [.ref y, .int i, .int z] (PB D cI cZ sz [(y, .inr (7, [.int (nI mn), .int mtm, .int mgp, .int mlk, .ref y1, .ref y2, .ref y3, .ref y4, .int (nI mp), .ref y5, .ref y6, .ref y7, .ref y8, .ref y9, .ref y10, .ref y11, .ref y12, .ref y13, .ref y14, .ref y15, .int (nI mq), .ref y16, .ref y17, .ref y18, .ref y19, .ref y20, .ref y21, .ref y22, .ref y23, .ref y24, .ref y25, .ref y26, .ref y27, .int mhw, .int (nI mwn), .ref y28, .ref y29, .ref y30, .ref y31, .ref y32, .ref y33, .ref y34, .ref y35, .ref y36, .int (nI mbm), .ref y37, .ref y38, .int (nI mrm), .int mro, .int mrs])), (y6, .inl (cI, 24, .inl MS))])) (vp_Si (fun r => r = gSd mp MS i z)) 0 0 (fun _ => False) := by
  refine Met.ofW (cc := prog_9_method_33_code) (maxL := 3) (ret := (some .int)) (by decide) rfl ?_
  intro p e s m args below meth c s₁ B hml hv
  obtain ⟨rfl, hsz, hP, hK, hD0, hN⟩ := hv
  have hx := B.exec
  have hb := B.bytes
  have hr := B.returns
  have hts0 := atoms_spec (ws := mw ⟨"PromiseChainsModel", "side", "(II)I"⟩ prog_9_method_33_code 3 (some .int)) B.pre
  have hts : ∀ w ∈ tblG, w.before _ s = true := fun w h => hts0 w (List.mem_cons_of_mem _ h)
  have hown : s.vm.findClass "PromiseChainsModel" = some m.cls := findClass_of_methodNamed B.named
  have hlocks := B.notSynchronized
  subst hsz
  have hD := hD0
  have hP : va_P D vwCl [(y, .inr (7, [.int (nI mn), .int mtm, .int mgp, .int mlk, .ref y1, .ref y2, .ref y3, .ref y4, .int (nI mp), .ref y5, .ref y6, .ref y7, .ref y8, .ref y9, .ref y10, .ref y11, .ref y12, .ref y13, .ref y14, .ref y15, .int (nI mq), .ref y16, .ref y17, .ref y18, .ref y19, .ref y20, .ref y21, .ref y22, .ref y23, .ref y24, .ref y25, .ref y26, .ref y27, .int mhw, .int (nI mwn), .ref y28, .ref y29, .ref y30, .ref y31, .ref y32, .ref y33, .ref y34, .ref y35, .ref y36, .int (nI mbm), .ref y37, .ref y38, .int (nI mrm), .int mro, .int mrs])), (y6, .inl (cI, 24, .inl MS))] s.heap := hP
  have hl := lv_entry ([.ref y, .int i, .int z]) (n := 3) (Nat.le_of_ble_eq_true rfl)
  rw [lg_entry_eq]
  generalize (lg_sl ([.ref y, .int i, .int z]) ++ List.replicate (3 - (lg_sl ([.ref y, .int i, .int z])).length) Slot.unset).toArray = ls at hl ⊢
  have hl : lv_has ls 3 [(0, .ref y), (1, .int i), (2, .int z)] := hl
  refine lv_aload_n hx hb d_MO_side_0 rfl (lv_at hl 0 rfl) ?_
  refine lv_iload_n hx hb d_MO_side_1 rfl (lv_at hl 1 rfl) ?_
  have hPc := hP.sub (ws' := [(y, .inr (7, [.int (nI mn), .int mtm, .int mgp, .int mlk, .ref y1, .ref y2, .ref y3, .ref y4, .int (nI mp), .ref y5, .ref y6, .ref y7, .ref y8, .ref y9, .ref y10, .ref y11, .ref y12, .ref y13, .ref y14, .ref y15, .int (nI mq), .ref y16, .ref y17, .ref y18, .ref y19, .ref y20, .ref y21, .ref y22, .ref y23, .ref y24, .ref y25, .ref y26, .ref y27, .int mhw, .int (nI mwn), .ref y28, .ref y29, .ref y30, .ref y31, .ref y32, .ref y33, .ref y34, .ref y35, .ref y36, .int (nI mbm), .ref y37, .ref y38, .int (nI mrm), .int mro, .int mrs]))]) [0] rfl
  have hDc := hD.sub (ws' := [(y, .inr (7, [.int (nI mn), .int mtm, .int mgp, .int mlk, .ref y1, .ref y2, .ref y3, .ref y4, .int (nI mp), .ref y5, .ref y6, .ref y7, .ref y8, .ref y9, .ref y10, .ref y11, .ref y12, .ref y13, .ref y14, .ref y15, .int (nI mq), .ref y16, .ref y17, .ref y18, .ref y19, .ref y20, .ref y21, .ref y22, .ref y23, .ref y24, .ref y25, .ref y26, .ref y27, .int mhw, .int (nI mwn), .ref y28, .ref y29, .ref y30, .ref y31, .ref y32, .ref y33, .ref y34, .ref y35, .ref y36, .int (nI mbm), .ref y37, .ref y38, .int (nI mrm), .int mro, .int mrs]))]) [0] (by decide +kernel) rfl
  refine vp_callSi (va_Run.run (va_runV (As := [.int i]) (rest := []) ⟨hx, hb, hml, hown, hts⟩ (e_MO_isPair l D cI cZ y i mn mtm mgp mlk y1 y2 y3 y4 mp y5 y6 y7 y8 y9 y10 y11 y12 y13 y14 y15 mq y16 y17 y18 y19 y20 y21 y22 y23 y24 y25 y26 y27 mhw mwn y28 y29 y30 y31 y32 y33 y34 y35 y36 mbm y37 y38 mrm mro mrs s.heap.size h_mn h_mp h_mq h_mwn h_mbm h_mrm) (my_cwV 1 hts q_898 q_895 q_897 q_p19 q_8 rfl rfl (by decide +kernel) ⟨Nat.le_of_ble_eq_true rfl, Nat.le_of_ble_eq_true rfl⟩) (my_preV hPc hDc hK hN 7 0 rfl rfl) rfl rfl hl.1 rfl (lv_room (Nat.le_of_ble_eq_true rfl)) d_MO_side_2 ⟨Nat.le_of_ble_eq_true rfl, Nat.le_of_ble_eq_true rfl⟩)) (fun r_1 hw_1 => ?_)
  rcases hw_1 with ⟨hg_2, rfl⟩ | ⟨j_3, hg_4, hg_5, hg_6, rfl⟩
  · have hg_2 : isw i 0 (nI mp - 1) = 0 := hg_2
    refine lv_if_eq (tgt := 30) hx hb d_MO_side_5 (by decide) (fun _ => ?_) (fun h => absurd h (by decide))
    refine lv_bipush (v := (-2)) hx hb d_MO_side_30 (by decide) ?_
    exact W.iret (v := (-2)) hx hb hr (fun tT ht hW => ⟨(-2), rfl, (by unfold gSd; rw [if_pos hg_2]), ht⟩) (fun q h => absurd h List.not_mem_nil) d_MO_side_32
  · have hg_4 : j_3 < mp := hg_4
    have hg_5 : i = nI j_3 := hg_5
    have hg_6 : ¬ isw i 0 (nI mp - 1) = 0 := hg_6
    subst hg_5
    refine lv_if_eq (tgt := 30) hx hb d_MO_side_5 (by decide) (fun h => absurd h (by decide)) (fun _ => ?_)
    refine lv_iload_n hx hb d_MO_side_8 rfl (lv_at hl 2 rfl) ?_
    refine lv_iconst (v := 0) hx hb d_MO_side_9 (by decide) ?_
    refine lv_iconst (v := 1) hx hb d_MO_side_10 (by decide) ?_
    have hPc := hP.sub (ws' := []) [] rfl
    have hDc := hD.sub (ws' := []) [] (by decide +kernel) rfl
    refine vp_callSi (va_Run.run (va_runS (As := [.int z, .int 0, .int 1]) (rest := []) ⟨hx, hb, hml, hown, hts⟩ (e_MO_in l D cI cZ z 0 1 s.heap.size ) (my_cwS 3 hts q_789 q_787 q_788 q_8 rfl rfl (by decide +kernel) ⟨Nat.le_of_ble_eq_true rfl, Nat.le_of_ble_eq_true rfl⟩) (my_preS hPc hDc hK hN) rfl rfl hl.1 rfl (lv_room (Nat.le_of_ble_eq_true rfl)) d_MO_side_11 ⟨Nat.le_of_ble_eq_true rfl, Nat.le_of_ble_eq_true rfl⟩)) (fun r_9 hw_9 => ?_)
    have hf_9_0 : r_9 = isw z 0 1 := hw_9
    have hf_9_0 : r_9 = isw z 0 1 := hf_9_0
    subst hf_9_0
    refine lv_if_eq (tgt := 30) hx hb d_MO_side_14 (by decide) (fun h_10 => ?_) (fun h_10 => ?_)
    · refine lv_bipush (v := (-2)) hx hb d_MO_side_30 (by decide) ?_
      exact W.iret (v := (-2)) hx hb hr (fun tT ht hW => ⟨(-2), rfl, (by unfold gSd; rw [if_neg hg_6, if_pos h_10]), ht⟩) (fun q h => absurd h List.not_mem_nil) d_MO_side_32
    · obtain ⟨t_11, hx_12, rfl⟩ := isw_lo (K := 1) (by decide) rfl h_10
      refine lv_aload_n hx hb d_MO_side_17 rfl (lv_at hl 0 rfl) ?_
      refine va_get (D := D) (ci := 7) (v := .ref y6) (C := R_MO) (T := F_MO) (N := 50) hx hb hts i_MO hown hK hP 0 rfl rfl 10 (by decide) (hts _ q_642) (fun _ h9 => h9) rfl d_MO_side_18 ?_
      refine lv_iconst (v := 2) hx hb d_MO_side_21 (by decide) ?_
      refine lv_iload_n hx hb d_MO_side_22 rfl (lv_at hl 1 rfl) ?_
      refine lv_imul hx hb d_MO_side_23 ?_
      refine lv_seti (nI (2 * j_3)) (pk_mul 2 j_3) ?_
      refine lv_iload_n hx hb d_MO_side_24 rfl (lv_at hl 2 rfl) ?_
      refine lv_iadd hx hb d_MO_side_25 ?_
      refine lv_seti (nI ((2 * j_3) + t_11)) (nI_add (2 * j_3) t_11) ?_
      refine my_ldI hx hb hK hP 1 rfl ((2 * j_3) + t_11) rfl (by omega) (by decide) d_MO_side_26 ?_
      refine lv_goto (tgt := 32) hx hb d_MO_side_27 (by decide) ?_
      exact W.iret (v := (MS ((2 * j_3) + t_11))) hx hb hr (fun tT ht hW => ⟨(MS ((2 * j_3) + t_11)), rfl, (by unfold gSd; rw [if_neg hg_6, if_neg h_10, nI_clamp (by omega), nI_clamp (by omega)]), ht⟩) (fun q h => absurd h List.not_mem_nil) d_MO_side_32

set_option maxHeartbeats 4000000 in
set_option maxRecDepth 100000 in
theorem e_MO_locked (l : Launch) (D : va_G) (cI cZ : ClassId) (y : Nat) (i : Int32) (z : Int32) (mn : Nat) (mtm : Int32) (mgp : Int32) (mlk : Int32) (y1 : Nat) (y2 : Nat) (y3 : Nat) (y4 : Nat) (mp : Nat) (y5 : Nat) (y6 : Nat) (y7 : Nat) (y8 : Nat) (y9 : Nat) (y10 : Nat) (y11 : Nat) (y12 : Nat) (y13 : Nat) (y14 : Nat) (y15 : Nat) (mq : Nat) (y16 : Nat) (y17 : Nat) (y18 : Nat) (y19 : Nat) (y20 : Nat) (y21 : Nat) (y22 : Nat) (y23 : Nat) (y24 : Nat) (y25 : Nat) (y26 : Nat) (y27 : Nat) (mhw : Int32) (mwn : Nat) (y28 : Nat) (y29 : Nat) (y30 : Nat) (y31 : Nat) (y32 : Nat) (y33 : Nat) (y34 : Nat) (y35 : Nat) (y36 : Nat) (mbm : Nat) (y37 : Nat) (y38 : Nat) (mrm : Nat) (mro : Int32) (mrs : Int32) (MLk : Nat → Int32) (sz : Nat) (h_mn : mn ≤ 7) (h_mp : mp ≤ 12) (h_mq : mq ≤ 40) (h_mwn : mwn ≤ 8) (h_mbm : mbm ≤ 8) (h_mrm : mrm ≤ 8) : Met l ⟨"PromiseChainsModel", "locked", "(II)I"⟩ (mw ⟨"PromiseChainsModel", "locked", "(II)I"⟩ prog_9_method_34_code 3 (some .int)) ({ frames := 2, cells := 0, slots := 0, locals := 43 }) (va_Pc [.ref y, .int i, .int z] (PB D cI cZ sz [(y, .inr (7, [.int (nI mn), .int mtm, .int mgp, .int mlk, .ref y1, .ref y2, .ref y3, .ref y4, .int (nI mp), .ref y5, .ref y6, .ref y7, .ref y8, .ref y9, .ref y10, .ref y11, .ref y12, .ref y13, .ref y14, .ref y15, .int (nI mq), .ref y16, .ref y17, .ref y18, .ref y19, .ref y20, .ref y21, .ref y22, .ref y23, .ref y24, .ref y25, .ref y26, .ref y27, .int mhw, .int (nI mwn), .ref y28, .ref y29, .ref y30, .ref y31, .ref y32, .ref y33, .ref y34, .ref y35, .ref y36, .int (nI mbm), .ref y37, .ref y38, .int (nI mrm), .int mro, .int mrs])), (y7, .inl (cI, 24, .inl MLk))])) (vp_Si (fun r => r = gSd mp MLk i z)) 0 0 (fun _ => False) := by
  refine Met.ofW (cc := prog_9_method_34_code) (maxL := 3) (ret := (some .int)) (by decide) rfl ?_
  intro p e s m args below meth c s₁ B hml hv
  obtain ⟨rfl, hsz, hP, hK, hD0, hN⟩ := hv
  have hx := B.exec
  have hb := B.bytes
  have hr := B.returns
  have hts0 := atoms_spec (ws := mw ⟨"PromiseChainsModel", "locked", "(II)I"⟩ prog_9_method_34_code 3 (some .int)) B.pre
  have hts : ∀ w ∈ tblG, w.before _ s = true := fun w h => hts0 w (List.mem_cons_of_mem _ h)
  have hown : s.vm.findClass "PromiseChainsModel" = some m.cls := findClass_of_methodNamed B.named
  have hlocks := B.notSynchronized
  subst hsz
  have hD := hD0
  have hP : va_P D vwCl [(y, .inr (7, [.int (nI mn), .int mtm, .int mgp, .int mlk, .ref y1, .ref y2, .ref y3, .ref y4, .int (nI mp), .ref y5, .ref y6, .ref y7, .ref y8, .ref y9, .ref y10, .ref y11, .ref y12, .ref y13, .ref y14, .ref y15, .int (nI mq), .ref y16, .ref y17, .ref y18, .ref y19, .ref y20, .ref y21, .ref y22, .ref y23, .ref y24, .ref y25, .ref y26, .ref y27, .int mhw, .int (nI mwn), .ref y28, .ref y29, .ref y30, .ref y31, .ref y32, .ref y33, .ref y34, .ref y35, .ref y36, .int (nI mbm), .ref y37, .ref y38, .int (nI mrm), .int mro, .int mrs])), (y7, .inl (cI, 24, .inl MLk))] s.heap := hP
  have hl := lv_entry ([.ref y, .int i, .int z]) (n := 3) (Nat.le_of_ble_eq_true rfl)
  rw [lg_entry_eq]
  generalize (lg_sl ([.ref y, .int i, .int z]) ++ List.replicate (3 - (lg_sl ([.ref y, .int i, .int z])).length) Slot.unset).toArray = ls at hl ⊢
  have hl : lv_has ls 3 [(0, .ref y), (1, .int i), (2, .int z)] := hl
  refine lv_aload_n hx hb d_MO_locked_0 rfl (lv_at hl 0 rfl) ?_
  refine lv_iload_n hx hb d_MO_locked_1 rfl (lv_at hl 1 rfl) ?_
  have hPc := hP.sub (ws' := [(y, .inr (7, [.int (nI mn), .int mtm, .int mgp, .int mlk, .ref y1, .ref y2, .ref y3, .ref y4, .int (nI mp), .ref y5, .ref y6, .ref y7, .ref y8, .ref y9, .ref y10, .ref y11, .ref y12, .ref y13, .ref y14, .ref y15, .int (nI mq), .ref y16, .ref y17, .ref y18, .ref y19, .ref y20, .ref y21, .ref y22, .ref y23, .ref y24, .ref y25, .ref y26, .ref y27, .int mhw, .int (nI mwn), .ref y28, .ref y29, .ref y30, .ref y31, .ref y32, .ref y33, .ref y34, .ref y35, .ref y36, .int (nI mbm), .ref y37, .ref y38, .int (nI mrm), .int mro, .int mrs]))]) [0] rfl
  have hDc := hD.sub (ws' := [(y, .inr (7, [.int (nI mn), .int mtm, .int mgp, .int mlk, .ref y1, .ref y2, .ref y3, .ref y4, .int (nI mp), .ref y5, .ref y6, .ref y7, .ref y8, .ref y9, .ref y10, .ref y11, .ref y12, .ref y13, .ref y14, .ref y15, .int (nI mq), .ref y16, .ref y17, .ref y18, .ref y19, .ref y20, .ref y21, .ref y22, .ref y23, .ref y24, .ref y25, .ref y26, .ref y27, .int mhw, .int (nI mwn), .ref y28, .ref y29, .ref y30, .ref y31, .ref y32, .ref y33, .ref y34, .ref y35, .ref y36, .int (nI mbm), .ref y37, .ref y38, .int (nI mrm), .int mro, .int mrs]))]) [0] (by decide +kernel) rfl
  refine vp_callSi (va_Run.run (va_runV (As := [.int i]) (rest := []) ⟨hx, hb, hml, hown, hts⟩ (e_MO_isPair l D cI cZ y i mn mtm mgp mlk y1 y2 y3 y4 mp y5 y6 y7 y8 y9 y10 y11 y12 y13 y14 y15 mq y16 y17 y18 y19 y20 y21 y22 y23 y24 y25 y26 y27 mhw mwn y28 y29 y30 y31 y32 y33 y34 y35 y36 mbm y37 y38 mrm mro mrs s.heap.size h_mn h_mp h_mq h_mwn h_mbm h_mrm) (my_cwV 1 hts q_898 q_895 q_897 q_p19 q_8 rfl rfl (by decide +kernel) ⟨Nat.le_of_ble_eq_true rfl, Nat.le_of_ble_eq_true rfl⟩) (my_preV hPc hDc hK hN 7 0 rfl rfl) rfl rfl hl.1 rfl (lv_room (Nat.le_of_ble_eq_true rfl)) d_MO_locked_2 ⟨Nat.le_of_ble_eq_true rfl, Nat.le_of_ble_eq_true rfl⟩)) (fun r_1 hw_1 => ?_)
  rcases hw_1 with ⟨hg_2, rfl⟩ | ⟨j_3, hg_4, hg_5, hg_6, rfl⟩
  · have hg_2 : isw i 0 (nI mp - 1) = 0 := hg_2
    refine lv_if_eq (tgt := 30) hx hb d_MO_locked_5 (by decide) (fun _ => ?_) (fun h => absurd h (by decide))
    refine lv_bipush (v := (-2)) hx hb d_MO_locked_30 (by decide) ?_
    exact W.iret (v := (-2)) hx hb hr (fun tT ht hW => ⟨(-2), rfl, (by unfold gSd; rw [if_pos hg_2]), ht⟩) (fun q h => absurd h List.not_mem_nil) d_MO_locked_32
  · have hg_4 : j_3 < mp := hg_4
    have hg_5 : i = nI j_3 := hg_5
    have hg_6 : ¬ isw i 0 (nI mp - 1) = 0 := hg_6
    subst hg_5
    refine lv_if_eq (tgt := 30) hx hb d_MO_locked_5 (by decide) (fun h => absurd h (by decide)) (fun _ => ?_)
    refine lv_iload_n hx hb d_MO_locked_8 rfl (lv_at hl 2 rfl) ?_
    refine lv_iconst (v := 0) hx hb d_MO_locked_9 (by decide) ?_
    refine lv_iconst (v := 1) hx hb d_MO_locked_10 (by decide) ?_
    have hPc := hP.sub (ws' := []) [] rfl
    have hDc := hD.sub (ws' := []) [] (by decide +kernel) rfl
    refine vp_callSi (va_Run.run (va_runS (As := [.int z, .int 0, .int 1]) (rest := []) ⟨hx, hb, hml, hown, hts⟩ (e_MO_in l D cI cZ z 0 1 s.heap.size ) (my_cwS 3 hts q_789 q_787 q_788 q_8 rfl rfl (by decide +kernel) ⟨Nat.le_of_ble_eq_true rfl, Nat.le_of_ble_eq_true rfl⟩) (my_preS hPc hDc hK hN) rfl rfl hl.1 rfl (lv_room (Nat.le_of_ble_eq_true rfl)) d_MO_locked_11 ⟨Nat.le_of_ble_eq_true rfl, Nat.le_of_ble_eq_true rfl⟩)) (fun r_9 hw_9 => ?_)
    have hf_9_0 : r_9 = isw z 0 1 := hw_9
    have hf_9_0 : r_9 = isw z 0 1 := hf_9_0
    subst hf_9_0
    refine lv_if_eq (tgt := 30) hx hb d_MO_locked_14 (by decide) (fun h_10 => ?_) (fun h_10 => ?_)
    · refine lv_bipush (v := (-2)) hx hb d_MO_locked_30 (by decide) ?_
      exact W.iret (v := (-2)) hx hb hr (fun tT ht hW => ⟨(-2), rfl, (by unfold gSd; rw [if_neg hg_6, if_pos h_10]), ht⟩) (fun q h => absurd h List.not_mem_nil) d_MO_locked_32
    · obtain ⟨t_11, hx_12, rfl⟩ := isw_lo (K := 1) (by decide) rfl h_10
      refine lv_aload_n hx hb d_MO_locked_17 rfl (lv_at hl 0 rfl) ?_
      refine va_get (D := D) (ci := 7) (v := .ref y7) (C := R_MO) (T := F_MO) (N := 50) hx hb hts i_MO hown hK hP 0 rfl rfl 11 (by decide) (hts _ q_643) (fun _ h9 => h9) rfl d_MO_locked_18 ?_
      refine lv_iconst (v := 2) hx hb d_MO_locked_21 (by decide) ?_
      refine lv_iload_n hx hb d_MO_locked_22 rfl (lv_at hl 1 rfl) ?_
      refine lv_imul hx hb d_MO_locked_23 ?_
      refine lv_seti (nI (2 * j_3)) (pk_mul 2 j_3) ?_
      refine lv_iload_n hx hb d_MO_locked_24 rfl (lv_at hl 2 rfl) ?_
      refine lv_iadd hx hb d_MO_locked_25 ?_
      refine lv_seti (nI ((2 * j_3) + t_11)) (nI_add (2 * j_3) t_11) ?_
      refine my_ldI hx hb hK hP 1 rfl ((2 * j_3) + t_11) rfl (by omega) (by decide) d_MO_locked_26 ?_
      refine lv_goto (tgt := 32) hx hb d_MO_locked_27 (by decide) ?_
      exact W.iret (v := (MLk ((2 * j_3) + t_11))) hx hb hr (fun tT ht hW => ⟨(MLk ((2 * j_3) + t_11)), rfl, (by unfold gSd; rw [if_neg hg_6, if_neg h_10, nI_clamp (by omega), nI_clamp (by omega)]), ht⟩) (fun q h => absurd h List.not_mem_nil) d_MO_locked_32

set_option maxHeartbeats 4000000 in
set_option maxRecDepth 100000 in
theorem e_MO_learnt (l : Launch) (D : va_G) (cI cZ : ClassId) (y : Nat) (i : Int32) (z : Int32) (mn : Nat) (mtm : Int32) (mgp : Int32) (mlk : Int32) (y1 : Nat) (y2 : Nat) (y3 : Nat) (y4 : Nat) (mp : Nat) (y5 : Nat) (y6 : Nat) (y7 : Nat) (y8 : Nat) (y9 : Nat) (y10 : Nat) (y11 : Nat) (y12 : Nat) (y13 : Nat) (y14 : Nat) (y15 : Nat) (mq : Nat) (y16 : Nat) (y17 : Nat) (y18 : Nat) (y19 : Nat) (y20 : Nat) (y21 : Nat) (y22 : Nat) (y23 : Nat) (y24 : Nat) (y25 : Nat) (y26 : Nat) (y27 : Nat) (mhw : Int32) (mwn : Nat) (y28 : Nat) (y29 : Nat) (y30 : Nat) (y31 : Nat) (y32 : Nat) (y33 : Nat) (y34 : Nat) (y35 : Nat) (y36 : Nat) (mbm : Nat) (y37 : Nat) (y38 : Nat) (mrm : Nat) (mro : Int32) (mrs : Int32) (ML : Nat → Int32) (MH : Nat → Int32) (sz : Nat) (h_mn : mn ≤ 7) (h_mp : mp ≤ 12) (h_mq : mq ≤ 40) (h_mwn : mwn ≤ 8) (h_mbm : mbm ≤ 8) (h_mrm : mrm ≤ 8) : Met l ⟨"PromiseChainsModel", "learnt", "(II)I"⟩ (mw ⟨"PromiseChainsModel", "learnt", "(II)I"⟩ prog_9_method_50_code 3 (some .int)) ({ frames := 2, cells := 0, slots := 0, locals := 43 }) (va_Pc [.ref y, .int i, .int z] (PB D cI cZ sz [(y, .inr (7, [.int (nI mn), .int mtm, .int mgp, .int mlk, .ref y1, .ref y2, .ref y3, .ref y4, .int (nI mp), .ref y5, .ref y6, .ref y7, .ref y8, .ref y9, .ref y10, .ref y11, .ref y12, .ref y13, .ref y14, .ref y15, .int (nI mq), .ref y16, .ref y17, .ref y18, .ref y19, .ref y20, .ref y21, .ref y22, .ref y23, .ref y24, .ref y25, .ref y26, .ref y27, .int mhw, .int (nI mwn), .ref y28, .ref y29, .ref y30, .ref y31, .ref y32, .ref y33, .ref y34, .ref y35, .ref y36, .int (nI mbm), .ref y37, .ref y38, .int (nI mrm), .int mro, .int mrs])), (y14, .inl (cI, 12, .inl ML)), (y15, .inl (cI, 12, .inl MH))])) (vp_Si (fun r => r = gLe mp ML MH i z)) 0 0 (fun _ => False) := by
  refine Met.ofW (cc := prog_9_method_50_code) (maxL := 3) (ret := (some .int)) (by decide) rfl ?_
  intro p e s m args below meth c s₁ B hml hv
  obtain ⟨rfl, hsz, hP, hK, hD0, hN⟩ := hv
  have hx := B.exec
  have hb := B.bytes
  have hr := B.returns
  have hts0 := atoms_spec (ws := mw ⟨"PromiseChainsModel", "learnt", "(II)I"⟩ prog_9_method_50_code 3 (some .int)) B.pre
  have hts : ∀ w ∈ tblG, w.before _ s = true := fun w h => hts0 w (List.mem_cons_of_mem _ h)
  have hown : s.vm.findClass "PromiseChainsModel" = some m.cls := findClass_of_methodNamed B.named
  have hlocks := B.notSynchronized
  subst hsz
  have hD := hD0
  have hP : va_P D vwCl [(y, .inr (7, [.int (nI mn), .int mtm, .int mgp, .int mlk, .ref y1, .ref y2, .ref y3, .ref y4, .int (nI mp), .ref y5, .ref y6, .ref y7, .ref y8, .ref y9, .ref y10, .ref y11, .ref y12, .ref y13, .ref y14, .ref y15, .int (nI mq), .ref y16, .ref y17, .ref y18, .ref y19, .ref y20, .ref y21, .ref y22, .ref y23, .ref y24, .ref y25, .ref y26, .ref y27, .int mhw, .int (nI mwn), .ref y28, .ref y29, .ref y30, .ref y31, .ref y32, .ref y33, .ref y34, .ref y35, .ref y36, .int (nI mbm), .ref y37, .ref y38, .int (nI mrm), .int mro, .int mrs])), (y14, .inl (cI, 12, .inl ML)), (y15, .inl (cI, 12, .inl MH))] s.heap := hP
  have hl := lv_entry ([.ref y, .int i, .int z]) (n := 3) (Nat.le_of_ble_eq_true rfl)
  rw [lg_entry_eq]
  generalize (lg_sl ([.ref y, .int i, .int z]) ++ List.replicate (3 - (lg_sl ([.ref y, .int i, .int z])).length) Slot.unset).toArray = ls at hl ⊢
  have hl : lv_has ls 3 [(0, .ref y), (1, .int i), (2, .int z)] := hl
  refine lv_aload_n hx hb d_MO_learnt_0 rfl (lv_at hl 0 rfl) ?_
  refine lv_iload_n hx hb d_MO_learnt_1 rfl (lv_at hl 1 rfl) ?_
  have hPc := hP.sub (ws' := [(y, .inr (7, [.int (nI mn), .int mtm, .int mgp, .int mlk, .ref y1, .ref y2, .ref y3, .ref y4, .int (nI mp), .ref y5, .ref y6, .ref y7, .ref y8, .ref y9, .ref y10, .ref y11, .ref y12, .ref y13, .ref y14, .ref y15, .int (nI mq), .ref y16, .ref y17, .ref y18, .ref y19, .ref y20, .ref y21, .ref y22, .ref y23, .ref y24, .ref y25, .ref y26, .ref y27, .int mhw, .int (nI mwn), .ref y28, .ref y29, .ref y30, .ref y31, .ref y32, .ref y33, .ref y34, .ref y35, .ref y36, .int (nI mbm), .ref y37, .ref y38, .int (nI mrm), .int mro, .int mrs]))]) [0] rfl
  have hDc := hD.sub (ws' := [(y, .inr (7, [.int (nI mn), .int mtm, .int mgp, .int mlk, .ref y1, .ref y2, .ref y3, .ref y4, .int (nI mp), .ref y5, .ref y6, .ref y7, .ref y8, .ref y9, .ref y10, .ref y11, .ref y12, .ref y13, .ref y14, .ref y15, .int (nI mq), .ref y16, .ref y17, .ref y18, .ref y19, .ref y20, .ref y21, .ref y22, .ref y23, .ref y24, .ref y25, .ref y26, .ref y27, .int mhw, .int (nI mwn), .ref y28, .ref y29, .ref y30, .ref y31, .ref y32, .ref y33, .ref y34, .ref y35, .ref y36, .int (nI mbm), .ref y37, .ref y38, .int (nI mrm), .int mro, .int mrs]))]) [0] (by decide +kernel) rfl
  refine vp_callSi (va_Run.run (va_runV (As := [.int i]) (rest := []) ⟨hx, hb, hml, hown, hts⟩ (e_MO_isPair l D cI cZ y i mn mtm mgp mlk y1 y2 y3 y4 mp y5 y6 y7 y8 y9 y10 y11 y12 y13 y14 y15 mq y16 y17 y18 y19 y20 y21 y22 y23 y24 y25 y26 y27 mhw mwn y28 y29 y30 y31 y32 y33 y34 y35 y36 mbm y37 y38 mrm mro mrs s.heap.size h_mn h_mp h_mq h_mwn h_mbm h_mrm) (my_cwV 1 hts q_898 q_895 q_897 q_p19 q_8 rfl rfl (by decide +kernel) ⟨Nat.le_of_ble_eq_true rfl, Nat.le_of_ble_eq_true rfl⟩) (my_preV hPc hDc hK hN 7 0 rfl rfl) rfl rfl hl.1 rfl (lv_room (Nat.le_of_ble_eq_true rfl)) d_MO_learnt_2 ⟨Nat.le_of_ble_eq_true rfl, Nat.le_of_ble_eq_true rfl⟩)) (fun r_1 hw_1 => ?_)
  rcases hw_1 with ⟨hg_2, rfl⟩ | ⟨j_3, hg_4, hg_5, hg_6, rfl⟩
  · have hg_2 : isw i 0 (nI mp - 1) = 0 := hg_2
    refine lv_if_eq (tgt := 39) hx hb d_MO_learnt_5 (by decide) (fun _ => ?_) (fun h => absurd h (by decide))
    refine lv_bipush (v := (-2)) hx hb d_MO_learnt_39 (by decide) ?_
    exact W.iret (v := (-2)) hx hb hr (fun tT ht hW => ⟨(-2), rfl, (by unfold gLe; rw [if_pos hg_2]), ht⟩) (fun q h => absurd h List.not_mem_nil) d_MO_learnt_41
  · have hg_4 : j_3 < mp := hg_4
    have hg_5 : i = nI j_3 := hg_5
    have hg_6 : ¬ isw i 0 (nI mp - 1) = 0 := hg_6
    subst hg_5
    refine lv_if_eq (tgt := 39) hx hb d_MO_learnt_5 (by decide) (fun h => absurd h (by decide)) (fun _ => ?_)
    refine lv_iload_n hx hb d_MO_learnt_8 rfl (lv_at hl 2 rfl) ?_
    refine lv_iconst (v := 0) hx hb d_MO_learnt_9 (by decide) ?_
    refine lv_iconst (v := 1) hx hb d_MO_learnt_10 (by decide) ?_
    have hPc := hP.sub (ws' := []) [] rfl
    have hDc := hD.sub (ws' := []) [] (by decide +kernel) rfl
    refine vp_callSi (va_Run.run (va_runS (As := [.int z, .int 0, .int 1]) (rest := []) ⟨hx, hb, hml, hown, hts⟩ (e_MO_in l D cI cZ z 0 1 s.heap.size ) (my_cwS 3 hts q_789 q_787 q_788 q_8 rfl rfl (by decide +kernel) ⟨Nat.le_of_ble_eq_true rfl, Nat.le_of_ble_eq_true rfl⟩) (my_preS hPc hDc hK hN) rfl rfl hl.1 rfl (lv_room (Nat.le_of_ble_eq_true rfl)) d_MO_learnt_11 ⟨Nat.le_of_ble_eq_true rfl, Nat.le_of_ble_eq_true rfl⟩)) (fun r_9 hw_9 => ?_)
    have hf_9_0 : r_9 = isw z 0 1 := hw_9
    have hf_9_0 : r_9 = isw z 0 1 := hf_9_0
    subst hf_9_0
    refine lv_if_eq (tgt := 39) hx hb d_MO_learnt_14 (by decide) (fun h_10 => ?_) (fun h_10 => ?_)
    · refine lv_bipush (v := (-2)) hx hb d_MO_learnt_39 (by decide) ?_
      exact W.iret (v := (-2)) hx hb hr (fun tT ht hW => ⟨(-2), rfl, (by unfold gLe; rw [if_neg hg_6, if_pos h_10]), ht⟩) (fun q h => absurd h List.not_mem_nil) d_MO_learnt_41
    · refine lv_iload_n hx hb d_MO_learnt_17 rfl (lv_at hl 2 rfl) ?_
      refine lv_if_ne (tgt := 30) hx hb d_MO_learnt_18 (by decide) (fun h_11 => ?_) (fun h_11 => ?_)
      · refine lv_aload_n hx hb d_MO_learnt_30 rfl (lv_at hl 0 rfl) ?_
        refine va_get (D := D) (ci := 7) (v := .ref y15) (C := R_MO) (T := F_MO) (N := 50) hx hb hts i_MO hown hK hP 0 rfl rfl 19 (by decide) (hts _ q_651) (fun _ h9 => h9) rfl d_MO_learnt_31 ?_
        refine lv_iload_n hx hb d_MO_learnt_34 rfl (lv_at hl 1 rfl) ?_
        refine my_ldI hx hb hK hP 2 rfl j_3 rfl (by omega) (by decide) d_MO_learnt_35 ?_
        refine lv_goto (tgt := 41) hx hb d_MO_learnt_36 (by decide) ?_
        exact W.iret (v := (MH j_3)) hx hb hr (fun tT ht hW => ⟨(MH j_3), rfl, (by unfold gLe; rw [if_neg hg_6, if_neg h_10, if_neg h_11, nI_clamp (by omega)]), ht⟩) (fun q h => absurd h List.not_mem_nil) d_MO_learnt_41
      · refine lv_aload_n hx hb d_MO_learnt_21 rfl (lv_at hl 0 rfl) ?_
        refine va_get (D := D) (ci := 7) (v := .ref y14) (C := R_MO) (T := F_MO) (N := 50) hx hb hts i_MO hown hK hP 0 rfl rfl 18 (by decide) (hts _ q_650) (fun _ h9 => h9) rfl d_MO_learnt_22 ?_
        refine lv_iload_n hx hb d_MO_learnt_25 rfl (lv_at hl 1 rfl) ?_
        refine my_ldI hx hb hK hP 1 rfl j_3 rfl (by omega) (by decide) d_MO_learnt_26 ?_
        refine lv_goto (tgt := 41) hx hb d_MO_learnt_27 (by decide) ?_
        exact W.iret (v := (ML j_3)) hx hb hr (fun tT ht hW => ⟨(ML j_3), rfl, (by unfold gLe; rw [if_neg hg_6, if_neg h_10, if_pos h_11, nI_clamp (by omega)]), ht⟩) (fun q h => absurd h List.not_mem_nil) d_MO_learnt_41

set_option maxHeartbeats 4000000 in
set_option maxRecDepth 100000 in
theorem e_MO_about (l : Launch) (D : va_G) (cI cZ : ClassId) (y : Nat) (i : Int32) (z : Int32) (mn : Nat) (mtm : Int32) (mgp : Int32) (mlk : Int32) (y1 : Nat) (y2 : Nat) (y3 : Nat) (y4 : Nat) (mp : Nat) (y5 : Nat) (y6 : Nat) (y7 : Nat) (y8 : Nat) (y9 : Nat) (y10 : Nat) (y11 : Nat) (y12 : Nat) (y13 : Nat) (y14 : Nat) (y15 : Nat) (mq : Nat) (y16 : Nat) (y17 : Nat) (y18 : Nat) (y19 : Nat) (y20 : Nat) (y21 : Nat) (y22 : Nat) (y23 : Nat) (y24 : Nat) (y25 : Nat) (y26 : Nat) (y27 : Nat) (mhw : Int32) (mwn : Nat) (y28 : Nat) (y29 : Nat) (y30 : Nat) (y31 : Nat) (y32 : Nat) (y33 : Nat) (y34 : Nat) (y35 : Nat) (y36 : Nat) (mbm : Nat) (y37 : Nat) (y38 : Nat) (mrm : Nat) (mro : Int32) (mrs : Int32) (ME : Nat → Nat) (MU : Nat → Int32) (MY : Nat → Nat) (MT : Nat → Int32) (sz : Nat) (h_mn : mn ≤ 7) (h_mp : mp ≤ 12) (h_mq : mq ≤ 40) (h_mwn : mwn ≤ 8) (h_mbm : mbm ≤ 8) (h_mrm : mrm ≤ 8) (h_ME : ∀ zz, ME zz ≤ 6) (h_MY : ∀ zz, MY zz ≤ 64) : Met l ⟨"PromiseChainsModel", "about", "(II)I"⟩ (mw ⟨"PromiseChainsModel", "about", "(II)I"⟩ prog_9_method_35_code 3 (some .int)) ({ frames := 2, cells := 0, slots := 0, locals := 43 }) (va_Pc [.ref y, .int i, .int z] (PB D cI cZ sz [(y, .inr (7, [.int (nI mn), .int mtm, .int mgp, .int mlk, .ref y1, .ref y2, .ref y3, .ref y4, .int (nI mp), .ref y5, .ref y6, .ref y7, .ref y8, .ref y9, .ref y10, .ref y11, .ref y12, .ref y13, .ref y14, .ref y15, .int (nI mq), .ref y16, .ref y17, .ref y18, .ref y19, .ref y20, .ref y21, .ref y22, .ref y23, .ref y24, .ref y25, .ref y26, .ref y27, .int mhw, .int (nI mwn), .ref y28, .ref y29, .ref y30, .ref y31, .ref y32, .ref y33, .ref y34, .ref y35, .ref y36, .int (nI mbm), .ref y37, .ref y38, .int (nI mrm), .int mro, .int mrs])), (y5, .inl (cI, 24, .inl (fun zy => nI (ME zy)))), (y8, .inl (cI, 12, .inl MU)), (y13, .inl (cI, 12, .inl (fun zy => nI (MY zy)))), (y9, .inl (cI, 12, .inl MT))])) (vp_Si (fun r => r = gABm mp ME MU MY MT i z)) 0 0 (fun _ => False) := by
  refine Met.ofW (cc := prog_9_method_35_code) (maxL := 3) (ret := (some .int)) (by decide) rfl ?_
  intro p e s m args below meth c s₁ B hml hv
  obtain ⟨rfl, hsz, hP, hK, hD0, hN⟩ := hv
  have hx := B.exec
  have hb := B.bytes
  have hr := B.returns
  have hts0 := atoms_spec (ws := mw ⟨"PromiseChainsModel", "about", "(II)I"⟩ prog_9_method_35_code 3 (some .int)) B.pre
  have hts : ∀ w ∈ tblG, w.before _ s = true := fun w h => hts0 w (List.mem_cons_of_mem _ h)
  have hown : s.vm.findClass "PromiseChainsModel" = some m.cls := findClass_of_methodNamed B.named
  have hlocks := B.notSynchronized
  subst hsz
  have hD := hD0
  have hP : va_P D vwCl [(y, .inr (7, [.int (nI mn), .int mtm, .int mgp, .int mlk, .ref y1, .ref y2, .ref y3, .ref y4, .int (nI mp), .ref y5, .ref y6, .ref y7, .ref y8, .ref y9, .ref y10, .ref y11, .ref y12, .ref y13, .ref y14, .ref y15, .int (nI mq), .ref y16, .ref y17, .ref y18, .ref y19, .ref y20, .ref y21, .ref y22, .ref y23, .ref y24, .ref y25, .ref y26, .ref y27, .int mhw, .int (nI mwn), .ref y28, .ref y29, .ref y30, .ref y31, .ref y32, .ref y33, .ref y34, .ref y35, .ref y36, .int (nI mbm), .ref y37, .ref y38, .int (nI mrm), .int mro, .int mrs])), (y5, .inl (cI, 24, .inl (fun zy => nI (ME zy)))), (y8, .inl (cI, 12, .inl MU)), (y13, .inl (cI, 12, .inl (fun zy => nI (MY zy)))), (y9, .inl (cI, 12, .inl MT))] s.heap := hP
  have hl := lv_entry ([.ref y, .int i, .int z]) (n := 3) (Nat.le_of_ble_eq_true rfl)
  rw [lg_entry_eq]
  generalize (lg_sl ([.ref y, .int i, .int z]) ++ List.replicate (3 - (lg_sl ([.ref y, .int i, .int z])).length) Slot.unset).toArray = ls at hl ⊢
  have hl : lv_has ls 3 [(0, .ref y), (1, .int i), (2, .int z)] := hl
  refine lv_aload_n hx hb d_MO_about_0 rfl (lv_at hl 0 rfl) ?_
  refine lv_iload_n hx hb d_MO_about_1 rfl (lv_at hl 1 rfl) ?_
  have hPc := hP.sub (ws' := [(y, .inr (7, [.int (nI mn), .int mtm, .int mgp, .int mlk, .ref y1, .ref y2, .ref y3, .ref y4, .int (nI mp), .ref y5, .ref y6, .ref y7, .ref y8, .ref y9, .ref y10, .ref y11, .ref y12, .ref y13, .ref y14, .ref y15, .int (nI mq), .ref y16, .ref y17, .ref y18, .ref y19, .ref y20, .ref y21, .ref y22, .ref y23, .ref y24, .ref y25, .ref y26, .ref y27, .int mhw, .int (nI mwn), .ref y28, .ref y29, .ref y30, .ref y31, .ref y32, .ref y33, .ref y34, .ref y35, .ref y36, .int (nI mbm), .ref y37, .ref y38, .int (nI mrm), .int mro, .int mrs]))]) [0] rfl
  have hDc := hD.sub (ws' := [(y, .inr (7, [.int (nI mn), .int mtm, .int mgp, .int mlk, .ref y1, .ref y2, .ref y3, .ref y4, .int (nI mp), .ref y5, .ref y6, .ref y7, .ref y8, .ref y9, .ref y10, .ref y11, .ref y12, .ref y13, .ref y14, .ref y15, .int (nI mq), .ref y16, .ref y17, .ref y18, .ref y19, .ref y20, .ref y21, .ref y22, .ref y23, .ref y24, .ref y25, .ref y26, .ref y27, .int mhw, .int (nI mwn), .ref y28, .ref y29, .ref y30, .ref y31, .ref y32, .ref y33, .ref y34, .ref y35, .ref y36, .int (nI mbm), .ref y37, .ref y38, .int (nI mrm), .int mro, .int mrs]))]) [0] (by decide +kernel) rfl
  refine vp_callSi (va_Run.run (va_runV (As := [.int i]) (rest := []) ⟨hx, hb, hml, hown, hts⟩ (e_MO_isPair l D cI cZ y i mn mtm mgp mlk y1 y2 y3 y4 mp y5 y6 y7 y8 y9 y10 y11 y12 y13 y14 y15 mq y16 y17 y18 y19 y20 y21 y22 y23 y24 y25 y26 y27 mhw mwn y28 y29 y30 y31 y32 y33 y34 y35 y36 mbm y37 y38 mrm mro mrs s.heap.size h_mn h_mp h_mq h_mwn h_mbm h_mrm) (my_cwV 1 hts q_898 q_895 q_897 q_p19 q_8 rfl rfl (by decide +kernel) ⟨Nat.le_of_ble_eq_true rfl, Nat.le_of_ble_eq_true rfl⟩) (my_preV hPc hDc hK hN 7 0 rfl rfl) rfl rfl hl.1 rfl (lv_room (Nat.le_of_ble_eq_true rfl)) d_MO_about_2 ⟨Nat.le_of_ble_eq_true rfl, Nat.le_of_ble_eq_true rfl⟩)) (fun r_1 hw_1 => ?_)
  rcases hw_1 with ⟨hg_2, rfl⟩ | ⟨j_3, hg_4, hg_5, hg_6, rfl⟩
  · have hg_2 : isw i 0 (nI mp - 1) = 0 := hg_2
    refine lv_if_ne (tgt := 11) hx hb d_MO_about_5 (by decide) (fun h => absurd h (by decide)) (fun _ => ?_)
    refine lv_bipush (v := (-2)) hx hb d_MO_about_8 (by decide) ?_
    exact W.iret (v := (-2)) hx hb hr (fun tT ht hW => ⟨(-2), rfl, (by unfold gABm; rw [if_pos hg_2]), ht⟩) (fun q h => absurd h List.not_mem_nil) d_MO_about_10
  · have hg_4 : j_3 < mp := hg_4
    have hg_5 : i = nI j_3 := hg_5
    have hg_6 : ¬ isw i 0 (nI mp - 1) = 0 := hg_6
    subst hg_5
    refine lv_if_ne (tgt := 11) hx hb d_MO_about_5 (by decide) (fun _ => ?_) (fun h => absurd h (by decide))
    refine lv_iload_n hx hb d_MO_about_11 rfl (lv_at hl 2 rfl) ?_
    by_cases hz_9 : z = 0
    · subst hz_9
      refine lv_tableIn (off := 36) (tgt := 48) hx hb d_MO_about_12 (by decide) (by decide) (by decide) (by decide) ?_
      refine lv_aload_n hx hb d_MO_about_48 rfl (lv_at hl 0 rfl) ?_
      refine va_get (D := D) (ci := 7) (v := .ref y5) (C := R_MO) (T := F_MO) (N := 50) hx hb hts i_MO hown hK hP 0 rfl rfl 9 (by decide) (hts _ q_641) (fun _ h9 => h9) rfl d_MO_about_49 ?_
      refine lv_iconst (v := 2) hx hb d_MO_about_52 (by decide) ?_
      refine lv_iload_n hx hb d_MO_about_53 rfl (lv_at hl 1 rfl) ?_
      refine lv_imul hx hb d_MO_about_54 ?_
      refine lv_seti (nI (2 * j_3)) (pk_mul 2 j_3) ?_
      refine lv_iload_n hx hb d_MO_about_55 rfl (lv_at hl 2 rfl) ?_
      refine lv_iadd hx hb d_MO_about_56 ?_
      refine lv_seti (nI ((2 * j_3) + 0)) (nI_add (2 * j_3) 0) ?_
      refine my_ldN hx hb hK hP 1 rfl ((2 * j_3) + 0) rfl (by omega) (by decide) d_MO_about_57 ?_
      have hb_1 : ME ((2 * j_3) + 0) ≤ 6 := h_ME _
      exact W.iret (v := (nI (ME ((2 * j_3) + 0)))) hx hb hr (fun tT ht hW => ⟨(nI (ME ((2 * j_3) + 0))), rfl, (by unfold gABm; rw [if_neg hg_6, nI_clamp (by omega)]; exact rfl), ht⟩) (fun q h => absurd h List.not_mem_nil) d_MO_about_58
    by_cases hz_10 : z = 1
    · subst hz_10
      refine lv_tableIn (off := 36) (tgt := 48) hx hb d_MO_about_12 (by decide) (by decide) (by decide) (by decide) ?_
      refine lv_aload_n hx hb d_MO_about_48 rfl (lv_at hl 0 rfl) ?_
      refine va_get (D := D) (ci := 7) (v := .ref y5) (C := R_MO) (T := F_MO) (N := 50) hx hb hts i_MO hown hK hP 0 rfl rfl 9 (by decide) (hts _ q_641) (fun _ h9 => h9) rfl d_MO_about_49 ?_
      refine lv_iconst (v := 2) hx hb d_MO_about_52 (by decide) ?_
      refine lv_iload_n hx hb d_MO_about_53 rfl (lv_at hl 1 rfl) ?_
      refine lv_imul hx hb d_MO_about_54 ?_
      refine lv_seti (nI (2 * j_3)) (pk_mul 2 j_3) ?_
      refine lv_iload_n hx hb d_MO_about_55 rfl (lv_at hl 2 rfl) ?_
      refine lv_iadd hx hb d_MO_about_56 ?_
      refine lv_seti (nI ((2 * j_3) + 1)) (nI_add (2 * j_3) 1) ?_
      refine my_ldN hx hb hK hP 1 rfl ((2 * j_3) + 1) rfl (by omega) (by decide) d_MO_about_57 ?_
      have hb_1 : ME ((2 * j_3) + 1) ≤ 6 := h_ME _
      exact W.iret (v := (nI (ME ((2 * j_3) + 1)))) hx hb hr (fun tT ht hW => ⟨(nI (ME ((2 * j_3) + 1))), rfl, (by unfold gABm; rw [if_neg hg_6, nI_clamp (by omega)]; exact rfl), ht⟩) (fun q h => absurd h List.not_mem_nil) d_MO_about_58
    by_cases hz_11 : z = 2
    · subst hz_11
      refine lv_tableIn (off := 47) (tgt := 59) hx hb d_MO_about_12 (by decide) (by decide) (by decide) (by decide) ?_
      refine lv_aload_n hx hb d_MO_about_59 rfl (lv_at hl 0 rfl) ?_
      refine va_get (D := D) (ci := 7) (v := .ref y8) (C := R_MO) (T := F_MO) (N := 50) hx hb hts i_MO hown hK hP 0 rfl rfl 12 (by decide) (hts _ q_644) (fun _ h9 => h9) rfl d_MO_about_60 ?_
      refine lv_iload_n hx hb d_MO_about_63 rfl (lv_at hl 1 rfl) ?_
      refine my_ldI hx hb hK hP 2 rfl j_3 rfl (by omega) (by decide) d_MO_about_64 ?_
      exact W.iret (v := (MU j_3)) hx hb hr (fun tT ht hW => ⟨(MU j_3), rfl, (by unfold gABm; rw [if_neg hg_6, nI_clamp (by omega)]; exact rfl), ht⟩) (fun q h => absurd h List.not_mem_nil) d_MO_about_65
    by_cases hz_12 : z = 3
    · subst hz_12
      refine lv_tableIn (off := 54) (tgt := 66) hx hb d_MO_about_12 (by decide) (by decide) (by decide) (by decide) ?_
      refine lv_aload_n hx hb d_MO_about_66 rfl (lv_at hl 0 rfl) ?_
      refine va_get (D := D) (ci := 7) (v := .ref y13) (C := R_MO) (T := F_MO) (N := 50) hx hb hts i_MO hown hK hP 0 rfl rfl 17 (by decide) (hts _ q_649) (fun _ h9 => h9) rfl d_MO_about_67 ?_
      refine lv_iload_n hx hb d_MO_about_70 rfl (lv_at hl 1 rfl) ?_
      refine my_ldN hx hb hK hP 3 rfl j_3 rfl (by omega) (by decide) d_MO_about_71 ?_
      have hb_1 : MY j_3 ≤ 64 := h_MY _
      exact W.iret (v := (nI (MY j_3))) hx hb hr (fun tT ht hW => ⟨(nI (MY j_3)), rfl, (by unfold gABm; rw [if_neg hg_6, nI_clamp (by omega)]; exact rfl), ht⟩) (fun q h => absurd h List.not_mem_nil) d_MO_about_72
    by_cases hz_13 : z = 4
    · subst hz_13
      refine lv_tableIn (off := 61) (tgt := 73) hx hb d_MO_about_12 (by decide) (by decide) (by decide) (by decide) ?_
      refine lv_aload_n hx hb d_MO_about_73 rfl (lv_at hl 0 rfl) ?_
      refine va_get (D := D) (ci := 7) (v := .ref y9) (C := R_MO) (T := F_MO) (N := 50) hx hb hts i_MO hown hK hP 0 rfl rfl 13 (by decide) (hts _ q_645) (fun _ h9 => h9) rfl d_MO_about_74 ?_
      refine lv_iload_n hx hb d_MO_about_77 rfl (lv_at hl 1 rfl) ?_
      refine my_ldI hx hb hK hP 4 rfl j_3 rfl (by omega) (by decide) d_MO_about_78 ?_
      exact W.iret (v := (MT j_3)) hx hb hr (fun tT ht hW => ⟨(MT j_3), rfl, (by unfold gABm; rw [if_neg hg_6, nI_clamp (by omega)]; exact rfl), ht⟩) (fun q h => absurd h List.not_mem_nil) d_MO_about_79
    refine lv_tableOut (tgt := 80) hx hb d_MO_about_12 (tb_out 5 (by decide) (fun j hj => by rcases (show j = 0 ∨ j = 1 ∨ j = 2 ∨ j = 3 ∨ j = 4 by omega) with rfl | rfl | rfl | rfl | rfl <;> assumption)) (by decide) ?_
    refine lv_bipush (v := (-2)) hx hb d_MO_about_80 (by decide) ?_
    exact W.iret (v := (-2)) hx hb hr (fun tT ht hW => ⟨(-2), rfl, (by unfold gABm; rw [if_neg hg_6, nI_clamp (by omega)]; exact (by unfold gACm; rw [if_neg hz_9, if_neg hz_10, if_neg hz_11, if_neg hz_12, if_neg hz_13])), ht⟩) (fun q h => absurd h List.not_mem_nil) d_MO_about_82

set_option maxHeartbeats 4000000 in
set_option maxRecDepth 100000 in
theorem e_MO_stateAt (l : Launch) (D : va_G) (cI cZ : ClassId) (y : Nat) (i : Int32) (u : Int32) (z : Int32) (mn : Nat) (mtm : Int32) (mgp : Int32) (mlk : Int32) (y1 : Nat) (y2 : Nat) (y3 : Nat) (y4 : Nat) (mp : Nat) (y5 : Nat) (y6 : Nat) (y7 : Nat) (y8 : Nat) (y9 : Nat) (y10 : Nat) (y11 : Nat) (y12 : Nat) (y13 : Nat) (y14 : Nat) (y15 : Nat) (mq : Nat) (y16 : Nat) (y17 : Nat) (y18 : Nat) (y19 : Nat) (y20 : Nat) (y21 : Nat) (y22 : Nat) (y23 : Nat) (y24 : Nat) (y25 : Nat) (y26 : Nat) (y27 : Nat) (mhw : Int32) (mwn : Nat) (y28 : Nat) (y29 : Nat) (y30 : Nat) (y31 : Nat) (y32 : Nat) (y33 : Nat) (y34 : Nat) (y35 : Nat) (y36 : Nat) (mbm : Nat) (y37 : Nat) (y38 : Nat) (mrm : Nat) (mro : Int32) (mrs : Int32) (MG : Nat → Int32) (MY : Nat → Nat) (sz : Nat) (h_mn : mn ≤ 7) (h_mp : mp ≤ 12) (h_mq : mq ≤ 40) (h_mwn : mwn ≤ 8) (h_mbm : mbm ≤ 8) (h_mrm : mrm ≤ 8) (h_MY : ∀ zz, MY zz ≤ 64) : Met l ⟨"PromiseChainsModel", "stateAt", "(III)I"⟩ (mw ⟨"PromiseChainsModel", "stateAt", "(III)I"⟩ prog_9_method_36_code 4 (some .int)) ({ frames := 2, cells := 0, slots := 0, locals := 43 }) (va_Pc [.ref y, .int i, .int u, .int z] (PB D cI cZ sz [(y, .inr (7, [.int (nI mn), .int mtm, .int mgp, .int mlk, .ref y1, .ref y2, .ref y3, .ref y4, .int (nI mp), .ref y5, .ref y6, .ref y7, .ref y8, .ref y9, .ref y10, .ref y11, .ref y12, .ref y13, .ref y14, .ref y15, .int (nI mq), .ref y16, .ref y17, .ref y18, .ref y19, .ref y20, .ref y21, .ref y22, .ref y23, .ref y24, .ref y25, .ref y26, .ref y27, .int mhw, .int (nI mwn), .ref y28, .ref y29, .ref y30, .ref y31, .ref y32, .ref y33, .ref y34, .ref y35, .ref y36, .int (nI mbm), .ref y37, .ref y38, .int (nI mrm), .int mro, .int mrs])), (y12, .inl (cI, 1536, .inl MG)), (y13, .inl (cI, 12, .inl (fun zy => nI (MY zy))))])) (vp_Si (fun r => True)) 0 0 (fun _ => False) := by
  refine Met.ofW (cc := prog_9_method_36_code) (maxL := 4) (ret := (some .int)) (by decide) rfl ?_
  intro p e s m args below meth c s₁ B hml hv
  obtain ⟨rfl, hsz, hP, hK, hD0, hN⟩ := hv
  have hx := B.exec
  have hb := B.bytes
  have hr := B.returns
  have hts0 := atoms_spec (ws := mw ⟨"PromiseChainsModel", "stateAt", "(III)I"⟩ prog_9_method_36_code 4 (some .int)) B.pre
  have hts : ∀ w ∈ tblG, w.before _ s = true := fun w h => hts0 w (List.mem_cons_of_mem _ h)
  have hown : s.vm.findClass "PromiseChainsModel" = some m.cls := findClass_of_methodNamed B.named
  have hlocks := B.notSynchronized
  subst hsz
  have hD := hD0
  have hP : va_P D vwCl [(y, .inr (7, [.int (nI mn), .int mtm, .int mgp, .int mlk, .ref y1, .ref y2, .ref y3, .ref y4, .int (nI mp), .ref y5, .ref y6, .ref y7, .ref y8, .ref y9, .ref y10, .ref y11, .ref y12, .ref y13, .ref y14, .ref y15, .int (nI mq), .ref y16, .ref y17, .ref y18, .ref y19, .ref y20, .ref y21, .ref y22, .ref y23, .ref y24, .ref y25, .ref y26, .ref y27, .int mhw, .int (nI mwn), .ref y28, .ref y29, .ref y30, .ref y31, .ref y32, .ref y33, .ref y34, .ref y35, .ref y36, .int (nI mbm), .ref y37, .ref y38, .int (nI mrm), .int mro, .int mrs])), (y12, .inl (cI, 1536, .inl MG)), (y13, .inl (cI, 12, .inl (fun zy => nI (MY zy))))] s.heap := hP
  have hl := lv_entry ([.ref y, .int i, .int u, .int z]) (n := 4) (Nat.le_of_ble_eq_true rfl)
  rw [lg_entry_eq]
  generalize (lg_sl ([.ref y, .int i, .int u, .int z]) ++ List.replicate (4 - (lg_sl ([.ref y, .int i, .int u, .int z])).length) Slot.unset).toArray = ls at hl ⊢
  have hl : lv_has ls 4 [(0, .ref y), (1, .int i), (2, .int u), (3, .int z)] := hl
  refine lv_aload_n hx hb d_MO_stateAt_0 rfl (lv_at hl 0 rfl) ?_
  refine lv_iload_n hx hb d_MO_stateAt_1 rfl (lv_at hl 1 rfl) ?_
  have hPc := hP.sub (ws' := [(y, .inr (7, [.int (nI mn), .int mtm, .int mgp, .int mlk, .ref y1, .ref y2, .ref y3, .ref y4, .int (nI mp), .ref y5, .ref y6, .ref y7, .ref y8, .ref y9, .ref y10, .ref y11, .ref y12, .ref y13, .ref y14, .ref y15, .int (nI mq), .ref y16, .ref y17, .ref y18, .ref y19, .ref y20, .ref y21, .ref y22, .ref y23, .ref y24, .ref y25, .ref y26, .ref y27, .int mhw, .int (nI mwn), .ref y28, .ref y29, .ref y30, .ref y31, .ref y32, .ref y33, .ref y34, .ref y35, .ref y36, .int (nI mbm), .ref y37, .ref y38, .int (nI mrm), .int mro, .int mrs]))]) [0] rfl
  have hDc := hD.sub (ws' := [(y, .inr (7, [.int (nI mn), .int mtm, .int mgp, .int mlk, .ref y1, .ref y2, .ref y3, .ref y4, .int (nI mp), .ref y5, .ref y6, .ref y7, .ref y8, .ref y9, .ref y10, .ref y11, .ref y12, .ref y13, .ref y14, .ref y15, .int (nI mq), .ref y16, .ref y17, .ref y18, .ref y19, .ref y20, .ref y21, .ref y22, .ref y23, .ref y24, .ref y25, .ref y26, .ref y27, .int mhw, .int (nI mwn), .ref y28, .ref y29, .ref y30, .ref y31, .ref y32, .ref y33, .ref y34, .ref y35, .ref y36, .int (nI mbm), .ref y37, .ref y38, .int (nI mrm), .int mro, .int mrs]))]) [0] (by decide +kernel) rfl
  refine vp_callSi (va_Run.run (va_runV (As := [.int i]) (rest := []) ⟨hx, hb, hml, hown, hts⟩ (e_MO_isPair l D cI cZ y i mn mtm mgp mlk y1 y2 y3 y4 mp y5 y6 y7 y8 y9 y10 y11 y12 y13 y14 y15 mq y16 y17 y18 y19 y20 y21 y22 y23 y24 y25 y26 y27 mhw mwn y28 y29 y30 y31 y32 y33 y34 y35 y36 mbm y37 y38 mrm mro mrs s.heap.size h_mn h_mp h_mq h_mwn h_mbm h_mrm) (my_cwV 1 hts q_898 q_895 q_897 q_p19 q_8 rfl rfl (by decide +kernel) ⟨Nat.le_of_ble_eq_true rfl, Nat.le_of_ble_eq_true rfl⟩) (my_preV hPc hDc hK hN 7 0 rfl rfl) rfl rfl hl.1 rfl (lv_room (Nat.le_of_ble_eq_true rfl)) d_MO_stateAt_2 ⟨Nat.le_of_ble_eq_true rfl, Nat.le_of_ble_eq_true rfl⟩)) (fun r_1 hw_1 => ?_)
  rcases hw_1 with ⟨hg_2, rfl⟩ | ⟨j_3, hg_4, hg_5, hg_6, rfl⟩
  · have hg_2 : isw i 0 (nI mp - 1) = 0 := hg_2
    refine lv_if_eq (tgt := 21) hx hb d_MO_stateAt_5 (by decide) (fun _ => ?_) (fun h => absurd h (by decide))
    refine lv_bipush (v := (-2)) hx hb d_MO_stateAt_21 (by decide) ?_
    exact W.iret (v := (-2)) hx hb hr (fun tT ht hW => ⟨(-2), rfl, trivial, ht⟩) (fun q h => absurd h List.not_mem_nil) d_MO_stateAt_23
  · have hg_4 : j_3 < mp := hg_4
    have hg_5 : i = nI j_3 := hg_5
    have hg_6 : ¬ isw i 0 (nI mp - 1) = 0 := hg_6
    subst hg_5
    refine lv_if_eq (tgt := 21) hx hb d_MO_stateAt_5 (by decide) (fun h => absurd h (by decide)) (fun _ => ?_)
    refine lv_iload_n hx hb d_MO_stateAt_8 rfl (lv_at hl 2 rfl) ?_
    refine lv_if_lt (tgt := 21) hx hb d_MO_stateAt_9 (by decide) (fun h_9 => ?_) (fun h_9 => ?_)
    · refine lv_bipush (v := (-2)) hx hb d_MO_stateAt_21 (by decide) ?_
      exact W.iret (v := (-2)) hx hb hr (fun tT ht hW => ⟨(-2), rfl, trivial, ht⟩) (fun q h => absurd h List.not_mem_nil) d_MO_stateAt_23
    · refine lv_iload_n hx hb d_MO_stateAt_12 rfl (lv_at hl 3 rfl) ?_
      refine lv_iconst (v := 0) hx hb d_MO_stateAt_13 (by decide) ?_
      refine lv_iconst (v := 1) hx hb d_MO_stateAt_14 (by decide) ?_
      have hPc := hP.sub (ws' := []) [] rfl
      have hDc := hD.sub (ws' := []) [] (by decide +kernel) rfl
      refine vp_callSi (va_Run.run (va_runS (As := [.int z, .int 0, .int 1]) (rest := []) ⟨hx, hb, hml, hown, hts⟩ (e_MO_in l D cI cZ z 0 1 s.heap.size ) (my_cwS 3 hts q_789 q_787 q_788 q_8 rfl rfl (by decide +kernel) ⟨Nat.le_of_ble_eq_true rfl, Nat.le_of_ble_eq_true rfl⟩) (my_preS hPc hDc hK hN) rfl rfl hl.1 rfl (lv_room (Nat.le_of_ble_eq_true rfl)) d_MO_stateAt_15 ⟨Nat.le_of_ble_eq_true rfl, Nat.le_of_ble_eq_true rfl⟩)) (fun r_10 hw_10 => ?_)
      have hf_10_0 : r_10 = isw z 0 1 := hw_10
      have hf_10_0 : r_10 = isw z 0 1 := hf_10_0
      subst hf_10_0
      refine lv_if_ne (tgt := 24) hx hb d_MO_stateAt_18 (by decide) (fun h_11 => ?_) (fun h_11 => ?_)
      · obtain ⟨t_12, hx_13, rfl⟩ := isw_lo (K := 1) (by decide) rfl h_11
        obtain ⟨m0, hm0, rfl⟩ := nI_of h_9
        refine lv_iload_n hx hb d_MO_stateAt_24 rfl (lv_at hl 2 rfl) ?_
        refine lv_aload_n hx hb d_MO_stateAt_25 rfl (lv_at hl 0 rfl) ?_
        refine va_get (D := D) (ci := 7) (v := .ref y13) (C := R_MO) (T := F_MO) (N := 50) hx hb hts i_MO hown hK hP 0 rfl rfl 17 (by decide) (hts _ q_649) (fun _ h9 => h9) rfl d_MO_stateAt_26 ?_
        refine lv_iload_n hx hb d_MO_stateAt_29 rfl (lv_at hl 1 rfl) ?_
        refine my_ldN hx hb hK hP 2 rfl j_3 rfl (by omega) (by decide) d_MO_stateAt_30 ?_
        have hb_1 : MY j_3 ≤ 64 := h_MY _
        refine lv_icmp_ge (tgt := 53) hx hb d_MO_stateAt_31 (by decide) (fun h_14 => ?_) (fun h_14 => ?_)
        · have nh_14 : (MY j_3) ≤ m0 := (nI_leI (a := (MY j_3)) (b := m0) (by omega) (by omega)).mp h_14
          refine lv_iconst (v := (-1)) hx hb d_MO_stateAt_53 (by decide) ?_
          exact W.iret (v := (-1)) hx hb hr (fun tT ht hW => ⟨(-1), rfl, trivial, ht⟩) (fun q h => absurd h List.not_mem_nil) d_MO_stateAt_54
        · have nh_14 : ¬ (MY j_3) ≤ m0 := fun qZ => h_14 ((nI_leI (a := (MY j_3)) (b := m0) (by omega) (by omega)).mpr qZ)
          refine lv_aload_n hx hb d_MO_stateAt_34 rfl (lv_at hl 0 rfl) ?_
          refine va_get (D := D) (ci := 7) (v := .ref y12) (C := R_MO) (T := F_MO) (N := 50) hx hb hts i_MO hown hK hP 0 rfl rfl 16 (by decide) (hts _ q_648) (fun _ h9 => h9) rfl d_MO_stateAt_35 ?_
          refine lv_sipush (v := 128) hx hb d_MO_stateAt_38 (by decide) ?_
          refine lv_iload_n hx hb d_MO_stateAt_41 rfl (lv_at hl 1 rfl) ?_
          refine lv_imul hx hb d_MO_stateAt_42 ?_
          refine lv_seti (nI (128 * j_3)) (pk_mul 128 j_3) ?_
          refine lv_iconst (v := 2) hx hb d_MO_stateAt_43 (by decide) ?_
          refine lv_iload_n hx hb d_MO_stateAt_44 rfl (lv_at hl 2 rfl) ?_
          refine lv_imul hx hb d_MO_stateAt_45 ?_
          refine lv_seti (nI (2 * m0)) (pk_mul 2 m0) ?_
          refine lv_iadd hx hb d_MO_stateAt_46 ?_
          refine lv_seti (nI ((128 * j_3) + (2 * m0))) (nI_add (128 * j_3) (2 * m0)) ?_
          refine lv_iload_n hx hb d_MO_stateAt_47 rfl (lv_at hl 3 rfl) ?_
          refine lv_iadd hx hb d_MO_stateAt_48 ?_
          refine lv_seti (nI (((128 * j_3) + (2 * m0)) + t_12)) (nI_add ((128 * j_3) + (2 * m0)) t_12) ?_
          refine my_ldI hx hb hK hP 1 rfl (((128 * j_3) + (2 * m0)) + t_12) rfl (by omega) (by decide) d_MO_stateAt_49 ?_
          refine lv_goto (tgt := 54) hx hb d_MO_stateAt_50 (by decide) ?_
          exact W.iret (v := (MG (((128 * j_3) + (2 * m0)) + t_12))) hx hb hr (fun tT ht hW => ⟨(MG (((128 * j_3) + (2 * m0)) + t_12)), rfl, trivial, ht⟩) (fun q h => absurd h List.not_mem_nil) d_MO_stateAt_54
      · refine lv_bipush (v := (-2)) hx hb d_MO_stateAt_21 (by decide) ?_
        exact W.iret (v := (-2)) hx hb hr (fun tT ht hW => ⟨(-2), rfl, trivial, ht⟩) (fun q h => absurd h List.not_mem_nil) d_MO_stateAt_23

set_option maxHeartbeats 4000000 in
set_option maxRecDepth 100000 in
theorem e_MO_wealthOf (l : Launch) (D : va_G) (cI cZ : ClassId) (y : Nat) (a : Nat) (mn : Nat) (mtm : Int32) (mgp : Int32) (mlk : Int32) (y1 : Nat) (y2 : Nat) (y3 : Nat) (y4 : Nat) (mp : Nat) (y5 : Nat) (y6 : Nat) (y7 : Nat) (y8 : Nat) (y9 : Nat) (y10 : Nat) (y11 : Nat) (y12 : Nat) (y13 : Nat) (y14 : Nat) (y15 : Nat) (mq : Nat) (y16 : Nat) (y17 : Nat) (y18 : Nat) (y19 : Nat) (y20 : Nat) (y21 : Nat) (y22 : Nat) (y23 : Nat) (y24 : Nat) (y25 : Nat) (y26 : Nat) (y27 : Nat) (mhw : Int32) (mwn : Nat) (y28 : Nat) (y29 : Nat) (y30 : Nat) (y31 : Nat) (y32 : Nat) (y33 : Nat) (y34 : Nat) (y35 : Nat) (y36 : Nat) (mbm : Nat) (y37 : Nat) (y38 : Nat) (mrm : Nat) (mro : Int32) (mrs : Int32) (MC : Nat → Int32) (ME : Nat → Nat) (MS : Nat → Int32) (MLk : Nat → Int32) (sz : Nat) (h_mn : mn ≤ 7) (h_mp : mp ≤ 12) (h_mq : mq ≤ 40) (h_mwn : mwn ≤ 8) (h_mbm : mbm ≤ 8) (h_mrm : mrm ≤ 8) (h_ME : ∀ zz, ME zz ≤ 6) (ha7 : a < 7) : Met l ⟨"PromiseChainsModel", "wealthOf", "(I)I"⟩ (mw ⟨"PromiseChainsModel", "wealthOf", "(I)I"⟩ prog_9_method_37_code 4 (some .int)) ({ frames := 0, cells := 0, slots := 0, locals := 0 }) (va_Pc [.ref y, .int (nI a)] (PB D cI cZ sz [(y, .inr (7, [.int (nI mn), .int mtm, .int mgp, .int mlk, .ref y1, .ref y2, .ref y3, .ref y4, .int (nI mp), .ref y5, .ref y6, .ref y7, .ref y8, .ref y9, .ref y10, .ref y11, .ref y12, .ref y13, .ref y14, .ref y15, .int (nI mq), .ref y16, .ref y17, .ref y18, .ref y19, .ref y20, .ref y21, .ref y22, .ref y23, .ref y24, .ref y25, .ref y26, .ref y27, .int mhw, .int (nI mwn), .ref y28, .ref y29, .ref y30, .ref y31, .ref y32, .ref y33, .ref y34, .ref y35, .ref y36, .int (nI mbm), .ref y37, .ref y38, .int (nI mrm), .int mro, .int mrs])), (y2, .inl (cI, 7, .inl MC)), (y5, .inl (cI, 24, .inl (fun zy => nI (ME zy)))), (y6, .inl (cI, 24, .inl MS)), (y7, .inl (cI, 24, .inl MLk))])) (vp_Si (fun r => True)) 0 0 (fun _ => False) := by
  refine Met.ofW (cc := prog_9_method_37_code) (maxL := 4) (ret := (some .int)) (by decide) rfl ?_
  intro p e s m args below meth c s₁ B hml hv
  obtain ⟨rfl, hsz, hP, hK, hD0, hN⟩ := hv
  have hx := B.exec
  have hb := B.bytes
  have hr := B.returns
  have hts0 := atoms_spec (ws := mw ⟨"PromiseChainsModel", "wealthOf", "(I)I"⟩ prog_9_method_37_code 4 (some .int)) B.pre
  have hts : ∀ w ∈ tblG, w.before _ s = true := fun w h => hts0 w (List.mem_cons_of_mem _ h)
  have hown : s.vm.findClass "PromiseChainsModel" = some m.cls := findClass_of_methodNamed B.named
  have hlocks := B.notSynchronized
  subst hsz
  have hD := hD0
  have hP : va_P D vwCl [(y, .inr (7, [.int (nI mn), .int mtm, .int mgp, .int mlk, .ref y1, .ref y2, .ref y3, .ref y4, .int (nI mp), .ref y5, .ref y6, .ref y7, .ref y8, .ref y9, .ref y10, .ref y11, .ref y12, .ref y13, .ref y14, .ref y15, .int (nI mq), .ref y16, .ref y17, .ref y18, .ref y19, .ref y20, .ref y21, .ref y22, .ref y23, .ref y24, .ref y25, .ref y26, .ref y27, .int mhw, .int (nI mwn), .ref y28, .ref y29, .ref y30, .ref y31, .ref y32, .ref y33, .ref y34, .ref y35, .ref y36, .int (nI mbm), .ref y37, .ref y38, .int (nI mrm), .int mro, .int mrs])), (y2, .inl (cI, 7, .inl MC)), (y5, .inl (cI, 24, .inl (fun zy => nI (ME zy)))), (y6, .inl (cI, 24, .inl MS)), (y7, .inl (cI, 24, .inl MLk))] s.heap := hP
  have hl := lv_entry ([.ref y, .int (nI a)]) (n := 4) (Nat.le_of_ble_eq_true rfl)
  rw [lg_entry_eq]
  generalize (lg_sl ([.ref y, .int (nI a)]) ++ List.replicate (4 - (lg_sl ([.ref y, .int (nI a)])).length) Slot.unset).toArray = ls at hl ⊢
  have hl : lv_has ls 4 [(0, .ref y), (1, .int (nI a))] := hl
  refine lv_aload_n hx hb d_MO_wealthOf_0 rfl (lv_at hl 0 rfl) ?_
  refine va_get (D := D) (ci := 7) (v := .ref y2) (C := R_MO) (T := F_MO) (N := 50) hx hb hts i_MO hown hK hP 0 rfl rfl 5 (by decide) (hts _ q_637) (fun _ h9 => h9) rfl d_MO_wealthOf_1 ?_
  refine lv_iload_n hx hb d_MO_wealthOf_4 rfl (lv_at hl 1 rfl) ?_
  refine my_ldI hx hb hK hP 1 rfl a rfl (by omega) (by decide) d_MO_wealthOf_5 ?_
  refine lv_istore_n (lv' := [(2, .int (MC a)), (0, .ref y), (1, .int (nI a))]) hx hb d_MO_wealthOf_6 rfl hl (by decide) rfl (fun ls hl => ?_)
  refine lv_iconst (v := 0) hx hb d_MO_wealthOf_7 (by decide) ?_
  refine lv_istore_n (lv' := [(3, .int 0), (2, .int (MC a)), (0, .ref y), (1, .int (nI a))]) hx hb d_MO_wealthOf_8 rfl hl (by decide) rfl (fun ls hl => ?_)
  refine W_loop (σ := Nat × Int32) (I := fun xX H locs ls => xX.1 ≤ 2 * mp ∧ H = s.heap ∧ locs = [] ∧ lv_has ls 4 [(3, .int (nI xX.1)), (2, .int xX.2), (1, .int (nI a)), (0, .ref y)]) (μ := fun xX => 25 - xX.1) ?_ (0, (MC a)) ⟨(by first | omega | (dsimp only; omega)), rfl, rfl, lv_sub hl [0, 1, 3, 2] rfl⟩
  intro xX H_1 locs ls hI ih1
  obtain ⟨k_l, sm_v⟩ := xX
  obtain ⟨hk, rfl, rfl, hl⟩ := hI
  have hl : lv_has ls 4 [(3, .int (nI k_l)), (2, .int sm_v), (1, .int (nI a)), (0, .ref y)] := hl
  have hk : k_l ≤ 2 * mp := hk
  refine lv_iload_n hx hb d_MO_wealthOf_9 rfl (lv_at hl 0 rfl) ?_
  refine lv_iconst (v := 2) hx hb d_MO_wealthOf_10 (by decide) ?_
  refine lv_aload_n hx hb d_MO_wealthOf_11 rfl (lv_at hl 3 rfl) ?_
  refine va_get (D := D) (ci := 7) (v := .int (nI mp)) (C := R_MO) (T := F_MO) (N := 50) hx hb hts i_MO hown hK hP 0 rfl rfl 8 (by decide) (hts _ q_640) (fun _ h9 => h9) rfl d_MO_wealthOf_12 ?_
  refine lv_imul hx hb d_MO_wealthOf_15 ?_
  refine lv_seti (nI (2 * mp)) (pk_mul 2 mp) ?_
  refine lv_icmp_ge (tgt := 55) hx hb d_MO_wealthOf_16 (by decide) (fun h_2 => ?_) (fun h_2 => ?_)
  · have nh_2 : (2 * mp) ≤ k_l := (nI_leI (a := (2 * mp)) (b := k_l) (by omega) (by omega)).mp h_2
    refine lv_iload_n hx hb d_MO_wealthOf_55 rfl (lv_at hl 1 rfl) ?_
    exact W.iret (v := sm_v) hx hb hr (fun tT ht hW => ⟨sm_v, rfl, trivial, ht⟩) (fun q h => absurd h List.not_mem_nil) d_MO_wealthOf_56
  · have nh_2 : ¬ (2 * mp) ≤ k_l := fun qZ => h_2 ((nI_leI (a := (2 * mp)) (b := k_l) (by omega) (by omega)).mpr qZ)
    refine lv_iload_n hx hb d_MO_wealthOf_19 rfl (lv_at hl 1 rfl) ?_
    refine lv_aload_n hx hb d_MO_wealthOf_20 rfl (lv_at hl 3 rfl) ?_
    refine va_get (D := D) (ci := 7) (v := .ref y5) (C := R_MO) (T := F_MO) (N := 50) hx hb hts i_MO hown hK hP 0 rfl rfl 9 (by decide) (hts _ q_641) (fun _ h9 => h9) rfl d_MO_wealthOf_21 ?_
    refine lv_iload_n hx hb d_MO_wealthOf_24 rfl (lv_at hl 0 rfl) ?_
    refine my_ldN hx hb hK hP 2 rfl k_l rfl (by omega) (by decide) d_MO_wealthOf_25 ?_
    have hb_1 : ME k_l ≤ 6 := h_ME _
    refine lv_iload_n hx hb d_MO_wealthOf_26 rfl (lv_at hl 2 rfl) ?_
    refine lv_icmp_ne (tgt := 46) hx hb d_MO_wealthOf_27 (by decide) (fun h_3 => ?_) (fun h_3 => ?_)
    · have nh_3 : ¬ (ME k_l) = a := fun qZ => h_3 ((nI_eq (a := (ME k_l)) (b := a) (by omega) (by omega)).mpr qZ)
      refine lv_iconst (v := 0) hx hb d_MO_wealthOf_46 (by decide) ?_
      refine lv_iadd hx hb d_MO_wealthOf_47 ?_
      refine lv_istore_n (lv' := [(2, .int (sm_v + 0)), (3, .int (nI k_l)), (1, .int (nI a)), (0, .ref y)]) hx hb d_MO_wealthOf_48 rfl hl (by decide) rfl (fun ls hl => ?_)
      refine lv_iinc (v := nI (k_l + 1)) (lv' := [(3, .int (nI (k_l + 1))), (2, .int (sm_v + 0)), (1, .int (nI a)), (0, .ref y)]) hx hb d_MO_wealthOf_49 hl (k := 1) rfl (nI_1 k_l) (by decide) rfl (fun ls hl => ?_)
      refine lv_goto (tgt := 9) hx hb d_MO_wealthOf_52 (by decide) ?_
      exact ih1 ((k_l + 1), sm_v + 0) _ _ _ (by first | omega | (dsimp only; omega)) ⟨(by first | omega | (dsimp only; omega)), rfl, rfl, lv_sub hl [0, 1, 2, 3] rfl⟩
    · have nh_3 : (ME k_l) = a := (nI_eq (a := (ME k_l)) (b := a) (by omega) (by omega)).mp h_3
      refine lv_aload_n hx hb d_MO_wealthOf_30 rfl (lv_at hl 3 rfl) ?_
      refine va_get (D := D) (ci := 7) (v := .ref y6) (C := R_MO) (T := F_MO) (N := 50) hx hb hts i_MO hown hK hP 0 rfl rfl 10 (by decide) (hts _ q_642) (fun _ h9 => h9) rfl d_MO_wealthOf_31 ?_
      refine lv_iload_n hx hb d_MO_wealthOf_34 rfl (lv_at hl 0 rfl) ?_
      refine my_ldI hx hb hK hP 3 rfl k_l rfl (by omega) (by decide) d_MO_wealthOf_35 ?_
      refine lv_aload_n hx hb d_MO_wealthOf_36 rfl (lv_at hl 3 rfl) ?_
      refine va_get (D := D) (ci := 7) (v := .ref y7) (C := R_MO) (T := F_MO) (N := 50) hx hb hts i_MO hown hK hP 0 rfl rfl 11 (by decide) (hts _ q_643) (fun _ h9 => h9) rfl d_MO_wealthOf_37 ?_
      refine lv_iload_n hx hb d_MO_wealthOf_40 rfl (lv_at hl 0 rfl) ?_
      refine my_ldI hx hb hK hP 4 rfl k_l rfl (by omega) (by decide) d_MO_wealthOf_41 ?_
      refine lv_iadd hx hb d_MO_wealthOf_42 ?_
      refine lv_goto (tgt := 47) hx hb d_MO_wealthOf_43 (by decide) ?_
      refine lv_iadd hx hb d_MO_wealthOf_47 ?_
      refine lv_istore_n (lv' := [(2, .int (sm_v + ((MS k_l) + (MLk k_l)))), (3, .int (nI k_l)), (1, .int (nI a)), (0, .ref y)]) hx hb d_MO_wealthOf_48 rfl hl (by decide) rfl (fun ls hl => ?_)
      refine lv_iinc (v := nI (k_l + 1)) (lv' := [(3, .int (nI (k_l + 1))), (2, .int (sm_v + ((MS k_l) + (MLk k_l)))), (1, .int (nI a)), (0, .ref y)]) hx hb d_MO_wealthOf_49 hl (k := 1) rfl (nI_1 k_l) (by decide) rfl (fun ls hl => ?_)
      refine lv_goto (tgt := 9) hx hb d_MO_wealthOf_52 (by decide) ?_
      exact ih1 ((k_l + 1), sm_v + ((MS k_l) + (MLk k_l))) _ _ _ (by first | omega | (dsimp only; omega)) ⟨(by first | omega | (dsimp only; omega)), rfl, rfl, lv_sub hl [0, 1, 2, 3] rfl⟩

set_option maxHeartbeats 4000000 in
set_option maxRecDepth 100000 in
theorem e_MO_wealth (l : Launch) (D : va_G) (cI cZ : ClassId) (y : Nat) (i : Int32) (mn : Nat) (mtm : Int32) (mgp : Int32) (mlk : Int32) (y1 : Nat) (y2 : Nat) (y3 : Nat) (y4 : Nat) (mp : Nat) (y5 : Nat) (y6 : Nat) (y7 : Nat) (y8 : Nat) (y9 : Nat) (y10 : Nat) (y11 : Nat) (y12 : Nat) (y13 : Nat) (y14 : Nat) (y15 : Nat) (mq : Nat) (y16 : Nat) (y17 : Nat) (y18 : Nat) (y19 : Nat) (y20 : Nat) (y21 : Nat) (y22 : Nat) (y23 : Nat) (y24 : Nat) (y25 : Nat) (y26 : Nat) (y27 : Nat) (mhw : Int32) (mwn : Nat) (y28 : Nat) (y29 : Nat) (y30 : Nat) (y31 : Nat) (y32 : Nat) (y33 : Nat) (y34 : Nat) (y35 : Nat) (y36 : Nat) (mbm : Nat) (y37 : Nat) (y38 : Nat) (mrm : Nat) (mro : Int32) (mrs : Int32) (MC : Nat → Int32) (ME : Nat → Nat) (MS : Nat → Int32) (MLk : Nat → Int32) (sz : Nat) (h_mn : mn ≤ 7) (h_mp : mp ≤ 12) (h_mq : mq ≤ 40) (h_mwn : mwn ≤ 8) (h_mbm : mbm ≤ 8) (h_mrm : mrm ≤ 8) (h_ME : ∀ zz, ME zz ≤ 6) : Met l ⟨"PromiseChainsModel", "wealth", "(I)I"⟩ (mw ⟨"PromiseChainsModel", "wealth", "(I)I"⟩ prog_9_method_38_code 2 (some .int)) ({ frames := 2, cells := 0, slots := 0, locals := 43 }) (va_Pc [.ref y, .int i] (PB D cI cZ sz [(y, .inr (7, [.int (nI mn), .int mtm, .int mgp, .int mlk, .ref y1, .ref y2, .ref y3, .ref y4, .int (nI mp), .ref y5, .ref y6, .ref y7, .ref y8, .ref y9, .ref y10, .ref y11, .ref y12, .ref y13, .ref y14, .ref y15, .int (nI mq), .ref y16, .ref y17, .ref y18, .ref y19, .ref y20, .ref y21, .ref y22, .ref y23, .ref y24, .ref y25, .ref y26, .ref y27, .int mhw, .int (nI mwn), .ref y28, .ref y29, .ref y30, .ref y31, .ref y32, .ref y33, .ref y34, .ref y35, .ref y36, .int (nI mbm), .ref y37, .ref y38, .int (nI mrm), .int mro, .int mrs])), (y2, .inl (cI, 7, .inl MC)), (y5, .inl (cI, 24, .inl (fun zy => nI (ME zy)))), (y6, .inl (cI, 24, .inl MS)), (y7, .inl (cI, 24, .inl MLk))])) (vp_Si (fun r => True)) 0 0 (fun _ => False) := by
  refine Met.ofW (cc := prog_9_method_38_code) (maxL := 2) (ret := (some .int)) (by decide) rfl ?_
  intro p e s m args below meth c s₁ B hml hv
  obtain ⟨rfl, hsz, hP, hK, hD0, hN⟩ := hv
  have hx := B.exec
  have hb := B.bytes
  have hr := B.returns
  have hts0 := atoms_spec (ws := mw ⟨"PromiseChainsModel", "wealth", "(I)I"⟩ prog_9_method_38_code 2 (some .int)) B.pre
  have hts : ∀ w ∈ tblG, w.before _ s = true := fun w h => hts0 w (List.mem_cons_of_mem _ h)
  have hown : s.vm.findClass "PromiseChainsModel" = some m.cls := findClass_of_methodNamed B.named
  have hlocks := B.notSynchronized
  subst hsz
  have hD := hD0
  have hP : va_P D vwCl [(y, .inr (7, [.int (nI mn), .int mtm, .int mgp, .int mlk, .ref y1, .ref y2, .ref y3, .ref y4, .int (nI mp), .ref y5, .ref y6, .ref y7, .ref y8, .ref y9, .ref y10, .ref y11, .ref y12, .ref y13, .ref y14, .ref y15, .int (nI mq), .ref y16, .ref y17, .ref y18, .ref y19, .ref y20, .ref y21, .ref y22, .ref y23, .ref y24, .ref y25, .ref y26, .ref y27, .int mhw, .int (nI mwn), .ref y28, .ref y29, .ref y30, .ref y31, .ref y32, .ref y33, .ref y34, .ref y35, .ref y36, .int (nI mbm), .ref y37, .ref y38, .int (nI mrm), .int mro, .int mrs])), (y2, .inl (cI, 7, .inl MC)), (y5, .inl (cI, 24, .inl (fun zy => nI (ME zy)))), (y6, .inl (cI, 24, .inl MS)), (y7, .inl (cI, 24, .inl MLk))] s.heap := hP
  have hl := lv_entry ([.ref y, .int i]) (n := 2) (Nat.le_of_ble_eq_true rfl)
  rw [lg_entry_eq]
  generalize (lg_sl ([.ref y, .int i]) ++ List.replicate (2 - (lg_sl ([.ref y, .int i])).length) Slot.unset).toArray = ls at hl ⊢
  have hl : lv_has ls 2 [(0, .ref y), (1, .int i)] := hl
  refine lv_aload_n hx hb d_MO_wealth_0 rfl (lv_at hl 0 rfl) ?_
  refine lv_iload_n hx hb d_MO_wealth_1 rfl (lv_at hl 1 rfl) ?_
  have hPc := hP.sub (ws' := [(y, .inr (7, [.int (nI mn), .int mtm, .int mgp, .int mlk, .ref y1, .ref y2, .ref y3, .ref y4, .int (nI mp), .ref y5, .ref y6, .ref y7, .ref y8, .ref y9, .ref y10, .ref y11, .ref y12, .ref y13, .ref y14, .ref y15, .int (nI mq), .ref y16, .ref y17, .ref y18, .ref y19, .ref y20, .ref y21, .ref y22, .ref y23, .ref y24, .ref y25, .ref y26, .ref y27, .int mhw, .int (nI mwn), .ref y28, .ref y29, .ref y30, .ref y31, .ref y32, .ref y33, .ref y34, .ref y35, .ref y36, .int (nI mbm), .ref y37, .ref y38, .int (nI mrm), .int mro, .int mrs]))]) [0] rfl
  have hDc := hD.sub (ws' := [(y, .inr (7, [.int (nI mn), .int mtm, .int mgp, .int mlk, .ref y1, .ref y2, .ref y3, .ref y4, .int (nI mp), .ref y5, .ref y6, .ref y7, .ref y8, .ref y9, .ref y10, .ref y11, .ref y12, .ref y13, .ref y14, .ref y15, .int (nI mq), .ref y16, .ref y17, .ref y18, .ref y19, .ref y20, .ref y21, .ref y22, .ref y23, .ref y24, .ref y25, .ref y26, .ref y27, .int mhw, .int (nI mwn), .ref y28, .ref y29, .ref y30, .ref y31, .ref y32, .ref y33, .ref y34, .ref y35, .ref y36, .int (nI mbm), .ref y37, .ref y38, .int (nI mrm), .int mro, .int mrs]))]) [0] (by decide +kernel) rfl
  refine vp_callSi (va_Run.run (va_runV (As := [.int i]) (rest := []) ⟨hx, hb, hml, hown, hts⟩ (e_MO_isPerson l D cI cZ y i mn mtm mgp mlk y1 y2 y3 y4 mp y5 y6 y7 y8 y9 y10 y11 y12 y13 y14 y15 mq y16 y17 y18 y19 y20 y21 y22 y23 y24 y25 y26 y27 mhw mwn y28 y29 y30 y31 y32 y33 y34 y35 y36 mbm y37 y38 mrm mro mrs s.heap.size h_mn h_mp h_mq h_mwn h_mbm h_mrm) (my_cwV 1 hts q_797 q_794 q_796 q_p5 q_8 rfl rfl (by decide +kernel) ⟨Nat.le_of_ble_eq_true rfl, Nat.le_of_ble_eq_true rfl⟩) (my_preV hPc hDc hK hN 7 0 rfl rfl) rfl rfl hl.1 rfl (lv_room (Nat.le_of_ble_eq_true rfl)) d_MO_wealth_2 ⟨Nat.le_of_ble_eq_true rfl, Nat.le_of_ble_eq_true rfl⟩)) (fun r_1 hw_1 => ?_)
  rcases hw_1 with ⟨hg_2, rfl⟩ | ⟨j_3, hg_4, hg_5, hg_6, rfl⟩
  · have hg_2 : isw i 0 (nI mn - 1) = 0 := hg_2
    refine lv_if_eq (tgt := 16) hx hb d_MO_wealth_5 (by decide) (fun _ => ?_) (fun h => absurd h (by decide))
    refine lv_bipush (v := (-2)) hx hb d_MO_wealth_16 (by decide) ?_
    exact W.iret (v := (-2)) hx hb hr (fun tT ht hW => ⟨(-2), rfl, trivial, ht⟩) (fun q h => absurd h List.not_mem_nil) d_MO_wealth_18
  · have hg_4 : j_3 < mn := hg_4
    have hg_5 : i = nI j_3 := hg_5
    have hg_6 : ¬ isw i 0 (nI mn - 1) = 0 := hg_6
    subst hg_5
    refine lv_if_eq (tgt := 16) hx hb d_MO_wealth_5 (by decide) (fun h => absurd h (by decide)) (fun _ => ?_)
    refine lv_aload_n hx hb d_MO_wealth_8 rfl (lv_at hl 0 rfl) ?_
    refine lv_iload_n hx hb d_MO_wealth_9 rfl (lv_at hl 1 rfl) ?_
    have hPc := hP.sub (ws' := [(y, .inr (7, [.int (nI mn), .int mtm, .int mgp, .int mlk, .ref y1, .ref y2, .ref y3, .ref y4, .int (nI mp), .ref y5, .ref y6, .ref y7, .ref y8, .ref y9, .ref y10, .ref y11, .ref y12, .ref y13, .ref y14, .ref y15, .int (nI mq), .ref y16, .ref y17, .ref y18, .ref y19, .ref y20, .ref y21, .ref y22, .ref y23, .ref y24, .ref y25, .ref y26, .ref y27, .int mhw, .int (nI mwn), .ref y28, .ref y29, .ref y30, .ref y31, .ref y32, .ref y33, .ref y34, .ref y35, .ref y36, .int (nI mbm), .ref y37, .ref y38, .int (nI mrm), .int mro, .int mrs])), (y2, .inl (cI, 7, .inl MC)), (y5, .inl (cI, 24, .inl (fun zy => nI (ME zy)))), (y6, .inl (cI, 24, .inl MS)), (y7, .inl (cI, 24, .inl MLk))]) [0, 1, 2, 3, 4] rfl
    have hDc := hD.sub (ws' := [(y, .inr (7, [.int (nI mn), .int mtm, .int mgp, .int mlk, .ref y1, .ref y2, .ref y3, .ref y4, .int (nI mp), .ref y5, .ref y6, .ref y7, .ref y8, .ref y9, .ref y10, .ref y11, .ref y12, .ref y13, .ref y14, .ref y15, .int (nI mq), .ref y16, .ref y17, .ref y18, .ref y19, .ref y20, .ref y21, .ref y22, .ref y23, .ref y24, .ref y25, .ref y26, .ref y27, .int mhw, .int (nI mwn), .ref y28, .ref y29, .ref y30, .ref y31, .ref y32, .ref y33, .ref y34, .ref y35, .ref y36, .int (nI mbm), .ref y37, .ref y38, .int (nI mrm), .int mro, .int mrs])), (y2, .inl (cI, 7, .inl MC)), (y5, .inl (cI, 24, .inl (fun zy => nI (ME zy)))), (y6, .inl (cI, 24, .inl MS)), (y7, .inl (cI, 24, .inl MLk))]) [0, 1, 2, 3, 4] (by decide +kernel) rfl
    refine vp_callSi (va_Run.run (va_runV (As := [.int (nI j_3)]) (rest := []) ⟨hx, hb, hml, hown, hts⟩ (e_MO_wealthOf l D cI cZ y j_3 mn mtm mgp mlk y1 y2 y3 y4 mp y5 y6 y7 y8 y9 y10 y11 y12 y13 y14 y15 mq y16 y17 y18 y19 y20 y21 y22 y23 y24 y25 y26 y27 mhw mwn y28 y29 y30 y31 y32 y33 y34 y35 y36 mbm y37 y38 mrm mro mrs MC ME MS MLk s.heap.size h_mn h_mp h_mq h_mwn h_mbm h_mrm h_ME (by first | omega | (dsimp only; omega))) (my_cwV 1 hts q_926 q_923 q_925 q_p21 q_8 rfl rfl (by decide +kernel) ⟨Nat.le_of_ble_eq_true rfl, Nat.le_of_ble_eq_true rfl⟩) (my_preV hPc hDc hK hN 7 0 rfl rfl) rfl rfl hl.1 rfl (lv_room (Nat.le_of_ble_eq_true rfl)) d_MO_wealth_10 ⟨Nat.le_of_ble_eq_true rfl, Nat.le_of_ble_eq_true rfl⟩)) (fun r_9 hw_9 => ?_)
    refine lv_goto (tgt := 18) hx hb d_MO_wealth_13 (by decide) ?_
    exact W.iret (v := r_9) hx hb hr (fun tT ht hW => ⟨r_9, rfl, trivial, ht⟩) (fun q h => absurd h List.not_mem_nil) d_MO_wealth_18

set_option maxHeartbeats 4000000 in
set_option maxRecDepth 100000 in
theorem e_MO_promiseAt (l : Launch) (D : va_G) (cI cZ : ClassId) (y : Nat) (i : Int32) (z : Int32) (mn : Nat) (mtm : Int32) (mgp : Int32) (mlk : Int32) (y1 : Nat) (y2 : Nat) (y3 : Nat) (y4 : Nat) (mp : Nat) (y5 : Nat) (y6 : Nat) (y7 : Nat) (y8 : Nat) (y9 : Nat) (y10 : Nat) (y11 : Nat) (y12 : Nat) (y13 : Nat) (y14 : Nat) (y15 : Nat) (mq : Nat) (y16 : Nat) (y17 : Nat) (y18 : Nat) (y19 : Nat) (y20 : Nat) (y21 : Nat) (y22 : Nat) (y23 : Nat) (y24 : Nat) (y25 : Nat) (y26 : Nat) (y27 : Nat) (mhw : Int32) (mwn : Nat) (y28 : Nat) (y29 : Nat) (y30 : Nat) (y31 : Nat) (y32 : Nat) (y33 : Nat) (y34 : Nat) (y35 : Nat) (y36 : Nat) (mbm : Nat) (y37 : Nat) (y38 : Nat) (mrm : Nat) (mro : Int32) (mrs : Int32) (PA1 : Nat → Int32) (PA2 : Nat → Int32) (PA3 : Nat → Nat) (PA4 : Nat → Int32) (PA5 : Nat → Int32) (PA6 : Nat → Int32) (PB3 : Nat → Int32) (sz : Nat) (h_mn : mn ≤ 7) (h_mp : mp ≤ 12) (h_mq : mq ≤ 40) (h_mwn : mwn ≤ 8) (h_mbm : mbm ≤ 8) (h_mrm : mrm ≤ 8) (h_PA3 : ∀ zz, PA3 zz ≤ 8) : Met l ⟨"PromiseChainsModel", "promiseAt", "(II)I"⟩ (mw ⟨"PromiseChainsModel", "promiseAt", "(II)I"⟩ prog_9_method_27_code 3 (some .int)) ({ frames := 1, cells := 0, slots := 0, locals := 22 }) (va_Pc [.ref y, .int i, .int z] (PB D cI cZ sz [(y, .inr (7, [.int (nI mn), .int mtm, .int mgp, .int mlk, .ref y1, .ref y2, .ref y3, .ref y4, .int (nI mp), .ref y5, .ref y6, .ref y7, .ref y8, .ref y9, .ref y10, .ref y11, .ref y12, .ref y13, .ref y14, .ref y15, .int (nI mq), .ref y16, .ref y17, .ref y18, .ref y19, .ref y20, .ref y21, .ref y22, .ref y23, .ref y24, .ref y25, .ref y26, .ref y27, .int mhw, .int (nI mwn), .ref y28, .ref y29, .ref y30, .ref y31, .ref y32, .ref y33, .ref y34, .ref y35, .ref y36, .int (nI mbm), .ref y37, .ref y38, .int (nI mrm), .int mro, .int mrs])), (y16, .inl (cI, 40, .inl PA1)), (y17, .inl (cI, 40, .inl PA2)), (y18, .inl (cI, 40, .inl (fun zy => nI (PA3 zy)))), (y19, .inl (cI, 40, .inl PA4)), (y20, .inl (cI, 40, .inl PA5)), (y21, .inl (cZ, 40, .inl PA6)), (y25, .inl (cI, 320, .inl PB3))])) (vp_Si (fun r => r = gPAm mq PA3 PA4 PA5 PA1 PB3 PA6 PA2 i z)) 0 0 (fun _ => False) := by
  refine Met.ofW (cc := prog_9_method_27_code) (maxL := 3) (ret := (some .int)) (by decide) rfl ?_
  intro p e s m args below meth c s₁ B hml hv
  obtain ⟨rfl, hsz, hP, hK, hD0, hN⟩ := hv
  have hx := B.exec
  have hb := B.bytes
  have hr := B.returns
  have hts0 := atoms_spec (ws := mw ⟨"PromiseChainsModel", "promiseAt", "(II)I"⟩ prog_9_method_27_code 3 (some .int)) B.pre
  have hts : ∀ w ∈ tblG, w.before _ s = true := fun w h => hts0 w (List.mem_cons_of_mem _ h)
  have hown : s.vm.findClass "PromiseChainsModel" = some m.cls := findClass_of_methodNamed B.named
  have hlocks := B.notSynchronized
  subst hsz
  have hD := hD0
  have hP : va_P D vwCl [(y, .inr (7, [.int (nI mn), .int mtm, .int mgp, .int mlk, .ref y1, .ref y2, .ref y3, .ref y4, .int (nI mp), .ref y5, .ref y6, .ref y7, .ref y8, .ref y9, .ref y10, .ref y11, .ref y12, .ref y13, .ref y14, .ref y15, .int (nI mq), .ref y16, .ref y17, .ref y18, .ref y19, .ref y20, .ref y21, .ref y22, .ref y23, .ref y24, .ref y25, .ref y26, .ref y27, .int mhw, .int (nI mwn), .ref y28, .ref y29, .ref y30, .ref y31, .ref y32, .ref y33, .ref y34, .ref y35, .ref y36, .int (nI mbm), .ref y37, .ref y38, .int (nI mrm), .int mro, .int mrs])), (y16, .inl (cI, 40, .inl PA1)), (y17, .inl (cI, 40, .inl PA2)), (y18, .inl (cI, 40, .inl (fun zy => nI (PA3 zy)))), (y19, .inl (cI, 40, .inl PA4)), (y20, .inl (cI, 40, .inl PA5)), (y21, .inl (cZ, 40, .inl PA6)), (y25, .inl (cI, 320, .inl PB3))] s.heap := hP
  have hl := lv_entry ([.ref y, .int i, .int z]) (n := 3) (Nat.le_of_ble_eq_true rfl)
  rw [lg_entry_eq]
  generalize (lg_sl ([.ref y, .int i, .int z]) ++ List.replicate (3 - (lg_sl ([.ref y, .int i, .int z])).length) Slot.unset).toArray = ls at hl ⊢
  have hl : lv_has ls 3 [(0, .ref y), (1, .int i), (2, .int z)] := hl
  refine lv_iload_n hx hb d_MO_promiseAt_0 rfl (lv_at hl 1 rfl) ?_
  refine lv_iconst (v := 0) hx hb d_MO_promiseAt_1 (by decide) ?_
  refine lv_aload_n hx hb d_MO_promiseAt_2 rfl (lv_at hl 0 rfl) ?_
  refine va_get (D := D) (ci := 7) (v := .int (nI mq)) (C := R_MO) (T := F_MO) (N := 50) hx hb hts i_MO hown hK hP 0 rfl rfl 20 (by decide) (hts _ q_652) (fun _ h9 => h9) rfl d_MO_promiseAt_3 ?_
  refine lv_iconst (v := 1) hx hb d_MO_promiseAt_6 (by decide) ?_
  refine lv_isub hx hb d_MO_promiseAt_7 ?_
  have hPc := hP.sub (ws' := []) [] rfl
  have hDc := hD.sub (ws' := []) [] (by decide +kernel) rfl
  refine vp_callSi (va_Run.run (va_runS (As := [.int i, .int 0, .int ((nI mq) - 1)]) (rest := []) ⟨hx, hb, hml, hown, hts⟩ (e_MO_in l D cI cZ i 0 ((nI mq) - 1) s.heap.size ) (my_cwS 3 hts q_789 q_787 q_788 q_8 rfl rfl (by decide +kernel) ⟨Nat.le_of_ble_eq_true rfl, Nat.le_of_ble_eq_true rfl⟩) (my_preS hPc hDc hK hN) rfl rfl hl.1 rfl (lv_room (Nat.le_of_ble_eq_true rfl)) d_MO_promiseAt_8 ⟨Nat.le_of_ble_eq_true rfl, Nat.le_of_ble_eq_true rfl⟩)) (fun r_1 hw_1 => ?_)
  have hf_1_0 : r_1 = isw i 0 ((nI mq) - 1) := hw_1
  have hf_1_0 : r_1 = isw i 0 ((nI mq) - 1) := hf_1_0
  subst hf_1_0
  refine lv_if_ne (tgt := 17) hx hb d_MO_promiseAt_11 (by decide) (fun h_2 => ?_) (fun h_2 => ?_)
  · obtain ⟨j_3, hx_4, rfl⟩ := isw_nI (by omega) h_2
    refine lv_iload_n hx hb d_MO_promiseAt_17 rfl (lv_at hl 2 rfl) ?_
    by_cases hz_5 : z = 0
    · subst hz_5
      refine lv_tableIn (off := 42) (tgt := 60) hx hb d_MO_promiseAt_18 (by decide) (by decide) (by decide) (by decide) ?_
      refine lv_aload_n hx hb d_MO_promiseAt_60 rfl (lv_at hl 0 rfl) ?_
      refine lv_iload_n hx hb d_MO_promiseAt_61 rfl (lv_at hl 1 rfl) ?_
      have hPc := hP.sub (ws' := [(y, .inr (7, [.int (nI mn), .int mtm, .int mgp, .int mlk, .ref y1, .ref y2, .ref y3, .ref y4, .int (nI mp), .ref y5, .ref y6, .ref y7, .ref y8, .ref y9, .ref y10, .ref y11, .ref y12, .ref y13, .ref y14, .ref y15, .int (nI mq), .ref y16, .ref y17, .ref y18, .ref y19, .ref y20, .ref y21, .ref y22, .ref y23, .ref y24, .ref y25, .ref y26, .ref y27, .int mhw, .int (nI mwn), .ref y28, .ref y29, .ref y30, .ref y31, .ref y32, .ref y33, .ref y34, .ref y35, .ref y36, .int (nI mbm), .ref y37, .ref y38, .int (nI mrm), .int mro, .int mrs])), (y18, .inl (cI, 40, .inl (fun zy => nI (PA3 zy)))), (y19, .inl (cI, 40, .inl PA4)), (y20, .inl (cI, 40, .inl PA5))]) [0, 3, 4, 5] rfl
      have hDc := hD.sub (ws' := [(y, .inr (7, [.int (nI mn), .int mtm, .int mgp, .int mlk, .ref y1, .ref y2, .ref y3, .ref y4, .int (nI mp), .ref y5, .ref y6, .ref y7, .ref y8, .ref y9, .ref y10, .ref y11, .ref y12, .ref y13, .ref y14, .ref y15, .int (nI mq), .ref y16, .ref y17, .ref y18, .ref y19, .ref y20, .ref y21, .ref y22, .ref y23, .ref y24, .ref y25, .ref y26, .ref y27, .int mhw, .int (nI mwn), .ref y28, .ref y29, .ref y30, .ref y31, .ref y32, .ref y33, .ref y34, .ref y35, .ref y36, .int (nI mbm), .ref y37, .ref y38, .int (nI mrm), .int mro, .int mrs])), (y18, .inl (cI, 40, .inl (fun zy => nI (PA3 zy)))), (y19, .inl (cI, 40, .inl PA4)), (y20, .inl (cI, 40, .inl PA5))]) [0, 3, 4, 5] (by decide +kernel) rfl
      refine vp_callSi (va_Run.run (va_runV (As := [.int (nI j_3)]) (rest := []) ⟨hx, hb, hml, hown, hts⟩ (e_MO_isOpen l D cI cZ y j_3 mn mtm mgp mlk y1 y2 y3 y4 mp y5 y6 y7 y8 y9 y10 y11 y12 y13 y14 y15 mq y16 y17 y18 y19 y20 y21 y22 y23 y24 y25 y26 y27 mhw mwn y28 y29 y30 y31 y32 y33 y34 y35 y36 mbm y37 y38 mrm mro mrs PA3 PA4 PA5 s.heap.size h_mn h_mp h_mq h_mwn h_mbm h_mrm h_PA3 (by first | omega | (dsimp only; omega))) (my_cwV 1 hts q_882 q_879 q_881 q_p18 q_8 rfl rfl (by decide +kernel) ⟨Nat.le_of_ble_eq_true rfl, Nat.le_of_ble_eq_true rfl⟩) (my_preV hPc hDc hK hN 7 0 rfl rfl) rfl rfl hl.1 rfl (lv_room (Nat.le_of_ble_eq_true rfl)) d_MO_promiseAt_62 ⟨Nat.le_of_ble_eq_true rfl, Nat.le_of_ble_eq_true rfl⟩)) (fun r_6 hw_6 => ?_)
      rcases hw_6 with ⟨hg_7, rfl⟩ | ⟨hg_8, rfl⟩
      · have hg_7 : ¬ PA4 j_3 + PA5 j_3 < nI (PA3 j_3) := hg_7
        refine lv_if_eq (tgt := 72) hx hb d_MO_promiseAt_65 (by decide) (fun _ => ?_) (fun h => absurd h (by decide))
        refine lv_aload_n hx hb d_MO_promiseAt_72 rfl (lv_at hl 0 rfl) ?_
        refine va_get (D := D) (ci := 7) (v := .ref y19) (C := R_MO) (T := F_MO) (N := 50) hx hb hts i_MO hown hK hP 0 rfl rfl 24 (by decide) (hts _ q_656) (fun _ h9 => h9) rfl d_MO_promiseAt_73 ?_
        refine lv_iload_n hx hb d_MO_promiseAt_76 rfl (lv_at hl 1 rfl) ?_
        refine my_ldI hx hb hK hP 4 rfl j_3 rfl (by omega) (by decide) d_MO_promiseAt_77 ?_
        refine lv_aload_n hx hb d_MO_promiseAt_78 rfl (lv_at hl 0 rfl) ?_
        refine va_get (D := D) (ci := 7) (v := .ref y18) (C := R_MO) (T := F_MO) (N := 50) hx hb hts i_MO hown hK hP 0 rfl rfl 23 (by decide) (hts _ q_655) (fun _ h9 => h9) rfl d_MO_promiseAt_79 ?_
        refine lv_iload_n hx hb d_MO_promiseAt_82 rfl (lv_at hl 1 rfl) ?_
        refine my_ldN hx hb hK hP 3 rfl j_3 rfl (by omega) (by decide) d_MO_promiseAt_83 ?_
        have hb_1 : PA3 j_3 ≤ 8 := h_PA3 _
        refine lv_icmp_ne (tgt := 91) hx hb d_MO_promiseAt_84 (by decide) (fun h_10 => ?_) (fun h_10 => ?_)
        · refine lv_aload_n hx hb d_MO_promiseAt_91 rfl (lv_at hl 0 rfl) ?_
          refine va_get (D := D) (ci := 7) (v := .ref y19) (C := R_MO) (T := F_MO) (N := 50) hx hb hts i_MO hown hK hP 0 rfl rfl 24 (by decide) (hts _ q_656) (fun _ h9 => h9) rfl d_MO_promiseAt_92 ?_
          refine lv_iload_n hx hb d_MO_promiseAt_95 rfl (lv_at hl 1 rfl) ?_
          refine my_ldI hx hb hK hP 4 rfl j_3 rfl (by omega) (by decide) d_MO_promiseAt_96 ?_
          refine lv_if_ne (tgt := 104) hx hb d_MO_promiseAt_97 (by decide) (fun h_11 => ?_) (fun h_11 => ?_)
          · refine lv_iconst (v := 3) hx hb d_MO_promiseAt_104 (by decide) ?_
            exact W.iret (v := 3) hx hb hr (fun tT ht hW => ⟨3, rfl, (by unfold gPAm; rw [if_neg h_2, nI_clamp (by omega)]; exact (gom_3 hg_7 h_10 h_11)), ht⟩) (fun q h => absurd h List.not_mem_nil) d_MO_promiseAt_105
          · refine lv_iconst (v := 2) hx hb d_MO_promiseAt_100 (by decide) ?_
            refine lv_goto (tgt := 105) hx hb d_MO_promiseAt_101 (by decide) ?_
            exact W.iret (v := 2) hx hb hr (fun tT ht hW => ⟨2, rfl, (by unfold gPAm; rw [if_neg h_2, nI_clamp (by omega)]; exact (gom_2 hg_7 h_10 h_11)), ht⟩) (fun q h => absurd h List.not_mem_nil) d_MO_promiseAt_105
        · refine lv_iconst (v := 1) hx hb d_MO_promiseAt_87 (by decide) ?_
          refine lv_goto (tgt := 105) hx hb d_MO_promiseAt_88 (by decide) ?_
          exact W.iret (v := 1) hx hb hr (fun tT ht hW => ⟨1, rfl, (by unfold gPAm; rw [if_neg h_2, nI_clamp (by omega)]; exact (gom_1 hg_7 h_10)), ht⟩) (fun q h => absurd h List.not_mem_nil) d_MO_promiseAt_105
      · have hg_8 : PA4 j_3 + PA5 j_3 < nI (PA3 j_3) := hg_8
        refine lv_if_eq (tgt := 72) hx hb d_MO_promiseAt_65 (by decide) (fun h => absurd h (by decide)) (fun _ => ?_)
        refine lv_iconst (v := 0) hx hb d_MO_promiseAt_68 (by decide) ?_
        refine lv_goto (tgt := 105) hx hb d_MO_promiseAt_69 (by decide) ?_
        exact W.iret (v := 0) hx hb hr (fun tT ht hW => ⟨0, rfl, (by unfold gPAm; rw [if_neg h_2, nI_clamp (by omega)]; exact (gom_0 hg_8)), ht⟩) (fun q h => absurd h List.not_mem_nil) d_MO_promiseAt_105
    by_cases hz_13 : z = 1
    · subst hz_13
      refine lv_tableIn (off := 88) (tgt := 106) hx hb d_MO_promiseAt_18 (by decide) (by decide) (by decide) (by decide) ?_
      refine lv_aload_n hx hb d_MO_promiseAt_106 rfl (lv_at hl 0 rfl) ?_
      refine va_get (D := D) (ci := 7) (v := .ref y16) (C := R_MO) (T := F_MO) (N := 50) hx hb hts i_MO hown hK hP 0 rfl rfl 21 (by decide) (hts _ q_653) (fun _ h9 => h9) rfl d_MO_promiseAt_107 ?_
      refine lv_iload_n hx hb d_MO_promiseAt_110 rfl (lv_at hl 1 rfl) ?_
      refine my_ldI hx hb hK hP 1 rfl j_3 rfl (by omega) (by decide) d_MO_promiseAt_111 ?_
      exact W.iret (v := (PA1 j_3)) hx hb hr (fun tT ht hW => ⟨(PA1 j_3), rfl, (by unfold gPAm; rw [if_neg h_2, nI_clamp (by omega)]; exact rfl), ht⟩) (fun q h => absurd h List.not_mem_nil) d_MO_promiseAt_112
    by_cases hz_14 : z = 2
    · subst hz_14
      refine lv_tableIn (off := 95) (tgt := 113) hx hb d_MO_promiseAt_18 (by decide) (by decide) (by decide) (by decide) ?_
      refine lv_aload_n hx hb d_MO_promiseAt_113 rfl (lv_at hl 0 rfl) ?_
      refine va_get (D := D) (ci := 7) (v := .ref y25) (C := R_MO) (T := F_MO) (N := 50) hx hb hts i_MO hown hK hP 0 rfl rfl 30 (by decide) (hts _ q_662) (fun _ h9 => h9) rfl d_MO_promiseAt_114 ?_
      refine lv_bipush (v := 8) hx hb d_MO_promiseAt_117 (by decide) ?_
      refine lv_iload_n hx hb d_MO_promiseAt_119 rfl (lv_at hl 1 rfl) ?_
      refine lv_imul hx hb d_MO_promiseAt_120 ?_
      refine lv_seti (nI (8 * j_3)) (pk_mul 8 j_3) ?_
      refine my_ldI hx hb hK hP 7 rfl (8 * j_3) rfl (by omega) (by decide) d_MO_promiseAt_121 ?_
      exact W.iret (v := (PB3 (8 * j_3))) hx hb hr (fun tT ht hW => ⟨(PB3 (8 * j_3)), rfl, (by unfold gPAm; rw [if_neg h_2, nI_clamp (by omega)]; exact rfl), ht⟩) (fun q h => absurd h List.not_mem_nil) d_MO_promiseAt_122
    by_cases hz_15 : z = 3
    · subst hz_15
      refine lv_tableIn (off := 105) (tgt := 123) hx hb d_MO_promiseAt_18 (by decide) (by decide) (by decide) (by decide) ?_
      refine lv_aload_n hx hb d_MO_promiseAt_123 rfl (lv_at hl 0 rfl) ?_
      refine va_get (D := D) (ci := 7) (v := .ref y18) (C := R_MO) (T := F_MO) (N := 50) hx hb hts i_MO hown hK hP 0 rfl rfl 23 (by decide) (hts _ q_655) (fun _ h9 => h9) rfl d_MO_promiseAt_124 ?_
      refine lv_iload_n hx hb d_MO_promiseAt_127 rfl (lv_at hl 1 rfl) ?_
      refine my_ldN hx hb hK hP 3 rfl j_3 rfl (by omega) (by decide) d_MO_promiseAt_128 ?_
      have hb_1 : PA3 j_3 ≤ 8 := h_PA3 _
      exact W.iret (v := (nI (PA3 j_3))) hx hb hr (fun tT ht hW => ⟨(nI (PA3 j_3)), rfl, (by unfold gPAm; rw [if_neg h_2, nI_clamp (by omega)]; exact rfl), ht⟩) (fun q h => absurd h List.not_mem_nil) d_MO_promiseAt_129
    by_cases hz_16 : z = 4
    · subst hz_16
      refine lv_tableIn (off := 112) (tgt := 130) hx hb d_MO_promiseAt_18 (by decide) (by decide) (by decide) (by decide) ?_
      refine lv_aload_n hx hb d_MO_promiseAt_130 rfl (lv_at hl 0 rfl) ?_
      refine va_get (D := D) (ci := 7) (v := .ref y19) (C := R_MO) (T := F_MO) (N := 50) hx hb hts i_MO hown hK hP 0 rfl rfl 24 (by decide) (hts _ q_656) (fun _ h9 => h9) rfl d_MO_promiseAt_131 ?_
      refine lv_iload_n hx hb d_MO_promiseAt_134 rfl (lv_at hl 1 rfl) ?_
      refine my_ldI hx hb hK hP 4 rfl j_3 rfl (by omega) (by decide) d_MO_promiseAt_135 ?_
      exact W.iret (v := (PA4 j_3)) hx hb hr (fun tT ht hW => ⟨(PA4 j_3), rfl, (by unfold gPAm; rw [if_neg h_2, nI_clamp (by omega)]; exact rfl), ht⟩) (fun q h => absurd h List.not_mem_nil) d_MO_promiseAt_136
    by_cases hz_17 : z = 5
    · subst hz_17
      refine lv_tableIn (off := 119) (tgt := 137) hx hb d_MO_promiseAt_18 (by decide) (by decide) (by decide) (by decide) ?_
      refine lv_aload_n hx hb d_MO_promiseAt_137 rfl (lv_at hl 0 rfl) ?_
      refine va_get (D := D) (ci := 7) (v := .ref y21) (C := R_MO) (T := F_MO) (N := 50) hx hb hts i_MO hown hK hP 0 rfl rfl 26 (by decide) (hts _ q_658) (fun _ h9 => h9) rfl d_MO_promiseAt_138 ?_
      refine lv_iload_n hx hb d_MO_promiseAt_141 rfl (lv_at hl 1 rfl) ?_
      refine my_ldZ hx hb hK hP 6 rfl j_3 rfl (by omega) (by decide) d_MO_promiseAt_142 ?_
      refine lv_if_eq (tgt := 150) hx hb d_MO_promiseAt_143 (by decide) (fun h_18 => ?_) (fun h_18 => ?_)
      · refine lv_iconst (v := 0) hx hb d_MO_promiseAt_150 (by decide) ?_
        exact W.iret (v := 0) hx hb hr (fun tT ht hW => ⟨0, rfl, (by unfold gPAm; rw [if_neg h_2, nI_clamp (by omega)]; exact (by show _ = if PA6 _ = 0 then (0 : Int32) else 1; rw [if_pos h_18])), ht⟩) (fun q h => absurd h List.not_mem_nil) d_MO_promiseAt_151
      · refine lv_iconst (v := 1) hx hb d_MO_promiseAt_146 (by decide) ?_
        refine lv_goto (tgt := 151) hx hb d_MO_promiseAt_147 (by decide) ?_
        exact W.iret (v := 1) hx hb hr (fun tT ht hW => ⟨1, rfl, (by unfold gPAm; rw [if_neg h_2, nI_clamp (by omega)]; exact (by show _ = if PA6 _ = 0 then (0 : Int32) else 1; rw [if_neg h_18])), ht⟩) (fun q h => absurd h List.not_mem_nil) d_MO_promiseAt_151
    by_cases hz_19 : z = 6
    · subst hz_19
      refine lv_tableIn (off := 134) (tgt := 152) hx hb d_MO_promiseAt_18 (by decide) (by decide) (by decide) (by decide) ?_
      refine lv_aload_n hx hb d_MO_promiseAt_152 rfl (lv_at hl 0 rfl) ?_
      refine va_get (D := D) (ci := 7) (v := .ref y17) (C := R_MO) (T := F_MO) (N := 50) hx hb hts i_MO hown hK hP 0 rfl rfl 22 (by decide) (hts _ q_654) (fun _ h9 => h9) rfl d_MO_promiseAt_153 ?_
      refine lv_iload_n hx hb d_MO_promiseAt_156 rfl (lv_at hl 1 rfl) ?_
      refine my_ldI hx hb hK hP 2 rfl j_3 rfl (by omega) (by decide) d_MO_promiseAt_157 ?_
      exact W.iret (v := (PA2 j_3)) hx hb hr (fun tT ht hW => ⟨(PA2 j_3), rfl, (by unfold gPAm; rw [if_neg h_2, nI_clamp (by omega)]; exact rfl), ht⟩) (fun q h => absurd h List.not_mem_nil) d_MO_promiseAt_158
    refine lv_tableOut (tgt := 159) hx hb d_MO_promiseAt_18 (tb_out 7 (by decide) (fun j hj => by rcases (show j = 0 ∨ j = 1 ∨ j = 2 ∨ j = 3 ∨ j = 4 ∨ j = 5 ∨ j = 6 by omega) with rfl | rfl | rfl | rfl | rfl | rfl | rfl <;> assumption)) (by decide) ?_
    refine lv_bipush (v := (-2)) hx hb d_MO_promiseAt_159 (by decide) ?_
    exact W.iret (v := (-2)) hx hb hr (fun tT ht hW => ⟨(-2), rfl, (by unfold gPAm; rw [if_neg h_2, nI_clamp (by omega)]; exact (by unfold gPBm; rw [if_neg hz_5, if_neg hz_13, if_neg hz_14, if_neg hz_15, if_neg hz_16, if_neg hz_17, if_neg hz_19])), ht⟩) (fun q h => absurd h List.not_mem_nil) d_MO_promiseAt_161
  · refine lv_bipush (v := (-2)) hx hb d_MO_promiseAt_14 (by decide) ?_
    exact W.iret (v := (-2)) hx hb hr (fun tT ht hW => ⟨(-2), rfl, (by unfold gPAm; rw [if_pos h_2]), ht⟩) (fun q h => absurd h List.not_mem_nil) d_MO_promiseAt_16

set_option maxHeartbeats 4000000 in
set_option maxRecDepth 100000 in
theorem e_MO_count (l : Launch) (D : va_G) (cI cZ : ClassId) (y : Nat) (z : Int32) (mn : Nat) (mtm : Int32) (mgp : Int32) (mlk : Int32) (y1 : Nat) (y2 : Nat) (y3 : Nat) (y4 : Nat) (mp : Nat) (y5 : Nat) (y6 : Nat) (y7 : Nat) (y8 : Nat) (y9 : Nat) (y10 : Nat) (y11 : Nat) (y12 : Nat) (y13 : Nat) (y14 : Nat) (y15 : Nat) (mq : Nat) (y16 : Nat) (y17 : Nat) (y18 : Nat) (y19 : Nat) (y20 : Nat) (y21 : Nat) (y22 : Nat) (y23 : Nat) (y24 : Nat) (y25 : Nat) (y26 : Nat) (y27 : Nat) (mhw : Int32) (mwn : Nat) (y28 : Nat) (y29 : Nat) (y30 : Nat) (y31 : Nat) (y32 : Nat) (y33 : Nat) (y34 : Nat) (y35 : Nat) (y36 : Nat) (mbm : Nat) (y37 : Nat) (y38 : Nat) (mrm : Nat) (mro : Int32) (mrs : Int32) (MAw : Nat → Int32) (PA3 : Nat → Nat) (PA4 : Nat → Int32) (PA5 : Nat → Int32) (sz : Nat) (h_mn : mn ≤ 7) (h_mp : mp ≤ 12) (h_mq : mq ≤ 40) (h_mwn : mwn ≤ 8) (h_mbm : mbm ≤ 8) (h_mrm : mrm ≤ 8) (h_PA3 : ∀ zz, PA3 zz ≤ 8) : Met l ⟨"PromiseChainsModel", "count", "(I)I"⟩ (mw ⟨"PromiseChainsModel", "count", "(I)I"⟩ prog_9_method_51_code 4 (some .int)) ({ frames := 0, cells := 0, slots := 0, locals := 0 }) (va_Pc [.ref y, .int z] (PB D cI cZ sz [(y, .inr (7, [.int (nI mn), .int mtm, .int mgp, .int mlk, .ref y1, .ref y2, .ref y3, .ref y4, .int (nI mp), .ref y5, .ref y6, .ref y7, .ref y8, .ref y9, .ref y10, .ref y11, .ref y12, .ref y13, .ref y14, .ref y15, .int (nI mq), .ref y16, .ref y17, .ref y18, .ref y19, .ref y20, .ref y21, .ref y22, .ref y23, .ref y24, .ref y25, .ref y26, .ref y27, .int mhw, .int (nI mwn), .ref y28, .ref y29, .ref y30, .ref y31, .ref y32, .ref y33, .ref y34, .ref y35, .ref y36, .int (nI mbm), .ref y37, .ref y38, .int (nI mrm), .int mro, .int mrs])), (y1, .inl (cZ, 7, .inl MAw)), (y18, .inl (cI, 40, .inl (fun zy => nI (PA3 zy)))), (y19, .inl (cI, 40, .inl PA4)), (y20, .inl (cI, 40, .inl PA5))])) (vp_Si (fun r => r = gCt mn mp mq (cntM PA3 PA4 PA5 mq) mtm mgp mlk (cntA MAw mn) z)) 0 0 (fun _ => False) := by
  refine Met.ofW (cc := prog_9_method_51_code) (maxL := 4) (ret := (some .int)) (by decide) rfl ?_
  intro p e s m args below meth c s₁ B hml hv
  obtain ⟨rfl, hsz, hP, hK, hD0, hN⟩ := hv
  have hx := B.exec
  have hb := B.bytes
  have hr := B.returns
  have hts0 := atoms_spec (ws := mw ⟨"PromiseChainsModel", "count", "(I)I"⟩ prog_9_method_51_code 4 (some .int)) B.pre
  have hts : ∀ w ∈ tblG, w.before _ s = true := fun w h => hts0 w (List.mem_cons_of_mem _ h)
  have hown : s.vm.findClass "PromiseChainsModel" = some m.cls := findClass_of_methodNamed B.named
  have hlocks := B.notSynchronized
  subst hsz
  have hD := hD0
  have hP : va_P D vwCl [(y, .inr (7, [.int (nI mn), .int mtm, .int mgp, .int mlk, .ref y1, .ref y2, .ref y3, .ref y4, .int (nI mp), .ref y5, .ref y6, .ref y7, .ref y8, .ref y9, .ref y10, .ref y11, .ref y12, .ref y13, .ref y14, .ref y15, .int (nI mq), .ref y16, .ref y17, .ref y18, .ref y19, .ref y20, .ref y21, .ref y22, .ref y23, .ref y24, .ref y25, .ref y26, .ref y27, .int mhw, .int (nI mwn), .ref y28, .ref y29, .ref y30, .ref y31, .ref y32, .ref y33, .ref y34, .ref y35, .ref y36, .int (nI mbm), .ref y37, .ref y38, .int (nI mrm), .int mro, .int mrs])), (y1, .inl (cZ, 7, .inl MAw)), (y18, .inl (cI, 40, .inl (fun zy => nI (PA3 zy)))), (y19, .inl (cI, 40, .inl PA4)), (y20, .inl (cI, 40, .inl PA5))] s.heap := hP
  have hl := lv_entry ([.ref y, .int z]) (n := 4) (Nat.le_of_ble_eq_true rfl)
  rw [lg_entry_eq]
  generalize (lg_sl ([.ref y, .int z]) ++ List.replicate (4 - (lg_sl ([.ref y, .int z])).length) Slot.unset).toArray = ls at hl ⊢
  have hl : lv_has ls 4 [(0, .ref y), (1, .int z)] := hl
  refine lv_iconst (v := 0) hx hb d_MO_count_0 (by decide) ?_
  refine lv_istore_n (lv' := [(2, .int 0), (0, .ref y), (1, .int z)]) hx hb d_MO_count_1 rfl hl (by decide) rfl (fun ls hl => ?_)
  refine lv_iload_n hx hb d_MO_count_2 rfl (lv_at hl 2 rfl) ?_
  by_cases hz_1 : z = 0
  · subst hz_1
    refine lv_tableIn (off := 45) (tgt := 48) hx hb d_MO_count_3 (by decide) (by decide) (by decide) (by decide) ?_
    refine lv_aload_n hx hb d_MO_count_48 rfl (lv_at hl 1 rfl) ?_
    refine va_get (D := D) (ci := 7) (v := .int (nI mn)) (C := R_MO) (T := F_MO) (N := 50) hx hb hts i_MO hown hK hP 0 rfl rfl 0 (by decide) (hts _ q_632) (fun _ h9 => h9) rfl d_MO_count_49 ?_
    exact W.iret (v := (nI mn)) hx hb hr (fun tT ht hW => ⟨(nI mn), rfl, rfl, ht⟩) (fun q h => absurd h List.not_mem_nil) d_MO_count_52
  by_cases hz_2 : z = 1
  · subst hz_2
    refine lv_tableIn (off := 50) (tgt := 53) hx hb d_MO_count_3 (by decide) (by decide) (by decide) (by decide) ?_
    refine lv_aload_n hx hb d_MO_count_53 rfl (lv_at hl 1 rfl) ?_
    refine va_get (D := D) (ci := 7) (v := .int (nI mp)) (C := R_MO) (T := F_MO) (N := 50) hx hb hts i_MO hown hK hP 0 rfl rfl 8 (by decide) (hts _ q_640) (fun _ h9 => h9) rfl d_MO_count_54 ?_
    exact W.iret (v := (nI mp)) hx hb hr (fun tT ht hW => ⟨(nI mp), rfl, rfl, ht⟩) (fun q h => absurd h List.not_mem_nil) d_MO_count_57
  by_cases hz_3 : z = 2
  · subst hz_3
    refine lv_tableIn (off := 55) (tgt := 58) hx hb d_MO_count_3 (by decide) (by decide) (by decide) (by decide) ?_
    refine lv_aload_n hx hb d_MO_count_58 rfl (lv_at hl 1 rfl) ?_
    refine va_get (D := D) (ci := 7) (v := .int (nI mq)) (C := R_MO) (T := F_MO) (N := 50) hx hb hts i_MO hown hK hP 0 rfl rfl 20 (by decide) (hts _ q_652) (fun _ h9 => h9) rfl d_MO_count_59 ?_
    exact W.iret (v := (nI mq)) hx hb hr (fun tT ht hW => ⟨(nI mq), rfl, rfl, ht⟩) (fun q h => absurd h List.not_mem_nil) d_MO_count_62
  by_cases hz_4 : z = 3
  · subst hz_4
    refine lv_tableIn (off := 60) (tgt := 63) hx hb d_MO_count_3 (by decide) (by decide) (by decide) (by decide) ?_
    refine lv_iconst (v := 0) hx hb d_MO_count_63 (by decide) ?_
    refine lv_istore_n (lv' := [(3, .int 0), (2, .int 0), (0, .ref y), (1, .int 3)]) hx hb d_MO_count_64 rfl hl (by decide) rfl (fun ls hl => ?_)
    refine W_loop (σ := Nat × Int32) (I := fun xX H locs ls => xX.1 ≤ mq ∧ xX.2 = cntM PA3 PA4 PA5 xX.1 ∧ H = s.heap ∧ locs = [] ∧ lv_has ls 4 [(3, .int (nI xX.1)), (2, .int xX.2), (0, .ref y)]) (μ := fun xX => 41 - xX.1) ?_ (0, 0) ⟨(by first | omega | (dsimp only; omega)), rfl, rfl, rfl, lv_sub hl [0, 1, 2] rfl⟩
    intro xX H_5 locs ls hI ih1
    obtain ⟨q_l, sm_v⟩ := xX
    obtain ⟨hq, hs1, rfl, rfl, hl⟩ := hI
    have hl : lv_has ls 4 [(3, .int (nI q_l)), (2, .int sm_v), (0, .ref y)] := hl
    have hq : q_l ≤ mq := hq
    have hs1 : sm_v = cntM PA3 PA4 PA5 q_l := hs1
    refine lv_iload_n hx hb d_MO_count_65 rfl (lv_at hl 0 rfl) ?_
    refine lv_aload_n hx hb d_MO_count_66 rfl (lv_at hl 2 rfl) ?_
    refine va_get (D := D) (ci := 7) (v := .int (nI mq)) (C := R_MO) (T := F_MO) (N := 50) hx hb hts i_MO hown hK hP 0 rfl rfl 20 (by decide) (hts _ q_652) (fun _ h9 => h9) rfl d_MO_count_67 ?_
    refine lv_icmp_ge (tgt := 102) hx hb d_MO_count_70 (by decide) (fun h_6 => ?_) (fun h_6 => ?_)
    · have nh_6 : mq ≤ q_l := (nI_leI (a := mq) (b := q_l) (by omega) (by omega)).mp h_6
      refine lv_iload_n hx hb d_MO_count_102 rfl (lv_at hl 1 rfl) ?_
      exact W.iret (v := sm_v) hx hb hr (fun tT ht hW => ⟨sm_v, rfl, (by rw [show q_l = mq by omega] at hs1; exact hs1), ht⟩) (fun q h => absurd h List.not_mem_nil) d_MO_count_103
    · have nh_6 : ¬ mq ≤ q_l := fun qZ => h_6 ((nI_leI (a := mq) (b := q_l) (by omega) (by omega)).mpr qZ)
      refine lv_iload_n hx hb d_MO_count_73 rfl (lv_at hl 1 rfl) ?_
      refine lv_aload_n hx hb d_MO_count_74 rfl (lv_at hl 2 rfl) ?_
      refine va_get (D := D) (ci := 7) (v := .ref y18) (C := R_MO) (T := F_MO) (N := 50) hx hb hts i_MO hown hK hP 0 rfl rfl 23 (by decide) (hts _ q_655) (fun _ h9 => h9) rfl d_MO_count_75 ?_
      refine lv_iload_n hx hb d_MO_count_78 rfl (lv_at hl 0 rfl) ?_
      refine my_ldN hx hb hK hP 2 rfl q_l rfl (by omega) (by decide) d_MO_count_79 ?_
      have hb_1 : PA3 q_l ≤ 8 := h_PA3 _
      refine lv_aload_n hx hb d_MO_count_80 rfl (lv_at hl 2 rfl) ?_
      refine va_get (D := D) (ci := 7) (v := .ref y19) (C := R_MO) (T := F_MO) (N := 50) hx hb hts i_MO hown hK hP 0 rfl rfl 24 (by decide) (hts _ q_656) (fun _ h9 => h9) rfl d_MO_count_81 ?_
      refine lv_iload_n hx hb d_MO_count_84 rfl (lv_at hl 0 rfl) ?_
      refine my_ldI hx hb hK hP 3 rfl q_l rfl (by omega) (by decide) d_MO_count_85 ?_
      refine lv_isub hx hb d_MO_count_86 ?_
      refine lv_aload_n hx hb d_MO_count_87 rfl (lv_at hl 2 rfl) ?_
      refine va_get (D := D) (ci := 7) (v := .ref y20) (C := R_MO) (T := F_MO) (N := 50) hx hb hts i_MO hown hK hP 0 rfl rfl 25 (by decide) (hts _ q_657) (fun _ h9 => h9) rfl d_MO_count_88 ?_
      refine lv_iload_n hx hb d_MO_count_91 rfl (lv_at hl 0 rfl) ?_
      refine my_ldI hx hb hK hP 4 rfl q_l rfl (by omega) (by decide) d_MO_count_92 ?_
      refine lv_isub hx hb d_MO_count_93 ?_
      refine lv_iadd hx hb d_MO_count_94 ?_
      refine lv_istore_n (lv' := [(2, .int (sm_v + (((nI (PA3 q_l)) - (PA4 q_l)) - (PA5 q_l)))), (3, .int (nI q_l)), (0, .ref y)]) hx hb d_MO_count_95 rfl hl (by decide) rfl (fun ls hl => ?_)
      refine lv_iinc (v := nI (q_l + 1)) (lv' := [(3, .int (nI (q_l + 1))), (2, .int (sm_v + (((nI (PA3 q_l)) - (PA4 q_l)) - (PA5 q_l)))), (0, .ref y)]) hx hb d_MO_count_96 hl (k := 1) rfl (nI_1 q_l) (by decide) rfl (fun ls hl => ?_)
      refine lv_goto (tgt := 65) hx hb d_MO_count_99 (by decide) ?_
      exact ih1 ((q_l + 1), sm_v + (((nI (PA3 q_l)) - (PA4 q_l)) - (PA5 q_l))) _ _ _ (by first | omega | (dsimp only; omega)) ⟨(by first | omega | (dsimp only; omega)), (by rw [hs1]; rfl), rfl, rfl, lv_sub hl [0, 1, 2] rfl⟩
  by_cases hz_7 : z = 4
  · subst hz_7
    refine lv_tableIn (off := 101) (tgt := 104) hx hb d_MO_count_3 (by decide) (by decide) (by decide) (by decide) ?_
    refine lv_aload_n hx hb d_MO_count_104 rfl (lv_at hl 1 rfl) ?_
    refine va_get (D := D) (ci := 7) (v := .int mtm) (C := R_MO) (T := F_MO) (N := 50) hx hb hts i_MO hown hK hP 0 rfl rfl 1 (by decide) (hts _ q_633) (fun _ h9 => h9) rfl d_MO_count_105 ?_
    exact W.iret (v := mtm) hx hb hr (fun tT ht hW => ⟨mtm, rfl, rfl, ht⟩) (fun q h => absurd h List.not_mem_nil) d_MO_count_108
  by_cases hz_8 : z = 5
  · subst hz_8
    refine lv_tableIn (off := 106) (tgt := 109) hx hb d_MO_count_3 (by decide) (by decide) (by decide) (by decide) ?_
    refine lv_aload_n hx hb d_MO_count_109 rfl (lv_at hl 1 rfl) ?_
    refine va_get (D := D) (ci := 7) (v := .int mgp) (C := R_MO) (T := F_MO) (N := 50) hx hb hts i_MO hown hK hP 0 rfl rfl 2 (by decide) (hts _ q_634) (fun _ h9 => h9) rfl d_MO_count_110 ?_
    exact W.iret (v := mgp) hx hb hr (fun tT ht hW => ⟨mgp, rfl, rfl, ht⟩) (fun q h => absurd h List.not_mem_nil) d_MO_count_113
  by_cases hz_9 : z = 6
  · subst hz_9
    refine lv_tableIn (off := 111) (tgt := 114) hx hb d_MO_count_3 (by decide) (by decide) (by decide) (by decide) ?_
    refine lv_aload_n hx hb d_MO_count_114 rfl (lv_at hl 1 rfl) ?_
    refine va_get (D := D) (ci := 7) (v := .int mlk) (C := R_MO) (T := F_MO) (N := 50) hx hb hts i_MO hown hK hP 0 rfl rfl 3 (by decide) (hts _ q_635) (fun _ h9 => h9) rfl d_MO_count_115 ?_
    exact W.iret (v := mlk) hx hb hr (fun tT ht hW => ⟨mlk, rfl, rfl, ht⟩) (fun q h => absurd h List.not_mem_nil) d_MO_count_118
  by_cases hz_10 : z = 7
  · subst hz_10
    refine lv_tableIn (off := 116) (tgt := 119) hx hb d_MO_count_3 (by decide) (by decide) (by decide) (by decide) ?_
    refine lv_iconst (v := 0) hx hb d_MO_count_119 (by decide) ?_
    refine lv_istore_n (lv' := [(3, .int 0), (2, .int 0), (0, .ref y), (1, .int 7)]) hx hb d_MO_count_120 rfl hl (by decide) rfl (fun ls hl => ?_)
    refine W_loop (σ := Nat × Int32) (I := fun xX H locs ls => xX.1 ≤ mn ∧ xX.2 = cntA MAw xX.1 ∧ H = s.heap ∧ locs = [] ∧ lv_has ls 4 [(3, .int (nI xX.1)), (2, .int xX.2), (0, .ref y)]) (μ := fun xX => 8 - xX.1) ?_ (0, 0) ⟨(by first | omega | (dsimp only; omega)), rfl, rfl, rfl, lv_sub hl [0, 1, 2] rfl⟩
    intro xX H_11 locs ls hI ih1
    obtain ⟨q2_l, sm2_v⟩ := xX
    obtain ⟨hq2, hs2, rfl, rfl, hl⟩ := hI
    have hl : lv_has ls 4 [(3, .int (nI q2_l)), (2, .int sm2_v), (0, .ref y)] := hl
    have hq2 : q2_l ≤ mn := hq2
    have hs2 : sm2_v = cntA MAw q2_l := hs2
    refine lv_iload_n hx hb d_MO_count_121 rfl (lv_at hl 0 rfl) ?_
    refine lv_aload_n hx hb d_MO_count_122 rfl (lv_at hl 2 rfl) ?_
    refine va_get (D := D) (ci := 7) (v := .int (nI mn)) (C := R_MO) (T := F_MO) (N := 50) hx hb hts i_MO hown hK hP 0 rfl rfl 0 (by decide) (hts _ q_632) (fun _ h9 => h9) rfl d_MO_count_123 ?_
    refine lv_icmp_ge (tgt := 152) hx hb d_MO_count_126 (by decide) (fun h_12 => ?_) (fun h_12 => ?_)
    · have nh_12 : mn ≤ q2_l := (nI_leI (a := mn) (b := q2_l) (by omega) (by omega)).mp h_12
      refine lv_iload_n hx hb d_MO_count_152 rfl (lv_at hl 1 rfl) ?_
      exact W.iret (v := sm2_v) hx hb hr (fun tT ht hW => ⟨sm2_v, rfl, (by rw [show q2_l = mn by omega] at hs2; exact hs2), ht⟩) (fun q h => absurd h List.not_mem_nil) d_MO_count_153
    · have nh_12 : ¬ mn ≤ q2_l := fun qZ => h_12 ((nI_leI (a := mn) (b := q2_l) (by omega) (by omega)).mpr qZ)
      refine lv_iload_n hx hb d_MO_count_129 rfl (lv_at hl 1 rfl) ?_
      refine lv_aload_n hx hb d_MO_count_130 rfl (lv_at hl 2 rfl) ?_
      refine va_get (D := D) (ci := 7) (v := .ref y1) (C := R_MO) (T := F_MO) (N := 50) hx hb hts i_MO hown hK hP 0 rfl rfl 4 (by decide) (hts _ q_636) (fun _ h9 => h9) rfl d_MO_count_131 ?_
      refine lv_iload_n hx hb d_MO_count_134 rfl (lv_at hl 0 rfl) ?_
      refine my_ldZ hx hb hK hP 1 rfl q2_l rfl (by omega) (by decide) d_MO_count_135 ?_
      refine lv_if_eq (tgt := 143) hx hb d_MO_count_136 (by decide) (fun h_13 => ?_) (fun h_13 => ?_)
      · refine lv_iconst (v := 0) hx hb d_MO_count_143 (by decide) ?_
        refine lv_iadd hx hb d_MO_count_144 ?_
        refine lv_istore_n (lv' := [(2, .int (sm2_v + 0)), (3, .int (nI q2_l)), (0, .ref y)]) hx hb d_MO_count_145 rfl hl (by decide) rfl (fun ls hl => ?_)
        refine lv_iinc (v := nI (q2_l + 1)) (lv' := [(3, .int (nI (q2_l + 1))), (2, .int (sm2_v + 0)), (0, .ref y)]) hx hb d_MO_count_146 hl (k := 1) rfl (nI_1 q2_l) (by decide) rfl (fun ls hl => ?_)
        refine lv_goto (tgt := 121) hx hb d_MO_count_149 (by decide) ?_
        exact ih1 ((q2_l + 1), sm2_v + 0) _ _ _ (by first | omega | (dsimp only; omega)) ⟨(by first | omega | (dsimp only; omega)), (cntA_n hs2 h_13), rfl, rfl, lv_sub hl [0, 1, 2] rfl⟩
      · refine lv_iconst (v := 1) hx hb d_MO_count_139 (by decide) ?_
        refine lv_goto (tgt := 144) hx hb d_MO_count_140 (by decide) ?_
        refine lv_iadd hx hb d_MO_count_144 ?_
        refine lv_istore_n (lv' := [(2, .int (sm2_v + 1)), (3, .int (nI q2_l)), (0, .ref y)]) hx hb d_MO_count_145 rfl hl (by decide) rfl (fun ls hl => ?_)
        refine lv_iinc (v := nI (q2_l + 1)) (lv' := [(3, .int (nI (q2_l + 1))), (2, .int (sm2_v + 1)), (0, .ref y)]) hx hb d_MO_count_146 hl (k := 1) rfl (nI_1 q2_l) (by decide) rfl (fun ls hl => ?_)
        refine lv_goto (tgt := 121) hx hb d_MO_count_149 (by decide) ?_
        exact ih1 ((q2_l + 1), sm2_v + 1) _ _ _ (by first | omega | (dsimp only; omega)) ⟨(by first | omega | (dsimp only; omega)), (cntA_y hs2 h_13), rfl, rfl, lv_sub hl [0, 1, 2] rfl⟩
  refine lv_tableOut (tgt := 154) hx hb d_MO_count_3 (tb_out 8 (by decide) (fun j hj => by rcases (show j = 0 ∨ j = 1 ∨ j = 2 ∨ j = 3 ∨ j = 4 ∨ j = 5 ∨ j = 6 ∨ j = 7 by omega) with rfl | rfl | rfl | rfl | rfl | rfl | rfl | rfl <;> assumption)) (by decide) ?_
  refine lv_bipush (v := (-2)) hx hb d_MO_count_154 (by decide) ?_
  exact W.iret (v := (-2)) hx hb hr (fun tT ht hW => ⟨(-2), rfl, (by unfold gCt; rw [if_neg hz_1, if_neg hz_2, if_neg hz_3, if_neg hz_4, if_neg hz_7, if_neg hz_8, if_neg hz_9, if_neg hz_10]), ht⟩) (fun q h => absurd h List.not_mem_nil) d_MO_count_156

set_option maxHeartbeats 4000000 in
set_option maxRecDepth 100000 in
theorem e_MO_digest (l : Launch) (D : va_G) (cI cZ : ClassId) (y : Nat) (mn : Nat) (mtm : Int32) (mgp : Int32) (mlk : Int32) (y1 : Nat) (y2 : Nat) (y3 : Nat) (y4 : Nat) (mp : Nat) (y5 : Nat) (y6 : Nat) (y7 : Nat) (y8 : Nat) (y9 : Nat) (y10 : Nat) (y11 : Nat) (y12 : Nat) (y13 : Nat) (y14 : Nat) (y15 : Nat) (mq : Nat) (y16 : Nat) (y17 : Nat) (y18 : Nat) (y19 : Nat) (y20 : Nat) (y21 : Nat) (y22 : Nat) (y23 : Nat) (y24 : Nat) (y25 : Nat) (y26 : Nat) (y27 : Nat) (mhw : Int32) (mwn : Nat) (y28 : Nat) (y29 : Nat) (y30 : Nat) (y31 : Nat) (y32 : Nat) (y33 : Nat) (y34 : Nat) (y35 : Nat) (y36 : Nat) (mbm : Nat) (y37 : Nat) (y38 : Nat) (mrm : Nat) (mro : Int32) (mrs : Int32) (MAw : Nat → Int32) (MC : Nat → Int32) (ME : Nat → Nat) (MS : Nat → Int32) (MLk : Nat → Int32) (MU : Nat → Int32) (MT : Nat → Int32) (MY : Nat → Nat) (ML : Nat → Int32) (MH : Nat → Int32) (PA1 : Nat → Int32) (PA2 : Nat → Int32) (PA3 : Nat → Nat) (PA4 : Nat → Int32) (PA5 : Nat → Int32) (PA6 : Nat → Int32) (PB3 : Nat → Int32) (sz : Nat) (h_mn : mn ≤ 7) (h_mp : mp ≤ 12) (h_mq : mq ≤ 40) (h_mwn : mwn ≤ 8) (h_mbm : mbm ≤ 8) (h_mrm : mrm ≤ 8) (h_ME : ∀ zz, ME zz ≤ 6) (h_MY : ∀ zz, MY zz ≤ 64) (h_PA3 : ∀ zz, PA3 zz ≤ 8) : Met l ⟨"PromiseChainsModel", "digest", "()J"⟩ (mw ⟨"PromiseChainsModel", "digest", "()J"⟩ prog_9_method_52_code 5 (some .long)) ({ frames := 3, cells := 0, slots := 0, locals := 65 }) (va_Pc [.ref y] (PB D cI cZ sz [(y, .inr (7, [.int (nI mn), .int mtm, .int mgp, .int mlk, .ref y1, .ref y2, .ref y3, .ref y4, .int (nI mp), .ref y5, .ref y6, .ref y7, .ref y8, .ref y9, .ref y10, .ref y11, .ref y12, .ref y13, .ref y14, .ref y15, .int (nI mq), .ref y16, .ref y17, .ref y18, .ref y19, .ref y20, .ref y21, .ref y22, .ref y23, .ref y24, .ref y25, .ref y26, .ref y27, .int mhw, .int (nI mwn), .ref y28, .ref y29, .ref y30, .ref y31, .ref y32, .ref y33, .ref y34, .ref y35, .ref y36, .int (nI mbm), .ref y37, .ref y38, .int (nI mrm), .int mro, .int mrs])), (y1, .inl (cZ, 7, .inl MAw)), (y2, .inl (cI, 7, .inl MC)), (y5, .inl (cI, 24, .inl (fun zy => nI (ME zy)))), (y6, .inl (cI, 24, .inl MS)), (y7, .inl (cI, 24, .inl MLk)), (y8, .inl (cI, 12, .inl MU)), (y9, .inl (cI, 12, .inl MT)), (y13, .inl (cI, 12, .inl (fun zy => nI (MY zy)))), (y14, .inl (cI, 12, .inl ML)), (y15, .inl (cI, 12, .inl MH)), (y16, .inl (cI, 40, .inl PA1)), (y17, .inl (cI, 40, .inl PA2)), (y18, .inl (cI, 40, .inl (fun zy => nI (PA3 zy)))), (y19, .inl (cI, 40, .inl PA4)), (y20, .inl (cI, 40, .inl PA5)), (y21, .inl (cZ, 40, .inl PA6)), (y25, .inl (cI, 320, .inl PB3))])) (vp_Sl (fun r => True)) 0 0 (fun _ => False) := by
  refine Met.ofW (cc := prog_9_method_52_code) (maxL := 5) (ret := (some .long)) (by decide) rfl ?_
  intro p e s m args below meth c s₁ B hml hv
  obtain ⟨rfl, hsz, hP, hK, hD0, hN⟩ := hv
  have hx := B.exec
  have hb := B.bytes
  have hr := B.returns
  have hts0 := atoms_spec (ws := mw ⟨"PromiseChainsModel", "digest", "()J"⟩ prog_9_method_52_code 5 (some .long)) B.pre
  have hts : ∀ w ∈ tblG, w.before _ s = true := fun w h => hts0 w (List.mem_cons_of_mem _ h)
  have hown : s.vm.findClass "PromiseChainsModel" = some m.cls := findClass_of_methodNamed B.named
  have hlocks := B.notSynchronized
  subst hsz
  have hD := hD0
  have hP : va_P D vwCl [(y, .inr (7, [.int (nI mn), .int mtm, .int mgp, .int mlk, .ref y1, .ref y2, .ref y3, .ref y4, .int (nI mp), .ref y5, .ref y6, .ref y7, .ref y8, .ref y9, .ref y10, .ref y11, .ref y12, .ref y13, .ref y14, .ref y15, .int (nI mq), .ref y16, .ref y17, .ref y18, .ref y19, .ref y20, .ref y21, .ref y22, .ref y23, .ref y24, .ref y25, .ref y26, .ref y27, .int mhw, .int (nI mwn), .ref y28, .ref y29, .ref y30, .ref y31, .ref y32, .ref y33, .ref y34, .ref y35, .ref y36, .int (nI mbm), .ref y37, .ref y38, .int (nI mrm), .int mro, .int mrs])), (y1, .inl (cZ, 7, .inl MAw)), (y2, .inl (cI, 7, .inl MC)), (y5, .inl (cI, 24, .inl (fun zy => nI (ME zy)))), (y6, .inl (cI, 24, .inl MS)), (y7, .inl (cI, 24, .inl MLk)), (y8, .inl (cI, 12, .inl MU)), (y9, .inl (cI, 12, .inl MT)), (y13, .inl (cI, 12, .inl (fun zy => nI (MY zy)))), (y14, .inl (cI, 12, .inl ML)), (y15, .inl (cI, 12, .inl MH)), (y16, .inl (cI, 40, .inl PA1)), (y17, .inl (cI, 40, .inl PA2)), (y18, .inl (cI, 40, .inl (fun zy => nI (PA3 zy)))), (y19, .inl (cI, 40, .inl PA4)), (y20, .inl (cI, 40, .inl PA5)), (y21, .inl (cZ, 40, .inl PA6)), (y25, .inl (cI, 320, .inl PB3))] s.heap := hP
  have hl := lv_entry ([.ref y]) (n := 5) (Nat.le_of_ble_eq_true rfl)
  rw [lg_entry_eq]
  generalize (lg_sl ([.ref y]) ++ List.replicate (5 - (lg_sl ([.ref y])).length) Slot.unset).toArray = ls at hl ⊢
  have hl : lv_has ls 5 [(0, .ref y)] := hl
  refine lv_ldc2 hx hb hown (hts _ q_984) d_MO_digest_0 ?_
  refine lv_lstore_n (lv' := [(1, .long 233), (0, .ref y)]) hx hb d_MO_digest_3 rfl hl (by decide) rfl (fun ls hl => ?_)
  refine lv_iconst (v := 0) hx hb d_MO_digest_4 (by decide) ?_
  refine lv_istore_n (lv' := [(3, .int 0), (1, .long 233), (0, .ref y)]) hx hb d_MO_digest_5 rfl hl (by decide) rfl (fun ls hl => ?_)
  refine W_loop (σ := Nat × Int64) (I := fun xX H locs ls => xX.1 ≤ 8 ∧ H = s.heap ∧ locs = [] ∧ lv_has ls 5 [(3, .int (nI xX.1)), (1, .long xX.2), (0, .ref y)]) (μ := fun xX => 9 - xX.1) ?_ (0, 233) ⟨(by first | omega | (dsimp only; omega)), rfl, rfl, lv_sub hl [0, 1, 2] rfl⟩
  intro xX H_1 locs ls hI ih1
  obtain ⟨k0_l, h0_v⟩ := xX
  obtain ⟨hk0, rfl, rfl, hl⟩ := hI
  have hl : lv_has ls 5 [(3, .int (nI k0_l)), (1, .long h0_v), (0, .ref y)] := hl
  have hk0 : k0_l ≤ 8 := hk0
  refine lv_iload_n hx hb d_MO_digest_6 rfl (lv_at hl 0 rfl) ?_
  refine lv_bipush (v := 8) hx hb d_MO_digest_7 (by decide) ?_
  refine lv_icmp_ge (tgt := 31) hx hb d_MO_digest_9 (by decide) (fun h_2 => ?_) (fun h_2 => ?_)
  · have nh_2 : 8 ≤ k0_l := (nI_leI (a := 8) (b := k0_l) (by omega) (by omega)).mp h_2
    refine lv_iconst (v := 0) hx hb d_MO_digest_31 (by decide) ?_
    refine lv_istore_n (lv' := [(3, .int 0), (1, .long h0_v), (0, .ref y)]) hx hb d_MO_digest_32 rfl hl (by decide) rfl (fun ls hl => ?_)
    refine W_loop (σ := Nat × Int64) (I := fun xX H locs ls => xX.1 ≤ mn ∧ H = s.heap ∧ locs = [] ∧ lv_has ls 5 [(3, .int (nI xX.1)), (1, .long xX.2), (0, .ref y)]) (μ := fun xX => 8 - xX.1) ?_ (0, h0_v) ⟨(by first | omega | (dsimp only; omega)), rfl, rfl, lv_sub hl [0, 1, 2] rfl⟩
    intro xX H_3 locs ls hI ih2
    obtain ⟨k1_l, h1_v⟩ := xX
    obtain ⟨hk1, rfl, rfl, hl⟩ := hI
    have hl : lv_has ls 5 [(3, .int (nI k1_l)), (1, .long h1_v), (0, .ref y)] := hl
    have hk1 : k1_l ≤ mn := hk1
    refine lv_iload_n hx hb d_MO_digest_33 rfl (lv_at hl 0 rfl) ?_
    refine lv_aload_n hx hb d_MO_digest_34 rfl (lv_at hl 2 rfl) ?_
    refine va_get (D := D) (ci := 7) (v := .int (nI mn)) (C := R_MO) (T := F_MO) (N := 50) hx hb hts i_MO hown hK hP 0 rfl rfl 0 (by decide) (hts _ q_632) (fun _ h9 => h9) rfl d_MO_digest_35 ?_
    refine lv_icmp_ge (tgt := 60) hx hb d_MO_digest_38 (by decide) (fun h_4 => ?_) (fun h_4 => ?_)
    · have nh_4 : mn ≤ k1_l := (nI_leI (a := mn) (b := k1_l) (by omega) (by omega)).mp h_4
      refine lv_iconst (v := 0) hx hb d_MO_digest_60 (by decide) ?_
      refine lv_istore_n (lv' := [(3, .int 0), (1, .long h1_v), (0, .ref y)]) hx hb d_MO_digest_61 rfl hl (by decide) rfl (fun ls hl => ?_)
      refine W_loop (σ := Nat × Int64) (I := fun xX H locs ls => xX.1 ≤ mp ∧ H = s.heap ∧ locs = [] ∧ lv_has ls 5 [(3, .int (nI xX.1)), (1, .long xX.2), (0, .ref y)]) (μ := fun xX => 13 - xX.1) ?_ (0, h1_v) ⟨(by first | omega | (dsimp only; omega)), rfl, rfl, lv_sub hl [0, 1, 2] rfl⟩
      intro xX H_5 locs ls hI ih3
      obtain ⟨k2_l, h2_v⟩ := xX
      obtain ⟨hk2, rfl, rfl, hl⟩ := hI
      have hl : lv_has ls 5 [(3, .int (nI k2_l)), (1, .long h2_v), (0, .ref y)] := hl
      have hk2 : k2_l ≤ mp := hk2
      refine lv_iload_n hx hb d_MO_digest_62 rfl (lv_at hl 0 rfl) ?_
      refine lv_aload_n hx hb d_MO_digest_63 rfl (lv_at hl 2 rfl) ?_
      refine va_get (D := D) (ci := 7) (v := .int (nI mp)) (C := R_MO) (T := F_MO) (N := 50) hx hb hts i_MO hown hK hP 0 rfl rfl 8 (by decide) (hts _ q_640) (fun _ h9 => h9) rfl d_MO_digest_64 ?_
      refine lv_icmp_ge (tgt := 194) hx hb d_MO_digest_67 (by decide) (fun h_6 => ?_) (fun h_6 => ?_)
      · have nh_6 : mp ≤ k2_l := (nI_leI (a := mp) (b := k2_l) (by omega) (by omega)).mp h_6
        refine lv_iconst (v := 0) hx hb d_MO_digest_194 (by decide) ?_
        refine lv_istore_n (lv' := [(3, .int 0), (1, .long h2_v), (0, .ref y)]) hx hb d_MO_digest_195 rfl hl (by decide) rfl (fun ls hl => ?_)
        refine W_loop (σ := Nat × Int64) (I := fun xX H locs ls => xX.1 ≤ mq ∧ H = s.heap ∧ locs = [] ∧ lv_has ls 5 [(3, .int (nI xX.1)), (1, .long xX.2), (0, .ref y)]) (μ := fun xX => 41 - xX.1) ?_ (0, h2_v) ⟨(by first | omega | (dsimp only; omega)), rfl, rfl, lv_sub hl [0, 1, 2] rfl⟩
        intro xX H_7 locs ls hI ih4
        obtain ⟨k4_l, h4_v⟩ := xX
        obtain ⟨hk4, rfl, rfl, hl⟩ := hI
        have hl : lv_has ls 5 [(3, .int (nI k4_l)), (1, .long h4_v), (0, .ref y)] := hl
        have hk4 : k4_l ≤ mq := hk4
        refine lv_iload_n hx hb d_MO_digest_196 rfl (lv_at hl 0 rfl) ?_
        refine lv_aload_n hx hb d_MO_digest_197 rfl (lv_at hl 2 rfl) ?_
        refine va_get (D := D) (ci := 7) (v := .int (nI mq)) (C := R_MO) (T := F_MO) (N := 50) hx hb hts i_MO hown hK hP 0 rfl rfl 20 (by decide) (hts _ q_652) (fun _ h9 => h9) rfl d_MO_digest_198 ?_
        refine lv_icmp_ge (tgt := 241) hx hb d_MO_digest_201 (by decide) (fun h_8 => ?_) (fun h_8 => ?_)
        · have nh_8 : mq ≤ k4_l := (nI_leI (a := mq) (b := k4_l) (by omega) (by omega)).mp h_8
          refine lv_lload_n hx hb d_MO_digest_241 rfl (lv_at hl 1 rfl) ?_
          exact W.lret (v := h4_v) hx hb hr (fun tT ht hW => ⟨h4_v, rfl, trivial, ht⟩) (fun q h => absurd h List.not_mem_nil) d_MO_digest_242
        · have nh_8 : ¬ mq ≤ k4_l := fun qZ => h_8 ((nI_leI (a := mq) (b := k4_l) (by omega) (by omega)).mpr qZ)
          refine lv_iconst (v := 0) hx hb d_MO_digest_204 (by decide) ?_
          refine lv_istore (lv' := [(4, .int 0), (3, .int (nI k4_l)), (1, .long h4_v), (0, .ref y)]) hx hb d_MO_digest_205 hl (by decide) rfl (fun ls hl => ?_)
          refine W_loop (σ := Nat × Int64) (I := fun xX H locs ls => xX.1 ≤ 7 ∧ H = s.heap ∧ locs = [] ∧ lv_has ls 5 [(4, .int (nI xX.1)), (3, .int (nI k4_l)), (1, .long xX.2), (0, .ref y)]) (μ := fun xX => 8 - xX.1) ?_ (0, h4_v) ⟨(by first | omega | (dsimp only; omega)), rfl, rfl, lv_sub hl [0, 1, 2, 3] rfl⟩
          intro xX H_9 locs ls hI ih5
          obtain ⟨k5_l, h5_v⟩ := xX
          obtain ⟨hk5, rfl, rfl, hl⟩ := hI
          have hl : lv_has ls 5 [(4, .int (nI k5_l)), (3, .int (nI k4_l)), (1, .long h5_v), (0, .ref y)] := hl
          have hk5 : k5_l ≤ 7 := hk5
          refine lv_iload hx hb d_MO_digest_207 (lv_at hl 0 rfl) ?_
          refine lv_bipush (v := 7) hx hb d_MO_digest_209 (by decide) ?_
          refine lv_icmp_ge (tgt := 235) hx hb d_MO_digest_211 (by decide) (fun h_10 => ?_) (fun h_10 => ?_)
          · have nh_10 : 7 ≤ k5_l := (nI_leI (a := 7) (b := k5_l) (by omega) (by omega)).mp h_10
            refine lv_iinc (v := nI (k4_l + 1)) (lv' := [(3, .int (nI (k4_l + 1))), (4, .int (nI k5_l)), (1, .long h5_v), (0, .ref y)]) hx hb d_MO_digest_235 hl (k := 1) rfl (nI_1 k4_l) (by decide) rfl (fun ls hl => ?_)
            refine lv_goto (tgt := 196) hx hb d_MO_digest_238 (by decide) ?_
            exact ih4 ((k4_l + 1), h5_v) _ _ _ (by first | omega | (dsimp only; omega)) ⟨(by first | omega | (dsimp only; omega)), rfl, rfl, lv_sub hl [0, 2, 3] rfl⟩
          · have nh_10 : ¬ 7 ≤ k5_l := fun qZ => h_10 ((nI_leI (a := 7) (b := k5_l) (by omega) (by omega)).mpr qZ)
            refine lv_ldc2 hx hb hown (hts _ q_985) d_MO_digest_214 ?_
            refine lv_lload_n hx hb d_MO_digest_217 rfl (lv_at hl 2 rfl) ?_
            refine lv_lmul hx hb d_MO_digest_218 ?_
            refine lv_aload_n hx hb d_MO_digest_219 rfl (lv_at hl 3 rfl) ?_
            refine lv_iload_n hx hb d_MO_digest_220 rfl (lv_at hl 1 rfl) ?_
            refine lv_iload hx hb d_MO_digest_221 (lv_at hl 0 rfl) ?_
            have hPc := hP.sub (ws' := [(y, .inr (7, [.int (nI mn), .int mtm, .int mgp, .int mlk, .ref y1, .ref y2, .ref y3, .ref y4, .int (nI mp), .ref y5, .ref y6, .ref y7, .ref y8, .ref y9, .ref y10, .ref y11, .ref y12, .ref y13, .ref y14, .ref y15, .int (nI mq), .ref y16, .ref y17, .ref y18, .ref y19, .ref y20, .ref y21, .ref y22, .ref y23, .ref y24, .ref y25, .ref y26, .ref y27, .int mhw, .int (nI mwn), .ref y28, .ref y29, .ref y30, .ref y31, .ref y32, .ref y33, .ref y34, .ref y35, .ref y36, .int (nI mbm), .ref y37, .ref y38, .int (nI mrm), .int mro, .int mrs])), (y16, .inl (cI, 40, .inl PA1)), (y17, .inl (cI, 40, .inl PA2)), (y18, .inl (cI, 40, .inl (fun zy => nI (PA3 zy)))), (y19, .inl (cI, 40, .inl PA4)), (y20, .inl (cI, 40, .inl PA5)), (y21, .inl (cZ, 40, .inl PA6)), (y25, .inl (cI, 320, .inl PB3))]) [0, 11, 12, 13, 14, 15, 16, 17] rfl
            have hDc := hD.sub (ws' := [(y, .inr (7, [.int (nI mn), .int mtm, .int mgp, .int mlk, .ref y1, .ref y2, .ref y3, .ref y4, .int (nI mp), .ref y5, .ref y6, .ref y7, .ref y8, .ref y9, .ref y10, .ref y11, .ref y12, .ref y13, .ref y14, .ref y15, .int (nI mq), .ref y16, .ref y17, .ref y18, .ref y19, .ref y20, .ref y21, .ref y22, .ref y23, .ref y24, .ref y25, .ref y26, .ref y27, .int mhw, .int (nI mwn), .ref y28, .ref y29, .ref y30, .ref y31, .ref y32, .ref y33, .ref y34, .ref y35, .ref y36, .int (nI mbm), .ref y37, .ref y38, .int (nI mrm), .int mro, .int mrs])), (y16, .inl (cI, 40, .inl PA1)), (y17, .inl (cI, 40, .inl PA2)), (y18, .inl (cI, 40, .inl (fun zy => nI (PA3 zy)))), (y19, .inl (cI, 40, .inl PA4)), (y20, .inl (cI, 40, .inl PA5)), (y21, .inl (cZ, 40, .inl PA6)), (y25, .inl (cI, 320, .inl PB3))]) [0, 11, 12, 13, 14, 15, 16, 17] (by decide +kernel) rfl
            refine vp_callSi (va_Run.run (va_runV (As := [.int (nI k4_l), .int (nI k5_l)]) (rest := [.long (31 * h5_v)]) ⟨hx, hb, hml, hown, hts⟩ (e_MO_promiseAt l D cI cZ y (nI k4_l) (nI k5_l) mn mtm mgp mlk y1 y2 y3 y4 mp y5 y6 y7 y8 y9 y10 y11 y12 y13 y14 y15 mq y16 y17 y18 y19 y20 y21 y22 y23 y24 y25 y26 y27 mhw mwn y28 y29 y30 y31 y32 y33 y34 y35 y36 mbm y37 y38 mrm mro mrs PA1 PA2 PA3 PA4 PA5 PA6 PB3 s.heap.size h_mn h_mp h_mq h_mwn h_mbm h_mrm h_PA3) (my_cwV 2 hts q_890 q_988 q_888 q_889 q_8 rfl rfl (by decide +kernel) ⟨Nat.le_of_ble_eq_true rfl, Nat.le_of_ble_eq_true rfl⟩) (my_preV hPc hDc hK hN 7 0 rfl rfl) rfl rfl hl.1 rfl (lv_room (Nat.le_of_ble_eq_true rfl)) d_MO_digest_223 ⟨Nat.le_of_ble_eq_true rfl, Nat.le_of_ble_eq_true rfl⟩)) (fun r_11 hw_11 => ?_)
            have hf_11_0 : r_11 = gPAm mq PA3 PA4 PA5 PA1 PB3 PA6 PA2 (nI k4_l) (nI k5_l) := hw_11
            have hf_11_0 : r_11 = gPAm mq PA3 PA4 PA5 PA1 PB3 PA6 PA2 (nI k4_l) (nI k5_l) := hf_11_0
            refine lv_i2l hx hb d_MO_digest_226 rfl ?_
            refine lv_ladd hx hb d_MO_digest_227 ?_
            refine lv_lstore_n (lv' := [(1, .long ((31 * h5_v) + r_11.toInt64)), (4, .int (nI k5_l)), (3, .int (nI k4_l)), (0, .ref y)]) hx hb d_MO_digest_228 rfl hl (by decide) rfl (fun ls hl => ?_)
            refine lv_iinc (v := nI (k5_l + 1)) (lv' := [(4, .int (nI (k5_l + 1))), (1, .long ((31 * h5_v) + r_11.toInt64)), (3, .int (nI k4_l)), (0, .ref y)]) hx hb d_MO_digest_229 hl (k := 1) rfl (nI_1 k5_l) (by decide) rfl (fun ls hl => ?_)
            refine lv_goto (tgt := 207) hx hb d_MO_digest_232 (by decide) ?_
            exact ih5 ((k5_l + 1), (31 * h5_v) + r_11.toInt64) _ _ _ (by first | omega | (dsimp only; omega)) ⟨(by first | omega | (dsimp only; omega)), rfl, rfl, lv_sub hl [0, 2, 1, 3] rfl⟩
      · have nh_6 : ¬ mp ≤ k2_l := fun qZ => h_6 ((nI_leI (a := mp) (b := k2_l) (by omega) (by omega)).mpr qZ)
        refine lv_iconst (v := 0) hx hb d_MO_digest_70 (by decide) ?_
        refine lv_istore (lv' := [(4, .int 0), (3, .int (nI k2_l)), (1, .long h2_v), (0, .ref y)]) hx hb d_MO_digest_71 hl (by decide) rfl (fun ls hl => ?_)
        refine W_loop (σ := Nat × Int64) (I := fun xX H locs ls => xX.1 ≤ 5 ∧ H = s.heap ∧ locs = [] ∧ lv_has ls 5 [(4, .int (nI xX.1)), (3, .int (nI k2_l)), (1, .long xX.2), (0, .ref y)]) (μ := fun xX => 6 - xX.1) ?_ (0, h2_v) ⟨(by first | omega | (dsimp only; omega)), rfl, rfl, lv_sub hl [0, 1, 2, 3] rfl⟩
        intro xX H_12 locs ls hI ih4
        obtain ⟨k3_l, h3_v⟩ := xX
        obtain ⟨hk3, rfl, rfl, hl⟩ := hI
        have hl : lv_has ls 5 [(4, .int (nI k3_l)), (3, .int (nI k2_l)), (1, .long h3_v), (0, .ref y)] := hl
        have hk3 : k3_l ≤ 5 := hk3
        refine lv_iload hx hb d_MO_digest_73 (lv_at hl 0 rfl) ?_
        refine lv_iconst (v := 5) hx hb d_MO_digest_75 (by decide) ?_
        refine lv_icmp_ge (tgt := 100) hx hb d_MO_digest_76 (by decide) (fun h_13 => ?_) (fun h_13 => ?_)
        · have nh_13 : 5 ≤ k3_l := (nI_leI (a := 5) (b := k3_l) (by omega) (by omega)).mp h_13
          refine lv_ldc2 hx hb hown (hts _ q_985) d_MO_digest_100 ?_
          refine lv_ldc2 hx hb hown (hts _ q_985) d_MO_digest_103 ?_
          refine lv_ldc2 hx hb hown (hts _ q_985) d_MO_digest_106 ?_
          refine lv_ldc2 hx hb hown (hts _ q_985) d_MO_digest_109 ?_
          refine lv_lload_n hx hb d_MO_digest_112 rfl (lv_at hl 2 rfl) ?_
          refine lv_lmul hx hb d_MO_digest_113 ?_
          refine lv_aload_n hx hb d_MO_digest_114 rfl (lv_at hl 3 rfl) ?_
          refine va_get (D := D) (ci := 7) (v := .ref y6) (C := R_MO) (T := F_MO) (N := 50) hx hb hts i_MO hown hK hP 0 rfl rfl 10 (by decide) (hts _ q_642) (fun _ h9 => h9) rfl d_MO_digest_115 ?_
          refine lv_iconst (v := 2) hx hb d_MO_digest_118 (by decide) ?_
          refine lv_iload_n hx hb d_MO_digest_119 rfl (lv_at hl 1 rfl) ?_
          refine lv_imul hx hb d_MO_digest_120 ?_
          refine lv_seti (nI (2 * k2_l)) (pk_mul 2 k2_l) ?_
          refine my_ldI hx hb hK hP 4 rfl (2 * k2_l) rfl (by omega) (by decide) d_MO_digest_121 ?_
          refine lv_i2l hx hb d_MO_digest_122 rfl ?_
          refine lv_ladd hx hb d_MO_digest_123 ?_
          refine lv_lmul hx hb d_MO_digest_124 ?_
          refine lv_aload_n hx hb d_MO_digest_125 rfl (lv_at hl 3 rfl) ?_
          refine va_get (D := D) (ci := 7) (v := .ref y6) (C := R_MO) (T := F_MO) (N := 50) hx hb hts i_MO hown hK hP 0 rfl rfl 10 (by decide) (hts _ q_642) (fun _ h9 => h9) rfl d_MO_digest_126 ?_
          refine lv_iconst (v := 2) hx hb d_MO_digest_129 (by decide) ?_
          refine lv_iload_n hx hb d_MO_digest_130 rfl (lv_at hl 1 rfl) ?_
          refine lv_imul hx hb d_MO_digest_131 ?_
          refine lv_seti (nI (2 * k2_l)) (pk_mul 2 k2_l) ?_
          refine lv_iconst (v := 1) hx hb d_MO_digest_132 (by decide) ?_
          refine lv_iadd hx hb d_MO_digest_133 ?_
          refine lv_seti (nI ((2 * k2_l) + 1)) (nI_add (2 * k2_l) 1) ?_
          refine my_ldI hx hb hK hP 4 rfl ((2 * k2_l) + 1) rfl (by omega) (by decide) d_MO_digest_134 ?_
          refine lv_i2l hx hb d_MO_digest_135 rfl ?_
          refine lv_ladd hx hb d_MO_digest_136 ?_
          refine lv_lmul hx hb d_MO_digest_137 ?_
          refine lv_aload_n hx hb d_MO_digest_138 rfl (lv_at hl 3 rfl) ?_
          refine va_get (D := D) (ci := 7) (v := .ref y7) (C := R_MO) (T := F_MO) (N := 50) hx hb hts i_MO hown hK hP 0 rfl rfl 11 (by decide) (hts _ q_643) (fun _ h9 => h9) rfl d_MO_digest_139 ?_
          refine lv_iconst (v := 2) hx hb d_MO_digest_142 (by decide) ?_
          refine lv_iload_n hx hb d_MO_digest_143 rfl (lv_at hl 1 rfl) ?_
          refine lv_imul hx hb d_MO_digest_144 ?_
          refine lv_seti (nI (2 * k2_l)) (pk_mul 2 k2_l) ?_
          refine my_ldI hx hb hK hP 5 rfl (2 * k2_l) rfl (by omega) (by decide) d_MO_digest_145 ?_
          refine lv_i2l hx hb d_MO_digest_146 rfl ?_
          refine lv_ladd hx hb d_MO_digest_147 ?_
          refine lv_lmul hx hb d_MO_digest_148 ?_
          refine lv_aload_n hx hb d_MO_digest_149 rfl (lv_at hl 3 rfl) ?_
          refine va_get (D := D) (ci := 7) (v := .ref y7) (C := R_MO) (T := F_MO) (N := 50) hx hb hts i_MO hown hK hP 0 rfl rfl 11 (by decide) (hts _ q_643) (fun _ h9 => h9) rfl d_MO_digest_150 ?_
          refine lv_iconst (v := 2) hx hb d_MO_digest_153 (by decide) ?_
          refine lv_iload_n hx hb d_MO_digest_154 rfl (lv_at hl 1 rfl) ?_
          refine lv_imul hx hb d_MO_digest_155 ?_
          refine lv_seti (nI (2 * k2_l)) (pk_mul 2 k2_l) ?_
          refine lv_iconst (v := 1) hx hb d_MO_digest_156 (by decide) ?_
          refine lv_iadd hx hb d_MO_digest_157 ?_
          refine lv_seti (nI ((2 * k2_l) + 1)) (nI_add (2 * k2_l) 1) ?_
          refine my_ldI hx hb hK hP 5 rfl ((2 * k2_l) + 1) rfl (by omega) (by decide) d_MO_digest_158 ?_
          refine lv_i2l hx hb d_MO_digest_159 rfl ?_
          refine lv_ladd hx hb d_MO_digest_160 ?_
          refine lv_lstore_n (lv' := [(1, .long ((31 * ((31 * ((31 * ((31 * h3_v) + ((MS (2 * k2_l)).toInt64))) + ((MS ((2 * k2_l) + 1)).toInt64))) + ((MLk (2 * k2_l)).toInt64))) + ((MLk ((2 * k2_l) + 1)).toInt64))), (4, .int (nI k3_l)), (3, .int (nI k2_l)), (0, .ref y)]) hx hb d_MO_digest_161 rfl hl (by decide) rfl (fun ls hl => ?_)
          refine lv_ldc2 hx hb hown (hts _ q_985) d_MO_digest_162 ?_
          refine lv_ldc2 hx hb hown (hts _ q_985) d_MO_digest_165 ?_
          refine lv_lload_n hx hb d_MO_digest_168 rfl (lv_at hl 0 rfl) ?_
          refine lv_lmul hx hb d_MO_digest_169 ?_
          refine lv_aload_n hx hb d_MO_digest_170 rfl (lv_at hl 3 rfl) ?_
          refine va_get (D := D) (ci := 7) (v := .ref y14) (C := R_MO) (T := F_MO) (N := 50) hx hb hts i_MO hown hK hP 0 rfl rfl 18 (by decide) (hts _ q_650) (fun _ h9 => h9) rfl d_MO_digest_171 ?_
          refine lv_iload_n hx hb d_MO_digest_174 rfl (lv_at hl 2 rfl) ?_
          refine my_ldI hx hb hK hP 9 rfl k2_l rfl (by omega) (by decide) d_MO_digest_175 ?_
          refine lv_i2l hx hb d_MO_digest_176 rfl ?_
          refine lv_ladd hx hb d_MO_digest_177 ?_
          refine lv_lmul hx hb d_MO_digest_178 ?_
          refine lv_aload_n hx hb d_MO_digest_179 rfl (lv_at hl 3 rfl) ?_
          refine va_get (D := D) (ci := 7) (v := .ref y15) (C := R_MO) (T := F_MO) (N := 50) hx hb hts i_MO hown hK hP 0 rfl rfl 19 (by decide) (hts _ q_651) (fun _ h9 => h9) rfl d_MO_digest_180 ?_
          refine lv_iload_n hx hb d_MO_digest_183 rfl (lv_at hl 2 rfl) ?_
          refine my_ldI hx hb hK hP 10 rfl k2_l rfl (by omega) (by decide) d_MO_digest_184 ?_
          refine lv_i2l hx hb d_MO_digest_185 rfl ?_
          refine lv_ladd hx hb d_MO_digest_186 ?_
          refine lv_lstore_n (lv' := [(1, .long ((31 * ((31 * ((31 * ((31 * ((31 * ((31 * h3_v) + ((MS (2 * k2_l)).toInt64))) + ((MS ((2 * k2_l) + 1)).toInt64))) + ((MLk (2 * k2_l)).toInt64))) + ((MLk ((2 * k2_l) + 1)).toInt64))) + ((ML k2_l).toInt64))) + ((MH k2_l).toInt64))), (4, .int (nI k3_l)), (3, .int (nI k2_l)), (0, .ref y)]) hx hb d_MO_digest_187 rfl hl (by decide) rfl (fun ls hl => ?_)
          refine lv_iinc (v := nI (k2_l + 1)) (lv' := [(3, .int (nI (k2_l + 1))), (1, .long ((31 * ((31 * ((31 * ((31 * ((31 * ((31 * h3_v) + ((MS (2 * k2_l)).toInt64))) + ((MS ((2 * k2_l) + 1)).toInt64))) + ((MLk (2 * k2_l)).toInt64))) + ((MLk ((2 * k2_l) + 1)).toInt64))) + ((ML k2_l).toInt64))) + ((MH k2_l).toInt64))), (4, .int (nI k3_l)), (0, .ref y)]) hx hb d_MO_digest_188 hl (k := 2) rfl (nI_1 k2_l) (by decide) rfl (fun ls hl => ?_)
          refine lv_goto (tgt := 62) hx hb d_MO_digest_191 (by decide) ?_
          exact ih3 ((k2_l + 1), (31 * ((31 * ((31 * ((31 * ((31 * ((31 * h3_v) + ((MS (2 * k2_l)).toInt64))) + ((MS ((2 * k2_l) + 1)).toInt64))) + ((MLk (2 * k2_l)).toInt64))) + ((MLk ((2 * k2_l) + 1)).toInt64))) + ((ML k2_l).toInt64))) + ((MH k2_l).toInt64)) _ _ _ (by first | omega | (dsimp only; omega)) ⟨(by first | omega | (dsimp only; omega)), rfl, rfl, lv_sub hl [0, 1, 3] rfl⟩
        · have nh_13 : ¬ 5 ≤ k3_l := fun qZ => h_13 ((nI_leI (a := 5) (b := k3_l) (by omega) (by omega)).mpr qZ)
          refine lv_ldc2 hx hb hown (hts _ q_985) d_MO_digest_79 ?_
          refine lv_lload_n hx hb d_MO_digest_82 rfl (lv_at hl 2 rfl) ?_
          refine lv_lmul hx hb d_MO_digest_83 ?_
          refine lv_aload_n hx hb d_MO_digest_84 rfl (lv_at hl 3 rfl) ?_
          refine lv_iload_n hx hb d_MO_digest_85 rfl (lv_at hl 1 rfl) ?_
          refine lv_iload hx hb d_MO_digest_86 (lv_at hl 0 rfl) ?_
          have hPc := hP.sub (ws' := [(y, .inr (7, [.int (nI mn), .int mtm, .int mgp, .int mlk, .ref y1, .ref y2, .ref y3, .ref y4, .int (nI mp), .ref y5, .ref y6, .ref y7, .ref y8, .ref y9, .ref y10, .ref y11, .ref y12, .ref y13, .ref y14, .ref y15, .int (nI mq), .ref y16, .ref y17, .ref y18, .ref y19, .ref y20, .ref y21, .ref y22, .ref y23, .ref y24, .ref y25, .ref y26, .ref y27, .int mhw, .int (nI mwn), .ref y28, .ref y29, .ref y30, .ref y31, .ref y32, .ref y33, .ref y34, .ref y35, .ref y36, .int (nI mbm), .ref y37, .ref y38, .int (nI mrm), .int mro, .int mrs])), (y5, .inl (cI, 24, .inl (fun zy => nI (ME zy)))), (y8, .inl (cI, 12, .inl MU)), (y13, .inl (cI, 12, .inl (fun zy => nI (MY zy)))), (y9, .inl (cI, 12, .inl MT))]) [0, 3, 6, 8, 7] rfl
          have hDc := hD.sub (ws' := [(y, .inr (7, [.int (nI mn), .int mtm, .int mgp, .int mlk, .ref y1, .ref y2, .ref y3, .ref y4, .int (nI mp), .ref y5, .ref y6, .ref y7, .ref y8, .ref y9, .ref y10, .ref y11, .ref y12, .ref y13, .ref y14, .ref y15, .int (nI mq), .ref y16, .ref y17, .ref y18, .ref y19, .ref y20, .ref y21, .ref y22, .ref y23, .ref y24, .ref y25, .ref y26, .ref y27, .int mhw, .int (nI mwn), .ref y28, .ref y29, .ref y30, .ref y31, .ref y32, .ref y33, .ref y34, .ref y35, .ref y36, .int (nI mbm), .ref y37, .ref y38, .int (nI mrm), .int mro, .int mrs])), (y5, .inl (cI, 24, .inl (fun zy => nI (ME zy)))), (y8, .inl (cI, 12, .inl MU)), (y13, .inl (cI, 12, .inl (fun zy => nI (MY zy)))), (y9, .inl (cI, 12, .inl MT))]) [0, 3, 6, 8, 7] (by decide +kernel) rfl
          refine vp_callSi (va_Run.run (va_runV (As := [.int (nI k2_l), .int (nI k3_l)]) (rest := [.long (31 * h3_v)]) ⟨hx, hb, hml, hown, hts⟩ (e_MO_about l D cI cZ y (nI k2_l) (nI k3_l) mn mtm mgp mlk y1 y2 y3 y4 mp y5 y6 y7 y8 y9 y10 y11 y12 y13 y14 y15 mq y16 y17 y18 y19 y20 y21 y22 y23 y24 y25 y26 y27 mhw mwn y28 y29 y30 y31 y32 y33 y34 y35 y36 mbm y37 y38 mrm mro mrs ME MU MY MT s.heap.size h_mn h_mp h_mq h_mwn h_mbm h_mrm h_ME h_MY) (my_cwV 2 hts q_914 q_987 q_912 q_913 q_8 rfl rfl (by decide +kernel) ⟨Nat.le_of_ble_eq_true rfl, Nat.le_of_ble_eq_true rfl⟩) (my_preV hPc hDc hK hN 7 0 rfl rfl) rfl rfl hl.1 rfl (lv_room (Nat.le_of_ble_eq_true rfl)) d_MO_digest_88 ⟨Nat.le_of_ble_eq_true rfl, Nat.le_of_ble_eq_true rfl⟩)) (fun r_14 hw_14 => ?_)
          have hf_14_0 : r_14 = gABm mp ME MU MY MT (nI k2_l) (nI k3_l) := hw_14
          have hf_14_0 : r_14 = gABm mp ME MU MY MT (nI k2_l) (nI k3_l) := hf_14_0
          refine lv_i2l hx hb d_MO_digest_91 rfl ?_
          refine lv_ladd hx hb d_MO_digest_92 ?_
          refine lv_lstore_n (lv' := [(1, .long ((31 * h3_v) + r_14.toInt64)), (4, .int (nI k3_l)), (3, .int (nI k2_l)), (0, .ref y)]) hx hb d_MO_digest_93 rfl hl (by decide) rfl (fun ls hl => ?_)
          refine lv_iinc (v := nI (k3_l + 1)) (lv' := [(4, .int (nI (k3_l + 1))), (1, .long ((31 * h3_v) + r_14.toInt64)), (3, .int (nI k2_l)), (0, .ref y)]) hx hb d_MO_digest_94 hl (k := 1) rfl (nI_1 k3_l) (by decide) rfl (fun ls hl => ?_)
          refine lv_goto (tgt := 73) hx hb d_MO_digest_97 (by decide) ?_
          exact ih4 ((k3_l + 1), (31 * h3_v) + r_14.toInt64) _ _ _ (by first | omega | (dsimp only; omega)) ⟨(by first | omega | (dsimp only; omega)), rfl, rfl, lv_sub hl [0, 2, 1, 3] rfl⟩
    · have nh_4 : ¬ mn ≤ k1_l := fun qZ => h_4 ((nI_leI (a := mn) (b := k1_l) (by omega) (by omega)).mpr qZ)
      refine lv_ldc2 hx hb hown (hts _ q_985) d_MO_digest_41 ?_
      refine lv_lload_n hx hb d_MO_digest_44 rfl (lv_at hl 1 rfl) ?_
      refine lv_lmul hx hb d_MO_digest_45 ?_
      refine lv_aload_n hx hb d_MO_digest_46 rfl (lv_at hl 2 rfl) ?_
      refine lv_iload_n hx hb d_MO_digest_47 rfl (lv_at hl 0 rfl) ?_
      have hPc := hP.sub (ws' := [(y, .inr (7, [.int (nI mn), .int mtm, .int mgp, .int mlk, .ref y1, .ref y2, .ref y3, .ref y4, .int (nI mp), .ref y5, .ref y6, .ref y7, .ref y8, .ref y9, .ref y10, .ref y11, .ref y12, .ref y13, .ref y14, .ref y15, .int (nI mq), .ref y16, .ref y17, .ref y18, .ref y19, .ref y20, .ref y21, .ref y22, .ref y23, .ref y24, .ref y25, .ref y26, .ref y27, .int mhw, .int (nI mwn), .ref y28, .ref y29, .ref y30, .ref y31, .ref y32, .ref y33, .ref y34, .ref y35, .ref y36, .int (nI mbm), .ref y37, .ref y38, .int (nI mrm), .int mro, .int mrs])), (y2, .inl (cI, 7, .inl MC)), (y5, .inl (cI, 24, .inl (fun zy => nI (ME zy)))), (y6, .inl (cI, 24, .inl MS)), (y7, .inl (cI, 24, .inl MLk))]) [0, 2, 3, 4, 5] rfl
      have hDc := hD.sub (ws' := [(y, .inr (7, [.int (nI mn), .int mtm, .int mgp, .int mlk, .ref y1, .ref y2, .ref y3, .ref y4, .int (nI mp), .ref y5, .ref y6, .ref y7, .ref y8, .ref y9, .ref y10, .ref y11, .ref y12, .ref y13, .ref y14, .ref y15, .int (nI mq), .ref y16, .ref y17, .ref y18, .ref y19, .ref y20, .ref y21, .ref y22, .ref y23, .ref y24, .ref y25, .ref y26, .ref y27, .int mhw, .int (nI mwn), .ref y28, .ref y29, .ref y30, .ref y31, .ref y32, .ref y33, .ref y34, .ref y35, .ref y36, .int (nI mbm), .ref y37, .ref y38, .int (nI mrm), .int mro, .int mrs])), (y2, .inl (cI, 7, .inl MC)), (y5, .inl (cI, 24, .inl (fun zy => nI (ME zy)))), (y6, .inl (cI, 24, .inl MS)), (y7, .inl (cI, 24, .inl MLk))]) [0, 2, 3, 4, 5] (by decide +kernel) rfl
      refine vp_callSi (va_Run.run (va_runV (As := [.int (nI k1_l)]) (rest := [.long (31 * h1_v)]) ⟨hx, hb, hml, hown, hts⟩ (e_MO_wealthOf l D cI cZ y k1_l mn mtm mgp mlk y1 y2 y3 y4 mp y5 y6 y7 y8 y9 y10 y11 y12 y13 y14 y15 mq y16 y17 y18 y19 y20 y21 y22 y23 y24 y25 y26 y27 mhw mwn y28 y29 y30 y31 y32 y33 y34 y35 y36 mbm y37 y38 mrm mro mrs MC ME MS MLk s.heap.size h_mn h_mp h_mq h_mwn h_mbm h_mrm h_ME (by first | omega | (dsimp only; omega))) (my_cwV 1 hts q_926 q_923 q_925 q_p21 q_8 rfl rfl (by decide +kernel) ⟨Nat.le_of_ble_eq_true rfl, Nat.le_of_ble_eq_true rfl⟩) (my_preV hPc hDc hK hN 7 0 rfl rfl) rfl rfl hl.1 rfl (lv_room (Nat.le_of_ble_eq_true rfl)) d_MO_digest_48 ⟨Nat.le_of_ble_eq_true rfl, Nat.le_of_ble_eq_true rfl⟩)) (fun r_15 hw_15 => ?_)
      refine lv_i2l hx hb d_MO_digest_51 rfl ?_
      refine lv_ladd hx hb d_MO_digest_52 ?_
      refine lv_lstore_n (lv' := [(1, .long ((31 * h1_v) + r_15.toInt64)), (3, .int (nI k1_l)), (0, .ref y)]) hx hb d_MO_digest_53 rfl hl (by decide) rfl (fun ls hl => ?_)
      refine lv_iinc (v := nI (k1_l + 1)) (lv' := [(3, .int (nI (k1_l + 1))), (1, .long ((31 * h1_v) + r_15.toInt64)), (0, .ref y)]) hx hb d_MO_digest_54 hl (k := 1) rfl (nI_1 k1_l) (by decide) rfl (fun ls hl => ?_)
      refine lv_goto (tgt := 33) hx hb d_MO_digest_57 (by decide) ?_
      exact ih2 ((k1_l + 1), (31 * h1_v) + r_15.toInt64) _ _ _ (by first | omega | (dsimp only; omega)) ⟨(by first | omega | (dsimp only; omega)), rfl, rfl, lv_sub hl [0, 1, 2] rfl⟩
  · have nh_2 : ¬ 8 ≤ k0_l := fun qZ => h_2 ((nI_leI (a := 8) (b := k0_l) (by omega) (by omega)).mpr qZ)
    refine lv_ldc2 hx hb hown (hts _ q_985) d_MO_digest_12 ?_
    refine lv_lload_n hx hb d_MO_digest_15 rfl (lv_at hl 1 rfl) ?_
    refine lv_lmul hx hb d_MO_digest_16 ?_
    refine lv_aload_n hx hb d_MO_digest_17 rfl (lv_at hl 2 rfl) ?_
    refine lv_iload_n hx hb d_MO_digest_18 rfl (lv_at hl 0 rfl) ?_
    have hPc := hP.sub (ws' := [(y, .inr (7, [.int (nI mn), .int mtm, .int mgp, .int mlk, .ref y1, .ref y2, .ref y3, .ref y4, .int (nI mp), .ref y5, .ref y6, .ref y7, .ref y8, .ref y9, .ref y10, .ref y11, .ref y12, .ref y13, .ref y14, .ref y15, .int (nI mq), .ref y16, .ref y17, .ref y18, .ref y19, .ref y20, .ref y21, .ref y22, .ref y23, .ref y24, .ref y25, .ref y26, .ref y27, .int mhw, .int (nI mwn), .ref y28, .ref y29, .ref y30, .ref y31, .ref y32, .ref y33, .ref y34, .ref y35, .ref y36, .int (nI mbm), .ref y37, .ref y38, .int (nI mrm), .int mro, .int mrs])), (y1, .inl (cZ, 7, .inl MAw)), (y18, .inl (cI, 40, .inl (fun zy => nI (PA3 zy)))), (y19, .inl (cI, 40, .inl PA4)), (y20, .inl (cI, 40, .inl PA5))]) [0, 1, 13, 14, 15] rfl
    have hDc := hD.sub (ws' := [(y, .inr (7, [.int (nI mn), .int mtm, .int mgp, .int mlk, .ref y1, .ref y2, .ref y3, .ref y4, .int (nI mp), .ref y5, .ref y6, .ref y7, .ref y8, .ref y9, .ref y10, .ref y11, .ref y12, .ref y13, .ref y14, .ref y15, .int (nI mq), .ref y16, .ref y17, .ref y18, .ref y19, .ref y20, .ref y21, .ref y22, .ref y23, .ref y24, .ref y25, .ref y26, .ref y27, .int mhw, .int (nI mwn), .ref y28, .ref y29, .ref y30, .ref y31, .ref y32, .ref y33, .ref y34, .ref y35, .ref y36, .int (nI mbm), .ref y37, .ref y38, .int (nI mrm), .int mro, .int mrs])), (y1, .inl (cZ, 7, .inl MAw)), (y18, .inl (cI, 40, .inl (fun zy => nI (PA3 zy)))), (y19, .inl (cI, 40, .inl PA4)), (y20, .inl (cI, 40, .inl PA5))]) [0, 1, 13, 14, 15] (by decide +kernel) rfl
    refine vp_callSi (va_Run.run (va_runV (As := [.int (nI k0_l)]) (rest := [.long (31 * h0_v)]) ⟨hx, hb, hml, hown, hts⟩ (e_MO_count l D cI cZ y (nI k0_l) mn mtm mgp mlk y1 y2 y3 y4 mp y5 y6 y7 y8 y9 y10 y11 y12 y13 y14 y15 mq y16 y17 y18 y19 y20 y21 y22 y23 y24 y25 y26 y27 mhw mwn y28 y29 y30 y31 y32 y33 y34 y35 y36 mbm y37 y38 mrm mro mrs MAw PA3 PA4 PA5 s.heap.size h_mn h_mp h_mq h_mwn h_mbm h_mrm h_PA3) (my_cwV 1 hts q_979 q_986 q_977 q_978 q_8 rfl rfl (by decide +kernel) ⟨Nat.le_of_ble_eq_true rfl, Nat.le_of_ble_eq_true rfl⟩) (my_preV hPc hDc hK hN 7 0 rfl rfl) rfl rfl hl.1 rfl (lv_room (Nat.le_of_ble_eq_true rfl)) d_MO_digest_19 ⟨Nat.le_of_ble_eq_true rfl, Nat.le_of_ble_eq_true rfl⟩)) (fun r_16 hw_16 => ?_)
    have hf_16_0 : r_16 = gCt mn mp mq (cntM PA3 PA4 PA5 mq) mtm mgp mlk (cntA MAw mn) (nI k0_l) := hw_16
    have hf_16_0 : r_16 = gCt mn mp mq (cntM PA3 PA4 PA5 mq) mtm mgp mlk (cntA MAw mn) (nI k0_l) := hf_16_0
    refine lv_i2l hx hb d_MO_digest_22 rfl ?_
    refine lv_ladd hx hb d_MO_digest_23 ?_
    refine lv_lstore_n (lv' := [(1, .long ((31 * h0_v) + r_16.toInt64)), (3, .int (nI k0_l)), (0, .ref y)]) hx hb d_MO_digest_24 rfl hl (by decide) rfl (fun ls hl => ?_)
    refine lv_iinc (v := nI (k0_l + 1)) (lv' := [(3, .int (nI (k0_l + 1))), (1, .long ((31 * h0_v) + r_16.toInt64)), (0, .ref y)]) hx hb d_MO_digest_25 hl (k := 1) rfl (nI_1 k0_l) (by decide) rfl (fun ls hl => ?_)
    refine lv_goto (tgt := 6) hx hb d_MO_digest_28 (by decide) ?_
    exact ih1 ((k0_l + 1), (31 * h0_v) + r_16.toInt64) _ _ _ (by first | omega | (dsimp only; omega)) ⟨(by first | omega | (dsimp only; omega)), rfl, rfl, lv_sub hl [0, 1, 2] rfl⟩
