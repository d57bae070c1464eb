theorem gd_PC_wayAt_0 : (decode prog_1_method_9_code 0 = .ok (.iload_n 1, 1)) ∧ (decode prog_1_method_9_code 1 = .ok (.iconst 0, 1)) ∧ (decode prog_1_method_9_code 2 = .ok (.aload_n 0, 1)) ∧ (decode prog_1_method_9_code 3 = .ok (.getfield 47, 3)) ∧ (decode prog_1_method_9_code 6 = .ok (.getfield 74, 3)) ∧ (decode prog_1_method_9_code 9 = .ok (.iconst 1, 1)) ∧ (decode prog_1_method_9_code 10 = .ok (.isub, 1)) ∧ (decode prog_1_method_9_code 11 = .ok (.invokestatic 65, 3)) ∧ (decode prog_1_method_9_code 14 = .ok (.ifCond .ne 5, 3)) ∧ (decode prog_1_method_9_code 19 = .ok (.aload_n 0, 1)) := by decide +kernel
theorem d_PC_wayAt_0 : decode prog_1_method_9_code 0 = .ok (.iload_n 1, 1) := gd_PC_wayAt_0.1
theorem d_PC_wayAt_1 : decode prog_1_method_9_code 1 = .ok (.iconst 0, 1) := gd_PC_wayAt_0.2.1
theorem d_PC_wayAt_2 : decode prog_1_method_9_code 2 = .ok (.aload_n 0, 1) := gd_PC_wayAt_0.2.2.1
theorem d_PC_wayAt_3 : decode prog_1_method_9_code 3 = .ok (.getfield 47, 3) := gd_PC_wayAt_0.2.2.2.1
theorem d_PC_wayAt_6 : decode prog_1_method_9_code 6 = .ok (.getfield 74, 3) := gd_PC_wayAt_0.2.2.2.2.1
theorem d_PC_wayAt_9 : decode prog_1_method_9_code 9 = .ok (.iconst 1, 1) := gd_PC_wayAt_0.2.2.2.2.2.1
theorem d_PC_wayAt_10 : decode prog_1_method_9_code 10 = .ok (.isub, 1) := gd_PC_wayAt_0.2.2.2.2.2.2.1
theorem d_PC_wayAt_11 : decode prog_1_method_9_code 11 = .ok (.invokestatic 65, 3) := gd_PC_wayAt_0.2.2.2.2.2.2.2.1
theorem d_PC_wayAt_14 : decode prog_1_method_9_code 14 = .ok (.ifCond .ne 5, 3) := gd_PC_wayAt_0.2.2.2.2.2.2.2.2.1
theorem d_PC_wayAt_19 : decode prog_1_method_9_code 19 = .ok (.aload_n 0, 1) := gd_PC_wayAt_0.2.2.2.2.2.2.2.2.2
theorem gd_PC_wayAt_20 : (decode prog_1_method_9_code 20 = .ok (.getfield 47, 3)) ∧ (decode prog_1_method_9_code 23 = .ok (.getfield 121, 3)) ∧ (decode prog_1_method_9_code 26 = .ok (.iload_n 1, 1)) ∧ (decode prog_1_method_9_code 27 = .ok (.iaload, 1)) ∧ (decode prog_1_method_9_code 28 = .ok (.ireturn, 1)) ∧ (decode prog_1_method_9_code 17 = .ok (.iconst (-1), 1)) ∧ (decode prog_1_method_9_code 18 = .ok (.ireturn, 1)) := by decide +kernel
theorem d_PC_wayAt_20 : decode prog_1_method_9_code 20 = .ok (.getfield 47, 3) := gd_PC_wayAt_20.1
theorem d_PC_wayAt_23 : decode prog_1_method_9_code 23 = .ok (.getfield 121, 3) := gd_PC_wayAt_20.2.1
theorem d_PC_wayAt_26 : decode prog_1_method_9_code 26 = .ok (.iload_n 1, 1) := gd_PC_wayAt_20.2.2.1
theorem d_PC_wayAt_27 : decode prog_1_method_9_code 27 = .ok (.iaload, 1) := gd_PC_wayAt_20.2.2.2.1
theorem d_PC_wayAt_28 : decode prog_1_method_9_code 28 = .ok (.ireturn, 1) := gd_PC_wayAt_20.2.2.2.2.1
theorem d_PC_wayAt_17 : decode prog_1_method_9_code 17 = .ok (.iconst (-1), 1) := gd_PC_wayAt_20.2.2.2.2.2.1
theorem d_PC_wayAt_18 : decode prog_1_method_9_code 18 = .ok (.ireturn, 1) := gd_PC_wayAt_20.2.2.2.2.2.2
theorem gd_PC_promiseAt_0 : (decode prog_1_method_13_code 0 = .ok (.aload_n 0, 1)) ∧ (decode prog_1_method_13_code 1 = .ok (.getfield 26, 3)) ∧ (decode prog_1_method_13_code 4 = .ok (.iload_n 1, 1)) ∧ (decode prog_1_method_13_code 5 = .ok (.invokevirtual 129, 3)) ∧ (decode prog_1_method_13_code 8 = .ok (.ifCond .ne 6, 3)) ∧ (decode prog_1_method_13_code 11 = .ok (.bipush (-2), 2)) ∧ (decode prog_1_method_13_code 13 = .ok (.ireturn, 1)) ∧ (decode prog_1_method_13_code 14 = .ok (.iload_n 2, 1)) ∧ (decode prog_1_method_13_code 15 = .ok (.tableswitch 121 0 6 #[41, 50, 60, 73, 83, 93, 111], 41)) ∧ (decode prog_1_method_13_code 56 = .ok (.aload_n 0, 1)) := by decide +kernel
theorem d_PC_promiseAt_0 : decode prog_1_method_13_code 0 = .ok (.aload_n 0, 1) := gd_PC_promiseAt_0.1
theorem d_PC_promiseAt_1 : decode prog_1_method_13_code 1 = .ok (.getfield 26, 3) := gd_PC_promiseAt_0.2.1
theorem d_PC_promiseAt_4 : decode prog_1_method_13_code 4 = .ok (.iload_n 1, 1) := gd_PC_promiseAt_0.2.2.1
theorem d_PC_promiseAt_5 : decode prog_1_method_13_code 5 = .ok (.invokevirtual 129, 3) := gd_PC_promiseAt_0.2.2.2.1
theorem d_PC_promiseAt_8 : decode prog_1_method_13_code 8 = .ok (.ifCond .ne 6, 3) := gd_PC_promiseAt_0.2.2.2.2.1
theorem d_PC_promiseAt_11 : decode prog_1_method_13_code 11 = .ok (.bipush (-2), 2) := gd_PC_promiseAt_0.2.2.2.2.2.1
theorem d_PC_promiseAt_13 : decode prog_1_method_13_code 13 = .ok (.ireturn, 1) := gd_PC_promiseAt_0.2.2.2.2.2.2.1
theorem d_PC_promiseAt_14 : decode prog_1_method_13_code 14 = .ok (.iload_n 2, 1) := gd_PC_promiseAt_0.2.2.2.2.2.2.2.1
theorem d_PC_promiseAt_15 : decode prog_1_method_13_code 15 = .ok (.tableswitch 121 0 6 #[41, 50, 60, 73, 83, 93, 111], 41) := gd_PC_promiseAt_0.2.2.2.2.2.2.2.2.1
theorem d_PC_promiseAt_56 : decode prog_1_method_13_code 56 = .ok (.aload_n 0, 1) := gd_PC_promiseAt_0.2.2.2.2.2.2.2.2.2
theorem gd_PC_promiseAt_57 : (decode prog_1_method_13_code 57 = .ok (.getfield 26, 3)) ∧ (decode prog_1_method_13_code 60 = .ok (.iload_n 1, 1)) ∧ (decode prog_1_method_13_code 61 = .ok (.invokevirtual 140, 3)) ∧ (decode prog_1_method_13_code 64 = .ok (.ireturn, 1)) ∧ (decode prog_1_method_13_code 65 = .ok (.aload_n 0, 1)) ∧ (decode prog_1_method_13_code 66 = .ok (.getfield 26, 3)) ∧ (decode prog_1_method_13_code 69 = .ok (.getfield 144, 3)) ∧ (decode prog_1_method_13_code 72 = .ok (.iload_n 1, 1)) ∧ (decode prog_1_method_13_code 73 = .ok (.iaload, 1)) ∧ (decode prog_1_method_13_code 74 = .ok (.ireturn, 1)) := by decide +kernel
theorem d_PC_promiseAt_57 : decode prog_1_method_13_code 57 = .ok (.getfield 26, 3) := gd_PC_promiseAt_57.1
theorem d_PC_promiseAt_60 : decode prog_1_method_13_code 60 = .ok (.iload_n 1, 1) := gd_PC_promiseAt_57.2.1
theorem d_PC_promiseAt_61 : decode prog_1_method_13_code 61 = .ok (.invokevirtual 140, 3) := gd_PC_promiseAt_57.2.2.1
theorem d_PC_promiseAt_64 : decode prog_1_method_13_code 64 = .ok (.ireturn, 1) := gd_PC_promiseAt_57.2.2.2.1
theorem d_PC_promiseAt_65 : decode prog_1_method_13_code 65 = .ok (.aload_n 0, 1) := gd_PC_promiseAt_57.2.2.2.2.1
theorem d_PC_promiseAt_66 : decode prog_1_method_13_code 66 = .ok (.getfield 26, 3) := gd_PC_promiseAt_57.2.2.2.2.2.1
theorem d_PC_promiseAt_69 : decode prog_1_method_13_code 69 = .ok (.getfield 144, 3) := gd_PC_promiseAt_57.2.2.2.2.2.2.1
theorem d_PC_promiseAt_72 : decode prog_1_method_13_code 72 = .ok (.iload_n 1, 1) := gd_PC_promiseAt_57.2.2.2.2.2.2.2.1
theorem d_PC_promiseAt_73 : decode prog_1_method_13_code 73 = .ok (.iaload, 1) := gd_PC_promiseAt_57.2.2.2.2.2.2.2.2.1
theorem d_PC_promiseAt_74 : decode prog_1_method_13_code 74 = .ok (.ireturn, 1) := gd_PC_promiseAt_57.2.2.2.2.2.2.2.2.2
theorem gd_PC_promiseAt_75 : (decode prog_1_method_13_code 75 = .ok (.aload_n 0, 1)) ∧ (decode prog_1_method_13_code 76 = .ok (.getfield 26, 3)) ∧ (decode prog_1_method_13_code 79 = .ok (.getfield 147, 3)) ∧ (decode prog_1_method_13_code 82 = .ok (.iload_n 1, 1)) ∧ (decode prog_1_method_13_code 83 = .ok (.bipush 6, 2)) ∧ (decode prog_1_method_13_code 85 = .ok (.imul, 1)) ∧ (decode prog_1_method_13_code 86 = .ok (.iaload, 1)) ∧ (decode prog_1_method_13_code 87 = .ok (.ireturn, 1)) ∧ (decode prog_1_method_13_code 88 = .ok (.aload_n 0, 1)) ∧ (decode prog_1_method_13_code 89 = .ok (.getfield 26, 3)) := by decide +kernel
theorem d_PC_promiseAt_75 : decode prog_1_method_13_code 75 = .ok (.aload_n 0, 1) := gd_PC_promiseAt_75.1
theorem d_PC_promiseAt_76 : decode prog_1_method_13_code 76 = .ok (.getfield 26, 3) := gd_PC_promiseAt_75.2.1
theorem d_PC_promiseAt_79 : decode prog_1_method_13_code 79 = .ok (.getfield 147, 3) := gd_PC_promiseAt_75.2.2.1
theorem d_PC_promiseAt_82 : decode prog_1_method_13_code 82 = .ok (.iload_n 1, 1) := gd_PC_promiseAt_75.2.2.2.1
theorem d_PC_promiseAt_83 : decode prog_1_method_13_code 83 = .ok (.bipush 6, 2) := gd_PC_promiseAt_75.2.2.2.2.1
theorem d_PC_promiseAt_85 : decode prog_1_method_13_code 85 = .ok (.imul, 1) := gd_PC_promiseAt_75.2.2.2.2.2.1
theorem d_PC_promiseAt_86 : decode prog_1_method_13_code 86 = .ok (.iaload, 1) := gd_PC_promiseAt_75.2.2.2.2.2.2.1
theorem d_PC_promiseAt_87 : decode prog_1_method_13_code 87 = .ok (.ireturn, 1) := gd_PC_promiseAt_75.2.2.2.2.2.2.2.1
theorem d_PC_promiseAt_88 : decode prog_1_method_13_code 88 = .ok (.aload_n 0, 1) := gd_PC_promiseAt_75.2.2.2.2.2.2.2.2.1
theorem d_PC_promiseAt_89 : decode prog_1_method_13_code 89 = .ok (.getfield 26, 3) := gd_PC_promiseAt_75.2.2.2.2.2.2.2.2.2
theorem gd_PC_promiseAt_92 : (decode prog_1_method_13_code 92 = .ok (.getfield 150, 3)) ∧ (decode prog_1_method_13_code 95 = .ok (.iload_n 1, 1)) ∧ (decode prog_1_method_13_code 96 = .ok (.iaload, 1)) ∧ (decode prog_1_method_13_code 97 = .ok (.ireturn, 1)) ∧ (decode prog_1_method_13_code 98 = .ok (.aload_n 0, 1)) ∧ (decode prog_1_method_13_code 99 = .ok (.getfield 26, 3)) ∧ (decode prog_1_method_13_code 102 = .ok (.getfield 153, 3)) ∧ (decode prog_1_method_13_code 105 = .ok (.iload_n 1, 1)) ∧ (decode prog_1_method_13_code 106 = .ok (.iaload, 1)) ∧ (decode prog_1_method_13_code 107 = .ok (.ireturn, 1)) := by decide +kernel
theorem d_PC_promiseAt_92 : decode prog_1_method_13_code 92 = .ok (.getfield 150, 3) := gd_PC_promiseAt_92.1
theorem d_PC_promiseAt_95 : decode prog_1_method_13_code 95 = .ok (.iload_n 1, 1) := gd_PC_promiseAt_92.2.1
theorem d_PC_promiseAt_96 : decode prog_1_method_13_code 96 = .ok (.iaload, 1) := gd_PC_promiseAt_92.2.2.1
theorem d_PC_promiseAt_97 : decode prog_1_method_13_code 97 = .ok (.ireturn, 1) := gd_PC_promiseAt_92.2.2.2.1
theorem d_PC_promiseAt_98 : decode prog_1_method_13_code 98 = .ok (.aload_n 0, 1) := gd_PC_promiseAt_92.2.2.2.2.1
theorem d_PC_promiseAt_99 : decode prog_1_method_13_code 99 = .ok (.getfield 26, 3) := gd_PC_promiseAt_92.2.2.2.2.2.1
theorem d_PC_promiseAt_102 : decode prog_1_method_13_code 102 = .ok (.getfield 153, 3) := gd_PC_promiseAt_92.2.2.2.2.2.2.1
theorem d_PC_promiseAt_105 : decode prog_1_method_13_code 105 = .ok (.iload_n 1, 1) := gd_PC_promiseAt_92.2.2.2.2.2.2.2.1
theorem d_PC_promiseAt_106 : decode prog_1_method_13_code 106 = .ok (.iaload, 1) := gd_PC_promiseAt_92.2.2.2.2.2.2.2.2.1
theorem d_PC_promiseAt_107 : decode prog_1_method_13_code 107 = .ok (.ireturn, 1) := gd_PC_promiseAt_92.2.2.2.2.2.2.2.2.2
theorem gd_PC_promiseAt_108 : (decode prog_1_method_13_code 108 = .ok (.aload_n 0, 1)) ∧ (decode prog_1_method_13_code 109 = .ok (.getfield 26, 3)) ∧ (decode prog_1_method_13_code 112 = .ok (.getfield 130, 3)) ∧ (decode prog_1_method_13_code 115 = .ok (.iload_n 1, 1)) ∧ (decode prog_1_method_13_code 116 = .ok (.baload, 1)) ∧ (decode prog_1_method_13_code 117 = .ok (.ifCond .eq 7, 3)) ∧ (decode prog_1_method_13_code 124 = .ok (.iconst 0, 1)) ∧ (decode prog_1_method_13_code 125 = .ok (.ireturn, 1)) ∧ (decode prog_1_method_13_code 120 = .ok (.iconst 1, 1)) ∧ (decode prog_1_method_13_code 121 = .ok (.goto 4, 3)) := by decide +kernel
theorem d_PC_promiseAt_108 : decode prog_1_method_13_code 108 = .ok (.aload_n 0, 1) := gd_PC_promiseAt_108.1
theorem d_PC_promiseAt_109 : decode prog_1_method_13_code 109 = .ok (.getfield 26, 3) := gd_PC_promiseAt_108.2.1
theorem d_PC_promiseAt_112 : decode prog_1_method_13_code 112 = .ok (.getfield 130, 3) := gd_PC_promiseAt_108.2.2.1
theorem d_PC_promiseAt_115 : decode prog_1_method_13_code 115 = .ok (.iload_n 1, 1) := gd_PC_promiseAt_108.2.2.2.1
theorem d_PC_promiseAt_116 : decode prog_1_method_13_code 116 = .ok (.baload, 1) := gd_PC_promiseAt_108.2.2.2.2.1
theorem d_PC_promiseAt_117 : decode prog_1_method_13_code 117 = .ok (.ifCond .eq 7, 3) := gd_PC_promiseAt_108.2.2.2.2.2.1
theorem d_PC_promiseAt_124 : decode prog_1_method_13_code 124 = .ok (.iconst 0, 1) := gd_PC_promiseAt_108.2.2.2.2.2.2.1
theorem d_PC_promiseAt_125 : decode prog_1_method_13_code 125 = .ok (.ireturn, 1) := gd_PC_promiseAt_108.2.2.2.2.2.2.2.1
theorem d_PC_promiseAt_120 : decode prog_1_method_13_code 120 = .ok (.iconst 1, 1) := gd_PC_promiseAt_108.2.2.2.2.2.2.2.2.1
theorem d_PC_promiseAt_121 : decode prog_1_method_13_code 121 = .ok (.goto 4, 3) := gd_PC_promiseAt_108.2.2.2.2.2.2.2.2.2
theorem gd_PC_promiseAt_126 : (decode prog_1_method_13_code 126 = .ok (.aload_n 0, 1)) ∧ (decode prog_1_method_13_code 127 = .ok (.getfield 26, 3)) ∧ (decode prog_1_method_13_code 130 = .ok (.getfield 156, 3)) ∧ (decode prog_1_method_13_code 133 = .ok (.iload_n 1, 1)) ∧ (decode prog_1_method_13_code 134 = .ok (.iaload, 1)) ∧ (decode prog_1_method_13_code 135 = .ok (.ireturn, 1)) ∧ (decode prog_1_method_13_code 136 = .ok (.bipush (-2), 2)) ∧ (decode prog_1_method_13_code 138 = .ok (.ireturn, 1)) := by decide +kernel
theorem d_PC_promiseAt_126 : decode prog_1_method_13_code 126 = .ok (.aload_n 0, 1) := gd_PC_promiseAt_126.1
theorem d_PC_promiseAt_127 : decode prog_1_method_13_code 127 = .ok (.getfield 26, 3) := gd_PC_promiseAt_126.2.1
theorem d_PC_promiseAt_130 : decode prog_1_method_13_code 130 = .ok (.getfield 156, 3) := gd_PC_promiseAt_126.2.2.1
theorem d_PC_promiseAt_133 : decode prog_1_method_13_code 133 = .ok (.iload_n 1, 1) := gd_PC_promiseAt_126.2.2.2.1
theorem d_PC_promiseAt_134 : decode prog_1_method_13_code 134 = .ok (.iaload, 1) := gd_PC_promiseAt_126.2.2.2.2.1
theorem d_PC_promiseAt_135 : decode prog_1_method_13_code 135 = .ok (.ireturn, 1) := gd_PC_promiseAt_126.2.2.2.2.2.1
theorem d_PC_promiseAt_136 : decode prog_1_method_13_code 136 = .ok (.bipush (-2), 2) := gd_PC_promiseAt_126.2.2.2.2.2.2.1
theorem d_PC_promiseAt_138 : decode prog_1_method_13_code 138 = .ok (.ireturn, 1) := gd_PC_promiseAt_126.2.2.2.2.2.2.2
theorem gd_PC_side_0 : (decode prog_1_method_14_code 0 = .ok (.aload_n 0, 1)) ∧ (decode prog_1_method_14_code 1 = .ok (.getfield 19, 3)) ∧ (decode prog_1_method_14_code 4 = .ok (.iload_n 1, 1)) ∧ (decode prog_1_method_14_code 5 = .ok (.invokevirtual 159, 3)) ∧ (decode prog_1_method_14_code 8 = .ok (.ifCond .eq 12, 3)) ∧ (decode prog_1_method_14_code 20 = .ok (.bipush (-2), 2)) ∧ (decode prog_1_method_14_code 22 = .ok (.ireturn, 1)) ∧ (decode prog_1_method_14_code 11 = .ok (.iload_n 2, 1)) ∧ (decode prog_1_method_14_code 12 = .ok (.iconst 0, 1)) ∧ (decode prog_1_method_14_code 13 = .ok (.iconst 1, 1)) := by decide +kernel
theorem d_PC_side_0 : decode prog_1_method_14_code 0 = .ok (.aload_n 0, 1) := gd_PC_side_0.1
theorem d_PC_side_1 : decode prog_1_method_14_code 1 = .ok (.getfield 19, 3) := gd_PC_side_0.2.1
theorem d_PC_side_4 : decode prog_1_method_14_code 4 = .ok (.iload_n 1, 1) := gd_PC_side_0.2.2.1
theorem d_PC_side_5 : decode prog_1_method_14_code 5 = .ok (.invokevirtual 159, 3) := gd_PC_side_0.2.2.2.1
theorem d_PC_side_8 : decode prog_1_method_14_code 8 = .ok (.ifCond .eq 12, 3) := gd_PC_side_0.2.2.2.2.1
theorem d_PC_side_20 : decode prog_1_method_14_code 20 = .ok (.bipush (-2), 2) := gd_PC_side_0.2.2.2.2.2.1
theorem d_PC_side_22 : decode prog_1_method_14_code 22 = .ok (.ireturn, 1) := gd_PC_side_0.2.2.2.2.2.2.1
theorem d_PC_side_11 : decode prog_1_method_14_code 11 = .ok (.iload_n 2, 1) := gd_PC_side_0.2.2.2.2.2.2.2.1
theorem d_PC_side_12 : decode prog_1_method_14_code 12 = .ok (.iconst 0, 1) := gd_PC_side_0.2.2.2.2.2.2.2.2.1
theorem d_PC_side_13 : decode prog_1_method_14_code 13 = .ok (.iconst 1, 1) := gd_PC_side_0.2.2.2.2.2.2.2.2.2
theorem gd_PC_side_14 : (decode prog_1_method_14_code 14 = .ok (.invokestatic 65, 3)) ∧ (decode prog_1_method_14_code 17 = .ok (.ifCond .ne 6, 3)) ∧ (decode prog_1_method_14_code 23 = .ok (.aload_n 0, 1)) ∧ (decode prog_1_method_14_code 24 = .ok (.getfield 19, 3)) ∧ (decode prog_1_method_14_code 27 = .ok (.getfield 160, 3)) ∧ (decode prog_1_method_14_code 30 = .ok (.iconst 2, 1)) ∧ (decode prog_1_method_14_code 31 = .ok (.iload_n 1, 1)) ∧ (decode prog_1_method_14_code 32 = .ok (.imul, 1)) ∧ (decode prog_1_method_14_code 33 = .ok (.iload_n 2, 1)) ∧ (decode prog_1_method_14_code 34 = .ok (.iadd, 1)) := by decide +kernel
theorem d_PC_side_14 : decode prog_1_method_14_code 14 = .ok (.invokestatic 65, 3) := gd_PC_side_14.1
theorem d_PC_side_17 : decode prog_1_method_14_code 17 = .ok (.ifCond .ne 6, 3) := gd_PC_side_14.2.1
theorem d_PC_side_23 : decode prog_1_method_14_code 23 = .ok (.aload_n 0, 1) := gd_PC_side_14.2.2.1
theorem d_PC_side_24 : decode prog_1_method_14_code 24 = .ok (.getfield 19, 3) := gd_PC_side_14.2.2.2.1
theorem d_PC_side_27 : decode prog_1_method_14_code 27 = .ok (.getfield 160, 3) := gd_PC_side_14.2.2.2.2.1
theorem d_PC_side_30 : decode prog_1_method_14_code 30 = .ok (.iconst 2, 1) := gd_PC_side_14.2.2.2.2.2.1
theorem d_PC_side_31 : decode prog_1_method_14_code 31 = .ok (.iload_n 1, 1) := gd_PC_side_14.2.2.2.2.2.2.1
theorem d_PC_side_32 : decode prog_1_method_14_code 32 = .ok (.imul, 1) := gd_PC_side_14.2.2.2.2.2.2.2.1
theorem d_PC_side_33 : decode prog_1_method_14_code 33 = .ok (.iload_n 2, 1) := gd_PC_side_14.2.2.2.2.2.2.2.2.1
theorem d_PC_side_34 : decode prog_1_method_14_code 34 = .ok (.iadd, 1) := gd_PC_side_14.2.2.2.2.2.2.2.2.2
theorem gd_PC_side_35 : (decode prog_1_method_14_code 35 = .ok (.iaload, 1)) ∧ (decode prog_1_method_14_code 36 = .ok (.ireturn, 1)) := by decide +kernel
theorem d_PC_side_35 : decode prog_1_method_14_code 35 = .ok (.iaload, 1) := gd_PC_side_35.1
theorem d_PC_side_36 : decode prog_1_method_14_code 36 = .ok (.ireturn, 1) := gd_PC_side_35.2
theorem gd_PC_locked_0 : (decode prog_1_method_15_code 0 = .ok (.aload_n 0, 1)) ∧ (decode prog_1_method_15_code 1 = .ok (.getfield 19, 3)) ∧ (decode prog_1_method_15_code 4 = .ok (.iload_n 1, 1)) ∧ (decode prog_1_method_15_code 5 = .ok (.invokevirtual 159, 3)) ∧ (decode prog_1_method_15_code 8 = .ok (.ifCond .eq 12, 3)) ∧ (decode prog_1_method_15_code 20 = .ok (.bipush (-2), 2)) ∧ (decode prog_1_method_15_code 22 = .ok (.ireturn, 1)) ∧ (decode prog_1_method_15_code 11 = .ok (.iload_n 2, 1)) ∧ (decode prog_1_method_15_code 12 = .ok (.iconst 0, 1)) ∧ (decode prog_1_method_15_code 13 = .ok (.iconst 1, 1)) := by decide +kernel
theorem d_PC_locked_0 : decode prog_1_method_15_code 0 = .ok (.aload_n 0, 1) := gd_PC_locked_0.1
theorem d_PC_locked_1 : decode prog_1_method_15_code 1 = .ok (.getfield 19, 3) := gd_PC_locked_0.2.1
theorem d_PC_locked_4 : decode prog_1_method_15_code 4 = .ok (.iload_n 1, 1) := gd_PC_locked_0.2.2.1
theorem d_PC_locked_5 : decode prog_1_method_15_code 5 = .ok (.invokevirtual 159, 3) := gd_PC_locked_0.2.2.2.1
theorem d_PC_locked_8 : decode prog_1_method_15_code 8 = .ok (.ifCond .eq 12, 3) := gd_PC_locked_0.2.2.2.2.1
theorem d_PC_locked_20 : decode prog_1_method_15_code 20 = .ok (.bipush (-2), 2) := gd_PC_locked_0.2.2.2.2.2.1
theorem d_PC_locked_22 : decode prog_1_method_15_code 22 = .ok (.ireturn, 1) := gd_PC_locked_0.2.2.2.2.2.2.1
theorem d_PC_locked_11 : decode prog_1_method_15_code 11 = .ok (.iload_n 2, 1) := gd_PC_locked_0.2.2.2.2.2.2.2.1
theorem d_PC_locked_12 : decode prog_1_method_15_code 12 = .ok (.iconst 0, 1) := gd_PC_locked_0.2.2.2.2.2.2.2.2.1
theorem d_PC_locked_13 : decode prog_1_method_15_code 13 = .ok (.iconst 1, 1) := gd_PC_locked_0.2.2.2.2.2.2.2.2.2
theorem gd_PC_locked_14 : (decode prog_1_method_15_code 14 = .ok (.invokestatic 65, 3)) ∧ (decode prog_1_method_15_code 17 = .ok (.ifCond .ne 6, 3)) ∧ (decode prog_1_method_15_code 23 = .ok (.aload_n 0, 1)) ∧ (decode prog_1_method_15_code 24 = .ok (.getfield 19, 3)) ∧ (decode prog_1_method_15_code 27 = .ok (.getfield 163, 3)) ∧ (decode prog_1_method_15_code 30 = .ok (.iconst 2, 1)) ∧ (decode prog_1_method_15_code 31 = .ok (.iload_n 1, 1)) ∧ (decode prog_1_method_15_code 32 = .ok (.imul, 1)) ∧ (decode prog_1_method_15_code 33 = .ok (.iload_n 2, 1)) ∧ (decode prog_1_method_15_code 34 = .ok (.iadd, 1)) := by decide +kernel
theorem d_PC_locked_14 : decode prog_1_method_15_code 14 = .ok (.invokestatic 65, 3) := gd_PC_locked_14.1
theorem d_PC_locked_17 : decode prog_1_method_15_code 17 = .ok (.ifCond .ne 6, 3) := gd_PC_locked_14.2.1
theorem d_PC_locked_23 : decode prog_1_method_15_code 23 = .ok (.aload_n 0, 1) := gd_PC_locked_14.2.2.1
theorem d_PC_locked_24 : decode prog_1_method_15_code 24 = .ok (.getfield 19, 3) := gd_PC_locked_14.2.2.2.1
theorem d_PC_locked_27 : decode prog_1_method_15_code 27 = .ok (.getfield 163, 3) := gd_PC_locked_14.2.2.2.2.1
theorem d_PC_locked_30 : decode prog_1_method_15_code 30 = .ok (.iconst 2, 1) := gd_PC_locked_14.2.2.2.2.2.1
theorem d_PC_locked_31 : decode prog_1_method_15_code 31 = .ok (.iload_n 1, 1) := gd_PC_locked_14.2.2.2.2.2.2.1
theorem d_PC_locked_32 : decode prog_1_method_15_code 32 = .ok (.imul, 1) := gd_PC_locked_14.2.2.2.2.2.2.2.1
theorem d_PC_locked_33 : decode prog_1_method_15_code 33 = .ok (.iload_n 2, 1) := gd_PC_locked_14.2.2.2.2.2.2.2.2.1
theorem d_PC_locked_34 : decode prog_1_method_15_code 34 = .ok (.iadd, 1) := gd_PC_locked_14.2.2.2.2.2.2.2.2.2
theorem gd_PC_locked_35 : (decode prog_1_method_15_code 35 = .ok (.iaload, 1)) ∧ (decode prog_1_method_15_code 36 = .ok (.ireturn, 1)) := by decide +kernel
theorem d_PC_locked_35 : decode prog_1_method_15_code 35 = .ok (.iaload, 1) := gd_PC_locked_35.1
theorem d_PC_locked_36 : decode prog_1_method_15_code 36 = .ok (.ireturn, 1) := gd_PC_locked_35.2
theorem gd_PC_learnt_0 : (decode prog_1_method_24_code 0 = .ok (.aload_n 0, 1)) ∧ (decode prog_1_method_24_code 1 = .ok (.getfield 19, 3)) ∧ (decode prog_1_method_24_code 4 = .ok (.iload_n 1, 1)) ∧ (decode prog_1_method_24_code 5 = .ok (.invokevirtual 159, 3)) ∧ (decode prog_1_method_24_code 8 = .ok (.ifCond .eq 12, 3)) ∧ (decode prog_1_method_24_code 20 = .ok (.bipush (-2), 2)) ∧ (decode prog_1_method_24_code 22 = .ok (.ireturn, 1)) ∧ (decode prog_1_method_24_code 11 = .ok (.iload_n 2, 1)) ∧ (decode prog_1_method_24_code 12 = .ok (.iconst 0, 1)) ∧ (decode prog_1_method_24_code 13 = .ok (.iconst 1, 1)) := by decide +kernel
theorem d_PC_learnt_0 : decode prog_1_method_24_code 0 = .ok (.aload_n 0, 1) := gd_PC_learnt_0.1
theorem d_PC_learnt_1 : decode prog_1_method_24_code 1 = .ok (.getfield 19, 3) := gd_PC_learnt_0.2.1
theorem d_PC_learnt_4 : decode prog_1_method_24_code 4 = .ok (.iload_n 1, 1) := gd_PC_learnt_0.2.2.1
theorem d_PC_learnt_5 : decode prog_1_method_24_code 5 = .ok (.invokevirtual 159, 3) := gd_PC_learnt_0.2.2.2.1
theorem d_PC_learnt_8 : decode prog_1_method_24_code 8 = .ok (.ifCond .eq 12, 3) := gd_PC_learnt_0.2.2.2.2.1
theorem d_PC_learnt_20 : decode prog_1_method_24_code 20 = .ok (.bipush (-2), 2) := gd_PC_learnt_0.2.2.2.2.2.1
theorem d_PC_learnt_22 : decode prog_1_method_24_code 22 = .ok (.ireturn, 1) := gd_PC_learnt_0.2.2.2.2.2.2.1
theorem d_PC_learnt_11 : decode prog_1_method_24_code 11 = .ok (.iload_n 2, 1) := gd_PC_learnt_0.2.2.2.2.2.2.2.1
theorem d_PC_learnt_12 : decode prog_1_method_24_code 12 = .ok (.iconst 0, 1) := gd_PC_learnt_0.2.2.2.2.2.2.2.2.1
theorem d_PC_learnt_13 : decode prog_1_method_24_code 13 = .ok (.iconst 1, 1) := gd_PC_learnt_0.2.2.2.2.2.2.2.2.2
theorem gd_PC_learnt_14 : (decode prog_1_method_24_code 14 = .ok (.invokestatic 65, 3)) ∧ (decode prog_1_method_24_code 17 = .ok (.ifCond .ne 6, 3)) ∧ (decode prog_1_method_24_code 23 = .ok (.iload_n 2, 1)) ∧ (decode prog_1_method_24_code 24 = .ok (.ifCond .ne 15, 3)) ∧ (decode prog_1_method_24_code 39 = .ok (.aload_n 0, 1)) ∧ (decode prog_1_method_24_code 40 = .ok (.getfield 19, 3)) ∧ (decode prog_1_method_24_code 43 = .ok (.getfield 232, 3)) ∧ (decode prog_1_method_24_code 46 = .ok (.iload_n 1, 1)) ∧ (decode prog_1_method_24_code 47 = .ok (.iaload, 1)) ∧ (decode prog_1_method_24_code 48 = .ok (.ireturn, 1)) := by decide +kernel
theorem d_PC_learnt_14 : decode prog_1_method_24_code 14 = .ok (.invokestatic 65, 3) := gd_PC_learnt_14.1
theorem d_PC_learnt_17 : decode prog_1_method_24_code 17 = .ok (.ifCond .ne 6, 3) := gd_PC_learnt_14.2.1
theorem d_PC_learnt_23 : decode prog_1_method_24_code 23 = .ok (.iload_n 2, 1) := gd_PC_learnt_14.2.2.1
theorem d_PC_learnt_24 : decode prog_1_method_24_code 24 = .ok (.ifCond .ne 15, 3) := gd_PC_learnt_14.2.2.2.1
theorem d_PC_learnt_39 : decode prog_1_method_24_code 39 = .ok (.aload_n 0, 1) := gd_PC_learnt_14.2.2.2.2.1
theorem d_PC_learnt_40 : decode prog_1_method_24_code 40 = .ok (.getfield 19, 3) := gd_PC_learnt_14.2.2.2.2.2.1
theorem d_PC_learnt_43 : decode prog_1_method_24_code 43 = .ok (.getfield 232, 3) := gd_PC_learnt_14.2.2.2.2.2.2.1
theorem d_PC_learnt_46 : decode prog_1_method_24_code 46 = .ok (.iload_n 1, 1) := gd_PC_learnt_14.2.2.2.2.2.2.2.1
theorem d_PC_learnt_47 : decode prog_1_method_24_code 47 = .ok (.iaload, 1) := gd_PC_learnt_14.2.2.2.2.2.2.2.2.1
theorem d_PC_learnt_48 : decode prog_1_method_24_code 48 = .ok (.ireturn, 1) := gd_PC_learnt_14.2.2.2.2.2.2.2.2.2
theorem gd_PC_learnt_27 : (decode prog_1_method_24_code 27 = .ok (.aload_n 0, 1)) ∧ (decode prog_1_method_24_code 28 = .ok (.getfield 19, 3)) ∧ (decode prog_1_method_24_code 31 = .ok (.getfield 229, 3)) ∧ (decode prog_1_method_24_code 34 = .ok (.iload_n 1, 1)) ∧ (decode prog_1_method_24_code 35 = .ok (.iaload, 1)) ∧ (decode prog_1_method_24_code 36 = .ok (.goto 12, 3)) := by decide +kernel
theorem d_PC_learnt_27 : decode prog_1_method_24_code 27 = .ok (.aload_n 0, 1) := gd_PC_learnt_27.1
theorem d_PC_learnt_28 : decode prog_1_method_24_code 28 = .ok (.getfield 19, 3) := gd_PC_learnt_27.2.1
theorem d_PC_learnt_31 : decode prog_1_method_24_code 31 = .ok (.getfield 229, 3) := gd_PC_learnt_27.2.2.1
theorem d_PC_learnt_34 : decode prog_1_method_24_code 34 = .ok (.iload_n 1, 1) := gd_PC_learnt_27.2.2.2.1
theorem d_PC_learnt_35 : decode prog_1_method_24_code 35 = .ok (.iaload, 1) := gd_PC_learnt_27.2.2.2.2.1
theorem d_PC_learnt_36 : decode prog_1_method_24_code 36 = .ok (.goto 12, 3) := gd_PC_learnt_27.2.2.2.2.2
theorem gd_PC_about_0 : (decode prog_1_method_16_code 0 = .ok (.aload_n 0, 1)) ∧ (decode prog_1_method_16_code 1 = .ok (.getfield 19, 3)) ∧ (decode prog_1_method_16_code 4 = .ok (.iload_n 1, 1)) ∧ (decode prog_1_method_16_code 5 = .ok (.invokevirtual 159, 3)) ∧ (decode prog_1_method_16_code 8 = .ok (.ifCond .ne 6, 3)) ∧ (decode prog_1_method_16_code 11 = .ok (.bipush (-2), 2)) ∧ (decode prog_1_method_16_code 13 = .ok (.ireturn, 1)) ∧ (decode prog_1_method_16_code 14 = .ok (.iload_n 2, 1)) ∧ (decode prog_1_method_16_code 15 = .ok (.tableswitch 106 0 4 #[33, 45, 59, 69, 79], 33)) ∧ (decode prog_1_method_16_code 48 = .ok (.aload_n 0, 1)) := by decide +kernel
theorem d_PC_about_0 : decode prog_1_method_16_code 0 = .ok (.aload_n 0, 1) := gd_PC_about_0.1
theorem d_PC_about_1 : decode prog_1_method_16_code 1 = .ok (.getfield 19, 3) := gd_PC_about_0.2.1
theorem d_PC_about_4 : decode prog_1_method_16_code 4 = .ok (.iload_n 1, 1) := gd_PC_about_0.2.2.1
theorem d_PC_about_5 : decode prog_1_method_16_code 5 = .ok (.invokevirtual 159, 3) := gd_PC_about_0.2.2.2.1
theorem d_PC_about_8 : decode prog_1_method_16_code 8 = .ok (.ifCond .ne 6, 3) := gd_PC_about_0.2.2.2.2.1
theorem d_PC_about_11 : decode prog_1_method_16_code 11 = .ok (.bipush (-2), 2) := gd_PC_about_0.2.2.2.2.2.1
theorem d_PC_about_13 : decode prog_1_method_16_code 13 = .ok (.ireturn, 1) := gd_PC_about_0.2.2.2.2.2.2.1
theorem d_PC_about_14 : decode prog_1_method_16_code 14 = .ok (.iload_n 2, 1) := gd_PC_about_0.2.2.2.2.2.2.2.1
theorem d_PC_about_15 : decode prog_1_method_16_code 15 = .ok (.tableswitch 106 0 4 #[33, 45, 59, 69, 79], 33) := gd_PC_about_0.2.2.2.2.2.2.2.2.1
theorem d_PC_about_48 : decode prog_1_method_16_code 48 = .ok (.aload_n 0, 1) := gd_PC_about_0.2.2.2.2.2.2.2.2.2
theorem gd_PC_about_49 : (decode prog_1_method_16_code 49 = .ok (.getfield 19, 3)) ∧ (decode prog_1_method_16_code 52 = .ok (.getfield 166, 3)) ∧ (decode prog_1_method_16_code 55 = .ok (.iconst 2, 1)) ∧ (decode prog_1_method_16_code 56 = .ok (.iload_n 1, 1)) ∧ (decode prog_1_method_16_code 57 = .ok (.imul, 1)) ∧ (decode prog_1_method_16_code 58 = .ok (.iaload, 1)) ∧ (decode prog_1_method_16_code 59 = .ok (.ireturn, 1)) ∧ (decode prog_1_method_16_code 60 = .ok (.aload_n 0, 1)) ∧ (decode prog_1_method_16_code 61 = .ok (.getfield 19, 3)) ∧ (decode prog_1_method_16_code 64 = .ok (.getfield 166, 3)) := by decide +kernel
theorem d_PC_about_49 : decode prog_1_method_16_code 49 = .ok (.getfield 19, 3) := gd_PC_about_49.1
theorem d_PC_about_52 : decode prog_1_method_16_code 52 = .ok (.getfield 166, 3) := gd_PC_about_49.2.1
theorem d_PC_about_55 : decode prog_1_method_16_code 55 = .ok (.iconst 2, 1) := gd_PC_about_49.2.2.1
theorem d_PC_about_56 : decode prog_1_method_16_code 56 = .ok (.iload_n 1, 1) := gd_PC_about_49.2.2.2.1
theorem d_PC_about_57 : decode prog_1_method_16_code 57 = .ok (.imul, 1) := gd_PC_about_49.2.2.2.2.1
theorem d_PC_about_58 : decode prog_1_method_16_code 58 = .ok (.iaload, 1) := gd_PC_about_49.2.2.2.2.2.1
theorem d_PC_about_59 : decode prog_1_method_16_code 59 = .ok (.ireturn, 1) := gd_PC_about_49.2.2.2.2.2.2.1
theorem d_PC_about_60 : decode prog_1_method_16_code 60 = .ok (.aload_n 0, 1) := gd_PC_about_49.2.2.2.2.2.2.2.1
theorem d_PC_about_61 : decode prog_1_method_16_code 61 = .ok (.getfield 19, 3) := gd_PC_about_49.2.2.2.2.2.2.2.2.1
theorem d_PC_about_64 : decode prog_1_method_16_code 64 = .ok (.getfield 166, 3) := gd_PC_about_49.2.2.2.2.2.2.2.2.2
theorem gd_PC_about_67 : (decode prog_1_method_16_code 67 = .ok (.iconst 2, 1)) ∧ (decode prog_1_method_16_code 68 = .ok (.iload_n 1, 1)) ∧ (decode prog_1_method_16_code 69 = .ok (.imul, 1)) ∧ (decode prog_1_method_16_code 70 = .ok (.iconst 1, 1)) ∧ (decode prog_1_method_16_code 71 = .ok (.iadd, 1)) ∧ (decode prog_1_method_16_code 72 = .ok (.iaload, 1)) ∧ (decode prog_1_method_16_code 73 = .ok (.ireturn, 1)) ∧ (decode prog_1_method_16_code 74 = .ok (.aload_n 0, 1)) ∧ (decode prog_1_method_16_code 75 = .ok (.getfield 19, 3)) ∧ (decode prog_1_method_16_code 78 = .ok (.getfield 169, 3)) := by decide +kernel
theorem d_PC_about_67 : decode prog_1_method_16_code 67 = .ok (.iconst 2, 1) := gd_PC_about_67.1
theorem d_PC_about_68 : decode prog_1_method_16_code 68 = .ok (.iload_n 1, 1) := gd_PC_about_67.2.1
theorem d_PC_about_69 : decode prog_1_method_16_code 69 = .ok (.imul, 1) := gd_PC_about_67.2.2.1
theorem d_PC_about_70 : decode prog_1_method_16_code 70 = .ok (.iconst 1, 1) := gd_PC_about_67.2.2.2.1
theorem d_PC_about_71 : decode prog_1_method_16_code 71 = .ok (.iadd, 1) := gd_PC_about_67.2.2.2.2.1
theorem d_PC_about_72 : decode prog_1_method_16_code 72 = .ok (.iaload, 1) := gd_PC_about_67.2.2.2.2.2.1
theorem d_PC_about_73 : decode prog_1_method_16_code 73 = .ok (.ireturn, 1) := gd_PC_about_67.2.2.2.2.2.2.1
theorem d_PC_about_74 : decode prog_1_method_16_code 74 = .ok (.aload_n 0, 1) := gd_PC_about_67.2.2.2.2.2.2.2.1
theorem d_PC_about_75 : decode prog_1_method_16_code 75 = .ok (.getfield 19, 3) := gd_PC_about_67.2.2.2.2.2.2.2.2.1
theorem d_PC_about_78 : decode prog_1_method_16_code 78 = .ok (.getfield 169, 3) := gd_PC_about_67.2.2.2.2.2.2.2.2.2
theorem gd_PC_about_81 : (decode prog_1_method_16_code 81 = .ok (.iload_n 1, 1)) ∧ (decode prog_1_method_16_code 82 = .ok (.iaload, 1)) ∧ (decode prog_1_method_16_code 83 = .ok (.ireturn, 1)) ∧ (decode prog_1_method_16_code 84 = .ok (.aload_n 0, 1)) ∧ (decode prog_1_method_16_code 85 = .ok (.getfield 19, 3)) ∧ (decode prog_1_method_16_code 88 = .ok (.getfield 172, 3)) ∧ (decode prog_1_method_16_code 91 = .ok (.iload_n 1, 1)) ∧ (decode prog_1_method_16_code 92 = .ok (.iaload, 1)) ∧ (decode prog_1_method_16_code 93 = .ok (.ireturn, 1)) ∧ (decode prog_1_method_16_code 94 = .ok (.aload_n 0, 1)) := by decide +kernel
theorem d_PC_about_81 : decode prog_1_method_16_code 81 = .ok (.iload_n 1, 1) := gd_PC_about_81.1
theorem d_PC_about_82 : decode prog_1_method_16_code 82 = .ok (.iaload, 1) := gd_PC_about_81.2.1
theorem d_PC_about_83 : decode prog_1_method_16_code 83 = .ok (.ireturn, 1) := gd_PC_about_81.2.2.1
theorem d_PC_about_84 : decode prog_1_method_16_code 84 = .ok (.aload_n 0, 1) := gd_PC_about_81.2.2.2.1
theorem d_PC_about_85 : decode prog_1_method_16_code 85 = .ok (.getfield 19, 3) := gd_PC_about_81.2.2.2.2.1
theorem d_PC_about_88 : decode prog_1_method_16_code 88 = .ok (.getfield 172, 3) := gd_PC_about_81.2.2.2.2.2.1
theorem d_PC_about_91 : decode prog_1_method_16_code 91 = .ok (.iload_n 1, 1) := gd_PC_about_81.2.2.2.2.2.2.1
theorem d_PC_about_92 : decode prog_1_method_16_code 92 = .ok (.iaload, 1) := gd_PC_about_81.2.2.2.2.2.2.2.1
theorem d_PC_about_93 : decode prog_1_method_16_code 93 = .ok (.ireturn, 1) := gd_PC_about_81.2.2.2.2.2.2.2.2.1
theorem d_PC_about_94 : decode prog_1_method_16_code 94 = .ok (.aload_n 0, 1) := gd_PC_about_81.2.2.2.2.2.2.2.2.2
theorem gd_PC_about_95 : (decode prog_1_method_16_code 95 = .ok (.getfield 19, 3)) ∧ (decode prog_1_method_16_code 98 = .ok (.getfield 169, 3)) ∧ (decode prog_1_method_16_code 101 = .ok (.iload_n 1, 1)) ∧ (decode prog_1_method_16_code 102 = .ok (.iaload, 1)) ∧ (decode prog_1_method_16_code 103 = .ok (.iconst 1, 1)) ∧ (decode prog_1_method_16_code 104 = .ok (.if_icmp .ne 15, 3)) ∧ (decode prog_1_method_16_code 119 = .ok (.iconst (-1), 1)) ∧ (decode prog_1_method_16_code 120 = .ok (.ireturn, 1)) ∧ (decode prog_1_method_16_code 107 = .ok (.aload_n 0, 1)) ∧ (decode prog_1_method_16_code 108 = .ok (.getfield 19, 3)) := by decide +kernel
theorem d_PC_about_95 : decode prog_1_method_16_code 95 = .ok (.getfield 19, 3) := gd_PC_about_95.1
theorem d_PC_about_98 : decode prog_1_method_16_code 98 = .ok (.getfield 169, 3) := gd_PC_about_95.2.1
theorem d_PC_about_101 : decode prog_1_method_16_code 101 = .ok (.iload_n 1, 1) := gd_PC_about_95.2.2.1
theorem d_PC_about_102 : decode prog_1_method_16_code 102 = .ok (.iaload, 1) := gd_PC_about_95.2.2.2.1
theorem d_PC_about_103 : decode prog_1_method_16_code 103 = .ok (.iconst 1, 1) := gd_PC_about_95.2.2.2.2.1
theorem d_PC_about_104 : decode prog_1_method_16_code 104 = .ok (.if_icmp .ne 15, 3) := gd_PC_about_95.2.2.2.2.2.1
theorem d_PC_about_119 : decode prog_1_method_16_code 119 = .ok (.iconst (-1), 1) := gd_PC_about_95.2.2.2.2.2.2.1
theorem d_PC_about_120 : decode prog_1_method_16_code 120 = .ok (.ireturn, 1) := gd_PC_about_95.2.2.2.2.2.2.2.1
theorem d_PC_about_107 : decode prog_1_method_16_code 107 = .ok (.aload_n 0, 1) := gd_PC_about_95.2.2.2.2.2.2.2.2.1
theorem d_PC_about_108 : decode prog_1_method_16_code 108 = .ok (.getfield 19, 3) := gd_PC_about_95.2.2.2.2.2.2.2.2.2
theorem gd_PC_about_111 : (decode prog_1_method_16_code 111 = .ok (.getfield 175, 3)) ∧ (decode prog_1_method_16_code 114 = .ok (.iload_n 1, 1)) ∧ (decode prog_1_method_16_code 115 = .ok (.iaload, 1)) ∧ (decode prog_1_method_16_code 116 = .ok (.goto 4, 3)) ∧ (decode prog_1_method_16_code 121 = .ok (.bipush (-2), 2)) ∧ (decode prog_1_method_16_code 123 = .ok (.ireturn, 1)) := by decide +kernel
theorem d_PC_about_111 : decode prog_1_method_16_code 111 = .ok (.getfield 175, 3) := gd_PC_about_111.1
theorem d_PC_about_114 : decode prog_1_method_16_code 114 = .ok (.iload_n 1, 1) := gd_PC_about_111.2.1
theorem d_PC_about_115 : decode prog_1_method_16_code 115 = .ok (.iaload, 1) := gd_PC_about_111.2.2.1
theorem d_PC_about_116 : decode prog_1_method_16_code 116 = .ok (.goto 4, 3) := gd_PC_about_111.2.2.2.1
theorem d_PC_about_121 : decode prog_1_method_16_code 121 = .ok (.bipush (-2), 2) := gd_PC_about_111.2.2.2.2.1
theorem d_PC_about_123 : decode prog_1_method_16_code 123 = .ok (.ireturn, 1) := gd_PC_about_111.2.2.2.2.2
theorem gd_PC_stateAt_0 : (decode prog_1_method_17_code 0 = .ok (.aload_n 0, 1)) ∧ (decode prog_1_method_17_code 1 = .ok (.getfield 19, 3)) ∧ (decode prog_1_method_17_code 4 = .ok (.iload_n 1, 1)) ∧ (decode prog_1_method_17_code 5 = .ok (.invokevirtual 159, 3)) ∧ (decode prog_1_method_17_code 8 = .ok (.ifCond .eq 16, 3)) ∧ (decode prog_1_method_17_code 24 = .ok (.bipush (-2), 2)) ∧ (decode prog_1_method_17_code 26 = .ok (.ireturn, 1)) ∧ (decode prog_1_method_17_code 11 = .ok (.iload_n 2, 1)) ∧ (decode prog_1_method_17_code 12 = .ok (.ifCond .lt 12, 3)) ∧ (decode prog_1_method_17_code 15 = .ok (.iload_n 3, 1)) := by decide +kernel
theorem d_PC_stateAt_0 : decode prog_1_method_17_code 0 = .ok (.aload_n 0, 1) := gd_PC_stateAt_0.1
theorem d_PC_stateAt_1 : decode prog_1_method_17_code 1 = .ok (.getfield 19, 3) := gd_PC_stateAt_0.2.1
theorem d_PC_stateAt_4 : decode prog_1_method_17_code 4 = .ok (.iload_n 1, 1) := gd_PC_stateAt_0.2.2.1
theorem d_PC_stateAt_5 : decode prog_1_method_17_code 5 = .ok (.invokevirtual 159, 3) := gd_PC_stateAt_0.2.2.2.1
theorem d_PC_stateAt_8 : decode prog_1_method_17_code 8 = .ok (.ifCond .eq 16, 3) := gd_PC_stateAt_0.2.2.2.2.1
theorem d_PC_stateAt_24 : decode prog_1_method_17_code 24 = .ok (.bipush (-2), 2) := gd_PC_stateAt_0.2.2.2.2.2.1
theorem d_PC_stateAt_26 : decode prog_1_method_17_code 26 = .ok (.ireturn, 1) := gd_PC_stateAt_0.2.2.2.2.2.2.1
theorem d_PC_stateAt_11 : decode prog_1_method_17_code 11 = .ok (.iload_n 2, 1) := gd_PC_stateAt_0.2.2.2.2.2.2.2.1
theorem d_PC_stateAt_12 : decode prog_1_method_17_code 12 = .ok (.ifCond .lt 12, 3) := gd_PC_stateAt_0.2.2.2.2.2.2.2.2.1
theorem d_PC_stateAt_15 : decode prog_1_method_17_code 15 = .ok (.iload_n 3, 1) := gd_PC_stateAt_0.2.2.2.2.2.2.2.2.2
theorem gd_PC_stateAt_16 : (decode prog_1_method_17_code 16 = .ok (.iconst 0, 1)) ∧ (decode prog_1_method_17_code 17 = .ok (.iconst 1, 1)) ∧ (decode prog_1_method_17_code 18 = .ok (.invokestatic 65, 3)) ∧ (decode prog_1_method_17_code 21 = .ok (.ifCond .ne 6, 3)) ∧ (decode prog_1_method_17_code 27 = .ok (.iload_n 2, 1)) ∧ (decode prog_1_method_17_code 28 = .ok (.aload_n 0, 1)) ∧ (decode prog_1_method_17_code 29 = .ok (.getfield 19, 3)) ∧ (decode prog_1_method_17_code 32 = .ok (.getfield 172, 3)) ∧ (decode prog_1_method_17_code 35 = .ok (.iload_n 1, 1)) ∧ (decode prog_1_method_17_code 36 = .ok (.iaload, 1)) := by decide +kernel
theorem d_PC_stateAt_16 : decode prog_1_method_17_code 16 = .ok (.iconst 0, 1) := gd_PC_stateAt_16.1
theorem d_PC_stateAt_17 : decode prog_1_method_17_code 17 = .ok (.iconst 1, 1) := gd_PC_stateAt_16.2.1
theorem d_PC_stateAt_18 : decode prog_1_method_17_code 18 = .ok (.invokestatic 65, 3) := gd_PC_stateAt_16.2.2.1
theorem d_PC_stateAt_21 : decode prog_1_method_17_code 21 = .ok (.ifCond .ne 6, 3) := gd_PC_stateAt_16.2.2.2.1
theorem d_PC_stateAt_27 : decode prog_1_method_17_code 27 = .ok (.iload_n 2, 1) := gd_PC_stateAt_16.2.2.2.2.1
theorem d_PC_stateAt_28 : decode prog_1_method_17_code 28 = .ok (.aload_n 0, 1) := gd_PC_stateAt_16.2.2.2.2.2.1
theorem d_PC_stateAt_29 : decode prog_1_method_17_code 29 = .ok (.getfield 19, 3) := gd_PC_stateAt_16.2.2.2.2.2.2.1
theorem d_PC_stateAt_32 : decode prog_1_method_17_code 32 = .ok (.getfield 172, 3) := gd_PC_stateAt_16.2.2.2.2.2.2.2.1
theorem d_PC_stateAt_35 : decode prog_1_method_17_code 35 = .ok (.iload_n 1, 1) := gd_PC_stateAt_16.2.2.2.2.2.2.2.2.1
theorem d_PC_stateAt_36 : decode prog_1_method_17_code 36 = .ok (.iaload, 1) := gd_PC_stateAt_16.2.2.2.2.2.2.2.2.2
theorem gd_PC_stateAt_37 : (decode prog_1_method_17_code 37 = .ok (.if_icmp .lt 5, 3)) ∧ (decode prog_1_method_17_code 42 = .ok (.aload_n 0, 1)) ∧ (decode prog_1_method_17_code 43 = .ok (.getfield 19, 3)) ∧ (decode prog_1_method_17_code 46 = .ok (.iload_n 1, 1)) ∧ (decode prog_1_method_17_code 47 = .ok (.iload_n 2, 1)) ∧ (decode prog_1_method_17_code 48 = .ok (.iload_n 3, 1)) ∧ (decode prog_1_method_17_code 49 = .ok (.invokevirtual 178, 3)) ∧ (decode prog_1_method_17_code 52 = .ok (.ireturn, 1)) ∧ (decode prog_1_method_17_code 40 = .ok (.iconst (-1), 1)) ∧ (decode prog_1_method_17_code 41 = .ok (.ireturn, 1)) := by decide +kernel
theorem d_PC_stateAt_37 : decode prog_1_method_17_code 37 = .ok (.if_icmp .lt 5, 3) := gd_PC_stateAt_37.1
theorem d_PC_stateAt_42 : decode prog_1_method_17_code 42 = .ok (.aload_n 0, 1) := gd_PC_stateAt_37.2.1
theorem d_PC_stateAt_43 : decode prog_1_method_17_code 43 = .ok (.getfield 19, 3) := gd_PC_stateAt_37.2.2.1
theorem d_PC_stateAt_46 : decode prog_1_method_17_code 46 = .ok (.iload_n 1, 1) := gd_PC_stateAt_37.2.2.2.1
theorem d_PC_stateAt_47 : decode prog_1_method_17_code 47 = .ok (.iload_n 2, 1) := gd_PC_stateAt_37.2.2.2.2.1
theorem d_PC_stateAt_48 : decode prog_1_method_17_code 48 = .ok (.iload_n 3, 1) := gd_PC_stateAt_37.2.2.2.2.2.1
theorem d_PC_stateAt_49 : decode prog_1_method_17_code 49 = .ok (.invokevirtual 178, 3) := gd_PC_stateAt_37.2.2.2.2.2.2.1
theorem d_PC_stateAt_52 : decode prog_1_method_17_code 52 = .ok (.ireturn, 1) := gd_PC_stateAt_37.2.2.2.2.2.2.2.1
theorem d_PC_stateAt_40 : decode prog_1_method_17_code 40 = .ok (.iconst (-1), 1) := gd_PC_stateAt_37.2.2.2.2.2.2.2.2.1
theorem d_PC_stateAt_41 : decode prog_1_method_17_code 41 = .ok (.ireturn, 1) := gd_PC_stateAt_37.2.2.2.2.2.2.2.2.2
theorem gd_PC_wealth_0 : (decode prog_1_method_19_code 0 = .ok (.aload_n 0, 1)) ∧ (decode prog_1_method_19_code 1 = .ok (.getfield 12, 3)) ∧ (decode prog_1_method_19_code 4 = .ok (.iload_n 1, 1)) ∧ (decode prog_1_method_19_code 5 = .ok (.invokevirtual 77, 3)) ∧ (decode prog_1_method_19_code 8 = .ok (.ifCond .ne 6, 3)) ∧ (decode prog_1_method_19_code 11 = .ok (.bipush (-2), 2)) ∧ (decode prog_1_method_19_code 13 = .ok (.ireturn, 1)) ∧ (decode prog_1_method_19_code 14 = .ok (.aload_n 0, 1)) ∧ (decode prog_1_method_19_code 15 = .ok (.getfield 12, 3)) ∧ (decode prog_1_method_19_code 18 = .ok (.getfield 196, 3)) := by decide +kernel
theorem d_PC_wealth_0 : decode prog_1_method_19_code 0 = .ok (.aload_n 0, 1) := gd_PC_wealth_0.1
theorem d_PC_wealth_1 : decode prog_1_method_19_code 1 = .ok (.getfield 12, 3) := gd_PC_wealth_0.2.1
theorem d_PC_wealth_4 : decode prog_1_method_19_code 4 = .ok (.iload_n 1, 1) := gd_PC_wealth_0.2.2.1
theorem d_PC_wealth_5 : decode prog_1_method_19_code 5 = .ok (.invokevirtual 77, 3) := gd_PC_wealth_0.2.2.2.1
theorem d_PC_wealth_8 : decode prog_1_method_19_code 8 = .ok (.ifCond .ne 6, 3) := gd_PC_wealth_0.2.2.2.2.1
theorem d_PC_wealth_11 : decode prog_1_method_19_code 11 = .ok (.bipush (-2), 2) := gd_PC_wealth_0.2.2.2.2.2.1
theorem d_PC_wealth_13 : decode prog_1_method_19_code 13 = .ok (.ireturn, 1) := gd_PC_wealth_0.2.2.2.2.2.2.1
theorem d_PC_wealth_14 : decode prog_1_method_19_code 14 = .ok (.aload_n 0, 1) := gd_PC_wealth_0.2.2.2.2.2.2.2.1
theorem d_PC_wealth_15 : decode prog_1_method_19_code 15 = .ok (.getfield 12, 3) := gd_PC_wealth_0.2.2.2.2.2.2.2.2.1
theorem d_PC_wealth_18 : decode prog_1_method_19_code 18 = .ok (.getfield 196, 3) := gd_PC_wealth_0.2.2.2.2.2.2.2.2.2
theorem gd_PC_wealth_21 : (decode prog_1_method_19_code 21 = .ok (.iload_n 1, 1)) ∧ (decode prog_1_method_19_code 22 = .ok (.iaload, 1)) ∧ (decode prog_1_method_19_code 23 = .ok (.istore_n 2, 1)) ∧ (decode prog_1_method_19_code 24 = .ok (.iconst 0, 1)) ∧ (decode prog_1_method_19_code 25 = .ok (.istore_n 3, 1)) ∧ (decode prog_1_method_19_code 26 = .ok (.iload_n 3, 1)) ∧ (decode prog_1_method_19_code 27 = .ok (.iconst 2, 1)) ∧ (decode prog_1_method_19_code 28 = .ok (.aload_n 0, 1)) ∧ (decode prog_1_method_19_code 29 = .ok (.getfield 19, 3)) ∧ (decode prog_1_method_19_code 32 = .ok (.getfield 69, 3)) := by decide +kernel
theorem d_PC_wealth_21 : decode prog_1_method_19_code 21 = .ok (.iload_n 1, 1) := gd_PC_wealth_21.1
theorem d_PC_wealth_22 : decode prog_1_method_19_code 22 = .ok (.iaload, 1) := gd_PC_wealth_21.2.1
theorem d_PC_wealth_23 : decode prog_1_method_19_code 23 = .ok (.istore_n 2, 1) := gd_PC_wealth_21.2.2.1
theorem d_PC_wealth_24 : decode prog_1_method_19_code 24 = .ok (.iconst 0, 1) := gd_PC_wealth_21.2.2.2.1
theorem d_PC_wealth_25 : decode prog_1_method_19_code 25 = .ok (.istore_n 3, 1) := gd_PC_wealth_21.2.2.2.2.1
theorem d_PC_wealth_26 : decode prog_1_method_19_code 26 = .ok (.iload_n 3, 1) := gd_PC_wealth_21.2.2.2.2.2.1
theorem d_PC_wealth_27 : decode prog_1_method_19_code 27 = .ok (.iconst 2, 1) := gd_PC_wealth_21.2.2.2.2.2.2.1
theorem d_PC_wealth_28 : decode prog_1_method_19_code 28 = .ok (.aload_n 0, 1) := gd_PC_wealth_21.2.2.2.2.2.2.2.1
theorem d_PC_wealth_29 : decode prog_1_method_19_code 29 = .ok (.getfield 19, 3) := gd_PC_wealth_21.2.2.2.2.2.2.2.2.1
theorem d_PC_wealth_32 : decode prog_1_method_19_code 32 = .ok (.getfield 69, 3) := gd_PC_wealth_21.2.2.2.2.2.2.2.2.2
theorem gd_PC_wealth_35 : (decode prog_1_method_19_code 35 = .ok (.imul, 1)) ∧ (decode prog_1_method_19_code 36 = .ok (.if_icmp .ge 44, 3)) ∧ (decode prog_1_method_19_code 80 = .ok (.iload_n 2, 1)) ∧ (decode prog_1_method_19_code 81 = .ok (.ireturn, 1)) ∧ (decode prog_1_method_19_code 39 = .ok (.aload_n 0, 1)) ∧ (decode prog_1_method_19_code 40 = .ok (.getfield 19, 3)) ∧ (decode prog_1_method_19_code 43 = .ok (.getfield 166, 3)) ∧ (decode prog_1_method_19_code 46 = .ok (.iload_n 3, 1)) ∧ (decode prog_1_method_19_code 47 = .ok (.iaload, 1)) ∧ (decode prog_1_method_19_code 48 = .ok (.iload_n 1, 1)) := by decide +kernel
theorem d_PC_wealth_35 : decode prog_1_method_19_code 35 = .ok (.imul, 1) := gd_PC_wealth_35.1
theorem d_PC_wealth_36 : decode prog_1_method_19_code 36 = .ok (.if_icmp .ge 44, 3) := gd_PC_wealth_35.2.1
theorem d_PC_wealth_80 : decode prog_1_method_19_code 80 = .ok (.iload_n 2, 1) := gd_PC_wealth_35.2.2.1
theorem d_PC_wealth_81 : decode prog_1_method_19_code 81 = .ok (.ireturn, 1) := gd_PC_wealth_35.2.2.2.1
theorem d_PC_wealth_39 : decode prog_1_method_19_code 39 = .ok (.aload_n 0, 1) := gd_PC_wealth_35.2.2.2.2.1
theorem d_PC_wealth_40 : decode prog_1_method_19_code 40 = .ok (.getfield 19, 3) := gd_PC_wealth_35.2.2.2.2.2.1
theorem d_PC_wealth_43 : decode prog_1_method_19_code 43 = .ok (.getfield 166, 3) := gd_PC_wealth_35.2.2.2.2.2.2.1
theorem d_PC_wealth_46 : decode prog_1_method_19_code 46 = .ok (.iload_n 3, 1) := gd_PC_wealth_35.2.2.2.2.2.2.2.1
theorem d_PC_wealth_47 : decode prog_1_method_19_code 47 = .ok (.iaload, 1) := gd_PC_wealth_35.2.2.2.2.2.2.2.2.1
theorem d_PC_wealth_48 : decode prog_1_method_19_code 48 = .ok (.iload_n 1, 1) := gd_PC_wealth_35.2.2.2.2.2.2.2.2.2
theorem gd_PC_wealth_49 : (decode prog_1_method_19_code 49 = .ok (.if_icmp .ne 25, 3)) ∧ (decode prog_1_method_19_code 74 = .ok (.iinc 3 1, 3)) ∧ (decode prog_1_method_19_code 77 = .ok (.goto (-51), 3)) ∧ (decode prog_1_method_19_code 52 = .ok (.iload_n 2, 1)) ∧ (decode prog_1_method_19_code 53 = .ok (.aload_n 0, 1)) ∧ (decode prog_1_method_19_code 54 = .ok (.getfield 19, 3)) ∧ (decode prog_1_method_19_code 57 = .ok (.getfield 160, 3)) ∧ (decode prog_1_method_19_code 60 = .ok (.iload_n 3, 1)) ∧ (decode prog_1_method_19_code 61 = .ok (.iaload, 1)) ∧ (decode prog_1_method_19_code 62 = .ok (.aload_n 0, 1)) := by decide +kernel
theorem d_PC_wealth_49 : decode prog_1_method_19_code 49 = .ok (.if_icmp .ne 25, 3) := gd_PC_wealth_49.1
theorem d_PC_wealth_74 : decode prog_1_method_19_code 74 = .ok (.iinc 3 1, 3) := gd_PC_wealth_49.2.1
theorem d_PC_wealth_77 : decode prog_1_method_19_code 77 = .ok (.goto (-51), 3) := gd_PC_wealth_49.2.2.1
theorem d_PC_wealth_52 : decode prog_1_method_19_code 52 = .ok (.iload_n 2, 1) := gd_PC_wealth_49.2.2.2.1
theorem d_PC_wealth_53 : decode prog_1_method_19_code 53 = .ok (.aload_n 0, 1) := gd_PC_wealth_49.2.2.2.2.1
theorem d_PC_wealth_54 : decode prog_1_method_19_code 54 = .ok (.getfield 19, 3) := gd_PC_wealth_49.2.2.2.2.2.1
theorem d_PC_wealth_57 : decode prog_1_method_19_code 57 = .ok (.getfield 160, 3) := gd_PC_wealth_49.2.2.2.2.2.2.1
theorem d_PC_wealth_60 : decode prog_1_method_19_code 60 = .ok (.iload_n 3, 1) := gd_PC_wealth_49.2.2.2.2.2.2.2.1
theorem d_PC_wealth_61 : decode prog_1_method_19_code 61 = .ok (.iaload, 1) := gd_PC_wealth_49.2.2.2.2.2.2.2.2.1
theorem d_PC_wealth_62 : decode prog_1_method_19_code 62 = .ok (.aload_n 0, 1) := gd_PC_wealth_49.2.2.2.2.2.2.2.2.2
theorem gd_PC_wealth_63 : (decode prog_1_method_19_code 63 = .ok (.getfield 19, 3)) ∧ (decode prog_1_method_19_code 66 = .ok (.getfield 163, 3)) ∧ (decode prog_1_method_19_code 69 = .ok (.iload_n 3, 1)) ∧ (decode prog_1_method_19_code 70 = .ok (.iaload, 1)) ∧ (decode prog_1_method_19_code 71 = .ok (.iadd, 1)) ∧ (decode prog_1_method_19_code 72 = .ok (.iadd, 1)) ∧ (decode prog_1_method_19_code 73 = .ok (.istore_n 2, 1)) := by decide +kernel
theorem d_PC_wealth_63 : decode prog_1_method_19_code 63 = .ok (.getfield 19, 3) := gd_PC_wealth_63.1
theorem d_PC_wealth_66 : decode prog_1_method_19_code 66 = .ok (.getfield 163, 3) := gd_PC_wealth_63.2.1
theorem d_PC_wealth_69 : decode prog_1_method_19_code 69 = .ok (.iload_n 3, 1) := gd_PC_wealth_63.2.2.1
theorem d_PC_wealth_70 : decode prog_1_method_19_code 70 = .ok (.iaload, 1) := gd_PC_wealth_63.2.2.2.1
theorem d_PC_wealth_71 : decode prog_1_method_19_code 71 = .ok (.iadd, 1) := gd_PC_wealth_63.2.2.2.2.1
theorem d_PC_wealth_72 : decode prog_1_method_19_code 72 = .ok (.iadd, 1) := gd_PC_wealth_63.2.2.2.2.2.1
theorem d_PC_wealth_73 : decode prog_1_method_19_code 73 = .ok (.istore_n 2, 1) := gd_PC_wealth_63.2.2.2.2.2.2
theorem gd_PC_off_0 : (decode prog_1_method_20_code 0 = .ok (.aload_n 0, 1)) ∧ (decode prog_1_method_20_code 1 = .ok (.getfield 19, 3)) ∧ (decode prog_1_method_20_code 4 = .ok (.invokevirtual 199, 3)) ∧ (decode prog_1_method_20_code 7 = .ok (.ireturn, 1)) := by decide +kernel
theorem d_PC_off_0 : decode prog_1_method_20_code 0 = .ok (.aload_n 0, 1) := gd_PC_off_0.1
theorem d_PC_off_1 : decode prog_1_method_20_code 1 = .ok (.getfield 19, 3) := gd_PC_off_0.2.1
theorem d_PC_off_4 : decode prog_1_method_20_code 4 = .ok (.invokevirtual 199, 3) := gd_PC_off_0.2.2.1
theorem d_PC_off_7 : decode prog_1_method_20_code 7 = .ok (.ireturn, 1) := gd_PC_off_0.2.2.2
theorem gd_PC_count_0 : (decode prog_1_method_25_code 0 = .ok (.iload_n 1, 1)) ∧ (decode prog_1_method_25_code 1 = .ok (.tableswitch 102 0 7 #[47, 55, 63, 71, 79, 84, 89, 94], 47)) ∧ (decode prog_1_method_25_code 48 = .ok (.aload_n 0, 1)) ∧ (decode prog_1_method_25_code 49 = .ok (.getfield 12, 3)) ∧ (decode prog_1_method_25_code 52 = .ok (.getfield 235, 3)) ∧ (decode prog_1_method_25_code 55 = .ok (.ireturn, 1)) ∧ (decode prog_1_method_25_code 56 = .ok (.aload_n 0, 1)) ∧ (decode prog_1_method_25_code 57 = .ok (.getfield 19, 3)) ∧ (decode prog_1_method_25_code 60 = .ok (.getfield 69, 3)) ∧ (decode prog_1_method_25_code 63 = .ok (.ireturn, 1)) := by decide +kernel
theorem d_PC_count_0 : decode prog_1_method_25_code 0 = .ok (.iload_n 1, 1) := gd_PC_count_0.1
theorem d_PC_count_1 : decode prog_1_method_25_code 1 = .ok (.tableswitch 102 0 7 #[47, 55, 63, 71, 79, 84, 89, 94], 47) := gd_PC_count_0.2.1
theorem d_PC_count_48 : decode prog_1_method_25_code 48 = .ok (.aload_n 0, 1) := gd_PC_count_0.2.2.1
theorem d_PC_count_49 : decode prog_1_method_25_code 49 = .ok (.getfield 12, 3) := gd_PC_count_0.2.2.2.1
theorem d_PC_count_52 : decode prog_1_method_25_code 52 = .ok (.getfield 235, 3) := gd_PC_count_0.2.2.2.2.1
theorem d_PC_count_55 : decode prog_1_method_25_code 55 = .ok (.ireturn, 1) := gd_PC_count_0.2.2.2.2.2.1
theorem d_PC_count_56 : decode prog_1_method_25_code 56 = .ok (.aload_n 0, 1) := gd_PC_count_0.2.2.2.2.2.2.1
theorem d_PC_count_57 : decode prog_1_method_25_code 57 = .ok (.getfield 19, 3) := gd_PC_count_0.2.2.2.2.2.2.2.1
theorem d_PC_count_60 : decode prog_1_method_25_code 60 = .ok (.getfield 69, 3) := gd_PC_count_0.2.2.2.2.2.2.2.2.1
theorem d_PC_count_63 : decode prog_1_method_25_code 63 = .ok (.ireturn, 1) := gd_PC_count_0.2.2.2.2.2.2.2.2.2
theorem gd_PC_count_64 : (decode prog_1_method_25_code 64 = .ok (.aload_n 0, 1)) ∧ (decode prog_1_method_25_code 65 = .ok (.getfield 26, 3)) ∧ (decode prog_1_method_25_code 68 = .ok (.getfield 124, 3)) ∧ (decode prog_1_method_25_code 71 = .ok (.ireturn, 1)) ∧ (decode prog_1_method_25_code 72 = .ok (.aload_n 0, 1)) ∧ (decode prog_1_method_25_code 73 = .ok (.getfield 26, 3)) ∧ (decode prog_1_method_25_code 76 = .ok (.getfield 236, 3)) ∧ (decode prog_1_method_25_code 79 = .ok (.ireturn, 1)) ∧ (decode prog_1_method_25_code 80 = .ok (.aload_n 0, 1)) ∧ (decode prog_1_method_25_code 81 = .ok (.getfield 51, 3)) := by decide +kernel
theorem d_PC_count_64 : decode prog_1_method_25_code 64 = .ok (.aload_n 0, 1) := gd_PC_count_64.1
theorem d_PC_count_65 : decode prog_1_method_25_code 65 = .ok (.getfield 26, 3) := gd_PC_count_64.2.1
theorem d_PC_count_68 : decode prog_1_method_25_code 68 = .ok (.getfield 124, 3) := gd_PC_count_64.2.2.1
theorem d_PC_count_71 : decode prog_1_method_25_code 71 = .ok (.ireturn, 1) := gd_PC_count_64.2.2.2.1
theorem d_PC_count_72 : decode prog_1_method_25_code 72 = .ok (.aload_n 0, 1) := gd_PC_count_64.2.2.2.2.1
theorem d_PC_count_73 : decode prog_1_method_25_code 73 = .ok (.getfield 26, 3) := gd_PC_count_64.2.2.2.2.2.1
theorem d_PC_count_76 : decode prog_1_method_25_code 76 = .ok (.getfield 236, 3) := gd_PC_count_64.2.2.2.2.2.2.1
theorem d_PC_count_79 : decode prog_1_method_25_code 79 = .ok (.ireturn, 1) := gd_PC_count_64.2.2.2.2.2.2.2.1
theorem d_PC_count_80 : decode prog_1_method_25_code 80 = .ok (.aload_n 0, 1) := gd_PC_count_64.2.2.2.2.2.2.2.2.1
theorem d_PC_count_81 : decode prog_1_method_25_code 81 = .ok (.getfield 51, 3) := gd_PC_count_64.2.2.2.2.2.2.2.2.2
theorem gd_PC_count_84 : (decode prog_1_method_25_code 84 = .ok (.ireturn, 1)) ∧ (decode prog_1_method_25_code 85 = .ok (.aload_n 0, 1)) ∧ (decode prog_1_method_25_code 86 = .ok (.getfield 55, 3)) ∧ (decode prog_1_method_25_code 89 = .ok (.ireturn, 1)) ∧ (decode prog_1_method_25_code 90 = .ok (.aload_n 0, 1)) ∧ (decode prog_1_method_25_code 91 = .ok (.getfield 58, 3)) ∧ (decode prog_1_method_25_code 94 = .ok (.ireturn, 1)) ∧ (decode prog_1_method_25_code 95 = .ok (.aload_n 0, 1)) ∧ (decode prog_1_method_25_code 96 = .ok (.getfield 12, 3)) ∧ (decode prog_1_method_25_code 99 = .ok (.invokevirtual 239, 3)) := by decide +kernel
theorem d_PC_count_84 : decode prog_1_method_25_code 84 = .ok (.ireturn, 1) := gd_PC_count_84.1
theorem d_PC_count_85 : decode prog_1_method_25_code 85 = .ok (.aload_n 0, 1) := gd_PC_count_84.2.1
theorem d_PC_count_86 : decode prog_1_method_25_code 86 = .ok (.getfield 55, 3) := gd_PC_count_84.2.2.1
theorem d_PC_count_89 : decode prog_1_method_25_code 89 = .ok (.ireturn, 1) := gd_PC_count_84.2.2.2.1
theorem d_PC_count_90 : decode prog_1_method_25_code 90 = .ok (.aload_n 0, 1) := gd_PC_count_84.2.2.2.2.1
theorem d_PC_count_91 : decode prog_1_method_25_code 91 = .ok (.getfield 58, 3) := gd_PC_count_84.2.2.2.2.2.1
theorem d_PC_count_94 : decode prog_1_method_25_code 94 = .ok (.ireturn, 1) := gd_PC_count_84.2.2.2.2.2.2.1
theorem d_PC_count_95 : decode prog_1_method_25_code 95 = .ok (.aload_n 0, 1) := gd_PC_count_84.2.2.2.2.2.2.2.1
theorem d_PC_count_96 : decode prog_1_method_25_code 96 = .ok (.getfield 12, 3) := gd_PC_count_84.2.2.2.2.2.2.2.2.1
theorem d_PC_count_99 : decode prog_1_method_25_code 99 = .ok (.invokevirtual 239, 3) := gd_PC_count_84.2.2.2.2.2.2.2.2.2
theorem gd_PC_count_102 : (decode prog_1_method_25_code 102 = .ok (.ireturn, 1)) ∧ (decode prog_1_method_25_code 103 = .ok (.bipush (-2), 2)) ∧ (decode prog_1_method_25_code 105 = .ok (.ireturn, 1)) := by decide +kernel
theorem d_PC_count_102 : decode prog_1_method_25_code 102 = .ok (.ireturn, 1) := gd_PC_count_102.1
theorem d_PC_count_103 : decode prog_1_method_25_code 103 = .ok (.bipush (-2), 2) := gd_PC_count_102.2.1
theorem d_PC_count_105 : decode prog_1_method_25_code 105 = .ok (.ireturn, 1) := gd_PC_count_102.2.2
theorem gd_PC_withPair_0 : (decode prog_1_method_27_code 0 = .ok (.lload_n 1, 1)) ∧ (decode prog_1_method_27_code 1 = .ok (.lstore 4, 2)) ∧ (decode prog_1_method_27_code 3 = .ok (.iconst 0, 1)) ∧ (decode prog_1_method_27_code 4 = .ok (.istore 6, 2)) ∧ (decode prog_1_method_27_code 6 = .ok (.iload 6, 2)) ∧ (decode prog_1_method_27_code 8 = .ok (.iconst 4, 1)) ∧ (decode prog_1_method_27_code 9 = .ok (.if_icmp .gt 26, 3)) ∧ (decode prog_1_method_27_code 35 = .ok (.ldc2_w 244, 3)) ∧ (decode prog_1_method_27_code 38 = .ok (.lload 4, 2)) ∧ (decode prog_1_method_27_code 40 = .ok (.lmul, 1)) := by decide +kernel
theorem d_PC_withPair_0 : decode prog_1_method_27_code 0 = .ok (.lload_n 1, 1) := gd_PC_withPair_0.1
theorem d_PC_withPair_1 : decode prog_1_method_27_code 1 = .ok (.lstore 4, 2) := gd_PC_withPair_0.2.1
theorem d_PC_withPair_3 : decode prog_1_method_27_code 3 = .ok (.iconst 0, 1) := gd_PC_withPair_0.2.2.1
theorem d_PC_withPair_4 : decode prog_1_method_27_code 4 = .ok (.istore 6, 2) := gd_PC_withPair_0.2.2.2.1
theorem d_PC_withPair_6 : decode prog_1_method_27_code 6 = .ok (.iload 6, 2) := gd_PC_withPair_0.2.2.2.2.1
theorem d_PC_withPair_8 : decode prog_1_method_27_code 8 = .ok (.iconst 4, 1) := gd_PC_withPair_0.2.2.2.2.2.1
theorem d_PC_withPair_9 : decode prog_1_method_27_code 9 = .ok (.if_icmp .gt 26, 3) := gd_PC_withPair_0.2.2.2.2.2.2.1
theorem d_PC_withPair_35 : decode prog_1_method_27_code 35 = .ok (.ldc2_w 244, 3) := gd_PC_withPair_0.2.2.2.2.2.2.2.1
theorem d_PC_withPair_38 : decode prog_1_method_27_code 38 = .ok (.lload 4, 2) := gd_PC_withPair_0.2.2.2.2.2.2.2.2.1
theorem d_PC_withPair_40 : decode prog_1_method_27_code 40 = .ok (.lmul, 1) := gd_PC_withPair_0.2.2.2.2.2.2.2.2.2
theorem gd_PC_withPair_41 : (decode prog_1_method_27_code 41 = .ok (.aload_n 0, 1)) ∧ (decode prog_1_method_27_code 42 = .ok (.iload_n 3, 1)) ∧ (decode prog_1_method_27_code 43 = .ok (.iconst 0, 1)) ∧ (decode prog_1_method_27_code 44 = .ok (.invokevirtual 262, 3)) ∧ (decode prog_1_method_27_code 47 = .ok (.i2l, 1)) ∧ (decode prog_1_method_27_code 48 = .ok (.ladd, 1)) ∧ (decode prog_1_method_27_code 49 = .ok (.lstore 4, 2)) ∧ (decode prog_1_method_27_code 51 = .ok (.ldc2_w 244, 3)) ∧ (decode prog_1_method_27_code 54 = .ok (.lload 4, 2)) ∧ (decode prog_1_method_27_code 56 = .ok (.lmul, 1)) := by decide +kernel
theorem d_PC_withPair_41 : decode prog_1_method_27_code 41 = .ok (.aload_n 0, 1) := gd_PC_withPair_41.1
theorem d_PC_withPair_42 : decode prog_1_method_27_code 42 = .ok (.iload_n 3, 1) := gd_PC_withPair_41.2.1
theorem d_PC_withPair_43 : decode prog_1_method_27_code 43 = .ok (.iconst 0, 1) := gd_PC_withPair_41.2.2.1
theorem d_PC_withPair_44 : decode prog_1_method_27_code 44 = .ok (.invokevirtual 262, 3) := gd_PC_withPair_41.2.2.2.1
theorem d_PC_withPair_47 : decode prog_1_method_27_code 47 = .ok (.i2l, 1) := gd_PC_withPair_41.2.2.2.2.1
theorem d_PC_withPair_48 : decode prog_1_method_27_code 48 = .ok (.ladd, 1) := gd_PC_withPair_41.2.2.2.2.2.1
theorem d_PC_withPair_49 : decode prog_1_method_27_code 49 = .ok (.lstore 4, 2) := gd_PC_withPair_41.2.2.2.2.2.2.1
theorem d_PC_withPair_51 : decode prog_1_method_27_code 51 = .ok (.ldc2_w 244, 3) := gd_PC_withPair_41.2.2.2.2.2.2.2.1
theorem d_PC_withPair_54 : decode prog_1_method_27_code 54 = .ok (.lload 4, 2) := gd_PC_withPair_41.2.2.2.2.2.2.2.2.1
theorem d_PC_withPair_56 : decode prog_1_method_27_code 56 = .ok (.lmul, 1) := gd_PC_withPair_41.2.2.2.2.2.2.2.2.2
theorem gd_PC_withPair_57 : (decode prog_1_method_27_code 57 = .ok (.aload_n 0, 1)) ∧ (decode prog_1_method_27_code 58 = .ok (.iload_n 3, 1)) ∧ (decode prog_1_method_27_code 59 = .ok (.iconst 1, 1)) ∧ (decode prog_1_method_27_code 60 = .ok (.invokevirtual 262, 3)) ∧ (decode prog_1_method_27_code 63 = .ok (.i2l, 1)) ∧ (decode prog_1_method_27_code 64 = .ok (.ladd, 1)) ∧ (decode prog_1_method_27_code 65 = .ok (.lstore 4, 2)) ∧ (decode prog_1_method_27_code 67 = .ok (.ldc2_w 244, 3)) ∧ (decode prog_1_method_27_code 70 = .ok (.lload 4, 2)) ∧ (decode prog_1_method_27_code 72 = .ok (.lmul, 1)) := by decide +kernel
theorem d_PC_withPair_57 : decode prog_1_method_27_code 57 = .ok (.aload_n 0, 1) := gd_PC_withPair_57.1
theorem d_PC_withPair_58 : decode prog_1_method_27_code 58 = .ok (.iload_n 3, 1) := gd_PC_withPair_57.2.1
theorem d_PC_withPair_59 : decode prog_1_method_27_code 59 = .ok (.iconst 1, 1) := gd_PC_withPair_57.2.2.1
theorem d_PC_withPair_60 : decode prog_1_method_27_code 60 = .ok (.invokevirtual 262, 3) := gd_PC_withPair_57.2.2.2.1
theorem d_PC_withPair_63 : decode prog_1_method_27_code 63 = .ok (.i2l, 1) := gd_PC_withPair_57.2.2.2.2.1
theorem d_PC_withPair_64 : decode prog_1_method_27_code 64 = .ok (.ladd, 1) := gd_PC_withPair_57.2.2.2.2.2.1
theorem d_PC_withPair_65 : decode prog_1_method_27_code 65 = .ok (.lstore 4, 2) := gd_PC_withPair_57.2.2.2.2.2.2.1
theorem d_PC_withPair_67 : decode prog_1_method_27_code 67 = .ok (.ldc2_w 244, 3) := gd_PC_withPair_57.2.2.2.2.2.2.2.1
theorem d_PC_withPair_70 : decode prog_1_method_27_code 70 = .ok (.lload 4, 2) := gd_PC_withPair_57.2.2.2.2.2.2.2.2.1
theorem d_PC_withPair_72 : decode prog_1_method_27_code 72 = .ok (.lmul, 1) := gd_PC_withPair_57.2.2.2.2.2.2.2.2.2
theorem gd_PC_withPair_73 : (decode prog_1_method_27_code 73 = .ok (.aload_n 0, 1)) ∧ (decode prog_1_method_27_code 74 = .ok (.iload_n 3, 1)) ∧ (decode prog_1_method_27_code 75 = .ok (.iconst 0, 1)) ∧ (decode prog_1_method_27_code 76 = .ok (.invokevirtual 264, 3)) ∧ (decode prog_1_method_27_code 79 = .ok (.i2l, 1)) ∧ (decode prog_1_method_27_code 80 = .ok (.ladd, 1)) ∧ (decode prog_1_method_27_code 81 = .ok (.lstore 4, 2)) ∧ (decode prog_1_method_27_code 83 = .ok (.ldc2_w 244, 3)) ∧ (decode prog_1_method_27_code 86 = .ok (.lload 4, 2)) ∧ (decode prog_1_method_27_code 88 = .ok (.lmul, 1)) := by decide +kernel
theorem d_PC_withPair_73 : decode prog_1_method_27_code 73 = .ok (.aload_n 0, 1) := gd_PC_withPair_73.1
theorem d_PC_withPair_74 : decode prog_1_method_27_code 74 = .ok (.iload_n 3, 1) := gd_PC_withPair_73.2.1
theorem d_PC_withPair_75 : decode prog_1_method_27_code 75 = .ok (.iconst 0, 1) := gd_PC_withPair_73.2.2.1
theorem d_PC_withPair_76 : decode prog_1_method_27_code 76 = .ok (.invokevirtual 264, 3) := gd_PC_withPair_73.2.2.2.1
theorem d_PC_withPair_79 : decode prog_1_method_27_code 79 = .ok (.i2l, 1) := gd_PC_withPair_73.2.2.2.2.1
theorem d_PC_withPair_80 : decode prog_1_method_27_code 80 = .ok (.ladd, 1) := gd_PC_withPair_73.2.2.2.2.2.1
theorem d_PC_withPair_81 : decode prog_1_method_27_code 81 = .ok (.lstore 4, 2) := gd_PC_withPair_73.2.2.2.2.2.2.1
theorem d_PC_withPair_83 : decode prog_1_method_27_code 83 = .ok (.ldc2_w 244, 3) := gd_PC_withPair_73.2.2.2.2.2.2.2.1
theorem d_PC_withPair_86 : decode prog_1_method_27_code 86 = .ok (.lload 4, 2) := gd_PC_withPair_73.2.2.2.2.2.2.2.2.1
theorem d_PC_withPair_88 : decode prog_1_method_27_code 88 = .ok (.lmul, 1) := gd_PC_withPair_73.2.2.2.2.2.2.2.2.2
theorem gd_PC_withPair_89 : (decode prog_1_method_27_code 89 = .ok (.aload_n 0, 1)) ∧ (decode prog_1_method_27_code 90 = .ok (.iload_n 3, 1)) ∧ (decode prog_1_method_27_code 91 = .ok (.iconst 1, 1)) ∧ (decode prog_1_method_27_code 92 = .ok (.invokevirtual 264, 3)) ∧ (decode prog_1_method_27_code 95 = .ok (.i2l, 1)) ∧ (decode prog_1_method_27_code 96 = .ok (.ladd, 1)) ∧ (decode prog_1_method_27_code 97 = .ok (.lstore 4, 2)) ∧ (decode prog_1_method_27_code 99 = .ok (.ldc2_w 244, 3)) ∧ (decode prog_1_method_27_code 102 = .ok (.lload 4, 2)) ∧ (decode prog_1_method_27_code 104 = .ok (.lmul, 1)) := by decide +kernel
theorem d_PC_withPair_89 : decode prog_1_method_27_code 89 = .ok (.aload_n 0, 1) := gd_PC_withPair_89.1
theorem d_PC_withPair_90 : decode prog_1_method_27_code 90 = .ok (.iload_n 3, 1) := gd_PC_withPair_89.2.1
theorem d_PC_withPair_91 : decode prog_1_method_27_code 91 = .ok (.iconst 1, 1) := gd_PC_withPair_89.2.2.1
theorem d_PC_withPair_92 : decode prog_1_method_27_code 92 = .ok (.invokevirtual 264, 3) := gd_PC_withPair_89.2.2.2.1
theorem d_PC_withPair_95 : decode prog_1_method_27_code 95 = .ok (.i2l, 1) := gd_PC_withPair_89.2.2.2.2.1
theorem d_PC_withPair_96 : decode prog_1_method_27_code 96 = .ok (.ladd, 1) := gd_PC_withPair_89.2.2.2.2.2.1
theorem d_PC_withPair_97 : decode prog_1_method_27_code 97 = .ok (.lstore 4, 2) := gd_PC_withPair_89.2.2.2.2.2.2.1
theorem d_PC_withPair_99 : decode prog_1_method_27_code 99 = .ok (.ldc2_w 244, 3) := gd_PC_withPair_89.2.2.2.2.2.2.2.1
theorem d_PC_withPair_102 : decode prog_1_method_27_code 102 = .ok (.lload 4, 2) := gd_PC_withPair_89.2.2.2.2.2.2.2.2.1
theorem d_PC_withPair_104 : decode prog_1_method_27_code 104 = .ok (.lmul, 1) := gd_PC_withPair_89.2.2.2.2.2.2.2.2.2
theorem gd_PC_withPair_105 : (decode prog_1_method_27_code 105 = .ok (.aload_n 0, 1)) ∧ (decode prog_1_method_27_code 106 = .ok (.iload_n 3, 1)) ∧ (decode prog_1_method_27_code 107 = .ok (.iconst 0, 1)) ∧ (decode prog_1_method_27_code 108 = .ok (.invokevirtual 266, 3)) ∧ (decode prog_1_method_27_code 111 = .ok (.i2l, 1)) ∧ (decode prog_1_method_27_code 112 = .ok (.ladd, 1)) ∧ (decode prog_1_method_27_code 113 = .ok (.lstore 4, 2)) ∧ (decode prog_1_method_27_code 115 = .ok (.ldc2_w 244, 3)) ∧ (decode prog_1_method_27_code 118 = .ok (.lload 4, 2)) ∧ (decode prog_1_method_27_code 120 = .ok (.lmul, 1)) := by decide +kernel
theorem d_PC_withPair_105 : decode prog_1_method_27_code 105 = .ok (.aload_n 0, 1) := gd_PC_withPair_105.1
theorem d_PC_withPair_106 : decode prog_1_method_27_code 106 = .ok (.iload_n 3, 1) := gd_PC_withPair_105.2.1
theorem d_PC_withPair_107 : decode prog_1_method_27_code 107 = .ok (.iconst 0, 1) := gd_PC_withPair_105.2.2.1
theorem d_PC_withPair_108 : decode prog_1_method_27_code 108 = .ok (.invokevirtual 266, 3) := gd_PC_withPair_105.2.2.2.1
theorem d_PC_withPair_111 : decode prog_1_method_27_code 111 = .ok (.i2l, 1) := gd_PC_withPair_105.2.2.2.2.1
theorem d_PC_withPair_112 : decode prog_1_method_27_code 112 = .ok (.ladd, 1) := gd_PC_withPair_105.2.2.2.2.2.1
theorem d_PC_withPair_113 : decode prog_1_method_27_code 113 = .ok (.lstore 4, 2) := gd_PC_withPair_105.2.2.2.2.2.2.1
theorem d_PC_withPair_115 : decode prog_1_method_27_code 115 = .ok (.ldc2_w 244, 3) := gd_PC_withPair_105.2.2.2.2.2.2.2.1
theorem d_PC_withPair_118 : decode prog_1_method_27_code 118 = .ok (.lload 4, 2) := gd_PC_withPair_105.2.2.2.2.2.2.2.2.1
theorem d_PC_withPair_120 : decode prog_1_method_27_code 120 = .ok (.lmul, 1) := gd_PC_withPair_105.2.2.2.2.2.2.2.2.2
theorem gd_PC_withPair_121 : (decode prog_1_method_27_code 121 = .ok (.aload_n 0, 1)) ∧ (decode prog_1_method_27_code 122 = .ok (.iload_n 3, 1)) ∧ (decode prog_1_method_27_code 123 = .ok (.iconst 1, 1)) ∧ (decode prog_1_method_27_code 124 = .ok (.invokevirtual 266, 3)) ∧ (decode prog_1_method_27_code 127 = .ok (.i2l, 1)) ∧ (decode prog_1_method_27_code 128 = .ok (.ladd, 1)) ∧ (decode prog_1_method_27_code 129 = .ok (.lreturn, 1)) ∧ (decode prog_1_method_27_code 12 = .ok (.ldc2_w 244, 3)) ∧ (decode prog_1_method_27_code 15 = .ok (.lload 4, 2)) ∧ (decode prog_1_method_27_code 17 = .ok (.lmul, 1)) := by decide +kernel
theorem d_PC_withPair_121 : decode prog_1_method_27_code 121 = .ok (.aload_n 0, 1) := gd_PC_withPair_121.1
theorem d_PC_withPair_122 : decode prog_1_method_27_code 122 = .ok (.iload_n 3, 1) := gd_PC_withPair_121.2.1
theorem d_PC_withPair_123 : decode prog_1_method_27_code 123 = .ok (.iconst 1, 1) := gd_PC_withPair_121.2.2.1
theorem d_PC_withPair_124 : decode prog_1_method_27_code 124 = .ok (.invokevirtual 266, 3) := gd_PC_withPair_121.2.2.2.1
theorem d_PC_withPair_127 : decode prog_1_method_27_code 127 = .ok (.i2l, 1) := gd_PC_withPair_121.2.2.2.2.1
theorem d_PC_withPair_128 : decode prog_1_method_27_code 128 = .ok (.ladd, 1) := gd_PC_withPair_121.2.2.2.2.2.1
theorem d_PC_withPair_129 : decode prog_1_method_27_code 129 = .ok (.lreturn, 1) := gd_PC_withPair_121.2.2.2.2.2.2.1
theorem d_PC_withPair_12 : decode prog_1_method_27_code 12 = .ok (.ldc2_w 244, 3) := gd_PC_withPair_121.2.2.2.2.2.2.2.1
theorem d_PC_withPair_15 : decode prog_1_method_27_code 15 = .ok (.lload 4, 2) := gd_PC_withPair_121.2.2.2.2.2.2.2.2.1
theorem d_PC_withPair_17 : decode prog_1_method_27_code 17 = .ok (.lmul, 1) := gd_PC_withPair_121.2.2.2.2.2.2.2.2.2
theorem gd_PC_withPair_18 : (decode prog_1_method_27_code 18 = .ok (.aload_n 0, 1)) ∧ (decode prog_1_method_27_code 19 = .ok (.iload_n 3, 1)) ∧ (decode prog_1_method_27_code 20 = .ok (.iload 6, 2)) ∧ (decode prog_1_method_27_code 22 = .ok (.invokevirtual 259, 3)) ∧ (decode prog_1_method_27_code 25 = .ok (.i2l, 1)) ∧ (decode prog_1_method_27_code 26 = .ok (.ladd, 1)) ∧ (decode prog_1_method_27_code 27 = .ok (.lstore 4, 2)) ∧ (decode prog_1_method_27_code 29 = .ok (.iinc 6 1, 3)) ∧ (decode prog_1_method_27_code 32 = .ok (.goto (-26), 3)) := by decide +kernel
theorem d_PC_withPair_18 : decode prog_1_method_27_code 18 = .ok (.aload_n 0, 1) := gd_PC_withPair_18.1
theorem d_PC_withPair_19 : decode prog_1_method_27_code 19 = .ok (.iload_n 3, 1) := gd_PC_withPair_18.2.1
theorem d_PC_withPair_20 : decode prog_1_method_27_code 20 = .ok (.iload 6, 2) := gd_PC_withPair_18.2.2.1
theorem d_PC_withPair_22 : decode prog_1_method_27_code 22 = .ok (.invokevirtual 259, 3) := gd_PC_withPair_18.2.2.2.1
theorem d_PC_withPair_25 : decode prog_1_method_27_code 25 = .ok (.i2l, 1) := gd_PC_withPair_18.2.2.2.2.1
theorem d_PC_withPair_26 : decode prog_1_method_27_code 26 = .ok (.ladd, 1) := gd_PC_withPair_18.2.2.2.2.2.1
theorem d_PC_withPair_27 : decode prog_1_method_27_code 27 = .ok (.lstore 4, 2) := gd_PC_withPair_18.2.2.2.2.2.2.1
theorem d_PC_withPair_29 : decode prog_1_method_27_code 29 = .ok (.iinc 6 1, 3) := gd_PC_withPair_18.2.2.2.2.2.2.2.1
theorem d_PC_withPair_32 : decode prog_1_method_27_code 32 = .ok (.goto (-26), 3) := gd_PC_withPair_18.2.2.2.2.2.2.2.2
theorem gd_PC_digest_0 : (decode prog_1_method_26_code 0 = .ok (.ldc2_w 242, 3)) ∧ (decode prog_1_method_26_code 3 = .ok (.lstore_n 1, 1)) ∧ (decode prog_1_method_26_code 4 = .ok (.iconst 0, 1)) ∧ (decode prog_1_method_26_code 5 = .ok (.istore_n 3, 1)) ∧ (decode prog_1_method_26_code 6 = .ok (.iload_n 3, 1)) ∧ (decode prog_1_method_26_code 7 = .ok (.bipush 7, 2)) ∧ (decode prog_1_method_26_code 9 = .ok (.if_icmp .gt 22, 3)) ∧ (decode prog_1_method_26_code 31 = .ok (.iconst 0, 1)) ∧ (decode prog_1_method_26_code 32 = .ok (.istore_n 3, 1)) ∧ (decode prog_1_method_26_code 33 = .ok (.iload_n 3, 1)) := by decide +kernel
theorem d_PC_digest_0 : decode prog_1_method_26_code 0 = .ok (.ldc2_w 242, 3) := gd_PC_digest_0.1
theorem d_PC_digest_3 : decode prog_1_method_26_code 3 = .ok (.lstore_n 1, 1) := gd_PC_digest_0.2.1
theorem d_PC_digest_4 : decode prog_1_method_26_code 4 = .ok (.iconst 0, 1) := gd_PC_digest_0.2.2.1
theorem d_PC_digest_5 : decode prog_1_method_26_code 5 = .ok (.istore_n 3, 1) := gd_PC_digest_0.2.2.2.1
theorem d_PC_digest_6 : decode prog_1_method_26_code 6 = .ok (.iload_n 3, 1) := gd_PC_digest_0.2.2.2.2.1
theorem d_PC_digest_7 : decode prog_1_method_26_code 7 = .ok (.bipush 7, 2) := gd_PC_digest_0.2.2.2.2.2.1
theorem d_PC_digest_9 : decode prog_1_method_26_code 9 = .ok (.if_icmp .gt 22, 3) := gd_PC_digest_0.2.2.2.2.2.2.1
theorem d_PC_digest_31 : decode prog_1_method_26_code 31 = .ok (.iconst 0, 1) := gd_PC_digest_0.2.2.2.2.2.2.2.1
theorem d_PC_digest_32 : decode prog_1_method_26_code 32 = .ok (.istore_n 3, 1) := gd_PC_digest_0.2.2.2.2.2.2.2.2.1
theorem d_PC_digest_33 : decode prog_1_method_26_code 33 = .ok (.iload_n 3, 1) := gd_PC_digest_0.2.2.2.2.2.2.2.2.2
theorem gd_PC_digest_34 : (decode prog_1_method_26_code 34 = .ok (.aload_n 0, 1)) ∧ (decode prog_1_method_26_code 35 = .ok (.getfield 12, 3)) ∧ (decode prog_1_method_26_code 38 = .ok (.getfield 235, 3)) ∧ (decode prog_1_method_26_code 41 = .ok (.if_icmp .ge 22, 3)) ∧ (decode prog_1_method_26_code 63 = .ok (.iconst 0, 1)) ∧ (decode prog_1_method_26_code 64 = .ok (.istore_n 3, 1)) ∧ (decode prog_1_method_26_code 65 = .ok (.iload_n 3, 1)) ∧ (decode prog_1_method_26_code 66 = .ok (.aload_n 0, 1)) ∧ (decode prog_1_method_26_code 67 = .ok (.getfield 19, 3)) ∧ (decode prog_1_method_26_code 70 = .ok (.getfield 69, 3)) := by decide +kernel
theorem d_PC_digest_34 : decode prog_1_method_26_code 34 = .ok (.aload_n 0, 1) := gd_PC_digest_34.1
theorem d_PC_digest_35 : decode prog_1_method_26_code 35 = .ok (.getfield 12, 3) := gd_PC_digest_34.2.1
theorem d_PC_digest_38 : decode prog_1_method_26_code 38 = .ok (.getfield 235, 3) := gd_PC_digest_34.2.2.1
theorem d_PC_digest_41 : decode prog_1_method_26_code 41 = .ok (.if_icmp .ge 22, 3) := gd_PC_digest_34.2.2.2.1
theorem d_PC_digest_63 : decode prog_1_method_26_code 63 = .ok (.iconst 0, 1) := gd_PC_digest_34.2.2.2.2.1
theorem d_PC_digest_64 : decode prog_1_method_26_code 64 = .ok (.istore_n 3, 1) := gd_PC_digest_34.2.2.2.2.2.1
theorem d_PC_digest_65 : decode prog_1_method_26_code 65 = .ok (.iload_n 3, 1) := gd_PC_digest_34.2.2.2.2.2.2.1
theorem d_PC_digest_66 : decode prog_1_method_26_code 66 = .ok (.aload_n 0, 1) := gd_PC_digest_34.2.2.2.2.2.2.2.1
theorem d_PC_digest_67 : decode prog_1_method_26_code 67 = .ok (.getfield 19, 3) := gd_PC_digest_34.2.2.2.2.2.2.2.2.1
theorem d_PC_digest_70 : decode prog_1_method_26_code 70 = .ok (.getfield 69, 3) := gd_PC_digest_34.2.2.2.2.2.2.2.2.2
theorem gd_PC_digest_73 : (decode prog_1_method_26_code 73 = .ok (.if_icmp .ge 16, 3)) ∧ (decode prog_1_method_26_code 89 = .ok (.iconst 0, 1)) ∧ (decode prog_1_method_26_code 90 = .ok (.istore_n 3, 1)) ∧ (decode prog_1_method_26_code 91 = .ok (.iload_n 3, 1)) ∧ (decode prog_1_method_26_code 92 = .ok (.aload_n 0, 1)) ∧ (decode prog_1_method_26_code 93 = .ok (.getfield 26, 3)) ∧ (decode prog_1_method_26_code 96 = .ok (.getfield 124, 3)) ∧ (decode prog_1_method_26_code 99 = .ok (.if_icmp .ge 40, 3)) ∧ (decode prog_1_method_26_code 139 = .ok (.lload_n 1, 1)) ∧ (decode prog_1_method_26_code 140 = .ok (.lreturn, 1)) := by decide +kernel
theorem d_PC_digest_73 : decode prog_1_method_26_code 73 = .ok (.if_icmp .ge 16, 3) := gd_PC_digest_73.1
theorem d_PC_digest_89 : decode prog_1_method_26_code 89 = .ok (.iconst 0, 1) := gd_PC_digest_73.2.1
theorem d_PC_digest_90 : decode prog_1_method_26_code 90 = .ok (.istore_n 3, 1) := gd_PC_digest_73.2.2.1
theorem d_PC_digest_91 : decode prog_1_method_26_code 91 = .ok (.iload_n 3, 1) := gd_PC_digest_73.2.2.2.1
theorem d_PC_digest_92 : decode prog_1_method_26_code 92 = .ok (.aload_n 0, 1) := gd_PC_digest_73.2.2.2.2.1
theorem d_PC_digest_93 : decode prog_1_method_26_code 93 = .ok (.getfield 26, 3) := gd_PC_digest_73.2.2.2.2.2.1
theorem d_PC_digest_96 : decode prog_1_method_26_code 96 = .ok (.getfield 124, 3) := gd_PC_digest_73.2.2.2.2.2.2.1
theorem d_PC_digest_99 : decode prog_1_method_26_code 99 = .ok (.if_icmp .ge 40, 3) := gd_PC_digest_73.2.2.2.2.2.2.2.1
theorem d_PC_digest_139 : decode prog_1_method_26_code 139 = .ok (.lload_n 1, 1) := gd_PC_digest_73.2.2.2.2.2.2.2.2.1
theorem d_PC_digest_140 : decode prog_1_method_26_code 140 = .ok (.lreturn, 1) := gd_PC_digest_73.2.2.2.2.2.2.2.2.2
theorem gd_PC_digest_102 : (decode prog_1_method_26_code 102 = .ok (.iconst 0, 1)) ∧ (decode prog_1_method_26_code 103 = .ok (.istore 4, 2)) ∧ (decode prog_1_method_26_code 105 = .ok (.iload 4, 2)) ∧ (decode prog_1_method_26_code 107 = .ok (.bipush 6, 2)) ∧ (decode prog_1_method_26_code 109 = .ok (.if_icmp .gt 24, 3)) ∧ (decode prog_1_method_26_code 133 = .ok (.iinc 3 1, 3)) ∧ (decode prog_1_method_26_code 136 = .ok (.goto (-45), 3)) ∧ (decode prog_1_method_26_code 112 = .ok (.ldc2_w 244, 3)) ∧ (decode prog_1_method_26_code 115 = .ok (.lload_n 1, 1)) ∧ (decode prog_1_method_26_code 116 = .ok (.lmul, 1)) := by decide +kernel
theorem d_PC_digest_102 : decode prog_1_method_26_code 102 = .ok (.iconst 0, 1) := gd_PC_digest_102.1
theorem d_PC_digest_103 : decode prog_1_method_26_code 103 = .ok (.istore 4, 2) := gd_PC_digest_102.2.1
theorem d_PC_digest_105 : decode prog_1_method_26_code 105 = .ok (.iload 4, 2) := gd_PC_digest_102.2.2.1
theorem d_PC_digest_107 : decode prog_1_method_26_code 107 = .ok (.bipush 6, 2) := gd_PC_digest_102.2.2.2.1
theorem d_PC_digest_109 : decode prog_1_method_26_code 109 = .ok (.if_icmp .gt 24, 3) := gd_PC_digest_102.2.2.2.2.1
theorem d_PC_digest_133 : decode prog_1_method_26_code 133 = .ok (.iinc 3 1, 3) := gd_PC_digest_102.2.2.2.2.2.1
theorem d_PC_digest_136 : decode prog_1_method_26_code 136 = .ok (.goto (-45), 3) := gd_PC_digest_102.2.2.2.2.2.2.1
theorem d_PC_digest_112 : decode prog_1_method_26_code 112 = .ok (.ldc2_w 244, 3) := gd_PC_digest_102.2.2.2.2.2.2.2.1
theorem d_PC_digest_115 : decode prog_1_method_26_code 115 = .ok (.lload_n 1, 1) := gd_PC_digest_102.2.2.2.2.2.2.2.2.1
theorem d_PC_digest_116 : decode prog_1_method_26_code 116 = .ok (.lmul, 1) := gd_PC_digest_102.2.2.2.2.2.2.2.2.2
theorem gd_PC_digest_117 : (decode prog_1_method_26_code 117 = .ok (.aload_n 0, 1)) ∧ (decode prog_1_method_26_code 118 = .ok (.iload_n 3, 1)) ∧ (decode prog_1_method_26_code 119 = .ok (.iload 4, 2)) ∧ (decode prog_1_method_26_code 121 = .ok (.invokevirtual 256, 3)) ∧ (decode prog_1_method_26_code 124 = .ok (.i2l, 1)) ∧ (decode prog_1_method_26_code 125 = .ok (.ladd, 1)) ∧ (decode prog_1_method_26_code 126 = .ok (.lstore_n 1, 1)) ∧ (decode prog_1_method_26_code 127 = .ok (.iinc 4 1, 3)) ∧ (decode prog_1_method_26_code 130 = .ok (.goto (-25), 3)) ∧ (decode prog_1_method_26_code 76 = .ok (.aload_n 0, 1)) := by decide +kernel
theorem d_PC_digest_117 : decode prog_1_method_26_code 117 = .ok (.aload_n 0, 1) := gd_PC_digest_117.1
theorem d_PC_digest_118 : decode prog_1_method_26_code 118 = .ok (.iload_n 3, 1) := gd_PC_digest_117.2.1
theorem d_PC_digest_119 : decode prog_1_method_26_code 119 = .ok (.iload 4, 2) := gd_PC_digest_117.2.2.1
theorem d_PC_digest_121 : decode prog_1_method_26_code 121 = .ok (.invokevirtual 256, 3) := gd_PC_digest_117.2.2.2.1
theorem d_PC_digest_124 : decode prog_1_method_26_code 124 = .ok (.i2l, 1) := gd_PC_digest_117.2.2.2.2.1
theorem d_PC_digest_125 : decode prog_1_method_26_code 125 = .ok (.ladd, 1) := gd_PC_digest_117.2.2.2.2.2.1
theorem d_PC_digest_126 : decode prog_1_method_26_code 126 = .ok (.lstore_n 1, 1) := gd_PC_digest_117.2.2.2.2.2.2.1
theorem d_PC_digest_127 : decode prog_1_method_26_code 127 = .ok (.iinc 4 1, 3) := gd_PC_digest_117.2.2.2.2.2.2.2.1
theorem d_PC_digest_130 : decode prog_1_method_26_code 130 = .ok (.goto (-25), 3) := gd_PC_digest_117.2.2.2.2.2.2.2.2.1
theorem d_PC_digest_76 : decode prog_1_method_26_code 76 = .ok (.aload_n 0, 1) := gd_PC_digest_117.2.2.2.2.2.2.2.2.2
theorem gd_PC_digest_77 : (decode prog_1_method_26_code 77 = .ok (.lload_n 1, 1)) ∧ (decode prog_1_method_26_code 78 = .ok (.iload_n 3, 1)) ∧ (decode prog_1_method_26_code 79 = .ok (.invokevirtual 252, 3)) ∧ (decode prog_1_method_26_code 82 = .ok (.lstore_n 1, 1)) ∧ (decode prog_1_method_26_code 83 = .ok (.iinc 3 1, 3)) ∧ (decode prog_1_method_26_code 86 = .ok (.goto (-21), 3)) ∧ (decode prog_1_method_26_code 44 = .ok (.ldc2_w 244, 3)) ∧ (decode prog_1_method_26_code 47 = .ok (.lload_n 1, 1)) ∧ (decode prog_1_method_26_code 48 = .ok (.lmul, 1)) ∧ (decode prog_1_method_26_code 49 = .ok (.aload_n 0, 1)) := by decide +kernel
theorem d_PC_digest_77 : decode prog_1_method_26_code 77 = .ok (.lload_n 1, 1) := gd_PC_digest_77.1
theorem d_PC_digest_78 : decode prog_1_method_26_code 78 = .ok (.iload_n 3, 1) := gd_PC_digest_77.2.1
theorem d_PC_digest_79 : decode prog_1_method_26_code 79 = .ok (.invokevirtual 252, 3) := gd_PC_digest_77.2.2.1
theorem d_PC_digest_82 : decode prog_1_method_26_code 82 = .ok (.lstore_n 1, 1) := gd_PC_digest_77.2.2.2.1
theorem d_PC_digest_83 : decode prog_1_method_26_code 83 = .ok (.iinc 3 1, 3) := gd_PC_digest_77.2.2.2.2.1
theorem d_PC_digest_86 : decode prog_1_method_26_code 86 = .ok (.goto (-21), 3) := gd_PC_digest_77.2.2.2.2.2.1
theorem d_PC_digest_44 : decode prog_1_method_26_code 44 = .ok (.ldc2_w 244, 3) := gd_PC_digest_77.2.2.2.2.2.2.1
theorem d_PC_digest_47 : decode prog_1_method_26_code 47 = .ok (.lload_n 1, 1) := gd_PC_digest_77.2.2.2.2.2.2.2.1
theorem d_PC_digest_48 : decode prog_1_method_26_code 48 = .ok (.lmul, 1) := gd_PC_digest_77.2.2.2.2.2.2.2.2.1
theorem d_PC_digest_49 : decode prog_1_method_26_code 49 = .ok (.aload_n 0, 1) := gd_PC_digest_77.2.2.2.2.2.2.2.2.2
theorem gd_PC_digest_50 : (decode prog_1_method_26_code 50 = .ok (.iload_n 3, 1)) ∧ (decode prog_1_method_26_code 51 = .ok (.invokevirtual 249, 3)) ∧ (decode prog_1_method_26_code 54 = .ok (.i2l, 1)) ∧ (decode prog_1_method_26_code 55 = .ok (.ladd, 1)) ∧ (decode prog_1_method_26_code 56 = .ok (.lstore_n 1, 1)) ∧ (decode prog_1_method_26_code 57 = .ok (.iinc 3 1, 3)) ∧ (decode prog_1_method_26_code 60 = .ok (.goto (-27), 3)) ∧ (decode prog_1_method_26_code 12 = .ok (.ldc2_w 244, 3)) ∧ (decode prog_1_method_26_code 15 = .ok (.lload_n 1, 1)) ∧ (decode prog_1_method_26_code 16 = .ok (.lmul, 1)) := by decide +kernel
theorem d_PC_digest_50 : decode prog_1_method_26_code 50 = .ok (.iload_n 3, 1) := gd_PC_digest_50.1
theorem d_PC_digest_51 : decode prog_1_method_26_code 51 = .ok (.invokevirtual 249, 3) := gd_PC_digest_50.2.1
theorem d_PC_digest_54 : decode prog_1_method_26_code 54 = .ok (.i2l, 1) := gd_PC_digest_50.2.2.1
theorem d_PC_digest_55 : decode prog_1_method_26_code 55 = .ok (.ladd, 1) := gd_PC_digest_50.2.2.2.1
theorem d_PC_digest_56 : decode prog_1_method_26_code 56 = .ok (.lstore_n 1, 1) := gd_PC_digest_50.2.2.2.2.1
theorem d_PC_digest_57 : decode prog_1_method_26_code 57 = .ok (.iinc 3 1, 3) := gd_PC_digest_50.2.2.2.2.2.1
theorem d_PC_digest_60 : decode prog_1_method_26_code 60 = .ok (.goto (-27), 3) := gd_PC_digest_50.2.2.2.2.2.2.1
theorem d_PC_digest_12 : decode prog_1_method_26_code 12 = .ok (.ldc2_w 244, 3) := gd_PC_digest_50.2.2.2.2.2.2.2.1
theorem d_PC_digest_15 : decode prog_1_method_26_code 15 = .ok (.lload_n 1, 1) := gd_PC_digest_50.2.2.2.2.2.2.2.2.1
theorem d_PC_digest_16 : decode prog_1_method_26_code 16 = .ok (.lmul, 1) := gd_PC_digest_50.2.2.2.2.2.2.2.2.2
theorem gd_PC_digest_17 : (decode prog_1_method_26_code 17 = .ok (.aload_n 0, 1)) ∧ (decode prog_1_method_26_code 18 = .ok (.iload_n 3, 1)) ∧ (decode prog_1_method_26_code 19 = .ok (.invokevirtual 246, 3)) ∧ (decode prog_1_method_26_code 22 = .ok (.i2l, 1)) ∧ (decode prog_1_method_26_code 23 = .ok (.ladd, 1)) ∧ (decode prog_1_method_26_code 24 = .ok (.lstore_n 1, 1)) ∧ (decode prog_1_method_26_code 25 = .ok (.iinc 3 1, 3)) ∧ (decode prog_1_method_26_code 28 = .ok (.goto (-22), 3)) := by decide +kernel
theorem d_PC_digest_17 : decode prog_1_method_26_code 17 = .ok (.aload_n 0, 1) := gd_PC_digest_17.1
theorem d_PC_digest_18 : decode prog_1_method_26_code 18 = .ok (.iload_n 3, 1) := gd_PC_digest_17.2.1
theorem d_PC_digest_19 : decode prog_1_method_26_code 19 = .ok (.invokevirtual 246, 3) := gd_PC_digest_17.2.2.1
theorem d_PC_digest_22 : decode prog_1_method_26_code 22 = .ok (.i2l, 1) := gd_PC_digest_17.2.2.2.1
theorem d_PC_digest_23 : decode prog_1_method_26_code 23 = .ok (.ladd, 1) := gd_PC_digest_17.2.2.2.2.1
theorem d_PC_digest_24 : decode prog_1_method_26_code 24 = .ok (.lstore_n 1, 1) := gd_PC_digest_17.2.2.2.2.2.1
theorem d_PC_digest_25 : decode prog_1_method_26_code 25 = .ok (.iinc 3 1, 3) := gd_PC_digest_17.2.2.2.2.2.2.1
theorem d_PC_digest_28 : decode prog_1_method_26_code 28 = .ok (.goto (-22), 3) := gd_PC_digest_17.2.2.2.2.2.2.2
set_option maxHeartbeats 4000000 in
set_option maxRecDepth 100000 in
theorem e_PC_wayAt (l : Launch) (D : va_G) (cI cZ : ClassId) (x : Nat) (i : Int32) (f0 : Nat) (a0 : Nat) (r0 : Nat) (w0 : Nat) (g0 : Nat) (k0 : Nat) (tm : Int32) (gp : Int32) (lk : Int32) (kl : Nat) (k1 : Nat) (k2 : Nat) (KP : Nat → Nat) (sz : Nat) (h_kl : kl ≤ 6) (h_KP : ∀ zz, KP zz ≤ 11) : Met l ⟨"PromiseChains", "wayAt", "(I)I"⟩ (mw ⟨"PromiseChains", "wayAt", "(I)I"⟩ prog_1_method_9_code 2 (some .int)) ({ frames := 1, cells := 0, slots := 0, locals := 22 }) (va_Pc [.ref x, .int i] (PB D cI cZ sz [(x, .inr (0, [.ref f0, .ref a0, .ref r0, .ref w0, .ref g0, .ref k0, .int tm, .int gp, .int lk])), (k0, .inr (6, [.int (nI kl), .ref k1, .ref k2])), (k1, .inl (cI, 7, .inl (fun zy => nI (KP zy))))])) (vp_Si (fun r => r = gWay kl KP i)) 0 0 (fun _ => False) := by
  refine Met.ofW (cc := prog_1_method_9_code) (maxL := 2) (ret := (some .int)) (by decide) rfl ?_
  intro p e s m args below meth c s₁ B hml hv
  obtain ⟨rfl, hsz, hP, hK, hD0, hN⟩ := hv
  have hx := B.exec
  have hb := B.bytes
  have hr := B.returns
  have hts0 := atoms_spec (ws := mw ⟨"PromiseChains", "wayAt", "(I)I"⟩ prog_1_method_9_code 2 (some .int)) B.pre
  have hts : ∀ w ∈ tblG, w.before _ s = true := fun w h => hts0 w (List.mem_cons_of_mem _ h)
  have hown : s.vm.findClass "PromiseChains" = some m.cls := findClass_of_methodNamed B.named
  have hlocks := B.notSynchronized
  subst hsz
  have hD := hD0
  have hP : va_P D vwCl [(x, .inr (0, [.ref f0, .ref a0, .ref r0, .ref w0, .ref g0, .ref k0, .int tm, .int gp, .int lk])), (k0, .inr (6, [.int (nI kl), .ref k1, .ref k2])), (k1, .inl (cI, 7, .inl (fun zy => nI (KP zy))))] s.heap := hP
  have hl := lv_entry ([.ref x, .int i]) (n := 2) (Nat.le_of_ble_eq_true rfl)
  rw [lg_entry_eq]
  generalize (lg_sl ([.ref x, .int i]) ++ List.replicate (2 - (lg_sl ([.ref x, .int i])).length) Slot.unset).toArray = ls at hl ⊢
  have hl : lv_has ls 2 [(0, .ref x), (1, .int i)] := hl
  refine lv_iload_n hx hb d_PC_wayAt_0 rfl (lv_at hl 1 rfl) ?_
  refine lv_iconst (v := 0) hx hb d_PC_wayAt_1 (by decide) ?_
  refine lv_aload_n hx hb d_PC_wayAt_2 rfl (lv_at hl 0 rfl) ?_
  refine va_get (D := D) (ci := 0) (v := .ref k0) (C := R_PC) (T := F_PC) (N := 9) hx hb hts i_PC hown hK hP 0 rfl rfl 5 (by decide) (hts _ q_261) (fun _ h9 => h9) rfl d_PC_wayAt_3 ?_
  refine va_get (D := D) (ci := 6) (v := .int (nI kl)) (C := R_RO) (T := F_RO) (N := 3) hx hb hts i_RO hown hK hP 1 rfl rfl 0 (by decide) (hts _ q_174) (fun _ h9 => h9) rfl d_PC_wayAt_6 ?_
  refine lv_iconst (v := 1) hx hb d_PC_wayAt_9 (by decide) ?_
  refine lv_isub hx hb d_PC_wayAt_10 ?_
  have hPc := hP.sub (ws' := []) [] rfl
  have hDc := hD.sub (ws' := []) [] (by decide +kernel) rfl
  refine vp_callSi (va_Run.run (va_runS (As := [.int i, .int 0, .int ((nI kl) - 1)]) (rest := []) ⟨hx, hb, hml, hown, hts⟩ (e_within l D cI cZ i 0 ((nI kl) - 1) s.heap.size ) (my_cwS 3 hts q_290 q_288 q_289 q_1 rfl rfl (by decide +kernel) ⟨Nat.le_of_ble_eq_true rfl, Nat.le_of_ble_eq_true rfl⟩) (my_preS hPc hDc hK hN) rfl rfl hl.1 rfl (lv_room (Nat.le_of_ble_eq_true rfl)) d_PC_wayAt_11 ⟨Nat.le_of_ble_eq_true rfl, Nat.le_of_ble_eq_true rfl⟩)) (fun r_1 hw_1 => ?_)
  have hf_1_0 : r_1 = isw i 0 ((nI kl) - 1) := hw_1
  have hf_1_0 : r_1 = isw i 0 ((nI kl) - 1) := hf_1_0
  subst hf_1_0
  refine lv_if_ne (tgt := 19) hx hb d_PC_wayAt_14 (by decide) (fun h_2 => ?_) (fun h_2 => ?_)
  · obtain ⟨j_3, hx_4, rfl⟩ := isw_nI (by omega) h_2
    refine lv_aload_n hx hb d_PC_wayAt_19 rfl (lv_at hl 0 rfl) ?_
    refine va_get (D := D) (ci := 0) (v := .ref k0) (C := R_PC) (T := F_PC) (N := 9) hx hb hts i_PC hown hK hP 0 rfl rfl 5 (by decide) (hts _ q_261) (fun _ h9 => h9) rfl d_PC_wayAt_20 ?_
    refine va_get (D := D) (ci := 6) (v := .ref k1) (C := R_RO) (T := F_RO) (N := 3) hx hb hts i_RO hown hK hP 1 rfl rfl 1 (by decide) (hts _ q_179) (fun _ h9 => h9) rfl d_PC_wayAt_23 ?_
    refine lv_iload_n hx hb d_PC_wayAt_26 rfl (lv_at hl 1 rfl) ?_
    refine my_ldN hx hb hK hP 2 rfl j_3 rfl (by omega) (by decide) d_PC_wayAt_27 ?_
    have hb_1 : KP j_3 ≤ 11 := h_KP _
    exact W.iret (v := (nI (KP j_3))) hx hb hr (fun tT ht hW => ⟨(nI (KP j_3)), rfl, (by unfold gWay; rw [if_neg h_2, nI_clamp (by omega)]), ht⟩) (fun q h => absurd h List.not_mem_nil) d_PC_wayAt_28
  · refine lv_iconst (v := (-1)) hx hb d_PC_wayAt_17 (by decide) ?_
    exact W.iret (v := (-1)) hx hb hr (fun tT ht hW => ⟨(-1), rfl, (by unfold gWay; rw [if_pos h_2]), ht⟩) (fun q h => absurd h List.not_mem_nil) d_PC_wayAt_18

set_option maxHeartbeats 4000000 in
set_option maxRecDepth 100000 in
theorem e_PC_promiseAt (l : Launch) (D : va_G) (cI cZ : ClassId) (x : Nat) (i : Int32) (z : Int32) (f0 : Nat) (a0 : Nat) (r0 : Nat) (w0 : Nat) (g0 : Nat) (k0 : Nat) (tm : Int32) (gp : Int32) (lk : Int32) (nq : Nat) (HA : Int32) (r1 : Nat) (r2 : Nat) (r3 : Nat) (r4 : Nat) (r5 : Nat) (r6 : Nat) (r7 : Nat) (r8 : Nat) (r9 : Nat) (r10 : Nat) (r11 : Nat) (PY : Nat → Int32) (PD : Nat → Int32) (HO : Nat → Nat) (HE : Nat → Int32) (KE : Nat → Int32) (TO : Nat → Int32) (LS : Nat → Int32) (sz : Nat) (h_nq : nq ≤ 40) (h_HO : ∀ zz, HO zz ≤ 6) : Met l ⟨"PromiseChains", "promiseAt", "(II)I"⟩ (mw ⟨"PromiseChains", "promiseAt", "(II)I"⟩ prog_1_method_13_code 3 (some .int)) ({ frames := 2, cells := 0, slots := 0, locals := 43 }) (va_Pc [.ref x, .int i, .int z] (PB D cI cZ sz [(x, .inr (0, [.ref f0, .ref a0, .ref r0, .ref w0, .ref g0, .ref k0, .int tm, .int gp, .int lk])), (r0, .inr (3, [.int (nI nq), .int HA, .ref r1, .ref r2, .ref r3, .ref r4, .ref r5, .ref r6, .ref r7, .ref r8, .ref r9, .ref r10, .ref r11])), (r1, .inl (cI, 40, .inl PY)), (r2, .inl (cI, 40, .inl PD)), (r3, .inl (cI, 40, .inl (fun zy => nI (HO zy)))), (r4, .inl (cI, 40, .inl HE)), (r5, .inl (cI, 40, .inl KE)), (r6, .inl (cZ, 40, .inl TO)), (r9, .inl (cI, 240, .inl LS))])) (vp_Si (fun r => r = gPA nq HE HO KE PD LS TO PY i z)) 0 0 (fun _ => False) := by
  refine Met.ofW (cc := prog_1_method_13_code) (maxL := 3) (ret := (some .int)) (by decide) rfl ?_
  intro p e s m args below meth c s₁ B hml hv
  obtain ⟨rfl, hsz, hP, hK, hD0, hN⟩ := hv
  have hx := B.exec
  have hb := B.bytes
  have hr := B.returns
  have hts0 := atoms_spec (ws := mw ⟨"PromiseChains", "promiseAt", "(II)I"⟩ prog_1_method_13_code 3 (some .int)) B.pre
  have hts : ∀ w ∈ tblG, w.before _ s = true := fun w h => hts0 w (List.mem_cons_of_mem _ h)
  have hown : s.vm.findClass "PromiseChains" = some m.cls := findClass_of_methodNamed B.named
  have hlocks := B.notSynchronized
  subst hsz
  have hD := hD0
  have hP : va_P D vwCl [(x, .inr (0, [.ref f0, .ref a0, .ref r0, .ref w0, .ref g0, .ref k0, .int tm, .int gp, .int lk])), (r0, .inr (3, [.int (nI nq), .int HA, .ref r1, .ref r2, .ref r3, .ref r4, .ref r5, .ref r6, .ref r7, .ref r8, .ref r9, .ref r10, .ref r11])), (r1, .inl (cI, 40, .inl PY)), (r2, .inl (cI, 40, .inl PD)), (r3, .inl (cI, 40, .inl (fun zy => nI (HO zy)))), (r4, .inl (cI, 40, .inl HE)), (r5, .inl (cI, 40, .inl KE)), (r6, .inl (cZ, 40, .inl TO)), (r9, .inl (cI, 240, .inl LS))] s.heap := hP
  have hl := lv_entry ([.ref x, .int i, .int z]) (n := 3) (Nat.le_of_ble_eq_true rfl)
  rw [lg_entry_eq]
  generalize (lg_sl ([.ref x, .int i, .int z]) ++ List.replicate (3 - (lg_sl ([.ref x, .int i, .int z])).length) Slot.unset).toArray = ls at hl ⊢
  have hl : lv_has ls 3 [(0, .ref x), (1, .int i), (2, .int z)] := hl
  refine lv_aload_n hx hb d_PC_promiseAt_0 rfl (lv_at hl 0 rfl) ?_
  refine va_get (D := D) (ci := 0) (v := .ref r0) (C := R_PC) (T := F_PC) (N := 9) hx hb hts i_PC hown hK hP 0 rfl rfl 2 (by decide) (hts _ q_258) (fun _ h9 => h9) rfl d_PC_promiseAt_1 ?_
  refine lv_iload_n hx hb d_PC_promiseAt_4 rfl (lv_at hl 1 rfl) ?_
  have hPc := hP.sub (ws' := [(r0, .inr (3, [.int (nI nq), .int HA, .ref r1, .ref r2, .ref r3, .ref r4, .ref r5, .ref r6, .ref r7, .ref r8, .ref r9, .ref r10, .ref r11]))]) [1] rfl
  have hDc := hD.sub (ws' := [(r0, .inr (3, [.int (nI nq), .int HA, .ref r1, .ref r2, .ref r3, .ref r4, .ref r5, .ref r6, .ref r7, .ref r8, .ref r9, .ref r10, .ref r11]))]) [1] (by decide +kernel) rfl
  refine vp_callSi (va_Run.run (va_runV (As := [.int i]) (rest := []) ⟨hx, hb, hml, hown, hts⟩ (e_PR_has l D cI cZ r0 i nq HA r1 r2 r3 r4 r5 r6 r7 r8 r9 r10 r11 s.heap.size h_nq) (my_cwV 1 hts q_457 q_454 q_455 q_456 q_4 rfl rfl (by decide +kernel) ⟨Nat.le_of_ble_eq_true rfl, Nat.le_of_ble_eq_true rfl⟩) (my_preV hPc hDc hK hN 3 0 rfl rfl) rfl rfl hl.1 rfl (lv_room (Nat.le_of_ble_eq_true rfl)) d_PC_promiseAt_5 ⟨Nat.le_of_ble_eq_true rfl, Nat.le_of_ble_eq_true rfl⟩)) (fun r_1 hw_1 => ?_)
  rcases hw_1 with ⟨hg_2, rfl⟩ | ⟨j_3, hg_4, hg_5, hg_6, rfl⟩
  · have hg_2 : isw i 0 (nI nq - 1) = 0 := hg_2
    refine lv_if_ne (tgt := 14) hx hb d_PC_promiseAt_8 (by decide) (fun h => absurd h (by decide)) (fun _ => ?_)
    refine lv_bipush (v := (-2)) hx hb d_PC_promiseAt_11 (by decide) ?_
    exact W.iret (v := (-2)) hx hb hr (fun tT ht hW => ⟨(-2), rfl, (by unfold gPA; rw [if_pos hg_2]), ht⟩) (fun q h => absurd h List.not_mem_nil) d_PC_promiseAt_13
  · have hg_4 : j_3 < nq := hg_4
    have hg_5 : i = nI j_3 := hg_5
    have hg_6 : ¬ isw i 0 (nI nq - 1) = 0 := hg_6
    subst hg_5
    refine lv_if_ne (tgt := 14) hx hb d_PC_promiseAt_8 (by decide) (fun _ => ?_) (fun h => absurd h (by decide))
    refine lv_iload_n hx hb d_PC_promiseAt_14 rfl (lv_at hl 2 rfl) ?_
    by_cases hz_9 : z = 0
    · subst hz_9
      refine lv_tableIn (off := 41) (tgt := 56) hx hb d_PC_promiseAt_15 (by decide) (by decide) (by decide) (by decide) ?_
      refine lv_aload_n hx hb d_PC_promiseAt_56 rfl (lv_at hl 0 rfl) ?_
      refine va_get (D := D) (ci := 0) (v := .ref r0) (C := R_PC) (T := F_PC) (N := 9) hx hb hts i_PC hown hK hP 0 rfl rfl 2 (by decide) (hts _ q_258) (fun _ h9 => h9) rfl d_PC_promiseAt_57 ?_
      refine lv_iload_n hx hb d_PC_promiseAt_60 rfl (lv_at hl 1 rfl) ?_
      have hPc := hP.sub (ws' := [(r0, .inr (3, [.int (nI nq), .int HA, .ref r1, .ref r2, .ref r3, .ref r4, .ref r5, .ref r6, .ref r7, .ref r8, .ref r9, .ref r10, .ref r11])), (r3, .inl (cI, 40, .inl (fun zy => nI (HO zy)))), (r4, .inl (cI, 40, .inl HE)), (r5, .inl (cI, 40, .inl KE))]) [1, 4, 5, 6] rfl
      have hDc := hD.sub (ws' := [(r0, .inr (3, [.int (nI nq), .int HA, .ref r1, .ref r2, .ref r3, .ref r4, .ref r5, .ref r6, .ref r7, .ref r8, .ref r9, .ref r10, .ref r11])), (r3, .inl (cI, 40, .inl (fun zy => nI (HO zy)))), (r4, .inl (cI, 40, .inl HE)), (r5, .inl (cI, 40, .inl KE))]) [1, 4, 5, 6] (by decide +kernel) rfl
      refine vp_callSi (va_Run.run (va_runV (As := [.int (nI j_3)]) (rest := []) ⟨hx, hb, hml, hown, hts⟩ (e_PR_outcome l D cI cZ r0 j_3 nq HA r1 r2 r3 r4 r5 r6 r7 r8 r9 r10 r11 HO HE KE s.heap.size h_nq h_HO (by first | omega | (dsimp only; omega))) (my_cwV 1 hts q_478 q_475 q_476 q_477 q_4 rfl rfl (by decide +kernel) ⟨Nat.le_of_ble_eq_true rfl, Nat.le_of_ble_eq_true rfl⟩) (my_preV hPc hDc hK hN 3 0 rfl rfl) rfl rfl hl.1 rfl (lv_room (Nat.le_of_ble_eq_true rfl)) d_PC_promiseAt_61 ⟨Nat.le_of_ble_eq_true rfl, Nat.le_of_ble_eq_true rfl⟩)) (fun r_10 hw_10 => ?_)
      have hf_10_0 : r_10 = gOut (HE j_3) (nI (HO j_3)) (KE j_3) := hw_10
      have hf_10_0 : r_10 = gOut (HE j_3) (nI (HO j_3)) (KE j_3) := hf_10_0
      subst hf_10_0
      exact W.iret (v := (gOut (HE j_3) (nI (HO j_3)) (KE j_3))) hx hb hr (fun tT ht hW => ⟨(gOut (HE j_3) (nI (HO j_3)) (KE j_3)), rfl, (by unfold gPA; rw [if_neg hg_6, nI_clamp (by omega)]; exact rfl), ht⟩) (fun q h => absurd h List.not_mem_nil) d_PC_promiseAt_64
    by_cases hz_11 : z = 1
    · subst hz_11
      refine lv_tableIn (off := 50) (tgt := 65) hx hb d_PC_promiseAt_15 (by decide) (by decide) (by decide) (by decide) ?_
      refine lv_aload_n hx hb d_PC_promiseAt_65 rfl (lv_at hl 0 rfl) ?_
      refine va_get (D := D) (ci := 0) (v := .ref r0) (C := R_PC) (T := F_PC) (N := 9) hx hb hts i_PC hown hK hP 0 rfl rfl 2 (by decide) (hts _ q_258) (fun _ h9 => h9) rfl d_PC_promiseAt_66 ?_
      refine va_get (D := D) (ci := 3) (v := .ref r2) (C := R_PR) (T := F_PR) (N := 13) hx hb hts i_PR hown hK hP 1 rfl rfl 3 (by decide) (hts _ q_117) (fun _ h9 => h9) rfl d_PC_promiseAt_69 ?_
      refine lv_iload_n hx hb d_PC_promiseAt_72 rfl (lv_at hl 1 rfl) ?_
      refine my_ldI hx hb hK hP 3 rfl j_3 rfl (by omega) (by decide) d_PC_promiseAt_73 ?_
      exact W.iret (v := (PD j_3)) hx hb hr (fun tT ht hW => ⟨(PD j_3), rfl, (by unfold gPA; rw [if_neg hg_6, nI_clamp (by omega)]; exact rfl), ht⟩) (fun q h => absurd h List.not_mem_nil) d_PC_promiseAt_74
    by_cases hz_12 : z = 2
    · subst hz_12
      refine lv_tableIn (off := 60) (tgt := 75) hx hb d_PC_promiseAt_15 (by decide) (by decide) (by decide) (by decide) ?_
      refine lv_aload_n hx hb d_PC_promiseAt_75 rfl (lv_at hl 0 rfl) ?_
      refine va_get (D := D) (ci := 0) (v := .ref r0) (C := R_PC) (T := F_PC) (N := 9) hx hb hts i_PC hown hK hP 0 rfl rfl 2 (by decide) (hts _ q_258) (fun _ h9 => h9) rfl d_PC_promiseAt_76 ?_
      refine va_get (D := D) (ci := 3) (v := .ref r9) (C := R_PR) (T := F_PR) (N := 13) hx hb hts i_PR hown hK hP 1 rfl rfl 10 (by decide) (hts _ q_129) (fun _ h9 => h9) rfl d_PC_promiseAt_79 ?_
      refine lv_iload_n hx hb d_PC_promiseAt_82 rfl (lv_at hl 1 rfl) ?_
      refine lv_bipush (v := 6) hx hb d_PC_promiseAt_83 (by decide) ?_
      refine lv_imul hx hb d_PC_promiseAt_85 ?_
      refine lv_seti (nI (j_3 * 6)) (pk_mul j_3 6) ?_
      refine my_ldI hx hb hK hP 8 rfl (j_3 * 6) rfl (by omega) (by decide) d_PC_promiseAt_86 ?_
      exact W.iret (v := (LS (j_3 * 6))) hx hb hr (fun tT ht hW => ⟨(LS (j_3 * 6)), rfl, (by unfold gPA; rw [if_neg hg_6, nI_clamp (by omega)]; exact rfl), ht⟩) (fun q h => absurd h List.not_mem_nil) d_PC_promiseAt_87
    by_cases hz_13 : z = 3
    · subst hz_13
      refine lv_tableIn (off := 73) (tgt := 88) hx hb d_PC_promiseAt_15 (by decide) (by decide) (by decide) (by decide) ?_
      refine lv_aload_n hx hb d_PC_promiseAt_88 rfl (lv_at hl 0 rfl) ?_
      refine va_get (D := D) (ci := 0) (v := .ref r0) (C := R_PC) (T := F_PC) (N := 9) hx hb hts i_PC hown hK hP 0 rfl rfl 2 (by decide) (hts _ q_258) (fun _ h9 => h9) rfl d_PC_promiseAt_89 ?_
      refine va_get (D := D) (ci := 3) (v := .ref r3) (C := R_PR) (T := F_PR) (N := 13) hx hb hts i_PR hown hK hP 1 rfl rfl 4 (by decide) (hts _ q_119) (fun _ h9 => h9) rfl d_PC_promiseAt_92 ?_
      refine lv_iload_n hx hb d_PC_promiseAt_95 rfl (lv_at hl 1 rfl) ?_
      refine my_ldN hx hb hK hP 4 rfl j_3 rfl (by omega) (by decide) d_PC_promiseAt_96 ?_
      have hb_1 : HO j_3 ≤ 6 := h_HO _
      exact W.iret (v := (nI (HO j_3))) hx hb hr (fun tT ht hW => ⟨(nI (HO j_3)), rfl, (by unfold gPA; rw [if_neg hg_6, nI_clamp (by omega)]; exact rfl), ht⟩) (fun q h => absurd h List.not_mem_nil) d_PC_promiseAt_97
    by_cases hz_14 : z = 4
    · subst hz_14
      refine lv_tableIn (off := 83) (tgt := 98) hx hb d_PC_promiseAt_15 (by decide) (by decide) (by decide) (by decide) ?_
      refine lv_aload_n hx hb d_PC_promiseAt_98 rfl (lv_at hl 0 rfl) ?_
      refine va_get (D := D) (ci := 0) (v := .ref r0) (C := R_PC) (T := F_PC) (N := 9) hx hb hts i_PC hown hK hP 0 rfl rfl 2 (by decide) (hts _ q_258) (fun _ h9 => h9) rfl d_PC_promiseAt_99 ?_
      refine va_get (D := D) (ci := 3) (v := .ref r5) (C := R_PR) (T := F_PR) (N := 13) hx hb hts i_PR hown hK hP 1 rfl rfl 6 (by decide) (hts _ q_123) (fun _ h9 => h9) rfl d_PC_promiseAt_102 ?_
      refine lv_iload_n hx hb d_PC_promiseAt_105 rfl (lv_at hl 1 rfl) ?_
      refine my_ldI hx hb hK hP 6 rfl j_3 rfl (by omega) (by decide) d_PC_promiseAt_106 ?_
      exact W.iret (v := (KE j_3)) hx hb hr (fun tT ht hW => ⟨(KE j_3), rfl, (by unfold gPA; rw [if_neg hg_6, nI_clamp (by omega)]; exact rfl), ht⟩) (fun q h => absurd h List.not_mem_nil) d_PC_promiseAt_107
    by_cases hz_15 : z = 5
    · subst hz_15
      refine lv_tableIn (off := 93) (tgt := 108) hx hb d_PC_promiseAt_15 (by decide) (by decide) (by decide) (by decide) ?_
      refine lv_aload_n hx hb d_PC_promiseAt_108 rfl (lv_at hl 0 rfl) ?_
      refine va_get (D := D) (ci := 0) (v := .ref r0) (C := R_PC) (T := F_PC) (N := 9) hx hb hts i_PC hown hK hP 0 rfl rfl 2 (by decide) (hts _ q_258) (fun _ h9 => h9) rfl d_PC_promiseAt_109 ?_
      refine va_get (D := D) (ci := 3) (v := .ref r6) (C := R_PR) (T := F_PR) (N := 13) hx hb hts i_PR hown hK hP 1 rfl rfl 7 (by decide) (hts _ q_125) (fun _ h9 => h9) rfl d_PC_promiseAt_112 ?_
      refine lv_iload_n hx hb d_PC_promiseAt_115 rfl (lv_at hl 1 rfl) ?_
      refine my_ldZ hx hb hK hP 7 rfl j_3 rfl (by omega) (by decide) d_PC_promiseAt_116 ?_
      refine lv_if_eq (tgt := 124) hx hb d_PC_promiseAt_117 (by decide) (fun h_16 => ?_) (fun h_16 => ?_)
      · refine lv_iconst (v := 0) hx hb d_PC_promiseAt_124 (by decide) ?_
        exact W.iret (v := 0) hx hb hr (fun tT ht hW => ⟨0, rfl, (by unfold gPA; rw [if_neg hg_6, nI_clamp (by omega)]; exact (by show _ = if TO _ = 0 then (0 : Int32) else 1; rw [if_pos h_16])), ht⟩) (fun q h => absurd h List.not_mem_nil) d_PC_promiseAt_125
      · refine lv_iconst (v := 1) hx hb d_PC_promiseAt_120 (by decide) ?_
        refine lv_goto (tgt := 125) hx hb d_PC_promiseAt_121 (by decide) ?_
        exact W.iret (v := 1) hx hb hr (fun tT ht hW => ⟨1, rfl, (by unfold gPA; rw [if_neg hg_6, nI_clamp (by omega)]; exact (by show _ = if TO _ = 0 then (0 : Int32) else 1; rw [if_neg h_16])), ht⟩) (fun q h => absurd h List.not_mem_nil) d_PC_promiseAt_125
    by_cases hz_17 : z = 6
    · subst hz_17
      refine lv_tableIn (off := 111) (tgt := 126) hx hb d_PC_promiseAt_15 (by decide) (by decide) (by decide) (by decide) ?_
      refine lv_aload_n hx hb d_PC_promiseAt_126 rfl (lv_at hl 0 rfl) ?_
      refine va_get (D := D) (ci := 0) (v := .ref r0) (C := R_PC) (T := F_PC) (N := 9) hx hb hts i_PC hown hK hP 0 rfl rfl 2 (by decide) (hts _ q_258) (fun _ h9 => h9) rfl d_PC_promiseAt_127 ?_
      refine va_get (D := D) (ci := 3) (v := .ref r1) (C := R_PR) (T := F_PR) (N := 13) hx hb hts i_PR hown hK hP 1 rfl rfl 2 (by decide) (hts _ q_115) (fun _ h9 => h9) rfl d_PC_promiseAt_130 ?_
      refine lv_iload_n hx hb d_PC_promiseAt_133 rfl (lv_at hl 1 rfl) ?_
      refine my_ldI hx hb hK hP 2 rfl j_3 rfl (by omega) (by decide) d_PC_promiseAt_134 ?_
      exact W.iret (v := (PY j_3)) hx hb hr (fun tT ht hW => ⟨(PY j_3), rfl, (by unfold gPA; rw [if_neg hg_6, nI_clamp (by omega)]; exact rfl), ht⟩) (fun q h => absurd h List.not_mem_nil) d_PC_promiseAt_135
    refine lv_tableOut (tgt := 136) hx hb d_PC_promiseAt_15 (tb_out 7 (by decide) (fun j hj => by rcases (show j = 0 ∨ j = 1 ∨ j = 2 ∨ j = 3 ∨ j = 4 ∨ j = 5 ∨ j = 6 by omega) with rfl | rfl | rfl | rfl | rfl | rfl | rfl <;> assumption)) (by decide) ?_
    refine lv_bipush (v := (-2)) hx hb d_PC_promiseAt_136 (by decide) ?_
    exact W.iret (v := (-2)) hx hb hr (fun tT ht hW => ⟨(-2), rfl, (by unfold gPA; rw [if_neg hg_6, nI_clamp (by omega)]; exact (by unfold gPB; rw [if_neg hz_9, if_neg hz_11, if_neg hz_12, if_neg hz_13, if_neg hz_14, if_neg hz_15, if_neg hz_17])), ht⟩) (fun q h => absurd h List.not_mem_nil) d_PC_promiseAt_138

set_option maxHeartbeats 4000000 in
set_option maxRecDepth 100000 in
theorem e_PC_side (l : Launch) (D : va_G) (cI cZ : ClassId) (x : Nat) (i : Int32) (z : Int32) (f0 : Nat) (a0 : Nat) (r0 : Nat) (w0 : Nat) (g0 : Nat) (k0 : Nat) (tm : Int32) (gp : Int32) (lk : Int32) (np : Nat) (a1 : Nat) (a2 : Nat) (a3 : Nat) (a4 : Nat) (a5 : Nat) (a6 : Nat) (a7 : Nat) (a8 : Nat) (a9 : Nat) (a10 : Nat) (a11 : Nat) (SI : Nat → Int32) (sz : Nat) (h_np : np ≤ 12) : Met l ⟨"PromiseChains", "side", "(II)I"⟩ (mw ⟨"PromiseChains", "side", "(II)I"⟩ prog_1_method_14_code 3 (some .int)) ({ frames := 2, cells := 0, slots := 0, locals := 43 }) (va_Pc [.ref x, .int i, .int z] (PB D cI cZ sz [(x, .inr (0, [.ref f0, .ref a0, .ref r0, .ref w0, .ref g0, .ref k0, .int tm, .int gp, .int lk])), (a0, .inr (2, [.int (nI np), .ref a1, .ref a2, .ref a3, .ref a4, .ref a5, .ref a6, .ref a7, .ref a8, .ref a9, .ref a10, .ref a11])), (a2, .inl (cI, 24, .inl SI))])) (vp_Si (fun r => r = gSd np SI i z)) 0 0 (fun _ => False) := by
  refine Met.ofW (cc := prog_1_method_14_code) (maxL := 3) (ret := (some .int)) (by decide) rfl ?_
  intro p e s m args below meth c s₁ B hml hv
  obtain ⟨rfl, hsz, hP, hK, hD0, hN⟩ := hv
  have hx := B.exec
  have hb := B.bytes
  have hr := B.returns
  have hts0 := atoms_spec (ws := mw ⟨"PromiseChains", "side", "(II)I"⟩ prog_1_method_14_code 3 (some .int)) B.pre
  have hts : ∀ w ∈ tblG, w.before _ s = true := fun w h => hts0 w (List.mem_cons_of_mem _ h)
  have hown : s.vm.findClass "PromiseChains" = some m.cls := findClass_of_methodNamed B.named
  have hlocks := B.notSynchronized
  subst hsz
  have hD := hD0
  have hP : va_P D vwCl [(x, .inr (0, [.ref f0, .ref a0, .ref r0, .ref w0, .ref g0, .ref k0, .int tm, .int gp, .int lk])), (a0, .inr (2, [.int (nI np), .ref a1, .ref a2, .ref a3, .ref a4, .ref a5, .ref a6, .ref a7, .ref a8, .ref a9, .ref a10, .ref a11])), (a2, .inl (cI, 24, .inl SI))] s.heap := hP
  have hl := lv_entry ([.ref x, .int i, .int z]) (n := 3) (Nat.le_of_ble_eq_true rfl)
  rw [lg_entry_eq]
  generalize (lg_sl ([.ref x, .int i, .int z]) ++ List.replicate (3 - (lg_sl ([.ref x, .int i, .int z])).length) Slot.unset).toArray = ls at hl ⊢
  have hl : lv_has ls 3 [(0, .ref x), (1, .int i), (2, .int z)] := hl
  refine lv_aload_n hx hb d_PC_side_0 rfl (lv_at hl 0 rfl) ?_
  refine va_get (D := D) (ci := 0) (v := .ref a0) (C := R_PC) (T := F_PC) (N := 9) hx hb hts i_PC hown hK hP 0 rfl rfl 1 (by decide) (hts _ q_257) (fun _ h9 => h9) rfl d_PC_side_1 ?_
  refine lv_iload_n hx hb d_PC_side_4 rfl (lv_at hl 1 rfl) ?_
  have hPc := hP.sub (ws' := [(a0, .inr (2, [.int (nI np), .ref a1, .ref a2, .ref a3, .ref a4, .ref a5, .ref a6, .ref a7, .ref a8, .ref a9, .ref a10, .ref a11]))]) [1] rfl
  have hDc := hD.sub (ws' := [(a0, .inr (2, [.int (nI np), .ref a1, .ref a2, .ref a3, .ref a4, .ref a5, .ref a6, .ref a7, .ref a8, .ref a9, .ref a10, .ref a11]))]) [1] (by decide +kernel) rfl
  refine vp_callSi (va_Run.run (va_runV (As := [.int i]) (rest := []) ⟨hx, hb, hml, hown, hts⟩ (e_PA_has l D cI cZ a0 i np a1 a2 a3 a4 a5 a6 a7 a8 a9 a10 a11 s.heap.size h_np) (my_cwV 1 hts q_486 q_483 q_484 q_485 q_3 rfl rfl (by decide +kernel) ⟨Nat.le_of_ble_eq_true rfl, Nat.le_of_ble_eq_true rfl⟩) (my_preV hPc hDc hK hN 2 0 rfl rfl) rfl rfl hl.1 rfl (lv_room (Nat.le_of_ble_eq_true rfl)) d_PC_side_5 ⟨Nat.le_of_ble_eq_true rfl, Nat.le_of_ble_eq_true rfl⟩)) (fun r_1 hw_1 => ?_)
  rcases hw_1 with ⟨hg_2, rfl⟩ | ⟨j_3, hg_4, hg_5, hg_6, rfl⟩
  · have hg_2 : isw i 0 (nI np - 1) = 0 := hg_2
    refine lv_if_eq (tgt := 20) hx hb d_PC_side_8 (by decide) (fun _ => ?_) (fun h => absurd h (by decide))
    refine lv_bipush (v := (-2)) hx hb d_PC_side_20 (by decide) ?_
    exact W.iret (v := (-2)) hx hb hr (fun tT ht hW => ⟨(-2), rfl, (by unfold gSd; rw [if_pos hg_2]), ht⟩) (fun q h => absurd h List.not_mem_nil) d_PC_side_22
  · have hg_4 : j_3 < np := hg_4
    have hg_5 : i = nI j_3 := hg_5
    have hg_6 : ¬ isw i 0 (nI np - 1) = 0 := hg_6
    subst hg_5
    refine lv_if_eq (tgt := 20) hx hb d_PC_side_8 (by decide) (fun h => absurd h (by decide)) (fun _ => ?_)
    refine lv_iload_n hx hb d_PC_side_11 rfl (lv_at hl 2 rfl) ?_
    refine lv_iconst (v := 0) hx hb d_PC_side_12 (by decide) ?_
    refine lv_iconst (v := 1) hx hb d_PC_side_13 (by decide) ?_
    have hPc := hP.sub (ws' := []) [] rfl
    have hDc := hD.sub (ws' := []) [] (by decide +kernel) rfl
    refine vp_callSi (va_Run.run (va_runS (As := [.int z, .int 0, .int 1]) (rest := []) ⟨hx, hb, hml, hown, hts⟩ (e_within l D cI cZ z 0 1 s.heap.size ) (my_cwS 3 hts q_290 q_288 q_289 q_1 rfl rfl (by decide +kernel) ⟨Nat.le_of_ble_eq_true rfl, Nat.le_of_ble_eq_true rfl⟩) (my_preS hPc hDc hK hN) rfl rfl hl.1 rfl (lv_room (Nat.le_of_ble_eq_true rfl)) d_PC_side_14 ⟨Nat.le_of_ble_eq_true rfl, Nat.le_of_ble_eq_true rfl⟩)) (fun r_9 hw_9 => ?_)
    have hf_9_0 : r_9 = isw z 0 1 := hw_9
    have hf_9_0 : r_9 = isw z 0 1 := hf_9_0
    subst hf_9_0
    refine lv_if_ne (tgt := 23) hx hb d_PC_side_17 (by decide) (fun h_10 => ?_) (fun h_10 => ?_)
    · obtain ⟨t_11, hx_12, rfl⟩ := isw_lo (K := 1) (by decide) rfl h_10
      refine lv_aload_n hx hb d_PC_side_23 rfl (lv_at hl 0 rfl) ?_
      refine va_get (D := D) (ci := 0) (v := .ref a0) (C := R_PC) (T := F_PC) (N := 9) hx hb hts i_PC hown hK hP 0 rfl rfl 1 (by decide) (hts _ q_257) (fun _ h9 => h9) rfl d_PC_side_24 ?_
      refine va_get (D := D) (ci := 2) (v := .ref a2) (C := R_PA) (T := F_PA) (N := 12) hx hb hts i_PA hown hK hP 1 rfl rfl 2 (by decide) (hts _ q_63) (fun _ h9 => h9) rfl d_PC_side_27 ?_
      refine lv_iconst (v := 2) hx hb d_PC_side_30 (by decide) ?_
      refine lv_iload_n hx hb d_PC_side_31 rfl (lv_at hl 1 rfl) ?_
      refine lv_imul hx hb d_PC_side_32 ?_
      refine lv_seti (nI (2 * j_3)) (pk_mul 2 j_3) ?_
      refine lv_iload_n hx hb d_PC_side_33 rfl (lv_at hl 2 rfl) ?_
      refine lv_iadd hx hb d_PC_side_34 ?_
      refine lv_seti (nI ((2 * j_3) + t_11)) (nI_add (2 * j_3) t_11) ?_
      refine my_ldI hx hb hK hP 2 rfl ((2 * j_3) + t_11) rfl (by omega) (by decide) d_PC_side_35 ?_
      exact W.iret (v := (SI ((2 * j_3) + t_11))) hx hb hr (fun tT ht hW => ⟨(SI ((2 * j_3) + t_11)), rfl, (by unfold gSd; rw [if_neg hg_6, if_neg h_10, nI_clamp (by omega), nI_clamp (by omega)]), ht⟩) (fun q h => absurd h List.not_mem_nil) d_PC_side_36
    · refine lv_bipush (v := (-2)) hx hb d_PC_side_20 (by decide) ?_
      exact W.iret (v := (-2)) hx hb hr (fun tT ht hW => ⟨(-2), rfl, (by unfold gSd; rw [if_neg hg_6, if_pos h_10]), ht⟩) (fun q h => absurd h List.not_mem_nil) d_PC_side_22

set_option maxHeartbeats 4000000 in
set_option maxRecDepth 100000 in
theorem e_PC_locked (l : Launch) (D : va_G) (cI cZ : ClassId) (x : Nat) (i : Int32) (z : Int32) (f0 : Nat) (a0 : Nat) (r0 : Nat) (w0 : Nat) (g0 : Nat) (k0 : Nat) (tm : Int32) (gp : Int32) (lk : Int32) (np : Nat) (a1 : Nat) (a2 : Nat) (a3 : Nat) (a4 : Nat) (a5 : Nat) (a6 : Nat) (a7 : Nat) (a8 : Nat) (a9 : Nat) (a10 : Nat) (a11 : Nat) (LK : Nat → Int32) (sz : Nat) (h_np : np ≤ 12) : Met l ⟨"PromiseChains", "locked", "(II)I"⟩ (mw ⟨"PromiseChains", "locked", "(II)I"⟩ prog_1_method_15_code 3 (some .int)) ({ frames := 2, cells := 0, slots := 0, locals := 43 }) (va_Pc [.ref x, .int i, .int z] (PB D cI cZ sz [(x, .inr (0, [.ref f0, .ref a0, .ref r0, .ref w0, .ref g0, .ref k0, .int tm, .int gp, .int lk])), (a0, .inr (2, [.int (nI np), .ref a1, .ref a2, .ref a3, .ref a4, .ref a5, .ref a6, .ref a7, .ref a8, .ref a9, .ref a10, .ref a11])), (a3, .inl (cI, 24, .inl LK))])) (vp_Si (fun r => r = gSd np LK i z)) 0 0 (fun _ => False) := by
  refine Met.ofW (cc := prog_1_method_15_code) (maxL := 3) (ret := (some .int)) (by decide) rfl ?_
  intro p e s m args below meth c s₁ B hml hv
  obtain ⟨rfl, hsz, hP, hK, hD0, hN⟩ := hv
  have hx := B.exec
  have hb := B.bytes
  have hr := B.returns
  have hts0 := atoms_spec (ws := mw ⟨"PromiseChains", "locked", "(II)I"⟩ prog_1_method_15_code 3 (some .int)) B.pre
  have hts : ∀ w ∈ tblG, w.before _ s = true := fun w h => hts0 w (List.mem_cons_of_mem _ h)
  have hown : s.vm.findClass "PromiseChains" = some m.cls := findClass_of_methodNamed B.named
  have hlocks := B.notSynchronized
  subst hsz
  have hD := hD0
  have hP : va_P D vwCl [(x, .inr (0, [.ref f0, .ref a0, .ref r0, .ref w0, .ref g0, .ref k0, .int tm, .int gp, .int lk])), (a0, .inr (2, [.int (nI np), .ref a1, .ref a2, .ref a3, .ref a4, .ref a5, .ref a6, .ref a7, .ref a8, .ref a9, .ref a10, .ref a11])), (a3, .inl (cI, 24, .inl LK))] s.heap := hP
  have hl := lv_entry ([.ref x, .int i, .int z]) (n := 3) (Nat.le_of_ble_eq_true rfl)
  rw [lg_entry_eq]
  generalize (lg_sl ([.ref x, .int i, .int z]) ++ List.replicate (3 - (lg_sl ([.ref x, .int i, .int z])).length) Slot.unset).toArray = ls at hl ⊢
  have hl : lv_has ls 3 [(0, .ref x), (1, .int i), (2, .int z)] := hl
  refine lv_aload_n hx hb d_PC_locked_0 rfl (lv_at hl 0 rfl) ?_
  refine va_get (D := D) (ci := 0) (v := .ref a0) (C := R_PC) (T := F_PC) (N := 9) hx hb hts i_PC hown hK hP 0 rfl rfl 1 (by decide) (hts _ q_257) (fun _ h9 => h9) rfl d_PC_locked_1 ?_
  refine lv_iload_n hx hb d_PC_locked_4 rfl (lv_at hl 1 rfl) ?_
  have hPc := hP.sub (ws' := [(a0, .inr (2, [.int (nI np), .ref a1, .ref a2, .ref a3, .ref a4, .ref a5, .ref a6, .ref a7, .ref a8, .ref a9, .ref a10, .ref a11]))]) [1] rfl
  have hDc := hD.sub (ws' := [(a0, .inr (2, [.int (nI np), .ref a1, .ref a2, .ref a3, .ref a4, .ref a5, .ref a6, .ref a7, .ref a8, .ref a9, .ref a10, .ref a11]))]) [1] (by decide +kernel) rfl
  refine vp_callSi (va_Run.run (va_runV (As := [.int i]) (rest := []) ⟨hx, hb, hml, hown, hts⟩ (e_PA_has l D cI cZ a0 i np a1 a2 a3 a4 a5 a6 a7 a8 a9 a10 a11 s.heap.size h_np) (my_cwV 1 hts q_486 q_483 q_484 q_485 q_3 rfl rfl (by decide +kernel) ⟨Nat.le_of_ble_eq_true rfl, Nat.le_of_ble_eq_true rfl⟩) (my_preV hPc hDc hK hN 2 0 rfl rfl) rfl rfl hl.1 rfl (lv_room (Nat.le_of_ble_eq_true rfl)) d_PC_locked_5 ⟨Nat.le_of_ble_eq_true rfl, Nat.le_of_ble_eq_true rfl⟩)) (fun r_1 hw_1 => ?_)
  rcases hw_1 with ⟨hg_2, rfl⟩ | ⟨j_3, hg_4, hg_5, hg_6, rfl⟩
  · have hg_2 : isw i 0 (nI np - 1) = 0 := hg_2
    refine lv_if_eq (tgt := 20) hx hb d_PC_locked_8 (by decide) (fun _ => ?_) (fun h => absurd h (by decide))
    refine lv_bipush (v := (-2)) hx hb d_PC_locked_20 (by decide) ?_
    exact W.iret (v := (-2)) hx hb hr (fun tT ht hW => ⟨(-2), rfl, (by unfold gSd; rw [if_pos hg_2]), ht⟩) (fun q h => absurd h List.not_mem_nil) d_PC_locked_22
  · have hg_4 : j_3 < np := hg_4
    have hg_5 : i = nI j_3 := hg_5
    have hg_6 : ¬ isw i 0 (nI np - 1) = 0 := hg_6
    subst hg_5
    refine lv_if_eq (tgt := 20) hx hb d_PC_locked_8 (by decide) (fun h => absurd h (by decide)) (fun _ => ?_)
    refine lv_iload_n hx hb d_PC_locked_11 rfl (lv_at hl 2 rfl) ?_
    refine lv_iconst (v := 0) hx hb d_PC_locked_12 (by decide) ?_
    refine lv_iconst (v := 1) hx hb d_PC_locked_13 (by decide) ?_
    have hPc := hP.sub (ws' := []) [] rfl
    have hDc := hD.sub (ws' := []) [] (by decide +kernel) rfl
    refine vp_callSi (va_Run.run (va_runS (As := [.int z, .int 0, .int 1]) (rest := []) ⟨hx, hb, hml, hown, hts⟩ (e_within l D cI cZ z 0 1 s.heap.size ) (my_cwS 3 hts q_290 q_288 q_289 q_1 rfl rfl (by decide +kernel) ⟨Nat.le_of_ble_eq_true rfl, Nat.le_of_ble_eq_true rfl⟩) (my_preS hPc hDc hK hN) rfl rfl hl.1 rfl (lv_room (Nat.le_of_ble_eq_true rfl)) d_PC_locked_14 ⟨Nat.le_of_ble_eq_true rfl, Nat.le_of_ble_eq_true rfl⟩)) (fun r_9 hw_9 => ?_)
    have hf_9_0 : r_9 = isw z 0 1 := hw_9
    have hf_9_0 : r_9 = isw z 0 1 := hf_9_0
    subst hf_9_0
    refine lv_if_ne (tgt := 23) hx hb d_PC_locked_17 (by decide) (fun h_10 => ?_) (fun h_10 => ?_)
    · obtain ⟨t_11, hx_12, rfl⟩ := isw_lo (K := 1) (by decide) rfl h_10
      refine lv_aload_n hx hb d_PC_locked_23 rfl (lv_at hl 0 rfl) ?_
      refine va_get (D := D) (ci := 0) (v := .ref a0) (C := R_PC) (T := F_PC) (N := 9) hx hb hts i_PC hown hK hP 0 rfl rfl 1 (by decide) (hts _ q_257) (fun _ h9 => h9) rfl d_PC_locked_24 ?_
      refine va_get (D := D) (ci := 2) (v := .ref a3) (C := R_PA) (T := F_PA) (N := 12) hx hb hts i_PA hown hK hP 1 rfl rfl 3 (by decide) (hts _ q_65) (fun _ h9 => h9) rfl d_PC_locked_27 ?_
      refine lv_iconst (v := 2) hx hb d_PC_locked_30 (by decide) ?_
      refine lv_iload_n hx hb d_PC_locked_31 rfl (lv_at hl 1 rfl) ?_
      refine lv_imul hx hb d_PC_locked_32 ?_
      refine lv_seti (nI (2 * j_3)) (pk_mul 2 j_3) ?_
      refine lv_iload_n hx hb d_PC_locked_33 rfl (lv_at hl 2 rfl) ?_
      refine lv_iadd hx hb d_PC_locked_34 ?_
      refine lv_seti (nI ((2 * j_3) + t_11)) (nI_add (2 * j_3) t_11) ?_
      refine my_ldI hx hb hK hP 2 rfl ((2 * j_3) + t_11) rfl (by omega) (by decide) d_PC_locked_35 ?_
      exact W.iret (v := (LK ((2 * j_3) + t_11))) hx hb hr (fun tT ht hW => ⟨(LK ((2 * j_3) + t_11)), rfl, (by unfold gSd; rw [if_neg hg_6, if_neg h_10, nI_clamp (by omega), nI_clamp (by omega)]), ht⟩) (fun q h => absurd h List.not_mem_nil) d_PC_locked_36
    · refine lv_bipush (v := (-2)) hx hb d_PC_locked_20 (by decide) ?_
      exact W.iret (v := (-2)) hx hb hr (fun tT ht hW => ⟨(-2), rfl, (by unfold gSd; rw [if_neg hg_6, if_pos h_10]), ht⟩) (fun q h => absurd h List.not_mem_nil) d_PC_locked_22

set_option maxHeartbeats 4000000 in
set_option maxRecDepth 100000 in
theorem e_PC_learnt (l : Launch) (D : va_G) (cI cZ : ClassId) (x : Nat) (i : Int32) (z : Int32) (f0 : Nat) (a0 : Nat) (r0 : Nat) (w0 : Nat) (g0 : Nat) (k0 : Nat) (tm : Int32) (gp : Int32) (lk : Int32) (np : Nat) (a1 : Nat) (a2 : Nat) (a3 : Nat) (a4 : Nat) (a5 : Nat) (a6 : Nat) (a7 : Nat) (a8 : Nat) (a9 : Nat) (a10 : Nat) (a11 : Nat) (LE : Nat → Int32) (GR : Nat → Int32) (sz : Nat) (h_np : np ≤ 12) : Met l ⟨"PromiseChains", "learnt", "(II)I"⟩ (mw ⟨"PromiseChains", "learnt", "(II)I"⟩ prog_1_method_24_code 3 (some .int)) ({ frames := 2, cells := 0, slots := 0, locals := 43 }) (va_Pc [.ref x, .int i, .int z] (PB D cI cZ sz [(x, .inr (0, [.ref f0, .ref a0, .ref r0, .ref w0, .ref g0, .ref k0, .int tm, .int gp, .int lk])), (a0, .inr (2, [.int (nI np), .ref a1, .ref a2, .ref a3, .ref a4, .ref a5, .ref a6, .ref a7, .ref a8, .ref a9, .ref a10, .ref a11])), (a10, .inl (cI, 12, .inl LE)), (a11, .inl (cI, 12, .inl GR))])) (vp_Si (fun r => r = gLe np LE GR i z)) 0 0 (fun _ => False) := by
  refine Met.ofW (cc := prog_1_method_24_code) (maxL := 3) (ret := (some .int)) (by decide) rfl ?_
  intro p e s m args below meth c s₁ B hml hv
  obtain ⟨rfl, hsz, hP, hK, hD0, hN⟩ := hv
  have hx := B.exec
  have hb := B.bytes
  have hr := B.returns
  have hts0 := atoms_spec (ws := mw ⟨"PromiseChains", "learnt", "(II)I"⟩ prog_1_method_24_code 3 (some .int)) B.pre
  have hts : ∀ w ∈ tblG, w.before _ s = true := fun w h => hts0 w (List.mem_cons_of_mem _ h)
  have hown : s.vm.findClass "PromiseChains" = some m.cls := findClass_of_methodNamed B.named
  have hlocks := B.notSynchronized
  subst hsz
  have hD := hD0
  have hP : va_P D vwCl [(x, .inr (0, [.ref f0, .ref a0, .ref r0, .ref w0, .ref g0, .ref k0, .int tm, .int gp, .int lk])), (a0, .inr (2, [.int (nI np), .ref a1, .ref a2, .ref a3, .ref a4, .ref a5, .ref a6, .ref a7, .ref a8, .ref a9, .ref a10, .ref a11])), (a10, .inl (cI, 12, .inl LE)), (a11, .inl (cI, 12, .inl GR))] s.heap := hP
  have hl := lv_entry ([.ref x, .int i, .int z]) (n := 3) (Nat.le_of_ble_eq_true rfl)
  rw [lg_entry_eq]
  generalize (lg_sl ([.ref x, .int i, .int z]) ++ List.replicate (3 - (lg_sl ([.ref x, .int i, .int z])).length) Slot.unset).toArray = ls at hl ⊢
  have hl : lv_has ls 3 [(0, .ref x), (1, .int i), (2, .int z)] := hl
  refine lv_aload_n hx hb d_PC_learnt_0 rfl (lv_at hl 0 rfl) ?_
  refine va_get (D := D) (ci := 0) (v := .ref a0) (C := R_PC) (T := F_PC) (N := 9) hx hb hts i_PC hown hK hP 0 rfl rfl 1 (by decide) (hts _ q_257) (fun _ h9 => h9) rfl d_PC_learnt_1 ?_
  refine lv_iload_n hx hb d_PC_learnt_4 rfl (lv_at hl 1 rfl) ?_
  have hPc := hP.sub (ws' := [(a0, .inr (2, [.int (nI np), .ref a1, .ref a2, .ref a3, .ref a4, .ref a5, .ref a6, .ref a7, .ref a8, .ref a9, .ref a10, .ref a11]))]) [1] rfl
  have hDc := hD.sub (ws' := [(a0, .inr (2, [.int (nI np), .ref a1, .ref a2, .ref a3, .ref a4, .ref a5, .ref a6, .ref a7, .ref a8, .ref a9, .ref a10, .ref a11]))]) [1] (by decide +kernel) rfl
  refine vp_callSi (va_Run.run (va_runV (As := [.int i]) (rest := []) ⟨hx, hb, hml, hown, hts⟩ (e_PA_has l D cI cZ a0 i np a1 a2 a3 a4 a5 a6 a7 a8 a9 a10 a11 s.heap.size h_np) (my_cwV 1 hts q_486 q_483 q_484 q_485 q_3 rfl rfl (by decide +kernel) ⟨Nat.le_of_ble_eq_true rfl, Nat.le_of_ble_eq_true rfl⟩) (my_preV hPc hDc hK hN 2 0 rfl rfl) rfl rfl hl.1 rfl (lv_room (Nat.le_of_ble_eq_true rfl)) d_PC_learnt_5 ⟨Nat.le_of_ble_eq_true rfl, Nat.le_of_ble_eq_true rfl⟩)) (fun r_1 hw_1 => ?_)
  rcases hw_1 with ⟨hg_2, rfl⟩ | ⟨j_3, hg_4, hg_5, hg_6, rfl⟩
  · have hg_2 : isw i 0 (nI np - 1) = 0 := hg_2
    refine lv_if_eq (tgt := 20) hx hb d_PC_learnt_8 (by decide) (fun _ => ?_) (fun h => absurd h (by decide))
    refine lv_bipush (v := (-2)) hx hb d_PC_learnt_20 (by decide) ?_
    exact W.iret (v := (-2)) hx hb hr (fun tT ht hW => ⟨(-2), rfl, (by unfold gLe; rw [if_pos hg_2]), ht⟩) (fun q h => absurd h List.not_mem_nil) d_PC_learnt_22
  · have hg_4 : j_3 < np := hg_4
    have hg_5 : i = nI j_3 := hg_5
    have hg_6 : ¬ isw i 0 (nI np - 1) = 0 := hg_6
    subst hg_5
    refine lv_if_eq (tgt := 20) hx hb d_PC_learnt_8 (by decide) (fun h => absurd h (by decide)) (fun _ => ?_)
    refine lv_iload_n hx hb d_PC_learnt_11 rfl (lv_at hl 2 rfl) ?_
    refine lv_iconst (v := 0) hx hb d_PC_learnt_12 (by decide) ?_
    refine lv_iconst (v := 1) hx hb d_PC_learnt_13 (by decide) ?_
    have hPc := hP.sub (ws' := []) [] rfl
    have hDc := hD.sub (ws' := []) [] (by decide +kernel) rfl
    refine vp_callSi (va_Run.run (va_runS (As := [.int z, .int 0, .int 1]) (rest := []) ⟨hx, hb, hml, hown, hts⟩ (e_within l D cI cZ z 0 1 s.heap.size ) (my_cwS 3 hts q_290 q_288 q_289 q_1 rfl rfl (by decide +kernel) ⟨Nat.le_of_ble_eq_true rfl, Nat.le_of_ble_eq_true rfl⟩) (my_preS hPc hDc hK hN) rfl rfl hl.1 rfl (lv_room (Nat.le_of_ble_eq_true rfl)) d_PC_learnt_14 ⟨Nat.le_of_ble_eq_true rfl, Nat.le_of_ble_eq_true rfl⟩)) (fun r_9 hw_9 => ?_)
    have hf_9_0 : r_9 = isw z 0 1 := hw_9
    have hf_9_0 : r_9 = isw z 0 1 := hf_9_0
    subst hf_9_0
    refine lv_if_ne (tgt := 23) hx hb d_PC_learnt_17 (by decide) (fun h_10 => ?_) (fun h_10 => ?_)
    · refine lv_iload_n hx hb d_PC_learnt_23 rfl (lv_at hl 2 rfl) ?_
      refine lv_if_ne (tgt := 39) hx hb d_PC_learnt_24 (by decide) (fun h_11 => ?_) (fun h_11 => ?_)
      · refine lv_aload_n hx hb d_PC_learnt_39 rfl (lv_at hl 0 rfl) ?_
        refine va_get (D := D) (ci := 0) (v := .ref a0) (C := R_PC) (T := F_PC) (N := 9) hx hb hts i_PC hown hK hP 0 rfl rfl 1 (by decide) (hts _ q_257) (fun _ h9 => h9) rfl d_PC_learnt_40 ?_
        refine va_get (D := D) (ci := 2) (v := .ref a11) (C := R_PA) (T := F_PA) (N := 12) hx hb hts i_PA hown hK hP 1 rfl rfl 11 (by decide) (hts _ q_78) (fun _ h9 => h9) rfl d_PC_learnt_43 ?_
        refine lv_iload_n hx hb d_PC_learnt_46 rfl (lv_at hl 1 rfl) ?_
        refine my_ldI hx hb hK hP 3 rfl j_3 rfl (by omega) (by decide) d_PC_learnt_47 ?_
        exact W.iret (v := (GR j_3)) hx hb hr (fun tT ht hW => ⟨(GR j_3), rfl, (by unfold gLe; rw [if_neg hg_6, if_neg h_10, if_neg h_11, nI_clamp (by omega)]), ht⟩) (fun q h => absurd h List.not_mem_nil) d_PC_learnt_48
      · refine lv_aload_n hx hb d_PC_learnt_27 rfl (lv_at hl 0 rfl) ?_
        refine va_get (D := D) (ci := 0) (v := .ref a0) (C := R_PC) (T := F_PC) (N := 9) hx hb hts i_PC hown hK hP 0 rfl rfl 1 (by decide) (hts _ q_257) (fun _ h9 => h9) rfl d_PC_learnt_28 ?_
        refine va_get (D := D) (ci := 2) (v := .ref a10) (C := R_PA) (T := F_PA) (N := 12) hx hb hts i_PA hown hK hP 1 rfl rfl 10 (by decide) (hts _ q_76) (fun _ h9 => h9) rfl d_PC_learnt_31 ?_
        refine lv_iload_n hx hb d_PC_learnt_34 rfl (lv_at hl 1 rfl) ?_
        refine my_ldI hx hb hK hP 2 rfl j_3 rfl (by omega) (by decide) d_PC_learnt_35 ?_
        refine lv_goto (tgt := 48) hx hb d_PC_learnt_36 (by decide) ?_
        exact W.iret (v := (LE j_3)) hx hb hr (fun tT ht hW => ⟨(LE j_3), rfl, (by unfold gLe; rw [if_neg hg_6, if_neg h_10, if_pos h_11, nI_clamp (by omega)]), ht⟩) (fun q h => absurd h List.not_mem_nil) d_PC_learnt_48
    · refine lv_bipush (v := (-2)) hx hb d_PC_learnt_20 (by decide) ?_
      exact W.iret (v := (-2)) hx hb hr (fun tT ht hW => ⟨(-2), rfl, (by unfold gLe; rw [if_neg hg_6, if_pos h_10]), ht⟩) (fun q h => absurd h List.not_mem_nil) d_PC_learnt_22

set_option maxHeartbeats 4000000 in
set_option maxRecDepth 100000 in
theorem e_PC_about (l : Launch) (D : va_G) (cI cZ : ClassId) (x : Nat) (i : Int32) (z : Int32) (f0 : Nat) (a0 : Nat) (r0 : Nat) (w0 : Nat) (g0 : Nat) (k0 : Nat) (tm : Int32) (gp : Int32) (lk : Int32) (np : Nat) (a1 : Nat) (a2 : Nat) (a3 : Nat) (a4 : Nat) (a5 : Nat) (a6 : Nat) (a7 : Nat) (a8 : Nat) (a9 : Nat) (a10 : Nat) (a11 : Nat) (EP : Nat → Nat) (ST : Nat → Nat) (PH : Nat → Int32) (EN : Nat → Int32) (sz : Nat) (h_np : np ≤ 12) (h_EP : ∀ zz, EP zz ≤ 6) (h_ST : ∀ zz, ST zz ≤ 64) : Met l ⟨"PromiseChains", "about", "(II)I"⟩ (mw ⟨"PromiseChains", "about", "(II)I"⟩ prog_1_method_16_code 3 (some .int)) ({ frames := 2, cells := 0, slots := 0, locals := 43 }) (va_Pc [.ref x, .int i, .int z] (PB D cI cZ sz [(x, .inr (0, [.ref f0, .ref a0, .ref r0, .ref w0, .ref g0, .ref k0, .int tm, .int gp, .int lk])), (a0, .inr (2, [.int (nI np), .ref a1, .ref a2, .ref a3, .ref a4, .ref a5, .ref a6, .ref a7, .ref a8, .ref a9, .ref a10, .ref a11])), (a1, .inl (cI, 24, .inl (fun zy => nI (EP zy)))), (a5, .inl (cI, 12, .inl (fun zy => nI (ST zy)))), (a6, .inl (cI, 12, .inl PH)), (a7, .inl (cI, 12, .inl EN))])) (vp_Si (fun r => r = gAB np EP PH ST EN i z)) 0 0 (fun _ => False) := by
  refine Met.ofW (cc := prog_1_method_16_code) (maxL := 3) (ret := (some .int)) (by decide) rfl ?_
  intro p e s m args below meth c s₁ B hml hv
  obtain ⟨rfl, hsz, hP, hK, hD0, hN⟩ := hv
  have hx := B.exec
  have hb := B.bytes
  have hr := B.returns
  have hts0 := atoms_spec (ws := mw ⟨"PromiseChains", "about", "(II)I"⟩ prog_1_method_16_code 3 (some .int)) B.pre
  have hts : ∀ w ∈ tblG, w.before _ s = true := fun w h => hts0 w (List.mem_cons_of_mem _ h)
  have hown : s.vm.findClass "PromiseChains" = some m.cls := findClass_of_methodNamed B.named
  have hlocks := B.notSynchronized
  subst hsz
  have hD := hD0
  have hP : va_P D vwCl [(x, .inr (0, [.ref f0, .ref a0, .ref r0, .ref w0, .ref g0, .ref k0, .int tm, .int gp, .int lk])), (a0, .inr (2, [.int (nI np), .ref a1, .ref a2, .ref a3, .ref a4, .ref a5, .ref a6, .ref a7, .ref a8, .ref a9, .ref a10, .ref a11])), (a1, .inl (cI, 24, .inl (fun zy => nI (EP zy)))), (a5, .inl (cI, 12, .inl (fun zy => nI (ST zy)))), (a6, .inl (cI, 12, .inl PH)), (a7, .inl (cI, 12, .inl EN))] s.heap := hP
  have hl := lv_entry ([.ref x, .int i, .int z]) (n := 3) (Nat.le_of_ble_eq_true rfl)
  rw [lg_entry_eq]
  generalize (lg_sl ([.ref x, .int i, .int z]) ++ List.replicate (3 - (lg_sl ([.ref x, .int i, .int z])).length) Slot.unset).toArray = ls at hl ⊢
  have hl : lv_has ls 3 [(0, .ref x), (1, .int i), (2, .int z)] := hl
  refine lv_aload_n hx hb d_PC_about_0 rfl (lv_at hl 0 rfl) ?_
  refine va_get (D := D) (ci := 0) (v := .ref a0) (C := R_PC) (T := F_PC) (N := 9) hx hb hts i_PC hown hK hP 0 rfl rfl 1 (by decide) (hts _ q_257) (fun _ h9 => h9) rfl d_PC_about_1 ?_
  refine lv_iload_n hx hb d_PC_about_4 rfl (lv_at hl 1 rfl) ?_
  have hPc := hP.sub (ws' := [(a0, .inr (2, [.int (nI np), .ref a1, .ref a2, .ref a3, .ref a4, .ref a5, .ref a6, .ref a7, .ref a8, .ref a9, .ref a10, .ref a11]))]) [1] rfl
  have hDc := hD.sub (ws' := [(a0, .inr (2, [.int (nI np), .ref a1, .ref a2, .ref a3, .ref a4, .ref a5, .ref a6, .ref a7, .ref a8, .ref a9, .ref a10, .ref a11]))]) [1] (by decide +kernel) rfl
  refine vp_callSi (va_Run.run (va_runV (As := [.int i]) (rest := []) ⟨hx, hb, hml, hown, hts⟩ (e_PA_has l D cI cZ a0 i np a1 a2 a3 a4 a5 a6 a7 a8 a9 a10 a11 s.heap.size h_np) (my_cwV 1 hts q_486 q_483 q_484 q_485 q_3 rfl rfl (by decide +kernel) ⟨Nat.le_of_ble_eq_true rfl, Nat.le_of_ble_eq_true rfl⟩) (my_preV hPc hDc hK hN 2 0 rfl rfl) rfl rfl hl.1 rfl (lv_room (Nat.le_of_ble_eq_true rfl)) d_PC_about_5 ⟨Nat.le_of_ble_eq_true rfl, Nat.le_of_ble_eq_true rfl⟩)) (fun r_1 hw_1 => ?_)
  rcases hw_1 with ⟨hg_2, rfl⟩ | ⟨j_3, hg_4, hg_5, hg_6, rfl⟩
  · have hg_2 : isw i 0 (nI np - 1) = 0 := hg_2
    refine lv_if_ne (tgt := 14) hx hb d_PC_about_8 (by decide) (fun h => absurd h (by decide)) (fun _ => ?_)
    refine lv_bipush (v := (-2)) hx hb d_PC_about_11 (by decide) ?_
    exact W.iret (v := (-2)) hx hb hr (fun tT ht hW => ⟨(-2), rfl, (by unfold gAB; rw [if_pos hg_2]), ht⟩) (fun q h => absurd h List.not_mem_nil) d_PC_about_13
  · have hg_4 : j_3 < np := hg_4
    have hg_5 : i = nI j_3 := hg_5
    have hg_6 : ¬ isw i 0 (nI np - 1) = 0 := hg_6
    subst hg_5
    refine lv_if_ne (tgt := 14) hx hb d_PC_about_8 (by decide) (fun _ => ?_) (fun h => absurd h (by decide))
    refine lv_iload_n hx hb d_PC_about_14 rfl (lv_at hl 2 rfl) ?_
    by_cases hz_9 : z = 0
    · subst hz_9
      refine lv_tableIn (off := 33) (tgt := 48) hx hb d_PC_about_15 (by decide) (by decide) (by decide) (by decide) ?_
      refine lv_aload_n hx hb d_PC_about_48 rfl (lv_at hl 0 rfl) ?_
      refine va_get (D := D) (ci := 0) (v := .ref a0) (C := R_PC) (T := F_PC) (N := 9) hx hb hts i_PC hown hK hP 0 rfl rfl 1 (by decide) (hts _ q_257) (fun _ h9 => h9) rfl d_PC_about_49 ?_
      refine va_get (D := D) (ci := 2) (v := .ref a1) (C := R_PA) (T := F_PA) (N := 12) hx hb hts i_PA hown hK hP 1 rfl rfl 1 (by decide) (hts _ q_60) (fun _ h9 => h9) rfl d_PC_about_52 ?_
      refine lv_iconst (v := 2) hx hb d_PC_about_55 (by decide) ?_
      refine lv_iload_n hx hb d_PC_about_56 rfl (lv_at hl 1 rfl) ?_
      refine lv_imul hx hb d_PC_about_57 ?_
      refine lv_seti (nI (2 * j_3)) (pk_mul 2 j_3) ?_
      refine my_ldN hx hb hK hP 2 rfl (2 * j_3) rfl (by omega) (by decide) d_PC_about_58 ?_
      have hb_1 : EP (2 * j_3) ≤ 6 := h_EP _
      exact W.iret (v := (nI (EP (2 * j_3)))) hx hb hr (fun tT ht hW => ⟨(nI (EP (2 * j_3))), rfl, (by unfold gAB; rw [if_neg hg_6, nI_clamp (by omega)]; exact rfl), ht⟩) (fun q h => absurd h List.not_mem_nil) d_PC_about_59
    by_cases hz_10 : z = 1
    · subst hz_10
      refine lv_tableIn (off := 45) (tgt := 60) hx hb d_PC_about_15 (by decide) (by decide) (by decide) (by decide) ?_
      refine lv_aload_n hx hb d_PC_about_60 rfl (lv_at hl 0 rfl) ?_
      refine va_get (D := D) (ci := 0) (v := .ref a0) (C := R_PC) (T := F_PC) (N := 9) hx hb hts i_PC hown hK hP 0 rfl rfl 1 (by decide) (hts _ q_257) (fun _ h9 => h9) rfl d_PC_about_61 ?_
      refine va_get (D := D) (ci := 2) (v := .ref a1) (C := R_PA) (T := F_PA) (N := 12) hx hb hts i_PA hown hK hP 1 rfl rfl 1 (by decide) (hts _ q_60) (fun _ h9 => h9) rfl d_PC_about_64 ?_
      refine lv_iconst (v := 2) hx hb d_PC_about_67 (by decide) ?_
      refine lv_iload_n hx hb d_PC_about_68 rfl (lv_at hl 1 rfl) ?_
      refine lv_imul hx hb d_PC_about_69 ?_
      refine lv_seti (nI (2 * j_3)) (pk_mul 2 j_3) ?_
      refine lv_iconst (v := 1) hx hb d_PC_about_70 (by decide) ?_
      refine lv_iadd hx hb d_PC_about_71 ?_
      refine lv_seti (nI ((2 * j_3) + 1)) (nI_add (2 * j_3) 1) ?_
      refine my_ldN hx hb hK hP 2 rfl ((2 * j_3) + 1) rfl (by omega) (by decide) d_PC_about_72 ?_
      have hb_1 : EP ((2 * j_3) + 1) ≤ 6 := h_EP _
      exact W.iret (v := (nI (EP ((2 * j_3) + 1)))) hx hb hr (fun tT ht hW => ⟨(nI (EP ((2 * j_3) + 1))), rfl, (by unfold gAB; rw [if_neg hg_6, nI_clamp (by omega)]; exact rfl), ht⟩) (fun q h => absurd h List.not_mem_nil) d_PC_about_73
    by_cases hz_11 : z = 2
    · subst hz_11
      refine lv_tableIn (off := 59) (tgt := 74) hx hb d_PC_about_15 (by decide) (by decide) (by decide) (by decide) ?_
      refine lv_aload_n hx hb d_PC_about_74 rfl (lv_at hl 0 rfl) ?_
      refine va_get (D := D) (ci := 0) (v := .ref a0) (C := R_PC) (T := F_PC) (N := 9) hx hb hts i_PC hown hK hP 0 rfl rfl 1 (by decide) (hts _ q_257) (fun _ h9 => h9) rfl d_PC_about_75 ?_
      refine va_get (D := D) (ci := 2) (v := .ref a6) (C := R_PA) (T := F_PA) (N := 12) hx hb hts i_PA hown hK hP 1 rfl rfl 6 (by decide) (hts _ q_70) (fun _ h9 => h9) rfl d_PC_about_78 ?_
      refine lv_iload_n hx hb d_PC_about_81 rfl (lv_at hl 1 rfl) ?_
      refine my_ldI hx hb hK hP 4 rfl j_3 rfl (by omega) (by decide) d_PC_about_82 ?_
      exact W.iret (v := (PH j_3)) hx hb hr (fun tT ht hW => ⟨(PH j_3), rfl, (by unfold gAB; rw [if_neg hg_6, nI_clamp (by omega)]; exact rfl), ht⟩) (fun q h => absurd h List.not_mem_nil) d_PC_about_83
    by_cases hz_12 : z = 3
    · subst hz_12
      refine lv_tableIn (off := 69) (tgt := 84) hx hb d_PC_about_15 (by decide) (by decide) (by decide) (by decide) ?_
      refine lv_aload_n hx hb d_PC_about_84 rfl (lv_at hl 0 rfl) ?_
      refine va_get (D := D) (ci := 0) (v := .ref a0) (C := R_PC) (T := F_PC) (N := 9) hx hb hts i_PC hown hK hP 0 rfl rfl 1 (by decide) (hts _ q_257) (fun _ h9 => h9) rfl d_PC_about_85 ?_
      refine va_get (D := D) (ci := 2) (v := .ref a5) (C := R_PA) (T := F_PA) (N := 12) hx hb hts i_PA hown hK hP 1 rfl rfl 5 (by decide) (hts _ q_68) (fun _ h9 => h9) rfl d_PC_about_88 ?_
      refine lv_iload_n hx hb d_PC_about_91 rfl (lv_at hl 1 rfl) ?_
      refine my_ldN hx hb hK hP 3 rfl j_3 rfl (by omega) (by decide) d_PC_about_92 ?_
      have hb_1 : ST j_3 ≤ 64 := h_ST _
      exact W.iret (v := (nI (ST j_3))) hx hb hr (fun tT ht hW => ⟨(nI (ST j_3)), rfl, (by unfold gAB; rw [if_neg hg_6, nI_clamp (by omega)]; exact rfl), ht⟩) (fun q h => absurd h List.not_mem_nil) d_PC_about_93
    by_cases hz_13 : z = 4
    · subst hz_13
      refine lv_tableIn (off := 79) (tgt := 94) hx hb d_PC_about_15 (by decide) (by decide) (by decide) (by decide) ?_
      refine lv_aload_n hx hb d_PC_about_94 rfl (lv_at hl 0 rfl) ?_
      refine va_get (D := D) (ci := 0) (v := .ref a0) (C := R_PC) (T := F_PC) (N := 9) hx hb hts i_PC hown hK hP 0 rfl rfl 1 (by decide) (hts _ q_257) (fun _ h9 => h9) rfl d_PC_about_95 ?_
      refine va_get (D := D) (ci := 2) (v := .ref a6) (C := R_PA) (T := F_PA) (N := 12) hx hb hts i_PA hown hK hP 1 rfl rfl 6 (by decide) (hts _ q_70) (fun _ h9 => h9) rfl d_PC_about_98 ?_
      refine lv_iload_n hx hb d_PC_about_101 rfl (lv_at hl 1 rfl) ?_
      refine my_ldI hx hb hK hP 4 rfl j_3 rfl (by omega) (by decide) d_PC_about_102 ?_
      refine lv_iconst (v := 1) hx hb d_PC_about_103 (by decide) ?_
      refine lv_icmp_ne (tgt := 119) hx hb d_PC_about_104 (by decide) (fun h_14 => ?_) (fun h_14 => ?_)
      · refine lv_iconst (v := (-1)) hx hb d_PC_about_119 (by decide) ?_
        exact W.iret (v := (-1)) hx hb hr (fun tT ht hW => ⟨(-1), rfl, (by unfold gAB; rw [if_neg hg_6, nI_clamp (by omega)]; exact (by show _ = if PH _ = 1 then EN _ else (-1 : Int32); rw [if_neg h_14])), ht⟩) (fun q h => absurd h List.not_mem_nil) d_PC_about_120
      · refine lv_aload_n hx hb d_PC_about_107 rfl (lv_at hl 0 rfl) ?_
        refine va_get (D := D) (ci := 0) (v := .ref a0) (C := R_PC) (T := F_PC) (N := 9) hx hb hts i_PC hown hK hP 0 rfl rfl 1 (by decide) (hts _ q_257) (fun _ h9 => h9) rfl d_PC_about_108 ?_
        refine va_get (D := D) (ci := 2) (v := .ref a7) (C := R_PA) (T := F_PA) (N := 12) hx hb hts i_PA hown hK hP 1 rfl rfl 7 (by decide) (hts _ q_72) (fun _ h9 => h9) rfl d_PC_about_111 ?_
        refine lv_iload_n hx hb d_PC_about_114 rfl (lv_at hl 1 rfl) ?_
        refine my_ldI hx hb hK hP 5 rfl j_3 rfl (by omega) (by decide) d_PC_about_115 ?_
        refine lv_goto (tgt := 120) hx hb d_PC_about_116 (by decide) ?_
        exact W.iret (v := (EN j_3)) hx hb hr (fun tT ht hW => ⟨(EN j_3), rfl, (by unfold gAB; rw [if_neg hg_6, nI_clamp (by omega)]; exact (by show _ = if PH _ = 1 then EN _ else (-1 : Int32); rw [if_pos h_14])), ht⟩) (fun q h => absurd h List.not_mem_nil) d_PC_about_120
    refine lv_tableOut (tgt := 121) hx hb d_PC_about_15 (tb_out 5 (by decide) (fun j hj => by rcases (show j = 0 ∨ j = 1 ∨ j = 2 ∨ j = 3 ∨ j = 4 by omega) with rfl | rfl | rfl | rfl | rfl <;> assumption)) (by decide) ?_
    refine lv_bipush (v := (-2)) hx hb d_PC_about_121 (by decide) ?_
    exact W.iret (v := (-2)) hx hb hr (fun tT ht hW => ⟨(-2), rfl, (by unfold gAB; rw [if_neg hg_6, nI_clamp (by omega)]; exact (by unfold gAC; rw [if_neg hz_9, if_neg hz_10, if_neg hz_11, if_neg hz_12, if_neg hz_13])), ht⟩) (fun q h => absurd h List.not_mem_nil) d_PC_about_123

set_option maxHeartbeats 4000000 in
set_option maxRecDepth 100000 in
theorem e_PC_stateAt (l : Launch) (D : va_G) (cI cZ : ClassId) (x : Nat) (i : Int32) (y : Int32) (z : Int32) (f0 : Nat) (a0 : Nat) (r0 : Nat) (w0 : Nat) (g0 : Nat) (k0 : Nat) (tm : Int32) (gp : Int32) (lk : Int32) (np : Nat) (a1 : Nat) (a2 : Nat) (a3 : Nat) (a4 : Nat) (a5 : Nat) (a6 : Nat) (a7 : Nat) (a8 : Nat) (a9 : Nat) (a10 : Nat) (a11 : Nat) (SS : Nat → Int32) (ST : Nat → Nat) (sz : Nat) (h_np : np ≤ 12) (h_ST : ∀ zz, ST zz ≤ 64) : Met l ⟨"PromiseChains", "stateAt", "(III)I"⟩ (mw ⟨"PromiseChains", "stateAt", "(III)I"⟩ prog_1_method_17_code 4 (some .int)) ({ frames := 2, cells := 0, slots := 0, locals := 43 }) (va_Pc [.ref x, .int i, .int y, .int z] (PB D cI cZ sz [(x, .inr (0, [.ref f0, .ref a0, .ref r0, .ref w0, .ref g0, .ref k0, .int tm, .int gp, .int lk])), (a0, .inr (2, [.int (nI np), .ref a1, .ref a2, .ref a3, .ref a4, .ref a5, .ref a6, .ref a7, .ref a8, .ref a9, .ref a10, .ref a11])), (a4, .inl (cI, 1536, .inl SS)), (a5, .inl (cI, 12, .inl (fun zy => nI (ST zy))))])) (vp_Si (fun r => True)) 0 0 (fun _ => False) := by
  refine Met.ofW (cc := prog_1_method_17_code) (maxL := 4) (ret := (some .int)) (by decide) rfl ?_
  intro p e s m args below meth c s₁ B hml hv
  obtain ⟨rfl, hsz, hP, hK, hD0, hN⟩ := hv
  have hx := B.exec
  have hb := B.bytes
  have hr := B.returns
  have hts0 := atoms_spec (ws := mw ⟨"PromiseChains", "stateAt", "(III)I"⟩ prog_1_method_17_code 4 (some .int)) B.pre
  have hts : ∀ w ∈ tblG, w.before _ s = true := fun w h => hts0 w (List.mem_cons_of_mem _ h)
  have hown : s.vm.findClass "PromiseChains" = some m.cls := findClass_of_methodNamed B.named
  have hlocks := B.notSynchronized
  subst hsz
  have hD := hD0
  have hP : va_P D vwCl [(x, .inr (0, [.ref f0, .ref a0, .ref r0, .ref w0, .ref g0, .ref k0, .int tm, .int gp, .int lk])), (a0, .inr (2, [.int (nI np), .ref a1, .ref a2, .ref a3, .ref a4, .ref a5, .ref a6, .ref a7, .ref a8, .ref a9, .ref a10, .ref a11])), (a4, .inl (cI, 1536, .inl SS)), (a5, .inl (cI, 12, .inl (fun zy => nI (ST zy))))] s.heap := hP
  have hl := lv_entry ([.ref x, .int i, .int y, .int z]) (n := 4) (Nat.le_of_ble_eq_true rfl)
  rw [lg_entry_eq]
  generalize (lg_sl ([.ref x, .int i, .int y, .int z]) ++ List.replicate (4 - (lg_sl ([.ref x, .int i, .int y, .int z])).length) Slot.unset).toArray = ls at hl ⊢
  have hl : lv_has ls 4 [(0, .ref x), (1, .int i), (2, .int y), (3, .int z)] := hl
  refine lv_aload_n hx hb d_PC_stateAt_0 rfl (lv_at hl 0 rfl) ?_
  refine va_get (D := D) (ci := 0) (v := .ref a0) (C := R_PC) (T := F_PC) (N := 9) hx hb hts i_PC hown hK hP 0 rfl rfl 1 (by decide) (hts _ q_257) (fun _ h9 => h9) rfl d_PC_stateAt_1 ?_
  refine lv_iload_n hx hb d_PC_stateAt_4 rfl (lv_at hl 1 rfl) ?_
  have hPc := hP.sub (ws' := [(a0, .inr (2, [.int (nI np), .ref a1, .ref a2, .ref a3, .ref a4, .ref a5, .ref a6, .ref a7, .ref a8, .ref a9, .ref a10, .ref a11]))]) [1] rfl
  have hDc := hD.sub (ws' := [(a0, .inr (2, [.int (nI np), .ref a1, .ref a2, .ref a3, .ref a4, .ref a5, .ref a6, .ref a7, .ref a8, .ref a9, .ref a10, .ref a11]))]) [1] (by decide +kernel) rfl
  refine vp_callSi (va_Run.run (va_runV (As := [.int i]) (rest := []) ⟨hx, hb, hml, hown, hts⟩ (e_PA_has l D cI cZ a0 i np a1 a2 a3 a4 a5 a6 a7 a8 a9 a10 a11 s.heap.size h_np) (my_cwV 1 hts q_486 q_483 q_484 q_485 q_3 rfl rfl (by decide +kernel) ⟨Nat.le_of_ble_eq_true rfl, Nat.le_of_ble_eq_true rfl⟩) (my_preV hPc hDc hK hN 2 0 rfl rfl) rfl rfl hl.1 rfl (lv_room (Nat.le_of_ble_eq_true rfl)) d_PC_stateAt_5 ⟨Nat.le_of_ble_eq_true rfl, Nat.le_of_ble_eq_true rfl⟩)) (fun r_1 hw_1 => ?_)
  rcases hw_1 with ⟨hg_2, rfl⟩ | ⟨j_3, hg_4, hg_5, hg_6, rfl⟩
  · have hg_2 : isw i 0 (nI np - 1) = 0 := hg_2
    refine lv_if_eq (tgt := 24) hx hb d_PC_stateAt_8 (by decide) (fun _ => ?_) (fun h => absurd h (by decide))
    refine lv_bipush (v := (-2)) hx hb d_PC_stateAt_24 (by decide) ?_
    exact W.iret (v := (-2)) hx hb hr (fun tT ht hW => ⟨(-2), rfl, trivial, ht⟩) (fun q h => absurd h List.not_mem_nil) d_PC_stateAt_26
  · have hg_4 : j_3 < np := hg_4
    have hg_5 : i = nI j_3 := hg_5
    have hg_6 : ¬ isw i 0 (nI np - 1) = 0 := hg_6
    subst hg_5
    refine lv_if_eq (tgt := 24) hx hb d_PC_stateAt_8 (by decide) (fun h => absurd h (by decide)) (fun _ => ?_)
    refine lv_iload_n hx hb d_PC_stateAt_11 rfl (lv_at hl 2 rfl) ?_
    refine lv_if_lt (tgt := 24) hx hb d_PC_stateAt_12 (by decide) (fun h_9 => ?_) (fun h_9 => ?_)
    · refine lv_bipush (v := (-2)) hx hb d_PC_stateAt_24 (by decide) ?_
      exact W.iret (v := (-2)) hx hb hr (fun tT ht hW => ⟨(-2), rfl, trivial, ht⟩) (fun q h => absurd h List.not_mem_nil) d_PC_stateAt_26
    · refine lv_iload_n hx hb d_PC_stateAt_15 rfl (lv_at hl 3 rfl) ?_
      refine lv_iconst (v := 0) hx hb d_PC_stateAt_16 (by decide) ?_
      refine lv_iconst (v := 1) hx hb d_PC_stateAt_17 (by decide) ?_
      have hPc := hP.sub (ws' := []) [] rfl
      have hDc := hD.sub (ws' := []) [] (by decide +kernel) rfl
      refine vp_callSi (va_Run.run (va_runS (As := [.int z, .int 0, .int 1]) (rest := []) ⟨hx, hb, hml, hown, hts⟩ (e_within l D cI cZ z 0 1 s.heap.size ) (my_cwS 3 hts q_290 q_288 q_289 q_1 rfl rfl (by decide +kernel) ⟨Nat.le_of_ble_eq_true rfl, Nat.le_of_ble_eq_true rfl⟩) (my_preS hPc hDc hK hN) rfl rfl hl.1 rfl (lv_room (Nat.le_of_ble_eq_true rfl)) d_PC_stateAt_18 ⟨Nat.le_of_ble_eq_true rfl, Nat.le_of_ble_eq_true rfl⟩)) (fun r_10 hw_10 => ?_)
      have hf_10_0 : r_10 = isw z 0 1 := hw_10
      have hf_10_0 : r_10 = isw z 0 1 := hf_10_0
      subst hf_10_0
      refine lv_if_ne (tgt := 27) hx hb d_PC_stateAt_21 (by decide) (fun h_11 => ?_) (fun h_11 => ?_)
      · obtain ⟨t_12, hx_13, rfl⟩ := isw_lo (K := 1) (by decide) rfl h_11
        obtain ⟨m0, hm0, rfl⟩ := nI_of h_9
        refine lv_iload_n hx hb d_PC_stateAt_27 rfl (lv_at hl 2 rfl) ?_
        refine lv_aload_n hx hb d_PC_stateAt_28 rfl (lv_at hl 0 rfl) ?_
        refine va_get (D := D) (ci := 0) (v := .ref a0) (C := R_PC) (T := F_PC) (N := 9) hx hb hts i_PC hown hK hP 0 rfl rfl 1 (by decide) (hts _ q_257) (fun _ h9 => h9) rfl d_PC_stateAt_29 ?_
        refine va_get (D := D) (ci := 2) (v := .ref a5) (C := R_PA) (T := F_PA) (N := 12) hx hb hts i_PA hown hK hP 1 rfl rfl 5 (by decide) (hts _ q_68) (fun _ h9 => h9) rfl d_PC_stateAt_32 ?_
        refine lv_iload_n hx hb d_PC_stateAt_35 rfl (lv_at hl 1 rfl) ?_
        refine my_ldN hx hb hK hP 3 rfl j_3 rfl (by omega) (by decide) d_PC_stateAt_36 ?_
        have hb_1 : ST j_3 ≤ 64 := h_ST _
        refine lv_icmp_lt (tgt := 42) hx hb d_PC_stateAt_37 (by decide) (fun h_14 => ?_) (fun h_14 => ?_)
        · have nh_14 : m0 < (ST j_3) := (nI_ltI (a := m0) (b := (ST j_3)) (by omega) (by omega)).mp h_14
          refine lv_aload_n hx hb d_PC_stateAt_42 rfl (lv_at hl 0 rfl) ?_
          refine va_get (D := D) (ci := 0) (v := .ref a0) (C := R_PC) (T := F_PC) (N := 9) hx hb hts i_PC hown hK hP 0 rfl rfl 1 (by decide) (hts _ q_257) (fun _ h9 => h9) rfl d_PC_stateAt_43 ?_
          refine lv_iload_n hx hb d_PC_stateAt_46 rfl (lv_at hl 1 rfl) ?_
          refine lv_iload_n hx hb d_PC_stateAt_47 rfl (lv_at hl 2 rfl) ?_
          refine lv_iload_n hx hb d_PC_stateAt_48 rfl (lv_at hl 3 rfl) ?_
          have hPc := hP.sub (ws' := [(a0, .inr (2, [.int (nI np), .ref a1, .ref a2, .ref a3, .ref a4, .ref a5, .ref a6, .ref a7, .ref a8, .ref a9, .ref a10, .ref a11])), (a4, .inl (cI, 1536, .inl SS))]) [1, 2] rfl
          have hDc := hD.sub (ws' := [(a0, .inr (2, [.int (nI np), .ref a1, .ref a2, .ref a3, .ref a4, .ref a5, .ref a6, .ref a7, .ref a8, .ref a9, .ref a10, .ref a11])), (a4, .inl (cI, 1536, .inl SS))]) [1, 2] (by decide +kernel) rfl
          refine vp_callSi (va_Run.run (va_runV (As := [.int (nI j_3), .int (nI m0), .int (nI t_12)]) (rest := []) ⟨hx, hb, hml, hown, hts⟩ (e_PA_sideInState l D cI cZ a0 j_3 m0 t_12 np a1 a2 a3 a4 a5 a6 a7 a8 a9 a10 a11 SS s.heap.size h_np (by first | omega | (dsimp only; omega)) (by first | omega | (dsimp only; omega)) (by first | omega | (dsimp only; omega))) (my_cwV 3 hts q_372 q_500 q_370 q_371 q_3 rfl rfl (by decide +kernel) ⟨Nat.le_of_ble_eq_true rfl, Nat.le_of_ble_eq_true rfl⟩) (my_preV hPc hDc hK hN 2 0 rfl rfl) rfl rfl hl.1 rfl (lv_room (Nat.le_of_ble_eq_true rfl)) d_PC_stateAt_49 ⟨Nat.le_of_ble_eq_true rfl, Nat.le_of_ble_eq_true rfl⟩)) (fun r_15 hw_15 => ?_)
          have hf_15_0 : r_15 = (SS ((2 * ((j_3 * 64) + m0)) + t_12)) := hw_15
          have hf_15_0 : r_15 = (SS ((2 * ((j_3 * 64) + m0)) + t_12)) := hf_15_0
          subst hf_15_0
          exact W.iret (v := (SS ((2 * ((j_3 * 64) + m0)) + t_12))) hx hb hr (fun tT ht hW => ⟨(SS ((2 * ((j_3 * 64) + m0)) + t_12)), rfl, trivial, ht⟩) (fun q h => absurd h List.not_mem_nil) d_PC_stateAt_52
        · have nh_14 : ¬ m0 < (ST j_3) := fun qZ => h_14 ((nI_ltI (a := m0) (b := (ST j_3)) (by omega) (by omega)).mpr qZ)
          refine lv_iconst (v := (-1)) hx hb d_PC_stateAt_40 (by decide) ?_
          exact W.iret (v := (-1)) hx hb hr (fun tT ht hW => ⟨(-1), rfl, trivial, ht⟩) (fun q h => absurd h List.not_mem_nil) d_PC_stateAt_41
      · refine lv_bipush (v := (-2)) hx hb d_PC_stateAt_24 (by decide) ?_
        exact W.iret (v := (-2)) hx hb hr (fun tT ht hW => ⟨(-2), rfl, trivial, ht⟩) (fun q h => absurd h List.not_mem_nil) d_PC_stateAt_26

set_option maxHeartbeats 4000000 in
set_option maxRecDepth 100000 in
theorem e_PC_wealth (l : Launch) (D : va_G) (cI cZ : ClassId) (x : Nat) (i : Int32) (f0 : Nat) (a0 : Nat) (r0 : Nat) (w0 : Nat) (g0 : Nat) (k0 : Nat) (tm : Int32) (gp : Int32) (lk : Int32) (nn : Nat) (f1 : Nat) (f2 : Nat) (f3 : Nat) (f4 : Nat) (FC : Nat → Int32) (np : Nat) (a1 : Nat) (a2 : Nat) (a3 : Nat) (a4 : Nat) (a5 : Nat) (a6 : Nat) (a7 : Nat) (a8 : Nat) (a9 : Nat) (a10 : Nat) (a11 : Nat) (EP : Nat → Nat) (SI : Nat → Int32) (LK : Nat → Int32) (sz : Nat) (h_nn : nn ≤ 7) (h_np : np ≤ 12) (h_EP : ∀ zz, EP zz ≤ 6) : Met l ⟨"PromiseChains", "wealth", "(I)I"⟩ (mw ⟨"PromiseChains", "wealth", "(I)I"⟩ prog_1_method_19_code 4 (some .int)) ({ frames := 2, cells := 0, slots := 0, locals := 43 }) (va_Pc [.ref x, .int i] (PB D cI cZ sz [(x, .inr (0, [.ref f0, .ref a0, .ref r0, .ref w0, .ref g0, .ref k0, .int tm, .int gp, .int lk])), (f0, .inr (1, [.int (nI nn), .ref f1, .ref f2, .ref f3, .ref f4])), (f1, .inl (cI, 7, .inl FC)), (a0, .inr (2, [.int (nI np), .ref a1, .ref a2, .ref a3, .ref a4, .ref a5, .ref a6, .ref a7, .ref a8, .ref a9, .ref a10, .ref a11])), (a1, .inl (cI, 24, .inl (fun zy => nI (EP zy)))), (a2, .inl (cI, 24, .inl SI)), (a3, .inl (cI, 24, .inl LK))])) (vp_Si (fun r => True)) 0 0 (fun _ => False) := by
  refine Met.ofW (cc := prog_1_method_19_code) (maxL := 4) (ret := (some .int)) (by decide) rfl ?_
  intro p e s m args below meth c s₁ B hml hv
  obtain ⟨rfl, hsz, hP, hK, hD0, hN⟩ := hv
  have hx := B.exec
  have hb := B.bytes
  have hr := B.returns
  have hts0 := atoms_spec (ws := mw ⟨"PromiseChains", "wealth", "(I)I"⟩ prog_1_method_19_code 4 (some .int)) B.pre
  have hts : ∀ w ∈ tblG, w.before _ s = true := fun w h => hts0 w (List.mem_cons_of_mem _ h)
  have hown : s.vm.findClass "PromiseChains" = some m.cls := findClass_of_methodNamed B.named
  have hlocks := B.notSynchronized
  subst hsz
  have hD := hD0
  have hP : va_P D vwCl [(x, .inr (0, [.ref f0, .ref a0, .ref r0, .ref w0, .ref g0, .ref k0, .int tm, .int gp, .int lk])), (f0, .inr (1, [.int (nI nn), .ref f1, .ref f2, .ref f3, .ref f4])), (f1, .inl (cI, 7, .inl FC)), (a0, .inr (2, [.int (nI np), .ref a1, .ref a2, .ref a3, .ref a4, .ref a5, .ref a6, .ref a7, .ref a8, .ref a9, .ref a10, .ref a11])), (a1, .inl (cI, 24, .inl (fun zy => nI (EP zy)))), (a2, .inl (cI, 24, .inl SI)), (a3, .inl (cI, 24, .inl LK))] s.heap := hP
  have hl := lv_entry ([.ref x, .int i]) (n := 4) (Nat.le_of_ble_eq_true rfl)
  rw [lg_entry_eq]
  generalize (lg_sl ([.ref x, .int i]) ++ List.replicate (4 - (lg_sl ([.ref x, .int i])).length) Slot.unset).toArray = ls at hl ⊢
  have hl : lv_has ls 4 [(0, .ref x), (1, .int i)] := hl
  refine lv_aload_n hx hb d_PC_wealth_0 rfl (lv_at hl 0 rfl) ?_
  refine va_get (D := D) (ci := 0) (v := .ref f0) (C := R_PC) (T := F_PC) (N := 9) hx hb hts i_PC hown hK hP 0 rfl rfl 0 (by decide) (hts _ q_256) (fun _ h9 => h9) rfl d_PC_wealth_1 ?_
  refine lv_iload_n hx hb d_PC_wealth_4 rfl (lv_at hl 1 rfl) ?_
  have hPc := hP.sub (ws' := [(f0, .inr (1, [.int (nI nn), .ref f1, .ref f2, .ref f3, .ref f4]))]) [1] rfl
  have hDc := hD.sub (ws' := [(f0, .inr (1, [.int (nI nn), .ref f1, .ref f2, .ref f3, .ref f4]))]) [1] (by decide +kernel) rfl
  refine vp_callSi (va_Run.run (va_runV (As := [.int i]) (rest := []) ⟨hx, hb, hml, hown, hts⟩ (e_PE_has l D cI cZ f0 i nn f1 f2 f3 f4 s.heap.size h_nn) (my_cwV 1 hts q_302 q_299 q_300 q_301 q_2 rfl rfl (by decide +kernel) ⟨Nat.le_of_ble_eq_true rfl, Nat.le_of_ble_eq_true rfl⟩) (my_preV hPc hDc hK hN 1 0 rfl rfl) rfl rfl hl.1 rfl (lv_room (Nat.le_of_ble_eq_true rfl)) d_PC_wealth_5 ⟨Nat.le_of_ble_eq_true rfl, Nat.le_of_ble_eq_true rfl⟩)) (fun r_1 hw_1 => ?_)
  rcases hw_1 with ⟨hg_2, rfl⟩ | ⟨j_3, hg_4, hg_5, hg_6, rfl⟩
  · have hg_2 : isw i 0 (nI nn - 1) = 0 := hg_2
    refine lv_if_ne (tgt := 14) hx hb d_PC_wealth_8 (by decide) (fun h => absurd h (by decide)) (fun _ => ?_)
    refine lv_bipush (v := (-2)) hx hb d_PC_wealth_11 (by decide) ?_
    exact W.iret (v := (-2)) hx hb hr (fun tT ht hW => ⟨(-2), rfl, trivial, ht⟩) (fun q h => absurd h List.not_mem_nil) d_PC_wealth_13
  · have hg_4 : j_3 < nn := hg_4
    have hg_5 : i = nI j_3 := hg_5
    have hg_6 : ¬ isw i 0 (nI nn - 1) = 0 := hg_6
    subst hg_5
    refine lv_if_ne (tgt := 14) hx hb d_PC_wealth_8 (by decide) (fun _ => ?_) (fun h => absurd h (by decide))
    refine lv_aload_n hx hb d_PC_wealth_14 rfl (lv_at hl 0 rfl) ?_
    refine va_get (D := D) (ci := 0) (v := .ref f0) (C := R_PC) (T := F_PC) (N := 9) hx hb hts i_PC hown hK hP 0 rfl rfl 0 (by decide) (hts _ q_256) (fun _ h9 => h9) rfl d_PC_wealth_15 ?_
    refine va_get (D := D) (ci := 1) (v := .ref f1) (C := R_PE) (T := F_PE) (N := 5) hx hb hts i_PE hown hK hP 1 rfl rfl 1 (by decide) (hts _ q_28) (fun _ h9 => h9) rfl d_PC_wealth_18 ?_
    refine lv_iload_n hx hb d_PC_wealth_21 rfl (lv_at hl 1 rfl) ?_
    refine my_ldI hx hb hK hP 2 rfl j_3 rfl (by omega) (by decide) d_PC_wealth_22 ?_
    refine lv_istore_n (lv' := [(2, .int (FC j_3)), (0, .ref x), (1, .int (nI j_3))]) hx hb d_PC_wealth_23 rfl hl (by decide) rfl (fun ls hl => ?_)
    refine lv_iconst (v := 0) hx hb d_PC_wealth_24 (by decide) ?_
    refine lv_istore_n (lv' := [(3, .int 0), (2, .int (FC j_3)), (0, .ref x), (1, .int (nI j_3))]) hx hb d_PC_wealth_25 rfl hl (by decide) rfl (fun ls hl => ?_)
    refine W_loop (σ := Nat × Int32) (I := fun xX H locs ls => xX.1 ≤ 2 * np ∧ H = s.heap ∧ locs = [] ∧ lv_has ls 4 [(3, .int (nI xX.1)), (2, .int xX.2), (1, .int (nI j_3)), (0, .ref x)]) (μ := fun xX => 25 - xX.1) ?_ (0, (FC j_3)) ⟨(by first | omega | (dsimp only; omega)), rfl, rfl, lv_sub hl [0, 1, 3, 2] rfl⟩
    intro xX H_9 locs ls hI ih1
    obtain ⟨k_l, sm_v⟩ := xX
    obtain ⟨hk, rfl, rfl, hl⟩ := hI
    have hl : lv_has ls 4 [(3, .int (nI k_l)), (2, .int sm_v), (1, .int (nI j_3)), (0, .ref x)] := hl
    have hk : k_l ≤ 2 * np := hk
    refine lv_iload_n hx hb d_PC_wealth_26 rfl (lv_at hl 0 rfl) ?_
    refine lv_iconst (v := 2) hx hb d_PC_wealth_27 (by decide) ?_
    refine lv_aload_n hx hb d_PC_wealth_28 rfl (lv_at hl 3 rfl) ?_
    refine va_get (D := D) (ci := 0) (v := .ref a0) (C := R_PC) (T := F_PC) (N := 9) hx hb hts i_PC hown hK hP 0 rfl rfl 1 (by decide) (hts _ q_257) (fun _ h9 => h9) rfl d_PC_wealth_29 ?_
    refine va_get (D := D) (ci := 2) (v := .int (nI np)) (C := R_PA) (T := F_PA) (N := 12) hx hb hts i_PA hown hK hP 3 rfl rfl 0 (by decide) (hts _ q_57) (fun _ h9 => h9) rfl d_PC_wealth_32 ?_
    refine lv_imul hx hb d_PC_wealth_35 ?_
    refine lv_seti (nI (2 * np)) (pk_mul 2 np) ?_
    refine lv_icmp_ge (tgt := 80) hx hb d_PC_wealth_36 (by decide) (fun h_10 => ?_) (fun h_10 => ?_)
    · have nh_10 : (2 * np) ≤ k_l := (nI_leI (a := (2 * np)) (b := k_l) (by omega) (by omega)).mp h_10
      refine lv_iload_n hx hb d_PC_wealth_80 rfl (lv_at hl 1 rfl) ?_
      exact W.iret (v := sm_v) hx hb hr (fun tT ht hW => ⟨sm_v, rfl, trivial, ht⟩) (fun q h => absurd h List.not_mem_nil) d_PC_wealth_81
    · have nh_10 : ¬ (2 * np) ≤ k_l := fun qZ => h_10 ((nI_leI (a := (2 * np)) (b := k_l) (by omega) (by omega)).mpr qZ)
      refine lv_aload_n hx hb d_PC_wealth_39 rfl (lv_at hl 3 rfl) ?_
      refine va_get (D := D) (ci := 0) (v := .ref a0) (C := R_PC) (T := F_PC) (N := 9) hx hb hts i_PC hown hK hP 0 rfl rfl 1 (by decide) (hts _ q_257) (fun _ h9 => h9) rfl d_PC_wealth_40 ?_
      refine va_get (D := D) (ci := 2) (v := .ref a1) (C := R_PA) (T := F_PA) (N := 12) hx hb hts i_PA hown hK hP 3 rfl rfl 1 (by decide) (hts _ q_60) (fun _ h9 => h9) rfl d_PC_wealth_43 ?_
      refine lv_iload_n hx hb d_PC_wealth_46 rfl (lv_at hl 0 rfl) ?_
      refine my_ldN hx hb hK hP 4 rfl k_l rfl (by omega) (by decide) d_PC_wealth_47 ?_
      have hb_1 : EP k_l ≤ 6 := h_EP _
      refine lv_iload_n hx hb d_PC_wealth_48 rfl (lv_at hl 2 rfl) ?_
      refine lv_icmp_ne (tgt := 74) hx hb d_PC_wealth_49 (by decide) (fun h_11 => ?_) (fun h_11 => ?_)
      · have nh_11 : ¬ (EP k_l) = j_3 := fun qZ => h_11 ((nI_eq (a := (EP k_l)) (b := j_3) (by omega) (by omega)).mpr qZ)
        refine lv_iinc (v := nI (k_l + 1)) (lv' := [(3, .int (nI (k_l + 1))), (2, .int sm_v), (1, .int (nI j_3)), (0, .ref x)]) hx hb d_PC_wealth_74 hl (k := 0) rfl (nI_1 k_l) (by decide) rfl (fun ls hl => ?_)
        refine lv_goto (tgt := 26) hx hb d_PC_wealth_77 (by decide) ?_
        exact ih1 ((k_l + 1), sm_v) _ _ _ (by first | omega | (dsimp only; omega)) ⟨(by first | omega | (dsimp only; omega)), rfl, rfl, lv_sub hl [0, 1, 2, 3] rfl⟩
      · have nh_11 : (EP k_l) = j_3 := (nI_eq (a := (EP k_l)) (b := j_3) (by omega) (by omega)).mp h_11
        refine lv_iload_n hx hb d_PC_wealth_52 rfl (lv_at hl 1 rfl) ?_
        refine lv_aload_n hx hb d_PC_wealth_53 rfl (lv_at hl 3 rfl) ?_
        refine va_get (D := D) (ci := 0) (v := .ref a0) (C := R_PC) (T := F_PC) (N := 9) hx hb hts i_PC hown hK hP 0 rfl rfl 1 (by decide) (hts _ q_257) (fun _ h9 => h9) rfl d_PC_wealth_54 ?_
        refine va_get (D := D) (ci := 2) (v := .ref a2) (C := R_PA) (T := F_PA) (N := 12) hx hb hts i_PA hown hK hP 3 rfl rfl 2 (by decide) (hts _ q_63) (fun _ h9 => h9) rfl d_PC_wealth_57 ?_
        refine lv_iload_n hx hb d_PC_wealth_60 rfl (lv_at hl 0 rfl) ?_
        refine my_ldI hx hb hK hP 5 rfl k_l rfl (by omega) (by decide) d_PC_wealth_61 ?_
        refine lv_aload_n hx hb d_PC_wealth_62 rfl (lv_at hl 3 rfl) ?_
        refine va_get (D := D) (ci := 0) (v := .ref a0) (C := R_PC) (T := F_PC) (N := 9) hx hb hts i_PC hown hK hP 0 rfl rfl 1 (by decide) (hts _ q_257) (fun _ h9 => h9) rfl d_PC_wealth_63 ?_
        refine va_get (D := D) (ci := 2) (v := .ref a3) (C := R_PA) (T := F_PA) (N := 12) hx hb hts i_PA hown hK hP 3 rfl rfl 3 (by decide) (hts _ q_65) (fun _ h9 => h9) rfl d_PC_wealth_66 ?_
        refine lv_iload_n hx hb d_PC_wealth_69 rfl (lv_at hl 0 rfl) ?_
        refine my_ldI hx hb hK hP 6 rfl k_l rfl (by omega) (by decide) d_PC_wealth_70 ?_
        refine lv_iadd hx hb d_PC_wealth_71 ?_
        refine lv_iadd hx hb d_PC_wealth_72 ?_
        refine lv_istore_n (lv' := [(2, .int (sm_v + ((SI k_l) + (LK k_l)))), (3, .int (nI k_l)), (1, .int (nI j_3)), (0, .ref x)]) hx hb d_PC_wealth_73 rfl hl (by decide) rfl (fun ls hl => ?_)
        refine lv_iinc (v := nI (k_l + 1)) (lv' := [(3, .int (nI (k_l + 1))), (2, .int (sm_v + ((SI k_l) + (LK k_l)))), (1, .int (nI j_3)), (0, .ref x)]) hx hb d_PC_wealth_74 hl (k := 1) rfl (nI_1 k_l) (by decide) rfl (fun ls hl => ?_)
        refine lv_goto (tgt := 26) hx hb d_PC_wealth_77 (by decide) ?_
        exact ih1 ((k_l + 1), sm_v + ((SI k_l) + (LK k_l))) _ _ _ (by first | omega | (dsimp only; omega)) ⟨(by first | omega | (dsimp only; omega)), rfl, rfl, lv_sub hl [0, 1, 2, 3] rfl⟩

set_option maxHeartbeats 4000000 in
set_option maxRecDepth 100000 in
theorem e_PC_off (l : Launch) (D : va_G) (cI cZ : ClassId) (x : Nat) (f0 : Nat) (a0 : Nat) (r0 : Nat) (w0 : Nat) (g0 : Nat) (k0 : Nat) (tm : Int32) (gp : Int32) (lk : Int32) (np : Nat) (a1 : Nat) (a2 : Nat) (a3 : Nat) (a4 : Nat) (a5 : Nat) (a6 : Nat) (a7 : Nat) (a8 : Nat) (a9 : Nat) (a10 : Nat) (a11 : Nat) (SI : Nat → Int32) (PH : Nat → Int32) (sz : Nat) (h_np : np ≤ 12) : Met l ⟨"PromiseChains", "off", "()I"⟩ (mw ⟨"PromiseChains", "off", "()I"⟩ prog_1_method_20_code 1 (some .int)) ({ frames := 2, cells := 0, slots := 0, locals := 36 }) (va_Pc [.ref x] (PB D cI cZ sz [(x, .inr (0, [.ref f0, .ref a0, .ref r0, .ref w0, .ref g0, .ref k0, .int tm, .int gp, .int lk])), (a0, .inr (2, [.int (nI np), .ref a1, .ref a2, .ref a3, .ref a4, .ref a5, .ref a6, .ref a7, .ref a8, .ref a9, .ref a10, .ref a11])), (a2, .inl (cI, 24, .inl SI)), (a6, .inl (cI, 12, .inl PH))])) (vp_Si (fun r => r = sumO SI PH np)) 0 0 (fun _ => False) := by
  refine Met.ofW (cc := prog_1_method_20_code) (maxL := 1) (ret := (some .int)) (by decide) rfl ?_
  intro p e s m args below meth c s₁ B hml hv
  obtain ⟨rfl, hsz, hP, hK, hD0, hN⟩ := hv
  have hx := B.exec
  have hb := B.bytes
  have hr := B.returns
  have hts0 := atoms_spec (ws := mw ⟨"PromiseChains", "off", "()I"⟩ prog_1_method_20_code 1 (some .int)) B.pre
  have hts : ∀ w ∈ tblG, w.before _ s = true := fun w h => hts0 w (List.mem_cons_of_mem _ h)
  have hown : s.vm.findClass "PromiseChains" = some m.cls := findClass_of_methodNamed B.named
  have hlocks := B.notSynchronized
  subst hsz
  have hD := hD0
  have hP : va_P D vwCl [(x, .inr (0, [.ref f0, .ref a0, .ref r0, .ref w0, .ref g0, .ref k0, .int tm, .int gp, .int lk])), (a0, .inr (2, [.int (nI np), .ref a1, .ref a2, .ref a3, .ref a4, .ref a5, .ref a6, .ref a7, .ref a8, .ref a9, .ref a10, .ref a11])), (a2, .inl (cI, 24, .inl SI)), (a6, .inl (cI, 12, .inl PH))] s.heap := hP
  have hl := lv_entry ([.ref x]) (n := 1) (Nat.le_of_ble_eq_true rfl)
  rw [lg_entry_eq]
  generalize (lg_sl ([.ref x]) ++ List.replicate (1 - (lg_sl ([.ref x])).length) Slot.unset).toArray = ls at hl ⊢
  have hl : lv_has ls 1 [(0, .ref x)] := hl
  refine lv_aload_n hx hb d_PC_off_0 rfl (lv_at hl 0 rfl) ?_
  refine va_get (D := D) (ci := 0) (v := .ref a0) (C := R_PC) (T := F_PC) (N := 9) hx hb hts i_PC hown hK hP 0 rfl rfl 1 (by decide) (hts _ q_257) (fun _ h9 => h9) rfl d_PC_off_1 ?_
  have hPc := hP.sub (ws' := [(a0, .inr (2, [.int (nI np), .ref a1, .ref a2, .ref a3, .ref a4, .ref a5, .ref a6, .ref a7, .ref a8, .ref a9, .ref a10, .ref a11])), (a2, .inl (cI, 24, .inl SI)), (a6, .inl (cI, 12, .inl PH))]) [1, 2, 3] rfl
  have hDc := hD.sub (ws' := [(a0, .inr (2, [.int (nI np), .ref a1, .ref a2, .ref a3, .ref a4, .ref a5, .ref a6, .ref a7, .ref a8, .ref a9, .ref a10, .ref a11])), (a2, .inl (cI, 24, .inl SI)), (a6, .inl (cI, 12, .inl PH))]) [1, 2, 3] (by decide +kernel) rfl
  refine vp_callSi (va_Run.run (va_runV (As := []) (rest := []) ⟨hx, hb, hml, hown, hts⟩ (e_PA_sumOff l D cI cZ a0 np a1 a2 a3 a4 a5 a6 a7 a8 a9 a10 a11 SI PH s.heap.size h_np) (my_cwV 0 hts q_525 q_522 q_523 q_524 q_3 rfl rfl (by decide +kernel) ⟨Nat.le_of_ble_eq_true rfl, Nat.le_of_ble_eq_true rfl⟩) (my_preV hPc hDc hK hN 2 0 rfl rfl) rfl rfl hl.1 rfl (lv_room (Nat.le_of_ble_eq_true rfl)) d_PC_off_4 ⟨Nat.le_of_ble_eq_true rfl, Nat.le_of_ble_eq_true rfl⟩)) (fun r_1 hw_1 => ?_)
  have hf_1_0 : r_1 = sumO SI PH np := hw_1
  have hf_1_0 : r_1 = sumO SI PH np := hf_1_0
  exact W.iret (v := r_1) hx hb hr (fun tT ht hW => ⟨r_1, rfl, hf_1_0, ht⟩) (fun q h => absurd h List.not_mem_nil) d_PC_off_7

set_option maxHeartbeats 4000000 in
set_option maxRecDepth 100000 in
theorem e_PC_count (l : Launch) (D : va_G) (cI cZ : ClassId) (x : Nat) (z : Int32) (f0 : Nat) (a0 : Nat) (r0 : Nat) (w0 : Nat) (g0 : Nat) (k0 : Nat) (tm : Int32) (gp : Int32) (lk : Int32) (nn : Nat) (f1 : Nat) (f2 : Nat) (f3 : Nat) (f4 : Nat) (FA : Nat → Int32) (np : Nat) (a1 : Nat) (a2 : Nat) (a3 : Nat) (a4 : Nat) (a5 : Nat) (a6 : Nat) (a7 : Nat) (a8 : Nat) (a9 : Nat) (a10 : Nat) (a11 : Nat) (nq : Nat) (HA : Int32) (r1 : Nat) (r2 : Nat) (r3 : Nat) (r4 : Nat) (r5 : Nat) (r6 : Nat) (r7 : Nat) (r8 : Nat) (r9 : Nat) (r10 : Nat) (r11 : Nat) (sz : Nat) (h_nn : nn ≤ 7) (h_np : np ≤ 12) (h_nq : nq ≤ 40) : Met l ⟨"PromiseChains", "count", "(I)I"⟩ (mw ⟨"PromiseChains", "count", "(I)I"⟩ prog_1_method_25_code 2 (some .int)) ({ frames := 1, cells := 0, slots := 0, locals := 22 }) (va_Pc [.ref x, .int z] (PB D cI cZ sz [(x, .inr (0, [.ref f0, .ref a0, .ref r0, .ref w0, .ref g0, .ref k0, .int tm, .int gp, .int lk])), (f0, .inr (1, [.int (nI nn), .ref f1, .ref f2, .ref f3, .ref f4])), (f4, .inl (cZ, 7, .inl FA)), (a0, .inr (2, [.int (nI np), .ref a1, .ref a2, .ref a3, .ref a4, .ref a5, .ref a6, .ref a7, .ref a8, .ref a9, .ref a10, .ref a11])), (r0, .inr (3, [.int (nI nq), .int HA, .ref r1, .ref r2, .ref r3, .ref r4, .ref r5, .ref r6, .ref r7, .ref r8, .ref r9, .ref r10, .ref r11]))])) (vp_Si (fun r => r = gCt nn np nq HA tm gp lk (cntA FA nn) z)) 0 0 (fun _ => False) := by
  refine Met.ofW (cc := prog_1_method_25_code) (maxL := 2) (ret := (some .int)) (by decide) rfl ?_
  intro p e s m args below meth c s₁ B hml hv
  obtain ⟨rfl, hsz, hP, hK, hD0, hN⟩ := hv
  have hx := B.exec
  have hb := B.bytes
  have hr := B.returns
  have hts0 := atoms_spec (ws := mw ⟨"PromiseChains", "count", "(I)I"⟩ prog_1_method_25_code 2 (some .int)) B.pre
  have hts : ∀ w ∈ tblG, w.before _ s = true := fun w h => hts0 w (List.mem_cons_of_mem _ h)
  have hown : s.vm.findClass "PromiseChains" = some m.cls := findClass_of_methodNamed B.named
  have hlocks := B.notSynchronized
  subst hsz
  have hD := hD0
  have hP : va_P D vwCl [(x, .inr (0, [.ref f0, .ref a0, .ref r0, .ref w0, .ref g0, .ref k0, .int tm, .int gp, .int lk])), (f0, .inr (1, [.int (nI nn), .ref f1, .ref f2, .ref f3, .ref f4])), (f4, .inl (cZ, 7, .inl FA)), (a0, .inr (2, [.int (nI np), .ref a1, .ref a2, .ref a3, .ref a4, .ref a5, .ref a6, .ref a7, .ref a8, .ref a9, .ref a10, .ref a11])), (r0, .inr (3, [.int (nI nq), .int HA, .ref r1, .ref r2, .ref r3, .ref r4, .ref r5, .ref r6, .ref r7, .ref r8, .ref r9, .ref r10, .ref r11]))] s.heap := hP
  have hl := lv_entry ([.ref x, .int z]) (n := 2) (Nat.le_of_ble_eq_true rfl)
  rw [lg_entry_eq]
  generalize (lg_sl ([.ref x, .int z]) ++ List.replicate (2 - (lg_sl ([.ref x, .int z])).length) Slot.unset).toArray = ls at hl ⊢
  have hl : lv_has ls 2 [(0, .ref x), (1, .int z)] := hl
  refine lv_iload_n hx hb d_PC_count_0 rfl (lv_at hl 1 rfl) ?_
  by_cases hz_1 : z = 0
  · subst hz_1
    refine lv_tableIn (off := 47) (tgt := 48) hx hb d_PC_count_1 (by decide) (by decide) (by decide) (by decide) ?_
    refine lv_aload_n hx hb d_PC_count_48 rfl (lv_at hl 0 rfl) ?_
    refine va_get (D := D) (ci := 0) (v := .ref f0) (C := R_PC) (T := F_PC) (N := 9) hx hb hts i_PC hown hK hP 0 rfl rfl 0 (by decide) (hts _ q_256) (fun _ h9 => h9) rfl d_PC_count_49 ?_
    refine va_get (D := D) (ci := 1) (v := .int (nI nn)) (C := R_PE) (T := F_PE) (N := 5) hx hb hts i_PE hown hK hP 1 rfl rfl 0 (by decide) (hts _ q_25) (fun _ h9 => h9) rfl d_PC_count_52 ?_
    exact W.iret (v := (nI nn)) hx hb hr (fun tT ht hW => ⟨(nI nn), rfl, rfl, ht⟩) (fun q h => absurd h List.not_mem_nil) d_PC_count_55
  by_cases hz_2 : z = 1
  · subst hz_2
    refine lv_tableIn (off := 55) (tgt := 56) hx hb d_PC_count_1 (by decide) (by decide) (by decide) (by decide) ?_
    refine lv_aload_n hx hb d_PC_count_56 rfl (lv_at hl 0 rfl) ?_
    refine va_get (D := D) (ci := 0) (v := .ref a0) (C := R_PC) (T := F_PC) (N := 9) hx hb hts i_PC hown hK hP 0 rfl rfl 1 (by decide) (hts _ q_257) (fun _ h9 => h9) rfl d_PC_count_57 ?_
    refine va_get (D := D) (ci := 2) (v := .int (nI np)) (C := R_PA) (T := F_PA) (N := 12) hx hb hts i_PA hown hK hP 3 rfl rfl 0 (by decide) (hts _ q_57) (fun _ h9 => h9) rfl d_PC_count_60 ?_
    exact W.iret (v := (nI np)) hx hb hr (fun tT ht hW => ⟨(nI np), rfl, rfl, ht⟩) (fun q h => absurd h List.not_mem_nil) d_PC_count_63
  by_cases hz_3 : z = 2
  · subst hz_3
    refine lv_tableIn (off := 63) (tgt := 64) hx hb d_PC_count_1 (by decide) (by decide) (by decide) (by decide) ?_
    refine lv_aload_n hx hb d_PC_count_64 rfl (lv_at hl 0 rfl) ?_
    refine va_get (D := D) (ci := 0) (v := .ref r0) (C := R_PC) (T := F_PC) (N := 9) hx hb hts i_PC hown hK hP 0 rfl rfl 2 (by decide) (hts _ q_258) (fun _ h9 => h9) rfl d_PC_count_65 ?_
    refine va_get (D := D) (ci := 3) (v := .int (nI nq)) (C := R_PR) (T := F_PR) (N := 13) hx hb hts i_PR hown hK hP 4 rfl rfl 0 (by decide) (hts _ q_111) (fun _ h9 => h9) rfl d_PC_count_68 ?_
    exact W.iret (v := (nI nq)) hx hb hr (fun tT ht hW => ⟨(nI nq), rfl, rfl, ht⟩) (fun q h => absurd h List.not_mem_nil) d_PC_count_71
  by_cases hz_4 : z = 3
  · subst hz_4
    refine lv_tableIn (off := 71) (tgt := 72) hx hb d_PC_count_1 (by decide) (by decide) (by decide) (by decide) ?_
    refine lv_aload_n hx hb d_PC_count_72 rfl (lv_at hl 0 rfl) ?_
    refine va_get (D := D) (ci := 0) (v := .ref r0) (C := R_PC) (T := F_PC) (N := 9) hx hb hts i_PC hown hK hP 0 rfl rfl 2 (by decide) (hts _ q_258) (fun _ h9 => h9) rfl d_PC_count_73 ?_
    refine va_get (D := D) (ci := 3) (v := .int HA) (C := R_PR) (T := F_PR) (N := 13) hx hb hts i_PR hown hK hP 4 rfl rfl 1 (by decide) (hts _ q_113) (fun _ h9 => h9) rfl d_PC_count_76 ?_
    exact W.iret (v := HA) hx hb hr (fun tT ht hW => ⟨HA, rfl, rfl, ht⟩) (fun q h => absurd h List.not_mem_nil) d_PC_count_79
  by_cases hz_5 : z = 4
  · subst hz_5
    refine lv_tableIn (off := 79) (tgt := 80) hx hb d_PC_count_1 (by decide) (by decide) (by decide) (by decide) ?_
    refine lv_aload_n hx hb d_PC_count_80 rfl (lv_at hl 0 rfl) ?_
    refine va_get (D := D) (ci := 0) (v := .int tm) (C := R_PC) (T := F_PC) (N := 9) hx hb hts i_PC hown hK hP 0 rfl rfl 6 (by decide) (hts _ q_262) (fun _ h9 => h9) rfl d_PC_count_81 ?_
    exact W.iret (v := tm) hx hb hr (fun tT ht hW => ⟨tm, rfl, rfl, ht⟩) (fun q h => absurd h List.not_mem_nil) d_PC_count_84
  by_cases hz_6 : z = 5
  · subst hz_6
    refine lv_tableIn (off := 84) (tgt := 85) hx hb d_PC_count_1 (by decide) (by decide) (by decide) (by decide) ?_
    refine lv_aload_n hx hb d_PC_count_85 rfl (lv_at hl 0 rfl) ?_
    refine va_get (D := D) (ci := 0) (v := .int gp) (C := R_PC) (T := F_PC) (N := 9) hx hb hts i_PC hown hK hP 0 rfl rfl 7 (by decide) (hts _ q_263) (fun _ h9 => h9) rfl d_PC_count_86 ?_
    exact W.iret (v := gp) hx hb hr (fun tT ht hW => ⟨gp, rfl, rfl, ht⟩) (fun q h => absurd h List.not_mem_nil) d_PC_count_89
  by_cases hz_7 : z = 6
  · subst hz_7
    refine lv_tableIn (off := 89) (tgt := 90) hx hb d_PC_count_1 (by decide) (by decide) (by decide) (by decide) ?_
    refine lv_aload_n hx hb d_PC_count_90 rfl (lv_at hl 0 rfl) ?_
    refine va_get (D := D) (ci := 0) (v := .int lk) (C := R_PC) (T := F_PC) (N := 9) hx hb hts i_PC hown hK hP 0 rfl rfl 8 (by decide) (hts _ q_264) (fun _ h9 => h9) rfl d_PC_count_91 ?_
    exact W.iret (v := lk) hx hb hr (fun tT ht hW => ⟨lk, rfl, rfl, ht⟩) (fun q h => absurd h List.not_mem_nil) d_PC_count_94
  by_cases hz_8 : z = 7
  · subst hz_8
    refine lv_tableIn (off := 94) (tgt := 95) hx hb d_PC_count_1 (by decide) (by decide) (by decide) (by decide) ?_
    refine lv_aload_n hx hb d_PC_count_95 rfl (lv_at hl 0 rfl) ?_
    refine va_get (D := D) (ci := 0) (v := .ref f0) (C := R_PC) (T := F_PC) (N := 9) hx hb hts i_PC hown hK hP 0 rfl rfl 0 (by decide) (hts _ q_256) (fun _ h9 => h9) rfl d_PC_count_96 ?_
    have hPc := hP.sub (ws' := [(f0, .inr (1, [.int (nI nn), .ref f1, .ref f2, .ref f3, .ref f4])), (f4, .inl (cZ, 7, .inl FA))]) [1, 2] rfl
    have hDc := hD.sub (ws' := [(f0, .inr (1, [.int (nI nn), .ref f1, .ref f2, .ref f3, .ref f4])), (f4, .inl (cZ, 7, .inl FA))]) [1, 2] (by decide +kernel) rfl
    refine vp_callSi (va_Run.run (va_runV (As := []) (rest := []) ⟨hx, hb, hml, hown, hts⟩ (e_PE_howManyAway l D cI cZ f0 nn f1 f2 f3 f4 FA s.heap.size h_nn) (my_cwV 0 hts q_608 q_605 q_606 q_607 q_2 rfl rfl (by decide +kernel) ⟨Nat.le_of_ble_eq_true rfl, Nat.le_of_ble_eq_true rfl⟩) (my_preV hPc hDc hK hN 1 0 rfl rfl) rfl rfl hl.1 rfl (lv_room (Nat.le_of_ble_eq_true rfl)) d_PC_count_99 ⟨Nat.le_of_ble_eq_true rfl, Nat.le_of_ble_eq_true rfl⟩)) (fun r_9 hw_9 => ?_)
    have hf_9_0 : r_9 = cntA FA nn := hw_9
    have hf_9_0 : r_9 = cntA FA nn := hf_9_0
    exact W.iret (v := r_9) hx hb hr (fun tT ht hW => ⟨r_9, rfl, hf_9_0, ht⟩) (fun q h => absurd h List.not_mem_nil) d_PC_count_102
  refine lv_tableOut (tgt := 103) hx hb d_PC_count_1 (tb_out 8 (by decide) (fun j hj => by rcases (show j = 0 ∨ j = 1 ∨ j = 2 ∨ j = 3 ∨ j = 4 ∨ j = 5 ∨ j = 6 ∨ j = 7 by omega) with rfl | rfl | rfl | rfl | rfl | rfl | rfl | rfl <;> assumption)) (by decide) ?_
  refine lv_bipush (v := (-2)) hx hb d_PC_count_103 (by decide) ?_
  exact W.iret (v := (-2)) hx hb hr (fun tT ht hW => ⟨(-2), rfl, (by unfold gCt; rw [if_neg hz_1, if_neg hz_2, if_neg hz_3, if_neg hz_4, if_neg hz_5, if_neg hz_6, if_neg hz_7, if_neg hz_8]), ht⟩) (fun q h => absurd h List.not_mem_nil) d_PC_count_105

set_option maxHeartbeats 4000000 in
set_option maxRecDepth 100000 in
theorem e_PC_withPair (l : Launch) (D : va_G) (cI cZ : ClassId) (x : Nat) (h : Int64) (i : Int32) (f0 : Nat) (a0 : Nat) (r0 : Nat) (w0 : Nat) (g0 : Nat) (k0 : Nat) (tm : Int32) (gp : Int32) (lk : Int32) (np : Nat) (a1 : Nat) (a2 : Nat) (a3 : Nat) (a4 : Nat) (a5 : Nat) (a6 : Nat) (a7 : Nat) (a8 : Nat) (a9 : Nat) (a10 : Nat) (a11 : Nat) (EP : Nat → Nat) (SI : Nat → Int32) (LK : Nat → Int32) (ST : Nat → Nat) (PH : Nat → Int32) (EN : Nat → Int32) (LE : Nat → Int32) (GR : Nat → Int32) (sz : Nat) (h_np : np ≤ 12) (h_EP : ∀ zz, EP zz ≤ 6) (h_ST : ∀ zz, ST zz ≤ 64) : Met l ⟨"PromiseChains", "withPair", "(JI)J"⟩ (mw ⟨"PromiseChains", "withPair", "(JI)J"⟩ prog_1_method_27_code 7 (some .long)) ({ frames := 3, cells := 0, slots := 0, locals := 65 }) (va_Pc [.ref x, .long h, .int i] (PB D cI cZ sz [(x, .inr (0, [.ref f0, .ref a0, .ref r0, .ref w0, .ref g0, .ref k0, .int tm, .int gp, .int lk])), (a0, .inr (2, [.int (nI np), .ref a1, .ref a2, .ref a3, .ref a4, .ref a5, .ref a6, .ref a7, .ref a8, .ref a9, .ref a10, .ref a11])), (a1, .inl (cI, 24, .inl (fun zy => nI (EP zy)))), (a2, .inl (cI, 24, .inl SI)), (a3, .inl (cI, 24, .inl LK)), (a5, .inl (cI, 12, .inl (fun zy => nI (ST zy)))), (a6, .inl (cI, 12, .inl PH)), (a7, .inl (cI, 12, .inl EN)), (a10, .inl (cI, 12, .inl LE)), (a11, .inl (cI, 12, .inl GR))])) (vp_Sl (fun r => True)) 0 0 (fun _ => False) := by
  refine Met.ofW (cc := prog_1_method_27_code) (maxL := 7) (ret := (some .long)) (by decide) rfl ?_
  intro p e s m args below meth c s₁ B hml hv
  obtain ⟨rfl, hsz, hP, hK, hD0, hN⟩ := hv
  have hx := B.exec
  have hb := B.bytes
  have hr := B.returns
  have hts0 := atoms_spec (ws := mw ⟨"PromiseChains", "withPair", "(JI)J"⟩ prog_1_method_27_code 7 (some .long)) B.pre
  have hts : ∀ w ∈ tblG, w.before _ s = true := fun w h => hts0 w (List.mem_cons_of_mem _ h)
  have hown : s.vm.findClass "PromiseChains" = some m.cls := findClass_of_methodNamed B.named
  have hlocks := B.notSynchronized
  subst hsz
  have hD := hD0
  have hP : va_P D vwCl [(x, .inr (0, [.ref f0, .ref a0, .ref r0, .ref w0, .ref g0, .ref k0, .int tm, .int gp, .int lk])), (a0, .inr (2, [.int (nI np), .ref a1, .ref a2, .ref a3, .ref a4, .ref a5, .ref a6, .ref a7, .ref a8, .ref a9, .ref a10, .ref a11])), (a1, .inl (cI, 24, .inl (fun zy => nI (EP zy)))), (a2, .inl (cI, 24, .inl SI)), (a3, .inl (cI, 24, .inl LK)), (a5, .inl (cI, 12, .inl (fun zy => nI (ST zy)))), (a6, .inl (cI, 12, .inl PH)), (a7, .inl (cI, 12, .inl EN)), (a10, .inl (cI, 12, .inl LE)), (a11, .inl (cI, 12, .inl GR))] s.heap := hP
  have hl := lv_entry ([.ref x, .long h, .int i]) (n := 7) (Nat.le_of_ble_eq_true rfl)
  rw [lg_entry_eq]
  generalize (lg_sl ([.ref x, .long h, .int i]) ++ List.replicate (7 - (lg_sl ([.ref x, .long h, .int i])).length) Slot.unset).toArray = ls at hl ⊢
  have hl : lv_has ls 7 [(0, .ref x), (1, .long h), (3, .int i)] := hl
  refine lv_lload_n hx hb d_PC_withPair_0 rfl (lv_at hl 1 rfl) ?_
  refine lv_lstore (lv' := [(4, .long h), (0, .ref x), (1, .long h), (3, .int i)]) hx hb d_PC_withPair_1 hl (by decide) rfl (fun ls hl => ?_)
  refine lv_iconst (v := 0) hx hb d_PC_withPair_3 (by decide) ?_
  refine lv_istore (lv' := [(6, .int 0), (4, .long h), (0, .ref x), (1, .long h), (3, .int i)]) hx hb d_PC_withPair_4 hl (by decide) rfl (fun ls hl => ?_)
  refine W_loop (σ := Nat × Int64) (I := fun xX H locs ls => xX.1 ≤ 5 ∧ H = s.heap ∧ locs = [] ∧ lv_has ls 7 [(6, .int (nI xX.1)), (4, .long xX.2), (3, .int i), (0, .ref x)]) (μ := fun xX => 6 - xX.1) ?_ (0, h) ⟨(by first | omega | (dsimp only; omega)), rfl, rfl, lv_sub hl [0, 1, 4, 2] rfl⟩
  intro xX H_1 locs ls hI ih1
  obtain ⟨k_l, hh_v⟩ := xX
  obtain ⟨hk, rfl, rfl, hl⟩ := hI
  have hl : lv_has ls 7 [(6, .int (nI k_l)), (4, .long hh_v), (3, .int i), (0, .ref x)] := hl
  have hk : k_l ≤ 5 := hk
  refine lv_iload hx hb d_PC_withPair_6 (lv_at hl 0 rfl) ?_
  refine lv_iconst (v := 4) hx hb d_PC_withPair_8 (by decide) ?_
  refine lv_icmp_gt (tgt := 35) hx hb d_PC_withPair_9 (by decide) (fun h_2 => ?_) (fun h_2 => ?_)
  · have nh_2 : 4 < k_l := (nI_ltI (a := 4) (b := k_l) (by omega) (by omega)).mp h_2
    refine lv_ldc2 hx hb hown (hts _ q_614) d_PC_withPair_35 ?_
    refine lv_lload hx hb d_PC_withPair_38 (lv_at hl 1 rfl) ?_
    refine lv_lmul hx hb d_PC_withPair_40 ?_
    refine lv_aload_n hx hb d_PC_withPair_41 rfl (lv_at hl 3 rfl) ?_
    refine lv_iload_n hx hb d_PC_withPair_42 rfl (lv_at hl 2 rfl) ?_
    refine lv_iconst (v := 0) hx hb d_PC_withPair_43 (by decide) ?_
    have hPc := hP.sub (ws' := [(x, .inr (0, [.ref f0, .ref a0, .ref r0, .ref w0, .ref g0, .ref k0, .int tm, .int gp, .int lk])), (a0, .inr (2, [.int (nI np), .ref a1, .ref a2, .ref a3, .ref a4, .ref a5, .ref a6, .ref a7, .ref a8, .ref a9, .ref a10, .ref a11])), (a2, .inl (cI, 24, .inl SI))]) [0, 1, 3] rfl
    have hDc := hD.sub (ws' := [(x, .inr (0, [.ref f0, .ref a0, .ref r0, .ref w0, .ref g0, .ref k0, .int tm, .int gp, .int lk])), (a0, .inr (2, [.int (nI np), .ref a1, .ref a2, .ref a3, .ref a4, .ref a5, .ref a6, .ref a7, .ref a8, .ref a9, .ref a10, .ref a11])), (a2, .inl (cI, 24, .inl SI))]) [0, 1, 3] (by decide +kernel) rfl
    refine vp_callSi (va_Run.run (va_runV (As := [.int i, .int 0]) (rest := [.long (31 * hh_v)]) ⟨hx, hb, hml, hown, hts⟩ (e_PC_side l D cI cZ x i 0 f0 a0 r0 w0 g0 k0 tm gp lk np a1 a2 a3 a4 a5 a6 a7 a8 a9 a10 a11 SI s.heap.size h_np) (my_cwV 2 hts q_482 q_622 q_480 q_481 q_1 rfl rfl (by decide +kernel) ⟨Nat.le_of_ble_eq_true rfl, Nat.le_of_ble_eq_true rfl⟩) (my_preV hPc hDc hK hN 0 0 rfl rfl) rfl rfl hl.1 rfl (lv_room (Nat.le_of_ble_eq_true rfl)) d_PC_withPair_44 ⟨Nat.le_of_ble_eq_true rfl, Nat.le_of_ble_eq_true rfl⟩)) (fun r_3 hw_3 => ?_)
    have hf_3_0 : r_3 = gSd np SI i 0 := hw_3
    have hf_3_0 : r_3 = gSd np SI i 0 := hf_3_0
    refine lv_i2l hx hb d_PC_withPair_47 rfl ?_
    refine lv_ladd hx hb d_PC_withPair_48 ?_
    refine lv_lstore (lv' := [(4, .long ((31 * hh_v) + r_3.toInt64)), (6, .int (nI k_l)), (3, .int i), (0, .ref x)]) hx hb d_PC_withPair_49 hl (by decide) rfl (fun ls hl => ?_)
    refine lv_ldc2 hx hb hown (hts _ q_614) d_PC_withPair_51 ?_
    refine lv_lload hx hb d_PC_withPair_54 (lv_at hl 0 rfl) ?_
    refine lv_lmul hx hb d_PC_withPair_56 ?_
    refine lv_aload_n hx hb d_PC_withPair_57 rfl (lv_at hl 3 rfl) ?_
    refine lv_iload_n hx hb d_PC_withPair_58 rfl (lv_at hl 2 rfl) ?_
    refine lv_iconst (v := 1) hx hb d_PC_withPair_59 (by decide) ?_
    have hPc := hP.sub (ws' := [(x, .inr (0, [.ref f0, .ref a0, .ref r0, .ref w0, .ref g0, .ref k0, .int tm, .int gp, .int lk])), (a0, .inr (2, [.int (nI np), .ref a1, .ref a2, .ref a3, .ref a4, .ref a5, .ref a6, .ref a7, .ref a8, .ref a9, .ref a10, .ref a11])), (a2, .inl (cI, 24, .inl SI))]) [0, 1, 3] rfl
    have hDc := hD.sub (ws' := [(x, .inr (0, [.ref f0, .ref a0, .ref r0, .ref w0, .ref g0, .ref k0, .int tm, .int gp, .int lk])), (a0, .inr (2, [.int (nI np), .ref a1, .ref a2, .ref a3, .ref a4, .ref a5, .ref a6, .ref a7, .ref a8, .ref a9, .ref a10, .ref a11])), (a2, .inl (cI, 24, .inl SI))]) [0, 1, 3] (by decide +kernel) rfl
    refine vp_callSi (va_Run.run (va_runV (As := [.int i, .int 1]) (rest := [.long (31 * ((31 * hh_v) + r_3.toInt64))]) ⟨hx, hb, hml, hown, hts⟩ (e_PC_side l D cI cZ x i 1 f0 a0 r0 w0 g0 k0 tm gp lk np a1 a2 a3 a4 a5 a6 a7 a8 a9 a10 a11 SI s.heap.size h_np) (my_cwV 2 hts q_482 q_622 q_480 q_481 q_1 rfl rfl (by decide +kernel) ⟨Nat.le_of_ble_eq_true rfl, Nat.le_of_ble_eq_true rfl⟩) (my_preV hPc hDc hK hN 0 0 rfl rfl) rfl rfl hl.1 rfl (lv_room (Nat.le_of_ble_eq_true rfl)) d_PC_withPair_60 ⟨Nat.le_of_ble_eq_true rfl, Nat.le_of_ble_eq_true rfl⟩)) (fun r_4 hw_4 => ?_)
    have hf_4_0 : r_4 = gSd np SI i 1 := hw_4
    have hf_4_0 : r_4 = gSd np SI i 1 := hf_4_0
    refine lv_i2l hx hb d_PC_withPair_63 rfl ?_
    refine lv_ladd hx hb d_PC_withPair_64 ?_
    refine lv_lstore (lv' := [(4, .long ((31 * ((31 * hh_v) + r_3.toInt64)) + r_4.toInt64)), (6, .int (nI k_l)), (3, .int i), (0, .ref x)]) hx hb d_PC_withPair_65 hl (by decide) rfl (fun ls hl => ?_)
    refine lv_ldc2 hx hb hown (hts _ q_614) d_PC_withPair_67 ?_
    refine lv_lload hx hb d_PC_withPair_70 (lv_at hl 0 rfl) ?_
    refine lv_lmul hx hb d_PC_withPair_72 ?_
    refine lv_aload_n hx hb d_PC_withPair_73 rfl (lv_at hl 3 rfl) ?_
    refine lv_iload_n hx hb d_PC_withPair_74 rfl (lv_at hl 2 rfl) ?_
    refine lv_iconst (v := 0) hx hb d_PC_withPair_75 (by decide) ?_
    have hPc := hP.sub (ws' := [(x, .inr (0, [.ref f0, .ref a0, .ref r0, .ref w0, .ref g0, .ref k0, .int tm, .int gp, .int lk])), (a0, .inr (2, [.int (nI np), .ref a1, .ref a2, .ref a3, .ref a4, .ref a5, .ref a6, .ref a7, .ref a8, .ref a9, .ref a10, .ref a11])), (a3, .inl (cI, 24, .inl LK))]) [0, 1, 4] rfl
    have hDc := hD.sub (ws' := [(x, .inr (0, [.ref f0, .ref a0, .ref r0, .ref w0, .ref g0, .ref k0, .int tm, .int gp, .int lk])), (a0, .inr (2, [.int (nI np), .ref a1, .ref a2, .ref a3, .ref a4, .ref a5, .ref a6, .ref a7, .ref a8, .ref a9, .ref a10, .ref a11])), (a3, .inl (cI, 24, .inl LK))]) [0, 1, 4] (by decide +kernel) rfl
    refine vp_callSi (va_Run.run (va_runV (As := [.int i, .int 0]) (rest := [.long (31 * ((31 * ((31 * hh_v) + r_3.toInt64)) + r_4.toInt64))]) ⟨hx, hb, hml, hown, hts⟩ (e_PC_locked l D cI cZ x i 0 f0 a0 r0 w0 g0 k0 tm gp lk np a1 a2 a3 a4 a5 a6 a7 a8 a9 a10 a11 LK s.heap.size h_np) (my_cwV 2 hts q_491 q_623 q_489 q_490 q_1 rfl rfl (by decide +kernel) ⟨Nat.le_of_ble_eq_true rfl, Nat.le_of_ble_eq_true rfl⟩) (my_preV hPc hDc hK hN 0 0 rfl rfl) rfl rfl hl.1 rfl (lv_room (Nat.le_of_ble_eq_true rfl)) d_PC_withPair_76 ⟨Nat.le_of_ble_eq_true rfl, Nat.le_of_ble_eq_true rfl⟩)) (fun r_5 hw_5 => ?_)
    have hf_5_0 : r_5 = gSd np LK i 0 := hw_5
    have hf_5_0 : r_5 = gSd np LK i 0 := hf_5_0
    refine lv_i2l hx hb d_PC_withPair_79 rfl ?_
    refine lv_ladd hx hb d_PC_withPair_80 ?_
    refine lv_lstore (lv' := [(4, .long ((31 * ((31 * ((31 * hh_v) + r_3.toInt64)) + r_4.toInt64)) + r_5.toInt64)), (6, .int (nI k_l)), (3, .int i), (0, .ref x)]) hx hb d_PC_withPair_81 hl (by decide) rfl (fun ls hl => ?_)
    refine lv_ldc2 hx hb hown (hts _ q_614) d_PC_withPair_83 ?_
    refine lv_lload hx hb d_PC_withPair_86 (lv_at hl 0 rfl) ?_
    refine lv_lmul hx hb d_PC_withPair_88 ?_
    refine lv_aload_n hx hb d_PC_withPair_89 rfl (lv_at hl 3 rfl) ?_
    refine lv_iload_n hx hb d_PC_withPair_90 rfl (lv_at hl 2 rfl) ?_
    refine lv_iconst (v := 1) hx hb d_PC_withPair_91 (by decide) ?_
    have hPc := hP.sub (ws' := [(x, .inr (0, [.ref f0, .ref a0, .ref r0, .ref w0, .ref g0, .ref k0, .int tm, .int gp, .int lk])), (a0, .inr (2, [.int (nI np), .ref a1, .ref a2, .ref a3, .ref a4, .ref a5, .ref a6, .ref a7, .ref a8, .ref a9, .ref a10, .ref a11])), (a3, .inl (cI, 24, .inl LK))]) [0, 1, 4] rfl
    have hDc := hD.sub (ws' := [(x, .inr (0, [.ref f0, .ref a0, .ref r0, .ref w0, .ref g0, .ref k0, .int tm, .int gp, .int lk])), (a0, .inr (2, [.int (nI np), .ref a1, .ref a2, .ref a3, .ref a4, .ref a5, .ref a6, .ref a7, .ref a8, .ref a9, .ref a10, .ref a11])), (a3, .inl (cI, 24, .inl LK))]) [0, 1, 4] (by decide +kernel) rfl
    refine vp_callSi (va_Run.run (va_runV (As := [.int i, .int 1]) (rest := [.long (31 * ((31 * ((31 * ((31 * hh_v) + r_3.toInt64)) + r_4.toInt64)) + r_5.toInt64))]) ⟨hx, hb, hml, hown, hts⟩ (e_PC_locked l D cI cZ x i 1 f0 a0 r0 w0 g0 k0 tm gp lk np a1 a2 a3 a4 a5 a6 a7 a8 a9 a10 a11 LK s.heap.size h_np) (my_cwV 2 hts q_491 q_623 q_489 q_490 q_1 rfl rfl (by decide +kernel) ⟨Nat.le_of_ble_eq_true rfl, Nat.le_of_ble_eq_true rfl⟩) (my_preV hPc hDc hK hN 0 0 rfl rfl) rfl rfl hl.1 rfl (lv_room (Nat.le_of_ble_eq_true rfl)) d_PC_withPair_92 ⟨Nat.le_of_ble_eq_true rfl, Nat.le_of_ble_eq_true rfl⟩)) (fun r_6 hw_6 => ?_)
    have hf_6_0 : r_6 = gSd np LK i 1 := hw_6
    have hf_6_0 : r_6 = gSd np LK i 1 := hf_6_0
    refine lv_i2l hx hb d_PC_withPair_95 rfl ?_
    refine lv_ladd hx hb d_PC_withPair_96 ?_
    refine lv_lstore (lv' := [(4, .long ((31 * ((31 * ((31 * ((31 * hh_v) + r_3.toInt64)) + r_4.toInt64)) + r_5.toInt64)) + r_6.toInt64)), (6, .int (nI k_l)), (3, .int i), (0, .ref x)]) hx hb d_PC_withPair_97 hl (by decide) rfl (fun ls hl => ?_)
    refine lv_ldc2 hx hb hown (hts _ q_614) d_PC_withPair_99 ?_
    refine lv_lload hx hb d_PC_withPair_102 (lv_at hl 0 rfl) ?_
    refine lv_lmul hx hb d_PC_withPair_104 ?_
    refine lv_aload_n hx hb d_PC_withPair_105 rfl (lv_at hl 3 rfl) ?_
    refine lv_iload_n hx hb d_PC_withPair_106 rfl (lv_at hl 2 rfl) ?_
    refine lv_iconst (v := 0) hx hb d_PC_withPair_107 (by decide) ?_
    have hPc := hP.sub (ws' := [(x, .inr (0, [.ref f0, .ref a0, .ref r0, .ref w0, .ref g0, .ref k0, .int tm, .int gp, .int lk])), (a0, .inr (2, [.int (nI np), .ref a1, .ref a2, .ref a3, .ref a4, .ref a5, .ref a6, .ref a7, .ref a8, .ref a9, .ref a10, .ref a11])), (a10, .inl (cI, 12, .inl LE)), (a11, .inl (cI, 12, .inl GR))]) [0, 1, 8, 9] rfl
    have hDc := hD.sub (ws' := [(x, .inr (0, [.ref f0, .ref a0, .ref r0, .ref w0, .ref g0, .ref k0, .int tm, .int gp, .int lk])), (a0, .inr (2, [.int (nI np), .ref a1, .ref a2, .ref a3, .ref a4, .ref a5, .ref a6, .ref a7, .ref a8, .ref a9, .ref a10, .ref a11])), (a10, .inl (cI, 12, .inl LE)), (a11, .inl (cI, 12, .inl GR))]) [0, 1, 8, 9] (by decide +kernel) rfl
    refine vp_callSi (va_Run.run (va_runV (As := [.int i, .int 0]) (rest := [.long (31 * ((31 * ((31 * ((31 * ((31 * hh_v) + r_3.toInt64)) + r_4.toInt64)) + r_5.toInt64)) + r_6.toInt64))]) ⟨hx, hb, hml, hown, hts⟩ (e_PC_learnt l D cI cZ x i 0 f0 a0 r0 w0 g0 k0 tm gp lk np a1 a2 a3 a4 a5 a6 a7 a8 a9 a10 a11 LE GR s.heap.size h_np) (my_cwV 2 hts q_600 q_624 q_598 q_599 q_1 rfl rfl (by decide +kernel) ⟨Nat.le_of_ble_eq_true rfl, Nat.le_of_ble_eq_true rfl⟩) (my_preV hPc hDc hK hN 0 0 rfl rfl) rfl rfl hl.1 rfl (lv_room (Nat.le_of_ble_eq_true rfl)) d_PC_withPair_108 ⟨Nat.le_of_ble_eq_true rfl, Nat.le_of_ble_eq_true rfl⟩)) (fun r_7 hw_7 => ?_)
    have hf_7_0 : r_7 = gLe np LE GR i 0 := hw_7
    have hf_7_0 : r_7 = gLe np LE GR i 0 := hf_7_0
    refine lv_i2l hx hb d_PC_withPair_111 rfl ?_
    refine lv_ladd hx hb d_PC_withPair_112 ?_
    refine lv_lstore (lv' := [(4, .long ((31 * ((31 * ((31 * ((31 * ((31 * hh_v) + r_3.toInt64)) + r_4.toInt64)) + r_5.toInt64)) + r_6.toInt64)) + r_7.toInt64)), (6, .int (nI k_l)), (3, .int i), (0, .ref x)]) hx hb d_PC_withPair_113 hl (by decide) rfl (fun ls hl => ?_)
    refine lv_ldc2 hx hb hown (hts _ q_614) d_PC_withPair_115 ?_
    refine lv_lload hx hb d_PC_withPair_118 (lv_at hl 0 rfl) ?_
    refine lv_lmul hx hb d_PC_withPair_120 ?_
    refine lv_aload_n hx hb d_PC_withPair_121 rfl (lv_at hl 3 rfl) ?_
    refine lv_iload_n hx hb d_PC_withPair_122 rfl (lv_at hl 2 rfl) ?_
    refine lv_iconst (v := 1) hx hb d_PC_withPair_123 (by decide) ?_
    have hPc := hP.sub (ws' := [(x, .inr (0, [.ref f0, .ref a0, .ref r0, .ref w0, .ref g0, .ref k0, .int tm, .int gp, .int lk])), (a0, .inr (2, [.int (nI np), .ref a1, .ref a2, .ref a3, .ref a4, .ref a5, .ref a6, .ref a7, .ref a8, .ref a9, .ref a10, .ref a11])), (a10, .inl (cI, 12, .inl LE)), (a11, .inl (cI, 12, .inl GR))]) [0, 1, 8, 9] rfl
    have hDc := hD.sub (ws' := [(x, .inr (0, [.ref f0, .ref a0, .ref r0, .ref w0, .ref g0, .ref k0, .int tm, .int gp, .int lk])), (a0, .inr (2, [.int (nI np), .ref a1, .ref a2, .ref a3, .ref a4, .ref a5, .ref a6, .ref a7, .ref a8, .ref a9, .ref a10, .ref a11])), (a10, .inl (cI, 12, .inl LE)), (a11, .inl (cI, 12, .inl GR))]) [0, 1, 8, 9] (by decide +kernel) rfl
    refine vp_callSi (va_Run.run (va_runV (As := [.int i, .int 1]) (rest := [.long (31 * ((31 * ((31 * ((31 * ((31 * ((31 * hh_v) + r_3.toInt64)) + r_4.toInt64)) + r_5.toInt64)) + r_6.toInt64)) + r_7.toInt64))]) ⟨hx, hb, hml, hown, hts⟩ (e_PC_learnt l D cI cZ x i 1 f0 a0 r0 w0 g0 k0 tm gp lk np a1 a2 a3 a4 a5 a6 a7 a8 a9 a10 a11 LE GR s.heap.size h_np) (my_cwV 2 hts q_600 q_624 q_598 q_599 q_1 rfl rfl (by decide +kernel) ⟨Nat.le_of_ble_eq_true rfl, Nat.le_of_ble_eq_true rfl⟩) (my_preV hPc hDc hK hN 0 0 rfl rfl) rfl rfl hl.1 rfl (lv_room (Nat.le_of_ble_eq_true rfl)) d_PC_withPair_124 ⟨Nat.le_of_ble_eq_true rfl, Nat.le_of_ble_eq_true rfl⟩)) (fun r_8 hw_8 => ?_)
    have hf_8_0 : r_8 = gLe np LE GR i 1 := hw_8
    have hf_8_0 : r_8 = gLe np LE GR i 1 := hf_8_0
    refine lv_i2l hx hb d_PC_withPair_127 rfl ?_
    refine lv_ladd hx hb d_PC_withPair_128 ?_
    exact W.lret (v := ((31 * ((31 * ((31 * ((31 * ((31 * ((31 * hh_v) + r_3.toInt64)) + r_4.toInt64)) + r_5.toInt64)) + r_6.toInt64)) + r_7.toInt64)) + r_8.toInt64)) hx hb hr (fun tT ht hW => ⟨((31 * ((31 * ((31 * ((31 * ((31 * ((31 * hh_v) + r_3.toInt64)) + r_4.toInt64)) + r_5.toInt64)) + r_6.toInt64)) + r_7.toInt64)) + r_8.toInt64), rfl, trivial, ht⟩) (fun q h => absurd h List.not_mem_nil) d_PC_withPair_129
  · have nh_2 : ¬ 4 < k_l := fun qZ => h_2 ((nI_ltI (a := 4) (b := k_l) (by omega) (by omega)).mpr qZ)
    refine lv_ldc2 hx hb hown (hts _ q_614) d_PC_withPair_12 ?_
    refine lv_lload hx hb d_PC_withPair_15 (lv_at hl 1 rfl) ?_
    refine lv_lmul hx hb d_PC_withPair_17 ?_
    refine lv_aload_n hx hb d_PC_withPair_18 rfl (lv_at hl 3 rfl) ?_
    refine lv_iload_n hx hb d_PC_withPair_19 rfl (lv_at hl 2 rfl) ?_
    refine lv_iload hx hb d_PC_withPair_20 (lv_at hl 0 rfl) ?_
    have hPc := hP.sub (ws' := [(x, .inr (0, [.ref f0, .ref a0, .ref r0, .ref w0, .ref g0, .ref k0, .int tm, .int gp, .int lk])), (a0, .inr (2, [.int (nI np), .ref a1, .ref a2, .ref a3, .ref a4, .ref a5, .ref a6, .ref a7, .ref a8, .ref a9, .ref a10, .ref a11])), (a1, .inl (cI, 24, .inl (fun zy => nI (EP zy)))), (a5, .inl (cI, 12, .inl (fun zy => nI (ST zy)))), (a6, .inl (cI, 12, .inl PH)), (a7, .inl (cI, 12, .inl EN))]) [0, 1, 2, 5, 6, 7] rfl
    have hDc := hD.sub (ws' := [(x, .inr (0, [.ref f0, .ref a0, .ref r0, .ref w0, .ref g0, .ref k0, .int tm, .int gp, .int lk])), (a0, .inr (2, [.int (nI np), .ref a1, .ref a2, .ref a3, .ref a4, .ref a5, .ref a6, .ref a7, .ref a8, .ref a9, .ref a10, .ref a11])), (a1, .inl (cI, 24, .inl (fun zy => nI (EP zy)))), (a5, .inl (cI, 12, .inl (fun zy => nI (ST zy)))), (a6, .inl (cI, 12, .inl PH)), (a7, .inl (cI, 12, .inl EN))]) [0, 1, 2, 5, 6, 7] (by decide +kernel) rfl
    refine vp_callSi (va_Run.run (va_runV (As := [.int i, .int (nI k_l)]) (rest := [.long (31 * hh_v)]) ⟨hx, hb, hml, hown, hts⟩ (e_PC_about l D cI cZ x i (nI k_l) f0 a0 r0 w0 g0 k0 tm gp lk np a1 a2 a3 a4 a5 a6 a7 a8 a9 a10 a11 EP ST PH EN s.heap.size h_np h_EP h_ST) (my_cwV 2 hts q_495 q_621 q_493 q_494 q_1 rfl rfl (by decide +kernel) ⟨Nat.le_of_ble_eq_true rfl, Nat.le_of_ble_eq_true rfl⟩) (my_preV hPc hDc hK hN 0 0 rfl rfl) rfl rfl hl.1 rfl (lv_room (Nat.le_of_ble_eq_true rfl)) d_PC_withPair_22 ⟨Nat.le_of_ble_eq_true rfl, Nat.le_of_ble_eq_true rfl⟩)) (fun r_9 hw_9 => ?_)
    have hf_9_0 : r_9 = gAB np EP PH ST EN i (nI k_l) := hw_9
    have hf_9_0 : r_9 = gAB np EP PH ST EN i (nI k_l) := hf_9_0
    refine lv_i2l hx hb d_PC_withPair_25 rfl ?_
    refine lv_ladd hx hb d_PC_withPair_26 ?_
    refine lv_lstore (lv' := [(4, .long ((31 * hh_v) + r_9.toInt64)), (6, .int (nI k_l)), (3, .int i), (0, .ref x)]) hx hb d_PC_withPair_27 hl (by decide) rfl (fun ls hl => ?_)
    refine lv_iinc (v := nI (k_l + 1)) (lv' := [(6, .int (nI (k_l + 1))), (4, .long ((31 * hh_v) + r_9.toInt64)), (3, .int i), (0, .ref x)]) hx hb d_PC_withPair_29 hl (k := 1) rfl (nI_1 k_l) (by decide) rfl (fun ls hl => ?_)
    refine lv_goto (tgt := 6) hx hb d_PC_withPair_32 (by decide) ?_
    exact ih1 ((k_l + 1), (31 * hh_v) + r_9.toInt64) _ _ _ (by first | omega | (dsimp only; omega)) ⟨(by first | omega | (dsimp only; omega)), rfl, rfl, lv_sub hl [0, 1, 2, 3] rfl⟩

set_option maxHeartbeats 4000000 in
set_option maxRecDepth 100000 in
theorem e_PC_digest (l : Launch) (D : va_G) (cI cZ : ClassId) (x : Nat) (f0 : Nat) (a0 : Nat) (r0 : Nat) (w0 : Nat) (g0 : Nat) (k0 : Nat) (tm : Int32) (gp : Int32) (lk : Int32) (nn : Nat) (f1 : Nat) (f2 : Nat) (f3 : Nat) (f4 : Nat) (FC : Nat → Int32) (FA : Nat → Int32) (np : Nat) (a1 : Nat) (a2 : Nat) (a3 : Nat) (a4 : Nat) (a5 : Nat) (a6 : Nat) (a7 : Nat) (a8 : Nat) (a9 : Nat) (a10 : Nat) (a11 : Nat) (EP : Nat → Nat) (SI : Nat → Int32) (LK : Nat → Int32) (ST : Nat → Nat) (PH : Nat → Int32) (EN : Nat → Int32) (LE : Nat → Int32) (GR : Nat → Int32) (nq : Nat) (HA : Int32) (r1 : Nat) (r2 : Nat) (r3 : Nat) (r4 : Nat) (r5 : Nat) (r6 : Nat) (r7 : Nat) (r8 : Nat) (r9 : Nat) (r10 : Nat) (r11 : Nat) (PY : Nat → Int32) (PD : Nat → Int32) (HO : Nat → Nat) (HE : Nat → Int32) (KE : Nat → Int32) (TO : Nat → Int32) (LS : Nat → Int32) (sz : Nat) (h_nn : nn ≤ 7) (h_np : np ≤ 12) (h_EP : ∀ zz, EP zz ≤ 6) (h_ST : ∀ zz, ST zz ≤ 64) (h_nq : nq ≤ 40) (h_HO : ∀ zz, HO zz ≤ 6) : Met l ⟨"PromiseChains", "digest", "()J"⟩ (mw ⟨"PromiseChains", "digest", "()J"⟩ prog_1_method_26_code 5 (some .long)) ({ frames := 4, cells := 0, slots := 0, locals := 91 }) (va_Pc [.ref x] (PB D cI cZ sz [(x, .inr (0, [.ref f0, .ref a0, .ref r0, .ref w0, .ref g0, .ref k0, .int tm, .int gp, .int lk])), (f0, .inr (1, [.int (nI nn), .ref f1, .ref f2, .ref f3, .ref f4])), (f1, .inl (cI, 7, .inl FC)), (f4, .inl (cZ, 7, .inl FA)), (a0, .inr (2, [.int (nI np), .ref a1, .ref a2, .ref a3, .ref a4, .ref a5, .ref a6, .ref a7, .ref a8, .ref a9, .ref a10, .ref a11])), (a1, .inl (cI, 24, .inl (fun zy => nI (EP zy)))), (a2, .inl (cI, 24, .inl SI)), (a3, .inl (cI, 24, .inl LK)), (a5, .inl (cI, 12, .inl (fun zy => nI (ST zy)))), (a6, .inl (cI, 12, .inl PH)), (a7, .inl (cI, 12, .inl EN)), (a10, .inl (cI, 12, .inl LE)), (a11, .inl (cI, 12, .inl GR)), (r0, .inr (3, [.int (nI nq), .int HA, .ref r1, .ref r2, .ref r3, .ref r4, .ref r5, .ref r6, .ref r7, .ref r8, .ref r9, .ref r10, .ref r11])), (r1, .inl (cI, 40, .inl PY)), (r2, .inl (cI, 40, .inl PD)), (r3, .inl (cI, 40, .inl (fun zy => nI (HO zy)))), (r4, .inl (cI, 40, .inl HE)), (r5, .inl (cI, 40, .inl KE)), (r6, .inl (cZ, 40, .inl TO)), (r9, .inl (cI, 240, .inl LS))])) (vp_Sl (fun r => True)) 0 0 (fun _ => False) := by
  refine Met.ofW (cc := prog_1_method_26_code) (maxL := 5) (ret := (some .long)) (by decide) rfl ?_
  intro p e s m args below meth c s₁ B hml hv
  obtain ⟨rfl, hsz, hP, hK, hD0, hN⟩ := hv
  have hx := B.exec
  have hb := B.bytes
  have hr := B.returns
  have hts0 := atoms_spec (ws := mw ⟨"PromiseChains", "digest", "()J"⟩ prog_1_method_26_code 5 (some .long)) B.pre
  have hts : ∀ w ∈ tblG, w.before _ s = true := fun w h => hts0 w (List.mem_cons_of_mem _ h)
  have hown : s.vm.findClass "PromiseChains" = some m.cls := findClass_of_methodNamed B.named
  have hlocks := B.notSynchronized
  subst hsz
  have hD := hD0
  have hP : va_P D vwCl [(x, .inr (0, [.ref f0, .ref a0, .ref r0, .ref w0, .ref g0, .ref k0, .int tm, .int gp, .int lk])), (f0, .inr (1, [.int (nI nn), .ref f1, .ref f2, .ref f3, .ref f4])), (f1, .inl (cI, 7, .inl FC)), (f4, .inl (cZ, 7, .inl FA)), (a0, .inr (2, [.int (nI np), .ref a1, .ref a2, .ref a3, .ref a4, .ref a5, .ref a6, .ref a7, .ref a8, .ref a9, .ref a10, .ref a11])), (a1, .inl (cI, 24, .inl (fun zy => nI (EP zy)))), (a2, .inl (cI, 24, .inl SI)), (a3, .inl (cI, 24, .inl LK)), (a5, .inl (cI, 12, .inl (fun zy => nI (ST zy)))), (a6, .inl (cI, 12, .inl PH)), (a7, .inl (cI, 12, .inl EN)), (a10, .inl (cI, 12, .inl LE)), (a11, .inl (cI, 12, .inl GR)), (r0, .inr (3, [.int (nI nq), .int HA, .ref r1, .ref r2, .ref r3, .ref r4, .ref r5, .ref r6, .ref r7, .ref r8, .ref r9, .ref r10, .ref r11])), (r1, .inl (cI, 40, .inl PY)), (r2, .inl (cI, 40, .inl PD)), (r3, .inl (cI, 40, .inl (fun zy => nI (HO zy)))), (r4, .inl (cI, 40, .inl HE)), (r5, .inl (cI, 40, .inl KE)), (r6, .inl (cZ, 40, .inl TO)), (r9, .inl (cI, 240, .inl LS))] s.heap := hP
  have hl := lv_entry ([.ref x]) (n := 5) (Nat.le_of_ble_eq_true rfl)
  rw [lg_entry_eq]
  generalize (lg_sl ([.ref x]) ++ List.replicate (5 - (lg_sl ([.ref x])).length) Slot.unset).toArray = ls at hl ⊢
  have hl : lv_has ls 5 [(0, .ref x)] := hl
  refine lv_ldc2 hx hb hown (hts _ q_613) d_PC_digest_0 ?_
  refine lv_lstore_n (lv' := [(1, .long 233), (0, .ref x)]) hx hb d_PC_digest_3 rfl hl (by decide) rfl (fun ls hl => ?_)
  refine lv_iconst (v := 0) hx hb d_PC_digest_4 (by decide) ?_
  refine lv_istore_n (lv' := [(3, .int 0), (1, .long 233), (0, .ref x)]) hx hb d_PC_digest_5 rfl hl (by decide) rfl (fun ls hl => ?_)
  refine W_loop (σ := Nat × Int64) (I := fun xX H locs ls => xX.1 ≤ 8 ∧ H = s.heap ∧ locs = [] ∧ lv_has ls 5 [(3, .int (nI xX.1)), (1, .long xX.2), (0, .ref x)]) (μ := fun xX => 9 - xX.1) ?_ (0, 233) ⟨(by first | omega | (dsimp only; omega)), rfl, rfl, lv_sub hl [0, 1, 2] rfl⟩
  intro xX H_1 locs ls hI ih1
  obtain ⟨k0_l, h0_v⟩ := xX
  obtain ⟨hk0, rfl, rfl, hl⟩ := hI
  have hl : lv_has ls 5 [(3, .int (nI k0_l)), (1, .long h0_v), (0, .ref x)] := hl
  have hk0 : k0_l ≤ 8 := hk0
  refine lv_iload_n hx hb d_PC_digest_6 rfl (lv_at hl 0 rfl) ?_
  refine lv_bipush (v := 7) hx hb d_PC_digest_7 (by decide) ?_
  refine lv_icmp_gt (tgt := 31) hx hb d_PC_digest_9 (by decide) (fun h_2 => ?_) (fun h_2 => ?_)
  · have nh_2 : 7 < k0_l := (nI_ltI (a := 7) (b := k0_l) (by omega) (by omega)).mp h_2
    refine lv_iconst (v := 0) hx hb d_PC_digest_31 (by decide) ?_
    refine lv_istore_n (lv' := [(3, .int 0), (1, .long h0_v), (0, .ref x)]) hx hb d_PC_digest_32 rfl hl (by decide) rfl (fun ls hl => ?_)
    refine W_loop (σ := Nat × Int64) (I := fun xX H locs ls => xX.1 ≤ nn ∧ H = s.heap ∧ locs = [] ∧ lv_has ls 5 [(3, .int (nI xX.1)), (1, .long xX.2), (0, .ref x)]) (μ := fun xX => 8 - xX.1) ?_ (0, h0_v) ⟨(by first | omega | (dsimp only; omega)), rfl, rfl, lv_sub hl [0, 1, 2] rfl⟩
    intro xX H_3 locs ls hI ih2
    obtain ⟨k1_l, h1_v⟩ := xX
    obtain ⟨hk1, rfl, rfl, hl⟩ := hI
    have hl : lv_has ls 5 [(3, .int (nI k1_l)), (1, .long h1_v), (0, .ref x)] := hl
    have hk1 : k1_l ≤ nn := hk1
    refine lv_iload_n hx hb d_PC_digest_33 rfl (lv_at hl 0 rfl) ?_
    refine lv_aload_n hx hb d_PC_digest_34 rfl (lv_at hl 2 rfl) ?_
    refine va_get (D := D) (ci := 0) (v := .ref f0) (C := R_PC) (T := F_PC) (N := 9) hx hb hts i_PC hown hK hP 0 rfl rfl 0 (by decide) (hts _ q_256) (fun _ h9 => h9) rfl d_PC_digest_35 ?_
    refine va_get (D := D) (ci := 1) (v := .int (nI nn)) (C := R_PE) (T := F_PE) (N := 5) hx hb hts i_PE hown hK hP 1 rfl rfl 0 (by decide) (hts _ q_25) (fun _ h9 => h9) rfl d_PC_digest_38 ?_
    refine lv_icmp_ge (tgt := 63) hx hb d_PC_digest_41 (by decide) (fun h_4 => ?_) (fun h_4 => ?_)
    · have nh_4 : nn ≤ k1_l := (nI_leI (a := nn) (b := k1_l) (by omega) (by omega)).mp h_4
      refine lv_iconst (v := 0) hx hb d_PC_digest_63 (by decide) ?_
      refine lv_istore_n (lv' := [(3, .int 0), (1, .long h1_v), (0, .ref x)]) hx hb d_PC_digest_64 rfl hl (by decide) rfl (fun ls hl => ?_)
      refine W_loop (σ := Nat × Int64) (I := fun xX H locs ls => xX.1 ≤ np ∧ H = s.heap ∧ locs = [] ∧ lv_has ls 5 [(3, .int (nI xX.1)), (1, .long xX.2), (0, .ref x)]) (μ := fun xX => 13 - xX.1) ?_ (0, h1_v) ⟨(by first | omega | (dsimp only; omega)), rfl, rfl, lv_sub hl [0, 1, 2] rfl⟩
      intro xX H_5 locs ls hI ih3
      obtain ⟨k2_l, h2_v⟩ := xX
      obtain ⟨hk2, rfl, rfl, hl⟩ := hI
      have hl : lv_has ls 5 [(3, .int (nI k2_l)), (1, .long h2_v), (0, .ref x)] := hl
      have hk2 : k2_l ≤ np := hk2
      refine lv_iload_n hx hb d_PC_digest_65 rfl (lv_at hl 0 rfl) ?_
      refine lv_aload_n hx hb d_PC_digest_66 rfl (lv_at hl 2 rfl) ?_
      refine va_get (D := D) (ci := 0) (v := .ref a0) (C := R_PC) (T := F_PC) (N := 9) hx hb hts i_PC hown hK hP 0 rfl rfl 1 (by decide) (hts _ q_257) (fun _ h9 => h9) rfl d_PC_digest_67 ?_
      refine va_get (D := D) (ci := 2) (v := .int (nI np)) (C := R_PA) (T := F_PA) (N := 12) hx hb hts i_PA hown hK hP 4 rfl rfl 0 (by decide) (hts _ q_57) (fun _ h9 => h9) rfl d_PC_digest_70 ?_
      refine lv_icmp_ge (tgt := 89) hx hb d_PC_digest_73 (by decide) (fun h_6 => ?_) (fun h_6 => ?_)
      · have nh_6 : np ≤ k2_l := (nI_leI (a := np) (b := k2_l) (by omega) (by omega)).mp h_6
        refine lv_iconst (v := 0) hx hb d_PC_digest_89 (by decide) ?_
        refine lv_istore_n (lv' := [(3, .int 0), (1, .long h2_v), (0, .ref x)]) hx hb d_PC_digest_90 rfl hl (by decide) rfl (fun ls hl => ?_)
        refine W_loop (σ := Nat × Int64) (I := fun xX H locs ls => xX.1 ≤ nq ∧ H = s.heap ∧ locs = [] ∧ lv_has ls 5 [(3, .int (nI xX.1)), (1, .long xX.2), (0, .ref x)]) (μ := fun xX => 41 - xX.1) ?_ (0, h2_v) ⟨(by first | omega | (dsimp only; omega)), rfl, rfl, lv_sub hl [0, 1, 2] rfl⟩
        intro xX H_7 locs ls hI ih4
        obtain ⟨k3_l, h3_v⟩ := xX
        obtain ⟨hk3, rfl, rfl, hl⟩ := hI
        have hl : lv_has ls 5 [(3, .int (nI k3_l)), (1, .long h3_v), (0, .ref x)] := hl
        have hk3 : k3_l ≤ nq := hk3
        refine lv_iload_n hx hb d_PC_digest_91 rfl (lv_at hl 0 rfl) ?_
        refine lv_aload_n hx hb d_PC_digest_92 rfl (lv_at hl 2 rfl) ?_
        refine va_get (D := D) (ci := 0) (v := .ref r0) (C := R_PC) (T := F_PC) (N := 9) hx hb hts i_PC hown hK hP 0 rfl rfl 2 (by decide) (hts _ q_258) (fun _ h9 => h9) rfl d_PC_digest_93 ?_
        refine va_get (D := D) (ci := 3) (v := .int (nI nq)) (C := R_PR) (T := F_PR) (N := 13) hx hb hts i_PR hown hK hP 13 rfl rfl 0 (by decide) (hts _ q_111) (fun _ h9 => h9) rfl d_PC_digest_96 ?_
        refine lv_icmp_ge (tgt := 139) hx hb d_PC_digest_99 (by decide) (fun h_8 => ?_) (fun h_8 => ?_)
        · have nh_8 : nq ≤ k3_l := (nI_leI (a := nq) (b := k3_l) (by omega) (by omega)).mp h_8
          refine lv_lload_n hx hb d_PC_digest_139 rfl (lv_at hl 1 rfl) ?_
          exact W.lret (v := h3_v) hx hb hr (fun tT ht hW => ⟨h3_v, rfl, trivial, ht⟩) (fun q h => absurd h List.not_mem_nil) d_PC_digest_140
        · have nh_8 : ¬ nq ≤ k3_l := fun qZ => h_8 ((nI_leI (a := nq) (b := k3_l) (by omega) (by omega)).mpr qZ)
          refine lv_iconst (v := 0) hx hb d_PC_digest_102 (by decide) ?_
          refine lv_istore (lv' := [(4, .int 0), (3, .int (nI k3_l)), (1, .long h3_v), (0, .ref x)]) hx hb d_PC_digest_103 hl (by decide) rfl (fun ls hl => ?_)
          refine W_loop (σ := Nat × Int64) (I := fun xX H locs ls => xX.1 ≤ 7 ∧ H = s.heap ∧ locs = [] ∧ lv_has ls 5 [(4, .int (nI xX.1)), (3, .int (nI k3_l)), (1, .long xX.2), (0, .ref x)]) (μ := fun xX => 8 - xX.1) ?_ (0, h3_v) ⟨(by first | omega | (dsimp only; omega)), rfl, rfl, lv_sub hl [0, 1, 2, 3] rfl⟩
          intro xX H_9 locs ls hI ih5
          obtain ⟨k4_l, h4_v⟩ := xX
          obtain ⟨hk4, rfl, rfl, hl⟩ := hI
          have hl : lv_has ls 5 [(4, .int (nI k4_l)), (3, .int (nI k3_l)), (1, .long h4_v), (0, .ref x)] := hl
          have hk4 : k4_l ≤ 7 := hk4
          refine lv_iload hx hb d_PC_digest_105 (lv_at hl 0 rfl) ?_
          refine lv_bipush (v := 6) hx hb d_PC_digest_107 (by decide) ?_
          refine lv_icmp_gt (tgt := 133) hx hb d_PC_digest_109 (by decide) (fun h_10 => ?_) (fun h_10 => ?_)
          · have nh_10 : 6 < k4_l := (nI_ltI (a := 6) (b := k4_l) (by omega) (by omega)).mp h_10
            refine lv_iinc (v := nI (k3_l + 1)) (lv' := [(3, .int (nI (k3_l + 1))), (4, .int (nI k4_l)), (1, .long h4_v), (0, .ref x)]) hx hb d_PC_digest_133 hl (k := 1) rfl (nI_1 k3_l) (by decide) rfl (fun ls hl => ?_)
            refine lv_goto (tgt := 91) hx hb d_PC_digest_136 (by decide) ?_
            exact ih4 ((k3_l + 1), h4_v) _ _ _ (by first | omega | (dsimp only; omega)) ⟨(by first | omega | (dsimp only; omega)), rfl, rfl, lv_sub hl [0, 2, 3] rfl⟩
          · have nh_10 : ¬ 6 < k4_l := fun qZ => h_10 ((nI_ltI (a := 6) (b := k4_l) (by omega) (by omega)).mpr qZ)
            refine lv_ldc2 hx hb hown (hts _ q_614) d_PC_digest_112 ?_
            refine lv_lload_n hx hb d_PC_digest_115 rfl (lv_at hl 2 rfl) ?_
            refine lv_lmul hx hb d_PC_digest_116 ?_
            refine lv_aload_n hx hb d_PC_digest_117 rfl (lv_at hl 3 rfl) ?_
            refine lv_iload_n hx hb d_PC_digest_118 rfl (lv_at hl 1 rfl) ?_
            refine lv_iload hx hb d_PC_digest_119 (lv_at hl 0 rfl) ?_
            have hPc := hP.sub (ws' := [(x, .inr (0, [.ref f0, .ref a0, .ref r0, .ref w0, .ref g0, .ref k0, .int tm, .int gp, .int lk])), (r0, .inr (3, [.int (nI nq), .int HA, .ref r1, .ref r2, .ref r3, .ref r4, .ref r5, .ref r6, .ref r7, .ref r8, .ref r9, .ref r10, .ref r11])), (r1, .inl (cI, 40, .inl PY)), (r2, .inl (cI, 40, .inl PD)), (r3, .inl (cI, 40, .inl (fun zy => nI (HO zy)))), (r4, .inl (cI, 40, .inl HE)), (r5, .inl (cI, 40, .inl KE)), (r6, .inl (cZ, 40, .inl TO)), (r9, .inl (cI, 240, .inl LS))]) [0, 13, 14, 15, 16, 17, 18, 19, 20] rfl
            have hDc := hD.sub (ws' := [(x, .inr (0, [.ref f0, .ref a0, .ref r0, .ref w0, .ref g0, .ref k0, .int tm, .int gp, .int lk])), (r0, .inr (3, [.int (nI nq), .int HA, .ref r1, .ref r2, .ref r3, .ref r4, .ref r5, .ref r6, .ref r7, .ref r8, .ref r9, .ref r10, .ref r11])), (r1, .inl (cI, 40, .inl PY)), (r2, .inl (cI, 40, .inl PD)), (r3, .inl (cI, 40, .inl (fun zy => nI (HO zy)))), (r4, .inl (cI, 40, .inl HE)), (r5, .inl (cI, 40, .inl KE)), (r6, .inl (cZ, 40, .inl TO)), (r9, .inl (cI, 240, .inl LS))]) [0, 13, 14, 15, 16, 17, 18, 19, 20] (by decide +kernel) rfl
            refine vp_callSi (va_Run.run (va_runV (As := [.int (nI k3_l), .int (nI k4_l)]) (rest := [.long (31 * h4_v)]) ⟨hx, hb, hml, hown, hts⟩ (e_PC_promiseAt l D cI cZ x (nI k3_l) (nI k4_l) f0 a0 r0 w0 g0 k0 tm gp lk nq HA r1 r2 r3 r4 r5 r6 r7 r8 r9 r10 r11 PY PD HO HE KE TO LS s.heap.size h_nq h_HO) (my_cwV 2 hts q_474 q_625 q_472 q_473 q_1 rfl rfl (by decide +kernel) ⟨Nat.le_of_ble_eq_true rfl, Nat.le_of_ble_eq_true rfl⟩) (my_preV hPc hDc hK hN 0 0 rfl rfl) rfl rfl hl.1 rfl (lv_room (Nat.le_of_ble_eq_true rfl)) d_PC_digest_121 ⟨Nat.le_of_ble_eq_true rfl, Nat.le_of_ble_eq_true rfl⟩)) (fun r_11 hw_11 => ?_)
            have hf_11_0 : r_11 = gPA nq HE HO KE PD LS TO PY (nI k3_l) (nI k4_l) := hw_11
            have hf_11_0 : r_11 = gPA nq HE HO KE PD LS TO PY (nI k3_l) (nI k4_l) := hf_11_0
            refine lv_i2l hx hb d_PC_digest_124 rfl ?_
            refine lv_ladd hx hb d_PC_digest_125 ?_
            refine lv_lstore_n (lv' := [(1, .long ((31 * h4_v) + r_11.toInt64)), (4, .int (nI k4_l)), (3, .int (nI k3_l)), (0, .ref x)]) hx hb d_PC_digest_126 rfl hl (by decide) rfl (fun ls hl => ?_)
            refine lv_iinc (v := nI (k4_l + 1)) (lv' := [(4, .int (nI (k4_l + 1))), (1, .long ((31 * h4_v) + r_11.toInt64)), (3, .int (nI k3_l)), (0, .ref x)]) hx hb d_PC_digest_127 hl (k := 1) rfl (nI_1 k4_l) (by decide) rfl (fun ls hl => ?_)
            refine lv_goto (tgt := 105) hx hb d_PC_digest_130 (by decide) ?_
            exact ih5 ((k4_l + 1), (31 * h4_v) + r_11.toInt64) _ _ _ (by first | omega | (dsimp only; omega)) ⟨(by first | omega | (dsimp only; omega)), rfl, rfl, lv_sub hl [0, 2, 1, 3] rfl⟩
      · have nh_6 : ¬ np ≤ k2_l := fun qZ => h_6 ((nI_leI (a := np) (b := k2_l) (by omega) (by omega)).mpr qZ)
        refine lv_aload_n hx hb d_PC_digest_76 rfl (lv_at hl 2 rfl) ?_
        refine lv_lload_n hx hb d_PC_digest_77 rfl (lv_at hl 1 rfl) ?_
        refine lv_iload_n hx hb d_PC_digest_78 rfl (lv_at hl 0 rfl) ?_
        have hPc := hP.sub (ws' := [(x, .inr (0, [.ref f0, .ref a0, .ref r0, .ref w0, .ref g0, .ref k0, .int tm, .int gp, .int lk])), (a0, .inr (2, [.int (nI np), .ref a1, .ref a2, .ref a3, .ref a4, .ref a5, .ref a6, .ref a7, .ref a8, .ref a9, .ref a10, .ref a11])), (a1, .inl (cI, 24, .inl (fun zy => nI (EP zy)))), (a2, .inl (cI, 24, .inl SI)), (a3, .inl (cI, 24, .inl LK)), (a5, .inl (cI, 12, .inl (fun zy => nI (ST zy)))), (a6, .inl (cI, 12, .inl PH)), (a7, .inl (cI, 12, .inl EN)), (a10, .inl (cI, 12, .inl LE)), (a11, .inl (cI, 12, .inl GR))]) [0, 4, 5, 6, 7, 8, 9, 10, 11, 12] rfl
        have hDc := hD.sub (ws' := [(x, .inr (0, [.ref f0, .ref a0, .ref r0, .ref w0, .ref g0, .ref k0, .int tm, .int gp, .int lk])), (a0, .inr (2, [.int (nI np), .ref a1, .ref a2, .ref a3, .ref a4, .ref a5, .ref a6, .ref a7, .ref a8, .ref a9, .ref a10, .ref a11])), (a1, .inl (cI, 24, .inl (fun zy => nI (EP zy)))), (a2, .inl (cI, 24, .inl SI)), (a3, .inl (cI, 24, .inl LK)), (a5, .inl (cI, 12, .inl (fun zy => nI (ST zy)))), (a6, .inl (cI, 12, .inl PH)), (a7, .inl (cI, 12, .inl EN)), (a10, .inl (cI, 12, .inl LE)), (a11, .inl (cI, 12, .inl GR))]) [0, 4, 5, 6, 7, 8, 9, 10, 11, 12] (by decide +kernel) rfl
        refine vp_callSl (va_Run.run (va_runV (As := [.long h2_v, .int (nI k2_l)]) (rest := []) ⟨hx, hb, hml, hown, hts⟩ (e_PC_withPair l D cI cZ x h2_v (nI k2_l) f0 a0 r0 w0 g0 k0 tm gp lk np a1 a2 a3 a4 a5 a6 a7 a8 a9 a10 a11 EP SI LK ST PH EN LE GR s.heap.size h_np h_EP h_ST) (my_cwV 2 hts q_620 q_617 q_619 q_p4 q_1 rfl rfl (by decide +kernel) ⟨Nat.le_of_ble_eq_true rfl, Nat.le_of_ble_eq_true rfl⟩) (my_preV hPc hDc hK hN 0 0 rfl rfl) rfl rfl hl.1 rfl (lv_room (Nat.le_of_ble_eq_true rfl)) d_PC_digest_79 ⟨Nat.le_of_ble_eq_true rfl, Nat.le_of_ble_eq_true rfl⟩)) (fun r_12 hw_12 => ?_)
        refine lv_lstore_n (lv' := [(1, .long r_12), (3, .int (nI k2_l)), (0, .ref x)]) hx hb d_PC_digest_82 rfl hl (by decide) rfl (fun ls hl => ?_)
        refine lv_iinc (v := nI (k2_l + 1)) (lv' := [(3, .int (nI (k2_l + 1))), (1, .long r_12), (0, .ref x)]) hx hb d_PC_digest_83 hl (k := 1) rfl (nI_1 k2_l) (by decide) rfl (fun ls hl => ?_)
        refine lv_goto (tgt := 65) hx hb d_PC_digest_86 (by decide) ?_
        exact ih3 ((k2_l + 1), r_12) _ _ _ (by first | omega | (dsimp only; omega)) ⟨(by first | omega | (dsimp only; omega)), rfl, rfl, lv_sub hl [0, 1, 2] rfl⟩
    · have nh_4 : ¬ nn ≤ k1_l := fun qZ => h_4 ((nI_leI (a := nn) (b := k1_l) (by omega) (by omega)).mpr qZ)
      refine lv_ldc2 hx hb hown (hts _ q_614) d_PC_digest_44 ?_
      refine lv_lload_n hx hb d_PC_digest_47 rfl (lv_at hl 1 rfl) ?_
      refine lv_lmul hx hb d_PC_digest_48 ?_
      refine lv_aload_n hx hb d_PC_digest_49 rfl (lv_at hl 2 rfl) ?_
      refine lv_iload_n hx hb d_PC_digest_50 rfl (lv_at hl 0 rfl) ?_
      have hPc := hP.sub (ws' := [(x, .inr (0, [.ref f0, .ref a0, .ref r0, .ref w0, .ref g0, .ref k0, .int tm, .int gp, .int lk])), (f0, .inr (1, [.int (nI nn), .ref f1, .ref f2, .ref f3, .ref f4])), (f1, .inl (cI, 7, .inl FC)), (a0, .inr (2, [.int (nI np), .ref a1, .ref a2, .ref a3, .ref a4, .ref a5, .ref a6, .ref a7, .ref a8, .ref a9, .ref a10, .ref a11])), (a1, .inl (cI, 24, .inl (fun zy => nI (EP zy)))), (a2, .inl (cI, 24, .inl SI)), (a3, .inl (cI, 24, .inl LK))]) [0, 1, 2, 4, 5, 6, 7] rfl
      have hDc := hD.sub (ws' := [(x, .inr (0, [.ref f0, .ref a0, .ref r0, .ref w0, .ref g0, .ref k0, .int tm, .int gp, .int lk])), (f0, .inr (1, [.int (nI nn), .ref f1, .ref f2, .ref f3, .ref f4])), (f1, .inl (cI, 7, .inl FC)), (a0, .inr (2, [.int (nI np), .ref a1, .ref a2, .ref a3, .ref a4, .ref a5, .ref a6, .ref a7, .ref a8, .ref a9, .ref a10, .ref a11])), (a1, .inl (cI, 24, .inl (fun zy => nI (EP zy)))), (a2, .inl (cI, 24, .inl SI)), (a3, .inl (cI, 24, .inl LK))]) [0, 1, 2, 4, 5, 6, 7] (by decide +kernel) rfl
      refine vp_callSi (va_Run.run (va_runV (As := [.int (nI k1_l)]) (rest := [.long (31 * h1_v)]) ⟨hx, hb, hml, hown, hts⟩ (e_PC_wealth l D cI cZ x (nI k1_l) f0 a0 r0 w0 g0 k0 tm gp lk nn f1 f2 f3 f4 FC np a1 a2 a3 a4 a5 a6 a7 a8 a9 a10 a11 EP SI LK s.heap.size h_nn h_np h_EP) (my_cwV 1 hts q_517 q_616 q_515 q_516 q_1 rfl rfl (by decide +kernel) ⟨Nat.le_of_ble_eq_true rfl, Nat.le_of_ble_eq_true rfl⟩) (my_preV hPc hDc hK hN 0 0 rfl rfl) rfl rfl hl.1 rfl (lv_room (Nat.le_of_ble_eq_true rfl)) d_PC_digest_51 ⟨Nat.le_of_ble_eq_true rfl, Nat.le_of_ble_eq_true rfl⟩)) (fun r_13 hw_13 => ?_)
      refine lv_i2l hx hb d_PC_digest_54 rfl ?_
      refine lv_ladd hx hb d_PC_digest_55 ?_
      refine lv_lstore_n (lv' := [(1, .long ((31 * h1_v) + r_13.toInt64)), (3, .int (nI k1_l)), (0, .ref x)]) hx hb d_PC_digest_56 rfl hl (by decide) rfl (fun ls hl => ?_)
      refine lv_iinc (v := nI (k1_l + 1)) (lv' := [(3, .int (nI (k1_l + 1))), (1, .long ((31 * h1_v) + r_13.toInt64)), (0, .ref x)]) hx hb d_PC_digest_57 hl (k := 1) rfl (nI_1 k1_l) (by decide) rfl (fun ls hl => ?_)
      refine lv_goto (tgt := 33) hx hb d_PC_digest_60 (by decide) ?_
      exact ih2 ((k1_l + 1), (31 * h1_v) + r_13.toInt64) _ _ _ (by first | omega | (dsimp only; omega)) ⟨(by first | omega | (dsimp only; omega)), rfl, rfl, lv_sub hl [0, 1, 2] rfl⟩
  · have nh_2 : ¬ 7 < k0_l := fun qZ => h_2 ((nI_ltI (a := 7) (b := k0_l) (by omega) (by omega)).mpr qZ)
    refine lv_ldc2 hx hb hown (hts _ q_614) d_PC_digest_12 ?_
    refine lv_lload_n hx hb d_PC_digest_15 rfl (lv_at hl 1 rfl) ?_
    refine lv_lmul hx hb d_PC_digest_16 ?_
    refine lv_aload_n hx hb d_PC_digest_17 rfl (lv_at hl 2 rfl) ?_
    refine lv_iload_n hx hb d_PC_digest_18 rfl (lv_at hl 0 rfl) ?_
    have hPc := hP.sub (ws' := [(x, .inr (0, [.ref f0, .ref a0, .ref r0, .ref w0, .ref g0, .ref k0, .int tm, .int gp, .int lk])), (f0, .inr (1, [.int (nI nn), .ref f1, .ref f2, .ref f3, .ref f4])), (f4, .inl (cZ, 7, .inl FA)), (a0, .inr (2, [.int (nI np), .ref a1, .ref a2, .ref a3, .ref a4, .ref a5, .ref a6, .ref a7, .ref a8, .ref a9, .ref a10, .ref a11])), (r0, .inr (3, [.int (nI nq), .int HA, .ref r1, .ref r2, .ref r3, .ref r4, .ref r5, .ref r6, .ref r7, .ref r8, .ref r9, .ref r10, .ref r11]))]) [0, 1, 3, 4, 13] rfl
    have hDc := hD.sub (ws' := [(x, .inr (0, [.ref f0, .ref a0, .ref r0, .ref w0, .ref g0, .ref k0, .int tm, .int gp, .int lk])), (f0, .inr (1, [.int (nI nn), .ref f1, .ref f2, .ref f3, .ref f4])), (f4, .inl (cZ, 7, .inl FA)), (a0, .inr (2, [.int (nI np), .ref a1, .ref a2, .ref a3, .ref a4, .ref a5, .ref a6, .ref a7, .ref a8, .ref a9, .ref a10, .ref a11])), (r0, .inr (3, [.int (nI nq), .int HA, .ref r1, .ref r2, .ref r3, .ref r4, .ref r5, .ref r6, .ref r7, .ref r8, .ref r9, .ref r10, .ref r11]))]) [0, 1, 3, 4, 13] (by decide +kernel) rfl
    refine vp_callSi (va_Run.run (va_runV (As := [.int (nI k0_l)]) (rest := [.long (31 * h0_v)]) ⟨hx, hb, hml, hown, hts⟩ (e_PC_count l D cI cZ x (nI k0_l) f0 a0 r0 w0 g0 k0 tm gp lk nn f1 f2 f3 f4 FA np a1 a2 a3 a4 a5 a6 a7 a8 a9 a10 a11 nq HA r1 r2 r3 r4 r5 r6 r7 r8 r9 r10 r11 s.heap.size h_nn h_np h_nq) (my_cwV 1 hts q_604 q_615 q_602 q_603 q_1 rfl rfl (by decide +kernel) ⟨Nat.le_of_ble_eq_true rfl, Nat.le_of_ble_eq_true rfl⟩) (my_preV hPc hDc hK hN 0 0 rfl rfl) rfl rfl hl.1 rfl (lv_room (Nat.le_of_ble_eq_true rfl)) d_PC_digest_19 ⟨Nat.le_of_ble_eq_true rfl, Nat.le_of_ble_eq_true rfl⟩)) (fun r_14 hw_14 => ?_)
    have hf_14_0 : r_14 = gCt nn np nq HA tm gp lk (cntA FA nn) (nI k0_l) := hw_14
    have hf_14_0 : r_14 = gCt nn np nq HA tm gp lk (cntA FA nn) (nI k0_l) := hf_14_0
    refine lv_i2l hx hb d_PC_digest_22 rfl ?_
    refine lv_ladd hx hb d_PC_digest_23 ?_
    refine lv_lstore_n (lv' := [(1, .long ((31 * h0_v) + r_14.toInt64)), (3, .int (nI k0_l)), (0, .ref x)]) hx hb d_PC_digest_24 rfl hl (by decide) rfl (fun ls hl => ?_)
    refine lv_iinc (v := nI (k0_l + 1)) (lv' := [(3, .int (nI (k0_l + 1))), (1, .long ((31 * h0_v) + r_14.toInt64)), (0, .ref x)]) hx hb d_PC_digest_25 hl (k := 1) rfl (nI_1 k0_l) (by decide) rfl (fun ls hl => ?_)
    refine lv_goto (tgt := 6) hx hb d_PC_digest_28 (by decide) ?_
    exact ih1 ((k0_l + 1), (31 * h0_v) + r_14.toInt64) _ _ _ (by first | omega | (dsimp only; omega)) ⟨(by first | omega | (dsimp only; omega)), rfl, rfl, lv_sub hl [0, 1, 2] rfl⟩
