theorem d_PC_promiseAt_0 : decode prog_1_method_13_code 0 = .ok (.aload_n 0, 1) := by decide +kernel
theorem d_PC_promiseAt_1 : decode prog_1_method_13_code 1 = .ok (.getfield 26, 3) := by decide +kernel
theorem d_PC_promiseAt_4 : decode prog_1_method_13_code 4 = .ok (.iload_n 1, 1) := by decide +kernel
theorem d_PC_promiseAt_5 : decode prog_1_method_13_code 5 = .ok (.invokevirtual 129, 3) := by decide +kernel
theorem d_PC_promiseAt_8 : decode prog_1_method_13_code 8 = .ok (.ifCond .ne 6, 3) := by decide +kernel
theorem d_PC_promiseAt_11 : decode prog_1_method_13_code 11 = .ok (.bipush (-2), 2) := by decide +kernel
theorem d_PC_promiseAt_13 : decode prog_1_method_13_code 13 = .ok (.ireturn, 1) := by decide +kernel
theorem d_PC_promiseAt_14 : decode prog_1_method_13_code 14 = .ok (.iload_n 2, 1) := by decide +kernel
theorem d_PC_promiseAt_15 : decode prog_1_method_13_code 15 = .ok (.tableswitch 121 0 6 #[41, 50, 60, 73, 83, 93, 111], 41) := by decide +kernel
theorem d_PC_promiseAt_56 : decode prog_1_method_13_code 56 = .ok (.aload_n 0, 1) := by decide +kernel
theorem d_PC_promiseAt_57 : decode prog_1_method_13_code 57 = .ok (.getfield 26, 3) := by decide +kernel
theorem d_PC_promiseAt_60 : decode prog_1_method_13_code 60 = .ok (.iload_n 1, 1) := by decide +kernel
theorem d_PC_promiseAt_61 : decode prog_1_method_13_code 61 = .ok (.invokevirtual 140, 3) := by decide +kernel
theorem d_PC_promiseAt_64 : decode prog_1_method_13_code 64 = .ok (.ireturn, 1) := by decide +kernel
theorem d_PC_promiseAt_65 : decode prog_1_method_13_code 65 = .ok (.aload_n 0, 1) := by decide +kernel
theorem d_PC_promiseAt_66 : decode prog_1_method_13_code 66 = .ok (.getfield 26, 3) := by decide +kernel
theorem d_PC_promiseAt_69 : decode prog_1_method_13_code 69 = .ok (.getfield 144, 3) := by decide +kernel
theorem d_PC_promiseAt_72 : decode prog_1_method_13_code 72 = .ok (.iload_n 1, 1) := by decide +kernel
theorem d_PC_promiseAt_73 : decode prog_1_method_13_code 73 = .ok (.iaload, 1) := by decide +kernel
theorem d_PC_promiseAt_74 : decode prog_1_method_13_code 74 = .ok (.ireturn, 1) := by decide +kernel
theorem d_PC_promiseAt_75 : decode prog_1_method_13_code 75 = .ok (.aload_n 0, 1) := by decide +kernel
theorem d_PC_promiseAt_76 : decode prog_1_method_13_code 76 = .ok (.getfield 26, 3) := by decide +kernel
theorem d_PC_promiseAt_79 : decode prog_1_method_13_code 79 = .ok (.getfield 147, 3) := by decide +kernel
theorem d_PC_promiseAt_82 : decode prog_1_method_13_code 82 = .ok (.iload_n 1, 1) := by decide +kernel
theorem d_PC_promiseAt_83 : decode prog_1_method_13_code 83 = .ok (.bipush 6, 2) := by decide +kernel
theorem d_PC_promiseAt_85 : decode prog_1_method_13_code 85 = .ok (.imul, 1) := by decide +kernel
theorem d_PC_promiseAt_86 : decode prog_1_method_13_code 86 = .ok (.iaload, 1) := by decide +kernel
theorem d_PC_promiseAt_87 : decode prog_1_method_13_code 87 = .ok (.ireturn, 1) := by decide +kernel
theorem d_PC_promiseAt_88 : decode prog_1_method_13_code 88 = .ok (.aload_n 0, 1) := by decide +kernel
theorem d_PC_promiseAt_89 : decode prog_1_method_13_code 89 = .ok (.getfield 26, 3) := by decide +kernel
theorem d_PC_promiseAt_92 : decode prog_1_method_13_code 92 = .ok (.getfield 150, 3) := by decide +kernel
theorem d_PC_promiseAt_95 : decode prog_1_method_13_code 95 = .ok (.iload_n 1, 1) := by decide +kernel
theorem d_PC_promiseAt_96 : decode prog_1_method_13_code 96 = .ok (.iaload, 1) := by decide +kernel
theorem d_PC_promiseAt_97 : decode prog_1_method_13_code 97 = .ok (.ireturn, 1) := by decide +kernel
theorem d_PC_promiseAt_98 : decode prog_1_method_13_code 98 = .ok (.aload_n 0, 1) := by decide +kernel
theorem d_PC_promiseAt_99 : decode prog_1_method_13_code 99 = .ok (.getfield 26, 3) := by decide +kernel
theorem d_PC_promiseAt_102 : decode prog_1_method_13_code 102 = .ok (.getfield 153, 3) := by decide +kernel
theorem d_PC_promiseAt_105 : decode prog_1_method_13_code 105 = .ok (.iload_n 1, 1) := by decide +kernel
theorem d_PC_promiseAt_106 : decode prog_1_method_13_code 106 = .ok (.iaload, 1) := by decide +kernel
theorem d_PC_promiseAt_107 : decode prog_1_method_13_code 107 = .ok (.ireturn, 1) := by decide +kernel
theorem d_PC_promiseAt_108 : decode prog_1_method_13_code 108 = .ok (.aload_n 0, 1) := by decide +kernel
theorem d_PC_promiseAt_109 : decode prog_1_method_13_code 109 = .ok (.getfield 26, 3) := by decide +kernel
theorem d_PC_promiseAt_112 : decode prog_1_method_13_code 112 = .ok (.getfield 130, 3) := by decide +kernel
theorem d_PC_promiseAt_115 : decode prog_1_method_13_code 115 = .ok (.iload_n 1, 1) := by decide +kernel
theorem d_PC_promiseAt_116 : decode prog_1_method_13_code 116 = .ok (.baload, 1) := by decide +kernel
theorem d_PC_promiseAt_117 : decode prog_1_method_13_code 117 = .ok (.ifCond .eq 7, 3) := by decide +kernel
theorem d_PC_promiseAt_124 : decode prog_1_method_13_code 124 = .ok (.iconst 0, 1) := by decide +kernel
theorem d_PC_promiseAt_125 : decode prog_1_method_13_code 125 = .ok (.ireturn, 1) := by decide +kernel
theorem d_PC_promiseAt_120 : decode prog_1_method_13_code 120 = .ok (.iconst 1, 1) := by decide +kernel
theorem d_PC_promiseAt_121 : decode prog_1_method_13_code 121 = .ok (.goto 4, 3) := by decide +kernel
theorem d_PC_promiseAt_126 : decode prog_1_method_13_code 126 = .ok (.aload_n 0, 1) := by decide +kernel
theorem d_PC_promiseAt_127 : decode prog_1_method_13_code 127 = .ok (.getfield 26, 3) := by decide +kernel
theorem d_PC_promiseAt_130 : decode prog_1_method_13_code 130 = .ok (.getfield 156, 3) := by decide +kernel
theorem d_PC_promiseAt_133 : decode prog_1_method_13_code 133 = .ok (.iload_n 1, 1) := by decide +kernel
theorem d_PC_promiseAt_134 : decode prog_1_method_13_code 134 = .ok (.iaload, 1) := by decide +kernel
theorem d_PC_promiseAt_135 : decode prog_1_method_13_code 135 = .ok (.ireturn, 1) := by decide +kernel
theorem d_PC_promiseAt_136 : decode prog_1_method_13_code 136 = .ok (.bipush (-2), 2) := by decide +kernel
theorem d_PC_promiseAt_138 : decode prog_1_method_13_code 138 = .ok (.ireturn, 1) := by decide +kernel
theorem d_PC_side_0 : decode prog_1_method_14_code 0 = .ok (.aload_n 0, 1) := by decide +kernel
theorem d_PC_side_1 : decode prog_1_method_14_code 1 = .ok (.getfield 19, 3) := by decide +kernel
theorem d_PC_side_4 : decode prog_1_method_14_code 4 = .ok (.iload_n 1, 1) := by decide +kernel
theorem d_PC_side_5 : decode prog_1_method_14_code 5 = .ok (.invokevirtual 159, 3) := by decide +kernel
theorem d_PC_side_8 : decode prog_1_method_14_code 8 = .ok (.ifCond .eq 12, 3) := by decide +kernel
theorem d_PC_side_20 : decode prog_1_method_14_code 20 = .ok (.bipush (-2), 2) := by decide +kernel
theorem d_PC_side_22 : decode prog_1_method_14_code 22 = .ok (.ireturn, 1) := by decide +kernel
theorem d_PC_side_11 : decode prog_1_method_14_code 11 = .ok (.iload_n 2, 1) := by decide +kernel
theorem d_PC_side_12 : decode prog_1_method_14_code 12 = .ok (.iconst 0, 1) := by decide +kernel
theorem d_PC_side_13 : decode prog_1_method_14_code 13 = .ok (.iconst 1, 1) := by decide +kernel
theorem d_PC_side_14 : decode prog_1_method_14_code 14 = .ok (.invokestatic 65, 3) := by decide +kernel
theorem d_PC_side_17 : decode prog_1_method_14_code 17 = .ok (.ifCond .ne 6, 3) := by decide +kernel
theorem d_PC_side_23 : decode prog_1_method_14_code 23 = .ok (.aload_n 0, 1) := by decide +kernel
theorem d_PC_side_24 : decode prog_1_method_14_code 24 = .ok (.getfield 19, 3) := by decide +kernel
theorem d_PC_side_27 : decode prog_1_method_14_code 27 = .ok (.getfield 160, 3) := by decide +kernel
theorem d_PC_side_30 : decode prog_1_method_14_code 30 = .ok (.iconst 2, 1) := by decide +kernel
theorem d_PC_side_31 : decode prog_1_method_14_code 31 = .ok (.iload_n 1, 1) := by decide +kernel
theorem d_PC_side_32 : decode prog_1_method_14_code 32 = .ok (.imul, 1) := by decide +kernel
theorem d_PC_side_33 : decode prog_1_method_14_code 33 = .ok (.iload_n 2, 1) := by decide +kernel
theorem d_PC_side_34 : decode prog_1_method_14_code 34 = .ok (.iadd, 1) := by decide +kernel
theorem d_PC_side_35 : decode prog_1_method_14_code 35 = .ok (.iaload, 1) := by decide +kernel
theorem d_PC_side_36 : decode prog_1_method_14_code 36 = .ok (.ireturn, 1) := by decide +kernel
theorem d_PC_locked_0 : decode prog_1_method_15_code 0 = .ok (.aload_n 0, 1) := by decide +kernel
theorem d_PC_locked_1 : decode prog_1_method_15_code 1 = .ok (.getfield 19, 3) := by decide +kernel
theorem d_PC_locked_4 : decode prog_1_method_15_code 4 = .ok (.iload_n 1, 1) := by decide +kernel
theorem d_PC_locked_5 : decode prog_1_method_15_code 5 = .ok (.invokevirtual 159, 3) := by decide +kernel
theorem d_PC_locked_8 : decode prog_1_method_15_code 8 = .ok (.ifCond .eq 12, 3) := by decide +kernel
theorem d_PC_locked_20 : decode prog_1_method_15_code 20 = .ok (.bipush (-2), 2) := by decide +kernel
theorem d_PC_locked_22 : decode prog_1_method_15_code 22 = .ok (.ireturn, 1) := by decide +kernel
theorem d_PC_locked_11 : decode prog_1_method_15_code 11 = .ok (.iload_n 2, 1) := by decide +kernel
theorem d_PC_locked_12 : decode prog_1_method_15_code 12 = .ok (.iconst 0, 1) := by decide +kernel
theorem d_PC_locked_13 : decode prog_1_method_15_code 13 = .ok (.iconst 1, 1) := by decide +kernel
theorem d_PC_locked_14 : decode prog_1_method_15_code 14 = .ok (.invokestatic 65, 3) := by decide +kernel
theorem d_PC_locked_17 : decode prog_1_method_15_code 17 = .ok (.ifCond .ne 6, 3) := by decide +kernel
theorem d_PC_locked_23 : decode prog_1_method_15_code 23 = .ok (.aload_n 0, 1) := by decide +kernel
theorem d_PC_locked_24 : decode prog_1_method_15_code 24 = .ok (.getfield 19, 3) := by decide +kernel
theorem d_PC_locked_27 : decode prog_1_method_15_code 27 = .ok (.getfield 163, 3) := by decide +kernel
theorem d_PC_locked_30 : decode prog_1_method_15_code 30 = .ok (.iconst 2, 1) := by decide +kernel
theorem d_PC_locked_31 : decode prog_1_method_15_code 31 = .ok (.iload_n 1, 1) := by decide +kernel
theorem d_PC_locked_32 : decode prog_1_method_15_code 32 = .ok (.imul, 1) := by decide +kernel
theorem d_PC_locked_33 : decode prog_1_method_15_code 33 = .ok (.iload_n 2, 1) := by decide +kernel
theorem d_PC_locked_34 : decode prog_1_method_15_code 34 = .ok (.iadd, 1) := by decide +kernel
theorem d_PC_locked_35 : decode prog_1_method_15_code 35 = .ok (.iaload, 1) := by decide +kernel
theorem d_PC_locked_36 : decode prog_1_method_15_code 36 = .ok (.ireturn, 1) := by decide +kernel
theorem d_PC_about_0 : decode prog_1_method_16_code 0 = .ok (.aload_n 0, 1) := by decide +kernel
theorem d_PC_about_1 : decode prog_1_method_16_code 1 = .ok (.getfield 19, 3) := by decide +kernel
theorem d_PC_about_4 : decode prog_1_method_16_code 4 = .ok (.iload_n 1, 1) := by decide +kernel
theorem d_PC_about_5 : decode prog_1_method_16_code 5 = .ok (.invokevirtual 159, 3) := by decide +kernel
theorem d_PC_about_8 : decode prog_1_method_16_code 8 = .ok (.ifCond .ne 6, 3) := by decide +kernel
theorem d_PC_about_11 : decode prog_1_method_16_code 11 = .ok (.bipush (-2), 2) := by decide +kernel
theorem d_PC_about_13 : decode prog_1_method_16_code 13 = .ok (.ireturn, 1) := by decide +kernel
theorem d_PC_about_14 : decode prog_1_method_16_code 14 = .ok (.iload_n 2, 1) := by decide +kernel
theorem d_PC_about_15 : decode prog_1_method_16_code 15 = .ok (.tableswitch 106 0 4 #[33, 45, 59, 69, 79], 33) := by decide +kernel
theorem d_PC_about_48 : decode prog_1_method_16_code 48 = .ok (.aload_n 0, 1) := by decide +kernel
theorem d_PC_about_49 : decode prog_1_method_16_code 49 = .ok (.getfield 19, 3) := by decide +kernel
theorem d_PC_about_52 : decode prog_1_method_16_code 52 = .ok (.getfield 166, 3) := by decide +kernel
theorem d_PC_about_55 : decode prog_1_method_16_code 55 = .ok (.iconst 2, 1) := by decide +kernel
theorem d_PC_about_56 : decode prog_1_method_16_code 56 = .ok (.iload_n 1, 1) := by decide +kernel
theorem d_PC_about_57 : decode prog_1_method_16_code 57 = .ok (.imul, 1) := by decide +kernel
theorem d_PC_about_58 : decode prog_1_method_16_code 58 = .ok (.iaload, 1) := by decide +kernel
theorem d_PC_about_59 : decode prog_1_method_16_code 59 = .ok (.ireturn, 1) := by decide +kernel
theorem d_PC_about_60 : decode prog_1_method_16_code 60 = .ok (.aload_n 0, 1) := by decide +kernel
theorem d_PC_about_61 : decode prog_1_method_16_code 61 = .ok (.getfield 19, 3) := by decide +kernel
theorem d_PC_about_64 : decode prog_1_method_16_code 64 = .ok (.getfield 166, 3) := by decide +kernel
theorem d_PC_about_67 : decode prog_1_method_16_code 67 = .ok (.iconst 2, 1) := by decide +kernel
theorem d_PC_about_68 : decode prog_1_method_16_code 68 = .ok (.iload_n 1, 1) := by decide +kernel
theorem d_PC_about_69 : decode prog_1_method_16_code 69 = .ok (.imul, 1) := by decide +kernel
theorem d_PC_about_70 : decode prog_1_method_16_code 70 = .ok (.iconst 1, 1) := by decide +kernel
theorem d_PC_about_71 : decode prog_1_method_16_code 71 = .ok (.iadd, 1) := by decide +kernel
theorem d_PC_about_72 : decode prog_1_method_16_code 72 = .ok (.iaload, 1) := by decide +kernel
theorem d_PC_about_73 : decode prog_1_method_16_code 73 = .ok (.ireturn, 1) := by decide +kernel
theorem d_PC_about_74 : decode prog_1_method_16_code 74 = .ok (.aload_n 0, 1) := by decide +kernel
theorem d_PC_about_75 : decode prog_1_method_16_code 75 = .ok (.getfield 19, 3) := by decide +kernel
theorem d_PC_about_78 : decode prog_1_method_16_code 78 = .ok (.getfield 169, 3) := by decide +kernel
theorem d_PC_about_81 : decode prog_1_method_16_code 81 = .ok (.iload_n 1, 1) := by decide +kernel
theorem d_PC_about_82 : decode prog_1_method_16_code 82 = .ok (.iaload, 1) := by decide +kernel
theorem d_PC_about_83 : decode prog_1_method_16_code 83 = .ok (.ireturn, 1) := by decide +kernel
theorem d_PC_about_84 : decode prog_1_method_16_code 84 = .ok (.aload_n 0, 1) := by decide +kernel
theorem d_PC_about_85 : decode prog_1_method_16_code 85 = .ok (.getfield 19, 3) := by decide +kernel
theorem d_PC_about_88 : decode prog_1_method_16_code 88 = .ok (.getfield 172, 3) := by decide +kernel
theorem d_PC_about_91 : decode prog_1_method_16_code 91 = .ok (.iload_n 1, 1) := by decide +kernel
theorem d_PC_about_92 : decode prog_1_method_16_code 92 = .ok (.iaload, 1) := by decide +kernel
theorem d_PC_about_93 : decode prog_1_method_16_code 93 = .ok (.ireturn, 1) := by decide +kernel
theorem d_PC_about_94 : decode prog_1_method_16_code 94 = .ok (.aload_n 0, 1) := by decide +kernel
theorem d_PC_about_95 : decode prog_1_method_16_code 95 = .ok (.getfield 19, 3) := by decide +kernel
theorem d_PC_about_98 : decode prog_1_method_16_code 98 = .ok (.getfield 169, 3) := by decide +kernel
theorem d_PC_about_101 : decode prog_1_method_16_code 101 = .ok (.iload_n 1, 1) := by decide +kernel
theorem d_PC_about_102 : decode prog_1_method_16_code 102 = .ok (.iaload, 1) := by decide +kernel
theorem d_PC_about_103 : decode prog_1_method_16_code 103 = .ok (.iconst 1, 1) := by decide +kernel
theorem d_PC_about_104 : decode prog_1_method_16_code 104 = .ok (.if_icmp .ne 15, 3) := by decide +kernel
theorem d_PC_about_119 : decode prog_1_method_16_code 119 = .ok (.iconst (-1), 1) := by decide +kernel
theorem d_PC_about_120 : decode prog_1_method_16_code 120 = .ok (.ireturn, 1) := by decide +kernel
theorem d_PC_about_107 : decode prog_1_method_16_code 107 = .ok (.aload_n 0, 1) := by decide +kernel
theorem d_PC_about_108 : decode prog_1_method_16_code 108 = .ok (.getfield 19, 3) := by decide +kernel
theorem d_PC_about_111 : decode prog_1_method_16_code 111 = .ok (.getfield 175, 3) := by decide +kernel
theorem d_PC_about_114 : decode prog_1_method_16_code 114 = .ok (.iload_n 1, 1) := by decide +kernel
theorem d_PC_about_115 : decode prog_1_method_16_code 115 = .ok (.iaload, 1) := by decide +kernel
theorem d_PC_about_116 : decode prog_1_method_16_code 116 = .ok (.goto 4, 3) := by decide +kernel
theorem d_PC_about_121 : decode prog_1_method_16_code 121 = .ok (.bipush (-2), 2) := by decide +kernel
theorem d_PC_about_123 : decode prog_1_method_16_code 123 = .ok (.ireturn, 1) := by decide +kernel
theorem d_PC_stateAt_0 : decode prog_1_method_17_code 0 = .ok (.aload_n 0, 1) := by decide +kernel
theorem d_PC_stateAt_1 : decode prog_1_method_17_code 1 = .ok (.getfield 19, 3) := by decide +kernel
theorem d_PC_stateAt_4 : decode prog_1_method_17_code 4 = .ok (.iload_n 1, 1) := by decide +kernel
theorem d_PC_stateAt_5 : decode prog_1_method_17_code 5 = .ok (.invokevirtual 159, 3) := by decide +kernel
theorem d_PC_stateAt_8 : decode prog_1_method_17_code 8 = .ok (.ifCond .eq 16, 3) := by decide +kernel
theorem d_PC_stateAt_24 : decode prog_1_method_17_code 24 = .ok (.bipush (-2), 2) := by decide +kernel
theorem d_PC_stateAt_26 : decode prog_1_method_17_code 26 = .ok (.ireturn, 1) := by decide +kernel
theorem d_PC_stateAt_11 : decode prog_1_method_17_code 11 = .ok (.iload_n 2, 1) := by decide +kernel
theorem d_PC_stateAt_12 : decode prog_1_method_17_code 12 = .ok (.ifCond .lt 12, 3) := by decide +kernel
theorem d_PC_stateAt_15 : decode prog_1_method_17_code 15 = .ok (.iload_n 3, 1) := by decide +kernel
theorem d_PC_stateAt_16 : decode prog_1_method_17_code 16 = .ok (.iconst 0, 1) := by decide +kernel
theorem d_PC_stateAt_17 : decode prog_1_method_17_code 17 = .ok (.iconst 1, 1) := by decide +kernel
theorem d_PC_stateAt_18 : decode prog_1_method_17_code 18 = .ok (.invokestatic 65, 3) := by decide +kernel
theorem d_PC_stateAt_21 : decode prog_1_method_17_code 21 = .ok (.ifCond .ne 6, 3) := by decide +kernel
theorem d_PC_stateAt_27 : decode prog_1_method_17_code 27 = .ok (.iload_n 2, 1) := by decide +kernel
theorem d_PC_stateAt_28 : decode prog_1_method_17_code 28 = .ok (.aload_n 0, 1) := by decide +kernel
theorem d_PC_stateAt_29 : decode prog_1_method_17_code 29 = .ok (.getfield 19, 3) := by decide +kernel
theorem d_PC_stateAt_32 : decode prog_1_method_17_code 32 = .ok (.getfield 172, 3) := by decide +kernel
theorem d_PC_stateAt_35 : decode prog_1_method_17_code 35 = .ok (.iload_n 1, 1) := by decide +kernel
theorem d_PC_stateAt_36 : decode prog_1_method_17_code 36 = .ok (.iaload, 1) := by decide +kernel
theorem d_PC_stateAt_37 : decode prog_1_method_17_code 37 = .ok (.if_icmp .lt 5, 3) := by decide +kernel
theorem d_PC_stateAt_42 : decode prog_1_method_17_code 42 = .ok (.aload_n 0, 1) := by decide +kernel
theorem d_PC_stateAt_43 : decode prog_1_method_17_code 43 = .ok (.getfield 19, 3) := by decide +kernel
theorem d_PC_stateAt_46 : decode prog_1_method_17_code 46 = .ok (.iload_n 1, 1) := by decide +kernel
theorem d_PC_stateAt_47 : decode prog_1_method_17_code 47 = .ok (.iload_n 2, 1) := by decide +kernel
theorem d_PC_stateAt_48 : decode prog_1_method_17_code 48 = .ok (.iload_n 3, 1) := by decide +kernel
theorem d_PC_stateAt_49 : decode prog_1_method_17_code 49 = .ok (.invokevirtual 178, 3) := by decide +kernel
theorem d_PC_stateAt_52 : decode prog_1_method_17_code 52 = .ok (.ireturn, 1) := by decide +kernel
theorem d_PC_stateAt_40 : decode prog_1_method_17_code 40 = .ok (.iconst (-1), 1) := by decide +kernel
theorem d_PC_stateAt_41 : decode prog_1_method_17_code 41 = .ok (.ireturn, 1) := by decide +kernel
theorem d_PC_close_0 : decode prog_1_method_18_code 0 = .ok (.aload_n 0, 1) := by decide +kernel
theorem d_PC_close_1 : decode prog_1_method_18_code 1 = .ok (.getfield 19, 3) := by decide +kernel
theorem d_PC_close_4 : decode prog_1_method_18_code 4 = .ok (.iload_n 1, 1) := by decide +kernel
theorem d_PC_close_5 : decode prog_1_method_18_code 5 = .ok (.invokevirtual 159, 3) := by decide +kernel
theorem d_PC_close_8 : decode prog_1_method_18_code 8 = .ok (.ifCond .eq 33, 3) := by decide +kernel
theorem d_PC_close_41 : decode prog_1_method_18_code 41 = .ok (.bipush (-2), 2) := by decide +kernel
theorem d_PC_close_43 : decode prog_1_method_18_code 43 = .ok (.ireturn, 1) := by decide +kernel
theorem d_PC_close_11 : decode prog_1_method_18_code 11 = .ok (.aload_n 0, 1) := by decide +kernel
theorem d_PC_close_12 : decode prog_1_method_18_code 12 = .ok (.getfield 12, 3) := by decide +kernel
theorem d_PC_close_15 : decode prog_1_method_18_code 15 = .ok (.iload_n 2, 1) := by decide +kernel
theorem d_PC_close_16 : decode prog_1_method_18_code 16 = .ok (.invokevirtual 77, 3) := by decide +kernel
theorem d_PC_close_19 : decode prog_1_method_18_code 19 = .ok (.ifCond .eq 22, 3) := by decide +kernel
theorem d_PC_close_22 : decode prog_1_method_18_code 22 = .ok (.iload_n 3, 1) := by decide +kernel
theorem d_PC_close_23 : decode prog_1_method_18_code 23 = .ok (.iconst 0, 1) := by decide +kernel
theorem d_PC_close_24 : decode prog_1_method_18_code 24 = .ok (.aload_n 0, 1) := by decide +kernel
theorem d_PC_close_25 : decode prog_1_method_18_code 25 = .ok (.getfield 19, 3) := by decide +kernel
theorem d_PC_close_28 : decode prog_1_method_18_code 28 = .ok (.getfield 172, 3) := by decide +kernel
theorem d_PC_close_31 : decode prog_1_method_18_code 31 = .ok (.iload_n 1, 1) := by decide +kernel
theorem d_PC_close_32 : decode prog_1_method_18_code 32 = .ok (.iaload, 1) := by decide +kernel
theorem d_PC_close_33 : decode prog_1_method_18_code 33 = .ok (.iconst 1, 1) := by decide +kernel
theorem d_PC_close_34 : decode prog_1_method_18_code 34 = .ok (.isub, 1) := by decide +kernel
theorem d_PC_close_35 : decode prog_1_method_18_code 35 = .ok (.invokestatic 65, 3) := by decide +kernel
theorem d_PC_close_38 : decode prog_1_method_18_code 38 = .ok (.ifCond .ne 6, 3) := by decide +kernel
theorem d_PC_close_44 : decode prog_1_method_18_code 44 = .ok (.aload_n 0, 1) := by decide +kernel
theorem d_PC_close_45 : decode prog_1_method_18_code 45 = .ok (.getfield 19, 3) := by decide +kernel
theorem d_PC_close_48 : decode prog_1_method_18_code 48 = .ok (.iload_n 1, 1) := by decide +kernel
theorem d_PC_close_49 : decode prog_1_method_18_code 49 = .ok (.iload_n 2, 1) := by decide +kernel
theorem d_PC_close_50 : decode prog_1_method_18_code 50 = .ok (.invokevirtual 182, 3) := by decide +kernel
theorem d_PC_close_53 : decode prog_1_method_18_code 53 = .ok (.istore 4, 2) := by decide +kernel
theorem d_PC_close_55 : decode prog_1_method_18_code 55 = .ok (.iload 4, 2) := by decide +kernel
theorem d_PC_close_57 : decode prog_1_method_18_code 57 = .ok (.iconst (-1), 1) := by decide +kernel
theorem d_PC_close_58 : decode prog_1_method_18_code 58 = .ok (.if_icmp .ne 6, 3) := by decide +kernel
theorem d_PC_close_61 : decode prog_1_method_18_code 61 = .ok (.bipush (-2), 2) := by decide +kernel
theorem d_PC_close_63 : decode prog_1_method_18_code 63 = .ok (.ireturn, 1) := by decide +kernel
theorem d_PC_close_64 : decode prog_1_method_18_code 64 = .ok (.aload_n 0, 1) := by decide +kernel
theorem d_PC_close_65 : decode prog_1_method_18_code 65 = .ok (.getfield 19, 3) := by decide +kernel
theorem d_PC_close_68 : decode prog_1_method_18_code 68 = .ok (.iload_n 1, 1) := by decide +kernel
theorem d_PC_close_69 : decode prog_1_method_18_code 69 = .ok (.invokevirtual 185, 3) := by decide +kernel
theorem d_PC_close_72 : decode prog_1_method_18_code 72 = .ok (.ifCond .eq 15, 3) := by decide +kernel
theorem d_PC_close_87 : decode prog_1_method_18_code 87 = .ok (.bipush (-3), 2) := by decide +kernel
theorem d_PC_close_89 : decode prog_1_method_18_code 89 = .ok (.ireturn, 1) := by decide +kernel
theorem d_PC_close_75 : decode prog_1_method_18_code 75 = .ok (.aload_n 0, 1) := by decide +kernel
theorem d_PC_close_76 : decode prog_1_method_18_code 76 = .ok (.getfield 12, 3) := by decide +kernel
theorem d_PC_close_79 : decode prog_1_method_18_code 79 = .ok (.getfield 93, 3) := by decide +kernel
theorem d_PC_close_82 : decode prog_1_method_18_code 82 = .ok (.iload_n 2, 1) := by decide +kernel
theorem d_PC_close_83 : decode prog_1_method_18_code 83 = .ok (.baload, 1) := by decide +kernel
theorem d_PC_close_84 : decode prog_1_method_18_code 84 = .ok (.ifCond .eq 6, 3) := by decide +kernel
theorem d_PC_close_90 : decode prog_1_method_18_code 90 = .ok (.aload_n 0, 1) := by decide +kernel
theorem d_PC_close_91 : decode prog_1_method_18_code 91 = .ok (.getfield 19, 3) := by decide +kernel
theorem d_PC_close_94 : decode prog_1_method_18_code 94 = .ok (.iload_n 1, 1) := by decide +kernel
theorem d_PC_close_95 : decode prog_1_method_18_code 95 = .ok (.iload 4, 2) := by decide +kernel
theorem d_PC_close_97 : decode prog_1_method_18_code 97 = .ok (.iload_n 3, 1) := by decide +kernel
theorem d_PC_close_98 : decode prog_1_method_18_code 98 = .ok (.aload_n 0, 1) := by decide +kernel
theorem d_PC_close_99 : decode prog_1_method_18_code 99 = .ok (.getfield 51, 3) := by decide +kernel
theorem d_PC_close_102 : decode prog_1_method_18_code 102 = .ok (.aload_n 0, 1) := by decide +kernel
theorem d_PC_close_103 : decode prog_1_method_18_code 103 = .ok (.getfield 58, 3) := by decide +kernel
theorem d_PC_close_106 : decode prog_1_method_18_code 106 = .ok (.iadd, 1) := by decide +kernel
theorem d_PC_close_107 : decode prog_1_method_18_code 107 = .ok (.invokevirtual 188, 3) := by decide +kernel
theorem d_PC_close_110 : decode prog_1_method_18_code 110 = .ok (.aload_n 0, 1) := by decide +kernel
theorem d_PC_close_111 : decode prog_1_method_18_code 111 = .ok (.getfield 19, 3) := by decide +kernel
theorem d_PC_close_114 : decode prog_1_method_18_code 114 = .ok (.iload_n 1, 1) := by decide +kernel
theorem d_PC_close_115 : decode prog_1_method_18_code 115 = .ok (.aload_n 0, 1) := by decide +kernel
theorem d_PC_close_116 : decode prog_1_method_18_code 116 = .ok (.getfield 12, 3) := by decide +kernel
theorem d_PC_close_119 : decode prog_1_method_18_code 119 = .ok (.invokevirtual 192, 3) := by decide +kernel
theorem d_PC_close_122 : decode prog_1_method_18_code 122 = .ok (.ifCond .eq 7, 3) := by decide +kernel
theorem d_PC_close_129 : decode prog_1_method_18_code 129 = .ok (.iconst 1, 1) := by decide +kernel
theorem d_PC_close_130 : decode prog_1_method_18_code 130 = .ok (.ireturn, 1) := by decide +kernel
theorem d_PC_close_125 : decode prog_1_method_18_code 125 = .ok (.iconst 2, 1) := by decide +kernel
theorem d_PC_close_126 : decode prog_1_method_18_code 126 = .ok (.goto 4, 3) := by decide +kernel
theorem d_PC_wealth_0 : decode prog_1_method_19_code 0 = .ok (.aload_n 0, 1) := by decide +kernel
theorem d_PC_wealth_1 : decode prog_1_method_19_code 1 = .ok (.getfield 12, 3) := by decide +kernel
theorem d_PC_wealth_4 : decode prog_1_method_19_code 4 = .ok (.iload_n 1, 1) := by decide +kernel
theorem d_PC_wealth_5 : decode prog_1_method_19_code 5 = .ok (.invokevirtual 77, 3) := by decide +kernel
theorem d_PC_wealth_8 : decode prog_1_method_19_code 8 = .ok (.ifCond .ne 6, 3) := by decide +kernel
theorem d_PC_wealth_11 : decode prog_1_method_19_code 11 = .ok (.bipush (-2), 2) := by decide +kernel
theorem d_PC_wealth_13 : decode prog_1_method_19_code 13 = .ok (.ireturn, 1) := by decide +kernel
theorem d_PC_wealth_14 : decode prog_1_method_19_code 14 = .ok (.aload_n 0, 1) := by decide +kernel
theorem d_PC_wealth_15 : decode prog_1_method_19_code 15 = .ok (.getfield 12, 3) := by decide +kernel
theorem d_PC_wealth_18 : decode prog_1_method_19_code 18 = .ok (.getfield 196, 3) := by decide +kernel
theorem d_PC_wealth_21 : decode prog_1_method_19_code 21 = .ok (.iload_n 1, 1) := by decide +kernel
theorem d_PC_wealth_22 : decode prog_1_method_19_code 22 = .ok (.iaload, 1) := by decide +kernel
theorem d_PC_wealth_23 : decode prog_1_method_19_code 23 = .ok (.istore_n 2, 1) := by decide +kernel
theorem d_PC_wealth_24 : decode prog_1_method_19_code 24 = .ok (.iconst 0, 1) := by decide +kernel
theorem d_PC_wealth_25 : decode prog_1_method_19_code 25 = .ok (.istore_n 3, 1) := by decide +kernel
theorem d_PC_wealth_26 : decode prog_1_method_19_code 26 = .ok (.iload_n 3, 1) := by decide +kernel
theorem d_PC_wealth_27 : decode prog_1_method_19_code 27 = .ok (.iconst 2, 1) := by decide +kernel
theorem d_PC_wealth_28 : decode prog_1_method_19_code 28 = .ok (.aload_n 0, 1) := by decide +kernel
theorem d_PC_wealth_29 : decode prog_1_method_19_code 29 = .ok (.getfield 19, 3) := by decide +kernel
theorem d_PC_wealth_32 : decode prog_1_method_19_code 32 = .ok (.getfield 69, 3) := by decide +kernel
theorem d_PC_wealth_35 : decode prog_1_method_19_code 35 = .ok (.imul, 1) := by decide +kernel
theorem d_PC_wealth_36 : decode prog_1_method_19_code 36 = .ok (.if_icmp .ge 44, 3) := by decide +kernel
theorem d_PC_wealth_80 : decode prog_1_method_19_code 80 = .ok (.iload_n 2, 1) := by decide +kernel
theorem d_PC_wealth_81 : decode prog_1_method_19_code 81 = .ok (.ireturn, 1) := by decide +kernel
theorem d_PC_wealth_39 : decode prog_1_method_19_code 39 = .ok (.aload_n 0, 1) := by decide +kernel
theorem d_PC_wealth_40 : decode prog_1_method_19_code 40 = .ok (.getfield 19, 3) := by decide +kernel
theorem d_PC_wealth_43 : decode prog_1_method_19_code 43 = .ok (.getfield 166, 3) := by decide +kernel
theorem d_PC_wealth_46 : decode prog_1_method_19_code 46 = .ok (.iload_n 3, 1) := by decide +kernel
theorem d_PC_wealth_47 : decode prog_1_method_19_code 47 = .ok (.iaload, 1) := by decide +kernel
theorem d_PC_wealth_48 : decode prog_1_method_19_code 48 = .ok (.iload_n 1, 1) := by decide +kernel
theorem d_PC_wealth_49 : decode prog_1_method_19_code 49 = .ok (.if_icmp .ne 25, 3) := by decide +kernel
theorem d_PC_wealth_74 : decode prog_1_method_19_code 74 = .ok (.iinc 3 1, 3) := by decide +kernel
theorem d_PC_wealth_77 : decode prog_1_method_19_code 77 = .ok (.goto (-51), 3) := by decide +kernel
theorem d_PC_wealth_52 : decode prog_1_method_19_code 52 = .ok (.iload_n 2, 1) := by decide +kernel
theorem d_PC_wealth_53 : decode prog_1_method_19_code 53 = .ok (.aload_n 0, 1) := by decide +kernel
theorem d_PC_wealth_54 : decode prog_1_method_19_code 54 = .ok (.getfield 19, 3) := by decide +kernel
theorem d_PC_wealth_57 : decode prog_1_method_19_code 57 = .ok (.getfield 160, 3) := by decide +kernel
theorem d_PC_wealth_60 : decode prog_1_method_19_code 60 = .ok (.iload_n 3, 1) := by decide +kernel
theorem d_PC_wealth_61 : decode prog_1_method_19_code 61 = .ok (.iaload, 1) := by decide +kernel
theorem d_PC_wealth_62 : decode prog_1_method_19_code 62 = .ok (.aload_n 0, 1) := by decide +kernel
theorem d_PC_wealth_63 : decode prog_1_method_19_code 63 = .ok (.getfield 19, 3) := by decide +kernel
theorem d_PC_wealth_66 : decode prog_1_method_19_code 66 = .ok (.getfield 163, 3) := by decide +kernel
theorem d_PC_wealth_69 : decode prog_1_method_19_code 69 = .ok (.iload_n 3, 1) := by decide +kernel
theorem d_PC_wealth_70 : decode prog_1_method_19_code 70 = .ok (.iaload, 1) := by decide +kernel
theorem d_PC_wealth_71 : decode prog_1_method_19_code 71 = .ok (.iadd, 1) := by decide +kernel
theorem d_PC_wealth_72 : decode prog_1_method_19_code 72 = .ok (.iadd, 1) := by decide +kernel
theorem d_PC_wealth_73 : decode prog_1_method_19_code 73 = .ok (.istore_n 2, 1) := by decide +kernel
theorem d_PC_off_0 : decode prog_1_method_20_code 0 = .ok (.aload_n 0, 1) := by decide +kernel
theorem d_PC_off_1 : decode prog_1_method_20_code 1 = .ok (.getfield 19, 3) := by decide +kernel
theorem d_PC_off_4 : decode prog_1_method_20_code 4 = .ok (.invokevirtual 199, 3) := by decide +kernel
theorem d_PC_off_7 : decode prog_1_method_20_code 7 = .ok (.ireturn, 1) := by decide +kernel
theorem d_PC_findRing_0 : decode prog_1_method_33_code 0 = .ok (.aload_n 0, 1) := by decide +kernel
theorem d_PC_findRing_1 : decode prog_1_method_33_code 1 = .ok (.getfield 40, 3) := by decide +kernel
theorem d_PC_findRing_4 : decode prog_1_method_33_code 4 = .ok (.aload_n 0, 1) := by decide +kernel
theorem d_PC_findRing_5 : decode prog_1_method_33_code 5 = .ok (.getfield 19, 3) := by decide +kernel
theorem d_PC_findRing_8 : decode prog_1_method_33_code 8 = .ok (.invokevirtual 199, 3) := by decide +kernel
theorem d_PC_findRing_11 : decode prog_1_method_33_code 11 = .ok (.invokevirtual 303, 3) := by decide +kernel
theorem d_PC_findRing_14 : decode prog_1_method_33_code 14 = .ok (.iconst 0, 1) := by decide +kernel
theorem d_PC_findRing_15 : decode prog_1_method_33_code 15 = .ok (.istore_n 1, 1) := by decide +kernel
theorem d_PC_findRing_16 : decode prog_1_method_33_code 16 = .ok (.iload_n 1, 1) := by decide +kernel
theorem d_PC_findRing_17 : decode prog_1_method_33_code 17 = .ok (.aload_n 0, 1) := by decide +kernel
theorem d_PC_findRing_18 : decode prog_1_method_33_code 18 = .ok (.getfield 19, 3) := by decide +kernel
theorem d_PC_findRing_21 : decode prog_1_method_33_code 21 = .ok (.getfield 69, 3) := by decide +kernel
theorem d_PC_findRing_24 : decode prog_1_method_33_code 24 = .ok (.if_icmp .ge 134, 3) := by decide +kernel
theorem d_PC_findRing_158 : decode prog_1_method_33_code 158 = .ok (.aload_n 0, 1) := by decide +kernel
theorem d_PC_findRing_159 : decode prog_1_method_33_code 159 = .ok (.getfield 40, 3) := by decide +kernel
theorem d_PC_findRing_162 : decode prog_1_method_33_code 162 = .ok (.getfield 207, 3) := by decide +kernel
theorem d_PC_findRing_165 : decode prog_1_method_33_code 165 = .ok (.getfield 74, 3) := by decide +kernel
theorem d_PC_findRing_168 : decode prog_1_method_33_code 168 = .ok (.ifCond .le 7, 3) := by decide +kernel
theorem d_PC_findRing_175 : decode prog_1_method_33_code 175 = .ok (.iconst 0, 1) := by decide +kernel
theorem d_PC_findRing_176 : decode prog_1_method_33_code 176 = .ok (.ireturn, 1) := by decide +kernel
theorem d_PC_findRing_171 : decode prog_1_method_33_code 171 = .ok (.iconst 1, 1) := by decide +kernel
theorem d_PC_findRing_172 : decode prog_1_method_33_code 172 = .ok (.goto 4, 3) := by decide +kernel
theorem d_PC_findRing_27 : decode prog_1_method_33_code 27 = .ok (.iconst 0, 1) := by decide +kernel
theorem d_PC_findRing_28 : decode prog_1_method_33_code 28 = .ok (.istore_n 2, 1) := by decide +kernel
theorem d_PC_findRing_29 : decode prog_1_method_33_code 29 = .ok (.iload_n 2, 1) := by decide +kernel
theorem d_PC_findRing_30 : decode prog_1_method_33_code 30 = .ok (.iconst 1, 1) := by decide +kernel
theorem d_PC_findRing_31 : decode prog_1_method_33_code 31 = .ok (.if_icmp .gt 121, 3) := by decide +kernel
theorem d_PC_findRing_152 : decode prog_1_method_33_code 152 = .ok (.iinc 1 1, 3) := by decide +kernel
theorem d_PC_findRing_155 : decode prog_1_method_33_code 155 = .ok (.goto (-139), 3) := by decide +kernel
theorem d_PC_findRing_34 : decode prog_1_method_33_code 34 = .ok (.aload_n 0, 1) := by decide +kernel
theorem d_PC_findRing_35 : decode prog_1_method_33_code 35 = .ok (.getfield 19, 3) := by decide +kernel
theorem d_PC_findRing_38 : decode prog_1_method_33_code 38 = .ok (.iload_n 1, 1) := by decide +kernel
theorem d_PC_findRing_39 : decode prog_1_method_33_code 39 = .ok (.invokevirtual 185, 3) := by decide +kernel
theorem d_PC_findRing_42 : decode prog_1_method_33_code 42 = .ok (.ifCond .eq 104, 3) := by decide +kernel
theorem d_PC_findRing_146 : decode prog_1_method_33_code 146 = .ok (.iinc 2 1, 3) := by decide +kernel
theorem d_PC_findRing_149 : decode prog_1_method_33_code 149 = .ok (.goto (-120), 3) := by decide +kernel
theorem d_PC_findRing_45 : decode prog_1_method_33_code 45 = .ok (.aload_n 0, 1) := by decide +kernel
theorem d_PC_findRing_46 : decode prog_1_method_33_code 46 = .ok (.getfield 19, 3) := by decide +kernel
theorem d_PC_findRing_49 : decode prog_1_method_33_code 49 = .ok (.getfield 160, 3) := by decide +kernel
theorem d_PC_findRing_52 : decode prog_1_method_33_code 52 = .ok (.iconst 2, 1) := by decide +kernel
theorem d_PC_findRing_53 : decode prog_1_method_33_code 53 = .ok (.iload_n 1, 1) := by decide +kernel
theorem d_PC_findRing_54 : decode prog_1_method_33_code 54 = .ok (.imul, 1) := by decide +kernel
theorem d_PC_findRing_55 : decode prog_1_method_33_code 55 = .ok (.iload_n 2, 1) := by decide +kernel
theorem d_PC_findRing_56 : decode prog_1_method_33_code 56 = .ok (.iadd, 1) := by decide +kernel
theorem d_PC_findRing_57 : decode prog_1_method_33_code 57 = .ok (.iaload, 1) := by decide +kernel
theorem d_PC_findRing_58 : decode prog_1_method_33_code 58 = .ok (.ifCond .ne 6, 3) := by decide +kernel
theorem d_PC_findRing_64 : decode prog_1_method_33_code 64 = .ok (.aload_n 0, 1) := by decide +kernel
theorem d_PC_findRing_65 : decode prog_1_method_33_code 65 = .ok (.getfield 19, 3) := by decide +kernel
theorem d_PC_findRing_68 : decode prog_1_method_33_code 68 = .ok (.getfield 166, 3) := by decide +kernel
theorem d_PC_findRing_71 : decode prog_1_method_33_code 71 = .ok (.iconst 2, 1) := by decide +kernel
theorem d_PC_findRing_72 : decode prog_1_method_33_code 72 = .ok (.iload_n 1, 1) := by decide +kernel
theorem d_PC_findRing_73 : decode prog_1_method_33_code 73 = .ok (.imul, 1) := by decide +kernel
theorem d_PC_findRing_74 : decode prog_1_method_33_code 74 = .ok (.iconst 1, 1) := by decide +kernel
theorem d_PC_findRing_75 : decode prog_1_method_33_code 75 = .ok (.iadd, 1) := by decide +kernel
theorem d_PC_findRing_76 : decode prog_1_method_33_code 76 = .ok (.iload_n 2, 1) := by decide +kernel
theorem d_PC_findRing_77 : decode prog_1_method_33_code 77 = .ok (.isub, 1) := by decide +kernel
theorem d_PC_findRing_78 : decode prog_1_method_33_code 78 = .ok (.iaload, 1) := by decide +kernel
theorem d_PC_findRing_79 : decode prog_1_method_33_code 79 = .ok (.istore_n 3, 1) := by decide +kernel
theorem d_PC_findRing_80 : decode prog_1_method_33_code 80 = .ok (.aload_n 0, 1) := by decide +kernel
theorem d_PC_findRing_81 : decode prog_1_method_33_code 81 = .ok (.getfield 40, 3) := by decide +kernel
theorem d_PC_findRing_84 : decode prog_1_method_33_code 84 = .ok (.aload_n 0, 1) := by decide +kernel
theorem d_PC_findRing_85 : decode prog_1_method_33_code 85 = .ok (.getfield 19, 3) := by decide +kernel
theorem d_PC_findRing_88 : decode prog_1_method_33_code 88 = .ok (.getfield 166, 3) := by decide +kernel
theorem d_PC_findRing_91 : decode prog_1_method_33_code 91 = .ok (.iconst 2, 1) := by decide +kernel
theorem d_PC_findRing_92 : decode prog_1_method_33_code 92 = .ok (.iload_n 1, 1) := by decide +kernel
theorem d_PC_findRing_93 : decode prog_1_method_33_code 93 = .ok (.imul, 1) := by decide +kernel
theorem d_PC_findRing_94 : decode prog_1_method_33_code 94 = .ok (.iload_n 2, 1) := by decide +kernel
theorem d_PC_findRing_95 : decode prog_1_method_33_code 95 = .ok (.iadd, 1) := by decide +kernel
theorem d_PC_findRing_96 : decode prog_1_method_33_code 96 = .ok (.iaload, 1) := by decide +kernel
theorem d_PC_findRing_97 : decode prog_1_method_33_code 97 = .ok (.putfield 304, 3) := by decide +kernel
theorem d_PC_findRing_100 : decode prog_1_method_33_code 100 = .ok (.aload_n 0, 1) := by decide +kernel
theorem d_PC_findRing_101 : decode prog_1_method_33_code 101 = .ok (.getfield 40, 3) := by decide +kernel
theorem d_PC_findRing_104 : decode prog_1_method_33_code 104 = .ok (.getfield 307, 3) := by decide +kernel
theorem d_PC_findRing_107 : decode prog_1_method_33_code 107 = .ok (.iconst 0, 1) := by decide +kernel
theorem d_PC_findRing_108 : decode prog_1_method_33_code 108 = .ok (.iload_n 1, 1) := by decide +kernel
theorem d_PC_findRing_109 : decode prog_1_method_33_code 109 = .ok (.iload_n 2, 1) := by decide +kernel
theorem d_PC_findRing_110 : decode prog_1_method_33_code 110 = .ok (.invokevirtual 279, 3) := by decide +kernel
theorem d_PC_findRing_113 : decode prog_1_method_33_code 113 = .ok (.aload_n 0, 1) := by decide +kernel
theorem d_PC_findRing_114 : decode prog_1_method_33_code 114 = .ok (.getfield 40, 3) := by decide +kernel
theorem d_PC_findRing_117 : decode prog_1_method_33_code 117 = .ok (.getfield 310, 3) := by decide +kernel
theorem d_PC_findRing_120 : decode prog_1_method_33_code 120 = .ok (.iload_n 3, 1) := by decide +kernel
theorem d_PC_findRing_121 : decode prog_1_method_33_code 121 = .ok (.iconst 1, 1) := by decide +kernel
theorem d_PC_findRing_122 : decode prog_1_method_33_code 122 = .ok (.bastore, 1) := by decide +kernel
theorem d_PC_findRing_123 : decode prog_1_method_33_code 123 = .ok (.aload_n 0, 1) := by decide +kernel
theorem d_PC_findRing_124 : decode prog_1_method_33_code 124 = .ok (.getfield 40, 3) := by decide +kernel
theorem d_PC_findRing_127 : decode prog_1_method_33_code 127 = .ok (.aload_n 0, 1) := by decide +kernel
theorem d_PC_findRing_128 : decode prog_1_method_33_code 128 = .ok (.getfield 19, 3) := by decide +kernel
theorem d_PC_findRing_131 : decode prog_1_method_33_code 131 = .ok (.iload_n 3, 1) := by decide +kernel
theorem d_PC_findRing_132 : decode prog_1_method_33_code 132 = .ok (.iconst 1, 1) := by decide +kernel
theorem d_PC_findRing_133 : decode prog_1_method_33_code 133 = .ok (.invokestatic 311, 3) := by decide +kernel
theorem d_PC_findRing_136 : decode prog_1_method_33_code 136 = .ok (.aload_n 0, 1) := by decide +kernel
theorem d_PC_findRing_137 : decode prog_1_method_33_code 137 = .ok (.getfield 40, 3) := by decide +kernel
theorem d_PC_findRing_140 : decode prog_1_method_33_code 140 = .ok (.getfield 310, 3) := by decide +kernel
theorem d_PC_findRing_143 : decode prog_1_method_33_code 143 = .ok (.iload_n 3, 1) := by decide +kernel
theorem d_PC_findRing_144 : decode prog_1_method_33_code 144 = .ok (.iconst 0, 1) := by decide +kernel
theorem d_PC_findRing_145 : decode prog_1_method_33_code 145 = .ok (.bastore, 1) := by decide +kernel
theorem d_PC_findRing_61 : decode prog_1_method_33_code 61 = .ok (.goto 85, 3) := by decide +kernel
theorem d_PC_ring_0 : decode prog_1_method_21_code 0 = .ok (.iload_n 1, 1) := by decide +kernel
theorem d_PC_ring_1 : decode prog_1_method_21_code 1 = .ok (.iconst 0, 1) := by decide +kernel
theorem d_PC_ring_2 : decode prog_1_method_21_code 2 = .ok (.iconst 4, 1) := by decide +kernel
theorem d_PC_ring_3 : decode prog_1_method_21_code 3 = .ok (.invokestatic 65, 3) := by decide +kernel
theorem d_PC_ring_6 : decode prog_1_method_21_code 6 = .ok (.ifCond .ne 6, 3) := by decide +kernel
theorem d_PC_ring_12 : decode prog_1_method_21_code 12 = .ok (.aload_n 0, 1) := by decide +kernel
theorem d_PC_ring_13 : decode prog_1_method_21_code 13 = .ok (.invokevirtual 203, 3) := by decide +kernel
theorem d_PC_ring_16 : decode prog_1_method_21_code 16 = .ok (.ifCond .ne 5, 3) := by decide +kernel
theorem d_PC_ring_19 : decode prog_1_method_21_code 19 = .ok (.iconst (-1), 1) := by decide +kernel
theorem d_PC_ring_20 : decode prog_1_method_21_code 20 = .ok (.ireturn, 1) := by decide +kernel
theorem d_PC_ring_21 : decode prog_1_method_21_code 21 = .ok (.iload_n 2, 1) := by decide +kernel
theorem d_PC_ring_22 : decode prog_1_method_21_code 22 = .ok (.iconst 0, 1) := by decide +kernel
theorem d_PC_ring_23 : decode prog_1_method_21_code 23 = .ok (.aload_n 0, 1) := by decide +kernel
theorem d_PC_ring_24 : decode prog_1_method_21_code 24 = .ok (.getfield 40, 3) := by decide +kernel
theorem d_PC_ring_27 : decode prog_1_method_21_code 27 = .ok (.getfield 207, 3) := by decide +kernel
theorem d_PC_ring_30 : decode prog_1_method_21_code 30 = .ok (.getfield 74, 3) := by decide +kernel
theorem d_PC_ring_33 : decode prog_1_method_21_code 33 = .ok (.iconst 1, 1) := by decide +kernel
theorem d_PC_ring_34 : decode prog_1_method_21_code 34 = .ok (.isub, 1) := by decide +kernel
theorem d_PC_ring_35 : decode prog_1_method_21_code 35 = .ok (.invokestatic 65, 3) := by decide +kernel
theorem d_PC_ring_38 : decode prog_1_method_21_code 38 = .ok (.istore_n 3, 1) := by decide +kernel
theorem d_PC_ring_39 : decode prog_1_method_21_code 39 = .ok (.iload_n 1, 1) := by decide +kernel
theorem d_PC_ring_40 : decode prog_1_method_21_code 40 = .ok (.tableswitch 80 0 3 #[32, 40, 48, 59], 32) := by decide +kernel
theorem d_PC_ring_72 : decode prog_1_method_21_code 72 = .ok (.aload_n 0, 1) := by decide +kernel
theorem d_PC_ring_73 : decode prog_1_method_21_code 73 = .ok (.getfield 40, 3) := by decide +kernel
theorem d_PC_ring_76 : decode prog_1_method_21_code 76 = .ok (.getfield 208, 3) := by decide +kernel
theorem d_PC_ring_79 : decode prog_1_method_21_code 79 = .ok (.ireturn, 1) := by decide +kernel
theorem d_PC_ring_80 : decode prog_1_method_21_code 80 = .ok (.aload_n 0, 1) := by decide +kernel
theorem d_PC_ring_81 : decode prog_1_method_21_code 81 = .ok (.getfield 40, 3) := by decide +kernel
theorem d_PC_ring_84 : decode prog_1_method_21_code 84 = .ok (.getfield 211, 3) := by decide +kernel
theorem d_PC_ring_87 : decode prog_1_method_21_code 87 = .ok (.ireturn, 1) := by decide +kernel
theorem d_PC_ring_88 : decode prog_1_method_21_code 88 = .ok (.aload_n 0, 1) := by decide +kernel
theorem d_PC_ring_89 : decode prog_1_method_21_code 89 = .ok (.getfield 40, 3) := by decide +kernel
theorem d_PC_ring_92 : decode prog_1_method_21_code 92 = .ok (.getfield 207, 3) := by decide +kernel
theorem d_PC_ring_95 : decode prog_1_method_21_code 95 = .ok (.getfield 74, 3) := by decide +kernel
theorem d_PC_ring_98 : decode prog_1_method_21_code 98 = .ok (.ireturn, 1) := by decide +kernel
theorem d_PC_ring_99 : decode prog_1_method_21_code 99 = .ok (.iload_n 3, 1) := by decide +kernel
theorem d_PC_ring_100 : decode prog_1_method_21_code 100 = .ok (.ifCond .eq 18, 3) := by decide +kernel
theorem d_PC_ring_118 : decode prog_1_method_21_code 118 = .ok (.iconst (-1), 1) := by decide +kernel
theorem d_PC_ring_119 : decode prog_1_method_21_code 119 = .ok (.ireturn, 1) := by decide +kernel
theorem d_PC_ring_103 : decode prog_1_method_21_code 103 = .ok (.aload_n 0, 1) := by decide +kernel
theorem d_PC_ring_104 : decode prog_1_method_21_code 104 = .ok (.getfield 40, 3) := by decide +kernel
theorem d_PC_ring_107 : decode prog_1_method_21_code 107 = .ok (.getfield 207, 3) := by decide +kernel
theorem d_PC_ring_110 : decode prog_1_method_21_code 110 = .ok (.getfield 121, 3) := by decide +kernel
theorem d_PC_ring_113 : decode prog_1_method_21_code 113 = .ok (.iload_n 2, 1) := by decide +kernel
theorem d_PC_ring_114 : decode prog_1_method_21_code 114 = .ok (.iaload, 1) := by decide +kernel
theorem d_PC_ring_115 : decode prog_1_method_21_code 115 = .ok (.goto 4, 3) := by decide +kernel
theorem d_PC_ring_120 : decode prog_1_method_21_code 120 = .ok (.iload_n 3, 1) := by decide +kernel
theorem d_PC_ring_121 : decode prog_1_method_21_code 121 = .ok (.ifCond .eq 18, 3) := by decide +kernel
theorem d_PC_ring_139 : decode prog_1_method_21_code 139 = .ok (.iconst (-1), 1) := by decide +kernel
theorem d_PC_ring_140 : decode prog_1_method_21_code 140 = .ok (.ireturn, 1) := by decide +kernel
theorem d_PC_ring_124 : decode prog_1_method_21_code 124 = .ok (.aload_n 0, 1) := by decide +kernel
theorem d_PC_ring_125 : decode prog_1_method_21_code 125 = .ok (.getfield 40, 3) := by decide +kernel
theorem d_PC_ring_128 : decode prog_1_method_21_code 128 = .ok (.getfield 207, 3) := by decide +kernel
theorem d_PC_ring_131 : decode prog_1_method_21_code 131 = .ok (.getfield 214, 3) := by decide +kernel
theorem d_PC_ring_134 : decode prog_1_method_21_code 134 = .ok (.iload_n 2, 1) := by decide +kernel
theorem d_PC_ring_135 : decode prog_1_method_21_code 135 = .ok (.iaload, 1) := by decide +kernel
theorem d_PC_ring_136 : decode prog_1_method_21_code 136 = .ok (.goto 4, 3) := by decide +kernel
theorem d_PC_ring_9 : decode prog_1_method_21_code 9 = .ok (.bipush (-2), 2) := by decide +kernel
theorem d_PC_ring_11 : decode prog_1_method_21_code 11 = .ok (.ireturn, 1) := by decide +kernel
theorem d_PC_even_0 : decode prog_1_method_22_code 0 = .ok (.aload_n 0, 1) := by decide +kernel
theorem d_PC_even_1 : decode prog_1_method_22_code 1 = .ok (.invokevirtual 203, 3) := by decide +kernel
theorem d_PC_even_4 : decode prog_1_method_22_code 4 = .ok (.ifCond .ne 6, 3) := by decide +kernel
theorem d_PC_even_7 : decode prog_1_method_22_code 7 = .ok (.bipush (-3), 2) := by decide +kernel
theorem d_PC_even_9 : decode prog_1_method_22_code 9 = .ok (.ireturn, 1) := by decide +kernel
theorem d_PC_even_10 : decode prog_1_method_22_code 10 = .ok (.iconst 0, 1) := by decide +kernel
theorem d_PC_even_11 : decode prog_1_method_22_code 11 = .ok (.istore_n 1, 1) := by decide +kernel
theorem d_PC_even_12 : decode prog_1_method_22_code 12 = .ok (.iload_n 1, 1) := by decide +kernel
theorem d_PC_even_13 : decode prog_1_method_22_code 13 = .ok (.aload_n 0, 1) := by decide +kernel
theorem d_PC_even_14 : decode prog_1_method_22_code 14 = .ok (.getfield 40, 3) := by decide +kernel
theorem d_PC_even_17 : decode prog_1_method_22_code 17 = .ok (.getfield 207, 3) := by decide +kernel
theorem d_PC_even_20 : decode prog_1_method_22_code 20 = .ok (.getfield 74, 3) := by decide +kernel
theorem d_PC_even_23 : decode prog_1_method_22_code 23 = .ok (.if_icmp .ge 47, 3) := by decide +kernel
theorem d_PC_even_70 : decode prog_1_method_22_code 70 = .ok (.aload_n 0, 1) := by decide +kernel
theorem d_PC_even_71 : decode prog_1_method_22_code 71 = .ok (.getfield 40, 3) := by decide +kernel
theorem d_PC_even_74 : decode prog_1_method_22_code 74 = .ok (.getfield 211, 3) := by decide +kernel
theorem d_PC_even_77 : decode prog_1_method_22_code 77 = .ok (.ireturn, 1) := by decide +kernel
theorem d_PC_even_26 : decode prog_1_method_22_code 26 = .ok (.aload_n 0, 1) := by decide +kernel
theorem d_PC_even_27 : decode prog_1_method_22_code 27 = .ok (.getfield 19, 3) := by decide +kernel
theorem d_PC_even_30 : decode prog_1_method_22_code 30 = .ok (.aload_n 0, 1) := by decide +kernel
theorem d_PC_even_31 : decode prog_1_method_22_code 31 = .ok (.getfield 40, 3) := by decide +kernel
theorem d_PC_even_34 : decode prog_1_method_22_code 34 = .ok (.getfield 207, 3) := by decide +kernel
theorem d_PC_even_37 : decode prog_1_method_22_code 37 = .ok (.getfield 121, 3) := by decide +kernel
theorem d_PC_even_40 : decode prog_1_method_22_code 40 = .ok (.iload_n 1, 1) := by decide +kernel
theorem d_PC_even_41 : decode prog_1_method_22_code 41 = .ok (.iaload, 1) := by decide +kernel
theorem d_PC_even_42 : decode prog_1_method_22_code 42 = .ok (.aload_n 0, 1) := by decide +kernel
theorem d_PC_even_43 : decode prog_1_method_22_code 43 = .ok (.getfield 40, 3) := by decide +kernel
theorem d_PC_even_46 : decode prog_1_method_22_code 46 = .ok (.getfield 207, 3) := by decide +kernel
theorem d_PC_even_49 : decode prog_1_method_22_code 49 = .ok (.getfield 214, 3) := by decide +kernel
theorem d_PC_even_52 : decode prog_1_method_22_code 52 = .ok (.iload_n 1, 1) := by decide +kernel
theorem d_PC_even_53 : decode prog_1_method_22_code 53 = .ok (.iaload, 1) := by decide +kernel
theorem d_PC_even_54 : decode prog_1_method_22_code 54 = .ok (.aload_n 0, 1) := by decide +kernel
theorem d_PC_even_55 : decode prog_1_method_22_code 55 = .ok (.getfield 40, 3) := by decide +kernel
theorem d_PC_even_58 : decode prog_1_method_22_code 58 = .ok (.getfield 211, 3) := by decide +kernel
theorem d_PC_even_61 : decode prog_1_method_22_code 61 = .ok (.invokevirtual 217, 3) := by decide +kernel
theorem d_PC_even_64 : decode prog_1_method_22_code 64 = .ok (.iinc 1 1, 3) := by decide +kernel
theorem d_PC_even_67 : decode prog_1_method_22_code 67 = .ok (.goto (-55), 3) := by decide +kernel
theorem d_PC_tries_0 : decode prog_1_method_23_code 0 = .ok (.iload_n 1, 1) := by decide +kernel
theorem d_PC_tries_1 : decode prog_1_method_23_code 1 = .ok (.iconst 1, 1) := by decide +kernel
theorem d_PC_tries_2 : decode prog_1_method_23_code 2 = .ok (.ldc 221, 2) := by decide +kernel
theorem d_PC_tries_4 : decode prog_1_method_23_code 4 = .ok (.invokestatic 65, 3) := by decide +kernel
theorem d_PC_tries_7 : decode prog_1_method_23_code 7 = .ok (.ifCond .ne 6, 3) := by decide +kernel
theorem d_PC_tries_13 : decode prog_1_method_23_code 13 = .ok (.aload_n 0, 1) := by decide +kernel
theorem d_PC_tries_14 : decode prog_1_method_23_code 14 = .ok (.getfield 47, 3) := by decide +kernel
theorem d_PC_tries_17 : decode prog_1_method_23_code 17 = .ok (.getfield 74, 3) := by decide +kernel
theorem d_PC_tries_20 : decode prog_1_method_23_code 20 = .ok (.ifCond .eq 17, 3) := by decide +kernel
theorem d_PC_tries_37 : decode prog_1_method_23_code 37 = .ok (.bipush (-3), 2) := by decide +kernel
theorem d_PC_tries_39 : decode prog_1_method_23_code 39 = .ok (.ireturn, 1) := by decide +kernel
theorem d_PC_tries_23 : decode prog_1_method_23_code 23 = .ok (.aload_n 0, 1) := by decide +kernel
theorem d_PC_tries_24 : decode prog_1_method_23_code 24 = .ok (.getfield 19, 3) := by decide +kernel
theorem d_PC_tries_27 : decode prog_1_method_23_code 27 = .ok (.aload_n 0, 1) := by decide +kernel
theorem d_PC_tries_28 : decode prog_1_method_23_code 28 = .ok (.getfield 47, 3) := by decide +kernel
theorem d_PC_tries_31 : decode prog_1_method_23_code 31 = .ok (.invokevirtual 222, 3) := by decide +kernel
theorem d_PC_tries_34 : decode prog_1_method_23_code 34 = .ok (.ifCond .ne 6, 3) := by decide +kernel
theorem d_PC_tries_40 : decode prog_1_method_23_code 40 = .ok (.iconst 0, 1) := by decide +kernel
theorem d_PC_tries_41 : decode prog_1_method_23_code 41 = .ok (.istore_n 2, 1) := by decide +kernel
theorem d_PC_tries_42 : decode prog_1_method_23_code 42 = .ok (.iload_n 2, 1) := by decide +kernel
theorem d_PC_tries_43 : decode prog_1_method_23_code 43 = .ok (.aload_n 0, 1) := by decide +kernel
theorem d_PC_tries_44 : decode prog_1_method_23_code 44 = .ok (.getfield 47, 3) := by decide +kernel
theorem d_PC_tries_47 : decode prog_1_method_23_code 47 = .ok (.getfield 74, 3) := by decide +kernel
theorem d_PC_tries_50 : decode prog_1_method_23_code 50 = .ok (.if_icmp .ge 40, 3) := by decide +kernel
theorem d_PC_tries_90 : decode prog_1_method_23_code 90 = .ok (.aload_n 0, 1) := by decide +kernel
theorem d_PC_tries_91 : decode prog_1_method_23_code 91 = .ok (.getfield 47, 3) := by decide +kernel
theorem d_PC_tries_94 : decode prog_1_method_23_code 94 = .ok (.getfield 74, 3) := by decide +kernel
theorem d_PC_tries_97 : decode prog_1_method_23_code 97 = .ok (.ireturn, 1) := by decide +kernel
theorem d_PC_tries_53 : decode prog_1_method_23_code 53 = .ok (.aload_n 0, 1) := by decide +kernel
theorem d_PC_tries_54 : decode prog_1_method_23_code 54 = .ok (.getfield 19, 3) := by decide +kernel
theorem d_PC_tries_57 : decode prog_1_method_23_code 57 = .ok (.aload_n 0, 1) := by decide +kernel
theorem d_PC_tries_58 : decode prog_1_method_23_code 58 = .ok (.getfield 47, 3) := by decide +kernel
theorem d_PC_tries_61 : decode prog_1_method_23_code 61 = .ok (.getfield 121, 3) := by decide +kernel
theorem d_PC_tries_64 : decode prog_1_method_23_code 64 = .ok (.iload_n 2, 1) := by decide +kernel
theorem d_PC_tries_65 : decode prog_1_method_23_code 65 = .ok (.iaload, 1) := by decide +kernel
theorem d_PC_tries_66 : decode prog_1_method_23_code 66 = .ok (.aload_n 0, 1) := by decide +kernel
theorem d_PC_tries_67 : decode prog_1_method_23_code 67 = .ok (.getfield 47, 3) := by decide +kernel
theorem d_PC_tries_70 : decode prog_1_method_23_code 70 = .ok (.getfield 214, 3) := by decide +kernel
theorem d_PC_tries_73 : decode prog_1_method_23_code 73 = .ok (.iload_n 2, 1) := by decide +kernel
theorem d_PC_tries_74 : decode prog_1_method_23_code 74 = .ok (.iaload, 1) := by decide +kernel
theorem d_PC_tries_75 : decode prog_1_method_23_code 75 = .ok (.iload_n 1, 1) := by decide +kernel
theorem d_PC_tries_76 : decode prog_1_method_23_code 76 = .ok (.invokevirtual 226, 3) := by decide +kernel
theorem d_PC_tries_79 : decode prog_1_method_23_code 79 = .ok (.ifCond .ne 5, 3) := by decide +kernel
theorem d_PC_tries_82 : decode prog_1_method_23_code 82 = .ok (.iload_n 2, 1) := by decide +kernel
theorem d_PC_tries_83 : decode prog_1_method_23_code 83 = .ok (.ireturn, 1) := by decide +kernel
theorem d_PC_tries_84 : decode prog_1_method_23_code 84 = .ok (.iinc 2 1, 3) := by decide +kernel
theorem d_PC_tries_87 : decode prog_1_method_23_code 87 = .ok (.goto (-45), 3) := by decide +kernel
theorem d_PC_tries_10 : decode prog_1_method_23_code 10 = .ok (.bipush (-2), 2) := by decide +kernel
theorem d_PC_tries_12 : decode prog_1_method_23_code 12 = .ok (.ireturn, 1) := by decide +kernel
theorem d_PC_learnt_0 : decode prog_1_method_24_code 0 = .ok (.aload_n 0, 1) := by decide +kernel
theorem d_PC_learnt_1 : decode prog_1_method_24_code 1 = .ok (.getfield 19, 3) := by decide +kernel
theorem d_PC_learnt_4 : decode prog_1_method_24_code 4 = .ok (.iload_n 1, 1) := by decide +kernel
theorem d_PC_learnt_5 : decode prog_1_method_24_code 5 = .ok (.invokevirtual 159, 3) := by decide +kernel
theorem d_PC_learnt_8 : decode prog_1_method_24_code 8 = .ok (.ifCond .eq 12, 3) := by decide +kernel
theorem d_PC_learnt_20 : decode prog_1_method_24_code 20 = .ok (.bipush (-2), 2) := by decide +kernel
theorem d_PC_learnt_22 : decode prog_1_method_24_code 22 = .ok (.ireturn, 1) := by decide +kernel
theorem d_PC_learnt_11 : decode prog_1_method_24_code 11 = .ok (.iload_n 2, 1) := by decide +kernel
theorem d_PC_learnt_12 : decode prog_1_method_24_code 12 = .ok (.iconst 0, 1) := by decide +kernel
theorem d_PC_learnt_13 : decode prog_1_method_24_code 13 = .ok (.iconst 1, 1) := by decide +kernel
theorem d_PC_learnt_14 : decode prog_1_method_24_code 14 = .ok (.invokestatic 65, 3) := by decide +kernel
theorem d_PC_learnt_17 : decode prog_1_method_24_code 17 = .ok (.ifCond .ne 6, 3) := by decide +kernel
theorem d_PC_learnt_23 : decode prog_1_method_24_code 23 = .ok (.iload_n 2, 1) := by decide +kernel
theorem d_PC_learnt_24 : decode prog_1_method_24_code 24 = .ok (.ifCond .ne 15, 3) := by decide +kernel
theorem d_PC_learnt_39 : decode prog_1_method_24_code 39 = .ok (.aload_n 0, 1) := by decide +kernel
theorem d_PC_learnt_40 : decode prog_1_method_24_code 40 = .ok (.getfield 19, 3) := by decide +kernel
theorem d_PC_learnt_43 : decode prog_1_method_24_code 43 = .ok (.getfield 232, 3) := by decide +kernel
theorem d_PC_learnt_46 : decode prog_1_method_24_code 46 = .ok (.iload_n 1, 1) := by decide +kernel
theorem d_PC_learnt_47 : decode prog_1_method_24_code 47 = .ok (.iaload, 1) := by decide +kernel
theorem d_PC_learnt_48 : decode prog_1_method_24_code 48 = .ok (.ireturn, 1) := by decide +kernel
theorem d_PC_learnt_27 : decode prog_1_method_24_code 27 = .ok (.aload_n 0, 1) := by decide +kernel
theorem d_PC_learnt_28 : decode prog_1_method_24_code 28 = .ok (.getfield 19, 3) := by decide +kernel
theorem d_PC_learnt_31 : decode prog_1_method_24_code 31 = .ok (.getfield 229, 3) := by decide +kernel
theorem d_PC_learnt_34 : decode prog_1_method_24_code 34 = .ok (.iload_n 1, 1) := by decide +kernel
theorem d_PC_learnt_35 : decode prog_1_method_24_code 35 = .ok (.iaload, 1) := by decide +kernel
theorem d_PC_learnt_36 : decode prog_1_method_24_code 36 = .ok (.goto 12, 3) := by decide +kernel
theorem d_PC_count_0 : decode prog_1_method_25_code 0 = .ok (.iload_n 1, 1) := by decide +kernel
theorem d_PC_count_1 : decode prog_1_method_25_code 1 = .ok (.tableswitch 102 0 7 #[47, 55, 63, 71, 79, 84, 89, 94], 47) := by decide +kernel
theorem d_PC_count_48 : decode prog_1_method_25_code 48 = .ok (.aload_n 0, 1) := by decide +kernel
theorem d_PC_count_49 : decode prog_1_method_25_code 49 = .ok (.getfield 12, 3) := by decide +kernel
theorem d_PC_count_52 : decode prog_1_method_25_code 52 = .ok (.getfield 235, 3) := by decide +kernel
theorem d_PC_count_55 : decode prog_1_method_25_code 55 = .ok (.ireturn, 1) := by decide +kernel
theorem d_PC_count_56 : decode prog_1_method_25_code 56 = .ok (.aload_n 0, 1) := by decide +kernel
theorem d_PC_count_57 : decode prog_1_method_25_code 57 = .ok (.getfield 19, 3) := by decide +kernel
theorem d_PC_count_60 : decode prog_1_method_25_code 60 = .ok (.getfield 69, 3) := by decide +kernel
theorem d_PC_count_63 : decode prog_1_method_25_code 63 = .ok (.ireturn, 1) := by decide +kernel
theorem d_PC_count_64 : decode prog_1_method_25_code 64 = .ok (.aload_n 0, 1) := by decide +kernel
theorem d_PC_count_65 : decode prog_1_method_25_code 65 = .ok (.getfield 26, 3) := by decide +kernel
theorem d_PC_count_68 : decode prog_1_method_25_code 68 = .ok (.getfield 124, 3) := by decide +kernel
theorem d_PC_count_71 : decode prog_1_method_25_code 71 = .ok (.ireturn, 1) := by decide +kernel
theorem d_PC_count_72 : decode prog_1_method_25_code 72 = .ok (.aload_n 0, 1) := by decide +kernel
theorem d_PC_count_73 : decode prog_1_method_25_code 73 = .ok (.getfield 26, 3) := by decide +kernel
theorem d_PC_count_76 : decode prog_1_method_25_code 76 = .ok (.getfield 236, 3) := by decide +kernel
theorem d_PC_count_79 : decode prog_1_method_25_code 79 = .ok (.ireturn, 1) := by decide +kernel
theorem d_PC_count_80 : decode prog_1_method_25_code 80 = .ok (.aload_n 0, 1) := by decide +kernel
theorem d_PC_count_81 : decode prog_1_method_25_code 81 = .ok (.getfield 51, 3) := by decide +kernel
theorem d_PC_count_84 : decode prog_1_method_25_code 84 = .ok (.ireturn, 1) := by decide +kernel
theorem d_PC_count_85 : decode prog_1_method_25_code 85 = .ok (.aload_n 0, 1) := by decide +kernel
theorem d_PC_count_86 : decode prog_1_method_25_code 86 = .ok (.getfield 55, 3) := by decide +kernel
theorem d_PC_count_89 : decode prog_1_method_25_code 89 = .ok (.ireturn, 1) := by decide +kernel
theorem d_PC_count_90 : decode prog_1_method_25_code 90 = .ok (.aload_n 0, 1) := by decide +kernel
theorem d_PC_count_91 : decode prog_1_method_25_code 91 = .ok (.getfield 58, 3) := by decide +kernel
theorem d_PC_count_94 : decode prog_1_method_25_code 94 = .ok (.ireturn, 1) := by decide +kernel
theorem d_PC_count_95 : decode prog_1_method_25_code 95 = .ok (.aload_n 0, 1) := by decide +kernel
theorem d_PC_count_96 : decode prog_1_method_25_code 96 = .ok (.getfield 12, 3) := by decide +kernel
theorem d_PC_count_99 : decode prog_1_method_25_code 99 = .ok (.invokevirtual 239, 3) := by decide +kernel
theorem d_PC_count_102 : decode prog_1_method_25_code 102 = .ok (.ireturn, 1) := by decide +kernel
theorem d_PC_count_103 : decode prog_1_method_25_code 103 = .ok (.bipush (-2), 2) := by decide +kernel
theorem d_PC_count_105 : decode prog_1_method_25_code 105 = .ok (.ireturn, 1) := by decide +kernel
set_option maxHeartbeats 4000000 in
set_option maxRecDepth 100000 in
theorem g_PC_promiseAt (l : Launch) (D : va_G) (cI cZ : ClassId) (x : Nat) (i : Int32) (z : Int32) (f0 : Nat) (a0 : Nat) (r0 : Nat) (w0 : Nat) (g0 : Nat) (k0 : Nat) (tm : Int32) (gp : Int32) (lk : Int32) (nq : Nat) (HA : Int32) (r1 : Nat) (r2 : Nat) (r3 : Nat) (r4 : Nat) (r5 : Nat) (r6 : Nat) (r7 : Nat) (r8 : Nat) (r9 : Nat) (r10 : Nat) (r11 : Nat) (PY : Nat → Int32) (PD : Nat → Int32) (HO : Nat → Nat) (HE : Nat → Int32) (KE : Nat → Int32) (TO : Nat → Int32) (LS : Nat → Int32) (sz : Nat) (h_nq : nq ≤ 40) (h_HO : ∀ zz, HO zz ≤ 6) : Met l ⟨"PromiseChains", "promiseAt", "(II)I"⟩ (mw ⟨"PromiseChains", "promiseAt", "(II)I"⟩ prog_1_method_13_code 3 (some .int)) ({ frames := 2, cells := 0, slots := 0, locals := 43 }) (va_Pc [.ref x, .int i, .int z] (PB D cI cZ sz [(x, .inr (0, [.ref f0, .ref a0, .ref r0, .ref w0, .ref g0, .ref k0, .int tm, .int gp, .int lk])), (r0, .inr (3, [.int (nI nq), .int HA, .ref r1, .ref r2, .ref r3, .ref r4, .ref r5, .ref r6, .ref r7, .ref r8, .ref r9, .ref r10, .ref r11])), (r1, .inl (cI, 40, .inl PY)), (r2, .inl (cI, 40, .inl PD)), (r3, .inl (cI, 40, .inl (fun zy => nI (HO zy)))), (r4, .inl (cI, 40, .inl HE)), (r5, .inl (cI, 40, .inl KE)), (r6, .inl (cZ, 40, .inl TO)), (r9, .inl (cI, 240, .inl LS))])) (vp_Si (fun r => True)) 0 0 (fun _ => False) := by
  refine Met.ofW (cc := prog_1_method_13_code) (maxL := 3) (ret := (some .int)) (by decide) rfl ?_
  intro p e s m args below meth c s₁ B hml hv
  obtain ⟨rfl, hsz, hP, hK, hD0, hN⟩ := hv
  have hx := B.exec
  have hb := B.bytes
  have hr := B.returns
  have hts0 := atoms_spec (ws := mw ⟨"PromiseChains", "promiseAt", "(II)I"⟩ prog_1_method_13_code 3 (some .int)) B.pre
  have hts : ∀ w ∈ tblG, w.before _ s = true := fun w h => hts0 w (List.mem_cons_of_mem _ h)
  have hown : s.vm.findClass "PromiseChains" = some m.cls := findClass_of_methodNamed B.named
  have hlocks := B.notSynchronized
  subst hsz
  have hD := hD0
  have hP : va_P D vwCl [(x, .inr (0, [.ref f0, .ref a0, .ref r0, .ref w0, .ref g0, .ref k0, .int tm, .int gp, .int lk])), (r0, .inr (3, [.int (nI nq), .int HA, .ref r1, .ref r2, .ref r3, .ref r4, .ref r5, .ref r6, .ref r7, .ref r8, .ref r9, .ref r10, .ref r11])), (r1, .inl (cI, 40, .inl PY)), (r2, .inl (cI, 40, .inl PD)), (r3, .inl (cI, 40, .inl (fun zy => nI (HO zy)))), (r4, .inl (cI, 40, .inl HE)), (r5, .inl (cI, 40, .inl KE)), (r6, .inl (cZ, 40, .inl TO)), (r9, .inl (cI, 240, .inl LS))] s.heap := hP
  have hl := lv_entry ([.ref x, .int i, .int z]) (n := 3) (Nat.le_of_ble_eq_true rfl)
  rw [lg_entry_eq]
  generalize (lg_sl ([.ref x, .int i, .int z]) ++ List.replicate (3 - (lg_sl ([.ref x, .int i, .int z])).length) Slot.unset).toArray = ls at hl ⊢
  have hl : lv_has ls 3 [(0, .ref x), (1, .int i), (2, .int z)] := hl
  refine lv_aload_n hx hb d_PC_promiseAt_0 rfl (lv_at hl 0 rfl) ?_
  refine va_get (D := D) (ci := 0) (v := .ref r0) (C := R_PC) (T := F_PC) (N := 9) hx hb hts i_PC hown hK hP 0 rfl rfl 2 (by decide) (hts _ q_258) (fun _ h9 => h9) rfl d_PC_promiseAt_1 ?_
  refine lv_iload_n hx hb d_PC_promiseAt_4 rfl (lv_at hl 1 rfl) ?_
  have hPc := hP.sub (ws' := [(r0, .inr (3, [.int (nI nq), .int HA, .ref r1, .ref r2, .ref r3, .ref r4, .ref r5, .ref r6, .ref r7, .ref r8, .ref r9, .ref r10, .ref r11]))]) [1] rfl
  have hDc := hD.sub (ws' := [(r0, .inr (3, [.int (nI nq), .int HA, .ref r1, .ref r2, .ref r3, .ref r4, .ref r5, .ref r6, .ref r7, .ref r8, .ref r9, .ref r10, .ref r11]))]) [1] (by decide) rfl
  refine vp_callSi (va_Run.run (va_runV (As := [.int i]) (rest := []) ⟨hx, hb, hml, hown, hts⟩ (g_PR_has l D cI cZ r0 i nq HA r1 r2 r3 r4 r5 r6 r7 r8 r9 r10 r11 s.heap.size h_nq) (my_cwV 1 hts q_457 q_454 q_455 q_456 q_4 rfl rfl (by decide +kernel) ⟨Nat.le_of_ble_eq_true rfl, Nat.le_of_ble_eq_true rfl⟩) (my_preV hPc hDc hK hN 3 0 rfl rfl) rfl rfl hl.1 rfl (lv_room (Nat.le_of_ble_eq_true rfl)) d_PC_promiseAt_5 ⟨Nat.le_of_ble_eq_true rfl, Nat.le_of_ble_eq_true rfl⟩)) (fun r_1 hw_1 => ?_)
  rcases hw_1 with ⟨hg_2, rfl⟩ | ⟨j_3, hg_4, hg_5, hg_6, rfl⟩
  · have hg_2 : isw i 0 (nI nq - 1) = 0 := hg_2
    refine lv_if_ne (tgt := 14) hx hb d_PC_promiseAt_8 (by decide) (fun h => absurd h (by decide)) (fun _ => ?_)
    refine lv_bipush (v := (-2)) hx hb d_PC_promiseAt_11 (by decide) ?_
    exact W.iret (v := (-2)) hx hb hr (fun tT ht hW => ⟨(-2), rfl, trivial, ht⟩) (fun q h => absurd h List.not_mem_nil) d_PC_promiseAt_13
  · have hg_4 : j_3 < nq := hg_4
    have hg_5 : i = nI j_3 := hg_5
    have hg_6 : ¬ isw i 0 (nI nq - 1) = 0 := hg_6
    subst hg_5
    refine lv_if_ne (tgt := 14) hx hb d_PC_promiseAt_8 (by decide) (fun _ => ?_) (fun h => absurd h (by decide))
    refine lv_iload_n hx hb d_PC_promiseAt_14 rfl (lv_at hl 2 rfl) ?_
    by_cases hz_9 : z = 0
    · subst hz_9
      refine lv_tableIn (off := 41) (tgt := 56) hx hb d_PC_promiseAt_15 (by decide) (by decide) (by decide) (by decide) ?_
      refine lv_aload_n hx hb d_PC_promiseAt_56 rfl (lv_at hl 0 rfl) ?_
      refine va_get (D := D) (ci := 0) (v := .ref r0) (C := R_PC) (T := F_PC) (N := 9) hx hb hts i_PC hown hK hP 0 rfl rfl 2 (by decide) (hts _ q_258) (fun _ h9 => h9) rfl d_PC_promiseAt_57 ?_
      refine lv_iload_n hx hb d_PC_promiseAt_60 rfl (lv_at hl 1 rfl) ?_
      have hPc := hP.sub (ws' := [(r0, .inr (3, [.int (nI nq), .int HA, .ref r1, .ref r2, .ref r3, .ref r4, .ref r5, .ref r6, .ref r7, .ref r8, .ref r9, .ref r10, .ref r11])), (r3, .inl (cI, 40, .inl (fun zy => nI (HO zy)))), (r4, .inl (cI, 40, .inl HE)), (r5, .inl (cI, 40, .inl KE))]) [1, 4, 5, 6] rfl
      have hDc := hD.sub (ws' := [(r0, .inr (3, [.int (nI nq), .int HA, .ref r1, .ref r2, .ref r3, .ref r4, .ref r5, .ref r6, .ref r7, .ref r8, .ref r9, .ref r10, .ref r11])), (r3, .inl (cI, 40, .inl (fun zy => nI (HO zy)))), (r4, .inl (cI, 40, .inl HE)), (r5, .inl (cI, 40, .inl KE))]) [1, 4, 5, 6] (by decide) rfl
      refine vp_callSi (va_Run.run (va_runV (As := [.int (nI j_3)]) (rest := []) ⟨hx, hb, hml, hown, hts⟩ (g_PR_outcome l D cI cZ r0 j_3 nq HA r1 r2 r3 r4 r5 r6 r7 r8 r9 r10 r11 HO HE KE s.heap.size h_nq h_HO (by first | omega | (dsimp only; omega))) (my_cwV 1 hts q_478 q_475 q_476 q_477 q_4 rfl rfl (by decide +kernel) ⟨Nat.le_of_ble_eq_true rfl, Nat.le_of_ble_eq_true rfl⟩) (my_preV hPc hDc hK hN 3 0 rfl rfl) rfl rfl hl.1 rfl (lv_room (Nat.le_of_ble_eq_true rfl)) d_PC_promiseAt_61 ⟨Nat.le_of_ble_eq_true rfl, Nat.le_of_ble_eq_true rfl⟩)) (fun r_10 hw_10 => ?_)
      exact W.iret (v := r_10) hx hb hr (fun tT ht hW => ⟨r_10, rfl, trivial, ht⟩) (fun q h => absurd h List.not_mem_nil) d_PC_promiseAt_64
    by_cases hz_11 : z = 1
    · subst hz_11
      refine lv_tableIn (off := 50) (tgt := 65) hx hb d_PC_promiseAt_15 (by decide) (by decide) (by decide) (by decide) ?_
      refine lv_aload_n hx hb d_PC_promiseAt_65 rfl (lv_at hl 0 rfl) ?_
      refine va_get (D := D) (ci := 0) (v := .ref r0) (C := R_PC) (T := F_PC) (N := 9) hx hb hts i_PC hown hK hP 0 rfl rfl 2 (by decide) (hts _ q_258) (fun _ h9 => h9) rfl d_PC_promiseAt_66 ?_
      refine va_get (D := D) (ci := 3) (v := .ref r2) (C := R_PR) (T := F_PR) (N := 13) hx hb hts i_PR hown hK hP 1 rfl rfl 3 (by decide) (hts _ q_117) (fun _ h9 => h9) rfl d_PC_promiseAt_69 ?_
      refine lv_iload_n hx hb d_PC_promiseAt_72 rfl (lv_at hl 1 rfl) ?_
      refine my_ldI hx hb hK hP 3 rfl j_3 rfl (by omega) (by decide) d_PC_promiseAt_73 ?_
      exact W.iret (v := (PD j_3)) hx hb hr (fun tT ht hW => ⟨(PD j_3), rfl, trivial, ht⟩) (fun q h => absurd h List.not_mem_nil) d_PC_promiseAt_74
    by_cases hz_12 : z = 2
    · subst hz_12
      refine lv_tableIn (off := 60) (tgt := 75) hx hb d_PC_promiseAt_15 (by decide) (by decide) (by decide) (by decide) ?_
      refine lv_aload_n hx hb d_PC_promiseAt_75 rfl (lv_at hl 0 rfl) ?_
      refine va_get (D := D) (ci := 0) (v := .ref r0) (C := R_PC) (T := F_PC) (N := 9) hx hb hts i_PC hown hK hP 0 rfl rfl 2 (by decide) (hts _ q_258) (fun _ h9 => h9) rfl d_PC_promiseAt_76 ?_
      refine va_get (D := D) (ci := 3) (v := .ref r9) (C := R_PR) (T := F_PR) (N := 13) hx hb hts i_PR hown hK hP 1 rfl rfl 10 (by decide) (hts _ q_129) (fun _ h9 => h9) rfl d_PC_promiseAt_79 ?_
      refine lv_iload_n hx hb d_PC_promiseAt_82 rfl (lv_at hl 1 rfl) ?_
      refine lv_bipush (v := 6) hx hb d_PC_promiseAt_83 (by decide) ?_
      refine lv_imul hx hb d_PC_promiseAt_85 ?_
      refine lv_seti (nI (j_3 * 6)) (pk_mul j_3 6) ?_
      refine my_ldI hx hb hK hP 8 rfl (j_3 * 6) rfl (by omega) (by decide) d_PC_promiseAt_86 ?_
      exact W.iret (v := (LS (j_3 * 6))) hx hb hr (fun tT ht hW => ⟨(LS (j_3 * 6)), rfl, trivial, ht⟩) (fun q h => absurd h List.not_mem_nil) d_PC_promiseAt_87
    by_cases hz_13 : z = 3
    · subst hz_13
      refine lv_tableIn (off := 73) (tgt := 88) hx hb d_PC_promiseAt_15 (by decide) (by decide) (by decide) (by decide) ?_
      refine lv_aload_n hx hb d_PC_promiseAt_88 rfl (lv_at hl 0 rfl) ?_
      refine va_get (D := D) (ci := 0) (v := .ref r0) (C := R_PC) (T := F_PC) (N := 9) hx hb hts i_PC hown hK hP 0 rfl rfl 2 (by decide) (hts _ q_258) (fun _ h9 => h9) rfl d_PC_promiseAt_89 ?_
      refine va_get (D := D) (ci := 3) (v := .ref r3) (C := R_PR) (T := F_PR) (N := 13) hx hb hts i_PR hown hK hP 1 rfl rfl 4 (by decide) (hts _ q_119) (fun _ h9 => h9) rfl d_PC_promiseAt_92 ?_
      refine lv_iload_n hx hb d_PC_promiseAt_95 rfl (lv_at hl 1 rfl) ?_
      refine my_ldN hx hb hK hP 4 rfl j_3 rfl (by omega) (by decide) d_PC_promiseAt_96 ?_
      have hb_1 : HO j_3 ≤ 6 := h_HO _
      exact W.iret (v := (nI (HO j_3))) hx hb hr (fun tT ht hW => ⟨(nI (HO j_3)), rfl, trivial, ht⟩) (fun q h => absurd h List.not_mem_nil) d_PC_promiseAt_97
    by_cases hz_14 : z = 4
    · subst hz_14
      refine lv_tableIn (off := 83) (tgt := 98) hx hb d_PC_promiseAt_15 (by decide) (by decide) (by decide) (by decide) ?_
      refine lv_aload_n hx hb d_PC_promiseAt_98 rfl (lv_at hl 0 rfl) ?_
      refine va_get (D := D) (ci := 0) (v := .ref r0) (C := R_PC) (T := F_PC) (N := 9) hx hb hts i_PC hown hK hP 0 rfl rfl 2 (by decide) (hts _ q_258) (fun _ h9 => h9) rfl d_PC_promiseAt_99 ?_
      refine va_get (D := D) (ci := 3) (v := .ref r5) (C := R_PR) (T := F_PR) (N := 13) hx hb hts i_PR hown hK hP 1 rfl rfl 6 (by decide) (hts _ q_123) (fun _ h9 => h9) rfl d_PC_promiseAt_102 ?_
      refine lv_iload_n hx hb d_PC_promiseAt_105 rfl (lv_at hl 1 rfl) ?_
      refine my_ldI hx hb hK hP 6 rfl j_3 rfl (by omega) (by decide) d_PC_promiseAt_106 ?_
      exact W.iret (v := (KE j_3)) hx hb hr (fun tT ht hW => ⟨(KE j_3), rfl, trivial, ht⟩) (fun q h => absurd h List.not_mem_nil) d_PC_promiseAt_107
    by_cases hz_15 : z = 5
    · subst hz_15
      refine lv_tableIn (off := 93) (tgt := 108) hx hb d_PC_promiseAt_15 (by decide) (by decide) (by decide) (by decide) ?_
      refine lv_aload_n hx hb d_PC_promiseAt_108 rfl (lv_at hl 0 rfl) ?_
      refine va_get (D := D) (ci := 0) (v := .ref r0) (C := R_PC) (T := F_PC) (N := 9) hx hb hts i_PC hown hK hP 0 rfl rfl 2 (by decide) (hts _ q_258) (fun _ h9 => h9) rfl d_PC_promiseAt_109 ?_
      refine va_get (D := D) (ci := 3) (v := .ref r6) (C := R_PR) (T := F_PR) (N := 13) hx hb hts i_PR hown hK hP 1 rfl rfl 7 (by decide) (hts _ q_125) (fun _ h9 => h9) rfl d_PC_promiseAt_112 ?_
      refine lv_iload_n hx hb d_PC_promiseAt_115 rfl (lv_at hl 1 rfl) ?_
      refine my_ldZ hx hb hK hP 7 rfl j_3 rfl (by omega) (by decide) d_PC_promiseAt_116 ?_
      refine lv_if_eq (tgt := 124) hx hb d_PC_promiseAt_117 (by decide) (fun h_16 => ?_) (fun h_16 => ?_)
      · refine lv_iconst (v := 0) hx hb d_PC_promiseAt_124 (by decide) ?_
        exact W.iret (v := 0) hx hb hr (fun tT ht hW => ⟨0, rfl, trivial, ht⟩) (fun q h => absurd h List.not_mem_nil) d_PC_promiseAt_125
      · refine lv_iconst (v := 1) hx hb d_PC_promiseAt_120 (by decide) ?_
        refine lv_goto (tgt := 125) hx hb d_PC_promiseAt_121 (by decide) ?_
        exact W.iret (v := 1) hx hb hr (fun tT ht hW => ⟨1, rfl, trivial, ht⟩) (fun q h => absurd h List.not_mem_nil) d_PC_promiseAt_125
    by_cases hz_17 : z = 6
    · subst hz_17
      refine lv_tableIn (off := 111) (tgt := 126) hx hb d_PC_promiseAt_15 (by decide) (by decide) (by decide) (by decide) ?_
      refine lv_aload_n hx hb d_PC_promiseAt_126 rfl (lv_at hl 0 rfl) ?_
      refine va_get (D := D) (ci := 0) (v := .ref r0) (C := R_PC) (T := F_PC) (N := 9) hx hb hts i_PC hown hK hP 0 rfl rfl 2 (by decide) (hts _ q_258) (fun _ h9 => h9) rfl d_PC_promiseAt_127 ?_
      refine va_get (D := D) (ci := 3) (v := .ref r1) (C := R_PR) (T := F_PR) (N := 13) hx hb hts i_PR hown hK hP 1 rfl rfl 2 (by decide) (hts _ q_115) (fun _ h9 => h9) rfl d_PC_promiseAt_130 ?_
      refine lv_iload_n hx hb d_PC_promiseAt_133 rfl (lv_at hl 1 rfl) ?_
      refine my_ldI hx hb hK hP 2 rfl j_3 rfl (by omega) (by decide) d_PC_promiseAt_134 ?_
      exact W.iret (v := (PY j_3)) hx hb hr (fun tT ht hW => ⟨(PY j_3), rfl, trivial, ht⟩) (fun q h => absurd h List.not_mem_nil) d_PC_promiseAt_135
    refine lv_tableOut (tgt := 136) hx hb d_PC_promiseAt_15 (tb_out 7 (by decide) (fun j hj => by rcases (show j = 0 ∨ j = 1 ∨ j = 2 ∨ j = 3 ∨ j = 4 ∨ j = 5 ∨ j = 6 by omega) with rfl | rfl | rfl | rfl | rfl | rfl | rfl <;> assumption)) (by decide) ?_
    refine lv_bipush (v := (-2)) hx hb d_PC_promiseAt_136 (by decide) ?_
    exact W.iret (v := (-2)) hx hb hr (fun tT ht hW => ⟨(-2), rfl, trivial, ht⟩) (fun q h => absurd h List.not_mem_nil) d_PC_promiseAt_138

set_option maxHeartbeats 4000000 in
set_option maxRecDepth 100000 in
theorem g_PC_side (l : Launch) (D : va_G) (cI cZ : ClassId) (x : Nat) (i : Int32) (z : Int32) (f0 : Nat) (a0 : Nat) (r0 : Nat) (w0 : Nat) (g0 : Nat) (k0 : Nat) (tm : Int32) (gp : Int32) (lk : Int32) (np : Nat) (a1 : Nat) (a2 : Nat) (a3 : Nat) (a4 : Nat) (a5 : Nat) (a6 : Nat) (a7 : Nat) (a8 : Nat) (a9 : Nat) (a10 : Nat) (a11 : Nat) (SI : Nat → Int32) (sz : Nat) (h_np : np ≤ 12) : Met l ⟨"PromiseChains", "side", "(II)I"⟩ (mw ⟨"PromiseChains", "side", "(II)I"⟩ prog_1_method_14_code 3 (some .int)) ({ frames := 2, cells := 0, slots := 0, locals := 43 }) (va_Pc [.ref x, .int i, .int z] (PB D cI cZ sz [(x, .inr (0, [.ref f0, .ref a0, .ref r0, .ref w0, .ref g0, .ref k0, .int tm, .int gp, .int lk])), (a0, .inr (2, [.int (nI np), .ref a1, .ref a2, .ref a3, .ref a4, .ref a5, .ref a6, .ref a7, .ref a8, .ref a9, .ref a10, .ref a11])), (a2, .inl (cI, 24, .inl SI))])) (vp_Si (fun r => True)) 0 0 (fun _ => False) := by
  refine Met.ofW (cc := prog_1_method_14_code) (maxL := 3) (ret := (some .int)) (by decide) rfl ?_
  intro p e s m args below meth c s₁ B hml hv
  obtain ⟨rfl, hsz, hP, hK, hD0, hN⟩ := hv
  have hx := B.exec
  have hb := B.bytes
  have hr := B.returns
  have hts0 := atoms_spec (ws := mw ⟨"PromiseChains", "side", "(II)I"⟩ prog_1_method_14_code 3 (some .int)) B.pre
  have hts : ∀ w ∈ tblG, w.before _ s = true := fun w h => hts0 w (List.mem_cons_of_mem _ h)
  have hown : s.vm.findClass "PromiseChains" = some m.cls := findClass_of_methodNamed B.named
  have hlocks := B.notSynchronized
  subst hsz
  have hD := hD0
  have hP : va_P D vwCl [(x, .inr (0, [.ref f0, .ref a0, .ref r0, .ref w0, .ref g0, .ref k0, .int tm, .int gp, .int lk])), (a0, .inr (2, [.int (nI np), .ref a1, .ref a2, .ref a3, .ref a4, .ref a5, .ref a6, .ref a7, .ref a8, .ref a9, .ref a10, .ref a11])), (a2, .inl (cI, 24, .inl SI))] s.heap := hP
  have hl := lv_entry ([.ref x, .int i, .int z]) (n := 3) (Nat.le_of_ble_eq_true rfl)
  rw [lg_entry_eq]
  generalize (lg_sl ([.ref x, .int i, .int z]) ++ List.replicate (3 - (lg_sl ([.ref x, .int i, .int z])).length) Slot.unset).toArray = ls at hl ⊢
  have hl : lv_has ls 3 [(0, .ref x), (1, .int i), (2, .int z)] := hl
  refine lv_aload_n hx hb d_PC_side_0 rfl (lv_at hl 0 rfl) ?_
  refine va_get (D := D) (ci := 0) (v := .ref a0) (C := R_PC) (T := F_PC) (N := 9) hx hb hts i_PC hown hK hP 0 rfl rfl 1 (by decide) (hts _ q_257) (fun _ h9 => h9) rfl d_PC_side_1 ?_
  refine lv_iload_n hx hb d_PC_side_4 rfl (lv_at hl 1 rfl) ?_
  have hPc := hP.sub (ws' := [(a0, .inr (2, [.int (nI np), .ref a1, .ref a2, .ref a3, .ref a4, .ref a5, .ref a6, .ref a7, .ref a8, .ref a9, .ref a10, .ref a11]))]) [1] rfl
  have hDc := hD.sub (ws' := [(a0, .inr (2, [.int (nI np), .ref a1, .ref a2, .ref a3, .ref a4, .ref a5, .ref a6, .ref a7, .ref a8, .ref a9, .ref a10, .ref a11]))]) [1] (by decide) rfl
  refine vp_callSi (va_Run.run (va_runV (As := [.int i]) (rest := []) ⟨hx, hb, hml, hown, hts⟩ (g_PA_has l D cI cZ a0 i np a1 a2 a3 a4 a5 a6 a7 a8 a9 a10 a11 s.heap.size h_np) (my_cwV 1 hts q_486 q_483 q_484 q_485 q_3 rfl rfl (by decide +kernel) ⟨Nat.le_of_ble_eq_true rfl, Nat.le_of_ble_eq_true rfl⟩) (my_preV hPc hDc hK hN 2 0 rfl rfl) rfl rfl hl.1 rfl (lv_room (Nat.le_of_ble_eq_true rfl)) d_PC_side_5 ⟨Nat.le_of_ble_eq_true rfl, Nat.le_of_ble_eq_true rfl⟩)) (fun r_1 hw_1 => ?_)
  rcases hw_1 with ⟨hg_2, rfl⟩ | ⟨j_3, hg_4, hg_5, hg_6, rfl⟩
  · have hg_2 : isw i 0 (nI np - 1) = 0 := hg_2
    refine lv_if_eq (tgt := 20) hx hb d_PC_side_8 (by decide) (fun _ => ?_) (fun h => absurd h (by decide))
    refine lv_bipush (v := (-2)) hx hb d_PC_side_20 (by decide) ?_
    exact W.iret (v := (-2)) hx hb hr (fun tT ht hW => ⟨(-2), rfl, trivial, ht⟩) (fun q h => absurd h List.not_mem_nil) d_PC_side_22
  · have hg_4 : j_3 < np := hg_4
    have hg_5 : i = nI j_3 := hg_5
    have hg_6 : ¬ isw i 0 (nI np - 1) = 0 := hg_6
    subst hg_5
    refine lv_if_eq (tgt := 20) hx hb d_PC_side_8 (by decide) (fun h => absurd h (by decide)) (fun _ => ?_)
    refine lv_iload_n hx hb d_PC_side_11 rfl (lv_at hl 2 rfl) ?_
    refine lv_iconst (v := 0) hx hb d_PC_side_12 (by decide) ?_
    refine lv_iconst (v := 1) hx hb d_PC_side_13 (by decide) ?_
    have hPc := hP.sub (ws' := []) [] rfl
    have hDc := hD.sub (ws' := []) [] (by decide) rfl
    refine vp_callSi (va_Run.run (va_runS (As := [.int z, .int 0, .int 1]) (rest := []) ⟨hx, hb, hml, hown, hts⟩ (g_within l D cI cZ z 0 1 s.heap.size ) (my_cwS 3 hts q_290 q_288 q_289 q_1 rfl rfl (by decide +kernel) ⟨Nat.le_of_ble_eq_true rfl, Nat.le_of_ble_eq_true rfl⟩) (my_preS hPc hDc hK hN) rfl rfl hl.1 rfl (lv_room (Nat.le_of_ble_eq_true rfl)) d_PC_side_14 ⟨Nat.le_of_ble_eq_true rfl, Nat.le_of_ble_eq_true rfl⟩)) (fun r_9 hw_9 => ?_)
    have hf_9_0 : r_9 = isw z 0 1 := hw_9
    have hf_9_0 : r_9 = isw z 0 1 := hf_9_0
    subst hf_9_0
    refine lv_if_ne (tgt := 23) hx hb d_PC_side_17 (by decide) (fun h_10 => ?_) (fun h_10 => ?_)
    · obtain ⟨t_11, hx_12, rfl⟩ := isw_lo (K := 1) (by decide) rfl h_10
      refine lv_aload_n hx hb d_PC_side_23 rfl (lv_at hl 0 rfl) ?_
      refine va_get (D := D) (ci := 0) (v := .ref a0) (C := R_PC) (T := F_PC) (N := 9) hx hb hts i_PC hown hK hP 0 rfl rfl 1 (by decide) (hts _ q_257) (fun _ h9 => h9) rfl d_PC_side_24 ?_
      refine va_get (D := D) (ci := 2) (v := .ref a2) (C := R_PA) (T := F_PA) (N := 12) hx hb hts i_PA hown hK hP 1 rfl rfl 2 (by decide) (hts _ q_63) (fun _ h9 => h9) rfl d_PC_side_27 ?_
      refine lv_iconst (v := 2) hx hb d_PC_side_30 (by decide) ?_
      refine lv_iload_n hx hb d_PC_side_31 rfl (lv_at hl 1 rfl) ?_
      refine lv_imul hx hb d_PC_side_32 ?_
      refine lv_seti (nI (2 * j_3)) (pk_mul 2 j_3) ?_
      refine lv_iload_n hx hb d_PC_side_33 rfl (lv_at hl 2 rfl) ?_
      refine lv_iadd hx hb d_PC_side_34 ?_
      refine lv_seti (nI ((2 * j_3) + t_11)) (nI_add (2 * j_3) t_11) ?_
      refine my_ldI hx hb hK hP 2 rfl ((2 * j_3) + t_11) rfl (by omega) (by decide) d_PC_side_35 ?_
      exact W.iret (v := (SI ((2 * j_3) + t_11))) hx hb hr (fun tT ht hW => ⟨(SI ((2 * j_3) + t_11)), rfl, trivial, ht⟩) (fun q h => absurd h List.not_mem_nil) d_PC_side_36
    · refine lv_bipush (v := (-2)) hx hb d_PC_side_20 (by decide) ?_
      exact W.iret (v := (-2)) hx hb hr (fun tT ht hW => ⟨(-2), rfl, trivial, ht⟩) (fun q h => absurd h List.not_mem_nil) d_PC_side_22

set_option maxHeartbeats 4000000 in
set_option maxRecDepth 100000 in
theorem g_PC_locked (l : Launch) (D : va_G) (cI cZ : ClassId) (x : Nat) (i : Int32) (z : Int32) (f0 : Nat) (a0 : Nat) (r0 : Nat) (w0 : Nat) (g0 : Nat) (k0 : Nat) (tm : Int32) (gp : Int32) (lk : Int32) (np : Nat) (a1 : Nat) (a2 : Nat) (a3 : Nat) (a4 : Nat) (a5 : Nat) (a6 : Nat) (a7 : Nat) (a8 : Nat) (a9 : Nat) (a10 : Nat) (a11 : Nat) (LK : Nat → Int32) (sz : Nat) (h_np : np ≤ 12) : Met l ⟨"PromiseChains", "locked", "(II)I"⟩ (mw ⟨"PromiseChains", "locked", "(II)I"⟩ prog_1_method_15_code 3 (some .int)) ({ frames := 2, cells := 0, slots := 0, locals := 43 }) (va_Pc [.ref x, .int i, .int z] (PB D cI cZ sz [(x, .inr (0, [.ref f0, .ref a0, .ref r0, .ref w0, .ref g0, .ref k0, .int tm, .int gp, .int lk])), (a0, .inr (2, [.int (nI np), .ref a1, .ref a2, .ref a3, .ref a4, .ref a5, .ref a6, .ref a7, .ref a8, .ref a9, .ref a10, .ref a11])), (a3, .inl (cI, 24, .inl LK))])) (vp_Si (fun r => True)) 0 0 (fun _ => False) := by
  refine Met.ofW (cc := prog_1_method_15_code) (maxL := 3) (ret := (some .int)) (by decide) rfl ?_
  intro p e s m args below meth c s₁ B hml hv
  obtain ⟨rfl, hsz, hP, hK, hD0, hN⟩ := hv
  have hx := B.exec
  have hb := B.bytes
  have hr := B.returns
  have hts0 := atoms_spec (ws := mw ⟨"PromiseChains", "locked", "(II)I"⟩ prog_1_method_15_code 3 (some .int)) B.pre
  have hts : ∀ w ∈ tblG, w.before _ s = true := fun w h => hts0 w (List.mem_cons_of_mem _ h)
  have hown : s.vm.findClass "PromiseChains" = some m.cls := findClass_of_methodNamed B.named
  have hlocks := B.notSynchronized
  subst hsz
  have hD := hD0
  have hP : va_P D vwCl [(x, .inr (0, [.ref f0, .ref a0, .ref r0, .ref w0, .ref g0, .ref k0, .int tm, .int gp, .int lk])), (a0, .inr (2, [.int (nI np), .ref a1, .ref a2, .ref a3, .ref a4, .ref a5, .ref a6, .ref a7, .ref a8, .ref a9, .ref a10, .ref a11])), (a3, .inl (cI, 24, .inl LK))] s.heap := hP
  have hl := lv_entry ([.ref x, .int i, .int z]) (n := 3) (Nat.le_of_ble_eq_true rfl)
  rw [lg_entry_eq]
  generalize (lg_sl ([.ref x, .int i, .int z]) ++ List.replicate (3 - (lg_sl ([.ref x, .int i, .int z])).length) Slot.unset).toArray = ls at hl ⊢
  have hl : lv_has ls 3 [(0, .ref x), (1, .int i), (2, .int z)] := hl
  refine lv_aload_n hx hb d_PC_locked_0 rfl (lv_at hl 0 rfl) ?_
  refine va_get (D := D) (ci := 0) (v := .ref a0) (C := R_PC) (T := F_PC) (N := 9) hx hb hts i_PC hown hK hP 0 rfl rfl 1 (by decide) (hts _ q_257) (fun _ h9 => h9) rfl d_PC_locked_1 ?_
  refine lv_iload_n hx hb d_PC_locked_4 rfl (lv_at hl 1 rfl) ?_
  have hPc := hP.sub (ws' := [(a0, .inr (2, [.int (nI np), .ref a1, .ref a2, .ref a3, .ref a4, .ref a5, .ref a6, .ref a7, .ref a8, .ref a9, .ref a10, .ref a11]))]) [1] rfl
  have hDc := hD.sub (ws' := [(a0, .inr (2, [.int (nI np), .ref a1, .ref a2, .ref a3, .ref a4, .ref a5, .ref a6, .ref a7, .ref a8, .ref a9, .ref a10, .ref a11]))]) [1] (by decide) rfl
  refine vp_callSi (va_Run.run (va_runV (As := [.int i]) (rest := []) ⟨hx, hb, hml, hown, hts⟩ (g_PA_has l D cI cZ a0 i np a1 a2 a3 a4 a5 a6 a7 a8 a9 a10 a11 s.heap.size h_np) (my_cwV 1 hts q_486 q_483 q_484 q_485 q_3 rfl rfl (by decide +kernel) ⟨Nat.le_of_ble_eq_true rfl, Nat.le_of_ble_eq_true rfl⟩) (my_preV hPc hDc hK hN 2 0 rfl rfl) rfl rfl hl.1 rfl (lv_room (Nat.le_of_ble_eq_true rfl)) d_PC_locked_5 ⟨Nat.le_of_ble_eq_true rfl, Nat.le_of_ble_eq_true rfl⟩)) (fun r_1 hw_1 => ?_)
  rcases hw_1 with ⟨hg_2, rfl⟩ | ⟨j_3, hg_4, hg_5, hg_6, rfl⟩
  · have hg_2 : isw i 0 (nI np - 1) = 0 := hg_2
    refine lv_if_eq (tgt := 20) hx hb d_PC_locked_8 (by decide) (fun _ => ?_) (fun h => absurd h (by decide))
    refine lv_bipush (v := (-2)) hx hb d_PC_locked_20 (by decide) ?_
    exact W.iret (v := (-2)) hx hb hr (fun tT ht hW => ⟨(-2), rfl, trivial, ht⟩) (fun q h => absurd h List.not_mem_nil) d_PC_locked_22
  · have hg_4 : j_3 < np := hg_4
    have hg_5 : i = nI j_3 := hg_5
    have hg_6 : ¬ isw i 0 (nI np - 1) = 0 := hg_6
    subst hg_5
    refine lv_if_eq (tgt := 20) hx hb d_PC_locked_8 (by decide) (fun h => absurd h (by decide)) (fun _ => ?_)
    refine lv_iload_n hx hb d_PC_locked_11 rfl (lv_at hl 2 rfl) ?_
    refine lv_iconst (v := 0) hx hb d_PC_locked_12 (by decide) ?_
    refine lv_iconst (v := 1) hx hb d_PC_locked_13 (by decide) ?_
    have hPc := hP.sub (ws' := []) [] rfl
    have hDc := hD.sub (ws' := []) [] (by decide) rfl
    refine vp_callSi (va_Run.run (va_runS (As := [.int z, .int 0, .int 1]) (rest := []) ⟨hx, hb, hml, hown, hts⟩ (g_within l D cI cZ z 0 1 s.heap.size ) (my_cwS 3 hts q_290 q_288 q_289 q_1 rfl rfl (by decide +kernel) ⟨Nat.le_of_ble_eq_true rfl, Nat.le_of_ble_eq_true rfl⟩) (my_preS hPc hDc hK hN) rfl rfl hl.1 rfl (lv_room (Nat.le_of_ble_eq_true rfl)) d_PC_locked_14 ⟨Nat.le_of_ble_eq_true rfl, Nat.le_of_ble_eq_true rfl⟩)) (fun r_9 hw_9 => ?_)
    have hf_9_0 : r_9 = isw z 0 1 := hw_9
    have hf_9_0 : r_9 = isw z 0 1 := hf_9_0
    subst hf_9_0
    refine lv_if_ne (tgt := 23) hx hb d_PC_locked_17 (by decide) (fun h_10 => ?_) (fun h_10 => ?_)
    · obtain ⟨t_11, hx_12, rfl⟩ := isw_lo (K := 1) (by decide) rfl h_10
      refine lv_aload_n hx hb d_PC_locked_23 rfl (lv_at hl 0 rfl) ?_
      refine va_get (D := D) (ci := 0) (v := .ref a0) (C := R_PC) (T := F_PC) (N := 9) hx hb hts i_PC hown hK hP 0 rfl rfl 1 (by decide) (hts _ q_257) (fun _ h9 => h9) rfl d_PC_locked_24 ?_
      refine va_get (D := D) (ci := 2) (v := .ref a3) (C := R_PA) (T := F_PA) (N := 12) hx hb hts i_PA hown hK hP 1 rfl rfl 3 (by decide) (hts _ q_65) (fun _ h9 => h9) rfl d_PC_locked_27 ?_
      refine lv_iconst (v := 2) hx hb d_PC_locked_30 (by decide) ?_
      refine lv_iload_n hx hb d_PC_locked_31 rfl (lv_at hl 1 rfl) ?_
      refine lv_imul hx hb d_PC_locked_32 ?_
      refine lv_seti (nI (2 * j_3)) (pk_mul 2 j_3) ?_
      refine lv_iload_n hx hb d_PC_locked_33 rfl (lv_at hl 2 rfl) ?_
      refine lv_iadd hx hb d_PC_locked_34 ?_
      refine lv_seti (nI ((2 * j_3) + t_11)) (nI_add (2 * j_3) t_11) ?_
      refine my_ldI hx hb hK hP 2 rfl ((2 * j_3) + t_11) rfl (by omega) (by decide) d_PC_locked_35 ?_
      exact W.iret (v := (LK ((2 * j_3) + t_11))) hx hb hr (fun tT ht hW => ⟨(LK ((2 * j_3) + t_11)), rfl, trivial, ht⟩) (fun q h => absurd h List.not_mem_nil) d_PC_locked_36
    · refine lv_bipush (v := (-2)) hx hb d_PC_locked_20 (by decide) ?_
      exact W.iret (v := (-2)) hx hb hr (fun tT ht hW => ⟨(-2), rfl, trivial, ht⟩) (fun q h => absurd h List.not_mem_nil) d_PC_locked_22

set_option maxHeartbeats 4000000 in
set_option maxRecDepth 100000 in
theorem g_PC_about (l : Launch) (D : va_G) (cI cZ : ClassId) (x : Nat) (i : Int32) (z : Int32) (f0 : Nat) (a0 : Nat) (r0 : Nat) (w0 : Nat) (g0 : Nat) (k0 : Nat) (tm : Int32) (gp : Int32) (lk : Int32) (np : Nat) (a1 : Nat) (a2 : Nat) (a3 : Nat) (a4 : Nat) (a5 : Nat) (a6 : Nat) (a7 : Nat) (a8 : Nat) (a9 : Nat) (a10 : Nat) (a11 : Nat) (EP : Nat → Nat) (ST : Nat → Nat) (PH : Nat → Int32) (EN : Nat → Int32) (sz : Nat) (h_np : np ≤ 12) (h_EP : ∀ zz, EP zz ≤ 6) (h_ST : ∀ zz, ST zz ≤ 64) : Met l ⟨"PromiseChains", "about", "(II)I"⟩ (mw ⟨"PromiseChains", "about", "(II)I"⟩ prog_1_method_16_code 3 (some .int)) ({ frames := 2, cells := 0, slots := 0, locals := 43 }) (va_Pc [.ref x, .int i, .int z] (PB D cI cZ sz [(x, .inr (0, [.ref f0, .ref a0, .ref r0, .ref w0, .ref g0, .ref k0, .int tm, .int gp, .int lk])), (a0, .inr (2, [.int (nI np), .ref a1, .ref a2, .ref a3, .ref a4, .ref a5, .ref a6, .ref a7, .ref a8, .ref a9, .ref a10, .ref a11])), (a1, .inl (cI, 24, .inl (fun zy => nI (EP zy)))), (a5, .inl (cI, 12, .inl (fun zy => nI (ST zy)))), (a6, .inl (cI, 12, .inl PH)), (a7, .inl (cI, 12, .inl EN))])) (vp_Si (fun r => True)) 0 0 (fun _ => False) := by
  refine Met.ofW (cc := prog_1_method_16_code) (maxL := 3) (ret := (some .int)) (by decide) rfl ?_
  intro p e s m args below meth c s₁ B hml hv
  obtain ⟨rfl, hsz, hP, hK, hD0, hN⟩ := hv
  have hx := B.exec
  have hb := B.bytes
  have hr := B.returns
  have hts0 := atoms_spec (ws := mw ⟨"PromiseChains", "about", "(II)I"⟩ prog_1_method_16_code 3 (some .int)) B.pre
  have hts : ∀ w ∈ tblG, w.before _ s = true := fun w h => hts0 w (List.mem_cons_of_mem _ h)
  have hown : s.vm.findClass "PromiseChains" = some m.cls := findClass_of_methodNamed B.named
  have hlocks := B.notSynchronized
  subst hsz
  have hD := hD0
  have hP : va_P D vwCl [(x, .inr (0, [.ref f0, .ref a0, .ref r0, .ref w0, .ref g0, .ref k0, .int tm, .int gp, .int lk])), (a0, .inr (2, [.int (nI np), .ref a1, .ref a2, .ref a3, .ref a4, .ref a5, .ref a6, .ref a7, .ref a8, .ref a9, .ref a10, .ref a11])), (a1, .inl (cI, 24, .inl (fun zy => nI (EP zy)))), (a5, .inl (cI, 12, .inl (fun zy => nI (ST zy)))), (a6, .inl (cI, 12, .inl PH)), (a7, .inl (cI, 12, .inl EN))] s.heap := hP
  have hl := lv_entry ([.ref x, .int i, .int z]) (n := 3) (Nat.le_of_ble_eq_true rfl)
  rw [lg_entry_eq]
  generalize (lg_sl ([.ref x, .int i, .int z]) ++ List.replicate (3 - (lg_sl ([.ref x, .int i, .int z])).length) Slot.unset).toArray = ls at hl ⊢
  have hl : lv_has ls 3 [(0, .ref x), (1, .int i), (2, .int z)] := hl
  refine lv_aload_n hx hb d_PC_about_0 rfl (lv_at hl 0 rfl) ?_
  refine va_get (D := D) (ci := 0) (v := .ref a0) (C := R_PC) (T := F_PC) (N := 9) hx hb hts i_PC hown hK hP 0 rfl rfl 1 (by decide) (hts _ q_257) (fun _ h9 => h9) rfl d_PC_about_1 ?_
  refine lv_iload_n hx hb d_PC_about_4 rfl (lv_at hl 1 rfl) ?_
  have hPc := hP.sub (ws' := [(a0, .inr (2, [.int (nI np), .ref a1, .ref a2, .ref a3, .ref a4, .ref a5, .ref a6, .ref a7, .ref a8, .ref a9, .ref a10, .ref a11]))]) [1] rfl
  have hDc := hD.sub (ws' := [(a0, .inr (2, [.int (nI np), .ref a1, .ref a2, .ref a3, .ref a4, .ref a5, .ref a6, .ref a7, .ref a8, .ref a9, .ref a10, .ref a11]))]) [1] (by decide) rfl
  refine vp_callSi (va_Run.run (va_runV (As := [.int i]) (rest := []) ⟨hx, hb, hml, hown, hts⟩ (g_PA_has l D cI cZ a0 i np a1 a2 a3 a4 a5 a6 a7 a8 a9 a10 a11 s.heap.size h_np) (my_cwV 1 hts q_486 q_483 q_484 q_485 q_3 rfl rfl (by decide +kernel) ⟨Nat.le_of_ble_eq_true rfl, Nat.le_of_ble_eq_true rfl⟩) (my_preV hPc hDc hK hN 2 0 rfl rfl) rfl rfl hl.1 rfl (lv_room (Nat.le_of_ble_eq_true rfl)) d_PC_about_5 ⟨Nat.le_of_ble_eq_true rfl, Nat.le_of_ble_eq_true rfl⟩)) (fun r_1 hw_1 => ?_)
  rcases hw_1 with ⟨hg_2, rfl⟩ | ⟨j_3, hg_4, hg_5, hg_6, rfl⟩
  · have hg_2 : isw i 0 (nI np - 1) = 0 := hg_2
    refine lv_if_ne (tgt := 14) hx hb d_PC_about_8 (by decide) (fun h => absurd h (by decide)) (fun _ => ?_)
    refine lv_bipush (v := (-2)) hx hb d_PC_about_11 (by decide) ?_
    exact W.iret (v := (-2)) hx hb hr (fun tT ht hW => ⟨(-2), rfl, trivial, ht⟩) (fun q h => absurd h List.not_mem_nil) d_PC_about_13
  · have hg_4 : j_3 < np := hg_4
    have hg_5 : i = nI j_3 := hg_5
    have hg_6 : ¬ isw i 0 (nI np - 1) = 0 := hg_6
    subst hg_5
    refine lv_if_ne (tgt := 14) hx hb d_PC_about_8 (by decide) (fun _ => ?_) (fun h => absurd h (by decide))
    refine lv_iload_n hx hb d_PC_about_14 rfl (lv_at hl 2 rfl) ?_
    by_cases hz_9 : z = 0
    · subst hz_9
      refine lv_tableIn (off := 33) (tgt := 48) hx hb d_PC_about_15 (by decide) (by decide) (by decide) (by decide) ?_
      refine lv_aload_n hx hb d_PC_about_48 rfl (lv_at hl 0 rfl) ?_
      refine va_get (D := D) (ci := 0) (v := .ref a0) (C := R_PC) (T := F_PC) (N := 9) hx hb hts i_PC hown hK hP 0 rfl rfl 1 (by decide) (hts _ q_257) (fun _ h9 => h9) rfl d_PC_about_49 ?_
      refine va_get (D := D) (ci := 2) (v := .ref a1) (C := R_PA) (T := F_PA) (N := 12) hx hb hts i_PA hown hK hP 1 rfl rfl 1 (by decide) (hts _ q_60) (fun _ h9 => h9) rfl d_PC_about_52 ?_
      refine lv_iconst (v := 2) hx hb d_PC_about_55 (by decide) ?_
      refine lv_iload_n hx hb d_PC_about_56 rfl (lv_at hl 1 rfl) ?_
      refine lv_imul hx hb d_PC_about_57 ?_
      refine lv_seti (nI (2 * j_3)) (pk_mul 2 j_3) ?_
      refine my_ldN hx hb hK hP 2 rfl (2 * j_3) rfl (by omega) (by decide) d_PC_about_58 ?_
      have hb_1 : EP (2 * j_3) ≤ 6 := h_EP _
      exact W.iret (v := (nI (EP (2 * j_3)))) hx hb hr (fun tT ht hW => ⟨(nI (EP (2 * j_3))), rfl, trivial, ht⟩) (fun q h => absurd h List.not_mem_nil) d_PC_about_59
    by_cases hz_10 : z = 1
    · subst hz_10
      refine lv_tableIn (off := 45) (tgt := 60) hx hb d_PC_about_15 (by decide) (by decide) (by decide) (by decide) ?_
      refine lv_aload_n hx hb d_PC_about_60 rfl (lv_at hl 0 rfl) ?_
      refine va_get (D := D) (ci := 0) (v := .ref a0) (C := R_PC) (T := F_PC) (N := 9) hx hb hts i_PC hown hK hP 0 rfl rfl 1 (by decide) (hts _ q_257) (fun _ h9 => h9) rfl d_PC_about_61 ?_
      refine va_get (D := D) (ci := 2) (v := .ref a1) (C := R_PA) (T := F_PA) (N := 12) hx hb hts i_PA hown hK hP 1 rfl rfl 1 (by decide) (hts _ q_60) (fun _ h9 => h9) rfl d_PC_about_64 ?_
      refine lv_iconst (v := 2) hx hb d_PC_about_67 (by decide) ?_
      refine lv_iload_n hx hb d_PC_about_68 rfl (lv_at hl 1 rfl) ?_
      refine lv_imul hx hb d_PC_about_69 ?_
      refine lv_seti (nI (2 * j_3)) (pk_mul 2 j_3) ?_
      refine lv_iconst (v := 1) hx hb d_PC_about_70 (by decide) ?_
      refine lv_iadd hx hb d_PC_about_71 ?_
      refine lv_seti (nI ((2 * j_3) + 1)) (nI_add (2 * j_3) 1) ?_
      refine my_ldN hx hb hK hP 2 rfl ((2 * j_3) + 1) rfl (by omega) (by decide) d_PC_about_72 ?_
      have hb_1 : EP ((2 * j_3) + 1) ≤ 6 := h_EP _
      exact W.iret (v := (nI (EP ((2 * j_3) + 1)))) hx hb hr (fun tT ht hW => ⟨(nI (EP ((2 * j_3) + 1))), rfl, trivial, ht⟩) (fun q h => absurd h List.not_mem_nil) d_PC_about_73
    by_cases hz_11 : z = 2
    · subst hz_11
      refine lv_tableIn (off := 59) (tgt := 74) hx hb d_PC_about_15 (by decide) (by decide) (by decide) (by decide) ?_
      refine lv_aload_n hx hb d_PC_about_74 rfl (lv_at hl 0 rfl) ?_
      refine va_get (D := D) (ci := 0) (v := .ref a0) (C := R_PC) (T := F_PC) (N := 9) hx hb hts i_PC hown hK hP 0 rfl rfl 1 (by decide) (hts _ q_257) (fun _ h9 => h9) rfl d_PC_about_75 ?_
      refine va_get (D := D) (ci := 2) (v := .ref a6) (C := R_PA) (T := F_PA) (N := 12) hx hb hts i_PA hown hK hP 1 rfl rfl 6 (by decide) (hts _ q_70) (fun _ h9 => h9) rfl d_PC_about_78 ?_
      refine lv_iload_n hx hb d_PC_about_81 rfl (lv_at hl 1 rfl) ?_
      refine my_ldI hx hb hK hP 4 rfl j_3 rfl (by omega) (by decide) d_PC_about_82 ?_
      exact W.iret (v := (PH j_3)) hx hb hr (fun tT ht hW => ⟨(PH j_3), rfl, trivial, ht⟩) (fun q h => absurd h List.not_mem_nil) d_PC_about_83
    by_cases hz_12 : z = 3
    · subst hz_12
      refine lv_tableIn (off := 69) (tgt := 84) hx hb d_PC_about_15 (by decide) (by decide) (by decide) (by decide) ?_
      refine lv_aload_n hx hb d_PC_about_84 rfl (lv_at hl 0 rfl) ?_
      refine va_get (D := D) (ci := 0) (v := .ref a0) (C := R_PC) (T := F_PC) (N := 9) hx hb hts i_PC hown hK hP 0 rfl rfl 1 (by decide) (hts _ q_257) (fun _ h9 => h9) rfl d_PC_about_85 ?_
      refine va_get (D := D) (ci := 2) (v := .ref a5) (C := R_PA) (T := F_PA) (N := 12) hx hb hts i_PA hown hK hP 1 rfl rfl 5 (by decide) (hts _ q_68) (fun _ h9 => h9) rfl d_PC_about_88 ?_
      refine lv_iload_n hx hb d_PC_about_91 rfl (lv_at hl 1 rfl) ?_
      refine my_ldN hx hb hK hP 3 rfl j_3 rfl (by omega) (by decide) d_PC_about_92 ?_
      have hb_1 : ST j_3 ≤ 64 := h_ST _
      exact W.iret (v := (nI (ST j_3))) hx hb hr (fun tT ht hW => ⟨(nI (ST j_3)), rfl, trivial, ht⟩) (fun q h => absurd h List.not_mem_nil) d_PC_about_93
    by_cases hz_13 : z = 4
    · subst hz_13
      refine lv_tableIn (off := 79) (tgt := 94) hx hb d_PC_about_15 (by decide) (by decide) (by decide) (by decide) ?_
      refine lv_aload_n hx hb d_PC_about_94 rfl (lv_at hl 0 rfl) ?_
      refine va_get (D := D) (ci := 0) (v := .ref a0) (C := R_PC) (T := F_PC) (N := 9) hx hb hts i_PC hown hK hP 0 rfl rfl 1 (by decide) (hts _ q_257) (fun _ h9 => h9) rfl d_PC_about_95 ?_
      refine va_get (D := D) (ci := 2) (v := .ref a6) (C := R_PA) (T := F_PA) (N := 12) hx hb hts i_PA hown hK hP 1 rfl rfl 6 (by decide) (hts _ q_70) (fun _ h9 => h9) rfl d_PC_about_98 ?_
      refine lv_iload_n hx hb d_PC_about_101 rfl (lv_at hl 1 rfl) ?_
      refine my_ldI hx hb hK hP 4 rfl j_3 rfl (by omega) (by decide) d_PC_about_102 ?_
      refine lv_iconst (v := 1) hx hb d_PC_about_103 (by decide) ?_
      refine lv_icmp_ne (tgt := 119) hx hb d_PC_about_104 (by decide) (fun h_14 => ?_) (fun h_14 => ?_)
      · refine lv_iconst (v := (-1)) hx hb d_PC_about_119 (by decide) ?_
        exact W.iret (v := (-1)) hx hb hr (fun tT ht hW => ⟨(-1), rfl, trivial, ht⟩) (fun q h => absurd h List.not_mem_nil) d_PC_about_120
      · refine lv_aload_n hx hb d_PC_about_107 rfl (lv_at hl 0 rfl) ?_
        refine va_get (D := D) (ci := 0) (v := .ref a0) (C := R_PC) (T := F_PC) (N := 9) hx hb hts i_PC hown hK hP 0 rfl rfl 1 (by decide) (hts _ q_257) (fun _ h9 => h9) rfl d_PC_about_108 ?_
        refine va_get (D := D) (ci := 2) (v := .ref a7) (C := R_PA) (T := F_PA) (N := 12) hx hb hts i_PA hown hK hP 1 rfl rfl 7 (by decide) (hts _ q_72) (fun _ h9 => h9) rfl d_PC_about_111 ?_
        refine lv_iload_n hx hb d_PC_about_114 rfl (lv_at hl 1 rfl) ?_
        refine my_ldI hx hb hK hP 5 rfl j_3 rfl (by omega) (by decide) d_PC_about_115 ?_
        refine lv_goto (tgt := 120) hx hb d_PC_about_116 (by decide) ?_
        exact W.iret (v := (EN j_3)) hx hb hr (fun tT ht hW => ⟨(EN j_3), rfl, trivial, ht⟩) (fun q h => absurd h List.not_mem_nil) d_PC_about_120
    refine lv_tableOut (tgt := 121) hx hb d_PC_about_15 (tb_out 5 (by decide) (fun j hj => by rcases (show j = 0 ∨ j = 1 ∨ j = 2 ∨ j = 3 ∨ j = 4 by omega) with rfl | rfl | rfl | rfl | rfl <;> assumption)) (by decide) ?_
    refine lv_bipush (v := (-2)) hx hb d_PC_about_121 (by decide) ?_
    exact W.iret (v := (-2)) hx hb hr (fun tT ht hW => ⟨(-2), rfl, trivial, ht⟩) (fun q h => absurd h List.not_mem_nil) d_PC_about_123

set_option maxHeartbeats 4000000 in
set_option maxRecDepth 100000 in
theorem g_PC_stateAt (l : Launch) (D : va_G) (cI cZ : ClassId) (x : Nat) (i : Int32) (y : Int32) (z : Int32) (f0 : Nat) (a0 : Nat) (r0 : Nat) (w0 : Nat) (g0 : Nat) (k0 : Nat) (tm : Int32) (gp : Int32) (lk : Int32) (np : Nat) (a1 : Nat) (a2 : Nat) (a3 : Nat) (a4 : Nat) (a5 : Nat) (a6 : Nat) (a7 : Nat) (a8 : Nat) (a9 : Nat) (a10 : Nat) (a11 : Nat) (SS : Nat → Int32) (ST : Nat → Nat) (sz : Nat) (h_np : np ≤ 12) (h_ST : ∀ zz, ST zz ≤ 64) : Met l ⟨"PromiseChains", "stateAt", "(III)I"⟩ (mw ⟨"PromiseChains", "stateAt", "(III)I"⟩ prog_1_method_17_code 4 (some .int)) ({ frames := 2, cells := 0, slots := 0, locals := 43 }) (va_Pc [.ref x, .int i, .int y, .int z] (PB D cI cZ sz [(x, .inr (0, [.ref f0, .ref a0, .ref r0, .ref w0, .ref g0, .ref k0, .int tm, .int gp, .int lk])), (a0, .inr (2, [.int (nI np), .ref a1, .ref a2, .ref a3, .ref a4, .ref a5, .ref a6, .ref a7, .ref a8, .ref a9, .ref a10, .ref a11])), (a4, .inl (cI, 1536, .inl SS)), (a5, .inl (cI, 12, .inl (fun zy => nI (ST zy))))])) (vp_Si (fun r => True)) 0 0 (fun _ => False) := by
  refine Met.ofW (cc := prog_1_method_17_code) (maxL := 4) (ret := (some .int)) (by decide) rfl ?_
  intro p e s m args below meth c s₁ B hml hv
  obtain ⟨rfl, hsz, hP, hK, hD0, hN⟩ := hv
  have hx := B.exec
  have hb := B.bytes
  have hr := B.returns
  have hts0 := atoms_spec (ws := mw ⟨"PromiseChains", "stateAt", "(III)I"⟩ prog_1_method_17_code 4 (some .int)) B.pre
  have hts : ∀ w ∈ tblG, w.before _ s = true := fun w h => hts0 w (List.mem_cons_of_mem _ h)
  have hown : s.vm.findClass "PromiseChains" = some m.cls := findClass_of_methodNamed B.named
  have hlocks := B.notSynchronized
  subst hsz
  have hD := hD0
  have hP : va_P D vwCl [(x, .inr (0, [.ref f0, .ref a0, .ref r0, .ref w0, .ref g0, .ref k0, .int tm, .int gp, .int lk])), (a0, .inr (2, [.int (nI np), .ref a1, .ref a2, .ref a3, .ref a4, .ref a5, .ref a6, .ref a7, .ref a8, .ref a9, .ref a10, .ref a11])), (a4, .inl (cI, 1536, .inl SS)), (a5, .inl (cI, 12, .inl (fun zy => nI (ST zy))))] s.heap := hP
  have hl := lv_entry ([.ref x, .int i, .int y, .int z]) (n := 4) (Nat.le_of_ble_eq_true rfl)
  rw [lg_entry_eq]
  generalize (lg_sl ([.ref x, .int i, .int y, .int z]) ++ List.replicate (4 - (lg_sl ([.ref x, .int i, .int y, .int z])).length) Slot.unset).toArray = ls at hl ⊢
  have hl : lv_has ls 4 [(0, .ref x), (1, .int i), (2, .int y), (3, .int z)] := hl
  refine lv_aload_n hx hb d_PC_stateAt_0 rfl (lv_at hl 0 rfl) ?_
  refine va_get (D := D) (ci := 0) (v := .ref a0) (C := R_PC) (T := F_PC) (N := 9) hx hb hts i_PC hown hK hP 0 rfl rfl 1 (by decide) (hts _ q_257) (fun _ h9 => h9) rfl d_PC_stateAt_1 ?_
  refine lv_iload_n hx hb d_PC_stateAt_4 rfl (lv_at hl 1 rfl) ?_
  have hPc := hP.sub (ws' := [(a0, .inr (2, [.int (nI np), .ref a1, .ref a2, .ref a3, .ref a4, .ref a5, .ref a6, .ref a7, .ref a8, .ref a9, .ref a10, .ref a11]))]) [1] rfl
  have hDc := hD.sub (ws' := [(a0, .inr (2, [.int (nI np), .ref a1, .ref a2, .ref a3, .ref a4, .ref a5, .ref a6, .ref a7, .ref a8, .ref a9, .ref a10, .ref a11]))]) [1] (by decide) rfl
  refine vp_callSi (va_Run.run (va_runV (As := [.int i]) (rest := []) ⟨hx, hb, hml, hown, hts⟩ (g_PA_has l D cI cZ a0 i np a1 a2 a3 a4 a5 a6 a7 a8 a9 a10 a11 s.heap.size h_np) (my_cwV 1 hts q_486 q_483 q_484 q_485 q_3 rfl rfl (by decide +kernel) ⟨Nat.le_of_ble_eq_true rfl, Nat.le_of_ble_eq_true rfl⟩) (my_preV hPc hDc hK hN 2 0 rfl rfl) rfl rfl hl.1 rfl (lv_room (Nat.le_of_ble_eq_true rfl)) d_PC_stateAt_5 ⟨Nat.le_of_ble_eq_true rfl, Nat.le_of_ble_eq_true rfl⟩)) (fun r_1 hw_1 => ?_)
  rcases hw_1 with ⟨hg_2, rfl⟩ | ⟨j_3, hg_4, hg_5, hg_6, rfl⟩
  · have hg_2 : isw i 0 (nI np - 1) = 0 := hg_2
    refine lv_if_eq (tgt := 24) hx hb d_PC_stateAt_8 (by decide) (fun _ => ?_) (fun h => absurd h (by decide))
    refine lv_bipush (v := (-2)) hx hb d_PC_stateAt_24 (by decide) ?_
    exact W.iret (v := (-2)) hx hb hr (fun tT ht hW => ⟨(-2), rfl, trivial, ht⟩) (fun q h => absurd h List.not_mem_nil) d_PC_stateAt_26
  · have hg_4 : j_3 < np := hg_4
    have hg_5 : i = nI j_3 := hg_5
    have hg_6 : ¬ isw i 0 (nI np - 1) = 0 := hg_6
    subst hg_5
    refine lv_if_eq (tgt := 24) hx hb d_PC_stateAt_8 (by decide) (fun h => absurd h (by decide)) (fun _ => ?_)
    refine lv_iload_n hx hb d_PC_stateAt_11 rfl (lv_at hl 2 rfl) ?_
    refine lv_if_lt (tgt := 24) hx hb d_PC_stateAt_12 (by decide) (fun h_9 => ?_) (fun h_9 => ?_)
    · refine lv_bipush (v := (-2)) hx hb d_PC_stateAt_24 (by decide) ?_
      exact W.iret (v := (-2)) hx hb hr (fun tT ht hW => ⟨(-2), rfl, trivial, ht⟩) (fun q h => absurd h List.not_mem_nil) d_PC_stateAt_26
    · refine lv_iload_n hx hb d_PC_stateAt_15 rfl (lv_at hl 3 rfl) ?_
      refine lv_iconst (v := 0) hx hb d_PC_stateAt_16 (by decide) ?_
      refine lv_iconst (v := 1) hx hb d_PC_stateAt_17 (by decide) ?_
      have hPc := hP.sub (ws' := []) [] rfl
      have hDc := hD.sub (ws' := []) [] (by decide) rfl
      refine vp_callSi (va_Run.run (va_runS (As := [.int z, .int 0, .int 1]) (rest := []) ⟨hx, hb, hml, hown, hts⟩ (g_within l D cI cZ z 0 1 s.heap.size ) (my_cwS 3 hts q_290 q_288 q_289 q_1 rfl rfl (by decide +kernel) ⟨Nat.le_of_ble_eq_true rfl, Nat.le_of_ble_eq_true rfl⟩) (my_preS hPc hDc hK hN) rfl rfl hl.1 rfl (lv_room (Nat.le_of_ble_eq_true rfl)) d_PC_stateAt_18 ⟨Nat.le_of_ble_eq_true rfl, Nat.le_of_ble_eq_true rfl⟩)) (fun r_10 hw_10 => ?_)
      have hf_10_0 : r_10 = isw z 0 1 := hw_10
      have hf_10_0 : r_10 = isw z 0 1 := hf_10_0
      subst hf_10_0
      refine lv_if_ne (tgt := 27) hx hb d_PC_stateAt_21 (by decide) (fun h_11 => ?_) (fun h_11 => ?_)
      · obtain ⟨t_12, hx_13, rfl⟩ := isw_lo (K := 1) (by decide) rfl h_11
        obtain ⟨m0, hm0, rfl⟩ := nI_of h_9
        refine lv_iload_n hx hb d_PC_stateAt_27 rfl (lv_at hl 2 rfl) ?_
        refine lv_aload_n hx hb d_PC_stateAt_28 rfl (lv_at hl 0 rfl) ?_
        refine va_get (D := D) (ci := 0) (v := .ref a0) (C := R_PC) (T := F_PC) (N := 9) hx hb hts i_PC hown hK hP 0 rfl rfl 1 (by decide) (hts _ q_257) (fun _ h9 => h9) rfl d_PC_stateAt_29 ?_
        refine va_get (D := D) (ci := 2) (v := .ref a5) (C := R_PA) (T := F_PA) (N := 12) hx hb hts i_PA hown hK hP 1 rfl rfl 5 (by decide) (hts _ q_68) (fun _ h9 => h9) rfl d_PC_stateAt_32 ?_
        refine lv_iload_n hx hb d_PC_stateAt_35 rfl (lv_at hl 1 rfl) ?_
        refine my_ldN hx hb hK hP 3 rfl j_3 rfl (by omega) (by decide) d_PC_stateAt_36 ?_
        have hb_1 : ST j_3 ≤ 64 := h_ST _
        refine lv_icmp_lt (tgt := 42) hx hb d_PC_stateAt_37 (by decide) (fun h_14 => ?_) (fun h_14 => ?_)
        · have nh_14 : m0 < (ST j_3) := (nI_ltI (a := m0) (b := (ST j_3)) (by omega) (by omega)).mp h_14
          refine lv_aload_n hx hb d_PC_stateAt_42 rfl (lv_at hl 0 rfl) ?_
          refine va_get (D := D) (ci := 0) (v := .ref a0) (C := R_PC) (T := F_PC) (N := 9) hx hb hts i_PC hown hK hP 0 rfl rfl 1 (by decide) (hts _ q_257) (fun _ h9 => h9) rfl d_PC_stateAt_43 ?_
          refine lv_iload_n hx hb d_PC_stateAt_46 rfl (lv_at hl 1 rfl) ?_
          refine lv_iload_n hx hb d_PC_stateAt_47 rfl (lv_at hl 2 rfl) ?_
          refine lv_iload_n hx hb d_PC_stateAt_48 rfl (lv_at hl 3 rfl) ?_
          have hPc := hP.sub (ws' := [(a0, .inr (2, [.int (nI np), .ref a1, .ref a2, .ref a3, .ref a4, .ref a5, .ref a6, .ref a7, .ref a8, .ref a9, .ref a10, .ref a11])), (a4, .inl (cI, 1536, .inl SS))]) [1, 2] rfl
          have hDc := hD.sub (ws' := [(a0, .inr (2, [.int (nI np), .ref a1, .ref a2, .ref a3, .ref a4, .ref a5, .ref a6, .ref a7, .ref a8, .ref a9, .ref a10, .ref a11])), (a4, .inl (cI, 1536, .inl SS))]) [1, 2] (by decide) rfl
          refine vp_callSi (va_Run.run (va_runV (As := [.int (nI j_3), .int (nI m0), .int (nI t_12)]) (rest := []) ⟨hx, hb, hml, hown, hts⟩ (g_PA_sideInState l D cI cZ a0 j_3 m0 t_12 np a1 a2 a3 a4 a5 a6 a7 a8 a9 a10 a11 SS s.heap.size h_np (by first | omega | (dsimp only; omega)) (by first | omega | (dsimp only; omega)) (by first | omega | (dsimp only; omega))) (my_cwV 3 hts q_372 q_500 q_370 q_371 q_3 rfl rfl (by decide +kernel) ⟨Nat.le_of_ble_eq_true rfl, Nat.le_of_ble_eq_true rfl⟩) (my_preV hPc hDc hK hN 2 0 rfl rfl) rfl rfl hl.1 rfl (lv_room (Nat.le_of_ble_eq_true rfl)) d_PC_stateAt_49 ⟨Nat.le_of_ble_eq_true rfl, Nat.le_of_ble_eq_true rfl⟩)) (fun r_15 hw_15 => ?_)
          have hf_15_0 : r_15 = (SS ((2 * ((j_3 * 64) + m0)) + t_12)) := hw_15
          have hf_15_0 : r_15 = (SS ((2 * ((j_3 * 64) + m0)) + t_12)) := hf_15_0
          subst hf_15_0
          exact W.iret (v := (SS ((2 * ((j_3 * 64) + m0)) + t_12))) hx hb hr (fun tT ht hW => ⟨(SS ((2 * ((j_3 * 64) + m0)) + t_12)), rfl, trivial, ht⟩) (fun q h => absurd h List.not_mem_nil) d_PC_stateAt_52
        · have nh_14 : ¬ m0 < (ST j_3) := fun qZ => h_14 ((nI_ltI (a := m0) (b := (ST j_3)) (by omega) (by omega)).mpr qZ)
          refine lv_iconst (v := (-1)) hx hb d_PC_stateAt_40 (by decide) ?_
          exact W.iret (v := (-1)) hx hb hr (fun tT ht hW => ⟨(-1), rfl, trivial, ht⟩) (fun q h => absurd h List.not_mem_nil) d_PC_stateAt_41
      · refine lv_bipush (v := (-2)) hx hb d_PC_stateAt_24 (by decide) ?_
        exact W.iret (v := (-2)) hx hb hr (fun tT ht hW => ⟨(-2), rfl, trivial, ht⟩) (fun q h => absurd h List.not_mem_nil) d_PC_stateAt_26

set_option maxHeartbeats 4000000 in
set_option maxRecDepth 100000 in
theorem g_PC_close (l : Launch) (D : va_G) (cI cZ : ClassId) (x : Nat) (i : Int32) (j : Int32) (z : Int32) (f0 : Nat) (a0 : Nat) (r0 : Nat) (w0 : Nat) (g0 : Nat) (k0 : Nat) (tm : Int32) (gp : Int32) (lk : Int32) (nn : Nat) (f1 : Nat) (f2 : Nat) (f3 : Nat) (f4 : Nat) (FC : Nat → Int32) (FA : Nat → Int32) (np : Nat) (a1 : Nat) (a2 : Nat) (a3 : Nat) (a4 : Nat) (a5 : Nat) (a6 : Nat) (a7 : Nat) (a8 : Nat) (a9 : Nat) (a10 : Nat) (a11 : Nat) (EP : Nat → Nat) (SI : Nat → Int32) (LK : Nat → Int32) (SS : Nat → Int32) (ST : Nat → Nat) (PH : Nat → Int32) (EN : Nat → Int32) (CL : Nat → Nat) (CB : Nat → Nat) (LE : Nat → Int32) (GR : Nat → Int32) (sz : Nat) (h_nn : nn ≤ 7) (h_np : np ≤ 12) (h_EP : ∀ zz, EP zz ≤ 6) (h_ST : ∀ zz, ST zz ≤ 64) (h_CL : ∀ zz, CL zz ≤ 1) (h_CB : ∀ zz, CB zz ≤ 63) (h_st : ∀ qq, qq < np → 1 ≤ ST qq) : Met l ⟨"PromiseChains", "close", "(III)I"⟩ (mw ⟨"PromiseChains", "close", "(III)I"⟩ prog_1_method_18_code 5 (some .int)) ({ frames := 3, cells := 0, slots := 0, locals := 69 }) (va_Pc [.ref x, .int i, .int j, .int z] (PB D cI cZ sz [(x, .inr (0, [.ref f0, .ref a0, .ref r0, .ref w0, .ref g0, .ref k0, .int tm, .int gp, .int lk])), (f0, .inr (1, [.int (nI nn), .ref f1, .ref f2, .ref f3, .ref f4])), (f1, .inl (cI, 7, .inl FC)), (f4, .inl (cZ, 7, .inl FA)), (a0, .inr (2, [.int (nI np), .ref a1, .ref a2, .ref a3, .ref a4, .ref a5, .ref a6, .ref a7, .ref a8, .ref a9, .ref a10, .ref a11])), (a1, .inl (cI, 24, .inl (fun zy => nI (EP zy)))), (a2, .inl (cI, 24, .inl SI)), (a3, .inl (cI, 24, .inl LK)), (a4, .inl (cI, 1536, .inl SS)), (a5, .inl (cI, 12, .inl (fun zy => nI (ST zy)))), (a6, .inl (cI, 12, .inl PH)), (a7, .inl (cI, 12, .inl EN)), (a8, .inl (cI, 12, .inl (fun zy => nI (CL zy)))), (a9, .inl (cI, 12, .inl (fun zy => nI (CB zy)))), (a10, .inl (cI, 12, .inl LE)), (a11, .inl (cI, 12, .inl GR))])) (va_Qi (S := (Nat → Int32) × (Nat → Int32) × (Nat → Int32) × (Nat → Nat) × (Nat → Nat) × (Nat → Int32) × (Nat → Int32) × (Nat → Int32)) (fun (r : Int32) uU => (∀ zz, uU.2.2.2.1 zz ≤ 1) ∧ (∀ zz, uU.2.2.2.2.1 zz ≤ 63)) (fun uU tT => BB D (va_A [(x, .inr (0, [.ref f0, .ref a0, .ref r0, .ref w0, .ref g0, .ref k0, .int tm, .int gp, .int lk])), (f0, .inr (1, [.int (nI nn), .ref f1, .ref f2, .ref f3, .ref f4])), (f1, .inl (cI, 7, .inl FC)), (f4, .inl (cZ, 7, .inl FA)), (a0, .inr (2, [.int (nI np), .ref a1, .ref a2, .ref a3, .ref a4, .ref a5, .ref a6, .ref a7, .ref a8, .ref a9, .ref a10, .ref a11])), (a1, .inl (cI, 24, .inl (fun zy => nI (EP zy)))), (a2, .inl (cI, 24, .inl SI)), (a3, .inl (cI, 24, .inl LK)), (a4, .inl (cI, 1536, .inl SS)), (a5, .inl (cI, 12, .inl (fun zy => nI (ST zy)))), (a6, .inl (cI, 12, .inl PH)), (a7, .inl (cI, 12, .inl EN)), (a8, .inl (cI, 12, .inl (fun zy => nI (CL zy)))), (a9, .inl (cI, 12, .inl (fun zy => nI (CB zy)))), (a10, .inl (cI, 12, .inl LE)), (a11, .inl (cI, 12, .inl GR))] sz) [(x, .inr (0, [.ref f0, .ref a0, .ref r0, .ref w0, .ref g0, .ref k0, .int tm, .int gp, .int lk])), (f0, .inr (1, [.int (nI nn), .ref f1, .ref f2, .ref f3, .ref f4])), (f1, .inl (cI, 7, .inl (uU.2.2.2.2.2.2.2))), (f4, .inl (cZ, 7, .inl FA)), (a0, .inr (2, [.int (nI np), .ref a1, .ref a2, .ref a3, .ref a4, .ref a5, .ref a6, .ref a7, .ref a8, .ref a9, .ref a10, .ref a11])), (a1, .inl (cI, 24, .inl (fun zy => nI (EP zy)))), (a2, .inl (cI, 24, .inl (uU.1))), (a3, .inl (cI, 24, .inl LK)), (a4, .inl (cI, 1536, .inl SS)), (a5, .inl (cI, 12, .inl (fun zy => nI (ST zy)))), (a6, .inl (cI, 12, .inl (uU.2.1))), (a7, .inl (cI, 12, .inl (uU.2.2.1))), (a8, .inl (cI, 12, .inl (fun zy => nI ((uU.2.2.2.1) zy)))), (a9, .inl (cI, 12, .inl (fun zy => nI ((uU.2.2.2.2.1) zy)))), (a10, .inl (cI, 12, .inl (uU.2.2.2.2.2.1))), (a11, .inl (cI, 12, .inl (uU.2.2.2.2.2.2.1)))] tT) (va_A [(x, .inr (0, [.ref f0, .ref a0, .ref r0, .ref w0, .ref g0, .ref k0, .int tm, .int gp, .int lk])), (f0, .inr (1, [.int (nI nn), .ref f1, .ref f2, .ref f3, .ref f4])), (f1, .inl (cI, 7, .inl FC)), (f4, .inl (cZ, 7, .inl FA)), (a0, .inr (2, [.int (nI np), .ref a1, .ref a2, .ref a3, .ref a4, .ref a5, .ref a6, .ref a7, .ref a8, .ref a9, .ref a10, .ref a11])), (a1, .inl (cI, 24, .inl (fun zy => nI (EP zy)))), (a2, .inl (cI, 24, .inl SI)), (a3, .inl (cI, 24, .inl LK)), (a4, .inl (cI, 1536, .inl SS)), (a5, .inl (cI, 12, .inl (fun zy => nI (ST zy)))), (a6, .inl (cI, 12, .inl PH)), (a7, .inl (cI, 12, .inl EN)), (a8, .inl (cI, 12, .inl (fun zy => nI (CL zy)))), (a9, .inl (cI, 12, .inl (fun zy => nI (CB zy)))), (a10, .inl (cI, 12, .inl LE)), (a11, .inl (cI, 12, .inl GR))] sz)) 0 0 (va_A [(x, .inr (0, [.ref f0, .ref a0, .ref r0, .ref w0, .ref g0, .ref k0, .int tm, .int gp, .int lk])), (f0, .inr (1, [.int (nI nn), .ref f1, .ref f2, .ref f3, .ref f4])), (f1, .inl (cI, 7, .inl FC)), (f4, .inl (cZ, 7, .inl FA)), (a0, .inr (2, [.int (nI np), .ref a1, .ref a2, .ref a3, .ref a4, .ref a5, .ref a6, .ref a7, .ref a8, .ref a9, .ref a10, .ref a11])), (a1, .inl (cI, 24, .inl (fun zy => nI (EP zy)))), (a2, .inl (cI, 24, .inl SI)), (a3, .inl (cI, 24, .inl LK)), (a4, .inl (cI, 1536, .inl SS)), (a5, .inl (cI, 12, .inl (fun zy => nI (ST zy)))), (a6, .inl (cI, 12, .inl PH)), (a7, .inl (cI, 12, .inl EN)), (a8, .inl (cI, 12, .inl (fun zy => nI (CL zy)))), (a9, .inl (cI, 12, .inl (fun zy => nI (CB zy)))), (a10, .inl (cI, 12, .inl LE)), (a11, .inl (cI, 12, .inl GR))] sz) := by
  refine Met.ofW (cc := prog_1_method_18_code) (maxL := 5) (ret := (some .int)) (by decide) rfl ?_
  intro p e s m args below meth c s₁ B hml hv
  obtain ⟨rfl, hsz, hP, hK, hD0, hN⟩ := hv
  have hx := B.exec
  have hb := B.bytes
  have hr := B.returns
  have hts0 := atoms_spec (ws := mw ⟨"PromiseChains", "close", "(III)I"⟩ prog_1_method_18_code 5 (some .int)) B.pre
  have hts : ∀ w ∈ tblG, w.before _ s = true := fun w h => hts0 w (List.mem_cons_of_mem _ h)
  have hown : s.vm.findClass "PromiseChains" = some m.cls := findClass_of_methodNamed B.named
  have hlocks := B.notSynchronized
  subst hsz
  have hD := hD0.self (sz := s.heap.size)
  generalize hAe : va_A [(x, .inr (0, [.ref f0, .ref a0, .ref r0, .ref w0, .ref g0, .ref k0, .int tm, .int gp, .int lk])), (f0, .inr (1, [.int (nI nn), .ref f1, .ref f2, .ref f3, .ref f4])), (f1, .inl (cI, 7, .inl FC)), (f4, .inl (cZ, 7, .inl FA)), (a0, .inr (2, [.int (nI np), .ref a1, .ref a2, .ref a3, .ref a4, .ref a5, .ref a6, .ref a7, .ref a8, .ref a9, .ref a10, .ref a11])), (a1, .inl (cI, 24, .inl (fun zy => nI (EP zy)))), (a2, .inl (cI, 24, .inl SI)), (a3, .inl (cI, 24, .inl LK)), (a4, .inl (cI, 1536, .inl SS)), (a5, .inl (cI, 12, .inl (fun zy => nI (ST zy)))), (a6, .inl (cI, 12, .inl PH)), (a7, .inl (cI, 12, .inl EN)), (a8, .inl (cI, 12, .inl (fun zy => nI (CL zy)))), (a9, .inl (cI, 12, .inl (fun zy => nI (CB zy)))), (a10, .inl (cI, 12, .inl LE)), (a11, .inl (cI, 12, .inl GR))] s.heap.size = A at hD ⊢
  have hA : ∀ q : Nat, s.heap.size ≤ q → A q := fun q h => by rw [← hAe]; exact Or.inr h
  have hS : va_S A s.heap s.heap [] := va_S.rf
  have hP : va_P D vwCl [(x, .inr (0, [.ref f0, .ref a0, .ref r0, .ref w0, .ref g0, .ref k0, .int tm, .int gp, .int lk])), (f0, .inr (1, [.int (nI nn), .ref f1, .ref f2, .ref f3, .ref f4])), (f1, .inl (cI, 7, .inl FC)), (f4, .inl (cZ, 7, .inl FA)), (a0, .inr (2, [.int (nI np), .ref a1, .ref a2, .ref a3, .ref a4, .ref a5, .ref a6, .ref a7, .ref a8, .ref a9, .ref a10, .ref a11])), (a1, .inl (cI, 24, .inl (fun zy => nI (EP zy)))), (a2, .inl (cI, 24, .inl SI)), (a3, .inl (cI, 24, .inl LK)), (a4, .inl (cI, 1536, .inl SS)), (a5, .inl (cI, 12, .inl (fun zy => nI (ST zy)))), (a6, .inl (cI, 12, .inl PH)), (a7, .inl (cI, 12, .inl EN)), (a8, .inl (cI, 12, .inl (fun zy => nI (CL zy)))), (a9, .inl (cI, 12, .inl (fun zy => nI (CB zy)))), (a10, .inl (cI, 12, .inl LE)), (a11, .inl (cI, 12, .inl GR))] s.heap := hP
  have hl := lv_entry ([.ref x, .int i, .int j, .int z]) (n := 5) (Nat.le_of_ble_eq_true rfl)
  rw [lg_entry_eq]
  generalize (lg_sl ([.ref x, .int i, .int j, .int z]) ++ List.replicate (5 - (lg_sl ([.ref x, .int i, .int j, .int z])).length) Slot.unset).toArray = ls at hl ⊢
  have hl : lv_has ls 5 [(0, .ref x), (1, .int i), (2, .int j), (3, .int z)] := hl
  refine lv_aload_n hx hb d_PC_close_0 rfl (lv_at hl 0 rfl) ?_
  refine va_get (D := D) (ci := 0) (v := .ref a0) (C := R_PC) (T := F_PC) (N := 9) hx hb hts i_PC hown hK hP 0 rfl rfl 1 (by decide) (hts _ q_257) (fun _ h9 => h9) rfl d_PC_close_1 ?_
  refine lv_iload_n hx hb d_PC_close_4 rfl (lv_at hl 1 rfl) ?_
  have hPc := hP.sub (ws' := [(a0, .inr (2, [.int (nI np), .ref a1, .ref a2, .ref a3, .ref a4, .ref a5, .ref a6, .ref a7, .ref a8, .ref a9, .ref a10, .ref a11]))]) [4] rfl
  have hDc := hD.sub (ws' := [(a0, .inr (2, [.int (nI np), .ref a1, .ref a2, .ref a3, .ref a4, .ref a5, .ref a6, .ref a7, .ref a8, .ref a9, .ref a10, .ref a11]))]) [4] (by decide) rfl
  refine vp_callSi (va_Run.run (va_runV (As := [.int i]) (rest := []) ⟨hx, hb, hml, hown, hts⟩ (g_PA_has l D cI cZ a0 i np a1 a2 a3 a4 a5 a6 a7 a8 a9 a10 a11 s.heap.size h_np) (my_cwV 1 hts q_486 q_483 q_484 q_485 q_3 rfl rfl (by decide +kernel) ⟨Nat.le_of_ble_eq_true rfl, Nat.le_of_ble_eq_true rfl⟩) (my_preV hPc hDc hK hN 2 0 rfl rfl) rfl rfl hl.1 rfl (lv_room (Nat.le_of_ble_eq_true rfl)) d_PC_close_5 ⟨Nat.le_of_ble_eq_true rfl, Nat.le_of_ble_eq_true rfl⟩)) (fun r_1 hw_1 => ?_)
  rcases hw_1 with ⟨hg_2, rfl⟩ | ⟨j_3, hg_4, hg_5, hg_6, rfl⟩
  · have hg_2 : isw i 0 (nI np - 1) = 0 := hg_2
    refine lv_if_eq (tgt := 41) hx hb d_PC_close_8 (by decide) (fun _ => ?_) (fun h => absurd h (by decide))
    refine lv_bipush (v := (-2)) hx hb d_PC_close_41 (by decide) ?_
    have hP9 := hP.sub (ws' := [(x, .inr (0, [.ref f0, .ref a0, .ref r0, .ref w0, .ref g0, .ref k0, .int tm, .int gp, .int lk])), (f0, .inr (1, [.int (nI nn), .ref f1, .ref f2, .ref f3, .ref f4])), (f1, .inl (cI, 7, .inl FC)), (f4, .inl (cZ, 7, .inl FA)), (a0, .inr (2, [.int (nI np), .ref a1, .ref a2, .ref a3, .ref a4, .ref a5, .ref a6, .ref a7, .ref a8, .ref a9, .ref a10, .ref a11])), (a1, .inl (cI, 24, .inl (fun zy => nI (EP zy)))), (a2, .inl (cI, 24, .inl SI)), (a3, .inl (cI, 24, .inl LK)), (a4, .inl (cI, 1536, .inl SS)), (a5, .inl (cI, 12, .inl (fun zy => nI (ST zy)))), (a6, .inl (cI, 12, .inl PH)), (a7, .inl (cI, 12, .inl EN)), (a8, .inl (cI, 12, .inl (fun zy => nI (CL zy)))), (a9, .inl (cI, 12, .inl (fun zy => nI (CB zy)))), (a10, .inl (cI, 12, .inl LE)), (a11, .inl (cI, 12, .inl GR))]) [0, 1, 2, 3, 4, 5, 6, 7, 8, 9, 10, 11, 12, 13, 14, 15] rfl
    have hD9 := hD.sub (ws' := [(x, .inr (0, [.ref f0, .ref a0, .ref r0, .ref w0, .ref g0, .ref k0, .int tm, .int gp, .int lk])), (f0, .inr (1, [.int (nI nn), .ref f1, .ref f2, .ref f3, .ref f4])), (f1, .inl (cI, 7, .inl FC)), (f4, .inl (cZ, 7, .inl FA)), (a0, .inr (2, [.int (nI np), .ref a1, .ref a2, .ref a3, .ref a4, .ref a5, .ref a6, .ref a7, .ref a8, .ref a9, .ref a10, .ref a11])), (a1, .inl (cI, 24, .inl (fun zy => nI (EP zy)))), (a2, .inl (cI, 24, .inl SI)), (a3, .inl (cI, 24, .inl LK)), (a4, .inl (cI, 1536, .inl SS)), (a5, .inl (cI, 12, .inl (fun zy => nI (ST zy)))), (a6, .inl (cI, 12, .inl PH)), (a7, .inl (cI, 12, .inl EN)), (a8, .inl (cI, 12, .inl (fun zy => nI (CL zy)))), (a9, .inl (cI, 12, .inl (fun zy => nI (CB zy)))), (a10, .inl (cI, 12, .inl LE)), (a11, .inl (cI, 12, .inl GR))]) [0, 1, 2, 3, 4, 5, 6, 7, 8, 9, 10, 11, 12, 13, 14, 15] (by decide) rfl
    refine W.widen (k := 0) (n := 0) (Nat.le_of_ble_eq_true rfl) (Nat.le_of_ble_eq_true rfl) ?_
    exact W.iret (v := (-2)) hx hb hr (fun tT ht hW => ⟨⟨(-2), (SI, PH, EN, CL, CB, LE, GR, FC), rfl, ⟨h_CL, h_CB⟩, by rw [ht]; exact hP9, hD9⟩, hS.F ht⟩) hS.2.2 d_PC_close_43
  · have hg_4 : j_3 < np := hg_4
    have hg_5 : i = nI j_3 := hg_5
    have hg_6 : ¬ isw i 0 (nI np - 1) = 0 := hg_6
    subst hg_5
    refine lv_if_eq (tgt := 41) hx hb d_PC_close_8 (by decide) (fun h => absurd h (by decide)) (fun _ => ?_)
    refine lv_aload_n hx hb d_PC_close_11 rfl (lv_at hl 0 rfl) ?_
    refine va_get (D := D) (ci := 0) (v := .ref f0) (C := R_PC) (T := F_PC) (N := 9) hx hb hts i_PC hown hK hP 0 rfl rfl 0 (by decide) (hts _ q_256) (fun _ h9 => h9) rfl d_PC_close_12 ?_
    refine lv_iload_n hx hb d_PC_close_15 rfl (lv_at hl 2 rfl) ?_
    have hPc := hP.sub (ws' := [(f0, .inr (1, [.int (nI nn), .ref f1, .ref f2, .ref f3, .ref f4]))]) [1] rfl
    have hDc := hD.sub (ws' := [(f0, .inr (1, [.int (nI nn), .ref f1, .ref f2, .ref f3, .ref f4]))]) [1] (by decide) rfl
    refine vp_callSi (va_Run.run (va_runV (As := [.int j]) (rest := []) ⟨hx, hb, hml, hown, hts⟩ (g_PE_has l D cI cZ f0 j nn f1 f2 f3 f4 s.heap.size h_nn) (my_cwV 1 hts q_302 q_299 q_300 q_301 q_2 rfl rfl (by decide +kernel) ⟨Nat.le_of_ble_eq_true rfl, Nat.le_of_ble_eq_true rfl⟩) (my_preV hPc hDc hK hN 1 0 rfl rfl) rfl rfl hl.1 rfl (lv_room (Nat.le_of_ble_eq_true rfl)) d_PC_close_16 ⟨Nat.le_of_ble_eq_true rfl, Nat.le_of_ble_eq_true rfl⟩)) (fun r_9 hw_9 => ?_)
    rcases hw_9 with ⟨hg_10, rfl⟩ | ⟨j_11, hg_12, hg_13, hg_14, rfl⟩
    · have hg_10 : isw j 0 (nI nn - 1) = 0 := hg_10
      refine lv_if_eq (tgt := 41) hx hb d_PC_close_19 (by decide) (fun _ => ?_) (fun h => absurd h (by decide))
      refine lv_bipush (v := (-2)) hx hb d_PC_close_41 (by decide) ?_
      have hP9 := hP.sub (ws' := [(x, .inr (0, [.ref f0, .ref a0, .ref r0, .ref w0, .ref g0, .ref k0, .int tm, .int gp, .int lk])), (f0, .inr (1, [.int (nI nn), .ref f1, .ref f2, .ref f3, .ref f4])), (f1, .inl (cI, 7, .inl FC)), (f4, .inl (cZ, 7, .inl FA)), (a0, .inr (2, [.int (nI np), .ref a1, .ref a2, .ref a3, .ref a4, .ref a5, .ref a6, .ref a7, .ref a8, .ref a9, .ref a10, .ref a11])), (a1, .inl (cI, 24, .inl (fun zy => nI (EP zy)))), (a2, .inl (cI, 24, .inl SI)), (a3, .inl (cI, 24, .inl LK)), (a4, .inl (cI, 1536, .inl SS)), (a5, .inl (cI, 12, .inl (fun zy => nI (ST zy)))), (a6, .inl (cI, 12, .inl PH)), (a7, .inl (cI, 12, .inl EN)), (a8, .inl (cI, 12, .inl (fun zy => nI (CL zy)))), (a9, .inl (cI, 12, .inl (fun zy => nI (CB zy)))), (a10, .inl (cI, 12, .inl LE)), (a11, .inl (cI, 12, .inl GR))]) [0, 1, 2, 3, 4, 5, 6, 7, 8, 9, 10, 11, 12, 13, 14, 15] rfl
      have hD9 := hD.sub (ws' := [(x, .inr (0, [.ref f0, .ref a0, .ref r0, .ref w0, .ref g0, .ref k0, .int tm, .int gp, .int lk])), (f0, .inr (1, [.int (nI nn), .ref f1, .ref f2, .ref f3, .ref f4])), (f1, .inl (cI, 7, .inl FC)), (f4, .inl (cZ, 7, .inl FA)), (a0, .inr (2, [.int (nI np), .ref a1, .ref a2, .ref a3, .ref a4, .ref a5, .ref a6, .ref a7, .ref a8, .ref a9, .ref a10, .ref a11])), (a1, .inl (cI, 24, .inl (fun zy => nI (EP zy)))), (a2, .inl (cI, 24, .inl SI)), (a3, .inl (cI, 24, .inl LK)), (a4, .inl (cI, 1536, .inl SS)), (a5, .inl (cI, 12, .inl (fun zy => nI (ST zy)))), (a6, .inl (cI, 12, .inl PH)), (a7, .inl (cI, 12, .inl EN)), (a8, .inl (cI, 12, .inl (fun zy => nI (CL zy)))), (a9, .inl (cI, 12, .inl (fun zy => nI (CB zy)))), (a10, .inl (cI, 12, .inl LE)), (a11, .inl (cI, 12, .inl GR))]) [0, 1, 2, 3, 4, 5, 6, 7, 8, 9, 10, 11, 12, 13, 14, 15] (by decide) rfl
      refine W.widen (k := 0) (n := 0) (Nat.le_of_ble_eq_true rfl) (Nat.le_of_ble_eq_true rfl) ?_
      exact W.iret (v := (-2)) hx hb hr (fun tT ht hW => ⟨⟨(-2), (SI, PH, EN, CL, CB, LE, GR, FC), rfl, ⟨h_CL, h_CB⟩, by rw [ht]; exact hP9, hD9⟩, hS.F ht⟩) hS.2.2 d_PC_close_43
    · have hg_12 : j_11 < nn := hg_12
      have hg_13 : j = nI j_11 := hg_13
      have hg_14 : ¬ isw j 0 (nI nn - 1) = 0 := hg_14
      subst hg_13
      refine lv_if_eq (tgt := 41) hx hb d_PC_close_19 (by decide) (fun h => absurd h (by decide)) (fun _ => ?_)
      refine lv_iload_n hx hb d_PC_close_22 rfl (lv_at hl 3 rfl) ?_
      refine lv_iconst (v := 0) hx hb d_PC_close_23 (by decide) ?_
      refine lv_aload_n hx hb d_PC_close_24 rfl (lv_at hl 0 rfl) ?_
      refine va_get (D := D) (ci := 0) (v := .ref a0) (C := R_PC) (T := F_PC) (N := 9) hx hb hts i_PC hown hK hP 0 rfl rfl 1 (by decide) (hts _ q_257) (fun _ h9 => h9) rfl d_PC_close_25 ?_
      refine va_get (D := D) (ci := 2) (v := .ref a5) (C := R_PA) (T := F_PA) (N := 12) hx hb hts i_PA hown hK hP 4 rfl rfl 5 (by decide) (hts _ q_68) (fun _ h9 => h9) rfl d_PC_close_28 ?_
      have h1st := h_st j_3 (by omega)
      refine lv_iload_n hx hb d_PC_close_31 rfl (lv_at hl 1 rfl) ?_
      refine my_ldN hx hb hK hP 9 rfl j_3 rfl (by omega) (by decide) d_PC_close_32 ?_
      have hb_1 : ST j_3 ≤ 64 := h_ST _
      refine lv_iconst (v := 1) hx hb d_PC_close_33 (by decide) ?_
      refine lv_isub hx hb d_PC_close_34 ?_
      refine lv_seti (nI ((ST j_3) - 1)) (pk_sub (a := (ST j_3)) (b := 1) (by omega)) ?_
      have hPc := hP.sub (ws' := []) [] rfl
      have hDc := hD.sub (ws' := []) [] (by decide) rfl
      refine vp_callSi (va_Run.run (va_runS (As := [.int z, .int 0, .int (nI ((ST j_3) - 1))]) (rest := []) ⟨hx, hb, hml, hown, hts⟩ (g_within l D cI cZ z 0 (nI ((ST j_3) - 1)) s.heap.size ) (my_cwS 3 hts q_290 q_288 q_289 q_1 rfl rfl (by decide +kernel) ⟨Nat.le_of_ble_eq_true rfl, Nat.le_of_ble_eq_true rfl⟩) (my_preS hPc hDc hK hN) rfl rfl hl.1 rfl (lv_room (Nat.le_of_ble_eq_true rfl)) d_PC_close_35 ⟨Nat.le_of_ble_eq_true rfl, Nat.le_of_ble_eq_true rfl⟩)) (fun r_17 hw_17 => ?_)
      have hf_17_0 : r_17 = isw z 0 (nI ((ST j_3) - 1)) := hw_17
      have hf_17_0 : r_17 = isw z 0 (nI ((ST j_3) - 1)) := hf_17_0
      subst hf_17_0
      refine lv_if_ne (tgt := 44) hx hb d_PC_close_38 (by decide) (fun h_18 => ?_) (fun h_18 => ?_)
      · obtain ⟨zs_19, hx_20, rfl⟩ := isw_N (by omega) h_18
        refine lv_aload_n hx hb d_PC_close_44 rfl (lv_at hl 0 rfl) ?_
        refine va_get (D := D) (ci := 0) (v := .ref a0) (C := R_PC) (T := F_PC) (N := 9) hx hb hts i_PC hown hK hP 0 rfl rfl 1 (by decide) (hts _ q_257) (fun _ h9 => h9) rfl d_PC_close_45 ?_
        refine lv_iload_n hx hb d_PC_close_48 rfl (lv_at hl 1 rfl) ?_
        refine lv_iload_n hx hb d_PC_close_49 rfl (lv_at hl 2 rfl) ?_
        have hPc := hP.sub (ws' := [(a0, .inr (2, [.int (nI np), .ref a1, .ref a2, .ref a3, .ref a4, .ref a5, .ref a6, .ref a7, .ref a8, .ref a9, .ref a10, .ref a11])), (a1, .inl (cI, 24, .inl (fun zy => nI (EP zy))))]) [4, 5] rfl
        have hDc := hD.sub (ws' := [(a0, .inr (2, [.int (nI np), .ref a1, .ref a2, .ref a3, .ref a4, .ref a5, .ref a6, .ref a7, .ref a8, .ref a9, .ref a10, .ref a11])), (a1, .inl (cI, 24, .inl (fun zy => nI (EP zy))))]) [4, 5] (by decide) rfl
        refine vp_callSi (va_Run.run (va_runV (As := [.int (nI j_3), .int (nI j_11)]) (rest := []) ⟨hx, hb, hml, hown, hts⟩ (g_PA_whichIs l D cI cZ a0 j_3 (nI j_11) np a1 a2 a3 a4 a5 a6 a7 a8 a9 a10 a11 EP s.heap.size h_np h_EP (by first | omega | (dsimp only; omega))) (my_cwV 2 hts q_399 q_396 q_397 q_398 q_3 rfl rfl (by decide +kernel) ⟨Nat.le_of_ble_eq_true rfl, Nat.le_of_ble_eq_true rfl⟩) (my_preV hPc hDc hK hN 2 0 rfl rfl) rfl rfl hl.1 rfl (lv_room (Nat.le_of_ble_eq_true rfl)) d_PC_close_50 ⟨Nat.le_of_ble_eq_true rfl, Nat.le_of_ble_eq_true rfl⟩)) (fun r_21 hw_21 => ?_)
        rcases hw_21 with rfl | ⟨t_22, hg_23, rfl⟩
        · refine lv_istore (lv' := [(4, .int (-1)), (0, .ref x), (1, .int (nI j_3)), (2, .int (nI j_11)), (3, .int (nI zs_19))]) hx hb d_PC_close_53 hl (by decide) rfl (fun ls hl => ?_)
          refine lv_iload hx hb d_PC_close_55 (lv_at hl 0 rfl) ?_
          refine lv_iconst (v := (-1)) hx hb d_PC_close_57 (by decide) ?_
          refine lv_icmp_ne (tgt := 64) hx hb d_PC_close_58 (by decide) (fun h => absurd h (by decide)) (fun _ => ?_)
          refine lv_bipush (v := (-2)) hx hb d_PC_close_61 (by decide) ?_
          have hP9 := hP.sub (ws' := [(x, .inr (0, [.ref f0, .ref a0, .ref r0, .ref w0, .ref g0, .ref k0, .int tm, .int gp, .int lk])), (f0, .inr (1, [.int (nI nn), .ref f1, .ref f2, .ref f3, .ref f4])), (f1, .inl (cI, 7, .inl FC)), (f4, .inl (cZ, 7, .inl FA)), (a0, .inr (2, [.int (nI np), .ref a1, .ref a2, .ref a3, .ref a4, .ref a5, .ref a6, .ref a7, .ref a8, .ref a9, .ref a10, .ref a11])), (a1, .inl (cI, 24, .inl (fun zy => nI (EP zy)))), (a2, .inl (cI, 24, .inl SI)), (a3, .inl (cI, 24, .inl LK)), (a4, .inl (cI, 1536, .inl SS)), (a5, .inl (cI, 12, .inl (fun zy => nI (ST zy)))), (a6, .inl (cI, 12, .inl PH)), (a7, .inl (cI, 12, .inl EN)), (a8, .inl (cI, 12, .inl (fun zy => nI (CL zy)))), (a9, .inl (cI, 12, .inl (fun zy => nI (CB zy)))), (a10, .inl (cI, 12, .inl LE)), (a11, .inl (cI, 12, .inl GR))]) [0, 1, 2, 3, 4, 5, 6, 7, 8, 9, 10, 11, 12, 13, 14, 15] rfl
          have hD9 := hD.sub (ws' := [(x, .inr (0, [.ref f0, .ref a0, .ref r0, .ref w0, .ref g0, .ref k0, .int tm, .int gp, .int lk])), (f0, .inr (1, [.int (nI nn), .ref f1, .ref f2, .ref f3, .ref f4])), (f1, .inl (cI, 7, .inl FC)), (f4, .inl (cZ, 7, .inl FA)), (a0, .inr (2, [.int (nI np), .ref a1, .ref a2, .ref a3, .ref a4, .ref a5, .ref a6, .ref a7, .ref a8, .ref a9, .ref a10, .ref a11])), (a1, .inl (cI, 24, .inl (fun zy => nI (EP zy)))), (a2, .inl (cI, 24, .inl SI)), (a3, .inl (cI, 24, .inl LK)), (a4, .inl (cI, 1536, .inl SS)), (a5, .inl (cI, 12, .inl (fun zy => nI (ST zy)))), (a6, .inl (cI, 12, .inl PH)), (a7, .inl (cI, 12, .inl EN)), (a8, .inl (cI, 12, .inl (fun zy => nI (CL zy)))), (a9, .inl (cI, 12, .inl (fun zy => nI (CB zy)))), (a10, .inl (cI, 12, .inl LE)), (a11, .inl (cI, 12, .inl GR))]) [0, 1, 2, 3, 4, 5, 6, 7, 8, 9, 10, 11, 12, 13, 14, 15] (by decide) rfl
          refine W.widen (k := 0) (n := 0) (Nat.le_of_ble_eq_true rfl) (Nat.le_of_ble_eq_true rfl) ?_
          exact W.iret (v := (-2)) hx hb hr (fun tT ht hW => ⟨⟨(-2), (SI, PH, EN, CL, CB, LE, GR, FC), rfl, ⟨h_CL, h_CB⟩, by rw [ht]; exact hP9, hD9⟩, hS.F ht⟩) hS.2.2 d_PC_close_63
        · have hg_23 : t_22 ≤ 1 := hg_23
          refine lv_istore (lv' := [(4, .int (nI t_22)), (0, .ref x), (1, .int (nI j_3)), (2, .int (nI j_11)), (3, .int (nI zs_19))]) hx hb d_PC_close_53 hl (by decide) rfl (fun ls hl => ?_)
          refine lv_iload hx hb d_PC_close_55 (lv_at hl 0 rfl) ?_
          refine lv_iconst (v := (-1)) hx hb d_PC_close_57 (by decide) ?_
          refine lv_icmp_ne (tgt := 64) hx hb d_PC_close_58 (by decide) (fun _ => ?_) (fun h => absurd h (nI_nm1 (by omega) (by decide)))
          refine lv_aload_n hx hb d_PC_close_64 rfl (lv_at hl 1 rfl) ?_
          refine va_get (D := D) (ci := 0) (v := .ref a0) (C := R_PC) (T := F_PC) (N := 9) hx hb hts i_PC hown hK hP 0 rfl rfl 1 (by decide) (hts _ q_257) (fun _ h9 => h9) rfl d_PC_close_65 ?_
          refine lv_iload_n hx hb d_PC_close_68 rfl (lv_at hl 2 rfl) ?_
          have hPc := hP.sub (ws' := [(a0, .inr (2, [.int (nI np), .ref a1, .ref a2, .ref a3, .ref a4, .ref a5, .ref a6, .ref a7, .ref a8, .ref a9, .ref a10, .ref a11])), (a6, .inl (cI, 12, .inl PH)), (a3, .inl (cI, 24, .inl LK))]) [4, 10, 7] rfl
          have hDc := hD.sub (ws' := [(a0, .inr (2, [.int (nI np), .ref a1, .ref a2, .ref a3, .ref a4, .ref a5, .ref a6, .ref a7, .ref a8, .ref a9, .ref a10, .ref a11])), (a6, .inl (cI, 12, .inl PH)), (a3, .inl (cI, 24, .inl LK))]) [4, 10, 7] (by decide) rfl
          refine vp_callSi (va_Run.run (va_runV (As := [.int (nI j_3)]) (rest := []) ⟨hx, hb, hml, hown, hts⟩ (g_PA_isFree l D cI cZ a0 j_3 np a1 a2 a3 a4 a5 a6 a7 a8 a9 a10 a11 PH LK s.heap.size h_np (by first | omega | (dsimp only; omega))) (my_cwV 1 hts q_508 q_505 q_506 q_507 q_3 rfl rfl (by decide +kernel) ⟨Nat.le_of_ble_eq_true rfl, Nat.le_of_ble_eq_true rfl⟩) (my_preV hPc hDc hK hN 2 0 rfl rfl) rfl rfl hl.1 rfl (lv_room (Nat.le_of_ble_eq_true rfl)) d_PC_close_69 ⟨Nat.le_of_ble_eq_true rfl, Nat.le_of_ble_eq_true rfl⟩)) (fun r_25 hw_25 => ?_)
          rcases hw_25 with rfl | rfl
          · refine lv_if_eq (tgt := 87) hx hb d_PC_close_72 (by decide) (fun _ => ?_) (fun h => absurd h (by decide))
            refine lv_bipush (v := (-3)) hx hb d_PC_close_87 (by decide) ?_
            have hP9 := hP.sub (ws' := [(x, .inr (0, [.ref f0, .ref a0, .ref r0, .ref w0, .ref g0, .ref k0, .int tm, .int gp, .int lk])), (f0, .inr (1, [.int (nI nn), .ref f1, .ref f2, .ref f3, .ref f4])), (f1, .inl (cI, 7, .inl FC)), (f4, .inl (cZ, 7, .inl FA)), (a0, .inr (2, [.int (nI np), .ref a1, .ref a2, .ref a3, .ref a4, .ref a5, .ref a6, .ref a7, .ref a8, .ref a9, .ref a10, .ref a11])), (a1, .inl (cI, 24, .inl (fun zy => nI (EP zy)))), (a2, .inl (cI, 24, .inl SI)), (a3, .inl (cI, 24, .inl LK)), (a4, .inl (cI, 1536, .inl SS)), (a5, .inl (cI, 12, .inl (fun zy => nI (ST zy)))), (a6, .inl (cI, 12, .inl PH)), (a7, .inl (cI, 12, .inl EN)), (a8, .inl (cI, 12, .inl (fun zy => nI (CL zy)))), (a9, .inl (cI, 12, .inl (fun zy => nI (CB zy)))), (a10, .inl (cI, 12, .inl LE)), (a11, .inl (cI, 12, .inl GR))]) [0, 1, 2, 3, 4, 5, 6, 7, 8, 9, 10, 11, 12, 13, 14, 15] rfl
            have hD9 := hD.sub (ws' := [(x, .inr (0, [.ref f0, .ref a0, .ref r0, .ref w0, .ref g0, .ref k0, .int tm, .int gp, .int lk])), (f0, .inr (1, [.int (nI nn), .ref f1, .ref f2, .ref f3, .ref f4])), (f1, .inl (cI, 7, .inl FC)), (f4, .inl (cZ, 7, .inl FA)), (a0, .inr (2, [.int (nI np), .ref a1, .ref a2, .ref a3, .ref a4, .ref a5, .ref a6, .ref a7, .ref a8, .ref a9, .ref a10, .ref a11])), (a1, .inl (cI, 24, .inl (fun zy => nI (EP zy)))), (a2, .inl (cI, 24, .inl SI)), (a3, .inl (cI, 24, .inl LK)), (a4, .inl (cI, 1536, .inl SS)), (a5, .inl (cI, 12, .inl (fun zy => nI (ST zy)))), (a6, .inl (cI, 12, .inl PH)), (a7, .inl (cI, 12, .inl EN)), (a8, .inl (cI, 12, .inl (fun zy => nI (CL zy)))), (a9, .inl (cI, 12, .inl (fun zy => nI (CB zy)))), (a10, .inl (cI, 12, .inl LE)), (a11, .inl (cI, 12, .inl GR))]) [0, 1, 2, 3, 4, 5, 6, 7, 8, 9, 10, 11, 12, 13, 14, 15] (by decide) rfl
            refine W.widen (k := 0) (n := 0) (Nat.le_of_ble_eq_true rfl) (Nat.le_of_ble_eq_true rfl) ?_
            exact W.iret (v := (-3)) hx hb hr (fun tT ht hW => ⟨⟨(-3), (SI, PH, EN, CL, CB, LE, GR, FC), rfl, ⟨h_CL, h_CB⟩, by rw [ht]; exact hP9, hD9⟩, hS.F ht⟩) hS.2.2 d_PC_close_89
          · refine lv_if_eq (tgt := 87) hx hb d_PC_close_72 (by decide) (fun h => absurd h (by decide)) (fun _ => ?_)
            refine lv_aload_n hx hb d_PC_close_75 rfl (lv_at hl 1 rfl) ?_
            refine va_get (D := D) (ci := 0) (v := .ref f0) (C := R_PC) (T := F_PC) (N := 9) hx hb hts i_PC hown hK hP 0 rfl rfl 0 (by decide) (hts _ q_256) (fun _ h9 => h9) rfl d_PC_close_76 ?_
            refine va_get (D := D) (ci := 1) (v := .ref f4) (C := R_PE) (T := F_PE) (N := 5) hx hb hts i_PE hown hK hP 1 rfl rfl 4 (by decide) (hts _ q_34) (fun _ h9 => h9) rfl d_PC_close_79 ?_
            refine lv_iload_n hx hb d_PC_close_82 rfl (lv_at hl 3 rfl) ?_
            refine my_ldZ hx hb hK hP 3 rfl j_11 rfl (by omega) (by decide) d_PC_close_83 ?_
            refine lv_if_eq (tgt := 90) hx hb d_PC_close_84 (by decide) (fun h_28 => ?_) (fun h_28 => ?_)
            · refine lv_aload_n hx hb d_PC_close_90 rfl (lv_at hl 1 rfl) ?_
              refine va_get (D := D) (ci := 0) (v := .ref a0) (C := R_PC) (T := F_PC) (N := 9) hx hb hts i_PC hown hK hP 0 rfl rfl 1 (by decide) (hts _ q_257) (fun _ h9 => h9) rfl d_PC_close_91 ?_
              refine lv_iload_n hx hb d_PC_close_94 rfl (lv_at hl 2 rfl) ?_
              refine lv_iload hx hb d_PC_close_95 (lv_at hl 0 rfl) ?_
              refine lv_iload_n hx hb d_PC_close_97 rfl (lv_at hl 4 rfl) ?_
              refine lv_aload_n hx hb d_PC_close_98 rfl (lv_at hl 1 rfl) ?_
              refine va_get (D := D) (ci := 0) (v := .int tm) (C := R_PC) (T := F_PC) (N := 9) hx hb hts i_PC hown hK hP 0 rfl rfl 6 (by decide) (hts _ q_262) (fun _ h9 => h9) rfl d_PC_close_99 ?_
              refine lv_aload_n hx hb d_PC_close_102 rfl (lv_at hl 1 rfl) ?_
              refine va_get (D := D) (ci := 0) (v := .int lk) (C := R_PC) (T := F_PC) (N := 9) hx hb hts i_PC hown hK hP 0 rfl rfl 8 (by decide) (hts _ q_264) (fun _ h9 => h9) rfl d_PC_close_103 ?_
              refine lv_iadd hx hb d_PC_close_106 ?_
              have hPc := hP.sub (ws' := [(a0, .inr (2, [.int (nI np), .ref a1, .ref a2, .ref a3, .ref a4, .ref a5, .ref a6, .ref a7, .ref a8, .ref a9, .ref a10, .ref a11])), (a6, .inl (cI, 12, .inl PH)), (a7, .inl (cI, 12, .inl EN)), (a8, .inl (cI, 12, .inl (fun zy => nI (CL zy)))), (a9, .inl (cI, 12, .inl (fun zy => nI (CB zy))))]) [4, 10, 11, 12, 13] rfl
              have hDc := hD.sub (ws' := [(a0, .inr (2, [.int (nI np), .ref a1, .ref a2, .ref a3, .ref a4, .ref a5, .ref a6, .ref a7, .ref a8, .ref a9, .ref a10, .ref a11])), (a6, .inl (cI, 12, .inl PH)), (a7, .inl (cI, 12, .inl EN)), (a8, .inl (cI, 12, .inl (fun zy => nI (CL zy)))), (a9, .inl (cI, 12, .inl (fun zy => nI (CB zy))))]) [4, 10, 11, 12, 13] (by decide) rfl
              have hFc := va_free (wc := [(a0, .inr (2, [.int (nI np), .ref a1, .ref a2, .ref a3, .ref a4, .ref a5, .ref a6, .ref a7, .ref a8, .ref a9, .ref a10, .ref a11])), (a6, .inl (cI, 12, .inl PH)), (a7, .inl (cI, 12, .inl EN)), (a8, .inl (cI, 12, .inl (fun zy => nI (CL zy)))), (a9, .inl (cI, 12, .inl (fun zy => nI (CB zy))))]) hD hS hA [4, 10, 11, 12, 13] rfl
              refine va_callv (va_runV (As := [.int (nI j_3), .int (nI t_22), .int (nI zs_19), .int (tm + lk)]) (rest := []) ⟨hx, hb, hml, hown, hts⟩ (g_PA_beginClosing l D cI cZ a0 j_3 t_22 zs_19 (tm + lk) np a1 a2 a3 a4 a5 a6 a7 a8 a9 a10 a11 PH EN CL CB s.heap.size h_np h_CL h_CB (by first | omega | (dsimp only; omega)) hg_23 (by first | omega | (dsimp only; omega))) (my_cwV 4 hts q_512 q_509 q_510 q_511 q_3 rfl rfl (by decide +kernel) ⟨Nat.le_of_ble_eq_true rfl, Nat.le_of_ble_eq_true rfl⟩) (my_preV hPc hDc hK hN 2 0 rfl rfl) rfl rfl hl.1 rfl (lv_room (Nat.le_of_ble_eq_true rfl)) d_PC_close_107 ⟨Nat.le_of_ble_eq_true rfl, Nat.le_of_ble_eq_true rfl⟩) hS (fun q _ h => hFc q h) hFc (fun uU tT H_30 locs ht hvm hw_29 hB hz1 hk1 hS => ?_)
              obtain ⟨PH_31, EN_32, CL_33, CB_34⟩ := uU
              obtain ⟨hP1, hD1⟩ := hB
              rw [ht] at hP1
              obtain ⟨hP, hD⟩ := va_join (wr := [(x, .inr (0, [.ref f0, .ref a0, .ref r0, .ref w0, .ref g0, .ref k0, .int tm, .int gp, .int lk])), (f0, .inr (1, [.int (nI nn), .ref f1, .ref f2, .ref f3, .ref f4])), (f1, .inl (cI, 7, .inl FC)), (f4, .inl (cZ, 7, .inl FA)), (a1, .inl (cI, 24, .inl (fun zy => nI (EP zy)))), (a2, .inl (cI, 24, .inl SI)), (a3, .inl (cI, 24, .inl LK)), (a4, .inl (cI, 1536, .inl SS)), (a5, .inl (cI, 12, .inl (fun zy => nI (ST zy)))), (a10, .inl (cI, 12, .inl LE)), (a11, .inl (cI, 12, .inl GR))]) (w1 := [(a0, .inr (2, [.int (nI np), .ref a1, .ref a2, .ref a3, .ref a4, .ref a5, .ref a6, .ref a7, .ref a8, .ref a9, .ref a10, .ref a11])), (a6, .inl (cI, 12, .inl PH_31)), (a7, .inl (cI, 12, .inl EN_32)), (a8, .inl (cI, 12, .inl (fun zy => nI (CL_33 zy)))), (a9, .inl (cI, 12, .inl (fun zy => nI (CB_34 zy))))]) hP hD [4, 10, 11, 12, 13] [0, 1, 2, 3, 5, 6, 7, 8, 9, 14, 15] rfl rfl (by decide) (by decide) hk1 hFc hP1 hD1
              have hP : va_P D vwCl [(x, .inr (0, [.ref f0, .ref a0, .ref r0, .ref w0, .ref g0, .ref k0, .int tm, .int gp, .int lk])), (f0, .inr (1, [.int (nI nn), .ref f1, .ref f2, .ref f3, .ref f4])), (f1, .inl (cI, 7, .inl FC)), (f4, .inl (cZ, 7, .inl FA)), (a1, .inl (cI, 24, .inl (fun zy => nI (EP zy)))), (a2, .inl (cI, 24, .inl SI)), (a3, .inl (cI, 24, .inl LK)), (a4, .inl (cI, 1536, .inl SS)), (a5, .inl (cI, 12, .inl (fun zy => nI (ST zy)))), (a10, .inl (cI, 12, .inl LE)), (a11, .inl (cI, 12, .inl GR)), (a0, .inr (2, [.int (nI np), .ref a1, .ref a2, .ref a3, .ref a4, .ref a5, .ref a6, .ref a7, .ref a8, .ref a9, .ref a10, .ref a11])), (a6, .inl (cI, 12, .inl PH_31)), (a7, .inl (cI, 12, .inl EN_32)), (a8, .inl (cI, 12, .inl (fun zy => nI (CL_33 zy)))), (a9, .inl (cI, 12, .inl (fun zy => nI (CB_34 zy))))] H_30 := hP
              have hD : va_D A [(x, .inr (0, [.ref f0, .ref a0, .ref r0, .ref w0, .ref g0, .ref k0, .int tm, .int gp, .int lk])), (f0, .inr (1, [.int (nI nn), .ref f1, .ref f2, .ref f3, .ref f4])), (f1, .inl (cI, 7, .inl FC)), (f4, .inl (cZ, 7, .inl FA)), (a1, .inl (cI, 24, .inl (fun zy => nI (EP zy)))), (a2, .inl (cI, 24, .inl SI)), (a3, .inl (cI, 24, .inl LK)), (a4, .inl (cI, 1536, .inl SS)), (a5, .inl (cI, 12, .inl (fun zy => nI (ST zy)))), (a10, .inl (cI, 12, .inl LE)), (a11, .inl (cI, 12, .inl GR)), (a0, .inr (2, [.int (nI np), .ref a1, .ref a2, .ref a3, .ref a4, .ref a5, .ref a6, .ref a7, .ref a8, .ref a9, .ref a10, .ref a11])), (a6, .inl (cI, 12, .inl PH_31)), (a7, .inl (cI, 12, .inl EN_32)), (a8, .inl (cI, 12, .inl (fun zy => nI (CL_33 zy)))), (a9, .inl (cI, 12, .inl (fun zy => nI (CB_34 zy))))] := hD
              have hw_29 : (∀ zz, CL_33 zz ≤ 1) ∧ (∀ zz, CB_34 zz ≤ 63) := hw_29
              obtain ⟨hf_34_0, hf_34_1⟩ := hw_29
              have hf_34_0 : ∀ zz, CL_33 zz ≤ 1 := hf_34_0
              have hf_34_1 : ∀ zz, CB_34 zz ≤ 63 := hf_34_1
              refine lv_aload_n hx hb d_PC_close_110 rfl (lv_at hl 1 rfl) ?_
              refine va_get (D := D) (ci := 0) (v := .ref a0) (C := R_PC) (T := F_PC) (N := 9) hx hb hts i_PC hown hK hP 0 rfl rfl 1 (by decide) (hts _ q_257) (fun _ h9 => h9) rfl d_PC_close_111 ?_
              refine lv_iload_n hx hb d_PC_close_114 rfl (lv_at hl 2 rfl) ?_
              refine lv_aload_n hx hb d_PC_close_115 rfl (lv_at hl 1 rfl) ?_
              refine va_get (D := D) (ci := 0) (v := .ref f0) (C := R_PC) (T := F_PC) (N := 9) hx hb hts i_PC hown hK hP 0 rfl rfl 0 (by decide) (hts _ q_256) (fun _ h9 => h9) rfl d_PC_close_116 ?_
              have hPc := hP.sub (ws' := [(a0, .inr (2, [.int (nI np), .ref a1, .ref a2, .ref a3, .ref a4, .ref a5, .ref a6, .ref a7, .ref a8, .ref a9, .ref a10, .ref a11])), (a1, .inl (cI, 24, .inl (fun zy => nI (EP zy)))), (a2, .inl (cI, 24, .inl SI)), (a4, .inl (cI, 1536, .inl SS)), (a5, .inl (cI, 12, .inl (fun zy => nI (ST zy)))), (a6, .inl (cI, 12, .inl PH_31)), (a8, .inl (cI, 12, .inl (fun zy => nI (CL_33 zy)))), (a9, .inl (cI, 12, .inl (fun zy => nI (CB_34 zy)))), (a10, .inl (cI, 12, .inl LE)), (a11, .inl (cI, 12, .inl GR)), (f0, .inr (1, [.int (nI nn), .ref f1, .ref f2, .ref f3, .ref f4])), (f1, .inl (cI, 7, .inl FC)), (f4, .inl (cZ, 7, .inl FA))]) [11, 4, 5, 7, 8, 12, 14, 15, 9, 10, 1, 2, 3] rfl
              have hDc := hD.sub (ws' := [(a0, .inr (2, [.int (nI np), .ref a1, .ref a2, .ref a3, .ref a4, .ref a5, .ref a6, .ref a7, .ref a8, .ref a9, .ref a10, .ref a11])), (a1, .inl (cI, 24, .inl (fun zy => nI (EP zy)))), (a2, .inl (cI, 24, .inl SI)), (a4, .inl (cI, 1536, .inl SS)), (a5, .inl (cI, 12, .inl (fun zy => nI (ST zy)))), (a6, .inl (cI, 12, .inl PH_31)), (a8, .inl (cI, 12, .inl (fun zy => nI (CL_33 zy)))), (a9, .inl (cI, 12, .inl (fun zy => nI (CB_34 zy)))), (a10, .inl (cI, 12, .inl LE)), (a11, .inl (cI, 12, .inl GR)), (f0, .inr (1, [.int (nI nn), .ref f1, .ref f2, .ref f3, .ref f4])), (f1, .inl (cI, 7, .inl FC)), (f4, .inl (cZ, 7, .inl FA))]) [11, 4, 5, 7, 8, 12, 14, 15, 9, 10, 1, 2, 3] (by decide) rfl
              have hFc := va_free (wc := [(a0, .inr (2, [.int (nI np), .ref a1, .ref a2, .ref a3, .ref a4, .ref a5, .ref a6, .ref a7, .ref a8, .ref a9, .ref a10, .ref a11])), (a1, .inl (cI, 24, .inl (fun zy => nI (EP zy)))), (a2, .inl (cI, 24, .inl SI)), (a4, .inl (cI, 1536, .inl SS)), (a5, .inl (cI, 12, .inl (fun zy => nI (ST zy)))), (a6, .inl (cI, 12, .inl PH_31)), (a8, .inl (cI, 12, .inl (fun zy => nI (CL_33 zy)))), (a9, .inl (cI, 12, .inl (fun zy => nI (CB_34 zy)))), (a10, .inl (cI, 12, .inl LE)), (a11, .inl (cI, 12, .inl GR)), (f0, .inr (1, [.int (nI nn), .ref f1, .ref f2, .ref f3, .ref f4])), (f1, .inl (cI, 7, .inl FC)), (f4, .inl (cZ, 7, .inl FA))]) hD hS hA [11, 4, 5, 7, 8, 12, 14, 15, 9, 10, 1, 2, 3] rfl
              refine va_calli (va_runV (As := [.int (nI j_3), .ref f0]) (rest := []) ⟨hx, hb, hml, hown, hts⟩ (g_PA_isCaught l D cI cZ a0 j_3 f0 np a1 a2 a3 a4 a5 a6 a7 a8 a9 a10 a11 EP SI SS ST PH_31 CL_33 CB_34 LE GR nn f1 f2 f3 f4 FC FA H_30.size h_np h_EP h_ST hf_34_0 hf_34_1 h_nn (by first | omega | (dsimp only; omega)) h1st) (my_cwV 2 hts q_368 q_513 q_366 q_367 q_3 rfl rfl (by decide +kernel) ⟨Nat.le_of_ble_eq_true rfl, Nat.le_of_ble_eq_true rfl⟩) (my_preV hPc hDc hK hN 2 0 rfl rfl) rfl rfl hl.1 rfl (lv_room (Nat.le_of_ble_eq_true rfl)) d_PC_close_119 ⟨Nat.le_of_ble_eq_true rfl, Nat.le_of_ble_eq_true rfl⟩) hS (fun q _ h => hFc q h) hFc (fun r_35 uU tT H_36 locs ht hvm hw_35 hB hz1 hk1 hS => ?_)
              obtain ⟨SI_37, PH_38, LE_39, GR_40, FC_41⟩ := uU
              obtain ⟨hP1, hD1⟩ := hB
              rw [ht] at hP1
              obtain ⟨hP, hD⟩ := va_join (wr := [(x, .inr (0, [.ref f0, .ref a0, .ref r0, .ref w0, .ref g0, .ref k0, .int tm, .int gp, .int lk])), (a3, .inl (cI, 24, .inl LK)), (a7, .inl (cI, 12, .inl EN_32))]) (w1 := [(a0, .inr (2, [.int (nI np), .ref a1, .ref a2, .ref a3, .ref a4, .ref a5, .ref a6, .ref a7, .ref a8, .ref a9, .ref a10, .ref a11])), (a1, .inl (cI, 24, .inl (fun zy => nI (EP zy)))), (a2, .inl (cI, 24, .inl SI_37)), (a4, .inl (cI, 1536, .inl SS)), (a5, .inl (cI, 12, .inl (fun zy => nI (ST zy)))), (a6, .inl (cI, 12, .inl PH_38)), (a8, .inl (cI, 12, .inl (fun zy => nI (CL_33 zy)))), (a9, .inl (cI, 12, .inl (fun zy => nI (CB_34 zy)))), (a10, .inl (cI, 12, .inl LE_39)), (a11, .inl (cI, 12, .inl GR_40)), (f0, .inr (1, [.int (nI nn), .ref f1, .ref f2, .ref f3, .ref f4])), (f1, .inl (cI, 7, .inl FC_41)), (f4, .inl (cZ, 7, .inl FA))]) hP hD [11, 4, 5, 7, 8, 12, 14, 15, 9, 10, 1, 2, 3] [0, 6, 13] rfl rfl (by decide) (by decide) hk1 hFc hP1 hD1
              have hP : va_P D vwCl [(x, .inr (0, [.ref f0, .ref a0, .ref r0, .ref w0, .ref g0, .ref k0, .int tm, .int gp, .int lk])), (a3, .inl (cI, 24, .inl LK)), (a7, .inl (cI, 12, .inl EN_32)), (a0, .inr (2, [.int (nI np), .ref a1, .ref a2, .ref a3, .ref a4, .ref a5, .ref a6, .ref a7, .ref a8, .ref a9, .ref a10, .ref a11])), (a1, .inl (cI, 24, .inl (fun zy => nI (EP zy)))), (a2, .inl (cI, 24, .inl SI_37)), (a4, .inl (cI, 1536, .inl SS)), (a5, .inl (cI, 12, .inl (fun zy => nI (ST zy)))), (a6, .inl (cI, 12, .inl PH_38)), (a8, .inl (cI, 12, .inl (fun zy => nI (CL_33 zy)))), (a9, .inl (cI, 12, .inl (fun zy => nI (CB_34 zy)))), (a10, .inl (cI, 12, .inl LE_39)), (a11, .inl (cI, 12, .inl GR_40)), (f0, .inr (1, [.int (nI nn), .ref f1, .ref f2, .ref f3, .ref f4])), (f1, .inl (cI, 7, .inl FC_41)), (f4, .inl (cZ, 7, .inl FA))] H_36 := hP
              have hD : va_D A [(x, .inr (0, [.ref f0, .ref a0, .ref r0, .ref w0, .ref g0, .ref k0, .int tm, .int gp, .int lk])), (a3, .inl (cI, 24, .inl LK)), (a7, .inl (cI, 12, .inl EN_32)), (a0, .inr (2, [.int (nI np), .ref a1, .ref a2, .ref a3, .ref a4, .ref a5, .ref a6, .ref a7, .ref a8, .ref a9, .ref a10, .ref a11])), (a1, .inl (cI, 24, .inl (fun zy => nI (EP zy)))), (a2, .inl (cI, 24, .inl SI_37)), (a4, .inl (cI, 1536, .inl SS)), (a5, .inl (cI, 12, .inl (fun zy => nI (ST zy)))), (a6, .inl (cI, 12, .inl PH_38)), (a8, .inl (cI, 12, .inl (fun zy => nI (CL_33 zy)))), (a9, .inl (cI, 12, .inl (fun zy => nI (CB_34 zy)))), (a10, .inl (cI, 12, .inl LE_39)), (a11, .inl (cI, 12, .inl GR_40)), (f0, .inr (1, [.int (nI nn), .ref f1, .ref f2, .ref f3, .ref f4])), (f1, .inl (cI, 7, .inl FC_41)), (f4, .inl (cZ, 7, .inl FA))] := hD
              rcases hw_35 with rfl | rfl
              · refine lv_if_eq (tgt := 129) hx hb d_PC_close_122 (by decide) (fun _ => ?_) (fun h => absurd h (by decide))
                refine lv_iconst (v := 1) hx hb d_PC_close_129 (by decide) ?_
                have hP9 := hP.sub (ws' := [(x, .inr (0, [.ref f0, .ref a0, .ref r0, .ref w0, .ref g0, .ref k0, .int tm, .int gp, .int lk])), (f0, .inr (1, [.int (nI nn), .ref f1, .ref f2, .ref f3, .ref f4])), (f1, .inl (cI, 7, .inl FC_41)), (f4, .inl (cZ, 7, .inl FA)), (a0, .inr (2, [.int (nI np), .ref a1, .ref a2, .ref a3, .ref a4, .ref a5, .ref a6, .ref a7, .ref a8, .ref a9, .ref a10, .ref a11])), (a1, .inl (cI, 24, .inl (fun zy => nI (EP zy)))), (a2, .inl (cI, 24, .inl SI_37)), (a3, .inl (cI, 24, .inl LK)), (a4, .inl (cI, 1536, .inl SS)), (a5, .inl (cI, 12, .inl (fun zy => nI (ST zy)))), (a6, .inl (cI, 12, .inl PH_38)), (a7, .inl (cI, 12, .inl EN_32)), (a8, .inl (cI, 12, .inl (fun zy => nI (CL_33 zy)))), (a9, .inl (cI, 12, .inl (fun zy => nI (CB_34 zy)))), (a10, .inl (cI, 12, .inl LE_39)), (a11, .inl (cI, 12, .inl GR_40))]) [0, 13, 14, 15, 3, 4, 5, 1, 6, 7, 8, 2, 9, 10, 11, 12] rfl
                have hD9 := hD.sub (ws' := [(x, .inr (0, [.ref f0, .ref a0, .ref r0, .ref w0, .ref g0, .ref k0, .int tm, .int gp, .int lk])), (f0, .inr (1, [.int (nI nn), .ref f1, .ref f2, .ref f3, .ref f4])), (f1, .inl (cI, 7, .inl FC_41)), (f4, .inl (cZ, 7, .inl FA)), (a0, .inr (2, [.int (nI np), .ref a1, .ref a2, .ref a3, .ref a4, .ref a5, .ref a6, .ref a7, .ref a8, .ref a9, .ref a10, .ref a11])), (a1, .inl (cI, 24, .inl (fun zy => nI (EP zy)))), (a2, .inl (cI, 24, .inl SI_37)), (a3, .inl (cI, 24, .inl LK)), (a4, .inl (cI, 1536, .inl SS)), (a5, .inl (cI, 12, .inl (fun zy => nI (ST zy)))), (a6, .inl (cI, 12, .inl PH_38)), (a7, .inl (cI, 12, .inl EN_32)), (a8, .inl (cI, 12, .inl (fun zy => nI (CL_33 zy)))), (a9, .inl (cI, 12, .inl (fun zy => nI (CB_34 zy)))), (a10, .inl (cI, 12, .inl LE_39)), (a11, .inl (cI, 12, .inl GR_40))]) [0, 13, 14, 15, 3, 4, 5, 1, 6, 7, 8, 2, 9, 10, 11, 12] (by decide) rfl
                refine W.widen (k := 0) (n := 0) (Nat.le_of_ble_eq_true rfl) (Nat.le_of_ble_eq_true rfl) ?_
                exact W.iret (v := 1) hx hb hr (fun tT ht hW => ⟨⟨1, (SI_37, PH_38, EN_32, CL_33, CB_34, LE_39, GR_40, FC_41), rfl, ⟨hf_34_0, hf_34_1⟩, by rw [ht]; exact hP9, hD9⟩, hS.F ht⟩) hS.2.2 d_PC_close_130
              · refine lv_if_eq (tgt := 129) hx hb d_PC_close_122 (by decide) (fun h => absurd h (by decide)) (fun _ => ?_)
                refine lv_iconst (v := 2) hx hb d_PC_close_125 (by decide) ?_
                refine lv_goto (tgt := 130) hx hb d_PC_close_126 (by decide) ?_
                have hP9 := hP.sub (ws' := [(x, .inr (0, [.ref f0, .ref a0, .ref r0, .ref w0, .ref g0, .ref k0, .int tm, .int gp, .int lk])), (f0, .inr (1, [.int (nI nn), .ref f1, .ref f2, .ref f3, .ref f4])), (f1, .inl (cI, 7, .inl FC_41)), (f4, .inl (cZ, 7, .inl FA)), (a0, .inr (2, [.int (nI np), .ref a1, .ref a2, .ref a3, .ref a4, .ref a5, .ref a6, .ref a7, .ref a8, .ref a9, .ref a10, .ref a11])), (a1, .inl (cI, 24, .inl (fun zy => nI (EP zy)))), (a2, .inl (cI, 24, .inl SI_37)), (a3, .inl (cI, 24, .inl LK)), (a4, .inl (cI, 1536, .inl SS)), (a5, .inl (cI, 12, .inl (fun zy => nI (ST zy)))), (a6, .inl (cI, 12, .inl PH_38)), (a7, .inl (cI, 12, .inl EN_32)), (a8, .inl (cI, 12, .inl (fun zy => nI (CL_33 zy)))), (a9, .inl (cI, 12, .inl (fun zy => nI (CB_34 zy)))), (a10, .inl (cI, 12, .inl LE_39)), (a11, .inl (cI, 12, .inl GR_40))]) [0, 13, 14, 15, 3, 4, 5, 1, 6, 7, 8, 2, 9, 10, 11, 12] rfl
                have hD9 := hD.sub (ws' := [(x, .inr (0, [.ref f0, .ref a0, .ref r0, .ref w0, .ref g0, .ref k0, .int tm, .int gp, .int lk])), (f0, .inr (1, [.int (nI nn), .ref f1, .ref f2, .ref f3, .ref f4])), (f1, .inl (cI, 7, .inl FC_41)), (f4, .inl (cZ, 7, .inl FA)), (a0, .inr (2, [.int (nI np), .ref a1, .ref a2, .ref a3, .ref a4, .ref a5, .ref a6, .ref a7, .ref a8, .ref a9, .ref a10, .ref a11])), (a1, .inl (cI, 24, .inl (fun zy => nI (EP zy)))), (a2, .inl (cI, 24, .inl SI_37)), (a3, .inl (cI, 24, .inl LK)), (a4, .inl (cI, 1536, .inl SS)), (a5, .inl (cI, 12, .inl (fun zy => nI (ST zy)))), (a6, .inl (cI, 12, .inl PH_38)), (a7, .inl (cI, 12, .inl EN_32)), (a8, .inl (cI, 12, .inl (fun zy => nI (CL_33 zy)))), (a9, .inl (cI, 12, .inl (fun zy => nI (CB_34 zy)))), (a10, .inl (cI, 12, .inl LE_39)), (a11, .inl (cI, 12, .inl GR_40))]) [0, 13, 14, 15, 3, 4, 5, 1, 6, 7, 8, 2, 9, 10, 11, 12] (by decide) rfl
                refine W.widen (k := 0) (n := 0) (Nat.le_of_ble_eq_true rfl) (Nat.le_of_ble_eq_true rfl) ?_
                exact W.iret (v := 2) hx hb hr (fun tT ht hW => ⟨⟨2, (SI_37, PH_38, EN_32, CL_33, CB_34, LE_39, GR_40, FC_41), rfl, ⟨hf_34_0, hf_34_1⟩, by rw [ht]; exact hP9, hD9⟩, hS.F ht⟩) hS.2.2 d_PC_close_130
            · refine lv_bipush (v := (-3)) hx hb d_PC_close_87 (by decide) ?_
              have hP9 := hP.sub (ws' := [(x, .inr (0, [.ref f0, .ref a0, .ref r0, .ref w0, .ref g0, .ref k0, .int tm, .int gp, .int lk])), (f0, .inr (1, [.int (nI nn), .ref f1, .ref f2, .ref f3, .ref f4])), (f1, .inl (cI, 7, .inl FC)), (f4, .inl (cZ, 7, .inl FA)), (a0, .inr (2, [.int (nI np), .ref a1, .ref a2, .ref a3, .ref a4, .ref a5, .ref a6, .ref a7, .ref a8, .ref a9, .ref a10, .ref a11])), (a1, .inl (cI, 24, .inl (fun zy => nI (EP zy)))), (a2, .inl (cI, 24, .inl SI)), (a3, .inl (cI, 24, .inl LK)), (a4, .inl (cI, 1536, .inl SS)), (a5, .inl (cI, 12, .inl (fun zy => nI (ST zy)))), (a6, .inl (cI, 12, .inl PH)), (a7, .inl (cI, 12, .inl EN)), (a8, .inl (cI, 12, .inl (fun zy => nI (CL zy)))), (a9, .inl (cI, 12, .inl (fun zy => nI (CB zy)))), (a10, .inl (cI, 12, .inl LE)), (a11, .inl (cI, 12, .inl GR))]) [0, 1, 2, 3, 4, 5, 6, 7, 8, 9, 10, 11, 12, 13, 14, 15] rfl
              have hD9 := hD.sub (ws' := [(x, .inr (0, [.ref f0, .ref a0, .ref r0, .ref w0, .ref g0, .ref k0, .int tm, .int gp, .int lk])), (f0, .inr (1, [.int (nI nn), .ref f1, .ref f2, .ref f3, .ref f4])), (f1, .inl (cI, 7, .inl FC)), (f4, .inl (cZ, 7, .inl FA)), (a0, .inr (2, [.int (nI np), .ref a1, .ref a2, .ref a3, .ref a4, .ref a5, .ref a6, .ref a7, .ref a8, .ref a9, .ref a10, .ref a11])), (a1, .inl (cI, 24, .inl (fun zy => nI (EP zy)))), (a2, .inl (cI, 24, .inl SI)), (a3, .inl (cI, 24, .inl LK)), (a4, .inl (cI, 1536, .inl SS)), (a5, .inl (cI, 12, .inl (fun zy => nI (ST zy)))), (a6, .inl (cI, 12, .inl PH)), (a7, .inl (cI, 12, .inl EN)), (a8, .inl (cI, 12, .inl (fun zy => nI (CL zy)))), (a9, .inl (cI, 12, .inl (fun zy => nI (CB zy)))), (a10, .inl (cI, 12, .inl LE)), (a11, .inl (cI, 12, .inl GR))]) [0, 1, 2, 3, 4, 5, 6, 7, 8, 9, 10, 11, 12, 13, 14, 15] (by decide) rfl
              refine W.widen (k := 0) (n := 0) (Nat.le_of_ble_eq_true rfl) (Nat.le_of_ble_eq_true rfl) ?_
              exact W.iret (v := (-3)) hx hb hr (fun tT ht hW => ⟨⟨(-3), (SI, PH, EN, CL, CB, LE, GR, FC), rfl, ⟨h_CL, h_CB⟩, by rw [ht]; exact hP9, hD9⟩, hS.F ht⟩) hS.2.2 d_PC_close_89
      · refine lv_bipush (v := (-2)) hx hb d_PC_close_41 (by decide) ?_
        have hP9 := hP.sub (ws' := [(x, .inr (0, [.ref f0, .ref a0, .ref r0, .ref w0, .ref g0, .ref k0, .int tm, .int gp, .int lk])), (f0, .inr (1, [.int (nI nn), .ref f1, .ref f2, .ref f3, .ref f4])), (f1, .inl (cI, 7, .inl FC)), (f4, .inl (cZ, 7, .inl FA)), (a0, .inr (2, [.int (nI np), .ref a1, .ref a2, .ref a3, .ref a4, .ref a5, .ref a6, .ref a7, .ref a8, .ref a9, .ref a10, .ref a11])), (a1, .inl (cI, 24, .inl (fun zy => nI (EP zy)))), (a2, .inl (cI, 24, .inl SI)), (a3, .inl (cI, 24, .inl LK)), (a4, .inl (cI, 1536, .inl SS)), (a5, .inl (cI, 12, .inl (fun zy => nI (ST zy)))), (a6, .inl (cI, 12, .inl PH)), (a7, .inl (cI, 12, .inl EN)), (a8, .inl (cI, 12, .inl (fun zy => nI (CL zy)))), (a9, .inl (cI, 12, .inl (fun zy => nI (CB zy)))), (a10, .inl (cI, 12, .inl LE)), (a11, .inl (cI, 12, .inl GR))]) [0, 1, 2, 3, 4, 5, 6, 7, 8, 9, 10, 11, 12, 13, 14, 15] rfl
        have hD9 := hD.sub (ws' := [(x, .inr (0, [.ref f0, .ref a0, .ref r0, .ref w0, .ref g0, .ref k0, .int tm, .int gp, .int lk])), (f0, .inr (1, [.int (nI nn), .ref f1, .ref f2, .ref f3, .ref f4])), (f1, .inl (cI, 7, .inl FC)), (f4, .inl (cZ, 7, .inl FA)), (a0, .inr (2, [.int (nI np), .ref a1, .ref a2, .ref a3, .ref a4, .ref a5, .ref a6, .ref a7, .ref a8, .ref a9, .ref a10, .ref a11])), (a1, .inl (cI, 24, .inl (fun zy => nI (EP zy)))), (a2, .inl (cI, 24, .inl SI)), (a3, .inl (cI, 24, .inl LK)), (a4, .inl (cI, 1536, .inl SS)), (a5, .inl (cI, 12, .inl (fun zy => nI (ST zy)))), (a6, .inl (cI, 12, .inl PH)), (a7, .inl (cI, 12, .inl EN)), (a8, .inl (cI, 12, .inl (fun zy => nI (CL zy)))), (a9, .inl (cI, 12, .inl (fun zy => nI (CB zy)))), (a10, .inl (cI, 12, .inl LE)), (a11, .inl (cI, 12, .inl GR))]) [0, 1, 2, 3, 4, 5, 6, 7, 8, 9, 10, 11, 12, 13, 14, 15] (by decide) rfl
        refine W.widen (k := 0) (n := 0) (Nat.le_of_ble_eq_true rfl) (Nat.le_of_ble_eq_true rfl) ?_
        exact W.iret (v := (-2)) hx hb hr (fun tT ht hW => ⟨⟨(-2), (SI, PH, EN, CL, CB, LE, GR, FC), rfl, ⟨h_CL, h_CB⟩, by rw [ht]; exact hP9, hD9⟩, hS.F ht⟩) hS.2.2 d_PC_close_43

set_option maxHeartbeats 4000000 in
set_option maxRecDepth 100000 in
theorem g_PC_wealth (l : Launch) (D : va_G) (cI cZ : ClassId) (x : Nat) (i : Int32) (f0 : Nat) (a0 : Nat) (r0 : Nat) (w0 : Nat) (g0 : Nat) (k0 : Nat) (tm : Int32) (gp : Int32) (lk : Int32) (nn : Nat) (f1 : Nat) (f2 : Nat) (f3 : Nat) (f4 : Nat) (FC : Nat → Int32) (np : Nat) (a1 : Nat) (a2 : Nat) (a3 : Nat) (a4 : Nat) (a5 : Nat) (a6 : Nat) (a7 : Nat) (a8 : Nat) (a9 : Nat) (a10 : Nat) (a11 : Nat) (EP : Nat → Nat) (SI : Nat → Int32) (LK : Nat → Int32) (sz : Nat) (h_nn : nn ≤ 7) (h_np : np ≤ 12) (h_EP : ∀ zz, EP zz ≤ 6) : Met l ⟨"PromiseChains", "wealth", "(I)I"⟩ (mw ⟨"PromiseChains", "wealth", "(I)I"⟩ prog_1_method_19_code 4 (some .int)) ({ frames := 2, cells := 0, slots := 0, locals := 43 }) (va_Pc [.ref x, .int i] (PB D cI cZ sz [(x, .inr (0, [.ref f0, .ref a0, .ref r0, .ref w0, .ref g0, .ref k0, .int tm, .int gp, .int lk])), (f0, .inr (1, [.int (nI nn), .ref f1, .ref f2, .ref f3, .ref f4])), (f1, .inl (cI, 7, .inl FC)), (a0, .inr (2, [.int (nI np), .ref a1, .ref a2, .ref a3, .ref a4, .ref a5, .ref a6, .ref a7, .ref a8, .ref a9, .ref a10, .ref a11])), (a1, .inl (cI, 24, .inl (fun zy => nI (EP zy)))), (a2, .inl (cI, 24, .inl SI)), (a3, .inl (cI, 24, .inl LK))])) (vp_Si (fun r => True)) 0 0 (fun _ => False) := by
  refine Met.ofW (cc := prog_1_method_19_code) (maxL := 4) (ret := (some .int)) (by decide) rfl ?_
  intro p e s m args below meth c s₁ B hml hv
  obtain ⟨rfl, hsz, hP, hK, hD0, hN⟩ := hv
  have hx := B.exec
  have hb := B.bytes
  have hr := B.returns
  have hts0 := atoms_spec (ws := mw ⟨"PromiseChains", "wealth", "(I)I"⟩ prog_1_method_19_code 4 (some .int)) B.pre
  have hts : ∀ w ∈ tblG, w.before _ s = true := fun w h => hts0 w (List.mem_cons_of_mem _ h)
  have hown : s.vm.findClass "PromiseChains" = some m.cls := findClass_of_methodNamed B.named
  have hlocks := B.notSynchronized
  subst hsz
  have hD := hD0
  have hP : va_P D vwCl [(x, .inr (0, [.ref f0, .ref a0, .ref r0, .ref w0, .ref g0, .ref k0, .int tm, .int gp, .int lk])), (f0, .inr (1, [.int (nI nn), .ref f1, .ref f2, .ref f3, .ref f4])), (f1, .inl (cI, 7, .inl FC)), (a0, .inr (2, [.int (nI np), .ref a1, .ref a2, .ref a3, .ref a4, .ref a5, .ref a6, .ref a7, .ref a8, .ref a9, .ref a10, .ref a11])), (a1, .inl (cI, 24, .inl (fun zy => nI (EP zy)))), (a2, .inl (cI, 24, .inl SI)), (a3, .inl (cI, 24, .inl LK))] s.heap := hP
  have hl := lv_entry ([.ref x, .int i]) (n := 4) (Nat.le_of_ble_eq_true rfl)
  rw [lg_entry_eq]
  generalize (lg_sl ([.ref x, .int i]) ++ List.replicate (4 - (lg_sl ([.ref x, .int i])).length) Slot.unset).toArray = ls at hl ⊢
  have hl : lv_has ls 4 [(0, .ref x), (1, .int i)] := hl
  refine lv_aload_n hx hb d_PC_wealth_0 rfl (lv_at hl 0 rfl) ?_
  refine va_get (D := D) (ci := 0) (v := .ref f0) (C := R_PC) (T := F_PC) (N := 9) hx hb hts i_PC hown hK hP 0 rfl rfl 0 (by decide) (hts _ q_256) (fun _ h9 => h9) rfl d_PC_wealth_1 ?_
  refine lv_iload_n hx hb d_PC_wealth_4 rfl (lv_at hl 1 rfl) ?_
  have hPc := hP.sub (ws' := [(f0, .inr (1, [.int (nI nn), .ref f1, .ref f2, .ref f3, .ref f4]))]) [1] rfl
  have hDc := hD.sub (ws' := [(f0, .inr (1, [.int (nI nn), .ref f1, .ref f2, .ref f3, .ref f4]))]) [1] (by decide) rfl
  refine vp_callSi (va_Run.run (va_runV (As := [.int i]) (rest := []) ⟨hx, hb, hml, hown, hts⟩ (g_PE_has l D cI cZ f0 i nn f1 f2 f3 f4 s.heap.size h_nn) (my_cwV 1 hts q_302 q_299 q_300 q_301 q_2 rfl rfl (by decide +kernel) ⟨Nat.le_of_ble_eq_true rfl, Nat.le_of_ble_eq_true rfl⟩) (my_preV hPc hDc hK hN 1 0 rfl rfl) rfl rfl hl.1 rfl (lv_room (Nat.le_of_ble_eq_true rfl)) d_PC_wealth_5 ⟨Nat.le_of_ble_eq_true rfl, Nat.le_of_ble_eq_true rfl⟩)) (fun r_1 hw_1 => ?_)
  rcases hw_1 with ⟨hg_2, rfl⟩ | ⟨j_3, hg_4, hg_5, hg_6, rfl⟩
  · have hg_2 : isw i 0 (nI nn - 1) = 0 := hg_2
    refine lv_if_ne (tgt := 14) hx hb d_PC_wealth_8 (by decide) (fun h => absurd h (by decide)) (fun _ => ?_)
    refine lv_bipush (v := (-2)) hx hb d_PC_wealth_11 (by decide) ?_
    exact W.iret (v := (-2)) hx hb hr (fun tT ht hW => ⟨(-2), rfl, trivial, ht⟩) (fun q h => absurd h List.not_mem_nil) d_PC_wealth_13
  · have hg_4 : j_3 < nn := hg_4
    have hg_5 : i = nI j_3 := hg_5
    have hg_6 : ¬ isw i 0 (nI nn - 1) = 0 := hg_6
    subst hg_5
    refine lv_if_ne (tgt := 14) hx hb d_PC_wealth_8 (by decide) (fun _ => ?_) (fun h => absurd h (by decide))
    refine lv_aload_n hx hb d_PC_wealth_14 rfl (lv_at hl 0 rfl) ?_
    refine va_get (D := D) (ci := 0) (v := .ref f0) (C := R_PC) (T := F_PC) (N := 9) hx hb hts i_PC hown hK hP 0 rfl rfl 0 (by decide) (hts _ q_256) (fun _ h9 => h9) rfl d_PC_wealth_15 ?_
    refine va_get (D := D) (ci := 1) (v := .ref f1) (C := R_PE) (T := F_PE) (N := 5) hx hb hts i_PE hown hK hP 1 rfl rfl 1 (by decide) (hts _ q_28) (fun _ h9 => h9) rfl d_PC_wealth_18 ?_
    refine lv_iload_n hx hb d_PC_wealth_21 rfl (lv_at hl 1 rfl) ?_
    refine my_ldI hx hb hK hP 2 rfl j_3 rfl (by omega) (by decide) d_PC_wealth_22 ?_
    refine lv_istore_n (lv' := [(2, .int (FC j_3)), (0, .ref x), (1, .int (nI j_3))]) hx hb d_PC_wealth_23 rfl hl (by decide) rfl (fun ls hl => ?_)
    refine lv_iconst (v := 0) hx hb d_PC_wealth_24 (by decide) ?_
    refine lv_istore_n (lv' := [(3, .int 0), (2, .int (FC j_3)), (0, .ref x), (1, .int (nI j_3))]) hx hb d_PC_wealth_25 rfl hl (by decide) rfl (fun ls hl => ?_)
    refine W_loop (σ := Nat × Int32) (I := fun xX H locs ls => xX.1 ≤ 2 * np ∧ H = s.heap ∧ locs = [] ∧ lv_has ls 4 [(3, .int (nI xX.1)), (2, .int xX.2), (1, .int (nI j_3)), (0, .ref x)]) (μ := fun xX => 25 - xX.1) ?_ (0, (FC j_3)) ⟨(by first | omega | (dsimp only; omega)), rfl, rfl, lv_sub hl [0, 1, 3, 2] rfl⟩
    intro xX H_9 locs ls hI ih1
    obtain ⟨k_l, sm_v⟩ := xX
    obtain ⟨hk, rfl, rfl, hl⟩ := hI
    have hl : lv_has ls 4 [(3, .int (nI k_l)), (2, .int sm_v), (1, .int (nI j_3)), (0, .ref x)] := hl
    have hk : k_l ≤ 2 * np := hk
    refine lv_iload_n hx hb d_PC_wealth_26 rfl (lv_at hl 0 rfl) ?_
    refine lv_iconst (v := 2) hx hb d_PC_wealth_27 (by decide) ?_
    refine lv_aload_n hx hb d_PC_wealth_28 rfl (lv_at hl 3 rfl) ?_
    refine va_get (D := D) (ci := 0) (v := .ref a0) (C := R_PC) (T := F_PC) (N := 9) hx hb hts i_PC hown hK hP 0 rfl rfl 1 (by decide) (hts _ q_257) (fun _ h9 => h9) rfl d_PC_wealth_29 ?_
    refine va_get (D := D) (ci := 2) (v := .int (nI np)) (C := R_PA) (T := F_PA) (N := 12) hx hb hts i_PA hown hK hP 3 rfl rfl 0 (by decide) (hts _ q_57) (fun _ h9 => h9) rfl d_PC_wealth_32 ?_
    refine lv_imul hx hb d_PC_wealth_35 ?_
    refine lv_seti (nI (2 * np)) (pk_mul 2 np) ?_
    refine lv_icmp_ge (tgt := 80) hx hb d_PC_wealth_36 (by decide) (fun h_10 => ?_) (fun h_10 => ?_)
    · have nh_10 : (2 * np) ≤ k_l := (nI_leI (a := (2 * np)) (b := k_l) (by omega) (by omega)).mp h_10
      refine lv_iload_n hx hb d_PC_wealth_80 rfl (lv_at hl 1 rfl) ?_
      exact W.iret (v := sm_v) hx hb hr (fun tT ht hW => ⟨sm_v, rfl, trivial, ht⟩) (fun q h => absurd h List.not_mem_nil) d_PC_wealth_81
    · have nh_10 : ¬ (2 * np) ≤ k_l := fun qZ => h_10 ((nI_leI (a := (2 * np)) (b := k_l) (by omega) (by omega)).mpr qZ)
      refine lv_aload_n hx hb d_PC_wealth_39 rfl (lv_at hl 3 rfl) ?_
      refine va_get (D := D) (ci := 0) (v := .ref a0) (C := R_PC) (T := F_PC) (N := 9) hx hb hts i_PC hown hK hP 0 rfl rfl 1 (by decide) (hts _ q_257) (fun _ h9 => h9) rfl d_PC_wealth_40 ?_
      refine va_get (D := D) (ci := 2) (v := .ref a1) (C := R_PA) (T := F_PA) (N := 12) hx hb hts i_PA hown hK hP 3 rfl rfl 1 (by decide) (hts _ q_60) (fun _ h9 => h9) rfl d_PC_wealth_43 ?_
      refine lv_iload_n hx hb d_PC_wealth_46 rfl (lv_at hl 0 rfl) ?_
      refine my_ldN hx hb hK hP 4 rfl k_l rfl (by omega) (by decide) d_PC_wealth_47 ?_
      have hb_1 : EP k_l ≤ 6 := h_EP _
      refine lv_iload_n hx hb d_PC_wealth_48 rfl (lv_at hl 2 rfl) ?_
      refine lv_icmp_ne (tgt := 74) hx hb d_PC_wealth_49 (by decide) (fun h_11 => ?_) (fun h_11 => ?_)
      · have nh_11 : ¬ (EP k_l) = j_3 := fun qZ => h_11 ((nI_eq (a := (EP k_l)) (b := j_3) (by omega) (by omega)).mpr qZ)
        refine lv_iinc (v := nI (k_l + 1)) (lv' := [(3, .int (nI (k_l + 1))), (2, .int sm_v), (1, .int (nI j_3)), (0, .ref x)]) hx hb d_PC_wealth_74 hl (k := 0) rfl (nI_1 k_l) (by decide) rfl (fun ls hl => ?_)
        refine lv_goto (tgt := 26) hx hb d_PC_wealth_77 (by decide) ?_
        exact ih1 ((k_l + 1), sm_v) _ _ _ (by first | omega | (dsimp only; omega)) ⟨(by first | omega | (dsimp only; omega)), rfl, rfl, lv_sub hl [0, 1, 2, 3] rfl⟩
      · have nh_11 : (EP k_l) = j_3 := (nI_eq (a := (EP k_l)) (b := j_3) (by omega) (by omega)).mp h_11
        refine lv_iload_n hx hb d_PC_wealth_52 rfl (lv_at hl 1 rfl) ?_
        refine lv_aload_n hx hb d_PC_wealth_53 rfl (lv_at hl 3 rfl) ?_
        refine va_get (D := D) (ci := 0) (v := .ref a0) (C := R_PC) (T := F_PC) (N := 9) hx hb hts i_PC hown hK hP 0 rfl rfl 1 (by decide) (hts _ q_257) (fun _ h9 => h9) rfl d_PC_wealth_54 ?_
        refine va_get (D := D) (ci := 2) (v := .ref a2) (C := R_PA) (T := F_PA) (N := 12) hx hb hts i_PA hown hK hP 3 rfl rfl 2 (by decide) (hts _ q_63) (fun _ h9 => h9) rfl d_PC_wealth_57 ?_
        refine lv_iload_n hx hb d_PC_wealth_60 rfl (lv_at hl 0 rfl) ?_
        refine my_ldI hx hb hK hP 5 rfl k_l rfl (by omega) (by decide) d_PC_wealth_61 ?_
        refine lv_aload_n hx hb d_PC_wealth_62 rfl (lv_at hl 3 rfl) ?_
        refine va_get (D := D) (ci := 0) (v := .ref a0) (C := R_PC) (T := F_PC) (N := 9) hx hb hts i_PC hown hK hP 0 rfl rfl 1 (by decide) (hts _ q_257) (fun _ h9 => h9) rfl d_PC_wealth_63 ?_
        refine va_get (D := D) (ci := 2) (v := .ref a3) (C := R_PA) (T := F_PA) (N := 12) hx hb hts i_PA hown hK hP 3 rfl rfl 3 (by decide) (hts _ q_65) (fun _ h9 => h9) rfl d_PC_wealth_66 ?_
        refine lv_iload_n hx hb d_PC_wealth_69 rfl (lv_at hl 0 rfl) ?_
        refine my_ldI hx hb hK hP 6 rfl k_l rfl (by omega) (by decide) d_PC_wealth_70 ?_
        refine lv_iadd hx hb d_PC_wealth_71 ?_
        refine lv_iadd hx hb d_PC_wealth_72 ?_
        refine lv_istore_n (lv' := [(2, .int (sm_v + ((SI k_l) + (LK k_l)))), (3, .int (nI k_l)), (1, .int (nI j_3)), (0, .ref x)]) hx hb d_PC_wealth_73 rfl hl (by decide) rfl (fun ls hl => ?_)
        refine lv_iinc (v := nI (k_l + 1)) (lv' := [(3, .int (nI (k_l + 1))), (2, .int (sm_v + ((SI k_l) + (LK k_l)))), (1, .int (nI j_3)), (0, .ref x)]) hx hb d_PC_wealth_74 hl (k := 1) rfl (nI_1 k_l) (by decide) rfl (fun ls hl => ?_)
        refine lv_goto (tgt := 26) hx hb d_PC_wealth_77 (by decide) ?_
        exact ih1 ((k_l + 1), sm_v + ((SI k_l) + (LK k_l))) _ _ _ (by first | omega | (dsimp only; omega)) ⟨(by first | omega | (dsimp only; omega)), rfl, rfl, lv_sub hl [0, 1, 2, 3] rfl⟩

set_option maxHeartbeats 4000000 in
set_option maxRecDepth 100000 in
theorem g_PC_off (l : Launch) (D : va_G) (cI cZ : ClassId) (x : Nat) (f0 : Nat) (a0 : Nat) (r0 : Nat) (w0 : Nat) (g0 : Nat) (k0 : Nat) (tm : Int32) (gp : Int32) (lk : Int32) (np : Nat) (a1 : Nat) (a2 : Nat) (a3 : Nat) (a4 : Nat) (a5 : Nat) (a6 : Nat) (a7 : Nat) (a8 : Nat) (a9 : Nat) (a10 : Nat) (a11 : Nat) (SI : Nat → Int32) (PH : Nat → Int32) (sz : Nat) (h_np : np ≤ 12) : Met l ⟨"PromiseChains", "off", "()I"⟩ (mw ⟨"PromiseChains", "off", "()I"⟩ prog_1_method_20_code 1 (some .int)) ({ frames := 2, cells := 0, slots := 0, locals := 36 }) (va_Pc [.ref x] (PB D cI cZ sz [(x, .inr (0, [.ref f0, .ref a0, .ref r0, .ref w0, .ref g0, .ref k0, .int tm, .int gp, .int lk])), (a0, .inr (2, [.int (nI np), .ref a1, .ref a2, .ref a3, .ref a4, .ref a5, .ref a6, .ref a7, .ref a8, .ref a9, .ref a10, .ref a11])), (a2, .inl (cI, 24, .inl SI)), (a6, .inl (cI, 12, .inl PH))])) (vp_Si (fun r => True)) 0 0 (fun _ => False) := by
  refine Met.ofW (cc := prog_1_method_20_code) (maxL := 1) (ret := (some .int)) (by decide) rfl ?_
  intro p e s m args below meth c s₁ B hml hv
  obtain ⟨rfl, hsz, hP, hK, hD0, hN⟩ := hv
  have hx := B.exec
  have hb := B.bytes
  have hr := B.returns
  have hts0 := atoms_spec (ws := mw ⟨"PromiseChains", "off", "()I"⟩ prog_1_method_20_code 1 (some .int)) B.pre
  have hts : ∀ w ∈ tblG, w.before _ s = true := fun w h => hts0 w (List.mem_cons_of_mem _ h)
  have hown : s.vm.findClass "PromiseChains" = some m.cls := findClass_of_methodNamed B.named
  have hlocks := B.notSynchronized
  subst hsz
  have hD := hD0
  have hP : va_P D vwCl [(x, .inr (0, [.ref f0, .ref a0, .ref r0, .ref w0, .ref g0, .ref k0, .int tm, .int gp, .int lk])), (a0, .inr (2, [.int (nI np), .ref a1, .ref a2, .ref a3, .ref a4, .ref a5, .ref a6, .ref a7, .ref a8, .ref a9, .ref a10, .ref a11])), (a2, .inl (cI, 24, .inl SI)), (a6, .inl (cI, 12, .inl PH))] s.heap := hP
  have hl := lv_entry ([.ref x]) (n := 1) (Nat.le_of_ble_eq_true rfl)
  rw [lg_entry_eq]
  generalize (lg_sl ([.ref x]) ++ List.replicate (1 - (lg_sl ([.ref x])).length) Slot.unset).toArray = ls at hl ⊢
  have hl : lv_has ls 1 [(0, .ref x)] := hl
  refine lv_aload_n hx hb d_PC_off_0 rfl (lv_at hl 0 rfl) ?_
  refine va_get (D := D) (ci := 0) (v := .ref a0) (C := R_PC) (T := F_PC) (N := 9) hx hb hts i_PC hown hK hP 0 rfl rfl 1 (by decide) (hts _ q_257) (fun _ h9 => h9) rfl d_PC_off_1 ?_
  have hPc := hP.sub (ws' := [(a0, .inr (2, [.int (nI np), .ref a1, .ref a2, .ref a3, .ref a4, .ref a5, .ref a6, .ref a7, .ref a8, .ref a9, .ref a10, .ref a11])), (a2, .inl (cI, 24, .inl SI)), (a6, .inl (cI, 12, .inl PH))]) [1, 2, 3] rfl
  have hDc := hD.sub (ws' := [(a0, .inr (2, [.int (nI np), .ref a1, .ref a2, .ref a3, .ref a4, .ref a5, .ref a6, .ref a7, .ref a8, .ref a9, .ref a10, .ref a11])), (a2, .inl (cI, 24, .inl SI)), (a6, .inl (cI, 12, .inl PH))]) [1, 2, 3] (by decide) rfl
  refine vp_callSi (va_Run.run (va_runV (As := []) (rest := []) ⟨hx, hb, hml, hown, hts⟩ (g_PA_sumOff l D cI cZ a0 np a1 a2 a3 a4 a5 a6 a7 a8 a9 a10 a11 SI PH s.heap.size h_np) (my_cwV 0 hts q_525 q_522 q_523 q_524 q_3 rfl rfl (by decide +kernel) ⟨Nat.le_of_ble_eq_true rfl, Nat.le_of_ble_eq_true rfl⟩) (my_preV hPc hDc hK hN 2 0 rfl rfl) rfl rfl hl.1 rfl (lv_room (Nat.le_of_ble_eq_true rfl)) d_PC_off_4 ⟨Nat.le_of_ble_eq_true rfl, Nat.le_of_ble_eq_true rfl⟩)) (fun r_1 hw_1 => ?_)
  exact W.iret (v := r_1) hx hb hr (fun tT ht hW => ⟨r_1, rfl, trivial, ht⟩) (fun q h => absurd h List.not_mem_nil) d_PC_off_7

set_option maxHeartbeats 4000000 in
set_option maxRecDepth 100000 in
theorem g_PC_findRing (l : Launch) (D : va_G) (cI cZ : ClassId) (x : Nat) (f0 : Nat) (a0 : Nat) (r0 : Nat) (w0 : Nat) (g0 : Nat) (k0 : Nat) (tm : Int32) (gp : Int32) (lk : Int32) (np : Nat) (a1 : Nat) (a2 : Nat) (a3 : Nat) (a4 : Nat) (a5 : Nat) (a6 : Nat) (a7 : Nat) (a8 : Nat) (a9 : Nat) (a10 : Nat) (a11 : Nat) (EP : Nat → Nat) (SI : Nat → Int32) (LK : Nat → Int32) (PH : Nat → Int32) (HM : Int32) (OB : Int32) (BO : Int32) (BM : Int32) (g1 : Nat) (g2 : Nat) (g5 : Nat) (GM : Nat → Int32) (gnl : Int32) (g3 : Nat) (g4 : Nat) (NP : Nat → Nat) (NF : Nat → Nat) (rl : Nat) (g6 : Nat) (g7 : Nat) (RP : Nat → Nat) (RF : Nat → Nat) (sz : Nat) (h_np : np ≤ 12) (h_EP : ∀ zz, EP zz ≤ 6) (h_NP : ∀ zz, NP zz ≤ 11) (h_NF : ∀ zz, NF zz ≤ 1) (h_rl : rl ≤ 7) (h_RP : ∀ zz, RP zz ≤ 11) (h_RF : ∀ zz, RF zz ≤ 1) : Met l ⟨"PromiseChains", "findRing", "()Z"⟩ (mw ⟨"PromiseChains", "findRing", "()Z"⟩ prog_1_method_33_code 4 (some .boolean)) ({ frames := 10, cells := 0, slots := 0, locals := 252 }) (va_Pc [.ref x] (PB D cI cZ sz [(x, .inr (0, [.ref f0, .ref a0, .ref r0, .ref w0, .ref g0, .ref k0, .int tm, .int gp, .int lk])), (a0, .inr (2, [.int (nI np), .ref a1, .ref a2, .ref a3, .ref a4, .ref a5, .ref a6, .ref a7, .ref a8, .ref a9, .ref a10, .ref a11])), (a1, .inl (cI, 24, .inl (fun zy => nI (EP zy)))), (a2, .inl (cI, 24, .inl SI)), (a3, .inl (cI, 24, .inl LK)), (a6, .inl (cI, 12, .inl PH)), (g0, .inr (5, [.int HM, .int OB, .int BO, .int BM, .ref g1, .ref g2, .ref g5])), (g1, .inl (cZ, 7, .inl GM)), (g2, .inr (6, [.int gnl, .ref g3, .ref g4])), (g3, .inl (cI, 7, .inl (fun zy => nI (NP zy)))), (g4, .inl (cI, 7, .inl (fun zy => nI (NF zy)))), (g5, .inr (6, [.int (nI rl), .ref g6, .ref g7])), (g6, .inl (cI, 7, .inl (fun zy => nI (RP zy)))), (g7, .inl (cI, 7, .inl (fun zy => nI (RF zy))))])) (va_Qi (S := Int32 × Int32 × Int32 × Int32 × Int32 × Nat × (Nat → Int32) × (Nat → Nat) × (Nat → Nat) × (Nat → Nat) × (Nat → Nat)) (fun (r : Int32) uU => (uU.2.2.2.2.2.1 ≤ 7) ∧ (∀ zz, uU.2.2.2.2.2.2.2.1 zz ≤ 11) ∧ (∀ zz, uU.2.2.2.2.2.2.2.2.1 zz ≤ 1) ∧ (∀ zz, uU.2.2.2.2.2.2.2.2.2.1 zz ≤ 11) ∧ (∀ zz, uU.2.2.2.2.2.2.2.2.2.2 zz ≤ 1) ∧ ((r = 0) ∨ (r = 1))) (fun uU tT => BB D (va_A [(x, .inr (0, [.ref f0, .ref a0, .ref r0, .ref w0, .ref g0, .ref k0, .int tm, .int gp, .int lk])), (a0, .inr (2, [.int (nI np), .ref a1, .ref a2, .ref a3, .ref a4, .ref a5, .ref a6, .ref a7, .ref a8, .ref a9, .ref a10, .ref a11])), (a1, .inl (cI, 24, .inl (fun zy => nI (EP zy)))), (a2, .inl (cI, 24, .inl SI)), (a3, .inl (cI, 24, .inl LK)), (a6, .inl (cI, 12, .inl PH)), (g0, .inr (5, [.int HM, .int OB, .int BO, .int BM, .ref g1, .ref g2, .ref g5])), (g1, .inl (cZ, 7, .inl GM)), (g2, .inr (6, [.int gnl, .ref g3, .ref g4])), (g3, .inl (cI, 7, .inl (fun zy => nI (NP zy)))), (g4, .inl (cI, 7, .inl (fun zy => nI (NF zy)))), (g5, .inr (6, [.int (nI rl), .ref g6, .ref g7])), (g6, .inl (cI, 7, .inl (fun zy => nI (RP zy)))), (g7, .inl (cI, 7, .inl (fun zy => nI (RF zy))))] sz) [(x, .inr (0, [.ref f0, .ref a0, .ref r0, .ref w0, .ref g0, .ref k0, .int tm, .int gp, .int lk])), (a0, .inr (2, [.int (nI np), .ref a1, .ref a2, .ref a3, .ref a4, .ref a5, .ref a6, .ref a7, .ref a8, .ref a9, .ref a10, .ref a11])), (a1, .inl (cI, 24, .inl (fun zy => nI (EP zy)))), (a2, .inl (cI, 24, .inl SI)), (a3, .inl (cI, 24, .inl LK)), (a6, .inl (cI, 12, .inl PH)), (g0, .inr (5, [.int (uU.1), .int (uU.2.1), .int (uU.2.2.1), .int (uU.2.2.2.1), .ref g1, .ref g2, .ref g5])), (g1, .inl (cZ, 7, .inl (uU.2.2.2.2.2.2.1))), (g2, .inr (6, [.int (uU.2.2.2.2.1), .ref g3, .ref g4])), (g3, .inl (cI, 7, .inl (fun zy => nI ((uU.2.2.2.2.2.2.2.1) zy)))), (g4, .inl (cI, 7, .inl (fun zy => nI ((uU.2.2.2.2.2.2.2.2.1) zy)))), (g5, .inr (6, [.int (nI uU.2.2.2.2.2.1), .ref g6, .ref g7])), (g6, .inl (cI, 7, .inl (fun zy => nI ((uU.2.2.2.2.2.2.2.2.2.1) zy)))), (g7, .inl (cI, 7, .inl (fun zy => nI ((uU.2.2.2.2.2.2.2.2.2.2) zy))))] tT) (va_A [(x, .inr (0, [.ref f0, .ref a0, .ref r0, .ref w0, .ref g0, .ref k0, .int tm, .int gp, .int lk])), (a0, .inr (2, [.int (nI np), .ref a1, .ref a2, .ref a3, .ref a4, .ref a5, .ref a6, .ref a7, .ref a8, .ref a9, .ref a10, .ref a11])), (a1, .inl (cI, 24, .inl (fun zy => nI (EP zy)))), (a2, .inl (cI, 24, .inl SI)), (a3, .inl (cI, 24, .inl LK)), (a6, .inl (cI, 12, .inl PH)), (g0, .inr (5, [.int HM, .int OB, .int BO, .int BM, .ref g1, .ref g2, .ref g5])), (g1, .inl (cZ, 7, .inl GM)), (g2, .inr (6, [.int gnl, .ref g3, .ref g4])), (g3, .inl (cI, 7, .inl (fun zy => nI (NP zy)))), (g4, .inl (cI, 7, .inl (fun zy => nI (NF zy)))), (g5, .inr (6, [.int (nI rl), .ref g6, .ref g7])), (g6, .inl (cI, 7, .inl (fun zy => nI (RP zy)))), (g7, .inl (cI, 7, .inl (fun zy => nI (RF zy))))] sz)) 0 0 (va_A [(x, .inr (0, [.ref f0, .ref a0, .ref r0, .ref w0, .ref g0, .ref k0, .int tm, .int gp, .int lk])), (a0, .inr (2, [.int (nI np), .ref a1, .ref a2, .ref a3, .ref a4, .ref a5, .ref a6, .ref a7, .ref a8, .ref a9, .ref a10, .ref a11])), (a1, .inl (cI, 24, .inl (fun zy => nI (EP zy)))), (a2, .inl (cI, 24, .inl SI)), (a3, .inl (cI, 24, .inl LK)), (a6, .inl (cI, 12, .inl PH)), (g0, .inr (5, [.int HM, .int OB, .int BO, .int BM, .ref g1, .ref g2, .ref g5])), (g1, .inl (cZ, 7, .inl GM)), (g2, .inr (6, [.int gnl, .ref g3, .ref g4])), (g3, .inl (cI, 7, .inl (fun zy => nI (NP zy)))), (g4, .inl (cI, 7, .inl (fun zy => nI (NF zy)))), (g5, .inr (6, [.int (nI rl), .ref g6, .ref g7])), (g6, .inl (cI, 7, .inl (fun zy => nI (RP zy)))), (g7, .inl (cI, 7, .inl (fun zy => nI (RF zy))))] sz) := by
  refine Met.ofW (cc := prog_1_method_33_code) (maxL := 4) (ret := (some .boolean)) (by decide) rfl ?_
  intro p e s m args below meth c s₁ B hml hv
  obtain ⟨rfl, hsz, hP, hK, hD0, hN⟩ := hv
  have hx := B.exec
  have hb := B.bytes
  have hr := B.returns
  have hts0 := atoms_spec (ws := mw ⟨"PromiseChains", "findRing", "()Z"⟩ prog_1_method_33_code 4 (some .boolean)) B.pre
  have hts : ∀ w ∈ tblG, w.before _ s = true := fun w h => hts0 w (List.mem_cons_of_mem _ h)
  have hown : s.vm.findClass "PromiseChains" = some m.cls := findClass_of_methodNamed B.named
  have hlocks := B.notSynchronized
  subst hsz
  have hD := hD0.self (sz := s.heap.size)
  generalize hAe : va_A [(x, .inr (0, [.ref f0, .ref a0, .ref r0, .ref w0, .ref g0, .ref k0, .int tm, .int gp, .int lk])), (a0, .inr (2, [.int (nI np), .ref a1, .ref a2, .ref a3, .ref a4, .ref a5, .ref a6, .ref a7, .ref a8, .ref a9, .ref a10, .ref a11])), (a1, .inl (cI, 24, .inl (fun zy => nI (EP zy)))), (a2, .inl (cI, 24, .inl SI)), (a3, .inl (cI, 24, .inl LK)), (a6, .inl (cI, 12, .inl PH)), (g0, .inr (5, [.int HM, .int OB, .int BO, .int BM, .ref g1, .ref g2, .ref g5])), (g1, .inl (cZ, 7, .inl GM)), (g2, .inr (6, [.int gnl, .ref g3, .ref g4])), (g3, .inl (cI, 7, .inl (fun zy => nI (NP zy)))), (g4, .inl (cI, 7, .inl (fun zy => nI (NF zy)))), (g5, .inr (6, [.int (nI rl), .ref g6, .ref g7])), (g6, .inl (cI, 7, .inl (fun zy => nI (RP zy)))), (g7, .inl (cI, 7, .inl (fun zy => nI (RF zy))))] s.heap.size = A at hD ⊢
  have hA : ∀ q : Nat, s.heap.size ≤ q → A q := fun q h => by rw [← hAe]; exact Or.inr h
  have hS : va_S A s.heap s.heap [] := va_S.rf
  have hP : va_P D vwCl [(x, .inr (0, [.ref f0, .ref a0, .ref r0, .ref w0, .ref g0, .ref k0, .int tm, .int gp, .int lk])), (a0, .inr (2, [.int (nI np), .ref a1, .ref a2, .ref a3, .ref a4, .ref a5, .ref a6, .ref a7, .ref a8, .ref a9, .ref a10, .ref a11])), (a1, .inl (cI, 24, .inl (fun zy => nI (EP zy)))), (a2, .inl (cI, 24, .inl SI)), (a3, .inl (cI, 24, .inl LK)), (a6, .inl (cI, 12, .inl PH)), (g0, .inr (5, [.int HM, .int OB, .int BO, .int BM, .ref g1, .ref g2, .ref g5])), (g1, .inl (cZ, 7, .inl GM)), (g2, .inr (6, [.int gnl, .ref g3, .ref g4])), (g3, .inl (cI, 7, .inl (fun zy => nI (NP zy)))), (g4, .inl (cI, 7, .inl (fun zy => nI (NF zy)))), (g5, .inr (6, [.int (nI rl), .ref g6, .ref g7])), (g6, .inl (cI, 7, .inl (fun zy => nI (RP zy)))), (g7, .inl (cI, 7, .inl (fun zy => nI (RF zy))))] s.heap := hP
  have hl := lv_entry ([.ref x]) (n := 4) (Nat.le_of_ble_eq_true rfl)
  rw [lg_entry_eq]
  generalize (lg_sl ([.ref x]) ++ List.replicate (4 - (lg_sl ([.ref x])).length) Slot.unset).toArray = ls at hl ⊢
  have hl : lv_has ls 4 [(0, .ref x)] := hl
  refine lv_aload_n hx hb d_PC_findRing_0 rfl (lv_at hl 0 rfl) ?_
  refine va_get (D := D) (ci := 0) (v := .ref g0) (C := R_PC) (T := F_PC) (N := 9) hx hb hts i_PC hown hK hP 0 rfl rfl 4 (by decide) (hts _ q_260) (fun _ h9 => h9) rfl d_PC_findRing_1 ?_
  refine lv_aload_n hx hb d_PC_findRing_4 rfl (lv_at hl 0 rfl) ?_
  refine va_get (D := D) (ci := 0) (v := .ref a0) (C := R_PC) (T := F_PC) (N := 9) hx hb hts i_PC hown hK hP 0 rfl rfl 1 (by decide) (hts _ q_257) (fun _ h9 => h9) rfl d_PC_findRing_5 ?_
  have hPc := hP.sub (ws' := [(a0, .inr (2, [.int (nI np), .ref a1, .ref a2, .ref a3, .ref a4, .ref a5, .ref a6, .ref a7, .ref a8, .ref a9, .ref a10, .ref a11])), (a2, .inl (cI, 24, .inl SI)), (a6, .inl (cI, 12, .inl PH))]) [1, 3, 5] rfl
  have hDc := hD.sub (ws' := [(a0, .inr (2, [.int (nI np), .ref a1, .ref a2, .ref a3, .ref a4, .ref a5, .ref a6, .ref a7, .ref a8, .ref a9, .ref a10, .ref a11])), (a2, .inl (cI, 24, .inl SI)), (a6, .inl (cI, 12, .inl PH))]) [1, 3, 5] (by decide) rfl
  refine vp_callSi (va_Run.run (va_runV (As := []) (rest := [.ref g0]) ⟨hx, hb, hml, hown, hts⟩ (g_PA_sumOff l D cI cZ a0 np a1 a2 a3 a4 a5 a6 a7 a8 a9 a10 a11 SI PH s.heap.size h_np) (my_cwV 0 hts q_525 q_522 q_523 q_524 q_3 rfl rfl (by decide +kernel) ⟨Nat.le_of_ble_eq_true rfl, Nat.le_of_ble_eq_true rfl⟩) (my_preV hPc hDc hK hN 2 0 rfl rfl) rfl rfl hl.1 rfl (lv_room (Nat.le_of_ble_eq_true rfl)) d_PC_findRing_8 ⟨Nat.le_of_ble_eq_true rfl, Nat.le_of_ble_eq_true rfl⟩)) (fun r_1 hw_1 => ?_)
  have hPc := hP.sub (ws' := [(g0, .inr (5, [.int HM, .int OB, .int BO, .int BM, .ref g1, .ref g2, .ref g5])), (g5, .inr (6, [.int (nI rl), .ref g6, .ref g7]))]) [6, 11] rfl
  have hDc := hD.sub (ws' := [(g0, .inr (5, [.int HM, .int OB, .int BO, .int BM, .ref g1, .ref g2, .ref g5])), (g5, .inr (6, [.int (nI rl), .ref g6, .ref g7]))]) [6, 11] (by decide) rfl
  have hFc := va_free (wc := [(g0, .inr (5, [.int HM, .int OB, .int BO, .int BM, .ref g1, .ref g2, .ref g5])), (g5, .inr (6, [.int (nI rl), .ref g6, .ref g7]))]) hD hS hA [6, 11] rfl
  refine va_callv (va_runV (As := [.int r_1]) (rest := []) ⟨hx, hb, hml, hown, hts⟩ (g_RS_begin l D cI cZ g0 r_1 HM OB BO BM g1 g2 g5 rl g6 g7 s.heap.size h_rl) (my_cwV 1 hts q_540 q_537 q_538 q_539 q_7 rfl rfl (by decide +kernel) ⟨Nat.le_of_ble_eq_true rfl, Nat.le_of_ble_eq_true rfl⟩) (my_preV hPc hDc hK hN 5 0 rfl rfl) rfl rfl hl.1 rfl (lv_room (Nat.le_of_ble_eq_true rfl)) d_PC_findRing_11 ⟨Nat.le_of_ble_eq_true rfl, Nat.le_of_ble_eq_true rfl⟩) hS (fun q _ h => hFc q h) hFc (fun uU tT H_3 locs ht hvm hw_2 hB hz1 hk1 hS => ?_)
  obtain ⟨hP1, hD1⟩ := hB
  rw [ht] at hP1
  obtain ⟨hP, hD⟩ := va_join (wr := [(x, .inr (0, [.ref f0, .ref a0, .ref r0, .ref w0, .ref g0, .ref k0, .int tm, .int gp, .int lk])), (a0, .inr (2, [.int (nI np), .ref a1, .ref a2, .ref a3, .ref a4, .ref a5, .ref a6, .ref a7, .ref a8, .ref a9, .ref a10, .ref a11])), (a1, .inl (cI, 24, .inl (fun zy => nI (EP zy)))), (a2, .inl (cI, 24, .inl SI)), (a3, .inl (cI, 24, .inl LK)), (a6, .inl (cI, 12, .inl PH)), (g1, .inl (cZ, 7, .inl GM)), (g2, .inr (6, [.int gnl, .ref g3, .ref g4])), (g3, .inl (cI, 7, .inl (fun zy => nI (NP zy)))), (g4, .inl (cI, 7, .inl (fun zy => nI (NF zy)))), (g6, .inl (cI, 7, .inl (fun zy => nI (RP zy)))), (g7, .inl (cI, 7, .inl (fun zy => nI (RF zy))))]) (w1 := [(g0, .inr (5, [.int HM, .int r_1, .int BO, .int BM, .ref g1, .ref g2, .ref g5])), (g5, .inr (6, [.int 0, .ref g6, .ref g7]))]) hP hD [6, 11] [0, 1, 2, 3, 4, 5, 7, 8, 9, 10, 12, 13] rfl rfl (by decide) (by decide) hk1 hFc hP1 hD1
  have hP : va_P D vwCl [(x, .inr (0, [.ref f0, .ref a0, .ref r0, .ref w0, .ref g0, .ref k0, .int tm, .int gp, .int lk])), (a0, .inr (2, [.int (nI np), .ref a1, .ref a2, .ref a3, .ref a4, .ref a5, .ref a6, .ref a7, .ref a8, .ref a9, .ref a10, .ref a11])), (a1, .inl (cI, 24, .inl (fun zy => nI (EP zy)))), (a2, .inl (cI, 24, .inl SI)), (a3, .inl (cI, 24, .inl LK)), (a6, .inl (cI, 12, .inl PH)), (g1, .inl (cZ, 7, .inl GM)), (g2, .inr (6, [.int gnl, .ref g3, .ref g4])), (g3, .inl (cI, 7, .inl (fun zy => nI (NP zy)))), (g4, .inl (cI, 7, .inl (fun zy => nI (NF zy)))), (g6, .inl (cI, 7, .inl (fun zy => nI (RP zy)))), (g7, .inl (cI, 7, .inl (fun zy => nI (RF zy)))), (g0, .inr (5, [.int HM, .int r_1, .int BO, .int BM, .ref g1, .ref g2, .ref g5])), (g5, .inr (6, [.int 0, .ref g6, .ref g7]))] H_3 := hP
  have hD : va_D A [(x, .inr (0, [.ref f0, .ref a0, .ref r0, .ref w0, .ref g0, .ref k0, .int tm, .int gp, .int lk])), (a0, .inr (2, [.int (nI np), .ref a1, .ref a2, .ref a3, .ref a4, .ref a5, .ref a6, .ref a7, .ref a8, .ref a9, .ref a10, .ref a11])), (a1, .inl (cI, 24, .inl (fun zy => nI (EP zy)))), (a2, .inl (cI, 24, .inl SI)), (a3, .inl (cI, 24, .inl LK)), (a6, .inl (cI, 12, .inl PH)), (g1, .inl (cZ, 7, .inl GM)), (g2, .inr (6, [.int gnl, .ref g3, .ref g4])), (g3, .inl (cI, 7, .inl (fun zy => nI (NP zy)))), (g4, .inl (cI, 7, .inl (fun zy => nI (NF zy)))), (g6, .inl (cI, 7, .inl (fun zy => nI (RP zy)))), (g7, .inl (cI, 7, .inl (fun zy => nI (RF zy)))), (g0, .inr (5, [.int HM, .int r_1, .int BO, .int BM, .ref g1, .ref g2, .ref g5])), (g5, .inr (6, [.int 0, .ref g6, .ref g7]))] := hD
  refine lv_iconst (v := 0) hx hb d_PC_findRing_14 (by decide) ?_
  refine lv_istore_n (lv' := [(1, .int 0), (0, .ref x)]) hx hb d_PC_findRing_15 rfl hl (by decide) rfl (fun ls hl => ?_)
  refine W_loop (σ := Nat × Int32 × Int32 × Int32 × Int32 × Nat × (Nat → Int32) × (Nat → Nat) × (Nat → Nat) × (Nat → Nat) × (Nat → Nat)) (I := fun xX H locs ls => (∀ zz, xX.2.2.2.2.2.2.2.1 zz ≤ 11) ∧ (∀ zz, xX.2.2.2.2.2.2.2.2.1 zz ≤ 1) ∧ (∀ zz, xX.2.2.2.2.2.2.2.2.2.1 zz ≤ 11) ∧ (∀ zz, xX.2.2.2.2.2.2.2.2.2.2 zz ≤ 1) ∧ xX.1 ≤ np ∧ xX.2.2.2.2.2.1 ≤ 7 ∧ va_P D vwCl [(x, .inr (0, [.ref f0, .ref a0, .ref r0, .ref w0, .ref g0, .ref k0, .int tm, .int gp, .int lk])), (a0, .inr (2, [.int (nI np), .ref a1, .ref a2, .ref a3, .ref a4, .ref a5, .ref a6, .ref a7, .ref a8, .ref a9, .ref a10, .ref a11])), (a1, .inl (cI, 24, .inl (fun zy => nI (EP zy)))), (a2, .inl (cI, 24, .inl SI)), (a3, .inl (cI, 24, .inl LK)), (a6, .inl (cI, 12, .inl PH)), (g1, .inl (cZ, 7, .inl xX.2.2.2.2.2.2.1)), (g2, .inr (6, [.int xX.2.2.2.2.1, .ref g3, .ref g4])), (g3, .inl (cI, 7, .inl (fun zy => nI (xX.2.2.2.2.2.2.2.1 zy)))), (g4, .inl (cI, 7, .inl (fun zy => nI (xX.2.2.2.2.2.2.2.2.1 zy)))), (g6, .inl (cI, 7, .inl (fun zy => nI (xX.2.2.2.2.2.2.2.2.2.1 zy)))), (g7, .inl (cI, 7, .inl (fun zy => nI (xX.2.2.2.2.2.2.2.2.2.2 zy)))), (g0, .inr (5, [.int xX.2.1, .int r_1, .int xX.2.2.1, .int xX.2.2.2.1, .ref g1, .ref g2, .ref g5])), (g5, .inr (6, [.int (nI xX.2.2.2.2.2.1), .ref g6, .ref g7]))] H ∧ va_D A [(x, .inr (0, [.ref f0, .ref a0, .ref r0, .ref w0, .ref g0, .ref k0, .int tm, .int gp, .int lk])), (a0, .inr (2, [.int (nI np), .ref a1, .ref a2, .ref a3, .ref a4, .ref a5, .ref a6, .ref a7, .ref a8, .ref a9, .ref a10, .ref a11])), (a1, .inl (cI, 24, .inl (fun zy => nI (EP zy)))), (a2, .inl (cI, 24, .inl SI)), (a3, .inl (cI, 24, .inl LK)), (a6, .inl (cI, 12, .inl PH)), (g1, .inl (cZ, 7, .inl xX.2.2.2.2.2.2.1)), (g2, .inr (6, [.int xX.2.2.2.2.1, .ref g3, .ref g4])), (g3, .inl (cI, 7, .inl (fun zy => nI (xX.2.2.2.2.2.2.2.1 zy)))), (g4, .inl (cI, 7, .inl (fun zy => nI (xX.2.2.2.2.2.2.2.2.1 zy)))), (g6, .inl (cI, 7, .inl (fun zy => nI (xX.2.2.2.2.2.2.2.2.2.1 zy)))), (g7, .inl (cI, 7, .inl (fun zy => nI (xX.2.2.2.2.2.2.2.2.2.2 zy)))), (g0, .inr (5, [.int xX.2.1, .int r_1, .int xX.2.2.1, .int xX.2.2.2.1, .ref g1, .ref g2, .ref g5])), (g5, .inr (6, [.int (nI xX.2.2.2.2.2.1), .ref g6, .ref g7]))] ∧ va_S A s.heap H locs ∧ lv_has ls 4 [(1, .int (nI xX.1)), (0, .ref x)]) (μ := fun xX => 13 - xX.1) ?_ (0, HM, BO, BM, gnl, 0, GM, NP, NF, RP, RF) ⟨h_NP, h_NF, h_RP, h_RF, (by first | omega | (dsimp only; omega)), (by first | omega | (dsimp only; omega)), hP, hD, hS, lv_sub hl [0, 1] rfl⟩
  intro xX H_4 locs ls hI ih1
  obtain ⟨p_l, hm1_v, bo1_v, bm1_v, gn1_v, rl1_l, GM_1, NP_1, NF_1, RP_1, RF_1⟩ := xX
  obtain ⟨h_NP_1, h_NF_1, h_RP_1, h_RF_1, hp, hrl, hP, hD, hS, hl⟩ := hI
  have hP : va_P D vwCl [(x, .inr (0, [.ref f0, .ref a0, .ref r0, .ref w0, .ref g0, .ref k0, .int tm, .int gp, .int lk])), (a0, .inr (2, [.int (nI np), .ref a1, .ref a2, .ref a3, .ref a4, .ref a5, .ref a6, .ref a7, .ref a8, .ref a9, .ref a10, .ref a11])), (a1, .inl (cI, 24, .inl (fun zy => nI (EP zy)))), (a2, .inl (cI, 24, .inl SI)), (a3, .inl (cI, 24, .inl LK)), (a6, .inl (cI, 12, .inl PH)), (g1, .inl (cZ, 7, .inl GM_1)), (g2, .inr (6, [.int gn1_v, .ref g3, .ref g4])), (g3, .inl (cI, 7, .inl (fun zy => nI (NP_1 zy)))), (g4, .inl (cI, 7, .inl (fun zy => nI (NF_1 zy)))), (g6, .inl (cI, 7, .inl (fun zy => nI (RP_1 zy)))), (g7, .inl (cI, 7, .inl (fun zy => nI (RF_1 zy)))), (g0, .inr (5, [.int hm1_v, .int r_1, .int bo1_v, .int bm1_v, .ref g1, .ref g2, .ref g5])), (g5, .inr (6, [.int (nI rl1_l), .ref g6, .ref g7]))] H_4 := hP
  have hD : va_D A [(x, .inr (0, [.ref f0, .ref a0, .ref r0, .ref w0, .ref g0, .ref k0, .int tm, .int gp, .int lk])), (a0, .inr (2, [.int (nI np), .ref a1, .ref a2, .ref a3, .ref a4, .ref a5, .ref a6, .ref a7, .ref a8, .ref a9, .ref a10, .ref a11])), (a1, .inl (cI, 24, .inl (fun zy => nI (EP zy)))), (a2, .inl (cI, 24, .inl SI)), (a3, .inl (cI, 24, .inl LK)), (a6, .inl (cI, 12, .inl PH)), (g1, .inl (cZ, 7, .inl GM_1)), (g2, .inr (6, [.int gn1_v, .ref g3, .ref g4])), (g3, .inl (cI, 7, .inl (fun zy => nI (NP_1 zy)))), (g4, .inl (cI, 7, .inl (fun zy => nI (NF_1 zy)))), (g6, .inl (cI, 7, .inl (fun zy => nI (RP_1 zy)))), (g7, .inl (cI, 7, .inl (fun zy => nI (RF_1 zy)))), (g0, .inr (5, [.int hm1_v, .int r_1, .int bo1_v, .int bm1_v, .ref g1, .ref g2, .ref g5])), (g5, .inr (6, [.int (nI rl1_l), .ref g6, .ref g7]))] := hD
  have hl : lv_has ls 4 [(1, .int (nI p_l)), (0, .ref x)] := hl
  have h_NP_1 : ∀ zz, NP_1 zz ≤ 11 := h_NP_1
  have h_NF_1 : ∀ zz, NF_1 zz ≤ 1 := h_NF_1
  have h_RP_1 : ∀ zz, RP_1 zz ≤ 11 := h_RP_1
  have h_RF_1 : ∀ zz, RF_1 zz ≤ 1 := h_RF_1
  have hp : p_l ≤ np := hp
  have hrl : rl1_l ≤ 7 := hrl
  refine lv_iload_n hx hb d_PC_findRing_16 rfl (lv_at hl 0 rfl) ?_
  refine lv_aload_n hx hb d_PC_findRing_17 rfl (lv_at hl 1 rfl) ?_
  refine va_get (D := D) (ci := 0) (v := .ref a0) (C := R_PC) (T := F_PC) (N := 9) hx hb hts i_PC hown hK hP 0 rfl rfl 1 (by decide) (hts _ q_257) (fun _ h9 => h9) rfl d_PC_findRing_18 ?_
  refine va_get (D := D) (ci := 2) (v := .int (nI np)) (C := R_PA) (T := F_PA) (N := 12) hx hb hts i_PA hown hK hP 1 rfl rfl 0 (by decide) (hts _ q_57) (fun _ h9 => h9) rfl d_PC_findRing_21 ?_
  refine lv_icmp_ge (tgt := 158) hx hb d_PC_findRing_24 (by decide) (fun h_5 => ?_) (fun h_5 => ?_)
  · have nh_5 : np ≤ p_l := (nI_leI (a := np) (b := p_l) (by omega) (by omega)).mp h_5
    refine lv_aload_n hx hb d_PC_findRing_158 rfl (lv_at hl 1 rfl) ?_
    refine va_get (D := D) (ci := 0) (v := .ref g0) (C := R_PC) (T := F_PC) (N := 9) hx hb hts i_PC hown hK hP 0 rfl rfl 4 (by decide) (hts _ q_260) (fun _ h9 => h9) rfl d_PC_findRing_159 ?_
    refine va_get (D := D) (ci := 5) (v := .ref g5) (C := R_RS) (T := F_RS) (N := 7) hx hb hts i_RS hown hK hP 12 rfl rfl 6 (by decide) (hts _ q_234) (fun _ h9 => h9) rfl d_PC_findRing_162 ?_
    refine va_get (D := D) (ci := 6) (v := .int (nI rl1_l)) (C := R_RO) (T := F_RO) (N := 3) hx hb hts i_RO hown hK hP 13 rfl rfl 0 (by decide) (hts _ q_174) (fun _ h9 => h9) rfl d_PC_findRing_165 ?_
    refine lv_if_le (tgt := 175) hx hb d_PC_findRing_168 (by decide) (fun h_6 => ?_) (fun h_6 => ?_)
    · have nh_6 : rl1_l ≤ 0 := (nI_leI (a := rl1_l) (b := 0) (by omega) (by omega)).mp h_6
      refine lv_iconst (v := 0) hx hb d_PC_findRing_175 (by decide) ?_
      have hP9 := hP.sub (ws' := [(x, .inr (0, [.ref f0, .ref a0, .ref r0, .ref w0, .ref g0, .ref k0, .int tm, .int gp, .int lk])), (a0, .inr (2, [.int (nI np), .ref a1, .ref a2, .ref a3, .ref a4, .ref a5, .ref a6, .ref a7, .ref a8, .ref a9, .ref a10, .ref a11])), (a1, .inl (cI, 24, .inl (fun zy => nI (EP zy)))), (a2, .inl (cI, 24, .inl SI)), (a3, .inl (cI, 24, .inl LK)), (a6, .inl (cI, 12, .inl PH)), (g0, .inr (5, [.int hm1_v, .int r_1, .int bo1_v, .int bm1_v, .ref g1, .ref g2, .ref g5])), (g1, .inl (cZ, 7, .inl GM_1)), (g2, .inr (6, [.int gn1_v, .ref g3, .ref g4])), (g3, .inl (cI, 7, .inl (fun zy => nI (NP_1 zy)))), (g4, .inl (cI, 7, .inl (fun zy => nI (NF_1 zy)))), (g5, .inr (6, [.int (nI rl1_l), .ref g6, .ref g7])), (g6, .inl (cI, 7, .inl (fun zy => nI (RP_1 zy)))), (g7, .inl (cI, 7, .inl (fun zy => nI (RF_1 zy))))]) [0, 1, 2, 3, 4, 5, 12, 6, 7, 8, 9, 13, 10, 11] rfl
      have hD9 := hD.sub (ws' := [(x, .inr (0, [.ref f0, .ref a0, .ref r0, .ref w0, .ref g0, .ref k0, .int tm, .int gp, .int lk])), (a0, .inr (2, [.int (nI np), .ref a1, .ref a2, .ref a3, .ref a4, .ref a5, .ref a6, .ref a7, .ref a8, .ref a9, .ref a10, .ref a11])), (a1, .inl (cI, 24, .inl (fun zy => nI (EP zy)))), (a2, .inl (cI, 24, .inl SI)), (a3, .inl (cI, 24, .inl LK)), (a6, .inl (cI, 12, .inl PH)), (g0, .inr (5, [.int hm1_v, .int r_1, .int bo1_v, .int bm1_v, .ref g1, .ref g2, .ref g5])), (g1, .inl (cZ, 7, .inl GM_1)), (g2, .inr (6, [.int gn1_v, .ref g3, .ref g4])), (g3, .inl (cI, 7, .inl (fun zy => nI (NP_1 zy)))), (g4, .inl (cI, 7, .inl (fun zy => nI (NF_1 zy)))), (g5, .inr (6, [.int (nI rl1_l), .ref g6, .ref g7])), (g6, .inl (cI, 7, .inl (fun zy => nI (RP_1 zy)))), (g7, .inl (cI, 7, .inl (fun zy => nI (RF_1 zy))))]) [0, 1, 2, 3, 4, 5, 12, 6, 7, 8, 9, 13, 10, 11] (by decide) rfl
      refine W.widen (k := 0) (n := 0) (Nat.le_of_ble_eq_true rfl) (Nat.le_of_ble_eq_true rfl) ?_
      exact W.zret (v := 0) hx hb hr rfl (fun tT ht hW => ⟨⟨0, (hm1_v, r_1, bo1_v, bm1_v, gn1_v, rl1_l, GM_1, NP_1, NF_1, RP_1, RF_1), rfl, ⟨hrl, h_NP_1, h_NF_1, h_RP_1, h_RF_1, Or.inl rfl⟩, by rw [ht]; exact hP9, hD9⟩, hS.F ht⟩) hS.2.2 d_PC_findRing_176
    · have nh_6 : ¬ rl1_l ≤ 0 := fun qZ => h_6 ((nI_leI (a := rl1_l) (b := 0) (by omega) (by omega)).mpr qZ)
      refine lv_iconst (v := 1) hx hb d_PC_findRing_171 (by decide) ?_
      refine lv_goto (tgt := 176) hx hb d_PC_findRing_172 (by decide) ?_
      have hP9 := hP.sub (ws' := [(x, .inr (0, [.ref f0, .ref a0, .ref r0, .ref w0, .ref g0, .ref k0, .int tm, .int gp, .int lk])), (a0, .inr (2, [.int (nI np), .ref a1, .ref a2, .ref a3, .ref a4, .ref a5, .ref a6, .ref a7, .ref a8, .ref a9, .ref a10, .ref a11])), (a1, .inl (cI, 24, .inl (fun zy => nI (EP zy)))), (a2, .inl (cI, 24, .inl SI)), (a3, .inl (cI, 24, .inl LK)), (a6, .inl (cI, 12, .inl PH)), (g0, .inr (5, [.int hm1_v, .int r_1, .int bo1_v, .int bm1_v, .ref g1, .ref g2, .ref g5])), (g1, .inl (cZ, 7, .inl GM_1)), (g2, .inr (6, [.int gn1_v, .ref g3, .ref g4])), (g3, .inl (cI, 7, .inl (fun zy => nI (NP_1 zy)))), (g4, .inl (cI, 7, .inl (fun zy => nI (NF_1 zy)))), (g5, .inr (6, [.int (nI rl1_l), .ref g6, .ref g7])), (g6, .inl (cI, 7, .inl (fun zy => nI (RP_1 zy)))), (g7, .inl (cI, 7, .inl (fun zy => nI (RF_1 zy))))]) [0, 1, 2, 3, 4, 5, 12, 6, 7, 8, 9, 13, 10, 11] rfl
      have hD9 := hD.sub (ws' := [(x, .inr (0, [.ref f0, .ref a0, .ref r0, .ref w0, .ref g0, .ref k0, .int tm, .int gp, .int lk])), (a0, .inr (2, [.int (nI np), .ref a1, .ref a2, .ref a3, .ref a4, .ref a5, .ref a6, .ref a7, .ref a8, .ref a9, .ref a10, .ref a11])), (a1, .inl (cI, 24, .inl (fun zy => nI (EP zy)))), (a2, .inl (cI, 24, .inl SI)), (a3, .inl (cI, 24, .inl LK)), (a6, .inl (cI, 12, .inl PH)), (g0, .inr (5, [.int hm1_v, .int r_1, .int bo1_v, .int bm1_v, .ref g1, .ref g2, .ref g5])), (g1, .inl (cZ, 7, .inl GM_1)), (g2, .inr (6, [.int gn1_v, .ref g3, .ref g4])), (g3, .inl (cI, 7, .inl (fun zy => nI (NP_1 zy)))), (g4, .inl (cI, 7, .inl (fun zy => nI (NF_1 zy)))), (g5, .inr (6, [.int (nI rl1_l), .ref g6, .ref g7])), (g6, .inl (cI, 7, .inl (fun zy => nI (RP_1 zy)))), (g7, .inl (cI, 7, .inl (fun zy => nI (RF_1 zy))))]) [0, 1, 2, 3, 4, 5, 12, 6, 7, 8, 9, 13, 10, 11] (by decide) rfl
      refine W.widen (k := 0) (n := 0) (Nat.le_of_ble_eq_true rfl) (Nat.le_of_ble_eq_true rfl) ?_
      exact W.zret (v := 1) hx hb hr rfl (fun tT ht hW => ⟨⟨1, (hm1_v, r_1, bo1_v, bm1_v, gn1_v, rl1_l, GM_1, NP_1, NF_1, RP_1, RF_1), rfl, ⟨hrl, h_NP_1, h_NF_1, h_RP_1, h_RF_1, Or.inr (rfl)⟩, by rw [ht]; exact hP9, hD9⟩, hS.F ht⟩) hS.2.2 d_PC_findRing_176
  · have nh_5 : ¬ np ≤ p_l := fun qZ => h_5 ((nI_leI (a := np) (b := p_l) (by omega) (by omega)).mpr qZ)
    refine lv_iconst (v := 0) hx hb d_PC_findRing_27 (by decide) ?_
    refine lv_istore_n (lv' := [(2, .int 0), (1, .int (nI p_l)), (0, .ref x)]) hx hb d_PC_findRing_28 rfl hl (by decide) rfl (fun ls hl => ?_)
    refine W_loop (σ := Nat × Int32 × Int32 × Int32 × Int32 × Nat × (Nat → Int32) × (Nat → Nat) × (Nat → Nat) × (Nat → Nat) × (Nat → Nat)) (I := fun xX H locs ls => (∀ zz, xX.2.2.2.2.2.2.2.1 zz ≤ 11) ∧ (∀ zz, xX.2.2.2.2.2.2.2.2.1 zz ≤ 1) ∧ (∀ zz, xX.2.2.2.2.2.2.2.2.2.1 zz ≤ 11) ∧ (∀ zz, xX.2.2.2.2.2.2.2.2.2.2 zz ≤ 1) ∧ xX.1 ≤ 2 ∧ xX.2.2.2.2.2.1 ≤ 7 ∧ va_P D vwCl [(x, .inr (0, [.ref f0, .ref a0, .ref r0, .ref w0, .ref g0, .ref k0, .int tm, .int gp, .int lk])), (a0, .inr (2, [.int (nI np), .ref a1, .ref a2, .ref a3, .ref a4, .ref a5, .ref a6, .ref a7, .ref a8, .ref a9, .ref a10, .ref a11])), (a1, .inl (cI, 24, .inl (fun zy => nI (EP zy)))), (a2, .inl (cI, 24, .inl SI)), (a3, .inl (cI, 24, .inl LK)), (a6, .inl (cI, 12, .inl PH)), (g1, .inl (cZ, 7, .inl xX.2.2.2.2.2.2.1)), (g2, .inr (6, [.int xX.2.2.2.2.1, .ref g3, .ref g4])), (g3, .inl (cI, 7, .inl (fun zy => nI (xX.2.2.2.2.2.2.2.1 zy)))), (g4, .inl (cI, 7, .inl (fun zy => nI (xX.2.2.2.2.2.2.2.2.1 zy)))), (g6, .inl (cI, 7, .inl (fun zy => nI (xX.2.2.2.2.2.2.2.2.2.1 zy)))), (g7, .inl (cI, 7, .inl (fun zy => nI (xX.2.2.2.2.2.2.2.2.2.2 zy)))), (g0, .inr (5, [.int xX.2.1, .int r_1, .int xX.2.2.1, .int xX.2.2.2.1, .ref g1, .ref g2, .ref g5])), (g5, .inr (6, [.int (nI xX.2.2.2.2.2.1), .ref g6, .ref g7]))] H ∧ va_D A [(x, .inr (0, [.ref f0, .ref a0, .ref r0, .ref w0, .ref g0, .ref k0, .int tm, .int gp, .int lk])), (a0, .inr (2, [.int (nI np), .ref a1, .ref a2, .ref a3, .ref a4, .ref a5, .ref a6, .ref a7, .ref a8, .ref a9, .ref a10, .ref a11])), (a1, .inl (cI, 24, .inl (fun zy => nI (EP zy)))), (a2, .inl (cI, 24, .inl SI)), (a3, .inl (cI, 24, .inl LK)), (a6, .inl (cI, 12, .inl PH)), (g1, .inl (cZ, 7, .inl xX.2.2.2.2.2.2.1)), (g2, .inr (6, [.int xX.2.2.2.2.1, .ref g3, .ref g4])), (g3, .inl (cI, 7, .inl (fun zy => nI (xX.2.2.2.2.2.2.2.1 zy)))), (g4, .inl (cI, 7, .inl (fun zy => nI (xX.2.2.2.2.2.2.2.2.1 zy)))), (g6, .inl (cI, 7, .inl (fun zy => nI (xX.2.2.2.2.2.2.2.2.2.1 zy)))), (g7, .inl (cI, 7, .inl (fun zy => nI (xX.2.2.2.2.2.2.2.2.2.2 zy)))), (g0, .inr (5, [.int xX.2.1, .int r_1, .int xX.2.2.1, .int xX.2.2.2.1, .ref g1, .ref g2, .ref g5])), (g5, .inr (6, [.int (nI xX.2.2.2.2.2.1), .ref g6, .ref g7]))] ∧ va_S A s.heap H locs ∧ lv_has ls 4 [(2, .int (nI xX.1)), (1, .int (nI p_l)), (0, .ref x)]) (μ := fun xX => 3 - xX.1) ?_ (0, hm1_v, bo1_v, bm1_v, gn1_v, rl1_l, GM_1, NP_1, NF_1, RP_1, RF_1) ⟨h_NP_1, h_NF_1, h_RP_1, h_RF_1, (by first | omega | (dsimp only; omega)), hrl, hP, hD, hS, lv_sub hl [0, 1, 2] rfl⟩
    intro xX H_7 locs ls hI ih2
    obtain ⟨c_l, hm2_v, bo2_v, bm2_v, gn2_v, rl2_l, GM_2, NP_2, NF_2, RP_2, RF_2⟩ := xX
    obtain ⟨h_NP_2, h_NF_2, h_RP_2, h_RF_2, hc, hrl2, hP, hD, hS, hl⟩ := hI
    have hP : va_P D vwCl [(x, .inr (0, [.ref f0, .ref a0, .ref r0, .ref w0, .ref g0, .ref k0, .int tm, .int gp, .int lk])), (a0, .inr (2, [.int (nI np), .ref a1, .ref a2, .ref a3, .ref a4, .ref a5, .ref a6, .ref a7, .ref a8, .ref a9, .ref a10, .ref a11])), (a1, .inl (cI, 24, .inl (fun zy => nI (EP zy)))), (a2, .inl (cI, 24, .inl SI)), (a3, .inl (cI, 24, .inl LK)), (a6, .inl (cI, 12, .inl PH)), (g1, .inl (cZ, 7, .inl GM_2)), (g2, .inr (6, [.int gn2_v, .ref g3, .ref g4])), (g3, .inl (cI, 7, .inl (fun zy => nI (NP_2 zy)))), (g4, .inl (cI, 7, .inl (fun zy => nI (NF_2 zy)))), (g6, .inl (cI, 7, .inl (fun zy => nI (RP_2 zy)))), (g7, .inl (cI, 7, .inl (fun zy => nI (RF_2 zy)))), (g0, .inr (5, [.int hm2_v, .int r_1, .int bo2_v, .int bm2_v, .ref g1, .ref g2, .ref g5])), (g5, .inr (6, [.int (nI rl2_l), .ref g6, .ref g7]))] H_7 := hP
    have hD : va_D A [(x, .inr (0, [.ref f0, .ref a0, .ref r0, .ref w0, .ref g0, .ref k0, .int tm, .int gp, .int lk])), (a0, .inr (2, [.int (nI np), .ref a1, .ref a2, .ref a3, .ref a4, .ref a5, .ref a6, .ref a7, .ref a8, .ref a9, .ref a10, .ref a11])), (a1, .inl (cI, 24, .inl (fun zy => nI (EP zy)))), (a2, .inl (cI, 24, .inl SI)), (a3, .inl (cI, 24, .inl LK)), (a6, .inl (cI, 12, .inl PH)), (g1, .inl (cZ, 7, .inl GM_2)), (g2, .inr (6, [.int gn2_v, .ref g3, .ref g4])), (g3, .inl (cI, 7, .inl (fun zy => nI (NP_2 zy)))), (g4, .inl (cI, 7, .inl (fun zy => nI (NF_2 zy)))), (g6, .inl (cI, 7, .inl (fun zy => nI (RP_2 zy)))), (g7, .inl (cI, 7, .inl (fun zy => nI (RF_2 zy)))), (g0, .inr (5, [.int hm2_v, .int r_1, .int bo2_v, .int bm2_v, .ref g1, .ref g2, .ref g5])), (g5, .inr (6, [.int (nI rl2_l), .ref g6, .ref g7]))] := hD
    have hl : lv_has ls 4 [(2, .int (nI c_l)), (1, .int (nI p_l)), (0, .ref x)] := hl
    have h_NP_2 : ∀ zz, NP_2 zz ≤ 11 := h_NP_2
    have h_NF_2 : ∀ zz, NF_2 zz ≤ 1 := h_NF_2
    have h_RP_2 : ∀ zz, RP_2 zz ≤ 11 := h_RP_2
    have h_RF_2 : ∀ zz, RF_2 zz ≤ 1 := h_RF_2
    have hc : c_l ≤ 2 := hc
    have hrl2 : rl2_l ≤ 7 := hrl2
    refine lv_iload_n hx hb d_PC_findRing_29 rfl (lv_at hl 0 rfl) ?_
    refine lv_iconst (v := 1) hx hb d_PC_findRing_30 (by decide) ?_
    refine lv_icmp_gt (tgt := 152) hx hb d_PC_findRing_31 (by decide) (fun h_8 => ?_) (fun h_8 => ?_)
    · have nh_8 : 1 < c_l := (nI_ltI (a := 1) (b := c_l) (by omega) (by omega)).mp h_8
      refine lv_iinc (v := nI (p_l + 1)) (lv' := [(1, .int (nI (p_l + 1))), (2, .int (nI c_l)), (0, .ref x)]) hx hb d_PC_findRing_152 hl (k := 1) rfl (nI_1 p_l) (by decide) rfl (fun ls hl => ?_)
      refine lv_goto (tgt := 16) hx hb d_PC_findRing_155 (by decide) ?_
      have hPz := hP.sub (ws' := [(x, .inr (0, [.ref f0, .ref a0, .ref r0, .ref w0, .ref g0, .ref k0, .int tm, .int gp, .int lk])), (a0, .inr (2, [.int (nI np), .ref a1, .ref a2, .ref a3, .ref a4, .ref a5, .ref a6, .ref a7, .ref a8, .ref a9, .ref a10, .ref a11])), (a1, .inl (cI, 24, .inl (fun zy => nI (EP zy)))), (a2, .inl (cI, 24, .inl SI)), (a3, .inl (cI, 24, .inl LK)), (a6, .inl (cI, 12, .inl PH)), (g1, .inl (cZ, 7, .inl GM_2)), (g2, .inr (6, [.int gn2_v, .ref g3, .ref g4])), (g3, .inl (cI, 7, .inl (fun zy => nI (NP_2 zy)))), (g4, .inl (cI, 7, .inl (fun zy => nI (NF_2 zy)))), (g6, .inl (cI, 7, .inl (fun zy => nI (RP_2 zy)))), (g7, .inl (cI, 7, .inl (fun zy => nI (RF_2 zy)))), (g0, .inr (5, [.int hm2_v, .int r_1, .int bo2_v, .int bm2_v, .ref g1, .ref g2, .ref g5])), (g5, .inr (6, [.int (nI rl2_l), .ref g6, .ref g7]))]) [0, 1, 2, 3, 4, 5, 6, 7, 8, 9, 10, 11, 12, 13] rfl
      have hDz := hD.sub (ws' := [(x, .inr (0, [.ref f0, .ref a0, .ref r0, .ref w0, .ref g0, .ref k0, .int tm, .int gp, .int lk])), (a0, .inr (2, [.int (nI np), .ref a1, .ref a2, .ref a3, .ref a4, .ref a5, .ref a6, .ref a7, .ref a8, .ref a9, .ref a10, .ref a11])), (a1, .inl (cI, 24, .inl (fun zy => nI (EP zy)))), (a2, .inl (cI, 24, .inl SI)), (a3, .inl (cI, 24, .inl LK)), (a6, .inl (cI, 12, .inl PH)), (g1, .inl (cZ, 7, .inl GM_2)), (g2, .inr (6, [.int gn2_v, .ref g3, .ref g4])), (g3, .inl (cI, 7, .inl (fun zy => nI (NP_2 zy)))), (g4, .inl (cI, 7, .inl (fun zy => nI (NF_2 zy)))), (g6, .inl (cI, 7, .inl (fun zy => nI (RP_2 zy)))), (g7, .inl (cI, 7, .inl (fun zy => nI (RF_2 zy)))), (g0, .inr (5, [.int hm2_v, .int r_1, .int bo2_v, .int bm2_v, .ref g1, .ref g2, .ref g5])), (g5, .inr (6, [.int (nI rl2_l), .ref g6, .ref g7]))]) [0, 1, 2, 3, 4, 5, 6, 7, 8, 9, 10, 11, 12, 13] (by decide) rfl
      exact ih1 ((p_l + 1), hm2_v, bo2_v, bm2_v, gn2_v, rl2_l, GM_2, NP_2, NF_2, RP_2, RF_2) _ _ _ (by first | omega | (dsimp only; omega)) ⟨h_NP_2, h_NF_2, h_RP_2, h_RF_2, (by first | omega | (dsimp only; omega)), hrl2, hPz, hDz, hS, lv_sub hl [0, 2] rfl⟩
    · have nh_8 : ¬ 1 < c_l := fun qZ => h_8 ((nI_ltI (a := 1) (b := c_l) (by omega) (by omega)).mpr qZ)
      refine lv_aload_n hx hb d_PC_findRing_34 rfl (lv_at hl 2 rfl) ?_
      refine va_get (D := D) (ci := 0) (v := .ref a0) (C := R_PC) (T := F_PC) (N := 9) hx hb hts i_PC hown hK hP 0 rfl rfl 1 (by decide) (hts _ q_257) (fun _ h9 => h9) rfl d_PC_findRing_35 ?_
      refine lv_iload_n hx hb d_PC_findRing_38 rfl (lv_at hl 1 rfl) ?_
      have hPc := hP.sub (ws' := [(a0, .inr (2, [.int (nI np), .ref a1, .ref a2, .ref a3, .ref a4, .ref a5, .ref a6, .ref a7, .ref a8, .ref a9, .ref a10, .ref a11])), (a6, .inl (cI, 12, .inl PH)), (a3, .inl (cI, 24, .inl LK))]) [1, 5, 4] rfl
      have hDc := hD.sub (ws' := [(a0, .inr (2, [.int (nI np), .ref a1, .ref a2, .ref a3, .ref a4, .ref a5, .ref a6, .ref a7, .ref a8, .ref a9, .ref a10, .ref a11])), (a6, .inl (cI, 12, .inl PH)), (a3, .inl (cI, 24, .inl LK))]) [1, 5, 4] (by decide) rfl
      refine vp_callSi (va_Run.run (va_runV (As := [.int (nI p_l)]) (rest := []) ⟨hx, hb, hml, hown, hts⟩ (g_PA_isFree l D cI cZ a0 p_l np a1 a2 a3 a4 a5 a6 a7 a8 a9 a10 a11 PH LK H_7.size h_np (by first | omega | (dsimp only; omega))) (my_cwV 1 hts q_508 q_505 q_506 q_507 q_3 rfl rfl (by decide +kernel) ⟨Nat.le_of_ble_eq_true rfl, Nat.le_of_ble_eq_true rfl⟩) (my_preV hPc hDc hK hN 2 0 rfl rfl) rfl rfl hl.1 rfl (lv_room (Nat.le_of_ble_eq_true rfl)) d_PC_findRing_39 ⟨Nat.le_of_ble_eq_true rfl, Nat.le_of_ble_eq_true rfl⟩)) (fun r_9 hw_9 => ?_)
      rcases hw_9 with rfl | rfl
      · refine lv_if_eq (tgt := 146) hx hb d_PC_findRing_42 (by decide) (fun _ => ?_) (fun h => absurd h (by decide))
        refine lv_iinc (v := nI (c_l + 1)) (lv' := [(2, .int (nI (c_l + 1))), (1, .int (nI p_l)), (0, .ref x)]) hx hb d_PC_findRing_146 hl (k := 0) rfl (nI_1 c_l) (by decide) rfl (fun ls hl => ?_)
        refine lv_goto (tgt := 29) hx hb d_PC_findRing_149 (by decide) ?_
        have hPz := hP.sub (ws' := [(x, .inr (0, [.ref f0, .ref a0, .ref r0, .ref w0, .ref g0, .ref k0, .int tm, .int gp, .int lk])), (a0, .inr (2, [.int (nI np), .ref a1, .ref a2, .ref a3, .ref a4, .ref a5, .ref a6, .ref a7, .ref a8, .ref a9, .ref a10, .ref a11])), (a1, .inl (cI, 24, .inl (fun zy => nI (EP zy)))), (a2, .inl (cI, 24, .inl SI)), (a3, .inl (cI, 24, .inl LK)), (a6, .inl (cI, 12, .inl PH)), (g1, .inl (cZ, 7, .inl GM_2)), (g2, .inr (6, [.int gn2_v, .ref g3, .ref g4])), (g3, .inl (cI, 7, .inl (fun zy => nI (NP_2 zy)))), (g4, .inl (cI, 7, .inl (fun zy => nI (NF_2 zy)))), (g6, .inl (cI, 7, .inl (fun zy => nI (RP_2 zy)))), (g7, .inl (cI, 7, .inl (fun zy => nI (RF_2 zy)))), (g0, .inr (5, [.int hm2_v, .int r_1, .int bo2_v, .int bm2_v, .ref g1, .ref g2, .ref g5])), (g5, .inr (6, [.int (nI rl2_l), .ref g6, .ref g7]))]) [0, 1, 2, 3, 4, 5, 6, 7, 8, 9, 10, 11, 12, 13] rfl
        have hDz := hD.sub (ws' := [(x, .inr (0, [.ref f0, .ref a0, .ref r0, .ref w0, .ref g0, .ref k0, .int tm, .int gp, .int lk])), (a0, .inr (2, [.int (nI np), .ref a1, .ref a2, .ref a3, .ref a4, .ref a5, .ref a6, .ref a7, .ref a8, .ref a9, .ref a10, .ref a11])), (a1, .inl (cI, 24, .inl (fun zy => nI (EP zy)))), (a2, .inl (cI, 24, .inl SI)), (a3, .inl (cI, 24, .inl LK)), (a6, .inl (cI, 12, .inl PH)), (g1, .inl (cZ, 7, .inl GM_2)), (g2, .inr (6, [.int gn2_v, .ref g3, .ref g4])), (g3, .inl (cI, 7, .inl (fun zy => nI (NP_2 zy)))), (g4, .inl (cI, 7, .inl (fun zy => nI (NF_2 zy)))), (g6, .inl (cI, 7, .inl (fun zy => nI (RP_2 zy)))), (g7, .inl (cI, 7, .inl (fun zy => nI (RF_2 zy)))), (g0, .inr (5, [.int hm2_v, .int r_1, .int bo2_v, .int bm2_v, .ref g1, .ref g2, .ref g5])), (g5, .inr (6, [.int (nI rl2_l), .ref g6, .ref g7]))]) [0, 1, 2, 3, 4, 5, 6, 7, 8, 9, 10, 11, 12, 13] (by decide) rfl
        exact ih2 ((c_l + 1), hm2_v, bo2_v, bm2_v, gn2_v, rl2_l, GM_2, NP_2, NF_2, RP_2, RF_2) _ _ _ (by first | omega | (dsimp only; omega)) ⟨h_NP_2, h_NF_2, h_RP_2, h_RF_2, (by first | omega | (dsimp only; omega)), hrl2, hPz, hDz, hS, lv_sub hl [0, 1, 2] rfl⟩
      · refine lv_if_eq (tgt := 146) hx hb d_PC_findRing_42 (by decide) (fun h => absurd h (by decide)) (fun _ => ?_)
        refine lv_aload_n hx hb d_PC_findRing_45 rfl (lv_at hl 2 rfl) ?_
        refine va_get (D := D) (ci := 0) (v := .ref a0) (C := R_PC) (T := F_PC) (N := 9) hx hb hts i_PC hown hK hP 0 rfl rfl 1 (by decide) (hts _ q_257) (fun _ h9 => h9) rfl d_PC_findRing_46 ?_
        refine va_get (D := D) (ci := 2) (v := .ref a2) (C := R_PA) (T := F_PA) (N := 12) hx hb hts i_PA hown hK hP 1 rfl rfl 2 (by decide) (hts _ q_63) (fun _ h9 => h9) rfl d_PC_findRing_49 ?_
        refine lv_iconst (v := 2) hx hb d_PC_findRing_52 (by decide) ?_
        refine lv_iload_n hx hb d_PC_findRing_53 rfl (lv_at hl 1 rfl) ?_
        refine lv_imul hx hb d_PC_findRing_54 ?_
        refine lv_seti (nI (2 * p_l)) (pk_mul 2 p_l) ?_
        refine lv_iload_n hx hb d_PC_findRing_55 rfl (lv_at hl 0 rfl) ?_
        refine lv_iadd hx hb d_PC_findRing_56 ?_
        refine lv_seti (nI ((2 * p_l) + c_l)) (nI_add (2 * p_l) c_l) ?_
        refine my_ldI hx hb hK hP 3 rfl ((2 * p_l) + c_l) rfl (by omega) (by decide) d_PC_findRing_57 ?_
        refine lv_if_ne (tgt := 64) hx hb d_PC_findRing_58 (by decide) (fun h_12 => ?_) (fun h_12 => ?_)
        · refine lv_aload_n hx hb d_PC_findRing_64 rfl (lv_at hl 2 rfl) ?_
          refine va_get (D := D) (ci := 0) (v := .ref a0) (C := R_PC) (T := F_PC) (N := 9) hx hb hts i_PC hown hK hP 0 rfl rfl 1 (by decide) (hts _ q_257) (fun _ h9 => h9) rfl d_PC_findRing_65 ?_
          refine va_get (D := D) (ci := 2) (v := .ref a1) (C := R_PA) (T := F_PA) (N := 12) hx hb hts i_PA hown hK hP 1 rfl rfl 1 (by decide) (hts _ q_60) (fun _ h9 => h9) rfl d_PC_findRing_68 ?_
          refine lv_iconst (v := 2) hx hb d_PC_findRing_71 (by decide) ?_
          refine lv_iload_n hx hb d_PC_findRing_72 rfl (lv_at hl 1 rfl) ?_
          refine lv_imul hx hb d_PC_findRing_73 ?_
          refine lv_seti (nI (2 * p_l)) (pk_mul 2 p_l) ?_
          refine lv_iconst (v := 1) hx hb d_PC_findRing_74 (by decide) ?_
          refine lv_iadd hx hb d_PC_findRing_75 ?_
          refine lv_seti (nI ((2 * p_l) + 1)) (nI_add (2 * p_l) 1) ?_
          refine lv_iload_n hx hb d_PC_findRing_76 rfl (lv_at hl 0 rfl) ?_
          refine lv_isub hx hb d_PC_findRing_77 ?_
          refine lv_seti (nI (((2 * p_l) + 1) - c_l)) (pk_sub (a := ((2 * p_l) + 1)) (b := c_l) (by omega)) ?_
          refine my_ldN hx hb hK hP 2 rfl (((2 * p_l) + 1) - c_l) rfl (by omega) (by decide) d_PC_findRing_78 ?_
          have hb_1 : EP (((2 * p_l) + 1) - c_l) ≤ 6 := h_EP _
          refine lv_istore_n (lv' := [(3, .int (nI (EP (((2 * p_l) + 1) - c_l)))), (2, .int (nI c_l)), (1, .int (nI p_l)), (0, .ref x)]) hx hb d_PC_findRing_79 rfl hl (by decide) rfl (fun ls hl => ?_)
          refine lv_aload_n hx hb d_PC_findRing_80 rfl (lv_at hl 3 rfl) ?_
          refine va_get (D := D) (ci := 0) (v := .ref g0) (C := R_PC) (T := F_PC) (N := 9) hx hb hts i_PC hown hK hP 0 rfl rfl 4 (by decide) (hts _ q_260) (fun _ h9 => h9) rfl d_PC_findRing_81 ?_
          refine lv_aload_n hx hb d_PC_findRing_84 rfl (lv_at hl 3 rfl) ?_
          refine va_get (D := D) (ci := 0) (v := .ref a0) (C := R_PC) (T := F_PC) (N := 9) hx hb hts i_PC hown hK hP 0 rfl rfl 1 (by decide) (hts _ q_257) (fun _ h9 => h9) rfl d_PC_findRing_85 ?_
          refine va_get (D := D) (ci := 2) (v := .ref a1) (C := R_PA) (T := F_PA) (N := 12) hx hb hts i_PA hown hK hP 1 rfl rfl 1 (by decide) (hts _ q_60) (fun _ h9 => h9) rfl d_PC_findRing_88 ?_
          refine lv_iconst (v := 2) hx hb d_PC_findRing_91 (by decide) ?_
          refine lv_iload_n hx hb d_PC_findRing_92 rfl (lv_at hl 2 rfl) ?_
          refine lv_imul hx hb d_PC_findRing_93 ?_
          refine lv_seti (nI (2 * p_l)) (pk_mul 2 p_l) ?_
          refine lv_iload_n hx hb d_PC_findRing_94 rfl (lv_at hl 1 rfl) ?_
          refine lv_iadd hx hb d_PC_findRing_95 ?_
          refine lv_seti (nI ((2 * p_l) + c_l)) (nI_add (2 * p_l) c_l) ?_
          refine my_ldN hx hb hK hP 2 rfl ((2 * p_l) + c_l) rfl (by omega) (by decide) d_PC_findRing_96 ?_
          have hb_2 : EP ((2 * p_l) + c_l) ≤ 6 := h_EP _
          refine va_put (D := D) (ci := 5) (v := .int (nI (EP ((2 * p_l) + c_l)))) (ty := .int) (C := R_RS) (T := F_RS) (N := 7) hx hb hts i_RS t_RS t_RS_ok n_RS hown hK hP hD hS 12 rfl rfl 0 (by decide) (hts _ q_223) (fun _ h9 => h9) rfl (by decide +kernel) rfl rfl (Nat.le_of_ble_eq_true rfl) d_PC_findRing_97 (fun H_13 locs hP hD hS => ?_)
          have hP : va_P D vwCl [(x, .inr (0, [.ref f0, .ref a0, .ref r0, .ref w0, .ref g0, .ref k0, .int tm, .int gp, .int lk])), (a0, .inr (2, [.int (nI np), .ref a1, .ref a2, .ref a3, .ref a4, .ref a5, .ref a6, .ref a7, .ref a8, .ref a9, .ref a10, .ref a11])), (a1, .inl (cI, 24, .inl (fun zy => nI (EP zy)))), (a2, .inl (cI, 24, .inl SI)), (a3, .inl (cI, 24, .inl LK)), (a6, .inl (cI, 12, .inl PH)), (g1, .inl (cZ, 7, .inl GM_2)), (g2, .inr (6, [.int gn2_v, .ref g3, .ref g4])), (g3, .inl (cI, 7, .inl (fun zy => nI (NP_2 zy)))), (g4, .inl (cI, 7, .inl (fun zy => nI (NF_2 zy)))), (g6, .inl (cI, 7, .inl (fun zy => nI (RP_2 zy)))), (g7, .inl (cI, 7, .inl (fun zy => nI (RF_2 zy)))), (g0, .inr (5, [.int (nI (EP ((2 * p_l) + c_l))), .int r_1, .int bo2_v, .int bm2_v, .ref g1, .ref g2, .ref g5])), (g5, .inr (6, [.int (nI rl2_l), .ref g6, .ref g7]))] H_13 := hP
          have hD : va_D A [(x, .inr (0, [.ref f0, .ref a0, .ref r0, .ref w0, .ref g0, .ref k0, .int tm, .int gp, .int lk])), (a0, .inr (2, [.int (nI np), .ref a1, .ref a2, .ref a3, .ref a4, .ref a5, .ref a6, .ref a7, .ref a8, .ref a9, .ref a10, .ref a11])), (a1, .inl (cI, 24, .inl (fun zy => nI (EP zy)))), (a2, .inl (cI, 24, .inl SI)), (a3, .inl (cI, 24, .inl LK)), (a6, .inl (cI, 12, .inl PH)), (g1, .inl (cZ, 7, .inl GM_2)), (g2, .inr (6, [.int gn2_v, .ref g3, .ref g4])), (g3, .inl (cI, 7, .inl (fun zy => nI (NP_2 zy)))), (g4, .inl (cI, 7, .inl (fun zy => nI (NF_2 zy)))), (g6, .inl (cI, 7, .inl (fun zy => nI (RP_2 zy)))), (g7, .inl (cI, 7, .inl (fun zy => nI (RF_2 zy)))), (g0, .inr (5, [.int (nI (EP ((2 * p_l) + c_l))), .int r_1, .int bo2_v, .int bm2_v, .ref g1, .ref g2, .ref g5])), (g5, .inr (6, [.int (nI rl2_l), .ref g6, .ref g7]))] := hD
          refine lv_aload_n hx hb d_PC_findRing_100 rfl (lv_at hl 3 rfl) ?_
          refine va_get (D := D) (ci := 0) (v := .ref g0) (C := R_PC) (T := F_PC) (N := 9) hx hb hts i_PC hown hK hP 0 rfl rfl 4 (by decide) (hts _ q_260) (fun _ h9 => h9) rfl d_PC_findRing_101 ?_
          refine va_get (D := D) (ci := 5) (v := .ref g2) (C := R_RS) (T := F_RS) (N := 7) hx hb hts i_RS hown hK hP 12 rfl rfl 5 (by decide) (hts _ q_232) (fun _ h9 => h9) rfl d_PC_findRing_104 ?_
          refine lv_iconst (v := 0) hx hb d_PC_findRing_107 (by decide) ?_
          refine lv_iload_n hx hb d_PC_findRing_108 rfl (lv_at hl 2 rfl) ?_
          refine lv_iload_n hx hb d_PC_findRing_109 rfl (lv_at hl 1 rfl) ?_
          have hPc := hP.sub (ws' := [(g2, .inr (6, [.int gn2_v, .ref g3, .ref g4])), (g3, .inl (cI, 7, .inl (fun zy => nI (NP_2 zy)))), (g4, .inl (cI, 7, .inl (fun zy => nI (NF_2 zy))))]) [7, 8, 9] rfl
          have hDc := hD.sub (ws' := [(g2, .inr (6, [.int gn2_v, .ref g3, .ref g4])), (g3, .inl (cI, 7, .inl (fun zy => nI (NP_2 zy)))), (g4, .inl (cI, 7, .inl (fun zy => nI (NF_2 zy))))]) [7, 8, 9] (by decide) rfl
          have hFc := va_free (wc := [(g2, .inr (6, [.int gn2_v, .ref g3, .ref g4])), (g3, .inl (cI, 7, .inl (fun zy => nI (NP_2 zy)))), (g4, .inl (cI, 7, .inl (fun zy => nI (NF_2 zy))))]) hD hS hA [7, 8, 9] rfl
          refine va_callv (va_runV (As := [.int 0, .int (nI p_l), .int (nI c_l)]) (rest := []) ⟨hx, hb, hml, hown, hts⟩ (g_RO_put l D cI cZ g2 0 p_l c_l gn2_v g3 g4 NP_2 NF_2 H_13.size (by first | omega | (dsimp only; omega))) (my_cwV 3 hts q_403 q_400 q_401 q_402 q_6 rfl rfl (by decide +kernel) ⟨Nat.le_of_ble_eq_true rfl, Nat.le_of_ble_eq_true rfl⟩) (my_preV hPc hDc hK hN 6 0 rfl rfl) rfl rfl hl.1 rfl (lv_room (Nat.le_of_ble_eq_true rfl)) d_PC_findRing_110 ⟨Nat.le_of_ble_eq_true rfl, Nat.le_of_ble_eq_true rfl⟩) hS (fun q _ h => hFc q h) hFc (fun uU tT H_15 locs ht hvm hw_14 hB hz1 hk1 hS => ?_)
          obtain ⟨hP1, hD1⟩ := hB
          rw [ht] at hP1
          obtain ⟨hP, hD⟩ := va_join (wr := [(x, .inr (0, [.ref f0, .ref a0, .ref r0, .ref w0, .ref g0, .ref k0, .int tm, .int gp, .int lk])), (a0, .inr (2, [.int (nI np), .ref a1, .ref a2, .ref a3, .ref a4, .ref a5, .ref a6, .ref a7, .ref a8, .ref a9, .ref a10, .ref a11])), (a1, .inl (cI, 24, .inl (fun zy => nI (EP zy)))), (a2, .inl (cI, 24, .inl SI)), (a3, .inl (cI, 24, .inl LK)), (a6, .inl (cI, 12, .inl PH)), (g1, .inl (cZ, 7, .inl GM_2)), (g6, .inl (cI, 7, .inl (fun zy => nI (RP_2 zy)))), (g7, .inl (cI, 7, .inl (fun zy => nI (RF_2 zy)))), (g0, .inr (5, [.int (nI (EP ((2 * p_l) + c_l))), .int r_1, .int bo2_v, .int bm2_v, .ref g1, .ref g2, .ref g5])), (g5, .inr (6, [.int (nI rl2_l), .ref g6, .ref g7]))]) (w1 := [(g2, .inr (6, [.int gn2_v, .ref g3, .ref g4])), (g3, .inl (cI, 7, .inl (fun zy => nI ((upN NP_2 0 p_l) zy)))), (g4, .inl (cI, 7, .inl (fun zy => nI ((upN NF_2 0 c_l) zy))))]) hP hD [7, 8, 9] [0, 1, 2, 3, 4, 5, 6, 10, 11, 12, 13] rfl rfl (by decide) (by decide) hk1 hFc hP1 hD1
          have hP : va_P D vwCl [(x, .inr (0, [.ref f0, .ref a0, .ref r0, .ref w0, .ref g0, .ref k0, .int tm, .int gp, .int lk])), (a0, .inr (2, [.int (nI np), .ref a1, .ref a2, .ref a3, .ref a4, .ref a5, .ref a6, .ref a7, .ref a8, .ref a9, .ref a10, .ref a11])), (a1, .inl (cI, 24, .inl (fun zy => nI (EP zy)))), (a2, .inl (cI, 24, .inl SI)), (a3, .inl (cI, 24, .inl LK)), (a6, .inl (cI, 12, .inl PH)), (g1, .inl (cZ, 7, .inl GM_2)), (g6, .inl (cI, 7, .inl (fun zy => nI (RP_2 zy)))), (g7, .inl (cI, 7, .inl (fun zy => nI (RF_2 zy)))), (g0, .inr (5, [.int (nI (EP ((2 * p_l) + c_l))), .int r_1, .int bo2_v, .int bm2_v, .ref g1, .ref g2, .ref g5])), (g5, .inr (6, [.int (nI rl2_l), .ref g6, .ref g7])), (g2, .inr (6, [.int gn2_v, .ref g3, .ref g4])), (g3, .inl (cI, 7, .inl (fun zy => nI ((upN NP_2 0 p_l) zy)))), (g4, .inl (cI, 7, .inl (fun zy => nI ((upN NF_2 0 c_l) zy))))] H_15 := hP
          have hD : va_D A [(x, .inr (0, [.ref f0, .ref a0, .ref r0, .ref w0, .ref g0, .ref k0, .int tm, .int gp, .int lk])), (a0, .inr (2, [.int (nI np), .ref a1, .ref a2, .ref a3, .ref a4, .ref a5, .ref a6, .ref a7, .ref a8, .ref a9, .ref a10, .ref a11])), (a1, .inl (cI, 24, .inl (fun zy => nI (EP zy)))), (a2, .inl (cI, 24, .inl SI)), (a3, .inl (cI, 24, .inl LK)), (a6, .inl (cI, 12, .inl PH)), (g1, .inl (cZ, 7, .inl GM_2)), (g6, .inl (cI, 7, .inl (fun zy => nI (RP_2 zy)))), (g7, .inl (cI, 7, .inl (fun zy => nI (RF_2 zy)))), (g0, .inr (5, [.int (nI (EP ((2 * p_l) + c_l))), .int r_1, .int bo2_v, .int bm2_v, .ref g1, .ref g2, .ref g5])), (g5, .inr (6, [.int (nI rl2_l), .ref g6, .ref g7])), (g2, .inr (6, [.int gn2_v, .ref g3, .ref g4])), (g3, .inl (cI, 7, .inl (fun zy => nI ((upN NP_2 0 p_l) zy)))), (g4, .inl (cI, 7, .inl (fun zy => nI ((upN NF_2 0 c_l) zy))))] := hD
          refine lv_aload_n hx hb d_PC_findRing_113 rfl (lv_at hl 3 rfl) ?_
          refine va_get (D := D) (ci := 0) (v := .ref g0) (C := R_PC) (T := F_PC) (N := 9) hx hb hts i_PC hown hK hP 0 rfl rfl 4 (by decide) (hts _ q_260) (fun _ h9 => h9) rfl d_PC_findRing_114 ?_
          refine va_get (D := D) (ci := 5) (v := .ref g1) (C := R_RS) (T := F_RS) (N := 7) hx hb hts i_RS hown hK hP 9 rfl rfl 4 (by decide) (hts _ q_230) (fun _ h9 => h9) rfl d_PC_findRing_117 ?_
          refine lv_iload_n hx hb d_PC_findRing_120 rfl (lv_at hl 0 rfl) ?_
          refine lv_iconst (v := 1) hx hb d_PC_findRing_121 (by decide) ?_
          refine my_stZ hx hb hK hP hD hS 6 rfl (EP (((2 * p_l) + 1) - c_l)) 1 rfl rfl (by omega) (by decide) d_PC_findRing_122 (fun H_16 locs hP hD hS => ?_)
          have hP : va_P D vwCl [(x, .inr (0, [.ref f0, .ref a0, .ref r0, .ref w0, .ref g0, .ref k0, .int tm, .int gp, .int lk])), (a0, .inr (2, [.int (nI np), .ref a1, .ref a2, .ref a3, .ref a4, .ref a5, .ref a6, .ref a7, .ref a8, .ref a9, .ref a10, .ref a11])), (a1, .inl (cI, 24, .inl (fun zy => nI (EP zy)))), (a2, .inl (cI, 24, .inl SI)), (a3, .inl (cI, 24, .inl LK)), (a6, .inl (cI, 12, .inl PH)), (g1, .inl (cZ, 7, .inl (upd GM_2 (EP (((2 * p_l) + 1) - c_l)) 1))), (g6, .inl (cI, 7, .inl (fun zy => nI (RP_2 zy)))), (g7, .inl (cI, 7, .inl (fun zy => nI (RF_2 zy)))), (g0, .inr (5, [.int (nI (EP ((2 * p_l) + c_l))), .int r_1, .int bo2_v, .int bm2_v, .ref g1, .ref g2, .ref g5])), (g5, .inr (6, [.int (nI rl2_l), .ref g6, .ref g7])), (g2, .inr (6, [.int gn2_v, .ref g3, .ref g4])), (g3, .inl (cI, 7, .inl (fun zy => nI ((upN NP_2 0 p_l) zy)))), (g4, .inl (cI, 7, .inl (fun zy => nI ((upN NF_2 0 c_l) zy))))] H_16 := hP
          have hD : va_D A [(x, .inr (0, [.ref f0, .ref a0, .ref r0, .ref w0, .ref g0, .ref k0, .int tm, .int gp, .int lk])), (a0, .inr (2, [.int (nI np), .ref a1, .ref a2, .ref a3, .ref a4, .ref a5, .ref a6, .ref a7, .ref a8, .ref a9, .ref a10, .ref a11])), (a1, .inl (cI, 24, .inl (fun zy => nI (EP zy)))), (a2, .inl (cI, 24, .inl SI)), (a3, .inl (cI, 24, .inl LK)), (a6, .inl (cI, 12, .inl PH)), (g1, .inl (cZ, 7, .inl (upd GM_2 (EP (((2 * p_l) + 1) - c_l)) 1))), (g6, .inl (cI, 7, .inl (fun zy => nI (RP_2 zy)))), (g7, .inl (cI, 7, .inl (fun zy => nI (RF_2 zy)))), (g0, .inr (5, [.int (nI (EP ((2 * p_l) + c_l))), .int r_1, .int bo2_v, .int bm2_v, .ref g1, .ref g2, .ref g5])), (g5, .inr (6, [.int (nI rl2_l), .ref g6, .ref g7])), (g2, .inr (6, [.int gn2_v, .ref g3, .ref g4])), (g3, .inl (cI, 7, .inl (fun zy => nI ((upN NP_2 0 p_l) zy)))), (g4, .inl (cI, 7, .inl (fun zy => nI ((upN NF_2 0 c_l) zy))))] := hD
          refine lv_aload_n hx hb d_PC_findRing_123 rfl (lv_at hl 3 rfl) ?_
          refine va_get (D := D) (ci := 0) (v := .ref g0) (C := R_PC) (T := F_PC) (N := 9) hx hb hts i_PC hown hK hP 0 rfl rfl 4 (by decide) (hts _ q_260) (fun _ h9 => h9) rfl d_PC_findRing_124 ?_
          refine lv_aload_n hx hb d_PC_findRing_127 rfl (lv_at hl 3 rfl) ?_
          refine va_get (D := D) (ci := 0) (v := .ref a0) (C := R_PC) (T := F_PC) (N := 9) hx hb hts i_PC hown hK hP 0 rfl rfl 1 (by decide) (hts _ q_257) (fun _ h9 => h9) rfl d_PC_findRing_128 ?_
          refine lv_iload_n hx hb d_PC_findRing_131 rfl (lv_at hl 0 rfl) ?_
          refine lv_iconst (v := 1) hx hb d_PC_findRing_132 (by decide) ?_
          have hPc := hP.sub (ws' := [(g0, .inr (5, [.int (nI (EP ((2 * p_l) + c_l))), .int r_1, .int bo2_v, .int bm2_v, .ref g1, .ref g2, .ref g5])), (g1, .inl (cZ, 7, .inl (upd GM_2 (EP (((2 * p_l) + 1) - c_l)) 1))), (g2, .inr (6, [.int gn2_v, .ref g3, .ref g4])), (g3, .inl (cI, 7, .inl (fun zy => nI ((upN NP_2 0 p_l) zy)))), (g4, .inl (cI, 7, .inl (fun zy => nI ((upN NF_2 0 c_l) zy)))), (g5, .inr (6, [.int (nI rl2_l), .ref g6, .ref g7])), (g6, .inl (cI, 7, .inl (fun zy => nI (RP_2 zy)))), (g7, .inl (cI, 7, .inl (fun zy => nI (RF_2 zy)))), (a0, .inr (2, [.int (nI np), .ref a1, .ref a2, .ref a3, .ref a4, .ref a5, .ref a6, .ref a7, .ref a8, .ref a9, .ref a10, .ref a11])), (a1, .inl (cI, 24, .inl (fun zy => nI (EP zy)))), (a2, .inl (cI, 24, .inl SI)), (a3, .inl (cI, 24, .inl LK)), (a6, .inl (cI, 12, .inl PH))]) [9, 6, 11, 12, 13, 10, 7, 8, 1, 2, 3, 4, 5] rfl
          have hDc := hD.sub (ws' := [(g0, .inr (5, [.int (nI (EP ((2 * p_l) + c_l))), .int r_1, .int bo2_v, .int bm2_v, .ref g1, .ref g2, .ref g5])), (g1, .inl (cZ, 7, .inl (upd GM_2 (EP (((2 * p_l) + 1) - c_l)) 1))), (g2, .inr (6, [.int gn2_v, .ref g3, .ref g4])), (g3, .inl (cI, 7, .inl (fun zy => nI ((upN NP_2 0 p_l) zy)))), (g4, .inl (cI, 7, .inl (fun zy => nI ((upN NF_2 0 c_l) zy)))), (g5, .inr (6, [.int (nI rl2_l), .ref g6, .ref g7])), (g6, .inl (cI, 7, .inl (fun zy => nI (RP_2 zy)))), (g7, .inl (cI, 7, .inl (fun zy => nI (RF_2 zy)))), (a0, .inr (2, [.int (nI np), .ref a1, .ref a2, .ref a3, .ref a4, .ref a5, .ref a6, .ref a7, .ref a8, .ref a9, .ref a10, .ref a11])), (a1, .inl (cI, 24, .inl (fun zy => nI (EP zy)))), (a2, .inl (cI, 24, .inl SI)), (a3, .inl (cI, 24, .inl LK)), (a6, .inl (cI, 12, .inl PH))]) [9, 6, 11, 12, 13, 10, 7, 8, 1, 2, 3, 4, 5] (by decide) rfl
          have hFc := va_free (wc := [(g0, .inr (5, [.int (nI (EP ((2 * p_l) + c_l))), .int r_1, .int bo2_v, .int bm2_v, .ref g1, .ref g2, .ref g5])), (g1, .inl (cZ, 7, .inl (upd GM_2 (EP (((2 * p_l) + 1) - c_l)) 1))), (g2, .inr (6, [.int gn2_v, .ref g3, .ref g4])), (g3, .inl (cI, 7, .inl (fun zy => nI ((upN NP_2 0 p_l) zy)))), (g4, .inl (cI, 7, .inl (fun zy => nI ((upN NF_2 0 c_l) zy)))), (g5, .inr (6, [.int (nI rl2_l), .ref g6, .ref g7])), (g6, .inl (cI, 7, .inl (fun zy => nI (RP_2 zy)))), (g7, .inl (cI, 7, .inl (fun zy => nI (RF_2 zy)))), (a0, .inr (2, [.int (nI np), .ref a1, .ref a2, .ref a3, .ref a4, .ref a5, .ref a6, .ref a7, .ref a8, .ref a9, .ref a10, .ref a11])), (a1, .inl (cI, 24, .inl (fun zy => nI (EP zy)))), (a2, .inl (cI, 24, .inl SI)), (a3, .inl (cI, 24, .inl LK)), (a6, .inl (cI, 12, .inl PH))]) hD hS hA [9, 6, 11, 12, 13, 10, 7, 8, 1, 2, 3, 4, 5] rfl
          refine va_callv (va_runS (As := [.ref g0, .ref a0, .int (nI (EP (((2 * p_l) + 1) - c_l))), .int 1]) (rest := []) ⟨hx, hb, hml, hown, hts⟩ (g_PC_searchRings_1 l D cI cZ g0 a0 (nI (EP (((2 * p_l) + 1) - c_l))) (nI (EP ((2 * p_l) + c_l))) r_1 bo2_v bm2_v g1 g2 g5 (upd GM_2 (EP (((2 * p_l) + 1) - c_l)) 1) gn2_v g3 g4 (upN NP_2 0 p_l) (upN NF_2 0 c_l) rl2_l g6 g7 RP_2 RF_2 np a1 a2 a3 a4 a5 a6 a7 a8 a9 a10 a11 EP SI LK PH H_16.size (upN_le h_NP_2 (by omega)) (upN_le h_NF_2 (by omega)) hrl2 h_RP_2 h_RF_2 h_np h_EP) (my_cwS 4 hts q_543 q_541 q_542 q_1 rfl rfl (by decide +kernel) ⟨Nat.le_of_ble_eq_true rfl, Nat.le_of_ble_eq_true rfl⟩) (my_preS hPc hDc hK hN) rfl rfl hl.1 rfl (lv_room (Nat.le_of_ble_eq_true rfl)) d_PC_findRing_133 ⟨Nat.le_of_ble_eq_true rfl, Nat.le_of_ble_eq_true rfl⟩) hS (fun q _ h => hFc q h) hFc (fun uU tT H_18 locs ht hvm hw_17 hB hz1 hk1 hS => ?_)
          obtain ⟨BO_19, BM_20, gnl_21, rl_22, GM_23, NP_24, NF_25, RP_26, RF_27⟩ := uU
          obtain ⟨hP1, hD1⟩ := hB
          rw [ht] at hP1
          obtain ⟨hP, hD⟩ := va_join (wr := [(x, .inr (0, [.ref f0, .ref a0, .ref r0, .ref w0, .ref g0, .ref k0, .int tm, .int gp, .int lk]))]) (w1 := [(g0, .inr (5, [.int (nI (EP ((2 * p_l) + c_l))), .int r_1, .int BO_19, .int BM_20, .ref g1, .ref g2, .ref g5])), (g1, .inl (cZ, 7, .inl GM_23)), (g2, .inr (6, [.int gnl_21, .ref g3, .ref g4])), (g3, .inl (cI, 7, .inl (fun zy => nI (NP_24 zy)))), (g4, .inl (cI, 7, .inl (fun zy => nI (NF_25 zy)))), (g5, .inr (6, [.int (nI rl_22), .ref g6, .ref g7])), (g6, .inl (cI, 7, .inl (fun zy => nI (RP_26 zy)))), (g7, .inl (cI, 7, .inl (fun zy => nI (RF_27 zy)))), (a0, .inr (2, [.int (nI np), .ref a1, .ref a2, .ref a3, .ref a4, .ref a5, .ref a6, .ref a7, .ref a8, .ref a9, .ref a10, .ref a11])), (a1, .inl (cI, 24, .inl (fun zy => nI (EP zy)))), (a2, .inl (cI, 24, .inl SI)), (a3, .inl (cI, 24, .inl LK)), (a6, .inl (cI, 12, .inl PH))]) hP hD [9, 6, 11, 12, 13, 10, 7, 8, 1, 2, 3, 4, 5] [0] rfl rfl (by decide) (by decide) hk1 hFc hP1 hD1
          have hP : va_P D vwCl [(x, .inr (0, [.ref f0, .ref a0, .ref r0, .ref w0, .ref g0, .ref k0, .int tm, .int gp, .int lk])), (g0, .inr (5, [.int (nI (EP ((2 * p_l) + c_l))), .int r_1, .int BO_19, .int BM_20, .ref g1, .ref g2, .ref g5])), (g1, .inl (cZ, 7, .inl GM_23)), (g2, .inr (6, [.int gnl_21, .ref g3, .ref g4])), (g3, .inl (cI, 7, .inl (fun zy => nI (NP_24 zy)))), (g4, .inl (cI, 7, .inl (fun zy => nI (NF_25 zy)))), (g5, .inr (6, [.int (nI rl_22), .ref g6, .ref g7])), (g6, .inl (cI, 7, .inl (fun zy => nI (RP_26 zy)))), (g7, .inl (cI, 7, .inl (fun zy => nI (RF_27 zy)))), (a0, .inr (2, [.int (nI np), .ref a1, .ref a2, .ref a3, .ref a4, .ref a5, .ref a6, .ref a7, .ref a8, .ref a9, .ref a10, .ref a11])), (a1, .inl (cI, 24, .inl (fun zy => nI (EP zy)))), (a2, .inl (cI, 24, .inl SI)), (a3, .inl (cI, 24, .inl LK)), (a6, .inl (cI, 12, .inl PH))] H_18 := hP
          have hD : va_D A [(x, .inr (0, [.ref f0, .ref a0, .ref r0, .ref w0, .ref g0, .ref k0, .int tm, .int gp, .int lk])), (g0, .inr (5, [.int (nI (EP ((2 * p_l) + c_l))), .int r_1, .int BO_19, .int BM_20, .ref g1, .ref g2, .ref g5])), (g1, .inl (cZ, 7, .inl GM_23)), (g2, .inr (6, [.int gnl_21, .ref g3, .ref g4])), (g3, .inl (cI, 7, .inl (fun zy => nI (NP_24 zy)))), (g4, .inl (cI, 7, .inl (fun zy => nI (NF_25 zy)))), (g5, .inr (6, [.int (nI rl_22), .ref g6, .ref g7])), (g6, .inl (cI, 7, .inl (fun zy => nI (RP_26 zy)))), (g7, .inl (cI, 7, .inl (fun zy => nI (RF_27 zy)))), (a0, .inr (2, [.int (nI np), .ref a1, .ref a2, .ref a3, .ref a4, .ref a5, .ref a6, .ref a7, .ref a8, .ref a9, .ref a10, .ref a11])), (a1, .inl (cI, 24, .inl (fun zy => nI (EP zy)))), (a2, .inl (cI, 24, .inl SI)), (a3, .inl (cI, 24, .inl LK)), (a6, .inl (cI, 12, .inl PH))] := hD
          have hw_17 : (rl_22 ≤ 7) ∧ (∀ zz, NP_24 zz ≤ 11) ∧ (∀ zz, NF_25 zz ≤ 1) ∧ (∀ zz, RP_26 zz ≤ 11) ∧ (∀ zz, RF_27 zz ≤ 1) := hw_17
          obtain ⟨hf_27_0, hf_27_1, hf_27_2, hf_27_3, hf_27_4⟩ := hw_17
          have hf_27_0 : rl_22 ≤ 7 := hf_27_0
          have hf_27_1 : ∀ zz, NP_24 zz ≤ 11 := hf_27_1
          have hf_27_2 : ∀ zz, NF_25 zz ≤ 1 := hf_27_2
          have hf_27_3 : ∀ zz, RP_26 zz ≤ 11 := hf_27_3
          have hf_27_4 : ∀ zz, RF_27 zz ≤ 1 := hf_27_4
          refine lv_aload_n hx hb d_PC_findRing_136 rfl (lv_at hl 3 rfl) ?_
          refine va_get (D := D) (ci := 0) (v := .ref g0) (C := R_PC) (T := F_PC) (N := 9) hx hb hts i_PC hown hK hP 0 rfl rfl 4 (by decide) (hts _ q_260) (fun _ h9 => h9) rfl d_PC_findRing_137 ?_
          refine va_get (D := D) (ci := 5) (v := .ref g1) (C := R_RS) (T := F_RS) (N := 7) hx hb hts i_RS hown hK hP 1 rfl rfl 4 (by decide) (hts _ q_230) (fun _ h9 => h9) rfl d_PC_findRing_140 ?_
          refine lv_iload_n hx hb d_PC_findRing_143 rfl (lv_at hl 0 rfl) ?_
          refine lv_iconst (v := 0) hx hb d_PC_findRing_144 (by decide) ?_
          refine my_stZ hx hb hK hP hD hS 2 rfl (EP (((2 * p_l) + 1) - c_l)) 0 rfl rfl (by omega) (by decide) d_PC_findRing_145 (fun H_28 locs hP hD hS => ?_)
          have hP : va_P D vwCl [(x, .inr (0, [.ref f0, .ref a0, .ref r0, .ref w0, .ref g0, .ref k0, .int tm, .int gp, .int lk])), (g0, .inr (5, [.int (nI (EP ((2 * p_l) + c_l))), .int r_1, .int BO_19, .int BM_20, .ref g1, .ref g2, .ref g5])), (g1, .inl (cZ, 7, .inl (upd GM_23 (EP (((2 * p_l) + 1) - c_l)) 0))), (g2, .inr (6, [.int gnl_21, .ref g3, .ref g4])), (g3, .inl (cI, 7, .inl (fun zy => nI (NP_24 zy)))), (g4, .inl (cI, 7, .inl (fun zy => nI (NF_25 zy)))), (g5, .inr (6, [.int (nI rl_22), .ref g6, .ref g7])), (g6, .inl (cI, 7, .inl (fun zy => nI (RP_26 zy)))), (g7, .inl (cI, 7, .inl (fun zy => nI (RF_27 zy)))), (a0, .inr (2, [.int (nI np), .ref a1, .ref a2, .ref a3, .ref a4, .ref a5, .ref a6, .ref a7, .ref a8, .ref a9, .ref a10, .ref a11])), (a1, .inl (cI, 24, .inl (fun zy => nI (EP zy)))), (a2, .inl (cI, 24, .inl SI)), (a3, .inl (cI, 24, .inl LK)), (a6, .inl (cI, 12, .inl PH))] H_28 := hP
          have hD : va_D A [(x, .inr (0, [.ref f0, .ref a0, .ref r0, .ref w0, .ref g0, .ref k0, .int tm, .int gp, .int lk])), (g0, .inr (5, [.int (nI (EP ((2 * p_l) + c_l))), .int r_1, .int BO_19, .int BM_20, .ref g1, .ref g2, .ref g5])), (g1, .inl (cZ, 7, .inl (upd GM_23 (EP (((2 * p_l) + 1) - c_l)) 0))), (g2, .inr (6, [.int gnl_21, .ref g3, .ref g4])), (g3, .inl (cI, 7, .inl (fun zy => nI (NP_24 zy)))), (g4, .inl (cI, 7, .inl (fun zy => nI (NF_25 zy)))), (g5, .inr (6, [.int (nI rl_22), .ref g6, .ref g7])), (g6, .inl (cI, 7, .inl (fun zy => nI (RP_26 zy)))), (g7, .inl (cI, 7, .inl (fun zy => nI (RF_27 zy)))), (a0, .inr (2, [.int (nI np), .ref a1, .ref a2, .ref a3, .ref a4, .ref a5, .ref a6, .ref a7, .ref a8, .ref a9, .ref a10, .ref a11])), (a1, .inl (cI, 24, .inl (fun zy => nI (EP zy)))), (a2, .inl (cI, 24, .inl SI)), (a3, .inl (cI, 24, .inl LK)), (a6, .inl (cI, 12, .inl PH))] := hD
          refine lv_iinc (v := nI (c_l + 1)) (lv' := [(2, .int (nI (c_l + 1))), (3, .int (nI (EP (((2 * p_l) + 1) - c_l)))), (1, .int (nI p_l)), (0, .ref x)]) hx hb d_PC_findRing_146 hl (k := 1) rfl (nI_1 c_l) (by decide) rfl (fun ls hl => ?_)
          refine lv_goto (tgt := 29) hx hb d_PC_findRing_149 (by decide) ?_
          have hPz := hP.sub (ws' := [(x, .inr (0, [.ref f0, .ref a0, .ref r0, .ref w0, .ref g0, .ref k0, .int tm, .int gp, .int lk])), (a0, .inr (2, [.int (nI np), .ref a1, .ref a2, .ref a3, .ref a4, .ref a5, .ref a6, .ref a7, .ref a8, .ref a9, .ref a10, .ref a11])), (a1, .inl (cI, 24, .inl (fun zy => nI (EP zy)))), (a2, .inl (cI, 24, .inl SI)), (a3, .inl (cI, 24, .inl LK)), (a6, .inl (cI, 12, .inl PH)), (g1, .inl (cZ, 7, .inl (upd GM_23 (EP (((2 * p_l) + 1) - c_l)) 0))), (g2, .inr (6, [.int gnl_21, .ref g3, .ref g4])), (g3, .inl (cI, 7, .inl (fun zy => nI (NP_24 zy)))), (g4, .inl (cI, 7, .inl (fun zy => nI (NF_25 zy)))), (g6, .inl (cI, 7, .inl (fun zy => nI (RP_26 zy)))), (g7, .inl (cI, 7, .inl (fun zy => nI (RF_27 zy)))), (g0, .inr (5, [.int (nI (EP ((2 * p_l) + c_l))), .int r_1, .int BO_19, .int BM_20, .ref g1, .ref g2, .ref g5])), (g5, .inr (6, [.int (nI rl_22), .ref g6, .ref g7]))]) [0, 9, 10, 11, 12, 13, 2, 3, 4, 5, 7, 8, 1, 6] rfl
          have hDz := hD.sub (ws' := [(x, .inr (0, [.ref f0, .ref a0, .ref r0, .ref w0, .ref g0, .ref k0, .int tm, .int gp, .int lk])), (a0, .inr (2, [.int (nI np), .ref a1, .ref a2, .ref a3, .ref a4, .ref a5, .ref a6, .ref a7, .ref a8, .ref a9, .ref a10, .ref a11])), (a1, .inl (cI, 24, .inl (fun zy => nI (EP zy)))), (a2, .inl (cI, 24, .inl SI)), (a3, .inl (cI, 24, .inl LK)), (a6, .inl (cI, 12, .inl PH)), (g1, .inl (cZ, 7, .inl (upd GM_23 (EP (((2 * p_l) + 1) - c_l)) 0))), (g2, .inr (6, [.int gnl_21, .ref g3, .ref g4])), (g3, .inl (cI, 7, .inl (fun zy => nI (NP_24 zy)))), (g4, .inl (cI, 7, .inl (fun zy => nI (NF_25 zy)))), (g6, .inl (cI, 7, .inl (fun zy => nI (RP_26 zy)))), (g7, .inl (cI, 7, .inl (fun zy => nI (RF_27 zy)))), (g0, .inr (5, [.int (nI (EP ((2 * p_l) + c_l))), .int r_1, .int BO_19, .int BM_20, .ref g1, .ref g2, .ref g5])), (g5, .inr (6, [.int (nI rl_22), .ref g6, .ref g7]))]) [0, 9, 10, 11, 12, 13, 2, 3, 4, 5, 7, 8, 1, 6] (by decide) rfl
          exact ih2 ((c_l + 1), nI (EP ((2 * p_l) + c_l)), BO_19, BM_20, gnl_21, rl_22, (upd GM_23 (EP (((2 * p_l) + 1) - c_l)) 0), NP_24, NF_25, RP_26, RF_27) _ _ _ (by first | omega | (dsimp only; omega)) ⟨hf_27_1, hf_27_2, hf_27_3, hf_27_4, (by first | omega | (dsimp only; omega)), hf_27_0, hPz, hDz, hS, lv_sub hl [0, 2, 3] rfl⟩
        · refine lv_goto (tgt := 146) hx hb d_PC_findRing_61 (by decide) ?_
          refine lv_iinc (v := nI (c_l + 1)) (lv' := [(2, .int (nI (c_l + 1))), (1, .int (nI p_l)), (0, .ref x)]) hx hb d_PC_findRing_146 hl (k := 0) rfl (nI_1 c_l) (by decide) rfl (fun ls hl => ?_)
          refine lv_goto (tgt := 29) hx hb d_PC_findRing_149 (by decide) ?_
          have hPz := hP.sub (ws' := [(x, .inr (0, [.ref f0, .ref a0, .ref r0, .ref w0, .ref g0, .ref k0, .int tm, .int gp, .int lk])), (a0, .inr (2, [.int (nI np), .ref a1, .ref a2, .ref a3, .ref a4, .ref a5, .ref a6, .ref a7, .ref a8, .ref a9, .ref a10, .ref a11])), (a1, .inl (cI, 24, .inl (fun zy => nI (EP zy)))), (a2, .inl (cI, 24, .inl SI)), (a3, .inl (cI, 24, .inl LK)), (a6, .inl (cI, 12, .inl PH)), (g1, .inl (cZ, 7, .inl GM_2)), (g2, .inr (6, [.int gn2_v, .ref g3, .ref g4])), (g3, .inl (cI, 7, .inl (fun zy => nI (NP_2 zy)))), (g4, .inl (cI, 7, .inl (fun zy => nI (NF_2 zy)))), (g6, .inl (cI, 7, .inl (fun zy => nI (RP_2 zy)))), (g7, .inl (cI, 7, .inl (fun zy => nI (RF_2 zy)))), (g0, .inr (5, [.int hm2_v, .int r_1, .int bo2_v, .int bm2_v, .ref g1, .ref g2, .ref g5])), (g5, .inr (6, [.int (nI rl2_l), .ref g6, .ref g7]))]) [0, 1, 2, 3, 4, 5, 6, 7, 8, 9, 10, 11, 12, 13] rfl
          have hDz := hD.sub (ws' := [(x, .inr (0, [.ref f0, .ref a0, .ref r0, .ref w0, .ref g0, .ref k0, .int tm, .int gp, .int lk])), (a0, .inr (2, [.int (nI np), .ref a1, .ref a2, .ref a3, .ref a4, .ref a5, .ref a6, .ref a7, .ref a8, .ref a9, .ref a10, .ref a11])), (a1, .inl (cI, 24, .inl (fun zy => nI (EP zy)))), (a2, .inl (cI, 24, .inl SI)), (a3, .inl (cI, 24, .inl LK)), (a6, .inl (cI, 12, .inl PH)), (g1, .inl (cZ, 7, .inl GM_2)), (g2, .inr (6, [.int gn2_v, .ref g3, .ref g4])), (g3, .inl (cI, 7, .inl (fun zy => nI (NP_2 zy)))), (g4, .inl (cI, 7, .inl (fun zy => nI (NF_2 zy)))), (g6, .inl (cI, 7, .inl (fun zy => nI (RP_2 zy)))), (g7, .inl (cI, 7, .inl (fun zy => nI (RF_2 zy)))), (g0, .inr (5, [.int hm2_v, .int r_1, .int bo2_v, .int bm2_v, .ref g1, .ref g2, .ref g5])), (g5, .inr (6, [.int (nI rl2_l), .ref g6, .ref g7]))]) [0, 1, 2, 3, 4, 5, 6, 7, 8, 9, 10, 11, 12, 13] (by decide) rfl
          exact ih2 ((c_l + 1), hm2_v, bo2_v, bm2_v, gn2_v, rl2_l, GM_2, NP_2, NF_2, RP_2, RF_2) _ _ _ (by first | omega | (dsimp only; omega)) ⟨h_NP_2, h_NF_2, h_RP_2, h_RF_2, (by first | omega | (dsimp only; omega)), hrl2, hPz, hDz, hS, lv_sub hl [0, 1, 2] rfl⟩

set_option maxHeartbeats 4000000 in
set_option maxRecDepth 100000 in
theorem g_PC_ring (l : Launch) (D : va_G) (cI cZ : ClassId) (x : Nat) (z : Int32) (i : Int32) (f0 : Nat) (a0 : Nat) (r0 : Nat) (w0 : Nat) (g0 : Nat) (k0 : Nat) (tm : Int32) (gp : Int32) (lk : Int32) (np : Nat) (a1 : Nat) (a2 : Nat) (a3 : Nat) (a4 : Nat) (a5 : Nat) (a6 : Nat) (a7 : Nat) (a8 : Nat) (a9 : Nat) (a10 : Nat) (a11 : Nat) (EP : Nat → Nat) (SI : Nat → Int32) (LK : Nat → Int32) (PH : Nat → Int32) (HM : Int32) (OB : Int32) (BO : Int32) (BM : Int32) (g1 : Nat) (g2 : Nat) (g5 : Nat) (GM : Nat → Int32) (gnl : Int32) (g3 : Nat) (g4 : Nat) (NP : Nat → Nat) (NF : Nat → Nat) (rl : Nat) (g6 : Nat) (g7 : Nat) (RP : Nat → Nat) (RF : Nat → Nat) (sz : Nat) (h_np : np ≤ 12) (h_EP : ∀ zz, EP zz ≤ 6) (h_NP : ∀ zz, NP zz ≤ 11) (h_NF : ∀ zz, NF zz ≤ 1) (h_rl : rl ≤ 7) (h_RP : ∀ zz, RP zz ≤ 11) (h_RF : ∀ zz, RF zz ≤ 1) : Met l ⟨"PromiseChains", "ring", "(II)I"⟩ (mw ⟨"PromiseChains", "ring", "(II)I"⟩ prog_1_method_21_code 4 (some .int)) ({ frames := 11, cells := 0, slots := 0, locals := 275 }) (va_Pc [.ref x, .int z, .int i] (PB D cI cZ sz [(x, .inr (0, [.ref f0, .ref a0, .ref r0, .ref w0, .ref g0, .ref k0, .int tm, .int gp, .int lk])), (a0, .inr (2, [.int (nI np), .ref a1, .ref a2, .ref a3, .ref a4, .ref a5, .ref a6, .ref a7, .ref a8, .ref a9, .ref a10, .ref a11])), (a1, .inl (cI, 24, .inl (fun zy => nI (EP zy)))), (a2, .inl (cI, 24, .inl SI)), (a3, .inl (cI, 24, .inl LK)), (a6, .inl (cI, 12, .inl PH)), (g0, .inr (5, [.int HM, .int OB, .int BO, .int BM, .ref g1, .ref g2, .ref g5])), (g1, .inl (cZ, 7, .inl GM)), (g2, .inr (6, [.int gnl, .ref g3, .ref g4])), (g3, .inl (cI, 7, .inl (fun zy => nI (NP zy)))), (g4, .inl (cI, 7, .inl (fun zy => nI (NF zy)))), (g5, .inr (6, [.int (nI rl), .ref g6, .ref g7])), (g6, .inl (cI, 7, .inl (fun zy => nI (RP zy)))), (g7, .inl (cI, 7, .inl (fun zy => nI (RF zy))))])) (va_Qi (S := Int32 × Int32 × Int32 × Int32 × Int32 × Nat × (Nat → Int32) × (Nat → Nat) × (Nat → Nat) × (Nat → Nat) × (Nat → Nat)) (fun (r : Int32) uU => (uU.2.2.2.2.2.1 ≤ 7) ∧ (∀ zz, uU.2.2.2.2.2.2.2.1 zz ≤ 11) ∧ (∀ zz, uU.2.2.2.2.2.2.2.2.1 zz ≤ 1) ∧ (∀ zz, uU.2.2.2.2.2.2.2.2.2.1 zz ≤ 11) ∧ (∀ zz, uU.2.2.2.2.2.2.2.2.2.2 zz ≤ 1)) (fun uU tT => BB D (va_A [(x, .inr (0, [.ref f0, .ref a0, .ref r0, .ref w0, .ref g0, .ref k0, .int tm, .int gp, .int lk])), (a0, .inr (2, [.int (nI np), .ref a1, .ref a2, .ref a3, .ref a4, .ref a5, .ref a6, .ref a7, .ref a8, .ref a9, .ref a10, .ref a11])), (a1, .inl (cI, 24, .inl (fun zy => nI (EP zy)))), (a2, .inl (cI, 24, .inl SI)), (a3, .inl (cI, 24, .inl LK)), (a6, .inl (cI, 12, .inl PH)), (g0, .inr (5, [.int HM, .int OB, .int BO, .int BM, .ref g1, .ref g2, .ref g5])), (g1, .inl (cZ, 7, .inl GM)), (g2, .inr (6, [.int gnl, .ref g3, .ref g4])), (g3, .inl (cI, 7, .inl (fun zy => nI (NP zy)))), (g4, .inl (cI, 7, .inl (fun zy => nI (NF zy)))), (g5, .inr (6, [.int (nI rl), .ref g6, .ref g7])), (g6, .inl (cI, 7, .inl (fun zy => nI (RP zy)))), (g7, .inl (cI, 7, .inl (fun zy => nI (RF zy))))] sz) [(x, .inr (0, [.ref f0, .ref a0, .ref r0, .ref w0, .ref g0, .ref k0, .int tm, .int gp, .int lk])), (a0, .inr (2, [.int (nI np), .ref a1, .ref a2, .ref a3, .ref a4, .ref a5, .ref a6, .ref a7, .ref a8, .ref a9, .ref a10, .ref a11])), (a1, .inl (cI, 24, .inl (fun zy => nI (EP zy)))), (a2, .inl (cI, 24, .inl SI)), (a3, .inl (cI, 24, .inl LK)), (a6, .inl (cI, 12, .inl PH)), (g0, .inr (5, [.int (uU.1), .int (uU.2.1), .int (uU.2.2.1), .int (uU.2.2.2.1), .ref g1, .ref g2, .ref g5])), (g1, .inl (cZ, 7, .inl (uU.2.2.2.2.2.2.1))), (g2, .inr (6, [.int (uU.2.2.2.2.1), .ref g3, .ref g4])), (g3, .inl (cI, 7, .inl (fun zy => nI ((uU.2.2.2.2.2.2.2.1) zy)))), (g4, .inl (cI, 7, .inl (fun zy => nI ((uU.2.2.2.2.2.2.2.2.1) zy)))), (g5, .inr (6, [.int (nI uU.2.2.2.2.2.1), .ref g6, .ref g7])), (g6, .inl (cI, 7, .inl (fun zy => nI ((uU.2.2.2.2.2.2.2.2.2.1) zy)))), (g7, .inl (cI, 7, .inl (fun zy => nI ((uU.2.2.2.2.2.2.2.2.2.2) zy))))] tT) (va_A [(x, .inr (0, [.ref f0, .ref a0, .ref r0, .ref w0, .ref g0, .ref k0, .int tm, .int gp, .int lk])), (a0, .inr (2, [.int (nI np), .ref a1, .ref a2, .ref a3, .ref a4, .ref a5, .ref a6, .ref a7, .ref a8, .ref a9, .ref a10, .ref a11])), (a1, .inl (cI, 24, .inl (fun zy => nI (EP zy)))), (a2, .inl (cI, 24, .inl SI)), (a3, .inl (cI, 24, .inl LK)), (a6, .inl (cI, 12, .inl PH)), (g0, .inr (5, [.int HM, .int OB, .int BO, .int BM, .ref g1, .ref g2, .ref g5])), (g1, .inl (cZ, 7, .inl GM)), (g2, .inr (6, [.int gnl, .ref g3, .ref g4])), (g3, .inl (cI, 7, .inl (fun zy => nI (NP zy)))), (g4, .inl (cI, 7, .inl (fun zy => nI (NF zy)))), (g5, .inr (6, [.int (nI rl), .ref g6, .ref g7])), (g6, .inl (cI, 7, .inl (fun zy => nI (RP zy)))), (g7, .inl (cI, 7, .inl (fun zy => nI (RF zy))))] sz)) 0 0 (va_A [(x, .inr (0, [.ref f0, .ref a0, .ref r0, .ref w0, .ref g0, .ref k0, .int tm, .int gp, .int lk])), (a0, .inr (2, [.int (nI np), .ref a1, .ref a2, .ref a3, .ref a4, .ref a5, .ref a6, .ref a7, .ref a8, .ref a9, .ref a10, .ref a11])), (a1, .inl (cI, 24, .inl (fun zy => nI (EP zy)))), (a2, .inl (cI, 24, .inl SI)), (a3, .inl (cI, 24, .inl LK)), (a6, .inl (cI, 12, .inl PH)), (g0, .inr (5, [.int HM, .int OB, .int BO, .int BM, .ref g1, .ref g2, .ref g5])), (g1, .inl (cZ, 7, .inl GM)), (g2, .inr (6, [.int gnl, .ref g3, .ref g4])), (g3, .inl (cI, 7, .inl (fun zy => nI (NP zy)))), (g4, .inl (cI, 7, .inl (fun zy => nI (NF zy)))), (g5, .inr (6, [.int (nI rl), .ref g6, .ref g7])), (g6, .inl (cI, 7, .inl (fun zy => nI (RP zy)))), (g7, .inl (cI, 7, .inl (fun zy => nI (RF zy))))] sz) := by
  refine Met.ofW (cc := prog_1_method_21_code) (maxL := 4) (ret := (some .int)) (by decide) rfl ?_
  intro p e s m args below meth c s₁ B hml hv
  obtain ⟨rfl, hsz, hP, hK, hD0, hN⟩ := hv
  have hx := B.exec
  have hb := B.bytes
  have hr := B.returns
  have hts0 := atoms_spec (ws := mw ⟨"PromiseChains", "ring", "(II)I"⟩ prog_1_method_21_code 4 (some .int)) B.pre
  have hts : ∀ w ∈ tblG, w.before _ s = true := fun w h => hts0 w (List.mem_cons_of_mem _ h)
  have hown : s.vm.findClass "PromiseChains" = some m.cls := findClass_of_methodNamed B.named
  have hlocks := B.notSynchronized
  subst hsz
  have hD := hD0.self (sz := s.heap.size)
  generalize hAe : va_A [(x, .inr (0, [.ref f0, .ref a0, .ref r0, .ref w0, .ref g0, .ref k0, .int tm, .int gp, .int lk])), (a0, .inr (2, [.int (nI np), .ref a1, .ref a2, .ref a3, .ref a4, .ref a5, .ref a6, .ref a7, .ref a8, .ref a9, .ref a10, .ref a11])), (a1, .inl (cI, 24, .inl (fun zy => nI (EP zy)))), (a2, .inl (cI, 24, .inl SI)), (a3, .inl (cI, 24, .inl LK)), (a6, .inl (cI, 12, .inl PH)), (g0, .inr (5, [.int HM, .int OB, .int BO, .int BM, .ref g1, .ref g2, .ref g5])), (g1, .inl (cZ, 7, .inl GM)), (g2, .inr (6, [.int gnl, .ref g3, .ref g4])), (g3, .inl (cI, 7, .inl (fun zy => nI (NP zy)))), (g4, .inl (cI, 7, .inl (fun zy => nI (NF zy)))), (g5, .inr (6, [.int (nI rl), .ref g6, .ref g7])), (g6, .inl (cI, 7, .inl (fun zy => nI (RP zy)))), (g7, .inl (cI, 7, .inl (fun zy => nI (RF zy))))] s.heap.size = A at hD ⊢
  have hA : ∀ q : Nat, s.heap.size ≤ q → A q := fun q h => by rw [← hAe]; exact Or.inr h
  have hS : va_S A s.heap s.heap [] := va_S.rf
  have hP : va_P D vwCl [(x, .inr (0, [.ref f0, .ref a0, .ref r0, .ref w0, .ref g0, .ref k0, .int tm, .int gp, .int lk])), (a0, .inr (2, [.int (nI np), .ref a1, .ref a2, .ref a3, .ref a4, .ref a5, .ref a6, .ref a7, .ref a8, .ref a9, .ref a10, .ref a11])), (a1, .inl (cI, 24, .inl (fun zy => nI (EP zy)))), (a2, .inl (cI, 24, .inl SI)), (a3, .inl (cI, 24, .inl LK)), (a6, .inl (cI, 12, .inl PH)), (g0, .inr (5, [.int HM, .int OB, .int BO, .int BM, .ref g1, .ref g2, .ref g5])), (g1, .inl (cZ, 7, .inl GM)), (g2, .inr (6, [.int gnl, .ref g3, .ref g4])), (g3, .inl (cI, 7, .inl (fun zy => nI (NP zy)))), (g4, .inl (cI, 7, .inl (fun zy => nI (NF zy)))), (g5, .inr (6, [.int (nI rl), .ref g6, .ref g7])), (g6, .inl (cI, 7, .inl (fun zy => nI (RP zy)))), (g7, .inl (cI, 7, .inl (fun zy => nI (RF zy))))] s.heap := hP
  have hl := lv_entry ([.ref x, .int z, .int i]) (n := 4) (Nat.le_of_ble_eq_true rfl)
  rw [lg_entry_eq]
  generalize (lg_sl ([.ref x, .int z, .int i]) ++ List.replicate (4 - (lg_sl ([.ref x, .int z, .int i])).length) Slot.unset).toArray = ls at hl ⊢
  have hl : lv_has ls 4 [(0, .ref x), (1, .int z), (2, .int i)] := hl
  refine lv_iload_n hx hb d_PC_ring_0 rfl (lv_at hl 1 rfl) ?_
  refine lv_iconst (v := 0) hx hb d_PC_ring_1 (by decide) ?_
  refine lv_iconst (v := 4) hx hb d_PC_ring_2 (by decide) ?_
  have hPc := hP.sub (ws' := []) [] rfl
  have hDc := hD.sub (ws' := []) [] (by decide) rfl
  refine vp_callSi (va_Run.run (va_runS (As := [.int z, .int 0, .int 4]) (rest := []) ⟨hx, hb, hml, hown, hts⟩ (g_within l D cI cZ z 0 4 s.heap.size ) (my_cwS 3 hts q_290 q_288 q_289 q_1 rfl rfl (by decide +kernel) ⟨Nat.le_of_ble_eq_true rfl, Nat.le_of_ble_eq_true rfl⟩) (my_preS hPc hDc hK hN) rfl rfl hl.1 rfl (lv_room (Nat.le_of_ble_eq_true rfl)) d_PC_ring_3 ⟨Nat.le_of_ble_eq_true rfl, Nat.le_of_ble_eq_true rfl⟩)) (fun r_1 hw_1 => ?_)
  have hf_1_0 : r_1 = isw z 0 4 := hw_1
  have hf_1_0 : r_1 = isw z 0 4 := hf_1_0
  subst hf_1_0
  refine lv_if_ne (tgt := 12) hx hb d_PC_ring_6 (by decide) (fun h_2 => ?_) (fun h_2 => ?_)
  · refine lv_aload_n hx hb d_PC_ring_12 rfl (lv_at hl 0 rfl) ?_
    have hPc := hP.sub (ws' := [(x, .inr (0, [.ref f0, .ref a0, .ref r0, .ref w0, .ref g0, .ref k0, .int tm, .int gp, .int lk])), (a0, .inr (2, [.int (nI np), .ref a1, .ref a2, .ref a3, .ref a4, .ref a5, .ref a6, .ref a7, .ref a8, .ref a9, .ref a10, .ref a11])), (a1, .inl (cI, 24, .inl (fun zy => nI (EP zy)))), (a2, .inl (cI, 24, .inl SI)), (a3, .inl (cI, 24, .inl LK)), (a6, .inl (cI, 12, .inl PH)), (g0, .inr (5, [.int HM, .int OB, .int BO, .int BM, .ref g1, .ref g2, .ref g5])), (g1, .inl (cZ, 7, .inl GM)), (g2, .inr (6, [.int gnl, .ref g3, .ref g4])), (g3, .inl (cI, 7, .inl (fun zy => nI (NP zy)))), (g4, .inl (cI, 7, .inl (fun zy => nI (NF zy)))), (g5, .inr (6, [.int (nI rl), .ref g6, .ref g7])), (g6, .inl (cI, 7, .inl (fun zy => nI (RP zy)))), (g7, .inl (cI, 7, .inl (fun zy => nI (RF zy))))]) [0, 1, 2, 3, 4, 5, 6, 7, 8, 9, 10, 11, 12, 13] rfl
    have hDc := hD.sub (ws' := [(x, .inr (0, [.ref f0, .ref a0, .ref r0, .ref w0, .ref g0, .ref k0, .int tm, .int gp, .int lk])), (a0, .inr (2, [.int (nI np), .ref a1, .ref a2, .ref a3, .ref a4, .ref a5, .ref a6, .ref a7, .ref a8, .ref a9, .ref a10, .ref a11])), (a1, .inl (cI, 24, .inl (fun zy => nI (EP zy)))), (a2, .inl (cI, 24, .inl SI)), (a3, .inl (cI, 24, .inl LK)), (a6, .inl (cI, 12, .inl PH)), (g0, .inr (5, [.int HM, .int OB, .int BO, .int BM, .ref g1, .ref g2, .ref g5])), (g1, .inl (cZ, 7, .inl GM)), (g2, .inr (6, [.int gnl, .ref g3, .ref g4])), (g3, .inl (cI, 7, .inl (fun zy => nI (NP zy)))), (g4, .inl (cI, 7, .inl (fun zy => nI (NF zy)))), (g5, .inr (6, [.int (nI rl), .ref g6, .ref g7])), (g6, .inl (cI, 7, .inl (fun zy => nI (RP zy)))), (g7, .inl (cI, 7, .inl (fun zy => nI (RF zy))))]) [0, 1, 2, 3, 4, 5, 6, 7, 8, 9, 10, 11, 12, 13] (by decide) rfl
    have hFc := va_free (wc := [(x, .inr (0, [.ref f0, .ref a0, .ref r0, .ref w0, .ref g0, .ref k0, .int tm, .int gp, .int lk])), (a0, .inr (2, [.int (nI np), .ref a1, .ref a2, .ref a3, .ref a4, .ref a5, .ref a6, .ref a7, .ref a8, .ref a9, .ref a10, .ref a11])), (a1, .inl (cI, 24, .inl (fun zy => nI (EP zy)))), (a2, .inl (cI, 24, .inl SI)), (a3, .inl (cI, 24, .inl LK)), (a6, .inl (cI, 12, .inl PH)), (g0, .inr (5, [.int HM, .int OB, .int BO, .int BM, .ref g1, .ref g2, .ref g5])), (g1, .inl (cZ, 7, .inl GM)), (g2, .inr (6, [.int gnl, .ref g3, .ref g4])), (g3, .inl (cI, 7, .inl (fun zy => nI (NP zy)))), (g4, .inl (cI, 7, .inl (fun zy => nI (NF zy)))), (g5, .inr (6, [.int (nI rl), .ref g6, .ref g7])), (g6, .inl (cI, 7, .inl (fun zy => nI (RP zy)))), (g7, .inl (cI, 7, .inl (fun zy => nI (RF zy))))]) hD hS hA [0, 1, 2, 3, 4, 5, 6, 7, 8, 9, 10, 11, 12, 13] rfl
    refine va_calli (va_runV (As := []) (rest := []) ⟨hx, hb, hml, hown, hts⟩ (g_PC_findRing l D cI cZ x f0 a0 r0 w0 g0 k0 tm gp lk np a1 a2 a3 a4 a5 a6 a7 a8 a9 a10 a11 EP SI LK PH HM OB BO BM g1 g2 g5 GM gnl g3 g4 NP NF rl g6 g7 RP RF s.heap.size h_np h_EP h_NP h_NF h_rl h_RP h_RF) (my_cwV 0 hts q_536 q_533 q_535 q_p3 q_1 rfl rfl (by decide +kernel) ⟨Nat.le_of_ble_eq_true rfl, Nat.le_of_ble_eq_true rfl⟩) (my_preV hPc hDc hK hN 0 0 rfl rfl) rfl rfl hl.1 rfl (lv_room (Nat.le_of_ble_eq_true rfl)) d_PC_ring_13 ⟨Nat.le_of_ble_eq_true rfl, Nat.le_of_ble_eq_true rfl⟩) hS (fun q _ h => hFc q h) hFc (fun r_3 uU tT H_4 locs ht hvm hw_3 hB hz1 hk1 hS => ?_)
    obtain ⟨HM_5, OB_6, BO_7, BM_8, gnl_9, rl_10, GM_11, NP_12, NF_13, RP_14, RF_15⟩ := uU
    obtain ⟨hP1, hD1⟩ := hB
    rw [ht] at hP1
    obtain ⟨hP, hD⟩ := va_join (wr := []) (w1 := [(x, .inr (0, [.ref f0, .ref a0, .ref r0, .ref w0, .ref g0, .ref k0, .int tm, .int gp, .int lk])), (a0, .inr (2, [.int (nI np), .ref a1, .ref a2, .ref a3, .ref a4, .ref a5, .ref a6, .ref a7, .ref a8, .ref a9, .ref a10, .ref a11])), (a1, .inl (cI, 24, .inl (fun zy => nI (EP zy)))), (a2, .inl (cI, 24, .inl SI)), (a3, .inl (cI, 24, .inl LK)), (a6, .inl (cI, 12, .inl PH)), (g0, .inr (5, [.int HM_5, .int OB_6, .int BO_7, .int BM_8, .ref g1, .ref g2, .ref g5])), (g1, .inl (cZ, 7, .inl GM_11)), (g2, .inr (6, [.int gnl_9, .ref g3, .ref g4])), (g3, .inl (cI, 7, .inl (fun zy => nI (NP_12 zy)))), (g4, .inl (cI, 7, .inl (fun zy => nI (NF_13 zy)))), (g5, .inr (6, [.int (nI rl_10), .ref g6, .ref g7])), (g6, .inl (cI, 7, .inl (fun zy => nI (RP_14 zy)))), (g7, .inl (cI, 7, .inl (fun zy => nI (RF_15 zy))))]) hP hD [0, 1, 2, 3, 4, 5, 6, 7, 8, 9, 10, 11, 12, 13] [] rfl rfl (by decide) (by decide) hk1 hFc hP1 hD1
    have hP : va_P D vwCl [(x, .inr (0, [.ref f0, .ref a0, .ref r0, .ref w0, .ref g0, .ref k0, .int tm, .int gp, .int lk])), (a0, .inr (2, [.int (nI np), .ref a1, .ref a2, .ref a3, .ref a4, .ref a5, .ref a6, .ref a7, .ref a8, .ref a9, .ref a10, .ref a11])), (a1, .inl (cI, 24, .inl (fun zy => nI (EP zy)))), (a2, .inl (cI, 24, .inl SI)), (a3, .inl (cI, 24, .inl LK)), (a6, .inl (cI, 12, .inl PH)), (g0, .inr (5, [.int HM_5, .int OB_6, .int BO_7, .int BM_8, .ref g1, .ref g2, .ref g5])), (g1, .inl (cZ, 7, .inl GM_11)), (g2, .inr (6, [.int gnl_9, .ref g3, .ref g4])), (g3, .inl (cI, 7, .inl (fun zy => nI (NP_12 zy)))), (g4, .inl (cI, 7, .inl (fun zy => nI (NF_13 zy)))), (g5, .inr (6, [.int (nI rl_10), .ref g6, .ref g7])), (g6, .inl (cI, 7, .inl (fun zy => nI (RP_14 zy)))), (g7, .inl (cI, 7, .inl (fun zy => nI (RF_15 zy))))] H_4 := hP
    have hD : va_D A [(x, .inr (0, [.ref f0, .ref a0, .ref r0, .ref w0, .ref g0, .ref k0, .int tm, .int gp, .int lk])), (a0, .inr (2, [.int (nI np), .ref a1, .ref a2, .ref a3, .ref a4, .ref a5, .ref a6, .ref a7, .ref a8, .ref a9, .ref a10, .ref a11])), (a1, .inl (cI, 24, .inl (fun zy => nI (EP zy)))), (a2, .inl (cI, 24, .inl SI)), (a3, .inl (cI, 24, .inl LK)), (a6, .inl (cI, 12, .inl PH)), (g0, .inr (5, [.int HM_5, .int OB_6, .int BO_7, .int BM_8, .ref g1, .ref g2, .ref g5])), (g1, .inl (cZ, 7, .inl GM_11)), (g2, .inr (6, [.int gnl_9, .ref g3, .ref g4])), (g3, .inl (cI, 7, .inl (fun zy => nI (NP_12 zy)))), (g4, .inl (cI, 7, .inl (fun zy => nI (NF_13 zy)))), (g5, .inr (6, [.int (nI rl_10), .ref g6, .ref g7])), (g6, .inl (cI, 7, .inl (fun zy => nI (RP_14 zy)))), (g7, .inl (cI, 7, .inl (fun zy => nI (RF_15 zy))))] := hD
    have hw_3 : (rl_10 ≤ 7) ∧ (∀ zz, NP_12 zz ≤ 11) ∧ (∀ zz, NF_13 zz ≤ 1) ∧ (∀ zz, RP_14 zz ≤ 11) ∧ (∀ zz, RF_15 zz ≤ 1) ∧ ((r_3 = 0) ∨ (r_3 = 1)) := hw_3
    obtain ⟨hf_15_0, hf_15_1, hf_15_2, hf_15_3, hf_15_4, hw_3⟩ := hw_3
    have hf_15_0 : rl_10 ≤ 7 := hf_15_0
    have hf_15_1 : ∀ zz, NP_12 zz ≤ 11 := hf_15_1
    have hf_15_2 : ∀ zz, NF_13 zz ≤ 1 := hf_15_2
    have hf_15_3 : ∀ zz, RP_14 zz ≤ 11 := hf_15_3
    have hf_15_4 : ∀ zz, RF_15 zz ≤ 1 := hf_15_4
    rcases hw_3 with rfl | rfl
    · refine lv_if_ne (tgt := 21) hx hb d_PC_ring_16 (by decide) (fun h => absurd h (by decide)) (fun _ => ?_)
      refine lv_iconst (v := (-1)) hx hb d_PC_ring_19 (by decide) ?_
      have hP9 := hP.sub (ws' := [(x, .inr (0, [.ref f0, .ref a0, .ref r0, .ref w0, .ref g0, .ref k0, .int tm, .int gp, .int lk])), (a0, .inr (2, [.int (nI np), .ref a1, .ref a2, .ref a3, .ref a4, .ref a5, .ref a6, .ref a7, .ref a8, .ref a9, .ref a10, .ref a11])), (a1, .inl (cI, 24, .inl (fun zy => nI (EP zy)))), (a2, .inl (cI, 24, .inl SI)), (a3, .inl (cI, 24, .inl LK)), (a6, .inl (cI, 12, .inl PH)), (g0, .inr (5, [.int HM_5, .int OB_6, .int BO_7, .int BM_8, .ref g1, .ref g2, .ref g5])), (g1, .inl (cZ, 7, .inl GM_11)), (g2, .inr (6, [.int gnl_9, .ref g3, .ref g4])), (g3, .inl (cI, 7, .inl (fun zy => nI (NP_12 zy)))), (g4, .inl (cI, 7, .inl (fun zy => nI (NF_13 zy)))), (g5, .inr (6, [.int (nI rl_10), .ref g6, .ref g7])), (g6, .inl (cI, 7, .inl (fun zy => nI (RP_14 zy)))), (g7, .inl (cI, 7, .inl (fun zy => nI (RF_15 zy))))]) [0, 1, 2, 3, 4, 5, 6, 7, 8, 9, 10, 11, 12, 13] rfl
      have hD9 := hD.sub (ws' := [(x, .inr (0, [.ref f0, .ref a0, .ref r0, .ref w0, .ref g0, .ref k0, .int tm, .int gp, .int lk])), (a0, .inr (2, [.int (nI np), .ref a1, .ref a2, .ref a3, .ref a4, .ref a5, .ref a6, .ref a7, .ref a8, .ref a9, .ref a10, .ref a11])), (a1, .inl (cI, 24, .inl (fun zy => nI (EP zy)))), (a2, .inl (cI, 24, .inl SI)), (a3, .inl (cI, 24, .inl LK)), (a6, .inl (cI, 12, .inl PH)), (g0, .inr (5, [.int HM_5, .int OB_6, .int BO_7, .int BM_8, .ref g1, .ref g2, .ref g5])), (g1, .inl (cZ, 7, .inl GM_11)), (g2, .inr (6, [.int gnl_9, .ref g3, .ref g4])), (g3, .inl (cI, 7, .inl (fun zy => nI (NP_12 zy)))), (g4, .inl (cI, 7, .inl (fun zy => nI (NF_13 zy)))), (g5, .inr (6, [.int (nI rl_10), .ref g6, .ref g7])), (g6, .inl (cI, 7, .inl (fun zy => nI (RP_14 zy)))), (g7, .inl (cI, 7, .inl (fun zy => nI (RF_15 zy))))]) [0, 1, 2, 3, 4, 5, 6, 7, 8, 9, 10, 11, 12, 13] (by decide) rfl
      refine W.widen (k := 0) (n := 0) (Nat.le_of_ble_eq_true rfl) (Nat.le_of_ble_eq_true rfl) ?_
      exact W.iret (v := (-1)) hx hb hr (fun tT ht hW => ⟨⟨(-1), (HM_5, OB_6, BO_7, BM_8, gnl_9, rl_10, GM_11, NP_12, NF_13, RP_14, RF_15), rfl, ⟨hf_15_0, hf_15_1, hf_15_2, hf_15_3, hf_15_4⟩, by rw [ht]; exact hP9, hD9⟩, hS.F ht⟩) hS.2.2 d_PC_ring_20
    · refine lv_if_ne (tgt := 21) hx hb d_PC_ring_16 (by decide) (fun _ => ?_) (fun h => absurd h (by decide))
      refine lv_iload_n hx hb d_PC_ring_21 rfl (lv_at hl 2 rfl) ?_
      refine lv_iconst (v := 0) hx hb d_PC_ring_22 (by decide) ?_
      refine lv_aload_n hx hb d_PC_ring_23 rfl (lv_at hl 0 rfl) ?_
      refine va_get (D := D) (ci := 0) (v := .ref g0) (C := R_PC) (T := F_PC) (N := 9) hx hb hts i_PC hown hK hP 0 rfl rfl 4 (by decide) (hts _ q_260) (fun _ h9 => h9) rfl d_PC_ring_24 ?_
      refine va_get (D := D) (ci := 5) (v := .ref g5) (C := R_RS) (T := F_RS) (N := 7) hx hb hts i_RS hown hK hP 6 rfl rfl 6 (by decide) (hts _ q_234) (fun _ h9 => h9) rfl d_PC_ring_27 ?_
      refine va_get (D := D) (ci := 6) (v := .int (nI rl_10)) (C := R_RO) (T := F_RO) (N := 3) hx hb hts i_RO hown hK hP 11 rfl rfl 0 (by decide) (hts _ q_174) (fun _ h9 => h9) rfl d_PC_ring_30 ?_
      refine lv_iconst (v := 1) hx hb d_PC_ring_33 (by decide) ?_
      refine lv_isub hx hb d_PC_ring_34 ?_
      have hPc := hP.sub (ws' := []) [] rfl
      have hDc := hD.sub (ws' := []) [] (by decide) rfl
      refine vp_callSi (va_Run.run (va_runS (As := [.int i, .int 0, .int ((nI rl_10) - 1)]) (rest := []) ⟨hx, hb, hml, hown, hts⟩ (g_within l D cI cZ i 0 ((nI rl_10) - 1) H_4.size ) (my_cwS 3 hts q_290 q_288 q_289 q_1 rfl rfl (by decide +kernel) ⟨Nat.le_of_ble_eq_true rfl, Nat.le_of_ble_eq_true rfl⟩) (my_preS hPc hDc hK hN) rfl rfl hl.1 rfl (lv_room (Nat.le_of_ble_eq_true rfl)) d_PC_ring_35 ⟨Nat.le_of_ble_eq_true rfl, Nat.le_of_ble_eq_true rfl⟩)) (fun r_18 hw_18 => ?_)
      have hf_18_0 : r_18 = isw i 0 ((nI rl_10) - 1) := hw_18
      have hf_18_0 : r_18 = isw i 0 ((nI rl_10) - 1) := hf_18_0
      subst hf_18_0
      refine lv_istore_n (lv' := [(3, .int (isw i 0 ((nI rl_10) - 1))), (0, .ref x), (1, .int z), (2, .int i)]) hx hb d_PC_ring_38 rfl hl (by decide) rfl (fun ls hl => ?_)
      refine lv_iload_n hx hb d_PC_ring_39 rfl (lv_at hl 2 rfl) ?_
      by_cases hz_19 : z = 0
      · subst hz_19
        refine lv_tableIn (off := 32) (tgt := 72) hx hb d_PC_ring_40 (by decide) (by decide) (by decide) (by decide) ?_
        refine lv_aload_n hx hb d_PC_ring_72 rfl (lv_at hl 1 rfl) ?_
        refine va_get (D := D) (ci := 0) (v := .ref g0) (C := R_PC) (T := F_PC) (N := 9) hx hb hts i_PC hown hK hP 0 rfl rfl 4 (by decide) (hts _ q_260) (fun _ h9 => h9) rfl d_PC_ring_73 ?_
        refine va_get (D := D) (ci := 5) (v := .int BO_7) (C := R_RS) (T := F_RS) (N := 7) hx hb hts i_RS hown hK hP 6 rfl rfl 2 (by decide) (hts _ q_226) (fun _ h9 => h9) rfl d_PC_ring_76 ?_
        have hP9 := hP.sub (ws' := [(x, .inr (0, [.ref f0, .ref a0, .ref r0, .ref w0, .ref g0, .ref k0, .int tm, .int gp, .int lk])), (a0, .inr (2, [.int (nI np), .ref a1, .ref a2, .ref a3, .ref a4, .ref a5, .ref a6, .ref a7, .ref a8, .ref a9, .ref a10, .ref a11])), (a1, .inl (cI, 24, .inl (fun zy => nI (EP zy)))), (a2, .inl (cI, 24, .inl SI)), (a3, .inl (cI, 24, .inl LK)), (a6, .inl (cI, 12, .inl PH)), (g0, .inr (5, [.int HM_5, .int OB_6, .int BO_7, .int BM_8, .ref g1, .ref g2, .ref g5])), (g1, .inl (cZ, 7, .inl GM_11)), (g2, .inr (6, [.int gnl_9, .ref g3, .ref g4])), (g3, .inl (cI, 7, .inl (fun zy => nI (NP_12 zy)))), (g4, .inl (cI, 7, .inl (fun zy => nI (NF_13 zy)))), (g5, .inr (6, [.int (nI rl_10), .ref g6, .ref g7])), (g6, .inl (cI, 7, .inl (fun zy => nI (RP_14 zy)))), (g7, .inl (cI, 7, .inl (fun zy => nI (RF_15 zy))))]) [0, 1, 2, 3, 4, 5, 6, 7, 8, 9, 10, 11, 12, 13] rfl
        have hD9 := hD.sub (ws' := [(x, .inr (0, [.ref f0, .ref a0, .ref r0, .ref w0, .ref g0, .ref k0, .int tm, .int gp, .int lk])), (a0, .inr (2, [.int (nI np), .ref a1, .ref a2, .ref a3, .ref a4, .ref a5, .ref a6, .ref a7, .ref a8, .ref a9, .ref a10, .ref a11])), (a1, .inl (cI, 24, .inl (fun zy => nI (EP zy)))), (a2, .inl (cI, 24, .inl SI)), (a3, .inl (cI, 24, .inl LK)), (a6, .inl (cI, 12, .inl PH)), (g0, .inr (5, [.int HM_5, .int OB_6, .int BO_7, .int BM_8, .ref g1, .ref g2, .ref g5])), (g1, .inl (cZ, 7, .inl GM_11)), (g2, .inr (6, [.int gnl_9, .ref g3, .ref g4])), (g3, .inl (cI, 7, .inl (fun zy => nI (NP_12 zy)))), (g4, .inl (cI, 7, .inl (fun zy => nI (NF_13 zy)))), (g5, .inr (6, [.int (nI rl_10), .ref g6, .ref g7])), (g6, .inl (cI, 7, .inl (fun zy => nI (RP_14 zy)))), (g7, .inl (cI, 7, .inl (fun zy => nI (RF_15 zy))))]) [0, 1, 2, 3, 4, 5, 6, 7, 8, 9, 10, 11, 12, 13] (by decide) rfl
        refine W.widen (k := 0) (n := 0) (Nat.le_of_ble_eq_true rfl) (Nat.le_of_ble_eq_true rfl) ?_
        exact W.iret (v := BO_7) hx hb hr (fun tT ht hW => ⟨⟨BO_7, (HM_5, OB_6, BO_7, BM_8, gnl_9, rl_10, GM_11, NP_12, NF_13, RP_14, RF_15), rfl, ⟨hf_15_0, hf_15_1, hf_15_2, hf_15_3, hf_15_4⟩, by rw [ht]; exact hP9, hD9⟩, hS.F ht⟩) hS.2.2 d_PC_ring_79
      by_cases hz_20 : z = 1
      · subst hz_20
        refine lv_tableIn (off := 40) (tgt := 80) hx hb d_PC_ring_40 (by decide) (by decide) (by decide) (by decide) ?_
        refine lv_aload_n hx hb d_PC_ring_80 rfl (lv_at hl 1 rfl) ?_
        refine va_get (D := D) (ci := 0) (v := .ref g0) (C := R_PC) (T := F_PC) (N := 9) hx hb hts i_PC hown hK hP 0 rfl rfl 4 (by decide) (hts _ q_260) (fun _ h9 => h9) rfl d_PC_ring_81 ?_
        refine va_get (D := D) (ci := 5) (v := .int BM_8) (C := R_RS) (T := F_RS) (N := 7) hx hb hts i_RS hown hK hP 6 rfl rfl 3 (by decide) (hts _ q_228) (fun _ h9 => h9) rfl d_PC_ring_84 ?_
        have hP9 := hP.sub (ws' := [(x, .inr (0, [.ref f0, .ref a0, .ref r0, .ref w0, .ref g0, .ref k0, .int tm, .int gp, .int lk])), (a0, .inr (2, [.int (nI np), .ref a1, .ref a2, .ref a3, .ref a4, .ref a5, .ref a6, .ref a7, .ref a8, .ref a9, .ref a10, .ref a11])), (a1, .inl (cI, 24, .inl (fun zy => nI (EP zy)))), (a2, .inl (cI, 24, .inl SI)), (a3, .inl (cI, 24, .inl LK)), (a6, .inl (cI, 12, .inl PH)), (g0, .inr (5, [.int HM_5, .int OB_6, .int BO_7, .int BM_8, .ref g1, .ref g2, .ref g5])), (g1, .inl (cZ, 7, .inl GM_11)), (g2, .inr (6, [.int gnl_9, .ref g3, .ref g4])), (g3, .inl (cI, 7, .inl (fun zy => nI (NP_12 zy)))), (g4, .inl (cI, 7, .inl (fun zy => nI (NF_13 zy)))), (g5, .inr (6, [.int (nI rl_10), .ref g6, .ref g7])), (g6, .inl (cI, 7, .inl (fun zy => nI (RP_14 zy)))), (g7, .inl (cI, 7, .inl (fun zy => nI (RF_15 zy))))]) [0, 1, 2, 3, 4, 5, 6, 7, 8, 9, 10, 11, 12, 13] rfl
        have hD9 := hD.sub (ws' := [(x, .inr (0, [.ref f0, .ref a0, .ref r0, .ref w0, .ref g0, .ref k0, .int tm, .int gp, .int lk])), (a0, .inr (2, [.int (nI np), .ref a1, .ref a2, .ref a3, .ref a4, .ref a5, .ref a6, .ref a7, .ref a8, .ref a9, .ref a10, .ref a11])), (a1, .inl (cI, 24, .inl (fun zy => nI (EP zy)))), (a2, .inl (cI, 24, .inl SI)), (a3, .inl (cI, 24, .inl LK)), (a6, .inl (cI, 12, .inl PH)), (g0, .inr (5, [.int HM_5, .int OB_6, .int BO_7, .int BM_8, .ref g1, .ref g2, .ref g5])), (g1, .inl (cZ, 7, .inl GM_11)), (g2, .inr (6, [.int gnl_9, .ref g3, .ref g4])), (g3, .inl (cI, 7, .inl (fun zy => nI (NP_12 zy)))), (g4, .inl (cI, 7, .inl (fun zy => nI (NF_13 zy)))), (g5, .inr (6, [.int (nI rl_10), .ref g6, .ref g7])), (g6, .inl (cI, 7, .inl (fun zy => nI (RP_14 zy)))), (g7, .inl (cI, 7, .inl (fun zy => nI (RF_15 zy))))]) [0, 1, 2, 3, 4, 5, 6, 7, 8, 9, 10, 11, 12, 13] (by decide) rfl
        refine W.widen (k := 0) (n := 0) (Nat.le_of_ble_eq_true rfl) (Nat.le_of_ble_eq_true rfl) ?_
        exact W.iret (v := BM_8) hx hb hr (fun tT ht hW => ⟨⟨BM_8, (HM_5, OB_6, BO_7, BM_8, gnl_9, rl_10, GM_11, NP_12, NF_13, RP_14, RF_15), rfl, ⟨hf_15_0, hf_15_1, hf_15_2, hf_15_3, hf_15_4⟩, by rw [ht]; exact hP9, hD9⟩, hS.F ht⟩) hS.2.2 d_PC_ring_87
      by_cases hz_21 : z = 2
      · subst hz_21
        refine lv_tableIn (off := 48) (tgt := 88) hx hb d_PC_ring_40 (by decide) (by decide) (by decide) (by decide) ?_
        refine lv_aload_n hx hb d_PC_ring_88 rfl (lv_at hl 1 rfl) ?_
        refine va_get (D := D) (ci := 0) (v := .ref g0) (C := R_PC) (T := F_PC) (N := 9) hx hb hts i_PC hown hK hP 0 rfl rfl 4 (by decide) (hts _ q_260) (fun _ h9 => h9) rfl d_PC_ring_89 ?_
        refine va_get (D := D) (ci := 5) (v := .ref g5) (C := R_RS) (T := F_RS) (N := 7) hx hb hts i_RS hown hK hP 6 rfl rfl 6 (by decide) (hts _ q_234) (fun _ h9 => h9) rfl d_PC_ring_92 ?_
        refine va_get (D := D) (ci := 6) (v := .int (nI rl_10)) (C := R_RO) (T := F_RO) (N := 3) hx hb hts i_RO hown hK hP 11 rfl rfl 0 (by decide) (hts _ q_174) (fun _ h9 => h9) rfl d_PC_ring_95 ?_
        have hP9 := hP.sub (ws' := [(x, .inr (0, [.ref f0, .ref a0, .ref r0, .ref w0, .ref g0, .ref k0, .int tm, .int gp, .int lk])), (a0, .inr (2, [.int (nI np), .ref a1, .ref a2, .ref a3, .ref a4, .ref a5, .ref a6, .ref a7, .ref a8, .ref a9, .ref a10, .ref a11])), (a1, .inl (cI, 24, .inl (fun zy => nI (EP zy)))), (a2, .inl (cI, 24, .inl SI)), (a3, .inl (cI, 24, .inl LK)), (a6, .inl (cI, 12, .inl PH)), (g0, .inr (5, [.int HM_5, .int OB_6, .int BO_7, .int BM_8, .ref g1, .ref g2, .ref g5])), (g1, .inl (cZ, 7, .inl GM_11)), (g2, .inr (6, [.int gnl_9, .ref g3, .ref g4])), (g3, .inl (cI, 7, .inl (fun zy => nI (NP_12 zy)))), (g4, .inl (cI, 7, .inl (fun zy => nI (NF_13 zy)))), (g5, .inr (6, [.int (nI rl_10), .ref g6, .ref g7])), (g6, .inl (cI, 7, .inl (fun zy => nI (RP_14 zy)))), (g7, .inl (cI, 7, .inl (fun zy => nI (RF_15 zy))))]) [0, 1, 2, 3, 4, 5, 6, 7, 8, 9, 10, 11, 12, 13] rfl
        have hD9 := hD.sub (ws' := [(x, .inr (0, [.ref f0, .ref a0, .ref r0, .ref w0, .ref g0, .ref k0, .int tm, .int gp, .int lk])), (a0, .inr (2, [.int (nI np), .ref a1, .ref a2, .ref a3, .ref a4, .ref a5, .ref a6, .ref a7, .ref a8, .ref a9, .ref a10, .ref a11])), (a1, .inl (cI, 24, .inl (fun zy => nI (EP zy)))), (a2, .inl (cI, 24, .inl SI)), (a3, .inl (cI, 24, .inl LK)), (a6, .inl (cI, 12, .inl PH)), (g0, .inr (5, [.int HM_5, .int OB_6, .int BO_7, .int BM_8, .ref g1, .ref g2, .ref g5])), (g1, .inl (cZ, 7, .inl GM_11)), (g2, .inr (6, [.int gnl_9, .ref g3, .ref g4])), (g3, .inl (cI, 7, .inl (fun zy => nI (NP_12 zy)))), (g4, .inl (cI, 7, .inl (fun zy => nI (NF_13 zy)))), (g5, .inr (6, [.int (nI rl_10), .ref g6, .ref g7])), (g6, .inl (cI, 7, .inl (fun zy => nI (RP_14 zy)))), (g7, .inl (cI, 7, .inl (fun zy => nI (RF_15 zy))))]) [0, 1, 2, 3, 4, 5, 6, 7, 8, 9, 10, 11, 12, 13] (by decide) rfl
        refine W.widen (k := 0) (n := 0) (Nat.le_of_ble_eq_true rfl) (Nat.le_of_ble_eq_true rfl) ?_
        exact W.iret (v := (nI rl_10)) hx hb hr (fun tT ht hW => ⟨⟨(nI rl_10), (HM_5, OB_6, BO_7, BM_8, gnl_9, rl_10, GM_11, NP_12, NF_13, RP_14, RF_15), rfl, ⟨hf_15_0, hf_15_1, hf_15_2, hf_15_3, hf_15_4⟩, by rw [ht]; exact hP9, hD9⟩, hS.F ht⟩) hS.2.2 d_PC_ring_98
      by_cases hz_22 : z = 3
      · subst hz_22
        refine lv_tableIn (off := 59) (tgt := 99) hx hb d_PC_ring_40 (by decide) (by decide) (by decide) (by decide) ?_
        refine lv_iload_n hx hb d_PC_ring_99 rfl (lv_at hl 0 rfl) ?_
        refine lv_if_eq (tgt := 118) hx hb d_PC_ring_100 (by decide) (fun h_23 => ?_) (fun h_23 => ?_)
        · refine lv_iconst (v := (-1)) hx hb d_PC_ring_118 (by decide) ?_
          have hP9 := hP.sub (ws' := [(x, .inr (0, [.ref f0, .ref a0, .ref r0, .ref w0, .ref g0, .ref k0, .int tm, .int gp, .int lk])), (a0, .inr (2, [.int (nI np), .ref a1, .ref a2, .ref a3, .ref a4, .ref a5, .ref a6, .ref a7, .ref a8, .ref a9, .ref a10, .ref a11])), (a1, .inl (cI, 24, .inl (fun zy => nI (EP zy)))), (a2, .inl (cI, 24, .inl SI)), (a3, .inl (cI, 24, .inl LK)), (a6, .inl (cI, 12, .inl PH)), (g0, .inr (5, [.int HM_5, .int OB_6, .int BO_7, .int BM_8, .ref g1, .ref g2, .ref g5])), (g1, .inl (cZ, 7, .inl GM_11)), (g2, .inr (6, [.int gnl_9, .ref g3, .ref g4])), (g3, .inl (cI, 7, .inl (fun zy => nI (NP_12 zy)))), (g4, .inl (cI, 7, .inl (fun zy => nI (NF_13 zy)))), (g5, .inr (6, [.int (nI rl_10), .ref g6, .ref g7])), (g6, .inl (cI, 7, .inl (fun zy => nI (RP_14 zy)))), (g7, .inl (cI, 7, .inl (fun zy => nI (RF_15 zy))))]) [0, 1, 2, 3, 4, 5, 6, 7, 8, 9, 10, 11, 12, 13] rfl
          have hD9 := hD.sub (ws' := [(x, .inr (0, [.ref f0, .ref a0, .ref r0, .ref w0, .ref g0, .ref k0, .int tm, .int gp, .int lk])), (a0, .inr (2, [.int (nI np), .ref a1, .ref a2, .ref a3, .ref a4, .ref a5, .ref a6, .ref a7, .ref a8, .ref a9, .ref a10, .ref a11])), (a1, .inl (cI, 24, .inl (fun zy => nI (EP zy)))), (a2, .inl (cI, 24, .inl SI)), (a3, .inl (cI, 24, .inl LK)), (a6, .inl (cI, 12, .inl PH)), (g0, .inr (5, [.int HM_5, .int OB_6, .int BO_7, .int BM_8, .ref g1, .ref g2, .ref g5])), (g1, .inl (cZ, 7, .inl GM_11)), (g2, .inr (6, [.int gnl_9, .ref g3, .ref g4])), (g3, .inl (cI, 7, .inl (fun zy => nI (NP_12 zy)))), (g4, .inl (cI, 7, .inl (fun zy => nI (NF_13 zy)))), (g5, .inr (6, [.int (nI rl_10), .ref g6, .ref g7])), (g6, .inl (cI, 7, .inl (fun zy => nI (RP_14 zy)))), (g7, .inl (cI, 7, .inl (fun zy => nI (RF_15 zy))))]) [0, 1, 2, 3, 4, 5, 6, 7, 8, 9, 10, 11, 12, 13] (by decide) rfl
          refine W.widen (k := 0) (n := 0) (Nat.le_of_ble_eq_true rfl) (Nat.le_of_ble_eq_true rfl) ?_
          exact W.iret (v := (-1)) hx hb hr (fun tT ht hW => ⟨⟨(-1), (HM_5, OB_6, BO_7, BM_8, gnl_9, rl_10, GM_11, NP_12, NF_13, RP_14, RF_15), rfl, ⟨hf_15_0, hf_15_1, hf_15_2, hf_15_3, hf_15_4⟩, by rw [ht]; exact hP9, hD9⟩, hS.F ht⟩) hS.2.2 d_PC_ring_119
        · obtain ⟨j_24, hx_25, rfl⟩ := isw_nI (by omega) h_23
          refine lv_aload_n hx hb d_PC_ring_103 rfl (lv_at hl 1 rfl) ?_
          refine va_get (D := D) (ci := 0) (v := .ref g0) (C := R_PC) (T := F_PC) (N := 9) hx hb hts i_PC hown hK hP 0 rfl rfl 4 (by decide) (hts _ q_260) (fun _ h9 => h9) rfl d_PC_ring_104 ?_
          refine va_get (D := D) (ci := 5) (v := .ref g5) (C := R_RS) (T := F_RS) (N := 7) hx hb hts i_RS hown hK hP 6 rfl rfl 6 (by decide) (hts _ q_234) (fun _ h9 => h9) rfl d_PC_ring_107 ?_
          refine va_get (D := D) (ci := 6) (v := .ref g6) (C := R_RO) (T := F_RO) (N := 3) hx hb hts i_RO hown hK hP 11 rfl rfl 1 (by decide) (hts _ q_179) (fun _ h9 => h9) rfl d_PC_ring_110 ?_
          refine lv_iload_n hx hb d_PC_ring_113 rfl (lv_at hl 3 rfl) ?_
          refine my_ldN hx hb hK hP 12 rfl j_24 rfl (by omega) (by decide) d_PC_ring_114 ?_
          have hb_1 : RP_14 j_24 ≤ 11 := hf_15_3 _
          refine lv_goto (tgt := 119) hx hb d_PC_ring_115 (by decide) ?_
          have hP9 := hP.sub (ws' := [(x, .inr (0, [.ref f0, .ref a0, .ref r0, .ref w0, .ref g0, .ref k0, .int tm, .int gp, .int lk])), (a0, .inr (2, [.int (nI np), .ref a1, .ref a2, .ref a3, .ref a4, .ref a5, .ref a6, .ref a7, .ref a8, .ref a9, .ref a10, .ref a11])), (a1, .inl (cI, 24, .inl (fun zy => nI (EP zy)))), (a2, .inl (cI, 24, .inl SI)), (a3, .inl (cI, 24, .inl LK)), (a6, .inl (cI, 12, .inl PH)), (g0, .inr (5, [.int HM_5, .int OB_6, .int BO_7, .int BM_8, .ref g1, .ref g2, .ref g5])), (g1, .inl (cZ, 7, .inl GM_11)), (g2, .inr (6, [.int gnl_9, .ref g3, .ref g4])), (g3, .inl (cI, 7, .inl (fun zy => nI (NP_12 zy)))), (g4, .inl (cI, 7, .inl (fun zy => nI (NF_13 zy)))), (g5, .inr (6, [.int (nI rl_10), .ref g6, .ref g7])), (g6, .inl (cI, 7, .inl (fun zy => nI (RP_14 zy)))), (g7, .inl (cI, 7, .inl (fun zy => nI (RF_15 zy))))]) [0, 1, 2, 3, 4, 5, 6, 7, 8, 9, 10, 11, 12, 13] rfl
          have hD9 := hD.sub (ws' := [(x, .inr (0, [.ref f0, .ref a0, .ref r0, .ref w0, .ref g0, .ref k0, .int tm, .int gp, .int lk])), (a0, .inr (2, [.int (nI np), .ref a1, .ref a2, .ref a3, .ref a4, .ref a5, .ref a6, .ref a7, .ref a8, .ref a9, .ref a10, .ref a11])), (a1, .inl (cI, 24, .inl (fun zy => nI (EP zy)))), (a2, .inl (cI, 24, .inl SI)), (a3, .inl (cI, 24, .inl LK)), (a6, .inl (cI, 12, .inl PH)), (g0, .inr (5, [.int HM_5, .int OB_6, .int BO_7, .int BM_8, .ref g1, .ref g2, .ref g5])), (g1, .inl (cZ, 7, .inl GM_11)), (g2, .inr (6, [.int gnl_9, .ref g3, .ref g4])), (g3, .inl (cI, 7, .inl (fun zy => nI (NP_12 zy)))), (g4, .inl (cI, 7, .inl (fun zy => nI (NF_13 zy)))), (g5, .inr (6, [.int (nI rl_10), .ref g6, .ref g7])), (g6, .inl (cI, 7, .inl (fun zy => nI (RP_14 zy)))), (g7, .inl (cI, 7, .inl (fun zy => nI (RF_15 zy))))]) [0, 1, 2, 3, 4, 5, 6, 7, 8, 9, 10, 11, 12, 13] (by decide) rfl
          refine W.widen (k := 0) (n := 0) (Nat.le_of_ble_eq_true rfl) (Nat.le_of_ble_eq_true rfl) ?_
          exact W.iret (v := (nI (RP_14 j_24))) hx hb hr (fun tT ht hW => ⟨⟨(nI (RP_14 j_24)), (HM_5, OB_6, BO_7, BM_8, gnl_9, rl_10, GM_11, NP_12, NF_13, RP_14, RF_15), rfl, ⟨hf_15_0, hf_15_1, hf_15_2, hf_15_3, hf_15_4⟩, by rw [ht]; exact hP9, hD9⟩, hS.F ht⟩) hS.2.2 d_PC_ring_119
      refine lv_tableOut (tgt := 120) hx hb d_PC_ring_40 (tb_out 4 (by decide) (fun j hj => by rcases (show j = 0 ∨ j = 1 ∨ j = 2 ∨ j = 3 by omega) with rfl | rfl | rfl | rfl <;> assumption)) (by decide) ?_
      refine lv_iload_n hx hb d_PC_ring_120 rfl (lv_at hl 0 rfl) ?_
      refine lv_if_eq (tgt := 139) hx hb d_PC_ring_121 (by decide) (fun h_26 => ?_) (fun h_26 => ?_)
      · refine lv_iconst (v := (-1)) hx hb d_PC_ring_139 (by decide) ?_
        have hP9 := hP.sub (ws' := [(x, .inr (0, [.ref f0, .ref a0, .ref r0, .ref w0, .ref g0, .ref k0, .int tm, .int gp, .int lk])), (a0, .inr (2, [.int (nI np), .ref a1, .ref a2, .ref a3, .ref a4, .ref a5, .ref a6, .ref a7, .ref a8, .ref a9, .ref a10, .ref a11])), (a1, .inl (cI, 24, .inl (fun zy => nI (EP zy)))), (a2, .inl (cI, 24, .inl SI)), (a3, .inl (cI, 24, .inl LK)), (a6, .inl (cI, 12, .inl PH)), (g0, .inr (5, [.int HM_5, .int OB_6, .int BO_7, .int BM_8, .ref g1, .ref g2, .ref g5])), (g1, .inl (cZ, 7, .inl GM_11)), (g2, .inr (6, [.int gnl_9, .ref g3, .ref g4])), (g3, .inl (cI, 7, .inl (fun zy => nI (NP_12 zy)))), (g4, .inl (cI, 7, .inl (fun zy => nI (NF_13 zy)))), (g5, .inr (6, [.int (nI rl_10), .ref g6, .ref g7])), (g6, .inl (cI, 7, .inl (fun zy => nI (RP_14 zy)))), (g7, .inl (cI, 7, .inl (fun zy => nI (RF_15 zy))))]) [0, 1, 2, 3, 4, 5, 6, 7, 8, 9, 10, 11, 12, 13] rfl
        have hD9 := hD.sub (ws' := [(x, .inr (0, [.ref f0, .ref a0, .ref r0, .ref w0, .ref g0, .ref k0, .int tm, .int gp, .int lk])), (a0, .inr (2, [.int (nI np), .ref a1, .ref a2, .ref a3, .ref a4, .ref a5, .ref a6, .ref a7, .ref a8, .ref a9, .ref a10, .ref a11])), (a1, .inl (cI, 24, .inl (fun zy => nI (EP zy)))), (a2, .inl (cI, 24, .inl SI)), (a3, .inl (cI, 24, .inl LK)), (a6, .inl (cI, 12, .inl PH)), (g0, .inr (5, [.int HM_5, .int OB_6, .int BO_7, .int BM_8, .ref g1, .ref g2, .ref g5])), (g1, .inl (cZ, 7, .inl GM_11)), (g2, .inr (6, [.int gnl_9, .ref g3, .ref g4])), (g3, .inl (cI, 7, .inl (fun zy => nI (NP_12 zy)))), (g4, .inl (cI, 7, .inl (fun zy => nI (NF_13 zy)))), (g5, .inr (6, [.int (nI rl_10), .ref g6, .ref g7])), (g6, .inl (cI, 7, .inl (fun zy => nI (RP_14 zy)))), (g7, .inl (cI, 7, .inl (fun zy => nI (RF_15 zy))))]) [0, 1, 2, 3, 4, 5, 6, 7, 8, 9, 10, 11, 12, 13] (by decide) rfl
        refine W.widen (k := 0) (n := 0) (Nat.le_of_ble_eq_true rfl) (Nat.le_of_ble_eq_true rfl) ?_
        exact W.iret (v := (-1)) hx hb hr (fun tT ht hW => ⟨⟨(-1), (HM_5, OB_6, BO_7, BM_8, gnl_9, rl_10, GM_11, NP_12, NF_13, RP_14, RF_15), rfl, ⟨hf_15_0, hf_15_1, hf_15_2, hf_15_3, hf_15_4⟩, by rw [ht]; exact hP9, hD9⟩, hS.F ht⟩) hS.2.2 d_PC_ring_140
      · obtain ⟨j_27, hx_28, rfl⟩ := isw_nI (by omega) h_26
        refine lv_aload_n hx hb d_PC_ring_124 rfl (lv_at hl 1 rfl) ?_
        refine va_get (D := D) (ci := 0) (v := .ref g0) (C := R_PC) (T := F_PC) (N := 9) hx hb hts i_PC hown hK hP 0 rfl rfl 4 (by decide) (hts _ q_260) (fun _ h9 => h9) rfl d_PC_ring_125 ?_
        refine va_get (D := D) (ci := 5) (v := .ref g5) (C := R_RS) (T := F_RS) (N := 7) hx hb hts i_RS hown hK hP 6 rfl rfl 6 (by decide) (hts _ q_234) (fun _ h9 => h9) rfl d_PC_ring_128 ?_
        refine va_get (D := D) (ci := 6) (v := .ref g7) (C := R_RO) (T := F_RO) (N := 3) hx hb hts i_RO hown hK hP 11 rfl rfl 2 (by decide) (hts _ q_182) (fun _ h9 => h9) rfl d_PC_ring_131 ?_
        refine lv_iload_n hx hb d_PC_ring_134 rfl (lv_at hl 3 rfl) ?_
        refine my_ldN hx hb hK hP 13 rfl j_27 rfl (by omega) (by decide) d_PC_ring_135 ?_
        have hb_1 : RF_15 j_27 ≤ 1 := hf_15_4 _
        refine lv_goto (tgt := 140) hx hb d_PC_ring_136 (by decide) ?_
        have hP9 := hP.sub (ws' := [(x, .inr (0, [.ref f0, .ref a0, .ref r0, .ref w0, .ref g0, .ref k0, .int tm, .int gp, .int lk])), (a0, .inr (2, [.int (nI np), .ref a1, .ref a2, .ref a3, .ref a4, .ref a5, .ref a6, .ref a7, .ref a8, .ref a9, .ref a10, .ref a11])), (a1, .inl (cI, 24, .inl (fun zy => nI (EP zy)))), (a2, .inl (cI, 24, .inl SI)), (a3, .inl (cI, 24, .inl LK)), (a6, .inl (cI, 12, .inl PH)), (g0, .inr (5, [.int HM_5, .int OB_6, .int BO_7, .int BM_8, .ref g1, .ref g2, .ref g5])), (g1, .inl (cZ, 7, .inl GM_11)), (g2, .inr (6, [.int gnl_9, .ref g3, .ref g4])), (g3, .inl (cI, 7, .inl (fun zy => nI (NP_12 zy)))), (g4, .inl (cI, 7, .inl (fun zy => nI (NF_13 zy)))), (g5, .inr (6, [.int (nI rl_10), .ref g6, .ref g7])), (g6, .inl (cI, 7, .inl (fun zy => nI (RP_14 zy)))), (g7, .inl (cI, 7, .inl (fun zy => nI (RF_15 zy))))]) [0, 1, 2, 3, 4, 5, 6, 7, 8, 9, 10, 11, 12, 13] rfl
        have hD9 := hD.sub (ws' := [(x, .inr (0, [.ref f0, .ref a0, .ref r0, .ref w0, .ref g0, .ref k0, .int tm, .int gp, .int lk])), (a0, .inr (2, [.int (nI np), .ref a1, .ref a2, .ref a3, .ref a4, .ref a5, .ref a6, .ref a7, .ref a8, .ref a9, .ref a10, .ref a11])), (a1, .inl (cI, 24, .inl (fun zy => nI (EP zy)))), (a2, .inl (cI, 24, .inl SI)), (a3, .inl (cI, 24, .inl LK)), (a6, .inl (cI, 12, .inl PH)), (g0, .inr (5, [.int HM_5, .int OB_6, .int BO_7, .int BM_8, .ref g1, .ref g2, .ref g5])), (g1, .inl (cZ, 7, .inl GM_11)), (g2, .inr (6, [.int gnl_9, .ref g3, .ref g4])), (g3, .inl (cI, 7, .inl (fun zy => nI (NP_12 zy)))), (g4, .inl (cI, 7, .inl (fun zy => nI (NF_13 zy)))), (g5, .inr (6, [.int (nI rl_10), .ref g6, .ref g7])), (g6, .inl (cI, 7, .inl (fun zy => nI (RP_14 zy)))), (g7, .inl (cI, 7, .inl (fun zy => nI (RF_15 zy))))]) [0, 1, 2, 3, 4, 5, 6, 7, 8, 9, 10, 11, 12, 13] (by decide) rfl
        refine W.widen (k := 0) (n := 0) (Nat.le_of_ble_eq_true rfl) (Nat.le_of_ble_eq_true rfl) ?_
        exact W.iret (v := (nI (RF_15 j_27))) hx hb hr (fun tT ht hW => ⟨⟨(nI (RF_15 j_27)), (HM_5, OB_6, BO_7, BM_8, gnl_9, rl_10, GM_11, NP_12, NF_13, RP_14, RF_15), rfl, ⟨hf_15_0, hf_15_1, hf_15_2, hf_15_3, hf_15_4⟩, by rw [ht]; exact hP9, hD9⟩, hS.F ht⟩) hS.2.2 d_PC_ring_140
  · refine lv_bipush (v := (-2)) hx hb d_PC_ring_9 (by decide) ?_
    have hP9 := hP.sub (ws' := [(x, .inr (0, [.ref f0, .ref a0, .ref r0, .ref w0, .ref g0, .ref k0, .int tm, .int gp, .int lk])), (a0, .inr (2, [.int (nI np), .ref a1, .ref a2, .ref a3, .ref a4, .ref a5, .ref a6, .ref a7, .ref a8, .ref a9, .ref a10, .ref a11])), (a1, .inl (cI, 24, .inl (fun zy => nI (EP zy)))), (a2, .inl (cI, 24, .inl SI)), (a3, .inl (cI, 24, .inl LK)), (a6, .inl (cI, 12, .inl PH)), (g0, .inr (5, [.int HM, .int OB, .int BO, .int BM, .ref g1, .ref g2, .ref g5])), (g1, .inl (cZ, 7, .inl GM)), (g2, .inr (6, [.int gnl, .ref g3, .ref g4])), (g3, .inl (cI, 7, .inl (fun zy => nI (NP zy)))), (g4, .inl (cI, 7, .inl (fun zy => nI (NF zy)))), (g5, .inr (6, [.int (nI rl), .ref g6, .ref g7])), (g6, .inl (cI, 7, .inl (fun zy => nI (RP zy)))), (g7, .inl (cI, 7, .inl (fun zy => nI (RF zy))))]) [0, 1, 2, 3, 4, 5, 6, 7, 8, 9, 10, 11, 12, 13] rfl
    have hD9 := hD.sub (ws' := [(x, .inr (0, [.ref f0, .ref a0, .ref r0, .ref w0, .ref g0, .ref k0, .int tm, .int gp, .int lk])), (a0, .inr (2, [.int (nI np), .ref a1, .ref a2, .ref a3, .ref a4, .ref a5, .ref a6, .ref a7, .ref a8, .ref a9, .ref a10, .ref a11])), (a1, .inl (cI, 24, .inl (fun zy => nI (EP zy)))), (a2, .inl (cI, 24, .inl SI)), (a3, .inl (cI, 24, .inl LK)), (a6, .inl (cI, 12, .inl PH)), (g0, .inr (5, [.int HM, .int OB, .int BO, .int BM, .ref g1, .ref g2, .ref g5])), (g1, .inl (cZ, 7, .inl GM)), (g2, .inr (6, [.int gnl, .ref g3, .ref g4])), (g3, .inl (cI, 7, .inl (fun zy => nI (NP zy)))), (g4, .inl (cI, 7, .inl (fun zy => nI (NF zy)))), (g5, .inr (6, [.int (nI rl), .ref g6, .ref g7])), (g6, .inl (cI, 7, .inl (fun zy => nI (RP zy)))), (g7, .inl (cI, 7, .inl (fun zy => nI (RF zy))))]) [0, 1, 2, 3, 4, 5, 6, 7, 8, 9, 10, 11, 12, 13] (by decide) rfl
    refine W.widen (k := 0) (n := 0) (Nat.le_of_ble_eq_true rfl) (Nat.le_of_ble_eq_true rfl) ?_
    exact W.iret (v := (-2)) hx hb hr (fun tT ht hW => ⟨⟨(-2), (HM, OB, BO, BM, gnl, rl, GM, NP, NF, RP, RF), rfl, ⟨h_rl, h_NP, h_NF, h_RP, h_RF⟩, by rw [ht]; exact hP9, hD9⟩, hS.F ht⟩) hS.2.2 d_PC_ring_11

set_option maxHeartbeats 4000000 in
set_option maxRecDepth 100000 in
theorem g_PC_even (l : Launch) (D : va_G) (cI cZ : ClassId) (x : Nat) (f0 : Nat) (a0 : Nat) (r0 : Nat) (w0 : Nat) (g0 : Nat) (k0 : Nat) (tm : Int32) (gp : Int32) (lk : Int32) (np : Nat) (a1 : Nat) (a2 : Nat) (a3 : Nat) (a4 : Nat) (a5 : Nat) (a6 : Nat) (a7 : Nat) (a8 : Nat) (a9 : Nat) (a10 : Nat) (a11 : Nat) (EP : Nat → Nat) (SI : Nat → Int32) (LK : Nat → Int32) (PH : Nat → Int32) (HM : Int32) (OB : Int32) (BO : Int32) (BM : Int32) (g1 : Nat) (g2 : Nat) (g5 : Nat) (GM : Nat → Int32) (gnl : Int32) (g3 : Nat) (g4 : Nat) (NP : Nat → Nat) (NF : Nat → Nat) (rl : Nat) (g6 : Nat) (g7 : Nat) (RP : Nat → Nat) (RF : Nat → Nat) (SS : Nat → Int32) (ST : Nat → Nat) (LE : Nat → Int32) (GR : Nat → Int32) (sz : Nat) (h_np : np ≤ 12) (h_EP : ∀ zz, EP zz ≤ 6) (h_NP : ∀ zz, NP zz ≤ 11) (h_NF : ∀ zz, NF zz ≤ 1) (h_rl : rl ≤ 7) (h_RP : ∀ zz, RP zz ≤ 11) (h_RF : ∀ zz, RF zz ≤ 1) (h_ST : ∀ zz, ST zz ≤ 64) (h_st : ∀ qq, qq < np → 1 ≤ ST qq) : Met l ⟨"PromiseChains", "even", "()I"⟩ (mw ⟨"PromiseChains", "even", "()I"⟩ prog_1_method_22_code 2 (some .int)) ({ frames := 11, cells := 0, slots := 0, locals := 275 }) (va_Pc [.ref x] (PB D cI cZ sz [(x, .inr (0, [.ref f0, .ref a0, .ref r0, .ref w0, .ref g0, .ref k0, .int tm, .int gp, .int lk])), (a0, .inr (2, [.int (nI np), .ref a1, .ref a2, .ref a3, .ref a4, .ref a5, .ref a6, .ref a7, .ref a8, .ref a9, .ref a10, .ref a11])), (a1, .inl (cI, 24, .inl (fun zy => nI (EP zy)))), (a2, .inl (cI, 24, .inl SI)), (a3, .inl (cI, 24, .inl LK)), (a6, .inl (cI, 12, .inl PH)), (g0, .inr (5, [.int HM, .int OB, .int BO, .int BM, .ref g1, .ref g2, .ref g5])), (g1, .inl (cZ, 7, .inl GM)), (g2, .inr (6, [.int gnl, .ref g3, .ref g4])), (g3, .inl (cI, 7, .inl (fun zy => nI (NP zy)))), (g4, .inl (cI, 7, .inl (fun zy => nI (NF zy)))), (g5, .inr (6, [.int (nI rl), .ref g6, .ref g7])), (g6, .inl (cI, 7, .inl (fun zy => nI (RP zy)))), (g7, .inl (cI, 7, .inl (fun zy => nI (RF zy)))), (a4, .inl (cI, 1536, .inl SS)), (a5, .inl (cI, 12, .inl (fun zy => nI (ST zy)))), (a10, .inl (cI, 12, .inl LE)), (a11, .inl (cI, 12, .inl GR))])) (va_Qi (S := Int32 × Int32 × Int32 × Int32 × Int32 × Nat × (Nat → Int32) × (Nat → Nat) × (Nat → Nat) × (Nat → Nat) × (Nat → Nat) × (Nat → Int32) × (Nat → Int32) × (Nat → Nat) × (Nat → Int32) × (Nat → Int32)) (fun (r : Int32) uU => (uU.2.2.2.2.2.1 ≤ 7) ∧ (∀ zz, uU.2.2.2.2.2.2.2.1 zz ≤ 11) ∧ (∀ zz, uU.2.2.2.2.2.2.2.2.1 zz ≤ 1) ∧ (∀ zz, uU.2.2.2.2.2.2.2.2.2.1 zz ≤ 11) ∧ (∀ zz, uU.2.2.2.2.2.2.2.2.2.2.1 zz ≤ 1) ∧ (∀ zz, uU.2.2.2.2.2.2.2.2.2.2.2.2.2.1 zz ≤ 64) ∧ (∀ qq, qq < np → 1 ≤ uU.2.2.2.2.2.2.2.2.2.2.2.2.2.1 qq)) (fun uU tT => BB D (va_A [(x, .inr (0, [.ref f0, .ref a0, .ref r0, .ref w0, .ref g0, .ref k0, .int tm, .int gp, .int lk])), (a0, .inr (2, [.int (nI np), .ref a1, .ref a2, .ref a3, .ref a4, .ref a5, .ref a6, .ref a7, .ref a8, .ref a9, .ref a10, .ref a11])), (a1, .inl (cI, 24, .inl (fun zy => nI (EP zy)))), (a2, .inl (cI, 24, .inl SI)), (a3, .inl (cI, 24, .inl LK)), (a6, .inl (cI, 12, .inl PH)), (g0, .inr (5, [.int HM, .int OB, .int BO, .int BM, .ref g1, .ref g2, .ref g5])), (g1, .inl (cZ, 7, .inl GM)), (g2, .inr (6, [.int gnl, .ref g3, .ref g4])), (g3, .inl (cI, 7, .inl (fun zy => nI (NP zy)))), (g4, .inl (cI, 7, .inl (fun zy => nI (NF zy)))), (g5, .inr (6, [.int (nI rl), .ref g6, .ref g7])), (g6, .inl (cI, 7, .inl (fun zy => nI (RP zy)))), (g7, .inl (cI, 7, .inl (fun zy => nI (RF zy)))), (a4, .inl (cI, 1536, .inl SS)), (a5, .inl (cI, 12, .inl (fun zy => nI (ST zy)))), (a10, .inl (cI, 12, .inl LE)), (a11, .inl (cI, 12, .inl GR))] sz) [(x, .inr (0, [.ref f0, .ref a0, .ref r0, .ref w0, .ref g0, .ref k0, .int tm, .int gp, .int lk])), (a0, .inr (2, [.int (nI np), .ref a1, .ref a2, .ref a3, .ref a4, .ref a5, .ref a6, .ref a7, .ref a8, .ref a9, .ref a10, .ref a11])), (a1, .inl (cI, 24, .inl (fun zy => nI (EP zy)))), (a2, .inl (cI, 24, .inl (uU.2.2.2.2.2.2.2.2.2.2.2.1))), (a3, .inl (cI, 24, .inl LK)), (a6, .inl (cI, 12, .inl PH)), (g0, .inr (5, [.int (uU.1), .int (uU.2.1), .int (uU.2.2.1), .int (uU.2.2.2.1), .ref g1, .ref g2, .ref g5])), (g1, .inl (cZ, 7, .inl (uU.2.2.2.2.2.2.1))), (g2, .inr (6, [.int (uU.2.2.2.2.1), .ref g3, .ref g4])), (g3, .inl (cI, 7, .inl (fun zy => nI ((uU.2.2.2.2.2.2.2.1) zy)))), (g4, .inl (cI, 7, .inl (fun zy => nI ((uU.2.2.2.2.2.2.2.2.1) zy)))), (g5, .inr (6, [.int (nI uU.2.2.2.2.2.1), .ref g6, .ref g7])), (g6, .inl (cI, 7, .inl (fun zy => nI ((uU.2.2.2.2.2.2.2.2.2.1) zy)))), (g7, .inl (cI, 7, .inl (fun zy => nI ((uU.2.2.2.2.2.2.2.2.2.2.1) zy)))), (a4, .inl (cI, 1536, .inl (uU.2.2.2.2.2.2.2.2.2.2.2.2.1))), (a5, .inl (cI, 12, .inl (fun zy => nI ((uU.2.2.2.2.2.2.2.2.2.2.2.2.2.1) zy)))), (a10, .inl (cI, 12, .inl (uU.2.2.2.2.2.2.2.2.2.2.2.2.2.2.1))), (a11, .inl (cI, 12, .inl (uU.2.2.2.2.2.2.2.2.2.2.2.2.2.2.2)))] tT) (va_A [(x, .inr (0, [.ref f0, .ref a0, .ref r0, .ref w0, .ref g0, .ref k0, .int tm, .int gp, .int lk])), (a0, .inr (2, [.int (nI np), .ref a1, .ref a2, .ref a3, .ref a4, .ref a5, .ref a6, .ref a7, .ref a8, .ref a9, .ref a10, .ref a11])), (a1, .inl (cI, 24, .inl (fun zy => nI (EP zy)))), (a2, .inl (cI, 24, .inl SI)), (a3, .inl (cI, 24, .inl LK)), (a6, .inl (cI, 12, .inl PH)), (g0, .inr (5, [.int HM, .int OB, .int BO, .int BM, .ref g1, .ref g2, .ref g5])), (g1, .inl (cZ, 7, .inl GM)), (g2, .inr (6, [.int gnl, .ref g3, .ref g4])), (g3, .inl (cI, 7, .inl (fun zy => nI (NP zy)))), (g4, .inl (cI, 7, .inl (fun zy => nI (NF zy)))), (g5, .inr (6, [.int (nI rl), .ref g6, .ref g7])), (g6, .inl (cI, 7, .inl (fun zy => nI (RP zy)))), (g7, .inl (cI, 7, .inl (fun zy => nI (RF zy)))), (a4, .inl (cI, 1536, .inl SS)), (a5, .inl (cI, 12, .inl (fun zy => nI (ST zy)))), (a10, .inl (cI, 12, .inl LE)), (a11, .inl (cI, 12, .inl GR))] sz)) 0 0 (va_A [(x, .inr (0, [.ref f0, .ref a0, .ref r0, .ref w0, .ref g0, .ref k0, .int tm, .int gp, .int lk])), (a0, .inr (2, [.int (nI np), .ref a1, .ref a2, .ref a3, .ref a4, .ref a5, .ref a6, .ref a7, .ref a8, .ref a9, .ref a10, .ref a11])), (a1, .inl (cI, 24, .inl (fun zy => nI (EP zy)))), (a2, .inl (cI, 24, .inl SI)), (a3, .inl (cI, 24, .inl LK)), (a6, .inl (cI, 12, .inl PH)), (g0, .inr (5, [.int HM, .int OB, .int BO, .int BM, .ref g1, .ref g2, .ref g5])), (g1, .inl (cZ, 7, .inl GM)), (g2, .inr (6, [.int gnl, .ref g3, .ref g4])), (g3, .inl (cI, 7, .inl (fun zy => nI (NP zy)))), (g4, .inl (cI, 7, .inl (fun zy => nI (NF zy)))), (g5, .inr (6, [.int (nI rl), .ref g6, .ref g7])), (g6, .inl (cI, 7, .inl (fun zy => nI (RP zy)))), (g7, .inl (cI, 7, .inl (fun zy => nI (RF zy)))), (a4, .inl (cI, 1536, .inl SS)), (a5, .inl (cI, 12, .inl (fun zy => nI (ST zy)))), (a10, .inl (cI, 12, .inl LE)), (a11, .inl (cI, 12, .inl GR))] sz) := by
  refine Met.ofW (cc := prog_1_method_22_code) (maxL := 2) (ret := (some .int)) (by decide) rfl ?_
  intro p e s m args below meth c s₁ B hml hv
  obtain ⟨rfl, hsz, hP, hK, hD0, hN⟩ := hv
  have hx := B.exec
  have hb := B.bytes
  have hr := B.returns
  have hts0 := atoms_spec (ws := mw ⟨"PromiseChains", "even", "()I"⟩ prog_1_method_22_code 2 (some .int)) B.pre
  have hts : ∀ w ∈ tblG, w.before _ s = true := fun w h => hts0 w (List.mem_cons_of_mem _ h)
  have hown : s.vm.findClass "PromiseChains" = some m.cls := findClass_of_methodNamed B.named
  have hlocks := B.notSynchronized
  subst hsz
  have hD := hD0.self (sz := s.heap.size)
  generalize hAe : va_A [(x, .inr (0, [.ref f0, .ref a0, .ref r0, .ref w0, .ref g0, .ref k0, .int tm, .int gp, .int lk])), (a0, .inr (2, [.int (nI np), .ref a1, .ref a2, .ref a3, .ref a4, .ref a5, .ref a6, .ref a7, .ref a8, .ref a9, .ref a10, .ref a11])), (a1, .inl (cI, 24, .inl (fun zy => nI (EP zy)))), (a2, .inl (cI, 24, .inl SI)), (a3, .inl (cI, 24, .inl LK)), (a6, .inl (cI, 12, .inl PH)), (g0, .inr (5, [.int HM, .int OB, .int BO, .int BM, .ref g1, .ref g2, .ref g5])), (g1, .inl (cZ, 7, .inl GM)), (g2, .inr (6, [.int gnl, .ref g3, .ref g4])), (g3, .inl (cI, 7, .inl (fun zy => nI (NP zy)))), (g4, .inl (cI, 7, .inl (fun zy => nI (NF zy)))), (g5, .inr (6, [.int (nI rl), .ref g6, .ref g7])), (g6, .inl (cI, 7, .inl (fun zy => nI (RP zy)))), (g7, .inl (cI, 7, .inl (fun zy => nI (RF zy)))), (a4, .inl (cI, 1536, .inl SS)), (a5, .inl (cI, 12, .inl (fun zy => nI (ST zy)))), (a10, .inl (cI, 12, .inl LE)), (a11, .inl (cI, 12, .inl GR))] s.heap.size = A at hD ⊢
  have hA : ∀ q : Nat, s.heap.size ≤ q → A q := fun q h => by rw [← hAe]; exact Or.inr h
  have hS : va_S A s.heap s.heap [] := va_S.rf
  have hP : va_P D vwCl [(x, .inr (0, [.ref f0, .ref a0, .ref r0, .ref w0, .ref g0, .ref k0, .int tm, .int gp, .int lk])), (a0, .inr (2, [.int (nI np), .ref a1, .ref a2, .ref a3, .ref a4, .ref a5, .ref a6, .ref a7, .ref a8, .ref a9, .ref a10, .ref a11])), (a1, .inl (cI, 24, .inl (fun zy => nI (EP zy)))), (a2, .inl (cI, 24, .inl SI)), (a3, .inl (cI, 24, .inl LK)), (a6, .inl (cI, 12, .inl PH)), (g0, .inr (5, [.int HM, .int OB, .int BO, .int BM, .ref g1, .ref g2, .ref g5])), (g1, .inl (cZ, 7, .inl GM)), (g2, .inr (6, [.int gnl, .ref g3, .ref g4])), (g3, .inl (cI, 7, .inl (fun zy => nI (NP zy)))), (g4, .inl (cI, 7, .inl (fun zy => nI (NF zy)))), (g5, .inr (6, [.int (nI rl), .ref g6, .ref g7])), (g6, .inl (cI, 7, .inl (fun zy => nI (RP zy)))), (g7, .inl (cI, 7, .inl (fun zy => nI (RF zy)))), (a4, .inl (cI, 1536, .inl SS)), (a5, .inl (cI, 12, .inl (fun zy => nI (ST zy)))), (a10, .inl (cI, 12, .inl LE)), (a11, .inl (cI, 12, .inl GR))] s.heap := hP
  have hl := lv_entry ([.ref x]) (n := 2) (Nat.le_of_ble_eq_true rfl)
  rw [lg_entry_eq]
  generalize (lg_sl ([.ref x]) ++ List.replicate (2 - (lg_sl ([.ref x])).length) Slot.unset).toArray = ls at hl ⊢
  have hl : lv_has ls 2 [(0, .ref x)] := hl
  refine lv_aload_n hx hb d_PC_even_0 rfl (lv_at hl 0 rfl) ?_
  have hPc := hP.sub (ws' := [(x, .inr (0, [.ref f0, .ref a0, .ref r0, .ref w0, .ref g0, .ref k0, .int tm, .int gp, .int lk])), (a0, .inr (2, [.int (nI np), .ref a1, .ref a2, .ref a3, .ref a4, .ref a5, .ref a6, .ref a7, .ref a8, .ref a9, .ref a10, .ref a11])), (a1, .inl (cI, 24, .inl (fun zy => nI (EP zy)))), (a2, .inl (cI, 24, .inl SI)), (a3, .inl (cI, 24, .inl LK)), (a6, .inl (cI, 12, .inl PH)), (g0, .inr (5, [.int HM, .int OB, .int BO, .int BM, .ref g1, .ref g2, .ref g5])), (g1, .inl (cZ, 7, .inl GM)), (g2, .inr (6, [.int gnl, .ref g3, .ref g4])), (g3, .inl (cI, 7, .inl (fun zy => nI (NP zy)))), (g4, .inl (cI, 7, .inl (fun zy => nI (NF zy)))), (g5, .inr (6, [.int (nI rl), .ref g6, .ref g7])), (g6, .inl (cI, 7, .inl (fun zy => nI (RP zy)))), (g7, .inl (cI, 7, .inl (fun zy => nI (RF zy))))]) [0, 1, 2, 3, 4, 5, 6, 7, 8, 9, 10, 11, 12, 13] rfl
  have hDc := hD.sub (ws' := [(x, .inr (0, [.ref f0, .ref a0, .ref r0, .ref w0, .ref g0, .ref k0, .int tm, .int gp, .int lk])), (a0, .inr (2, [.int (nI np), .ref a1, .ref a2, .ref a3, .ref a4, .ref a5, .ref a6, .ref a7, .ref a8, .ref a9, .ref a10, .ref a11])), (a1, .inl (cI, 24, .inl (fun zy => nI (EP zy)))), (a2, .inl (cI, 24, .inl SI)), (a3, .inl (cI, 24, .inl LK)), (a6, .inl (cI, 12, .inl PH)), (g0, .inr (5, [.int HM, .int OB, .int BO, .int BM, .ref g1, .ref g2, .ref g5])), (g1, .inl (cZ, 7, .inl GM)), (g2, .inr (6, [.int gnl, .ref g3, .ref g4])), (g3, .inl (cI, 7, .inl (fun zy => nI (NP zy)))), (g4, .inl (cI, 7, .inl (fun zy => nI (NF zy)))), (g5, .inr (6, [.int (nI rl), .ref g6, .ref g7])), (g6, .inl (cI, 7, .inl (fun zy => nI (RP zy)))), (g7, .inl (cI, 7, .inl (fun zy => nI (RF zy))))]) [0, 1, 2, 3, 4, 5, 6, 7, 8, 9, 10, 11, 12, 13] (by decide) rfl
  have hFc := va_free (wc := [(x, .inr (0, [.ref f0, .ref a0, .ref r0, .ref w0, .ref g0, .ref k0, .int tm, .int gp, .int lk])), (a0, .inr (2, [.int (nI np), .ref a1, .ref a2, .ref a3, .ref a4, .ref a5, .ref a6, .ref a7, .ref a8, .ref a9, .ref a10, .ref a11])), (a1, .inl (cI, 24, .inl (fun zy => nI (EP zy)))), (a2, .inl (cI, 24, .inl SI)), (a3, .inl (cI, 24, .inl LK)), (a6, .inl (cI, 12, .inl PH)), (g0, .inr (5, [.int HM, .int OB, .int BO, .int BM, .ref g1, .ref g2, .ref g5])), (g1, .inl (cZ, 7, .inl GM)), (g2, .inr (6, [.int gnl, .ref g3, .ref g4])), (g3, .inl (cI, 7, .inl (fun zy => nI (NP zy)))), (g4, .inl (cI, 7, .inl (fun zy => nI (NF zy)))), (g5, .inr (6, [.int (nI rl), .ref g6, .ref g7])), (g6, .inl (cI, 7, .inl (fun zy => nI (RP zy)))), (g7, .inl (cI, 7, .inl (fun zy => nI (RF zy))))]) hD hS hA [0, 1, 2, 3, 4, 5, 6, 7, 8, 9, 10, 11, 12, 13] rfl
  refine va_calli (va_runV (As := []) (rest := []) ⟨hx, hb, hml, hown, hts⟩ (g_PC_findRing l D cI cZ x f0 a0 r0 w0 g0 k0 tm gp lk np a1 a2 a3 a4 a5 a6 a7 a8 a9 a10 a11 EP SI LK PH HM OB BO BM g1 g2 g5 GM gnl g3 g4 NP NF rl g6 g7 RP RF s.heap.size h_np h_EP h_NP h_NF h_rl h_RP h_RF) (my_cwV 0 hts q_536 q_533 q_535 q_p3 q_1 rfl rfl (by decide +kernel) ⟨Nat.le_of_ble_eq_true rfl, Nat.le_of_ble_eq_true rfl⟩) (my_preV hPc hDc hK hN 0 0 rfl rfl) rfl rfl hl.1 rfl (lv_room (Nat.le_of_ble_eq_true rfl)) d_PC_even_1 ⟨Nat.le_of_ble_eq_true rfl, Nat.le_of_ble_eq_true rfl⟩) hS (fun q _ h => hFc q h) hFc (fun r_1 uU tT H_2 locs ht hvm hw_1 hB hz1 hk1 hS => ?_)
  obtain ⟨HM_3, OB_4, BO_5, BM_6, gnl_7, rl_8, GM_9, NP_10, NF_11, RP_12, RF_13⟩ := uU
  obtain ⟨hP1, hD1⟩ := hB
  rw [ht] at hP1
  obtain ⟨hP, hD⟩ := va_join (wr := [(a4, .inl (cI, 1536, .inl SS)), (a5, .inl (cI, 12, .inl (fun zy => nI (ST zy)))), (a10, .inl (cI, 12, .inl LE)), (a11, .inl (cI, 12, .inl GR))]) (w1 := [(x, .inr (0, [.ref f0, .ref a0, .ref r0, .ref w0, .ref g0, .ref k0, .int tm, .int gp, .int lk])), (a0, .inr (2, [.int (nI np), .ref a1, .ref a2, .ref a3, .ref a4, .ref a5, .ref a6, .ref a7, .ref a8, .ref a9, .ref a10, .ref a11])), (a1, .inl (cI, 24, .inl (fun zy => nI (EP zy)))), (a2, .inl (cI, 24, .inl SI)), (a3, .inl (cI, 24, .inl LK)), (a6, .inl (cI, 12, .inl PH)), (g0, .inr (5, [.int HM_3, .int OB_4, .int BO_5, .int BM_6, .ref g1, .ref g2, .ref g5])), (g1, .inl (cZ, 7, .inl GM_9)), (g2, .inr (6, [.int gnl_7, .ref g3, .ref g4])), (g3, .inl (cI, 7, .inl (fun zy => nI (NP_10 zy)))), (g4, .inl (cI, 7, .inl (fun zy => nI (NF_11 zy)))), (g5, .inr (6, [.int (nI rl_8), .ref g6, .ref g7])), (g6, .inl (cI, 7, .inl (fun zy => nI (RP_12 zy)))), (g7, .inl (cI, 7, .inl (fun zy => nI (RF_13 zy))))]) hP hD [0, 1, 2, 3, 4, 5, 6, 7, 8, 9, 10, 11, 12, 13] [14, 15, 16, 17] rfl rfl (by decide) (by decide) hk1 hFc hP1 hD1
  have hP : va_P D vwCl [(a4, .inl (cI, 1536, .inl SS)), (a5, .inl (cI, 12, .inl (fun zy => nI (ST zy)))), (a10, .inl (cI, 12, .inl LE)), (a11, .inl (cI, 12, .inl GR)), (x, .inr (0, [.ref f0, .ref a0, .ref r0, .ref w0, .ref g0, .ref k0, .int tm, .int gp, .int lk])), (a0, .inr (2, [.int (nI np), .ref a1, .ref a2, .ref a3, .ref a4, .ref a5, .ref a6, .ref a7, .ref a8, .ref a9, .ref a10, .ref a11])), (a1, .inl (cI, 24, .inl (fun zy => nI (EP zy)))), (a2, .inl (cI, 24, .inl SI)), (a3, .inl (cI, 24, .inl LK)), (a6, .inl (cI, 12, .inl PH)), (g0, .inr (5, [.int HM_3, .int OB_4, .int BO_5, .int BM_6, .ref g1, .ref g2, .ref g5])), (g1, .inl (cZ, 7, .inl GM_9)), (g2, .inr (6, [.int gnl_7, .ref g3, .ref g4])), (g3, .inl (cI, 7, .inl (fun zy => nI (NP_10 zy)))), (g4, .inl (cI, 7, .inl (fun zy => nI (NF_11 zy)))), (g5, .inr (6, [.int (nI rl_8), .ref g6, .ref g7])), (g6, .inl (cI, 7, .inl (fun zy => nI (RP_12 zy)))), (g7, .inl (cI, 7, .inl (fun zy => nI (RF_13 zy))))] H_2 := hP
  have hD : va_D A [(a4, .inl (cI, 1536, .inl SS)), (a5, .inl (cI, 12, .inl (fun zy => nI (ST zy)))), (a10, .inl (cI, 12, .inl LE)), (a11, .inl (cI, 12, .inl GR)), (x, .inr (0, [.ref f0, .ref a0, .ref r0, .ref w0, .ref g0, .ref k0, .int tm, .int gp, .int lk])), (a0, .inr (2, [.int (nI np), .ref a1, .ref a2, .ref a3, .ref a4, .ref a5, .ref a6, .ref a7, .ref a8, .ref a9, .ref a10, .ref a11])), (a1, .inl (cI, 24, .inl (fun zy => nI (EP zy)))), (a2, .inl (cI, 24, .inl SI)), (a3, .inl (cI, 24, .inl LK)), (a6, .inl (cI, 12, .inl PH)), (g0, .inr (5, [.int HM_3, .int OB_4, .int BO_5, .int BM_6, .ref g1, .ref g2, .ref g5])), (g1, .inl (cZ, 7, .inl GM_9)), (g2, .inr (6, [.int gnl_7, .ref g3, .ref g4])), (g3, .inl (cI, 7, .inl (fun zy => nI (NP_10 zy)))), (g4, .inl (cI, 7, .inl (fun zy => nI (NF_11 zy)))), (g5, .inr (6, [.int (nI rl_8), .ref g6, .ref g7])), (g6, .inl (cI, 7, .inl (fun zy => nI (RP_12 zy)))), (g7, .inl (cI, 7, .inl (fun zy => nI (RF_13 zy))))] := hD
  have hw_1 : (rl_8 ≤ 7) ∧ (∀ zz, NP_10 zz ≤ 11) ∧ (∀ zz, NF_11 zz ≤ 1) ∧ (∀ zz, RP_12 zz ≤ 11) ∧ (∀ zz, RF_13 zz ≤ 1) ∧ ((r_1 = 0) ∨ (r_1 = 1)) := hw_1
  obtain ⟨hf_13_0, hf_13_1, hf_13_2, hf_13_3, hf_13_4, hw_1⟩ := hw_1
  have hf_13_0 : rl_8 ≤ 7 := hf_13_0
  have hf_13_1 : ∀ zz, NP_10 zz ≤ 11 := hf_13_1
  have hf_13_2 : ∀ zz, NF_11 zz ≤ 1 := hf_13_2
  have hf_13_3 : ∀ zz, RP_12 zz ≤ 11 := hf_13_3
  have hf_13_4 : ∀ zz, RF_13 zz ≤ 1 := hf_13_4
  rcases hw_1 with rfl | rfl
  · refine lv_if_ne (tgt := 10) hx hb d_PC_even_4 (by decide) (fun h => absurd h (by decide)) (fun _ => ?_)
    refine lv_bipush (v := (-3)) hx hb d_PC_even_7 (by decide) ?_
    have hP9 := hP.sub (ws' := [(x, .inr (0, [.ref f0, .ref a0, .ref r0, .ref w0, .ref g0, .ref k0, .int tm, .int gp, .int lk])), (a0, .inr (2, [.int (nI np), .ref a1, .ref a2, .ref a3, .ref a4, .ref a5, .ref a6, .ref a7, .ref a8, .ref a9, .ref a10, .ref a11])), (a1, .inl (cI, 24, .inl (fun zy => nI (EP zy)))), (a2, .inl (cI, 24, .inl SI)), (a3, .inl (cI, 24, .inl LK)), (a6, .inl (cI, 12, .inl PH)), (g0, .inr (5, [.int HM_3, .int OB_4, .int BO_5, .int BM_6, .ref g1, .ref g2, .ref g5])), (g1, .inl (cZ, 7, .inl GM_9)), (g2, .inr (6, [.int gnl_7, .ref g3, .ref g4])), (g3, .inl (cI, 7, .inl (fun zy => nI (NP_10 zy)))), (g4, .inl (cI, 7, .inl (fun zy => nI (NF_11 zy)))), (g5, .inr (6, [.int (nI rl_8), .ref g6, .ref g7])), (g6, .inl (cI, 7, .inl (fun zy => nI (RP_12 zy)))), (g7, .inl (cI, 7, .inl (fun zy => nI (RF_13 zy)))), (a4, .inl (cI, 1536, .inl SS)), (a5, .inl (cI, 12, .inl (fun zy => nI (ST zy)))), (a10, .inl (cI, 12, .inl LE)), (a11, .inl (cI, 12, .inl GR))]) [4, 5, 6, 7, 8, 9, 10, 11, 12, 13, 14, 15, 16, 17, 0, 1, 2, 3] rfl
    have hD9 := hD.sub (ws' := [(x, .inr (0, [.ref f0, .ref a0, .ref r0, .ref w0, .ref g0, .ref k0, .int tm, .int gp, .int lk])), (a0, .inr (2, [.int (nI np), .ref a1, .ref a2, .ref a3, .ref a4, .ref a5, .ref a6, .ref a7, .ref a8, .ref a9, .ref a10, .ref a11])), (a1, .inl (cI, 24, .inl (fun zy => nI (EP zy)))), (a2, .inl (cI, 24, .inl SI)), (a3, .inl (cI, 24, .inl LK)), (a6, .inl (cI, 12, .inl PH)), (g0, .inr (5, [.int HM_3, .int OB_4, .int BO_5, .int BM_6, .ref g1, .ref g2, .ref g5])), (g1, .inl (cZ, 7, .inl GM_9)), (g2, .inr (6, [.int gnl_7, .ref g3, .ref g4])), (g3, .inl (cI, 7, .inl (fun zy => nI (NP_10 zy)))), (g4, .inl (cI, 7, .inl (fun zy => nI (NF_11 zy)))), (g5, .inr (6, [.int (nI rl_8), .ref g6, .ref g7])), (g6, .inl (cI, 7, .inl (fun zy => nI (RP_12 zy)))), (g7, .inl (cI, 7, .inl (fun zy => nI (RF_13 zy)))), (a4, .inl (cI, 1536, .inl SS)), (a5, .inl (cI, 12, .inl (fun zy => nI (ST zy)))), (a10, .inl (cI, 12, .inl LE)), (a11, .inl (cI, 12, .inl GR))]) [4, 5, 6, 7, 8, 9, 10, 11, 12, 13, 14, 15, 16, 17, 0, 1, 2, 3] (by decide) rfl
    refine W.widen (k := 0) (n := 0) (Nat.le_of_ble_eq_true rfl) (Nat.le_of_ble_eq_true rfl) ?_
    exact W.iret (v := (-3)) hx hb hr (fun tT ht hW => ⟨⟨(-3), (HM_3, OB_4, BO_5, BM_6, gnl_7, rl_8, GM_9, NP_10, NF_11, RP_12, RF_13, SI, SS, ST, LE, GR), rfl, ⟨hf_13_0, hf_13_1, hf_13_2, hf_13_3, hf_13_4, h_ST, h_st⟩, by rw [ht]; exact hP9, hD9⟩, hS.F ht⟩) hS.2.2 d_PC_even_9
  · refine lv_if_ne (tgt := 10) hx hb d_PC_even_4 (by decide) (fun _ => ?_) (fun h => absurd h (by decide))
    refine lv_iconst (v := 0) hx hb d_PC_even_10 (by decide) ?_
    refine lv_istore_n (lv' := [(1, .int 0), (0, .ref x)]) hx hb d_PC_even_11 rfl hl (by decide) rfl (fun ls hl => ?_)
    refine W_loop (σ := Nat × (Nat → Int32) × (Nat → Int32) × (Nat → Nat) × (Nat → Int32) × (Nat → Int32)) (I := fun xX H locs ls => (∀ zz, xX.2.2.2.1 zz ≤ 64) ∧ xX.1 ≤ 7 ∧ (∀ qq, 1 ≤ ST qq → 1 ≤ xX.2.2.2.1 qq) ∧ va_P D vwCl [(a4, .inl (cI, 1536, .inl xX.2.2.1)), (a5, .inl (cI, 12, .inl (fun zy => nI (xX.2.2.2.1 zy)))), (a10, .inl (cI, 12, .inl xX.2.2.2.2.1)), (a11, .inl (cI, 12, .inl xX.2.2.2.2.2)), (x, .inr (0, [.ref f0, .ref a0, .ref r0, .ref w0, .ref g0, .ref k0, .int tm, .int gp, .int lk])), (a0, .inr (2, [.int (nI np), .ref a1, .ref a2, .ref a3, .ref a4, .ref a5, .ref a6, .ref a7, .ref a8, .ref a9, .ref a10, .ref a11])), (a1, .inl (cI, 24, .inl (fun zy => nI (EP zy)))), (a2, .inl (cI, 24, .inl xX.2.1)), (a3, .inl (cI, 24, .inl LK)), (a6, .inl (cI, 12, .inl PH)), (g0, .inr (5, [.int HM_3, .int OB_4, .int BO_5, .int BM_6, .ref g1, .ref g2, .ref g5])), (g1, .inl (cZ, 7, .inl GM_9)), (g2, .inr (6, [.int gnl_7, .ref g3, .ref g4])), (g3, .inl (cI, 7, .inl (fun zy => nI (NP_10 zy)))), (g4, .inl (cI, 7, .inl (fun zy => nI (NF_11 zy)))), (g5, .inr (6, [.int (nI rl_8), .ref g6, .ref g7])), (g6, .inl (cI, 7, .inl (fun zy => nI (RP_12 zy)))), (g7, .inl (cI, 7, .inl (fun zy => nI (RF_13 zy))))] H ∧ va_D A [(a4, .inl (cI, 1536, .inl xX.2.2.1)), (a5, .inl (cI, 12, .inl (fun zy => nI (xX.2.2.2.1 zy)))), (a10, .inl (cI, 12, .inl xX.2.2.2.2.1)), (a11, .inl (cI, 12, .inl xX.2.2.2.2.2)), (x, .inr (0, [.ref f0, .ref a0, .ref r0, .ref w0, .ref g0, .ref k0, .int tm, .int gp, .int lk])), (a0, .inr (2, [.int (nI np), .ref a1, .ref a2, .ref a3, .ref a4, .ref a5, .ref a6, .ref a7, .ref a8, .ref a9, .ref a10, .ref a11])), (a1, .inl (cI, 24, .inl (fun zy => nI (EP zy)))), (a2, .inl (cI, 24, .inl xX.2.1)), (a3, .inl (cI, 24, .inl LK)), (a6, .inl (cI, 12, .inl PH)), (g0, .inr (5, [.int HM_3, .int OB_4, .int BO_5, .int BM_6, .ref g1, .ref g2, .ref g5])), (g1, .inl (cZ, 7, .inl GM_9)), (g2, .inr (6, [.int gnl_7, .ref g3, .ref g4])), (g3, .inl (cI, 7, .inl (fun zy => nI (NP_10 zy)))), (g4, .inl (cI, 7, .inl (fun zy => nI (NF_11 zy)))), (g5, .inr (6, [.int (nI rl_8), .ref g6, .ref g7])), (g6, .inl (cI, 7, .inl (fun zy => nI (RP_12 zy)))), (g7, .inl (cI, 7, .inl (fun zy => nI (RF_13 zy))))] ∧ va_S A s.heap H locs ∧ lv_has ls 2 [(1, .int (nI xX.1)), (0, .ref x)]) (μ := fun xX => 8 - xX.1) ?_ (0, SI, SS, ST, LE, GR) ⟨h_ST, (by first | omega | (dsimp only; omega)), (fun _ h => h), hP, hD, hS, lv_sub hl [0, 1] rfl⟩
    intro xX H_16 locs ls hI ih1
    obtain ⟨k_l, SI_1, SS_1, ST_1, LE_1, GR_1⟩ := xX
    obtain ⟨h_ST_1, hk, hs, hP, hD, hS, hl⟩ := hI
    have hP : va_P D vwCl [(a4, .inl (cI, 1536, .inl SS_1)), (a5, .inl (cI, 12, .inl (fun zy => nI (ST_1 zy)))), (a10, .inl (cI, 12, .inl LE_1)), (a11, .inl (cI, 12, .inl GR_1)), (x, .inr (0, [.ref f0, .ref a0, .ref r0, .ref w0, .ref g0, .ref k0, .int tm, .int gp, .int lk])), (a0, .inr (2, [.int (nI np), .ref a1, .ref a2, .ref a3, .ref a4, .ref a5, .ref a6, .ref a7, .ref a8, .ref a9, .ref a10, .ref a11])), (a1, .inl (cI, 24, .inl (fun zy => nI (EP zy)))), (a2, .inl (cI, 24, .inl SI_1)), (a3, .inl (cI, 24, .inl LK)), (a6, .inl (cI, 12, .inl PH)), (g0, .inr (5, [.int HM_3, .int OB_4, .int BO_5, .int BM_6, .ref g1, .ref g2, .ref g5])), (g1, .inl (cZ, 7, .inl GM_9)), (g2, .inr (6, [.int gnl_7, .ref g3, .ref g4])), (g3, .inl (cI, 7, .inl (fun zy => nI (NP_10 zy)))), (g4, .inl (cI, 7, .inl (fun zy => nI (NF_11 zy)))), (g5, .inr (6, [.int (nI rl_8), .ref g6, .ref g7])), (g6, .inl (cI, 7, .inl (fun zy => nI (RP_12 zy)))), (g7, .inl (cI, 7, .inl (fun zy => nI (RF_13 zy))))] H_16 := hP
    have hD : va_D A [(a4, .inl (cI, 1536, .inl SS_1)), (a5, .inl (cI, 12, .inl (fun zy => nI (ST_1 zy)))), (a10, .inl (cI, 12, .inl LE_1)), (a11, .inl (cI, 12, .inl GR_1)), (x, .inr (0, [.ref f0, .ref a0, .ref r0, .ref w0, .ref g0, .ref k0, .int tm, .int gp, .int lk])), (a0, .inr (2, [.int (nI np), .ref a1, .ref a2, .ref a3, .ref a4, .ref a5, .ref a6, .ref a7, .ref a8, .ref a9, .ref a10, .ref a11])), (a1, .inl (cI, 24, .inl (fun zy => nI (EP zy)))), (a2, .inl (cI, 24, .inl SI_1)), (a3, .inl (cI, 24, .inl LK)), (a6, .inl (cI, 12, .inl PH)), (g0, .inr (5, [.int HM_3, .int OB_4, .int BO_5, .int BM_6, .ref g1, .ref g2, .ref g5])), (g1, .inl (cZ, 7, .inl GM_9)), (g2, .inr (6, [.int gnl_7, .ref g3, .ref g4])), (g3, .inl (cI, 7, .inl (fun zy => nI (NP_10 zy)))), (g4, .inl (cI, 7, .inl (fun zy => nI (NF_11 zy)))), (g5, .inr (6, [.int (nI rl_8), .ref g6, .ref g7])), (g6, .inl (cI, 7, .inl (fun zy => nI (RP_12 zy)))), (g7, .inl (cI, 7, .inl (fun zy => nI (RF_13 zy))))] := hD
    have hl : lv_has ls 2 [(1, .int (nI k_l)), (0, .ref x)] := hl
    have h_ST_1 : ∀ zz, ST_1 zz ≤ 64 := h_ST_1
    have hk : k_l ≤ 7 := hk
    have hs : ∀ qq, 1 ≤ ST qq → 1 ≤ ST_1 qq := hs
    refine lv_iload_n hx hb d_PC_even_12 rfl (lv_at hl 0 rfl) ?_
    refine lv_aload_n hx hb d_PC_even_13 rfl (lv_at hl 1 rfl) ?_
    refine va_get (D := D) (ci := 0) (v := .ref g0) (C := R_PC) (T := F_PC) (N := 9) hx hb hts i_PC hown hK hP 4 rfl rfl 4 (by decide) (hts _ q_260) (fun _ h9 => h9) rfl d_PC_even_14 ?_
    refine va_get (D := D) (ci := 5) (v := .ref g5) (C := R_RS) (T := F_RS) (N := 7) hx hb hts i_RS hown hK hP 10 rfl rfl 6 (by decide) (hts _ q_234) (fun _ h9 => h9) rfl d_PC_even_17 ?_
    refine va_get (D := D) (ci := 6) (v := .int (nI rl_8)) (C := R_RO) (T := F_RO) (N := 3) hx hb hts i_RO hown hK hP 15 rfl rfl 0 (by decide) (hts _ q_174) (fun _ h9 => h9) rfl d_PC_even_20 ?_
    refine lv_icmp_ge (tgt := 70) hx hb d_PC_even_23 (by decide) (fun h_17 => ?_) (fun h_17 => ?_)
    · have nh_17 : rl_8 ≤ k_l := (nI_leI (a := rl_8) (b := k_l) (by omega) (by omega)).mp h_17
      refine lv_aload_n hx hb d_PC_even_70 rfl (lv_at hl 1 rfl) ?_
      refine va_get (D := D) (ci := 0) (v := .ref g0) (C := R_PC) (T := F_PC) (N := 9) hx hb hts i_PC hown hK hP 4 rfl rfl 4 (by decide) (hts _ q_260) (fun _ h9 => h9) rfl d_PC_even_71 ?_
      refine va_get (D := D) (ci := 5) (v := .int BM_6) (C := R_RS) (T := F_RS) (N := 7) hx hb hts i_RS hown hK hP 10 rfl rfl 3 (by decide) (hts _ q_228) (fun _ h9 => h9) rfl d_PC_even_74 ?_
      have hP9 := hP.sub (ws' := [(x, .inr (0, [.ref f0, .ref a0, .ref r0, .ref w0, .ref g0, .ref k0, .int tm, .int gp, .int lk])), (a0, .inr (2, [.int (nI np), .ref a1, .ref a2, .ref a3, .ref a4, .ref a5, .ref a6, .ref a7, .ref a8, .ref a9, .ref a10, .ref a11])), (a1, .inl (cI, 24, .inl (fun zy => nI (EP zy)))), (a2, .inl (cI, 24, .inl SI_1)), (a3, .inl (cI, 24, .inl LK)), (a6, .inl (cI, 12, .inl PH)), (g0, .inr (5, [.int HM_3, .int OB_4, .int BO_5, .int BM_6, .ref g1, .ref g2, .ref g5])), (g1, .inl (cZ, 7, .inl GM_9)), (g2, .inr (6, [.int gnl_7, .ref g3, .ref g4])), (g3, .inl (cI, 7, .inl (fun zy => nI (NP_10 zy)))), (g4, .inl (cI, 7, .inl (fun zy => nI (NF_11 zy)))), (g5, .inr (6, [.int (nI rl_8), .ref g6, .ref g7])), (g6, .inl (cI, 7, .inl (fun zy => nI (RP_12 zy)))), (g7, .inl (cI, 7, .inl (fun zy => nI (RF_13 zy)))), (a4, .inl (cI, 1536, .inl SS_1)), (a5, .inl (cI, 12, .inl (fun zy => nI (ST_1 zy)))), (a10, .inl (cI, 12, .inl LE_1)), (a11, .inl (cI, 12, .inl GR_1))]) [4, 5, 6, 7, 8, 9, 10, 11, 12, 13, 14, 15, 16, 17, 0, 1, 2, 3] rfl
      have hD9 := hD.sub (ws' := [(x, .inr (0, [.ref f0, .ref a0, .ref r0, .ref w0, .ref g0, .ref k0, .int tm, .int gp, .int lk])), (a0, .inr (2, [.int (nI np), .ref a1, .ref a2, .ref a3, .ref a4, .ref a5, .ref a6, .ref a7, .ref a8, .ref a9, .ref a10, .ref a11])), (a1, .inl (cI, 24, .inl (fun zy => nI (EP zy)))), (a2, .inl (cI, 24, .inl SI_1)), (a3, .inl (cI, 24, .inl LK)), (a6, .inl (cI, 12, .inl PH)), (g0, .inr (5, [.int HM_3, .int OB_4, .int BO_5, .int BM_6, .ref g1, .ref g2, .ref g5])), (g1, .inl (cZ, 7, .inl GM_9)), (g2, .inr (6, [.int gnl_7, .ref g3, .ref g4])), (g3, .inl (cI, 7, .inl (fun zy => nI (NP_10 zy)))), (g4, .inl (cI, 7, .inl (fun zy => nI (NF_11 zy)))), (g5, .inr (6, [.int (nI rl_8), .ref g6, .ref g7])), (g6, .inl (cI, 7, .inl (fun zy => nI (RP_12 zy)))), (g7, .inl (cI, 7, .inl (fun zy => nI (RF_13 zy)))), (a4, .inl (cI, 1536, .inl SS_1)), (a5, .inl (cI, 12, .inl (fun zy => nI (ST_1 zy)))), (a10, .inl (cI, 12, .inl LE_1)), (a11, .inl (cI, 12, .inl GR_1))]) [4, 5, 6, 7, 8, 9, 10, 11, 12, 13, 14, 15, 16, 17, 0, 1, 2, 3] (by decide) rfl
      refine W.widen (k := 0) (n := 0) (Nat.le_of_ble_eq_true rfl) (Nat.le_of_ble_eq_true rfl) ?_
      exact W.iret (v := BM_6) hx hb hr (fun tT ht hW => ⟨⟨BM_6, (HM_3, OB_4, BO_5, BM_6, gnl_7, rl_8, GM_9, NP_10, NF_11, RP_12, RF_13, SI_1, SS_1, ST_1, LE_1, GR_1), rfl, ⟨hf_13_0, hf_13_1, hf_13_2, hf_13_3, hf_13_4, h_ST_1, (fun q h => hs q (h_st q h))⟩, by rw [ht]; exact hP9, hD9⟩, hS.F ht⟩) hS.2.2 d_PC_even_77
    · have nh_17 : ¬ rl_8 ≤ k_l := fun qZ => h_17 ((nI_leI (a := rl_8) (b := k_l) (by omega) (by omega)).mpr qZ)
      refine lv_aload_n hx hb d_PC_even_26 rfl (lv_at hl 1 rfl) ?_
      refine va_get (D := D) (ci := 0) (v := .ref a0) (C := R_PC) (T := F_PC) (N := 9) hx hb hts i_PC hown hK hP 4 rfl rfl 1 (by decide) (hts _ q_257) (fun _ h9 => h9) rfl d_PC_even_27 ?_
      refine lv_aload_n hx hb d_PC_even_30 rfl (lv_at hl 1 rfl) ?_
      refine va_get (D := D) (ci := 0) (v := .ref g0) (C := R_PC) (T := F_PC) (N := 9) hx hb hts i_PC hown hK hP 4 rfl rfl 4 (by decide) (hts _ q_260) (fun _ h9 => h9) rfl d_PC_even_31 ?_
      refine va_get (D := D) (ci := 5) (v := .ref g5) (C := R_RS) (T := F_RS) (N := 7) hx hb hts i_RS hown hK hP 10 rfl rfl 6 (by decide) (hts _ q_234) (fun _ h9 => h9) rfl d_PC_even_34 ?_
      refine va_get (D := D) (ci := 6) (v := .ref g6) (C := R_RO) (T := F_RO) (N := 3) hx hb hts i_RO hown hK hP 15 rfl rfl 1 (by decide) (hts _ q_179) (fun _ h9 => h9) rfl d_PC_even_37 ?_
      refine lv_iload_n hx hb d_PC_even_40 rfl (lv_at hl 0 rfl) ?_
      refine my_ldN hx hb hK hP 16 rfl k_l rfl (by omega) (by decide) d_PC_even_41 ?_
      have hb_1 : RP_12 k_l ≤ 11 := hf_13_3 _
      refine lv_aload_n hx hb d_PC_even_42 rfl (lv_at hl 1 rfl) ?_
      refine va_get (D := D) (ci := 0) (v := .ref g0) (C := R_PC) (T := F_PC) (N := 9) hx hb hts i_PC hown hK hP 4 rfl rfl 4 (by decide) (hts _ q_260) (fun _ h9 => h9) rfl d_PC_even_43 ?_
      refine va_get (D := D) (ci := 5) (v := .ref g5) (C := R_RS) (T := F_RS) (N := 7) hx hb hts i_RS hown hK hP 10 rfl rfl 6 (by decide) (hts _ q_234) (fun _ h9 => h9) rfl d_PC_even_46 ?_
      refine va_get (D := D) (ci := 6) (v := .ref g7) (C := R_RO) (T := F_RO) (N := 3) hx hb hts i_RO hown hK hP 15 rfl rfl 2 (by decide) (hts _ q_182) (fun _ h9 => h9) rfl d_PC_even_49 ?_
      refine lv_iload_n hx hb d_PC_even_52 rfl (lv_at hl 0 rfl) ?_
      refine my_ldN hx hb hK hP 17 rfl k_l rfl (by omega) (by decide) d_PC_even_53 ?_
      have hb_2 : RF_13 k_l ≤ 1 := hf_13_4 _
      refine lv_aload_n hx hb d_PC_even_54 rfl (lv_at hl 1 rfl) ?_
      refine va_get (D := D) (ci := 0) (v := .ref g0) (C := R_PC) (T := F_PC) (N := 9) hx hb hts i_PC hown hK hP 4 rfl rfl 4 (by decide) (hts _ q_260) (fun _ h9 => h9) rfl d_PC_even_55 ?_
      refine va_get (D := D) (ci := 5) (v := .int BM_6) (C := R_RS) (T := F_RS) (N := 7) hx hb hts i_RS hown hK hP 10 rfl rfl 3 (by decide) (hts _ q_228) (fun _ h9 => h9) rfl d_PC_even_58 ?_
      have hPc := hP.sub (ws' := [(a0, .inr (2, [.int (nI np), .ref a1, .ref a2, .ref a3, .ref a4, .ref a5, .ref a6, .ref a7, .ref a8, .ref a9, .ref a10, .ref a11])), (a2, .inl (cI, 24, .inl SI_1)), (a3, .inl (cI, 24, .inl LK)), (a4, .inl (cI, 1536, .inl SS_1)), (a5, .inl (cI, 12, .inl (fun zy => nI (ST_1 zy)))), (a10, .inl (cI, 12, .inl LE_1)), (a11, .inl (cI, 12, .inl GR_1))]) [5, 7, 8, 0, 1, 2, 3] rfl
      have hDc := hD.sub (ws' := [(a0, .inr (2, [.int (nI np), .ref a1, .ref a2, .ref a3, .ref a4, .ref a5, .ref a6, .ref a7, .ref a8, .ref a9, .ref a10, .ref a11])), (a2, .inl (cI, 24, .inl SI_1)), (a3, .inl (cI, 24, .inl LK)), (a4, .inl (cI, 1536, .inl SS_1)), (a5, .inl (cI, 12, .inl (fun zy => nI (ST_1 zy)))), (a10, .inl (cI, 12, .inl LE_1)), (a11, .inl (cI, 12, .inl GR_1))]) [5, 7, 8, 0, 1, 2, 3] (by decide) rfl
      have hFc := va_free (wc := [(a0, .inr (2, [.int (nI np), .ref a1, .ref a2, .ref a3, .ref a4, .ref a5, .ref a6, .ref a7, .ref a8, .ref a9, .ref a10, .ref a11])), (a2, .inl (cI, 24, .inl SI_1)), (a3, .inl (cI, 24, .inl LK)), (a4, .inl (cI, 1536, .inl SS_1)), (a5, .inl (cI, 12, .inl (fun zy => nI (ST_1 zy)))), (a10, .inl (cI, 12, .inl LE_1)), (a11, .inl (cI, 12, .inl GR_1))]) hD hS hA [5, 7, 8, 0, 1, 2, 3] rfl
      refine va_callv (va_runV (As := [.int (nI (RP_12 k_l)), .int (nI (RF_13 k_l)), .int BM_6]) (rest := []) ⟨hx, hb, hml, hown, hts⟩ (g_PA_move l D cI cZ a0 (RP_12 k_l) (RF_13 k_l) BM_6 np a1 a2 a3 a4 a5 a6 a7 a8 a9 a10 a11 SI_1 LK SS_1 ST_1 LE_1 GR_1 H_16.size h_np h_ST_1 (by first | omega | (dsimp only; omega)) (by first | omega | (dsimp only; omega))) (my_cwV 3 hts q_579 q_576 q_577 q_578 q_3 rfl rfl (by decide +kernel) ⟨Nat.le_of_ble_eq_true rfl, Nat.le_of_ble_eq_true rfl⟩) (my_preV hPc hDc hK hN 2 0 rfl rfl) rfl rfl hl.1 rfl (lv_room (Nat.le_of_ble_eq_true rfl)) d_PC_even_61 ⟨Nat.le_of_ble_eq_true rfl, Nat.le_of_ble_eq_true rfl⟩) hS (fun q _ h => hFc q h) hFc (fun uU tT H_19 locs ht hvm hw_18 hB hz1 hk1 hS => ?_)
      obtain ⟨SI_20, SS_21, ST_22, LE_23, GR_24⟩ := uU
      obtain ⟨hP1, hD1⟩ := hB
      rw [ht] at hP1
      obtain ⟨hP, hD⟩ := va_join (wr := [(x, .inr (0, [.ref f0, .ref a0, .ref r0, .ref w0, .ref g0, .ref k0, .int tm, .int gp, .int lk])), (a1, .inl (cI, 24, .inl (fun zy => nI (EP zy)))), (a6, .inl (cI, 12, .inl PH)), (g0, .inr (5, [.int HM_3, .int OB_4, .int BO_5, .int BM_6, .ref g1, .ref g2, .ref g5])), (g1, .inl (cZ, 7, .inl GM_9)), (g2, .inr (6, [.int gnl_7, .ref g3, .ref g4])), (g3, .inl (cI, 7, .inl (fun zy => nI (NP_10 zy)))), (g4, .inl (cI, 7, .inl (fun zy => nI (NF_11 zy)))), (g5, .inr (6, [.int (nI rl_8), .ref g6, .ref g7])), (g6, .inl (cI, 7, .inl (fun zy => nI (RP_12 zy)))), (g7, .inl (cI, 7, .inl (fun zy => nI (RF_13 zy))))]) (w1 := [(a0, .inr (2, [.int (nI np), .ref a1, .ref a2, .ref a3, .ref a4, .ref a5, .ref a6, .ref a7, .ref a8, .ref a9, .ref a10, .ref a11])), (a2, .inl (cI, 24, .inl SI_20)), (a3, .inl (cI, 24, .inl LK)), (a4, .inl (cI, 1536, .inl SS_21)), (a5, .inl (cI, 12, .inl (fun zy => nI (ST_22 zy)))), (a10, .inl (cI, 12, .inl LE_23)), (a11, .inl (cI, 12, .inl GR_24))]) hP hD [5, 7, 8, 0, 1, 2, 3] [4, 6, 9, 10, 11, 12, 13, 14, 15, 16, 17] rfl rfl (by decide) (by decide) hk1 hFc hP1 hD1
      have hP : va_P D vwCl [(x, .inr (0, [.ref f0, .ref a0, .ref r0, .ref w0, .ref g0, .ref k0, .int tm, .int gp, .int lk])), (a1, .inl (cI, 24, .inl (fun zy => nI (EP zy)))), (a6, .inl (cI, 12, .inl PH)), (g0, .inr (5, [.int HM_3, .int OB_4, .int BO_5, .int BM_6, .ref g1, .ref g2, .ref g5])), (g1, .inl (cZ, 7, .inl GM_9)), (g2, .inr (6, [.int gnl_7, .ref g3, .ref g4])), (g3, .inl (cI, 7, .inl (fun zy => nI (NP_10 zy)))), (g4, .inl (cI, 7, .inl (fun zy => nI (NF_11 zy)))), (g5, .inr (6, [.int (nI rl_8), .ref g6, .ref g7])), (g6, .inl (cI, 7, .inl (fun zy => nI (RP_12 zy)))), (g7, .inl (cI, 7, .inl (fun zy => nI (RF_13 zy)))), (a0, .inr (2, [.int (nI np), .ref a1, .ref a2, .ref a3, .ref a4, .ref a5, .ref a6, .ref a7, .ref a8, .ref a9, .ref a10, .ref a11])), (a2, .inl (cI, 24, .inl SI_20)), (a3, .inl (cI, 24, .inl LK)), (a4, .inl (cI, 1536, .inl SS_21)), (a5, .inl (cI, 12, .inl (fun zy => nI (ST_22 zy)))), (a10, .inl (cI, 12, .inl LE_23)), (a11, .inl (cI, 12, .inl GR_24))] H_19 := hP
      have hD : va_D A [(x, .inr (0, [.ref f0, .ref a0, .ref r0, .ref w0, .ref g0, .ref k0, .int tm, .int gp, .int lk])), (a1, .inl (cI, 24, .inl (fun zy => nI (EP zy)))), (a6, .inl (cI, 12, .inl PH)), (g0, .inr (5, [.int HM_3, .int OB_4, .int BO_5, .int BM_6, .ref g1, .ref g2, .ref g5])), (g1, .inl (cZ, 7, .inl GM_9)), (g2, .inr (6, [.int gnl_7, .ref g3, .ref g4])), (g3, .inl (cI, 7, .inl (fun zy => nI (NP_10 zy)))), (g4, .inl (cI, 7, .inl (fun zy => nI (NF_11 zy)))), (g5, .inr (6, [.int (nI rl_8), .ref g6, .ref g7])), (g6, .inl (cI, 7, .inl (fun zy => nI (RP_12 zy)))), (g7, .inl (cI, 7, .inl (fun zy => nI (RF_13 zy)))), (a0, .inr (2, [.int (nI np), .ref a1, .ref a2, .ref a3, .ref a4, .ref a5, .ref a6, .ref a7, .ref a8, .ref a9, .ref a10, .ref a11])), (a2, .inl (cI, 24, .inl SI_20)), (a3, .inl (cI, 24, .inl LK)), (a4, .inl (cI, 1536, .inl SS_21)), (a5, .inl (cI, 12, .inl (fun zy => nI (ST_22 zy)))), (a10, .inl (cI, 12, .inl LE_23)), (a11, .inl (cI, 12, .inl GR_24))] := hD
      have hw_18 : (∀ zz, ST_22 zz ≤ 64) ∧ (∀ qq, 1 ≤ ST_1 qq → 1 ≤ ST_22 qq) := hw_18
      obtain ⟨hf_24_0, hf_24_1⟩ := hw_18
      have hf_24_0 : ∀ zz, ST_22 zz ≤ 64 := hf_24_0
      have hf_24_1 : ∀ qq, 1 ≤ ST_1 qq → 1 ≤ ST_22 qq := hf_24_1
      refine lv_iinc (v := nI (k_l + 1)) (lv' := [(1, .int (nI (k_l + 1))), (0, .ref x)]) hx hb d_PC_even_64 hl (k := 0) rfl (nI_1 k_l) (by decide) rfl (fun ls hl => ?_)
      refine lv_goto (tgt := 12) hx hb d_PC_even_67 (by decide) ?_
      have hPz := hP.sub (ws' := [(a4, .inl (cI, 1536, .inl SS_21)), (a5, .inl (cI, 12, .inl (fun zy => nI (ST_22 zy)))), (a10, .inl (cI, 12, .inl LE_23)), (a11, .inl (cI, 12, .inl GR_24)), (x, .inr (0, [.ref f0, .ref a0, .ref r0, .ref w0, .ref g0, .ref k0, .int tm, .int gp, .int lk])), (a0, .inr (2, [.int (nI np), .ref a1, .ref a2, .ref a3, .ref a4, .ref a5, .ref a6, .ref a7, .ref a8, .ref a9, .ref a10, .ref a11])), (a1, .inl (cI, 24, .inl (fun zy => nI (EP zy)))), (a2, .inl (cI, 24, .inl SI_20)), (a3, .inl (cI, 24, .inl LK)), (a6, .inl (cI, 12, .inl PH)), (g0, .inr (5, [.int HM_3, .int OB_4, .int BO_5, .int BM_6, .ref g1, .ref g2, .ref g5])), (g1, .inl (cZ, 7, .inl GM_9)), (g2, .inr (6, [.int gnl_7, .ref g3, .ref g4])), (g3, .inl (cI, 7, .inl (fun zy => nI (NP_10 zy)))), (g4, .inl (cI, 7, .inl (fun zy => nI (NF_11 zy)))), (g5, .inr (6, [.int (nI rl_8), .ref g6, .ref g7])), (g6, .inl (cI, 7, .inl (fun zy => nI (RP_12 zy)))), (g7, .inl (cI, 7, .inl (fun zy => nI (RF_13 zy))))]) [14, 15, 16, 17, 0, 11, 1, 12, 13, 2, 3, 4, 5, 6, 7, 8, 9, 10] rfl
      have hDz := hD.sub (ws' := [(a4, .inl (cI, 1536, .inl SS_21)), (a5, .inl (cI, 12, .inl (fun zy => nI (ST_22 zy)))), (a10, .inl (cI, 12, .inl LE_23)), (a11, .inl (cI, 12, .inl GR_24)), (x, .inr (0, [.ref f0, .ref a0, .ref r0, .ref w0, .ref g0, .ref k0, .int tm, .int gp, .int lk])), (a0, .inr (2, [.int (nI np), .ref a1, .ref a2, .ref a3, .ref a4, .ref a5, .ref a6, .ref a7, .ref a8, .ref a9, .ref a10, .ref a11])), (a1, .inl (cI, 24, .inl (fun zy => nI (EP zy)))), (a2, .inl (cI, 24, .inl SI_20)), (a3, .inl (cI, 24, .inl LK)), (a6, .inl (cI, 12, .inl PH)), (g0, .inr (5, [.int HM_3, .int OB_4, .int BO_5, .int BM_6, .ref g1, .ref g2, .ref g5])), (g1, .inl (cZ, 7, .inl GM_9)), (g2, .inr (6, [.int gnl_7, .ref g3, .ref g4])), (g3, .inl (cI, 7, .inl (fun zy => nI (NP_10 zy)))), (g4, .inl (cI, 7, .inl (fun zy => nI (NF_11 zy)))), (g5, .inr (6, [.int (nI rl_8), .ref g6, .ref g7])), (g6, .inl (cI, 7, .inl (fun zy => nI (RP_12 zy)))), (g7, .inl (cI, 7, .inl (fun zy => nI (RF_13 zy))))]) [14, 15, 16, 17, 0, 11, 1, 12, 13, 2, 3, 4, 5, 6, 7, 8, 9, 10] (by decide) rfl
      exact ih1 ((k_l + 1), SI_20, SS_21, ST_22, LE_23, GR_24) _ _ _ (by first | omega | (dsimp only; omega)) ⟨hf_24_0, (by first | omega | (dsimp only; omega)), (fun qq h => hf_24_1 qq (hs qq h)), hPz, hDz, hS, lv_sub hl [0, 1] rfl⟩

set_option maxHeartbeats 4000000 in
set_option maxRecDepth 100000 in
theorem g_PC_tries (l : Launch) (D : va_G) (cI cZ : ClassId) (x : Nat) (v : Int32) (f0 : Nat) (a0 : Nat) (r0 : Nat) (w0 : Nat) (g0 : Nat) (k0 : Nat) (tm : Int32) (gp : Int32) (lk : Int32) (kl : Nat) (k1 : Nat) (k2 : Nat) (KP : Nat → Nat) (KF : Nat → Nat) (np : Nat) (a1 : Nat) (a2 : Nat) (a3 : Nat) (a4 : Nat) (a5 : Nat) (a6 : Nat) (a7 : Nat) (a8 : Nat) (a9 : Nat) (a10 : Nat) (a11 : Nat) (SI : Nat → Int32) (PH : Nat → Int32) (LE : Nat → Int32) (GR : Nat → Int32) (sz : Nat) (h_kl : kl ≤ 6) (h_KP : ∀ zz, KP zz ≤ 11) (h_KF : ∀ zz, KF zz ≤ 1) (h_np : np ≤ 12) : Met l ⟨"PromiseChains", "tries", "(I)I"⟩ (mw ⟨"PromiseChains", "tries", "(I)I"⟩ prog_1_method_23_code 3 (some .int)) ({ frames := 2, cells := 0, slots := 0, locals := 40 }) (va_Pc [.ref x, .int v] (PB D cI cZ sz [(x, .inr (0, [.ref f0, .ref a0, .ref r0, .ref w0, .ref g0, .ref k0, .int tm, .int gp, .int lk])), (k0, .inr (6, [.int (nI kl), .ref k1, .ref k2])), (k1, .inl (cI, 7, .inl (fun zy => nI (KP zy)))), (k2, .inl (cI, 7, .inl (fun zy => nI (KF zy)))), (a0, .inr (2, [.int (nI np), .ref a1, .ref a2, .ref a3, .ref a4, .ref a5, .ref a6, .ref a7, .ref a8, .ref a9, .ref a10, .ref a11])), (a2, .inl (cI, 24, .inl SI)), (a6, .inl (cI, 12, .inl PH)), (a10, .inl (cI, 12, .inl LE)), (a11, .inl (cI, 12, .inl GR))])) (va_Qi (S := (Nat → Int32) × (Nat → Int32)) (fun (r : Int32) uU => True) (fun uU tT => BB D (va_A [(x, .inr (0, [.ref f0, .ref a0, .ref r0, .ref w0, .ref g0, .ref k0, .int tm, .int gp, .int lk])), (k0, .inr (6, [.int (nI kl), .ref k1, .ref k2])), (k1, .inl (cI, 7, .inl (fun zy => nI (KP zy)))), (k2, .inl (cI, 7, .inl (fun zy => nI (KF zy)))), (a0, .inr (2, [.int (nI np), .ref a1, .ref a2, .ref a3, .ref a4, .ref a5, .ref a6, .ref a7, .ref a8, .ref a9, .ref a10, .ref a11])), (a2, .inl (cI, 24, .inl SI)), (a6, .inl (cI, 12, .inl PH)), (a10, .inl (cI, 12, .inl LE)), (a11, .inl (cI, 12, .inl GR))] sz) [(x, .inr (0, [.ref f0, .ref a0, .ref r0, .ref w0, .ref g0, .ref k0, .int tm, .int gp, .int lk])), (k0, .inr (6, [.int (nI kl), .ref k1, .ref k2])), (k1, .inl (cI, 7, .inl (fun zy => nI (KP zy)))), (k2, .inl (cI, 7, .inl (fun zy => nI (KF zy)))), (a0, .inr (2, [.int (nI np), .ref a1, .ref a2, .ref a3, .ref a4, .ref a5, .ref a6, .ref a7, .ref a8, .ref a9, .ref a10, .ref a11])), (a2, .inl (cI, 24, .inl SI)), (a6, .inl (cI, 12, .inl PH)), (a10, .inl (cI, 12, .inl (uU.1))), (a11, .inl (cI, 12, .inl (uU.2)))] tT) (va_A [(x, .inr (0, [.ref f0, .ref a0, .ref r0, .ref w0, .ref g0, .ref k0, .int tm, .int gp, .int lk])), (k0, .inr (6, [.int (nI kl), .ref k1, .ref k2])), (k1, .inl (cI, 7, .inl (fun zy => nI (KP zy)))), (k2, .inl (cI, 7, .inl (fun zy => nI (KF zy)))), (a0, .inr (2, [.int (nI np), .ref a1, .ref a2, .ref a3, .ref a4, .ref a5, .ref a6, .ref a7, .ref a8, .ref a9, .ref a10, .ref a11])), (a2, .inl (cI, 24, .inl SI)), (a6, .inl (cI, 12, .inl PH)), (a10, .inl (cI, 12, .inl LE)), (a11, .inl (cI, 12, .inl GR))] sz)) 0 0 (va_A [(x, .inr (0, [.ref f0, .ref a0, .ref r0, .ref w0, .ref g0, .ref k0, .int tm, .int gp, .int lk])), (k0, .inr (6, [.int (nI kl), .ref k1, .ref k2])), (k1, .inl (cI, 7, .inl (fun zy => nI (KP zy)))), (k2, .inl (cI, 7, .inl (fun zy => nI (KF zy)))), (a0, .inr (2, [.int (nI np), .ref a1, .ref a2, .ref a3, .ref a4, .ref a5, .ref a6, .ref a7, .ref a8, .ref a9, .ref a10, .ref a11])), (a2, .inl (cI, 24, .inl SI)), (a6, .inl (cI, 12, .inl PH)), (a10, .inl (cI, 12, .inl LE)), (a11, .inl (cI, 12, .inl GR))] sz) := by
  refine Met.ofW (cc := prog_1_method_23_code) (maxL := 3) (ret := (some .int)) (by decide) rfl ?_
  intro p e s m args below meth c s₁ B hml hv
  obtain ⟨rfl, hsz, hP, hK, hD0, hN⟩ := hv
  have hx := B.exec
  have hb := B.bytes
  have hr := B.returns
  have hts0 := atoms_spec (ws := mw ⟨"PromiseChains", "tries", "(I)I"⟩ prog_1_method_23_code 3 (some .int)) B.pre
  have hts : ∀ w ∈ tblG, w.before _ s = true := fun w h => hts0 w (List.mem_cons_of_mem _ h)
  have hown : s.vm.findClass "PromiseChains" = some m.cls := findClass_of_methodNamed B.named
  have hlocks := B.notSynchronized
  subst hsz
  have hD := hD0.self (sz := s.heap.size)
  generalize hAe : va_A [(x, .inr (0, [.ref f0, .ref a0, .ref r0, .ref w0, .ref g0, .ref k0, .int tm, .int gp, .int lk])), (k0, .inr (6, [.int (nI kl), .ref k1, .ref k2])), (k1, .inl (cI, 7, .inl (fun zy => nI (KP zy)))), (k2, .inl (cI, 7, .inl (fun zy => nI (KF zy)))), (a0, .inr (2, [.int (nI np), .ref a1, .ref a2, .ref a3, .ref a4, .ref a5, .ref a6, .ref a7, .ref a8, .ref a9, .ref a10, .ref a11])), (a2, .inl (cI, 24, .inl SI)), (a6, .inl (cI, 12, .inl PH)), (a10, .inl (cI, 12, .inl LE)), (a11, .inl (cI, 12, .inl GR))] s.heap.size = A at hD ⊢
  have hA : ∀ q : Nat, s.heap.size ≤ q → A q := fun q h => by rw [← hAe]; exact Or.inr h
  have hS : va_S A s.heap s.heap [] := va_S.rf
  have hP : va_P D vwCl [(x, .inr (0, [.ref f0, .ref a0, .ref r0, .ref w0, .ref g0, .ref k0, .int tm, .int gp, .int lk])), (k0, .inr (6, [.int (nI kl), .ref k1, .ref k2])), (k1, .inl (cI, 7, .inl (fun zy => nI (KP zy)))), (k2, .inl (cI, 7, .inl (fun zy => nI (KF zy)))), (a0, .inr (2, [.int (nI np), .ref a1, .ref a2, .ref a3, .ref a4, .ref a5, .ref a6, .ref a7, .ref a8, .ref a9, .ref a10, .ref a11])), (a2, .inl (cI, 24, .inl SI)), (a6, .inl (cI, 12, .inl PH)), (a10, .inl (cI, 12, .inl LE)), (a11, .inl (cI, 12, .inl GR))] s.heap := hP
  have hl := lv_entry ([.ref x, .int v]) (n := 3) (Nat.le_of_ble_eq_true rfl)
  rw [lg_entry_eq]
  generalize (lg_sl ([.ref x, .int v]) ++ List.replicate (3 - (lg_sl ([.ref x, .int v])).length) Slot.unset).toArray = ls at hl ⊢
  have hl : lv_has ls 3 [(0, .ref x), (1, .int v)] := hl
  refine lv_iload_n hx hb d_PC_tries_0 rfl (lv_at hl 1 rfl) ?_
  refine lv_iconst (v := 1) hx hb d_PC_tries_1 (by decide) ?_
  refine lv_ldc hx hb hown (hts _ q_584) d_PC_tries_2 ?_
  have hPc := hP.sub (ws' := []) [] rfl
  have hDc := hD.sub (ws' := []) [] (by decide) rfl
  refine vp_callSi (va_Run.run (va_runS (As := [.int v, .int 1, .int 200000]) (rest := []) ⟨hx, hb, hml, hown, hts⟩ (g_within l D cI cZ v 1 200000 s.heap.size ) (my_cwS 3 hts q_290 q_288 q_289 q_1 rfl rfl (by decide +kernel) ⟨Nat.le_of_ble_eq_true rfl, Nat.le_of_ble_eq_true rfl⟩) (my_preS hPc hDc hK hN) rfl rfl hl.1 rfl (lv_room (Nat.le_of_ble_eq_true rfl)) d_PC_tries_4 ⟨Nat.le_of_ble_eq_true rfl, Nat.le_of_ble_eq_true rfl⟩)) (fun r_1 hw_1 => ?_)
  have hf_1_0 : r_1 = isw v 1 200000 := hw_1
  have hf_1_0 : r_1 = isw v 1 200000 := hf_1_0
  subst hf_1_0
  refine lv_if_ne (tgt := 13) hx hb d_PC_tries_7 (by decide) (fun h_2 => ?_) (fun h_2 => ?_)
  · refine lv_aload_n hx hb d_PC_tries_13 rfl (lv_at hl 0 rfl) ?_
    refine va_get (D := D) (ci := 0) (v := .ref k0) (C := R_PC) (T := F_PC) (N := 9) hx hb hts i_PC hown hK hP 0 rfl rfl 5 (by decide) (hts _ q_261) (fun _ h9 => h9) rfl d_PC_tries_14 ?_
    refine va_get (D := D) (ci := 6) (v := .int (nI kl)) (C := R_RO) (T := F_RO) (N := 3) hx hb hts i_RO hown hK hP 1 rfl rfl 0 (by decide) (hts _ q_174) (fun _ h9 => h9) rfl d_PC_tries_17 ?_
    refine lv_if_eq (tgt := 37) hx hb d_PC_tries_20 (by decide) (fun h_3 => ?_) (fun h_3 => ?_)
    · have nh_3 : kl = 0 := (nI_eq (a := kl) (b := 0) (by omega) (by omega)).mp h_3
      refine lv_bipush (v := (-3)) hx hb d_PC_tries_37 (by decide) ?_
      have hP9 := hP.sub (ws' := [(x, .inr (0, [.ref f0, .ref a0, .ref r0, .ref w0, .ref g0, .ref k0, .int tm, .int gp, .int lk])), (k0, .inr (6, [.int (nI kl), .ref k1, .ref k2])), (k1, .inl (cI, 7, .inl (fun zy => nI (KP zy)))), (k2, .inl (cI, 7, .inl (fun zy => nI (KF zy)))), (a0, .inr (2, [.int (nI np), .ref a1, .ref a2, .ref a3, .ref a4, .ref a5, .ref a6, .ref a7, .ref a8, .ref a9, .ref a10, .ref a11])), (a2, .inl (cI, 24, .inl SI)), (a6, .inl (cI, 12, .inl PH)), (a10, .inl (cI, 12, .inl LE)), (a11, .inl (cI, 12, .inl GR))]) [0, 1, 2, 3, 4, 5, 6, 7, 8] rfl
      have hD9 := hD.sub (ws' := [(x, .inr (0, [.ref f0, .ref a0, .ref r0, .ref w0, .ref g0, .ref k0, .int tm, .int gp, .int lk])), (k0, .inr (6, [.int (nI kl), .ref k1, .ref k2])), (k1, .inl (cI, 7, .inl (fun zy => nI (KP zy)))), (k2, .inl (cI, 7, .inl (fun zy => nI (KF zy)))), (a0, .inr (2, [.int (nI np), .ref a1, .ref a2, .ref a3, .ref a4, .ref a5, .ref a6, .ref a7, .ref a8, .ref a9, .ref a10, .ref a11])), (a2, .inl (cI, 24, .inl SI)), (a6, .inl (cI, 12, .inl PH)), (a10, .inl (cI, 12, .inl LE)), (a11, .inl (cI, 12, .inl GR))]) [0, 1, 2, 3, 4, 5, 6, 7, 8] (by decide) rfl
      refine W.widen (k := 0) (n := 0) (Nat.le_of_ble_eq_true rfl) (Nat.le_of_ble_eq_true rfl) ?_
      exact W.iret (v := (-3)) hx hb hr (fun tT ht hW => ⟨⟨(-3), (LE, GR), rfl, trivial, by rw [ht]; exact hP9, hD9⟩, hS.F ht⟩) hS.2.2 d_PC_tries_39
    · have nh_3 : ¬ kl = 0 := fun qZ => h_3 ((nI_eq (a := kl) (b := 0) (by omega) (by omega)).mpr qZ)
      refine lv_aload_n hx hb d_PC_tries_23 rfl (lv_at hl 0 rfl) ?_
      refine va_get (D := D) (ci := 0) (v := .ref a0) (C := R_PC) (T := F_PC) (N := 9) hx hb hts i_PC hown hK hP 0 rfl rfl 1 (by decide) (hts _ q_257) (fun _ h9 => h9) rfl d_PC_tries_24 ?_
      refine lv_aload_n hx hb d_PC_tries_27 rfl (lv_at hl 0 rfl) ?_
      refine va_get (D := D) (ci := 0) (v := .ref k0) (C := R_PC) (T := F_PC) (N := 9) hx hb hts i_PC hown hK hP 0 rfl rfl 5 (by decide) (hts _ q_261) (fun _ h9 => h9) rfl d_PC_tries_28 ?_
      have hPc := hP.sub (ws' := [(a0, .inr (2, [.int (nI np), .ref a1, .ref a2, .ref a3, .ref a4, .ref a5, .ref a6, .ref a7, .ref a8, .ref a9, .ref a10, .ref a11])), (a6, .inl (cI, 12, .inl PH)), (k0, .inr (6, [.int (nI kl), .ref k1, .ref k2])), (k1, .inl (cI, 7, .inl (fun zy => nI (KP zy))))]) [4, 6, 1, 2] rfl
      have hDc := hD.sub (ws' := [(a0, .inr (2, [.int (nI np), .ref a1, .ref a2, .ref a3, .ref a4, .ref a5, .ref a6, .ref a7, .ref a8, .ref a9, .ref a10, .ref a11])), (a6, .inl (cI, 12, .inl PH)), (k0, .inr (6, [.int (nI kl), .ref k1, .ref k2])), (k1, .inl (cI, 7, .inl (fun zy => nI (KP zy))))]) [4, 6, 1, 2] (by decide) rfl
      refine vp_callSi (va_Run.run (va_runV (As := [.ref k0]) (rest := []) ⟨hx, hb, hml, hown, hts⟩ (g_PA_areOpen l D cI cZ a0 k0 np a1 a2 a3 a4 a5 a6 a7 a8 a9 a10 a11 PH kl k1 k2 KP s.heap.size h_np h_kl h_KP) (my_cwV 1 hts q_588 q_585 q_586 q_587 q_3 rfl rfl (by decide +kernel) ⟨Nat.le_of_ble_eq_true rfl, Nat.le_of_ble_eq_true rfl⟩) (my_preV hPc hDc hK hN 2 0 rfl rfl) rfl rfl hl.1 rfl (lv_room (Nat.le_of_ble_eq_true rfl)) d_PC_tries_31 ⟨Nat.le_of_ble_eq_true rfl, Nat.le_of_ble_eq_true rfl⟩)) (fun r_4 hw_4 => ?_)
      rcases hw_4 with rfl | rfl
      · refine lv_if_ne (tgt := 40) hx hb d_PC_tries_34 (by decide) (fun h => absurd h (by decide)) (fun _ => ?_)
        refine lv_bipush (v := (-3)) hx hb d_PC_tries_37 (by decide) ?_
        have hP9 := hP.sub (ws' := [(x, .inr (0, [.ref f0, .ref a0, .ref r0, .ref w0, .ref g0, .ref k0, .int tm, .int gp, .int lk])), (k0, .inr (6, [.int (nI kl), .ref k1, .ref k2])), (k1, .inl (cI, 7, .inl (fun zy => nI (KP zy)))), (k2, .inl (cI, 7, .inl (fun zy => nI (KF zy)))), (a0, .inr (2, [.int (nI np), .ref a1, .ref a2, .ref a3, .ref a4, .ref a5, .ref a6, .ref a7, .ref a8, .ref a9, .ref a10, .ref a11])), (a2, .inl (cI, 24, .inl SI)), (a6, .inl (cI, 12, .inl PH)), (a10, .inl (cI, 12, .inl LE)), (a11, .inl (cI, 12, .inl GR))]) [0, 1, 2, 3, 4, 5, 6, 7, 8] rfl
        have hD9 := hD.sub (ws' := [(x, .inr (0, [.ref f0, .ref a0, .ref r0, .ref w0, .ref g0, .ref k0, .int tm, .int gp, .int lk])), (k0, .inr (6, [.int (nI kl), .ref k1, .ref k2])), (k1, .inl (cI, 7, .inl (fun zy => nI (KP zy)))), (k2, .inl (cI, 7, .inl (fun zy => nI (KF zy)))), (a0, .inr (2, [.int (nI np), .ref a1, .ref a2, .ref a3, .ref a4, .ref a5, .ref a6, .ref a7, .ref a8, .ref a9, .ref a10, .ref a11])), (a2, .inl (cI, 24, .inl SI)), (a6, .inl (cI, 12, .inl PH)), (a10, .inl (cI, 12, .inl LE)), (a11, .inl (cI, 12, .inl GR))]) [0, 1, 2, 3, 4, 5, 6, 7, 8] (by decide) rfl
        refine W.widen (k := 0) (n := 0) (Nat.le_of_ble_eq_true rfl) (Nat.le_of_ble_eq_true rfl) ?_
        exact W.iret (v := (-3)) hx hb hr (fun tT ht hW => ⟨⟨(-3), (LE, GR), rfl, trivial, by rw [ht]; exact hP9, hD9⟩, hS.F ht⟩) hS.2.2 d_PC_tries_39
      · refine lv_if_ne (tgt := 40) hx hb d_PC_tries_34 (by decide) (fun _ => ?_) (fun h => absurd h (by decide))
        refine lv_iconst (v := 0) hx hb d_PC_tries_40 (by decide) ?_
        refine lv_istore_n (lv' := [(2, .int 0), (0, .ref x), (1, .int v)]) hx hb d_PC_tries_41 rfl hl (by decide) rfl (fun ls hl => ?_)
        refine W_loop (σ := Nat × (Nat → Int32) × (Nat → Int32)) (I := fun xX H locs ls => xX.1 ≤ kl ∧ va_P D vwCl [(x, .inr (0, [.ref f0, .ref a0, .ref r0, .ref w0, .ref g0, .ref k0, .int tm, .int gp, .int lk])), (k0, .inr (6, [.int (nI kl), .ref k1, .ref k2])), (k1, .inl (cI, 7, .inl (fun zy => nI (KP zy)))), (k2, .inl (cI, 7, .inl (fun zy => nI (KF zy)))), (a0, .inr (2, [.int (nI np), .ref a1, .ref a2, .ref a3, .ref a4, .ref a5, .ref a6, .ref a7, .ref a8, .ref a9, .ref a10, .ref a11])), (a2, .inl (cI, 24, .inl SI)), (a6, .inl (cI, 12, .inl PH)), (a10, .inl (cI, 12, .inl xX.2.1)), (a11, .inl (cI, 12, .inl xX.2.2))] H ∧ va_D A [(x, .inr (0, [.ref f0, .ref a0, .ref r0, .ref w0, .ref g0, .ref k0, .int tm, .int gp, .int lk])), (k0, .inr (6, [.int (nI kl), .ref k1, .ref k2])), (k1, .inl (cI, 7, .inl (fun zy => nI (KP zy)))), (k2, .inl (cI, 7, .inl (fun zy => nI (KF zy)))), (a0, .inr (2, [.int (nI np), .ref a1, .ref a2, .ref a3, .ref a4, .ref a5, .ref a6, .ref a7, .ref a8, .ref a9, .ref a10, .ref a11])), (a2, .inl (cI, 24, .inl SI)), (a6, .inl (cI, 12, .inl PH)), (a10, .inl (cI, 12, .inl xX.2.1)), (a11, .inl (cI, 12, .inl xX.2.2))] ∧ va_S A s.heap H locs ∧ lv_has ls 3 [(2, .int (nI xX.1)), (1, .int v), (0, .ref x)]) (μ := fun xX => 8 - xX.1) ?_ (0, LE, GR) ⟨(by first | omega | (dsimp only; omega)), hP, hD, hS, lv_sub hl [0, 2, 1] rfl⟩
        intro xX H_7 locs ls hI ih1
        obtain ⟨k_l, LE_1, GR_1⟩ := xX
        obtain ⟨hk, hP, hD, hS, hl⟩ := hI
        have hP : va_P D vwCl [(x, .inr (0, [.ref f0, .ref a0, .ref r0, .ref w0, .ref g0, .ref k0, .int tm, .int gp, .int lk])), (k0, .inr (6, [.int (nI kl), .ref k1, .ref k2])), (k1, .inl (cI, 7, .inl (fun zy => nI (KP zy)))), (k2, .inl (cI, 7, .inl (fun zy => nI (KF zy)))), (a0, .inr (2, [.int (nI np), .ref a1, .ref a2, .ref a3, .ref a4, .ref a5, .ref a6, .ref a7, .ref a8, .ref a9, .ref a10, .ref a11])), (a2, .inl (cI, 24, .inl SI)), (a6, .inl (cI, 12, .inl PH)), (a10, .inl (cI, 12, .inl LE_1)), (a11, .inl (cI, 12, .inl GR_1))] H_7 := hP
        have hD : va_D A [(x, .inr (0, [.ref f0, .ref a0, .ref r0, .ref w0, .ref g0, .ref k0, .int tm, .int gp, .int lk])), (k0, .inr (6, [.int (nI kl), .ref k1, .ref k2])), (k1, .inl (cI, 7, .inl (fun zy => nI (KP zy)))), (k2, .inl (cI, 7, .inl (fun zy => nI (KF zy)))), (a0, .inr (2, [.int (nI np), .ref a1, .ref a2, .ref a3, .ref a4, .ref a5, .ref a6, .ref a7, .ref a8, .ref a9, .ref a10, .ref a11])), (a2, .inl (cI, 24, .inl SI)), (a6, .inl (cI, 12, .inl PH)), (a10, .inl (cI, 12, .inl LE_1)), (a11, .inl (cI, 12, .inl GR_1))] := hD
        have hl : lv_has ls 3 [(2, .int (nI k_l)), (1, .int v), (0, .ref x)] := hl
        have hk : k_l ≤ kl := hk
        refine lv_iload_n hx hb d_PC_tries_42 rfl (lv_at hl 0 rfl) ?_
        refine lv_aload_n hx hb d_PC_tries_43 rfl (lv_at hl 2 rfl) ?_
        refine va_get (D := D) (ci := 0) (v := .ref k0) (C := R_PC) (T := F_PC) (N := 9) hx hb hts i_PC hown hK hP 0 rfl rfl 5 (by decide) (hts _ q_261) (fun _ h9 => h9) rfl d_PC_tries_44 ?_
        refine va_get (D := D) (ci := 6) (v := .int (nI kl)) (C := R_RO) (T := F_RO) (N := 3) hx hb hts i_RO hown hK hP 1 rfl rfl 0 (by decide) (hts _ q_174) (fun _ h9 => h9) rfl d_PC_tries_47 ?_
        refine lv_icmp_ge (tgt := 90) hx hb d_PC_tries_50 (by decide) (fun h_8 => ?_) (fun h_8 => ?_)
        · have nh_8 : kl ≤ k_l := (nI_leI (a := kl) (b := k_l) (by omega) (by omega)).mp h_8
          refine lv_aload_n hx hb d_PC_tries_90 rfl (lv_at hl 2 rfl) ?_
          refine va_get (D := D) (ci := 0) (v := .ref k0) (C := R_PC) (T := F_PC) (N := 9) hx hb hts i_PC hown hK hP 0 rfl rfl 5 (by decide) (hts _ q_261) (fun _ h9 => h9) rfl d_PC_tries_91 ?_
          refine va_get (D := D) (ci := 6) (v := .int (nI kl)) (C := R_RO) (T := F_RO) (N := 3) hx hb hts i_RO hown hK hP 1 rfl rfl 0 (by decide) (hts _ q_174) (fun _ h9 => h9) rfl d_PC_tries_94 ?_
          have hP9 := hP.sub (ws' := [(x, .inr (0, [.ref f0, .ref a0, .ref r0, .ref w0, .ref g0, .ref k0, .int tm, .int gp, .int lk])), (k0, .inr (6, [.int (nI kl), .ref k1, .ref k2])), (k1, .inl (cI, 7, .inl (fun zy => nI (KP zy)))), (k2, .inl (cI, 7, .inl (fun zy => nI (KF zy)))), (a0, .inr (2, [.int (nI np), .ref a1, .ref a2, .ref a3, .ref a4, .ref a5, .ref a6, .ref a7, .ref a8, .ref a9, .ref a10, .ref a11])), (a2, .inl (cI, 24, .inl SI)), (a6, .inl (cI, 12, .inl PH)), (a10, .inl (cI, 12, .inl LE_1)), (a11, .inl (cI, 12, .inl GR_1))]) [0, 1, 2, 3, 4, 5, 6, 7, 8] rfl
          have hD9 := hD.sub (ws' := [(x, .inr (0, [.ref f0, .ref a0, .ref r0, .ref w0, .ref g0, .ref k0, .int tm, .int gp, .int lk])), (k0, .inr (6, [.int (nI kl), .ref k1, .ref k2])), (k1, .inl (cI, 7, .inl (fun zy => nI (KP zy)))), (k2, .inl (cI, 7, .inl (fun zy => nI (KF zy)))), (a0, .inr (2, [.int (nI np), .ref a1, .ref a2, .ref a3, .ref a4, .ref a5, .ref a6, .ref a7, .ref a8, .ref a9, .ref a10, .ref a11])), (a2, .inl (cI, 24, .inl SI)), (a6, .inl (cI, 12, .inl PH)), (a10, .inl (cI, 12, .inl LE_1)), (a11, .inl (cI, 12, .inl GR_1))]) [0, 1, 2, 3, 4, 5, 6, 7, 8] (by decide) rfl
          refine W.widen (k := 0) (n := 0) (Nat.le_of_ble_eq_true rfl) (Nat.le_of_ble_eq_true rfl) ?_
          exact W.iret (v := (nI kl)) hx hb hr (fun tT ht hW => ⟨⟨(nI kl), (LE_1, GR_1), rfl, trivial, by rw [ht]; exact hP9, hD9⟩, hS.F ht⟩) hS.2.2 d_PC_tries_97
        · have nh_8 : ¬ kl ≤ k_l := fun qZ => h_8 ((nI_leI (a := kl) (b := k_l) (by omega) (by omega)).mpr qZ)
          refine lv_aload_n hx hb d_PC_tries_53 rfl (lv_at hl 2 rfl) ?_
          refine va_get (D := D) (ci := 0) (v := .ref a0) (C := R_PC) (T := F_PC) (N := 9) hx hb hts i_PC hown hK hP 0 rfl rfl 1 (by decide) (hts _ q_257) (fun _ h9 => h9) rfl d_PC_tries_54 ?_
          refine lv_aload_n hx hb d_PC_tries_57 rfl (lv_at hl 2 rfl) ?_
          refine va_get (D := D) (ci := 0) (v := .ref k0) (C := R_PC) (T := F_PC) (N := 9) hx hb hts i_PC hown hK hP 0 rfl rfl 5 (by decide) (hts _ q_261) (fun _ h9 => h9) rfl d_PC_tries_58 ?_
          refine va_get (D := D) (ci := 6) (v := .ref k1) (C := R_RO) (T := F_RO) (N := 3) hx hb hts i_RO hown hK hP 1 rfl rfl 1 (by decide) (hts _ q_179) (fun _ h9 => h9) rfl d_PC_tries_61 ?_
          refine lv_iload_n hx hb d_PC_tries_64 rfl (lv_at hl 0 rfl) ?_
          refine my_ldN hx hb hK hP 2 rfl k_l rfl (by omega) (by decide) d_PC_tries_65 ?_
          have hb_1 : KP k_l ≤ 11 := h_KP _
          refine lv_aload_n hx hb d_PC_tries_66 rfl (lv_at hl 2 rfl) ?_
          refine va_get (D := D) (ci := 0) (v := .ref k0) (C := R_PC) (T := F_PC) (N := 9) hx hb hts i_PC hown hK hP 0 rfl rfl 5 (by decide) (hts _ q_261) (fun _ h9 => h9) rfl d_PC_tries_67 ?_
          refine va_get (D := D) (ci := 6) (v := .ref k2) (C := R_RO) (T := F_RO) (N := 3) hx hb hts i_RO hown hK hP 1 rfl rfl 2 (by decide) (hts _ q_182) (fun _ h9 => h9) rfl d_PC_tries_70 ?_
          refine lv_iload_n hx hb d_PC_tries_73 rfl (lv_at hl 0 rfl) ?_
          refine my_ldN hx hb hK hP 3 rfl k_l rfl (by omega) (by decide) d_PC_tries_74 ?_
          have hb_2 : KF k_l ≤ 1 := h_KF _
          refine lv_iload_n hx hb d_PC_tries_75 rfl (lv_at hl 1 rfl) ?_
          have hPc := hP.sub (ws' := [(a0, .inr (2, [.int (nI np), .ref a1, .ref a2, .ref a3, .ref a4, .ref a5, .ref a6, .ref a7, .ref a8, .ref a9, .ref a10, .ref a11])), (a2, .inl (cI, 24, .inl SI)), (a10, .inl (cI, 12, .inl LE_1)), (a11, .inl (cI, 12, .inl GR_1))]) [4, 5, 7, 8] rfl
          have hDc := hD.sub (ws' := [(a0, .inr (2, [.int (nI np), .ref a1, .ref a2, .ref a3, .ref a4, .ref a5, .ref a6, .ref a7, .ref a8, .ref a9, .ref a10, .ref a11])), (a2, .inl (cI, 24, .inl SI)), (a10, .inl (cI, 12, .inl LE_1)), (a11, .inl (cI, 12, .inl GR_1))]) [4, 5, 7, 8] (by decide) rfl
          have hFc := va_free (wc := [(a0, .inr (2, [.int (nI np), .ref a1, .ref a2, .ref a3, .ref a4, .ref a5, .ref a6, .ref a7, .ref a8, .ref a9, .ref a10, .ref a11])), (a2, .inl (cI, 24, .inl SI)), (a10, .inl (cI, 12, .inl LE_1)), (a11, .inl (cI, 12, .inl GR_1))]) hD hS hA [4, 5, 7, 8] rfl
          refine va_calli (va_runV (As := [.int (nI (KP k_l)), .int (nI (KF k_l)), .int v]) (rest := []) ⟨hx, hb, hml, hown, hts⟩ (g_PA_tryToPay l D cI cZ a0 (KP k_l) (KF k_l) v np a1 a2 a3 a4 a5 a6 a7 a8 a9 a10 a11 SI LE_1 GR_1 H_7.size h_np (by first | omega | (dsimp only; omega)) (by first | omega | (dsimp only; omega))) (my_cwV 3 hts q_592 q_589 q_590 q_591 q_3 rfl rfl (by decide +kernel) ⟨Nat.le_of_ble_eq_true rfl, Nat.le_of_ble_eq_true rfl⟩) (my_preV hPc hDc hK hN 2 0 rfl rfl) rfl rfl hl.1 rfl (lv_room (Nat.le_of_ble_eq_true rfl)) d_PC_tries_76 ⟨Nat.le_of_ble_eq_true rfl, Nat.le_of_ble_eq_true rfl⟩) hS (fun q _ h => hFc q h) hFc (fun r_9 uU tT H_10 locs ht hvm hw_9 hB hz1 hk1 hS => ?_)
          obtain ⟨LE_11, GR_12⟩ := uU
          obtain ⟨hP1, hD1⟩ := hB
          rw [ht] at hP1
          obtain ⟨hP, hD⟩ := va_join (wr := [(x, .inr (0, [.ref f0, .ref a0, .ref r0, .ref w0, .ref g0, .ref k0, .int tm, .int gp, .int lk])), (k0, .inr (6, [.int (nI kl), .ref k1, .ref k2])), (k1, .inl (cI, 7, .inl (fun zy => nI (KP zy)))), (k2, .inl (cI, 7, .inl (fun zy => nI (KF zy)))), (a6, .inl (cI, 12, .inl PH))]) (w1 := [(a0, .inr (2, [.int (nI np), .ref a1, .ref a2, .ref a3, .ref a4, .ref a5, .ref a6, .ref a7, .ref a8, .ref a9, .ref a10, .ref a11])), (a2, .inl (cI, 24, .inl SI)), (a10, .inl (cI, 12, .inl LE_11)), (a11, .inl (cI, 12, .inl GR_12))]) hP hD [4, 5, 7, 8] [0, 1, 2, 3, 6] rfl rfl (by decide) (by decide) hk1 hFc hP1 hD1
          have hP : va_P D vwCl [(x, .inr (0, [.ref f0, .ref a0, .ref r0, .ref w0, .ref g0, .ref k0, .int tm, .int gp, .int lk])), (k0, .inr (6, [.int (nI kl), .ref k1, .ref k2])), (k1, .inl (cI, 7, .inl (fun zy => nI (KP zy)))), (k2, .inl (cI, 7, .inl (fun zy => nI (KF zy)))), (a6, .inl (cI, 12, .inl PH)), (a0, .inr (2, [.int (nI np), .ref a1, .ref a2, .ref a3, .ref a4, .ref a5, .ref a6, .ref a7, .ref a8, .ref a9, .ref a10, .ref a11])), (a2, .inl (cI, 24, .inl SI)), (a10, .inl (cI, 12, .inl LE_11)), (a11, .inl (cI, 12, .inl GR_12))] H_10 := hP
          have hD : va_D A [(x, .inr (0, [.ref f0, .ref a0, .ref r0, .ref w0, .ref g0, .ref k0, .int tm, .int gp, .int lk])), (k0, .inr (6, [.int (nI kl), .ref k1, .ref k2])), (k1, .inl (cI, 7, .inl (fun zy => nI (KP zy)))), (k2, .inl (cI, 7, .inl (fun zy => nI (KF zy)))), (a6, .inl (cI, 12, .inl PH)), (a0, .inr (2, [.int (nI np), .ref a1, .ref a2, .ref a3, .ref a4, .ref a5, .ref a6, .ref a7, .ref a8, .ref a9, .ref a10, .ref a11])), (a2, .inl (cI, 24, .inl SI)), (a10, .inl (cI, 12, .inl LE_11)), (a11, .inl (cI, 12, .inl GR_12))] := hD
          rcases hw_9 with rfl | rfl
          · refine lv_if_ne (tgt := 84) hx hb d_PC_tries_79 (by decide) (fun h => absurd h (by decide)) (fun _ => ?_)
            refine lv_iload_n hx hb d_PC_tries_82 rfl (lv_at hl 0 rfl) ?_
            have hP9 := hP.sub (ws' := [(x, .inr (0, [.ref f0, .ref a0, .ref r0, .ref w0, .ref g0, .ref k0, .int tm, .int gp, .int lk])), (k0, .inr (6, [.int (nI kl), .ref k1, .ref k2])), (k1, .inl (cI, 7, .inl (fun zy => nI (KP zy)))), (k2, .inl (cI, 7, .inl (fun zy => nI (KF zy)))), (a0, .inr (2, [.int (nI np), .ref a1, .ref a2, .ref a3, .ref a4, .ref a5, .ref a6, .ref a7, .ref a8, .ref a9, .ref a10, .ref a11])), (a2, .inl (cI, 24, .inl SI)), (a6, .inl (cI, 12, .inl PH)), (a10, .inl (cI, 12, .inl LE_11)), (a11, .inl (cI, 12, .inl GR_12))]) [0, 1, 2, 3, 5, 6, 4, 7, 8] rfl
            have hD9 := hD.sub (ws' := [(x, .inr (0, [.ref f0, .ref a0, .ref r0, .ref w0, .ref g0, .ref k0, .int tm, .int gp, .int lk])), (k0, .inr (6, [.int (nI kl), .ref k1, .ref k2])), (k1, .inl (cI, 7, .inl (fun zy => nI (KP zy)))), (k2, .inl (cI, 7, .inl (fun zy => nI (KF zy)))), (a0, .inr (2, [.int (nI np), .ref a1, .ref a2, .ref a3, .ref a4, .ref a5, .ref a6, .ref a7, .ref a8, .ref a9, .ref a10, .ref a11])), (a2, .inl (cI, 24, .inl SI)), (a6, .inl (cI, 12, .inl PH)), (a10, .inl (cI, 12, .inl LE_11)), (a11, .inl (cI, 12, .inl GR_12))]) [0, 1, 2, 3, 5, 6, 4, 7, 8] (by decide) rfl
            refine W.widen (k := 0) (n := 0) (Nat.le_of_ble_eq_true rfl) (Nat.le_of_ble_eq_true rfl) ?_
            exact W.iret (v := (nI k_l)) hx hb hr (fun tT ht hW => ⟨⟨(nI k_l), (LE_11, GR_12), rfl, trivial, by rw [ht]; exact hP9, hD9⟩, hS.F ht⟩) hS.2.2 d_PC_tries_83
          · refine lv_if_ne (tgt := 84) hx hb d_PC_tries_79 (by decide) (fun _ => ?_) (fun h => absurd h (by decide))
            refine lv_iinc (v := nI (k_l + 1)) (lv' := [(2, .int (nI (k_l + 1))), (1, .int v), (0, .ref x)]) hx hb d_PC_tries_84 hl (k := 0) rfl (nI_1 k_l) (by decide) rfl (fun ls hl => ?_)
            refine lv_goto (tgt := 42) hx hb d_PC_tries_87 (by decide) ?_
            have hPz := hP.sub (ws' := [(x, .inr (0, [.ref f0, .ref a0, .ref r0, .ref w0, .ref g0, .ref k0, .int tm, .int gp, .int lk])), (k0, .inr (6, [.int (nI kl), .ref k1, .ref k2])), (k1, .inl (cI, 7, .inl (fun zy => nI (KP zy)))), (k2, .inl (cI, 7, .inl (fun zy => nI (KF zy)))), (a0, .inr (2, [.int (nI np), .ref a1, .ref a2, .ref a3, .ref a4, .ref a5, .ref a6, .ref a7, .ref a8, .ref a9, .ref a10, .ref a11])), (a2, .inl (cI, 24, .inl SI)), (a6, .inl (cI, 12, .inl PH)), (a10, .inl (cI, 12, .inl LE_11)), (a11, .inl (cI, 12, .inl GR_12))]) [0, 1, 2, 3, 5, 6, 4, 7, 8] rfl
            have hDz := hD.sub (ws' := [(x, .inr (0, [.ref f0, .ref a0, .ref r0, .ref w0, .ref g0, .ref k0, .int tm, .int gp, .int lk])), (k0, .inr (6, [.int (nI kl), .ref k1, .ref k2])), (k1, .inl (cI, 7, .inl (fun zy => nI (KP zy)))), (k2, .inl (cI, 7, .inl (fun zy => nI (KF zy)))), (a0, .inr (2, [.int (nI np), .ref a1, .ref a2, .ref a3, .ref a4, .ref a5, .ref a6, .ref a7, .ref a8, .ref a9, .ref a10, .ref a11])), (a2, .inl (cI, 24, .inl SI)), (a6, .inl (cI, 12, .inl PH)), (a10, .inl (cI, 12, .inl LE_11)), (a11, .inl (cI, 12, .inl GR_12))]) [0, 1, 2, 3, 5, 6, 4, 7, 8] (by decide) rfl
            exact ih1 ((k_l + 1), LE_11, GR_12) _ _ _ (by first | omega | (dsimp only; omega)) ⟨(by first | omega | (dsimp only; omega)), hPz, hDz, hS, lv_sub hl [0, 1, 2] rfl⟩
  · refine lv_bipush (v := (-2)) hx hb d_PC_tries_10 (by decide) ?_
    have hP9 := hP.sub (ws' := [(x, .inr (0, [.ref f0, .ref a0, .ref r0, .ref w0, .ref g0, .ref k0, .int tm, .int gp, .int lk])), (k0, .inr (6, [.int (nI kl), .ref k1, .ref k2])), (k1, .inl (cI, 7, .inl (fun zy => nI (KP zy)))), (k2, .inl (cI, 7, .inl (fun zy => nI (KF zy)))), (a0, .inr (2, [.int (nI np), .ref a1, .ref a2, .ref a3, .ref a4, .ref a5, .ref a6, .ref a7, .ref a8, .ref a9, .ref a10, .ref a11])), (a2, .inl (cI, 24, .inl SI)), (a6, .inl (cI, 12, .inl PH)), (a10, .inl (cI, 12, .inl LE)), (a11, .inl (cI, 12, .inl GR))]) [0, 1, 2, 3, 4, 5, 6, 7, 8] rfl
    have hD9 := hD.sub (ws' := [(x, .inr (0, [.ref f0, .ref a0, .ref r0, .ref w0, .ref g0, .ref k0, .int tm, .int gp, .int lk])), (k0, .inr (6, [.int (nI kl), .ref k1, .ref k2])), (k1, .inl (cI, 7, .inl (fun zy => nI (KP zy)))), (k2, .inl (cI, 7, .inl (fun zy => nI (KF zy)))), (a0, .inr (2, [.int (nI np), .ref a1, .ref a2, .ref a3, .ref a4, .ref a5, .ref a6, .ref a7, .ref a8, .ref a9, .ref a10, .ref a11])), (a2, .inl (cI, 24, .inl SI)), (a6, .inl (cI, 12, .inl PH)), (a10, .inl (cI, 12, .inl LE)), (a11, .inl (cI, 12, .inl GR))]) [0, 1, 2, 3, 4, 5, 6, 7, 8] (by decide) rfl
    refine W.widen (k := 0) (n := 0) (Nat.le_of_ble_eq_true rfl) (Nat.le_of_ble_eq_true rfl) ?_
    exact W.iret (v := (-2)) hx hb hr (fun tT ht hW => ⟨⟨(-2), (LE, GR), rfl, trivial, by rw [ht]; exact hP9, hD9⟩, hS.F ht⟩) hS.2.2 d_PC_tries_12

set_option maxHeartbeats 4000000 in
set_option maxRecDepth 100000 in
theorem g_PC_learnt (l : Launch) (D : va_G) (cI cZ : ClassId) (x : Nat) (i : Int32) (z : Int32) (f0 : Nat) (a0 : Nat) (r0 : Nat) (w0 : Nat) (g0 : Nat) (k0 : Nat) (tm : Int32) (gp : Int32) (lk : Int32) (np : Nat) (a1 : Nat) (a2 : Nat) (a3 : Nat) (a4 : Nat) (a5 : Nat) (a6 : Nat) (a7 : Nat) (a8 : Nat) (a9 : Nat) (a10 : Nat) (a11 : Nat) (LE : Nat → Int32) (GR : Nat → Int32) (sz : Nat) (h_np : np ≤ 12) : Met l ⟨"PromiseChains", "learnt", "(II)I"⟩ (mw ⟨"PromiseChains", "learnt", "(II)I"⟩ prog_1_method_24_code 3 (some .int)) ({ frames := 2, cells := 0, slots := 0, locals := 43 }) (va_Pc [.ref x, .int i, .int z] (PB D cI cZ sz [(x, .inr (0, [.ref f0, .ref a0, .ref r0, .ref w0, .ref g0, .ref k0, .int tm, .int gp, .int lk])), (a0, .inr (2, [.int (nI np), .ref a1, .ref a2, .ref a3, .ref a4, .ref a5, .ref a6, .ref a7, .ref a8, .ref a9, .ref a10, .ref a11])), (a10, .inl (cI, 12, .inl LE)), (a11, .inl (cI, 12, .inl GR))])) (vp_Si (fun r => True)) 0 0 (fun _ => False) := by
  refine Met.ofW (cc := prog_1_method_24_code) (maxL := 3) (ret := (some .int)) (by decide) rfl ?_
  intro p e s m args below meth c s₁ B hml hv
  obtain ⟨rfl, hsz, hP, hK, hD0, hN⟩ := hv
  have hx := B.exec
  have hb := B.bytes
  have hr := B.returns
  have hts0 := atoms_spec (ws := mw ⟨"PromiseChains", "learnt", "(II)I"⟩ prog_1_method_24_code 3 (some .int)) B.pre
  have hts : ∀ w ∈ tblG, w.before _ s = true := fun w h => hts0 w (List.mem_cons_of_mem _ h)
  have hown : s.vm.findClass "PromiseChains" = some m.cls := findClass_of_methodNamed B.named
  have hlocks := B.notSynchronized
  subst hsz
  have hD := hD0
  have hP : va_P D vwCl [(x, .inr (0, [.ref f0, .ref a0, .ref r0, .ref w0, .ref g0, .ref k0, .int tm, .int gp, .int lk])), (a0, .inr (2, [.int (nI np), .ref a1, .ref a2, .ref a3, .ref a4, .ref a5, .ref a6, .ref a7, .ref a8, .ref a9, .ref a10, .ref a11])), (a10, .inl (cI, 12, .inl LE)), (a11, .inl (cI, 12, .inl GR))] s.heap := hP
  have hl := lv_entry ([.ref x, .int i, .int z]) (n := 3) (Nat.le_of_ble_eq_true rfl)
  rw [lg_entry_eq]
  generalize (lg_sl ([.ref x, .int i, .int z]) ++ List.replicate (3 - (lg_sl ([.ref x, .int i, .int z])).length) Slot.unset).toArray = ls at hl ⊢
  have hl : lv_has ls 3 [(0, .ref x), (1, .int i), (2, .int z)] := hl
  refine lv_aload_n hx hb d_PC_learnt_0 rfl (lv_at hl 0 rfl) ?_
  refine va_get (D := D) (ci := 0) (v := .ref a0) (C := R_PC) (T := F_PC) (N := 9) hx hb hts i_PC hown hK hP 0 rfl rfl 1 (by decide) (hts _ q_257) (fun _ h9 => h9) rfl d_PC_learnt_1 ?_
  refine lv_iload_n hx hb d_PC_learnt_4 rfl (lv_at hl 1 rfl) ?_
  have hPc := hP.sub (ws' := [(a0, .inr (2, [.int (nI np), .ref a1, .ref a2, .ref a3, .ref a4, .ref a5, .ref a6, .ref a7, .ref a8, .ref a9, .ref a10, .ref a11]))]) [1] rfl
  have hDc := hD.sub (ws' := [(a0, .inr (2, [.int (nI np), .ref a1, .ref a2, .ref a3, .ref a4, .ref a5, .ref a6, .ref a7, .ref a8, .ref a9, .ref a10, .ref a11]))]) [1] (by decide) rfl
  refine vp_callSi (va_Run.run (va_runV (As := [.int i]) (rest := []) ⟨hx, hb, hml, hown, hts⟩ (g_PA_has l D cI cZ a0 i np a1 a2 a3 a4 a5 a6 a7 a8 a9 a10 a11 s.heap.size h_np) (my_cwV 1 hts q_486 q_483 q_484 q_485 q_3 rfl rfl (by decide +kernel) ⟨Nat.le_of_ble_eq_true rfl, Nat.le_of_ble_eq_true rfl⟩) (my_preV hPc hDc hK hN 2 0 rfl rfl) rfl rfl hl.1 rfl (lv_room (Nat.le_of_ble_eq_true rfl)) d_PC_learnt_5 ⟨Nat.le_of_ble_eq_true rfl, Nat.le_of_ble_eq_true rfl⟩)) (fun r_1 hw_1 => ?_)
  rcases hw_1 with ⟨hg_2, rfl⟩ | ⟨j_3, hg_4, hg_5, hg_6, rfl⟩
  · have hg_2 : isw i 0 (nI np - 1) = 0 := hg_2
    refine lv_if_eq (tgt := 20) hx hb d_PC_learnt_8 (by decide) (fun _ => ?_) (fun h => absurd h (by decide))
    refine lv_bipush (v := (-2)) hx hb d_PC_learnt_20 (by decide) ?_
    exact W.iret (v := (-2)) hx hb hr (fun tT ht hW => ⟨(-2), rfl, trivial, ht⟩) (fun q h => absurd h List.not_mem_nil) d_PC_learnt_22
  · have hg_4 : j_3 < np := hg_4
    have hg_5 : i = nI j_3 := hg_5
    have hg_6 : ¬ isw i 0 (nI np - 1) = 0 := hg_6
    subst hg_5
    refine lv_if_eq (tgt := 20) hx hb d_PC_learnt_8 (by decide) (fun h => absurd h (by decide)) (fun _ => ?_)
    refine lv_iload_n hx hb d_PC_learnt_11 rfl (lv_at hl 2 rfl) ?_
    refine lv_iconst (v := 0) hx hb d_PC_learnt_12 (by decide) ?_
    refine lv_iconst (v := 1) hx hb d_PC_learnt_13 (by decide) ?_
    have hPc := hP.sub (ws' := []) [] rfl
    have hDc := hD.sub (ws' := []) [] (by decide) rfl
    refine vp_callSi (va_Run.run (va_runS (As := [.int z, .int 0, .int 1]) (rest := []) ⟨hx, hb, hml, hown, hts⟩ (g_within l D cI cZ z 0 1 s.heap.size ) (my_cwS 3 hts q_290 q_288 q_289 q_1 rfl rfl (by decide +kernel) ⟨Nat.le_of_ble_eq_true rfl, Nat.le_of_ble_eq_true rfl⟩) (my_preS hPc hDc hK hN) rfl rfl hl.1 rfl (lv_room (Nat.le_of_ble_eq_true rfl)) d_PC_learnt_14 ⟨Nat.le_of_ble_eq_true rfl, Nat.le_of_ble_eq_true rfl⟩)) (fun r_9 hw_9 => ?_)
    have hf_9_0 : r_9 = isw z 0 1 := hw_9
    have hf_9_0 : r_9 = isw z 0 1 := hf_9_0
    subst hf_9_0
    refine lv_if_ne (tgt := 23) hx hb d_PC_learnt_17 (by decide) (fun h_10 => ?_) (fun h_10 => ?_)
    · refine lv_iload_n hx hb d_PC_learnt_23 rfl (lv_at hl 2 rfl) ?_
      refine lv_if_ne (tgt := 39) hx hb d_PC_learnt_24 (by decide) (fun h_11 => ?_) (fun h_11 => ?_)
      · refine lv_aload_n hx hb d_PC_learnt_39 rfl (lv_at hl 0 rfl) ?_
        refine va_get (D := D) (ci := 0) (v := .ref a0) (C := R_PC) (T := F_PC) (N := 9) hx hb hts i_PC hown hK hP 0 rfl rfl 1 (by decide) (hts _ q_257) (fun _ h9 => h9) rfl d_PC_learnt_40 ?_
        refine va_get (D := D) (ci := 2) (v := .ref a11) (C := R_PA) (T := F_PA) (N := 12) hx hb hts i_PA hown hK hP 1 rfl rfl 11 (by decide) (hts _ q_78) (fun _ h9 => h9) rfl d_PC_learnt_43 ?_
        refine lv_iload_n hx hb d_PC_learnt_46 rfl (lv_at hl 1 rfl) ?_
        refine my_ldI hx hb hK hP 3 rfl j_3 rfl (by omega) (by decide) d_PC_learnt_47 ?_
        exact W.iret (v := (GR j_3)) hx hb hr (fun tT ht hW => ⟨(GR j_3), rfl, trivial, ht⟩) (fun q h => absurd h List.not_mem_nil) d_PC_learnt_48
      · refine lv_aload_n hx hb d_PC_learnt_27 rfl (lv_at hl 0 rfl) ?_
        refine va_get (D := D) (ci := 0) (v := .ref a0) (C := R_PC) (T := F_PC) (N := 9) hx hb hts i_PC hown hK hP 0 rfl rfl 1 (by decide) (hts _ q_257) (fun _ h9 => h9) rfl d_PC_learnt_28 ?_
        refine va_get (D := D) (ci := 2) (v := .ref a10) (C := R_PA) (T := F_PA) (N := 12) hx hb hts i_PA hown hK hP 1 rfl rfl 10 (by decide) (hts _ q_76) (fun _ h9 => h9) rfl d_PC_learnt_31 ?_
        refine lv_iload_n hx hb d_PC_learnt_34 rfl (lv_at hl 1 rfl) ?_
        refine my_ldI hx hb hK hP 2 rfl j_3 rfl (by omega) (by decide) d_PC_learnt_35 ?_
        refine lv_goto (tgt := 48) hx hb d_PC_learnt_36 (by decide) ?_
        exact W.iret (v := (LE j_3)) hx hb hr (fun tT ht hW => ⟨(LE j_3), rfl, trivial, ht⟩) (fun q h => absurd h List.not_mem_nil) d_PC_learnt_48
    · refine lv_bipush (v := (-2)) hx hb d_PC_learnt_20 (by decide) ?_
      exact W.iret (v := (-2)) hx hb hr (fun tT ht hW => ⟨(-2), rfl, trivial, ht⟩) (fun q h => absurd h List.not_mem_nil) d_PC_learnt_22

set_option maxHeartbeats 4000000 in
set_option maxRecDepth 100000 in
theorem g_PC_count (l : Launch) (D : va_G) (cI cZ : ClassId) (x : Nat) (z : Int32) (f0 : Nat) (a0 : Nat) (r0 : Nat) (w0 : Nat) (g0 : Nat) (k0 : Nat) (tm : Int32) (gp : Int32) (lk : Int32) (nn : Nat) (f1 : Nat) (f2 : Nat) (f3 : Nat) (f4 : Nat) (FA : Nat → Int32) (np : Nat) (a1 : Nat) (a2 : Nat) (a3 : Nat) (a4 : Nat) (a5 : Nat) (a6 : Nat) (a7 : Nat) (a8 : Nat) (a9 : Nat) (a10 : Nat) (a11 : Nat) (nq : Nat) (HA : Int32) (r1 : Nat) (r2 : Nat) (r3 : Nat) (r4 : Nat) (r5 : Nat) (r6 : Nat) (r7 : Nat) (r8 : Nat) (r9 : Nat) (r10 : Nat) (r11 : Nat) (sz : Nat) (h_nn : nn ≤ 7) (h_np : np ≤ 12) (h_nq : nq ≤ 40) : Met l ⟨"PromiseChains", "count", "(I)I"⟩ (mw ⟨"PromiseChains", "count", "(I)I"⟩ prog_1_method_25_code 2 (some .int)) ({ frames := 1, cells := 0, slots := 0, locals := 22 }) (va_Pc [.ref x, .int z] (PB D cI cZ sz [(x, .inr (0, [.ref f0, .ref a0, .ref r0, .ref w0, .ref g0, .ref k0, .int tm, .int gp, .int lk])), (f0, .inr (1, [.int (nI nn), .ref f1, .ref f2, .ref f3, .ref f4])), (f4, .inl (cZ, 7, .inl FA)), (a0, .inr (2, [.int (nI np), .ref a1, .ref a2, .ref a3, .ref a4, .ref a5, .ref a6, .ref a7, .ref a8, .ref a9, .ref a10, .ref a11])), (r0, .inr (3, [.int (nI nq), .int HA, .ref r1, .ref r2, .ref r3, .ref r4, .ref r5, .ref r6, .ref r7, .ref r8, .ref r9, .ref r10, .ref r11]))])) (vp_Si (fun r => True)) 0 0 (fun _ => False) := by
  refine Met.ofW (cc := prog_1_method_25_code) (maxL := 2) (ret := (some .int)) (by decide) rfl ?_
  intro p e s m args below meth c s₁ B hml hv
  obtain ⟨rfl, hsz, hP, hK, hD0, hN⟩ := hv
  have hx := B.exec
  have hb := B.bytes
  have hr := B.returns
  have hts0 := atoms_spec (ws := mw ⟨"PromiseChains", "count", "(I)I"⟩ prog_1_method_25_code 2 (some .int)) B.pre
  have hts : ∀ w ∈ tblG, w.before _ s = true := fun w h => hts0 w (List.mem_cons_of_mem _ h)
  have hown : s.vm.findClass "PromiseChains" = some m.cls := findClass_of_methodNamed B.named
  have hlocks := B.notSynchronized
  subst hsz
  have hD := hD0
  have hP : va_P D vwCl [(x, .inr (0, [.ref f0, .ref a0, .ref r0, .ref w0, .ref g0, .ref k0, .int tm, .int gp, .int lk])), (f0, .inr (1, [.int (nI nn), .ref f1, .ref f2, .ref f3, .ref f4])), (f4, .inl (cZ, 7, .inl FA)), (a0, .inr (2, [.int (nI np), .ref a1, .ref a2, .ref a3, .ref a4, .ref a5, .ref a6, .ref a7, .ref a8, .ref a9, .ref a10, .ref a11])), (r0, .inr (3, [.int (nI nq), .int HA, .ref r1, .ref r2, .ref r3, .ref r4, .ref r5, .ref r6, .ref r7, .ref r8, .ref r9, .ref r10, .ref r11]))] s.heap := hP
  have hl := lv_entry ([.ref x, .int z]) (n := 2) (Nat.le_of_ble_eq_true rfl)
  rw [lg_entry_eq]
  generalize (lg_sl ([.ref x, .int z]) ++ List.replicate (2 - (lg_sl ([.ref x, .int z])).length) Slot.unset).toArray = ls at hl ⊢
  have hl : lv_has ls 2 [(0, .ref x), (1, .int z)] := hl
  refine lv_iload_n hx hb d_PC_count_0 rfl (lv_at hl 1 rfl) ?_
  by_cases hz_1 : z = 0
  · subst hz_1
    refine lv_tableIn (off := 47) (tgt := 48) hx hb d_PC_count_1 (by decide) (by decide) (by decide) (by decide) ?_
    refine lv_aload_n hx hb d_PC_count_48 rfl (lv_at hl 0 rfl) ?_
    refine va_get (D := D) (ci := 0) (v := .ref f0) (C := R_PC) (T := F_PC) (N := 9) hx hb hts i_PC hown hK hP 0 rfl rfl 0 (by decide) (hts _ q_256) (fun _ h9 => h9) rfl d_PC_count_49 ?_
    refine va_get (D := D) (ci := 1) (v := .int (nI nn)) (C := R_PE) (T := F_PE) (N := 5) hx hb hts i_PE hown hK hP 1 rfl rfl 0 (by decide) (hts _ q_25) (fun _ h9 => h9) rfl d_PC_count_52 ?_
    exact W.iret (v := (nI nn)) hx hb hr (fun tT ht hW => ⟨(nI nn), rfl, trivial, ht⟩) (fun q h => absurd h List.not_mem_nil) d_PC_count_55
  by_cases hz_2 : z = 1
  · subst hz_2
    refine lv_tableIn (off := 55) (tgt := 56) hx hb d_PC_count_1 (by decide) (by decide) (by decide) (by decide) ?_
    refine lv_aload_n hx hb d_PC_count_56 rfl (lv_at hl 0 rfl) ?_
    refine va_get (D := D) (ci := 0) (v := .ref a0) (C := R_PC) (T := F_PC) (N := 9) hx hb hts i_PC hown hK hP 0 rfl rfl 1 (by decide) (hts _ q_257) (fun _ h9 => h9) rfl d_PC_count_57 ?_
    refine va_get (D := D) (ci := 2) (v := .int (nI np)) (C := R_PA) (T := F_PA) (N := 12) hx hb hts i_PA hown hK hP 3 rfl rfl 0 (by decide) (hts _ q_57) (fun _ h9 => h9) rfl d_PC_count_60 ?_
    exact W.iret (v := (nI np)) hx hb hr (fun tT ht hW => ⟨(nI np), rfl, trivial, ht⟩) (fun q h => absurd h List.not_mem_nil) d_PC_count_63
  by_cases hz_3 : z = 2
  · subst hz_3
    refine lv_tableIn (off := 63) (tgt := 64) hx hb d_PC_count_1 (by decide) (by decide) (by decide) (by decide) ?_
    refine lv_aload_n hx hb d_PC_count_64 rfl (lv_at hl 0 rfl) ?_
    refine va_get (D := D) (ci := 0) (v := .ref r0) (C := R_PC) (T := F_PC) (N := 9) hx hb hts i_PC hown hK hP 0 rfl rfl 2 (by decide) (hts _ q_258) (fun _ h9 => h9) rfl d_PC_count_65 ?_
    refine va_get (D := D) (ci := 3) (v := .int (nI nq)) (C := R_PR) (T := F_PR) (N := 13) hx hb hts i_PR hown hK hP 4 rfl rfl 0 (by decide) (hts _ q_111) (fun _ h9 => h9) rfl d_PC_count_68 ?_
    exact W.iret (v := (nI nq)) hx hb hr (fun tT ht hW => ⟨(nI nq), rfl, trivial, ht⟩) (fun q h => absurd h List.not_mem_nil) d_PC_count_71
  by_cases hz_4 : z = 3
  · subst hz_4
    refine lv_tableIn (off := 71) (tgt := 72) hx hb d_PC_count_1 (by decide) (by decide) (by decide) (by decide) ?_
    refine lv_aload_n hx hb d_PC_count_72 rfl (lv_at hl 0 rfl) ?_
    refine va_get (D := D) (ci := 0) (v := .ref r0) (C := R_PC) (T := F_PC) (N := 9) hx hb hts i_PC hown hK hP 0 rfl rfl 2 (by decide) (hts _ q_258) (fun _ h9 => h9) rfl d_PC_count_73 ?_
    refine va_get (D := D) (ci := 3) (v := .int HA) (C := R_PR) (T := F_PR) (N := 13) hx hb hts i_PR hown hK hP 4 rfl rfl 1 (by decide) (hts _ q_113) (fun _ h9 => h9) rfl d_PC_count_76 ?_
    exact W.iret (v := HA) hx hb hr (fun tT ht hW => ⟨HA, rfl, trivial, ht⟩) (fun q h => absurd h List.not_mem_nil) d_PC_count_79
  by_cases hz_5 : z = 4
  · subst hz_5
    refine lv_tableIn (off := 79) (tgt := 80) hx hb d_PC_count_1 (by decide) (by decide) (by decide) (by decide) ?_
    refine lv_aload_n hx hb d_PC_count_80 rfl (lv_at hl 0 rfl) ?_
    refine va_get (D := D) (ci := 0) (v := .int tm) (C := R_PC) (T := F_PC) (N := 9) hx hb hts i_PC hown hK hP 0 rfl rfl 6 (by decide) (hts _ q_262) (fun _ h9 => h9) rfl d_PC_count_81 ?_
    exact W.iret (v := tm) hx hb hr (fun tT ht hW => ⟨tm, rfl, trivial, ht⟩) (fun q h => absurd h List.not_mem_nil) d_PC_count_84
  by_cases hz_6 : z = 5
  · subst hz_6
    refine lv_tableIn (off := 84) (tgt := 85) hx hb d_PC_count_1 (by decide) (by decide) (by decide) (by decide) ?_
    refine lv_aload_n hx hb d_PC_count_85 rfl (lv_at hl 0 rfl) ?_
    refine va_get (D := D) (ci := 0) (v := .int gp) (C := R_PC) (T := F_PC) (N := 9) hx hb hts i_PC hown hK hP 0 rfl rfl 7 (by decide) (hts _ q_263) (fun _ h9 => h9) rfl d_PC_count_86 ?_
    exact W.iret (v := gp) hx hb hr (fun tT ht hW => ⟨gp, rfl, trivial, ht⟩) (fun q h => absurd h List.not_mem_nil) d_PC_count_89
  by_cases hz_7 : z = 6
  · subst hz_7
    refine lv_tableIn (off := 89) (tgt := 90) hx hb d_PC_count_1 (by decide) (by decide) (by decide) (by decide) ?_
    refine lv_aload_n hx hb d_PC_count_90 rfl (lv_at hl 0 rfl) ?_
    refine va_get (D := D) (ci := 0) (v := .int lk) (C := R_PC) (T := F_PC) (N := 9) hx hb hts i_PC hown hK hP 0 rfl rfl 8 (by decide) (hts _ q_264) (fun _ h9 => h9) rfl d_PC_count_91 ?_
    exact W.iret (v := lk) hx hb hr (fun tT ht hW => ⟨lk, rfl, trivial, ht⟩) (fun q h => absurd h List.not_mem_nil) d_PC_count_94
  by_cases hz_8 : z = 7
  · subst hz_8
    refine lv_tableIn (off := 94) (tgt := 95) hx hb d_PC_count_1 (by decide) (by decide) (by decide) (by decide) ?_
    refine lv_aload_n hx hb d_PC_count_95 rfl (lv_at hl 0 rfl) ?_
    refine va_get (D := D) (ci := 0) (v := .ref f0) (C := R_PC) (T := F_PC) (N := 9) hx hb hts i_PC hown hK hP 0 rfl rfl 0 (by decide) (hts _ q_256) (fun _ h9 => h9) rfl d_PC_count_96 ?_
    have hPc := hP.sub (ws' := [(f0, .inr (1, [.int (nI nn), .ref f1, .ref f2, .ref f3, .ref f4])), (f4, .inl (cZ, 7, .inl FA))]) [1, 2] rfl
    have hDc := hD.sub (ws' := [(f0, .inr (1, [.int (nI nn), .ref f1, .ref f2, .ref f3, .ref f4])), (f4, .inl (cZ, 7, .inl FA))]) [1, 2] (by decide) rfl
    refine vp_callSi (va_Run.run (va_runV (As := []) (rest := []) ⟨hx, hb, hml, hown, hts⟩ (g_PE_howManyAway l D cI cZ f0 nn f1 f2 f3 f4 FA s.heap.size h_nn) (my_cwV 0 hts q_608 q_605 q_606 q_607 q_2 rfl rfl (by decide +kernel) ⟨Nat.le_of_ble_eq_true rfl, Nat.le_of_ble_eq_true rfl⟩) (my_preV hPc hDc hK hN 1 0 rfl rfl) rfl rfl hl.1 rfl (lv_room (Nat.le_of_ble_eq_true rfl)) d_PC_count_99 ⟨Nat.le_of_ble_eq_true rfl, Nat.le_of_ble_eq_true rfl⟩)) (fun r_9 hw_9 => ?_)
    exact W.iret (v := r_9) hx hb hr (fun tT ht hW => ⟨r_9, rfl, trivial, ht⟩) (fun q h => absurd h List.not_mem_nil) d_PC_count_102
  refine lv_tableOut (tgt := 103) hx hb d_PC_count_1 (tb_out 8 (by decide) (fun j hj => by rcases (show j = 0 ∨ j = 1 ∨ j = 2 ∨ j = 3 ∨ j = 4 ∨ j = 5 ∨ j = 6 ∨ j = 7 by omega) with rfl | rfl | rfl | rfl | rfl | rfl | rfl | rfl <;> assumption)) (by decide) ?_
  refine lv_bipush (v := (-2)) hx hb d_PC_count_103 (by decide) ?_
  exact W.iret (v := (-2)) hx hb hr (fun tT ht hW => ⟨(-2), rfl, trivial, ht⟩) (fun q h => absurd h List.not_mem_nil) d_PC_count_105
