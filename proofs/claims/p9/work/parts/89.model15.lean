theorem d_MO_isBetter_0 : decode prog_9_method_41_code 0 = .ok (.aload_n 0, 1) := by decide +kernel
theorem d_MO_isBetter_1 : decode prog_9_method_41_code 1 = .ok (.getfield 223, 3) := by decide +kernel
theorem d_MO_isBetter_4 : decode prog_9_method_41_code 4 = .ok (.ifCond .eq 11, 3) := by decide +kernel
theorem d_MO_isBetter_15 : decode prog_9_method_41_code 15 = .ok (.aload_n 0, 1) := by decide +kernel
theorem d_MO_isBetter_16 : decode prog_9_method_41_code 16 = .ok (.getfield 223, 3) := by decide +kernel
theorem d_MO_isBetter_19 : decode prog_9_method_41_code 19 = .ok (.ifCond .eq 11, 3) := by decide +kernel
theorem d_MO_isBetter_30 : decode prog_9_method_41_code 30 = .ok (.iconst 1, 1) := by decide +kernel
theorem d_MO_isBetter_31 : decode prog_9_method_41_code 31 = .ok (.goto 4, 3) := by decide +kernel
theorem d_MO_isBetter_35 : decode prog_9_method_41_code 35 = .ok (.ireturn, 1) := by decide +kernel
theorem d_MO_isBetter_7 : decode prog_9_method_41_code 7 = .ok (.iload_n 3, 1) := by decide +kernel
theorem d_MO_isBetter_8 : decode prog_9_method_41_code 8 = .ok (.aload_n 0, 1) := by decide +kernel
theorem d_MO_isBetter_9 : decode prog_9_method_41_code 9 = .ok (.getfield 226, 3) := by decide +kernel
theorem d_MO_isBetter_12 : decode prog_9_method_41_code 12 = .ok (.if_icmp .eq 24, 3) := by decide +kernel
theorem d_MO_isBetter_36 : decode prog_9_method_41_code 36 = .ok (.iload_n 2, 1) := by decide +kernel
theorem d_MO_isBetter_37 : decode prog_9_method_41_code 37 = .ok (.aload_n 0, 1) := by decide +kernel
theorem d_MO_isBetter_38 : decode prog_9_method_41_code 38 = .ok (.getfield 229, 3) := by decide +kernel
theorem d_MO_isBetter_41 : decode prog_9_method_41_code 41 = .ok (.if_icmp .eq 17, 3) := by decide +kernel
theorem d_MO_isBetter_58 : decode prog_9_method_41_code 58 = .ok (.iload_n 1, 1) := by decide +kernel
theorem d_MO_isBetter_59 : decode prog_9_method_41_code 59 = .ok (.aload_n 0, 1) := by decide +kernel
theorem d_MO_isBetter_60 : decode prog_9_method_41_code 60 = .ok (.getfield 223, 3) := by decide +kernel
theorem d_MO_isBetter_63 : decode prog_9_method_41_code 63 = .ok (.if_icmp .eq 17, 3) := by decide +kernel
theorem d_MO_isBetter_80 : decode prog_9_method_41_code 80 = .ok (.iconst 0, 1) := by decide +kernel
theorem d_MO_isBetter_81 : decode prog_9_method_41_code 81 = .ok (.istore 4, 2) := by decide +kernel
theorem d_MO_isBetter_83 : decode prog_9_method_41_code 83 = .ok (.iload 4, 2) := by decide +kernel
theorem d_MO_isBetter_85 : decode prog_9_method_41_code 85 = .ok (.iload_n 1, 1) := by decide +kernel
theorem d_MO_isBetter_86 : decode prog_9_method_41_code 86 = .ok (.if_icmp .ge 49, 3) := by decide +kernel
theorem d_MO_isBetter_135 : decode prog_9_method_41_code 135 = .ok (.aload_n 0, 1) := by decide +kernel
theorem d_MO_isBetter_136 : decode prog_9_method_41_code 136 = .ok (.getfield 111, 3) := by decide +kernel
theorem d_MO_isBetter_139 : decode prog_9_method_41_code 139 = .ok (.iconst 0, 1) := by decide +kernel
theorem d_MO_isBetter_140 : decode prog_9_method_41_code 140 = .ok (.iaload, 1) := by decide +kernel
theorem d_MO_isBetter_141 : decode prog_9_method_41_code 141 = .ok (.aload_n 0, 1) := by decide +kernel
theorem d_MO_isBetter_142 : decode prog_9_method_41_code 142 = .ok (.getfield 132, 3) := by decide +kernel
theorem d_MO_isBetter_145 : decode prog_9_method_41_code 145 = .ok (.iconst 0, 1) := by decide +kernel
theorem d_MO_isBetter_146 : decode prog_9_method_41_code 146 = .ok (.iaload, 1) := by decide +kernel
theorem d_MO_isBetter_147 : decode prog_9_method_41_code 147 = .ok (.if_icmp .ge 7, 3) := by decide +kernel
theorem d_MO_isBetter_154 : decode prog_9_method_41_code 154 = .ok (.iconst 0, 1) := by decide +kernel
theorem d_MO_isBetter_155 : decode prog_9_method_41_code 155 = .ok (.ireturn, 1) := by decide +kernel
theorem d_MO_isBetter_150 : decode prog_9_method_41_code 150 = .ok (.iconst 1, 1) := by decide +kernel
theorem d_MO_isBetter_151 : decode prog_9_method_41_code 151 = .ok (.goto 4, 3) := by decide +kernel
theorem d_MO_isBetter_89 : decode prog_9_method_41_code 89 = .ok (.aload_n 0, 1) := by decide +kernel
theorem d_MO_isBetter_90 : decode prog_9_method_41_code 90 = .ok (.getfield 108, 3) := by decide +kernel
theorem d_MO_isBetter_93 : decode prog_9_method_41_code 93 = .ok (.iload 4, 2) := by decide +kernel
theorem d_MO_isBetter_95 : decode prog_9_method_41_code 95 = .ok (.iaload, 1) := by decide +kernel
theorem d_MO_isBetter_96 : decode prog_9_method_41_code 96 = .ok (.aload_n 0, 1) := by decide +kernel
theorem d_MO_isBetter_97 : decode prog_9_method_41_code 97 = .ok (.getfield 129, 3) := by decide +kernel
theorem d_MO_isBetter_100 : decode prog_9_method_41_code 100 = .ok (.iload 4, 2) := by decide +kernel
theorem d_MO_isBetter_102 : decode prog_9_method_41_code 102 = .ok (.iaload, 1) := by decide +kernel
theorem d_MO_isBetter_103 : decode prog_9_method_41_code 103 = .ok (.if_icmp .eq 26, 3) := by decide +kernel
theorem d_MO_isBetter_129 : decode prog_9_method_41_code 129 = .ok (.iinc 4 1, 3) := by decide +kernel
theorem d_MO_isBetter_132 : decode prog_9_method_41_code 132 = .ok (.goto (-49), 3) := by decide +kernel
theorem d_MO_isBetter_106 : decode prog_9_method_41_code 106 = .ok (.aload_n 0, 1) := by decide +kernel
theorem d_MO_isBetter_107 : decode prog_9_method_41_code 107 = .ok (.getfield 108, 3) := by decide +kernel
theorem d_MO_isBetter_110 : decode prog_9_method_41_code 110 = .ok (.iload 4, 2) := by decide +kernel
theorem d_MO_isBetter_112 : decode prog_9_method_41_code 112 = .ok (.iaload, 1) := by decide +kernel
theorem d_MO_isBetter_113 : decode prog_9_method_41_code 113 = .ok (.aload_n 0, 1) := by decide +kernel
theorem d_MO_isBetter_114 : decode prog_9_method_41_code 114 = .ok (.getfield 129, 3) := by decide +kernel
theorem d_MO_isBetter_117 : decode prog_9_method_41_code 117 = .ok (.iload 4, 2) := by decide +kernel
theorem d_MO_isBetter_119 : decode prog_9_method_41_code 119 = .ok (.iaload, 1) := by decide +kernel
theorem d_MO_isBetter_120 : decode prog_9_method_41_code 120 = .ok (.if_icmp .ge 7, 3) := by decide +kernel
theorem d_MO_isBetter_127 : decode prog_9_method_41_code 127 = .ok (.iconst 0, 1) := by decide +kernel
theorem d_MO_isBetter_128 : decode prog_9_method_41_code 128 = .ok (.ireturn, 1) := by decide +kernel
theorem d_MO_isBetter_123 : decode prog_9_method_41_code 123 = .ok (.iconst 1, 1) := by decide +kernel
theorem d_MO_isBetter_124 : decode prog_9_method_41_code 124 = .ok (.goto 4, 3) := by decide +kernel
theorem d_MO_isBetter_66 : decode prog_9_method_41_code 66 = .ok (.iload_n 1, 1) := by decide +kernel
theorem d_MO_isBetter_67 : decode prog_9_method_41_code 67 = .ok (.aload_n 0, 1) := by decide +kernel
theorem d_MO_isBetter_68 : decode prog_9_method_41_code 68 = .ok (.getfield 223, 3) := by decide +kernel
theorem d_MO_isBetter_71 : decode prog_9_method_41_code 71 = .ok (.if_icmp .ge 7, 3) := by decide +kernel
theorem d_MO_isBetter_78 : decode prog_9_method_41_code 78 = .ok (.iconst 0, 1) := by decide +kernel
theorem d_MO_isBetter_79 : decode prog_9_method_41_code 79 = .ok (.ireturn, 1) := by decide +kernel
theorem d_MO_isBetter_74 : decode prog_9_method_41_code 74 = .ok (.iconst 1, 1) := by decide +kernel
theorem d_MO_isBetter_75 : decode prog_9_method_41_code 75 = .ok (.goto 4, 3) := by decide +kernel
theorem d_MO_isBetter_44 : decode prog_9_method_41_code 44 = .ok (.iload_n 2, 1) := by decide +kernel
theorem d_MO_isBetter_45 : decode prog_9_method_41_code 45 = .ok (.aload_n 0, 1) := by decide +kernel
theorem d_MO_isBetter_46 : decode prog_9_method_41_code 46 = .ok (.getfield 229, 3) := by decide +kernel
theorem d_MO_isBetter_49 : decode prog_9_method_41_code 49 = .ok (.if_icmp .ge 7, 3) := by decide +kernel
theorem d_MO_isBetter_56 : decode prog_9_method_41_code 56 = .ok (.iconst 0, 1) := by decide +kernel
theorem d_MO_isBetter_57 : decode prog_9_method_41_code 57 = .ok (.ireturn, 1) := by decide +kernel
theorem d_MO_isBetter_52 : decode prog_9_method_41_code 52 = .ok (.iconst 1, 1) := by decide +kernel
theorem d_MO_isBetter_53 : decode prog_9_method_41_code 53 = .ok (.goto 4, 3) := by decide +kernel
theorem d_MO_isBetter_22 : decode prog_9_method_41_code 22 = .ok (.iload_n 3, 1) := by decide +kernel
theorem d_MO_isBetter_23 : decode prog_9_method_41_code 23 = .ok (.aload_n 0, 1) := by decide +kernel
theorem d_MO_isBetter_24 : decode prog_9_method_41_code 24 = .ok (.getfield 226, 3) := by decide +kernel
theorem d_MO_isBetter_27 : decode prog_9_method_41_code 27 = .ok (.if_icmp .ge 7, 3) := by decide +kernel
theorem d_MO_isBetter_34 : decode prog_9_method_41_code 34 = .ok (.iconst 0, 1) := by decide +kernel
theorem d_MO_tryRing_0 : decode prog_9_method_42_code 0 = .ok (.iload_n 2, 1) := by decide +kernel
theorem d_MO_tryRing_1 : decode prog_9_method_42_code 1 = .ok (.iconst 1, 1) := by decide +kernel
theorem d_MO_tryRing_2 : decode prog_9_method_42_code 2 = .ok (.if_icmp .ge 4, 3) := by decide +kernel
theorem d_MO_tryRing_6 : decode prog_9_method_42_code 6 = .ok (.iload_n 3, 1) := by decide +kernel
theorem d_MO_tryRing_7 : decode prog_9_method_42_code 7 = .ok (.istore 4, 2) := by decide +kernel
theorem d_MO_tryRing_9 : decode prog_9_method_42_code 9 = .ok (.iconst 0, 1) := by decide +kernel
theorem d_MO_tryRing_10 : decode prog_9_method_42_code 10 = .ok (.istore 5, 2) := by decide +kernel
theorem d_MO_tryRing_12 : decode prog_9_method_42_code 12 = .ok (.iload 5, 2) := by decide +kernel
theorem d_MO_tryRing_14 : decode prog_9_method_42_code 14 = .ok (.iload_n 1, 1) := by decide +kernel
theorem d_MO_tryRing_15 : decode prog_9_method_42_code 15 = .ok (.if_icmp .ge 92, 3) := by decide +kernel
theorem d_MO_tryRing_107 : decode prog_9_method_42_code 107 = .ok (.iload 4, 2) := by decide +kernel
theorem d_MO_tryRing_109 : decode prog_9_method_42_code 109 = .ok (.iload_n 3, 1) := by decide +kernel
theorem d_MO_tryRing_110 : decode prog_9_method_42_code 110 = .ok (.if_icmp .ge 73, 3) := by decide +kernel
theorem d_MO_tryRing_183 : decode prog_9_method_42_code 183 = .ok (.return_, 1) := by decide +kernel
theorem d_MO_tryRing_113 : decode prog_9_method_42_code 113 = .ok (.aload_n 0, 1) := by decide +kernel
theorem d_MO_tryRing_114 : decode prog_9_method_42_code 114 = .ok (.iload_n 1, 1) := by decide +kernel
theorem d_MO_tryRing_115 : decode prog_9_method_42_code 115 = .ok (.iload_n 2, 1) := by decide +kernel
theorem d_MO_tryRing_116 : decode prog_9_method_42_code 116 = .ok (.iload 4, 2) := by decide +kernel
theorem d_MO_tryRing_118 : decode prog_9_method_42_code 118 = .ok (.invokevirtual 232, 3) := by decide +kernel
theorem d_MO_tryRing_121 : decode prog_9_method_42_code 121 = .ok (.ifCond .eq 62, 3) := by decide +kernel
theorem d_MO_tryRing_124 : decode prog_9_method_42_code 124 = .ok (.aload_n 0, 1) := by decide +kernel
theorem d_MO_tryRing_125 : decode prog_9_method_42_code 125 = .ok (.iload 4, 2) := by decide +kernel
theorem d_MO_tryRing_127 : decode prog_9_method_42_code 127 = .ok (.putfield 226, 3) := by decide +kernel
theorem d_MO_tryRing_130 : decode prog_9_method_42_code 130 = .ok (.aload_n 0, 1) := by decide +kernel
theorem d_MO_tryRing_131 : decode prog_9_method_42_code 131 = .ok (.iload_n 2, 1) := by decide +kernel
theorem d_MO_tryRing_132 : decode prog_9_method_42_code 132 = .ok (.putfield 229, 3) := by decide +kernel
theorem d_MO_tryRing_135 : decode prog_9_method_42_code 135 = .ok (.aload_n 0, 1) := by decide +kernel
theorem d_MO_tryRing_136 : decode prog_9_method_42_code 136 = .ok (.iload_n 1, 1) := by decide +kernel
theorem d_MO_tryRing_137 : decode prog_9_method_42_code 137 = .ok (.putfield 223, 3) := by decide +kernel
theorem d_MO_tryRing_140 : decode prog_9_method_42_code 140 = .ok (.iconst 0, 1) := by decide +kernel
theorem d_MO_tryRing_141 : decode prog_9_method_42_code 141 = .ok (.istore 5, 2) := by decide +kernel
theorem d_MO_tryRing_143 : decode prog_9_method_42_code 143 = .ok (.iload 5, 2) := by decide +kernel
theorem d_MO_tryRing_145 : decode prog_9_method_42_code 145 = .ok (.iload_n 1, 1) := by decide +kernel
theorem d_MO_tryRing_146 : decode prog_9_method_42_code 146 = .ok (.if_icmp .ge 37, 3) := by decide +kernel
theorem d_MO_tryRing_149 : decode prog_9_method_42_code 149 = .ok (.aload_n 0, 1) := by decide +kernel
theorem d_MO_tryRing_150 : decode prog_9_method_42_code 150 = .ok (.getfield 129, 3) := by decide +kernel
theorem d_MO_tryRing_153 : decode prog_9_method_42_code 153 = .ok (.iload 5, 2) := by decide +kernel
theorem d_MO_tryRing_155 : decode prog_9_method_42_code 155 = .ok (.aload_n 0, 1) := by decide +kernel
theorem d_MO_tryRing_156 : decode prog_9_method_42_code 156 = .ok (.getfield 108, 3) := by decide +kernel
theorem d_MO_tryRing_159 : decode prog_9_method_42_code 159 = .ok (.iload 5, 2) := by decide +kernel
theorem d_MO_tryRing_161 : decode prog_9_method_42_code 161 = .ok (.iaload, 1) := by decide +kernel
theorem d_MO_tryRing_162 : decode prog_9_method_42_code 162 = .ok (.iastore, 1) := by decide +kernel
theorem d_MO_tryRing_163 : decode prog_9_method_42_code 163 = .ok (.aload_n 0, 1) := by decide +kernel
theorem d_MO_tryRing_164 : decode prog_9_method_42_code 164 = .ok (.getfield 132, 3) := by decide +kernel
theorem d_MO_tryRing_167 : decode prog_9_method_42_code 167 = .ok (.iload 5, 2) := by decide +kernel
theorem d_MO_tryRing_169 : decode prog_9_method_42_code 169 = .ok (.aload_n 0, 1) := by decide +kernel
theorem d_MO_tryRing_170 : decode prog_9_method_42_code 170 = .ok (.getfield 111, 3) := by decide +kernel
theorem d_MO_tryRing_173 : decode prog_9_method_42_code 173 = .ok (.iload 5, 2) := by decide +kernel
theorem d_MO_tryRing_175 : decode prog_9_method_42_code 175 = .ok (.iaload, 1) := by decide +kernel
theorem d_MO_tryRing_176 : decode prog_9_method_42_code 176 = .ok (.iastore, 1) := by decide +kernel
theorem d_MO_tryRing_177 : decode prog_9_method_42_code 177 = .ok (.iinc 5 1, 3) := by decide +kernel
theorem d_MO_tryRing_180 : decode prog_9_method_42_code 180 = .ok (.goto (-37), 3) := by decide +kernel
theorem d_MO_tryRing_18 : decode prog_9_method_42_code 18 = .ok (.aload_n 0, 1) := by decide +kernel
theorem d_MO_tryRing_19 : decode prog_9_method_42_code 19 = .ok (.getfield 36, 3) := by decide +kernel
theorem d_MO_tryRing_22 : decode prog_9_method_42_code 22 = .ok (.iconst 2, 1) := by decide +kernel
theorem d_MO_tryRing_23 : decode prog_9_method_42_code 23 = .ok (.aload_n 0, 1) := by decide +kernel
theorem d_MO_tryRing_24 : decode prog_9_method_42_code 24 = .ok (.getfield 108, 3) := by decide +kernel
theorem d_MO_tryRing_27 : decode prog_9_method_42_code 27 = .ok (.iload 5, 2) := by decide +kernel
theorem d_MO_tryRing_29 : decode prog_9_method_42_code 29 = .ok (.iaload, 1) := by decide +kernel
theorem d_MO_tryRing_30 : decode prog_9_method_42_code 30 = .ok (.imul, 1) := by decide +kernel
theorem d_MO_tryRing_31 : decode prog_9_method_42_code 31 = .ok (.aload_n 0, 1) := by decide +kernel
theorem d_MO_tryRing_32 : decode prog_9_method_42_code 32 = .ok (.getfield 111, 3) := by decide +kernel
theorem d_MO_tryRing_35 : decode prog_9_method_42_code 35 = .ok (.iload 5, 2) := by decide +kernel
theorem d_MO_tryRing_37 : decode prog_9_method_42_code 37 = .ok (.iaload, 1) := by decide +kernel
theorem d_MO_tryRing_38 : decode prog_9_method_42_code 38 = .ok (.iadd, 1) := by decide +kernel
theorem d_MO_tryRing_39 : decode prog_9_method_42_code 39 = .ok (.iaload, 1) := by decide +kernel
theorem d_MO_tryRing_40 : decode prog_9_method_42_code 40 = .ok (.istore 6, 2) := by decide +kernel
theorem d_MO_tryRing_42 : decode prog_9_method_42_code 42 = .ok (.aload_n 0, 1) := by decide +kernel
theorem d_MO_tryRing_43 : decode prog_9_method_42_code 43 = .ok (.getfield 36, 3) := by decide +kernel
theorem d_MO_tryRing_46 : decode prog_9_method_42_code 46 = .ok (.iconst 2, 1) := by decide +kernel
theorem d_MO_tryRing_47 : decode prog_9_method_42_code 47 = .ok (.aload_n 0, 1) := by decide +kernel
theorem d_MO_tryRing_48 : decode prog_9_method_42_code 48 = .ok (.getfield 108, 3) := by decide +kernel
theorem d_MO_tryRing_51 : decode prog_9_method_42_code 51 = .ok (.iload 5, 2) := by decide +kernel
theorem d_MO_tryRing_53 : decode prog_9_method_42_code 53 = .ok (.iaload, 1) := by decide +kernel
theorem d_MO_tryRing_54 : decode prog_9_method_42_code 54 = .ok (.imul, 1) := by decide +kernel
theorem d_MO_tryRing_55 : decode prog_9_method_42_code 55 = .ok (.iconst 1, 1) := by decide +kernel
theorem d_MO_tryRing_56 : decode prog_9_method_42_code 56 = .ok (.iadd, 1) := by decide +kernel
theorem d_MO_tryRing_57 : decode prog_9_method_42_code 57 = .ok (.aload_n 0, 1) := by decide +kernel
theorem d_MO_tryRing_58 : decode prog_9_method_42_code 58 = .ok (.getfield 111, 3) := by decide +kernel
theorem d_MO_tryRing_61 : decode prog_9_method_42_code 61 = .ok (.iload 5, 2) := by decide +kernel
theorem d_MO_tryRing_63 : decode prog_9_method_42_code 63 = .ok (.iaload, 1) := by decide +kernel
theorem d_MO_tryRing_64 : decode prog_9_method_42_code 64 = .ok (.isub, 1) := by decide +kernel
theorem d_MO_tryRing_65 : decode prog_9_method_42_code 65 = .ok (.iaload, 1) := by decide +kernel
theorem d_MO_tryRing_66 : decode prog_9_method_42_code 66 = .ok (.istore 7, 2) := by decide +kernel
theorem d_MO_tryRing_68 : decode prog_9_method_42_code 68 = .ok (.iload_n 2, 1) := by decide +kernel
theorem d_MO_tryRing_69 : decode prog_9_method_42_code 69 = .ok (.iload 6, 2) := by decide +kernel
theorem d_MO_tryRing_71 : decode prog_9_method_42_code 71 = .ok (.if_icmp .le 4, 3) := by decide +kernel
theorem d_MO_tryRing_75 : decode prog_9_method_42_code 75 = .ok (.iload 4, 2) := by decide +kernel
theorem d_MO_tryRing_77 : decode prog_9_method_42_code 77 = .ok (.iload 6, 2) := by decide +kernel
theorem d_MO_tryRing_79 : decode prog_9_method_42_code 79 = .ok (.iload 7, 2) := by decide +kernel
theorem d_MO_tryRing_81 : decode prog_9_method_42_code 81 = .ok (.isub, 1) := by decide +kernel
theorem d_MO_tryRing_82 : decode prog_9_method_42_code 82 = .ok (.iconst 2, 1) := by decide +kernel
theorem d_MO_tryRing_83 : decode prog_9_method_42_code 83 = .ok (.iload_n 2, 1) := by decide +kernel
theorem d_MO_tryRing_84 : decode prog_9_method_42_code 84 = .ok (.imul, 1) := by decide +kernel
theorem d_MO_tryRing_85 : decode prog_9_method_42_code 85 = .ok (.isub, 1) := by decide +kernel
theorem d_MO_tryRing_86 : decode prog_9_method_42_code 86 = .ok (.invokestatic 220, 3) := by decide +kernel
theorem d_MO_tryRing_89 : decode prog_9_method_42_code 89 = .ok (.iload 6, 2) := by decide +kernel
theorem d_MO_tryRing_91 : decode prog_9_method_42_code 91 = .ok (.iload 7, 2) := by decide +kernel
theorem d_MO_tryRing_93 : decode prog_9_method_42_code 93 = .ok (.isub, 1) := by decide +kernel
theorem d_MO_tryRing_94 : decode prog_9_method_42_code 94 = .ok (.invokestatic 220, 3) := by decide +kernel
theorem d_MO_tryRing_97 : decode prog_9_method_42_code 97 = .ok (.isub, 1) := by decide +kernel
theorem d_MO_tryRing_98 : decode prog_9_method_42_code 98 = .ok (.iadd, 1) := by decide +kernel
theorem d_MO_tryRing_99 : decode prog_9_method_42_code 99 = .ok (.istore 4, 2) := by decide +kernel
theorem d_MO_tryRing_101 : decode prog_9_method_42_code 101 = .ok (.iinc 5 1, 3) := by decide +kernel
theorem d_MO_tryRing_104 : decode prog_9_method_42_code 104 = .ok (.goto (-92), 3) := by decide +kernel
theorem d_MO_tryRing_74 : decode prog_9_method_42_code 74 = .ok (.return_, 1) := by decide +kernel
theorem d_MO_tryRing_5 : decode prog_9_method_42_code 5 = .ok (.return_, 1) := by decide +kernel
theorem d_MO_tryAll_0 : decode prog_9_method_43_code 0 = .ok (.aload_n 0, 1) := by decide +kernel
theorem d_MO_tryAll_1 : decode prog_9_method_43_code 1 = .ok (.invokevirtual 235, 3) := by decide +kernel
theorem d_MO_tryAll_4 : decode prog_9_method_43_code 4 = .ok (.istore_n 2, 1) := by decide +kernel
theorem d_MO_tryAll_5 : decode prog_9_method_43_code 5 = .ok (.aload_n 0, 1) := by decide +kernel
theorem d_MO_tryAll_6 : decode prog_9_method_43_code 6 = .ok (.iload_n 1, 1) := by decide +kernel
theorem d_MO_tryAll_7 : decode prog_9_method_43_code 7 = .ok (.iconst 1, 1) := by decide +kernel
theorem d_MO_tryAll_8 : decode prog_9_method_43_code 8 = .ok (.iload_n 2, 1) := by decide +kernel
theorem d_MO_tryAll_9 : decode prog_9_method_43_code 9 = .ok (.invokevirtual 238, 3) := by decide +kernel
theorem d_MO_tryAll_12 : decode prog_9_method_43_code 12 = .ok (.aload_n 0, 1) := by decide +kernel
theorem d_MO_tryAll_13 : decode prog_9_method_43_code 13 = .ok (.getfield 36, 3) := by decide +kernel
theorem d_MO_tryAll_16 : decode prog_9_method_43_code 16 = .ok (.iconst 2, 1) := by decide +kernel
theorem d_MO_tryAll_17 : decode prog_9_method_43_code 17 = .ok (.aload_n 0, 1) := by decide +kernel
theorem d_MO_tryAll_18 : decode prog_9_method_43_code 18 = .ok (.getfield 108, 3) := by decide +kernel
theorem d_MO_tryAll_21 : decode prog_9_method_43_code 21 = .ok (.iconst 0, 1) := by decide +kernel
theorem d_MO_tryAll_22 : decode prog_9_method_43_code 22 = .ok (.iaload, 1) := by decide +kernel
theorem d_MO_tryAll_23 : decode prog_9_method_43_code 23 = .ok (.imul, 1) := by decide +kernel
theorem d_MO_tryAll_24 : decode prog_9_method_43_code 24 = .ok (.aload_n 0, 1) := by decide +kernel
theorem d_MO_tryAll_25 : decode prog_9_method_43_code 25 = .ok (.getfield 111, 3) := by decide +kernel
theorem d_MO_tryAll_28 : decode prog_9_method_43_code 28 = .ok (.iconst 0, 1) := by decide +kernel
theorem d_MO_tryAll_29 : decode prog_9_method_43_code 29 = .ok (.iaload, 1) := by decide +kernel
theorem d_MO_tryAll_30 : decode prog_9_method_43_code 30 = .ok (.iadd, 1) := by decide +kernel
theorem d_MO_tryAll_31 : decode prog_9_method_43_code 31 = .ok (.iaload, 1) := by decide +kernel
theorem d_MO_tryAll_32 : decode prog_9_method_43_code 32 = .ok (.istore_n 3, 1) := by decide +kernel
theorem d_MO_tryAll_33 : decode prog_9_method_43_code 33 = .ok (.iconst 0, 1) := by decide +kernel
theorem d_MO_tryAll_34 : decode prog_9_method_43_code 34 = .ok (.istore 4, 2) := by decide +kernel
theorem d_MO_tryAll_36 : decode prog_9_method_43_code 36 = .ok (.iload 4, 2) := by decide +kernel
theorem d_MO_tryAll_38 : decode prog_9_method_43_code 38 = .ok (.iload_n 1, 1) := by decide +kernel
theorem d_MO_tryAll_39 : decode prog_9_method_43_code 39 = .ok (.if_icmp .ge 107, 3) := by decide +kernel
theorem d_MO_tryAll_146 : decode prog_9_method_43_code 146 = .ok (.aload_n 0, 1) := by decide +kernel
theorem d_MO_tryAll_147 : decode prog_9_method_43_code 147 = .ok (.iload_n 1, 1) := by decide +kernel
theorem d_MO_tryAll_148 : decode prog_9_method_43_code 148 = .ok (.iload_n 3, 1) := by decide +kernel
theorem d_MO_tryAll_149 : decode prog_9_method_43_code 149 = .ok (.iload_n 2, 1) := by decide +kernel
theorem d_MO_tryAll_150 : decode prog_9_method_43_code 150 = .ok (.invokevirtual 238, 3) := by decide +kernel
theorem d_MO_tryAll_153 : decode prog_9_method_43_code 153 = .ok (.return_, 1) := by decide +kernel
theorem d_MO_tryAll_42 : decode prog_9_method_43_code 42 = .ok (.aload_n 0, 1) := by decide +kernel
theorem d_MO_tryAll_43 : decode prog_9_method_43_code 43 = .ok (.getfield 36, 3) := by decide +kernel
theorem d_MO_tryAll_46 : decode prog_9_method_43_code 46 = .ok (.iconst 2, 1) := by decide +kernel
theorem d_MO_tryAll_47 : decode prog_9_method_43_code 47 = .ok (.aload_n 0, 1) := by decide +kernel
theorem d_MO_tryAll_48 : decode prog_9_method_43_code 48 = .ok (.getfield 108, 3) := by decide +kernel
theorem d_MO_tryAll_51 : decode prog_9_method_43_code 51 = .ok (.iload 4, 2) := by decide +kernel
theorem d_MO_tryAll_53 : decode prog_9_method_43_code 53 = .ok (.iaload, 1) := by decide +kernel
theorem d_MO_tryAll_54 : decode prog_9_method_43_code 54 = .ok (.imul, 1) := by decide +kernel
theorem d_MO_tryAll_55 : decode prog_9_method_43_code 55 = .ok (.aload_n 0, 1) := by decide +kernel
theorem d_MO_tryAll_56 : decode prog_9_method_43_code 56 = .ok (.getfield 111, 3) := by decide +kernel
theorem d_MO_tryAll_59 : decode prog_9_method_43_code 59 = .ok (.iload 4, 2) := by decide +kernel
theorem d_MO_tryAll_61 : decode prog_9_method_43_code 61 = .ok (.iaload, 1) := by decide +kernel
theorem d_MO_tryAll_62 : decode prog_9_method_43_code 62 = .ok (.iadd, 1) := by decide +kernel
theorem d_MO_tryAll_63 : decode prog_9_method_43_code 63 = .ok (.iaload, 1) := by decide +kernel
theorem d_MO_tryAll_64 : decode prog_9_method_43_code 64 = .ok (.istore 5, 2) := by decide +kernel
theorem d_MO_tryAll_66 : decode prog_9_method_43_code 66 = .ok (.aload_n 0, 1) := by decide +kernel
theorem d_MO_tryAll_67 : decode prog_9_method_43_code 67 = .ok (.getfield 36, 3) := by decide +kernel
theorem d_MO_tryAll_70 : decode prog_9_method_43_code 70 = .ok (.iconst 2, 1) := by decide +kernel
theorem d_MO_tryAll_71 : decode prog_9_method_43_code 71 = .ok (.aload_n 0, 1) := by decide +kernel
theorem d_MO_tryAll_72 : decode prog_9_method_43_code 72 = .ok (.getfield 108, 3) := by decide +kernel
theorem d_MO_tryAll_75 : decode prog_9_method_43_code 75 = .ok (.iload 4, 2) := by decide +kernel
theorem d_MO_tryAll_77 : decode prog_9_method_43_code 77 = .ok (.iaload, 1) := by decide +kernel
theorem d_MO_tryAll_78 : decode prog_9_method_43_code 78 = .ok (.imul, 1) := by decide +kernel
theorem d_MO_tryAll_79 : decode prog_9_method_43_code 79 = .ok (.iconst 1, 1) := by decide +kernel
theorem d_MO_tryAll_80 : decode prog_9_method_43_code 80 = .ok (.iadd, 1) := by decide +kernel
theorem d_MO_tryAll_81 : decode prog_9_method_43_code 81 = .ok (.aload_n 0, 1) := by decide +kernel
theorem d_MO_tryAll_82 : decode prog_9_method_43_code 82 = .ok (.getfield 111, 3) := by decide +kernel
theorem d_MO_tryAll_85 : decode prog_9_method_43_code 85 = .ok (.iload 4, 2) := by decide +kernel
theorem d_MO_tryAll_87 : decode prog_9_method_43_code 87 = .ok (.iaload, 1) := by decide +kernel
theorem d_MO_tryAll_88 : decode prog_9_method_43_code 88 = .ok (.isub, 1) := by decide +kernel
theorem d_MO_tryAll_89 : decode prog_9_method_43_code 89 = .ok (.iaload, 1) := by decide +kernel
theorem d_MO_tryAll_90 : decode prog_9_method_43_code 90 = .ok (.istore 6, 2) := by decide +kernel
theorem d_MO_tryAll_92 : decode prog_9_method_43_code 92 = .ok (.iload 5, 2) := by decide +kernel
theorem d_MO_tryAll_94 : decode prog_9_method_43_code 94 = .ok (.iload_n 3, 1) := by decide +kernel
theorem d_MO_tryAll_95 : decode prog_9_method_43_code 95 = .ok (.if_icmp .ge 8, 3) := by decide +kernel
theorem d_MO_tryAll_103 : decode prog_9_method_43_code 103 = .ok (.iload_n 3, 1) := by decide +kernel
theorem d_MO_tryAll_104 : decode prog_9_method_43_code 104 = .ok (.istore_n 3, 1) := by decide +kernel
theorem d_MO_tryAll_105 : decode prog_9_method_43_code 105 = .ok (.iload 5, 2) := by decide +kernel
theorem d_MO_tryAll_107 : decode prog_9_method_43_code 107 = .ok (.iload 6, 2) := by decide +kernel
theorem d_MO_tryAll_109 : decode prog_9_method_43_code 109 = .ok (.if_icmp .le 31, 3) := by decide +kernel
theorem d_MO_tryAll_140 : decode prog_9_method_43_code 140 = .ok (.iinc 4 1, 3) := by decide +kernel
theorem d_MO_tryAll_143 : decode prog_9_method_43_code 143 = .ok (.goto (-107), 3) := by decide +kernel
theorem d_MO_tryAll_112 : decode prog_9_method_43_code 112 = .ok (.aload_n 0, 1) := by decide +kernel
theorem d_MO_tryAll_113 : decode prog_9_method_43_code 113 = .ok (.iload_n 1, 1) := by decide +kernel
theorem d_MO_tryAll_114 : decode prog_9_method_43_code 114 = .ok (.iload 5, 2) := by decide +kernel
theorem d_MO_tryAll_116 : decode prog_9_method_43_code 116 = .ok (.iload 6, 2) := by decide +kernel
theorem d_MO_tryAll_118 : decode prog_9_method_43_code 118 = .ok (.isub, 1) := by decide +kernel
theorem d_MO_tryAll_119 : decode prog_9_method_43_code 119 = .ok (.iconst 2, 1) := by decide +kernel
theorem d_MO_tryAll_120 : decode prog_9_method_43_code 120 = .ok (.idiv, 1) := by decide +kernel
theorem d_MO_tryAll_121 : decode prog_9_method_43_code 121 = .ok (.iload_n 2, 1) := by decide +kernel
theorem d_MO_tryAll_122 : decode prog_9_method_43_code 122 = .ok (.invokevirtual 238, 3) := by decide +kernel
theorem d_MO_tryAll_125 : decode prog_9_method_43_code 125 = .ok (.aload_n 0, 1) := by decide +kernel
theorem d_MO_tryAll_126 : decode prog_9_method_43_code 126 = .ok (.iload_n 1, 1) := by decide +kernel
theorem d_MO_tryAll_127 : decode prog_9_method_43_code 127 = .ok (.iload 5, 2) := by decide +kernel
theorem d_MO_tryAll_129 : decode prog_9_method_43_code 129 = .ok (.iload 6, 2) := by decide +kernel
theorem d_MO_tryAll_131 : decode prog_9_method_43_code 131 = .ok (.isub, 1) := by decide +kernel
theorem d_MO_tryAll_132 : decode prog_9_method_43_code 132 = .ok (.iconst 1, 1) := by decide +kernel
theorem d_MO_tryAll_133 : decode prog_9_method_43_code 133 = .ok (.iadd, 1) := by decide +kernel
theorem d_MO_tryAll_134 : decode prog_9_method_43_code 134 = .ok (.iconst 2, 1) := by decide +kernel
theorem d_MO_tryAll_135 : decode prog_9_method_43_code 135 = .ok (.idiv, 1) := by decide +kernel
theorem d_MO_tryAll_136 : decode prog_9_method_43_code 136 = .ok (.iload_n 2, 1) := by decide +kernel
theorem d_MO_tryAll_137 : decode prog_9_method_43_code 137 = .ok (.invokevirtual 238, 3) := by decide +kernel
theorem d_MO_tryAll_98 : decode prog_9_method_43_code 98 = .ok (.iload 5, 2) := by decide +kernel
theorem d_MO_tryAll_100 : decode prog_9_method_43_code 100 = .ok (.goto 4, 3) := by decide +kernel
set_option maxHeartbeats 4000000 in
set_option maxRecDepth 100000 in
theorem e_MO_isBetter (l : Launch) (D : va_G) (cI cZ : ClassId) (y : Nat) (ln : Nat) (u : Int32) (v : Int32) (mn : Nat) (mtm : Int32) (mgp : Int32) (mlk : Int32) (y1 : Nat) (y2 : Nat) (y3 : Nat) (y4 : Nat) (mp : Nat) (y5 : Nat) (y6 : Nat) (y7 : Nat) (y8 : Nat) (y9 : Nat) (y10 : Nat) (y11 : Nat) (y12 : Nat) (y13 : Nat) (y14 : Nat) (y15 : Nat) (mq : Nat) (y16 : Nat) (y17 : Nat) (y18 : Nat) (y19 : Nat) (y20 : Nat) (y21 : Nat) (y22 : Nat) (y23 : Nat) (y24 : Nat) (y25 : Nat) (y26 : Nat) (y27 : Nat) (mhw : Int32) (mwn : Nat) (y28 : Nat) (y29 : Nat) (y30 : Nat) (y31 : Nat) (y32 : Nat) (y33 : Nat) (y34 : Nat) (y35 : Nat) (y36 : Nat) (mbm : Nat) (y37 : Nat) (y38 : Nat) (mrm : Nat) (mro : Int32) (mrs : Int32) (DA1 : Nat → Nat) (DA2 : Nat → Nat) (RA1 : Nat → Nat) (RA2 : Nat → Nat) (sz : Nat) (h_mn : mn ≤ 7) (h_mp : mp ≤ 12) (h_mq : mq ≤ 40) (h_mwn : mwn ≤ 8) (h_mbm : mbm ≤ 8) (h_mrm : mrm ≤ 8) (h_DA1 : ∀ zz, DA1 zz ≤ 11) (h_DA2 : ∀ zz, DA2 zz ≤ 1) (h_RA1 : ∀ zz, RA1 zz ≤ 11) (h_RA2 : ∀ zz, RA2 zz ≤ 1) (hln : ln ≤ 8) : Met l ⟨"PromiseChainsModel", "isBetter", "(III)Z"⟩ (mw ⟨"PromiseChainsModel", "isBetter", "(III)Z"⟩ prog_9_method_41_code 5 (some .boolean)) ({ frames := 0, cells := 0, slots := 0, locals := 0 }) (va_Pc [.ref y, .int (nI ln), .int u, .int v] (PB D cI cZ sz [(y, .inr (7, [.int (nI mn), .int mtm, .int mgp, .int mlk, .ref y1, .ref y2, .ref y3, .ref y4, .int (nI mp), .ref y5, .ref y6, .ref y7, .ref y8, .ref y9, .ref y10, .ref y11, .ref y12, .ref y13, .ref y14, .ref y15, .int (nI mq), .ref y16, .ref y17, .ref y18, .ref y19, .ref y20, .ref y21, .ref y22, .ref y23, .ref y24, .ref y25, .ref y26, .ref y27, .int mhw, .int (nI mwn), .ref y28, .ref y29, .ref y30, .ref y31, .ref y32, .ref y33, .ref y34, .ref y35, .ref y36, .int (nI mbm), .ref y37, .ref y38, .int (nI mrm), .int mro, .int mrs])), (y30, .inl (cI, 9, .inl (fun zy => nI (DA1 zy)))), (y31, .inl (cI, 9, .inl (fun zy => nI (DA2 zy)))), (y37, .inl (cI, 8, .inl (fun zy => nI (RA1 zy)))), (y38, .inl (cI, 8, .inl (fun zy => nI (RA2 zy))))])) (vp_Si (fun r => (¬ rbS v u ln DA1 DA2 mrm mro mrs RA1 RA2 ∧ r = 0) ∨ (rbS v u ln DA1 DA2 mrm mro mrs RA1 RA2 ∧ r = 1))) 0 0 (fun _ => False) := by
  refine Met.ofW (cc := prog_9_method_41_code) (maxL := 5) (ret := (some .boolean)) (by decide) rfl ?_
  intro p e s m args below meth c s₁ B hml hv
  obtain ⟨rfl, hsz, hP, hK, hD0, hN⟩ := hv
  have hx := B.exec
  have hb := B.bytes
  have hr := B.returns
  have hts0 := atoms_spec (ws := mw ⟨"PromiseChainsModel", "isBetter", "(III)Z"⟩ prog_9_method_41_code 5 (some .boolean)) B.pre
  have hts : ∀ w ∈ tblG, w.before _ s = true := fun w h => hts0 w (List.mem_cons_of_mem _ h)
  have hown : s.vm.findClass "PromiseChainsModel" = some m.cls := findClass_of_methodNamed B.named
  have hlocks := B.notSynchronized
  subst hsz
  have hD := hD0
  have hP : va_P D vwCl [(y, .inr (7, [.int (nI mn), .int mtm, .int mgp, .int mlk, .ref y1, .ref y2, .ref y3, .ref y4, .int (nI mp), .ref y5, .ref y6, .ref y7, .ref y8, .ref y9, .ref y10, .ref y11, .ref y12, .ref y13, .ref y14, .ref y15, .int (nI mq), .ref y16, .ref y17, .ref y18, .ref y19, .ref y20, .ref y21, .ref y22, .ref y23, .ref y24, .ref y25, .ref y26, .ref y27, .int mhw, .int (nI mwn), .ref y28, .ref y29, .ref y30, .ref y31, .ref y32, .ref y33, .ref y34, .ref y35, .ref y36, .int (nI mbm), .ref y37, .ref y38, .int (nI mrm), .int mro, .int mrs])), (y30, .inl (cI, 9, .inl (fun zy => nI (DA1 zy)))), (y31, .inl (cI, 9, .inl (fun zy => nI (DA2 zy)))), (y37, .inl (cI, 8, .inl (fun zy => nI (RA1 zy)))), (y38, .inl (cI, 8, .inl (fun zy => nI (RA2 zy))))] s.heap := hP
  have hl := lv_entry ([.ref y, .int (nI ln), .int u, .int v]) (n := 5) (Nat.le_of_ble_eq_true rfl)
  rw [lg_entry_eq]
  generalize (lg_sl ([.ref y, .int (nI ln), .int u, .int v]) ++ List.replicate (5 - (lg_sl ([.ref y, .int (nI ln), .int u, .int v])).length) Slot.unset).toArray = ls at hl ⊢
  have hl : lv_has ls 5 [(0, .ref y), (1, .int (nI ln)), (2, .int u), (3, .int v)] := hl
  refine lv_aload_n hx hb d_MO_isBetter_0 rfl (lv_at hl 0 rfl) ?_
  refine va_get (D := D) (ci := 7) (v := .int (nI mrm)) (C := R_MO) (T := F_MO) (N := 50) hx hb hts i_MO hown hK hP 0 rfl rfl 47 (by decide) (hts _ q_679) (fun _ h9 => h9) rfl d_MO_isBetter_1 ?_
  refine lv_if_eq (tgt := 15) hx hb d_MO_isBetter_4 (by decide) (fun h_1 => ?_) (fun h_1 => ?_)
  · have nh_1 : mrm = 0 := (nI_eq (a := mrm) (b := 0) (by omega) (by omega)).mp h_1
    refine lv_aload_n hx hb d_MO_isBetter_15 rfl (lv_at hl 0 rfl) ?_
    refine va_get (D := D) (ci := 7) (v := .int (nI mrm)) (C := R_MO) (T := F_MO) (N := 50) hx hb hts i_MO hown hK hP 0 rfl rfl 47 (by decide) (hts _ q_679) (fun _ h9 => h9) rfl d_MO_isBetter_16 ?_
    refine lv_if_eq (tgt := 30) hx hb d_MO_isBetter_19 (by decide) (fun _ => ?_) (fun h => absurd h_1 h)
    refine lv_iconst (v := 1) hx hb d_MO_isBetter_30 (by decide) ?_
    refine lv_goto (tgt := 35) hx hb d_MO_isBetter_31 (by decide) ?_
    exact W.zret (v := 1) hx hb hr rfl (fun tT ht hW => ⟨1, rfl, (Or.inr (⟨(Or.inl nh_1), rfl⟩)), ht⟩) (fun q h => absurd h List.not_mem_nil) d_MO_isBetter_35
  · have nh_1 : ¬ mrm = 0 := fun qZ => h_1 ((nI_eq (a := mrm) (b := 0) (by omega) (by omega)).mpr qZ)
    refine lv_iload_n hx hb d_MO_isBetter_7 rfl (lv_at hl 3 rfl) ?_
    refine lv_aload_n hx hb d_MO_isBetter_8 rfl (lv_at hl 0 rfl) ?_
    refine va_get (D := D) (ci := 7) (v := .int mro) (C := R_MO) (T := F_MO) (N := 50) hx hb hts i_MO hown hK hP 0 rfl rfl 48 (by decide) (hts _ q_680) (fun _ h9 => h9) rfl d_MO_isBetter_9 ?_
    refine lv_icmp_eq (tgt := 36) hx hb d_MO_isBetter_12 (by decide) (fun h_3 => ?_) (fun h_3 => ?_)
    · refine lv_iload_n hx hb d_MO_isBetter_36 rfl (lv_at hl 2 rfl) ?_
      refine lv_aload_n hx hb d_MO_isBetter_37 rfl (lv_at hl 0 rfl) ?_
      refine va_get (D := D) (ci := 7) (v := .int mrs) (C := R_MO) (T := F_MO) (N := 50) hx hb hts i_MO hown hK hP 0 rfl rfl 49 (by decide) (hts _ q_681) (fun _ h9 => h9) rfl d_MO_isBetter_38 ?_
      refine lv_icmp_eq (tgt := 58) hx hb d_MO_isBetter_41 (by decide) (fun h_4 => ?_) (fun h_4 => ?_)
      · refine lv_iload_n hx hb d_MO_isBetter_58 rfl (lv_at hl 1 rfl) ?_
        refine lv_aload_n hx hb d_MO_isBetter_59 rfl (lv_at hl 0 rfl) ?_
        refine va_get (D := D) (ci := 7) (v := .int (nI mrm)) (C := R_MO) (T := F_MO) (N := 50) hx hb hts i_MO hown hK hP 0 rfl rfl 47 (by decide) (hts _ q_679) (fun _ h9 => h9) rfl d_MO_isBetter_60 ?_
        refine lv_icmp_eq (tgt := 80) hx hb d_MO_isBetter_63 (by decide) (fun h_5 => ?_) (fun h_5 => ?_)
        · have nh_5 : ln = mrm := (nI_eq (a := ln) (b := mrm) (by omega) (by omega)).mp h_5
          refine lv_iconst (v := 0) hx hb d_MO_isBetter_80 (by decide) ?_
          refine lv_istore (lv' := [(4, .int 0), (0, .ref y), (1, .int (nI ln)), (2, .int u), (3, .int v)]) hx hb d_MO_isBetter_81 hl (by decide) rfl (fun ls hl => ?_)
          refine W_loop (σ := Nat) (I := fun xX H locs ls => xX ≤ ln ∧ (∀ zz, zz < xX → DA1 zz = RA1 zz) ∧ H = s.heap ∧ locs = [] ∧ lv_has ls 5 [(4, .int (nI xX)), (1, .int (nI ln)), (0, .ref y)]) (μ := fun xX => 9 - xX) ?_ 0 ⟨(by first | omega | (dsimp only; omega)), (fun _ h => absurd h (Nat.not_lt_zero _)), rfl, rfl, lv_sub hl [0, 2, 1] rfl⟩
          intro xX H_6 locs ls hI ih1
          obtain ⟨k_l, rfl⟩ : ∃ z, z = xX := ⟨_, rfl⟩
          obtain ⟨hk, hrow, rfl, rfl, hl⟩ := hI
          have hl : lv_has ls 5 [(4, .int (nI k_l)), (1, .int (nI ln)), (0, .ref y)] := hl
          have hk : k_l ≤ ln := hk
          have hrow : ∀ zz, zz < k_l → DA1 zz = RA1 zz := hrow
          refine lv_iload hx hb d_MO_isBetter_83 (lv_at hl 0 rfl) ?_
          refine lv_iload_n hx hb d_MO_isBetter_85 rfl (lv_at hl 1 rfl) ?_
          refine lv_icmp_ge (tgt := 135) hx hb d_MO_isBetter_86 (by decide) (fun h_7 => ?_) (fun h_7 => ?_)
          · have nh_7 : ln ≤ k_l := (nI_leI (a := ln) (b := k_l) (by omega) (by omega)).mp h_7
            refine lv_aload_n hx hb d_MO_isBetter_135 rfl (lv_at hl 2 rfl) ?_
            refine va_get (D := D) (ci := 7) (v := .ref y31) (C := R_MO) (T := F_MO) (N := 50) hx hb hts i_MO hown hK hP 0 rfl rfl 38 (by decide) (hts _ q_670) (fun _ h9 => h9) rfl d_MO_isBetter_136 ?_
            refine lv_iconst (v := 0) hx hb d_MO_isBetter_139 (by decide) ?_
            refine my_ldN hx hb hK hP 2 rfl 0 rfl (by omega) (by decide) d_MO_isBetter_140 ?_
            have hb_1 : DA2 0 ≤ 1 := h_DA2 _
            refine lv_aload_n hx hb d_MO_isBetter_141 rfl (lv_at hl 2 rfl) ?_
            refine va_get (D := D) (ci := 7) (v := .ref y38) (C := R_MO) (T := F_MO) (N := 50) hx hb hts i_MO hown hK hP 0 rfl rfl 46 (by decide) (hts _ q_678) (fun _ h9 => h9) rfl d_MO_isBetter_142 ?_
            refine lv_iconst (v := 0) hx hb d_MO_isBetter_145 (by decide) ?_
            refine my_ldN hx hb hK hP 4 rfl 0 rfl (by omega) (by decide) d_MO_isBetter_146 ?_
            have hb_2 : RA2 0 ≤ 1 := h_RA2 _
            refine lv_icmp_ge (tgt := 154) hx hb d_MO_isBetter_147 (by decide) (fun h_8 => ?_) (fun h_8 => ?_)
            · have nh_8 : (RA2 0) ≤ (DA2 0) := (nI_leI (a := (RA2 0)) (b := (DA2 0)) (by omega) (by omega)).mp h_8
              refine lv_iconst (v := 0) hx hb d_MO_isBetter_154 (by decide) ?_
              exact W.zret (v := 0) hx hb hr rfl (fun tT ht hW => ⟨0, rfl, (Or.inl (⟨(rbs_n nh_1 (fun _ => blt_n2 h_4 (rl_n3 nh_5 (fun z hz => hrow z (by omega)))) (nlt_ne h_3) (fun _ _ _ _ => by omega)), rfl⟩)), ht⟩) (fun q h => absurd h List.not_mem_nil) d_MO_isBetter_155
            · have nh_8 : ¬ (RA2 0) ≤ (DA2 0) := fun qZ => h_8 ((nI_leI (a := (RA2 0)) (b := (DA2 0)) (by omega) (by omega)).mpr qZ)
              refine lv_iconst (v := 1) hx hb d_MO_isBetter_150 (by decide) ?_
              refine lv_goto (tgt := 155) hx hb d_MO_isBetter_151 (by decide) ?_
              exact W.zret (v := 1) hx hb hr rfl (fun tT ht hW => ⟨1, rfl, (Or.inr (⟨(Or.inr (Or.inr ⟨h_3, h_4, nh_5, fun z hz => hrow z (by omega), by omega⟩)), rfl⟩)), ht⟩) (fun q h => absurd h List.not_mem_nil) d_MO_isBetter_155
          · have nh_7 : ¬ ln ≤ k_l := fun qZ => h_7 ((nI_leI (a := ln) (b := k_l) (by omega) (by omega)).mpr qZ)
            refine lv_aload_n hx hb d_MO_isBetter_89 rfl (lv_at hl 2 rfl) ?_
            refine va_get (D := D) (ci := 7) (v := .ref y30) (C := R_MO) (T := F_MO) (N := 50) hx hb hts i_MO hown hK hP 0 rfl rfl 37 (by decide) (hts _ q_669) (fun _ h9 => h9) rfl d_MO_isBetter_90 ?_
            refine lv_iload hx hb d_MO_isBetter_93 (lv_at hl 0 rfl) ?_
            refine my_ldN hx hb hK hP 1 rfl k_l rfl (by omega) (by decide) d_MO_isBetter_95 ?_
            have hb_1 : DA1 k_l ≤ 11 := h_DA1 _
            refine lv_aload_n hx hb d_MO_isBetter_96 rfl (lv_at hl 2 rfl) ?_
            refine va_get (D := D) (ci := 7) (v := .ref y37) (C := R_MO) (T := F_MO) (N := 50) hx hb hts i_MO hown hK hP 0 rfl rfl 45 (by decide) (hts _ q_677) (fun _ h9 => h9) rfl d_MO_isBetter_97 ?_
            refine lv_iload hx hb d_MO_isBetter_100 (lv_at hl 0 rfl) ?_
            refine my_ldN hx hb hK hP 3 rfl k_l rfl (by omega) (by decide) d_MO_isBetter_102 ?_
            have hb_2 : RA1 k_l ≤ 11 := h_RA1 _
            refine lv_icmp_eq (tgt := 129) hx hb d_MO_isBetter_103 (by decide) (fun h_9 => ?_) (fun h_9 => ?_)
            · have nh_9 : (DA1 k_l) = (RA1 k_l) := (nI_eq (a := (DA1 k_l)) (b := (RA1 k_l)) (by omega) (by omega)).mp h_9
              refine lv_iinc (v := nI (k_l + 1)) (lv' := [(4, .int (nI (k_l + 1))), (1, .int (nI ln)), (0, .ref y)]) hx hb d_MO_isBetter_129 hl (k := 0) rfl (nI_1 k_l) (by decide) rfl (fun ls hl => ?_)
              refine lv_goto (tgt := 83) hx hb d_MO_isBetter_132 (by decide) ?_
              exact ih1 (k_l + 1) _ _ _ (by first | omega | (dsimp only; omega)) ⟨(by first | omega | (dsimp only; omega)), (all_s hrow (by omega)), rfl, rfl, lv_sub hl [0, 1, 2] rfl⟩
            · have nh_9 : ¬ (DA1 k_l) = (RA1 k_l) := fun qZ => h_9 ((nI_eq (a := (DA1 k_l)) (b := (RA1 k_l)) (by omega) (by omega)).mpr qZ)
              refine lv_aload_n hx hb d_MO_isBetter_106 rfl (lv_at hl 2 rfl) ?_
              refine va_get (D := D) (ci := 7) (v := .ref y30) (C := R_MO) (T := F_MO) (N := 50) hx hb hts i_MO hown hK hP 0 rfl rfl 37 (by decide) (hts _ q_669) (fun _ h9 => h9) rfl d_MO_isBetter_107 ?_
              refine lv_iload hx hb d_MO_isBetter_110 (lv_at hl 0 rfl) ?_
              refine my_ldN hx hb hK hP 1 rfl k_l rfl (by omega) (by decide) d_MO_isBetter_112 ?_
              have hb_3 : DA1 k_l ≤ 11 := h_DA1 _
              refine lv_aload_n hx hb d_MO_isBetter_113 rfl (lv_at hl 2 rfl) ?_
              refine va_get (D := D) (ci := 7) (v := .ref y37) (C := R_MO) (T := F_MO) (N := 50) hx hb hts i_MO hown hK hP 0 rfl rfl 45 (by decide) (hts _ q_677) (fun _ h9 => h9) rfl d_MO_isBetter_114 ?_
              refine lv_iload hx hb d_MO_isBetter_117 (lv_at hl 0 rfl) ?_
              refine my_ldN hx hb hK hP 3 rfl k_l rfl (by omega) (by decide) d_MO_isBetter_119 ?_
              have hb_4 : RA1 k_l ≤ 11 := h_RA1 _
              refine lv_icmp_ge (tgt := 127) hx hb d_MO_isBetter_120 (by decide) (fun h_10 => ?_) (fun h_10 => ?_)
              · have nh_10 : (RA1 k_l) ≤ (DA1 k_l) := (nI_leI (a := (RA1 k_l)) (b := (DA1 k_l)) (by omega) (by omega)).mp h_10
                refine lv_iconst (v := 0) hx hb d_MO_isBetter_127 (by decide) ?_
                exact W.zret (v := 0) hx hb hr rfl (fun tT ht hW => ⟨0, rfl, (Or.inl (⟨(rbs_n nh_1 (fun _ => blt_n2 h_4 (rl_n2 nh_5 hrow (by omega) (by omega))) (nlt_ne h_3) (fun _ _ _ hZ => absurd (hZ k_l (by omega)) (by omega))), rfl⟩)), ht⟩) (fun q h => absurd h List.not_mem_nil) d_MO_isBetter_128
              · have nh_10 : ¬ (RA1 k_l) ≤ (DA1 k_l) := fun qZ => h_10 ((nI_leI (a := (RA1 k_l)) (b := (DA1 k_l)) (by omega) (by omega)).mpr qZ)
                refine lv_iconst (v := 1) hx hb d_MO_isBetter_123 (by decide) ?_
                refine lv_goto (tgt := 128) hx hb d_MO_isBetter_124 (by decide) ?_
                exact W.zret (v := 1) hx hb hr rfl (fun tT ht hW => ⟨1, rfl, (Or.inr (⟨(Or.inr (Or.inl (Or.inr ⟨h_3, Or.inr ⟨h_4, Or.inr ⟨nh_5, k_l, by omega, hrow, by omega⟩⟩⟩))), rfl⟩)), ht⟩) (fun q h => absurd h List.not_mem_nil) d_MO_isBetter_128
        · have nh_5 : ¬ ln = mrm := fun qZ => h_5 ((nI_eq (a := ln) (b := mrm) (by omega) (by omega)).mpr qZ)
          refine lv_iload_n hx hb d_MO_isBetter_66 rfl (lv_at hl 1 rfl) ?_
          refine lv_aload_n hx hb d_MO_isBetter_67 rfl (lv_at hl 0 rfl) ?_
          refine va_get (D := D) (ci := 7) (v := .int (nI mrm)) (C := R_MO) (T := F_MO) (N := 50) hx hb hts i_MO hown hK hP 0 rfl rfl 47 (by decide) (hts _ q_679) (fun _ h9 => h9) rfl d_MO_isBetter_68 ?_
          refine lv_icmp_ge (tgt := 78) hx hb d_MO_isBetter_71 (by decide) (fun h_11 => ?_) (fun h_11 => ?_)
          · have nh_11 : mrm ≤ ln := (nI_leI (a := mrm) (b := ln) (by omega) (by omega)).mp h_11
            refine lv_iconst (v := 0) hx hb d_MO_isBetter_78 (by decide) ?_
            exact W.zret (v := 0) hx hb hr rfl (fun tT ht hW => ⟨0, rfl, (Or.inl (⟨(rbs_n nh_1 (fun _ => blt_n2 h_4 (rl_n1 nh_5 (show ¬ ln < mrm by omega))) (nlt_ne h_3) (fun _ _ hZ => absurd hZ nh_5)), rfl⟩)), ht⟩) (fun q h => absurd h List.not_mem_nil) d_MO_isBetter_79
          · have nh_11 : ¬ mrm ≤ ln := fun qZ => h_11 ((nI_leI (a := mrm) (b := ln) (by omega) (by omega)).mpr qZ)
            refine lv_iconst (v := 1) hx hb d_MO_isBetter_74 (by decide) ?_
            refine lv_goto (tgt := 79) hx hb d_MO_isBetter_75 (by decide) ?_
            exact W.zret (v := 1) hx hb hr rfl (fun tT ht hW => ⟨1, rfl, (Or.inr (⟨(Or.inr (Or.inl (Or.inr ⟨h_3, Or.inr ⟨h_4, Or.inl (show ln < mrm by omega)⟩⟩))), rfl⟩)), ht⟩) (fun q h => absurd h List.not_mem_nil) d_MO_isBetter_79
      · refine lv_iload_n hx hb d_MO_isBetter_44 rfl (lv_at hl 2 rfl) ?_
        refine lv_aload_n hx hb d_MO_isBetter_45 rfl (lv_at hl 0 rfl) ?_
        refine va_get (D := D) (ci := 7) (v := .int mrs) (C := R_MO) (T := F_MO) (N := 50) hx hb hts i_MO hown hK hP 0 rfl rfl 49 (by decide) (hts _ q_681) (fun _ h9 => h9) rfl d_MO_isBetter_46 ?_
        refine lv_icmp_ge (tgt := 56) hx hb d_MO_isBetter_49 (by decide) (fun h_12 => ?_) (fun h_12 => ?_)
        · refine lv_iconst (v := 0) hx hb d_MO_isBetter_56 (by decide) ?_
          exact W.zret (v := 0) hx hb hr rfl (fun tT ht hW => ⟨0, rfl, (Or.inl (⟨(rbs_n nh_1 (fun _ => blt_n1 (Int32.not_lt.mpr h_12) h_4) (nlt_ne h_3) (fun _ hZ => absurd hZ h_4)), rfl⟩)), ht⟩) (fun q h => absurd h List.not_mem_nil) d_MO_isBetter_57
        · refine lv_iconst (v := 1) hx hb d_MO_isBetter_52 (by decide) ?_
          refine lv_goto (tgt := 57) hx hb d_MO_isBetter_53 (by decide) ?_
          exact W.zret (v := 1) hx hb hr rfl (fun tT ht hW => ⟨1, rfl, (Or.inr (⟨(Or.inr (Or.inl (Or.inr ⟨h_3, Or.inl (Int32.not_le.mp h_12)⟩))), rfl⟩)), ht⟩) (fun q h => absurd h List.not_mem_nil) d_MO_isBetter_57
    · refine lv_aload_n hx hb d_MO_isBetter_15 rfl (lv_at hl 0 rfl) ?_
      refine va_get (D := D) (ci := 7) (v := .int (nI mrm)) (C := R_MO) (T := F_MO) (N := 50) hx hb hts i_MO hown hK hP 0 rfl rfl 47 (by decide) (hts _ q_679) (fun _ h9 => h9) rfl d_MO_isBetter_16 ?_
      refine lv_if_eq (tgt := 30) hx hb d_MO_isBetter_19 (by decide) (fun h => absurd h h_1) (fun _ => ?_)
      refine lv_iload_n hx hb d_MO_isBetter_22 rfl (lv_at hl 3 rfl) ?_
      refine lv_aload_n hx hb d_MO_isBetter_23 rfl (lv_at hl 0 rfl) ?_
      refine va_get (D := D) (ci := 7) (v := .int mro) (C := R_MO) (T := F_MO) (N := 50) hx hb hts i_MO hown hK hP 0 rfl rfl 48 (by decide) (hts _ q_680) (fun _ h9 => h9) rfl d_MO_isBetter_24 ?_
      refine lv_icmp_ge (tgt := 34) hx hb d_MO_isBetter_27 (by decide) (fun h_14 => ?_) (fun h_14 => ?_)
      · refine lv_iconst (v := 0) hx hb d_MO_isBetter_34 (by decide) ?_
        exact W.zret (v := 0) hx hb hr rfl (fun tT ht hW => ⟨0, rfl, (Or.inl (⟨(rbs_n nh_1 (fun hZ => absurd hZ h_3) (Int32.not_lt.mpr h_14) (fun hZ => absurd hZ h_3)), rfl⟩)), ht⟩) (fun q h => absurd h List.not_mem_nil) d_MO_isBetter_35
      · refine lv_iconst (v := 1) hx hb d_MO_isBetter_30 (by decide) ?_
        refine lv_goto (tgt := 35) hx hb d_MO_isBetter_31 (by decide) ?_
        exact W.zret (v := 1) hx hb hr rfl (fun tT ht hW => ⟨1, rfl, (Or.inr (⟨(Or.inr (Or.inl (Or.inl (Int32.not_le.mp h_14)))), rfl⟩)), ht⟩) (fun q h => absurd h List.not_mem_nil) d_MO_isBetter_35

set_option maxHeartbeats 4000000 in
set_option maxRecDepth 100000 in
theorem e_MO_tryRing (l : Launch) (D : va_G) (cI cZ : ClassId) (y : Nat) (ln : Nat) (u : Int32) (v : Int32) (mn : Nat) (mtm : Int32) (mgp : Int32) (mlk : Int32) (y1 : Nat) (y2 : Nat) (y3 : Nat) (y4 : Nat) (mp : Nat) (y5 : Nat) (y6 : Nat) (y7 : Nat) (y8 : Nat) (y9 : Nat) (y10 : Nat) (y11 : Nat) (y12 : Nat) (y13 : Nat) (y14 : Nat) (y15 : Nat) (mq : Nat) (y16 : Nat) (y17 : Nat) (y18 : Nat) (y19 : Nat) (y20 : Nat) (y21 : Nat) (y22 : Nat) (y23 : Nat) (y24 : Nat) (y25 : Nat) (y26 : Nat) (y27 : Nat) (mhw : Int32) (mwn : Nat) (y28 : Nat) (y29 : Nat) (y30 : Nat) (y31 : Nat) (y32 : Nat) (y33 : Nat) (y34 : Nat) (y35 : Nat) (y36 : Nat) (mbm : Nat) (y37 : Nat) (y38 : Nat) (mrm : Nat) (mro : Int32) (mrs : Int32) (MS : Nat → Int32) (DA1 : Nat → Nat) (DA2 : Nat → Nat) (RA1 : Nat → Nat) (RA2 : Nat → Nat) (sz : Nat) (h_mn : mn ≤ 7) (h_mp : mp ≤ 12) (h_mq : mq ≤ 40) (h_mwn : mwn ≤ 8) (h_mbm : mbm ≤ 8) (h_mrm : mrm ≤ 8) (h_DA1 : ∀ zz, DA1 zz ≤ 11) (h_DA2 : ∀ zz, DA2 zz ≤ 1) (h_RA1 : ∀ zz, RA1 zz ≤ 11) (h_RA2 : ∀ zz, RA2 zz ≤ 1) (hln : ln ≤ 8) (hln1 : 1 ≤ ln) : Met l ⟨"PromiseChainsModel", "tryRing", "(III)V"⟩ (mw ⟨"PromiseChainsModel", "tryRing", "(III)V"⟩ prog_9_method_42_code 8 none) ({ frames := 1, cells := 0, slots := 0, locals := 24 }) (va_Pc [.ref y, .int (nI ln), .int u, .int v] (PB D cI cZ sz [(y, .inr (7, [.int (nI mn), .int mtm, .int mgp, .int mlk, .ref y1, .ref y2, .ref y3, .ref y4, .int (nI mp), .ref y5, .ref y6, .ref y7, .ref y8, .ref y9, .ref y10, .ref y11, .ref y12, .ref y13, .ref y14, .ref y15, .int (nI mq), .ref y16, .ref y17, .ref y18, .ref y19, .ref y20, .ref y21, .ref y22, .ref y23, .ref y24, .ref y25, .ref y26, .ref y27, .int mhw, .int (nI mwn), .ref y28, .ref y29, .ref y30, .ref y31, .ref y32, .ref y33, .ref y34, .ref y35, .ref y36, .int (nI mbm), .ref y37, .ref y38, .int (nI mrm), .int mro, .int mrs])), (y6, .inl (cI, 24, .inl MS)), (y30, .inl (cI, 9, .inl (fun zy => nI (DA1 zy)))), (y31, .inl (cI, 9, .inl (fun zy => nI (DA2 zy)))), (y37, .inl (cI, 8, .inl (fun zy => nI (RA1 zy)))), (y38, .inl (cI, 8, .inl (fun zy => nI (RA2 zy))))])) (va_Qv (S := Nat × Int32 × Int32 × (Nat → Nat) × (Nat → Nat)) (fun uU => (uU.1 ≤ 8) ∧ (∀ zz, uU.2.2.2.1 zz ≤ 11) ∧ (∀ zz, uU.2.2.2.2 zz ≤ 1) ∧ (ROI MS ln DA1 DA2 v (fun m => m = u) mrm mro mrs RA1 RA2 uU.1 uU.2.1 uU.2.2.1 uU.2.2.2.1 uU.2.2.2.2)) (fun uU tT => BB D (va_A [(y, .inr (7, [.int (nI mn), .int mtm, .int mgp, .int mlk, .ref y1, .ref y2, .ref y3, .ref y4, .int (nI mp), .ref y5, .ref y6, .ref y7, .ref y8, .ref y9, .ref y10, .ref y11, .ref y12, .ref y13, .ref y14, .ref y15, .int (nI mq), .ref y16, .ref y17, .ref y18, .ref y19, .ref y20, .ref y21, .ref y22, .ref y23, .ref y24, .ref y25, .ref y26, .ref y27, .int mhw, .int (nI mwn), .ref y28, .ref y29, .ref y30, .ref y31, .ref y32, .ref y33, .ref y34, .ref y35, .ref y36, .int (nI mbm), .ref y37, .ref y38, .int (nI mrm), .int mro, .int mrs])), (y6, .inl (cI, 24, .inl MS)), (y30, .inl (cI, 9, .inl (fun zy => nI (DA1 zy)))), (y31, .inl (cI, 9, .inl (fun zy => nI (DA2 zy)))), (y37, .inl (cI, 8, .inl (fun zy => nI (RA1 zy)))), (y38, .inl (cI, 8, .inl (fun zy => nI (RA2 zy))))] sz) [(y, .inr (7, [.int (nI mn), .int mtm, .int mgp, .int mlk, .ref y1, .ref y2, .ref y3, .ref y4, .int (nI mp), .ref y5, .ref y6, .ref y7, .ref y8, .ref y9, .ref y10, .ref y11, .ref y12, .ref y13, .ref y14, .ref y15, .int (nI mq), .ref y16, .ref y17, .ref y18, .ref y19, .ref y20, .ref y21, .ref y22, .ref y23, .ref y24, .ref y25, .ref y26, .ref y27, .int mhw, .int (nI mwn), .ref y28, .ref y29, .ref y30, .ref y31, .ref y32, .ref y33, .ref y34, .ref y35, .ref y36, .int (nI mbm), .ref y37, .ref y38, .int (nI uU.1), .int (uU.2.1), .int (uU.2.2.1)])), (y6, .inl (cI, 24, .inl MS)), (y30, .inl (cI, 9, .inl (fun zy => nI (DA1 zy)))), (y31, .inl (cI, 9, .inl (fun zy => nI (DA2 zy)))), (y37, .inl (cI, 8, .inl (fun zy => nI ((uU.2.2.2.1) zy)))), (y38, .inl (cI, 8, .inl (fun zy => nI ((uU.2.2.2.2) zy))))] tT) (va_A [(y, .inr (7, [.int (nI mn), .int mtm, .int mgp, .int mlk, .ref y1, .ref y2, .ref y3, .ref y4, .int (nI mp), .ref y5, .ref y6, .ref y7, .ref y8, .ref y9, .ref y10, .ref y11, .ref y12, .ref y13, .ref y14, .ref y15, .int (nI mq), .ref y16, .ref y17, .ref y18, .ref y19, .ref y20, .ref y21, .ref y22, .ref y23, .ref y24, .ref y25, .ref y26, .ref y27, .int mhw, .int (nI mwn), .ref y28, .ref y29, .ref y30, .ref y31, .ref y32, .ref y33, .ref y34, .ref y35, .ref y36, .int (nI mbm), .ref y37, .ref y38, .int (nI mrm), .int mro, .int mrs])), (y6, .inl (cI, 24, .inl MS)), (y30, .inl (cI, 9, .inl (fun zy => nI (DA1 zy)))), (y31, .inl (cI, 9, .inl (fun zy => nI (DA2 zy)))), (y37, .inl (cI, 8, .inl (fun zy => nI (RA1 zy)))), (y38, .inl (cI, 8, .inl (fun zy => nI (RA2 zy))))] sz)) 0 0 (va_A [(y, .inr (7, [.int (nI mn), .int mtm, .int mgp, .int mlk, .ref y1, .ref y2, .ref y3, .ref y4, .int (nI mp), .ref y5, .ref y6, .ref y7, .ref y8, .ref y9, .ref y10, .ref y11, .ref y12, .ref y13, .ref y14, .ref y15, .int (nI mq), .ref y16, .ref y17, .ref y18, .ref y19, .ref y20, .ref y21, .ref y22, .ref y23, .ref y24, .ref y25, .ref y26, .ref y27, .int mhw, .int (nI mwn), .ref y28, .ref y29, .ref y30, .ref y31, .ref y32, .ref y33, .ref y34, .ref y35, .ref y36, .int (nI mbm), .ref y37, .ref y38, .int (nI mrm), .int mro, .int mrs])), (y6, .inl (cI, 24, .inl MS)), (y30, .inl (cI, 9, .inl (fun zy => nI (DA1 zy)))), (y31, .inl (cI, 9, .inl (fun zy => nI (DA2 zy)))), (y37, .inl (cI, 8, .inl (fun zy => nI (RA1 zy)))), (y38, .inl (cI, 8, .inl (fun zy => nI (RA2 zy))))] sz) := by
  refine Met.ofW (cc := prog_9_method_42_code) (maxL := 8) (ret := none) (by decide) rfl ?_
  intro p e s m args below meth c s₁ B hml hv
  obtain ⟨rfl, hsz, hP, hK, hD0, hN⟩ := hv
  have hx := B.exec
  have hb := B.bytes
  have hr := B.returns
  have hts0 := atoms_spec (ws := mw ⟨"PromiseChainsModel", "tryRing", "(III)V"⟩ prog_9_method_42_code 8 none) B.pre
  have hts : ∀ w ∈ tblG, w.before _ s = true := fun w h => hts0 w (List.mem_cons_of_mem _ h)
  have hown : s.vm.findClass "PromiseChainsModel" = some m.cls := findClass_of_methodNamed B.named
  have hlocks := B.notSynchronized
  subst hsz
  have hD := hD0.self (sz := s.heap.size)
  generalize hAe : va_A [(y, .inr (7, [.int (nI mn), .int mtm, .int mgp, .int mlk, .ref y1, .ref y2, .ref y3, .ref y4, .int (nI mp), .ref y5, .ref y6, .ref y7, .ref y8, .ref y9, .ref y10, .ref y11, .ref y12, .ref y13, .ref y14, .ref y15, .int (nI mq), .ref y16, .ref y17, .ref y18, .ref y19, .ref y20, .ref y21, .ref y22, .ref y23, .ref y24, .ref y25, .ref y26, .ref y27, .int mhw, .int (nI mwn), .ref y28, .ref y29, .ref y30, .ref y31, .ref y32, .ref y33, .ref y34, .ref y35, .ref y36, .int (nI mbm), .ref y37, .ref y38, .int (nI mrm), .int mro, .int mrs])), (y6, .inl (cI, 24, .inl MS)), (y30, .inl (cI, 9, .inl (fun zy => nI (DA1 zy)))), (y31, .inl (cI, 9, .inl (fun zy => nI (DA2 zy)))), (y37, .inl (cI, 8, .inl (fun zy => nI (RA1 zy)))), (y38, .inl (cI, 8, .inl (fun zy => nI (RA2 zy))))] s.heap.size = A at hD ⊢
  have hA : ∀ q : Nat, s.heap.size ≤ q → A q := fun q h => by rw [← hAe]; exact Or.inr h
  have hS : va_S A s.heap s.heap [] := va_S.rf
  have hP : va_P D vwCl [(y, .inr (7, [.int (nI mn), .int mtm, .int mgp, .int mlk, .ref y1, .ref y2, .ref y3, .ref y4, .int (nI mp), .ref y5, .ref y6, .ref y7, .ref y8, .ref y9, .ref y10, .ref y11, .ref y12, .ref y13, .ref y14, .ref y15, .int (nI mq), .ref y16, .ref y17, .ref y18, .ref y19, .ref y20, .ref y21, .ref y22, .ref y23, .ref y24, .ref y25, .ref y26, .ref y27, .int mhw, .int (nI mwn), .ref y28, .ref y29, .ref y30, .ref y31, .ref y32, .ref y33, .ref y34, .ref y35, .ref y36, .int (nI mbm), .ref y37, .ref y38, .int (nI mrm), .int mro, .int mrs])), (y6, .inl (cI, 24, .inl MS)), (y30, .inl (cI, 9, .inl (fun zy => nI (DA1 zy)))), (y31, .inl (cI, 9, .inl (fun zy => nI (DA2 zy)))), (y37, .inl (cI, 8, .inl (fun zy => nI (RA1 zy)))), (y38, .inl (cI, 8, .inl (fun zy => nI (RA2 zy))))] s.heap := hP
  have hl := lv_entry ([.ref y, .int (nI ln), .int u, .int v]) (n := 8) (Nat.le_of_ble_eq_true rfl)
  rw [lg_entry_eq]
  generalize (lg_sl ([.ref y, .int (nI ln), .int u, .int v]) ++ List.replicate (8 - (lg_sl ([.ref y, .int (nI ln), .int u, .int v])).length) Slot.unset).toArray = ls at hl ⊢
  have hl : lv_has ls 8 [(0, .ref y), (1, .int (nI ln)), (2, .int u), (3, .int v)] := hl
  refine lv_iload_n hx hb d_MO_tryRing_0 rfl (lv_at hl 2 rfl) ?_
  refine lv_iconst (v := 1) hx hb d_MO_tryRing_1 (by decide) ?_
  refine lv_icmp_ge (tgt := 6) hx hb d_MO_tryRing_2 (by decide) (fun h_1 => ?_) (fun h_1 => ?_)
  · refine lv_iload_n hx hb d_MO_tryRing_6 rfl (lv_at hl 3 rfl) ?_
    refine lv_istore (lv' := [(4, .int v), (0, .ref y), (1, .int (nI ln)), (2, .int u), (3, .int v)]) hx hb d_MO_tryRing_7 hl (by decide) rfl (fun ls hl => ?_)
    refine lv_iconst (v := 0) hx hb d_MO_tryRing_9 (by decide) ?_
    refine lv_istore (lv' := [(5, .int 0), (4, .int v), (0, .ref y), (1, .int (nI ln)), (2, .int u), (3, .int v)]) hx hb d_MO_tryRing_10 hl (by decide) rfl (fun ls hl => ?_)
    refine W_loop (σ := Nat × Int32) (I := fun xX H locs ls => xX.1 ≤ ln ∧ xX.2 = rOff MS (pfx DA1 DA2) u v xX.1 ∧ (∀ zz, zz < xX.1 → u ≤ MS (2 * DA1 zz + DA2 zz)) ∧ va_P D vwCl [(y, .inr (7, [.int (nI mn), .int mtm, .int mgp, .int mlk, .ref y1, .ref y2, .ref y3, .ref y4, .int (nI mp), .ref y5, .ref y6, .ref y7, .ref y8, .ref y9, .ref y10, .ref y11, .ref y12, .ref y13, .ref y14, .ref y15, .int (nI mq), .ref y16, .ref y17, .ref y18, .ref y19, .ref y20, .ref y21, .ref y22, .ref y23, .ref y24, .ref y25, .ref y26, .ref y27, .int mhw, .int (nI mwn), .ref y28, .ref y29, .ref y30, .ref y31, .ref y32, .ref y33, .ref y34, .ref y35, .ref y36, .int (nI mbm), .ref y37, .ref y38, .int (nI mrm), .int mro, .int mrs])), (y6, .inl (cI, 24, .inl MS)), (y30, .inl (cI, 9, .inl (fun zy => nI (DA1 zy)))), (y31, .inl (cI, 9, .inl (fun zy => nI (DA2 zy)))), (y37, .inl (cI, 8, .inl (fun zy => nI (RA1 zy)))), (y38, .inl (cI, 8, .inl (fun zy => nI (RA2 zy))))] H ∧ va_D A [(y, .inr (7, [.int (nI mn), .int mtm, .int mgp, .int mlk, .ref y1, .ref y2, .ref y3, .ref y4, .int (nI mp), .ref y5, .ref y6, .ref y7, .ref y8, .ref y9, .ref y10, .ref y11, .ref y12, .ref y13, .ref y14, .ref y15, .int (nI mq), .ref y16, .ref y17, .ref y18, .ref y19, .ref y20, .ref y21, .ref y22, .ref y23, .ref y24, .ref y25, .ref y26, .ref y27, .int mhw, .int (nI mwn), .ref y28, .ref y29, .ref y30, .ref y31, .ref y32, .ref y33, .ref y34, .ref y35, .ref y36, .int (nI mbm), .ref y37, .ref y38, .int (nI mrm), .int mro, .int mrs])), (y6, .inl (cI, 24, .inl MS)), (y30, .inl (cI, 9, .inl (fun zy => nI (DA1 zy)))), (y31, .inl (cI, 9, .inl (fun zy => nI (DA2 zy)))), (y37, .inl (cI, 8, .inl (fun zy => nI (RA1 zy)))), (y38, .inl (cI, 8, .inl (fun zy => nI (RA2 zy))))] ∧ va_S A s.heap H locs ∧ lv_has ls 8 [(5, .int (nI xX.1)), (4, .int xX.2), (3, .int v), (2, .int u), (1, .int (nI ln)), (0, .ref y)]) (μ := fun xX => 9 - xX.1) ?_ (0, v) ⟨(by first | omega | (dsimp only; omega)), rfl, (fun _ h => absurd h (Nat.not_lt_zero _)), hP, hD, hS, lv_sub hl [0, 1, 5, 4, 3, 2] rfl⟩
    intro xX H_2 locs ls hI ih1
    obtain ⟨k_l, sm_v⟩ := xX
    obtain ⟨hk, hsm, hfit, hP, hD, hS, hl⟩ := hI
    have hP : va_P D vwCl [(y, .inr (7, [.int (nI mn), .int mtm, .int mgp, .int mlk, .ref y1, .ref y2, .ref y3, .ref y4, .int (nI mp), .ref y5, .ref y6, .ref y7, .ref y8, .ref y9, .ref y10, .ref y11, .ref y12, .ref y13, .ref y14, .ref y15, .int (nI mq), .ref y16, .ref y17, .ref y18, .ref y19, .ref y20, .ref y21, .ref y22, .ref y23, .ref y24, .ref y25, .ref y26, .ref y27, .int mhw, .int (nI mwn), .ref y28, .ref y29, .ref y30, .ref y31, .ref y32, .ref y33, .ref y34, .ref y35, .ref y36, .int (nI mbm), .ref y37, .ref y38, .int (nI mrm), .int mro, .int mrs])), (y6, .inl (cI, 24, .inl MS)), (y30, .inl (cI, 9, .inl (fun zy => nI (DA1 zy)))), (y31, .inl (cI, 9, .inl (fun zy => nI (DA2 zy)))), (y37, .inl (cI, 8, .inl (fun zy => nI (RA1 zy)))), (y38, .inl (cI, 8, .inl (fun zy => nI (RA2 zy))))] H_2 := hP
    have hD : va_D A [(y, .inr (7, [.int (nI mn), .int mtm, .int mgp, .int mlk, .ref y1, .ref y2, .ref y3, .ref y4, .int (nI mp), .ref y5, .ref y6, .ref y7, .ref y8, .ref y9, .ref y10, .ref y11, .ref y12, .ref y13, .ref y14, .ref y15, .int (nI mq), .ref y16, .ref y17, .ref y18, .ref y19, .ref y20, .ref y21, .ref y22, .ref y23, .ref y24, .ref y25, .ref y26, .ref y27, .int mhw, .int (nI mwn), .ref y28, .ref y29, .ref y30, .ref y31, .ref y32, .ref y33, .ref y34, .ref y35, .ref y36, .int (nI mbm), .ref y37, .ref y38, .int (nI mrm), .int mro, .int mrs])), (y6, .inl (cI, 24, .inl MS)), (y30, .inl (cI, 9, .inl (fun zy => nI (DA1 zy)))), (y31, .inl (cI, 9, .inl (fun zy => nI (DA2 zy)))), (y37, .inl (cI, 8, .inl (fun zy => nI (RA1 zy)))), (y38, .inl (cI, 8, .inl (fun zy => nI (RA2 zy))))] := hD
    have hl : lv_has ls 8 [(5, .int (nI k_l)), (4, .int sm_v), (3, .int v), (2, .int u), (1, .int (nI ln)), (0, .ref y)] := hl
    have hk : k_l ≤ ln := hk
    have hsm : sm_v = rOff MS (pfx DA1 DA2) u v k_l := hsm
    have hfit : ∀ zz, zz < k_l → u ≤ MS (2 * DA1 zz + DA2 zz) := hfit
    refine lv_iload hx hb d_MO_tryRing_12 (lv_at hl 0 rfl) ?_
    refine lv_iload_n hx hb d_MO_tryRing_14 rfl (lv_at hl 4 rfl) ?_
    refine lv_icmp_ge (tgt := 107) hx hb d_MO_tryRing_15 (by decide) (fun h_3 => ?_) (fun h_3 => ?_)
    · have nh_3 : ln ≤ k_l := (nI_leI (a := ln) (b := k_l) (by omega) (by omega)).mp h_3
      refine lv_iload hx hb d_MO_tryRing_107 (lv_at hl 1 rfl) ?_
      refine lv_iload_n hx hb d_MO_tryRing_109 rfl (lv_at hl 2 rfl) ?_
      refine lv_icmp_ge (tgt := 183) hx hb d_MO_tryRing_110 (by decide) (fun h_4 => ?_) (fun h_4 => ?_)
      · have hP9 := hP.sub (ws' := [(y, .inr (7, [.int (nI mn), .int mtm, .int mgp, .int mlk, .ref y1, .ref y2, .ref y3, .ref y4, .int (nI mp), .ref y5, .ref y6, .ref y7, .ref y8, .ref y9, .ref y10, .ref y11, .ref y12, .ref y13, .ref y14, .ref y15, .int (nI mq), .ref y16, .ref y17, .ref y18, .ref y19, .ref y20, .ref y21, .ref y22, .ref y23, .ref y24, .ref y25, .ref y26, .ref y27, .int mhw, .int (nI mwn), .ref y28, .ref y29, .ref y30, .ref y31, .ref y32, .ref y33, .ref y34, .ref y35, .ref y36, .int (nI mbm), .ref y37, .ref y38, .int (nI mrm), .int mro, .int mrs])), (y6, .inl (cI, 24, .inl MS)), (y30, .inl (cI, 9, .inl (fun zy => nI (DA1 zy)))), (y31, .inl (cI, 9, .inl (fun zy => nI (DA2 zy)))), (y37, .inl (cI, 8, .inl (fun zy => nI (RA1 zy)))), (y38, .inl (cI, 8, .inl (fun zy => nI (RA2 zy))))]) [0, 1, 2, 3, 4, 5] rfl
        have hD9 := hD.sub (ws' := [(y, .inr (7, [.int (nI mn), .int mtm, .int mgp, .int mlk, .ref y1, .ref y2, .ref y3, .ref y4, .int (nI mp), .ref y5, .ref y6, .ref y7, .ref y8, .ref y9, .ref y10, .ref y11, .ref y12, .ref y13, .ref y14, .ref y15, .int (nI mq), .ref y16, .ref y17, .ref y18, .ref y19, .ref y20, .ref y21, .ref y22, .ref y23, .ref y24, .ref y25, .ref y26, .ref y27, .int mhw, .int (nI mwn), .ref y28, .ref y29, .ref y30, .ref y31, .ref y32, .ref y33, .ref y34, .ref y35, .ref y36, .int (nI mbm), .ref y37, .ref y38, .int (nI mrm), .int mro, .int mrs])), (y6, .inl (cI, 24, .inl MS)), (y30, .inl (cI, 9, .inl (fun zy => nI (DA1 zy)))), (y31, .inl (cI, 9, .inl (fun zy => nI (DA2 zy)))), (y37, .inl (cI, 8, .inl (fun zy => nI (RA1 zy)))), (y38, .inl (cI, 8, .inl (fun zy => nI (RA2 zy))))]) [0, 1, 2, 3, 4, 5] (by decide +kernel) rfl
        refine W.widen (k := 0) (n := 0) (Nat.le_of_ble_eq_true rfl) (Nat.le_of_ble_eq_true rfl) ?_
        exact W.vret hx hb hr (fun tT ht hW => ⟨⟨(mrm, mro, mrs, RA1, RA2), rfl, ⟨h_mrm, h_RA1, h_RA2, (tr_no (Or.inl (fun hZ => (Int32.not_lt.mpr h_4) (by rw [hsm, show k_l = ln by omega]; exact hZ.2.2))))⟩, by rw [ht]; exact hP9, hD9⟩, hS.F ht⟩) hS.2.2 d_MO_tryRing_183
      · refine lv_aload_n hx hb d_MO_tryRing_113 rfl (lv_at hl 5 rfl) ?_
        refine lv_iload_n hx hb d_MO_tryRing_114 rfl (lv_at hl 4 rfl) ?_
        refine lv_iload_n hx hb d_MO_tryRing_115 rfl (lv_at hl 3 rfl) ?_
        refine lv_iload hx hb d_MO_tryRing_116 (lv_at hl 1 rfl) ?_
        have hPc := hP.sub (ws' := [(y, .inr (7, [.int (nI mn), .int mtm, .int mgp, .int mlk, .ref y1, .ref y2, .ref y3, .ref y4, .int (nI mp), .ref y5, .ref y6, .ref y7, .ref y8, .ref y9, .ref y10, .ref y11, .ref y12, .ref y13, .ref y14, .ref y15, .int (nI mq), .ref y16, .ref y17, .ref y18, .ref y19, .ref y20, .ref y21, .ref y22, .ref y23, .ref y24, .ref y25, .ref y26, .ref y27, .int mhw, .int (nI mwn), .ref y28, .ref y29, .ref y30, .ref y31, .ref y32, .ref y33, .ref y34, .ref y35, .ref y36, .int (nI mbm), .ref y37, .ref y38, .int (nI mrm), .int mro, .int mrs])), (y30, .inl (cI, 9, .inl (fun zy => nI (DA1 zy)))), (y31, .inl (cI, 9, .inl (fun zy => nI (DA2 zy)))), (y37, .inl (cI, 8, .inl (fun zy => nI (RA1 zy)))), (y38, .inl (cI, 8, .inl (fun zy => nI (RA2 zy))))]) [0, 2, 3, 4, 5] rfl
        have hDc := hD.sub (ws' := [(y, .inr (7, [.int (nI mn), .int mtm, .int mgp, .int mlk, .ref y1, .ref y2, .ref y3, .ref y4, .int (nI mp), .ref y5, .ref y6, .ref y7, .ref y8, .ref y9, .ref y10, .ref y11, .ref y12, .ref y13, .ref y14, .ref y15, .int (nI mq), .ref y16, .ref y17, .ref y18, .ref y19, .ref y20, .ref y21, .ref y22, .ref y23, .ref y24, .ref y25, .ref y26, .ref y27, .int mhw, .int (nI mwn), .ref y28, .ref y29, .ref y30, .ref y31, .ref y32, .ref y33, .ref y34, .ref y35, .ref y36, .int (nI mbm), .ref y37, .ref y38, .int (nI mrm), .int mro, .int mrs])), (y30, .inl (cI, 9, .inl (fun zy => nI (DA1 zy)))), (y31, .inl (cI, 9, .inl (fun zy => nI (DA2 zy)))), (y37, .inl (cI, 8, .inl (fun zy => nI (RA1 zy)))), (y38, .inl (cI, 8, .inl (fun zy => nI (RA2 zy))))]) [0, 2, 3, 4, 5] (by decide +kernel) rfl
        refine vp_callSi (va_Run.run (va_runV (As := [.int (nI ln), .int u, .int sm_v]) (rest := []) ⟨hx, hb, hml, hown, hts⟩ (e_MO_isBetter l D cI cZ y ln u sm_v mn mtm mgp mlk y1 y2 y3 y4 mp y5 y6 y7 y8 y9 y10 y11 y12 y13 y14 y15 mq y16 y17 y18 y19 y20 y21 y22 y23 y24 y25 y26 y27 mhw mwn y28 y29 y30 y31 y32 y33 y34 y35 y36 mbm y37 y38 mrm mro mrs DA1 DA2 RA1 RA2 H_2.size h_mn h_mp h_mq h_mwn h_mbm h_mrm h_DA1 h_DA2 h_RA1 h_RA2 hln) (my_cwV 3 hts q_962 q_959 q_961 q_p27 q_8 rfl rfl (by decide +kernel) ⟨Nat.le_of_ble_eq_true rfl, Nat.le_of_ble_eq_true rfl⟩) (my_preV hPc hDc hK hN 7 0 rfl rfl) rfl rfl hl.1 rfl (lv_room (Nat.le_of_ble_eq_true rfl)) d_MO_tryRing_118 ⟨Nat.le_of_ble_eq_true rfl, Nat.le_of_ble_eq_true rfl⟩)) (fun r_5 hw_5 => ?_)
        rcases hw_5 with ⟨hg_6, rfl⟩ | ⟨hg_7, rfl⟩
        · have hg_6 : ¬ rbS sm_v u ln DA1 DA2 mrm mro mrs RA1 RA2 := hg_6
          refine lv_if_eq (tgt := 183) hx hb d_MO_tryRing_121 (by decide) (fun _ => ?_) (fun h => absurd h (by decide))
          have hP9 := hP.sub (ws' := [(y, .inr (7, [.int (nI mn), .int mtm, .int mgp, .int mlk, .ref y1, .ref y2, .ref y3, .ref y4, .int (nI mp), .ref y5, .ref y6, .ref y7, .ref y8, .ref y9, .ref y10, .ref y11, .ref y12, .ref y13, .ref y14, .ref y15, .int (nI mq), .ref y16, .ref y17, .ref y18, .ref y19, .ref y20, .ref y21, .ref y22, .ref y23, .ref y24, .ref y25, .ref y26, .ref y27, .int mhw, .int (nI mwn), .ref y28, .ref y29, .ref y30, .ref y31, .ref y32, .ref y33, .ref y34, .ref y35, .ref y36, .int (nI mbm), .ref y37, .ref y38, .int (nI mrm), .int mro, .int mrs])), (y6, .inl (cI, 24, .inl MS)), (y30, .inl (cI, 9, .inl (fun zy => nI (DA1 zy)))), (y31, .inl (cI, 9, .inl (fun zy => nI (DA2 zy)))), (y37, .inl (cI, 8, .inl (fun zy => nI (RA1 zy)))), (y38, .inl (cI, 8, .inl (fun zy => nI (RA2 zy))))]) [0, 1, 2, 3, 4, 5] rfl
          have hD9 := hD.sub (ws' := [(y, .inr (7, [.int (nI mn), .int mtm, .int mgp, .int mlk, .ref y1, .ref y2, .ref y3, .ref y4, .int (nI mp), .ref y5, .ref y6, .ref y7, .ref y8, .ref y9, .ref y10, .ref y11, .ref y12, .ref y13, .ref y14, .ref y15, .int (nI mq), .ref y16, .ref y17, .ref y18, .ref y19, .ref y20, .ref y21, .ref y22, .ref y23, .ref y24, .ref y25, .ref y26, .ref y27, .int mhw, .int (nI mwn), .ref y28, .ref y29, .ref y30, .ref y31, .ref y32, .ref y33, .ref y34, .ref y35, .ref y36, .int (nI mbm), .ref y37, .ref y38, .int (nI mrm), .int mro, .int mrs])), (y6, .inl (cI, 24, .inl MS)), (y30, .inl (cI, 9, .inl (fun zy => nI (DA1 zy)))), (y31, .inl (cI, 9, .inl (fun zy => nI (DA2 zy)))), (y37, .inl (cI, 8, .inl (fun zy => nI (RA1 zy)))), (y38, .inl (cI, 8, .inl (fun zy => nI (RA2 zy))))]) [0, 1, 2, 3, 4, 5] (by decide +kernel) rfl
          refine W.widen (k := 0) (n := 0) (Nat.le_of_ble_eq_true rfl) (Nat.le_of_ble_eq_true rfl) ?_
          exact W.vret hx hb hr (fun tT ht hW => ⟨⟨(mrm, mro, mrs, RA1, RA2), rfl, ⟨h_mrm, h_RA1, h_RA2, (by rw [show k_l = ln by omega] at hsm; exact tr_no (Or.inr (by rw [← hsm]; exact hg_6)))⟩, by rw [ht]; exact hP9, hD9⟩, hS.F ht⟩) hS.2.2 d_MO_tryRing_183
        · have hg_7 : rbS sm_v u ln DA1 DA2 mrm mro mrs RA1 RA2 := hg_7
          refine lv_if_eq (tgt := 183) hx hb d_MO_tryRing_121 (by decide) (fun h => absurd h (by decide)) (fun _ => ?_)
          refine lv_aload_n hx hb d_MO_tryRing_124 rfl (lv_at hl 5 rfl) ?_
          refine lv_iload hx hb d_MO_tryRing_125 (lv_at hl 1 rfl) ?_
          refine va_put (D := D) (ci := 7) (v := .int sm_v) (ty := .int) (C := R_MO) (T := F_MO) (N := 50) hx hb hts i_MO t_MO t_MO_ok n_MO hown hK hP hD hS 0 rfl rfl 48 (by decide) (hts _ q_680) (fun _ h9 => h9) rfl (by decide +kernel) rfl rfl (Nat.le_of_ble_eq_true rfl) d_MO_tryRing_127 (fun H_10 locs hP hD hS => ?_)
          have hP : va_P D vwCl [(y, .inr (7, [.int (nI mn), .int mtm, .int mgp, .int mlk, .ref y1, .ref y2, .ref y3, .ref y4, .int (nI mp), .ref y5, .ref y6, .ref y7, .ref y8, .ref y9, .ref y10, .ref y11, .ref y12, .ref y13, .ref y14, .ref y15, .int (nI mq), .ref y16, .ref y17, .ref y18, .ref y19, .ref y20, .ref y21, .ref y22, .ref y23, .ref y24, .ref y25, .ref y26, .ref y27, .int mhw, .int (nI mwn), .ref y28, .ref y29, .ref y30, .ref y31, .ref y32, .ref y33, .ref y34, .ref y35, .ref y36, .int (nI mbm), .ref y37, .ref y38, .int (nI mrm), .int sm_v, .int mrs])), (y6, .inl (cI, 24, .inl MS)), (y30, .inl (cI, 9, .inl (fun zy => nI (DA1 zy)))), (y31, .inl (cI, 9, .inl (fun zy => nI (DA2 zy)))), (y37, .inl (cI, 8, .inl (fun zy => nI (RA1 zy)))), (y38, .inl (cI, 8, .inl (fun zy => nI (RA2 zy))))] H_10 := hP
          have hD : va_D A [(y, .inr (7, [.int (nI mn), .int mtm, .int mgp, .int mlk, .ref y1, .ref y2, .ref y3, .ref y4, .int (nI mp), .ref y5, .ref y6, .ref y7, .ref y8, .ref y9, .ref y10, .ref y11, .ref y12, .ref y13, .ref y14, .ref y15, .int (nI mq), .ref y16, .ref y17, .ref y18, .ref y19, .ref y20, .ref y21, .ref y22, .ref y23, .ref y24, .ref y25, .ref y26, .ref y27, .int mhw, .int (nI mwn), .ref y28, .ref y29, .ref y30, .ref y31, .ref y32, .ref y33, .ref y34, .ref y35, .ref y36, .int (nI mbm), .ref y37, .ref y38, .int (nI mrm), .int sm_v, .int mrs])), (y6, .inl (cI, 24, .inl MS)), (y30, .inl (cI, 9, .inl (fun zy => nI (DA1 zy)))), (y31, .inl (cI, 9, .inl (fun zy => nI (DA2 zy)))), (y37, .inl (cI, 8, .inl (fun zy => nI (RA1 zy)))), (y38, .inl (cI, 8, .inl (fun zy => nI (RA2 zy))))] := hD
          refine lv_aload_n hx hb d_MO_tryRing_130 rfl (lv_at hl 5 rfl) ?_
          refine lv_iload_n hx hb d_MO_tryRing_131 rfl (lv_at hl 3 rfl) ?_
          refine va_put (D := D) (ci := 7) (v := .int u) (ty := .int) (C := R_MO) (T := F_MO) (N := 50) hx hb hts i_MO t_MO t_MO_ok n_MO hown hK hP hD hS 0 rfl rfl 49 (by decide) (hts _ q_681) (fun _ h9 => h9) rfl (by decide +kernel) rfl rfl (Nat.le_of_ble_eq_true rfl) d_MO_tryRing_132 (fun H_11 locs hP hD hS => ?_)
          have hP : va_P D vwCl [(y, .inr (7, [.int (nI mn), .int mtm, .int mgp, .int mlk, .ref y1, .ref y2, .ref y3, .ref y4, .int (nI mp), .ref y5, .ref y6, .ref y7, .ref y8, .ref y9, .ref y10, .ref y11, .ref y12, .ref y13, .ref y14, .ref y15, .int (nI mq), .ref y16, .ref y17, .ref y18, .ref y19, .ref y20, .ref y21, .ref y22, .ref y23, .ref y24, .ref y25, .ref y26, .ref y27, .int mhw, .int (nI mwn), .ref y28, .ref y29, .ref y30, .ref y31, .ref y32, .ref y33, .ref y34, .ref y35, .ref y36, .int (nI mbm), .ref y37, .ref y38, .int (nI mrm), .int sm_v, .int u])), (y6, .inl (cI, 24, .inl MS)), (y30, .inl (cI, 9, .inl (fun zy => nI (DA1 zy)))), (y31, .inl (cI, 9, .inl (fun zy => nI (DA2 zy)))), (y37, .inl (cI, 8, .inl (fun zy => nI (RA1 zy)))), (y38, .inl (cI, 8, .inl (fun zy => nI (RA2 zy))))] H_11 := hP
          have hD : va_D A [(y, .inr (7, [.int (nI mn), .int mtm, .int mgp, .int mlk, .ref y1, .ref y2, .ref y3, .ref y4, .int (nI mp), .ref y5, .ref y6, .ref y7, .ref y8, .ref y9, .ref y10, .ref y11, .ref y12, .ref y13, .ref y14, .ref y15, .int (nI mq), .ref y16, .ref y17, .ref y18, .ref y19, .ref y20, .ref y21, .ref y22, .ref y23, .ref y24, .ref y25, .ref y26, .ref y27, .int mhw, .int (nI mwn), .ref y28, .ref y29, .ref y30, .ref y31, .ref y32, .ref y33, .ref y34, .ref y35, .ref y36, .int (nI mbm), .ref y37, .ref y38, .int (nI mrm), .int sm_v, .int u])), (y6, .inl (cI, 24, .inl MS)), (y30, .inl (cI, 9, .inl (fun zy => nI (DA1 zy)))), (y31, .inl (cI, 9, .inl (fun zy => nI (DA2 zy)))), (y37, .inl (cI, 8, .inl (fun zy => nI (RA1 zy)))), (y38, .inl (cI, 8, .inl (fun zy => nI (RA2 zy))))] := hD
          refine lv_aload_n hx hb d_MO_tryRing_135 rfl (lv_at hl 5 rfl) ?_
          refine lv_iload_n hx hb d_MO_tryRing_136 rfl (lv_at hl 4 rfl) ?_
          refine va_put (D := D) (ci := 7) (v := .int (nI ln)) (ty := .int) (C := R_MO) (T := F_MO) (N := 50) hx hb hts i_MO t_MO t_MO_ok n_MO hown hK hP hD hS 0 rfl rfl 47 (by decide) (hts _ q_679) (fun _ h9 => h9) rfl (by decide +kernel) rfl rfl (Nat.le_of_ble_eq_true rfl) d_MO_tryRing_137 (fun H_12 locs hP hD hS => ?_)
          have hP : va_P D vwCl [(y, .inr (7, [.int (nI mn), .int mtm, .int mgp, .int mlk, .ref y1, .ref y2, .ref y3, .ref y4, .int (nI mp), .ref y5, .ref y6, .ref y7, .ref y8, .ref y9, .ref y10, .ref y11, .ref y12, .ref y13, .ref y14, .ref y15, .int (nI mq), .ref y16, .ref y17, .ref y18, .ref y19, .ref y20, .ref y21, .ref y22, .ref y23, .ref y24, .ref y25, .ref y26, .ref y27, .int mhw, .int (nI mwn), .ref y28, .ref y29, .ref y30, .ref y31, .ref y32, .ref y33, .ref y34, .ref y35, .ref y36, .int (nI mbm), .ref y37, .ref y38, .int (nI ln), .int sm_v, .int u])), (y6, .inl (cI, 24, .inl MS)), (y30, .inl (cI, 9, .inl (fun zy => nI (DA1 zy)))), (y31, .inl (cI, 9, .inl (fun zy => nI (DA2 zy)))), (y37, .inl (cI, 8, .inl (fun zy => nI (RA1 zy)))), (y38, .inl (cI, 8, .inl (fun zy => nI (RA2 zy))))] H_12 := hP
          have hD : va_D A [(y, .inr (7, [.int (nI mn), .int mtm, .int mgp, .int mlk, .ref y1, .ref y2, .ref y3, .ref y4, .int (nI mp), .ref y5, .ref y6, .ref y7, .ref y8, .ref y9, .ref y10, .ref y11, .ref y12, .ref y13, .ref y14, .ref y15, .int (nI mq), .ref y16, .ref y17, .ref y18, .ref y19, .ref y20, .ref y21, .ref y22, .ref y23, .ref y24, .ref y25, .ref y26, .ref y27, .int mhw, .int (nI mwn), .ref y28, .ref y29, .ref y30, .ref y31, .ref y32, .ref y33, .ref y34, .ref y35, .ref y36, .int (nI mbm), .ref y37, .ref y38, .int (nI ln), .int sm_v, .int u])), (y6, .inl (cI, 24, .inl MS)), (y30, .inl (cI, 9, .inl (fun zy => nI (DA1 zy)))), (y31, .inl (cI, 9, .inl (fun zy => nI (DA2 zy)))), (y37, .inl (cI, 8, .inl (fun zy => nI (RA1 zy)))), (y38, .inl (cI, 8, .inl (fun zy => nI (RA2 zy))))] := hD
          refine lv_iconst (v := 0) hx hb d_MO_tryRing_140 (by decide) ?_
          refine lv_istore (lv' := [(5, .int 0), (4, .int sm_v), (3, .int v), (2, .int u), (1, .int (nI ln)), (0, .ref y)]) hx hb d_MO_tryRing_141 hl (by decide) rfl (fun ls hl => ?_)
          refine W_loop (σ := Nat × (Nat → Nat) × (Nat → Nat)) (I := fun xX H locs ls => (∀ zz, xX.2.1 zz ≤ 11) ∧ (∀ zz, xX.2.2 zz ≤ 1) ∧ xX.1 ≤ ln ∧ xX.2.1 = cpN xX.1 DA1 RA1 ∧ xX.2.2 = cpN xX.1 DA2 RA2 ∧ va_P D vwCl [(y, .inr (7, [.int (nI mn), .int mtm, .int mgp, .int mlk, .ref y1, .ref y2, .ref y3, .ref y4, .int (nI mp), .ref y5, .ref y6, .ref y7, .ref y8, .ref y9, .ref y10, .ref y11, .ref y12, .ref y13, .ref y14, .ref y15, .int (nI mq), .ref y16, .ref y17, .ref y18, .ref y19, .ref y20, .ref y21, .ref y22, .ref y23, .ref y24, .ref y25, .ref y26, .ref y27, .int mhw, .int (nI mwn), .ref y28, .ref y29, .ref y30, .ref y31, .ref y32, .ref y33, .ref y34, .ref y35, .ref y36, .int (nI mbm), .ref y37, .ref y38, .int (nI ln), .int sm_v, .int u])), (y6, .inl (cI, 24, .inl MS)), (y30, .inl (cI, 9, .inl (fun zy => nI (DA1 zy)))), (y31, .inl (cI, 9, .inl (fun zy => nI (DA2 zy)))), (y37, .inl (cI, 8, .inl (fun zy => nI (xX.2.1 zy)))), (y38, .inl (cI, 8, .inl (fun zy => nI (xX.2.2 zy))))] H ∧ va_D A [(y, .inr (7, [.int (nI mn), .int mtm, .int mgp, .int mlk, .ref y1, .ref y2, .ref y3, .ref y4, .int (nI mp), .ref y5, .ref y6, .ref y7, .ref y8, .ref y9, .ref y10, .ref y11, .ref y12, .ref y13, .ref y14, .ref y15, .int (nI mq), .ref y16, .ref y17, .ref y18, .ref y19, .ref y20, .ref y21, .ref y22, .ref y23, .ref y24, .ref y25, .ref y26, .ref y27, .int mhw, .int (nI mwn), .ref y28, .ref y29, .ref y30, .ref y31, .ref y32, .ref y33, .ref y34, .ref y35, .ref y36, .int (nI mbm), .ref y37, .ref y38, .int (nI ln), .int sm_v, .int u])), (y6, .inl (cI, 24, .inl MS)), (y30, .inl (cI, 9, .inl (fun zy => nI (DA1 zy)))), (y31, .inl (cI, 9, .inl (fun zy => nI (DA2 zy)))), (y37, .inl (cI, 8, .inl (fun zy => nI (xX.2.1 zy)))), (y38, .inl (cI, 8, .inl (fun zy => nI (xX.2.2 zy))))] ∧ va_S A s.heap H locs ∧ lv_has ls 8 [(5, .int (nI xX.1)), (1, .int (nI ln)), (0, .ref y)]) (μ := fun xX => 9 - xX.1) ?_ (0, RA1, RA2) ⟨h_RA1, h_RA2, (by first | omega | (dsimp only; omega)), (cpN_0 _ _).symm, (cpN_0 _ _).symm, hP, hD, hS, lv_sub hl [0, 4, 5] rfl⟩
          intro xX H_13 locs ls hI ih2
          obtain ⟨k2_l, RA1_2, RA2_2⟩ := xX
          obtain ⟨h_RA1_2, h_RA2_2, hk2, c1, c2, hP, hD, hS, hl⟩ := hI
          have hP : va_P D vwCl [(y, .inr (7, [.int (nI mn), .int mtm, .int mgp, .int mlk, .ref y1, .ref y2, .ref y3, .ref y4, .int (nI mp), .ref y5, .ref y6, .ref y7, .ref y8, .ref y9, .ref y10, .ref y11, .ref y12, .ref y13, .ref y14, .ref y15, .int (nI mq), .ref y16, .ref y17, .ref y18, .ref y19, .ref y20, .ref y21, .ref y22, .ref y23, .ref y24, .ref y25, .ref y26, .ref y27, .int mhw, .int (nI mwn), .ref y28, .ref y29, .ref y30, .ref y31, .ref y32, .ref y33, .ref y34, .ref y35, .ref y36, .int (nI mbm), .ref y37, .ref y38, .int (nI ln), .int sm_v, .int u])), (y6, .inl (cI, 24, .inl MS)), (y30, .inl (cI, 9, .inl (fun zy => nI (DA1 zy)))), (y31, .inl (cI, 9, .inl (fun zy => nI (DA2 zy)))), (y37, .inl (cI, 8, .inl (fun zy => nI (RA1_2 zy)))), (y38, .inl (cI, 8, .inl (fun zy => nI (RA2_2 zy))))] H_13 := hP
          have hD : va_D A [(y, .inr (7, [.int (nI mn), .int mtm, .int mgp, .int mlk, .ref y1, .ref y2, .ref y3, .ref y4, .int (nI mp), .ref y5, .ref y6, .ref y7, .ref y8, .ref y9, .ref y10, .ref y11, .ref y12, .ref y13, .ref y14, .ref y15, .int (nI mq), .ref y16, .ref y17, .ref y18, .ref y19, .ref y20, .ref y21, .ref y22, .ref y23, .ref y24, .ref y25, .ref y26, .ref y27, .int mhw, .int (nI mwn), .ref y28, .ref y29, .ref y30, .ref y31, .ref y32, .ref y33, .ref y34, .ref y35, .ref y36, .int (nI mbm), .ref y37, .ref y38, .int (nI ln), .int sm_v, .int u])), (y6, .inl (cI, 24, .inl MS)), (y30, .inl (cI, 9, .inl (fun zy => nI (DA1 zy)))), (y31, .inl (cI, 9, .inl (fun zy => nI (DA2 zy)))), (y37, .inl (cI, 8, .inl (fun zy => nI (RA1_2 zy)))), (y38, .inl (cI, 8, .inl (fun zy => nI (RA2_2 zy))))] := hD
          have hl : lv_has ls 8 [(5, .int (nI k2_l)), (1, .int (nI ln)), (0, .ref y)] := hl
          have h_RA1_2 : ∀ zz, RA1_2 zz ≤ 11 := h_RA1_2
          have h_RA2_2 : ∀ zz, RA2_2 zz ≤ 1 := h_RA2_2
          have hk2 : k2_l ≤ ln := hk2
          have c1 : RA1_2 = cpN k2_l DA1 RA1 := c1
          have c2 : RA2_2 = cpN k2_l DA2 RA2 := c2
          refine lv_iload hx hb d_MO_tryRing_143 (lv_at hl 0 rfl) ?_
          refine lv_iload_n hx hb d_MO_tryRing_145 rfl (lv_at hl 1 rfl) ?_
          refine lv_icmp_ge (tgt := 183) hx hb d_MO_tryRing_146 (by decide) (fun h_14 => ?_) (fun h_14 => ?_)
          · have nh_14 : ln ≤ k2_l := (nI_leI (a := ln) (b := k2_l) (by omega) (by omega)).mp h_14
            have hcp : ∀ z, z < ln → RA1_2 z = DA1 z ∧ RA2_2 z = DA2 z := fun z hz => ⟨by rw [c1, cpN_lt (by omega)], by rw [c2, cpN_lt (by omega)]⟩
            have hP9 := hP.sub (ws' := [(y, .inr (7, [.int (nI mn), .int mtm, .int mgp, .int mlk, .ref y1, .ref y2, .ref y3, .ref y4, .int (nI mp), .ref y5, .ref y6, .ref y7, .ref y8, .ref y9, .ref y10, .ref y11, .ref y12, .ref y13, .ref y14, .ref y15, .int (nI mq), .ref y16, .ref y17, .ref y18, .ref y19, .ref y20, .ref y21, .ref y22, .ref y23, .ref y24, .ref y25, .ref y26, .ref y27, .int mhw, .int (nI mwn), .ref y28, .ref y29, .ref y30, .ref y31, .ref y32, .ref y33, .ref y34, .ref y35, .ref y36, .int (nI mbm), .ref y37, .ref y38, .int (nI ln), .int sm_v, .int u])), (y6, .inl (cI, 24, .inl MS)), (y30, .inl (cI, 9, .inl (fun zy => nI (DA1 zy)))), (y31, .inl (cI, 9, .inl (fun zy => nI (DA2 zy)))), (y37, .inl (cI, 8, .inl (fun zy => nI (RA1_2 zy)))), (y38, .inl (cI, 8, .inl (fun zy => nI (RA2_2 zy))))]) [0, 1, 2, 3, 4, 5] rfl
            have hD9 := hD.sub (ws' := [(y, .inr (7, [.int (nI mn), .int mtm, .int mgp, .int mlk, .ref y1, .ref y2, .ref y3, .ref y4, .int (nI mp), .ref y5, .ref y6, .ref y7, .ref y8, .ref y9, .ref y10, .ref y11, .ref y12, .ref y13, .ref y14, .ref y15, .int (nI mq), .ref y16, .ref y17, .ref y18, .ref y19, .ref y20, .ref y21, .ref y22, .ref y23, .ref y24, .ref y25, .ref y26, .ref y27, .int mhw, .int (nI mwn), .ref y28, .ref y29, .ref y30, .ref y31, .ref y32, .ref y33, .ref y34, .ref y35, .ref y36, .int (nI mbm), .ref y37, .ref y38, .int (nI ln), .int sm_v, .int u])), (y6, .inl (cI, 24, .inl MS)), (y30, .inl (cI, 9, .inl (fun zy => nI (DA1 zy)))), (y31, .inl (cI, 9, .inl (fun zy => nI (DA2 zy)))), (y37, .inl (cI, 8, .inl (fun zy => nI (RA1_2 zy)))), (y38, .inl (cI, 8, .inl (fun zy => nI (RA2_2 zy))))]) [0, 1, 2, 3, 4, 5] (by decide +kernel) rfl
            refine W.widen (k := 0) (n := 0) (Nat.le_of_ble_eq_true rfl) (Nat.le_of_ble_eq_true rfl) ?_
            exact W.vret hx hb hr (fun tT ht hW => ⟨⟨(ln, sm_v, u, RA1_2, RA2_2), rfl, ⟨hln, h_RA1_2, h_RA2_2, (by rw [show k_l = ln by omega] at hsm; rw [hsm]; exact tr_yes ⟨Int32.not_lt.mp (Int32.not_lt.mpr h_1), fun z hz => hfit z (by omega), by rw [← hsm]; exact (Int32.not_le.mp h_4)⟩ (by rw [← hsm]; exact hg_7) (by omega) hcp)⟩, by rw [ht]; exact hP9, hD9⟩, hS.F ht⟩) hS.2.2 d_MO_tryRing_183
          · have nh_14 : ¬ ln ≤ k2_l := fun qZ => h_14 ((nI_leI (a := ln) (b := k2_l) (by omega) (by omega)).mpr qZ)
            refine lv_aload_n hx hb d_MO_tryRing_149 rfl (lv_at hl 2 rfl) ?_
            refine va_get (D := D) (ci := 7) (v := .ref y37) (C := R_MO) (T := F_MO) (N := 50) hx hb hts i_MO hown hK hP 0 rfl rfl 45 (by decide) (hts _ q_677) (fun _ h9 => h9) rfl d_MO_tryRing_150 ?_
            refine lv_iload hx hb d_MO_tryRing_153 (lv_at hl 0 rfl) ?_
            refine lv_aload_n hx hb d_MO_tryRing_155 rfl (lv_at hl 2 rfl) ?_
            refine va_get (D := D) (ci := 7) (v := .ref y30) (C := R_MO) (T := F_MO) (N := 50) hx hb hts i_MO hown hK hP 0 rfl rfl 37 (by decide) (hts _ q_669) (fun _ h9 => h9) rfl d_MO_tryRing_156 ?_
            refine lv_iload hx hb d_MO_tryRing_159 (lv_at hl 0 rfl) ?_
            refine my_ldN hx hb hK hP 2 rfl k2_l rfl (by omega) (by decide) d_MO_tryRing_161 ?_
            have hb_1 : DA1 k2_l ≤ 11 := h_DA1 _
            refine my_stN hx hb hK hP hD hS 4 rfl k2_l (DA1 k2_l) rfl rfl (by omega) (by decide) d_MO_tryRing_162 (fun H_15 locs hP hD hS => ?_)
            have hP : va_P D vwCl [(y, .inr (7, [.int (nI mn), .int mtm, .int mgp, .int mlk, .ref y1, .ref y2, .ref y3, .ref y4, .int (nI mp), .ref y5, .ref y6, .ref y7, .ref y8, .ref y9, .ref y10, .ref y11, .ref y12, .ref y13, .ref y14, .ref y15, .int (nI mq), .ref y16, .ref y17, .ref y18, .ref y19, .ref y20, .ref y21, .ref y22, .ref y23, .ref y24, .ref y25, .ref y26, .ref y27, .int mhw, .int (nI mwn), .ref y28, .ref y29, .ref y30, .ref y31, .ref y32, .ref y33, .ref y34, .ref y35, .ref y36, .int (nI mbm), .ref y37, .ref y38, .int (nI ln), .int sm_v, .int u])), (y6, .inl (cI, 24, .inl MS)), (y30, .inl (cI, 9, .inl (fun zy => nI (DA1 zy)))), (y31, .inl (cI, 9, .inl (fun zy => nI (DA2 zy)))), (y37, .inl (cI, 8, .inl (fun zy => nI ((upN RA1_2 k2_l (DA1 k2_l)) zy)))), (y38, .inl (cI, 8, .inl (fun zy => nI (RA2_2 zy))))] H_15 := hP
            have hD : va_D A [(y, .inr (7, [.int (nI mn), .int mtm, .int mgp, .int mlk, .ref y1, .ref y2, .ref y3, .ref y4, .int (nI mp), .ref y5, .ref y6, .ref y7, .ref y8, .ref y9, .ref y10, .ref y11, .ref y12, .ref y13, .ref y14, .ref y15, .int (nI mq), .ref y16, .ref y17, .ref y18, .ref y19, .ref y20, .ref y21, .ref y22, .ref y23, .ref y24, .ref y25, .ref y26, .ref y27, .int mhw, .int (nI mwn), .ref y28, .ref y29, .ref y30, .ref y31, .ref y32, .ref y33, .ref y34, .ref y35, .ref y36, .int (nI mbm), .ref y37, .ref y38, .int (nI ln), .int sm_v, .int u])), (y6, .inl (cI, 24, .inl MS)), (y30, .inl (cI, 9, .inl (fun zy => nI (DA1 zy)))), (y31, .inl (cI, 9, .inl (fun zy => nI (DA2 zy)))), (y37, .inl (cI, 8, .inl (fun zy => nI ((upN RA1_2 k2_l (DA1 k2_l)) zy)))), (y38, .inl (cI, 8, .inl (fun zy => nI (RA2_2 zy))))] := hD
            refine lv_aload_n hx hb d_MO_tryRing_163 rfl (lv_at hl 2 rfl) ?_
            refine va_get (D := D) (ci := 7) (v := .ref y38) (C := R_MO) (T := F_MO) (N := 50) hx hb hts i_MO hown hK hP 0 rfl rfl 46 (by decide) (hts _ q_678) (fun _ h9 => h9) rfl d_MO_tryRing_164 ?_
            refine lv_iload hx hb d_MO_tryRing_167 (lv_at hl 0 rfl) ?_
            refine lv_aload_n hx hb d_MO_tryRing_169 rfl (lv_at hl 2 rfl) ?_
            refine va_get (D := D) (ci := 7) (v := .ref y31) (C := R_MO) (T := F_MO) (N := 50) hx hb hts i_MO hown hK hP 0 rfl rfl 38 (by decide) (hts _ q_670) (fun _ h9 => h9) rfl d_MO_tryRing_170 ?_
            refine lv_iload hx hb d_MO_tryRing_173 (lv_at hl 0 rfl) ?_
            refine my_ldN hx hb hK hP 3 rfl k2_l rfl (by omega) (by decide) d_MO_tryRing_175 ?_
            have hb_2 : DA2 k2_l ≤ 1 := h_DA2 _
            refine my_stN hx hb hK hP hD hS 5 rfl k2_l (DA2 k2_l) rfl rfl (by omega) (by decide) d_MO_tryRing_176 (fun H_16 locs hP hD hS => ?_)
            have hP : va_P D vwCl [(y, .inr (7, [.int (nI mn), .int mtm, .int mgp, .int mlk, .ref y1, .ref y2, .ref y3, .ref y4, .int (nI mp), .ref y5, .ref y6, .ref y7, .ref y8, .ref y9, .ref y10, .ref y11, .ref y12, .ref y13, .ref y14, .ref y15, .int (nI mq), .ref y16, .ref y17, .ref y18, .ref y19, .ref y20, .ref y21, .ref y22, .ref y23, .ref y24, .ref y25, .ref y26, .ref y27, .int mhw, .int (nI mwn), .ref y28, .ref y29, .ref y30, .ref y31, .ref y32, .ref y33, .ref y34, .ref y35, .ref y36, .int (nI mbm), .ref y37, .ref y38, .int (nI ln), .int sm_v, .int u])), (y6, .inl (cI, 24, .inl MS)), (y30, .inl (cI, 9, .inl (fun zy => nI (DA1 zy)))), (y31, .inl (cI, 9, .inl (fun zy => nI (DA2 zy)))), (y37, .inl (cI, 8, .inl (fun zy => nI ((upN RA1_2 k2_l (DA1 k2_l)) zy)))), (y38, .inl (cI, 8, .inl (fun zy => nI ((upN RA2_2 k2_l (DA2 k2_l)) zy))))] H_16 := hP
            have hD : va_D A [(y, .inr (7, [.int (nI mn), .int mtm, .int mgp, .int mlk, .ref y1, .ref y2, .ref y3, .ref y4, .int (nI mp), .ref y5, .ref y6, .ref y7, .ref y8, .ref y9, .ref y10, .ref y11, .ref y12, .ref y13, .ref y14, .ref y15, .int (nI mq), .ref y16, .ref y17, .ref y18, .ref y19, .ref y20, .ref y21, .ref y22, .ref y23, .ref y24, .ref y25, .ref y26, .ref y27, .int mhw, .int (nI mwn), .ref y28, .ref y29, .ref y30, .ref y31, .ref y32, .ref y33, .ref y34, .ref y35, .ref y36, .int (nI mbm), .ref y37, .ref y38, .int (nI ln), .int sm_v, .int u])), (y6, .inl (cI, 24, .inl MS)), (y30, .inl (cI, 9, .inl (fun zy => nI (DA1 zy)))), (y31, .inl (cI, 9, .inl (fun zy => nI (DA2 zy)))), (y37, .inl (cI, 8, .inl (fun zy => nI ((upN RA1_2 k2_l (DA1 k2_l)) zy)))), (y38, .inl (cI, 8, .inl (fun zy => nI ((upN RA2_2 k2_l (DA2 k2_l)) zy))))] := hD
            refine lv_iinc (v := nI (k2_l + 1)) (lv' := [(5, .int (nI (k2_l + 1))), (1, .int (nI ln)), (0, .ref y)]) hx hb d_MO_tryRing_177 hl (k := 0) rfl (nI_1 k2_l) (by decide) rfl (fun ls hl => ?_)
            refine lv_goto (tgt := 143) hx hb d_MO_tryRing_180 (by decide) ?_
            have hPz := hP.sub (ws' := [(y, .inr (7, [.int (nI mn), .int mtm, .int mgp, .int mlk, .ref y1, .ref y2, .ref y3, .ref y4, .int (nI mp), .ref y5, .ref y6, .ref y7, .ref y8, .ref y9, .ref y10, .ref y11, .ref y12, .ref y13, .ref y14, .ref y15, .int (nI mq), .ref y16, .ref y17, .ref y18, .ref y19, .ref y20, .ref y21, .ref y22, .ref y23, .ref y24, .ref y25, .ref y26, .ref y27, .int mhw, .int (nI mwn), .ref y28, .ref y29, .ref y30, .ref y31, .ref y32, .ref y33, .ref y34, .ref y35, .ref y36, .int (nI mbm), .ref y37, .ref y38, .int (nI ln), .int sm_v, .int u])), (y6, .inl (cI, 24, .inl MS)), (y30, .inl (cI, 9, .inl (fun zy => nI (DA1 zy)))), (y31, .inl (cI, 9, .inl (fun zy => nI (DA2 zy)))), (y37, .inl (cI, 8, .inl (fun zy => nI ((upN RA1_2 k2_l (DA1 k2_l)) zy)))), (y38, .inl (cI, 8, .inl (fun zy => nI ((upN RA2_2 k2_l (DA2 k2_l)) zy))))]) [0, 1, 2, 3, 4, 5] rfl
            have hDz := hD.sub (ws' := [(y, .inr (7, [.int (nI mn), .int mtm, .int mgp, .int mlk, .ref y1, .ref y2, .ref y3, .ref y4, .int (nI mp), .ref y5, .ref y6, .ref y7, .ref y8, .ref y9, .ref y10, .ref y11, .ref y12, .ref y13, .ref y14, .ref y15, .int (nI mq), .ref y16, .ref y17, .ref y18, .ref y19, .ref y20, .ref y21, .ref y22, .ref y23, .ref y24, .ref y25, .ref y26, .ref y27, .int mhw, .int (nI mwn), .ref y28, .ref y29, .ref y30, .ref y31, .ref y32, .ref y33, .ref y34, .ref y35, .ref y36, .int (nI mbm), .ref y37, .ref y38, .int (nI ln), .int sm_v, .int u])), (y6, .inl (cI, 24, .inl MS)), (y30, .inl (cI, 9, .inl (fun zy => nI (DA1 zy)))), (y31, .inl (cI, 9, .inl (fun zy => nI (DA2 zy)))), (y37, .inl (cI, 8, .inl (fun zy => nI ((upN RA1_2 k2_l (DA1 k2_l)) zy)))), (y38, .inl (cI, 8, .inl (fun zy => nI ((upN RA2_2 k2_l (DA2 k2_l)) zy))))]) [0, 1, 2, 3, 4, 5] (by decide) rfl
            exact ih2 ((k2_l + 1), (upN RA1_2 k2_l (DA1 k2_l)), (upN RA2_2 k2_l (DA2 k2_l))) _ _ _ (by first | omega | (dsimp only; omega)) ⟨(upN_le h_RA1_2 (by omega)), (upN_le h_RA2_2 (by omega)), (by first | omega | (dsimp only; omega)), (by rw [c1]; exact cpN_s _ _ _), (by rw [c2]; exact cpN_s _ _ _), hPz, hDz, hS, lv_sub hl [0, 1, 2] rfl⟩
    · have nh_3 : ¬ ln ≤ k_l := fun qZ => h_3 ((nI_leI (a := ln) (b := k_l) (by omega) (by omega)).mpr qZ)
      refine lv_aload_n hx hb d_MO_tryRing_18 rfl (lv_at hl 5 rfl) ?_
      refine va_get (D := D) (ci := 7) (v := .ref y6) (C := R_MO) (T := F_MO) (N := 50) hx hb hts i_MO hown hK hP 0 rfl rfl 10 (by decide) (hts _ q_642) (fun _ h9 => h9) rfl d_MO_tryRing_19 ?_
      refine lv_iconst (v := 2) hx hb d_MO_tryRing_22 (by decide) ?_
      refine lv_aload_n hx hb d_MO_tryRing_23 rfl (lv_at hl 5 rfl) ?_
      refine va_get (D := D) (ci := 7) (v := .ref y30) (C := R_MO) (T := F_MO) (N := 50) hx hb hts i_MO hown hK hP 0 rfl rfl 37 (by decide) (hts _ q_669) (fun _ h9 => h9) rfl d_MO_tryRing_24 ?_
      refine lv_iload hx hb d_MO_tryRing_27 (lv_at hl 0 rfl) ?_
      refine my_ldN hx hb hK hP 2 rfl k_l rfl (by omega) (by decide) d_MO_tryRing_29 ?_
      have hb_1 : DA1 k_l ≤ 11 := h_DA1 _
      refine lv_imul hx hb d_MO_tryRing_30 ?_
      refine lv_seti (nI (2 * (DA1 k_l))) (pk_mul 2 (DA1 k_l)) ?_
      refine lv_aload_n hx hb d_MO_tryRing_31 rfl (lv_at hl 5 rfl) ?_
      refine va_get (D := D) (ci := 7) (v := .ref y31) (C := R_MO) (T := F_MO) (N := 50) hx hb hts i_MO hown hK hP 0 rfl rfl 38 (by decide) (hts _ q_670) (fun _ h9 => h9) rfl d_MO_tryRing_32 ?_
      refine lv_iload hx hb d_MO_tryRing_35 (lv_at hl 0 rfl) ?_
      refine my_ldN hx hb hK hP 3 rfl k_l rfl (by omega) (by decide) d_MO_tryRing_37 ?_
      have hb_2 : DA2 k_l ≤ 1 := h_DA2 _
      refine lv_iadd hx hb d_MO_tryRing_38 ?_
      refine lv_seti (nI ((2 * (DA1 k_l)) + (DA2 k_l))) (nI_add (2 * (DA1 k_l)) (DA2 k_l)) ?_
      refine my_ldI hx hb hK hP 1 rfl ((2 * (DA1 k_l)) + (DA2 k_l)) rfl (by omega) (by decide) d_MO_tryRing_39 ?_
      refine lv_istore (lv' := [(6, .int (MS ((2 * (DA1 k_l)) + (DA2 k_l)))), (5, .int (nI k_l)), (4, .int sm_v), (3, .int v), (2, .int u), (1, .int (nI ln)), (0, .ref y)]) hx hb d_MO_tryRing_40 hl (by decide) rfl (fun ls hl => ?_)
      refine lv_aload_n hx hb d_MO_tryRing_42 rfl (lv_at hl 6 rfl) ?_
      refine va_get (D := D) (ci := 7) (v := .ref y6) (C := R_MO) (T := F_MO) (N := 50) hx hb hts i_MO hown hK hP 0 rfl rfl 10 (by decide) (hts _ q_642) (fun _ h9 => h9) rfl d_MO_tryRing_43 ?_
      refine lv_iconst (v := 2) hx hb d_MO_tryRing_46 (by decide) ?_
      refine lv_aload_n hx hb d_MO_tryRing_47 rfl (lv_at hl 6 rfl) ?_
      refine va_get (D := D) (ci := 7) (v := .ref y30) (C := R_MO) (T := F_MO) (N := 50) hx hb hts i_MO hown hK hP 0 rfl rfl 37 (by decide) (hts _ q_669) (fun _ h9 => h9) rfl d_MO_tryRing_48 ?_
      refine lv_iload hx hb d_MO_tryRing_51 (lv_at hl 1 rfl) ?_
      refine my_ldN hx hb hK hP 2 rfl k_l rfl (by omega) (by decide) d_MO_tryRing_53 ?_
      have hb_3 : DA1 k_l ≤ 11 := h_DA1 _
      refine lv_imul hx hb d_MO_tryRing_54 ?_
      refine lv_seti (nI (2 * (DA1 k_l))) (pk_mul 2 (DA1 k_l)) ?_
      refine lv_iconst (v := 1) hx hb d_MO_tryRing_55 (by decide) ?_
      refine lv_iadd hx hb d_MO_tryRing_56 ?_
      refine lv_seti (nI ((2 * (DA1 k_l)) + 1)) (nI_add (2 * (DA1 k_l)) 1) ?_
      refine lv_aload_n hx hb d_MO_tryRing_57 rfl (lv_at hl 6 rfl) ?_
      refine va_get (D := D) (ci := 7) (v := .ref y31) (C := R_MO) (T := F_MO) (N := 50) hx hb hts i_MO hown hK hP 0 rfl rfl 38 (by decide) (hts _ q_670) (fun _ h9 => h9) rfl d_MO_tryRing_58 ?_
      refine lv_iload hx hb d_MO_tryRing_61 (lv_at hl 1 rfl) ?_
      refine my_ldN hx hb hK hP 3 rfl k_l rfl (by omega) (by decide) d_MO_tryRing_63 ?_
      have hb_4 : DA2 k_l ≤ 1 := h_DA2 _
      refine lv_isub hx hb d_MO_tryRing_64 ?_
      refine lv_seti (nI (((2 * (DA1 k_l)) + 1) - (DA2 k_l))) (pk_sub (a := ((2 * (DA1 k_l)) + 1)) (b := (DA2 k_l)) (by omega)) ?_
      refine my_ldI hx hb hK hP 1 rfl (((2 * (DA1 k_l)) + 1) - (DA2 k_l)) rfl (by omega) (by decide) d_MO_tryRing_65 ?_
      refine lv_istore (lv' := [(7, .int (MS (((2 * (DA1 k_l)) + 1) - (DA2 k_l)))), (6, .int (MS ((2 * (DA1 k_l)) + (DA2 k_l)))), (5, .int (nI k_l)), (4, .int sm_v), (3, .int v), (2, .int u), (1, .int (nI ln)), (0, .ref y)]) hx hb d_MO_tryRing_66 hl (by decide) rfl (fun ls hl => ?_)
      refine lv_iload_n hx hb d_MO_tryRing_68 rfl (lv_at hl 5 rfl) ?_
      refine lv_iload hx hb d_MO_tryRing_69 (lv_at hl 1 rfl) ?_
      refine lv_icmp_le (tgt := 75) hx hb d_MO_tryRing_71 (by decide) (fun h_17 => ?_) (fun h_17 => ?_)
      · refine lv_iload hx hb d_MO_tryRing_75 (lv_at hl 3 rfl) ?_
        refine lv_iload hx hb d_MO_tryRing_77 (lv_at hl 1 rfl) ?_
        refine lv_iload hx hb d_MO_tryRing_79 (lv_at hl 0 rfl) ?_
        refine lv_isub hx hb d_MO_tryRing_81 ?_
        refine lv_iconst (v := 2) hx hb d_MO_tryRing_82 (by decide) ?_
        refine lv_iload_n hx hb d_MO_tryRing_83 rfl (lv_at hl 5 rfl) ?_
        refine lv_imul hx hb d_MO_tryRing_84 ?_
        refine lv_isub hx hb d_MO_tryRing_85 ?_
        have hPc := hP.sub (ws' := []) [] rfl
        have hDc := hD.sub (ws' := []) [] (by decide +kernel) rfl
        refine vp_callSi (va_Run.run (va_runS (As := [.int (((MS ((2 * (DA1 k_l)) + (DA2 k_l))) - (MS (((2 * (DA1 k_l)) + 1) - (DA2 k_l)))) - (2 * u))]) (rest := [.int sm_v]) ⟨hx, hb, hml, hown, hts⟩ (e_MO_size l D cI cZ (((MS ((2 * (DA1 k_l)) + (DA2 k_l))) - (MS (((2 * (DA1 k_l)) + 1) - (DA2 k_l)))) - (2 * u)) H_2.size ) (my_cwS 1 hts q_933 q_931 q_932 q_8 rfl rfl (by decide +kernel) ⟨Nat.le_of_ble_eq_true rfl, Nat.le_of_ble_eq_true rfl⟩) (my_preS hPc hDc hK hN) rfl rfl hl.1 rfl (lv_room (Nat.le_of_ble_eq_true rfl)) d_MO_tryRing_86 ⟨Nat.le_of_ble_eq_true rfl, Nat.le_of_ble_eq_true rfl⟩)) (fun r_18 hw_18 => ?_)
        have hf_18_0 : r_18 = oabs (((MS ((2 * (DA1 k_l)) + (DA2 k_l))) - (MS (((2 * (DA1 k_l)) + 1) - (DA2 k_l)))) - (2 * u)) := hw_18
        have hf_18_0 : r_18 = oabs (((MS ((2 * (DA1 k_l)) + (DA2 k_l))) - (MS (((2 * (DA1 k_l)) + 1) - (DA2 k_l)))) - (2 * u)) := hf_18_0
        subst hf_18_0
        refine lv_iload hx hb d_MO_tryRing_89 (lv_at hl 1 rfl) ?_
        refine lv_iload hx hb d_MO_tryRing_91 (lv_at hl 0 rfl) ?_
        refine lv_isub hx hb d_MO_tryRing_93 ?_
        have hPc := hP.sub (ws' := []) [] rfl
        have hDc := hD.sub (ws' := []) [] (by decide +kernel) rfl
        refine vp_callSi (va_Run.run (va_runS (As := [.int ((MS ((2 * (DA1 k_l)) + (DA2 k_l))) - (MS (((2 * (DA1 k_l)) + 1) - (DA2 k_l))))]) (rest := [.int (oabs (((MS ((2 * (DA1 k_l)) + (DA2 k_l))) - (MS (((2 * (DA1 k_l)) + 1) - (DA2 k_l)))) - (2 * u))), .int sm_v]) ⟨hx, hb, hml, hown, hts⟩ (e_MO_size l D cI cZ ((MS ((2 * (DA1 k_l)) + (DA2 k_l))) - (MS (((2 * (DA1 k_l)) + 1) - (DA2 k_l)))) H_2.size ) (my_cwS 1 hts q_933 q_931 q_932 q_8 rfl rfl (by decide +kernel) ⟨Nat.le_of_ble_eq_true rfl, Nat.le_of_ble_eq_true rfl⟩) (my_preS hPc hDc hK hN) rfl rfl hl.1 rfl (lv_room (Nat.le_of_ble_eq_true rfl)) d_MO_tryRing_94 ⟨Nat.le_of_ble_eq_true rfl, Nat.le_of_ble_eq_true rfl⟩)) (fun r_19 hw_19 => ?_)
        have hf_19_0 : r_19 = oabs ((MS ((2 * (DA1 k_l)) + (DA2 k_l))) - (MS (((2 * (DA1 k_l)) + 1) - (DA2 k_l)))) := hw_19
        have hf_19_0 : r_19 = oabs ((MS ((2 * (DA1 k_l)) + (DA2 k_l))) - (MS (((2 * (DA1 k_l)) + 1) - (DA2 k_l)))) := hf_19_0
        subst hf_19_0
        refine lv_isub hx hb d_MO_tryRing_97 ?_
        refine lv_iadd hx hb d_MO_tryRing_98 ?_
        refine lv_istore (lv' := [(4, .int (sm_v + ((oabs (((MS ((2 * (DA1 k_l)) + (DA2 k_l))) - (MS (((2 * (DA1 k_l)) + 1) - (DA2 k_l)))) - (2 * u))) - (oabs ((MS ((2 * (DA1 k_l)) + (DA2 k_l))) - (MS (((2 * (DA1 k_l)) + 1) - (DA2 k_l)))))))), (7, .int (MS (((2 * (DA1 k_l)) + 1) - (DA2 k_l)))), (6, .int (MS ((2 * (DA1 k_l)) + (DA2 k_l)))), (5, .int (nI k_l)), (3, .int v), (2, .int u), (1, .int (nI ln)), (0, .ref y)]) hx hb d_MO_tryRing_99 hl (by decide) rfl (fun ls hl => ?_)
        refine lv_iinc (v := nI (k_l + 1)) (lv' := [(5, .int (nI (k_l + 1))), (4, .int (sm_v + ((oabs (((MS ((2 * (DA1 k_l)) + (DA2 k_l))) - (MS (((2 * (DA1 k_l)) + 1) - (DA2 k_l)))) - (2 * u))) - (oabs ((MS ((2 * (DA1 k_l)) + (DA2 k_l))) - (MS (((2 * (DA1 k_l)) + 1) - (DA2 k_l)))))))), (7, .int (MS (((2 * (DA1 k_l)) + 1) - (DA2 k_l)))), (6, .int (MS ((2 * (DA1 k_l)) + (DA2 k_l)))), (3, .int v), (2, .int u), (1, .int (nI ln)), (0, .ref y)]) hx hb d_MO_tryRing_101 hl (k := 3) rfl (nI_1 k_l) (by decide) rfl (fun ls hl => ?_)
        refine lv_goto (tgt := 12) hx hb d_MO_tryRing_104 (by decide) ?_
        have hPz := hP.sub (ws' := [(y, .inr (7, [.int (nI mn), .int mtm, .int mgp, .int mlk, .ref y1, .ref y2, .ref y3, .ref y4, .int (nI mp), .ref y5, .ref y6, .ref y7, .ref y8, .ref y9, .ref y10, .ref y11, .ref y12, .ref y13, .ref y14, .ref y15, .int (nI mq), .ref y16, .ref y17, .ref y18, .ref y19, .ref y20, .ref y21, .ref y22, .ref y23, .ref y24, .ref y25, .ref y26, .ref y27, .int mhw, .int (nI mwn), .ref y28, .ref y29, .ref y30, .ref y31, .ref y32, .ref y33, .ref y34, .ref y35, .ref y36, .int (nI mbm), .ref y37, .ref y38, .int (nI mrm), .int mro, .int mrs])), (y6, .inl (cI, 24, .inl MS)), (y30, .inl (cI, 9, .inl (fun zy => nI (DA1 zy)))), (y31, .inl (cI, 9, .inl (fun zy => nI (DA2 zy)))), (y37, .inl (cI, 8, .inl (fun zy => nI (RA1 zy)))), (y38, .inl (cI, 8, .inl (fun zy => nI (RA2 zy))))]) [0, 1, 2, 3, 4, 5] rfl
        have hDz := hD.sub (ws' := [(y, .inr (7, [.int (nI mn), .int mtm, .int mgp, .int mlk, .ref y1, .ref y2, .ref y3, .ref y4, .int (nI mp), .ref y5, .ref y6, .ref y7, .ref y8, .ref y9, .ref y10, .ref y11, .ref y12, .ref y13, .ref y14, .ref y15, .int (nI mq), .ref y16, .ref y17, .ref y18, .ref y19, .ref y20, .ref y21, .ref y22, .ref y23, .ref y24, .ref y25, .ref y26, .ref y27, .int mhw, .int (nI mwn), .ref y28, .ref y29, .ref y30, .ref y31, .ref y32, .ref y33, .ref y34, .ref y35, .ref y36, .int (nI mbm), .ref y37, .ref y38, .int (nI mrm), .int mro, .int mrs])), (y6, .inl (cI, 24, .inl MS)), (y30, .inl (cI, 9, .inl (fun zy => nI (DA1 zy)))), (y31, .inl (cI, 9, .inl (fun zy => nI (DA2 zy)))), (y37, .inl (cI, 8, .inl (fun zy => nI (RA1 zy)))), (y38, .inl (cI, 8, .inl (fun zy => nI (RA2 zy))))]) [0, 1, 2, 3, 4, 5] (by decide) rfl
        exact ih1 ((k_l + 1), sm_v + ((oabs (((MS ((2 * (DA1 k_l)) + (DA2 k_l))) - (MS (((2 * (DA1 k_l)) + 1) - (DA2 k_l)))) - (2 * u))) - (oabs ((MS ((2 * (DA1 k_l)) + (DA2 k_l))) - (MS (((2 * (DA1 k_l)) + 1) - (DA2 k_l))))))) _ _ _ (by first | omega | (dsimp only; omega)) ⟨(by first | omega | (dsimp only; omega)), (roff_m (h_DA2 _) hsm), (all_s hfit (Int32.not_lt.mp (Int32.not_lt.mpr h_17))), hPz, hDz, hS, lv_sub hl [0, 1, 4, 5, 6, 7] rfl⟩
      · have hP9 := hP.sub (ws' := [(y, .inr (7, [.int (nI mn), .int mtm, .int mgp, .int mlk, .ref y1, .ref y2, .ref y3, .ref y4, .int (nI mp), .ref y5, .ref y6, .ref y7, .ref y8, .ref y9, .ref y10, .ref y11, .ref y12, .ref y13, .ref y14, .ref y15, .int (nI mq), .ref y16, .ref y17, .ref y18, .ref y19, .ref y20, .ref y21, .ref y22, .ref y23, .ref y24, .ref y25, .ref y26, .ref y27, .int mhw, .int (nI mwn), .ref y28, .ref y29, .ref y30, .ref y31, .ref y32, .ref y33, .ref y34, .ref y35, .ref y36, .int (nI mbm), .ref y37, .ref y38, .int (nI mrm), .int mro, .int mrs])), (y6, .inl (cI, 24, .inl MS)), (y30, .inl (cI, 9, .inl (fun zy => nI (DA1 zy)))), (y31, .inl (cI, 9, .inl (fun zy => nI (DA2 zy)))), (y37, .inl (cI, 8, .inl (fun zy => nI (RA1 zy)))), (y38, .inl (cI, 8, .inl (fun zy => nI (RA2 zy))))]) [0, 1, 2, 3, 4, 5] rfl
        have hD9 := hD.sub (ws' := [(y, .inr (7, [.int (nI mn), .int mtm, .int mgp, .int mlk, .ref y1, .ref y2, .ref y3, .ref y4, .int (nI mp), .ref y5, .ref y6, .ref y7, .ref y8, .ref y9, .ref y10, .ref y11, .ref y12, .ref y13, .ref y14, .ref y15, .int (nI mq), .ref y16, .ref y17, .ref y18, .ref y19, .ref y20, .ref y21, .ref y22, .ref y23, .ref y24, .ref y25, .ref y26, .ref y27, .int mhw, .int (nI mwn), .ref y28, .ref y29, .ref y30, .ref y31, .ref y32, .ref y33, .ref y34, .ref y35, .ref y36, .int (nI mbm), .ref y37, .ref y38, .int (nI mrm), .int mro, .int mrs])), (y6, .inl (cI, 24, .inl MS)), (y30, .inl (cI, 9, .inl (fun zy => nI (DA1 zy)))), (y31, .inl (cI, 9, .inl (fun zy => nI (DA2 zy)))), (y37, .inl (cI, 8, .inl (fun zy => nI (RA1 zy)))), (y38, .inl (cI, 8, .inl (fun zy => nI (RA2 zy))))]) [0, 1, 2, 3, 4, 5] (by decide +kernel) rfl
        refine W.widen (k := 0) (n := 0) (Nat.le_of_ble_eq_true rfl) (Nat.le_of_ble_eq_true rfl) ?_
        exact W.vret hx hb hr (fun tT ht hW => ⟨⟨(mrm, mro, mrs, RA1, RA2), rfl, ⟨h_mrm, h_RA1, h_RA2, (tr_no (Or.inl (fun hZ => absurd (Int32.not_le.mp h_17) (Int32.not_lt.mpr (hZ.2.1 k_l (by omega))))))⟩, by rw [ht]; exact hP9, hD9⟩, hS.F ht⟩) hS.2.2 d_MO_tryRing_74
  · have hP9 := hP.sub (ws' := [(y, .inr (7, [.int (nI mn), .int mtm, .int mgp, .int mlk, .ref y1, .ref y2, .ref y3, .ref y4, .int (nI mp), .ref y5, .ref y6, .ref y7, .ref y8, .ref y9, .ref y10, .ref y11, .ref y12, .ref y13, .ref y14, .ref y15, .int (nI mq), .ref y16, .ref y17, .ref y18, .ref y19, .ref y20, .ref y21, .ref y22, .ref y23, .ref y24, .ref y25, .ref y26, .ref y27, .int mhw, .int (nI mwn), .ref y28, .ref y29, .ref y30, .ref y31, .ref y32, .ref y33, .ref y34, .ref y35, .ref y36, .int (nI mbm), .ref y37, .ref y38, .int (nI mrm), .int mro, .int mrs])), (y6, .inl (cI, 24, .inl MS)), (y30, .inl (cI, 9, .inl (fun zy => nI (DA1 zy)))), (y31, .inl (cI, 9, .inl (fun zy => nI (DA2 zy)))), (y37, .inl (cI, 8, .inl (fun zy => nI (RA1 zy)))), (y38, .inl (cI, 8, .inl (fun zy => nI (RA2 zy))))]) [0, 1, 2, 3, 4, 5] rfl
    have hD9 := hD.sub (ws' := [(y, .inr (7, [.int (nI mn), .int mtm, .int mgp, .int mlk, .ref y1, .ref y2, .ref y3, .ref y4, .int (nI mp), .ref y5, .ref y6, .ref y7, .ref y8, .ref y9, .ref y10, .ref y11, .ref y12, .ref y13, .ref y14, .ref y15, .int (nI mq), .ref y16, .ref y17, .ref y18, .ref y19, .ref y20, .ref y21, .ref y22, .ref y23, .ref y24, .ref y25, .ref y26, .ref y27, .int mhw, .int (nI mwn), .ref y28, .ref y29, .ref y30, .ref y31, .ref y32, .ref y33, .ref y34, .ref y35, .ref y36, .int (nI mbm), .ref y37, .ref y38, .int (nI mrm), .int mro, .int mrs])), (y6, .inl (cI, 24, .inl MS)), (y30, .inl (cI, 9, .inl (fun zy => nI (DA1 zy)))), (y31, .inl (cI, 9, .inl (fun zy => nI (DA2 zy)))), (y37, .inl (cI, 8, .inl (fun zy => nI (RA1 zy)))), (y38, .inl (cI, 8, .inl (fun zy => nI (RA2 zy))))]) [0, 1, 2, 3, 4, 5] (by decide +kernel) rfl
    refine W.widen (k := 0) (n := 0) (Nat.le_of_ble_eq_true rfl) (Nat.le_of_ble_eq_true rfl) ?_
    exact W.vret hx hb hr (fun tT ht hW => ⟨⟨(mrm, mro, mrs, RA1, RA2), rfl, ⟨h_mrm, h_RA1, h_RA2, (tr_no (Or.inl (fun hZ => absurd (Int32.not_le.mp h_1) (Int32.not_lt.mpr hZ.1))))⟩, by rw [ht]; exact hP9, hD9⟩, hS.F ht⟩) hS.2.2 d_MO_tryRing_5

set_option maxHeartbeats 4000000 in
set_option maxRecDepth 100000 in
theorem e_MO_tryAll (l : Launch) (D : va_G) (cI cZ : ClassId) (y : Nat) (ln : Nat) (mn : Nat) (mtm : Int32) (mgp : Int32) (mlk : Int32) (y1 : Nat) (y2 : Nat) (y3 : Nat) (y4 : Nat) (mp : Nat) (y5 : Nat) (y6 : Nat) (y7 : Nat) (y8 : Nat) (y9 : Nat) (y10 : Nat) (y11 : Nat) (y12 : Nat) (y13 : Nat) (y14 : Nat) (y15 : Nat) (mq : Nat) (y16 : Nat) (y17 : Nat) (y18 : Nat) (y19 : Nat) (y20 : Nat) (y21 : Nat) (y22 : Nat) (y23 : Nat) (y24 : Nat) (y25 : Nat) (y26 : Nat) (y27 : Nat) (mhw : Int32) (mwn : Nat) (y28 : Nat) (y29 : Nat) (y30 : Nat) (y31 : Nat) (y32 : Nat) (y33 : Nat) (y34 : Nat) (y35 : Nat) (y36 : Nat) (mbm : Nat) (y37 : Nat) (y38 : Nat) (mrm : Nat) (mro : Int32) (mrs : Int32) (MS : Nat → Int32) (DA1 : Nat → Nat) (DA2 : Nat → Nat) (RA1 : Nat → Nat) (RA2 : Nat → Nat) (MU : Nat → Int32) (sz : Nat) (h_mn : mn ≤ 7) (h_mp : mp ≤ 12) (h_mq : mq ≤ 40) (h_mwn : mwn ≤ 8) (h_mbm : mbm ≤ 8) (h_mrm : mrm ≤ 8) (h_DA1 : ∀ zz, DA1 zz ≤ 11) (h_DA2 : ∀ zz, DA2 zz ≤ 1) (h_RA1 : ∀ zz, RA1 zz ≤ 11) (h_RA2 : ∀ zz, RA2 zz ≤ 1) (hln : ln ≤ 8) (hln1 : 1 ≤ ln) (hSI : ∀ k, 0 ≤ (MS k).toInt ∧ (MS k).toInt ≤ 200000) : Met l ⟨"PromiseChainsModel", "tryAll", "(I)V"⟩ (mw ⟨"PromiseChainsModel", "tryAll", "(I)V"⟩ prog_9_method_43_code 7 none) ({ frames := 2, cells := 0, slots := 0, locals := 51 }) (va_Pc [.ref y, .int (nI ln)] (PB D cI cZ sz [(y, .inr (7, [.int (nI mn), .int mtm, .int mgp, .int mlk, .ref y1, .ref y2, .ref y3, .ref y4, .int (nI mp), .ref y5, .ref y6, .ref y7, .ref y8, .ref y9, .ref y10, .ref y11, .ref y12, .ref y13, .ref y14, .ref y15, .int (nI mq), .ref y16, .ref y17, .ref y18, .ref y19, .ref y20, .ref y21, .ref y22, .ref y23, .ref y24, .ref y25, .ref y26, .ref y27, .int mhw, .int (nI mwn), .ref y28, .ref y29, .ref y30, .ref y31, .ref y32, .ref y33, .ref y34, .ref y35, .ref y36, .int (nI mbm), .ref y37, .ref y38, .int (nI mrm), .int mro, .int mrs])), (y6, .inl (cI, 24, .inl MS)), (y30, .inl (cI, 9, .inl (fun zy => nI (DA1 zy)))), (y31, .inl (cI, 9, .inl (fun zy => nI (DA2 zy)))), (y37, .inl (cI, 8, .inl (fun zy => nI (RA1 zy)))), (y38, .inl (cI, 8, .inl (fun zy => nI (RA2 zy)))), (y8, .inl (cI, 12, .inl MU))])) (va_Qv (S := Nat × Int32 × Int32 × (Nat → Nat) × (Nat → Nat)) (fun uU => (uU.1 ≤ 8) ∧ (∀ zz, uU.2.2.2.1 zz ≤ 11) ∧ (∀ zz, uU.2.2.2.2 zz ≤ 1) ∧ (ROI MS ln DA1 DA2 (sumO MS MU mp) (fun m => rCandM MS ln (pfx DA1 DA2) m) mrm mro mrs RA1 RA2 uU.1 uU.2.1 uU.2.2.1 uU.2.2.2.1 uU.2.2.2.2)) (fun uU tT => BB D (va_A [(y, .inr (7, [.int (nI mn), .int mtm, .int mgp, .int mlk, .ref y1, .ref y2, .ref y3, .ref y4, .int (nI mp), .ref y5, .ref y6, .ref y7, .ref y8, .ref y9, .ref y10, .ref y11, .ref y12, .ref y13, .ref y14, .ref y15, .int (nI mq), .ref y16, .ref y17, .ref y18, .ref y19, .ref y20, .ref y21, .ref y22, .ref y23, .ref y24, .ref y25, .ref y26, .ref y27, .int mhw, .int (nI mwn), .ref y28, .ref y29, .ref y30, .ref y31, .ref y32, .ref y33, .ref y34, .ref y35, .ref y36, .int (nI mbm), .ref y37, .ref y38, .int (nI mrm), .int mro, .int mrs])), (y6, .inl (cI, 24, .inl MS)), (y30, .inl (cI, 9, .inl (fun zy => nI (DA1 zy)))), (y31, .inl (cI, 9, .inl (fun zy => nI (DA2 zy)))), (y37, .inl (cI, 8, .inl (fun zy => nI (RA1 zy)))), (y38, .inl (cI, 8, .inl (fun zy => nI (RA2 zy)))), (y8, .inl (cI, 12, .inl MU))] sz) [(y, .inr (7, [.int (nI mn), .int mtm, .int mgp, .int mlk, .ref y1, .ref y2, .ref y3, .ref y4, .int (nI mp), .ref y5, .ref y6, .ref y7, .ref y8, .ref y9, .ref y10, .ref y11, .ref y12, .ref y13, .ref y14, .ref y15, .int (nI mq), .ref y16, .ref y17, .ref y18, .ref y19, .ref y20, .ref y21, .ref y22, .ref y23, .ref y24, .ref y25, .ref y26, .ref y27, .int mhw, .int (nI mwn), .ref y28, .ref y29, .ref y30, .ref y31, .ref y32, .ref y33, .ref y34, .ref y35, .ref y36, .int (nI mbm), .ref y37, .ref y38, .int (nI uU.1), .int (uU.2.1), .int (uU.2.2.1)])), (y6, .inl (cI, 24, .inl MS)), (y30, .inl (cI, 9, .inl (fun zy => nI (DA1 zy)))), (y31, .inl (cI, 9, .inl (fun zy => nI (DA2 zy)))), (y37, .inl (cI, 8, .inl (fun zy => nI ((uU.2.2.2.1) zy)))), (y38, .inl (cI, 8, .inl (fun zy => nI ((uU.2.2.2.2) zy)))), (y8, .inl (cI, 12, .inl MU))] tT) (va_A [(y, .inr (7, [.int (nI mn), .int mtm, .int mgp, .int mlk, .ref y1, .ref y2, .ref y3, .ref y4, .int (nI mp), .ref y5, .ref y6, .ref y7, .ref y8, .ref y9, .ref y10, .ref y11, .ref y12, .ref y13, .ref y14, .ref y15, .int (nI mq), .ref y16, .ref y17, .ref y18, .ref y19, .ref y20, .ref y21, .ref y22, .ref y23, .ref y24, .ref y25, .ref y26, .ref y27, .int mhw, .int (nI mwn), .ref y28, .ref y29, .ref y30, .ref y31, .ref y32, .ref y33, .ref y34, .ref y35, .ref y36, .int (nI mbm), .ref y37, .ref y38, .int (nI mrm), .int mro, .int mrs])), (y6, .inl (cI, 24, .inl MS)), (y30, .inl (cI, 9, .inl (fun zy => nI (DA1 zy)))), (y31, .inl (cI, 9, .inl (fun zy => nI (DA2 zy)))), (y37, .inl (cI, 8, .inl (fun zy => nI (RA1 zy)))), (y38, .inl (cI, 8, .inl (fun zy => nI (RA2 zy)))), (y8, .inl (cI, 12, .inl MU))] sz)) 0 0 (va_A [(y, .inr (7, [.int (nI mn), .int mtm, .int mgp, .int mlk, .ref y1, .ref y2, .ref y3, .ref y4, .int (nI mp), .ref y5, .ref y6, .ref y7, .ref y8, .ref y9, .ref y10, .ref y11, .ref y12, .ref y13, .ref y14, .ref y15, .int (nI mq), .ref y16, .ref y17, .ref y18, .ref y19, .ref y20, .ref y21, .ref y22, .ref y23, .ref y24, .ref y25, .ref y26, .ref y27, .int mhw, .int (nI mwn), .ref y28, .ref y29, .ref y30, .ref y31, .ref y32, .ref y33, .ref y34, .ref y35, .ref y36, .int (nI mbm), .ref y37, .ref y38, .int (nI mrm), .int mro, .int mrs])), (y6, .inl (cI, 24, .inl MS)), (y30, .inl (cI, 9, .inl (fun zy => nI (DA1 zy)))), (y31, .inl (cI, 9, .inl (fun zy => nI (DA2 zy)))), (y37, .inl (cI, 8, .inl (fun zy => nI (RA1 zy)))), (y38, .inl (cI, 8, .inl (fun zy => nI (RA2 zy)))), (y8, .inl (cI, 12, .inl MU))] sz) := by
  refine Met.ofW (cc := prog_9_method_43_code) (maxL := 7) (ret := none) (by decide) rfl ?_
  intro p e s m args below meth c s₁ B hml hv
  obtain ⟨rfl, hsz, hP, hK, hD0, hN⟩ := hv
  have hx := B.exec
  have hb := B.bytes
  have hr := B.returns
  have hts0 := atoms_spec (ws := mw ⟨"PromiseChainsModel", "tryAll", "(I)V"⟩ prog_9_method_43_code 7 none) B.pre
  have hts : ∀ w ∈ tblG, w.before _ s = true := fun w h => hts0 w (List.mem_cons_of_mem _ h)
  have hown : s.vm.findClass "PromiseChainsModel" = some m.cls := findClass_of_methodNamed B.named
  have hlocks := B.notSynchronized
  subst hsz
  have hD := hD0.self (sz := s.heap.size)
  generalize hAe : va_A [(y, .inr (7, [.int (nI mn), .int mtm, .int mgp, .int mlk, .ref y1, .ref y2, .ref y3, .ref y4, .int (nI mp), .ref y5, .ref y6, .ref y7, .ref y8, .ref y9, .ref y10, .ref y11, .ref y12, .ref y13, .ref y14, .ref y15, .int (nI mq), .ref y16, .ref y17, .ref y18, .ref y19, .ref y20, .ref y21, .ref y22, .ref y23, .ref y24, .ref y25, .ref y26, .ref y27, .int mhw, .int (nI mwn), .ref y28, .ref y29, .ref y30, .ref y31, .ref y32, .ref y33, .ref y34, .ref y35, .ref y36, .int (nI mbm), .ref y37, .ref y38, .int (nI mrm), .int mro, .int mrs])), (y6, .inl (cI, 24, .inl MS)), (y30, .inl (cI, 9, .inl (fun zy => nI (DA1 zy)))), (y31, .inl (cI, 9, .inl (fun zy => nI (DA2 zy)))), (y37, .inl (cI, 8, .inl (fun zy => nI (RA1 zy)))), (y38, .inl (cI, 8, .inl (fun zy => nI (RA2 zy)))), (y8, .inl (cI, 12, .inl MU))] s.heap.size = A at hD ⊢
  have hA : ∀ q : Nat, s.heap.size ≤ q → A q := fun q h => by rw [← hAe]; exact Or.inr h
  have hS : va_S A s.heap s.heap [] := va_S.rf
  have hP : va_P D vwCl [(y, .inr (7, [.int (nI mn), .int mtm, .int mgp, .int mlk, .ref y1, .ref y2, .ref y3, .ref y4, .int (nI mp), .ref y5, .ref y6, .ref y7, .ref y8, .ref y9, .ref y10, .ref y11, .ref y12, .ref y13, .ref y14, .ref y15, .int (nI mq), .ref y16, .ref y17, .ref y18, .ref y19, .ref y20, .ref y21, .ref y22, .ref y23, .ref y24, .ref y25, .ref y26, .ref y27, .int mhw, .int (nI mwn), .ref y28, .ref y29, .ref y30, .ref y31, .ref y32, .ref y33, .ref y34, .ref y35, .ref y36, .int (nI mbm), .ref y37, .ref y38, .int (nI mrm), .int mro, .int mrs])), (y6, .inl (cI, 24, .inl MS)), (y30, .inl (cI, 9, .inl (fun zy => nI (DA1 zy)))), (y31, .inl (cI, 9, .inl (fun zy => nI (DA2 zy)))), (y37, .inl (cI, 8, .inl (fun zy => nI (RA1 zy)))), (y38, .inl (cI, 8, .inl (fun zy => nI (RA2 zy)))), (y8, .inl (cI, 12, .inl MU))] s.heap := hP
  have hl := lv_entry ([.ref y, .int (nI ln)]) (n := 7) (Nat.le_of_ble_eq_true rfl)
  rw [lg_entry_eq]
  generalize (lg_sl ([.ref y, .int (nI ln)]) ++ List.replicate (7 - (lg_sl ([.ref y, .int (nI ln)])).length) Slot.unset).toArray = ls at hl ⊢
  have hl : lv_has ls 7 [(0, .ref y), (1, .int (nI ln))] := hl
  refine lv_aload_n hx hb d_MO_tryAll_0 rfl (lv_at hl 0 rfl) ?_
  have hPc := hP.sub (ws' := [(y, .inr (7, [.int (nI mn), .int mtm, .int mgp, .int mlk, .ref y1, .ref y2, .ref y3, .ref y4, .int (nI mp), .ref y5, .ref y6, .ref y7, .ref y8, .ref y9, .ref y10, .ref y11, .ref y12, .ref y13, .ref y14, .ref y15, .int (nI mq), .ref y16, .ref y17, .ref y18, .ref y19, .ref y20, .ref y21, .ref y22, .ref y23, .ref y24, .ref y25, .ref y26, .ref y27, .int mhw, .int (nI mwn), .ref y28, .ref y29, .ref y30, .ref y31, .ref y32, .ref y33, .ref y34, .ref y35, .ref y36, .int (nI mbm), .ref y37, .ref y38, .int (nI mrm), .int mro, .int mrs])), (y6, .inl (cI, 24, .inl MS)), (y8, .inl (cI, 12, .inl MU))]) [0, 1, 6] rfl
  have hDc := hD.sub (ws' := [(y, .inr (7, [.int (nI mn), .int mtm, .int mgp, .int mlk, .ref y1, .ref y2, .ref y3, .ref y4, .int (nI mp), .ref y5, .ref y6, .ref y7, .ref y8, .ref y9, .ref y10, .ref y11, .ref y12, .ref y13, .ref y14, .ref y15, .int (nI mq), .ref y16, .ref y17, .ref y18, .ref y19, .ref y20, .ref y21, .ref y22, .ref y23, .ref y24, .ref y25, .ref y26, .ref y27, .int mhw, .int (nI mwn), .ref y28, .ref y29, .ref y30, .ref y31, .ref y32, .ref y33, .ref y34, .ref y35, .ref y36, .int (nI mbm), .ref y37, .ref y38, .int (nI mrm), .int mro, .int mrs])), (y6, .inl (cI, 24, .inl MS)), (y8, .inl (cI, 12, .inl MU))]) [0, 1, 6] (by decide +kernel) rfl
  refine vp_callSi (va_Run.run (va_runV (As := []) (rest := []) ⟨hx, hb, hml, hown, hts⟩ (e_MO_off l D cI cZ y mn mtm mgp mlk y1 y2 y3 y4 mp y5 y6 y7 y8 y9 y10 y11 y12 y13 y14 y15 mq y16 y17 y18 y19 y20 y21 y22 y23 y24 y25 y26 y27 mhw mwn y28 y29 y30 y31 y32 y33 y34 y35 y36 mbm y37 y38 mrm mro mrs MS MU s.heap.size h_mn h_mp h_mq h_mwn h_mbm h_mrm) (my_cwV 0 hts q_930 q_954 q_928 q_929 q_8 rfl rfl (by decide +kernel) ⟨Nat.le_of_ble_eq_true rfl, Nat.le_of_ble_eq_true rfl⟩) (my_preV hPc hDc hK hN 7 0 rfl rfl) rfl rfl hl.1 rfl (lv_room (Nat.le_of_ble_eq_true rfl)) d_MO_tryAll_1 ⟨Nat.le_of_ble_eq_true rfl, Nat.le_of_ble_eq_true rfl⟩)) (fun r_1 hw_1 => ?_)
  have hf_1_0 : r_1 = sumO MS MU mp := hw_1
  have hf_1_0 : r_1 = sumO MS MU mp := hf_1_0
  subst hf_1_0
  refine lv_istore_n (lv' := [(2, .int (sumO MS MU mp)), (0, .ref y), (1, .int (nI ln))]) hx hb d_MO_tryAll_4 rfl hl (by decide) rfl (fun ls hl => ?_)
  refine lv_aload_n hx hb d_MO_tryAll_5 rfl (lv_at hl 1 rfl) ?_
  refine lv_iload_n hx hb d_MO_tryAll_6 rfl (lv_at hl 2 rfl) ?_
  refine lv_iconst (v := 1) hx hb d_MO_tryAll_7 (by decide) ?_
  refine lv_iload_n hx hb d_MO_tryAll_8 rfl (lv_at hl 0 rfl) ?_
  have hPc := hP.sub (ws' := [(y, .inr (7, [.int (nI mn), .int mtm, .int mgp, .int mlk, .ref y1, .ref y2, .ref y3, .ref y4, .int (nI mp), .ref y5, .ref y6, .ref y7, .ref y8, .ref y9, .ref y10, .ref y11, .ref y12, .ref y13, .ref y14, .ref y15, .int (nI mq), .ref y16, .ref y17, .ref y18, .ref y19, .ref y20, .ref y21, .ref y22, .ref y23, .ref y24, .ref y25, .ref y26, .ref y27, .int mhw, .int (nI mwn), .ref y28, .ref y29, .ref y30, .ref y31, .ref y32, .ref y33, .ref y34, .ref y35, .ref y36, .int (nI mbm), .ref y37, .ref y38, .int (nI mrm), .int mro, .int mrs])), (y6, .inl (cI, 24, .inl MS)), (y30, .inl (cI, 9, .inl (fun zy => nI (DA1 zy)))), (y31, .inl (cI, 9, .inl (fun zy => nI (DA2 zy)))), (y37, .inl (cI, 8, .inl (fun zy => nI (RA1 zy)))), (y38, .inl (cI, 8, .inl (fun zy => nI (RA2 zy))))]) [0, 1, 2, 3, 4, 5] rfl
  have hDc := hD.sub (ws' := [(y, .inr (7, [.int (nI mn), .int mtm, .int mgp, .int mlk, .ref y1, .ref y2, .ref y3, .ref y4, .int (nI mp), .ref y5, .ref y6, .ref y7, .ref y8, .ref y9, .ref y10, .ref y11, .ref y12, .ref y13, .ref y14, .ref y15, .int (nI mq), .ref y16, .ref y17, .ref y18, .ref y19, .ref y20, .ref y21, .ref y22, .ref y23, .ref y24, .ref y25, .ref y26, .ref y27, .int mhw, .int (nI mwn), .ref y28, .ref y29, .ref y30, .ref y31, .ref y32, .ref y33, .ref y34, .ref y35, .ref y36, .int (nI mbm), .ref y37, .ref y38, .int (nI mrm), .int mro, .int mrs])), (y6, .inl (cI, 24, .inl MS)), (y30, .inl (cI, 9, .inl (fun zy => nI (DA1 zy)))), (y31, .inl (cI, 9, .inl (fun zy => nI (DA2 zy)))), (y37, .inl (cI, 8, .inl (fun zy => nI (RA1 zy)))), (y38, .inl (cI, 8, .inl (fun zy => nI (RA2 zy))))]) [0, 1, 2, 3, 4, 5] (by decide +kernel) rfl
  have hFc := va_free (wc := [(y, .inr (7, [.int (nI mn), .int mtm, .int mgp, .int mlk, .ref y1, .ref y2, .ref y3, .ref y4, .int (nI mp), .ref y5, .ref y6, .ref y7, .ref y8, .ref y9, .ref y10, .ref y11, .ref y12, .ref y13, .ref y14, .ref y15, .int (nI mq), .ref y16, .ref y17, .ref y18, .ref y19, .ref y20, .ref y21, .ref y22, .ref y23, .ref y24, .ref y25, .ref y26, .ref y27, .int mhw, .int (nI mwn), .ref y28, .ref y29, .ref y30, .ref y31, .ref y32, .ref y33, .ref y34, .ref y35, .ref y36, .int (nI mbm), .ref y37, .ref y38, .int (nI mrm), .int mro, .int mrs])), (y6, .inl (cI, 24, .inl MS)), (y30, .inl (cI, 9, .inl (fun zy => nI (DA1 zy)))), (y31, .inl (cI, 9, .inl (fun zy => nI (DA2 zy)))), (y37, .inl (cI, 8, .inl (fun zy => nI (RA1 zy)))), (y38, .inl (cI, 8, .inl (fun zy => nI (RA2 zy))))]) hD hS hA [0, 1, 2, 3, 4, 5] rfl
  refine va_callv (va_runV (As := [.int (nI ln), .int 1, .int (sumO MS MU mp)]) (rest := []) ⟨hx, hb, hml, hown, hts⟩ (e_MO_tryRing l D cI cZ y ln 1 (sumO MS MU mp) mn mtm mgp mlk y1 y2 y3 y4 mp y5 y6 y7 y8 y9 y10 y11 y12 y13 y14 y15 mq y16 y17 y18 y19 y20 y21 y22 y23 y24 y25 y26 y27 mhw mwn y28 y29 y30 y31 y32 y33 y34 y35 y36 mbm y37 y38 mrm mro mrs MS DA1 DA2 RA1 RA2 s.heap.size h_mn h_mp h_mq h_mwn h_mbm h_mrm h_DA1 h_DA2 h_RA1 h_RA2 hln hln1) (my_cwV 3 hts q_958 q_955 q_957 q_p26 q_8 rfl rfl (by decide +kernel) ⟨Nat.le_of_ble_eq_true rfl, Nat.le_of_ble_eq_true rfl⟩) (my_preV hPc hDc hK hN 7 0 rfl rfl) rfl rfl hl.1 rfl (lv_room (Nat.le_of_ble_eq_true rfl)) d_MO_tryAll_9 ⟨Nat.le_of_ble_eq_true rfl, Nat.le_of_ble_eq_true rfl⟩) hS (fun q _ h => hFc q h) hFc (fun uU tT H_3 locs ht hvm hw_2 hB hz1 hk1 hS => ?_)
  obtain ⟨mrm_4, mro_5, mrs_6, RA1_7, RA2_8⟩ := uU
  obtain ⟨hP1, hD1⟩ := hB
  rw [ht] at hP1
  obtain ⟨hP, hD⟩ := va_join (wr := [(y8, .inl (cI, 12, .inl MU))]) (w1 := [(y, .inr (7, [.int (nI mn), .int mtm, .int mgp, .int mlk, .ref y1, .ref y2, .ref y3, .ref y4, .int (nI mp), .ref y5, .ref y6, .ref y7, .ref y8, .ref y9, .ref y10, .ref y11, .ref y12, .ref y13, .ref y14, .ref y15, .int (nI mq), .ref y16, .ref y17, .ref y18, .ref y19, .ref y20, .ref y21, .ref y22, .ref y23, .ref y24, .ref y25, .ref y26, .ref y27, .int mhw, .int (nI mwn), .ref y28, .ref y29, .ref y30, .ref y31, .ref y32, .ref y33, .ref y34, .ref y35, .ref y36, .int (nI mbm), .ref y37, .ref y38, .int (nI mrm_4), .int mro_5, .int mrs_6])), (y6, .inl (cI, 24, .inl MS)), (y30, .inl (cI, 9, .inl (fun zy => nI (DA1 zy)))), (y31, .inl (cI, 9, .inl (fun zy => nI (DA2 zy)))), (y37, .inl (cI, 8, .inl (fun zy => nI (RA1_7 zy)))), (y38, .inl (cI, 8, .inl (fun zy => nI (RA2_8 zy))))]) hP hD [0, 1, 2, 3, 4, 5] [6] rfl rfl (by decide +kernel) (by decide +kernel) hk1 hFc hP1 hD1
  have hP : va_P D vwCl [(y8, .inl (cI, 12, .inl MU)), (y, .inr (7, [.int (nI mn), .int mtm, .int mgp, .int mlk, .ref y1, .ref y2, .ref y3, .ref y4, .int (nI mp), .ref y5, .ref y6, .ref y7, .ref y8, .ref y9, .ref y10, .ref y11, .ref y12, .ref y13, .ref y14, .ref y15, .int (nI mq), .ref y16, .ref y17, .ref y18, .ref y19, .ref y20, .ref y21, .ref y22, .ref y23, .ref y24, .ref y25, .ref y26, .ref y27, .int mhw, .int (nI mwn), .ref y28, .ref y29, .ref y30, .ref y31, .ref y32, .ref y33, .ref y34, .ref y35, .ref y36, .int (nI mbm), .ref y37, .ref y38, .int (nI mrm_4), .int mro_5, .int mrs_6])), (y6, .inl (cI, 24, .inl MS)), (y30, .inl (cI, 9, .inl (fun zy => nI (DA1 zy)))), (y31, .inl (cI, 9, .inl (fun zy => nI (DA2 zy)))), (y37, .inl (cI, 8, .inl (fun zy => nI (RA1_7 zy)))), (y38, .inl (cI, 8, .inl (fun zy => nI (RA2_8 zy))))] H_3 := hP
  have hD : va_D A [(y8, .inl (cI, 12, .inl MU)), (y, .inr (7, [.int (nI mn), .int mtm, .int mgp, .int mlk, .ref y1, .ref y2, .ref y3, .ref y4, .int (nI mp), .ref y5, .ref y6, .ref y7, .ref y8, .ref y9, .ref y10, .ref y11, .ref y12, .ref y13, .ref y14, .ref y15, .int (nI mq), .ref y16, .ref y17, .ref y18, .ref y19, .ref y20, .ref y21, .ref y22, .ref y23, .ref y24, .ref y25, .ref y26, .ref y27, .int mhw, .int (nI mwn), .ref y28, .ref y29, .ref y30, .ref y31, .ref y32, .ref y33, .ref y34, .ref y35, .ref y36, .int (nI mbm), .ref y37, .ref y38, .int (nI mrm_4), .int mro_5, .int mrs_6])), (y6, .inl (cI, 24, .inl MS)), (y30, .inl (cI, 9, .inl (fun zy => nI (DA1 zy)))), (y31, .inl (cI, 9, .inl (fun zy => nI (DA2 zy)))), (y37, .inl (cI, 8, .inl (fun zy => nI (RA1_7 zy)))), (y38, .inl (cI, 8, .inl (fun zy => nI (RA2_8 zy))))] := hD
  have hw_2 : (mrm_4 ≤ 8) ∧ (∀ zz, RA1_7 zz ≤ 11) ∧ (∀ zz, RA2_8 zz ≤ 1) ∧ (ROI MS ln DA1 DA2 (sumO MS MU mp) (fun m => m = 1) mrm mro mrs RA1 RA2 mrm_4 mro_5 mrs_6 RA1_7 RA2_8) := hw_2
  obtain ⟨hf_8_0, hf_8_1, hf_8_2, hf_8_3⟩ := hw_2
  have hf_8_0 : mrm_4 ≤ 8 := hf_8_0
  have hf_8_1 : ∀ zz, RA1_7 zz ≤ 11 := hf_8_1
  have hf_8_2 : ∀ zz, RA2_8 zz ≤ 1 := hf_8_2
  have hf_8_3 : ROI MS ln DA1 DA2 (sumO MS MU mp) (fun m => m = 1) mrm mro mrs RA1 RA2 mrm_4 mro_5 mrs_6 RA1_7 RA2_8 := hf_8_3
  refine lv_aload_n hx hb d_MO_tryAll_12 rfl (lv_at hl 1 rfl) ?_
  refine va_get (D := D) (ci := 7) (v := .ref y6) (C := R_MO) (T := F_MO) (N := 50) hx hb hts i_MO hown hK hP 1 rfl rfl 10 (by decide) (hts _ q_642) (fun _ h9 => h9) rfl d_MO_tryAll_13 ?_
  refine lv_iconst (v := 2) hx hb d_MO_tryAll_16 (by decide) ?_
  refine lv_aload_n hx hb d_MO_tryAll_17 rfl (lv_at hl 1 rfl) ?_
  refine va_get (D := D) (ci := 7) (v := .ref y30) (C := R_MO) (T := F_MO) (N := 50) hx hb hts i_MO hown hK hP 1 rfl rfl 37 (by decide) (hts _ q_669) (fun _ h9 => h9) rfl d_MO_tryAll_18 ?_
  refine lv_iconst (v := 0) hx hb d_MO_tryAll_21 (by decide) ?_
  refine my_ldN hx hb hK hP 3 rfl 0 rfl (by omega) (by decide) d_MO_tryAll_22 ?_
  have hb_1 : DA1 0 ≤ 11 := h_DA1 _
  refine lv_imul hx hb d_MO_tryAll_23 ?_
  refine lv_seti (nI (2 * (DA1 0))) (pk_mul 2 (DA1 0)) ?_
  refine lv_aload_n hx hb d_MO_tryAll_24 rfl (lv_at hl 1 rfl) ?_
  refine va_get (D := D) (ci := 7) (v := .ref y31) (C := R_MO) (T := F_MO) (N := 50) hx hb hts i_MO hown hK hP 1 rfl rfl 38 (by decide) (hts _ q_670) (fun _ h9 => h9) rfl d_MO_tryAll_25 ?_
  refine lv_iconst (v := 0) hx hb d_MO_tryAll_28 (by decide) ?_
  refine my_ldN hx hb hK hP 4 rfl 0 rfl (by omega) (by decide) d_MO_tryAll_29 ?_
  have hb_2 : DA2 0 ≤ 1 := h_DA2 _
  refine lv_iadd hx hb d_MO_tryAll_30 ?_
  refine lv_seti (nI ((2 * (DA1 0)) + (DA2 0))) (nI_add (2 * (DA1 0)) (DA2 0)) ?_
  refine my_ldI hx hb hK hP 2 rfl ((2 * (DA1 0)) + (DA2 0)) rfl (by omega) (by decide) d_MO_tryAll_31 ?_
  refine lv_istore_n (lv' := [(3, .int (MS ((2 * (DA1 0)) + (DA2 0)))), (2, .int (sumO MS MU mp)), (0, .ref y), (1, .int (nI ln))]) hx hb d_MO_tryAll_32 rfl hl (by decide) rfl (fun ls hl => ?_)
  refine lv_iconst (v := 0) hx hb d_MO_tryAll_33 (by decide) ?_
  refine lv_istore (lv' := [(4, .int 0), (3, .int (MS ((2 * (DA1 0)) + (DA2 0)))), (2, .int (sumO MS MU mp)), (0, .ref y), (1, .int (nI ln))]) hx hb d_MO_tryAll_34 hl (by decide) rfl (fun ls hl => ?_)
  refine W_loop (σ := Nat × Int32 × Nat × Int32 × Int32 × (Nat → Nat) × (Nat → Nat)) (I := fun xX H locs ls => (∀ zz, xX.2.2.2.2.2.1 zz ≤ 11) ∧ (∀ zz, xX.2.2.2.2.2.2 zz ≤ 1) ∧ xX.1 ≤ ln ∧ xX.2.2.1 ≤ 8 ∧ xX.2.1 = lmS MS (pfx DA1 DA2) xX.1 ∧ ROI MS ln DA1 DA2 (sumO MS MU mp) (fun m => mCd MS (pfx DA1 DA2) xX.1 m) mrm mro mrs RA1 RA2 xX.2.2.1 xX.2.2.2.1 xX.2.2.2.2.1 xX.2.2.2.2.2.1 xX.2.2.2.2.2.2 ∧ va_P D vwCl [(y8, .inl (cI, 12, .inl MU)), (y, .inr (7, [.int (nI mn), .int mtm, .int mgp, .int mlk, .ref y1, .ref y2, .ref y3, .ref y4, .int (nI mp), .ref y5, .ref y6, .ref y7, .ref y8, .ref y9, .ref y10, .ref y11, .ref y12, .ref y13, .ref y14, .ref y15, .int (nI mq), .ref y16, .ref y17, .ref y18, .ref y19, .ref y20, .ref y21, .ref y22, .ref y23, .ref y24, .ref y25, .ref y26, .ref y27, .int mhw, .int (nI mwn), .ref y28, .ref y29, .ref y30, .ref y31, .ref y32, .ref y33, .ref y34, .ref y35, .ref y36, .int (nI mbm), .ref y37, .ref y38, .int (nI xX.2.2.1), .int xX.2.2.2.1, .int xX.2.2.2.2.1])), (y6, .inl (cI, 24, .inl MS)), (y30, .inl (cI, 9, .inl (fun zy => nI (DA1 zy)))), (y31, .inl (cI, 9, .inl (fun zy => nI (DA2 zy)))), (y37, .inl (cI, 8, .inl (fun zy => nI (xX.2.2.2.2.2.1 zy)))), (y38, .inl (cI, 8, .inl (fun zy => nI (xX.2.2.2.2.2.2 zy))))] H ∧ va_D A [(y8, .inl (cI, 12, .inl MU)), (y, .inr (7, [.int (nI mn), .int mtm, .int mgp, .int mlk, .ref y1, .ref y2, .ref y3, .ref y4, .int (nI mp), .ref y5, .ref y6, .ref y7, .ref y8, .ref y9, .ref y10, .ref y11, .ref y12, .ref y13, .ref y14, .ref y15, .int (nI mq), .ref y16, .ref y17, .ref y18, .ref y19, .ref y20, .ref y21, .ref y22, .ref y23, .ref y24, .ref y25, .ref y26, .ref y27, .int mhw, .int (nI mwn), .ref y28, .ref y29, .ref y30, .ref y31, .ref y32, .ref y33, .ref y34, .ref y35, .ref y36, .int (nI mbm), .ref y37, .ref y38, .int (nI xX.2.2.1), .int xX.2.2.2.1, .int xX.2.2.2.2.1])), (y6, .inl (cI, 24, .inl MS)), (y30, .inl (cI, 9, .inl (fun zy => nI (DA1 zy)))), (y31, .inl (cI, 9, .inl (fun zy => nI (DA2 zy)))), (y37, .inl (cI, 8, .inl (fun zy => nI (xX.2.2.2.2.2.1 zy)))), (y38, .inl (cI, 8, .inl (fun zy => nI (xX.2.2.2.2.2.2 zy))))] ∧ va_S A s.heap H locs ∧ lv_has ls 7 [(4, .int (nI xX.1)), (3, .int xX.2.1), (2, .int (sumO MS MU mp)), (1, .int (nI ln)), (0, .ref y)]) (μ := fun xX => 9 - xX.1) ?_ (0, (MS ((2 * (DA1 0)) + (DA2 0))), mrm_4, mro_5, mrs_6, RA1_7, RA2_8) ⟨hf_8_1, hf_8_2, (by first | omega | (dsimp only; omega)), hf_8_0, rfl, (ROI_C mCd_0 hf_8_3), hP, hD, hS, lv_sub hl [0, 1, 2, 4, 3] rfl⟩
  intro xX H_9 locs ls hI ih1
  obtain ⟨k_l, mo_v, rm_l, ro_v, rs_v, RA1_1, RA2_1⟩ := xX
  obtain ⟨h_RA1_1, h_RA2_1, hk, hrm, hmo, hro, hP, hD, hS, hl⟩ := hI
  have hP : va_P D vwCl [(y8, .inl (cI, 12, .inl MU)), (y, .inr (7, [.int (nI mn), .int mtm, .int mgp, .int mlk, .ref y1, .ref y2, .ref y3, .ref y4, .int (nI mp), .ref y5, .ref y6, .ref y7, .ref y8, .ref y9, .ref y10, .ref y11, .ref y12, .ref y13, .ref y14, .ref y15, .int (nI mq), .ref y16, .ref y17, .ref y18, .ref y19, .ref y20, .ref y21, .ref y22, .ref y23, .ref y24, .ref y25, .ref y26, .ref y27, .int mhw, .int (nI mwn), .ref y28, .ref y29, .ref y30, .ref y31, .ref y32, .ref y33, .ref y34, .ref y35, .ref y36, .int (nI mbm), .ref y37, .ref y38, .int (nI rm_l), .int ro_v, .int rs_v])), (y6, .inl (cI, 24, .inl MS)), (y30, .inl (cI, 9, .inl (fun zy => nI (DA1 zy)))), (y31, .inl (cI, 9, .inl (fun zy => nI (DA2 zy)))), (y37, .inl (cI, 8, .inl (fun zy => nI (RA1_1 zy)))), (y38, .inl (cI, 8, .inl (fun zy => nI (RA2_1 zy))))] H_9 := hP
  have hD : va_D A [(y8, .inl (cI, 12, .inl MU)), (y, .inr (7, [.int (nI mn), .int mtm, .int mgp, .int mlk, .ref y1, .ref y2, .ref y3, .ref y4, .int (nI mp), .ref y5, .ref y6, .ref y7, .ref y8, .ref y9, .ref y10, .ref y11, .ref y12, .ref y13, .ref y14, .ref y15, .int (nI mq), .ref y16, .ref y17, .ref y18, .ref y19, .ref y20, .ref y21, .ref y22, .ref y23, .ref y24, .ref y25, .ref y26, .ref y27, .int mhw, .int (nI mwn), .ref y28, .ref y29, .ref y30, .ref y31, .ref y32, .ref y33, .ref y34, .ref y35, .ref y36, .int (nI mbm), .ref y37, .ref y38, .int (nI rm_l), .int ro_v, .int rs_v])), (y6, .inl (cI, 24, .inl MS)), (y30, .inl (cI, 9, .inl (fun zy => nI (DA1 zy)))), (y31, .inl (cI, 9, .inl (fun zy => nI (DA2 zy)))), (y37, .inl (cI, 8, .inl (fun zy => nI (RA1_1 zy)))), (y38, .inl (cI, 8, .inl (fun zy => nI (RA2_1 zy))))] := hD
  have hl : lv_has ls 7 [(4, .int (nI k_l)), (3, .int mo_v), (2, .int (sumO MS MU mp)), (1, .int (nI ln)), (0, .ref y)] := hl
  have h_RA1_1 : ∀ zz, RA1_1 zz ≤ 11 := h_RA1_1
  have h_RA2_1 : ∀ zz, RA2_1 zz ≤ 1 := h_RA2_1
  have hk : k_l ≤ ln := hk
  have hrm : rm_l ≤ 8 := hrm
  have hmo : mo_v = lmS MS (pfx DA1 DA2) k_l := hmo
  have hro : ROI MS ln DA1 DA2 (sumO MS MU mp) (fun m => mCd MS (pfx DA1 DA2) k_l m) mrm mro mrs RA1 RA2 rm_l ro_v rs_v RA1_1 RA2_1 := hro
  refine lv_iload hx hb d_MO_tryAll_36 (lv_at hl 0 rfl) ?_
  refine lv_iload_n hx hb d_MO_tryAll_38 rfl (lv_at hl 3 rfl) ?_
  refine lv_icmp_ge (tgt := 146) hx hb d_MO_tryAll_39 (by decide) (fun h_10 => ?_) (fun h_10 => ?_)
  · have nh_10 : ln ≤ k_l := (nI_leI (a := ln) (b := k_l) (by omega) (by omega)).mp h_10
    refine lv_aload_n hx hb d_MO_tryAll_146 rfl (lv_at hl 4 rfl) ?_
    refine lv_iload_n hx hb d_MO_tryAll_147 rfl (lv_at hl 3 rfl) ?_
    refine lv_iload_n hx hb d_MO_tryAll_148 rfl (lv_at hl 1 rfl) ?_
    refine lv_iload_n hx hb d_MO_tryAll_149 rfl (lv_at hl 2 rfl) ?_
    have hPc := hP.sub (ws' := [(y, .inr (7, [.int (nI mn), .int mtm, .int mgp, .int mlk, .ref y1, .ref y2, .ref y3, .ref y4, .int (nI mp), .ref y5, .ref y6, .ref y7, .ref y8, .ref y9, .ref y10, .ref y11, .ref y12, .ref y13, .ref y14, .ref y15, .int (nI mq), .ref y16, .ref y17, .ref y18, .ref y19, .ref y20, .ref y21, .ref y22, .ref y23, .ref y24, .ref y25, .ref y26, .ref y27, .int mhw, .int (nI mwn), .ref y28, .ref y29, .ref y30, .ref y31, .ref y32, .ref y33, .ref y34, .ref y35, .ref y36, .int (nI mbm), .ref y37, .ref y38, .int (nI rm_l), .int ro_v, .int rs_v])), (y6, .inl (cI, 24, .inl MS)), (y30, .inl (cI, 9, .inl (fun zy => nI (DA1 zy)))), (y31, .inl (cI, 9, .inl (fun zy => nI (DA2 zy)))), (y37, .inl (cI, 8, .inl (fun zy => nI (RA1_1 zy)))), (y38, .inl (cI, 8, .inl (fun zy => nI (RA2_1 zy))))]) [1, 2, 3, 4, 5, 6] rfl
    have hDc := hD.sub (ws' := [(y, .inr (7, [.int (nI mn), .int mtm, .int mgp, .int mlk, .ref y1, .ref y2, .ref y3, .ref y4, .int (nI mp), .ref y5, .ref y6, .ref y7, .ref y8, .ref y9, .ref y10, .ref y11, .ref y12, .ref y13, .ref y14, .ref y15, .int (nI mq), .ref y16, .ref y17, .ref y18, .ref y19, .ref y20, .ref y21, .ref y22, .ref y23, .ref y24, .ref y25, .ref y26, .ref y27, .int mhw, .int (nI mwn), .ref y28, .ref y29, .ref y30, .ref y31, .ref y32, .ref y33, .ref y34, .ref y35, .ref y36, .int (nI mbm), .ref y37, .ref y38, .int (nI rm_l), .int ro_v, .int rs_v])), (y6, .inl (cI, 24, .inl MS)), (y30, .inl (cI, 9, .inl (fun zy => nI (DA1 zy)))), (y31, .inl (cI, 9, .inl (fun zy => nI (DA2 zy)))), (y37, .inl (cI, 8, .inl (fun zy => nI (RA1_1 zy)))), (y38, .inl (cI, 8, .inl (fun zy => nI (RA2_1 zy))))]) [1, 2, 3, 4, 5, 6] (by decide +kernel) rfl
    have hFc := va_free (wc := [(y, .inr (7, [.int (nI mn), .int mtm, .int mgp, .int mlk, .ref y1, .ref y2, .ref y3, .ref y4, .int (nI mp), .ref y5, .ref y6, .ref y7, .ref y8, .ref y9, .ref y10, .ref y11, .ref y12, .ref y13, .ref y14, .ref y15, .int (nI mq), .ref y16, .ref y17, .ref y18, .ref y19, .ref y20, .ref y21, .ref y22, .ref y23, .ref y24, .ref y25, .ref y26, .ref y27, .int mhw, .int (nI mwn), .ref y28, .ref y29, .ref y30, .ref y31, .ref y32, .ref y33, .ref y34, .ref y35, .ref y36, .int (nI mbm), .ref y37, .ref y38, .int (nI rm_l), .int ro_v, .int rs_v])), (y6, .inl (cI, 24, .inl MS)), (y30, .inl (cI, 9, .inl (fun zy => nI (DA1 zy)))), (y31, .inl (cI, 9, .inl (fun zy => nI (DA2 zy)))), (y37, .inl (cI, 8, .inl (fun zy => nI (RA1_1 zy)))), (y38, .inl (cI, 8, .inl (fun zy => nI (RA2_1 zy))))]) hD hS hA [1, 2, 3, 4, 5, 6] rfl
    refine va_callv (va_runV (As := [.int (nI ln), .int mo_v, .int (sumO MS MU mp)]) (rest := []) ⟨hx, hb, hml, hown, hts⟩ (e_MO_tryRing l D cI cZ y ln mo_v (sumO MS MU mp) mn mtm mgp mlk y1 y2 y3 y4 mp y5 y6 y7 y8 y9 y10 y11 y12 y13 y14 y15 mq y16 y17 y18 y19 y20 y21 y22 y23 y24 y25 y26 y27 mhw mwn y28 y29 y30 y31 y32 y33 y34 y35 y36 mbm y37 y38 rm_l ro_v rs_v MS DA1 DA2 RA1_1 RA2_1 H_9.size h_mn h_mp h_mq h_mwn h_mbm hrm h_DA1 h_DA2 h_RA1_1 h_RA2_1 hln hln1) (my_cwV 3 hts q_958 q_955 q_957 q_p26 q_8 rfl rfl (by decide +kernel) ⟨Nat.le_of_ble_eq_true rfl, Nat.le_of_ble_eq_true rfl⟩) (my_preV hPc hDc hK hN 7 0 rfl rfl) rfl rfl hl.1 rfl (lv_room (Nat.le_of_ble_eq_true rfl)) d_MO_tryAll_150 ⟨Nat.le_of_ble_eq_true rfl, Nat.le_of_ble_eq_true rfl⟩) hS (fun q _ h => hFc q h) hFc (fun uU tT H_12 locs ht hvm hw_11 hB hz1 hk1 hS => ?_)
    obtain ⟨mrm_13, mro_14, mrs_15, RA1_16, RA2_17⟩ := uU
    obtain ⟨hP1, hD1⟩ := hB
    rw [ht] at hP1
    obtain ⟨hP, hD⟩ := va_join (wr := [(y8, .inl (cI, 12, .inl MU))]) (w1 := [(y, .inr (7, [.int (nI mn), .int mtm, .int mgp, .int mlk, .ref y1, .ref y2, .ref y3, .ref y4, .int (nI mp), .ref y5, .ref y6, .ref y7, .ref y8, .ref y9, .ref y10, .ref y11, .ref y12, .ref y13, .ref y14, .ref y15, .int (nI mq), .ref y16, .ref y17, .ref y18, .ref y19, .ref y20, .ref y21, .ref y22, .ref y23, .ref y24, .ref y25, .ref y26, .ref y27, .int mhw, .int (nI mwn), .ref y28, .ref y29, .ref y30, .ref y31, .ref y32, .ref y33, .ref y34, .ref y35, .ref y36, .int (nI mbm), .ref y37, .ref y38, .int (nI mrm_13), .int mro_14, .int mrs_15])), (y6, .inl (cI, 24, .inl MS)), (y30, .inl (cI, 9, .inl (fun zy => nI (DA1 zy)))), (y31, .inl (cI, 9, .inl (fun zy => nI (DA2 zy)))), (y37, .inl (cI, 8, .inl (fun zy => nI (RA1_16 zy)))), (y38, .inl (cI, 8, .inl (fun zy => nI (RA2_17 zy))))]) hP hD [1, 2, 3, 4, 5, 6] [0] rfl rfl (by decide +kernel) (by decide +kernel) hk1 hFc hP1 hD1
    have hP : va_P D vwCl [(y8, .inl (cI, 12, .inl MU)), (y, .inr (7, [.int (nI mn), .int mtm, .int mgp, .int mlk, .ref y1, .ref y2, .ref y3, .ref y4, .int (nI mp), .ref y5, .ref y6, .ref y7, .ref y8, .ref y9, .ref y10, .ref y11, .ref y12, .ref y13, .ref y14, .ref y15, .int (nI mq), .ref y16, .ref y17, .ref y18, .ref y19, .ref y20, .ref y21, .ref y22, .ref y23, .ref y24, .ref y25, .ref y26, .ref y27, .int mhw, .int (nI mwn), .ref y28, .ref y29, .ref y30, .ref y31, .ref y32, .ref y33, .ref y34, .ref y35, .ref y36, .int (nI mbm), .ref y37, .ref y38, .int (nI mrm_13), .int mro_14, .int mrs_15])), (y6, .inl (cI, 24, .inl MS)), (y30, .inl (cI, 9, .inl (fun zy => nI (DA1 zy)))), (y31, .inl (cI, 9, .inl (fun zy => nI (DA2 zy)))), (y37, .inl (cI, 8, .inl (fun zy => nI (RA1_16 zy)))), (y38, .inl (cI, 8, .inl (fun zy => nI (RA2_17 zy))))] H_12 := hP
    have hD : va_D A [(y8, .inl (cI, 12, .inl MU)), (y, .inr (7, [.int (nI mn), .int mtm, .int mgp, .int mlk, .ref y1, .ref y2, .ref y3, .ref y4, .int (nI mp), .ref y5, .ref y6, .ref y7, .ref y8, .ref y9, .ref y10, .ref y11, .ref y12, .ref y13, .ref y14, .ref y15, .int (nI mq), .ref y16, .ref y17, .ref y18, .ref y19, .ref y20, .ref y21, .ref y22, .ref y23, .ref y24, .ref y25, .ref y26, .ref y27, .int mhw, .int (nI mwn), .ref y28, .ref y29, .ref y30, .ref y31, .ref y32, .ref y33, .ref y34, .ref y35, .ref y36, .int (nI mbm), .ref y37, .ref y38, .int (nI mrm_13), .int mro_14, .int mrs_15])), (y6, .inl (cI, 24, .inl MS)), (y30, .inl (cI, 9, .inl (fun zy => nI (DA1 zy)))), (y31, .inl (cI, 9, .inl (fun zy => nI (DA2 zy)))), (y37, .inl (cI, 8, .inl (fun zy => nI (RA1_16 zy)))), (y38, .inl (cI, 8, .inl (fun zy => nI (RA2_17 zy))))] := hD
    have hw_11 : (mrm_13 ≤ 8) ∧ (∀ zz, RA1_16 zz ≤ 11) ∧ (∀ zz, RA2_17 zz ≤ 1) ∧ (ROI MS ln DA1 DA2 (sumO MS MU mp) (fun m => m = mo_v) rm_l ro_v rs_v RA1_1 RA2_1 mrm_13 mro_14 mrs_15 RA1_16 RA2_17) := hw_11
    obtain ⟨hf_17_0, hf_17_1, hf_17_2, hf_17_3⟩ := hw_11
    have hf_17_0 : mrm_13 ≤ 8 := hf_17_0
    have hf_17_1 : ∀ zz, RA1_16 zz ≤ 11 := hf_17_1
    have hf_17_2 : ∀ zz, RA2_17 zz ≤ 1 := hf_17_2
    have hf_17_3 : ROI MS ln DA1 DA2 (sumO MS MU mp) (fun m => m = mo_v) rm_l ro_v rs_v RA1_1 RA2_1 mrm_13 mro_14 mrs_15 RA1_16 RA2_17 := hf_17_3
    have hP9 := hP.sub (ws' := [(y, .inr (7, [.int (nI mn), .int mtm, .int mgp, .int mlk, .ref y1, .ref y2, .ref y3, .ref y4, .int (nI mp), .ref y5, .ref y6, .ref y7, .ref y8, .ref y9, .ref y10, .ref y11, .ref y12, .ref y13, .ref y14, .ref y15, .int (nI mq), .ref y16, .ref y17, .ref y18, .ref y19, .ref y20, .ref y21, .ref y22, .ref y23, .ref y24, .ref y25, .ref y26, .ref y27, .int mhw, .int (nI mwn), .ref y28, .ref y29, .ref y30, .ref y31, .ref y32, .ref y33, .ref y34, .ref y35, .ref y36, .int (nI mbm), .ref y37, .ref y38, .int (nI mrm_13), .int mro_14, .int mrs_15])), (y6, .inl (cI, 24, .inl MS)), (y30, .inl (cI, 9, .inl (fun zy => nI (DA1 zy)))), (y31, .inl (cI, 9, .inl (fun zy => nI (DA2 zy)))), (y37, .inl (cI, 8, .inl (fun zy => nI (RA1_16 zy)))), (y38, .inl (cI, 8, .inl (fun zy => nI (RA2_17 zy)))), (y8, .inl (cI, 12, .inl MU))]) [1, 2, 3, 4, 5, 6, 0] rfl
    have hD9 := hD.sub (ws' := [(y, .inr (7, [.int (nI mn), .int mtm, .int mgp, .int mlk, .ref y1, .ref y2, .ref y3, .ref y4, .int (nI mp), .ref y5, .ref y6, .ref y7, .ref y8, .ref y9, .ref y10, .ref y11, .ref y12, .ref y13, .ref y14, .ref y15, .int (nI mq), .ref y16, .ref y17, .ref y18, .ref y19, .ref y20, .ref y21, .ref y22, .ref y23, .ref y24, .ref y25, .ref y26, .ref y27, .int mhw, .int (nI mwn), .ref y28, .ref y29, .ref y30, .ref y31, .ref y32, .ref y33, .ref y34, .ref y35, .ref y36, .int (nI mbm), .ref y37, .ref y38, .int (nI mrm_13), .int mro_14, .int mrs_15])), (y6, .inl (cI, 24, .inl MS)), (y30, .inl (cI, 9, .inl (fun zy => nI (DA1 zy)))), (y31, .inl (cI, 9, .inl (fun zy => nI (DA2 zy)))), (y37, .inl (cI, 8, .inl (fun zy => nI (RA1_16 zy)))), (y38, .inl (cI, 8, .inl (fun zy => nI (RA2_17 zy)))), (y8, .inl (cI, 12, .inl MU))]) [1, 2, 3, 4, 5, 6, 0] (by decide +kernel) rfl
    refine W.widen (k := 0) (n := 0) (Nat.le_of_ble_eq_true rfl) (Nat.le_of_ble_eq_true rfl) ?_
    exact W.vret hx hb hr (fun tT ht hW => ⟨⟨(mrm_13, mro_14, mrs_15, RA1_16, RA2_17), rfl, ⟨hf_17_0, hf_17_1, hf_17_2, (ROI_C (mCd_end (mo := mo_v) (by rw [hmo, show k_l = (ln - 1) + 1 by omega, lmS_lp hSI, show (ln - 1) + 1 = ln by omega])) (by have h9 := ROI_seq hro hf_17_3; rw [show k_l = ln by omega] at h9; exact h9))⟩, by rw [ht]; exact hP9, hD9⟩, hS.F ht⟩) hS.2.2 d_MO_tryAll_153
  · have nh_10 : ¬ ln ≤ k_l := fun qZ => h_10 ((nI_leI (a := ln) (b := k_l) (by omega) (by omega)).mpr qZ)
    refine lv_aload_n hx hb d_MO_tryAll_42 rfl (lv_at hl 4 rfl) ?_
    refine va_get (D := D) (ci := 7) (v := .ref y6) (C := R_MO) (T := F_MO) (N := 50) hx hb hts i_MO hown hK hP 1 rfl rfl 10 (by decide) (hts _ q_642) (fun _ h9 => h9) rfl d_MO_tryAll_43 ?_
    refine lv_iconst (v := 2) hx hb d_MO_tryAll_46 (by decide) ?_
    refine lv_aload_n hx hb d_MO_tryAll_47 rfl (lv_at hl 4 rfl) ?_
    refine va_get (D := D) (ci := 7) (v := .ref y30) (C := R_MO) (T := F_MO) (N := 50) hx hb hts i_MO hown hK hP 1 rfl rfl 37 (by decide) (hts _ q_669) (fun _ h9 => h9) rfl d_MO_tryAll_48 ?_
    refine lv_iload hx hb d_MO_tryAll_51 (lv_at hl 0 rfl) ?_
    refine my_ldN hx hb hK hP 3 rfl k_l rfl (by omega) (by decide) d_MO_tryAll_53 ?_
    have hb_3 : DA1 k_l ≤ 11 := h_DA1 _
    refine lv_imul hx hb d_MO_tryAll_54 ?_
    refine lv_seti (nI (2 * (DA1 k_l))) (pk_mul 2 (DA1 k_l)) ?_
    refine lv_aload_n hx hb d_MO_tryAll_55 rfl (lv_at hl 4 rfl) ?_
    refine va_get (D := D) (ci := 7) (v := .ref y31) (C := R_MO) (T := F_MO) (N := 50) hx hb hts i_MO hown hK hP 1 rfl rfl 38 (by decide) (hts _ q_670) (fun _ h9 => h9) rfl d_MO_tryAll_56 ?_
    refine lv_iload hx hb d_MO_tryAll_59 (lv_at hl 0 rfl) ?_
    refine my_ldN hx hb hK hP 4 rfl k_l rfl (by omega) (by decide) d_MO_tryAll_61 ?_
    have hb_4 : DA2 k_l ≤ 1 := h_DA2 _
    refine lv_iadd hx hb d_MO_tryAll_62 ?_
    refine lv_seti (nI ((2 * (DA1 k_l)) + (DA2 k_l))) (nI_add (2 * (DA1 k_l)) (DA2 k_l)) ?_
    refine my_ldI hx hb hK hP 2 rfl ((2 * (DA1 k_l)) + (DA2 k_l)) rfl (by omega) (by decide) d_MO_tryAll_63 ?_
    refine lv_istore (lv' := [(5, .int (MS ((2 * (DA1 k_l)) + (DA2 k_l)))), (4, .int (nI k_l)), (3, .int mo_v), (2, .int (sumO MS MU mp)), (1, .int (nI ln)), (0, .ref y)]) hx hb d_MO_tryAll_64 hl (by decide) rfl (fun ls hl => ?_)
    refine lv_aload_n hx hb d_MO_tryAll_66 rfl (lv_at hl 5 rfl) ?_
    refine va_get (D := D) (ci := 7) (v := .ref y6) (C := R_MO) (T := F_MO) (N := 50) hx hb hts i_MO hown hK hP 1 rfl rfl 10 (by decide) (hts _ q_642) (fun _ h9 => h9) rfl d_MO_tryAll_67 ?_
    refine lv_iconst (v := 2) hx hb d_MO_tryAll_70 (by decide) ?_
    refine lv_aload_n hx hb d_MO_tryAll_71 rfl (lv_at hl 5 rfl) ?_
    refine va_get (D := D) (ci := 7) (v := .ref y30) (C := R_MO) (T := F_MO) (N := 50) hx hb hts i_MO hown hK hP 1 rfl rfl 37 (by decide) (hts _ q_669) (fun _ h9 => h9) rfl d_MO_tryAll_72 ?_
    refine lv_iload hx hb d_MO_tryAll_75 (lv_at hl 1 rfl) ?_
    refine my_ldN hx hb hK hP 3 rfl k_l rfl (by omega) (by decide) d_MO_tryAll_77 ?_
    have hb_5 : DA1 k_l ≤ 11 := h_DA1 _
    refine lv_imul hx hb d_MO_tryAll_78 ?_
    refine lv_seti (nI (2 * (DA1 k_l))) (pk_mul 2 (DA1 k_l)) ?_
    refine lv_iconst (v := 1) hx hb d_MO_tryAll_79 (by decide) ?_
    refine lv_iadd hx hb d_MO_tryAll_80 ?_
    refine lv_seti (nI ((2 * (DA1 k_l)) + 1)) (nI_add (2 * (DA1 k_l)) 1) ?_
    refine lv_aload_n hx hb d_MO_tryAll_81 rfl (lv_at hl 5 rfl) ?_
    refine va_get (D := D) (ci := 7) (v := .ref y31) (C := R_MO) (T := F_MO) (N := 50) hx hb hts i_MO hown hK hP 1 rfl rfl 38 (by decide) (hts _ q_670) (fun _ h9 => h9) rfl d_MO_tryAll_82 ?_
    refine lv_iload hx hb d_MO_tryAll_85 (lv_at hl 1 rfl) ?_
    refine my_ldN hx hb hK hP 4 rfl k_l rfl (by omega) (by decide) d_MO_tryAll_87 ?_
    have hb_6 : DA2 k_l ≤ 1 := h_DA2 _
    refine lv_isub hx hb d_MO_tryAll_88 ?_
    refine lv_seti (nI (((2 * (DA1 k_l)) + 1) - (DA2 k_l))) (pk_sub (a := ((2 * (DA1 k_l)) + 1)) (b := (DA2 k_l)) (by omega)) ?_
    refine my_ldI hx hb hK hP 2 rfl (((2 * (DA1 k_l)) + 1) - (DA2 k_l)) rfl (by omega) (by decide) d_MO_tryAll_89 ?_
    refine lv_istore (lv' := [(6, .int (MS (((2 * (DA1 k_l)) + 1) - (DA2 k_l)))), (5, .int (MS ((2 * (DA1 k_l)) + (DA2 k_l)))), (4, .int (nI k_l)), (3, .int mo_v), (2, .int (sumO MS MU mp)), (1, .int (nI ln)), (0, .ref y)]) hx hb d_MO_tryAll_90 hl (by decide) rfl (fun ls hl => ?_)
    refine lv_iload hx hb d_MO_tryAll_92 (lv_at hl 1 rfl) ?_
    refine lv_iload_n hx hb d_MO_tryAll_94 rfl (lv_at hl 3 rfl) ?_
    refine lv_icmp_ge (tgt := 103) hx hb d_MO_tryAll_95 (by decide) (fun h_18 => ?_) (fun h_18 => ?_)
    · refine lv_iload_n hx hb d_MO_tryAll_103 rfl (lv_at hl 3 rfl) ?_
      refine lv_istore_n (lv' := [(3, .int mo_v), (6, .int (MS (((2 * (DA1 k_l)) + 1) - (DA2 k_l)))), (5, .int (MS ((2 * (DA1 k_l)) + (DA2 k_l)))), (4, .int (nI k_l)), (2, .int (sumO MS MU mp)), (1, .int (nI ln)), (0, .ref y)]) hx hb d_MO_tryAll_104 rfl hl (by decide) rfl (fun ls hl => ?_)
      refine lv_iload hx hb d_MO_tryAll_105 (lv_at hl 2 rfl) ?_
      refine lv_iload hx hb d_MO_tryAll_107 (lv_at hl 1 rfl) ?_
      refine lv_icmp_le (tgt := 140) hx hb d_MO_tryAll_109 (by decide) (fun h_19 => ?_) (fun h_19 => ?_)
      · refine lv_iinc (v := nI (k_l + 1)) (lv' := [(4, .int (nI (k_l + 1))), (3, .int mo_v), (6, .int (MS (((2 * (DA1 k_l)) + 1) - (DA2 k_l)))), (5, .int (MS ((2 * (DA1 k_l)) + (DA2 k_l)))), (2, .int (sumO MS MU mp)), (1, .int (nI ln)), (0, .ref y)]) hx hb d_MO_tryAll_140 hl (k := 3) rfl (nI_1 k_l) (by decide) rfl (fun ls hl => ?_)
        refine lv_goto (tgt := 36) hx hb d_MO_tryAll_143 (by decide) ?_
        have hPz := hP.sub (ws' := [(y8, .inl (cI, 12, .inl MU)), (y, .inr (7, [.int (nI mn), .int mtm, .int mgp, .int mlk, .ref y1, .ref y2, .ref y3, .ref y4, .int (nI mp), .ref y5, .ref y6, .ref y7, .ref y8, .ref y9, .ref y10, .ref y11, .ref y12, .ref y13, .ref y14, .ref y15, .int (nI mq), .ref y16, .ref y17, .ref y18, .ref y19, .ref y20, .ref y21, .ref y22, .ref y23, .ref y24, .ref y25, .ref y26, .ref y27, .int mhw, .int (nI mwn), .ref y28, .ref y29, .ref y30, .ref y31, .ref y32, .ref y33, .ref y34, .ref y35, .ref y36, .int (nI mbm), .ref y37, .ref y38, .int (nI rm_l), .int ro_v, .int rs_v])), (y6, .inl (cI, 24, .inl MS)), (y30, .inl (cI, 9, .inl (fun zy => nI (DA1 zy)))), (y31, .inl (cI, 9, .inl (fun zy => nI (DA2 zy)))), (y37, .inl (cI, 8, .inl (fun zy => nI (RA1_1 zy)))), (y38, .inl (cI, 8, .inl (fun zy => nI (RA2_1 zy))))]) [0, 1, 2, 3, 4, 5, 6] rfl
        have hDz := hD.sub (ws' := [(y8, .inl (cI, 12, .inl MU)), (y, .inr (7, [.int (nI mn), .int mtm, .int mgp, .int mlk, .ref y1, .ref y2, .ref y3, .ref y4, .int (nI mp), .ref y5, .ref y6, .ref y7, .ref y8, .ref y9, .ref y10, .ref y11, .ref y12, .ref y13, .ref y14, .ref y15, .int (nI mq), .ref y16, .ref y17, .ref y18, .ref y19, .ref y20, .ref y21, .ref y22, .ref y23, .ref y24, .ref y25, .ref y26, .ref y27, .int mhw, .int (nI mwn), .ref y28, .ref y29, .ref y30, .ref y31, .ref y32, .ref y33, .ref y34, .ref y35, .ref y36, .int (nI mbm), .ref y37, .ref y38, .int (nI rm_l), .int ro_v, .int rs_v])), (y6, .inl (cI, 24, .inl MS)), (y30, .inl (cI, 9, .inl (fun zy => nI (DA1 zy)))), (y31, .inl (cI, 9, .inl (fun zy => nI (DA2 zy)))), (y37, .inl (cI, 8, .inl (fun zy => nI (RA1_1 zy)))), (y38, .inl (cI, 8, .inl (fun zy => nI (RA2_1 zy))))]) [0, 1, 2, 3, 4, 5, 6] (by decide) rfl
        exact ih1 ((k_l + 1), mo_v, rm_l, ro_v, rs_v, RA1_1, RA2_1) _ _ _ (by first | omega | (dsimp only; omega)) ⟨h_RA1_1, h_RA2_1, (by first | omega | (dsimp only; omega)), hrm, (by show _ = mnI (lmS MS (pfx DA1 DA2) k_l) (MS (pfx DA1 DA2 k_l)); rw [← hmo]; unfold mnI pfx; rw [if_neg (Int32.not_lt.mpr h_18)]), (ROI_C (mCd_n (by rw [oth_p (h_DA2 _)]; exact (Int32.not_lt.mpr h_19))) hro), hPz, hDz, hS, lv_sub hl [0, 1, 4, 5, 6] rfl⟩
      · refine lv_aload_n hx hb d_MO_tryAll_112 rfl (lv_at hl 6 rfl) ?_
        refine lv_iload_n hx hb d_MO_tryAll_113 rfl (lv_at hl 5 rfl) ?_
        refine lv_iload hx hb d_MO_tryAll_114 (lv_at hl 2 rfl) ?_
        refine lv_iload hx hb d_MO_tryAll_116 (lv_at hl 1 rfl) ?_
        refine lv_isub hx hb d_MO_tryAll_118 ?_
        refine lv_iconst (v := 2) hx hb d_MO_tryAll_119 (by decide) ?_
        refine lv_idiv hx hb d_MO_tryAll_120 (by decide) ?_
        refine lv_iload_n hx hb d_MO_tryAll_121 rfl (lv_at hl 4 rfl) ?_
        have hPc := hP.sub (ws' := [(y, .inr (7, [.int (nI mn), .int mtm, .int mgp, .int mlk, .ref y1, .ref y2, .ref y3, .ref y4, .int (nI mp), .ref y5, .ref y6, .ref y7, .ref y8, .ref y9, .ref y10, .ref y11, .ref y12, .ref y13, .ref y14, .ref y15, .int (nI mq), .ref y16, .ref y17, .ref y18, .ref y19, .ref y20, .ref y21, .ref y22, .ref y23, .ref y24, .ref y25, .ref y26, .ref y27, .int mhw, .int (nI mwn), .ref y28, .ref y29, .ref y30, .ref y31, .ref y32, .ref y33, .ref y34, .ref y35, .ref y36, .int (nI mbm), .ref y37, .ref y38, .int (nI rm_l), .int ro_v, .int rs_v])), (y6, .inl (cI, 24, .inl MS)), (y30, .inl (cI, 9, .inl (fun zy => nI (DA1 zy)))), (y31, .inl (cI, 9, .inl (fun zy => nI (DA2 zy)))), (y37, .inl (cI, 8, .inl (fun zy => nI (RA1_1 zy)))), (y38, .inl (cI, 8, .inl (fun zy => nI (RA2_1 zy))))]) [1, 2, 3, 4, 5, 6] rfl
        have hDc := hD.sub (ws' := [(y, .inr (7, [.int (nI mn), .int mtm, .int mgp, .int mlk, .ref y1, .ref y2, .ref y3, .ref y4, .int (nI mp), .ref y5, .ref y6, .ref y7, .ref y8, .ref y9, .ref y10, .ref y11, .ref y12, .ref y13, .ref y14, .ref y15, .int (nI mq), .ref y16, .ref y17, .ref y18, .ref y19, .ref y20, .ref y21, .ref y22, .ref y23, .ref y24, .ref y25, .ref y26, .ref y27, .int mhw, .int (nI mwn), .ref y28, .ref y29, .ref y30, .ref y31, .ref y32, .ref y33, .ref y34, .ref y35, .ref y36, .int (nI mbm), .ref y37, .ref y38, .int (nI rm_l), .int ro_v, .int rs_v])), (y6, .inl (cI, 24, .inl MS)), (y30, .inl (cI, 9, .inl (fun zy => nI (DA1 zy)))), (y31, .inl (cI, 9, .inl (fun zy => nI (DA2 zy)))), (y37, .inl (cI, 8, .inl (fun zy => nI (RA1_1 zy)))), (y38, .inl (cI, 8, .inl (fun zy => nI (RA2_1 zy))))]) [1, 2, 3, 4, 5, 6] (by decide +kernel) rfl
        have hFc := va_free (wc := [(y, .inr (7, [.int (nI mn), .int mtm, .int mgp, .int mlk, .ref y1, .ref y2, .ref y3, .ref y4, .int (nI mp), .ref y5, .ref y6, .ref y7, .ref y8, .ref y9, .ref y10, .ref y11, .ref y12, .ref y13, .ref y14, .ref y15, .int (nI mq), .ref y16, .ref y17, .ref y18, .ref y19, .ref y20, .ref y21, .ref y22, .ref y23, .ref y24, .ref y25, .ref y26, .ref y27, .int mhw, .int (nI mwn), .ref y28, .ref y29, .ref y30, .ref y31, .ref y32, .ref y33, .ref y34, .ref y35, .ref y36, .int (nI mbm), .ref y37, .ref y38, .int (nI rm_l), .int ro_v, .int rs_v])), (y6, .inl (cI, 24, .inl MS)), (y30, .inl (cI, 9, .inl (fun zy => nI (DA1 zy)))), (y31, .inl (cI, 9, .inl (fun zy => nI (DA2 zy)))), (y37, .inl (cI, 8, .inl (fun zy => nI (RA1_1 zy)))), (y38, .inl (cI, 8, .inl (fun zy => nI (RA2_1 zy))))]) hD hS hA [1, 2, 3, 4, 5, 6] rfl
        refine va_callv (va_runV (As := [.int (nI ln), .int (((MS ((2 * (DA1 k_l)) + (DA2 k_l))) - (MS (((2 * (DA1 k_l)) + 1) - (DA2 k_l)))) / 2), .int (sumO MS MU mp)]) (rest := []) ⟨hx, hb, hml, hown, hts⟩ (e_MO_tryRing l D cI cZ y ln (((MS ((2 * (DA1 k_l)) + (DA2 k_l))) - (MS (((2 * (DA1 k_l)) + 1) - (DA2 k_l)))) / 2) (sumO MS MU mp) mn mtm mgp mlk y1 y2 y3 y4 mp y5 y6 y7 y8 y9 y10 y11 y12 y13 y14 y15 mq y16 y17 y18 y19 y20 y21 y22 y23 y24 y25 y26 y27 mhw mwn y28 y29 y30 y31 y32 y33 y34 y35 y36 mbm y37 y38 rm_l ro_v rs_v MS DA1 DA2 RA1_1 RA2_1 H_9.size h_mn h_mp h_mq h_mwn h_mbm hrm h_DA1 h_DA2 h_RA1_1 h_RA2_1 hln hln1) (my_cwV 3 hts q_958 q_955 q_957 q_p26 q_8 rfl rfl (by decide +kernel) ⟨Nat.le_of_ble_eq_true rfl, Nat.le_of_ble_eq_true rfl⟩) (my_preV hPc hDc hK hN 7 0 rfl rfl) rfl rfl hl.1 rfl (lv_room (Nat.le_of_ble_eq_true rfl)) d_MO_tryAll_122 ⟨Nat.le_of_ble_eq_true rfl, Nat.le_of_ble_eq_true rfl⟩) hS (fun q _ h => hFc q h) hFc (fun uU tT H_21 locs ht hvm hw_20 hB hz1 hk1 hS => ?_)
        obtain ⟨mrm_22, mro_23, mrs_24, RA1_25, RA2_26⟩ := uU
        obtain ⟨hP1, hD1⟩ := hB
        rw [ht] at hP1
        obtain ⟨hP, hD⟩ := va_join (wr := [(y8, .inl (cI, 12, .inl MU))]) (w1 := [(y, .inr (7, [.int (nI mn), .int mtm, .int mgp, .int mlk, .ref y1, .ref y2, .ref y3, .ref y4, .int (nI mp), .ref y5, .ref y6, .ref y7, .ref y8, .ref y9, .ref y10, .ref y11, .ref y12, .ref y13, .ref y14, .ref y15, .int (nI mq), .ref y16, .ref y17, .ref y18, .ref y19, .ref y20, .ref y21, .ref y22, .ref y23, .ref y24, .ref y25, .ref y26, .ref y27, .int mhw, .int (nI mwn), .ref y28, .ref y29, .ref y30, .ref y31, .ref y32, .ref y33, .ref y34, .ref y35, .ref y36, .int (nI mbm), .ref y37, .ref y38, .int (nI mrm_22), .int mro_23, .int mrs_24])), (y6, .inl (cI, 24, .inl MS)), (y30, .inl (cI, 9, .inl (fun zy => nI (DA1 zy)))), (y31, .inl (cI, 9, .inl (fun zy => nI (DA2 zy)))), (y37, .inl (cI, 8, .inl (fun zy => nI (RA1_25 zy)))), (y38, .inl (cI, 8, .inl (fun zy => nI (RA2_26 zy))))]) hP hD [1, 2, 3, 4, 5, 6] [0] rfl rfl (by decide +kernel) (by decide +kernel) hk1 hFc hP1 hD1
        have hP : va_P D vwCl [(y8, .inl (cI, 12, .inl MU)), (y, .inr (7, [.int (nI mn), .int mtm, .int mgp, .int mlk, .ref y1, .ref y2, .ref y3, .ref y4, .int (nI mp), .ref y5, .ref y6, .ref y7, .ref y8, .ref y9, .ref y10, .ref y11, .ref y12, .ref y13, .ref y14, .ref y15, .int (nI mq), .ref y16, .ref y17, .ref y18, .ref y19, .ref y20, .ref y21, .ref y22, .ref y23, .ref y24, .ref y25, .ref y26, .ref y27, .int mhw, .int (nI mwn), .ref y28, .ref y29, .ref y30, .ref y31, .ref y32, .ref y33, .ref y34, .ref y35, .ref y36, .int (nI mbm), .ref y37, .ref y38, .int (nI mrm_22), .int mro_23, .int mrs_24])), (y6, .inl (cI, 24, .inl MS)), (y30, .inl (cI, 9, .inl (fun zy => nI (DA1 zy)))), (y31, .inl (cI, 9, .inl (fun zy => nI (DA2 zy)))), (y37, .inl (cI, 8, .inl (fun zy => nI (RA1_25 zy)))), (y38, .inl (cI, 8, .inl (fun zy => nI (RA2_26 zy))))] H_21 := hP
        have hD : va_D A [(y8, .inl (cI, 12, .inl MU)), (y, .inr (7, [.int (nI mn), .int mtm, .int mgp, .int mlk, .ref y1, .ref y2, .ref y3, .ref y4, .int (nI mp), .ref y5, .ref y6, .ref y7, .ref y8, .ref y9, .ref y10, .ref y11, .ref y12, .ref y13, .ref y14, .ref y15, .int (nI mq), .ref y16, .ref y17, .ref y18, .ref y19, .ref y20, .ref y21, .ref y22, .ref y23, .ref y24, .ref y25, .ref y26, .ref y27, .int mhw, .int (nI mwn), .ref y28, .ref y29, .ref y30, .ref y31, .ref y32, .ref y33, .ref y34, .ref y35, .ref y36, .int (nI mbm), .ref y37, .ref y38, .int (nI mrm_22), .int mro_23, .int mrs_24])), (y6, .inl (cI, 24, .inl MS)), (y30, .inl (cI, 9, .inl (fun zy => nI (DA1 zy)))), (y31, .inl (cI, 9, .inl (fun zy => nI (DA2 zy)))), (y37, .inl (cI, 8, .inl (fun zy => nI (RA1_25 zy)))), (y38, .inl (cI, 8, .inl (fun zy => nI (RA2_26 zy))))] := hD
        have hw_20 : (mrm_22 ≤ 8) ∧ (∀ zz, RA1_25 zz ≤ 11) ∧ (∀ zz, RA2_26 zz ≤ 1) ∧ (ROI MS ln DA1 DA2 (sumO MS MU mp) (fun m => m = (((MS ((2 * (DA1 k_l)) + (DA2 k_l))) - (MS (((2 * (DA1 k_l)) + 1) - (DA2 k_l)))) / 2)) rm_l ro_v rs_v RA1_1 RA2_1 mrm_22 mro_23 mrs_24 RA1_25 RA2_26) := hw_20
        obtain ⟨hf_26_0, hf_26_1, hf_26_2, hf_26_3⟩ := hw_20
        have hf_26_0 : mrm_22 ≤ 8 := hf_26_0
        have hf_26_1 : ∀ zz, RA1_25 zz ≤ 11 := hf_26_1
        have hf_26_2 : ∀ zz, RA2_26 zz ≤ 1 := hf_26_2
        have hf_26_3 : ROI MS ln DA1 DA2 (sumO MS MU mp) (fun m => m = (((MS ((2 * (DA1 k_l)) + (DA2 k_l))) - (MS (((2 * (DA1 k_l)) + 1) - (DA2 k_l)))) / 2)) rm_l ro_v rs_v RA1_1 RA2_1 mrm_22 mro_23 mrs_24 RA1_25 RA2_26 := hf_26_3
        refine lv_aload_n hx hb d_MO_tryAll_125 rfl (lv_at hl 6 rfl) ?_
        refine lv_iload_n hx hb d_MO_tryAll_126 rfl (lv_at hl 5 rfl) ?_
        refine lv_iload hx hb d_MO_tryAll_127 (lv_at hl 2 rfl) ?_
        refine lv_iload hx hb d_MO_tryAll_129 (lv_at hl 1 rfl) ?_
        refine lv_isub hx hb d_MO_tryAll_131 ?_
        refine lv_iconst (v := 1) hx hb d_MO_tryAll_132 (by decide) ?_
        refine lv_iadd hx hb d_MO_tryAll_133 ?_
        refine lv_iconst (v := 2) hx hb d_MO_tryAll_134 (by decide) ?_
        refine lv_idiv hx hb d_MO_tryAll_135 (by decide) ?_
        refine lv_iload_n hx hb d_MO_tryAll_136 rfl (lv_at hl 4 rfl) ?_
        have hPc := hP.sub (ws' := [(y, .inr (7, [.int (nI mn), .int mtm, .int mgp, .int mlk, .ref y1, .ref y2, .ref y3, .ref y4, .int (nI mp), .ref y5, .ref y6, .ref y7, .ref y8, .ref y9, .ref y10, .ref y11, .ref y12, .ref y13, .ref y14, .ref y15, .int (nI mq), .ref y16, .ref y17, .ref y18, .ref y19, .ref y20, .ref y21, .ref y22, .ref y23, .ref y24, .ref y25, .ref y26, .ref y27, .int mhw, .int (nI mwn), .ref y28, .ref y29, .ref y30, .ref y31, .ref y32, .ref y33, .ref y34, .ref y35, .ref y36, .int (nI mbm), .ref y37, .ref y38, .int (nI mrm_22), .int mro_23, .int mrs_24])), (y6, .inl (cI, 24, .inl MS)), (y30, .inl (cI, 9, .inl (fun zy => nI (DA1 zy)))), (y31, .inl (cI, 9, .inl (fun zy => nI (DA2 zy)))), (y37, .inl (cI, 8, .inl (fun zy => nI (RA1_25 zy)))), (y38, .inl (cI, 8, .inl (fun zy => nI (RA2_26 zy))))]) [1, 2, 3, 4, 5, 6] rfl
        have hDc := hD.sub (ws' := [(y, .inr (7, [.int (nI mn), .int mtm, .int mgp, .int mlk, .ref y1, .ref y2, .ref y3, .ref y4, .int (nI mp), .ref y5, .ref y6, .ref y7, .ref y8, .ref y9, .ref y10, .ref y11, .ref y12, .ref y13, .ref y14, .ref y15, .int (nI mq), .ref y16, .ref y17, .ref y18, .ref y19, .ref y20, .ref y21, .ref y22, .ref y23, .ref y24, .ref y25, .ref y26, .ref y27, .int mhw, .int (nI mwn), .ref y28, .ref y29, .ref y30, .ref y31, .ref y32, .ref y33, .ref y34, .ref y35, .ref y36, .int (nI mbm), .ref y37, .ref y38, .int (nI mrm_22), .int mro_23, .int mrs_24])), (y6, .inl (cI, 24, .inl MS)), (y30, .inl (cI, 9, .inl (fun zy => nI (DA1 zy)))), (y31, .inl (cI, 9, .inl (fun zy => nI (DA2 zy)))), (y37, .inl (cI, 8, .inl (fun zy => nI (RA1_25 zy)))), (y38, .inl (cI, 8, .inl (fun zy => nI (RA2_26 zy))))]) [1, 2, 3, 4, 5, 6] (by decide +kernel) rfl
        have hFc := va_free (wc := [(y, .inr (7, [.int (nI mn), .int mtm, .int mgp, .int mlk, .ref y1, .ref y2, .ref y3, .ref y4, .int (nI mp), .ref y5, .ref y6, .ref y7, .ref y8, .ref y9, .ref y10, .ref y11, .ref y12, .ref y13, .ref y14, .ref y15, .int (nI mq), .ref y16, .ref y17, .ref y18, .ref y19, .ref y20, .ref y21, .ref y22, .ref y23, .ref y24, .ref y25, .ref y26, .ref y27, .int mhw, .int (nI mwn), .ref y28, .ref y29, .ref y30, .ref y31, .ref y32, .ref y33, .ref y34, .ref y35, .ref y36, .int (nI mbm), .ref y37, .ref y38, .int (nI mrm_22), .int mro_23, .int mrs_24])), (y6, .inl (cI, 24, .inl MS)), (y30, .inl (cI, 9, .inl (fun zy => nI (DA1 zy)))), (y31, .inl (cI, 9, .inl (fun zy => nI (DA2 zy)))), (y37, .inl (cI, 8, .inl (fun zy => nI (RA1_25 zy)))), (y38, .inl (cI, 8, .inl (fun zy => nI (RA2_26 zy))))]) hD hS hA [1, 2, 3, 4, 5, 6] rfl
        refine va_callv (va_runV (As := [.int (nI ln), .int ((((MS ((2 * (DA1 k_l)) + (DA2 k_l))) - (MS (((2 * (DA1 k_l)) + 1) - (DA2 k_l)))) + 1) / 2), .int (sumO MS MU mp)]) (rest := []) ⟨hx, hb, hml, hown, hts⟩ (e_MO_tryRing l D cI cZ y ln ((((MS ((2 * (DA1 k_l)) + (DA2 k_l))) - (MS (((2 * (DA1 k_l)) + 1) - (DA2 k_l)))) + 1) / 2) (sumO MS MU mp) mn mtm mgp mlk y1 y2 y3 y4 mp y5 y6 y7 y8 y9 y10 y11 y12 y13 y14 y15 mq y16 y17 y18 y19 y20 y21 y22 y23 y24 y25 y26 y27 mhw mwn y28 y29 y30 y31 y32 y33 y34 y35 y36 mbm y37 y38 mrm_22 mro_23 mrs_24 MS DA1 DA2 RA1_25 RA2_26 H_21.size h_mn h_mp h_mq h_mwn h_mbm hf_26_0 h_DA1 h_DA2 hf_26_1 hf_26_2 hln hln1) (my_cwV 3 hts q_958 q_955 q_957 q_p26 q_8 rfl rfl (by decide +kernel) ⟨Nat.le_of_ble_eq_true rfl, Nat.le_of_ble_eq_true rfl⟩) (my_preV hPc hDc hK hN 7 0 rfl rfl) rfl rfl hl.1 rfl (lv_room (Nat.le_of_ble_eq_true rfl)) d_MO_tryAll_137 ⟨Nat.le_of_ble_eq_true rfl, Nat.le_of_ble_eq_true rfl⟩) hS (fun q _ h => hFc q h) hFc (fun uU tT H_28 locs ht hvm hw_27 hB hz1 hk1 hS => ?_)
        obtain ⟨mrm_29, mro_30, mrs_31, RA1_32, RA2_33⟩ := uU
        obtain ⟨hP1, hD1⟩ := hB
        rw [ht] at hP1
        obtain ⟨hP, hD⟩ := va_join (wr := [(y8, .inl (cI, 12, .inl MU))]) (w1 := [(y, .inr (7, [.int (nI mn), .int mtm, .int mgp, .int mlk, .ref y1, .ref y2, .ref y3, .ref y4, .int (nI mp), .ref y5, .ref y6, .ref y7, .ref y8, .ref y9, .ref y10, .ref y11, .ref y12, .ref y13, .ref y14, .ref y15, .int (nI mq), .ref y16, .ref y17, .ref y18, .ref y19, .ref y20, .ref y21, .ref y22, .ref y23, .ref y24, .ref y25, .ref y26, .ref y27, .int mhw, .int (nI mwn), .ref y28, .ref y29, .ref y30, .ref y31, .ref y32, .ref y33, .ref y34, .ref y35, .ref y36, .int (nI mbm), .ref y37, .ref y38, .int (nI mrm_29), .int mro_30, .int mrs_31])), (y6, .inl (cI, 24, .inl MS)), (y30, .inl (cI, 9, .inl (fun zy => nI (DA1 zy)))), (y31, .inl (cI, 9, .inl (fun zy => nI (DA2 zy)))), (y37, .inl (cI, 8, .inl (fun zy => nI (RA1_32 zy)))), (y38, .inl (cI, 8, .inl (fun zy => nI (RA2_33 zy))))]) hP hD [1, 2, 3, 4, 5, 6] [0] rfl rfl (by decide +kernel) (by decide +kernel) hk1 hFc hP1 hD1
        have hP : va_P D vwCl [(y8, .inl (cI, 12, .inl MU)), (y, .inr (7, [.int (nI mn), .int mtm, .int mgp, .int mlk, .ref y1, .ref y2, .ref y3, .ref y4, .int (nI mp), .ref y5, .ref y6, .ref y7, .ref y8, .ref y9, .ref y10, .ref y11, .ref y12, .ref y13, .ref y14, .ref y15, .int (nI mq), .ref y16, .ref y17, .ref y18, .ref y19, .ref y20, .ref y21, .ref y22, .ref y23, .ref y24, .ref y25, .ref y26, .ref y27, .int mhw, .int (nI mwn), .ref y28, .ref y29, .ref y30, .ref y31, .ref y32, .ref y33, .ref y34, .ref y35, .ref y36, .int (nI mbm), .ref y37, .ref y38, .int (nI mrm_29), .int mro_30, .int mrs_31])), (y6, .inl (cI, 24, .inl MS)), (y30, .inl (cI, 9, .inl (fun zy => nI (DA1 zy)))), (y31, .inl (cI, 9, .inl (fun zy => nI (DA2 zy)))), (y37, .inl (cI, 8, .inl (fun zy => nI (RA1_32 zy)))), (y38, .inl (cI, 8, .inl (fun zy => nI (RA2_33 zy))))] H_28 := hP
        have hD : va_D A [(y8, .inl (cI, 12, .inl MU)), (y, .inr (7, [.int (nI mn), .int mtm, .int mgp, .int mlk, .ref y1, .ref y2, .ref y3, .ref y4, .int (nI mp), .ref y5, .ref y6, .ref y7, .ref y8, .ref y9, .ref y10, .ref y11, .ref y12, .ref y13, .ref y14, .ref y15, .int (nI mq), .ref y16, .ref y17, .ref y18, .ref y19, .ref y20, .ref y21, .ref y22, .ref y23, .ref y24, .ref y25, .ref y26, .ref y27, .int mhw, .int (nI mwn), .ref y28, .ref y29, .ref y30, .ref y31, .ref y32, .ref y33, .ref y34, .ref y35, .ref y36, .int (nI mbm), .ref y37, .ref y38, .int (nI mrm_29), .int mro_30, .int mrs_31])), (y6, .inl (cI, 24, .inl MS)), (y30, .inl (cI, 9, .inl (fun zy => nI (DA1 zy)))), (y31, .inl (cI, 9, .inl (fun zy => nI (DA2 zy)))), (y37, .inl (cI, 8, .inl (fun zy => nI (RA1_32 zy)))), (y38, .inl (cI, 8, .inl (fun zy => nI (RA2_33 zy))))] := hD
        have hw_27 : (mrm_29 ≤ 8) ∧ (∀ zz, RA1_32 zz ≤ 11) ∧ (∀ zz, RA2_33 zz ≤ 1) ∧ (ROI MS ln DA1 DA2 (sumO MS MU mp) (fun m => m = ((((MS ((2 * (DA1 k_l)) + (DA2 k_l))) - (MS (((2 * (DA1 k_l)) + 1) - (DA2 k_l)))) + 1) / 2)) mrm_22 mro_23 mrs_24 RA1_25 RA2_26 mrm_29 mro_30 mrs_31 RA1_32 RA2_33) := hw_27
        obtain ⟨hf_33_0, hf_33_1, hf_33_2, hf_33_3⟩ := hw_27
        have hf_33_0 : mrm_29 ≤ 8 := hf_33_0
        have hf_33_1 : ∀ zz, RA1_32 zz ≤ 11 := hf_33_1
        have hf_33_2 : ∀ zz, RA2_33 zz ≤ 1 := hf_33_2
        have hf_33_3 : ROI MS ln DA1 DA2 (sumO MS MU mp) (fun m => m = ((((MS ((2 * (DA1 k_l)) + (DA2 k_l))) - (MS (((2 * (DA1 k_l)) + 1) - (DA2 k_l)))) + 1) / 2)) mrm_22 mro_23 mrs_24 RA1_25 RA2_26 mrm_29 mro_30 mrs_31 RA1_32 RA2_33 := hf_33_3
        refine lv_iinc (v := nI (k_l + 1)) (lv' := [(4, .int (nI (k_l + 1))), (3, .int mo_v), (6, .int (MS (((2 * (DA1 k_l)) + 1) - (DA2 k_l)))), (5, .int (MS ((2 * (DA1 k_l)) + (DA2 k_l)))), (2, .int (sumO MS MU mp)), (1, .int (nI ln)), (0, .ref y)]) hx hb d_MO_tryAll_140 hl (k := 3) rfl (nI_1 k_l) (by decide) rfl (fun ls hl => ?_)
        refine lv_goto (tgt := 36) hx hb d_MO_tryAll_143 (by decide) ?_
        have hPz := hP.sub (ws' := [(y8, .inl (cI, 12, .inl MU)), (y, .inr (7, [.int (nI mn), .int mtm, .int mgp, .int mlk, .ref y1, .ref y2, .ref y3, .ref y4, .int (nI mp), .ref y5, .ref y6, .ref y7, .ref y8, .ref y9, .ref y10, .ref y11, .ref y12, .ref y13, .ref y14, .ref y15, .int (nI mq), .ref y16, .ref y17, .ref y18, .ref y19, .ref y20, .ref y21, .ref y22, .ref y23, .ref y24, .ref y25, .ref y26, .ref y27, .int mhw, .int (nI mwn), .ref y28, .ref y29, .ref y30, .ref y31, .ref y32, .ref y33, .ref y34, .ref y35, .ref y36, .int (nI mbm), .ref y37, .ref y38, .int (nI mrm_29), .int mro_30, .int mrs_31])), (y6, .inl (cI, 24, .inl MS)), (y30, .inl (cI, 9, .inl (fun zy => nI (DA1 zy)))), (y31, .inl (cI, 9, .inl (fun zy => nI (DA2 zy)))), (y37, .inl (cI, 8, .inl (fun zy => nI (RA1_32 zy)))), (y38, .inl (cI, 8, .inl (fun zy => nI (RA2_33 zy))))]) [0, 1, 2, 3, 4, 5, 6] rfl
        have hDz := hD.sub (ws' := [(y8, .inl (cI, 12, .inl MU)), (y, .inr (7, [.int (nI mn), .int mtm, .int mgp, .int mlk, .ref y1, .ref y2, .ref y3, .ref y4, .int (nI mp), .ref y5, .ref y6, .ref y7, .ref y8, .ref y9, .ref y10, .ref y11, .ref y12, .ref y13, .ref y14, .ref y15, .int (nI mq), .ref y16, .ref y17, .ref y18, .ref y19, .ref y20, .ref y21, .ref y22, .ref y23, .ref y24, .ref y25, .ref y26, .ref y27, .int mhw, .int (nI mwn), .ref y28, .ref y29, .ref y30, .ref y31, .ref y32, .ref y33, .ref y34, .ref y35, .ref y36, .int (nI mbm), .ref y37, .ref y38, .int (nI mrm_29), .int mro_30, .int mrs_31])), (y6, .inl (cI, 24, .inl MS)), (y30, .inl (cI, 9, .inl (fun zy => nI (DA1 zy)))), (y31, .inl (cI, 9, .inl (fun zy => nI (DA2 zy)))), (y37, .inl (cI, 8, .inl (fun zy => nI (RA1_32 zy)))), (y38, .inl (cI, 8, .inl (fun zy => nI (RA2_33 zy))))]) [0, 1, 2, 3, 4, 5, 6] (by decide) rfl
        exact ih1 ((k_l + 1), mo_v, mrm_29, mro_30, mrs_31, RA1_32, RA2_33) _ _ _ (by first | omega | (dsimp only; omega)) ⟨hf_33_1, hf_33_2, (by first | omega | (dsimp only; omega)), hf_33_0, (by show _ = mnI (lmS MS (pfx DA1 DA2) k_l) (MS (pfx DA1 DA2 k_l)); rw [← hmo]; unfold mnI pfx; rw [if_neg (Int32.not_lt.mpr h_18)]), (ROI_C (fun m hm => by have h9 := mCd_y m hm; rw [← df_of (h_DA2 _)] at h9; exact h9) (ROI_seq (ROI_seq hro hf_26_3) hf_33_3)), hPz, hDz, hS, lv_sub hl [0, 1, 4, 5, 6] rfl⟩
    · refine lv_iload hx hb d_MO_tryAll_98 (lv_at hl 1 rfl) ?_
      refine lv_goto (tgt := 104) hx hb d_MO_tryAll_100 (by decide) ?_
      refine lv_istore_n (lv' := [(3, .int (MS ((2 * (DA1 k_l)) + (DA2 k_l)))), (6, .int (MS (((2 * (DA1 k_l)) + 1) - (DA2 k_l)))), (5, .int (MS ((2 * (DA1 k_l)) + (DA2 k_l)))), (4, .int (nI k_l)), (2, .int (sumO MS MU mp)), (1, .int (nI ln)), (0, .ref y)]) hx hb d_MO_tryAll_104 rfl hl (by decide) rfl (fun ls hl => ?_)
      refine lv_iload hx hb d_MO_tryAll_105 (lv_at hl 2 rfl) ?_
      refine lv_iload hx hb d_MO_tryAll_107 (lv_at hl 1 rfl) ?_
      refine lv_icmp_le (tgt := 140) hx hb d_MO_tryAll_109 (by decide) (fun h_34 => ?_) (fun h_34 => ?_)
      · refine lv_iinc (v := nI (k_l + 1)) (lv' := [(4, .int (nI (k_l + 1))), (3, .int (MS ((2 * (DA1 k_l)) + (DA2 k_l)))), (6, .int (MS (((2 * (DA1 k_l)) + 1) - (DA2 k_l)))), (5, .int (MS ((2 * (DA1 k_l)) + (DA2 k_l)))), (2, .int (sumO MS MU mp)), (1, .int (nI ln)), (0, .ref y)]) hx hb d_MO_tryAll_140 hl (k := 3) rfl (nI_1 k_l) (by decide) rfl (fun ls hl => ?_)
        refine lv_goto (tgt := 36) hx hb d_MO_tryAll_143 (by decide) ?_
        have hPz := hP.sub (ws' := [(y8, .inl (cI, 12, .inl MU)), (y, .inr (7, [.int (nI mn), .int mtm, .int mgp, .int mlk, .ref y1, .ref y2, .ref y3, .ref y4, .int (nI mp), .ref y5, .ref y6, .ref y7, .ref y8, .ref y9, .ref y10, .ref y11, .ref y12, .ref y13, .ref y14, .ref y15, .int (nI mq), .ref y16, .ref y17, .ref y18, .ref y19, .ref y20, .ref y21, .ref y22, .ref y23, .ref y24, .ref y25, .ref y26, .ref y27, .int mhw, .int (nI mwn), .ref y28, .ref y29, .ref y30, .ref y31, .ref y32, .ref y33, .ref y34, .ref y35, .ref y36, .int (nI mbm), .ref y37, .ref y38, .int (nI rm_l), .int ro_v, .int rs_v])), (y6, .inl (cI, 24, .inl MS)), (y30, .inl (cI, 9, .inl (fun zy => nI (DA1 zy)))), (y31, .inl (cI, 9, .inl (fun zy => nI (DA2 zy)))), (y37, .inl (cI, 8, .inl (fun zy => nI (RA1_1 zy)))), (y38, .inl (cI, 8, .inl (fun zy => nI (RA2_1 zy))))]) [0, 1, 2, 3, 4, 5, 6] rfl
        have hDz := hD.sub (ws' := [(y8, .inl (cI, 12, .inl MU)), (y, .inr (7, [.int (nI mn), .int mtm, .int mgp, .int mlk, .ref y1, .ref y2, .ref y3, .ref y4, .int (nI mp), .ref y5, .ref y6, .ref y7, .ref y8, .ref y9, .ref y10, .ref y11, .ref y12, .ref y13, .ref y14, .ref y15, .int (nI mq), .ref y16, .ref y17, .ref y18, .ref y19, .ref y20, .ref y21, .ref y22, .ref y23, .ref y24, .ref y25, .ref y26, .ref y27, .int mhw, .int (nI mwn), .ref y28, .ref y29, .ref y30, .ref y31, .ref y32, .ref y33, .ref y34, .ref y35, .ref y36, .int (nI mbm), .ref y37, .ref y38, .int (nI rm_l), .int ro_v, .int rs_v])), (y6, .inl (cI, 24, .inl MS)), (y30, .inl (cI, 9, .inl (fun zy => nI (DA1 zy)))), (y31, .inl (cI, 9, .inl (fun zy => nI (DA2 zy)))), (y37, .inl (cI, 8, .inl (fun zy => nI (RA1_1 zy)))), (y38, .inl (cI, 8, .inl (fun zy => nI (RA2_1 zy))))]) [0, 1, 2, 3, 4, 5, 6] (by decide) rfl
        exact ih1 ((k_l + 1), (MS ((2 * (DA1 k_l)) + (DA2 k_l))), rm_l, ro_v, rs_v, RA1_1, RA2_1) _ _ _ (by first | omega | (dsimp only; omega)) ⟨h_RA1_1, h_RA2_1, (by first | omega | (dsimp only; omega)), hrm, (by show _ = mnI (lmS MS (pfx DA1 DA2) k_l) (MS (pfx DA1 DA2 k_l)); rw [← hmo]; unfold mnI pfx; rw [if_pos (Int32.not_le.mp h_18)]), (ROI_C (mCd_n (by rw [oth_p (h_DA2 _)]; exact (Int32.not_lt.mpr h_34))) hro), hPz, hDz, hS, lv_sub hl [0, 1, 4, 5, 6] rfl⟩
      · refine lv_aload_n hx hb d_MO_tryAll_112 rfl (lv_at hl 6 rfl) ?_
        refine lv_iload_n hx hb d_MO_tryAll_113 rfl (lv_at hl 5 rfl) ?_
        refine lv_iload hx hb d_MO_tryAll_114 (lv_at hl 2 rfl) ?_
        refine lv_iload hx hb d_MO_tryAll_116 (lv_at hl 1 rfl) ?_
        refine lv_isub hx hb d_MO_tryAll_118 ?_
        refine lv_iconst (v := 2) hx hb d_MO_tryAll_119 (by decide) ?_
        refine lv_idiv hx hb d_MO_tryAll_120 (by decide) ?_
        refine lv_iload_n hx hb d_MO_tryAll_121 rfl (lv_at hl 4 rfl) ?_
        have hPc := hP.sub (ws' := [(y, .inr (7, [.int (nI mn), .int mtm, .int mgp, .int mlk, .ref y1, .ref y2, .ref y3, .ref y4, .int (nI mp), .ref y5, .ref y6, .ref y7, .ref y8, .ref y9, .ref y10, .ref y11, .ref y12, .ref y13, .ref y14, .ref y15, .int (nI mq), .ref y16, .ref y17, .ref y18, .ref y19, .ref y20, .ref y21, .ref y22, .ref y23, .ref y24, .ref y25, .ref y26, .ref y27, .int mhw, .int (nI mwn), .ref y28, .ref y29, .ref y30, .ref y31, .ref y32, .ref y33, .ref y34, .ref y35, .ref y36, .int (nI mbm), .ref y37, .ref y38, .int (nI rm_l), .int ro_v, .int rs_v])), (y6, .inl (cI, 24, .inl MS)), (y30, .inl (cI, 9, .inl (fun zy => nI (DA1 zy)))), (y31, .inl (cI, 9, .inl (fun zy => nI (DA2 zy)))), (y37, .inl (cI, 8, .inl (fun zy => nI (RA1_1 zy)))), (y38, .inl (cI, 8, .inl (fun zy => nI (RA2_1 zy))))]) [1, 2, 3, 4, 5, 6] rfl
        have hDc := hD.sub (ws' := [(y, .inr (7, [.int (nI mn), .int mtm, .int mgp, .int mlk, .ref y1, .ref y2, .ref y3, .ref y4, .int (nI mp), .ref y5, .ref y6, .ref y7, .ref y8, .ref y9, .ref y10, .ref y11, .ref y12, .ref y13, .ref y14, .ref y15, .int (nI mq), .ref y16, .ref y17, .ref y18, .ref y19, .ref y20, .ref y21, .ref y22, .ref y23, .ref y24, .ref y25, .ref y26, .ref y27, .int mhw, .int (nI mwn), .ref y28, .ref y29, .ref y30, .ref y31, .ref y32, .ref y33, .ref y34, .ref y35, .ref y36, .int (nI mbm), .ref y37, .ref y38, .int (nI rm_l), .int ro_v, .int rs_v])), (y6, .inl (cI, 24, .inl MS)), (y30, .inl (cI, 9, .inl (fun zy => nI (DA1 zy)))), (y31, .inl (cI, 9, .inl (fun zy => nI (DA2 zy)))), (y37, .inl (cI, 8, .inl (fun zy => nI (RA1_1 zy)))), (y38, .inl (cI, 8, .inl (fun zy => nI (RA2_1 zy))))]) [1, 2, 3, 4, 5, 6] (by decide +kernel) rfl
        have hFc := va_free (wc := [(y, .inr (7, [.int (nI mn), .int mtm, .int mgp, .int mlk, .ref y1, .ref y2, .ref y3, .ref y4, .int (nI mp), .ref y5, .ref y6, .ref y7, .ref y8, .ref y9, .ref y10, .ref y11, .ref y12, .ref y13, .ref y14, .ref y15, .int (nI mq), .ref y16, .ref y17, .ref y18, .ref y19, .ref y20, .ref y21, .ref y22, .ref y23, .ref y24, .ref y25, .ref y26, .ref y27, .int mhw, .int (nI mwn), .ref y28, .ref y29, .ref y30, .ref y31, .ref y32, .ref y33, .ref y34, .ref y35, .ref y36, .int (nI mbm), .ref y37, .ref y38, .int (nI rm_l), .int ro_v, .int rs_v])), (y6, .inl (cI, 24, .inl MS)), (y30, .inl (cI, 9, .inl (fun zy => nI (DA1 zy)))), (y31, .inl (cI, 9, .inl (fun zy => nI (DA2 zy)))), (y37, .inl (cI, 8, .inl (fun zy => nI (RA1_1 zy)))), (y38, .inl (cI, 8, .inl (fun zy => nI (RA2_1 zy))))]) hD hS hA [1, 2, 3, 4, 5, 6] rfl
        refine va_callv (va_runV (As := [.int (nI ln), .int (((MS ((2 * (DA1 k_l)) + (DA2 k_l))) - (MS (((2 * (DA1 k_l)) + 1) - (DA2 k_l)))) / 2), .int (sumO MS MU mp)]) (rest := []) ⟨hx, hb, hml, hown, hts⟩ (e_MO_tryRing l D cI cZ y ln (((MS ((2 * (DA1 k_l)) + (DA2 k_l))) - (MS (((2 * (DA1 k_l)) + 1) - (DA2 k_l)))) / 2) (sumO MS MU mp) mn mtm mgp mlk y1 y2 y3 y4 mp y5 y6 y7 y8 y9 y10 y11 y12 y13 y14 y15 mq y16 y17 y18 y19 y20 y21 y22 y23 y24 y25 y26 y27 mhw mwn y28 y29 y30 y31 y32 y33 y34 y35 y36 mbm y37 y38 rm_l ro_v rs_v MS DA1 DA2 RA1_1 RA2_1 H_9.size h_mn h_mp h_mq h_mwn h_mbm hrm h_DA1 h_DA2 h_RA1_1 h_RA2_1 hln hln1) (my_cwV 3 hts q_958 q_955 q_957 q_p26 q_8 rfl rfl (by decide +kernel) ⟨Nat.le_of_ble_eq_true rfl, Nat.le_of_ble_eq_true rfl⟩) (my_preV hPc hDc hK hN 7 0 rfl rfl) rfl rfl hl.1 rfl (lv_room (Nat.le_of_ble_eq_true rfl)) d_MO_tryAll_122 ⟨Nat.le_of_ble_eq_true rfl, Nat.le_of_ble_eq_true rfl⟩) hS (fun q _ h => hFc q h) hFc (fun uU tT H_36 locs ht hvm hw_35 hB hz1 hk1 hS => ?_)
        obtain ⟨mrm_37, mro_38, mrs_39, RA1_40, RA2_41⟩ := uU
        obtain ⟨hP1, hD1⟩ := hB
        rw [ht] at hP1
        obtain ⟨hP, hD⟩ := va_join (wr := [(y8, .inl (cI, 12, .inl MU))]) (w1 := [(y, .inr (7, [.int (nI mn), .int mtm, .int mgp, .int mlk, .ref y1, .ref y2, .ref y3, .ref y4, .int (nI mp), .ref y5, .ref y6, .ref y7, .ref y8, .ref y9, .ref y10, .ref y11, .ref y12, .ref y13, .ref y14, .ref y15, .int (nI mq), .ref y16, .ref y17, .ref y18, .ref y19, .ref y20, .ref y21, .ref y22, .ref y23, .ref y24, .ref y25, .ref y26, .ref y27, .int mhw, .int (nI mwn), .ref y28, .ref y29, .ref y30, .ref y31, .ref y32, .ref y33, .ref y34, .ref y35, .ref y36, .int (nI mbm), .ref y37, .ref y38, .int (nI mrm_37), .int mro_38, .int mrs_39])), (y6, .inl (cI, 24, .inl MS)), (y30, .inl (cI, 9, .inl (fun zy => nI (DA1 zy)))), (y31, .inl (cI, 9, .inl (fun zy => nI (DA2 zy)))), (y37, .inl (cI, 8, .inl (fun zy => nI (RA1_40 zy)))), (y38, .inl (cI, 8, .inl (fun zy => nI (RA2_41 zy))))]) hP hD [1, 2, 3, 4, 5, 6] [0] rfl rfl (by decide +kernel) (by decide +kernel) hk1 hFc hP1 hD1
        have hP : va_P D vwCl [(y8, .inl (cI, 12, .inl MU)), (y, .inr (7, [.int (nI mn), .int mtm, .int mgp, .int mlk, .ref y1, .ref y2, .ref y3, .ref y4, .int (nI mp), .ref y5, .ref y6, .ref y7, .ref y8, .ref y9, .ref y10, .ref y11, .ref y12, .ref y13, .ref y14, .ref y15, .int (nI mq), .ref y16, .ref y17, .ref y18, .ref y19, .ref y20, .ref y21, .ref y22, .ref y23, .ref y24, .ref y25, .ref y26, .ref y27, .int mhw, .int (nI mwn), .ref y28, .ref y29, .ref y30, .ref y31, .ref y32, .ref y33, .ref y34, .ref y35, .ref y36, .int (nI mbm), .ref y37, .ref y38, .int (nI mrm_37), .int mro_38, .int mrs_39])), (y6, .inl (cI, 24, .inl MS)), (y30, .inl (cI, 9, .inl (fun zy => nI (DA1 zy)))), (y31, .inl (cI, 9, .inl (fun zy => nI (DA2 zy)))), (y37, .inl (cI, 8, .inl (fun zy => nI (RA1_40 zy)))), (y38, .inl (cI, 8, .inl (fun zy => nI (RA2_41 zy))))] H_36 := hP
        have hD : va_D A [(y8, .inl (cI, 12, .inl MU)), (y, .inr (7, [.int (nI mn), .int mtm, .int mgp, .int mlk, .ref y1, .ref y2, .ref y3, .ref y4, .int (nI mp), .ref y5, .ref y6, .ref y7, .ref y8, .ref y9, .ref y10, .ref y11, .ref y12, .ref y13, .ref y14, .ref y15, .int (nI mq), .ref y16, .ref y17, .ref y18, .ref y19, .ref y20, .ref y21, .ref y22, .ref y23, .ref y24, .ref y25, .ref y26, .ref y27, .int mhw, .int (nI mwn), .ref y28, .ref y29, .ref y30, .ref y31, .ref y32, .ref y33, .ref y34, .ref y35, .ref y36, .int (nI mbm), .ref y37, .ref y38, .int (nI mrm_37), .int mro_38, .int mrs_39])), (y6, .inl (cI, 24, .inl MS)), (y30, .inl (cI, 9, .inl (fun zy => nI (DA1 zy)))), (y31, .inl (cI, 9, .inl (fun zy => nI (DA2 zy)))), (y37, .inl (cI, 8, .inl (fun zy => nI (RA1_40 zy)))), (y38, .inl (cI, 8, .inl (fun zy => nI (RA2_41 zy))))] := hD
        have hw_35 : (mrm_37 ≤ 8) ∧ (∀ zz, RA1_40 zz ≤ 11) ∧ (∀ zz, RA2_41 zz ≤ 1) ∧ (ROI MS ln DA1 DA2 (sumO MS MU mp) (fun m => m = (((MS ((2 * (DA1 k_l)) + (DA2 k_l))) - (MS (((2 * (DA1 k_l)) + 1) - (DA2 k_l)))) / 2)) rm_l ro_v rs_v RA1_1 RA2_1 mrm_37 mro_38 mrs_39 RA1_40 RA2_41) := hw_35
        obtain ⟨hf_41_0, hf_41_1, hf_41_2, hf_41_3⟩ := hw_35
        have hf_41_0 : mrm_37 ≤ 8 := hf_41_0
        have hf_41_1 : ∀ zz, RA1_40 zz ≤ 11 := hf_41_1
        have hf_41_2 : ∀ zz, RA2_41 zz ≤ 1 := hf_41_2
        have hf_41_3 : ROI MS ln DA1 DA2 (sumO MS MU mp) (fun m => m = (((MS ((2 * (DA1 k_l)) + (DA2 k_l))) - (MS (((2 * (DA1 k_l)) + 1) - (DA2 k_l)))) / 2)) rm_l ro_v rs_v RA1_1 RA2_1 mrm_37 mro_38 mrs_39 RA1_40 RA2_41 := hf_41_3
        refine lv_aload_n hx hb d_MO_tryAll_125 rfl (lv_at hl 6 rfl) ?_
        refine lv_iload_n hx hb d_MO_tryAll_126 rfl (lv_at hl 5 rfl) ?_
        refine lv_iload hx hb d_MO_tryAll_127 (lv_at hl 2 rfl) ?_
        refine lv_iload hx hb d_MO_tryAll_129 (lv_at hl 1 rfl) ?_
        refine lv_isub hx hb d_MO_tryAll_131 ?_
        refine lv_iconst (v := 1) hx hb d_MO_tryAll_132 (by decide) ?_
        refine lv_iadd hx hb d_MO_tryAll_133 ?_
        refine lv_iconst (v := 2) hx hb d_MO_tryAll_134 (by decide) ?_
        refine lv_idiv hx hb d_MO_tryAll_135 (by decide) ?_
        refine lv_iload_n hx hb d_MO_tryAll_136 rfl (lv_at hl 4 rfl) ?_
        have hPc := hP.sub (ws' := [(y, .inr (7, [.int (nI mn), .int mtm, .int mgp, .int mlk, .ref y1, .ref y2, .ref y3, .ref y4, .int (nI mp), .ref y5, .ref y6, .ref y7, .ref y8, .ref y9, .ref y10, .ref y11, .ref y12, .ref y13, .ref y14, .ref y15, .int (nI mq), .ref y16, .ref y17, .ref y18, .ref y19, .ref y20, .ref y21, .ref y22, .ref y23, .ref y24, .ref y25, .ref y26, .ref y27, .int mhw, .int (nI mwn), .ref y28, .ref y29, .ref y30, .ref y31, .ref y32, .ref y33, .ref y34, .ref y35, .ref y36, .int (nI mbm), .ref y37, .ref y38, .int (nI mrm_37), .int mro_38, .int mrs_39])), (y6, .inl (cI, 24, .inl MS)), (y30, .inl (cI, 9, .inl (fun zy => nI (DA1 zy)))), (y31, .inl (cI, 9, .inl (fun zy => nI (DA2 zy)))), (y37, .inl (cI, 8, .inl (fun zy => nI (RA1_40 zy)))), (y38, .inl (cI, 8, .inl (fun zy => nI (RA2_41 zy))))]) [1, 2, 3, 4, 5, 6] rfl
        have hDc := hD.sub (ws' := [(y, .inr (7, [.int (nI mn), .int mtm, .int mgp, .int mlk, .ref y1, .ref y2, .ref y3, .ref y4, .int (nI mp), .ref y5, .ref y6, .ref y7, .ref y8, .ref y9, .ref y10, .ref y11, .ref y12, .ref y13, .ref y14, .ref y15, .int (nI mq), .ref y16, .ref y17, .ref y18, .ref y19, .ref y20, .ref y21, .ref y22, .ref y23, .ref y24, .ref y25, .ref y26, .ref y27, .int mhw, .int (nI mwn), .ref y28, .ref y29, .ref y30, .ref y31, .ref y32, .ref y33, .ref y34, .ref y35, .ref y36, .int (nI mbm), .ref y37, .ref y38, .int (nI mrm_37), .int mro_38, .int mrs_39])), (y6, .inl (cI, 24, .inl MS)), (y30, .inl (cI, 9, .inl (fun zy => nI (DA1 zy)))), (y31, .inl (cI, 9, .inl (fun zy => nI (DA2 zy)))), (y37, .inl (cI, 8, .inl (fun zy => nI (RA1_40 zy)))), (y38, .inl (cI, 8, .inl (fun zy => nI (RA2_41 zy))))]) [1, 2, 3, 4, 5, 6] (by decide +kernel) rfl
        have hFc := va_free (wc := [(y, .inr (7, [.int (nI mn), .int mtm, .int mgp, .int mlk, .ref y1, .ref y2, .ref y3, .ref y4, .int (nI mp), .ref y5, .ref y6, .ref y7, .ref y8, .ref y9, .ref y10, .ref y11, .ref y12, .ref y13, .ref y14, .ref y15, .int (nI mq), .ref y16, .ref y17, .ref y18, .ref y19, .ref y20, .ref y21, .ref y22, .ref y23, .ref y24, .ref y25, .ref y26, .ref y27, .int mhw, .int (nI mwn), .ref y28, .ref y29, .ref y30, .ref y31, .ref y32, .ref y33, .ref y34, .ref y35, .ref y36, .int (nI mbm), .ref y37, .ref y38, .int (nI mrm_37), .int mro_38, .int mrs_39])), (y6, .inl (cI, 24, .inl MS)), (y30, .inl (cI, 9, .inl (fun zy => nI (DA1 zy)))), (y31, .inl (cI, 9, .inl (fun zy => nI (DA2 zy)))), (y37, .inl (cI, 8, .inl (fun zy => nI (RA1_40 zy)))), (y38, .inl (cI, 8, .inl (fun zy => nI (RA2_41 zy))))]) hD hS hA [1, 2, 3, 4, 5, 6] rfl
        refine va_callv (va_runV (As := [.int (nI ln), .int ((((MS ((2 * (DA1 k_l)) + (DA2 k_l))) - (MS (((2 * (DA1 k_l)) + 1) - (DA2 k_l)))) + 1) / 2), .int (sumO MS MU mp)]) (rest := []) ⟨hx, hb, hml, hown, hts⟩ (e_MO_tryRing l D cI cZ y ln ((((MS ((2 * (DA1 k_l)) + (DA2 k_l))) - (MS (((2 * (DA1 k_l)) + 1) - (DA2 k_l)))) + 1) / 2) (sumO MS MU mp) mn mtm mgp mlk y1 y2 y3 y4 mp y5 y6 y7 y8 y9 y10 y11 y12 y13 y14 y15 mq y16 y17 y18 y19 y20 y21 y22 y23 y24 y25 y26 y27 mhw mwn y28 y29 y30 y31 y32 y33 y34 y35 y36 mbm y37 y38 mrm_37 mro_38 mrs_39 MS DA1 DA2 RA1_40 RA2_41 H_36.size h_mn h_mp h_mq h_mwn h_mbm hf_41_0 h_DA1 h_DA2 hf_41_1 hf_41_2 hln hln1) (my_cwV 3 hts q_958 q_955 q_957 q_p26 q_8 rfl rfl (by decide +kernel) ⟨Nat.le_of_ble_eq_true rfl, Nat.le_of_ble_eq_true rfl⟩) (my_preV hPc hDc hK hN 7 0 rfl rfl) rfl rfl hl.1 rfl (lv_room (Nat.le_of_ble_eq_true rfl)) d_MO_tryAll_137 ⟨Nat.le_of_ble_eq_true rfl, Nat.le_of_ble_eq_true rfl⟩) hS (fun q _ h => hFc q h) hFc (fun uU tT H_43 locs ht hvm hw_42 hB hz1 hk1 hS => ?_)
        obtain ⟨mrm_44, mro_45, mrs_46, RA1_47, RA2_48⟩ := uU
        obtain ⟨hP1, hD1⟩ := hB
        rw [ht] at hP1
        obtain ⟨hP, hD⟩ := va_join (wr := [(y8, .inl (cI, 12, .inl MU))]) (w1 := [(y, .inr (7, [.int (nI mn), .int mtm, .int mgp, .int mlk, .ref y1, .ref y2, .ref y3, .ref y4, .int (nI mp), .ref y5, .ref y6, .ref y7, .ref y8, .ref y9, .ref y10, .ref y11, .ref y12, .ref y13, .ref y14, .ref y15, .int (nI mq), .ref y16, .ref y17, .ref y18, .ref y19, .ref y20, .ref y21, .ref y22, .ref y23, .ref y24, .ref y25, .ref y26, .ref y27, .int mhw, .int (nI mwn), .ref y28, .ref y29, .ref y30, .ref y31, .ref y32, .ref y33, .ref y34, .ref y35, .ref y36, .int (nI mbm), .ref y37, .ref y38, .int (nI mrm_44), .int mro_45, .int mrs_46])), (y6, .inl (cI, 24, .inl MS)), (y30, .inl (cI, 9, .inl (fun zy => nI (DA1 zy)))), (y31, .inl (cI, 9, .inl (fun zy => nI (DA2 zy)))), (y37, .inl (cI, 8, .inl (fun zy => nI (RA1_47 zy)))), (y38, .inl (cI, 8, .inl (fun zy => nI (RA2_48 zy))))]) hP hD [1, 2, 3, 4, 5, 6] [0] rfl rfl (by decide +kernel) (by decide +kernel) hk1 hFc hP1 hD1
        have hP : va_P D vwCl [(y8, .inl (cI, 12, .inl MU)), (y, .inr (7, [.int (nI mn), .int mtm, .int mgp, .int mlk, .ref y1, .ref y2, .ref y3, .ref y4, .int (nI mp), .ref y5, .ref y6, .ref y7, .ref y8, .ref y9, .ref y10, .ref y11, .ref y12, .ref y13, .ref y14, .ref y15, .int (nI mq), .ref y16, .ref y17, .ref y18, .ref y19, .ref y20, .ref y21, .ref y22, .ref y23, .ref y24, .ref y25, .ref y26, .ref y27, .int mhw, .int (nI mwn), .ref y28, .ref y29, .ref y30, .ref y31, .ref y32, .ref y33, .ref y34, .ref y35, .ref y36, .int (nI mbm), .ref y37, .ref y38, .int (nI mrm_44), .int mro_45, .int mrs_46])), (y6, .inl (cI, 24, .inl MS)), (y30, .inl (cI, 9, .inl (fun zy => nI (DA1 zy)))), (y31, .inl (cI, 9, .inl (fun zy => nI (DA2 zy)))), (y37, .inl (cI, 8, .inl (fun zy => nI (RA1_47 zy)))), (y38, .inl (cI, 8, .inl (fun zy => nI (RA2_48 zy))))] H_43 := hP
        have hD : va_D A [(y8, .inl (cI, 12, .inl MU)), (y, .inr (7, [.int (nI mn), .int mtm, .int mgp, .int mlk, .ref y1, .ref y2, .ref y3, .ref y4, .int (nI mp), .ref y5, .ref y6, .ref y7, .ref y8, .ref y9, .ref y10, .ref y11, .ref y12, .ref y13, .ref y14, .ref y15, .int (nI mq), .ref y16, .ref y17, .ref y18, .ref y19, .ref y20, .ref y21, .ref y22, .ref y23, .ref y24, .ref y25, .ref y26, .ref y27, .int mhw, .int (nI mwn), .ref y28, .ref y29, .ref y30, .ref y31, .ref y32, .ref y33, .ref y34, .ref y35, .ref y36, .int (nI mbm), .ref y37, .ref y38, .int (nI mrm_44), .int mro_45, .int mrs_46])), (y6, .inl (cI, 24, .inl MS)), (y30, .inl (cI, 9, .inl (fun zy => nI (DA1 zy)))), (y31, .inl (cI, 9, .inl (fun zy => nI (DA2 zy)))), (y37, .inl (cI, 8, .inl (fun zy => nI (RA1_47 zy)))), (y38, .inl (cI, 8, .inl (fun zy => nI (RA2_48 zy))))] := hD
        have hw_42 : (mrm_44 ≤ 8) ∧ (∀ zz, RA1_47 zz ≤ 11) ∧ (∀ zz, RA2_48 zz ≤ 1) ∧ (ROI MS ln DA1 DA2 (sumO MS MU mp) (fun m => m = ((((MS ((2 * (DA1 k_l)) + (DA2 k_l))) - (MS (((2 * (DA1 k_l)) + 1) - (DA2 k_l)))) + 1) / 2)) mrm_37 mro_38 mrs_39 RA1_40 RA2_41 mrm_44 mro_45 mrs_46 RA1_47 RA2_48) := hw_42
        obtain ⟨hf_48_0, hf_48_1, hf_48_2, hf_48_3⟩ := hw_42
        have hf_48_0 : mrm_44 ≤ 8 := hf_48_0
        have hf_48_1 : ∀ zz, RA1_47 zz ≤ 11 := hf_48_1
        have hf_48_2 : ∀ zz, RA2_48 zz ≤ 1 := hf_48_2
        have hf_48_3 : ROI MS ln DA1 DA2 (sumO MS MU mp) (fun m => m = ((((MS ((2 * (DA1 k_l)) + (DA2 k_l))) - (MS (((2 * (DA1 k_l)) + 1) - (DA2 k_l)))) + 1) / 2)) mrm_37 mro_38 mrs_39 RA1_40 RA2_41 mrm_44 mro_45 mrs_46 RA1_47 RA2_48 := hf_48_3
        refine lv_iinc (v := nI (k_l + 1)) (lv' := [(4, .int (nI (k_l + 1))), (3, .int (MS ((2 * (DA1 k_l)) + (DA2 k_l)))), (6, .int (MS (((2 * (DA1 k_l)) + 1) - (DA2 k_l)))), (5, .int (MS ((2 * (DA1 k_l)) + (DA2 k_l)))), (2, .int (sumO MS MU mp)), (1, .int (nI ln)), (0, .ref y)]) hx hb d_MO_tryAll_140 hl (k := 3) rfl (nI_1 k_l) (by decide) rfl (fun ls hl => ?_)
        refine lv_goto (tgt := 36) hx hb d_MO_tryAll_143 (by decide) ?_
        have hPz := hP.sub (ws' := [(y8, .inl (cI, 12, .inl MU)), (y, .inr (7, [.int (nI mn), .int mtm, .int mgp, .int mlk, .ref y1, .ref y2, .ref y3, .ref y4, .int (nI mp), .ref y5, .ref y6, .ref y7, .ref y8, .ref y9, .ref y10, .ref y11, .ref y12, .ref y13, .ref y14, .ref y15, .int (nI mq), .ref y16, .ref y17, .ref y18, .ref y19, .ref y20, .ref y21, .ref y22, .ref y23, .ref y24, .ref y25, .ref y26, .ref y27, .int mhw, .int (nI mwn), .ref y28, .ref y29, .ref y30, .ref y31, .ref y32, .ref y33, .ref y34, .ref y35, .ref y36, .int (nI mbm), .ref y37, .ref y38, .int (nI mrm_44), .int mro_45, .int mrs_46])), (y6, .inl (cI, 24, .inl MS)), (y30, .inl (cI, 9, .inl (fun zy => nI (DA1 zy)))), (y31, .inl (cI, 9, .inl (fun zy => nI (DA2 zy)))), (y37, .inl (cI, 8, .inl (fun zy => nI (RA1_47 zy)))), (y38, .inl (cI, 8, .inl (fun zy => nI (RA2_48 zy))))]) [0, 1, 2, 3, 4, 5, 6] rfl
        have hDz := hD.sub (ws' := [(y8, .inl (cI, 12, .inl MU)), (y, .inr (7, [.int (nI mn), .int mtm, .int mgp, .int mlk, .ref y1, .ref y2, .ref y3, .ref y4, .int (nI mp), .ref y5, .ref y6, .ref y7, .ref y8, .ref y9, .ref y10, .ref y11, .ref y12, .ref y13, .ref y14, .ref y15, .int (nI mq), .ref y16, .ref y17, .ref y18, .ref y19, .ref y20, .ref y21, .ref y22, .ref y23, .ref y24, .ref y25, .ref y26, .ref y27, .int mhw, .int (nI mwn), .ref y28, .ref y29, .ref y30, .ref y31, .ref y32, .ref y33, .ref y34, .ref y35, .ref y36, .int (nI mbm), .ref y37, .ref y38, .int (nI mrm_44), .int mro_45, .int mrs_46])), (y6, .inl (cI, 24, .inl MS)), (y30, .inl (cI, 9, .inl (fun zy => nI (DA1 zy)))), (y31, .inl (cI, 9, .inl (fun zy => nI (DA2 zy)))), (y37, .inl (cI, 8, .inl (fun zy => nI (RA1_47 zy)))), (y38, .inl (cI, 8, .inl (fun zy => nI (RA2_48 zy))))]) [0, 1, 2, 3, 4, 5, 6] (by decide) rfl
        exact ih1 ((k_l + 1), (MS ((2 * (DA1 k_l)) + (DA2 k_l))), mrm_44, mro_45, mrs_46, RA1_47, RA2_48) _ _ _ (by first | omega | (dsimp only; omega)) ⟨hf_48_1, hf_48_2, (by first | omega | (dsimp only; omega)), hf_48_0, (by show _ = mnI (lmS MS (pfx DA1 DA2) k_l) (MS (pfx DA1 DA2 k_l)); rw [← hmo]; unfold mnI pfx; rw [if_pos (Int32.not_le.mp h_18)]), (ROI_C (fun m hm => by have h9 := mCd_y m hm; rw [← df_of (h_DA2 _)] at h9; exact h9) (ROI_seq (ROI_seq hro hf_41_3) hf_48_3)), hPz, hDz, hS, lv_sub hl [0, 1, 4, 5, 6] rfl⟩
