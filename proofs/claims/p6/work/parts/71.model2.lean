theorem oabs_m (v : Int32) : oabs v = if v < 0 then -v else v := by
  unfold oabs
  by_cases h : v < 0
  · rw [if_pos h, if_neg (Int32.not_le.mpr h), Int32.zero_sub]
  · rw [if_neg h, if_pos (Int32.not_lt.mp h)]
theorem sumO_ym {SI PH : Nat → Int32} {n : Nat} {x : Int32} (h : x = sumO SI PH n) (hp : PH n = 0) : x + oabs (SI (2 * n) - SI (2 * n + 1)) = sumO SI PH (n + 1) := by
  unfold sumO
  rw [if_pos hp, ← h]
theorem sumO_nm {SI PH : Nat → Int32} {n : Nat} {x : Int32} (h : x = sumO SI PH n) (hp : ¬ PH n = 0) : x + 0 = sumO SI PH (n + 1) := by
  unfold sumO
  rw [if_neg hp, ← h]
theorem gd_MO_isPerson_0 : (decode prog_9_method_4_code 0 = .ok (.iload_n 1, 1)) ∧ (decode prog_9_method_4_code 1 = .ok (.iconst 0, 1)) ∧ (decode prog_9_method_4_code 2 = .ok (.aload_n 0, 1)) ∧ (decode prog_9_method_4_code 3 = .ok (.getfield 7, 3)) ∧ (decode prog_9_method_4_code 6 = .ok (.iconst 1, 1)) ∧ (decode prog_9_method_4_code 7 = .ok (.isub, 1)) ∧ (decode prog_9_method_4_code 8 = .ok (.invokestatic 135, 3)) ∧ (decode prog_9_method_4_code 11 = .ok (.ireturn, 1)) := by decide +kernel
theorem d_MO_isPerson_0 : decode prog_9_method_4_code 0 = .ok (.iload_n 1, 1) := gd_MO_isPerson_0.1
theorem d_MO_isPerson_1 : decode prog_9_method_4_code 1 = .ok (.iconst 0, 1) := gd_MO_isPerson_0.2.1
theorem d_MO_isPerson_2 : decode prog_9_method_4_code 2 = .ok (.aload_n 0, 1) := gd_MO_isPerson_0.2.2.1
theorem d_MO_isPerson_3 : decode prog_9_method_4_code 3 = .ok (.getfield 7, 3) := gd_MO_isPerson_0.2.2.2.1
theorem d_MO_isPerson_6 : decode prog_9_method_4_code 6 = .ok (.iconst 1, 1) := gd_MO_isPerson_0.2.2.2.2.1
theorem d_MO_isPerson_7 : decode prog_9_method_4_code 7 = .ok (.isub, 1) := gd_MO_isPerson_0.2.2.2.2.2.1
theorem d_MO_isPerson_8 : decode prog_9_method_4_code 8 = .ok (.invokestatic 135, 3) := gd_MO_isPerson_0.2.2.2.2.2.2.1
theorem d_MO_isPerson_11 : decode prog_9_method_4_code 11 = .ok (.ireturn, 1) := gd_MO_isPerson_0.2.2.2.2.2.2.2
theorem gd_MO_isPair_0 : (decode prog_9_method_5_code 0 = .ok (.iload_n 1, 1)) ∧ (decode prog_9_method_5_code 1 = .ok (.iconst 0, 1)) ∧ (decode prog_9_method_5_code 2 = .ok (.aload_n 0, 1)) ∧ (decode prog_9_method_5_code 3 = .ok (.getfield 139, 3)) ∧ (decode prog_9_method_5_code 6 = .ok (.iconst 1, 1)) ∧ (decode prog_9_method_5_code 7 = .ok (.isub, 1)) ∧ (decode prog_9_method_5_code 8 = .ok (.invokestatic 135, 3)) ∧ (decode prog_9_method_5_code 11 = .ok (.ireturn, 1)) := by decide +kernel
theorem d_MO_isPair_0 : decode prog_9_method_5_code 0 = .ok (.iload_n 1, 1) := gd_MO_isPair_0.1
theorem d_MO_isPair_1 : decode prog_9_method_5_code 1 = .ok (.iconst 0, 1) := gd_MO_isPair_0.2.1
theorem d_MO_isPair_2 : decode prog_9_method_5_code 2 = .ok (.aload_n 0, 1) := gd_MO_isPair_0.2.2.1
theorem d_MO_isPair_3 : decode prog_9_method_5_code 3 = .ok (.getfield 139, 3) := gd_MO_isPair_0.2.2.2.1
theorem d_MO_isPair_6 : decode prog_9_method_5_code 6 = .ok (.iconst 1, 1) := gd_MO_isPair_0.2.2.2.2.1
theorem d_MO_isPair_7 : decode prog_9_method_5_code 7 = .ok (.isub, 1) := gd_MO_isPair_0.2.2.2.2.2.1
theorem d_MO_isPair_8 : decode prog_9_method_5_code 8 = .ok (.invokestatic 135, 3) := gd_MO_isPair_0.2.2.2.2.2.2.1
theorem d_MO_isPair_11 : decode prog_9_method_5_code 11 = .ok (.ireturn, 1) := gd_MO_isPair_0.2.2.2.2.2.2.2
theorem gd_MO_keepState_0 : (decode prog_9_method_8_code 0 = .ok (.aload_n 0, 1)) ∧ (decode prog_9_method_8_code 1 = .ok (.getfield 57, 3)) ∧ (decode prog_9_method_8_code 4 = .ok (.iload_n 1, 1)) ∧ (decode prog_9_method_8_code 5 = .ok (.iaload, 1)) ∧ (decode prog_9_method_8_code 6 = .ok (.bipush 64, 2)) ∧ (decode prog_9_method_8_code 8 = .ok (.if_icmp .ge 12, 3)) ∧ (decode prog_9_method_8_code 20 = .ok (.bipush 63, 2)) ∧ (decode prog_9_method_8_code 22 = .ok (.istore_n 2, 1)) ∧ (decode prog_9_method_8_code 23 = .ok (.aload_n 0, 1)) ∧ (decode prog_9_method_8_code 24 = .ok (.getfield 54, 3)) := by decide +kernel
theorem d_MO_keepState_0 : decode prog_9_method_8_code 0 = .ok (.aload_n 0, 1) := gd_MO_keepState_0.1
theorem d_MO_keepState_1 : decode prog_9_method_8_code 1 = .ok (.getfield 57, 3) := gd_MO_keepState_0.2.1
theorem d_MO_keepState_4 : decode prog_9_method_8_code 4 = .ok (.iload_n 1, 1) := gd_MO_keepState_0.2.2.1
theorem d_MO_keepState_5 : decode prog_9_method_8_code 5 = .ok (.iaload, 1) := gd_MO_keepState_0.2.2.2.1
theorem d_MO_keepState_6 : decode prog_9_method_8_code 6 = .ok (.bipush 64, 2) := gd_MO_keepState_0.2.2.2.2.1
theorem d_MO_keepState_8 : decode prog_9_method_8_code 8 = .ok (.if_icmp .ge 12, 3) := gd_MO_keepState_0.2.2.2.2.2.1
theorem d_MO_keepState_20 : decode prog_9_method_8_code 20 = .ok (.bipush 63, 2) := gd_MO_keepState_0.2.2.2.2.2.2.1
theorem d_MO_keepState_22 : decode prog_9_method_8_code 22 = .ok (.istore_n 2, 1) := gd_MO_keepState_0.2.2.2.2.2.2.2.1
theorem d_MO_keepState_23 : decode prog_9_method_8_code 23 = .ok (.aload_n 0, 1) := gd_MO_keepState_0.2.2.2.2.2.2.2.2.1
theorem d_MO_keepState_24 : decode prog_9_method_8_code 24 = .ok (.getfield 54, 3) := gd_MO_keepState_0.2.2.2.2.2.2.2.2.2
theorem gd_MO_keepState_27 : (decode prog_9_method_8_code 27 = .ok (.sipush 128, 3)) ∧ (decode prog_9_method_8_code 30 = .ok (.iload_n 1, 1)) ∧ (decode prog_9_method_8_code 31 = .ok (.imul, 1)) ∧ (decode prog_9_method_8_code 32 = .ok (.iconst 2, 1)) ∧ (decode prog_9_method_8_code 33 = .ok (.iload_n 2, 1)) ∧ (decode prog_9_method_8_code 34 = .ok (.imul, 1)) ∧ (decode prog_9_method_8_code 35 = .ok (.iadd, 1)) ∧ (decode prog_9_method_8_code 36 = .ok (.aload_n 0, 1)) ∧ (decode prog_9_method_8_code 37 = .ok (.getfield 36, 3)) ∧ (decode prog_9_method_8_code 40 = .ok (.iconst 2, 1)) := by decide +kernel
theorem d_MO_keepState_27 : decode prog_9_method_8_code 27 = .ok (.sipush 128, 3) := gd_MO_keepState_27.1
theorem d_MO_keepState_30 : decode prog_9_method_8_code 30 = .ok (.iload_n 1, 1) := gd_MO_keepState_27.2.1
theorem d_MO_keepState_31 : decode prog_9_method_8_code 31 = .ok (.imul, 1) := gd_MO_keepState_27.2.2.1
theorem d_MO_keepState_32 : decode prog_9_method_8_code 32 = .ok (.iconst 2, 1) := gd_MO_keepState_27.2.2.2.1
theorem d_MO_keepState_33 : decode prog_9_method_8_code 33 = .ok (.iload_n 2, 1) := gd_MO_keepState_27.2.2.2.2.1
theorem d_MO_keepState_34 : decode prog_9_method_8_code 34 = .ok (.imul, 1) := gd_MO_keepState_27.2.2.2.2.2.1
theorem d_MO_keepState_35 : decode prog_9_method_8_code 35 = .ok (.iadd, 1) := gd_MO_keepState_27.2.2.2.2.2.2.1
theorem d_MO_keepState_36 : decode prog_9_method_8_code 36 = .ok (.aload_n 0, 1) := gd_MO_keepState_27.2.2.2.2.2.2.2.1
theorem d_MO_keepState_37 : decode prog_9_method_8_code 37 = .ok (.getfield 36, 3) := gd_MO_keepState_27.2.2.2.2.2.2.2.2.1
theorem d_MO_keepState_40 : decode prog_9_method_8_code 40 = .ok (.iconst 2, 1) := gd_MO_keepState_27.2.2.2.2.2.2.2.2.2
theorem gd_MO_keepState_41 : (decode prog_9_method_8_code 41 = .ok (.iload_n 1, 1)) ∧ (decode prog_9_method_8_code 42 = .ok (.imul, 1)) ∧ (decode prog_9_method_8_code 43 = .ok (.iaload, 1)) ∧ (decode prog_9_method_8_code 44 = .ok (.aload_n 0, 1)) ∧ (decode prog_9_method_8_code 45 = .ok (.getfield 39, 3)) ∧ (decode prog_9_method_8_code 48 = .ok (.iconst 2, 1)) ∧ (decode prog_9_method_8_code 49 = .ok (.iload_n 1, 1)) ∧ (decode prog_9_method_8_code 50 = .ok (.imul, 1)) ∧ (decode prog_9_method_8_code 51 = .ok (.iaload, 1)) ∧ (decode prog_9_method_8_code 52 = .ok (.iadd, 1)) := by decide +kernel
theorem d_MO_keepState_41 : decode prog_9_method_8_code 41 = .ok (.iload_n 1, 1) := gd_MO_keepState_41.1
theorem d_MO_keepState_42 : decode prog_9_method_8_code 42 = .ok (.imul, 1) := gd_MO_keepState_41.2.1
theorem d_MO_keepState_43 : decode prog_9_method_8_code 43 = .ok (.iaload, 1) := gd_MO_keepState_41.2.2.1
theorem d_MO_keepState_44 : decode prog_9_method_8_code 44 = .ok (.aload_n 0, 1) := gd_MO_keepState_41.2.2.2.1
theorem d_MO_keepState_45 : decode prog_9_method_8_code 45 = .ok (.getfield 39, 3) := gd_MO_keepState_41.2.2.2.2.1
theorem d_MO_keepState_48 : decode prog_9_method_8_code 48 = .ok (.iconst 2, 1) := gd_MO_keepState_41.2.2.2.2.2.1
theorem d_MO_keepState_49 : decode prog_9_method_8_code 49 = .ok (.iload_n 1, 1) := gd_MO_keepState_41.2.2.2.2.2.2.1
theorem d_MO_keepState_50 : decode prog_9_method_8_code 50 = .ok (.imul, 1) := gd_MO_keepState_41.2.2.2.2.2.2.2.1
theorem d_MO_keepState_51 : decode prog_9_method_8_code 51 = .ok (.iaload, 1) := gd_MO_keepState_41.2.2.2.2.2.2.2.2.1
theorem d_MO_keepState_52 : decode prog_9_method_8_code 52 = .ok (.iadd, 1) := gd_MO_keepState_41.2.2.2.2.2.2.2.2.2
theorem gd_MO_keepState_53 : (decode prog_9_method_8_code 53 = .ok (.iastore, 1)) ∧ (decode prog_9_method_8_code 54 = .ok (.aload_n 0, 1)) ∧ (decode prog_9_method_8_code 55 = .ok (.getfield 54, 3)) ∧ (decode prog_9_method_8_code 58 = .ok (.sipush 128, 3)) ∧ (decode prog_9_method_8_code 61 = .ok (.iload_n 1, 1)) ∧ (decode prog_9_method_8_code 62 = .ok (.imul, 1)) ∧ (decode prog_9_method_8_code 63 = .ok (.iconst 2, 1)) ∧ (decode prog_9_method_8_code 64 = .ok (.iload_n 2, 1)) ∧ (decode prog_9_method_8_code 65 = .ok (.imul, 1)) ∧ (decode prog_9_method_8_code 66 = .ok (.iadd, 1)) := by decide +kernel
theorem d_MO_keepState_53 : decode prog_9_method_8_code 53 = .ok (.iastore, 1) := gd_MO_keepState_53.1
theorem d_MO_keepState_54 : decode prog_9_method_8_code 54 = .ok (.aload_n 0, 1) := gd_MO_keepState_53.2.1
theorem d_MO_keepState_55 : decode prog_9_method_8_code 55 = .ok (.getfield 54, 3) := gd_MO_keepState_53.2.2.1
theorem d_MO_keepState_58 : decode prog_9_method_8_code 58 = .ok (.sipush 128, 3) := gd_MO_keepState_53.2.2.2.1
theorem d_MO_keepState_61 : decode prog_9_method_8_code 61 = .ok (.iload_n 1, 1) := gd_MO_keepState_53.2.2.2.2.1
theorem d_MO_keepState_62 : decode prog_9_method_8_code 62 = .ok (.imul, 1) := gd_MO_keepState_53.2.2.2.2.2.1
theorem d_MO_keepState_63 : decode prog_9_method_8_code 63 = .ok (.iconst 2, 1) := gd_MO_keepState_53.2.2.2.2.2.2.1
theorem d_MO_keepState_64 : decode prog_9_method_8_code 64 = .ok (.iload_n 2, 1) := gd_MO_keepState_53.2.2.2.2.2.2.2.1
theorem d_MO_keepState_65 : decode prog_9_method_8_code 65 = .ok (.imul, 1) := gd_MO_keepState_53.2.2.2.2.2.2.2.2.1
theorem d_MO_keepState_66 : decode prog_9_method_8_code 66 = .ok (.iadd, 1) := gd_MO_keepState_53.2.2.2.2.2.2.2.2.2
theorem gd_MO_keepState_67 : (decode prog_9_method_8_code 67 = .ok (.iconst 1, 1)) ∧ (decode prog_9_method_8_code 68 = .ok (.iadd, 1)) ∧ (decode prog_9_method_8_code 69 = .ok (.aload_n 0, 1)) ∧ (decode prog_9_method_8_code 70 = .ok (.getfield 36, 3)) ∧ (decode prog_9_method_8_code 73 = .ok (.iconst 2, 1)) ∧ (decode prog_9_method_8_code 74 = .ok (.iload_n 1, 1)) ∧ (decode prog_9_method_8_code 75 = .ok (.imul, 1)) ∧ (decode prog_9_method_8_code 76 = .ok (.iconst 1, 1)) ∧ (decode prog_9_method_8_code 77 = .ok (.iadd, 1)) ∧ (decode prog_9_method_8_code 78 = .ok (.iaload, 1)) := by decide +kernel
theorem d_MO_keepState_67 : decode prog_9_method_8_code 67 = .ok (.iconst 1, 1) := gd_MO_keepState_67.1
theorem d_MO_keepState_68 : decode prog_9_method_8_code 68 = .ok (.iadd, 1) := gd_MO_keepState_67.2.1
theorem d_MO_keepState_69 : decode prog_9_method_8_code 69 = .ok (.aload_n 0, 1) := gd_MO_keepState_67.2.2.1
theorem d_MO_keepState_70 : decode prog_9_method_8_code 70 = .ok (.getfield 36, 3) := gd_MO_keepState_67.2.2.2.1
theorem d_MO_keepState_73 : decode prog_9_method_8_code 73 = .ok (.iconst 2, 1) := gd_MO_keepState_67.2.2.2.2.1
theorem d_MO_keepState_74 : decode prog_9_method_8_code 74 = .ok (.iload_n 1, 1) := gd_MO_keepState_67.2.2.2.2.2.1
theorem d_MO_keepState_75 : decode prog_9_method_8_code 75 = .ok (.imul, 1) := gd_MO_keepState_67.2.2.2.2.2.2.1
theorem d_MO_keepState_76 : decode prog_9_method_8_code 76 = .ok (.iconst 1, 1) := gd_MO_keepState_67.2.2.2.2.2.2.2.1
theorem d_MO_keepState_77 : decode prog_9_method_8_code 77 = .ok (.iadd, 1) := gd_MO_keepState_67.2.2.2.2.2.2.2.2.1
theorem d_MO_keepState_78 : decode prog_9_method_8_code 78 = .ok (.iaload, 1) := gd_MO_keepState_67.2.2.2.2.2.2.2.2.2
theorem gd_MO_keepState_79 : (decode prog_9_method_8_code 79 = .ok (.aload_n 0, 1)) ∧ (decode prog_9_method_8_code 80 = .ok (.getfield 39, 3)) ∧ (decode prog_9_method_8_code 83 = .ok (.iconst 2, 1)) ∧ (decode prog_9_method_8_code 84 = .ok (.iload_n 1, 1)) ∧ (decode prog_9_method_8_code 85 = .ok (.imul, 1)) ∧ (decode prog_9_method_8_code 86 = .ok (.iconst 1, 1)) ∧ (decode prog_9_method_8_code 87 = .ok (.iadd, 1)) ∧ (decode prog_9_method_8_code 88 = .ok (.iaload, 1)) ∧ (decode prog_9_method_8_code 89 = .ok (.iadd, 1)) ∧ (decode prog_9_method_8_code 90 = .ok (.iastore, 1)) := by decide +kernel
theorem d_MO_keepState_79 : decode prog_9_method_8_code 79 = .ok (.aload_n 0, 1) := gd_MO_keepState_79.1
theorem d_MO_keepState_80 : decode prog_9_method_8_code 80 = .ok (.getfield 39, 3) := gd_MO_keepState_79.2.1
theorem d_MO_keepState_83 : decode prog_9_method_8_code 83 = .ok (.iconst 2, 1) := gd_MO_keepState_79.2.2.1
theorem d_MO_keepState_84 : decode prog_9_method_8_code 84 = .ok (.iload_n 1, 1) := gd_MO_keepState_79.2.2.2.1
theorem d_MO_keepState_85 : decode prog_9_method_8_code 85 = .ok (.imul, 1) := gd_MO_keepState_79.2.2.2.2.1
theorem d_MO_keepState_86 : decode prog_9_method_8_code 86 = .ok (.iconst 1, 1) := gd_MO_keepState_79.2.2.2.2.2.1
theorem d_MO_keepState_87 : decode prog_9_method_8_code 87 = .ok (.iadd, 1) := gd_MO_keepState_79.2.2.2.2.2.2.1
theorem d_MO_keepState_88 : decode prog_9_method_8_code 88 = .ok (.iaload, 1) := gd_MO_keepState_79.2.2.2.2.2.2.2.1
theorem d_MO_keepState_89 : decode prog_9_method_8_code 89 = .ok (.iadd, 1) := gd_MO_keepState_79.2.2.2.2.2.2.2.2.1
theorem d_MO_keepState_90 : decode prog_9_method_8_code 90 = .ok (.iastore, 1) := gd_MO_keepState_79.2.2.2.2.2.2.2.2.2
theorem gd_MO_keepState_91 : (decode prog_9_method_8_code 91 = .ok (.aload_n 0, 1)) ∧ (decode prog_9_method_8_code 92 = .ok (.getfield 57, 3)) ∧ (decode prog_9_method_8_code 95 = .ok (.iload_n 1, 1)) ∧ (decode prog_9_method_8_code 96 = .ok (.iload_n 2, 1)) ∧ (decode prog_9_method_8_code 97 = .ok (.iconst 1, 1)) ∧ (decode prog_9_method_8_code 98 = .ok (.iadd, 1)) ∧ (decode prog_9_method_8_code 99 = .ok (.iastore, 1)) ∧ (decode prog_9_method_8_code 100 = .ok (.return_, 1)) ∧ (decode prog_9_method_8_code 11 = .ok (.aload_n 0, 1)) ∧ (decode prog_9_method_8_code 12 = .ok (.getfield 57, 3)) := by decide +kernel
theorem d_MO_keepState_91 : decode prog_9_method_8_code 91 = .ok (.aload_n 0, 1) := gd_MO_keepState_91.1
theorem d_MO_keepState_92 : decode prog_9_method_8_code 92 = .ok (.getfield 57, 3) := gd_MO_keepState_91.2.1
theorem d_MO_keepState_95 : decode prog_9_method_8_code 95 = .ok (.iload_n 1, 1) := gd_MO_keepState_91.2.2.1
theorem d_MO_keepState_96 : decode prog_9_method_8_code 96 = .ok (.iload_n 2, 1) := gd_MO_keepState_91.2.2.2.1
theorem d_MO_keepState_97 : decode prog_9_method_8_code 97 = .ok (.iconst 1, 1) := gd_MO_keepState_91.2.2.2.2.1
theorem d_MO_keepState_98 : decode prog_9_method_8_code 98 = .ok (.iadd, 1) := gd_MO_keepState_91.2.2.2.2.2.1
theorem d_MO_keepState_99 : decode prog_9_method_8_code 99 = .ok (.iastore, 1) := gd_MO_keepState_91.2.2.2.2.2.2.1
theorem d_MO_keepState_100 : decode prog_9_method_8_code 100 = .ok (.return_, 1) := gd_MO_keepState_91.2.2.2.2.2.2.2.1
theorem d_MO_keepState_11 : decode prog_9_method_8_code 11 = .ok (.aload_n 0, 1) := gd_MO_keepState_91.2.2.2.2.2.2.2.2.1
theorem d_MO_keepState_12 : decode prog_9_method_8_code 12 = .ok (.getfield 57, 3) := gd_MO_keepState_91.2.2.2.2.2.2.2.2.2
theorem gd_MO_keepState_15 : (decode prog_9_method_8_code 15 = .ok (.iload_n 1, 1)) ∧ (decode prog_9_method_8_code 16 = .ok (.iaload, 1)) ∧ (decode prog_9_method_8_code 17 = .ok (.goto 5, 3)) := by decide +kernel
theorem d_MO_keepState_15 : decode prog_9_method_8_code 15 = .ok (.iload_n 1, 1) := gd_MO_keepState_15.1
theorem d_MO_keepState_16 : decode prog_9_method_8_code 16 = .ok (.iaload, 1) := gd_MO_keepState_15.2.1
theorem d_MO_keepState_17 : decode prog_9_method_8_code 17 = .ok (.goto 5, 3) := gd_MO_keepState_15.2.2
theorem gd_MO_forget_0 : (decode prog_9_method_9_code 0 = .ok (.aload_n 0, 1)) ∧ (decode prog_9_method_9_code 1 = .ok (.getfield 60, 3)) ∧ (decode prog_9_method_9_code 4 = .ok (.iload_n 1, 1)) ∧ (decode prog_9_method_9_code 5 = .ok (.iconst 0, 1)) ∧ (decode prog_9_method_9_code 6 = .ok (.iastore, 1)) ∧ (decode prog_9_method_9_code 7 = .ok (.aload_n 0, 1)) ∧ (decode prog_9_method_9_code 8 = .ok (.getfield 63, 3)) ∧ (decode prog_9_method_9_code 11 = .ok (.iload_n 1, 1)) ∧ (decode prog_9_method_9_code 12 = .ok (.aload_n 0, 1)) ∧ (decode prog_9_method_9_code 13 = .ok (.getfield 36, 3)) := by decide +kernel
theorem d_MO_forget_0 : decode prog_9_method_9_code 0 = .ok (.aload_n 0, 1) := gd_MO_forget_0.1
theorem d_MO_forget_1 : decode prog_9_method_9_code 1 = .ok (.getfield 60, 3) := gd_MO_forget_0.2.1
theorem d_MO_forget_4 : decode prog_9_method_9_code 4 = .ok (.iload_n 1, 1) := gd_MO_forget_0.2.2.1
theorem d_MO_forget_5 : decode prog_9_method_9_code 5 = .ok (.iconst 0, 1) := gd_MO_forget_0.2.2.2.1
theorem d_MO_forget_6 : decode prog_9_method_9_code 6 = .ok (.iastore, 1) := gd_MO_forget_0.2.2.2.2.1
theorem d_MO_forget_7 : decode prog_9_method_9_code 7 = .ok (.aload_n 0, 1) := gd_MO_forget_0.2.2.2.2.2.1
theorem d_MO_forget_8 : decode prog_9_method_9_code 8 = .ok (.getfield 63, 3) := gd_MO_forget_0.2.2.2.2.2.2.1
theorem d_MO_forget_11 : decode prog_9_method_9_code 11 = .ok (.iload_n 1, 1) := gd_MO_forget_0.2.2.2.2.2.2.2.1
theorem d_MO_forget_12 : decode prog_9_method_9_code 12 = .ok (.aload_n 0, 1) := gd_MO_forget_0.2.2.2.2.2.2.2.2.1
theorem d_MO_forget_13 : decode prog_9_method_9_code 13 = .ok (.getfield 36, 3) := gd_MO_forget_0.2.2.2.2.2.2.2.2.2
theorem gd_MO_forget_16 : (decode prog_9_method_9_code 16 = .ok (.iconst 2, 1)) ∧ (decode prog_9_method_9_code 17 = .ok (.iload_n 1, 1)) ∧ (decode prog_9_method_9_code 18 = .ok (.imul, 1)) ∧ (decode prog_9_method_9_code 19 = .ok (.iaload, 1)) ∧ (decode prog_9_method_9_code 20 = .ok (.aload_n 0, 1)) ∧ (decode prog_9_method_9_code 21 = .ok (.getfield 36, 3)) ∧ (decode prog_9_method_9_code 24 = .ok (.iconst 2, 1)) ∧ (decode prog_9_method_9_code 25 = .ok (.iload_n 1, 1)) ∧ (decode prog_9_method_9_code 26 = .ok (.imul, 1)) ∧ (decode prog_9_method_9_code 27 = .ok (.iconst 1, 1)) := by decide +kernel
theorem d_MO_forget_16 : decode prog_9_method_9_code 16 = .ok (.iconst 2, 1) := gd_MO_forget_16.1
theorem d_MO_forget_17 : decode prog_9_method_9_code 17 = .ok (.iload_n 1, 1) := gd_MO_forget_16.2.1
theorem d_MO_forget_18 : decode prog_9_method_9_code 18 = .ok (.imul, 1) := gd_MO_forget_16.2.2.1
theorem d_MO_forget_19 : decode prog_9_method_9_code 19 = .ok (.iaload, 1) := gd_MO_forget_16.2.2.2.1
theorem d_MO_forget_20 : decode prog_9_method_9_code 20 = .ok (.aload_n 0, 1) := gd_MO_forget_16.2.2.2.2.1
theorem d_MO_forget_21 : decode prog_9_method_9_code 21 = .ok (.getfield 36, 3) := gd_MO_forget_16.2.2.2.2.2.1
theorem d_MO_forget_24 : decode prog_9_method_9_code 24 = .ok (.iconst 2, 1) := gd_MO_forget_16.2.2.2.2.2.2.1
theorem d_MO_forget_25 : decode prog_9_method_9_code 25 = .ok (.iload_n 1, 1) := gd_MO_forget_16.2.2.2.2.2.2.2.1
theorem d_MO_forget_26 : decode prog_9_method_9_code 26 = .ok (.imul, 1) := gd_MO_forget_16.2.2.2.2.2.2.2.2.1
theorem d_MO_forget_27 : decode prog_9_method_9_code 27 = .ok (.iconst 1, 1) := gd_MO_forget_16.2.2.2.2.2.2.2.2.2
theorem gd_MO_forget_28 : (decode prog_9_method_9_code 28 = .ok (.iadd, 1)) ∧ (decode prog_9_method_9_code 29 = .ok (.iaload, 1)) ∧ (decode prog_9_method_9_code 30 = .ok (.iadd, 1)) ∧ (decode prog_9_method_9_code 31 = .ok (.iastore, 1)) ∧ (decode prog_9_method_9_code 32 = .ok (.return_, 1)) := by decide +kernel
theorem d_MO_forget_28 : decode prog_9_method_9_code 28 = .ok (.iadd, 1) := gd_MO_forget_28.1
theorem d_MO_forget_29 : decode prog_9_method_9_code 29 = .ok (.iaload, 1) := gd_MO_forget_28.2.1
theorem d_MO_forget_30 : decode prog_9_method_9_code 30 = .ok (.iadd, 1) := gd_MO_forget_28.2.2.1
theorem d_MO_forget_31 : decode prog_9_method_9_code 31 = .ok (.iastore, 1) := gd_MO_forget_28.2.2.2.1
theorem d_MO_forget_32 : decode prog_9_method_9_code 32 = .ok (.return_, 1) := gd_MO_forget_28.2.2.2.2
theorem gd_MO_people_0 : (decode prog_9_method_6_code 0 = .ok (.iload_n 1, 1)) ∧ (decode prog_9_method_6_code 1 = .ok (.iconst 2, 1)) ∧ (decode prog_9_method_6_code 2 = .ok (.bipush 7, 2)) ∧ (decode prog_9_method_6_code 4 = .ok (.invokestatic 135, 3)) ∧ (decode prog_9_method_6_code 7 = .ok (.ifCond .ne 6, 3)) ∧ (decode prog_9_method_6_code 13 = .ok (.aload_n 0, 1)) ∧ (decode prog_9_method_6_code 14 = .ok (.iload_n 1, 1)) ∧ (decode prog_9_method_6_code 15 = .ok (.putfield 7, 3)) ∧ (decode prog_9_method_6_code 18 = .ok (.aload_n 0, 1)) ∧ (decode prog_9_method_6_code 19 = .ok (.iconst 0, 1)) := by decide +kernel
theorem d_MO_people_0 : decode prog_9_method_6_code 0 = .ok (.iload_n 1, 1) := gd_MO_people_0.1
theorem d_MO_people_1 : decode prog_9_method_6_code 1 = .ok (.iconst 2, 1) := gd_MO_people_0.2.1
theorem d_MO_people_2 : decode prog_9_method_6_code 2 = .ok (.bipush 7, 2) := gd_MO_people_0.2.2.1
theorem d_MO_people_4 : decode prog_9_method_6_code 4 = .ok (.invokestatic 135, 3) := gd_MO_people_0.2.2.2.1
theorem d_MO_people_7 : decode prog_9_method_6_code 7 = .ok (.ifCond .ne 6, 3) := gd_MO_people_0.2.2.2.2.1
theorem d_MO_people_13 : decode prog_9_method_6_code 13 = .ok (.aload_n 0, 1) := gd_MO_people_0.2.2.2.2.2.1
theorem d_MO_people_14 : decode prog_9_method_6_code 14 = .ok (.iload_n 1, 1) := gd_MO_people_0.2.2.2.2.2.2.1
theorem d_MO_people_15 : decode prog_9_method_6_code 15 = .ok (.putfield 7, 3) := gd_MO_people_0.2.2.2.2.2.2.2.1
theorem d_MO_people_18 : decode prog_9_method_6_code 18 = .ok (.aload_n 0, 1) := gd_MO_people_0.2.2.2.2.2.2.2.2.1
theorem d_MO_people_19 : decode prog_9_method_6_code 19 = .ok (.iconst 0, 1) := gd_MO_people_0.2.2.2.2.2.2.2.2.2
theorem gd_MO_people_20 : (decode prog_9_method_6_code 20 = .ok (.putfield 142, 3)) ∧ (decode prog_9_method_6_code 23 = .ok (.aload_n 0, 1)) ∧ (decode prog_9_method_6_code 24 = .ok (.iconst 0, 1)) ∧ (decode prog_9_method_6_code 25 = .ok (.putfield 139, 3)) ∧ (decode prog_9_method_6_code 28 = .ok (.aload_n 0, 1)) ∧ (decode prog_9_method_6_code 29 = .ok (.iconst 0, 1)) ∧ (decode prog_9_method_6_code 30 = .ok (.putfield 145, 3)) ∧ (decode prog_9_method_6_code 33 = .ok (.aload_n 0, 1)) ∧ (decode prog_9_method_6_code 34 = .ok (.iconst 0, 1)) ∧ (decode prog_9_method_6_code 35 = .ok (.putfield 148, 3)) := by decide +kernel
theorem d_MO_people_20 : decode prog_9_method_6_code 20 = .ok (.putfield 142, 3) := gd_MO_people_20.1
theorem d_MO_people_23 : decode prog_9_method_6_code 23 = .ok (.aload_n 0, 1) := gd_MO_people_20.2.1
theorem d_MO_people_24 : decode prog_9_method_6_code 24 = .ok (.iconst 0, 1) := gd_MO_people_20.2.2.1
theorem d_MO_people_25 : decode prog_9_method_6_code 25 = .ok (.putfield 139, 3) := gd_MO_people_20.2.2.2.1
theorem d_MO_people_28 : decode prog_9_method_6_code 28 = .ok (.aload_n 0, 1) := gd_MO_people_20.2.2.2.2.1
theorem d_MO_people_29 : decode prog_9_method_6_code 29 = .ok (.iconst 0, 1) := gd_MO_people_20.2.2.2.2.2.1
theorem d_MO_people_30 : decode prog_9_method_6_code 30 = .ok (.putfield 145, 3) := gd_MO_people_20.2.2.2.2.2.2.1
theorem d_MO_people_33 : decode prog_9_method_6_code 33 = .ok (.aload_n 0, 1) := gd_MO_people_20.2.2.2.2.2.2.2.1
theorem d_MO_people_34 : decode prog_9_method_6_code 34 = .ok (.iconst 0, 1) := gd_MO_people_20.2.2.2.2.2.2.2.2.1
theorem d_MO_people_35 : decode prog_9_method_6_code 35 = .ok (.putfield 148, 3) := gd_MO_people_20.2.2.2.2.2.2.2.2.2
theorem gd_MO_people_38 : (decode prog_9_method_6_code 38 = .ok (.aload_n 0, 1)) ∧ (decode prog_9_method_6_code 39 = .ok (.iconst 0, 1)) ∧ (decode prog_9_method_6_code 40 = .ok (.putfield 152, 3)) ∧ (decode prog_9_method_6_code 43 = .ok (.iconst 0, 1)) ∧ (decode prog_9_method_6_code 44 = .ok (.istore_n 2, 1)) ∧ (decode prog_9_method_6_code 45 = .ok (.iload_n 2, 1)) ∧ (decode prog_9_method_6_code 46 = .ok (.bipush 7, 2)) ∧ (decode prog_9_method_6_code 48 = .ok (.if_icmp .ge 37, 3)) ∧ (decode prog_9_method_6_code 85 = .ok (.iconst 1, 1)) ∧ (decode prog_9_method_6_code 86 = .ok (.ireturn, 1)) := by decide +kernel
theorem d_MO_people_38 : decode prog_9_method_6_code 38 = .ok (.aload_n 0, 1) := gd_MO_people_38.1
theorem d_MO_people_39 : decode prog_9_method_6_code 39 = .ok (.iconst 0, 1) := gd_MO_people_38.2.1
theorem d_MO_people_40 : decode prog_9_method_6_code 40 = .ok (.putfield 152, 3) := gd_MO_people_38.2.2.1
theorem d_MO_people_43 : decode prog_9_method_6_code 43 = .ok (.iconst 0, 1) := gd_MO_people_38.2.2.2.1
theorem d_MO_people_44 : decode prog_9_method_6_code 44 = .ok (.istore_n 2, 1) := gd_MO_people_38.2.2.2.2.1
theorem d_MO_people_45 : decode prog_9_method_6_code 45 = .ok (.iload_n 2, 1) := gd_MO_people_38.2.2.2.2.2.1
theorem d_MO_people_46 : decode prog_9_method_6_code 46 = .ok (.bipush 7, 2) := gd_MO_people_38.2.2.2.2.2.2.1
theorem d_MO_people_48 : decode prog_9_method_6_code 48 = .ok (.if_icmp .ge 37, 3) := gd_MO_people_38.2.2.2.2.2.2.2.1
theorem d_MO_people_85 : decode prog_9_method_6_code 85 = .ok (.iconst 1, 1) := gd_MO_people_38.2.2.2.2.2.2.2.2.1
theorem d_MO_people_86 : decode prog_9_method_6_code 86 = .ok (.ireturn, 1) := gd_MO_people_38.2.2.2.2.2.2.2.2.2
theorem gd_MO_people_51 : (decode prog_9_method_6_code 51 = .ok (.aload_n 0, 1)) ∧ (decode prog_9_method_6_code 52 = .ok (.getfield 19, 3)) ∧ (decode prog_9_method_6_code 55 = .ok (.iload_n 2, 1)) ∧ (decode prog_9_method_6_code 56 = .ok (.iconst 0, 1)) ∧ (decode prog_9_method_6_code 57 = .ok (.bastore, 1)) ∧ (decode prog_9_method_6_code 58 = .ok (.aload_n 0, 1)) ∧ (decode prog_9_method_6_code 59 = .ok (.getfield 23, 3)) ∧ (decode prog_9_method_6_code 62 = .ok (.iload_n 2, 1)) ∧ (decode prog_9_method_6_code 63 = .ok (.iconst 0, 1)) ∧ (decode prog_9_method_6_code 64 = .ok (.iastore, 1)) := by decide +kernel
theorem d_MO_people_51 : decode prog_9_method_6_code 51 = .ok (.aload_n 0, 1) := gd_MO_people_51.1
theorem d_MO_people_52 : decode prog_9_method_6_code 52 = .ok (.getfield 19, 3) := gd_MO_people_51.2.1
theorem d_MO_people_55 : decode prog_9_method_6_code 55 = .ok (.iload_n 2, 1) := gd_MO_people_51.2.2.1
theorem d_MO_people_56 : decode prog_9_method_6_code 56 = .ok (.iconst 0, 1) := gd_MO_people_51.2.2.2.1
theorem d_MO_people_57 : decode prog_9_method_6_code 57 = .ok (.bastore, 1) := gd_MO_people_51.2.2.2.2.1
theorem d_MO_people_58 : decode prog_9_method_6_code 58 = .ok (.aload_n 0, 1) := gd_MO_people_51.2.2.2.2.2.1
theorem d_MO_people_59 : decode prog_9_method_6_code 59 = .ok (.getfield 23, 3) := gd_MO_people_51.2.2.2.2.2.2.1
theorem d_MO_people_62 : decode prog_9_method_6_code 62 = .ok (.iload_n 2, 1) := gd_MO_people_51.2.2.2.2.2.2.2.1
theorem d_MO_people_63 : decode prog_9_method_6_code 63 = .ok (.iconst 0, 1) := gd_MO_people_51.2.2.2.2.2.2.2.2.1
theorem d_MO_people_64 : decode prog_9_method_6_code 64 = .ok (.iastore, 1) := gd_MO_people_51.2.2.2.2.2.2.2.2.2
theorem gd_MO_people_65 : (decode prog_9_method_6_code 65 = .ok (.aload_n 0, 1)) ∧ (decode prog_9_method_6_code 66 = .ok (.getfield 27, 3)) ∧ (decode prog_9_method_6_code 69 = .ok (.iload_n 2, 1)) ∧ (decode prog_9_method_6_code 70 = .ok (.iconst 0, 1)) ∧ (decode prog_9_method_6_code 71 = .ok (.iastore, 1)) ∧ (decode prog_9_method_6_code 72 = .ok (.aload_n 0, 1)) ∧ (decode prog_9_method_6_code 73 = .ok (.getfield 30, 3)) ∧ (decode prog_9_method_6_code 76 = .ok (.iload_n 2, 1)) ∧ (decode prog_9_method_6_code 77 = .ok (.iconst 0, 1)) ∧ (decode prog_9_method_6_code 78 = .ok (.iastore, 1)) := by decide +kernel
theorem d_MO_people_65 : decode prog_9_method_6_code 65 = .ok (.aload_n 0, 1) := gd_MO_people_65.1
theorem d_MO_people_66 : decode prog_9_method_6_code 66 = .ok (.getfield 27, 3) := gd_MO_people_65.2.1
theorem d_MO_people_69 : decode prog_9_method_6_code 69 = .ok (.iload_n 2, 1) := gd_MO_people_65.2.2.1
theorem d_MO_people_70 : decode prog_9_method_6_code 70 = .ok (.iconst 0, 1) := gd_MO_people_65.2.2.2.1
theorem d_MO_people_71 : decode prog_9_method_6_code 71 = .ok (.iastore, 1) := gd_MO_people_65.2.2.2.2.1
theorem d_MO_people_72 : decode prog_9_method_6_code 72 = .ok (.aload_n 0, 1) := gd_MO_people_65.2.2.2.2.2.1
theorem d_MO_people_73 : decode prog_9_method_6_code 73 = .ok (.getfield 30, 3) := gd_MO_people_65.2.2.2.2.2.2.1
theorem d_MO_people_76 : decode prog_9_method_6_code 76 = .ok (.iload_n 2, 1) := gd_MO_people_65.2.2.2.2.2.2.2.1
theorem d_MO_people_77 : decode prog_9_method_6_code 77 = .ok (.iconst 0, 1) := gd_MO_people_65.2.2.2.2.2.2.2.2.1
theorem d_MO_people_78 : decode prog_9_method_6_code 78 = .ok (.iastore, 1) := gd_MO_people_65.2.2.2.2.2.2.2.2.2
theorem gd_MO_people_79 : (decode prog_9_method_6_code 79 = .ok (.iinc 2 1, 3)) ∧ (decode prog_9_method_6_code 82 = .ok (.goto (-37), 3)) ∧ (decode prog_9_method_6_code 10 = .ok (.bipush (-2), 2)) ∧ (decode prog_9_method_6_code 12 = .ok (.ireturn, 1)) := by decide +kernel
theorem d_MO_people_79 : decode prog_9_method_6_code 79 = .ok (.iinc 2 1, 3) := gd_MO_people_79.1
theorem d_MO_people_82 : decode prog_9_method_6_code 82 = .ok (.goto (-37), 3) := gd_MO_people_79.2.1
theorem d_MO_people_10 : decode prog_9_method_6_code 10 = .ok (.bipush (-2), 2) := gd_MO_people_79.2.2.1
theorem d_MO_people_12 : decode prog_9_method_6_code 12 = .ok (.ireturn, 1) := gd_MO_people_79.2.2.2
theorem gd_MO_pair_0 : (decode prog_9_method_7_code 0 = .ok (.aload_n 0, 1)) ∧ (decode prog_9_method_7_code 1 = .ok (.iload_n 1, 1)) ∧ (decode prog_9_method_7_code 2 = .ok (.invokevirtual 155, 3)) ∧ (decode prog_9_method_7_code 5 = .ok (.ifCond .eq 37, 3)) ∧ (decode prog_9_method_7_code 42 = .ok (.bipush (-2), 2)) ∧ (decode prog_9_method_7_code 44 = .ok (.ireturn, 1)) ∧ (decode prog_9_method_7_code 8 = .ok (.aload_n 0, 1)) ∧ (decode prog_9_method_7_code 9 = .ok (.iload_n 2, 1)) ∧ (decode prog_9_method_7_code 10 = .ok (.invokevirtual 155, 3)) ∧ (decode prog_9_method_7_code 13 = .ok (.ifCond .eq 29, 3)) := by decide +kernel
theorem d_MO_pair_0 : decode prog_9_method_7_code 0 = .ok (.aload_n 0, 1) := gd_MO_pair_0.1
theorem d_MO_pair_1 : decode prog_9_method_7_code 1 = .ok (.iload_n 1, 1) := gd_MO_pair_0.2.1
theorem d_MO_pair_2 : decode prog_9_method_7_code 2 = .ok (.invokevirtual 155, 3) := gd_MO_pair_0.2.2.1
theorem d_MO_pair_5 : decode prog_9_method_7_code 5 = .ok (.ifCond .eq 37, 3) := gd_MO_pair_0.2.2.2.1
theorem d_MO_pair_42 : decode prog_9_method_7_code 42 = .ok (.bipush (-2), 2) := gd_MO_pair_0.2.2.2.2.1
theorem d_MO_pair_44 : decode prog_9_method_7_code 44 = .ok (.ireturn, 1) := gd_MO_pair_0.2.2.2.2.2.1
theorem d_MO_pair_8 : decode prog_9_method_7_code 8 = .ok (.aload_n 0, 1) := gd_MO_pair_0.2.2.2.2.2.2.1
theorem d_MO_pair_9 : decode prog_9_method_7_code 9 = .ok (.iload_n 2, 1) := gd_MO_pair_0.2.2.2.2.2.2.2.1
theorem d_MO_pair_10 : decode prog_9_method_7_code 10 = .ok (.invokevirtual 155, 3) := gd_MO_pair_0.2.2.2.2.2.2.2.2.1
theorem d_MO_pair_13 : decode prog_9_method_7_code 13 = .ok (.ifCond .eq 29, 3) := gd_MO_pair_0.2.2.2.2.2.2.2.2.2
theorem gd_MO_pair_16 : (decode prog_9_method_7_code 16 = .ok (.iload_n 1, 1)) ∧ (decode prog_9_method_7_code 17 = .ok (.iload_n 2, 1)) ∧ (decode prog_9_method_7_code 18 = .ok (.if_icmp .eq 24, 3)) ∧ (decode prog_9_method_7_code 21 = .ok (.iload_n 3, 1)) ∧ (decode prog_9_method_7_code 22 = .ok (.iconst 0, 1)) ∧ (decode prog_9_method_7_code 23 = .ok (.ldc 159, 2)) ∧ (decode prog_9_method_7_code 25 = .ok (.invokestatic 135, 3)) ∧ (decode prog_9_method_7_code 28 = .ok (.ifCond .eq 14, 3)) ∧ (decode prog_9_method_7_code 31 = .ok (.iload 4, 2)) ∧ (decode prog_9_method_7_code 33 = .ok (.iconst 0, 1)) := by decide +kernel
theorem d_MO_pair_16 : decode prog_9_method_7_code 16 = .ok (.iload_n 1, 1) := gd_MO_pair_16.1
theorem d_MO_pair_17 : decode prog_9_method_7_code 17 = .ok (.iload_n 2, 1) := gd_MO_pair_16.2.1
theorem d_MO_pair_18 : decode prog_9_method_7_code 18 = .ok (.if_icmp .eq 24, 3) := gd_MO_pair_16.2.2.1
theorem d_MO_pair_21 : decode prog_9_method_7_code 21 = .ok (.iload_n 3, 1) := gd_MO_pair_16.2.2.2.1
theorem d_MO_pair_22 : decode prog_9_method_7_code 22 = .ok (.iconst 0, 1) := gd_MO_pair_16.2.2.2.2.1
theorem d_MO_pair_23 : decode prog_9_method_7_code 23 = .ok (.ldc 159, 2) := gd_MO_pair_16.2.2.2.2.2.1
theorem d_MO_pair_25 : decode prog_9_method_7_code 25 = .ok (.invokestatic 135, 3) := gd_MO_pair_16.2.2.2.2.2.2.1
theorem d_MO_pair_28 : decode prog_9_method_7_code 28 = .ok (.ifCond .eq 14, 3) := gd_MO_pair_16.2.2.2.2.2.2.2.1
theorem d_MO_pair_31 : decode prog_9_method_7_code 31 = .ok (.iload 4, 2) := gd_MO_pair_16.2.2.2.2.2.2.2.2.1
theorem d_MO_pair_33 : decode prog_9_method_7_code 33 = .ok (.iconst 0, 1) := gd_MO_pair_16.2.2.2.2.2.2.2.2.2
theorem gd_MO_pair_34 : (decode prog_9_method_7_code 34 = .ok (.ldc 159, 2)) ∧ (decode prog_9_method_7_code 36 = .ok (.invokestatic 135, 3)) ∧ (decode prog_9_method_7_code 39 = .ok (.ifCond .ne 6, 3)) ∧ (decode prog_9_method_7_code 45 = .ok (.aload_n 0, 1)) ∧ (decode prog_9_method_7_code 46 = .ok (.getfield 139, 3)) ∧ (decode prog_9_method_7_code 49 = .ok (.bipush 12, 2)) ∧ (decode prog_9_method_7_code 51 = .ok (.if_icmp .ne 6, 3)) ∧ (decode prog_9_method_7_code 57 = .ok (.aload_n 0, 1)) ∧ (decode prog_9_method_7_code 58 = .ok (.getfield 139, 3)) ∧ (decode prog_9_method_7_code 61 = .ok (.istore 5, 2)) := by decide +kernel
theorem d_MO_pair_34 : decode prog_9_method_7_code 34 = .ok (.ldc 159, 2) := gd_MO_pair_34.1
theorem d_MO_pair_36 : decode prog_9_method_7_code 36 = .ok (.invokestatic 135, 3) := gd_MO_pair_34.2.1
theorem d_MO_pair_39 : decode prog_9_method_7_code 39 = .ok (.ifCond .ne 6, 3) := gd_MO_pair_34.2.2.1
theorem d_MO_pair_45 : decode prog_9_method_7_code 45 = .ok (.aload_n 0, 1) := gd_MO_pair_34.2.2.2.1
theorem d_MO_pair_46 : decode prog_9_method_7_code 46 = .ok (.getfield 139, 3) := gd_MO_pair_34.2.2.2.2.1
theorem d_MO_pair_49 : decode prog_9_method_7_code 49 = .ok (.bipush 12, 2) := gd_MO_pair_34.2.2.2.2.2.1
theorem d_MO_pair_51 : decode prog_9_method_7_code 51 = .ok (.if_icmp .ne 6, 3) := gd_MO_pair_34.2.2.2.2.2.2.1
theorem d_MO_pair_57 : decode prog_9_method_7_code 57 = .ok (.aload_n 0, 1) := gd_MO_pair_34.2.2.2.2.2.2.2.1
theorem d_MO_pair_58 : decode prog_9_method_7_code 58 = .ok (.getfield 139, 3) := gd_MO_pair_34.2.2.2.2.2.2.2.2.1
theorem d_MO_pair_61 : decode prog_9_method_7_code 61 = .ok (.istore 5, 2) := gd_MO_pair_34.2.2.2.2.2.2.2.2.2
theorem gd_MO_pair_63 : (decode prog_9_method_7_code 63 = .ok (.aload_n 0, 1)) ∧ (decode prog_9_method_7_code 64 = .ok (.dup, 1)) ∧ (decode prog_9_method_7_code 65 = .ok (.getfield 139, 3)) ∧ (decode prog_9_method_7_code 68 = .ok (.iconst 1, 1)) ∧ (decode prog_9_method_7_code 69 = .ok (.iadd, 1)) ∧ (decode prog_9_method_7_code 70 = .ok (.putfield 139, 3)) ∧ (decode prog_9_method_7_code 73 = .ok (.aload_n 0, 1)) ∧ (decode prog_9_method_7_code 74 = .ok (.getfield 33, 3)) ∧ (decode prog_9_method_7_code 77 = .ok (.iconst 2, 1)) ∧ (decode prog_9_method_7_code 78 = .ok (.iload 5, 2)) := by decide +kernel
theorem d_MO_pair_63 : decode prog_9_method_7_code 63 = .ok (.aload_n 0, 1) := gd_MO_pair_63.1
theorem d_MO_pair_64 : decode prog_9_method_7_code 64 = .ok (.dup, 1) := gd_MO_pair_63.2.1
theorem d_MO_pair_65 : decode prog_9_method_7_code 65 = .ok (.getfield 139, 3) := gd_MO_pair_63.2.2.1
theorem d_MO_pair_68 : decode prog_9_method_7_code 68 = .ok (.iconst 1, 1) := gd_MO_pair_63.2.2.2.1
theorem d_MO_pair_69 : decode prog_9_method_7_code 69 = .ok (.iadd, 1) := gd_MO_pair_63.2.2.2.2.1
theorem d_MO_pair_70 : decode prog_9_method_7_code 70 = .ok (.putfield 139, 3) := gd_MO_pair_63.2.2.2.2.2.1
theorem d_MO_pair_73 : decode prog_9_method_7_code 73 = .ok (.aload_n 0, 1) := gd_MO_pair_63.2.2.2.2.2.2.1
theorem d_MO_pair_74 : decode prog_9_method_7_code 74 = .ok (.getfield 33, 3) := gd_MO_pair_63.2.2.2.2.2.2.2.1
theorem d_MO_pair_77 : decode prog_9_method_7_code 77 = .ok (.iconst 2, 1) := gd_MO_pair_63.2.2.2.2.2.2.2.2.1
theorem d_MO_pair_78 : decode prog_9_method_7_code 78 = .ok (.iload 5, 2) := gd_MO_pair_63.2.2.2.2.2.2.2.2.2
theorem gd_MO_pair_80 : (decode prog_9_method_7_code 80 = .ok (.imul, 1)) ∧ (decode prog_9_method_7_code 81 = .ok (.iload_n 1, 1)) ∧ (decode prog_9_method_7_code 82 = .ok (.iastore, 1)) ∧ (decode prog_9_method_7_code 83 = .ok (.aload_n 0, 1)) ∧ (decode prog_9_method_7_code 84 = .ok (.getfield 33, 3)) ∧ (decode prog_9_method_7_code 87 = .ok (.iconst 2, 1)) ∧ (decode prog_9_method_7_code 88 = .ok (.iload 5, 2)) ∧ (decode prog_9_method_7_code 90 = .ok (.imul, 1)) ∧ (decode prog_9_method_7_code 91 = .ok (.iconst 1, 1)) ∧ (decode prog_9_method_7_code 92 = .ok (.iadd, 1)) := by decide +kernel
theorem d_MO_pair_80 : decode prog_9_method_7_code 80 = .ok (.imul, 1) := gd_MO_pair_80.1
theorem d_MO_pair_81 : decode prog_9_method_7_code 81 = .ok (.iload_n 1, 1) := gd_MO_pair_80.2.1
theorem d_MO_pair_82 : decode prog_9_method_7_code 82 = .ok (.iastore, 1) := gd_MO_pair_80.2.2.1
theorem d_MO_pair_83 : decode prog_9_method_7_code 83 = .ok (.aload_n 0, 1) := gd_MO_pair_80.2.2.2.1
theorem d_MO_pair_84 : decode prog_9_method_7_code 84 = .ok (.getfield 33, 3) := gd_MO_pair_80.2.2.2.2.1
theorem d_MO_pair_87 : decode prog_9_method_7_code 87 = .ok (.iconst 2, 1) := gd_MO_pair_80.2.2.2.2.2.1
theorem d_MO_pair_88 : decode prog_9_method_7_code 88 = .ok (.iload 5, 2) := gd_MO_pair_80.2.2.2.2.2.2.1
theorem d_MO_pair_90 : decode prog_9_method_7_code 90 = .ok (.imul, 1) := gd_MO_pair_80.2.2.2.2.2.2.2.1
theorem d_MO_pair_91 : decode prog_9_method_7_code 91 = .ok (.iconst 1, 1) := gd_MO_pair_80.2.2.2.2.2.2.2.2.1
theorem d_MO_pair_92 : decode prog_9_method_7_code 92 = .ok (.iadd, 1) := gd_MO_pair_80.2.2.2.2.2.2.2.2.2
theorem gd_MO_pair_93 : (decode prog_9_method_7_code 93 = .ok (.iload_n 2, 1)) ∧ (decode prog_9_method_7_code 94 = .ok (.iastore, 1)) ∧ (decode prog_9_method_7_code 95 = .ok (.aload_n 0, 1)) ∧ (decode prog_9_method_7_code 96 = .ok (.getfield 36, 3)) ∧ (decode prog_9_method_7_code 99 = .ok (.iconst 2, 1)) ∧ (decode prog_9_method_7_code 100 = .ok (.iload 5, 2)) ∧ (decode prog_9_method_7_code 102 = .ok (.imul, 1)) ∧ (decode prog_9_method_7_code 103 = .ok (.iload_n 3, 1)) ∧ (decode prog_9_method_7_code 104 = .ok (.iastore, 1)) ∧ (decode prog_9_method_7_code 105 = .ok (.aload_n 0, 1)) := by decide +kernel
theorem d_MO_pair_93 : decode prog_9_method_7_code 93 = .ok (.iload_n 2, 1) := gd_MO_pair_93.1
theorem d_MO_pair_94 : decode prog_9_method_7_code 94 = .ok (.iastore, 1) := gd_MO_pair_93.2.1
theorem d_MO_pair_95 : decode prog_9_method_7_code 95 = .ok (.aload_n 0, 1) := gd_MO_pair_93.2.2.1
theorem d_MO_pair_96 : decode prog_9_method_7_code 96 = .ok (.getfield 36, 3) := gd_MO_pair_93.2.2.2.1
theorem d_MO_pair_99 : decode prog_9_method_7_code 99 = .ok (.iconst 2, 1) := gd_MO_pair_93.2.2.2.2.1
theorem d_MO_pair_100 : decode prog_9_method_7_code 100 = .ok (.iload 5, 2) := gd_MO_pair_93.2.2.2.2.2.1
theorem d_MO_pair_102 : decode prog_9_method_7_code 102 = .ok (.imul, 1) := gd_MO_pair_93.2.2.2.2.2.2.1
theorem d_MO_pair_103 : decode prog_9_method_7_code 103 = .ok (.iload_n 3, 1) := gd_MO_pair_93.2.2.2.2.2.2.2.1
theorem d_MO_pair_104 : decode prog_9_method_7_code 104 = .ok (.iastore, 1) := gd_MO_pair_93.2.2.2.2.2.2.2.2.1
theorem d_MO_pair_105 : decode prog_9_method_7_code 105 = .ok (.aload_n 0, 1) := gd_MO_pair_93.2.2.2.2.2.2.2.2.2
theorem gd_MO_pair_106 : (decode prog_9_method_7_code 106 = .ok (.getfield 36, 3)) ∧ (decode prog_9_method_7_code 109 = .ok (.iconst 2, 1)) ∧ (decode prog_9_method_7_code 110 = .ok (.iload 5, 2)) ∧ (decode prog_9_method_7_code 112 = .ok (.imul, 1)) ∧ (decode prog_9_method_7_code 113 = .ok (.iconst 1, 1)) ∧ (decode prog_9_method_7_code 114 = .ok (.iadd, 1)) ∧ (decode prog_9_method_7_code 115 = .ok (.iload 4, 2)) ∧ (decode prog_9_method_7_code 117 = .ok (.iastore, 1)) ∧ (decode prog_9_method_7_code 118 = .ok (.aload_n 0, 1)) ∧ (decode prog_9_method_7_code 119 = .ok (.getfield 39, 3)) := by decide +kernel
theorem d_MO_pair_106 : decode prog_9_method_7_code 106 = .ok (.getfield 36, 3) := gd_MO_pair_106.1
theorem d_MO_pair_109 : decode prog_9_method_7_code 109 = .ok (.iconst 2, 1) := gd_MO_pair_106.2.1
theorem d_MO_pair_110 : decode prog_9_method_7_code 110 = .ok (.iload 5, 2) := gd_MO_pair_106.2.2.1
theorem d_MO_pair_112 : decode prog_9_method_7_code 112 = .ok (.imul, 1) := gd_MO_pair_106.2.2.2.1
theorem d_MO_pair_113 : decode prog_9_method_7_code 113 = .ok (.iconst 1, 1) := gd_MO_pair_106.2.2.2.2.1
theorem d_MO_pair_114 : decode prog_9_method_7_code 114 = .ok (.iadd, 1) := gd_MO_pair_106.2.2.2.2.2.1
theorem d_MO_pair_115 : decode prog_9_method_7_code 115 = .ok (.iload 4, 2) := gd_MO_pair_106.2.2.2.2.2.2.1
theorem d_MO_pair_117 : decode prog_9_method_7_code 117 = .ok (.iastore, 1) := gd_MO_pair_106.2.2.2.2.2.2.2.1
theorem d_MO_pair_118 : decode prog_9_method_7_code 118 = .ok (.aload_n 0, 1) := gd_MO_pair_106.2.2.2.2.2.2.2.2.1
theorem d_MO_pair_119 : decode prog_9_method_7_code 119 = .ok (.getfield 39, 3) := gd_MO_pair_106.2.2.2.2.2.2.2.2.2
theorem gd_MO_pair_122 : (decode prog_9_method_7_code 122 = .ok (.iconst 2, 1)) ∧ (decode prog_9_method_7_code 123 = .ok (.iload 5, 2)) ∧ (decode prog_9_method_7_code 125 = .ok (.imul, 1)) ∧ (decode prog_9_method_7_code 126 = .ok (.iconst 0, 1)) ∧ (decode prog_9_method_7_code 127 = .ok (.iastore, 1)) ∧ (decode prog_9_method_7_code 128 = .ok (.aload_n 0, 1)) ∧ (decode prog_9_method_7_code 129 = .ok (.getfield 39, 3)) ∧ (decode prog_9_method_7_code 132 = .ok (.iconst 2, 1)) ∧ (decode prog_9_method_7_code 133 = .ok (.iload 5, 2)) ∧ (decode prog_9_method_7_code 135 = .ok (.imul, 1)) := by decide +kernel
theorem d_MO_pair_122 : decode prog_9_method_7_code 122 = .ok (.iconst 2, 1) := gd_MO_pair_122.1
theorem d_MO_pair_123 : decode prog_9_method_7_code 123 = .ok (.iload 5, 2) := gd_MO_pair_122.2.1
theorem d_MO_pair_125 : decode prog_9_method_7_code 125 = .ok (.imul, 1) := gd_MO_pair_122.2.2.1
theorem d_MO_pair_126 : decode prog_9_method_7_code 126 = .ok (.iconst 0, 1) := gd_MO_pair_122.2.2.2.1
theorem d_MO_pair_127 : decode prog_9_method_7_code 127 = .ok (.iastore, 1) := gd_MO_pair_122.2.2.2.2.1
theorem d_MO_pair_128 : decode prog_9_method_7_code 128 = .ok (.aload_n 0, 1) := gd_MO_pair_122.2.2.2.2.2.1
theorem d_MO_pair_129 : decode prog_9_method_7_code 129 = .ok (.getfield 39, 3) := gd_MO_pair_122.2.2.2.2.2.2.1
theorem d_MO_pair_132 : decode prog_9_method_7_code 132 = .ok (.iconst 2, 1) := gd_MO_pair_122.2.2.2.2.2.2.2.1
theorem d_MO_pair_133 : decode prog_9_method_7_code 133 = .ok (.iload 5, 2) := gd_MO_pair_122.2.2.2.2.2.2.2.2.1
theorem d_MO_pair_135 : decode prog_9_method_7_code 135 = .ok (.imul, 1) := gd_MO_pair_122.2.2.2.2.2.2.2.2.2
theorem gd_MO_pair_136 : (decode prog_9_method_7_code 136 = .ok (.iconst 1, 1)) ∧ (decode prog_9_method_7_code 137 = .ok (.iadd, 1)) ∧ (decode prog_9_method_7_code 138 = .ok (.iconst 0, 1)) ∧ (decode prog_9_method_7_code 139 = .ok (.iastore, 1)) ∧ (decode prog_9_method_7_code 140 = .ok (.aload_n 0, 1)) ∧ (decode prog_9_method_7_code 141 = .ok (.getfield 42, 3)) ∧ (decode prog_9_method_7_code 144 = .ok (.iload 5, 2)) ∧ (decode prog_9_method_7_code 146 = .ok (.iconst 0, 1)) ∧ (decode prog_9_method_7_code 147 = .ok (.iastore, 1)) ∧ (decode prog_9_method_7_code 148 = .ok (.aload_n 0, 1)) := by decide +kernel
theorem d_MO_pair_136 : decode prog_9_method_7_code 136 = .ok (.iconst 1, 1) := gd_MO_pair_136.1
theorem d_MO_pair_137 : decode prog_9_method_7_code 137 = .ok (.iadd, 1) := gd_MO_pair_136.2.1
theorem d_MO_pair_138 : decode prog_9_method_7_code 138 = .ok (.iconst 0, 1) := gd_MO_pair_136.2.2.1
theorem d_MO_pair_139 : decode prog_9_method_7_code 139 = .ok (.iastore, 1) := gd_MO_pair_136.2.2.2.1
theorem d_MO_pair_140 : decode prog_9_method_7_code 140 = .ok (.aload_n 0, 1) := gd_MO_pair_136.2.2.2.2.1
theorem d_MO_pair_141 : decode prog_9_method_7_code 141 = .ok (.getfield 42, 3) := gd_MO_pair_136.2.2.2.2.2.1
theorem d_MO_pair_144 : decode prog_9_method_7_code 144 = .ok (.iload 5, 2) := gd_MO_pair_136.2.2.2.2.2.2.1
theorem d_MO_pair_146 : decode prog_9_method_7_code 146 = .ok (.iconst 0, 1) := gd_MO_pair_136.2.2.2.2.2.2.2.1
theorem d_MO_pair_147 : decode prog_9_method_7_code 147 = .ok (.iastore, 1) := gd_MO_pair_136.2.2.2.2.2.2.2.2.1
theorem d_MO_pair_148 : decode prog_9_method_7_code 148 = .ok (.aload_n 0, 1) := gd_MO_pair_136.2.2.2.2.2.2.2.2.2
theorem gd_MO_pair_149 : (decode prog_9_method_7_code 149 = .ok (.getfield 45, 3)) ∧ (decode prog_9_method_7_code 152 = .ok (.iload 5, 2)) ∧ (decode prog_9_method_7_code 154 = .ok (.iconst (-1), 1)) ∧ (decode prog_9_method_7_code 155 = .ok (.iastore, 1)) ∧ (decode prog_9_method_7_code 156 = .ok (.aload_n 0, 1)) ∧ (decode prog_9_method_7_code 157 = .ok (.getfield 57, 3)) ∧ (decode prog_9_method_7_code 160 = .ok (.iload 5, 2)) ∧ (decode prog_9_method_7_code 162 = .ok (.iconst 0, 1)) ∧ (decode prog_9_method_7_code 163 = .ok (.iastore, 1)) ∧ (decode prog_9_method_7_code 164 = .ok (.aload_n 0, 1)) := by decide +kernel
theorem d_MO_pair_149 : decode prog_9_method_7_code 149 = .ok (.getfield 45, 3) := gd_MO_pair_149.1
theorem d_MO_pair_152 : decode prog_9_method_7_code 152 = .ok (.iload 5, 2) := gd_MO_pair_149.2.1
theorem d_MO_pair_154 : decode prog_9_method_7_code 154 = .ok (.iconst (-1), 1) := gd_MO_pair_149.2.2.1
theorem d_MO_pair_155 : decode prog_9_method_7_code 155 = .ok (.iastore, 1) := gd_MO_pair_149.2.2.2.1
theorem d_MO_pair_156 : decode prog_9_method_7_code 156 = .ok (.aload_n 0, 1) := gd_MO_pair_149.2.2.2.2.1
theorem d_MO_pair_157 : decode prog_9_method_7_code 157 = .ok (.getfield 57, 3) := gd_MO_pair_149.2.2.2.2.2.1
theorem d_MO_pair_160 : decode prog_9_method_7_code 160 = .ok (.iload 5, 2) := gd_MO_pair_149.2.2.2.2.2.2.1
theorem d_MO_pair_162 : decode prog_9_method_7_code 162 = .ok (.iconst 0, 1) := gd_MO_pair_149.2.2.2.2.2.2.2.1
theorem d_MO_pair_163 : decode prog_9_method_7_code 163 = .ok (.iastore, 1) := gd_MO_pair_149.2.2.2.2.2.2.2.2.1
theorem d_MO_pair_164 : decode prog_9_method_7_code 164 = .ok (.aload_n 0, 1) := gd_MO_pair_149.2.2.2.2.2.2.2.2.2
theorem gd_MO_pair_165 : (decode prog_9_method_7_code 165 = .ok (.iload 5, 2)) ∧ (decode prog_9_method_7_code 167 = .ok (.invokevirtual 160, 3)) ∧ (decode prog_9_method_7_code 170 = .ok (.aload_n 0, 1)) ∧ (decode prog_9_method_7_code 171 = .ok (.iload 5, 2)) ∧ (decode prog_9_method_7_code 173 = .ok (.invokevirtual 164, 3)) ∧ (decode prog_9_method_7_code 176 = .ok (.iload 5, 2)) ∧ (decode prog_9_method_7_code 178 = .ok (.ireturn, 1)) ∧ (decode prog_9_method_7_code 54 = .ok (.bipush (-4), 2)) ∧ (decode prog_9_method_7_code 56 = .ok (.ireturn, 1)) := by decide +kernel
theorem d_MO_pair_165 : decode prog_9_method_7_code 165 = .ok (.iload 5, 2) := gd_MO_pair_165.1
theorem d_MO_pair_167 : decode prog_9_method_7_code 167 = .ok (.invokevirtual 160, 3) := gd_MO_pair_165.2.1
theorem d_MO_pair_170 : decode prog_9_method_7_code 170 = .ok (.aload_n 0, 1) := gd_MO_pair_165.2.2.1
theorem d_MO_pair_171 : decode prog_9_method_7_code 171 = .ok (.iload 5, 2) := gd_MO_pair_165.2.2.2.1
theorem d_MO_pair_173 : decode prog_9_method_7_code 173 = .ok (.invokevirtual 164, 3) := gd_MO_pair_165.2.2.2.2.1
theorem d_MO_pair_176 : decode prog_9_method_7_code 176 = .ok (.iload 5, 2) := gd_MO_pair_165.2.2.2.2.2.1
theorem d_MO_pair_178 : decode prog_9_method_7_code 178 = .ok (.ireturn, 1) := gd_MO_pair_165.2.2.2.2.2.2.1
theorem d_MO_pair_54 : decode prog_9_method_7_code 54 = .ok (.bipush (-4), 2) := gd_MO_pair_165.2.2.2.2.2.2.2.1
theorem d_MO_pair_56 : decode prog_9_method_7_code 56 = .ok (.ireturn, 1) := gd_MO_pair_165.2.2.2.2.2.2.2.2
theorem gd_MO_fee_0 : (decode prog_9_method_10_code 0 = .ok (.aload_n 0, 1)) ∧ (decode prog_9_method_10_code 1 = .ok (.iload_n 1, 1)) ∧ (decode prog_9_method_10_code 2 = .ok (.invokevirtual 155, 3)) ∧ (decode prog_9_method_10_code 5 = .ok (.ifCond .eq 23, 3)) ∧ (decode prog_9_method_10_code 28 = .ok (.bipush (-2), 2)) ∧ (decode prog_9_method_10_code 30 = .ok (.ireturn, 1)) ∧ (decode prog_9_method_10_code 8 = .ok (.iload_n 2, 1)) ∧ (decode prog_9_method_10_code 9 = .ok (.iconst 0, 1)) ∧ (decode prog_9_method_10_code 10 = .ok (.bipush 100, 2)) ∧ (decode prog_9_method_10_code 12 = .ok (.invokestatic 135, 3)) := by decide +kernel
theorem d_MO_fee_0 : decode prog_9_method_10_code 0 = .ok (.aload_n 0, 1) := gd_MO_fee_0.1
theorem d_MO_fee_1 : decode prog_9_method_10_code 1 = .ok (.iload_n 1, 1) := gd_MO_fee_0.2.1
theorem d_MO_fee_2 : decode prog_9_method_10_code 2 = .ok (.invokevirtual 155, 3) := gd_MO_fee_0.2.2.1
theorem d_MO_fee_5 : decode prog_9_method_10_code 5 = .ok (.ifCond .eq 23, 3) := gd_MO_fee_0.2.2.2.1
theorem d_MO_fee_28 : decode prog_9_method_10_code 28 = .ok (.bipush (-2), 2) := gd_MO_fee_0.2.2.2.2.1
theorem d_MO_fee_30 : decode prog_9_method_10_code 30 = .ok (.ireturn, 1) := gd_MO_fee_0.2.2.2.2.2.1
theorem d_MO_fee_8 : decode prog_9_method_10_code 8 = .ok (.iload_n 2, 1) := gd_MO_fee_0.2.2.2.2.2.2.1
theorem d_MO_fee_9 : decode prog_9_method_10_code 9 = .ok (.iconst 0, 1) := gd_MO_fee_0.2.2.2.2.2.2.2.1
theorem d_MO_fee_10 : decode prog_9_method_10_code 10 = .ok (.bipush 100, 2) := gd_MO_fee_0.2.2.2.2.2.2.2.2.1
theorem d_MO_fee_12 : decode prog_9_method_10_code 12 = .ok (.invokestatic 135, 3) := gd_MO_fee_0.2.2.2.2.2.2.2.2.2
theorem gd_MO_fee_15 : (decode prog_9_method_10_code 15 = .ok (.ifCond .eq 13, 3)) ∧ (decode prog_9_method_10_code 18 = .ok (.iload_n 3, 1)) ∧ (decode prog_9_method_10_code 19 = .ok (.iconst 0, 1)) ∧ (decode prog_9_method_10_code 20 = .ok (.bipush 100, 2)) ∧ (decode prog_9_method_10_code 22 = .ok (.invokestatic 135, 3)) ∧ (decode prog_9_method_10_code 25 = .ok (.ifCond .ne 6, 3)) ∧ (decode prog_9_method_10_code 31 = .ok (.aload_n 0, 1)) ∧ (decode prog_9_method_10_code 32 = .ok (.getfield 27, 3)) ∧ (decode prog_9_method_10_code 35 = .ok (.iload_n 1, 1)) ∧ (decode prog_9_method_10_code 36 = .ok (.iload_n 2, 1)) := by decide +kernel
theorem d_MO_fee_15 : decode prog_9_method_10_code 15 = .ok (.ifCond .eq 13, 3) := gd_MO_fee_15.1
theorem d_MO_fee_18 : decode prog_9_method_10_code 18 = .ok (.iload_n 3, 1) := gd_MO_fee_15.2.1
theorem d_MO_fee_19 : decode prog_9_method_10_code 19 = .ok (.iconst 0, 1) := gd_MO_fee_15.2.2.1
theorem d_MO_fee_20 : decode prog_9_method_10_code 20 = .ok (.bipush 100, 2) := gd_MO_fee_15.2.2.2.1
theorem d_MO_fee_22 : decode prog_9_method_10_code 22 = .ok (.invokestatic 135, 3) := gd_MO_fee_15.2.2.2.2.1
theorem d_MO_fee_25 : decode prog_9_method_10_code 25 = .ok (.ifCond .ne 6, 3) := gd_MO_fee_15.2.2.2.2.2.1
theorem d_MO_fee_31 : decode prog_9_method_10_code 31 = .ok (.aload_n 0, 1) := gd_MO_fee_15.2.2.2.2.2.2.1
theorem d_MO_fee_32 : decode prog_9_method_10_code 32 = .ok (.getfield 27, 3) := gd_MO_fee_15.2.2.2.2.2.2.2.1
theorem d_MO_fee_35 : decode prog_9_method_10_code 35 = .ok (.iload_n 1, 1) := gd_MO_fee_15.2.2.2.2.2.2.2.2.1
theorem d_MO_fee_36 : decode prog_9_method_10_code 36 = .ok (.iload_n 2, 1) := gd_MO_fee_15.2.2.2.2.2.2.2.2.2
theorem gd_MO_fee_37 : (decode prog_9_method_10_code 37 = .ok (.iastore, 1)) ∧ (decode prog_9_method_10_code 38 = .ok (.aload_n 0, 1)) ∧ (decode prog_9_method_10_code 39 = .ok (.getfield 30, 3)) ∧ (decode prog_9_method_10_code 42 = .ok (.iload_n 1, 1)) ∧ (decode prog_9_method_10_code 43 = .ok (.iload_n 3, 1)) ∧ (decode prog_9_method_10_code 44 = .ok (.iastore, 1)) ∧ (decode prog_9_method_10_code 45 = .ok (.iconst 1, 1)) ∧ (decode prog_9_method_10_code 46 = .ok (.ireturn, 1)) := by decide +kernel
theorem d_MO_fee_37 : decode prog_9_method_10_code 37 = .ok (.iastore, 1) := gd_MO_fee_37.1
theorem d_MO_fee_38 : decode prog_9_method_10_code 38 = .ok (.aload_n 0, 1) := gd_MO_fee_37.2.1
theorem d_MO_fee_39 : decode prog_9_method_10_code 39 = .ok (.getfield 30, 3) := gd_MO_fee_37.2.2.1
theorem d_MO_fee_42 : decode prog_9_method_10_code 42 = .ok (.iload_n 1, 1) := gd_MO_fee_37.2.2.2.1
theorem d_MO_fee_43 : decode prog_9_method_10_code 43 = .ok (.iload_n 3, 1) := gd_MO_fee_37.2.2.2.2.1
theorem d_MO_fee_44 : decode prog_9_method_10_code 44 = .ok (.iastore, 1) := gd_MO_fee_37.2.2.2.2.2.1
theorem d_MO_fee_45 : decode prog_9_method_10_code 45 = .ok (.iconst 1, 1) := gd_MO_fee_37.2.2.2.2.2.2.1
theorem d_MO_fee_46 : decode prog_9_method_10_code 46 = .ok (.ireturn, 1) := gd_MO_fee_37.2.2.2.2.2.2.2
theorem gd_MO_gap_0 : (decode prog_9_method_11_code 0 = .ok (.iload_n 1, 1)) ∧ (decode prog_9_method_11_code 1 = .ok (.iconst 1, 1)) ∧ (decode prog_9_method_11_code 2 = .ok (.bipush 50, 2)) ∧ (decode prog_9_method_11_code 4 = .ok (.invokestatic 135, 3)) ∧ (decode prog_9_method_11_code 7 = .ok (.ifCond .ne 6, 3)) ∧ (decode prog_9_method_11_code 13 = .ok (.aload_n 0, 1)) ∧ (decode prog_9_method_11_code 14 = .ok (.getfield 13, 3)) ∧ (decode prog_9_method_11_code 17 = .ok (.istore_n 2, 1)) ∧ (decode prog_9_method_11_code 18 = .ok (.aload_n 0, 1)) ∧ (decode prog_9_method_11_code 19 = .ok (.iload_n 1, 1)) := by decide +kernel
theorem d_MO_gap_0 : decode prog_9_method_11_code 0 = .ok (.iload_n 1, 1) := gd_MO_gap_0.1
theorem d_MO_gap_1 : decode prog_9_method_11_code 1 = .ok (.iconst 1, 1) := gd_MO_gap_0.2.1
theorem d_MO_gap_2 : decode prog_9_method_11_code 2 = .ok (.bipush 50, 2) := gd_MO_gap_0.2.2.1
theorem d_MO_gap_4 : decode prog_9_method_11_code 4 = .ok (.invokestatic 135, 3) := gd_MO_gap_0.2.2.2.1
theorem d_MO_gap_7 : decode prog_9_method_11_code 7 = .ok (.ifCond .ne 6, 3) := gd_MO_gap_0.2.2.2.2.1
theorem d_MO_gap_13 : decode prog_9_method_11_code 13 = .ok (.aload_n 0, 1) := gd_MO_gap_0.2.2.2.2.2.1
theorem d_MO_gap_14 : decode prog_9_method_11_code 14 = .ok (.getfield 13, 3) := gd_MO_gap_0.2.2.2.2.2.2.1
theorem d_MO_gap_17 : decode prog_9_method_11_code 17 = .ok (.istore_n 2, 1) := gd_MO_gap_0.2.2.2.2.2.2.2.1
theorem d_MO_gap_18 : decode prog_9_method_11_code 18 = .ok (.aload_n 0, 1) := gd_MO_gap_0.2.2.2.2.2.2.2.2.1
theorem d_MO_gap_19 : decode prog_9_method_11_code 19 = .ok (.iload_n 1, 1) := gd_MO_gap_0.2.2.2.2.2.2.2.2.2
theorem gd_MO_gap_20 : (decode prog_9_method_11_code 20 = .ok (.putfield 13, 3)) ∧ (decode prog_9_method_11_code 23 = .ok (.iload_n 2, 1)) ∧ (decode prog_9_method_11_code 24 = .ok (.ireturn, 1)) ∧ (decode prog_9_method_11_code 10 = .ok (.bipush (-2), 2)) ∧ (decode prog_9_method_11_code 12 = .ok (.ireturn, 1)) := by decide +kernel
theorem d_MO_gap_20 : decode prog_9_method_11_code 20 = .ok (.putfield 13, 3) := gd_MO_gap_20.1
theorem d_MO_gap_23 : decode prog_9_method_11_code 23 = .ok (.iload_n 2, 1) := gd_MO_gap_20.2.1
theorem d_MO_gap_24 : decode prog_9_method_11_code 24 = .ok (.ireturn, 1) := gd_MO_gap_20.2.2.1
theorem d_MO_gap_10 : decode prog_9_method_11_code 10 = .ok (.bipush (-2), 2) := gd_MO_gap_20.2.2.2.1
theorem d_MO_gap_12 : decode prog_9_method_11_code 12 = .ok (.ireturn, 1) := gd_MO_gap_20.2.2.2.2
theorem gd_MO_look_0 : (decode prog_9_method_12_code 0 = .ok (.iload_n 1, 1)) ∧ (decode prog_9_method_12_code 1 = .ok (.iconst 1, 1)) ∧ (decode prog_9_method_12_code 2 = .ok (.bipush 50, 2)) ∧ (decode prog_9_method_12_code 4 = .ok (.invokestatic 135, 3)) ∧ (decode prog_9_method_12_code 7 = .ok (.ifCond .ne 6, 3)) ∧ (decode prog_9_method_12_code 13 = .ok (.aload_n 0, 1)) ∧ (decode prog_9_method_12_code 14 = .ok (.getfield 16, 3)) ∧ (decode prog_9_method_12_code 17 = .ok (.istore_n 2, 1)) ∧ (decode prog_9_method_12_code 18 = .ok (.aload_n 0, 1)) ∧ (decode prog_9_method_12_code 19 = .ok (.iload_n 1, 1)) := by decide +kernel
theorem d_MO_look_0 : decode prog_9_method_12_code 0 = .ok (.iload_n 1, 1) := gd_MO_look_0.1
theorem d_MO_look_1 : decode prog_9_method_12_code 1 = .ok (.iconst 1, 1) := gd_MO_look_0.2.1
theorem d_MO_look_2 : decode prog_9_method_12_code 2 = .ok (.bipush 50, 2) := gd_MO_look_0.2.2.1
theorem d_MO_look_4 : decode prog_9_method_12_code 4 = .ok (.invokestatic 135, 3) := gd_MO_look_0.2.2.2.1
theorem d_MO_look_7 : decode prog_9_method_12_code 7 = .ok (.ifCond .ne 6, 3) := gd_MO_look_0.2.2.2.2.1
theorem d_MO_look_13 : decode prog_9_method_12_code 13 = .ok (.aload_n 0, 1) := gd_MO_look_0.2.2.2.2.2.1
theorem d_MO_look_14 : decode prog_9_method_12_code 14 = .ok (.getfield 16, 3) := gd_MO_look_0.2.2.2.2.2.2.1
theorem d_MO_look_17 : decode prog_9_method_12_code 17 = .ok (.istore_n 2, 1) := gd_MO_look_0.2.2.2.2.2.2.2.1
theorem d_MO_look_18 : decode prog_9_method_12_code 18 = .ok (.aload_n 0, 1) := gd_MO_look_0.2.2.2.2.2.2.2.2.1
theorem d_MO_look_19 : decode prog_9_method_12_code 19 = .ok (.iload_n 1, 1) := gd_MO_look_0.2.2.2.2.2.2.2.2.2
theorem gd_MO_look_20 : (decode prog_9_method_12_code 20 = .ok (.putfield 16, 3)) ∧ (decode prog_9_method_12_code 23 = .ok (.iload_n 2, 1)) ∧ (decode prog_9_method_12_code 24 = .ok (.ireturn, 1)) ∧ (decode prog_9_method_12_code 10 = .ok (.bipush (-2), 2)) ∧ (decode prog_9_method_12_code 12 = .ok (.ireturn, 1)) := by decide +kernel
theorem d_MO_look_20 : decode prog_9_method_12_code 20 = .ok (.putfield 16, 3) := gd_MO_look_20.1
theorem d_MO_look_23 : decode prog_9_method_12_code 23 = .ok (.iload_n 2, 1) := gd_MO_look_20.2.1
theorem d_MO_look_24 : decode prog_9_method_12_code 24 = .ok (.ireturn, 1) := gd_MO_look_20.2.2.1
theorem d_MO_look_10 : decode prog_9_method_12_code 10 = .ok (.bipush (-2), 2) := gd_MO_look_20.2.2.2.1
theorem d_MO_look_12 : decode prog_9_method_12_code 12 = .ok (.ireturn, 1) := gd_MO_look_20.2.2.2.2
theorem gd_MO_isAsked_0 : (decode prog_9_method_16_code 0 = .ok (.aload_n 0, 1)) ∧ (decode prog_9_method_16_code 1 = .ok (.iload_n 1, 1)) ∧ (decode prog_9_method_16_code 2 = .ok (.invokevirtual 155, 3)) ∧ (decode prog_9_method_16_code 5 = .ok (.ifCond .eq 30, 3)) ∧ (decode prog_9_method_16_code 35 = .ok (.iconst 0, 1)) ∧ (decode prog_9_method_16_code 36 = .ok (.ireturn, 1)) ∧ (decode prog_9_method_16_code 8 = .ok (.aload_n 0, 1)) ∧ (decode prog_9_method_16_code 9 = .ok (.iload_n 2, 1)) ∧ (decode prog_9_method_16_code 10 = .ok (.invokevirtual 155, 3)) ∧ (decode prog_9_method_16_code 13 = .ok (.ifCond .eq 22, 3)) := by decide +kernel
theorem d_MO_isAsked_0 : decode prog_9_method_16_code 0 = .ok (.aload_n 0, 1) := gd_MO_isAsked_0.1
theorem d_MO_isAsked_1 : decode prog_9_method_16_code 1 = .ok (.iload_n 1, 1) := gd_MO_isAsked_0.2.1
theorem d_MO_isAsked_2 : decode prog_9_method_16_code 2 = .ok (.invokevirtual 155, 3) := gd_MO_isAsked_0.2.2.1
theorem d_MO_isAsked_5 : decode prog_9_method_16_code 5 = .ok (.ifCond .eq 30, 3) := gd_MO_isAsked_0.2.2.2.1
theorem d_MO_isAsked_35 : decode prog_9_method_16_code 35 = .ok (.iconst 0, 1) := gd_MO_isAsked_0.2.2.2.2.1
theorem d_MO_isAsked_36 : decode prog_9_method_16_code 36 = .ok (.ireturn, 1) := gd_MO_isAsked_0.2.2.2.2.2.1
theorem d_MO_isAsked_8 : decode prog_9_method_16_code 8 = .ok (.aload_n 0, 1) := gd_MO_isAsked_0.2.2.2.2.2.2.1
theorem d_MO_isAsked_9 : decode prog_9_method_16_code 9 = .ok (.iload_n 2, 1) := gd_MO_isAsked_0.2.2.2.2.2.2.2.1
theorem d_MO_isAsked_10 : decode prog_9_method_16_code 10 = .ok (.invokevirtual 155, 3) := gd_MO_isAsked_0.2.2.2.2.2.2.2.2.1
theorem d_MO_isAsked_13 : decode prog_9_method_16_code 13 = .ok (.ifCond .eq 22, 3) := gd_MO_isAsked_0.2.2.2.2.2.2.2.2.2
theorem gd_MO_isAsked_16 : (decode prog_9_method_16_code 16 = .ok (.iload_n 1, 1)) ∧ (decode prog_9_method_16_code 17 = .ok (.iload_n 2, 1)) ∧ (decode prog_9_method_16_code 18 = .ok (.if_icmp .eq 17, 3)) ∧ (decode prog_9_method_16_code 21 = .ok (.iload_n 3, 1)) ∧ (decode prog_9_method_16_code 22 = .ok (.iconst 1, 1)) ∧ (decode prog_9_method_16_code 23 = .ok (.ldc 159, 2)) ∧ (decode prog_9_method_16_code 25 = .ok (.invokestatic 135, 3)) ∧ (decode prog_9_method_16_code 28 = .ok (.ifCond .eq 7, 3)) ∧ (decode prog_9_method_16_code 31 = .ok (.iconst 1, 1)) ∧ (decode prog_9_method_16_code 32 = .ok (.goto 4, 3)) := by decide +kernel
theorem d_MO_isAsked_16 : decode prog_9_method_16_code 16 = .ok (.iload_n 1, 1) := gd_MO_isAsked_16.1
theorem d_MO_isAsked_17 : decode prog_9_method_16_code 17 = .ok (.iload_n 2, 1) := gd_MO_isAsked_16.2.1
theorem d_MO_isAsked_18 : decode prog_9_method_16_code 18 = .ok (.if_icmp .eq 17, 3) := gd_MO_isAsked_16.2.2.1
theorem d_MO_isAsked_21 : decode prog_9_method_16_code 21 = .ok (.iload_n 3, 1) := gd_MO_isAsked_16.2.2.2.1
theorem d_MO_isAsked_22 : decode prog_9_method_16_code 22 = .ok (.iconst 1, 1) := gd_MO_isAsked_16.2.2.2.2.1
theorem d_MO_isAsked_23 : decode prog_9_method_16_code 23 = .ok (.ldc 159, 2) := gd_MO_isAsked_16.2.2.2.2.2.1
theorem d_MO_isAsked_25 : decode prog_9_method_16_code 25 = .ok (.invokestatic 135, 3) := gd_MO_isAsked_16.2.2.2.2.2.2.1
theorem d_MO_isAsked_28 : decode prog_9_method_16_code 28 = .ok (.ifCond .eq 7, 3) := gd_MO_isAsked_16.2.2.2.2.2.2.2.1
theorem d_MO_isAsked_31 : decode prog_9_method_16_code 31 = .ok (.iconst 1, 1) := gd_MO_isAsked_16.2.2.2.2.2.2.2.2.1
theorem d_MO_isAsked_32 : decode prog_9_method_16_code 32 = .ok (.goto 4, 3) := gd_MO_isAsked_16.2.2.2.2.2.2.2.2.2
theorem gd_MO_takeWay_0 : (decode prog_9_method_17_code 0 = .ok (.aload_n 0, 1)) ∧ (decode prog_9_method_17_code 1 = .ok (.iconst 1, 1)) ∧ (decode prog_9_method_17_code 2 = .ok (.putfield 148, 3)) ∧ (decode prog_9_method_17_code 5 = .ok (.aload_n 0, 1)) ∧ (decode prog_9_method_17_code 6 = .ok (.aload_n 0, 1)) ∧ (decode prog_9_method_17_code 7 = .ok (.getfield 179, 3)) ∧ (decode prog_9_method_17_code 10 = .ok (.putfield 152, 3)) ∧ (decode prog_9_method_17_code 13 = .ok (.iconst 0, 1)) ∧ (decode prog_9_method_17_code 14 = .ok (.istore_n 1, 1)) ∧ (decode prog_9_method_17_code 15 = .ok (.iload_n 1, 1)) := by decide +kernel
theorem d_MO_takeWay_0 : decode prog_9_method_17_code 0 = .ok (.aload_n 0, 1) := gd_MO_takeWay_0.1
theorem d_MO_takeWay_1 : decode prog_9_method_17_code 1 = .ok (.iconst 1, 1) := gd_MO_takeWay_0.2.1
theorem d_MO_takeWay_2 : decode prog_9_method_17_code 2 = .ok (.putfield 148, 3) := gd_MO_takeWay_0.2.2.1
theorem d_MO_takeWay_5 : decode prog_9_method_17_code 5 = .ok (.aload_n 0, 1) := gd_MO_takeWay_0.2.2.2.1
theorem d_MO_takeWay_6 : decode prog_9_method_17_code 6 = .ok (.aload_n 0, 1) := gd_MO_takeWay_0.2.2.2.2.1
theorem d_MO_takeWay_7 : decode prog_9_method_17_code 7 = .ok (.getfield 179, 3) := gd_MO_takeWay_0.2.2.2.2.2.1
theorem d_MO_takeWay_10 : decode prog_9_method_17_code 10 = .ok (.putfield 152, 3) := gd_MO_takeWay_0.2.2.2.2.2.2.1
theorem d_MO_takeWay_13 : decode prog_9_method_17_code 13 = .ok (.iconst 0, 1) := gd_MO_takeWay_0.2.2.2.2.2.2.2.1
theorem d_MO_takeWay_14 : decode prog_9_method_17_code 14 = .ok (.istore_n 1, 1) := gd_MO_takeWay_0.2.2.2.2.2.2.2.2.1
theorem d_MO_takeWay_15 : decode prog_9_method_17_code 15 = .ok (.iload_n 1, 1) := gd_MO_takeWay_0.2.2.2.2.2.2.2.2.2
theorem gd_MO_takeWay_16 : (decode prog_9_method_17_code 16 = .ok (.aload_n 0, 1)) ∧ (decode prog_9_method_17_code 17 = .ok (.getfield 179, 3)) ∧ (decode prog_9_method_17_code 20 = .ok (.if_icmp .ge 33, 3)) ∧ (decode prog_9_method_17_code 53 = .ok (.return_, 1)) ∧ (decode prog_9_method_17_code 23 = .ok (.aload_n 0, 1)) ∧ (decode prog_9_method_17_code 24 = .ok (.getfield 102, 3)) ∧ (decode prog_9_method_17_code 27 = .ok (.iload_n 1, 1)) ∧ (decode prog_9_method_17_code 28 = .ok (.aload_n 0, 1)) ∧ (decode prog_9_method_17_code 29 = .ok (.getfield 120, 3)) ∧ (decode prog_9_method_17_code 32 = .ok (.iload_n 1, 1)) := by decide +kernel
theorem d_MO_takeWay_16 : decode prog_9_method_17_code 16 = .ok (.aload_n 0, 1) := gd_MO_takeWay_16.1
theorem d_MO_takeWay_17 : decode prog_9_method_17_code 17 = .ok (.getfield 179, 3) := gd_MO_takeWay_16.2.1
theorem d_MO_takeWay_20 : decode prog_9_method_17_code 20 = .ok (.if_icmp .ge 33, 3) := gd_MO_takeWay_16.2.2.1
theorem d_MO_takeWay_53 : decode prog_9_method_17_code 53 = .ok (.return_, 1) := gd_MO_takeWay_16.2.2.2.1
theorem d_MO_takeWay_23 : decode prog_9_method_17_code 23 = .ok (.aload_n 0, 1) := gd_MO_takeWay_16.2.2.2.2.1
theorem d_MO_takeWay_24 : decode prog_9_method_17_code 24 = .ok (.getfield 102, 3) := gd_MO_takeWay_16.2.2.2.2.2.1
theorem d_MO_takeWay_27 : decode prog_9_method_17_code 27 = .ok (.iload_n 1, 1) := gd_MO_takeWay_16.2.2.2.2.2.2.1
theorem d_MO_takeWay_28 : decode prog_9_method_17_code 28 = .ok (.aload_n 0, 1) := gd_MO_takeWay_16.2.2.2.2.2.2.2.1
theorem d_MO_takeWay_29 : decode prog_9_method_17_code 29 = .ok (.getfield 120, 3) := gd_MO_takeWay_16.2.2.2.2.2.2.2.2.1
theorem d_MO_takeWay_32 : decode prog_9_method_17_code 32 = .ok (.iload_n 1, 1) := gd_MO_takeWay_16.2.2.2.2.2.2.2.2.2
theorem gd_MO_takeWay_33 : (decode prog_9_method_17_code 33 = .ok (.iaload, 1)) ∧ (decode prog_9_method_17_code 34 = .ok (.iastore, 1)) ∧ (decode prog_9_method_17_code 35 = .ok (.aload_n 0, 1)) ∧ (decode prog_9_method_17_code 36 = .ok (.getfield 105, 3)) ∧ (decode prog_9_method_17_code 39 = .ok (.iload_n 1, 1)) ∧ (decode prog_9_method_17_code 40 = .ok (.aload_n 0, 1)) ∧ (decode prog_9_method_17_code 41 = .ok (.getfield 123, 3)) ∧ (decode prog_9_method_17_code 44 = .ok (.iload_n 1, 1)) ∧ (decode prog_9_method_17_code 45 = .ok (.iaload, 1)) ∧ (decode prog_9_method_17_code 46 = .ok (.iastore, 1)) := by decide +kernel
theorem d_MO_takeWay_33 : decode prog_9_method_17_code 33 = .ok (.iaload, 1) := gd_MO_takeWay_33.1
theorem d_MO_takeWay_34 : decode prog_9_method_17_code 34 = .ok (.iastore, 1) := gd_MO_takeWay_33.2.1
theorem d_MO_takeWay_35 : decode prog_9_method_17_code 35 = .ok (.aload_n 0, 1) := gd_MO_takeWay_33.2.2.1
theorem d_MO_takeWay_36 : decode prog_9_method_17_code 36 = .ok (.getfield 105, 3) := gd_MO_takeWay_33.2.2.2.1
theorem d_MO_takeWay_39 : decode prog_9_method_17_code 39 = .ok (.iload_n 1, 1) := gd_MO_takeWay_33.2.2.2.2.1
theorem d_MO_takeWay_40 : decode prog_9_method_17_code 40 = .ok (.aload_n 0, 1) := gd_MO_takeWay_33.2.2.2.2.2.1
theorem d_MO_takeWay_41 : decode prog_9_method_17_code 41 = .ok (.getfield 123, 3) := gd_MO_takeWay_33.2.2.2.2.2.2.1
theorem d_MO_takeWay_44 : decode prog_9_method_17_code 44 = .ok (.iload_n 1, 1) := gd_MO_takeWay_33.2.2.2.2.2.2.2.1
theorem d_MO_takeWay_45 : decode prog_9_method_17_code 45 = .ok (.iaload, 1) := gd_MO_takeWay_33.2.2.2.2.2.2.2.2.1
theorem d_MO_takeWay_46 : decode prog_9_method_17_code 46 = .ok (.iastore, 1) := gd_MO_takeWay_33.2.2.2.2.2.2.2.2.2
theorem gd_MO_takeWay_47 : (decode prog_9_method_17_code 47 = .ok (.iinc 1 1, 3)) ∧ (decode prog_9_method_17_code 50 = .ok (.goto (-35), 3)) := by decide +kernel
theorem d_MO_takeWay_47 : decode prog_9_method_17_code 47 = .ok (.iinc 1 1, 3) := gd_MO_takeWay_47.1
theorem d_MO_takeWay_50 : decode prog_9_method_17_code 50 = .ok (.goto (-35), 3) := gd_MO_takeWay_47.2
theorem gd_MO_wayAt_0 : (decode prog_9_method_19_code 0 = .ok (.aload_n 0, 1)) ∧ (decode prog_9_method_19_code 1 = .ok (.getfield 148, 3)) ∧ (decode prog_9_method_19_code 4 = .ok (.ifCond .eq 26, 3)) ∧ (decode prog_9_method_19_code 30 = .ok (.iconst (-1), 1)) ∧ (decode prog_9_method_19_code 31 = .ok (.ireturn, 1)) ∧ (decode prog_9_method_19_code 7 = .ok (.iload_n 1, 1)) ∧ (decode prog_9_method_19_code 8 = .ok (.iconst 0, 1)) ∧ (decode prog_9_method_19_code 9 = .ok (.aload_n 0, 1)) ∧ (decode prog_9_method_19_code 10 = .ok (.getfield 152, 3)) ∧ (decode prog_9_method_19_code 13 = .ok (.iconst 1, 1)) := by decide +kernel
theorem d_MO_wayAt_0 : decode prog_9_method_19_code 0 = .ok (.aload_n 0, 1) := gd_MO_wayAt_0.1
theorem d_MO_wayAt_1 : decode prog_9_method_19_code 1 = .ok (.getfield 148, 3) := gd_MO_wayAt_0.2.1
theorem d_MO_wayAt_4 : decode prog_9_method_19_code 4 = .ok (.ifCond .eq 26, 3) := gd_MO_wayAt_0.2.2.1
theorem d_MO_wayAt_30 : decode prog_9_method_19_code 30 = .ok (.iconst (-1), 1) := gd_MO_wayAt_0.2.2.2.1
theorem d_MO_wayAt_31 : decode prog_9_method_19_code 31 = .ok (.ireturn, 1) := gd_MO_wayAt_0.2.2.2.2.1
theorem d_MO_wayAt_7 : decode prog_9_method_19_code 7 = .ok (.iload_n 1, 1) := gd_MO_wayAt_0.2.2.2.2.2.1
theorem d_MO_wayAt_8 : decode prog_9_method_19_code 8 = .ok (.iconst 0, 1) := gd_MO_wayAt_0.2.2.2.2.2.2.1
theorem d_MO_wayAt_9 : decode prog_9_method_19_code 9 = .ok (.aload_n 0, 1) := gd_MO_wayAt_0.2.2.2.2.2.2.2.1
theorem d_MO_wayAt_10 : decode prog_9_method_19_code 10 = .ok (.getfield 152, 3) := gd_MO_wayAt_0.2.2.2.2.2.2.2.2.1
theorem d_MO_wayAt_13 : decode prog_9_method_19_code 13 = .ok (.iconst 1, 1) := gd_MO_wayAt_0.2.2.2.2.2.2.2.2.2
theorem gd_MO_wayAt_14 : (decode prog_9_method_19_code 14 = .ok (.isub, 1)) ∧ (decode prog_9_method_19_code 15 = .ok (.invokestatic 135, 3)) ∧ (decode prog_9_method_19_code 18 = .ok (.ifCond .eq 12, 3)) ∧ (decode prog_9_method_19_code 21 = .ok (.aload_n 0, 1)) ∧ (decode prog_9_method_19_code 22 = .ok (.getfield 102, 3)) ∧ (decode prog_9_method_19_code 25 = .ok (.iload_n 1, 1)) ∧ (decode prog_9_method_19_code 26 = .ok (.iaload, 1)) ∧ (decode prog_9_method_19_code 27 = .ok (.goto 4, 3)) := by decide +kernel
theorem d_MO_wayAt_14 : decode prog_9_method_19_code 14 = .ok (.isub, 1) := gd_MO_wayAt_14.1
theorem d_MO_wayAt_15 : decode prog_9_method_19_code 15 = .ok (.invokestatic 135, 3) := gd_MO_wayAt_14.2.1
theorem d_MO_wayAt_18 : decode prog_9_method_19_code 18 = .ok (.ifCond .eq 12, 3) := gd_MO_wayAt_14.2.2.1
theorem d_MO_wayAt_21 : decode prog_9_method_19_code 21 = .ok (.aload_n 0, 1) := gd_MO_wayAt_14.2.2.2.1
theorem d_MO_wayAt_22 : decode prog_9_method_19_code 22 = .ok (.getfield 102, 3) := gd_MO_wayAt_14.2.2.2.2.1
theorem d_MO_wayAt_25 : decode prog_9_method_19_code 25 = .ok (.iload_n 1, 1) := gd_MO_wayAt_14.2.2.2.2.2.1
theorem d_MO_wayAt_26 : decode prog_9_method_19_code 26 = .ok (.iaload, 1) := gd_MO_wayAt_14.2.2.2.2.2.2.1
theorem d_MO_wayAt_27 : decode prog_9_method_19_code 27 = .ok (.goto 4, 3) := gd_MO_wayAt_14.2.2.2.2.2.2.2
theorem gd_MO_isOpen_0 : (decode prog_9_method_21_code 0 = .ok (.aload_n 0, 1)) ∧ (decode prog_9_method_21_code 1 = .ok (.getfield 75, 3)) ∧ (decode prog_9_method_21_code 4 = .ok (.iload_n 1, 1)) ∧ (decode prog_9_method_21_code 5 = .ok (.iaload, 1)) ∧ (decode prog_9_method_21_code 6 = .ok (.aload_n 0, 1)) ∧ (decode prog_9_method_21_code 7 = .ok (.getfield 78, 3)) ∧ (decode prog_9_method_21_code 10 = .ok (.iload_n 1, 1)) ∧ (decode prog_9_method_21_code 11 = .ok (.iaload, 1)) ∧ (decode prog_9_method_21_code 12 = .ok (.iadd, 1)) ∧ (decode prog_9_method_21_code 13 = .ok (.aload_n 0, 1)) := by decide +kernel
theorem d_MO_isOpen_0 : decode prog_9_method_21_code 0 = .ok (.aload_n 0, 1) := gd_MO_isOpen_0.1
theorem d_MO_isOpen_1 : decode prog_9_method_21_code 1 = .ok (.getfield 75, 3) := gd_MO_isOpen_0.2.1
theorem d_MO_isOpen_4 : decode prog_9_method_21_code 4 = .ok (.iload_n 1, 1) := gd_MO_isOpen_0.2.2.1
theorem d_MO_isOpen_5 : decode prog_9_method_21_code 5 = .ok (.iaload, 1) := gd_MO_isOpen_0.2.2.2.1
theorem d_MO_isOpen_6 : decode prog_9_method_21_code 6 = .ok (.aload_n 0, 1) := gd_MO_isOpen_0.2.2.2.2.1
theorem d_MO_isOpen_7 : decode prog_9_method_21_code 7 = .ok (.getfield 78, 3) := gd_MO_isOpen_0.2.2.2.2.2.1
theorem d_MO_isOpen_10 : decode prog_9_method_21_code 10 = .ok (.iload_n 1, 1) := gd_MO_isOpen_0.2.2.2.2.2.2.1
theorem d_MO_isOpen_11 : decode prog_9_method_21_code 11 = .ok (.iaload, 1) := gd_MO_isOpen_0.2.2.2.2.2.2.2.1
theorem d_MO_isOpen_12 : decode prog_9_method_21_code 12 = .ok (.iadd, 1) := gd_MO_isOpen_0.2.2.2.2.2.2.2.2.1
theorem d_MO_isOpen_13 : decode prog_9_method_21_code 13 = .ok (.aload_n 0, 1) := gd_MO_isOpen_0.2.2.2.2.2.2.2.2.2
theorem gd_MO_isOpen_14 : (decode prog_9_method_21_code 14 = .ok (.getfield 72, 3)) ∧ (decode prog_9_method_21_code 17 = .ok (.iload_n 1, 1)) ∧ (decode prog_9_method_21_code 18 = .ok (.iaload, 1)) ∧ (decode prog_9_method_21_code 19 = .ok (.if_icmp .ge 7, 3)) ∧ (decode prog_9_method_21_code 26 = .ok (.iconst 0, 1)) ∧ (decode prog_9_method_21_code 27 = .ok (.ireturn, 1)) ∧ (decode prog_9_method_21_code 22 = .ok (.iconst 1, 1)) ∧ (decode prog_9_method_21_code 23 = .ok (.goto 4, 3)) := by decide +kernel
theorem d_MO_isOpen_14 : decode prog_9_method_21_code 14 = .ok (.getfield 72, 3) := gd_MO_isOpen_14.1
theorem d_MO_isOpen_17 : decode prog_9_method_21_code 17 = .ok (.iload_n 1, 1) := gd_MO_isOpen_14.2.1
theorem d_MO_isOpen_18 : decode prog_9_method_21_code 18 = .ok (.iaload, 1) := gd_MO_isOpen_14.2.2.1
theorem d_MO_isOpen_19 : decode prog_9_method_21_code 19 = .ok (.if_icmp .ge 7, 3) := gd_MO_isOpen_14.2.2.2.1
theorem d_MO_isOpen_26 : decode prog_9_method_21_code 26 = .ok (.iconst 0, 1) := gd_MO_isOpen_14.2.2.2.2.1
theorem d_MO_isOpen_27 : decode prog_9_method_21_code 27 = .ok (.ireturn, 1) := gd_MO_isOpen_14.2.2.2.2.2.1
theorem d_MO_isOpen_22 : decode prog_9_method_21_code 22 = .ok (.iconst 1, 1) := gd_MO_isOpen_14.2.2.2.2.2.2.1
theorem d_MO_isOpen_23 : decode prog_9_method_21_code 23 = .ok (.goto 4, 3) := gd_MO_isOpen_14.2.2.2.2.2.2.2
theorem gd_MO_size_0 : (decode prog_9_method_39_code 0 = .ok (.iload_n 0, 1)) ∧ (decode prog_9_method_39_code 1 = .ok (.ifCond .ge 8, 3)) ∧ (decode prog_9_method_39_code 9 = .ok (.iload_n 0, 1)) ∧ (decode prog_9_method_39_code 10 = .ok (.ireturn, 1)) ∧ (decode prog_9_method_39_code 4 = .ok (.iload_n 0, 1)) ∧ (decode prog_9_method_39_code 5 = .ok (.ineg, 1)) ∧ (decode prog_9_method_39_code 6 = .ok (.goto 4, 3)) := by decide +kernel
theorem d_MO_size_0 : decode prog_9_method_39_code 0 = .ok (.iload_n 0, 1) := gd_MO_size_0.1
theorem d_MO_size_1 : decode prog_9_method_39_code 1 = .ok (.ifCond .ge 8, 3) := gd_MO_size_0.2.1
theorem d_MO_size_9 : decode prog_9_method_39_code 9 = .ok (.iload_n 0, 1) := gd_MO_size_0.2.2.1
theorem d_MO_size_10 : decode prog_9_method_39_code 10 = .ok (.ireturn, 1) := gd_MO_size_0.2.2.2.1
theorem d_MO_size_4 : decode prog_9_method_39_code 4 = .ok (.iload_n 0, 1) := gd_MO_size_0.2.2.2.2.1
theorem d_MO_size_5 : decode prog_9_method_39_code 5 = .ok (.ineg, 1) := gd_MO_size_0.2.2.2.2.2.1
theorem d_MO_size_6 : decode prog_9_method_39_code 6 = .ok (.goto 4, 3) := gd_MO_size_0.2.2.2.2.2.2
theorem gd_MO_off_0 : (decode prog_9_method_40_code 0 = .ok (.iconst 0, 1)) ∧ (decode prog_9_method_40_code 1 = .ok (.istore_n 1, 1)) ∧ (decode prog_9_method_40_code 2 = .ok (.iconst 0, 1)) ∧ (decode prog_9_method_40_code 3 = .ok (.istore_n 2, 1)) ∧ (decode prog_9_method_40_code 4 = .ok (.iload_n 2, 1)) ∧ (decode prog_9_method_40_code 5 = .ok (.aload_n 0, 1)) ∧ (decode prog_9_method_40_code 6 = .ok (.getfield 139, 3)) ∧ (decode prog_9_method_40_code 9 = .ok (.if_icmp .ge 47, 3)) ∧ (decode prog_9_method_40_code 56 = .ok (.iload_n 1, 1)) ∧ (decode prog_9_method_40_code 57 = .ok (.ireturn, 1)) := by decide +kernel
theorem d_MO_off_0 : decode prog_9_method_40_code 0 = .ok (.iconst 0, 1) := gd_MO_off_0.1
theorem d_MO_off_1 : decode prog_9_method_40_code 1 = .ok (.istore_n 1, 1) := gd_MO_off_0.2.1
theorem d_MO_off_2 : decode prog_9_method_40_code 2 = .ok (.iconst 0, 1) := gd_MO_off_0.2.2.1
theorem d_MO_off_3 : decode prog_9_method_40_code 3 = .ok (.istore_n 2, 1) := gd_MO_off_0.2.2.2.1
theorem d_MO_off_4 : decode prog_9_method_40_code 4 = .ok (.iload_n 2, 1) := gd_MO_off_0.2.2.2.2.1
theorem d_MO_off_5 : decode prog_9_method_40_code 5 = .ok (.aload_n 0, 1) := gd_MO_off_0.2.2.2.2.2.1
theorem d_MO_off_6 : decode prog_9_method_40_code 6 = .ok (.getfield 139, 3) := gd_MO_off_0.2.2.2.2.2.2.1
theorem d_MO_off_9 : decode prog_9_method_40_code 9 = .ok (.if_icmp .ge 47, 3) := gd_MO_off_0.2.2.2.2.2.2.2.1
theorem d_MO_off_56 : decode prog_9_method_40_code 56 = .ok (.iload_n 1, 1) := gd_MO_off_0.2.2.2.2.2.2.2.2.1
theorem d_MO_off_57 : decode prog_9_method_40_code 57 = .ok (.ireturn, 1) := gd_MO_off_0.2.2.2.2.2.2.2.2.2
theorem gd_MO_off_12 : (decode prog_9_method_40_code 12 = .ok (.iload_n 1, 1)) ∧ (decode prog_9_method_40_code 13 = .ok (.aload_n 0, 1)) ∧ (decode prog_9_method_40_code 14 = .ok (.getfield 42, 3)) ∧ (decode prog_9_method_40_code 17 = .ok (.iload_n 2, 1)) ∧ (decode prog_9_method_40_code 18 = .ok (.iaload, 1)) ∧ (decode prog_9_method_40_code 19 = .ok (.ifCond .ne 28, 3)) ∧ (decode prog_9_method_40_code 47 = .ok (.iconst 0, 1)) ∧ (decode prog_9_method_40_code 48 = .ok (.iadd, 1)) ∧ (decode prog_9_method_40_code 49 = .ok (.istore_n 1, 1)) ∧ (decode prog_9_method_40_code 50 = .ok (.iinc 2 1, 3)) := by decide +kernel
theorem d_MO_off_12 : decode prog_9_method_40_code 12 = .ok (.iload_n 1, 1) := gd_MO_off_12.1
theorem d_MO_off_13 : decode prog_9_method_40_code 13 = .ok (.aload_n 0, 1) := gd_MO_off_12.2.1
theorem d_MO_off_14 : decode prog_9_method_40_code 14 = .ok (.getfield 42, 3) := gd_MO_off_12.2.2.1
theorem d_MO_off_17 : decode prog_9_method_40_code 17 = .ok (.iload_n 2, 1) := gd_MO_off_12.2.2.2.1
theorem d_MO_off_18 : decode prog_9_method_40_code 18 = .ok (.iaload, 1) := gd_MO_off_12.2.2.2.2.1
theorem d_MO_off_19 : decode prog_9_method_40_code 19 = .ok (.ifCond .ne 28, 3) := gd_MO_off_12.2.2.2.2.2.1
theorem d_MO_off_47 : decode prog_9_method_40_code 47 = .ok (.iconst 0, 1) := gd_MO_off_12.2.2.2.2.2.2.1
theorem d_MO_off_48 : decode prog_9_method_40_code 48 = .ok (.iadd, 1) := gd_MO_off_12.2.2.2.2.2.2.2.1
theorem d_MO_off_49 : decode prog_9_method_40_code 49 = .ok (.istore_n 1, 1) := gd_MO_off_12.2.2.2.2.2.2.2.2.1
theorem d_MO_off_50 : decode prog_9_method_40_code 50 = .ok (.iinc 2 1, 3) := gd_MO_off_12.2.2.2.2.2.2.2.2.2
theorem gd_MO_off_53 : (decode prog_9_method_40_code 53 = .ok (.goto (-49), 3)) ∧ (decode prog_9_method_40_code 22 = .ok (.aload_n 0, 1)) ∧ (decode prog_9_method_40_code 23 = .ok (.getfield 36, 3)) ∧ (decode prog_9_method_40_code 26 = .ok (.iconst 2, 1)) ∧ (decode prog_9_method_40_code 27 = .ok (.iload_n 2, 1)) ∧ (decode prog_9_method_40_code 28 = .ok (.imul, 1)) ∧ (decode prog_9_method_40_code 29 = .ok (.iaload, 1)) ∧ (decode prog_9_method_40_code 30 = .ok (.aload_n 0, 1)) ∧ (decode prog_9_method_40_code 31 = .ok (.getfield 36, 3)) ∧ (decode prog_9_method_40_code 34 = .ok (.iconst 2, 1)) := by decide +kernel
theorem d_MO_off_53 : decode prog_9_method_40_code 53 = .ok (.goto (-49), 3) := gd_MO_off_53.1
theorem d_MO_off_22 : decode prog_9_method_40_code 22 = .ok (.aload_n 0, 1) := gd_MO_off_53.2.1
theorem d_MO_off_23 : decode prog_9_method_40_code 23 = .ok (.getfield 36, 3) := gd_MO_off_53.2.2.1
theorem d_MO_off_26 : decode prog_9_method_40_code 26 = .ok (.iconst 2, 1) := gd_MO_off_53.2.2.2.1
theorem d_MO_off_27 : decode prog_9_method_40_code 27 = .ok (.iload_n 2, 1) := gd_MO_off_53.2.2.2.2.1
theorem d_MO_off_28 : decode prog_9_method_40_code 28 = .ok (.imul, 1) := gd_MO_off_53.2.2.2.2.2.1
theorem d_MO_off_29 : decode prog_9_method_40_code 29 = .ok (.iaload, 1) := gd_MO_off_53.2.2.2.2.2.2.1
theorem d_MO_off_30 : decode prog_9_method_40_code 30 = .ok (.aload_n 0, 1) := gd_MO_off_53.2.2.2.2.2.2.2.1
theorem d_MO_off_31 : decode prog_9_method_40_code 31 = .ok (.getfield 36, 3) := gd_MO_off_53.2.2.2.2.2.2.2.2.1
theorem d_MO_off_34 : decode prog_9_method_40_code 34 = .ok (.iconst 2, 1) := gd_MO_off_53.2.2.2.2.2.2.2.2.2
theorem gd_MO_off_35 : (decode prog_9_method_40_code 35 = .ok (.iload_n 2, 1)) ∧ (decode prog_9_method_40_code 36 = .ok (.imul, 1)) ∧ (decode prog_9_method_40_code 37 = .ok (.iconst 1, 1)) ∧ (decode prog_9_method_40_code 38 = .ok (.iadd, 1)) ∧ (decode prog_9_method_40_code 39 = .ok (.iaload, 1)) ∧ (decode prog_9_method_40_code 40 = .ok (.isub, 1)) ∧ (decode prog_9_method_40_code 41 = .ok (.invokestatic 220, 3)) ∧ (decode prog_9_method_40_code 44 = .ok (.goto 4, 3)) := by decide +kernel
theorem d_MO_off_35 : decode prog_9_method_40_code 35 = .ok (.iload_n 2, 1) := gd_MO_off_35.1
theorem d_MO_off_36 : decode prog_9_method_40_code 36 = .ok (.imul, 1) := gd_MO_off_35.2.1
theorem d_MO_off_37 : decode prog_9_method_40_code 37 = .ok (.iconst 1, 1) := gd_MO_off_35.2.2.1
theorem d_MO_off_38 : decode prog_9_method_40_code 38 = .ok (.iadd, 1) := gd_MO_off_35.2.2.2.1
theorem d_MO_off_39 : decode prog_9_method_40_code 39 = .ok (.iaload, 1) := gd_MO_off_35.2.2.2.2.1
theorem d_MO_off_40 : decode prog_9_method_40_code 40 = .ok (.isub, 1) := gd_MO_off_35.2.2.2.2.2.1
theorem d_MO_off_41 : decode prog_9_method_40_code 41 = .ok (.invokestatic 220, 3) := gd_MO_off_35.2.2.2.2.2.2.1
theorem d_MO_off_44 : decode prog_9_method_40_code 44 = .ok (.goto 4, 3) := gd_MO_off_35.2.2.2.2.2.2.2
set_option maxHeartbeats 4000000 in
set_option maxRecDepth 100000 in
theorem e_MO_in (l : Launch) (D : va_G) (cI cZ : ClassId) (v : Int32) (a : Int32) (b : Int32) (sz : Nat)  : Met l ⟨"PromiseChainsModel", "in", "(III)Z"⟩ (mw ⟨"PromiseChainsModel", "in", "(III)Z"⟩ prog_9_method_3_code 3 (some .boolean)) ({ frames := 0, cells := 0, slots := 0, locals := 0 }) (va_Pc [.int v, .int a, .int b] (PB D cI cZ sz [])) (vp_Si (fun r => r = isw v a b)) 0 0 (fun _ => False) := by
  refine Met.ofW (cc := prog_9_method_3_code) (maxL := 3) (ret := (some .boolean)) (by decide) rfl ?_
  intro p e s m args below meth c s₁ B hml hv
  obtain ⟨rfl, hsz, hP, hK, hD0, hN⟩ := hv
  have hx := B.exec
  have hb := B.bytes
  have hr := B.returns
  have hts0 := atoms_spec (ws := mw ⟨"PromiseChainsModel", "in", "(III)Z"⟩ prog_9_method_3_code 3 (some .boolean)) B.pre
  have hts : ∀ w ∈ tblG, w.before _ s = true := fun w h => hts0 w (List.mem_cons_of_mem _ h)
  have hown : s.vm.findClass "PromiseChainsModel" = some m.cls := findClass_of_methodNamed B.named
  have hlocks := B.notSynchronized
  subst hsz
  have hD := hD0
  have hP : va_P D vwCl [] s.heap := hP
  have hl := lv_entry ([.int v, .int a, .int b]) (n := 3) (Nat.le_of_ble_eq_true rfl)
  rw [lg_entry_eq]
  generalize (lg_sl ([.int v, .int a, .int b]) ++ List.replicate (3 - (lg_sl ([.int v, .int a, .int b])).length) Slot.unset).toArray = ls at hl ⊢
  have hl : lv_has ls 3 [(0, .int v), (1, .int a), (2, .int b)] := hl
  refine lv_iload_n hx hb d_MO_in_0 rfl (lv_at hl 0 rfl) ?_
  refine lv_iload_n hx hb d_MO_in_1 rfl (lv_at hl 1 rfl) ?_
  refine lv_icmp_lt (tgt := 14) hx hb d_MO_in_2 (by decide) (fun h_1 => ?_) (fun h_1 => ?_)
  · refine lv_iconst (v := 0) hx hb d_MO_in_14 (by decide) ?_
    exact W.zret (v := 0) hx hb hr rfl (fun tT ht hW => ⟨0, rfl, (by simp [isw, h_1]), ht⟩) (fun q h => absurd h List.not_mem_nil) d_MO_in_15
  · refine lv_iload_n hx hb d_MO_in_5 rfl (lv_at hl 0 rfl) ?_
    refine lv_iload_n hx hb d_MO_in_6 rfl (lv_at hl 2 rfl) ?_
    refine lv_icmp_gt (tgt := 14) hx hb d_MO_in_7 (by decide) (fun h_2 => ?_) (fun h_2 => ?_)
    · refine lv_iconst (v := 0) hx hb d_MO_in_14 (by decide) ?_
      exact W.zret (v := 0) hx hb hr rfl (fun tT ht hW => ⟨0, rfl, (by simp [isw, h_1, h_2]), ht⟩) (fun q h => absurd h List.not_mem_nil) d_MO_in_15
    · refine lv_iconst (v := 1) hx hb d_MO_in_10 (by decide) ?_
      refine lv_goto (tgt := 15) hx hb d_MO_in_11 (by decide) ?_
      exact W.zret (v := 1) hx hb hr rfl (fun tT ht hW => ⟨1, rfl, (by simp [isw, h_1, h_2]), ht⟩) (fun q h => absurd h List.not_mem_nil) d_MO_in_15

set_option maxHeartbeats 4000000 in
set_option maxRecDepth 100000 in
theorem e_MO_isPerson (l : Launch) (D : va_G) (cI cZ : ClassId) (y : Nat) (i : Int32) (mn : Nat) (mtm : Int32) (mgp : Int32) (mlk : Int32) (y1 : Nat) (y2 : Nat) (y3 : Nat) (y4 : Nat) (mp : Nat) (y5 : Nat) (y6 : Nat) (y7 : Nat) (y8 : Nat) (y9 : Nat) (y10 : Nat) (y11 : Nat) (y12 : Nat) (y13 : Nat) (y14 : Nat) (y15 : Nat) (mq : Nat) (y16 : Nat) (y17 : Nat) (y18 : Nat) (y19 : Nat) (y20 : Nat) (y21 : Nat) (y22 : Nat) (y23 : Nat) (y24 : Nat) (y25 : Nat) (y26 : Nat) (y27 : Nat) (mhw : Int32) (mwn : Nat) (y28 : Nat) (y29 : Nat) (y30 : Nat) (y31 : Nat) (y32 : Nat) (y33 : Nat) (y34 : Nat) (y35 : Nat) (y36 : Nat) (mbm : Nat) (y37 : Nat) (y38 : Nat) (mrm : Nat) (mro : Int32) (mrs : Int32) (sz : Nat) (h_mn : mn ≤ 7) (h_mp : mp ≤ 12) (h_mq : mq ≤ 40) (h_mwn : mwn ≤ 8) (h_mbm : mbm ≤ 8) (h_mrm : mrm ≤ 8) : Met l ⟨"PromiseChainsModel", "isPerson", "(I)Z"⟩ (mw ⟨"PromiseChainsModel", "isPerson", "(I)Z"⟩ prog_9_method_4_code 2 (some .boolean)) ({ frames := 1, cells := 0, slots := 0, locals := 22 }) (va_Pc [.ref y, .int i] (PB D cI cZ sz [(y, .inr (7, [.int (nI mn), .int mtm, .int mgp, .int mlk, .ref y1, .ref y2, .ref y3, .ref y4, .int (nI mp), .ref y5, .ref y6, .ref y7, .ref y8, .ref y9, .ref y10, .ref y11, .ref y12, .ref y13, .ref y14, .ref y15, .int (nI mq), .ref y16, .ref y17, .ref y18, .ref y19, .ref y20, .ref y21, .ref y22, .ref y23, .ref y24, .ref y25, .ref y26, .ref y27, .int mhw, .int (nI mwn), .ref y28, .ref y29, .ref y30, .ref y31, .ref y32, .ref y33, .ref y34, .ref y35, .ref y36, .int (nI mbm), .ref y37, .ref y38, .int (nI mrm), .int mro, .int mrs]))])) (vp_Si (fun r => (isw i 0 (nI mn - 1) = 0 ∧ r = 0) ∨ (∃ j : Nat, j < mn ∧ i = nI j ∧ ¬ isw i 0 (nI mn - 1) = 0 ∧ r = 1))) 0 0 (fun _ => False) := by
  refine Met.ofW (cc := prog_9_method_4_code) (maxL := 2) (ret := (some .boolean)) (by decide) rfl ?_
  intro p e s m args below meth c s₁ B hml hv
  obtain ⟨rfl, hsz, hP, hK, hD0, hN⟩ := hv
  have hx := B.exec
  have hb := B.bytes
  have hr := B.returns
  have hts0 := atoms_spec (ws := mw ⟨"PromiseChainsModel", "isPerson", "(I)Z"⟩ prog_9_method_4_code 2 (some .boolean)) B.pre
  have hts : ∀ w ∈ tblG, w.before _ s = true := fun w h => hts0 w (List.mem_cons_of_mem _ h)
  have hown : s.vm.findClass "PromiseChainsModel" = some m.cls := findClass_of_methodNamed B.named
  have hlocks := B.notSynchronized
  subst hsz
  have hD := hD0
  have hP : va_P D vwCl [(y, .inr (7, [.int (nI mn), .int mtm, .int mgp, .int mlk, .ref y1, .ref y2, .ref y3, .ref y4, .int (nI mp), .ref y5, .ref y6, .ref y7, .ref y8, .ref y9, .ref y10, .ref y11, .ref y12, .ref y13, .ref y14, .ref y15, .int (nI mq), .ref y16, .ref y17, .ref y18, .ref y19, .ref y20, .ref y21, .ref y22, .ref y23, .ref y24, .ref y25, .ref y26, .ref y27, .int mhw, .int (nI mwn), .ref y28, .ref y29, .ref y30, .ref y31, .ref y32, .ref y33, .ref y34, .ref y35, .ref y36, .int (nI mbm), .ref y37, .ref y38, .int (nI mrm), .int mro, .int mrs]))] s.heap := hP
  have hl := lv_entry ([.ref y, .int i]) (n := 2) (Nat.le_of_ble_eq_true rfl)
  rw [lg_entry_eq]
  generalize (lg_sl ([.ref y, .int i]) ++ List.replicate (2 - (lg_sl ([.ref y, .int i])).length) Slot.unset).toArray = ls at hl ⊢
  have hl : lv_has ls 2 [(0, .ref y), (1, .int i)] := hl
  refine lv_iload_n hx hb d_MO_isPerson_0 rfl (lv_at hl 1 rfl) ?_
  refine lv_iconst (v := 0) hx hb d_MO_isPerson_1 (by decide) ?_
  refine lv_aload_n hx hb d_MO_isPerson_2 rfl (lv_at hl 0 rfl) ?_
  refine va_get (D := D) (ci := 7) (v := .int (nI mn)) (C := R_MO) (T := F_MO) (N := 50) hx hb hts i_MO hown hK hP 0 rfl rfl 0 (by decide) (hts _ q_632) (fun _ h9 => h9) rfl d_MO_isPerson_3 ?_
  refine lv_iconst (v := 1) hx hb d_MO_isPerson_6 (by decide) ?_
  refine lv_isub hx hb d_MO_isPerson_7 ?_
  have hPc := hP.sub (ws' := []) [] rfl
  have hDc := hD.sub (ws' := []) [] (by decide +kernel) rfl
  refine vp_callSi (va_Run.run (va_runS (As := [.int i, .int 0, .int ((nI mn) - 1)]) (rest := []) ⟨hx, hb, hml, hown, hts⟩ (e_MO_in l D cI cZ i 0 ((nI mn) - 1) s.heap.size ) (my_cwS 3 hts q_789 q_787 q_788 q_8 rfl rfl (by decide +kernel) ⟨Nat.le_of_ble_eq_true rfl, Nat.le_of_ble_eq_true rfl⟩) (my_preS hPc hDc hK hN) rfl rfl hl.1 rfl (lv_room (Nat.le_of_ble_eq_true rfl)) d_MO_isPerson_8 ⟨Nat.le_of_ble_eq_true rfl, Nat.le_of_ble_eq_true rfl⟩)) (fun r_1 hw_1 => ?_)
  have hf_1_0 : r_1 = isw i 0 ((nI mn) - 1) := hw_1
  have hf_1_0 : r_1 = isw i 0 ((nI mn) - 1) := hf_1_0
  subst hf_1_0
  by_cases hz_2 : isw i 0 ((nI mn) - 1) = 0
  · refine lv_seti (0) hz_2 ?_
    exact W.zret (v := 0) hx hb hr rfl (fun tT ht hW => ⟨0, rfl, (Or.inl ⟨hz_2, rfl⟩), ht⟩) (fun q h => absurd h List.not_mem_nil) d_MO_isPerson_11
  · obtain ⟨j, hj, hi⟩ := isw_nI (by omega) hz_2
    refine lv_seti (1) (isw_one hz_2) ?_
    exact W.zret (v := 1) hx hb hr rfl (fun tT ht hW => ⟨1, rfl, (Or.inr ⟨j, hj, hi, hz_2, rfl⟩), ht⟩) (fun q h => absurd h List.not_mem_nil) d_MO_isPerson_11

set_option maxHeartbeats 4000000 in
set_option maxRecDepth 100000 in
theorem e_MO_isPair (l : Launch) (D : va_G) (cI cZ : ClassId) (y : Nat) (i : Int32) (mn : Nat) (mtm : Int32) (mgp : Int32) (mlk : Int32) (y1 : Nat) (y2 : Nat) (y3 : Nat) (y4 : Nat) (mp : Nat) (y5 : Nat) (y6 : Nat) (y7 : Nat) (y8 : Nat) (y9 : Nat) (y10 : Nat) (y11 : Nat) (y12 : Nat) (y13 : Nat) (y14 : Nat) (y15 : Nat) (mq : Nat) (y16 : Nat) (y17 : Nat) (y18 : Nat) (y19 : Nat) (y20 : Nat) (y21 : Nat) (y22 : Nat) (y23 : Nat) (y24 : Nat) (y25 : Nat) (y26 : Nat) (y27 : Nat) (mhw : Int32) (mwn : Nat) (y28 : Nat) (y29 : Nat) (y30 : Nat) (y31 : Nat) (y32 : Nat) (y33 : Nat) (y34 : Nat) (y35 : Nat) (y36 : Nat) (mbm : Nat) (y37 : Nat) (y38 : Nat) (mrm : Nat) (mro : Int32) (mrs : Int32) (sz : Nat) (h_mn : mn ≤ 7) (h_mp : mp ≤ 12) (h_mq : mq ≤ 40) (h_mwn : mwn ≤ 8) (h_mbm : mbm ≤ 8) (h_mrm : mrm ≤ 8) : Met l ⟨"PromiseChainsModel", "isPair", "(I)Z"⟩ (mw ⟨"PromiseChainsModel", "isPair", "(I)Z"⟩ prog_9_method_5_code 2 (some .boolean)) ({ frames := 1, cells := 0, slots := 0, locals := 22 }) (va_Pc [.ref y, .int i] (PB D cI cZ sz [(y, .inr (7, [.int (nI mn), .int mtm, .int mgp, .int mlk, .ref y1, .ref y2, .ref y3, .ref y4, .int (nI mp), .ref y5, .ref y6, .ref y7, .ref y8, .ref y9, .ref y10, .ref y11, .ref y12, .ref y13, .ref y14, .ref y15, .int (nI mq), .ref y16, .ref y17, .ref y18, .ref y19, .ref y20, .ref y21, .ref y22, .ref y23, .ref y24, .ref y25, .ref y26, .ref y27, .int mhw, .int (nI mwn), .ref y28, .ref y29, .ref y30, .ref y31, .ref y32, .ref y33, .ref y34, .ref y35, .ref y36, .int (nI mbm), .ref y37, .ref y38, .int (nI mrm), .int mro, .int mrs]))])) (vp_Si (fun r => (isw i 0 (nI mp - 1) = 0 ∧ r = 0) ∨ (∃ j : Nat, j < mp ∧ i = nI j ∧ ¬ isw i 0 (nI mp - 1) = 0 ∧ r = 1))) 0 0 (fun _ => False) := by
  refine Met.ofW (cc := prog_9_method_5_code) (maxL := 2) (ret := (some .boolean)) (by decide) rfl ?_
  intro p e s m args below meth c s₁ B hml hv
  obtain ⟨rfl, hsz, hP, hK, hD0, hN⟩ := hv
  have hx := B.exec
  have hb := B.bytes
  have hr := B.returns
  have hts0 := atoms_spec (ws := mw ⟨"PromiseChainsModel", "isPair", "(I)Z"⟩ prog_9_method_5_code 2 (some .boolean)) B.pre
  have hts : ∀ w ∈ tblG, w.before _ s = true := fun w h => hts0 w (List.mem_cons_of_mem _ h)
  have hown : s.vm.findClass "PromiseChainsModel" = some m.cls := findClass_of_methodNamed B.named
  have hlocks := B.notSynchronized
  subst hsz
  have hD := hD0
  have hP : va_P D vwCl [(y, .inr (7, [.int (nI mn), .int mtm, .int mgp, .int mlk, .ref y1, .ref y2, .ref y3, .ref y4, .int (nI mp), .ref y5, .ref y6, .ref y7, .ref y8, .ref y9, .ref y10, .ref y11, .ref y12, .ref y13, .ref y14, .ref y15, .int (nI mq), .ref y16, .ref y17, .ref y18, .ref y19, .ref y20, .ref y21, .ref y22, .ref y23, .ref y24, .ref y25, .ref y26, .ref y27, .int mhw, .int (nI mwn), .ref y28, .ref y29, .ref y30, .ref y31, .ref y32, .ref y33, .ref y34, .ref y35, .ref y36, .int (nI mbm), .ref y37, .ref y38, .int (nI mrm), .int mro, .int mrs]))] s.heap := hP
  have hl := lv_entry ([.ref y, .int i]) (n := 2) (Nat.le_of_ble_eq_true rfl)
  rw [lg_entry_eq]
  generalize (lg_sl ([.ref y, .int i]) ++ List.replicate (2 - (lg_sl ([.ref y, .int i])).length) Slot.unset).toArray = ls at hl ⊢
  have hl : lv_has ls 2 [(0, .ref y), (1, .int i)] := hl
  refine lv_iload_n hx hb d_MO_isPair_0 rfl (lv_at hl 1 rfl) ?_
  refine lv_iconst (v := 0) hx hb d_MO_isPair_1 (by decide) ?_
  refine lv_aload_n hx hb d_MO_isPair_2 rfl (lv_at hl 0 rfl) ?_
  refine va_get (D := D) (ci := 7) (v := .int (nI mp)) (C := R_MO) (T := F_MO) (N := 50) hx hb hts i_MO hown hK hP 0 rfl rfl 8 (by decide) (hts _ q_640) (fun _ h9 => h9) rfl d_MO_isPair_3 ?_
  refine lv_iconst (v := 1) hx hb d_MO_isPair_6 (by decide) ?_
  refine lv_isub hx hb d_MO_isPair_7 ?_
  have hPc := hP.sub (ws' := []) [] rfl
  have hDc := hD.sub (ws' := []) [] (by decide +kernel) rfl
  refine vp_callSi (va_Run.run (va_runS (As := [.int i, .int 0, .int ((nI mp) - 1)]) (rest := []) ⟨hx, hb, hml, hown, hts⟩ (e_MO_in l D cI cZ i 0 ((nI mp) - 1) s.heap.size ) (my_cwS 3 hts q_789 q_787 q_788 q_8 rfl rfl (by decide +kernel) ⟨Nat.le_of_ble_eq_true rfl, Nat.le_of_ble_eq_true rfl⟩) (my_preS hPc hDc hK hN) rfl rfl hl.1 rfl (lv_room (Nat.le_of_ble_eq_true rfl)) d_MO_isPair_8 ⟨Nat.le_of_ble_eq_true rfl, Nat.le_of_ble_eq_true rfl⟩)) (fun r_1 hw_1 => ?_)
  have hf_1_0 : r_1 = isw i 0 ((nI mp) - 1) := hw_1
  have hf_1_0 : r_1 = isw i 0 ((nI mp) - 1) := hf_1_0
  subst hf_1_0
  by_cases hz_2 : isw i 0 ((nI mp) - 1) = 0
  · refine lv_seti (0) hz_2 ?_
    exact W.zret (v := 0) hx hb hr rfl (fun tT ht hW => ⟨0, rfl, (Or.inl ⟨hz_2, rfl⟩), ht⟩) (fun q h => absurd h List.not_mem_nil) d_MO_isPair_11
  · obtain ⟨j, hj, hi⟩ := isw_nI (by omega) hz_2
    refine lv_seti (1) (isw_one hz_2) ?_
    exact W.zret (v := 1) hx hb hr rfl (fun tT ht hW => ⟨1, rfl, (Or.inr ⟨j, hj, hi, hz_2, rfl⟩), ht⟩) (fun q h => absurd h List.not_mem_nil) d_MO_isPair_11

set_option maxHeartbeats 4000000 in
set_option maxRecDepth 100000 in
theorem e_MO_keepState (l : Launch) (D : va_G) (cI cZ : ClassId) (y : Nat) (j : Nat) (mn : Nat) (mtm : Int32) (mgp : Int32) (mlk : Int32) (y1 : Nat) (y2 : Nat) (y3 : Nat) (y4 : Nat) (mp : Nat) (y5 : Nat) (y6 : Nat) (y7 : Nat) (y8 : Nat) (y9 : Nat) (y10 : Nat) (y11 : Nat) (y12 : Nat) (y13 : Nat) (y14 : Nat) (y15 : Nat) (mq : Nat) (y16 : Nat) (y17 : Nat) (y18 : Nat) (y19 : Nat) (y20 : Nat) (y21 : Nat) (y22 : Nat) (y23 : Nat) (y24 : Nat) (y25 : Nat) (y26 : Nat) (y27 : Nat) (mhw : Int32) (mwn : Nat) (y28 : Nat) (y29 : Nat) (y30 : Nat) (y31 : Nat) (y32 : Nat) (y33 : Nat) (y34 : Nat) (y35 : Nat) (y36 : Nat) (mbm : Nat) (y37 : Nat) (y38 : Nat) (mrm : Nat) (mro : Int32) (mrs : Int32) (MS : Nat → Int32) (MLk : Nat → Int32) (MG : Nat → Int32) (MY : Nat → Nat) (sz : Nat) (h_mn : mn ≤ 7) (h_mp : mp ≤ 12) (h_mq : mq ≤ 40) (h_mwn : mwn ≤ 8) (h_mbm : mbm ≤ 8) (h_mrm : mrm ≤ 8) (h_MY : ∀ zz, MY zz ≤ 64) (hj : j < 12) : Met l ⟨"PromiseChainsModel", "keepState", "(I)V"⟩ (mw ⟨"PromiseChainsModel", "keepState", "(I)V"⟩ prog_9_method_8_code 3 none) ({ frames := 0, cells := 0, slots := 0, locals := 0 }) (va_Pc [.ref y, .int (nI j)] (PB D cI cZ sz [(y, .inr (7, [.int (nI mn), .int mtm, .int mgp, .int mlk, .ref y1, .ref y2, .ref y3, .ref y4, .int (nI mp), .ref y5, .ref y6, .ref y7, .ref y8, .ref y9, .ref y10, .ref y11, .ref y12, .ref y13, .ref y14, .ref y15, .int (nI mq), .ref y16, .ref y17, .ref y18, .ref y19, .ref y20, .ref y21, .ref y22, .ref y23, .ref y24, .ref y25, .ref y26, .ref y27, .int mhw, .int (nI mwn), .ref y28, .ref y29, .ref y30, .ref y31, .ref y32, .ref y33, .ref y34, .ref y35, .ref y36, .int (nI mbm), .ref y37, .ref y38, .int (nI mrm), .int mro, .int mrs])), (y6, .inl (cI, 24, .inl MS)), (y7, .inl (cI, 24, .inl MLk)), (y12, .inl (cI, 1536, .inl MG)), (y13, .inl (cI, 12, .inl (fun zy => nI (MY zy))))])) (va_Qv (S := (Nat → Int32)) (fun uU => True) (fun uU tT => BB D (va_A [(y, .inr (7, [.int (nI mn), .int mtm, .int mgp, .int mlk, .ref y1, .ref y2, .ref y3, .ref y4, .int (nI mp), .ref y5, .ref y6, .ref y7, .ref y8, .ref y9, .ref y10, .ref y11, .ref y12, .ref y13, .ref y14, .ref y15, .int (nI mq), .ref y16, .ref y17, .ref y18, .ref y19, .ref y20, .ref y21, .ref y22, .ref y23, .ref y24, .ref y25, .ref y26, .ref y27, .int mhw, .int (nI mwn), .ref y28, .ref y29, .ref y30, .ref y31, .ref y32, .ref y33, .ref y34, .ref y35, .ref y36, .int (nI mbm), .ref y37, .ref y38, .int (nI mrm), .int mro, .int mrs])), (y6, .inl (cI, 24, .inl MS)), (y7, .inl (cI, 24, .inl MLk)), (y12, .inl (cI, 1536, .inl MG)), (y13, .inl (cI, 12, .inl (fun zy => nI (MY zy))))] sz) [(y, .inr (7, [.int (nI mn), .int mtm, .int mgp, .int mlk, .ref y1, .ref y2, .ref y3, .ref y4, .int (nI mp), .ref y5, .ref y6, .ref y7, .ref y8, .ref y9, .ref y10, .ref y11, .ref y12, .ref y13, .ref y14, .ref y15, .int (nI mq), .ref y16, .ref y17, .ref y18, .ref y19, .ref y20, .ref y21, .ref y22, .ref y23, .ref y24, .ref y25, .ref y26, .ref y27, .int mhw, .int (nI mwn), .ref y28, .ref y29, .ref y30, .ref y31, .ref y32, .ref y33, .ref y34, .ref y35, .ref y36, .int (nI mbm), .ref y37, .ref y38, .int (nI mrm), .int mro, .int mrs])), (y6, .inl (cI, 24, .inl MS)), (y7, .inl (cI, 24, .inl MLk)), (y12, .inl (cI, 1536, .inl (uU))), (y13, .inl (cI, 12, .inl (fun zy => nI ((upN MY j (inc64 (MY j))) zy))))] tT) (va_A [(y, .inr (7, [.int (nI mn), .int mtm, .int mgp, .int mlk, .ref y1, .ref y2, .ref y3, .ref y4, .int (nI mp), .ref y5, .ref y6, .ref y7, .ref y8, .ref y9, .ref y10, .ref y11, .ref y12, .ref y13, .ref y14, .ref y15, .int (nI mq), .ref y16, .ref y17, .ref y18, .ref y19, .ref y20, .ref y21, .ref y22, .ref y23, .ref y24, .ref y25, .ref y26, .ref y27, .int mhw, .int (nI mwn), .ref y28, .ref y29, .ref y30, .ref y31, .ref y32, .ref y33, .ref y34, .ref y35, .ref y36, .int (nI mbm), .ref y37, .ref y38, .int (nI mrm), .int mro, .int mrs])), (y6, .inl (cI, 24, .inl MS)), (y7, .inl (cI, 24, .inl MLk)), (y12, .inl (cI, 1536, .inl MG)), (y13, .inl (cI, 12, .inl (fun zy => nI (MY zy))))] sz)) 0 0 (va_A [(y, .inr (7, [.int (nI mn), .int mtm, .int mgp, .int mlk, .ref y1, .ref y2, .ref y3, .ref y4, .int (nI mp), .ref y5, .ref y6, .ref y7, .ref y8, .ref y9, .ref y10, .ref y11, .ref y12, .ref y13, .ref y14, .ref y15, .int (nI mq), .ref y16, .ref y17, .ref y18, .ref y19, .ref y20, .ref y21, .ref y22, .ref y23, .ref y24, .ref y25, .ref y26, .ref y27, .int mhw, .int (nI mwn), .ref y28, .ref y29, .ref y30, .ref y31, .ref y32, .ref y33, .ref y34, .ref y35, .ref y36, .int (nI mbm), .ref y37, .ref y38, .int (nI mrm), .int mro, .int mrs])), (y6, .inl (cI, 24, .inl MS)), (y7, .inl (cI, 24, .inl MLk)), (y12, .inl (cI, 1536, .inl MG)), (y13, .inl (cI, 12, .inl (fun zy => nI (MY zy))))] sz) := by
  refine Met.ofW (cc := prog_9_method_8_code) (maxL := 3) (ret := none) (by decide) rfl ?_
  intro p e s m args below meth c s₁ B hml hv
  obtain ⟨rfl, hsz, hP, hK, hD0, hN⟩ := hv
  have hx := B.exec
  have hb := B.bytes
  have hr := B.returns
  have hts0 := atoms_spec (ws := mw ⟨"PromiseChainsModel", "keepState", "(I)V"⟩ prog_9_method_8_code 3 none) B.pre
  have hts : ∀ w ∈ tblG, w.before _ s = true := fun w h => hts0 w (List.mem_cons_of_mem _ h)
  have hown : s.vm.findClass "PromiseChainsModel" = some m.cls := findClass_of_methodNamed B.named
  have hlocks := B.notSynchronized
  subst hsz
  have hD := hD0.self (sz := s.heap.size)
  generalize hAe : va_A [(y, .inr (7, [.int (nI mn), .int mtm, .int mgp, .int mlk, .ref y1, .ref y2, .ref y3, .ref y4, .int (nI mp), .ref y5, .ref y6, .ref y7, .ref y8, .ref y9, .ref y10, .ref y11, .ref y12, .ref y13, .ref y14, .ref y15, .int (nI mq), .ref y16, .ref y17, .ref y18, .ref y19, .ref y20, .ref y21, .ref y22, .ref y23, .ref y24, .ref y25, .ref y26, .ref y27, .int mhw, .int (nI mwn), .ref y28, .ref y29, .ref y30, .ref y31, .ref y32, .ref y33, .ref y34, .ref y35, .ref y36, .int (nI mbm), .ref y37, .ref y38, .int (nI mrm), .int mro, .int mrs])), (y6, .inl (cI, 24, .inl MS)), (y7, .inl (cI, 24, .inl MLk)), (y12, .inl (cI, 1536, .inl MG)), (y13, .inl (cI, 12, .inl (fun zy => nI (MY zy))))] s.heap.size = A at hD ⊢
  have hA : ∀ q : Nat, s.heap.size ≤ q → A q := fun q h => by rw [← hAe]; exact Or.inr h
  have hS : va_S A s.heap s.heap [] := va_S.rf
  have hP : va_P D vwCl [(y, .inr (7, [.int (nI mn), .int mtm, .int mgp, .int mlk, .ref y1, .ref y2, .ref y3, .ref y4, .int (nI mp), .ref y5, .ref y6, .ref y7, .ref y8, .ref y9, .ref y10, .ref y11, .ref y12, .ref y13, .ref y14, .ref y15, .int (nI mq), .ref y16, .ref y17, .ref y18, .ref y19, .ref y20, .ref y21, .ref y22, .ref y23, .ref y24, .ref y25, .ref y26, .ref y27, .int mhw, .int (nI mwn), .ref y28, .ref y29, .ref y30, .ref y31, .ref y32, .ref y33, .ref y34, .ref y35, .ref y36, .int (nI mbm), .ref y37, .ref y38, .int (nI mrm), .int mro, .int mrs])), (y6, .inl (cI, 24, .inl MS)), (y7, .inl (cI, 24, .inl MLk)), (y12, .inl (cI, 1536, .inl MG)), (y13, .inl (cI, 12, .inl (fun zy => nI (MY zy))))] s.heap := hP
  have hl := lv_entry ([.ref y, .int (nI j)]) (n := 3) (Nat.le_of_ble_eq_true rfl)
  rw [lg_entry_eq]
  generalize (lg_sl ([.ref y, .int (nI j)]) ++ List.replicate (3 - (lg_sl ([.ref y, .int (nI j)])).length) Slot.unset).toArray = ls at hl ⊢
  have hl : lv_has ls 3 [(0, .ref y), (1, .int (nI j))] := hl
  refine lv_aload_n hx hb d_MO_keepState_0 rfl (lv_at hl 0 rfl) ?_
  refine va_get (D := D) (ci := 7) (v := .ref y13) (C := R_MO) (T := F_MO) (N := 50) hx hb hts i_MO hown hK hP 0 rfl rfl 17 (by decide) (hts _ q_649) (fun _ h9 => h9) rfl d_MO_keepState_1 ?_
  refine lv_iload_n hx hb d_MO_keepState_4 rfl (lv_at hl 1 rfl) ?_
  refine my_ldN hx hb hK hP 4 rfl j rfl (by omega) (by decide) d_MO_keepState_5 ?_
  have hb_1 : MY j ≤ 64 := h_MY _
  refine lv_bipush (v := 64) hx hb d_MO_keepState_6 (by decide) ?_
  refine lv_icmp_ge (tgt := 20) hx hb d_MO_keepState_8 (by decide) (fun h_1 => ?_) (fun h_1 => ?_)
  · have nh_1 : 64 ≤ (MY j) := (nI_leI (a := 64) (b := (MY j)) (by omega) (by omega)).mp h_1
    refine lv_bipush (v := 63) hx hb d_MO_keepState_20 (by decide) ?_
    refine lv_istore_n (lv' := [(2, .int 63), (0, .ref y), (1, .int (nI j))]) hx hb d_MO_keepState_22 rfl hl (by decide) rfl (fun ls hl => ?_)
    refine lv_aload_n hx hb d_MO_keepState_23 rfl (lv_at hl 1 rfl) ?_
    refine va_get (D := D) (ci := 7) (v := .ref y12) (C := R_MO) (T := F_MO) (N := 50) hx hb hts i_MO hown hK hP 0 rfl rfl 16 (by decide) (hts _ q_648) (fun _ h9 => h9) rfl d_MO_keepState_24 ?_
    refine lv_sipush (v := 128) hx hb d_MO_keepState_27 (by decide) ?_
    refine lv_iload_n hx hb d_MO_keepState_30 rfl (lv_at hl 2 rfl) ?_
    refine lv_imul hx hb d_MO_keepState_31 ?_
    refine lv_seti (nI (128 * j)) (pk_mul 128 j) ?_
    refine lv_iconst (v := 2) hx hb d_MO_keepState_32 (by decide) ?_
    refine lv_iload_n hx hb d_MO_keepState_33 rfl (lv_at hl 0 rfl) ?_
    refine lv_imul hx hb d_MO_keepState_34 ?_
    refine lv_seti (126) (by decide) ?_
    refine lv_iadd hx hb d_MO_keepState_35 ?_
    refine lv_seti (nI ((128 * j) + 126)) (nI_add (128 * j) 126) ?_
    refine lv_aload_n hx hb d_MO_keepState_36 rfl (lv_at hl 1 rfl) ?_
    refine va_get (D := D) (ci := 7) (v := .ref y6) (C := R_MO) (T := F_MO) (N := 50) hx hb hts i_MO hown hK hP 0 rfl rfl 10 (by decide) (hts _ q_642) (fun _ h9 => h9) rfl d_MO_keepState_37 ?_
    refine lv_iconst (v := 2) hx hb d_MO_keepState_40 (by decide) ?_
    refine lv_iload_n hx hb d_MO_keepState_41 rfl (lv_at hl 2 rfl) ?_
    refine lv_imul hx hb d_MO_keepState_42 ?_
    refine lv_seti (nI (2 * j)) (pk_mul 2 j) ?_
    refine my_ldI hx hb hK hP 1 rfl (2 * j) rfl (by omega) (by decide) d_MO_keepState_43 ?_
    refine lv_aload_n hx hb d_MO_keepState_44 rfl (lv_at hl 1 rfl) ?_
    refine va_get (D := D) (ci := 7) (v := .ref y7) (C := R_MO) (T := F_MO) (N := 50) hx hb hts i_MO hown hK hP 0 rfl rfl 11 (by decide) (hts _ q_643) (fun _ h9 => h9) rfl d_MO_keepState_45 ?_
    refine lv_iconst (v := 2) hx hb d_MO_keepState_48 (by decide) ?_
    refine lv_iload_n hx hb d_MO_keepState_49 rfl (lv_at hl 2 rfl) ?_
    refine lv_imul hx hb d_MO_keepState_50 ?_
    refine lv_seti (nI (2 * j)) (pk_mul 2 j) ?_
    refine my_ldI hx hb hK hP 2 rfl (2 * j) rfl (by omega) (by decide) d_MO_keepState_51 ?_
    refine lv_iadd hx hb d_MO_keepState_52 ?_
    refine my_stI hx hb hK hP hD hS 3 rfl ((128 * j) + 126) rfl (by omega) (by decide) d_MO_keepState_53 (fun H_2 locs hP hD hS => ?_)
    have hP : va_P D vwCl [(y, .inr (7, [.int (nI mn), .int mtm, .int mgp, .int mlk, .ref y1, .ref y2, .ref y3, .ref y4, .int (nI mp), .ref y5, .ref y6, .ref y7, .ref y8, .ref y9, .ref y10, .ref y11, .ref y12, .ref y13, .ref y14, .ref y15, .int (nI mq), .ref y16, .ref y17, .ref y18, .ref y19, .ref y20, .ref y21, .ref y22, .ref y23, .ref y24, .ref y25, .ref y26, .ref y27, .int mhw, .int (nI mwn), .ref y28, .ref y29, .ref y30, .ref y31, .ref y32, .ref y33, .ref y34, .ref y35, .ref y36, .int (nI mbm), .ref y37, .ref y38, .int (nI mrm), .int mro, .int mrs])), (y6, .inl (cI, 24, .inl MS)), (y7, .inl (cI, 24, .inl MLk)), (y12, .inl (cI, 1536, .inl (upd MG ((128 * j) + 126) ((MS (2 * j)) + (MLk (2 * j)))))), (y13, .inl (cI, 12, .inl (fun zy => nI (MY zy))))] H_2 := hP
    refine lv_aload_n hx hb d_MO_keepState_54 rfl (lv_at hl 1 rfl) ?_
    refine va_get (D := D) (ci := 7) (v := .ref y12) (C := R_MO) (T := F_MO) (N := 50) hx hb hts i_MO hown hK hP 0 rfl rfl 16 (by decide) (hts _ q_648) (fun _ h9 => h9) rfl d_MO_keepState_55 ?_
    refine lv_sipush (v := 128) hx hb d_MO_keepState_58 (by decide) ?_
    refine lv_iload_n hx hb d_MO_keepState_61 rfl (lv_at hl 2 rfl) ?_
    refine lv_imul hx hb d_MO_keepState_62 ?_
    refine lv_seti (nI (128 * j)) (pk_mul 128 j) ?_
    refine lv_iconst (v := 2) hx hb d_MO_keepState_63 (by decide) ?_
    refine lv_iload_n hx hb d_MO_keepState_64 rfl (lv_at hl 0 rfl) ?_
    refine lv_imul hx hb d_MO_keepState_65 ?_
    refine lv_seti (126) (by decide) ?_
    refine lv_iadd hx hb d_MO_keepState_66 ?_
    refine lv_seti (nI ((128 * j) + 126)) (nI_add (128 * j) 126) ?_
    refine lv_iconst (v := 1) hx hb d_MO_keepState_67 (by decide) ?_
    refine lv_iadd hx hb d_MO_keepState_68 ?_
    refine lv_seti (nI (((128 * j) + 126) + 1)) (nI_add ((128 * j) + 126) 1) ?_
    refine lv_aload_n hx hb d_MO_keepState_69 rfl (lv_at hl 1 rfl) ?_
    refine va_get (D := D) (ci := 7) (v := .ref y6) (C := R_MO) (T := F_MO) (N := 50) hx hb hts i_MO hown hK hP 0 rfl rfl 10 (by decide) (hts _ q_642) (fun _ h9 => h9) rfl d_MO_keepState_70 ?_
    refine lv_iconst (v := 2) hx hb d_MO_keepState_73 (by decide) ?_
    refine lv_iload_n hx hb d_MO_keepState_74 rfl (lv_at hl 2 rfl) ?_
    refine lv_imul hx hb d_MO_keepState_75 ?_
    refine lv_seti (nI (2 * j)) (pk_mul 2 j) ?_
    refine lv_iconst (v := 1) hx hb d_MO_keepState_76 (by decide) ?_
    refine lv_iadd hx hb d_MO_keepState_77 ?_
    refine lv_seti (nI ((2 * j) + 1)) (nI_add (2 * j) 1) ?_
    refine my_ldI hx hb hK hP 1 rfl ((2 * j) + 1) rfl (by omega) (by decide) d_MO_keepState_78 ?_
    refine lv_aload_n hx hb d_MO_keepState_79 rfl (lv_at hl 1 rfl) ?_
    refine va_get (D := D) (ci := 7) (v := .ref y7) (C := R_MO) (T := F_MO) (N := 50) hx hb hts i_MO hown hK hP 0 rfl rfl 11 (by decide) (hts _ q_643) (fun _ h9 => h9) rfl d_MO_keepState_80 ?_
    refine lv_iconst (v := 2) hx hb d_MO_keepState_83 (by decide) ?_
    refine lv_iload_n hx hb d_MO_keepState_84 rfl (lv_at hl 2 rfl) ?_
    refine lv_imul hx hb d_MO_keepState_85 ?_
    refine lv_seti (nI (2 * j)) (pk_mul 2 j) ?_
    refine lv_iconst (v := 1) hx hb d_MO_keepState_86 (by decide) ?_
    refine lv_iadd hx hb d_MO_keepState_87 ?_
    refine lv_seti (nI ((2 * j) + 1)) (nI_add (2 * j) 1) ?_
    refine my_ldI hx hb hK hP 2 rfl ((2 * j) + 1) rfl (by omega) (by decide) d_MO_keepState_88 ?_
    refine lv_iadd hx hb d_MO_keepState_89 ?_
    refine my_stI hx hb hK hP hD hS 3 rfl (((128 * j) + 126) + 1) rfl (by omega) (by decide) d_MO_keepState_90 (fun H_3 locs hP hD hS => ?_)
    have hP : va_P D vwCl [(y, .inr (7, [.int (nI mn), .int mtm, .int mgp, .int mlk, .ref y1, .ref y2, .ref y3, .ref y4, .int (nI mp), .ref y5, .ref y6, .ref y7, .ref y8, .ref y9, .ref y10, .ref y11, .ref y12, .ref y13, .ref y14, .ref y15, .int (nI mq), .ref y16, .ref y17, .ref y18, .ref y19, .ref y20, .ref y21, .ref y22, .ref y23, .ref y24, .ref y25, .ref y26, .ref y27, .int mhw, .int (nI mwn), .ref y28, .ref y29, .ref y30, .ref y31, .ref y32, .ref y33, .ref y34, .ref y35, .ref y36, .int (nI mbm), .ref y37, .ref y38, .int (nI mrm), .int mro, .int mrs])), (y6, .inl (cI, 24, .inl MS)), (y7, .inl (cI, 24, .inl MLk)), (y12, .inl (cI, 1536, .inl (upd (upd MG ((128 * j) + 126) ((MS (2 * j)) + (MLk (2 * j)))) (((128 * j) + 126) + 1) ((MS ((2 * j) + 1)) + (MLk ((2 * j) + 1)))))), (y13, .inl (cI, 12, .inl (fun zy => nI (MY zy))))] H_3 := hP
    refine lv_aload_n hx hb d_MO_keepState_91 rfl (lv_at hl 1 rfl) ?_
    refine va_get (D := D) (ci := 7) (v := .ref y13) (C := R_MO) (T := F_MO) (N := 50) hx hb hts i_MO hown hK hP 0 rfl rfl 17 (by decide) (hts _ q_649) (fun _ h9 => h9) rfl d_MO_keepState_92 ?_
    refine lv_iload_n hx hb d_MO_keepState_95 rfl (lv_at hl 2 rfl) ?_
    refine lv_iload_n hx hb d_MO_keepState_96 rfl (lv_at hl 0 rfl) ?_
    refine lv_iconst (v := 1) hx hb d_MO_keepState_97 (by decide) ?_
    refine lv_iadd hx hb d_MO_keepState_98 ?_
    refine lv_seti (64) (by decide) ?_
    refine my_stN hx hb hK hP hD hS 4 rfl j 64 rfl rfl (by omega) (by decide) d_MO_keepState_99 (fun H_4 locs hP hD hS => ?_)
    have hP : va_P D vwCl [(y, .inr (7, [.int (nI mn), .int mtm, .int mgp, .int mlk, .ref y1, .ref y2, .ref y3, .ref y4, .int (nI mp), .ref y5, .ref y6, .ref y7, .ref y8, .ref y9, .ref y10, .ref y11, .ref y12, .ref y13, .ref y14, .ref y15, .int (nI mq), .ref y16, .ref y17, .ref y18, .ref y19, .ref y20, .ref y21, .ref y22, .ref y23, .ref y24, .ref y25, .ref y26, .ref y27, .int mhw, .int (nI mwn), .ref y28, .ref y29, .ref y30, .ref y31, .ref y32, .ref y33, .ref y34, .ref y35, .ref y36, .int (nI mbm), .ref y37, .ref y38, .int (nI mrm), .int mro, .int mrs])), (y6, .inl (cI, 24, .inl MS)), (y7, .inl (cI, 24, .inl MLk)), (y12, .inl (cI, 1536, .inl (upd (upd MG ((128 * j) + 126) ((MS (2 * j)) + (MLk (2 * j)))) (((128 * j) + 126) + 1) ((MS ((2 * j) + 1)) + (MLk ((2 * j) + 1)))))), (y13, .inl (cI, 12, .inl (fun zy => nI ((upN MY j 64) zy))))] H_4 := hP
    have hr_5 : (upN MY j 64) = upN MY j (inc64 (MY j)) := by rw [← inc_64 (Nat.not_lt.mpr nh_1) (by omega)]
    have hP : va_P D vwCl [(y, .inr (7, [.int (nI mn), .int mtm, .int mgp, .int mlk, .ref y1, .ref y2, .ref y3, .ref y4, .int (nI mp), .ref y5, .ref y6, .ref y7, .ref y8, .ref y9, .ref y10, .ref y11, .ref y12, .ref y13, .ref y14, .ref y15, .int (nI mq), .ref y16, .ref y17, .ref y18, .ref y19, .ref y20, .ref y21, .ref y22, .ref y23, .ref y24, .ref y25, .ref y26, .ref y27, .int mhw, .int (nI mwn), .ref y28, .ref y29, .ref y30, .ref y31, .ref y32, .ref y33, .ref y34, .ref y35, .ref y36, .int (nI mbm), .ref y37, .ref y38, .int (nI mrm), .int mro, .int mrs])), (y6, .inl (cI, 24, .inl MS)), (y7, .inl (cI, 24, .inl MLk)), (y12, .inl (cI, 1536, .inl (upd (upd MG ((128 * j) + 126) ((MS (2 * j)) + (MLk (2 * j)))) (((128 * j) + 126) + 1) ((MS ((2 * j) + 1)) + (MLk ((2 * j) + 1)))))), (y13, .inl (cI, 12, .inl (fun zy => nI ((upN MY j (inc64 (MY j))) zy))))] H_4 := by rw [← hr_5]; exact hP
    have hD : va_D A [(y, .inr (7, [.int (nI mn), .int mtm, .int mgp, .int mlk, .ref y1, .ref y2, .ref y3, .ref y4, .int (nI mp), .ref y5, .ref y6, .ref y7, .ref y8, .ref y9, .ref y10, .ref y11, .ref y12, .ref y13, .ref y14, .ref y15, .int (nI mq), .ref y16, .ref y17, .ref y18, .ref y19, .ref y20, .ref y21, .ref y22, .ref y23, .ref y24, .ref y25, .ref y26, .ref y27, .int mhw, .int (nI mwn), .ref y28, .ref y29, .ref y30, .ref y31, .ref y32, .ref y33, .ref y34, .ref y35, .ref y36, .int (nI mbm), .ref y37, .ref y38, .int (nI mrm), .int mro, .int mrs])), (y6, .inl (cI, 24, .inl MS)), (y7, .inl (cI, 24, .inl MLk)), (y12, .inl (cI, 1536, .inl (upd (upd MG ((128 * j) + 126) ((MS (2 * j)) + (MLk (2 * j)))) (((128 * j) + 126) + 1) ((MS ((2 * j) + 1)) + (MLk ((2 * j) + 1)))))), (y13, .inl (cI, 12, .inl (fun zy => nI ((upN MY j (inc64 (MY j))) zy))))] := by rw [← hr_5]; exact hD
    have hP : va_P D vwCl [(y, .inr (7, [.int (nI mn), .int mtm, .int mgp, .int mlk, .ref y1, .ref y2, .ref y3, .ref y4, .int (nI mp), .ref y5, .ref y6, .ref y7, .ref y8, .ref y9, .ref y10, .ref y11, .ref y12, .ref y13, .ref y14, .ref y15, .int (nI mq), .ref y16, .ref y17, .ref y18, .ref y19, .ref y20, .ref y21, .ref y22, .ref y23, .ref y24, .ref y25, .ref y26, .ref y27, .int mhw, .int (nI mwn), .ref y28, .ref y29, .ref y30, .ref y31, .ref y32, .ref y33, .ref y34, .ref y35, .ref y36, .int (nI mbm), .ref y37, .ref y38, .int (nI mrm), .int mro, .int mrs])), (y6, .inl (cI, 24, .inl MS)), (y7, .inl (cI, 24, .inl MLk)), (y12, .inl (cI, 1536, .inl (upd (upd MG ((128 * j) + 126) ((MS (2 * j)) + (MLk (2 * j)))) (((128 * j) + 126) + 1) ((MS ((2 * j) + 1)) + (MLk ((2 * j) + 1)))))), (y13, .inl (cI, 12, .inl (fun zy => nI ((upN MY j (inc64 (MY j))) zy))))] H_4 := hP
    have hP9 := hP.sub (ws' := [(y, .inr (7, [.int (nI mn), .int mtm, .int mgp, .int mlk, .ref y1, .ref y2, .ref y3, .ref y4, .int (nI mp), .ref y5, .ref y6, .ref y7, .ref y8, .ref y9, .ref y10, .ref y11, .ref y12, .ref y13, .ref y14, .ref y15, .int (nI mq), .ref y16, .ref y17, .ref y18, .ref y19, .ref y20, .ref y21, .ref y22, .ref y23, .ref y24, .ref y25, .ref y26, .ref y27, .int mhw, .int (nI mwn), .ref y28, .ref y29, .ref y30, .ref y31, .ref y32, .ref y33, .ref y34, .ref y35, .ref y36, .int (nI mbm), .ref y37, .ref y38, .int (nI mrm), .int mro, .int mrs])), (y6, .inl (cI, 24, .inl MS)), (y7, .inl (cI, 24, .inl MLk)), (y12, .inl (cI, 1536, .inl (upd (upd MG ((128 * j) + 126) ((MS (2 * j)) + (MLk (2 * j)))) (((128 * j) + 126) + 1) ((MS ((2 * j) + 1)) + (MLk ((2 * j) + 1)))))), (y13, .inl (cI, 12, .inl (fun zy => nI ((upN MY j (inc64 (MY j))) zy))))]) [0, 1, 2, 3, 4] rfl
    have hD9 := hD.sub (ws' := [(y, .inr (7, [.int (nI mn), .int mtm, .int mgp, .int mlk, .ref y1, .ref y2, .ref y3, .ref y4, .int (nI mp), .ref y5, .ref y6, .ref y7, .ref y8, .ref y9, .ref y10, .ref y11, .ref y12, .ref y13, .ref y14, .ref y15, .int (nI mq), .ref y16, .ref y17, .ref y18, .ref y19, .ref y20, .ref y21, .ref y22, .ref y23, .ref y24, .ref y25, .ref y26, .ref y27, .int mhw, .int (nI mwn), .ref y28, .ref y29, .ref y30, .ref y31, .ref y32, .ref y33, .ref y34, .ref y35, .ref y36, .int (nI mbm), .ref y37, .ref y38, .int (nI mrm), .int mro, .int mrs])), (y6, .inl (cI, 24, .inl MS)), (y7, .inl (cI, 24, .inl MLk)), (y12, .inl (cI, 1536, .inl (upd (upd MG ((128 * j) + 126) ((MS (2 * j)) + (MLk (2 * j)))) (((128 * j) + 126) + 1) ((MS ((2 * j) + 1)) + (MLk ((2 * j) + 1)))))), (y13, .inl (cI, 12, .inl (fun zy => nI ((upN MY j (inc64 (MY j))) zy))))]) [0, 1, 2, 3, 4] (by decide +kernel) rfl
    refine W.widen (k := 0) (n := 0) (Nat.le_of_ble_eq_true rfl) (Nat.le_of_ble_eq_true rfl) ?_
    exact W.vret hx hb hr (fun tT ht hW => ⟨⟨(upd (upd MG ((128 * j) + 126) ((MS (2 * j)) + (MLk (2 * j)))) (((128 * j) + 126) + 1) ((MS ((2 * j) + 1)) + (MLk ((2 * j) + 1)))), rfl, trivial, by rw [ht]; exact hP9, hD9⟩, hS.F ht⟩) hS.2.2 d_MO_keepState_100
  · have nh_1 : ¬ 64 ≤ (MY j) := fun qZ => h_1 ((nI_leI (a := 64) (b := (MY j)) (by omega) (by omega)).mpr qZ)
    refine lv_aload_n hx hb d_MO_keepState_11 rfl (lv_at hl 0 rfl) ?_
    refine va_get (D := D) (ci := 7) (v := .ref y13) (C := R_MO) (T := F_MO) (N := 50) hx hb hts i_MO hown hK hP 0 rfl rfl 17 (by decide) (hts _ q_649) (fun _ h9 => h9) rfl d_MO_keepState_12 ?_
    refine lv_iload_n hx hb d_MO_keepState_15 rfl (lv_at hl 1 rfl) ?_
    refine my_ldN hx hb hK hP 4 rfl j rfl (by omega) (by decide) d_MO_keepState_16 ?_
    have hb_2 : MY j ≤ 64 := h_MY _
    refine lv_goto (tgt := 22) hx hb d_MO_keepState_17 (by decide) ?_
    refine lv_istore_n (lv' := [(2, .int (nI (MY j))), (0, .ref y), (1, .int (nI j))]) hx hb d_MO_keepState_22 rfl hl (by decide) rfl (fun ls hl => ?_)
    refine lv_aload_n hx hb d_MO_keepState_23 rfl (lv_at hl 1 rfl) ?_
    refine va_get (D := D) (ci := 7) (v := .ref y12) (C := R_MO) (T := F_MO) (N := 50) hx hb hts i_MO hown hK hP 0 rfl rfl 16 (by decide) (hts _ q_648) (fun _ h9 => h9) rfl d_MO_keepState_24 ?_
    refine lv_sipush (v := 128) hx hb d_MO_keepState_27 (by decide) ?_
    refine lv_iload_n hx hb d_MO_keepState_30 rfl (lv_at hl 2 rfl) ?_
    refine lv_imul hx hb d_MO_keepState_31 ?_
    refine lv_seti (nI (128 * j)) (pk_mul 128 j) ?_
    refine lv_iconst (v := 2) hx hb d_MO_keepState_32 (by decide) ?_
    refine lv_iload_n hx hb d_MO_keepState_33 rfl (lv_at hl 0 rfl) ?_
    refine lv_imul hx hb d_MO_keepState_34 ?_
    refine lv_seti (nI (2 * (MY j))) (pk_mul 2 (MY j)) ?_
    refine lv_iadd hx hb d_MO_keepState_35 ?_
    refine lv_seti (nI ((128 * j) + (2 * (MY j)))) (nI_add (128 * j) (2 * (MY j))) ?_
    refine lv_aload_n hx hb d_MO_keepState_36 rfl (lv_at hl 1 rfl) ?_
    refine va_get (D := D) (ci := 7) (v := .ref y6) (C := R_MO) (T := F_MO) (N := 50) hx hb hts i_MO hown hK hP 0 rfl rfl 10 (by decide) (hts _ q_642) (fun _ h9 => h9) rfl d_MO_keepState_37 ?_
    refine lv_iconst (v := 2) hx hb d_MO_keepState_40 (by decide) ?_
    refine lv_iload_n hx hb d_MO_keepState_41 rfl (lv_at hl 2 rfl) ?_
    refine lv_imul hx hb d_MO_keepState_42 ?_
    refine lv_seti (nI (2 * j)) (pk_mul 2 j) ?_
    refine my_ldI hx hb hK hP 1 rfl (2 * j) rfl (by omega) (by decide) d_MO_keepState_43 ?_
    refine lv_aload_n hx hb d_MO_keepState_44 rfl (lv_at hl 1 rfl) ?_
    refine va_get (D := D) (ci := 7) (v := .ref y7) (C := R_MO) (T := F_MO) (N := 50) hx hb hts i_MO hown hK hP 0 rfl rfl 11 (by decide) (hts _ q_643) (fun _ h9 => h9) rfl d_MO_keepState_45 ?_
    refine lv_iconst (v := 2) hx hb d_MO_keepState_48 (by decide) ?_
    refine lv_iload_n hx hb d_MO_keepState_49 rfl (lv_at hl 2 rfl) ?_
    refine lv_imul hx hb d_MO_keepState_50 ?_
    refine lv_seti (nI (2 * j)) (pk_mul 2 j) ?_
    refine my_ldI hx hb hK hP 2 rfl (2 * j) rfl (by omega) (by decide) d_MO_keepState_51 ?_
    refine lv_iadd hx hb d_MO_keepState_52 ?_
    refine my_stI hx hb hK hP hD hS 3 rfl ((128 * j) + (2 * (MY j))) rfl (by omega) (by decide) d_MO_keepState_53 (fun H_6 locs hP hD hS => ?_)
    have hP : va_P D vwCl [(y, .inr (7, [.int (nI mn), .int mtm, .int mgp, .int mlk, .ref y1, .ref y2, .ref y3, .ref y4, .int (nI mp), .ref y5, .ref y6, .ref y7, .ref y8, .ref y9, .ref y10, .ref y11, .ref y12, .ref y13, .ref y14, .ref y15, .int (nI mq), .ref y16, .ref y17, .ref y18, .ref y19, .ref y20, .ref y21, .ref y22, .ref y23, .ref y24, .ref y25, .ref y26, .ref y27, .int mhw, .int (nI mwn), .ref y28, .ref y29, .ref y30, .ref y31, .ref y32, .ref y33, .ref y34, .ref y35, .ref y36, .int (nI mbm), .ref y37, .ref y38, .int (nI mrm), .int mro, .int mrs])), (y6, .inl (cI, 24, .inl MS)), (y7, .inl (cI, 24, .inl MLk)), (y12, .inl (cI, 1536, .inl (upd MG ((128 * j) + (2 * (MY j))) ((MS (2 * j)) + (MLk (2 * j)))))), (y13, .inl (cI, 12, .inl (fun zy => nI (MY zy))))] H_6 := hP
    refine lv_aload_n hx hb d_MO_keepState_54 rfl (lv_at hl 1 rfl) ?_
    refine va_get (D := D) (ci := 7) (v := .ref y12) (C := R_MO) (T := F_MO) (N := 50) hx hb hts i_MO hown hK hP 0 rfl rfl 16 (by decide) (hts _ q_648) (fun _ h9 => h9) rfl d_MO_keepState_55 ?_
    refine lv_sipush (v := 128) hx hb d_MO_keepState_58 (by decide) ?_
    refine lv_iload_n hx hb d_MO_keepState_61 rfl (lv_at hl 2 rfl) ?_
    refine lv_imul hx hb d_MO_keepState_62 ?_
    refine lv_seti (nI (128 * j)) (pk_mul 128 j) ?_
    refine lv_iconst (v := 2) hx hb d_MO_keepState_63 (by decide) ?_
    refine lv_iload_n hx hb d_MO_keepState_64 rfl (lv_at hl 0 rfl) ?_
    refine lv_imul hx hb d_MO_keepState_65 ?_
    refine lv_seti (nI (2 * (MY j))) (pk_mul 2 (MY j)) ?_
    refine lv_iadd hx hb d_MO_keepState_66 ?_
    refine lv_seti (nI ((128 * j) + (2 * (MY j)))) (nI_add (128 * j) (2 * (MY j))) ?_
    refine lv_iconst (v := 1) hx hb d_MO_keepState_67 (by decide) ?_
    refine lv_iadd hx hb d_MO_keepState_68 ?_
    refine lv_seti (nI (((128 * j) + (2 * (MY j))) + 1)) (nI_add ((128 * j) + (2 * (MY j))) 1) ?_
    refine lv_aload_n hx hb d_MO_keepState_69 rfl (lv_at hl 1 rfl) ?_
    refine va_get (D := D) (ci := 7) (v := .ref y6) (C := R_MO) (T := F_MO) (N := 50) hx hb hts i_MO hown hK hP 0 rfl rfl 10 (by decide) (hts _ q_642) (fun _ h9 => h9) rfl d_MO_keepState_70 ?_
    refine lv_iconst (v := 2) hx hb d_MO_keepState_73 (by decide) ?_
    refine lv_iload_n hx hb d_MO_keepState_74 rfl (lv_at hl 2 rfl) ?_
    refine lv_imul hx hb d_MO_keepState_75 ?_
    refine lv_seti (nI (2 * j)) (pk_mul 2 j) ?_
    refine lv_iconst (v := 1) hx hb d_MO_keepState_76 (by decide) ?_
    refine lv_iadd hx hb d_MO_keepState_77 ?_
    refine lv_seti (nI ((2 * j) + 1)) (nI_add (2 * j) 1) ?_
    refine my_ldI hx hb hK hP 1 rfl ((2 * j) + 1) rfl (by omega) (by decide) d_MO_keepState_78 ?_
    refine lv_aload_n hx hb d_MO_keepState_79 rfl (lv_at hl 1 rfl) ?_
    refine va_get (D := D) (ci := 7) (v := .ref y7) (C := R_MO) (T := F_MO) (N := 50) hx hb hts i_MO hown hK hP 0 rfl rfl 11 (by decide) (hts _ q_643) (fun _ h9 => h9) rfl d_MO_keepState_80 ?_
    refine lv_iconst (v := 2) hx hb d_MO_keepState_83 (by decide) ?_
    refine lv_iload_n hx hb d_MO_keepState_84 rfl (lv_at hl 2 rfl) ?_
    refine lv_imul hx hb d_MO_keepState_85 ?_
    refine lv_seti (nI (2 * j)) (pk_mul 2 j) ?_
    refine lv_iconst (v := 1) hx hb d_MO_keepState_86 (by decide) ?_
    refine lv_iadd hx hb d_MO_keepState_87 ?_
    refine lv_seti (nI ((2 * j) + 1)) (nI_add (2 * j) 1) ?_
    refine my_ldI hx hb hK hP 2 rfl ((2 * j) + 1) rfl (by omega) (by decide) d_MO_keepState_88 ?_
    refine lv_iadd hx hb d_MO_keepState_89 ?_
    refine my_stI hx hb hK hP hD hS 3 rfl (((128 * j) + (2 * (MY j))) + 1) rfl (by omega) (by decide) d_MO_keepState_90 (fun H_7 locs hP hD hS => ?_)
    have hP : va_P D vwCl [(y, .inr (7, [.int (nI mn), .int mtm, .int mgp, .int mlk, .ref y1, .ref y2, .ref y3, .ref y4, .int (nI mp), .ref y5, .ref y6, .ref y7, .ref y8, .ref y9, .ref y10, .ref y11, .ref y12, .ref y13, .ref y14, .ref y15, .int (nI mq), .ref y16, .ref y17, .ref y18, .ref y19, .ref y20, .ref y21, .ref y22, .ref y23, .ref y24, .ref y25, .ref y26, .ref y27, .int mhw, .int (nI mwn), .ref y28, .ref y29, .ref y30, .ref y31, .ref y32, .ref y33, .ref y34, .ref y35, .ref y36, .int (nI mbm), .ref y37, .ref y38, .int (nI mrm), .int mro, .int mrs])), (y6, .inl (cI, 24, .inl MS)), (y7, .inl (cI, 24, .inl MLk)), (y12, .inl (cI, 1536, .inl (upd (upd MG ((128 * j) + (2 * (MY j))) ((MS (2 * j)) + (MLk (2 * j)))) (((128 * j) + (2 * (MY j))) + 1) ((MS ((2 * j) + 1)) + (MLk ((2 * j) + 1)))))), (y13, .inl (cI, 12, .inl (fun zy => nI (MY zy))))] H_7 := hP
    refine lv_aload_n hx hb d_MO_keepState_91 rfl (lv_at hl 1 rfl) ?_
    refine va_get (D := D) (ci := 7) (v := .ref y13) (C := R_MO) (T := F_MO) (N := 50) hx hb hts i_MO hown hK hP 0 rfl rfl 17 (by decide) (hts _ q_649) (fun _ h9 => h9) rfl d_MO_keepState_92 ?_
    refine lv_iload_n hx hb d_MO_keepState_95 rfl (lv_at hl 2 rfl) ?_
    refine lv_iload_n hx hb d_MO_keepState_96 rfl (lv_at hl 0 rfl) ?_
    refine lv_iconst (v := 1) hx hb d_MO_keepState_97 (by decide) ?_
    refine lv_iadd hx hb d_MO_keepState_98 ?_
    refine lv_seti (nI ((MY j) + 1)) (nI_add (MY j) 1) ?_
    refine my_stN hx hb hK hP hD hS 4 rfl j ((MY j) + 1) rfl rfl (by omega) (by decide) d_MO_keepState_99 (fun H_8 locs hP hD hS => ?_)
    have hP : va_P D vwCl [(y, .inr (7, [.int (nI mn), .int mtm, .int mgp, .int mlk, .ref y1, .ref y2, .ref y3, .ref y4, .int (nI mp), .ref y5, .ref y6, .ref y7, .ref y8, .ref y9, .ref y10, .ref y11, .ref y12, .ref y13, .ref y14, .ref y15, .int (nI mq), .ref y16, .ref y17, .ref y18, .ref y19, .ref y20, .ref y21, .ref y22, .ref y23, .ref y24, .ref y25, .ref y26, .ref y27, .int mhw, .int (nI mwn), .ref y28, .ref y29, .ref y30, .ref y31, .ref y32, .ref y33, .ref y34, .ref y35, .ref y36, .int (nI mbm), .ref y37, .ref y38, .int (nI mrm), .int mro, .int mrs])), (y6, .inl (cI, 24, .inl MS)), (y7, .inl (cI, 24, .inl MLk)), (y12, .inl (cI, 1536, .inl (upd (upd MG ((128 * j) + (2 * (MY j))) ((MS (2 * j)) + (MLk (2 * j)))) (((128 * j) + (2 * (MY j))) + 1) ((MS ((2 * j) + 1)) + (MLk ((2 * j) + 1)))))), (y13, .inl (cI, 12, .inl (fun zy => nI ((upN MY j ((MY j) + 1)) zy))))] H_8 := hP
    have hr_9 : (upN MY j ((MY j) + 1)) = upN MY j (inc64 (MY j)) := by rw [← inc_lt (Nat.not_le.mp nh_1)]
    have hP : va_P D vwCl [(y, .inr (7, [.int (nI mn), .int mtm, .int mgp, .int mlk, .ref y1, .ref y2, .ref y3, .ref y4, .int (nI mp), .ref y5, .ref y6, .ref y7, .ref y8, .ref y9, .ref y10, .ref y11, .ref y12, .ref y13, .ref y14, .ref y15, .int (nI mq), .ref y16, .ref y17, .ref y18, .ref y19, .ref y20, .ref y21, .ref y22, .ref y23, .ref y24, .ref y25, .ref y26, .ref y27, .int mhw, .int (nI mwn), .ref y28, .ref y29, .ref y30, .ref y31, .ref y32, .ref y33, .ref y34, .ref y35, .ref y36, .int (nI mbm), .ref y37, .ref y38, .int (nI mrm), .int mro, .int mrs])), (y6, .inl (cI, 24, .inl MS)), (y7, .inl (cI, 24, .inl MLk)), (y12, .inl (cI, 1536, .inl (upd (upd MG ((128 * j) + (2 * (MY j))) ((MS (2 * j)) + (MLk (2 * j)))) (((128 * j) + (2 * (MY j))) + 1) ((MS ((2 * j) + 1)) + (MLk ((2 * j) + 1)))))), (y13, .inl (cI, 12, .inl (fun zy => nI ((upN MY j (inc64 (MY j))) zy))))] H_8 := by rw [← hr_9]; exact hP
    have hD : va_D A [(y, .inr (7, [.int (nI mn), .int mtm, .int mgp, .int mlk, .ref y1, .ref y2, .ref y3, .ref y4, .int (nI mp), .ref y5, .ref y6, .ref y7, .ref y8, .ref y9, .ref y10, .ref y11, .ref y12, .ref y13, .ref y14, .ref y15, .int (nI mq), .ref y16, .ref y17, .ref y18, .ref y19, .ref y20, .ref y21, .ref y22, .ref y23, .ref y24, .ref y25, .ref y26, .ref y27, .int mhw, .int (nI mwn), .ref y28, .ref y29, .ref y30, .ref y31, .ref y32, .ref y33, .ref y34, .ref y35, .ref y36, .int (nI mbm), .ref y37, .ref y38, .int (nI mrm), .int mro, .int mrs])), (y6, .inl (cI, 24, .inl MS)), (y7, .inl (cI, 24, .inl MLk)), (y12, .inl (cI, 1536, .inl (upd (upd MG ((128 * j) + (2 * (MY j))) ((MS (2 * j)) + (MLk (2 * j)))) (((128 * j) + (2 * (MY j))) + 1) ((MS ((2 * j) + 1)) + (MLk ((2 * j) + 1)))))), (y13, .inl (cI, 12, .inl (fun zy => nI ((upN MY j (inc64 (MY j))) zy))))] := by rw [← hr_9]; exact hD
    have hP : va_P D vwCl [(y, .inr (7, [.int (nI mn), .int mtm, .int mgp, .int mlk, .ref y1, .ref y2, .ref y3, .ref y4, .int (nI mp), .ref y5, .ref y6, .ref y7, .ref y8, .ref y9, .ref y10, .ref y11, .ref y12, .ref y13, .ref y14, .ref y15, .int (nI mq), .ref y16, .ref y17, .ref y18, .ref y19, .ref y20, .ref y21, .ref y22, .ref y23, .ref y24, .ref y25, .ref y26, .ref y27, .int mhw, .int (nI mwn), .ref y28, .ref y29, .ref y30, .ref y31, .ref y32, .ref y33, .ref y34, .ref y35, .ref y36, .int (nI mbm), .ref y37, .ref y38, .int (nI mrm), .int mro, .int mrs])), (y6, .inl (cI, 24, .inl MS)), (y7, .inl (cI, 24, .inl MLk)), (y12, .inl (cI, 1536, .inl (upd (upd MG ((128 * j) + (2 * (MY j))) ((MS (2 * j)) + (MLk (2 * j)))) (((128 * j) + (2 * (MY j))) + 1) ((MS ((2 * j) + 1)) + (MLk ((2 * j) + 1)))))), (y13, .inl (cI, 12, .inl (fun zy => nI ((upN MY j (inc64 (MY j))) zy))))] H_8 := hP
    have hP9 := hP.sub (ws' := [(y, .inr (7, [.int (nI mn), .int mtm, .int mgp, .int mlk, .ref y1, .ref y2, .ref y3, .ref y4, .int (nI mp), .ref y5, .ref y6, .ref y7, .ref y8, .ref y9, .ref y10, .ref y11, .ref y12, .ref y13, .ref y14, .ref y15, .int (nI mq), .ref y16, .ref y17, .ref y18, .ref y19, .ref y20, .ref y21, .ref y22, .ref y23, .ref y24, .ref y25, .ref y26, .ref y27, .int mhw, .int (nI mwn), .ref y28, .ref y29, .ref y30, .ref y31, .ref y32, .ref y33, .ref y34, .ref y35, .ref y36, .int (nI mbm), .ref y37, .ref y38, .int (nI mrm), .int mro, .int mrs])), (y6, .inl (cI, 24, .inl MS)), (y7, .inl (cI, 24, .inl MLk)), (y12, .inl (cI, 1536, .inl (upd (upd MG ((128 * j) + (2 * (MY j))) ((MS (2 * j)) + (MLk (2 * j)))) (((128 * j) + (2 * (MY j))) + 1) ((MS ((2 * j) + 1)) + (MLk ((2 * j) + 1)))))), (y13, .inl (cI, 12, .inl (fun zy => nI ((upN MY j (inc64 (MY j))) zy))))]) [0, 1, 2, 3, 4] rfl
    have hD9 := hD.sub (ws' := [(y, .inr (7, [.int (nI mn), .int mtm, .int mgp, .int mlk, .ref y1, .ref y2, .ref y3, .ref y4, .int (nI mp), .ref y5, .ref y6, .ref y7, .ref y8, .ref y9, .ref y10, .ref y11, .ref y12, .ref y13, .ref y14, .ref y15, .int (nI mq), .ref y16, .ref y17, .ref y18, .ref y19, .ref y20, .ref y21, .ref y22, .ref y23, .ref y24, .ref y25, .ref y26, .ref y27, .int mhw, .int (nI mwn), .ref y28, .ref y29, .ref y30, .ref y31, .ref y32, .ref y33, .ref y34, .ref y35, .ref y36, .int (nI mbm), .ref y37, .ref y38, .int (nI mrm), .int mro, .int mrs])), (y6, .inl (cI, 24, .inl MS)), (y7, .inl (cI, 24, .inl MLk)), (y12, .inl (cI, 1536, .inl (upd (upd MG ((128 * j) + (2 * (MY j))) ((MS (2 * j)) + (MLk (2 * j)))) (((128 * j) + (2 * (MY j))) + 1) ((MS ((2 * j) + 1)) + (MLk ((2 * j) + 1)))))), (y13, .inl (cI, 12, .inl (fun zy => nI ((upN MY j (inc64 (MY j))) zy))))]) [0, 1, 2, 3, 4] (by decide +kernel) rfl
    refine W.widen (k := 0) (n := 0) (Nat.le_of_ble_eq_true rfl) (Nat.le_of_ble_eq_true rfl) ?_
    exact W.vret hx hb hr (fun tT ht hW => ⟨⟨(upd (upd MG ((128 * j) + (2 * (MY j))) ((MS (2 * j)) + (MLk (2 * j)))) (((128 * j) + (2 * (MY j))) + 1) ((MS ((2 * j) + 1)) + (MLk ((2 * j) + 1)))), rfl, trivial, by rw [ht]; exact hP9, hD9⟩, hS.F ht⟩) hS.2.2 d_MO_keepState_100

set_option maxHeartbeats 4000000 in
set_option maxRecDepth 100000 in
theorem e_MO_forget (l : Launch) (D : va_G) (cI cZ : ClassId) (y : Nat) (j : Nat) (mn : Nat) (mtm : Int32) (mgp : Int32) (mlk : Int32) (y1 : Nat) (y2 : Nat) (y3 : Nat) (y4 : Nat) (mp : Nat) (y5 : Nat) (y6 : Nat) (y7 : Nat) (y8 : Nat) (y9 : Nat) (y10 : Nat) (y11 : Nat) (y12 : Nat) (y13 : Nat) (y14 : Nat) (y15 : Nat) (mq : Nat) (y16 : Nat) (y17 : Nat) (y18 : Nat) (y19 : Nat) (y20 : Nat) (y21 : Nat) (y22 : Nat) (y23 : Nat) (y24 : Nat) (y25 : Nat) (y26 : Nat) (y27 : Nat) (mhw : Int32) (mwn : Nat) (y28 : Nat) (y29 : Nat) (y30 : Nat) (y31 : Nat) (y32 : Nat) (y33 : Nat) (y34 : Nat) (y35 : Nat) (y36 : Nat) (mbm : Nat) (y37 : Nat) (y38 : Nat) (mrm : Nat) (mro : Int32) (mrs : Int32) (MS : Nat → Int32) (ML : Nat → Int32) (MH : Nat → Int32) (sz : Nat) (h_mn : mn ≤ 7) (h_mp : mp ≤ 12) (h_mq : mq ≤ 40) (h_mwn : mwn ≤ 8) (h_mbm : mbm ≤ 8) (h_mrm : mrm ≤ 8) (hj : j < 12) : Met l ⟨"PromiseChainsModel", "forget", "(I)V"⟩ (mw ⟨"PromiseChainsModel", "forget", "(I)V"⟩ prog_9_method_9_code 2 none) ({ frames := 0, cells := 0, slots := 0, locals := 0 }) (va_Pc [.ref y, .int (nI j)] (PB D cI cZ sz [(y, .inr (7, [.int (nI mn), .int mtm, .int mgp, .int mlk, .ref y1, .ref y2, .ref y3, .ref y4, .int (nI mp), .ref y5, .ref y6, .ref y7, .ref y8, .ref y9, .ref y10, .ref y11, .ref y12, .ref y13, .ref y14, .ref y15, .int (nI mq), .ref y16, .ref y17, .ref y18, .ref y19, .ref y20, .ref y21, .ref y22, .ref y23, .ref y24, .ref y25, .ref y26, .ref y27, .int mhw, .int (nI mwn), .ref y28, .ref y29, .ref y30, .ref y31, .ref y32, .ref y33, .ref y34, .ref y35, .ref y36, .int (nI mbm), .ref y37, .ref y38, .int (nI mrm), .int mro, .int mrs])), (y6, .inl (cI, 24, .inl MS)), (y14, .inl (cI, 12, .inl ML)), (y15, .inl (cI, 12, .inl MH))])) (va_Qv (S := Unit) (fun uU => True) (fun uU tT => BB D (va_A [(y, .inr (7, [.int (nI mn), .int mtm, .int mgp, .int mlk, .ref y1, .ref y2, .ref y3, .ref y4, .int (nI mp), .ref y5, .ref y6, .ref y7, .ref y8, .ref y9, .ref y10, .ref y11, .ref y12, .ref y13, .ref y14, .ref y15, .int (nI mq), .ref y16, .ref y17, .ref y18, .ref y19, .ref y20, .ref y21, .ref y22, .ref y23, .ref y24, .ref y25, .ref y26, .ref y27, .int mhw, .int (nI mwn), .ref y28, .ref y29, .ref y30, .ref y31, .ref y32, .ref y33, .ref y34, .ref y35, .ref y36, .int (nI mbm), .ref y37, .ref y38, .int (nI mrm), .int mro, .int mrs])), (y6, .inl (cI, 24, .inl MS)), (y14, .inl (cI, 12, .inl ML)), (y15, .inl (cI, 12, .inl MH))] sz) [(y, .inr (7, [.int (nI mn), .int mtm, .int mgp, .int mlk, .ref y1, .ref y2, .ref y3, .ref y4, .int (nI mp), .ref y5, .ref y6, .ref y7, .ref y8, .ref y9, .ref y10, .ref y11, .ref y12, .ref y13, .ref y14, .ref y15, .int (nI mq), .ref y16, .ref y17, .ref y18, .ref y19, .ref y20, .ref y21, .ref y22, .ref y23, .ref y24, .ref y25, .ref y26, .ref y27, .int mhw, .int (nI mwn), .ref y28, .ref y29, .ref y30, .ref y31, .ref y32, .ref y33, .ref y34, .ref y35, .ref y36, .int (nI mbm), .ref y37, .ref y38, .int (nI mrm), .int mro, .int mrs])), (y6, .inl (cI, 24, .inl MS)), (y14, .inl (cI, 12, .inl (upd ML j 0))), (y15, .inl (cI, 12, .inl (upd MH j (gsum MS j))))] tT) (va_A [(y, .inr (7, [.int (nI mn), .int mtm, .int mgp, .int mlk, .ref y1, .ref y2, .ref y3, .ref y4, .int (nI mp), .ref y5, .ref y6, .ref y7, .ref y8, .ref y9, .ref y10, .ref y11, .ref y12, .ref y13, .ref y14, .ref y15, .int (nI mq), .ref y16, .ref y17, .ref y18, .ref y19, .ref y20, .ref y21, .ref y22, .ref y23, .ref y24, .ref y25, .ref y26, .ref y27, .int mhw, .int (nI mwn), .ref y28, .ref y29, .ref y30, .ref y31, .ref y32, .ref y33, .ref y34, .ref y35, .ref y36, .int (nI mbm), .ref y37, .ref y38, .int (nI mrm), .int mro, .int mrs])), (y6, .inl (cI, 24, .inl MS)), (y14, .inl (cI, 12, .inl ML)), (y15, .inl (cI, 12, .inl MH))] sz)) 0 0 (va_A [(y, .inr (7, [.int (nI mn), .int mtm, .int mgp, .int mlk, .ref y1, .ref y2, .ref y3, .ref y4, .int (nI mp), .ref y5, .ref y6, .ref y7, .ref y8, .ref y9, .ref y10, .ref y11, .ref y12, .ref y13, .ref y14, .ref y15, .int (nI mq), .ref y16, .ref y17, .ref y18, .ref y19, .ref y20, .ref y21, .ref y22, .ref y23, .ref y24, .ref y25, .ref y26, .ref y27, .int mhw, .int (nI mwn), .ref y28, .ref y29, .ref y30, .ref y31, .ref y32, .ref y33, .ref y34, .ref y35, .ref y36, .int (nI mbm), .ref y37, .ref y38, .int (nI mrm), .int mro, .int mrs])), (y6, .inl (cI, 24, .inl MS)), (y14, .inl (cI, 12, .inl ML)), (y15, .inl (cI, 12, .inl MH))] sz) := by
  refine Met.ofW (cc := prog_9_method_9_code) (maxL := 2) (ret := none) (by decide) rfl ?_
  intro p e s m args below meth c s₁ B hml hv
  obtain ⟨rfl, hsz, hP, hK, hD0, hN⟩ := hv
  have hx := B.exec
  have hb := B.bytes
  have hr := B.returns
  have hts0 := atoms_spec (ws := mw ⟨"PromiseChainsModel", "forget", "(I)V"⟩ prog_9_method_9_code 2 none) B.pre
  have hts : ∀ w ∈ tblG, w.before _ s = true := fun w h => hts0 w (List.mem_cons_of_mem _ h)
  have hown : s.vm.findClass "PromiseChainsModel" = some m.cls := findClass_of_methodNamed B.named
  have hlocks := B.notSynchronized
  subst hsz
  have hD := hD0.self (sz := s.heap.size)
  generalize hAe : va_A [(y, .inr (7, [.int (nI mn), .int mtm, .int mgp, .int mlk, .ref y1, .ref y2, .ref y3, .ref y4, .int (nI mp), .ref y5, .ref y6, .ref y7, .ref y8, .ref y9, .ref y10, .ref y11, .ref y12, .ref y13, .ref y14, .ref y15, .int (nI mq), .ref y16, .ref y17, .ref y18, .ref y19, .ref y20, .ref y21, .ref y22, .ref y23, .ref y24, .ref y25, .ref y26, .ref y27, .int mhw, .int (nI mwn), .ref y28, .ref y29, .ref y30, .ref y31, .ref y32, .ref y33, .ref y34, .ref y35, .ref y36, .int (nI mbm), .ref y37, .ref y38, .int (nI mrm), .int mro, .int mrs])), (y6, .inl (cI, 24, .inl MS)), (y14, .inl (cI, 12, .inl ML)), (y15, .inl (cI, 12, .inl MH))] s.heap.size = A at hD ⊢
  have hA : ∀ q : Nat, s.heap.size ≤ q → A q := fun q h => by rw [← hAe]; exact Or.inr h
  have hS : va_S A s.heap s.heap [] := va_S.rf
  have hP : va_P D vwCl [(y, .inr (7, [.int (nI mn), .int mtm, .int mgp, .int mlk, .ref y1, .ref y2, .ref y3, .ref y4, .int (nI mp), .ref y5, .ref y6, .ref y7, .ref y8, .ref y9, .ref y10, .ref y11, .ref y12, .ref y13, .ref y14, .ref y15, .int (nI mq), .ref y16, .ref y17, .ref y18, .ref y19, .ref y20, .ref y21, .ref y22, .ref y23, .ref y24, .ref y25, .ref y26, .ref y27, .int mhw, .int (nI mwn), .ref y28, .ref y29, .ref y30, .ref y31, .ref y32, .ref y33, .ref y34, .ref y35, .ref y36, .int (nI mbm), .ref y37, .ref y38, .int (nI mrm), .int mro, .int mrs])), (y6, .inl (cI, 24, .inl MS)), (y14, .inl (cI, 12, .inl ML)), (y15, .inl (cI, 12, .inl MH))] s.heap := hP
  have hl := lv_entry ([.ref y, .int (nI j)]) (n := 2) (Nat.le_of_ble_eq_true rfl)
  rw [lg_entry_eq]
  generalize (lg_sl ([.ref y, .int (nI j)]) ++ List.replicate (2 - (lg_sl ([.ref y, .int (nI j)])).length) Slot.unset).toArray = ls at hl ⊢
  have hl : lv_has ls 2 [(0, .ref y), (1, .int (nI j))] := hl
  refine lv_aload_n hx hb d_MO_forget_0 rfl (lv_at hl 0 rfl) ?_
  refine va_get (D := D) (ci := 7) (v := .ref y14) (C := R_MO) (T := F_MO) (N := 50) hx hb hts i_MO hown hK hP 0 rfl rfl 18 (by decide) (hts _ q_650) (fun _ h9 => h9) rfl d_MO_forget_1 ?_
  refine lv_iload_n hx hb d_MO_forget_4 rfl (lv_at hl 1 rfl) ?_
  refine lv_iconst (v := 0) hx hb d_MO_forget_5 (by decide) ?_
  refine my_stI hx hb hK hP hD hS 2 rfl j rfl (by omega) (by decide) d_MO_forget_6 (fun H_1 locs hP hD hS => ?_)
  have hP : va_P D vwCl [(y, .inr (7, [.int (nI mn), .int mtm, .int mgp, .int mlk, .ref y1, .ref y2, .ref y3, .ref y4, .int (nI mp), .ref y5, .ref y6, .ref y7, .ref y8, .ref y9, .ref y10, .ref y11, .ref y12, .ref y13, .ref y14, .ref y15, .int (nI mq), .ref y16, .ref y17, .ref y18, .ref y19, .ref y20, .ref y21, .ref y22, .ref y23, .ref y24, .ref y25, .ref y26, .ref y27, .int mhw, .int (nI mwn), .ref y28, .ref y29, .ref y30, .ref y31, .ref y32, .ref y33, .ref y34, .ref y35, .ref y36, .int (nI mbm), .ref y37, .ref y38, .int (nI mrm), .int mro, .int mrs])), (y6, .inl (cI, 24, .inl MS)), (y14, .inl (cI, 12, .inl (upd ML j 0))), (y15, .inl (cI, 12, .inl MH))] H_1 := hP
  refine lv_aload_n hx hb d_MO_forget_7 rfl (lv_at hl 0 rfl) ?_
  refine va_get (D := D) (ci := 7) (v := .ref y15) (C := R_MO) (T := F_MO) (N := 50) hx hb hts i_MO hown hK hP 0 rfl rfl 19 (by decide) (hts _ q_651) (fun _ h9 => h9) rfl d_MO_forget_8 ?_
  refine lv_iload_n hx hb d_MO_forget_11 rfl (lv_at hl 1 rfl) ?_
  refine lv_aload_n hx hb d_MO_forget_12 rfl (lv_at hl 0 rfl) ?_
  refine va_get (D := D) (ci := 7) (v := .ref y6) (C := R_MO) (T := F_MO) (N := 50) hx hb hts i_MO hown hK hP 0 rfl rfl 10 (by decide) (hts _ q_642) (fun _ h9 => h9) rfl d_MO_forget_13 ?_
  refine lv_iconst (v := 2) hx hb d_MO_forget_16 (by decide) ?_
  refine lv_iload_n hx hb d_MO_forget_17 rfl (lv_at hl 1 rfl) ?_
  refine lv_imul hx hb d_MO_forget_18 ?_
  refine lv_seti (nI (2 * j)) (pk_mul 2 j) ?_
  refine my_ldI hx hb hK hP 1 rfl (2 * j) rfl (by omega) (by decide) d_MO_forget_19 ?_
  refine lv_aload_n hx hb d_MO_forget_20 rfl (lv_at hl 0 rfl) ?_
  refine va_get (D := D) (ci := 7) (v := .ref y6) (C := R_MO) (T := F_MO) (N := 50) hx hb hts i_MO hown hK hP 0 rfl rfl 10 (by decide) (hts _ q_642) (fun _ h9 => h9) rfl d_MO_forget_21 ?_
  refine lv_iconst (v := 2) hx hb d_MO_forget_24 (by decide) ?_
  refine lv_iload_n hx hb d_MO_forget_25 rfl (lv_at hl 1 rfl) ?_
  refine lv_imul hx hb d_MO_forget_26 ?_
  refine lv_seti (nI (2 * j)) (pk_mul 2 j) ?_
  refine lv_iconst (v := 1) hx hb d_MO_forget_27 (by decide) ?_
  refine lv_iadd hx hb d_MO_forget_28 ?_
  refine lv_seti (nI ((2 * j) + 1)) (nI_add (2 * j) 1) ?_
  refine my_ldI hx hb hK hP 1 rfl ((2 * j) + 1) rfl (by omega) (by decide) d_MO_forget_29 ?_
  refine lv_iadd hx hb d_MO_forget_30 ?_
  refine my_stI hx hb hK hP hD hS 3 rfl j rfl (by omega) (by decide) d_MO_forget_31 (fun H_2 locs hP hD hS => ?_)
  have hP : va_P D vwCl [(y, .inr (7, [.int (nI mn), .int mtm, .int mgp, .int mlk, .ref y1, .ref y2, .ref y3, .ref y4, .int (nI mp), .ref y5, .ref y6, .ref y7, .ref y8, .ref y9, .ref y10, .ref y11, .ref y12, .ref y13, .ref y14, .ref y15, .int (nI mq), .ref y16, .ref y17, .ref y18, .ref y19, .ref y20, .ref y21, .ref y22, .ref y23, .ref y24, .ref y25, .ref y26, .ref y27, .int mhw, .int (nI mwn), .ref y28, .ref y29, .ref y30, .ref y31, .ref y32, .ref y33, .ref y34, .ref y35, .ref y36, .int (nI mbm), .ref y37, .ref y38, .int (nI mrm), .int mro, .int mrs])), (y6, .inl (cI, 24, .inl MS)), (y14, .inl (cI, 12, .inl (upd ML j 0))), (y15, .inl (cI, 12, .inl (upd MH j ((MS (2 * j)) + (MS ((2 * j) + 1))))))] H_2 := hP
  have hP9 := hP.sub (ws' := [(y, .inr (7, [.int (nI mn), .int mtm, .int mgp, .int mlk, .ref y1, .ref y2, .ref y3, .ref y4, .int (nI mp), .ref y5, .ref y6, .ref y7, .ref y8, .ref y9, .ref y10, .ref y11, .ref y12, .ref y13, .ref y14, .ref y15, .int (nI mq), .ref y16, .ref y17, .ref y18, .ref y19, .ref y20, .ref y21, .ref y22, .ref y23, .ref y24, .ref y25, .ref y26, .ref y27, .int mhw, .int (nI mwn), .ref y28, .ref y29, .ref y30, .ref y31, .ref y32, .ref y33, .ref y34, .ref y35, .ref y36, .int (nI mbm), .ref y37, .ref y38, .int (nI mrm), .int mro, .int mrs])), (y6, .inl (cI, 24, .inl MS)), (y14, .inl (cI, 12, .inl (upd ML j 0))), (y15, .inl (cI, 12, .inl (upd MH j (gsum MS j))))]) [0, 1, 2, 3] rfl
  have hD9 := hD.sub (ws' := [(y, .inr (7, [.int (nI mn), .int mtm, .int mgp, .int mlk, .ref y1, .ref y2, .ref y3, .ref y4, .int (nI mp), .ref y5, .ref y6, .ref y7, .ref y8, .ref y9, .ref y10, .ref y11, .ref y12, .ref y13, .ref y14, .ref y15, .int (nI mq), .ref y16, .ref y17, .ref y18, .ref y19, .ref y20, .ref y21, .ref y22, .ref y23, .ref y24, .ref y25, .ref y26, .ref y27, .int mhw, .int (nI mwn), .ref y28, .ref y29, .ref y30, .ref y31, .ref y32, .ref y33, .ref y34, .ref y35, .ref y36, .int (nI mbm), .ref y37, .ref y38, .int (nI mrm), .int mro, .int mrs])), (y6, .inl (cI, 24, .inl MS)), (y14, .inl (cI, 12, .inl (upd ML j 0))), (y15, .inl (cI, 12, .inl (upd MH j (gsum MS j))))]) [0, 1, 2, 3] (by decide +kernel) rfl
  refine W.widen (k := 0) (n := 0) (Nat.le_of_ble_eq_true rfl) (Nat.le_of_ble_eq_true rfl) ?_
  exact W.vret hx hb hr (fun tT ht hW => ⟨⟨(), rfl, trivial, by rw [ht]; exact hP9, hD9⟩, hS.F ht⟩) hS.2.2 d_MO_forget_32

set_option maxHeartbeats 4000000 in
set_option maxRecDepth 100000 in
theorem e_MO_people (l : Launch) (D : va_G) (cI cZ : ClassId) (y : Nat) (u : Int32) (mn : Nat) (mtm : Int32) (mgp : Int32) (mlk : Int32) (y1 : Nat) (y2 : Nat) (y3 : Nat) (y4 : Nat) (mp : Nat) (y5 : Nat) (y6 : Nat) (y7 : Nat) (y8 : Nat) (y9 : Nat) (y10 : Nat) (y11 : Nat) (y12 : Nat) (y13 : Nat) (y14 : Nat) (y15 : Nat) (mq : Nat) (y16 : Nat) (y17 : Nat) (y18 : Nat) (y19 : Nat) (y20 : Nat) (y21 : Nat) (y22 : Nat) (y23 : Nat) (y24 : Nat) (y25 : Nat) (y26 : Nat) (y27 : Nat) (mhw : Int32) (mwn : Nat) (y28 : Nat) (y29 : Nat) (y30 : Nat) (y31 : Nat) (y32 : Nat) (y33 : Nat) (y34 : Nat) (y35 : Nat) (y36 : Nat) (mbm : Nat) (y37 : Nat) (y38 : Nat) (mrm : Nat) (mro : Int32) (mrs : Int32) (MAw : Nat → Int32) (MC : Nat → Int32) (MB : Nat → Int32) (MR : Nat → Int32) (sz : Nat) (h_mn : mn ≤ 7) (h_mp : mp ≤ 12) (h_mq : mq ≤ 40) (h_mwn : mwn ≤ 8) (h_mbm : mbm ≤ 8) (h_mrm : mrm ≤ 8) : Met l ⟨"PromiseChainsModel", "people", "(I)I"⟩ (mw ⟨"PromiseChainsModel", "people", "(I)I"⟩ prog_9_method_6_code 3 (some .int)) ({ frames := 1, cells := 0, slots := 0, locals := 22 }) (va_Pc [.ref y, .int u] (PB D cI cZ sz [(y, .inr (7, [.int (nI mn), .int mtm, .int mgp, .int mlk, .ref y1, .ref y2, .ref y3, .ref y4, .int (nI mp), .ref y5, .ref y6, .ref y7, .ref y8, .ref y9, .ref y10, .ref y11, .ref y12, .ref y13, .ref y14, .ref y15, .int (nI mq), .ref y16, .ref y17, .ref y18, .ref y19, .ref y20, .ref y21, .ref y22, .ref y23, .ref y24, .ref y25, .ref y26, .ref y27, .int mhw, .int (nI mwn), .ref y28, .ref y29, .ref y30, .ref y31, .ref y32, .ref y33, .ref y34, .ref y35, .ref y36, .int (nI mbm), .ref y37, .ref y38, .int (nI mrm), .int mro, .int mrs])), (y1, .inl (cZ, 7, .inl MAw)), (y2, .inl (cI, 7, .inl MC)), (y3, .inl (cI, 7, .inl MB)), (y4, .inl (cI, 7, .inl MR))])) (va_Qi (S := Nat × Int32 × Nat × Nat × Int32 × Nat × (Nat → Int32) × (Nat → Int32) × (Nat → Int32) × (Nat → Int32)) (fun (r : Int32) uU => (uU.1 ≤ 7) ∧ (uU.2.2.1 ≤ 12) ∧ (uU.2.2.2.1 ≤ 40) ∧ (uU.2.2.2.2.2.1 ≤ 8) ∧ ((isw u 2 7 = 0 ∧ uU.1 = mn ∧ uU.2.2.2.2.2.2.2.2.1 = MB ∧ uU.2.2.2.2.2.2.2.2.2 = MR ∧ uU.2.2.2.2.2.2.1 = MAw ∧ uU.2.2.1 = mp ∧ uU.2.2.2.1 = mq ∧ uU.2.2.2.2.1 = mhw ∧ uU.2.2.2.2.2.1 = mwn ∧ uU.2.1 = mtm ∧ r = -2) ∨ (¬ isw u 2 7 = 0 ∧ u = nI uU.1 ∧ uU.2.2.2.2.2.2.2.2.1 = zf 7 MB ∧ uU.2.2.2.2.2.2.2.2.2 = zf 7 MR ∧ uU.2.2.2.2.2.2.1 = zf 7 MAw ∧ uU.2.2.1 = 0 ∧ uU.2.2.2.1 = 0 ∧ uU.2.2.2.2.1 = 0 ∧ uU.2.2.2.2.2.1 = 0 ∧ uU.2.1 = 0 ∧ r = 1))) (fun uU tT => BB D (va_A [(y, .inr (7, [.int (nI mn), .int mtm, .int mgp, .int mlk, .ref y1, .ref y2, .ref y3, .ref y4, .int (nI mp), .ref y5, .ref y6, .ref y7, .ref y8, .ref y9, .ref y10, .ref y11, .ref y12, .ref y13, .ref y14, .ref y15, .int (nI mq), .ref y16, .ref y17, .ref y18, .ref y19, .ref y20, .ref y21, .ref y22, .ref y23, .ref y24, .ref y25, .ref y26, .ref y27, .int mhw, .int (nI mwn), .ref y28, .ref y29, .ref y30, .ref y31, .ref y32, .ref y33, .ref y34, .ref y35, .ref y36, .int (nI mbm), .ref y37, .ref y38, .int (nI mrm), .int mro, .int mrs])), (y1, .inl (cZ, 7, .inl MAw)), (y2, .inl (cI, 7, .inl MC)), (y3, .inl (cI, 7, .inl MB)), (y4, .inl (cI, 7, .inl MR))] sz) [(y, .inr (7, [.int (nI uU.1), .int (uU.2.1), .int mgp, .int mlk, .ref y1, .ref y2, .ref y3, .ref y4, .int (nI uU.2.2.1), .ref y5, .ref y6, .ref y7, .ref y8, .ref y9, .ref y10, .ref y11, .ref y12, .ref y13, .ref y14, .ref y15, .int (nI uU.2.2.2.1), .ref y16, .ref y17, .ref y18, .ref y19, .ref y20, .ref y21, .ref y22, .ref y23, .ref y24, .ref y25, .ref y26, .ref y27, .int (uU.2.2.2.2.1), .int (nI uU.2.2.2.2.2.1), .ref y28, .ref y29, .ref y30, .ref y31, .ref y32, .ref y33, .ref y34, .ref y35, .ref y36, .int (nI mbm), .ref y37, .ref y38, .int (nI mrm), .int mro, .int mrs])), (y1, .inl (cZ, 7, .inl (uU.2.2.2.2.2.2.1))), (y2, .inl (cI, 7, .inl (uU.2.2.2.2.2.2.2.1))), (y3, .inl (cI, 7, .inl (uU.2.2.2.2.2.2.2.2.1))), (y4, .inl (cI, 7, .inl (uU.2.2.2.2.2.2.2.2.2)))] tT) (va_A [(y, .inr (7, [.int (nI mn), .int mtm, .int mgp, .int mlk, .ref y1, .ref y2, .ref y3, .ref y4, .int (nI mp), .ref y5, .ref y6, .ref y7, .ref y8, .ref y9, .ref y10, .ref y11, .ref y12, .ref y13, .ref y14, .ref y15, .int (nI mq), .ref y16, .ref y17, .ref y18, .ref y19, .ref y20, .ref y21, .ref y22, .ref y23, .ref y24, .ref y25, .ref y26, .ref y27, .int mhw, .int (nI mwn), .ref y28, .ref y29, .ref y30, .ref y31, .ref y32, .ref y33, .ref y34, .ref y35, .ref y36, .int (nI mbm), .ref y37, .ref y38, .int (nI mrm), .int mro, .int mrs])), (y1, .inl (cZ, 7, .inl MAw)), (y2, .inl (cI, 7, .inl MC)), (y3, .inl (cI, 7, .inl MB)), (y4, .inl (cI, 7, .inl MR))] sz)) 0 0 (va_A [(y, .inr (7, [.int (nI mn), .int mtm, .int mgp, .int mlk, .ref y1, .ref y2, .ref y3, .ref y4, .int (nI mp), .ref y5, .ref y6, .ref y7, .ref y8, .ref y9, .ref y10, .ref y11, .ref y12, .ref y13, .ref y14, .ref y15, .int (nI mq), .ref y16, .ref y17, .ref y18, .ref y19, .ref y20, .ref y21, .ref y22, .ref y23, .ref y24, .ref y25, .ref y26, .ref y27, .int mhw, .int (nI mwn), .ref y28, .ref y29, .ref y30, .ref y31, .ref y32, .ref y33, .ref y34, .ref y35, .ref y36, .int (nI mbm), .ref y37, .ref y38, .int (nI mrm), .int mro, .int mrs])), (y1, .inl (cZ, 7, .inl MAw)), (y2, .inl (cI, 7, .inl MC)), (y3, .inl (cI, 7, .inl MB)), (y4, .inl (cI, 7, .inl MR))] sz) := by
  refine Met.ofW (cc := prog_9_method_6_code) (maxL := 3) (ret := (some .int)) (by decide) rfl ?_
  intro p e s m args below meth c s₁ B hml hv
  obtain ⟨rfl, hsz, hP, hK, hD0, hN⟩ := hv
  have hx := B.exec
  have hb := B.bytes
  have hr := B.returns
  have hts0 := atoms_spec (ws := mw ⟨"PromiseChainsModel", "people", "(I)I"⟩ prog_9_method_6_code 3 (some .int)) B.pre
  have hts : ∀ w ∈ tblG, w.before _ s = true := fun w h => hts0 w (List.mem_cons_of_mem _ h)
  have hown : s.vm.findClass "PromiseChainsModel" = some m.cls := findClass_of_methodNamed B.named
  have hlocks := B.notSynchronized
  subst hsz
  have hD := hD0.self (sz := s.heap.size)
  generalize hAe : va_A [(y, .inr (7, [.int (nI mn), .int mtm, .int mgp, .int mlk, .ref y1, .ref y2, .ref y3, .ref y4, .int (nI mp), .ref y5, .ref y6, .ref y7, .ref y8, .ref y9, .ref y10, .ref y11, .ref y12, .ref y13, .ref y14, .ref y15, .int (nI mq), .ref y16, .ref y17, .ref y18, .ref y19, .ref y20, .ref y21, .ref y22, .ref y23, .ref y24, .ref y25, .ref y26, .ref y27, .int mhw, .int (nI mwn), .ref y28, .ref y29, .ref y30, .ref y31, .ref y32, .ref y33, .ref y34, .ref y35, .ref y36, .int (nI mbm), .ref y37, .ref y38, .int (nI mrm), .int mro, .int mrs])), (y1, .inl (cZ, 7, .inl MAw)), (y2, .inl (cI, 7, .inl MC)), (y3, .inl (cI, 7, .inl MB)), (y4, .inl (cI, 7, .inl MR))] s.heap.size = A at hD ⊢
  have hA : ∀ q : Nat, s.heap.size ≤ q → A q := fun q h => by rw [← hAe]; exact Or.inr h
  have hS : va_S A s.heap s.heap [] := va_S.rf
  have hP : va_P D vwCl [(y, .inr (7, [.int (nI mn), .int mtm, .int mgp, .int mlk, .ref y1, .ref y2, .ref y3, .ref y4, .int (nI mp), .ref y5, .ref y6, .ref y7, .ref y8, .ref y9, .ref y10, .ref y11, .ref y12, .ref y13, .ref y14, .ref y15, .int (nI mq), .ref y16, .ref y17, .ref y18, .ref y19, .ref y20, .ref y21, .ref y22, .ref y23, .ref y24, .ref y25, .ref y26, .ref y27, .int mhw, .int (nI mwn), .ref y28, .ref y29, .ref y30, .ref y31, .ref y32, .ref y33, .ref y34, .ref y35, .ref y36, .int (nI mbm), .ref y37, .ref y38, .int (nI mrm), .int mro, .int mrs])), (y1, .inl (cZ, 7, .inl MAw)), (y2, .inl (cI, 7, .inl MC)), (y3, .inl (cI, 7, .inl MB)), (y4, .inl (cI, 7, .inl MR))] s.heap := hP
  have hl := lv_entry ([.ref y, .int u]) (n := 3) (Nat.le_of_ble_eq_true rfl)
  rw [lg_entry_eq]
  generalize (lg_sl ([.ref y, .int u]) ++ List.replicate (3 - (lg_sl ([.ref y, .int u])).length) Slot.unset).toArray = ls at hl ⊢
  have hl : lv_has ls 3 [(0, .ref y), (1, .int u)] := hl
  refine lv_iload_n hx hb d_MO_people_0 rfl (lv_at hl 1 rfl) ?_
  refine lv_iconst (v := 2) hx hb d_MO_people_1 (by decide) ?_
  refine lv_bipush (v := 7) hx hb d_MO_people_2 (by decide) ?_
  have hPc := hP.sub (ws' := []) [] rfl
  have hDc := hD.sub (ws' := []) [] (by decide +kernel) rfl
  refine vp_callSi (va_Run.run (va_runS (As := [.int u, .int 2, .int 7]) (rest := []) ⟨hx, hb, hml, hown, hts⟩ (e_MO_in l D cI cZ u 2 7 s.heap.size ) (my_cwS 3 hts q_789 q_787 q_788 q_8 rfl rfl (by decide +kernel) ⟨Nat.le_of_ble_eq_true rfl, Nat.le_of_ble_eq_true rfl⟩) (my_preS hPc hDc hK hN) rfl rfl hl.1 rfl (lv_room (Nat.le_of_ble_eq_true rfl)) d_MO_people_4 ⟨Nat.le_of_ble_eq_true rfl, Nat.le_of_ble_eq_true rfl⟩)) (fun r_1 hw_1 => ?_)
  have hf_1_0 : r_1 = isw u 2 7 := hw_1
  have hf_1_0 : r_1 = isw u 2 7 := hf_1_0
  subst hf_1_0
  refine lv_if_ne (tgt := 13) hx hb d_MO_people_7 (by decide) (fun h_2 => ?_) (fun h_2 => ?_)
  · obtain ⟨j_3, hx_4, rfl⟩ := isw_lo (K := 7) (by decide) rfl h_2
    refine lv_aload_n hx hb d_MO_people_13 rfl (lv_at hl 0 rfl) ?_
    refine lv_iload_n hx hb d_MO_people_14 rfl (lv_at hl 1 rfl) ?_
    refine va_put (D := D) (ci := 7) (v := .int (nI j_3)) (ty := .int) (C := R_MO) (T := F_MO) (N := 50) hx hb hts i_MO t_MO t_MO_ok n_MO hown hK hP hD hS 0 rfl rfl 0 (by decide) (hts _ q_632) (fun _ h9 => h9) rfl (by decide +kernel) rfl rfl (Nat.le_of_ble_eq_true rfl) d_MO_people_15 (fun H_5 locs hP hD hS => ?_)
    have hP : va_P D vwCl [(y, .inr (7, [.int (nI j_3), .int mtm, .int mgp, .int mlk, .ref y1, .ref y2, .ref y3, .ref y4, .int (nI mp), .ref y5, .ref y6, .ref y7, .ref y8, .ref y9, .ref y10, .ref y11, .ref y12, .ref y13, .ref y14, .ref y15, .int (nI mq), .ref y16, .ref y17, .ref y18, .ref y19, .ref y20, .ref y21, .ref y22, .ref y23, .ref y24, .ref y25, .ref y26, .ref y27, .int mhw, .int (nI mwn), .ref y28, .ref y29, .ref y30, .ref y31, .ref y32, .ref y33, .ref y34, .ref y35, .ref y36, .int (nI mbm), .ref y37, .ref y38, .int (nI mrm), .int mro, .int mrs])), (y1, .inl (cZ, 7, .inl MAw)), (y2, .inl (cI, 7, .inl MC)), (y3, .inl (cI, 7, .inl MB)), (y4, .inl (cI, 7, .inl MR))] H_5 := hP
    refine lv_aload_n hx hb d_MO_people_18 rfl (lv_at hl 0 rfl) ?_
    refine lv_iconst (v := 0) hx hb d_MO_people_19 (by decide) ?_
    refine va_put (D := D) (ci := 7) (v := .int 0) (ty := .int) (C := R_MO) (T := F_MO) (N := 50) hx hb hts i_MO t_MO t_MO_ok n_MO hown hK hP hD hS 0 rfl rfl 1 (by decide) (hts _ q_633) (fun _ h9 => h9) rfl (by decide +kernel) rfl rfl (Nat.le_of_ble_eq_true rfl) d_MO_people_20 (fun H_6 locs hP hD hS => ?_)
    have hP : va_P D vwCl [(y, .inr (7, [.int (nI j_3), .int 0, .int mgp, .int mlk, .ref y1, .ref y2, .ref y3, .ref y4, .int (nI mp), .ref y5, .ref y6, .ref y7, .ref y8, .ref y9, .ref y10, .ref y11, .ref y12, .ref y13, .ref y14, .ref y15, .int (nI mq), .ref y16, .ref y17, .ref y18, .ref y19, .ref y20, .ref y21, .ref y22, .ref y23, .ref y24, .ref y25, .ref y26, .ref y27, .int mhw, .int (nI mwn), .ref y28, .ref y29, .ref y30, .ref y31, .ref y32, .ref y33, .ref y34, .ref y35, .ref y36, .int (nI mbm), .ref y37, .ref y38, .int (nI mrm), .int mro, .int mrs])), (y1, .inl (cZ, 7, .inl MAw)), (y2, .inl (cI, 7, .inl MC)), (y3, .inl (cI, 7, .inl MB)), (y4, .inl (cI, 7, .inl MR))] H_6 := hP
    refine lv_aload_n hx hb d_MO_people_23 rfl (lv_at hl 0 rfl) ?_
    refine lv_iconst (v := 0) hx hb d_MO_people_24 (by decide) ?_
    refine va_put (D := D) (ci := 7) (v := .int 0) (ty := .int) (C := R_MO) (T := F_MO) (N := 50) hx hb hts i_MO t_MO t_MO_ok n_MO hown hK hP hD hS 0 rfl rfl 8 (by decide) (hts _ q_640) (fun _ h9 => h9) rfl (by decide +kernel) rfl rfl (Nat.le_of_ble_eq_true rfl) d_MO_people_25 (fun H_7 locs hP hD hS => ?_)
    have hP : va_P D vwCl [(y, .inr (7, [.int (nI j_3), .int 0, .int mgp, .int mlk, .ref y1, .ref y2, .ref y3, .ref y4, .int 0, .ref y5, .ref y6, .ref y7, .ref y8, .ref y9, .ref y10, .ref y11, .ref y12, .ref y13, .ref y14, .ref y15, .int (nI mq), .ref y16, .ref y17, .ref y18, .ref y19, .ref y20, .ref y21, .ref y22, .ref y23, .ref y24, .ref y25, .ref y26, .ref y27, .int mhw, .int (nI mwn), .ref y28, .ref y29, .ref y30, .ref y31, .ref y32, .ref y33, .ref y34, .ref y35, .ref y36, .int (nI mbm), .ref y37, .ref y38, .int (nI mrm), .int mro, .int mrs])), (y1, .inl (cZ, 7, .inl MAw)), (y2, .inl (cI, 7, .inl MC)), (y3, .inl (cI, 7, .inl MB)), (y4, .inl (cI, 7, .inl MR))] H_7 := hP
    refine lv_aload_n hx hb d_MO_people_28 rfl (lv_at hl 0 rfl) ?_
    refine lv_iconst (v := 0) hx hb d_MO_people_29 (by decide) ?_
    refine va_put (D := D) (ci := 7) (v := .int 0) (ty := .int) (C := R_MO) (T := F_MO) (N := 50) hx hb hts i_MO t_MO t_MO_ok n_MO hown hK hP hD hS 0 rfl rfl 20 (by decide) (hts _ q_652) (fun _ h9 => h9) rfl (by decide +kernel) rfl rfl (Nat.le_of_ble_eq_true rfl) d_MO_people_30 (fun H_8 locs hP hD hS => ?_)
    have hP : va_P D vwCl [(y, .inr (7, [.int (nI j_3), .int 0, .int mgp, .int mlk, .ref y1, .ref y2, .ref y3, .ref y4, .int 0, .ref y5, .ref y6, .ref y7, .ref y8, .ref y9, .ref y10, .ref y11, .ref y12, .ref y13, .ref y14, .ref y15, .int 0, .ref y16, .ref y17, .ref y18, .ref y19, .ref y20, .ref y21, .ref y22, .ref y23, .ref y24, .ref y25, .ref y26, .ref y27, .int mhw, .int (nI mwn), .ref y28, .ref y29, .ref y30, .ref y31, .ref y32, .ref y33, .ref y34, .ref y35, .ref y36, .int (nI mbm), .ref y37, .ref y38, .int (nI mrm), .int mro, .int mrs])), (y1, .inl (cZ, 7, .inl MAw)), (y2, .inl (cI, 7, .inl MC)), (y3, .inl (cI, 7, .inl MB)), (y4, .inl (cI, 7, .inl MR))] H_8 := hP
    refine lv_aload_n hx hb d_MO_people_33 rfl (lv_at hl 0 rfl) ?_
    refine lv_iconst (v := 0) hx hb d_MO_people_34 (by decide) ?_
    refine va_put (D := D) (ci := 7) (v := .int 0) (ty := .boolean) (C := R_MO) (T := F_MO) (N := 50) hx hb hts i_MO t_MO t_MO_ok n_MO hown hK hP hD hS 0 rfl rfl 33 (by decide) (hts _ q_665) (fun _ h9 => h9) rfl (by decide +kernel) rfl rfl (Nat.le_of_ble_eq_true rfl) d_MO_people_35 (fun H_9 locs hP hD hS => ?_)
    have hP : va_P D vwCl [(y, .inr (7, [.int (nI j_3), .int 0, .int mgp, .int mlk, .ref y1, .ref y2, .ref y3, .ref y4, .int 0, .ref y5, .ref y6, .ref y7, .ref y8, .ref y9, .ref y10, .ref y11, .ref y12, .ref y13, .ref y14, .ref y15, .int 0, .ref y16, .ref y17, .ref y18, .ref y19, .ref y20, .ref y21, .ref y22, .ref y23, .ref y24, .ref y25, .ref y26, .ref y27, .int 0, .int (nI mwn), .ref y28, .ref y29, .ref y30, .ref y31, .ref y32, .ref y33, .ref y34, .ref y35, .ref y36, .int (nI mbm), .ref y37, .ref y38, .int (nI mrm), .int mro, .int mrs])), (y1, .inl (cZ, 7, .inl MAw)), (y2, .inl (cI, 7, .inl MC)), (y3, .inl (cI, 7, .inl MB)), (y4, .inl (cI, 7, .inl MR))] H_9 := hP
    refine lv_aload_n hx hb d_MO_people_38 rfl (lv_at hl 0 rfl) ?_
    refine lv_iconst (v := 0) hx hb d_MO_people_39 (by decide) ?_
    refine va_put (D := D) (ci := 7) (v := .int 0) (ty := .int) (C := R_MO) (T := F_MO) (N := 50) hx hb hts i_MO t_MO t_MO_ok n_MO hown hK hP hD hS 0 rfl rfl 34 (by decide) (hts _ q_666) (fun _ h9 => h9) rfl (by decide +kernel) rfl rfl (Nat.le_of_ble_eq_true rfl) d_MO_people_40 (fun H_10 locs hP hD hS => ?_)
    have hP : va_P D vwCl [(y, .inr (7, [.int (nI j_3), .int 0, .int mgp, .int mlk, .ref y1, .ref y2, .ref y3, .ref y4, .int 0, .ref y5, .ref y6, .ref y7, .ref y8, .ref y9, .ref y10, .ref y11, .ref y12, .ref y13, .ref y14, .ref y15, .int 0, .ref y16, .ref y17, .ref y18, .ref y19, .ref y20, .ref y21, .ref y22, .ref y23, .ref y24, .ref y25, .ref y26, .ref y27, .int 0, .int 0, .ref y28, .ref y29, .ref y30, .ref y31, .ref y32, .ref y33, .ref y34, .ref y35, .ref y36, .int (nI mbm), .ref y37, .ref y38, .int (nI mrm), .int mro, .int mrs])), (y1, .inl (cZ, 7, .inl MAw)), (y2, .inl (cI, 7, .inl MC)), (y3, .inl (cI, 7, .inl MB)), (y4, .inl (cI, 7, .inl MR))] H_10 := hP
    refine lv_iconst (v := 0) hx hb d_MO_people_43 (by decide) ?_
    refine lv_istore_n (lv' := [(2, .int 0), (0, .ref y), (1, .int (nI j_3))]) hx hb d_MO_people_44 rfl hl (by decide) rfl (fun ls hl => ?_)
    refine W_loop (σ := Nat × (Nat → Int32) × (Nat → Int32) × (Nat → Int32) × (Nat → Int32)) (I := fun xX H locs ls => xX.1 ≤ 7 ∧ xX.2.1 = zf xX.1 MAw ∧ xX.2.2.1 = zf xX.1 MC ∧ xX.2.2.2.1 = zf xX.1 MB ∧ xX.2.2.2.2 = zf xX.1 MR ∧ va_P D vwCl [(y, .inr (7, [.int (nI j_3), .int 0, .int mgp, .int mlk, .ref y1, .ref y2, .ref y3, .ref y4, .int 0, .ref y5, .ref y6, .ref y7, .ref y8, .ref y9, .ref y10, .ref y11, .ref y12, .ref y13, .ref y14, .ref y15, .int 0, .ref y16, .ref y17, .ref y18, .ref y19, .ref y20, .ref y21, .ref y22, .ref y23, .ref y24, .ref y25, .ref y26, .ref y27, .int 0, .int 0, .ref y28, .ref y29, .ref y30, .ref y31, .ref y32, .ref y33, .ref y34, .ref y35, .ref y36, .int (nI mbm), .ref y37, .ref y38, .int (nI mrm), .int mro, .int mrs])), (y1, .inl (cZ, 7, .inl xX.2.1)), (y2, .inl (cI, 7, .inl xX.2.2.1)), (y3, .inl (cI, 7, .inl xX.2.2.2.1)), (y4, .inl (cI, 7, .inl xX.2.2.2.2))] H ∧ va_D A [(y, .inr (7, [.int (nI j_3), .int 0, .int mgp, .int mlk, .ref y1, .ref y2, .ref y3, .ref y4, .int 0, .ref y5, .ref y6, .ref y7, .ref y8, .ref y9, .ref y10, .ref y11, .ref y12, .ref y13, .ref y14, .ref y15, .int 0, .ref y16, .ref y17, .ref y18, .ref y19, .ref y20, .ref y21, .ref y22, .ref y23, .ref y24, .ref y25, .ref y26, .ref y27, .int 0, .int 0, .ref y28, .ref y29, .ref y30, .ref y31, .ref y32, .ref y33, .ref y34, .ref y35, .ref y36, .int (nI mbm), .ref y37, .ref y38, .int (nI mrm), .int mro, .int mrs])), (y1, .inl (cZ, 7, .inl xX.2.1)), (y2, .inl (cI, 7, .inl xX.2.2.1)), (y3, .inl (cI, 7, .inl xX.2.2.2.1)), (y4, .inl (cI, 7, .inl xX.2.2.2.2))] ∧ va_S A s.heap H locs ∧ lv_has ls 3 [(2, .int (nI xX.1)), (0, .ref y)]) (μ := fun xX => 8 - xX.1) ?_ (0, MAw, MC, MB, MR) ⟨(by first | omega | (dsimp only; omega)), (zf_0 _).symm, (zf_0 _).symm, (zf_0 _).symm, (zf_0 _).symm, hP, hD, hS, lv_sub hl [0, 1] rfl⟩
    intro xX H_11 locs ls hI ih1
    obtain ⟨i_l, MAw_1, MC_1, MB_1, MR_1⟩ := xX
    obtain ⟨hi, c1, c2, c3, c4, hP, hD, hS, hl⟩ := hI
    have hP : va_P D vwCl [(y, .inr (7, [.int (nI j_3), .int 0, .int mgp, .int mlk, .ref y1, .ref y2, .ref y3, .ref y4, .int 0, .ref y5, .ref y6, .ref y7, .ref y8, .ref y9, .ref y10, .ref y11, .ref y12, .ref y13, .ref y14, .ref y15, .int 0, .ref y16, .ref y17, .ref y18, .ref y19, .ref y20, .ref y21, .ref y22, .ref y23, .ref y24, .ref y25, .ref y26, .ref y27, .int 0, .int 0, .ref y28, .ref y29, .ref y30, .ref y31, .ref y32, .ref y33, .ref y34, .ref y35, .ref y36, .int (nI mbm), .ref y37, .ref y38, .int (nI mrm), .int mro, .int mrs])), (y1, .inl (cZ, 7, .inl MAw_1)), (y2, .inl (cI, 7, .inl MC_1)), (y3, .inl (cI, 7, .inl MB_1)), (y4, .inl (cI, 7, .inl MR_1))] H_11 := hP
    have hl : lv_has ls 3 [(2, .int (nI i_l)), (0, .ref y)] := hl
    have hi : i_l ≤ 7 := hi
    have c1 : MAw_1 = zf i_l MAw := c1
    have c2 : MC_1 = zf i_l MC := c2
    have c3 : MB_1 = zf i_l MB := c3
    have c4 : MR_1 = zf i_l MR := c4
    refine lv_iload_n hx hb d_MO_people_45 rfl (lv_at hl 0 rfl) ?_
    refine lv_bipush (v := 7) hx hb d_MO_people_46 (by decide) ?_
    refine lv_icmp_ge (tgt := 85) hx hb d_MO_people_48 (by decide) (fun h_12 => ?_) (fun h_12 => ?_)
    · have nh_12 : 7 ≤ i_l := (nI_leI (a := 7) (b := i_l) (by omega) (by omega)).mp h_12
      refine lv_iconst (v := 1) hx hb d_MO_people_85 (by decide) ?_
      have hP9 := hP.sub (ws' := [(y, .inr (7, [.int (nI j_3), .int 0, .int mgp, .int mlk, .ref y1, .ref y2, .ref y3, .ref y4, .int (nI 0), .ref y5, .ref y6, .ref y7, .ref y8, .ref y9, .ref y10, .ref y11, .ref y12, .ref y13, .ref y14, .ref y15, .int (nI 0), .ref y16, .ref y17, .ref y18, .ref y19, .ref y20, .ref y21, .ref y22, .ref y23, .ref y24, .ref y25, .ref y26, .ref y27, .int 0, .int (nI 0), .ref y28, .ref y29, .ref y30, .ref y31, .ref y32, .ref y33, .ref y34, .ref y35, .ref y36, .int (nI mbm), .ref y37, .ref y38, .int (nI mrm), .int mro, .int mrs])), (y1, .inl (cZ, 7, .inl MAw_1)), (y2, .inl (cI, 7, .inl MC_1)), (y3, .inl (cI, 7, .inl MB_1)), (y4, .inl (cI, 7, .inl MR_1))]) [0, 1, 2, 3, 4] rfl
      have hD9 := hD.sub (ws' := [(y, .inr (7, [.int (nI j_3), .int 0, .int mgp, .int mlk, .ref y1, .ref y2, .ref y3, .ref y4, .int (nI 0), .ref y5, .ref y6, .ref y7, .ref y8, .ref y9, .ref y10, .ref y11, .ref y12, .ref y13, .ref y14, .ref y15, .int (nI 0), .ref y16, .ref y17, .ref y18, .ref y19, .ref y20, .ref y21, .ref y22, .ref y23, .ref y24, .ref y25, .ref y26, .ref y27, .int 0, .int (nI 0), .ref y28, .ref y29, .ref y30, .ref y31, .ref y32, .ref y33, .ref y34, .ref y35, .ref y36, .int (nI mbm), .ref y37, .ref y38, .int (nI mrm), .int mro, .int mrs])), (y1, .inl (cZ, 7, .inl MAw_1)), (y2, .inl (cI, 7, .inl MC_1)), (y3, .inl (cI, 7, .inl MB_1)), (y4, .inl (cI, 7, .inl MR_1))]) [0, 1, 2, 3, 4] (by decide +kernel) rfl
      refine W.widen (k := 0) (n := 0) (Nat.le_of_ble_eq_true rfl) (Nat.le_of_ble_eq_true rfl) ?_
      exact W.iret (v := 1) hx hb hr (fun tT ht hW => ⟨⟨1, (j_3, 0, 0, 0, 0, 0, MAw_1, MC_1, MB_1, MR_1), rfl, ⟨(by first | omega | (dsimp only; omega)), (by first | omega | (dsimp only; omega)), (by first | omega | (dsimp only; omega)), (by first | omega | (dsimp only; omega)), Or.inr (⟨h_2, rfl, (by rw [c3, show i_l = 7 by omega]), (by rw [c4, show i_l = 7 by omega]), (by rw [c1, show i_l = 7 by omega]), rfl, rfl, rfl, rfl, rfl, rfl⟩)⟩, by rw [ht]; exact hP9, hD9⟩, hS.F ht⟩) hS.2.2 d_MO_people_86
    · have nh_12 : ¬ 7 ≤ i_l := fun qZ => h_12 ((nI_leI (a := 7) (b := i_l) (by omega) (by omega)).mpr qZ)
      refine lv_aload_n hx hb d_MO_people_51 rfl (lv_at hl 1 rfl) ?_
      refine va_get (D := D) (ci := 7) (v := .ref y1) (C := R_MO) (T := F_MO) (N := 50) hx hb hts i_MO hown hK hP 0 rfl rfl 4 (by decide) (hts _ q_636) (fun _ h9 => h9) rfl d_MO_people_52 ?_
      refine lv_iload_n hx hb d_MO_people_55 rfl (lv_at hl 0 rfl) ?_
      refine lv_iconst (v := 0) hx hb d_MO_people_56 (by decide) ?_
      refine my_stZ hx hb hK hP hD hS 1 rfl i_l 0 rfl rfl (by omega) (by decide) d_MO_people_57 (fun H_13 locs hP hD hS => ?_)
      have hP : va_P D vwCl [(y, .inr (7, [.int (nI j_3), .int 0, .int mgp, .int mlk, .ref y1, .ref y2, .ref y3, .ref y4, .int 0, .ref y5, .ref y6, .ref y7, .ref y8, .ref y9, .ref y10, .ref y11, .ref y12, .ref y13, .ref y14, .ref y15, .int 0, .ref y16, .ref y17, .ref y18, .ref y19, .ref y20, .ref y21, .ref y22, .ref y23, .ref y24, .ref y25, .ref y26, .ref y27, .int 0, .int 0, .ref y28, .ref y29, .ref y30, .ref y31, .ref y32, .ref y33, .ref y34, .ref y35, .ref y36, .int (nI mbm), .ref y37, .ref y38, .int (nI mrm), .int mro, .int mrs])), (y1, .inl (cZ, 7, .inl (upd MAw_1 i_l 0))), (y2, .inl (cI, 7, .inl MC_1)), (y3, .inl (cI, 7, .inl MB_1)), (y4, .inl (cI, 7, .inl MR_1))] H_13 := hP
      refine lv_aload_n hx hb d_MO_people_58 rfl (lv_at hl 1 rfl) ?_
      refine va_get (D := D) (ci := 7) (v := .ref y2) (C := R_MO) (T := F_MO) (N := 50) hx hb hts i_MO hown hK hP 0 rfl rfl 5 (by decide) (hts _ q_637) (fun _ h9 => h9) rfl d_MO_people_59 ?_
      refine lv_iload_n hx hb d_MO_people_62 rfl (lv_at hl 0 rfl) ?_
      refine lv_iconst (v := 0) hx hb d_MO_people_63 (by decide) ?_
      refine my_stI hx hb hK hP hD hS 2 rfl i_l rfl (by omega) (by decide) d_MO_people_64 (fun H_14 locs hP hD hS => ?_)
      have hP : va_P D vwCl [(y, .inr (7, [.int (nI j_3), .int 0, .int mgp, .int mlk, .ref y1, .ref y2, .ref y3, .ref y4, .int 0, .ref y5, .ref y6, .ref y7, .ref y8, .ref y9, .ref y10, .ref y11, .ref y12, .ref y13, .ref y14, .ref y15, .int 0, .ref y16, .ref y17, .ref y18, .ref y19, .ref y20, .ref y21, .ref y22, .ref y23, .ref y24, .ref y25, .ref y26, .ref y27, .int 0, .int 0, .ref y28, .ref y29, .ref y30, .ref y31, .ref y32, .ref y33, .ref y34, .ref y35, .ref y36, .int (nI mbm), .ref y37, .ref y38, .int (nI mrm), .int mro, .int mrs])), (y1, .inl (cZ, 7, .inl (upd MAw_1 i_l 0))), (y2, .inl (cI, 7, .inl (upd MC_1 i_l 0))), (y3, .inl (cI, 7, .inl MB_1)), (y4, .inl (cI, 7, .inl MR_1))] H_14 := hP
      refine lv_aload_n hx hb d_MO_people_65 rfl (lv_at hl 1 rfl) ?_
      refine va_get (D := D) (ci := 7) (v := .ref y3) (C := R_MO) (T := F_MO) (N := 50) hx hb hts i_MO hown hK hP 0 rfl rfl 6 (by decide) (hts _ q_638) (fun _ h9 => h9) rfl d_MO_people_66 ?_
      refine lv_iload_n hx hb d_MO_people_69 rfl (lv_at hl 0 rfl) ?_
      refine lv_iconst (v := 0) hx hb d_MO_people_70 (by decide) ?_
      refine my_stI hx hb hK hP hD hS 3 rfl i_l rfl (by omega) (by decide) d_MO_people_71 (fun H_15 locs hP hD hS => ?_)
      have hP : va_P D vwCl [(y, .inr (7, [.int (nI j_3), .int 0, .int mgp, .int mlk, .ref y1, .ref y2, .ref y3, .ref y4, .int 0, .ref y5, .ref y6, .ref y7, .ref y8, .ref y9, .ref y10, .ref y11, .ref y12, .ref y13, .ref y14, .ref y15, .int 0, .ref y16, .ref y17, .ref y18, .ref y19, .ref y20, .ref y21, .ref y22, .ref y23, .ref y24, .ref y25, .ref y26, .ref y27, .int 0, .int 0, .ref y28, .ref y29, .ref y30, .ref y31, .ref y32, .ref y33, .ref y34, .ref y35, .ref y36, .int (nI mbm), .ref y37, .ref y38, .int (nI mrm), .int mro, .int mrs])), (y1, .inl (cZ, 7, .inl (upd MAw_1 i_l 0))), (y2, .inl (cI, 7, .inl (upd MC_1 i_l 0))), (y3, .inl (cI, 7, .inl (upd MB_1 i_l 0))), (y4, .inl (cI, 7, .inl MR_1))] H_15 := hP
      refine lv_aload_n hx hb d_MO_people_72 rfl (lv_at hl 1 rfl) ?_
      refine va_get (D := D) (ci := 7) (v := .ref y4) (C := R_MO) (T := F_MO) (N := 50) hx hb hts i_MO hown hK hP 0 rfl rfl 7 (by decide) (hts _ q_639) (fun _ h9 => h9) rfl d_MO_people_73 ?_
      refine lv_iload_n hx hb d_MO_people_76 rfl (lv_at hl 0 rfl) ?_
      refine lv_iconst (v := 0) hx hb d_MO_people_77 (by decide) ?_
      refine my_stI hx hb hK hP hD hS 4 rfl i_l rfl (by omega) (by decide) d_MO_people_78 (fun H_16 locs hP hD hS => ?_)
      have hP : va_P D vwCl [(y, .inr (7, [.int (nI j_3), .int 0, .int mgp, .int mlk, .ref y1, .ref y2, .ref y3, .ref y4, .int 0, .ref y5, .ref y6, .ref y7, .ref y8, .ref y9, .ref y10, .ref y11, .ref y12, .ref y13, .ref y14, .ref y15, .int 0, .ref y16, .ref y17, .ref y18, .ref y19, .ref y20, .ref y21, .ref y22, .ref y23, .ref y24, .ref y25, .ref y26, .ref y27, .int 0, .int 0, .ref y28, .ref y29, .ref y30, .ref y31, .ref y32, .ref y33, .ref y34, .ref y35, .ref y36, .int (nI mbm), .ref y37, .ref y38, .int (nI mrm), .int mro, .int mrs])), (y1, .inl (cZ, 7, .inl (upd MAw_1 i_l 0))), (y2, .inl (cI, 7, .inl (upd MC_1 i_l 0))), (y3, .inl (cI, 7, .inl (upd MB_1 i_l 0))), (y4, .inl (cI, 7, .inl (upd MR_1 i_l 0)))] H_16 := hP
      refine lv_iinc (v := nI (i_l + 1)) (lv' := [(2, .int (nI (i_l + 1))), (0, .ref y)]) hx hb d_MO_people_79 hl (k := 0) rfl (nI_1 i_l) (by decide) rfl (fun ls hl => ?_)
      refine lv_goto (tgt := 45) hx hb d_MO_people_82 (by decide) ?_
      have hPz := hP.sub (ws' := [(y, .inr (7, [.int (nI j_3), .int 0, .int mgp, .int mlk, .ref y1, .ref y2, .ref y3, .ref y4, .int 0, .ref y5, .ref y6, .ref y7, .ref y8, .ref y9, .ref y10, .ref y11, .ref y12, .ref y13, .ref y14, .ref y15, .int 0, .ref y16, .ref y17, .ref y18, .ref y19, .ref y20, .ref y21, .ref y22, .ref y23, .ref y24, .ref y25, .ref y26, .ref y27, .int 0, .int 0, .ref y28, .ref y29, .ref y30, .ref y31, .ref y32, .ref y33, .ref y34, .ref y35, .ref y36, .int (nI mbm), .ref y37, .ref y38, .int (nI mrm), .int mro, .int mrs])), (y1, .inl (cZ, 7, .inl (upd MAw_1 i_l 0))), (y2, .inl (cI, 7, .inl (upd MC_1 i_l 0))), (y3, .inl (cI, 7, .inl (upd MB_1 i_l 0))), (y4, .inl (cI, 7, .inl (upd MR_1 i_l 0)))]) [0, 1, 2, 3, 4] rfl
      have hDz := hD.sub (ws' := [(y, .inr (7, [.int (nI j_3), .int 0, .int mgp, .int mlk, .ref y1, .ref y2, .ref y3, .ref y4, .int 0, .ref y5, .ref y6, .ref y7, .ref y8, .ref y9, .ref y10, .ref y11, .ref y12, .ref y13, .ref y14, .ref y15, .int 0, .ref y16, .ref y17, .ref y18, .ref y19, .ref y20, .ref y21, .ref y22, .ref y23, .ref y24, .ref y25, .ref y26, .ref y27, .int 0, .int 0, .ref y28, .ref y29, .ref y30, .ref y31, .ref y32, .ref y33, .ref y34, .ref y35, .ref y36, .int (nI mbm), .ref y37, .ref y38, .int (nI mrm), .int mro, .int mrs])), (y1, .inl (cZ, 7, .inl (upd MAw_1 i_l 0))), (y2, .inl (cI, 7, .inl (upd MC_1 i_l 0))), (y3, .inl (cI, 7, .inl (upd MB_1 i_l 0))), (y4, .inl (cI, 7, .inl (upd MR_1 i_l 0)))]) [0, 1, 2, 3, 4] (by decide) rfl
      exact ih1 ((i_l + 1), (upd MAw_1 i_l 0), (upd MC_1 i_l 0), (upd MB_1 i_l 0), (upd MR_1 i_l 0)) _ _ _ (by first | omega | (dsimp only; omega)) ⟨(by first | omega | (dsimp only; omega)), (by rw [c1]; exact zf_s _ _), (by rw [c2]; exact zf_s _ _), (by rw [c3]; exact zf_s _ _), (by rw [c4]; exact zf_s _ _), hPz, hDz, hS, lv_sub hl [0, 1] rfl⟩
  · refine lv_bipush (v := (-2)) hx hb d_MO_people_10 (by decide) ?_
    have hP9 := hP.sub (ws' := [(y, .inr (7, [.int (nI mn), .int mtm, .int mgp, .int mlk, .ref y1, .ref y2, .ref y3, .ref y4, .int (nI mp), .ref y5, .ref y6, .ref y7, .ref y8, .ref y9, .ref y10, .ref y11, .ref y12, .ref y13, .ref y14, .ref y15, .int (nI mq), .ref y16, .ref y17, .ref y18, .ref y19, .ref y20, .ref y21, .ref y22, .ref y23, .ref y24, .ref y25, .ref y26, .ref y27, .int mhw, .int (nI mwn), .ref y28, .ref y29, .ref y30, .ref y31, .ref y32, .ref y33, .ref y34, .ref y35, .ref y36, .int (nI mbm), .ref y37, .ref y38, .int (nI mrm), .int mro, .int mrs])), (y1, .inl (cZ, 7, .inl MAw)), (y2, .inl (cI, 7, .inl MC)), (y3, .inl (cI, 7, .inl MB)), (y4, .inl (cI, 7, .inl MR))]) [0, 1, 2, 3, 4] rfl
    have hD9 := hD.sub (ws' := [(y, .inr (7, [.int (nI mn), .int mtm, .int mgp, .int mlk, .ref y1, .ref y2, .ref y3, .ref y4, .int (nI mp), .ref y5, .ref y6, .ref y7, .ref y8, .ref y9, .ref y10, .ref y11, .ref y12, .ref y13, .ref y14, .ref y15, .int (nI mq), .ref y16, .ref y17, .ref y18, .ref y19, .ref y20, .ref y21, .ref y22, .ref y23, .ref y24, .ref y25, .ref y26, .ref y27, .int mhw, .int (nI mwn), .ref y28, .ref y29, .ref y30, .ref y31, .ref y32, .ref y33, .ref y34, .ref y35, .ref y36, .int (nI mbm), .ref y37, .ref y38, .int (nI mrm), .int mro, .int mrs])), (y1, .inl (cZ, 7, .inl MAw)), (y2, .inl (cI, 7, .inl MC)), (y3, .inl (cI, 7, .inl MB)), (y4, .inl (cI, 7, .inl MR))]) [0, 1, 2, 3, 4] (by decide +kernel) rfl
    refine W.widen (k := 0) (n := 0) (Nat.le_of_ble_eq_true rfl) (Nat.le_of_ble_eq_true rfl) ?_
    exact W.iret (v := (-2)) hx hb hr (fun tT ht hW => ⟨⟨(-2), (mn, mtm, mp, mq, mhw, mwn, MAw, MC, MB, MR), rfl, ⟨h_mn, h_mp, h_mq, h_mwn, Or.inl (⟨h_2, rfl, rfl, rfl, rfl, rfl, rfl, rfl, rfl, rfl, rfl⟩)⟩, by rw [ht]; exact hP9, hD9⟩, hS.F ht⟩) hS.2.2 d_MO_people_12

set_option maxHeartbeats 4000000 in
set_option maxRecDepth 100000 in
theorem e_MO_pair (l : Launch) (D : va_G) (cI cZ : ClassId) (y : Nat) (i : Int32) (j : Int32) (u : Int32) (v : Int32) (mn : Nat) (mtm : Int32) (mgp : Int32) (mlk : Int32) (y1 : Nat) (y2 : Nat) (y3 : Nat) (y4 : Nat) (mp : Nat) (y5 : Nat) (y6 : Nat) (y7 : Nat) (y8 : Nat) (y9 : Nat) (y10 : Nat) (y11 : Nat) (y12 : Nat) (y13 : Nat) (y14 : Nat) (y15 : Nat) (mq : Nat) (y16 : Nat) (y17 : Nat) (y18 : Nat) (y19 : Nat) (y20 : Nat) (y21 : Nat) (y22 : Nat) (y23 : Nat) (y24 : Nat) (y25 : Nat) (y26 : Nat) (y27 : Nat) (mhw : Int32) (mwn : Nat) (y28 : Nat) (y29 : Nat) (y30 : Nat) (y31 : Nat) (y32 : Nat) (y33 : Nat) (y34 : Nat) (y35 : Nat) (y36 : Nat) (mbm : Nat) (y37 : Nat) (y38 : Nat) (mrm : Nat) (mro : Int32) (mrs : Int32) (ME : Nat → Nat) (MS : Nat → Int32) (MLk : Nat → Int32) (MU : Nat → Int32) (MT : Nat → Int32) (MY : Nat → Nat) (MG : Nat → Int32) (ML : Nat → Int32) (MH : Nat → Int32) (sz : Nat) (h_mn : mn ≤ 7) (h_mp : mp ≤ 12) (h_mq : mq ≤ 40) (h_mwn : mwn ≤ 8) (h_mbm : mbm ≤ 8) (h_mrm : mrm ≤ 8) (h_ME : ∀ zz, ME zz ≤ 6) (h_MY : ∀ zz, MY zz ≤ 64) : Met l ⟨"PromiseChainsModel", "pair", "(IIII)I"⟩ (mw ⟨"PromiseChainsModel", "pair", "(IIII)I"⟩ prog_9_method_7_code 6 (some .int)) ({ frames := 2, cells := 0, slots := 0, locals := 43 }) (va_Pc [.ref y, .int i, .int j, .int u, .int v] (PB D cI cZ sz [(y, .inr (7, [.int (nI mn), .int mtm, .int mgp, .int mlk, .ref y1, .ref y2, .ref y3, .ref y4, .int (nI mp), .ref y5, .ref y6, .ref y7, .ref y8, .ref y9, .ref y10, .ref y11, .ref y12, .ref y13, .ref y14, .ref y15, .int (nI mq), .ref y16, .ref y17, .ref y18, .ref y19, .ref y20, .ref y21, .ref y22, .ref y23, .ref y24, .ref y25, .ref y26, .ref y27, .int mhw, .int (nI mwn), .ref y28, .ref y29, .ref y30, .ref y31, .ref y32, .ref y33, .ref y34, .ref y35, .ref y36, .int (nI mbm), .ref y37, .ref y38, .int (nI mrm), .int mro, .int mrs])), (y5, .inl (cI, 24, .inl (fun zy => nI (ME zy)))), (y6, .inl (cI, 24, .inl MS)), (y7, .inl (cI, 24, .inl MLk)), (y8, .inl (cI, 12, .inl MU)), (y9, .inl (cI, 12, .inl MT)), (y13, .inl (cI, 12, .inl (fun zy => nI (MY zy)))), (y12, .inl (cI, 1536, .inl MG)), (y14, .inl (cI, 12, .inl ML)), (y15, .inl (cI, 12, .inl MH))])) (va_Qi (S := Nat × (Nat → Nat) × (Nat → Int32) × (Nat → Int32) × (Nat → Int32) × (Nat → Int32) × (Nat → Nat) × (Nat → Int32) × (Nat → Int32) × (Nat → Int32)) (fun (r : Int32) uU => (uU.1 ≤ 12) ∧ (∀ zz, uU.2.1 zz ≤ 6) ∧ (∀ zz, uU.2.2.2.2.2.2.1 zz ≤ 64) ∧ ((badPair mn i j u v ∧ uU.1 = mp ∧ uU.2.1 = ME ∧ uU.2.2.1 = MS ∧ uU.2.2.2.1 = MLk ∧ uU.2.2.2.2.2.2.1 = MY ∧ uU.2.2.2.2.1 = MU ∧ uU.2.2.2.2.2.1 = MT ∧ uU.2.2.2.2.2.2.2.2.1 = ML ∧ uU.2.2.2.2.2.2.2.2.2 = MH ∧ r = -2) ∨ (¬ badPair mn i j u v ∧ mp = 12 ∧ uU.1 = mp ∧ uU.2.1 = ME ∧ uU.2.2.1 = MS ∧ uU.2.2.2.1 = MLk ∧ uU.2.2.2.2.2.2.1 = MY ∧ uU.2.2.2.2.1 = MU ∧ uU.2.2.2.2.2.1 = MT ∧ uU.2.2.2.2.2.2.2.2.1 = ML ∧ uU.2.2.2.2.2.2.2.2.2 = MH ∧ r = -4) ∨ (∃ a : Nat, ∃ b : Nat, ¬ badPair mn i j u v ∧ i = nI a ∧ j = nI b ∧ a < mn ∧ b < mn ∧ ¬ a = b ∧ mp < 12 ∧ uU.1 = mp + 1 ∧ uU.2.1 = upN (upN ME (2 * mp) a) (2 * mp + 1) b ∧ uU.2.2.1 = upd (upd MS (2 * mp) u) (2 * mp + 1) v ∧ uU.2.2.2.1 = upd (upd MLk (2 * mp) 0) (2 * mp + 1) 0 ∧ uU.2.2.2.2.2.2.1 = upN (upN MY mp 0) mp (inc64 (upN MY mp 0 mp)) ∧ uU.2.2.2.2.1 = upd MU mp 0 ∧ uU.2.2.2.2.2.1 = upd MT mp (-1) ∧ uU.2.2.2.2.2.2.2.2.1 = upd ML mp 0 ∧ uU.2.2.2.2.2.2.2.2.2 = upd MH mp (gsum (upd (upd MS (2 * mp) u) (2 * mp + 1) v) mp) ∧ r = nI mp))) (fun uU tT => BB D (va_A [(y, .inr (7, [.int (nI mn), .int mtm, .int mgp, .int mlk, .ref y1, .ref y2, .ref y3, .ref y4, .int (nI mp), .ref y5, .ref y6, .ref y7, .ref y8, .ref y9, .ref y10, .ref y11, .ref y12, .ref y13, .ref y14, .ref y15, .int (nI mq), .ref y16, .ref y17, .ref y18, .ref y19, .ref y20, .ref y21, .ref y22, .ref y23, .ref y24, .ref y25, .ref y26, .ref y27, .int mhw, .int (nI mwn), .ref y28, .ref y29, .ref y30, .ref y31, .ref y32, .ref y33, .ref y34, .ref y35, .ref y36, .int (nI mbm), .ref y37, .ref y38, .int (nI mrm), .int mro, .int mrs])), (y5, .inl (cI, 24, .inl (fun zy => nI (ME zy)))), (y6, .inl (cI, 24, .inl MS)), (y7, .inl (cI, 24, .inl MLk)), (y8, .inl (cI, 12, .inl MU)), (y9, .inl (cI, 12, .inl MT)), (y13, .inl (cI, 12, .inl (fun zy => nI (MY zy)))), (y12, .inl (cI, 1536, .inl MG)), (y14, .inl (cI, 12, .inl ML)), (y15, .inl (cI, 12, .inl MH))] sz) [(y, .inr (7, [.int (nI mn), .int mtm, .int mgp, .int mlk, .ref y1, .ref y2, .ref y3, .ref y4, .int (nI uU.1), .ref y5, .ref y6, .ref y7, .ref y8, .ref y9, .ref y10, .ref y11, .ref y12, .ref y13, .ref y14, .ref y15, .int (nI mq), .ref y16, .ref y17, .ref y18, .ref y19, .ref y20, .ref y21, .ref y22, .ref y23, .ref y24, .ref y25, .ref y26, .ref y27, .int mhw, .int (nI mwn), .ref y28, .ref y29, .ref y30, .ref y31, .ref y32, .ref y33, .ref y34, .ref y35, .ref y36, .int (nI mbm), .ref y37, .ref y38, .int (nI mrm), .int mro, .int mrs])), (y5, .inl (cI, 24, .inl (fun zy => nI ((uU.2.1) zy)))), (y6, .inl (cI, 24, .inl (uU.2.2.1))), (y7, .inl (cI, 24, .inl (uU.2.2.2.1))), (y8, .inl (cI, 12, .inl (uU.2.2.2.2.1))), (y9, .inl (cI, 12, .inl (uU.2.2.2.2.2.1))), (y13, .inl (cI, 12, .inl (fun zy => nI ((uU.2.2.2.2.2.2.1) zy)))), (y12, .inl (cI, 1536, .inl (uU.2.2.2.2.2.2.2.1))), (y14, .inl (cI, 12, .inl (uU.2.2.2.2.2.2.2.2.1))), (y15, .inl (cI, 12, .inl (uU.2.2.2.2.2.2.2.2.2)))] tT) (va_A [(y, .inr (7, [.int (nI mn), .int mtm, .int mgp, .int mlk, .ref y1, .ref y2, .ref y3, .ref y4, .int (nI mp), .ref y5, .ref y6, .ref y7, .ref y8, .ref y9, .ref y10, .ref y11, .ref y12, .ref y13, .ref y14, .ref y15, .int (nI mq), .ref y16, .ref y17, .ref y18, .ref y19, .ref y20, .ref y21, .ref y22, .ref y23, .ref y24, .ref y25, .ref y26, .ref y27, .int mhw, .int (nI mwn), .ref y28, .ref y29, .ref y30, .ref y31, .ref y32, .ref y33, .ref y34, .ref y35, .ref y36, .int (nI mbm), .ref y37, .ref y38, .int (nI mrm), .int mro, .int mrs])), (y5, .inl (cI, 24, .inl (fun zy => nI (ME zy)))), (y6, .inl (cI, 24, .inl MS)), (y7, .inl (cI, 24, .inl MLk)), (y8, .inl (cI, 12, .inl MU)), (y9, .inl (cI, 12, .inl MT)), (y13, .inl (cI, 12, .inl (fun zy => nI (MY zy)))), (y12, .inl (cI, 1536, .inl MG)), (y14, .inl (cI, 12, .inl ML)), (y15, .inl (cI, 12, .inl MH))] sz)) 0 0 (va_A [(y, .inr (7, [.int (nI mn), .int mtm, .int mgp, .int mlk, .ref y1, .ref y2, .ref y3, .ref y4, .int (nI mp), .ref y5, .ref y6, .ref y7, .ref y8, .ref y9, .ref y10, .ref y11, .ref y12, .ref y13, .ref y14, .ref y15, .int (nI mq), .ref y16, .ref y17, .ref y18, .ref y19, .ref y20, .ref y21, .ref y22, .ref y23, .ref y24, .ref y25, .ref y26, .ref y27, .int mhw, .int (nI mwn), .ref y28, .ref y29, .ref y30, .ref y31, .ref y32, .ref y33, .ref y34, .ref y35, .ref y36, .int (nI mbm), .ref y37, .ref y38, .int (nI mrm), .int mro, .int mrs])), (y5, .inl (cI, 24, .inl (fun zy => nI (ME zy)))), (y6, .inl (cI, 24, .inl MS)), (y7, .inl (cI, 24, .inl MLk)), (y8, .inl (cI, 12, .inl MU)), (y9, .inl (cI, 12, .inl MT)), (y13, .inl (cI, 12, .inl (fun zy => nI (MY zy)))), (y12, .inl (cI, 1536, .inl MG)), (y14, .inl (cI, 12, .inl ML)), (y15, .inl (cI, 12, .inl MH))] sz) := by
  refine Met.ofW (cc := prog_9_method_7_code) (maxL := 6) (ret := (some .int)) (by decide) rfl ?_
  intro p e s m args below meth c s₁ B hml hv
  obtain ⟨rfl, hsz, hP, hK, hD0, hN⟩ := hv
  have hx := B.exec
  have hb := B.bytes
  have hr := B.returns
  have hts0 := atoms_spec (ws := mw ⟨"PromiseChainsModel", "pair", "(IIII)I"⟩ prog_9_method_7_code 6 (some .int)) B.pre
  have hts : ∀ w ∈ tblG, w.before _ s = true := fun w h => hts0 w (List.mem_cons_of_mem _ h)
  have hown : s.vm.findClass "PromiseChainsModel" = some m.cls := findClass_of_methodNamed B.named
  have hlocks := B.notSynchronized
  subst hsz
  have hD := hD0.self (sz := s.heap.size)
  generalize hAe : va_A [(y, .inr (7, [.int (nI mn), .int mtm, .int mgp, .int mlk, .ref y1, .ref y2, .ref y3, .ref y4, .int (nI mp), .ref y5, .ref y6, .ref y7, .ref y8, .ref y9, .ref y10, .ref y11, .ref y12, .ref y13, .ref y14, .ref y15, .int (nI mq), .ref y16, .ref y17, .ref y18, .ref y19, .ref y20, .ref y21, .ref y22, .ref y23, .ref y24, .ref y25, .ref y26, .ref y27, .int mhw, .int (nI mwn), .ref y28, .ref y29, .ref y30, .ref y31, .ref y32, .ref y33, .ref y34, .ref y35, .ref y36, .int (nI mbm), .ref y37, .ref y38, .int (nI mrm), .int mro, .int mrs])), (y5, .inl (cI, 24, .inl (fun zy => nI (ME zy)))), (y6, .inl (cI, 24, .inl MS)), (y7, .inl (cI, 24, .inl MLk)), (y8, .inl (cI, 12, .inl MU)), (y9, .inl (cI, 12, .inl MT)), (y13, .inl (cI, 12, .inl (fun zy => nI (MY zy)))), (y12, .inl (cI, 1536, .inl MG)), (y14, .inl (cI, 12, .inl ML)), (y15, .inl (cI, 12, .inl MH))] s.heap.size = A at hD ⊢
  have hA : ∀ q : Nat, s.heap.size ≤ q → A q := fun q h => by rw [← hAe]; exact Or.inr h
  have hS : va_S A s.heap s.heap [] := va_S.rf
  have hP : va_P D vwCl [(y, .inr (7, [.int (nI mn), .int mtm, .int mgp, .int mlk, .ref y1, .ref y2, .ref y3, .ref y4, .int (nI mp), .ref y5, .ref y6, .ref y7, .ref y8, .ref y9, .ref y10, .ref y11, .ref y12, .ref y13, .ref y14, .ref y15, .int (nI mq), .ref y16, .ref y17, .ref y18, .ref y19, .ref y20, .ref y21, .ref y22, .ref y23, .ref y24, .ref y25, .ref y26, .ref y27, .int mhw, .int (nI mwn), .ref y28, .ref y29, .ref y30, .ref y31, .ref y32, .ref y33, .ref y34, .ref y35, .ref y36, .int (nI mbm), .ref y37, .ref y38, .int (nI mrm), .int mro, .int mrs])), (y5, .inl (cI, 24, .inl (fun zy => nI (ME zy)))), (y6, .inl (cI, 24, .inl MS)), (y7, .inl (cI, 24, .inl MLk)), (y8, .inl (cI, 12, .inl MU)), (y9, .inl (cI, 12, .inl MT)), (y13, .inl (cI, 12, .inl (fun zy => nI (MY zy)))), (y12, .inl (cI, 1536, .inl MG)), (y14, .inl (cI, 12, .inl ML)), (y15, .inl (cI, 12, .inl MH))] s.heap := hP
  have hl := lv_entry ([.ref y, .int i, .int j, .int u, .int v]) (n := 6) (Nat.le_of_ble_eq_true rfl)
  rw [lg_entry_eq]
  generalize (lg_sl ([.ref y, .int i, .int j, .int u, .int v]) ++ List.replicate (6 - (lg_sl ([.ref y, .int i, .int j, .int u, .int v])).length) Slot.unset).toArray = ls at hl ⊢
  have hl : lv_has ls 6 [(0, .ref y), (1, .int i), (2, .int j), (3, .int u), (4, .int v)] := hl
  refine lv_aload_n hx hb d_MO_pair_0 rfl (lv_at hl 0 rfl) ?_
  refine lv_iload_n hx hb d_MO_pair_1 rfl (lv_at hl 1 rfl) ?_
  have hPc := hP.sub (ws' := [(y, .inr (7, [.int (nI mn), .int mtm, .int mgp, .int mlk, .ref y1, .ref y2, .ref y3, .ref y4, .int (nI mp), .ref y5, .ref y6, .ref y7, .ref y8, .ref y9, .ref y10, .ref y11, .ref y12, .ref y13, .ref y14, .ref y15, .int (nI mq), .ref y16, .ref y17, .ref y18, .ref y19, .ref y20, .ref y21, .ref y22, .ref y23, .ref y24, .ref y25, .ref y26, .ref y27, .int mhw, .int (nI mwn), .ref y28, .ref y29, .ref y30, .ref y31, .ref y32, .ref y33, .ref y34, .ref y35, .ref y36, .int (nI mbm), .ref y37, .ref y38, .int (nI mrm), .int mro, .int mrs]))]) [0] rfl
  have hDc := hD.sub (ws' := [(y, .inr (7, [.int (nI mn), .int mtm, .int mgp, .int mlk, .ref y1, .ref y2, .ref y3, .ref y4, .int (nI mp), .ref y5, .ref y6, .ref y7, .ref y8, .ref y9, .ref y10, .ref y11, .ref y12, .ref y13, .ref y14, .ref y15, .int (nI mq), .ref y16, .ref y17, .ref y18, .ref y19, .ref y20, .ref y21, .ref y22, .ref y23, .ref y24, .ref y25, .ref y26, .ref y27, .int mhw, .int (nI mwn), .ref y28, .ref y29, .ref y30, .ref y31, .ref y32, .ref y33, .ref y34, .ref y35, .ref y36, .int (nI mbm), .ref y37, .ref y38, .int (nI mrm), .int mro, .int mrs]))]) [0] (by decide +kernel) rfl
  refine vp_callSi (va_Run.run (va_runV (As := [.int i]) (rest := []) ⟨hx, hb, hml, hown, hts⟩ (e_MO_isPerson l D cI cZ y i mn mtm mgp mlk y1 y2 y3 y4 mp y5 y6 y7 y8 y9 y10 y11 y12 y13 y14 y15 mq y16 y17 y18 y19 y20 y21 y22 y23 y24 y25 y26 y27 mhw mwn y28 y29 y30 y31 y32 y33 y34 y35 y36 mbm y37 y38 mrm mro mrs s.heap.size h_mn h_mp h_mq h_mwn h_mbm h_mrm) (my_cwV 1 hts q_797 q_794 q_796 q_p5 q_8 rfl rfl (by decide +kernel) ⟨Nat.le_of_ble_eq_true rfl, Nat.le_of_ble_eq_true rfl⟩) (my_preV hPc hDc hK hN 7 0 rfl rfl) rfl rfl hl.1 rfl (lv_room (Nat.le_of_ble_eq_true rfl)) d_MO_pair_2 ⟨Nat.le_of_ble_eq_true rfl, Nat.le_of_ble_eq_true rfl⟩)) (fun r_1 hw_1 => ?_)
  rcases hw_1 with ⟨hg_2, rfl⟩ | ⟨j_3, hg_4, hg_5, hg_6, rfl⟩
  · have hg_2 : isw i 0 (nI mn - 1) = 0 := hg_2
    refine lv_if_eq (tgt := 42) hx hb d_MO_pair_5 (by decide) (fun _ => ?_) (fun h => absurd h (by decide))
    refine lv_bipush (v := (-2)) hx hb d_MO_pair_42 (by decide) ?_
    have hP9 := hP.sub (ws' := [(y, .inr (7, [.int (nI mn), .int mtm, .int mgp, .int mlk, .ref y1, .ref y2, .ref y3, .ref y4, .int (nI mp), .ref y5, .ref y6, .ref y7, .ref y8, .ref y9, .ref y10, .ref y11, .ref y12, .ref y13, .ref y14, .ref y15, .int (nI mq), .ref y16, .ref y17, .ref y18, .ref y19, .ref y20, .ref y21, .ref y22, .ref y23, .ref y24, .ref y25, .ref y26, .ref y27, .int mhw, .int (nI mwn), .ref y28, .ref y29, .ref y30, .ref y31, .ref y32, .ref y33, .ref y34, .ref y35, .ref y36, .int (nI mbm), .ref y37, .ref y38, .int (nI mrm), .int mro, .int mrs])), (y5, .inl (cI, 24, .inl (fun zy => nI (ME zy)))), (y6, .inl (cI, 24, .inl MS)), (y7, .inl (cI, 24, .inl MLk)), (y8, .inl (cI, 12, .inl MU)), (y9, .inl (cI, 12, .inl MT)), (y13, .inl (cI, 12, .inl (fun zy => nI (MY zy)))), (y12, .inl (cI, 1536, .inl MG)), (y14, .inl (cI, 12, .inl ML)), (y15, .inl (cI, 12, .inl MH))]) [0, 1, 2, 3, 4, 5, 6, 7, 8, 9] rfl
    have hD9 := hD.sub (ws' := [(y, .inr (7, [.int (nI mn), .int mtm, .int mgp, .int mlk, .ref y1, .ref y2, .ref y3, .ref y4, .int (nI mp), .ref y5, .ref y6, .ref y7, .ref y8, .ref y9, .ref y10, .ref y11, .ref y12, .ref y13, .ref y14, .ref y15, .int (nI mq), .ref y16, .ref y17, .ref y18, .ref y19, .ref y20, .ref y21, .ref y22, .ref y23, .ref y24, .ref y25, .ref y26, .ref y27, .int mhw, .int (nI mwn), .ref y28, .ref y29, .ref y30, .ref y31, .ref y32, .ref y33, .ref y34, .ref y35, .ref y36, .int (nI mbm), .ref y37, .ref y38, .int (nI mrm), .int mro, .int mrs])), (y5, .inl (cI, 24, .inl (fun zy => nI (ME zy)))), (y6, .inl (cI, 24, .inl MS)), (y7, .inl (cI, 24, .inl MLk)), (y8, .inl (cI, 12, .inl MU)), (y9, .inl (cI, 12, .inl MT)), (y13, .inl (cI, 12, .inl (fun zy => nI (MY zy)))), (y12, .inl (cI, 1536, .inl MG)), (y14, .inl (cI, 12, .inl ML)), (y15, .inl (cI, 12, .inl MH))]) [0, 1, 2, 3, 4, 5, 6, 7, 8, 9] (by decide +kernel) rfl
    refine W.widen (k := 0) (n := 0) (Nat.le_of_ble_eq_true rfl) (Nat.le_of_ble_eq_true rfl) ?_
    exact W.iret (v := (-2)) hx hb hr (fun tT ht hW => ⟨⟨(-2), (mp, ME, MS, MLk, MU, MT, MY, MG, ML, MH), rfl, ⟨h_mp, h_ME, h_MY, Or.inl (⟨(bp_1 hg_2), rfl, rfl, rfl, rfl, rfl, rfl, rfl, rfl, rfl, rfl⟩)⟩, by rw [ht]; exact hP9, hD9⟩, hS.F ht⟩) hS.2.2 d_MO_pair_44
  · have hg_4 : j_3 < mn := hg_4
    have hg_5 : i = nI j_3 := hg_5
    have hg_6 : ¬ isw i 0 (nI mn - 1) = 0 := hg_6
    subst hg_5
    refine lv_if_eq (tgt := 42) hx hb d_MO_pair_5 (by decide) (fun h => absurd h (by decide)) (fun _ => ?_)
    refine lv_aload_n hx hb d_MO_pair_8 rfl (lv_at hl 0 rfl) ?_
    refine lv_iload_n hx hb d_MO_pair_9 rfl (lv_at hl 2 rfl) ?_
    have hPc := hP.sub (ws' := [(y, .inr (7, [.int (nI mn), .int mtm, .int mgp, .int mlk, .ref y1, .ref y2, .ref y3, .ref y4, .int (nI mp), .ref y5, .ref y6, .ref y7, .ref y8, .ref y9, .ref y10, .ref y11, .ref y12, .ref y13, .ref y14, .ref y15, .int (nI mq), .ref y16, .ref y17, .ref y18, .ref y19, .ref y20, .ref y21, .ref y22, .ref y23, .ref y24, .ref y25, .ref y26, .ref y27, .int mhw, .int (nI mwn), .ref y28, .ref y29, .ref y30, .ref y31, .ref y32, .ref y33, .ref y34, .ref y35, .ref y36, .int (nI mbm), .ref y37, .ref y38, .int (nI mrm), .int mro, .int mrs]))]) [0] rfl
    have hDc := hD.sub (ws' := [(y, .inr (7, [.int (nI mn), .int mtm, .int mgp, .int mlk, .ref y1, .ref y2, .ref y3, .ref y4, .int (nI mp), .ref y5, .ref y6, .ref y7, .ref y8, .ref y9, .ref y10, .ref y11, .ref y12, .ref y13, .ref y14, .ref y15, .int (nI mq), .ref y16, .ref y17, .ref y18, .ref y19, .ref y20, .ref y21, .ref y22, .ref y23, .ref y24, .ref y25, .ref y26, .ref y27, .int mhw, .int (nI mwn), .ref y28, .ref y29, .ref y30, .ref y31, .ref y32, .ref y33, .ref y34, .ref y35, .ref y36, .int (nI mbm), .ref y37, .ref y38, .int (nI mrm), .int mro, .int mrs]))]) [0] (by decide +kernel) rfl
    refine vp_callSi (va_Run.run (va_runV (As := [.int j]) (rest := []) ⟨hx, hb, hml, hown, hts⟩ (e_MO_isPerson l D cI cZ y j mn mtm mgp mlk y1 y2 y3 y4 mp y5 y6 y7 y8 y9 y10 y11 y12 y13 y14 y15 mq y16 y17 y18 y19 y20 y21 y22 y23 y24 y25 y26 y27 mhw mwn y28 y29 y30 y31 y32 y33 y34 y35 y36 mbm y37 y38 mrm mro mrs s.heap.size h_mn h_mp h_mq h_mwn h_mbm h_mrm) (my_cwV 1 hts q_797 q_794 q_796 q_p5 q_8 rfl rfl (by decide +kernel) ⟨Nat.le_of_ble_eq_true rfl, Nat.le_of_ble_eq_true rfl⟩) (my_preV hPc hDc hK hN 7 0 rfl rfl) rfl rfl hl.1 rfl (lv_room (Nat.le_of_ble_eq_true rfl)) d_MO_pair_10 ⟨Nat.le_of_ble_eq_true rfl, Nat.le_of_ble_eq_true rfl⟩)) (fun r_9 hw_9 => ?_)
    rcases hw_9 with ⟨hg_10, rfl⟩ | ⟨j_11, hg_12, hg_13, hg_14, rfl⟩
    · have hg_10 : isw j 0 (nI mn - 1) = 0 := hg_10
      refine lv_if_eq (tgt := 42) hx hb d_MO_pair_13 (by decide) (fun _ => ?_) (fun h => absurd h (by decide))
      refine lv_bipush (v := (-2)) hx hb d_MO_pair_42 (by decide) ?_
      have hP9 := hP.sub (ws' := [(y, .inr (7, [.int (nI mn), .int mtm, .int mgp, .int mlk, .ref y1, .ref y2, .ref y3, .ref y4, .int (nI mp), .ref y5, .ref y6, .ref y7, .ref y8, .ref y9, .ref y10, .ref y11, .ref y12, .ref y13, .ref y14, .ref y15, .int (nI mq), .ref y16, .ref y17, .ref y18, .ref y19, .ref y20, .ref y21, .ref y22, .ref y23, .ref y24, .ref y25, .ref y26, .ref y27, .int mhw, .int (nI mwn), .ref y28, .ref y29, .ref y30, .ref y31, .ref y32, .ref y33, .ref y34, .ref y35, .ref y36, .int (nI mbm), .ref y37, .ref y38, .int (nI mrm), .int mro, .int mrs])), (y5, .inl (cI, 24, .inl (fun zy => nI (ME zy)))), (y6, .inl (cI, 24, .inl MS)), (y7, .inl (cI, 24, .inl MLk)), (y8, .inl (cI, 12, .inl MU)), (y9, .inl (cI, 12, .inl MT)), (y13, .inl (cI, 12, .inl (fun zy => nI (MY zy)))), (y12, .inl (cI, 1536, .inl MG)), (y14, .inl (cI, 12, .inl ML)), (y15, .inl (cI, 12, .inl MH))]) [0, 1, 2, 3, 4, 5, 6, 7, 8, 9] rfl
      have hD9 := hD.sub (ws' := [(y, .inr (7, [.int (nI mn), .int mtm, .int mgp, .int mlk, .ref y1, .ref y2, .ref y3, .ref y4, .int (nI mp), .ref y5, .ref y6, .ref y7, .ref y8, .ref y9, .ref y10, .ref y11, .ref y12, .ref y13, .ref y14, .ref y15, .int (nI mq), .ref y16, .ref y17, .ref y18, .ref y19, .ref y20, .ref y21, .ref y22, .ref y23, .ref y24, .ref y25, .ref y26, .ref y27, .int mhw, .int (nI mwn), .ref y28, .ref y29, .ref y30, .ref y31, .ref y32, .ref y33, .ref y34, .ref y35, .ref y36, .int (nI mbm), .ref y37, .ref y38, .int (nI mrm), .int mro, .int mrs])), (y5, .inl (cI, 24, .inl (fun zy => nI (ME zy)))), (y6, .inl (cI, 24, .inl MS)), (y7, .inl (cI, 24, .inl MLk)), (y8, .inl (cI, 12, .inl MU)), (y9, .inl (cI, 12, .inl MT)), (y13, .inl (cI, 12, .inl (fun zy => nI (MY zy)))), (y12, .inl (cI, 1536, .inl MG)), (y14, .inl (cI, 12, .inl ML)), (y15, .inl (cI, 12, .inl MH))]) [0, 1, 2, 3, 4, 5, 6, 7, 8, 9] (by decide +kernel) rfl
      refine W.widen (k := 0) (n := 0) (Nat.le_of_ble_eq_true rfl) (Nat.le_of_ble_eq_true rfl) ?_
      exact W.iret (v := (-2)) hx hb hr (fun tT ht hW => ⟨⟨(-2), (mp, ME, MS, MLk, MU, MT, MY, MG, ML, MH), rfl, ⟨h_mp, h_ME, h_MY, Or.inl (⟨(bp_2 hg_10), rfl, rfl, rfl, rfl, rfl, rfl, rfl, rfl, rfl, rfl⟩)⟩, by rw [ht]; exact hP9, hD9⟩, hS.F ht⟩) hS.2.2 d_MO_pair_44
    · have hg_12 : j_11 < mn := hg_12
      have hg_13 : j = nI j_11 := hg_13
      have hg_14 : ¬ isw j 0 (nI mn - 1) = 0 := hg_14
      subst hg_13
      refine lv_if_eq (tgt := 42) hx hb d_MO_pair_13 (by decide) (fun h => absurd h (by decide)) (fun _ => ?_)
      refine lv_iload_n hx hb d_MO_pair_16 rfl (lv_at hl 1 rfl) ?_
      refine lv_iload_n hx hb d_MO_pair_17 rfl (lv_at hl 2 rfl) ?_
      refine lv_icmp_eq (tgt := 42) hx hb d_MO_pair_18 (by decide) (fun h_17 => ?_) (fun h_17 => ?_)
      · have nh_17 : j_3 = j_11 := (nI_eq (a := j_3) (b := j_11) (by omega) (by omega)).mp h_17
        refine lv_bipush (v := (-2)) hx hb d_MO_pair_42 (by decide) ?_
        have hP9 := hP.sub (ws' := [(y, .inr (7, [.int (nI mn), .int mtm, .int mgp, .int mlk, .ref y1, .ref y2, .ref y3, .ref y4, .int (nI mp), .ref y5, .ref y6, .ref y7, .ref y8, .ref y9, .ref y10, .ref y11, .ref y12, .ref y13, .ref y14, .ref y15, .int (nI mq), .ref y16, .ref y17, .ref y18, .ref y19, .ref y20, .ref y21, .ref y22, .ref y23, .ref y24, .ref y25, .ref y26, .ref y27, .int mhw, .int (nI mwn), .ref y28, .ref y29, .ref y30, .ref y31, .ref y32, .ref y33, .ref y34, .ref y35, .ref y36, .int (nI mbm), .ref y37, .ref y38, .int (nI mrm), .int mro, .int mrs])), (y5, .inl (cI, 24, .inl (fun zy => nI (ME zy)))), (y6, .inl (cI, 24, .inl MS)), (y7, .inl (cI, 24, .inl MLk)), (y8, .inl (cI, 12, .inl MU)), (y9, .inl (cI, 12, .inl MT)), (y13, .inl (cI, 12, .inl (fun zy => nI (MY zy)))), (y12, .inl (cI, 1536, .inl MG)), (y14, .inl (cI, 12, .inl ML)), (y15, .inl (cI, 12, .inl MH))]) [0, 1, 2, 3, 4, 5, 6, 7, 8, 9] rfl
        have hD9 := hD.sub (ws' := [(y, .inr (7, [.int (nI mn), .int mtm, .int mgp, .int mlk, .ref y1, .ref y2, .ref y3, .ref y4, .int (nI mp), .ref y5, .ref y6, .ref y7, .ref y8, .ref y9, .ref y10, .ref y11, .ref y12, .ref y13, .ref y14, .ref y15, .int (nI mq), .ref y16, .ref y17, .ref y18, .ref y19, .ref y20, .ref y21, .ref y22, .ref y23, .ref y24, .ref y25, .ref y26, .ref y27, .int mhw, .int (nI mwn), .ref y28, .ref y29, .ref y30, .ref y31, .ref y32, .ref y33, .ref y34, .ref y35, .ref y36, .int (nI mbm), .ref y37, .ref y38, .int (nI mrm), .int mro, .int mrs])), (y5, .inl (cI, 24, .inl (fun zy => nI (ME zy)))), (y6, .inl (cI, 24, .inl MS)), (y7, .inl (cI, 24, .inl MLk)), (y8, .inl (cI, 12, .inl MU)), (y9, .inl (cI, 12, .inl MT)), (y13, .inl (cI, 12, .inl (fun zy => nI (MY zy)))), (y12, .inl (cI, 1536, .inl MG)), (y14, .inl (cI, 12, .inl ML)), (y15, .inl (cI, 12, .inl MH))]) [0, 1, 2, 3, 4, 5, 6, 7, 8, 9] (by decide +kernel) rfl
        refine W.widen (k := 0) (n := 0) (Nat.le_of_ble_eq_true rfl) (Nat.le_of_ble_eq_true rfl) ?_
        exact W.iret (v := (-2)) hx hb hr (fun tT ht hW => ⟨⟨(-2), (mp, ME, MS, MLk, MU, MT, MY, MG, ML, MH), rfl, ⟨h_mp, h_ME, h_MY, Or.inl (⟨(bp_3 h_17), rfl, rfl, rfl, rfl, rfl, rfl, rfl, rfl, rfl, rfl⟩)⟩, by rw [ht]; exact hP9, hD9⟩, hS.F ht⟩) hS.2.2 d_MO_pair_44
      · have nh_17 : ¬ j_3 = j_11 := fun qZ => h_17 ((nI_eq (a := j_3) (b := j_11) (by omega) (by omega)).mpr qZ)
        refine lv_iload_n hx hb d_MO_pair_21 rfl (lv_at hl 3 rfl) ?_
        refine lv_iconst (v := 0) hx hb d_MO_pair_22 (by decide) ?_
        refine lv_ldc hx hb hown (hts _ q_798) d_MO_pair_23 ?_
        have hPc := hP.sub (ws' := []) [] rfl
        have hDc := hD.sub (ws' := []) [] (by decide +kernel) rfl
        refine vp_callSi (va_Run.run (va_runS (As := [.int u, .int 0, .int 100000]) (rest := []) ⟨hx, hb, hml, hown, hts⟩ (e_MO_in l D cI cZ u 0 100000 s.heap.size ) (my_cwS 3 hts q_789 q_787 q_788 q_8 rfl rfl (by decide +kernel) ⟨Nat.le_of_ble_eq_true rfl, Nat.le_of_ble_eq_true rfl⟩) (my_preS hPc hDc hK hN) rfl rfl hl.1 rfl (lv_room (Nat.le_of_ble_eq_true rfl)) d_MO_pair_25 ⟨Nat.le_of_ble_eq_true rfl, Nat.le_of_ble_eq_true rfl⟩)) (fun r_18 hw_18 => ?_)
        have hf_18_0 : r_18 = isw u 0 100000 := hw_18
        have hf_18_0 : r_18 = isw u 0 100000 := hf_18_0
        subst hf_18_0
        refine lv_if_eq (tgt := 42) hx hb d_MO_pair_28 (by decide) (fun h_19 => ?_) (fun h_19 => ?_)
        · refine lv_bipush (v := (-2)) hx hb d_MO_pair_42 (by decide) ?_
          have hP9 := hP.sub (ws' := [(y, .inr (7, [.int (nI mn), .int mtm, .int mgp, .int mlk, .ref y1, .ref y2, .ref y3, .ref y4, .int (nI mp), .ref y5, .ref y6, .ref y7, .ref y8, .ref y9, .ref y10, .ref y11, .ref y12, .ref y13, .ref y14, .ref y15, .int (nI mq), .ref y16, .ref y17, .ref y18, .ref y19, .ref y20, .ref y21, .ref y22, .ref y23, .ref y24, .ref y25, .ref y26, .ref y27, .int mhw, .int (nI mwn), .ref y28, .ref y29, .ref y30, .ref y31, .ref y32, .ref y33, .ref y34, .ref y35, .ref y36, .int (nI mbm), .ref y37, .ref y38, .int (nI mrm), .int mro, .int mrs])), (y5, .inl (cI, 24, .inl (fun zy => nI (ME zy)))), (y6, .inl (cI, 24, .inl MS)), (y7, .inl (cI, 24, .inl MLk)), (y8, .inl (cI, 12, .inl MU)), (y9, .inl (cI, 12, .inl MT)), (y13, .inl (cI, 12, .inl (fun zy => nI (MY zy)))), (y12, .inl (cI, 1536, .inl MG)), (y14, .inl (cI, 12, .inl ML)), (y15, .inl (cI, 12, .inl MH))]) [0, 1, 2, 3, 4, 5, 6, 7, 8, 9] rfl
          have hD9 := hD.sub (ws' := [(y, .inr (7, [.int (nI mn), .int mtm, .int mgp, .int mlk, .ref y1, .ref y2, .ref y3, .ref y4, .int (nI mp), .ref y5, .ref y6, .ref y7, .ref y8, .ref y9, .ref y10, .ref y11, .ref y12, .ref y13, .ref y14, .ref y15, .int (nI mq), .ref y16, .ref y17, .ref y18, .ref y19, .ref y20, .ref y21, .ref y22, .ref y23, .ref y24, .ref y25, .ref y26, .ref y27, .int mhw, .int (nI mwn), .ref y28, .ref y29, .ref y30, .ref y31, .ref y32, .ref y33, .ref y34, .ref y35, .ref y36, .int (nI mbm), .ref y37, .ref y38, .int (nI mrm), .int mro, .int mrs])), (y5, .inl (cI, 24, .inl (fun zy => nI (ME zy)))), (y6, .inl (cI, 24, .inl MS)), (y7, .inl (cI, 24, .inl MLk)), (y8, .inl (cI, 12, .inl MU)), (y9, .inl (cI, 12, .inl MT)), (y13, .inl (cI, 12, .inl (fun zy => nI (MY zy)))), (y12, .inl (cI, 1536, .inl MG)), (y14, .inl (cI, 12, .inl ML)), (y15, .inl (cI, 12, .inl MH))]) [0, 1, 2, 3, 4, 5, 6, 7, 8, 9] (by decide +kernel) rfl
          refine W.widen (k := 0) (n := 0) (Nat.le_of_ble_eq_true rfl) (Nat.le_of_ble_eq_true rfl) ?_
          exact W.iret (v := (-2)) hx hb hr (fun tT ht hW => ⟨⟨(-2), (mp, ME, MS, MLk, MU, MT, MY, MG, ML, MH), rfl, ⟨h_mp, h_ME, h_MY, Or.inl (⟨(bp_4 h_19), rfl, rfl, rfl, rfl, rfl, rfl, rfl, rfl, rfl, rfl⟩)⟩, by rw [ht]; exact hP9, hD9⟩, hS.F ht⟩) hS.2.2 d_MO_pair_44
        · refine lv_iload hx hb d_MO_pair_31 (lv_at hl 4 rfl) ?_
          refine lv_iconst (v := 0) hx hb d_MO_pair_33 (by decide) ?_
          refine lv_ldc hx hb hown (hts _ q_798) d_MO_pair_34 ?_
          have hPc := hP.sub (ws' := []) [] rfl
          have hDc := hD.sub (ws' := []) [] (by decide +kernel) rfl
          refine vp_callSi (va_Run.run (va_runS (As := [.int v, .int 0, .int 100000]) (rest := []) ⟨hx, hb, hml, hown, hts⟩ (e_MO_in l D cI cZ v 0 100000 s.heap.size ) (my_cwS 3 hts q_789 q_787 q_788 q_8 rfl rfl (by decide +kernel) ⟨Nat.le_of_ble_eq_true rfl, Nat.le_of_ble_eq_true rfl⟩) (my_preS hPc hDc hK hN) rfl rfl hl.1 rfl (lv_room (Nat.le_of_ble_eq_true rfl)) d_MO_pair_36 ⟨Nat.le_of_ble_eq_true rfl, Nat.le_of_ble_eq_true rfl⟩)) (fun r_20 hw_20 => ?_)
          have hf_20_0 : r_20 = isw v 0 100000 := hw_20
          have hf_20_0 : r_20 = isw v 0 100000 := hf_20_0
          subst hf_20_0
          refine lv_if_ne (tgt := 45) hx hb d_MO_pair_39 (by decide) (fun h_21 => ?_) (fun h_21 => ?_)
          · refine lv_aload_n hx hb d_MO_pair_45 rfl (lv_at hl 0 rfl) ?_
            refine va_get (D := D) (ci := 7) (v := .int (nI mp)) (C := R_MO) (T := F_MO) (N := 50) hx hb hts i_MO hown hK hP 0 rfl rfl 8 (by decide) (hts _ q_640) (fun _ h9 => h9) rfl d_MO_pair_46 ?_
            refine lv_bipush (v := 12) hx hb d_MO_pair_49 (by decide) ?_
            refine lv_icmp_ne (tgt := 57) hx hb d_MO_pair_51 (by decide) (fun h_22 => ?_) (fun h_22 => ?_)
            · have nh_22 : ¬ mp = 12 := fun qZ => h_22 ((nI_eq (a := mp) (b := 12) (by omega) (by omega)).mpr qZ)
              refine lv_aload_n hx hb d_MO_pair_57 rfl (lv_at hl 0 rfl) ?_
              refine va_get (D := D) (ci := 7) (v := .int (nI mp)) (C := R_MO) (T := F_MO) (N := 50) hx hb hts i_MO hown hK hP 0 rfl rfl 8 (by decide) (hts _ q_640) (fun _ h9 => h9) rfl d_MO_pair_58 ?_
              refine lv_istore (lv' := [(5, .int (nI mp)), (0, .ref y), (1, .int (nI j_3)), (2, .int (nI j_11)), (3, .int u), (4, .int v)]) hx hb d_MO_pair_61 hl (by decide) rfl (fun ls hl => ?_)
              refine lv_aload_n hx hb d_MO_pair_63 rfl (lv_at hl 1 rfl) ?_
              refine lv_dup hx hb d_MO_pair_64 rfl ?_
              refine va_get (D := D) (ci := 7) (v := .int (nI mp)) (C := R_MO) (T := F_MO) (N := 50) hx hb hts i_MO hown hK hP 0 rfl rfl 8 (by decide) (hts _ q_640) (fun _ h9 => h9) rfl d_MO_pair_65 ?_
              refine lv_iconst (v := 1) hx hb d_MO_pair_68 (by decide) ?_
              refine lv_iadd hx hb d_MO_pair_69 ?_
              refine lv_seti (nI (mp + 1)) (nI_add mp 1) ?_
              refine va_put (D := D) (ci := 7) (v := .int (nI (mp + 1))) (ty := .int) (C := R_MO) (T := F_MO) (N := 50) hx hb hts i_MO t_MO t_MO_ok n_MO hown hK hP hD hS 0 rfl rfl 8 (by decide) (hts _ q_640) (fun _ h9 => h9) rfl (by decide +kernel) rfl rfl (Nat.le_of_ble_eq_true rfl) d_MO_pair_70 (fun H_23 locs hP hD hS => ?_)
              have hP : va_P D vwCl [(y, .inr (7, [.int (nI mn), .int mtm, .int mgp, .int mlk, .ref y1, .ref y2, .ref y3, .ref y4, .int (nI (mp + 1)), .ref y5, .ref y6, .ref y7, .ref y8, .ref y9, .ref y10, .ref y11, .ref y12, .ref y13, .ref y14, .ref y15, .int (nI mq), .ref y16, .ref y17, .ref y18, .ref y19, .ref y20, .ref y21, .ref y22, .ref y23, .ref y24, .ref y25, .ref y26, .ref y27, .int mhw, .int (nI mwn), .ref y28, .ref y29, .ref y30, .ref y31, .ref y32, .ref y33, .ref y34, .ref y35, .ref y36, .int (nI mbm), .ref y37, .ref y38, .int (nI mrm), .int mro, .int mrs])), (y5, .inl (cI, 24, .inl (fun zy => nI (ME zy)))), (y6, .inl (cI, 24, .inl MS)), (y7, .inl (cI, 24, .inl MLk)), (y8, .inl (cI, 12, .inl MU)), (y9, .inl (cI, 12, .inl MT)), (y13, .inl (cI, 12, .inl (fun zy => nI (MY zy)))), (y12, .inl (cI, 1536, .inl MG)), (y14, .inl (cI, 12, .inl ML)), (y15, .inl (cI, 12, .inl MH))] H_23 := hP
              refine lv_aload_n hx hb d_MO_pair_73 rfl (lv_at hl 1 rfl) ?_
              refine va_get (D := D) (ci := 7) (v := .ref y5) (C := R_MO) (T := F_MO) (N := 50) hx hb hts i_MO hown hK hP 0 rfl rfl 9 (by decide) (hts _ q_641) (fun _ h9 => h9) rfl d_MO_pair_74 ?_
              refine lv_iconst (v := 2) hx hb d_MO_pair_77 (by decide) ?_
              refine lv_iload hx hb d_MO_pair_78 (lv_at hl 0 rfl) ?_
              refine lv_imul hx hb d_MO_pair_80 ?_
              refine lv_seti (nI (2 * mp)) (pk_mul 2 mp) ?_
              refine lv_iload_n hx hb d_MO_pair_81 rfl (lv_at hl 2 rfl) ?_
              refine my_stN hx hb hK hP hD hS 1 rfl (2 * mp) j_3 rfl rfl (by omega) (by decide) d_MO_pair_82 (fun H_24 locs hP hD hS => ?_)
              have hP : va_P D vwCl [(y, .inr (7, [.int (nI mn), .int mtm, .int mgp, .int mlk, .ref y1, .ref y2, .ref y3, .ref y4, .int (nI (mp + 1)), .ref y5, .ref y6, .ref y7, .ref y8, .ref y9, .ref y10, .ref y11, .ref y12, .ref y13, .ref y14, .ref y15, .int (nI mq), .ref y16, .ref y17, .ref y18, .ref y19, .ref y20, .ref y21, .ref y22, .ref y23, .ref y24, .ref y25, .ref y26, .ref y27, .int mhw, .int (nI mwn), .ref y28, .ref y29, .ref y30, .ref y31, .ref y32, .ref y33, .ref y34, .ref y35, .ref y36, .int (nI mbm), .ref y37, .ref y38, .int (nI mrm), .int mro, .int mrs])), (y5, .inl (cI, 24, .inl (fun zy => nI ((upN ME (2 * mp) j_3) zy)))), (y6, .inl (cI, 24, .inl MS)), (y7, .inl (cI, 24, .inl MLk)), (y8, .inl (cI, 12, .inl MU)), (y9, .inl (cI, 12, .inl MT)), (y13, .inl (cI, 12, .inl (fun zy => nI (MY zy)))), (y12, .inl (cI, 1536, .inl MG)), (y14, .inl (cI, 12, .inl ML)), (y15, .inl (cI, 12, .inl MH))] H_24 := hP
              refine lv_aload_n hx hb d_MO_pair_83 rfl (lv_at hl 1 rfl) ?_
              refine va_get (D := D) (ci := 7) (v := .ref y5) (C := R_MO) (T := F_MO) (N := 50) hx hb hts i_MO hown hK hP 0 rfl rfl 9 (by decide) (hts _ q_641) (fun _ h9 => h9) rfl d_MO_pair_84 ?_
              refine lv_iconst (v := 2) hx hb d_MO_pair_87 (by decide) ?_
              refine lv_iload hx hb d_MO_pair_88 (lv_at hl 0 rfl) ?_
              refine lv_imul hx hb d_MO_pair_90 ?_
              refine lv_seti (nI (2 * mp)) (pk_mul 2 mp) ?_
              refine lv_iconst (v := 1) hx hb d_MO_pair_91 (by decide) ?_
              refine lv_iadd hx hb d_MO_pair_92 ?_
              refine lv_seti (nI ((2 * mp) + 1)) (nI_add (2 * mp) 1) ?_
              refine lv_iload_n hx hb d_MO_pair_93 rfl (lv_at hl 3 rfl) ?_
              refine my_stN hx hb hK hP hD hS 1 rfl ((2 * mp) + 1) j_11 rfl rfl (by omega) (by decide) d_MO_pair_94 (fun H_25 locs hP hD hS => ?_)
              have hP : va_P D vwCl [(y, .inr (7, [.int (nI mn), .int mtm, .int mgp, .int mlk, .ref y1, .ref y2, .ref y3, .ref y4, .int (nI (mp + 1)), .ref y5, .ref y6, .ref y7, .ref y8, .ref y9, .ref y10, .ref y11, .ref y12, .ref y13, .ref y14, .ref y15, .int (nI mq), .ref y16, .ref y17, .ref y18, .ref y19, .ref y20, .ref y21, .ref y22, .ref y23, .ref y24, .ref y25, .ref y26, .ref y27, .int mhw, .int (nI mwn), .ref y28, .ref y29, .ref y30, .ref y31, .ref y32, .ref y33, .ref y34, .ref y35, .ref y36, .int (nI mbm), .ref y37, .ref y38, .int (nI mrm), .int mro, .int mrs])), (y5, .inl (cI, 24, .inl (fun zy => nI ((upN (upN ME (2 * mp) j_3) ((2 * mp) + 1) j_11) zy)))), (y6, .inl (cI, 24, .inl MS)), (y7, .inl (cI, 24, .inl MLk)), (y8, .inl (cI, 12, .inl MU)), (y9, .inl (cI, 12, .inl MT)), (y13, .inl (cI, 12, .inl (fun zy => nI (MY zy)))), (y12, .inl (cI, 1536, .inl MG)), (y14, .inl (cI, 12, .inl ML)), (y15, .inl (cI, 12, .inl MH))] H_25 := hP
              refine lv_aload_n hx hb d_MO_pair_95 rfl (lv_at hl 1 rfl) ?_
              refine va_get (D := D) (ci := 7) (v := .ref y6) (C := R_MO) (T := F_MO) (N := 50) hx hb hts i_MO hown hK hP 0 rfl rfl 10 (by decide) (hts _ q_642) (fun _ h9 => h9) rfl d_MO_pair_96 ?_
              refine lv_iconst (v := 2) hx hb d_MO_pair_99 (by decide) ?_
              refine lv_iload hx hb d_MO_pair_100 (lv_at hl 0 rfl) ?_
              refine lv_imul hx hb d_MO_pair_102 ?_
              refine lv_seti (nI (2 * mp)) (pk_mul 2 mp) ?_
              refine lv_iload_n hx hb d_MO_pair_103 rfl (lv_at hl 4 rfl) ?_
              refine my_stI hx hb hK hP hD hS 2 rfl (2 * mp) rfl (by omega) (by decide) d_MO_pair_104 (fun H_26 locs hP hD hS => ?_)
              have hP : va_P D vwCl [(y, .inr (7, [.int (nI mn), .int mtm, .int mgp, .int mlk, .ref y1, .ref y2, .ref y3, .ref y4, .int (nI (mp + 1)), .ref y5, .ref y6, .ref y7, .ref y8, .ref y9, .ref y10, .ref y11, .ref y12, .ref y13, .ref y14, .ref y15, .int (nI mq), .ref y16, .ref y17, .ref y18, .ref y19, .ref y20, .ref y21, .ref y22, .ref y23, .ref y24, .ref y25, .ref y26, .ref y27, .int mhw, .int (nI mwn), .ref y28, .ref y29, .ref y30, .ref y31, .ref y32, .ref y33, .ref y34, .ref y35, .ref y36, .int (nI mbm), .ref y37, .ref y38, .int (nI mrm), .int mro, .int mrs])), (y5, .inl (cI, 24, .inl (fun zy => nI ((upN (upN ME (2 * mp) j_3) ((2 * mp) + 1) j_11) zy)))), (y6, .inl (cI, 24, .inl (upd MS (2 * mp) u))), (y7, .inl (cI, 24, .inl MLk)), (y8, .inl (cI, 12, .inl MU)), (y9, .inl (cI, 12, .inl MT)), (y13, .inl (cI, 12, .inl (fun zy => nI (MY zy)))), (y12, .inl (cI, 1536, .inl MG)), (y14, .inl (cI, 12, .inl ML)), (y15, .inl (cI, 12, .inl MH))] H_26 := hP
              refine lv_aload_n hx hb d_MO_pair_105 rfl (lv_at hl 1 rfl) ?_
              refine va_get (D := D) (ci := 7) (v := .ref y6) (C := R_MO) (T := F_MO) (N := 50) hx hb hts i_MO hown hK hP 0 rfl rfl 10 (by decide) (hts _ q_642) (fun _ h9 => h9) rfl d_MO_pair_106 ?_
              refine lv_iconst (v := 2) hx hb d_MO_pair_109 (by decide) ?_
              refine lv_iload hx hb d_MO_pair_110 (lv_at hl 0 rfl) ?_
              refine lv_imul hx hb d_MO_pair_112 ?_
              refine lv_seti (nI (2 * mp)) (pk_mul 2 mp) ?_
              refine lv_iconst (v := 1) hx hb d_MO_pair_113 (by decide) ?_
              refine lv_iadd hx hb d_MO_pair_114 ?_
              refine lv_seti (nI ((2 * mp) + 1)) (nI_add (2 * mp) 1) ?_
              refine lv_iload hx hb d_MO_pair_115 (lv_at hl 5 rfl) ?_
              refine my_stI hx hb hK hP hD hS 2 rfl ((2 * mp) + 1) rfl (by omega) (by decide) d_MO_pair_117 (fun H_27 locs hP hD hS => ?_)
              have hP : va_P D vwCl [(y, .inr (7, [.int (nI mn), .int mtm, .int mgp, .int mlk, .ref y1, .ref y2, .ref y3, .ref y4, .int (nI (mp + 1)), .ref y5, .ref y6, .ref y7, .ref y8, .ref y9, .ref y10, .ref y11, .ref y12, .ref y13, .ref y14, .ref y15, .int (nI mq), .ref y16, .ref y17, .ref y18, .ref y19, .ref y20, .ref y21, .ref y22, .ref y23, .ref y24, .ref y25, .ref y26, .ref y27, .int mhw, .int (nI mwn), .ref y28, .ref y29, .ref y30, .ref y31, .ref y32, .ref y33, .ref y34, .ref y35, .ref y36, .int (nI mbm), .ref y37, .ref y38, .int (nI mrm), .int mro, .int mrs])), (y5, .inl (cI, 24, .inl (fun zy => nI ((upN (upN ME (2 * mp) j_3) ((2 * mp) + 1) j_11) zy)))), (y6, .inl (cI, 24, .inl (upd (upd MS (2 * mp) u) ((2 * mp) + 1) v))), (y7, .inl (cI, 24, .inl MLk)), (y8, .inl (cI, 12, .inl MU)), (y9, .inl (cI, 12, .inl MT)), (y13, .inl (cI, 12, .inl (fun zy => nI (MY zy)))), (y12, .inl (cI, 1536, .inl MG)), (y14, .inl (cI, 12, .inl ML)), (y15, .inl (cI, 12, .inl MH))] H_27 := hP
              refine lv_aload_n hx hb d_MO_pair_118 rfl (lv_at hl 1 rfl) ?_
              refine va_get (D := D) (ci := 7) (v := .ref y7) (C := R_MO) (T := F_MO) (N := 50) hx hb hts i_MO hown hK hP 0 rfl rfl 11 (by decide) (hts _ q_643) (fun _ h9 => h9) rfl d_MO_pair_119 ?_
              refine lv_iconst (v := 2) hx hb d_MO_pair_122 (by decide) ?_
              refine lv_iload hx hb d_MO_pair_123 (lv_at hl 0 rfl) ?_
              refine lv_imul hx hb d_MO_pair_125 ?_
              refine lv_seti (nI (2 * mp)) (pk_mul 2 mp) ?_
              refine lv_iconst (v := 0) hx hb d_MO_pair_126 (by decide) ?_
              refine my_stI hx hb hK hP hD hS 3 rfl (2 * mp) rfl (by omega) (by decide) d_MO_pair_127 (fun H_28 locs hP hD hS => ?_)
              have hP : va_P D vwCl [(y, .inr (7, [.int (nI mn), .int mtm, .int mgp, .int mlk, .ref y1, .ref y2, .ref y3, .ref y4, .int (nI (mp + 1)), .ref y5, .ref y6, .ref y7, .ref y8, .ref y9, .ref y10, .ref y11, .ref y12, .ref y13, .ref y14, .ref y15, .int (nI mq), .ref y16, .ref y17, .ref y18, .ref y19, .ref y20, .ref y21, .ref y22, .ref y23, .ref y24, .ref y25, .ref y26, .ref y27, .int mhw, .int (nI mwn), .ref y28, .ref y29, .ref y30, .ref y31, .ref y32, .ref y33, .ref y34, .ref y35, .ref y36, .int (nI mbm), .ref y37, .ref y38, .int (nI mrm), .int mro, .int mrs])), (y5, .inl (cI, 24, .inl (fun zy => nI ((upN (upN ME (2 * mp) j_3) ((2 * mp) + 1) j_11) zy)))), (y6, .inl (cI, 24, .inl (upd (upd MS (2 * mp) u) ((2 * mp) + 1) v))), (y7, .inl (cI, 24, .inl (upd MLk (2 * mp) 0))), (y8, .inl (cI, 12, .inl MU)), (y9, .inl (cI, 12, .inl MT)), (y13, .inl (cI, 12, .inl (fun zy => nI (MY zy)))), (y12, .inl (cI, 1536, .inl MG)), (y14, .inl (cI, 12, .inl ML)), (y15, .inl (cI, 12, .inl MH))] H_28 := hP
              refine lv_aload_n hx hb d_MO_pair_128 rfl (lv_at hl 1 rfl) ?_
              refine va_get (D := D) (ci := 7) (v := .ref y7) (C := R_MO) (T := F_MO) (N := 50) hx hb hts i_MO hown hK hP 0 rfl rfl 11 (by decide) (hts _ q_643) (fun _ h9 => h9) rfl d_MO_pair_129 ?_
              refine lv_iconst (v := 2) hx hb d_MO_pair_132 (by decide) ?_
              refine lv_iload hx hb d_MO_pair_133 (lv_at hl 0 rfl) ?_
              refine lv_imul hx hb d_MO_pair_135 ?_
              refine lv_seti (nI (2 * mp)) (pk_mul 2 mp) ?_
              refine lv_iconst (v := 1) hx hb d_MO_pair_136 (by decide) ?_
              refine lv_iadd hx hb d_MO_pair_137 ?_
              refine lv_seti (nI ((2 * mp) + 1)) (nI_add (2 * mp) 1) ?_
              refine lv_iconst (v := 0) hx hb d_MO_pair_138 (by decide) ?_
              refine my_stI hx hb hK hP hD hS 3 rfl ((2 * mp) + 1) rfl (by omega) (by decide) d_MO_pair_139 (fun H_29 locs hP hD hS => ?_)
              have hP : va_P D vwCl [(y, .inr (7, [.int (nI mn), .int mtm, .int mgp, .int mlk, .ref y1, .ref y2, .ref y3, .ref y4, .int (nI (mp + 1)), .ref y5, .ref y6, .ref y7, .ref y8, .ref y9, .ref y10, .ref y11, .ref y12, .ref y13, .ref y14, .ref y15, .int (nI mq), .ref y16, .ref y17, .ref y18, .ref y19, .ref y20, .ref y21, .ref y22, .ref y23, .ref y24, .ref y25, .ref y26, .ref y27, .int mhw, .int (nI mwn), .ref y28, .ref y29, .ref y30, .ref y31, .ref y32, .ref y33, .ref y34, .ref y35, .ref y36, .int (nI mbm), .ref y37, .ref y38, .int (nI mrm), .int mro, .int mrs])), (y5, .inl (cI, 24, .inl (fun zy => nI ((upN (upN ME (2 * mp) j_3) ((2 * mp) + 1) j_11) zy)))), (y6, .inl (cI, 24, .inl (upd (upd MS (2 * mp) u) ((2 * mp) + 1) v))), (y7, .inl (cI, 24, .inl (upd (upd MLk (2 * mp) 0) ((2 * mp) + 1) 0))), (y8, .inl (cI, 12, .inl MU)), (y9, .inl (cI, 12, .inl MT)), (y13, .inl (cI, 12, .inl (fun zy => nI (MY zy)))), (y12, .inl (cI, 1536, .inl MG)), (y14, .inl (cI, 12, .inl ML)), (y15, .inl (cI, 12, .inl MH))] H_29 := hP
              refine lv_aload_n hx hb d_MO_pair_140 rfl (lv_at hl 1 rfl) ?_
              refine va_get (D := D) (ci := 7) (v := .ref y8) (C := R_MO) (T := F_MO) (N := 50) hx hb hts i_MO hown hK hP 0 rfl rfl 12 (by decide) (hts _ q_644) (fun _ h9 => h9) rfl d_MO_pair_141 ?_
              refine lv_iload hx hb d_MO_pair_144 (lv_at hl 0 rfl) ?_
              refine lv_iconst (v := 0) hx hb d_MO_pair_146 (by decide) ?_
              refine my_stI hx hb hK hP hD hS 4 rfl mp rfl (by omega) (by decide) d_MO_pair_147 (fun H_30 locs hP hD hS => ?_)
              have hP : va_P D vwCl [(y, .inr (7, [.int (nI mn), .int mtm, .int mgp, .int mlk, .ref y1, .ref y2, .ref y3, .ref y4, .int (nI (mp + 1)), .ref y5, .ref y6, .ref y7, .ref y8, .ref y9, .ref y10, .ref y11, .ref y12, .ref y13, .ref y14, .ref y15, .int (nI mq), .ref y16, .ref y17, .ref y18, .ref y19, .ref y20, .ref y21, .ref y22, .ref y23, .ref y24, .ref y25, .ref y26, .ref y27, .int mhw, .int (nI mwn), .ref y28, .ref y29, .ref y30, .ref y31, .ref y32, .ref y33, .ref y34, .ref y35, .ref y36, .int (nI mbm), .ref y37, .ref y38, .int (nI mrm), .int mro, .int mrs])), (y5, .inl (cI, 24, .inl (fun zy => nI ((upN (upN ME (2 * mp) j_3) ((2 * mp) + 1) j_11) zy)))), (y6, .inl (cI, 24, .inl (upd (upd MS (2 * mp) u) ((2 * mp) + 1) v))), (y7, .inl (cI, 24, .inl (upd (upd MLk (2 * mp) 0) ((2 * mp) + 1) 0))), (y8, .inl (cI, 12, .inl (upd MU mp 0))), (y9, .inl (cI, 12, .inl MT)), (y13, .inl (cI, 12, .inl (fun zy => nI (MY zy)))), (y12, .inl (cI, 1536, .inl MG)), (y14, .inl (cI, 12, .inl ML)), (y15, .inl (cI, 12, .inl MH))] H_30 := hP
              refine lv_aload_n hx hb d_MO_pair_148 rfl (lv_at hl 1 rfl) ?_
              refine va_get (D := D) (ci := 7) (v := .ref y9) (C := R_MO) (T := F_MO) (N := 50) hx hb hts i_MO hown hK hP 0 rfl rfl 13 (by decide) (hts _ q_645) (fun _ h9 => h9) rfl d_MO_pair_149 ?_
              refine lv_iload hx hb d_MO_pair_152 (lv_at hl 0 rfl) ?_
              refine lv_iconst (v := (-1)) hx hb d_MO_pair_154 (by decide) ?_
              refine my_stI hx hb hK hP hD hS 5 rfl mp rfl (by omega) (by decide) d_MO_pair_155 (fun H_31 locs hP hD hS => ?_)
              have hP : va_P D vwCl [(y, .inr (7, [.int (nI mn), .int mtm, .int mgp, .int mlk, .ref y1, .ref y2, .ref y3, .ref y4, .int (nI (mp + 1)), .ref y5, .ref y6, .ref y7, .ref y8, .ref y9, .ref y10, .ref y11, .ref y12, .ref y13, .ref y14, .ref y15, .int (nI mq), .ref y16, .ref y17, .ref y18, .ref y19, .ref y20, .ref y21, .ref y22, .ref y23, .ref y24, .ref y25, .ref y26, .ref y27, .int mhw, .int (nI mwn), .ref y28, .ref y29, .ref y30, .ref y31, .ref y32, .ref y33, .ref y34, .ref y35, .ref y36, .int (nI mbm), .ref y37, .ref y38, .int (nI mrm), .int mro, .int mrs])), (y5, .inl (cI, 24, .inl (fun zy => nI ((upN (upN ME (2 * mp) j_3) ((2 * mp) + 1) j_11) zy)))), (y6, .inl (cI, 24, .inl (upd (upd MS (2 * mp) u) ((2 * mp) + 1) v))), (y7, .inl (cI, 24, .inl (upd (upd MLk (2 * mp) 0) ((2 * mp) + 1) 0))), (y8, .inl (cI, 12, .inl (upd MU mp 0))), (y9, .inl (cI, 12, .inl (upd MT mp (-1)))), (y13, .inl (cI, 12, .inl (fun zy => nI (MY zy)))), (y12, .inl (cI, 1536, .inl MG)), (y14, .inl (cI, 12, .inl ML)), (y15, .inl (cI, 12, .inl MH))] H_31 := hP
              refine lv_aload_n hx hb d_MO_pair_156 rfl (lv_at hl 1 rfl) ?_
              refine va_get (D := D) (ci := 7) (v := .ref y13) (C := R_MO) (T := F_MO) (N := 50) hx hb hts i_MO hown hK hP 0 rfl rfl 17 (by decide) (hts _ q_649) (fun _ h9 => h9) rfl d_MO_pair_157 ?_
              refine lv_iload hx hb d_MO_pair_160 (lv_at hl 0 rfl) ?_
              refine lv_iconst (v := 0) hx hb d_MO_pair_162 (by decide) ?_
              refine my_stN hx hb hK hP hD hS 6 rfl mp 0 rfl rfl (by omega) (by decide) d_MO_pair_163 (fun H_32 locs hP hD hS => ?_)
              have hP : va_P D vwCl [(y, .inr (7, [.int (nI mn), .int mtm, .int mgp, .int mlk, .ref y1, .ref y2, .ref y3, .ref y4, .int (nI (mp + 1)), .ref y5, .ref y6, .ref y7, .ref y8, .ref y9, .ref y10, .ref y11, .ref y12, .ref y13, .ref y14, .ref y15, .int (nI mq), .ref y16, .ref y17, .ref y18, .ref y19, .ref y20, .ref y21, .ref y22, .ref y23, .ref y24, .ref y25, .ref y26, .ref y27, .int mhw, .int (nI mwn), .ref y28, .ref y29, .ref y30, .ref y31, .ref y32, .ref y33, .ref y34, .ref y35, .ref y36, .int (nI mbm), .ref y37, .ref y38, .int (nI mrm), .int mro, .int mrs])), (y5, .inl (cI, 24, .inl (fun zy => nI ((upN (upN ME (2 * mp) j_3) ((2 * mp) + 1) j_11) zy)))), (y6, .inl (cI, 24, .inl (upd (upd MS (2 * mp) u) ((2 * mp) + 1) v))), (y7, .inl (cI, 24, .inl (upd (upd MLk (2 * mp) 0) ((2 * mp) + 1) 0))), (y8, .inl (cI, 12, .inl (upd MU mp 0))), (y9, .inl (cI, 12, .inl (upd MT mp (-1)))), (y13, .inl (cI, 12, .inl (fun zy => nI ((upN MY mp 0) zy)))), (y12, .inl (cI, 1536, .inl MG)), (y14, .inl (cI, 12, .inl ML)), (y15, .inl (cI, 12, .inl MH))] H_32 := hP
              refine lv_aload_n hx hb d_MO_pair_164 rfl (lv_at hl 1 rfl) ?_
              refine lv_iload hx hb d_MO_pair_165 (lv_at hl 0 rfl) ?_
              have hPc := hP.sub (ws' := [(y, .inr (7, [.int (nI mn), .int mtm, .int mgp, .int mlk, .ref y1, .ref y2, .ref y3, .ref y4, .int (nI (mp + 1)), .ref y5, .ref y6, .ref y7, .ref y8, .ref y9, .ref y10, .ref y11, .ref y12, .ref y13, .ref y14, .ref y15, .int (nI mq), .ref y16, .ref y17, .ref y18, .ref y19, .ref y20, .ref y21, .ref y22, .ref y23, .ref y24, .ref y25, .ref y26, .ref y27, .int mhw, .int (nI mwn), .ref y28, .ref y29, .ref y30, .ref y31, .ref y32, .ref y33, .ref y34, .ref y35, .ref y36, .int (nI mbm), .ref y37, .ref y38, .int (nI mrm), .int mro, .int mrs])), (y6, .inl (cI, 24, .inl (upd (upd MS (2 * mp) u) ((2 * mp) + 1) v))), (y7, .inl (cI, 24, .inl (upd (upd MLk (2 * mp) 0) ((2 * mp) + 1) 0))), (y12, .inl (cI, 1536, .inl MG)), (y13, .inl (cI, 12, .inl (fun zy => nI ((upN MY mp 0) zy))))]) [0, 2, 3, 7, 6] rfl
              have hDc := hD.sub (ws' := [(y, .inr (7, [.int (nI mn), .int mtm, .int mgp, .int mlk, .ref y1, .ref y2, .ref y3, .ref y4, .int (nI (mp + 1)), .ref y5, .ref y6, .ref y7, .ref y8, .ref y9, .ref y10, .ref y11, .ref y12, .ref y13, .ref y14, .ref y15, .int (nI mq), .ref y16, .ref y17, .ref y18, .ref y19, .ref y20, .ref y21, .ref y22, .ref y23, .ref y24, .ref y25, .ref y26, .ref y27, .int mhw, .int (nI mwn), .ref y28, .ref y29, .ref y30, .ref y31, .ref y32, .ref y33, .ref y34, .ref y35, .ref y36, .int (nI mbm), .ref y37, .ref y38, .int (nI mrm), .int mro, .int mrs])), (y6, .inl (cI, 24, .inl (upd (upd MS (2 * mp) u) ((2 * mp) + 1) v))), (y7, .inl (cI, 24, .inl (upd (upd MLk (2 * mp) 0) ((2 * mp) + 1) 0))), (y12, .inl (cI, 1536, .inl MG)), (y13, .inl (cI, 12, .inl (fun zy => nI ((upN MY mp 0) zy))))]) [0, 2, 3, 7, 6] (by decide +kernel) rfl
              have hFc := va_free (wc := [(y, .inr (7, [.int (nI mn), .int mtm, .int mgp, .int mlk, .ref y1, .ref y2, .ref y3, .ref y4, .int (nI (mp + 1)), .ref y5, .ref y6, .ref y7, .ref y8, .ref y9, .ref y10, .ref y11, .ref y12, .ref y13, .ref y14, .ref y15, .int (nI mq), .ref y16, .ref y17, .ref y18, .ref y19, .ref y20, .ref y21, .ref y22, .ref y23, .ref y24, .ref y25, .ref y26, .ref y27, .int mhw, .int (nI mwn), .ref y28, .ref y29, .ref y30, .ref y31, .ref y32, .ref y33, .ref y34, .ref y35, .ref y36, .int (nI mbm), .ref y37, .ref y38, .int (nI mrm), .int mro, .int mrs])), (y6, .inl (cI, 24, .inl (upd (upd MS (2 * mp) u) ((2 * mp) + 1) v))), (y7, .inl (cI, 24, .inl (upd (upd MLk (2 * mp) 0) ((2 * mp) + 1) 0))), (y12, .inl (cI, 1536, .inl MG)), (y13, .inl (cI, 12, .inl (fun zy => nI ((upN MY mp 0) zy))))]) hD hS hA [0, 2, 3, 7, 6] rfl
              refine va_callv (va_runV (As := [.int (nI mp)]) (rest := []) ⟨hx, hb, hml, hown, hts⟩ (e_MO_keepState l D cI cZ y mp mn mtm mgp mlk y1 y2 y3 y4 (mp + 1) y5 y6 y7 y8 y9 y10 y11 y12 y13 y14 y15 mq y16 y17 y18 y19 y20 y21 y22 y23 y24 y25 y26 y27 mhw mwn y28 y29 y30 y31 y32 y33 y34 y35 y36 mbm y37 y38 mrm mro mrs (upd (upd MS (2 * mp) u) ((2 * mp) + 1) v) (upd (upd MLk (2 * mp) 0) ((2 * mp) + 1) 0) MG (upN MY mp 0) H_32.size h_mn (by first | omega | (dsimp only; omega)) h_mq h_mwn h_mbm h_mrm (upN_le h_MY (by omega)) (by first | omega | (dsimp only; omega))) (my_cwV 1 hts q_802 q_799 q_801 q_p6 q_8 rfl rfl (by decide +kernel) ⟨Nat.le_of_ble_eq_true rfl, Nat.le_of_ble_eq_true rfl⟩) (my_preV hPc hDc hK hN 7 0 rfl rfl) rfl rfl hl.1 rfl (lv_room (Nat.le_of_ble_eq_true rfl)) d_MO_pair_167 ⟨Nat.le_of_ble_eq_true rfl, Nat.le_of_ble_eq_true rfl⟩) hS (fun q _ h => hFc q h) hFc (fun uU tT H_34 locs ht hvm hw_33 hB hz1 hk1 hS => ?_)
              obtain ⟨MG_35, rfl⟩ : ∃ z, z = uU := ⟨_, rfl⟩
              obtain ⟨hP1, hD1⟩ := hB
              rw [ht] at hP1
              obtain ⟨hP, hD⟩ := va_join (wr := [(y5, .inl (cI, 24, .inl (fun zy => nI ((upN (upN ME (2 * mp) j_3) ((2 * mp) + 1) j_11) zy)))), (y8, .inl (cI, 12, .inl (upd MU mp 0))), (y9, .inl (cI, 12, .inl (upd MT mp (-1)))), (y14, .inl (cI, 12, .inl ML)), (y15, .inl (cI, 12, .inl MH))]) (w1 := [(y, .inr (7, [.int (nI mn), .int mtm, .int mgp, .int mlk, .ref y1, .ref y2, .ref y3, .ref y4, .int (nI (mp + 1)), .ref y5, .ref y6, .ref y7, .ref y8, .ref y9, .ref y10, .ref y11, .ref y12, .ref y13, .ref y14, .ref y15, .int (nI mq), .ref y16, .ref y17, .ref y18, .ref y19, .ref y20, .ref y21, .ref y22, .ref y23, .ref y24, .ref y25, .ref y26, .ref y27, .int mhw, .int (nI mwn), .ref y28, .ref y29, .ref y30, .ref y31, .ref y32, .ref y33, .ref y34, .ref y35, .ref y36, .int (nI mbm), .ref y37, .ref y38, .int (nI mrm), .int mro, .int mrs])), (y6, .inl (cI, 24, .inl (upd (upd MS (2 * mp) u) ((2 * mp) + 1) v))), (y7, .inl (cI, 24, .inl (upd (upd MLk (2 * mp) 0) ((2 * mp) + 1) 0))), (y12, .inl (cI, 1536, .inl MG_35)), (y13, .inl (cI, 12, .inl (fun zy => nI ((upN (upN MY mp 0) mp (inc64 ((upN MY mp 0) mp))) zy))))]) hP hD [0, 2, 3, 7, 6] [1, 4, 5, 8, 9] rfl rfl (by decide +kernel) (by decide +kernel) hk1 hFc hP1 hD1
              have hP : va_P D vwCl [(y5, .inl (cI, 24, .inl (fun zy => nI ((upN (upN ME (2 * mp) j_3) ((2 * mp) + 1) j_11) zy)))), (y8, .inl (cI, 12, .inl (upd MU mp 0))), (y9, .inl (cI, 12, .inl (upd MT mp (-1)))), (y14, .inl (cI, 12, .inl ML)), (y15, .inl (cI, 12, .inl MH)), (y, .inr (7, [.int (nI mn), .int mtm, .int mgp, .int mlk, .ref y1, .ref y2, .ref y3, .ref y4, .int (nI (mp + 1)), .ref y5, .ref y6, .ref y7, .ref y8, .ref y9, .ref y10, .ref y11, .ref y12, .ref y13, .ref y14, .ref y15, .int (nI mq), .ref y16, .ref y17, .ref y18, .ref y19, .ref y20, .ref y21, .ref y22, .ref y23, .ref y24, .ref y25, .ref y26, .ref y27, .int mhw, .int (nI mwn), .ref y28, .ref y29, .ref y30, .ref y31, .ref y32, .ref y33, .ref y34, .ref y35, .ref y36, .int (nI mbm), .ref y37, .ref y38, .int (nI mrm), .int mro, .int mrs])), (y6, .inl (cI, 24, .inl (upd (upd MS (2 * mp) u) ((2 * mp) + 1) v))), (y7, .inl (cI, 24, .inl (upd (upd MLk (2 * mp) 0) ((2 * mp) + 1) 0))), (y12, .inl (cI, 1536, .inl MG_35)), (y13, .inl (cI, 12, .inl (fun zy => nI ((upN (upN MY mp 0) mp (inc64 ((upN MY mp 0) mp))) zy))))] H_34 := hP
              refine lv_aload_n hx hb d_MO_pair_170 rfl (lv_at hl 1 rfl) ?_
              refine lv_iload hx hb d_MO_pair_171 (lv_at hl 0 rfl) ?_
              have hPc := hP.sub (ws' := [(y, .inr (7, [.int (nI mn), .int mtm, .int mgp, .int mlk, .ref y1, .ref y2, .ref y3, .ref y4, .int (nI (mp + 1)), .ref y5, .ref y6, .ref y7, .ref y8, .ref y9, .ref y10, .ref y11, .ref y12, .ref y13, .ref y14, .ref y15, .int (nI mq), .ref y16, .ref y17, .ref y18, .ref y19, .ref y20, .ref y21, .ref y22, .ref y23, .ref y24, .ref y25, .ref y26, .ref y27, .int mhw, .int (nI mwn), .ref y28, .ref y29, .ref y30, .ref y31, .ref y32, .ref y33, .ref y34, .ref y35, .ref y36, .int (nI mbm), .ref y37, .ref y38, .int (nI mrm), .int mro, .int mrs])), (y6, .inl (cI, 24, .inl (upd (upd MS (2 * mp) u) ((2 * mp) + 1) v))), (y14, .inl (cI, 12, .inl ML)), (y15, .inl (cI, 12, .inl MH))]) [5, 6, 3, 4] rfl
              have hDc := hD.sub (ws' := [(y, .inr (7, [.int (nI mn), .int mtm, .int mgp, .int mlk, .ref y1, .ref y2, .ref y3, .ref y4, .int (nI (mp + 1)), .ref y5, .ref y6, .ref y7, .ref y8, .ref y9, .ref y10, .ref y11, .ref y12, .ref y13, .ref y14, .ref y15, .int (nI mq), .ref y16, .ref y17, .ref y18, .ref y19, .ref y20, .ref y21, .ref y22, .ref y23, .ref y24, .ref y25, .ref y26, .ref y27, .int mhw, .int (nI mwn), .ref y28, .ref y29, .ref y30, .ref y31, .ref y32, .ref y33, .ref y34, .ref y35, .ref y36, .int (nI mbm), .ref y37, .ref y38, .int (nI mrm), .int mro, .int mrs])), (y6, .inl (cI, 24, .inl (upd (upd MS (2 * mp) u) ((2 * mp) + 1) v))), (y14, .inl (cI, 12, .inl ML)), (y15, .inl (cI, 12, .inl MH))]) [5, 6, 3, 4] (by decide +kernel) rfl
              have hFc := va_free (wc := [(y, .inr (7, [.int (nI mn), .int mtm, .int mgp, .int mlk, .ref y1, .ref y2, .ref y3, .ref y4, .int (nI (mp + 1)), .ref y5, .ref y6, .ref y7, .ref y8, .ref y9, .ref y10, .ref y11, .ref y12, .ref y13, .ref y14, .ref y15, .int (nI mq), .ref y16, .ref y17, .ref y18, .ref y19, .ref y20, .ref y21, .ref y22, .ref y23, .ref y24, .ref y25, .ref y26, .ref y27, .int mhw, .int (nI mwn), .ref y28, .ref y29, .ref y30, .ref y31, .ref y32, .ref y33, .ref y34, .ref y35, .ref y36, .int (nI mbm), .ref y37, .ref y38, .int (nI mrm), .int mro, .int mrs])), (y6, .inl (cI, 24, .inl (upd (upd MS (2 * mp) u) ((2 * mp) + 1) v))), (y14, .inl (cI, 12, .inl ML)), (y15, .inl (cI, 12, .inl MH))]) hD hS hA [5, 6, 3, 4] rfl
              refine va_callv (va_runV (As := [.int (nI mp)]) (rest := []) ⟨hx, hb, hml, hown, hts⟩ (e_MO_forget l D cI cZ y mp mn mtm mgp mlk y1 y2 y3 y4 (mp + 1) y5 y6 y7 y8 y9 y10 y11 y12 y13 y14 y15 mq y16 y17 y18 y19 y20 y21 y22 y23 y24 y25 y26 y27 mhw mwn y28 y29 y30 y31 y32 y33 y34 y35 y36 mbm y37 y38 mrm mro mrs (upd (upd MS (2 * mp) u) ((2 * mp) + 1) v) ML MH H_34.size h_mn (by first | omega | (dsimp only; omega)) h_mq h_mwn h_mbm h_mrm (by first | omega | (dsimp only; omega))) (my_cwV 1 hts q_806 q_803 q_805 q_p7 q_8 rfl rfl (by decide +kernel) ⟨Nat.le_of_ble_eq_true rfl, Nat.le_of_ble_eq_true rfl⟩) (my_preV hPc hDc hK hN 7 0 rfl rfl) rfl rfl hl.1 rfl (lv_room (Nat.le_of_ble_eq_true rfl)) d_MO_pair_173 ⟨Nat.le_of_ble_eq_true rfl, Nat.le_of_ble_eq_true rfl⟩) hS (fun q _ h => hFc q h) hFc (fun uU tT H_37 locs ht hvm hw_36 hB hz1 hk1 hS => ?_)
              obtain ⟨hP1, hD1⟩ := hB
              rw [ht] at hP1
              obtain ⟨hP, hD⟩ := va_join (wr := [(y5, .inl (cI, 24, .inl (fun zy => nI ((upN (upN ME (2 * mp) j_3) ((2 * mp) + 1) j_11) zy)))), (y8, .inl (cI, 12, .inl (upd MU mp 0))), (y9, .inl (cI, 12, .inl (upd MT mp (-1)))), (y7, .inl (cI, 24, .inl (upd (upd MLk (2 * mp) 0) ((2 * mp) + 1) 0))), (y12, .inl (cI, 1536, .inl MG_35)), (y13, .inl (cI, 12, .inl (fun zy => nI ((upN (upN MY mp 0) mp (inc64 ((upN MY mp 0) mp))) zy))))]) (w1 := [(y, .inr (7, [.int (nI mn), .int mtm, .int mgp, .int mlk, .ref y1, .ref y2, .ref y3, .ref y4, .int (nI (mp + 1)), .ref y5, .ref y6, .ref y7, .ref y8, .ref y9, .ref y10, .ref y11, .ref y12, .ref y13, .ref y14, .ref y15, .int (nI mq), .ref y16, .ref y17, .ref y18, .ref y19, .ref y20, .ref y21, .ref y22, .ref y23, .ref y24, .ref y25, .ref y26, .ref y27, .int mhw, .int (nI mwn), .ref y28, .ref y29, .ref y30, .ref y31, .ref y32, .ref y33, .ref y34, .ref y35, .ref y36, .int (nI mbm), .ref y37, .ref y38, .int (nI mrm), .int mro, .int mrs])), (y6, .inl (cI, 24, .inl (upd (upd MS (2 * mp) u) ((2 * mp) + 1) v))), (y14, .inl (cI, 12, .inl (upd ML mp 0))), (y15, .inl (cI, 12, .inl (upd MH mp (gsum (upd (upd MS (2 * mp) u) ((2 * mp) + 1) v) mp))))]) hP hD [5, 6, 3, 4] [0, 1, 2, 7, 8, 9] rfl rfl (by decide +kernel) (by decide +kernel) hk1 hFc hP1 hD1
              have hP : va_P D vwCl [(y5, .inl (cI, 24, .inl (fun zy => nI ((upN (upN ME (2 * mp) j_3) ((2 * mp) + 1) j_11) zy)))), (y8, .inl (cI, 12, .inl (upd MU mp 0))), (y9, .inl (cI, 12, .inl (upd MT mp (-1)))), (y7, .inl (cI, 24, .inl (upd (upd MLk (2 * mp) 0) ((2 * mp) + 1) 0))), (y12, .inl (cI, 1536, .inl MG_35)), (y13, .inl (cI, 12, .inl (fun zy => nI ((upN (upN MY mp 0) mp (inc64 ((upN MY mp 0) mp))) zy)))), (y, .inr (7, [.int (nI mn), .int mtm, .int mgp, .int mlk, .ref y1, .ref y2, .ref y3, .ref y4, .int (nI (mp + 1)), .ref y5, .ref y6, .ref y7, .ref y8, .ref y9, .ref y10, .ref y11, .ref y12, .ref y13, .ref y14, .ref y15, .int (nI mq), .ref y16, .ref y17, .ref y18, .ref y19, .ref y20, .ref y21, .ref y22, .ref y23, .ref y24, .ref y25, .ref y26, .ref y27, .int mhw, .int (nI mwn), .ref y28, .ref y29, .ref y30, .ref y31, .ref y32, .ref y33, .ref y34, .ref y35, .ref y36, .int (nI mbm), .ref y37, .ref y38, .int (nI mrm), .int mro, .int mrs])), (y6, .inl (cI, 24, .inl (upd (upd MS (2 * mp) u) ((2 * mp) + 1) v))), (y14, .inl (cI, 12, .inl (upd ML mp 0))), (y15, .inl (cI, 12, .inl (upd MH mp (gsum (upd (upd MS (2 * mp) u) ((2 * mp) + 1) v) mp))))] H_37 := hP
              refine lv_iload hx hb d_MO_pair_176 (lv_at hl 0 rfl) ?_
              have hP9 := hP.sub (ws' := [(y, .inr (7, [.int (nI mn), .int mtm, .int mgp, .int mlk, .ref y1, .ref y2, .ref y3, .ref y4, .int (nI (mp + 1)), .ref y5, .ref y6, .ref y7, .ref y8, .ref y9, .ref y10, .ref y11, .ref y12, .ref y13, .ref y14, .ref y15, .int (nI mq), .ref y16, .ref y17, .ref y18, .ref y19, .ref y20, .ref y21, .ref y22, .ref y23, .ref y24, .ref y25, .ref y26, .ref y27, .int mhw, .int (nI mwn), .ref y28, .ref y29, .ref y30, .ref y31, .ref y32, .ref y33, .ref y34, .ref y35, .ref y36, .int (nI mbm), .ref y37, .ref y38, .int (nI mrm), .int mro, .int mrs])), (y5, .inl (cI, 24, .inl (fun zy => nI ((upN (upN ME (2 * mp) j_3) ((2 * mp) + 1) j_11) zy)))), (y6, .inl (cI, 24, .inl (upd (upd MS (2 * mp) u) ((2 * mp) + 1) v))), (y7, .inl (cI, 24, .inl (upd (upd MLk (2 * mp) 0) ((2 * mp) + 1) 0))), (y8, .inl (cI, 12, .inl (upd MU mp 0))), (y9, .inl (cI, 12, .inl (upd MT mp (-1)))), (y13, .inl (cI, 12, .inl (fun zy => nI ((upN (upN MY mp 0) mp (inc64 ((upN MY mp 0) mp))) zy)))), (y12, .inl (cI, 1536, .inl MG_35)), (y14, .inl (cI, 12, .inl (upd ML mp 0))), (y15, .inl (cI, 12, .inl (upd MH mp (gsum (upd (upd MS (2 * mp) u) ((2 * mp) + 1) v) mp))))]) [6, 0, 7, 3, 1, 2, 5, 4, 8, 9] rfl
              have hD9 := hD.sub (ws' := [(y, .inr (7, [.int (nI mn), .int mtm, .int mgp, .int mlk, .ref y1, .ref y2, .ref y3, .ref y4, .int (nI (mp + 1)), .ref y5, .ref y6, .ref y7, .ref y8, .ref y9, .ref y10, .ref y11, .ref y12, .ref y13, .ref y14, .ref y15, .int (nI mq), .ref y16, .ref y17, .ref y18, .ref y19, .ref y20, .ref y21, .ref y22, .ref y23, .ref y24, .ref y25, .ref y26, .ref y27, .int mhw, .int (nI mwn), .ref y28, .ref y29, .ref y30, .ref y31, .ref y32, .ref y33, .ref y34, .ref y35, .ref y36, .int (nI mbm), .ref y37, .ref y38, .int (nI mrm), .int mro, .int mrs])), (y5, .inl (cI, 24, .inl (fun zy => nI ((upN (upN ME (2 * mp) j_3) ((2 * mp) + 1) j_11) zy)))), (y6, .inl (cI, 24, .inl (upd (upd MS (2 * mp) u) ((2 * mp) + 1) v))), (y7, .inl (cI, 24, .inl (upd (upd MLk (2 * mp) 0) ((2 * mp) + 1) 0))), (y8, .inl (cI, 12, .inl (upd MU mp 0))), (y9, .inl (cI, 12, .inl (upd MT mp (-1)))), (y13, .inl (cI, 12, .inl (fun zy => nI ((upN (upN MY mp 0) mp (inc64 ((upN MY mp 0) mp))) zy)))), (y12, .inl (cI, 1536, .inl MG_35)), (y14, .inl (cI, 12, .inl (upd ML mp 0))), (y15, .inl (cI, 12, .inl (upd MH mp (gsum (upd (upd MS (2 * mp) u) ((2 * mp) + 1) v) mp))))]) [6, 0, 7, 3, 1, 2, 5, 4, 8, 9] (by decide +kernel) rfl
              refine W.widen (k := 0) (n := 0) (Nat.le_of_ble_eq_true rfl) (Nat.le_of_ble_eq_true rfl) ?_
              exact W.iret (v := (nI mp)) hx hb hr (fun tT ht hW => ⟨⟨(nI mp), ((mp + 1), (upN (upN ME (2 * mp) j_3) ((2 * mp) + 1) j_11), (upd (upd MS (2 * mp) u) ((2 * mp) + 1) v), (upd (upd MLk (2 * mp) 0) ((2 * mp) + 1) 0), (upd MU mp 0), (upd MT mp (-1)), (upN (upN MY mp 0) mp (inc64 ((upN MY mp 0) mp))), MG_35, (upd ML mp 0), (upd MH mp (gsum (upd (upd MS (2 * mp) u) ((2 * mp) + 1) v) mp))), rfl, ⟨(by first | omega | (dsimp only; omega)), (upN_le (upN_le h_ME (by omega)) (by omega)), (upN_le (upN_le h_MY (by omega)) (inc64_le ((upN_le h_MY (by omega)) _))), Or.inr (Or.inr (⟨j_3, j_11, (bp_n hg_6 hg_14 h_17 h_19 h_21), hg_5, hg_13, hg_4, hg_12, nh_17, (by first | omega | (dsimp only; omega)), rfl, rfl, rfl, rfl, rfl, rfl, rfl, rfl, rfl, rfl⟩))⟩, by rw [ht]; exact hP9, hD9⟩, hS.F ht⟩) hS.2.2 d_MO_pair_178
            · have nh_22 : mp = 12 := (nI_eq (a := mp) (b := 12) (by omega) (by omega)).mp h_22
              refine lv_bipush (v := (-4)) hx hb d_MO_pair_54 (by decide) ?_
              have hP9 := hP.sub (ws' := [(y, .inr (7, [.int (nI mn), .int mtm, .int mgp, .int mlk, .ref y1, .ref y2, .ref y3, .ref y4, .int (nI mp), .ref y5, .ref y6, .ref y7, .ref y8, .ref y9, .ref y10, .ref y11, .ref y12, .ref y13, .ref y14, .ref y15, .int (nI mq), .ref y16, .ref y17, .ref y18, .ref y19, .ref y20, .ref y21, .ref y22, .ref y23, .ref y24, .ref y25, .ref y26, .ref y27, .int mhw, .int (nI mwn), .ref y28, .ref y29, .ref y30, .ref y31, .ref y32, .ref y33, .ref y34, .ref y35, .ref y36, .int (nI mbm), .ref y37, .ref y38, .int (nI mrm), .int mro, .int mrs])), (y5, .inl (cI, 24, .inl (fun zy => nI (ME zy)))), (y6, .inl (cI, 24, .inl MS)), (y7, .inl (cI, 24, .inl MLk)), (y8, .inl (cI, 12, .inl MU)), (y9, .inl (cI, 12, .inl MT)), (y13, .inl (cI, 12, .inl (fun zy => nI (MY zy)))), (y12, .inl (cI, 1536, .inl MG)), (y14, .inl (cI, 12, .inl ML)), (y15, .inl (cI, 12, .inl MH))]) [0, 1, 2, 3, 4, 5, 6, 7, 8, 9] rfl
              have hD9 := hD.sub (ws' := [(y, .inr (7, [.int (nI mn), .int mtm, .int mgp, .int mlk, .ref y1, .ref y2, .ref y3, .ref y4, .int (nI mp), .ref y5, .ref y6, .ref y7, .ref y8, .ref y9, .ref y10, .ref y11, .ref y12, .ref y13, .ref y14, .ref y15, .int (nI mq), .ref y16, .ref y17, .ref y18, .ref y19, .ref y20, .ref y21, .ref y22, .ref y23, .ref y24, .ref y25, .ref y26, .ref y27, .int mhw, .int (nI mwn), .ref y28, .ref y29, .ref y30, .ref y31, .ref y32, .ref y33, .ref y34, .ref y35, .ref y36, .int (nI mbm), .ref y37, .ref y38, .int (nI mrm), .int mro, .int mrs])), (y5, .inl (cI, 24, .inl (fun zy => nI (ME zy)))), (y6, .inl (cI, 24, .inl MS)), (y7, .inl (cI, 24, .inl MLk)), (y8, .inl (cI, 12, .inl MU)), (y9, .inl (cI, 12, .inl MT)), (y13, .inl (cI, 12, .inl (fun zy => nI (MY zy)))), (y12, .inl (cI, 1536, .inl MG)), (y14, .inl (cI, 12, .inl ML)), (y15, .inl (cI, 12, .inl MH))]) [0, 1, 2, 3, 4, 5, 6, 7, 8, 9] (by decide +kernel) rfl
              refine W.widen (k := 0) (n := 0) (Nat.le_of_ble_eq_true rfl) (Nat.le_of_ble_eq_true rfl) ?_
              exact W.iret (v := (-4)) hx hb hr (fun tT ht hW => ⟨⟨(-4), (mp, ME, MS, MLk, MU, MT, MY, MG, ML, MH), rfl, ⟨h_mp, h_ME, h_MY, Or.inr (Or.inl (⟨(bp_n hg_6 hg_14 h_17 h_19 h_21), nh_22, rfl, rfl, rfl, rfl, rfl, rfl, rfl, rfl, rfl, rfl⟩))⟩, by rw [ht]; exact hP9, hD9⟩, hS.F ht⟩) hS.2.2 d_MO_pair_56
          · refine lv_bipush (v := (-2)) hx hb d_MO_pair_42 (by decide) ?_
            have hP9 := hP.sub (ws' := [(y, .inr (7, [.int (nI mn), .int mtm, .int mgp, .int mlk, .ref y1, .ref y2, .ref y3, .ref y4, .int (nI mp), .ref y5, .ref y6, .ref y7, .ref y8, .ref y9, .ref y10, .ref y11, .ref y12, .ref y13, .ref y14, .ref y15, .int (nI mq), .ref y16, .ref y17, .ref y18, .ref y19, .ref y20, .ref y21, .ref y22, .ref y23, .ref y24, .ref y25, .ref y26, .ref y27, .int mhw, .int (nI mwn), .ref y28, .ref y29, .ref y30, .ref y31, .ref y32, .ref y33, .ref y34, .ref y35, .ref y36, .int (nI mbm), .ref y37, .ref y38, .int (nI mrm), .int mro, .int mrs])), (y5, .inl (cI, 24, .inl (fun zy => nI (ME zy)))), (y6, .inl (cI, 24, .inl MS)), (y7, .inl (cI, 24, .inl MLk)), (y8, .inl (cI, 12, .inl MU)), (y9, .inl (cI, 12, .inl MT)), (y13, .inl (cI, 12, .inl (fun zy => nI (MY zy)))), (y12, .inl (cI, 1536, .inl MG)), (y14, .inl (cI, 12, .inl ML)), (y15, .inl (cI, 12, .inl MH))]) [0, 1, 2, 3, 4, 5, 6, 7, 8, 9] rfl
            have hD9 := hD.sub (ws' := [(y, .inr (7, [.int (nI mn), .int mtm, .int mgp, .int mlk, .ref y1, .ref y2, .ref y3, .ref y4, .int (nI mp), .ref y5, .ref y6, .ref y7, .ref y8, .ref y9, .ref y10, .ref y11, .ref y12, .ref y13, .ref y14, .ref y15, .int (nI mq), .ref y16, .ref y17, .ref y18, .ref y19, .ref y20, .ref y21, .ref y22, .ref y23, .ref y24, .ref y25, .ref y26, .ref y27, .int mhw, .int (nI mwn), .ref y28, .ref y29, .ref y30, .ref y31, .ref y32, .ref y33, .ref y34, .ref y35, .ref y36, .int (nI mbm), .ref y37, .ref y38, .int (nI mrm), .int mro, .int mrs])), (y5, .inl (cI, 24, .inl (fun zy => nI (ME zy)))), (y6, .inl (cI, 24, .inl MS)), (y7, .inl (cI, 24, .inl MLk)), (y8, .inl (cI, 12, .inl MU)), (y9, .inl (cI, 12, .inl MT)), (y13, .inl (cI, 12, .inl (fun zy => nI (MY zy)))), (y12, .inl (cI, 1536, .inl MG)), (y14, .inl (cI, 12, .inl ML)), (y15, .inl (cI, 12, .inl MH))]) [0, 1, 2, 3, 4, 5, 6, 7, 8, 9] (by decide +kernel) rfl
            refine W.widen (k := 0) (n := 0) (Nat.le_of_ble_eq_true rfl) (Nat.le_of_ble_eq_true rfl) ?_
            exact W.iret (v := (-2)) hx hb hr (fun tT ht hW => ⟨⟨(-2), (mp, ME, MS, MLk, MU, MT, MY, MG, ML, MH), rfl, ⟨h_mp, h_ME, h_MY, Or.inl (⟨(bp_5 h_21), rfl, rfl, rfl, rfl, rfl, rfl, rfl, rfl, rfl, rfl⟩)⟩, by rw [ht]; exact hP9, hD9⟩, hS.F ht⟩) hS.2.2 d_MO_pair_44

set_option maxHeartbeats 4000000 in
set_option maxRecDepth 100000 in
theorem e_MO_fee (l : Launch) (D : va_G) (cI cZ : ClassId) (y : Nat) (i : Int32) (u : Int32) (v : Int32) (mn : Nat) (mtm : Int32) (mgp : Int32) (mlk : Int32) (y1 : Nat) (y2 : Nat) (y3 : Nat) (y4 : Nat) (mp : Nat) (y5 : Nat) (y6 : Nat) (y7 : Nat) (y8 : Nat) (y9 : Nat) (y10 : Nat) (y11 : Nat) (y12 : Nat) (y13 : Nat) (y14 : Nat) (y15 : Nat) (mq : Nat) (y16 : Nat) (y17 : Nat) (y18 : Nat) (y19 : Nat) (y20 : Nat) (y21 : Nat) (y22 : Nat) (y23 : Nat) (y24 : Nat) (y25 : Nat) (y26 : Nat) (y27 : Nat) (mhw : Int32) (mwn : Nat) (y28 : Nat) (y29 : Nat) (y30 : Nat) (y31 : Nat) (y32 : Nat) (y33 : Nat) (y34 : Nat) (y35 : Nat) (y36 : Nat) (mbm : Nat) (y37 : Nat) (y38 : Nat) (mrm : Nat) (mro : Int32) (mrs : Int32) (MB : Nat → Int32) (MR : Nat → Int32) (sz : Nat) (h_mn : mn ≤ 7) (h_mp : mp ≤ 12) (h_mq : mq ≤ 40) (h_mwn : mwn ≤ 8) (h_mbm : mbm ≤ 8) (h_mrm : mrm ≤ 8) : Met l ⟨"PromiseChainsModel", "fee", "(III)I"⟩ (mw ⟨"PromiseChainsModel", "fee", "(III)I"⟩ prog_9_method_10_code 4 (some .int)) ({ frames := 2, cells := 0, slots := 0, locals := 43 }) (va_Pc [.ref y, .int i, .int u, .int v] (PB D cI cZ sz [(y, .inr (7, [.int (nI mn), .int mtm, .int mgp, .int mlk, .ref y1, .ref y2, .ref y3, .ref y4, .int (nI mp), .ref y5, .ref y6, .ref y7, .ref y8, .ref y9, .ref y10, .ref y11, .ref y12, .ref y13, .ref y14, .ref y15, .int (nI mq), .ref y16, .ref y17, .ref y18, .ref y19, .ref y20, .ref y21, .ref y22, .ref y23, .ref y24, .ref y25, .ref y26, .ref y27, .int mhw, .int (nI mwn), .ref y28, .ref y29, .ref y30, .ref y31, .ref y32, .ref y33, .ref y34, .ref y35, .ref y36, .int (nI mbm), .ref y37, .ref y38, .int (nI mrm), .int mro, .int mrs])), (y3, .inl (cI, 7, .inl MB)), (y4, .inl (cI, 7, .inl MR))])) (va_Qi (S := (Nat → Int32) × (Nat → Int32)) (fun (r : Int32) uU => (badFee mn i u v ∧ uU.1 = MB ∧ uU.2 = MR ∧ r = -2) ∨ (∃ a : Nat, ¬ badFee mn i u v ∧ i = nI a ∧ a < mn ∧ uU.1 = upd MB a u ∧ uU.2 = upd MR a v ∧ r = 1)) (fun uU tT => BB D (va_A [(y, .inr (7, [.int (nI mn), .int mtm, .int mgp, .int mlk, .ref y1, .ref y2, .ref y3, .ref y4, .int (nI mp), .ref y5, .ref y6, .ref y7, .ref y8, .ref y9, .ref y10, .ref y11, .ref y12, .ref y13, .ref y14, .ref y15, .int (nI mq), .ref y16, .ref y17, .ref y18, .ref y19, .ref y20, .ref y21, .ref y22, .ref y23, .ref y24, .ref y25, .ref y26, .ref y27, .int mhw, .int (nI mwn), .ref y28, .ref y29, .ref y30, .ref y31, .ref y32, .ref y33, .ref y34, .ref y35, .ref y36, .int (nI mbm), .ref y37, .ref y38, .int (nI mrm), .int mro, .int mrs])), (y3, .inl (cI, 7, .inl MB)), (y4, .inl (cI, 7, .inl MR))] sz) [(y, .inr (7, [.int (nI mn), .int mtm, .int mgp, .int mlk, .ref y1, .ref y2, .ref y3, .ref y4, .int (nI mp), .ref y5, .ref y6, .ref y7, .ref y8, .ref y9, .ref y10, .ref y11, .ref y12, .ref y13, .ref y14, .ref y15, .int (nI mq), .ref y16, .ref y17, .ref y18, .ref y19, .ref y20, .ref y21, .ref y22, .ref y23, .ref y24, .ref y25, .ref y26, .ref y27, .int mhw, .int (nI mwn), .ref y28, .ref y29, .ref y30, .ref y31, .ref y32, .ref y33, .ref y34, .ref y35, .ref y36, .int (nI mbm), .ref y37, .ref y38, .int (nI mrm), .int mro, .int mrs])), (y3, .inl (cI, 7, .inl (uU.1))), (y4, .inl (cI, 7, .inl (uU.2)))] tT) (va_A [(y, .inr (7, [.int (nI mn), .int mtm, .int mgp, .int mlk, .ref y1, .ref y2, .ref y3, .ref y4, .int (nI mp), .ref y5, .ref y6, .ref y7, .ref y8, .ref y9, .ref y10, .ref y11, .ref y12, .ref y13, .ref y14, .ref y15, .int (nI mq), .ref y16, .ref y17, .ref y18, .ref y19, .ref y20, .ref y21, .ref y22, .ref y23, .ref y24, .ref y25, .ref y26, .ref y27, .int mhw, .int (nI mwn), .ref y28, .ref y29, .ref y30, .ref y31, .ref y32, .ref y33, .ref y34, .ref y35, .ref y36, .int (nI mbm), .ref y37, .ref y38, .int (nI mrm), .int mro, .int mrs])), (y3, .inl (cI, 7, .inl MB)), (y4, .inl (cI, 7, .inl MR))] sz)) 0 0 (va_A [(y, .inr (7, [.int (nI mn), .int mtm, .int mgp, .int mlk, .ref y1, .ref y2, .ref y3, .ref y4, .int (nI mp), .ref y5, .ref y6, .ref y7, .ref y8, .ref y9, .ref y10, .ref y11, .ref y12, .ref y13, .ref y14, .ref y15, .int (nI mq), .ref y16, .ref y17, .ref y18, .ref y19, .ref y20, .ref y21, .ref y22, .ref y23, .ref y24, .ref y25, .ref y26, .ref y27, .int mhw, .int (nI mwn), .ref y28, .ref y29, .ref y30, .ref y31, .ref y32, .ref y33, .ref y34, .ref y35, .ref y36, .int (nI mbm), .ref y37, .ref y38, .int (nI mrm), .int mro, .int mrs])), (y3, .inl (cI, 7, .inl MB)), (y4, .inl (cI, 7, .inl MR))] sz) := by
  refine Met.ofW (cc := prog_9_method_10_code) (maxL := 4) (ret := (some .int)) (by decide) rfl ?_
  intro p e s m args below meth c s₁ B hml hv
  obtain ⟨rfl, hsz, hP, hK, hD0, hN⟩ := hv
  have hx := B.exec
  have hb := B.bytes
  have hr := B.returns
  have hts0 := atoms_spec (ws := mw ⟨"PromiseChainsModel", "fee", "(III)I"⟩ prog_9_method_10_code 4 (some .int)) B.pre
  have hts : ∀ w ∈ tblG, w.before _ s = true := fun w h => hts0 w (List.mem_cons_of_mem _ h)
  have hown : s.vm.findClass "PromiseChainsModel" = some m.cls := findClass_of_methodNamed B.named
  have hlocks := B.notSynchronized
  subst hsz
  have hD := hD0.self (sz := s.heap.size)
  generalize hAe : va_A [(y, .inr (7, [.int (nI mn), .int mtm, .int mgp, .int mlk, .ref y1, .ref y2, .ref y3, .ref y4, .int (nI mp), .ref y5, .ref y6, .ref y7, .ref y8, .ref y9, .ref y10, .ref y11, .ref y12, .ref y13, .ref y14, .ref y15, .int (nI mq), .ref y16, .ref y17, .ref y18, .ref y19, .ref y20, .ref y21, .ref y22, .ref y23, .ref y24, .ref y25, .ref y26, .ref y27, .int mhw, .int (nI mwn), .ref y28, .ref y29, .ref y30, .ref y31, .ref y32, .ref y33, .ref y34, .ref y35, .ref y36, .int (nI mbm), .ref y37, .ref y38, .int (nI mrm), .int mro, .int mrs])), (y3, .inl (cI, 7, .inl MB)), (y4, .inl (cI, 7, .inl MR))] s.heap.size = A at hD ⊢
  have hA : ∀ q : Nat, s.heap.size ≤ q → A q := fun q h => by rw [← hAe]; exact Or.inr h
  have hS : va_S A s.heap s.heap [] := va_S.rf
  have hP : va_P D vwCl [(y, .inr (7, [.int (nI mn), .int mtm, .int mgp, .int mlk, .ref y1, .ref y2, .ref y3, .ref y4, .int (nI mp), .ref y5, .ref y6, .ref y7, .ref y8, .ref y9, .ref y10, .ref y11, .ref y12, .ref y13, .ref y14, .ref y15, .int (nI mq), .ref y16, .ref y17, .ref y18, .ref y19, .ref y20, .ref y21, .ref y22, .ref y23, .ref y24, .ref y25, .ref y26, .ref y27, .int mhw, .int (nI mwn), .ref y28, .ref y29, .ref y30, .ref y31, .ref y32, .ref y33, .ref y34, .ref y35, .ref y36, .int (nI mbm), .ref y37, .ref y38, .int (nI mrm), .int mro, .int mrs])), (y3, .inl (cI, 7, .inl MB)), (y4, .inl (cI, 7, .inl MR))] s.heap := hP
  have hl := lv_entry ([.ref y, .int i, .int u, .int v]) (n := 4) (Nat.le_of_ble_eq_true rfl)
  rw [lg_entry_eq]
  generalize (lg_sl ([.ref y, .int i, .int u, .int v]) ++ List.replicate (4 - (lg_sl ([.ref y, .int i, .int u, .int v])).length) Slot.unset).toArray = ls at hl ⊢
  have hl : lv_has ls 4 [(0, .ref y), (1, .int i), (2, .int u), (3, .int v)] := hl
  refine lv_aload_n hx hb d_MO_fee_0 rfl (lv_at hl 0 rfl) ?_
  refine lv_iload_n hx hb d_MO_fee_1 rfl (lv_at hl 1 rfl) ?_
  have hPc := hP.sub (ws' := [(y, .inr (7, [.int (nI mn), .int mtm, .int mgp, .int mlk, .ref y1, .ref y2, .ref y3, .ref y4, .int (nI mp), .ref y5, .ref y6, .ref y7, .ref y8, .ref y9, .ref y10, .ref y11, .ref y12, .ref y13, .ref y14, .ref y15, .int (nI mq), .ref y16, .ref y17, .ref y18, .ref y19, .ref y20, .ref y21, .ref y22, .ref y23, .ref y24, .ref y25, .ref y26, .ref y27, .int mhw, .int (nI mwn), .ref y28, .ref y29, .ref y30, .ref y31, .ref y32, .ref y33, .ref y34, .ref y35, .ref y36, .int (nI mbm), .ref y37, .ref y38, .int (nI mrm), .int mro, .int mrs]))]) [0] rfl
  have hDc := hD.sub (ws' := [(y, .inr (7, [.int (nI mn), .int mtm, .int mgp, .int mlk, .ref y1, .ref y2, .ref y3, .ref y4, .int (nI mp), .ref y5, .ref y6, .ref y7, .ref y8, .ref y9, .ref y10, .ref y11, .ref y12, .ref y13, .ref y14, .ref y15, .int (nI mq), .ref y16, .ref y17, .ref y18, .ref y19, .ref y20, .ref y21, .ref y22, .ref y23, .ref y24, .ref y25, .ref y26, .ref y27, .int mhw, .int (nI mwn), .ref y28, .ref y29, .ref y30, .ref y31, .ref y32, .ref y33, .ref y34, .ref y35, .ref y36, .int (nI mbm), .ref y37, .ref y38, .int (nI mrm), .int mro, .int mrs]))]) [0] (by decide +kernel) rfl
  refine vp_callSi (va_Run.run (va_runV (As := [.int i]) (rest := []) ⟨hx, hb, hml, hown, hts⟩ (e_MO_isPerson l D cI cZ y i mn mtm mgp mlk y1 y2 y3 y4 mp y5 y6 y7 y8 y9 y10 y11 y12 y13 y14 y15 mq y16 y17 y18 y19 y20 y21 y22 y23 y24 y25 y26 y27 mhw mwn y28 y29 y30 y31 y32 y33 y34 y35 y36 mbm y37 y38 mrm mro mrs s.heap.size h_mn h_mp h_mq h_mwn h_mbm h_mrm) (my_cwV 1 hts q_797 q_794 q_796 q_p5 q_8 rfl rfl (by decide +kernel) ⟨Nat.le_of_ble_eq_true rfl, Nat.le_of_ble_eq_true rfl⟩) (my_preV hPc hDc hK hN 7 0 rfl rfl) rfl rfl hl.1 rfl (lv_room (Nat.le_of_ble_eq_true rfl)) d_MO_fee_2 ⟨Nat.le_of_ble_eq_true rfl, Nat.le_of_ble_eq_true rfl⟩)) (fun r_1 hw_1 => ?_)
  rcases hw_1 with ⟨hg_2, rfl⟩ | ⟨j_3, hg_4, hg_5, hg_6, rfl⟩
  · have hg_2 : isw i 0 (nI mn - 1) = 0 := hg_2
    refine lv_if_eq (tgt := 28) hx hb d_MO_fee_5 (by decide) (fun _ => ?_) (fun h => absurd h (by decide))
    refine lv_bipush (v := (-2)) hx hb d_MO_fee_28 (by decide) ?_
    have hP9 := hP.sub (ws' := [(y, .inr (7, [.int (nI mn), .int mtm, .int mgp, .int mlk, .ref y1, .ref y2, .ref y3, .ref y4, .int (nI mp), .ref y5, .ref y6, .ref y7, .ref y8, .ref y9, .ref y10, .ref y11, .ref y12, .ref y13, .ref y14, .ref y15, .int (nI mq), .ref y16, .ref y17, .ref y18, .ref y19, .ref y20, .ref y21, .ref y22, .ref y23, .ref y24, .ref y25, .ref y26, .ref y27, .int mhw, .int (nI mwn), .ref y28, .ref y29, .ref y30, .ref y31, .ref y32, .ref y33, .ref y34, .ref y35, .ref y36, .int (nI mbm), .ref y37, .ref y38, .int (nI mrm), .int mro, .int mrs])), (y3, .inl (cI, 7, .inl MB)), (y4, .inl (cI, 7, .inl MR))]) [0, 1, 2] rfl
    have hD9 := hD.sub (ws' := [(y, .inr (7, [.int (nI mn), .int mtm, .int mgp, .int mlk, .ref y1, .ref y2, .ref y3, .ref y4, .int (nI mp), .ref y5, .ref y6, .ref y7, .ref y8, .ref y9, .ref y10, .ref y11, .ref y12, .ref y13, .ref y14, .ref y15, .int (nI mq), .ref y16, .ref y17, .ref y18, .ref y19, .ref y20, .ref y21, .ref y22, .ref y23, .ref y24, .ref y25, .ref y26, .ref y27, .int mhw, .int (nI mwn), .ref y28, .ref y29, .ref y30, .ref y31, .ref y32, .ref y33, .ref y34, .ref y35, .ref y36, .int (nI mbm), .ref y37, .ref y38, .int (nI mrm), .int mro, .int mrs])), (y3, .inl (cI, 7, .inl MB)), (y4, .inl (cI, 7, .inl MR))]) [0, 1, 2] (by decide +kernel) rfl
    refine W.widen (k := 0) (n := 0) (Nat.le_of_ble_eq_true rfl) (Nat.le_of_ble_eq_true rfl) ?_
    exact W.iret (v := (-2)) hx hb hr (fun tT ht hW => ⟨⟨(-2), (MB, MR), rfl, (Or.inl (⟨(bf_1 hg_2), rfl, rfl, rfl⟩)), by rw [ht]; exact hP9, hD9⟩, hS.F ht⟩) hS.2.2 d_MO_fee_30
  · have hg_4 : j_3 < mn := hg_4
    have hg_5 : i = nI j_3 := hg_5
    have hg_6 : ¬ isw i 0 (nI mn - 1) = 0 := hg_6
    subst hg_5
    refine lv_if_eq (tgt := 28) hx hb d_MO_fee_5 (by decide) (fun h => absurd h (by decide)) (fun _ => ?_)
    refine lv_iload_n hx hb d_MO_fee_8 rfl (lv_at hl 2 rfl) ?_
    refine lv_iconst (v := 0) hx hb d_MO_fee_9 (by decide) ?_
    refine lv_bipush (v := 100) hx hb d_MO_fee_10 (by decide) ?_
    have hPc := hP.sub (ws' := []) [] rfl
    have hDc := hD.sub (ws' := []) [] (by decide +kernel) rfl
    refine vp_callSi (va_Run.run (va_runS (As := [.int u, .int 0, .int 100]) (rest := []) ⟨hx, hb, hml, hown, hts⟩ (e_MO_in l D cI cZ u 0 100 s.heap.size ) (my_cwS 3 hts q_789 q_787 q_788 q_8 rfl rfl (by decide +kernel) ⟨Nat.le_of_ble_eq_true rfl, Nat.le_of_ble_eq_true rfl⟩) (my_preS hPc hDc hK hN) rfl rfl hl.1 rfl (lv_room (Nat.le_of_ble_eq_true rfl)) d_MO_fee_12 ⟨Nat.le_of_ble_eq_true rfl, Nat.le_of_ble_eq_true rfl⟩)) (fun r_9 hw_9 => ?_)
    have hf_9_0 : r_9 = isw u 0 100 := hw_9
    have hf_9_0 : r_9 = isw u 0 100 := hf_9_0
    subst hf_9_0
    refine lv_if_eq (tgt := 28) hx hb d_MO_fee_15 (by decide) (fun h_10 => ?_) (fun h_10 => ?_)
    · refine lv_bipush (v := (-2)) hx hb d_MO_fee_28 (by decide) ?_
      have hP9 := hP.sub (ws' := [(y, .inr (7, [.int (nI mn), .int mtm, .int mgp, .int mlk, .ref y1, .ref y2, .ref y3, .ref y4, .int (nI mp), .ref y5, .ref y6, .ref y7, .ref y8, .ref y9, .ref y10, .ref y11, .ref y12, .ref y13, .ref y14, .ref y15, .int (nI mq), .ref y16, .ref y17, .ref y18, .ref y19, .ref y20, .ref y21, .ref y22, .ref y23, .ref y24, .ref y25, .ref y26, .ref y27, .int mhw, .int (nI mwn), .ref y28, .ref y29, .ref y30, .ref y31, .ref y32, .ref y33, .ref y34, .ref y35, .ref y36, .int (nI mbm), .ref y37, .ref y38, .int (nI mrm), .int mro, .int mrs])), (y3, .inl (cI, 7, .inl MB)), (y4, .inl (cI, 7, .inl MR))]) [0, 1, 2] rfl
      have hD9 := hD.sub (ws' := [(y, .inr (7, [.int (nI mn), .int mtm, .int mgp, .int mlk, .ref y1, .ref y2, .ref y3, .ref y4, .int (nI mp), .ref y5, .ref y6, .ref y7, .ref y8, .ref y9, .ref y10, .ref y11, .ref y12, .ref y13, .ref y14, .ref y15, .int (nI mq), .ref y16, .ref y17, .ref y18, .ref y19, .ref y20, .ref y21, .ref y22, .ref y23, .ref y24, .ref y25, .ref y26, .ref y27, .int mhw, .int (nI mwn), .ref y28, .ref y29, .ref y30, .ref y31, .ref y32, .ref y33, .ref y34, .ref y35, .ref y36, .int (nI mbm), .ref y37, .ref y38, .int (nI mrm), .int mro, .int mrs])), (y3, .inl (cI, 7, .inl MB)), (y4, .inl (cI, 7, .inl MR))]) [0, 1, 2] (by decide +kernel) rfl
      refine W.widen (k := 0) (n := 0) (Nat.le_of_ble_eq_true rfl) (Nat.le_of_ble_eq_true rfl) ?_
      exact W.iret (v := (-2)) hx hb hr (fun tT ht hW => ⟨⟨(-2), (MB, MR), rfl, (Or.inl (⟨(bf_2 h_10), rfl, rfl, rfl⟩)), by rw [ht]; exact hP9, hD9⟩, hS.F ht⟩) hS.2.2 d_MO_fee_30
    · refine lv_iload_n hx hb d_MO_fee_18 rfl (lv_at hl 3 rfl) ?_
      refine lv_iconst (v := 0) hx hb d_MO_fee_19 (by decide) ?_
      refine lv_bipush (v := 100) hx hb d_MO_fee_20 (by decide) ?_
      have hPc := hP.sub (ws' := []) [] rfl
      have hDc := hD.sub (ws' := []) [] (by decide +kernel) rfl
      refine vp_callSi (va_Run.run (va_runS (As := [.int v, .int 0, .int 100]) (rest := []) ⟨hx, hb, hml, hown, hts⟩ (e_MO_in l D cI cZ v 0 100 s.heap.size ) (my_cwS 3 hts q_789 q_787 q_788 q_8 rfl rfl (by decide +kernel) ⟨Nat.le_of_ble_eq_true rfl, Nat.le_of_ble_eq_true rfl⟩) (my_preS hPc hDc hK hN) rfl rfl hl.1 rfl (lv_room (Nat.le_of_ble_eq_true rfl)) d_MO_fee_22 ⟨Nat.le_of_ble_eq_true rfl, Nat.le_of_ble_eq_true rfl⟩)) (fun r_11 hw_11 => ?_)
      have hf_11_0 : r_11 = isw v 0 100 := hw_11
      have hf_11_0 : r_11 = isw v 0 100 := hf_11_0
      subst hf_11_0
      refine lv_if_ne (tgt := 31) hx hb d_MO_fee_25 (by decide) (fun h_12 => ?_) (fun h_12 => ?_)
      · refine lv_aload_n hx hb d_MO_fee_31 rfl (lv_at hl 0 rfl) ?_
        refine va_get (D := D) (ci := 7) (v := .ref y3) (C := R_MO) (T := F_MO) (N := 50) hx hb hts i_MO hown hK hP 0 rfl rfl 6 (by decide) (hts _ q_638) (fun _ h9 => h9) rfl d_MO_fee_32 ?_
        refine lv_iload_n hx hb d_MO_fee_35 rfl (lv_at hl 1 rfl) ?_
        refine lv_iload_n hx hb d_MO_fee_36 rfl (lv_at hl 2 rfl) ?_
        refine my_stI hx hb hK hP hD hS 1 rfl j_3 rfl (by omega) (by decide) d_MO_fee_37 (fun H_13 locs hP hD hS => ?_)
        have hP : va_P D vwCl [(y, .inr (7, [.int (nI mn), .int mtm, .int mgp, .int mlk, .ref y1, .ref y2, .ref y3, .ref y4, .int (nI mp), .ref y5, .ref y6, .ref y7, .ref y8, .ref y9, .ref y10, .ref y11, .ref y12, .ref y13, .ref y14, .ref y15, .int (nI mq), .ref y16, .ref y17, .ref y18, .ref y19, .ref y20, .ref y21, .ref y22, .ref y23, .ref y24, .ref y25, .ref y26, .ref y27, .int mhw, .int (nI mwn), .ref y28, .ref y29, .ref y30, .ref y31, .ref y32, .ref y33, .ref y34, .ref y35, .ref y36, .int (nI mbm), .ref y37, .ref y38, .int (nI mrm), .int mro, .int mrs])), (y3, .inl (cI, 7, .inl (upd MB j_3 u))), (y4, .inl (cI, 7, .inl MR))] H_13 := hP
        refine lv_aload_n hx hb d_MO_fee_38 rfl (lv_at hl 0 rfl) ?_
        refine va_get (D := D) (ci := 7) (v := .ref y4) (C := R_MO) (T := F_MO) (N := 50) hx hb hts i_MO hown hK hP 0 rfl rfl 7 (by decide) (hts _ q_639) (fun _ h9 => h9) rfl d_MO_fee_39 ?_
        refine lv_iload_n hx hb d_MO_fee_42 rfl (lv_at hl 1 rfl) ?_
        refine lv_iload_n hx hb d_MO_fee_43 rfl (lv_at hl 3 rfl) ?_
        refine my_stI hx hb hK hP hD hS 2 rfl j_3 rfl (by omega) (by decide) d_MO_fee_44 (fun H_14 locs hP hD hS => ?_)
        have hP : va_P D vwCl [(y, .inr (7, [.int (nI mn), .int mtm, .int mgp, .int mlk, .ref y1, .ref y2, .ref y3, .ref y4, .int (nI mp), .ref y5, .ref y6, .ref y7, .ref y8, .ref y9, .ref y10, .ref y11, .ref y12, .ref y13, .ref y14, .ref y15, .int (nI mq), .ref y16, .ref y17, .ref y18, .ref y19, .ref y20, .ref y21, .ref y22, .ref y23, .ref y24, .ref y25, .ref y26, .ref y27, .int mhw, .int (nI mwn), .ref y28, .ref y29, .ref y30, .ref y31, .ref y32, .ref y33, .ref y34, .ref y35, .ref y36, .int (nI mbm), .ref y37, .ref y38, .int (nI mrm), .int mro, .int mrs])), (y3, .inl (cI, 7, .inl (upd MB j_3 u))), (y4, .inl (cI, 7, .inl (upd MR j_3 v)))] H_14 := hP
        refine lv_iconst (v := 1) hx hb d_MO_fee_45 (by decide) ?_
        have hP9 := hP.sub (ws' := [(y, .inr (7, [.int (nI mn), .int mtm, .int mgp, .int mlk, .ref y1, .ref y2, .ref y3, .ref y4, .int (nI mp), .ref y5, .ref y6, .ref y7, .ref y8, .ref y9, .ref y10, .ref y11, .ref y12, .ref y13, .ref y14, .ref y15, .int (nI mq), .ref y16, .ref y17, .ref y18, .ref y19, .ref y20, .ref y21, .ref y22, .ref y23, .ref y24, .ref y25, .ref y26, .ref y27, .int mhw, .int (nI mwn), .ref y28, .ref y29, .ref y30, .ref y31, .ref y32, .ref y33, .ref y34, .ref y35, .ref y36, .int (nI mbm), .ref y37, .ref y38, .int (nI mrm), .int mro, .int mrs])), (y3, .inl (cI, 7, .inl (upd MB j_3 u))), (y4, .inl (cI, 7, .inl (upd MR j_3 v)))]) [0, 1, 2] rfl
        have hD9 := hD.sub (ws' := [(y, .inr (7, [.int (nI mn), .int mtm, .int mgp, .int mlk, .ref y1, .ref y2, .ref y3, .ref y4, .int (nI mp), .ref y5, .ref y6, .ref y7, .ref y8, .ref y9, .ref y10, .ref y11, .ref y12, .ref y13, .ref y14, .ref y15, .int (nI mq), .ref y16, .ref y17, .ref y18, .ref y19, .ref y20, .ref y21, .ref y22, .ref y23, .ref y24, .ref y25, .ref y26, .ref y27, .int mhw, .int (nI mwn), .ref y28, .ref y29, .ref y30, .ref y31, .ref y32, .ref y33, .ref y34, .ref y35, .ref y36, .int (nI mbm), .ref y37, .ref y38, .int (nI mrm), .int mro, .int mrs])), (y3, .inl (cI, 7, .inl (upd MB j_3 u))), (y4, .inl (cI, 7, .inl (upd MR j_3 v)))]) [0, 1, 2] (by decide +kernel) rfl
        refine W.widen (k := 0) (n := 0) (Nat.le_of_ble_eq_true rfl) (Nat.le_of_ble_eq_true rfl) ?_
        exact W.iret (v := 1) hx hb hr (fun tT ht hW => ⟨⟨1, ((upd MB j_3 u), (upd MR j_3 v)), rfl, (Or.inr (⟨j_3, (bf_n hg_6 h_10 h_12), hg_5, hg_4, rfl, rfl, rfl⟩)), by rw [ht]; exact hP9, hD9⟩, hS.F ht⟩) hS.2.2 d_MO_fee_46
      · refine lv_bipush (v := (-2)) hx hb d_MO_fee_28 (by decide) ?_
        have hP9 := hP.sub (ws' := [(y, .inr (7, [.int (nI mn), .int mtm, .int mgp, .int mlk, .ref y1, .ref y2, .ref y3, .ref y4, .int (nI mp), .ref y5, .ref y6, .ref y7, .ref y8, .ref y9, .ref y10, .ref y11, .ref y12, .ref y13, .ref y14, .ref y15, .int (nI mq), .ref y16, .ref y17, .ref y18, .ref y19, .ref y20, .ref y21, .ref y22, .ref y23, .ref y24, .ref y25, .ref y26, .ref y27, .int mhw, .int (nI mwn), .ref y28, .ref y29, .ref y30, .ref y31, .ref y32, .ref y33, .ref y34, .ref y35, .ref y36, .int (nI mbm), .ref y37, .ref y38, .int (nI mrm), .int mro, .int mrs])), (y3, .inl (cI, 7, .inl MB)), (y4, .inl (cI, 7, .inl MR))]) [0, 1, 2] rfl
        have hD9 := hD.sub (ws' := [(y, .inr (7, [.int (nI mn), .int mtm, .int mgp, .int mlk, .ref y1, .ref y2, .ref y3, .ref y4, .int (nI mp), .ref y5, .ref y6, .ref y7, .ref y8, .ref y9, .ref y10, .ref y11, .ref y12, .ref y13, .ref y14, .ref y15, .int (nI mq), .ref y16, .ref y17, .ref y18, .ref y19, .ref y20, .ref y21, .ref y22, .ref y23, .ref y24, .ref y25, .ref y26, .ref y27, .int mhw, .int (nI mwn), .ref y28, .ref y29, .ref y30, .ref y31, .ref y32, .ref y33, .ref y34, .ref y35, .ref y36, .int (nI mbm), .ref y37, .ref y38, .int (nI mrm), .int mro, .int mrs])), (y3, .inl (cI, 7, .inl MB)), (y4, .inl (cI, 7, .inl MR))]) [0, 1, 2] (by decide +kernel) rfl
        refine W.widen (k := 0) (n := 0) (Nat.le_of_ble_eq_true rfl) (Nat.le_of_ble_eq_true rfl) ?_
        exact W.iret (v := (-2)) hx hb hr (fun tT ht hW => ⟨⟨(-2), (MB, MR), rfl, (Or.inl (⟨(bf_3 h_12), rfl, rfl, rfl⟩)), by rw [ht]; exact hP9, hD9⟩, hS.F ht⟩) hS.2.2 d_MO_fee_30

set_option maxHeartbeats 4000000 in
set_option maxRecDepth 100000 in
theorem e_MO_gap (l : Launch) (D : va_G) (cI cZ : ClassId) (y : Nat) (v : Int32) (mn : Nat) (mtm : Int32) (mgp : Int32) (mlk : Int32) (y1 : Nat) (y2 : Nat) (y3 : Nat) (y4 : Nat) (mp : Nat) (y5 : Nat) (y6 : Nat) (y7 : Nat) (y8 : Nat) (y9 : Nat) (y10 : Nat) (y11 : Nat) (y12 : Nat) (y13 : Nat) (y14 : Nat) (y15 : Nat) (mq : Nat) (y16 : Nat) (y17 : Nat) (y18 : Nat) (y19 : Nat) (y20 : Nat) (y21 : Nat) (y22 : Nat) (y23 : Nat) (y24 : Nat) (y25 : Nat) (y26 : Nat) (y27 : Nat) (mhw : Int32) (mwn : Nat) (y28 : Nat) (y29 : Nat) (y30 : Nat) (y31 : Nat) (y32 : Nat) (y33 : Nat) (y34 : Nat) (y35 : Nat) (y36 : Nat) (mbm : Nat) (y37 : Nat) (y38 : Nat) (mrm : Nat) (mro : Int32) (mrs : Int32) (sz : Nat) (h_mn : mn ≤ 7) (h_mp : mp ≤ 12) (h_mq : mq ≤ 40) (h_mwn : mwn ≤ 8) (h_mbm : mbm ≤ 8) (h_mrm : mrm ≤ 8) : Met l ⟨"PromiseChainsModel", "gap", "(I)I"⟩ (mw ⟨"PromiseChainsModel", "gap", "(I)I"⟩ prog_9_method_11_code 3 (some .int)) ({ frames := 1, cells := 0, slots := 0, locals := 22 }) (va_Pc [.ref y, .int v] (PB D cI cZ sz [(y, .inr (7, [.int (nI mn), .int mtm, .int mgp, .int mlk, .ref y1, .ref y2, .ref y3, .ref y4, .int (nI mp), .ref y5, .ref y6, .ref y7, .ref y8, .ref y9, .ref y10, .ref y11, .ref y12, .ref y13, .ref y14, .ref y15, .int (nI mq), .ref y16, .ref y17, .ref y18, .ref y19, .ref y20, .ref y21, .ref y22, .ref y23, .ref y24, .ref y25, .ref y26, .ref y27, .int mhw, .int (nI mwn), .ref y28, .ref y29, .ref y30, .ref y31, .ref y32, .ref y33, .ref y34, .ref y35, .ref y36, .int (nI mbm), .ref y37, .ref y38, .int (nI mrm), .int mro, .int mrs]))])) (va_Qi (S := Int32) (fun (r : Int32) uU => (r = gp_set mgp v) ∧ (uU = gsv mgp v)) (fun uU tT => BB D (va_A [(y, .inr (7, [.int (nI mn), .int mtm, .int mgp, .int mlk, .ref y1, .ref y2, .ref y3, .ref y4, .int (nI mp), .ref y5, .ref y6, .ref y7, .ref y8, .ref y9, .ref y10, .ref y11, .ref y12, .ref y13, .ref y14, .ref y15, .int (nI mq), .ref y16, .ref y17, .ref y18, .ref y19, .ref y20, .ref y21, .ref y22, .ref y23, .ref y24, .ref y25, .ref y26, .ref y27, .int mhw, .int (nI mwn), .ref y28, .ref y29, .ref y30, .ref y31, .ref y32, .ref y33, .ref y34, .ref y35, .ref y36, .int (nI mbm), .ref y37, .ref y38, .int (nI mrm), .int mro, .int mrs]))] sz) [(y, .inr (7, [.int (nI mn), .int mtm, .int (uU), .int mlk, .ref y1, .ref y2, .ref y3, .ref y4, .int (nI mp), .ref y5, .ref y6, .ref y7, .ref y8, .ref y9, .ref y10, .ref y11, .ref y12, .ref y13, .ref y14, .ref y15, .int (nI mq), .ref y16, .ref y17, .ref y18, .ref y19, .ref y20, .ref y21, .ref y22, .ref y23, .ref y24, .ref y25, .ref y26, .ref y27, .int mhw, .int (nI mwn), .ref y28, .ref y29, .ref y30, .ref y31, .ref y32, .ref y33, .ref y34, .ref y35, .ref y36, .int (nI mbm), .ref y37, .ref y38, .int (nI mrm), .int mro, .int mrs]))] tT) (va_A [(y, .inr (7, [.int (nI mn), .int mtm, .int mgp, .int mlk, .ref y1, .ref y2, .ref y3, .ref y4, .int (nI mp), .ref y5, .ref y6, .ref y7, .ref y8, .ref y9, .ref y10, .ref y11, .ref y12, .ref y13, .ref y14, .ref y15, .int (nI mq), .ref y16, .ref y17, .ref y18, .ref y19, .ref y20, .ref y21, .ref y22, .ref y23, .ref y24, .ref y25, .ref y26, .ref y27, .int mhw, .int (nI mwn), .ref y28, .ref y29, .ref y30, .ref y31, .ref y32, .ref y33, .ref y34, .ref y35, .ref y36, .int (nI mbm), .ref y37, .ref y38, .int (nI mrm), .int mro, .int mrs]))] sz)) 0 0 (va_A [(y, .inr (7, [.int (nI mn), .int mtm, .int mgp, .int mlk, .ref y1, .ref y2, .ref y3, .ref y4, .int (nI mp), .ref y5, .ref y6, .ref y7, .ref y8, .ref y9, .ref y10, .ref y11, .ref y12, .ref y13, .ref y14, .ref y15, .int (nI mq), .ref y16, .ref y17, .ref y18, .ref y19, .ref y20, .ref y21, .ref y22, .ref y23, .ref y24, .ref y25, .ref y26, .ref y27, .int mhw, .int (nI mwn), .ref y28, .ref y29, .ref y30, .ref y31, .ref y32, .ref y33, .ref y34, .ref y35, .ref y36, .int (nI mbm), .ref y37, .ref y38, .int (nI mrm), .int mro, .int mrs]))] sz) := by
  refine Met.ofW (cc := prog_9_method_11_code) (maxL := 3) (ret := (some .int)) (by decide) rfl ?_
  intro p e s m args below meth c s₁ B hml hv
  obtain ⟨rfl, hsz, hP, hK, hD0, hN⟩ := hv
  have hx := B.exec
  have hb := B.bytes
  have hr := B.returns
  have hts0 := atoms_spec (ws := mw ⟨"PromiseChainsModel", "gap", "(I)I"⟩ prog_9_method_11_code 3 (some .int)) B.pre
  have hts : ∀ w ∈ tblG, w.before _ s = true := fun w h => hts0 w (List.mem_cons_of_mem _ h)
  have hown : s.vm.findClass "PromiseChainsModel" = some m.cls := findClass_of_methodNamed B.named
  have hlocks := B.notSynchronized
  subst hsz
  have hD := hD0.self (sz := s.heap.size)
  generalize hAe : va_A [(y, .inr (7, [.int (nI mn), .int mtm, .int mgp, .int mlk, .ref y1, .ref y2, .ref y3, .ref y4, .int (nI mp), .ref y5, .ref y6, .ref y7, .ref y8, .ref y9, .ref y10, .ref y11, .ref y12, .ref y13, .ref y14, .ref y15, .int (nI mq), .ref y16, .ref y17, .ref y18, .ref y19, .ref y20, .ref y21, .ref y22, .ref y23, .ref y24, .ref y25, .ref y26, .ref y27, .int mhw, .int (nI mwn), .ref y28, .ref y29, .ref y30, .ref y31, .ref y32, .ref y33, .ref y34, .ref y35, .ref y36, .int (nI mbm), .ref y37, .ref y38, .int (nI mrm), .int mro, .int mrs]))] s.heap.size = A at hD ⊢
  have hA : ∀ q : Nat, s.heap.size ≤ q → A q := fun q h => by rw [← hAe]; exact Or.inr h
  have hS : va_S A s.heap s.heap [] := va_S.rf
  have hP : va_P D vwCl [(y, .inr (7, [.int (nI mn), .int mtm, .int mgp, .int mlk, .ref y1, .ref y2, .ref y3, .ref y4, .int (nI mp), .ref y5, .ref y6, .ref y7, .ref y8, .ref y9, .ref y10, .ref y11, .ref y12, .ref y13, .ref y14, .ref y15, .int (nI mq), .ref y16, .ref y17, .ref y18, .ref y19, .ref y20, .ref y21, .ref y22, .ref y23, .ref y24, .ref y25, .ref y26, .ref y27, .int mhw, .int (nI mwn), .ref y28, .ref y29, .ref y30, .ref y31, .ref y32, .ref y33, .ref y34, .ref y35, .ref y36, .int (nI mbm), .ref y37, .ref y38, .int (nI mrm), .int mro, .int mrs]))] s.heap := hP
  have hl := lv_entry ([.ref y, .int v]) (n := 3) (Nat.le_of_ble_eq_true rfl)
  rw [lg_entry_eq]
  generalize (lg_sl ([.ref y, .int v]) ++ List.replicate (3 - (lg_sl ([.ref y, .int v])).length) Slot.unset).toArray = ls at hl ⊢
  have hl : lv_has ls 3 [(0, .ref y), (1, .int v)] := hl
  refine lv_iload_n hx hb d_MO_gap_0 rfl (lv_at hl 1 rfl) ?_
  refine lv_iconst (v := 1) hx hb d_MO_gap_1 (by decide) ?_
  refine lv_bipush (v := 50) hx hb d_MO_gap_2 (by decide) ?_
  have hPc := hP.sub (ws' := []) [] rfl
  have hDc := hD.sub (ws' := []) [] (by decide +kernel) rfl
  refine vp_callSi (va_Run.run (va_runS (As := [.int v, .int 1, .int 50]) (rest := []) ⟨hx, hb, hml, hown, hts⟩ (e_MO_in l D cI cZ v 1 50 s.heap.size ) (my_cwS 3 hts q_789 q_787 q_788 q_8 rfl rfl (by decide +kernel) ⟨Nat.le_of_ble_eq_true rfl, Nat.le_of_ble_eq_true rfl⟩) (my_preS hPc hDc hK hN) rfl rfl hl.1 rfl (lv_room (Nat.le_of_ble_eq_true rfl)) d_MO_gap_4 ⟨Nat.le_of_ble_eq_true rfl, Nat.le_of_ble_eq_true rfl⟩)) (fun r_1 hw_1 => ?_)
  have hf_1_0 : r_1 = isw v 1 50 := hw_1
  have hf_1_0 : r_1 = isw v 1 50 := hf_1_0
  subst hf_1_0
  refine lv_if_ne (tgt := 13) hx hb d_MO_gap_7 (by decide) (fun h_2 => ?_) (fun h_2 => ?_)
  · refine lv_aload_n hx hb d_MO_gap_13 rfl (lv_at hl 0 rfl) ?_
    refine va_get (D := D) (ci := 7) (v := .int mgp) (C := R_MO) (T := F_MO) (N := 50) hx hb hts i_MO hown hK hP 0 rfl rfl 2 (by decide) (hts _ q_634) (fun _ h9 => h9) rfl d_MO_gap_14 ?_
    refine lv_istore_n (lv' := [(2, .int mgp), (0, .ref y), (1, .int v)]) hx hb d_MO_gap_17 rfl hl (by decide) rfl (fun ls hl => ?_)
    refine lv_aload_n hx hb d_MO_gap_18 rfl (lv_at hl 1 rfl) ?_
    refine lv_iload_n hx hb d_MO_gap_19 rfl (lv_at hl 2 rfl) ?_
    refine va_put (D := D) (ci := 7) (v := .int v) (ty := .int) (C := R_MO) (T := F_MO) (N := 50) hx hb hts i_MO t_MO t_MO_ok n_MO hown hK hP hD hS 0 rfl rfl 2 (by decide) (hts _ q_634) (fun _ h9 => h9) rfl (by decide +kernel) rfl rfl (Nat.le_of_ble_eq_true rfl) d_MO_gap_20 (fun H_3 locs hP hD hS => ?_)
    have hP : va_P D vwCl [(y, .inr (7, [.int (nI mn), .int mtm, .int v, .int mlk, .ref y1, .ref y2, .ref y3, .ref y4, .int (nI mp), .ref y5, .ref y6, .ref y7, .ref y8, .ref y9, .ref y10, .ref y11, .ref y12, .ref y13, .ref y14, .ref y15, .int (nI mq), .ref y16, .ref y17, .ref y18, .ref y19, .ref y20, .ref y21, .ref y22, .ref y23, .ref y24, .ref y25, .ref y26, .ref y27, .int mhw, .int (nI mwn), .ref y28, .ref y29, .ref y30, .ref y31, .ref y32, .ref y33, .ref y34, .ref y35, .ref y36, .int (nI mbm), .ref y37, .ref y38, .int (nI mrm), .int mro, .int mrs]))] H_3 := hP
    refine lv_iload_n hx hb d_MO_gap_23 rfl (lv_at hl 0 rfl) ?_
    have hP9 := hP.sub (ws' := [(y, .inr (7, [.int (nI mn), .int mtm, .int v, .int mlk, .ref y1, .ref y2, .ref y3, .ref y4, .int (nI mp), .ref y5, .ref y6, .ref y7, .ref y8, .ref y9, .ref y10, .ref y11, .ref y12, .ref y13, .ref y14, .ref y15, .int (nI mq), .ref y16, .ref y17, .ref y18, .ref y19, .ref y20, .ref y21, .ref y22, .ref y23, .ref y24, .ref y25, .ref y26, .ref y27, .int mhw, .int (nI mwn), .ref y28, .ref y29, .ref y30, .ref y31, .ref y32, .ref y33, .ref y34, .ref y35, .ref y36, .int (nI mbm), .ref y37, .ref y38, .int (nI mrm), .int mro, .int mrs]))]) [0] rfl
    have hD9 := hD.sub (ws' := [(y, .inr (7, [.int (nI mn), .int mtm, .int v, .int mlk, .ref y1, .ref y2, .ref y3, .ref y4, .int (nI mp), .ref y5, .ref y6, .ref y7, .ref y8, .ref y9, .ref y10, .ref y11, .ref y12, .ref y13, .ref y14, .ref y15, .int (nI mq), .ref y16, .ref y17, .ref y18, .ref y19, .ref y20, .ref y21, .ref y22, .ref y23, .ref y24, .ref y25, .ref y26, .ref y27, .int mhw, .int (nI mwn), .ref y28, .ref y29, .ref y30, .ref y31, .ref y32, .ref y33, .ref y34, .ref y35, .ref y36, .int (nI mbm), .ref y37, .ref y38, .int (nI mrm), .int mro, .int mrs]))]) [0] (by decide +kernel) rfl
    refine W.widen (k := 0) (n := 0) (Nat.le_of_ble_eq_true rfl) (Nat.le_of_ble_eq_true rfl) ?_
    exact W.iret (v := mgp) hx hb hr (fun tT ht hW => ⟨⟨mgp, v, rfl, ⟨(by simp [gp_set, h_2]), (by simp [gsv, h_2])⟩, by rw [ht]; exact hP9, hD9⟩, hS.F ht⟩) hS.2.2 d_MO_gap_24
  · refine lv_bipush (v := (-2)) hx hb d_MO_gap_10 (by decide) ?_
    have hP9 := hP.sub (ws' := [(y, .inr (7, [.int (nI mn), .int mtm, .int mgp, .int mlk, .ref y1, .ref y2, .ref y3, .ref y4, .int (nI mp), .ref y5, .ref y6, .ref y7, .ref y8, .ref y9, .ref y10, .ref y11, .ref y12, .ref y13, .ref y14, .ref y15, .int (nI mq), .ref y16, .ref y17, .ref y18, .ref y19, .ref y20, .ref y21, .ref y22, .ref y23, .ref y24, .ref y25, .ref y26, .ref y27, .int mhw, .int (nI mwn), .ref y28, .ref y29, .ref y30, .ref y31, .ref y32, .ref y33, .ref y34, .ref y35, .ref y36, .int (nI mbm), .ref y37, .ref y38, .int (nI mrm), .int mro, .int mrs]))]) [0] rfl
    have hD9 := hD.sub (ws' := [(y, .inr (7, [.int (nI mn), .int mtm, .int mgp, .int mlk, .ref y1, .ref y2, .ref y3, .ref y4, .int (nI mp), .ref y5, .ref y6, .ref y7, .ref y8, .ref y9, .ref y10, .ref y11, .ref y12, .ref y13, .ref y14, .ref y15, .int (nI mq), .ref y16, .ref y17, .ref y18, .ref y19, .ref y20, .ref y21, .ref y22, .ref y23, .ref y24, .ref y25, .ref y26, .ref y27, .int mhw, .int (nI mwn), .ref y28, .ref y29, .ref y30, .ref y31, .ref y32, .ref y33, .ref y34, .ref y35, .ref y36, .int (nI mbm), .ref y37, .ref y38, .int (nI mrm), .int mro, .int mrs]))]) [0] (by decide +kernel) rfl
    refine W.widen (k := 0) (n := 0) (Nat.le_of_ble_eq_true rfl) (Nat.le_of_ble_eq_true rfl) ?_
    exact W.iret (v := (-2)) hx hb hr (fun tT ht hW => ⟨⟨(-2), mgp, rfl, ⟨(by simp [gp_set, h_2]), (by simp [gsv, h_2])⟩, by rw [ht]; exact hP9, hD9⟩, hS.F ht⟩) hS.2.2 d_MO_gap_12

set_option maxHeartbeats 4000000 in
set_option maxRecDepth 100000 in
theorem e_MO_look (l : Launch) (D : va_G) (cI cZ : ClassId) (y : Nat) (v : Int32) (mn : Nat) (mtm : Int32) (mgp : Int32) (mlk : Int32) (y1 : Nat) (y2 : Nat) (y3 : Nat) (y4 : Nat) (mp : Nat) (y5 : Nat) (y6 : Nat) (y7 : Nat) (y8 : Nat) (y9 : Nat) (y10 : Nat) (y11 : Nat) (y12 : Nat) (y13 : Nat) (y14 : Nat) (y15 : Nat) (mq : Nat) (y16 : Nat) (y17 : Nat) (y18 : Nat) (y19 : Nat) (y20 : Nat) (y21 : Nat) (y22 : Nat) (y23 : Nat) (y24 : Nat) (y25 : Nat) (y26 : Nat) (y27 : Nat) (mhw : Int32) (mwn : Nat) (y28 : Nat) (y29 : Nat) (y30 : Nat) (y31 : Nat) (y32 : Nat) (y33 : Nat) (y34 : Nat) (y35 : Nat) (y36 : Nat) (mbm : Nat) (y37 : Nat) (y38 : Nat) (mrm : Nat) (mro : Int32) (mrs : Int32) (sz : Nat) (h_mn : mn ≤ 7) (h_mp : mp ≤ 12) (h_mq : mq ≤ 40) (h_mwn : mwn ≤ 8) (h_mbm : mbm ≤ 8) (h_mrm : mrm ≤ 8) : Met l ⟨"PromiseChainsModel", "look", "(I)I"⟩ (mw ⟨"PromiseChainsModel", "look", "(I)I"⟩ prog_9_method_12_code 3 (some .int)) ({ frames := 1, cells := 0, slots := 0, locals := 22 }) (va_Pc [.ref y, .int v] (PB D cI cZ sz [(y, .inr (7, [.int (nI mn), .int mtm, .int mgp, .int mlk, .ref y1, .ref y2, .ref y3, .ref y4, .int (nI mp), .ref y5, .ref y6, .ref y7, .ref y8, .ref y9, .ref y10, .ref y11, .ref y12, .ref y13, .ref y14, .ref y15, .int (nI mq), .ref y16, .ref y17, .ref y18, .ref y19, .ref y20, .ref y21, .ref y22, .ref y23, .ref y24, .ref y25, .ref y26, .ref y27, .int mhw, .int (nI mwn), .ref y28, .ref y29, .ref y30, .ref y31, .ref y32, .ref y33, .ref y34, .ref y35, .ref y36, .int (nI mbm), .ref y37, .ref y38, .int (nI mrm), .int mro, .int mrs]))])) (va_Qi (S := Int32) (fun (r : Int32) uU => (r = gp_set mlk v) ∧ (uU = gsv mlk v)) (fun uU tT => BB D (va_A [(y, .inr (7, [.int (nI mn), .int mtm, .int mgp, .int mlk, .ref y1, .ref y2, .ref y3, .ref y4, .int (nI mp), .ref y5, .ref y6, .ref y7, .ref y8, .ref y9, .ref y10, .ref y11, .ref y12, .ref y13, .ref y14, .ref y15, .int (nI mq), .ref y16, .ref y17, .ref y18, .ref y19, .ref y20, .ref y21, .ref y22, .ref y23, .ref y24, .ref y25, .ref y26, .ref y27, .int mhw, .int (nI mwn), .ref y28, .ref y29, .ref y30, .ref y31, .ref y32, .ref y33, .ref y34, .ref y35, .ref y36, .int (nI mbm), .ref y37, .ref y38, .int (nI mrm), .int mro, .int mrs]))] sz) [(y, .inr (7, [.int (nI mn), .int mtm, .int mgp, .int (uU), .ref y1, .ref y2, .ref y3, .ref y4, .int (nI mp), .ref y5, .ref y6, .ref y7, .ref y8, .ref y9, .ref y10, .ref y11, .ref y12, .ref y13, .ref y14, .ref y15, .int (nI mq), .ref y16, .ref y17, .ref y18, .ref y19, .ref y20, .ref y21, .ref y22, .ref y23, .ref y24, .ref y25, .ref y26, .ref y27, .int mhw, .int (nI mwn), .ref y28, .ref y29, .ref y30, .ref y31, .ref y32, .ref y33, .ref y34, .ref y35, .ref y36, .int (nI mbm), .ref y37, .ref y38, .int (nI mrm), .int mro, .int mrs]))] tT) (va_A [(y, .inr (7, [.int (nI mn), .int mtm, .int mgp, .int mlk, .ref y1, .ref y2, .ref y3, .ref y4, .int (nI mp), .ref y5, .ref y6, .ref y7, .ref y8, .ref y9, .ref y10, .ref y11, .ref y12, .ref y13, .ref y14, .ref y15, .int (nI mq), .ref y16, .ref y17, .ref y18, .ref y19, .ref y20, .ref y21, .ref y22, .ref y23, .ref y24, .ref y25, .ref y26, .ref y27, .int mhw, .int (nI mwn), .ref y28, .ref y29, .ref y30, .ref y31, .ref y32, .ref y33, .ref y34, .ref y35, .ref y36, .int (nI mbm), .ref y37, .ref y38, .int (nI mrm), .int mro, .int mrs]))] sz)) 0 0 (va_A [(y, .inr (7, [.int (nI mn), .int mtm, .int mgp, .int mlk, .ref y1, .ref y2, .ref y3, .ref y4, .int (nI mp), .ref y5, .ref y6, .ref y7, .ref y8, .ref y9, .ref y10, .ref y11, .ref y12, .ref y13, .ref y14, .ref y15, .int (nI mq), .ref y16, .ref y17, .ref y18, .ref y19, .ref y20, .ref y21, .ref y22, .ref y23, .ref y24, .ref y25, .ref y26, .ref y27, .int mhw, .int (nI mwn), .ref y28, .ref y29, .ref y30, .ref y31, .ref y32, .ref y33, .ref y34, .ref y35, .ref y36, .int (nI mbm), .ref y37, .ref y38, .int (nI mrm), .int mro, .int mrs]))] sz) := by
  refine Met.ofW (cc := prog_9_method_12_code) (maxL := 3) (ret := (some .int)) (by decide) rfl ?_
  intro p e s m args below meth c s₁ B hml hv
  obtain ⟨rfl, hsz, hP, hK, hD0, hN⟩ := hv
  have hx := B.exec
  have hb := B.bytes
  have hr := B.returns
  have hts0 := atoms_spec (ws := mw ⟨"PromiseChainsModel", "look", "(I)I"⟩ prog_9_method_12_code 3 (some .int)) B.pre
  have hts : ∀ w ∈ tblG, w.before _ s = true := fun w h => hts0 w (List.mem_cons_of_mem _ h)
  have hown : s.vm.findClass "PromiseChainsModel" = some m.cls := findClass_of_methodNamed B.named
  have hlocks := B.notSynchronized
  subst hsz
  have hD := hD0.self (sz := s.heap.size)
  generalize hAe : va_A [(y, .inr (7, [.int (nI mn), .int mtm, .int mgp, .int mlk, .ref y1, .ref y2, .ref y3, .ref y4, .int (nI mp), .ref y5, .ref y6, .ref y7, .ref y8, .ref y9, .ref y10, .ref y11, .ref y12, .ref y13, .ref y14, .ref y15, .int (nI mq), .ref y16, .ref y17, .ref y18, .ref y19, .ref y20, .ref y21, .ref y22, .ref y23, .ref y24, .ref y25, .ref y26, .ref y27, .int mhw, .int (nI mwn), .ref y28, .ref y29, .ref y30, .ref y31, .ref y32, .ref y33, .ref y34, .ref y35, .ref y36, .int (nI mbm), .ref y37, .ref y38, .int (nI mrm), .int mro, .int mrs]))] s.heap.size = A at hD ⊢
  have hA : ∀ q : Nat, s.heap.size ≤ q → A q := fun q h => by rw [← hAe]; exact Or.inr h
  have hS : va_S A s.heap s.heap [] := va_S.rf
  have hP : va_P D vwCl [(y, .inr (7, [.int (nI mn), .int mtm, .int mgp, .int mlk, .ref y1, .ref y2, .ref y3, .ref y4, .int (nI mp), .ref y5, .ref y6, .ref y7, .ref y8, .ref y9, .ref y10, .ref y11, .ref y12, .ref y13, .ref y14, .ref y15, .int (nI mq), .ref y16, .ref y17, .ref y18, .ref y19, .ref y20, .ref y21, .ref y22, .ref y23, .ref y24, .ref y25, .ref y26, .ref y27, .int mhw, .int (nI mwn), .ref y28, .ref y29, .ref y30, .ref y31, .ref y32, .ref y33, .ref y34, .ref y35, .ref y36, .int (nI mbm), .ref y37, .ref y38, .int (nI mrm), .int mro, .int mrs]))] s.heap := hP
  have hl := lv_entry ([.ref y, .int v]) (n := 3) (Nat.le_of_ble_eq_true rfl)
  rw [lg_entry_eq]
  generalize (lg_sl ([.ref y, .int v]) ++ List.replicate (3 - (lg_sl ([.ref y, .int v])).length) Slot.unset).toArray = ls at hl ⊢
  have hl : lv_has ls 3 [(0, .ref y), (1, .int v)] := hl
  refine lv_iload_n hx hb d_MO_look_0 rfl (lv_at hl 1 rfl) ?_
  refine lv_iconst (v := 1) hx hb d_MO_look_1 (by decide) ?_
  refine lv_bipush (v := 50) hx hb d_MO_look_2 (by decide) ?_
  have hPc := hP.sub (ws' := []) [] rfl
  have hDc := hD.sub (ws' := []) [] (by decide +kernel) rfl
  refine vp_callSi (va_Run.run (va_runS (As := [.int v, .int 1, .int 50]) (rest := []) ⟨hx, hb, hml, hown, hts⟩ (e_MO_in l D cI cZ v 1 50 s.heap.size ) (my_cwS 3 hts q_789 q_787 q_788 q_8 rfl rfl (by decide +kernel) ⟨Nat.le_of_ble_eq_true rfl, Nat.le_of_ble_eq_true rfl⟩) (my_preS hPc hDc hK hN) rfl rfl hl.1 rfl (lv_room (Nat.le_of_ble_eq_true rfl)) d_MO_look_4 ⟨Nat.le_of_ble_eq_true rfl, Nat.le_of_ble_eq_true rfl⟩)) (fun r_1 hw_1 => ?_)
  have hf_1_0 : r_1 = isw v 1 50 := hw_1
  have hf_1_0 : r_1 = isw v 1 50 := hf_1_0
  subst hf_1_0
  refine lv_if_ne (tgt := 13) hx hb d_MO_look_7 (by decide) (fun h_2 => ?_) (fun h_2 => ?_)
  · refine lv_aload_n hx hb d_MO_look_13 rfl (lv_at hl 0 rfl) ?_
    refine va_get (D := D) (ci := 7) (v := .int mlk) (C := R_MO) (T := F_MO) (N := 50) hx hb hts i_MO hown hK hP 0 rfl rfl 3 (by decide) (hts _ q_635) (fun _ h9 => h9) rfl d_MO_look_14 ?_
    refine lv_istore_n (lv' := [(2, .int mlk), (0, .ref y), (1, .int v)]) hx hb d_MO_look_17 rfl hl (by decide) rfl (fun ls hl => ?_)
    refine lv_aload_n hx hb d_MO_look_18 rfl (lv_at hl 1 rfl) ?_
    refine lv_iload_n hx hb d_MO_look_19 rfl (lv_at hl 2 rfl) ?_
    refine va_put (D := D) (ci := 7) (v := .int v) (ty := .int) (C := R_MO) (T := F_MO) (N := 50) hx hb hts i_MO t_MO t_MO_ok n_MO hown hK hP hD hS 0 rfl rfl 3 (by decide) (hts _ q_635) (fun _ h9 => h9) rfl (by decide +kernel) rfl rfl (Nat.le_of_ble_eq_true rfl) d_MO_look_20 (fun H_3 locs hP hD hS => ?_)
    have hP : va_P D vwCl [(y, .inr (7, [.int (nI mn), .int mtm, .int mgp, .int v, .ref y1, .ref y2, .ref y3, .ref y4, .int (nI mp), .ref y5, .ref y6, .ref y7, .ref y8, .ref y9, .ref y10, .ref y11, .ref y12, .ref y13, .ref y14, .ref y15, .int (nI mq), .ref y16, .ref y17, .ref y18, .ref y19, .ref y20, .ref y21, .ref y22, .ref y23, .ref y24, .ref y25, .ref y26, .ref y27, .int mhw, .int (nI mwn), .ref y28, .ref y29, .ref y30, .ref y31, .ref y32, .ref y33, .ref y34, .ref y35, .ref y36, .int (nI mbm), .ref y37, .ref y38, .int (nI mrm), .int mro, .int mrs]))] H_3 := hP
    refine lv_iload_n hx hb d_MO_look_23 rfl (lv_at hl 0 rfl) ?_
    have hP9 := hP.sub (ws' := [(y, .inr (7, [.int (nI mn), .int mtm, .int mgp, .int v, .ref y1, .ref y2, .ref y3, .ref y4, .int (nI mp), .ref y5, .ref y6, .ref y7, .ref y8, .ref y9, .ref y10, .ref y11, .ref y12, .ref y13, .ref y14, .ref y15, .int (nI mq), .ref y16, .ref y17, .ref y18, .ref y19, .ref y20, .ref y21, .ref y22, .ref y23, .ref y24, .ref y25, .ref y26, .ref y27, .int mhw, .int (nI mwn), .ref y28, .ref y29, .ref y30, .ref y31, .ref y32, .ref y33, .ref y34, .ref y35, .ref y36, .int (nI mbm), .ref y37, .ref y38, .int (nI mrm), .int mro, .int mrs]))]) [0] rfl
    have hD9 := hD.sub (ws' := [(y, .inr (7, [.int (nI mn), .int mtm, .int mgp, .int v, .ref y1, .ref y2, .ref y3, .ref y4, .int (nI mp), .ref y5, .ref y6, .ref y7, .ref y8, .ref y9, .ref y10, .ref y11, .ref y12, .ref y13, .ref y14, .ref y15, .int (nI mq), .ref y16, .ref y17, .ref y18, .ref y19, .ref y20, .ref y21, .ref y22, .ref y23, .ref y24, .ref y25, .ref y26, .ref y27, .int mhw, .int (nI mwn), .ref y28, .ref y29, .ref y30, .ref y31, .ref y32, .ref y33, .ref y34, .ref y35, .ref y36, .int (nI mbm), .ref y37, .ref y38, .int (nI mrm), .int mro, .int mrs]))]) [0] (by decide +kernel) rfl
    refine W.widen (k := 0) (n := 0) (Nat.le_of_ble_eq_true rfl) (Nat.le_of_ble_eq_true rfl) ?_
    exact W.iret (v := mlk) hx hb hr (fun tT ht hW => ⟨⟨mlk, v, rfl, ⟨(by simp [gp_set, h_2]), (by simp [gsv, h_2])⟩, by rw [ht]; exact hP9, hD9⟩, hS.F ht⟩) hS.2.2 d_MO_look_24
  · refine lv_bipush (v := (-2)) hx hb d_MO_look_10 (by decide) ?_
    have hP9 := hP.sub (ws' := [(y, .inr (7, [.int (nI mn), .int mtm, .int mgp, .int mlk, .ref y1, .ref y2, .ref y3, .ref y4, .int (nI mp), .ref y5, .ref y6, .ref y7, .ref y8, .ref y9, .ref y10, .ref y11, .ref y12, .ref y13, .ref y14, .ref y15, .int (nI mq), .ref y16, .ref y17, .ref y18, .ref y19, .ref y20, .ref y21, .ref y22, .ref y23, .ref y24, .ref y25, .ref y26, .ref y27, .int mhw, .int (nI mwn), .ref y28, .ref y29, .ref y30, .ref y31, .ref y32, .ref y33, .ref y34, .ref y35, .ref y36, .int (nI mbm), .ref y37, .ref y38, .int (nI mrm), .int mro, .int mrs]))]) [0] rfl
    have hD9 := hD.sub (ws' := [(y, .inr (7, [.int (nI mn), .int mtm, .int mgp, .int mlk, .ref y1, .ref y2, .ref y3, .ref y4, .int (nI mp), .ref y5, .ref y6, .ref y7, .ref y8, .ref y9, .ref y10, .ref y11, .ref y12, .ref y13, .ref y14, .ref y15, .int (nI mq), .ref y16, .ref y17, .ref y18, .ref y19, .ref y20, .ref y21, .ref y22, .ref y23, .ref y24, .ref y25, .ref y26, .ref y27, .int mhw, .int (nI mwn), .ref y28, .ref y29, .ref y30, .ref y31, .ref y32, .ref y33, .ref y34, .ref y35, .ref y36, .int (nI mbm), .ref y37, .ref y38, .int (nI mrm), .int mro, .int mrs]))]) [0] (by decide +kernel) rfl
    refine W.widen (k := 0) (n := 0) (Nat.le_of_ble_eq_true rfl) (Nat.le_of_ble_eq_true rfl) ?_
    exact W.iret (v := (-2)) hx hb hr (fun tT ht hW => ⟨⟨(-2), mlk, rfl, ⟨(by simp [gp_set, h_2]), (by simp [gsv, h_2])⟩, by rw [ht]; exact hP9, hD9⟩, hS.F ht⟩) hS.2.2 d_MO_look_12

set_option maxHeartbeats 4000000 in
set_option maxRecDepth 100000 in
theorem e_MO_isAsked (l : Launch) (D : va_G) (cI cZ : ClassId) (y : Nat) (i : Int32) (j : Int32) (v : Int32) (mn : Nat) (mtm : Int32) (mgp : Int32) (mlk : Int32) (y1 : Nat) (y2 : Nat) (y3 : Nat) (y4 : Nat) (mp : Nat) (y5 : Nat) (y6 : Nat) (y7 : Nat) (y8 : Nat) (y9 : Nat) (y10 : Nat) (y11 : Nat) (y12 : Nat) (y13 : Nat) (y14 : Nat) (y15 : Nat) (mq : Nat) (y16 : Nat) (y17 : Nat) (y18 : Nat) (y19 : Nat) (y20 : Nat) (y21 : Nat) (y22 : Nat) (y23 : Nat) (y24 : Nat) (y25 : Nat) (y26 : Nat) (y27 : Nat) (mhw : Int32) (mwn : Nat) (y28 : Nat) (y29 : Nat) (y30 : Nat) (y31 : Nat) (y32 : Nat) (y33 : Nat) (y34 : Nat) (y35 : Nat) (y36 : Nat) (mbm : Nat) (y37 : Nat) (y38 : Nat) (mrm : Nat) (mro : Int32) (mrs : Int32) (sz : Nat) (h_mn : mn ≤ 7) (h_mp : mp ≤ 12) (h_mq : mq ≤ 40) (h_mwn : mwn ≤ 8) (h_mbm : mbm ≤ 8) (h_mrm : mrm ≤ 8) : Met l ⟨"PromiseChainsModel", "isAsked", "(III)Z"⟩ (mw ⟨"PromiseChainsModel", "isAsked", "(III)Z"⟩ prog_9_method_16_code 4 (some .boolean)) ({ frames := 2, cells := 0, slots := 0, locals := 43 }) (va_Pc [.ref y, .int i, .int j, .int v] (PB D cI cZ sz [(y, .inr (7, [.int (nI mn), .int mtm, .int mgp, .int mlk, .ref y1, .ref y2, .ref y3, .ref y4, .int (nI mp), .ref y5, .ref y6, .ref y7, .ref y8, .ref y9, .ref y10, .ref y11, .ref y12, .ref y13, .ref y14, .ref y15, .int (nI mq), .ref y16, .ref y17, .ref y18, .ref y19, .ref y20, .ref y21, .ref y22, .ref y23, .ref y24, .ref y25, .ref y26, .ref y27, .int mhw, .int (nI mwn), .ref y28, .ref y29, .ref y30, .ref y31, .ref y32, .ref y33, .ref y34, .ref y35, .ref y36, .int (nI mbm), .ref y37, .ref y38, .int (nI mrm), .int mro, .int mrs]))])) (vp_Si (fun r => (badWay mn i j v ∧ r = 0) ∨ (∃ a : Nat, ∃ b : Nat, ¬ badWay mn i j v ∧ i = nI a ∧ j = nI b ∧ a < mn ∧ b < mn ∧ ¬ a = b ∧ r = 1))) 0 0 (fun _ => False) := by
  refine Met.ofW (cc := prog_9_method_16_code) (maxL := 4) (ret := (some .boolean)) (by decide) rfl ?_
  intro p e s m args below meth c s₁ B hml hv
  obtain ⟨rfl, hsz, hP, hK, hD0, hN⟩ := hv
  have hx := B.exec
  have hb := B.bytes
  have hr := B.returns
  have hts0 := atoms_spec (ws := mw ⟨"PromiseChainsModel", "isAsked", "(III)Z"⟩ prog_9_method_16_code 4 (some .boolean)) B.pre
  have hts : ∀ w ∈ tblG, w.before _ s = true := fun w h => hts0 w (List.mem_cons_of_mem _ h)
  have hown : s.vm.findClass "PromiseChainsModel" = some m.cls := findClass_of_methodNamed B.named
  have hlocks := B.notSynchronized
  subst hsz
  have hD := hD0
  have hP : va_P D vwCl [(y, .inr (7, [.int (nI mn), .int mtm, .int mgp, .int mlk, .ref y1, .ref y2, .ref y3, .ref y4, .int (nI mp), .ref y5, .ref y6, .ref y7, .ref y8, .ref y9, .ref y10, .ref y11, .ref y12, .ref y13, .ref y14, .ref y15, .int (nI mq), .ref y16, .ref y17, .ref y18, .ref y19, .ref y20, .ref y21, .ref y22, .ref y23, .ref y24, .ref y25, .ref y26, .ref y27, .int mhw, .int (nI mwn), .ref y28, .ref y29, .ref y30, .ref y31, .ref y32, .ref y33, .ref y34, .ref y35, .ref y36, .int (nI mbm), .ref y37, .ref y38, .int (nI mrm), .int mro, .int mrs]))] s.heap := hP
  have hl := lv_entry ([.ref y, .int i, .int j, .int v]) (n := 4) (Nat.le_of_ble_eq_true rfl)
  rw [lg_entry_eq]
  generalize (lg_sl ([.ref y, .int i, .int j, .int v]) ++ List.replicate (4 - (lg_sl ([.ref y, .int i, .int j, .int v])).length) Slot.unset).toArray = ls at hl ⊢
  have hl : lv_has ls 4 [(0, .ref y), (1, .int i), (2, .int j), (3, .int v)] := hl
  refine lv_aload_n hx hb d_MO_isAsked_0 rfl (lv_at hl 0 rfl) ?_
  refine lv_iload_n hx hb d_MO_isAsked_1 rfl (lv_at hl 1 rfl) ?_
  have hPc := hP.sub (ws' := [(y, .inr (7, [.int (nI mn), .int mtm, .int mgp, .int mlk, .ref y1, .ref y2, .ref y3, .ref y4, .int (nI mp), .ref y5, .ref y6, .ref y7, .ref y8, .ref y9, .ref y10, .ref y11, .ref y12, .ref y13, .ref y14, .ref y15, .int (nI mq), .ref y16, .ref y17, .ref y18, .ref y19, .ref y20, .ref y21, .ref y22, .ref y23, .ref y24, .ref y25, .ref y26, .ref y27, .int mhw, .int (nI mwn), .ref y28, .ref y29, .ref y30, .ref y31, .ref y32, .ref y33, .ref y34, .ref y35, .ref y36, .int (nI mbm), .ref y37, .ref y38, .int (nI mrm), .int mro, .int mrs]))]) [0] rfl
  have hDc := hD.sub (ws' := [(y, .inr (7, [.int (nI mn), .int mtm, .int mgp, .int mlk, .ref y1, .ref y2, .ref y3, .ref y4, .int (nI mp), .ref y5, .ref y6, .ref y7, .ref y8, .ref y9, .ref y10, .ref y11, .ref y12, .ref y13, .ref y14, .ref y15, .int (nI mq), .ref y16, .ref y17, .ref y18, .ref y19, .ref y20, .ref y21, .ref y22, .ref y23, .ref y24, .ref y25, .ref y26, .ref y27, .int mhw, .int (nI mwn), .ref y28, .ref y29, .ref y30, .ref y31, .ref y32, .ref y33, .ref y34, .ref y35, .ref y36, .int (nI mbm), .ref y37, .ref y38, .int (nI mrm), .int mro, .int mrs]))]) [0] (by decide +kernel) rfl
  refine vp_callSi (va_Run.run (va_runV (As := [.int i]) (rest := []) ⟨hx, hb, hml, hown, hts⟩ (e_MO_isPerson l D cI cZ y i mn mtm mgp mlk y1 y2 y3 y4 mp y5 y6 y7 y8 y9 y10 y11 y12 y13 y14 y15 mq y16 y17 y18 y19 y20 y21 y22 y23 y24 y25 y26 y27 mhw mwn y28 y29 y30 y31 y32 y33 y34 y35 y36 mbm y37 y38 mrm mro mrs s.heap.size h_mn h_mp h_mq h_mwn h_mbm h_mrm) (my_cwV 1 hts q_797 q_794 q_796 q_p5 q_8 rfl rfl (by decide +kernel) ⟨Nat.le_of_ble_eq_true rfl, Nat.le_of_ble_eq_true rfl⟩) (my_preV hPc hDc hK hN 7 0 rfl rfl) rfl rfl hl.1 rfl (lv_room (Nat.le_of_ble_eq_true rfl)) d_MO_isAsked_2 ⟨Nat.le_of_ble_eq_true rfl, Nat.le_of_ble_eq_true rfl⟩)) (fun r_1 hw_1 => ?_)
  rcases hw_1 with ⟨hg_2, rfl⟩ | ⟨j_3, hg_4, hg_5, hg_6, rfl⟩
  · have hg_2 : isw i 0 (nI mn - 1) = 0 := hg_2
    refine lv_if_eq (tgt := 35) hx hb d_MO_isAsked_5 (by decide) (fun _ => ?_) (fun h => absurd h (by decide))
    refine lv_iconst (v := 0) hx hb d_MO_isAsked_35 (by decide) ?_
    exact W.zret (v := 0) hx hb hr rfl (fun tT ht hW => ⟨0, rfl, (Or.inl (⟨(bw_1 hg_2), rfl⟩)), ht⟩) (fun q h => absurd h List.not_mem_nil) d_MO_isAsked_36
  · have hg_4 : j_3 < mn := hg_4
    have hg_5 : i = nI j_3 := hg_5
    have hg_6 : ¬ isw i 0 (nI mn - 1) = 0 := hg_6
    subst hg_5
    refine lv_if_eq (tgt := 35) hx hb d_MO_isAsked_5 (by decide) (fun h => absurd h (by decide)) (fun _ => ?_)
    refine lv_aload_n hx hb d_MO_isAsked_8 rfl (lv_at hl 0 rfl) ?_
    refine lv_iload_n hx hb d_MO_isAsked_9 rfl (lv_at hl 2 rfl) ?_
    have hPc := hP.sub (ws' := [(y, .inr (7, [.int (nI mn), .int mtm, .int mgp, .int mlk, .ref y1, .ref y2, .ref y3, .ref y4, .int (nI mp), .ref y5, .ref y6, .ref y7, .ref y8, .ref y9, .ref y10, .ref y11, .ref y12, .ref y13, .ref y14, .ref y15, .int (nI mq), .ref y16, .ref y17, .ref y18, .ref y19, .ref y20, .ref y21, .ref y22, .ref y23, .ref y24, .ref y25, .ref y26, .ref y27, .int mhw, .int (nI mwn), .ref y28, .ref y29, .ref y30, .ref y31, .ref y32, .ref y33, .ref y34, .ref y35, .ref y36, .int (nI mbm), .ref y37, .ref y38, .int (nI mrm), .int mro, .int mrs]))]) [0] rfl
    have hDc := hD.sub (ws' := [(y, .inr (7, [.int (nI mn), .int mtm, .int mgp, .int mlk, .ref y1, .ref y2, .ref y3, .ref y4, .int (nI mp), .ref y5, .ref y6, .ref y7, .ref y8, .ref y9, .ref y10, .ref y11, .ref y12, .ref y13, .ref y14, .ref y15, .int (nI mq), .ref y16, .ref y17, .ref y18, .ref y19, .ref y20, .ref y21, .ref y22, .ref y23, .ref y24, .ref y25, .ref y26, .ref y27, .int mhw, .int (nI mwn), .ref y28, .ref y29, .ref y30, .ref y31, .ref y32, .ref y33, .ref y34, .ref y35, .ref y36, .int (nI mbm), .ref y37, .ref y38, .int (nI mrm), .int mro, .int mrs]))]) [0] (by decide +kernel) rfl
    refine vp_callSi (va_Run.run (va_runV (As := [.int j]) (rest := []) ⟨hx, hb, hml, hown, hts⟩ (e_MO_isPerson l D cI cZ y j mn mtm mgp mlk y1 y2 y3 y4 mp y5 y6 y7 y8 y9 y10 y11 y12 y13 y14 y15 mq y16 y17 y18 y19 y20 y21 y22 y23 y24 y25 y26 y27 mhw mwn y28 y29 y30 y31 y32 y33 y34 y35 y36 mbm y37 y38 mrm mro mrs s.heap.size h_mn h_mp h_mq h_mwn h_mbm h_mrm) (my_cwV 1 hts q_797 q_794 q_796 q_p5 q_8 rfl rfl (by decide +kernel) ⟨Nat.le_of_ble_eq_true rfl, Nat.le_of_ble_eq_true rfl⟩) (my_preV hPc hDc hK hN 7 0 rfl rfl) rfl rfl hl.1 rfl (lv_room (Nat.le_of_ble_eq_true rfl)) d_MO_isAsked_10 ⟨Nat.le_of_ble_eq_true rfl, Nat.le_of_ble_eq_true rfl⟩)) (fun r_9 hw_9 => ?_)
    rcases hw_9 with ⟨hg_10, rfl⟩ | ⟨j_11, hg_12, hg_13, hg_14, rfl⟩
    · have hg_10 : isw j 0 (nI mn - 1) = 0 := hg_10
      refine lv_if_eq (tgt := 35) hx hb d_MO_isAsked_13 (by decide) (fun _ => ?_) (fun h => absurd h (by decide))
      refine lv_iconst (v := 0) hx hb d_MO_isAsked_35 (by decide) ?_
      exact W.zret (v := 0) hx hb hr rfl (fun tT ht hW => ⟨0, rfl, (Or.inl (⟨(bw_2 hg_10), rfl⟩)), ht⟩) (fun q h => absurd h List.not_mem_nil) d_MO_isAsked_36
    · have hg_12 : j_11 < mn := hg_12
      have hg_13 : j = nI j_11 := hg_13
      have hg_14 : ¬ isw j 0 (nI mn - 1) = 0 := hg_14
      subst hg_13
      refine lv_if_eq (tgt := 35) hx hb d_MO_isAsked_13 (by decide) (fun h => absurd h (by decide)) (fun _ => ?_)
      refine lv_iload_n hx hb d_MO_isAsked_16 rfl (lv_at hl 1 rfl) ?_
      refine lv_iload_n hx hb d_MO_isAsked_17 rfl (lv_at hl 2 rfl) ?_
      refine lv_icmp_eq (tgt := 35) hx hb d_MO_isAsked_18 (by decide) (fun h_17 => ?_) (fun h_17 => ?_)
      · have nh_17 : j_3 = j_11 := (nI_eq (a := j_3) (b := j_11) (by omega) (by omega)).mp h_17
        refine lv_iconst (v := 0) hx hb d_MO_isAsked_35 (by decide) ?_
        exact W.zret (v := 0) hx hb hr rfl (fun tT ht hW => ⟨0, rfl, (Or.inl (⟨(bw_3 h_17), rfl⟩)), ht⟩) (fun q h => absurd h List.not_mem_nil) d_MO_isAsked_36
      · have nh_17 : ¬ j_3 = j_11 := fun qZ => h_17 ((nI_eq (a := j_3) (b := j_11) (by omega) (by omega)).mpr qZ)
        refine lv_iload_n hx hb d_MO_isAsked_21 rfl (lv_at hl 3 rfl) ?_
        refine lv_iconst (v := 1) hx hb d_MO_isAsked_22 (by decide) ?_
        refine lv_ldc hx hb hown (hts _ q_798) d_MO_isAsked_23 ?_
        have hPc := hP.sub (ws' := []) [] rfl
        have hDc := hD.sub (ws' := []) [] (by decide +kernel) rfl
        refine vp_callSi (va_Run.run (va_runS (As := [.int v, .int 1, .int 100000]) (rest := []) ⟨hx, hb, hml, hown, hts⟩ (e_MO_in l D cI cZ v 1 100000 s.heap.size ) (my_cwS 3 hts q_789 q_787 q_788 q_8 rfl rfl (by decide +kernel) ⟨Nat.le_of_ble_eq_true rfl, Nat.le_of_ble_eq_true rfl⟩) (my_preS hPc hDc hK hN) rfl rfl hl.1 rfl (lv_room (Nat.le_of_ble_eq_true rfl)) d_MO_isAsked_25 ⟨Nat.le_of_ble_eq_true rfl, Nat.le_of_ble_eq_true rfl⟩)) (fun r_18 hw_18 => ?_)
        have hf_18_0 : r_18 = isw v 1 100000 := hw_18
        have hf_18_0 : r_18 = isw v 1 100000 := hf_18_0
        subst hf_18_0
        refine lv_if_eq (tgt := 35) hx hb d_MO_isAsked_28 (by decide) (fun h_19 => ?_) (fun h_19 => ?_)
        · refine lv_iconst (v := 0) hx hb d_MO_isAsked_35 (by decide) ?_
          exact W.zret (v := 0) hx hb hr rfl (fun tT ht hW => ⟨0, rfl, (Or.inl (⟨(bw_4 h_19), rfl⟩)), ht⟩) (fun q h => absurd h List.not_mem_nil) d_MO_isAsked_36
        · refine lv_iconst (v := 1) hx hb d_MO_isAsked_31 (by decide) ?_
          refine lv_goto (tgt := 36) hx hb d_MO_isAsked_32 (by decide) ?_
          exact W.zret (v := 1) hx hb hr rfl (fun tT ht hW => ⟨1, rfl, (Or.inr (⟨j_3, j_11, (bw_n hg_6 hg_14 h_17 h_19), hg_5, hg_13, hg_4, hg_12, nh_17, rfl⟩)), ht⟩) (fun q h => absurd h List.not_mem_nil) d_MO_isAsked_36

set_option maxHeartbeats 4000000 in
set_option maxRecDepth 100000 in
theorem e_MO_takeWay (l : Launch) (D : va_G) (cI cZ : ClassId) (y : Nat) (mn : Nat) (mtm : Int32) (mgp : Int32) (mlk : Int32) (y1 : Nat) (y2 : Nat) (y3 : Nat) (y4 : Nat) (mp : Nat) (y5 : Nat) (y6 : Nat) (y7 : Nat) (y8 : Nat) (y9 : Nat) (y10 : Nat) (y11 : Nat) (y12 : Nat) (y13 : Nat) (y14 : Nat) (y15 : Nat) (mq : Nat) (y16 : Nat) (y17 : Nat) (y18 : Nat) (y19 : Nat) (y20 : Nat) (y21 : Nat) (y22 : Nat) (y23 : Nat) (y24 : Nat) (y25 : Nat) (y26 : Nat) (y27 : Nat) (mhw : Int32) (mwn : Nat) (y28 : Nat) (y29 : Nat) (y30 : Nat) (y31 : Nat) (y32 : Nat) (y33 : Nat) (y34 : Nat) (y35 : Nat) (y36 : Nat) (mbm : Nat) (y37 : Nat) (y38 : Nat) (mrm : Nat) (mro : Int32) (mrs : Int32) (WA1 : Nat → Nat) (WA2 : Nat → Nat) (DB1 : Nat → Nat) (DB2 : Nat → Nat) (sz : Nat) (h_mn : mn ≤ 7) (h_mp : mp ≤ 12) (h_mq : mq ≤ 40) (h_mwn : mwn ≤ 8) (h_mbm : mbm ≤ 8) (h_mrm : mrm ≤ 8) (h_WA1 : ∀ zz, WA1 zz ≤ 11) (h_WA2 : ∀ zz, WA2 zz ≤ 1) (h_DB1 : ∀ zz, DB1 zz ≤ 11) (h_DB2 : ∀ zz, DB2 zz ≤ 1) : Met l ⟨"PromiseChainsModel", "takeWay", "()V"⟩ (mw ⟨"PromiseChainsModel", "takeWay", "()V"⟩ prog_9_method_17_code 2 none) ({ frames := 0, cells := 0, slots := 0, locals := 0 }) (va_Pc [.ref y] (PB D cI cZ sz [(y, .inr (7, [.int (nI mn), .int mtm, .int mgp, .int mlk, .ref y1, .ref y2, .ref y3, .ref y4, .int (nI mp), .ref y5, .ref y6, .ref y7, .ref y8, .ref y9, .ref y10, .ref y11, .ref y12, .ref y13, .ref y14, .ref y15, .int (nI mq), .ref y16, .ref y17, .ref y18, .ref y19, .ref y20, .ref y21, .ref y22, .ref y23, .ref y24, .ref y25, .ref y26, .ref y27, .int mhw, .int (nI mwn), .ref y28, .ref y29, .ref y30, .ref y31, .ref y32, .ref y33, .ref y34, .ref y35, .ref y36, .int (nI mbm), .ref y37, .ref y38, .int (nI mrm), .int mro, .int mrs])), (y28, .inl (cI, 8, .inl (fun zy => nI (WA1 zy)))), (y29, .inl (cI, 8, .inl (fun zy => nI (WA2 zy)))), (y34, .inl (cI, 8, .inl (fun zy => nI (DB1 zy)))), (y35, .inl (cI, 8, .inl (fun zy => nI (DB2 zy))))])) (va_Qv (S := Unit) (fun uU => True) (fun uU tT => BB D (va_A [(y, .inr (7, [.int (nI mn), .int mtm, .int mgp, .int mlk, .ref y1, .ref y2, .ref y3, .ref y4, .int (nI mp), .ref y5, .ref y6, .ref y7, .ref y8, .ref y9, .ref y10, .ref y11, .ref y12, .ref y13, .ref y14, .ref y15, .int (nI mq), .ref y16, .ref y17, .ref y18, .ref y19, .ref y20, .ref y21, .ref y22, .ref y23, .ref y24, .ref y25, .ref y26, .ref y27, .int mhw, .int (nI mwn), .ref y28, .ref y29, .ref y30, .ref y31, .ref y32, .ref y33, .ref y34, .ref y35, .ref y36, .int (nI mbm), .ref y37, .ref y38, .int (nI mrm), .int mro, .int mrs])), (y28, .inl (cI, 8, .inl (fun zy => nI (WA1 zy)))), (y29, .inl (cI, 8, .inl (fun zy => nI (WA2 zy)))), (y34, .inl (cI, 8, .inl (fun zy => nI (DB1 zy)))), (y35, .inl (cI, 8, .inl (fun zy => nI (DB2 zy))))] sz) [(y, .inr (7, [.int (nI mn), .int mtm, .int mgp, .int mlk, .ref y1, .ref y2, .ref y3, .ref y4, .int (nI mp), .ref y5, .ref y6, .ref y7, .ref y8, .ref y9, .ref y10, .ref y11, .ref y12, .ref y13, .ref y14, .ref y15, .int (nI mq), .ref y16, .ref y17, .ref y18, .ref y19, .ref y20, .ref y21, .ref y22, .ref y23, .ref y24, .ref y25, .ref y26, .ref y27, .int 1, .int (nI mbm), .ref y28, .ref y29, .ref y30, .ref y31, .ref y32, .ref y33, .ref y34, .ref y35, .ref y36, .int (nI mbm), .ref y37, .ref y38, .int (nI mrm), .int mro, .int mrs])), (y28, .inl (cI, 8, .inl (fun zy => nI ((cpN mbm DB1 WA1) zy)))), (y29, .inl (cI, 8, .inl (fun zy => nI ((cpN mbm DB2 WA2) zy)))), (y34, .inl (cI, 8, .inl (fun zy => nI (DB1 zy)))), (y35, .inl (cI, 8, .inl (fun zy => nI (DB2 zy))))] tT) (va_A [(y, .inr (7, [.int (nI mn), .int mtm, .int mgp, .int mlk, .ref y1, .ref y2, .ref y3, .ref y4, .int (nI mp), .ref y5, .ref y6, .ref y7, .ref y8, .ref y9, .ref y10, .ref y11, .ref y12, .ref y13, .ref y14, .ref y15, .int (nI mq), .ref y16, .ref y17, .ref y18, .ref y19, .ref y20, .ref y21, .ref y22, .ref y23, .ref y24, .ref y25, .ref y26, .ref y27, .int mhw, .int (nI mwn), .ref y28, .ref y29, .ref y30, .ref y31, .ref y32, .ref y33, .ref y34, .ref y35, .ref y36, .int (nI mbm), .ref y37, .ref y38, .int (nI mrm), .int mro, .int mrs])), (y28, .inl (cI, 8, .inl (fun zy => nI (WA1 zy)))), (y29, .inl (cI, 8, .inl (fun zy => nI (WA2 zy)))), (y34, .inl (cI, 8, .inl (fun zy => nI (DB1 zy)))), (y35, .inl (cI, 8, .inl (fun zy => nI (DB2 zy))))] sz)) 0 0 (va_A [(y, .inr (7, [.int (nI mn), .int mtm, .int mgp, .int mlk, .ref y1, .ref y2, .ref y3, .ref y4, .int (nI mp), .ref y5, .ref y6, .ref y7, .ref y8, .ref y9, .ref y10, .ref y11, .ref y12, .ref y13, .ref y14, .ref y15, .int (nI mq), .ref y16, .ref y17, .ref y18, .ref y19, .ref y20, .ref y21, .ref y22, .ref y23, .ref y24, .ref y25, .ref y26, .ref y27, .int mhw, .int (nI mwn), .ref y28, .ref y29, .ref y30, .ref y31, .ref y32, .ref y33, .ref y34, .ref y35, .ref y36, .int (nI mbm), .ref y37, .ref y38, .int (nI mrm), .int mro, .int mrs])), (y28, .inl (cI, 8, .inl (fun zy => nI (WA1 zy)))), (y29, .inl (cI, 8, .inl (fun zy => nI (WA2 zy)))), (y34, .inl (cI, 8, .inl (fun zy => nI (DB1 zy)))), (y35, .inl (cI, 8, .inl (fun zy => nI (DB2 zy))))] sz) := by
  refine Met.ofW (cc := prog_9_method_17_code) (maxL := 2) (ret := none) (by decide) rfl ?_
  intro p e s m args below meth c s₁ B hml hv
  obtain ⟨rfl, hsz, hP, hK, hD0, hN⟩ := hv
  have hx := B.exec
  have hb := B.bytes
  have hr := B.returns
  have hts0 := atoms_spec (ws := mw ⟨"PromiseChainsModel", "takeWay", "()V"⟩ prog_9_method_17_code 2 none) B.pre
  have hts : ∀ w ∈ tblG, w.before _ s = true := fun w h => hts0 w (List.mem_cons_of_mem _ h)
  have hown : s.vm.findClass "PromiseChainsModel" = some m.cls := findClass_of_methodNamed B.named
  have hlocks := B.notSynchronized
  subst hsz
  have hD := hD0.self (sz := s.heap.size)
  generalize hAe : va_A [(y, .inr (7, [.int (nI mn), .int mtm, .int mgp, .int mlk, .ref y1, .ref y2, .ref y3, .ref y4, .int (nI mp), .ref y5, .ref y6, .ref y7, .ref y8, .ref y9, .ref y10, .ref y11, .ref y12, .ref y13, .ref y14, .ref y15, .int (nI mq), .ref y16, .ref y17, .ref y18, .ref y19, .ref y20, .ref y21, .ref y22, .ref y23, .ref y24, .ref y25, .ref y26, .ref y27, .int mhw, .int (nI mwn), .ref y28, .ref y29, .ref y30, .ref y31, .ref y32, .ref y33, .ref y34, .ref y35, .ref y36, .int (nI mbm), .ref y37, .ref y38, .int (nI mrm), .int mro, .int mrs])), (y28, .inl (cI, 8, .inl (fun zy => nI (WA1 zy)))), (y29, .inl (cI, 8, .inl (fun zy => nI (WA2 zy)))), (y34, .inl (cI, 8, .inl (fun zy => nI (DB1 zy)))), (y35, .inl (cI, 8, .inl (fun zy => nI (DB2 zy))))] s.heap.size = A at hD ⊢
  have hA : ∀ q : Nat, s.heap.size ≤ q → A q := fun q h => by rw [← hAe]; exact Or.inr h
  have hS : va_S A s.heap s.heap [] := va_S.rf
  have hP : va_P D vwCl [(y, .inr (7, [.int (nI mn), .int mtm, .int mgp, .int mlk, .ref y1, .ref y2, .ref y3, .ref y4, .int (nI mp), .ref y5, .ref y6, .ref y7, .ref y8, .ref y9, .ref y10, .ref y11, .ref y12, .ref y13, .ref y14, .ref y15, .int (nI mq), .ref y16, .ref y17, .ref y18, .ref y19, .ref y20, .ref y21, .ref y22, .ref y23, .ref y24, .ref y25, .ref y26, .ref y27, .int mhw, .int (nI mwn), .ref y28, .ref y29, .ref y30, .ref y31, .ref y32, .ref y33, .ref y34, .ref y35, .ref y36, .int (nI mbm), .ref y37, .ref y38, .int (nI mrm), .int mro, .int mrs])), (y28, .inl (cI, 8, .inl (fun zy => nI (WA1 zy)))), (y29, .inl (cI, 8, .inl (fun zy => nI (WA2 zy)))), (y34, .inl (cI, 8, .inl (fun zy => nI (DB1 zy)))), (y35, .inl (cI, 8, .inl (fun zy => nI (DB2 zy))))] s.heap := hP
  have hl := lv_entry ([.ref y]) (n := 2) (Nat.le_of_ble_eq_true rfl)
  rw [lg_entry_eq]
  generalize (lg_sl ([.ref y]) ++ List.replicate (2 - (lg_sl ([.ref y])).length) Slot.unset).toArray = ls at hl ⊢
  have hl : lv_has ls 2 [(0, .ref y)] := hl
  refine lv_aload_n hx hb d_MO_takeWay_0 rfl (lv_at hl 0 rfl) ?_
  refine lv_iconst (v := 1) hx hb d_MO_takeWay_1 (by decide) ?_
  refine va_put (D := D) (ci := 7) (v := .int 1) (ty := .boolean) (C := R_MO) (T := F_MO) (N := 50) hx hb hts i_MO t_MO t_MO_ok n_MO hown hK hP hD hS 0 rfl rfl 33 (by decide) (hts _ q_665) (fun _ h9 => h9) rfl (by decide +kernel) rfl rfl (Nat.le_of_ble_eq_true rfl) d_MO_takeWay_2 (fun H_1 locs hP hD hS => ?_)
  have hP : va_P D vwCl [(y, .inr (7, [.int (nI mn), .int mtm, .int mgp, .int mlk, .ref y1, .ref y2, .ref y3, .ref y4, .int (nI mp), .ref y5, .ref y6, .ref y7, .ref y8, .ref y9, .ref y10, .ref y11, .ref y12, .ref y13, .ref y14, .ref y15, .int (nI mq), .ref y16, .ref y17, .ref y18, .ref y19, .ref y20, .ref y21, .ref y22, .ref y23, .ref y24, .ref y25, .ref y26, .ref y27, .int 1, .int (nI mwn), .ref y28, .ref y29, .ref y30, .ref y31, .ref y32, .ref y33, .ref y34, .ref y35, .ref y36, .int (nI mbm), .ref y37, .ref y38, .int (nI mrm), .int mro, .int mrs])), (y28, .inl (cI, 8, .inl (fun zy => nI (WA1 zy)))), (y29, .inl (cI, 8, .inl (fun zy => nI (WA2 zy)))), (y34, .inl (cI, 8, .inl (fun zy => nI (DB1 zy)))), (y35, .inl (cI, 8, .inl (fun zy => nI (DB2 zy))))] H_1 := hP
  refine lv_aload_n hx hb d_MO_takeWay_5 rfl (lv_at hl 0 rfl) ?_
  refine lv_aload_n hx hb d_MO_takeWay_6 rfl (lv_at hl 0 rfl) ?_
  refine va_get (D := D) (ci := 7) (v := .int (nI mbm)) (C := R_MO) (T := F_MO) (N := 50) hx hb hts i_MO hown hK hP 0 rfl rfl 44 (by decide) (hts _ q_676) (fun _ h9 => h9) rfl d_MO_takeWay_7 ?_
  refine va_put (D := D) (ci := 7) (v := .int (nI mbm)) (ty := .int) (C := R_MO) (T := F_MO) (N := 50) hx hb hts i_MO t_MO t_MO_ok n_MO hown hK hP hD hS 0 rfl rfl 34 (by decide) (hts _ q_666) (fun _ h9 => h9) rfl (by decide +kernel) rfl rfl (Nat.le_of_ble_eq_true rfl) d_MO_takeWay_10 (fun H_2 locs hP hD hS => ?_)
  have hP : va_P D vwCl [(y, .inr (7, [.int (nI mn), .int mtm, .int mgp, .int mlk, .ref y1, .ref y2, .ref y3, .ref y4, .int (nI mp), .ref y5, .ref y6, .ref y7, .ref y8, .ref y9, .ref y10, .ref y11, .ref y12, .ref y13, .ref y14, .ref y15, .int (nI mq), .ref y16, .ref y17, .ref y18, .ref y19, .ref y20, .ref y21, .ref y22, .ref y23, .ref y24, .ref y25, .ref y26, .ref y27, .int 1, .int (nI mbm), .ref y28, .ref y29, .ref y30, .ref y31, .ref y32, .ref y33, .ref y34, .ref y35, .ref y36, .int (nI mbm), .ref y37, .ref y38, .int (nI mrm), .int mro, .int mrs])), (y28, .inl (cI, 8, .inl (fun zy => nI (WA1 zy)))), (y29, .inl (cI, 8, .inl (fun zy => nI (WA2 zy)))), (y34, .inl (cI, 8, .inl (fun zy => nI (DB1 zy)))), (y35, .inl (cI, 8, .inl (fun zy => nI (DB2 zy))))] H_2 := hP
  refine lv_iconst (v := 0) hx hb d_MO_takeWay_13 (by decide) ?_
  refine lv_istore_n (lv' := [(1, .int 0), (0, .ref y)]) hx hb d_MO_takeWay_14 rfl hl (by decide) rfl (fun ls hl => ?_)
  refine W_loop (σ := Nat × (Nat → Nat) × (Nat → Nat)) (I := fun xX H locs ls => (∀ zz, xX.2.1 zz ≤ 11) ∧ (∀ zz, xX.2.2 zz ≤ 1) ∧ xX.1 ≤ mbm ∧ xX.2.1 = cpN xX.1 DB1 WA1 ∧ xX.2.2 = cpN xX.1 DB2 WA2 ∧ va_P D vwCl [(y, .inr (7, [.int (nI mn), .int mtm, .int mgp, .int mlk, .ref y1, .ref y2, .ref y3, .ref y4, .int (nI mp), .ref y5, .ref y6, .ref y7, .ref y8, .ref y9, .ref y10, .ref y11, .ref y12, .ref y13, .ref y14, .ref y15, .int (nI mq), .ref y16, .ref y17, .ref y18, .ref y19, .ref y20, .ref y21, .ref y22, .ref y23, .ref y24, .ref y25, .ref y26, .ref y27, .int 1, .int (nI mbm), .ref y28, .ref y29, .ref y30, .ref y31, .ref y32, .ref y33, .ref y34, .ref y35, .ref y36, .int (nI mbm), .ref y37, .ref y38, .int (nI mrm), .int mro, .int mrs])), (y28, .inl (cI, 8, .inl (fun zy => nI (xX.2.1 zy)))), (y29, .inl (cI, 8, .inl (fun zy => nI (xX.2.2 zy)))), (y34, .inl (cI, 8, .inl (fun zy => nI (DB1 zy)))), (y35, .inl (cI, 8, .inl (fun zy => nI (DB2 zy))))] H ∧ va_D A [(y, .inr (7, [.int (nI mn), .int mtm, .int mgp, .int mlk, .ref y1, .ref y2, .ref y3, .ref y4, .int (nI mp), .ref y5, .ref y6, .ref y7, .ref y8, .ref y9, .ref y10, .ref y11, .ref y12, .ref y13, .ref y14, .ref y15, .int (nI mq), .ref y16, .ref y17, .ref y18, .ref y19, .ref y20, .ref y21, .ref y22, .ref y23, .ref y24, .ref y25, .ref y26, .ref y27, .int 1, .int (nI mbm), .ref y28, .ref y29, .ref y30, .ref y31, .ref y32, .ref y33, .ref y34, .ref y35, .ref y36, .int (nI mbm), .ref y37, .ref y38, .int (nI mrm), .int mro, .int mrs])), (y28, .inl (cI, 8, .inl (fun zy => nI (xX.2.1 zy)))), (y29, .inl (cI, 8, .inl (fun zy => nI (xX.2.2 zy)))), (y34, .inl (cI, 8, .inl (fun zy => nI (DB1 zy)))), (y35, .inl (cI, 8, .inl (fun zy => nI (DB2 zy))))] ∧ va_S A s.heap H locs ∧ lv_has ls 2 [(1, .int (nI xX.1)), (0, .ref y)]) (μ := fun xX => 9 - xX.1) ?_ (0, WA1, WA2) ⟨h_WA1, h_WA2, (by first | omega | (dsimp only; omega)), (cpN_0 _ _).symm, (cpN_0 _ _).symm, hP, hD, hS, lv_sub hl [0, 1] rfl⟩
  intro xX H_3 locs ls hI ih1
  obtain ⟨i_l, WA1_1, WA2_1⟩ := xX
  obtain ⟨h_WA1_1, h_WA2_1, hi, c1, c2, hP, hD, hS, hl⟩ := hI
  have hP : va_P D vwCl [(y, .inr (7, [.int (nI mn), .int mtm, .int mgp, .int mlk, .ref y1, .ref y2, .ref y3, .ref y4, .int (nI mp), .ref y5, .ref y6, .ref y7, .ref y8, .ref y9, .ref y10, .ref y11, .ref y12, .ref y13, .ref y14, .ref y15, .int (nI mq), .ref y16, .ref y17, .ref y18, .ref y19, .ref y20, .ref y21, .ref y22, .ref y23, .ref y24, .ref y25, .ref y26, .ref y27, .int 1, .int (nI mbm), .ref y28, .ref y29, .ref y30, .ref y31, .ref y32, .ref y33, .ref y34, .ref y35, .ref y36, .int (nI mbm), .ref y37, .ref y38, .int (nI mrm), .int mro, .int mrs])), (y28, .inl (cI, 8, .inl (fun zy => nI (WA1_1 zy)))), (y29, .inl (cI, 8, .inl (fun zy => nI (WA2_1 zy)))), (y34, .inl (cI, 8, .inl (fun zy => nI (DB1 zy)))), (y35, .inl (cI, 8, .inl (fun zy => nI (DB2 zy))))] H_3 := hP
  have hl : lv_has ls 2 [(1, .int (nI i_l)), (0, .ref y)] := hl
  have h_WA1_1 : ∀ zz, WA1_1 zz ≤ 11 := h_WA1_1
  have h_WA2_1 : ∀ zz, WA2_1 zz ≤ 1 := h_WA2_1
  have hi : i_l ≤ mbm := hi
  have c1 : WA1_1 = cpN i_l DB1 WA1 := c1
  have c2 : WA2_1 = cpN i_l DB2 WA2 := c2
  refine lv_iload_n hx hb d_MO_takeWay_15 rfl (lv_at hl 0 rfl) ?_
  refine lv_aload_n hx hb d_MO_takeWay_16 rfl (lv_at hl 1 rfl) ?_
  refine va_get (D := D) (ci := 7) (v := .int (nI mbm)) (C := R_MO) (T := F_MO) (N := 50) hx hb hts i_MO hown hK hP 0 rfl rfl 44 (by decide) (hts _ q_676) (fun _ h9 => h9) rfl d_MO_takeWay_17 ?_
  refine lv_icmp_ge (tgt := 53) hx hb d_MO_takeWay_20 (by decide) (fun h_4 => ?_) (fun h_4 => ?_)
  · have nh_4 : mbm ≤ i_l := (nI_leI (a := mbm) (b := i_l) (by omega) (by omega)).mp h_4
    have hr_5 : WA1_1 = cpN mbm DB1 WA1 := by rw [c1, show i_l = mbm by omega]
    have hP : va_P D vwCl [(y, .inr (7, [.int (nI mn), .int mtm, .int mgp, .int mlk, .ref y1, .ref y2, .ref y3, .ref y4, .int (nI mp), .ref y5, .ref y6, .ref y7, .ref y8, .ref y9, .ref y10, .ref y11, .ref y12, .ref y13, .ref y14, .ref y15, .int (nI mq), .ref y16, .ref y17, .ref y18, .ref y19, .ref y20, .ref y21, .ref y22, .ref y23, .ref y24, .ref y25, .ref y26, .ref y27, .int 1, .int (nI mbm), .ref y28, .ref y29, .ref y30, .ref y31, .ref y32, .ref y33, .ref y34, .ref y35, .ref y36, .int (nI mbm), .ref y37, .ref y38, .int (nI mrm), .int mro, .int mrs])), (y28, .inl (cI, 8, .inl (fun zy => nI ((cpN mbm DB1 WA1) zy)))), (y29, .inl (cI, 8, .inl (fun zy => nI (WA2_1 zy)))), (y34, .inl (cI, 8, .inl (fun zy => nI (DB1 zy)))), (y35, .inl (cI, 8, .inl (fun zy => nI (DB2 zy))))] H_3 := by rw [← hr_5]; exact hP
    have hD : va_D A [(y, .inr (7, [.int (nI mn), .int mtm, .int mgp, .int mlk, .ref y1, .ref y2, .ref y3, .ref y4, .int (nI mp), .ref y5, .ref y6, .ref y7, .ref y8, .ref y9, .ref y10, .ref y11, .ref y12, .ref y13, .ref y14, .ref y15, .int (nI mq), .ref y16, .ref y17, .ref y18, .ref y19, .ref y20, .ref y21, .ref y22, .ref y23, .ref y24, .ref y25, .ref y26, .ref y27, .int 1, .int (nI mbm), .ref y28, .ref y29, .ref y30, .ref y31, .ref y32, .ref y33, .ref y34, .ref y35, .ref y36, .int (nI mbm), .ref y37, .ref y38, .int (nI mrm), .int mro, .int mrs])), (y28, .inl (cI, 8, .inl (fun zy => nI ((cpN mbm DB1 WA1) zy)))), (y29, .inl (cI, 8, .inl (fun zy => nI (WA2_1 zy)))), (y34, .inl (cI, 8, .inl (fun zy => nI (DB1 zy)))), (y35, .inl (cI, 8, .inl (fun zy => nI (DB2 zy))))] := by rw [← hr_5]; exact hD
    have hr_6 : WA2_1 = cpN mbm DB2 WA2 := by rw [c2, show i_l = mbm by omega]
    have hP : va_P D vwCl [(y, .inr (7, [.int (nI mn), .int mtm, .int mgp, .int mlk, .ref y1, .ref y2, .ref y3, .ref y4, .int (nI mp), .ref y5, .ref y6, .ref y7, .ref y8, .ref y9, .ref y10, .ref y11, .ref y12, .ref y13, .ref y14, .ref y15, .int (nI mq), .ref y16, .ref y17, .ref y18, .ref y19, .ref y20, .ref y21, .ref y22, .ref y23, .ref y24, .ref y25, .ref y26, .ref y27, .int 1, .int (nI mbm), .ref y28, .ref y29, .ref y30, .ref y31, .ref y32, .ref y33, .ref y34, .ref y35, .ref y36, .int (nI mbm), .ref y37, .ref y38, .int (nI mrm), .int mro, .int mrs])), (y28, .inl (cI, 8, .inl (fun zy => nI ((cpN mbm DB1 WA1) zy)))), (y29, .inl (cI, 8, .inl (fun zy => nI ((cpN mbm DB2 WA2) zy)))), (y34, .inl (cI, 8, .inl (fun zy => nI (DB1 zy)))), (y35, .inl (cI, 8, .inl (fun zy => nI (DB2 zy))))] H_3 := by rw [← hr_6]; exact hP
    have hD : va_D A [(y, .inr (7, [.int (nI mn), .int mtm, .int mgp, .int mlk, .ref y1, .ref y2, .ref y3, .ref y4, .int (nI mp), .ref y5, .ref y6, .ref y7, .ref y8, .ref y9, .ref y10, .ref y11, .ref y12, .ref y13, .ref y14, .ref y15, .int (nI mq), .ref y16, .ref y17, .ref y18, .ref y19, .ref y20, .ref y21, .ref y22, .ref y23, .ref y24, .ref y25, .ref y26, .ref y27, .int 1, .int (nI mbm), .ref y28, .ref y29, .ref y30, .ref y31, .ref y32, .ref y33, .ref y34, .ref y35, .ref y36, .int (nI mbm), .ref y37, .ref y38, .int (nI mrm), .int mro, .int mrs])), (y28, .inl (cI, 8, .inl (fun zy => nI ((cpN mbm DB1 WA1) zy)))), (y29, .inl (cI, 8, .inl (fun zy => nI ((cpN mbm DB2 WA2) zy)))), (y34, .inl (cI, 8, .inl (fun zy => nI (DB1 zy)))), (y35, .inl (cI, 8, .inl (fun zy => nI (DB2 zy))))] := by rw [← hr_6]; exact hD
    have hP : va_P D vwCl [(y, .inr (7, [.int (nI mn), .int mtm, .int mgp, .int mlk, .ref y1, .ref y2, .ref y3, .ref y4, .int (nI mp), .ref y5, .ref y6, .ref y7, .ref y8, .ref y9, .ref y10, .ref y11, .ref y12, .ref y13, .ref y14, .ref y15, .int (nI mq), .ref y16, .ref y17, .ref y18, .ref y19, .ref y20, .ref y21, .ref y22, .ref y23, .ref y24, .ref y25, .ref y26, .ref y27, .int 1, .int (nI mbm), .ref y28, .ref y29, .ref y30, .ref y31, .ref y32, .ref y33, .ref y34, .ref y35, .ref y36, .int (nI mbm), .ref y37, .ref y38, .int (nI mrm), .int mro, .int mrs])), (y28, .inl (cI, 8, .inl (fun zy => nI ((cpN mbm DB1 WA1) zy)))), (y29, .inl (cI, 8, .inl (fun zy => nI ((cpN mbm DB2 WA2) zy)))), (y34, .inl (cI, 8, .inl (fun zy => nI (DB1 zy)))), (y35, .inl (cI, 8, .inl (fun zy => nI (DB2 zy))))] H_3 := hP
    have hP9 := hP.sub (ws' := [(y, .inr (7, [.int (nI mn), .int mtm, .int mgp, .int mlk, .ref y1, .ref y2, .ref y3, .ref y4, .int (nI mp), .ref y5, .ref y6, .ref y7, .ref y8, .ref y9, .ref y10, .ref y11, .ref y12, .ref y13, .ref y14, .ref y15, .int (nI mq), .ref y16, .ref y17, .ref y18, .ref y19, .ref y20, .ref y21, .ref y22, .ref y23, .ref y24, .ref y25, .ref y26, .ref y27, .int 1, .int (nI mbm), .ref y28, .ref y29, .ref y30, .ref y31, .ref y32, .ref y33, .ref y34, .ref y35, .ref y36, .int (nI mbm), .ref y37, .ref y38, .int (nI mrm), .int mro, .int mrs])), (y28, .inl (cI, 8, .inl (fun zy => nI ((cpN mbm DB1 WA1) zy)))), (y29, .inl (cI, 8, .inl (fun zy => nI ((cpN mbm DB2 WA2) zy)))), (y34, .inl (cI, 8, .inl (fun zy => nI (DB1 zy)))), (y35, .inl (cI, 8, .inl (fun zy => nI (DB2 zy))))]) [0, 1, 2, 3, 4] rfl
    have hD9 := hD.sub (ws' := [(y, .inr (7, [.int (nI mn), .int mtm, .int mgp, .int mlk, .ref y1, .ref y2, .ref y3, .ref y4, .int (nI mp), .ref y5, .ref y6, .ref y7, .ref y8, .ref y9, .ref y10, .ref y11, .ref y12, .ref y13, .ref y14, .ref y15, .int (nI mq), .ref y16, .ref y17, .ref y18, .ref y19, .ref y20, .ref y21, .ref y22, .ref y23, .ref y24, .ref y25, .ref y26, .ref y27, .int 1, .int (nI mbm), .ref y28, .ref y29, .ref y30, .ref y31, .ref y32, .ref y33, .ref y34, .ref y35, .ref y36, .int (nI mbm), .ref y37, .ref y38, .int (nI mrm), .int mro, .int mrs])), (y28, .inl (cI, 8, .inl (fun zy => nI ((cpN mbm DB1 WA1) zy)))), (y29, .inl (cI, 8, .inl (fun zy => nI ((cpN mbm DB2 WA2) zy)))), (y34, .inl (cI, 8, .inl (fun zy => nI (DB1 zy)))), (y35, .inl (cI, 8, .inl (fun zy => nI (DB2 zy))))]) [0, 1, 2, 3, 4] (by decide +kernel) rfl
    refine W.widen (k := 0) (n := 0) (Nat.le_of_ble_eq_true rfl) (Nat.le_of_ble_eq_true rfl) ?_
    exact W.vret hx hb hr (fun tT ht hW => ⟨⟨(), rfl, trivial, by rw [ht]; exact hP9, hD9⟩, hS.F ht⟩) hS.2.2 d_MO_takeWay_53
  · have nh_4 : ¬ mbm ≤ i_l := fun qZ => h_4 ((nI_leI (a := mbm) (b := i_l) (by omega) (by omega)).mpr qZ)
    refine lv_aload_n hx hb d_MO_takeWay_23 rfl (lv_at hl 1 rfl) ?_
    refine va_get (D := D) (ci := 7) (v := .ref y28) (C := R_MO) (T := F_MO) (N := 50) hx hb hts i_MO hown hK hP 0 rfl rfl 35 (by decide) (hts _ q_667) (fun _ h9 => h9) rfl d_MO_takeWay_24 ?_
    refine lv_iload_n hx hb d_MO_takeWay_27 rfl (lv_at hl 0 rfl) ?_
    refine lv_aload_n hx hb d_MO_takeWay_28 rfl (lv_at hl 1 rfl) ?_
    refine va_get (D := D) (ci := 7) (v := .ref y34) (C := R_MO) (T := F_MO) (N := 50) hx hb hts i_MO hown hK hP 0 rfl rfl 41 (by decide) (hts _ q_673) (fun _ h9 => h9) rfl d_MO_takeWay_29 ?_
    refine lv_iload_n hx hb d_MO_takeWay_32 rfl (lv_at hl 0 rfl) ?_
    refine my_ldN hx hb hK hP 3 rfl i_l rfl (by omega) (by decide) d_MO_takeWay_33 ?_
    have hb_1 : DB1 i_l ≤ 11 := h_DB1 _
    refine my_stN hx hb hK hP hD hS 1 rfl i_l (DB1 i_l) rfl rfl (by omega) (by decide) d_MO_takeWay_34 (fun H_7 locs hP hD hS => ?_)
    have hP : va_P D vwCl [(y, .inr (7, [.int (nI mn), .int mtm, .int mgp, .int mlk, .ref y1, .ref y2, .ref y3, .ref y4, .int (nI mp), .ref y5, .ref y6, .ref y7, .ref y8, .ref y9, .ref y10, .ref y11, .ref y12, .ref y13, .ref y14, .ref y15, .int (nI mq), .ref y16, .ref y17, .ref y18, .ref y19, .ref y20, .ref y21, .ref y22, .ref y23, .ref y24, .ref y25, .ref y26, .ref y27, .int 1, .int (nI mbm), .ref y28, .ref y29, .ref y30, .ref y31, .ref y32, .ref y33, .ref y34, .ref y35, .ref y36, .int (nI mbm), .ref y37, .ref y38, .int (nI mrm), .int mro, .int mrs])), (y28, .inl (cI, 8, .inl (fun zy => nI ((upN WA1_1 i_l (DB1 i_l)) zy)))), (y29, .inl (cI, 8, .inl (fun zy => nI (WA2_1 zy)))), (y34, .inl (cI, 8, .inl (fun zy => nI (DB1 zy)))), (y35, .inl (cI, 8, .inl (fun zy => nI (DB2 zy))))] H_7 := hP
    refine lv_aload_n hx hb d_MO_takeWay_35 rfl (lv_at hl 1 rfl) ?_
    refine va_get (D := D) (ci := 7) (v := .ref y29) (C := R_MO) (T := F_MO) (N := 50) hx hb hts i_MO hown hK hP 0 rfl rfl 36 (by decide) (hts _ q_668) (fun _ h9 => h9) rfl d_MO_takeWay_36 ?_
    refine lv_iload_n hx hb d_MO_takeWay_39 rfl (lv_at hl 0 rfl) ?_
    refine lv_aload_n hx hb d_MO_takeWay_40 rfl (lv_at hl 1 rfl) ?_
    refine va_get (D := D) (ci := 7) (v := .ref y35) (C := R_MO) (T := F_MO) (N := 50) hx hb hts i_MO hown hK hP 0 rfl rfl 42 (by decide) (hts _ q_674) (fun _ h9 => h9) rfl d_MO_takeWay_41 ?_
    refine lv_iload_n hx hb d_MO_takeWay_44 rfl (lv_at hl 0 rfl) ?_
    refine my_ldN hx hb hK hP 4 rfl i_l rfl (by omega) (by decide) d_MO_takeWay_45 ?_
    have hb_2 : DB2 i_l ≤ 1 := h_DB2 _
    refine my_stN hx hb hK hP hD hS 2 rfl i_l (DB2 i_l) rfl rfl (by omega) (by decide) d_MO_takeWay_46 (fun H_8 locs hP hD hS => ?_)
    have hP : va_P D vwCl [(y, .inr (7, [.int (nI mn), .int mtm, .int mgp, .int mlk, .ref y1, .ref y2, .ref y3, .ref y4, .int (nI mp), .ref y5, .ref y6, .ref y7, .ref y8, .ref y9, .ref y10, .ref y11, .ref y12, .ref y13, .ref y14, .ref y15, .int (nI mq), .ref y16, .ref y17, .ref y18, .ref y19, .ref y20, .ref y21, .ref y22, .ref y23, .ref y24, .ref y25, .ref y26, .ref y27, .int 1, .int (nI mbm), .ref y28, .ref y29, .ref y30, .ref y31, .ref y32, .ref y33, .ref y34, .ref y35, .ref y36, .int (nI mbm), .ref y37, .ref y38, .int (nI mrm), .int mro, .int mrs])), (y28, .inl (cI, 8, .inl (fun zy => nI ((upN WA1_1 i_l (DB1 i_l)) zy)))), (y29, .inl (cI, 8, .inl (fun zy => nI ((upN WA2_1 i_l (DB2 i_l)) zy)))), (y34, .inl (cI, 8, .inl (fun zy => nI (DB1 zy)))), (y35, .inl (cI, 8, .inl (fun zy => nI (DB2 zy))))] H_8 := hP
    refine lv_iinc (v := nI (i_l + 1)) (lv' := [(1, .int (nI (i_l + 1))), (0, .ref y)]) hx hb d_MO_takeWay_47 hl (k := 0) rfl (nI_1 i_l) (by decide) rfl (fun ls hl => ?_)
    refine lv_goto (tgt := 15) hx hb d_MO_takeWay_50 (by decide) ?_
    have hPz := hP.sub (ws' := [(y, .inr (7, [.int (nI mn), .int mtm, .int mgp, .int mlk, .ref y1, .ref y2, .ref y3, .ref y4, .int (nI mp), .ref y5, .ref y6, .ref y7, .ref y8, .ref y9, .ref y10, .ref y11, .ref y12, .ref y13, .ref y14, .ref y15, .int (nI mq), .ref y16, .ref y17, .ref y18, .ref y19, .ref y20, .ref y21, .ref y22, .ref y23, .ref y24, .ref y25, .ref y26, .ref y27, .int 1, .int (nI mbm), .ref y28, .ref y29, .ref y30, .ref y31, .ref y32, .ref y33, .ref y34, .ref y35, .ref y36, .int (nI mbm), .ref y37, .ref y38, .int (nI mrm), .int mro, .int mrs])), (y28, .inl (cI, 8, .inl (fun zy => nI ((upN WA1_1 i_l (DB1 i_l)) zy)))), (y29, .inl (cI, 8, .inl (fun zy => nI ((upN WA2_1 i_l (DB2 i_l)) zy)))), (y34, .inl (cI, 8, .inl (fun zy => nI (DB1 zy)))), (y35, .inl (cI, 8, .inl (fun zy => nI (DB2 zy))))]) [0, 1, 2, 3, 4] rfl
    have hDz := hD.sub (ws' := [(y, .inr (7, [.int (nI mn), .int mtm, .int mgp, .int mlk, .ref y1, .ref y2, .ref y3, .ref y4, .int (nI mp), .ref y5, .ref y6, .ref y7, .ref y8, .ref y9, .ref y10, .ref y11, .ref y12, .ref y13, .ref y14, .ref y15, .int (nI mq), .ref y16, .ref y17, .ref y18, .ref y19, .ref y20, .ref y21, .ref y22, .ref y23, .ref y24, .ref y25, .ref y26, .ref y27, .int 1, .int (nI mbm), .ref y28, .ref y29, .ref y30, .ref y31, .ref y32, .ref y33, .ref y34, .ref y35, .ref y36, .int (nI mbm), .ref y37, .ref y38, .int (nI mrm), .int mro, .int mrs])), (y28, .inl (cI, 8, .inl (fun zy => nI ((upN WA1_1 i_l (DB1 i_l)) zy)))), (y29, .inl (cI, 8, .inl (fun zy => nI ((upN WA2_1 i_l (DB2 i_l)) zy)))), (y34, .inl (cI, 8, .inl (fun zy => nI (DB1 zy)))), (y35, .inl (cI, 8, .inl (fun zy => nI (DB2 zy))))]) [0, 1, 2, 3, 4] (by decide) rfl
    exact ih1 ((i_l + 1), (upN WA1_1 i_l (DB1 i_l)), (upN WA2_1 i_l (DB2 i_l))) _ _ _ (by first | omega | (dsimp only; omega)) ⟨(upN_le h_WA1_1 (by omega)), (upN_le h_WA2_1 (by omega)), (by first | omega | (dsimp only; omega)), (by rw [c1]; exact cpN_s _ _ _), (by rw [c2]; exact cpN_s _ _ _), hPz, hDz, hS, lv_sub hl [0, 1] rfl⟩

set_option maxHeartbeats 4000000 in
set_option maxRecDepth 100000 in
theorem e_MO_wayAt (l : Launch) (D : va_G) (cI cZ : ClassId) (y : Nat) (i : Int32) (mn : Nat) (mtm : Int32) (mgp : Int32) (mlk : Int32) (y1 : Nat) (y2 : Nat) (y3 : Nat) (y4 : Nat) (mp : Nat) (y5 : Nat) (y6 : Nat) (y7 : Nat) (y8 : Nat) (y9 : Nat) (y10 : Nat) (y11 : Nat) (y12 : Nat) (y13 : Nat) (y14 : Nat) (y15 : Nat) (mq : Nat) (y16 : Nat) (y17 : Nat) (y18 : Nat) (y19 : Nat) (y20 : Nat) (y21 : Nat) (y22 : Nat) (y23 : Nat) (y24 : Nat) (y25 : Nat) (y26 : Nat) (y27 : Nat) (mhw : Int32) (mwn : Nat) (y28 : Nat) (y29 : Nat) (y30 : Nat) (y31 : Nat) (y32 : Nat) (y33 : Nat) (y34 : Nat) (y35 : Nat) (y36 : Nat) (mbm : Nat) (y37 : Nat) (y38 : Nat) (mrm : Nat) (mro : Int32) (mrs : Int32) (WA1 : Nat → Nat) (sz : Nat) (h_mn : mn ≤ 7) (h_mp : mp ≤ 12) (h_mq : mq ≤ 40) (h_mwn : mwn ≤ 8) (h_mbm : mbm ≤ 8) (h_mrm : mrm ≤ 8) (h_WA1 : ∀ zz, WA1 zz ≤ 11) : Met l ⟨"PromiseChainsModel", "wayAt", "(I)I"⟩ (mw ⟨"PromiseChainsModel", "wayAt", "(I)I"⟩ prog_9_method_19_code 2 (some .int)) ({ frames := 1, cells := 0, slots := 0, locals := 22 }) (va_Pc [.ref y, .int i] (PB D cI cZ sz [(y, .inr (7, [.int (nI mn), .int mtm, .int mgp, .int mlk, .ref y1, .ref y2, .ref y3, .ref y4, .int (nI mp), .ref y5, .ref y6, .ref y7, .ref y8, .ref y9, .ref y10, .ref y11, .ref y12, .ref y13, .ref y14, .ref y15, .int (nI mq), .ref y16, .ref y17, .ref y18, .ref y19, .ref y20, .ref y21, .ref y22, .ref y23, .ref y24, .ref y25, .ref y26, .ref y27, .int mhw, .int (nI mwn), .ref y28, .ref y29, .ref y30, .ref y31, .ref y32, .ref y33, .ref y34, .ref y35, .ref y36, .int (nI mbm), .ref y37, .ref y38, .int (nI mrm), .int mro, .int mrs])), (y28, .inl (cI, 8, .inl (fun zy => nI (WA1 zy))))])) (vp_Si (fun r => r = if mhw = 0 then -1 else gWay mwn WA1 i)) 0 0 (fun _ => False) := by
  refine Met.ofW (cc := prog_9_method_19_code) (maxL := 2) (ret := (some .int)) (by decide) rfl ?_
  intro p e s m args below meth c s₁ B hml hv
  obtain ⟨rfl, hsz, hP, hK, hD0, hN⟩ := hv
  have hx := B.exec
  have hb := B.bytes
  have hr := B.returns
  have hts0 := atoms_spec (ws := mw ⟨"PromiseChainsModel", "wayAt", "(I)I"⟩ prog_9_method_19_code 2 (some .int)) B.pre
  have hts : ∀ w ∈ tblG, w.before _ s = true := fun w h => hts0 w (List.mem_cons_of_mem _ h)
  have hown : s.vm.findClass "PromiseChainsModel" = some m.cls := findClass_of_methodNamed B.named
  have hlocks := B.notSynchronized
  subst hsz
  have hD := hD0
  have hP : va_P D vwCl [(y, .inr (7, [.int (nI mn), .int mtm, .int mgp, .int mlk, .ref y1, .ref y2, .ref y3, .ref y4, .int (nI mp), .ref y5, .ref y6, .ref y7, .ref y8, .ref y9, .ref y10, .ref y11, .ref y12, .ref y13, .ref y14, .ref y15, .int (nI mq), .ref y16, .ref y17, .ref y18, .ref y19, .ref y20, .ref y21, .ref y22, .ref y23, .ref y24, .ref y25, .ref y26, .ref y27, .int mhw, .int (nI mwn), .ref y28, .ref y29, .ref y30, .ref y31, .ref y32, .ref y33, .ref y34, .ref y35, .ref y36, .int (nI mbm), .ref y37, .ref y38, .int (nI mrm), .int mro, .int mrs])), (y28, .inl (cI, 8, .inl (fun zy => nI (WA1 zy))))] s.heap := hP
  have hl := lv_entry ([.ref y, .int i]) (n := 2) (Nat.le_of_ble_eq_true rfl)
  rw [lg_entry_eq]
  generalize (lg_sl ([.ref y, .int i]) ++ List.replicate (2 - (lg_sl ([.ref y, .int i])).length) Slot.unset).toArray = ls at hl ⊢
  have hl : lv_has ls 2 [(0, .ref y), (1, .int i)] := hl
  refine lv_aload_n hx hb d_MO_wayAt_0 rfl (lv_at hl 0 rfl) ?_
  refine va_get (D := D) (ci := 7) (v := .int mhw) (C := R_MO) (T := F_MO) (N := 50) hx hb hts i_MO hown hK hP 0 rfl rfl 33 (by decide) (hts _ q_665) (fun _ h9 => h9) rfl d_MO_wayAt_1 ?_
  refine lv_if_eq (tgt := 30) hx hb d_MO_wayAt_4 (by decide) (fun h_1 => ?_) (fun h_1 => ?_)
  · refine lv_iconst (v := (-1)) hx hb d_MO_wayAt_30 (by decide) ?_
    exact W.iret (v := (-1)) hx hb hr (fun tT ht hW => ⟨(-1), rfl, (by rw [if_pos h_1]), ht⟩) (fun q h => absurd h List.not_mem_nil) d_MO_wayAt_31
  · refine lv_iload_n hx hb d_MO_wayAt_7 rfl (lv_at hl 1 rfl) ?_
    refine lv_iconst (v := 0) hx hb d_MO_wayAt_8 (by decide) ?_
    refine lv_aload_n hx hb d_MO_wayAt_9 rfl (lv_at hl 0 rfl) ?_
    refine va_get (D := D) (ci := 7) (v := .int (nI mwn)) (C := R_MO) (T := F_MO) (N := 50) hx hb hts i_MO hown hK hP 0 rfl rfl 34 (by decide) (hts _ q_666) (fun _ h9 => h9) rfl d_MO_wayAt_10 ?_
    refine lv_iconst (v := 1) hx hb d_MO_wayAt_13 (by decide) ?_
    refine lv_isub hx hb d_MO_wayAt_14 ?_
    have hPc := hP.sub (ws' := []) [] rfl
    have hDc := hD.sub (ws' := []) [] (by decide +kernel) rfl
    refine vp_callSi (va_Run.run (va_runS (As := [.int i, .int 0, .int ((nI mwn) - 1)]) (rest := []) ⟨hx, hb, hml, hown, hts⟩ (e_MO_in l D cI cZ i 0 ((nI mwn) - 1) s.heap.size ) (my_cwS 3 hts q_789 q_787 q_788 q_8 rfl rfl (by decide +kernel) ⟨Nat.le_of_ble_eq_true rfl, Nat.le_of_ble_eq_true rfl⟩) (my_preS hPc hDc hK hN) rfl rfl hl.1 rfl (lv_room (Nat.le_of_ble_eq_true rfl)) d_MO_wayAt_15 ⟨Nat.le_of_ble_eq_true rfl, Nat.le_of_ble_eq_true rfl⟩)) (fun r_2 hw_2 => ?_)
    have hf_2_0 : r_2 = isw i 0 ((nI mwn) - 1) := hw_2
    have hf_2_0 : r_2 = isw i 0 ((nI mwn) - 1) := hf_2_0
    subst hf_2_0
    refine lv_if_eq (tgt := 30) hx hb d_MO_wayAt_18 (by decide) (fun h_3 => ?_) (fun h_3 => ?_)
    · refine lv_iconst (v := (-1)) hx hb d_MO_wayAt_30 (by decide) ?_
      exact W.iret (v := (-1)) hx hb hr (fun tT ht hW => ⟨(-1), rfl, (by rw [if_neg h_1]; unfold gWay; rw [if_pos h_3]), ht⟩) (fun q h => absurd h List.not_mem_nil) d_MO_wayAt_31
    · refine lv_aload_n hx hb d_MO_wayAt_21 rfl (lv_at hl 0 rfl) ?_
      refine va_get (D := D) (ci := 7) (v := .ref y28) (C := R_MO) (T := F_MO) (N := 50) hx hb hts i_MO hown hK hP 0 rfl rfl 35 (by decide) (hts _ q_667) (fun _ h9 => h9) rfl d_MO_wayAt_22 ?_
      obtain ⟨j_4, hx_5, rfl⟩ := isw_nI (by omega) h_3
      refine lv_iload_n hx hb d_MO_wayAt_25 rfl (lv_at hl 1 rfl) ?_
      refine my_ldN hx hb hK hP 1 rfl j_4 rfl (by omega) (by decide) d_MO_wayAt_26 ?_
      have hb_1 : WA1 j_4 ≤ 11 := h_WA1 _
      refine lv_goto (tgt := 31) hx hb d_MO_wayAt_27 (by decide) ?_
      exact W.iret (v := (nI (WA1 j_4))) hx hb hr (fun tT ht hW => ⟨(nI (WA1 j_4)), rfl, (by rw [if_neg h_1]; unfold gWay; rw [if_neg h_3, nI_clamp (by omega)]), ht⟩) (fun q h => absurd h List.not_mem_nil) d_MO_wayAt_31

set_option maxHeartbeats 4000000 in
set_option maxRecDepth 100000 in
theorem e_MO_isOpen (l : Launch) (D : va_G) (cI cZ : ClassId) (y : Nat) (q : Nat) (mn : Nat) (mtm : Int32) (mgp : Int32) (mlk : Int32) (y1 : Nat) (y2 : Nat) (y3 : Nat) (y4 : Nat) (mp : Nat) (y5 : Nat) (y6 : Nat) (y7 : Nat) (y8 : Nat) (y9 : Nat) (y10 : Nat) (y11 : Nat) (y12 : Nat) (y13 : Nat) (y14 : Nat) (y15 : Nat) (mq : Nat) (y16 : Nat) (y17 : Nat) (y18 : Nat) (y19 : Nat) (y20 : Nat) (y21 : Nat) (y22 : Nat) (y23 : Nat) (y24 : Nat) (y25 : Nat) (y26 : Nat) (y27 : Nat) (mhw : Int32) (mwn : Nat) (y28 : Nat) (y29 : Nat) (y30 : Nat) (y31 : Nat) (y32 : Nat) (y33 : Nat) (y34 : Nat) (y35 : Nat) (y36 : Nat) (mbm : Nat) (y37 : Nat) (y38 : Nat) (mrm : Nat) (mro : Int32) (mrs : Int32) (PA3 : Nat → Nat) (PA4 : Nat → Int32) (PA5 : Nat → Int32) (sz : Nat) (h_mn : mn ≤ 7) (h_mp : mp ≤ 12) (h_mq : mq ≤ 40) (h_mwn : mwn ≤ 8) (h_mbm : mbm ≤ 8) (h_mrm : mrm ≤ 8) (h_PA3 : ∀ zz, PA3 zz ≤ 8) (hq : q < 40) : Met l ⟨"PromiseChainsModel", "isOpen", "(I)Z"⟩ (mw ⟨"PromiseChainsModel", "isOpen", "(I)Z"⟩ prog_9_method_21_code 2 (some .boolean)) ({ frames := 0, cells := 0, slots := 0, locals := 0 }) (va_Pc [.ref y, .int (nI q)] (PB D cI cZ sz [(y, .inr (7, [.int (nI mn), .int mtm, .int mgp, .int mlk, .ref y1, .ref y2, .ref y3, .ref y4, .int (nI mp), .ref y5, .ref y6, .ref y7, .ref y8, .ref y9, .ref y10, .ref y11, .ref y12, .ref y13, .ref y14, .ref y15, .int (nI mq), .ref y16, .ref y17, .ref y18, .ref y19, .ref y20, .ref y21, .ref y22, .ref y23, .ref y24, .ref y25, .ref y26, .ref y27, .int mhw, .int (nI mwn), .ref y28, .ref y29, .ref y30, .ref y31, .ref y32, .ref y33, .ref y34, .ref y35, .ref y36, .int (nI mbm), .ref y37, .ref y38, .int (nI mrm), .int mro, .int mrs])), (y18, .inl (cI, 40, .inl (fun zy => nI (PA3 zy)))), (y19, .inl (cI, 40, .inl PA4)), (y20, .inl (cI, 40, .inl PA5))])) (vp_Si (fun r => (¬ PA4 q + PA5 q < nI (PA3 q) ∧ r = 0) ∨ (PA4 q + PA5 q < nI (PA3 q) ∧ r = 1))) 0 0 (fun _ => False) := by
  refine Met.ofW (cc := prog_9_method_21_code) (maxL := 2) (ret := (some .boolean)) (by decide) rfl ?_
  intro p e s m args below meth c s₁ B hml hv
  obtain ⟨rfl, hsz, hP, hK, hD0, hN⟩ := hv
  have hx := B.exec
  have hb := B.bytes
  have hr := B.returns
  have hts0 := atoms_spec (ws := mw ⟨"PromiseChainsModel", "isOpen", "(I)Z"⟩ prog_9_method_21_code 2 (some .boolean)) B.pre
  have hts : ∀ w ∈ tblG, w.before _ s = true := fun w h => hts0 w (List.mem_cons_of_mem _ h)
  have hown : s.vm.findClass "PromiseChainsModel" = some m.cls := findClass_of_methodNamed B.named
  have hlocks := B.notSynchronized
  subst hsz
  have hD := hD0
  have hP : va_P D vwCl [(y, .inr (7, [.int (nI mn), .int mtm, .int mgp, .int mlk, .ref y1, .ref y2, .ref y3, .ref y4, .int (nI mp), .ref y5, .ref y6, .ref y7, .ref y8, .ref y9, .ref y10, .ref y11, .ref y12, .ref y13, .ref y14, .ref y15, .int (nI mq), .ref y16, .ref y17, .ref y18, .ref y19, .ref y20, .ref y21, .ref y22, .ref y23, .ref y24, .ref y25, .ref y26, .ref y27, .int mhw, .int (nI mwn), .ref y28, .ref y29, .ref y30, .ref y31, .ref y32, .ref y33, .ref y34, .ref y35, .ref y36, .int (nI mbm), .ref y37, .ref y38, .int (nI mrm), .int mro, .int mrs])), (y18, .inl (cI, 40, .inl (fun zy => nI (PA3 zy)))), (y19, .inl (cI, 40, .inl PA4)), (y20, .inl (cI, 40, .inl PA5))] s.heap := hP
  have hl := lv_entry ([.ref y, .int (nI q)]) (n := 2) (Nat.le_of_ble_eq_true rfl)
  rw [lg_entry_eq]
  generalize (lg_sl ([.ref y, .int (nI q)]) ++ List.replicate (2 - (lg_sl ([.ref y, .int (nI q)])).length) Slot.unset).toArray = ls at hl ⊢
  have hl : lv_has ls 2 [(0, .ref y), (1, .int (nI q))] := hl
  refine lv_aload_n hx hb d_MO_isOpen_0 rfl (lv_at hl 0 rfl) ?_
  refine va_get (D := D) (ci := 7) (v := .ref y19) (C := R_MO) (T := F_MO) (N := 50) hx hb hts i_MO hown hK hP 0 rfl rfl 24 (by decide) (hts _ q_656) (fun _ h9 => h9) rfl d_MO_isOpen_1 ?_
  refine lv_iload_n hx hb d_MO_isOpen_4 rfl (lv_at hl 1 rfl) ?_
  refine my_ldI hx hb hK hP 2 rfl q rfl (by omega) (by decide) d_MO_isOpen_5 ?_
  refine lv_aload_n hx hb d_MO_isOpen_6 rfl (lv_at hl 0 rfl) ?_
  refine va_get (D := D) (ci := 7) (v := .ref y20) (C := R_MO) (T := F_MO) (N := 50) hx hb hts i_MO hown hK hP 0 rfl rfl 25 (by decide) (hts _ q_657) (fun _ h9 => h9) rfl d_MO_isOpen_7 ?_
  refine lv_iload_n hx hb d_MO_isOpen_10 rfl (lv_at hl 1 rfl) ?_
  refine my_ldI hx hb hK hP 3 rfl q rfl (by omega) (by decide) d_MO_isOpen_11 ?_
  refine lv_iadd hx hb d_MO_isOpen_12 ?_
  refine lv_aload_n hx hb d_MO_isOpen_13 rfl (lv_at hl 0 rfl) ?_
  refine va_get (D := D) (ci := 7) (v := .ref y18) (C := R_MO) (T := F_MO) (N := 50) hx hb hts i_MO hown hK hP 0 rfl rfl 23 (by decide) (hts _ q_655) (fun _ h9 => h9) rfl d_MO_isOpen_14 ?_
  refine lv_iload_n hx hb d_MO_isOpen_17 rfl (lv_at hl 1 rfl) ?_
  refine my_ldN hx hb hK hP 1 rfl q rfl (by omega) (by decide) d_MO_isOpen_18 ?_
  have hb_1 : PA3 q ≤ 8 := h_PA3 _
  refine lv_icmp_ge (tgt := 26) hx hb d_MO_isOpen_19 (by decide) (fun h_1 => ?_) (fun h_1 => ?_)
  · refine lv_iconst (v := 0) hx hb d_MO_isOpen_26 (by decide) ?_
    exact W.zret (v := 0) hx hb hr rfl (fun tT ht hW => ⟨0, rfl, (Or.inl (⟨(Int32.not_lt.mpr h_1), rfl⟩)), ht⟩) (fun q h => absurd h List.not_mem_nil) d_MO_isOpen_27
  · refine lv_iconst (v := 1) hx hb d_MO_isOpen_22 (by decide) ?_
    refine lv_goto (tgt := 27) hx hb d_MO_isOpen_23 (by decide) ?_
    exact W.zret (v := 1) hx hb hr rfl (fun tT ht hW => ⟨1, rfl, (Or.inr (⟨(Int32.not_le.mp h_1), rfl⟩)), ht⟩) (fun q h => absurd h List.not_mem_nil) d_MO_isOpen_27

set_option maxHeartbeats 4000000 in
set_option maxRecDepth 100000 in
theorem e_MO_size (l : Launch) (D : va_G) (cI cZ : ClassId) (v : Int32) (sz : Nat)  : Met l ⟨"PromiseChainsModel", "size", "(I)I"⟩ (mw ⟨"PromiseChainsModel", "size", "(I)I"⟩ prog_9_method_39_code 1 (some .int)) ({ frames := 0, cells := 0, slots := 0, locals := 0 }) (va_Pc [.int v] (PB D cI cZ sz [])) (vp_Si (fun r => r = oabs v)) 0 0 (fun _ => False) := by
  refine Met.ofW (cc := prog_9_method_39_code) (maxL := 1) (ret := (some .int)) (by decide) rfl ?_
  intro p e s m args below meth c s₁ B hml hv
  obtain ⟨rfl, hsz, hP, hK, hD0, hN⟩ := hv
  have hx := B.exec
  have hb := B.bytes
  have hr := B.returns
  have hts0 := atoms_spec (ws := mw ⟨"PromiseChainsModel", "size", "(I)I"⟩ prog_9_method_39_code 1 (some .int)) B.pre
  have hts : ∀ w ∈ tblG, w.before _ s = true := fun w h => hts0 w (List.mem_cons_of_mem _ h)
  have hown : s.vm.findClass "PromiseChainsModel" = some m.cls := findClass_of_methodNamed B.named
  have hlocks := B.notSynchronized
  subst hsz
  have hD := hD0
  have hP : va_P D vwCl [] s.heap := hP
  have hl := lv_entry ([.int v]) (n := 1) (Nat.le_of_ble_eq_true rfl)
  rw [lg_entry_eq]
  generalize (lg_sl ([.int v]) ++ List.replicate (1 - (lg_sl ([.int v])).length) Slot.unset).toArray = ls at hl ⊢
  have hl : lv_has ls 1 [(0, .int v)] := hl
  refine lv_iload_n hx hb d_MO_size_0 rfl (lv_at hl 0 rfl) ?_
  refine lv_if_ge (tgt := 9) hx hb d_MO_size_1 (by decide) (fun h_1 => ?_) (fun h_1 => ?_)
  · refine lv_iload_n hx hb d_MO_size_9 rfl (lv_at hl 0 rfl) ?_
    exact W.iret (v := v) hx hb hr (fun tT ht hW => ⟨v, rfl, (by rw [oabs_m]; rw [if_neg (Int32.not_lt.mpr h_1)]), ht⟩) (fun q h => absurd h List.not_mem_nil) d_MO_size_10
  · refine lv_iload_n hx hb d_MO_size_4 rfl (lv_at hl 0 rfl) ?_
    refine lv_ineg hx hb d_MO_size_5 ?_
    refine lv_goto (tgt := 10) hx hb d_MO_size_6 (by decide) ?_
    exact W.iret (v := (-v)) hx hb hr (fun tT ht hW => ⟨(-v), rfl, (by rw [oabs_m]; rw [if_pos (Int32.not_le.mp h_1)]), ht⟩) (fun q h => absurd h List.not_mem_nil) d_MO_size_10

set_option maxHeartbeats 4000000 in
set_option maxRecDepth 100000 in
theorem e_MO_off (l : Launch) (D : va_G) (cI cZ : ClassId) (y : Nat) (mn : Nat) (mtm : Int32) (mgp : Int32) (mlk : Int32) (y1 : Nat) (y2 : Nat) (y3 : Nat) (y4 : Nat) (mp : Nat) (y5 : Nat) (y6 : Nat) (y7 : Nat) (y8 : Nat) (y9 : Nat) (y10 : Nat) (y11 : Nat) (y12 : Nat) (y13 : Nat) (y14 : Nat) (y15 : Nat) (mq : Nat) (y16 : Nat) (y17 : Nat) (y18 : Nat) (y19 : Nat) (y20 : Nat) (y21 : Nat) (y22 : Nat) (y23 : Nat) (y24 : Nat) (y25 : Nat) (y26 : Nat) (y27 : Nat) (mhw : Int32) (mwn : Nat) (y28 : Nat) (y29 : Nat) (y30 : Nat) (y31 : Nat) (y32 : Nat) (y33 : Nat) (y34 : Nat) (y35 : Nat) (y36 : Nat) (mbm : Nat) (y37 : Nat) (y38 : Nat) (mrm : Nat) (mro : Int32) (mrs : Int32) (MS : Nat → Int32) (MU : Nat → Int32) (sz : Nat) (h_mn : mn ≤ 7) (h_mp : mp ≤ 12) (h_mq : mq ≤ 40) (h_mwn : mwn ≤ 8) (h_mbm : mbm ≤ 8) (h_mrm : mrm ≤ 8) : Met l ⟨"PromiseChainsModel", "off", "()I"⟩ (mw ⟨"PromiseChainsModel", "off", "()I"⟩ prog_9_method_40_code 3 (some .int)) ({ frames := 1, cells := 0, slots := 0, locals := 20 }) (va_Pc [.ref y] (PB D cI cZ sz [(y, .inr (7, [.int (nI mn), .int mtm, .int mgp, .int mlk, .ref y1, .ref y2, .ref y3, .ref y4, .int (nI mp), .ref y5, .ref y6, .ref y7, .ref y8, .ref y9, .ref y10, .ref y11, .ref y12, .ref y13, .ref y14, .ref y15, .int (nI mq), .ref y16, .ref y17, .ref y18, .ref y19, .ref y20, .ref y21, .ref y22, .ref y23, .ref y24, .ref y25, .ref y26, .ref y27, .int mhw, .int (nI mwn), .ref y28, .ref y29, .ref y30, .ref y31, .ref y32, .ref y33, .ref y34, .ref y35, .ref y36, .int (nI mbm), .ref y37, .ref y38, .int (nI mrm), .int mro, .int mrs])), (y6, .inl (cI, 24, .inl MS)), (y8, .inl (cI, 12, .inl MU))])) (vp_Si (fun r => r = sumO MS MU mp)) 0 0 (fun _ => False) := by
  refine Met.ofW (cc := prog_9_method_40_code) (maxL := 3) (ret := (some .int)) (by decide) rfl ?_
  intro p e s m args below meth c s₁ B hml hv
  obtain ⟨rfl, hsz, hP, hK, hD0, hN⟩ := hv
  have hx := B.exec
  have hb := B.bytes
  have hr := B.returns
  have hts0 := atoms_spec (ws := mw ⟨"PromiseChainsModel", "off", "()I"⟩ prog_9_method_40_code 3 (some .int)) B.pre
  have hts : ∀ w ∈ tblG, w.before _ s = true := fun w h => hts0 w (List.mem_cons_of_mem _ h)
  have hown : s.vm.findClass "PromiseChainsModel" = some m.cls := findClass_of_methodNamed B.named
  have hlocks := B.notSynchronized
  subst hsz
  have hD := hD0
  have hP : va_P D vwCl [(y, .inr (7, [.int (nI mn), .int mtm, .int mgp, .int mlk, .ref y1, .ref y2, .ref y3, .ref y4, .int (nI mp), .ref y5, .ref y6, .ref y7, .ref y8, .ref y9, .ref y10, .ref y11, .ref y12, .ref y13, .ref y14, .ref y15, .int (nI mq), .ref y16, .ref y17, .ref y18, .ref y19, .ref y20, .ref y21, .ref y22, .ref y23, .ref y24, .ref y25, .ref y26, .ref y27, .int mhw, .int (nI mwn), .ref y28, .ref y29, .ref y30, .ref y31, .ref y32, .ref y33, .ref y34, .ref y35, .ref y36, .int (nI mbm), .ref y37, .ref y38, .int (nI mrm), .int mro, .int mrs])), (y6, .inl (cI, 24, .inl MS)), (y8, .inl (cI, 12, .inl MU))] s.heap := hP
  have hl := lv_entry ([.ref y]) (n := 3) (Nat.le_of_ble_eq_true rfl)
  rw [lg_entry_eq]
  generalize (lg_sl ([.ref y]) ++ List.replicate (3 - (lg_sl ([.ref y])).length) Slot.unset).toArray = ls at hl ⊢
  have hl : lv_has ls 3 [(0, .ref y)] := hl
  refine lv_iconst (v := 0) hx hb d_MO_off_0 (by decide) ?_
  refine lv_istore_n (lv' := [(1, .int 0), (0, .ref y)]) hx hb d_MO_off_1 rfl hl (by decide) rfl (fun ls hl => ?_)
  refine lv_iconst (v := 0) hx hb d_MO_off_2 (by decide) ?_
  refine lv_istore_n (lv' := [(2, .int 0), (1, .int 0), (0, .ref y)]) hx hb d_MO_off_3 rfl hl (by decide) rfl (fun ls hl => ?_)
  refine W_loop (σ := Nat × Int32) (I := fun xX H locs ls => xX.1 ≤ mp ∧ xX.2 = sumO MS MU xX.1 ∧ H = s.heap ∧ locs = [] ∧ lv_has ls 3 [(2, .int (nI xX.1)), (1, .int xX.2), (0, .ref y)]) (μ := fun xX => 13 - xX.1) ?_ (0, 0) ⟨(by first | omega | (dsimp only; omega)), rfl, rfl, rfl, lv_sub hl [0, 1, 2] rfl⟩
  intro xX H_1 locs ls hI ih1
  obtain ⟨i_l, sm_v⟩ := xX
  obtain ⟨hi, hsm, rfl, rfl, hl⟩ := hI
  have hl : lv_has ls 3 [(2, .int (nI i_l)), (1, .int sm_v), (0, .ref y)] := hl
  have hi : i_l ≤ mp := hi
  have hsm : sm_v = sumO MS MU i_l := hsm
  refine lv_iload_n hx hb d_MO_off_4 rfl (lv_at hl 0 rfl) ?_
  refine lv_aload_n hx hb d_MO_off_5 rfl (lv_at hl 2 rfl) ?_
  refine va_get (D := D) (ci := 7) (v := .int (nI mp)) (C := R_MO) (T := F_MO) (N := 50) hx hb hts i_MO hown hK hP 0 rfl rfl 8 (by decide) (hts _ q_640) (fun _ h9 => h9) rfl d_MO_off_6 ?_
  refine lv_icmp_ge (tgt := 56) hx hb d_MO_off_9 (by decide) (fun h_2 => ?_) (fun h_2 => ?_)
  · have nh_2 : mp ≤ i_l := (nI_leI (a := mp) (b := i_l) (by omega) (by omega)).mp h_2
    refine lv_iload_n hx hb d_MO_off_56 rfl (lv_at hl 1 rfl) ?_
    exact W.iret (v := sm_v) hx hb hr (fun tT ht hW => ⟨sm_v, rfl, (by rw [← show i_l = mp by omega]; exact hsm), ht⟩) (fun q h => absurd h List.not_mem_nil) d_MO_off_57
  · have nh_2 : ¬ mp ≤ i_l := fun qZ => h_2 ((nI_leI (a := mp) (b := i_l) (by omega) (by omega)).mpr qZ)
    refine lv_iload_n hx hb d_MO_off_12 rfl (lv_at hl 1 rfl) ?_
    refine lv_aload_n hx hb d_MO_off_13 rfl (lv_at hl 2 rfl) ?_
    refine va_get (D := D) (ci := 7) (v := .ref y8) (C := R_MO) (T := F_MO) (N := 50) hx hb hts i_MO hown hK hP 0 rfl rfl 12 (by decide) (hts _ q_644) (fun _ h9 => h9) rfl d_MO_off_14 ?_
    refine lv_iload_n hx hb d_MO_off_17 rfl (lv_at hl 0 rfl) ?_
    refine my_ldI hx hb hK hP 2 rfl i_l rfl (by omega) (by decide) d_MO_off_18 ?_
    refine lv_if_ne (tgt := 47) hx hb d_MO_off_19 (by decide) (fun h_3 => ?_) (fun h_3 => ?_)
    · refine lv_iconst (v := 0) hx hb d_MO_off_47 (by decide) ?_
      refine lv_iadd hx hb d_MO_off_48 ?_
      refine lv_istore_n (lv' := [(1, .int (sm_v + 0)), (2, .int (nI i_l)), (0, .ref y)]) hx hb d_MO_off_49 rfl hl (by decide) rfl (fun ls hl => ?_)
      refine lv_iinc (v := nI (i_l + 1)) (lv' := [(2, .int (nI (i_l + 1))), (1, .int (sm_v + 0)), (0, .ref y)]) hx hb d_MO_off_50 hl (k := 1) rfl (nI_1 i_l) (by decide) rfl (fun ls hl => ?_)
      refine lv_goto (tgt := 4) hx hb d_MO_off_53 (by decide) ?_
      exact ih1 ((i_l + 1), sm_v + 0) _ _ _ (by first | omega | (dsimp only; omega)) ⟨(by first | omega | (dsimp only; omega)), (sumO_nm hsm h_3), rfl, rfl, lv_sub hl [0, 1, 2] rfl⟩
    · refine lv_aload_n hx hb d_MO_off_22 rfl (lv_at hl 2 rfl) ?_
      refine va_get (D := D) (ci := 7) (v := .ref y6) (C := R_MO) (T := F_MO) (N := 50) hx hb hts i_MO hown hK hP 0 rfl rfl 10 (by decide) (hts _ q_642) (fun _ h9 => h9) rfl d_MO_off_23 ?_
      refine lv_iconst (v := 2) hx hb d_MO_off_26 (by decide) ?_
      refine lv_iload_n hx hb d_MO_off_27 rfl (lv_at hl 0 rfl) ?_
      refine lv_imul hx hb d_MO_off_28 ?_
      refine lv_seti (nI (2 * i_l)) (pk_mul 2 i_l) ?_
      refine my_ldI hx hb hK hP 1 rfl (2 * i_l) rfl (by omega) (by decide) d_MO_off_29 ?_
      refine lv_aload_n hx hb d_MO_off_30 rfl (lv_at hl 2 rfl) ?_
      refine va_get (D := D) (ci := 7) (v := .ref y6) (C := R_MO) (T := F_MO) (N := 50) hx hb hts i_MO hown hK hP 0 rfl rfl 10 (by decide) (hts _ q_642) (fun _ h9 => h9) rfl d_MO_off_31 ?_
      refine lv_iconst (v := 2) hx hb d_MO_off_34 (by decide) ?_
      refine lv_iload_n hx hb d_MO_off_35 rfl (lv_at hl 0 rfl) ?_
      refine lv_imul hx hb d_MO_off_36 ?_
      refine lv_seti (nI (2 * i_l)) (pk_mul 2 i_l) ?_
      refine lv_iconst (v := 1) hx hb d_MO_off_37 (by decide) ?_
      refine lv_iadd hx hb d_MO_off_38 ?_
      refine lv_seti (nI ((2 * i_l) + 1)) (nI_add (2 * i_l) 1) ?_
      refine my_ldI hx hb hK hP 1 rfl ((2 * i_l) + 1) rfl (by omega) (by decide) d_MO_off_39 ?_
      refine lv_isub hx hb d_MO_off_40 ?_
      have hPc := hP.sub (ws' := []) [] rfl
      have hDc := hD.sub (ws' := []) [] (by decide +kernel) rfl
      refine vp_callSi (va_Run.run (va_runS (As := [.int ((MS (2 * i_l)) - (MS ((2 * i_l) + 1)))]) (rest := [.int sm_v]) ⟨hx, hb, hml, hown, hts⟩ (e_MO_size l D cI cZ ((MS (2 * i_l)) - (MS ((2 * i_l) + 1))) s.heap.size ) (my_cwS 1 hts q_933 q_931 q_932 q_8 rfl rfl (by decide +kernel) ⟨Nat.le_of_ble_eq_true rfl, Nat.le_of_ble_eq_true rfl⟩) (my_preS hPc hDc hK hN) rfl rfl hl.1 rfl (lv_room (Nat.le_of_ble_eq_true rfl)) d_MO_off_41 ⟨Nat.le_of_ble_eq_true rfl, Nat.le_of_ble_eq_true rfl⟩)) (fun r_4 hw_4 => ?_)
      have hf_4_0 : r_4 = oabs ((MS (2 * i_l)) - (MS ((2 * i_l) + 1))) := hw_4
      have hf_4_0 : r_4 = oabs ((MS (2 * i_l)) - (MS ((2 * i_l) + 1))) := hf_4_0
      subst hf_4_0
      refine lv_goto (tgt := 48) hx hb d_MO_off_44 (by decide) ?_
      refine lv_iadd hx hb d_MO_off_48 ?_
      refine lv_istore_n (lv' := [(1, .int (sm_v + (oabs ((MS (2 * i_l)) - (MS ((2 * i_l) + 1)))))), (2, .int (nI i_l)), (0, .ref y)]) hx hb d_MO_off_49 rfl hl (by decide) rfl (fun ls hl => ?_)
      refine lv_iinc (v := nI (i_l + 1)) (lv' := [(2, .int (nI (i_l + 1))), (1, .int (sm_v + (oabs ((MS (2 * i_l)) - (MS ((2 * i_l) + 1)))))), (0, .ref y)]) hx hb d_MO_off_50 hl (k := 1) rfl (nI_1 i_l) (by decide) rfl (fun ls hl => ?_)
      refine lv_goto (tgt := 4) hx hb d_MO_off_53 (by decide) ?_
      exact ih1 ((i_l + 1), sm_v + (oabs ((MS (2 * i_l)) - (MS ((2 * i_l) + 1))))) _ _ _ (by first | omega | (dsimp only; omega)) ⟨(by first | omega | (dsimp only; omega)), (sumO_ym hsm h_3), rfl, rfl, lv_sub hl [0, 1, 2] rfl⟩
