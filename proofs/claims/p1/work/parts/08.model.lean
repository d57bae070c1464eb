theorem d_MO_isPerson_0 : decode prog_9_method_4_code 0 = .ok (.iload_n 1, 1) := by decide +kernel
theorem d_MO_isPerson_1 : decode prog_9_method_4_code 1 = .ok (.iconst 0, 1) := by decide +kernel
theorem d_MO_isPerson_2 : decode prog_9_method_4_code 2 = .ok (.aload_n 0, 1) := by decide +kernel
theorem d_MO_isPerson_3 : decode prog_9_method_4_code 3 = .ok (.getfield 7, 3) := by decide +kernel
theorem d_MO_isPerson_6 : decode prog_9_method_4_code 6 = .ok (.iconst 1, 1) := by decide +kernel
theorem d_MO_isPerson_7 : decode prog_9_method_4_code 7 = .ok (.isub, 1) := by decide +kernel
theorem d_MO_isPerson_8 : decode prog_9_method_4_code 8 = .ok (.invokestatic 135, 3) := by decide +kernel
theorem d_MO_isPerson_11 : decode prog_9_method_4_code 11 = .ok (.ireturn, 1) := by decide +kernel
theorem d_MO_isPair_0 : decode prog_9_method_5_code 0 = .ok (.iload_n 1, 1) := by decide +kernel
theorem d_MO_isPair_1 : decode prog_9_method_5_code 1 = .ok (.iconst 0, 1) := by decide +kernel
theorem d_MO_isPair_2 : decode prog_9_method_5_code 2 = .ok (.aload_n 0, 1) := by decide +kernel
theorem d_MO_isPair_3 : decode prog_9_method_5_code 3 = .ok (.getfield 139, 3) := by decide +kernel
theorem d_MO_isPair_6 : decode prog_9_method_5_code 6 = .ok (.iconst 1, 1) := by decide +kernel
theorem d_MO_isPair_7 : decode prog_9_method_5_code 7 = .ok (.isub, 1) := by decide +kernel
theorem d_MO_isPair_8 : decode prog_9_method_5_code 8 = .ok (.invokestatic 135, 3) := by decide +kernel
theorem d_MO_isPair_11 : decode prog_9_method_5_code 11 = .ok (.ireturn, 1) := by decide +kernel
theorem d_MO_people_0 : decode prog_9_method_6_code 0 = .ok (.iload_n 1, 1) := by decide +kernel
theorem d_MO_people_1 : decode prog_9_method_6_code 1 = .ok (.iconst 2, 1) := by decide +kernel
theorem d_MO_people_2 : decode prog_9_method_6_code 2 = .ok (.bipush 7, 2) := by decide +kernel
theorem d_MO_people_4 : decode prog_9_method_6_code 4 = .ok (.invokestatic 135, 3) := by decide +kernel
theorem d_MO_people_7 : decode prog_9_method_6_code 7 = .ok (.ifCond .ne 6, 3) := by decide +kernel
theorem d_MO_people_13 : decode prog_9_method_6_code 13 = .ok (.aload_n 0, 1) := by decide +kernel
theorem d_MO_people_14 : decode prog_9_method_6_code 14 = .ok (.iload_n 1, 1) := by decide +kernel
theorem d_MO_people_15 : decode prog_9_method_6_code 15 = .ok (.putfield 7, 3) := by decide +kernel
theorem d_MO_people_18 : decode prog_9_method_6_code 18 = .ok (.aload_n 0, 1) := by decide +kernel
theorem d_MO_people_19 : decode prog_9_method_6_code 19 = .ok (.iconst 0, 1) := by decide +kernel
theorem d_MO_people_20 : decode prog_9_method_6_code 20 = .ok (.putfield 142, 3) := by decide +kernel
theorem d_MO_people_23 : decode prog_9_method_6_code 23 = .ok (.aload_n 0, 1) := by decide +kernel
theorem d_MO_people_24 : decode prog_9_method_6_code 24 = .ok (.iconst 0, 1) := by decide +kernel
theorem d_MO_people_25 : decode prog_9_method_6_code 25 = .ok (.putfield 139, 3) := by decide +kernel
theorem d_MO_people_28 : decode prog_9_method_6_code 28 = .ok (.aload_n 0, 1) := by decide +kernel
theorem d_MO_people_29 : decode prog_9_method_6_code 29 = .ok (.iconst 0, 1) := by decide +kernel
theorem d_MO_people_30 : decode prog_9_method_6_code 30 = .ok (.putfield 145, 3) := by decide +kernel
theorem d_MO_people_33 : decode prog_9_method_6_code 33 = .ok (.aload_n 0, 1) := by decide +kernel
theorem d_MO_people_34 : decode prog_9_method_6_code 34 = .ok (.iconst 0, 1) := by decide +kernel
theorem d_MO_people_35 : decode prog_9_method_6_code 35 = .ok (.putfield 148, 3) := by decide +kernel
theorem d_MO_people_38 : decode prog_9_method_6_code 38 = .ok (.aload_n 0, 1) := by decide +kernel
theorem d_MO_people_39 : decode prog_9_method_6_code 39 = .ok (.iconst 0, 1) := by decide +kernel
theorem d_MO_people_40 : decode prog_9_method_6_code 40 = .ok (.putfield 152, 3) := by decide +kernel
theorem d_MO_people_43 : decode prog_9_method_6_code 43 = .ok (.iconst 0, 1) := by decide +kernel
theorem d_MO_people_44 : decode prog_9_method_6_code 44 = .ok (.istore_n 2, 1) := by decide +kernel
theorem d_MO_people_45 : decode prog_9_method_6_code 45 = .ok (.iload_n 2, 1) := by decide +kernel
theorem d_MO_people_46 : decode prog_9_method_6_code 46 = .ok (.bipush 7, 2) := by decide +kernel
theorem d_MO_people_48 : decode prog_9_method_6_code 48 = .ok (.if_icmp .ge 37, 3) := by decide +kernel
theorem d_MO_people_51 : decode prog_9_method_6_code 51 = .ok (.aload_n 0, 1) := by decide +kernel
theorem d_MO_people_52 : decode prog_9_method_6_code 52 = .ok (.getfield 19, 3) := by decide +kernel
theorem d_MO_people_55 : decode prog_9_method_6_code 55 = .ok (.iload_n 2, 1) := by decide +kernel
theorem d_MO_people_56 : decode prog_9_method_6_code 56 = .ok (.iconst 0, 1) := by decide +kernel
theorem d_MO_people_57 : decode prog_9_method_6_code 57 = .ok (.bastore, 1) := by decide +kernel
theorem d_MO_people_58 : decode prog_9_method_6_code 58 = .ok (.aload_n 0, 1) := by decide +kernel
theorem d_MO_people_59 : decode prog_9_method_6_code 59 = .ok (.getfield 23, 3) := by decide +kernel
theorem d_MO_people_62 : decode prog_9_method_6_code 62 = .ok (.iload_n 2, 1) := by decide +kernel
theorem d_MO_people_63 : decode prog_9_method_6_code 63 = .ok (.iconst 0, 1) := by decide +kernel
theorem d_MO_people_64 : decode prog_9_method_6_code 64 = .ok (.iastore, 1) := by decide +kernel
theorem d_MO_people_65 : decode prog_9_method_6_code 65 = .ok (.aload_n 0, 1) := by decide +kernel
theorem d_MO_people_66 : decode prog_9_method_6_code 66 = .ok (.getfield 27, 3) := by decide +kernel
theorem d_MO_people_69 : decode prog_9_method_6_code 69 = .ok (.iload_n 2, 1) := by decide +kernel
theorem d_MO_people_70 : decode prog_9_method_6_code 70 = .ok (.iconst 0, 1) := by decide +kernel
theorem d_MO_people_71 : decode prog_9_method_6_code 71 = .ok (.iastore, 1) := by decide +kernel
theorem d_MO_people_72 : decode prog_9_method_6_code 72 = .ok (.aload_n 0, 1) := by decide +kernel
theorem d_MO_people_73 : decode prog_9_method_6_code 73 = .ok (.getfield 30, 3) := by decide +kernel
theorem d_MO_people_76 : decode prog_9_method_6_code 76 = .ok (.iload_n 2, 1) := by decide +kernel
theorem d_MO_people_77 : decode prog_9_method_6_code 77 = .ok (.iconst 0, 1) := by decide +kernel
theorem d_MO_people_78 : decode prog_9_method_6_code 78 = .ok (.iastore, 1) := by decide +kernel
theorem d_MO_people_79 : decode prog_9_method_6_code 79 = .ok (.iinc 2 1, 3) := by decide +kernel
theorem d_MO_people_82 : decode prog_9_method_6_code 82 = .ok (.goto (-37), 3) := by decide +kernel
theorem d_MO_people_85 : decode prog_9_method_6_code 85 = .ok (.iconst 1, 1) := by decide +kernel
theorem d_MO_people_86 : decode prog_9_method_6_code 86 = .ok (.ireturn, 1) := by decide +kernel
theorem d_MO_people_10 : decode prog_9_method_6_code 10 = .ok (.bipush (-2), 2) := by decide +kernel
theorem d_MO_people_12 : decode prog_9_method_6_code 12 = .ok (.ireturn, 1) := by decide +kernel
theorem d_MO_keepState_0 : decode prog_9_method_8_code 0 = .ok (.aload_n 0, 1) := by decide +kernel
theorem d_MO_keepState_1 : decode prog_9_method_8_code 1 = .ok (.getfield 57, 3) := by decide +kernel
theorem d_MO_keepState_4 : decode prog_9_method_8_code 4 = .ok (.iload_n 1, 1) := by decide +kernel
theorem d_MO_keepState_5 : decode prog_9_method_8_code 5 = .ok (.iaload, 1) := by decide +kernel
theorem d_MO_keepState_6 : decode prog_9_method_8_code 6 = .ok (.bipush 64, 2) := by decide +kernel
theorem d_MO_keepState_8 : decode prog_9_method_8_code 8 = .ok (.if_icmp .ge 12, 3) := by decide +kernel
theorem d_MO_keepState_11 : decode prog_9_method_8_code 11 = .ok (.aload_n 0, 1) := by decide +kernel
theorem d_MO_keepState_12 : decode prog_9_method_8_code 12 = .ok (.getfield 57, 3) := by decide +kernel
theorem d_MO_keepState_15 : decode prog_9_method_8_code 15 = .ok (.iload_n 1, 1) := by decide +kernel
theorem d_MO_keepState_16 : decode prog_9_method_8_code 16 = .ok (.iaload, 1) := by decide +kernel
theorem d_MO_keepState_17 : decode prog_9_method_8_code 17 = .ok (.goto 5, 3) := by decide +kernel
theorem d_MO_keepState_22 : decode prog_9_method_8_code 22 = .ok (.istore_n 2, 1) := by decide +kernel
theorem d_MO_keepState_23 : decode prog_9_method_8_code 23 = .ok (.aload_n 0, 1) := by decide +kernel
theorem d_MO_keepState_24 : decode prog_9_method_8_code 24 = .ok (.getfield 54, 3) := by decide +kernel
theorem d_MO_keepState_27 : decode prog_9_method_8_code 27 = .ok (.sipush 128, 3) := by decide +kernel
theorem d_MO_keepState_30 : decode prog_9_method_8_code 30 = .ok (.iload_n 1, 1) := by decide +kernel
theorem d_MO_keepState_31 : decode prog_9_method_8_code 31 = .ok (.imul, 1) := by decide +kernel
theorem d_MO_keepState_32 : decode prog_9_method_8_code 32 = .ok (.iconst 2, 1) := by decide +kernel
theorem d_MO_keepState_33 : decode prog_9_method_8_code 33 = .ok (.iload_n 2, 1) := by decide +kernel
theorem d_MO_keepState_34 : decode prog_9_method_8_code 34 = .ok (.imul, 1) := by decide +kernel
theorem d_MO_keepState_35 : decode prog_9_method_8_code 35 = .ok (.iadd, 1) := by decide +kernel
theorem d_MO_keepState_36 : decode prog_9_method_8_code 36 = .ok (.aload_n 0, 1) := by decide +kernel
theorem d_MO_keepState_37 : decode prog_9_method_8_code 37 = .ok (.getfield 36, 3) := by decide +kernel
theorem d_MO_keepState_40 : decode prog_9_method_8_code 40 = .ok (.iconst 2, 1) := by decide +kernel
theorem d_MO_keepState_41 : decode prog_9_method_8_code 41 = .ok (.iload_n 1, 1) := by decide +kernel
theorem d_MO_keepState_42 : decode prog_9_method_8_code 42 = .ok (.imul, 1) := by decide +kernel
theorem d_MO_keepState_43 : decode prog_9_method_8_code 43 = .ok (.iaload, 1) := by decide +kernel
theorem d_MO_keepState_44 : decode prog_9_method_8_code 44 = .ok (.aload_n 0, 1) := by decide +kernel
theorem d_MO_keepState_45 : decode prog_9_method_8_code 45 = .ok (.getfield 39, 3) := by decide +kernel
theorem d_MO_keepState_48 : decode prog_9_method_8_code 48 = .ok (.iconst 2, 1) := by decide +kernel
theorem d_MO_keepState_49 : decode prog_9_method_8_code 49 = .ok (.iload_n 1, 1) := by decide +kernel
theorem d_MO_keepState_50 : decode prog_9_method_8_code 50 = .ok (.imul, 1) := by decide +kernel
theorem d_MO_keepState_51 : decode prog_9_method_8_code 51 = .ok (.iaload, 1) := by decide +kernel
theorem d_MO_keepState_52 : decode prog_9_method_8_code 52 = .ok (.iadd, 1) := by decide +kernel
theorem d_MO_keepState_53 : decode prog_9_method_8_code 53 = .ok (.iastore, 1) := by decide +kernel
theorem d_MO_keepState_54 : decode prog_9_method_8_code 54 = .ok (.aload_n 0, 1) := by decide +kernel
theorem d_MO_keepState_55 : decode prog_9_method_8_code 55 = .ok (.getfield 54, 3) := by decide +kernel
theorem d_MO_keepState_58 : decode prog_9_method_8_code 58 = .ok (.sipush 128, 3) := by decide +kernel
theorem d_MO_keepState_61 : decode prog_9_method_8_code 61 = .ok (.iload_n 1, 1) := by decide +kernel
theorem d_MO_keepState_62 : decode prog_9_method_8_code 62 = .ok (.imul, 1) := by decide +kernel
theorem d_MO_keepState_63 : decode prog_9_method_8_code 63 = .ok (.iconst 2, 1) := by decide +kernel
theorem d_MO_keepState_64 : decode prog_9_method_8_code 64 = .ok (.iload_n 2, 1) := by decide +kernel
theorem d_MO_keepState_65 : decode prog_9_method_8_code 65 = .ok (.imul, 1) := by decide +kernel
theorem d_MO_keepState_66 : decode prog_9_method_8_code 66 = .ok (.iadd, 1) := by decide +kernel
theorem d_MO_keepState_67 : decode prog_9_method_8_code 67 = .ok (.iconst 1, 1) := by decide +kernel
theorem d_MO_keepState_68 : decode prog_9_method_8_code 68 = .ok (.iadd, 1) := by decide +kernel
theorem d_MO_keepState_69 : decode prog_9_method_8_code 69 = .ok (.aload_n 0, 1) := by decide +kernel
theorem d_MO_keepState_70 : decode prog_9_method_8_code 70 = .ok (.getfield 36, 3) := by decide +kernel
theorem d_MO_keepState_73 : decode prog_9_method_8_code 73 = .ok (.iconst 2, 1) := by decide +kernel
theorem d_MO_keepState_74 : decode prog_9_method_8_code 74 = .ok (.iload_n 1, 1) := by decide +kernel
theorem d_MO_keepState_75 : decode prog_9_method_8_code 75 = .ok (.imul, 1) := by decide +kernel
theorem d_MO_keepState_76 : decode prog_9_method_8_code 76 = .ok (.iconst 1, 1) := by decide +kernel
theorem d_MO_keepState_77 : decode prog_9_method_8_code 77 = .ok (.iadd, 1) := by decide +kernel
theorem d_MO_keepState_78 : decode prog_9_method_8_code 78 = .ok (.iaload, 1) := by decide +kernel
theorem d_MO_keepState_79 : decode prog_9_method_8_code 79 = .ok (.aload_n 0, 1) := by decide +kernel
theorem d_MO_keepState_80 : decode prog_9_method_8_code 80 = .ok (.getfield 39, 3) := by decide +kernel
theorem d_MO_keepState_83 : decode prog_9_method_8_code 83 = .ok (.iconst 2, 1) := by decide +kernel
theorem d_MO_keepState_84 : decode prog_9_method_8_code 84 = .ok (.iload_n 1, 1) := by decide +kernel
theorem d_MO_keepState_85 : decode prog_9_method_8_code 85 = .ok (.imul, 1) := by decide +kernel
theorem d_MO_keepState_86 : decode prog_9_method_8_code 86 = .ok (.iconst 1, 1) := by decide +kernel
theorem d_MO_keepState_87 : decode prog_9_method_8_code 87 = .ok (.iadd, 1) := by decide +kernel
theorem d_MO_keepState_88 : decode prog_9_method_8_code 88 = .ok (.iaload, 1) := by decide +kernel
theorem d_MO_keepState_89 : decode prog_9_method_8_code 89 = .ok (.iadd, 1) := by decide +kernel
theorem d_MO_keepState_90 : decode prog_9_method_8_code 90 = .ok (.iastore, 1) := by decide +kernel
theorem d_MO_keepState_91 : decode prog_9_method_8_code 91 = .ok (.aload_n 0, 1) := by decide +kernel
theorem d_MO_keepState_92 : decode prog_9_method_8_code 92 = .ok (.getfield 57, 3) := by decide +kernel
theorem d_MO_keepState_95 : decode prog_9_method_8_code 95 = .ok (.iload_n 1, 1) := by decide +kernel
theorem d_MO_keepState_96 : decode prog_9_method_8_code 96 = .ok (.iload_n 2, 1) := by decide +kernel
theorem d_MO_keepState_97 : decode prog_9_method_8_code 97 = .ok (.iconst 1, 1) := by decide +kernel
theorem d_MO_keepState_98 : decode prog_9_method_8_code 98 = .ok (.iadd, 1) := by decide +kernel
theorem d_MO_keepState_99 : decode prog_9_method_8_code 99 = .ok (.iastore, 1) := by decide +kernel
theorem d_MO_keepState_100 : decode prog_9_method_8_code 100 = .ok (.return_, 1) := by decide +kernel
theorem d_MO_forget_0 : decode prog_9_method_9_code 0 = .ok (.aload_n 0, 1) := by decide +kernel
theorem d_MO_forget_1 : decode prog_9_method_9_code 1 = .ok (.getfield 60, 3) := by decide +kernel
theorem d_MO_forget_4 : decode prog_9_method_9_code 4 = .ok (.iload_n 1, 1) := by decide +kernel
theorem d_MO_forget_5 : decode prog_9_method_9_code 5 = .ok (.iconst 0, 1) := by decide +kernel
theorem d_MO_forget_6 : decode prog_9_method_9_code 6 = .ok (.iastore, 1) := by decide +kernel
theorem d_MO_forget_7 : decode prog_9_method_9_code 7 = .ok (.aload_n 0, 1) := by decide +kernel
theorem d_MO_forget_8 : decode prog_9_method_9_code 8 = .ok (.getfield 63, 3) := by decide +kernel
theorem d_MO_forget_11 : decode prog_9_method_9_code 11 = .ok (.iload_n 1, 1) := by decide +kernel
theorem d_MO_forget_12 : decode prog_9_method_9_code 12 = .ok (.aload_n 0, 1) := by decide +kernel
theorem d_MO_forget_13 : decode prog_9_method_9_code 13 = .ok (.getfield 36, 3) := by decide +kernel
theorem d_MO_forget_16 : decode prog_9_method_9_code 16 = .ok (.iconst 2, 1) := by decide +kernel
theorem d_MO_forget_17 : decode prog_9_method_9_code 17 = .ok (.iload_n 1, 1) := by decide +kernel
theorem d_MO_forget_18 : decode prog_9_method_9_code 18 = .ok (.imul, 1) := by decide +kernel
theorem d_MO_forget_19 : decode prog_9_method_9_code 19 = .ok (.iaload, 1) := by decide +kernel
theorem d_MO_forget_20 : decode prog_9_method_9_code 20 = .ok (.aload_n 0, 1) := by decide +kernel
theorem d_MO_forget_21 : decode prog_9_method_9_code 21 = .ok (.getfield 36, 3) := by decide +kernel
theorem d_MO_forget_24 : decode prog_9_method_9_code 24 = .ok (.iconst 2, 1) := by decide +kernel
theorem d_MO_forget_25 : decode prog_9_method_9_code 25 = .ok (.iload_n 1, 1) := by decide +kernel
theorem d_MO_forget_26 : decode prog_9_method_9_code 26 = .ok (.imul, 1) := by decide +kernel
theorem d_MO_forget_27 : decode prog_9_method_9_code 27 = .ok (.iconst 1, 1) := by decide +kernel
theorem d_MO_forget_28 : decode prog_9_method_9_code 28 = .ok (.iadd, 1) := by decide +kernel
theorem d_MO_forget_29 : decode prog_9_method_9_code 29 = .ok (.iaload, 1) := by decide +kernel
theorem d_MO_forget_30 : decode prog_9_method_9_code 30 = .ok (.iadd, 1) := by decide +kernel
theorem d_MO_forget_31 : decode prog_9_method_9_code 31 = .ok (.iastore, 1) := by decide +kernel
theorem d_MO_forget_32 : decode prog_9_method_9_code 32 = .ok (.return_, 1) := by decide +kernel
theorem d_MO_pair_0 : decode prog_9_method_7_code 0 = .ok (.aload_n 0, 1) := by decide +kernel
theorem d_MO_pair_1 : decode prog_9_method_7_code 1 = .ok (.iload_n 1, 1) := by decide +kernel
theorem d_MO_pair_2 : decode prog_9_method_7_code 2 = .ok (.invokevirtual 155, 3) := by decide +kernel
theorem d_MO_pair_5 : decode prog_9_method_7_code 5 = .ok (.ifCond .eq 37, 3) := by decide +kernel
theorem d_MO_pair_42 : decode prog_9_method_7_code 42 = .ok (.bipush (-2), 2) := by decide +kernel
theorem d_MO_pair_44 : decode prog_9_method_7_code 44 = .ok (.ireturn, 1) := by decide +kernel
theorem d_MO_pair_8 : decode prog_9_method_7_code 8 = .ok (.aload_n 0, 1) := by decide +kernel
theorem d_MO_pair_9 : decode prog_9_method_7_code 9 = .ok (.iload_n 2, 1) := by decide +kernel
theorem d_MO_pair_10 : decode prog_9_method_7_code 10 = .ok (.invokevirtual 155, 3) := by decide +kernel
theorem d_MO_pair_13 : decode prog_9_method_7_code 13 = .ok (.ifCond .eq 29, 3) := by decide +kernel
theorem d_MO_pair_16 : decode prog_9_method_7_code 16 = .ok (.iload_n 1, 1) := by decide +kernel
theorem d_MO_pair_17 : decode prog_9_method_7_code 17 = .ok (.iload_n 2, 1) := by decide +kernel
theorem d_MO_pair_18 : decode prog_9_method_7_code 18 = .ok (.if_icmp .eq 24, 3) := by decide +kernel
theorem d_MO_pair_21 : decode prog_9_method_7_code 21 = .ok (.iload_n 3, 1) := by decide +kernel
theorem d_MO_pair_22 : decode prog_9_method_7_code 22 = .ok (.iconst 0, 1) := by decide +kernel
theorem d_MO_pair_23 : decode prog_9_method_7_code 23 = .ok (.ldc 159, 2) := by decide +kernel
theorem d_MO_pair_25 : decode prog_9_method_7_code 25 = .ok (.invokestatic 135, 3) := by decide +kernel
theorem d_MO_pair_28 : decode prog_9_method_7_code 28 = .ok (.ifCond .eq 14, 3) := by decide +kernel
theorem d_MO_pair_31 : decode prog_9_method_7_code 31 = .ok (.iload 4, 2) := by decide +kernel
theorem d_MO_pair_33 : decode prog_9_method_7_code 33 = .ok (.iconst 0, 1) := by decide +kernel
theorem d_MO_pair_34 : decode prog_9_method_7_code 34 = .ok (.ldc 159, 2) := by decide +kernel
theorem d_MO_pair_36 : decode prog_9_method_7_code 36 = .ok (.invokestatic 135, 3) := by decide +kernel
theorem d_MO_pair_39 : decode prog_9_method_7_code 39 = .ok (.ifCond .ne 6, 3) := by decide +kernel
theorem d_MO_pair_45 : decode prog_9_method_7_code 45 = .ok (.aload_n 0, 1) := by decide +kernel
theorem d_MO_pair_46 : decode prog_9_method_7_code 46 = .ok (.getfield 139, 3) := by decide +kernel
theorem d_MO_pair_49 : decode prog_9_method_7_code 49 = .ok (.bipush 12, 2) := by decide +kernel
theorem d_MO_pair_51 : decode prog_9_method_7_code 51 = .ok (.if_icmp .ne 6, 3) := by decide +kernel
theorem d_MO_pair_57 : decode prog_9_method_7_code 57 = .ok (.aload_n 0, 1) := by decide +kernel
theorem d_MO_pair_58 : decode prog_9_method_7_code 58 = .ok (.getfield 139, 3) := by decide +kernel
theorem d_MO_pair_61 : decode prog_9_method_7_code 61 = .ok (.istore 5, 2) := by decide +kernel
theorem d_MO_pair_63 : decode prog_9_method_7_code 63 = .ok (.aload_n 0, 1) := by decide +kernel
theorem d_MO_pair_64 : decode prog_9_method_7_code 64 = .ok (.dup, 1) := by decide +kernel
theorem d_MO_pair_65 : decode prog_9_method_7_code 65 = .ok (.getfield 139, 3) := by decide +kernel
theorem d_MO_pair_68 : decode prog_9_method_7_code 68 = .ok (.iconst 1, 1) := by decide +kernel
theorem d_MO_pair_69 : decode prog_9_method_7_code 69 = .ok (.iadd, 1) := by decide +kernel
theorem d_MO_pair_70 : decode prog_9_method_7_code 70 = .ok (.putfield 139, 3) := by decide +kernel
theorem d_MO_pair_73 : decode prog_9_method_7_code 73 = .ok (.aload_n 0, 1) := by decide +kernel
theorem d_MO_pair_74 : decode prog_9_method_7_code 74 = .ok (.getfield 33, 3) := by decide +kernel
theorem d_MO_pair_77 : decode prog_9_method_7_code 77 = .ok (.iconst 2, 1) := by decide +kernel
theorem d_MO_pair_78 : decode prog_9_method_7_code 78 = .ok (.iload 5, 2) := by decide +kernel
theorem d_MO_pair_80 : decode prog_9_method_7_code 80 = .ok (.imul, 1) := by decide +kernel
theorem d_MO_pair_81 : decode prog_9_method_7_code 81 = .ok (.iload_n 1, 1) := by decide +kernel
theorem d_MO_pair_82 : decode prog_9_method_7_code 82 = .ok (.iastore, 1) := by decide +kernel
theorem d_MO_pair_83 : decode prog_9_method_7_code 83 = .ok (.aload_n 0, 1) := by decide +kernel
theorem d_MO_pair_84 : decode prog_9_method_7_code 84 = .ok (.getfield 33, 3) := by decide +kernel
theorem d_MO_pair_87 : decode prog_9_method_7_code 87 = .ok (.iconst 2, 1) := by decide +kernel
theorem d_MO_pair_88 : decode prog_9_method_7_code 88 = .ok (.iload 5, 2) := by decide +kernel
theorem d_MO_pair_90 : decode prog_9_method_7_code 90 = .ok (.imul, 1) := by decide +kernel
theorem d_MO_pair_91 : decode prog_9_method_7_code 91 = .ok (.iconst 1, 1) := by decide +kernel
theorem d_MO_pair_92 : decode prog_9_method_7_code 92 = .ok (.iadd, 1) := by decide +kernel
theorem d_MO_pair_93 : decode prog_9_method_7_code 93 = .ok (.iload_n 2, 1) := by decide +kernel
theorem d_MO_pair_94 : decode prog_9_method_7_code 94 = .ok (.iastore, 1) := by decide +kernel
theorem d_MO_pair_95 : decode prog_9_method_7_code 95 = .ok (.aload_n 0, 1) := by decide +kernel
theorem d_MO_pair_96 : decode prog_9_method_7_code 96 = .ok (.getfield 36, 3) := by decide +kernel
theorem d_MO_pair_99 : decode prog_9_method_7_code 99 = .ok (.iconst 2, 1) := by decide +kernel
theorem d_MO_pair_100 : decode prog_9_method_7_code 100 = .ok (.iload 5, 2) := by decide +kernel
theorem d_MO_pair_102 : decode prog_9_method_7_code 102 = .ok (.imul, 1) := by decide +kernel
theorem d_MO_pair_103 : decode prog_9_method_7_code 103 = .ok (.iload_n 3, 1) := by decide +kernel
theorem d_MO_pair_104 : decode prog_9_method_7_code 104 = .ok (.iastore, 1) := by decide +kernel
theorem d_MO_pair_105 : decode prog_9_method_7_code 105 = .ok (.aload_n 0, 1) := by decide +kernel
theorem d_MO_pair_106 : decode prog_9_method_7_code 106 = .ok (.getfield 36, 3) := by decide +kernel
theorem d_MO_pair_109 : decode prog_9_method_7_code 109 = .ok (.iconst 2, 1) := by decide +kernel
theorem d_MO_pair_110 : decode prog_9_method_7_code 110 = .ok (.iload 5, 2) := by decide +kernel
theorem d_MO_pair_112 : decode prog_9_method_7_code 112 = .ok (.imul, 1) := by decide +kernel
theorem d_MO_pair_113 : decode prog_9_method_7_code 113 = .ok (.iconst 1, 1) := by decide +kernel
theorem d_MO_pair_114 : decode prog_9_method_7_code 114 = .ok (.iadd, 1) := by decide +kernel
theorem d_MO_pair_115 : decode prog_9_method_7_code 115 = .ok (.iload 4, 2) := by decide +kernel
theorem d_MO_pair_117 : decode prog_9_method_7_code 117 = .ok (.iastore, 1) := by decide +kernel
theorem d_MO_pair_118 : decode prog_9_method_7_code 118 = .ok (.aload_n 0, 1) := by decide +kernel
theorem d_MO_pair_119 : decode prog_9_method_7_code 119 = .ok (.getfield 39, 3) := by decide +kernel
theorem d_MO_pair_122 : decode prog_9_method_7_code 122 = .ok (.iconst 2, 1) := by decide +kernel
theorem d_MO_pair_123 : decode prog_9_method_7_code 123 = .ok (.iload 5, 2) := by decide +kernel
theorem d_MO_pair_125 : decode prog_9_method_7_code 125 = .ok (.imul, 1) := by decide +kernel
theorem d_MO_pair_126 : decode prog_9_method_7_code 126 = .ok (.iconst 0, 1) := by decide +kernel
theorem d_MO_pair_127 : decode prog_9_method_7_code 127 = .ok (.iastore, 1) := by decide +kernel
theorem d_MO_pair_128 : decode prog_9_method_7_code 128 = .ok (.aload_n 0, 1) := by decide +kernel
theorem d_MO_pair_129 : decode prog_9_method_7_code 129 = .ok (.getfield 39, 3) := by decide +kernel
theorem d_MO_pair_132 : decode prog_9_method_7_code 132 = .ok (.iconst 2, 1) := by decide +kernel
theorem d_MO_pair_133 : decode prog_9_method_7_code 133 = .ok (.iload 5, 2) := by decide +kernel
theorem d_MO_pair_135 : decode prog_9_method_7_code 135 = .ok (.imul, 1) := by decide +kernel
theorem d_MO_pair_136 : decode prog_9_method_7_code 136 = .ok (.iconst 1, 1) := by decide +kernel
theorem d_MO_pair_137 : decode prog_9_method_7_code 137 = .ok (.iadd, 1) := by decide +kernel
theorem d_MO_pair_138 : decode prog_9_method_7_code 138 = .ok (.iconst 0, 1) := by decide +kernel
theorem d_MO_pair_139 : decode prog_9_method_7_code 139 = .ok (.iastore, 1) := by decide +kernel
theorem d_MO_pair_140 : decode prog_9_method_7_code 140 = .ok (.aload_n 0, 1) := by decide +kernel
theorem d_MO_pair_141 : decode prog_9_method_7_code 141 = .ok (.getfield 42, 3) := by decide +kernel
theorem d_MO_pair_144 : decode prog_9_method_7_code 144 = .ok (.iload 5, 2) := by decide +kernel
theorem d_MO_pair_146 : decode prog_9_method_7_code 146 = .ok (.iconst 0, 1) := by decide +kernel
theorem d_MO_pair_147 : decode prog_9_method_7_code 147 = .ok (.iastore, 1) := by decide +kernel
theorem d_MO_pair_148 : decode prog_9_method_7_code 148 = .ok (.aload_n 0, 1) := by decide +kernel
theorem d_MO_pair_149 : decode prog_9_method_7_code 149 = .ok (.getfield 45, 3) := by decide +kernel
theorem d_MO_pair_152 : decode prog_9_method_7_code 152 = .ok (.iload 5, 2) := by decide +kernel
theorem d_MO_pair_154 : decode prog_9_method_7_code 154 = .ok (.iconst (-1), 1) := by decide +kernel
theorem d_MO_pair_155 : decode prog_9_method_7_code 155 = .ok (.iastore, 1) := by decide +kernel
theorem d_MO_pair_156 : decode prog_9_method_7_code 156 = .ok (.aload_n 0, 1) := by decide +kernel
theorem d_MO_pair_157 : decode prog_9_method_7_code 157 = .ok (.getfield 57, 3) := by decide +kernel
theorem d_MO_pair_160 : decode prog_9_method_7_code 160 = .ok (.iload 5, 2) := by decide +kernel
theorem d_MO_pair_162 : decode prog_9_method_7_code 162 = .ok (.iconst 0, 1) := by decide +kernel
theorem d_MO_pair_163 : decode prog_9_method_7_code 163 = .ok (.iastore, 1) := by decide +kernel
theorem d_MO_pair_164 : decode prog_9_method_7_code 164 = .ok (.aload_n 0, 1) := by decide +kernel
theorem d_MO_pair_165 : decode prog_9_method_7_code 165 = .ok (.iload 5, 2) := by decide +kernel
theorem d_MO_pair_167 : decode prog_9_method_7_code 167 = .ok (.invokevirtual 160, 3) := by decide +kernel
theorem d_MO_pair_170 : decode prog_9_method_7_code 170 = .ok (.aload_n 0, 1) := by decide +kernel
theorem d_MO_pair_171 : decode prog_9_method_7_code 171 = .ok (.iload 5, 2) := by decide +kernel
theorem d_MO_pair_173 : decode prog_9_method_7_code 173 = .ok (.invokevirtual 164, 3) := by decide +kernel
theorem d_MO_pair_176 : decode prog_9_method_7_code 176 = .ok (.iload 5, 2) := by decide +kernel
theorem d_MO_pair_178 : decode prog_9_method_7_code 178 = .ok (.ireturn, 1) := by decide +kernel
theorem d_MO_fee_0 : decode prog_9_method_10_code 0 = .ok (.aload_n 0, 1) := by decide +kernel
theorem d_MO_fee_1 : decode prog_9_method_10_code 1 = .ok (.iload_n 1, 1) := by decide +kernel
theorem d_MO_fee_2 : decode prog_9_method_10_code 2 = .ok (.invokevirtual 155, 3) := by decide +kernel
theorem d_MO_fee_5 : decode prog_9_method_10_code 5 = .ok (.ifCond .eq 23, 3) := by decide +kernel
theorem d_MO_fee_28 : decode prog_9_method_10_code 28 = .ok (.bipush (-2), 2) := by decide +kernel
theorem d_MO_fee_30 : decode prog_9_method_10_code 30 = .ok (.ireturn, 1) := by decide +kernel
theorem d_MO_fee_8 : decode prog_9_method_10_code 8 = .ok (.iload_n 2, 1) := by decide +kernel
theorem d_MO_fee_9 : decode prog_9_method_10_code 9 = .ok (.iconst 0, 1) := by decide +kernel
theorem d_MO_fee_10 : decode prog_9_method_10_code 10 = .ok (.bipush 100, 2) := by decide +kernel
theorem d_MO_fee_12 : decode prog_9_method_10_code 12 = .ok (.invokestatic 135, 3) := by decide +kernel
theorem d_MO_fee_15 : decode prog_9_method_10_code 15 = .ok (.ifCond .eq 13, 3) := by decide +kernel
theorem d_MO_fee_18 : decode prog_9_method_10_code 18 = .ok (.iload_n 3, 1) := by decide +kernel
theorem d_MO_fee_19 : decode prog_9_method_10_code 19 = .ok (.iconst 0, 1) := by decide +kernel
theorem d_MO_fee_20 : decode prog_9_method_10_code 20 = .ok (.bipush 100, 2) := by decide +kernel
theorem d_MO_fee_22 : decode prog_9_method_10_code 22 = .ok (.invokestatic 135, 3) := by decide +kernel
theorem d_MO_fee_25 : decode prog_9_method_10_code 25 = .ok (.ifCond .ne 6, 3) := by decide +kernel
theorem d_MO_fee_31 : decode prog_9_method_10_code 31 = .ok (.aload_n 0, 1) := by decide +kernel
theorem d_MO_fee_32 : decode prog_9_method_10_code 32 = .ok (.getfield 27, 3) := by decide +kernel
theorem d_MO_fee_35 : decode prog_9_method_10_code 35 = .ok (.iload_n 1, 1) := by decide +kernel
theorem d_MO_fee_36 : decode prog_9_method_10_code 36 = .ok (.iload_n 2, 1) := by decide +kernel
theorem d_MO_fee_37 : decode prog_9_method_10_code 37 = .ok (.iastore, 1) := by decide +kernel
theorem d_MO_fee_38 : decode prog_9_method_10_code 38 = .ok (.aload_n 0, 1) := by decide +kernel
theorem d_MO_fee_39 : decode prog_9_method_10_code 39 = .ok (.getfield 30, 3) := by decide +kernel
theorem d_MO_fee_42 : decode prog_9_method_10_code 42 = .ok (.iload_n 1, 1) := by decide +kernel
theorem d_MO_fee_43 : decode prog_9_method_10_code 43 = .ok (.iload_n 3, 1) := by decide +kernel
theorem d_MO_fee_44 : decode prog_9_method_10_code 44 = .ok (.iastore, 1) := by decide +kernel
theorem d_MO_fee_45 : decode prog_9_method_10_code 45 = .ok (.iconst 1, 1) := by decide +kernel
theorem d_MO_fee_46 : decode prog_9_method_10_code 46 = .ok (.ireturn, 1) := by decide +kernel
theorem d_MO_gap_0 : decode prog_9_method_11_code 0 = .ok (.iload_n 1, 1) := by decide +kernel
theorem d_MO_gap_1 : decode prog_9_method_11_code 1 = .ok (.iconst 1, 1) := by decide +kernel
theorem d_MO_gap_2 : decode prog_9_method_11_code 2 = .ok (.bipush 50, 2) := by decide +kernel
theorem d_MO_gap_4 : decode prog_9_method_11_code 4 = .ok (.invokestatic 135, 3) := by decide +kernel
theorem d_MO_gap_7 : decode prog_9_method_11_code 7 = .ok (.ifCond .ne 6, 3) := by decide +kernel
theorem d_MO_gap_13 : decode prog_9_method_11_code 13 = .ok (.aload_n 0, 1) := by decide +kernel
theorem d_MO_gap_14 : decode prog_9_method_11_code 14 = .ok (.getfield 13, 3) := by decide +kernel
theorem d_MO_gap_17 : decode prog_9_method_11_code 17 = .ok (.istore_n 2, 1) := by decide +kernel
theorem d_MO_gap_18 : decode prog_9_method_11_code 18 = .ok (.aload_n 0, 1) := by decide +kernel
theorem d_MO_gap_19 : decode prog_9_method_11_code 19 = .ok (.iload_n 1, 1) := by decide +kernel
theorem d_MO_gap_20 : decode prog_9_method_11_code 20 = .ok (.putfield 13, 3) := by decide +kernel
theorem d_MO_gap_23 : decode prog_9_method_11_code 23 = .ok (.iload_n 2, 1) := by decide +kernel
theorem d_MO_gap_24 : decode prog_9_method_11_code 24 = .ok (.ireturn, 1) := by decide +kernel
theorem d_MO_gap_10 : decode prog_9_method_11_code 10 = .ok (.bipush (-2), 2) := by decide +kernel
theorem d_MO_gap_12 : decode prog_9_method_11_code 12 = .ok (.ireturn, 1) := by decide +kernel
theorem d_MO_look_0 : decode prog_9_method_12_code 0 = .ok (.iload_n 1, 1) := by decide +kernel
theorem d_MO_look_1 : decode prog_9_method_12_code 1 = .ok (.iconst 1, 1) := by decide +kernel
theorem d_MO_look_2 : decode prog_9_method_12_code 2 = .ok (.bipush 50, 2) := by decide +kernel
theorem d_MO_look_4 : decode prog_9_method_12_code 4 = .ok (.invokestatic 135, 3) := by decide +kernel
theorem d_MO_look_7 : decode prog_9_method_12_code 7 = .ok (.ifCond .ne 6, 3) := by decide +kernel
theorem d_MO_look_13 : decode prog_9_method_12_code 13 = .ok (.aload_n 0, 1) := by decide +kernel
theorem d_MO_look_14 : decode prog_9_method_12_code 14 = .ok (.getfield 16, 3) := by decide +kernel
theorem d_MO_look_17 : decode prog_9_method_12_code 17 = .ok (.istore_n 2, 1) := by decide +kernel
theorem d_MO_look_18 : decode prog_9_method_12_code 18 = .ok (.aload_n 0, 1) := by decide +kernel
theorem d_MO_look_19 : decode prog_9_method_12_code 19 = .ok (.iload_n 1, 1) := by decide +kernel
theorem d_MO_look_20 : decode prog_9_method_12_code 20 = .ok (.putfield 16, 3) := by decide +kernel
theorem d_MO_look_23 : decode prog_9_method_12_code 23 = .ok (.iload_n 2, 1) := by decide +kernel
theorem d_MO_look_24 : decode prog_9_method_12_code 24 = .ok (.ireturn, 1) := by decide +kernel
theorem d_MO_look_10 : decode prog_9_method_12_code 10 = .ok (.bipush (-2), 2) := by decide +kernel
theorem d_MO_look_12 : decode prog_9_method_12_code 12 = .ok (.ireturn, 1) := by decide +kernel
theorem d_MO_away_0 : decode prog_9_method_13_code 0 = .ok (.aload_n 0, 1) := by decide +kernel
theorem d_MO_away_1 : decode prog_9_method_13_code 1 = .ok (.iload_n 1, 1) := by decide +kernel
theorem d_MO_away_2 : decode prog_9_method_13_code 2 = .ok (.invokevirtual 155, 3) := by decide +kernel
theorem d_MO_away_5 : decode prog_9_method_13_code 5 = .ok (.ifCond .ne 6, 3) := by decide +kernel
theorem d_MO_away_11 : decode prog_9_method_13_code 11 = .ok (.aload_n 0, 1) := by decide +kernel
theorem d_MO_away_12 : decode prog_9_method_13_code 12 = .ok (.getfield 19, 3) := by decide +kernel
theorem d_MO_away_15 : decode prog_9_method_13_code 15 = .ok (.iload_n 1, 1) := by decide +kernel
theorem d_MO_away_16 : decode prog_9_method_13_code 16 = .ok (.baload, 1) := by decide +kernel
theorem d_MO_away_17 : decode prog_9_method_13_code 17 = .ok (.iload_n 2, 1) := by decide +kernel
theorem d_MO_away_18 : decode prog_9_method_13_code 18 = .ok (.if_icmp .ne 6, 3) := by decide +kernel
theorem d_MO_away_24 : decode prog_9_method_13_code 24 = .ok (.aload_n 0, 1) := by decide +kernel
theorem d_MO_away_25 : decode prog_9_method_13_code 25 = .ok (.getfield 19, 3) := by decide +kernel
theorem d_MO_away_28 : decode prog_9_method_13_code 28 = .ok (.iload_n 1, 1) := by decide +kernel
theorem d_MO_away_29 : decode prog_9_method_13_code 29 = .ok (.iload_n 2, 1) := by decide +kernel
theorem d_MO_away_30 : decode prog_9_method_13_code 30 = .ok (.bastore, 1) := by decide +kernel
theorem d_MO_away_31 : decode prog_9_method_13_code 31 = .ok (.iload_n 2, 1) := by decide +kernel
theorem d_MO_away_32 : decode prog_9_method_13_code 32 = .ok (.ifCond .eq 5, 3) := by decide +kernel
theorem d_MO_away_35 : decode prog_9_method_13_code 35 = .ok (.iconst 0, 1) := by decide +kernel
theorem d_MO_away_36 : decode prog_9_method_13_code 36 = .ok (.ireturn, 1) := by decide +kernel
theorem d_MO_away_21 : decode prog_9_method_13_code 21 = .ok (.bipush (-3), 2) := by decide +kernel
theorem d_MO_away_23 : decode prog_9_method_13_code 23 = .ok (.ireturn, 1) := by decide +kernel
theorem d_MO_away_8 : decode prog_9_method_13_code 8 = .ok (.bipush (-2), 2) := by decide +kernel
theorem d_MO_away_10 : decode prog_9_method_13_code 10 = .ok (.ireturn, 1) := by decide +kernel
theorem d_MO_isAsked_0 : decode prog_9_method_16_code 0 = .ok (.aload_n 0, 1) := by decide +kernel
theorem d_MO_isAsked_1 : decode prog_9_method_16_code 1 = .ok (.iload_n 1, 1) := by decide +kernel
theorem d_MO_isAsked_2 : decode prog_9_method_16_code 2 = .ok (.invokevirtual 155, 3) := by decide +kernel
theorem d_MO_isAsked_5 : decode prog_9_method_16_code 5 = .ok (.ifCond .eq 30, 3) := by decide +kernel
theorem d_MO_isAsked_35 : decode prog_9_method_16_code 35 = .ok (.iconst 0, 1) := by decide +kernel
theorem d_MO_isAsked_36 : decode prog_9_method_16_code 36 = .ok (.ireturn, 1) := by decide +kernel
theorem d_MO_isAsked_8 : decode prog_9_method_16_code 8 = .ok (.aload_n 0, 1) := by decide +kernel
theorem d_MO_isAsked_9 : decode prog_9_method_16_code 9 = .ok (.iload_n 2, 1) := by decide +kernel
theorem d_MO_isAsked_10 : decode prog_9_method_16_code 10 = .ok (.invokevirtual 155, 3) := by decide +kernel
theorem d_MO_isAsked_13 : decode prog_9_method_16_code 13 = .ok (.ifCond .eq 22, 3) := by decide +kernel
theorem d_MO_isAsked_16 : decode prog_9_method_16_code 16 = .ok (.iload_n 1, 1) := by decide +kernel
theorem d_MO_isAsked_17 : decode prog_9_method_16_code 17 = .ok (.iload_n 2, 1) := by decide +kernel
theorem d_MO_isAsked_18 : decode prog_9_method_16_code 18 = .ok (.if_icmp .eq 17, 3) := by decide +kernel
theorem d_MO_isAsked_21 : decode prog_9_method_16_code 21 = .ok (.iload_n 3, 1) := by decide +kernel
theorem d_MO_isAsked_22 : decode prog_9_method_16_code 22 = .ok (.iconst 1, 1) := by decide +kernel
theorem d_MO_isAsked_23 : decode prog_9_method_16_code 23 = .ok (.ldc 159, 2) := by decide +kernel
theorem d_MO_isAsked_25 : decode prog_9_method_16_code 25 = .ok (.invokestatic 135, 3) := by decide +kernel
theorem d_MO_isAsked_28 : decode prog_9_method_16_code 28 = .ok (.ifCond .eq 7, 3) := by decide +kernel
theorem d_MO_isAsked_31 : decode prog_9_method_16_code 31 = .ok (.iconst 1, 1) := by decide +kernel
theorem d_MO_isAsked_32 : decode prog_9_method_16_code 32 = .ok (.goto 4, 3) := by decide +kernel
theorem d_MO_findWay_0 : decode prog_9_method_15_code 0 = .ok (.iconst (-1), 1) := by decide +kernel
theorem d_MO_findWay_1 : decode prog_9_method_15_code 1 = .ok (.istore 4, 2) := by decide +kernel
theorem d_MO_findWay_3 : decode prog_9_method_15_code 3 = .ok (.iconst 0, 1) := by decide +kernel
theorem d_MO_findWay_4 : decode prog_9_method_15_code 4 = .ok (.istore 5, 2) := by decide +kernel
theorem d_MO_findWay_6 : decode prog_9_method_15_code 6 = .ok (.iload_n 1, 1) := by decide +kernel
theorem d_MO_findWay_7 : decode prog_9_method_15_code 7 = .ok (.istore 6, 2) := by decide +kernel
theorem d_MO_findWay_9 : decode prog_9_method_15_code 9 = .ok (.iconst 1, 1) := by decide +kernel
theorem d_MO_findWay_10 : decode prog_9_method_15_code 10 = .ok (.iload_n 1, 1) := by decide +kernel
theorem d_MO_findWay_11 : decode prog_9_method_15_code 11 = .ok (.ishl, 1) := by decide +kernel
theorem d_MO_findWay_12 : decode prog_9_method_15_code 12 = .ok (.istore 7, 2) := by decide +kernel
theorem d_MO_findWay_14 : decode prog_9_method_15_code 14 = .ok (.aload_n 0, 1) := by decide +kernel
theorem d_MO_findWay_15 : decode prog_9_method_15_code 15 = .ok (.getfield 114, 3) := by decide +kernel
theorem d_MO_findWay_18 : decode prog_9_method_15_code 18 = .ok (.iconst 0, 1) := by decide +kernel
theorem d_MO_findWay_19 : decode prog_9_method_15_code 19 = .ok (.iconst 0, 1) := by decide +kernel
theorem d_MO_findWay_20 : decode prog_9_method_15_code 20 = .ok (.iastore, 1) := by decide +kernel
theorem d_MO_findWay_21 : decode prog_9_method_15_code 21 = .ok (.iload 5, 2) := by decide +kernel
theorem d_MO_findWay_23 : decode prog_9_method_15_code 23 = .ok (.ifCond .lt 312, 3) := by decide +kernel
theorem d_MO_findWay_26 : decode prog_9_method_15_code 26 = .ok (.aload_n 0, 1) := by decide +kernel
theorem d_MO_findWay_27 : decode prog_9_method_15_code 27 = .ok (.getfield 114, 3) := by decide +kernel
theorem d_MO_findWay_30 : decode prog_9_method_15_code 30 = .ok (.iload 5, 2) := by decide +kernel
theorem d_MO_findWay_32 : decode prog_9_method_15_code 32 = .ok (.iaload, 1) := by decide +kernel
theorem d_MO_findWay_33 : decode prog_9_method_15_code 33 = .ok (.istore 8, 2) := by decide +kernel
theorem d_MO_findWay_35 : decode prog_9_method_15_code 35 = .ok (.iload 8, 2) := by decide +kernel
theorem d_MO_findWay_37 : decode prog_9_method_15_code 37 = .ok (.iconst 2, 1) := by decide +kernel
theorem d_MO_findWay_38 : decode prog_9_method_15_code 38 = .ok (.aload_n 0, 1) := by decide +kernel
theorem d_MO_findWay_39 : decode prog_9_method_15_code 39 = .ok (.getfield 139, 3) := by decide +kernel
theorem d_MO_findWay_42 : decode prog_9_method_15_code 42 = .ok (.imul, 1) := by decide +kernel
theorem d_MO_findWay_43 : decode prog_9_method_15_code 43 = .ok (.if_icmp .ne 49, 3) := by decide +kernel
theorem d_MO_findWay_46 : decode prog_9_method_15_code 46 = .ok (.iinc 5 (-1), 3) := by decide +kernel
theorem d_MO_findWay_49 : decode prog_9_method_15_code 49 = .ok (.iload 5, 2) := by decide +kernel
theorem d_MO_findWay_51 : decode prog_9_method_15_code 51 = .ok (.ifCond .lt 281, 3) := by decide +kernel
theorem d_MO_findWay_332 : decode prog_9_method_15_code 332 = .ok (.goto (-311), 3) := by decide +kernel
theorem d_MO_findWay_335 : decode prog_9_method_15_code 335 = .ok (.iload 4, 2) := by decide +kernel
theorem d_MO_findWay_337 : decode prog_9_method_15_code 337 = .ok (.ireturn, 1) := by decide +kernel
theorem d_MO_best_0 : decode prog_9_method_18_code 0 = .ok (.aload_n 0, 1) := by decide +kernel
theorem d_MO_best_1 : decode prog_9_method_18_code 1 = .ok (.iload_n 1, 1) := by decide +kernel
theorem d_MO_best_2 : decode prog_9_method_18_code 2 = .ok (.iload_n 2, 1) := by decide +kernel
theorem d_MO_best_3 : decode prog_9_method_18_code 3 = .ok (.iload_n 3, 1) := by decide +kernel
theorem d_MO_best_4 : decode prog_9_method_18_code 4 = .ok (.invokevirtual 182, 3) := by decide +kernel
theorem d_MO_best_7 : decode prog_9_method_18_code 7 = .ok (.ifCond .ne 6, 3) := by decide +kernel
theorem d_MO_best_13 : decode prog_9_method_18_code 13 = .ok (.aload_n 0, 1) := by decide +kernel
theorem d_MO_best_14 : decode prog_9_method_18_code 14 = .ok (.iload_n 1, 1) := by decide +kernel
theorem d_MO_best_15 : decode prog_9_method_18_code 15 = .ok (.iload_n 2, 1) := by decide +kernel
theorem d_MO_best_16 : decode prog_9_method_18_code 16 = .ok (.iload_n 3, 1) := by decide +kernel
theorem d_MO_best_17 : decode prog_9_method_18_code 17 = .ok (.invokevirtual 185, 3) := by decide +kernel
theorem d_MO_best_20 : decode prog_9_method_18_code 20 = .ok (.istore 4, 2) := by decide +kernel
theorem d_MO_best_22 : decode prog_9_method_18_code 22 = .ok (.iload 4, 2) := by decide +kernel
theorem d_MO_best_24 : decode prog_9_method_18_code 24 = .ok (.iconst (-1), 1) := by decide +kernel
theorem d_MO_best_25 : decode prog_9_method_18_code 25 = .ok (.if_icmp .eq 7, 3) := by decide +kernel
theorem d_MO_best_32 : decode prog_9_method_18_code 32 = .ok (.iload 4, 2) := by decide +kernel
theorem d_MO_best_34 : decode prog_9_method_18_code 34 = .ok (.ireturn, 1) := by decide +kernel
theorem d_MO_best_10 : decode prog_9_method_18_code 10 = .ok (.bipush (-2), 2) := by decide +kernel
theorem d_MO_best_12 : decode prog_9_method_18_code 12 = .ok (.ireturn, 1) := by decide +kernel
theorem d_MO_wayAt_0 : decode prog_9_method_19_code 0 = .ok (.aload_n 0, 1) := by decide +kernel
theorem d_MO_wayAt_1 : decode prog_9_method_19_code 1 = .ok (.getfield 148, 3) := by decide +kernel
theorem d_MO_wayAt_4 : decode prog_9_method_19_code 4 = .ok (.ifCond .eq 26, 3) := by decide +kernel
theorem d_MO_wayAt_30 : decode prog_9_method_19_code 30 = .ok (.iconst (-1), 1) := by decide +kernel
theorem d_MO_wayAt_31 : decode prog_9_method_19_code 31 = .ok (.ireturn, 1) := by decide +kernel
theorem d_MO_promise_0 : decode prog_9_method_20_code 0 = .ok (.aload_n 0, 1) := by decide +kernel
theorem d_MO_promise_1 : decode prog_9_method_20_code 1 = .ok (.iload_n 1, 1) := by decide +kernel
theorem d_MO_promise_2 : decode prog_9_method_20_code 2 = .ok (.iload_n 2, 1) := by decide +kernel
theorem d_MO_promise_3 : decode prog_9_method_20_code 3 = .ok (.iload_n 3, 1) := by decide +kernel
theorem d_MO_promise_4 : decode prog_9_method_20_code 4 = .ok (.invokevirtual 182, 3) := by decide +kernel
theorem d_MO_promise_7 : decode prog_9_method_20_code 7 = .ok (.ifCond .ne 6, 3) := by decide +kernel
theorem d_MO_promise_13 : decode prog_9_method_20_code 13 = .ok (.aload_n 0, 1) := by decide +kernel
theorem d_MO_promise_14 : decode prog_9_method_20_code 14 = .ok (.iload_n 1, 1) := by decide +kernel
theorem d_MO_promise_15 : decode prog_9_method_20_code 15 = .ok (.iload_n 2, 1) := by decide +kernel
theorem d_MO_promise_16 : decode prog_9_method_20_code 16 = .ok (.iload_n 3, 1) := by decide +kernel
theorem d_MO_promise_17 : decode prog_9_method_20_code 17 = .ok (.invokevirtual 185, 3) := by decide +kernel
theorem d_MO_promise_20 : decode prog_9_method_20_code 20 = .ok (.istore 4, 2) := by decide +kernel
theorem d_MO_promise_22 : decode prog_9_method_20_code 22 = .ok (.iload 4, 2) := by decide +kernel
theorem d_MO_promise_24 : decode prog_9_method_20_code 24 = .ok (.iconst (-1), 1) := by decide +kernel
theorem d_MO_promise_25 : decode prog_9_method_20_code 25 = .ok (.if_icmp .eq 12, 3) := by decide +kernel
theorem d_MO_promise_37 : decode prog_9_method_20_code 37 = .ok (.bipush (-3), 2) := by decide +kernel
theorem d_MO_promise_39 : decode prog_9_method_20_code 39 = .ok (.ireturn, 1) := by decide +kernel
theorem d_MO_promise_10 : decode prog_9_method_20_code 10 = .ok (.bipush (-2), 2) := by decide +kernel
theorem d_MO_promise_12 : decode prog_9_method_20_code 12 = .ok (.ireturn, 1) := by decide +kernel
theorem d_MO_keepAll_0 : decode prog_9_method_22_code 0 = .ok (.iconst 0, 1) := by decide +kernel
theorem d_MO_keepAll_1 : decode prog_9_method_22_code 1 = .ok (.istore_n 1, 1) := by decide +kernel
theorem d_MO_keepAll_2 : decode prog_9_method_22_code 2 = .ok (.iconst 1, 1) := by decide +kernel
theorem d_MO_keepAll_3 : decode prog_9_method_22_code 3 = .ok (.istore_n 2, 1) := by decide +kernel
theorem d_MO_keepAll_4 : decode prog_9_method_22_code 4 = .ok (.iload_n 2, 1) := by decide +kernel
theorem d_MO_keepAll_5 : decode prog_9_method_22_code 5 = .ok (.ifCond .eq 92, 3) := by decide +kernel
theorem d_MO_keepAll_8 : decode prog_9_method_22_code 8 = .ok (.iconst 0, 1) := by decide +kernel
theorem d_MO_keepAll_9 : decode prog_9_method_22_code 9 = .ok (.istore_n 2, 1) := by decide +kernel
theorem d_MO_keepAll_10 : decode prog_9_method_22_code 10 = .ok (.iconst 0, 1) := by decide +kernel
theorem d_MO_keepAll_11 : decode prog_9_method_22_code 11 = .ok (.istore_n 3, 1) := by decide +kernel
theorem d_MO_keepAll_12 : decode prog_9_method_22_code 12 = .ok (.iload_n 3, 1) := by decide +kernel
theorem d_MO_keepAll_13 : decode prog_9_method_22_code 13 = .ok (.aload_n 0, 1) := by decide +kernel
theorem d_MO_keepAll_14 : decode prog_9_method_22_code 14 = .ok (.getfield 145, 3) := by decide +kernel
theorem d_MO_keepAll_17 : decode prog_9_method_22_code 17 = .ok (.if_icmp .ge 77, 3) := by decide +kernel
theorem d_MO_keepAll_94 : decode prog_9_method_22_code 94 = .ok (.goto (-90), 3) := by decide +kernel
theorem d_MO_keepAll_97 : decode prog_9_method_22_code 97 = .ok (.iload_n 1, 1) := by decide +kernel
theorem d_MO_keepAll_98 : decode prog_9_method_22_code 98 = .ok (.ireturn, 1) := by decide +kernel
theorem d_MO_closings_0 : decode prog_9_method_30_code 0 = .ok (.iconst 0, 1) := by decide +kernel
theorem d_MO_closings_1 : decode prog_9_method_30_code 1 = .ok (.istore_n 2, 1) := by decide +kernel
theorem d_MO_closings_2 : decode prog_9_method_30_code 2 = .ok (.iload_n 2, 1) := by decide +kernel
theorem d_MO_closings_3 : decode prog_9_method_30_code 3 = .ok (.aload_n 0, 1) := by decide +kernel
theorem d_MO_closings_4 : decode prog_9_method_30_code 4 = .ok (.getfield 139, 3) := by decide +kernel
theorem d_MO_closings_7 : decode prog_9_method_30_code 7 = .ok (.if_icmp .ge 112, 3) := by decide +kernel
theorem d_MO_closings_119 : decode prog_9_method_30_code 119 = .ok (.return_, 1) := by decide +kernel
theorem d_MO_tell_0 : decode prog_9_method_25_code 0 = .ok (.iload_n 1, 1) := by decide +kernel
theorem d_MO_tell_1 : decode prog_9_method_25_code 1 = .ok (.iconst 0, 1) := by decide +kernel
theorem d_MO_tell_2 : decode prog_9_method_25_code 2 = .ok (.aload_n 0, 1) := by decide +kernel
theorem d_MO_tell_3 : decode prog_9_method_25_code 3 = .ok (.getfield 145, 3) := by decide +kernel
theorem d_MO_tell_6 : decode prog_9_method_25_code 6 = .ok (.iconst 1, 1) := by decide +kernel
theorem d_MO_tell_7 : decode prog_9_method_25_code 7 = .ok (.isub, 1) := by decide +kernel
theorem d_MO_tell_8 : decode prog_9_method_25_code 8 = .ok (.invokestatic 135, 3) := by decide +kernel
theorem d_MO_tell_11 : decode prog_9_method_25_code 11 = .ok (.ifCond .ne 6, 3) := by decide +kernel
theorem d_MO_tell_14 : decode prog_9_method_25_code 14 = .ok (.bipush (-2), 2) := by decide +kernel
theorem d_MO_tell_16 : decode prog_9_method_25_code 16 = .ok (.ireturn, 1) := by decide +kernel
theorem d_MO_tick_0 : decode prog_9_method_26_code 0 = .ok (.iload_n 1, 1) := by decide +kernel
theorem d_MO_tick_1 : decode prog_9_method_26_code 1 = .ok (.iconst 1, 1) := by decide +kernel
theorem d_MO_tick_2 : decode prog_9_method_26_code 2 = .ok (.bipush 60, 2) := by decide +kernel
theorem d_MO_tick_4 : decode prog_9_method_26_code 4 = .ok (.invokestatic 135, 3) := by decide +kernel
theorem d_MO_tick_7 : decode prog_9_method_26_code 7 = .ok (.ifCond .ne 6, 3) := by decide +kernel
theorem d_MO_tick_13 : decode prog_9_method_26_code 13 = .ok (.iconst 0, 1) := by decide +kernel
theorem d_MO_tick_14 : decode prog_9_method_26_code 14 = .ok (.istore_n 2, 1) := by decide +kernel
theorem d_MO_tick_15 : decode prog_9_method_26_code 15 = .ok (.iconst 0, 1) := by decide +kernel
theorem d_MO_tick_16 : decode prog_9_method_26_code 16 = .ok (.istore_n 3, 1) := by decide +kernel
theorem d_MO_tick_17 : decode prog_9_method_26_code 17 = .ok (.iload_n 3, 1) := by decide +kernel
theorem d_MO_tick_18 : decode prog_9_method_26_code 18 = .ok (.iload_n 1, 1) := by decide +kernel
theorem d_MO_tick_19 : decode prog_9_method_26_code 19 = .ok (.if_icmp .ge 200, 3) := by decide +kernel
theorem d_MO_tick_219 : decode prog_9_method_26_code 219 = .ok (.iload_n 2, 1) := by decide +kernel
theorem d_MO_tick_220 : decode prog_9_method_26_code 220 = .ok (.ireturn, 1) := by decide +kernel
theorem d_MO_tick_22 : decode prog_9_method_26_code 22 = .ok (.aload_n 0, 1) := by decide +kernel
theorem d_MO_tick_23 : decode prog_9_method_26_code 23 = .ok (.dup, 1) := by decide +kernel
theorem d_MO_tick_24 : decode prog_9_method_26_code 24 = .ok (.getfield 142, 3) := by decide +kernel
theorem d_MO_tick_27 : decode prog_9_method_26_code 27 = .ok (.iconst 1, 1) := by decide +kernel
theorem d_MO_tick_28 : decode prog_9_method_26_code 28 = .ok (.iadd, 1) := by decide +kernel
theorem d_MO_tick_29 : decode prog_9_method_26_code 29 = .ok (.putfield 142, 3) := by decide +kernel
theorem d_MO_tick_32 : decode prog_9_method_26_code 32 = .ok (.iconst 0, 1) := by decide +kernel
theorem d_MO_tick_33 : decode prog_9_method_26_code 33 = .ok (.istore 4, 2) := by decide +kernel
theorem d_MO_tick_35 : decode prog_9_method_26_code 35 = .ok (.iload 4, 2) := by decide +kernel
theorem d_MO_tick_37 : decode prog_9_method_26_code 37 = .ok (.aload_n 0, 1) := by decide +kernel
theorem d_MO_tick_38 : decode prog_9_method_26_code 38 = .ok (.getfield 145, 3) := by decide +kernel
theorem d_MO_tick_41 : decode prog_9_method_26_code 41 = .ok (.if_icmp .ge 161, 3) := by decide +kernel
theorem d_MO_tick_202 : decode prog_9_method_26_code 202 = .ok (.aload_n 0, 1) := by decide +kernel
theorem d_MO_tick_203 : decode prog_9_method_26_code 203 = .ok (.invokevirtual 167, 3) := by decide +kernel
theorem d_MO_tick_206 : decode prog_9_method_26_code 206 = .ok (.istore 4, 2) := by decide +kernel
theorem d_MO_tick_208 : decode prog_9_method_26_code 208 = .ok (.aload_n 0, 1) := by decide +kernel
theorem d_MO_tick_209 : decode prog_9_method_26_code 209 = .ok (.iconst 1, 1) := by decide +kernel
theorem d_MO_tick_210 : decode prog_9_method_26_code 210 = .ok (.invokevirtual 171, 3) := by decide +kernel
theorem d_MO_tick_213 : decode prog_9_method_26_code 213 = .ok (.iinc 3 1, 3) := by decide +kernel
theorem d_MO_tick_216 : decode prog_9_method_26_code 216 = .ok (.goto (-199), 3) := by decide +kernel
theorem d_MO_tick_10 : decode prog_9_method_26_code 10 = .ok (.bipush (-2), 2) := by decide +kernel
theorem d_MO_tick_12 : decode prog_9_method_26_code 12 = .ok (.ireturn, 1) := by decide +kernel
theorem d_MO_promiseAt_0 : decode prog_9_method_27_code 0 = .ok (.iload_n 1, 1) := by decide +kernel
theorem d_MO_promiseAt_1 : decode prog_9_method_27_code 1 = .ok (.iconst 0, 1) := by decide +kernel
theorem d_MO_promiseAt_2 : decode prog_9_method_27_code 2 = .ok (.aload_n 0, 1) := by decide +kernel
theorem d_MO_promiseAt_3 : decode prog_9_method_27_code 3 = .ok (.getfield 145, 3) := by decide +kernel
theorem d_MO_promiseAt_6 : decode prog_9_method_27_code 6 = .ok (.iconst 1, 1) := by decide +kernel
theorem d_MO_promiseAt_7 : decode prog_9_method_27_code 7 = .ok (.isub, 1) := by decide +kernel
theorem d_MO_promiseAt_8 : decode prog_9_method_27_code 8 = .ok (.invokestatic 135, 3) := by decide +kernel
theorem d_MO_promiseAt_11 : decode prog_9_method_27_code 11 = .ok (.ifCond .ne 6, 3) := by decide +kernel
theorem d_MO_promiseAt_14 : decode prog_9_method_27_code 14 = .ok (.bipush (-2), 2) := by decide +kernel
theorem d_MO_promiseAt_16 : decode prog_9_method_27_code 16 = .ok (.ireturn, 1) := by decide +kernel
theorem d_MO_side_0 : decode prog_9_method_33_code 0 = .ok (.aload_n 0, 1) := by decide +kernel
theorem d_MO_side_1 : decode prog_9_method_33_code 1 = .ok (.iload_n 1, 1) := by decide +kernel
theorem d_MO_side_2 : decode prog_9_method_33_code 2 = .ok (.invokevirtual 210, 3) := by decide +kernel
theorem d_MO_side_5 : decode prog_9_method_33_code 5 = .ok (.ifCond .eq 25, 3) := by decide +kernel
theorem d_MO_side_30 : decode prog_9_method_33_code 30 = .ok (.bipush (-2), 2) := by decide +kernel
theorem d_MO_side_32 : decode prog_9_method_33_code 32 = .ok (.ireturn, 1) := by decide +kernel
theorem d_MO_locked_0 : decode prog_9_method_34_code 0 = .ok (.aload_n 0, 1) := by decide +kernel
theorem d_MO_locked_1 : decode prog_9_method_34_code 1 = .ok (.iload_n 1, 1) := by decide +kernel
theorem d_MO_locked_2 : decode prog_9_method_34_code 2 = .ok (.invokevirtual 210, 3) := by decide +kernel
theorem d_MO_locked_5 : decode prog_9_method_34_code 5 = .ok (.ifCond .eq 25, 3) := by decide +kernel
theorem d_MO_locked_30 : decode prog_9_method_34_code 30 = .ok (.bipush (-2), 2) := by decide +kernel
theorem d_MO_locked_32 : decode prog_9_method_34_code 32 = .ok (.ireturn, 1) := by decide +kernel
theorem d_MO_about_0 : decode prog_9_method_35_code 0 = .ok (.aload_n 0, 1) := by decide +kernel
theorem d_MO_about_1 : decode prog_9_method_35_code 1 = .ok (.iload_n 1, 1) := by decide +kernel
theorem d_MO_about_2 : decode prog_9_method_35_code 2 = .ok (.invokevirtual 210, 3) := by decide +kernel
theorem d_MO_about_5 : decode prog_9_method_35_code 5 = .ok (.ifCond .ne 6, 3) := by decide +kernel
theorem d_MO_about_8 : decode prog_9_method_35_code 8 = .ok (.bipush (-2), 2) := by decide +kernel
theorem d_MO_about_10 : decode prog_9_method_35_code 10 = .ok (.ireturn, 1) := by decide +kernel
theorem d_MO_learnt_0 : decode prog_9_method_50_code 0 = .ok (.aload_n 0, 1) := by decide +kernel
theorem d_MO_learnt_1 : decode prog_9_method_50_code 1 = .ok (.iload_n 1, 1) := by decide +kernel
theorem d_MO_learnt_2 : decode prog_9_method_50_code 2 = .ok (.invokevirtual 210, 3) := by decide +kernel
theorem d_MO_learnt_5 : decode prog_9_method_50_code 5 = .ok (.ifCond .eq 34, 3) := by decide +kernel
theorem d_MO_learnt_39 : decode prog_9_method_50_code 39 = .ok (.bipush (-2), 2) := by decide +kernel
theorem d_MO_learnt_41 : decode prog_9_method_50_code 41 = .ok (.ireturn, 1) := by decide +kernel
theorem d_MO_stateAt_0 : decode prog_9_method_36_code 0 = .ok (.aload_n 0, 1) := by decide +kernel
theorem d_MO_stateAt_1 : decode prog_9_method_36_code 1 = .ok (.iload_n 1, 1) := by decide +kernel
theorem d_MO_stateAt_2 : decode prog_9_method_36_code 2 = .ok (.invokevirtual 210, 3) := by decide +kernel
theorem d_MO_stateAt_5 : decode prog_9_method_36_code 5 = .ok (.ifCond .eq 16, 3) := by decide +kernel
theorem d_MO_stateAt_21 : decode prog_9_method_36_code 21 = .ok (.bipush (-2), 2) := by decide +kernel
theorem d_MO_stateAt_23 : decode prog_9_method_36_code 23 = .ok (.ireturn, 1) := by decide +kernel
theorem d_MO_close_0 : decode prog_9_method_32_code 0 = .ok (.aload_n 0, 1) := by decide +kernel
theorem d_MO_close_1 : decode prog_9_method_32_code 1 = .ok (.iload_n 1, 1) := by decide +kernel
theorem d_MO_close_2 : decode prog_9_method_32_code 2 = .ok (.invokevirtual 210, 3) := by decide +kernel
theorem d_MO_close_5 : decode prog_9_method_32_code 5 = .ok (.ifCond .eq 53, 3) := by decide +kernel
theorem d_MO_close_58 : decode prog_9_method_32_code 58 = .ok (.bipush (-2), 2) := by decide +kernel
theorem d_MO_close_60 : decode prog_9_method_32_code 60 = .ok (.ireturn, 1) := by decide +kernel
theorem d_MO_wealthOf_0 : decode prog_9_method_37_code 0 = .ok (.aload_n 0, 1) := by decide +kernel
theorem d_MO_wealthOf_1 : decode prog_9_method_37_code 1 = .ok (.getfield 23, 3) := by decide +kernel
theorem d_MO_wealthOf_4 : decode prog_9_method_37_code 4 = .ok (.iload_n 1, 1) := by decide +kernel
theorem d_MO_wealthOf_5 : decode prog_9_method_37_code 5 = .ok (.iaload, 1) := by decide +kernel
theorem d_MO_wealthOf_6 : decode prog_9_method_37_code 6 = .ok (.istore_n 2, 1) := by decide +kernel
theorem d_MO_wealthOf_7 : decode prog_9_method_37_code 7 = .ok (.iconst 0, 1) := by decide +kernel
theorem d_MO_wealthOf_8 : decode prog_9_method_37_code 8 = .ok (.istore_n 3, 1) := by decide +kernel
theorem d_MO_wealthOf_9 : decode prog_9_method_37_code 9 = .ok (.iload_n 3, 1) := by decide +kernel
theorem d_MO_wealthOf_10 : decode prog_9_method_37_code 10 = .ok (.iconst 2, 1) := by decide +kernel
theorem d_MO_wealthOf_11 : decode prog_9_method_37_code 11 = .ok (.aload_n 0, 1) := by decide +kernel
theorem d_MO_wealthOf_12 : decode prog_9_method_37_code 12 = .ok (.getfield 139, 3) := by decide +kernel
theorem d_MO_wealthOf_15 : decode prog_9_method_37_code 15 = .ok (.imul, 1) := by decide +kernel
theorem d_MO_wealthOf_16 : decode prog_9_method_37_code 16 = .ok (.if_icmp .ge 39, 3) := by decide +kernel
theorem d_MO_wealthOf_55 : decode prog_9_method_37_code 55 = .ok (.iload_n 2, 1) := by decide +kernel
theorem d_MO_wealthOf_56 : decode prog_9_method_37_code 56 = .ok (.ireturn, 1) := by decide +kernel
theorem d_MO_wealth_0 : decode prog_9_method_38_code 0 = .ok (.aload_n 0, 1) := by decide +kernel
theorem d_MO_wealth_1 : decode prog_9_method_38_code 1 = .ok (.iload_n 1, 1) := by decide +kernel
theorem d_MO_wealth_2 : decode prog_9_method_38_code 2 = .ok (.invokevirtual 155, 3) := by decide +kernel
theorem d_MO_wealth_5 : decode prog_9_method_38_code 5 = .ok (.ifCond .eq 11, 3) := by decide +kernel
theorem d_MO_wealth_16 : decode prog_9_method_38_code 16 = .ok (.bipush (-2), 2) := by decide +kernel
theorem d_MO_wealth_18 : decode prog_9_method_38_code 18 = .ok (.ireturn, 1) := by decide +kernel
theorem d_MO_wealth_8 : decode prog_9_method_38_code 8 = .ok (.aload_n 0, 1) := by decide +kernel
theorem d_MO_wealth_9 : decode prog_9_method_38_code 9 = .ok (.iload_n 1, 1) := by decide +kernel
theorem d_MO_wealth_10 : decode prog_9_method_38_code 10 = .ok (.invokevirtual 216, 3) := by decide +kernel
theorem d_MO_wealth_13 : decode prog_9_method_38_code 13 = .ok (.goto 5, 3) := by decide +kernel
theorem d_MO_off_0 : decode prog_9_method_40_code 0 = .ok (.iconst 0, 1) := by decide +kernel
theorem d_MO_off_1 : decode prog_9_method_40_code 1 = .ok (.istore_n 1, 1) := by decide +kernel
theorem d_MO_off_2 : decode prog_9_method_40_code 2 = .ok (.iconst 0, 1) := by decide +kernel
theorem d_MO_off_3 : decode prog_9_method_40_code 3 = .ok (.istore_n 2, 1) := by decide +kernel
theorem d_MO_off_4 : decode prog_9_method_40_code 4 = .ok (.iload_n 2, 1) := by decide +kernel
theorem d_MO_off_5 : decode prog_9_method_40_code 5 = .ok (.aload_n 0, 1) := by decide +kernel
theorem d_MO_off_6 : decode prog_9_method_40_code 6 = .ok (.getfield 139, 3) := by decide +kernel
theorem d_MO_off_9 : decode prog_9_method_40_code 9 = .ok (.if_icmp .ge 47, 3) := by decide +kernel
theorem d_MO_off_56 : decode prog_9_method_40_code 56 = .ok (.iload_n 1, 1) := by decide +kernel
theorem d_MO_off_57 : decode prog_9_method_40_code 57 = .ok (.ireturn, 1) := by decide +kernel
theorem d_MO_findRing_0 : decode prog_9_method_44_code 0 = .ok (.aload_n 0, 1) := by decide +kernel
theorem d_MO_findRing_1 : decode prog_9_method_44_code 1 = .ok (.iconst 0, 1) := by decide +kernel
theorem d_MO_findRing_2 : decode prog_9_method_44_code 2 = .ok (.putfield 223, 3) := by decide +kernel
theorem d_MO_findRing_5 : decode prog_9_method_44_code 5 = .ok (.iconst 0, 1) := by decide +kernel
theorem d_MO_findRing_6 : decode prog_9_method_44_code 6 = .ok (.istore_n 1, 1) := by decide +kernel
theorem d_MO_findRing_7 : decode prog_9_method_44_code 7 = .ok (.iload_n 1, 1) := by decide +kernel
theorem d_MO_findRing_8 : decode prog_9_method_44_code 8 = .ok (.iconst 2, 1) := by decide +kernel
theorem d_MO_findRing_9 : decode prog_9_method_44_code 9 = .ok (.aload_n 0, 1) := by decide +kernel
theorem d_MO_findRing_10 : decode prog_9_method_44_code 10 = .ok (.getfield 139, 3) := by decide +kernel
theorem d_MO_findRing_13 : decode prog_9_method_44_code 13 = .ok (.imul, 1) := by decide +kernel
theorem d_MO_findRing_14 : decode prog_9_method_44_code 14 = .ok (.if_icmp .ge 19, 3) := by decide +kernel
theorem d_MO_findRing_33 : decode prog_9_method_44_code 33 = .ok (.return_, 1) := by decide +kernel
theorem d_MO_ring_0 : decode prog_9_method_47_code 0 = .ok (.iload_n 1, 1) := by decide +kernel
theorem d_MO_ring_1 : decode prog_9_method_47_code 1 = .ok (.iconst 0, 1) := by decide +kernel
theorem d_MO_ring_2 : decode prog_9_method_47_code 2 = .ok (.iconst 4, 1) := by decide +kernel
theorem d_MO_ring_3 : decode prog_9_method_47_code 3 = .ok (.invokestatic 135, 3) := by decide +kernel
theorem d_MO_ring_6 : decode prog_9_method_47_code 6 = .ok (.ifCond .ne 6, 3) := by decide +kernel
theorem d_MO_ring_12 : decode prog_9_method_47_code 12 = .ok (.aload_n 0, 1) := by decide +kernel
theorem d_MO_ring_13 : decode prog_9_method_47_code 13 = .ok (.invokevirtual 250, 3) := by decide +kernel
theorem d_MO_ring_16 : decode prog_9_method_47_code 16 = .ok (.aload_n 0, 1) := by decide +kernel
theorem d_MO_ring_17 : decode prog_9_method_47_code 17 = .ok (.getfield 223, 3) := by decide +kernel
theorem d_MO_ring_20 : decode prog_9_method_47_code 20 = .ok (.ifCond .ne 5, 3) := by decide +kernel
theorem d_MO_ring_23 : decode prog_9_method_47_code 23 = .ok (.iconst (-1), 1) := by decide +kernel
theorem d_MO_ring_24 : decode prog_9_method_47_code 24 = .ok (.ireturn, 1) := by decide +kernel
theorem d_MO_ring_9 : decode prog_9_method_47_code 9 = .ok (.bipush (-2), 2) := by decide +kernel
theorem d_MO_ring_11 : decode prog_9_method_47_code 11 = .ok (.ireturn, 1) := by decide +kernel
theorem d_MO_even_0 : decode prog_9_method_48_code 0 = .ok (.aload_n 0, 1) := by decide +kernel
theorem d_MO_even_1 : decode prog_9_method_48_code 1 = .ok (.invokevirtual 250, 3) := by decide +kernel
theorem d_MO_even_4 : decode prog_9_method_48_code 4 = .ok (.aload_n 0, 1) := by decide +kernel
theorem d_MO_even_5 : decode prog_9_method_48_code 5 = .ok (.getfield 223, 3) := by decide +kernel
theorem d_MO_even_8 : decode prog_9_method_48_code 8 = .ok (.ifCond .ne 6, 3) := by decide +kernel
theorem d_MO_even_11 : decode prog_9_method_48_code 11 = .ok (.bipush (-3), 2) := by decide +kernel
theorem d_MO_even_13 : decode prog_9_method_48_code 13 = .ok (.ireturn, 1) := by decide +kernel
theorem d_MO_tries_0 : decode prog_9_method_49_code 0 = .ok (.iload_n 1, 1) := by decide +kernel
theorem d_MO_tries_1 : decode prog_9_method_49_code 1 = .ok (.iconst 1, 1) := by decide +kernel
theorem d_MO_tries_2 : decode prog_9_method_49_code 2 = .ok (.ldc 253, 2) := by decide +kernel
theorem d_MO_tries_4 : decode prog_9_method_49_code 4 = .ok (.invokestatic 135, 3) := by decide +kernel
theorem d_MO_tries_7 : decode prog_9_method_49_code 7 = .ok (.ifCond .ne 6, 3) := by decide +kernel
theorem d_MO_tries_13 : decode prog_9_method_49_code 13 = .ok (.aload_n 0, 1) := by decide +kernel
theorem d_MO_tries_14 : decode prog_9_method_49_code 14 = .ok (.getfield 148, 3) := by decide +kernel
theorem d_MO_tries_17 : decode prog_9_method_49_code 17 = .ok (.ifCond .ne 6, 3) := by decide +kernel
theorem d_MO_tries_20 : decode prog_9_method_49_code 20 = .ok (.bipush (-3), 2) := by decide +kernel
theorem d_MO_tries_22 : decode prog_9_method_49_code 22 = .ok (.ireturn, 1) := by decide +kernel
theorem d_MO_tries_10 : decode prog_9_method_49_code 10 = .ok (.bipush (-2), 2) := by decide +kernel
theorem d_MO_tries_12 : decode prog_9_method_49_code 12 = .ok (.ireturn, 1) := by decide +kernel
theorem d_MO_count_0 : decode prog_9_method_51_code 0 = .ok (.iconst 0, 1) := by decide +kernel
theorem d_MO_count_1 : decode prog_9_method_51_code 1 = .ok (.istore_n 2, 1) := by decide +kernel
theorem d_MO_count_2 : decode prog_9_method_51_code 2 = .ok (.iload_n 1, 1) := by decide +kernel
theorem d_MO_count_3 : decode prog_9_method_51_code 3 = .ok (.tableswitch 151 0 7 #[45, 50, 55, 60, 101, 106, 111, 116], 45) := by decide +kernel
theorem d_MO_count_48 : decode prog_9_method_51_code 48 = .ok (.aload_n 0, 1) := by decide +kernel
theorem d_MO_count_49 : decode prog_9_method_51_code 49 = .ok (.getfield 7, 3) := by decide +kernel
theorem d_MO_count_52 : decode prog_9_method_51_code 52 = .ok (.ireturn, 1) := by decide +kernel
theorem d_MO_count_53 : decode prog_9_method_51_code 53 = .ok (.aload_n 0, 1) := by decide +kernel
theorem d_MO_count_54 : decode prog_9_method_51_code 54 = .ok (.getfield 139, 3) := by decide +kernel
theorem d_MO_count_57 : decode prog_9_method_51_code 57 = .ok (.ireturn, 1) := by decide +kernel
theorem d_MO_count_58 : decode prog_9_method_51_code 58 = .ok (.aload_n 0, 1) := by decide +kernel
theorem d_MO_count_59 : decode prog_9_method_51_code 59 = .ok (.getfield 145, 3) := by decide +kernel
theorem d_MO_count_62 : decode prog_9_method_51_code 62 = .ok (.ireturn, 1) := by decide +kernel
theorem d_MO_count_63 : decode prog_9_method_51_code 63 = .ok (.iconst 0, 1) := by decide +kernel
theorem d_MO_count_64 : decode prog_9_method_51_code 64 = .ok (.istore_n 3, 1) := by decide +kernel
theorem d_MO_count_65 : decode prog_9_method_51_code 65 = .ok (.iload_n 3, 1) := by decide +kernel
theorem d_MO_count_66 : decode prog_9_method_51_code 66 = .ok (.aload_n 0, 1) := by decide +kernel
theorem d_MO_count_67 : decode prog_9_method_51_code 67 = .ok (.getfield 145, 3) := by decide +kernel
theorem d_MO_count_70 : decode prog_9_method_51_code 70 = .ok (.if_icmp .ge 32, 3) := by decide +kernel
theorem d_MO_count_102 : decode prog_9_method_51_code 102 = .ok (.iload_n 2, 1) := by decide +kernel
theorem d_MO_count_103 : decode prog_9_method_51_code 103 = .ok (.ireturn, 1) := by decide +kernel
theorem d_MO_count_104 : decode prog_9_method_51_code 104 = .ok (.aload_n 0, 1) := by decide +kernel
theorem d_MO_count_105 : decode prog_9_method_51_code 105 = .ok (.getfield 142, 3) := by decide +kernel
theorem d_MO_count_108 : decode prog_9_method_51_code 108 = .ok (.ireturn, 1) := by decide +kernel
theorem d_MO_count_109 : decode prog_9_method_51_code 109 = .ok (.aload_n 0, 1) := by decide +kernel
theorem d_MO_count_110 : decode prog_9_method_51_code 110 = .ok (.getfield 13, 3) := by decide +kernel
theorem d_MO_count_113 : decode prog_9_method_51_code 113 = .ok (.ireturn, 1) := by decide +kernel
theorem d_MO_count_114 : decode prog_9_method_51_code 114 = .ok (.aload_n 0, 1) := by decide +kernel
theorem d_MO_count_115 : decode prog_9_method_51_code 115 = .ok (.getfield 16, 3) := by decide +kernel
theorem d_MO_count_118 : decode prog_9_method_51_code 118 = .ok (.ireturn, 1) := by decide +kernel
theorem d_MO_count_119 : decode prog_9_method_51_code 119 = .ok (.iconst 0, 1) := by decide +kernel
theorem d_MO_count_120 : decode prog_9_method_51_code 120 = .ok (.istore_n 3, 1) := by decide +kernel
theorem d_MO_count_121 : decode prog_9_method_51_code 121 = .ok (.iload_n 3, 1) := by decide +kernel
theorem d_MO_count_122 : decode prog_9_method_51_code 122 = .ok (.aload_n 0, 1) := by decide +kernel
theorem d_MO_count_123 : decode prog_9_method_51_code 123 = .ok (.getfield 7, 3) := by decide +kernel
theorem d_MO_count_126 : decode prog_9_method_51_code 126 = .ok (.if_icmp .ge 26, 3) := by decide +kernel
theorem d_MO_count_129 : decode prog_9_method_51_code 129 = .ok (.iload_n 2, 1) := by decide +kernel
theorem d_MO_count_130 : decode prog_9_method_51_code 130 = .ok (.aload_n 0, 1) := by decide +kernel
theorem d_MO_count_131 : decode prog_9_method_51_code 131 = .ok (.getfield 19, 3) := by decide +kernel
theorem d_MO_count_134 : decode prog_9_method_51_code 134 = .ok (.iload_n 3, 1) := by decide +kernel
theorem d_MO_count_135 : decode prog_9_method_51_code 135 = .ok (.baload, 1) := by decide +kernel
theorem d_MO_count_136 : decode prog_9_method_51_code 136 = .ok (.ifCond .eq 7, 3) := by decide +kernel
theorem d_MO_count_143 : decode prog_9_method_51_code 143 = .ok (.iconst 0, 1) := by decide +kernel
theorem d_MO_count_144 : decode prog_9_method_51_code 144 = .ok (.iadd, 1) := by decide +kernel
theorem d_MO_count_145 : decode prog_9_method_51_code 145 = .ok (.istore_n 2, 1) := by decide +kernel
theorem d_MO_count_146 : decode prog_9_method_51_code 146 = .ok (.iinc 3 1, 3) := by decide +kernel
theorem d_MO_count_149 : decode prog_9_method_51_code 149 = .ok (.goto (-28), 3) := by decide +kernel
theorem d_MO_count_152 : decode prog_9_method_51_code 152 = .ok (.iload_n 2, 1) := by decide +kernel
theorem d_MO_count_153 : decode prog_9_method_51_code 153 = .ok (.ireturn, 1) := by decide +kernel
theorem d_MO_count_154 : decode prog_9_method_51_code 154 = .ok (.bipush (-2), 2) := by decide +kernel
theorem d_MO_count_156 : decode prog_9_method_51_code 156 = .ok (.ireturn, 1) := by decide +kernel
theorem d_MO_digest_0 : decode prog_9_method_52_code 0 = .ok (.ldc2_w 254, 3) := by decide +kernel
theorem d_MO_digest_3 : decode prog_9_method_52_code 3 = .ok (.lstore_n 1, 1) := by decide +kernel
theorem d_MO_digest_4 : decode prog_9_method_52_code 4 = .ok (.iconst 0, 1) := by decide +kernel
theorem d_MO_digest_5 : decode prog_9_method_52_code 5 = .ok (.istore_n 3, 1) := by decide +kernel
theorem d_MO_digest_6 : decode prog_9_method_52_code 6 = .ok (.iload_n 3, 1) := by decide +kernel
theorem d_MO_digest_7 : decode prog_9_method_52_code 7 = .ok (.bipush 8, 2) := by decide +kernel
theorem d_MO_digest_9 : decode prog_9_method_52_code 9 = .ok (.if_icmp .ge 22, 3) := by decide +kernel
theorem d_MO_digest_12 : decode prog_9_method_52_code 12 = .ok (.ldc2_w 256, 3) := by decide +kernel
theorem d_MO_digest_15 : decode prog_9_method_52_code 15 = .ok (.lload_n 1, 1) := by decide +kernel
theorem d_MO_digest_16 : decode prog_9_method_52_code 16 = .ok (.lmul, 1) := by decide +kernel
theorem d_MO_digest_17 : decode prog_9_method_52_code 17 = .ok (.aload_n 0, 1) := by decide +kernel
theorem d_MO_digest_18 : decode prog_9_method_52_code 18 = .ok (.iload_n 3, 1) := by decide +kernel
theorem d_MO_digest_19 : decode prog_9_method_52_code 19 = .ok (.invokevirtual 258, 3) := by decide +kernel
theorem d_MO_digest_22 : decode prog_9_method_52_code 22 = .ok (.i2l, 1) := by decide +kernel
theorem d_MO_digest_23 : decode prog_9_method_52_code 23 = .ok (.ladd, 1) := by decide +kernel
theorem d_MO_digest_24 : decode prog_9_method_52_code 24 = .ok (.lstore_n 1, 1) := by decide +kernel
theorem d_MO_digest_25 : decode prog_9_method_52_code 25 = .ok (.iinc 3 1, 3) := by decide +kernel
theorem d_MO_digest_28 : decode prog_9_method_52_code 28 = .ok (.goto (-22), 3) := by decide +kernel
theorem d_MO_digest_31 : decode prog_9_method_52_code 31 = .ok (.iconst 0, 1) := by decide +kernel
theorem d_MO_digest_32 : decode prog_9_method_52_code 32 = .ok (.istore_n 3, 1) := by decide +kernel
theorem d_MO_digest_33 : decode prog_9_method_52_code 33 = .ok (.iload_n 3, 1) := by decide +kernel
theorem d_MO_digest_34 : decode prog_9_method_52_code 34 = .ok (.aload_n 0, 1) := by decide +kernel
theorem d_MO_digest_35 : decode prog_9_method_52_code 35 = .ok (.getfield 7, 3) := by decide +kernel
theorem d_MO_digest_38 : decode prog_9_method_52_code 38 = .ok (.if_icmp .ge 22, 3) := by decide +kernel
theorem d_MO_digest_41 : decode prog_9_method_52_code 41 = .ok (.ldc2_w 256, 3) := by decide +kernel
theorem d_MO_digest_44 : decode prog_9_method_52_code 44 = .ok (.lload_n 1, 1) := by decide +kernel
theorem d_MO_digest_45 : decode prog_9_method_52_code 45 = .ok (.lmul, 1) := by decide +kernel
theorem d_MO_digest_46 : decode prog_9_method_52_code 46 = .ok (.aload_n 0, 1) := by decide +kernel
theorem d_MO_digest_47 : decode prog_9_method_52_code 47 = .ok (.iload_n 3, 1) := by decide +kernel
theorem d_MO_digest_48 : decode prog_9_method_52_code 48 = .ok (.invokevirtual 216, 3) := by decide +kernel
theorem d_MO_digest_51 : decode prog_9_method_52_code 51 = .ok (.i2l, 1) := by decide +kernel
theorem d_MO_digest_52 : decode prog_9_method_52_code 52 = .ok (.ladd, 1) := by decide +kernel
theorem d_MO_digest_53 : decode prog_9_method_52_code 53 = .ok (.lstore_n 1, 1) := by decide +kernel
theorem d_MO_digest_54 : decode prog_9_method_52_code 54 = .ok (.iinc 3 1, 3) := by decide +kernel
theorem d_MO_digest_57 : decode prog_9_method_52_code 57 = .ok (.goto (-24), 3) := by decide +kernel
theorem d_MO_digest_60 : decode prog_9_method_52_code 60 = .ok (.iconst 0, 1) := by decide +kernel
theorem d_MO_digest_61 : decode prog_9_method_52_code 61 = .ok (.istore_n 3, 1) := by decide +kernel
theorem d_MO_digest_62 : decode prog_9_method_52_code 62 = .ok (.iload_n 3, 1) := by decide +kernel
theorem d_MO_digest_63 : decode prog_9_method_52_code 63 = .ok (.aload_n 0, 1) := by decide +kernel
theorem d_MO_digest_64 : decode prog_9_method_52_code 64 = .ok (.getfield 139, 3) := by decide +kernel
theorem d_MO_digest_67 : decode prog_9_method_52_code 67 = .ok (.if_icmp .ge 127, 3) := by decide +kernel
theorem d_MO_digest_194 : decode prog_9_method_52_code 194 = .ok (.iconst 0, 1) := by decide +kernel
theorem d_MO_digest_195 : decode prog_9_method_52_code 195 = .ok (.istore_n 3, 1) := by decide +kernel
theorem d_MO_digest_196 : decode prog_9_method_52_code 196 = .ok (.iload_n 3, 1) := by decide +kernel
theorem d_MO_digest_197 : decode prog_9_method_52_code 197 = .ok (.aload_n 0, 1) := by decide +kernel
theorem d_MO_digest_198 : decode prog_9_method_52_code 198 = .ok (.getfield 145, 3) := by decide +kernel
theorem d_MO_digest_201 : decode prog_9_method_52_code 201 = .ok (.if_icmp .ge 40, 3) := by decide +kernel
theorem d_MO_digest_241 : decode prog_9_method_52_code 241 = .ok (.lload_n 1, 1) := by decide +kernel
theorem d_MO_digest_242 : decode prog_9_method_52_code 242 = .ok (.lreturn, 1) := by decide +kernel
set_option maxHeartbeats 4000000 in
set_option maxRecDepth 100000 in
theorem f_MO_isPerson (l : Launch) (D : va_G) (cI cZ : ClassId) (y : Nat) (i : Int32) (y1 : Nat) (y2 : Nat) (y3 : Nat) (y4 : Nat) (y5 : Nat) (y6 : Nat) (y7 : Nat) (y8 : Nat) (y9 : Nat) (y10 : Nat) (y11 : Nat) (y12 : Nat) (y13 : Nat) (y14 : Nat) (y15 : Nat) (y16 : Nat) (y17 : Nat) (y18 : Nat) (y19 : Nat) (y20 : Nat) (y21 : Nat) (y22 : Nat) (y23 : Nat) (y24 : Nat) (y25 : Nat) (y26 : Nat) (y27 : Nat) (y28 : Nat) (y29 : Nat) (y30 : Nat) (y31 : Nat) (y32 : Nat) (y33 : Nat) (y34 : Nat) (y35 : Nat) (y36 : Nat) (y37 : Nat) (y38 : Nat) (sz : Nat)  : Met l ⟨"PromiseChainsModel", "isPerson", "(I)Z"⟩ (mw ⟨"PromiseChainsModel", "isPerson", "(I)Z"⟩ prog_9_method_4_code 2 (some .boolean)) ({ frames := 1, cells := 0, slots := 0, locals := 22 }) (va_Pc [.ref y, .int i] (PB D cI cZ sz [(y, .inr (7, [.int 2, .int 0, .int 3, .int 5, .ref y1, .ref y2, .ref y3, .ref y4, .int 0, .ref y5, .ref y6, .ref y7, .ref y8, .ref y9, .ref y10, .ref y11, .ref y12, .ref y13, .ref y14, .ref y15, .int 0, .ref y16, .ref y17, .ref y18, .ref y19, .ref y20, .ref y21, .ref y22, .ref y23, .ref y24, .ref y25, .ref y26, .ref y27, .int 0, .int 0, .ref y28, .ref y29, .ref y30, .ref y31, .ref y32, .ref y33, .ref y34, .ref y35, .ref y36, .int 0, .ref y37, .ref y38, .int 0, .int 0, .int 0]))])) (vp_Si (fun r => r = isw i 0 1)) 0 0 (fun _ => False) := by
  refine Met.ofW (cc := prog_9_method_4_code) (maxL := 2) (ret := (some .boolean)) (by decide) rfl ?_
  intro p e s m args below meth c s₁ B hml hv
  obtain ⟨rfl, hsz, hP, hK, hD0, hN⟩ := hv
  have hx := B.exec
  have hb := B.bytes
  have hr := B.returns
  have hts0 := atoms_spec (ws := mw ⟨"PromiseChainsModel", "isPerson", "(I)Z"⟩ prog_9_method_4_code 2 (some .boolean)) B.pre
  have hts : ∀ w ∈ tblG, w.before _ s = true := fun w h => hts0 w (List.mem_cons_of_mem _ h)
  have hown : s.vm.findClass "PromiseChainsModel" = some m.cls := findClass_of_methodNamed B.named
  have hlocks := B.notSynchronized
  subst hsz
  have hD := hD0
  have hP : va_P D vwCl [(y, .inr (7, [.int 2, .int 0, .int 3, .int 5, .ref y1, .ref y2, .ref y3, .ref y4, .int 0, .ref y5, .ref y6, .ref y7, .ref y8, .ref y9, .ref y10, .ref y11, .ref y12, .ref y13, .ref y14, .ref y15, .int 0, .ref y16, .ref y17, .ref y18, .ref y19, .ref y20, .ref y21, .ref y22, .ref y23, .ref y24, .ref y25, .ref y26, .ref y27, .int 0, .int 0, .ref y28, .ref y29, .ref y30, .ref y31, .ref y32, .ref y33, .ref y34, .ref y35, .ref y36, .int 0, .ref y37, .ref y38, .int 0, .int 0, .int 0]))] s.heap := hP
  have hl := lv_entry ([.ref y, .int i]) (n := 2) (Nat.le_of_ble_eq_true rfl)
  rw [lg_entry_eq]
  generalize (lg_sl ([.ref y, .int i]) ++ List.replicate (2 - (lg_sl ([.ref y, .int i])).length) Slot.unset).toArray = ls at hl ⊢
  have hl : lv_has ls 2 [(0, .ref y), (1, .int i)] := hl
  refine lv_iload_n hx hb d_MO_isPerson_0 rfl (lv_at hl 1 rfl) ?_
  refine lv_iconst (v := 0) hx hb d_MO_isPerson_1 (by decide) ?_
  refine lv_aload_n hx hb d_MO_isPerson_2 rfl (lv_at hl 0 rfl) ?_
  refine va_get (D := D) (ci := 7) (v := .int 2) (C := R_MO) (T := F_MO) (N := 50) hx hb hts i_MO hown hK hP 0 rfl rfl 0 (by decide) (hts _ q_632) (fun _ h9 => h9) rfl d_MO_isPerson_3 ?_
  refine lv_iconst (v := 1) hx hb d_MO_isPerson_6 (by decide) ?_
  refine lv_isub hx hb d_MO_isPerson_7 ?_
  refine lv_seti (1) (by decide) ?_
  have hPc := hP.sub (ws' := []) [] rfl
  have hDc := hD.sub (ws' := []) [] (by decide) rfl
  refine vp_callSi (va_Run.run (va_runS (As := [.int i, .int 0, .int 1]) (rest := []) ⟨hx, hb, hml, hown, hts⟩ (c_in l D cI cZ i 0 1 s.heap.size ) (my_cwS 3 hts q_789 q_787 q_788 q_8 rfl rfl (by decide +kernel) ⟨Nat.le_of_ble_eq_true rfl, Nat.le_of_ble_eq_true rfl⟩) (my_preS hPc hDc hK hN) rfl rfl hl.1 rfl (lv_room (Nat.le_of_ble_eq_true rfl)) d_MO_isPerson_8 ⟨Nat.le_of_ble_eq_true rfl, Nat.le_of_ble_eq_true rfl⟩)) (fun r_1 hw_1 => ?_)
  have hw_1 : r_1 = isw i 0 1 := hw_1
  subst hw_1
  exact W.zret (v := (isw i 0 1)) hx hb hr (isw_nar _ _ _) (fun t ht hW => ⟨(isw i 0 1), rfl, rfl, ht⟩) (fun q h => absurd h List.not_mem_nil) d_MO_isPerson_11

set_option maxHeartbeats 4000000 in
set_option maxRecDepth 100000 in
theorem f_MO_isPair (l : Launch) (D : va_G) (cI cZ : ClassId) (y : Nat) (i : Int32) (y1 : Nat) (y2 : Nat) (y3 : Nat) (y4 : Nat) (y5 : Nat) (y6 : Nat) (y7 : Nat) (y8 : Nat) (y9 : Nat) (y10 : Nat) (y11 : Nat) (y12 : Nat) (y13 : Nat) (y14 : Nat) (y15 : Nat) (y16 : Nat) (y17 : Nat) (y18 : Nat) (y19 : Nat) (y20 : Nat) (y21 : Nat) (y22 : Nat) (y23 : Nat) (y24 : Nat) (y25 : Nat) (y26 : Nat) (y27 : Nat) (y28 : Nat) (y29 : Nat) (y30 : Nat) (y31 : Nat) (y32 : Nat) (y33 : Nat) (y34 : Nat) (y35 : Nat) (y36 : Nat) (y37 : Nat) (y38 : Nat) (sz : Nat)  : Met l ⟨"PromiseChainsModel", "isPair", "(I)Z"⟩ (mw ⟨"PromiseChainsModel", "isPair", "(I)Z"⟩ prog_9_method_5_code 2 (some .boolean)) ({ frames := 1, cells := 0, slots := 0, locals := 22 }) (va_Pc [.ref y, .int i] (PB D cI cZ sz [(y, .inr (7, [.int 2, .int 0, .int 3, .int 5, .ref y1, .ref y2, .ref y3, .ref y4, .int 0, .ref y5, .ref y6, .ref y7, .ref y8, .ref y9, .ref y10, .ref y11, .ref y12, .ref y13, .ref y14, .ref y15, .int 0, .ref y16, .ref y17, .ref y18, .ref y19, .ref y20, .ref y21, .ref y22, .ref y23, .ref y24, .ref y25, .ref y26, .ref y27, .int 0, .int 0, .ref y28, .ref y29, .ref y30, .ref y31, .ref y32, .ref y33, .ref y34, .ref y35, .ref y36, .int 0, .ref y37, .ref y38, .int 0, .int 0, .int 0]))])) (vp_Si (fun r => r = 0)) 0 0 (fun _ => False) := by
  refine Met.ofW (cc := prog_9_method_5_code) (maxL := 2) (ret := (some .boolean)) (by decide) rfl ?_
  intro p e s m args below meth c s₁ B hml hv
  obtain ⟨rfl, hsz, hP, hK, hD0, hN⟩ := hv
  have hx := B.exec
  have hb := B.bytes
  have hr := B.returns
  have hts0 := atoms_spec (ws := mw ⟨"PromiseChainsModel", "isPair", "(I)Z"⟩ prog_9_method_5_code 2 (some .boolean)) B.pre
  have hts : ∀ w ∈ tblG, w.before _ s = true := fun w h => hts0 w (List.mem_cons_of_mem _ h)
  have hown : s.vm.findClass "PromiseChainsModel" = some m.cls := findClass_of_methodNamed B.named
  have hlocks := B.notSynchronized
  subst hsz
  have hD := hD0
  have hP : va_P D vwCl [(y, .inr (7, [.int 2, .int 0, .int 3, .int 5, .ref y1, .ref y2, .ref y3, .ref y4, .int 0, .ref y5, .ref y6, .ref y7, .ref y8, .ref y9, .ref y10, .ref y11, .ref y12, .ref y13, .ref y14, .ref y15, .int 0, .ref y16, .ref y17, .ref y18, .ref y19, .ref y20, .ref y21, .ref y22, .ref y23, .ref y24, .ref y25, .ref y26, .ref y27, .int 0, .int 0, .ref y28, .ref y29, .ref y30, .ref y31, .ref y32, .ref y33, .ref y34, .ref y35, .ref y36, .int 0, .ref y37, .ref y38, .int 0, .int 0, .int 0]))] s.heap := hP
  have hl := lv_entry ([.ref y, .int i]) (n := 2) (Nat.le_of_ble_eq_true rfl)
  rw [lg_entry_eq]
  generalize (lg_sl ([.ref y, .int i]) ++ List.replicate (2 - (lg_sl ([.ref y, .int i])).length) Slot.unset).toArray = ls at hl ⊢
  have hl : lv_has ls 2 [(0, .ref y), (1, .int i)] := hl
  refine lv_iload_n hx hb d_MO_isPair_0 rfl (lv_at hl 1 rfl) ?_
  refine lv_iconst (v := 0) hx hb d_MO_isPair_1 (by decide) ?_
  refine lv_aload_n hx hb d_MO_isPair_2 rfl (lv_at hl 0 rfl) ?_
  refine va_get (D := D) (ci := 7) (v := .int 0) (C := R_MO) (T := F_MO) (N := 50) hx hb hts i_MO hown hK hP 0 rfl rfl 8 (by decide) (hts _ q_640) (fun _ h9 => h9) rfl d_MO_isPair_3 ?_
  refine lv_iconst (v := 1) hx hb d_MO_isPair_6 (by decide) ?_
  refine lv_isub hx hb d_MO_isPair_7 ?_
  refine lv_seti (-1) (by decide) ?_
  have hPc := hP.sub (ws' := []) [] rfl
  have hDc := hD.sub (ws' := []) [] (by decide) rfl
  refine vp_callSi (va_Run.run (va_runS (As := [.int i, .int 0, .int (-1)]) (rest := []) ⟨hx, hb, hml, hown, hts⟩ (c_in l D cI cZ i 0 (-1) s.heap.size ) (my_cwS 3 hts q_789 q_787 q_788 q_8 rfl rfl (by decide +kernel) ⟨Nat.le_of_ble_eq_true rfl, Nat.le_of_ble_eq_true rfl⟩) (my_preS hPc hDc hK hN) rfl rfl hl.1 rfl (lv_room (Nat.le_of_ble_eq_true rfl)) d_MO_isPair_8 ⟨Nat.le_of_ble_eq_true rfl, Nat.le_of_ble_eq_true rfl⟩)) (fun r_1 hw_1 => ?_)
  have hw_1 : r_1 = isw i 0 (-1) := hw_1
  subst hw_1
  refine lv_seti (0) (isw_neg _) ?_
  exact W.zret (v := 0) hx hb hr rfl (fun t ht hW => ⟨0, rfl, rfl, ht⟩) (fun q h => absurd h List.not_mem_nil) d_MO_isPair_11

set_option maxHeartbeats 4000000 in
set_option maxRecDepth 100000 in
theorem f_MO_people (l : Launch) (D : va_G) (cI cZ : ClassId) (y : Nat) (n : Int32) (y1 : Nat) (y2 : Nat) (y3 : Nat) (y4 : Nat) (y5 : Nat) (y6 : Nat) (y7 : Nat) (y8 : Nat) (y9 : Nat) (y10 : Nat) (y11 : Nat) (y12 : Nat) (y13 : Nat) (y14 : Nat) (y15 : Nat) (y16 : Nat) (y17 : Nat) (y18 : Nat) (y19 : Nat) (y20 : Nat) (y21 : Nat) (y22 : Nat) (y23 : Nat) (y24 : Nat) (y25 : Nat) (y26 : Nat) (y27 : Nat) (y28 : Nat) (y29 : Nat) (y30 : Nat) (y31 : Nat) (y32 : Nat) (y33 : Nat) (y34 : Nat) (y35 : Nat) (y36 : Nat) (y37 : Nat) (y38 : Nat) (sz : Nat)  : Met l ⟨"PromiseChainsModel", "people", "(I)I"⟩ (mw ⟨"PromiseChainsModel", "people", "(I)I"⟩ prog_9_method_6_code 3 (some .int)) ({ frames := 1, cells := 0, slots := 0, locals := 22 }) (va_Pc [.ref y, .int n] (PB D cI cZ sz [(y, .inr (7, [.int 2, .int 0, .int 3, .int 5, .ref y1, .ref y2, .ref y3, .ref y4, .int 0, .ref y5, .ref y6, .ref y7, .ref y8, .ref y9, .ref y10, .ref y11, .ref y12, .ref y13, .ref y14, .ref y15, .int 0, .ref y16, .ref y17, .ref y18, .ref y19, .ref y20, .ref y21, .ref y22, .ref y23, .ref y24, .ref y25, .ref y26, .ref y27, .int 0, .int 0, .ref y28, .ref y29, .ref y30, .ref y31, .ref y32, .ref y33, .ref y34, .ref y35, .ref y36, .int 0, .ref y37, .ref y38, .int 0, .int 0, .int 0])), (y1, .inl (cZ, 7, .inl (fun _ => 0))), (y2, .inl (cI, 7, .inl (fun _ => 0))), (y3, .inl (cI, 7, .inl (fun _ => 0))), (y4, .inl (cI, 7, .inl (fun _ => 0)))])) (va_Qi (S := Unit) (fun (r : Int32) uU => r = sp_people n) (fun uU tT => BB D (va_A [(y, .inr (7, [.int 2, .int 0, .int 3, .int 5, .ref y1, .ref y2, .ref y3, .ref y4, .int 0, .ref y5, .ref y6, .ref y7, .ref y8, .ref y9, .ref y10, .ref y11, .ref y12, .ref y13, .ref y14, .ref y15, .int 0, .ref y16, .ref y17, .ref y18, .ref y19, .ref y20, .ref y21, .ref y22, .ref y23, .ref y24, .ref y25, .ref y26, .ref y27, .int 0, .int 0, .ref y28, .ref y29, .ref y30, .ref y31, .ref y32, .ref y33, .ref y34, .ref y35, .ref y36, .int 0, .ref y37, .ref y38, .int 0, .int 0, .int 0])), (y1, .inl (cZ, 7, .inl (fun _ => 0))), (y2, .inl (cI, 7, .inl (fun _ => 0))), (y3, .inl (cI, 7, .inl (fun _ => 0))), (y4, .inl (cI, 7, .inl (fun _ => 0)))] sz) [] tT) (va_A [(y, .inr (7, [.int 2, .int 0, .int 3, .int 5, .ref y1, .ref y2, .ref y3, .ref y4, .int 0, .ref y5, .ref y6, .ref y7, .ref y8, .ref y9, .ref y10, .ref y11, .ref y12, .ref y13, .ref y14, .ref y15, .int 0, .ref y16, .ref y17, .ref y18, .ref y19, .ref y20, .ref y21, .ref y22, .ref y23, .ref y24, .ref y25, .ref y26, .ref y27, .int 0, .int 0, .ref y28, .ref y29, .ref y30, .ref y31, .ref y32, .ref y33, .ref y34, .ref y35, .ref y36, .int 0, .ref y37, .ref y38, .int 0, .int 0, .int 0])), (y1, .inl (cZ, 7, .inl (fun _ => 0))), (y2, .inl (cI, 7, .inl (fun _ => 0))), (y3, .inl (cI, 7, .inl (fun _ => 0))), (y4, .inl (cI, 7, .inl (fun _ => 0)))] sz)) 0 0 (va_A [(y, .inr (7, [.int 2, .int 0, .int 3, .int 5, .ref y1, .ref y2, .ref y3, .ref y4, .int 0, .ref y5, .ref y6, .ref y7, .ref y8, .ref y9, .ref y10, .ref y11, .ref y12, .ref y13, .ref y14, .ref y15, .int 0, .ref y16, .ref y17, .ref y18, .ref y19, .ref y20, .ref y21, .ref y22, .ref y23, .ref y24, .ref y25, .ref y26, .ref y27, .int 0, .int 0, .ref y28, .ref y29, .ref y30, .ref y31, .ref y32, .ref y33, .ref y34, .ref y35, .ref y36, .int 0, .ref y37, .ref y38, .int 0, .int 0, .int 0])), (y1, .inl (cZ, 7, .inl (fun _ => 0))), (y2, .inl (cI, 7, .inl (fun _ => 0))), (y3, .inl (cI, 7, .inl (fun _ => 0))), (y4, .inl (cI, 7, .inl (fun _ => 0)))] sz) := by
  refine Met.ofW (cc := prog_9_method_6_code) (maxL := 3) (ret := (some .int)) (by decide) rfl ?_
  intro p e s m args below meth c s₁ B hml hv
  obtain ⟨rfl, hsz, hP, hK, hD0, hN⟩ := hv
  have hx := B.exec
  have hb := B.bytes
  have hr := B.returns
  have hts0 := atoms_spec (ws := mw ⟨"PromiseChainsModel", "people", "(I)I"⟩ prog_9_method_6_code 3 (some .int)) B.pre
  have hts : ∀ w ∈ tblG, w.before _ s = true := fun w h => hts0 w (List.mem_cons_of_mem _ h)
  have hown : s.vm.findClass "PromiseChainsModel" = some m.cls := findClass_of_methodNamed B.named
  have hlocks := B.notSynchronized
  subst hsz
  have hD := hD0.self (sz := s.heap.size)
  generalize hAe : va_A [(y, .inr (7, [.int 2, .int 0, .int 3, .int 5, .ref y1, .ref y2, .ref y3, .ref y4, .int 0, .ref y5, .ref y6, .ref y7, .ref y8, .ref y9, .ref y10, .ref y11, .ref y12, .ref y13, .ref y14, .ref y15, .int 0, .ref y16, .ref y17, .ref y18, .ref y19, .ref y20, .ref y21, .ref y22, .ref y23, .ref y24, .ref y25, .ref y26, .ref y27, .int 0, .int 0, .ref y28, .ref y29, .ref y30, .ref y31, .ref y32, .ref y33, .ref y34, .ref y35, .ref y36, .int 0, .ref y37, .ref y38, .int 0, .int 0, .int 0])), (y1, .inl (cZ, 7, .inl (fun _ => 0))), (y2, .inl (cI, 7, .inl (fun _ => 0))), (y3, .inl (cI, 7, .inl (fun _ => 0))), (y4, .inl (cI, 7, .inl (fun _ => 0)))] s.heap.size = A at hD ⊢
  have hA : ∀ q : Nat, s.heap.size ≤ q → A q := fun q h => by rw [← hAe]; exact Or.inr h
  have hS : va_S A s.heap s.heap [] := va_S.rf
  have hP : va_P D vwCl [(y, .inr (7, [.int 2, .int 0, .int 3, .int 5, .ref y1, .ref y2, .ref y3, .ref y4, .int 0, .ref y5, .ref y6, .ref y7, .ref y8, .ref y9, .ref y10, .ref y11, .ref y12, .ref y13, .ref y14, .ref y15, .int 0, .ref y16, .ref y17, .ref y18, .ref y19, .ref y20, .ref y21, .ref y22, .ref y23, .ref y24, .ref y25, .ref y26, .ref y27, .int 0, .int 0, .ref y28, .ref y29, .ref y30, .ref y31, .ref y32, .ref y33, .ref y34, .ref y35, .ref y36, .int 0, .ref y37, .ref y38, .int 0, .int 0, .int 0])), (y1, .inl (cZ, 7, .inl (fun _ => 0))), (y2, .inl (cI, 7, .inl (fun _ => 0))), (y3, .inl (cI, 7, .inl (fun _ => 0))), (y4, .inl (cI, 7, .inl (fun _ => 0)))] s.heap := hP
  have hl := lv_entry ([.ref y, .int n]) (n := 3) (Nat.le_of_ble_eq_true rfl)
  rw [lg_entry_eq]
  generalize (lg_sl ([.ref y, .int n]) ++ List.replicate (3 - (lg_sl ([.ref y, .int n])).length) Slot.unset).toArray = ls at hl ⊢
  have hl : lv_has ls 3 [(0, .ref y), (1, .int n)] := hl
  refine lv_iload_n hx hb d_MO_people_0 rfl (lv_at hl 1 rfl) ?_
  refine lv_iconst (v := 2) hx hb d_MO_people_1 (by decide) ?_
  refine lv_bipush (v := 7) hx hb d_MO_people_2 (by decide) ?_
  have hPc := hP.sub (ws' := []) [] rfl
  have hDc := hD.sub (ws' := []) [] (by decide) rfl
  refine vp_callSi (va_Run.run (va_runS (As := [.int n, .int 2, .int 7]) (rest := []) ⟨hx, hb, hml, hown, hts⟩ (c_in l D cI cZ n 2 7 s.heap.size ) (my_cwS 3 hts q_789 q_787 q_788 q_8 rfl rfl (by decide +kernel) ⟨Nat.le_of_ble_eq_true rfl, Nat.le_of_ble_eq_true rfl⟩) (my_preS hPc hDc hK hN) rfl rfl hl.1 rfl (lv_room (Nat.le_of_ble_eq_true rfl)) d_MO_people_4 ⟨Nat.le_of_ble_eq_true rfl, Nat.le_of_ble_eq_true rfl⟩)) (fun r_1 hw_1 => ?_)
  have hw_1 : r_1 = isw n 2 7 := hw_1
  subst hw_1
  refine lv_if_ne (tgt := 13) hx hb d_MO_people_7 (by decide) (fun h_2 => ?_) (fun h_2 => ?_)
  · refine lv_aload_n hx hb d_MO_people_13 rfl (lv_at hl 0 rfl) ?_
    refine lv_iload_n hx hb d_MO_people_14 rfl (lv_at hl 1 rfl) ?_
    refine va_put (D := D) (ci := 7) (v := .int n) (ty := .int) (C := R_MO) (T := F_MO) (N := 50) hx hb hts i_MO t_MO t_MO_ok n_MO hown hK hP hD hS 0 rfl rfl 0 (by decide) (hts _ q_632) (fun _ h9 => h9) rfl (by decide +kernel) rfl rfl (Nat.le_of_ble_eq_true rfl) d_MO_people_15 (fun H_3 locs hP hD hS => ?_)
    have hP : va_P D vwCl [(y, .inr (7, [.int n, .int 0, .int 3, .int 5, .ref y1, .ref y2, .ref y3, .ref y4, .int 0, .ref y5, .ref y6, .ref y7, .ref y8, .ref y9, .ref y10, .ref y11, .ref y12, .ref y13, .ref y14, .ref y15, .int 0, .ref y16, .ref y17, .ref y18, .ref y19, .ref y20, .ref y21, .ref y22, .ref y23, .ref y24, .ref y25, .ref y26, .ref y27, .int 0, .int 0, .ref y28, .ref y29, .ref y30, .ref y31, .ref y32, .ref y33, .ref y34, .ref y35, .ref y36, .int 0, .ref y37, .ref y38, .int 0, .int 0, .int 0])), (y1, .inl (cZ, 7, .inl (fun _ => 0))), (y2, .inl (cI, 7, .inl (fun _ => 0))), (y3, .inl (cI, 7, .inl (fun _ => 0))), (y4, .inl (cI, 7, .inl (fun _ => 0)))] H_3 := hP
    have hD : va_D A [(y, .inr (7, [.int n, .int 0, .int 3, .int 5, .ref y1, .ref y2, .ref y3, .ref y4, .int 0, .ref y5, .ref y6, .ref y7, .ref y8, .ref y9, .ref y10, .ref y11, .ref y12, .ref y13, .ref y14, .ref y15, .int 0, .ref y16, .ref y17, .ref y18, .ref y19, .ref y20, .ref y21, .ref y22, .ref y23, .ref y24, .ref y25, .ref y26, .ref y27, .int 0, .int 0, .ref y28, .ref y29, .ref y30, .ref y31, .ref y32, .ref y33, .ref y34, .ref y35, .ref y36, .int 0, .ref y37, .ref y38, .int 0, .int 0, .int 0])), (y1, .inl (cZ, 7, .inl (fun _ => 0))), (y2, .inl (cI, 7, .inl (fun _ => 0))), (y3, .inl (cI, 7, .inl (fun _ => 0))), (y4, .inl (cI, 7, .inl (fun _ => 0)))] := hD
    refine lv_aload_n hx hb d_MO_people_18 rfl (lv_at hl 0 rfl) ?_
    refine lv_iconst (v := 0) hx hb d_MO_people_19 (by decide) ?_
    refine va_put (D := D) (ci := 7) (v := .int 0) (ty := .int) (C := R_MO) (T := F_MO) (N := 50) hx hb hts i_MO t_MO t_MO_ok n_MO hown hK hP hD hS 0 rfl rfl 1 (by decide) (hts _ q_633) (fun _ h9 => h9) rfl (by decide +kernel) rfl rfl (Nat.le_of_ble_eq_true rfl) d_MO_people_20 (fun H_4 locs hP hD hS => ?_)
    have hP : va_P D vwCl [(y, .inr (7, [.int n, .int 0, .int 3, .int 5, .ref y1, .ref y2, .ref y3, .ref y4, .int 0, .ref y5, .ref y6, .ref y7, .ref y8, .ref y9, .ref y10, .ref y11, .ref y12, .ref y13, .ref y14, .ref y15, .int 0, .ref y16, .ref y17, .ref y18, .ref y19, .ref y20, .ref y21, .ref y22, .ref y23, .ref y24, .ref y25, .ref y26, .ref y27, .int 0, .int 0, .ref y28, .ref y29, .ref y30, .ref y31, .ref y32, .ref y33, .ref y34, .ref y35, .ref y36, .int 0, .ref y37, .ref y38, .int 0, .int 0, .int 0])), (y1, .inl (cZ, 7, .inl (fun _ => 0))), (y2, .inl (cI, 7, .inl (fun _ => 0))), (y3, .inl (cI, 7, .inl (fun _ => 0))), (y4, .inl (cI, 7, .inl (fun _ => 0)))] H_4 := hP
    have hD : va_D A [(y, .inr (7, [.int n, .int 0, .int 3, .int 5, .ref y1, .ref y2, .ref y3, .ref y4, .int 0, .ref y5, .ref y6, .ref y7, .ref y8, .ref y9, .ref y10, .ref y11, .ref y12, .ref y13, .ref y14, .ref y15, .int 0, .ref y16, .ref y17, .ref y18, .ref y19, .ref y20, .ref y21, .ref y22, .ref y23, .ref y24, .ref y25, .ref y26, .ref y27, .int 0, .int 0, .ref y28, .ref y29, .ref y30, .ref y31, .ref y32, .ref y33, .ref y34, .ref y35, .ref y36, .int 0, .ref y37, .ref y38, .int 0, .int 0, .int 0])), (y1, .inl (cZ, 7, .inl (fun _ => 0))), (y2, .inl (cI, 7, .inl (fun _ => 0))), (y3, .inl (cI, 7, .inl (fun _ => 0))), (y4, .inl (cI, 7, .inl (fun _ => 0)))] := hD
    refine lv_aload_n hx hb d_MO_people_23 rfl (lv_at hl 0 rfl) ?_
    refine lv_iconst (v := 0) hx hb d_MO_people_24 (by decide) ?_
    refine va_put (D := D) (ci := 7) (v := .int 0) (ty := .int) (C := R_MO) (T := F_MO) (N := 50) hx hb hts i_MO t_MO t_MO_ok n_MO hown hK hP hD hS 0 rfl rfl 8 (by decide) (hts _ q_640) (fun _ h9 => h9) rfl (by decide +kernel) rfl rfl (Nat.le_of_ble_eq_true rfl) d_MO_people_25 (fun H_5 locs hP hD hS => ?_)
    have hP : va_P D vwCl [(y, .inr (7, [.int n, .int 0, .int 3, .int 5, .ref y1, .ref y2, .ref y3, .ref y4, .int 0, .ref y5, .ref y6, .ref y7, .ref y8, .ref y9, .ref y10, .ref y11, .ref y12, .ref y13, .ref y14, .ref y15, .int 0, .ref y16, .ref y17, .ref y18, .ref y19, .ref y20, .ref y21, .ref y22, .ref y23, .ref y24, .ref y25, .ref y26, .ref y27, .int 0, .int 0, .ref y28, .ref y29, .ref y30, .ref y31, .ref y32, .ref y33, .ref y34, .ref y35, .ref y36, .int 0, .ref y37, .ref y38, .int 0, .int 0, .int 0])), (y1, .inl (cZ, 7, .inl (fun _ => 0))), (y2, .inl (cI, 7, .inl (fun _ => 0))), (y3, .inl (cI, 7, .inl (fun _ => 0))), (y4, .inl (cI, 7, .inl (fun _ => 0)))] H_5 := hP
    have hD : va_D A [(y, .inr (7, [.int n, .int 0, .int 3, .int 5, .ref y1, .ref y2, .ref y3, .ref y4, .int 0, .ref y5, .ref y6, .ref y7, .ref y8, .ref y9, .ref y10, .ref y11, .ref y12, .ref y13, .ref y14, .ref y15, .int 0, .ref y16, .ref y17, .ref y18, .ref y19, .ref y20, .ref y21, .ref y22, .ref y23, .ref y24, .ref y25, .ref y26, .ref y27, .int 0, .int 0, .ref y28, .ref y29, .ref y30, .ref y31, .ref y32, .ref y33, .ref y34, .ref y35, .ref y36, .int 0, .ref y37, .ref y38, .int 0, .int 0, .int 0])), (y1, .inl (cZ, 7, .inl (fun _ => 0))), (y2, .inl (cI, 7, .inl (fun _ => 0))), (y3, .inl (cI, 7, .inl (fun _ => 0))), (y4, .inl (cI, 7, .inl (fun _ => 0)))] := hD
    refine lv_aload_n hx hb d_MO_people_28 rfl (lv_at hl 0 rfl) ?_
    refine lv_iconst (v := 0) hx hb d_MO_people_29 (by decide) ?_
    refine va_put (D := D) (ci := 7) (v := .int 0) (ty := .int) (C := R_MO) (T := F_MO) (N := 50) hx hb hts i_MO t_MO t_MO_ok n_MO hown hK hP hD hS 0 rfl rfl 20 (by decide) (hts _ q_652) (fun _ h9 => h9) rfl (by decide +kernel) rfl rfl (Nat.le_of_ble_eq_true rfl) d_MO_people_30 (fun H_6 locs hP hD hS => ?_)
    have hP : va_P D vwCl [(y, .inr (7, [.int n, .int 0, .int 3, .int 5, .ref y1, .ref y2, .ref y3, .ref y4, .int 0, .ref y5, .ref y6, .ref y7, .ref y8, .ref y9, .ref y10, .ref y11, .ref y12, .ref y13, .ref y14, .ref y15, .int 0, .ref y16, .ref y17, .ref y18, .ref y19, .ref y20, .ref y21, .ref y22, .ref y23, .ref y24, .ref y25, .ref y26, .ref y27, .int 0, .int 0, .ref y28, .ref y29, .ref y30, .ref y31, .ref y32, .ref y33, .ref y34, .ref y35, .ref y36, .int 0, .ref y37, .ref y38, .int 0, .int 0, .int 0])), (y1, .inl (cZ, 7, .inl (fun _ => 0))), (y2, .inl (cI, 7, .inl (fun _ => 0))), (y3, .inl (cI, 7, .inl (fun _ => 0))), (y4, .inl (cI, 7, .inl (fun _ => 0)))] H_6 := hP
    have hD : va_D A [(y, .inr (7, [.int n, .int 0, .int 3, .int 5, .ref y1, .ref y2, .ref y3, .ref y4, .int 0, .ref y5, .ref y6, .ref y7, .ref y8, .ref y9, .ref y10, .ref y11, .ref y12, .ref y13, .ref y14, .ref y15, .int 0, .ref y16, .ref y17, .ref y18, .ref y19, .ref y20, .ref y21, .ref y22, .ref y23, .ref y24, .ref y25, .ref y26, .ref y27, .int 0, .int 0, .ref y28, .ref y29, .ref y30, .ref y31, .ref y32, .ref y33, .ref y34, .ref y35, .ref y36, .int 0, .ref y37, .ref y38, .int 0, .int 0, .int 0])), (y1, .inl (cZ, 7, .inl (fun _ => 0))), (y2, .inl (cI, 7, .inl (fun _ => 0))), (y3, .inl (cI, 7, .inl (fun _ => 0))), (y4, .inl (cI, 7, .inl (fun _ => 0)))] := hD
    refine lv_aload_n hx hb d_MO_people_33 rfl (lv_at hl 0 rfl) ?_
    refine lv_iconst (v := 0) hx hb d_MO_people_34 (by decide) ?_
    refine va_put (D := D) (ci := 7) (v := .int 0) (ty := .boolean) (C := R_MO) (T := F_MO) (N := 50) hx hb hts i_MO t_MO t_MO_ok n_MO hown hK hP hD hS 0 rfl rfl 33 (by decide) (hts _ q_665) (fun _ h9 => h9) rfl (by decide +kernel) rfl rfl (Nat.le_of_ble_eq_true rfl) d_MO_people_35 (fun H_7 locs hP hD hS => ?_)
    have hP : va_P D vwCl [(y, .inr (7, [.int n, .int 0, .int 3, .int 5, .ref y1, .ref y2, .ref y3, .ref y4, .int 0, .ref y5, .ref y6, .ref y7, .ref y8, .ref y9, .ref y10, .ref y11, .ref y12, .ref y13, .ref y14, .ref y15, .int 0, .ref y16, .ref y17, .ref y18, .ref y19, .ref y20, .ref y21, .ref y22, .ref y23, .ref y24, .ref y25, .ref y26, .ref y27, .int 0, .int 0, .ref y28, .ref y29, .ref y30, .ref y31, .ref y32, .ref y33, .ref y34, .ref y35, .ref y36, .int 0, .ref y37, .ref y38, .int 0, .int 0, .int 0])), (y1, .inl (cZ, 7, .inl (fun _ => 0))), (y2, .inl (cI, 7, .inl (fun _ => 0))), (y3, .inl (cI, 7, .inl (fun _ => 0))), (y4, .inl (cI, 7, .inl (fun _ => 0)))] H_7 := hP
    have hD : va_D A [(y, .inr (7, [.int n, .int 0, .int 3, .int 5, .ref y1, .ref y2, .ref y3, .ref y4, .int 0, .ref y5, .ref y6, .ref y7, .ref y8, .ref y9, .ref y10, .ref y11, .ref y12, .ref y13, .ref y14, .ref y15, .int 0, .ref y16, .ref y17, .ref y18, .ref y19, .ref y20, .ref y21, .ref y22, .ref y23, .ref y24, .ref y25, .ref y26, .ref y27, .int 0, .int 0, .ref y28, .ref y29, .ref y30, .ref y31, .ref y32, .ref y33, .ref y34, .ref y35, .ref y36, .int 0, .ref y37, .ref y38, .int 0, .int 0, .int 0])), (y1, .inl (cZ, 7, .inl (fun _ => 0))), (y2, .inl (cI, 7, .inl (fun _ => 0))), (y3, .inl (cI, 7, .inl (fun _ => 0))), (y4, .inl (cI, 7, .inl (fun _ => 0)))] := hD
    refine lv_aload_n hx hb d_MO_people_38 rfl (lv_at hl 0 rfl) ?_
    refine lv_iconst (v := 0) hx hb d_MO_people_39 (by decide) ?_
    refine va_put (D := D) (ci := 7) (v := .int 0) (ty := .int) (C := R_MO) (T := F_MO) (N := 50) hx hb hts i_MO t_MO t_MO_ok n_MO hown hK hP hD hS 0 rfl rfl 34 (by decide) (hts _ q_666) (fun _ h9 => h9) rfl (by decide +kernel) rfl rfl (Nat.le_of_ble_eq_true rfl) d_MO_people_40 (fun H_8 locs hP hD hS => ?_)
    have hP : va_P D vwCl [(y, .inr (7, [.int n, .int 0, .int 3, .int 5, .ref y1, .ref y2, .ref y3, .ref y4, .int 0, .ref y5, .ref y6, .ref y7, .ref y8, .ref y9, .ref y10, .ref y11, .ref y12, .ref y13, .ref y14, .ref y15, .int 0, .ref y16, .ref y17, .ref y18, .ref y19, .ref y20, .ref y21, .ref y22, .ref y23, .ref y24, .ref y25, .ref y26, .ref y27, .int 0, .int 0, .ref y28, .ref y29, .ref y30, .ref y31, .ref y32, .ref y33, .ref y34, .ref y35, .ref y36, .int 0, .ref y37, .ref y38, .int 0, .int 0, .int 0])), (y1, .inl (cZ, 7, .inl (fun _ => 0))), (y2, .inl (cI, 7, .inl (fun _ => 0))), (y3, .inl (cI, 7, .inl (fun _ => 0))), (y4, .inl (cI, 7, .inl (fun _ => 0)))] H_8 := hP
    have hD : va_D A [(y, .inr (7, [.int n, .int 0, .int 3, .int 5, .ref y1, .ref y2, .ref y3, .ref y4, .int 0, .ref y5, .ref y6, .ref y7, .ref y8, .ref y9, .ref y10, .ref y11, .ref y12, .ref y13, .ref y14, .ref y15, .int 0, .ref y16, .ref y17, .ref y18, .ref y19, .ref y20, .ref y21, .ref y22, .ref y23, .ref y24, .ref y25, .ref y26, .ref y27, .int 0, .int 0, .ref y28, .ref y29, .ref y30, .ref y31, .ref y32, .ref y33, .ref y34, .ref y35, .ref y36, .int 0, .ref y37, .ref y38, .int 0, .int 0, .int 0])), (y1, .inl (cZ, 7, .inl (fun _ => 0))), (y2, .inl (cI, 7, .inl (fun _ => 0))), (y3, .inl (cI, 7, .inl (fun _ => 0))), (y4, .inl (cI, 7, .inl (fun _ => 0)))] := hD
    refine lv_iconst (v := 0) hx hb d_MO_people_43 (by decide) ?_
    refine lv_istore_n (lv' := [(2, .int 0), (0, .ref y), (1, .int n)]) hx hb d_MO_people_44 rfl hl (by decide) rfl (fun ls hl => ?_)
    refine lv_iload_n hx hb d_MO_people_45 rfl (lv_at hl 0 rfl) ?_
    refine lv_bipush (v := 7) hx hb d_MO_people_46 (by decide) ?_
    refine lv_icmp_ge (tgt := 85) hx hb d_MO_people_48 (by decide) (fun h => absurd h (by decide)) (fun _ => ?_)
    refine lv_aload_n hx hb d_MO_people_51 rfl (lv_at hl 1 rfl) ?_
    refine va_get (D := D) (ci := 7) (v := .ref y1) (C := R_MO) (T := F_MO) (N := 50) hx hb hts i_MO hown hK hP 0 rfl rfl 4 (by decide) (hts _ q_636) (fun _ h9 => h9) rfl d_MO_people_52 ?_
    refine lv_iload_n hx hb d_MO_people_55 rfl (lv_at hl 0 rfl) ?_
    refine lv_iconst (v := 0) hx hb d_MO_people_56 (by decide) ?_
    refine va_zast hx hb hK hP hD hS 1 1 rfl rfl (by unfold vp_in; decide) d_MO_people_57 (fun H_10 locs hP hD hS => ?_)
    have hP : va_P D vwCl [(y, .inr (7, [.int n, .int 0, .int 3, .int 5, .ref y1, .ref y2, .ref y3, .ref y4, .int 0, .ref y5, .ref y6, .ref y7, .ref y8, .ref y9, .ref y10, .ref y11, .ref y12, .ref y13, .ref y14, .ref y15, .int 0, .ref y16, .ref y17, .ref y18, .ref y19, .ref y20, .ref y21, .ref y22, .ref y23, .ref y24, .ref y25, .ref y26, .ref y27, .int 0, .int 0, .ref y28, .ref y29, .ref y30, .ref y31, .ref y32, .ref y33, .ref y34, .ref y35, .ref y36, .int 0, .ref y37, .ref y38, .int 0, .int 0, .int 0])), (y1, .inl (cZ, 7, .inl (upd (fun _ => 0) 0 0))), (y2, .inl (cI, 7, .inl (fun _ => 0))), (y3, .inl (cI, 7, .inl (fun _ => 0))), (y4, .inl (cI, 7, .inl (fun _ => 0)))] H_10 := hP
    have hD : va_D A [(y, .inr (7, [.int n, .int 0, .int 3, .int 5, .ref y1, .ref y2, .ref y3, .ref y4, .int 0, .ref y5, .ref y6, .ref y7, .ref y8, .ref y9, .ref y10, .ref y11, .ref y12, .ref y13, .ref y14, .ref y15, .int 0, .ref y16, .ref y17, .ref y18, .ref y19, .ref y20, .ref y21, .ref y22, .ref y23, .ref y24, .ref y25, .ref y26, .ref y27, .int 0, .int 0, .ref y28, .ref y29, .ref y30, .ref y31, .ref y32, .ref y33, .ref y34, .ref y35, .ref y36, .int 0, .ref y37, .ref y38, .int 0, .int 0, .int 0])), (y1, .inl (cZ, 7, .inl (upd (fun _ => 0) 0 0))), (y2, .inl (cI, 7, .inl (fun _ => 0))), (y3, .inl (cI, 7, .inl (fun _ => 0))), (y4, .inl (cI, 7, .inl (fun _ => 0)))] := hD
    refine lv_aload_n hx hb d_MO_people_58 rfl (lv_at hl 1 rfl) ?_
    refine va_get (D := D) (ci := 7) (v := .ref y2) (C := R_MO) (T := F_MO) (N := 50) hx hb hts i_MO hown hK hP 0 rfl rfl 5 (by decide) (hts _ q_637) (fun _ h9 => h9) rfl d_MO_people_59 ?_
    refine lv_iload_n hx hb d_MO_people_62 rfl (lv_at hl 0 rfl) ?_
    refine lv_iconst (v := 0) hx hb d_MO_people_63 (by decide) ?_
    refine va_iast hx hb hK hP hD hS 2 0 rfl rfl (by unfold vp_in; decide) d_MO_people_64 (fun H_11 locs hP hD hS => ?_)
    have hP : va_P D vwCl [(y, .inr (7, [.int n, .int 0, .int 3, .int 5, .ref y1, .ref y2, .ref y3, .ref y4, .int 0, .ref y5, .ref y6, .ref y7, .ref y8, .ref y9, .ref y10, .ref y11, .ref y12, .ref y13, .ref y14, .ref y15, .int 0, .ref y16, .ref y17, .ref y18, .ref y19, .ref y20, .ref y21, .ref y22, .ref y23, .ref y24, .ref y25, .ref y26, .ref y27, .int 0, .int 0, .ref y28, .ref y29, .ref y30, .ref y31, .ref y32, .ref y33, .ref y34, .ref y35, .ref y36, .int 0, .ref y37, .ref y38, .int 0, .int 0, .int 0])), (y1, .inl (cZ, 7, .inl (upd (fun _ => 0) 0 0))), (y2, .inl (cI, 7, .inl (upd (fun _ => 0) 0 0))), (y3, .inl (cI, 7, .inl (fun _ => 0))), (y4, .inl (cI, 7, .inl (fun _ => 0)))] H_11 := hP
    have hD : va_D A [(y, .inr (7, [.int n, .int 0, .int 3, .int 5, .ref y1, .ref y2, .ref y3, .ref y4, .int 0, .ref y5, .ref y6, .ref y7, .ref y8, .ref y9, .ref y10, .ref y11, .ref y12, .ref y13, .ref y14, .ref y15, .int 0, .ref y16, .ref y17, .ref y18, .ref y19, .ref y20, .ref y21, .ref y22, .ref y23, .ref y24, .ref y25, .ref y26, .ref y27, .int 0, .int 0, .ref y28, .ref y29, .ref y30, .ref y31, .ref y32, .ref y33, .ref y34, .ref y35, .ref y36, .int 0, .ref y37, .ref y38, .int 0, .int 0, .int 0])), (y1, .inl (cZ, 7, .inl (upd (fun _ => 0) 0 0))), (y2, .inl (cI, 7, .inl (upd (fun _ => 0) 0 0))), (y3, .inl (cI, 7, .inl (fun _ => 0))), (y4, .inl (cI, 7, .inl (fun _ => 0)))] := hD
    refine lv_aload_n hx hb d_MO_people_65 rfl (lv_at hl 1 rfl) ?_
    refine va_get (D := D) (ci := 7) (v := .ref y3) (C := R_MO) (T := F_MO) (N := 50) hx hb hts i_MO hown hK hP 0 rfl rfl 6 (by decide) (hts _ q_638) (fun _ h9 => h9) rfl d_MO_people_66 ?_
    refine lv_iload_n hx hb d_MO_people_69 rfl (lv_at hl 0 rfl) ?_
    refine lv_iconst (v := 0) hx hb d_MO_people_70 (by decide) ?_
    refine va_iast hx hb hK hP hD hS 3 0 rfl rfl (by unfold vp_in; decide) d_MO_people_71 (fun H_12 locs hP hD hS => ?_)
    have hP : va_P D vwCl [(y, .inr (7, [.int n, .int 0, .int 3, .int 5, .ref y1, .ref y2, .ref y3, .ref y4, .int 0, .ref y5, .ref y6, .ref y7, .ref y8, .ref y9, .ref y10, .ref y11, .ref y12, .ref y13, .ref y14, .ref y15, .int 0, .ref y16, .ref y17, .ref y18, .ref y19, .ref y20, .ref y21, .ref y22, .ref y23, .ref y24, .ref y25, .ref y26, .ref y27, .int 0, .int 0, .ref y28, .ref y29, .ref y30, .ref y31, .ref y32, .ref y33, .ref y34, .ref y35, .ref y36, .int 0, .ref y37, .ref y38, .int 0, .int 0, .int 0])), (y1, .inl (cZ, 7, .inl (upd (fun _ => 0) 0 0))), (y2, .inl (cI, 7, .inl (upd (fun _ => 0) 0 0))), (y3, .inl (cI, 7, .inl (upd (fun _ => 0) 0 0))), (y4, .inl (cI, 7, .inl (fun _ => 0)))] H_12 := hP
    have hD : va_D A [(y, .inr (7, [.int n, .int 0, .int 3, .int 5, .ref y1, .ref y2, .ref y3, .ref y4, .int 0, .ref y5, .ref y6, .ref y7, .ref y8, .ref y9, .ref y10, .ref y11, .ref y12, .ref y13, .ref y14, .ref y15, .int 0, .ref y16, .ref y17, .ref y18, .ref y19, .ref y20, .ref y21, .ref y22, .ref y23, .ref y24, .ref y25, .ref y26, .ref y27, .int 0, .int 0, .ref y28, .ref y29, .ref y30, .ref y31, .ref y32, .ref y33, .ref y34, .ref y35, .ref y36, .int 0, .ref y37, .ref y38, .int 0, .int 0, .int 0])), (y1, .inl (cZ, 7, .inl (upd (fun _ => 0) 0 0))), (y2, .inl (cI, 7, .inl (upd (fun _ => 0) 0 0))), (y3, .inl (cI, 7, .inl (upd (fun _ => 0) 0 0))), (y4, .inl (cI, 7, .inl (fun _ => 0)))] := hD
    refine lv_aload_n hx hb d_MO_people_72 rfl (lv_at hl 1 rfl) ?_
    refine va_get (D := D) (ci := 7) (v := .ref y4) (C := R_MO) (T := F_MO) (N := 50) hx hb hts i_MO hown hK hP 0 rfl rfl 7 (by decide) (hts _ q_639) (fun _ h9 => h9) rfl d_MO_people_73 ?_
    refine lv_iload_n hx hb d_MO_people_76 rfl (lv_at hl 0 rfl) ?_
    refine lv_iconst (v := 0) hx hb d_MO_people_77 (by decide) ?_
    refine va_iast hx hb hK hP hD hS 4 0 rfl rfl (by unfold vp_in; decide) d_MO_people_78 (fun H_13 locs hP hD hS => ?_)
    have hP : va_P D vwCl [(y, .inr (7, [.int n, .int 0, .int 3, .int 5, .ref y1, .ref y2, .ref y3, .ref y4, .int 0, .ref y5, .ref y6, .ref y7, .ref y8, .ref y9, .ref y10, .ref y11, .ref y12, .ref y13, .ref y14, .ref y15, .int 0, .ref y16, .ref y17, .ref y18, .ref y19, .ref y20, .ref y21, .ref y22, .ref y23, .ref y24, .ref y25, .ref y26, .ref y27, .int 0, .int 0, .ref y28, .ref y29, .ref y30, .ref y31, .ref y32, .ref y33, .ref y34, .ref y35, .ref y36, .int 0, .ref y37, .ref y38, .int 0, .int 0, .int 0])), (y1, .inl (cZ, 7, .inl (upd (fun _ => 0) 0 0))), (y2, .inl (cI, 7, .inl (upd (fun _ => 0) 0 0))), (y3, .inl (cI, 7, .inl (upd (fun _ => 0) 0 0))), (y4, .inl (cI, 7, .inl (upd (fun _ => 0) 0 0)))] H_13 := hP
    have hD : va_D A [(y, .inr (7, [.int n, .int 0, .int 3, .int 5, .ref y1, .ref y2, .ref y3, .ref y4, .int 0, .ref y5, .ref y6, .ref y7, .ref y8, .ref y9, .ref y10, .ref y11, .ref y12, .ref y13, .ref y14, .ref y15, .int 0, .ref y16, .ref y17, .ref y18, .ref y19, .ref y20, .ref y21, .ref y22, .ref y23, .ref y24, .ref y25, .ref y26, .ref y27, .int 0, .int 0, .ref y28, .ref y29, .ref y30, .ref y31, .ref y32, .ref y33, .ref y34, .ref y35, .ref y36, .int 0, .ref y37, .ref y38, .int 0, .int 0, .int 0])), (y1, .inl (cZ, 7, .inl (upd (fun _ => 0) 0 0))), (y2, .inl (cI, 7, .inl (upd (fun _ => 0) 0 0))), (y3, .inl (cI, 7, .inl (upd (fun _ => 0) 0 0))), (y4, .inl (cI, 7, .inl (upd (fun _ => 0) 0 0)))] := hD
    refine lv_iinc (v := 1) (lv' := [(2, .int 1), (0, .ref y), (1, .int n)]) hx hb d_MO_people_79 hl (k := 0) rfl (by decide) (by decide) rfl (fun ls hl => ?_)
    refine lv_goto (tgt := 45) hx hb d_MO_people_82 (by decide) ?_
    refine lv_iload_n hx hb d_MO_people_45 rfl (lv_at hl 0 rfl) ?_
    refine lv_bipush (v := 7) hx hb d_MO_people_46 (by decide) ?_
    refine lv_icmp_ge (tgt := 85) hx hb d_MO_people_48 (by decide) (fun h => absurd h (by decide)) (fun _ => ?_)
    refine lv_aload_n hx hb d_MO_people_51 rfl (lv_at hl 1 rfl) ?_
    refine va_get (D := D) (ci := 7) (v := .ref y1) (C := R_MO) (T := F_MO) (N := 50) hx hb hts i_MO hown hK hP 0 rfl rfl 4 (by decide) (hts _ q_636) (fun _ h9 => h9) rfl d_MO_people_52 ?_
    refine lv_iload_n hx hb d_MO_people_55 rfl (lv_at hl 0 rfl) ?_
    refine lv_iconst (v := 0) hx hb d_MO_people_56 (by decide) ?_
    refine va_zast hx hb hK hP hD hS 1 1 rfl rfl (by unfold vp_in; decide) d_MO_people_57 (fun H_15 locs hP hD hS => ?_)
    have hP : va_P D vwCl [(y, .inr (7, [.int n, .int 0, .int 3, .int 5, .ref y1, .ref y2, .ref y3, .ref y4, .int 0, .ref y5, .ref y6, .ref y7, .ref y8, .ref y9, .ref y10, .ref y11, .ref y12, .ref y13, .ref y14, .ref y15, .int 0, .ref y16, .ref y17, .ref y18, .ref y19, .ref y20, .ref y21, .ref y22, .ref y23, .ref y24, .ref y25, .ref y26, .ref y27, .int 0, .int 0, .ref y28, .ref y29, .ref y30, .ref y31, .ref y32, .ref y33, .ref y34, .ref y35, .ref y36, .int 0, .ref y37, .ref y38, .int 0, .int 0, .int 0])), (y1, .inl (cZ, 7, .inl (upd (upd (fun _ => 0) 0 0) 1 0))), (y2, .inl (cI, 7, .inl (upd (fun _ => 0) 0 0))), (y3, .inl (cI, 7, .inl (upd (fun _ => 0) 0 0))), (y4, .inl (cI, 7, .inl (upd (fun _ => 0) 0 0)))] H_15 := hP
    have hD : va_D A [(y, .inr (7, [.int n, .int 0, .int 3, .int 5, .ref y1, .ref y2, .ref y3, .ref y4, .int 0, .ref y5, .ref y6, .ref y7, .ref y8, .ref y9, .ref y10, .ref y11, .ref y12, .ref y13, .ref y14, .ref y15, .int 0, .ref y16, .ref y17, .ref y18, .ref y19, .ref y20, .ref y21, .ref y22, .ref y23, .ref y24, .ref y25, .ref y26, .ref y27, .int 0, .int 0, .ref y28, .ref y29, .ref y30, .ref y31, .ref y32, .ref y33, .ref y34, .ref y35, .ref y36, .int 0, .ref y37, .ref y38, .int 0, .int 0, .int 0])), (y1, .inl (cZ, 7, .inl (upd (upd (fun _ => 0) 0 0) 1 0))), (y2, .inl (cI, 7, .inl (upd (fun _ => 0) 0 0))), (y3, .inl (cI, 7, .inl (upd (fun _ => 0) 0 0))), (y4, .inl (cI, 7, .inl (upd (fun _ => 0) 0 0)))] := hD
    refine lv_aload_n hx hb d_MO_people_58 rfl (lv_at hl 1 rfl) ?_
    refine va_get (D := D) (ci := 7) (v := .ref y2) (C := R_MO) (T := F_MO) (N := 50) hx hb hts i_MO hown hK hP 0 rfl rfl 5 (by decide) (hts _ q_637) (fun _ h9 => h9) rfl d_MO_people_59 ?_
    refine lv_iload_n hx hb d_MO_people_62 rfl (lv_at hl 0 rfl) ?_
    refine lv_iconst (v := 0) hx hb d_MO_people_63 (by decide) ?_
    refine va_iast hx hb hK hP hD hS 2 0 rfl rfl (by unfold vp_in; decide) d_MO_people_64 (fun H_16 locs hP hD hS => ?_)
    have hP : va_P D vwCl [(y, .inr (7, [.int n, .int 0, .int 3, .int 5, .ref y1, .ref y2, .ref y3, .ref y4, .int 0, .ref y5, .ref y6, .ref y7, .ref y8, .ref y9, .ref y10, .ref y11, .ref y12, .ref y13, .ref y14, .ref y15, .int 0, .ref y16, .ref y17, .ref y18, .ref y19, .ref y20, .ref y21, .ref y22, .ref y23, .ref y24, .ref y25, .ref y26, .ref y27, .int 0, .int 0, .ref y28, .ref y29, .ref y30, .ref y31, .ref y32, .ref y33, .ref y34, .ref y35, .ref y36, .int 0, .ref y37, .ref y38, .int 0, .int 0, .int 0])), (y1, .inl (cZ, 7, .inl (upd (upd (fun _ => 0) 0 0) 1 0))), (y2, .inl (cI, 7, .inl (upd (upd (fun _ => 0) 0 0) 1 0))), (y3, .inl (cI, 7, .inl (upd (fun _ => 0) 0 0))), (y4, .inl (cI, 7, .inl (upd (fun _ => 0) 0 0)))] H_16 := hP
    have hD : va_D A [(y, .inr (7, [.int n, .int 0, .int 3, .int 5, .ref y1, .ref y2, .ref y3, .ref y4, .int 0, .ref y5, .ref y6, .ref y7, .ref y8, .ref y9, .ref y10, .ref y11, .ref y12, .ref y13, .ref y14, .ref y15, .int 0, .ref y16, .ref y17, .ref y18, .ref y19, .ref y20, .ref y21, .ref y22, .ref y23, .ref y24, .ref y25, .ref y26, .ref y27, .int 0, .int 0, .ref y28, .ref y29, .ref y30, .ref y31, .ref y32, .ref y33, .ref y34, .ref y35, .ref y36, .int 0, .ref y37, .ref y38, .int 0, .int 0, .int 0])), (y1, .inl (cZ, 7, .inl (upd (upd (fun _ => 0) 0 0) 1 0))), (y2, .inl (cI, 7, .inl (upd (upd (fun _ => 0) 0 0) 1 0))), (y3, .inl (cI, 7, .inl (upd (fun _ => 0) 0 0))), (y4, .inl (cI, 7, .inl (upd (fun _ => 0) 0 0)))] := hD
    refine lv_aload_n hx hb d_MO_people_65 rfl (lv_at hl 1 rfl) ?_
    refine va_get (D := D) (ci := 7) (v := .ref y3) (C := R_MO) (T := F_MO) (N := 50) hx hb hts i_MO hown hK hP 0 rfl rfl 6 (by decide) (hts _ q_638) (fun _ h9 => h9) rfl d_MO_people_66 ?_
    refine lv_iload_n hx hb d_MO_people_69 rfl (lv_at hl 0 rfl) ?_
    refine lv_iconst (v := 0) hx hb d_MO_people_70 (by decide) ?_
    refine va_iast hx hb hK hP hD hS 3 0 rfl rfl (by unfold vp_in; decide) d_MO_people_71 (fun H_17 locs hP hD hS => ?_)
    have hP : va_P D vwCl [(y, .inr (7, [.int n, .int 0, .int 3, .int 5, .ref y1, .ref y2, .ref y3, .ref y4, .int 0, .ref y5, .ref y6, .ref y7, .ref y8, .ref y9, .ref y10, .ref y11, .ref y12, .ref y13, .ref y14, .ref y15, .int 0, .ref y16, .ref y17, .ref y18, .ref y19, .ref y20, .ref y21, .ref y22, .ref y23, .ref y24, .ref y25, .ref y26, .ref y27, .int 0, .int 0, .ref y28, .ref y29, .ref y30, .ref y31, .ref y32, .ref y33, .ref y34, .ref y35, .ref y36, .int 0, .ref y37, .ref y38, .int 0, .int 0, .int 0])), (y1, .inl (cZ, 7, .inl (upd (upd (fun _ => 0) 0 0) 1 0))), (y2, .inl (cI, 7, .inl (upd (upd (fun _ => 0) 0 0) 1 0))), (y3, .inl (cI, 7, .inl (upd (upd (fun _ => 0) 0 0) 1 0))), (y4, .inl (cI, 7, .inl (upd (fun _ => 0) 0 0)))] H_17 := hP
    have hD : va_D A [(y, .inr (7, [.int n, .int 0, .int 3, .int 5, .ref y1, .ref y2, .ref y3, .ref y4, .int 0, .ref y5, .ref y6, .ref y7, .ref y8, .ref y9, .ref y10, .ref y11, .ref y12, .ref y13, .ref y14, .ref y15, .int 0, .ref y16, .ref y17, .ref y18, .ref y19, .ref y20, .ref y21, .ref y22, .ref y23, .ref y24, .ref y25, .ref y26, .ref y27, .int 0, .int 0, .ref y28, .ref y29, .ref y30, .ref y31, .ref y32, .ref y33, .ref y34, .ref y35, .ref y36, .int 0, .ref y37, .ref y38, .int 0, .int 0, .int 0])), (y1, .inl (cZ, 7, .inl (upd (upd (fun _ => 0) 0 0) 1 0))), (y2, .inl (cI, 7, .inl (upd (upd (fun _ => 0) 0 0) 1 0))), (y3, .inl (cI, 7, .inl (upd (upd (fun _ => 0) 0 0) 1 0))), (y4, .inl (cI, 7, .inl (upd (fun _ => 0) 0 0)))] := hD
    refine lv_aload_n hx hb d_MO_people_72 rfl (lv_at hl 1 rfl) ?_
    refine va_get (D := D) (ci := 7) (v := .ref y4) (C := R_MO) (T := F_MO) (N := 50) hx hb hts i_MO hown hK hP 0 rfl rfl 7 (by decide) (hts _ q_639) (fun _ h9 => h9) rfl d_MO_people_73 ?_
    refine lv_iload_n hx hb d_MO_people_76 rfl (lv_at hl 0 rfl) ?_
    refine lv_iconst (v := 0) hx hb d_MO_people_77 (by decide) ?_
    refine va_iast hx hb hK hP hD hS 4 0 rfl rfl (by unfold vp_in; decide) d_MO_people_78 (fun H_18 locs hP hD hS => ?_)
    have hP : va_P D vwCl [(y, .inr (7, [.int n, .int 0, .int 3, .int 5, .ref y1, .ref y2, .ref y3, .ref y4, .int 0, .ref y5, .ref y6, .ref y7, .ref y8, .ref y9, .ref y10, .ref y11, .ref y12, .ref y13, .ref y14, .ref y15, .int 0, .ref y16, .ref y17, .ref y18, .ref y19, .ref y20, .ref y21, .ref y22, .ref y23, .ref y24, .ref y25, .ref y26, .ref y27, .int 0, .int 0, .ref y28, .ref y29, .ref y30, .ref y31, .ref y32, .ref y33, .ref y34, .ref y35, .ref y36, .int 0, .ref y37, .ref y38, .int 0, .int 0, .int 0])), (y1, .inl (cZ, 7, .inl (upd (upd (fun _ => 0) 0 0) 1 0))), (y2, .inl (cI, 7, .inl (upd (upd (fun _ => 0) 0 0) 1 0))), (y3, .inl (cI, 7, .inl (upd (upd (fun _ => 0) 0 0) 1 0))), (y4, .inl (cI, 7, .inl (upd (upd (fun _ => 0) 0 0) 1 0)))] H_18 := hP
    have hD : va_D A [(y, .inr (7, [.int n, .int 0, .int 3, .int 5, .ref y1, .ref y2, .ref y3, .ref y4, .int 0, .ref y5, .ref y6, .ref y7, .ref y8, .ref y9, .ref y10, .ref y11, .ref y12, .ref y13, .ref y14, .ref y15, .int 0, .ref y16, .ref y17, .ref y18, .ref y19, .ref y20, .ref y21, .ref y22, .ref y23, .ref y24, .ref y25, .ref y26, .ref y27, .int 0, .int 0, .ref y28, .ref y29, .ref y30, .ref y31, .ref y32, .ref y33, .ref y34, .ref y35, .ref y36, .int 0, .ref y37, .ref y38, .int 0, .int 0, .int 0])), (y1, .inl (cZ, 7, .inl (upd (upd (fun _ => 0) 0 0) 1 0))), (y2, .inl (cI, 7, .inl (upd (upd (fun _ => 0) 0 0) 1 0))), (y3, .inl (cI, 7, .inl (upd (upd (fun _ => 0) 0 0) 1 0))), (y4, .inl (cI, 7, .inl (upd (upd (fun _ => 0) 0 0) 1 0)))] := hD
    refine lv_iinc (v := 2) (lv' := [(2, .int 2), (0, .ref y), (1, .int n)]) hx hb d_MO_people_79 hl (k := 0) rfl (by decide) (by decide) rfl (fun ls hl => ?_)
    refine lv_goto (tgt := 45) hx hb d_MO_people_82 (by decide) ?_
    refine lv_iload_n hx hb d_MO_people_45 rfl (lv_at hl 0 rfl) ?_
    refine lv_bipush (v := 7) hx hb d_MO_people_46 (by decide) ?_
    refine lv_icmp_ge (tgt := 85) hx hb d_MO_people_48 (by decide) (fun h => absurd h (by decide)) (fun _ => ?_)
    refine lv_aload_n hx hb d_MO_people_51 rfl (lv_at hl 1 rfl) ?_
    refine va_get (D := D) (ci := 7) (v := .ref y1) (C := R_MO) (T := F_MO) (N := 50) hx hb hts i_MO hown hK hP 0 rfl rfl 4 (by decide) (hts _ q_636) (fun _ h9 => h9) rfl d_MO_people_52 ?_
    refine lv_iload_n hx hb d_MO_people_55 rfl (lv_at hl 0 rfl) ?_
    refine lv_iconst (v := 0) hx hb d_MO_people_56 (by decide) ?_
    refine va_zast hx hb hK hP hD hS 1 1 rfl rfl (by unfold vp_in; decide) d_MO_people_57 (fun H_20 locs hP hD hS => ?_)
    have hP : va_P D vwCl [(y, .inr (7, [.int n, .int 0, .int 3, .int 5, .ref y1, .ref y2, .ref y3, .ref y4, .int 0, .ref y5, .ref y6, .ref y7, .ref y8, .ref y9, .ref y10, .ref y11, .ref y12, .ref y13, .ref y14, .ref y15, .int 0, .ref y16, .ref y17, .ref y18, .ref y19, .ref y20, .ref y21, .ref y22, .ref y23, .ref y24, .ref y25, .ref y26, .ref y27, .int 0, .int 0, .ref y28, .ref y29, .ref y30, .ref y31, .ref y32, .ref y33, .ref y34, .ref y35, .ref y36, .int 0, .ref y37, .ref y38, .int 0, .int 0, .int 0])), (y1, .inl (cZ, 7, .inl (upd (upd (upd (fun _ => 0) 0 0) 1 0) 2 0))), (y2, .inl (cI, 7, .inl (upd (upd (fun _ => 0) 0 0) 1 0))), (y3, .inl (cI, 7, .inl (upd (upd (fun _ => 0) 0 0) 1 0))), (y4, .inl (cI, 7, .inl (upd (upd (fun _ => 0) 0 0) 1 0)))] H_20 := hP
    have hD : va_D A [(y, .inr (7, [.int n, .int 0, .int 3, .int 5, .ref y1, .ref y2, .ref y3, .ref y4, .int 0, .ref y5, .ref y6, .ref y7, .ref y8, .ref y9, .ref y10, .ref y11, .ref y12, .ref y13, .ref y14, .ref y15, .int 0, .ref y16, .ref y17, .ref y18, .ref y19, .ref y20, .ref y21, .ref y22, .ref y23, .ref y24, .ref y25, .ref y26, .ref y27, .int 0, .int 0, .ref y28, .ref y29, .ref y30, .ref y31, .ref y32, .ref y33, .ref y34, .ref y35, .ref y36, .int 0, .ref y37, .ref y38, .int 0, .int 0, .int 0])), (y1, .inl (cZ, 7, .inl (upd (upd (upd (fun _ => 0) 0 0) 1 0) 2 0))), (y2, .inl (cI, 7, .inl (upd (upd (fun _ => 0) 0 0) 1 0))), (y3, .inl (cI, 7, .inl (upd (upd (fun _ => 0) 0 0) 1 0))), (y4, .inl (cI, 7, .inl (upd (upd (fun _ => 0) 0 0) 1 0)))] := hD
    refine lv_aload_n hx hb d_MO_people_58 rfl (lv_at hl 1 rfl) ?_
    refine va_get (D := D) (ci := 7) (v := .ref y2) (C := R_MO) (T := F_MO) (N := 50) hx hb hts i_MO hown hK hP 0 rfl rfl 5 (by decide) (hts _ q_637) (fun _ h9 => h9) rfl d_MO_people_59 ?_
    refine lv_iload_n hx hb d_MO_people_62 rfl (lv_at hl 0 rfl) ?_
    refine lv_iconst (v := 0) hx hb d_MO_people_63 (by decide) ?_
    refine va_iast hx hb hK hP hD hS 2 0 rfl rfl (by unfold vp_in; decide) d_MO_people_64 (fun H_21 locs hP hD hS => ?_)
    have hP : va_P D vwCl [(y, .inr (7, [.int n, .int 0, .int 3, .int 5, .ref y1, .ref y2, .ref y3, .ref y4, .int 0, .ref y5, .ref y6, .ref y7, .ref y8, .ref y9, .ref y10, .ref y11, .ref y12, .ref y13, .ref y14, .ref y15, .int 0, .ref y16, .ref y17, .ref y18, .ref y19, .ref y20, .ref y21, .ref y22, .ref y23, .ref y24, .ref y25, .ref y26, .ref y27, .int 0, .int 0, .ref y28, .ref y29, .ref y30, .ref y31, .ref y32, .ref y33, .ref y34, .ref y35, .ref y36, .int 0, .ref y37, .ref y38, .int 0, .int 0, .int 0])), (y1, .inl (cZ, 7, .inl (upd (upd (upd (fun _ => 0) 0 0) 1 0) 2 0))), (y2, .inl (cI, 7, .inl (upd (upd (upd (fun _ => 0) 0 0) 1 0) 2 0))), (y3, .inl (cI, 7, .inl (upd (upd (fun _ => 0) 0 0) 1 0))), (y4, .inl (cI, 7, .inl (upd (upd (fun _ => 0) 0 0) 1 0)))] H_21 := hP
    have hD : va_D A [(y, .inr (7, [.int n, .int 0, .int 3, .int 5, .ref y1, .ref y2, .ref y3, .ref y4, .int 0, .ref y5, .ref y6, .ref y7, .ref y8, .ref y9, .ref y10, .ref y11, .ref y12, .ref y13, .ref y14, .ref y15, .int 0, .ref y16, .ref y17, .ref y18, .ref y19, .ref y20, .ref y21, .ref y22, .ref y23, .ref y24, .ref y25, .ref y26, .ref y27, .int 0, .int 0, .ref y28, .ref y29, .ref y30, .ref y31, .ref y32, .ref y33, .ref y34, .ref y35, .ref y36, .int 0, .ref y37, .ref y38, .int 0, .int 0, .int 0])), (y1, .inl (cZ, 7, .inl (upd (upd (upd (fun _ => 0) 0 0) 1 0) 2 0))), (y2, .inl (cI, 7, .inl (upd (upd (upd (fun _ => 0) 0 0) 1 0) 2 0))), (y3, .inl (cI, 7, .inl (upd (upd (fun _ => 0) 0 0) 1 0))), (y4, .inl (cI, 7, .inl (upd (upd (fun _ => 0) 0 0) 1 0)))] := hD
    refine lv_aload_n hx hb d_MO_people_65 rfl (lv_at hl 1 rfl) ?_
    refine va_get (D := D) (ci := 7) (v := .ref y3) (C := R_MO) (T := F_MO) (N := 50) hx hb hts i_MO hown hK hP 0 rfl rfl 6 (by decide) (hts _ q_638) (fun _ h9 => h9) rfl d_MO_people_66 ?_
    refine lv_iload_n hx hb d_MO_people_69 rfl (lv_at hl 0 rfl) ?_
    refine lv_iconst (v := 0) hx hb d_MO_people_70 (by decide) ?_
    refine va_iast hx hb hK hP hD hS 3 0 rfl rfl (by unfold vp_in; decide) d_MO_people_71 (fun H_22 locs hP hD hS => ?_)
    have hP : va_P D vwCl [(y, .inr (7, [.int n, .int 0, .int 3, .int 5, .ref y1, .ref y2, .ref y3, .ref y4, .int 0, .ref y5, .ref y6, .ref y7, .ref y8, .ref y9, .ref y10, .ref y11, .ref y12, .ref y13, .ref y14, .ref y15, .int 0, .ref y16, .ref y17, .ref y18, .ref y19, .ref y20, .ref y21, .ref y22, .ref y23, .ref y24, .ref y25, .ref y26, .ref y27, .int 0, .int 0, .ref y28, .ref y29, .ref y30, .ref y31, .ref y32, .ref y33, .ref y34, .ref y35, .ref y36, .int 0, .ref y37, .ref y38, .int 0, .int 0, .int 0])), (y1, .inl (cZ, 7, .inl (upd (upd (upd (fun _ => 0) 0 0) 1 0) 2 0))), (y2, .inl (cI, 7, .inl (upd (upd (upd (fun _ => 0) 0 0) 1 0) 2 0))), (y3, .inl (cI, 7, .inl (upd (upd (upd (fun _ => 0) 0 0) 1 0) 2 0))), (y4, .inl (cI, 7, .inl (upd (upd (fun _ => 0) 0 0) 1 0)))] H_22 := hP
    have hD : va_D A [(y, .inr (7, [.int n, .int 0, .int 3, .int 5, .ref y1, .ref y2, .ref y3, .ref y4, .int 0, .ref y5, .ref y6, .ref y7, .ref y8, .ref y9, .ref y10, .ref y11, .ref y12, .ref y13, .ref y14, .ref y15, .int 0, .ref y16, .ref y17, .ref y18, .ref y19, .ref y20, .ref y21, .ref y22, .ref y23, .ref y24, .ref y25, .ref y26, .ref y27, .int 0, .int 0, .ref y28, .ref y29, .ref y30, .ref y31, .ref y32, .ref y33, .ref y34, .ref y35, .ref y36, .int 0, .ref y37, .ref y38, .int 0, .int 0, .int 0])), (y1, .inl (cZ, 7, .inl (upd (upd (upd (fun _ => 0) 0 0) 1 0) 2 0))), (y2, .inl (cI, 7, .inl (upd (upd (upd (fun _ => 0) 0 0) 1 0) 2 0))), (y3, .inl (cI, 7, .inl (upd (upd (upd (fun _ => 0) 0 0) 1 0) 2 0))), (y4, .inl (cI, 7, .inl (upd (upd (fun _ => 0) 0 0) 1 0)))] := hD
    refine lv_aload_n hx hb d_MO_people_72 rfl (lv_at hl 1 rfl) ?_
    refine va_get (D := D) (ci := 7) (v := .ref y4) (C := R_MO) (T := F_MO) (N := 50) hx hb hts i_MO hown hK hP 0 rfl rfl 7 (by decide) (hts _ q_639) (fun _ h9 => h9) rfl d_MO_people_73 ?_
    refine lv_iload_n hx hb d_MO_people_76 rfl (lv_at hl 0 rfl) ?_
    refine lv_iconst (v := 0) hx hb d_MO_people_77 (by decide) ?_
    refine va_iast hx hb hK hP hD hS 4 0 rfl rfl (by unfold vp_in; decide) d_MO_people_78 (fun H_23 locs hP hD hS => ?_)
    have hP : va_P D vwCl [(y, .inr (7, [.int n, .int 0, .int 3, .int 5, .ref y1, .ref y2, .ref y3, .ref y4, .int 0, .ref y5, .ref y6, .ref y7, .ref y8, .ref y9, .ref y10, .ref y11, .ref y12, .ref y13, .ref y14, .ref y15, .int 0, .ref y16, .ref y17, .ref y18, .ref y19, .ref y20, .ref y21, .ref y22, .ref y23, .ref y24, .ref y25, .ref y26, .ref y27, .int 0, .int 0, .ref y28, .ref y29, .ref y30, .ref y31, .ref y32, .ref y33, .ref y34, .ref y35, .ref y36, .int 0, .ref y37, .ref y38, .int 0, .int 0, .int 0])), (y1, .inl (cZ, 7, .inl (upd (upd (upd (fun _ => 0) 0 0) 1 0) 2 0))), (y2, .inl (cI, 7, .inl (upd (upd (upd (fun _ => 0) 0 0) 1 0) 2 0))), (y3, .inl (cI, 7, .inl (upd (upd (upd (fun _ => 0) 0 0) 1 0) 2 0))), (y4, .inl (cI, 7, .inl (upd (upd (upd (fun _ => 0) 0 0) 1 0) 2 0)))] H_23 := hP
    have hD : va_D A [(y, .inr (7, [.int n, .int 0, .int 3, .int 5, .ref y1, .ref y2, .ref y3, .ref y4, .int 0, .ref y5, .ref y6, .ref y7, .ref y8, .ref y9, .ref y10, .ref y11, .ref y12, .ref y13, .ref y14, .ref y15, .int 0, .ref y16, .ref y17, .ref y18, .ref y19, .ref y20, .ref y21, .ref y22, .ref y23, .ref y24, .ref y25, .ref y26, .ref y27, .int 0, .int 0, .ref y28, .ref y29, .ref y30, .ref y31, .ref y32, .ref y33, .ref y34, .ref y35, .ref y36, .int 0, .ref y37, .ref y38, .int 0, .int 0, .int 0])), (y1, .inl (cZ, 7, .inl (upd (upd (upd (fun _ => 0) 0 0) 1 0) 2 0))), (y2, .inl (cI, 7, .inl (upd (upd (upd (fun _ => 0) 0 0) 1 0) 2 0))), (y3, .inl (cI, 7, .inl (upd (upd (upd (fun _ => 0) 0 0) 1 0) 2 0))), (y4, .inl (cI, 7, .inl (upd (upd (upd (fun _ => 0) 0 0) 1 0) 2 0)))] := hD
    refine lv_iinc (v := 3) (lv' := [(2, .int 3), (0, .ref y), (1, .int n)]) hx hb d_MO_people_79 hl (k := 0) rfl (by decide) (by decide) rfl (fun ls hl => ?_)
    refine lv_goto (tgt := 45) hx hb d_MO_people_82 (by decide) ?_
    refine lv_iload_n hx hb d_MO_people_45 rfl (lv_at hl 0 rfl) ?_
    refine lv_bipush (v := 7) hx hb d_MO_people_46 (by decide) ?_
    refine lv_icmp_ge (tgt := 85) hx hb d_MO_people_48 (by decide) (fun h => absurd h (by decide)) (fun _ => ?_)
    refine lv_aload_n hx hb d_MO_people_51 rfl (lv_at hl 1 rfl) ?_
    refine va_get (D := D) (ci := 7) (v := .ref y1) (C := R_MO) (T := F_MO) (N := 50) hx hb hts i_MO hown hK hP 0 rfl rfl 4 (by decide) (hts _ q_636) (fun _ h9 => h9) rfl d_MO_people_52 ?_
    refine lv_iload_n hx hb d_MO_people_55 rfl (lv_at hl 0 rfl) ?_
    refine lv_iconst (v := 0) hx hb d_MO_people_56 (by decide) ?_
    refine va_zast hx hb hK hP hD hS 1 1 rfl rfl (by unfold vp_in; decide) d_MO_people_57 (fun H_25 locs hP hD hS => ?_)
    have hP : va_P D vwCl [(y, .inr (7, [.int n, .int 0, .int 3, .int 5, .ref y1, .ref y2, .ref y3, .ref y4, .int 0, .ref y5, .ref y6, .ref y7, .ref y8, .ref y9, .ref y10, .ref y11, .ref y12, .ref y13, .ref y14, .ref y15, .int 0, .ref y16, .ref y17, .ref y18, .ref y19, .ref y20, .ref y21, .ref y22, .ref y23, .ref y24, .ref y25, .ref y26, .ref y27, .int 0, .int 0, .ref y28, .ref y29, .ref y30, .ref y31, .ref y32, .ref y33, .ref y34, .ref y35, .ref y36, .int 0, .ref y37, .ref y38, .int 0, .int 0, .int 0])), (y1, .inl (cZ, 7, .inl (upd (upd (upd (upd (fun _ => 0) 0 0) 1 0) 2 0) 3 0))), (y2, .inl (cI, 7, .inl (upd (upd (upd (fun _ => 0) 0 0) 1 0) 2 0))), (y3, .inl (cI, 7, .inl (upd (upd (upd (fun _ => 0) 0 0) 1 0) 2 0))), (y4, .inl (cI, 7, .inl (upd (upd (upd (fun _ => 0) 0 0) 1 0) 2 0)))] H_25 := hP
    have hD : va_D A [(y, .inr (7, [.int n, .int 0, .int 3, .int 5, .ref y1, .ref y2, .ref y3, .ref y4, .int 0, .ref y5, .ref y6, .ref y7, .ref y8, .ref y9, .ref y10, .ref y11, .ref y12, .ref y13, .ref y14, .ref y15, .int 0, .ref y16, .ref y17, .ref y18, .ref y19, .ref y20, .ref y21, .ref y22, .ref y23, .ref y24, .ref y25, .ref y26, .ref y27, .int 0, .int 0, .ref y28, .ref y29, .ref y30, .ref y31, .ref y32, .ref y33, .ref y34, .ref y35, .ref y36, .int 0, .ref y37, .ref y38, .int 0, .int 0, .int 0])), (y1, .inl (cZ, 7, .inl (upd (upd (upd (upd (fun _ => 0) 0 0) 1 0) 2 0) 3 0))), (y2, .inl (cI, 7, .inl (upd (upd (upd (fun _ => 0) 0 0) 1 0) 2 0))), (y3, .inl (cI, 7, .inl (upd (upd (upd (fun _ => 0) 0 0) 1 0) 2 0))), (y4, .inl (cI, 7, .inl (upd (upd (upd (fun _ => 0) 0 0) 1 0) 2 0)))] := hD
    refine lv_aload_n hx hb d_MO_people_58 rfl (lv_at hl 1 rfl) ?_
    refine va_get (D := D) (ci := 7) (v := .ref y2) (C := R_MO) (T := F_MO) (N := 50) hx hb hts i_MO hown hK hP 0 rfl rfl 5 (by decide) (hts _ q_637) (fun _ h9 => h9) rfl d_MO_people_59 ?_
    refine lv_iload_n hx hb d_MO_people_62 rfl (lv_at hl 0 rfl) ?_
    refine lv_iconst (v := 0) hx hb d_MO_people_63 (by decide) ?_
    refine va_iast hx hb hK hP hD hS 2 0 rfl rfl (by unfold vp_in; decide) d_MO_people_64 (fun H_26 locs hP hD hS => ?_)
    have hP : va_P D vwCl [(y, .inr (7, [.int n, .int 0, .int 3, .int 5, .ref y1, .ref y2, .ref y3, .ref y4, .int 0, .ref y5, .ref y6, .ref y7, .ref y8, .ref y9, .ref y10, .ref y11, .ref y12, .ref y13, .ref y14, .ref y15, .int 0, .ref y16, .ref y17, .ref y18, .ref y19, .ref y20, .ref y21, .ref y22, .ref y23, .ref y24, .ref y25, .ref y26, .ref y27, .int 0, .int 0, .ref y28, .ref y29, .ref y30, .ref y31, .ref y32, .ref y33, .ref y34, .ref y35, .ref y36, .int 0, .ref y37, .ref y38, .int 0, .int 0, .int 0])), (y1, .inl (cZ, 7, .inl (upd (upd (upd (upd (fun _ => 0) 0 0) 1 0) 2 0) 3 0))), (y2, .inl (cI, 7, .inl (upd (upd (upd (upd (fun _ => 0) 0 0) 1 0) 2 0) 3 0))), (y3, .inl (cI, 7, .inl (upd (upd (upd (fun _ => 0) 0 0) 1 0) 2 0))), (y4, .inl (cI, 7, .inl (upd (upd (upd (fun _ => 0) 0 0) 1 0) 2 0)))] H_26 := hP
    have hD : va_D A [(y, .inr (7, [.int n, .int 0, .int 3, .int 5, .ref y1, .ref y2, .ref y3, .ref y4, .int 0, .ref y5, .ref y6, .ref y7, .ref y8, .ref y9, .ref y10, .ref y11, .ref y12, .ref y13, .ref y14, .ref y15, .int 0, .ref y16, .ref y17, .ref y18, .ref y19, .ref y20, .ref y21, .ref y22, .ref y23, .ref y24, .ref y25, .ref y26, .ref y27, .int 0, .int 0, .ref y28, .ref y29, .ref y30, .ref y31, .ref y32, .ref y33, .ref y34, .ref y35, .ref y36, .int 0, .ref y37, .ref y38, .int 0, .int 0, .int 0])), (y1, .inl (cZ, 7, .inl (upd (upd (upd (upd (fun _ => 0) 0 0) 1 0) 2 0) 3 0))), (y2, .inl (cI, 7, .inl (upd (upd (upd (upd (fun _ => 0) 0 0) 1 0) 2 0) 3 0))), (y3, .inl (cI, 7, .inl (upd (upd (upd (fun _ => 0) 0 0) 1 0) 2 0))), (y4, .inl (cI, 7, .inl (upd (upd (upd (fun _ => 0) 0 0) 1 0) 2 0)))] := hD
    refine lv_aload_n hx hb d_MO_people_65 rfl (lv_at hl 1 rfl) ?_
    refine va_get (D := D) (ci := 7) (v := .ref y3) (C := R_MO) (T := F_MO) (N := 50) hx hb hts i_MO hown hK hP 0 rfl rfl 6 (by decide) (hts _ q_638) (fun _ h9 => h9) rfl d_MO_people_66 ?_
    refine lv_iload_n hx hb d_MO_people_69 rfl (lv_at hl 0 rfl) ?_
    refine lv_iconst (v := 0) hx hb d_MO_people_70 (by decide) ?_
    refine va_iast hx hb hK hP hD hS 3 0 rfl rfl (by unfold vp_in; decide) d_MO_people_71 (fun H_27 locs hP hD hS => ?_)
    have hP : va_P D vwCl [(y, .inr (7, [.int n, .int 0, .int 3, .int 5, .ref y1, .ref y2, .ref y3, .ref y4, .int 0, .ref y5, .ref y6, .ref y7, .ref y8, .ref y9, .ref y10, .ref y11, .ref y12, .ref y13, .ref y14, .ref y15, .int 0, .ref y16, .ref y17, .ref y18, .ref y19, .ref y20, .ref y21, .ref y22, .ref y23, .ref y24, .ref y25, .ref y26, .ref y27, .int 0, .int 0, .ref y28, .ref y29, .ref y30, .ref y31, .ref y32, .ref y33, .ref y34, .ref y35, .ref y36, .int 0, .ref y37, .ref y38, .int 0, .int 0, .int 0])), (y1, .inl (cZ, 7, .inl (upd (upd (upd (upd (fun _ => 0) 0 0) 1 0) 2 0) 3 0))), (y2, .inl (cI, 7, .inl (upd (upd (upd (upd (fun _ => 0) 0 0) 1 0) 2 0) 3 0))), (y3, .inl (cI, 7, .inl (upd (upd (upd (upd (fun _ => 0) 0 0) 1 0) 2 0) 3 0))), (y4, .inl (cI, 7, .inl (upd (upd (upd (fun _ => 0) 0 0) 1 0) 2 0)))] H_27 := hP
    have hD : va_D A [(y, .inr (7, [.int n, .int 0, .int 3, .int 5, .ref y1, .ref y2, .ref y3, .ref y4, .int 0, .ref y5, .ref y6, .ref y7, .ref y8, .ref y9, .ref y10, .ref y11, .ref y12, .ref y13, .ref y14, .ref y15, .int 0, .ref y16, .ref y17, .ref y18, .ref y19, .ref y20, .ref y21, .ref y22, .ref y23, .ref y24, .ref y25, .ref y26, .ref y27, .int 0, .int 0, .ref y28, .ref y29, .ref y30, .ref y31, .ref y32, .ref y33, .ref y34, .ref y35, .ref y36, .int 0, .ref y37, .ref y38, .int 0, .int 0, .int 0])), (y1, .inl (cZ, 7, .inl (upd (upd (upd (upd (fun _ => 0) 0 0) 1 0) 2 0) 3 0))), (y2, .inl (cI, 7, .inl (upd (upd (upd (upd (fun _ => 0) 0 0) 1 0) 2 0) 3 0))), (y3, .inl (cI, 7, .inl (upd (upd (upd (upd (fun _ => 0) 0 0) 1 0) 2 0) 3 0))), (y4, .inl (cI, 7, .inl (upd (upd (upd (fun _ => 0) 0 0) 1 0) 2 0)))] := hD
    refine lv_aload_n hx hb d_MO_people_72 rfl (lv_at hl 1 rfl) ?_
    refine va_get (D := D) (ci := 7) (v := .ref y4) (C := R_MO) (T := F_MO) (N := 50) hx hb hts i_MO hown hK hP 0 rfl rfl 7 (by decide) (hts _ q_639) (fun _ h9 => h9) rfl d_MO_people_73 ?_
    refine lv_iload_n hx hb d_MO_people_76 rfl (lv_at hl 0 rfl) ?_
    refine lv_iconst (v := 0) hx hb d_MO_people_77 (by decide) ?_
    refine va_iast hx hb hK hP hD hS 4 0 rfl rfl (by unfold vp_in; decide) d_MO_people_78 (fun H_28 locs hP hD hS => ?_)
    have hP : va_P D vwCl [(y, .inr (7, [.int n, .int 0, .int 3, .int 5, .ref y1, .ref y2, .ref y3, .ref y4, .int 0, .ref y5, .ref y6, .ref y7, .ref y8, .ref y9, .ref y10, .ref y11, .ref y12, .ref y13, .ref y14, .ref y15, .int 0, .ref y16, .ref y17, .ref y18, .ref y19, .ref y20, .ref y21, .ref y22, .ref y23, .ref y24, .ref y25, .ref y26, .ref y27, .int 0, .int 0, .ref y28, .ref y29, .ref y30, .ref y31, .ref y32, .ref y33, .ref y34, .ref y35, .ref y36, .int 0, .ref y37, .ref y38, .int 0, .int 0, .int 0])), (y1, .inl (cZ, 7, .inl (upd (upd (upd (upd (fun _ => 0) 0 0) 1 0) 2 0) 3 0))), (y2, .inl (cI, 7, .inl (upd (upd (upd (upd (fun _ => 0) 0 0) 1 0) 2 0) 3 0))), (y3, .inl (cI, 7, .inl (upd (upd (upd (upd (fun _ => 0) 0 0) 1 0) 2 0) 3 0))), (y4, .inl (cI, 7, .inl (upd (upd (upd (upd (fun _ => 0) 0 0) 1 0) 2 0) 3 0)))] H_28 := hP
    have hD : va_D A [(y, .inr (7, [.int n, .int 0, .int 3, .int 5, .ref y1, .ref y2, .ref y3, .ref y4, .int 0, .ref y5, .ref y6, .ref y7, .ref y8, .ref y9, .ref y10, .ref y11, .ref y12, .ref y13, .ref y14, .ref y15, .int 0, .ref y16, .ref y17, .ref y18, .ref y19, .ref y20, .ref y21, .ref y22, .ref y23, .ref y24, .ref y25, .ref y26, .ref y27, .int 0, .int 0, .ref y28, .ref y29, .ref y30, .ref y31, .ref y32, .ref y33, .ref y34, .ref y35, .ref y36, .int 0, .ref y37, .ref y38, .int 0, .int 0, .int 0])), (y1, .inl (cZ, 7, .inl (upd (upd (upd (upd (fun _ => 0) 0 0) 1 0) 2 0) 3 0))), (y2, .inl (cI, 7, .inl (upd (upd (upd (upd (fun _ => 0) 0 0) 1 0) 2 0) 3 0))), (y3, .inl (cI, 7, .inl (upd (upd (upd (upd (fun _ => 0) 0 0) 1 0) 2 0) 3 0))), (y4, .inl (cI, 7, .inl (upd (upd (upd (upd (fun _ => 0) 0 0) 1 0) 2 0) 3 0)))] := hD
    refine lv_iinc (v := 4) (lv' := [(2, .int 4), (0, .ref y), (1, .int n)]) hx hb d_MO_people_79 hl (k := 0) rfl (by decide) (by decide) rfl (fun ls hl => ?_)
    refine lv_goto (tgt := 45) hx hb d_MO_people_82 (by decide) ?_
    refine lv_iload_n hx hb d_MO_people_45 rfl (lv_at hl 0 rfl) ?_
    refine lv_bipush (v := 7) hx hb d_MO_people_46 (by decide) ?_
    refine lv_icmp_ge (tgt := 85) hx hb d_MO_people_48 (by decide) (fun h => absurd h (by decide)) (fun _ => ?_)
    refine lv_aload_n hx hb d_MO_people_51 rfl (lv_at hl 1 rfl) ?_
    refine va_get (D := D) (ci := 7) (v := .ref y1) (C := R_MO) (T := F_MO) (N := 50) hx hb hts i_MO hown hK hP 0 rfl rfl 4 (by decide) (hts _ q_636) (fun _ h9 => h9) rfl d_MO_people_52 ?_
    refine lv_iload_n hx hb d_MO_people_55 rfl (lv_at hl 0 rfl) ?_
    refine lv_iconst (v := 0) hx hb d_MO_people_56 (by decide) ?_
    refine va_zast hx hb hK hP hD hS 1 1 rfl rfl (by unfold vp_in; decide) d_MO_people_57 (fun H_30 locs hP hD hS => ?_)
    have hP : va_P D vwCl [(y, .inr (7, [.int n, .int 0, .int 3, .int 5, .ref y1, .ref y2, .ref y3, .ref y4, .int 0, .ref y5, .ref y6, .ref y7, .ref y8, .ref y9, .ref y10, .ref y11, .ref y12, .ref y13, .ref y14, .ref y15, .int 0, .ref y16, .ref y17, .ref y18, .ref y19, .ref y20, .ref y21, .ref y22, .ref y23, .ref y24, .ref y25, .ref y26, .ref y27, .int 0, .int 0, .ref y28, .ref y29, .ref y30, .ref y31, .ref y32, .ref y33, .ref y34, .ref y35, .ref y36, .int 0, .ref y37, .ref y38, .int 0, .int 0, .int 0])), (y1, .inl (cZ, 7, .inl (upd (upd (upd (upd (upd (fun _ => 0) 0 0) 1 0) 2 0) 3 0) 4 0))), (y2, .inl (cI, 7, .inl (upd (upd (upd (upd (fun _ => 0) 0 0) 1 0) 2 0) 3 0))), (y3, .inl (cI, 7, .inl (upd (upd (upd (upd (fun _ => 0) 0 0) 1 0) 2 0) 3 0))), (y4, .inl (cI, 7, .inl (upd (upd (upd (upd (fun _ => 0) 0 0) 1 0) 2 0) 3 0)))] H_30 := hP
    have hD : va_D A [(y, .inr (7, [.int n, .int 0, .int 3, .int 5, .ref y1, .ref y2, .ref y3, .ref y4, .int 0, .ref y5, .ref y6, .ref y7, .ref y8, .ref y9, .ref y10, .ref y11, .ref y12, .ref y13, .ref y14, .ref y15, .int 0, .ref y16, .ref y17, .ref y18, .ref y19, .ref y20, .ref y21, .ref y22, .ref y23, .ref y24, .ref y25, .ref y26, .ref y27, .int 0, .int 0, .ref y28, .ref y29, .ref y30, .ref y31, .ref y32, .ref y33, .ref y34, .ref y35, .ref y36, .int 0, .ref y37, .ref y38, .int 0, .int 0, .int 0])), (y1, .inl (cZ, 7, .inl (upd (upd (upd (upd (upd (fun _ => 0) 0 0) 1 0) 2 0) 3 0) 4 0))), (y2, .inl (cI, 7, .inl (upd (upd (upd (upd (fun _ => 0) 0 0) 1 0) 2 0) 3 0))), (y3, .inl (cI, 7, .inl (upd (upd (upd (upd (fun _ => 0) 0 0) 1 0) 2 0) 3 0))), (y4, .inl (cI, 7, .inl (upd (upd (upd (upd (fun _ => 0) 0 0) 1 0) 2 0) 3 0)))] := hD
    refine lv_aload_n hx hb d_MO_people_58 rfl (lv_at hl 1 rfl) ?_
    refine va_get (D := D) (ci := 7) (v := .ref y2) (C := R_MO) (T := F_MO) (N := 50) hx hb hts i_MO hown hK hP 0 rfl rfl 5 (by decide) (hts _ q_637) (fun _ h9 => h9) rfl d_MO_people_59 ?_
    refine lv_iload_n hx hb d_MO_people_62 rfl (lv_at hl 0 rfl) ?_
    refine lv_iconst (v := 0) hx hb d_MO_people_63 (by decide) ?_
    refine va_iast hx hb hK hP hD hS 2 0 rfl rfl (by unfold vp_in; decide) d_MO_people_64 (fun H_31 locs hP hD hS => ?_)
    have hP : va_P D vwCl [(y, .inr (7, [.int n, .int 0, .int 3, .int 5, .ref y1, .ref y2, .ref y3, .ref y4, .int 0, .ref y5, .ref y6, .ref y7, .ref y8, .ref y9, .ref y10, .ref y11, .ref y12, .ref y13, .ref y14, .ref y15, .int 0, .ref y16, .ref y17, .ref y18, .ref y19, .ref y20, .ref y21, .ref y22, .ref y23, .ref y24, .ref y25, .ref y26, .ref y27, .int 0, .int 0, .ref y28, .ref y29, .ref y30, .ref y31, .ref y32, .ref y33, .ref y34, .ref y35, .ref y36, .int 0, .ref y37, .ref y38, .int 0, .int 0, .int 0])), (y1, .inl (cZ, 7, .inl (upd (upd (upd (upd (upd (fun _ => 0) 0 0) 1 0) 2 0) 3 0) 4 0))), (y2, .inl (cI, 7, .inl (upd (upd (upd (upd (upd (fun _ => 0) 0 0) 1 0) 2 0) 3 0) 4 0))), (y3, .inl (cI, 7, .inl (upd (upd (upd (upd (fun _ => 0) 0 0) 1 0) 2 0) 3 0))), (y4, .inl (cI, 7, .inl (upd (upd (upd (upd (fun _ => 0) 0 0) 1 0) 2 0) 3 0)))] H_31 := hP
    have hD : va_D A [(y, .inr (7, [.int n, .int 0, .int 3, .int 5, .ref y1, .ref y2, .ref y3, .ref y4, .int 0, .ref y5, .ref y6, .ref y7, .ref y8, .ref y9, .ref y10, .ref y11, .ref y12, .ref y13, .ref y14, .ref y15, .int 0, .ref y16, .ref y17, .ref y18, .ref y19, .ref y20, .ref y21, .ref y22, .ref y23, .ref y24, .ref y25, .ref y26, .ref y27, .int 0, .int 0, .ref y28, .ref y29, .ref y30, .ref y31, .ref y32, .ref y33, .ref y34, .ref y35, .ref y36, .int 0, .ref y37, .ref y38, .int 0, .int 0, .int 0])), (y1, .inl (cZ, 7, .inl (upd (upd (upd (upd (upd (fun _ => 0) 0 0) 1 0) 2 0) 3 0) 4 0))), (y2, .inl (cI, 7, .inl (upd (upd (upd (upd (upd (fun _ => 0) 0 0) 1 0) 2 0) 3 0) 4 0))), (y3, .inl (cI, 7, .inl (upd (upd (upd (upd (fun _ => 0) 0 0) 1 0) 2 0) 3 0))), (y4, .inl (cI, 7, .inl (upd (upd (upd (upd (fun _ => 0) 0 0) 1 0) 2 0) 3 0)))] := hD
    refine lv_aload_n hx hb d_MO_people_65 rfl (lv_at hl 1 rfl) ?_
    refine va_get (D := D) (ci := 7) (v := .ref y3) (C := R_MO) (T := F_MO) (N := 50) hx hb hts i_MO hown hK hP 0 rfl rfl 6 (by decide) (hts _ q_638) (fun _ h9 => h9) rfl d_MO_people_66 ?_
    refine lv_iload_n hx hb d_MO_people_69 rfl (lv_at hl 0 rfl) ?_
    refine lv_iconst (v := 0) hx hb d_MO_people_70 (by decide) ?_
    refine va_iast hx hb hK hP hD hS 3 0 rfl rfl (by unfold vp_in; decide) d_MO_people_71 (fun H_32 locs hP hD hS => ?_)
    have hP : va_P D vwCl [(y, .inr (7, [.int n, .int 0, .int 3, .int 5, .ref y1, .ref y2, .ref y3, .ref y4, .int 0, .ref y5, .ref y6, .ref y7, .ref y8, .ref y9, .ref y10, .ref y11, .ref y12, .ref y13, .ref y14, .ref y15, .int 0, .ref y16, .ref y17, .ref y18, .ref y19, .ref y20, .ref y21, .ref y22, .ref y23, .ref y24, .ref y25, .ref y26, .ref y27, .int 0, .int 0, .ref y28, .ref y29, .ref y30, .ref y31, .ref y32, .ref y33, .ref y34, .ref y35, .ref y36, .int 0, .ref y37, .ref y38, .int 0, .int 0, .int 0])), (y1, .inl (cZ, 7, .inl (upd (upd (upd (upd (upd (fun _ => 0) 0 0) 1 0) 2 0) 3 0) 4 0))), (y2, .inl (cI, 7, .inl (upd (upd (upd (upd (upd (fun _ => 0) 0 0) 1 0) 2 0) 3 0) 4 0))), (y3, .inl (cI, 7, .inl (upd (upd (upd (upd (upd (fun _ => 0) 0 0) 1 0) 2 0) 3 0) 4 0))), (y4, .inl (cI, 7, .inl (upd (upd (upd (upd (fun _ => 0) 0 0) 1 0) 2 0) 3 0)))] H_32 := hP
    have hD : va_D A [(y, .inr (7, [.int n, .int 0, .int 3, .int 5, .ref y1, .ref y2, .ref y3, .ref y4, .int 0, .ref y5, .ref y6, .ref y7, .ref y8, .ref y9, .ref y10, .ref y11, .ref y12, .ref y13, .ref y14, .ref y15, .int 0, .ref y16, .ref y17, .ref y18, .ref y19, .ref y20, .ref y21, .ref y22, .ref y23, .ref y24, .ref y25, .ref y26, .ref y27, .int 0, .int 0, .ref y28, .ref y29, .ref y30, .ref y31, .ref y32, .ref y33, .ref y34, .ref y35, .ref y36, .int 0, .ref y37, .ref y38, .int 0, .int 0, .int 0])), (y1, .inl (cZ, 7, .inl (upd (upd (upd (upd (upd (fun _ => 0) 0 0) 1 0) 2 0) 3 0) 4 0))), (y2, .inl (cI, 7, .inl (upd (upd (upd (upd (upd (fun _ => 0) 0 0) 1 0) 2 0) 3 0) 4 0))), (y3, .inl (cI, 7, .inl (upd (upd (upd (upd (upd (fun _ => 0) 0 0) 1 0) 2 0) 3 0) 4 0))), (y4, .inl (cI, 7, .inl (upd (upd (upd (upd (fun _ => 0) 0 0) 1 0) 2 0) 3 0)))] := hD
    refine lv_aload_n hx hb d_MO_people_72 rfl (lv_at hl 1 rfl) ?_
    refine va_get (D := D) (ci := 7) (v := .ref y4) (C := R_MO) (T := F_MO) (N := 50) hx hb hts i_MO hown hK hP 0 rfl rfl 7 (by decide) (hts _ q_639) (fun _ h9 => h9) rfl d_MO_people_73 ?_
    refine lv_iload_n hx hb d_MO_people_76 rfl (lv_at hl 0 rfl) ?_
    refine lv_iconst (v := 0) hx hb d_MO_people_77 (by decide) ?_
    refine va_iast hx hb hK hP hD hS 4 0 rfl rfl (by unfold vp_in; decide) d_MO_people_78 (fun H_33 locs hP hD hS => ?_)
    have hP : va_P D vwCl [(y, .inr (7, [.int n, .int 0, .int 3, .int 5, .ref y1, .ref y2, .ref y3, .ref y4, .int 0, .ref y5, .ref y6, .ref y7, .ref y8, .ref y9, .ref y10, .ref y11, .ref y12, .ref y13, .ref y14, .ref y15, .int 0, .ref y16, .ref y17, .ref y18, .ref y19, .ref y20, .ref y21, .ref y22, .ref y23, .ref y24, .ref y25, .ref y26, .ref y27, .int 0, .int 0, .ref y28, .ref y29, .ref y30, .ref y31, .ref y32, .ref y33, .ref y34, .ref y35, .ref y36, .int 0, .ref y37, .ref y38, .int 0, .int 0, .int 0])), (y1, .inl (cZ, 7, .inl (upd (upd (upd (upd (upd (fun _ => 0) 0 0) 1 0) 2 0) 3 0) 4 0))), (y2, .inl (cI, 7, .inl (upd (upd (upd (upd (upd (fun _ => 0) 0 0) 1 0) 2 0) 3 0) 4 0))), (y3, .inl (cI, 7, .inl (upd (upd (upd (upd (upd (fun _ => 0) 0 0) 1 0) 2 0) 3 0) 4 0))), (y4, .inl (cI, 7, .inl (upd (upd (upd (upd (upd (fun _ => 0) 0 0) 1 0) 2 0) 3 0) 4 0)))] H_33 := hP
    have hD : va_D A [(y, .inr (7, [.int n, .int 0, .int 3, .int 5, .ref y1, .ref y2, .ref y3, .ref y4, .int 0, .ref y5, .ref y6, .ref y7, .ref y8, .ref y9, .ref y10, .ref y11, .ref y12, .ref y13, .ref y14, .ref y15, .int 0, .ref y16, .ref y17, .ref y18, .ref y19, .ref y20, .ref y21, .ref y22, .ref y23, .ref y24, .ref y25, .ref y26, .ref y27, .int 0, .int 0, .ref y28, .ref y29, .ref y30, .ref y31, .ref y32, .ref y33, .ref y34, .ref y35, .ref y36, .int 0, .ref y37, .ref y38, .int 0, .int 0, .int 0])), (y1, .inl (cZ, 7, .inl (upd (upd (upd (upd (upd (fun _ => 0) 0 0) 1 0) 2 0) 3 0) 4 0))), (y2, .inl (cI, 7, .inl (upd (upd (upd (upd (upd (fun _ => 0) 0 0) 1 0) 2 0) 3 0) 4 0))), (y3, .inl (cI, 7, .inl (upd (upd (upd (upd (upd (fun _ => 0) 0 0) 1 0) 2 0) 3 0) 4 0))), (y4, .inl (cI, 7, .inl (upd (upd (upd (upd (upd (fun _ => 0) 0 0) 1 0) 2 0) 3 0) 4 0)))] := hD
    refine lv_iinc (v := 5) (lv' := [(2, .int 5), (0, .ref y), (1, .int n)]) hx hb d_MO_people_79 hl (k := 0) rfl (by decide) (by decide) rfl (fun ls hl => ?_)
    refine lv_goto (tgt := 45) hx hb d_MO_people_82 (by decide) ?_
    refine lv_iload_n hx hb d_MO_people_45 rfl (lv_at hl 0 rfl) ?_
    refine lv_bipush (v := 7) hx hb d_MO_people_46 (by decide) ?_
    refine lv_icmp_ge (tgt := 85) hx hb d_MO_people_48 (by decide) (fun h => absurd h (by decide)) (fun _ => ?_)
    refine lv_aload_n hx hb d_MO_people_51 rfl (lv_at hl 1 rfl) ?_
    refine va_get (D := D) (ci := 7) (v := .ref y1) (C := R_MO) (T := F_MO) (N := 50) hx hb hts i_MO hown hK hP 0 rfl rfl 4 (by decide) (hts _ q_636) (fun _ h9 => h9) rfl d_MO_people_52 ?_
    refine lv_iload_n hx hb d_MO_people_55 rfl (lv_at hl 0 rfl) ?_
    refine lv_iconst (v := 0) hx hb d_MO_people_56 (by decide) ?_
    refine va_zast hx hb hK hP hD hS 1 1 rfl rfl (by unfold vp_in; decide) d_MO_people_57 (fun H_35 locs hP hD hS => ?_)
    have hP : va_P D vwCl [(y, .inr (7, [.int n, .int 0, .int 3, .int 5, .ref y1, .ref y2, .ref y3, .ref y4, .int 0, .ref y5, .ref y6, .ref y7, .ref y8, .ref y9, .ref y10, .ref y11, .ref y12, .ref y13, .ref y14, .ref y15, .int 0, .ref y16, .ref y17, .ref y18, .ref y19, .ref y20, .ref y21, .ref y22, .ref y23, .ref y24, .ref y25, .ref y26, .ref y27, .int 0, .int 0, .ref y28, .ref y29, .ref y30, .ref y31, .ref y32, .ref y33, .ref y34, .ref y35, .ref y36, .int 0, .ref y37, .ref y38, .int 0, .int 0, .int 0])), (y1, .inl (cZ, 7, .inl (upd (upd (upd (upd (upd (upd (fun _ => 0) 0 0) 1 0) 2 0) 3 0) 4 0) 5 0))), (y2, .inl (cI, 7, .inl (upd (upd (upd (upd (upd (fun _ => 0) 0 0) 1 0) 2 0) 3 0) 4 0))), (y3, .inl (cI, 7, .inl (upd (upd (upd (upd (upd (fun _ => 0) 0 0) 1 0) 2 0) 3 0) 4 0))), (y4, .inl (cI, 7, .inl (upd (upd (upd (upd (upd (fun _ => 0) 0 0) 1 0) 2 0) 3 0) 4 0)))] H_35 := hP
    have hD : va_D A [(y, .inr (7, [.int n, .int 0, .int 3, .int 5, .ref y1, .ref y2, .ref y3, .ref y4, .int 0, .ref y5, .ref y6, .ref y7, .ref y8, .ref y9, .ref y10, .ref y11, .ref y12, .ref y13, .ref y14, .ref y15, .int 0, .ref y16, .ref y17, .ref y18, .ref y19, .ref y20, .ref y21, .ref y22, .ref y23, .ref y24, .ref y25, .ref y26, .ref y27, .int 0, .int 0, .ref y28, .ref y29, .ref y30, .ref y31, .ref y32, .ref y33, .ref y34, .ref y35, .ref y36, .int 0, .ref y37, .ref y38, .int 0, .int 0, .int 0])), (y1, .inl (cZ, 7, .inl (upd (upd (upd (upd (upd (upd (fun _ => 0) 0 0) 1 0) 2 0) 3 0) 4 0) 5 0))), (y2, .inl (cI, 7, .inl (upd (upd (upd (upd (upd (fun _ => 0) 0 0) 1 0) 2 0) 3 0) 4 0))), (y3, .inl (cI, 7, .inl (upd (upd (upd (upd (upd (fun _ => 0) 0 0) 1 0) 2 0) 3 0) 4 0))), (y4, .inl (cI, 7, .inl (upd (upd (upd (upd (upd (fun _ => 0) 0 0) 1 0) 2 0) 3 0) 4 0)))] := hD
    refine lv_aload_n hx hb d_MO_people_58 rfl (lv_at hl 1 rfl) ?_
    refine va_get (D := D) (ci := 7) (v := .ref y2) (C := R_MO) (T := F_MO) (N := 50) hx hb hts i_MO hown hK hP 0 rfl rfl 5 (by decide) (hts _ q_637) (fun _ h9 => h9) rfl d_MO_people_59 ?_
    refine lv_iload_n hx hb d_MO_people_62 rfl (lv_at hl 0 rfl) ?_
    refine lv_iconst (v := 0) hx hb d_MO_people_63 (by decide) ?_
    refine va_iast hx hb hK hP hD hS 2 0 rfl rfl (by unfold vp_in; decide) d_MO_people_64 (fun H_36 locs hP hD hS => ?_)
    have hP : va_P D vwCl [(y, .inr (7, [.int n, .int 0, .int 3, .int 5, .ref y1, .ref y2, .ref y3, .ref y4, .int 0, .ref y5, .ref y6, .ref y7, .ref y8, .ref y9, .ref y10, .ref y11, .ref y12, .ref y13, .ref y14, .ref y15, .int 0, .ref y16, .ref y17, .ref y18, .ref y19, .ref y20, .ref y21, .ref y22, .ref y23, .ref y24, .ref y25, .ref y26, .ref y27, .int 0, .int 0, .ref y28, .ref y29, .ref y30, .ref y31, .ref y32, .ref y33, .ref y34, .ref y35, .ref y36, .int 0, .ref y37, .ref y38, .int 0, .int 0, .int 0])), (y1, .inl (cZ, 7, .inl (upd (upd (upd (upd (upd (upd (fun _ => 0) 0 0) 1 0) 2 0) 3 0) 4 0) 5 0))), (y2, .inl (cI, 7, .inl (upd (upd (upd (upd (upd (upd (fun _ => 0) 0 0) 1 0) 2 0) 3 0) 4 0) 5 0))), (y3, .inl (cI, 7, .inl (upd (upd (upd (upd (upd (fun _ => 0) 0 0) 1 0) 2 0) 3 0) 4 0))), (y4, .inl (cI, 7, .inl (upd (upd (upd (upd (upd (fun _ => 0) 0 0) 1 0) 2 0) 3 0) 4 0)))] H_36 := hP
    have hD : va_D A [(y, .inr (7, [.int n, .int 0, .int 3, .int 5, .ref y1, .ref y2, .ref y3, .ref y4, .int 0, .ref y5, .ref y6, .ref y7, .ref y8, .ref y9, .ref y10, .ref y11, .ref y12, .ref y13, .ref y14, .ref y15, .int 0, .ref y16, .ref y17, .ref y18, .ref y19, .ref y20, .ref y21, .ref y22, .ref y23, .ref y24, .ref y25, .ref y26, .ref y27, .int 0, .int 0, .ref y28, .ref y29, .ref y30, .ref y31, .ref y32, .ref y33, .ref y34, .ref y35, .ref y36, .int 0, .ref y37, .ref y38, .int 0, .int 0, .int 0])), (y1, .inl (cZ, 7, .inl (upd (upd (upd (upd (upd (upd (fun _ => 0) 0 0) 1 0) 2 0) 3 0) 4 0) 5 0))), (y2, .inl (cI, 7, .inl (upd (upd (upd (upd (upd (upd (fun _ => 0) 0 0) 1 0) 2 0) 3 0) 4 0) 5 0))), (y3, .inl (cI, 7, .inl (upd (upd (upd (upd (upd (fun _ => 0) 0 0) 1 0) 2 0) 3 0) 4 0))), (y4, .inl (cI, 7, .inl (upd (upd (upd (upd (upd (fun _ => 0) 0 0) 1 0) 2 0) 3 0) 4 0)))] := hD
    refine lv_aload_n hx hb d_MO_people_65 rfl (lv_at hl 1 rfl) ?_
    refine va_get (D := D) (ci := 7) (v := .ref y3) (C := R_MO) (T := F_MO) (N := 50) hx hb hts i_MO hown hK hP 0 rfl rfl 6 (by decide) (hts _ q_638) (fun _ h9 => h9) rfl d_MO_people_66 ?_
    refine lv_iload_n hx hb d_MO_people_69 rfl (lv_at hl 0 rfl) ?_
    refine lv_iconst (v := 0) hx hb d_MO_people_70 (by decide) ?_
    refine va_iast hx hb hK hP hD hS 3 0 rfl rfl (by unfold vp_in; decide) d_MO_people_71 (fun H_37 locs hP hD hS => ?_)
    have hP : va_P D vwCl [(y, .inr (7, [.int n, .int 0, .int 3, .int 5, .ref y1, .ref y2, .ref y3, .ref y4, .int 0, .ref y5, .ref y6, .ref y7, .ref y8, .ref y9, .ref y10, .ref y11, .ref y12, .ref y13, .ref y14, .ref y15, .int 0, .ref y16, .ref y17, .ref y18, .ref y19, .ref y20, .ref y21, .ref y22, .ref y23, .ref y24, .ref y25, .ref y26, .ref y27, .int 0, .int 0, .ref y28, .ref y29, .ref y30, .ref y31, .ref y32, .ref y33, .ref y34, .ref y35, .ref y36, .int 0, .ref y37, .ref y38, .int 0, .int 0, .int 0])), (y1, .inl (cZ, 7, .inl (upd (upd (upd (upd (upd (upd (fun _ => 0) 0 0) 1 0) 2 0) 3 0) 4 0) 5 0))), (y2, .inl (cI, 7, .inl (upd (upd (upd (upd (upd (upd (fun _ => 0) 0 0) 1 0) 2 0) 3 0) 4 0) 5 0))), (y3, .inl (cI, 7, .inl (upd (upd (upd (upd (upd (upd (fun _ => 0) 0 0) 1 0) 2 0) 3 0) 4 0) 5 0))), (y4, .inl (cI, 7, .inl (upd (upd (upd (upd (upd (fun _ => 0) 0 0) 1 0) 2 0) 3 0) 4 0)))] H_37 := hP
    have hD : va_D A [(y, .inr (7, [.int n, .int 0, .int 3, .int 5, .ref y1, .ref y2, .ref y3, .ref y4, .int 0, .ref y5, .ref y6, .ref y7, .ref y8, .ref y9, .ref y10, .ref y11, .ref y12, .ref y13, .ref y14, .ref y15, .int 0, .ref y16, .ref y17, .ref y18, .ref y19, .ref y20, .ref y21, .ref y22, .ref y23, .ref y24, .ref y25, .ref y26, .ref y27, .int 0, .int 0, .ref y28, .ref y29, .ref y30, .ref y31, .ref y32, .ref y33, .ref y34, .ref y35, .ref y36, .int 0, .ref y37, .ref y38, .int 0, .int 0, .int 0])), (y1, .inl (cZ, 7, .inl (upd (upd (upd (upd (upd (upd (fun _ => 0) 0 0) 1 0) 2 0) 3 0) 4 0) 5 0))), (y2, .inl (cI, 7, .inl (upd (upd (upd (upd (upd (upd (fun _ => 0) 0 0) 1 0) 2 0) 3 0) 4 0) 5 0))), (y3, .inl (cI, 7, .inl (upd (upd (upd (upd (upd (upd (fun _ => 0) 0 0) 1 0) 2 0) 3 0) 4 0) 5 0))), (y4, .inl (cI, 7, .inl (upd (upd (upd (upd (upd (fun _ => 0) 0 0) 1 0) 2 0) 3 0) 4 0)))] := hD
    refine lv_aload_n hx hb d_MO_people_72 rfl (lv_at hl 1 rfl) ?_
    refine va_get (D := D) (ci := 7) (v := .ref y4) (C := R_MO) (T := F_MO) (N := 50) hx hb hts i_MO hown hK hP 0 rfl rfl 7 (by decide) (hts _ q_639) (fun _ h9 => h9) rfl d_MO_people_73 ?_
    refine lv_iload_n hx hb d_MO_people_76 rfl (lv_at hl 0 rfl) ?_
    refine lv_iconst (v := 0) hx hb d_MO_people_77 (by decide) ?_
    refine va_iast hx hb hK hP hD hS 4 0 rfl rfl (by unfold vp_in; decide) d_MO_people_78 (fun H_38 locs hP hD hS => ?_)
    have hP : va_P D vwCl [(y, .inr (7, [.int n, .int 0, .int 3, .int 5, .ref y1, .ref y2, .ref y3, .ref y4, .int 0, .ref y5, .ref y6, .ref y7, .ref y8, .ref y9, .ref y10, .ref y11, .ref y12, .ref y13, .ref y14, .ref y15, .int 0, .ref y16, .ref y17, .ref y18, .ref y19, .ref y20, .ref y21, .ref y22, .ref y23, .ref y24, .ref y25, .ref y26, .ref y27, .int 0, .int 0, .ref y28, .ref y29, .ref y30, .ref y31, .ref y32, .ref y33, .ref y34, .ref y35, .ref y36, .int 0, .ref y37, .ref y38, .int 0, .int 0, .int 0])), (y1, .inl (cZ, 7, .inl (upd (upd (upd (upd (upd (upd (fun _ => 0) 0 0) 1 0) 2 0) 3 0) 4 0) 5 0))), (y2, .inl (cI, 7, .inl (upd (upd (upd (upd (upd (upd (fun _ => 0) 0 0) 1 0) 2 0) 3 0) 4 0) 5 0))), (y3, .inl (cI, 7, .inl (upd (upd (upd (upd (upd (upd (fun _ => 0) 0 0) 1 0) 2 0) 3 0) 4 0) 5 0))), (y4, .inl (cI, 7, .inl (upd (upd (upd (upd (upd (upd (fun _ => 0) 0 0) 1 0) 2 0) 3 0) 4 0) 5 0)))] H_38 := hP
    have hD : va_D A [(y, .inr (7, [.int n, .int 0, .int 3, .int 5, .ref y1, .ref y2, .ref y3, .ref y4, .int 0, .ref y5, .ref y6, .ref y7, .ref y8, .ref y9, .ref y10, .ref y11, .ref y12, .ref y13, .ref y14, .ref y15, .int 0, .ref y16, .ref y17, .ref y18, .ref y19, .ref y20, .ref y21, .ref y22, .ref y23, .ref y24, .ref y25, .ref y26, .ref y27, .int 0, .int 0, .ref y28, .ref y29, .ref y30, .ref y31, .ref y32, .ref y33, .ref y34, .ref y35, .ref y36, .int 0, .ref y37, .ref y38, .int 0, .int 0, .int 0])), (y1, .inl (cZ, 7, .inl (upd (upd (upd (upd (upd (upd (fun _ => 0) 0 0) 1 0) 2 0) 3 0) 4 0) 5 0))), (y2, .inl (cI, 7, .inl (upd (upd (upd (upd (upd (upd (fun _ => 0) 0 0) 1 0) 2 0) 3 0) 4 0) 5 0))), (y3, .inl (cI, 7, .inl (upd (upd (upd (upd (upd (upd (fun _ => 0) 0 0) 1 0) 2 0) 3 0) 4 0) 5 0))), (y4, .inl (cI, 7, .inl (upd (upd (upd (upd (upd (upd (fun _ => 0) 0 0) 1 0) 2 0) 3 0) 4 0) 5 0)))] := hD
    refine lv_iinc (v := 6) (lv' := [(2, .int 6), (0, .ref y), (1, .int n)]) hx hb d_MO_people_79 hl (k := 0) rfl (by decide) (by decide) rfl (fun ls hl => ?_)
    refine lv_goto (tgt := 45) hx hb d_MO_people_82 (by decide) ?_
    refine lv_iload_n hx hb d_MO_people_45 rfl (lv_at hl 0 rfl) ?_
    refine lv_bipush (v := 7) hx hb d_MO_people_46 (by decide) ?_
    refine lv_icmp_ge (tgt := 85) hx hb d_MO_people_48 (by decide) (fun h => absurd h (by decide)) (fun _ => ?_)
    refine lv_aload_n hx hb d_MO_people_51 rfl (lv_at hl 1 rfl) ?_
    refine va_get (D := D) (ci := 7) (v := .ref y1) (C := R_MO) (T := F_MO) (N := 50) hx hb hts i_MO hown hK hP 0 rfl rfl 4 (by decide) (hts _ q_636) (fun _ h9 => h9) rfl d_MO_people_52 ?_
    refine lv_iload_n hx hb d_MO_people_55 rfl (lv_at hl 0 rfl) ?_
    refine lv_iconst (v := 0) hx hb d_MO_people_56 (by decide) ?_
    refine va_zast hx hb hK hP hD hS 1 1 rfl rfl (by unfold vp_in; decide) d_MO_people_57 (fun H_40 locs hP hD hS => ?_)
    have hP : va_P D vwCl [(y, .inr (7, [.int n, .int 0, .int 3, .int 5, .ref y1, .ref y2, .ref y3, .ref y4, .int 0, .ref y5, .ref y6, .ref y7, .ref y8, .ref y9, .ref y10, .ref y11, .ref y12, .ref y13, .ref y14, .ref y15, .int 0, .ref y16, .ref y17, .ref y18, .ref y19, .ref y20, .ref y21, .ref y22, .ref y23, .ref y24, .ref y25, .ref y26, .ref y27, .int 0, .int 0, .ref y28, .ref y29, .ref y30, .ref y31, .ref y32, .ref y33, .ref y34, .ref y35, .ref y36, .int 0, .ref y37, .ref y38, .int 0, .int 0, .int 0])), (y1, .inl (cZ, 7, .inl (upd (upd (upd (upd (upd (upd (upd (fun _ => 0) 0 0) 1 0) 2 0) 3 0) 4 0) 5 0) 6 0))), (y2, .inl (cI, 7, .inl (upd (upd (upd (upd (upd (upd (fun _ => 0) 0 0) 1 0) 2 0) 3 0) 4 0) 5 0))), (y3, .inl (cI, 7, .inl (upd (upd (upd (upd (upd (upd (fun _ => 0) 0 0) 1 0) 2 0) 3 0) 4 0) 5 0))), (y4, .inl (cI, 7, .inl (upd (upd (upd (upd (upd (upd (fun _ => 0) 0 0) 1 0) 2 0) 3 0) 4 0) 5 0)))] H_40 := hP
    have hD : va_D A [(y, .inr (7, [.int n, .int 0, .int 3, .int 5, .ref y1, .ref y2, .ref y3, .ref y4, .int 0, .ref y5, .ref y6, .ref y7, .ref y8, .ref y9, .ref y10, .ref y11, .ref y12, .ref y13, .ref y14, .ref y15, .int 0, .ref y16, .ref y17, .ref y18, .ref y19, .ref y20, .ref y21, .ref y22, .ref y23, .ref y24, .ref y25, .ref y26, .ref y27, .int 0, .int 0, .ref y28, .ref y29, .ref y30, .ref y31, .ref y32, .ref y33, .ref y34, .ref y35, .ref y36, .int 0, .ref y37, .ref y38, .int 0, .int 0, .int 0])), (y1, .inl (cZ, 7, .inl (upd (upd (upd (upd (upd (upd (upd (fun _ => 0) 0 0) 1 0) 2 0) 3 0) 4 0) 5 0) 6 0))), (y2, .inl (cI, 7, .inl (upd (upd (upd (upd (upd (upd (fun _ => 0) 0 0) 1 0) 2 0) 3 0) 4 0) 5 0))), (y3, .inl (cI, 7, .inl (upd (upd (upd (upd (upd (upd (fun _ => 0) 0 0) 1 0) 2 0) 3 0) 4 0) 5 0))), (y4, .inl (cI, 7, .inl (upd (upd (upd (upd (upd (upd (fun _ => 0) 0 0) 1 0) 2 0) 3 0) 4 0) 5 0)))] := hD
    refine lv_aload_n hx hb d_MO_people_58 rfl (lv_at hl 1 rfl) ?_
    refine va_get (D := D) (ci := 7) (v := .ref y2) (C := R_MO) (T := F_MO) (N := 50) hx hb hts i_MO hown hK hP 0 rfl rfl 5 (by decide) (hts _ q_637) (fun _ h9 => h9) rfl d_MO_people_59 ?_
    refine lv_iload_n hx hb d_MO_people_62 rfl (lv_at hl 0 rfl) ?_
    refine lv_iconst (v := 0) hx hb d_MO_people_63 (by decide) ?_
    refine va_iast hx hb hK hP hD hS 2 0 rfl rfl (by unfold vp_in; decide) d_MO_people_64 (fun H_41 locs hP hD hS => ?_)
    have hP : va_P D vwCl [(y, .inr (7, [.int n, .int 0, .int 3, .int 5, .ref y1, .ref y2, .ref y3, .ref y4, .int 0, .ref y5, .ref y6, .ref y7, .ref y8, .ref y9, .ref y10, .ref y11, .ref y12, .ref y13, .ref y14, .ref y15, .int 0, .ref y16, .ref y17, .ref y18, .ref y19, .ref y20, .ref y21, .ref y22, .ref y23, .ref y24, .ref y25, .ref y26, .ref y27, .int 0, .int 0, .ref y28, .ref y29, .ref y30, .ref y31, .ref y32, .ref y33, .ref y34, .ref y35, .ref y36, .int 0, .ref y37, .ref y38, .int 0, .int 0, .int 0])), (y1, .inl (cZ, 7, .inl (upd (upd (upd (upd (upd (upd (upd (fun _ => 0) 0 0) 1 0) 2 0) 3 0) 4 0) 5 0) 6 0))), (y2, .inl (cI, 7, .inl (upd (upd (upd (upd (upd (upd (upd (fun _ => 0) 0 0) 1 0) 2 0) 3 0) 4 0) 5 0) 6 0))), (y3, .inl (cI, 7, .inl (upd (upd (upd (upd (upd (upd (fun _ => 0) 0 0) 1 0) 2 0) 3 0) 4 0) 5 0))), (y4, .inl (cI, 7, .inl (upd (upd (upd (upd (upd (upd (fun _ => 0) 0 0) 1 0) 2 0) 3 0) 4 0) 5 0)))] H_41 := hP
    have hD : va_D A [(y, .inr (7, [.int n, .int 0, .int 3, .int 5, .ref y1, .ref y2, .ref y3, .ref y4, .int 0, .ref y5, .ref y6, .ref y7, .ref y8, .ref y9, .ref y10, .ref y11, .ref y12, .ref y13, .ref y14, .ref y15, .int 0, .ref y16, .ref y17, .ref y18, .ref y19, .ref y20, .ref y21, .ref y22, .ref y23, .ref y24, .ref y25, .ref y26, .ref y27, .int 0, .int 0, .ref y28, .ref y29, .ref y30, .ref y31, .ref y32, .ref y33, .ref y34, .ref y35, .ref y36, .int 0, .ref y37, .ref y38, .int 0, .int 0, .int 0])), (y1, .inl (cZ, 7, .inl (upd (upd (upd (upd (upd (upd (upd (fun _ => 0) 0 0) 1 0) 2 0) 3 0) 4 0) 5 0) 6 0))), (y2, .inl (cI, 7, .inl (upd (upd (upd (upd (upd (upd (upd (fun _ => 0) 0 0) 1 0) 2 0) 3 0) 4 0) 5 0) 6 0))), (y3, .inl (cI, 7, .inl (upd (upd (upd (upd (upd (upd (fun _ => 0) 0 0) 1 0) 2 0) 3 0) 4 0) 5 0))), (y4, .inl (cI, 7, .inl (upd (upd (upd (upd (upd (upd (fun _ => 0) 0 0) 1 0) 2 0) 3 0) 4 0) 5 0)))] := hD
    refine lv_aload_n hx hb d_MO_people_65 rfl (lv_at hl 1 rfl) ?_
    refine va_get (D := D) (ci := 7) (v := .ref y3) (C := R_MO) (T := F_MO) (N := 50) hx hb hts i_MO hown hK hP 0 rfl rfl 6 (by decide) (hts _ q_638) (fun _ h9 => h9) rfl d_MO_people_66 ?_
    refine lv_iload_n hx hb d_MO_people_69 rfl (lv_at hl 0 rfl) ?_
    refine lv_iconst (v := 0) hx hb d_MO_people_70 (by decide) ?_
    refine va_iast hx hb hK hP hD hS 3 0 rfl rfl (by unfold vp_in; decide) d_MO_people_71 (fun H_42 locs hP hD hS => ?_)
    have hP : va_P D vwCl [(y, .inr (7, [.int n, .int 0, .int 3, .int 5, .ref y1, .ref y2, .ref y3, .ref y4, .int 0, .ref y5, .ref y6, .ref y7, .ref y8, .ref y9, .ref y10, .ref y11, .ref y12, .ref y13, .ref y14, .ref y15, .int 0, .ref y16, .ref y17, .ref y18, .ref y19, .ref y20, .ref y21, .ref y22, .ref y23, .ref y24, .ref y25, .ref y26, .ref y27, .int 0, .int 0, .ref y28, .ref y29, .ref y30, .ref y31, .ref y32, .ref y33, .ref y34, .ref y35, .ref y36, .int 0, .ref y37, .ref y38, .int 0, .int 0, .int 0])), (y1, .inl (cZ, 7, .inl (upd (upd (upd (upd (upd (upd (upd (fun _ => 0) 0 0) 1 0) 2 0) 3 0) 4 0) 5 0) 6 0))), (y2, .inl (cI, 7, .inl (upd (upd (upd (upd (upd (upd (upd (fun _ => 0) 0 0) 1 0) 2 0) 3 0) 4 0) 5 0) 6 0))), (y3, .inl (cI, 7, .inl (upd (upd (upd (upd (upd (upd (upd (fun _ => 0) 0 0) 1 0) 2 0) 3 0) 4 0) 5 0) 6 0))), (y4, .inl (cI, 7, .inl (upd (upd (upd (upd (upd (upd (fun _ => 0) 0 0) 1 0) 2 0) 3 0) 4 0) 5 0)))] H_42 := hP
    have hD : va_D A [(y, .inr (7, [.int n, .int 0, .int 3, .int 5, .ref y1, .ref y2, .ref y3, .ref y4, .int 0, .ref y5, .ref y6, .ref y7, .ref y8, .ref y9, .ref y10, .ref y11, .ref y12, .ref y13, .ref y14, .ref y15, .int 0, .ref y16, .ref y17, .ref y18, .ref y19, .ref y20, .ref y21, .ref y22, .ref y23, .ref y24, .ref y25, .ref y26, .ref y27, .int 0, .int 0, .ref y28, .ref y29, .ref y30, .ref y31, .ref y32, .ref y33, .ref y34, .ref y35, .ref y36, .int 0, .ref y37, .ref y38, .int 0, .int 0, .int 0])), (y1, .inl (cZ, 7, .inl (upd (upd (upd (upd (upd (upd (upd (fun _ => 0) 0 0) 1 0) 2 0) 3 0) 4 0) 5 0) 6 0))), (y2, .inl (cI, 7, .inl (upd (upd (upd (upd (upd (upd (upd (fun _ => 0) 0 0) 1 0) 2 0) 3 0) 4 0) 5 0) 6 0))), (y3, .inl (cI, 7, .inl (upd (upd (upd (upd (upd (upd (upd (fun _ => 0) 0 0) 1 0) 2 0) 3 0) 4 0) 5 0) 6 0))), (y4, .inl (cI, 7, .inl (upd (upd (upd (upd (upd (upd (fun _ => 0) 0 0) 1 0) 2 0) 3 0) 4 0) 5 0)))] := hD
    refine lv_aload_n hx hb d_MO_people_72 rfl (lv_at hl 1 rfl) ?_
    refine va_get (D := D) (ci := 7) (v := .ref y4) (C := R_MO) (T := F_MO) (N := 50) hx hb hts i_MO hown hK hP 0 rfl rfl 7 (by decide) (hts _ q_639) (fun _ h9 => h9) rfl d_MO_people_73 ?_
    refine lv_iload_n hx hb d_MO_people_76 rfl (lv_at hl 0 rfl) ?_
    refine lv_iconst (v := 0) hx hb d_MO_people_77 (by decide) ?_
    refine va_iast hx hb hK hP hD hS 4 0 rfl rfl (by unfold vp_in; decide) d_MO_people_78 (fun H_43 locs hP hD hS => ?_)
    have hP : va_P D vwCl [(y, .inr (7, [.int n, .int 0, .int 3, .int 5, .ref y1, .ref y2, .ref y3, .ref y4, .int 0, .ref y5, .ref y6, .ref y7, .ref y8, .ref y9, .ref y10, .ref y11, .ref y12, .ref y13, .ref y14, .ref y15, .int 0, .ref y16, .ref y17, .ref y18, .ref y19, .ref y20, .ref y21, .ref y22, .ref y23, .ref y24, .ref y25, .ref y26, .ref y27, .int 0, .int 0, .ref y28, .ref y29, .ref y30, .ref y31, .ref y32, .ref y33, .ref y34, .ref y35, .ref y36, .int 0, .ref y37, .ref y38, .int 0, .int 0, .int 0])), (y1, .inl (cZ, 7, .inl (upd (upd (upd (upd (upd (upd (upd (fun _ => 0) 0 0) 1 0) 2 0) 3 0) 4 0) 5 0) 6 0))), (y2, .inl (cI, 7, .inl (upd (upd (upd (upd (upd (upd (upd (fun _ => 0) 0 0) 1 0) 2 0) 3 0) 4 0) 5 0) 6 0))), (y3, .inl (cI, 7, .inl (upd (upd (upd (upd (upd (upd (upd (fun _ => 0) 0 0) 1 0) 2 0) 3 0) 4 0) 5 0) 6 0))), (y4, .inl (cI, 7, .inl (upd (upd (upd (upd (upd (upd (upd (fun _ => 0) 0 0) 1 0) 2 0) 3 0) 4 0) 5 0) 6 0)))] H_43 := hP
    have hD : va_D A [(y, .inr (7, [.int n, .int 0, .int 3, .int 5, .ref y1, .ref y2, .ref y3, .ref y4, .int 0, .ref y5, .ref y6, .ref y7, .ref y8, .ref y9, .ref y10, .ref y11, .ref y12, .ref y13, .ref y14, .ref y15, .int 0, .ref y16, .ref y17, .ref y18, .ref y19, .ref y20, .ref y21, .ref y22, .ref y23, .ref y24, .ref y25, .ref y26, .ref y27, .int 0, .int 0, .ref y28, .ref y29, .ref y30, .ref y31, .ref y32, .ref y33, .ref y34, .ref y35, .ref y36, .int 0, .ref y37, .ref y38, .int 0, .int 0, .int 0])), (y1, .inl (cZ, 7, .inl (upd (upd (upd (upd (upd (upd (upd (fun _ => 0) 0 0) 1 0) 2 0) 3 0) 4 0) 5 0) 6 0))), (y2, .inl (cI, 7, .inl (upd (upd (upd (upd (upd (upd (upd (fun _ => 0) 0 0) 1 0) 2 0) 3 0) 4 0) 5 0) 6 0))), (y3, .inl (cI, 7, .inl (upd (upd (upd (upd (upd (upd (upd (fun _ => 0) 0 0) 1 0) 2 0) 3 0) 4 0) 5 0) 6 0))), (y4, .inl (cI, 7, .inl (upd (upd (upd (upd (upd (upd (upd (fun _ => 0) 0 0) 1 0) 2 0) 3 0) 4 0) 5 0) 6 0)))] := hD
    refine lv_iinc (v := 7) (lv' := [(2, .int 7), (0, .ref y), (1, .int n)]) hx hb d_MO_people_79 hl (k := 0) rfl (by decide) (by decide) rfl (fun ls hl => ?_)
    refine lv_goto (tgt := 45) hx hb d_MO_people_82 (by decide) ?_
    refine lv_iload_n hx hb d_MO_people_45 rfl (lv_at hl 0 rfl) ?_
    refine lv_bipush (v := 7) hx hb d_MO_people_46 (by decide) ?_
    refine lv_icmp_ge (tgt := 85) hx hb d_MO_people_48 (by decide) (fun _ => ?_) (fun h => absurd h (by decide))
    refine lv_iconst (v := 1) hx hb d_MO_people_85 (by decide) ?_
    have hP9 := hP.sub (ws' := []) [] rfl
    have hD9 := hD.sub (ws' := []) [] (by decide) rfl
    refine W.widen (k := 0) (n := 0) (Nat.le_of_ble_eq_true rfl) (Nat.le_of_ble_eq_true rfl) ?_
    exact W.iret (v := 1) hx hb hr (fun t ht hW => ⟨⟨1, (), rfl, (by first | decide | simp [sp_people, h_2]), by rw [ht]; exact hP9, hD9⟩, hS.F ht⟩) hS.2.2 d_MO_people_86
  · refine lv_bipush (v := (-2)) hx hb d_MO_people_10 (by decide) ?_
    have hP9 := hP.sub (ws' := []) [] rfl
    have hD9 := hD.sub (ws' := []) [] (by decide) rfl
    refine W.widen (k := 0) (n := 0) (Nat.le_of_ble_eq_true rfl) (Nat.le_of_ble_eq_true rfl) ?_
    exact W.iret (v := (-2)) hx hb hr (fun t ht hW => ⟨⟨(-2), (), rfl, (by first | decide | simp [sp_people, h_2]), by rw [ht]; exact hP9, hD9⟩, hS.F ht⟩) hS.2.2 d_MO_people_12

set_option maxHeartbeats 4000000 in
set_option maxRecDepth 100000 in
theorem f_MO_keepState (l : Launch) (D : va_G) (cI cZ : ClassId) (y : Nat) (y1 : Nat) (y2 : Nat) (y3 : Nat) (y4 : Nat) (np : Int32) (y5 : Nat) (y6 : Nat) (y7 : Nat) (y8 : Nat) (y9 : Nat) (y10 : Nat) (y11 : Nat) (y12 : Nat) (y13 : Nat) (y14 : Nat) (y15 : Nat) (y16 : Nat) (y17 : Nat) (y18 : Nat) (y19 : Nat) (y20 : Nat) (y21 : Nat) (y22 : Nat) (y23 : Nat) (y24 : Nat) (y25 : Nat) (y26 : Nat) (y27 : Nat) (y28 : Nat) (y29 : Nat) (y30 : Nat) (y31 : Nat) (y32 : Nat) (y33 : Nat) (y34 : Nat) (y35 : Nat) (y36 : Nat) (y37 : Nat) (y38 : Nat) (F1 : Nat → Int32) (F2 : Nat → Int32) (F3 : Nat → Int32) (sz : Nat)  : Met l ⟨"PromiseChainsModel", "keepState", "(I)V"⟩ (mw ⟨"PromiseChainsModel", "keepState", "(I)V"⟩ prog_9_method_8_code 3 none) ({ frames := 0, cells := 0, slots := 0, locals := 0 }) (va_Pc [.ref y, .int 0] (PB D cI cZ sz [(y, .inr (7, [.int 2, .int 0, .int 3, .int 5, .ref y1, .ref y2, .ref y3, .ref y4, .int np, .ref y5, .ref y6, .ref y7, .ref y8, .ref y9, .ref y10, .ref y11, .ref y12, .ref y13, .ref y14, .ref y15, .int 0, .ref y16, .ref y17, .ref y18, .ref y19, .ref y20, .ref y21, .ref y22, .ref y23, .ref y24, .ref y25, .ref y26, .ref y27, .int 0, .int 0, .ref y28, .ref y29, .ref y30, .ref y31, .ref y32, .ref y33, .ref y34, .ref y35, .ref y36, .int 0, .ref y37, .ref y38, .int 0, .int 0, .int 0])), (y6, .inl (cI, 24, .inl F1)), (y7, .inl (cI, 24, .inl F2)), (y12, .inl (cI, 1536, .inl F3)), (y13, .inl (cI, 12, .inl (upd (fun _ => 0) 0 0)))])) (va_Qv (S := Unit) (fun uU => True) (fun uU tT => BB D (va_A [(y, .inr (7, [.int 2, .int 0, .int 3, .int 5, .ref y1, .ref y2, .ref y3, .ref y4, .int np, .ref y5, .ref y6, .ref y7, .ref y8, .ref y9, .ref y10, .ref y11, .ref y12, .ref y13, .ref y14, .ref y15, .int 0, .ref y16, .ref y17, .ref y18, .ref y19, .ref y20, .ref y21, .ref y22, .ref y23, .ref y24, .ref y25, .ref y26, .ref y27, .int 0, .int 0, .ref y28, .ref y29, .ref y30, .ref y31, .ref y32, .ref y33, .ref y34, .ref y35, .ref y36, .int 0, .ref y37, .ref y38, .int 0, .int 0, .int 0])), (y6, .inl (cI, 24, .inl F1)), (y7, .inl (cI, 24, .inl F2)), (y12, .inl (cI, 1536, .inl F3)), (y13, .inl (cI, 12, .inl (upd (fun _ => 0) 0 0)))] sz) [(y, .inr (7, [.int 2, .int 0, .int 3, .int 5, .ref y1, .ref y2, .ref y3, .ref y4, .int np, .ref y5, .ref y6, .ref y7, .ref y8, .ref y9, .ref y10, .ref y11, .ref y12, .ref y13, .ref y14, .ref y15, .int 0, .ref y16, .ref y17, .ref y18, .ref y19, .ref y20, .ref y21, .ref y22, .ref y23, .ref y24, .ref y25, .ref y26, .ref y27, .int 0, .int 0, .ref y28, .ref y29, .ref y30, .ref y31, .ref y32, .ref y33, .ref y34, .ref y35, .ref y36, .int 0, .ref y37, .ref y38, .int 0, .int 0, .int 0])), (y6, .inl (cI, 24, .inl F1))] tT) (va_A [(y, .inr (7, [.int 2, .int 0, .int 3, .int 5, .ref y1, .ref y2, .ref y3, .ref y4, .int np, .ref y5, .ref y6, .ref y7, .ref y8, .ref y9, .ref y10, .ref y11, .ref y12, .ref y13, .ref y14, .ref y15, .int 0, .ref y16, .ref y17, .ref y18, .ref y19, .ref y20, .ref y21, .ref y22, .ref y23, .ref y24, .ref y25, .ref y26, .ref y27, .int 0, .int 0, .ref y28, .ref y29, .ref y30, .ref y31, .ref y32, .ref y33, .ref y34, .ref y35, .ref y36, .int 0, .ref y37, .ref y38, .int 0, .int 0, .int 0])), (y6, .inl (cI, 24, .inl F1)), (y7, .inl (cI, 24, .inl F2)), (y12, .inl (cI, 1536, .inl F3)), (y13, .inl (cI, 12, .inl (upd (fun _ => 0) 0 0)))] sz)) 0 0 (va_A [(y, .inr (7, [.int 2, .int 0, .int 3, .int 5, .ref y1, .ref y2, .ref y3, .ref y4, .int np, .ref y5, .ref y6, .ref y7, .ref y8, .ref y9, .ref y10, .ref y11, .ref y12, .ref y13, .ref y14, .ref y15, .int 0, .ref y16, .ref y17, .ref y18, .ref y19, .ref y20, .ref y21, .ref y22, .ref y23, .ref y24, .ref y25, .ref y26, .ref y27, .int 0, .int 0, .ref y28, .ref y29, .ref y30, .ref y31, .ref y32, .ref y33, .ref y34, .ref y35, .ref y36, .int 0, .ref y37, .ref y38, .int 0, .int 0, .int 0])), (y6, .inl (cI, 24, .inl F1)), (y7, .inl (cI, 24, .inl F2)), (y12, .inl (cI, 1536, .inl F3)), (y13, .inl (cI, 12, .inl (upd (fun _ => 0) 0 0)))] sz) := by
  refine Met.ofW (cc := prog_9_method_8_code) (maxL := 3) (ret := none) (by decide) rfl ?_
  intro p e s m args below meth c s₁ B hml hv
  obtain ⟨rfl, hsz, hP, hK, hD0, hN⟩ := hv
  have hx := B.exec
  have hb := B.bytes
  have hr := B.returns
  have hts0 := atoms_spec (ws := mw ⟨"PromiseChainsModel", "keepState", "(I)V"⟩ prog_9_method_8_code 3 none) B.pre
  have hts : ∀ w ∈ tblG, w.before _ s = true := fun w h => hts0 w (List.mem_cons_of_mem _ h)
  have hown : s.vm.findClass "PromiseChainsModel" = some m.cls := findClass_of_methodNamed B.named
  have hlocks := B.notSynchronized
  subst hsz
  have hD := hD0.self (sz := s.heap.size)
  generalize hAe : va_A [(y, .inr (7, [.int 2, .int 0, .int 3, .int 5, .ref y1, .ref y2, .ref y3, .ref y4, .int np, .ref y5, .ref y6, .ref y7, .ref y8, .ref y9, .ref y10, .ref y11, .ref y12, .ref y13, .ref y14, .ref y15, .int 0, .ref y16, .ref y17, .ref y18, .ref y19, .ref y20, .ref y21, .ref y22, .ref y23, .ref y24, .ref y25, .ref y26, .ref y27, .int 0, .int 0, .ref y28, .ref y29, .ref y30, .ref y31, .ref y32, .ref y33, .ref y34, .ref y35, .ref y36, .int 0, .ref y37, .ref y38, .int 0, .int 0, .int 0])), (y6, .inl (cI, 24, .inl F1)), (y7, .inl (cI, 24, .inl F2)), (y12, .inl (cI, 1536, .inl F3)), (y13, .inl (cI, 12, .inl (upd (fun _ => 0) 0 0)))] s.heap.size = A at hD ⊢
  have hA : ∀ q : Nat, s.heap.size ≤ q → A q := fun q h => by rw [← hAe]; exact Or.inr h
  have hS : va_S A s.heap s.heap [] := va_S.rf
  have hP : va_P D vwCl [(y, .inr (7, [.int 2, .int 0, .int 3, .int 5, .ref y1, .ref y2, .ref y3, .ref y4, .int np, .ref y5, .ref y6, .ref y7, .ref y8, .ref y9, .ref y10, .ref y11, .ref y12, .ref y13, .ref y14, .ref y15, .int 0, .ref y16, .ref y17, .ref y18, .ref y19, .ref y20, .ref y21, .ref y22, .ref y23, .ref y24, .ref y25, .ref y26, .ref y27, .int 0, .int 0, .ref y28, .ref y29, .ref y30, .ref y31, .ref y32, .ref y33, .ref y34, .ref y35, .ref y36, .int 0, .ref y37, .ref y38, .int 0, .int 0, .int 0])), (y6, .inl (cI, 24, .inl F1)), (y7, .inl (cI, 24, .inl F2)), (y12, .inl (cI, 1536, .inl F3)), (y13, .inl (cI, 12, .inl (upd (fun _ => 0) 0 0)))] s.heap := hP
  have hl := lv_entry ([.ref y, .int 0]) (n := 3) (Nat.le_of_ble_eq_true rfl)
  rw [lg_entry_eq]
  generalize (lg_sl ([.ref y, .int 0]) ++ List.replicate (3 - (lg_sl ([.ref y, .int 0])).length) Slot.unset).toArray = ls at hl ⊢
  have hl : lv_has ls 3 [(0, .ref y), (1, .int 0)] := hl
  refine lv_aload_n hx hb d_MO_keepState_0 rfl (lv_at hl 0 rfl) ?_
  refine va_get (D := D) (ci := 7) (v := .ref y13) (C := R_MO) (T := F_MO) (N := 50) hx hb hts i_MO hown hK hP 0 rfl rfl 17 (by decide) (hts _ q_649) (fun _ h9 => h9) rfl d_MO_keepState_1 ?_
  refine lv_iload_n hx hb d_MO_keepState_4 rfl (lv_at hl 1 rfl) ?_
  refine va_iald hx hb hK hP 4 0 rfl rfl (by unfold vp_in; decide) d_MO_keepState_5 ?_
  refine lv_seti (0) (rfl) ?_
  refine lv_bipush (v := 64) hx hb d_MO_keepState_6 (by decide) ?_
  refine lv_icmp_ge (tgt := 20) hx hb d_MO_keepState_8 (by decide) (fun h => absurd h (by decide)) (fun _ => ?_)
  refine lv_aload_n hx hb d_MO_keepState_11 rfl (lv_at hl 0 rfl) ?_
  refine va_get (D := D) (ci := 7) (v := .ref y13) (C := R_MO) (T := F_MO) (N := 50) hx hb hts i_MO hown hK hP 0 rfl rfl 17 (by decide) (hts _ q_649) (fun _ h9 => h9) rfl d_MO_keepState_12 ?_
  refine lv_iload_n hx hb d_MO_keepState_15 rfl (lv_at hl 1 rfl) ?_
  refine va_iald hx hb hK hP 4 0 rfl rfl (by unfold vp_in; decide) d_MO_keepState_16 ?_
  refine lv_seti (0) (rfl) ?_
  refine lv_goto (tgt := 22) hx hb d_MO_keepState_17 (by decide) ?_
  refine lv_istore_n (lv' := [(2, .int 0), (0, .ref y), (1, .int 0)]) hx hb d_MO_keepState_22 rfl hl (by decide) rfl (fun ls hl => ?_)
  refine lv_aload_n hx hb d_MO_keepState_23 rfl (lv_at hl 1 rfl) ?_
  refine va_get (D := D) (ci := 7) (v := .ref y12) (C := R_MO) (T := F_MO) (N := 50) hx hb hts i_MO hown hK hP 0 rfl rfl 16 (by decide) (hts _ q_648) (fun _ h9 => h9) rfl d_MO_keepState_24 ?_
  refine lv_sipush (v := 128) hx hb d_MO_keepState_27 (by decide) ?_
  refine lv_iload_n hx hb d_MO_keepState_30 rfl (lv_at hl 2 rfl) ?_
  refine lv_imul hx hb d_MO_keepState_31 ?_
  refine lv_seti (0) (by decide) ?_
  refine lv_iconst (v := 2) hx hb d_MO_keepState_32 (by decide) ?_
  refine lv_iload_n hx hb d_MO_keepState_33 rfl (lv_at hl 0 rfl) ?_
  refine lv_imul hx hb d_MO_keepState_34 ?_
  refine lv_seti (0) (by decide) ?_
  refine lv_iadd hx hb d_MO_keepState_35 ?_
  refine lv_seti (0) (by decide) ?_
  refine lv_aload_n hx hb d_MO_keepState_36 rfl (lv_at hl 1 rfl) ?_
  refine va_get (D := D) (ci := 7) (v := .ref y6) (C := R_MO) (T := F_MO) (N := 50) hx hb hts i_MO hown hK hP 0 rfl rfl 10 (by decide) (hts _ q_642) (fun _ h9 => h9) rfl d_MO_keepState_37 ?_
  refine lv_iconst (v := 2) hx hb d_MO_keepState_40 (by decide) ?_
  refine lv_iload_n hx hb d_MO_keepState_41 rfl (lv_at hl 2 rfl) ?_
  refine lv_imul hx hb d_MO_keepState_42 ?_
  refine lv_seti (0) (by decide) ?_
  refine va_iald hx hb hK hP 1 0 rfl rfl (by unfold vp_in; decide) d_MO_keepState_43 ?_
  refine lv_seti (F1 0) rfl ?_
  refine lv_aload_n hx hb d_MO_keepState_44 rfl (lv_at hl 1 rfl) ?_
  refine va_get (D := D) (ci := 7) (v := .ref y7) (C := R_MO) (T := F_MO) (N := 50) hx hb hts i_MO hown hK hP 0 rfl rfl 11 (by decide) (hts _ q_643) (fun _ h9 => h9) rfl d_MO_keepState_45 ?_
  refine lv_iconst (v := 2) hx hb d_MO_keepState_48 (by decide) ?_
  refine lv_iload_n hx hb d_MO_keepState_49 rfl (lv_at hl 2 rfl) ?_
  refine lv_imul hx hb d_MO_keepState_50 ?_
  refine lv_seti (0) (by decide) ?_
  refine va_iald hx hb hK hP 2 0 rfl rfl (by unfold vp_in; decide) d_MO_keepState_51 ?_
  refine lv_seti (F2 0) rfl ?_
  refine lv_iadd hx hb d_MO_keepState_52 ?_
  refine va_iast hx hb hK hP hD hS 3 0 rfl rfl (by unfold vp_in; decide) d_MO_keepState_53 (fun H_2 locs hP hD hS => ?_)
  have hP : va_P D vwCl [(y, .inr (7, [.int 2, .int 0, .int 3, .int 5, .ref y1, .ref y2, .ref y3, .ref y4, .int np, .ref y5, .ref y6, .ref y7, .ref y8, .ref y9, .ref y10, .ref y11, .ref y12, .ref y13, .ref y14, .ref y15, .int 0, .ref y16, .ref y17, .ref y18, .ref y19, .ref y20, .ref y21, .ref y22, .ref y23, .ref y24, .ref y25, .ref y26, .ref y27, .int 0, .int 0, .ref y28, .ref y29, .ref y30, .ref y31, .ref y32, .ref y33, .ref y34, .ref y35, .ref y36, .int 0, .ref y37, .ref y38, .int 0, .int 0, .int 0])), (y6, .inl (cI, 24, .inl F1)), (y7, .inl (cI, 24, .inl F2)), (y12, .inl (cI, 1536, .inl (upd F3 0 ((F1 0) + (F2 0))))), (y13, .inl (cI, 12, .inl (upd (fun _ => 0) 0 0)))] H_2 := hP
  have hD : va_D A [(y, .inr (7, [.int 2, .int 0, .int 3, .int 5, .ref y1, .ref y2, .ref y3, .ref y4, .int np, .ref y5, .ref y6, .ref y7, .ref y8, .ref y9, .ref y10, .ref y11, .ref y12, .ref y13, .ref y14, .ref y15, .int 0, .ref y16, .ref y17, .ref y18, .ref y19, .ref y20, .ref y21, .ref y22, .ref y23, .ref y24, .ref y25, .ref y26, .ref y27, .int 0, .int 0, .ref y28, .ref y29, .ref y30, .ref y31, .ref y32, .ref y33, .ref y34, .ref y35, .ref y36, .int 0, .ref y37, .ref y38, .int 0, .int 0, .int 0])), (y6, .inl (cI, 24, .inl F1)), (y7, .inl (cI, 24, .inl F2)), (y12, .inl (cI, 1536, .inl (upd F3 0 ((F1 0) + (F2 0))))), (y13, .inl (cI, 12, .inl (upd (fun _ => 0) 0 0)))] := hD
  refine lv_aload_n hx hb d_MO_keepState_54 rfl (lv_at hl 1 rfl) ?_
  refine va_get (D := D) (ci := 7) (v := .ref y12) (C := R_MO) (T := F_MO) (N := 50) hx hb hts i_MO hown hK hP 0 rfl rfl 16 (by decide) (hts _ q_648) (fun _ h9 => h9) rfl d_MO_keepState_55 ?_
  refine lv_sipush (v := 128) hx hb d_MO_keepState_58 (by decide) ?_
  refine lv_iload_n hx hb d_MO_keepState_61 rfl (lv_at hl 2 rfl) ?_
  refine lv_imul hx hb d_MO_keepState_62 ?_
  refine lv_seti (0) (by decide) ?_
  refine lv_iconst (v := 2) hx hb d_MO_keepState_63 (by decide) ?_
  refine lv_iload_n hx hb d_MO_keepState_64 rfl (lv_at hl 0 rfl) ?_
  refine lv_imul hx hb d_MO_keepState_65 ?_
  refine lv_seti (0) (by decide) ?_
  refine lv_iadd hx hb d_MO_keepState_66 ?_
  refine lv_seti (0) (by decide) ?_
  refine lv_iconst (v := 1) hx hb d_MO_keepState_67 (by decide) ?_
  refine lv_iadd hx hb d_MO_keepState_68 ?_
  refine lv_seti (1) (by decide) ?_
  refine lv_aload_n hx hb d_MO_keepState_69 rfl (lv_at hl 1 rfl) ?_
  refine va_get (D := D) (ci := 7) (v := .ref y6) (C := R_MO) (T := F_MO) (N := 50) hx hb hts i_MO hown hK hP 0 rfl rfl 10 (by decide) (hts _ q_642) (fun _ h9 => h9) rfl d_MO_keepState_70 ?_
  refine lv_iconst (v := 2) hx hb d_MO_keepState_73 (by decide) ?_
  refine lv_iload_n hx hb d_MO_keepState_74 rfl (lv_at hl 2 rfl) ?_
  refine lv_imul hx hb d_MO_keepState_75 ?_
  refine lv_seti (0) (by decide) ?_
  refine lv_iconst (v := 1) hx hb d_MO_keepState_76 (by decide) ?_
  refine lv_iadd hx hb d_MO_keepState_77 ?_
  refine lv_seti (1) (by decide) ?_
  refine va_iald hx hb hK hP 1 0 rfl rfl (by unfold vp_in; decide) d_MO_keepState_78 ?_
  refine lv_seti (F1 1) rfl ?_
  refine lv_aload_n hx hb d_MO_keepState_79 rfl (lv_at hl 1 rfl) ?_
  refine va_get (D := D) (ci := 7) (v := .ref y7) (C := R_MO) (T := F_MO) (N := 50) hx hb hts i_MO hown hK hP 0 rfl rfl 11 (by decide) (hts _ q_643) (fun _ h9 => h9) rfl d_MO_keepState_80 ?_
  refine lv_iconst (v := 2) hx hb d_MO_keepState_83 (by decide) ?_
  refine lv_iload_n hx hb d_MO_keepState_84 rfl (lv_at hl 2 rfl) ?_
  refine lv_imul hx hb d_MO_keepState_85 ?_
  refine lv_seti (0) (by decide) ?_
  refine lv_iconst (v := 1) hx hb d_MO_keepState_86 (by decide) ?_
  refine lv_iadd hx hb d_MO_keepState_87 ?_
  refine lv_seti (1) (by decide) ?_
  refine va_iald hx hb hK hP 2 0 rfl rfl (by unfold vp_in; decide) d_MO_keepState_88 ?_
  refine lv_seti (F2 1) rfl ?_
  refine lv_iadd hx hb d_MO_keepState_89 ?_
  refine va_iast hx hb hK hP hD hS 3 0 rfl rfl (by unfold vp_in; decide) d_MO_keepState_90 (fun H_3 locs hP hD hS => ?_)
  have hP : va_P D vwCl [(y, .inr (7, [.int 2, .int 0, .int 3, .int 5, .ref y1, .ref y2, .ref y3, .ref y4, .int np, .ref y5, .ref y6, .ref y7, .ref y8, .ref y9, .ref y10, .ref y11, .ref y12, .ref y13, .ref y14, .ref y15, .int 0, .ref y16, .ref y17, .ref y18, .ref y19, .ref y20, .ref y21, .ref y22, .ref y23, .ref y24, .ref y25, .ref y26, .ref y27, .int 0, .int 0, .ref y28, .ref y29, .ref y30, .ref y31, .ref y32, .ref y33, .ref y34, .ref y35, .ref y36, .int 0, .ref y37, .ref y38, .int 0, .int 0, .int 0])), (y6, .inl (cI, 24, .inl F1)), (y7, .inl (cI, 24, .inl F2)), (y12, .inl (cI, 1536, .inl (upd (upd F3 0 ((F1 0) + (F2 0))) 1 ((F1 1) + (F2 1))))), (y13, .inl (cI, 12, .inl (upd (fun _ => 0) 0 0)))] H_3 := hP
  have hD : va_D A [(y, .inr (7, [.int 2, .int 0, .int 3, .int 5, .ref y1, .ref y2, .ref y3, .ref y4, .int np, .ref y5, .ref y6, .ref y7, .ref y8, .ref y9, .ref y10, .ref y11, .ref y12, .ref y13, .ref y14, .ref y15, .int 0, .ref y16, .ref y17, .ref y18, .ref y19, .ref y20, .ref y21, .ref y22, .ref y23, .ref y24, .ref y25, .ref y26, .ref y27, .int 0, .int 0, .ref y28, .ref y29, .ref y30, .ref y31, .ref y32, .ref y33, .ref y34, .ref y35, .ref y36, .int 0, .ref y37, .ref y38, .int 0, .int 0, .int 0])), (y6, .inl (cI, 24, .inl F1)), (y7, .inl (cI, 24, .inl F2)), (y12, .inl (cI, 1536, .inl (upd (upd F3 0 ((F1 0) + (F2 0))) 1 ((F1 1) + (F2 1))))), (y13, .inl (cI, 12, .inl (upd (fun _ => 0) 0 0)))] := hD
  refine lv_aload_n hx hb d_MO_keepState_91 rfl (lv_at hl 1 rfl) ?_
  refine va_get (D := D) (ci := 7) (v := .ref y13) (C := R_MO) (T := F_MO) (N := 50) hx hb hts i_MO hown hK hP 0 rfl rfl 17 (by decide) (hts _ q_649) (fun _ h9 => h9) rfl d_MO_keepState_92 ?_
  refine lv_iload_n hx hb d_MO_keepState_95 rfl (lv_at hl 2 rfl) ?_
  refine lv_iload_n hx hb d_MO_keepState_96 rfl (lv_at hl 0 rfl) ?_
  refine lv_iconst (v := 1) hx hb d_MO_keepState_97 (by decide) ?_
  refine lv_iadd hx hb d_MO_keepState_98 ?_
  refine lv_seti (1) (by decide) ?_
  refine va_iast hx hb hK hP hD hS 4 0 rfl rfl (by unfold vp_in; decide) d_MO_keepState_99 (fun H_4 locs hP hD hS => ?_)
  have hP : va_P D vwCl [(y, .inr (7, [.int 2, .int 0, .int 3, .int 5, .ref y1, .ref y2, .ref y3, .ref y4, .int np, .ref y5, .ref y6, .ref y7, .ref y8, .ref y9, .ref y10, .ref y11, .ref y12, .ref y13, .ref y14, .ref y15, .int 0, .ref y16, .ref y17, .ref y18, .ref y19, .ref y20, .ref y21, .ref y22, .ref y23, .ref y24, .ref y25, .ref y26, .ref y27, .int 0, .int 0, .ref y28, .ref y29, .ref y30, .ref y31, .ref y32, .ref y33, .ref y34, .ref y35, .ref y36, .int 0, .ref y37, .ref y38, .int 0, .int 0, .int 0])), (y6, .inl (cI, 24, .inl F1)), (y7, .inl (cI, 24, .inl F2)), (y12, .inl (cI, 1536, .inl (upd (upd F3 0 ((F1 0) + (F2 0))) 1 ((F1 1) + (F2 1))))), (y13, .inl (cI, 12, .inl (upd (upd (fun _ => 0) 0 0) 0 1)))] H_4 := hP
  have hD : va_D A [(y, .inr (7, [.int 2, .int 0, .int 3, .int 5, .ref y1, .ref y2, .ref y3, .ref y4, .int np, .ref y5, .ref y6, .ref y7, .ref y8, .ref y9, .ref y10, .ref y11, .ref y12, .ref y13, .ref y14, .ref y15, .int 0, .ref y16, .ref y17, .ref y18, .ref y19, .ref y20, .ref y21, .ref y22, .ref y23, .ref y24, .ref y25, .ref y26, .ref y27, .int 0, .int 0, .ref y28, .ref y29, .ref y30, .ref y31, .ref y32, .ref y33, .ref y34, .ref y35, .ref y36, .int 0, .ref y37, .ref y38, .int 0, .int 0, .int 0])), (y6, .inl (cI, 24, .inl F1)), (y7, .inl (cI, 24, .inl F2)), (y12, .inl (cI, 1536, .inl (upd (upd F3 0 ((F1 0) + (F2 0))) 1 ((F1 1) + (F2 1))))), (y13, .inl (cI, 12, .inl (upd (upd (fun _ => 0) 0 0) 0 1)))] := hD
  have hP9 := hP.sub (ws' := [(y, .inr (7, [.int 2, .int 0, .int 3, .int 5, .ref y1, .ref y2, .ref y3, .ref y4, .int np, .ref y5, .ref y6, .ref y7, .ref y8, .ref y9, .ref y10, .ref y11, .ref y12, .ref y13, .ref y14, .ref y15, .int 0, .ref y16, .ref y17, .ref y18, .ref y19, .ref y20, .ref y21, .ref y22, .ref y23, .ref y24, .ref y25, .ref y26, .ref y27, .int 0, .int 0, .ref y28, .ref y29, .ref y30, .ref y31, .ref y32, .ref y33, .ref y34, .ref y35, .ref y36, .int 0, .ref y37, .ref y38, .int 0, .int 0, .int 0])), (y6, .inl (cI, 24, .inl F1))]) [0, 1] rfl
  have hD9 := hD.sub (ws' := [(y, .inr (7, [.int 2, .int 0, .int 3, .int 5, .ref y1, .ref y2, .ref y3, .ref y4, .int np, .ref y5, .ref y6, .ref y7, .ref y8, .ref y9, .ref y10, .ref y11, .ref y12, .ref y13, .ref y14, .ref y15, .int 0, .ref y16, .ref y17, .ref y18, .ref y19, .ref y20, .ref y21, .ref y22, .ref y23, .ref y24, .ref y25, .ref y26, .ref y27, .int 0, .int 0, .ref y28, .ref y29, .ref y30, .ref y31, .ref y32, .ref y33, .ref y34, .ref y35, .ref y36, .int 0, .ref y37, .ref y38, .int 0, .int 0, .int 0])), (y6, .inl (cI, 24, .inl F1))]) [0, 1] (by decide) rfl
  refine W.widen (k := 0) (n := 0) (Nat.le_of_ble_eq_true rfl) (Nat.le_of_ble_eq_true rfl) ?_
  exact W.vret hx hb hr (fun t ht hW => ⟨⟨(), rfl, trivial, by rw [ht]; exact hP9, hD9⟩, hS.F ht⟩) hS.2.2 d_MO_keepState_100

set_option maxHeartbeats 4000000 in
set_option maxRecDepth 100000 in
theorem f_MO_forget (l : Launch) (D : va_G) (cI cZ : ClassId) (y : Nat) (y1 : Nat) (y2 : Nat) (y3 : Nat) (y4 : Nat) (np : Int32) (y5 : Nat) (y6 : Nat) (y7 : Nat) (y8 : Nat) (y9 : Nat) (y10 : Nat) (y11 : Nat) (y12 : Nat) (y13 : Nat) (y14 : Nat) (y15 : Nat) (y16 : Nat) (y17 : Nat) (y18 : Nat) (y19 : Nat) (y20 : Nat) (y21 : Nat) (y22 : Nat) (y23 : Nat) (y24 : Nat) (y25 : Nat) (y26 : Nat) (y27 : Nat) (y28 : Nat) (y29 : Nat) (y30 : Nat) (y31 : Nat) (y32 : Nat) (y33 : Nat) (y34 : Nat) (y35 : Nat) (y36 : Nat) (y37 : Nat) (y38 : Nat) (F1 : Nat → Int32) (F2 : Nat → Int32) (F3 : Nat → Int32) (sz : Nat)  : Met l ⟨"PromiseChainsModel", "forget", "(I)V"⟩ (mw ⟨"PromiseChainsModel", "forget", "(I)V"⟩ prog_9_method_9_code 2 none) ({ frames := 0, cells := 0, slots := 0, locals := 0 }) (va_Pc [.ref y, .int 0] (PB D cI cZ sz [(y, .inr (7, [.int 2, .int 0, .int 3, .int 5, .ref y1, .ref y2, .ref y3, .ref y4, .int np, .ref y5, .ref y6, .ref y7, .ref y8, .ref y9, .ref y10, .ref y11, .ref y12, .ref y13, .ref y14, .ref y15, .int 0, .ref y16, .ref y17, .ref y18, .ref y19, .ref y20, .ref y21, .ref y22, .ref y23, .ref y24, .ref y25, .ref y26, .ref y27, .int 0, .int 0, .ref y28, .ref y29, .ref y30, .ref y31, .ref y32, .ref y33, .ref y34, .ref y35, .ref y36, .int 0, .ref y37, .ref y38, .int 0, .int 0, .int 0])), (y6, .inl (cI, 24, .inl F1)), (y14, .inl (cI, 12, .inl F2)), (y15, .inl (cI, 12, .inl F3))])) (va_Qv (S := Unit) (fun uU => True) (fun uU tT => BB D (va_A [(y, .inr (7, [.int 2, .int 0, .int 3, .int 5, .ref y1, .ref y2, .ref y3, .ref y4, .int np, .ref y5, .ref y6, .ref y7, .ref y8, .ref y9, .ref y10, .ref y11, .ref y12, .ref y13, .ref y14, .ref y15, .int 0, .ref y16, .ref y17, .ref y18, .ref y19, .ref y20, .ref y21, .ref y22, .ref y23, .ref y24, .ref y25, .ref y26, .ref y27, .int 0, .int 0, .ref y28, .ref y29, .ref y30, .ref y31, .ref y32, .ref y33, .ref y34, .ref y35, .ref y36, .int 0, .ref y37, .ref y38, .int 0, .int 0, .int 0])), (y6, .inl (cI, 24, .inl F1)), (y14, .inl (cI, 12, .inl F2)), (y15, .inl (cI, 12, .inl F3))] sz) [] tT) (va_A [(y, .inr (7, [.int 2, .int 0, .int 3, .int 5, .ref y1, .ref y2, .ref y3, .ref y4, .int np, .ref y5, .ref y6, .ref y7, .ref y8, .ref y9, .ref y10, .ref y11, .ref y12, .ref y13, .ref y14, .ref y15, .int 0, .ref y16, .ref y17, .ref y18, .ref y19, .ref y20, .ref y21, .ref y22, .ref y23, .ref y24, .ref y25, .ref y26, .ref y27, .int 0, .int 0, .ref y28, .ref y29, .ref y30, .ref y31, .ref y32, .ref y33, .ref y34, .ref y35, .ref y36, .int 0, .ref y37, .ref y38, .int 0, .int 0, .int 0])), (y6, .inl (cI, 24, .inl F1)), (y14, .inl (cI, 12, .inl F2)), (y15, .inl (cI, 12, .inl F3))] sz)) 0 0 (va_A [(y, .inr (7, [.int 2, .int 0, .int 3, .int 5, .ref y1, .ref y2, .ref y3, .ref y4, .int np, .ref y5, .ref y6, .ref y7, .ref y8, .ref y9, .ref y10, .ref y11, .ref y12, .ref y13, .ref y14, .ref y15, .int 0, .ref y16, .ref y17, .ref y18, .ref y19, .ref y20, .ref y21, .ref y22, .ref y23, .ref y24, .ref y25, .ref y26, .ref y27, .int 0, .int 0, .ref y28, .ref y29, .ref y30, .ref y31, .ref y32, .ref y33, .ref y34, .ref y35, .ref y36, .int 0, .ref y37, .ref y38, .int 0, .int 0, .int 0])), (y6, .inl (cI, 24, .inl F1)), (y14, .inl (cI, 12, .inl F2)), (y15, .inl (cI, 12, .inl F3))] sz) := by
  refine Met.ofW (cc := prog_9_method_9_code) (maxL := 2) (ret := none) (by decide) rfl ?_
  intro p e s m args below meth c s₁ B hml hv
  obtain ⟨rfl, hsz, hP, hK, hD0, hN⟩ := hv
  have hx := B.exec
  have hb := B.bytes
  have hr := B.returns
  have hts0 := atoms_spec (ws := mw ⟨"PromiseChainsModel", "forget", "(I)V"⟩ prog_9_method_9_code 2 none) B.pre
  have hts : ∀ w ∈ tblG, w.before _ s = true := fun w h => hts0 w (List.mem_cons_of_mem _ h)
  have hown : s.vm.findClass "PromiseChainsModel" = some m.cls := findClass_of_methodNamed B.named
  have hlocks := B.notSynchronized
  subst hsz
  have hD := hD0.self (sz := s.heap.size)
  generalize hAe : va_A [(y, .inr (7, [.int 2, .int 0, .int 3, .int 5, .ref y1, .ref y2, .ref y3, .ref y4, .int np, .ref y5, .ref y6, .ref y7, .ref y8, .ref y9, .ref y10, .ref y11, .ref y12, .ref y13, .ref y14, .ref y15, .int 0, .ref y16, .ref y17, .ref y18, .ref y19, .ref y20, .ref y21, .ref y22, .ref y23, .ref y24, .ref y25, .ref y26, .ref y27, .int 0, .int 0, .ref y28, .ref y29, .ref y30, .ref y31, .ref y32, .ref y33, .ref y34, .ref y35, .ref y36, .int 0, .ref y37, .ref y38, .int 0, .int 0, .int 0])), (y6, .inl (cI, 24, .inl F1)), (y14, .inl (cI, 12, .inl F2)), (y15, .inl (cI, 12, .inl F3))] s.heap.size = A at hD ⊢
  have hA : ∀ q : Nat, s.heap.size ≤ q → A q := fun q h => by rw [← hAe]; exact Or.inr h
  have hS : va_S A s.heap s.heap [] := va_S.rf
  have hP : va_P D vwCl [(y, .inr (7, [.int 2, .int 0, .int 3, .int 5, .ref y1, .ref y2, .ref y3, .ref y4, .int np, .ref y5, .ref y6, .ref y7, .ref y8, .ref y9, .ref y10, .ref y11, .ref y12, .ref y13, .ref y14, .ref y15, .int 0, .ref y16, .ref y17, .ref y18, .ref y19, .ref y20, .ref y21, .ref y22, .ref y23, .ref y24, .ref y25, .ref y26, .ref y27, .int 0, .int 0, .ref y28, .ref y29, .ref y30, .ref y31, .ref y32, .ref y33, .ref y34, .ref y35, .ref y36, .int 0, .ref y37, .ref y38, .int 0, .int 0, .int 0])), (y6, .inl (cI, 24, .inl F1)), (y14, .inl (cI, 12, .inl F2)), (y15, .inl (cI, 12, .inl F3))] s.heap := hP
  have hl := lv_entry ([.ref y, .int 0]) (n := 2) (Nat.le_of_ble_eq_true rfl)
  rw [lg_entry_eq]
  generalize (lg_sl ([.ref y, .int 0]) ++ List.replicate (2 - (lg_sl ([.ref y, .int 0])).length) Slot.unset).toArray = ls at hl ⊢
  have hl : lv_has ls 2 [(0, .ref y), (1, .int 0)] := hl
  refine lv_aload_n hx hb d_MO_forget_0 rfl (lv_at hl 0 rfl) ?_
  refine va_get (D := D) (ci := 7) (v := .ref y14) (C := R_MO) (T := F_MO) (N := 50) hx hb hts i_MO hown hK hP 0 rfl rfl 18 (by decide) (hts _ q_650) (fun _ h9 => h9) rfl d_MO_forget_1 ?_
  refine lv_iload_n hx hb d_MO_forget_4 rfl (lv_at hl 1 rfl) ?_
  refine lv_iconst (v := 0) hx hb d_MO_forget_5 (by decide) ?_
  refine va_iast hx hb hK hP hD hS 2 0 rfl rfl (by unfold vp_in; decide) d_MO_forget_6 (fun H_1 locs hP hD hS => ?_)
  have hP : va_P D vwCl [(y, .inr (7, [.int 2, .int 0, .int 3, .int 5, .ref y1, .ref y2, .ref y3, .ref y4, .int np, .ref y5, .ref y6, .ref y7, .ref y8, .ref y9, .ref y10, .ref y11, .ref y12, .ref y13, .ref y14, .ref y15, .int 0, .ref y16, .ref y17, .ref y18, .ref y19, .ref y20, .ref y21, .ref y22, .ref y23, .ref y24, .ref y25, .ref y26, .ref y27, .int 0, .int 0, .ref y28, .ref y29, .ref y30, .ref y31, .ref y32, .ref y33, .ref y34, .ref y35, .ref y36, .int 0, .ref y37, .ref y38, .int 0, .int 0, .int 0])), (y6, .inl (cI, 24, .inl F1)), (y14, .inl (cI, 12, .inl (upd F2 0 0))), (y15, .inl (cI, 12, .inl F3))] H_1 := hP
  have hD : va_D A [(y, .inr (7, [.int 2, .int 0, .int 3, .int 5, .ref y1, .ref y2, .ref y3, .ref y4, .int np, .ref y5, .ref y6, .ref y7, .ref y8, .ref y9, .ref y10, .ref y11, .ref y12, .ref y13, .ref y14, .ref y15, .int 0, .ref y16, .ref y17, .ref y18, .ref y19, .ref y20, .ref y21, .ref y22, .ref y23, .ref y24, .ref y25, .ref y26, .ref y27, .int 0, .int 0, .ref y28, .ref y29, .ref y30, .ref y31, .ref y32, .ref y33, .ref y34, .ref y35, .ref y36, .int 0, .ref y37, .ref y38, .int 0, .int 0, .int 0])), (y6, .inl (cI, 24, .inl F1)), (y14, .inl (cI, 12, .inl (upd F2 0 0))), (y15, .inl (cI, 12, .inl F3))] := hD
  refine lv_aload_n hx hb d_MO_forget_7 rfl (lv_at hl 0 rfl) ?_
  refine va_get (D := D) (ci := 7) (v := .ref y15) (C := R_MO) (T := F_MO) (N := 50) hx hb hts i_MO hown hK hP 0 rfl rfl 19 (by decide) (hts _ q_651) (fun _ h9 => h9) rfl d_MO_forget_8 ?_
  refine lv_iload_n hx hb d_MO_forget_11 rfl (lv_at hl 1 rfl) ?_
  refine lv_aload_n hx hb d_MO_forget_12 rfl (lv_at hl 0 rfl) ?_
  refine va_get (D := D) (ci := 7) (v := .ref y6) (C := R_MO) (T := F_MO) (N := 50) hx hb hts i_MO hown hK hP 0 rfl rfl 10 (by decide) (hts _ q_642) (fun _ h9 => h9) rfl d_MO_forget_13 ?_
  refine lv_iconst (v := 2) hx hb d_MO_forget_16 (by decide) ?_
  refine lv_iload_n hx hb d_MO_forget_17 rfl (lv_at hl 1 rfl) ?_
  refine lv_imul hx hb d_MO_forget_18 ?_
  refine lv_seti (0) (by decide) ?_
  refine va_iald hx hb hK hP 1 0 rfl rfl (by unfold vp_in; decide) d_MO_forget_19 ?_
  refine lv_seti (F1 0) rfl ?_
  refine lv_aload_n hx hb d_MO_forget_20 rfl (lv_at hl 0 rfl) ?_
  refine va_get (D := D) (ci := 7) (v := .ref y6) (C := R_MO) (T := F_MO) (N := 50) hx hb hts i_MO hown hK hP 0 rfl rfl 10 (by decide) (hts _ q_642) (fun _ h9 => h9) rfl d_MO_forget_21 ?_
  refine lv_iconst (v := 2) hx hb d_MO_forget_24 (by decide) ?_
  refine lv_iload_n hx hb d_MO_forget_25 rfl (lv_at hl 1 rfl) ?_
  refine lv_imul hx hb d_MO_forget_26 ?_
  refine lv_seti (0) (by decide) ?_
  refine lv_iconst (v := 1) hx hb d_MO_forget_27 (by decide) ?_
  refine lv_iadd hx hb d_MO_forget_28 ?_
  refine lv_seti (1) (by decide) ?_
  refine va_iald hx hb hK hP 1 0 rfl rfl (by unfold vp_in; decide) d_MO_forget_29 ?_
  refine lv_seti (F1 1) rfl ?_
  refine lv_iadd hx hb d_MO_forget_30 ?_
  refine va_iast hx hb hK hP hD hS 3 0 rfl rfl (by unfold vp_in; decide) d_MO_forget_31 (fun H_2 locs hP hD hS => ?_)
  have hP : va_P D vwCl [(y, .inr (7, [.int 2, .int 0, .int 3, .int 5, .ref y1, .ref y2, .ref y3, .ref y4, .int np, .ref y5, .ref y6, .ref y7, .ref y8, .ref y9, .ref y10, .ref y11, .ref y12, .ref y13, .ref y14, .ref y15, .int 0, .ref y16, .ref y17, .ref y18, .ref y19, .ref y20, .ref y21, .ref y22, .ref y23, .ref y24, .ref y25, .ref y26, .ref y27, .int 0, .int 0, .ref y28, .ref y29, .ref y30, .ref y31, .ref y32, .ref y33, .ref y34, .ref y35, .ref y36, .int 0, .ref y37, .ref y38, .int 0, .int 0, .int 0])), (y6, .inl (cI, 24, .inl F1)), (y14, .inl (cI, 12, .inl (upd F2 0 0))), (y15, .inl (cI, 12, .inl (upd F3 0 ((F1 0) + (F1 1)))))] H_2 := hP
  have hD : va_D A [(y, .inr (7, [.int 2, .int 0, .int 3, .int 5, .ref y1, .ref y2, .ref y3, .ref y4, .int np, .ref y5, .ref y6, .ref y7, .ref y8, .ref y9, .ref y10, .ref y11, .ref y12, .ref y13, .ref y14, .ref y15, .int 0, .ref y16, .ref y17, .ref y18, .ref y19, .ref y20, .ref y21, .ref y22, .ref y23, .ref y24, .ref y25, .ref y26, .ref y27, .int 0, .int 0, .ref y28, .ref y29, .ref y30, .ref y31, .ref y32, .ref y33, .ref y34, .ref y35, .ref y36, .int 0, .ref y37, .ref y38, .int 0, .int 0, .int 0])), (y6, .inl (cI, 24, .inl F1)), (y14, .inl (cI, 12, .inl (upd F2 0 0))), (y15, .inl (cI, 12, .inl (upd F3 0 ((F1 0) + (F1 1)))))] := hD
  have hP9 := hP.sub (ws' := []) [] rfl
  have hD9 := hD.sub (ws' := []) [] (by decide) rfl
  refine W.widen (k := 0) (n := 0) (Nat.le_of_ble_eq_true rfl) (Nat.le_of_ble_eq_true rfl) ?_
  exact W.vret hx hb hr (fun t ht hW => ⟨⟨(), rfl, trivial, by rw [ht]; exact hP9, hD9⟩, hS.F ht⟩) hS.2.2 d_MO_forget_32

set_option maxHeartbeats 4000000 in
set_option maxRecDepth 100000 in
theorem f_MO_pair (l : Launch) (D : va_G) (cI cZ : ClassId) (y : Nat) (i : Int32) (j : Int32) (u : Int32) (v : Int32) (y1 : Nat) (y2 : Nat) (y3 : Nat) (y4 : Nat) (y5 : Nat) (y6 : Nat) (y7 : Nat) (y8 : Nat) (y9 : Nat) (y10 : Nat) (y11 : Nat) (y12 : Nat) (y13 : Nat) (y14 : Nat) (y15 : Nat) (y16 : Nat) (y17 : Nat) (y18 : Nat) (y19 : Nat) (y20 : Nat) (y21 : Nat) (y22 : Nat) (y23 : Nat) (y24 : Nat) (y25 : Nat) (y26 : Nat) (y27 : Nat) (y28 : Nat) (y29 : Nat) (y30 : Nat) (y31 : Nat) (y32 : Nat) (y33 : Nat) (y34 : Nat) (y35 : Nat) (y36 : Nat) (y37 : Nat) (y38 : Nat) (sz : Nat)  : Met l ⟨"PromiseChainsModel", "pair", "(IIII)I"⟩ (mw ⟨"PromiseChainsModel", "pair", "(IIII)I"⟩ prog_9_method_7_code 6 (some .int)) ({ frames := 2, cells := 0, slots := 0, locals := 43 }) (va_Pc [.ref y, .int i, .int j, .int u, .int v] (PB D cI cZ sz [(y, .inr (7, [.int 2, .int 0, .int 3, .int 5, .ref y1, .ref y2, .ref y3, .ref y4, .int 0, .ref y5, .ref y6, .ref y7, .ref y8, .ref y9, .ref y10, .ref y11, .ref y12, .ref y13, .ref y14, .ref y15, .int 0, .ref y16, .ref y17, .ref y18, .ref y19, .ref y20, .ref y21, .ref y22, .ref y23, .ref y24, .ref y25, .ref y26, .ref y27, .int 0, .int 0, .ref y28, .ref y29, .ref y30, .ref y31, .ref y32, .ref y33, .ref y34, .ref y35, .ref y36, .int 0, .ref y37, .ref y38, .int 0, .int 0, .int 0])), (y5, .inl (cI, 24, .inl (fun _ => 0))), (y6, .inl (cI, 24, .inl (fun _ => 0))), (y7, .inl (cI, 24, .inl (fun _ => 0))), (y8, .inl (cI, 12, .inl (fun _ => 0))), (y9, .inl (cI, 12, .inl (fun _ => 0))), (y13, .inl (cI, 12, .inl (fun _ => 0))), (y12, .inl (cI, 1536, .inl (fun _ => 0))), (y14, .inl (cI, 12, .inl (fun _ => 0))), (y15, .inl (cI, 12, .inl (fun _ => 0)))])) (va_Qi (S := Unit) (fun (r : Int32) uU => r = sp_pair i j u v) (fun uU tT => BB D (va_A [(y, .inr (7, [.int 2, .int 0, .int 3, .int 5, .ref y1, .ref y2, .ref y3, .ref y4, .int 0, .ref y5, .ref y6, .ref y7, .ref y8, .ref y9, .ref y10, .ref y11, .ref y12, .ref y13, .ref y14, .ref y15, .int 0, .ref y16, .ref y17, .ref y18, .ref y19, .ref y20, .ref y21, .ref y22, .ref y23, .ref y24, .ref y25, .ref y26, .ref y27, .int 0, .int 0, .ref y28, .ref y29, .ref y30, .ref y31, .ref y32, .ref y33, .ref y34, .ref y35, .ref y36, .int 0, .ref y37, .ref y38, .int 0, .int 0, .int 0])), (y5, .inl (cI, 24, .inl (fun _ => 0))), (y6, .inl (cI, 24, .inl (fun _ => 0))), (y7, .inl (cI, 24, .inl (fun _ => 0))), (y8, .inl (cI, 12, .inl (fun _ => 0))), (y9, .inl (cI, 12, .inl (fun _ => 0))), (y13, .inl (cI, 12, .inl (fun _ => 0))), (y12, .inl (cI, 1536, .inl (fun _ => 0))), (y14, .inl (cI, 12, .inl (fun _ => 0))), (y15, .inl (cI, 12, .inl (fun _ => 0)))] sz) [] tT) (va_A [(y, .inr (7, [.int 2, .int 0, .int 3, .int 5, .ref y1, .ref y2, .ref y3, .ref y4, .int 0, .ref y5, .ref y6, .ref y7, .ref y8, .ref y9, .ref y10, .ref y11, .ref y12, .ref y13, .ref y14, .ref y15, .int 0, .ref y16, .ref y17, .ref y18, .ref y19, .ref y20, .ref y21, .ref y22, .ref y23, .ref y24, .ref y25, .ref y26, .ref y27, .int 0, .int 0, .ref y28, .ref y29, .ref y30, .ref y31, .ref y32, .ref y33, .ref y34, .ref y35, .ref y36, .int 0, .ref y37, .ref y38, .int 0, .int 0, .int 0])), (y5, .inl (cI, 24, .inl (fun _ => 0))), (y6, .inl (cI, 24, .inl (fun _ => 0))), (y7, .inl (cI, 24, .inl (fun _ => 0))), (y8, .inl (cI, 12, .inl (fun _ => 0))), (y9, .inl (cI, 12, .inl (fun _ => 0))), (y13, .inl (cI, 12, .inl (fun _ => 0))), (y12, .inl (cI, 1536, .inl (fun _ => 0))), (y14, .inl (cI, 12, .inl (fun _ => 0))), (y15, .inl (cI, 12, .inl (fun _ => 0)))] sz)) 0 0 (va_A [(y, .inr (7, [.int 2, .int 0, .int 3, .int 5, .ref y1, .ref y2, .ref y3, .ref y4, .int 0, .ref y5, .ref y6, .ref y7, .ref y8, .ref y9, .ref y10, .ref y11, .ref y12, .ref y13, .ref y14, .ref y15, .int 0, .ref y16, .ref y17, .ref y18, .ref y19, .ref y20, .ref y21, .ref y22, .ref y23, .ref y24, .ref y25, .ref y26, .ref y27, .int 0, .int 0, .ref y28, .ref y29, .ref y30, .ref y31, .ref y32, .ref y33, .ref y34, .ref y35, .ref y36, .int 0, .ref y37, .ref y38, .int 0, .int 0, .int 0])), (y5, .inl (cI, 24, .inl (fun _ => 0))), (y6, .inl (cI, 24, .inl (fun _ => 0))), (y7, .inl (cI, 24, .inl (fun _ => 0))), (y8, .inl (cI, 12, .inl (fun _ => 0))), (y9, .inl (cI, 12, .inl (fun _ => 0))), (y13, .inl (cI, 12, .inl (fun _ => 0))), (y12, .inl (cI, 1536, .inl (fun _ => 0))), (y14, .inl (cI, 12, .inl (fun _ => 0))), (y15, .inl (cI, 12, .inl (fun _ => 0)))] sz) := by
  refine Met.ofW (cc := prog_9_method_7_code) (maxL := 6) (ret := (some .int)) (by decide) rfl ?_
  intro p e s m args below meth c s₁ B hml hv
  obtain ⟨rfl, hsz, hP, hK, hD0, hN⟩ := hv
  have hx := B.exec
  have hb := B.bytes
  have hr := B.returns
  have hts0 := atoms_spec (ws := mw ⟨"PromiseChainsModel", "pair", "(IIII)I"⟩ prog_9_method_7_code 6 (some .int)) B.pre
  have hts : ∀ w ∈ tblG, w.before _ s = true := fun w h => hts0 w (List.mem_cons_of_mem _ h)
  have hown : s.vm.findClass "PromiseChainsModel" = some m.cls := findClass_of_methodNamed B.named
  have hlocks := B.notSynchronized
  subst hsz
  have hD := hD0.self (sz := s.heap.size)
  generalize hAe : va_A [(y, .inr (7, [.int 2, .int 0, .int 3, .int 5, .ref y1, .ref y2, .ref y3, .ref y4, .int 0, .ref y5, .ref y6, .ref y7, .ref y8, .ref y9, .ref y10, .ref y11, .ref y12, .ref y13, .ref y14, .ref y15, .int 0, .ref y16, .ref y17, .ref y18, .ref y19, .ref y20, .ref y21, .ref y22, .ref y23, .ref y24, .ref y25, .ref y26, .ref y27, .int 0, .int 0, .ref y28, .ref y29, .ref y30, .ref y31, .ref y32, .ref y33, .ref y34, .ref y35, .ref y36, .int 0, .ref y37, .ref y38, .int 0, .int 0, .int 0])), (y5, .inl (cI, 24, .inl (fun _ => 0))), (y6, .inl (cI, 24, .inl (fun _ => 0))), (y7, .inl (cI, 24, .inl (fun _ => 0))), (y8, .inl (cI, 12, .inl (fun _ => 0))), (y9, .inl (cI, 12, .inl (fun _ => 0))), (y13, .inl (cI, 12, .inl (fun _ => 0))), (y12, .inl (cI, 1536, .inl (fun _ => 0))), (y14, .inl (cI, 12, .inl (fun _ => 0))), (y15, .inl (cI, 12, .inl (fun _ => 0)))] s.heap.size = A at hD ⊢
  have hA : ∀ q : Nat, s.heap.size ≤ q → A q := fun q h => by rw [← hAe]; exact Or.inr h
  have hS : va_S A s.heap s.heap [] := va_S.rf
  have hP : va_P D vwCl [(y, .inr (7, [.int 2, .int 0, .int 3, .int 5, .ref y1, .ref y2, .ref y3, .ref y4, .int 0, .ref y5, .ref y6, .ref y7, .ref y8, .ref y9, .ref y10, .ref y11, .ref y12, .ref y13, .ref y14, .ref y15, .int 0, .ref y16, .ref y17, .ref y18, .ref y19, .ref y20, .ref y21, .ref y22, .ref y23, .ref y24, .ref y25, .ref y26, .ref y27, .int 0, .int 0, .ref y28, .ref y29, .ref y30, .ref y31, .ref y32, .ref y33, .ref y34, .ref y35, .ref y36, .int 0, .ref y37, .ref y38, .int 0, .int 0, .int 0])), (y5, .inl (cI, 24, .inl (fun _ => 0))), (y6, .inl (cI, 24, .inl (fun _ => 0))), (y7, .inl (cI, 24, .inl (fun _ => 0))), (y8, .inl (cI, 12, .inl (fun _ => 0))), (y9, .inl (cI, 12, .inl (fun _ => 0))), (y13, .inl (cI, 12, .inl (fun _ => 0))), (y12, .inl (cI, 1536, .inl (fun _ => 0))), (y14, .inl (cI, 12, .inl (fun _ => 0))), (y15, .inl (cI, 12, .inl (fun _ => 0)))] s.heap := hP
  have hl := lv_entry ([.ref y, .int i, .int j, .int u, .int v]) (n := 6) (Nat.le_of_ble_eq_true rfl)
  rw [lg_entry_eq]
  generalize (lg_sl ([.ref y, .int i, .int j, .int u, .int v]) ++ List.replicate (6 - (lg_sl ([.ref y, .int i, .int j, .int u, .int v])).length) Slot.unset).toArray = ls at hl ⊢
  have hl : lv_has ls 6 [(0, .ref y), (1, .int i), (2, .int j), (3, .int u), (4, .int v)] := hl
  refine lv_aload_n hx hb d_MO_pair_0 rfl (lv_at hl 0 rfl) ?_
  refine lv_iload_n hx hb d_MO_pair_1 rfl (lv_at hl 1 rfl) ?_
  have hPc := hP.sub (ws' := [(y, .inr (7, [.int 2, .int 0, .int 3, .int 5, .ref y1, .ref y2, .ref y3, .ref y4, .int 0, .ref y5, .ref y6, .ref y7, .ref y8, .ref y9, .ref y10, .ref y11, .ref y12, .ref y13, .ref y14, .ref y15, .int 0, .ref y16, .ref y17, .ref y18, .ref y19, .ref y20, .ref y21, .ref y22, .ref y23, .ref y24, .ref y25, .ref y26, .ref y27, .int 0, .int 0, .ref y28, .ref y29, .ref y30, .ref y31, .ref y32, .ref y33, .ref y34, .ref y35, .ref y36, .int 0, .ref y37, .ref y38, .int 0, .int 0, .int 0]))]) [0] rfl
  have hDc := hD.sub (ws' := [(y, .inr (7, [.int 2, .int 0, .int 3, .int 5, .ref y1, .ref y2, .ref y3, .ref y4, .int 0, .ref y5, .ref y6, .ref y7, .ref y8, .ref y9, .ref y10, .ref y11, .ref y12, .ref y13, .ref y14, .ref y15, .int 0, .ref y16, .ref y17, .ref y18, .ref y19, .ref y20, .ref y21, .ref y22, .ref y23, .ref y24, .ref y25, .ref y26, .ref y27, .int 0, .int 0, .ref y28, .ref y29, .ref y30, .ref y31, .ref y32, .ref y33, .ref y34, .ref y35, .ref y36, .int 0, .ref y37, .ref y38, .int 0, .int 0, .int 0]))]) [0] (by decide) rfl
  refine vp_callSi (va_Run.run (va_runV (As := [.int i]) (rest := []) ⟨hx, hb, hml, hown, hts⟩ (f_MO_isPerson l D cI cZ y i y1 y2 y3 y4 y5 y6 y7 y8 y9 y10 y11 y12 y13 y14 y15 y16 y17 y18 y19 y20 y21 y22 y23 y24 y25 y26 y27 y28 y29 y30 y31 y32 y33 y34 y35 y36 y37 y38 s.heap.size ) (my_cwV 1 hts q_797 q_794 q_796 q_p5 q_8 rfl rfl (by decide +kernel) ⟨Nat.le_of_ble_eq_true rfl, Nat.le_of_ble_eq_true rfl⟩) (my_preV hPc hDc hK hN 7 0 rfl rfl) rfl rfl hl.1 rfl (lv_room (Nat.le_of_ble_eq_true rfl)) d_MO_pair_2 ⟨Nat.le_of_ble_eq_true rfl, Nat.le_of_ble_eq_true rfl⟩)) (fun r_1 hw_1 => ?_)
  have hw_1 : r_1 = isw i 0 1 := hw_1
  subst hw_1
  refine lv_if_eq (tgt := 42) hx hb d_MO_pair_5 (by decide) (fun h_2 => ?_) (fun h_2 => ?_)
  · refine lv_bipush (v := (-2)) hx hb d_MO_pair_42 (by decide) ?_
    have hP9 := hP.sub (ws' := []) [] rfl
    have hD9 := hD.sub (ws' := []) [] (by decide) rfl
    refine W.widen (k := 0) (n := 0) (Nat.le_of_ble_eq_true rfl) (Nat.le_of_ble_eq_true rfl) ?_
    exact W.iret (v := (-2)) hx hb hr (fun t ht hW => ⟨⟨(-2), (), rfl, (by first | decide | simp [sp_pair, h_2]), by rw [ht]; exact hP9, hD9⟩, hS.F ht⟩) hS.2.2 d_MO_pair_44
  · refine lv_aload_n hx hb d_MO_pair_8 rfl (lv_at hl 0 rfl) ?_
    refine lv_iload_n hx hb d_MO_pair_9 rfl (lv_at hl 2 rfl) ?_
    have hPc := hP.sub (ws' := [(y, .inr (7, [.int 2, .int 0, .int 3, .int 5, .ref y1, .ref y2, .ref y3, .ref y4, .int 0, .ref y5, .ref y6, .ref y7, .ref y8, .ref y9, .ref y10, .ref y11, .ref y12, .ref y13, .ref y14, .ref y15, .int 0, .ref y16, .ref y17, .ref y18, .ref y19, .ref y20, .ref y21, .ref y22, .ref y23, .ref y24, .ref y25, .ref y26, .ref y27, .int 0, .int 0, .ref y28, .ref y29, .ref y30, .ref y31, .ref y32, .ref y33, .ref y34, .ref y35, .ref y36, .int 0, .ref y37, .ref y38, .int 0, .int 0, .int 0]))]) [0] rfl
    have hDc := hD.sub (ws' := [(y, .inr (7, [.int 2, .int 0, .int 3, .int 5, .ref y1, .ref y2, .ref y3, .ref y4, .int 0, .ref y5, .ref y6, .ref y7, .ref y8, .ref y9, .ref y10, .ref y11, .ref y12, .ref y13, .ref y14, .ref y15, .int 0, .ref y16, .ref y17, .ref y18, .ref y19, .ref y20, .ref y21, .ref y22, .ref y23, .ref y24, .ref y25, .ref y26, .ref y27, .int 0, .int 0, .ref y28, .ref y29, .ref y30, .ref y31, .ref y32, .ref y33, .ref y34, .ref y35, .ref y36, .int 0, .ref y37, .ref y38, .int 0, .int 0, .int 0]))]) [0] (by decide) rfl
    refine vp_callSi (va_Run.run (va_runV (As := [.int j]) (rest := []) ⟨hx, hb, hml, hown, hts⟩ (f_MO_isPerson l D cI cZ y j y1 y2 y3 y4 y5 y6 y7 y8 y9 y10 y11 y12 y13 y14 y15 y16 y17 y18 y19 y20 y21 y22 y23 y24 y25 y26 y27 y28 y29 y30 y31 y32 y33 y34 y35 y36 y37 y38 s.heap.size ) (my_cwV 1 hts q_797 q_794 q_796 q_p5 q_8 rfl rfl (by decide +kernel) ⟨Nat.le_of_ble_eq_true rfl, Nat.le_of_ble_eq_true rfl⟩) (my_preV hPc hDc hK hN 7 0 rfl rfl) rfl rfl hl.1 rfl (lv_room (Nat.le_of_ble_eq_true rfl)) d_MO_pair_10 ⟨Nat.le_of_ble_eq_true rfl, Nat.le_of_ble_eq_true rfl⟩)) (fun r_3 hw_3 => ?_)
    have hw_3 : r_3 = isw j 0 1 := hw_3
    subst hw_3
    refine lv_if_eq (tgt := 42) hx hb d_MO_pair_13 (by decide) (fun h_4 => ?_) (fun h_4 => ?_)
    · refine lv_bipush (v := (-2)) hx hb d_MO_pair_42 (by decide) ?_
      have hP9 := hP.sub (ws' := []) [] rfl
      have hD9 := hD.sub (ws' := []) [] (by decide) rfl
      refine W.widen (k := 0) (n := 0) (Nat.le_of_ble_eq_true rfl) (Nat.le_of_ble_eq_true rfl) ?_
      exact W.iret (v := (-2)) hx hb hr (fun t ht hW => ⟨⟨(-2), (), rfl, (by first | decide | simp [sp_pair, h_2, h_4]), by rw [ht]; exact hP9, hD9⟩, hS.F ht⟩) hS.2.2 d_MO_pair_44
    · refine lv_iload_n hx hb d_MO_pair_16 rfl (lv_at hl 1 rfl) ?_
      refine lv_iload_n hx hb d_MO_pair_17 rfl (lv_at hl 2 rfl) ?_
      refine lv_icmp_eq (tgt := 42) hx hb d_MO_pair_18 (by decide) (fun h_5 => ?_) (fun h_5 => ?_)
      · refine lv_bipush (v := (-2)) hx hb d_MO_pair_42 (by decide) ?_
        have hP9 := hP.sub (ws' := []) [] rfl
        have hD9 := hD.sub (ws' := []) [] (by decide) rfl
        refine W.widen (k := 0) (n := 0) (Nat.le_of_ble_eq_true rfl) (Nat.le_of_ble_eq_true rfl) ?_
        exact W.iret (v := (-2)) hx hb hr (fun t ht hW => ⟨⟨(-2), (), rfl, (by first | decide | simp [sp_pair, h_2, h_4, h_5]), by rw [ht]; exact hP9, hD9⟩, hS.F ht⟩) hS.2.2 d_MO_pair_44
      · refine lv_iload_n hx hb d_MO_pair_21 rfl (lv_at hl 3 rfl) ?_
        refine lv_iconst (v := 0) hx hb d_MO_pair_22 (by decide) ?_
        refine lv_ldc hx hb hown (hts _ q_798) d_MO_pair_23 ?_
        have hPc := hP.sub (ws' := []) [] rfl
        have hDc := hD.sub (ws' := []) [] (by decide) rfl
        refine vp_callSi (va_Run.run (va_runS (As := [.int u, .int 0, .int 100000]) (rest := []) ⟨hx, hb, hml, hown, hts⟩ (c_in l D cI cZ u 0 100000 s.heap.size ) (my_cwS 3 hts q_789 q_787 q_788 q_8 rfl rfl (by decide +kernel) ⟨Nat.le_of_ble_eq_true rfl, Nat.le_of_ble_eq_true rfl⟩) (my_preS hPc hDc hK hN) rfl rfl hl.1 rfl (lv_room (Nat.le_of_ble_eq_true rfl)) d_MO_pair_25 ⟨Nat.le_of_ble_eq_true rfl, Nat.le_of_ble_eq_true rfl⟩)) (fun r_6 hw_6 => ?_)
        have hw_6 : r_6 = isw u 0 100000 := hw_6
        subst hw_6
        refine lv_if_eq (tgt := 42) hx hb d_MO_pair_28 (by decide) (fun h_7 => ?_) (fun h_7 => ?_)
        · refine lv_bipush (v := (-2)) hx hb d_MO_pair_42 (by decide) ?_
          have hP9 := hP.sub (ws' := []) [] rfl
          have hD9 := hD.sub (ws' := []) [] (by decide) rfl
          refine W.widen (k := 0) (n := 0) (Nat.le_of_ble_eq_true rfl) (Nat.le_of_ble_eq_true rfl) ?_
          exact W.iret (v := (-2)) hx hb hr (fun t ht hW => ⟨⟨(-2), (), rfl, (by first | decide | simp [sp_pair, h_2, h_4, h_5, h_7]), by rw [ht]; exact hP9, hD9⟩, hS.F ht⟩) hS.2.2 d_MO_pair_44
        · refine lv_iload hx hb d_MO_pair_31 (lv_at hl 4 rfl) ?_
          refine lv_iconst (v := 0) hx hb d_MO_pair_33 (by decide) ?_
          refine lv_ldc hx hb hown (hts _ q_798) d_MO_pair_34 ?_
          have hPc := hP.sub (ws' := []) [] rfl
          have hDc := hD.sub (ws' := []) [] (by decide) rfl
          refine vp_callSi (va_Run.run (va_runS (As := [.int v, .int 0, .int 100000]) (rest := []) ⟨hx, hb, hml, hown, hts⟩ (c_in l D cI cZ v 0 100000 s.heap.size ) (my_cwS 3 hts q_789 q_787 q_788 q_8 rfl rfl (by decide +kernel) ⟨Nat.le_of_ble_eq_true rfl, Nat.le_of_ble_eq_true rfl⟩) (my_preS hPc hDc hK hN) rfl rfl hl.1 rfl (lv_room (Nat.le_of_ble_eq_true rfl)) d_MO_pair_36 ⟨Nat.le_of_ble_eq_true rfl, Nat.le_of_ble_eq_true rfl⟩)) (fun r_8 hw_8 => ?_)
          have hw_8 : r_8 = isw v 0 100000 := hw_8
          subst hw_8
          refine lv_if_ne (tgt := 45) hx hb d_MO_pair_39 (by decide) (fun h_9 => ?_) (fun h_9 => ?_)
          · refine lv_aload_n hx hb d_MO_pair_45 rfl (lv_at hl 0 rfl) ?_
            refine va_get (D := D) (ci := 7) (v := .int 0) (C := R_MO) (T := F_MO) (N := 50) hx hb hts i_MO hown hK hP 0 rfl rfl 8 (by decide) (hts _ q_640) (fun _ h9 => h9) rfl d_MO_pair_46 ?_
            refine lv_bipush (v := 12) hx hb d_MO_pair_49 (by decide) ?_
            refine lv_icmp_ne (tgt := 57) hx hb d_MO_pair_51 (by decide) (fun _ => ?_) (fun h => absurd h (by decide))
            refine lv_aload_n hx hb d_MO_pair_57 rfl (lv_at hl 0 rfl) ?_
            refine va_get (D := D) (ci := 7) (v := .int 0) (C := R_MO) (T := F_MO) (N := 50) hx hb hts i_MO hown hK hP 0 rfl rfl 8 (by decide) (hts _ q_640) (fun _ h9 => h9) rfl d_MO_pair_58 ?_
            refine lv_istore (lv' := [(5, .int 0), (0, .ref y), (1, .int i), (2, .int j), (3, .int u), (4, .int v)]) hx hb d_MO_pair_61 hl (by decide) rfl (fun ls hl => ?_)
            refine lv_aload_n hx hb d_MO_pair_63 rfl (lv_at hl 1 rfl) ?_
            refine lv_dup hx hb d_MO_pair_64 rfl ?_
            refine va_get (D := D) (ci := 7) (v := .int 0) (C := R_MO) (T := F_MO) (N := 50) hx hb hts i_MO hown hK hP 0 rfl rfl 8 (by decide) (hts _ q_640) (fun _ h9 => h9) rfl d_MO_pair_65 ?_
            refine lv_iconst (v := 1) hx hb d_MO_pair_68 (by decide) ?_
            refine lv_iadd hx hb d_MO_pair_69 ?_
            refine lv_seti (1) (by decide) ?_
            refine va_put (D := D) (ci := 7) (v := .int 1) (ty := .int) (C := R_MO) (T := F_MO) (N := 50) hx hb hts i_MO t_MO t_MO_ok n_MO hown hK hP hD hS 0 rfl rfl 8 (by decide) (hts _ q_640) (fun _ h9 => h9) rfl (by decide +kernel) rfl rfl (Nat.le_of_ble_eq_true rfl) d_MO_pair_70 (fun H_11 locs hP hD hS => ?_)
            have hP : va_P D vwCl [(y, .inr (7, [.int 2, .int 0, .int 3, .int 5, .ref y1, .ref y2, .ref y3, .ref y4, .int 1, .ref y5, .ref y6, .ref y7, .ref y8, .ref y9, .ref y10, .ref y11, .ref y12, .ref y13, .ref y14, .ref y15, .int 0, .ref y16, .ref y17, .ref y18, .ref y19, .ref y20, .ref y21, .ref y22, .ref y23, .ref y24, .ref y25, .ref y26, .ref y27, .int 0, .int 0, .ref y28, .ref y29, .ref y30, .ref y31, .ref y32, .ref y33, .ref y34, .ref y35, .ref y36, .int 0, .ref y37, .ref y38, .int 0, .int 0, .int 0])), (y5, .inl (cI, 24, .inl (fun _ => 0))), (y6, .inl (cI, 24, .inl (fun _ => 0))), (y7, .inl (cI, 24, .inl (fun _ => 0))), (y8, .inl (cI, 12, .inl (fun _ => 0))), (y9, .inl (cI, 12, .inl (fun _ => 0))), (y13, .inl (cI, 12, .inl (fun _ => 0))), (y12, .inl (cI, 1536, .inl (fun _ => 0))), (y14, .inl (cI, 12, .inl (fun _ => 0))), (y15, .inl (cI, 12, .inl (fun _ => 0)))] H_11 := hP
            have hD : va_D A [(y, .inr (7, [.int 2, .int 0, .int 3, .int 5, .ref y1, .ref y2, .ref y3, .ref y4, .int 1, .ref y5, .ref y6, .ref y7, .ref y8, .ref y9, .ref y10, .ref y11, .ref y12, .ref y13, .ref y14, .ref y15, .int 0, .ref y16, .ref y17, .ref y18, .ref y19, .ref y20, .ref y21, .ref y22, .ref y23, .ref y24, .ref y25, .ref y26, .ref y27, .int 0, .int 0, .ref y28, .ref y29, .ref y30, .ref y31, .ref y32, .ref y33, .ref y34, .ref y35, .ref y36, .int 0, .ref y37, .ref y38, .int 0, .int 0, .int 0])), (y5, .inl (cI, 24, .inl (fun _ => 0))), (y6, .inl (cI, 24, .inl (fun _ => 0))), (y7, .inl (cI, 24, .inl (fun _ => 0))), (y8, .inl (cI, 12, .inl (fun _ => 0))), (y9, .inl (cI, 12, .inl (fun _ => 0))), (y13, .inl (cI, 12, .inl (fun _ => 0))), (y12, .inl (cI, 1536, .inl (fun _ => 0))), (y14, .inl (cI, 12, .inl (fun _ => 0))), (y15, .inl (cI, 12, .inl (fun _ => 0)))] := hD
            refine lv_aload_n hx hb d_MO_pair_73 rfl (lv_at hl 1 rfl) ?_
            refine va_get (D := D) (ci := 7) (v := .ref y5) (C := R_MO) (T := F_MO) (N := 50) hx hb hts i_MO hown hK hP 0 rfl rfl 9 (by decide) (hts _ q_641) (fun _ h9 => h9) rfl d_MO_pair_74 ?_
            refine lv_iconst (v := 2) hx hb d_MO_pair_77 (by decide) ?_
            refine lv_iload hx hb d_MO_pair_78 (lv_at hl 0 rfl) ?_
            refine lv_imul hx hb d_MO_pair_80 ?_
            refine lv_seti (0) (by decide) ?_
            refine lv_iload_n hx hb d_MO_pair_81 rfl (lv_at hl 2 rfl) ?_
            refine va_iast hx hb hK hP hD hS 1 0 rfl rfl (by unfold vp_in; decide) d_MO_pair_82 (fun H_12 locs hP hD hS => ?_)
            have hP : va_P D vwCl [(y, .inr (7, [.int 2, .int 0, .int 3, .int 5, .ref y1, .ref y2, .ref y3, .ref y4, .int 1, .ref y5, .ref y6, .ref y7, .ref y8, .ref y9, .ref y10, .ref y11, .ref y12, .ref y13, .ref y14, .ref y15, .int 0, .ref y16, .ref y17, .ref y18, .ref y19, .ref y20, .ref y21, .ref y22, .ref y23, .ref y24, .ref y25, .ref y26, .ref y27, .int 0, .int 0, .ref y28, .ref y29, .ref y30, .ref y31, .ref y32, .ref y33, .ref y34, .ref y35, .ref y36, .int 0, .ref y37, .ref y38, .int 0, .int 0, .int 0])), (y5, .inl (cI, 24, .inl (upd (fun _ => 0) 0 i))), (y6, .inl (cI, 24, .inl (fun _ => 0))), (y7, .inl (cI, 24, .inl (fun _ => 0))), (y8, .inl (cI, 12, .inl (fun _ => 0))), (y9, .inl (cI, 12, .inl (fun _ => 0))), (y13, .inl (cI, 12, .inl (fun _ => 0))), (y12, .inl (cI, 1536, .inl (fun _ => 0))), (y14, .inl (cI, 12, .inl (fun _ => 0))), (y15, .inl (cI, 12, .inl (fun _ => 0)))] H_12 := hP
            have hD : va_D A [(y, .inr (7, [.int 2, .int 0, .int 3, .int 5, .ref y1, .ref y2, .ref y3, .ref y4, .int 1, .ref y5, .ref y6, .ref y7, .ref y8, .ref y9, .ref y10, .ref y11, .ref y12, .ref y13, .ref y14, .ref y15, .int 0, .ref y16, .ref y17, .ref y18, .ref y19, .ref y20, .ref y21, .ref y22, .ref y23, .ref y24, .ref y25, .ref y26, .ref y27, .int 0, .int 0, .ref y28, .ref y29, .ref y30, .ref y31, .ref y32, .ref y33, .ref y34, .ref y35, .ref y36, .int 0, .ref y37, .ref y38, .int 0, .int 0, .int 0])), (y5, .inl (cI, 24, .inl (upd (fun _ => 0) 0 i))), (y6, .inl (cI, 24, .inl (fun _ => 0))), (y7, .inl (cI, 24, .inl (fun _ => 0))), (y8, .inl (cI, 12, .inl (fun _ => 0))), (y9, .inl (cI, 12, .inl (fun _ => 0))), (y13, .inl (cI, 12, .inl (fun _ => 0))), (y12, .inl (cI, 1536, .inl (fun _ => 0))), (y14, .inl (cI, 12, .inl (fun _ => 0))), (y15, .inl (cI, 12, .inl (fun _ => 0)))] := hD
            refine lv_aload_n hx hb d_MO_pair_83 rfl (lv_at hl 1 rfl) ?_
            refine va_get (D := D) (ci := 7) (v := .ref y5) (C := R_MO) (T := F_MO) (N := 50) hx hb hts i_MO hown hK hP 0 rfl rfl 9 (by decide) (hts _ q_641) (fun _ h9 => h9) rfl d_MO_pair_84 ?_
            refine lv_iconst (v := 2) hx hb d_MO_pair_87 (by decide) ?_
            refine lv_iload hx hb d_MO_pair_88 (lv_at hl 0 rfl) ?_
            refine lv_imul hx hb d_MO_pair_90 ?_
            refine lv_seti (0) (by decide) ?_
            refine lv_iconst (v := 1) hx hb d_MO_pair_91 (by decide) ?_
            refine lv_iadd hx hb d_MO_pair_92 ?_
            refine lv_seti (1) (by decide) ?_
            refine lv_iload_n hx hb d_MO_pair_93 rfl (lv_at hl 3 rfl) ?_
            refine va_iast hx hb hK hP hD hS 1 0 rfl rfl (by unfold vp_in; decide) d_MO_pair_94 (fun H_13 locs hP hD hS => ?_)
            have hP : va_P D vwCl [(y, .inr (7, [.int 2, .int 0, .int 3, .int 5, .ref y1, .ref y2, .ref y3, .ref y4, .int 1, .ref y5, .ref y6, .ref y7, .ref y8, .ref y9, .ref y10, .ref y11, .ref y12, .ref y13, .ref y14, .ref y15, .int 0, .ref y16, .ref y17, .ref y18, .ref y19, .ref y20, .ref y21, .ref y22, .ref y23, .ref y24, .ref y25, .ref y26, .ref y27, .int 0, .int 0, .ref y28, .ref y29, .ref y30, .ref y31, .ref y32, .ref y33, .ref y34, .ref y35, .ref y36, .int 0, .ref y37, .ref y38, .int 0, .int 0, .int 0])), (y5, .inl (cI, 24, .inl (upd (upd (fun _ => 0) 0 i) 1 j))), (y6, .inl (cI, 24, .inl (fun _ => 0))), (y7, .inl (cI, 24, .inl (fun _ => 0))), (y8, .inl (cI, 12, .inl (fun _ => 0))), (y9, .inl (cI, 12, .inl (fun _ => 0))), (y13, .inl (cI, 12, .inl (fun _ => 0))), (y12, .inl (cI, 1536, .inl (fun _ => 0))), (y14, .inl (cI, 12, .inl (fun _ => 0))), (y15, .inl (cI, 12, .inl (fun _ => 0)))] H_13 := hP
            have hD : va_D A [(y, .inr (7, [.int 2, .int 0, .int 3, .int 5, .ref y1, .ref y2, .ref y3, .ref y4, .int 1, .ref y5, .ref y6, .ref y7, .ref y8, .ref y9, .ref y10, .ref y11, .ref y12, .ref y13, .ref y14, .ref y15, .int 0, .ref y16, .ref y17, .ref y18, .ref y19, .ref y20, .ref y21, .ref y22, .ref y23, .ref y24, .ref y25, .ref y26, .ref y27, .int 0, .int 0, .ref y28, .ref y29, .ref y30, .ref y31, .ref y32, .ref y33, .ref y34, .ref y35, .ref y36, .int 0, .ref y37, .ref y38, .int 0, .int 0, .int 0])), (y5, .inl (cI, 24, .inl (upd (upd (fun _ => 0) 0 i) 1 j))), (y6, .inl (cI, 24, .inl (fun _ => 0))), (y7, .inl (cI, 24, .inl (fun _ => 0))), (y8, .inl (cI, 12, .inl (fun _ => 0))), (y9, .inl (cI, 12, .inl (fun _ => 0))), (y13, .inl (cI, 12, .inl (fun _ => 0))), (y12, .inl (cI, 1536, .inl (fun _ => 0))), (y14, .inl (cI, 12, .inl (fun _ => 0))), (y15, .inl (cI, 12, .inl (fun _ => 0)))] := hD
            refine lv_aload_n hx hb d_MO_pair_95 rfl (lv_at hl 1 rfl) ?_
            refine va_get (D := D) (ci := 7) (v := .ref y6) (C := R_MO) (T := F_MO) (N := 50) hx hb hts i_MO hown hK hP 0 rfl rfl 10 (by decide) (hts _ q_642) (fun _ h9 => h9) rfl d_MO_pair_96 ?_
            refine lv_iconst (v := 2) hx hb d_MO_pair_99 (by decide) ?_
            refine lv_iload hx hb d_MO_pair_100 (lv_at hl 0 rfl) ?_
            refine lv_imul hx hb d_MO_pair_102 ?_
            refine lv_seti (0) (by decide) ?_
            refine lv_iload_n hx hb d_MO_pair_103 rfl (lv_at hl 4 rfl) ?_
            refine va_iast hx hb hK hP hD hS 2 0 rfl rfl (by unfold vp_in; decide) d_MO_pair_104 (fun H_14 locs hP hD hS => ?_)
            have hP : va_P D vwCl [(y, .inr (7, [.int 2, .int 0, .int 3, .int 5, .ref y1, .ref y2, .ref y3, .ref y4, .int 1, .ref y5, .ref y6, .ref y7, .ref y8, .ref y9, .ref y10, .ref y11, .ref y12, .ref y13, .ref y14, .ref y15, .int 0, .ref y16, .ref y17, .ref y18, .ref y19, .ref y20, .ref y21, .ref y22, .ref y23, .ref y24, .ref y25, .ref y26, .ref y27, .int 0, .int 0, .ref y28, .ref y29, .ref y30, .ref y31, .ref y32, .ref y33, .ref y34, .ref y35, .ref y36, .int 0, .ref y37, .ref y38, .int 0, .int 0, .int 0])), (y5, .inl (cI, 24, .inl (upd (upd (fun _ => 0) 0 i) 1 j))), (y6, .inl (cI, 24, .inl (upd (fun _ => 0) 0 u))), (y7, .inl (cI, 24, .inl (fun _ => 0))), (y8, .inl (cI, 12, .inl (fun _ => 0))), (y9, .inl (cI, 12, .inl (fun _ => 0))), (y13, .inl (cI, 12, .inl (fun _ => 0))), (y12, .inl (cI, 1536, .inl (fun _ => 0))), (y14, .inl (cI, 12, .inl (fun _ => 0))), (y15, .inl (cI, 12, .inl (fun _ => 0)))] H_14 := hP
            have hD : va_D A [(y, .inr (7, [.int 2, .int 0, .int 3, .int 5, .ref y1, .ref y2, .ref y3, .ref y4, .int 1, .ref y5, .ref y6, .ref y7, .ref y8, .ref y9, .ref y10, .ref y11, .ref y12, .ref y13, .ref y14, .ref y15, .int 0, .ref y16, .ref y17, .ref y18, .ref y19, .ref y20, .ref y21, .ref y22, .ref y23, .ref y24, .ref y25, .ref y26, .ref y27, .int 0, .int 0, .ref y28, .ref y29, .ref y30, .ref y31, .ref y32, .ref y33, .ref y34, .ref y35, .ref y36, .int 0, .ref y37, .ref y38, .int 0, .int 0, .int 0])), (y5, .inl (cI, 24, .inl (upd (upd (fun _ => 0) 0 i) 1 j))), (y6, .inl (cI, 24, .inl (upd (fun _ => 0) 0 u))), (y7, .inl (cI, 24, .inl (fun _ => 0))), (y8, .inl (cI, 12, .inl (fun _ => 0))), (y9, .inl (cI, 12, .inl (fun _ => 0))), (y13, .inl (cI, 12, .inl (fun _ => 0))), (y12, .inl (cI, 1536, .inl (fun _ => 0))), (y14, .inl (cI, 12, .inl (fun _ => 0))), (y15, .inl (cI, 12, .inl (fun _ => 0)))] := hD
            refine lv_aload_n hx hb d_MO_pair_105 rfl (lv_at hl 1 rfl) ?_
            refine va_get (D := D) (ci := 7) (v := .ref y6) (C := R_MO) (T := F_MO) (N := 50) hx hb hts i_MO hown hK hP 0 rfl rfl 10 (by decide) (hts _ q_642) (fun _ h9 => h9) rfl d_MO_pair_106 ?_
            refine lv_iconst (v := 2) hx hb d_MO_pair_109 (by decide) ?_
            refine lv_iload hx hb d_MO_pair_110 (lv_at hl 0 rfl) ?_
            refine lv_imul hx hb d_MO_pair_112 ?_
            refine lv_seti (0) (by decide) ?_
            refine lv_iconst (v := 1) hx hb d_MO_pair_113 (by decide) ?_
            refine lv_iadd hx hb d_MO_pair_114 ?_
            refine lv_seti (1) (by decide) ?_
            refine lv_iload hx hb d_MO_pair_115 (lv_at hl 5 rfl) ?_
            refine va_iast hx hb hK hP hD hS 2 0 rfl rfl (by unfold vp_in; decide) d_MO_pair_117 (fun H_15 locs hP hD hS => ?_)
            have hP : va_P D vwCl [(y, .inr (7, [.int 2, .int 0, .int 3, .int 5, .ref y1, .ref y2, .ref y3, .ref y4, .int 1, .ref y5, .ref y6, .ref y7, .ref y8, .ref y9, .ref y10, .ref y11, .ref y12, .ref y13, .ref y14, .ref y15, .int 0, .ref y16, .ref y17, .ref y18, .ref y19, .ref y20, .ref y21, .ref y22, .ref y23, .ref y24, .ref y25, .ref y26, .ref y27, .int 0, .int 0, .ref y28, .ref y29, .ref y30, .ref y31, .ref y32, .ref y33, .ref y34, .ref y35, .ref y36, .int 0, .ref y37, .ref y38, .int 0, .int 0, .int 0])), (y5, .inl (cI, 24, .inl (upd (upd (fun _ => 0) 0 i) 1 j))), (y6, .inl (cI, 24, .inl (upd (upd (fun _ => 0) 0 u) 1 v))), (y7, .inl (cI, 24, .inl (fun _ => 0))), (y8, .inl (cI, 12, .inl (fun _ => 0))), (y9, .inl (cI, 12, .inl (fun _ => 0))), (y13, .inl (cI, 12, .inl (fun _ => 0))), (y12, .inl (cI, 1536, .inl (fun _ => 0))), (y14, .inl (cI, 12, .inl (fun _ => 0))), (y15, .inl (cI, 12, .inl (fun _ => 0)))] H_15 := hP
            have hD : va_D A [(y, .inr (7, [.int 2, .int 0, .int 3, .int 5, .ref y1, .ref y2, .ref y3, .ref y4, .int 1, .ref y5, .ref y6, .ref y7, .ref y8, .ref y9, .ref y10, .ref y11, .ref y12, .ref y13, .ref y14, .ref y15, .int 0, .ref y16, .ref y17, .ref y18, .ref y19, .ref y20, .ref y21, .ref y22, .ref y23, .ref y24, .ref y25, .ref y26, .ref y27, .int 0, .int 0, .ref y28, .ref y29, .ref y30, .ref y31, .ref y32, .ref y33, .ref y34, .ref y35, .ref y36, .int 0, .ref y37, .ref y38, .int 0, .int 0, .int 0])), (y5, .inl (cI, 24, .inl (upd (upd (fun _ => 0) 0 i) 1 j))), (y6, .inl (cI, 24, .inl (upd (upd (fun _ => 0) 0 u) 1 v))), (y7, .inl (cI, 24, .inl (fun _ => 0))), (y8, .inl (cI, 12, .inl (fun _ => 0))), (y9, .inl (cI, 12, .inl (fun _ => 0))), (y13, .inl (cI, 12, .inl (fun _ => 0))), (y12, .inl (cI, 1536, .inl (fun _ => 0))), (y14, .inl (cI, 12, .inl (fun _ => 0))), (y15, .inl (cI, 12, .inl (fun _ => 0)))] := hD
            refine lv_aload_n hx hb d_MO_pair_118 rfl (lv_at hl 1 rfl) ?_
            refine va_get (D := D) (ci := 7) (v := .ref y7) (C := R_MO) (T := F_MO) (N := 50) hx hb hts i_MO hown hK hP 0 rfl rfl 11 (by decide) (hts _ q_643) (fun _ h9 => h9) rfl d_MO_pair_119 ?_
            refine lv_iconst (v := 2) hx hb d_MO_pair_122 (by decide) ?_
            refine lv_iload hx hb d_MO_pair_123 (lv_at hl 0 rfl) ?_
            refine lv_imul hx hb d_MO_pair_125 ?_
            refine lv_seti (0) (by decide) ?_
            refine lv_iconst (v := 0) hx hb d_MO_pair_126 (by decide) ?_
            refine va_iast hx hb hK hP hD hS 3 0 rfl rfl (by unfold vp_in; decide) d_MO_pair_127 (fun H_16 locs hP hD hS => ?_)
            have hP : va_P D vwCl [(y, .inr (7, [.int 2, .int 0, .int 3, .int 5, .ref y1, .ref y2, .ref y3, .ref y4, .int 1, .ref y5, .ref y6, .ref y7, .ref y8, .ref y9, .ref y10, .ref y11, .ref y12, .ref y13, .ref y14, .ref y15, .int 0, .ref y16, .ref y17, .ref y18, .ref y19, .ref y20, .ref y21, .ref y22, .ref y23, .ref y24, .ref y25, .ref y26, .ref y27, .int 0, .int 0, .ref y28, .ref y29, .ref y30, .ref y31, .ref y32, .ref y33, .ref y34, .ref y35, .ref y36, .int 0, .ref y37, .ref y38, .int 0, .int 0, .int 0])), (y5, .inl (cI, 24, .inl (upd (upd (fun _ => 0) 0 i) 1 j))), (y6, .inl (cI, 24, .inl (upd (upd (fun _ => 0) 0 u) 1 v))), (y7, .inl (cI, 24, .inl (upd (fun _ => 0) 0 0))), (y8, .inl (cI, 12, .inl (fun _ => 0))), (y9, .inl (cI, 12, .inl (fun _ => 0))), (y13, .inl (cI, 12, .inl (fun _ => 0))), (y12, .inl (cI, 1536, .inl (fun _ => 0))), (y14, .inl (cI, 12, .inl (fun _ => 0))), (y15, .inl (cI, 12, .inl (fun _ => 0)))] H_16 := hP
            have hD : va_D A [(y, .inr (7, [.int 2, .int 0, .int 3, .int 5, .ref y1, .ref y2, .ref y3, .ref y4, .int 1, .ref y5, .ref y6, .ref y7, .ref y8, .ref y9, .ref y10, .ref y11, .ref y12, .ref y13, .ref y14, .ref y15, .int 0, .ref y16, .ref y17, .ref y18, .ref y19, .ref y20, .ref y21, .ref y22, .ref y23, .ref y24, .ref y25, .ref y26, .ref y27, .int 0, .int 0, .ref y28, .ref y29, .ref y30, .ref y31, .ref y32, .ref y33, .ref y34, .ref y35, .ref y36, .int 0, .ref y37, .ref y38, .int 0, .int 0, .int 0])), (y5, .inl (cI, 24, .inl (upd (upd (fun _ => 0) 0 i) 1 j))), (y6, .inl (cI, 24, .inl (upd (upd (fun _ => 0) 0 u) 1 v))), (y7, .inl (cI, 24, .inl (upd (fun _ => 0) 0 0))), (y8, .inl (cI, 12, .inl (fun _ => 0))), (y9, .inl (cI, 12, .inl (fun _ => 0))), (y13, .inl (cI, 12, .inl (fun _ => 0))), (y12, .inl (cI, 1536, .inl (fun _ => 0))), (y14, .inl (cI, 12, .inl (fun _ => 0))), (y15, .inl (cI, 12, .inl (fun _ => 0)))] := hD
            refine lv_aload_n hx hb d_MO_pair_128 rfl (lv_at hl 1 rfl) ?_
            refine va_get (D := D) (ci := 7) (v := .ref y7) (C := R_MO) (T := F_MO) (N := 50) hx hb hts i_MO hown hK hP 0 rfl rfl 11 (by decide) (hts _ q_643) (fun _ h9 => h9) rfl d_MO_pair_129 ?_
            refine lv_iconst (v := 2) hx hb d_MO_pair_132 (by decide) ?_
            refine lv_iload hx hb d_MO_pair_133 (lv_at hl 0 rfl) ?_
            refine lv_imul hx hb d_MO_pair_135 ?_
            refine lv_seti (0) (by decide) ?_
            refine lv_iconst (v := 1) hx hb d_MO_pair_136 (by decide) ?_
            refine lv_iadd hx hb d_MO_pair_137 ?_
            refine lv_seti (1) (by decide) ?_
            refine lv_iconst (v := 0) hx hb d_MO_pair_138 (by decide) ?_
            refine va_iast hx hb hK hP hD hS 3 0 rfl rfl (by unfold vp_in; decide) d_MO_pair_139 (fun H_17 locs hP hD hS => ?_)
            have hP : va_P D vwCl [(y, .inr (7, [.int 2, .int 0, .int 3, .int 5, .ref y1, .ref y2, .ref y3, .ref y4, .int 1, .ref y5, .ref y6, .ref y7, .ref y8, .ref y9, .ref y10, .ref y11, .ref y12, .ref y13, .ref y14, .ref y15, .int 0, .ref y16, .ref y17, .ref y18, .ref y19, .ref y20, .ref y21, .ref y22, .ref y23, .ref y24, .ref y25, .ref y26, .ref y27, .int 0, .int 0, .ref y28, .ref y29, .ref y30, .ref y31, .ref y32, .ref y33, .ref y34, .ref y35, .ref y36, .int 0, .ref y37, .ref y38, .int 0, .int 0, .int 0])), (y5, .inl (cI, 24, .inl (upd (upd (fun _ => 0) 0 i) 1 j))), (y6, .inl (cI, 24, .inl (upd (upd (fun _ => 0) 0 u) 1 v))), (y7, .inl (cI, 24, .inl (upd (upd (fun _ => 0) 0 0) 1 0))), (y8, .inl (cI, 12, .inl (fun _ => 0))), (y9, .inl (cI, 12, .inl (fun _ => 0))), (y13, .inl (cI, 12, .inl (fun _ => 0))), (y12, .inl (cI, 1536, .inl (fun _ => 0))), (y14, .inl (cI, 12, .inl (fun _ => 0))), (y15, .inl (cI, 12, .inl (fun _ => 0)))] H_17 := hP
            have hD : va_D A [(y, .inr (7, [.int 2, .int 0, .int 3, .int 5, .ref y1, .ref y2, .ref y3, .ref y4, .int 1, .ref y5, .ref y6, .ref y7, .ref y8, .ref y9, .ref y10, .ref y11, .ref y12, .ref y13, .ref y14, .ref y15, .int 0, .ref y16, .ref y17, .ref y18, .ref y19, .ref y20, .ref y21, .ref y22, .ref y23, .ref y24, .ref y25, .ref y26, .ref y27, .int 0, .int 0, .ref y28, .ref y29, .ref y30, .ref y31, .ref y32, .ref y33, .ref y34, .ref y35, .ref y36, .int 0, .ref y37, .ref y38, .int 0, .int 0, .int 0])), (y5, .inl (cI, 24, .inl (upd (upd (fun _ => 0) 0 i) 1 j))), (y6, .inl (cI, 24, .inl (upd (upd (fun _ => 0) 0 u) 1 v))), (y7, .inl (cI, 24, .inl (upd (upd (fun _ => 0) 0 0) 1 0))), (y8, .inl (cI, 12, .inl (fun _ => 0))), (y9, .inl (cI, 12, .inl (fun _ => 0))), (y13, .inl (cI, 12, .inl (fun _ => 0))), (y12, .inl (cI, 1536, .inl (fun _ => 0))), (y14, .inl (cI, 12, .inl (fun _ => 0))), (y15, .inl (cI, 12, .inl (fun _ => 0)))] := hD
            refine lv_aload_n hx hb d_MO_pair_140 rfl (lv_at hl 1 rfl) ?_
            refine va_get (D := D) (ci := 7) (v := .ref y8) (C := R_MO) (T := F_MO) (N := 50) hx hb hts i_MO hown hK hP 0 rfl rfl 12 (by decide) (hts _ q_644) (fun _ h9 => h9) rfl d_MO_pair_141 ?_
            refine lv_iload hx hb d_MO_pair_144 (lv_at hl 0 rfl) ?_
            refine lv_iconst (v := 0) hx hb d_MO_pair_146 (by decide) ?_
            refine va_iast hx hb hK hP hD hS 4 0 rfl rfl (by unfold vp_in; decide) d_MO_pair_147 (fun H_18 locs hP hD hS => ?_)
            have hP : va_P D vwCl [(y, .inr (7, [.int 2, .int 0, .int 3, .int 5, .ref y1, .ref y2, .ref y3, .ref y4, .int 1, .ref y5, .ref y6, .ref y7, .ref y8, .ref y9, .ref y10, .ref y11, .ref y12, .ref y13, .ref y14, .ref y15, .int 0, .ref y16, .ref y17, .ref y18, .ref y19, .ref y20, .ref y21, .ref y22, .ref y23, .ref y24, .ref y25, .ref y26, .ref y27, .int 0, .int 0, .ref y28, .ref y29, .ref y30, .ref y31, .ref y32, .ref y33, .ref y34, .ref y35, .ref y36, .int 0, .ref y37, .ref y38, .int 0, .int 0, .int 0])), (y5, .inl (cI, 24, .inl (upd (upd (fun _ => 0) 0 i) 1 j))), (y6, .inl (cI, 24, .inl (upd (upd (fun _ => 0) 0 u) 1 v))), (y7, .inl (cI, 24, .inl (upd (upd (fun _ => 0) 0 0) 1 0))), (y8, .inl (cI, 12, .inl (upd (fun _ => 0) 0 0))), (y9, .inl (cI, 12, .inl (fun _ => 0))), (y13, .inl (cI, 12, .inl (fun _ => 0))), (y12, .inl (cI, 1536, .inl (fun _ => 0))), (y14, .inl (cI, 12, .inl (fun _ => 0))), (y15, .inl (cI, 12, .inl (fun _ => 0)))] H_18 := hP
            have hD : va_D A [(y, .inr (7, [.int 2, .int 0, .int 3, .int 5, .ref y1, .ref y2, .ref y3, .ref y4, .int 1, .ref y5, .ref y6, .ref y7, .ref y8, .ref y9, .ref y10, .ref y11, .ref y12, .ref y13, .ref y14, .ref y15, .int 0, .ref y16, .ref y17, .ref y18, .ref y19, .ref y20, .ref y21, .ref y22, .ref y23, .ref y24, .ref y25, .ref y26, .ref y27, .int 0, .int 0, .ref y28, .ref y29, .ref y30, .ref y31, .ref y32, .ref y33, .ref y34, .ref y35, .ref y36, .int 0, .ref y37, .ref y38, .int 0, .int 0, .int 0])), (y5, .inl (cI, 24, .inl (upd (upd (fun _ => 0) 0 i) 1 j))), (y6, .inl (cI, 24, .inl (upd (upd (fun _ => 0) 0 u) 1 v))), (y7, .inl (cI, 24, .inl (upd (upd (fun _ => 0) 0 0) 1 0))), (y8, .inl (cI, 12, .inl (upd (fun _ => 0) 0 0))), (y9, .inl (cI, 12, .inl (fun _ => 0))), (y13, .inl (cI, 12, .inl (fun _ => 0))), (y12, .inl (cI, 1536, .inl (fun _ => 0))), (y14, .inl (cI, 12, .inl (fun _ => 0))), (y15, .inl (cI, 12, .inl (fun _ => 0)))] := hD
            refine lv_aload_n hx hb d_MO_pair_148 rfl (lv_at hl 1 rfl) ?_
            refine va_get (D := D) (ci := 7) (v := .ref y9) (C := R_MO) (T := F_MO) (N := 50) hx hb hts i_MO hown hK hP 0 rfl rfl 13 (by decide) (hts _ q_645) (fun _ h9 => h9) rfl d_MO_pair_149 ?_
            refine lv_iload hx hb d_MO_pair_152 (lv_at hl 0 rfl) ?_
            refine lv_iconst (v := (-1)) hx hb d_MO_pair_154 (by decide) ?_
            refine va_iast hx hb hK hP hD hS 5 0 rfl rfl (by unfold vp_in; decide) d_MO_pair_155 (fun H_19 locs hP hD hS => ?_)
            have hP : va_P D vwCl [(y, .inr (7, [.int 2, .int 0, .int 3, .int 5, .ref y1, .ref y2, .ref y3, .ref y4, .int 1, .ref y5, .ref y6, .ref y7, .ref y8, .ref y9, .ref y10, .ref y11, .ref y12, .ref y13, .ref y14, .ref y15, .int 0, .ref y16, .ref y17, .ref y18, .ref y19, .ref y20, .ref y21, .ref y22, .ref y23, .ref y24, .ref y25, .ref y26, .ref y27, .int 0, .int 0, .ref y28, .ref y29, .ref y30, .ref y31, .ref y32, .ref y33, .ref y34, .ref y35, .ref y36, .int 0, .ref y37, .ref y38, .int 0, .int 0, .int 0])), (y5, .inl (cI, 24, .inl (upd (upd (fun _ => 0) 0 i) 1 j))), (y6, .inl (cI, 24, .inl (upd (upd (fun _ => 0) 0 u) 1 v))), (y7, .inl (cI, 24, .inl (upd (upd (fun _ => 0) 0 0) 1 0))), (y8, .inl (cI, 12, .inl (upd (fun _ => 0) 0 0))), (y9, .inl (cI, 12, .inl (upd (fun _ => 0) 0 (-1)))), (y13, .inl (cI, 12, .inl (fun _ => 0))), (y12, .inl (cI, 1536, .inl (fun _ => 0))), (y14, .inl (cI, 12, .inl (fun _ => 0))), (y15, .inl (cI, 12, .inl (fun _ => 0)))] H_19 := hP
            have hD : va_D A [(y, .inr (7, [.int 2, .int 0, .int 3, .int 5, .ref y1, .ref y2, .ref y3, .ref y4, .int 1, .ref y5, .ref y6, .ref y7, .ref y8, .ref y9, .ref y10, .ref y11, .ref y12, .ref y13, .ref y14, .ref y15, .int 0, .ref y16, .ref y17, .ref y18, .ref y19, .ref y20, .ref y21, .ref y22, .ref y23, .ref y24, .ref y25, .ref y26, .ref y27, .int 0, .int 0, .ref y28, .ref y29, .ref y30, .ref y31, .ref y32, .ref y33, .ref y34, .ref y35, .ref y36, .int 0, .ref y37, .ref y38, .int 0, .int 0, .int 0])), (y5, .inl (cI, 24, .inl (upd (upd (fun _ => 0) 0 i) 1 j))), (y6, .inl (cI, 24, .inl (upd (upd (fun _ => 0) 0 u) 1 v))), (y7, .inl (cI, 24, .inl (upd (upd (fun _ => 0) 0 0) 1 0))), (y8, .inl (cI, 12, .inl (upd (fun _ => 0) 0 0))), (y9, .inl (cI, 12, .inl (upd (fun _ => 0) 0 (-1)))), (y13, .inl (cI, 12, .inl (fun _ => 0))), (y12, .inl (cI, 1536, .inl (fun _ => 0))), (y14, .inl (cI, 12, .inl (fun _ => 0))), (y15, .inl (cI, 12, .inl (fun _ => 0)))] := hD
            refine lv_aload_n hx hb d_MO_pair_156 rfl (lv_at hl 1 rfl) ?_
            refine va_get (D := D) (ci := 7) (v := .ref y13) (C := R_MO) (T := F_MO) (N := 50) hx hb hts i_MO hown hK hP 0 rfl rfl 17 (by decide) (hts _ q_649) (fun _ h9 => h9) rfl d_MO_pair_157 ?_
            refine lv_iload hx hb d_MO_pair_160 (lv_at hl 0 rfl) ?_
            refine lv_iconst (v := 0) hx hb d_MO_pair_162 (by decide) ?_
            refine va_iast hx hb hK hP hD hS 6 0 rfl rfl (by unfold vp_in; decide) d_MO_pair_163 (fun H_20 locs hP hD hS => ?_)
            have hP : va_P D vwCl [(y, .inr (7, [.int 2, .int 0, .int 3, .int 5, .ref y1, .ref y2, .ref y3, .ref y4, .int 1, .ref y5, .ref y6, .ref y7, .ref y8, .ref y9, .ref y10, .ref y11, .ref y12, .ref y13, .ref y14, .ref y15, .int 0, .ref y16, .ref y17, .ref y18, .ref y19, .ref y20, .ref y21, .ref y22, .ref y23, .ref y24, .ref y25, .ref y26, .ref y27, .int 0, .int 0, .ref y28, .ref y29, .ref y30, .ref y31, .ref y32, .ref y33, .ref y34, .ref y35, .ref y36, .int 0, .ref y37, .ref y38, .int 0, .int 0, .int 0])), (y5, .inl (cI, 24, .inl (upd (upd (fun _ => 0) 0 i) 1 j))), (y6, .inl (cI, 24, .inl (upd (upd (fun _ => 0) 0 u) 1 v))), (y7, .inl (cI, 24, .inl (upd (upd (fun _ => 0) 0 0) 1 0))), (y8, .inl (cI, 12, .inl (upd (fun _ => 0) 0 0))), (y9, .inl (cI, 12, .inl (upd (fun _ => 0) 0 (-1)))), (y13, .inl (cI, 12, .inl (upd (fun _ => 0) 0 0))), (y12, .inl (cI, 1536, .inl (fun _ => 0))), (y14, .inl (cI, 12, .inl (fun _ => 0))), (y15, .inl (cI, 12, .inl (fun _ => 0)))] H_20 := hP
            have hD : va_D A [(y, .inr (7, [.int 2, .int 0, .int 3, .int 5, .ref y1, .ref y2, .ref y3, .ref y4, .int 1, .ref y5, .ref y6, .ref y7, .ref y8, .ref y9, .ref y10, .ref y11, .ref y12, .ref y13, .ref y14, .ref y15, .int 0, .ref y16, .ref y17, .ref y18, .ref y19, .ref y20, .ref y21, .ref y22, .ref y23, .ref y24, .ref y25, .ref y26, .ref y27, .int 0, .int 0, .ref y28, .ref y29, .ref y30, .ref y31, .ref y32, .ref y33, .ref y34, .ref y35, .ref y36, .int 0, .ref y37, .ref y38, .int 0, .int 0, .int 0])), (y5, .inl (cI, 24, .inl (upd (upd (fun _ => 0) 0 i) 1 j))), (y6, .inl (cI, 24, .inl (upd (upd (fun _ => 0) 0 u) 1 v))), (y7, .inl (cI, 24, .inl (upd (upd (fun _ => 0) 0 0) 1 0))), (y8, .inl (cI, 12, .inl (upd (fun _ => 0) 0 0))), (y9, .inl (cI, 12, .inl (upd (fun _ => 0) 0 (-1)))), (y13, .inl (cI, 12, .inl (upd (fun _ => 0) 0 0))), (y12, .inl (cI, 1536, .inl (fun _ => 0))), (y14, .inl (cI, 12, .inl (fun _ => 0))), (y15, .inl (cI, 12, .inl (fun _ => 0)))] := hD
            refine lv_aload_n hx hb d_MO_pair_164 rfl (lv_at hl 1 rfl) ?_
            refine lv_iload hx hb d_MO_pair_165 (lv_at hl 0 rfl) ?_
            have hPc := hP.sub (ws' := [(y, .inr (7, [.int 2, .int 0, .int 3, .int 5, .ref y1, .ref y2, .ref y3, .ref y4, .int 1, .ref y5, .ref y6, .ref y7, .ref y8, .ref y9, .ref y10, .ref y11, .ref y12, .ref y13, .ref y14, .ref y15, .int 0, .ref y16, .ref y17, .ref y18, .ref y19, .ref y20, .ref y21, .ref y22, .ref y23, .ref y24, .ref y25, .ref y26, .ref y27, .int 0, .int 0, .ref y28, .ref y29, .ref y30, .ref y31, .ref y32, .ref y33, .ref y34, .ref y35, .ref y36, .int 0, .ref y37, .ref y38, .int 0, .int 0, .int 0])), (y6, .inl (cI, 24, .inl (upd (upd (fun _ => 0) 0 u) 1 v))), (y7, .inl (cI, 24, .inl (upd (upd (fun _ => 0) 0 0) 1 0))), (y12, .inl (cI, 1536, .inl (fun _ => 0))), (y13, .inl (cI, 12, .inl (upd (fun _ => 0) 0 0)))]) [0, 2, 3, 7, 6] rfl
            have hDc := hD.sub (ws' := [(y, .inr (7, [.int 2, .int 0, .int 3, .int 5, .ref y1, .ref y2, .ref y3, .ref y4, .int 1, .ref y5, .ref y6, .ref y7, .ref y8, .ref y9, .ref y10, .ref y11, .ref y12, .ref y13, .ref y14, .ref y15, .int 0, .ref y16, .ref y17, .ref y18, .ref y19, .ref y20, .ref y21, .ref y22, .ref y23, .ref y24, .ref y25, .ref y26, .ref y27, .int 0, .int 0, .ref y28, .ref y29, .ref y30, .ref y31, .ref y32, .ref y33, .ref y34, .ref y35, .ref y36, .int 0, .ref y37, .ref y38, .int 0, .int 0, .int 0])), (y6, .inl (cI, 24, .inl (upd (upd (fun _ => 0) 0 u) 1 v))), (y7, .inl (cI, 24, .inl (upd (upd (fun _ => 0) 0 0) 1 0))), (y12, .inl (cI, 1536, .inl (fun _ => 0))), (y13, .inl (cI, 12, .inl (upd (fun _ => 0) 0 0)))]) [0, 2, 3, 7, 6] (by decide) rfl
            have hFc := va_free (wc := [(y, .inr (7, [.int 2, .int 0, .int 3, .int 5, .ref y1, .ref y2, .ref y3, .ref y4, .int 1, .ref y5, .ref y6, .ref y7, .ref y8, .ref y9, .ref y10, .ref y11, .ref y12, .ref y13, .ref y14, .ref y15, .int 0, .ref y16, .ref y17, .ref y18, .ref y19, .ref y20, .ref y21, .ref y22, .ref y23, .ref y24, .ref y25, .ref y26, .ref y27, .int 0, .int 0, .ref y28, .ref y29, .ref y30, .ref y31, .ref y32, .ref y33, .ref y34, .ref y35, .ref y36, .int 0, .ref y37, .ref y38, .int 0, .int 0, .int 0])), (y6, .inl (cI, 24, .inl (upd (upd (fun _ => 0) 0 u) 1 v))), (y7, .inl (cI, 24, .inl (upd (upd (fun _ => 0) 0 0) 1 0))), (y12, .inl (cI, 1536, .inl (fun _ => 0))), (y13, .inl (cI, 12, .inl (upd (fun _ => 0) 0 0)))]) hD hS hA [0, 2, 3, 7, 6] rfl
            refine va_callv (va_runV (As := [.int 0]) (rest := []) ⟨hx, hb, hml, hown, hts⟩ (f_MO_keepState l D cI cZ y y1 y2 y3 y4 1 y5 y6 y7 y8 y9 y10 y11 y12 y13 y14 y15 y16 y17 y18 y19 y20 y21 y22 y23 y24 y25 y26 y27 y28 y29 y30 y31 y32 y33 y34 y35 y36 y37 y38 (upd (upd (fun _ => 0) 0 u) 1 v) (upd (upd (fun _ => 0) 0 0) 1 0) (fun _ => 0) H_20.size ) (my_cwV 1 hts q_802 q_799 q_801 q_p6 q_8 rfl rfl (by decide +kernel) ⟨Nat.le_of_ble_eq_true rfl, Nat.le_of_ble_eq_true rfl⟩) (my_preV hPc hDc hK hN 7 0 rfl rfl) rfl rfl hl.1 rfl (lv_room (Nat.le_of_ble_eq_true rfl)) d_MO_pair_167 ⟨Nat.le_of_ble_eq_true rfl, Nat.le_of_ble_eq_true rfl⟩) hS (fun q _ h => hFc q h) hFc (fun uU tT H_22 locs ht hvm hw_21 hB hz1 hk1 hS => ?_)
            obtain ⟨hP1, hD1⟩ := hB
            rw [ht] at hP1
            obtain ⟨hP, hD⟩ := va_join (wr := [(y5, .inl (cI, 24, .inl (upd (upd (fun _ => 0) 0 i) 1 j))), (y8, .inl (cI, 12, .inl (upd (fun _ => 0) 0 0))), (y9, .inl (cI, 12, .inl (upd (fun _ => 0) 0 (-1)))), (y14, .inl (cI, 12, .inl (fun _ => 0))), (y15, .inl (cI, 12, .inl (fun _ => 0)))]) (w1 := [(y, .inr (7, [.int 2, .int 0, .int 3, .int 5, .ref y1, .ref y2, .ref y3, .ref y4, .int 1, .ref y5, .ref y6, .ref y7, .ref y8, .ref y9, .ref y10, .ref y11, .ref y12, .ref y13, .ref y14, .ref y15, .int 0, .ref y16, .ref y17, .ref y18, .ref y19, .ref y20, .ref y21, .ref y22, .ref y23, .ref y24, .ref y25, .ref y26, .ref y27, .int 0, .int 0, .ref y28, .ref y29, .ref y30, .ref y31, .ref y32, .ref y33, .ref y34, .ref y35, .ref y36, .int 0, .ref y37, .ref y38, .int 0, .int 0, .int 0])), (y6, .inl (cI, 24, .inl (upd (upd (fun _ => 0) 0 u) 1 v)))]) hP hD [0, 2, 3, 7, 6] [1, 4, 5, 8, 9] rfl rfl (by decide) (by decide) hk1 hFc hP1 hD1
            have hP : va_P D vwCl [(y5, .inl (cI, 24, .inl (upd (upd (fun _ => 0) 0 i) 1 j))), (y8, .inl (cI, 12, .inl (upd (fun _ => 0) 0 0))), (y9, .inl (cI, 12, .inl (upd (fun _ => 0) 0 (-1)))), (y14, .inl (cI, 12, .inl (fun _ => 0))), (y15, .inl (cI, 12, .inl (fun _ => 0))), (y, .inr (7, [.int 2, .int 0, .int 3, .int 5, .ref y1, .ref y2, .ref y3, .ref y4, .int 1, .ref y5, .ref y6, .ref y7, .ref y8, .ref y9, .ref y10, .ref y11, .ref y12, .ref y13, .ref y14, .ref y15, .int 0, .ref y16, .ref y17, .ref y18, .ref y19, .ref y20, .ref y21, .ref y22, .ref y23, .ref y24, .ref y25, .ref y26, .ref y27, .int 0, .int 0, .ref y28, .ref y29, .ref y30, .ref y31, .ref y32, .ref y33, .ref y34, .ref y35, .ref y36, .int 0, .ref y37, .ref y38, .int 0, .int 0, .int 0])), (y6, .inl (cI, 24, .inl (upd (upd (fun _ => 0) 0 u) 1 v)))] H_22 := hP
            have hD : va_D A [(y5, .inl (cI, 24, .inl (upd (upd (fun _ => 0) 0 i) 1 j))), (y8, .inl (cI, 12, .inl (upd (fun _ => 0) 0 0))), (y9, .inl (cI, 12, .inl (upd (fun _ => 0) 0 (-1)))), (y14, .inl (cI, 12, .inl (fun _ => 0))), (y15, .inl (cI, 12, .inl (fun _ => 0))), (y, .inr (7, [.int 2, .int 0, .int 3, .int 5, .ref y1, .ref y2, .ref y3, .ref y4, .int 1, .ref y5, .ref y6, .ref y7, .ref y8, .ref y9, .ref y10, .ref y11, .ref y12, .ref y13, .ref y14, .ref y15, .int 0, .ref y16, .ref y17, .ref y18, .ref y19, .ref y20, .ref y21, .ref y22, .ref y23, .ref y24, .ref y25, .ref y26, .ref y27, .int 0, .int 0, .ref y28, .ref y29, .ref y30, .ref y31, .ref y32, .ref y33, .ref y34, .ref y35, .ref y36, .int 0, .ref y37, .ref y38, .int 0, .int 0, .int 0])), (y6, .inl (cI, 24, .inl (upd (upd (fun _ => 0) 0 u) 1 v)))] := hD
            refine lv_aload_n hx hb d_MO_pair_170 rfl (lv_at hl 1 rfl) ?_
            refine lv_iload hx hb d_MO_pair_171 (lv_at hl 0 rfl) ?_
            have hPc := hP.sub (ws' := [(y, .inr (7, [.int 2, .int 0, .int 3, .int 5, .ref y1, .ref y2, .ref y3, .ref y4, .int 1, .ref y5, .ref y6, .ref y7, .ref y8, .ref y9, .ref y10, .ref y11, .ref y12, .ref y13, .ref y14, .ref y15, .int 0, .ref y16, .ref y17, .ref y18, .ref y19, .ref y20, .ref y21, .ref y22, .ref y23, .ref y24, .ref y25, .ref y26, .ref y27, .int 0, .int 0, .ref y28, .ref y29, .ref y30, .ref y31, .ref y32, .ref y33, .ref y34, .ref y35, .ref y36, .int 0, .ref y37, .ref y38, .int 0, .int 0, .int 0])), (y6, .inl (cI, 24, .inl (upd (upd (fun _ => 0) 0 u) 1 v))), (y14, .inl (cI, 12, .inl (fun _ => 0))), (y15, .inl (cI, 12, .inl (fun _ => 0)))]) [5, 6, 3, 4] rfl
            have hDc := hD.sub (ws' := [(y, .inr (7, [.int 2, .int 0, .int 3, .int 5, .ref y1, .ref y2, .ref y3, .ref y4, .int 1, .ref y5, .ref y6, .ref y7, .ref y8, .ref y9, .ref y10, .ref y11, .ref y12, .ref y13, .ref y14, .ref y15, .int 0, .ref y16, .ref y17, .ref y18, .ref y19, .ref y20, .ref y21, .ref y22, .ref y23, .ref y24, .ref y25, .ref y26, .ref y27, .int 0, .int 0, .ref y28, .ref y29, .ref y30, .ref y31, .ref y32, .ref y33, .ref y34, .ref y35, .ref y36, .int 0, .ref y37, .ref y38, .int 0, .int 0, .int 0])), (y6, .inl (cI, 24, .inl (upd (upd (fun _ => 0) 0 u) 1 v))), (y14, .inl (cI, 12, .inl (fun _ => 0))), (y15, .inl (cI, 12, .inl (fun _ => 0)))]) [5, 6, 3, 4] (by decide) rfl
            have hFc := va_free (wc := [(y, .inr (7, [.int 2, .int 0, .int 3, .int 5, .ref y1, .ref y2, .ref y3, .ref y4, .int 1, .ref y5, .ref y6, .ref y7, .ref y8, .ref y9, .ref y10, .ref y11, .ref y12, .ref y13, .ref y14, .ref y15, .int 0, .ref y16, .ref y17, .ref y18, .ref y19, .ref y20, .ref y21, .ref y22, .ref y23, .ref y24, .ref y25, .ref y26, .ref y27, .int 0, .int 0, .ref y28, .ref y29, .ref y30, .ref y31, .ref y32, .ref y33, .ref y34, .ref y35, .ref y36, .int 0, .ref y37, .ref y38, .int 0, .int 0, .int 0])), (y6, .inl (cI, 24, .inl (upd (upd (fun _ => 0) 0 u) 1 v))), (y14, .inl (cI, 12, .inl (fun _ => 0))), (y15, .inl (cI, 12, .inl (fun _ => 0)))]) hD hS hA [5, 6, 3, 4] rfl
            refine va_callv (va_runV (As := [.int 0]) (rest := []) ⟨hx, hb, hml, hown, hts⟩ (f_MO_forget l D cI cZ y y1 y2 y3 y4 1 y5 y6 y7 y8 y9 y10 y11 y12 y13 y14 y15 y16 y17 y18 y19 y20 y21 y22 y23 y24 y25 y26 y27 y28 y29 y30 y31 y32 y33 y34 y35 y36 y37 y38 (upd (upd (fun _ => 0) 0 u) 1 v) (fun _ => 0) (fun _ => 0) H_22.size ) (my_cwV 1 hts q_806 q_803 q_805 q_p7 q_8 rfl rfl (by decide +kernel) ⟨Nat.le_of_ble_eq_true rfl, Nat.le_of_ble_eq_true rfl⟩) (my_preV hPc hDc hK hN 7 0 rfl rfl) rfl rfl hl.1 rfl (lv_room (Nat.le_of_ble_eq_true rfl)) d_MO_pair_173 ⟨Nat.le_of_ble_eq_true rfl, Nat.le_of_ble_eq_true rfl⟩) hS (fun q _ h => hFc q h) hFc (fun uU tT H_24 locs ht hvm hw_23 hB hz1 hk1 hS => ?_)
            obtain ⟨hP1, hD1⟩ := hB
            rw [ht] at hP1
            obtain ⟨hP, hD⟩ := va_join (wr := [(y5, .inl (cI, 24, .inl (upd (upd (fun _ => 0) 0 i) 1 j))), (y8, .inl (cI, 12, .inl (upd (fun _ => 0) 0 0))), (y9, .inl (cI, 12, .inl (upd (fun _ => 0) 0 (-1))))]) (w1 := []) hP hD [5, 6, 3, 4] [0, 1, 2] rfl rfl (by decide) (by decide) hk1 hFc hP1 hD1
            have hP : va_P D vwCl [(y5, .inl (cI, 24, .inl (upd (upd (fun _ => 0) 0 i) 1 j))), (y8, .inl (cI, 12, .inl (upd (fun _ => 0) 0 0))), (y9, .inl (cI, 12, .inl (upd (fun _ => 0) 0 (-1))))] H_24 := hP
            have hD : va_D A [(y5, .inl (cI, 24, .inl (upd (upd (fun _ => 0) 0 i) 1 j))), (y8, .inl (cI, 12, .inl (upd (fun _ => 0) 0 0))), (y9, .inl (cI, 12, .inl (upd (fun _ => 0) 0 (-1))))] := hD
            refine lv_iload hx hb d_MO_pair_176 (lv_at hl 0 rfl) ?_
            have hP9 := hP.sub (ws' := []) [] rfl
            have hD9 := hD.sub (ws' := []) [] (by decide) rfl
            refine W.widen (k := 0) (n := 0) (Nat.le_of_ble_eq_true rfl) (Nat.le_of_ble_eq_true rfl) ?_
            exact W.iret (v := 0) hx hb hr (fun t ht hW => ⟨⟨0, (), rfl, (by first | decide | simp [sp_pair, h_2, h_4, h_5, h_7, h_9]), by rw [ht]; exact hP9, hD9⟩, hS.F ht⟩) hS.2.2 d_MO_pair_178
          · refine lv_bipush (v := (-2)) hx hb d_MO_pair_42 (by decide) ?_
            have hP9 := hP.sub (ws' := []) [] rfl
            have hD9 := hD.sub (ws' := []) [] (by decide) rfl
            refine W.widen (k := 0) (n := 0) (Nat.le_of_ble_eq_true rfl) (Nat.le_of_ble_eq_true rfl) ?_
            exact W.iret (v := (-2)) hx hb hr (fun t ht hW => ⟨⟨(-2), (), rfl, (by first | decide | simp [sp_pair, h_2, h_4, h_5, h_7, h_9]), by rw [ht]; exact hP9, hD9⟩, hS.F ht⟩) hS.2.2 d_MO_pair_44

set_option maxHeartbeats 4000000 in
set_option maxRecDepth 100000 in
theorem f_MO_fee (l : Launch) (D : va_G) (cI cZ : ClassId) (y : Nat) (i : Int32) (u : Int32) (v : Int32) (y1 : Nat) (y2 : Nat) (y3 : Nat) (y4 : Nat) (y5 : Nat) (y6 : Nat) (y7 : Nat) (y8 : Nat) (y9 : Nat) (y10 : Nat) (y11 : Nat) (y12 : Nat) (y13 : Nat) (y14 : Nat) (y15 : Nat) (y16 : Nat) (y17 : Nat) (y18 : Nat) (y19 : Nat) (y20 : Nat) (y21 : Nat) (y22 : Nat) (y23 : Nat) (y24 : Nat) (y25 : Nat) (y26 : Nat) (y27 : Nat) (y28 : Nat) (y29 : Nat) (y30 : Nat) (y31 : Nat) (y32 : Nat) (y33 : Nat) (y34 : Nat) (y35 : Nat) (y36 : Nat) (y37 : Nat) (y38 : Nat) (sz : Nat)  : Met l ⟨"PromiseChainsModel", "fee", "(III)I"⟩ (mw ⟨"PromiseChainsModel", "fee", "(III)I"⟩ prog_9_method_10_code 4 (some .int)) ({ frames := 2, cells := 0, slots := 0, locals := 43 }) (va_Pc [.ref y, .int i, .int u, .int v] (PB D cI cZ sz [(y, .inr (7, [.int 2, .int 0, .int 3, .int 5, .ref y1, .ref y2, .ref y3, .ref y4, .int 0, .ref y5, .ref y6, .ref y7, .ref y8, .ref y9, .ref y10, .ref y11, .ref y12, .ref y13, .ref y14, .ref y15, .int 0, .ref y16, .ref y17, .ref y18, .ref y19, .ref y20, .ref y21, .ref y22, .ref y23, .ref y24, .ref y25, .ref y26, .ref y27, .int 0, .int 0, .ref y28, .ref y29, .ref y30, .ref y31, .ref y32, .ref y33, .ref y34, .ref y35, .ref y36, .int 0, .ref y37, .ref y38, .int 0, .int 0, .int 0])), (y3, .inl (cI, 7, .inl (fun _ => 0))), (y4, .inl (cI, 7, .inl (fun _ => 0)))])) (va_Qi (S := Unit) (fun (r : Int32) uU => r = sp_fee i u v) (fun uU tT => BB D (va_A [(y, .inr (7, [.int 2, .int 0, .int 3, .int 5, .ref y1, .ref y2, .ref y3, .ref y4, .int 0, .ref y5, .ref y6, .ref y7, .ref y8, .ref y9, .ref y10, .ref y11, .ref y12, .ref y13, .ref y14, .ref y15, .int 0, .ref y16, .ref y17, .ref y18, .ref y19, .ref y20, .ref y21, .ref y22, .ref y23, .ref y24, .ref y25, .ref y26, .ref y27, .int 0, .int 0, .ref y28, .ref y29, .ref y30, .ref y31, .ref y32, .ref y33, .ref y34, .ref y35, .ref y36, .int 0, .ref y37, .ref y38, .int 0, .int 0, .int 0])), (y3, .inl (cI, 7, .inl (fun _ => 0))), (y4, .inl (cI, 7, .inl (fun _ => 0)))] sz) [] tT) (va_A [(y, .inr (7, [.int 2, .int 0, .int 3, .int 5, .ref y1, .ref y2, .ref y3, .ref y4, .int 0, .ref y5, .ref y6, .ref y7, .ref y8, .ref y9, .ref y10, .ref y11, .ref y12, .ref y13, .ref y14, .ref y15, .int 0, .ref y16, .ref y17, .ref y18, .ref y19, .ref y20, .ref y21, .ref y22, .ref y23, .ref y24, .ref y25, .ref y26, .ref y27, .int 0, .int 0, .ref y28, .ref y29, .ref y30, .ref y31, .ref y32, .ref y33, .ref y34, .ref y35, .ref y36, .int 0, .ref y37, .ref y38, .int 0, .int 0, .int 0])), (y3, .inl (cI, 7, .inl (fun _ => 0))), (y4, .inl (cI, 7, .inl (fun _ => 0)))] sz)) 0 0 (va_A [(y, .inr (7, [.int 2, .int 0, .int 3, .int 5, .ref y1, .ref y2, .ref y3, .ref y4, .int 0, .ref y5, .ref y6, .ref y7, .ref y8, .ref y9, .ref y10, .ref y11, .ref y12, .ref y13, .ref y14, .ref y15, .int 0, .ref y16, .ref y17, .ref y18, .ref y19, .ref y20, .ref y21, .ref y22, .ref y23, .ref y24, .ref y25, .ref y26, .ref y27, .int 0, .int 0, .ref y28, .ref y29, .ref y30, .ref y31, .ref y32, .ref y33, .ref y34, .ref y35, .ref y36, .int 0, .ref y37, .ref y38, .int 0, .int 0, .int 0])), (y3, .inl (cI, 7, .inl (fun _ => 0))), (y4, .inl (cI, 7, .inl (fun _ => 0)))] sz) := by
  refine Met.ofW (cc := prog_9_method_10_code) (maxL := 4) (ret := (some .int)) (by decide) rfl ?_
  intro p e s m args below meth c s₁ B hml hv
  obtain ⟨rfl, hsz, hP, hK, hD0, hN⟩ := hv
  have hx := B.exec
  have hb := B.bytes
  have hr := B.returns
  have hts0 := atoms_spec (ws := mw ⟨"PromiseChainsModel", "fee", "(III)I"⟩ prog_9_method_10_code 4 (some .int)) B.pre
  have hts : ∀ w ∈ tblG, w.before _ s = true := fun w h => hts0 w (List.mem_cons_of_mem _ h)
  have hown : s.vm.findClass "PromiseChainsModel" = some m.cls := findClass_of_methodNamed B.named
  have hlocks := B.notSynchronized
  subst hsz
  have hD := hD0.self (sz := s.heap.size)
  generalize hAe : va_A [(y, .inr (7, [.int 2, .int 0, .int 3, .int 5, .ref y1, .ref y2, .ref y3, .ref y4, .int 0, .ref y5, .ref y6, .ref y7, .ref y8, .ref y9, .ref y10, .ref y11, .ref y12, .ref y13, .ref y14, .ref y15, .int 0, .ref y16, .ref y17, .ref y18, .ref y19, .ref y20, .ref y21, .ref y22, .ref y23, .ref y24, .ref y25, .ref y26, .ref y27, .int 0, .int 0, .ref y28, .ref y29, .ref y30, .ref y31, .ref y32, .ref y33, .ref y34, .ref y35, .ref y36, .int 0, .ref y37, .ref y38, .int 0, .int 0, .int 0])), (y3, .inl (cI, 7, .inl (fun _ => 0))), (y4, .inl (cI, 7, .inl (fun _ => 0)))] s.heap.size = A at hD ⊢
  have hA : ∀ q : Nat, s.heap.size ≤ q → A q := fun q h => by rw [← hAe]; exact Or.inr h
  have hS : va_S A s.heap s.heap [] := va_S.rf
  have hP : va_P D vwCl [(y, .inr (7, [.int 2, .int 0, .int 3, .int 5, .ref y1, .ref y2, .ref y3, .ref y4, .int 0, .ref y5, .ref y6, .ref y7, .ref y8, .ref y9, .ref y10, .ref y11, .ref y12, .ref y13, .ref y14, .ref y15, .int 0, .ref y16, .ref y17, .ref y18, .ref y19, .ref y20, .ref y21, .ref y22, .ref y23, .ref y24, .ref y25, .ref y26, .ref y27, .int 0, .int 0, .ref y28, .ref y29, .ref y30, .ref y31, .ref y32, .ref y33, .ref y34, .ref y35, .ref y36, .int 0, .ref y37, .ref y38, .int 0, .int 0, .int 0])), (y3, .inl (cI, 7, .inl (fun _ => 0))), (y4, .inl (cI, 7, .inl (fun _ => 0)))] s.heap := hP
  have hl := lv_entry ([.ref y, .int i, .int u, .int v]) (n := 4) (Nat.le_of_ble_eq_true rfl)
  rw [lg_entry_eq]
  generalize (lg_sl ([.ref y, .int i, .int u, .int v]) ++ List.replicate (4 - (lg_sl ([.ref y, .int i, .int u, .int v])).length) Slot.unset).toArray = ls at hl ⊢
  have hl : lv_has ls 4 [(0, .ref y), (1, .int i), (2, .int u), (3, .int v)] := hl
  refine lv_aload_n hx hb d_MO_fee_0 rfl (lv_at hl 0 rfl) ?_
  refine lv_iload_n hx hb d_MO_fee_1 rfl (lv_at hl 1 rfl) ?_
  have hPc := hP.sub (ws' := [(y, .inr (7, [.int 2, .int 0, .int 3, .int 5, .ref y1, .ref y2, .ref y3, .ref y4, .int 0, .ref y5, .ref y6, .ref y7, .ref y8, .ref y9, .ref y10, .ref y11, .ref y12, .ref y13, .ref y14, .ref y15, .int 0, .ref y16, .ref y17, .ref y18, .ref y19, .ref y20, .ref y21, .ref y22, .ref y23, .ref y24, .ref y25, .ref y26, .ref y27, .int 0, .int 0, .ref y28, .ref y29, .ref y30, .ref y31, .ref y32, .ref y33, .ref y34, .ref y35, .ref y36, .int 0, .ref y37, .ref y38, .int 0, .int 0, .int 0]))]) [0] rfl
  have hDc := hD.sub (ws' := [(y, .inr (7, [.int 2, .int 0, .int 3, .int 5, .ref y1, .ref y2, .ref y3, .ref y4, .int 0, .ref y5, .ref y6, .ref y7, .ref y8, .ref y9, .ref y10, .ref y11, .ref y12, .ref y13, .ref y14, .ref y15, .int 0, .ref y16, .ref y17, .ref y18, .ref y19, .ref y20, .ref y21, .ref y22, .ref y23, .ref y24, .ref y25, .ref y26, .ref y27, .int 0, .int 0, .ref y28, .ref y29, .ref y30, .ref y31, .ref y32, .ref y33, .ref y34, .ref y35, .ref y36, .int 0, .ref y37, .ref y38, .int 0, .int 0, .int 0]))]) [0] (by decide) rfl
  refine vp_callSi (va_Run.run (va_runV (As := [.int i]) (rest := []) ⟨hx, hb, hml, hown, hts⟩ (f_MO_isPerson l D cI cZ y i y1 y2 y3 y4 y5 y6 y7 y8 y9 y10 y11 y12 y13 y14 y15 y16 y17 y18 y19 y20 y21 y22 y23 y24 y25 y26 y27 y28 y29 y30 y31 y32 y33 y34 y35 y36 y37 y38 s.heap.size ) (my_cwV 1 hts q_797 q_794 q_796 q_p5 q_8 rfl rfl (by decide +kernel) ⟨Nat.le_of_ble_eq_true rfl, Nat.le_of_ble_eq_true rfl⟩) (my_preV hPc hDc hK hN 7 0 rfl rfl) rfl rfl hl.1 rfl (lv_room (Nat.le_of_ble_eq_true rfl)) d_MO_fee_2 ⟨Nat.le_of_ble_eq_true rfl, Nat.le_of_ble_eq_true rfl⟩)) (fun r_1 hw_1 => ?_)
  have hw_1 : r_1 = isw i 0 1 := hw_1
  subst hw_1
  refine lv_if_eq (tgt := 28) hx hb d_MO_fee_5 (by decide) (fun h_2 => ?_) (fun h_2 => ?_)
  · refine lv_bipush (v := (-2)) hx hb d_MO_fee_28 (by decide) ?_
    have hP9 := hP.sub (ws' := []) [] rfl
    have hD9 := hD.sub (ws' := []) [] (by decide) rfl
    refine W.widen (k := 0) (n := 0) (Nat.le_of_ble_eq_true rfl) (Nat.le_of_ble_eq_true rfl) ?_
    exact W.iret (v := (-2)) hx hb hr (fun t ht hW => ⟨⟨(-2), (), rfl, (by first | decide | simp [sp_fee, h_2]), by rw [ht]; exact hP9, hD9⟩, hS.F ht⟩) hS.2.2 d_MO_fee_30
  · refine lv_iload_n hx hb d_MO_fee_8 rfl (lv_at hl 2 rfl) ?_
    refine lv_iconst (v := 0) hx hb d_MO_fee_9 (by decide) ?_
    refine lv_bipush (v := 100) hx hb d_MO_fee_10 (by decide) ?_
    have hPc := hP.sub (ws' := []) [] rfl
    have hDc := hD.sub (ws' := []) [] (by decide) rfl
    refine vp_callSi (va_Run.run (va_runS (As := [.int u, .int 0, .int 100]) (rest := []) ⟨hx, hb, hml, hown, hts⟩ (c_in l D cI cZ u 0 100 s.heap.size ) (my_cwS 3 hts q_789 q_787 q_788 q_8 rfl rfl (by decide +kernel) ⟨Nat.le_of_ble_eq_true rfl, Nat.le_of_ble_eq_true rfl⟩) (my_preS hPc hDc hK hN) rfl rfl hl.1 rfl (lv_room (Nat.le_of_ble_eq_true rfl)) d_MO_fee_12 ⟨Nat.le_of_ble_eq_true rfl, Nat.le_of_ble_eq_true rfl⟩)) (fun r_3 hw_3 => ?_)
    have hw_3 : r_3 = isw u 0 100 := hw_3
    subst hw_3
    refine lv_if_eq (tgt := 28) hx hb d_MO_fee_15 (by decide) (fun h_4 => ?_) (fun h_4 => ?_)
    · refine lv_bipush (v := (-2)) hx hb d_MO_fee_28 (by decide) ?_
      have hP9 := hP.sub (ws' := []) [] rfl
      have hD9 := hD.sub (ws' := []) [] (by decide) rfl
      refine W.widen (k := 0) (n := 0) (Nat.le_of_ble_eq_true rfl) (Nat.le_of_ble_eq_true rfl) ?_
      exact W.iret (v := (-2)) hx hb hr (fun t ht hW => ⟨⟨(-2), (), rfl, (by first | decide | simp [sp_fee, h_2, h_4]), by rw [ht]; exact hP9, hD9⟩, hS.F ht⟩) hS.2.2 d_MO_fee_30
    · refine lv_iload_n hx hb d_MO_fee_18 rfl (lv_at hl 3 rfl) ?_
      refine lv_iconst (v := 0) hx hb d_MO_fee_19 (by decide) ?_
      refine lv_bipush (v := 100) hx hb d_MO_fee_20 (by decide) ?_
      have hPc := hP.sub (ws' := []) [] rfl
      have hDc := hD.sub (ws' := []) [] (by decide) rfl
      refine vp_callSi (va_Run.run (va_runS (As := [.int v, .int 0, .int 100]) (rest := []) ⟨hx, hb, hml, hown, hts⟩ (c_in l D cI cZ v 0 100 s.heap.size ) (my_cwS 3 hts q_789 q_787 q_788 q_8 rfl rfl (by decide +kernel) ⟨Nat.le_of_ble_eq_true rfl, Nat.le_of_ble_eq_true rfl⟩) (my_preS hPc hDc hK hN) rfl rfl hl.1 rfl (lv_room (Nat.le_of_ble_eq_true rfl)) d_MO_fee_22 ⟨Nat.le_of_ble_eq_true rfl, Nat.le_of_ble_eq_true rfl⟩)) (fun r_5 hw_5 => ?_)
      have hw_5 : r_5 = isw v 0 100 := hw_5
      subst hw_5
      refine lv_if_ne (tgt := 31) hx hb d_MO_fee_25 (by decide) (fun h_6 => ?_) (fun h_6 => ?_)
      · refine lv_aload_n hx hb d_MO_fee_31 rfl (lv_at hl 0 rfl) ?_
        refine va_get (D := D) (ci := 7) (v := .ref y3) (C := R_MO) (T := F_MO) (N := 50) hx hb hts i_MO hown hK hP 0 rfl rfl 6 (by decide) (hts _ q_638) (fun _ h9 => h9) rfl d_MO_fee_32 ?_
        refine lv_iload_n hx hb d_MO_fee_35 rfl (lv_at hl 1 rfl) ?_
        refine lv_iload_n hx hb d_MO_fee_36 rfl (lv_at hl 2 rfl) ?_
        refine va_iast hx hb hK hP hD hS 1 0 rfl rfl (isw_in h_2 (by decide)) d_MO_fee_37 (fun H_7 locs hP hD hS => ?_)
        have hP : va_P D vwCl [(y, .inr (7, [.int 2, .int 0, .int 3, .int 5, .ref y1, .ref y2, .ref y3, .ref y4, .int 0, .ref y5, .ref y6, .ref y7, .ref y8, .ref y9, .ref y10, .ref y11, .ref y12, .ref y13, .ref y14, .ref y15, .int 0, .ref y16, .ref y17, .ref y18, .ref y19, .ref y20, .ref y21, .ref y22, .ref y23, .ref y24, .ref y25, .ref y26, .ref y27, .int 0, .int 0, .ref y28, .ref y29, .ref y30, .ref y31, .ref y32, .ref y33, .ref y34, .ref y35, .ref y36, .int 0, .ref y37, .ref y38, .int 0, .int 0, .int 0])), (y3, .inl (cI, 7, .inl (upd (fun _ => 0) i.toNatClampNeg u))), (y4, .inl (cI, 7, .inl (fun _ => 0)))] H_7 := hP
        have hD : va_D A [(y, .inr (7, [.int 2, .int 0, .int 3, .int 5, .ref y1, .ref y2, .ref y3, .ref y4, .int 0, .ref y5, .ref y6, .ref y7, .ref y8, .ref y9, .ref y10, .ref y11, .ref y12, .ref y13, .ref y14, .ref y15, .int 0, .ref y16, .ref y17, .ref y18, .ref y19, .ref y20, .ref y21, .ref y22, .ref y23, .ref y24, .ref y25, .ref y26, .ref y27, .int 0, .int 0, .ref y28, .ref y29, .ref y30, .ref y31, .ref y32, .ref y33, .ref y34, .ref y35, .ref y36, .int 0, .ref y37, .ref y38, .int 0, .int 0, .int 0])), (y3, .inl (cI, 7, .inl (upd (fun _ => 0) i.toNatClampNeg u))), (y4, .inl (cI, 7, .inl (fun _ => 0)))] := hD
        refine lv_aload_n hx hb d_MO_fee_38 rfl (lv_at hl 0 rfl) ?_
        refine va_get (D := D) (ci := 7) (v := .ref y4) (C := R_MO) (T := F_MO) (N := 50) hx hb hts i_MO hown hK hP 0 rfl rfl 7 (by decide) (hts _ q_639) (fun _ h9 => h9) rfl d_MO_fee_39 ?_
        refine lv_iload_n hx hb d_MO_fee_42 rfl (lv_at hl 1 rfl) ?_
        refine lv_iload_n hx hb d_MO_fee_43 rfl (lv_at hl 3 rfl) ?_
        refine va_iast hx hb hK hP hD hS 2 0 rfl rfl (isw_in h_2 (by decide)) d_MO_fee_44 (fun H_8 locs hP hD hS => ?_)
        have hP : va_P D vwCl [(y, .inr (7, [.int 2, .int 0, .int 3, .int 5, .ref y1, .ref y2, .ref y3, .ref y4, .int 0, .ref y5, .ref y6, .ref y7, .ref y8, .ref y9, .ref y10, .ref y11, .ref y12, .ref y13, .ref y14, .ref y15, .int 0, .ref y16, .ref y17, .ref y18, .ref y19, .ref y20, .ref y21, .ref y22, .ref y23, .ref y24, .ref y25, .ref y26, .ref y27, .int 0, .int 0, .ref y28, .ref y29, .ref y30, .ref y31, .ref y32, .ref y33, .ref y34, .ref y35, .ref y36, .int 0, .ref y37, .ref y38, .int 0, .int 0, .int 0])), (y3, .inl (cI, 7, .inl (upd (fun _ => 0) i.toNatClampNeg u))), (y4, .inl (cI, 7, .inl (upd (fun _ => 0) i.toNatClampNeg v)))] H_8 := hP
        have hD : va_D A [(y, .inr (7, [.int 2, .int 0, .int 3, .int 5, .ref y1, .ref y2, .ref y3, .ref y4, .int 0, .ref y5, .ref y6, .ref y7, .ref y8, .ref y9, .ref y10, .ref y11, .ref y12, .ref y13, .ref y14, .ref y15, .int 0, .ref y16, .ref y17, .ref y18, .ref y19, .ref y20, .ref y21, .ref y22, .ref y23, .ref y24, .ref y25, .ref y26, .ref y27, .int 0, .int 0, .ref y28, .ref y29, .ref y30, .ref y31, .ref y32, .ref y33, .ref y34, .ref y35, .ref y36, .int 0, .ref y37, .ref y38, .int 0, .int 0, .int 0])), (y3, .inl (cI, 7, .inl (upd (fun _ => 0) i.toNatClampNeg u))), (y4, .inl (cI, 7, .inl (upd (fun _ => 0) i.toNatClampNeg v)))] := hD
        refine lv_iconst (v := 1) hx hb d_MO_fee_45 (by decide) ?_
        have hP9 := hP.sub (ws' := []) [] rfl
        have hD9 := hD.sub (ws' := []) [] (by decide) rfl
        refine W.widen (k := 0) (n := 0) (Nat.le_of_ble_eq_true rfl) (Nat.le_of_ble_eq_true rfl) ?_
        exact W.iret (v := 1) hx hb hr (fun t ht hW => ⟨⟨1, (), rfl, (by first | decide | simp [sp_fee, h_2, h_4, h_6]), by rw [ht]; exact hP9, hD9⟩, hS.F ht⟩) hS.2.2 d_MO_fee_46
      · refine lv_bipush (v := (-2)) hx hb d_MO_fee_28 (by decide) ?_
        have hP9 := hP.sub (ws' := []) [] rfl
        have hD9 := hD.sub (ws' := []) [] (by decide) rfl
        refine W.widen (k := 0) (n := 0) (Nat.le_of_ble_eq_true rfl) (Nat.le_of_ble_eq_true rfl) ?_
        exact W.iret (v := (-2)) hx hb hr (fun t ht hW => ⟨⟨(-2), (), rfl, (by first | decide | simp [sp_fee, h_2, h_4, h_6]), by rw [ht]; exact hP9, hD9⟩, hS.F ht⟩) hS.2.2 d_MO_fee_30

set_option maxHeartbeats 4000000 in
set_option maxRecDepth 100000 in
theorem f_MO_gap (l : Launch) (D : va_G) (cI cZ : ClassId) (y : Nat) (v : Int32) (y1 : Nat) (y2 : Nat) (y3 : Nat) (y4 : Nat) (y5 : Nat) (y6 : Nat) (y7 : Nat) (y8 : Nat) (y9 : Nat) (y10 : Nat) (y11 : Nat) (y12 : Nat) (y13 : Nat) (y14 : Nat) (y15 : Nat) (y16 : Nat) (y17 : Nat) (y18 : Nat) (y19 : Nat) (y20 : Nat) (y21 : Nat) (y22 : Nat) (y23 : Nat) (y24 : Nat) (y25 : Nat) (y26 : Nat) (y27 : Nat) (y28 : Nat) (y29 : Nat) (y30 : Nat) (y31 : Nat) (y32 : Nat) (y33 : Nat) (y34 : Nat) (y35 : Nat) (y36 : Nat) (y37 : Nat) (y38 : Nat) (sz : Nat)  : Met l ⟨"PromiseChainsModel", "gap", "(I)I"⟩ (mw ⟨"PromiseChainsModel", "gap", "(I)I"⟩ prog_9_method_11_code 3 (some .int)) ({ frames := 1, cells := 0, slots := 0, locals := 22 }) (va_Pc [.ref y, .int v] (PB D cI cZ sz [(y, .inr (7, [.int 2, .int 0, .int 3, .int 5, .ref y1, .ref y2, .ref y3, .ref y4, .int 0, .ref y5, .ref y6, .ref y7, .ref y8, .ref y9, .ref y10, .ref y11, .ref y12, .ref y13, .ref y14, .ref y15, .int 0, .ref y16, .ref y17, .ref y18, .ref y19, .ref y20, .ref y21, .ref y22, .ref y23, .ref y24, .ref y25, .ref y26, .ref y27, .int 0, .int 0, .ref y28, .ref y29, .ref y30, .ref y31, .ref y32, .ref y33, .ref y34, .ref y35, .ref y36, .int 0, .ref y37, .ref y38, .int 0, .int 0, .int 0]))])) (va_Qi (S := Unit) (fun (r : Int32) uU => r = sp_gap v) (fun uU tT => BB D (va_A [(y, .inr (7, [.int 2, .int 0, .int 3, .int 5, .ref y1, .ref y2, .ref y3, .ref y4, .int 0, .ref y5, .ref y6, .ref y7, .ref y8, .ref y9, .ref y10, .ref y11, .ref y12, .ref y13, .ref y14, .ref y15, .int 0, .ref y16, .ref y17, .ref y18, .ref y19, .ref y20, .ref y21, .ref y22, .ref y23, .ref y24, .ref y25, .ref y26, .ref y27, .int 0, .int 0, .ref y28, .ref y29, .ref y30, .ref y31, .ref y32, .ref y33, .ref y34, .ref y35, .ref y36, .int 0, .ref y37, .ref y38, .int 0, .int 0, .int 0]))] sz) [] tT) (va_A [(y, .inr (7, [.int 2, .int 0, .int 3, .int 5, .ref y1, .ref y2, .ref y3, .ref y4, .int 0, .ref y5, .ref y6, .ref y7, .ref y8, .ref y9, .ref y10, .ref y11, .ref y12, .ref y13, .ref y14, .ref y15, .int 0, .ref y16, .ref y17, .ref y18, .ref y19, .ref y20, .ref y21, .ref y22, .ref y23, .ref y24, .ref y25, .ref y26, .ref y27, .int 0, .int 0, .ref y28, .ref y29, .ref y30, .ref y31, .ref y32, .ref y33, .ref y34, .ref y35, .ref y36, .int 0, .ref y37, .ref y38, .int 0, .int 0, .int 0]))] sz)) 0 0 (va_A [(y, .inr (7, [.int 2, .int 0, .int 3, .int 5, .ref y1, .ref y2, .ref y3, .ref y4, .int 0, .ref y5, .ref y6, .ref y7, .ref y8, .ref y9, .ref y10, .ref y11, .ref y12, .ref y13, .ref y14, .ref y15, .int 0, .ref y16, .ref y17, .ref y18, .ref y19, .ref y20, .ref y21, .ref y22, .ref y23, .ref y24, .ref y25, .ref y26, .ref y27, .int 0, .int 0, .ref y28, .ref y29, .ref y30, .ref y31, .ref y32, .ref y33, .ref y34, .ref y35, .ref y36, .int 0, .ref y37, .ref y38, .int 0, .int 0, .int 0]))] sz) := by
  refine Met.ofW (cc := prog_9_method_11_code) (maxL := 3) (ret := (some .int)) (by decide) rfl ?_
  intro p e s m args below meth c s₁ B hml hv
  obtain ⟨rfl, hsz, hP, hK, hD0, hN⟩ := hv
  have hx := B.exec
  have hb := B.bytes
  have hr := B.returns
  have hts0 := atoms_spec (ws := mw ⟨"PromiseChainsModel", "gap", "(I)I"⟩ prog_9_method_11_code 3 (some .int)) B.pre
  have hts : ∀ w ∈ tblG, w.before _ s = true := fun w h => hts0 w (List.mem_cons_of_mem _ h)
  have hown : s.vm.findClass "PromiseChainsModel" = some m.cls := findClass_of_methodNamed B.named
  have hlocks := B.notSynchronized
  subst hsz
  have hD := hD0.self (sz := s.heap.size)
  generalize hAe : va_A [(y, .inr (7, [.int 2, .int 0, .int 3, .int 5, .ref y1, .ref y2, .ref y3, .ref y4, .int 0, .ref y5, .ref y6, .ref y7, .ref y8, .ref y9, .ref y10, .ref y11, .ref y12, .ref y13, .ref y14, .ref y15, .int 0, .ref y16, .ref y17, .ref y18, .ref y19, .ref y20, .ref y21, .ref y22, .ref y23, .ref y24, .ref y25, .ref y26, .ref y27, .int 0, .int 0, .ref y28, .ref y29, .ref y30, .ref y31, .ref y32, .ref y33, .ref y34, .ref y35, .ref y36, .int 0, .ref y37, .ref y38, .int 0, .int 0, .int 0]))] s.heap.size = A at hD ⊢
  have hA : ∀ q : Nat, s.heap.size ≤ q → A q := fun q h => by rw [← hAe]; exact Or.inr h
  have hS : va_S A s.heap s.heap [] := va_S.rf
  have hP : va_P D vwCl [(y, .inr (7, [.int 2, .int 0, .int 3, .int 5, .ref y1, .ref y2, .ref y3, .ref y4, .int 0, .ref y5, .ref y6, .ref y7, .ref y8, .ref y9, .ref y10, .ref y11, .ref y12, .ref y13, .ref y14, .ref y15, .int 0, .ref y16, .ref y17, .ref y18, .ref y19, .ref y20, .ref y21, .ref y22, .ref y23, .ref y24, .ref y25, .ref y26, .ref y27, .int 0, .int 0, .ref y28, .ref y29, .ref y30, .ref y31, .ref y32, .ref y33, .ref y34, .ref y35, .ref y36, .int 0, .ref y37, .ref y38, .int 0, .int 0, .int 0]))] s.heap := hP
  have hl := lv_entry ([.ref y, .int v]) (n := 3) (Nat.le_of_ble_eq_true rfl)
  rw [lg_entry_eq]
  generalize (lg_sl ([.ref y, .int v]) ++ List.replicate (3 - (lg_sl ([.ref y, .int v])).length) Slot.unset).toArray = ls at hl ⊢
  have hl : lv_has ls 3 [(0, .ref y), (1, .int v)] := hl
  refine lv_iload_n hx hb d_MO_gap_0 rfl (lv_at hl 1 rfl) ?_
  refine lv_iconst (v := 1) hx hb d_MO_gap_1 (by decide) ?_
  refine lv_bipush (v := 50) hx hb d_MO_gap_2 (by decide) ?_
  have hPc := hP.sub (ws' := []) [] rfl
  have hDc := hD.sub (ws' := []) [] (by decide) rfl
  refine vp_callSi (va_Run.run (va_runS (As := [.int v, .int 1, .int 50]) (rest := []) ⟨hx, hb, hml, hown, hts⟩ (c_in l D cI cZ v 1 50 s.heap.size ) (my_cwS 3 hts q_789 q_787 q_788 q_8 rfl rfl (by decide +kernel) ⟨Nat.le_of_ble_eq_true rfl, Nat.le_of_ble_eq_true rfl⟩) (my_preS hPc hDc hK hN) rfl rfl hl.1 rfl (lv_room (Nat.le_of_ble_eq_true rfl)) d_MO_gap_4 ⟨Nat.le_of_ble_eq_true rfl, Nat.le_of_ble_eq_true rfl⟩)) (fun r_1 hw_1 => ?_)
  have hw_1 : r_1 = isw v 1 50 := hw_1
  subst hw_1
  refine lv_if_ne (tgt := 13) hx hb d_MO_gap_7 (by decide) (fun h_2 => ?_) (fun h_2 => ?_)
  · refine lv_aload_n hx hb d_MO_gap_13 rfl (lv_at hl 0 rfl) ?_
    refine va_get (D := D) (ci := 7) (v := .int 3) (C := R_MO) (T := F_MO) (N := 50) hx hb hts i_MO hown hK hP 0 rfl rfl 2 (by decide) (hts _ q_634) (fun _ h9 => h9) rfl d_MO_gap_14 ?_
    refine lv_istore_n (lv' := [(2, .int 3), (0, .ref y), (1, .int v)]) hx hb d_MO_gap_17 rfl hl (by decide) rfl (fun ls hl => ?_)
    refine lv_aload_n hx hb d_MO_gap_18 rfl (lv_at hl 1 rfl) ?_
    refine lv_iload_n hx hb d_MO_gap_19 rfl (lv_at hl 2 rfl) ?_
    refine va_put (D := D) (ci := 7) (v := .int v) (ty := .int) (C := R_MO) (T := F_MO) (N := 50) hx hb hts i_MO t_MO t_MO_ok n_MO hown hK hP hD hS 0 rfl rfl 2 (by decide) (hts _ q_634) (fun _ h9 => h9) rfl (by decide +kernel) rfl rfl (Nat.le_of_ble_eq_true rfl) d_MO_gap_20 (fun H_3 locs hP hD hS => ?_)
    have hP : va_P D vwCl [(y, .inr (7, [.int 2, .int 0, .int v, .int 5, .ref y1, .ref y2, .ref y3, .ref y4, .int 0, .ref y5, .ref y6, .ref y7, .ref y8, .ref y9, .ref y10, .ref y11, .ref y12, .ref y13, .ref y14, .ref y15, .int 0, .ref y16, .ref y17, .ref y18, .ref y19, .ref y20, .ref y21, .ref y22, .ref y23, .ref y24, .ref y25, .ref y26, .ref y27, .int 0, .int 0, .ref y28, .ref y29, .ref y30, .ref y31, .ref y32, .ref y33, .ref y34, .ref y35, .ref y36, .int 0, .ref y37, .ref y38, .int 0, .int 0, .int 0]))] H_3 := hP
    have hD : va_D A [(y, .inr (7, [.int 2, .int 0, .int v, .int 5, .ref y1, .ref y2, .ref y3, .ref y4, .int 0, .ref y5, .ref y6, .ref y7, .ref y8, .ref y9, .ref y10, .ref y11, .ref y12, .ref y13, .ref y14, .ref y15, .int 0, .ref y16, .ref y17, .ref y18, .ref y19, .ref y20, .ref y21, .ref y22, .ref y23, .ref y24, .ref y25, .ref y26, .ref y27, .int 0, .int 0, .ref y28, .ref y29, .ref y30, .ref y31, .ref y32, .ref y33, .ref y34, .ref y35, .ref y36, .int 0, .ref y37, .ref y38, .int 0, .int 0, .int 0]))] := hD
    refine lv_iload_n hx hb d_MO_gap_23 rfl (lv_at hl 0 rfl) ?_
    have hP9 := hP.sub (ws' := []) [] rfl
    have hD9 := hD.sub (ws' := []) [] (by decide) rfl
    refine W.widen (k := 0) (n := 0) (Nat.le_of_ble_eq_true rfl) (Nat.le_of_ble_eq_true rfl) ?_
    exact W.iret (v := 3) hx hb hr (fun t ht hW => ⟨⟨3, (), rfl, (by first | decide | simp [sp_gap, h_2]), by rw [ht]; exact hP9, hD9⟩, hS.F ht⟩) hS.2.2 d_MO_gap_24
  · refine lv_bipush (v := (-2)) hx hb d_MO_gap_10 (by decide) ?_
    have hP9 := hP.sub (ws' := []) [] rfl
    have hD9 := hD.sub (ws' := []) [] (by decide) rfl
    refine W.widen (k := 0) (n := 0) (Nat.le_of_ble_eq_true rfl) (Nat.le_of_ble_eq_true rfl) ?_
    exact W.iret (v := (-2)) hx hb hr (fun t ht hW => ⟨⟨(-2), (), rfl, (by first | decide | simp [sp_gap, h_2]), by rw [ht]; exact hP9, hD9⟩, hS.F ht⟩) hS.2.2 d_MO_gap_12

set_option maxHeartbeats 4000000 in
set_option maxRecDepth 100000 in
theorem f_MO_look (l : Launch) (D : va_G) (cI cZ : ClassId) (y : Nat) (v : Int32) (y1 : Nat) (y2 : Nat) (y3 : Nat) (y4 : Nat) (y5 : Nat) (y6 : Nat) (y7 : Nat) (y8 : Nat) (y9 : Nat) (y10 : Nat) (y11 : Nat) (y12 : Nat) (y13 : Nat) (y14 : Nat) (y15 : Nat) (y16 : Nat) (y17 : Nat) (y18 : Nat) (y19 : Nat) (y20 : Nat) (y21 : Nat) (y22 : Nat) (y23 : Nat) (y24 : Nat) (y25 : Nat) (y26 : Nat) (y27 : Nat) (y28 : Nat) (y29 : Nat) (y30 : Nat) (y31 : Nat) (y32 : Nat) (y33 : Nat) (y34 : Nat) (y35 : Nat) (y36 : Nat) (y37 : Nat) (y38 : Nat) (sz : Nat)  : Met l ⟨"PromiseChainsModel", "look", "(I)I"⟩ (mw ⟨"PromiseChainsModel", "look", "(I)I"⟩ prog_9_method_12_code 3 (some .int)) ({ frames := 1, cells := 0, slots := 0, locals := 22 }) (va_Pc [.ref y, .int v] (PB D cI cZ sz [(y, .inr (7, [.int 2, .int 0, .int 3, .int 5, .ref y1, .ref y2, .ref y3, .ref y4, .int 0, .ref y5, .ref y6, .ref y7, .ref y8, .ref y9, .ref y10, .ref y11, .ref y12, .ref y13, .ref y14, .ref y15, .int 0, .ref y16, .ref y17, .ref y18, .ref y19, .ref y20, .ref y21, .ref y22, .ref y23, .ref y24, .ref y25, .ref y26, .ref y27, .int 0, .int 0, .ref y28, .ref y29, .ref y30, .ref y31, .ref y32, .ref y33, .ref y34, .ref y35, .ref y36, .int 0, .ref y37, .ref y38, .int 0, .int 0, .int 0]))])) (va_Qi (S := Unit) (fun (r : Int32) uU => r = sp_look v) (fun uU tT => BB D (va_A [(y, .inr (7, [.int 2, .int 0, .int 3, .int 5, .ref y1, .ref y2, .ref y3, .ref y4, .int 0, .ref y5, .ref y6, .ref y7, .ref y8, .ref y9, .ref y10, .ref y11, .ref y12, .ref y13, .ref y14, .ref y15, .int 0, .ref y16, .ref y17, .ref y18, .ref y19, .ref y20, .ref y21, .ref y22, .ref y23, .ref y24, .ref y25, .ref y26, .ref y27, .int 0, .int 0, .ref y28, .ref y29, .ref y30, .ref y31, .ref y32, .ref y33, .ref y34, .ref y35, .ref y36, .int 0, .ref y37, .ref y38, .int 0, .int 0, .int 0]))] sz) [] tT) (va_A [(y, .inr (7, [.int 2, .int 0, .int 3, .int 5, .ref y1, .ref y2, .ref y3, .ref y4, .int 0, .ref y5, .ref y6, .ref y7, .ref y8, .ref y9, .ref y10, .ref y11, .ref y12, .ref y13, .ref y14, .ref y15, .int 0, .ref y16, .ref y17, .ref y18, .ref y19, .ref y20, .ref y21, .ref y22, .ref y23, .ref y24, .ref y25, .ref y26, .ref y27, .int 0, .int 0, .ref y28, .ref y29, .ref y30, .ref y31, .ref y32, .ref y33, .ref y34, .ref y35, .ref y36, .int 0, .ref y37, .ref y38, .int 0, .int 0, .int 0]))] sz)) 0 0 (va_A [(y, .inr (7, [.int 2, .int 0, .int 3, .int 5, .ref y1, .ref y2, .ref y3, .ref y4, .int 0, .ref y5, .ref y6, .ref y7, .ref y8, .ref y9, .ref y10, .ref y11, .ref y12, .ref y13, .ref y14, .ref y15, .int 0, .ref y16, .ref y17, .ref y18, .ref y19, .ref y20, .ref y21, .ref y22, .ref y23, .ref y24, .ref y25, .ref y26, .ref y27, .int 0, .int 0, .ref y28, .ref y29, .ref y30, .ref y31, .ref y32, .ref y33, .ref y34, .ref y35, .ref y36, .int 0, .ref y37, .ref y38, .int 0, .int 0, .int 0]))] sz) := by
  refine Met.ofW (cc := prog_9_method_12_code) (maxL := 3) (ret := (some .int)) (by decide) rfl ?_
  intro p e s m args below meth c s₁ B hml hv
  obtain ⟨rfl, hsz, hP, hK, hD0, hN⟩ := hv
  have hx := B.exec
  have hb := B.bytes
  have hr := B.returns
  have hts0 := atoms_spec (ws := mw ⟨"PromiseChainsModel", "look", "(I)I"⟩ prog_9_method_12_code 3 (some .int)) B.pre
  have hts : ∀ w ∈ tblG, w.before _ s = true := fun w h => hts0 w (List.mem_cons_of_mem _ h)
  have hown : s.vm.findClass "PromiseChainsModel" = some m.cls := findClass_of_methodNamed B.named
  have hlocks := B.notSynchronized
  subst hsz
  have hD := hD0.self (sz := s.heap.size)
  generalize hAe : va_A [(y, .inr (7, [.int 2, .int 0, .int 3, .int 5, .ref y1, .ref y2, .ref y3, .ref y4, .int 0, .ref y5, .ref y6, .ref y7, .ref y8, .ref y9, .ref y10, .ref y11, .ref y12, .ref y13, .ref y14, .ref y15, .int 0, .ref y16, .ref y17, .ref y18, .ref y19, .ref y20, .ref y21, .ref y22, .ref y23, .ref y24, .ref y25, .ref y26, .ref y27, .int 0, .int 0, .ref y28, .ref y29, .ref y30, .ref y31, .ref y32, .ref y33, .ref y34, .ref y35, .ref y36, .int 0, .ref y37, .ref y38, .int 0, .int 0, .int 0]))] s.heap.size = A at hD ⊢
  have hA : ∀ q : Nat, s.heap.size ≤ q → A q := fun q h => by rw [← hAe]; exact Or.inr h
  have hS : va_S A s.heap s.heap [] := va_S.rf
  have hP : va_P D vwCl [(y, .inr (7, [.int 2, .int 0, .int 3, .int 5, .ref y1, .ref y2, .ref y3, .ref y4, .int 0, .ref y5, .ref y6, .ref y7, .ref y8, .ref y9, .ref y10, .ref y11, .ref y12, .ref y13, .ref y14, .ref y15, .int 0, .ref y16, .ref y17, .ref y18, .ref y19, .ref y20, .ref y21, .ref y22, .ref y23, .ref y24, .ref y25, .ref y26, .ref y27, .int 0, .int 0, .ref y28, .ref y29, .ref y30, .ref y31, .ref y32, .ref y33, .ref y34, .ref y35, .ref y36, .int 0, .ref y37, .ref y38, .int 0, .int 0, .int 0]))] s.heap := hP
  have hl := lv_entry ([.ref y, .int v]) (n := 3) (Nat.le_of_ble_eq_true rfl)
  rw [lg_entry_eq]
  generalize (lg_sl ([.ref y, .int v]) ++ List.replicate (3 - (lg_sl ([.ref y, .int v])).length) Slot.unset).toArray = ls at hl ⊢
  have hl : lv_has ls 3 [(0, .ref y), (1, .int v)] := hl
  refine lv_iload_n hx hb d_MO_look_0 rfl (lv_at hl 1 rfl) ?_
  refine lv_iconst (v := 1) hx hb d_MO_look_1 (by decide) ?_
  refine lv_bipush (v := 50) hx hb d_MO_look_2 (by decide) ?_
  have hPc := hP.sub (ws' := []) [] rfl
  have hDc := hD.sub (ws' := []) [] (by decide) rfl
  refine vp_callSi (va_Run.run (va_runS (As := [.int v, .int 1, .int 50]) (rest := []) ⟨hx, hb, hml, hown, hts⟩ (c_in l D cI cZ v 1 50 s.heap.size ) (my_cwS 3 hts q_789 q_787 q_788 q_8 rfl rfl (by decide +kernel) ⟨Nat.le_of_ble_eq_true rfl, Nat.le_of_ble_eq_true rfl⟩) (my_preS hPc hDc hK hN) rfl rfl hl.1 rfl (lv_room (Nat.le_of_ble_eq_true rfl)) d_MO_look_4 ⟨Nat.le_of_ble_eq_true rfl, Nat.le_of_ble_eq_true rfl⟩)) (fun r_1 hw_1 => ?_)
  have hw_1 : r_1 = isw v 1 50 := hw_1
  subst hw_1
  refine lv_if_ne (tgt := 13) hx hb d_MO_look_7 (by decide) (fun h_2 => ?_) (fun h_2 => ?_)
  · refine lv_aload_n hx hb d_MO_look_13 rfl (lv_at hl 0 rfl) ?_
    refine va_get (D := D) (ci := 7) (v := .int 5) (C := R_MO) (T := F_MO) (N := 50) hx hb hts i_MO hown hK hP 0 rfl rfl 3 (by decide) (hts _ q_635) (fun _ h9 => h9) rfl d_MO_look_14 ?_
    refine lv_istore_n (lv' := [(2, .int 5), (0, .ref y), (1, .int v)]) hx hb d_MO_look_17 rfl hl (by decide) rfl (fun ls hl => ?_)
    refine lv_aload_n hx hb d_MO_look_18 rfl (lv_at hl 1 rfl) ?_
    refine lv_iload_n hx hb d_MO_look_19 rfl (lv_at hl 2 rfl) ?_
    refine va_put (D := D) (ci := 7) (v := .int v) (ty := .int) (C := R_MO) (T := F_MO) (N := 50) hx hb hts i_MO t_MO t_MO_ok n_MO hown hK hP hD hS 0 rfl rfl 3 (by decide) (hts _ q_635) (fun _ h9 => h9) rfl (by decide +kernel) rfl rfl (Nat.le_of_ble_eq_true rfl) d_MO_look_20 (fun H_3 locs hP hD hS => ?_)
    have hP : va_P D vwCl [(y, .inr (7, [.int 2, .int 0, .int 3, .int v, .ref y1, .ref y2, .ref y3, .ref y4, .int 0, .ref y5, .ref y6, .ref y7, .ref y8, .ref y9, .ref y10, .ref y11, .ref y12, .ref y13, .ref y14, .ref y15, .int 0, .ref y16, .ref y17, .ref y18, .ref y19, .ref y20, .ref y21, .ref y22, .ref y23, .ref y24, .ref y25, .ref y26, .ref y27, .int 0, .int 0, .ref y28, .ref y29, .ref y30, .ref y31, .ref y32, .ref y33, .ref y34, .ref y35, .ref y36, .int 0, .ref y37, .ref y38, .int 0, .int 0, .int 0]))] H_3 := hP
    have hD : va_D A [(y, .inr (7, [.int 2, .int 0, .int 3, .int v, .ref y1, .ref y2, .ref y3, .ref y4, .int 0, .ref y5, .ref y6, .ref y7, .ref y8, .ref y9, .ref y10, .ref y11, .ref y12, .ref y13, .ref y14, .ref y15, .int 0, .ref y16, .ref y17, .ref y18, .ref y19, .ref y20, .ref y21, .ref y22, .ref y23, .ref y24, .ref y25, .ref y26, .ref y27, .int 0, .int 0, .ref y28, .ref y29, .ref y30, .ref y31, .ref y32, .ref y33, .ref y34, .ref y35, .ref y36, .int 0, .ref y37, .ref y38, .int 0, .int 0, .int 0]))] := hD
    refine lv_iload_n hx hb d_MO_look_23 rfl (lv_at hl 0 rfl) ?_
    have hP9 := hP.sub (ws' := []) [] rfl
    have hD9 := hD.sub (ws' := []) [] (by decide) rfl
    refine W.widen (k := 0) (n := 0) (Nat.le_of_ble_eq_true rfl) (Nat.le_of_ble_eq_true rfl) ?_
    exact W.iret (v := 5) hx hb hr (fun t ht hW => ⟨⟨5, (), rfl, (by first | decide | simp [sp_look, h_2]), by rw [ht]; exact hP9, hD9⟩, hS.F ht⟩) hS.2.2 d_MO_look_24
  · refine lv_bipush (v := (-2)) hx hb d_MO_look_10 (by decide) ?_
    have hP9 := hP.sub (ws' := []) [] rfl
    have hD9 := hD.sub (ws' := []) [] (by decide) rfl
    refine W.widen (k := 0) (n := 0) (Nat.le_of_ble_eq_true rfl) (Nat.le_of_ble_eq_true rfl) ?_
    exact W.iret (v := (-2)) hx hb hr (fun t ht hW => ⟨⟨(-2), (), rfl, (by first | decide | simp [sp_look, h_2]), by rw [ht]; exact hP9, hD9⟩, hS.F ht⟩) hS.2.2 d_MO_look_12

set_option maxHeartbeats 4000000 in
set_option maxRecDepth 100000 in
theorem f_MO_away (l : Launch) (D : va_G) (cI cZ : ClassId) (y : Nat) (i : Int32) (z : Int32) (y1 : Nat) (y2 : Nat) (y3 : Nat) (y4 : Nat) (y5 : Nat) (y6 : Nat) (y7 : Nat) (y8 : Nat) (y9 : Nat) (y10 : Nat) (y11 : Nat) (y12 : Nat) (y13 : Nat) (y14 : Nat) (y15 : Nat) (y16 : Nat) (y17 : Nat) (y18 : Nat) (y19 : Nat) (y20 : Nat) (y21 : Nat) (y22 : Nat) (y23 : Nat) (y24 : Nat) (y25 : Nat) (y26 : Nat) (y27 : Nat) (y28 : Nat) (y29 : Nat) (y30 : Nat) (y31 : Nat) (y32 : Nat) (y33 : Nat) (y34 : Nat) (y35 : Nat) (y36 : Nat) (y37 : Nat) (y38 : Nat) (sz : Nat)  : Met l ⟨"PromiseChainsModel", "away", "(IZ)I"⟩ (mw ⟨"PromiseChainsModel", "away", "(IZ)I"⟩ prog_9_method_13_code 4 (some .int)) ({ frames := 2, cells := 0, slots := 0, locals := 43 }) (va_Pc [.ref y, .int i, .int z] (PB D cI cZ sz [(y, .inr (7, [.int 2, .int 0, .int 3, .int 5, .ref y1, .ref y2, .ref y3, .ref y4, .int 0, .ref y5, .ref y6, .ref y7, .ref y8, .ref y9, .ref y10, .ref y11, .ref y12, .ref y13, .ref y14, .ref y15, .int 0, .ref y16, .ref y17, .ref y18, .ref y19, .ref y20, .ref y21, .ref y22, .ref y23, .ref y24, .ref y25, .ref y26, .ref y27, .int 0, .int 0, .ref y28, .ref y29, .ref y30, .ref y31, .ref y32, .ref y33, .ref y34, .ref y35, .ref y36, .int 0, .ref y37, .ref y38, .int 0, .int 0, .int 0])), (y1, .inl (cZ, 7, .inl (fun _ => 0)))])) (va_Qi (S := Unit) (fun (r : Int32) uU => r = sp_away i z) (fun uU tT => BB D (va_A [(y, .inr (7, [.int 2, .int 0, .int 3, .int 5, .ref y1, .ref y2, .ref y3, .ref y4, .int 0, .ref y5, .ref y6, .ref y7, .ref y8, .ref y9, .ref y10, .ref y11, .ref y12, .ref y13, .ref y14, .ref y15, .int 0, .ref y16, .ref y17, .ref y18, .ref y19, .ref y20, .ref y21, .ref y22, .ref y23, .ref y24, .ref y25, .ref y26, .ref y27, .int 0, .int 0, .ref y28, .ref y29, .ref y30, .ref y31, .ref y32, .ref y33, .ref y34, .ref y35, .ref y36, .int 0, .ref y37, .ref y38, .int 0, .int 0, .int 0])), (y1, .inl (cZ, 7, .inl (fun _ => 0)))] sz) [] tT) (va_A [(y, .inr (7, [.int 2, .int 0, .int 3, .int 5, .ref y1, .ref y2, .ref y3, .ref y4, .int 0, .ref y5, .ref y6, .ref y7, .ref y8, .ref y9, .ref y10, .ref y11, .ref y12, .ref y13, .ref y14, .ref y15, .int 0, .ref y16, .ref y17, .ref y18, .ref y19, .ref y20, .ref y21, .ref y22, .ref y23, .ref y24, .ref y25, .ref y26, .ref y27, .int 0, .int 0, .ref y28, .ref y29, .ref y30, .ref y31, .ref y32, .ref y33, .ref y34, .ref y35, .ref y36, .int 0, .ref y37, .ref y38, .int 0, .int 0, .int 0])), (y1, .inl (cZ, 7, .inl (fun _ => 0)))] sz)) 0 0 (va_A [(y, .inr (7, [.int 2, .int 0, .int 3, .int 5, .ref y1, .ref y2, .ref y3, .ref y4, .int 0, .ref y5, .ref y6, .ref y7, .ref y8, .ref y9, .ref y10, .ref y11, .ref y12, .ref y13, .ref y14, .ref y15, .int 0, .ref y16, .ref y17, .ref y18, .ref y19, .ref y20, .ref y21, .ref y22, .ref y23, .ref y24, .ref y25, .ref y26, .ref y27, .int 0, .int 0, .ref y28, .ref y29, .ref y30, .ref y31, .ref y32, .ref y33, .ref y34, .ref y35, .ref y36, .int 0, .ref y37, .ref y38, .int 0, .int 0, .int 0])), (y1, .inl (cZ, 7, .inl (fun _ => 0)))] sz) := by
  refine Met.ofW (cc := prog_9_method_13_code) (maxL := 4) (ret := (some .int)) (by decide) rfl ?_
  intro p e s m args below meth c s₁ B hml hv
  obtain ⟨rfl, hsz, hP, hK, hD0, hN⟩ := hv
  have hx := B.exec
  have hb := B.bytes
  have hr := B.returns
  have hts0 := atoms_spec (ws := mw ⟨"PromiseChainsModel", "away", "(IZ)I"⟩ prog_9_method_13_code 4 (some .int)) B.pre
  have hts : ∀ w ∈ tblG, w.before _ s = true := fun w h => hts0 w (List.mem_cons_of_mem _ h)
  have hown : s.vm.findClass "PromiseChainsModel" = some m.cls := findClass_of_methodNamed B.named
  have hlocks := B.notSynchronized
  subst hsz
  have hD := hD0.self (sz := s.heap.size)
  generalize hAe : va_A [(y, .inr (7, [.int 2, .int 0, .int 3, .int 5, .ref y1, .ref y2, .ref y3, .ref y4, .int 0, .ref y5, .ref y6, .ref y7, .ref y8, .ref y9, .ref y10, .ref y11, .ref y12, .ref y13, .ref y14, .ref y15, .int 0, .ref y16, .ref y17, .ref y18, .ref y19, .ref y20, .ref y21, .ref y22, .ref y23, .ref y24, .ref y25, .ref y26, .ref y27, .int 0, .int 0, .ref y28, .ref y29, .ref y30, .ref y31, .ref y32, .ref y33, .ref y34, .ref y35, .ref y36, .int 0, .ref y37, .ref y38, .int 0, .int 0, .int 0])), (y1, .inl (cZ, 7, .inl (fun _ => 0)))] s.heap.size = A at hD ⊢
  have hA : ∀ q : Nat, s.heap.size ≤ q → A q := fun q h => by rw [← hAe]; exact Or.inr h
  have hS : va_S A s.heap s.heap [] := va_S.rf
  have hP : va_P D vwCl [(y, .inr (7, [.int 2, .int 0, .int 3, .int 5, .ref y1, .ref y2, .ref y3, .ref y4, .int 0, .ref y5, .ref y6, .ref y7, .ref y8, .ref y9, .ref y10, .ref y11, .ref y12, .ref y13, .ref y14, .ref y15, .int 0, .ref y16, .ref y17, .ref y18, .ref y19, .ref y20, .ref y21, .ref y22, .ref y23, .ref y24, .ref y25, .ref y26, .ref y27, .int 0, .int 0, .ref y28, .ref y29, .ref y30, .ref y31, .ref y32, .ref y33, .ref y34, .ref y35, .ref y36, .int 0, .ref y37, .ref y38, .int 0, .int 0, .int 0])), (y1, .inl (cZ, 7, .inl (fun _ => 0)))] s.heap := hP
  have hl := lv_entry ([.ref y, .int i, .int z]) (n := 4) (Nat.le_of_ble_eq_true rfl)
  rw [lg_entry_eq]
  generalize (lg_sl ([.ref y, .int i, .int z]) ++ List.replicate (4 - (lg_sl ([.ref y, .int i, .int z])).length) Slot.unset).toArray = ls at hl ⊢
  have hl : lv_has ls 4 [(0, .ref y), (1, .int i), (2, .int z)] := hl
  refine lv_aload_n hx hb d_MO_away_0 rfl (lv_at hl 0 rfl) ?_
  refine lv_iload_n hx hb d_MO_away_1 rfl (lv_at hl 1 rfl) ?_
  have hPc := hP.sub (ws' := [(y, .inr (7, [.int 2, .int 0, .int 3, .int 5, .ref y1, .ref y2, .ref y3, .ref y4, .int 0, .ref y5, .ref y6, .ref y7, .ref y8, .ref y9, .ref y10, .ref y11, .ref y12, .ref y13, .ref y14, .ref y15, .int 0, .ref y16, .ref y17, .ref y18, .ref y19, .ref y20, .ref y21, .ref y22, .ref y23, .ref y24, .ref y25, .ref y26, .ref y27, .int 0, .int 0, .ref y28, .ref y29, .ref y30, .ref y31, .ref y32, .ref y33, .ref y34, .ref y35, .ref y36, .int 0, .ref y37, .ref y38, .int 0, .int 0, .int 0]))]) [0] rfl
  have hDc := hD.sub (ws' := [(y, .inr (7, [.int 2, .int 0, .int 3, .int 5, .ref y1, .ref y2, .ref y3, .ref y4, .int 0, .ref y5, .ref y6, .ref y7, .ref y8, .ref y9, .ref y10, .ref y11, .ref y12, .ref y13, .ref y14, .ref y15, .int 0, .ref y16, .ref y17, .ref y18, .ref y19, .ref y20, .ref y21, .ref y22, .ref y23, .ref y24, .ref y25, .ref y26, .ref y27, .int 0, .int 0, .ref y28, .ref y29, .ref y30, .ref y31, .ref y32, .ref y33, .ref y34, .ref y35, .ref y36, .int 0, .ref y37, .ref y38, .int 0, .int 0, .int 0]))]) [0] (by decide) rfl
  refine vp_callSi (va_Run.run (va_runV (As := [.int i]) (rest := []) ⟨hx, hb, hml, hown, hts⟩ (f_MO_isPerson l D cI cZ y i y1 y2 y3 y4 y5 y6 y7 y8 y9 y10 y11 y12 y13 y14 y15 y16 y17 y18 y19 y20 y21 y22 y23 y24 y25 y26 y27 y28 y29 y30 y31 y32 y33 y34 y35 y36 y37 y38 s.heap.size ) (my_cwV 1 hts q_797 q_794 q_796 q_p5 q_8 rfl rfl (by decide +kernel) ⟨Nat.le_of_ble_eq_true rfl, Nat.le_of_ble_eq_true rfl⟩) (my_preV hPc hDc hK hN 7 0 rfl rfl) rfl rfl hl.1 rfl (lv_room (Nat.le_of_ble_eq_true rfl)) d_MO_away_2 ⟨Nat.le_of_ble_eq_true rfl, Nat.le_of_ble_eq_true rfl⟩)) (fun r_1 hw_1 => ?_)
  have hw_1 : r_1 = isw i 0 1 := hw_1
  subst hw_1
  refine lv_if_ne (tgt := 11) hx hb d_MO_away_5 (by decide) (fun h_2 => ?_) (fun h_2 => ?_)
  · refine lv_aload_n hx hb d_MO_away_11 rfl (lv_at hl 0 rfl) ?_
    refine va_get (D := D) (ci := 7) (v := .ref y1) (C := R_MO) (T := F_MO) (N := 50) hx hb hts i_MO hown hK hP 0 rfl rfl 4 (by decide) (hts _ q_636) (fun _ h9 => h9) rfl d_MO_away_12 ?_
    refine lv_iload_n hx hb d_MO_away_15 rfl (lv_at hl 1 rfl) ?_
    refine va_zald hx hb hK hP 1 1 rfl rfl (isw_in h_2 (by decide)) d_MO_away_16 ?_
    refine lv_seti (0) (rfl) ?_
    refine lv_iload_n hx hb d_MO_away_17 rfl (lv_at hl 2 rfl) ?_
    refine lv_icmp_ne (tgt := 24) hx hb d_MO_away_18 (by decide) (fun h_3 => ?_) (fun h_3 => ?_)
    · refine lv_aload_n hx hb d_MO_away_24 rfl (lv_at hl 0 rfl) ?_
      refine va_get (D := D) (ci := 7) (v := .ref y1) (C := R_MO) (T := F_MO) (N := 50) hx hb hts i_MO hown hK hP 0 rfl rfl 4 (by decide) (hts _ q_636) (fun _ h9 => h9) rfl d_MO_away_25 ?_
      refine lv_iload_n hx hb d_MO_away_28 rfl (lv_at hl 1 rfl) ?_
      refine lv_iload_n hx hb d_MO_away_29 rfl (lv_at hl 2 rfl) ?_
      refine va_zast hx hb hK hP hD hS 1 1 rfl rfl (isw_in h_2 (by decide)) d_MO_away_30 (fun H_4 locs hP hD hS => ?_)
      have hP : va_P D vwCl [(y, .inr (7, [.int 2, .int 0, .int 3, .int 5, .ref y1, .ref y2, .ref y3, .ref y4, .int 0, .ref y5, .ref y6, .ref y7, .ref y8, .ref y9, .ref y10, .ref y11, .ref y12, .ref y13, .ref y14, .ref y15, .int 0, .ref y16, .ref y17, .ref y18, .ref y19, .ref y20, .ref y21, .ref y22, .ref y23, .ref y24, .ref y25, .ref y26, .ref y27, .int 0, .int 0, .ref y28, .ref y29, .ref y30, .ref y31, .ref y32, .ref y33, .ref y34, .ref y35, .ref y36, .int 0, .ref y37, .ref y38, .int 0, .int 0, .int 0])), (y1, .inl (cZ, 7, .inl (upd (fun _ => 0) i.toNatClampNeg (vp_nar .boolean z))))] H_4 := hP
      have hD : va_D A [(y, .inr (7, [.int 2, .int 0, .int 3, .int 5, .ref y1, .ref y2, .ref y3, .ref y4, .int 0, .ref y5, .ref y6, .ref y7, .ref y8, .ref y9, .ref y10, .ref y11, .ref y12, .ref y13, .ref y14, .ref y15, .int 0, .ref y16, .ref y17, .ref y18, .ref y19, .ref y20, .ref y21, .ref y22, .ref y23, .ref y24, .ref y25, .ref y26, .ref y27, .int 0, .int 0, .ref y28, .ref y29, .ref y30, .ref y31, .ref y32, .ref y33, .ref y34, .ref y35, .ref y36, .int 0, .ref y37, .ref y38, .int 0, .int 0, .int 0])), (y1, .inl (cZ, 7, .inl (upd (fun _ => 0) i.toNatClampNeg (vp_nar .boolean z))))] := hD
      refine lv_iload_n hx hb d_MO_away_31 rfl (lv_at hl 2 rfl) ?_
      refine lv_if_eq (tgt := 37) hx hb d_MO_away_32 (by decide) (fun h => absurd h (Ne.symm h_3)) (fun _ => ?_)
      refine lv_iconst (v := 0) hx hb d_MO_away_35 (by decide) ?_
      have hP9 := hP.sub (ws' := []) [] rfl
      have hD9 := hD.sub (ws' := []) [] (by decide) rfl
      refine W.widen (k := 0) (n := 0) (Nat.le_of_ble_eq_true rfl) (Nat.le_of_ble_eq_true rfl) ?_
      exact W.iret (v := 0) hx hb hr (fun t ht hW => ⟨⟨0, (), rfl, (by first | decide | simp [sp_away, h_2, (Ne.symm h_3)]), by rw [ht]; exact hP9, hD9⟩, hS.F ht⟩) hS.2.2 d_MO_away_36
    · refine lv_bipush (v := (-3)) hx hb d_MO_away_21 (by decide) ?_
      have hP9 := hP.sub (ws' := []) [] rfl
      have hD9 := hD.sub (ws' := []) [] (by decide) rfl
      refine W.widen (k := 0) (n := 0) (Nat.le_of_ble_eq_true rfl) (Nat.le_of_ble_eq_true rfl) ?_
      exact W.iret (v := (-3)) hx hb hr (fun t ht hW => ⟨⟨(-3), (), rfl, (by first | decide | simp [sp_away, h_2, (Eq.symm h_3)]), by rw [ht]; exact hP9, hD9⟩, hS.F ht⟩) hS.2.2 d_MO_away_23
  · refine lv_bipush (v := (-2)) hx hb d_MO_away_8 (by decide) ?_
    have hP9 := hP.sub (ws' := []) [] rfl
    have hD9 := hD.sub (ws' := []) [] (by decide) rfl
    refine W.widen (k := 0) (n := 0) (Nat.le_of_ble_eq_true rfl) (Nat.le_of_ble_eq_true rfl) ?_
    exact W.iret (v := (-2)) hx hb hr (fun t ht hW => ⟨⟨(-2), (), rfl, (by first | decide | simp [sp_away, h_2]), by rw [ht]; exact hP9, hD9⟩, hS.F ht⟩) hS.2.2 d_MO_away_10

set_option maxHeartbeats 4000000 in
set_option maxRecDepth 100000 in
theorem f_MO_isAsked (l : Launch) (D : va_G) (cI cZ : ClassId) (y : Nat) (i : Int32) (j : Int32) (v : Int32) (y1 : Nat) (y2 : Nat) (y3 : Nat) (y4 : Nat) (y5 : Nat) (y6 : Nat) (y7 : Nat) (y8 : Nat) (y9 : Nat) (y10 : Nat) (y11 : Nat) (y12 : Nat) (y13 : Nat) (y14 : Nat) (y15 : Nat) (y16 : Nat) (y17 : Nat) (y18 : Nat) (y19 : Nat) (y20 : Nat) (y21 : Nat) (y22 : Nat) (y23 : Nat) (y24 : Nat) (y25 : Nat) (y26 : Nat) (y27 : Nat) (y28 : Nat) (y29 : Nat) (y30 : Nat) (y31 : Nat) (y32 : Nat) (y33 : Nat) (y34 : Nat) (y35 : Nat) (y36 : Nat) (y37 : Nat) (y38 : Nat) (sz : Nat)  : Met l ⟨"PromiseChainsModel", "isAsked", "(III)Z"⟩ (mw ⟨"PromiseChainsModel", "isAsked", "(III)Z"⟩ prog_9_method_16_code 4 (some .boolean)) ({ frames := 2, cells := 0, slots := 0, locals := 43 }) (va_Pc [.ref y, .int i, .int j, .int v] (PB D cI cZ sz [(y, .inr (7, [.int 2, .int 0, .int 3, .int 5, .ref y1, .ref y2, .ref y3, .ref y4, .int 0, .ref y5, .ref y6, .ref y7, .ref y8, .ref y9, .ref y10, .ref y11, .ref y12, .ref y13, .ref y14, .ref y15, .int 0, .ref y16, .ref y17, .ref y18, .ref y19, .ref y20, .ref y21, .ref y22, .ref y23, .ref y24, .ref y25, .ref y26, .ref y27, .int 0, .int 0, .ref y28, .ref y29, .ref y30, .ref y31, .ref y32, .ref y33, .ref y34, .ref y35, .ref y36, .int 0, .ref y37, .ref y38, .int 0, .int 0, .int 0]))])) (vp_Si (fun r => r = maw i j v)) 0 0 (fun _ => False) := by
  refine Met.ofW (cc := prog_9_method_16_code) (maxL := 4) (ret := (some .boolean)) (by decide) rfl ?_
  intro p e s m args below meth c s₁ B hml hv
  obtain ⟨rfl, hsz, hP, hK, hD0, hN⟩ := hv
  have hx := B.exec
  have hb := B.bytes
  have hr := B.returns
  have hts0 := atoms_spec (ws := mw ⟨"PromiseChainsModel", "isAsked", "(III)Z"⟩ prog_9_method_16_code 4 (some .boolean)) B.pre
  have hts : ∀ w ∈ tblG, w.before _ s = true := fun w h => hts0 w (List.mem_cons_of_mem _ h)
  have hown : s.vm.findClass "PromiseChainsModel" = some m.cls := findClass_of_methodNamed B.named
  have hlocks := B.notSynchronized
  subst hsz
  have hD := hD0
  have hP : va_P D vwCl [(y, .inr (7, [.int 2, .int 0, .int 3, .int 5, .ref y1, .ref y2, .ref y3, .ref y4, .int 0, .ref y5, .ref y6, .ref y7, .ref y8, .ref y9, .ref y10, .ref y11, .ref y12, .ref y13, .ref y14, .ref y15, .int 0, .ref y16, .ref y17, .ref y18, .ref y19, .ref y20, .ref y21, .ref y22, .ref y23, .ref y24, .ref y25, .ref y26, .ref y27, .int 0, .int 0, .ref y28, .ref y29, .ref y30, .ref y31, .ref y32, .ref y33, .ref y34, .ref y35, .ref y36, .int 0, .ref y37, .ref y38, .int 0, .int 0, .int 0]))] s.heap := hP
  have hl := lv_entry ([.ref y, .int i, .int j, .int v]) (n := 4) (Nat.le_of_ble_eq_true rfl)
  rw [lg_entry_eq]
  generalize (lg_sl ([.ref y, .int i, .int j, .int v]) ++ List.replicate (4 - (lg_sl ([.ref y, .int i, .int j, .int v])).length) Slot.unset).toArray = ls at hl ⊢
  have hl : lv_has ls 4 [(0, .ref y), (1, .int i), (2, .int j), (3, .int v)] := hl
  refine lv_aload_n hx hb d_MO_isAsked_0 rfl (lv_at hl 0 rfl) ?_
  refine lv_iload_n hx hb d_MO_isAsked_1 rfl (lv_at hl 1 rfl) ?_
  have hPc := hP.sub (ws' := [(y, .inr (7, [.int 2, .int 0, .int 3, .int 5, .ref y1, .ref y2, .ref y3, .ref y4, .int 0, .ref y5, .ref y6, .ref y7, .ref y8, .ref y9, .ref y10, .ref y11, .ref y12, .ref y13, .ref y14, .ref y15, .int 0, .ref y16, .ref y17, .ref y18, .ref y19, .ref y20, .ref y21, .ref y22, .ref y23, .ref y24, .ref y25, .ref y26, .ref y27, .int 0, .int 0, .ref y28, .ref y29, .ref y30, .ref y31, .ref y32, .ref y33, .ref y34, .ref y35, .ref y36, .int 0, .ref y37, .ref y38, .int 0, .int 0, .int 0]))]) [0] rfl
  have hDc := hD.sub (ws' := [(y, .inr (7, [.int 2, .int 0, .int 3, .int 5, .ref y1, .ref y2, .ref y3, .ref y4, .int 0, .ref y5, .ref y6, .ref y7, .ref y8, .ref y9, .ref y10, .ref y11, .ref y12, .ref y13, .ref y14, .ref y15, .int 0, .ref y16, .ref y17, .ref y18, .ref y19, .ref y20, .ref y21, .ref y22, .ref y23, .ref y24, .ref y25, .ref y26, .ref y27, .int 0, .int 0, .ref y28, .ref y29, .ref y30, .ref y31, .ref y32, .ref y33, .ref y34, .ref y35, .ref y36, .int 0, .ref y37, .ref y38, .int 0, .int 0, .int 0]))]) [0] (by decide) rfl
  refine vp_callSi (va_Run.run (va_runV (As := [.int i]) (rest := []) ⟨hx, hb, hml, hown, hts⟩ (f_MO_isPerson l D cI cZ y i y1 y2 y3 y4 y5 y6 y7 y8 y9 y10 y11 y12 y13 y14 y15 y16 y17 y18 y19 y20 y21 y22 y23 y24 y25 y26 y27 y28 y29 y30 y31 y32 y33 y34 y35 y36 y37 y38 s.heap.size ) (my_cwV 1 hts q_797 q_794 q_796 q_p5 q_8 rfl rfl (by decide +kernel) ⟨Nat.le_of_ble_eq_true rfl, Nat.le_of_ble_eq_true rfl⟩) (my_preV hPc hDc hK hN 7 0 rfl rfl) rfl rfl hl.1 rfl (lv_room (Nat.le_of_ble_eq_true rfl)) d_MO_isAsked_2 ⟨Nat.le_of_ble_eq_true rfl, Nat.le_of_ble_eq_true rfl⟩)) (fun r_1 hw_1 => ?_)
  have hw_1 : r_1 = isw i 0 1 := hw_1
  subst hw_1
  refine lv_if_eq (tgt := 35) hx hb d_MO_isAsked_5 (by decide) (fun h_2 => ?_) (fun h_2 => ?_)
  · refine lv_iconst (v := 0) hx hb d_MO_isAsked_35 (by decide) ?_
    exact W.zret (v := 0) hx hb hr rfl (fun t ht hW => ⟨0, rfl, (by first | decide | simp [maw, h_2]), ht⟩) (fun q h => absurd h List.not_mem_nil) d_MO_isAsked_36
  · refine lv_aload_n hx hb d_MO_isAsked_8 rfl (lv_at hl 0 rfl) ?_
    refine lv_iload_n hx hb d_MO_isAsked_9 rfl (lv_at hl 2 rfl) ?_
    have hPc := hP.sub (ws' := [(y, .inr (7, [.int 2, .int 0, .int 3, .int 5, .ref y1, .ref y2, .ref y3, .ref y4, .int 0, .ref y5, .ref y6, .ref y7, .ref y8, .ref y9, .ref y10, .ref y11, .ref y12, .ref y13, .ref y14, .ref y15, .int 0, .ref y16, .ref y17, .ref y18, .ref y19, .ref y20, .ref y21, .ref y22, .ref y23, .ref y24, .ref y25, .ref y26, .ref y27, .int 0, .int 0, .ref y28, .ref y29, .ref y30, .ref y31, .ref y32, .ref y33, .ref y34, .ref y35, .ref y36, .int 0, .ref y37, .ref y38, .int 0, .int 0, .int 0]))]) [0] rfl
    have hDc := hD.sub (ws' := [(y, .inr (7, [.int 2, .int 0, .int 3, .int 5, .ref y1, .ref y2, .ref y3, .ref y4, .int 0, .ref y5, .ref y6, .ref y7, .ref y8, .ref y9, .ref y10, .ref y11, .ref y12, .ref y13, .ref y14, .ref y15, .int 0, .ref y16, .ref y17, .ref y18, .ref y19, .ref y20, .ref y21, .ref y22, .ref y23, .ref y24, .ref y25, .ref y26, .ref y27, .int 0, .int 0, .ref y28, .ref y29, .ref y30, .ref y31, .ref y32, .ref y33, .ref y34, .ref y35, .ref y36, .int 0, .ref y37, .ref y38, .int 0, .int 0, .int 0]))]) [0] (by decide) rfl
    refine vp_callSi (va_Run.run (va_runV (As := [.int j]) (rest := []) ⟨hx, hb, hml, hown, hts⟩ (f_MO_isPerson l D cI cZ y j y1 y2 y3 y4 y5 y6 y7 y8 y9 y10 y11 y12 y13 y14 y15 y16 y17 y18 y19 y20 y21 y22 y23 y24 y25 y26 y27 y28 y29 y30 y31 y32 y33 y34 y35 y36 y37 y38 s.heap.size ) (my_cwV 1 hts q_797 q_794 q_796 q_p5 q_8 rfl rfl (by decide +kernel) ⟨Nat.le_of_ble_eq_true rfl, Nat.le_of_ble_eq_true rfl⟩) (my_preV hPc hDc hK hN 7 0 rfl rfl) rfl rfl hl.1 rfl (lv_room (Nat.le_of_ble_eq_true rfl)) d_MO_isAsked_10 ⟨Nat.le_of_ble_eq_true rfl, Nat.le_of_ble_eq_true rfl⟩)) (fun r_3 hw_3 => ?_)
    have hw_3 : r_3 = isw j 0 1 := hw_3
    subst hw_3
    refine lv_if_eq (tgt := 35) hx hb d_MO_isAsked_13 (by decide) (fun h_4 => ?_) (fun h_4 => ?_)
    · refine lv_iconst (v := 0) hx hb d_MO_isAsked_35 (by decide) ?_
      exact W.zret (v := 0) hx hb hr rfl (fun t ht hW => ⟨0, rfl, (by first | decide | simp [maw, h_2, h_4]), ht⟩) (fun q h => absurd h List.not_mem_nil) d_MO_isAsked_36
    · refine lv_iload_n hx hb d_MO_isAsked_16 rfl (lv_at hl 1 rfl) ?_
      refine lv_iload_n hx hb d_MO_isAsked_17 rfl (lv_at hl 2 rfl) ?_
      refine lv_icmp_eq (tgt := 35) hx hb d_MO_isAsked_18 (by decide) (fun h_5 => ?_) (fun h_5 => ?_)
      · refine lv_iconst (v := 0) hx hb d_MO_isAsked_35 (by decide) ?_
        exact W.zret (v := 0) hx hb hr rfl (fun t ht hW => ⟨0, rfl, (by first | decide | simp [maw, h_2, h_4, h_5]), ht⟩) (fun q h => absurd h List.not_mem_nil) d_MO_isAsked_36
      · refine lv_iload_n hx hb d_MO_isAsked_21 rfl (lv_at hl 3 rfl) ?_
        refine lv_iconst (v := 1) hx hb d_MO_isAsked_22 (by decide) ?_
        refine lv_ldc hx hb hown (hts _ q_798) d_MO_isAsked_23 ?_
        have hPc := hP.sub (ws' := []) [] rfl
        have hDc := hD.sub (ws' := []) [] (by decide) rfl
        refine vp_callSi (va_Run.run (va_runS (As := [.int v, .int 1, .int 100000]) (rest := []) ⟨hx, hb, hml, hown, hts⟩ (c_in l D cI cZ v 1 100000 s.heap.size ) (my_cwS 3 hts q_789 q_787 q_788 q_8 rfl rfl (by decide +kernel) ⟨Nat.le_of_ble_eq_true rfl, Nat.le_of_ble_eq_true rfl⟩) (my_preS hPc hDc hK hN) rfl rfl hl.1 rfl (lv_room (Nat.le_of_ble_eq_true rfl)) d_MO_isAsked_25 ⟨Nat.le_of_ble_eq_true rfl, Nat.le_of_ble_eq_true rfl⟩)) (fun r_6 hw_6 => ?_)
        have hw_6 : r_6 = isw v 1 100000 := hw_6
        subst hw_6
        refine lv_if_eq (tgt := 35) hx hb d_MO_isAsked_28 (by decide) (fun h_7 => ?_) (fun h_7 => ?_)
        · refine lv_iconst (v := 0) hx hb d_MO_isAsked_35 (by decide) ?_
          exact W.zret (v := 0) hx hb hr rfl (fun t ht hW => ⟨0, rfl, (by first | decide | simp [maw, h_2, h_4, h_5, h_7]), ht⟩) (fun q h => absurd h List.not_mem_nil) d_MO_isAsked_36
        · refine lv_iconst (v := 1) hx hb d_MO_isAsked_31 (by decide) ?_
          refine lv_goto (tgt := 36) hx hb d_MO_isAsked_32 (by decide) ?_
          exact W.zret (v := 1) hx hb hr rfl (fun t ht hW => ⟨1, rfl, (by first | decide | simp [maw, h_2, h_4, h_5, h_7]), ht⟩) (fun q h => absurd h List.not_mem_nil) d_MO_isAsked_36

set_option maxHeartbeats 4000000 in
set_option maxRecDepth 100000 in
theorem f_MO_findWay (l : Launch) (D : va_G) (cI cZ : ClassId) (y : Nat) (i : Int32) (j : Int32) (v : Int32) (y1 : Nat) (y2 : Nat) (y3 : Nat) (y4 : Nat) (y5 : Nat) (y6 : Nat) (y7 : Nat) (y8 : Nat) (y9 : Nat) (y10 : Nat) (y11 : Nat) (y12 : Nat) (y13 : Nat) (y14 : Nat) (y15 : Nat) (y16 : Nat) (y17 : Nat) (y18 : Nat) (y19 : Nat) (y20 : Nat) (y21 : Nat) (y22 : Nat) (y23 : Nat) (y24 : Nat) (y25 : Nat) (y26 : Nat) (y27 : Nat) (y28 : Nat) (y29 : Nat) (y30 : Nat) (y31 : Nat) (y32 : Nat) (y33 : Nat) (y34 : Nat) (y35 : Nat) (y36 : Nat) (y37 : Nat) (y38 : Nat) (sz : Nat)  : Met l ⟨"PromiseChainsModel", "findWay", "(III)I"⟩ (mw ⟨"PromiseChainsModel", "findWay", "(III)I"⟩ prog_9_method_15_code 14 (some .int)) ({ frames := 0, cells := 0, slots := 0, locals := 0 }) (va_Pc [.ref y, .int i, .int j, .int v] (PB D cI cZ sz [(y, .inr (7, [.int 2, .int 0, .int 3, .int 5, .ref y1, .ref y2, .ref y3, .ref y4, .int 0, .ref y5, .ref y6, .ref y7, .ref y8, .ref y9, .ref y10, .ref y11, .ref y12, .ref y13, .ref y14, .ref y15, .int 0, .ref y16, .ref y17, .ref y18, .ref y19, .ref y20, .ref y21, .ref y22, .ref y23, .ref y24, .ref y25, .ref y26, .ref y27, .int 0, .int 0, .ref y28, .ref y29, .ref y30, .ref y31, .ref y32, .ref y33, .ref y34, .ref y35, .ref y36, .int 0, .ref y37, .ref y38, .int 0, .int 0, .int 0])), (y32, .inl (cI, 9, .inl (fun _ => 0)))])) (va_Qi (S := Unit) (fun (r : Int32) uU => r = -1) (fun uU tT => BB D (va_A [(y, .inr (7, [.int 2, .int 0, .int 3, .int 5, .ref y1, .ref y2, .ref y3, .ref y4, .int 0, .ref y5, .ref y6, .ref y7, .ref y8, .ref y9, .ref y10, .ref y11, .ref y12, .ref y13, .ref y14, .ref y15, .int 0, .ref y16, .ref y17, .ref y18, .ref y19, .ref y20, .ref y21, .ref y22, .ref y23, .ref y24, .ref y25, .ref y26, .ref y27, .int 0, .int 0, .ref y28, .ref y29, .ref y30, .ref y31, .ref y32, .ref y33, .ref y34, .ref y35, .ref y36, .int 0, .ref y37, .ref y38, .int 0, .int 0, .int 0])), (y32, .inl (cI, 9, .inl (fun _ => 0)))] sz) [] tT) (va_A [(y, .inr (7, [.int 2, .int 0, .int 3, .int 5, .ref y1, .ref y2, .ref y3, .ref y4, .int 0, .ref y5, .ref y6, .ref y7, .ref y8, .ref y9, .ref y10, .ref y11, .ref y12, .ref y13, .ref y14, .ref y15, .int 0, .ref y16, .ref y17, .ref y18, .ref y19, .ref y20, .ref y21, .ref y22, .ref y23, .ref y24, .ref y25, .ref y26, .ref y27, .int 0, .int 0, .ref y28, .ref y29, .ref y30, .ref y31, .ref y32, .ref y33, .ref y34, .ref y35, .ref y36, .int 0, .ref y37, .ref y38, .int 0, .int 0, .int 0])), (y32, .inl (cI, 9, .inl (fun _ => 0)))] sz)) 0 0 (va_A [(y, .inr (7, [.int 2, .int 0, .int 3, .int 5, .ref y1, .ref y2, .ref y3, .ref y4, .int 0, .ref y5, .ref y6, .ref y7, .ref y8, .ref y9, .ref y10, .ref y11, .ref y12, .ref y13, .ref y14, .ref y15, .int 0, .ref y16, .ref y17, .ref y18, .ref y19, .ref y20, .ref y21, .ref y22, .ref y23, .ref y24, .ref y25, .ref y26, .ref y27, .int 0, .int 0, .ref y28, .ref y29, .ref y30, .ref y31, .ref y32, .ref y33, .ref y34, .ref y35, .ref y36, .int 0, .ref y37, .ref y38, .int 0, .int 0, .int 0])), (y32, .inl (cI, 9, .inl (fun _ => 0)))] sz) := by
  refine Met.ofW (cc := prog_9_method_15_code) (maxL := 14) (ret := (some .int)) (by decide) rfl ?_
  intro p e s m args below meth c s₁ B hml hv
  obtain ⟨rfl, hsz, hP, hK, hD0, hN⟩ := hv
  have hx := B.exec
  have hb := B.bytes
  have hr := B.returns
  have hts0 := atoms_spec (ws := mw ⟨"PromiseChainsModel", "findWay", "(III)I"⟩ prog_9_method_15_code 14 (some .int)) B.pre
  have hts : ∀ w ∈ tblG, w.before _ s = true := fun w h => hts0 w (List.mem_cons_of_mem _ h)
  have hown : s.vm.findClass "PromiseChainsModel" = some m.cls := findClass_of_methodNamed B.named
  have hlocks := B.notSynchronized
  subst hsz
  have hD := hD0.self (sz := s.heap.size)
  generalize hAe : va_A [(y, .inr (7, [.int 2, .int 0, .int 3, .int 5, .ref y1, .ref y2, .ref y3, .ref y4, .int 0, .ref y5, .ref y6, .ref y7, .ref y8, .ref y9, .ref y10, .ref y11, .ref y12, .ref y13, .ref y14, .ref y15, .int 0, .ref y16, .ref y17, .ref y18, .ref y19, .ref y20, .ref y21, .ref y22, .ref y23, .ref y24, .ref y25, .ref y26, .ref y27, .int 0, .int 0, .ref y28, .ref y29, .ref y30, .ref y31, .ref y32, .ref y33, .ref y34, .ref y35, .ref y36, .int 0, .ref y37, .ref y38, .int 0, .int 0, .int 0])), (y32, .inl (cI, 9, .inl (fun _ => 0)))] s.heap.size = A at hD ⊢
  have hA : ∀ q : Nat, s.heap.size ≤ q → A q := fun q h => by rw [← hAe]; exact Or.inr h
  have hS : va_S A s.heap s.heap [] := va_S.rf
  have hP : va_P D vwCl [(y, .inr (7, [.int 2, .int 0, .int 3, .int 5, .ref y1, .ref y2, .ref y3, .ref y4, .int 0, .ref y5, .ref y6, .ref y7, .ref y8, .ref y9, .ref y10, .ref y11, .ref y12, .ref y13, .ref y14, .ref y15, .int 0, .ref y16, .ref y17, .ref y18, .ref y19, .ref y20, .ref y21, .ref y22, .ref y23, .ref y24, .ref y25, .ref y26, .ref y27, .int 0, .int 0, .ref y28, .ref y29, .ref y30, .ref y31, .ref y32, .ref y33, .ref y34, .ref y35, .ref y36, .int 0, .ref y37, .ref y38, .int 0, .int 0, .int 0])), (y32, .inl (cI, 9, .inl (fun _ => 0)))] s.heap := hP
  have hl := lv_entry ([.ref y, .int i, .int j, .int v]) (n := 14) (Nat.le_of_ble_eq_true rfl)
  rw [lg_entry_eq]
  generalize (lg_sl ([.ref y, .int i, .int j, .int v]) ++ List.replicate (14 - (lg_sl ([.ref y, .int i, .int j, .int v])).length) Slot.unset).toArray = ls at hl ⊢
  have hl : lv_has ls 14 [(0, .ref y), (1, .int i), (2, .int j), (3, .int v)] := hl
  refine lv_iconst (v := (-1)) hx hb d_MO_findWay_0 (by decide) ?_
  refine lv_istore (lv' := [(4, .int (-1)), (0, .ref y), (1, .int i), (2, .int j), (3, .int v)]) hx hb d_MO_findWay_1 hl (by decide) rfl (fun ls hl => ?_)
  refine lv_iconst (v := 0) hx hb d_MO_findWay_3 (by decide) ?_
  refine lv_istore (lv' := [(5, .int 0), (4, .int (-1)), (0, .ref y), (1, .int i), (2, .int j), (3, .int v)]) hx hb d_MO_findWay_4 hl (by decide) rfl (fun ls hl => ?_)
  refine lv_iload_n hx hb d_MO_findWay_6 rfl (lv_at hl 3 rfl) ?_
  refine lv_istore (lv' := [(6, .int i), (5, .int 0), (4, .int (-1)), (0, .ref y), (1, .int i), (2, .int j), (3, .int v)]) hx hb d_MO_findWay_7 hl (by decide) rfl (fun ls hl => ?_)
  refine lv_iconst (v := 1) hx hb d_MO_findWay_9 (by decide) ?_
  refine lv_iload_n hx hb d_MO_findWay_10 rfl (lv_at hl 4 rfl) ?_
  refine lv_ishl hx hb d_MO_findWay_11 ?_
  refine lv_istore (lv' := [(7, .int (1 <<< (i &&& 31))), (6, .int i), (5, .int 0), (4, .int (-1)), (0, .ref y), (1, .int i), (2, .int j), (3, .int v)]) hx hb d_MO_findWay_12 hl (by decide) rfl (fun ls hl => ?_)
  refine lv_aload_n hx hb d_MO_findWay_14 rfl (lv_at hl 4 rfl) ?_
  refine va_get (D := D) (ci := 7) (v := .ref y32) (C := R_MO) (T := F_MO) (N := 50) hx hb hts i_MO hown hK hP 0 rfl rfl 39 (by decide) (hts _ q_671) (fun _ h9 => h9) rfl d_MO_findWay_15 ?_
  refine lv_iconst (v := 0) hx hb d_MO_findWay_18 (by decide) ?_
  refine lv_iconst (v := 0) hx hb d_MO_findWay_19 (by decide) ?_
  refine va_iast hx hb hK hP hD hS 1 0 rfl rfl (by unfold vp_in; decide) d_MO_findWay_20 (fun H_1 locs hP hD hS => ?_)
  have hP : va_P D vwCl [(y, .inr (7, [.int 2, .int 0, .int 3, .int 5, .ref y1, .ref y2, .ref y3, .ref y4, .int 0, .ref y5, .ref y6, .ref y7, .ref y8, .ref y9, .ref y10, .ref y11, .ref y12, .ref y13, .ref y14, .ref y15, .int 0, .ref y16, .ref y17, .ref y18, .ref y19, .ref y20, .ref y21, .ref y22, .ref y23, .ref y24, .ref y25, .ref y26, .ref y27, .int 0, .int 0, .ref y28, .ref y29, .ref y30, .ref y31, .ref y32, .ref y33, .ref y34, .ref y35, .ref y36, .int 0, .ref y37, .ref y38, .int 0, .int 0, .int 0])), (y32, .inl (cI, 9, .inl (upd (fun _ => 0) 0 0)))] H_1 := hP
  have hD : va_D A [(y, .inr (7, [.int 2, .int 0, .int 3, .int 5, .ref y1, .ref y2, .ref y3, .ref y4, .int 0, .ref y5, .ref y6, .ref y7, .ref y8, .ref y9, .ref y10, .ref y11, .ref y12, .ref y13, .ref y14, .ref y15, .int 0, .ref y16, .ref y17, .ref y18, .ref y19, .ref y20, .ref y21, .ref y22, .ref y23, .ref y24, .ref y25, .ref y26, .ref y27, .int 0, .int 0, .ref y28, .ref y29, .ref y30, .ref y31, .ref y32, .ref y33, .ref y34, .ref y35, .ref y36, .int 0, .ref y37, .ref y38, .int 0, .int 0, .int 0])), (y32, .inl (cI, 9, .inl (upd (fun _ => 0) 0 0)))] := hD
  refine lv_iload hx hb d_MO_findWay_21 (lv_at hl 2 rfl) ?_
  refine lv_if_lt (tgt := 335) hx hb d_MO_findWay_23 (by decide) (fun h => absurd h (by decide)) (fun _ => ?_)
  refine lv_aload_n hx hb d_MO_findWay_26 rfl (lv_at hl 4 rfl) ?_
  refine va_get (D := D) (ci := 7) (v := .ref y32) (C := R_MO) (T := F_MO) (N := 50) hx hb hts i_MO hown hK hP 0 rfl rfl 39 (by decide) (hts _ q_671) (fun _ h9 => h9) rfl d_MO_findWay_27 ?_
  refine lv_iload hx hb d_MO_findWay_30 (lv_at hl 2 rfl) ?_
  refine va_iald hx hb hK hP 1 0 rfl rfl (by unfold vp_in; decide) d_MO_findWay_32 ?_
  refine lv_seti (0) (rfl) ?_
  refine lv_istore (lv' := [(8, .int 0), (7, .int (1 <<< (i &&& 31))), (6, .int i), (5, .int 0), (4, .int (-1)), (0, .ref y), (1, .int i), (2, .int j), (3, .int v)]) hx hb d_MO_findWay_33 hl (by decide) rfl (fun ls hl => ?_)
  refine lv_iload hx hb d_MO_findWay_35 (lv_at hl 0 rfl) ?_
  refine lv_iconst (v := 2) hx hb d_MO_findWay_37 (by decide) ?_
  refine lv_aload_n hx hb d_MO_findWay_38 rfl (lv_at hl 5 rfl) ?_
  refine va_get (D := D) (ci := 7) (v := .int 0) (C := R_MO) (T := F_MO) (N := 50) hx hb hts i_MO hown hK hP 0 rfl rfl 8 (by decide) (hts _ q_640) (fun _ h9 => h9) rfl d_MO_findWay_39 ?_
  refine lv_imul hx hb d_MO_findWay_42 ?_
  refine lv_seti (0) (by decide) ?_
  refine lv_icmp_ne (tgt := 92) hx hb d_MO_findWay_43 (by decide) (fun h => absurd h (by decide)) (fun _ => ?_)
  refine lv_iinc (v := (-1)) (lv' := [(5, .int (-1)), (8, .int 0), (7, .int (1 <<< (i &&& 31))), (6, .int i), (4, .int (-1)), (0, .ref y), (1, .int i), (2, .int j), (3, .int v)]) hx hb d_MO_findWay_46 hl (k := 3) rfl (by decide) (by decide) rfl (fun ls hl => ?_)
  refine lv_iload hx hb d_MO_findWay_49 (lv_at hl 0 rfl) ?_
  refine lv_if_lt (tgt := 332) hx hb d_MO_findWay_51 (by decide) (fun _ => ?_) (fun h => absurd h (by decide))
  refine lv_goto (tgt := 21) hx hb d_MO_findWay_332 (by decide) ?_
  refine lv_iload hx hb d_MO_findWay_21 (lv_at hl 0 rfl) ?_
  refine lv_if_lt (tgt := 335) hx hb d_MO_findWay_23 (by decide) (fun _ => ?_) (fun h => absurd h (by decide))
  refine lv_iload hx hb d_MO_findWay_335 (lv_at hl 4 rfl) ?_
  have hP9 := hP.sub (ws' := []) [] rfl
  have hD9 := hD.sub (ws' := []) [] (by decide) rfl
  refine W.widen (k := 0) (n := 0) (Nat.le_of_ble_eq_true rfl) (Nat.le_of_ble_eq_true rfl) ?_
  exact W.iret (v := (-1)) hx hb hr (fun t ht hW => ⟨⟨(-1), (), rfl, rfl, by rw [ht]; exact hP9, hD9⟩, hS.F ht⟩) hS.2.2 d_MO_findWay_337

set_option maxHeartbeats 4000000 in
set_option maxRecDepth 100000 in
theorem f_MO_best (l : Launch) (D : va_G) (cI cZ : ClassId) (y : Nat) (i : Int32) (j : Int32) (v : Int32) (y1 : Nat) (y2 : Nat) (y3 : Nat) (y4 : Nat) (y5 : Nat) (y6 : Nat) (y7 : Nat) (y8 : Nat) (y9 : Nat) (y10 : Nat) (y11 : Nat) (y12 : Nat) (y13 : Nat) (y14 : Nat) (y15 : Nat) (y16 : Nat) (y17 : Nat) (y18 : Nat) (y19 : Nat) (y20 : Nat) (y21 : Nat) (y22 : Nat) (y23 : Nat) (y24 : Nat) (y25 : Nat) (y26 : Nat) (y27 : Nat) (y28 : Nat) (y29 : Nat) (y30 : Nat) (y31 : Nat) (y32 : Nat) (y33 : Nat) (y34 : Nat) (y35 : Nat) (y36 : Nat) (y37 : Nat) (y38 : Nat) (sz : Nat)  : Met l ⟨"PromiseChainsModel", "best", "(III)I"⟩ (mw ⟨"PromiseChainsModel", "best", "(III)I"⟩ prog_9_method_18_code 5 (some .int)) ({ frames := 3, cells := 0, slots := 0, locals := 66 }) (va_Pc [.ref y, .int i, .int j, .int v] (PB D cI cZ sz [(y, .inr (7, [.int 2, .int 0, .int 3, .int 5, .ref y1, .ref y2, .ref y3, .ref y4, .int 0, .ref y5, .ref y6, .ref y7, .ref y8, .ref y9, .ref y10, .ref y11, .ref y12, .ref y13, .ref y14, .ref y15, .int 0, .ref y16, .ref y17, .ref y18, .ref y19, .ref y20, .ref y21, .ref y22, .ref y23, .ref y24, .ref y25, .ref y26, .ref y27, .int 0, .int 0, .ref y28, .ref y29, .ref y30, .ref y31, .ref y32, .ref y33, .ref y34, .ref y35, .ref y36, .int 0, .ref y37, .ref y38, .int 0, .int 0, .int 0])), (y32, .inl (cI, 9, .inl (fun _ => 0)))])) (va_Qi (S := Unit) (fun (r : Int32) uU => r = sp_best i j v) (fun uU tT => BB D (va_A [(y, .inr (7, [.int 2, .int 0, .int 3, .int 5, .ref y1, .ref y2, .ref y3, .ref y4, .int 0, .ref y5, .ref y6, .ref y7, .ref y8, .ref y9, .ref y10, .ref y11, .ref y12, .ref y13, .ref y14, .ref y15, .int 0, .ref y16, .ref y17, .ref y18, .ref y19, .ref y20, .ref y21, .ref y22, .ref y23, .ref y24, .ref y25, .ref y26, .ref y27, .int 0, .int 0, .ref y28, .ref y29, .ref y30, .ref y31, .ref y32, .ref y33, .ref y34, .ref y35, .ref y36, .int 0, .ref y37, .ref y38, .int 0, .int 0, .int 0])), (y32, .inl (cI, 9, .inl (fun _ => 0)))] sz) [] tT) (va_A [(y, .inr (7, [.int 2, .int 0, .int 3, .int 5, .ref y1, .ref y2, .ref y3, .ref y4, .int 0, .ref y5, .ref y6, .ref y7, .ref y8, .ref y9, .ref y10, .ref y11, .ref y12, .ref y13, .ref y14, .ref y15, .int 0, .ref y16, .ref y17, .ref y18, .ref y19, .ref y20, .ref y21, .ref y22, .ref y23, .ref y24, .ref y25, .ref y26, .ref y27, .int 0, .int 0, .ref y28, .ref y29, .ref y30, .ref y31, .ref y32, .ref y33, .ref y34, .ref y35, .ref y36, .int 0, .ref y37, .ref y38, .int 0, .int 0, .int 0])), (y32, .inl (cI, 9, .inl (fun _ => 0)))] sz)) 0 0 (va_A [(y, .inr (7, [.int 2, .int 0, .int 3, .int 5, .ref y1, .ref y2, .ref y3, .ref y4, .int 0, .ref y5, .ref y6, .ref y7, .ref y8, .ref y9, .ref y10, .ref y11, .ref y12, .ref y13, .ref y14, .ref y15, .int 0, .ref y16, .ref y17, .ref y18, .ref y19, .ref y20, .ref y21, .ref y22, .ref y23, .ref y24, .ref y25, .ref y26, .ref y27, .int 0, .int 0, .ref y28, .ref y29, .ref y30, .ref y31, .ref y32, .ref y33, .ref y34, .ref y35, .ref y36, .int 0, .ref y37, .ref y38, .int 0, .int 0, .int 0])), (y32, .inl (cI, 9, .inl (fun _ => 0)))] sz) := by
  refine Met.ofW (cc := prog_9_method_18_code) (maxL := 5) (ret := (some .int)) (by decide) rfl ?_
  intro p e s m args below meth c s₁ B hml hv
  obtain ⟨rfl, hsz, hP, hK, hD0, hN⟩ := hv
  have hx := B.exec
  have hb := B.bytes
  have hr := B.returns
  have hts0 := atoms_spec (ws := mw ⟨"PromiseChainsModel", "best", "(III)I"⟩ prog_9_method_18_code 5 (some .int)) B.pre
  have hts : ∀ w ∈ tblG, w.before _ s = true := fun w h => hts0 w (List.mem_cons_of_mem _ h)
  have hown : s.vm.findClass "PromiseChainsModel" = some m.cls := findClass_of_methodNamed B.named
  have hlocks := B.notSynchronized
  subst hsz
  have hD := hD0.self (sz := s.heap.size)
  generalize hAe : va_A [(y, .inr (7, [.int 2, .int 0, .int 3, .int 5, .ref y1, .ref y2, .ref y3, .ref y4, .int 0, .ref y5, .ref y6, .ref y7, .ref y8, .ref y9, .ref y10, .ref y11, .ref y12, .ref y13, .ref y14, .ref y15, .int 0, .ref y16, .ref y17, .ref y18, .ref y19, .ref y20, .ref y21, .ref y22, .ref y23, .ref y24, .ref y25, .ref y26, .ref y27, .int 0, .int 0, .ref y28, .ref y29, .ref y30, .ref y31, .ref y32, .ref y33, .ref y34, .ref y35, .ref y36, .int 0, .ref y37, .ref y38, .int 0, .int 0, .int 0])), (y32, .inl (cI, 9, .inl (fun _ => 0)))] s.heap.size = A at hD ⊢
  have hA : ∀ q : Nat, s.heap.size ≤ q → A q := fun q h => by rw [← hAe]; exact Or.inr h
  have hS : va_S A s.heap s.heap [] := va_S.rf
  have hP : va_P D vwCl [(y, .inr (7, [.int 2, .int 0, .int 3, .int 5, .ref y1, .ref y2, .ref y3, .ref y4, .int 0, .ref y5, .ref y6, .ref y7, .ref y8, .ref y9, .ref y10, .ref y11, .ref y12, .ref y13, .ref y14, .ref y15, .int 0, .ref y16, .ref y17, .ref y18, .ref y19, .ref y20, .ref y21, .ref y22, .ref y23, .ref y24, .ref y25, .ref y26, .ref y27, .int 0, .int 0, .ref y28, .ref y29, .ref y30, .ref y31, .ref y32, .ref y33, .ref y34, .ref y35, .ref y36, .int 0, .ref y37, .ref y38, .int 0, .int 0, .int 0])), (y32, .inl (cI, 9, .inl (fun _ => 0)))] s.heap := hP
  have hl := lv_entry ([.ref y, .int i, .int j, .int v]) (n := 5) (Nat.le_of_ble_eq_true rfl)
  rw [lg_entry_eq]
  generalize (lg_sl ([.ref y, .int i, .int j, .int v]) ++ List.replicate (5 - (lg_sl ([.ref y, .int i, .int j, .int v])).length) Slot.unset).toArray = ls at hl ⊢
  have hl : lv_has ls 5 [(0, .ref y), (1, .int i), (2, .int j), (3, .int v)] := hl
  refine lv_aload_n hx hb d_MO_best_0 rfl (lv_at hl 0 rfl) ?_
  refine lv_iload_n hx hb d_MO_best_1 rfl (lv_at hl 1 rfl) ?_
  refine lv_iload_n hx hb d_MO_best_2 rfl (lv_at hl 2 rfl) ?_
  refine lv_iload_n hx hb d_MO_best_3 rfl (lv_at hl 3 rfl) ?_
  have hPc := hP.sub (ws' := [(y, .inr (7, [.int 2, .int 0, .int 3, .int 5, .ref y1, .ref y2, .ref y3, .ref y4, .int 0, .ref y5, .ref y6, .ref y7, .ref y8, .ref y9, .ref y10, .ref y11, .ref y12, .ref y13, .ref y14, .ref y15, .int 0, .ref y16, .ref y17, .ref y18, .ref y19, .ref y20, .ref y21, .ref y22, .ref y23, .ref y24, .ref y25, .ref y26, .ref y27, .int 0, .int 0, .ref y28, .ref y29, .ref y30, .ref y31, .ref y32, .ref y33, .ref y34, .ref y35, .ref y36, .int 0, .ref y37, .ref y38, .int 0, .int 0, .int 0]))]) [0] rfl
  have hDc := hD.sub (ws' := [(y, .inr (7, [.int 2, .int 0, .int 3, .int 5, .ref y1, .ref y2, .ref y3, .ref y4, .int 0, .ref y5, .ref y6, .ref y7, .ref y8, .ref y9, .ref y10, .ref y11, .ref y12, .ref y13, .ref y14, .ref y15, .int 0, .ref y16, .ref y17, .ref y18, .ref y19, .ref y20, .ref y21, .ref y22, .ref y23, .ref y24, .ref y25, .ref y26, .ref y27, .int 0, .int 0, .ref y28, .ref y29, .ref y30, .ref y31, .ref y32, .ref y33, .ref y34, .ref y35, .ref y36, .int 0, .ref y37, .ref y38, .int 0, .int 0, .int 0]))]) [0] (by decide) rfl
  refine vp_callSi (va_Run.run (va_runV (As := [.int i, .int j, .int v]) (rest := []) ⟨hx, hb, hml, hown, hts⟩ (f_MO_isAsked l D cI cZ y i j v y1 y2 y3 y4 y5 y6 y7 y8 y9 y10 y11 y12 y13 y14 y15 y16 y17 y18 y19 y20 y21 y22 y23 y24 y25 y26 y27 y28 y29 y30 y31 y32 y33 y34 y35 y36 y37 y38 s.heap.size ) (my_cwV 3 hts q_854 q_851 q_853 q_p14 q_8 rfl rfl (by decide +kernel) ⟨Nat.le_of_ble_eq_true rfl, Nat.le_of_ble_eq_true rfl⟩) (my_preV hPc hDc hK hN 7 0 rfl rfl) rfl rfl hl.1 rfl (lv_room (Nat.le_of_ble_eq_true rfl)) d_MO_best_4 ⟨Nat.le_of_ble_eq_true rfl, Nat.le_of_ble_eq_true rfl⟩)) (fun r_1 hw_1 => ?_)
  have hw_1 : r_1 = maw i j v := hw_1
  subst hw_1
  refine lv_if_ne (tgt := 13) hx hb d_MO_best_7 (by decide) (fun h_2 => ?_) (fun h_2 => ?_)
  · refine lv_aload_n hx hb d_MO_best_13 rfl (lv_at hl 0 rfl) ?_
    refine lv_iload_n hx hb d_MO_best_14 rfl (lv_at hl 1 rfl) ?_
    refine lv_iload_n hx hb d_MO_best_15 rfl (lv_at hl 2 rfl) ?_
    refine lv_iload_n hx hb d_MO_best_16 rfl (lv_at hl 3 rfl) ?_
    have hPc := hP.sub (ws' := [(y, .inr (7, [.int 2, .int 0, .int 3, .int 5, .ref y1, .ref y2, .ref y3, .ref y4, .int 0, .ref y5, .ref y6, .ref y7, .ref y8, .ref y9, .ref y10, .ref y11, .ref y12, .ref y13, .ref y14, .ref y15, .int 0, .ref y16, .ref y17, .ref y18, .ref y19, .ref y20, .ref y21, .ref y22, .ref y23, .ref y24, .ref y25, .ref y26, .ref y27, .int 0, .int 0, .ref y28, .ref y29, .ref y30, .ref y31, .ref y32, .ref y33, .ref y34, .ref y35, .ref y36, .int 0, .ref y37, .ref y38, .int 0, .int 0, .int 0])), (y32, .inl (cI, 9, .inl (fun _ => 0)))]) [0, 1] rfl
    have hDc := hD.sub (ws' := [(y, .inr (7, [.int 2, .int 0, .int 3, .int 5, .ref y1, .ref y2, .ref y3, .ref y4, .int 0, .ref y5, .ref y6, .ref y7, .ref y8, .ref y9, .ref y10, .ref y11, .ref y12, .ref y13, .ref y14, .ref y15, .int 0, .ref y16, .ref y17, .ref y18, .ref y19, .ref y20, .ref y21, .ref y22, .ref y23, .ref y24, .ref y25, .ref y26, .ref y27, .int 0, .int 0, .ref y28, .ref y29, .ref y30, .ref y31, .ref y32, .ref y33, .ref y34, .ref y35, .ref y36, .int 0, .ref y37, .ref y38, .int 0, .int 0, .int 0])), (y32, .inl (cI, 9, .inl (fun _ => 0)))]) [0, 1] (by decide) rfl
    have hFc := va_free (wc := [(y, .inr (7, [.int 2, .int 0, .int 3, .int 5, .ref y1, .ref y2, .ref y3, .ref y4, .int 0, .ref y5, .ref y6, .ref y7, .ref y8, .ref y9, .ref y10, .ref y11, .ref y12, .ref y13, .ref y14, .ref y15, .int 0, .ref y16, .ref y17, .ref y18, .ref y19, .ref y20, .ref y21, .ref y22, .ref y23, .ref y24, .ref y25, .ref y26, .ref y27, .int 0, .int 0, .ref y28, .ref y29, .ref y30, .ref y31, .ref y32, .ref y33, .ref y34, .ref y35, .ref y36, .int 0, .ref y37, .ref y38, .int 0, .int 0, .int 0])), (y32, .inl (cI, 9, .inl (fun _ => 0)))]) hD hS hA [0, 1] rfl
    refine va_calli (va_runV (As := [.int i, .int j, .int v]) (rest := []) ⟨hx, hb, hml, hown, hts⟩ (f_MO_findWay l D cI cZ y i j v y1 y2 y3 y4 y5 y6 y7 y8 y9 y10 y11 y12 y13 y14 y15 y16 y17 y18 y19 y20 y21 y22 y23 y24 y25 y26 y27 y28 y29 y30 y31 y32 y33 y34 y35 y36 y37 y38 s.heap.size ) (my_cwV 3 hts q_858 q_855 q_857 q_p15 q_8 rfl rfl (by decide +kernel) ⟨Nat.le_of_ble_eq_true rfl, Nat.le_of_ble_eq_true rfl⟩) (my_preV hPc hDc hK hN 7 0 rfl rfl) rfl rfl hl.1 rfl (lv_room (Nat.le_of_ble_eq_true rfl)) d_MO_best_17 ⟨Nat.le_of_ble_eq_true rfl, Nat.le_of_ble_eq_true rfl⟩) hS (fun q _ h => hFc q h) hFc (fun r_3 uU tT H_4 locs ht hvm hw_3 hB hz1 hk1 hS => ?_)
    obtain ⟨hP1, hD1⟩ := hB
    rw [ht] at hP1
    obtain ⟨hP, hD⟩ := va_join (wr := []) (w1 := []) hP hD [0, 1] [] rfl rfl (by decide) (by decide) hk1 hFc hP1 hD1
    have hP : va_P D vwCl [] H_4 := hP
    have hD : va_D A [] := hD
    have hw_3 : r_3 = -1 := hw_3
    subst hw_3
    refine lv_istore (lv' := [(4, .int (-1)), (0, .ref y), (1, .int i), (2, .int j), (3, .int v)]) hx hb d_MO_best_20 hl (by decide) rfl (fun ls hl => ?_)
    refine lv_iload hx hb d_MO_best_22 (lv_at hl 0 rfl) ?_
    refine lv_iconst (v := (-1)) hx hb d_MO_best_24 (by decide) ?_
    refine lv_icmp_eq (tgt := 32) hx hb d_MO_best_25 (by decide) (fun _ => ?_) (fun h => absurd h (by decide))
    refine lv_iload hx hb d_MO_best_32 (lv_at hl 0 rfl) ?_
    have hP9 := hP.sub (ws' := []) [] rfl
    have hD9 := hD.sub (ws' := []) [] (by decide) rfl
    refine W.widen (k := 0) (n := 0) (Nat.le_of_ble_eq_true rfl) (Nat.le_of_ble_eq_true rfl) ?_
    exact W.iret (v := (-1)) hx hb hr (fun t ht hW => ⟨⟨(-1), (), rfl, (by first | decide | simp [sp_best, h_2]), by rw [ht]; exact hP9, hD9⟩, hS.F ht⟩) hS.2.2 d_MO_best_34
  · refine lv_bipush (v := (-2)) hx hb d_MO_best_10 (by decide) ?_
    have hP9 := hP.sub (ws' := []) [] rfl
    have hD9 := hD.sub (ws' := []) [] (by decide) rfl
    refine W.widen (k := 0) (n := 0) (Nat.le_of_ble_eq_true rfl) (Nat.le_of_ble_eq_true rfl) ?_
    exact W.iret (v := (-2)) hx hb hr (fun t ht hW => ⟨⟨(-2), (), rfl, (by first | decide | simp [sp_best, h_2]), by rw [ht]; exact hP9, hD9⟩, hS.F ht⟩) hS.2.2 d_MO_best_12

set_option maxHeartbeats 4000000 in
set_option maxRecDepth 100000 in
theorem f_MO_wayAt (l : Launch) (D : va_G) (cI cZ : ClassId) (y : Nat) (i : Int32) (y1 : Nat) (y2 : Nat) (y3 : Nat) (y4 : Nat) (y5 : Nat) (y6 : Nat) (y7 : Nat) (y8 : Nat) (y9 : Nat) (y10 : Nat) (y11 : Nat) (y12 : Nat) (y13 : Nat) (y14 : Nat) (y15 : Nat) (y16 : Nat) (y17 : Nat) (y18 : Nat) (y19 : Nat) (y20 : Nat) (y21 : Nat) (y22 : Nat) (y23 : Nat) (y24 : Nat) (y25 : Nat) (y26 : Nat) (y27 : Nat) (y28 : Nat) (y29 : Nat) (y30 : Nat) (y31 : Nat) (y32 : Nat) (y33 : Nat) (y34 : Nat) (y35 : Nat) (y36 : Nat) (y37 : Nat) (y38 : Nat) (sz : Nat)  : Met l ⟨"PromiseChainsModel", "wayAt", "(I)I"⟩ (mw ⟨"PromiseChainsModel", "wayAt", "(I)I"⟩ prog_9_method_19_code 2 (some .int)) ({ frames := 0, cells := 0, slots := 0, locals := 0 }) (va_Pc [.ref y, .int i] (PB D cI cZ sz [(y, .inr (7, [.int 2, .int 0, .int 3, .int 5, .ref y1, .ref y2, .ref y3, .ref y4, .int 0, .ref y5, .ref y6, .ref y7, .ref y8, .ref y9, .ref y10, .ref y11, .ref y12, .ref y13, .ref y14, .ref y15, .int 0, .ref y16, .ref y17, .ref y18, .ref y19, .ref y20, .ref y21, .ref y22, .ref y23, .ref y24, .ref y25, .ref y26, .ref y27, .int 0, .int 0, .ref y28, .ref y29, .ref y30, .ref y31, .ref y32, .ref y33, .ref y34, .ref y35, .ref y36, .int 0, .ref y37, .ref y38, .int 0, .int 0, .int 0]))])) (vp_Si (fun r => r = -1)) 0 0 (fun _ => False) := by
  refine Met.ofW (cc := prog_9_method_19_code) (maxL := 2) (ret := (some .int)) (by decide) rfl ?_
  intro p e s m args below meth c s₁ B hml hv
  obtain ⟨rfl, hsz, hP, hK, hD0, hN⟩ := hv
  have hx := B.exec
  have hb := B.bytes
  have hr := B.returns
  have hts0 := atoms_spec (ws := mw ⟨"PromiseChainsModel", "wayAt", "(I)I"⟩ prog_9_method_19_code 2 (some .int)) B.pre
  have hts : ∀ w ∈ tblG, w.before _ s = true := fun w h => hts0 w (List.mem_cons_of_mem _ h)
  have hown : s.vm.findClass "PromiseChainsModel" = some m.cls := findClass_of_methodNamed B.named
  have hlocks := B.notSynchronized
  subst hsz
  have hD := hD0
  have hP : va_P D vwCl [(y, .inr (7, [.int 2, .int 0, .int 3, .int 5, .ref y1, .ref y2, .ref y3, .ref y4, .int 0, .ref y5, .ref y6, .ref y7, .ref y8, .ref y9, .ref y10, .ref y11, .ref y12, .ref y13, .ref y14, .ref y15, .int 0, .ref y16, .ref y17, .ref y18, .ref y19, .ref y20, .ref y21, .ref y22, .ref y23, .ref y24, .ref y25, .ref y26, .ref y27, .int 0, .int 0, .ref y28, .ref y29, .ref y30, .ref y31, .ref y32, .ref y33, .ref y34, .ref y35, .ref y36, .int 0, .ref y37, .ref y38, .int 0, .int 0, .int 0]))] s.heap := hP
  have hl := lv_entry ([.ref y, .int i]) (n := 2) (Nat.le_of_ble_eq_true rfl)
  rw [lg_entry_eq]
  generalize (lg_sl ([.ref y, .int i]) ++ List.replicate (2 - (lg_sl ([.ref y, .int i])).length) Slot.unset).toArray = ls at hl ⊢
  have hl : lv_has ls 2 [(0, .ref y), (1, .int i)] := hl
  refine lv_aload_n hx hb d_MO_wayAt_0 rfl (lv_at hl 0 rfl) ?_
  refine va_get (D := D) (ci := 7) (v := .int 0) (C := R_MO) (T := F_MO) (N := 50) hx hb hts i_MO hown hK hP 0 rfl rfl 33 (by decide) (hts _ q_665) (fun _ h9 => h9) rfl d_MO_wayAt_1 ?_
  refine lv_if_eq (tgt := 30) hx hb d_MO_wayAt_4 (by decide) (fun _ => ?_) (fun h => absurd h (by decide))
  refine lv_iconst (v := (-1)) hx hb d_MO_wayAt_30 (by decide) ?_
  exact W.iret (v := (-1)) hx hb hr (fun t ht hW => ⟨(-1), rfl, rfl, ht⟩) (fun q h => absurd h List.not_mem_nil) d_MO_wayAt_31

set_option maxHeartbeats 4000000 in
set_option maxRecDepth 100000 in
theorem f_MO_promise (l : Launch) (D : va_G) (cI cZ : ClassId) (y : Nat) (i : Int32) (j : Int32) (v : Int32) (y1 : Nat) (y2 : Nat) (y3 : Nat) (y4 : Nat) (y5 : Nat) (y6 : Nat) (y7 : Nat) (y8 : Nat) (y9 : Nat) (y10 : Nat) (y11 : Nat) (y12 : Nat) (y13 : Nat) (y14 : Nat) (y15 : Nat) (y16 : Nat) (y17 : Nat) (y18 : Nat) (y19 : Nat) (y20 : Nat) (y21 : Nat) (y22 : Nat) (y23 : Nat) (y24 : Nat) (y25 : Nat) (y26 : Nat) (y27 : Nat) (y28 : Nat) (y29 : Nat) (y30 : Nat) (y31 : Nat) (y32 : Nat) (y33 : Nat) (y34 : Nat) (y35 : Nat) (y36 : Nat) (y37 : Nat) (y38 : Nat) (sz : Nat)  : Met l ⟨"PromiseChainsModel", "promise", "(III)I"⟩ (mw ⟨"PromiseChainsModel", "promise", "(III)I"⟩ prog_9_method_20_code 7 (some .int)) ({ frames := 3, cells := 0, slots := 0, locals := 66 }) (va_Pc [.ref y, .int i, .int j, .int v] (PB D cI cZ sz [(y, .inr (7, [.int 2, .int 0, .int 3, .int 5, .ref y1, .ref y2, .ref y3, .ref y4, .int 0, .ref y5, .ref y6, .ref y7, .ref y8, .ref y9, .ref y10, .ref y11, .ref y12, .ref y13, .ref y14, .ref y15, .int 0, .ref y16, .ref y17, .ref y18, .ref y19, .ref y20, .ref y21, .ref y22, .ref y23, .ref y24, .ref y25, .ref y26, .ref y27, .int 0, .int 0, .ref y28, .ref y29, .ref y30, .ref y31, .ref y32, .ref y33, .ref y34, .ref y35, .ref y36, .int 0, .ref y37, .ref y38, .int 0, .int 0, .int 0])), (y32, .inl (cI, 9, .inl (fun _ => 0))), (y1, .inl (cZ, 7, .inl (fun _ => 0)))])) (va_Qi (S := Unit) (fun (r : Int32) uU => r = sp_promise i j v) (fun uU tT => BB D (va_A [(y, .inr (7, [.int 2, .int 0, .int 3, .int 5, .ref y1, .ref y2, .ref y3, .ref y4, .int 0, .ref y5, .ref y6, .ref y7, .ref y8, .ref y9, .ref y10, .ref y11, .ref y12, .ref y13, .ref y14, .ref y15, .int 0, .ref y16, .ref y17, .ref y18, .ref y19, .ref y20, .ref y21, .ref y22, .ref y23, .ref y24, .ref y25, .ref y26, .ref y27, .int 0, .int 0, .ref y28, .ref y29, .ref y30, .ref y31, .ref y32, .ref y33, .ref y34, .ref y35, .ref y36, .int 0, .ref y37, .ref y38, .int 0, .int 0, .int 0])), (y32, .inl (cI, 9, .inl (fun _ => 0))), (y1, .inl (cZ, 7, .inl (fun _ => 0)))] sz) [] tT) (va_A [(y, .inr (7, [.int 2, .int 0, .int 3, .int 5, .ref y1, .ref y2, .ref y3, .ref y4, .int 0, .ref y5, .ref y6, .ref y7, .ref y8, .ref y9, .ref y10, .ref y11, .ref y12, .ref y13, .ref y14, .ref y15, .int 0, .ref y16, .ref y17, .ref y18, .ref y19, .ref y20, .ref y21, .ref y22, .ref y23, .ref y24, .ref y25, .ref y26, .ref y27, .int 0, .int 0, .ref y28, .ref y29, .ref y30, .ref y31, .ref y32, .ref y33, .ref y34, .ref y35, .ref y36, .int 0, .ref y37, .ref y38, .int 0, .int 0, .int 0])), (y32, .inl (cI, 9, .inl (fun _ => 0))), (y1, .inl (cZ, 7, .inl (fun _ => 0)))] sz)) 0 0 (va_A [(y, .inr (7, [.int 2, .int 0, .int 3, .int 5, .ref y1, .ref y2, .ref y3, .ref y4, .int 0, .ref y5, .ref y6, .ref y7, .ref y8, .ref y9, .ref y10, .ref y11, .ref y12, .ref y13, .ref y14, .ref y15, .int 0, .ref y16, .ref y17, .ref y18, .ref y19, .ref y20, .ref y21, .ref y22, .ref y23, .ref y24, .ref y25, .ref y26, .ref y27, .int 0, .int 0, .ref y28, .ref y29, .ref y30, .ref y31, .ref y32, .ref y33, .ref y34, .ref y35, .ref y36, .int 0, .ref y37, .ref y38, .int 0, .int 0, .int 0])), (y32, .inl (cI, 9, .inl (fun _ => 0))), (y1, .inl (cZ, 7, .inl (fun _ => 0)))] sz) := by
  refine Met.ofW (cc := prog_9_method_20_code) (maxL := 7) (ret := (some .int)) (by decide) rfl ?_
  intro p e s m args below meth c s₁ B hml hv
  obtain ⟨rfl, hsz, hP, hK, hD0, hN⟩ := hv
  have hx := B.exec
  have hb := B.bytes
  have hr := B.returns
  have hts0 := atoms_spec (ws := mw ⟨"PromiseChainsModel", "promise", "(III)I"⟩ prog_9_method_20_code 7 (some .int)) B.pre
  have hts : ∀ w ∈ tblG, w.before _ s = true := fun w h => hts0 w (List.mem_cons_of_mem _ h)
  have hown : s.vm.findClass "PromiseChainsModel" = some m.cls := findClass_of_methodNamed B.named
  have hlocks := B.notSynchronized
  subst hsz
  have hD := hD0.self (sz := s.heap.size)
  generalize hAe : va_A [(y, .inr (7, [.int 2, .int 0, .int 3, .int 5, .ref y1, .ref y2, .ref y3, .ref y4, .int 0, .ref y5, .ref y6, .ref y7, .ref y8, .ref y9, .ref y10, .ref y11, .ref y12, .ref y13, .ref y14, .ref y15, .int 0, .ref y16, .ref y17, .ref y18, .ref y19, .ref y20, .ref y21, .ref y22, .ref y23, .ref y24, .ref y25, .ref y26, .ref y27, .int 0, .int 0, .ref y28, .ref y29, .ref y30, .ref y31, .ref y32, .ref y33, .ref y34, .ref y35, .ref y36, .int 0, .ref y37, .ref y38, .int 0, .int 0, .int 0])), (y32, .inl (cI, 9, .inl (fun _ => 0))), (y1, .inl (cZ, 7, .inl (fun _ => 0)))] s.heap.size = A at hD ⊢
  have hA : ∀ q : Nat, s.heap.size ≤ q → A q := fun q h => by rw [← hAe]; exact Or.inr h
  have hS : va_S A s.heap s.heap [] := va_S.rf
  have hP : va_P D vwCl [(y, .inr (7, [.int 2, .int 0, .int 3, .int 5, .ref y1, .ref y2, .ref y3, .ref y4, .int 0, .ref y5, .ref y6, .ref y7, .ref y8, .ref y9, .ref y10, .ref y11, .ref y12, .ref y13, .ref y14, .ref y15, .int 0, .ref y16, .ref y17, .ref y18, .ref y19, .ref y20, .ref y21, .ref y22, .ref y23, .ref y24, .ref y25, .ref y26, .ref y27, .int 0, .int 0, .ref y28, .ref y29, .ref y30, .ref y31, .ref y32, .ref y33, .ref y34, .ref y35, .ref y36, .int 0, .ref y37, .ref y38, .int 0, .int 0, .int 0])), (y32, .inl (cI, 9, .inl (fun _ => 0))), (y1, .inl (cZ, 7, .inl (fun _ => 0)))] s.heap := hP
  have hl := lv_entry ([.ref y, .int i, .int j, .int v]) (n := 7) (Nat.le_of_ble_eq_true rfl)
  rw [lg_entry_eq]
  generalize (lg_sl ([.ref y, .int i, .int j, .int v]) ++ List.replicate (7 - (lg_sl ([.ref y, .int i, .int j, .int v])).length) Slot.unset).toArray = ls at hl ⊢
  have hl : lv_has ls 7 [(0, .ref y), (1, .int i), (2, .int j), (3, .int v)] := hl
  refine lv_aload_n hx hb d_MO_promise_0 rfl (lv_at hl 0 rfl) ?_
  refine lv_iload_n hx hb d_MO_promise_1 rfl (lv_at hl 1 rfl) ?_
  refine lv_iload_n hx hb d_MO_promise_2 rfl (lv_at hl 2 rfl) ?_
  refine lv_iload_n hx hb d_MO_promise_3 rfl (lv_at hl 3 rfl) ?_
  have hPc := hP.sub (ws' := [(y, .inr (7, [.int 2, .int 0, .int 3, .int 5, .ref y1, .ref y2, .ref y3, .ref y4, .int 0, .ref y5, .ref y6, .ref y7, .ref y8, .ref y9, .ref y10, .ref y11, .ref y12, .ref y13, .ref y14, .ref y15, .int 0, .ref y16, .ref y17, .ref y18, .ref y19, .ref y20, .ref y21, .ref y22, .ref y23, .ref y24, .ref y25, .ref y26, .ref y27, .int 0, .int 0, .ref y28, .ref y29, .ref y30, .ref y31, .ref y32, .ref y33, .ref y34, .ref y35, .ref y36, .int 0, .ref y37, .ref y38, .int 0, .int 0, .int 0]))]) [0] rfl
  have hDc := hD.sub (ws' := [(y, .inr (7, [.int 2, .int 0, .int 3, .int 5, .ref y1, .ref y2, .ref y3, .ref y4, .int 0, .ref y5, .ref y6, .ref y7, .ref y8, .ref y9, .ref y10, .ref y11, .ref y12, .ref y13, .ref y14, .ref y15, .int 0, .ref y16, .ref y17, .ref y18, .ref y19, .ref y20, .ref y21, .ref y22, .ref y23, .ref y24, .ref y25, .ref y26, .ref y27, .int 0, .int 0, .ref y28, .ref y29, .ref y30, .ref y31, .ref y32, .ref y33, .ref y34, .ref y35, .ref y36, .int 0, .ref y37, .ref y38, .int 0, .int 0, .int 0]))]) [0] (by decide) rfl
  refine vp_callSi (va_Run.run (va_runV (As := [.int i, .int j, .int v]) (rest := []) ⟨hx, hb, hml, hown, hts⟩ (f_MO_isAsked l D cI cZ y i j v y1 y2 y3 y4 y5 y6 y7 y8 y9 y10 y11 y12 y13 y14 y15 y16 y17 y18 y19 y20 y21 y22 y23 y24 y25 y26 y27 y28 y29 y30 y31 y32 y33 y34 y35 y36 y37 y38 s.heap.size ) (my_cwV 3 hts q_854 q_851 q_853 q_p14 q_8 rfl rfl (by decide +kernel) ⟨Nat.le_of_ble_eq_true rfl, Nat.le_of_ble_eq_true rfl⟩) (my_preV hPc hDc hK hN 7 0 rfl rfl) rfl rfl hl.1 rfl (lv_room (Nat.le_of_ble_eq_true rfl)) d_MO_promise_4 ⟨Nat.le_of_ble_eq_true rfl, Nat.le_of_ble_eq_true rfl⟩)) (fun r_1 hw_1 => ?_)
  have hw_1 : r_1 = maw i j v := hw_1
  subst hw_1
  refine lv_if_ne (tgt := 13) hx hb d_MO_promise_7 (by decide) (fun h_2 => ?_) (fun h_2 => ?_)
  · refine lv_aload_n hx hb d_MO_promise_13 rfl (lv_at hl 0 rfl) ?_
    refine lv_iload_n hx hb d_MO_promise_14 rfl (lv_at hl 1 rfl) ?_
    refine lv_iload_n hx hb d_MO_promise_15 rfl (lv_at hl 2 rfl) ?_
    refine lv_iload_n hx hb d_MO_promise_16 rfl (lv_at hl 3 rfl) ?_
    have hPc := hP.sub (ws' := [(y, .inr (7, [.int 2, .int 0, .int 3, .int 5, .ref y1, .ref y2, .ref y3, .ref y4, .int 0, .ref y5, .ref y6, .ref y7, .ref y8, .ref y9, .ref y10, .ref y11, .ref y12, .ref y13, .ref y14, .ref y15, .int 0, .ref y16, .ref y17, .ref y18, .ref y19, .ref y20, .ref y21, .ref y22, .ref y23, .ref y24, .ref y25, .ref y26, .ref y27, .int 0, .int 0, .ref y28, .ref y29, .ref y30, .ref y31, .ref y32, .ref y33, .ref y34, .ref y35, .ref y36, .int 0, .ref y37, .ref y38, .int 0, .int 0, .int 0])), (y32, .inl (cI, 9, .inl (fun _ => 0)))]) [0, 1] rfl
    have hDc := hD.sub (ws' := [(y, .inr (7, [.int 2, .int 0, .int 3, .int 5, .ref y1, .ref y2, .ref y3, .ref y4, .int 0, .ref y5, .ref y6, .ref y7, .ref y8, .ref y9, .ref y10, .ref y11, .ref y12, .ref y13, .ref y14, .ref y15, .int 0, .ref y16, .ref y17, .ref y18, .ref y19, .ref y20, .ref y21, .ref y22, .ref y23, .ref y24, .ref y25, .ref y26, .ref y27, .int 0, .int 0, .ref y28, .ref y29, .ref y30, .ref y31, .ref y32, .ref y33, .ref y34, .ref y35, .ref y36, .int 0, .ref y37, .ref y38, .int 0, .int 0, .int 0])), (y32, .inl (cI, 9, .inl (fun _ => 0)))]) [0, 1] (by decide) rfl
    have hFc := va_free (wc := [(y, .inr (7, [.int 2, .int 0, .int 3, .int 5, .ref y1, .ref y2, .ref y3, .ref y4, .int 0, .ref y5, .ref y6, .ref y7, .ref y8, .ref y9, .ref y10, .ref y11, .ref y12, .ref y13, .ref y14, .ref y15, .int 0, .ref y16, .ref y17, .ref y18, .ref y19, .ref y20, .ref y21, .ref y22, .ref y23, .ref y24, .ref y25, .ref y26, .ref y27, .int 0, .int 0, .ref y28, .ref y29, .ref y30, .ref y31, .ref y32, .ref y33, .ref y34, .ref y35, .ref y36, .int 0, .ref y37, .ref y38, .int 0, .int 0, .int 0])), (y32, .inl (cI, 9, .inl (fun _ => 0)))]) hD hS hA [0, 1] rfl
    refine va_calli (va_runV (As := [.int i, .int j, .int v]) (rest := []) ⟨hx, hb, hml, hown, hts⟩ (f_MO_findWay l D cI cZ y i j v y1 y2 y3 y4 y5 y6 y7 y8 y9 y10 y11 y12 y13 y14 y15 y16 y17 y18 y19 y20 y21 y22 y23 y24 y25 y26 y27 y28 y29 y30 y31 y32 y33 y34 y35 y36 y37 y38 s.heap.size ) (my_cwV 3 hts q_858 q_855 q_857 q_p15 q_8 rfl rfl (by decide +kernel) ⟨Nat.le_of_ble_eq_true rfl, Nat.le_of_ble_eq_true rfl⟩) (my_preV hPc hDc hK hN 7 0 rfl rfl) rfl rfl hl.1 rfl (lv_room (Nat.le_of_ble_eq_true rfl)) d_MO_promise_17 ⟨Nat.le_of_ble_eq_true rfl, Nat.le_of_ble_eq_true rfl⟩) hS (fun q _ h => hFc q h) hFc (fun r_3 uU tT H_4 locs ht hvm hw_3 hB hz1 hk1 hS => ?_)
    obtain ⟨hP1, hD1⟩ := hB
    rw [ht] at hP1
    obtain ⟨hP, hD⟩ := va_join (wr := [(y1, .inl (cZ, 7, .inl (fun _ => 0)))]) (w1 := []) hP hD [0, 1] [2] rfl rfl (by decide) (by decide) hk1 hFc hP1 hD1
    have hP : va_P D vwCl [(y1, .inl (cZ, 7, .inl (fun _ => 0)))] H_4 := hP
    have hD : va_D A [(y1, .inl (cZ, 7, .inl (fun _ => 0)))] := hD
    have hw_3 : r_3 = -1 := hw_3
    subst hw_3
    refine lv_istore (lv' := [(4, .int (-1)), (0, .ref y), (1, .int i), (2, .int j), (3, .int v)]) hx hb d_MO_promise_20 hl (by decide) rfl (fun ls hl => ?_)
    refine lv_iload hx hb d_MO_promise_22 (lv_at hl 0 rfl) ?_
    refine lv_iconst (v := (-1)) hx hb d_MO_promise_24 (by decide) ?_
    refine lv_icmp_eq (tgt := 37) hx hb d_MO_promise_25 (by decide) (fun _ => ?_) (fun h => absurd h (by decide))
    refine lv_bipush (v := (-3)) hx hb d_MO_promise_37 (by decide) ?_
    have hP9 := hP.sub (ws' := []) [] rfl
    have hD9 := hD.sub (ws' := []) [] (by decide) rfl
    refine W.widen (k := 0) (n := 0) (Nat.le_of_ble_eq_true rfl) (Nat.le_of_ble_eq_true rfl) ?_
    exact W.iret (v := (-3)) hx hb hr (fun t ht hW => ⟨⟨(-3), (), rfl, (by first | decide | simp [sp_promise, h_2]), by rw [ht]; exact hP9, hD9⟩, hS.F ht⟩) hS.2.2 d_MO_promise_39
  · refine lv_bipush (v := (-2)) hx hb d_MO_promise_10 (by decide) ?_
    have hP9 := hP.sub (ws' := []) [] rfl
    have hD9 := hD.sub (ws' := []) [] (by decide) rfl
    refine W.widen (k := 0) (n := 0) (Nat.le_of_ble_eq_true rfl) (Nat.le_of_ble_eq_true rfl) ?_
    exact W.iret (v := (-2)) hx hb hr (fun t ht hW => ⟨⟨(-2), (), rfl, (by first | decide | simp [sp_promise, h_2]), by rw [ht]; exact hP9, hD9⟩, hS.F ht⟩) hS.2.2 d_MO_promise_12

set_option maxHeartbeats 4000000 in
set_option maxRecDepth 100000 in
theorem f_MO_keepAll (l : Launch) (D : va_G) (cI cZ : ClassId) (y : Nat) (y1 : Nat) (y2 : Nat) (y3 : Nat) (y4 : Nat) (y5 : Nat) (y6 : Nat) (y7 : Nat) (y8 : Nat) (y9 : Nat) (y10 : Nat) (y11 : Nat) (y12 : Nat) (y13 : Nat) (y14 : Nat) (y15 : Nat) (y16 : Nat) (y17 : Nat) (y18 : Nat) (y19 : Nat) (y20 : Nat) (y21 : Nat) (y22 : Nat) (y23 : Nat) (y24 : Nat) (y25 : Nat) (y26 : Nat) (y27 : Nat) (y28 : Nat) (y29 : Nat) (y30 : Nat) (y31 : Nat) (y32 : Nat) (y33 : Nat) (y34 : Nat) (y35 : Nat) (y36 : Nat) (y37 : Nat) (y38 : Nat) (sz : Nat)  : Met l ⟨"PromiseChainsModel", "keepAll", "()I"⟩ (mw ⟨"PromiseChainsModel", "keepAll", "()I"⟩ prog_9_method_22_code 5 (some .int)) ({ frames := 0, cells := 0, slots := 0, locals := 0 }) (va_Pc [.ref y] (PB D cI cZ sz [(y, .inr (7, [.int 2, .int 0, .int 3, .int 5, .ref y1, .ref y2, .ref y3, .ref y4, .int 0, .ref y5, .ref y6, .ref y7, .ref y8, .ref y9, .ref y10, .ref y11, .ref y12, .ref y13, .ref y14, .ref y15, .int 0, .ref y16, .ref y17, .ref y18, .ref y19, .ref y20, .ref y21, .ref y22, .ref y23, .ref y24, .ref y25, .ref y26, .ref y27, .int 0, .int 0, .ref y28, .ref y29, .ref y30, .ref y31, .ref y32, .ref y33, .ref y34, .ref y35, .ref y36, .int 0, .ref y37, .ref y38, .int 0, .int 0, .int 0]))])) (vp_Si (fun r => r = 0)) 0 0 (fun _ => False) := by
  refine Met.ofW (cc := prog_9_method_22_code) (maxL := 5) (ret := (some .int)) (by decide) rfl ?_
  intro p e s m args below meth c s₁ B hml hv
  obtain ⟨rfl, hsz, hP, hK, hD0, hN⟩ := hv
  have hx := B.exec
  have hb := B.bytes
  have hr := B.returns
  have hts0 := atoms_spec (ws := mw ⟨"PromiseChainsModel", "keepAll", "()I"⟩ prog_9_method_22_code 5 (some .int)) B.pre
  have hts : ∀ w ∈ tblG, w.before _ s = true := fun w h => hts0 w (List.mem_cons_of_mem _ h)
  have hown : s.vm.findClass "PromiseChainsModel" = some m.cls := findClass_of_methodNamed B.named
  have hlocks := B.notSynchronized
  subst hsz
  have hD := hD0
  have hP : va_P D vwCl [(y, .inr (7, [.int 2, .int 0, .int 3, .int 5, .ref y1, .ref y2, .ref y3, .ref y4, .int 0, .ref y5, .ref y6, .ref y7, .ref y8, .ref y9, .ref y10, .ref y11, .ref y12, .ref y13, .ref y14, .ref y15, .int 0, .ref y16, .ref y17, .ref y18, .ref y19, .ref y20, .ref y21, .ref y22, .ref y23, .ref y24, .ref y25, .ref y26, .ref y27, .int 0, .int 0, .ref y28, .ref y29, .ref y30, .ref y31, .ref y32, .ref y33, .ref y34, .ref y35, .ref y36, .int 0, .ref y37, .ref y38, .int 0, .int 0, .int 0]))] s.heap := hP
  have hl := lv_entry ([.ref y]) (n := 5) (Nat.le_of_ble_eq_true rfl)
  rw [lg_entry_eq]
  generalize (lg_sl ([.ref y]) ++ List.replicate (5 - (lg_sl ([.ref y])).length) Slot.unset).toArray = ls at hl ⊢
  have hl : lv_has ls 5 [(0, .ref y)] := hl
  refine lv_iconst (v := 0) hx hb d_MO_keepAll_0 (by decide) ?_
  refine lv_istore_n (lv' := [(1, .int 0), (0, .ref y)]) hx hb d_MO_keepAll_1 rfl hl (by decide) rfl (fun ls hl => ?_)
  refine lv_iconst (v := 1) hx hb d_MO_keepAll_2 (by decide) ?_
  refine lv_istore_n (lv' := [(2, .int 1), (1, .int 0), (0, .ref y)]) hx hb d_MO_keepAll_3 rfl hl (by decide) rfl (fun ls hl => ?_)
  refine lv_iload_n hx hb d_MO_keepAll_4 rfl (lv_at hl 0 rfl) ?_
  refine lv_if_eq (tgt := 97) hx hb d_MO_keepAll_5 (by decide) (fun h => absurd h (by decide)) (fun _ => ?_)
  refine lv_iconst (v := 0) hx hb d_MO_keepAll_8 (by decide) ?_
  refine lv_istore_n (lv' := [(2, .int 0), (1, .int 0), (0, .ref y)]) hx hb d_MO_keepAll_9 rfl hl (by decide) rfl (fun ls hl => ?_)
  refine lv_iconst (v := 0) hx hb d_MO_keepAll_10 (by decide) ?_
  refine lv_istore_n (lv' := [(3, .int 0), (2, .int 0), (1, .int 0), (0, .ref y)]) hx hb d_MO_keepAll_11 rfl hl (by decide) rfl (fun ls hl => ?_)
  refine lv_iload_n hx hb d_MO_keepAll_12 rfl (lv_at hl 0 rfl) ?_
  refine lv_aload_n hx hb d_MO_keepAll_13 rfl (lv_at hl 3 rfl) ?_
  refine va_get (D := D) (ci := 7) (v := .int 0) (C := R_MO) (T := F_MO) (N := 50) hx hb hts i_MO hown hK hP 0 rfl rfl 20 (by decide) (hts _ q_652) (fun _ h9 => h9) rfl d_MO_keepAll_14 ?_
  refine lv_icmp_ge (tgt := 94) hx hb d_MO_keepAll_17 (by decide) (fun _ => ?_) (fun h => absurd h (by decide))
  refine lv_goto (tgt := 4) hx hb d_MO_keepAll_94 (by decide) ?_
  refine lv_iload_n hx hb d_MO_keepAll_4 rfl (lv_at hl 1 rfl) ?_
  refine lv_if_eq (tgt := 97) hx hb d_MO_keepAll_5 (by decide) (fun _ => ?_) (fun h => absurd h (by decide))
  refine lv_iload_n hx hb d_MO_keepAll_97 rfl (lv_at hl 2 rfl) ?_
  exact W.iret (v := 0) hx hb hr (fun t ht hW => ⟨0, rfl, rfl, ht⟩) (fun q h => absurd h List.not_mem_nil) d_MO_keepAll_98

set_option maxHeartbeats 4000000 in
set_option maxRecDepth 100000 in
theorem f_MO_closings (l : Launch) (D : va_G) (cI cZ : ClassId) (y : Nat) (z : Int32) (y1 : Nat) (y2 : Nat) (y3 : Nat) (y4 : Nat) (y5 : Nat) (y6 : Nat) (y7 : Nat) (y8 : Nat) (y9 : Nat) (y10 : Nat) (y11 : Nat) (y12 : Nat) (y13 : Nat) (y14 : Nat) (y15 : Nat) (y16 : Nat) (y17 : Nat) (y18 : Nat) (y19 : Nat) (y20 : Nat) (y21 : Nat) (y22 : Nat) (y23 : Nat) (y24 : Nat) (y25 : Nat) (y26 : Nat) (y27 : Nat) (y28 : Nat) (y29 : Nat) (y30 : Nat) (y31 : Nat) (y32 : Nat) (y33 : Nat) (y34 : Nat) (y35 : Nat) (y36 : Nat) (y37 : Nat) (y38 : Nat) (sz : Nat)  : Met l ⟨"PromiseChainsModel", "closings", "(Z)V"⟩ (mw ⟨"PromiseChainsModel", "closings", "(Z)V"⟩ prog_9_method_30_code 4 none) ({ frames := 0, cells := 0, slots := 0, locals := 0 }) (va_Pc [.ref y, .int z] (PB D cI cZ sz [(y, .inr (7, [.int 2, .int 0, .int 3, .int 5, .ref y1, .ref y2, .ref y3, .ref y4, .int 0, .ref y5, .ref y6, .ref y7, .ref y8, .ref y9, .ref y10, .ref y11, .ref y12, .ref y13, .ref y14, .ref y15, .int 0, .ref y16, .ref y17, .ref y18, .ref y19, .ref y20, .ref y21, .ref y22, .ref y23, .ref y24, .ref y25, .ref y26, .ref y27, .int 0, .int 0, .ref y28, .ref y29, .ref y30, .ref y31, .ref y32, .ref y33, .ref y34, .ref y35, .ref y36, .int 0, .ref y37, .ref y38, .int 0, .int 0, .int 0]))])) (va_Sv (fun _ => True)) 0 0 (fun _ => False) := by
  refine Met.ofW (cc := prog_9_method_30_code) (maxL := 4) (ret := none) (by decide) rfl ?_
  intro p e s m args below meth c s₁ B hml hv
  obtain ⟨rfl, hsz, hP, hK, hD0, hN⟩ := hv
  have hx := B.exec
  have hb := B.bytes
  have hr := B.returns
  have hts0 := atoms_spec (ws := mw ⟨"PromiseChainsModel", "closings", "(Z)V"⟩ prog_9_method_30_code 4 none) B.pre
  have hts : ∀ w ∈ tblG, w.before _ s = true := fun w h => hts0 w (List.mem_cons_of_mem _ h)
  have hown : s.vm.findClass "PromiseChainsModel" = some m.cls := findClass_of_methodNamed B.named
  have hlocks := B.notSynchronized
  subst hsz
  have hD := hD0
  have hP : va_P D vwCl [(y, .inr (7, [.int 2, .int 0, .int 3, .int 5, .ref y1, .ref y2, .ref y3, .ref y4, .int 0, .ref y5, .ref y6, .ref y7, .ref y8, .ref y9, .ref y10, .ref y11, .ref y12, .ref y13, .ref y14, .ref y15, .int 0, .ref y16, .ref y17, .ref y18, .ref y19, .ref y20, .ref y21, .ref y22, .ref y23, .ref y24, .ref y25, .ref y26, .ref y27, .int 0, .int 0, .ref y28, .ref y29, .ref y30, .ref y31, .ref y32, .ref y33, .ref y34, .ref y35, .ref y36, .int 0, .ref y37, .ref y38, .int 0, .int 0, .int 0]))] s.heap := hP
  have hl := lv_entry ([.ref y, .int z]) (n := 4) (Nat.le_of_ble_eq_true rfl)
  rw [lg_entry_eq]
  generalize (lg_sl ([.ref y, .int z]) ++ List.replicate (4 - (lg_sl ([.ref y, .int z])).length) Slot.unset).toArray = ls at hl ⊢
  have hl : lv_has ls 4 [(0, .ref y), (1, .int z)] := hl
  refine lv_iconst (v := 0) hx hb d_MO_closings_0 (by decide) ?_
  refine lv_istore_n (lv' := [(2, .int 0), (0, .ref y), (1, .int z)]) hx hb d_MO_closings_1 rfl hl (by decide) rfl (fun ls hl => ?_)
  refine lv_iload_n hx hb d_MO_closings_2 rfl (lv_at hl 0 rfl) ?_
  refine lv_aload_n hx hb d_MO_closings_3 rfl (lv_at hl 1 rfl) ?_
  refine va_get (D := D) (ci := 7) (v := .int 0) (C := R_MO) (T := F_MO) (N := 50) hx hb hts i_MO hown hK hP 0 rfl rfl 8 (by decide) (hts _ q_640) (fun _ h9 => h9) rfl d_MO_closings_4 ?_
  refine lv_icmp_ge (tgt := 119) hx hb d_MO_closings_7 (by decide) (fun _ => ?_) (fun h => absurd h (by decide))
  exact W.vret hx hb hr (fun t ht hW => ⟨rfl, trivial, ht⟩) (fun q h => absurd h List.not_mem_nil) d_MO_closings_119

set_option maxHeartbeats 4000000 in
set_option maxRecDepth 100000 in
theorem g_MO_keepAll (l : Launch) (D : va_G) (cI cZ : ClassId) (y : Nat) (tm : Int32) (y1 : Nat) (y2 : Nat) (y3 : Nat) (y4 : Nat) (y5 : Nat) (y6 : Nat) (y7 : Nat) (y8 : Nat) (y9 : Nat) (y10 : Nat) (y11 : Nat) (y12 : Nat) (y13 : Nat) (y14 : Nat) (y15 : Nat) (y16 : Nat) (y17 : Nat) (y18 : Nat) (y19 : Nat) (y20 : Nat) (y21 : Nat) (y22 : Nat) (y23 : Nat) (y24 : Nat) (y25 : Nat) (y26 : Nat) (y27 : Nat) (y28 : Nat) (y29 : Nat) (y30 : Nat) (y31 : Nat) (y32 : Nat) (y33 : Nat) (y34 : Nat) (y35 : Nat) (y36 : Nat) (y37 : Nat) (y38 : Nat) (sz : Nat)  : Met l ⟨"PromiseChainsModel", "keepAll", "()I"⟩ (mw ⟨"PromiseChainsModel", "keepAll", "()I"⟩ prog_9_method_22_code 5 (some .int)) ({ frames := 0, cells := 0, slots := 0, locals := 0 }) (va_Pc [.ref y] (PB D cI cZ sz [(y, .inr (7, [.int 2, .int tm, .int 3, .int 5, .ref y1, .ref y2, .ref y3, .ref y4, .int 0, .ref y5, .ref y6, .ref y7, .ref y8, .ref y9, .ref y10, .ref y11, .ref y12, .ref y13, .ref y14, .ref y15, .int 0, .ref y16, .ref y17, .ref y18, .ref y19, .ref y20, .ref y21, .ref y22, .ref y23, .ref y24, .ref y25, .ref y26, .ref y27, .int 0, .int 0, .ref y28, .ref y29, .ref y30, .ref y31, .ref y32, .ref y33, .ref y34, .ref y35, .ref y36, .int 0, .ref y37, .ref y38, .int 0, .int 0, .int 0]))])) (vp_Si (fun r => r = 0)) 0 0 (fun _ => False) := by
  refine Met.ofW (cc := prog_9_method_22_code) (maxL := 5) (ret := (some .int)) (by decide) rfl ?_
  intro p e s m args below meth c s₁ B hml hv
  obtain ⟨rfl, hsz, hP, hK, hD0, hN⟩ := hv
  have hx := B.exec
  have hb := B.bytes
  have hr := B.returns
  have hts0 := atoms_spec (ws := mw ⟨"PromiseChainsModel", "keepAll", "()I"⟩ prog_9_method_22_code 5 (some .int)) B.pre
  have hts : ∀ w ∈ tblG, w.before _ s = true := fun w h => hts0 w (List.mem_cons_of_mem _ h)
  have hown : s.vm.findClass "PromiseChainsModel" = some m.cls := findClass_of_methodNamed B.named
  have hlocks := B.notSynchronized
  subst hsz
  have hD := hD0
  have hP : va_P D vwCl [(y, .inr (7, [.int 2, .int tm, .int 3, .int 5, .ref y1, .ref y2, .ref y3, .ref y4, .int 0, .ref y5, .ref y6, .ref y7, .ref y8, .ref y9, .ref y10, .ref y11, .ref y12, .ref y13, .ref y14, .ref y15, .int 0, .ref y16, .ref y17, .ref y18, .ref y19, .ref y20, .ref y21, .ref y22, .ref y23, .ref y24, .ref y25, .ref y26, .ref y27, .int 0, .int 0, .ref y28, .ref y29, .ref y30, .ref y31, .ref y32, .ref y33, .ref y34, .ref y35, .ref y36, .int 0, .ref y37, .ref y38, .int 0, .int 0, .int 0]))] s.heap := hP
  have hl := lv_entry ([.ref y]) (n := 5) (Nat.le_of_ble_eq_true rfl)
  rw [lg_entry_eq]
  generalize (lg_sl ([.ref y]) ++ List.replicate (5 - (lg_sl ([.ref y])).length) Slot.unset).toArray = ls at hl ⊢
  have hl : lv_has ls 5 [(0, .ref y)] := hl
  refine lv_iconst (v := 0) hx hb d_MO_keepAll_0 (by decide) ?_
  refine lv_istore_n (lv' := [(1, .int 0), (0, .ref y)]) hx hb d_MO_keepAll_1 rfl hl (by decide) rfl (fun ls hl => ?_)
  refine lv_iconst (v := 1) hx hb d_MO_keepAll_2 (by decide) ?_
  refine lv_istore_n (lv' := [(2, .int 1), (1, .int 0), (0, .ref y)]) hx hb d_MO_keepAll_3 rfl hl (by decide) rfl (fun ls hl => ?_)
  refine lv_iload_n hx hb d_MO_keepAll_4 rfl (lv_at hl 0 rfl) ?_
  refine lv_if_eq (tgt := 97) hx hb d_MO_keepAll_5 (by decide) (fun h => absurd h (by decide)) (fun _ => ?_)
  refine lv_iconst (v := 0) hx hb d_MO_keepAll_8 (by decide) ?_
  refine lv_istore_n (lv' := [(2, .int 0), (1, .int 0), (0, .ref y)]) hx hb d_MO_keepAll_9 rfl hl (by decide) rfl (fun ls hl => ?_)
  refine lv_iconst (v := 0) hx hb d_MO_keepAll_10 (by decide) ?_
  refine lv_istore_n (lv' := [(3, .int 0), (2, .int 0), (1, .int 0), (0, .ref y)]) hx hb d_MO_keepAll_11 rfl hl (by decide) rfl (fun ls hl => ?_)
  refine lv_iload_n hx hb d_MO_keepAll_12 rfl (lv_at hl 0 rfl) ?_
  refine lv_aload_n hx hb d_MO_keepAll_13 rfl (lv_at hl 3 rfl) ?_
  refine va_get (D := D) (ci := 7) (v := .int 0) (C := R_MO) (T := F_MO) (N := 50) hx hb hts i_MO hown hK hP 0 rfl rfl 20 (by decide) (hts _ q_652) (fun _ h9 => h9) rfl d_MO_keepAll_14 ?_
  refine lv_icmp_ge (tgt := 94) hx hb d_MO_keepAll_17 (by decide) (fun _ => ?_) (fun h => absurd h (by decide))
  refine lv_goto (tgt := 4) hx hb d_MO_keepAll_94 (by decide) ?_
  refine lv_iload_n hx hb d_MO_keepAll_4 rfl (lv_at hl 1 rfl) ?_
  refine lv_if_eq (tgt := 97) hx hb d_MO_keepAll_5 (by decide) (fun _ => ?_) (fun h => absurd h (by decide))
  refine lv_iload_n hx hb d_MO_keepAll_97 rfl (lv_at hl 2 rfl) ?_
  exact W.iret (v := 0) hx hb hr (fun t ht hW => ⟨0, rfl, rfl, ht⟩) (fun q h => absurd h List.not_mem_nil) d_MO_keepAll_98

set_option maxHeartbeats 4000000 in
set_option maxRecDepth 100000 in
theorem g_MO_closings (l : Launch) (D : va_G) (cI cZ : ClassId) (y : Nat) (z : Int32) (tm : Int32) (y1 : Nat) (y2 : Nat) (y3 : Nat) (y4 : Nat) (y5 : Nat) (y6 : Nat) (y7 : Nat) (y8 : Nat) (y9 : Nat) (y10 : Nat) (y11 : Nat) (y12 : Nat) (y13 : Nat) (y14 : Nat) (y15 : Nat) (y16 : Nat) (y17 : Nat) (y18 : Nat) (y19 : Nat) (y20 : Nat) (y21 : Nat) (y22 : Nat) (y23 : Nat) (y24 : Nat) (y25 : Nat) (y26 : Nat) (y27 : Nat) (y28 : Nat) (y29 : Nat) (y30 : Nat) (y31 : Nat) (y32 : Nat) (y33 : Nat) (y34 : Nat) (y35 : Nat) (y36 : Nat) (y37 : Nat) (y38 : Nat) (sz : Nat)  : Met l ⟨"PromiseChainsModel", "closings", "(Z)V"⟩ (mw ⟨"PromiseChainsModel", "closings", "(Z)V"⟩ prog_9_method_30_code 4 none) ({ frames := 0, cells := 0, slots := 0, locals := 0 }) (va_Pc [.ref y, .int z] (PB D cI cZ sz [(y, .inr (7, [.int 2, .int tm, .int 3, .int 5, .ref y1, .ref y2, .ref y3, .ref y4, .int 0, .ref y5, .ref y6, .ref y7, .ref y8, .ref y9, .ref y10, .ref y11, .ref y12, .ref y13, .ref y14, .ref y15, .int 0, .ref y16, .ref y17, .ref y18, .ref y19, .ref y20, .ref y21, .ref y22, .ref y23, .ref y24, .ref y25, .ref y26, .ref y27, .int 0, .int 0, .ref y28, .ref y29, .ref y30, .ref y31, .ref y32, .ref y33, .ref y34, .ref y35, .ref y36, .int 0, .ref y37, .ref y38, .int 0, .int 0, .int 0]))])) (va_Sv (fun _ => True)) 0 0 (fun _ => False) := by
  refine Met.ofW (cc := prog_9_method_30_code) (maxL := 4) (ret := none) (by decide) rfl ?_
  intro p e s m args below meth c s₁ B hml hv
  obtain ⟨rfl, hsz, hP, hK, hD0, hN⟩ := hv
  have hx := B.exec
  have hb := B.bytes
  have hr := B.returns
  have hts0 := atoms_spec (ws := mw ⟨"PromiseChainsModel", "closings", "(Z)V"⟩ prog_9_method_30_code 4 none) B.pre
  have hts : ∀ w ∈ tblG, w.before _ s = true := fun w h => hts0 w (List.mem_cons_of_mem _ h)
  have hown : s.vm.findClass "PromiseChainsModel" = some m.cls := findClass_of_methodNamed B.named
  have hlocks := B.notSynchronized
  subst hsz
  have hD := hD0
  have hP : va_P D vwCl [(y, .inr (7, [.int 2, .int tm, .int 3, .int 5, .ref y1, .ref y2, .ref y3, .ref y4, .int 0, .ref y5, .ref y6, .ref y7, .ref y8, .ref y9, .ref y10, .ref y11, .ref y12, .ref y13, .ref y14, .ref y15, .int 0, .ref y16, .ref y17, .ref y18, .ref y19, .ref y20, .ref y21, .ref y22, .ref y23, .ref y24, .ref y25, .ref y26, .ref y27, .int 0, .int 0, .ref y28, .ref y29, .ref y30, .ref y31, .ref y32, .ref y33, .ref y34, .ref y35, .ref y36, .int 0, .ref y37, .ref y38, .int 0, .int 0, .int 0]))] s.heap := hP
  have hl := lv_entry ([.ref y, .int z]) (n := 4) (Nat.le_of_ble_eq_true rfl)
  rw [lg_entry_eq]
  generalize (lg_sl ([.ref y, .int z]) ++ List.replicate (4 - (lg_sl ([.ref y, .int z])).length) Slot.unset).toArray = ls at hl ⊢
  have hl : lv_has ls 4 [(0, .ref y), (1, .int z)] := hl
  refine lv_iconst (v := 0) hx hb d_MO_closings_0 (by decide) ?_
  refine lv_istore_n (lv' := [(2, .int 0), (0, .ref y), (1, .int z)]) hx hb d_MO_closings_1 rfl hl (by decide) rfl (fun ls hl => ?_)
  refine lv_iload_n hx hb d_MO_closings_2 rfl (lv_at hl 0 rfl) ?_
  refine lv_aload_n hx hb d_MO_closings_3 rfl (lv_at hl 1 rfl) ?_
  refine va_get (D := D) (ci := 7) (v := .int 0) (C := R_MO) (T := F_MO) (N := 50) hx hb hts i_MO hown hK hP 0 rfl rfl 8 (by decide) (hts _ q_640) (fun _ h9 => h9) rfl d_MO_closings_4 ?_
  refine lv_icmp_ge (tgt := 119) hx hb d_MO_closings_7 (by decide) (fun _ => ?_) (fun h => absurd h (by decide))
  exact W.vret hx hb hr (fun t ht hW => ⟨rfl, trivial, ht⟩) (fun q h => absurd h List.not_mem_nil) d_MO_closings_119

set_option maxHeartbeats 4000000 in
set_option maxRecDepth 100000 in
theorem f_MO_tell (l : Launch) (D : va_G) (cI cZ : ClassId) (y : Nat) (i : Int32) (y1 : Nat) (y2 : Nat) (y3 : Nat) (y4 : Nat) (y5 : Nat) (y6 : Nat) (y7 : Nat) (y8 : Nat) (y9 : Nat) (y10 : Nat) (y11 : Nat) (y12 : Nat) (y13 : Nat) (y14 : Nat) (y15 : Nat) (y16 : Nat) (y17 : Nat) (y18 : Nat) (y19 : Nat) (y20 : Nat) (y21 : Nat) (y22 : Nat) (y23 : Nat) (y24 : Nat) (y25 : Nat) (y26 : Nat) (y27 : Nat) (y28 : Nat) (y29 : Nat) (y30 : Nat) (y31 : Nat) (y32 : Nat) (y33 : Nat) (y34 : Nat) (y35 : Nat) (y36 : Nat) (y37 : Nat) (y38 : Nat) (sz : Nat)  : Met l ⟨"PromiseChainsModel", "tell", "(I)I"⟩ (mw ⟨"PromiseChainsModel", "tell", "(I)I"⟩ prog_9_method_25_code 3 (some .int)) ({ frames := 1, cells := 0, slots := 0, locals := 22 }) (va_Pc [.ref y, .int i] (PB D cI cZ sz [(y, .inr (7, [.int 2, .int 0, .int 3, .int 5, .ref y1, .ref y2, .ref y3, .ref y4, .int 0, .ref y5, .ref y6, .ref y7, .ref y8, .ref y9, .ref y10, .ref y11, .ref y12, .ref y13, .ref y14, .ref y15, .int 0, .ref y16, .ref y17, .ref y18, .ref y19, .ref y20, .ref y21, .ref y22, .ref y23, .ref y24, .ref y25, .ref y26, .ref y27, .int 0, .int 0, .ref y28, .ref y29, .ref y30, .ref y31, .ref y32, .ref y33, .ref y34, .ref y35, .ref y36, .int 0, .ref y37, .ref y38, .int 0, .int 0, .int 0]))])) (vp_Si (fun r => r = -2)) 0 0 (fun _ => False) := by
  refine Met.ofW (cc := prog_9_method_25_code) (maxL := 3) (ret := (some .int)) (by decide) rfl ?_
  intro p e s m args below meth c s₁ B hml hv
  obtain ⟨rfl, hsz, hP, hK, hD0, hN⟩ := hv
  have hx := B.exec
  have hb := B.bytes
  have hr := B.returns
  have hts0 := atoms_spec (ws := mw ⟨"PromiseChainsModel", "tell", "(I)I"⟩ prog_9_method_25_code 3 (some .int)) B.pre
  have hts : ∀ w ∈ tblG, w.before _ s = true := fun w h => hts0 w (List.mem_cons_of_mem _ h)
  have hown : s.vm.findClass "PromiseChainsModel" = some m.cls := findClass_of_methodNamed B.named
  have hlocks := B.notSynchronized
  subst hsz
  have hD := hD0
  have hP : va_P D vwCl [(y, .inr (7, [.int 2, .int 0, .int 3, .int 5, .ref y1, .ref y2, .ref y3, .ref y4, .int 0, .ref y5, .ref y6, .ref y7, .ref y8, .ref y9, .ref y10, .ref y11, .ref y12, .ref y13, .ref y14, .ref y15, .int 0, .ref y16, .ref y17, .ref y18, .ref y19, .ref y20, .ref y21, .ref y22, .ref y23, .ref y24, .ref y25, .ref y26, .ref y27, .int 0, .int 0, .ref y28, .ref y29, .ref y30, .ref y31, .ref y32, .ref y33, .ref y34, .ref y35, .ref y36, .int 0, .ref y37, .ref y38, .int 0, .int 0, .int 0]))] s.heap := hP
  have hl := lv_entry ([.ref y, .int i]) (n := 3) (Nat.le_of_ble_eq_true rfl)
  rw [lg_entry_eq]
  generalize (lg_sl ([.ref y, .int i]) ++ List.replicate (3 - (lg_sl ([.ref y, .int i])).length) Slot.unset).toArray = ls at hl ⊢
  have hl : lv_has ls 3 [(0, .ref y), (1, .int i)] := hl
  refine lv_iload_n hx hb d_MO_tell_0 rfl (lv_at hl 1 rfl) ?_
  refine lv_iconst (v := 0) hx hb d_MO_tell_1 (by decide) ?_
  refine lv_aload_n hx hb d_MO_tell_2 rfl (lv_at hl 0 rfl) ?_
  refine va_get (D := D) (ci := 7) (v := .int 0) (C := R_MO) (T := F_MO) (N := 50) hx hb hts i_MO hown hK hP 0 rfl rfl 20 (by decide) (hts _ q_652) (fun _ h9 => h9) rfl d_MO_tell_3 ?_
  refine lv_iconst (v := 1) hx hb d_MO_tell_6 (by decide) ?_
  refine lv_isub hx hb d_MO_tell_7 ?_
  refine lv_seti (-1) (by decide) ?_
  have hPc := hP.sub (ws' := []) [] rfl
  have hDc := hD.sub (ws' := []) [] (by decide) rfl
  refine vp_callSi (va_Run.run (va_runS (As := [.int i, .int 0, .int (-1)]) (rest := []) ⟨hx, hb, hml, hown, hts⟩ (c_in l D cI cZ i 0 (-1) s.heap.size ) (my_cwS 3 hts q_789 q_787 q_788 q_8 rfl rfl (by decide +kernel) ⟨Nat.le_of_ble_eq_true rfl, Nat.le_of_ble_eq_true rfl⟩) (my_preS hPc hDc hK hN) rfl rfl hl.1 rfl (lv_room (Nat.le_of_ble_eq_true rfl)) d_MO_tell_8 ⟨Nat.le_of_ble_eq_true rfl, Nat.le_of_ble_eq_true rfl⟩)) (fun r_1 hw_1 => ?_)
  have hw_1 : r_1 = isw i 0 (-1) := hw_1
  subst hw_1
  refine lv_seti (0) (isw_neg _) ?_
  refine lv_if_ne (tgt := 17) hx hb d_MO_tell_11 (by decide) (fun h => absurd h (by decide)) (fun _ => ?_)
  refine lv_bipush (v := (-2)) hx hb d_MO_tell_14 (by decide) ?_
  exact W.iret (v := (-2)) hx hb hr (fun t ht hW => ⟨(-2), rfl, rfl, ht⟩) (fun q h => absurd h List.not_mem_nil) d_MO_tell_16

set_option maxHeartbeats 4000000 in
set_option maxRecDepth 100000 in
theorem f_MO_tick (l : Launch) (D : va_G) (cI cZ : ClassId) (y : Nat) (n : Int32) (y1 : Nat) (y2 : Nat) (y3 : Nat) (y4 : Nat) (y5 : Nat) (y6 : Nat) (y7 : Nat) (y8 : Nat) (y9 : Nat) (y10 : Nat) (y11 : Nat) (y12 : Nat) (y13 : Nat) (y14 : Nat) (y15 : Nat) (y16 : Nat) (y17 : Nat) (y18 : Nat) (y19 : Nat) (y20 : Nat) (y21 : Nat) (y22 : Nat) (y23 : Nat) (y24 : Nat) (y25 : Nat) (y26 : Nat) (y27 : Nat) (y28 : Nat) (y29 : Nat) (y30 : Nat) (y31 : Nat) (y32 : Nat) (y33 : Nat) (y34 : Nat) (y35 : Nat) (y36 : Nat) (y37 : Nat) (y38 : Nat) (sz : Nat)  : Met l ⟨"PromiseChainsModel", "tick", "(I)I"⟩ (mw ⟨"PromiseChainsModel", "tick", "(I)I"⟩ prog_9_method_26_code 6 (some .int)) ({ frames := 1, cells := 0, slots := 0, locals := 24 }) (va_Pc [.ref y, .int n] (PB D cI cZ sz [(y, .inr (7, [.int 2, .int 0, .int 3, .int 5, .ref y1, .ref y2, .ref y3, .ref y4, .int 0, .ref y5, .ref y6, .ref y7, .ref y8, .ref y9, .ref y10, .ref y11, .ref y12, .ref y13, .ref y14, .ref y15, .int 0, .ref y16, .ref y17, .ref y18, .ref y19, .ref y20, .ref y21, .ref y22, .ref y23, .ref y24, .ref y25, .ref y26, .ref y27, .int 0, .int 0, .ref y28, .ref y29, .ref y30, .ref y31, .ref y32, .ref y33, .ref y34, .ref y35, .ref y36, .int 0, .ref y37, .ref y38, .int 0, .int 0, .int 0]))])) (va_Qi (S := Unit) (fun (r : Int32) uU => r = sp_tick n) (fun uU tT => BB D (va_A [(y, .inr (7, [.int 2, .int 0, .int 3, .int 5, .ref y1, .ref y2, .ref y3, .ref y4, .int 0, .ref y5, .ref y6, .ref y7, .ref y8, .ref y9, .ref y10, .ref y11, .ref y12, .ref y13, .ref y14, .ref y15, .int 0, .ref y16, .ref y17, .ref y18, .ref y19, .ref y20, .ref y21, .ref y22, .ref y23, .ref y24, .ref y25, .ref y26, .ref y27, .int 0, .int 0, .ref y28, .ref y29, .ref y30, .ref y31, .ref y32, .ref y33, .ref y34, .ref y35, .ref y36, .int 0, .ref y37, .ref y38, .int 0, .int 0, .int 0]))] sz) [] tT) (va_A [(y, .inr (7, [.int 2, .int 0, .int 3, .int 5, .ref y1, .ref y2, .ref y3, .ref y4, .int 0, .ref y5, .ref y6, .ref y7, .ref y8, .ref y9, .ref y10, .ref y11, .ref y12, .ref y13, .ref y14, .ref y15, .int 0, .ref y16, .ref y17, .ref y18, .ref y19, .ref y20, .ref y21, .ref y22, .ref y23, .ref y24, .ref y25, .ref y26, .ref y27, .int 0, .int 0, .ref y28, .ref y29, .ref y30, .ref y31, .ref y32, .ref y33, .ref y34, .ref y35, .ref y36, .int 0, .ref y37, .ref y38, .int 0, .int 0, .int 0]))] sz)) 0 0 (va_A [(y, .inr (7, [.int 2, .int 0, .int 3, .int 5, .ref y1, .ref y2, .ref y3, .ref y4, .int 0, .ref y5, .ref y6, .ref y7, .ref y8, .ref y9, .ref y10, .ref y11, .ref y12, .ref y13, .ref y14, .ref y15, .int 0, .ref y16, .ref y17, .ref y18, .ref y19, .ref y20, .ref y21, .ref y22, .ref y23, .ref y24, .ref y25, .ref y26, .ref y27, .int 0, .int 0, .ref y28, .ref y29, .ref y30, .ref y31, .ref y32, .ref y33, .ref y34, .ref y35, .ref y36, .int 0, .ref y37, .ref y38, .int 0, .int 0, .int 0]))] sz) := by
  refine Met.ofW (cc := prog_9_method_26_code) (maxL := 6) (ret := (some .int)) (by decide) rfl ?_
  intro p e s m args below meth c s₁ B hml hv
  obtain ⟨rfl, hsz, hP, hK, hD0, hN⟩ := hv
  have hx := B.exec
  have hb := B.bytes
  have hr := B.returns
  have hts0 := atoms_spec (ws := mw ⟨"PromiseChainsModel", "tick", "(I)I"⟩ prog_9_method_26_code 6 (some .int)) B.pre
  have hts : ∀ w ∈ tblG, w.before _ s = true := fun w h => hts0 w (List.mem_cons_of_mem _ h)
  have hown : s.vm.findClass "PromiseChainsModel" = some m.cls := findClass_of_methodNamed B.named
  have hlocks := B.notSynchronized
  subst hsz
  have hD := hD0.self (sz := s.heap.size)
  generalize hAe : va_A [(y, .inr (7, [.int 2, .int 0, .int 3, .int 5, .ref y1, .ref y2, .ref y3, .ref y4, .int 0, .ref y5, .ref y6, .ref y7, .ref y8, .ref y9, .ref y10, .ref y11, .ref y12, .ref y13, .ref y14, .ref y15, .int 0, .ref y16, .ref y17, .ref y18, .ref y19, .ref y20, .ref y21, .ref y22, .ref y23, .ref y24, .ref y25, .ref y26, .ref y27, .int 0, .int 0, .ref y28, .ref y29, .ref y30, .ref y31, .ref y32, .ref y33, .ref y34, .ref y35, .ref y36, .int 0, .ref y37, .ref y38, .int 0, .int 0, .int 0]))] s.heap.size = A at hD ⊢
  have hA : ∀ q : Nat, s.heap.size ≤ q → A q := fun q h => by rw [← hAe]; exact Or.inr h
  have hS : va_S A s.heap s.heap [] := va_S.rf
  have hP : va_P D vwCl [(y, .inr (7, [.int 2, .int 0, .int 3, .int 5, .ref y1, .ref y2, .ref y3, .ref y4, .int 0, .ref y5, .ref y6, .ref y7, .ref y8, .ref y9, .ref y10, .ref y11, .ref y12, .ref y13, .ref y14, .ref y15, .int 0, .ref y16, .ref y17, .ref y18, .ref y19, .ref y20, .ref y21, .ref y22, .ref y23, .ref y24, .ref y25, .ref y26, .ref y27, .int 0, .int 0, .ref y28, .ref y29, .ref y30, .ref y31, .ref y32, .ref y33, .ref y34, .ref y35, .ref y36, .int 0, .ref y37, .ref y38, .int 0, .int 0, .int 0]))] s.heap := hP
  have hl := lv_entry ([.ref y, .int n]) (n := 6) (Nat.le_of_ble_eq_true rfl)
  rw [lg_entry_eq]
  generalize (lg_sl ([.ref y, .int n]) ++ List.replicate (6 - (lg_sl ([.ref y, .int n])).length) Slot.unset).toArray = ls at hl ⊢
  have hl : lv_has ls 6 [(0, .ref y), (1, .int n)] := hl
  refine lv_iload_n hx hb d_MO_tick_0 rfl (lv_at hl 1 rfl) ?_
  refine lv_iconst (v := 1) hx hb d_MO_tick_1 (by decide) ?_
  refine lv_bipush (v := 60) hx hb d_MO_tick_2 (by decide) ?_
  have hPc := hP.sub (ws' := []) [] rfl
  have hDc := hD.sub (ws' := []) [] (by decide) rfl
  refine vp_callSi (va_Run.run (va_runS (As := [.int n, .int 1, .int 60]) (rest := []) ⟨hx, hb, hml, hown, hts⟩ (c_in l D cI cZ n 1 60 s.heap.size ) (my_cwS 3 hts q_789 q_787 q_788 q_8 rfl rfl (by decide +kernel) ⟨Nat.le_of_ble_eq_true rfl, Nat.le_of_ble_eq_true rfl⟩) (my_preS hPc hDc hK hN) rfl rfl hl.1 rfl (lv_room (Nat.le_of_ble_eq_true rfl)) d_MO_tick_4 ⟨Nat.le_of_ble_eq_true rfl, Nat.le_of_ble_eq_true rfl⟩)) (fun r_1 hw_1 => ?_)
  have hw_1 : r_1 = isw n 1 60 := hw_1
  subst hw_1
  refine lv_if_ne (tgt := 13) hx hb d_MO_tick_7 (by decide) (fun h_2 => ?_) (fun h_2 => ?_)
  · obtain ⟨N, hN60, rfl⟩ := isw_nat (K := 60) rfl h_2
    refine lv_iconst (v := 0) hx hb d_MO_tick_13 (by decide) ?_
    refine lv_istore_n (lv' := [(2, .int 0), (0, .ref y), (1, .int (nI N))]) hx hb d_MO_tick_14 rfl hl (by decide) rfl (fun ls hl => ?_)
    refine lv_iconst (v := 0) hx hb d_MO_tick_15 (by decide) ?_
    refine lv_istore_n (lv' := [(3, .int 0), (2, .int 0), (0, .ref y), (1, .int (nI N))]) hx hb d_MO_tick_16 rfl hl (by decide) rfl (fun ls hl => ?_)
    refine W_loop (σ := Nat × Int32) (I := fun xX H locs ls => xX.1 ≤ N ∧ va_P D vwCl [(y, .inr (7, [.int 2, .int xX.2, .int 3, .int 5, .ref y1, .ref y2, .ref y3, .ref y4, .int 0, .ref y5, .ref y6, .ref y7, .ref y8, .ref y9, .ref y10, .ref y11, .ref y12, .ref y13, .ref y14, .ref y15, .int 0, .ref y16, .ref y17, .ref y18, .ref y19, .ref y20, .ref y21, .ref y22, .ref y23, .ref y24, .ref y25, .ref y26, .ref y27, .int 0, .int 0, .ref y28, .ref y29, .ref y30, .ref y31, .ref y32, .ref y33, .ref y34, .ref y35, .ref y36, .int 0, .ref y37, .ref y38, .int 0, .int 0, .int 0]))] H ∧ va_D A [(y, .inr (7, [.int 2, .int xX.2, .int 3, .int 5, .ref y1, .ref y2, .ref y3, .ref y4, .int 0, .ref y5, .ref y6, .ref y7, .ref y8, .ref y9, .ref y10, .ref y11, .ref y12, .ref y13, .ref y14, .ref y15, .int 0, .ref y16, .ref y17, .ref y18, .ref y19, .ref y20, .ref y21, .ref y22, .ref y23, .ref y24, .ref y25, .ref y26, .ref y27, .int 0, .int 0, .ref y28, .ref y29, .ref y30, .ref y31, .ref y32, .ref y33, .ref y34, .ref y35, .ref y36, .int 0, .ref y37, .ref y38, .int 0, .int 0, .int 0]))] ∧ va_S A s.heap H locs ∧ lv_has ls 6 [(3, .int (nI xX.1)), (2, .int 0), (0, .ref y), (1, .int (nI N))]) (μ := fun xX => N + 1 - xX.1) ?_ (0, 0) ⟨(Nat.zero_le _), hP, hD, hS, lv_sub hl [0, 1, 2, 3] rfl⟩
    intro xX H_3 locs ls hI ih
    obtain ⟨k, tm⟩ := xX
    obtain ⟨hi, hP, hD, hS, hl⟩ := hI
    have hP : va_P D vwCl [(y, .inr (7, [.int 2, .int tm, .int 3, .int 5, .ref y1, .ref y2, .ref y3, .ref y4, .int 0, .ref y5, .ref y6, .ref y7, .ref y8, .ref y9, .ref y10, .ref y11, .ref y12, .ref y13, .ref y14, .ref y15, .int 0, .ref y16, .ref y17, .ref y18, .ref y19, .ref y20, .ref y21, .ref y22, .ref y23, .ref y24, .ref y25, .ref y26, .ref y27, .int 0, .int 0, .ref y28, .ref y29, .ref y30, .ref y31, .ref y32, .ref y33, .ref y34, .ref y35, .ref y36, .int 0, .ref y37, .ref y38, .int 0, .int 0, .int 0]))] H_3 := hP
    have hD : va_D A [(y, .inr (7, [.int 2, .int tm, .int 3, .int 5, .ref y1, .ref y2, .ref y3, .ref y4, .int 0, .ref y5, .ref y6, .ref y7, .ref y8, .ref y9, .ref y10, .ref y11, .ref y12, .ref y13, .ref y14, .ref y15, .int 0, .ref y16, .ref y17, .ref y18, .ref y19, .ref y20, .ref y21, .ref y22, .ref y23, .ref y24, .ref y25, .ref y26, .ref y27, .int 0, .int 0, .ref y28, .ref y29, .ref y30, .ref y31, .ref y32, .ref y33, .ref y34, .ref y35, .ref y36, .int 0, .ref y37, .ref y38, .int 0, .int 0, .int 0]))] := hD
    have hl : lv_has ls 6 [(3, .int (nI k)), (2, .int 0), (0, .ref y), (1, .int (nI N))] := hl
    have hi : k ≤ N := hi
    refine lv_iload_n hx hb d_MO_tick_17 rfl (lv_at hl 0 rfl) ?_
    refine lv_iload_n hx hb d_MO_tick_18 rfl (lv_at hl 3 rfl) ?_
    refine lv_icmp_ge (tgt := 219) hx hb d_MO_tick_19 (by decide) (fun h_4 => ?_) (fun h_4 => ?_)
    · have nh_4 : N ≤ k := (nI_leI (a := N) (b := k) (by omega) (by omega)).mp h_4
      refine lv_iload_n hx hb d_MO_tick_219 rfl (lv_at hl 1 rfl) ?_
      have hP9 := hP.sub (ws' := []) [] rfl
      have hD9 := hD.sub (ws' := []) [] (by decide) rfl
      refine W.widen (k := 0) (n := 0) (Nat.le_of_ble_eq_true rfl) (Nat.le_of_ble_eq_true rfl) ?_
      exact W.iret (v := 0) hx hb hr (fun t ht hW => ⟨⟨0, (), rfl, (by first | decide | simp [sp_tick, h_2, h_4]), by rw [ht]; exact hP9, hD9⟩, hS.F ht⟩) hS.2.2 d_MO_tick_220
    · have nh_4 : ¬ N ≤ k := fun q => h_4 ((nI_leI (a := N) (b := k) (by omega) (by omega)).mpr q)
      refine lv_aload_n hx hb d_MO_tick_22 rfl (lv_at hl 2 rfl) ?_
      refine lv_dup hx hb d_MO_tick_23 rfl ?_
      refine va_get (D := D) (ci := 7) (v := .int tm) (C := R_MO) (T := F_MO) (N := 50) hx hb hts i_MO hown hK hP 0 rfl rfl 1 (by decide) (hts _ q_633) (fun _ h9 => h9) rfl d_MO_tick_24 ?_
      refine lv_iconst (v := 1) hx hb d_MO_tick_27 (by decide) ?_
      refine lv_iadd hx hb d_MO_tick_28 ?_
      refine va_put (D := D) (ci := 7) (v := .int (tm + 1)) (ty := .int) (C := R_MO) (T := F_MO) (N := 50) hx hb hts i_MO t_MO t_MO_ok n_MO hown hK hP hD hS 0 rfl rfl 1 (by decide) (hts _ q_633) (fun _ h9 => h9) rfl (by decide +kernel) rfl rfl (Nat.le_of_ble_eq_true rfl) d_MO_tick_29 (fun H_5 locs hP hD hS => ?_)
      have hP : va_P D vwCl [(y, .inr (7, [.int 2, .int (tm + 1), .int 3, .int 5, .ref y1, .ref y2, .ref y3, .ref y4, .int 0, .ref y5, .ref y6, .ref y7, .ref y8, .ref y9, .ref y10, .ref y11, .ref y12, .ref y13, .ref y14, .ref y15, .int 0, .ref y16, .ref y17, .ref y18, .ref y19, .ref y20, .ref y21, .ref y22, .ref y23, .ref y24, .ref y25, .ref y26, .ref y27, .int 0, .int 0, .ref y28, .ref y29, .ref y30, .ref y31, .ref y32, .ref y33, .ref y34, .ref y35, .ref y36, .int 0, .ref y37, .ref y38, .int 0, .int 0, .int 0]))] H_5 := hP
      have hD : va_D A [(y, .inr (7, [.int 2, .int (tm + 1), .int 3, .int 5, .ref y1, .ref y2, .ref y3, .ref y4, .int 0, .ref y5, .ref y6, .ref y7, .ref y8, .ref y9, .ref y10, .ref y11, .ref y12, .ref y13, .ref y14, .ref y15, .int 0, .ref y16, .ref y17, .ref y18, .ref y19, .ref y20, .ref y21, .ref y22, .ref y23, .ref y24, .ref y25, .ref y26, .ref y27, .int 0, .int 0, .ref y28, .ref y29, .ref y30, .ref y31, .ref y32, .ref y33, .ref y34, .ref y35, .ref y36, .int 0, .ref y37, .ref y38, .int 0, .int 0, .int 0]))] := hD
      refine lv_iconst (v := 0) hx hb d_MO_tick_32 (by decide) ?_
      refine lv_istore (lv' := [(4, .int 0), (3, .int (nI k)), (2, .int 0), (0, .ref y), (1, .int (nI N))]) hx hb d_MO_tick_33 hl (by decide) rfl (fun ls hl => ?_)
      refine lv_iload hx hb d_MO_tick_35 (lv_at hl 0 rfl) ?_
      refine lv_aload_n hx hb d_MO_tick_37 rfl (lv_at hl 3 rfl) ?_
      refine va_get (D := D) (ci := 7) (v := .int 0) (C := R_MO) (T := F_MO) (N := 50) hx hb hts i_MO hown hK hP 0 rfl rfl 20 (by decide) (hts _ q_652) (fun _ h9 => h9) rfl d_MO_tick_38 ?_
      refine lv_icmp_ge (tgt := 202) hx hb d_MO_tick_41 (by decide) (fun _ => ?_) (fun h => absurd h (by decide))
      refine lv_aload_n hx hb d_MO_tick_202 rfl (lv_at hl 3 rfl) ?_
      have hPc := hP.sub (ws' := [(y, .inr (7, [.int 2, .int (tm + 1), .int 3, .int 5, .ref y1, .ref y2, .ref y3, .ref y4, .int 0, .ref y5, .ref y6, .ref y7, .ref y8, .ref y9, .ref y10, .ref y11, .ref y12, .ref y13, .ref y14, .ref y15, .int 0, .ref y16, .ref y17, .ref y18, .ref y19, .ref y20, .ref y21, .ref y22, .ref y23, .ref y24, .ref y25, .ref y26, .ref y27, .int 0, .int 0, .ref y28, .ref y29, .ref y30, .ref y31, .ref y32, .ref y33, .ref y34, .ref y35, .ref y36, .int 0, .ref y37, .ref y38, .int 0, .int 0, .int 0]))]) [0] rfl
      have hDc := hD.sub (ws' := [(y, .inr (7, [.int 2, .int (tm + 1), .int 3, .int 5, .ref y1, .ref y2, .ref y3, .ref y4, .int 0, .ref y5, .ref y6, .ref y7, .ref y8, .ref y9, .ref y10, .ref y11, .ref y12, .ref y13, .ref y14, .ref y15, .int 0, .ref y16, .ref y17, .ref y18, .ref y19, .ref y20, .ref y21, .ref y22, .ref y23, .ref y24, .ref y25, .ref y26, .ref y27, .int 0, .int 0, .ref y28, .ref y29, .ref y30, .ref y31, .ref y32, .ref y33, .ref y34, .ref y35, .ref y36, .int 0, .ref y37, .ref y38, .int 0, .int 0, .int 0]))]) [0] (by decide) rfl
      refine vp_callSi (va_Run.run (va_runV (As := []) (rest := []) ⟨hx, hb, hml, hown, hts⟩ (g_MO_keepAll l D cI cZ y (tm + 1) y1 y2 y3 y4 y5 y6 y7 y8 y9 y10 y11 y12 y13 y14 y15 y16 y17 y18 y19 y20 y21 y22 y23 y24 y25 y26 y27 y28 y29 y30 y31 y32 y33 y34 y35 y36 y37 y38 H_5.size ) (my_cwV 0 hts q_826 q_823 q_825 q_p8 q_8 rfl rfl (by decide +kernel) ⟨Nat.le_of_ble_eq_true rfl, Nat.le_of_ble_eq_true rfl⟩) (my_preV hPc hDc hK hN 7 0 rfl rfl) rfl rfl hl.1 rfl (lv_room (Nat.le_of_ble_eq_true rfl)) d_MO_tick_203 ⟨Nat.le_of_ble_eq_true rfl, Nat.le_of_ble_eq_true rfl⟩)) (fun r_7 hw_7 => ?_)
      have hw_7 : r_7 = 0 := hw_7
      subst hw_7
      refine lv_istore (lv' := [(4, .int 0), (3, .int (nI k)), (2, .int 0), (0, .ref y), (1, .int (nI N))]) hx hb d_MO_tick_206 hl (by decide) rfl (fun ls hl => ?_)
      refine lv_aload_n hx hb d_MO_tick_208 rfl (lv_at hl 3 rfl) ?_
      refine lv_iconst (v := 1) hx hb d_MO_tick_209 (by decide) ?_
      have hPc := hP.sub (ws' := [(y, .inr (7, [.int 2, .int (tm + 1), .int 3, .int 5, .ref y1, .ref y2, .ref y3, .ref y4, .int 0, .ref y5, .ref y6, .ref y7, .ref y8, .ref y9, .ref y10, .ref y11, .ref y12, .ref y13, .ref y14, .ref y15, .int 0, .ref y16, .ref y17, .ref y18, .ref y19, .ref y20, .ref y21, .ref y22, .ref y23, .ref y24, .ref y25, .ref y26, .ref y27, .int 0, .int 0, .ref y28, .ref y29, .ref y30, .ref y31, .ref y32, .ref y33, .ref y34, .ref y35, .ref y36, .int 0, .ref y37, .ref y38, .int 0, .int 0, .int 0]))]) [0] rfl
      have hDc := hD.sub (ws' := [(y, .inr (7, [.int 2, .int (tm + 1), .int 3, .int 5, .ref y1, .ref y2, .ref y3, .ref y4, .int 0, .ref y5, .ref y6, .ref y7, .ref y8, .ref y9, .ref y10, .ref y11, .ref y12, .ref y13, .ref y14, .ref y15, .int 0, .ref y16, .ref y17, .ref y18, .ref y19, .ref y20, .ref y21, .ref y22, .ref y23, .ref y24, .ref y25, .ref y26, .ref y27, .int 0, .int 0, .ref y28, .ref y29, .ref y30, .ref y31, .ref y32, .ref y33, .ref y34, .ref y35, .ref y36, .int 0, .ref y37, .ref y38, .int 0, .int 0, .int 0]))]) [0] (by decide) rfl
      refine va_csv (va_Run.run (va_runV (As := [.int 1]) (rest := []) ⟨hx, hb, hml, hown, hts⟩ (g_MO_closings l D cI cZ y 1 (tm + 1) y1 y2 y3 y4 y5 y6 y7 y8 y9 y10 y11 y12 y13 y14 y15 y16 y17 y18 y19 y20 y21 y22 y23 y24 y25 y26 y27 y28 y29 y30 y31 y32 y33 y34 y35 y36 y37 y38 H_5.size ) (my_cwV 1 hts q_838 q_835 q_837 q_p11 q_8 rfl rfl (by decide +kernel) ⟨Nat.le_of_ble_eq_true rfl, Nat.le_of_ble_eq_true rfl⟩) (my_preV hPc hDc hK hN 7 0 rfl rfl) rfl rfl hl.1 rfl (lv_room (Nat.le_of_ble_eq_true rfl)) d_MO_tick_210 ⟨Nat.le_of_ble_eq_true rfl, Nat.le_of_ble_eq_true rfl⟩)) (fun _ => ?_)
      refine lv_iinc (v := nI (k + 1)) (lv' := [(3, .int (nI (k + 1))), (4, .int 0), (2, .int 0), (0, .ref y), (1, .int (nI N))]) hx hb d_MO_tick_213 hl (k := 1) rfl (nI_1 k) (by decide) rfl (fun ls hl => ?_)
      refine lv_goto (tgt := 17) hx hb d_MO_tick_216 (by decide) ?_
      exact ih ((k + 1), (tm + 1)) _ _ _ (by first | omega | (dsimp only; omega)) ⟨(by first | omega | (dsimp only; omega)), hP, hD, hS, lv_sub hl [0, 2, 3, 4] rfl⟩
  · refine lv_bipush (v := (-2)) hx hb d_MO_tick_10 (by decide) ?_
    have hP9 := hP.sub (ws' := []) [] rfl
    have hD9 := hD.sub (ws' := []) [] (by decide) rfl
    refine W.widen (k := 0) (n := 0) (Nat.le_of_ble_eq_true rfl) (Nat.le_of_ble_eq_true rfl) ?_
    exact W.iret (v := (-2)) hx hb hr (fun t ht hW => ⟨⟨(-2), (), rfl, (by first | decide | simp [sp_tick, h_2]), by rw [ht]; exact hP9, hD9⟩, hS.F ht⟩) hS.2.2 d_MO_tick_12

set_option maxHeartbeats 4000000 in
set_option maxRecDepth 100000 in
theorem f_MO_promiseAt (l : Launch) (D : va_G) (cI cZ : ClassId) (y : Nat) (i : Int32) (j : Int32) (y1 : Nat) (y2 : Nat) (y3 : Nat) (y4 : Nat) (y5 : Nat) (y6 : Nat) (y7 : Nat) (y8 : Nat) (y9 : Nat) (y10 : Nat) (y11 : Nat) (y12 : Nat) (y13 : Nat) (y14 : Nat) (y15 : Nat) (y16 : Nat) (y17 : Nat) (y18 : Nat) (y19 : Nat) (y20 : Nat) (y21 : Nat) (y22 : Nat) (y23 : Nat) (y24 : Nat) (y25 : Nat) (y26 : Nat) (y27 : Nat) (y28 : Nat) (y29 : Nat) (y30 : Nat) (y31 : Nat) (y32 : Nat) (y33 : Nat) (y34 : Nat) (y35 : Nat) (y36 : Nat) (y37 : Nat) (y38 : Nat) (sz : Nat)  : Met l ⟨"PromiseChainsModel", "promiseAt", "(II)I"⟩ (mw ⟨"PromiseChainsModel", "promiseAt", "(II)I"⟩ prog_9_method_27_code 3 (some .int)) ({ frames := 1, cells := 0, slots := 0, locals := 22 }) (va_Pc [.ref y, .int i, .int j] (PB D cI cZ sz [(y, .inr (7, [.int 2, .int 0, .int 3, .int 5, .ref y1, .ref y2, .ref y3, .ref y4, .int 0, .ref y5, .ref y6, .ref y7, .ref y8, .ref y9, .ref y10, .ref y11, .ref y12, .ref y13, .ref y14, .ref y15, .int 0, .ref y16, .ref y17, .ref y18, .ref y19, .ref y20, .ref y21, .ref y22, .ref y23, .ref y24, .ref y25, .ref y26, .ref y27, .int 0, .int 0, .ref y28, .ref y29, .ref y30, .ref y31, .ref y32, .ref y33, .ref y34, .ref y35, .ref y36, .int 0, .ref y37, .ref y38, .int 0, .int 0, .int 0]))])) (vp_Si (fun r => r = -2)) 0 0 (fun _ => False) := by
  refine Met.ofW (cc := prog_9_method_27_code) (maxL := 3) (ret := (some .int)) (by decide) rfl ?_
  intro p e s m args below meth c s₁ B hml hv
  obtain ⟨rfl, hsz, hP, hK, hD0, hN⟩ := hv
  have hx := B.exec
  have hb := B.bytes
  have hr := B.returns
  have hts0 := atoms_spec (ws := mw ⟨"PromiseChainsModel", "promiseAt", "(II)I"⟩ prog_9_method_27_code 3 (some .int)) B.pre
  have hts : ∀ w ∈ tblG, w.before _ s = true := fun w h => hts0 w (List.mem_cons_of_mem _ h)
  have hown : s.vm.findClass "PromiseChainsModel" = some m.cls := findClass_of_methodNamed B.named
  have hlocks := B.notSynchronized
  subst hsz
  have hD := hD0
  have hP : va_P D vwCl [(y, .inr (7, [.int 2, .int 0, .int 3, .int 5, .ref y1, .ref y2, .ref y3, .ref y4, .int 0, .ref y5, .ref y6, .ref y7, .ref y8, .ref y9, .ref y10, .ref y11, .ref y12, .ref y13, .ref y14, .ref y15, .int 0, .ref y16, .ref y17, .ref y18, .ref y19, .ref y20, .ref y21, .ref y22, .ref y23, .ref y24, .ref y25, .ref y26, .ref y27, .int 0, .int 0, .ref y28, .ref y29, .ref y30, .ref y31, .ref y32, .ref y33, .ref y34, .ref y35, .ref y36, .int 0, .ref y37, .ref y38, .int 0, .int 0, .int 0]))] s.heap := hP
  have hl := lv_entry ([.ref y, .int i, .int j]) (n := 3) (Nat.le_of_ble_eq_true rfl)
  rw [lg_entry_eq]
  generalize (lg_sl ([.ref y, .int i, .int j]) ++ List.replicate (3 - (lg_sl ([.ref y, .int i, .int j])).length) Slot.unset).toArray = ls at hl ⊢
  have hl : lv_has ls 3 [(0, .ref y), (1, .int i), (2, .int j)] := hl
  refine lv_iload_n hx hb d_MO_promiseAt_0 rfl (lv_at hl 1 rfl) ?_
  refine lv_iconst (v := 0) hx hb d_MO_promiseAt_1 (by decide) ?_
  refine lv_aload_n hx hb d_MO_promiseAt_2 rfl (lv_at hl 0 rfl) ?_
  refine va_get (D := D) (ci := 7) (v := .int 0) (C := R_MO) (T := F_MO) (N := 50) hx hb hts i_MO hown hK hP 0 rfl rfl 20 (by decide) (hts _ q_652) (fun _ h9 => h9) rfl d_MO_promiseAt_3 ?_
  refine lv_iconst (v := 1) hx hb d_MO_promiseAt_6 (by decide) ?_
  refine lv_isub hx hb d_MO_promiseAt_7 ?_
  refine lv_seti (-1) (by decide) ?_
  have hPc := hP.sub (ws' := []) [] rfl
  have hDc := hD.sub (ws' := []) [] (by decide) rfl
  refine vp_callSi (va_Run.run (va_runS (As := [.int i, .int 0, .int (-1)]) (rest := []) ⟨hx, hb, hml, hown, hts⟩ (c_in l D cI cZ i 0 (-1) s.heap.size ) (my_cwS 3 hts q_789 q_787 q_788 q_8 rfl rfl (by decide +kernel) ⟨Nat.le_of_ble_eq_true rfl, Nat.le_of_ble_eq_true rfl⟩) (my_preS hPc hDc hK hN) rfl rfl hl.1 rfl (lv_room (Nat.le_of_ble_eq_true rfl)) d_MO_promiseAt_8 ⟨Nat.le_of_ble_eq_true rfl, Nat.le_of_ble_eq_true rfl⟩)) (fun r_1 hw_1 => ?_)
  have hw_1 : r_1 = isw i 0 (-1) := hw_1
  subst hw_1
  refine lv_seti (0) (isw_neg _) ?_
  refine lv_if_ne (tgt := 17) hx hb d_MO_promiseAt_11 (by decide) (fun h => absurd h (by decide)) (fun _ => ?_)
  refine lv_bipush (v := (-2)) hx hb d_MO_promiseAt_14 (by decide) ?_
  exact W.iret (v := (-2)) hx hb hr (fun t ht hW => ⟨(-2), rfl, rfl, ht⟩) (fun q h => absurd h List.not_mem_nil) d_MO_promiseAt_16

set_option maxHeartbeats 4000000 in
set_option maxRecDepth 100000 in
theorem f_MO_side (l : Launch) (D : va_G) (cI cZ : ClassId) (y : Nat) (i : Int32) (j : Int32) (y1 : Nat) (y2 : Nat) (y3 : Nat) (y4 : Nat) (y5 : Nat) (y6 : Nat) (y7 : Nat) (y8 : Nat) (y9 : Nat) (y10 : Nat) (y11 : Nat) (y12 : Nat) (y13 : Nat) (y14 : Nat) (y15 : Nat) (y16 : Nat) (y17 : Nat) (y18 : Nat) (y19 : Nat) (y20 : Nat) (y21 : Nat) (y22 : Nat) (y23 : Nat) (y24 : Nat) (y25 : Nat) (y26 : Nat) (y27 : Nat) (y28 : Nat) (y29 : Nat) (y30 : Nat) (y31 : Nat) (y32 : Nat) (y33 : Nat) (y34 : Nat) (y35 : Nat) (y36 : Nat) (y37 : Nat) (y38 : Nat) (sz : Nat)  : Met l ⟨"PromiseChainsModel", "side", "(II)I"⟩ (mw ⟨"PromiseChainsModel", "side", "(II)I"⟩ prog_9_method_33_code 3 (some .int)) ({ frames := 2, cells := 0, slots := 0, locals := 43 }) (va_Pc [.ref y, .int i, .int j] (PB D cI cZ sz [(y, .inr (7, [.int 2, .int 0, .int 3, .int 5, .ref y1, .ref y2, .ref y3, .ref y4, .int 0, .ref y5, .ref y6, .ref y7, .ref y8, .ref y9, .ref y10, .ref y11, .ref y12, .ref y13, .ref y14, .ref y15, .int 0, .ref y16, .ref y17, .ref y18, .ref y19, .ref y20, .ref y21, .ref y22, .ref y23, .ref y24, .ref y25, .ref y26, .ref y27, .int 0, .int 0, .ref y28, .ref y29, .ref y30, .ref y31, .ref y32, .ref y33, .ref y34, .ref y35, .ref y36, .int 0, .ref y37, .ref y38, .int 0, .int 0, .int 0]))])) (vp_Si (fun r => r = -2)) 0 0 (fun _ => False) := by
  refine Met.ofW (cc := prog_9_method_33_code) (maxL := 3) (ret := (some .int)) (by decide) rfl ?_
  intro p e s m args below meth c s₁ B hml hv
  obtain ⟨rfl, hsz, hP, hK, hD0, hN⟩ := hv
  have hx := B.exec
  have hb := B.bytes
  have hr := B.returns
  have hts0 := atoms_spec (ws := mw ⟨"PromiseChainsModel", "side", "(II)I"⟩ prog_9_method_33_code 3 (some .int)) B.pre
  have hts : ∀ w ∈ tblG, w.before _ s = true := fun w h => hts0 w (List.mem_cons_of_mem _ h)
  have hown : s.vm.findClass "PromiseChainsModel" = some m.cls := findClass_of_methodNamed B.named
  have hlocks := B.notSynchronized
  subst hsz
  have hD := hD0
  have hP : va_P D vwCl [(y, .inr (7, [.int 2, .int 0, .int 3, .int 5, .ref y1, .ref y2, .ref y3, .ref y4, .int 0, .ref y5, .ref y6, .ref y7, .ref y8, .ref y9, .ref y10, .ref y11, .ref y12, .ref y13, .ref y14, .ref y15, .int 0, .ref y16, .ref y17, .ref y18, .ref y19, .ref y20, .ref y21, .ref y22, .ref y23, .ref y24, .ref y25, .ref y26, .ref y27, .int 0, .int 0, .ref y28, .ref y29, .ref y30, .ref y31, .ref y32, .ref y33, .ref y34, .ref y35, .ref y36, .int 0, .ref y37, .ref y38, .int 0, .int 0, .int 0]))] s.heap := hP
  have hl := lv_entry ([.ref y, .int i, .int j]) (n := 3) (Nat.le_of_ble_eq_true rfl)
  rw [lg_entry_eq]
  generalize (lg_sl ([.ref y, .int i, .int j]) ++ List.replicate (3 - (lg_sl ([.ref y, .int i, .int j])).length) Slot.unset).toArray = ls at hl ⊢
  have hl : lv_has ls 3 [(0, .ref y), (1, .int i), (2, .int j)] := hl
  refine lv_aload_n hx hb d_MO_side_0 rfl (lv_at hl 0 rfl) ?_
  refine lv_iload_n hx hb d_MO_side_1 rfl (lv_at hl 1 rfl) ?_
  have hPc := hP.sub (ws' := [(y, .inr (7, [.int 2, .int 0, .int 3, .int 5, .ref y1, .ref y2, .ref y3, .ref y4, .int 0, .ref y5, .ref y6, .ref y7, .ref y8, .ref y9, .ref y10, .ref y11, .ref y12, .ref y13, .ref y14, .ref y15, .int 0, .ref y16, .ref y17, .ref y18, .ref y19, .ref y20, .ref y21, .ref y22, .ref y23, .ref y24, .ref y25, .ref y26, .ref y27, .int 0, .int 0, .ref y28, .ref y29, .ref y30, .ref y31, .ref y32, .ref y33, .ref y34, .ref y35, .ref y36, .int 0, .ref y37, .ref y38, .int 0, .int 0, .int 0]))]) [0] rfl
  have hDc := hD.sub (ws' := [(y, .inr (7, [.int 2, .int 0, .int 3, .int 5, .ref y1, .ref y2, .ref y3, .ref y4, .int 0, .ref y5, .ref y6, .ref y7, .ref y8, .ref y9, .ref y10, .ref y11, .ref y12, .ref y13, .ref y14, .ref y15, .int 0, .ref y16, .ref y17, .ref y18, .ref y19, .ref y20, .ref y21, .ref y22, .ref y23, .ref y24, .ref y25, .ref y26, .ref y27, .int 0, .int 0, .ref y28, .ref y29, .ref y30, .ref y31, .ref y32, .ref y33, .ref y34, .ref y35, .ref y36, .int 0, .ref y37, .ref y38, .int 0, .int 0, .int 0]))]) [0] (by decide) rfl
  refine vp_callSi (va_Run.run (va_runV (As := [.int i]) (rest := []) ⟨hx, hb, hml, hown, hts⟩ (f_MO_isPair l D cI cZ y i y1 y2 y3 y4 y5 y6 y7 y8 y9 y10 y11 y12 y13 y14 y15 y16 y17 y18 y19 y20 y21 y22 y23 y24 y25 y26 y27 y28 y29 y30 y31 y32 y33 y34 y35 y36 y37 y38 s.heap.size ) (my_cwV 1 hts q_898 q_895 q_897 q_p19 q_8 rfl rfl (by decide +kernel) ⟨Nat.le_of_ble_eq_true rfl, Nat.le_of_ble_eq_true rfl⟩) (my_preV hPc hDc hK hN 7 0 rfl rfl) rfl rfl hl.1 rfl (lv_room (Nat.le_of_ble_eq_true rfl)) d_MO_side_2 ⟨Nat.le_of_ble_eq_true rfl, Nat.le_of_ble_eq_true rfl⟩)) (fun r_1 hw_1 => ?_)
  have hw_1 : r_1 = 0 := hw_1
  subst hw_1
  refine lv_if_eq (tgt := 30) hx hb d_MO_side_5 (by decide) (fun _ => ?_) (fun h => absurd h (by decide))
  refine lv_bipush (v := (-2)) hx hb d_MO_side_30 (by decide) ?_
  exact W.iret (v := (-2)) hx hb hr (fun t ht hW => ⟨(-2), rfl, rfl, ht⟩) (fun q h => absurd h List.not_mem_nil) d_MO_side_32

set_option maxHeartbeats 4000000 in
set_option maxRecDepth 100000 in
theorem f_MO_locked (l : Launch) (D : va_G) (cI cZ : ClassId) (y : Nat) (i : Int32) (j : Int32) (y1 : Nat) (y2 : Nat) (y3 : Nat) (y4 : Nat) (y5 : Nat) (y6 : Nat) (y7 : Nat) (y8 : Nat) (y9 : Nat) (y10 : Nat) (y11 : Nat) (y12 : Nat) (y13 : Nat) (y14 : Nat) (y15 : Nat) (y16 : Nat) (y17 : Nat) (y18 : Nat) (y19 : Nat) (y20 : Nat) (y21 : Nat) (y22 : Nat) (y23 : Nat) (y24 : Nat) (y25 : Nat) (y26 : Nat) (y27 : Nat) (y28 : Nat) (y29 : Nat) (y30 : Nat) (y31 : Nat) (y32 : Nat) (y33 : Nat) (y34 : Nat) (y35 : Nat) (y36 : Nat) (y37 : Nat) (y38 : Nat) (sz : Nat)  : Met l ⟨"PromiseChainsModel", "locked", "(II)I"⟩ (mw ⟨"PromiseChainsModel", "locked", "(II)I"⟩ prog_9_method_34_code 3 (some .int)) ({ frames := 2, cells := 0, slots := 0, locals := 43 }) (va_Pc [.ref y, .int i, .int j] (PB D cI cZ sz [(y, .inr (7, [.int 2, .int 0, .int 3, .int 5, .ref y1, .ref y2, .ref y3, .ref y4, .int 0, .ref y5, .ref y6, .ref y7, .ref y8, .ref y9, .ref y10, .ref y11, .ref y12, .ref y13, .ref y14, .ref y15, .int 0, .ref y16, .ref y17, .ref y18, .ref y19, .ref y20, .ref y21, .ref y22, .ref y23, .ref y24, .ref y25, .ref y26, .ref y27, .int 0, .int 0, .ref y28, .ref y29, .ref y30, .ref y31, .ref y32, .ref y33, .ref y34, .ref y35, .ref y36, .int 0, .ref y37, .ref y38, .int 0, .int 0, .int 0]))])) (vp_Si (fun r => r = -2)) 0 0 (fun _ => False) := by
  refine Met.ofW (cc := prog_9_method_34_code) (maxL := 3) (ret := (some .int)) (by decide) rfl ?_
  intro p e s m args below meth c s₁ B hml hv
  obtain ⟨rfl, hsz, hP, hK, hD0, hN⟩ := hv
  have hx := B.exec
  have hb := B.bytes
  have hr := B.returns
  have hts0 := atoms_spec (ws := mw ⟨"PromiseChainsModel", "locked", "(II)I"⟩ prog_9_method_34_code 3 (some .int)) B.pre
  have hts : ∀ w ∈ tblG, w.before _ s = true := fun w h => hts0 w (List.mem_cons_of_mem _ h)
  have hown : s.vm.findClass "PromiseChainsModel" = some m.cls := findClass_of_methodNamed B.named
  have hlocks := B.notSynchronized
  subst hsz
  have hD := hD0
  have hP : va_P D vwCl [(y, .inr (7, [.int 2, .int 0, .int 3, .int 5, .ref y1, .ref y2, .ref y3, .ref y4, .int 0, .ref y5, .ref y6, .ref y7, .ref y8, .ref y9, .ref y10, .ref y11, .ref y12, .ref y13, .ref y14, .ref y15, .int 0, .ref y16, .ref y17, .ref y18, .ref y19, .ref y20, .ref y21, .ref y22, .ref y23, .ref y24, .ref y25, .ref y26, .ref y27, .int 0, .int 0, .ref y28, .ref y29, .ref y30, .ref y31, .ref y32, .ref y33, .ref y34, .ref y35, .ref y36, .int 0, .ref y37, .ref y38, .int 0, .int 0, .int 0]))] s.heap := hP
  have hl := lv_entry ([.ref y, .int i, .int j]) (n := 3) (Nat.le_of_ble_eq_true rfl)
  rw [lg_entry_eq]
  generalize (lg_sl ([.ref y, .int i, .int j]) ++ List.replicate (3 - (lg_sl ([.ref y, .int i, .int j])).length) Slot.unset).toArray = ls at hl ⊢
  have hl : lv_has ls 3 [(0, .ref y), (1, .int i), (2, .int j)] := hl
  refine lv_aload_n hx hb d_MO_locked_0 rfl (lv_at hl 0 rfl) ?_
  refine lv_iload_n hx hb d_MO_locked_1 rfl (lv_at hl 1 rfl) ?_
  have hPc := hP.sub (ws' := [(y, .inr (7, [.int 2, .int 0, .int 3, .int 5, .ref y1, .ref y2, .ref y3, .ref y4, .int 0, .ref y5, .ref y6, .ref y7, .ref y8, .ref y9, .ref y10, .ref y11, .ref y12, .ref y13, .ref y14, .ref y15, .int 0, .ref y16, .ref y17, .ref y18, .ref y19, .ref y20, .ref y21, .ref y22, .ref y23, .ref y24, .ref y25, .ref y26, .ref y27, .int 0, .int 0, .ref y28, .ref y29, .ref y30, .ref y31, .ref y32, .ref y33, .ref y34, .ref y35, .ref y36, .int 0, .ref y37, .ref y38, .int 0, .int 0, .int 0]))]) [0] rfl
  have hDc := hD.sub (ws' := [(y, .inr (7, [.int 2, .int 0, .int 3, .int 5, .ref y1, .ref y2, .ref y3, .ref y4, .int 0, .ref y5, .ref y6, .ref y7, .ref y8, .ref y9, .ref y10, .ref y11, .ref y12, .ref y13, .ref y14, .ref y15, .int 0, .ref y16, .ref y17, .ref y18, .ref y19, .ref y20, .ref y21, .ref y22, .ref y23, .ref y24, .ref y25, .ref y26, .ref y27, .int 0, .int 0, .ref y28, .ref y29, .ref y30, .ref y31, .ref y32, .ref y33, .ref y34, .ref y35, .ref y36, .int 0, .ref y37, .ref y38, .int 0, .int 0, .int 0]))]) [0] (by decide) rfl
  refine vp_callSi (va_Run.run (va_runV (As := [.int i]) (rest := []) ⟨hx, hb, hml, hown, hts⟩ (f_MO_isPair l D cI cZ y i y1 y2 y3 y4 y5 y6 y7 y8 y9 y10 y11 y12 y13 y14 y15 y16 y17 y18 y19 y20 y21 y22 y23 y24 y25 y26 y27 y28 y29 y30 y31 y32 y33 y34 y35 y36 y37 y38 s.heap.size ) (my_cwV 1 hts q_898 q_895 q_897 q_p19 q_8 rfl rfl (by decide +kernel) ⟨Nat.le_of_ble_eq_true rfl, Nat.le_of_ble_eq_true rfl⟩) (my_preV hPc hDc hK hN 7 0 rfl rfl) rfl rfl hl.1 rfl (lv_room (Nat.le_of_ble_eq_true rfl)) d_MO_locked_2 ⟨Nat.le_of_ble_eq_true rfl, Nat.le_of_ble_eq_true rfl⟩)) (fun r_1 hw_1 => ?_)
  have hw_1 : r_1 = 0 := hw_1
  subst hw_1
  refine lv_if_eq (tgt := 30) hx hb d_MO_locked_5 (by decide) (fun _ => ?_) (fun h => absurd h (by decide))
  refine lv_bipush (v := (-2)) hx hb d_MO_locked_30 (by decide) ?_
  exact W.iret (v := (-2)) hx hb hr (fun t ht hW => ⟨(-2), rfl, rfl, ht⟩) (fun q h => absurd h List.not_mem_nil) d_MO_locked_32

set_option maxHeartbeats 4000000 in
set_option maxRecDepth 100000 in
theorem f_MO_about (l : Launch) (D : va_G) (cI cZ : ClassId) (y : Nat) (i : Int32) (j : Int32) (y1 : Nat) (y2 : Nat) (y3 : Nat) (y4 : Nat) (y5 : Nat) (y6 : Nat) (y7 : Nat) (y8 : Nat) (y9 : Nat) (y10 : Nat) (y11 : Nat) (y12 : Nat) (y13 : Nat) (y14 : Nat) (y15 : Nat) (y16 : Nat) (y17 : Nat) (y18 : Nat) (y19 : Nat) (y20 : Nat) (y21 : Nat) (y22 : Nat) (y23 : Nat) (y24 : Nat) (y25 : Nat) (y26 : Nat) (y27 : Nat) (y28 : Nat) (y29 : Nat) (y30 : Nat) (y31 : Nat) (y32 : Nat) (y33 : Nat) (y34 : Nat) (y35 : Nat) (y36 : Nat) (y37 : Nat) (y38 : Nat) (sz : Nat)  : Met l ⟨"PromiseChainsModel", "about", "(II)I"⟩ (mw ⟨"PromiseChainsModel", "about", "(II)I"⟩ prog_9_method_35_code 3 (some .int)) ({ frames := 2, cells := 0, slots := 0, locals := 43 }) (va_Pc [.ref y, .int i, .int j] (PB D cI cZ sz [(y, .inr (7, [.int 2, .int 0, .int 3, .int 5, .ref y1, .ref y2, .ref y3, .ref y4, .int 0, .ref y5, .ref y6, .ref y7, .ref y8, .ref y9, .ref y10, .ref y11, .ref y12, .ref y13, .ref y14, .ref y15, .int 0, .ref y16, .ref y17, .ref y18, .ref y19, .ref y20, .ref y21, .ref y22, .ref y23, .ref y24, .ref y25, .ref y26, .ref y27, .int 0, .int 0, .ref y28, .ref y29, .ref y30, .ref y31, .ref y32, .ref y33, .ref y34, .ref y35, .ref y36, .int 0, .ref y37, .ref y38, .int 0, .int 0, .int 0]))])) (vp_Si (fun r => r = -2)) 0 0 (fun _ => False) := by
  refine Met.ofW (cc := prog_9_method_35_code) (maxL := 3) (ret := (some .int)) (by decide) rfl ?_
  intro p e s m args below meth c s₁ B hml hv
  obtain ⟨rfl, hsz, hP, hK, hD0, hN⟩ := hv
  have hx := B.exec
  have hb := B.bytes
  have hr := B.returns
  have hts0 := atoms_spec (ws := mw ⟨"PromiseChainsModel", "about", "(II)I"⟩ prog_9_method_35_code 3 (some .int)) B.pre
  have hts : ∀ w ∈ tblG, w.before _ s = true := fun w h => hts0 w (List.mem_cons_of_mem _ h)
  have hown : s.vm.findClass "PromiseChainsModel" = some m.cls := findClass_of_methodNamed B.named
  have hlocks := B.notSynchronized
  subst hsz
  have hD := hD0
  have hP : va_P D vwCl [(y, .inr (7, [.int 2, .int 0, .int 3, .int 5, .ref y1, .ref y2, .ref y3, .ref y4, .int 0, .ref y5, .ref y6, .ref y7, .ref y8, .ref y9, .ref y10, .ref y11, .ref y12, .ref y13, .ref y14, .ref y15, .int 0, .ref y16, .ref y17, .ref y18, .ref y19, .ref y20, .ref y21, .ref y22, .ref y23, .ref y24, .ref y25, .ref y26, .ref y27, .int 0, .int 0, .ref y28, .ref y29, .ref y30, .ref y31, .ref y32, .ref y33, .ref y34, .ref y35, .ref y36, .int 0, .ref y37, .ref y38, .int 0, .int 0, .int 0]))] s.heap := hP
  have hl := lv_entry ([.ref y, .int i, .int j]) (n := 3) (Nat.le_of_ble_eq_true rfl)
  rw [lg_entry_eq]
  generalize (lg_sl ([.ref y, .int i, .int j]) ++ List.replicate (3 - (lg_sl ([.ref y, .int i, .int j])).length) Slot.unset).toArray = ls at hl ⊢
  have hl : lv_has ls 3 [(0, .ref y), (1, .int i), (2, .int j)] := hl
  refine lv_aload_n hx hb d_MO_about_0 rfl (lv_at hl 0 rfl) ?_
  refine lv_iload_n hx hb d_MO_about_1 rfl (lv_at hl 1 rfl) ?_
  have hPc := hP.sub (ws' := [(y, .inr (7, [.int 2, .int 0, .int 3, .int 5, .ref y1, .ref y2, .ref y3, .ref y4, .int 0, .ref y5, .ref y6, .ref y7, .ref y8, .ref y9, .ref y10, .ref y11, .ref y12, .ref y13, .ref y14, .ref y15, .int 0, .ref y16, .ref y17, .ref y18, .ref y19, .ref y20, .ref y21, .ref y22, .ref y23, .ref y24, .ref y25, .ref y26, .ref y27, .int 0, .int 0, .ref y28, .ref y29, .ref y30, .ref y31, .ref y32, .ref y33, .ref y34, .ref y35, .ref y36, .int 0, .ref y37, .ref y38, .int 0, .int 0, .int 0]))]) [0] rfl
  have hDc := hD.sub (ws' := [(y, .inr (7, [.int 2, .int 0, .int 3, .int 5, .ref y1, .ref y2, .ref y3, .ref y4, .int 0, .ref y5, .ref y6, .ref y7, .ref y8, .ref y9, .ref y10, .ref y11, .ref y12, .ref y13, .ref y14, .ref y15, .int 0, .ref y16, .ref y17, .ref y18, .ref y19, .ref y20, .ref y21, .ref y22, .ref y23, .ref y24, .ref y25, .ref y26, .ref y27, .int 0, .int 0, .ref y28, .ref y29, .ref y30, .ref y31, .ref y32, .ref y33, .ref y34, .ref y35, .ref y36, .int 0, .ref y37, .ref y38, .int 0, .int 0, .int 0]))]) [0] (by decide) rfl
  refine vp_callSi (va_Run.run (va_runV (As := [.int i]) (rest := []) ⟨hx, hb, hml, hown, hts⟩ (f_MO_isPair l D cI cZ y i y1 y2 y3 y4 y5 y6 y7 y8 y9 y10 y11 y12 y13 y14 y15 y16 y17 y18 y19 y20 y21 y22 y23 y24 y25 y26 y27 y28 y29 y30 y31 y32 y33 y34 y35 y36 y37 y38 s.heap.size ) (my_cwV 1 hts q_898 q_895 q_897 q_p19 q_8 rfl rfl (by decide +kernel) ⟨Nat.le_of_ble_eq_true rfl, Nat.le_of_ble_eq_true rfl⟩) (my_preV hPc hDc hK hN 7 0 rfl rfl) rfl rfl hl.1 rfl (lv_room (Nat.le_of_ble_eq_true rfl)) d_MO_about_2 ⟨Nat.le_of_ble_eq_true rfl, Nat.le_of_ble_eq_true rfl⟩)) (fun r_1 hw_1 => ?_)
  have hw_1 : r_1 = 0 := hw_1
  subst hw_1
  refine lv_if_ne (tgt := 11) hx hb d_MO_about_5 (by decide) (fun h => absurd h (by decide)) (fun _ => ?_)
  refine lv_bipush (v := (-2)) hx hb d_MO_about_8 (by decide) ?_
  exact W.iret (v := (-2)) hx hb hr (fun t ht hW => ⟨(-2), rfl, rfl, ht⟩) (fun q h => absurd h List.not_mem_nil) d_MO_about_10

set_option maxHeartbeats 4000000 in
set_option maxRecDepth 100000 in
theorem f_MO_learnt (l : Launch) (D : va_G) (cI cZ : ClassId) (y : Nat) (i : Int32) (j : Int32) (y1 : Nat) (y2 : Nat) (y3 : Nat) (y4 : Nat) (y5 : Nat) (y6 : Nat) (y7 : Nat) (y8 : Nat) (y9 : Nat) (y10 : Nat) (y11 : Nat) (y12 : Nat) (y13 : Nat) (y14 : Nat) (y15 : Nat) (y16 : Nat) (y17 : Nat) (y18 : Nat) (y19 : Nat) (y20 : Nat) (y21 : Nat) (y22 : Nat) (y23 : Nat) (y24 : Nat) (y25 : Nat) (y26 : Nat) (y27 : Nat) (y28 : Nat) (y29 : Nat) (y30 : Nat) (y31 : Nat) (y32 : Nat) (y33 : Nat) (y34 : Nat) (y35 : Nat) (y36 : Nat) (y37 : Nat) (y38 : Nat) (sz : Nat)  : Met l ⟨"PromiseChainsModel", "learnt", "(II)I"⟩ (mw ⟨"PromiseChainsModel", "learnt", "(II)I"⟩ prog_9_method_50_code 3 (some .int)) ({ frames := 2, cells := 0, slots := 0, locals := 43 }) (va_Pc [.ref y, .int i, .int j] (PB D cI cZ sz [(y, .inr (7, [.int 2, .int 0, .int 3, .int 5, .ref y1, .ref y2, .ref y3, .ref y4, .int 0, .ref y5, .ref y6, .ref y7, .ref y8, .ref y9, .ref y10, .ref y11, .ref y12, .ref y13, .ref y14, .ref y15, .int 0, .ref y16, .ref y17, .ref y18, .ref y19, .ref y20, .ref y21, .ref y22, .ref y23, .ref y24, .ref y25, .ref y26, .ref y27, .int 0, .int 0, .ref y28, .ref y29, .ref y30, .ref y31, .ref y32, .ref y33, .ref y34, .ref y35, .ref y36, .int 0, .ref y37, .ref y38, .int 0, .int 0, .int 0]))])) (vp_Si (fun r => r = -2)) 0 0 (fun _ => False) := by
  refine Met.ofW (cc := prog_9_method_50_code) (maxL := 3) (ret := (some .int)) (by decide) rfl ?_
  intro p e s m args below meth c s₁ B hml hv
  obtain ⟨rfl, hsz, hP, hK, hD0, hN⟩ := hv
  have hx := B.exec
  have hb := B.bytes
  have hr := B.returns
  have hts0 := atoms_spec (ws := mw ⟨"PromiseChainsModel", "learnt", "(II)I"⟩ prog_9_method_50_code 3 (some .int)) B.pre
  have hts : ∀ w ∈ tblG, w.before _ s = true := fun w h => hts0 w (List.mem_cons_of_mem _ h)
  have hown : s.vm.findClass "PromiseChainsModel" = some m.cls := findClass_of_methodNamed B.named
  have hlocks := B.notSynchronized
  subst hsz
  have hD := hD0
  have hP : va_P D vwCl [(y, .inr (7, [.int 2, .int 0, .int 3, .int 5, .ref y1, .ref y2, .ref y3, .ref y4, .int 0, .ref y5, .ref y6, .ref y7, .ref y8, .ref y9, .ref y10, .ref y11, .ref y12, .ref y13, .ref y14, .ref y15, .int 0, .ref y16, .ref y17, .ref y18, .ref y19, .ref y20, .ref y21, .ref y22, .ref y23, .ref y24, .ref y25, .ref y26, .ref y27, .int 0, .int 0, .ref y28, .ref y29, .ref y30, .ref y31, .ref y32, .ref y33, .ref y34, .ref y35, .ref y36, .int 0, .ref y37, .ref y38, .int 0, .int 0, .int 0]))] s.heap := hP
  have hl := lv_entry ([.ref y, .int i, .int j]) (n := 3) (Nat.le_of_ble_eq_true rfl)
  rw [lg_entry_eq]
  generalize (lg_sl ([.ref y, .int i, .int j]) ++ List.replicate (3 - (lg_sl ([.ref y, .int i, .int j])).length) Slot.unset).toArray = ls at hl ⊢
  have hl : lv_has ls 3 [(0, .ref y), (1, .int i), (2, .int j)] := hl
  refine lv_aload_n hx hb d_MO_learnt_0 rfl (lv_at hl 0 rfl) ?_
  refine lv_iload_n hx hb d_MO_learnt_1 rfl (lv_at hl 1 rfl) ?_
  have hPc := hP.sub (ws' := [(y, .inr (7, [.int 2, .int 0, .int 3, .int 5, .ref y1, .ref y2, .ref y3, .ref y4, .int 0, .ref y5, .ref y6, .ref y7, .ref y8, .ref y9, .ref y10, .ref y11, .ref y12, .ref y13, .ref y14, .ref y15, .int 0, .ref y16, .ref y17, .ref y18, .ref y19, .ref y20, .ref y21, .ref y22, .ref y23, .ref y24, .ref y25, .ref y26, .ref y27, .int 0, .int 0, .ref y28, .ref y29, .ref y30, .ref y31, .ref y32, .ref y33, .ref y34, .ref y35, .ref y36, .int 0, .ref y37, .ref y38, .int 0, .int 0, .int 0]))]) [0] rfl
  have hDc := hD.sub (ws' := [(y, .inr (7, [.int 2, .int 0, .int 3, .int 5, .ref y1, .ref y2, .ref y3, .ref y4, .int 0, .ref y5, .ref y6, .ref y7, .ref y8, .ref y9, .ref y10, .ref y11, .ref y12, .ref y13, .ref y14, .ref y15, .int 0, .ref y16, .ref y17, .ref y18, .ref y19, .ref y20, .ref y21, .ref y22, .ref y23, .ref y24, .ref y25, .ref y26, .ref y27, .int 0, .int 0, .ref y28, .ref y29, .ref y30, .ref y31, .ref y32, .ref y33, .ref y34, .ref y35, .ref y36, .int 0, .ref y37, .ref y38, .int 0, .int 0, .int 0]))]) [0] (by decide) rfl
  refine vp_callSi (va_Run.run (va_runV (As := [.int i]) (rest := []) ⟨hx, hb, hml, hown, hts⟩ (f_MO_isPair l D cI cZ y i y1 y2 y3 y4 y5 y6 y7 y8 y9 y10 y11 y12 y13 y14 y15 y16 y17 y18 y19 y20 y21 y22 y23 y24 y25 y26 y27 y28 y29 y30 y31 y32 y33 y34 y35 y36 y37 y38 s.heap.size ) (my_cwV 1 hts q_898 q_895 q_897 q_p19 q_8 rfl rfl (by decide +kernel) ⟨Nat.le_of_ble_eq_true rfl, Nat.le_of_ble_eq_true rfl⟩) (my_preV hPc hDc hK hN 7 0 rfl rfl) rfl rfl hl.1 rfl (lv_room (Nat.le_of_ble_eq_true rfl)) d_MO_learnt_2 ⟨Nat.le_of_ble_eq_true rfl, Nat.le_of_ble_eq_true rfl⟩)) (fun r_1 hw_1 => ?_)
  have hw_1 : r_1 = 0 := hw_1
  subst hw_1
  refine lv_if_eq (tgt := 39) hx hb d_MO_learnt_5 (by decide) (fun _ => ?_) (fun h => absurd h (by decide))
  refine lv_bipush (v := (-2)) hx hb d_MO_learnt_39 (by decide) ?_
  exact W.iret (v := (-2)) hx hb hr (fun t ht hW => ⟨(-2), rfl, rfl, ht⟩) (fun q h => absurd h List.not_mem_nil) d_MO_learnt_41

set_option maxHeartbeats 4000000 in
set_option maxRecDepth 100000 in
theorem f_MO_stateAt (l : Launch) (D : va_G) (cI cZ : ClassId) (y : Nat) (i : Int32) (j : Int32) (v : Int32) (y1 : Nat) (y2 : Nat) (y3 : Nat) (y4 : Nat) (y5 : Nat) (y6 : Nat) (y7 : Nat) (y8 : Nat) (y9 : Nat) (y10 : Nat) (y11 : Nat) (y12 : Nat) (y13 : Nat) (y14 : Nat) (y15 : Nat) (y16 : Nat) (y17 : Nat) (y18 : Nat) (y19 : Nat) (y20 : Nat) (y21 : Nat) (y22 : Nat) (y23 : Nat) (y24 : Nat) (y25 : Nat) (y26 : Nat) (y27 : Nat) (y28 : Nat) (y29 : Nat) (y30 : Nat) (y31 : Nat) (y32 : Nat) (y33 : Nat) (y34 : Nat) (y35 : Nat) (y36 : Nat) (y37 : Nat) (y38 : Nat) (sz : Nat)  : Met l ⟨"PromiseChainsModel", "stateAt", "(III)I"⟩ (mw ⟨"PromiseChainsModel", "stateAt", "(III)I"⟩ prog_9_method_36_code 4 (some .int)) ({ frames := 2, cells := 0, slots := 0, locals := 43 }) (va_Pc [.ref y, .int i, .int j, .int v] (PB D cI cZ sz [(y, .inr (7, [.int 2, .int 0, .int 3, .int 5, .ref y1, .ref y2, .ref y3, .ref y4, .int 0, .ref y5, .ref y6, .ref y7, .ref y8, .ref y9, .ref y10, .ref y11, .ref y12, .ref y13, .ref y14, .ref y15, .int 0, .ref y16, .ref y17, .ref y18, .ref y19, .ref y20, .ref y21, .ref y22, .ref y23, .ref y24, .ref y25, .ref y26, .ref y27, .int 0, .int 0, .ref y28, .ref y29, .ref y30, .ref y31, .ref y32, .ref y33, .ref y34, .ref y35, .ref y36, .int 0, .ref y37, .ref y38, .int 0, .int 0, .int 0]))])) (vp_Si (fun r => r = -2)) 0 0 (fun _ => False) := by
  refine Met.ofW (cc := prog_9_method_36_code) (maxL := 4) (ret := (some .int)) (by decide) rfl ?_
  intro p e s m args below meth c s₁ B hml hv
  obtain ⟨rfl, hsz, hP, hK, hD0, hN⟩ := hv
  have hx := B.exec
  have hb := B.bytes
  have hr := B.returns
  have hts0 := atoms_spec (ws := mw ⟨"PromiseChainsModel", "stateAt", "(III)I"⟩ prog_9_method_36_code 4 (some .int)) B.pre
  have hts : ∀ w ∈ tblG, w.before _ s = true := fun w h => hts0 w (List.mem_cons_of_mem _ h)
  have hown : s.vm.findClass "PromiseChainsModel" = some m.cls := findClass_of_methodNamed B.named
  have hlocks := B.notSynchronized
  subst hsz
  have hD := hD0
  have hP : va_P D vwCl [(y, .inr (7, [.int 2, .int 0, .int 3, .int 5, .ref y1, .ref y2, .ref y3, .ref y4, .int 0, .ref y5, .ref y6, .ref y7, .ref y8, .ref y9, .ref y10, .ref y11, .ref y12, .ref y13, .ref y14, .ref y15, .int 0, .ref y16, .ref y17, .ref y18, .ref y19, .ref y20, .ref y21, .ref y22, .ref y23, .ref y24, .ref y25, .ref y26, .ref y27, .int 0, .int 0, .ref y28, .ref y29, .ref y30, .ref y31, .ref y32, .ref y33, .ref y34, .ref y35, .ref y36, .int 0, .ref y37, .ref y38, .int 0, .int 0, .int 0]))] s.heap := hP
  have hl := lv_entry ([.ref y, .int i, .int j, .int v]) (n := 4) (Nat.le_of_ble_eq_true rfl)
  rw [lg_entry_eq]
  generalize (lg_sl ([.ref y, .int i, .int j, .int v]) ++ List.replicate (4 - (lg_sl ([.ref y, .int i, .int j, .int v])).length) Slot.unset).toArray = ls at hl ⊢
  have hl : lv_has ls 4 [(0, .ref y), (1, .int i), (2, .int j), (3, .int v)] := hl
  refine lv_aload_n hx hb d_MO_stateAt_0 rfl (lv_at hl 0 rfl) ?_
  refine lv_iload_n hx hb d_MO_stateAt_1 rfl (lv_at hl 1 rfl) ?_
  have hPc := hP.sub (ws' := [(y, .inr (7, [.int 2, .int 0, .int 3, .int 5, .ref y1, .ref y2, .ref y3, .ref y4, .int 0, .ref y5, .ref y6, .ref y7, .ref y8, .ref y9, .ref y10, .ref y11, .ref y12, .ref y13, .ref y14, .ref y15, .int 0, .ref y16, .ref y17, .ref y18, .ref y19, .ref y20, .ref y21, .ref y22, .ref y23, .ref y24, .ref y25, .ref y26, .ref y27, .int 0, .int 0, .ref y28, .ref y29, .ref y30, .ref y31, .ref y32, .ref y33, .ref y34, .ref y35, .ref y36, .int 0, .ref y37, .ref y38, .int 0, .int 0, .int 0]))]) [0] rfl
  have hDc := hD.sub (ws' := [(y, .inr (7, [.int 2, .int 0, .int 3, .int 5, .ref y1, .ref y2, .ref y3, .ref y4, .int 0, .ref y5, .ref y6, .ref y7, .ref y8, .ref y9, .ref y10, .ref y11, .ref y12, .ref y13, .ref y14, .ref y15, .int 0, .ref y16, .ref y17, .ref y18, .ref y19, .ref y20, .ref y21, .ref y22, .ref y23, .ref y24, .ref y25, .ref y26, .ref y27, .int 0, .int 0, .ref y28, .ref y29, .ref y30, .ref y31, .ref y32, .ref y33, .ref y34, .ref y35, .ref y36, .int 0, .ref y37, .ref y38, .int 0, .int 0, .int 0]))]) [0] (by decide) rfl
  refine vp_callSi (va_Run.run (va_runV (As := [.int i]) (rest := []) ⟨hx, hb, hml, hown, hts⟩ (f_MO_isPair l D cI cZ y i y1 y2 y3 y4 y5 y6 y7 y8 y9 y10 y11 y12 y13 y14 y15 y16 y17 y18 y19 y20 y21 y22 y23 y24 y25 y26 y27 y28 y29 y30 y31 y32 y33 y34 y35 y36 y37 y38 s.heap.size ) (my_cwV 1 hts q_898 q_895 q_897 q_p19 q_8 rfl rfl (by decide +kernel) ⟨Nat.le_of_ble_eq_true rfl, Nat.le_of_ble_eq_true rfl⟩) (my_preV hPc hDc hK hN 7 0 rfl rfl) rfl rfl hl.1 rfl (lv_room (Nat.le_of_ble_eq_true rfl)) d_MO_stateAt_2 ⟨Nat.le_of_ble_eq_true rfl, Nat.le_of_ble_eq_true rfl⟩)) (fun r_1 hw_1 => ?_)
  have hw_1 : r_1 = 0 := hw_1
  subst hw_1
  refine lv_if_eq (tgt := 21) hx hb d_MO_stateAt_5 (by decide) (fun _ => ?_) (fun h => absurd h (by decide))
  refine lv_bipush (v := (-2)) hx hb d_MO_stateAt_21 (by decide) ?_
  exact W.iret (v := (-2)) hx hb hr (fun t ht hW => ⟨(-2), rfl, rfl, ht⟩) (fun q h => absurd h List.not_mem_nil) d_MO_stateAt_23

set_option maxHeartbeats 4000000 in
set_option maxRecDepth 100000 in
theorem f_MO_close (l : Launch) (D : va_G) (cI cZ : ClassId) (y : Nat) (i : Int32) (j : Int32) (v : Int32) (y1 : Nat) (y2 : Nat) (y3 : Nat) (y4 : Nat) (y5 : Nat) (y6 : Nat) (y7 : Nat) (y8 : Nat) (y9 : Nat) (y10 : Nat) (y11 : Nat) (y12 : Nat) (y13 : Nat) (y14 : Nat) (y15 : Nat) (y16 : Nat) (y17 : Nat) (y18 : Nat) (y19 : Nat) (y20 : Nat) (y21 : Nat) (y22 : Nat) (y23 : Nat) (y24 : Nat) (y25 : Nat) (y26 : Nat) (y27 : Nat) (y28 : Nat) (y29 : Nat) (y30 : Nat) (y31 : Nat) (y32 : Nat) (y33 : Nat) (y34 : Nat) (y35 : Nat) (y36 : Nat) (y37 : Nat) (y38 : Nat) (sz : Nat)  : Met l ⟨"PromiseChainsModel", "close", "(III)I"⟩ (mw ⟨"PromiseChainsModel", "close", "(III)I"⟩ prog_9_method_32_code 4 (some .int)) ({ frames := 2, cells := 0, slots := 0, locals := 43 }) (va_Pc [.ref y, .int i, .int j, .int v] (PB D cI cZ sz [(y, .inr (7, [.int 2, .int 0, .int 3, .int 5, .ref y1, .ref y2, .ref y3, .ref y4, .int 0, .ref y5, .ref y6, .ref y7, .ref y8, .ref y9, .ref y10, .ref y11, .ref y12, .ref y13, .ref y14, .ref y15, .int 0, .ref y16, .ref y17, .ref y18, .ref y19, .ref y20, .ref y21, .ref y22, .ref y23, .ref y24, .ref y25, .ref y26, .ref y27, .int 0, .int 0, .ref y28, .ref y29, .ref y30, .ref y31, .ref y32, .ref y33, .ref y34, .ref y35, .ref y36, .int 0, .ref y37, .ref y38, .int 0, .int 0, .int 0]))])) (vp_Si (fun r => r = -2)) 0 0 (fun _ => False) := by
  refine Met.ofW (cc := prog_9_method_32_code) (maxL := 4) (ret := (some .int)) (by decide) rfl ?_
  intro p e s m args below meth c s₁ B hml hv
  obtain ⟨rfl, hsz, hP, hK, hD0, hN⟩ := hv
  have hx := B.exec
  have hb := B.bytes
  have hr := B.returns
  have hts0 := atoms_spec (ws := mw ⟨"PromiseChainsModel", "close", "(III)I"⟩ prog_9_method_32_code 4 (some .int)) B.pre
  have hts : ∀ w ∈ tblG, w.before _ s = true := fun w h => hts0 w (List.mem_cons_of_mem _ h)
  have hown : s.vm.findClass "PromiseChainsModel" = some m.cls := findClass_of_methodNamed B.named
  have hlocks := B.notSynchronized
  subst hsz
  have hD := hD0
  have hP : va_P D vwCl [(y, .inr (7, [.int 2, .int 0, .int 3, .int 5, .ref y1, .ref y2, .ref y3, .ref y4, .int 0, .ref y5, .ref y6, .ref y7, .ref y8, .ref y9, .ref y10, .ref y11, .ref y12, .ref y13, .ref y14, .ref y15, .int 0, .ref y16, .ref y17, .ref y18, .ref y19, .ref y20, .ref y21, .ref y22, .ref y23, .ref y24, .ref y25, .ref y26, .ref y27, .int 0, .int 0, .ref y28, .ref y29, .ref y30, .ref y31, .ref y32, .ref y33, .ref y34, .ref y35, .ref y36, .int 0, .ref y37, .ref y38, .int 0, .int 0, .int 0]))] s.heap := hP
  have hl := lv_entry ([.ref y, .int i, .int j, .int v]) (n := 4) (Nat.le_of_ble_eq_true rfl)
  rw [lg_entry_eq]
  generalize (lg_sl ([.ref y, .int i, .int j, .int v]) ++ List.replicate (4 - (lg_sl ([.ref y, .int i, .int j, .int v])).length) Slot.unset).toArray = ls at hl ⊢
  have hl : lv_has ls 4 [(0, .ref y), (1, .int i), (2, .int j), (3, .int v)] := hl
  refine lv_aload_n hx hb d_MO_close_0 rfl (lv_at hl 0 rfl) ?_
  refine lv_iload_n hx hb d_MO_close_1 rfl (lv_at hl 1 rfl) ?_
  have hPc := hP.sub (ws' := [(y, .inr (7, [.int 2, .int 0, .int 3, .int 5, .ref y1, .ref y2, .ref y3, .ref y4, .int 0, .ref y5, .ref y6, .ref y7, .ref y8, .ref y9, .ref y10, .ref y11, .ref y12, .ref y13, .ref y14, .ref y15, .int 0, .ref y16, .ref y17, .ref y18, .ref y19, .ref y20, .ref y21, .ref y22, .ref y23, .ref y24, .ref y25, .ref y26, .ref y27, .int 0, .int 0, .ref y28, .ref y29, .ref y30, .ref y31, .ref y32, .ref y33, .ref y34, .ref y35, .ref y36, .int 0, .ref y37, .ref y38, .int 0, .int 0, .int 0]))]) [0] rfl
  have hDc := hD.sub (ws' := [(y, .inr (7, [.int 2, .int 0, .int 3, .int 5, .ref y1, .ref y2, .ref y3, .ref y4, .int 0, .ref y5, .ref y6, .ref y7, .ref y8, .ref y9, .ref y10, .ref y11, .ref y12, .ref y13, .ref y14, .ref y15, .int 0, .ref y16, .ref y17, .ref y18, .ref y19, .ref y20, .ref y21, .ref y22, .ref y23, .ref y24, .ref y25, .ref y26, .ref y27, .int 0, .int 0, .ref y28, .ref y29, .ref y30, .ref y31, .ref y32, .ref y33, .ref y34, .ref y35, .ref y36, .int 0, .ref y37, .ref y38, .int 0, .int 0, .int 0]))]) [0] (by decide) rfl
  refine vp_callSi (va_Run.run (va_runV (As := [.int i]) (rest := []) ⟨hx, hb, hml, hown, hts⟩ (f_MO_isPair l D cI cZ y i y1 y2 y3 y4 y5 y6 y7 y8 y9 y10 y11 y12 y13 y14 y15 y16 y17 y18 y19 y20 y21 y22 y23 y24 y25 y26 y27 y28 y29 y30 y31 y32 y33 y34 y35 y36 y37 y38 s.heap.size ) (my_cwV 1 hts q_898 q_895 q_897 q_p19 q_8 rfl rfl (by decide +kernel) ⟨Nat.le_of_ble_eq_true rfl, Nat.le_of_ble_eq_true rfl⟩) (my_preV hPc hDc hK hN 7 0 rfl rfl) rfl rfl hl.1 rfl (lv_room (Nat.le_of_ble_eq_true rfl)) d_MO_close_2 ⟨Nat.le_of_ble_eq_true rfl, Nat.le_of_ble_eq_true rfl⟩)) (fun r_1 hw_1 => ?_)
  have hw_1 : r_1 = 0 := hw_1
  subst hw_1
  refine lv_if_eq (tgt := 58) hx hb d_MO_close_5 (by decide) (fun _ => ?_) (fun h => absurd h (by decide))
  refine lv_bipush (v := (-2)) hx hb d_MO_close_58 (by decide) ?_
  exact W.iret (v := (-2)) hx hb hr (fun t ht hW => ⟨(-2), rfl, rfl, ht⟩) (fun q h => absurd h List.not_mem_nil) d_MO_close_60

set_option maxHeartbeats 4000000 in
set_option maxRecDepth 100000 in
theorem f_MO_wealthOf (l : Launch) (D : va_G) (cI cZ : ClassId) (y : Nat) (i : Int32) (y1 : Nat) (y2 : Nat) (y3 : Nat) (y4 : Nat) (y5 : Nat) (y6 : Nat) (y7 : Nat) (y8 : Nat) (y9 : Nat) (y10 : Nat) (y11 : Nat) (y12 : Nat) (y13 : Nat) (y14 : Nat) (y15 : Nat) (y16 : Nat) (y17 : Nat) (y18 : Nat) (y19 : Nat) (y20 : Nat) (y21 : Nat) (y22 : Nat) (y23 : Nat) (y24 : Nat) (y25 : Nat) (y26 : Nat) (y27 : Nat) (y28 : Nat) (y29 : Nat) (y30 : Nat) (y31 : Nat) (y32 : Nat) (y33 : Nat) (y34 : Nat) (y35 : Nat) (y36 : Nat) (y37 : Nat) (y38 : Nat) (sz : Nat) (hI : ¬ isw i 0 1 = 0) : Met l ⟨"PromiseChainsModel", "wealthOf", "(I)I"⟩ (mw ⟨"PromiseChainsModel", "wealthOf", "(I)I"⟩ prog_9_method_37_code 4 (some .int)) ({ frames := 0, cells := 0, slots := 0, locals := 0 }) (va_Pc [.ref y, .int i] (PB D cI cZ sz [(y, .inr (7, [.int 2, .int 0, .int 3, .int 5, .ref y1, .ref y2, .ref y3, .ref y4, .int 0, .ref y5, .ref y6, .ref y7, .ref y8, .ref y9, .ref y10, .ref y11, .ref y12, .ref y13, .ref y14, .ref y15, .int 0, .ref y16, .ref y17, .ref y18, .ref y19, .ref y20, .ref y21, .ref y22, .ref y23, .ref y24, .ref y25, .ref y26, .ref y27, .int 0, .int 0, .ref y28, .ref y29, .ref y30, .ref y31, .ref y32, .ref y33, .ref y34, .ref y35, .ref y36, .int 0, .ref y37, .ref y38, .int 0, .int 0, .int 0])), (y2, .inl (cI, 7, .inl (fun _ => 0)))])) (vp_Si (fun r => r = 0)) 0 0 (fun _ => False) := by
  refine Met.ofW (cc := prog_9_method_37_code) (maxL := 4) (ret := (some .int)) (by decide) rfl ?_
  intro p e s m args below meth c s₁ B hml hv
  obtain ⟨rfl, hsz, hP, hK, hD0, hN⟩ := hv
  have hx := B.exec
  have hb := B.bytes
  have hr := B.returns
  have hts0 := atoms_spec (ws := mw ⟨"PromiseChainsModel", "wealthOf", "(I)I"⟩ prog_9_method_37_code 4 (some .int)) B.pre
  have hts : ∀ w ∈ tblG, w.before _ s = true := fun w h => hts0 w (List.mem_cons_of_mem _ h)
  have hown : s.vm.findClass "PromiseChainsModel" = some m.cls := findClass_of_methodNamed B.named
  have hlocks := B.notSynchronized
  subst hsz
  have hD := hD0
  have hP : va_P D vwCl [(y, .inr (7, [.int 2, .int 0, .int 3, .int 5, .ref y1, .ref y2, .ref y3, .ref y4, .int 0, .ref y5, .ref y6, .ref y7, .ref y8, .ref y9, .ref y10, .ref y11, .ref y12, .ref y13, .ref y14, .ref y15, .int 0, .ref y16, .ref y17, .ref y18, .ref y19, .ref y20, .ref y21, .ref y22, .ref y23, .ref y24, .ref y25, .ref y26, .ref y27, .int 0, .int 0, .ref y28, .ref y29, .ref y30, .ref y31, .ref y32, .ref y33, .ref y34, .ref y35, .ref y36, .int 0, .ref y37, .ref y38, .int 0, .int 0, .int 0])), (y2, .inl (cI, 7, .inl (fun _ => 0)))] s.heap := hP
  have hl := lv_entry ([.ref y, .int i]) (n := 4) (Nat.le_of_ble_eq_true rfl)
  rw [lg_entry_eq]
  generalize (lg_sl ([.ref y, .int i]) ++ List.replicate (4 - (lg_sl ([.ref y, .int i])).length) Slot.unset).toArray = ls at hl ⊢
  have hl : lv_has ls 4 [(0, .ref y), (1, .int i)] := hl
  refine lv_aload_n hx hb d_MO_wealthOf_0 rfl (lv_at hl 0 rfl) ?_
  refine va_get (D := D) (ci := 7) (v := .ref y2) (C := R_MO) (T := F_MO) (N := 50) hx hb hts i_MO hown hK hP 0 rfl rfl 5 (by decide) (hts _ q_637) (fun _ h9 => h9) rfl d_MO_wealthOf_1 ?_
  refine lv_iload_n hx hb d_MO_wealthOf_4 rfl (lv_at hl 1 rfl) ?_
  refine va_iald hx hb hK hP 1 0 rfl rfl (isw_in hI (by decide)) d_MO_wealthOf_5 ?_
  refine lv_seti (0) (rfl) ?_
  refine lv_istore_n (lv' := [(2, .int 0), (0, .ref y), (1, .int i)]) hx hb d_MO_wealthOf_6 rfl hl (by decide) rfl (fun ls hl => ?_)
  refine lv_iconst (v := 0) hx hb d_MO_wealthOf_7 (by decide) ?_
  refine lv_istore_n (lv' := [(3, .int 0), (2, .int 0), (0, .ref y), (1, .int i)]) hx hb d_MO_wealthOf_8 rfl hl (by decide) rfl (fun ls hl => ?_)
  refine lv_iload_n hx hb d_MO_wealthOf_9 rfl (lv_at hl 0 rfl) ?_
  refine lv_iconst (v := 2) hx hb d_MO_wealthOf_10 (by decide) ?_
  refine lv_aload_n hx hb d_MO_wealthOf_11 rfl (lv_at hl 2 rfl) ?_
  refine va_get (D := D) (ci := 7) (v := .int 0) (C := R_MO) (T := F_MO) (N := 50) hx hb hts i_MO hown hK hP 0 rfl rfl 8 (by decide) (hts _ q_640) (fun _ h9 => h9) rfl d_MO_wealthOf_12 ?_
  refine lv_imul hx hb d_MO_wealthOf_15 ?_
  refine lv_seti (0) (by decide) ?_
  refine lv_icmp_ge (tgt := 55) hx hb d_MO_wealthOf_16 (by decide) (fun _ => ?_) (fun h => absurd h (by decide))
  refine lv_iload_n hx hb d_MO_wealthOf_55 rfl (lv_at hl 1 rfl) ?_
  exact W.iret (v := 0) hx hb hr (fun t ht hW => ⟨0, rfl, rfl, ht⟩) (fun q h => absurd h List.not_mem_nil) d_MO_wealthOf_56

set_option maxHeartbeats 4000000 in
set_option maxRecDepth 100000 in
theorem f_MO_wealth (l : Launch) (D : va_G) (cI cZ : ClassId) (y : Nat) (i : Int32) (y1 : Nat) (y2 : Nat) (y3 : Nat) (y4 : Nat) (y5 : Nat) (y6 : Nat) (y7 : Nat) (y8 : Nat) (y9 : Nat) (y10 : Nat) (y11 : Nat) (y12 : Nat) (y13 : Nat) (y14 : Nat) (y15 : Nat) (y16 : Nat) (y17 : Nat) (y18 : Nat) (y19 : Nat) (y20 : Nat) (y21 : Nat) (y22 : Nat) (y23 : Nat) (y24 : Nat) (y25 : Nat) (y26 : Nat) (y27 : Nat) (y28 : Nat) (y29 : Nat) (y30 : Nat) (y31 : Nat) (y32 : Nat) (y33 : Nat) (y34 : Nat) (y35 : Nat) (y36 : Nat) (y37 : Nat) (y38 : Nat) (sz : Nat)  : Met l ⟨"PromiseChainsModel", "wealth", "(I)I"⟩ (mw ⟨"PromiseChainsModel", "wealth", "(I)I"⟩ prog_9_method_38_code 2 (some .int)) ({ frames := 2, cells := 0, slots := 0, locals := 43 }) (va_Pc [.ref y, .int i] (PB D cI cZ sz [(y, .inr (7, [.int 2, .int 0, .int 3, .int 5, .ref y1, .ref y2, .ref y3, .ref y4, .int 0, .ref y5, .ref y6, .ref y7, .ref y8, .ref y9, .ref y10, .ref y11, .ref y12, .ref y13, .ref y14, .ref y15, .int 0, .ref y16, .ref y17, .ref y18, .ref y19, .ref y20, .ref y21, .ref y22, .ref y23, .ref y24, .ref y25, .ref y26, .ref y27, .int 0, .int 0, .ref y28, .ref y29, .ref y30, .ref y31, .ref y32, .ref y33, .ref y34, .ref y35, .ref y36, .int 0, .ref y37, .ref y38, .int 0, .int 0, .int 0])), (y2, .inl (cI, 7, .inl (fun _ => 0)))])) (vp_Si (fun r => r = sp_wealth i)) 0 0 (fun _ => False) := by
  refine Met.ofW (cc := prog_9_method_38_code) (maxL := 2) (ret := (some .int)) (by decide) rfl ?_
  intro p e s m args below meth c s₁ B hml hv
  obtain ⟨rfl, hsz, hP, hK, hD0, hN⟩ := hv
  have hx := B.exec
  have hb := B.bytes
  have hr := B.returns
  have hts0 := atoms_spec (ws := mw ⟨"PromiseChainsModel", "wealth", "(I)I"⟩ prog_9_method_38_code 2 (some .int)) B.pre
  have hts : ∀ w ∈ tblG, w.before _ s = true := fun w h => hts0 w (List.mem_cons_of_mem _ h)
  have hown : s.vm.findClass "PromiseChainsModel" = some m.cls := findClass_of_methodNamed B.named
  have hlocks := B.notSynchronized
  subst hsz
  have hD := hD0
  have hP : va_P D vwCl [(y, .inr (7, [.int 2, .int 0, .int 3, .int 5, .ref y1, .ref y2, .ref y3, .ref y4, .int 0, .ref y5, .ref y6, .ref y7, .ref y8, .ref y9, .ref y10, .ref y11, .ref y12, .ref y13, .ref y14, .ref y15, .int 0, .ref y16, .ref y17, .ref y18, .ref y19, .ref y20, .ref y21, .ref y22, .ref y23, .ref y24, .ref y25, .ref y26, .ref y27, .int 0, .int 0, .ref y28, .ref y29, .ref y30, .ref y31, .ref y32, .ref y33, .ref y34, .ref y35, .ref y36, .int 0, .ref y37, .ref y38, .int 0, .int 0, .int 0])), (y2, .inl (cI, 7, .inl (fun _ => 0)))] s.heap := hP
  have hl := lv_entry ([.ref y, .int i]) (n := 2) (Nat.le_of_ble_eq_true rfl)
  rw [lg_entry_eq]
  generalize (lg_sl ([.ref y, .int i]) ++ List.replicate (2 - (lg_sl ([.ref y, .int i])).length) Slot.unset).toArray = ls at hl ⊢
  have hl : lv_has ls 2 [(0, .ref y), (1, .int i)] := hl
  refine lv_aload_n hx hb d_MO_wealth_0 rfl (lv_at hl 0 rfl) ?_
  refine lv_iload_n hx hb d_MO_wealth_1 rfl (lv_at hl 1 rfl) ?_
  have hPc := hP.sub (ws' := [(y, .inr (7, [.int 2, .int 0, .int 3, .int 5, .ref y1, .ref y2, .ref y3, .ref y4, .int 0, .ref y5, .ref y6, .ref y7, .ref y8, .ref y9, .ref y10, .ref y11, .ref y12, .ref y13, .ref y14, .ref y15, .int 0, .ref y16, .ref y17, .ref y18, .ref y19, .ref y20, .ref y21, .ref y22, .ref y23, .ref y24, .ref y25, .ref y26, .ref y27, .int 0, .int 0, .ref y28, .ref y29, .ref y30, .ref y31, .ref y32, .ref y33, .ref y34, .ref y35, .ref y36, .int 0, .ref y37, .ref y38, .int 0, .int 0, .int 0]))]) [0] rfl
  have hDc := hD.sub (ws' := [(y, .inr (7, [.int 2, .int 0, .int 3, .int 5, .ref y1, .ref y2, .ref y3, .ref y4, .int 0, .ref y5, .ref y6, .ref y7, .ref y8, .ref y9, .ref y10, .ref y11, .ref y12, .ref y13, .ref y14, .ref y15, .int 0, .ref y16, .ref y17, .ref y18, .ref y19, .ref y20, .ref y21, .ref y22, .ref y23, .ref y24, .ref y25, .ref y26, .ref y27, .int 0, .int 0, .ref y28, .ref y29, .ref y30, .ref y31, .ref y32, .ref y33, .ref y34, .ref y35, .ref y36, .int 0, .ref y37, .ref y38, .int 0, .int 0, .int 0]))]) [0] (by decide) rfl
  refine vp_callSi (va_Run.run (va_runV (As := [.int i]) (rest := []) ⟨hx, hb, hml, hown, hts⟩ (f_MO_isPerson l D cI cZ y i y1 y2 y3 y4 y5 y6 y7 y8 y9 y10 y11 y12 y13 y14 y15 y16 y17 y18 y19 y20 y21 y22 y23 y24 y25 y26 y27 y28 y29 y30 y31 y32 y33 y34 y35 y36 y37 y38 s.heap.size ) (my_cwV 1 hts q_797 q_794 q_796 q_p5 q_8 rfl rfl (by decide +kernel) ⟨Nat.le_of_ble_eq_true rfl, Nat.le_of_ble_eq_true rfl⟩) (my_preV hPc hDc hK hN 7 0 rfl rfl) rfl rfl hl.1 rfl (lv_room (Nat.le_of_ble_eq_true rfl)) d_MO_wealth_2 ⟨Nat.le_of_ble_eq_true rfl, Nat.le_of_ble_eq_true rfl⟩)) (fun r_1 hw_1 => ?_)
  have hw_1 : r_1 = isw i 0 1 := hw_1
  subst hw_1
  refine lv_if_eq (tgt := 16) hx hb d_MO_wealth_5 (by decide) (fun h_2 => ?_) (fun h_2 => ?_)
  · refine lv_bipush (v := (-2)) hx hb d_MO_wealth_16 (by decide) ?_
    exact W.iret (v := (-2)) hx hb hr (fun t ht hW => ⟨(-2), rfl, (by first | decide | simp [sp_wealth, h_2]), ht⟩) (fun q h => absurd h List.not_mem_nil) d_MO_wealth_18
  · refine lv_aload_n hx hb d_MO_wealth_8 rfl (lv_at hl 0 rfl) ?_
    refine lv_iload_n hx hb d_MO_wealth_9 rfl (lv_at hl 1 rfl) ?_
    have hPc := hP.sub (ws' := [(y, .inr (7, [.int 2, .int 0, .int 3, .int 5, .ref y1, .ref y2, .ref y3, .ref y4, .int 0, .ref y5, .ref y6, .ref y7, .ref y8, .ref y9, .ref y10, .ref y11, .ref y12, .ref y13, .ref y14, .ref y15, .int 0, .ref y16, .ref y17, .ref y18, .ref y19, .ref y20, .ref y21, .ref y22, .ref y23, .ref y24, .ref y25, .ref y26, .ref y27, .int 0, .int 0, .ref y28, .ref y29, .ref y30, .ref y31, .ref y32, .ref y33, .ref y34, .ref y35, .ref y36, .int 0, .ref y37, .ref y38, .int 0, .int 0, .int 0])), (y2, .inl (cI, 7, .inl (fun _ => 0)))]) [0, 1] rfl
    have hDc := hD.sub (ws' := [(y, .inr (7, [.int 2, .int 0, .int 3, .int 5, .ref y1, .ref y2, .ref y3, .ref y4, .int 0, .ref y5, .ref y6, .ref y7, .ref y8, .ref y9, .ref y10, .ref y11, .ref y12, .ref y13, .ref y14, .ref y15, .int 0, .ref y16, .ref y17, .ref y18, .ref y19, .ref y20, .ref y21, .ref y22, .ref y23, .ref y24, .ref y25, .ref y26, .ref y27, .int 0, .int 0, .ref y28, .ref y29, .ref y30, .ref y31, .ref y32, .ref y33, .ref y34, .ref y35, .ref y36, .int 0, .ref y37, .ref y38, .int 0, .int 0, .int 0])), (y2, .inl (cI, 7, .inl (fun _ => 0)))]) [0, 1] (by decide) rfl
    refine vp_callSi (va_Run.run (va_runV (As := [.int i]) (rest := []) ⟨hx, hb, hml, hown, hts⟩ (f_MO_wealthOf l D cI cZ y i y1 y2 y3 y4 y5 y6 y7 y8 y9 y10 y11 y12 y13 y14 y15 y16 y17 y18 y19 y20 y21 y22 y23 y24 y25 y26 y27 y28 y29 y30 y31 y32 y33 y34 y35 y36 y37 y38 s.heap.size h_2) (my_cwV 1 hts q_926 q_923 q_925 q_p21 q_8 rfl rfl (by decide +kernel) ⟨Nat.le_of_ble_eq_true rfl, Nat.le_of_ble_eq_true rfl⟩) (my_preV hPc hDc hK hN 7 0 rfl rfl) rfl rfl hl.1 rfl (lv_room (Nat.le_of_ble_eq_true rfl)) d_MO_wealth_10 ⟨Nat.le_of_ble_eq_true rfl, Nat.le_of_ble_eq_true rfl⟩)) (fun r_3 hw_3 => ?_)
    have hw_3 : r_3 = 0 := hw_3
    subst hw_3
    refine lv_goto (tgt := 18) hx hb d_MO_wealth_13 (by decide) ?_
    exact W.iret (v := 0) hx hb hr (fun t ht hW => ⟨0, rfl, (by first | decide | simp [sp_wealth, h_2]), ht⟩) (fun q h => absurd h List.not_mem_nil) d_MO_wealth_18

set_option maxHeartbeats 4000000 in
set_option maxRecDepth 100000 in
theorem f_MO_off (l : Launch) (D : va_G) (cI cZ : ClassId) (y : Nat) (y1 : Nat) (y2 : Nat) (y3 : Nat) (y4 : Nat) (y5 : Nat) (y6 : Nat) (y7 : Nat) (y8 : Nat) (y9 : Nat) (y10 : Nat) (y11 : Nat) (y12 : Nat) (y13 : Nat) (y14 : Nat) (y15 : Nat) (y16 : Nat) (y17 : Nat) (y18 : Nat) (y19 : Nat) (y20 : Nat) (y21 : Nat) (y22 : Nat) (y23 : Nat) (y24 : Nat) (y25 : Nat) (y26 : Nat) (y27 : Nat) (y28 : Nat) (y29 : Nat) (y30 : Nat) (y31 : Nat) (y32 : Nat) (y33 : Nat) (y34 : Nat) (y35 : Nat) (y36 : Nat) (y37 : Nat) (y38 : Nat) (sz : Nat)  : Met l ⟨"PromiseChainsModel", "off", "()I"⟩ (mw ⟨"PromiseChainsModel", "off", "()I"⟩ prog_9_method_40_code 3 (some .int)) ({ frames := 0, cells := 0, slots := 0, locals := 0 }) (va_Pc [.ref y] (PB D cI cZ sz [(y, .inr (7, [.int 2, .int 0, .int 3, .int 5, .ref y1, .ref y2, .ref y3, .ref y4, .int 0, .ref y5, .ref y6, .ref y7, .ref y8, .ref y9, .ref y10, .ref y11, .ref y12, .ref y13, .ref y14, .ref y15, .int 0, .ref y16, .ref y17, .ref y18, .ref y19, .ref y20, .ref y21, .ref y22, .ref y23, .ref y24, .ref y25, .ref y26, .ref y27, .int 0, .int 0, .ref y28, .ref y29, .ref y30, .ref y31, .ref y32, .ref y33, .ref y34, .ref y35, .ref y36, .int 0, .ref y37, .ref y38, .int 0, .int 0, .int 0]))])) (vp_Si (fun r => r = 0)) 0 0 (fun _ => False) := by
  refine Met.ofW (cc := prog_9_method_40_code) (maxL := 3) (ret := (some .int)) (by decide) rfl ?_
  intro p e s m args below meth c s₁ B hml hv
  obtain ⟨rfl, hsz, hP, hK, hD0, hN⟩ := hv
  have hx := B.exec
  have hb := B.bytes
  have hr := B.returns
  have hts0 := atoms_spec (ws := mw ⟨"PromiseChainsModel", "off", "()I"⟩ prog_9_method_40_code 3 (some .int)) B.pre
  have hts : ∀ w ∈ tblG, w.before _ s = true := fun w h => hts0 w (List.mem_cons_of_mem _ h)
  have hown : s.vm.findClass "PromiseChainsModel" = some m.cls := findClass_of_methodNamed B.named
  have hlocks := B.notSynchronized
  subst hsz
  have hD := hD0
  have hP : va_P D vwCl [(y, .inr (7, [.int 2, .int 0, .int 3, .int 5, .ref y1, .ref y2, .ref y3, .ref y4, .int 0, .ref y5, .ref y6, .ref y7, .ref y8, .ref y9, .ref y10, .ref y11, .ref y12, .ref y13, .ref y14, .ref y15, .int 0, .ref y16, .ref y17, .ref y18, .ref y19, .ref y20, .ref y21, .ref y22, .ref y23, .ref y24, .ref y25, .ref y26, .ref y27, .int 0, .int 0, .ref y28, .ref y29, .ref y30, .ref y31, .ref y32, .ref y33, .ref y34, .ref y35, .ref y36, .int 0, .ref y37, .ref y38, .int 0, .int 0, .int 0]))] s.heap := hP
  have hl := lv_entry ([.ref y]) (n := 3) (Nat.le_of_ble_eq_true rfl)
  rw [lg_entry_eq]
  generalize (lg_sl ([.ref y]) ++ List.replicate (3 - (lg_sl ([.ref y])).length) Slot.unset).toArray = ls at hl ⊢
  have hl : lv_has ls 3 [(0, .ref y)] := hl
  refine lv_iconst (v := 0) hx hb d_MO_off_0 (by decide) ?_
  refine lv_istore_n (lv' := [(1, .int 0), (0, .ref y)]) hx hb d_MO_off_1 rfl hl (by decide) rfl (fun ls hl => ?_)
  refine lv_iconst (v := 0) hx hb d_MO_off_2 (by decide) ?_
  refine lv_istore_n (lv' := [(2, .int 0), (1, .int 0), (0, .ref y)]) hx hb d_MO_off_3 rfl hl (by decide) rfl (fun ls hl => ?_)
  refine lv_iload_n hx hb d_MO_off_4 rfl (lv_at hl 0 rfl) ?_
  refine lv_aload_n hx hb d_MO_off_5 rfl (lv_at hl 2 rfl) ?_
  refine va_get (D := D) (ci := 7) (v := .int 0) (C := R_MO) (T := F_MO) (N := 50) hx hb hts i_MO hown hK hP 0 rfl rfl 8 (by decide) (hts _ q_640) (fun _ h9 => h9) rfl d_MO_off_6 ?_
  refine lv_icmp_ge (tgt := 56) hx hb d_MO_off_9 (by decide) (fun _ => ?_) (fun h => absurd h (by decide))
  refine lv_iload_n hx hb d_MO_off_56 rfl (lv_at hl 1 rfl) ?_
  exact W.iret (v := 0) hx hb hr (fun t ht hW => ⟨0, rfl, rfl, ht⟩) (fun q h => absurd h List.not_mem_nil) d_MO_off_57

set_option maxHeartbeats 4000000 in
set_option maxRecDepth 100000 in
theorem f_MO_findRing (l : Launch) (D : va_G) (cI cZ : ClassId) (y : Nat) (y1 : Nat) (y2 : Nat) (y3 : Nat) (y4 : Nat) (y5 : Nat) (y6 : Nat) (y7 : Nat) (y8 : Nat) (y9 : Nat) (y10 : Nat) (y11 : Nat) (y12 : Nat) (y13 : Nat) (y14 : Nat) (y15 : Nat) (y16 : Nat) (y17 : Nat) (y18 : Nat) (y19 : Nat) (y20 : Nat) (y21 : Nat) (y22 : Nat) (y23 : Nat) (y24 : Nat) (y25 : Nat) (y26 : Nat) (y27 : Nat) (y28 : Nat) (y29 : Nat) (y30 : Nat) (y31 : Nat) (y32 : Nat) (y33 : Nat) (y34 : Nat) (y35 : Nat) (y36 : Nat) (y37 : Nat) (y38 : Nat) (sz : Nat)  : Met l ⟨"PromiseChainsModel", "findRing", "()V"⟩ (mw ⟨"PromiseChainsModel", "findRing", "()V"⟩ prog_9_method_44_code 2 none) ({ frames := 0, cells := 0, slots := 0, locals := 0 }) (va_Pc [.ref y] (PB D cI cZ sz [(y, .inr (7, [.int 2, .int 0, .int 3, .int 5, .ref y1, .ref y2, .ref y3, .ref y4, .int 0, .ref y5, .ref y6, .ref y7, .ref y8, .ref y9, .ref y10, .ref y11, .ref y12, .ref y13, .ref y14, .ref y15, .int 0, .ref y16, .ref y17, .ref y18, .ref y19, .ref y20, .ref y21, .ref y22, .ref y23, .ref y24, .ref y25, .ref y26, .ref y27, .int 0, .int 0, .ref y28, .ref y29, .ref y30, .ref y31, .ref y32, .ref y33, .ref y34, .ref y35, .ref y36, .int 0, .ref y37, .ref y38, .int 0, .int 0, .int 0]))])) (va_Qv (S := Unit) (fun uU => True) (fun uU tT => BB D (va_A [(y, .inr (7, [.int 2, .int 0, .int 3, .int 5, .ref y1, .ref y2, .ref y3, .ref y4, .int 0, .ref y5, .ref y6, .ref y7, .ref y8, .ref y9, .ref y10, .ref y11, .ref y12, .ref y13, .ref y14, .ref y15, .int 0, .ref y16, .ref y17, .ref y18, .ref y19, .ref y20, .ref y21, .ref y22, .ref y23, .ref y24, .ref y25, .ref y26, .ref y27, .int 0, .int 0, .ref y28, .ref y29, .ref y30, .ref y31, .ref y32, .ref y33, .ref y34, .ref y35, .ref y36, .int 0, .ref y37, .ref y38, .int 0, .int 0, .int 0]))] sz) [(y, .inr (7, [.int 2, .int 0, .int 3, .int 5, .ref y1, .ref y2, .ref y3, .ref y4, .int 0, .ref y5, .ref y6, .ref y7, .ref y8, .ref y9, .ref y10, .ref y11, .ref y12, .ref y13, .ref y14, .ref y15, .int 0, .ref y16, .ref y17, .ref y18, .ref y19, .ref y20, .ref y21, .ref y22, .ref y23, .ref y24, .ref y25, .ref y26, .ref y27, .int 0, .int 0, .ref y28, .ref y29, .ref y30, .ref y31, .ref y32, .ref y33, .ref y34, .ref y35, .ref y36, .int 0, .ref y37, .ref y38, .int 0, .int 0, .int 0]))] tT) (va_A [(y, .inr (7, [.int 2, .int 0, .int 3, .int 5, .ref y1, .ref y2, .ref y3, .ref y4, .int 0, .ref y5, .ref y6, .ref y7, .ref y8, .ref y9, .ref y10, .ref y11, .ref y12, .ref y13, .ref y14, .ref y15, .int 0, .ref y16, .ref y17, .ref y18, .ref y19, .ref y20, .ref y21, .ref y22, .ref y23, .ref y24, .ref y25, .ref y26, .ref y27, .int 0, .int 0, .ref y28, .ref y29, .ref y30, .ref y31, .ref y32, .ref y33, .ref y34, .ref y35, .ref y36, .int 0, .ref y37, .ref y38, .int 0, .int 0, .int 0]))] sz)) 0 0 (va_A [(y, .inr (7, [.int 2, .int 0, .int 3, .int 5, .ref y1, .ref y2, .ref y3, .ref y4, .int 0, .ref y5, .ref y6, .ref y7, .ref y8, .ref y9, .ref y10, .ref y11, .ref y12, .ref y13, .ref y14, .ref y15, .int 0, .ref y16, .ref y17, .ref y18, .ref y19, .ref y20, .ref y21, .ref y22, .ref y23, .ref y24, .ref y25, .ref y26, .ref y27, .int 0, .int 0, .ref y28, .ref y29, .ref y30, .ref y31, .ref y32, .ref y33, .ref y34, .ref y35, .ref y36, .int 0, .ref y37, .ref y38, .int 0, .int 0, .int 0]))] sz) := by
  refine Met.ofW (cc := prog_9_method_44_code) (maxL := 2) (ret := none) (by decide) rfl ?_
  intro p e s m args below meth c s₁ B hml hv
  obtain ⟨rfl, hsz, hP, hK, hD0, hN⟩ := hv
  have hx := B.exec
  have hb := B.bytes
  have hr := B.returns
  have hts0 := atoms_spec (ws := mw ⟨"PromiseChainsModel", "findRing", "()V"⟩ prog_9_method_44_code 2 none) B.pre
  have hts : ∀ w ∈ tblG, w.before _ s = true := fun w h => hts0 w (List.mem_cons_of_mem _ h)
  have hown : s.vm.findClass "PromiseChainsModel" = some m.cls := findClass_of_methodNamed B.named
  have hlocks := B.notSynchronized
  subst hsz
  have hD := hD0.self (sz := s.heap.size)
  generalize hAe : va_A [(y, .inr (7, [.int 2, .int 0, .int 3, .int 5, .ref y1, .ref y2, .ref y3, .ref y4, .int 0, .ref y5, .ref y6, .ref y7, .ref y8, .ref y9, .ref y10, .ref y11, .ref y12, .ref y13, .ref y14, .ref y15, .int 0, .ref y16, .ref y17, .ref y18, .ref y19, .ref y20, .ref y21, .ref y22, .ref y23, .ref y24, .ref y25, .ref y26, .ref y27, .int 0, .int 0, .ref y28, .ref y29, .ref y30, .ref y31, .ref y32, .ref y33, .ref y34, .ref y35, .ref y36, .int 0, .ref y37, .ref y38, .int 0, .int 0, .int 0]))] s.heap.size = A at hD ⊢
  have hA : ∀ q : Nat, s.heap.size ≤ q → A q := fun q h => by rw [← hAe]; exact Or.inr h
  have hS : va_S A s.heap s.heap [] := va_S.rf
  have hP : va_P D vwCl [(y, .inr (7, [.int 2, .int 0, .int 3, .int 5, .ref y1, .ref y2, .ref y3, .ref y4, .int 0, .ref y5, .ref y6, .ref y7, .ref y8, .ref y9, .ref y10, .ref y11, .ref y12, .ref y13, .ref y14, .ref y15, .int 0, .ref y16, .ref y17, .ref y18, .ref y19, .ref y20, .ref y21, .ref y22, .ref y23, .ref y24, .ref y25, .ref y26, .ref y27, .int 0, .int 0, .ref y28, .ref y29, .ref y30, .ref y31, .ref y32, .ref y33, .ref y34, .ref y35, .ref y36, .int 0, .ref y37, .ref y38, .int 0, .int 0, .int 0]))] s.heap := hP
  have hl := lv_entry ([.ref y]) (n := 2) (Nat.le_of_ble_eq_true rfl)
  rw [lg_entry_eq]
  generalize (lg_sl ([.ref y]) ++ List.replicate (2 - (lg_sl ([.ref y])).length) Slot.unset).toArray = ls at hl ⊢
  have hl : lv_has ls 2 [(0, .ref y)] := hl
  refine lv_aload_n hx hb d_MO_findRing_0 rfl (lv_at hl 0 rfl) ?_
  refine lv_iconst (v := 0) hx hb d_MO_findRing_1 (by decide) ?_
  refine va_put (D := D) (ci := 7) (v := .int 0) (ty := .int) (C := R_MO) (T := F_MO) (N := 50) hx hb hts i_MO t_MO t_MO_ok n_MO hown hK hP hD hS 0 rfl rfl 47 (by decide) (hts _ q_679) (fun _ h9 => h9) rfl (by decide +kernel) rfl rfl (Nat.le_of_ble_eq_true rfl) d_MO_findRing_2 (fun H_1 locs hP hD hS => ?_)
  have hP : va_P D vwCl [(y, .inr (7, [.int 2, .int 0, .int 3, .int 5, .ref y1, .ref y2, .ref y3, .ref y4, .int 0, .ref y5, .ref y6, .ref y7, .ref y8, .ref y9, .ref y10, .ref y11, .ref y12, .ref y13, .ref y14, .ref y15, .int 0, .ref y16, .ref y17, .ref y18, .ref y19, .ref y20, .ref y21, .ref y22, .ref y23, .ref y24, .ref y25, .ref y26, .ref y27, .int 0, .int 0, .ref y28, .ref y29, .ref y30, .ref y31, .ref y32, .ref y33, .ref y34, .ref y35, .ref y36, .int 0, .ref y37, .ref y38, .int 0, .int 0, .int 0]))] H_1 := hP
  have hD : va_D A [(y, .inr (7, [.int 2, .int 0, .int 3, .int 5, .ref y1, .ref y2, .ref y3, .ref y4, .int 0, .ref y5, .ref y6, .ref y7, .ref y8, .ref y9, .ref y10, .ref y11, .ref y12, .ref y13, .ref y14, .ref y15, .int 0, .ref y16, .ref y17, .ref y18, .ref y19, .ref y20, .ref y21, .ref y22, .ref y23, .ref y24, .ref y25, .ref y26, .ref y27, .int 0, .int 0, .ref y28, .ref y29, .ref y30, .ref y31, .ref y32, .ref y33, .ref y34, .ref y35, .ref y36, .int 0, .ref y37, .ref y38, .int 0, .int 0, .int 0]))] := hD
  refine lv_iconst (v := 0) hx hb d_MO_findRing_5 (by decide) ?_
  refine lv_istore_n (lv' := [(1, .int 0), (0, .ref y)]) hx hb d_MO_findRing_6 rfl hl (by decide) rfl (fun ls hl => ?_)
  refine lv_iload_n hx hb d_MO_findRing_7 rfl (lv_at hl 0 rfl) ?_
  refine lv_iconst (v := 2) hx hb d_MO_findRing_8 (by decide) ?_
  refine lv_aload_n hx hb d_MO_findRing_9 rfl (lv_at hl 1 rfl) ?_
  refine va_get (D := D) (ci := 7) (v := .int 0) (C := R_MO) (T := F_MO) (N := 50) hx hb hts i_MO hown hK hP 0 rfl rfl 8 (by decide) (hts _ q_640) (fun _ h9 => h9) rfl d_MO_findRing_10 ?_
  refine lv_imul hx hb d_MO_findRing_13 ?_
  refine lv_seti (0) (by decide) ?_
  refine lv_icmp_ge (tgt := 33) hx hb d_MO_findRing_14 (by decide) (fun _ => ?_) (fun h => absurd h (by decide))
  have hP9 := hP.sub (ws' := [(y, .inr (7, [.int 2, .int 0, .int 3, .int 5, .ref y1, .ref y2, .ref y3, .ref y4, .int 0, .ref y5, .ref y6, .ref y7, .ref y8, .ref y9, .ref y10, .ref y11, .ref y12, .ref y13, .ref y14, .ref y15, .int 0, .ref y16, .ref y17, .ref y18, .ref y19, .ref y20, .ref y21, .ref y22, .ref y23, .ref y24, .ref y25, .ref y26, .ref y27, .int 0, .int 0, .ref y28, .ref y29, .ref y30, .ref y31, .ref y32, .ref y33, .ref y34, .ref y35, .ref y36, .int 0, .ref y37, .ref y38, .int 0, .int 0, .int 0]))]) [0] rfl
  have hD9 := hD.sub (ws' := [(y, .inr (7, [.int 2, .int 0, .int 3, .int 5, .ref y1, .ref y2, .ref y3, .ref y4, .int 0, .ref y5, .ref y6, .ref y7, .ref y8, .ref y9, .ref y10, .ref y11, .ref y12, .ref y13, .ref y14, .ref y15, .int 0, .ref y16, .ref y17, .ref y18, .ref y19, .ref y20, .ref y21, .ref y22, .ref y23, .ref y24, .ref y25, .ref y26, .ref y27, .int 0, .int 0, .ref y28, .ref y29, .ref y30, .ref y31, .ref y32, .ref y33, .ref y34, .ref y35, .ref y36, .int 0, .ref y37, .ref y38, .int 0, .int 0, .int 0]))]) [0] (by decide) rfl
  refine W.widen (k := 0) (n := 0) (Nat.le_of_ble_eq_true rfl) (Nat.le_of_ble_eq_true rfl) ?_
  exact W.vret hx hb hr (fun t ht hW => ⟨⟨(), rfl, trivial, by rw [ht]; exact hP9, hD9⟩, hS.F ht⟩) hS.2.2 d_MO_findRing_33

set_option maxHeartbeats 4000000 in
set_option maxRecDepth 100000 in
theorem f_MO_ring (l : Launch) (D : va_G) (cI cZ : ClassId) (y : Nat) (i : Int32) (j : Int32) (y1 : Nat) (y2 : Nat) (y3 : Nat) (y4 : Nat) (y5 : Nat) (y6 : Nat) (y7 : Nat) (y8 : Nat) (y9 : Nat) (y10 : Nat) (y11 : Nat) (y12 : Nat) (y13 : Nat) (y14 : Nat) (y15 : Nat) (y16 : Nat) (y17 : Nat) (y18 : Nat) (y19 : Nat) (y20 : Nat) (y21 : Nat) (y22 : Nat) (y23 : Nat) (y24 : Nat) (y25 : Nat) (y26 : Nat) (y27 : Nat) (y28 : Nat) (y29 : Nat) (y30 : Nat) (y31 : Nat) (y32 : Nat) (y33 : Nat) (y34 : Nat) (y35 : Nat) (y36 : Nat) (y37 : Nat) (y38 : Nat) (sz : Nat)  : Met l ⟨"PromiseChainsModel", "ring", "(II)I"⟩ (mw ⟨"PromiseChainsModel", "ring", "(II)I"⟩ prog_9_method_47_code 3 (some .int)) ({ frames := 1, cells := 0, slots := 0, locals := 22 }) (va_Pc [.ref y, .int i, .int j] (PB D cI cZ sz [(y, .inr (7, [.int 2, .int 0, .int 3, .int 5, .ref y1, .ref y2, .ref y3, .ref y4, .int 0, .ref y5, .ref y6, .ref y7, .ref y8, .ref y9, .ref y10, .ref y11, .ref y12, .ref y13, .ref y14, .ref y15, .int 0, .ref y16, .ref y17, .ref y18, .ref y19, .ref y20, .ref y21, .ref y22, .ref y23, .ref y24, .ref y25, .ref y26, .ref y27, .int 0, .int 0, .ref y28, .ref y29, .ref y30, .ref y31, .ref y32, .ref y33, .ref y34, .ref y35, .ref y36, .int 0, .ref y37, .ref y38, .int 0, .int 0, .int 0]))])) (va_Qi (S := Unit) (fun (r : Int32) uU => r = sp_ring i) (fun uU tT => BB D (va_A [(y, .inr (7, [.int 2, .int 0, .int 3, .int 5, .ref y1, .ref y2, .ref y3, .ref y4, .int 0, .ref y5, .ref y6, .ref y7, .ref y8, .ref y9, .ref y10, .ref y11, .ref y12, .ref y13, .ref y14, .ref y15, .int 0, .ref y16, .ref y17, .ref y18, .ref y19, .ref y20, .ref y21, .ref y22, .ref y23, .ref y24, .ref y25, .ref y26, .ref y27, .int 0, .int 0, .ref y28, .ref y29, .ref y30, .ref y31, .ref y32, .ref y33, .ref y34, .ref y35, .ref y36, .int 0, .ref y37, .ref y38, .int 0, .int 0, .int 0]))] sz) [] tT) (va_A [(y, .inr (7, [.int 2, .int 0, .int 3, .int 5, .ref y1, .ref y2, .ref y3, .ref y4, .int 0, .ref y5, .ref y6, .ref y7, .ref y8, .ref y9, .ref y10, .ref y11, .ref y12, .ref y13, .ref y14, .ref y15, .int 0, .ref y16, .ref y17, .ref y18, .ref y19, .ref y20, .ref y21, .ref y22, .ref y23, .ref y24, .ref y25, .ref y26, .ref y27, .int 0, .int 0, .ref y28, .ref y29, .ref y30, .ref y31, .ref y32, .ref y33, .ref y34, .ref y35, .ref y36, .int 0, .ref y37, .ref y38, .int 0, .int 0, .int 0]))] sz)) 0 0 (va_A [(y, .inr (7, [.int 2, .int 0, .int 3, .int 5, .ref y1, .ref y2, .ref y3, .ref y4, .int 0, .ref y5, .ref y6, .ref y7, .ref y8, .ref y9, .ref y10, .ref y11, .ref y12, .ref y13, .ref y14, .ref y15, .int 0, .ref y16, .ref y17, .ref y18, .ref y19, .ref y20, .ref y21, .ref y22, .ref y23, .ref y24, .ref y25, .ref y26, .ref y27, .int 0, .int 0, .ref y28, .ref y29, .ref y30, .ref y31, .ref y32, .ref y33, .ref y34, .ref y35, .ref y36, .int 0, .ref y37, .ref y38, .int 0, .int 0, .int 0]))] sz) := by
  refine Met.ofW (cc := prog_9_method_47_code) (maxL := 3) (ret := (some .int)) (by decide) rfl ?_
  intro p e s m args below meth c s₁ B hml hv
  obtain ⟨rfl, hsz, hP, hK, hD0, hN⟩ := hv
  have hx := B.exec
  have hb := B.bytes
  have hr := B.returns
  have hts0 := atoms_spec (ws := mw ⟨"PromiseChainsModel", "ring", "(II)I"⟩ prog_9_method_47_code 3 (some .int)) B.pre
  have hts : ∀ w ∈ tblG, w.before _ s = true := fun w h => hts0 w (List.mem_cons_of_mem _ h)
  have hown : s.vm.findClass "PromiseChainsModel" = some m.cls := findClass_of_methodNamed B.named
  have hlocks := B.notSynchronized
  subst hsz
  have hD := hD0.self (sz := s.heap.size)
  generalize hAe : va_A [(y, .inr (7, [.int 2, .int 0, .int 3, .int 5, .ref y1, .ref y2, .ref y3, .ref y4, .int 0, .ref y5, .ref y6, .ref y7, .ref y8, .ref y9, .ref y10, .ref y11, .ref y12, .ref y13, .ref y14, .ref y15, .int 0, .ref y16, .ref y17, .ref y18, .ref y19, .ref y20, .ref y21, .ref y22, .ref y23, .ref y24, .ref y25, .ref y26, .ref y27, .int 0, .int 0, .ref y28, .ref y29, .ref y30, .ref y31, .ref y32, .ref y33, .ref y34, .ref y35, .ref y36, .int 0, .ref y37, .ref y38, .int 0, .int 0, .int 0]))] s.heap.size = A at hD ⊢
  have hA : ∀ q : Nat, s.heap.size ≤ q → A q := fun q h => by rw [← hAe]; exact Or.inr h
  have hS : va_S A s.heap s.heap [] := va_S.rf
  have hP : va_P D vwCl [(y, .inr (7, [.int 2, .int 0, .int 3, .int 5, .ref y1, .ref y2, .ref y3, .ref y4, .int 0, .ref y5, .ref y6, .ref y7, .ref y8, .ref y9, .ref y10, .ref y11, .ref y12, .ref y13, .ref y14, .ref y15, .int 0, .ref y16, .ref y17, .ref y18, .ref y19, .ref y20, .ref y21, .ref y22, .ref y23, .ref y24, .ref y25, .ref y26, .ref y27, .int 0, .int 0, .ref y28, .ref y29, .ref y30, .ref y31, .ref y32, .ref y33, .ref y34, .ref y35, .ref y36, .int 0, .ref y37, .ref y38, .int 0, .int 0, .int 0]))] s.heap := hP
  have hl := lv_entry ([.ref y, .int i, .int j]) (n := 3) (Nat.le_of_ble_eq_true rfl)
  rw [lg_entry_eq]
  generalize (lg_sl ([.ref y, .int i, .int j]) ++ List.replicate (3 - (lg_sl ([.ref y, .int i, .int j])).length) Slot.unset).toArray = ls at hl ⊢
  have hl : lv_has ls 3 [(0, .ref y), (1, .int i), (2, .int j)] := hl
  refine lv_iload_n hx hb d_MO_ring_0 rfl (lv_at hl 1 rfl) ?_
  refine lv_iconst (v := 0) hx hb d_MO_ring_1 (by decide) ?_
  refine lv_iconst (v := 4) hx hb d_MO_ring_2 (by decide) ?_
  have hPc := hP.sub (ws' := []) [] rfl
  have hDc := hD.sub (ws' := []) [] (by decide) rfl
  refine vp_callSi (va_Run.run (va_runS (As := [.int i, .int 0, .int 4]) (rest := []) ⟨hx, hb, hml, hown, hts⟩ (c_in l D cI cZ i 0 4 s.heap.size ) (my_cwS 3 hts q_789 q_787 q_788 q_8 rfl rfl (by decide +kernel) ⟨Nat.le_of_ble_eq_true rfl, Nat.le_of_ble_eq_true rfl⟩) (my_preS hPc hDc hK hN) rfl rfl hl.1 rfl (lv_room (Nat.le_of_ble_eq_true rfl)) d_MO_ring_3 ⟨Nat.le_of_ble_eq_true rfl, Nat.le_of_ble_eq_true rfl⟩)) (fun r_1 hw_1 => ?_)
  have hw_1 : r_1 = isw i 0 4 := hw_1
  subst hw_1
  refine lv_if_ne (tgt := 12) hx hb d_MO_ring_6 (by decide) (fun h_2 => ?_) (fun h_2 => ?_)
  · refine lv_aload_n hx hb d_MO_ring_12 rfl (lv_at hl 0 rfl) ?_
    have hPc := hP.sub (ws' := [(y, .inr (7, [.int 2, .int 0, .int 3, .int 5, .ref y1, .ref y2, .ref y3, .ref y4, .int 0, .ref y5, .ref y6, .ref y7, .ref y8, .ref y9, .ref y10, .ref y11, .ref y12, .ref y13, .ref y14, .ref y15, .int 0, .ref y16, .ref y17, .ref y18, .ref y19, .ref y20, .ref y21, .ref y22, .ref y23, .ref y24, .ref y25, .ref y26, .ref y27, .int 0, .int 0, .ref y28, .ref y29, .ref y30, .ref y31, .ref y32, .ref y33, .ref y34, .ref y35, .ref y36, .int 0, .ref y37, .ref y38, .int 0, .int 0, .int 0]))]) [0] rfl
    have hDc := hD.sub (ws' := [(y, .inr (7, [.int 2, .int 0, .int 3, .int 5, .ref y1, .ref y2, .ref y3, .ref y4, .int 0, .ref y5, .ref y6, .ref y7, .ref y8, .ref y9, .ref y10, .ref y11, .ref y12, .ref y13, .ref y14, .ref y15, .int 0, .ref y16, .ref y17, .ref y18, .ref y19, .ref y20, .ref y21, .ref y22, .ref y23, .ref y24, .ref y25, .ref y26, .ref y27, .int 0, .int 0, .ref y28, .ref y29, .ref y30, .ref y31, .ref y32, .ref y33, .ref y34, .ref y35, .ref y36, .int 0, .ref y37, .ref y38, .int 0, .int 0, .int 0]))]) [0] (by decide) rfl
    have hFc := va_free (wc := [(y, .inr (7, [.int 2, .int 0, .int 3, .int 5, .ref y1, .ref y2, .ref y3, .ref y4, .int 0, .ref y5, .ref y6, .ref y7, .ref y8, .ref y9, .ref y10, .ref y11, .ref y12, .ref y13, .ref y14, .ref y15, .int 0, .ref y16, .ref y17, .ref y18, .ref y19, .ref y20, .ref y21, .ref y22, .ref y23, .ref y24, .ref y25, .ref y26, .ref y27, .int 0, .int 0, .ref y28, .ref y29, .ref y30, .ref y31, .ref y32, .ref y33, .ref y34, .ref y35, .ref y36, .int 0, .ref y37, .ref y38, .int 0, .int 0, .int 0]))]) hD hS hA [0] rfl
    refine va_callv (va_runV (As := []) (rest := []) ⟨hx, hb, hml, hown, hts⟩ (f_MO_findRing l D cI cZ y y1 y2 y3 y4 y5 y6 y7 y8 y9 y10 y11 y12 y13 y14 y15 y16 y17 y18 y19 y20 y21 y22 y23 y24 y25 y26 y27 y28 y29 y30 y31 y32 y33 y34 y35 y36 y37 y38 s.heap.size ) (my_cwV 0 hts q_941 q_938 q_940 q_p22 q_8 rfl rfl (by decide +kernel) ⟨Nat.le_of_ble_eq_true rfl, Nat.le_of_ble_eq_true rfl⟩) (my_preV hPc hDc hK hN 7 0 rfl rfl) rfl rfl hl.1 rfl (lv_room (Nat.le_of_ble_eq_true rfl)) d_MO_ring_13 ⟨Nat.le_of_ble_eq_true rfl, Nat.le_of_ble_eq_true rfl⟩) hS (fun q _ h => hFc q h) hFc (fun uU tT H_4 locs ht hvm hw_3 hB hz1 hk1 hS => ?_)
    obtain ⟨hP1, hD1⟩ := hB
    rw [ht] at hP1
    obtain ⟨hP, hD⟩ := va_join (wr := []) (w1 := [(y, .inr (7, [.int 2, .int 0, .int 3, .int 5, .ref y1, .ref y2, .ref y3, .ref y4, .int 0, .ref y5, .ref y6, .ref y7, .ref y8, .ref y9, .ref y10, .ref y11, .ref y12, .ref y13, .ref y14, .ref y15, .int 0, .ref y16, .ref y17, .ref y18, .ref y19, .ref y20, .ref y21, .ref y22, .ref y23, .ref y24, .ref y25, .ref y26, .ref y27, .int 0, .int 0, .ref y28, .ref y29, .ref y30, .ref y31, .ref y32, .ref y33, .ref y34, .ref y35, .ref y36, .int 0, .ref y37, .ref y38, .int 0, .int 0, .int 0]))]) hP hD [0] [] rfl rfl (by decide) (by decide) hk1 hFc hP1 hD1
    have hP : va_P D vwCl [(y, .inr (7, [.int 2, .int 0, .int 3, .int 5, .ref y1, .ref y2, .ref y3, .ref y4, .int 0, .ref y5, .ref y6, .ref y7, .ref y8, .ref y9, .ref y10, .ref y11, .ref y12, .ref y13, .ref y14, .ref y15, .int 0, .ref y16, .ref y17, .ref y18, .ref y19, .ref y20, .ref y21, .ref y22, .ref y23, .ref y24, .ref y25, .ref y26, .ref y27, .int 0, .int 0, .ref y28, .ref y29, .ref y30, .ref y31, .ref y32, .ref y33, .ref y34, .ref y35, .ref y36, .int 0, .ref y37, .ref y38, .int 0, .int 0, .int 0]))] H_4 := hP
    have hD : va_D A [(y, .inr (7, [.int 2, .int 0, .int 3, .int 5, .ref y1, .ref y2, .ref y3, .ref y4, .int 0, .ref y5, .ref y6, .ref y7, .ref y8, .ref y9, .ref y10, .ref y11, .ref y12, .ref y13, .ref y14, .ref y15, .int 0, .ref y16, .ref y17, .ref y18, .ref y19, .ref y20, .ref y21, .ref y22, .ref y23, .ref y24, .ref y25, .ref y26, .ref y27, .int 0, .int 0, .ref y28, .ref y29, .ref y30, .ref y31, .ref y32, .ref y33, .ref y34, .ref y35, .ref y36, .int 0, .ref y37, .ref y38, .int 0, .int 0, .int 0]))] := hD
    refine lv_aload_n hx hb d_MO_ring_16 rfl (lv_at hl 0 rfl) ?_
    refine va_get (D := D) (ci := 7) (v := .int 0) (C := R_MO) (T := F_MO) (N := 50) hx hb hts i_MO hown hK hP 0 rfl rfl 47 (by decide) (hts _ q_679) (fun _ h9 => h9) rfl d_MO_ring_17 ?_
    refine lv_if_ne (tgt := 25) hx hb d_MO_ring_20 (by decide) (fun h => absurd h (by decide)) (fun _ => ?_)
    refine lv_iconst (v := (-1)) hx hb d_MO_ring_23 (by decide) ?_
    have hP9 := hP.sub (ws' := []) [] rfl
    have hD9 := hD.sub (ws' := []) [] (by decide) rfl
    refine W.widen (k := 0) (n := 0) (Nat.le_of_ble_eq_true rfl) (Nat.le_of_ble_eq_true rfl) ?_
    exact W.iret (v := (-1)) hx hb hr (fun t ht hW => ⟨⟨(-1), (), rfl, (by first | decide | simp [sp_ring, h_2]), by rw [ht]; exact hP9, hD9⟩, hS.F ht⟩) hS.2.2 d_MO_ring_24
  · refine lv_bipush (v := (-2)) hx hb d_MO_ring_9 (by decide) ?_
    have hP9 := hP.sub (ws' := []) [] rfl
    have hD9 := hD.sub (ws' := []) [] (by decide) rfl
    refine W.widen (k := 0) (n := 0) (Nat.le_of_ble_eq_true rfl) (Nat.le_of_ble_eq_true rfl) ?_
    exact W.iret (v := (-2)) hx hb hr (fun t ht hW => ⟨⟨(-2), (), rfl, (by first | decide | simp [sp_ring, h_2]), by rw [ht]; exact hP9, hD9⟩, hS.F ht⟩) hS.2.2 d_MO_ring_11

set_option maxHeartbeats 4000000 in
set_option maxRecDepth 100000 in
theorem f_MO_even (l : Launch) (D : va_G) (cI cZ : ClassId) (y : Nat) (y1 : Nat) (y2 : Nat) (y3 : Nat) (y4 : Nat) (y5 : Nat) (y6 : Nat) (y7 : Nat) (y8 : Nat) (y9 : Nat) (y10 : Nat) (y11 : Nat) (y12 : Nat) (y13 : Nat) (y14 : Nat) (y15 : Nat) (y16 : Nat) (y17 : Nat) (y18 : Nat) (y19 : Nat) (y20 : Nat) (y21 : Nat) (y22 : Nat) (y23 : Nat) (y24 : Nat) (y25 : Nat) (y26 : Nat) (y27 : Nat) (y28 : Nat) (y29 : Nat) (y30 : Nat) (y31 : Nat) (y32 : Nat) (y33 : Nat) (y34 : Nat) (y35 : Nat) (y36 : Nat) (y37 : Nat) (y38 : Nat) (sz : Nat)  : Met l ⟨"PromiseChainsModel", "even", "()I"⟩ (mw ⟨"PromiseChainsModel", "even", "()I"⟩ prog_9_method_48_code 2 (some .int)) ({ frames := 1, cells := 0, slots := 0, locals := 21 }) (va_Pc [.ref y] (PB D cI cZ sz [(y, .inr (7, [.int 2, .int 0, .int 3, .int 5, .ref y1, .ref y2, .ref y3, .ref y4, .int 0, .ref y5, .ref y6, .ref y7, .ref y8, .ref y9, .ref y10, .ref y11, .ref y12, .ref y13, .ref y14, .ref y15, .int 0, .ref y16, .ref y17, .ref y18, .ref y19, .ref y20, .ref y21, .ref y22, .ref y23, .ref y24, .ref y25, .ref y26, .ref y27, .int 0, .int 0, .ref y28, .ref y29, .ref y30, .ref y31, .ref y32, .ref y33, .ref y34, .ref y35, .ref y36, .int 0, .ref y37, .ref y38, .int 0, .int 0, .int 0]))])) (va_Qi (S := Unit) (fun (r : Int32) uU => r = -3) (fun uU tT => BB D (va_A [(y, .inr (7, [.int 2, .int 0, .int 3, .int 5, .ref y1, .ref y2, .ref y3, .ref y4, .int 0, .ref y5, .ref y6, .ref y7, .ref y8, .ref y9, .ref y10, .ref y11, .ref y12, .ref y13, .ref y14, .ref y15, .int 0, .ref y16, .ref y17, .ref y18, .ref y19, .ref y20, .ref y21, .ref y22, .ref y23, .ref y24, .ref y25, .ref y26, .ref y27, .int 0, .int 0, .ref y28, .ref y29, .ref y30, .ref y31, .ref y32, .ref y33, .ref y34, .ref y35, .ref y36, .int 0, .ref y37, .ref y38, .int 0, .int 0, .int 0]))] sz) [] tT) (va_A [(y, .inr (7, [.int 2, .int 0, .int 3, .int 5, .ref y1, .ref y2, .ref y3, .ref y4, .int 0, .ref y5, .ref y6, .ref y7, .ref y8, .ref y9, .ref y10, .ref y11, .ref y12, .ref y13, .ref y14, .ref y15, .int 0, .ref y16, .ref y17, .ref y18, .ref y19, .ref y20, .ref y21, .ref y22, .ref y23, .ref y24, .ref y25, .ref y26, .ref y27, .int 0, .int 0, .ref y28, .ref y29, .ref y30, .ref y31, .ref y32, .ref y33, .ref y34, .ref y35, .ref y36, .int 0, .ref y37, .ref y38, .int 0, .int 0, .int 0]))] sz)) 0 0 (va_A [(y, .inr (7, [.int 2, .int 0, .int 3, .int 5, .ref y1, .ref y2, .ref y3, .ref y4, .int 0, .ref y5, .ref y6, .ref y7, .ref y8, .ref y9, .ref y10, .ref y11, .ref y12, .ref y13, .ref y14, .ref y15, .int 0, .ref y16, .ref y17, .ref y18, .ref y19, .ref y20, .ref y21, .ref y22, .ref y23, .ref y24, .ref y25, .ref y26, .ref y27, .int 0, .int 0, .ref y28, .ref y29, .ref y30, .ref y31, .ref y32, .ref y33, .ref y34, .ref y35, .ref y36, .int 0, .ref y37, .ref y38, .int 0, .int 0, .int 0]))] sz) := by
  refine Met.ofW (cc := prog_9_method_48_code) (maxL := 2) (ret := (some .int)) (by decide) rfl ?_
  intro p e s m args below meth c s₁ B hml hv
  obtain ⟨rfl, hsz, hP, hK, hD0, hN⟩ := hv
  have hx := B.exec
  have hb := B.bytes
  have hr := B.returns
  have hts0 := atoms_spec (ws := mw ⟨"PromiseChainsModel", "even", "()I"⟩ prog_9_method_48_code 2 (some .int)) B.pre
  have hts : ∀ w ∈ tblG, w.before _ s = true := fun w h => hts0 w (List.mem_cons_of_mem _ h)
  have hown : s.vm.findClass "PromiseChainsModel" = some m.cls := findClass_of_methodNamed B.named
  have hlocks := B.notSynchronized
  subst hsz
  have hD := hD0.self (sz := s.heap.size)
  generalize hAe : va_A [(y, .inr (7, [.int 2, .int 0, .int 3, .int 5, .ref y1, .ref y2, .ref y3, .ref y4, .int 0, .ref y5, .ref y6, .ref y7, .ref y8, .ref y9, .ref y10, .ref y11, .ref y12, .ref y13, .ref y14, .ref y15, .int 0, .ref y16, .ref y17, .ref y18, .ref y19, .ref y20, .ref y21, .ref y22, .ref y23, .ref y24, .ref y25, .ref y26, .ref y27, .int 0, .int 0, .ref y28, .ref y29, .ref y30, .ref y31, .ref y32, .ref y33, .ref y34, .ref y35, .ref y36, .int 0, .ref y37, .ref y38, .int 0, .int 0, .int 0]))] s.heap.size = A at hD ⊢
  have hA : ∀ q : Nat, s.heap.size ≤ q → A q := fun q h => by rw [← hAe]; exact Or.inr h
  have hS : va_S A s.heap s.heap [] := va_S.rf
  have hP : va_P D vwCl [(y, .inr (7, [.int 2, .int 0, .int 3, .int 5, .ref y1, .ref y2, .ref y3, .ref y4, .int 0, .ref y5, .ref y6, .ref y7, .ref y8, .ref y9, .ref y10, .ref y11, .ref y12, .ref y13, .ref y14, .ref y15, .int 0, .ref y16, .ref y17, .ref y18, .ref y19, .ref y20, .ref y21, .ref y22, .ref y23, .ref y24, .ref y25, .ref y26, .ref y27, .int 0, .int 0, .ref y28, .ref y29, .ref y30, .ref y31, .ref y32, .ref y33, .ref y34, .ref y35, .ref y36, .int 0, .ref y37, .ref y38, .int 0, .int 0, .int 0]))] s.heap := hP
  have hl := lv_entry ([.ref y]) (n := 2) (Nat.le_of_ble_eq_true rfl)
  rw [lg_entry_eq]
  generalize (lg_sl ([.ref y]) ++ List.replicate (2 - (lg_sl ([.ref y])).length) Slot.unset).toArray = ls at hl ⊢
  have hl : lv_has ls 2 [(0, .ref y)] := hl
  refine lv_aload_n hx hb d_MO_even_0 rfl (lv_at hl 0 rfl) ?_
  have hPc := hP.sub (ws' := [(y, .inr (7, [.int 2, .int 0, .int 3, .int 5, .ref y1, .ref y2, .ref y3, .ref y4, .int 0, .ref y5, .ref y6, .ref y7, .ref y8, .ref y9, .ref y10, .ref y11, .ref y12, .ref y13, .ref y14, .ref y15, .int 0, .ref y16, .ref y17, .ref y18, .ref y19, .ref y20, .ref y21, .ref y22, .ref y23, .ref y24, .ref y25, .ref y26, .ref y27, .int 0, .int 0, .ref y28, .ref y29, .ref y30, .ref y31, .ref y32, .ref y33, .ref y34, .ref y35, .ref y36, .int 0, .ref y37, .ref y38, .int 0, .int 0, .int 0]))]) [0] rfl
  have hDc := hD.sub (ws' := [(y, .inr (7, [.int 2, .int 0, .int 3, .int 5, .ref y1, .ref y2, .ref y3, .ref y4, .int 0, .ref y5, .ref y6, .ref y7, .ref y8, .ref y9, .ref y10, .ref y11, .ref y12, .ref y13, .ref y14, .ref y15, .int 0, .ref y16, .ref y17, .ref y18, .ref y19, .ref y20, .ref y21, .ref y22, .ref y23, .ref y24, .ref y25, .ref y26, .ref y27, .int 0, .int 0, .ref y28, .ref y29, .ref y30, .ref y31, .ref y32, .ref y33, .ref y34, .ref y35, .ref y36, .int 0, .ref y37, .ref y38, .int 0, .int 0, .int 0]))]) [0] (by decide) rfl
  have hFc := va_free (wc := [(y, .inr (7, [.int 2, .int 0, .int 3, .int 5, .ref y1, .ref y2, .ref y3, .ref y4, .int 0, .ref y5, .ref y6, .ref y7, .ref y8, .ref y9, .ref y10, .ref y11, .ref y12, .ref y13, .ref y14, .ref y15, .int 0, .ref y16, .ref y17, .ref y18, .ref y19, .ref y20, .ref y21, .ref y22, .ref y23, .ref y24, .ref y25, .ref y26, .ref y27, .int 0, .int 0, .ref y28, .ref y29, .ref y30, .ref y31, .ref y32, .ref y33, .ref y34, .ref y35, .ref y36, .int 0, .ref y37, .ref y38, .int 0, .int 0, .int 0]))]) hD hS hA [0] rfl
  refine va_callv (va_runV (As := []) (rest := []) ⟨hx, hb, hml, hown, hts⟩ (f_MO_findRing l D cI cZ y y1 y2 y3 y4 y5 y6 y7 y8 y9 y10 y11 y12 y13 y14 y15 y16 y17 y18 y19 y20 y21 y22 y23 y24 y25 y26 y27 y28 y29 y30 y31 y32 y33 y34 y35 y36 y37 y38 s.heap.size ) (my_cwV 0 hts q_941 q_938 q_940 q_p22 q_8 rfl rfl (by decide +kernel) ⟨Nat.le_of_ble_eq_true rfl, Nat.le_of_ble_eq_true rfl⟩) (my_preV hPc hDc hK hN 7 0 rfl rfl) rfl rfl hl.1 rfl (lv_room (Nat.le_of_ble_eq_true rfl)) d_MO_even_1 ⟨Nat.le_of_ble_eq_true rfl, Nat.le_of_ble_eq_true rfl⟩) hS (fun q _ h => hFc q h) hFc (fun uU tT H_2 locs ht hvm hw_1 hB hz1 hk1 hS => ?_)
  obtain ⟨hP1, hD1⟩ := hB
  rw [ht] at hP1
  obtain ⟨hP, hD⟩ := va_join (wr := []) (w1 := [(y, .inr (7, [.int 2, .int 0, .int 3, .int 5, .ref y1, .ref y2, .ref y3, .ref y4, .int 0, .ref y5, .ref y6, .ref y7, .ref y8, .ref y9, .ref y10, .ref y11, .ref y12, .ref y13, .ref y14, .ref y15, .int 0, .ref y16, .ref y17, .ref y18, .ref y19, .ref y20, .ref y21, .ref y22, .ref y23, .ref y24, .ref y25, .ref y26, .ref y27, .int 0, .int 0, .ref y28, .ref y29, .ref y30, .ref y31, .ref y32, .ref y33, .ref y34, .ref y35, .ref y36, .int 0, .ref y37, .ref y38, .int 0, .int 0, .int 0]))]) hP hD [0] [] rfl rfl (by decide) (by decide) hk1 hFc hP1 hD1
  have hP : va_P D vwCl [(y, .inr (7, [.int 2, .int 0, .int 3, .int 5, .ref y1, .ref y2, .ref y3, .ref y4, .int 0, .ref y5, .ref y6, .ref y7, .ref y8, .ref y9, .ref y10, .ref y11, .ref y12, .ref y13, .ref y14, .ref y15, .int 0, .ref y16, .ref y17, .ref y18, .ref y19, .ref y20, .ref y21, .ref y22, .ref y23, .ref y24, .ref y25, .ref y26, .ref y27, .int 0, .int 0, .ref y28, .ref y29, .ref y30, .ref y31, .ref y32, .ref y33, .ref y34, .ref y35, .ref y36, .int 0, .ref y37, .ref y38, .int 0, .int 0, .int 0]))] H_2 := hP
  have hD : va_D A [(y, .inr (7, [.int 2, .int 0, .int 3, .int 5, .ref y1, .ref y2, .ref y3, .ref y4, .int 0, .ref y5, .ref y6, .ref y7, .ref y8, .ref y9, .ref y10, .ref y11, .ref y12, .ref y13, .ref y14, .ref y15, .int 0, .ref y16, .ref y17, .ref y18, .ref y19, .ref y20, .ref y21, .ref y22, .ref y23, .ref y24, .ref y25, .ref y26, .ref y27, .int 0, .int 0, .ref y28, .ref y29, .ref y30, .ref y31, .ref y32, .ref y33, .ref y34, .ref y35, .ref y36, .int 0, .ref y37, .ref y38, .int 0, .int 0, .int 0]))] := hD
  refine lv_aload_n hx hb d_MO_even_4 rfl (lv_at hl 0 rfl) ?_
  refine va_get (D := D) (ci := 7) (v := .int 0) (C := R_MO) (T := F_MO) (N := 50) hx hb hts i_MO hown hK hP 0 rfl rfl 47 (by decide) (hts _ q_679) (fun _ h9 => h9) rfl d_MO_even_5 ?_
  refine lv_if_ne (tgt := 14) hx hb d_MO_even_8 (by decide) (fun h => absurd h (by decide)) (fun _ => ?_)
  refine lv_bipush (v := (-3)) hx hb d_MO_even_11 (by decide) ?_
  have hP9 := hP.sub (ws' := []) [] rfl
  have hD9 := hD.sub (ws' := []) [] (by decide) rfl
  refine W.widen (k := 0) (n := 0) (Nat.le_of_ble_eq_true rfl) (Nat.le_of_ble_eq_true rfl) ?_
  exact W.iret (v := (-3)) hx hb hr (fun t ht hW => ⟨⟨(-3), (), rfl, rfl, by rw [ht]; exact hP9, hD9⟩, hS.F ht⟩) hS.2.2 d_MO_even_13

set_option maxHeartbeats 4000000 in
set_option maxRecDepth 100000 in
theorem f_MO_tries (l : Launch) (D : va_G) (cI cZ : ClassId) (y : Nat) (i : Int32) (y1 : Nat) (y2 : Nat) (y3 : Nat) (y4 : Nat) (y5 : Nat) (y6 : Nat) (y7 : Nat) (y8 : Nat) (y9 : Nat) (y10 : Nat) (y11 : Nat) (y12 : Nat) (y13 : Nat) (y14 : Nat) (y15 : Nat) (y16 : Nat) (y17 : Nat) (y18 : Nat) (y19 : Nat) (y20 : Nat) (y21 : Nat) (y22 : Nat) (y23 : Nat) (y24 : Nat) (y25 : Nat) (y26 : Nat) (y27 : Nat) (y28 : Nat) (y29 : Nat) (y30 : Nat) (y31 : Nat) (y32 : Nat) (y33 : Nat) (y34 : Nat) (y35 : Nat) (y36 : Nat) (y37 : Nat) (y38 : Nat) (sz : Nat)  : Met l ⟨"PromiseChainsModel", "tries", "(I)I"⟩ (mw ⟨"PromiseChainsModel", "tries", "(I)I"⟩ prog_9_method_49_code 7 (some .int)) ({ frames := 1, cells := 0, slots := 0, locals := 22 }) (va_Pc [.ref y, .int i] (PB D cI cZ sz [(y, .inr (7, [.int 2, .int 0, .int 3, .int 5, .ref y1, .ref y2, .ref y3, .ref y4, .int 0, .ref y5, .ref y6, .ref y7, .ref y8, .ref y9, .ref y10, .ref y11, .ref y12, .ref y13, .ref y14, .ref y15, .int 0, .ref y16, .ref y17, .ref y18, .ref y19, .ref y20, .ref y21, .ref y22, .ref y23, .ref y24, .ref y25, .ref y26, .ref y27, .int 0, .int 0, .ref y28, .ref y29, .ref y30, .ref y31, .ref y32, .ref y33, .ref y34, .ref y35, .ref y36, .int 0, .ref y37, .ref y38, .int 0, .int 0, .int 0]))])) (vp_Si (fun r => r = sp_tries i)) 0 0 (fun _ => False) := by
  refine Met.ofW (cc := prog_9_method_49_code) (maxL := 7) (ret := (some .int)) (by decide) rfl ?_
  intro p e s m args below meth c s₁ B hml hv
  obtain ⟨rfl, hsz, hP, hK, hD0, hN⟩ := hv
  have hx := B.exec
  have hb := B.bytes
  have hr := B.returns
  have hts0 := atoms_spec (ws := mw ⟨"PromiseChainsModel", "tries", "(I)I"⟩ prog_9_method_49_code 7 (some .int)) B.pre
  have hts : ∀ w ∈ tblG, w.before _ s = true := fun w h => hts0 w (List.mem_cons_of_mem _ h)
  have hown : s.vm.findClass "PromiseChainsModel" = some m.cls := findClass_of_methodNamed B.named
  have hlocks := B.notSynchronized
  subst hsz
  have hD := hD0
  have hP : va_P D vwCl [(y, .inr (7, [.int 2, .int 0, .int 3, .int 5, .ref y1, .ref y2, .ref y3, .ref y4, .int 0, .ref y5, .ref y6, .ref y7, .ref y8, .ref y9, .ref y10, .ref y11, .ref y12, .ref y13, .ref y14, .ref y15, .int 0, .ref y16, .ref y17, .ref y18, .ref y19, .ref y20, .ref y21, .ref y22, .ref y23, .ref y24, .ref y25, .ref y26, .ref y27, .int 0, .int 0, .ref y28, .ref y29, .ref y30, .ref y31, .ref y32, .ref y33, .ref y34, .ref y35, .ref y36, .int 0, .ref y37, .ref y38, .int 0, .int 0, .int 0]))] s.heap := hP
  have hl := lv_entry ([.ref y, .int i]) (n := 7) (Nat.le_of_ble_eq_true rfl)
  rw [lg_entry_eq]
  generalize (lg_sl ([.ref y, .int i]) ++ List.replicate (7 - (lg_sl ([.ref y, .int i])).length) Slot.unset).toArray = ls at hl ⊢
  have hl : lv_has ls 7 [(0, .ref y), (1, .int i)] := hl
  refine lv_iload_n hx hb d_MO_tries_0 rfl (lv_at hl 1 rfl) ?_
  refine lv_iconst (v := 1) hx hb d_MO_tries_1 (by decide) ?_
  refine lv_ldc hx hb hown (hts _ q_971) d_MO_tries_2 ?_
  have hPc := hP.sub (ws' := []) [] rfl
  have hDc := hD.sub (ws' := []) [] (by decide) rfl
  refine vp_callSi (va_Run.run (va_runS (As := [.int i, .int 1, .int 200000]) (rest := []) ⟨hx, hb, hml, hown, hts⟩ (c_in l D cI cZ i 1 200000 s.heap.size ) (my_cwS 3 hts q_789 q_787 q_788 q_8 rfl rfl (by decide +kernel) ⟨Nat.le_of_ble_eq_true rfl, Nat.le_of_ble_eq_true rfl⟩) (my_preS hPc hDc hK hN) rfl rfl hl.1 rfl (lv_room (Nat.le_of_ble_eq_true rfl)) d_MO_tries_4 ⟨Nat.le_of_ble_eq_true rfl, Nat.le_of_ble_eq_true rfl⟩)) (fun r_1 hw_1 => ?_)
  have hw_1 : r_1 = isw i 1 200000 := hw_1
  subst hw_1
  refine lv_if_ne (tgt := 13) hx hb d_MO_tries_7 (by decide) (fun h_2 => ?_) (fun h_2 => ?_)
  · refine lv_aload_n hx hb d_MO_tries_13 rfl (lv_at hl 0 rfl) ?_
    refine va_get (D := D) (ci := 7) (v := .int 0) (C := R_MO) (T := F_MO) (N := 50) hx hb hts i_MO hown hK hP 0 rfl rfl 33 (by decide) (hts _ q_665) (fun _ h9 => h9) rfl d_MO_tries_14 ?_
    refine lv_if_ne (tgt := 23) hx hb d_MO_tries_17 (by decide) (fun h => absurd h (by decide)) (fun _ => ?_)
    refine lv_bipush (v := (-3)) hx hb d_MO_tries_20 (by decide) ?_
    exact W.iret (v := (-3)) hx hb hr (fun t ht hW => ⟨(-3), rfl, (by first | decide | simp [sp_tries, h_2]), ht⟩) (fun q h => absurd h List.not_mem_nil) d_MO_tries_22
  · refine lv_bipush (v := (-2)) hx hb d_MO_tries_10 (by decide) ?_
    exact W.iret (v := (-2)) hx hb hr (fun t ht hW => ⟨(-2), rfl, (by first | decide | simp [sp_tries, h_2]), ht⟩) (fun q h => absurd h List.not_mem_nil) d_MO_tries_12

set_option maxHeartbeats 4000000 in
set_option maxRecDepth 100000 in
theorem f_MO_count (l : Launch) (D : va_G) (cI cZ : ClassId) (y : Nat) (i : Int32) (y1 : Nat) (y2 : Nat) (y3 : Nat) (y4 : Nat) (y5 : Nat) (y6 : Nat) (y7 : Nat) (y8 : Nat) (y9 : Nat) (y10 : Nat) (y11 : Nat) (y12 : Nat) (y13 : Nat) (y14 : Nat) (y15 : Nat) (y16 : Nat) (y17 : Nat) (y18 : Nat) (y19 : Nat) (y20 : Nat) (y21 : Nat) (y22 : Nat) (y23 : Nat) (y24 : Nat) (y25 : Nat) (y26 : Nat) (y27 : Nat) (y28 : Nat) (y29 : Nat) (y30 : Nat) (y31 : Nat) (y32 : Nat) (y33 : Nat) (y34 : Nat) (y35 : Nat) (y36 : Nat) (y37 : Nat) (y38 : Nat) (sz : Nat)  : Met l ⟨"PromiseChainsModel", "count", "(I)I"⟩ (mw ⟨"PromiseChainsModel", "count", "(I)I"⟩ prog_9_method_51_code 4 (some .int)) ({ frames := 0, cells := 0, slots := 0, locals := 0 }) (va_Pc [.ref y, .int i] (PB D cI cZ sz [(y, .inr (7, [.int 2, .int 0, .int 3, .int 5, .ref y1, .ref y2, .ref y3, .ref y4, .int 0, .ref y5, .ref y6, .ref y7, .ref y8, .ref y9, .ref y10, .ref y11, .ref y12, .ref y13, .ref y14, .ref y15, .int 0, .ref y16, .ref y17, .ref y18, .ref y19, .ref y20, .ref y21, .ref y22, .ref y23, .ref y24, .ref y25, .ref y26, .ref y27, .int 0, .int 0, .ref y28, .ref y29, .ref y30, .ref y31, .ref y32, .ref y33, .ref y34, .ref y35, .ref y36, .int 0, .ref y37, .ref y38, .int 0, .int 0, .int 0])), (y1, .inl (cZ, 7, .inl (fun _ => 0)))])) (vp_Si (fun r => r = sp_count i)) 0 0 (fun _ => False) := by
  refine Met.ofW (cc := prog_9_method_51_code) (maxL := 4) (ret := (some .int)) (by decide) rfl ?_
  intro p e s m args below meth c s₁ B hml hv
  obtain ⟨rfl, hsz, hP, hK, hD0, hN⟩ := hv
  have hx := B.exec
  have hb := B.bytes
  have hr := B.returns
  have hts0 := atoms_spec (ws := mw ⟨"PromiseChainsModel", "count", "(I)I"⟩ prog_9_method_51_code 4 (some .int)) B.pre
  have hts : ∀ w ∈ tblG, w.before _ s = true := fun w h => hts0 w (List.mem_cons_of_mem _ h)
  have hown : s.vm.findClass "PromiseChainsModel" = some m.cls := findClass_of_methodNamed B.named
  have hlocks := B.notSynchronized
  subst hsz
  have hD := hD0
  have hP : va_P D vwCl [(y, .inr (7, [.int 2, .int 0, .int 3, .int 5, .ref y1, .ref y2, .ref y3, .ref y4, .int 0, .ref y5, .ref y6, .ref y7, .ref y8, .ref y9, .ref y10, .ref y11, .ref y12, .ref y13, .ref y14, .ref y15, .int 0, .ref y16, .ref y17, .ref y18, .ref y19, .ref y20, .ref y21, .ref y22, .ref y23, .ref y24, .ref y25, .ref y26, .ref y27, .int 0, .int 0, .ref y28, .ref y29, .ref y30, .ref y31, .ref y32, .ref y33, .ref y34, .ref y35, .ref y36, .int 0, .ref y37, .ref y38, .int 0, .int 0, .int 0])), (y1, .inl (cZ, 7, .inl (fun _ => 0)))] s.heap := hP
  have hl := lv_entry ([.ref y, .int i]) (n := 4) (Nat.le_of_ble_eq_true rfl)
  rw [lg_entry_eq]
  generalize (lg_sl ([.ref y, .int i]) ++ List.replicate (4 - (lg_sl ([.ref y, .int i])).length) Slot.unset).toArray = ls at hl ⊢
  have hl : lv_has ls 4 [(0, .ref y), (1, .int i)] := hl
  refine lv_iconst (v := 0) hx hb d_MO_count_0 (by decide) ?_
  refine lv_istore_n (lv' := [(2, .int 0), (0, .ref y), (1, .int i)]) hx hb d_MO_count_1 rfl hl (by decide) rfl (fun ls hl => ?_)
  refine lv_iload_n hx hb d_MO_count_2 rfl (lv_at hl 2 rfl) ?_
  by_cases hz_1 : i = 0
  · subst hz_1
    refine lv_tableIn (off := 45) (tgt := 48) hx hb d_MO_count_3 (by decide) (by decide) (by decide) (by decide) ?_
    refine lv_aload_n hx hb d_MO_count_48 rfl (lv_at hl 1 rfl) ?_
    refine va_get (D := D) (ci := 7) (v := .int 2) (C := R_MO) (T := F_MO) (N := 50) hx hb hts i_MO hown hK hP 0 rfl rfl 0 (by decide) (hts _ q_632) (fun _ h9 => h9) rfl d_MO_count_49 ?_
    exact W.iret (v := 2) hx hb hr (fun t ht hW => ⟨2, rfl, (by first | decide | simp [sp_count]), ht⟩) (fun q h => absurd h List.not_mem_nil) d_MO_count_52
  by_cases hz_2 : i = 1
  · subst hz_2
    refine lv_tableIn (off := 50) (tgt := 53) hx hb d_MO_count_3 (by decide) (by decide) (by decide) (by decide) ?_
    refine lv_aload_n hx hb d_MO_count_53 rfl (lv_at hl 1 rfl) ?_
    refine va_get (D := D) (ci := 7) (v := .int 0) (C := R_MO) (T := F_MO) (N := 50) hx hb hts i_MO hown hK hP 0 rfl rfl 8 (by decide) (hts _ q_640) (fun _ h9 => h9) rfl d_MO_count_54 ?_
    exact W.iret (v := 0) hx hb hr (fun t ht hW => ⟨0, rfl, (by first | decide | simp [sp_count, (Ne.symm hz_1)]), ht⟩) (fun q h => absurd h List.not_mem_nil) d_MO_count_57
  by_cases hz_3 : i = 2
  · subst hz_3
    refine lv_tableIn (off := 55) (tgt := 58) hx hb d_MO_count_3 (by decide) (by decide) (by decide) (by decide) ?_
    refine lv_aload_n hx hb d_MO_count_58 rfl (lv_at hl 1 rfl) ?_
    refine va_get (D := D) (ci := 7) (v := .int 0) (C := R_MO) (T := F_MO) (N := 50) hx hb hts i_MO hown hK hP 0 rfl rfl 20 (by decide) (hts _ q_652) (fun _ h9 => h9) rfl d_MO_count_59 ?_
    exact W.iret (v := 0) hx hb hr (fun t ht hW => ⟨0, rfl, (by first | decide | simp [sp_count, (Ne.symm hz_1), (Ne.symm hz_2)]), ht⟩) (fun q h => absurd h List.not_mem_nil) d_MO_count_62
  by_cases hz_4 : i = 3
  · subst hz_4
    refine lv_tableIn (off := 60) (tgt := 63) hx hb d_MO_count_3 (by decide) (by decide) (by decide) (by decide) ?_
    refine lv_iconst (v := 0) hx hb d_MO_count_63 (by decide) ?_
    refine lv_istore_n (lv' := [(3, .int 0), (2, .int 0), (0, .ref y), (1, .int 3)]) hx hb d_MO_count_64 rfl hl (by decide) rfl (fun ls hl => ?_)
    refine lv_iload_n hx hb d_MO_count_65 rfl (lv_at hl 0 rfl) ?_
    refine lv_aload_n hx hb d_MO_count_66 rfl (lv_at hl 2 rfl) ?_
    refine va_get (D := D) (ci := 7) (v := .int 0) (C := R_MO) (T := F_MO) (N := 50) hx hb hts i_MO hown hK hP 0 rfl rfl 20 (by decide) (hts _ q_652) (fun _ h9 => h9) rfl d_MO_count_67 ?_
    refine lv_icmp_ge (tgt := 102) hx hb d_MO_count_70 (by decide) (fun _ => ?_) (fun h => absurd h (by decide))
    refine lv_iload_n hx hb d_MO_count_102 rfl (lv_at hl 1 rfl) ?_
    exact W.iret (v := 0) hx hb hr (fun t ht hW => ⟨0, rfl, (by first | decide | simp [sp_count, (Ne.symm hz_1), (Ne.symm hz_2), (Ne.symm hz_3)]), ht⟩) (fun q h => absurd h List.not_mem_nil) d_MO_count_103
  by_cases hz_6 : i = 4
  · subst hz_6
    refine lv_tableIn (off := 101) (tgt := 104) hx hb d_MO_count_3 (by decide) (by decide) (by decide) (by decide) ?_
    refine lv_aload_n hx hb d_MO_count_104 rfl (lv_at hl 1 rfl) ?_
    refine va_get (D := D) (ci := 7) (v := .int 0) (C := R_MO) (T := F_MO) (N := 50) hx hb hts i_MO hown hK hP 0 rfl rfl 1 (by decide) (hts _ q_633) (fun _ h9 => h9) rfl d_MO_count_105 ?_
    exact W.iret (v := 0) hx hb hr (fun t ht hW => ⟨0, rfl, (by first | decide | simp [sp_count, (Ne.symm hz_1), (Ne.symm hz_2), (Ne.symm hz_3), (Ne.symm hz_4)]), ht⟩) (fun q h => absurd h List.not_mem_nil) d_MO_count_108
  by_cases hz_7 : i = 5
  · subst hz_7
    refine lv_tableIn (off := 106) (tgt := 109) hx hb d_MO_count_3 (by decide) (by decide) (by decide) (by decide) ?_
    refine lv_aload_n hx hb d_MO_count_109 rfl (lv_at hl 1 rfl) ?_
    refine va_get (D := D) (ci := 7) (v := .int 3) (C := R_MO) (T := F_MO) (N := 50) hx hb hts i_MO hown hK hP 0 rfl rfl 2 (by decide) (hts _ q_634) (fun _ h9 => h9) rfl d_MO_count_110 ?_
    exact W.iret (v := 3) hx hb hr (fun t ht hW => ⟨3, rfl, (by first | decide | simp [sp_count, (Ne.symm hz_1), (Ne.symm hz_2), (Ne.symm hz_3), (Ne.symm hz_4), (Ne.symm hz_6)]), ht⟩) (fun q h => absurd h List.not_mem_nil) d_MO_count_113
  by_cases hz_8 : i = 6
  · subst hz_8
    refine lv_tableIn (off := 111) (tgt := 114) hx hb d_MO_count_3 (by decide) (by decide) (by decide) (by decide) ?_
    refine lv_aload_n hx hb d_MO_count_114 rfl (lv_at hl 1 rfl) ?_
    refine va_get (D := D) (ci := 7) (v := .int 5) (C := R_MO) (T := F_MO) (N := 50) hx hb hts i_MO hown hK hP 0 rfl rfl 3 (by decide) (hts _ q_635) (fun _ h9 => h9) rfl d_MO_count_115 ?_
    exact W.iret (v := 5) hx hb hr (fun t ht hW => ⟨5, rfl, (by first | decide | simp [sp_count, (Ne.symm hz_1), (Ne.symm hz_2), (Ne.symm hz_3), (Ne.symm hz_4), (Ne.symm hz_6), (Ne.symm hz_7)]), ht⟩) (fun q h => absurd h List.not_mem_nil) d_MO_count_118
  by_cases hz_9 : i = 7
  · subst hz_9
    refine lv_tableIn (off := 116) (tgt := 119) hx hb d_MO_count_3 (by decide) (by decide) (by decide) (by decide) ?_
    refine lv_iconst (v := 0) hx hb d_MO_count_119 (by decide) ?_
    refine lv_istore_n (lv' := [(3, .int 0), (2, .int 0), (0, .ref y), (1, .int 7)]) hx hb d_MO_count_120 rfl hl (by decide) rfl (fun ls hl => ?_)
    refine lv_iload_n hx hb d_MO_count_121 rfl (lv_at hl 0 rfl) ?_
    refine lv_aload_n hx hb d_MO_count_122 rfl (lv_at hl 2 rfl) ?_
    refine va_get (D := D) (ci := 7) (v := .int 2) (C := R_MO) (T := F_MO) (N := 50) hx hb hts i_MO hown hK hP 0 rfl rfl 0 (by decide) (hts _ q_632) (fun _ h9 => h9) rfl d_MO_count_123 ?_
    refine lv_icmp_ge (tgt := 152) hx hb d_MO_count_126 (by decide) (fun h => absurd h (by decide)) (fun _ => ?_)
    refine lv_iload_n hx hb d_MO_count_129 rfl (lv_at hl 1 rfl) ?_
    refine lv_aload_n hx hb d_MO_count_130 rfl (lv_at hl 2 rfl) ?_
    refine va_get (D := D) (ci := 7) (v := .ref y1) (C := R_MO) (T := F_MO) (N := 50) hx hb hts i_MO hown hK hP 0 rfl rfl 4 (by decide) (hts _ q_636) (fun _ h9 => h9) rfl d_MO_count_131 ?_
    refine lv_iload_n hx hb d_MO_count_134 rfl (lv_at hl 0 rfl) ?_
    refine va_zald hx hb hK hP 1 1 rfl rfl (by unfold vp_in; decide) d_MO_count_135 ?_
    refine lv_seti (0) (rfl) ?_
    refine lv_if_eq (tgt := 143) hx hb d_MO_count_136 (by decide) (fun _ => ?_) (fun h => absurd h (by decide))
    refine lv_iconst (v := 0) hx hb d_MO_count_143 (by decide) ?_
    refine lv_iadd hx hb d_MO_count_144 ?_
    refine lv_seti (0) (by decide) ?_
    refine lv_istore_n (lv' := [(2, .int 0), (3, .int 0), (0, .ref y), (1, .int 7)]) hx hb d_MO_count_145 rfl hl (by decide) rfl (fun ls hl => ?_)
    refine lv_iinc (v := 1) (lv' := [(3, .int 1), (2, .int 0), (0, .ref y), (1, .int 7)]) hx hb d_MO_count_146 hl (k := 1) rfl (by decide) (by decide) rfl (fun ls hl => ?_)
    refine lv_goto (tgt := 121) hx hb d_MO_count_149 (by decide) ?_
    refine lv_iload_n hx hb d_MO_count_121 rfl (lv_at hl 0 rfl) ?_
    refine lv_aload_n hx hb d_MO_count_122 rfl (lv_at hl 2 rfl) ?_
    refine va_get (D := D) (ci := 7) (v := .int 2) (C := R_MO) (T := F_MO) (N := 50) hx hb hts i_MO hown hK hP 0 rfl rfl 0 (by decide) (hts _ q_632) (fun _ h9 => h9) rfl d_MO_count_123 ?_
    refine lv_icmp_ge (tgt := 152) hx hb d_MO_count_126 (by decide) (fun h => absurd h (by decide)) (fun _ => ?_)
    refine lv_iload_n hx hb d_MO_count_129 rfl (lv_at hl 1 rfl) ?_
    refine lv_aload_n hx hb d_MO_count_130 rfl (lv_at hl 2 rfl) ?_
    refine va_get (D := D) (ci := 7) (v := .ref y1) (C := R_MO) (T := F_MO) (N := 50) hx hb hts i_MO hown hK hP 0 rfl rfl 4 (by decide) (hts _ q_636) (fun _ h9 => h9) rfl d_MO_count_131 ?_
    refine lv_iload_n hx hb d_MO_count_134 rfl (lv_at hl 0 rfl) ?_
    refine va_zald hx hb hK hP 1 1 rfl rfl (by unfold vp_in; decide) d_MO_count_135 ?_
    refine lv_seti (0) (rfl) ?_
    refine lv_if_eq (tgt := 143) hx hb d_MO_count_136 (by decide) (fun _ => ?_) (fun h => absurd h (by decide))
    refine lv_iconst (v := 0) hx hb d_MO_count_143 (by decide) ?_
    refine lv_iadd hx hb d_MO_count_144 ?_
    refine lv_seti (0) (by decide) ?_
    refine lv_istore_n (lv' := [(2, .int 0), (3, .int 1), (0, .ref y), (1, .int 7)]) hx hb d_MO_count_145 rfl hl (by decide) rfl (fun ls hl => ?_)
    refine lv_iinc (v := 2) (lv' := [(3, .int 2), (2, .int 0), (0, .ref y), (1, .int 7)]) hx hb d_MO_count_146 hl (k := 1) rfl (by decide) (by decide) rfl (fun ls hl => ?_)
    refine lv_goto (tgt := 121) hx hb d_MO_count_149 (by decide) ?_
    refine lv_iload_n hx hb d_MO_count_121 rfl (lv_at hl 0 rfl) ?_
    refine lv_aload_n hx hb d_MO_count_122 rfl (lv_at hl 2 rfl) ?_
    refine va_get (D := D) (ci := 7) (v := .int 2) (C := R_MO) (T := F_MO) (N := 50) hx hb hts i_MO hown hK hP 0 rfl rfl 0 (by decide) (hts _ q_632) (fun _ h9 => h9) rfl d_MO_count_123 ?_
    refine lv_icmp_ge (tgt := 152) hx hb d_MO_count_126 (by decide) (fun _ => ?_) (fun h => absurd h (by decide))
    refine lv_iload_n hx hb d_MO_count_152 rfl (lv_at hl 1 rfl) ?_
    exact W.iret (v := 0) hx hb hr (fun t ht hW => ⟨0, rfl, (by first | decide | simp [sp_count, (Ne.symm hz_1), (Ne.symm hz_2), (Ne.symm hz_3), (Ne.symm hz_4), (Ne.symm hz_6), (Ne.symm hz_7), (Ne.symm hz_8)]), ht⟩) (fun q h => absurd h List.not_mem_nil) d_MO_count_153
  refine lv_tableOut (tgt := 154) hx hb d_MO_count_3 (tb_out 8 (by decide) (fun j hj => by rcases (show j = 0 ∨ j = 1 ∨ j = 2 ∨ j = 3 ∨ j = 4 ∨ j = 5 ∨ j = 6 ∨ j = 7 by omega) with rfl | rfl | rfl | rfl | rfl | rfl | rfl | rfl <;> assumption)) (by decide) ?_
  refine lv_bipush (v := (-2)) hx hb d_MO_count_154 (by decide) ?_
  exact W.iret (v := (-2)) hx hb hr (fun t ht hW => ⟨(-2), rfl, (by first | decide | simp [sp_count, hz_1, hz_2, hz_3, hz_4, hz_6, hz_7, hz_8, hz_9]), ht⟩) (fun q h => absurd h List.not_mem_nil) d_MO_count_156

set_option maxHeartbeats 4000000 in
set_option maxRecDepth 100000 in
theorem f_MO_digest (l : Launch) (D : va_G) (cI cZ : ClassId) (y : Nat) (y1 : Nat) (y2 : Nat) (y3 : Nat) (y4 : Nat) (y5 : Nat) (y6 : Nat) (y7 : Nat) (y8 : Nat) (y9 : Nat) (y10 : Nat) (y11 : Nat) (y12 : Nat) (y13 : Nat) (y14 : Nat) (y15 : Nat) (y16 : Nat) (y17 : Nat) (y18 : Nat) (y19 : Nat) (y20 : Nat) (y21 : Nat) (y22 : Nat) (y23 : Nat) (y24 : Nat) (y25 : Nat) (y26 : Nat) (y27 : Nat) (y28 : Nat) (y29 : Nat) (y30 : Nat) (y31 : Nat) (y32 : Nat) (y33 : Nat) (y34 : Nat) (y35 : Nat) (y36 : Nat) (y37 : Nat) (y38 : Nat) (sz : Nat)  : Met l ⟨"PromiseChainsModel", "digest", "()J"⟩ (mw ⟨"PromiseChainsModel", "digest", "()J"⟩ prog_9_method_52_code 5 (some .long)) ({ frames := 1, cells := 0, slots := 0, locals := 23 }) (va_Pc [.ref y] (PB D cI cZ sz [(y, .inr (7, [.int 2, .int 0, .int 3, .int 5, .ref y1, .ref y2, .ref y3, .ref y4, .int 0, .ref y5, .ref y6, .ref y7, .ref y8, .ref y9, .ref y10, .ref y11, .ref y12, .ref y13, .ref y14, .ref y15, .int 0, .ref y16, .ref y17, .ref y18, .ref y19, .ref y20, .ref y21, .ref y22, .ref y23, .ref y24, .ref y25, .ref y26, .ref y27, .int 0, .int 0, .ref y28, .ref y29, .ref y30, .ref y31, .ref y32, .ref y33, .ref y34, .ref y35, .ref y36, .int 0, .ref y37, .ref y38, .int 0, .int 0, .int 0])), (y2, .inl (cI, 7, .inl (fun _ => 0))), (y1, .inl (cZ, 7, .inl (fun _ => 0)))])) (vp_Sl (fun r => r = 191026270113767493)) 0 0 (fun _ => False) := by
  refine Met.ofW (cc := prog_9_method_52_code) (maxL := 5) (ret := (some .long)) (by decide) rfl ?_
  intro p e s m args below meth c s₁ B hml hv
  obtain ⟨rfl, hsz, hP, hK, hD0, hN⟩ := hv
  have hx := B.exec
  have hb := B.bytes
  have hr := B.returns
  have hts0 := atoms_spec (ws := mw ⟨"PromiseChainsModel", "digest", "()J"⟩ prog_9_method_52_code 5 (some .long)) B.pre
  have hts : ∀ w ∈ tblG, w.before _ s = true := fun w h => hts0 w (List.mem_cons_of_mem _ h)
  have hown : s.vm.findClass "PromiseChainsModel" = some m.cls := findClass_of_methodNamed B.named
  have hlocks := B.notSynchronized
  subst hsz
  have hD := hD0
  have hP : va_P D vwCl [(y, .inr (7, [.int 2, .int 0, .int 3, .int 5, .ref y1, .ref y2, .ref y3, .ref y4, .int 0, .ref y5, .ref y6, .ref y7, .ref y8, .ref y9, .ref y10, .ref y11, .ref y12, .ref y13, .ref y14, .ref y15, .int 0, .ref y16, .ref y17, .ref y18, .ref y19, .ref y20, .ref y21, .ref y22, .ref y23, .ref y24, .ref y25, .ref y26, .ref y27, .int 0, .int 0, .ref y28, .ref y29, .ref y30, .ref y31, .ref y32, .ref y33, .ref y34, .ref y35, .ref y36, .int 0, .ref y37, .ref y38, .int 0, .int 0, .int 0])), (y2, .inl (cI, 7, .inl (fun _ => 0))), (y1, .inl (cZ, 7, .inl (fun _ => 0)))] s.heap := hP
  have hl := lv_entry ([.ref y]) (n := 5) (Nat.le_of_ble_eq_true rfl)
  rw [lg_entry_eq]
  generalize (lg_sl ([.ref y]) ++ List.replicate (5 - (lg_sl ([.ref y])).length) Slot.unset).toArray = ls at hl ⊢
  have hl : lv_has ls 5 [(0, .ref y)] := hl
  refine lv_ldc2 hx hb hown (hts _ q_984) d_MO_digest_0 ?_
  refine lv_lstore_n (lv' := [(1, .long 233), (0, .ref y)]) hx hb d_MO_digest_3 rfl hl (by decide) rfl (fun ls hl => ?_)
  refine lv_iconst (v := 0) hx hb d_MO_digest_4 (by decide) ?_
  refine lv_istore_n (lv' := [(3, .int 0), (1, .long 233), (0, .ref y)]) hx hb d_MO_digest_5 rfl hl (by decide) rfl (fun ls hl => ?_)
  refine lv_iload_n hx hb d_MO_digest_6 rfl (lv_at hl 0 rfl) ?_
  refine lv_bipush (v := 8) hx hb d_MO_digest_7 (by decide) ?_
  refine lv_icmp_ge (tgt := 31) hx hb d_MO_digest_9 (by decide) (fun h => absurd h (by decide)) (fun _ => ?_)
  refine lv_ldc2 hx hb hown (hts _ q_985) d_MO_digest_12 ?_
  refine lv_lload_n hx hb d_MO_digest_15 rfl (lv_at hl 1 rfl) ?_
  refine lv_lmul hx hb d_MO_digest_16 ?_
  refine lv_setl (7223) (by decide) ?_
  refine lv_aload_n hx hb d_MO_digest_17 rfl (lv_at hl 2 rfl) ?_
  refine lv_iload_n hx hb d_MO_digest_18 rfl (lv_at hl 0 rfl) ?_
  have hPc := hP.sub (ws' := [(y, .inr (7, [.int 2, .int 0, .int 3, .int 5, .ref y1, .ref y2, .ref y3, .ref y4, .int 0, .ref y5, .ref y6, .ref y7, .ref y8, .ref y9, .ref y10, .ref y11, .ref y12, .ref y13, .ref y14, .ref y15, .int 0, .ref y16, .ref y17, .ref y18, .ref y19, .ref y20, .ref y21, .ref y22, .ref y23, .ref y24, .ref y25, .ref y26, .ref y27, .int 0, .int 0, .ref y28, .ref y29, .ref y30, .ref y31, .ref y32, .ref y33, .ref y34, .ref y35, .ref y36, .int 0, .ref y37, .ref y38, .int 0, .int 0, .int 0])), (y1, .inl (cZ, 7, .inl (fun _ => 0)))]) [0, 2] rfl
  have hDc := hD.sub (ws' := [(y, .inr (7, [.int 2, .int 0, .int 3, .int 5, .ref y1, .ref y2, .ref y3, .ref y4, .int 0, .ref y5, .ref y6, .ref y7, .ref y8, .ref y9, .ref y10, .ref y11, .ref y12, .ref y13, .ref y14, .ref y15, .int 0, .ref y16, .ref y17, .ref y18, .ref y19, .ref y20, .ref y21, .ref y22, .ref y23, .ref y24, .ref y25, .ref y26, .ref y27, .int 0, .int 0, .ref y28, .ref y29, .ref y30, .ref y31, .ref y32, .ref y33, .ref y34, .ref y35, .ref y36, .int 0, .ref y37, .ref y38, .int 0, .int 0, .int 0])), (y1, .inl (cZ, 7, .inl (fun _ => 0)))]) [0, 2] (by decide) rfl
  refine vp_callSi (va_Run.run (va_runV (As := [.int 0]) (rest := [.long 7223]) ⟨hx, hb, hml, hown, hts⟩ (f_MO_count l D cI cZ y 0 y1 y2 y3 y4 y5 y6 y7 y8 y9 y10 y11 y12 y13 y14 y15 y16 y17 y18 y19 y20 y21 y22 y23 y24 y25 y26 y27 y28 y29 y30 y31 y32 y33 y34 y35 y36 y37 y38 s.heap.size ) (my_cwV 1 hts q_979 q_986 q_977 q_978 q_8 rfl rfl (by decide +kernel) ⟨Nat.le_of_ble_eq_true rfl, Nat.le_of_ble_eq_true rfl⟩) (my_preV hPc hDc hK hN 7 0 rfl rfl) rfl rfl hl.1 rfl (lv_room (Nat.le_of_ble_eq_true rfl)) d_MO_digest_19 ⟨Nat.le_of_ble_eq_true rfl, Nat.le_of_ble_eq_true rfl⟩)) (fun r_2 hw_2 => ?_)
  have hw_2 : r_2 = sp_count 0 := hw_2
  subst hw_2
  refine lv_seti (2) (by decide) ?_
  refine lv_i2l (v := 2) hx hb d_MO_digest_22 (by decide) ?_
  refine lv_ladd hx hb d_MO_digest_23 ?_
  refine lv_setl (7225) (by decide) ?_
  refine lv_lstore_n (lv' := [(1, .long 7225), (3, .int 0), (0, .ref y)]) hx hb d_MO_digest_24 rfl hl (by decide) rfl (fun ls hl => ?_)
  refine lv_iinc (v := 1) (lv' := [(3, .int 1), (1, .long 7225), (0, .ref y)]) hx hb d_MO_digest_25 hl (k := 1) rfl (by decide) (by decide) rfl (fun ls hl => ?_)
  refine lv_goto (tgt := 6) hx hb d_MO_digest_28 (by decide) ?_
  refine lv_iload_n hx hb d_MO_digest_6 rfl (lv_at hl 0 rfl) ?_
  refine lv_bipush (v := 8) hx hb d_MO_digest_7 (by decide) ?_
  refine lv_icmp_ge (tgt := 31) hx hb d_MO_digest_9 (by decide) (fun h => absurd h (by decide)) (fun _ => ?_)
  refine lv_ldc2 hx hb hown (hts _ q_985) d_MO_digest_12 ?_
  refine lv_lload_n hx hb d_MO_digest_15 rfl (lv_at hl 1 rfl) ?_
  refine lv_lmul hx hb d_MO_digest_16 ?_
  refine lv_setl (223975) (by decide) ?_
  refine lv_aload_n hx hb d_MO_digest_17 rfl (lv_at hl 2 rfl) ?_
  refine lv_iload_n hx hb d_MO_digest_18 rfl (lv_at hl 0 rfl) ?_
  have hPc := hP.sub (ws' := [(y, .inr (7, [.int 2, .int 0, .int 3, .int 5, .ref y1, .ref y2, .ref y3, .ref y4, .int 0, .ref y5, .ref y6, .ref y7, .ref y8, .ref y9, .ref y10, .ref y11, .ref y12, .ref y13, .ref y14, .ref y15, .int 0, .ref y16, .ref y17, .ref y18, .ref y19, .ref y20, .ref y21, .ref y22, .ref y23, .ref y24, .ref y25, .ref y26, .ref y27, .int 0, .int 0, .ref y28, .ref y29, .ref y30, .ref y31, .ref y32, .ref y33, .ref y34, .ref y35, .ref y36, .int 0, .ref y37, .ref y38, .int 0, .int 0, .int 0])), (y1, .inl (cZ, 7, .inl (fun _ => 0)))]) [0, 2] rfl
  have hDc := hD.sub (ws' := [(y, .inr (7, [.int 2, .int 0, .int 3, .int 5, .ref y1, .ref y2, .ref y3, .ref y4, .int 0, .ref y5, .ref y6, .ref y7, .ref y8, .ref y9, .ref y10, .ref y11, .ref y12, .ref y13, .ref y14, .ref y15, .int 0, .ref y16, .ref y17, .ref y18, .ref y19, .ref y20, .ref y21, .ref y22, .ref y23, .ref y24, .ref y25, .ref y26, .ref y27, .int 0, .int 0, .ref y28, .ref y29, .ref y30, .ref y31, .ref y32, .ref y33, .ref y34, .ref y35, .ref y36, .int 0, .ref y37, .ref y38, .int 0, .int 0, .int 0])), (y1, .inl (cZ, 7, .inl (fun _ => 0)))]) [0, 2] (by decide) rfl
  refine vp_callSi (va_Run.run (va_runV (As := [.int 1]) (rest := [.long 223975]) ⟨hx, hb, hml, hown, hts⟩ (f_MO_count l D cI cZ y 1 y1 y2 y3 y4 y5 y6 y7 y8 y9 y10 y11 y12 y13 y14 y15 y16 y17 y18 y19 y20 y21 y22 y23 y24 y25 y26 y27 y28 y29 y30 y31 y32 y33 y34 y35 y36 y37 y38 s.heap.size ) (my_cwV 1 hts q_979 q_986 q_977 q_978 q_8 rfl rfl (by decide +kernel) ⟨Nat.le_of_ble_eq_true rfl, Nat.le_of_ble_eq_true rfl⟩) (my_preV hPc hDc hK hN 7 0 rfl rfl) rfl rfl hl.1 rfl (lv_room (Nat.le_of_ble_eq_true rfl)) d_MO_digest_19 ⟨Nat.le_of_ble_eq_true rfl, Nat.le_of_ble_eq_true rfl⟩)) (fun r_4 hw_4 => ?_)
  have hw_4 : r_4 = sp_count 1 := hw_4
  subst hw_4
  refine lv_seti (0) (by decide) ?_
  refine lv_i2l (v := 0) hx hb d_MO_digest_22 (by decide) ?_
  refine lv_ladd hx hb d_MO_digest_23 ?_
  refine lv_setl (223975) (by decide) ?_
  refine lv_lstore_n (lv' := [(1, .long 223975), (3, .int 1), (0, .ref y)]) hx hb d_MO_digest_24 rfl hl (by decide) rfl (fun ls hl => ?_)
  refine lv_iinc (v := 2) (lv' := [(3, .int 2), (1, .long 223975), (0, .ref y)]) hx hb d_MO_digest_25 hl (k := 1) rfl (by decide) (by decide) rfl (fun ls hl => ?_)
  refine lv_goto (tgt := 6) hx hb d_MO_digest_28 (by decide) ?_
  refine lv_iload_n hx hb d_MO_digest_6 rfl (lv_at hl 0 rfl) ?_
  refine lv_bipush (v := 8) hx hb d_MO_digest_7 (by decide) ?_
  refine lv_icmp_ge (tgt := 31) hx hb d_MO_digest_9 (by decide) (fun h => absurd h (by decide)) (fun _ => ?_)
  refine lv_ldc2 hx hb hown (hts _ q_985) d_MO_digest_12 ?_
  refine lv_lload_n hx hb d_MO_digest_15 rfl (lv_at hl 1 rfl) ?_
  refine lv_lmul hx hb d_MO_digest_16 ?_
  refine lv_setl (6943225) (by decide) ?_
  refine lv_aload_n hx hb d_MO_digest_17 rfl (lv_at hl 2 rfl) ?_
  refine lv_iload_n hx hb d_MO_digest_18 rfl (lv_at hl 0 rfl) ?_
  have hPc := hP.sub (ws' := [(y, .inr (7, [.int 2, .int 0, .int 3, .int 5, .ref y1, .ref y2, .ref y3, .ref y4, .int 0, .ref y5, .ref y6, .ref y7, .ref y8, .ref y9, .ref y10, .ref y11, .ref y12, .ref y13, .ref y14, .ref y15, .int 0, .ref y16, .ref y17, .ref y18, .ref y19, .ref y20, .ref y21, .ref y22, .ref y23, .ref y24, .ref y25, .ref y26, .ref y27, .int 0, .int 0, .ref y28, .ref y29, .ref y30, .ref y31, .ref y32, .ref y33, .ref y34, .ref y35, .ref y36, .int 0, .ref y37, .ref y38, .int 0, .int 0, .int 0])), (y1, .inl (cZ, 7, .inl (fun _ => 0)))]) [0, 2] rfl
  have hDc := hD.sub (ws' := [(y, .inr (7, [.int 2, .int 0, .int 3, .int 5, .ref y1, .ref y2, .ref y3, .ref y4, .int 0, .ref y5, .ref y6, .ref y7, .ref y8, .ref y9, .ref y10, .ref y11, .ref y12, .ref y13, .ref y14, .ref y15, .int 0, .ref y16, .ref y17, .ref y18, .ref y19, .ref y20, .ref y21, .ref y22, .ref y23, .ref y24, .ref y25, .ref y26, .ref y27, .int 0, .int 0, .ref y28, .ref y29, .ref y30, .ref y31, .ref y32, .ref y33, .ref y34, .ref y35, .ref y36, .int 0, .ref y37, .ref y38, .int 0, .int 0, .int 0])), (y1, .inl (cZ, 7, .inl (fun _ => 0)))]) [0, 2] (by decide) rfl
  refine vp_callSi (va_Run.run (va_runV (As := [.int 2]) (rest := [.long 6943225]) ⟨hx, hb, hml, hown, hts⟩ (f_MO_count l D cI cZ y 2 y1 y2 y3 y4 y5 y6 y7 y8 y9 y10 y11 y12 y13 y14 y15 y16 y17 y18 y19 y20 y21 y22 y23 y24 y25 y26 y27 y28 y29 y30 y31 y32 y33 y34 y35 y36 y37 y38 s.heap.size ) (my_cwV 1 hts q_979 q_986 q_977 q_978 q_8 rfl rfl (by decide +kernel) ⟨Nat.le_of_ble_eq_true rfl, Nat.le_of_ble_eq_true rfl⟩) (my_preV hPc hDc hK hN 7 0 rfl rfl) rfl rfl hl.1 rfl (lv_room (Nat.le_of_ble_eq_true rfl)) d_MO_digest_19 ⟨Nat.le_of_ble_eq_true rfl, Nat.le_of_ble_eq_true rfl⟩)) (fun r_6 hw_6 => ?_)
  have hw_6 : r_6 = sp_count 2 := hw_6
  subst hw_6
  refine lv_seti (0) (by decide) ?_
  refine lv_i2l (v := 0) hx hb d_MO_digest_22 (by decide) ?_
  refine lv_ladd hx hb d_MO_digest_23 ?_
  refine lv_setl (6943225) (by decide) ?_
  refine lv_lstore_n (lv' := [(1, .long 6943225), (3, .int 2), (0, .ref y)]) hx hb d_MO_digest_24 rfl hl (by decide) rfl (fun ls hl => ?_)
  refine lv_iinc (v := 3) (lv' := [(3, .int 3), (1, .long 6943225), (0, .ref y)]) hx hb d_MO_digest_25 hl (k := 1) rfl (by decide) (by decide) rfl (fun ls hl => ?_)
  refine lv_goto (tgt := 6) hx hb d_MO_digest_28 (by decide) ?_
  refine lv_iload_n hx hb d_MO_digest_6 rfl (lv_at hl 0 rfl) ?_
  refine lv_bipush (v := 8) hx hb d_MO_digest_7 (by decide) ?_
  refine lv_icmp_ge (tgt := 31) hx hb d_MO_digest_9 (by decide) (fun h => absurd h (by decide)) (fun _ => ?_)
  refine lv_ldc2 hx hb hown (hts _ q_985) d_MO_digest_12 ?_
  refine lv_lload_n hx hb d_MO_digest_15 rfl (lv_at hl 1 rfl) ?_
  refine lv_lmul hx hb d_MO_digest_16 ?_
  refine lv_setl (215239975) (by decide) ?_
  refine lv_aload_n hx hb d_MO_digest_17 rfl (lv_at hl 2 rfl) ?_
  refine lv_iload_n hx hb d_MO_digest_18 rfl (lv_at hl 0 rfl) ?_
  have hPc := hP.sub (ws' := [(y, .inr (7, [.int 2, .int 0, .int 3, .int 5, .ref y1, .ref y2, .ref y3, .ref y4, .int 0, .ref y5, .ref y6, .ref y7, .ref y8, .ref y9, .ref y10, .ref y11, .ref y12, .ref y13, .ref y14, .ref y15, .int 0, .ref y16, .ref y17, .ref y18, .ref y19, .ref y20, .ref y21, .ref y22, .ref y23, .ref y24, .ref y25, .ref y26, .ref y27, .int 0, .int 0, .ref y28, .ref y29, .ref y30, .ref y31, .ref y32, .ref y33, .ref y34, .ref y35, .ref y36, .int 0, .ref y37, .ref y38, .int 0, .int 0, .int 0])), (y1, .inl (cZ, 7, .inl (fun _ => 0)))]) [0, 2] rfl
  have hDc := hD.sub (ws' := [(y, .inr (7, [.int 2, .int 0, .int 3, .int 5, .ref y1, .ref y2, .ref y3, .ref y4, .int 0, .ref y5, .ref y6, .ref y7, .ref y8, .ref y9, .ref y10, .ref y11, .ref y12, .ref y13, .ref y14, .ref y15, .int 0, .ref y16, .ref y17, .ref y18, .ref y19, .ref y20, .ref y21, .ref y22, .ref y23, .ref y24, .ref y25, .ref y26, .ref y27, .int 0, .int 0, .ref y28, .ref y29, .ref y30, .ref y31, .ref y32, .ref y33, .ref y34, .ref y35, .ref y36, .int 0, .ref y37, .ref y38, .int 0, .int 0, .int 0])), (y1, .inl (cZ, 7, .inl (fun _ => 0)))]) [0, 2] (by decide) rfl
  refine vp_callSi (va_Run.run (va_runV (As := [.int 3]) (rest := [.long 215239975]) ⟨hx, hb, hml, hown, hts⟩ (f_MO_count l D cI cZ y 3 y1 y2 y3 y4 y5 y6 y7 y8 y9 y10 y11 y12 y13 y14 y15 y16 y17 y18 y19 y20 y21 y22 y23 y24 y25 y26 y27 y28 y29 y30 y31 y32 y33 y34 y35 y36 y37 y38 s.heap.size ) (my_cwV 1 hts q_979 q_986 q_977 q_978 q_8 rfl rfl (by decide +kernel) ⟨Nat.le_of_ble_eq_true rfl, Nat.le_of_ble_eq_true rfl⟩) (my_preV hPc hDc hK hN 7 0 rfl rfl) rfl rfl hl.1 rfl (lv_room (Nat.le_of_ble_eq_true rfl)) d_MO_digest_19 ⟨Nat.le_of_ble_eq_true rfl, Nat.le_of_ble_eq_true rfl⟩)) (fun r_8 hw_8 => ?_)
  have hw_8 : r_8 = sp_count 3 := hw_8
  subst hw_8
  refine lv_seti (0) (by decide) ?_
  refine lv_i2l (v := 0) hx hb d_MO_digest_22 (by decide) ?_
  refine lv_ladd hx hb d_MO_digest_23 ?_
  refine lv_setl (215239975) (by decide) ?_
  refine lv_lstore_n (lv' := [(1, .long 215239975), (3, .int 3), (0, .ref y)]) hx hb d_MO_digest_24 rfl hl (by decide) rfl (fun ls hl => ?_)
  refine lv_iinc (v := 4) (lv' := [(3, .int 4), (1, .long 215239975), (0, .ref y)]) hx hb d_MO_digest_25 hl (k := 1) rfl (by decide) (by decide) rfl (fun ls hl => ?_)
  refine lv_goto (tgt := 6) hx hb d_MO_digest_28 (by decide) ?_
  refine lv_iload_n hx hb d_MO_digest_6 rfl (lv_at hl 0 rfl) ?_
  refine lv_bipush (v := 8) hx hb d_MO_digest_7 (by decide) ?_
  refine lv_icmp_ge (tgt := 31) hx hb d_MO_digest_9 (by decide) (fun h => absurd h (by decide)) (fun _ => ?_)
  refine lv_ldc2 hx hb hown (hts _ q_985) d_MO_digest_12 ?_
  refine lv_lload_n hx hb d_MO_digest_15 rfl (lv_at hl 1 rfl) ?_
  refine lv_lmul hx hb d_MO_digest_16 ?_
  refine lv_setl (6672439225) (by decide) ?_
  refine lv_aload_n hx hb d_MO_digest_17 rfl (lv_at hl 2 rfl) ?_
  refine lv_iload_n hx hb d_MO_digest_18 rfl (lv_at hl 0 rfl) ?_
  have hPc := hP.sub (ws' := [(y, .inr (7, [.int 2, .int 0, .int 3, .int 5, .ref y1, .ref y2, .ref y3, .ref y4, .int 0, .ref y5, .ref y6, .ref y7, .ref y8, .ref y9, .ref y10, .ref y11, .ref y12, .ref y13, .ref y14, .ref y15, .int 0, .ref y16, .ref y17, .ref y18, .ref y19, .ref y20, .ref y21, .ref y22, .ref y23, .ref y24, .ref y25, .ref y26, .ref y27, .int 0, .int 0, .ref y28, .ref y29, .ref y30, .ref y31, .ref y32, .ref y33, .ref y34, .ref y35, .ref y36, .int 0, .ref y37, .ref y38, .int 0, .int 0, .int 0])), (y1, .inl (cZ, 7, .inl (fun _ => 0)))]) [0, 2] rfl
  have hDc := hD.sub (ws' := [(y, .inr (7, [.int 2, .int 0, .int 3, .int 5, .ref y1, .ref y2, .ref y3, .ref y4, .int 0, .ref y5, .ref y6, .ref y7, .ref y8, .ref y9, .ref y10, .ref y11, .ref y12, .ref y13, .ref y14, .ref y15, .int 0, .ref y16, .ref y17, .ref y18, .ref y19, .ref y20, .ref y21, .ref y22, .ref y23, .ref y24, .ref y25, .ref y26, .ref y27, .int 0, .int 0, .ref y28, .ref y29, .ref y30, .ref y31, .ref y32, .ref y33, .ref y34, .ref y35, .ref y36, .int 0, .ref y37, .ref y38, .int 0, .int 0, .int 0])), (y1, .inl (cZ, 7, .inl (fun _ => 0)))]) [0, 2] (by decide) rfl
  refine vp_callSi (va_Run.run (va_runV (As := [.int 4]) (rest := [.long 6672439225]) ⟨hx, hb, hml, hown, hts⟩ (f_MO_count l D cI cZ y 4 y1 y2 y3 y4 y5 y6 y7 y8 y9 y10 y11 y12 y13 y14 y15 y16 y17 y18 y19 y20 y21 y22 y23 y24 y25 y26 y27 y28 y29 y30 y31 y32 y33 y34 y35 y36 y37 y38 s.heap.size ) (my_cwV 1 hts q_979 q_986 q_977 q_978 q_8 rfl rfl (by decide +kernel) ⟨Nat.le_of_ble_eq_true rfl, Nat.le_of_ble_eq_true rfl⟩) (my_preV hPc hDc hK hN 7 0 rfl rfl) rfl rfl hl.1 rfl (lv_room (Nat.le_of_ble_eq_true rfl)) d_MO_digest_19 ⟨Nat.le_of_ble_eq_true rfl, Nat.le_of_ble_eq_true rfl⟩)) (fun r_10 hw_10 => ?_)
  have hw_10 : r_10 = sp_count 4 := hw_10
  subst hw_10
  refine lv_seti (0) (by decide) ?_
  refine lv_i2l (v := 0) hx hb d_MO_digest_22 (by decide) ?_
  refine lv_ladd hx hb d_MO_digest_23 ?_
  refine lv_setl (6672439225) (by decide) ?_
  refine lv_lstore_n (lv' := [(1, .long 6672439225), (3, .int 4), (0, .ref y)]) hx hb d_MO_digest_24 rfl hl (by decide) rfl (fun ls hl => ?_)
  refine lv_iinc (v := 5) (lv' := [(3, .int 5), (1, .long 6672439225), (0, .ref y)]) hx hb d_MO_digest_25 hl (k := 1) rfl (by decide) (by decide) rfl (fun ls hl => ?_)
  refine lv_goto (tgt := 6) hx hb d_MO_digest_28 (by decide) ?_
  refine lv_iload_n hx hb d_MO_digest_6 rfl (lv_at hl 0 rfl) ?_
  refine lv_bipush (v := 8) hx hb d_MO_digest_7 (by decide) ?_
  refine lv_icmp_ge (tgt := 31) hx hb d_MO_digest_9 (by decide) (fun h => absurd h (by decide)) (fun _ => ?_)
  refine lv_ldc2 hx hb hown (hts _ q_985) d_MO_digest_12 ?_
  refine lv_lload_n hx hb d_MO_digest_15 rfl (lv_at hl 1 rfl) ?_
  refine lv_lmul hx hb d_MO_digest_16 ?_
  refine lv_setl (206845615975) (by decide) ?_
  refine lv_aload_n hx hb d_MO_digest_17 rfl (lv_at hl 2 rfl) ?_
  refine lv_iload_n hx hb d_MO_digest_18 rfl (lv_at hl 0 rfl) ?_
  have hPc := hP.sub (ws' := [(y, .inr (7, [.int 2, .int 0, .int 3, .int 5, .ref y1, .ref y2, .ref y3, .ref y4, .int 0, .ref y5, .ref y6, .ref y7, .ref y8, .ref y9, .ref y10, .ref y11, .ref y12, .ref y13, .ref y14, .ref y15, .int 0, .ref y16, .ref y17, .ref y18, .ref y19, .ref y20, .ref y21, .ref y22, .ref y23, .ref y24, .ref y25, .ref y26, .ref y27, .int 0, .int 0, .ref y28, .ref y29, .ref y30, .ref y31, .ref y32, .ref y33, .ref y34, .ref y35, .ref y36, .int 0, .ref y37, .ref y38, .int 0, .int 0, .int 0])), (y1, .inl (cZ, 7, .inl (fun _ => 0)))]) [0, 2] rfl
  have hDc := hD.sub (ws' := [(y, .inr (7, [.int 2, .int 0, .int 3, .int 5, .ref y1, .ref y2, .ref y3, .ref y4, .int 0, .ref y5, .ref y6, .ref y7, .ref y8, .ref y9, .ref y10, .ref y11, .ref y12, .ref y13, .ref y14, .ref y15, .int 0, .ref y16, .ref y17, .ref y18, .ref y19, .ref y20, .ref y21, .ref y22, .ref y23, .ref y24, .ref y25, .ref y26, .ref y27, .int 0, .int 0, .ref y28, .ref y29, .ref y30, .ref y31, .ref y32, .ref y33, .ref y34, .ref y35, .ref y36, .int 0, .ref y37, .ref y38, .int 0, .int 0, .int 0])), (y1, .inl (cZ, 7, .inl (fun _ => 0)))]) [0, 2] (by decide) rfl
  refine vp_callSi (va_Run.run (va_runV (As := [.int 5]) (rest := [.long 206845615975]) ⟨hx, hb, hml, hown, hts⟩ (f_MO_count l D cI cZ y 5 y1 y2 y3 y4 y5 y6 y7 y8 y9 y10 y11 y12 y13 y14 y15 y16 y17 y18 y19 y20 y21 y22 y23 y24 y25 y26 y27 y28 y29 y30 y31 y32 y33 y34 y35 y36 y37 y38 s.heap.size ) (my_cwV 1 hts q_979 q_986 q_977 q_978 q_8 rfl rfl (by decide +kernel) ⟨Nat.le_of_ble_eq_true rfl, Nat.le_of_ble_eq_true rfl⟩) (my_preV hPc hDc hK hN 7 0 rfl rfl) rfl rfl hl.1 rfl (lv_room (Nat.le_of_ble_eq_true rfl)) d_MO_digest_19 ⟨Nat.le_of_ble_eq_true rfl, Nat.le_of_ble_eq_true rfl⟩)) (fun r_12 hw_12 => ?_)
  have hw_12 : r_12 = sp_count 5 := hw_12
  subst hw_12
  refine lv_seti (3) (by decide) ?_
  refine lv_i2l (v := 3) hx hb d_MO_digest_22 (by decide) ?_
  refine lv_ladd hx hb d_MO_digest_23 ?_
  refine lv_setl (206845615978) (by decide) ?_
  refine lv_lstore_n (lv' := [(1, .long 206845615978), (3, .int 5), (0, .ref y)]) hx hb d_MO_digest_24 rfl hl (by decide) rfl (fun ls hl => ?_)
  refine lv_iinc (v := 6) (lv' := [(3, .int 6), (1, .long 206845615978), (0, .ref y)]) hx hb d_MO_digest_25 hl (k := 1) rfl (by decide) (by decide) rfl (fun ls hl => ?_)
  refine lv_goto (tgt := 6) hx hb d_MO_digest_28 (by decide) ?_
  refine lv_iload_n hx hb d_MO_digest_6 rfl (lv_at hl 0 rfl) ?_
  refine lv_bipush (v := 8) hx hb d_MO_digest_7 (by decide) ?_
  refine lv_icmp_ge (tgt := 31) hx hb d_MO_digest_9 (by decide) (fun h => absurd h (by decide)) (fun _ => ?_)
  refine lv_ldc2 hx hb hown (hts _ q_985) d_MO_digest_12 ?_
  refine lv_lload_n hx hb d_MO_digest_15 rfl (lv_at hl 1 rfl) ?_
  refine lv_lmul hx hb d_MO_digest_16 ?_
  refine lv_setl (6412214095318) (by decide) ?_
  refine lv_aload_n hx hb d_MO_digest_17 rfl (lv_at hl 2 rfl) ?_
  refine lv_iload_n hx hb d_MO_digest_18 rfl (lv_at hl 0 rfl) ?_
  have hPc := hP.sub (ws' := [(y, .inr (7, [.int 2, .int 0, .int 3, .int 5, .ref y1, .ref y2, .ref y3, .ref y4, .int 0, .ref y5, .ref y6, .ref y7, .ref y8, .ref y9, .ref y10, .ref y11, .ref y12, .ref y13, .ref y14, .ref y15, .int 0, .ref y16, .ref y17, .ref y18, .ref y19, .ref y20, .ref y21, .ref y22, .ref y23, .ref y24, .ref y25, .ref y26, .ref y27, .int 0, .int 0, .ref y28, .ref y29, .ref y30, .ref y31, .ref y32, .ref y33, .ref y34, .ref y35, .ref y36, .int 0, .ref y37, .ref y38, .int 0, .int 0, .int 0])), (y1, .inl (cZ, 7, .inl (fun _ => 0)))]) [0, 2] rfl
  have hDc := hD.sub (ws' := [(y, .inr (7, [.int 2, .int 0, .int 3, .int 5, .ref y1, .ref y2, .ref y3, .ref y4, .int 0, .ref y5, .ref y6, .ref y7, .ref y8, .ref y9, .ref y10, .ref y11, .ref y12, .ref y13, .ref y14, .ref y15, .int 0, .ref y16, .ref y17, .ref y18, .ref y19, .ref y20, .ref y21, .ref y22, .ref y23, .ref y24, .ref y25, .ref y26, .ref y27, .int 0, .int 0, .ref y28, .ref y29, .ref y30, .ref y31, .ref y32, .ref y33, .ref y34, .ref y35, .ref y36, .int 0, .ref y37, .ref y38, .int 0, .int 0, .int 0])), (y1, .inl (cZ, 7, .inl (fun _ => 0)))]) [0, 2] (by decide) rfl
  refine vp_callSi (va_Run.run (va_runV (As := [.int 6]) (rest := [.long 6412214095318]) ⟨hx, hb, hml, hown, hts⟩ (f_MO_count l D cI cZ y 6 y1 y2 y3 y4 y5 y6 y7 y8 y9 y10 y11 y12 y13 y14 y15 y16 y17 y18 y19 y20 y21 y22 y23 y24 y25 y26 y27 y28 y29 y30 y31 y32 y33 y34 y35 y36 y37 y38 s.heap.size ) (my_cwV 1 hts q_979 q_986 q_977 q_978 q_8 rfl rfl (by decide +kernel) ⟨Nat.le_of_ble_eq_true rfl, Nat.le_of_ble_eq_true rfl⟩) (my_preV hPc hDc hK hN 7 0 rfl rfl) rfl rfl hl.1 rfl (lv_room (Nat.le_of_ble_eq_true rfl)) d_MO_digest_19 ⟨Nat.le_of_ble_eq_true rfl, Nat.le_of_ble_eq_true rfl⟩)) (fun r_14 hw_14 => ?_)
  have hw_14 : r_14 = sp_count 6 := hw_14
  subst hw_14
  refine lv_seti (5) (by decide) ?_
  refine lv_i2l (v := 5) hx hb d_MO_digest_22 (by decide) ?_
  refine lv_ladd hx hb d_MO_digest_23 ?_
  refine lv_setl (6412214095323) (by decide) ?_
  refine lv_lstore_n (lv' := [(1, .long 6412214095323), (3, .int 6), (0, .ref y)]) hx hb d_MO_digest_24 rfl hl (by decide) rfl (fun ls hl => ?_)
  refine lv_iinc (v := 7) (lv' := [(3, .int 7), (1, .long 6412214095323), (0, .ref y)]) hx hb d_MO_digest_25 hl (k := 1) rfl (by decide) (by decide) rfl (fun ls hl => ?_)
  refine lv_goto (tgt := 6) hx hb d_MO_digest_28 (by decide) ?_
  refine lv_iload_n hx hb d_MO_digest_6 rfl (lv_at hl 0 rfl) ?_
  refine lv_bipush (v := 8) hx hb d_MO_digest_7 (by decide) ?_
  refine lv_icmp_ge (tgt := 31) hx hb d_MO_digest_9 (by decide) (fun h => absurd h (by decide)) (fun _ => ?_)
  refine lv_ldc2 hx hb hown (hts _ q_985) d_MO_digest_12 ?_
  refine lv_lload_n hx hb d_MO_digest_15 rfl (lv_at hl 1 rfl) ?_
  refine lv_lmul hx hb d_MO_digest_16 ?_
  refine lv_setl (198778636955013) (by decide) ?_
  refine lv_aload_n hx hb d_MO_digest_17 rfl (lv_at hl 2 rfl) ?_
  refine lv_iload_n hx hb d_MO_digest_18 rfl (lv_at hl 0 rfl) ?_
  have hPc := hP.sub (ws' := [(y, .inr (7, [.int 2, .int 0, .int 3, .int 5, .ref y1, .ref y2, .ref y3, .ref y4, .int 0, .ref y5, .ref y6, .ref y7, .ref y8, .ref y9, .ref y10, .ref y11, .ref y12, .ref y13, .ref y14, .ref y15, .int 0, .ref y16, .ref y17, .ref y18, .ref y19, .ref y20, .ref y21, .ref y22, .ref y23, .ref y24, .ref y25, .ref y26, .ref y27, .int 0, .int 0, .ref y28, .ref y29, .ref y30, .ref y31, .ref y32, .ref y33, .ref y34, .ref y35, .ref y36, .int 0, .ref y37, .ref y38, .int 0, .int 0, .int 0])), (y1, .inl (cZ, 7, .inl (fun _ => 0)))]) [0, 2] rfl
  have hDc := hD.sub (ws' := [(y, .inr (7, [.int 2, .int 0, .int 3, .int 5, .ref y1, .ref y2, .ref y3, .ref y4, .int 0, .ref y5, .ref y6, .ref y7, .ref y8, .ref y9, .ref y10, .ref y11, .ref y12, .ref y13, .ref y14, .ref y15, .int 0, .ref y16, .ref y17, .ref y18, .ref y19, .ref y20, .ref y21, .ref y22, .ref y23, .ref y24, .ref y25, .ref y26, .ref y27, .int 0, .int 0, .ref y28, .ref y29, .ref y30, .ref y31, .ref y32, .ref y33, .ref y34, .ref y35, .ref y36, .int 0, .ref y37, .ref y38, .int 0, .int 0, .int 0])), (y1, .inl (cZ, 7, .inl (fun _ => 0)))]) [0, 2] (by decide) rfl
  refine vp_callSi (va_Run.run (va_runV (As := [.int 7]) (rest := [.long 198778636955013]) ⟨hx, hb, hml, hown, hts⟩ (f_MO_count l D cI cZ y 7 y1 y2 y3 y4 y5 y6 y7 y8 y9 y10 y11 y12 y13 y14 y15 y16 y17 y18 y19 y20 y21 y22 y23 y24 y25 y26 y27 y28 y29 y30 y31 y32 y33 y34 y35 y36 y37 y38 s.heap.size ) (my_cwV 1 hts q_979 q_986 q_977 q_978 q_8 rfl rfl (by decide +kernel) ⟨Nat.le_of_ble_eq_true rfl, Nat.le_of_ble_eq_true rfl⟩) (my_preV hPc hDc hK hN 7 0 rfl rfl) rfl rfl hl.1 rfl (lv_room (Nat.le_of_ble_eq_true rfl)) d_MO_digest_19 ⟨Nat.le_of_ble_eq_true rfl, Nat.le_of_ble_eq_true rfl⟩)) (fun r_16 hw_16 => ?_)
  have hw_16 : r_16 = sp_count 7 := hw_16
  subst hw_16
  refine lv_seti (0) (by decide) ?_
  refine lv_i2l (v := 0) hx hb d_MO_digest_22 (by decide) ?_
  refine lv_ladd hx hb d_MO_digest_23 ?_
  refine lv_setl (198778636955013) (by decide) ?_
  refine lv_lstore_n (lv' := [(1, .long 198778636955013), (3, .int 7), (0, .ref y)]) hx hb d_MO_digest_24 rfl hl (by decide) rfl (fun ls hl => ?_)
  refine lv_iinc (v := 8) (lv' := [(3, .int 8), (1, .long 198778636955013), (0, .ref y)]) hx hb d_MO_digest_25 hl (k := 1) rfl (by decide) (by decide) rfl (fun ls hl => ?_)
  refine lv_goto (tgt := 6) hx hb d_MO_digest_28 (by decide) ?_
  refine lv_iload_n hx hb d_MO_digest_6 rfl (lv_at hl 0 rfl) ?_
  refine lv_bipush (v := 8) hx hb d_MO_digest_7 (by decide) ?_
  refine lv_icmp_ge (tgt := 31) hx hb d_MO_digest_9 (by decide) (fun _ => ?_) (fun h => absurd h (by decide))
  refine lv_iconst (v := 0) hx hb d_MO_digest_31 (by decide) ?_
  refine lv_istore_n (lv' := [(3, .int 0), (1, .long 198778636955013), (0, .ref y)]) hx hb d_MO_digest_32 rfl hl (by decide) rfl (fun ls hl => ?_)
  refine lv_iload_n hx hb d_MO_digest_33 rfl (lv_at hl 0 rfl) ?_
  refine lv_aload_n hx hb d_MO_digest_34 rfl (lv_at hl 2 rfl) ?_
  refine va_get (D := D) (ci := 7) (v := .int 2) (C := R_MO) (T := F_MO) (N := 50) hx hb hts i_MO hown hK hP 0 rfl rfl 0 (by decide) (hts _ q_632) (fun _ h9 => h9) rfl d_MO_digest_35 ?_
  refine lv_icmp_ge (tgt := 60) hx hb d_MO_digest_38 (by decide) (fun h => absurd h (by decide)) (fun _ => ?_)
  refine lv_ldc2 hx hb hown (hts _ q_985) d_MO_digest_41 ?_
  refine lv_lload_n hx hb d_MO_digest_44 rfl (lv_at hl 1 rfl) ?_
  refine lv_lmul hx hb d_MO_digest_45 ?_
  refine lv_setl (6162137745605403) (by decide) ?_
  refine lv_aload_n hx hb d_MO_digest_46 rfl (lv_at hl 2 rfl) ?_
  refine lv_iload_n hx hb d_MO_digest_47 rfl (lv_at hl 0 rfl) ?_
  have hPc := hP.sub (ws' := [(y, .inr (7, [.int 2, .int 0, .int 3, .int 5, .ref y1, .ref y2, .ref y3, .ref y4, .int 0, .ref y5, .ref y6, .ref y7, .ref y8, .ref y9, .ref y10, .ref y11, .ref y12, .ref y13, .ref y14, .ref y15, .int 0, .ref y16, .ref y17, .ref y18, .ref y19, .ref y20, .ref y21, .ref y22, .ref y23, .ref y24, .ref y25, .ref y26, .ref y27, .int 0, .int 0, .ref y28, .ref y29, .ref y30, .ref y31, .ref y32, .ref y33, .ref y34, .ref y35, .ref y36, .int 0, .ref y37, .ref y38, .int 0, .int 0, .int 0])), (y2, .inl (cI, 7, .inl (fun _ => 0)))]) [0, 1] rfl
  have hDc := hD.sub (ws' := [(y, .inr (7, [.int 2, .int 0, .int 3, .int 5, .ref y1, .ref y2, .ref y3, .ref y4, .int 0, .ref y5, .ref y6, .ref y7, .ref y8, .ref y9, .ref y10, .ref y11, .ref y12, .ref y13, .ref y14, .ref y15, .int 0, .ref y16, .ref y17, .ref y18, .ref y19, .ref y20, .ref y21, .ref y22, .ref y23, .ref y24, .ref y25, .ref y26, .ref y27, .int 0, .int 0, .ref y28, .ref y29, .ref y30, .ref y31, .ref y32, .ref y33, .ref y34, .ref y35, .ref y36, .int 0, .ref y37, .ref y38, .int 0, .int 0, .int 0])), (y2, .inl (cI, 7, .inl (fun _ => 0)))]) [0, 1] (by decide) rfl
  refine vp_callSi (va_Run.run (va_runV (As := [.int 0]) (rest := [.long 6162137745605403]) ⟨hx, hb, hml, hown, hts⟩ (f_MO_wealthOf l D cI cZ y 0 y1 y2 y3 y4 y5 y6 y7 y8 y9 y10 y11 y12 y13 y14 y15 y16 y17 y18 y19 y20 y21 y22 y23 y24 y25 y26 y27 y28 y29 y30 y31 y32 y33 y34 y35 y36 y37 y38 s.heap.size (by decide)) (my_cwV 1 hts q_926 q_923 q_925 q_p21 q_8 rfl rfl (by decide +kernel) ⟨Nat.le_of_ble_eq_true rfl, Nat.le_of_ble_eq_true rfl⟩) (my_preV hPc hDc hK hN 7 0 rfl rfl) rfl rfl hl.1 rfl (lv_room (Nat.le_of_ble_eq_true rfl)) d_MO_digest_48 ⟨Nat.le_of_ble_eq_true rfl, Nat.le_of_ble_eq_true rfl⟩)) (fun r_19 hw_19 => ?_)
  have hw_19 : r_19 = 0 := hw_19
  subst hw_19
  refine lv_i2l (v := 0) hx hb d_MO_digest_51 (by decide) ?_
  refine lv_ladd hx hb d_MO_digest_52 ?_
  refine lv_setl (6162137745605403) (by decide) ?_
  refine lv_lstore_n (lv' := [(1, .long 6162137745605403), (3, .int 0), (0, .ref y)]) hx hb d_MO_digest_53 rfl hl (by decide) rfl (fun ls hl => ?_)
  refine lv_iinc (v := 1) (lv' := [(3, .int 1), (1, .long 6162137745605403), (0, .ref y)]) hx hb d_MO_digest_54 hl (k := 1) rfl (by decide) (by decide) rfl (fun ls hl => ?_)
  refine lv_goto (tgt := 33) hx hb d_MO_digest_57 (by decide) ?_
  refine lv_iload_n hx hb d_MO_digest_33 rfl (lv_at hl 0 rfl) ?_
  refine lv_aload_n hx hb d_MO_digest_34 rfl (lv_at hl 2 rfl) ?_
  refine va_get (D := D) (ci := 7) (v := .int 2) (C := R_MO) (T := F_MO) (N := 50) hx hb hts i_MO hown hK hP 0 rfl rfl 0 (by decide) (hts _ q_632) (fun _ h9 => h9) rfl d_MO_digest_35 ?_
  refine lv_icmp_ge (tgt := 60) hx hb d_MO_digest_38 (by decide) (fun h => absurd h (by decide)) (fun _ => ?_)
  refine lv_ldc2 hx hb hown (hts _ q_985) d_MO_digest_41 ?_
  refine lv_lload_n hx hb d_MO_digest_44 rfl (lv_at hl 1 rfl) ?_
  refine lv_lmul hx hb d_MO_digest_45 ?_
  refine lv_setl (191026270113767493) (by decide) ?_
  refine lv_aload_n hx hb d_MO_digest_46 rfl (lv_at hl 2 rfl) ?_
  refine lv_iload_n hx hb d_MO_digest_47 rfl (lv_at hl 0 rfl) ?_
  have hPc := hP.sub (ws' := [(y, .inr (7, [.int 2, .int 0, .int 3, .int 5, .ref y1, .ref y2, .ref y3, .ref y4, .int 0, .ref y5, .ref y6, .ref y7, .ref y8, .ref y9, .ref y10, .ref y11, .ref y12, .ref y13, .ref y14, .ref y15, .int 0, .ref y16, .ref y17, .ref y18, .ref y19, .ref y20, .ref y21, .ref y22, .ref y23, .ref y24, .ref y25, .ref y26, .ref y27, .int 0, .int 0, .ref y28, .ref y29, .ref y30, .ref y31, .ref y32, .ref y33, .ref y34, .ref y35, .ref y36, .int 0, .ref y37, .ref y38, .int 0, .int 0, .int 0])), (y2, .inl (cI, 7, .inl (fun _ => 0)))]) [0, 1] rfl
  have hDc := hD.sub (ws' := [(y, .inr (7, [.int 2, .int 0, .int 3, .int 5, .ref y1, .ref y2, .ref y3, .ref y4, .int 0, .ref y5, .ref y6, .ref y7, .ref y8, .ref y9, .ref y10, .ref y11, .ref y12, .ref y13, .ref y14, .ref y15, .int 0, .ref y16, .ref y17, .ref y18, .ref y19, .ref y20, .ref y21, .ref y22, .ref y23, .ref y24, .ref y25, .ref y26, .ref y27, .int 0, .int 0, .ref y28, .ref y29, .ref y30, .ref y31, .ref y32, .ref y33, .ref y34, .ref y35, .ref y36, .int 0, .ref y37, .ref y38, .int 0, .int 0, .int 0])), (y2, .inl (cI, 7, .inl (fun _ => 0)))]) [0, 1] (by decide) rfl
  refine vp_callSi (va_Run.run (va_runV (As := [.int 1]) (rest := [.long 191026270113767493]) ⟨hx, hb, hml, hown, hts⟩ (f_MO_wealthOf l D cI cZ y 1 y1 y2 y3 y4 y5 y6 y7 y8 y9 y10 y11 y12 y13 y14 y15 y16 y17 y18 y19 y20 y21 y22 y23 y24 y25 y26 y27 y28 y29 y30 y31 y32 y33 y34 y35 y36 y37 y38 s.heap.size (by decide)) (my_cwV 1 hts q_926 q_923 q_925 q_p21 q_8 rfl rfl (by decide +kernel) ⟨Nat.le_of_ble_eq_true rfl, Nat.le_of_ble_eq_true rfl⟩) (my_preV hPc hDc hK hN 7 0 rfl rfl) rfl rfl hl.1 rfl (lv_room (Nat.le_of_ble_eq_true rfl)) d_MO_digest_48 ⟨Nat.le_of_ble_eq_true rfl, Nat.le_of_ble_eq_true rfl⟩)) (fun r_21 hw_21 => ?_)
  have hw_21 : r_21 = 0 := hw_21
  subst hw_21
  refine lv_i2l (v := 0) hx hb d_MO_digest_51 (by decide) ?_
  refine lv_ladd hx hb d_MO_digest_52 ?_
  refine lv_setl (191026270113767493) (by decide) ?_
  refine lv_lstore_n (lv' := [(1, .long 191026270113767493), (3, .int 1), (0, .ref y)]) hx hb d_MO_digest_53 rfl hl (by decide) rfl (fun ls hl => ?_)
  refine lv_iinc (v := 2) (lv' := [(3, .int 2), (1, .long 191026270113767493), (0, .ref y)]) hx hb d_MO_digest_54 hl (k := 1) rfl (by decide) (by decide) rfl (fun ls hl => ?_)
  refine lv_goto (tgt := 33) hx hb d_MO_digest_57 (by decide) ?_
  refine lv_iload_n hx hb d_MO_digest_33 rfl (lv_at hl 0 rfl) ?_
  refine lv_aload_n hx hb d_MO_digest_34 rfl (lv_at hl 2 rfl) ?_
  refine va_get (D := D) (ci := 7) (v := .int 2) (C := R_MO) (T := F_MO) (N := 50) hx hb hts i_MO hown hK hP 0 rfl rfl 0 (by decide) (hts _ q_632) (fun _ h9 => h9) rfl d_MO_digest_35 ?_
  refine lv_icmp_ge (tgt := 60) hx hb d_MO_digest_38 (by decide) (fun _ => ?_) (fun h => absurd h (by decide))
  refine lv_iconst (v := 0) hx hb d_MO_digest_60 (by decide) ?_
  refine lv_istore_n (lv' := [(3, .int 0), (1, .long 191026270113767493), (0, .ref y)]) hx hb d_MO_digest_61 rfl hl (by decide) rfl (fun ls hl => ?_)
  refine lv_iload_n hx hb d_MO_digest_62 rfl (lv_at hl 0 rfl) ?_
  refine lv_aload_n hx hb d_MO_digest_63 rfl (lv_at hl 2 rfl) ?_
  refine va_get (D := D) (ci := 7) (v := .int 0) (C := R_MO) (T := F_MO) (N := 50) hx hb hts i_MO hown hK hP 0 rfl rfl 8 (by decide) (hts _ q_640) (fun _ h9 => h9) rfl d_MO_digest_64 ?_
  refine lv_icmp_ge (tgt := 194) hx hb d_MO_digest_67 (by decide) (fun _ => ?_) (fun h => absurd h (by decide))
  refine lv_iconst (v := 0) hx hb d_MO_digest_194 (by decide) ?_
  refine lv_istore_n (lv' := [(3, .int 0), (1, .long 191026270113767493), (0, .ref y)]) hx hb d_MO_digest_195 rfl hl (by decide) rfl (fun ls hl => ?_)
  refine lv_iload_n hx hb d_MO_digest_196 rfl (lv_at hl 0 rfl) ?_
  refine lv_aload_n hx hb d_MO_digest_197 rfl (lv_at hl 2 rfl) ?_
  refine va_get (D := D) (ci := 7) (v := .int 0) (C := R_MO) (T := F_MO) (N := 50) hx hb hts i_MO hown hK hP 0 rfl rfl 20 (by decide) (hts _ q_652) (fun _ h9 => h9) rfl d_MO_digest_198 ?_
  refine lv_icmp_ge (tgt := 241) hx hb d_MO_digest_201 (by decide) (fun _ => ?_) (fun h => absurd h (by decide))
  refine lv_lload_n hx hb d_MO_digest_241 rfl (lv_at hl 1 rfl) ?_
  exact W.lret (v := 191026270113767493) hx hb hr (fun t ht hW => ⟨191026270113767493, rfl, rfl, ht⟩) (fun q h => absurd h List.not_mem_nil) d_MO_digest_242
