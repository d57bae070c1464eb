theorem gd_PR_begin_0 : (decode prog_4_method_2_code 0 = .ok (.aload_n 0, 1)) ∧ (decode prog_4_method_2_code 1 = .ok (.iconst 0, 1)) ∧ (decode prog_4_method_2_code 2 = .ok (.putfield 9, 3)) ∧ (decode prog_4_method_2_code 5 = .ok (.aload_n 0, 1)) ∧ (decode prog_4_method_2_code 6 = .ok (.iconst 0, 1)) ∧ (decode prog_4_method_2_code 7 = .ok (.putfield 15, 3)) ∧ (decode prog_4_method_2_code 10 = .ok (.return_, 1)) := by decide +kernel
theorem d_PR_begin_0 : decode prog_4_method_2_code 0 = .ok (.aload_n 0, 1) := gd_PR_begin_0.1
theorem d_PR_begin_1 : decode prog_4_method_2_code 1 = .ok (.iconst 0, 1) := gd_PR_begin_0.2.1
theorem d_PR_begin_2 : decode prog_4_method_2_code 2 = .ok (.putfield 9, 3) := gd_PR_begin_0.2.2.1
theorem d_PR_begin_5 : decode prog_4_method_2_code 5 = .ok (.aload_n 0, 1) := gd_PR_begin_0.2.2.2.1
theorem d_PR_begin_6 : decode prog_4_method_2_code 6 = .ok (.iconst 0, 1) := gd_PR_begin_0.2.2.2.2.1
theorem d_PR_begin_7 : decode prog_4_method_2_code 7 = .ok (.putfield 15, 3) := gd_PR_begin_0.2.2.2.2.2.1
theorem d_PR_begin_10 : decode prog_4_method_2_code 10 = .ok (.return_, 1) := gd_PR_begin_0.2.2.2.2.2.2
theorem gd_PE_begin_0 : (decode prog_3_method_2_code 0 = .ok (.aload_n 0, 1)) ∧ (decode prog_3_method_2_code 1 = .ok (.iload_n 1, 1)) ∧ (decode prog_3_method_2_code 2 = .ok (.putfield 9, 3)) ∧ (decode prog_3_method_2_code 5 = .ok (.iconst 0, 1)) ∧ (decode prog_3_method_2_code 6 = .ok (.istore_n 2, 1)) ∧ (decode prog_3_method_2_code 7 = .ok (.iload_n 2, 1)) ∧ (decode prog_3_method_2_code 8 = .ok (.bipush 7, 2)) ∧ (decode prog_3_method_2_code 10 = .ok (.if_icmp .ge 37, 3)) ∧ (decode prog_3_method_2_code 47 = .ok (.return_, 1)) ∧ (decode prog_3_method_2_code 13 = .ok (.aload_n 0, 1)) := by decide +kernel
theorem d_PE_begin_0 : decode prog_3_method_2_code 0 = .ok (.aload_n 0, 1) := gd_PE_begin_0.1
theorem d_PE_begin_1 : decode prog_3_method_2_code 1 = .ok (.iload_n 1, 1) := gd_PE_begin_0.2.1
theorem d_PE_begin_2 : decode prog_3_method_2_code 2 = .ok (.putfield 9, 3) := gd_PE_begin_0.2.2.1
theorem d_PE_begin_5 : decode prog_3_method_2_code 5 = .ok (.iconst 0, 1) := gd_PE_begin_0.2.2.2.1
theorem d_PE_begin_6 : decode prog_3_method_2_code 6 = .ok (.istore_n 2, 1) := gd_PE_begin_0.2.2.2.2.1
theorem d_PE_begin_7 : decode prog_3_method_2_code 7 = .ok (.iload_n 2, 1) := gd_PE_begin_0.2.2.2.2.2.1
theorem d_PE_begin_8 : decode prog_3_method_2_code 8 = .ok (.bipush 7, 2) := gd_PE_begin_0.2.2.2.2.2.2.1
theorem d_PE_begin_10 : decode prog_3_method_2_code 10 = .ok (.if_icmp .ge 37, 3) := gd_PE_begin_0.2.2.2.2.2.2.2.1
theorem d_PE_begin_47 : decode prog_3_method_2_code 47 = .ok (.return_, 1) := gd_PE_begin_0.2.2.2.2.2.2.2.2.1
theorem d_PE_begin_13 : decode prog_3_method_2_code 13 = .ok (.aload_n 0, 1) := gd_PE_begin_0.2.2.2.2.2.2.2.2.2
theorem gd_PE_begin_14 : (decode prog_3_method_2_code 14 = .ok (.getfield 15, 3)) ∧ (decode prog_3_method_2_code 17 = .ok (.iload_n 2, 1)) ∧ (decode prog_3_method_2_code 18 = .ok (.iconst 0, 1)) ∧ (decode prog_3_method_2_code 19 = .ok (.iastore, 1)) ∧ (decode prog_3_method_2_code 20 = .ok (.aload_n 0, 1)) ∧ (decode prog_3_method_2_code 21 = .ok (.getfield 19, 3)) ∧ (decode prog_3_method_2_code 24 = .ok (.iload_n 2, 1)) ∧ (decode prog_3_method_2_code 25 = .ok (.iconst 0, 1)) ∧ (decode prog_3_method_2_code 26 = .ok (.iastore, 1)) ∧ (decode prog_3_method_2_code 27 = .ok (.aload_n 0, 1)) := by decide +kernel
theorem d_PE_begin_14 : decode prog_3_method_2_code 14 = .ok (.getfield 15, 3) := gd_PE_begin_14.1
theorem d_PE_begin_17 : decode prog_3_method_2_code 17 = .ok (.iload_n 2, 1) := gd_PE_begin_14.2.1
theorem d_PE_begin_18 : decode prog_3_method_2_code 18 = .ok (.iconst 0, 1) := gd_PE_begin_14.2.2.1
theorem d_PE_begin_19 : decode prog_3_method_2_code 19 = .ok (.iastore, 1) := gd_PE_begin_14.2.2.2.1
theorem d_PE_begin_20 : decode prog_3_method_2_code 20 = .ok (.aload_n 0, 1) := gd_PE_begin_14.2.2.2.2.1
theorem d_PE_begin_21 : decode prog_3_method_2_code 21 = .ok (.getfield 19, 3) := gd_PE_begin_14.2.2.2.2.2.1
theorem d_PE_begin_24 : decode prog_3_method_2_code 24 = .ok (.iload_n 2, 1) := gd_PE_begin_14.2.2.2.2.2.2.1
theorem d_PE_begin_25 : decode prog_3_method_2_code 25 = .ok (.iconst 0, 1) := gd_PE_begin_14.2.2.2.2.2.2.2.1
theorem d_PE_begin_26 : decode prog_3_method_2_code 26 = .ok (.iastore, 1) := gd_PE_begin_14.2.2.2.2.2.2.2.2.1
theorem d_PE_begin_27 : decode prog_3_method_2_code 27 = .ok (.aload_n 0, 1) := gd_PE_begin_14.2.2.2.2.2.2.2.2.2
theorem gd_PE_begin_28 : (decode prog_3_method_2_code 28 = .ok (.getfield 22, 3)) ∧ (decode prog_3_method_2_code 31 = .ok (.iload_n 2, 1)) ∧ (decode prog_3_method_2_code 32 = .ok (.iconst 0, 1)) ∧ (decode prog_3_method_2_code 33 = .ok (.iastore, 1)) ∧ (decode prog_3_method_2_code 34 = .ok (.aload_n 0, 1)) ∧ (decode prog_3_method_2_code 35 = .ok (.getfield 25, 3)) ∧ (decode prog_3_method_2_code 38 = .ok (.iload_n 2, 1)) ∧ (decode prog_3_method_2_code 39 = .ok (.iconst 0, 1)) ∧ (decode prog_3_method_2_code 40 = .ok (.bastore, 1)) ∧ (decode prog_3_method_2_code 41 = .ok (.iinc 2 1, 3)) := by decide +kernel
theorem d_PE_begin_28 : decode prog_3_method_2_code 28 = .ok (.getfield 22, 3) := gd_PE_begin_28.1
theorem d_PE_begin_31 : decode prog_3_method_2_code 31 = .ok (.iload_n 2, 1) := gd_PE_begin_28.2.1
theorem d_PE_begin_32 : decode prog_3_method_2_code 32 = .ok (.iconst 0, 1) := gd_PE_begin_28.2.2.1
theorem d_PE_begin_33 : decode prog_3_method_2_code 33 = .ok (.iastore, 1) := gd_PE_begin_28.2.2.2.1
theorem d_PE_begin_34 : decode prog_3_method_2_code 34 = .ok (.aload_n 0, 1) := gd_PE_begin_28.2.2.2.2.1
theorem d_PE_begin_35 : decode prog_3_method_2_code 35 = .ok (.getfield 25, 3) := gd_PE_begin_28.2.2.2.2.2.1
theorem d_PE_begin_38 : decode prog_3_method_2_code 38 = .ok (.iload_n 2, 1) := gd_PE_begin_28.2.2.2.2.2.2.1
theorem d_PE_begin_39 : decode prog_3_method_2_code 39 = .ok (.iconst 0, 1) := gd_PE_begin_28.2.2.2.2.2.2.2.1
theorem d_PE_begin_40 : decode prog_3_method_2_code 40 = .ok (.bastore, 1) := gd_PE_begin_28.2.2.2.2.2.2.2.2.1
theorem d_PE_begin_41 : decode prog_3_method_2_code 41 = .ok (.iinc 2 1, 3) := gd_PE_begin_28.2.2.2.2.2.2.2.2.2
theorem d_PE_begin_44 : decode prog_3_method_2_code 44 = .ok (.goto (-37), 3) := by decide +kernel
theorem gd_RO_init_0 : (decode prog_6_method_1_code 0 = .ok (.aload_n 0, 1)) ∧ (decode prog_6_method_1_code 1 = .ok (.invokespecial 3, 3)) ∧ (decode prog_6_method_1_code 4 = .ok (.aload_n 0, 1)) ∧ (decode prog_6_method_1_code 5 = .ok (.iconst 0, 1)) ∧ (decode prog_6_method_1_code 6 = .ok (.putfield 9, 3)) ∧ (decode prog_6_method_1_code 9 = .ok (.aload_n 0, 1)) ∧ (decode prog_6_method_1_code 10 = .ok (.bipush 7, 2)) ∧ (decode prog_6_method_1_code 12 = .ok (.newarray .int, 2)) ∧ (decode prog_6_method_1_code 14 = .ok (.putfield 15, 3)) ∧ (decode prog_6_method_1_code 17 = .ok (.aload_n 0, 1)) := by decide +kernel
theorem d_RO_init_0 : decode prog_6_method_1_code 0 = .ok (.aload_n 0, 1) := gd_RO_init_0.1
theorem d_RO_init_1 : decode prog_6_method_1_code 1 = .ok (.invokespecial 3, 3) := gd_RO_init_0.2.1
theorem d_RO_init_4 : decode prog_6_method_1_code 4 = .ok (.aload_n 0, 1) := gd_RO_init_0.2.2.1
theorem d_RO_init_5 : decode prog_6_method_1_code 5 = .ok (.iconst 0, 1) := gd_RO_init_0.2.2.2.1
theorem d_RO_init_6 : decode prog_6_method_1_code 6 = .ok (.putfield 9, 3) := gd_RO_init_0.2.2.2.2.1
theorem d_RO_init_9 : decode prog_6_method_1_code 9 = .ok (.aload_n 0, 1) := gd_RO_init_0.2.2.2.2.2.1
theorem d_RO_init_10 : decode prog_6_method_1_code 10 = .ok (.bipush 7, 2) := gd_RO_init_0.2.2.2.2.2.2.1
theorem d_RO_init_12 : decode prog_6_method_1_code 12 = .ok (.newarray .int, 2) := gd_RO_init_0.2.2.2.2.2.2.2.1
theorem d_RO_init_14 : decode prog_6_method_1_code 14 = .ok (.putfield 15, 3) := gd_RO_init_0.2.2.2.2.2.2.2.2.1
theorem d_RO_init_17 : decode prog_6_method_1_code 17 = .ok (.aload_n 0, 1) := gd_RO_init_0.2.2.2.2.2.2.2.2.2
theorem gd_RO_init_18 : (decode prog_6_method_1_code 18 = .ok (.bipush 7, 2)) ∧ (decode prog_6_method_1_code 20 = .ok (.newarray .int, 2)) ∧ (decode prog_6_method_1_code 22 = .ok (.putfield 19, 3)) ∧ (decode prog_6_method_1_code 25 = .ok (.return_, 1)) := by decide +kernel
theorem d_RO_init_18 : decode prog_6_method_1_code 18 = .ok (.bipush 7, 2) := gd_RO_init_18.1
theorem d_RO_init_20 : decode prog_6_method_1_code 20 = .ok (.newarray .int, 2) := gd_RO_init_18.2.1
theorem d_RO_init_22 : decode prog_6_method_1_code 22 = .ok (.putfield 19, 3) := gd_RO_init_18.2.2.1
theorem d_RO_init_25 : decode prog_6_method_1_code 25 = .ok (.return_, 1) := gd_RO_init_18.2.2.2
theorem gd_PE_init_0 : (decode prog_3_method_1_code 0 = .ok (.aload_n 0, 1)) ∧ (decode prog_3_method_1_code 1 = .ok (.invokespecial 3, 3)) ∧ (decode prog_3_method_1_code 4 = .ok (.aload_n 0, 1)) ∧ (decode prog_3_method_1_code 5 = .ok (.iconst 0, 1)) ∧ (decode prog_3_method_1_code 6 = .ok (.putfield 9, 3)) ∧ (decode prog_3_method_1_code 9 = .ok (.aload_n 0, 1)) ∧ (decode prog_3_method_1_code 10 = .ok (.bipush 7, 2)) ∧ (decode prog_3_method_1_code 12 = .ok (.newarray .int, 2)) ∧ (decode prog_3_method_1_code 14 = .ok (.putfield 15, 3)) ∧ (decode prog_3_method_1_code 17 = .ok (.aload_n 0, 1)) := by decide +kernel
theorem d_PE_init_0 : decode prog_3_method_1_code 0 = .ok (.aload_n 0, 1) := gd_PE_init_0.1
theorem d_PE_init_1 : decode prog_3_method_1_code 1 = .ok (.invokespecial 3, 3) := gd_PE_init_0.2.1
theorem d_PE_init_4 : decode prog_3_method_1_code 4 = .ok (.aload_n 0, 1) := gd_PE_init_0.2.2.1
theorem d_PE_init_5 : decode prog_3_method_1_code 5 = .ok (.iconst 0, 1) := gd_PE_init_0.2.2.2.1
theorem d_PE_init_6 : decode prog_3_method_1_code 6 = .ok (.putfield 9, 3) := gd_PE_init_0.2.2.2.2.1
theorem d_PE_init_9 : decode prog_3_method_1_code 9 = .ok (.aload_n 0, 1) := gd_PE_init_0.2.2.2.2.2.1
theorem d_PE_init_10 : decode prog_3_method_1_code 10 = .ok (.bipush 7, 2) := gd_PE_init_0.2.2.2.2.2.2.1
theorem d_PE_init_12 : decode prog_3_method_1_code 12 = .ok (.newarray .int, 2) := gd_PE_init_0.2.2.2.2.2.2.2.1
theorem d_PE_init_14 : decode prog_3_method_1_code 14 = .ok (.putfield 15, 3) := gd_PE_init_0.2.2.2.2.2.2.2.2.1
theorem d_PE_init_17 : decode prog_3_method_1_code 17 = .ok (.aload_n 0, 1) := gd_PE_init_0.2.2.2.2.2.2.2.2.2
theorem gd_PE_init_18 : (decode prog_3_method_1_code 18 = .ok (.bipush 7, 2)) ∧ (decode prog_3_method_1_code 20 = .ok (.newarray .int, 2)) ∧ (decode prog_3_method_1_code 22 = .ok (.putfield 19, 3)) ∧ (decode prog_3_method_1_code 25 = .ok (.aload_n 0, 1)) ∧ (decode prog_3_method_1_code 26 = .ok (.bipush 7, 2)) ∧ (decode prog_3_method_1_code 28 = .ok (.newarray .int, 2)) ∧ (decode prog_3_method_1_code 30 = .ok (.putfield 22, 3)) ∧ (decode prog_3_method_1_code 33 = .ok (.aload_n 0, 1)) ∧ (decode prog_3_method_1_code 34 = .ok (.bipush 7, 2)) ∧ (decode prog_3_method_1_code 36 = .ok (.newarray .boolean, 2)) := by decide +kernel
theorem d_PE_init_18 : decode prog_3_method_1_code 18 = .ok (.bipush 7, 2) := gd_PE_init_18.1
theorem d_PE_init_20 : decode prog_3_method_1_code 20 = .ok (.newarray .int, 2) := gd_PE_init_18.2.1
theorem d_PE_init_22 : decode prog_3_method_1_code 22 = .ok (.putfield 19, 3) := gd_PE_init_18.2.2.1
theorem d_PE_init_25 : decode prog_3_method_1_code 25 = .ok (.aload_n 0, 1) := gd_PE_init_18.2.2.2.1
theorem d_PE_init_26 : decode prog_3_method_1_code 26 = .ok (.bipush 7, 2) := gd_PE_init_18.2.2.2.2.1
theorem d_PE_init_28 : decode prog_3_method_1_code 28 = .ok (.newarray .int, 2) := gd_PE_init_18.2.2.2.2.2.1
theorem d_PE_init_30 : decode prog_3_method_1_code 30 = .ok (.putfield 22, 3) := gd_PE_init_18.2.2.2.2.2.2.1
theorem d_PE_init_33 : decode prog_3_method_1_code 33 = .ok (.aload_n 0, 1) := gd_PE_init_18.2.2.2.2.2.2.2.1
theorem d_PE_init_34 : decode prog_3_method_1_code 34 = .ok (.bipush 7, 2) := gd_PE_init_18.2.2.2.2.2.2.2.2.1
theorem d_PE_init_36 : decode prog_3_method_1_code 36 = .ok (.newarray .boolean, 2) := gd_PE_init_18.2.2.2.2.2.2.2.2.2
theorem gd_PE_init_38 : (decode prog_3_method_1_code 38 = .ok (.putfield 25, 3)) ∧ (decode prog_3_method_1_code 41 = .ok (.return_, 1)) := by decide +kernel
theorem d_PE_init_38 : decode prog_3_method_1_code 38 = .ok (.putfield 25, 3) := gd_PE_init_38.1
theorem d_PE_init_41 : decode prog_3_method_1_code 41 = .ok (.return_, 1) := gd_PE_init_38.2
theorem gd_PA_init_0 : (decode prog_2_method_1_code 0 = .ok (.aload_n 0, 1)) ∧ (decode prog_2_method_1_code 1 = .ok (.invokespecial 3, 3)) ∧ (decode prog_2_method_1_code 4 = .ok (.aload_n 0, 1)) ∧ (decode prog_2_method_1_code 5 = .ok (.iconst 0, 1)) ∧ (decode prog_2_method_1_code 6 = .ok (.putfield 9, 3)) ∧ (decode prog_2_method_1_code 9 = .ok (.aload_n 0, 1)) ∧ (decode prog_2_method_1_code 10 = .ok (.bipush 24, 2)) ∧ (decode prog_2_method_1_code 12 = .ok (.newarray .int, 2)) ∧ (decode prog_2_method_1_code 14 = .ok (.putfield 15, 3)) ∧ (decode prog_2_method_1_code 17 = .ok (.aload_n 0, 1)) := by decide +kernel
theorem d_PA_init_0 : decode prog_2_method_1_code 0 = .ok (.aload_n 0, 1) := gd_PA_init_0.1
theorem d_PA_init_1 : decode prog_2_method_1_code 1 = .ok (.invokespecial 3, 3) := gd_PA_init_0.2.1
theorem d_PA_init_4 : decode prog_2_method_1_code 4 = .ok (.aload_n 0, 1) := gd_PA_init_0.2.2.1
theorem d_PA_init_5 : decode prog_2_method_1_code 5 = .ok (.iconst 0, 1) := gd_PA_init_0.2.2.2.1
theorem d_PA_init_6 : decode prog_2_method_1_code 6 = .ok (.putfield 9, 3) := gd_PA_init_0.2.2.2.2.1
theorem d_PA_init_9 : decode prog_2_method_1_code 9 = .ok (.aload_n 0, 1) := gd_PA_init_0.2.2.2.2.2.1
theorem d_PA_init_10 : decode prog_2_method_1_code 10 = .ok (.bipush 24, 2) := gd_PA_init_0.2.2.2.2.2.2.1
theorem d_PA_init_12 : decode prog_2_method_1_code 12 = .ok (.newarray .int, 2) := gd_PA_init_0.2.2.2.2.2.2.2.1
theorem d_PA_init_14 : decode prog_2_method_1_code 14 = .ok (.putfield 15, 3) := gd_PA_init_0.2.2.2.2.2.2.2.2.1
theorem d_PA_init_17 : decode prog_2_method_1_code 17 = .ok (.aload_n 0, 1) := gd_PA_init_0.2.2.2.2.2.2.2.2.2
theorem gd_PA_init_18 : (decode prog_2_method_1_code 18 = .ok (.bipush 24, 2)) ∧ (decode prog_2_method_1_code 20 = .ok (.newarray .int, 2)) ∧ (decode prog_2_method_1_code 22 = .ok (.putfield 19, 3)) ∧ (decode prog_2_method_1_code 25 = .ok (.aload_n 0, 1)) ∧ (decode prog_2_method_1_code 26 = .ok (.bipush 24, 2)) ∧ (decode prog_2_method_1_code 28 = .ok (.newarray .int, 2)) ∧ (decode prog_2_method_1_code 30 = .ok (.putfield 22, 3)) ∧ (decode prog_2_method_1_code 33 = .ok (.aload_n 0, 1)) ∧ (decode prog_2_method_1_code 34 = .ok (.sipush 1536, 3)) ∧ (decode prog_2_method_1_code 37 = .ok (.newarray .int, 2)) := by decide +kernel
theorem d_PA_init_18 : decode prog_2_method_1_code 18 = .ok (.bipush 24, 2) := gd_PA_init_18.1
theorem d_PA_init_20 : decode prog_2_method_1_code 20 = .ok (.newarray .int, 2) := gd_PA_init_18.2.1
theorem d_PA_init_22 : decode prog_2_method_1_code 22 = .ok (.putfield 19, 3) := gd_PA_init_18.2.2.1
theorem d_PA_init_25 : decode prog_2_method_1_code 25 = .ok (.aload_n 0, 1) := gd_PA_init_18.2.2.2.1
theorem d_PA_init_26 : decode prog_2_method_1_code 26 = .ok (.bipush 24, 2) := gd_PA_init_18.2.2.2.2.1
theorem d_PA_init_28 : decode prog_2_method_1_code 28 = .ok (.newarray .int, 2) := gd_PA_init_18.2.2.2.2.2.1
theorem d_PA_init_30 : decode prog_2_method_1_code 30 = .ok (.putfield 22, 3) := gd_PA_init_18.2.2.2.2.2.2.1
theorem d_PA_init_33 : decode prog_2_method_1_code 33 = .ok (.aload_n 0, 1) := gd_PA_init_18.2.2.2.2.2.2.2.1
theorem d_PA_init_34 : decode prog_2_method_1_code 34 = .ok (.sipush 1536, 3) := gd_PA_init_18.2.2.2.2.2.2.2.2.1
theorem d_PA_init_37 : decode prog_2_method_1_code 37 = .ok (.newarray .int, 2) := gd_PA_init_18.2.2.2.2.2.2.2.2.2
theorem gd_PA_init_39 : (decode prog_2_method_1_code 39 = .ok (.putfield 25, 3)) ∧ (decode prog_2_method_1_code 42 = .ok (.aload_n 0, 1)) ∧ (decode prog_2_method_1_code 43 = .ok (.bipush 12, 2)) ∧ (decode prog_2_method_1_code 45 = .ok (.newarray .int, 2)) ∧ (decode prog_2_method_1_code 47 = .ok (.putfield 28, 3)) ∧ (decode prog_2_method_1_code 50 = .ok (.aload_n 0, 1)) ∧ (decode prog_2_method_1_code 51 = .ok (.bipush 12, 2)) ∧ (decode prog_2_method_1_code 53 = .ok (.newarray .int, 2)) ∧ (decode prog_2_method_1_code 55 = .ok (.putfield 31, 3)) ∧ (decode prog_2_method_1_code 58 = .ok (.aload_n 0, 1)) := by decide +kernel
theorem d_PA_init_39 : decode prog_2_method_1_code 39 = .ok (.putfield 25, 3) := gd_PA_init_39.1
theorem d_PA_init_42 : decode prog_2_method_1_code 42 = .ok (.aload_n 0, 1) := gd_PA_init_39.2.1
theorem d_PA_init_43 : decode prog_2_method_1_code 43 = .ok (.bipush 12, 2) := gd_PA_init_39.2.2.1
theorem d_PA_init_45 : decode prog_2_method_1_code 45 = .ok (.newarray .int, 2) := gd_PA_init_39.2.2.2.1
theorem d_PA_init_47 : decode prog_2_method_1_code 47 = .ok (.putfield 28, 3) := gd_PA_init_39.2.2.2.2.1
theorem d_PA_init_50 : decode prog_2_method_1_code 50 = .ok (.aload_n 0, 1) := gd_PA_init_39.2.2.2.2.2.1
theorem d_PA_init_51 : decode prog_2_method_1_code 51 = .ok (.bipush 12, 2) := gd_PA_init_39.2.2.2.2.2.2.1
theorem d_PA_init_53 : decode prog_2_method_1_code 53 = .ok (.newarray .int, 2) := gd_PA_init_39.2.2.2.2.2.2.2.1
theorem d_PA_init_55 : decode prog_2_method_1_code 55 = .ok (.putfield 31, 3) := gd_PA_init_39.2.2.2.2.2.2.2.2.1
theorem d_PA_init_58 : decode prog_2_method_1_code 58 = .ok (.aload_n 0, 1) := gd_PA_init_39.2.2.2.2.2.2.2.2.2
theorem gd_PA_init_59 : (decode prog_2_method_1_code 59 = .ok (.bipush 12, 2)) ∧ (decode prog_2_method_1_code 61 = .ok (.newarray .int, 2)) ∧ (decode prog_2_method_1_code 63 = .ok (.putfield 34, 3)) ∧ (decode prog_2_method_1_code 66 = .ok (.aload_n 0, 1)) ∧ (decode prog_2_method_1_code 67 = .ok (.bipush 12, 2)) ∧ (decode prog_2_method_1_code 69 = .ok (.newarray .int, 2)) ∧ (decode prog_2_method_1_code 71 = .ok (.putfield 37, 3)) ∧ (decode prog_2_method_1_code 74 = .ok (.aload_n 0, 1)) ∧ (decode prog_2_method_1_code 75 = .ok (.bipush 12, 2)) ∧ (decode prog_2_method_1_code 77 = .ok (.newarray .int, 2)) := by decide +kernel
theorem d_PA_init_59 : decode prog_2_method_1_code 59 = .ok (.bipush 12, 2) := gd_PA_init_59.1
theorem d_PA_init_61 : decode prog_2_method_1_code 61 = .ok (.newarray .int, 2) := gd_PA_init_59.2.1
theorem d_PA_init_63 : decode prog_2_method_1_code 63 = .ok (.putfield 34, 3) := gd_PA_init_59.2.2.1
theorem d_PA_init_66 : decode prog_2_method_1_code 66 = .ok (.aload_n 0, 1) := gd_PA_init_59.2.2.2.1
theorem d_PA_init_67 : decode prog_2_method_1_code 67 = .ok (.bipush 12, 2) := gd_PA_init_59.2.2.2.2.1
theorem d_PA_init_69 : decode prog_2_method_1_code 69 = .ok (.newarray .int, 2) := gd_PA_init_59.2.2.2.2.2.1
theorem d_PA_init_71 : decode prog_2_method_1_code 71 = .ok (.putfield 37, 3) := gd_PA_init_59.2.2.2.2.2.2.1
theorem d_PA_init_74 : decode prog_2_method_1_code 74 = .ok (.aload_n 0, 1) := gd_PA_init_59.2.2.2.2.2.2.2.1
theorem d_PA_init_75 : decode prog_2_method_1_code 75 = .ok (.bipush 12, 2) := gd_PA_init_59.2.2.2.2.2.2.2.2.1
theorem d_PA_init_77 : decode prog_2_method_1_code 77 = .ok (.newarray .int, 2) := gd_PA_init_59.2.2.2.2.2.2.2.2.2
theorem gd_PA_init_79 : (decode prog_2_method_1_code 79 = .ok (.putfield 40, 3)) ∧ (decode prog_2_method_1_code 82 = .ok (.aload_n 0, 1)) ∧ (decode prog_2_method_1_code 83 = .ok (.bipush 12, 2)) ∧ (decode prog_2_method_1_code 85 = .ok (.newarray .int, 2)) ∧ (decode prog_2_method_1_code 87 = .ok (.putfield 43, 3)) ∧ (decode prog_2_method_1_code 90 = .ok (.aload_n 0, 1)) ∧ (decode prog_2_method_1_code 91 = .ok (.bipush 12, 2)) ∧ (decode prog_2_method_1_code 93 = .ok (.newarray .int, 2)) ∧ (decode prog_2_method_1_code 95 = .ok (.putfield 46, 3)) ∧ (decode prog_2_method_1_code 98 = .ok (.return_, 1)) := by decide +kernel
theorem d_PA_init_79 : decode prog_2_method_1_code 79 = .ok (.putfield 40, 3) := gd_PA_init_79.1
theorem d_PA_init_82 : decode prog_2_method_1_code 82 = .ok (.aload_n 0, 1) := gd_PA_init_79.2.1
theorem d_PA_init_83 : decode prog_2_method_1_code 83 = .ok (.bipush 12, 2) := gd_PA_init_79.2.2.1
theorem d_PA_init_85 : decode prog_2_method_1_code 85 = .ok (.newarray .int, 2) := gd_PA_init_79.2.2.2.1
theorem d_PA_init_87 : decode prog_2_method_1_code 87 = .ok (.putfield 43, 3) := gd_PA_init_79.2.2.2.2.1
theorem d_PA_init_90 : decode prog_2_method_1_code 90 = .ok (.aload_n 0, 1) := gd_PA_init_79.2.2.2.2.2.1
theorem d_PA_init_91 : decode prog_2_method_1_code 91 = .ok (.bipush 12, 2) := gd_PA_init_79.2.2.2.2.2.2.1
theorem d_PA_init_93 : decode prog_2_method_1_code 93 = .ok (.newarray .int, 2) := gd_PA_init_79.2.2.2.2.2.2.2.1
theorem d_PA_init_95 : decode prog_2_method_1_code 95 = .ok (.putfield 46, 3) := gd_PA_init_79.2.2.2.2.2.2.2.2.1
theorem d_PA_init_98 : decode prog_2_method_1_code 98 = .ok (.return_, 1) := gd_PA_init_79.2.2.2.2.2.2.2.2.2
theorem gd_PR_init_0 : (decode prog_4_method_1_code 0 = .ok (.aload_n 0, 1)) ∧ (decode prog_4_method_1_code 1 = .ok (.invokespecial 3, 3)) ∧ (decode prog_4_method_1_code 4 = .ok (.aload_n 0, 1)) ∧ (decode prog_4_method_1_code 5 = .ok (.iconst 0, 1)) ∧ (decode prog_4_method_1_code 6 = .ok (.putfield 9, 3)) ∧ (decode prog_4_method_1_code 9 = .ok (.aload_n 0, 1)) ∧ (decode prog_4_method_1_code 10 = .ok (.iconst 0, 1)) ∧ (decode prog_4_method_1_code 11 = .ok (.putfield 15, 3)) ∧ (decode prog_4_method_1_code 14 = .ok (.aload_n 0, 1)) ∧ (decode prog_4_method_1_code 15 = .ok (.bipush 40, 2)) := by decide +kernel
theorem d_PR_init_0 : decode prog_4_method_1_code 0 = .ok (.aload_n 0, 1) := gd_PR_init_0.1
theorem d_PR_init_1 : decode prog_4_method_1_code 1 = .ok (.invokespecial 3, 3) := gd_PR_init_0.2.1
theorem d_PR_init_4 : decode prog_4_method_1_code 4 = .ok (.aload_n 0, 1) := gd_PR_init_0.2.2.1
theorem d_PR_init_5 : decode prog_4_method_1_code 5 = .ok (.iconst 0, 1) := gd_PR_init_0.2.2.2.1
theorem d_PR_init_6 : decode prog_4_method_1_code 6 = .ok (.putfield 9, 3) := gd_PR_init_0.2.2.2.2.1
theorem d_PR_init_9 : decode prog_4_method_1_code 9 = .ok (.aload_n 0, 1) := gd_PR_init_0.2.2.2.2.2.1
theorem d_PR_init_10 : decode prog_4_method_1_code 10 = .ok (.iconst 0, 1) := gd_PR_init_0.2.2.2.2.2.2.1
theorem d_PR_init_11 : decode prog_4_method_1_code 11 = .ok (.putfield 15, 3) := gd_PR_init_0.2.2.2.2.2.2.2.1
theorem d_PR_init_14 : decode prog_4_method_1_code 14 = .ok (.aload_n 0, 1) := gd_PR_init_0.2.2.2.2.2.2.2.2.1
theorem d_PR_init_15 : decode prog_4_method_1_code 15 = .ok (.bipush 40, 2) := gd_PR_init_0.2.2.2.2.2.2.2.2.2
theorem gd_PR_init_17 : (decode prog_4_method_1_code 17 = .ok (.newarray .int, 2)) ∧ (decode prog_4_method_1_code 19 = .ok (.putfield 18, 3)) ∧ (decode prog_4_method_1_code 22 = .ok (.aload_n 0, 1)) ∧ (decode prog_4_method_1_code 23 = .ok (.bipush 40, 2)) ∧ (decode prog_4_method_1_code 25 = .ok (.newarray .int, 2)) ∧ (decode prog_4_method_1_code 27 = .ok (.putfield 22, 3)) ∧ (decode prog_4_method_1_code 30 = .ok (.aload_n 0, 1)) ∧ (decode prog_4_method_1_code 31 = .ok (.bipush 40, 2)) ∧ (decode prog_4_method_1_code 33 = .ok (.newarray .int, 2)) ∧ (decode prog_4_method_1_code 35 = .ok (.putfield 25, 3)) := by decide +kernel
theorem d_PR_init_17 : decode prog_4_method_1_code 17 = .ok (.newarray .int, 2) := gd_PR_init_17.1
theorem d_PR_init_19 : decode prog_4_method_1_code 19 = .ok (.putfield 18, 3) := gd_PR_init_17.2.1
theorem d_PR_init_22 : decode prog_4_method_1_code 22 = .ok (.aload_n 0, 1) := gd_PR_init_17.2.2.1
theorem d_PR_init_23 : decode prog_4_method_1_code 23 = .ok (.bipush 40, 2) := gd_PR_init_17.2.2.2.1
theorem d_PR_init_25 : decode prog_4_method_1_code 25 = .ok (.newarray .int, 2) := gd_PR_init_17.2.2.2.2.1
theorem d_PR_init_27 : decode prog_4_method_1_code 27 = .ok (.putfield 22, 3) := gd_PR_init_17.2.2.2.2.2.1
theorem d_PR_init_30 : decode prog_4_method_1_code 30 = .ok (.aload_n 0, 1) := gd_PR_init_17.2.2.2.2.2.2.1
theorem d_PR_init_31 : decode prog_4_method_1_code 31 = .ok (.bipush 40, 2) := gd_PR_init_17.2.2.2.2.2.2.2.1
theorem d_PR_init_33 : decode prog_4_method_1_code 33 = .ok (.newarray .int, 2) := gd_PR_init_17.2.2.2.2.2.2.2.2.1
theorem d_PR_init_35 : decode prog_4_method_1_code 35 = .ok (.putfield 25, 3) := gd_PR_init_17.2.2.2.2.2.2.2.2.2
theorem gd_PR_init_38 : (decode prog_4_method_1_code 38 = .ok (.aload_n 0, 1)) ∧ (decode prog_4_method_1_code 39 = .ok (.bipush 40, 2)) ∧ (decode prog_4_method_1_code 41 = .ok (.newarray .int, 2)) ∧ (decode prog_4_method_1_code 43 = .ok (.putfield 28, 3)) ∧ (decode prog_4_method_1_code 46 = .ok (.aload_n 0, 1)) ∧ (decode prog_4_method_1_code 47 = .ok (.bipush 40, 2)) ∧ (decode prog_4_method_1_code 49 = .ok (.newarray .int, 2)) ∧ (decode prog_4_method_1_code 51 = .ok (.putfield 31, 3)) ∧ (decode prog_4_method_1_code 54 = .ok (.aload_n 0, 1)) ∧ (decode prog_4_method_1_code 55 = .ok (.bipush 40, 2)) := by decide +kernel
theorem d_PR_init_38 : decode prog_4_method_1_code 38 = .ok (.aload_n 0, 1) := gd_PR_init_38.1
theorem d_PR_init_39 : decode prog_4_method_1_code 39 = .ok (.bipush 40, 2) := gd_PR_init_38.2.1
theorem d_PR_init_41 : decode prog_4_method_1_code 41 = .ok (.newarray .int, 2) := gd_PR_init_38.2.2.1
theorem d_PR_init_43 : decode prog_4_method_1_code 43 = .ok (.putfield 28, 3) := gd_PR_init_38.2.2.2.1
theorem d_PR_init_46 : decode prog_4_method_1_code 46 = .ok (.aload_n 0, 1) := gd_PR_init_38.2.2.2.2.1
theorem d_PR_init_47 : decode prog_4_method_1_code 47 = .ok (.bipush 40, 2) := gd_PR_init_38.2.2.2.2.2.1
theorem d_PR_init_49 : decode prog_4_method_1_code 49 = .ok (.newarray .int, 2) := gd_PR_init_38.2.2.2.2.2.2.1
theorem d_PR_init_51 : decode prog_4_method_1_code 51 = .ok (.putfield 31, 3) := gd_PR_init_38.2.2.2.2.2.2.2.1
theorem d_PR_init_54 : decode prog_4_method_1_code 54 = .ok (.aload_n 0, 1) := gd_PR_init_38.2.2.2.2.2.2.2.2.1
theorem d_PR_init_55 : decode prog_4_method_1_code 55 = .ok (.bipush 40, 2) := gd_PR_init_38.2.2.2.2.2.2.2.2.2
theorem gd_PR_init_57 : (decode prog_4_method_1_code 57 = .ok (.newarray .boolean, 2)) ∧ (decode prog_4_method_1_code 59 = .ok (.putfield 34, 3)) ∧ (decode prog_4_method_1_code 62 = .ok (.aload_n 0, 1)) ∧ (decode prog_4_method_1_code 63 = .ok (.sipush 240, 3)) ∧ (decode prog_4_method_1_code 66 = .ok (.newarray .int, 2)) ∧ (decode prog_4_method_1_code 68 = .ok (.putfield 38, 3)) ∧ (decode prog_4_method_1_code 71 = .ok (.aload_n 0, 1)) ∧ (decode prog_4_method_1_code 72 = .ok (.sipush 240, 3)) ∧ (decode prog_4_method_1_code 75 = .ok (.newarray .int, 2)) ∧ (decode prog_4_method_1_code 77 = .ok (.putfield 41, 3)) := by decide +kernel
theorem d_PR_init_57 : decode prog_4_method_1_code 57 = .ok (.newarray .boolean, 2) := gd_PR_init_57.1
theorem d_PR_init_59 : decode prog_4_method_1_code 59 = .ok (.putfield 34, 3) := gd_PR_init_57.2.1
theorem d_PR_init_62 : decode prog_4_method_1_code 62 = .ok (.aload_n 0, 1) := gd_PR_init_57.2.2.1
theorem d_PR_init_63 : decode prog_4_method_1_code 63 = .ok (.sipush 240, 3) := gd_PR_init_57.2.2.2.1
theorem d_PR_init_66 : decode prog_4_method_1_code 66 = .ok (.newarray .int, 2) := gd_PR_init_57.2.2.2.2.1
theorem d_PR_init_68 : decode prog_4_method_1_code 68 = .ok (.putfield 38, 3) := gd_PR_init_57.2.2.2.2.2.1
theorem d_PR_init_71 : decode prog_4_method_1_code 71 = .ok (.aload_n 0, 1) := gd_PR_init_57.2.2.2.2.2.2.1
theorem d_PR_init_72 : decode prog_4_method_1_code 72 = .ok (.sipush 240, 3) := gd_PR_init_57.2.2.2.2.2.2.2.1
theorem d_PR_init_75 : decode prog_4_method_1_code 75 = .ok (.newarray .int, 2) := gd_PR_init_57.2.2.2.2.2.2.2.2.1
theorem d_PR_init_77 : decode prog_4_method_1_code 77 = .ok (.putfield 41, 3) := gd_PR_init_57.2.2.2.2.2.2.2.2.2
theorem gd_PR_init_80 : (decode prog_4_method_1_code 80 = .ok (.aload_n 0, 1)) ∧ (decode prog_4_method_1_code 81 = .ok (.sipush 240, 3)) ∧ (decode prog_4_method_1_code 84 = .ok (.newarray .int, 2)) ∧ (decode prog_4_method_1_code 86 = .ok (.putfield 44, 3)) ∧ (decode prog_4_method_1_code 89 = .ok (.aload_n 0, 1)) ∧ (decode prog_4_method_1_code 90 = .ok (.sipush 240, 3)) ∧ (decode prog_4_method_1_code 93 = .ok (.newarray .int, 2)) ∧ (decode prog_4_method_1_code 95 = .ok (.putfield 47, 3)) ∧ (decode prog_4_method_1_code 98 = .ok (.aload_n 0, 1)) ∧ (decode prog_4_method_1_code 99 = .ok (.sipush 240, 3)) := by decide +kernel
theorem d_PR_init_80 : decode prog_4_method_1_code 80 = .ok (.aload_n 0, 1) := gd_PR_init_80.1
theorem d_PR_init_81 : decode prog_4_method_1_code 81 = .ok (.sipush 240, 3) := gd_PR_init_80.2.1
theorem d_PR_init_84 : decode prog_4_method_1_code 84 = .ok (.newarray .int, 2) := gd_PR_init_80.2.2.1
theorem d_PR_init_86 : decode prog_4_method_1_code 86 = .ok (.putfield 44, 3) := gd_PR_init_80.2.2.2.1
theorem d_PR_init_89 : decode prog_4_method_1_code 89 = .ok (.aload_n 0, 1) := gd_PR_init_80.2.2.2.2.1
theorem d_PR_init_90 : decode prog_4_method_1_code 90 = .ok (.sipush 240, 3) := gd_PR_init_80.2.2.2.2.2.1
theorem d_PR_init_93 : decode prog_4_method_1_code 93 = .ok (.newarray .int, 2) := gd_PR_init_80.2.2.2.2.2.2.1
theorem d_PR_init_95 : decode prog_4_method_1_code 95 = .ok (.putfield 47, 3) := gd_PR_init_80.2.2.2.2.2.2.2.1
theorem d_PR_init_98 : decode prog_4_method_1_code 98 = .ok (.aload_n 0, 1) := gd_PR_init_80.2.2.2.2.2.2.2.2.1
theorem d_PR_init_99 : decode prog_4_method_1_code 99 = .ok (.sipush 240, 3) := gd_PR_init_80.2.2.2.2.2.2.2.2.2
theorem gd_PR_init_102 : (decode prog_4_method_1_code 102 = .ok (.newarray .int, 2)) ∧ (decode prog_4_method_1_code 104 = .ok (.putfield 50, 3)) ∧ (decode prog_4_method_1_code 107 = .ok (.return_, 1)) := by decide +kernel
theorem d_PR_init_102 : decode prog_4_method_1_code 102 = .ok (.newarray .int, 2) := gd_PR_init_102.1
theorem d_PR_init_104 : decode prog_4_method_1_code 104 = .ok (.putfield 50, 3) := gd_PR_init_102.2.1
theorem d_PR_init_107 : decode prog_4_method_1_code 107 = .ok (.return_, 1) := gd_PR_init_102.2.2
theorem gd_WS_init_0 : (decode prog_7_method_1_code 0 = .ok (.aload_n 0, 1)) ∧ (decode prog_7_method_1_code 1 = .ok (.invokespecial 3, 3)) ∧ (decode prog_7_method_1_code 4 = .ok (.aload_n 0, 1)) ∧ (decode prog_7_method_1_code 5 = .ok (.iconst 0, 1)) ∧ (decode prog_7_method_1_code 6 = .ok (.putfield 9, 3)) ∧ (decode prog_7_method_1_code 9 = .ok (.aload_n 0, 1)) ∧ (decode prog_7_method_1_code 10 = .ok (.iconst 0, 1)) ∧ (decode prog_7_method_1_code 11 = .ok (.putfield 15, 3)) ∧ (decode prog_7_method_1_code 14 = .ok (.aload_n 0, 1)) ∧ (decode prog_7_method_1_code 15 = .ok (.bipush 7, 2)) := by decide +kernel
theorem d_WS_init_0 : decode prog_7_method_1_code 0 = .ok (.aload_n 0, 1) := gd_WS_init_0.1
theorem d_WS_init_1 : decode prog_7_method_1_code 1 = .ok (.invokespecial 3, 3) := gd_WS_init_0.2.1
theorem d_WS_init_4 : decode prog_7_method_1_code 4 = .ok (.aload_n 0, 1) := gd_WS_init_0.2.2.1
theorem d_WS_init_5 : decode prog_7_method_1_code 5 = .ok (.iconst 0, 1) := gd_WS_init_0.2.2.2.1
theorem d_WS_init_6 : decode prog_7_method_1_code 6 = .ok (.putfield 9, 3) := gd_WS_init_0.2.2.2.2.1
theorem d_WS_init_9 : decode prog_7_method_1_code 9 = .ok (.aload_n 0, 1) := gd_WS_init_0.2.2.2.2.2.1
theorem d_WS_init_10 : decode prog_7_method_1_code 10 = .ok (.iconst 0, 1) := gd_WS_init_0.2.2.2.2.2.2.1
theorem d_WS_init_11 : decode prog_7_method_1_code 11 = .ok (.putfield 15, 3) := gd_WS_init_0.2.2.2.2.2.2.2.1
theorem d_WS_init_14 : decode prog_7_method_1_code 14 = .ok (.aload_n 0, 1) := gd_WS_init_0.2.2.2.2.2.2.2.2.1
theorem d_WS_init_15 : decode prog_7_method_1_code 15 = .ok (.bipush 7, 2) := gd_WS_init_0.2.2.2.2.2.2.2.2.2
theorem gd_WS_init_17 : (decode prog_7_method_1_code 17 = .ok (.newarray .boolean, 2)) ∧ (decode prog_7_method_1_code 19 = .ok (.putfield 18, 3)) ∧ (decode prog_7_method_1_code 22 = .ok (.aload_n 0, 1)) ∧ (decode prog_7_method_1_code 23 = .ok (.new 22, 3)) ∧ (decode prog_7_method_1_code 26 = .ok (.dup, 1)) ∧ (decode prog_7_method_1_code 27 = .ok (.invokespecial 24, 3)) ∧ (decode prog_7_method_1_code 30 = .ok (.putfield 25, 3)) ∧ (decode prog_7_method_1_code 33 = .ok (.aload_n 0, 1)) ∧ (decode prog_7_method_1_code 34 = .ok (.new 22, 3)) ∧ (decode prog_7_method_1_code 37 = .ok (.dup, 1)) := by decide +kernel
theorem d_WS_init_17 : decode prog_7_method_1_code 17 = .ok (.newarray .boolean, 2) := gd_WS_init_17.1
theorem d_WS_init_19 : decode prog_7_method_1_code 19 = .ok (.putfield 18, 3) := gd_WS_init_17.2.1
theorem d_WS_init_22 : decode prog_7_method_1_code 22 = .ok (.aload_n 0, 1) := gd_WS_init_17.2.2.1
theorem d_WS_init_23 : decode prog_7_method_1_code 23 = .ok (.new 22, 3) := gd_WS_init_17.2.2.2.1
theorem d_WS_init_26 : decode prog_7_method_1_code 26 = .ok (.dup, 1) := gd_WS_init_17.2.2.2.2.1
theorem d_WS_init_27 : decode prog_7_method_1_code 27 = .ok (.invokespecial 24, 3) := gd_WS_init_17.2.2.2.2.2.1
theorem d_WS_init_30 : decode prog_7_method_1_code 30 = .ok (.putfield 25, 3) := gd_WS_init_17.2.2.2.2.2.2.1
theorem d_WS_init_33 : decode prog_7_method_1_code 33 = .ok (.aload_n 0, 1) := gd_WS_init_17.2.2.2.2.2.2.2.1
theorem d_WS_init_34 : decode prog_7_method_1_code 34 = .ok (.new 22, 3) := gd_WS_init_17.2.2.2.2.2.2.2.2.1
theorem d_WS_init_37 : decode prog_7_method_1_code 37 = .ok (.dup, 1) := gd_WS_init_17.2.2.2.2.2.2.2.2.2
theorem gd_WS_init_38 : (decode prog_7_method_1_code 38 = .ok (.invokespecial 24, 3)) ∧ (decode prog_7_method_1_code 41 = .ok (.putfield 29, 3)) ∧ (decode prog_7_method_1_code 44 = .ok (.aload_n 0, 1)) ∧ (decode prog_7_method_1_code 45 = .ok (.new 22, 3)) ∧ (decode prog_7_method_1_code 48 = .ok (.dup, 1)) ∧ (decode prog_7_method_1_code 49 = .ok (.invokespecial 24, 3)) ∧ (decode prog_7_method_1_code 52 = .ok (.putfield 32, 3)) ∧ (decode prog_7_method_1_code 55 = .ok (.return_, 1)) := by decide +kernel
theorem d_WS_init_38 : decode prog_7_method_1_code 38 = .ok (.invokespecial 24, 3) := gd_WS_init_38.1
theorem d_WS_init_41 : decode prog_7_method_1_code 41 = .ok (.putfield 29, 3) := gd_WS_init_38.2.1
theorem d_WS_init_44 : decode prog_7_method_1_code 44 = .ok (.aload_n 0, 1) := gd_WS_init_38.2.2.1
theorem d_WS_init_45 : decode prog_7_method_1_code 45 = .ok (.new 22, 3) := gd_WS_init_38.2.2.2.1
theorem d_WS_init_48 : decode prog_7_method_1_code 48 = .ok (.dup, 1) := gd_WS_init_38.2.2.2.2.1
theorem d_WS_init_49 : decode prog_7_method_1_code 49 = .ok (.invokespecial 24, 3) := gd_WS_init_38.2.2.2.2.2.1
theorem d_WS_init_52 : decode prog_7_method_1_code 52 = .ok (.putfield 32, 3) := gd_WS_init_38.2.2.2.2.2.2.1
theorem d_WS_init_55 : decode prog_7_method_1_code 55 = .ok (.return_, 1) := gd_WS_init_38.2.2.2.2.2.2.2
theorem gd_RS_init_0 : (decode prog_5_method_1_code 0 = .ok (.aload_n 0, 1)) ∧ (decode prog_5_method_1_code 1 = .ok (.invokespecial 3, 3)) ∧ (decode prog_5_method_1_code 4 = .ok (.aload_n 0, 1)) ∧ (decode prog_5_method_1_code 5 = .ok (.iconst 0, 1)) ∧ (decode prog_5_method_1_code 6 = .ok (.putfield 9, 3)) ∧ (decode prog_5_method_1_code 9 = .ok (.aload_n 0, 1)) ∧ (decode prog_5_method_1_code 10 = .ok (.iconst 0, 1)) ∧ (decode prog_5_method_1_code 11 = .ok (.putfield 15, 3)) ∧ (decode prog_5_method_1_code 14 = .ok (.aload_n 0, 1)) ∧ (decode prog_5_method_1_code 15 = .ok (.iconst 0, 1)) := by decide +kernel
theorem d_RS_init_0 : decode prog_5_method_1_code 0 = .ok (.aload_n 0, 1) := gd_RS_init_0.1
theorem d_RS_init_1 : decode prog_5_method_1_code 1 = .ok (.invokespecial 3, 3) := gd_RS_init_0.2.1
theorem d_RS_init_4 : decode prog_5_method_1_code 4 = .ok (.aload_n 0, 1) := gd_RS_init_0.2.2.1
theorem d_RS_init_5 : decode prog_5_method_1_code 5 = .ok (.iconst 0, 1) := gd_RS_init_0.2.2.2.1
theorem d_RS_init_6 : decode prog_5_method_1_code 6 = .ok (.putfield 9, 3) := gd_RS_init_0.2.2.2.2.1
theorem d_RS_init_9 : decode prog_5_method_1_code 9 = .ok (.aload_n 0, 1) := gd_RS_init_0.2.2.2.2.2.1
theorem d_RS_init_10 : decode prog_5_method_1_code 10 = .ok (.iconst 0, 1) := gd_RS_init_0.2.2.2.2.2.2.1
theorem d_RS_init_11 : decode prog_5_method_1_code 11 = .ok (.putfield 15, 3) := gd_RS_init_0.2.2.2.2.2.2.2.1
theorem d_RS_init_14 : decode prog_5_method_1_code 14 = .ok (.aload_n 0, 1) := gd_RS_init_0.2.2.2.2.2.2.2.2.1
theorem d_RS_init_15 : decode prog_5_method_1_code 15 = .ok (.iconst 0, 1) := gd_RS_init_0.2.2.2.2.2.2.2.2.2
theorem gd_RS_init_16 : (decode prog_5_method_1_code 16 = .ok (.putfield 18, 3)) ∧ (decode prog_5_method_1_code 19 = .ok (.aload_n 0, 1)) ∧ (decode prog_5_method_1_code 20 = .ok (.iconst 0, 1)) ∧ (decode prog_5_method_1_code 21 = .ok (.putfield 21, 3)) ∧ (decode prog_5_method_1_code 24 = .ok (.aload_n 0, 1)) ∧ (decode prog_5_method_1_code 25 = .ok (.bipush 7, 2)) ∧ (decode prog_5_method_1_code 27 = .ok (.newarray .boolean, 2)) ∧ (decode prog_5_method_1_code 29 = .ok (.putfield 24, 3)) ∧ (decode prog_5_method_1_code 32 = .ok (.aload_n 0, 1)) ∧ (decode prog_5_method_1_code 33 = .ok (.new 28, 3)) := by decide +kernel
theorem d_RS_init_16 : decode prog_5_method_1_code 16 = .ok (.putfield 18, 3) := gd_RS_init_16.1
theorem d_RS_init_19 : decode prog_5_method_1_code 19 = .ok (.aload_n 0, 1) := gd_RS_init_16.2.1
theorem d_RS_init_20 : decode prog_5_method_1_code 20 = .ok (.iconst 0, 1) := gd_RS_init_16.2.2.1
theorem d_RS_init_21 : decode prog_5_method_1_code 21 = .ok (.putfield 21, 3) := gd_RS_init_16.2.2.2.1
theorem d_RS_init_24 : decode prog_5_method_1_code 24 = .ok (.aload_n 0, 1) := gd_RS_init_16.2.2.2.2.1
theorem d_RS_init_25 : decode prog_5_method_1_code 25 = .ok (.bipush 7, 2) := gd_RS_init_16.2.2.2.2.2.1
theorem d_RS_init_27 : decode prog_5_method_1_code 27 = .ok (.newarray .boolean, 2) := gd_RS_init_16.2.2.2.2.2.2.1
theorem d_RS_init_29 : decode prog_5_method_1_code 29 = .ok (.putfield 24, 3) := gd_RS_init_16.2.2.2.2.2.2.2.1
theorem d_RS_init_32 : decode prog_5_method_1_code 32 = .ok (.aload_n 0, 1) := gd_RS_init_16.2.2.2.2.2.2.2.2.1
theorem d_RS_init_33 : decode prog_5_method_1_code 33 = .ok (.new 28, 3) := gd_RS_init_16.2.2.2.2.2.2.2.2.2
theorem gd_RS_init_36 : (decode prog_5_method_1_code 36 = .ok (.dup, 1)) ∧ (decode prog_5_method_1_code 37 = .ok (.invokespecial 30, 3)) ∧ (decode prog_5_method_1_code 40 = .ok (.putfield 31, 3)) ∧ (decode prog_5_method_1_code 43 = .ok (.aload_n 0, 1)) ∧ (decode prog_5_method_1_code 44 = .ok (.new 28, 3)) ∧ (decode prog_5_method_1_code 47 = .ok (.dup, 1)) ∧ (decode prog_5_method_1_code 48 = .ok (.invokespecial 30, 3)) ∧ (decode prog_5_method_1_code 51 = .ok (.putfield 35, 3)) ∧ (decode prog_5_method_1_code 54 = .ok (.return_, 1)) := by decide +kernel
theorem d_RS_init_36 : decode prog_5_method_1_code 36 = .ok (.dup, 1) := gd_RS_init_36.1
theorem d_RS_init_37 : decode prog_5_method_1_code 37 = .ok (.invokespecial 30, 3) := gd_RS_init_36.2.1
theorem d_RS_init_40 : decode prog_5_method_1_code 40 = .ok (.putfield 31, 3) := gd_RS_init_36.2.2.1
theorem d_RS_init_43 : decode prog_5_method_1_code 43 = .ok (.aload_n 0, 1) := gd_RS_init_36.2.2.2.1
theorem d_RS_init_44 : decode prog_5_method_1_code 44 = .ok (.new 28, 3) := gd_RS_init_36.2.2.2.2.1
theorem d_RS_init_47 : decode prog_5_method_1_code 47 = .ok (.dup, 1) := gd_RS_init_36.2.2.2.2.2.1
theorem d_RS_init_48 : decode prog_5_method_1_code 48 = .ok (.invokespecial 30, 3) := gd_RS_init_36.2.2.2.2.2.2.1
theorem d_RS_init_51 : decode prog_5_method_1_code 51 = .ok (.putfield 35, 3) := gd_RS_init_36.2.2.2.2.2.2.2.1
theorem d_RS_init_54 : decode prog_5_method_1_code 54 = .ok (.return_, 1) := gd_RS_init_36.2.2.2.2.2.2.2.2
set_option maxHeartbeats 4000000 in
set_option maxRecDepth 100000 in
theorem c_PR_begin (l : Launch) (D : va_G) (cI cZ : ClassId) (r0 : Nat) (n : Int32) (m0 : Int32) (r1 : Nat) (r2 : Nat) (r3 : Nat) (r4 : Nat) (r5 : Nat) (r6 : Nat) (r7 : Nat) (r8 : Nat) (r9 : Nat) (r10 : Nat) (r11 : Nat) (sz : Nat)  : Met l ⟨"PromiseChains$Promises", "begin", "()V"⟩ (mw ⟨"PromiseChains$Promises", "begin", "()V"⟩ prog_4_method_2_code 1 none) ({ frames := 0, cells := 0, slots := 0, locals := 0 }) (va_Pc [.ref r0] (PB D cI cZ sz [(r0, .inr (3, [.int n, .int m0, .ref r1, .ref r2, .ref r3, .ref r4, .ref r5, .ref r6, .ref r7, .ref r8, .ref r9, .ref r10, .ref r11]))])) (va_Qv (S := Unit) (fun uU => True) (fun uU tT => BB D (va_A [(r0, .inr (3, [.int n, .int m0, .ref r1, .ref r2, .ref r3, .ref r4, .ref r5, .ref r6, .ref r7, .ref r8, .ref r9, .ref r10, .ref r11]))] sz) [(r0, .inr (3, [.int 0, .int 0, .ref r1, .ref r2, .ref r3, .ref r4, .ref r5, .ref r6, .ref r7, .ref r8, .ref r9, .ref r10, .ref r11]))] tT) (va_A [(r0, .inr (3, [.int n, .int m0, .ref r1, .ref r2, .ref r3, .ref r4, .ref r5, .ref r6, .ref r7, .ref r8, .ref r9, .ref r10, .ref r11]))] sz)) 0 0 (va_A [(r0, .inr (3, [.int n, .int m0, .ref r1, .ref r2, .ref r3, .ref r4, .ref r5, .ref r6, .ref r7, .ref r8, .ref r9, .ref r10, .ref r11]))] sz) := by
  refine Met.ofW (cc := prog_4_method_2_code) (maxL := 1) (ret := none) (by decide) rfl ?_
  intro p e s m args below meth c s₁ B hml hv
  obtain ⟨rfl, hsz, hP, hK, hD0, hN⟩ := hv
  have hx := B.exec
  have hb := B.bytes
  have hr := B.returns
  have hts0 := atoms_spec (ws := mw ⟨"PromiseChains$Promises", "begin", "()V"⟩ prog_4_method_2_code 1 none) B.pre
  have hts : ∀ w ∈ tblG, w.before _ s = true := fun w h => hts0 w (List.mem_cons_of_mem _ h)
  have hown : s.vm.findClass "PromiseChains$Promises" = some m.cls := findClass_of_methodNamed B.named
  have hlocks := B.notSynchronized
  subst hsz
  have hD := hD0.self (sz := s.heap.size)
  generalize hAe : va_A [(r0, .inr (3, [.int n, .int m0, .ref r1, .ref r2, .ref r3, .ref r4, .ref r5, .ref r6, .ref r7, .ref r8, .ref r9, .ref r10, .ref r11]))] s.heap.size = A at hD ⊢
  have hA : ∀ q : Nat, s.heap.size ≤ q → A q := fun q h => by rw [← hAe]; exact Or.inr h
  have hS : va_S A s.heap s.heap [] := va_S.rf
  have hP : va_P D vwCl [(r0, .inr (3, [.int n, .int m0, .ref r1, .ref r2, .ref r3, .ref r4, .ref r5, .ref r6, .ref r7, .ref r8, .ref r9, .ref r10, .ref r11]))] s.heap := hP
  have hl := lv_entry ([.ref r0]) (n := 1) (Nat.le_of_ble_eq_true rfl)
  rw [lg_entry_eq]
  generalize (lg_sl ([.ref r0]) ++ List.replicate (1 - (lg_sl ([.ref r0])).length) Slot.unset).toArray = ls at hl ⊢
  have hl : lv_has ls 1 [(0, .ref r0)] := hl
  refine lv_aload_n hx hb d_PR_begin_0 rfl (lv_at hl 0 rfl) ?_
  refine lv_iconst (v := 0) hx hb d_PR_begin_1 (by decide) ?_
  refine va_put (D := D) (ci := 3) (v := .int 0) (ty := .int) (C := R_PR) (T := F_PR) (N := 13) hx hb hts i_PR t_PR t_PR_ok n_PR hown hK hP hD hS 0 rfl rfl 0 (by decide) (hts _ q_110) (fun _ h9 => h9) rfl (by decide +kernel) rfl rfl (Nat.le_of_ble_eq_true rfl) d_PR_begin_2 (fun H_1 locs hP hD hS => ?_)
  have hP : va_P D vwCl [(r0, .inr (3, [.int 0, .int m0, .ref r1, .ref r2, .ref r3, .ref r4, .ref r5, .ref r6, .ref r7, .ref r8, .ref r9, .ref r10, .ref r11]))] H_1 := hP
  refine lv_aload_n hx hb d_PR_begin_5 rfl (lv_at hl 0 rfl) ?_
  refine lv_iconst (v := 0) hx hb d_PR_begin_6 (by decide) ?_
  refine va_put (D := D) (ci := 3) (v := .int 0) (ty := .int) (C := R_PR) (T := F_PR) (N := 13) hx hb hts i_PR t_PR t_PR_ok n_PR hown hK hP hD hS 0 rfl rfl 1 (by decide) (hts _ q_112) (fun _ h9 => h9) rfl (by decide +kernel) rfl rfl (Nat.le_of_ble_eq_true rfl) d_PR_begin_7 (fun H_2 locs hP hD hS => ?_)
  have hP : va_P D vwCl [(r0, .inr (3, [.int 0, .int 0, .ref r1, .ref r2, .ref r3, .ref r4, .ref r5, .ref r6, .ref r7, .ref r8, .ref r9, .ref r10, .ref r11]))] H_2 := hP
  have hP9 := hP.sub (ws' := [(r0, .inr (3, [.int 0, .int 0, .ref r1, .ref r2, .ref r3, .ref r4, .ref r5, .ref r6, .ref r7, .ref r8, .ref r9, .ref r10, .ref r11]))]) [0] rfl
  have hD9 := hD.sub (ws' := [(r0, .inr (3, [.int 0, .int 0, .ref r1, .ref r2, .ref r3, .ref r4, .ref r5, .ref r6, .ref r7, .ref r8, .ref r9, .ref r10, .ref r11]))]) [0] (by decide +kernel) rfl
  refine W.widen (k := 0) (n := 0) (Nat.le_of_ble_eq_true rfl) (Nat.le_of_ble_eq_true rfl) ?_
  exact W.vret hx hb hr (fun t ht hW => ⟨⟨(), rfl, trivial, by rw [ht]; exact hP9, hD9⟩, hS.F ht⟩) hS.2.2 d_PR_begin_10

set_option maxHeartbeats 4000000 in
set_option maxRecDepth 100000 in
theorem c_PE_begin (l : Launch) (D : va_G) (cI cZ : ClassId) (f0 : Nat) (n : Int32) (n0 : Int32) (f1 : Nat) (f2 : Nat) (f3 : Nat) (f4 : Nat) (F1 : Nat → Int32) (F2 : Nat → Int32) (F3 : Nat → Int32) (F4 : Nat → Int32) (sz : Nat)  : Met l ⟨"PromiseChains$People", "begin", "(I)V"⟩ (mw ⟨"PromiseChains$People", "begin", "(I)V"⟩ prog_3_method_2_code 3 none) ({ frames := 0, cells := 0, slots := 0, locals := 0 }) (va_Pc [.ref f0, .int n] (PB D cI cZ sz [(f0, .inr (1, [.int n0, .ref f1, .ref f2, .ref f3, .ref f4])), (f1, .inl (cI, 7, .inl F1)), (f2, .inl (cI, 7, .inl F2)), (f3, .inl (cI, 7, .inl F3)), (f4, .inl (cZ, 7, .inl F4))])) (va_Qv (S := Unit) (fun uU => True) (fun uU tT => BB D (va_A [(f0, .inr (1, [.int n0, .ref f1, .ref f2, .ref f3, .ref f4])), (f1, .inl (cI, 7, .inl F1)), (f2, .inl (cI, 7, .inl F2)), (f3, .inl (cI, 7, .inl F3)), (f4, .inl (cZ, 7, .inl F4))] sz) [(f0, .inr (1, [.int n, .ref f1, .ref f2, .ref f3, .ref f4])), (f1, .inl (cI, 7, .inl (zf 7 F1))), (f2, .inl (cI, 7, .inl (zf 7 F2))), (f3, .inl (cI, 7, .inl (zf 7 F3))), (f4, .inl (cZ, 7, .inl (zf 7 F4)))] tT) (va_A [(f0, .inr (1, [.int n0, .ref f1, .ref f2, .ref f3, .ref f4])), (f1, .inl (cI, 7, .inl F1)), (f2, .inl (cI, 7, .inl F2)), (f3, .inl (cI, 7, .inl F3)), (f4, .inl (cZ, 7, .inl F4))] sz)) 0 0 (va_A [(f0, .inr (1, [.int n0, .ref f1, .ref f2, .ref f3, .ref f4])), (f1, .inl (cI, 7, .inl F1)), (f2, .inl (cI, 7, .inl F2)), (f3, .inl (cI, 7, .inl F3)), (f4, .inl (cZ, 7, .inl F4))] sz) := by
  refine Met.ofW (cc := prog_3_method_2_code) (maxL := 3) (ret := none) (by decide) rfl ?_
  intro p e s m args below meth c s₁ B hml hv
  obtain ⟨rfl, hsz, hP, hK, hD0, hN⟩ := hv
  have hx := B.exec
  have hb := B.bytes
  have hr := B.returns
  have hts0 := atoms_spec (ws := mw ⟨"PromiseChains$People", "begin", "(I)V"⟩ prog_3_method_2_code 3 none) B.pre
  have hts : ∀ w ∈ tblG, w.before _ s = true := fun w h => hts0 w (List.mem_cons_of_mem _ h)
  have hown : s.vm.findClass "PromiseChains$People" = some m.cls := findClass_of_methodNamed B.named
  have hlocks := B.notSynchronized
  subst hsz
  have hD := hD0.self (sz := s.heap.size)
  generalize hAe : va_A [(f0, .inr (1, [.int n0, .ref f1, .ref f2, .ref f3, .ref f4])), (f1, .inl (cI, 7, .inl F1)), (f2, .inl (cI, 7, .inl F2)), (f3, .inl (cI, 7, .inl F3)), (f4, .inl (cZ, 7, .inl F4))] s.heap.size = A at hD ⊢
  have hA : ∀ q : Nat, s.heap.size ≤ q → A q := fun q h => by rw [← hAe]; exact Or.inr h
  have hS : va_S A s.heap s.heap [] := va_S.rf
  have hP : va_P D vwCl [(f0, .inr (1, [.int n0, .ref f1, .ref f2, .ref f3, .ref f4])), (f1, .inl (cI, 7, .inl F1)), (f2, .inl (cI, 7, .inl F2)), (f3, .inl (cI, 7, .inl F3)), (f4, .inl (cZ, 7, .inl F4))] s.heap := hP
  have hl := lv_entry ([.ref f0, .int n]) (n := 3) (Nat.le_of_ble_eq_true rfl)
  rw [lg_entry_eq]
  generalize (lg_sl ([.ref f0, .int n]) ++ List.replicate (3 - (lg_sl ([.ref f0, .int n])).length) Slot.unset).toArray = ls at hl ⊢
  have hl : lv_has ls 3 [(0, .ref f0), (1, .int n)] := hl
  refine lv_aload_n hx hb d_PE_begin_0 rfl (lv_at hl 0 rfl) ?_
  refine lv_iload_n hx hb d_PE_begin_1 rfl (lv_at hl 1 rfl) ?_
  refine va_put (D := D) (ci := 1) (v := .int n) (ty := .int) (C := R_PE) (T := F_PE) (N := 5) hx hb hts i_PE t_PE t_PE_ok n_PE hown hK hP hD hS 0 rfl rfl 0 (by decide) (hts _ q_24) (fun _ h9 => h9) rfl (by decide +kernel) rfl rfl (Nat.le_of_ble_eq_true rfl) d_PE_begin_2 (fun H_1 locs hP hD hS => ?_)
  have hP : va_P D vwCl [(f0, .inr (1, [.int n, .ref f1, .ref f2, .ref f3, .ref f4])), (f1, .inl (cI, 7, .inl F1)), (f2, .inl (cI, 7, .inl F2)), (f3, .inl (cI, 7, .inl F3)), (f4, .inl (cZ, 7, .inl F4))] H_1 := hP
  refine lv_iconst (v := 0) hx hb d_PE_begin_5 (by decide) ?_
  refine lv_istore_n (lv' := [(2, .int 0), (0, .ref f0), (1, .int n)]) hx hb d_PE_begin_6 rfl hl (by decide) rfl (fun ls hl => ?_)
  refine W_loop (σ := Nat) (I := fun xX H locs ls => xX ≤ 7 ∧ va_P D vwCl [(f0, .inr (1, [.int n, .ref f1, .ref f2, .ref f3, .ref f4])), (f1, .inl (cI, 7, .inl (zf xX F1))), (f2, .inl (cI, 7, .inl (zf xX F2))), (f3, .inl (cI, 7, .inl (zf xX F3))), (f4, .inl (cZ, 7, .inl (zf xX F4)))] H ∧ va_D A [(f0, .inr (1, [.int n, .ref f1, .ref f2, .ref f3, .ref f4])), (f1, .inl (cI, 7, .inl (zf xX F1))), (f2, .inl (cI, 7, .inl (zf xX F2))), (f3, .inl (cI, 7, .inl (zf xX F3))), (f4, .inl (cZ, 7, .inl (zf xX F4)))] ∧ va_S A s.heap H locs ∧ lv_has ls 3 [(2, .int (nI xX)), (0, .ref f0), (1, .int n)]) (μ := fun xX => 8 - xX) ?_ 0 ⟨(by decide), (by simp only [zf_0]; exact hP), (by simp only [zf_0]; exact hD), hS, lv_sub hl [0, 1, 2] rfl⟩
  intro xX H_2 locs ls hI ih
  obtain ⟨i, rfl⟩ : ∃ z, z = xX := ⟨_, rfl⟩
  obtain ⟨hi, hP, hD, hS, hl⟩ := hI
  have hP : va_P D vwCl [(f0, .inr (1, [.int n, .ref f1, .ref f2, .ref f3, .ref f4])), (f1, .inl (cI, 7, .inl (zf i F1))), (f2, .inl (cI, 7, .inl (zf i F2))), (f3, .inl (cI, 7, .inl (zf i F3))), (f4, .inl (cZ, 7, .inl (zf i F4)))] H_2 := hP
  have hl : lv_has ls 3 [(2, .int (nI i)), (0, .ref f0), (1, .int n)] := hl
  have hi : i ≤ 7 := hi
  refine lv_iload_n hx hb d_PE_begin_7 rfl (lv_at hl 0 rfl) ?_
  refine lv_bipush (v := 7) hx hb d_PE_begin_8 (by decide) ?_
  refine lv_icmp_ge (tgt := 47) hx hb d_PE_begin_10 (by decide) (fun h_3 => ?_) (fun h_3 => ?_)
  · have nh_3 : 7 ≤ i := (nI_leI (a := 7) (b := i) (by omega) (by omega)).mp h_3
    obtain rfl : i = 7 := by omega
    have hP9 := hP.sub (ws' := [(f0, .inr (1, [.int n, .ref f1, .ref f2, .ref f3, .ref f4])), (f1, .inl (cI, 7, .inl (zf 7 F1))), (f2, .inl (cI, 7, .inl (zf 7 F2))), (f3, .inl (cI, 7, .inl (zf 7 F3))), (f4, .inl (cZ, 7, .inl (zf 7 F4)))]) [0, 1, 2, 3, 4] rfl
    have hD9 := hD.sub (ws' := [(f0, .inr (1, [.int n, .ref f1, .ref f2, .ref f3, .ref f4])), (f1, .inl (cI, 7, .inl (zf 7 F1))), (f2, .inl (cI, 7, .inl (zf 7 F2))), (f3, .inl (cI, 7, .inl (zf 7 F3))), (f4, .inl (cZ, 7, .inl (zf 7 F4)))]) [0, 1, 2, 3, 4] (by decide +kernel) rfl
    refine W.widen (k := 0) (n := 0) (Nat.le_of_ble_eq_true rfl) (Nat.le_of_ble_eq_true rfl) ?_
    exact W.vret hx hb hr (fun t ht hW => ⟨⟨(), rfl, trivial, by rw [ht]; exact hP9, hD9⟩, hS.F ht⟩) hS.2.2 d_PE_begin_47
  · have nh_3 : ¬ 7 ≤ i := fun qZ => h_3 ((nI_leI (a := 7) (b := i) (by omega) (by omega)).mpr qZ)
    refine lv_aload_n hx hb d_PE_begin_13 rfl (lv_at hl 1 rfl) ?_
    refine va_get (D := D) (ci := 1) (v := .ref f1) (C := R_PE) (T := F_PE) (N := 5) hx hb hts i_PE hown hK hP 0 rfl rfl 1 (by decide) (hts _ q_26) (fun _ h9 => h9) rfl d_PE_begin_14 ?_
    refine lv_iload_n hx hb d_PE_begin_17 rfl (lv_at hl 0 rfl) ?_
    refine lv_iconst (v := 0) hx hb d_PE_begin_18 (by decide) ?_
    refine va_iast hx hb hK hP hD hS 1 0 rfl rfl (vp_in_nI (by omega) (by decide)) d_PE_begin_19 (fun H_4 locs hP hD hS => ?_)
    have hP : va_P D vwCl [(f0, .inr (1, [.int n, .ref f1, .ref f2, .ref f3, .ref f4])), (f1, .inl (cI, 7, .inl (upd (zf i F1) (nI i).toNatClampNeg 0))), (f2, .inl (cI, 7, .inl (zf i F2))), (f3, .inl (cI, 7, .inl (zf i F3))), (f4, .inl (cZ, 7, .inl (zf i F4)))] H_4 := hP
    have hD : va_D A [(f0, .inr (1, [.int n, .ref f1, .ref f2, .ref f3, .ref f4])), (f1, .inl (cI, 7, .inl (upd (zf i F1) (nI i).toNatClampNeg 0))), (f2, .inl (cI, 7, .inl (zf i F2))), (f3, .inl (cI, 7, .inl (zf i F3))), (f4, .inl (cZ, 7, .inl (zf i F4)))] := hD
    rw [nI_clamp (n := i) (by omega), zf_s] at hP hD
    have hP : va_P D vwCl [(f0, .inr (1, [.int n, .ref f1, .ref f2, .ref f3, .ref f4])), (f1, .inl (cI, 7, .inl (zf (i + 1) F1))), (f2, .inl (cI, 7, .inl (zf i F2))), (f3, .inl (cI, 7, .inl (zf i F3))), (f4, .inl (cZ, 7, .inl (zf i F4)))] H_4 := hP
    refine lv_aload_n hx hb d_PE_begin_20 rfl (lv_at hl 1 rfl) ?_
    refine va_get (D := D) (ci := 1) (v := .ref f2) (C := R_PE) (T := F_PE) (N := 5) hx hb hts i_PE hown hK hP 0 rfl rfl 2 (by decide) (hts _ q_29) (fun _ h9 => h9) rfl d_PE_begin_21 ?_
    refine lv_iload_n hx hb d_PE_begin_24 rfl (lv_at hl 0 rfl) ?_
    refine lv_iconst (v := 0) hx hb d_PE_begin_25 (by decide) ?_
    refine va_iast hx hb hK hP hD hS 2 0 rfl rfl (vp_in_nI (by omega) (by decide)) d_PE_begin_26 (fun H_5 locs hP hD hS => ?_)
    have hP : va_P D vwCl [(f0, .inr (1, [.int n, .ref f1, .ref f2, .ref f3, .ref f4])), (f1, .inl (cI, 7, .inl (zf (i + 1) F1))), (f2, .inl (cI, 7, .inl (upd (zf i F2) (nI i).toNatClampNeg 0))), (f3, .inl (cI, 7, .inl (zf i F3))), (f4, .inl (cZ, 7, .inl (zf i F4)))] H_5 := hP
    have hD : va_D A [(f0, .inr (1, [.int n, .ref f1, .ref f2, .ref f3, .ref f4])), (f1, .inl (cI, 7, .inl (zf (i + 1) F1))), (f2, .inl (cI, 7, .inl (upd (zf i F2) (nI i).toNatClampNeg 0))), (f3, .inl (cI, 7, .inl (zf i F3))), (f4, .inl (cZ, 7, .inl (zf i F4)))] := hD
    rw [nI_clamp (n := i) (by omega), zf_s] at hP hD
    have hP : va_P D vwCl [(f0, .inr (1, [.int n, .ref f1, .ref f2, .ref f3, .ref f4])), (f1, .inl (cI, 7, .inl (zf (i + 1) F1))), (f2, .inl (cI, 7, .inl (zf (i + 1) F2))), (f3, .inl (cI, 7, .inl (zf i F3))), (f4, .inl (cZ, 7, .inl (zf i F4)))] H_5 := hP
    refine lv_aload_n hx hb d_PE_begin_27 rfl (lv_at hl 1 rfl) ?_
    refine va_get (D := D) (ci := 1) (v := .ref f3) (C := R_PE) (T := F_PE) (N := 5) hx hb hts i_PE hown hK hP 0 rfl rfl 3 (by decide) (hts _ q_31) (fun _ h9 => h9) rfl d_PE_begin_28 ?_
    refine lv_iload_n hx hb d_PE_begin_31 rfl (lv_at hl 0 rfl) ?_
    refine lv_iconst (v := 0) hx hb d_PE_begin_32 (by decide) ?_
    refine va_iast hx hb hK hP hD hS 3 0 rfl rfl (vp_in_nI (by omega) (by decide)) d_PE_begin_33 (fun H_6 locs hP hD hS => ?_)
    have hP : va_P D vwCl [(f0, .inr (1, [.int n, .ref f1, .ref f2, .ref f3, .ref f4])), (f1, .inl (cI, 7, .inl (zf (i + 1) F1))), (f2, .inl (cI, 7, .inl (zf (i + 1) F2))), (f3, .inl (cI, 7, .inl (upd (zf i F3) (nI i).toNatClampNeg 0))), (f4, .inl (cZ, 7, .inl (zf i F4)))] H_6 := hP
    have hD : va_D A [(f0, .inr (1, [.int n, .ref f1, .ref f2, .ref f3, .ref f4])), (f1, .inl (cI, 7, .inl (zf (i + 1) F1))), (f2, .inl (cI, 7, .inl (zf (i + 1) F2))), (f3, .inl (cI, 7, .inl (upd (zf i F3) (nI i).toNatClampNeg 0))), (f4, .inl (cZ, 7, .inl (zf i F4)))] := hD
    rw [nI_clamp (n := i) (by omega), zf_s] at hP hD
    have hP : va_P D vwCl [(f0, .inr (1, [.int n, .ref f1, .ref f2, .ref f3, .ref f4])), (f1, .inl (cI, 7, .inl (zf (i + 1) F1))), (f2, .inl (cI, 7, .inl (zf (i + 1) F2))), (f3, .inl (cI, 7, .inl (zf (i + 1) F3))), (f4, .inl (cZ, 7, .inl (zf i F4)))] H_6 := hP
    refine lv_aload_n hx hb d_PE_begin_34 rfl (lv_at hl 1 rfl) ?_
    refine va_get (D := D) (ci := 1) (v := .ref f4) (C := R_PE) (T := F_PE) (N := 5) hx hb hts i_PE hown hK hP 0 rfl rfl 4 (by decide) (hts _ q_33) (fun _ h9 => h9) rfl d_PE_begin_35 ?_
    refine lv_iload_n hx hb d_PE_begin_38 rfl (lv_at hl 0 rfl) ?_
    refine lv_iconst (v := 0) hx hb d_PE_begin_39 (by decide) ?_
    refine va_zast hx hb hK hP hD hS 4 1 rfl rfl (vp_in_nI (by omega) (by decide)) d_PE_begin_40 (fun H_7 locs hP hD hS => ?_)
    have hP : va_P D vwCl [(f0, .inr (1, [.int n, .ref f1, .ref f2, .ref f3, .ref f4])), (f1, .inl (cI, 7, .inl (zf (i + 1) F1))), (f2, .inl (cI, 7, .inl (zf (i + 1) F2))), (f3, .inl (cI, 7, .inl (zf (i + 1) F3))), (f4, .inl (cZ, 7, .inl (upd (zf i F4) (nI i).toNatClampNeg 0)))] H_7 := hP
    have hD : va_D A [(f0, .inr (1, [.int n, .ref f1, .ref f2, .ref f3, .ref f4])), (f1, .inl (cI, 7, .inl (zf (i + 1) F1))), (f2, .inl (cI, 7, .inl (zf (i + 1) F2))), (f3, .inl (cI, 7, .inl (zf (i + 1) F3))), (f4, .inl (cZ, 7, .inl (upd (zf i F4) (nI i).toNatClampNeg 0)))] := hD
    rw [nI_clamp (n := i) (by omega), zf_s] at hP hD
    have hP : va_P D vwCl [(f0, .inr (1, [.int n, .ref f1, .ref f2, .ref f3, .ref f4])), (f1, .inl (cI, 7, .inl (zf (i + 1) F1))), (f2, .inl (cI, 7, .inl (zf (i + 1) F2))), (f3, .inl (cI, 7, .inl (zf (i + 1) F3))), (f4, .inl (cZ, 7, .inl (zf (i + 1) F4)))] H_7 := hP
    refine lv_iinc (v := nI (i + 1)) (lv' := [(2, .int (nI (i + 1))), (0, .ref f0), (1, .int n)]) hx hb d_PE_begin_41 hl (k := 0) rfl (nI_1 i) (by decide) rfl (fun ls hl => ?_)
    refine lv_goto (tgt := 7) hx hb d_PE_begin_44 (by decide) ?_
    exact ih (i + 1) _ _ _ (by first | omega | (dsimp only; omega)) ⟨(by first | omega | (dsimp only; omega)), hP, hD, hS, lv_sub hl [0, 1, 2] rfl⟩

set_option maxHeartbeats 4000000 in
set_option maxRecDepth 100000 in
theorem c_RO_init (l : Launch) (D : va_G) (cI cZ : ClassId) (h0 : Nat) (sz : Nat)  : Met l ⟨"PromiseChains$Row", "<init>", "()V"⟩ (mw ⟨"PromiseChains$Row", "<init>", "()V"⟩ prog_6_method_1_code 1 none) ({ frames := 1, cells := 2, slots := 14, locals := 12 }) (va_Pc [.ref h0] (PB D cI cZ sz [(h0, .inr (6, [.int 0, .null, .null]))])) (va_Qv (S := Nat × Nat) (fun uU => True) (fun uU tT => BB D (va_A [(h0, .inr (6, [.int 0, .null, .null]))] sz) [(h0, .inr (6, [.int 0, .ref uU.1, .ref uU.2])), (uU.1, .inl (cI, 7, .inl (fun _ => 0))), (uU.2, .inl (cI, 7, .inl (fun _ => 0)))] tT) (va_A [(h0, .inr (6, [.int 0, .null, .null]))] sz)) 2 14 (va_A [(h0, .inr (6, [.int 0, .null, .null]))] sz) := by
  refine Met.ofW (cc := prog_6_method_1_code) (maxL := 1) (ret := none) (by decide) rfl ?_
  intro p e s m args below meth c s₁ B hml hv
  obtain ⟨rfl, hsz, hP, hK, hD0, hN⟩ := hv
  have hx := B.exec
  have hb := B.bytes
  have hr := B.returns
  have hts0 := atoms_spec (ws := mw ⟨"PromiseChains$Row", "<init>", "()V"⟩ prog_6_method_1_code 1 none) B.pre
  have hts : ∀ w ∈ tblG, w.before _ s = true := fun w h => hts0 w (List.mem_cons_of_mem _ h)
  have hown : s.vm.findClass "PromiseChains$Row" = some m.cls := findClass_of_methodNamed B.named
  have hlocks := B.notSynchronized
  have hin : meth.name = "<init>" := (name_of_methodNamed B.named B.method).1
  subst hsz
  have hD := hD0.self (sz := s.heap.size)
  generalize hAe : va_A [(h0, .inr (6, [.int 0, .null, .null]))] s.heap.size = A at hD ⊢
  have hA : ∀ q : Nat, s.heap.size ≤ q → A q := fun q h => by rw [← hAe]; exact Or.inr h
  have hS : va_S A s.heap s.heap [] := va_S.rf
  have hP : va_P D vwCl [(h0, .inr (6, [.int 0, .null, .null]))] s.heap := hP
  have hl := lv_entry ([.ref h0]) (n := 1) (Nat.le_of_ble_eq_true rfl)
  rw [lg_entry_eq]
  generalize (lg_sl ([.ref h0]) ++ List.replicate (1 - (lg_sl ([.ref h0])).length) Slot.unset).toArray = ls at hl ⊢
  have hl : lv_has ls 1 [(0, .ref h0)] := hl
  refine lv_aload_n hx hb d_RO_init_0 rfl (lv_at hl 0 rfl) ?_
  refine W.objInit hx hb hown (hts _ q_170) (hts _ q_16) (hts _ q_17) rfl (by rw [hml]; exact hl.1) rfl d_RO_init_1 (Nat.le_of_ble_eq_true rfl) (Nat.le_of_ble_eq_true rfl) ?_
  refine W.eq (g2 := F0 m 4 ls []) rfl ?_
  refine lv_aload_n hx hb d_RO_init_4 rfl (lv_at hl 0 rfl) ?_
  refine lv_iconst (v := 0) hx hb d_RO_init_5 (by decide) ?_
  refine va_put (D := D) (ci := 6) (v := .int 0) (ty := .int) (C := R_RO) (T := F_RO) (N := 3) hx hb hts i_RO t_RO t_RO_ok n_RO hown hK hP hD hS 0 rfl rfl 0 (by decide) (hts _ q_171) (fun _ h9 => h9) rfl (by decide +kernel) rfl rfl (Nat.le_of_ble_eq_true rfl) d_RO_init_6 (fun H_1 locs hP hD hS => ?_)
  have hP : va_P D vwCl [(h0, .inr (6, [.int 0, .null, .null]))] H_1 := hP
  refine lv_aload_n hx hb d_RO_init_9 rfl (lv_at hl 0 rfl) ?_
  refine lv_bipush (v := 7) hx hb d_RO_init_10 (by decide) ?_
  refine my_newI hx hb (hts _ q_48) hK hP hD hS hA 7 (by decide) (by decide) (by decide) (Nat.le_of_ble_eq_true rfl) (Nat.le_of_ble_eq_true rfl) d_RO_init_12 (fun ad_2 H_3 hP hD hS => ?_)
  have hP : va_P D vwCl [(h0, .inr (6, [.int 0, .null, .null])), (ad_2, .inl (cI, 7, .inl (fun _ => 0)))] H_3 := hP
  refine W.widen (k := 1) (n := 7) (Nat.le_of_ble_eq_true rfl) (Nat.le_of_ble_eq_true rfl) ?_
  refine va_putF (D := D) (ci := 6) (v := .ref ad_2) (ty := .array .int) (C := R_RO) (T := F_RO) (N := 3) hx hb hts i_RO t_RO t_RO_ok n_RO hown hK hP hD hS 0 rfl rfl 1 (by decide) (hts _ q_176) (fun _ h9 => h9) rfl hin rfl (by decide +kernel) rfl rfl (Nat.le_of_ble_eq_true rfl) d_RO_init_14 (fun H_4 locs hP hD hS => ?_)
  have hP : va_P D vwCl [(h0, .inr (6, [.int 0, .ref ad_2, .null])), (ad_2, .inl (cI, 7, .inl (fun _ => 0)))] H_4 := hP
  refine lv_aload_n hx hb d_RO_init_17 rfl (lv_at hl 0 rfl) ?_
  refine lv_bipush (v := 7) hx hb d_RO_init_18 (by decide) ?_
  refine my_newI hx hb (hts _ q_48) hK hP hD hS hA 7 (by decide) (by decide) (by decide) (Nat.le_of_ble_eq_true rfl) (Nat.le_of_ble_eq_true rfl) d_RO_init_20 (fun ad_5 H_6 hP hD hS => ?_)
  have hP : va_P D vwCl [(h0, .inr (6, [.int 0, .ref ad_2, .null])), (ad_2, .inl (cI, 7, .inl (fun _ => 0))), (ad_5, .inl (cI, 7, .inl (fun _ => 0)))] H_6 := hP
  refine W.widen (k := 2) (n := 14) (Nat.le_of_ble_eq_true rfl) (Nat.le_of_ble_eq_true rfl) ?_
  refine va_putF (D := D) (ci := 6) (v := .ref ad_5) (ty := .array .int) (C := R_RO) (T := F_RO) (N := 3) hx hb hts i_RO t_RO t_RO_ok n_RO hown hK hP hD hS 0 rfl rfl 2 (by decide) (hts _ q_180) (fun _ h9 => h9) rfl hin rfl (by decide +kernel) rfl rfl (Nat.le_of_ble_eq_true rfl) d_RO_init_22 (fun H_7 locs hP hD hS => ?_)
  have hP : va_P D vwCl [(h0, .inr (6, [.int 0, .ref ad_2, .ref ad_5])), (ad_2, .inl (cI, 7, .inl (fun _ => 0))), (ad_5, .inl (cI, 7, .inl (fun _ => 0)))] H_7 := hP
  have hP9 := hP.sub (ws' := [(h0, .inr (6, [.int 0, .ref ad_2, .ref ad_5])), (ad_2, .inl (cI, 7, .inl (fun _ => 0))), (ad_5, .inl (cI, 7, .inl (fun _ => 0)))]) [0, 1, 2] rfl
  have hD9 := hD.sub (ws' := [(h0, .inr (6, [.int 0, .ref ad_2, .ref ad_5])), (ad_2, .inl (cI, 7, .inl (fun _ => 0))), (ad_5, .inl (cI, 7, .inl (fun _ => 0)))]) [0, 1, 2] (by decide +kernel) rfl
  refine W.widen (k := 2) (n := 14) (Nat.le_of_ble_eq_true rfl) (Nat.le_of_ble_eq_true rfl) ?_
  exact W.vret hx hb hr (fun t ht hW => ⟨⟨(ad_2, ad_5), rfl, trivial, by rw [ht]; exact hP9, hD9⟩, hS.F ht⟩) hS.2.2 d_RO_init_25

set_option maxHeartbeats 4000000 in
set_option maxRecDepth 100000 in
theorem c_PE_init (l : Launch) (D : va_G) (cI cZ : ClassId) (h0 : Nat) (sz : Nat)  : Met l ⟨"PromiseChains$People", "<init>", "()V"⟩ (mw ⟨"PromiseChains$People", "<init>", "()V"⟩ prog_3_method_1_code 1 none) ({ frames := 1, cells := 4, slots := 28, locals := 12 }) (va_Pc [.ref h0] (PB D cI cZ sz [(h0, .inr (1, [.int 0, .null, .null, .null, .null]))])) (va_Qv (S := Nat × Nat × Nat × Nat) (fun uU => True) (fun uU tT => BB D (va_A [(h0, .inr (1, [.int 0, .null, .null, .null, .null]))] sz) [(h0, .inr (1, [.int 0, .ref uU.1, .ref uU.2.1, .ref uU.2.2.1, .ref uU.2.2.2])), (uU.1, .inl (cI, 7, .inl (fun _ => 0))), (uU.2.1, .inl (cI, 7, .inl (fun _ => 0))), (uU.2.2.1, .inl (cI, 7, .inl (fun _ => 0))), (uU.2.2.2, .inl (cZ, 7, .inl (fun _ => 0)))] tT) (va_A [(h0, .inr (1, [.int 0, .null, .null, .null, .null]))] sz)) 4 28 (va_A [(h0, .inr (1, [.int 0, .null, .null, .null, .null]))] sz) := by
  refine Met.ofW (cc := prog_3_method_1_code) (maxL := 1) (ret := none) (by decide) rfl ?_
  intro p e s m args below meth c s₁ B hml hv
  obtain ⟨rfl, hsz, hP, hK, hD0, hN⟩ := hv
  have hx := B.exec
  have hb := B.bytes
  have hr := B.returns
  have hts0 := atoms_spec (ws := mw ⟨"PromiseChains$People", "<init>", "()V"⟩ prog_3_method_1_code 1 none) B.pre
  have hts : ∀ w ∈ tblG, w.before _ s = true := fun w h => hts0 w (List.mem_cons_of_mem _ h)
  have hown : s.vm.findClass "PromiseChains$People" = some m.cls := findClass_of_methodNamed B.named
  have hlocks := B.notSynchronized
  have hin : meth.name = "<init>" := (name_of_methodNamed B.named B.method).1
  subst hsz
  have hD := hD0.self (sz := s.heap.size)
  generalize hAe : va_A [(h0, .inr (1, [.int 0, .null, .null, .null, .null]))] s.heap.size = A at hD ⊢
  have hA : ∀ q : Nat, s.heap.size ≤ q → A q := fun q h => by rw [← hAe]; exact Or.inr h
  have hS : va_S A s.heap s.heap [] := va_S.rf
  have hP : va_P D vwCl [(h0, .inr (1, [.int 0, .null, .null, .null, .null]))] s.heap := hP
  have hl := lv_entry ([.ref h0]) (n := 1) (Nat.le_of_ble_eq_true rfl)
  rw [lg_entry_eq]
  generalize (lg_sl ([.ref h0]) ++ List.replicate (1 - (lg_sl ([.ref h0])).length) Slot.unset).toArray = ls at hl ⊢
  have hl : lv_has ls 1 [(0, .ref h0)] := hl
  refine lv_aload_n hx hb d_PE_init_0 rfl (lv_at hl 0 rfl) ?_
  refine W.objInit hx hb hown (hts _ q_23) (hts _ q_16) (hts _ q_17) rfl (by rw [hml]; exact hl.1) rfl d_PE_init_1 (Nat.le_of_ble_eq_true rfl) (Nat.le_of_ble_eq_true rfl) ?_
  refine W.eq (g2 := F0 m 4 ls []) rfl ?_
  refine lv_aload_n hx hb d_PE_init_4 rfl (lv_at hl 0 rfl) ?_
  refine lv_iconst (v := 0) hx hb d_PE_init_5 (by decide) ?_
  refine va_put (D := D) (ci := 1) (v := .int 0) (ty := .int) (C := R_PE) (T := F_PE) (N := 5) hx hb hts i_PE t_PE t_PE_ok n_PE hown hK hP hD hS 0 rfl rfl 0 (by decide) (hts _ q_24) (fun _ h9 => h9) rfl (by decide +kernel) rfl rfl (Nat.le_of_ble_eq_true rfl) d_PE_init_6 (fun H_1 locs hP hD hS => ?_)
  have hP : va_P D vwCl [(h0, .inr (1, [.int 0, .null, .null, .null, .null]))] H_1 := hP
  refine lv_aload_n hx hb d_PE_init_9 rfl (lv_at hl 0 rfl) ?_
  refine lv_bipush (v := 7) hx hb d_PE_init_10 (by decide) ?_
  refine my_newI hx hb (hts _ q_48) hK hP hD hS hA 7 (by decide) (by decide) (by decide) (Nat.le_of_ble_eq_true rfl) (Nat.le_of_ble_eq_true rfl) d_PE_init_12 (fun ad_2 H_3 hP hD hS => ?_)
  have hP : va_P D vwCl [(h0, .inr (1, [.int 0, .null, .null, .null, .null])), (ad_2, .inl (cI, 7, .inl (fun _ => 0)))] H_3 := hP
  refine W.widen (k := 1) (n := 7) (Nat.le_of_ble_eq_true rfl) (Nat.le_of_ble_eq_true rfl) ?_
  refine va_putF (D := D) (ci := 1) (v := .ref ad_2) (ty := .array .int) (C := R_PE) (T := F_PE) (N := 5) hx hb hts i_PE t_PE t_PE_ok n_PE hown hK hP hD hS 0 rfl rfl 1 (by decide) (hts _ q_26) (fun _ h9 => h9) rfl hin rfl (by decide +kernel) rfl rfl (Nat.le_of_ble_eq_true rfl) d_PE_init_14 (fun H_4 locs hP hD hS => ?_)
  have hP : va_P D vwCl [(h0, .inr (1, [.int 0, .ref ad_2, .null, .null, .null])), (ad_2, .inl (cI, 7, .inl (fun _ => 0)))] H_4 := hP
  refine lv_aload_n hx hb d_PE_init_17 rfl (lv_at hl 0 rfl) ?_
  refine lv_bipush (v := 7) hx hb d_PE_init_18 (by decide) ?_
  refine my_newI hx hb (hts _ q_48) hK hP hD hS hA 7 (by decide) (by decide) (by decide) (Nat.le_of_ble_eq_true rfl) (Nat.le_of_ble_eq_true rfl) d_PE_init_20 (fun ad_5 H_6 hP hD hS => ?_)
  have hP : va_P D vwCl [(h0, .inr (1, [.int 0, .ref ad_2, .null, .null, .null])), (ad_2, .inl (cI, 7, .inl (fun _ => 0))), (ad_5, .inl (cI, 7, .inl (fun _ => 0)))] H_6 := hP
  refine W.widen (k := 2) (n := 14) (Nat.le_of_ble_eq_true rfl) (Nat.le_of_ble_eq_true rfl) ?_
  refine va_putF (D := D) (ci := 1) (v := .ref ad_5) (ty := .array .int) (C := R_PE) (T := F_PE) (N := 5) hx hb hts i_PE t_PE t_PE_ok n_PE hown hK hP hD hS 0 rfl rfl 2 (by decide) (hts _ q_29) (fun _ h9 => h9) rfl hin rfl (by decide +kernel) rfl rfl (Nat.le_of_ble_eq_true rfl) d_PE_init_22 (fun H_7 locs hP hD hS => ?_)
  have hP : va_P D vwCl [(h0, .inr (1, [.int 0, .ref ad_2, .ref ad_5, .null, .null])), (ad_2, .inl (cI, 7, .inl (fun _ => 0))), (ad_5, .inl (cI, 7, .inl (fun _ => 0)))] H_7 := hP
  refine lv_aload_n hx hb d_PE_init_25 rfl (lv_at hl 0 rfl) ?_
  refine lv_bipush (v := 7) hx hb d_PE_init_26 (by decide) ?_
  refine my_newI hx hb (hts _ q_48) hK hP hD hS hA 7 (by decide) (by decide) (by decide) (Nat.le_of_ble_eq_true rfl) (Nat.le_of_ble_eq_true rfl) d_PE_init_28 (fun ad_8 H_9 hP hD hS => ?_)
  have hP : va_P D vwCl [(h0, .inr (1, [.int 0, .ref ad_2, .ref ad_5, .null, .null])), (ad_2, .inl (cI, 7, .inl (fun _ => 0))), (ad_5, .inl (cI, 7, .inl (fun _ => 0))), (ad_8, .inl (cI, 7, .inl (fun _ => 0)))] H_9 := hP
  refine W.widen (k := 3) (n := 21) (Nat.le_of_ble_eq_true rfl) (Nat.le_of_ble_eq_true rfl) ?_
  refine va_putF (D := D) (ci := 1) (v := .ref ad_8) (ty := .array .int) (C := R_PE) (T := F_PE) (N := 5) hx hb hts i_PE t_PE t_PE_ok n_PE hown hK hP hD hS 0 rfl rfl 3 (by decide) (hts _ q_31) (fun _ h9 => h9) rfl hin rfl (by decide +kernel) rfl rfl (Nat.le_of_ble_eq_true rfl) d_PE_init_30 (fun H_10 locs hP hD hS => ?_)
  have hP : va_P D vwCl [(h0, .inr (1, [.int 0, .ref ad_2, .ref ad_5, .ref ad_8, .null])), (ad_2, .inl (cI, 7, .inl (fun _ => 0))), (ad_5, .inl (cI, 7, .inl (fun _ => 0))), (ad_8, .inl (cI, 7, .inl (fun _ => 0)))] H_10 := hP
  refine lv_aload_n hx hb d_PE_init_33 rfl (lv_at hl 0 rfl) ?_
  refine lv_bipush (v := 7) hx hb d_PE_init_34 (by decide) ?_
  refine my_newZ hx hb (hts _ q_49) hK hP hD hS hA 7 (by decide) (by decide) (by decide) (Nat.le_of_ble_eq_true rfl) (Nat.le_of_ble_eq_true rfl) d_PE_init_36 (fun ad_11 H_12 hP hD hS => ?_)
  have hP : va_P D vwCl [(h0, .inr (1, [.int 0, .ref ad_2, .ref ad_5, .ref ad_8, .null])), (ad_2, .inl (cI, 7, .inl (fun _ => 0))), (ad_5, .inl (cI, 7, .inl (fun _ => 0))), (ad_8, .inl (cI, 7, .inl (fun _ => 0))), (ad_11, .inl (cZ, 7, .inl (fun _ => 0)))] H_12 := hP
  refine W.widen (k := 4) (n := 28) (Nat.le_of_ble_eq_true rfl) (Nat.le_of_ble_eq_true rfl) ?_
  refine va_putF (D := D) (ci := 1) (v := .ref ad_11) (ty := .array .boolean) (C := R_PE) (T := F_PE) (N := 5) hx hb hts i_PE t_PE t_PE_ok n_PE hown hK hP hD hS 0 rfl rfl 4 (by decide) (hts _ q_33) (fun _ h9 => h9) rfl hin rfl (by decide +kernel) rfl rfl (Nat.le_of_ble_eq_true rfl) d_PE_init_38 (fun H_13 locs hP hD hS => ?_)
  have hP : va_P D vwCl [(h0, .inr (1, [.int 0, .ref ad_2, .ref ad_5, .ref ad_8, .ref ad_11])), (ad_2, .inl (cI, 7, .inl (fun _ => 0))), (ad_5, .inl (cI, 7, .inl (fun _ => 0))), (ad_8, .inl (cI, 7, .inl (fun _ => 0))), (ad_11, .inl (cZ, 7, .inl (fun _ => 0)))] H_13 := hP
  have hP9 := hP.sub (ws' := [(h0, .inr (1, [.int 0, .ref ad_2, .ref ad_5, .ref ad_8, .ref ad_11])), (ad_2, .inl (cI, 7, .inl (fun _ => 0))), (ad_5, .inl (cI, 7, .inl (fun _ => 0))), (ad_8, .inl (cI, 7, .inl (fun _ => 0))), (ad_11, .inl (cZ, 7, .inl (fun _ => 0)))]) [0, 1, 2, 3, 4] rfl
  have hD9 := hD.sub (ws' := [(h0, .inr (1, [.int 0, .ref ad_2, .ref ad_5, .ref ad_8, .ref ad_11])), (ad_2, .inl (cI, 7, .inl (fun _ => 0))), (ad_5, .inl (cI, 7, .inl (fun _ => 0))), (ad_8, .inl (cI, 7, .inl (fun _ => 0))), (ad_11, .inl (cZ, 7, .inl (fun _ => 0)))]) [0, 1, 2, 3, 4] (by decide +kernel) rfl
  refine W.widen (k := 4) (n := 28) (Nat.le_of_ble_eq_true rfl) (Nat.le_of_ble_eq_true rfl) ?_
  exact W.vret hx hb hr (fun t ht hW => ⟨⟨(ad_2, ad_5, ad_8, ad_11), rfl, trivial, by rw [ht]; exact hP9, hD9⟩, hS.F ht⟩) hS.2.2 d_PE_init_41

set_option maxHeartbeats 4000000 in
set_option maxRecDepth 100000 in
theorem c_PA_init (l : Launch) (D : va_G) (cI cZ : ClassId) (h0 : Nat) (sz : Nat)  : Met l ⟨"PromiseChains$Pairs", "<init>", "()V"⟩ (mw ⟨"PromiseChains$Pairs", "<init>", "()V"⟩ prog_2_method_1_code 1 none) ({ frames := 1, cells := 11, slots := 1692, locals := 12 }) (va_Pc [.ref h0] (PB D cI cZ sz [(h0, .inr (2, [.int 0, .null, .null, .null, .null, .null, .null, .null, .null, .null, .null, .null]))])) (va_Qv (S := Nat × Nat × Nat × Nat × Nat × Nat × Nat × Nat × Nat × Nat × Nat) (fun uU => True) (fun uU tT => BB D (va_A [(h0, .inr (2, [.int 0, .null, .null, .null, .null, .null, .null, .null, .null, .null, .null, .null]))] sz) [(h0, .inr (2, [.int 0, .ref uU.1, .ref uU.2.1, .ref uU.2.2.1, .ref uU.2.2.2.1, .ref uU.2.2.2.2.1, .ref uU.2.2.2.2.2.1, .ref uU.2.2.2.2.2.2.1, .ref uU.2.2.2.2.2.2.2.1, .ref uU.2.2.2.2.2.2.2.2.1, .ref uU.2.2.2.2.2.2.2.2.2.1, .ref uU.2.2.2.2.2.2.2.2.2.2])), (uU.1, .inl (cI, 24, .inl (fun _ => 0))), (uU.2.1, .inl (cI, 24, .inl (fun _ => 0))), (uU.2.2.1, .inl (cI, 24, .inl (fun _ => 0))), (uU.2.2.2.1, .inl (cI, 1536, .inl (fun _ => 0))), (uU.2.2.2.2.1, .inl (cI, 12, .inl (fun _ => 0))), (uU.2.2.2.2.2.1, .inl (cI, 12, .inl (fun _ => 0))), (uU.2.2.2.2.2.2.1, .inl (cI, 12, .inl (fun _ => 0))), (uU.2.2.2.2.2.2.2.1, .inl (cI, 12, .inl (fun _ => 0))), (uU.2.2.2.2.2.2.2.2.1, .inl (cI, 12, .inl (fun _ => 0))), (uU.2.2.2.2.2.2.2.2.2.1, .inl (cI, 12, .inl (fun _ => 0))), (uU.2.2.2.2.2.2.2.2.2.2, .inl (cI, 12, .inl (fun _ => 0)))] tT) (va_A [(h0, .inr (2, [.int 0, .null, .null, .null, .null, .null, .null, .null, .null, .null, .null, .null]))] sz)) 11 1692 (va_A [(h0, .inr (2, [.int 0, .null, .null, .null, .null, .null, .null, .null, .null, .null, .null, .null]))] sz) := by
  refine Met.ofW (cc := prog_2_method_1_code) (maxL := 1) (ret := none) (by decide) rfl ?_
  intro p e s m args below meth c s₁ B hml hv
  obtain ⟨rfl, hsz, hP, hK, hD0, hN⟩ := hv
  have hx := B.exec
  have hb := B.bytes
  have hr := B.returns
  have hts0 := atoms_spec (ws := mw ⟨"PromiseChains$Pairs", "<init>", "()V"⟩ prog_2_method_1_code 1 none) B.pre
  have hts : ∀ w ∈ tblG, w.before _ s = true := fun w h => hts0 w (List.mem_cons_of_mem _ h)
  have hown : s.vm.findClass "PromiseChains$Pairs" = some m.cls := findClass_of_methodNamed B.named
  have hlocks := B.notSynchronized
  have hin : meth.name = "<init>" := (name_of_methodNamed B.named B.method).1
  subst hsz
  have hD := hD0.self (sz := s.heap.size)
  generalize hAe : va_A [(h0, .inr (2, [.int 0, .null, .null, .null, .null, .null, .null, .null, .null, .null, .null, .null]))] s.heap.size = A at hD ⊢
  have hA : ∀ q : Nat, s.heap.size ≤ q → A q := fun q h => by rw [← hAe]; exact Or.inr h
  have hS : va_S A s.heap s.heap [] := va_S.rf
  have hP : va_P D vwCl [(h0, .inr (2, [.int 0, .null, .null, .null, .null, .null, .null, .null, .null, .null, .null, .null]))] s.heap := hP
  have hl := lv_entry ([.ref h0]) (n := 1) (Nat.le_of_ble_eq_true rfl)
  rw [lg_entry_eq]
  generalize (lg_sl ([.ref h0]) ++ List.replicate (1 - (lg_sl ([.ref h0])).length) Slot.unset).toArray = ls at hl ⊢
  have hl : lv_has ls 1 [(0, .ref h0)] := hl
  refine lv_aload_n hx hb d_PA_init_0 rfl (lv_at hl 0 rfl) ?_
  refine W.objInit hx hb hown (hts _ q_55) (hts _ q_16) (hts _ q_17) rfl (by rw [hml]; exact hl.1) rfl d_PA_init_1 (Nat.le_of_ble_eq_true rfl) (Nat.le_of_ble_eq_true rfl) ?_
  refine W.eq (g2 := F0 m 4 ls []) rfl ?_
  refine lv_aload_n hx hb d_PA_init_4 rfl (lv_at hl 0 rfl) ?_
  refine lv_iconst (v := 0) hx hb d_PA_init_5 (by decide) ?_
  refine va_put (D := D) (ci := 2) (v := .int 0) (ty := .int) (C := R_PA) (T := F_PA) (N := 12) hx hb hts i_PA t_PA t_PA_ok n_PA hown hK hP hD hS 0 rfl rfl 0 (by decide) (hts _ q_56) (fun _ h9 => h9) rfl (by decide +kernel) rfl rfl (Nat.le_of_ble_eq_true rfl) d_PA_init_6 (fun H_1 locs hP hD hS => ?_)
  have hP : va_P D vwCl [(h0, .inr (2, [.int 0, .null, .null, .null, .null, .null, .null, .null, .null, .null, .null, .null]))] H_1 := hP
  refine lv_aload_n hx hb d_PA_init_9 rfl (lv_at hl 0 rfl) ?_
  refine lv_bipush (v := 24) hx hb d_PA_init_10 (by decide) ?_
  refine my_newI hx hb (hts _ q_48) hK hP hD hS hA 24 (by decide) (by decide) (by decide) (Nat.le_of_ble_eq_true rfl) (Nat.le_of_ble_eq_true rfl) d_PA_init_12 (fun ad_2 H_3 hP hD hS => ?_)
  have hP : va_P D vwCl [(h0, .inr (2, [.int 0, .null, .null, .null, .null, .null, .null, .null, .null, .null, .null, .null])), (ad_2, .inl (cI, 24, .inl (fun _ => 0)))] H_3 := hP
  refine W.widen (k := 1) (n := 24) (Nat.le_of_ble_eq_true rfl) (Nat.le_of_ble_eq_true rfl) ?_
  refine va_putF (D := D) (ci := 2) (v := .ref ad_2) (ty := .array .int) (C := R_PA) (T := F_PA) (N := 12) hx hb hts i_PA t_PA t_PA_ok n_PA hown hK hP hD hS 0 rfl rfl 1 (by decide) (hts _ q_58) (fun _ h9 => h9) rfl hin rfl (by decide +kernel) rfl rfl (Nat.le_of_ble_eq_true rfl) d_PA_init_14 (fun H_4 locs hP hD hS => ?_)
  have hP : va_P D vwCl [(h0, .inr (2, [.int 0, .ref ad_2, .null, .null, .null, .null, .null, .null, .null, .null, .null, .null])), (ad_2, .inl (cI, 24, .inl (fun _ => 0)))] H_4 := hP
  refine lv_aload_n hx hb d_PA_init_17 rfl (lv_at hl 0 rfl) ?_
  refine lv_bipush (v := 24) hx hb d_PA_init_18 (by decide) ?_
  refine my_newI hx hb (hts _ q_48) hK hP hD hS hA 24 (by decide) (by decide) (by decide) (Nat.le_of_ble_eq_true rfl) (Nat.le_of_ble_eq_true rfl) d_PA_init_20 (fun ad_5 H_6 hP hD hS => ?_)
  have hP : va_P D vwCl [(h0, .inr (2, [.int 0, .ref ad_2, .null, .null, .null, .null, .null, .null, .null, .null, .null, .null])), (ad_2, .inl (cI, 24, .inl (fun _ => 0))), (ad_5, .inl (cI, 24, .inl (fun _ => 0)))] H_6 := hP
  refine W.widen (k := 2) (n := 48) (Nat.le_of_ble_eq_true rfl) (Nat.le_of_ble_eq_true rfl) ?_
  refine va_putF (D := D) (ci := 2) (v := .ref ad_5) (ty := .array .int) (C := R_PA) (T := F_PA) (N := 12) hx hb hts i_PA t_PA t_PA_ok n_PA hown hK hP hD hS 0 rfl rfl 2 (by decide) (hts _ q_61) (fun _ h9 => h9) rfl hin rfl (by decide +kernel) rfl rfl (Nat.le_of_ble_eq_true rfl) d_PA_init_22 (fun H_7 locs hP hD hS => ?_)
  have hP : va_P D vwCl [(h0, .inr (2, [.int 0, .ref ad_2, .ref ad_5, .null, .null, .null, .null, .null, .null, .null, .null, .null])), (ad_2, .inl (cI, 24, .inl (fun _ => 0))), (ad_5, .inl (cI, 24, .inl (fun _ => 0)))] H_7 := hP
  refine lv_aload_n hx hb d_PA_init_25 rfl (lv_at hl 0 rfl) ?_
  refine lv_bipush (v := 24) hx hb d_PA_init_26 (by decide) ?_
  refine my_newI hx hb (hts _ q_48) hK hP hD hS hA 24 (by decide) (by decide) (by decide) (Nat.le_of_ble_eq_true rfl) (Nat.le_of_ble_eq_true rfl) d_PA_init_28 (fun ad_8 H_9 hP hD hS => ?_)
  have hP : va_P D vwCl [(h0, .inr (2, [.int 0, .ref ad_2, .ref ad_5, .null, .null, .null, .null, .null, .null, .null, .null, .null])), (ad_2, .inl (cI, 24, .inl (fun _ => 0))), (ad_5, .inl (cI, 24, .inl (fun _ => 0))), (ad_8, .inl (cI, 24, .inl (fun _ => 0)))] H_9 := hP
  refine W.widen (k := 3) (n := 72) (Nat.le_of_ble_eq_true rfl) (Nat.le_of_ble_eq_true rfl) ?_
  refine va_putF (D := D) (ci := 2) (v := .ref ad_8) (ty := .array .int) (C := R_PA) (T := F_PA) (N := 12) hx hb hts i_PA t_PA t_PA_ok n_PA hown hK hP hD hS 0 rfl rfl 3 (by decide) (hts _ q_64) (fun _ h9 => h9) rfl hin rfl (by decide +kernel) rfl rfl (Nat.le_of_ble_eq_true rfl) d_PA_init_30 (fun H_10 locs hP hD hS => ?_)
  have hP : va_P D vwCl [(h0, .inr (2, [.int 0, .ref ad_2, .ref ad_5, .ref ad_8, .null, .null, .null, .null, .null, .null, .null, .null])), (ad_2, .inl (cI, 24, .inl (fun _ => 0))), (ad_5, .inl (cI, 24, .inl (fun _ => 0))), (ad_8, .inl (cI, 24, .inl (fun _ => 0)))] H_10 := hP
  refine lv_aload_n hx hb d_PA_init_33 rfl (lv_at hl 0 rfl) ?_
  refine lv_sipush (v := 1536) hx hb d_PA_init_34 (by decide) ?_
  refine my_newI hx hb (hts _ q_48) hK hP hD hS hA 1536 (by decide) (by decide) (by decide) (Nat.le_of_ble_eq_true rfl) (Nat.le_of_ble_eq_true rfl) d_PA_init_37 (fun ad_11 H_12 hP hD hS => ?_)
  have hP : va_P D vwCl [(h0, .inr (2, [.int 0, .ref ad_2, .ref ad_5, .ref ad_8, .null, .null, .null, .null, .null, .null, .null, .null])), (ad_2, .inl (cI, 24, .inl (fun _ => 0))), (ad_5, .inl (cI, 24, .inl (fun _ => 0))), (ad_8, .inl (cI, 24, .inl (fun _ => 0))), (ad_11, .inl (cI, 1536, .inl (fun _ => 0)))] H_12 := hP
  refine W.widen (k := 4) (n := 1608) (Nat.le_of_ble_eq_true rfl) (Nat.le_of_ble_eq_true rfl) ?_
  refine va_putF (D := D) (ci := 2) (v := .ref ad_11) (ty := .array .int) (C := R_PA) (T := F_PA) (N := 12) hx hb hts i_PA t_PA t_PA_ok n_PA hown hK hP hD hS 0 rfl rfl 4 (by decide) (hts _ q_66) (fun _ h9 => h9) rfl hin rfl (by decide +kernel) rfl rfl (Nat.le_of_ble_eq_true rfl) d_PA_init_39 (fun H_13 locs hP hD hS => ?_)
  have hP : va_P D vwCl [(h0, .inr (2, [.int 0, .ref ad_2, .ref ad_5, .ref ad_8, .ref ad_11, .null, .null, .null, .null, .null, .null, .null])), (ad_2, .inl (cI, 24, .inl (fun _ => 0))), (ad_5, .inl (cI, 24, .inl (fun _ => 0))), (ad_8, .inl (cI, 24, .inl (fun _ => 0))), (ad_11, .inl (cI, 1536, .inl (fun _ => 0)))] H_13 := hP
  refine lv_aload_n hx hb d_PA_init_42 rfl (lv_at hl 0 rfl) ?_
  refine lv_bipush (v := 12) hx hb d_PA_init_43 (by decide) ?_
  refine my_newI hx hb (hts _ q_48) hK hP hD hS hA 12 (by decide) (by decide) (by decide) (Nat.le_of_ble_eq_true rfl) (Nat.le_of_ble_eq_true rfl) d_PA_init_45 (fun ad_14 H_15 hP hD hS => ?_)
  have hP : va_P D vwCl [(h0, .inr (2, [.int 0, .ref ad_2, .ref ad_5, .ref ad_8, .ref ad_11, .null, .null, .null, .null, .null, .null, .null])), (ad_2, .inl (cI, 24, .inl (fun _ => 0))), (ad_5, .inl (cI, 24, .inl (fun _ => 0))), (ad_8, .inl (cI, 24, .inl (fun _ => 0))), (ad_11, .inl (cI, 1536, .inl (fun _ => 0))), (ad_14, .inl (cI, 12, .inl (fun _ => 0)))] H_15 := hP
  refine W.widen (k := 5) (n := 1620) (Nat.le_of_ble_eq_true rfl) (Nat.le_of_ble_eq_true rfl) ?_
  refine va_putF (D := D) (ci := 2) (v := .ref ad_14) (ty := .array .int) (C := R_PA) (T := F_PA) (N := 12) hx hb hts i_PA t_PA t_PA_ok n_PA hown hK hP hD hS 0 rfl rfl 5 (by decide) (hts _ q_67) (fun _ h9 => h9) rfl hin rfl (by decide +kernel) rfl rfl (Nat.le_of_ble_eq_true rfl) d_PA_init_47 (fun H_16 locs hP hD hS => ?_)
  have hP : va_P D vwCl [(h0, .inr (2, [.int 0, .ref ad_2, .ref ad_5, .ref ad_8, .ref ad_11, .ref ad_14, .null, .null, .null, .null, .null, .null])), (ad_2, .inl (cI, 24, .inl (fun _ => 0))), (ad_5, .inl (cI, 24, .inl (fun _ => 0))), (ad_8, .inl (cI, 24, .inl (fun _ => 0))), (ad_11, .inl (cI, 1536, .inl (fun _ => 0))), (ad_14, .inl (cI, 12, .inl (fun _ => 0)))] H_16 := hP
  refine lv_aload_n hx hb d_PA_init_50 rfl (lv_at hl 0 rfl) ?_
  refine lv_bipush (v := 12) hx hb d_PA_init_51 (by decide) ?_
  refine my_newI hx hb (hts _ q_48) hK hP hD hS hA 12 (by decide) (by decide) (by decide) (Nat.le_of_ble_eq_true rfl) (Nat.le_of_ble_eq_true rfl) d_PA_init_53 (fun ad_17 H_18 hP hD hS => ?_)
  have hP : va_P D vwCl [(h0, .inr (2, [.int 0, .ref ad_2, .ref ad_5, .ref ad_8, .ref ad_11, .ref ad_14, .null, .null, .null, .null, .null, .null])), (ad_2, .inl (cI, 24, .inl (fun _ => 0))), (ad_5, .inl (cI, 24, .inl (fun _ => 0))), (ad_8, .inl (cI, 24, .inl (fun _ => 0))), (ad_11, .inl (cI, 1536, .inl (fun _ => 0))), (ad_14, .inl (cI, 12, .inl (fun _ => 0))), (ad_17, .inl (cI, 12, .inl (fun _ => 0)))] H_18 := hP
  refine W.widen (k := 6) (n := 1632) (Nat.le_of_ble_eq_true rfl) (Nat.le_of_ble_eq_true rfl) ?_
  refine va_putF (D := D) (ci := 2) (v := .ref ad_17) (ty := .array .int) (C := R_PA) (T := F_PA) (N := 12) hx hb hts i_PA t_PA t_PA_ok n_PA hown hK hP hD hS 0 rfl rfl 6 (by decide) (hts _ q_69) (fun _ h9 => h9) rfl hin rfl (by decide +kernel) rfl rfl (Nat.le_of_ble_eq_true rfl) d_PA_init_55 (fun H_19 locs hP hD hS => ?_)
  have hP : va_P D vwCl [(h0, .inr (2, [.int 0, .ref ad_2, .ref ad_5, .ref ad_8, .ref ad_11, .ref ad_14, .ref ad_17, .null, .null, .null, .null, .null])), (ad_2, .inl (cI, 24, .inl (fun _ => 0))), (ad_5, .inl (cI, 24, .inl (fun _ => 0))), (ad_8, .inl (cI, 24, .inl (fun _ => 0))), (ad_11, .inl (cI, 1536, .inl (fun _ => 0))), (ad_14, .inl (cI, 12, .inl (fun _ => 0))), (ad_17, .inl (cI, 12, .inl (fun _ => 0)))] H_19 := hP
  refine lv_aload_n hx hb d_PA_init_58 rfl (lv_at hl 0 rfl) ?_
  refine lv_bipush (v := 12) hx hb d_PA_init_59 (by decide) ?_
  refine my_newI hx hb (hts _ q_48) hK hP hD hS hA 12 (by decide) (by decide) (by decide) (Nat.le_of_ble_eq_true rfl) (Nat.le_of_ble_eq_true rfl) d_PA_init_61 (fun ad_20 H_21 hP hD hS => ?_)
  have hP : va_P D vwCl [(h0, .inr (2, [.int 0, .ref ad_2, .ref ad_5, .ref ad_8, .ref ad_11, .ref ad_14, .ref ad_17, .null, .null, .null, .null, .null])), (ad_2, .inl (cI, 24, .inl (fun _ => 0))), (ad_5, .inl (cI, 24, .inl (fun _ => 0))), (ad_8, .inl (cI, 24, .inl (fun _ => 0))), (ad_11, .inl (cI, 1536, .inl (fun _ => 0))), (ad_14, .inl (cI, 12, .inl (fun _ => 0))), (ad_17, .inl (cI, 12, .inl (fun _ => 0))), (ad_20, .inl (cI, 12, .inl (fun _ => 0)))] H_21 := hP
  refine W.widen (k := 7) (n := 1644) (Nat.le_of_ble_eq_true rfl) (Nat.le_of_ble_eq_true rfl) ?_
  refine va_putF (D := D) (ci := 2) (v := .ref ad_20) (ty := .array .int) (C := R_PA) (T := F_PA) (N := 12) hx hb hts i_PA t_PA t_PA_ok n_PA hown hK hP hD hS 0 rfl rfl 7 (by decide) (hts _ q_71) (fun _ h9 => h9) rfl hin rfl (by decide +kernel) rfl rfl (Nat.le_of_ble_eq_true rfl) d_PA_init_63 (fun H_22 locs hP hD hS => ?_)
  have hP : va_P D vwCl [(h0, .inr (2, [.int 0, .ref ad_2, .ref ad_5, .ref ad_8, .ref ad_11, .ref ad_14, .ref ad_17, .ref ad_20, .null, .null, .null, .null])), (ad_2, .inl (cI, 24, .inl (fun _ => 0))), (ad_5, .inl (cI, 24, .inl (fun _ => 0))), (ad_8, .inl (cI, 24, .inl (fun _ => 0))), (ad_11, .inl (cI, 1536, .inl (fun _ => 0))), (ad_14, .inl (cI, 12, .inl (fun _ => 0))), (ad_17, .inl (cI, 12, .inl (fun _ => 0))), (ad_20, .inl (cI, 12, .inl (fun _ => 0)))] H_22 := hP
  refine lv_aload_n hx hb d_PA_init_66 rfl (lv_at hl 0 rfl) ?_
  refine lv_bipush (v := 12) hx hb d_PA_init_67 (by decide) ?_
  refine my_newI hx hb (hts _ q_48) hK hP hD hS hA 12 (by decide) (by decide) (by decide) (Nat.le_of_ble_eq_true rfl) (Nat.le_of_ble_eq_true rfl) d_PA_init_69 (fun ad_23 H_24 hP hD hS => ?_)
  have hP : va_P D vwCl [(h0, .inr (2, [.int 0, .ref ad_2, .ref ad_5, .ref ad_8, .ref ad_11, .ref ad_14, .ref ad_17, .ref ad_20, .null, .null, .null, .null])), (ad_2, .inl (cI, 24, .inl (fun _ => 0))), (ad_5, .inl (cI, 24, .inl (fun _ => 0))), (ad_8, .inl (cI, 24, .inl (fun _ => 0))), (ad_11, .inl (cI, 1536, .inl (fun _ => 0))), (ad_14, .inl (cI, 12, .inl (fun _ => 0))), (ad_17, .inl (cI, 12, .inl (fun _ => 0))), (ad_20, .inl (cI, 12, .inl (fun _ => 0))), (ad_23, .inl (cI, 12, .inl (fun _ => 0)))] H_24 := hP
  refine W.widen (k := 8) (n := 1656) (Nat.le_of_ble_eq_true rfl) (Nat.le_of_ble_eq_true rfl) ?_
  refine va_putF (D := D) (ci := 2) (v := .ref ad_23) (ty := .array .int) (C := R_PA) (T := F_PA) (N := 12) hx hb hts i_PA t_PA t_PA_ok n_PA hown hK hP hD hS 0 rfl rfl 8 (by decide) (hts _ q_73) (fun _ h9 => h9) rfl hin rfl (by decide +kernel) rfl rfl (Nat.le_of_ble_eq_true rfl) d_PA_init_71 (fun H_25 locs hP hD hS => ?_)
  have hP : va_P D vwCl [(h0, .inr (2, [.int 0, .ref ad_2, .ref ad_5, .ref ad_8, .ref ad_11, .ref ad_14, .ref ad_17, .ref ad_20, .ref ad_23, .null, .null, .null])), (ad_2, .inl (cI, 24, .inl (fun _ => 0))), (ad_5, .inl (cI, 24, .inl (fun _ => 0))), (ad_8, .inl (cI, 24, .inl (fun _ => 0))), (ad_11, .inl (cI, 1536, .inl (fun _ => 0))), (ad_14, .inl (cI, 12, .inl (fun _ => 0))), (ad_17, .inl (cI, 12, .inl (fun _ => 0))), (ad_20, .inl (cI, 12, .inl (fun _ => 0))), (ad_23, .inl (cI, 12, .inl (fun _ => 0)))] H_25 := hP
  refine lv_aload_n hx hb d_PA_init_74 rfl (lv_at hl 0 rfl) ?_
  refine lv_bipush (v := 12) hx hb d_PA_init_75 (by decide) ?_
  refine my_newI hx hb (hts _ q_48) hK hP hD hS hA 12 (by decide) (by decide) (by decide) (Nat.le_of_ble_eq_true rfl) (Nat.le_of_ble_eq_true rfl) d_PA_init_77 (fun ad_26 H_27 hP hD hS => ?_)
  have hP : va_P D vwCl [(h0, .inr (2, [.int 0, .ref ad_2, .ref ad_5, .ref ad_8, .ref ad_11, .ref ad_14, .ref ad_17, .ref ad_20, .ref ad_23, .null, .null, .null])), (ad_2, .inl (cI, 24, .inl (fun _ => 0))), (ad_5, .inl (cI, 24, .inl (fun _ => 0))), (ad_8, .inl (cI, 24, .inl (fun _ => 0))), (ad_11, .inl (cI, 1536, .inl (fun _ => 0))), (ad_14, .inl (cI, 12, .inl (fun _ => 0))), (ad_17, .inl (cI, 12, .inl (fun _ => 0))), (ad_20, .inl (cI, 12, .inl (fun _ => 0))), (ad_23, .inl (cI, 12, .inl (fun _ => 0))), (ad_26, .inl (cI, 12, .inl (fun _ => 0)))] H_27 := hP
  refine W.widen (k := 9) (n := 1668) (Nat.le_of_ble_eq_true rfl) (Nat.le_of_ble_eq_true rfl) ?_
  refine va_putF (D := D) (ci := 2) (v := .ref ad_26) (ty := .array .int) (C := R_PA) (T := F_PA) (N := 12) hx hb hts i_PA t_PA t_PA_ok n_PA hown hK hP hD hS 0 rfl rfl 9 (by decide) (hts _ q_74) (fun _ h9 => h9) rfl hin rfl (by decide +kernel) rfl rfl (Nat.le_of_ble_eq_true rfl) d_PA_init_79 (fun H_28 locs hP hD hS => ?_)
  have hP : va_P D vwCl [(h0, .inr (2, [.int 0, .ref ad_2, .ref ad_5, .ref ad_8, .ref ad_11, .ref ad_14, .ref ad_17, .ref ad_20, .ref ad_23, .ref ad_26, .null, .null])), (ad_2, .inl (cI, 24, .inl (fun _ => 0))), (ad_5, .inl (cI, 24, .inl (fun _ => 0))), (ad_8, .inl (cI, 24, .inl (fun _ => 0))), (ad_11, .inl (cI, 1536, .inl (fun _ => 0))), (ad_14, .inl (cI, 12, .inl (fun _ => 0))), (ad_17, .inl (cI, 12, .inl (fun _ => 0))), (ad_20, .inl (cI, 12, .inl (fun _ => 0))), (ad_23, .inl (cI, 12, .inl (fun _ => 0))), (ad_26, .inl (cI, 12, .inl (fun _ => 0)))] H_28 := hP
  refine lv_aload_n hx hb d_PA_init_82 rfl (lv_at hl 0 rfl) ?_
  refine lv_bipush (v := 12) hx hb d_PA_init_83 (by decide) ?_
  refine my_newI hx hb (hts _ q_48) hK hP hD hS hA 12 (by decide) (by decide) (by decide) (Nat.le_of_ble_eq_true rfl) (Nat.le_of_ble_eq_true rfl) d_PA_init_85 (fun ad_29 H_30 hP hD hS => ?_)
  have hP : va_P D vwCl [(h0, .inr (2, [.int 0, .ref ad_2, .ref ad_5, .ref ad_8, .ref ad_11, .ref ad_14, .ref ad_17, .ref ad_20, .ref ad_23, .ref ad_26, .null, .null])), (ad_2, .inl (cI, 24, .inl (fun _ => 0))), (ad_5, .inl (cI, 24, .inl (fun _ => 0))), (ad_8, .inl (cI, 24, .inl (fun _ => 0))), (ad_11, .inl (cI, 1536, .inl (fun _ => 0))), (ad_14, .inl (cI, 12, .inl (fun _ => 0))), (ad_17, .inl (cI, 12, .inl (fun _ => 0))), (ad_20, .inl (cI, 12, .inl (fun _ => 0))), (ad_23, .inl (cI, 12, .inl (fun _ => 0))), (ad_26, .inl (cI, 12, .inl (fun _ => 0))), (ad_29, .inl (cI, 12, .inl (fun _ => 0)))] H_30 := hP
  refine W.widen (k := 10) (n := 1680) (Nat.le_of_ble_eq_true rfl) (Nat.le_of_ble_eq_true rfl) ?_
  refine va_putF (D := D) (ci := 2) (v := .ref ad_29) (ty := .array .int) (C := R_PA) (T := F_PA) (N := 12) hx hb hts i_PA t_PA t_PA_ok n_PA hown hK hP hD hS 0 rfl rfl 10 (by decide) (hts _ q_75) (fun _ h9 => h9) rfl hin rfl (by decide +kernel) rfl rfl (Nat.le_of_ble_eq_true rfl) d_PA_init_87 (fun H_31 locs hP hD hS => ?_)
  have hP : va_P D vwCl [(h0, .inr (2, [.int 0, .ref ad_2, .ref ad_5, .ref ad_8, .ref ad_11, .ref ad_14, .ref ad_17, .ref ad_20, .ref ad_23, .ref ad_26, .ref ad_29, .null])), (ad_2, .inl (cI, 24, .inl (fun _ => 0))), (ad_5, .inl (cI, 24, .inl (fun _ => 0))), (ad_8, .inl (cI, 24, .inl (fun _ => 0))), (ad_11, .inl (cI, 1536, .inl (fun _ => 0))), (ad_14, .inl (cI, 12, .inl (fun _ => 0))), (ad_17, .inl (cI, 12, .inl (fun _ => 0))), (ad_20, .inl (cI, 12, .inl (fun _ => 0))), (ad_23, .inl (cI, 12, .inl (fun _ => 0))), (ad_26, .inl (cI, 12, .inl (fun _ => 0))), (ad_29, .inl (cI, 12, .inl (fun _ => 0)))] H_31 := hP
  refine lv_aload_n hx hb d_PA_init_90 rfl (lv_at hl 0 rfl) ?_
  refine lv_bipush (v := 12) hx hb d_PA_init_91 (by decide) ?_
  refine my_newI hx hb (hts _ q_48) hK hP hD hS hA 12 (by decide) (by decide) (by decide) (Nat.le_of_ble_eq_true rfl) (Nat.le_of_ble_eq_true rfl) d_PA_init_93 (fun ad_32 H_33 hP hD hS => ?_)
  have hP : va_P D vwCl [(h0, .inr (2, [.int 0, .ref ad_2, .ref ad_5, .ref ad_8, .ref ad_11, .ref ad_14, .ref ad_17, .ref ad_20, .ref ad_23, .ref ad_26, .ref ad_29, .null])), (ad_2, .inl (cI, 24, .inl (fun _ => 0))), (ad_5, .inl (cI, 24, .inl (fun _ => 0))), (ad_8, .inl (cI, 24, .inl (fun _ => 0))), (ad_11, .inl (cI, 1536, .inl (fun _ => 0))), (ad_14, .inl (cI, 12, .inl (fun _ => 0))), (ad_17, .inl (cI, 12, .inl (fun _ => 0))), (ad_20, .inl (cI, 12, .inl (fun _ => 0))), (ad_23, .inl (cI, 12, .inl (fun _ => 0))), (ad_26, .inl (cI, 12, .inl (fun _ => 0))), (ad_29, .inl (cI, 12, .inl (fun _ => 0))), (ad_32, .inl (cI, 12, .inl (fun _ => 0)))] H_33 := hP
  refine W.widen (k := 11) (n := 1692) (Nat.le_of_ble_eq_true rfl) (Nat.le_of_ble_eq_true rfl) ?_
  refine va_putF (D := D) (ci := 2) (v := .ref ad_32) (ty := .array .int) (C := R_PA) (T := F_PA) (N := 12) hx hb hts i_PA t_PA t_PA_ok n_PA hown hK hP hD hS 0 rfl rfl 11 (by decide) (hts _ q_77) (fun _ h9 => h9) rfl hin rfl (by decide +kernel) rfl rfl (Nat.le_of_ble_eq_true rfl) d_PA_init_95 (fun H_34 locs hP hD hS => ?_)
  have hP : va_P D vwCl [(h0, .inr (2, [.int 0, .ref ad_2, .ref ad_5, .ref ad_8, .ref ad_11, .ref ad_14, .ref ad_17, .ref ad_20, .ref ad_23, .ref ad_26, .ref ad_29, .ref ad_32])), (ad_2, .inl (cI, 24, .inl (fun _ => 0))), (ad_5, .inl (cI, 24, .inl (fun _ => 0))), (ad_8, .inl (cI, 24, .inl (fun _ => 0))), (ad_11, .inl (cI, 1536, .inl (fun _ => 0))), (ad_14, .inl (cI, 12, .inl (fun _ => 0))), (ad_17, .inl (cI, 12, .inl (fun _ => 0))), (ad_20, .inl (cI, 12, .inl (fun _ => 0))), (ad_23, .inl (cI, 12, .inl (fun _ => 0))), (ad_26, .inl (cI, 12, .inl (fun _ => 0))), (ad_29, .inl (cI, 12, .inl (fun _ => 0))), (ad_32, .inl (cI, 12, .inl (fun _ => 0)))] H_34 := hP
  have hP9 := hP.sub (ws' := [(h0, .inr (2, [.int 0, .ref ad_2, .ref ad_5, .ref ad_8, .ref ad_11, .ref ad_14, .ref ad_17, .ref ad_20, .ref ad_23, .ref ad_26, .ref ad_29, .ref ad_32])), (ad_2, .inl (cI, 24, .inl (fun _ => 0))), (ad_5, .inl (cI, 24, .inl (fun _ => 0))), (ad_8, .inl (cI, 24, .inl (fun _ => 0))), (ad_11, .inl (cI, 1536, .inl (fun _ => 0))), (ad_14, .inl (cI, 12, .inl (fun _ => 0))), (ad_17, .inl (cI, 12, .inl (fun _ => 0))), (ad_20, .inl (cI, 12, .inl (fun _ => 0))), (ad_23, .inl (cI, 12, .inl (fun _ => 0))), (ad_26, .inl (cI, 12, .inl (fun _ => 0))), (ad_29, .inl (cI, 12, .inl (fun _ => 0))), (ad_32, .inl (cI, 12, .inl (fun _ => 0)))]) [0, 1, 2, 3, 4, 5, 6, 7, 8, 9, 10, 11] rfl
  have hD9 := hD.sub (ws' := [(h0, .inr (2, [.int 0, .ref ad_2, .ref ad_5, .ref ad_8, .ref ad_11, .ref ad_14, .ref ad_17, .ref ad_20, .ref ad_23, .ref ad_26, .ref ad_29, .ref ad_32])), (ad_2, .inl (cI, 24, .inl (fun _ => 0))), (ad_5, .inl (cI, 24, .inl (fun _ => 0))), (ad_8, .inl (cI, 24, .inl (fun _ => 0))), (ad_11, .inl (cI, 1536, .inl (fun _ => 0))), (ad_14, .inl (cI, 12, .inl (fun _ => 0))), (ad_17, .inl (cI, 12, .inl (fun _ => 0))), (ad_20, .inl (cI, 12, .inl (fun _ => 0))), (ad_23, .inl (cI, 12, .inl (fun _ => 0))), (ad_26, .inl (cI, 12, .inl (fun _ => 0))), (ad_29, .inl (cI, 12, .inl (fun _ => 0))), (ad_32, .inl (cI, 12, .inl (fun _ => 0)))]) [0, 1, 2, 3, 4, 5, 6, 7, 8, 9, 10, 11] (by decide +kernel) rfl
  refine W.widen (k := 11) (n := 1692) (Nat.le_of_ble_eq_true rfl) (Nat.le_of_ble_eq_true rfl) ?_
  exact W.vret hx hb hr (fun t ht hW => ⟨⟨(ad_2, ad_5, ad_8, ad_11, ad_14, ad_17, ad_20, ad_23, ad_26, ad_29, ad_32), rfl, trivial, by rw [ht]; exact hP9, hD9⟩, hS.F ht⟩) hS.2.2 d_PA_init_98

set_option maxHeartbeats 4000000 in
set_option maxRecDepth 100000 in
theorem c_PR_init (l : Launch) (D : va_G) (cI cZ : ClassId) (h0 : Nat) (sz : Nat)  : Met l ⟨"PromiseChains$Promises", "<init>", "()V"⟩ (mw ⟨"PromiseChains$Promises", "<init>", "()V"⟩ prog_4_method_1_code 1 none) ({ frames := 1, cells := 11, slots := 1440, locals := 12 }) (va_Pc [.ref h0] (PB D cI cZ sz [(h0, .inr (3, [.int 0, .int 0, .null, .null, .null, .null, .null, .null, .null, .null, .null, .null, .null]))])) (va_Qv (S := Nat × Nat × Nat × Nat × Nat × Nat × Nat × Nat × Nat × Nat × Nat) (fun uU => True) (fun uU tT => BB D (va_A [(h0, .inr (3, [.int 0, .int 0, .null, .null, .null, .null, .null, .null, .null, .null, .null, .null, .null]))] sz) [(h0, .inr (3, [.int 0, .int 0, .ref uU.1, .ref uU.2.1, .ref uU.2.2.1, .ref uU.2.2.2.1, .ref uU.2.2.2.2.1, .ref uU.2.2.2.2.2.1, .ref uU.2.2.2.2.2.2.1, .ref uU.2.2.2.2.2.2.2.1, .ref uU.2.2.2.2.2.2.2.2.1, .ref uU.2.2.2.2.2.2.2.2.2.1, .ref uU.2.2.2.2.2.2.2.2.2.2])), (uU.1, .inl (cI, 40, .inl (fun _ => 0))), (uU.2.1, .inl (cI, 40, .inl (fun _ => 0))), (uU.2.2.1, .inl (cI, 40, .inl (fun _ => 0))), (uU.2.2.2.1, .inl (cI, 40, .inl (fun _ => 0))), (uU.2.2.2.2.1, .inl (cI, 40, .inl (fun _ => 0))), (uU.2.2.2.2.2.1, .inl (cZ, 40, .inl (fun _ => 0))), (uU.2.2.2.2.2.2.1, .inl (cI, 240, .inl (fun _ => 0))), (uU.2.2.2.2.2.2.2.1, .inl (cI, 240, .inl (fun _ => 0))), (uU.2.2.2.2.2.2.2.2.1, .inl (cI, 240, .inl (fun _ => 0))), (uU.2.2.2.2.2.2.2.2.2.1, .inl (cI, 240, .inl (fun _ => 0))), (uU.2.2.2.2.2.2.2.2.2.2, .inl (cI, 240, .inl (fun _ => 0)))] tT) (va_A [(h0, .inr (3, [.int 0, .int 0, .null, .null, .null, .null, .null, .null, .null, .null, .null, .null, .null]))] sz)) 11 1440 (va_A [(h0, .inr (3, [.int 0, .int 0, .null, .null, .null, .null, .null, .null, .null, .null, .null, .null, .null]))] sz) := by
  refine Met.ofW (cc := prog_4_method_1_code) (maxL := 1) (ret := none) (by decide) rfl ?_
  intro p e s m args below meth c s₁ B hml hv
  obtain ⟨rfl, hsz, hP, hK, hD0, hN⟩ := hv
  have hx := B.exec
  have hb := B.bytes
  have hr := B.returns
  have hts0 := atoms_spec (ws := mw ⟨"PromiseChains$Promises", "<init>", "()V"⟩ prog_4_method_1_code 1 none) B.pre
  have hts : ∀ w ∈ tblG, w.before _ s = true := fun w h => hts0 w (List.mem_cons_of_mem _ h)
  have hown : s.vm.findClass "PromiseChains$Promises" = some m.cls := findClass_of_methodNamed B.named
  have hlocks := B.notSynchronized
  have hin : meth.name = "<init>" := (name_of_methodNamed B.named B.method).1
  subst hsz
  have hD := hD0.self (sz := s.heap.size)
  generalize hAe : va_A [(h0, .inr (3, [.int 0, .int 0, .null, .null, .null, .null, .null, .null, .null, .null, .null, .null, .null]))] s.heap.size = A at hD ⊢
  have hA : ∀ q : Nat, s.heap.size ≤ q → A q := fun q h => by rw [← hAe]; exact Or.inr h
  have hS : va_S A s.heap s.heap [] := va_S.rf
  have hP : va_P D vwCl [(h0, .inr (3, [.int 0, .int 0, .null, .null, .null, .null, .null, .null, .null, .null, .null, .null, .null]))] s.heap := hP
  have hl := lv_entry ([.ref h0]) (n := 1) (Nat.le_of_ble_eq_true rfl)
  rw [lg_entry_eq]
  generalize (lg_sl ([.ref h0]) ++ List.replicate (1 - (lg_sl ([.ref h0])).length) Slot.unset).toArray = ls at hl ⊢
  have hl : lv_has ls 1 [(0, .ref h0)] := hl
  refine lv_aload_n hx hb d_PR_init_0 rfl (lv_at hl 0 rfl) ?_
  refine W.objInit hx hb hown (hts _ q_109) (hts _ q_16) (hts _ q_17) rfl (by rw [hml]; exact hl.1) rfl d_PR_init_1 (Nat.le_of_ble_eq_true rfl) (Nat.le_of_ble_eq_true rfl) ?_
  refine W.eq (g2 := F0 m 4 ls []) rfl ?_
  refine lv_aload_n hx hb d_PR_init_4 rfl (lv_at hl 0 rfl) ?_
  refine lv_iconst (v := 0) hx hb d_PR_init_5 (by decide) ?_
  refine va_put (D := D) (ci := 3) (v := .int 0) (ty := .int) (C := R_PR) (T := F_PR) (N := 13) hx hb hts i_PR t_PR t_PR_ok n_PR hown hK hP hD hS 0 rfl rfl 0 (by decide) (hts _ q_110) (fun _ h9 => h9) rfl (by decide +kernel) rfl rfl (Nat.le_of_ble_eq_true rfl) d_PR_init_6 (fun H_1 locs hP hD hS => ?_)
  have hP : va_P D vwCl [(h0, .inr (3, [.int 0, .int 0, .null, .null, .null, .null, .null, .null, .null, .null, .null, .null, .null]))] H_1 := hP
  refine lv_aload_n hx hb d_PR_init_9 rfl (lv_at hl 0 rfl) ?_
  refine lv_iconst (v := 0) hx hb d_PR_init_10 (by decide) ?_
  refine va_put (D := D) (ci := 3) (v := .int 0) (ty := .int) (C := R_PR) (T := F_PR) (N := 13) hx hb hts i_PR t_PR t_PR_ok n_PR hown hK hP hD hS 0 rfl rfl 1 (by decide) (hts _ q_112) (fun _ h9 => h9) rfl (by decide +kernel) rfl rfl (Nat.le_of_ble_eq_true rfl) d_PR_init_11 (fun H_2 locs hP hD hS => ?_)
  have hP : va_P D vwCl [(h0, .inr (3, [.int 0, .int 0, .null, .null, .null, .null, .null, .null, .null, .null, .null, .null, .null]))] H_2 := hP
  refine lv_aload_n hx hb d_PR_init_14 rfl (lv_at hl 0 rfl) ?_
  refine lv_bipush (v := 40) hx hb d_PR_init_15 (by decide) ?_
  refine my_newI hx hb (hts _ q_48) hK hP hD hS hA 40 (by decide) (by decide) (by decide) (Nat.le_of_ble_eq_true rfl) (Nat.le_of_ble_eq_true rfl) d_PR_init_17 (fun ad_3 H_4 hP hD hS => ?_)
  have hP : va_P D vwCl [(h0, .inr (3, [.int 0, .int 0, .null, .null, .null, .null, .null, .null, .null, .null, .null, .null, .null])), (ad_3, .inl (cI, 40, .inl (fun _ => 0)))] H_4 := hP
  refine W.widen (k := 1) (n := 40) (Nat.le_of_ble_eq_true rfl) (Nat.le_of_ble_eq_true rfl) ?_
  refine va_putF (D := D) (ci := 3) (v := .ref ad_3) (ty := .array .int) (C := R_PR) (T := F_PR) (N := 13) hx hb hts i_PR t_PR t_PR_ok n_PR hown hK hP hD hS 0 rfl rfl 2 (by decide) (hts _ q_114) (fun _ h9 => h9) rfl hin rfl (by decide +kernel) rfl rfl (Nat.le_of_ble_eq_true rfl) d_PR_init_19 (fun H_5 locs hP hD hS => ?_)
  have hP : va_P D vwCl [(h0, .inr (3, [.int 0, .int 0, .ref ad_3, .null, .null, .null, .null, .null, .null, .null, .null, .null, .null])), (ad_3, .inl (cI, 40, .inl (fun _ => 0)))] H_5 := hP
  refine lv_aload_n hx hb d_PR_init_22 rfl (lv_at hl 0 rfl) ?_
  refine lv_bipush (v := 40) hx hb d_PR_init_23 (by decide) ?_
  refine my_newI hx hb (hts _ q_48) hK hP hD hS hA 40 (by decide) (by decide) (by decide) (Nat.le_of_ble_eq_true rfl) (Nat.le_of_ble_eq_true rfl) d_PR_init_25 (fun ad_6 H_7 hP hD hS => ?_)
  have hP : va_P D vwCl [(h0, .inr (3, [.int 0, .int 0, .ref ad_3, .null, .null, .null, .null, .null, .null, .null, .null, .null, .null])), (ad_3, .inl (cI, 40, .inl (fun _ => 0))), (ad_6, .inl (cI, 40, .inl (fun _ => 0)))] H_7 := hP
  refine W.widen (k := 2) (n := 80) (Nat.le_of_ble_eq_true rfl) (Nat.le_of_ble_eq_true rfl) ?_
  refine va_putF (D := D) (ci := 3) (v := .ref ad_6) (ty := .array .int) (C := R_PR) (T := F_PR) (N := 13) hx hb hts i_PR t_PR t_PR_ok n_PR hown hK hP hD hS 0 rfl rfl 3 (by decide) (hts _ q_116) (fun _ h9 => h9) rfl hin rfl (by decide +kernel) rfl rfl (Nat.le_of_ble_eq_true rfl) d_PR_init_27 (fun H_8 locs hP hD hS => ?_)
  have hP : va_P D vwCl [(h0, .inr (3, [.int 0, .int 0, .ref ad_3, .ref ad_6, .null, .null, .null, .null, .null, .null, .null, .null, .null])), (ad_3, .inl (cI, 40, .inl (fun _ => 0))), (ad_6, .inl (cI, 40, .inl (fun _ => 0)))] H_8 := hP
  refine lv_aload_n hx hb d_PR_init_30 rfl (lv_at hl 0 rfl) ?_
  refine lv_bipush (v := 40) hx hb d_PR_init_31 (by decide) ?_
  refine my_newI hx hb (hts _ q_48) hK hP hD hS hA 40 (by decide) (by decide) (by decide) (Nat.le_of_ble_eq_true rfl) (Nat.le_of_ble_eq_true rfl) d_PR_init_33 (fun ad_9 H_10 hP hD hS => ?_)
  have hP : va_P D vwCl [(h0, .inr (3, [.int 0, .int 0, .ref ad_3, .ref ad_6, .null, .null, .null, .null, .null, .null, .null, .null, .null])), (ad_3, .inl (cI, 40, .inl (fun _ => 0))), (ad_6, .inl (cI, 40, .inl (fun _ => 0))), (ad_9, .inl (cI, 40, .inl (fun _ => 0)))] H_10 := hP
  refine W.widen (k := 3) (n := 120) (Nat.le_of_ble_eq_true rfl) (Nat.le_of_ble_eq_true rfl) ?_
  refine va_putF (D := D) (ci := 3) (v := .ref ad_9) (ty := .array .int) (C := R_PR) (T := F_PR) (N := 13) hx hb hts i_PR t_PR t_PR_ok n_PR hown hK hP hD hS 0 rfl rfl 4 (by decide) (hts _ q_118) (fun _ h9 => h9) rfl hin rfl (by decide +kernel) rfl rfl (Nat.le_of_ble_eq_true rfl) d_PR_init_35 (fun H_11 locs hP hD hS => ?_)
  have hP : va_P D vwCl [(h0, .inr (3, [.int 0, .int 0, .ref ad_3, .ref ad_6, .ref ad_9, .null, .null, .null, .null, .null, .null, .null, .null])), (ad_3, .inl (cI, 40, .inl (fun _ => 0))), (ad_6, .inl (cI, 40, .inl (fun _ => 0))), (ad_9, .inl (cI, 40, .inl (fun _ => 0)))] H_11 := hP
  refine lv_aload_n hx hb d_PR_init_38 rfl (lv_at hl 0 rfl) ?_
  refine lv_bipush (v := 40) hx hb d_PR_init_39 (by decide) ?_
  refine my_newI hx hb (hts _ q_48) hK hP hD hS hA 40 (by decide) (by decide) (by decide) (Nat.le_of_ble_eq_true rfl) (Nat.le_of_ble_eq_true rfl) d_PR_init_41 (fun ad_12 H_13 hP hD hS => ?_)
  have hP : va_P D vwCl [(h0, .inr (3, [.int 0, .int 0, .ref ad_3, .ref ad_6, .ref ad_9, .null, .null, .null, .null, .null, .null, .null, .null])), (ad_3, .inl (cI, 40, .inl (fun _ => 0))), (ad_6, .inl (cI, 40, .inl (fun _ => 0))), (ad_9, .inl (cI, 40, .inl (fun _ => 0))), (ad_12, .inl (cI, 40, .inl (fun _ => 0)))] H_13 := hP
  refine W.widen (k := 4) (n := 160) (Nat.le_of_ble_eq_true rfl) (Nat.le_of_ble_eq_true rfl) ?_
  refine va_putF (D := D) (ci := 3) (v := .ref ad_12) (ty := .array .int) (C := R_PR) (T := F_PR) (N := 13) hx hb hts i_PR t_PR t_PR_ok n_PR hown hK hP hD hS 0 rfl rfl 5 (by decide) (hts _ q_120) (fun _ h9 => h9) rfl hin rfl (by decide +kernel) rfl rfl (Nat.le_of_ble_eq_true rfl) d_PR_init_43 (fun H_14 locs hP hD hS => ?_)
  have hP : va_P D vwCl [(h0, .inr (3, [.int 0, .int 0, .ref ad_3, .ref ad_6, .ref ad_9, .ref ad_12, .null, .null, .null, .null, .null, .null, .null])), (ad_3, .inl (cI, 40, .inl (fun _ => 0))), (ad_6, .inl (cI, 40, .inl (fun _ => 0))), (ad_9, .inl (cI, 40, .inl (fun _ => 0))), (ad_12, .inl (cI, 40, .inl (fun _ => 0)))] H_14 := hP
  refine lv_aload_n hx hb d_PR_init_46 rfl (lv_at hl 0 rfl) ?_
  refine lv_bipush (v := 40) hx hb d_PR_init_47 (by decide) ?_
  refine my_newI hx hb (hts _ q_48) hK hP hD hS hA 40 (by decide) (by decide) (by decide) (Nat.le_of_ble_eq_true rfl) (Nat.le_of_ble_eq_true rfl) d_PR_init_49 (fun ad_15 H_16 hP hD hS => ?_)
  have hP : va_P D vwCl [(h0, .inr (3, [.int 0, .int 0, .ref ad_3, .ref ad_6, .ref ad_9, .ref ad_12, .null, .null, .null, .null, .null, .null, .null])), (ad_3, .inl (cI, 40, .inl (fun _ => 0))), (ad_6, .inl (cI, 40, .inl (fun _ => 0))), (ad_9, .inl (cI, 40, .inl (fun _ => 0))), (ad_12, .inl (cI, 40, .inl (fun _ => 0))), (ad_15, .inl (cI, 40, .inl (fun _ => 0)))] H_16 := hP
  refine W.widen (k := 5) (n := 200) (Nat.le_of_ble_eq_true rfl) (Nat.le_of_ble_eq_true rfl) ?_
  refine va_putF (D := D) (ci := 3) (v := .ref ad_15) (ty := .array .int) (C := R_PR) (T := F_PR) (N := 13) hx hb hts i_PR t_PR t_PR_ok n_PR hown hK hP hD hS 0 rfl rfl 6 (by decide) (hts _ q_122) (fun _ h9 => h9) rfl hin rfl (by decide +kernel) rfl rfl (Nat.le_of_ble_eq_true rfl) d_PR_init_51 (fun H_17 locs hP hD hS => ?_)
  have hP : va_P D vwCl [(h0, .inr (3, [.int 0, .int 0, .ref ad_3, .ref ad_6, .ref ad_9, .ref ad_12, .ref ad_15, .null, .null, .null, .null, .null, .null])), (ad_3, .inl (cI, 40, .inl (fun _ => 0))), (ad_6, .inl (cI, 40, .inl (fun _ => 0))), (ad_9, .inl (cI, 40, .inl (fun _ => 0))), (ad_12, .inl (cI, 40, .inl (fun _ => 0))), (ad_15, .inl (cI, 40, .inl (fun _ => 0)))] H_17 := hP
  refine lv_aload_n hx hb d_PR_init_54 rfl (lv_at hl 0 rfl) ?_
  refine lv_bipush (v := 40) hx hb d_PR_init_55 (by decide) ?_
  refine my_newZ hx hb (hts _ q_49) hK hP hD hS hA 40 (by decide) (by decide) (by decide) (Nat.le_of_ble_eq_true rfl) (Nat.le_of_ble_eq_true rfl) d_PR_init_57 (fun ad_18 H_19 hP hD hS => ?_)
  have hP : va_P D vwCl [(h0, .inr (3, [.int 0, .int 0, .ref ad_3, .ref ad_6, .ref ad_9, .ref ad_12, .ref ad_15, .null, .null, .null, .null, .null, .null])), (ad_3, .inl (cI, 40, .inl (fun _ => 0))), (ad_6, .inl (cI, 40, .inl (fun _ => 0))), (ad_9, .inl (cI, 40, .inl (fun _ => 0))), (ad_12, .inl (cI, 40, .inl (fun _ => 0))), (ad_15, .inl (cI, 40, .inl (fun _ => 0))), (ad_18, .inl (cZ, 40, .inl (fun _ => 0)))] H_19 := hP
  refine W.widen (k := 6) (n := 240) (Nat.le_of_ble_eq_true rfl) (Nat.le_of_ble_eq_true rfl) ?_
  refine va_putF (D := D) (ci := 3) (v := .ref ad_18) (ty := .array .boolean) (C := R_PR) (T := F_PR) (N := 13) hx hb hts i_PR t_PR t_PR_ok n_PR hown hK hP hD hS 0 rfl rfl 7 (by decide) (hts _ q_124) (fun _ h9 => h9) rfl hin rfl (by decide +kernel) rfl rfl (Nat.le_of_ble_eq_true rfl) d_PR_init_59 (fun H_20 locs hP hD hS => ?_)
  have hP : va_P D vwCl [(h0, .inr (3, [.int 0, .int 0, .ref ad_3, .ref ad_6, .ref ad_9, .ref ad_12, .ref ad_15, .ref ad_18, .null, .null, .null, .null, .null])), (ad_3, .inl (cI, 40, .inl (fun _ => 0))), (ad_6, .inl (cI, 40, .inl (fun _ => 0))), (ad_9, .inl (cI, 40, .inl (fun _ => 0))), (ad_12, .inl (cI, 40, .inl (fun _ => 0))), (ad_15, .inl (cI, 40, .inl (fun _ => 0))), (ad_18, .inl (cZ, 40, .inl (fun _ => 0)))] H_20 := hP
  refine lv_aload_n hx hb d_PR_init_62 rfl (lv_at hl 0 rfl) ?_
  refine lv_sipush (v := 240) hx hb d_PR_init_63 (by decide) ?_
  refine my_newI hx hb (hts _ q_48) hK hP hD hS hA 240 (by decide) (by decide) (by decide) (Nat.le_of_ble_eq_true rfl) (Nat.le_of_ble_eq_true rfl) d_PR_init_66 (fun ad_21 H_22 hP hD hS => ?_)
  have hP : va_P D vwCl [(h0, .inr (3, [.int 0, .int 0, .ref ad_3, .ref ad_6, .ref ad_9, .ref ad_12, .ref ad_15, .ref ad_18, .null, .null, .null, .null, .null])), (ad_3, .inl (cI, 40, .inl (fun _ => 0))), (ad_6, .inl (cI, 40, .inl (fun _ => 0))), (ad_9, .inl (cI, 40, .inl (fun _ => 0))), (ad_12, .inl (cI, 40, .inl (fun _ => 0))), (ad_15, .inl (cI, 40, .inl (fun _ => 0))), (ad_18, .inl (cZ, 40, .inl (fun _ => 0))), (ad_21, .inl (cI, 240, .inl (fun _ => 0)))] H_22 := hP
  refine W.widen (k := 7) (n := 480) (Nat.le_of_ble_eq_true rfl) (Nat.le_of_ble_eq_true rfl) ?_
  refine va_putF (D := D) (ci := 3) (v := .ref ad_21) (ty := .array .int) (C := R_PR) (T := F_PR) (N := 13) hx hb hts i_PR t_PR t_PR_ok n_PR hown hK hP hD hS 0 rfl rfl 8 (by decide) (hts _ q_126) (fun _ h9 => h9) rfl hin rfl (by decide +kernel) rfl rfl (Nat.le_of_ble_eq_true rfl) d_PR_init_68 (fun H_23 locs hP hD hS => ?_)
  have hP : va_P D vwCl [(h0, .inr (3, [.int 0, .int 0, .ref ad_3, .ref ad_6, .ref ad_9, .ref ad_12, .ref ad_15, .ref ad_18, .ref ad_21, .null, .null, .null, .null])), (ad_3, .inl (cI, 40, .inl (fun _ => 0))), (ad_6, .inl (cI, 40, .inl (fun _ => 0))), (ad_9, .inl (cI, 40, .inl (fun _ => 0))), (ad_12, .inl (cI, 40, .inl (fun _ => 0))), (ad_15, .inl (cI, 40, .inl (fun _ => 0))), (ad_18, .inl (cZ, 40, .inl (fun _ => 0))), (ad_21, .inl (cI, 240, .inl (fun _ => 0)))] H_23 := hP
  refine lv_aload_n hx hb d_PR_init_71 rfl (lv_at hl 0 rfl) ?_
  refine lv_sipush (v := 240) hx hb d_PR_init_72 (by decide) ?_
  refine my_newI hx hb (hts _ q_48) hK hP hD hS hA 240 (by decide) (by decide) (by decide) (Nat.le_of_ble_eq_true rfl) (Nat.le_of_ble_eq_true rfl) d_PR_init_75 (fun ad_24 H_25 hP hD hS => ?_)
  have hP : va_P D vwCl [(h0, .inr (3, [.int 0, .int 0, .ref ad_3, .ref ad_6, .ref ad_9, .ref ad_12, .ref ad_15, .ref ad_18, .ref ad_21, .null, .null, .null, .null])), (ad_3, .inl (cI, 40, .inl (fun _ => 0))), (ad_6, .inl (cI, 40, .inl (fun _ => 0))), (ad_9, .inl (cI, 40, .inl (fun _ => 0))), (ad_12, .inl (cI, 40, .inl (fun _ => 0))), (ad_15, .inl (cI, 40, .inl (fun _ => 0))), (ad_18, .inl (cZ, 40, .inl (fun _ => 0))), (ad_21, .inl (cI, 240, .inl (fun _ => 0))), (ad_24, .inl (cI, 240, .inl (fun _ => 0)))] H_25 := hP
  refine W.widen (k := 8) (n := 720) (Nat.le_of_ble_eq_true rfl) (Nat.le_of_ble_eq_true rfl) ?_
  refine va_putF (D := D) (ci := 3) (v := .ref ad_24) (ty := .array .int) (C := R_PR) (T := F_PR) (N := 13) hx hb hts i_PR t_PR t_PR_ok n_PR hown hK hP hD hS 0 rfl rfl 9 (by decide) (hts _ q_127) (fun _ h9 => h9) rfl hin rfl (by decide +kernel) rfl rfl (Nat.le_of_ble_eq_true rfl) d_PR_init_77 (fun H_26 locs hP hD hS => ?_)
  have hP : va_P D vwCl [(h0, .inr (3, [.int 0, .int 0, .ref ad_3, .ref ad_6, .ref ad_9, .ref ad_12, .ref ad_15, .ref ad_18, .ref ad_21, .ref ad_24, .null, .null, .null])), (ad_3, .inl (cI, 40, .inl (fun _ => 0))), (ad_6, .inl (cI, 40, .inl (fun _ => 0))), (ad_9, .inl (cI, 40, .inl (fun _ => 0))), (ad_12, .inl (cI, 40, .inl (fun _ => 0))), (ad_15, .inl (cI, 40, .inl (fun _ => 0))), (ad_18, .inl (cZ, 40, .inl (fun _ => 0))), (ad_21, .inl (cI, 240, .inl (fun _ => 0))), (ad_24, .inl (cI, 240, .inl (fun _ => 0)))] H_26 := hP
  refine lv_aload_n hx hb d_PR_init_80 rfl (lv_at hl 0 rfl) ?_
  refine lv_sipush (v := 240) hx hb d_PR_init_81 (by decide) ?_
  refine my_newI hx hb (hts _ q_48) hK hP hD hS hA 240 (by decide) (by decide) (by decide) (Nat.le_of_ble_eq_true rfl) (Nat.le_of_ble_eq_true rfl) d_PR_init_84 (fun ad_27 H_28 hP hD hS => ?_)
  have hP : va_P D vwCl [(h0, .inr (3, [.int 0, .int 0, .ref ad_3, .ref ad_6, .ref ad_9, .ref ad_12, .ref ad_15, .ref ad_18, .ref ad_21, .ref ad_24, .null, .null, .null])), (ad_3, .inl (cI, 40, .inl (fun _ => 0))), (ad_6, .inl (cI, 40, .inl (fun _ => 0))), (ad_9, .inl (cI, 40, .inl (fun _ => 0))), (ad_12, .inl (cI, 40, .inl (fun _ => 0))), (ad_15, .inl (cI, 40, .inl (fun _ => 0))), (ad_18, .inl (cZ, 40, .inl (fun _ => 0))), (ad_21, .inl (cI, 240, .inl (fun _ => 0))), (ad_24, .inl (cI, 240, .inl (fun _ => 0))), (ad_27, .inl (cI, 240, .inl (fun _ => 0)))] H_28 := hP
  refine W.widen (k := 9) (n := 960) (Nat.le_of_ble_eq_true rfl) (Nat.le_of_ble_eq_true rfl) ?_
  refine va_putF (D := D) (ci := 3) (v := .ref ad_27) (ty := .array .int) (C := R_PR) (T := F_PR) (N := 13) hx hb hts i_PR t_PR t_PR_ok n_PR hown hK hP hD hS 0 rfl rfl 10 (by decide) (hts _ q_128) (fun _ h9 => h9) rfl hin rfl (by decide +kernel) rfl rfl (Nat.le_of_ble_eq_true rfl) d_PR_init_86 (fun H_29 locs hP hD hS => ?_)
  have hP : va_P D vwCl [(h0, .inr (3, [.int 0, .int 0, .ref ad_3, .ref ad_6, .ref ad_9, .ref ad_12, .ref ad_15, .ref ad_18, .ref ad_21, .ref ad_24, .ref ad_27, .null, .null])), (ad_3, .inl (cI, 40, .inl (fun _ => 0))), (ad_6, .inl (cI, 40, .inl (fun _ => 0))), (ad_9, .inl (cI, 40, .inl (fun _ => 0))), (ad_12, .inl (cI, 40, .inl (fun _ => 0))), (ad_15, .inl (cI, 40, .inl (fun _ => 0))), (ad_18, .inl (cZ, 40, .inl (fun _ => 0))), (ad_21, .inl (cI, 240, .inl (fun _ => 0))), (ad_24, .inl (cI, 240, .inl (fun _ => 0))), (ad_27, .inl (cI, 240, .inl (fun _ => 0)))] H_29 := hP
  refine lv_aload_n hx hb d_PR_init_89 rfl (lv_at hl 0 rfl) ?_
  refine lv_sipush (v := 240) hx hb d_PR_init_90 (by decide) ?_
  refine my_newI hx hb (hts _ q_48) hK hP hD hS hA 240 (by decide) (by decide) (by decide) (Nat.le_of_ble_eq_true rfl) (Nat.le_of_ble_eq_true rfl) d_PR_init_93 (fun ad_30 H_31 hP hD hS => ?_)
  have hP : va_P D vwCl [(h0, .inr (3, [.int 0, .int 0, .ref ad_3, .ref ad_6, .ref ad_9, .ref ad_12, .ref ad_15, .ref ad_18, .ref ad_21, .ref ad_24, .ref ad_27, .null, .null])), (ad_3, .inl (cI, 40, .inl (fun _ => 0))), (ad_6, .inl (cI, 40, .inl (fun _ => 0))), (ad_9, .inl (cI, 40, .inl (fun _ => 0))), (ad_12, .inl (cI, 40, .inl (fun _ => 0))), (ad_15, .inl (cI, 40, .inl (fun _ => 0))), (ad_18, .inl (cZ, 40, .inl (fun _ => 0))), (ad_21, .inl (cI, 240, .inl (fun _ => 0))), (ad_24, .inl (cI, 240, .inl (fun _ => 0))), (ad_27, .inl (cI, 240, .inl (fun _ => 0))), (ad_30, .inl (cI, 240, .inl (fun _ => 0)))] H_31 := hP
  refine W.widen (k := 10) (n := 1200) (Nat.le_of_ble_eq_true rfl) (Nat.le_of_ble_eq_true rfl) ?_
  refine va_putF (D := D) (ci := 3) (v := .ref ad_30) (ty := .array .int) (C := R_PR) (T := F_PR) (N := 13) hx hb hts i_PR t_PR t_PR_ok n_PR hown hK hP hD hS 0 rfl rfl 11 (by decide) (hts _ q_130) (fun _ h9 => h9) rfl hin rfl (by decide +kernel) rfl rfl (Nat.le_of_ble_eq_true rfl) d_PR_init_95 (fun H_32 locs hP hD hS => ?_)
  have hP : va_P D vwCl [(h0, .inr (3, [.int 0, .int 0, .ref ad_3, .ref ad_6, .ref ad_9, .ref ad_12, .ref ad_15, .ref ad_18, .ref ad_21, .ref ad_24, .ref ad_27, .ref ad_30, .null])), (ad_3, .inl (cI, 40, .inl (fun _ => 0))), (ad_6, .inl (cI, 40, .inl (fun _ => 0))), (ad_9, .inl (cI, 40, .inl (fun _ => 0))), (ad_12, .inl (cI, 40, .inl (fun _ => 0))), (ad_15, .inl (cI, 40, .inl (fun _ => 0))), (ad_18, .inl (cZ, 40, .inl (fun _ => 0))), (ad_21, .inl (cI, 240, .inl (fun _ => 0))), (ad_24, .inl (cI, 240, .inl (fun _ => 0))), (ad_27, .inl (cI, 240, .inl (fun _ => 0))), (ad_30, .inl (cI, 240, .inl (fun _ => 0)))] H_32 := hP
  refine lv_aload_n hx hb d_PR_init_98 rfl (lv_at hl 0 rfl) ?_
  refine lv_sipush (v := 240) hx hb d_PR_init_99 (by decide) ?_
  refine my_newI hx hb (hts _ q_48) hK hP hD hS hA 240 (by decide) (by decide) (by decide) (Nat.le_of_ble_eq_true rfl) (Nat.le_of_ble_eq_true rfl) d_PR_init_102 (fun ad_33 H_34 hP hD hS => ?_)
  have hP : va_P D vwCl [(h0, .inr (3, [.int 0, .int 0, .ref ad_3, .ref ad_6, .ref ad_9, .ref ad_12, .ref ad_15, .ref ad_18, .ref ad_21, .ref ad_24, .ref ad_27, .ref ad_30, .null])), (ad_3, .inl (cI, 40, .inl (fun _ => 0))), (ad_6, .inl (cI, 40, .inl (fun _ => 0))), (ad_9, .inl (cI, 40, .inl (fun _ => 0))), (ad_12, .inl (cI, 40, .inl (fun _ => 0))), (ad_15, .inl (cI, 40, .inl (fun _ => 0))), (ad_18, .inl (cZ, 40, .inl (fun _ => 0))), (ad_21, .inl (cI, 240, .inl (fun _ => 0))), (ad_24, .inl (cI, 240, .inl (fun _ => 0))), (ad_27, .inl (cI, 240, .inl (fun _ => 0))), (ad_30, .inl (cI, 240, .inl (fun _ => 0))), (ad_33, .inl (cI, 240, .inl (fun _ => 0)))] H_34 := hP
  refine W.widen (k := 11) (n := 1440) (Nat.le_of_ble_eq_true rfl) (Nat.le_of_ble_eq_true rfl) ?_
  refine va_putF (D := D) (ci := 3) (v := .ref ad_33) (ty := .array .int) (C := R_PR) (T := F_PR) (N := 13) hx hb hts i_PR t_PR t_PR_ok n_PR hown hK hP hD hS 0 rfl rfl 12 (by decide) (hts _ q_131) (fun _ h9 => h9) rfl hin rfl (by decide +kernel) rfl rfl (Nat.le_of_ble_eq_true rfl) d_PR_init_104 (fun H_35 locs hP hD hS => ?_)
  have hP : va_P D vwCl [(h0, .inr (3, [.int 0, .int 0, .ref ad_3, .ref ad_6, .ref ad_9, .ref ad_12, .ref ad_15, .ref ad_18, .ref ad_21, .ref ad_24, .ref ad_27, .ref ad_30, .ref ad_33])), (ad_3, .inl (cI, 40, .inl (fun _ => 0))), (ad_6, .inl (cI, 40, .inl (fun _ => 0))), (ad_9, .inl (cI, 40, .inl (fun _ => 0))), (ad_12, .inl (cI, 40, .inl (fun _ => 0))), (ad_15, .inl (cI, 40, .inl (fun _ => 0))), (ad_18, .inl (cZ, 40, .inl (fun _ => 0))), (ad_21, .inl (cI, 240, .inl (fun _ => 0))), (ad_24, .inl (cI, 240, .inl (fun _ => 0))), (ad_27, .inl (cI, 240, .inl (fun _ => 0))), (ad_30, .inl (cI, 240, .inl (fun _ => 0))), (ad_33, .inl (cI, 240, .inl (fun _ => 0)))] H_35 := hP
  have hP9 := hP.sub (ws' := [(h0, .inr (3, [.int 0, .int 0, .ref ad_3, .ref ad_6, .ref ad_9, .ref ad_12, .ref ad_15, .ref ad_18, .ref ad_21, .ref ad_24, .ref ad_27, .ref ad_30, .ref ad_33])), (ad_3, .inl (cI, 40, .inl (fun _ => 0))), (ad_6, .inl (cI, 40, .inl (fun _ => 0))), (ad_9, .inl (cI, 40, .inl (fun _ => 0))), (ad_12, .inl (cI, 40, .inl (fun _ => 0))), (ad_15, .inl (cI, 40, .inl (fun _ => 0))), (ad_18, .inl (cZ, 40, .inl (fun _ => 0))), (ad_21, .inl (cI, 240, .inl (fun _ => 0))), (ad_24, .inl (cI, 240, .inl (fun _ => 0))), (ad_27, .inl (cI, 240, .inl (fun _ => 0))), (ad_30, .inl (cI, 240, .inl (fun _ => 0))), (ad_33, .inl (cI, 240, .inl (fun _ => 0)))]) [0, 1, 2, 3, 4, 5, 6, 7, 8, 9, 10, 11] rfl
  have hD9 := hD.sub (ws' := [(h0, .inr (3, [.int 0, .int 0, .ref ad_3, .ref ad_6, .ref ad_9, .ref ad_12, .ref ad_15, .ref ad_18, .ref ad_21, .ref ad_24, .ref ad_27, .ref ad_30, .ref ad_33])), (ad_3, .inl (cI, 40, .inl (fun _ => 0))), (ad_6, .inl (cI, 40, .inl (fun _ => 0))), (ad_9, .inl (cI, 40, .inl (fun _ => 0))), (ad_12, .inl (cI, 40, .inl (fun _ => 0))), (ad_15, .inl (cI, 40, .inl (fun _ => 0))), (ad_18, .inl (cZ, 40, .inl (fun _ => 0))), (ad_21, .inl (cI, 240, .inl (fun _ => 0))), (ad_24, .inl (cI, 240, .inl (fun _ => 0))), (ad_27, .inl (cI, 240, .inl (fun _ => 0))), (ad_30, .inl (cI, 240, .inl (fun _ => 0))), (ad_33, .inl (cI, 240, .inl (fun _ => 0)))]) [0, 1, 2, 3, 4, 5, 6, 7, 8, 9, 10, 11] (by decide +kernel) rfl
  refine W.widen (k := 11) (n := 1440) (Nat.le_of_ble_eq_true rfl) (Nat.le_of_ble_eq_true rfl) ?_
  exact W.vret hx hb hr (fun t ht hW => ⟨⟨(ad_3, ad_6, ad_9, ad_12, ad_15, ad_18, ad_21, ad_24, ad_27, ad_30, ad_33), rfl, trivial, by rw [ht]; exact hP9, hD9⟩, hS.F ht⟩) hS.2.2 d_PR_init_107

set_option maxHeartbeats 4000000 in
set_option maxRecDepth 100000 in
theorem c_WS_init (l : Launch) (D : va_G) (cI cZ : ClassId) (h0 : Nat) (sz : Nat)  : Met l ⟨"PromiseChains$WaySearch", "<init>", "()V"⟩ (mw ⟨"PromiseChains$WaySearch", "<init>", "()V"⟩ prog_7_method_1_code 1 none) ({ frames := 2, cells := 10, slots := 58, locals := 32 }) (va_Pc [.ref h0] (PB D cI cZ sz [(h0, .inr (4, [.int 0, .int 0, .null, .null, .null, .null]))])) (va_Qv (S := Nat × Nat × Nat × Nat × Nat × Nat × Nat × Nat × Nat × Nat) (fun uU => True) (fun uU tT => BB D (va_A [(h0, .inr (4, [.int 0, .int 0, .null, .null, .null, .null]))] sz) [(h0, .inr (4, [.int 0, .int 0, .ref uU.1, .ref uU.2.1, .ref uU.2.2.2.2.1, .ref uU.2.2.2.2.2.2.2.1])), (uU.1, .inl (cZ, 7, .inl (fun _ => 0))), (uU.2.1, .inr (6, [.int 0, .ref uU.2.2.1, .ref uU.2.2.2.1])), (uU.2.2.1, .inl (cI, 7, .inl (fun _ => 0))), (uU.2.2.2.1, .inl (cI, 7, .inl (fun _ => 0))), (uU.2.2.2.2.1, .inr (6, [.int 0, .ref uU.2.2.2.2.2.1, .ref uU.2.2.2.2.2.2.1])), (uU.2.2.2.2.2.1, .inl (cI, 7, .inl (fun _ => 0))), (uU.2.2.2.2.2.2.1, .inl (cI, 7, .inl (fun _ => 0))), (uU.2.2.2.2.2.2.2.1, .inr (6, [.int 0, .ref uU.2.2.2.2.2.2.2.2.1, .ref uU.2.2.2.2.2.2.2.2.2])), (uU.2.2.2.2.2.2.2.2.1, .inl (cI, 7, .inl (fun _ => 0))), (uU.2.2.2.2.2.2.2.2.2, .inl (cI, 7, .inl (fun _ => 0)))] tT) (va_A [(h0, .inr (4, [.int 0, .int 0, .null, .null, .null, .null]))] sz)) 10 58 (va_A [(h0, .inr (4, [.int 0, .int 0, .null, .null, .null, .null]))] sz) := by
  refine Met.ofW (cc := prog_7_method_1_code) (maxL := 1) (ret := none) (by decide) rfl ?_
  intro p e s m args below meth c s₁ B hml hv
  obtain ⟨rfl, hsz, hP, hK, hD0, hN⟩ := hv
  have hx := B.exec
  have hb := B.bytes
  have hr := B.returns
  have hts0 := atoms_spec (ws := mw ⟨"PromiseChains$WaySearch", "<init>", "()V"⟩ prog_7_method_1_code 1 none) B.pre
  have hts : ∀ w ∈ tblG, w.before _ s = true := fun w h => hts0 w (List.mem_cons_of_mem _ h)
  have hown : s.vm.findClass "PromiseChains$WaySearch" = some m.cls := findClass_of_methodNamed B.named
  have hlocks := B.notSynchronized
  have hin : meth.name = "<init>" := (name_of_methodNamed B.named B.method).1
  subst hsz
  have hD := hD0.self (sz := s.heap.size)
  generalize hAe : va_A [(h0, .inr (4, [.int 0, .int 0, .null, .null, .null, .null]))] s.heap.size = A at hD ⊢
  have hA : ∀ q : Nat, s.heap.size ≤ q → A q := fun q h => by rw [← hAe]; exact Or.inr h
  have hS : va_S A s.heap s.heap [] := va_S.rf
  have hP : va_P D vwCl [(h0, .inr (4, [.int 0, .int 0, .null, .null, .null, .null]))] s.heap := hP
  have hl := lv_entry ([.ref h0]) (n := 1) (Nat.le_of_ble_eq_true rfl)
  rw [lg_entry_eq]
  generalize (lg_sl ([.ref h0]) ++ List.replicate (1 - (lg_sl ([.ref h0])).length) Slot.unset).toArray = ls at hl ⊢
  have hl : lv_has ls 1 [(0, .ref h0)] := hl
  refine lv_aload_n hx hb d_WS_init_0 rfl (lv_at hl 0 rfl) ?_
  refine W.objInit hx hb hown (hts _ q_164) (hts _ q_16) (hts _ q_17) rfl (by rw [hml]; exact hl.1) rfl d_WS_init_1 (Nat.le_of_ble_eq_true rfl) (Nat.le_of_ble_eq_true rfl) ?_
  refine W.eq (g2 := F0 m 4 ls []) rfl ?_
  refine lv_aload_n hx hb d_WS_init_4 rfl (lv_at hl 0 rfl) ?_
  refine lv_iconst (v := 0) hx hb d_WS_init_5 (by decide) ?_
  refine va_put (D := D) (ci := 4) (v := .int 0) (ty := .int) (C := R_WS) (T := F_WS) (N := 6) hx hb hts i_WS t_WS t_WS_ok n_WS hown hK hP hD hS 0 rfl rfl 0 (by decide) (hts _ q_190) (fun _ h9 => h9) rfl (by decide +kernel) rfl rfl (Nat.le_of_ble_eq_true rfl) d_WS_init_6 (fun H_1 locs hP hD hS => ?_)
  have hP : va_P D vwCl [(h0, .inr (4, [.int 0, .int 0, .null, .null, .null, .null]))] H_1 := hP
  refine lv_aload_n hx hb d_WS_init_9 rfl (lv_at hl 0 rfl) ?_
  refine lv_iconst (v := 0) hx hb d_WS_init_10 (by decide) ?_
  refine va_put (D := D) (ci := 4) (v := .int 0) (ty := .int) (C := R_WS) (T := F_WS) (N := 6) hx hb hts i_WS t_WS t_WS_ok n_WS hown hK hP hD hS 0 rfl rfl 1 (by decide) (hts _ q_192) (fun _ h9 => h9) rfl (by decide +kernel) rfl rfl (Nat.le_of_ble_eq_true rfl) d_WS_init_11 (fun H_2 locs hP hD hS => ?_)
  have hP : va_P D vwCl [(h0, .inr (4, [.int 0, .int 0, .null, .null, .null, .null]))] H_2 := hP
  refine lv_aload_n hx hb d_WS_init_14 rfl (lv_at hl 0 rfl) ?_
  refine lv_bipush (v := 7) hx hb d_WS_init_15 (by decide) ?_
  refine my_newZ hx hb (hts _ q_49) hK hP hD hS hA 7 (by decide) (by decide) (by decide) (Nat.le_of_ble_eq_true rfl) (Nat.le_of_ble_eq_true rfl) d_WS_init_17 (fun ad_3 H_4 hP hD hS => ?_)
  have hP : va_P D vwCl [(h0, .inr (4, [.int 0, .int 0, .null, .null, .null, .null])), (ad_3, .inl (cZ, 7, .inl (fun _ => 0)))] H_4 := hP
  refine W.widen (k := 1) (n := 7) (Nat.le_of_ble_eq_true rfl) (Nat.le_of_ble_eq_true rfl) ?_
  refine va_putF (D := D) (ci := 4) (v := .ref ad_3) (ty := .array .boolean) (C := R_WS) (T := F_WS) (N := 6) hx hb hts i_WS t_WS t_WS_ok n_WS hown hK hP hD hS 0 rfl rfl 2 (by decide) (hts _ q_194) (fun _ h9 => h9) rfl hin rfl (by decide +kernel) rfl rfl (Nat.le_of_ble_eq_true rfl) d_WS_init_19 (fun H_5 locs hP hD hS => ?_)
  have hP : va_P D vwCl [(h0, .inr (4, [.int 0, .int 0, .ref ad_3, .null, .null, .null])), (ad_3, .inl (cZ, 7, .inl (fun _ => 0)))] H_5 := hP
  refine lv_aload_n hx hb d_WS_init_22 rfl (lv_at hl 0 rfl) ?_
  refine va_new (ci := 6) (fs := [.int 0, .null, .null]) (C := R_RO) (T := F_RO) (N := 3) hx hb hts i_RO t_RO t_RO_ok hown (hts _ q_165) (hts _ q_166) (hts _ q_6) hK hP hD hS hA rfl (fun j hj => by rcases (show j = 0 ∨ j = 1 ∨ j = 2 by omega) with rfl | rfl | rfl <;> rfl) (Nat.le_of_ble_eq_true rfl) (Nat.le_of_ble_eq_true rfl) d_WS_init_23 (fun ad_6 H_7 hP hD hS => ?_)
  have hP : va_P D vwCl [(h0, .inr (4, [.int 0, .int 0, .ref ad_3, .null, .null, .null])), (ad_3, .inl (cZ, 7, .inl (fun _ => 0))), (ad_6, .inr (6, [.int 0, .null, .null]))] H_7 := hP
  refine W.widen (k := 2) (n := 10) (Nat.le_of_ble_eq_true rfl) (Nat.le_of_ble_eq_true rfl) ?_
  refine lv_dup hx hb d_WS_init_26 rfl ?_
  have hPc := hP.sub (ws' := [(ad_6, .inr (6, [.int 0, .null, .null]))]) [2] rfl
  have hDc := hD.sub (ws' := [(ad_6, .inr (6, [.int 0, .null, .null]))]) [2] (by decide +kernel) rfl
  have hFc := va_free (wc := [(ad_6, .inr (6, [.int 0, .null, .null]))]) hD hS hA [2] rfl
  refine va_callv (va_runIN (As := []) (rest := [.ref ad_6, .ref h0]) ⟨hx, hb, hml, hown, hts⟩ (c_RO_init l D cI cZ ad_6 H_7.size ) ⟨(my_cwN 0 hts q_169 (hN _ nw_167) q_6 rfl rfl (by decide +kernel) ⟨Nat.le_of_ble_eq_true rfl, Nat.le_of_ble_eq_true rfl⟩), rfl, hts _ q_168⟩ (my_preS hPc hDc hK hN) rfl rfl hl.1 rfl (lv_room (Nat.le_of_ble_eq_true rfl)) d_WS_init_27 ⟨Nat.le_of_ble_eq_true rfl, Nat.le_of_ble_eq_true rfl⟩) hS (fun q _ h => hFc q h) hFc (fun uU tT H_9 locs ht hvm hw_8 hB hz1 hk1 hS => ?_)
  obtain ⟨k1_10, k2_11⟩ := uU
  obtain ⟨hP1, hD1⟩ := hB
  rw [ht] at hP1
  obtain ⟨hP, hD⟩ := va_join (wr := [(h0, .inr (4, [.int 0, .int 0, .ref ad_3, .null, .null, .null])), (ad_3, .inl (cZ, 7, .inl (fun _ => 0)))]) (w1 := [(ad_6, .inr (6, [.int 0, .ref k1_10, .ref k2_11])), (k1_10, .inl (cI, 7, .inl (fun _ => 0))), (k2_11, .inl (cI, 7, .inl (fun _ => 0)))]) hP hD [2] [0, 1] rfl rfl (by decide +kernel) (by decide +kernel) hk1 hFc hP1 hD1
  have hP : va_P D vwCl [(h0, .inr (4, [.int 0, .int 0, .ref ad_3, .null, .null, .null])), (ad_3, .inl (cZ, 7, .inl (fun _ => 0))), (ad_6, .inr (6, [.int 0, .ref k1_10, .ref k2_11])), (k1_10, .inl (cI, 7, .inl (fun _ => 0))), (k2_11, .inl (cI, 7, .inl (fun _ => 0)))] H_9 := hP
  refine W.widen (k := 4) (n := 24) (Nat.le_of_ble_eq_true rfl) (Nat.le_of_ble_eq_true rfl) ?_
  refine va_putF (D := D) (ci := 4) (v := .ref ad_6) (ty := .object "PromiseChains$Row") (C := R_WS) (T := F_WS) (N := 6) hx hb hts i_WS t_WS t_WS_ok n_WS hown hK hP hD hS 0 rfl rfl 3 (by decide) (hts _ q_196) (fun _ h9 => h9) rfl hin rfl (by decide +kernel) rfl rfl (Nat.le_of_ble_eq_true rfl) d_WS_init_30 (fun H_12 locs hP hD hS => ?_)
  have hP : va_P D vwCl [(h0, .inr (4, [.int 0, .int 0, .ref ad_3, .ref ad_6, .null, .null])), (ad_3, .inl (cZ, 7, .inl (fun _ => 0))), (ad_6, .inr (6, [.int 0, .ref k1_10, .ref k2_11])), (k1_10, .inl (cI, 7, .inl (fun _ => 0))), (k2_11, .inl (cI, 7, .inl (fun _ => 0)))] H_12 := hP
  refine lv_aload_n hx hb d_WS_init_33 rfl (lv_at hl 0 rfl) ?_
  refine va_new (ci := 6) (fs := [.int 0, .null, .null]) (C := R_RO) (T := F_RO) (N := 3) hx hb hts i_RO t_RO t_RO_ok hown (hts _ q_165) (hts _ q_166) (hts _ q_6) hK hP hD hS hA rfl (fun j hj => by rcases (show j = 0 ∨ j = 1 ∨ j = 2 by omega) with rfl | rfl | rfl <;> rfl) (Nat.le_of_ble_eq_true rfl) (Nat.le_of_ble_eq_true rfl) d_WS_init_34 (fun ad_13 H_14 hP hD hS => ?_)
  have hP : va_P D vwCl [(h0, .inr (4, [.int 0, .int 0, .ref ad_3, .ref ad_6, .null, .null])), (ad_3, .inl (cZ, 7, .inl (fun _ => 0))), (ad_6, .inr (6, [.int 0, .ref k1_10, .ref k2_11])), (k1_10, .inl (cI, 7, .inl (fun _ => 0))), (k2_11, .inl (cI, 7, .inl (fun _ => 0))), (ad_13, .inr (6, [.int 0, .null, .null]))] H_14 := hP
  refine W.widen (k := 5) (n := 27) (Nat.le_of_ble_eq_true rfl) (Nat.le_of_ble_eq_true rfl) ?_
  refine lv_dup hx hb d_WS_init_37 rfl ?_
  have hPc := hP.sub (ws' := [(ad_13, .inr (6, [.int 0, .null, .null]))]) [5] rfl
  have hDc := hD.sub (ws' := [(ad_13, .inr (6, [.int 0, .null, .null]))]) [5] (by decide +kernel) rfl
  have hFc := va_free (wc := [(ad_13, .inr (6, [.int 0, .null, .null]))]) hD hS hA [5] rfl
  refine va_callv (va_runIN (As := []) (rest := [.ref ad_13, .ref h0]) ⟨hx, hb, hml, hown, hts⟩ (c_RO_init l D cI cZ ad_13 H_14.size ) ⟨(my_cwN 0 hts q_169 (hN _ nw_167) q_6 rfl rfl (by decide +kernel) ⟨Nat.le_of_ble_eq_true rfl, Nat.le_of_ble_eq_true rfl⟩), rfl, hts _ q_168⟩ (my_preS hPc hDc hK hN) rfl rfl hl.1 rfl (lv_room (Nat.le_of_ble_eq_true rfl)) d_WS_init_38 ⟨Nat.le_of_ble_eq_true rfl, Nat.le_of_ble_eq_true rfl⟩) hS (fun q _ h => hFc q h) hFc (fun uU tT H_16 locs ht hvm hw_15 hB hz1 hk1 hS => ?_)
  obtain ⟨k1_17, k2_18⟩ := uU
  obtain ⟨hP1, hD1⟩ := hB
  rw [ht] at hP1
  obtain ⟨hP, hD⟩ := va_join (wr := [(h0, .inr (4, [.int 0, .int 0, .ref ad_3, .ref ad_6, .null, .null])), (ad_3, .inl (cZ, 7, .inl (fun _ => 0))), (ad_6, .inr (6, [.int 0, .ref k1_10, .ref k2_11])), (k1_10, .inl (cI, 7, .inl (fun _ => 0))), (k2_11, .inl (cI, 7, .inl (fun _ => 0)))]) (w1 := [(ad_13, .inr (6, [.int 0, .ref k1_17, .ref k2_18])), (k1_17, .inl (cI, 7, .inl (fun _ => 0))), (k2_18, .inl (cI, 7, .inl (fun _ => 0)))]) hP hD [5] [0, 1, 2, 3, 4] rfl rfl (by decide +kernel) (by decide +kernel) hk1 hFc hP1 hD1
  have hP : va_P D vwCl [(h0, .inr (4, [.int 0, .int 0, .ref ad_3, .ref ad_6, .null, .null])), (ad_3, .inl (cZ, 7, .inl (fun _ => 0))), (ad_6, .inr (6, [.int 0, .ref k1_10, .ref k2_11])), (k1_10, .inl (cI, 7, .inl (fun _ => 0))), (k2_11, .inl (cI, 7, .inl (fun _ => 0))), (ad_13, .inr (6, [.int 0, .ref k1_17, .ref k2_18])), (k1_17, .inl (cI, 7, .inl (fun _ => 0))), (k2_18, .inl (cI, 7, .inl (fun _ => 0)))] H_16 := hP
  refine W.widen (k := 7) (n := 41) (Nat.le_of_ble_eq_true rfl) (Nat.le_of_ble_eq_true rfl) ?_
  refine va_putF (D := D) (ci := 4) (v := .ref ad_13) (ty := .object "PromiseChains$Row") (C := R_WS) (T := F_WS) (N := 6) hx hb hts i_WS t_WS t_WS_ok n_WS hown hK hP hD hS 0 rfl rfl 4 (by decide) (hts _ q_198) (fun _ h9 => h9) rfl hin rfl (by decide +kernel) rfl rfl (Nat.le_of_ble_eq_true rfl) d_WS_init_41 (fun H_19 locs hP hD hS => ?_)
  have hP : va_P D vwCl [(h0, .inr (4, [.int 0, .int 0, .ref ad_3, .ref ad_6, .ref ad_13, .null])), (ad_3, .inl (cZ, 7, .inl (fun _ => 0))), (ad_6, .inr (6, [.int 0, .ref k1_10, .ref k2_11])), (k1_10, .inl (cI, 7, .inl (fun _ => 0))), (k2_11, .inl (cI, 7, .inl (fun _ => 0))), (ad_13, .inr (6, [.int 0, .ref k1_17, .ref k2_18])), (k1_17, .inl (cI, 7, .inl (fun _ => 0))), (k2_18, .inl (cI, 7, .inl (fun _ => 0)))] H_19 := hP
  refine lv_aload_n hx hb d_WS_init_44 rfl (lv_at hl 0 rfl) ?_
  refine va_new (ci := 6) (fs := [.int 0, .null, .null]) (C := R_RO) (T := F_RO) (N := 3) hx hb hts i_RO t_RO t_RO_ok hown (hts _ q_165) (hts _ q_166) (hts _ q_6) hK hP hD hS hA rfl (fun j hj => by rcases (show j = 0 ∨ j = 1 ∨ j = 2 by omega) with rfl | rfl | rfl <;> rfl) (Nat.le_of_ble_eq_true rfl) (Nat.le_of_ble_eq_true rfl) d_WS_init_45 (fun ad_20 H_21 hP hD hS => ?_)
  have hP : va_P D vwCl [(h0, .inr (4, [.int 0, .int 0, .ref ad_3, .ref ad_6, .ref ad_13, .null])), (ad_3, .inl (cZ, 7, .inl (fun _ => 0))), (ad_6, .inr (6, [.int 0, .ref k1_10, .ref k2_11])), (k1_10, .inl (cI, 7, .inl (fun _ => 0))), (k2_11, .inl (cI, 7, .inl (fun _ => 0))), (ad_13, .inr (6, [.int 0, .ref k1_17, .ref k2_18])), (k1_17, .inl (cI, 7, .inl (fun _ => 0))), (k2_18, .inl (cI, 7, .inl (fun _ => 0))), (ad_20, .inr (6, [.int 0, .null, .null]))] H_21 := hP
  refine W.widen (k := 8) (n := 44) (Nat.le_of_ble_eq_true rfl) (Nat.le_of_ble_eq_true rfl) ?_
  refine lv_dup hx hb d_WS_init_48 rfl ?_
  have hPc := hP.sub (ws' := [(ad_20, .inr (6, [.int 0, .null, .null]))]) [8] rfl
  have hDc := hD.sub (ws' := [(ad_20, .inr (6, [.int 0, .null, .null]))]) [8] (by decide +kernel) rfl
  have hFc := va_free (wc := [(ad_20, .inr (6, [.int 0, .null, .null]))]) hD hS hA [8] rfl
  refine va_callv (va_runIN (As := []) (rest := [.ref ad_20, .ref h0]) ⟨hx, hb, hml, hown, hts⟩ (c_RO_init l D cI cZ ad_20 H_21.size ) ⟨(my_cwN 0 hts q_169 (hN _ nw_167) q_6 rfl rfl (by decide +kernel) ⟨Nat.le_of_ble_eq_true rfl, Nat.le_of_ble_eq_true rfl⟩), rfl, hts _ q_168⟩ (my_preS hPc hDc hK hN) rfl rfl hl.1 rfl (lv_room (Nat.le_of_ble_eq_true rfl)) d_WS_init_49 ⟨Nat.le_of_ble_eq_true rfl, Nat.le_of_ble_eq_true rfl⟩) hS (fun q _ h => hFc q h) hFc (fun uU tT H_23 locs ht hvm hw_22 hB hz1 hk1 hS => ?_)
  obtain ⟨k1_24, k2_25⟩ := uU
  obtain ⟨hP1, hD1⟩ := hB
  rw [ht] at hP1
  obtain ⟨hP, hD⟩ := va_join (wr := [(h0, .inr (4, [.int 0, .int 0, .ref ad_3, .ref ad_6, .ref ad_13, .null])), (ad_3, .inl (cZ, 7, .inl (fun _ => 0))), (ad_6, .inr (6, [.int 0, .ref k1_10, .ref k2_11])), (k1_10, .inl (cI, 7, .inl (fun _ => 0))), (k2_11, .inl (cI, 7, .inl (fun _ => 0))), (ad_13, .inr (6, [.int 0, .ref k1_17, .ref k2_18])), (k1_17, .inl (cI, 7, .inl (fun _ => 0))), (k2_18, .inl (cI, 7, .inl (fun _ => 0)))]) (w1 := [(ad_20, .inr (6, [.int 0, .ref k1_24, .ref k2_25])), (k1_24, .inl (cI, 7, .inl (fun _ => 0))), (k2_25, .inl (cI, 7, .inl (fun _ => 0)))]) hP hD [8] [0, 1, 2, 3, 4, 5, 6, 7] rfl rfl (by decide +kernel) (by decide +kernel) hk1 hFc hP1 hD1
  have hP : va_P D vwCl [(h0, .inr (4, [.int 0, .int 0, .ref ad_3, .ref ad_6, .ref ad_13, .null])), (ad_3, .inl (cZ, 7, .inl (fun _ => 0))), (ad_6, .inr (6, [.int 0, .ref k1_10, .ref k2_11])), (k1_10, .inl (cI, 7, .inl (fun _ => 0))), (k2_11, .inl (cI, 7, .inl (fun _ => 0))), (ad_13, .inr (6, [.int 0, .ref k1_17, .ref k2_18])), (k1_17, .inl (cI, 7, .inl (fun _ => 0))), (k2_18, .inl (cI, 7, .inl (fun _ => 0))), (ad_20, .inr (6, [.int 0, .ref k1_24, .ref k2_25])), (k1_24, .inl (cI, 7, .inl (fun _ => 0))), (k2_25, .inl (cI, 7, .inl (fun _ => 0)))] H_23 := hP
  refine W.widen (k := 10) (n := 58) (Nat.le_of_ble_eq_true rfl) (Nat.le_of_ble_eq_true rfl) ?_
  refine va_putF (D := D) (ci := 4) (v := .ref ad_20) (ty := .object "PromiseChains$Row") (C := R_WS) (T := F_WS) (N := 6) hx hb hts i_WS t_WS t_WS_ok n_WS hown hK hP hD hS 0 rfl rfl 5 (by decide) (hts _ q_199) (fun _ h9 => h9) rfl hin rfl (by decide +kernel) rfl rfl (Nat.le_of_ble_eq_true rfl) d_WS_init_52 (fun H_26 locs hP hD hS => ?_)
  have hP : va_P D vwCl [(h0, .inr (4, [.int 0, .int 0, .ref ad_3, .ref ad_6, .ref ad_13, .ref ad_20])), (ad_3, .inl (cZ, 7, .inl (fun _ => 0))), (ad_6, .inr (6, [.int 0, .ref k1_10, .ref k2_11])), (k1_10, .inl (cI, 7, .inl (fun _ => 0))), (k2_11, .inl (cI, 7, .inl (fun _ => 0))), (ad_13, .inr (6, [.int 0, .ref k1_17, .ref k2_18])), (k1_17, .inl (cI, 7, .inl (fun _ => 0))), (k2_18, .inl (cI, 7, .inl (fun _ => 0))), (ad_20, .inr (6, [.int 0, .ref k1_24, .ref k2_25])), (k1_24, .inl (cI, 7, .inl (fun _ => 0))), (k2_25, .inl (cI, 7, .inl (fun _ => 0)))] H_26 := hP
  have hP9 := hP.sub (ws' := [(h0, .inr (4, [.int 0, .int 0, .ref ad_3, .ref ad_6, .ref ad_13, .ref ad_20])), (ad_3, .inl (cZ, 7, .inl (fun _ => 0))), (ad_6, .inr (6, [.int 0, .ref k1_10, .ref k2_11])), (k1_10, .inl (cI, 7, .inl (fun _ => 0))), (k2_11, .inl (cI, 7, .inl (fun _ => 0))), (ad_13, .inr (6, [.int 0, .ref k1_17, .ref k2_18])), (k1_17, .inl (cI, 7, .inl (fun _ => 0))), (k2_18, .inl (cI, 7, .inl (fun _ => 0))), (ad_20, .inr (6, [.int 0, .ref k1_24, .ref k2_25])), (k1_24, .inl (cI, 7, .inl (fun _ => 0))), (k2_25, .inl (cI, 7, .inl (fun _ => 0)))]) [0, 1, 2, 3, 4, 5, 6, 7, 8, 9, 10] rfl
  have hD9 := hD.sub (ws' := [(h0, .inr (4, [.int 0, .int 0, .ref ad_3, .ref ad_6, .ref ad_13, .ref ad_20])), (ad_3, .inl (cZ, 7, .inl (fun _ => 0))), (ad_6, .inr (6, [.int 0, .ref k1_10, .ref k2_11])), (k1_10, .inl (cI, 7, .inl (fun _ => 0))), (k2_11, .inl (cI, 7, .inl (fun _ => 0))), (ad_13, .inr (6, [.int 0, .ref k1_17, .ref k2_18])), (k1_17, .inl (cI, 7, .inl (fun _ => 0))), (k2_18, .inl (cI, 7, .inl (fun _ => 0))), (ad_20, .inr (6, [.int 0, .ref k1_24, .ref k2_25])), (k1_24, .inl (cI, 7, .inl (fun _ => 0))), (k2_25, .inl (cI, 7, .inl (fun _ => 0)))]) [0, 1, 2, 3, 4, 5, 6, 7, 8, 9, 10] (by decide +kernel) rfl
  refine W.widen (k := 10) (n := 58) (Nat.le_of_ble_eq_true rfl) (Nat.le_of_ble_eq_true rfl) ?_
  exact W.vret hx hb hr (fun t ht hW => ⟨⟨(ad_3, ad_6, k1_10, k2_11, ad_13, k1_17, k2_18, ad_20, k1_24, k2_25), rfl, trivial, by rw [ht]; exact hP9, hD9⟩, hS.F ht⟩) hS.2.2 d_WS_init_55

set_option maxHeartbeats 4000000 in
set_option maxRecDepth 100000 in
theorem c_RS_init (l : Launch) (D : va_G) (cI cZ : ClassId) (h0 : Nat) (sz : Nat)  : Met l ⟨"PromiseChains$RingSearch", "<init>", "()V"⟩ (mw ⟨"PromiseChains$RingSearch", "<init>", "()V"⟩ prog_5_method_1_code 1 none) ({ frames := 2, cells := 7, slots := 41, locals := 32 }) (va_Pc [.ref h0] (PB D cI cZ sz [(h0, .inr (5, [.int 0, .int 0, .int 0, .int 0, .null, .null, .null]))])) (va_Qv (S := Nat × Nat × Nat × Nat × Nat × Nat × Nat) (fun uU => True) (fun uU tT => BB D (va_A [(h0, .inr (5, [.int 0, .int 0, .int 0, .int 0, .null, .null, .null]))] sz) [(h0, .inr (5, [.int 0, .int 0, .int 0, .int 0, .ref uU.1, .ref uU.2.1, .ref uU.2.2.2.2.1])), (uU.1, .inl (cZ, 7, .inl (fun _ => 0))), (uU.2.1, .inr (6, [.int 0, .ref uU.2.2.1, .ref uU.2.2.2.1])), (uU.2.2.1, .inl (cI, 7, .inl (fun _ => 0))), (uU.2.2.2.1, .inl (cI, 7, .inl (fun _ => 0))), (uU.2.2.2.2.1, .inr (6, [.int 0, .ref uU.2.2.2.2.2.1, .ref uU.2.2.2.2.2.2])), (uU.2.2.2.2.2.1, .inl (cI, 7, .inl (fun _ => 0))), (uU.2.2.2.2.2.2, .inl (cI, 7, .inl (fun _ => 0)))] tT) (va_A [(h0, .inr (5, [.int 0, .int 0, .int 0, .int 0, .null, .null, .null]))] sz)) 7 41 (va_A [(h0, .inr (5, [.int 0, .int 0, .int 0, .int 0, .null, .null, .null]))] sz) := by
  refine Met.ofW (cc := prog_5_method_1_code) (maxL := 1) (ret := none) (by decide) rfl ?_
  intro p e s m args below meth c s₁ B hml hv
  obtain ⟨rfl, hsz, hP, hK, hD0, hN⟩ := hv
  have hx := B.exec
  have hb := B.bytes
  have hr := B.returns
  have hts0 := atoms_spec (ws := mw ⟨"PromiseChains$RingSearch", "<init>", "()V"⟩ prog_5_method_1_code 1 none) B.pre
  have hts : ∀ w ∈ tblG, w.before _ s = true := fun w h => hts0 w (List.mem_cons_of_mem _ h)
  have hown : s.vm.findClass "PromiseChains$RingSearch" = some m.cls := findClass_of_methodNamed B.named
  have hlocks := B.notSynchronized
  have hin : meth.name = "<init>" := (name_of_methodNamed B.named B.method).1
  subst hsz
  have hD := hD0.self (sz := s.heap.size)
  generalize hAe : va_A [(h0, .inr (5, [.int 0, .int 0, .int 0, .int 0, .null, .null, .null]))] s.heap.size = A at hD ⊢
  have hA : ∀ q : Nat, s.heap.size ≤ q → A q := fun q h => by rw [← hAe]; exact Or.inr h
  have hS : va_S A s.heap s.heap [] := va_S.rf
  have hP : va_P D vwCl [(h0, .inr (5, [.int 0, .int 0, .int 0, .int 0, .null, .null, .null]))] s.heap := hP
  have hl := lv_entry ([.ref h0]) (n := 1) (Nat.le_of_ble_eq_true rfl)
  rw [lg_entry_eq]
  generalize (lg_sl ([.ref h0]) ++ List.replicate (1 - (lg_sl ([.ref h0])).length) Slot.unset).toArray = ls at hl ⊢
  have hl : lv_has ls 1 [(0, .ref h0)] := hl
  refine lv_aload_n hx hb d_RS_init_0 rfl (lv_at hl 0 rfl) ?_
  refine W.objInit hx hb hown (hts _ q_219) (hts _ q_16) (hts _ q_17) rfl (by rw [hml]; exact hl.1) rfl d_RS_init_1 (Nat.le_of_ble_eq_true rfl) (Nat.le_of_ble_eq_true rfl) ?_
  refine W.eq (g2 := F0 m 4 ls []) rfl ?_
  refine lv_aload_n hx hb d_RS_init_4 rfl (lv_at hl 0 rfl) ?_
  refine lv_iconst (v := 0) hx hb d_RS_init_5 (by decide) ?_
  refine va_put (D := D) (ci := 5) (v := .int 0) (ty := .int) (C := R_RS) (T := F_RS) (N := 7) hx hb hts i_RS t_RS t_RS_ok n_RS hown hK hP hD hS 0 rfl rfl 0 (by decide) (hts _ q_222) (fun _ h9 => h9) rfl (by decide +kernel) rfl rfl (Nat.le_of_ble_eq_true rfl) d_RS_init_6 (fun H_1 locs hP hD hS => ?_)
  have hP : va_P D vwCl [(h0, .inr (5, [.int 0, .int 0, .int 0, .int 0, .null, .null, .null]))] H_1 := hP
  refine lv_aload_n hx hb d_RS_init_9 rfl (lv_at hl 0 rfl) ?_
  refine lv_iconst (v := 0) hx hb d_RS_init_10 (by decide) ?_
  refine va_put (D := D) (ci := 5) (v := .int 0) (ty := .int) (C := R_RS) (T := F_RS) (N := 7) hx hb hts i_RS t_RS t_RS_ok n_RS hown hK hP hD hS 0 rfl rfl 1 (by decide) (hts _ q_224) (fun _ h9 => h9) rfl (by decide +kernel) rfl rfl (Nat.le_of_ble_eq_true rfl) d_RS_init_11 (fun H_2 locs hP hD hS => ?_)
  have hP : va_P D vwCl [(h0, .inr (5, [.int 0, .int 0, .int 0, .int 0, .null, .null, .null]))] H_2 := hP
  refine lv_aload_n hx hb d_RS_init_14 rfl (lv_at hl 0 rfl) ?_
  refine lv_iconst (v := 0) hx hb d_RS_init_15 (by decide) ?_
  refine va_put (D := D) (ci := 5) (v := .int 0) (ty := .int) (C := R_RS) (T := F_RS) (N := 7) hx hb hts i_RS t_RS t_RS_ok n_RS hown hK hP hD hS 0 rfl rfl 2 (by decide) (hts _ q_225) (fun _ h9 => h9) rfl (by decide +kernel) rfl rfl (Nat.le_of_ble_eq_true rfl) d_RS_init_16 (fun H_3 locs hP hD hS => ?_)
  have hP : va_P D vwCl [(h0, .inr (5, [.int 0, .int 0, .int 0, .int 0, .null, .null, .null]))] H_3 := hP
  refine lv_aload_n hx hb d_RS_init_19 rfl (lv_at hl 0 rfl) ?_
  refine lv_iconst (v := 0) hx hb d_RS_init_20 (by decide) ?_
  refine va_put (D := D) (ci := 5) (v := .int 0) (ty := .int) (C := R_RS) (T := F_RS) (N := 7) hx hb hts i_RS t_RS t_RS_ok n_RS hown hK hP hD hS 0 rfl rfl 3 (by decide) (hts _ q_227) (fun _ h9 => h9) rfl (by decide +kernel) rfl rfl (Nat.le_of_ble_eq_true rfl) d_RS_init_21 (fun H_4 locs hP hD hS => ?_)
  have hP : va_P D vwCl [(h0, .inr (5, [.int 0, .int 0, .int 0, .int 0, .null, .null, .null]))] H_4 := hP
  refine lv_aload_n hx hb d_RS_init_24 rfl (lv_at hl 0 rfl) ?_
  refine lv_bipush (v := 7) hx hb d_RS_init_25 (by decide) ?_
  refine my_newZ hx hb (hts _ q_49) hK hP hD hS hA 7 (by decide) (by decide) (by decide) (Nat.le_of_ble_eq_true rfl) (Nat.le_of_ble_eq_true rfl) d_RS_init_27 (fun ad_5 H_6 hP hD hS => ?_)
  have hP : va_P D vwCl [(h0, .inr (5, [.int 0, .int 0, .int 0, .int 0, .null, .null, .null])), (ad_5, .inl (cZ, 7, .inl (fun _ => 0)))] H_6 := hP
  refine W.widen (k := 1) (n := 7) (Nat.le_of_ble_eq_true rfl) (Nat.le_of_ble_eq_true rfl) ?_
  refine va_putF (D := D) (ci := 5) (v := .ref ad_5) (ty := .array .boolean) (C := R_RS) (T := F_RS) (N := 7) hx hb hts i_RS t_RS t_RS_ok n_RS hown hK hP hD hS 0 rfl rfl 4 (by decide) (hts _ q_229) (fun _ h9 => h9) rfl hin rfl (by decide +kernel) rfl rfl (Nat.le_of_ble_eq_true rfl) d_RS_init_29 (fun H_7 locs hP hD hS => ?_)
  have hP : va_P D vwCl [(h0, .inr (5, [.int 0, .int 0, .int 0, .int 0, .ref ad_5, .null, .null])), (ad_5, .inl (cZ, 7, .inl (fun _ => 0)))] H_7 := hP
  refine lv_aload_n hx hb d_RS_init_32 rfl (lv_at hl 0 rfl) ?_
  refine va_new (ci := 6) (fs := [.int 0, .null, .null]) (C := R_RO) (T := F_RO) (N := 3) hx hb hts i_RO t_RO t_RO_ok hown (hts _ q_220) (hts _ q_166) (hts _ q_6) hK hP hD hS hA rfl (fun j hj => by rcases (show j = 0 ∨ j = 1 ∨ j = 2 by omega) with rfl | rfl | rfl <;> rfl) (Nat.le_of_ble_eq_true rfl) (Nat.le_of_ble_eq_true rfl) d_RS_init_33 (fun ad_8 H_9 hP hD hS => ?_)
  have hP : va_P D vwCl [(h0, .inr (5, [.int 0, .int 0, .int 0, .int 0, .ref ad_5, .null, .null])), (ad_5, .inl (cZ, 7, .inl (fun _ => 0))), (ad_8, .inr (6, [.int 0, .null, .null]))] H_9 := hP
  refine W.widen (k := 2) (n := 10) (Nat.le_of_ble_eq_true rfl) (Nat.le_of_ble_eq_true rfl) ?_
  refine lv_dup hx hb d_RS_init_36 rfl ?_
  have hPc := hP.sub (ws' := [(ad_8, .inr (6, [.int 0, .null, .null]))]) [2] rfl
  have hDc := hD.sub (ws' := [(ad_8, .inr (6, [.int 0, .null, .null]))]) [2] (by decide +kernel) rfl
  have hFc := va_free (wc := [(ad_8, .inr (6, [.int 0, .null, .null]))]) hD hS hA [2] rfl
  refine va_callv (va_runIN (As := []) (rest := [.ref ad_8, .ref h0]) ⟨hx, hb, hml, hown, hts⟩ (c_RO_init l D cI cZ ad_8 H_9.size ) ⟨(my_cwN 0 hts q_169 (hN _ nw_221) q_6 rfl rfl (by decide +kernel) ⟨Nat.le_of_ble_eq_true rfl, Nat.le_of_ble_eq_true rfl⟩), rfl, hts _ q_168⟩ (my_preS hPc hDc hK hN) rfl rfl hl.1 rfl (lv_room (Nat.le_of_ble_eq_true rfl)) d_RS_init_37 ⟨Nat.le_of_ble_eq_true rfl, Nat.le_of_ble_eq_true rfl⟩) hS (fun q _ h => hFc q h) hFc (fun uU tT H_11 locs ht hvm hw_10 hB hz1 hk1 hS => ?_)
  obtain ⟨k1_12, k2_13⟩ := uU
  obtain ⟨hP1, hD1⟩ := hB
  rw [ht] at hP1
  obtain ⟨hP, hD⟩ := va_join (wr := [(h0, .inr (5, [.int 0, .int 0, .int 0, .int 0, .ref ad_5, .null, .null])), (ad_5, .inl (cZ, 7, .inl (fun _ => 0)))]) (w1 := [(ad_8, .inr (6, [.int 0, .ref k1_12, .ref k2_13])), (k1_12, .inl (cI, 7, .inl (fun _ => 0))), (k2_13, .inl (cI, 7, .inl (fun _ => 0)))]) hP hD [2] [0, 1] rfl rfl (by decide +kernel) (by decide +kernel) hk1 hFc hP1 hD1
  have hP : va_P D vwCl [(h0, .inr (5, [.int 0, .int 0, .int 0, .int 0, .ref ad_5, .null, .null])), (ad_5, .inl (cZ, 7, .inl (fun _ => 0))), (ad_8, .inr (6, [.int 0, .ref k1_12, .ref k2_13])), (k1_12, .inl (cI, 7, .inl (fun _ => 0))), (k2_13, .inl (cI, 7, .inl (fun _ => 0)))] H_11 := hP
  refine W.widen (k := 4) (n := 24) (Nat.le_of_ble_eq_true rfl) (Nat.le_of_ble_eq_true rfl) ?_
  refine va_putF (D := D) (ci := 5) (v := .ref ad_8) (ty := .object "PromiseChains$Row") (C := R_RS) (T := F_RS) (N := 7) hx hb hts i_RS t_RS t_RS_ok n_RS hown hK hP hD hS 0 rfl rfl 5 (by decide) (hts _ q_231) (fun _ h9 => h9) rfl hin rfl (by decide +kernel) rfl rfl (Nat.le_of_ble_eq_true rfl) d_RS_init_40 (fun H_14 locs hP hD hS => ?_)
  have hP : va_P D vwCl [(h0, .inr (5, [.int 0, .int 0, .int 0, .int 0, .ref ad_5, .ref ad_8, .null])), (ad_5, .inl (cZ, 7, .inl (fun _ => 0))), (ad_8, .inr (6, [.int 0, .ref k1_12, .ref k2_13])), (k1_12, .inl (cI, 7, .inl (fun _ => 0))), (k2_13, .inl (cI, 7, .inl (fun _ => 0)))] H_14 := hP
  refine lv_aload_n hx hb d_RS_init_43 rfl (lv_at hl 0 rfl) ?_
  refine va_new (ci := 6) (fs := [.int 0, .null, .null]) (C := R_RO) (T := F_RO) (N := 3) hx hb hts i_RO t_RO t_RO_ok hown (hts _ q_220) (hts _ q_166) (hts _ q_6) hK hP hD hS hA rfl (fun j hj => by rcases (show j = 0 ∨ j = 1 ∨ j = 2 by omega) with rfl | rfl | rfl <;> rfl) (Nat.le_of_ble_eq_true rfl) (Nat.le_of_ble_eq_true rfl) d_RS_init_44 (fun ad_15 H_16 hP hD hS => ?_)
  have hP : va_P D vwCl [(h0, .inr (5, [.int 0, .int 0, .int 0, .int 0, .ref ad_5, .ref ad_8, .null])), (ad_5, .inl (cZ, 7, .inl (fun _ => 0))), (ad_8, .inr (6, [.int 0, .ref k1_12, .ref k2_13])), (k1_12, .inl (cI, 7, .inl (fun _ => 0))), (k2_13, .inl (cI, 7, .inl (fun _ => 0))), (ad_15, .inr (6, [.int 0, .null, .null]))] H_16 := hP
  refine W.widen (k := 5) (n := 27) (Nat.le_of_ble_eq_true rfl) (Nat.le_of_ble_eq_true rfl) ?_
  refine lv_dup hx hb d_RS_init_47 rfl ?_
  have hPc := hP.sub (ws' := [(ad_15, .inr (6, [.int 0, .null, .null]))]) [5] rfl
  have hDc := hD.sub (ws' := [(ad_15, .inr (6, [.int 0, .null, .null]))]) [5] (by decide +kernel) rfl
  have hFc := va_free (wc := [(ad_15, .inr (6, [.int 0, .null, .null]))]) hD hS hA [5] rfl
  refine va_callv (va_runIN (As := []) (rest := [.ref ad_15, .ref h0]) ⟨hx, hb, hml, hown, hts⟩ (c_RO_init l D cI cZ ad_15 H_16.size ) ⟨(my_cwN 0 hts q_169 (hN _ nw_221) q_6 rfl rfl (by decide +kernel) ⟨Nat.le_of_ble_eq_true rfl, Nat.le_of_ble_eq_true rfl⟩), rfl, hts _ q_168⟩ (my_preS hPc hDc hK hN) rfl rfl hl.1 rfl (lv_room (Nat.le_of_ble_eq_true rfl)) d_RS_init_48 ⟨Nat.le_of_ble_eq_true rfl, Nat.le_of_ble_eq_true rfl⟩) hS (fun q _ h => hFc q h) hFc (fun uU tT H_18 locs ht hvm hw_17 hB hz1 hk1 hS => ?_)
  obtain ⟨k1_19, k2_20⟩ := uU
  obtain ⟨hP1, hD1⟩ := hB
  rw [ht] at hP1
  obtain ⟨hP, hD⟩ := va_join (wr := [(h0, .inr (5, [.int 0, .int 0, .int 0, .int 0, .ref ad_5, .ref ad_8, .null])), (ad_5, .inl (cZ, 7, .inl (fun _ => 0))), (ad_8, .inr (6, [.int 0, .ref k1_12, .ref k2_13])), (k1_12, .inl (cI, 7, .inl (fun _ => 0))), (k2_13, .inl (cI, 7, .inl (fun _ => 0)))]) (w1 := [(ad_15, .inr (6, [.int 0, .ref k1_19, .ref k2_20])), (k1_19, .inl (cI, 7, .inl (fun _ => 0))), (k2_20, .inl (cI, 7, .inl (fun _ => 0)))]) hP hD [5] [0, 1, 2, 3, 4] rfl rfl (by decide +kernel) (by decide +kernel) hk1 hFc hP1 hD1
  have hP : va_P D vwCl [(h0, .inr (5, [.int 0, .int 0, .int 0, .int 0, .ref ad_5, .ref ad_8, .null])), (ad_5, .inl (cZ, 7, .inl (fun _ => 0))), (ad_8, .inr (6, [.int 0, .ref k1_12, .ref k2_13])), (k1_12, .inl (cI, 7, .inl (fun _ => 0))), (k2_13, .inl (cI, 7, .inl (fun _ => 0))), (ad_15, .inr (6, [.int 0, .ref k1_19, .ref k2_20])), (k1_19, .inl (cI, 7, .inl (fun _ => 0))), (k2_20, .inl (cI, 7, .inl (fun _ => 0)))] H_18 := hP
  refine W.widen (k := 7) (n := 41) (Nat.le_of_ble_eq_true rfl) (Nat.le_of_ble_eq_true rfl) ?_
  refine va_putF (D := D) (ci := 5) (v := .ref ad_15) (ty := .object "PromiseChains$Row") (C := R_RS) (T := F_RS) (N := 7) hx hb hts i_RS t_RS t_RS_ok n_RS hown hK hP hD hS 0 rfl rfl 6 (by decide) (hts _ q_233) (fun _ h9 => h9) rfl hin rfl (by decide +kernel) rfl rfl (Nat.le_of_ble_eq_true rfl) d_RS_init_51 (fun H_21 locs hP hD hS => ?_)
  have hP : va_P D vwCl [(h0, .inr (5, [.int 0, .int 0, .int 0, .int 0, .ref ad_5, .ref ad_8, .ref ad_15])), (ad_5, .inl (cZ, 7, .inl (fun _ => 0))), (ad_8, .inr (6, [.int 0, .ref k1_12, .ref k2_13])), (k1_12, .inl (cI, 7, .inl (fun _ => 0))), (k2_13, .inl (cI, 7, .inl (fun _ => 0))), (ad_15, .inr (6, [.int 0, .ref k1_19, .ref k2_20])), (k1_19, .inl (cI, 7, .inl (fun _ => 0))), (k2_20, .inl (cI, 7, .inl (fun _ => 0)))] H_21 := hP
  have hP9 := hP.sub (ws' := [(h0, .inr (5, [.int 0, .int 0, .int 0, .int 0, .ref ad_5, .ref ad_8, .ref ad_15])), (ad_5, .inl (cZ, 7, .inl (fun _ => 0))), (ad_8, .inr (6, [.int 0, .ref k1_12, .ref k2_13])), (k1_12, .inl (cI, 7, .inl (fun _ => 0))), (k2_13, .inl (cI, 7, .inl (fun _ => 0))), (ad_15, .inr (6, [.int 0, .ref k1_19, .ref k2_20])), (k1_19, .inl (cI, 7, .inl (fun _ => 0))), (k2_20, .inl (cI, 7, .inl (fun _ => 0)))]) [0, 1, 2, 3, 4, 5, 6, 7] rfl
  have hD9 := hD.sub (ws' := [(h0, .inr (5, [.int 0, .int 0, .int 0, .int 0, .ref ad_5, .ref ad_8, .ref ad_15])), (ad_5, .inl (cZ, 7, .inl (fun _ => 0))), (ad_8, .inr (6, [.int 0, .ref k1_12, .ref k2_13])), (k1_12, .inl (cI, 7, .inl (fun _ => 0))), (k2_13, .inl (cI, 7, .inl (fun _ => 0))), (ad_15, .inr (6, [.int 0, .ref k1_19, .ref k2_20])), (k1_19, .inl (cI, 7, .inl (fun _ => 0))), (k2_20, .inl (cI, 7, .inl (fun _ => 0)))]) [0, 1, 2, 3, 4, 5, 6, 7] (by decide +kernel) rfl
  refine W.widen (k := 7) (n := 41) (Nat.le_of_ble_eq_true rfl) (Nat.le_of_ble_eq_true rfl) ?_
  exact W.vret hx hb hr (fun t ht hW => ⟨⟨(ad_5, ad_8, k1_12, k2_13, ad_15, k1_19, k2_20), rfl, trivial, by rw [ht]; exact hP9, hD9⟩, hS.F ht⟩) hS.2.2 d_RS_init_54
