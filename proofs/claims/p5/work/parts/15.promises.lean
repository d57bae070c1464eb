theorem upd_nar {F : Nat → Int32} (h : ∀ zz, narrow .boolean (.int (F zz)) = .int (F zz)) (i : Nat) {x : Int32} (hx : narrow .boolean (.int x) = .int x) : ∀ zz, narrow .boolean (.int (upd F i x zz)) = .int (upd F i x zz) := by
  intro zz
  unfold upd
  split
  · exact hx
  · exact h zz
theorem d_PR_add_0 : decode prog_4_method_4_code 0 = .ok (.aload_n 0, 1) := by decide +kernel
theorem d_PR_add_1 : decode prog_4_method_4_code 1 = .ok (.getfield 9, 3) := by decide +kernel
theorem d_PR_add_4 : decode prog_4_method_4_code 4 = .ok (.istore 4, 2) := by decide +kernel
theorem d_PR_add_6 : decode prog_4_method_4_code 6 = .ok (.aload_n 0, 1) := by decide +kernel
theorem d_PR_add_7 : decode prog_4_method_4_code 7 = .ok (.dup, 1) := by decide +kernel
theorem d_PR_add_8 : decode prog_4_method_4_code 8 = .ok (.getfield 9, 3) := by decide +kernel
theorem d_PR_add_11 : decode prog_4_method_4_code 11 = .ok (.iconst 1, 1) := by decide +kernel
theorem d_PR_add_12 : decode prog_4_method_4_code 12 = .ok (.iadd, 1) := by decide +kernel
theorem d_PR_add_13 : decode prog_4_method_4_code 13 = .ok (.putfield 9, 3) := by decide +kernel
theorem d_PR_add_16 : decode prog_4_method_4_code 16 = .ok (.aload_n 0, 1) := by decide +kernel
theorem d_PR_add_17 : decode prog_4_method_4_code 17 = .ok (.getfield 18, 3) := by decide +kernel
theorem d_PR_add_20 : decode prog_4_method_4_code 20 = .ok (.iload 4, 2) := by decide +kernel
theorem d_PR_add_22 : decode prog_4_method_4_code 22 = .ok (.iload_n 1, 1) := by decide +kernel
theorem d_PR_add_23 : decode prog_4_method_4_code 23 = .ok (.iastore, 1) := by decide +kernel
theorem d_PR_add_24 : decode prog_4_method_4_code 24 = .ok (.aload_n 0, 1) := by decide +kernel
theorem d_PR_add_25 : decode prog_4_method_4_code 25 = .ok (.getfield 22, 3) := by decide +kernel
theorem d_PR_add_28 : decode prog_4_method_4_code 28 = .ok (.iload 4, 2) := by decide +kernel
theorem d_PR_add_30 : decode prog_4_method_4_code 30 = .ok (.iload_n 2, 1) := by decide +kernel
theorem d_PR_add_31 : decode prog_4_method_4_code 31 = .ok (.iastore, 1) := by decide +kernel
theorem d_PR_add_32 : decode prog_4_method_4_code 32 = .ok (.aload_n 0, 1) := by decide +kernel
theorem d_PR_add_33 : decode prog_4_method_4_code 33 = .ok (.getfield 25, 3) := by decide +kernel
theorem d_PR_add_36 : decode prog_4_method_4_code 36 = .ok (.iload 4, 2) := by decide +kernel
theorem d_PR_add_38 : decode prog_4_method_4_code 38 = .ok (.iload_n 3, 1) := by decide +kernel
theorem d_PR_add_39 : decode prog_4_method_4_code 39 = .ok (.iastore, 1) := by decide +kernel
theorem d_PR_add_40 : decode prog_4_method_4_code 40 = .ok (.aload_n 0, 1) := by decide +kernel
theorem d_PR_add_41 : decode prog_4_method_4_code 41 = .ok (.getfield 28, 3) := by decide +kernel
theorem d_PR_add_44 : decode prog_4_method_4_code 44 = .ok (.iload 4, 2) := by decide +kernel
theorem d_PR_add_46 : decode prog_4_method_4_code 46 = .ok (.iload_n 3, 1) := by decide +kernel
theorem d_PR_add_47 : decode prog_4_method_4_code 47 = .ok (.iastore, 1) := by decide +kernel
theorem d_PR_add_48 : decode prog_4_method_4_code 48 = .ok (.aload_n 0, 1) := by decide +kernel
theorem d_PR_add_49 : decode prog_4_method_4_code 49 = .ok (.getfield 31, 3) := by decide +kernel
theorem d_PR_add_52 : decode prog_4_method_4_code 52 = .ok (.iload 4, 2) := by decide +kernel
theorem d_PR_add_54 : decode prog_4_method_4_code 54 = .ok (.iconst 0, 1) := by decide +kernel
theorem d_PR_add_55 : decode prog_4_method_4_code 55 = .ok (.iastore, 1) := by decide +kernel
theorem d_PR_add_56 : decode prog_4_method_4_code 56 = .ok (.aload_n 0, 1) := by decide +kernel
theorem d_PR_add_57 : decode prog_4_method_4_code 57 = .ok (.getfield 34, 3) := by decide +kernel
theorem d_PR_add_60 : decode prog_4_method_4_code 60 = .ok (.iload 4, 2) := by decide +kernel
theorem d_PR_add_62 : decode prog_4_method_4_code 62 = .ok (.iconst 0, 1) := by decide +kernel
theorem d_PR_add_63 : decode prog_4_method_4_code 63 = .ok (.bastore, 1) := by decide +kernel
theorem d_PR_add_64 : decode prog_4_method_4_code 64 = .ok (.aload_n 0, 1) := by decide +kernel
theorem d_PR_add_65 : decode prog_4_method_4_code 65 = .ok (.dup, 1) := by decide +kernel
theorem d_PR_add_66 : decode prog_4_method_4_code 66 = .ok (.getfield 15, 3) := by decide +kernel
theorem d_PR_add_69 : decode prog_4_method_4_code 69 = .ok (.iload_n 3, 1) := by decide +kernel
theorem d_PR_add_70 : decode prog_4_method_4_code 70 = .ok (.iadd, 1) := by decide +kernel
theorem d_PR_add_71 : decode prog_4_method_4_code 71 = .ok (.putfield 15, 3) := by decide +kernel
theorem d_PR_add_74 : decode prog_4_method_4_code 74 = .ok (.iload 4, 2) := by decide +kernel
theorem d_PR_add_76 : decode prog_4_method_4_code 76 = .ok (.ireturn, 1) := by decide +kernel
theorem d_PR_putLock_0 : decode prog_4_method_5_code 0 = .ok (.iload_n 1, 1) := by decide +kernel
theorem d_PR_putLock_1 : decode prog_4_method_5_code 1 = .ok (.bipush 6, 2) := by decide +kernel
theorem d_PR_putLock_3 : decode prog_4_method_5_code 3 = .ok (.imul, 1) := by decide +kernel
theorem d_PR_putLock_4 : decode prog_4_method_5_code 4 = .ok (.iload_n 2, 1) := by decide +kernel
theorem d_PR_putLock_5 : decode prog_4_method_5_code 5 = .ok (.iadd, 1) := by decide +kernel
theorem d_PR_putLock_6 : decode prog_4_method_5_code 6 = .ok (.istore 7, 2) := by decide +kernel
theorem d_PR_putLock_8 : decode prog_4_method_5_code 8 = .ok (.aload_n 0, 1) := by decide +kernel
theorem d_PR_putLock_9 : decode prog_4_method_5_code 9 = .ok (.getfield 38, 3) := by decide +kernel
theorem d_PR_putLock_12 : decode prog_4_method_5_code 12 = .ok (.iload 7, 2) := by decide +kernel
theorem d_PR_putLock_14 : decode prog_4_method_5_code 14 = .ok (.iload_n 3, 1) := by decide +kernel
theorem d_PR_putLock_15 : decode prog_4_method_5_code 15 = .ok (.iastore, 1) := by decide +kernel
theorem d_PR_putLock_16 : decode prog_4_method_5_code 16 = .ok (.aload_n 0, 1) := by decide +kernel
theorem d_PR_putLock_17 : decode prog_4_method_5_code 17 = .ok (.getfield 41, 3) := by decide +kernel
theorem d_PR_putLock_20 : decode prog_4_method_5_code 20 = .ok (.iload 7, 2) := by decide +kernel
theorem d_PR_putLock_22 : decode prog_4_method_5_code 22 = .ok (.iload 4, 2) := by decide +kernel
theorem d_PR_putLock_24 : decode prog_4_method_5_code 24 = .ok (.iastore, 1) := by decide +kernel
theorem d_PR_putLock_25 : decode prog_4_method_5_code 25 = .ok (.aload_n 0, 1) := by decide +kernel
theorem d_PR_putLock_26 : decode prog_4_method_5_code 26 = .ok (.getfield 44, 3) := by decide +kernel
theorem d_PR_putLock_29 : decode prog_4_method_5_code 29 = .ok (.iload 7, 2) := by decide +kernel
theorem d_PR_putLock_31 : decode prog_4_method_5_code 31 = .ok (.iload 5, 2) := by decide +kernel
theorem d_PR_putLock_33 : decode prog_4_method_5_code 33 = .ok (.iastore, 1) := by decide +kernel
theorem d_PR_putLock_34 : decode prog_4_method_5_code 34 = .ok (.aload_n 0, 1) := by decide +kernel
theorem d_PR_putLock_35 : decode prog_4_method_5_code 35 = .ok (.getfield 47, 3) := by decide +kernel
theorem d_PR_putLock_38 : decode prog_4_method_5_code 38 = .ok (.iload 7, 2) := by decide +kernel
theorem d_PR_putLock_40 : decode prog_4_method_5_code 40 = .ok (.iload 6, 2) := by decide +kernel
theorem d_PR_putLock_42 : decode prog_4_method_5_code 42 = .ok (.iastore, 1) := by decide +kernel
theorem d_PR_putLock_43 : decode prog_4_method_5_code 43 = .ok (.aload_n 0, 1) := by decide +kernel
theorem d_PR_putLock_44 : decode prog_4_method_5_code 44 = .ok (.getfield 50, 3) := by decide +kernel
theorem d_PR_putLock_47 : decode prog_4_method_5_code 47 = .ok (.iload 7, 2) := by decide +kernel
theorem d_PR_putLock_49 : decode prog_4_method_5_code 49 = .ok (.iconst 0, 1) := by decide +kernel
theorem d_PR_putLock_50 : decode prog_4_method_5_code 50 = .ok (.iastore, 1) := by decide +kernel
theorem d_PR_putLock_51 : decode prog_4_method_5_code 51 = .ok (.return_, 1) := by decide +kernel
theorem d_PR_outcome_0 : decode prog_4_method_6_code 0 = .ok (.aload_n 0, 1) := by decide +kernel
theorem d_PR_outcome_1 : decode prog_4_method_6_code 1 = .ok (.getfield 28, 3) := by decide +kernel
theorem d_PR_outcome_4 : decode prog_4_method_6_code 4 = .ok (.iload_n 1, 1) := by decide +kernel
theorem d_PR_outcome_5 : decode prog_4_method_6_code 5 = .ok (.iaload, 1) := by decide +kernel
theorem d_PR_outcome_6 : decode prog_4_method_6_code 6 = .ok (.ifCond .le 5, 3) := by decide +kernel
theorem d_PR_outcome_11 : decode prog_4_method_6_code 11 = .ok (.aload_n 0, 1) := by decide +kernel
theorem d_PR_outcome_12 : decode prog_4_method_6_code 12 = .ok (.getfield 31, 3) := by decide +kernel
theorem d_PR_outcome_15 : decode prog_4_method_6_code 15 = .ok (.iload_n 1, 1) := by decide +kernel
theorem d_PR_outcome_16 : decode prog_4_method_6_code 16 = .ok (.iaload, 1) := by decide +kernel
theorem d_PR_outcome_17 : decode prog_4_method_6_code 17 = .ok (.aload_n 0, 1) := by decide +kernel
theorem d_PR_outcome_18 : decode prog_4_method_6_code 18 = .ok (.getfield 25, 3) := by decide +kernel
theorem d_PR_outcome_21 : decode prog_4_method_6_code 21 = .ok (.iload_n 1, 1) := by decide +kernel
theorem d_PR_outcome_22 : decode prog_4_method_6_code 22 = .ok (.iaload, 1) := by decide +kernel
theorem d_PR_outcome_23 : decode prog_4_method_6_code 23 = .ok (.if_icmp .ne 5, 3) := by decide +kernel
theorem d_PR_outcome_28 : decode prog_4_method_6_code 28 = .ok (.aload_n 0, 1) := by decide +kernel
theorem d_PR_outcome_29 : decode prog_4_method_6_code 29 = .ok (.getfield 31, 3) := by decide +kernel
theorem d_PR_outcome_32 : decode prog_4_method_6_code 32 = .ok (.iload_n 1, 1) := by decide +kernel
theorem d_PR_outcome_33 : decode prog_4_method_6_code 33 = .ok (.iaload, 1) := by decide +kernel
theorem d_PR_outcome_34 : decode prog_4_method_6_code 34 = .ok (.ifCond .ne 7, 3) := by decide +kernel
theorem d_PR_outcome_41 : decode prog_4_method_6_code 41 = .ok (.iconst 3, 1) := by decide +kernel
theorem d_PR_outcome_42 : decode prog_4_method_6_code 42 = .ok (.ireturn, 1) := by decide +kernel
theorem d_PR_outcome_37 : decode prog_4_method_6_code 37 = .ok (.iconst 2, 1) := by decide +kernel
theorem d_PR_outcome_38 : decode prog_4_method_6_code 38 = .ok (.goto 4, 3) := by decide +kernel
theorem d_PR_outcome_26 : decode prog_4_method_6_code 26 = .ok (.iconst 1, 1) := by decide +kernel
theorem d_PR_outcome_27 : decode prog_4_method_6_code 27 = .ok (.ireturn, 1) := by decide +kernel
theorem d_PR_outcome_9 : decode prog_4_method_6_code 9 = .ok (.iconst 0, 1) := by decide +kernel
theorem d_PR_outcome_10 : decode prog_4_method_6_code 10 = .ok (.ireturn, 1) := by decide +kernel
theorem d_PR_endLock_0 : decode prog_4_method_12_code 0 = .ok (.aload_n 0, 1) := by decide +kernel
theorem d_PR_endLock_1 : decode prog_4_method_12_code 1 = .ok (.getfield 50, 3) := by decide +kernel
theorem d_PR_endLock_4 : decode prog_4_method_12_code 4 = .ok (.iload_n 2, 1) := by decide +kernel
theorem d_PR_endLock_5 : decode prog_4_method_12_code 5 = .ok (.iload_n 3, 1) := by decide +kernel
theorem d_PR_endLock_6 : decode prog_4_method_12_code 6 = .ok (.iastore, 1) := by decide +kernel
theorem d_PR_endLock_7 : decode prog_4_method_12_code 7 = .ok (.aload_n 0, 1) := by decide +kernel
theorem d_PR_endLock_8 : decode prog_4_method_12_code 8 = .ok (.getfield 28, 3) := by decide +kernel
theorem d_PR_endLock_11 : decode prog_4_method_12_code 11 = .ok (.iload_n 1, 1) := by decide +kernel
theorem d_PR_endLock_12 : decode prog_4_method_12_code 12 = .ok (.dup2, 1) := by decide +kernel
theorem d_PR_endLock_13 : decode prog_4_method_12_code 13 = .ok (.iaload, 1) := by decide +kernel
theorem d_PR_endLock_14 : decode prog_4_method_12_code 14 = .ok (.iconst 1, 1) := by decide +kernel
theorem d_PR_endLock_15 : decode prog_4_method_12_code 15 = .ok (.isub, 1) := by decide +kernel
theorem d_PR_endLock_16 : decode prog_4_method_12_code 16 = .ok (.iastore, 1) := by decide +kernel
theorem d_PR_endLock_17 : decode prog_4_method_12_code 17 = .ok (.aload_n 0, 1) := by decide +kernel
theorem d_PR_endLock_18 : decode prog_4_method_12_code 18 = .ok (.dup, 1) := by decide +kernel
theorem d_PR_endLock_19 : decode prog_4_method_12_code 19 = .ok (.getfield 15, 3) := by decide +kernel
theorem d_PR_endLock_22 : decode prog_4_method_12_code 22 = .ok (.iconst 1, 1) := by decide +kernel
theorem d_PR_endLock_23 : decode prog_4_method_12_code 23 = .ok (.isub, 1) := by decide +kernel
theorem d_PR_endLock_24 : decode prog_4_method_12_code 24 = .ok (.putfield 15, 3) := by decide +kernel
theorem d_PR_endLock_27 : decode prog_4_method_12_code 27 = .ok (.return_, 1) := by decide +kernel
theorem d_PR_isWordKnown_0 : decode prog_4_method_10_code 0 = .ok (.iload_n 2, 1) := by decide +kernel
theorem d_PR_isWordKnown_1 : decode prog_4_method_10_code 1 = .ok (.aload_n 0, 1) := by decide +kernel
theorem d_PR_isWordKnown_2 : decode prog_4_method_10_code 2 = .ok (.getfield 25, 3) := by decide +kernel
theorem d_PR_isWordKnown_5 : decode prog_4_method_10_code 5 = .ok (.iload_n 1, 1) := by decide +kernel
theorem d_PR_isWordKnown_6 : decode prog_4_method_10_code 6 = .ok (.iaload, 1) := by decide +kernel
theorem d_PR_isWordKnown_7 : decode prog_4_method_10_code 7 = .ok (.iconst 1, 1) := by decide +kernel
theorem d_PR_isWordKnown_8 : decode prog_4_method_10_code 8 = .ok (.isub, 1) := by decide +kernel
theorem d_PR_isWordKnown_9 : decode prog_4_method_10_code 9 = .ok (.if_icmp .ne 10, 3) := by decide +kernel
theorem d_PR_isWordKnown_19 : decode prog_4_method_10_code 19 = .ok (.aload_n 0, 1) := by decide +kernel
theorem d_PR_isWordKnown_20 : decode prog_4_method_10_code 20 = .ok (.getfield 50, 3) := by decide +kernel
theorem d_PR_isWordKnown_23 : decode prog_4_method_10_code 23 = .ok (.iload_n 1, 1) := by decide +kernel
theorem d_PR_isWordKnown_24 : decode prog_4_method_10_code 24 = .ok (.bipush 6, 2) := by decide +kernel
theorem d_PR_isWordKnown_26 : decode prog_4_method_10_code 26 = .ok (.imul, 1) := by decide +kernel
theorem d_PR_isWordKnown_27 : decode prog_4_method_10_code 27 = .ok (.iload_n 2, 1) := by decide +kernel
theorem d_PR_isWordKnown_28 : decode prog_4_method_10_code 28 = .ok (.iadd, 1) := by decide +kernel
theorem d_PR_isWordKnown_29 : decode prog_4_method_10_code 29 = .ok (.iconst 1, 1) := by decide +kernel
theorem d_PR_isWordKnown_30 : decode prog_4_method_10_code 30 = .ok (.iadd, 1) := by decide +kernel
theorem d_PR_isWordKnown_31 : decode prog_4_method_10_code 31 = .ok (.iaload, 1) := by decide +kernel
theorem d_PR_isWordKnown_32 : decode prog_4_method_10_code 32 = .ok (.iconst 1, 1) := by decide +kernel
theorem d_PR_isWordKnown_33 : decode prog_4_method_10_code 33 = .ok (.if_icmp .ne 7, 3) := by decide +kernel
theorem d_PR_isWordKnown_40 : decode prog_4_method_10_code 40 = .ok (.iconst 0, 1) := by decide +kernel
theorem d_PR_isWordKnown_41 : decode prog_4_method_10_code 41 = .ok (.ireturn, 1) := by decide +kernel
theorem d_PR_isWordKnown_36 : decode prog_4_method_10_code 36 = .ok (.iconst 1, 1) := by decide +kernel
theorem d_PR_isWordKnown_37 : decode prog_4_method_10_code 37 = .ok (.goto 4, 3) := by decide +kernel
theorem d_PR_isWordKnown_12 : decode prog_4_method_10_code 12 = .ok (.aload_n 0, 1) := by decide +kernel
theorem d_PR_isWordKnown_13 : decode prog_4_method_10_code 13 = .ok (.getfield 34, 3) := by decide +kernel
theorem d_PR_isWordKnown_16 : decode prog_4_method_10_code 16 = .ok (.iload_n 1, 1) := by decide +kernel
theorem d_PR_isWordKnown_17 : decode prog_4_method_10_code 17 = .ok (.baload, 1) := by decide +kernel
theorem d_PR_isWordKnown_18 : decode prog_4_method_10_code 18 = .ok (.ireturn, 1) := by decide +kernel
theorem d_PR_mayBeKept_0 : decode prog_4_method_11_code 0 = .ok (.aload_n 2, 1) := by decide +kernel
theorem d_PR_mayBeKept_1 : decode prog_4_method_11_code 1 = .ok (.getfield 81, 3) := by decide +kernel
theorem d_PR_mayBeKept_4 : decode prog_4_method_11_code 4 = .ok (.iconst 2, 1) := by decide +kernel
theorem d_PR_mayBeKept_5 : decode prog_4_method_11_code 5 = .ok (.aload_n 0, 1) := by decide +kernel
theorem d_PR_mayBeKept_6 : decode prog_4_method_11_code 6 = .ok (.getfield 38, 3) := by decide +kernel
theorem d_PR_mayBeKept_9 : decode prog_4_method_11_code 9 = .ok (.iload_n 3, 1) := by decide +kernel
theorem d_PR_mayBeKept_10 : decode prog_4_method_11_code 10 = .ok (.iaload, 1) := by decide +kernel
theorem d_PR_mayBeKept_11 : decode prog_4_method_11_code 11 = .ok (.imul, 1) := by decide +kernel
theorem d_PR_mayBeKept_12 : decode prog_4_method_11_code 12 = .ok (.iconst 1, 1) := by decide +kernel
theorem d_PR_mayBeKept_13 : decode prog_4_method_11_code 13 = .ok (.iadd, 1) := by decide +kernel
theorem d_PR_mayBeKept_14 : decode prog_4_method_11_code 14 = .ok (.aload_n 0, 1) := by decide +kernel
theorem d_PR_mayBeKept_15 : decode prog_4_method_11_code 15 = .ok (.getfield 41, 3) := by decide +kernel
theorem d_PR_mayBeKept_18 : decode prog_4_method_11_code 18 = .ok (.iload_n 3, 1) := by decide +kernel
theorem d_PR_mayBeKept_19 : decode prog_4_method_11_code 19 = .ok (.iaload, 1) := by decide +kernel
theorem d_PR_mayBeKept_20 : decode prog_4_method_11_code 20 = .ok (.isub, 1) := by decide +kernel
theorem d_PR_mayBeKept_21 : decode prog_4_method_11_code 21 = .ok (.iaload, 1) := by decide +kernel
theorem d_PR_mayBeKept_22 : decode prog_4_method_11_code 22 = .ok (.istore 5, 2) := by decide +kernel
theorem d_PR_mayBeKept_24 : decode prog_4_method_11_code 24 = .ok (.aload_n 0, 1) := by decide +kernel
theorem d_PR_mayBeKept_25 : decode prog_4_method_11_code 25 = .ok (.getfield 50, 3) := by decide +kernel
theorem d_PR_mayBeKept_28 : decode prog_4_method_11_code 28 = .ok (.iload_n 3, 1) := by decide +kernel
theorem d_PR_mayBeKept_29 : decode prog_4_method_11_code 29 = .ok (.iaload, 1) := by decide +kernel
theorem d_PR_mayBeKept_30 : decode prog_4_method_11_code 30 = .ok (.ifCond .ne 28, 3) := by decide +kernel
theorem d_PR_mayBeKept_58 : decode prog_4_method_11_code 58 = .ok (.iconst 0, 1) := by decide +kernel
theorem d_PR_mayBeKept_59 : decode prog_4_method_11_code 59 = .ok (.ireturn, 1) := by decide +kernel
theorem d_PR_mayBeKept_33 : decode prog_4_method_11_code 33 = .ok (.aload_n 1, 1) := by decide +kernel
theorem d_PR_mayBeKept_34 : decode prog_4_method_11_code 34 = .ok (.getfield 84, 3) := by decide +kernel
theorem d_PR_mayBeKept_37 : decode prog_4_method_11_code 37 = .ok (.iload 5, 2) := by decide +kernel
theorem d_PR_mayBeKept_39 : decode prog_4_method_11_code 39 = .ok (.baload, 1) := by decide +kernel
theorem d_PR_mayBeKept_40 : decode prog_4_method_11_code 40 = .ok (.ifCond .ne 18, 3) := by decide +kernel
theorem d_PR_mayBeKept_43 : decode prog_4_method_11_code 43 = .ok (.iload 4, 2) := by decide +kernel
theorem d_PR_mayBeKept_45 : decode prog_4_method_11_code 45 = .ok (.aload_n 0, 1) := by decide +kernel
theorem d_PR_mayBeKept_46 : decode prog_4_method_11_code 46 = .ok (.getfield 47, 3) := by decide +kernel
theorem d_PR_mayBeKept_49 : decode prog_4_method_11_code 49 = .ok (.iload_n 3, 1) := by decide +kernel
theorem d_PR_mayBeKept_50 : decode prog_4_method_11_code 50 = .ok (.iaload, 1) := by decide +kernel
theorem d_PR_mayBeKept_51 : decode prog_4_method_11_code 51 = .ok (.if_icmp .ge 7, 3) := by decide +kernel
theorem d_PR_mayBeKept_54 : decode prog_4_method_11_code 54 = .ok (.iconst 1, 1) := by decide +kernel
theorem d_PR_mayBeKept_55 : decode prog_4_method_11_code 55 = .ok (.goto 4, 3) := by decide +kernel
theorem d_PR_runOut_0 : decode prog_4_method_7_code 0 = .ok (.iconst 0, 1) := by decide +kernel
theorem d_PR_runOut_1 : decode prog_4_method_7_code 1 = .ok (.istore_n 3, 1) := by decide +kernel
theorem d_PR_runOut_2 : decode prog_4_method_7_code 2 = .ok (.iconst 0, 1) := by decide +kernel
theorem d_PR_runOut_3 : decode prog_4_method_7_code 3 = .ok (.istore 4, 2) := by decide +kernel
theorem d_PR_runOut_5 : decode prog_4_method_7_code 5 = .ok (.iload 4, 2) := by decide +kernel
theorem d_PR_runOut_7 : decode prog_4_method_7_code 7 = .ok (.aload_n 0, 1) := by decide +kernel
theorem d_PR_runOut_8 : decode prog_4_method_7_code 8 = .ok (.getfield 9, 3) := by decide +kernel
theorem d_PR_runOut_11 : decode prog_4_method_7_code 11 = .ok (.if_icmp .ge 108, 3) := by decide +kernel
theorem d_PR_runOut_119 : decode prog_4_method_7_code 119 = .ok (.iload_n 3, 1) := by decide +kernel
theorem d_PR_runOut_120 : decode prog_4_method_7_code 120 = .ok (.ireturn, 1) := by decide +kernel
theorem d_PR_runOut_14 : decode prog_4_method_7_code 14 = .ok (.iconst 0, 1) := by decide +kernel
theorem d_PR_runOut_15 : decode prog_4_method_7_code 15 = .ok (.istore 5, 2) := by decide +kernel
theorem d_PR_runOut_17 : decode prog_4_method_7_code 17 = .ok (.iload 5, 2) := by decide +kernel
theorem d_PR_runOut_19 : decode prog_4_method_7_code 19 = .ok (.aload_n 0, 1) := by decide +kernel
theorem d_PR_runOut_20 : decode prog_4_method_7_code 20 = .ok (.getfield 25, 3) := by decide +kernel
theorem d_PR_runOut_23 : decode prog_4_method_7_code 23 = .ok (.iload 4, 2) := by decide +kernel
theorem d_PR_runOut_25 : decode prog_4_method_7_code 25 = .ok (.iaload, 1) := by decide +kernel
theorem d_PR_runOut_26 : decode prog_4_method_7_code 26 = .ok (.if_icmp .ge 87, 3) := by decide +kernel
theorem d_PR_runOut_113 : decode prog_4_method_7_code 113 = .ok (.iinc 4 1, 3) := by decide +kernel
theorem d_PR_runOut_116 : decode prog_4_method_7_code 116 = .ok (.goto (-111), 3) := by decide +kernel
theorem d_PR_runOut_29 : decode prog_4_method_7_code 29 = .ok (.aload_n 0, 1) := by decide +kernel
theorem d_PR_runOut_30 : decode prog_4_method_7_code 30 = .ok (.getfield 28, 3) := by decide +kernel
theorem d_PR_runOut_33 : decode prog_4_method_7_code 33 = .ok (.iload 4, 2) := by decide +kernel
theorem d_PR_runOut_35 : decode prog_4_method_7_code 35 = .ok (.iaload, 1) := by decide +kernel
theorem d_PR_runOut_36 : decode prog_4_method_7_code 36 = .ok (.ifCond .le 77, 3) := by decide +kernel
theorem d_PR_runOut_39 : decode prog_4_method_7_code 39 = .ok (.iload 4, 2) := by decide +kernel
theorem d_PR_runOut_41 : decode prog_4_method_7_code 41 = .ok (.bipush 6, 2) := by decide +kernel
theorem d_PR_runOut_43 : decode prog_4_method_7_code 43 = .ok (.imul, 1) := by decide +kernel
theorem d_PR_runOut_44 : decode prog_4_method_7_code 44 = .ok (.iload 5, 2) := by decide +kernel
theorem d_PR_runOut_46 : decode prog_4_method_7_code 46 = .ok (.iadd, 1) := by decide +kernel
theorem d_PR_runOut_47 : decode prog_4_method_7_code 47 = .ok (.istore 6, 2) := by decide +kernel
theorem d_PR_runOut_49 : decode prog_4_method_7_code 49 = .ok (.aload_n 0, 1) := by decide +kernel
theorem d_PR_runOut_50 : decode prog_4_method_7_code 50 = .ok (.getfield 50, 3) := by decide +kernel
theorem d_PR_runOut_53 : decode prog_4_method_7_code 53 = .ok (.iload 6, 2) := by decide +kernel
theorem d_PR_runOut_55 : decode prog_4_method_7_code 55 = .ok (.iaload, 1) := by decide +kernel
theorem d_PR_runOut_56 : decode prog_4_method_7_code 56 = .ok (.ifCond .ne 51, 3) := by decide +kernel
theorem d_PR_runOut_107 : decode prog_4_method_7_code 107 = .ok (.iinc 5 1, 3) := by decide +kernel
theorem d_PR_runOut_110 : decode prog_4_method_7_code 110 = .ok (.goto (-93), 3) := by decide +kernel
theorem d_PR_runOut_59 : decode prog_4_method_7_code 59 = .ok (.aload_n 0, 1) := by decide +kernel
theorem d_PR_runOut_60 : decode prog_4_method_7_code 60 = .ok (.getfield 47, 3) := by decide +kernel
theorem d_PR_runOut_63 : decode prog_4_method_7_code 63 = .ok (.iload 6, 2) := by decide +kernel
theorem d_PR_runOut_65 : decode prog_4_method_7_code 65 = .ok (.iaload, 1) := by decide +kernel
theorem d_PR_runOut_66 : decode prog_4_method_7_code 66 = .ok (.iload_n 2, 1) := by decide +kernel
theorem d_PR_runOut_67 : decode prog_4_method_7_code 67 = .ok (.if_icmp .gt 40, 3) := by decide +kernel
theorem d_PR_runOut_70 : decode prog_4_method_7_code 70 = .ok (.aload_n 0, 1) := by decide +kernel
theorem d_PR_runOut_71 : decode prog_4_method_7_code 71 = .ok (.iload 4, 2) := by decide +kernel
theorem d_PR_runOut_73 : decode prog_4_method_7_code 73 = .ok (.iload 6, 2) := by decide +kernel
theorem d_PR_runOut_75 : decode prog_4_method_7_code 75 = .ok (.iconst 2, 1) := by decide +kernel
theorem d_PR_runOut_76 : decode prog_4_method_7_code 76 = .ok (.invokevirtual 57, 3) := by decide +kernel
theorem d_PR_runOut_79 : decode prog_4_method_7_code 79 = .ok (.aload_n 1, 1) := by decide +kernel
theorem d_PR_runOut_80 : decode prog_4_method_7_code 80 = .ok (.aload_n 0, 1) := by decide +kernel
theorem d_PR_runOut_81 : decode prog_4_method_7_code 81 = .ok (.getfield 38, 3) := by decide +kernel
theorem d_PR_runOut_84 : decode prog_4_method_7_code 84 = .ok (.iload 6, 2) := by decide +kernel
theorem d_PR_runOut_86 : decode prog_4_method_7_code 86 = .ok (.iaload, 1) := by decide +kernel
theorem d_PR_runOut_87 : decode prog_4_method_7_code 87 = .ok (.aload_n 0, 1) := by decide +kernel
theorem d_PR_runOut_88 : decode prog_4_method_7_code 88 = .ok (.getfield 41, 3) := by decide +kernel
theorem d_PR_runOut_91 : decode prog_4_method_7_code 91 = .ok (.iload 6, 2) := by decide +kernel
theorem d_PR_runOut_93 : decode prog_4_method_7_code 93 = .ok (.iaload, 1) := by decide +kernel
theorem d_PR_runOut_94 : decode prog_4_method_7_code 94 = .ok (.aload_n 0, 1) := by decide +kernel
theorem d_PR_runOut_95 : decode prog_4_method_7_code 95 = .ok (.getfield 44, 3) := by decide +kernel
theorem d_PR_runOut_98 : decode prog_4_method_7_code 98 = .ok (.iload 6, 2) := by decide +kernel
theorem d_PR_runOut_100 : decode prog_4_method_7_code 100 = .ok (.iaload, 1) := by decide +kernel
theorem d_PR_runOut_101 : decode prog_4_method_7_code 101 = .ok (.invokevirtual 61, 3) := by decide +kernel
theorem d_PR_runOut_104 : decode prog_4_method_7_code 104 = .ok (.iinc 3 1, 3) := by decide +kernel
theorem d_PR_keepRound_0 : decode prog_4_method_9_code 0 = .ok (.iconst 0, 1) := by decide +kernel
theorem d_PR_keepRound_1 : decode prog_4_method_9_code 1 = .ok (.istore 4, 2) := by decide +kernel
theorem d_PR_keepRound_3 : decode prog_4_method_9_code 3 = .ok (.iconst 0, 1) := by decide +kernel
theorem d_PR_keepRound_4 : decode prog_4_method_9_code 4 = .ok (.istore 5, 2) := by decide +kernel
theorem d_PR_keepRound_6 : decode prog_4_method_9_code 6 = .ok (.iload 5, 2) := by decide +kernel
theorem d_PR_keepRound_8 : decode prog_4_method_9_code 8 = .ok (.aload_n 0, 1) := by decide +kernel
theorem d_PR_keepRound_9 : decode prog_4_method_9_code 9 = .ok (.getfield 9, 3) := by decide +kernel
theorem d_PR_keepRound_12 : decode prog_4_method_9_code 12 = .ok (.if_icmp .ge 121, 3) := by decide +kernel
theorem d_PR_keepRound_133 : decode prog_4_method_9_code 133 = .ok (.iload 4, 2) := by decide +kernel
theorem d_PR_keepRound_135 : decode prog_4_method_9_code 135 = .ok (.ireturn, 1) := by decide +kernel
theorem d_PR_keepRound_15 : decode prog_4_method_9_code 15 = .ok (.iconst 0, 1) := by decide +kernel
theorem d_PR_keepRound_16 : decode prog_4_method_9_code 16 = .ok (.istore 6, 2) := by decide +kernel
theorem d_PR_keepRound_18 : decode prog_4_method_9_code 18 = .ok (.iload 6, 2) := by decide +kernel
theorem d_PR_keepRound_20 : decode prog_4_method_9_code 20 = .ok (.aload_n 0, 1) := by decide +kernel
theorem d_PR_keepRound_21 : decode prog_4_method_9_code 21 = .ok (.getfield 25, 3) := by decide +kernel
theorem d_PR_keepRound_24 : decode prog_4_method_9_code 24 = .ok (.iload 5, 2) := by decide +kernel
theorem d_PR_keepRound_26 : decode prog_4_method_9_code 26 = .ok (.iaload, 1) := by decide +kernel
theorem d_PR_keepRound_27 : decode prog_4_method_9_code 27 = .ok (.if_icmp .ge 100, 3) := by decide +kernel
theorem d_PR_keepRound_127 : decode prog_4_method_9_code 127 = .ok (.iinc 5 1, 3) := by decide +kernel
theorem d_PR_keepRound_130 : decode prog_4_method_9_code 130 = .ok (.goto (-124), 3) := by decide +kernel
theorem d_PR_keepRound_30 : decode prog_4_method_9_code 30 = .ok (.aload_n 0, 1) := by decide +kernel
theorem d_PR_keepRound_31 : decode prog_4_method_9_code 31 = .ok (.getfield 28, 3) := by decide +kernel
theorem d_PR_keepRound_34 : decode prog_4_method_9_code 34 = .ok (.iload 5, 2) := by decide +kernel
theorem d_PR_keepRound_36 : decode prog_4_method_9_code 36 = .ok (.iaload, 1) := by decide +kernel
theorem d_PR_keepRound_37 : decode prog_4_method_9_code 37 = .ok (.ifCond .le 90, 3) := by decide +kernel
theorem d_PR_keepRound_40 : decode prog_4_method_9_code 40 = .ok (.iload 5, 2) := by decide +kernel
theorem d_PR_keepRound_42 : decode prog_4_method_9_code 42 = .ok (.bipush 6, 2) := by decide +kernel
theorem d_PR_keepRound_44 : decode prog_4_method_9_code 44 = .ok (.imul, 1) := by decide +kernel
theorem d_PR_keepRound_45 : decode prog_4_method_9_code 45 = .ok (.iload 6, 2) := by decide +kernel
theorem d_PR_keepRound_47 : decode prog_4_method_9_code 47 = .ok (.iadd, 1) := by decide +kernel
theorem d_PR_keepRound_48 : decode prog_4_method_9_code 48 = .ok (.istore 7, 2) := by decide +kernel
theorem d_PR_keepRound_50 : decode prog_4_method_9_code 50 = .ok (.aload_n 0, 1) := by decide +kernel
theorem d_PR_keepRound_51 : decode prog_4_method_9_code 51 = .ok (.iload 5, 2) := by decide +kernel
theorem d_PR_keepRound_53 : decode prog_4_method_9_code 53 = .ok (.iload 6, 2) := by decide +kernel
theorem d_PR_keepRound_55 : decode prog_4_method_9_code 55 = .ok (.invokevirtual 70, 3) := by decide +kernel
theorem d_PR_keepRound_58 : decode prog_4_method_9_code 58 = .ok (.ifCond .eq 63, 3) := by decide +kernel
theorem d_PR_keepRound_121 : decode prog_4_method_9_code 121 = .ok (.iinc 6 1, 3) := by decide +kernel
theorem d_PR_keepRound_124 : decode prog_4_method_9_code 124 = .ok (.goto (-106), 3) := by decide +kernel
theorem d_PR_keepRound_61 : decode prog_4_method_9_code 61 = .ok (.aload_n 0, 1) := by decide +kernel
theorem d_PR_keepRound_62 : decode prog_4_method_9_code 62 = .ok (.aload_n 1, 1) := by decide +kernel
theorem d_PR_keepRound_63 : decode prog_4_method_9_code 63 = .ok (.aload_n 2, 1) := by decide +kernel
theorem d_PR_keepRound_64 : decode prog_4_method_9_code 64 = .ok (.iload 7, 2) := by decide +kernel
theorem d_PR_keepRound_66 : decode prog_4_method_9_code 66 = .ok (.iload_n 3, 1) := by decide +kernel
theorem d_PR_keepRound_67 : decode prog_4_method_9_code 67 = .ok (.invokevirtual 74, 3) := by decide +kernel
theorem d_PR_keepRound_70 : decode prog_4_method_9_code 70 = .ok (.ifCond .eq 51, 3) := by decide +kernel
theorem d_PR_keepRound_73 : decode prog_4_method_9_code 73 = .ok (.aload_n 0, 1) := by decide +kernel
theorem d_PR_keepRound_74 : decode prog_4_method_9_code 74 = .ok (.iload 5, 2) := by decide +kernel
theorem d_PR_keepRound_76 : decode prog_4_method_9_code 76 = .ok (.iload 7, 2) := by decide +kernel
theorem d_PR_keepRound_78 : decode prog_4_method_9_code 78 = .ok (.iconst 1, 1) := by decide +kernel
theorem d_PR_keepRound_79 : decode prog_4_method_9_code 79 = .ok (.invokevirtual 57, 3) := by decide +kernel
theorem d_PR_keepRound_82 : decode prog_4_method_9_code 82 = .ok (.aload_n 0, 1) := by decide +kernel
theorem d_PR_keepRound_83 : decode prog_4_method_9_code 83 = .ok (.getfield 31, 3) := by decide +kernel
theorem d_PR_keepRound_86 : decode prog_4_method_9_code 86 = .ok (.iload 5, 2) := by decide +kernel
theorem d_PR_keepRound_88 : decode prog_4_method_9_code 88 = .ok (.dup2, 1) := by decide +kernel
theorem d_PR_keepRound_89 : decode prog_4_method_9_code 89 = .ok (.iaload, 1) := by decide +kernel
theorem d_PR_keepRound_90 : decode prog_4_method_9_code 90 = .ok (.iconst 1, 1) := by decide +kernel
theorem d_PR_keepRound_91 : decode prog_4_method_9_code 91 = .ok (.iadd, 1) := by decide +kernel
theorem d_PR_keepRound_92 : decode prog_4_method_9_code 92 = .ok (.iastore, 1) := by decide +kernel
theorem d_PR_keepRound_93 : decode prog_4_method_9_code 93 = .ok (.aload_n 2, 1) := by decide +kernel
theorem d_PR_keepRound_94 : decode prog_4_method_9_code 94 = .ok (.aload_n 0, 1) := by decide +kernel
theorem d_PR_keepRound_95 : decode prog_4_method_9_code 95 = .ok (.getfield 38, 3) := by decide +kernel
theorem d_PR_keepRound_98 : decode prog_4_method_9_code 98 = .ok (.iload 7, 2) := by decide +kernel
theorem d_PR_keepRound_100 : decode prog_4_method_9_code 100 = .ok (.iaload, 1) := by decide +kernel
theorem d_PR_keepRound_101 : decode prog_4_method_9_code 101 = .ok (.aload_n 0, 1) := by decide +kernel
theorem d_PR_keepRound_102 : decode prog_4_method_9_code 102 = .ok (.getfield 41, 3) := by decide +kernel
theorem d_PR_keepRound_105 : decode prog_4_method_9_code 105 = .ok (.iload 7, 2) := by decide +kernel
theorem d_PR_keepRound_107 : decode prog_4_method_9_code 107 = .ok (.iaload, 1) := by decide +kernel
theorem d_PR_keepRound_108 : decode prog_4_method_9_code 108 = .ok (.aload_n 0, 1) := by decide +kernel
theorem d_PR_keepRound_109 : decode prog_4_method_9_code 109 = .ok (.getfield 44, 3) := by decide +kernel
theorem d_PR_keepRound_112 : decode prog_4_method_9_code 112 = .ok (.iload 7, 2) := by decide +kernel
theorem d_PR_keepRound_114 : decode prog_4_method_9_code 114 = .ok (.iaload, 1) := by decide +kernel
theorem d_PR_keepRound_115 : decode prog_4_method_9_code 115 = .ok (.invokevirtual 78, 3) := by decide +kernel
theorem d_PR_keepRound_118 : decode prog_4_method_9_code 118 = .ok (.iinc 4 1, 3) := by decide +kernel
theorem d_PR_keepAll_0 : decode prog_4_method_8_code 0 = .ok (.iconst 0, 1) := by decide +kernel
theorem d_PR_keepAll_1 : decode prog_4_method_8_code 1 = .ok (.istore 4, 2) := by decide +kernel
theorem d_PR_keepAll_3 : decode prog_4_method_8_code 3 = .ok (.iconst 0, 1) := by decide +kernel
theorem d_PR_keepAll_4 : decode prog_4_method_8_code 4 = .ok (.istore 5, 2) := by decide +kernel
theorem d_PR_keepAll_6 : decode prog_4_method_8_code 6 = .ok (.iload 5, 2) := by decide +kernel
theorem d_PR_keepAll_8 : decode prog_4_method_8_code 8 = .ok (.sipush 240, 3) := by decide +kernel
theorem d_PR_keepAll_11 : decode prog_4_method_8_code 11 = .ok (.if_icmp .ge 33, 3) := by decide +kernel
theorem d_PR_keepAll_44 : decode prog_4_method_8_code 44 = .ok (.iload 4, 2) := by decide +kernel
theorem d_PR_keepAll_46 : decode prog_4_method_8_code 46 = .ok (.ireturn, 1) := by decide +kernel
theorem d_PR_keepAll_14 : decode prog_4_method_8_code 14 = .ok (.aload_n 0, 1) := by decide +kernel
theorem d_PR_keepAll_15 : decode prog_4_method_8_code 15 = .ok (.aload_n 1, 1) := by decide +kernel
theorem d_PR_keepAll_16 : decode prog_4_method_8_code 16 = .ok (.aload_n 2, 1) := by decide +kernel
theorem d_PR_keepAll_17 : decode prog_4_method_8_code 17 = .ok (.iload_n 3, 1) := by decide +kernel
theorem d_PR_keepAll_18 : decode prog_4_method_8_code 18 = .ok (.invokevirtual 66, 3) := by decide +kernel
theorem d_PR_keepAll_21 : decode prog_4_method_8_code 21 = .ok (.istore 6, 2) := by decide +kernel
theorem d_PR_keepAll_23 : decode prog_4_method_8_code 23 = .ok (.iload 6, 2) := by decide +kernel
theorem d_PR_keepAll_25 : decode prog_4_method_8_code 25 = .ok (.ifCond .ne 6, 3) := by decide +kernel
theorem d_PR_keepAll_31 : decode prog_4_method_8_code 31 = .ok (.iload 4, 2) := by decide +kernel
theorem d_PR_keepAll_33 : decode prog_4_method_8_code 33 = .ok (.iload 6, 2) := by decide +kernel
theorem d_PR_keepAll_35 : decode prog_4_method_8_code 35 = .ok (.iadd, 1) := by decide +kernel
theorem d_PR_keepAll_36 : decode prog_4_method_8_code 36 = .ok (.istore 4, 2) := by decide +kernel
theorem d_PR_keepAll_38 : decode prog_4_method_8_code 38 = .ok (.iinc 5 1, 3) := by decide +kernel
theorem d_PR_keepAll_41 : decode prog_4_method_8_code 41 = .ok (.goto (-35), 3) := by decide +kernel
theorem d_PR_keepAll_28 : decode prog_4_method_8_code 28 = .ok (.goto 16, 3) := by decide +kernel
set_option maxHeartbeats 4000000 in
set_option maxRecDepth 100000 in
theorem g_PR_begin (l : Launch) (D : va_G) (cI cZ : ClassId) (r0 : Nat) (nq : Nat) (HA : Int32) (r1 : Nat) (r2 : Nat) (r3 : Nat) (r4 : Nat) (r5 : Nat) (r6 : Nat) (r7 : Nat) (r8 : Nat) (r9 : Nat) (r10 : Nat) (r11 : Nat) (sz : Nat) (h_nq : nq ≤ 40) : Met l ⟨"PromiseChains$Promises", "begin", "()V"⟩ (mw ⟨"PromiseChains$Promises", "begin", "()V"⟩ prog_4_method_2_code 1 none) ({ frames := 0, cells := 0, slots := 0, locals := 0 }) (va_Pc [.ref r0] (PB D cI cZ sz [(r0, .inr (3, [.int (nI nq), .int HA, .ref r1, .ref r2, .ref r3, .ref r4, .ref r5, .ref r6, .ref r7, .ref r8, .ref r9, .ref r10, .ref r11]))])) (va_Qv (S := Unit) (fun uU => True) (fun uU tT => BB D (va_A [(r0, .inr (3, [.int (nI nq), .int HA, .ref r1, .ref r2, .ref r3, .ref r4, .ref r5, .ref r6, .ref r7, .ref r8, .ref r9, .ref r10, .ref r11]))] sz) [(r0, .inr (3, [.int 0, .int 0, .ref r1, .ref r2, .ref r3, .ref r4, .ref r5, .ref r6, .ref r7, .ref r8, .ref r9, .ref r10, .ref r11]))] tT) (va_A [(r0, .inr (3, [.int (nI nq), .int HA, .ref r1, .ref r2, .ref r3, .ref r4, .ref r5, .ref r6, .ref r7, .ref r8, .ref r9, .ref r10, .ref r11]))] sz)) 0 0 (va_A [(r0, .inr (3, [.int (nI nq), .int HA, .ref r1, .ref r2, .ref r3, .ref r4, .ref r5, .ref r6, .ref r7, .ref r8, .ref r9, .ref r10, .ref r11]))] sz) := by
  refine Met.ofW (cc := prog_4_method_2_code) (maxL := 1) (ret := none) (by decide) rfl ?_
  intro p e s m args below meth c s₁ B hml hv
  obtain ⟨rfl, hsz, hP, hK, hD0, hN⟩ := hv
  have hx := B.exec
  have hb := B.bytes
  have hr := B.returns
  have hts0 := atoms_spec (ws := mw ⟨"PromiseChains$Promises", "begin", "()V"⟩ prog_4_method_2_code 1 none) B.pre
  have hts : ∀ w ∈ tblG, w.before _ s = true := fun w h => hts0 w (List.mem_cons_of_mem _ h)
  have hown : s.vm.findClass "PromiseChains$Promises" = some m.cls := findClass_of_methodNamed B.named
  have hlocks := B.notSynchronized
  subst hsz
  have hD := hD0.self (sz := s.heap.size)
  generalize hAe : va_A [(r0, .inr (3, [.int (nI nq), .int HA, .ref r1, .ref r2, .ref r3, .ref r4, .ref r5, .ref r6, .ref r7, .ref r8, .ref r9, .ref r10, .ref r11]))] s.heap.size = A at hD ⊢
  have hA : ∀ q : Nat, s.heap.size ≤ q → A q := fun q h => by rw [← hAe]; exact Or.inr h
  have hS : va_S A s.heap s.heap [] := va_S.rf
  have hP : va_P D vwCl [(r0, .inr (3, [.int (nI nq), .int HA, .ref r1, .ref r2, .ref r3, .ref r4, .ref r5, .ref r6, .ref r7, .ref r8, .ref r9, .ref r10, .ref r11]))] s.heap := hP
  have hl := lv_entry ([.ref r0]) (n := 1) (Nat.le_of_ble_eq_true rfl)
  rw [lg_entry_eq]
  generalize (lg_sl ([.ref r0]) ++ List.replicate (1 - (lg_sl ([.ref r0])).length) Slot.unset).toArray = ls at hl ⊢
  have hl : lv_has ls 1 [(0, .ref r0)] := hl
  refine lv_aload_n hx hb d_PR_begin_0 rfl (lv_at hl 0 rfl) ?_
  refine lv_iconst (v := 0) hx hb d_PR_begin_1 (by decide) ?_
  refine va_put (D := D) (ci := 3) (v := .int 0) (ty := .int) (C := R_PR) (T := F_PR) (N := 13) hx hb hts i_PR t_PR t_PR_ok n_PR hown hK hP hD hS 0 rfl rfl 0 (by decide) (hts _ q_110) (fun _ h9 => h9) rfl (by decide +kernel) rfl rfl (Nat.le_of_ble_eq_true rfl) d_PR_begin_2 (fun H_1 locs hP hD hS => ?_)
  have hP : va_P D vwCl [(r0, .inr (3, [.int 0, .int HA, .ref r1, .ref r2, .ref r3, .ref r4, .ref r5, .ref r6, .ref r7, .ref r8, .ref r9, .ref r10, .ref r11]))] H_1 := hP
  have hD : va_D A [(r0, .inr (3, [.int 0, .int HA, .ref r1, .ref r2, .ref r3, .ref r4, .ref r5, .ref r6, .ref r7, .ref r8, .ref r9, .ref r10, .ref r11]))] := hD
  refine lv_aload_n hx hb d_PR_begin_5 rfl (lv_at hl 0 rfl) ?_
  refine lv_iconst (v := 0) hx hb d_PR_begin_6 (by decide) ?_
  refine va_put (D := D) (ci := 3) (v := .int 0) (ty := .int) (C := R_PR) (T := F_PR) (N := 13) hx hb hts i_PR t_PR t_PR_ok n_PR hown hK hP hD hS 0 rfl rfl 1 (by decide) (hts _ q_112) (fun _ h9 => h9) rfl (by decide +kernel) rfl rfl (Nat.le_of_ble_eq_true rfl) d_PR_begin_7 (fun H_2 locs hP hD hS => ?_)
  have hP : va_P D vwCl [(r0, .inr (3, [.int 0, .int 0, .ref r1, .ref r2, .ref r3, .ref r4, .ref r5, .ref r6, .ref r7, .ref r8, .ref r9, .ref r10, .ref r11]))] H_2 := hP
  have hD : va_D A [(r0, .inr (3, [.int 0, .int 0, .ref r1, .ref r2, .ref r3, .ref r4, .ref r5, .ref r6, .ref r7, .ref r8, .ref r9, .ref r10, .ref r11]))] := hD
  have hP9 := hP.sub (ws' := [(r0, .inr (3, [.int 0, .int 0, .ref r1, .ref r2, .ref r3, .ref r4, .ref r5, .ref r6, .ref r7, .ref r8, .ref r9, .ref r10, .ref r11]))]) [0] rfl
  have hD9 := hD.sub (ws' := [(r0, .inr (3, [.int 0, .int 0, .ref r1, .ref r2, .ref r3, .ref r4, .ref r5, .ref r6, .ref r7, .ref r8, .ref r9, .ref r10, .ref r11]))]) [0] (by decide) rfl
  refine W.widen (k := 0) (n := 0) (Nat.le_of_ble_eq_true rfl) (Nat.le_of_ble_eq_true rfl) ?_
  exact W.vret hx hb hr (fun tT ht hW => ⟨⟨(), rfl, trivial, by rw [ht]; exact hP9, hD9⟩, hS.F ht⟩) hS.2.2 d_PR_begin_10

set_option maxHeartbeats 4000000 in
set_option maxRecDepth 100000 in
theorem g_PR_add (l : Launch) (D : va_G) (cI cZ : ClassId) (r0 : Nat) (u : Int32) (v : Int32) (ln : Nat) (nq : Nat) (HA : Int32) (r1 : Nat) (r2 : Nat) (r3 : Nat) (r4 : Nat) (r5 : Nat) (r6 : Nat) (r7 : Nat) (r8 : Nat) (r9 : Nat) (r10 : Nat) (r11 : Nat) (PY : Nat → Int32) (PD : Nat → Int32) (HO : Nat → Nat) (HE : Nat → Int32) (KE : Nat → Int32) (TO : Nat → Int32) (sz : Nat) (h_nq : nq ≤ 40) (h_HO : ∀ zz, HO zz ≤ 6) (hnq : nq < 40) (hln : ln ≤ 6) (hz : ∀ zz, narrow .boolean (.int (TO zz)) = .int (TO zz)) : Met l ⟨"PromiseChains$Promises", "add", "(III)I"⟩ (mw ⟨"PromiseChains$Promises", "add", "(III)I"⟩ prog_4_method_4_code 5 (some .int)) ({ frames := 0, cells := 0, slots := 0, locals := 0 }) (va_Pc [.ref r0, .int u, .int v, .int (nI ln)] (PB D cI cZ sz [(r0, .inr (3, [.int (nI nq), .int HA, .ref r1, .ref r2, .ref r3, .ref r4, .ref r5, .ref r6, .ref r7, .ref r8, .ref r9, .ref r10, .ref r11])), (r1, .inl (cI, 40, .inl PY)), (r2, .inl (cI, 40, .inl PD)), (r3, .inl (cI, 40, .inl (fun zy => nI (HO zy)))), (r4, .inl (cI, 40, .inl HE)), (r5, .inl (cI, 40, .inl KE)), (r6, .inl (cZ, 40, .inl TO))])) (va_Qi (S := Int32 × (Nat → Int32) × (Nat → Int32) × (Nat → Nat) × (Nat → Int32) × (Nat → Int32) × (Nat → Int32)) (fun (r : Int32) uU => (r = nI nq) ∧ (∀ zz, uU.2.2.2.1 zz ≤ 6) ∧ (∀ zz, narrow .boolean (.int (uU.2.2.2.2.2.2 zz)) = .int (uU.2.2.2.2.2.2 zz))) (fun uU tT => BB D (va_A [(r0, .inr (3, [.int (nI nq), .int HA, .ref r1, .ref r2, .ref r3, .ref r4, .ref r5, .ref r6, .ref r7, .ref r8, .ref r9, .ref r10, .ref r11])), (r1, .inl (cI, 40, .inl PY)), (r2, .inl (cI, 40, .inl PD)), (r3, .inl (cI, 40, .inl (fun zy => nI (HO zy)))), (r4, .inl (cI, 40, .inl HE)), (r5, .inl (cI, 40, .inl KE)), (r6, .inl (cZ, 40, .inl TO))] sz) [(r0, .inr (3, [.int (nI (nq + 1)), .int (uU.1), .ref r1, .ref r2, .ref r3, .ref r4, .ref r5, .ref r6, .ref r7, .ref r8, .ref r9, .ref r10, .ref r11])), (r1, .inl (cI, 40, .inl (uU.2.1))), (r2, .inl (cI, 40, .inl (uU.2.2.1))), (r3, .inl (cI, 40, .inl (fun zy => nI ((uU.2.2.2.1) zy)))), (r4, .inl (cI, 40, .inl (uU.2.2.2.2.1))), (r5, .inl (cI, 40, .inl (uU.2.2.2.2.2.1))), (r6, .inl (cZ, 40, .inl (uU.2.2.2.2.2.2)))] tT) (va_A [(r0, .inr (3, [.int (nI nq), .int HA, .ref r1, .ref r2, .ref r3, .ref r4, .ref r5, .ref r6, .ref r7, .ref r8, .ref r9, .ref r10, .ref r11])), (r1, .inl (cI, 40, .inl PY)), (r2, .inl (cI, 40, .inl PD)), (r3, .inl (cI, 40, .inl (fun zy => nI (HO zy)))), (r4, .inl (cI, 40, .inl HE)), (r5, .inl (cI, 40, .inl KE)), (r6, .inl (cZ, 40, .inl TO))] sz)) 0 0 (va_A [(r0, .inr (3, [.int (nI nq), .int HA, .ref r1, .ref r2, .ref r3, .ref r4, .ref r5, .ref r6, .ref r7, .ref r8, .ref r9, .ref r10, .ref r11])), (r1, .inl (cI, 40, .inl PY)), (r2, .inl (cI, 40, .inl PD)), (r3, .inl (cI, 40, .inl (fun zy => nI (HO zy)))), (r4, .inl (cI, 40, .inl HE)), (r5, .inl (cI, 40, .inl KE)), (r6, .inl (cZ, 40, .inl TO))] sz) := by
  refine Met.ofW (cc := prog_4_method_4_code) (maxL := 5) (ret := (some .int)) (by decide) rfl ?_
  intro p e s m args below meth c s₁ B hml hv
  obtain ⟨rfl, hsz, hP, hK, hD0, hN⟩ := hv
  have hx := B.exec
  have hb := B.bytes
  have hr := B.returns
  have hts0 := atoms_spec (ws := mw ⟨"PromiseChains$Promises", "add", "(III)I"⟩ prog_4_method_4_code 5 (some .int)) B.pre
  have hts : ∀ w ∈ tblG, w.before _ s = true := fun w h => hts0 w (List.mem_cons_of_mem _ h)
  have hown : s.vm.findClass "PromiseChains$Promises" = some m.cls := findClass_of_methodNamed B.named
  have hlocks := B.notSynchronized
  subst hsz
  have hD := hD0.self (sz := s.heap.size)
  generalize hAe : va_A [(r0, .inr (3, [.int (nI nq), .int HA, .ref r1, .ref r2, .ref r3, .ref r4, .ref r5, .ref r6, .ref r7, .ref r8, .ref r9, .ref r10, .ref r11])), (r1, .inl (cI, 40, .inl PY)), (r2, .inl (cI, 40, .inl PD)), (r3, .inl (cI, 40, .inl (fun zy => nI (HO zy)))), (r4, .inl (cI, 40, .inl HE)), (r5, .inl (cI, 40, .inl KE)), (r6, .inl (cZ, 40, .inl TO))] s.heap.size = A at hD ⊢
  have hA : ∀ q : Nat, s.heap.size ≤ q → A q := fun q h => by rw [← hAe]; exact Or.inr h
  have hS : va_S A s.heap s.heap [] := va_S.rf
  have hP : va_P D vwCl [(r0, .inr (3, [.int (nI nq), .int HA, .ref r1, .ref r2, .ref r3, .ref r4, .ref r5, .ref r6, .ref r7, .ref r8, .ref r9, .ref r10, .ref r11])), (r1, .inl (cI, 40, .inl PY)), (r2, .inl (cI, 40, .inl PD)), (r3, .inl (cI, 40, .inl (fun zy => nI (HO zy)))), (r4, .inl (cI, 40, .inl HE)), (r5, .inl (cI, 40, .inl KE)), (r6, .inl (cZ, 40, .inl TO))] s.heap := hP
  have hl := lv_entry ([.ref r0, .int u, .int v, .int (nI ln)]) (n := 5) (Nat.le_of_ble_eq_true rfl)
  rw [lg_entry_eq]
  generalize (lg_sl ([.ref r0, .int u, .int v, .int (nI ln)]) ++ List.replicate (5 - (lg_sl ([.ref r0, .int u, .int v, .int (nI ln)])).length) Slot.unset).toArray = ls at hl ⊢
  have hl : lv_has ls 5 [(0, .ref r0), (1, .int u), (2, .int v), (3, .int (nI ln))] := hl
  refine lv_aload_n hx hb d_PR_add_0 rfl (lv_at hl 0 rfl) ?_
  refine va_get (D := D) (ci := 3) (v := .int (nI nq)) (C := R_PR) (T := F_PR) (N := 13) hx hb hts i_PR hown hK hP 0 rfl rfl 0 (by decide) (hts _ q_110) (fun _ h9 => h9) rfl d_PR_add_1 ?_
  refine lv_istore (lv' := [(4, .int (nI nq)), (0, .ref r0), (1, .int u), (2, .int v), (3, .int (nI ln))]) hx hb d_PR_add_4 hl (by decide) rfl (fun ls hl => ?_)
  refine lv_aload_n hx hb d_PR_add_6 rfl (lv_at hl 1 rfl) ?_
  refine lv_dup hx hb d_PR_add_7 rfl ?_
  refine va_get (D := D) (ci := 3) (v := .int (nI nq)) (C := R_PR) (T := F_PR) (N := 13) hx hb hts i_PR hown hK hP 0 rfl rfl 0 (by decide) (hts _ q_110) (fun _ h9 => h9) rfl d_PR_add_8 ?_
  refine lv_iconst (v := 1) hx hb d_PR_add_11 (by decide) ?_
  refine lv_iadd hx hb d_PR_add_12 ?_
  refine lv_seti (nI (nq + 1)) (nI_add nq 1) ?_
  refine va_put (D := D) (ci := 3) (v := .int (nI (nq + 1))) (ty := .int) (C := R_PR) (T := F_PR) (N := 13) hx hb hts i_PR t_PR t_PR_ok n_PR hown hK hP hD hS 0 rfl rfl 0 (by decide) (hts _ q_110) (fun _ h9 => h9) rfl (by decide +kernel) rfl rfl (Nat.le_of_ble_eq_true rfl) d_PR_add_13 (fun H_1 locs hP hD hS => ?_)
  have hP : va_P D vwCl [(r0, .inr (3, [.int (nI (nq + 1)), .int HA, .ref r1, .ref r2, .ref r3, .ref r4, .ref r5, .ref r6, .ref r7, .ref r8, .ref r9, .ref r10, .ref r11])), (r1, .inl (cI, 40, .inl PY)), (r2, .inl (cI, 40, .inl PD)), (r3, .inl (cI, 40, .inl (fun zy => nI (HO zy)))), (r4, .inl (cI, 40, .inl HE)), (r5, .inl (cI, 40, .inl KE)), (r6, .inl (cZ, 40, .inl TO))] H_1 := hP
  have hD : va_D A [(r0, .inr (3, [.int (nI (nq + 1)), .int HA, .ref r1, .ref r2, .ref r3, .ref r4, .ref r5, .ref r6, .ref r7, .ref r8, .ref r9, .ref r10, .ref r11])), (r1, .inl (cI, 40, .inl PY)), (r2, .inl (cI, 40, .inl PD)), (r3, .inl (cI, 40, .inl (fun zy => nI (HO zy)))), (r4, .inl (cI, 40, .inl HE)), (r5, .inl (cI, 40, .inl KE)), (r6, .inl (cZ, 40, .inl TO))] := hD
  refine lv_aload_n hx hb d_PR_add_16 rfl (lv_at hl 1 rfl) ?_
  refine va_get (D := D) (ci := 3) (v := .ref r1) (C := R_PR) (T := F_PR) (N := 13) hx hb hts i_PR hown hK hP 0 rfl rfl 2 (by decide) (hts _ q_114) (fun _ h9 => h9) rfl d_PR_add_17 ?_
  refine lv_iload hx hb d_PR_add_20 (lv_at hl 0 rfl) ?_
  refine lv_iload_n hx hb d_PR_add_22 rfl (lv_at hl 2 rfl) ?_
  refine my_stI hx hb hK hP hD hS 1 rfl nq rfl (by omega) (by decide) d_PR_add_23 (fun H_2 locs hP hD hS => ?_)
  have hP : va_P D vwCl [(r0, .inr (3, [.int (nI (nq + 1)), .int HA, .ref r1, .ref r2, .ref r3, .ref r4, .ref r5, .ref r6, .ref r7, .ref r8, .ref r9, .ref r10, .ref r11])), (r1, .inl (cI, 40, .inl (upd PY nq u))), (r2, .inl (cI, 40, .inl PD)), (r3, .inl (cI, 40, .inl (fun zy => nI (HO zy)))), (r4, .inl (cI, 40, .inl HE)), (r5, .inl (cI, 40, .inl KE)), (r6, .inl (cZ, 40, .inl TO))] H_2 := hP
  have hD : va_D A [(r0, .inr (3, [.int (nI (nq + 1)), .int HA, .ref r1, .ref r2, .ref r3, .ref r4, .ref r5, .ref r6, .ref r7, .ref r8, .ref r9, .ref r10, .ref r11])), (r1, .inl (cI, 40, .inl (upd PY nq u))), (r2, .inl (cI, 40, .inl PD)), (r3, .inl (cI, 40, .inl (fun zy => nI (HO zy)))), (r4, .inl (cI, 40, .inl HE)), (r5, .inl (cI, 40, .inl KE)), (r6, .inl (cZ, 40, .inl TO))] := hD
  refine lv_aload_n hx hb d_PR_add_24 rfl (lv_at hl 1 rfl) ?_
  refine va_get (D := D) (ci := 3) (v := .ref r2) (C := R_PR) (T := F_PR) (N := 13) hx hb hts i_PR hown hK hP 0 rfl rfl 3 (by decide) (hts _ q_116) (fun _ h9 => h9) rfl d_PR_add_25 ?_
  refine lv_iload hx hb d_PR_add_28 (lv_at hl 0 rfl) ?_
  refine lv_iload_n hx hb d_PR_add_30 rfl (lv_at hl 3 rfl) ?_
  refine my_stI hx hb hK hP hD hS 2 rfl nq rfl (by omega) (by decide) d_PR_add_31 (fun H_3 locs hP hD hS => ?_)
  have hP : va_P D vwCl [(r0, .inr (3, [.int (nI (nq + 1)), .int HA, .ref r1, .ref r2, .ref r3, .ref r4, .ref r5, .ref r6, .ref r7, .ref r8, .ref r9, .ref r10, .ref r11])), (r1, .inl (cI, 40, .inl (upd PY nq u))), (r2, .inl (cI, 40, .inl (upd PD nq v))), (r3, .inl (cI, 40, .inl (fun zy => nI (HO zy)))), (r4, .inl (cI, 40, .inl HE)), (r5, .inl (cI, 40, .inl KE)), (r6, .inl (cZ, 40, .inl TO))] H_3 := hP
  have hD : va_D A [(r0, .inr (3, [.int (nI (nq + 1)), .int HA, .ref r1, .ref r2, .ref r3, .ref r4, .ref r5, .ref r6, .ref r7, .ref r8, .ref r9, .ref r10, .ref r11])), (r1, .inl (cI, 40, .inl (upd PY nq u))), (r2, .inl (cI, 40, .inl (upd PD nq v))), (r3, .inl (cI, 40, .inl (fun zy => nI (HO zy)))), (r4, .inl (cI, 40, .inl HE)), (r5, .inl (cI, 40, .inl KE)), (r6, .inl (cZ, 40, .inl TO))] := hD
  refine lv_aload_n hx hb d_PR_add_32 rfl (lv_at hl 1 rfl) ?_
  refine va_get (D := D) (ci := 3) (v := .ref r3) (C := R_PR) (T := F_PR) (N := 13) hx hb hts i_PR hown hK hP 0 rfl rfl 4 (by decide) (hts _ q_118) (fun _ h9 => h9) rfl d_PR_add_33 ?_
  refine lv_iload hx hb d_PR_add_36 (lv_at hl 0 rfl) ?_
  refine lv_iload_n hx hb d_PR_add_38 rfl (lv_at hl 4 rfl) ?_
  refine my_stN hx hb hK hP hD hS 3 rfl nq ln rfl rfl (by omega) (by decide) d_PR_add_39 (fun H_4 locs hP hD hS => ?_)
  have hP : va_P D vwCl [(r0, .inr (3, [.int (nI (nq + 1)), .int HA, .ref r1, .ref r2, .ref r3, .ref r4, .ref r5, .ref r6, .ref r7, .ref r8, .ref r9, .ref r10, .ref r11])), (r1, .inl (cI, 40, .inl (upd PY nq u))), (r2, .inl (cI, 40, .inl (upd PD nq v))), (r3, .inl (cI, 40, .inl (fun zy => nI ((upN HO nq ln) zy)))), (r4, .inl (cI, 40, .inl HE)), (r5, .inl (cI, 40, .inl KE)), (r6, .inl (cZ, 40, .inl TO))] H_4 := hP
  have hD : va_D A [(r0, .inr (3, [.int (nI (nq + 1)), .int HA, .ref r1, .ref r2, .ref r3, .ref r4, .ref r5, .ref r6, .ref r7, .ref r8, .ref r9, .ref r10, .ref r11])), (r1, .inl (cI, 40, .inl (upd PY nq u))), (r2, .inl (cI, 40, .inl (upd PD nq v))), (r3, .inl (cI, 40, .inl (fun zy => nI ((upN HO nq ln) zy)))), (r4, .inl (cI, 40, .inl HE)), (r5, .inl (cI, 40, .inl KE)), (r6, .inl (cZ, 40, .inl TO))] := hD
  refine lv_aload_n hx hb d_PR_add_40 rfl (lv_at hl 1 rfl) ?_
  refine va_get (D := D) (ci := 3) (v := .ref r4) (C := R_PR) (T := F_PR) (N := 13) hx hb hts i_PR hown hK hP 0 rfl rfl 5 (by decide) (hts _ q_120) (fun _ h9 => h9) rfl d_PR_add_41 ?_
  refine lv_iload hx hb d_PR_add_44 (lv_at hl 0 rfl) ?_
  refine lv_iload_n hx hb d_PR_add_46 rfl (lv_at hl 4 rfl) ?_
  refine my_stI hx hb hK hP hD hS 4 rfl nq rfl (by omega) (by decide) d_PR_add_47 (fun H_5 locs hP hD hS => ?_)
  have hP : va_P D vwCl [(r0, .inr (3, [.int (nI (nq + 1)), .int HA, .ref r1, .ref r2, .ref r3, .ref r4, .ref r5, .ref r6, .ref r7, .ref r8, .ref r9, .ref r10, .ref r11])), (r1, .inl (cI, 40, .inl (upd PY nq u))), (r2, .inl (cI, 40, .inl (upd PD nq v))), (r3, .inl (cI, 40, .inl (fun zy => nI ((upN HO nq ln) zy)))), (r4, .inl (cI, 40, .inl (upd HE nq (nI ln)))), (r5, .inl (cI, 40, .inl KE)), (r6, .inl (cZ, 40, .inl TO))] H_5 := hP
  have hD : va_D A [(r0, .inr (3, [.int (nI (nq + 1)), .int HA, .ref r1, .ref r2, .ref r3, .ref r4, .ref r5, .ref r6, .ref r7, .ref r8, .ref r9, .ref r10, .ref r11])), (r1, .inl (cI, 40, .inl (upd PY nq u))), (r2, .inl (cI, 40, .inl (upd PD nq v))), (r3, .inl (cI, 40, .inl (fun zy => nI ((upN HO nq ln) zy)))), (r4, .inl (cI, 40, .inl (upd HE nq (nI ln)))), (r5, .inl (cI, 40, .inl KE)), (r6, .inl (cZ, 40, .inl TO))] := hD
  refine lv_aload_n hx hb d_PR_add_48 rfl (lv_at hl 1 rfl) ?_
  refine va_get (D := D) (ci := 3) (v := .ref r5) (C := R_PR) (T := F_PR) (N := 13) hx hb hts i_PR hown hK hP 0 rfl rfl 6 (by decide) (hts _ q_122) (fun _ h9 => h9) rfl d_PR_add_49 ?_
  refine lv_iload hx hb d_PR_add_52 (lv_at hl 0 rfl) ?_
  refine lv_iconst (v := 0) hx hb d_PR_add_54 (by decide) ?_
  refine my_stI hx hb hK hP hD hS 5 rfl nq rfl (by omega) (by decide) d_PR_add_55 (fun H_6 locs hP hD hS => ?_)
  have hP : va_P D vwCl [(r0, .inr (3, [.int (nI (nq + 1)), .int HA, .ref r1, .ref r2, .ref r3, .ref r4, .ref r5, .ref r6, .ref r7, .ref r8, .ref r9, .ref r10, .ref r11])), (r1, .inl (cI, 40, .inl (upd PY nq u))), (r2, .inl (cI, 40, .inl (upd PD nq v))), (r3, .inl (cI, 40, .inl (fun zy => nI ((upN HO nq ln) zy)))), (r4, .inl (cI, 40, .inl (upd HE nq (nI ln)))), (r5, .inl (cI, 40, .inl (upd KE nq 0))), (r6, .inl (cZ, 40, .inl TO))] H_6 := hP
  have hD : va_D A [(r0, .inr (3, [.int (nI (nq + 1)), .int HA, .ref r1, .ref r2, .ref r3, .ref r4, .ref r5, .ref r6, .ref r7, .ref r8, .ref r9, .ref r10, .ref r11])), (r1, .inl (cI, 40, .inl (upd PY nq u))), (r2, .inl (cI, 40, .inl (upd PD nq v))), (r3, .inl (cI, 40, .inl (fun zy => nI ((upN HO nq ln) zy)))), (r4, .inl (cI, 40, .inl (upd HE nq (nI ln)))), (r5, .inl (cI, 40, .inl (upd KE nq 0))), (r6, .inl (cZ, 40, .inl TO))] := hD
  refine lv_aload_n hx hb d_PR_add_56 rfl (lv_at hl 1 rfl) ?_
  refine va_get (D := D) (ci := 3) (v := .ref r6) (C := R_PR) (T := F_PR) (N := 13) hx hb hts i_PR hown hK hP 0 rfl rfl 7 (by decide) (hts _ q_124) (fun _ h9 => h9) rfl d_PR_add_57 ?_
  refine lv_iload hx hb d_PR_add_60 (lv_at hl 0 rfl) ?_
  refine lv_iconst (v := 0) hx hb d_PR_add_62 (by decide) ?_
  refine my_stZ hx hb hK hP hD hS 6 rfl nq 0 rfl rfl (by omega) (by decide) d_PR_add_63 (fun H_7 locs hP hD hS => ?_)
  have hP : va_P D vwCl [(r0, .inr (3, [.int (nI (nq + 1)), .int HA, .ref r1, .ref r2, .ref r3, .ref r4, .ref r5, .ref r6, .ref r7, .ref r8, .ref r9, .ref r10, .ref r11])), (r1, .inl (cI, 40, .inl (upd PY nq u))), (r2, .inl (cI, 40, .inl (upd PD nq v))), (r3, .inl (cI, 40, .inl (fun zy => nI ((upN HO nq ln) zy)))), (r4, .inl (cI, 40, .inl (upd HE nq (nI ln)))), (r5, .inl (cI, 40, .inl (upd KE nq 0))), (r6, .inl (cZ, 40, .inl (upd TO nq 0)))] H_7 := hP
  have hD : va_D A [(r0, .inr (3, [.int (nI (nq + 1)), .int HA, .ref r1, .ref r2, .ref r3, .ref r4, .ref r5, .ref r6, .ref r7, .ref r8, .ref r9, .ref r10, .ref r11])), (r1, .inl (cI, 40, .inl (upd PY nq u))), (r2, .inl (cI, 40, .inl (upd PD nq v))), (r3, .inl (cI, 40, .inl (fun zy => nI ((upN HO nq ln) zy)))), (r4, .inl (cI, 40, .inl (upd HE nq (nI ln)))), (r5, .inl (cI, 40, .inl (upd KE nq 0))), (r6, .inl (cZ, 40, .inl (upd TO nq 0)))] := hD
  refine lv_aload_n hx hb d_PR_add_64 rfl (lv_at hl 1 rfl) ?_
  refine lv_dup hx hb d_PR_add_65 rfl ?_
  refine va_get (D := D) (ci := 3) (v := .int HA) (C := R_PR) (T := F_PR) (N := 13) hx hb hts i_PR hown hK hP 0 rfl rfl 1 (by decide) (hts _ q_112) (fun _ h9 => h9) rfl d_PR_add_66 ?_
  refine lv_iload_n hx hb d_PR_add_69 rfl (lv_at hl 4 rfl) ?_
  refine lv_iadd hx hb d_PR_add_70 ?_
  refine va_put (D := D) (ci := 3) (v := .int (HA + (nI ln))) (ty := .int) (C := R_PR) (T := F_PR) (N := 13) hx hb hts i_PR t_PR t_PR_ok n_PR hown hK hP hD hS 0 rfl rfl 1 (by decide) (hts _ q_112) (fun _ h9 => h9) rfl (by decide +kernel) rfl rfl (Nat.le_of_ble_eq_true rfl) d_PR_add_71 (fun H_8 locs hP hD hS => ?_)
  have hP : va_P D vwCl [(r0, .inr (3, [.int (nI (nq + 1)), .int (HA + (nI ln)), .ref r1, .ref r2, .ref r3, .ref r4, .ref r5, .ref r6, .ref r7, .ref r8, .ref r9, .ref r10, .ref r11])), (r1, .inl (cI, 40, .inl (upd PY nq u))), (r2, .inl (cI, 40, .inl (upd PD nq v))), (r3, .inl (cI, 40, .inl (fun zy => nI ((upN HO nq ln) zy)))), (r4, .inl (cI, 40, .inl (upd HE nq (nI ln)))), (r5, .inl (cI, 40, .inl (upd KE nq 0))), (r6, .inl (cZ, 40, .inl (upd TO nq 0)))] H_8 := hP
  have hD : va_D A [(r0, .inr (3, [.int (nI (nq + 1)), .int (HA + (nI ln)), .ref r1, .ref r2, .ref r3, .ref r4, .ref r5, .ref r6, .ref r7, .ref r8, .ref r9, .ref r10, .ref r11])), (r1, .inl (cI, 40, .inl (upd PY nq u))), (r2, .inl (cI, 40, .inl (upd PD nq v))), (r3, .inl (cI, 40, .inl (fun zy => nI ((upN HO nq ln) zy)))), (r4, .inl (cI, 40, .inl (upd HE nq (nI ln)))), (r5, .inl (cI, 40, .inl (upd KE nq 0))), (r6, .inl (cZ, 40, .inl (upd TO nq 0)))] := hD
  refine lv_iload hx hb d_PR_add_74 (lv_at hl 0 rfl) ?_
  have hP9 := hP.sub (ws' := [(r0, .inr (3, [.int (nI (nq + 1)), .int (HA + (nI ln)), .ref r1, .ref r2, .ref r3, .ref r4, .ref r5, .ref r6, .ref r7, .ref r8, .ref r9, .ref r10, .ref r11])), (r1, .inl (cI, 40, .inl (upd PY nq u))), (r2, .inl (cI, 40, .inl (upd PD nq v))), (r3, .inl (cI, 40, .inl (fun zy => nI ((upN HO nq ln) zy)))), (r4, .inl (cI, 40, .inl (upd HE nq (nI ln)))), (r5, .inl (cI, 40, .inl (upd KE nq 0))), (r6, .inl (cZ, 40, .inl (upd TO nq 0)))]) [0, 1, 2, 3, 4, 5, 6] rfl
  have hD9 := hD.sub (ws' := [(r0, .inr (3, [.int (nI (nq + 1)), .int (HA + (nI ln)), .ref r1, .ref r2, .ref r3, .ref r4, .ref r5, .ref r6, .ref r7, .ref r8, .ref r9, .ref r10, .ref r11])), (r1, .inl (cI, 40, .inl (upd PY nq u))), (r2, .inl (cI, 40, .inl (upd PD nq v))), (r3, .inl (cI, 40, .inl (fun zy => nI ((upN HO nq ln) zy)))), (r4, .inl (cI, 40, .inl (upd HE nq (nI ln)))), (r5, .inl (cI, 40, .inl (upd KE nq 0))), (r6, .inl (cZ, 40, .inl (upd TO nq 0)))]) [0, 1, 2, 3, 4, 5, 6] (by decide) rfl
  refine W.widen (k := 0) (n := 0) (Nat.le_of_ble_eq_true rfl) (Nat.le_of_ble_eq_true rfl) ?_
  exact W.iret (v := (nI nq)) hx hb hr (fun tT ht hW => ⟨⟨(nI nq), (HA + (nI ln), (upd PY nq u), (upd PD nq v), (upN HO nq ln), (upd HE nq (nI ln)), (upd KE nq 0), (upd TO nq 0)), rfl, ⟨rfl, (upN_le h_HO (by omega)), (upd_nar hz _ rfl)⟩, by rw [ht]; exact hP9, hD9⟩, hS.F ht⟩) hS.2.2 d_PR_add_76

set_option maxHeartbeats 4000000 in
set_option maxRecDepth 100000 in
theorem g_PR_putLock (l : Launch) (D : va_G) (cI cZ : ClassId) (r0 : Nat) (q : Nat) (i : Nat) (j : Nat) (t : Nat) (u : Int32) (v : Int32) (nq : Nat) (HA : Int32) (r1 : Nat) (r2 : Nat) (r3 : Nat) (r4 : Nat) (r5 : Nat) (r6 : Nat) (r7 : Nat) (r8 : Nat) (r9 : Nat) (r10 : Nat) (r11 : Nat) (LP : Nat → Nat) (LF : Nat → Nat) (LS : Nat → Int32) (LC : Nat → Int32) (LH : Nat → Int32) (sz : Nat) (h_nq : nq ≤ 40) (h_LP : ∀ zz, LP zz ≤ 11) (h_LF : ∀ zz, LF zz ≤ 1) (hq : q < 40) (hi : i < 6) (hj : j < 12) (ht : t ≤ 1) : Met l ⟨"PromiseChains$Promises", "putLock", "(IIIIII)V"⟩ (mw ⟨"PromiseChains$Promises", "putLock", "(IIIIII)V"⟩ prog_4_method_5_code 8 none) ({ frames := 0, cells := 0, slots := 0, locals := 0 }) (va_Pc [.ref r0, .int (nI q), .int (nI i), .int (nI j), .int (nI t), .int u, .int v] (PB D cI cZ sz [(r0, .inr (3, [.int (nI nq), .int HA, .ref r1, .ref r2, .ref r3, .ref r4, .ref r5, .ref r6, .ref r7, .ref r8, .ref r9, .ref r10, .ref r11])), (r7, .inl (cI, 240, .inl (fun zy => nI (LP zy)))), (r8, .inl (cI, 240, .inl (fun zy => nI (LF zy)))), (r9, .inl (cI, 240, .inl LS)), (r10, .inl (cI, 240, .inl LC)), (r11, .inl (cI, 240, .inl LH))])) (va_Qv (S := (Nat → Nat) × (Nat → Nat) × (Nat → Int32) × (Nat → Int32) × (Nat → Int32)) (fun uU => (∀ zz, uU.1 zz ≤ 11) ∧ (∀ zz, uU.2.1 zz ≤ 1)) (fun uU tT => BB D (va_A [(r0, .inr (3, [.int (nI nq), .int HA, .ref r1, .ref r2, .ref r3, .ref r4, .ref r5, .ref r6, .ref r7, .ref r8, .ref r9, .ref r10, .ref r11])), (r7, .inl (cI, 240, .inl (fun zy => nI (LP zy)))), (r8, .inl (cI, 240, .inl (fun zy => nI (LF zy)))), (r9, .inl (cI, 240, .inl LS)), (r10, .inl (cI, 240, .inl LC)), (r11, .inl (cI, 240, .inl LH))] sz) [(r0, .inr (3, [.int (nI nq), .int HA, .ref r1, .ref r2, .ref r3, .ref r4, .ref r5, .ref r6, .ref r7, .ref r8, .ref r9, .ref r10, .ref r11])), (r7, .inl (cI, 240, .inl (fun zy => nI ((uU.1) zy)))), (r8, .inl (cI, 240, .inl (fun zy => nI ((uU.2.1) zy)))), (r9, .inl (cI, 240, .inl (uU.2.2.1))), (r10, .inl (cI, 240, .inl (uU.2.2.2.1))), (r11, .inl (cI, 240, .inl (uU.2.2.2.2)))] tT) (va_A [(r0, .inr (3, [.int (nI nq), .int HA, .ref r1, .ref r2, .ref r3, .ref r4, .ref r5, .ref r6, .ref r7, .ref r8, .ref r9, .ref r10, .ref r11])), (r7, .inl (cI, 240, .inl (fun zy => nI (LP zy)))), (r8, .inl (cI, 240, .inl (fun zy => nI (LF zy)))), (r9, .inl (cI, 240, .inl LS)), (r10, .inl (cI, 240, .inl LC)), (r11, .inl (cI, 240, .inl LH))] sz)) 0 0 (va_A [(r0, .inr (3, [.int (nI nq), .int HA, .ref r1, .ref r2, .ref r3, .ref r4, .ref r5, .ref r6, .ref r7, .ref r8, .ref r9, .ref r10, .ref r11])), (r7, .inl (cI, 240, .inl (fun zy => nI (LP zy)))), (r8, .inl (cI, 240, .inl (fun zy => nI (LF zy)))), (r9, .inl (cI, 240, .inl LS)), (r10, .inl (cI, 240, .inl LC)), (r11, .inl (cI, 240, .inl LH))] sz) := by
  refine Met.ofW (cc := prog_4_method_5_code) (maxL := 8) (ret := none) (by decide) rfl ?_
  intro p e s m args below meth c s₁ B hml hv
  obtain ⟨rfl, hsz, hP, hK, hD0, hN⟩ := hv
  have hx := B.exec
  have hb := B.bytes
  have hr := B.returns
  have hts0 := atoms_spec (ws := mw ⟨"PromiseChains$Promises", "putLock", "(IIIIII)V"⟩ prog_4_method_5_code 8 none) B.pre
  have hts : ∀ w ∈ tblG, w.before _ s = true := fun w h => hts0 w (List.mem_cons_of_mem _ h)
  have hown : s.vm.findClass "PromiseChains$Promises" = some m.cls := findClass_of_methodNamed B.named
  have hlocks := B.notSynchronized
  subst hsz
  have hD := hD0.self (sz := s.heap.size)
  generalize hAe : va_A [(r0, .inr (3, [.int (nI nq), .int HA, .ref r1, .ref r2, .ref r3, .ref r4, .ref r5, .ref r6, .ref r7, .ref r8, .ref r9, .ref r10, .ref r11])), (r7, .inl (cI, 240, .inl (fun zy => nI (LP zy)))), (r8, .inl (cI, 240, .inl (fun zy => nI (LF zy)))), (r9, .inl (cI, 240, .inl LS)), (r10, .inl (cI, 240, .inl LC)), (r11, .inl (cI, 240, .inl LH))] s.heap.size = A at hD ⊢
  have hA : ∀ q : Nat, s.heap.size ≤ q → A q := fun q h => by rw [← hAe]; exact Or.inr h
  have hS : va_S A s.heap s.heap [] := va_S.rf
  have hP : va_P D vwCl [(r0, .inr (3, [.int (nI nq), .int HA, .ref r1, .ref r2, .ref r3, .ref r4, .ref r5, .ref r6, .ref r7, .ref r8, .ref r9, .ref r10, .ref r11])), (r7, .inl (cI, 240, .inl (fun zy => nI (LP zy)))), (r8, .inl (cI, 240, .inl (fun zy => nI (LF zy)))), (r9, .inl (cI, 240, .inl LS)), (r10, .inl (cI, 240, .inl LC)), (r11, .inl (cI, 240, .inl LH))] s.heap := hP
  have hl := lv_entry ([.ref r0, .int (nI q), .int (nI i), .int (nI j), .int (nI t), .int u, .int v]) (n := 8) (Nat.le_of_ble_eq_true rfl)
  rw [lg_entry_eq]
  generalize (lg_sl ([.ref r0, .int (nI q), .int (nI i), .int (nI j), .int (nI t), .int u, .int v]) ++ List.replicate (8 - (lg_sl ([.ref r0, .int (nI q), .int (nI i), .int (nI j), .int (nI t), .int u, .int v])).length) Slot.unset).toArray = ls at hl ⊢
  have hl : lv_has ls 8 [(0, .ref r0), (1, .int (nI q)), (2, .int (nI i)), (3, .int (nI j)), (4, .int (nI t)), (5, .int u), (6, .int v)] := hl
  refine lv_iload_n hx hb d_PR_putLock_0 rfl (lv_at hl 1 rfl) ?_
  refine lv_bipush (v := 6) hx hb d_PR_putLock_1 (by decide) ?_
  refine lv_imul hx hb d_PR_putLock_3 ?_
  refine lv_seti (nI (q * 6)) (pk_mul q 6) ?_
  refine lv_iload_n hx hb d_PR_putLock_4 rfl (lv_at hl 2 rfl) ?_
  refine lv_iadd hx hb d_PR_putLock_5 ?_
  refine lv_seti (nI ((q * 6) + i)) (nI_add (q * 6) i) ?_
  refine lv_istore (lv' := [(7, .int (nI ((q * 6) + i))), (0, .ref r0), (1, .int (nI q)), (2, .int (nI i)), (3, .int (nI j)), (4, .int (nI t)), (5, .int u), (6, .int v)]) hx hb d_PR_putLock_6 hl (by decide) rfl (fun ls hl => ?_)
  refine lv_aload_n hx hb d_PR_putLock_8 rfl (lv_at hl 1 rfl) ?_
  refine va_get (D := D) (ci := 3) (v := .ref r7) (C := R_PR) (T := F_PR) (N := 13) hx hb hts i_PR hown hK hP 0 rfl rfl 8 (by decide) (hts _ q_126) (fun _ h9 => h9) rfl d_PR_putLock_9 ?_
  refine lv_iload hx hb d_PR_putLock_12 (lv_at hl 0 rfl) ?_
  refine lv_iload_n hx hb d_PR_putLock_14 rfl (lv_at hl 4 rfl) ?_
  refine my_stN hx hb hK hP hD hS 1 rfl ((q * 6) + i) j rfl rfl (by omega) (by decide) d_PR_putLock_15 (fun H_1 locs hP hD hS => ?_)
  have hP : va_P D vwCl [(r0, .inr (3, [.int (nI nq), .int HA, .ref r1, .ref r2, .ref r3, .ref r4, .ref r5, .ref r6, .ref r7, .ref r8, .ref r9, .ref r10, .ref r11])), (r7, .inl (cI, 240, .inl (fun zy => nI ((upN LP ((q * 6) + i) j) zy)))), (r8, .inl (cI, 240, .inl (fun zy => nI (LF zy)))), (r9, .inl (cI, 240, .inl LS)), (r10, .inl (cI, 240, .inl LC)), (r11, .inl (cI, 240, .inl LH))] H_1 := hP
  have hD : va_D A [(r0, .inr (3, [.int (nI nq), .int HA, .ref r1, .ref r2, .ref r3, .ref r4, .ref r5, .ref r6, .ref r7, .ref r8, .ref r9, .ref r10, .ref r11])), (r7, .inl (cI, 240, .inl (fun zy => nI ((upN LP ((q * 6) + i) j) zy)))), (r8, .inl (cI, 240, .inl (fun zy => nI (LF zy)))), (r9, .inl (cI, 240, .inl LS)), (r10, .inl (cI, 240, .inl LC)), (r11, .inl (cI, 240, .inl LH))] := hD
  refine lv_aload_n hx hb d_PR_putLock_16 rfl (lv_at hl 1 rfl) ?_
  refine va_get (D := D) (ci := 3) (v := .ref r8) (C := R_PR) (T := F_PR) (N := 13) hx hb hts i_PR hown hK hP 0 rfl rfl 9 (by decide) (hts _ q_127) (fun _ h9 => h9) rfl d_PR_putLock_17 ?_
  refine lv_iload hx hb d_PR_putLock_20 (lv_at hl 0 rfl) ?_
  refine lv_iload hx hb d_PR_putLock_22 (lv_at hl 5 rfl) ?_
  refine my_stN hx hb hK hP hD hS 2 rfl ((q * 6) + i) t rfl rfl (by omega) (by decide) d_PR_putLock_24 (fun H_2 locs hP hD hS => ?_)
  have hP : va_P D vwCl [(r0, .inr (3, [.int (nI nq), .int HA, .ref r1, .ref r2, .ref r3, .ref r4, .ref r5, .ref r6, .ref r7, .ref r8, .ref r9, .ref r10, .ref r11])), (r7, .inl (cI, 240, .inl (fun zy => nI ((upN LP ((q * 6) + i) j) zy)))), (r8, .inl (cI, 240, .inl (fun zy => nI ((upN LF ((q * 6) + i) t) zy)))), (r9, .inl (cI, 240, .inl LS)), (r10, .inl (cI, 240, .inl LC)), (r11, .inl (cI, 240, .inl LH))] H_2 := hP
  have hD : va_D A [(r0, .inr (3, [.int (nI nq), .int HA, .ref r1, .ref r2, .ref r3, .ref r4, .ref r5, .ref r6, .ref r7, .ref r8, .ref r9, .ref r10, .ref r11])), (r7, .inl (cI, 240, .inl (fun zy => nI ((upN LP ((q * 6) + i) j) zy)))), (r8, .inl (cI, 240, .inl (fun zy => nI ((upN LF ((q * 6) + i) t) zy)))), (r9, .inl (cI, 240, .inl LS)), (r10, .inl (cI, 240, .inl LC)), (r11, .inl (cI, 240, .inl LH))] := hD
  refine lv_aload_n hx hb d_PR_putLock_25 rfl (lv_at hl 1 rfl) ?_
  refine va_get (D := D) (ci := 3) (v := .ref r9) (C := R_PR) (T := F_PR) (N := 13) hx hb hts i_PR hown hK hP 0 rfl rfl 10 (by decide) (hts _ q_128) (fun _ h9 => h9) rfl d_PR_putLock_26 ?_
  refine lv_iload hx hb d_PR_putLock_29 (lv_at hl 0 rfl) ?_
  refine lv_iload hx hb d_PR_putLock_31 (lv_at hl 6 rfl) ?_
  refine my_stI hx hb hK hP hD hS 3 rfl ((q * 6) + i) rfl (by omega) (by decide) d_PR_putLock_33 (fun H_3 locs hP hD hS => ?_)
  have hP : va_P D vwCl [(r0, .inr (3, [.int (nI nq), .int HA, .ref r1, .ref r2, .ref r3, .ref r4, .ref r5, .ref r6, .ref r7, .ref r8, .ref r9, .ref r10, .ref r11])), (r7, .inl (cI, 240, .inl (fun zy => nI ((upN LP ((q * 6) + i) j) zy)))), (r8, .inl (cI, 240, .inl (fun zy => nI ((upN LF ((q * 6) + i) t) zy)))), (r9, .inl (cI, 240, .inl (upd LS ((q * 6) + i) u))), (r10, .inl (cI, 240, .inl LC)), (r11, .inl (cI, 240, .inl LH))] H_3 := hP
  have hD : va_D A [(r0, .inr (3, [.int (nI nq), .int HA, .ref r1, .ref r2, .ref r3, .ref r4, .ref r5, .ref r6, .ref r7, .ref r8, .ref r9, .ref r10, .ref r11])), (r7, .inl (cI, 240, .inl (fun zy => nI ((upN LP ((q * 6) + i) j) zy)))), (r8, .inl (cI, 240, .inl (fun zy => nI ((upN LF ((q * 6) + i) t) zy)))), (r9, .inl (cI, 240, .inl (upd LS ((q * 6) + i) u))), (r10, .inl (cI, 240, .inl LC)), (r11, .inl (cI, 240, .inl LH))] := hD
  refine lv_aload_n hx hb d_PR_putLock_34 rfl (lv_at hl 1 rfl) ?_
  refine va_get (D := D) (ci := 3) (v := .ref r10) (C := R_PR) (T := F_PR) (N := 13) hx hb hts i_PR hown hK hP 0 rfl rfl 11 (by decide) (hts _ q_130) (fun _ h9 => h9) rfl d_PR_putLock_35 ?_
  refine lv_iload hx hb d_PR_putLock_38 (lv_at hl 0 rfl) ?_
  refine lv_iload hx hb d_PR_putLock_40 (lv_at hl 7 rfl) ?_
  refine my_stI hx hb hK hP hD hS 4 rfl ((q * 6) + i) rfl (by omega) (by decide) d_PR_putLock_42 (fun H_4 locs hP hD hS => ?_)
  have hP : va_P D vwCl [(r0, .inr (3, [.int (nI nq), .int HA, .ref r1, .ref r2, .ref r3, .ref r4, .ref r5, .ref r6, .ref r7, .ref r8, .ref r9, .ref r10, .ref r11])), (r7, .inl (cI, 240, .inl (fun zy => nI ((upN LP ((q * 6) + i) j) zy)))), (r8, .inl (cI, 240, .inl (fun zy => nI ((upN LF ((q * 6) + i) t) zy)))), (r9, .inl (cI, 240, .inl (upd LS ((q * 6) + i) u))), (r10, .inl (cI, 240, .inl (upd LC ((q * 6) + i) v))), (r11, .inl (cI, 240, .inl LH))] H_4 := hP
  have hD : va_D A [(r0, .inr (3, [.int (nI nq), .int HA, .ref r1, .ref r2, .ref r3, .ref r4, .ref r5, .ref r6, .ref r7, .ref r8, .ref r9, .ref r10, .ref r11])), (r7, .inl (cI, 240, .inl (fun zy => nI ((upN LP ((q * 6) + i) j) zy)))), (r8, .inl (cI, 240, .inl (fun zy => nI ((upN LF ((q * 6) + i) t) zy)))), (r9, .inl (cI, 240, .inl (upd LS ((q * 6) + i) u))), (r10, .inl (cI, 240, .inl (upd LC ((q * 6) + i) v))), (r11, .inl (cI, 240, .inl LH))] := hD
  refine lv_aload_n hx hb d_PR_putLock_43 rfl (lv_at hl 1 rfl) ?_
  refine va_get (D := D) (ci := 3) (v := .ref r11) (C := R_PR) (T := F_PR) (N := 13) hx hb hts i_PR hown hK hP 0 rfl rfl 12 (by decide) (hts _ q_131) (fun _ h9 => h9) rfl d_PR_putLock_44 ?_
  refine lv_iload hx hb d_PR_putLock_47 (lv_at hl 0 rfl) ?_
  refine lv_iconst (v := 0) hx hb d_PR_putLock_49 (by decide) ?_
  refine my_stI hx hb hK hP hD hS 5 rfl ((q * 6) + i) rfl (by omega) (by decide) d_PR_putLock_50 (fun H_5 locs hP hD hS => ?_)
  have hP : va_P D vwCl [(r0, .inr (3, [.int (nI nq), .int HA, .ref r1, .ref r2, .ref r3, .ref r4, .ref r5, .ref r6, .ref r7, .ref r8, .ref r9, .ref r10, .ref r11])), (r7, .inl (cI, 240, .inl (fun zy => nI ((upN LP ((q * 6) + i) j) zy)))), (r8, .inl (cI, 240, .inl (fun zy => nI ((upN LF ((q * 6) + i) t) zy)))), (r9, .inl (cI, 240, .inl (upd LS ((q * 6) + i) u))), (r10, .inl (cI, 240, .inl (upd LC ((q * 6) + i) v))), (r11, .inl (cI, 240, .inl (upd LH ((q * 6) + i) 0)))] H_5 := hP
  have hD : va_D A [(r0, .inr (3, [.int (nI nq), .int HA, .ref r1, .ref r2, .ref r3, .ref r4, .ref r5, .ref r6, .ref r7, .ref r8, .ref r9, .ref r10, .ref r11])), (r7, .inl (cI, 240, .inl (fun zy => nI ((upN LP ((q * 6) + i) j) zy)))), (r8, .inl (cI, 240, .inl (fun zy => nI ((upN LF ((q * 6) + i) t) zy)))), (r9, .inl (cI, 240, .inl (upd LS ((q * 6) + i) u))), (r10, .inl (cI, 240, .inl (upd LC ((q * 6) + i) v))), (r11, .inl (cI, 240, .inl (upd LH ((q * 6) + i) 0)))] := hD
  have hP9 := hP.sub (ws' := [(r0, .inr (3, [.int (nI nq), .int HA, .ref r1, .ref r2, .ref r3, .ref r4, .ref r5, .ref r6, .ref r7, .ref r8, .ref r9, .ref r10, .ref r11])), (r7, .inl (cI, 240, .inl (fun zy => nI ((upN LP ((q * 6) + i) j) zy)))), (r8, .inl (cI, 240, .inl (fun zy => nI ((upN LF ((q * 6) + i) t) zy)))), (r9, .inl (cI, 240, .inl (upd LS ((q * 6) + i) u))), (r10, .inl (cI, 240, .inl (upd LC ((q * 6) + i) v))), (r11, .inl (cI, 240, .inl (upd LH ((q * 6) + i) 0)))]) [0, 1, 2, 3, 4, 5] rfl
  have hD9 := hD.sub (ws' := [(r0, .inr (3, [.int (nI nq), .int HA, .ref r1, .ref r2, .ref r3, .ref r4, .ref r5, .ref r6, .ref r7, .ref r8, .ref r9, .ref r10, .ref r11])), (r7, .inl (cI, 240, .inl (fun zy => nI ((upN LP ((q * 6) + i) j) zy)))), (r8, .inl (cI, 240, .inl (fun zy => nI ((upN LF ((q * 6) + i) t) zy)))), (r9, .inl (cI, 240, .inl (upd LS ((q * 6) + i) u))), (r10, .inl (cI, 240, .inl (upd LC ((q * 6) + i) v))), (r11, .inl (cI, 240, .inl (upd LH ((q * 6) + i) 0)))]) [0, 1, 2, 3, 4, 5] (by decide) rfl
  refine W.widen (k := 0) (n := 0) (Nat.le_of_ble_eq_true rfl) (Nat.le_of_ble_eq_true rfl) ?_
  exact W.vret hx hb hr (fun tT ht hW => ⟨⟨((upN LP ((q * 6) + i) j), (upN LF ((q * 6) + i) t), (upd LS ((q * 6) + i) u), (upd LC ((q * 6) + i) v), (upd LH ((q * 6) + i) 0)), rfl, ⟨(upN_le h_LP (by omega)), (upN_le h_LF (by omega))⟩, by rw [ht]; exact hP9, hD9⟩, hS.F ht⟩) hS.2.2 d_PR_putLock_51

set_option maxHeartbeats 4000000 in
set_option maxRecDepth 100000 in
theorem g_PR_outcome (l : Launch) (D : va_G) (cI cZ : ClassId) (r0 : Nat) (q : Nat) (nq : Nat) (HA : Int32) (r1 : Nat) (r2 : Nat) (r3 : Nat) (r4 : Nat) (r5 : Nat) (r6 : Nat) (r7 : Nat) (r8 : Nat) (r9 : Nat) (r10 : Nat) (r11 : Nat) (HO : Nat → Nat) (HE : Nat → Int32) (KE : Nat → Int32) (sz : Nat) (h_nq : nq ≤ 40) (h_HO : ∀ zz, HO zz ≤ 6) (hq : q < 40) : Met l ⟨"PromiseChains$Promises", "outcome", "(I)I"⟩ (mw ⟨"PromiseChains$Promises", "outcome", "(I)I"⟩ prog_4_method_6_code 2 (some .int)) ({ frames := 0, cells := 0, slots := 0, locals := 0 }) (va_Pc [.ref r0, .int (nI q)] (PB D cI cZ sz [(r0, .inr (3, [.int (nI nq), .int HA, .ref r1, .ref r2, .ref r3, .ref r4, .ref r5, .ref r6, .ref r7, .ref r8, .ref r9, .ref r10, .ref r11])), (r3, .inl (cI, 40, .inl (fun zy => nI (HO zy)))), (r4, .inl (cI, 40, .inl HE)), (r5, .inl (cI, 40, .inl KE))])) (vp_Si (fun r => True)) 0 0 (fun _ => False) := by
  refine Met.ofW (cc := prog_4_method_6_code) (maxL := 2) (ret := (some .int)) (by decide) rfl ?_
  intro p e s m args below meth c s₁ B hml hv
  obtain ⟨rfl, hsz, hP, hK, hD0, hN⟩ := hv
  have hx := B.exec
  have hb := B.bytes
  have hr := B.returns
  have hts0 := atoms_spec (ws := mw ⟨"PromiseChains$Promises", "outcome", "(I)I"⟩ prog_4_method_6_code 2 (some .int)) B.pre
  have hts : ∀ w ∈ tblG, w.before _ s = true := fun w h => hts0 w (List.mem_cons_of_mem _ h)
  have hown : s.vm.findClass "PromiseChains$Promises" = some m.cls := findClass_of_methodNamed B.named
  have hlocks := B.notSynchronized
  subst hsz
  have hD := hD0
  have hP : va_P D vwCl [(r0, .inr (3, [.int (nI nq), .int HA, .ref r1, .ref r2, .ref r3, .ref r4, .ref r5, .ref r6, .ref r7, .ref r8, .ref r9, .ref r10, .ref r11])), (r3, .inl (cI, 40, .inl (fun zy => nI (HO zy)))), (r4, .inl (cI, 40, .inl HE)), (r5, .inl (cI, 40, .inl KE))] s.heap := hP
  have hl := lv_entry ([.ref r0, .int (nI q)]) (n := 2) (Nat.le_of_ble_eq_true rfl)
  rw [lg_entry_eq]
  generalize (lg_sl ([.ref r0, .int (nI q)]) ++ List.replicate (2 - (lg_sl ([.ref r0, .int (nI q)])).length) Slot.unset).toArray = ls at hl ⊢
  have hl : lv_has ls 2 [(0, .ref r0), (1, .int (nI q))] := hl
  refine lv_aload_n hx hb d_PR_outcome_0 rfl (lv_at hl 0 rfl) ?_
  refine va_get (D := D) (ci := 3) (v := .ref r4) (C := R_PR) (T := F_PR) (N := 13) hx hb hts i_PR hown hK hP 0 rfl rfl 5 (by decide) (hts _ q_120) (fun _ h9 => h9) rfl d_PR_outcome_1 ?_
  refine lv_iload_n hx hb d_PR_outcome_4 rfl (lv_at hl 1 rfl) ?_
  refine my_ldI hx hb hK hP 2 rfl q rfl (by omega) (by decide) d_PR_outcome_5 ?_
  refine lv_if_le (tgt := 11) hx hb d_PR_outcome_6 (by decide) (fun h_1 => ?_) (fun h_1 => ?_)
  · refine lv_aload_n hx hb d_PR_outcome_11 rfl (lv_at hl 0 rfl) ?_
    refine va_get (D := D) (ci := 3) (v := .ref r5) (C := R_PR) (T := F_PR) (N := 13) hx hb hts i_PR hown hK hP 0 rfl rfl 6 (by decide) (hts _ q_122) (fun _ h9 => h9) rfl d_PR_outcome_12 ?_
    refine lv_iload_n hx hb d_PR_outcome_15 rfl (lv_at hl 1 rfl) ?_
    refine my_ldI hx hb hK hP 3 rfl q rfl (by omega) (by decide) d_PR_outcome_16 ?_
    refine lv_aload_n hx hb d_PR_outcome_17 rfl (lv_at hl 0 rfl) ?_
    refine va_get (D := D) (ci := 3) (v := .ref r3) (C := R_PR) (T := F_PR) (N := 13) hx hb hts i_PR hown hK hP 0 rfl rfl 4 (by decide) (hts _ q_118) (fun _ h9 => h9) rfl d_PR_outcome_18 ?_
    refine lv_iload_n hx hb d_PR_outcome_21 rfl (lv_at hl 1 rfl) ?_
    refine my_ldN hx hb hK hP 1 rfl q rfl (by omega) (by decide) d_PR_outcome_22 ?_
    have hb_1 : HO q ≤ 6 := h_HO _
    refine lv_icmp_ne (tgt := 28) hx hb d_PR_outcome_23 (by decide) (fun h_2 => ?_) (fun h_2 => ?_)
    · refine lv_aload_n hx hb d_PR_outcome_28 rfl (lv_at hl 0 rfl) ?_
      refine va_get (D := D) (ci := 3) (v := .ref r5) (C := R_PR) (T := F_PR) (N := 13) hx hb hts i_PR hown hK hP 0 rfl rfl 6 (by decide) (hts _ q_122) (fun _ h9 => h9) rfl d_PR_outcome_29 ?_
      refine lv_iload_n hx hb d_PR_outcome_32 rfl (lv_at hl 1 rfl) ?_
      refine my_ldI hx hb hK hP 3 rfl q rfl (by omega) (by decide) d_PR_outcome_33 ?_
      refine lv_if_ne (tgt := 41) hx hb d_PR_outcome_34 (by decide) (fun h_3 => ?_) (fun h_3 => ?_)
      · refine lv_iconst (v := 3) hx hb d_PR_outcome_41 (by decide) ?_
        exact W.iret (v := 3) hx hb hr (fun tT ht hW => ⟨3, rfl, trivial, ht⟩) (fun q h => absurd h List.not_mem_nil) d_PR_outcome_42
      · refine lv_iconst (v := 2) hx hb d_PR_outcome_37 (by decide) ?_
        refine lv_goto (tgt := 42) hx hb d_PR_outcome_38 (by decide) ?_
        exact W.iret (v := 2) hx hb hr (fun tT ht hW => ⟨2, rfl, trivial, ht⟩) (fun q h => absurd h List.not_mem_nil) d_PR_outcome_42
    · refine lv_iconst (v := 1) hx hb d_PR_outcome_26 (by decide) ?_
      exact W.iret (v := 1) hx hb hr (fun tT ht hW => ⟨1, rfl, trivial, ht⟩) (fun q h => absurd h List.not_mem_nil) d_PR_outcome_27
  · refine lv_iconst (v := 0) hx hb d_PR_outcome_9 (by decide) ?_
    exact W.iret (v := 0) hx hb hr (fun tT ht hW => ⟨0, rfl, trivial, ht⟩) (fun q h => absurd h List.not_mem_nil) d_PR_outcome_10

set_option maxHeartbeats 4000000 in
set_option maxRecDepth 100000 in
theorem g_PR_endLock (l : Launch) (D : va_G) (cI cZ : ClassId) (r0 : Nat) (q : Nat) (i : Nat) (v : Int32) (nq : Nat) (HA : Int32) (r1 : Nat) (r2 : Nat) (r3 : Nat) (r4 : Nat) (r5 : Nat) (r6 : Nat) (r7 : Nat) (r8 : Nat) (r9 : Nat) (r10 : Nat) (r11 : Nat) (HE : Nat → Int32) (LH : Nat → Int32) (sz : Nat) (h_nq : nq ≤ 40) (hq : q < 40) (hi : i < 240) : Met l ⟨"PromiseChains$Promises", "endLock", "(III)V"⟩ (mw ⟨"PromiseChains$Promises", "endLock", "(III)V"⟩ prog_4_method_12_code 4 none) ({ frames := 0, cells := 0, slots := 0, locals := 0 }) (va_Pc [.ref r0, .int (nI q), .int (nI i), .int v] (PB D cI cZ sz [(r0, .inr (3, [.int (nI nq), .int HA, .ref r1, .ref r2, .ref r3, .ref r4, .ref r5, .ref r6, .ref r7, .ref r8, .ref r9, .ref r10, .ref r11])), (r4, .inl (cI, 40, .inl HE)), (r11, .inl (cI, 240, .inl LH))])) (va_Qv (S := Int32 × (Nat → Int32) × (Nat → Int32)) (fun uU => True) (fun uU tT => BB D (va_A [(r0, .inr (3, [.int (nI nq), .int HA, .ref r1, .ref r2, .ref r3, .ref r4, .ref r5, .ref r6, .ref r7, .ref r8, .ref r9, .ref r10, .ref r11])), (r4, .inl (cI, 40, .inl HE)), (r11, .inl (cI, 240, .inl LH))] sz) [(r0, .inr (3, [.int (nI nq), .int (uU.1), .ref r1, .ref r2, .ref r3, .ref r4, .ref r5, .ref r6, .ref r7, .ref r8, .ref r9, .ref r10, .ref r11])), (r4, .inl (cI, 40, .inl (uU.2.1))), (r11, .inl (cI, 240, .inl (uU.2.2)))] tT) (va_A [(r0, .inr (3, [.int (nI nq), .int HA, .ref r1, .ref r2, .ref r3, .ref r4, .ref r5, .ref r6, .ref r7, .ref r8, .ref r9, .ref r10, .ref r11])), (r4, .inl (cI, 40, .inl HE)), (r11, .inl (cI, 240, .inl LH))] sz)) 0 0 (va_A [(r0, .inr (3, [.int (nI nq), .int HA, .ref r1, .ref r2, .ref r3, .ref r4, .ref r5, .ref r6, .ref r7, .ref r8, .ref r9, .ref r10, .ref r11])), (r4, .inl (cI, 40, .inl HE)), (r11, .inl (cI, 240, .inl LH))] sz) := by
  refine Met.ofW (cc := prog_4_method_12_code) (maxL := 4) (ret := none) (by decide) rfl ?_
  intro p e s m args below meth c s₁ B hml hv
  obtain ⟨rfl, hsz, hP, hK, hD0, hN⟩ := hv
  have hx := B.exec
  have hb := B.bytes
  have hr := B.returns
  have hts0 := atoms_spec (ws := mw ⟨"PromiseChains$Promises", "endLock", "(III)V"⟩ prog_4_method_12_code 4 none) B.pre
  have hts : ∀ w ∈ tblG, w.before _ s = true := fun w h => hts0 w (List.mem_cons_of_mem _ h)
  have hown : s.vm.findClass "PromiseChains$Promises" = some m.cls := findClass_of_methodNamed B.named
  have hlocks := B.notSynchronized
  subst hsz
  have hD := hD0.self (sz := s.heap.size)
  generalize hAe : va_A [(r0, .inr (3, [.int (nI nq), .int HA, .ref r1, .ref r2, .ref r3, .ref r4, .ref r5, .ref r6, .ref r7, .ref r8, .ref r9, .ref r10, .ref r11])), (r4, .inl (cI, 40, .inl HE)), (r11, .inl (cI, 240, .inl LH))] s.heap.size = A at hD ⊢
  have hA : ∀ q : Nat, s.heap.size ≤ q → A q := fun q h => by rw [← hAe]; exact Or.inr h
  have hS : va_S A s.heap s.heap [] := va_S.rf
  have hP : va_P D vwCl [(r0, .inr (3, [.int (nI nq), .int HA, .ref r1, .ref r2, .ref r3, .ref r4, .ref r5, .ref r6, .ref r7, .ref r8, .ref r9, .ref r10, .ref r11])), (r4, .inl (cI, 40, .inl HE)), (r11, .inl (cI, 240, .inl LH))] s.heap := hP
  have hl := lv_entry ([.ref r0, .int (nI q), .int (nI i), .int v]) (n := 4) (Nat.le_of_ble_eq_true rfl)
  rw [lg_entry_eq]
  generalize (lg_sl ([.ref r0, .int (nI q), .int (nI i), .int v]) ++ List.replicate (4 - (lg_sl ([.ref r0, .int (nI q), .int (nI i), .int v])).length) Slot.unset).toArray = ls at hl ⊢
  have hl : lv_has ls 4 [(0, .ref r0), (1, .int (nI q)), (2, .int (nI i)), (3, .int v)] := hl
  refine lv_aload_n hx hb d_PR_endLock_0 rfl (lv_at hl 0 rfl) ?_
  refine va_get (D := D) (ci := 3) (v := .ref r11) (C := R_PR) (T := F_PR) (N := 13) hx hb hts i_PR hown hK hP 0 rfl rfl 12 (by decide) (hts _ q_131) (fun _ h9 => h9) rfl d_PR_endLock_1 ?_
  refine lv_iload_n hx hb d_PR_endLock_4 rfl (lv_at hl 2 rfl) ?_
  refine lv_iload_n hx hb d_PR_endLock_5 rfl (lv_at hl 3 rfl) ?_
  refine my_stI hx hb hK hP hD hS 2 rfl i rfl (by omega) (by decide) d_PR_endLock_6 (fun H_1 locs hP hD hS => ?_)
  have hP : va_P D vwCl [(r0, .inr (3, [.int (nI nq), .int HA, .ref r1, .ref r2, .ref r3, .ref r4, .ref r5, .ref r6, .ref r7, .ref r8, .ref r9, .ref r10, .ref r11])), (r4, .inl (cI, 40, .inl HE)), (r11, .inl (cI, 240, .inl (upd LH i v)))] H_1 := hP
  have hD : va_D A [(r0, .inr (3, [.int (nI nq), .int HA, .ref r1, .ref r2, .ref r3, .ref r4, .ref r5, .ref r6, .ref r7, .ref r8, .ref r9, .ref r10, .ref r11])), (r4, .inl (cI, 40, .inl HE)), (r11, .inl (cI, 240, .inl (upd LH i v)))] := hD
  refine lv_aload_n hx hb d_PR_endLock_7 rfl (lv_at hl 0 rfl) ?_
  refine va_get (D := D) (ci := 3) (v := .ref r4) (C := R_PR) (T := F_PR) (N := 13) hx hb hts i_PR hown hK hP 0 rfl rfl 5 (by decide) (hts _ q_120) (fun _ h9 => h9) rfl d_PR_endLock_8 ?_
  refine lv_iload_n hx hb d_PR_endLock_11 rfl (lv_at hl 1 rfl) ?_
  refine lv_dup2_11 hx hb d_PR_endLock_12 rfl rfl ?_
  refine my_ldI hx hb hK hP 1 rfl q rfl (by omega) (by decide) d_PR_endLock_13 ?_
  refine lv_iconst (v := 1) hx hb d_PR_endLock_14 (by decide) ?_
  refine lv_isub hx hb d_PR_endLock_15 ?_
  refine my_stI hx hb hK hP hD hS 1 rfl q rfl (by omega) (by decide) d_PR_endLock_16 (fun H_2 locs hP hD hS => ?_)
  have hP : va_P D vwCl [(r0, .inr (3, [.int (nI nq), .int HA, .ref r1, .ref r2, .ref r3, .ref r4, .ref r5, .ref r6, .ref r7, .ref r8, .ref r9, .ref r10, .ref r11])), (r4, .inl (cI, 40, .inl (upd HE q ((HE q) - 1)))), (r11, .inl (cI, 240, .inl (upd LH i v)))] H_2 := hP
  have hD : va_D A [(r0, .inr (3, [.int (nI nq), .int HA, .ref r1, .ref r2, .ref r3, .ref r4, .ref r5, .ref r6, .ref r7, .ref r8, .ref r9, .ref r10, .ref r11])), (r4, .inl (cI, 40, .inl (upd HE q ((HE q) - 1)))), (r11, .inl (cI, 240, .inl (upd LH i v)))] := hD
  refine lv_aload_n hx hb d_PR_endLock_17 rfl (lv_at hl 0 rfl) ?_
  refine lv_dup hx hb d_PR_endLock_18 rfl ?_
  refine va_get (D := D) (ci := 3) (v := .int HA) (C := R_PR) (T := F_PR) (N := 13) hx hb hts i_PR hown hK hP 0 rfl rfl 1 (by decide) (hts _ q_112) (fun _ h9 => h9) rfl d_PR_endLock_19 ?_
  refine lv_iconst (v := 1) hx hb d_PR_endLock_22 (by decide) ?_
  refine lv_isub hx hb d_PR_endLock_23 ?_
  refine va_put (D := D) (ci := 3) (v := .int (HA - 1)) (ty := .int) (C := R_PR) (T := F_PR) (N := 13) hx hb hts i_PR t_PR t_PR_ok n_PR hown hK hP hD hS 0 rfl rfl 1 (by decide) (hts _ q_112) (fun _ h9 => h9) rfl (by decide +kernel) rfl rfl (Nat.le_of_ble_eq_true rfl) d_PR_endLock_24 (fun H_3 locs hP hD hS => ?_)
  have hP : va_P D vwCl [(r0, .inr (3, [.int (nI nq), .int (HA - 1), .ref r1, .ref r2, .ref r3, .ref r4, .ref r5, .ref r6, .ref r7, .ref r8, .ref r9, .ref r10, .ref r11])), (r4, .inl (cI, 40, .inl (upd HE q ((HE q) - 1)))), (r11, .inl (cI, 240, .inl (upd LH i v)))] H_3 := hP
  have hD : va_D A [(r0, .inr (3, [.int (nI nq), .int (HA - 1), .ref r1, .ref r2, .ref r3, .ref r4, .ref r5, .ref r6, .ref r7, .ref r8, .ref r9, .ref r10, .ref r11])), (r4, .inl (cI, 40, .inl (upd HE q ((HE q) - 1)))), (r11, .inl (cI, 240, .inl (upd LH i v)))] := hD
  have hP9 := hP.sub (ws' := [(r0, .inr (3, [.int (nI nq), .int (HA - 1), .ref r1, .ref r2, .ref r3, .ref r4, .ref r5, .ref r6, .ref r7, .ref r8, .ref r9, .ref r10, .ref r11])), (r4, .inl (cI, 40, .inl (upd HE q ((HE q) - 1)))), (r11, .inl (cI, 240, .inl (upd LH i v)))]) [0, 1, 2] rfl
  have hD9 := hD.sub (ws' := [(r0, .inr (3, [.int (nI nq), .int (HA - 1), .ref r1, .ref r2, .ref r3, .ref r4, .ref r5, .ref r6, .ref r7, .ref r8, .ref r9, .ref r10, .ref r11])), (r4, .inl (cI, 40, .inl (upd HE q ((HE q) - 1)))), (r11, .inl (cI, 240, .inl (upd LH i v)))]) [0, 1, 2] (by decide) rfl
  refine W.widen (k := 0) (n := 0) (Nat.le_of_ble_eq_true rfl) (Nat.le_of_ble_eq_true rfl) ?_
  exact W.vret hx hb hr (fun tT ht hW => ⟨⟨(HA - 1, (upd HE q ((HE q) - 1)), (upd LH i v)), rfl, trivial, by rw [ht]; exact hP9, hD9⟩, hS.F ht⟩) hS.2.2 d_PR_endLock_27

set_option maxHeartbeats 4000000 in
set_option maxRecDepth 100000 in
theorem g_PR_isWordKnown (l : Launch) (D : va_G) (cI cZ : ClassId) (r0 : Nat) (q : Nat) (i : Nat) (nq : Nat) (HA : Int32) (r1 : Nat) (r2 : Nat) (r3 : Nat) (r4 : Nat) (r5 : Nat) (r6 : Nat) (r7 : Nat) (r8 : Nat) (r9 : Nat) (r10 : Nat) (r11 : Nat) (HO : Nat → Nat) (TO : Nat → Int32) (LH : Nat → Int32) (sz : Nat) (h_nq : nq ≤ 40) (h_HO : ∀ zz, HO zz ≤ 6) (hq : q < 40) (hi : i < HO q) (hz : ∀ zz, narrow .boolean (.int (TO zz)) = .int (TO zz)) : Met l ⟨"PromiseChains$Promises", "isWordKnown", "(II)Z"⟩ (mw ⟨"PromiseChains$Promises", "isWordKnown", "(II)Z"⟩ prog_4_method_10_code 3 (some .boolean)) ({ frames := 0, cells := 0, slots := 0, locals := 0 }) (va_Pc [.ref r0, .int (nI q), .int (nI i)] (PB D cI cZ sz [(r0, .inr (3, [.int (nI nq), .int HA, .ref r1, .ref r2, .ref r3, .ref r4, .ref r5, .ref r6, .ref r7, .ref r8, .ref r9, .ref r10, .ref r11])), (r3, .inl (cI, 40, .inl (fun zy => nI (HO zy)))), (r6, .inl (cZ, 40, .inl TO)), (r11, .inl (cI, 240, .inl LH))])) (vp_Si (fun r => True)) 0 0 (fun _ => False) := by
  refine Met.ofW (cc := prog_4_method_10_code) (maxL := 3) (ret := (some .boolean)) (by decide) rfl ?_
  intro p e s m args below meth c s₁ B hml hv
  obtain ⟨rfl, hsz, hP, hK, hD0, hN⟩ := hv
  have hx := B.exec
  have hb := B.bytes
  have hr := B.returns
  have hts0 := atoms_spec (ws := mw ⟨"PromiseChains$Promises", "isWordKnown", "(II)Z"⟩ prog_4_method_10_code 3 (some .boolean)) B.pre
  have hts : ∀ w ∈ tblG, w.before _ s = true := fun w h => hts0 w (List.mem_cons_of_mem _ h)
  have hown : s.vm.findClass "PromiseChains$Promises" = some m.cls := findClass_of_methodNamed B.named
  have hlocks := B.notSynchronized
  subst hsz
  have hD := hD0
  have hP : va_P D vwCl [(r0, .inr (3, [.int (nI nq), .int HA, .ref r1, .ref r2, .ref r3, .ref r4, .ref r5, .ref r6, .ref r7, .ref r8, .ref r9, .ref r10, .ref r11])), (r3, .inl (cI, 40, .inl (fun zy => nI (HO zy)))), (r6, .inl (cZ, 40, .inl TO)), (r11, .inl (cI, 240, .inl LH))] s.heap := hP
  have hl := lv_entry ([.ref r0, .int (nI q), .int (nI i)]) (n := 3) (Nat.le_of_ble_eq_true rfl)
  rw [lg_entry_eq]
  generalize (lg_sl ([.ref r0, .int (nI q), .int (nI i)]) ++ List.replicate (3 - (lg_sl ([.ref r0, .int (nI q), .int (nI i)])).length) Slot.unset).toArray = ls at hl ⊢
  have hl : lv_has ls 3 [(0, .ref r0), (1, .int (nI q)), (2, .int (nI i))] := hl
  refine lv_iload_n hx hb d_PR_isWordKnown_0 rfl (lv_at hl 2 rfl) ?_
  refine lv_aload_n hx hb d_PR_isWordKnown_1 rfl (lv_at hl 0 rfl) ?_
  refine va_get (D := D) (ci := 3) (v := .ref r3) (C := R_PR) (T := F_PR) (N := 13) hx hb hts i_PR hown hK hP 0 rfl rfl 4 (by decide) (hts _ q_118) (fun _ h9 => h9) rfl d_PR_isWordKnown_2 ?_
  refine lv_iload_n hx hb d_PR_isWordKnown_5 rfl (lv_at hl 1 rfl) ?_
  refine my_ldN hx hb hK hP 1 rfl q rfl (by omega) (by decide) d_PR_isWordKnown_6 ?_
  have hb_1 : HO q ≤ 6 := h_HO _
  refine lv_iconst (v := 1) hx hb d_PR_isWordKnown_7 (by decide) ?_
  refine lv_isub hx hb d_PR_isWordKnown_8 ?_
  refine lv_seti (nI ((HO q) - 1)) (pk_sub (a := (HO q)) (b := 1) (by omega)) ?_
  refine lv_icmp_ne (tgt := 19) hx hb d_PR_isWordKnown_9 (by decide) (fun h_1 => ?_) (fun h_1 => ?_)
  · have nh_1 : ¬ i = ((HO q) - 1) := fun qZ => h_1 ((nI_eq (a := i) (b := ((HO q) - 1)) (by omega) (by omega)).mpr qZ)
    refine lv_aload_n hx hb d_PR_isWordKnown_19 rfl (lv_at hl 0 rfl) ?_
    refine va_get (D := D) (ci := 3) (v := .ref r11) (C := R_PR) (T := F_PR) (N := 13) hx hb hts i_PR hown hK hP 0 rfl rfl 12 (by decide) (hts _ q_131) (fun _ h9 => h9) rfl d_PR_isWordKnown_20 ?_
    refine lv_iload_n hx hb d_PR_isWordKnown_23 rfl (lv_at hl 1 rfl) ?_
    refine lv_bipush (v := 6) hx hb d_PR_isWordKnown_24 (by decide) ?_
    refine lv_imul hx hb d_PR_isWordKnown_26 ?_
    refine lv_seti (nI (q * 6)) (pk_mul q 6) ?_
    refine lv_iload_n hx hb d_PR_isWordKnown_27 rfl (lv_at hl 2 rfl) ?_
    refine lv_iadd hx hb d_PR_isWordKnown_28 ?_
    refine lv_seti (nI ((q * 6) + i)) (nI_add (q * 6) i) ?_
    refine lv_iconst (v := 1) hx hb d_PR_isWordKnown_29 (by decide) ?_
    refine lv_iadd hx hb d_PR_isWordKnown_30 ?_
    refine lv_seti (nI (((q * 6) + i) + 1)) (nI_add ((q * 6) + i) 1) ?_
    refine my_ldI hx hb hK hP 3 rfl (((q * 6) + i) + 1) rfl (by omega) (by decide) d_PR_isWordKnown_31 ?_
    refine lv_iconst (v := 1) hx hb d_PR_isWordKnown_32 (by decide) ?_
    refine lv_icmp_ne (tgt := 40) hx hb d_PR_isWordKnown_33 (by decide) (fun h_2 => ?_) (fun h_2 => ?_)
    · refine lv_iconst (v := 0) hx hb d_PR_isWordKnown_40 (by decide) ?_
      exact W.zret (v := 0) hx hb hr rfl (fun tT ht hW => ⟨0, rfl, trivial, ht⟩) (fun q h => absurd h List.not_mem_nil) d_PR_isWordKnown_41
    · refine lv_iconst (v := 1) hx hb d_PR_isWordKnown_36 (by decide) ?_
      refine lv_goto (tgt := 41) hx hb d_PR_isWordKnown_37 (by decide) ?_
      exact W.zret (v := 1) hx hb hr rfl (fun tT ht hW => ⟨1, rfl, trivial, ht⟩) (fun q h => absurd h List.not_mem_nil) d_PR_isWordKnown_41
  · have nh_1 : i = ((HO q) - 1) := (nI_eq (a := i) (b := ((HO q) - 1)) (by omega) (by omega)).mp h_1
    refine lv_aload_n hx hb d_PR_isWordKnown_12 rfl (lv_at hl 0 rfl) ?_
    refine va_get (D := D) (ci := 3) (v := .ref r6) (C := R_PR) (T := F_PR) (N := 13) hx hb hts i_PR hown hK hP 0 rfl rfl 7 (by decide) (hts _ q_124) (fun _ h9 => h9) rfl d_PR_isWordKnown_13 ?_
    refine lv_iload_n hx hb d_PR_isWordKnown_16 rfl (lv_at hl 1 rfl) ?_
    refine my_ldZ hx hb hK hP 2 rfl q rfl (by omega) (by decide) d_PR_isWordKnown_17 ?_
    exact W.zret (v := (TO q)) hx hb hr (hz _) (fun tT ht hW => ⟨(TO q), rfl, trivial, ht⟩) (fun q h => absurd h List.not_mem_nil) d_PR_isWordKnown_18

set_option maxHeartbeats 4000000 in
set_option maxRecDepth 100000 in
theorem g_PR_mayBeKept (l : Launch) (D : va_G) (cI cZ : ClassId) (r0 : Nat) (f0 : Nat) (a0 : Nat) (i : Nat) (v : Int32) (nq : Nat) (HA : Int32) (r1 : Nat) (r2 : Nat) (r3 : Nat) (r4 : Nat) (r5 : Nat) (r6 : Nat) (r7 : Nat) (r8 : Nat) (r9 : Nat) (r10 : Nat) (r11 : Nat) (LP : Nat → Nat) (LF : Nat → Nat) (LC : Nat → Int32) (LH : Nat → Int32) (np : Nat) (a1 : Nat) (a2 : Nat) (a3 : Nat) (a4 : Nat) (a5 : Nat) (a6 : Nat) (a7 : Nat) (a8 : Nat) (a9 : Nat) (a10 : Nat) (a11 : Nat) (EP : Nat → Nat) (nn : Nat) (f1 : Nat) (f2 : Nat) (f3 : Nat) (f4 : Nat) (FA : Nat → Int32) (sz : Nat) (h_nq : nq ≤ 40) (h_LP : ∀ zz, LP zz ≤ 11) (h_LF : ∀ zz, LF zz ≤ 1) (h_np : np ≤ 12) (h_EP : ∀ zz, EP zz ≤ 6) (h_nn : nn ≤ 7) (hi : i < 240) : Met l ⟨"PromiseChains$Promises", "mayBeKept", "(LPromiseChains$People;LPromiseChains$Pairs;II)Z"⟩ (mw ⟨"PromiseChains$Promises", "mayBeKept", "(LPromiseChains$People;LPromiseChains$Pairs;II)Z"⟩ prog_4_method_11_code 6 (some .boolean)) ({ frames := 0, cells := 0, slots := 0, locals := 0 }) (va_Pc [.ref r0, .ref f0, .ref a0, .int (nI i), .int v] (PB D cI cZ sz [(r0, .inr (3, [.int (nI nq), .int HA, .ref r1, .ref r2, .ref r3, .ref r4, .ref r5, .ref r6, .ref r7, .ref r8, .ref r9, .ref r10, .ref r11])), (r7, .inl (cI, 240, .inl (fun zy => nI (LP zy)))), (r8, .inl (cI, 240, .inl (fun zy => nI (LF zy)))), (r10, .inl (cI, 240, .inl LC)), (r11, .inl (cI, 240, .inl LH)), (a0, .inr (2, [.int (nI np), .ref a1, .ref a2, .ref a3, .ref a4, .ref a5, .ref a6, .ref a7, .ref a8, .ref a9, .ref a10, .ref a11])), (a1, .inl (cI, 24, .inl (fun zy => nI (EP zy)))), (f0, .inr (1, [.int (nI nn), .ref f1, .ref f2, .ref f3, .ref f4])), (f4, .inl (cZ, 7, .inl FA))])) (vp_Si (fun r => (r = 0) ∨ (r = 1))) 0 0 (fun _ => False) := by
  refine Met.ofW (cc := prog_4_method_11_code) (maxL := 6) (ret := (some .boolean)) (by decide) rfl ?_
  intro p e s m args below meth c s₁ B hml hv
  obtain ⟨rfl, hsz, hP, hK, hD0, hN⟩ := hv
  have hx := B.exec
  have hb := B.bytes
  have hr := B.returns
  have hts0 := atoms_spec (ws := mw ⟨"PromiseChains$Promises", "mayBeKept", "(LPromiseChains$People;LPromiseChains$Pairs;II)Z"⟩ prog_4_method_11_code 6 (some .boolean)) B.pre
  have hts : ∀ w ∈ tblG, w.before _ s = true := fun w h => hts0 w (List.mem_cons_of_mem _ h)
  have hown : s.vm.findClass "PromiseChains$Promises" = some m.cls := findClass_of_methodNamed B.named
  have hlocks := B.notSynchronized
  subst hsz
  have hD := hD0
  have hP : va_P D vwCl [(r0, .inr (3, [.int (nI nq), .int HA, .ref r1, .ref r2, .ref r3, .ref r4, .ref r5, .ref r6, .ref r7, .ref r8, .ref r9, .ref r10, .ref r11])), (r7, .inl (cI, 240, .inl (fun zy => nI (LP zy)))), (r8, .inl (cI, 240, .inl (fun zy => nI (LF zy)))), (r10, .inl (cI, 240, .inl LC)), (r11, .inl (cI, 240, .inl LH)), (a0, .inr (2, [.int (nI np), .ref a1, .ref a2, .ref a3, .ref a4, .ref a5, .ref a6, .ref a7, .ref a8, .ref a9, .ref a10, .ref a11])), (a1, .inl (cI, 24, .inl (fun zy => nI (EP zy)))), (f0, .inr (1, [.int (nI nn), .ref f1, .ref f2, .ref f3, .ref f4])), (f4, .inl (cZ, 7, .inl FA))] s.heap := hP
  have hl := lv_entry ([.ref r0, .ref f0, .ref a0, .int (nI i), .int v]) (n := 6) (Nat.le_of_ble_eq_true rfl)
  rw [lg_entry_eq]
  generalize (lg_sl ([.ref r0, .ref f0, .ref a0, .int (nI i), .int v]) ++ List.replicate (6 - (lg_sl ([.ref r0, .ref f0, .ref a0, .int (nI i), .int v])).length) Slot.unset).toArray = ls at hl ⊢
  have hl : lv_has ls 6 [(0, .ref r0), (1, .ref f0), (2, .ref a0), (3, .int (nI i)), (4, .int v)] := hl
  refine lv_aload_n hx hb d_PR_mayBeKept_0 rfl (lv_at hl 2 rfl) ?_
  refine va_get (D := D) (ci := 2) (v := .ref a1) (C := R_PA) (T := F_PA) (N := 12) hx hb hts i_PA hown hK hP 5 rfl rfl 1 (by decide) (hts _ q_59) (fun _ h9 => h9) rfl d_PR_mayBeKept_1 ?_
  refine lv_iconst (v := 2) hx hb d_PR_mayBeKept_4 (by decide) ?_
  refine lv_aload_n hx hb d_PR_mayBeKept_5 rfl (lv_at hl 0 rfl) ?_
  refine va_get (D := D) (ci := 3) (v := .ref r7) (C := R_PR) (T := F_PR) (N := 13) hx hb hts i_PR hown hK hP 0 rfl rfl 8 (by decide) (hts _ q_126) (fun _ h9 => h9) rfl d_PR_mayBeKept_6 ?_
  refine lv_iload_n hx hb d_PR_mayBeKept_9 rfl (lv_at hl 3 rfl) ?_
  refine my_ldN hx hb hK hP 1 rfl i rfl (by omega) (by decide) d_PR_mayBeKept_10 ?_
  have hb_1 : LP i ≤ 11 := h_LP _
  refine lv_imul hx hb d_PR_mayBeKept_11 ?_
  refine lv_seti (nI (2 * (LP i))) (pk_mul 2 (LP i)) ?_
  refine lv_iconst (v := 1) hx hb d_PR_mayBeKept_12 (by decide) ?_
  refine lv_iadd hx hb d_PR_mayBeKept_13 ?_
  refine lv_seti (nI ((2 * (LP i)) + 1)) (nI_add (2 * (LP i)) 1) ?_
  refine lv_aload_n hx hb d_PR_mayBeKept_14 rfl (lv_at hl 0 rfl) ?_
  refine va_get (D := D) (ci := 3) (v := .ref r8) (C := R_PR) (T := F_PR) (N := 13) hx hb hts i_PR hown hK hP 0 rfl rfl 9 (by decide) (hts _ q_127) (fun _ h9 => h9) rfl d_PR_mayBeKept_15 ?_
  refine lv_iload_n hx hb d_PR_mayBeKept_18 rfl (lv_at hl 3 rfl) ?_
  refine my_ldN hx hb hK hP 2 rfl i rfl (by omega) (by decide) d_PR_mayBeKept_19 ?_
  have hb_2 : LF i ≤ 1 := h_LF _
  refine lv_isub hx hb d_PR_mayBeKept_20 ?_
  refine lv_seti (nI (((2 * (LP i)) + 1) - (LF i))) (pk_sub (a := ((2 * (LP i)) + 1)) (b := (LF i)) (by omega)) ?_
  refine my_ldN hx hb hK hP 6 rfl (((2 * (LP i)) + 1) - (LF i)) rfl (by omega) (by decide) d_PR_mayBeKept_21 ?_
  have hb_3 : EP (((2 * (LP i)) + 1) - (LF i)) ≤ 6 := h_EP _
  refine lv_istore (lv' := [(5, .int (nI (EP (((2 * (LP i)) + 1) - (LF i))))), (0, .ref r0), (1, .ref f0), (2, .ref a0), (3, .int (nI i)), (4, .int v)]) hx hb d_PR_mayBeKept_22 hl (by decide) rfl (fun ls hl => ?_)
  refine lv_aload_n hx hb d_PR_mayBeKept_24 rfl (lv_at hl 1 rfl) ?_
  refine va_get (D := D) (ci := 3) (v := .ref r11) (C := R_PR) (T := F_PR) (N := 13) hx hb hts i_PR hown hK hP 0 rfl rfl 12 (by decide) (hts _ q_131) (fun _ h9 => h9) rfl d_PR_mayBeKept_25 ?_
  refine lv_iload_n hx hb d_PR_mayBeKept_28 rfl (lv_at hl 4 rfl) ?_
  refine my_ldI hx hb hK hP 4 rfl i rfl (by omega) (by decide) d_PR_mayBeKept_29 ?_
  refine lv_if_ne (tgt := 58) hx hb d_PR_mayBeKept_30 (by decide) (fun h_1 => ?_) (fun h_1 => ?_)
  · refine lv_iconst (v := 0) hx hb d_PR_mayBeKept_58 (by decide) ?_
    exact W.zret (v := 0) hx hb hr rfl (fun tT ht hW => ⟨0, rfl, (Or.inl rfl), ht⟩) (fun q h => absurd h List.not_mem_nil) d_PR_mayBeKept_59
  · refine lv_aload_n hx hb d_PR_mayBeKept_33 rfl (lv_at hl 2 rfl) ?_
    refine va_get (D := D) (ci := 1) (v := .ref f4) (C := R_PE) (T := F_PE) (N := 5) hx hb hts i_PE hown hK hP 7 rfl rfl 4 (by decide) (hts _ q_35) (fun _ h9 => h9) rfl d_PR_mayBeKept_34 ?_
    refine lv_iload hx hb d_PR_mayBeKept_37 (lv_at hl 0 rfl) ?_
    refine my_ldZ hx hb hK hP 8 rfl (EP (((2 * (LP i)) + 1) - (LF i))) rfl (by omega) (by decide) d_PR_mayBeKept_39 ?_
    refine lv_if_ne (tgt := 58) hx hb d_PR_mayBeKept_40 (by decide) (fun h_2 => ?_) (fun h_2 => ?_)
    · refine lv_iconst (v := 0) hx hb d_PR_mayBeKept_58 (by decide) ?_
      exact W.zret (v := 0) hx hb hr rfl (fun tT ht hW => ⟨0, rfl, (Or.inl rfl), ht⟩) (fun q h => absurd h List.not_mem_nil) d_PR_mayBeKept_59
    · refine lv_iload hx hb d_PR_mayBeKept_43 (lv_at hl 5 rfl) ?_
      refine lv_aload_n hx hb d_PR_mayBeKept_45 rfl (lv_at hl 1 rfl) ?_
      refine va_get (D := D) (ci := 3) (v := .ref r10) (C := R_PR) (T := F_PR) (N := 13) hx hb hts i_PR hown hK hP 0 rfl rfl 11 (by decide) (hts _ q_130) (fun _ h9 => h9) rfl d_PR_mayBeKept_46 ?_
      refine lv_iload_n hx hb d_PR_mayBeKept_49 rfl (lv_at hl 4 rfl) ?_
      refine my_ldI hx hb hK hP 3 rfl i rfl (by omega) (by decide) d_PR_mayBeKept_50 ?_
      refine lv_icmp_ge (tgt := 58) hx hb d_PR_mayBeKept_51 (by decide) (fun h_3 => ?_) (fun h_3 => ?_)
      · refine lv_iconst (v := 0) hx hb d_PR_mayBeKept_58 (by decide) ?_
        exact W.zret (v := 0) hx hb hr rfl (fun tT ht hW => ⟨0, rfl, (Or.inl rfl), ht⟩) (fun q h => absurd h List.not_mem_nil) d_PR_mayBeKept_59
      · refine lv_iconst (v := 1) hx hb d_PR_mayBeKept_54 (by decide) ?_
        refine lv_goto (tgt := 59) hx hb d_PR_mayBeKept_55 (by decide) ?_
        exact W.zret (v := 1) hx hb hr rfl (fun tT ht hW => ⟨1, rfl, (Or.inr (rfl)), ht⟩) (fun q h => absurd h List.not_mem_nil) d_PR_mayBeKept_59

set_option maxHeartbeats 4000000 in
set_option maxRecDepth 100000 in
theorem g_PR_runOut (l : Launch) (D : va_G) (cI cZ : ClassId) (r0 : Nat) (a0 : Nat) (v : Int32) (nq : Nat) (HA : Int32) (r1 : Nat) (r2 : Nat) (r3 : Nat) (r4 : Nat) (r5 : Nat) (r6 : Nat) (r7 : Nat) (r8 : Nat) (r9 : Nat) (r10 : Nat) (r11 : Nat) (HO : Nat → Nat) (HE : Nat → Int32) (LP : Nat → Nat) (LF : Nat → Nat) (LS : Nat → Int32) (LC : Nat → Int32) (LH : Nat → Int32) (np : Nat) (a1 : Nat) (a2 : Nat) (a3 : Nat) (a4 : Nat) (a5 : Nat) (a6 : Nat) (a7 : Nat) (a8 : Nat) (a9 : Nat) (a10 : Nat) (a11 : Nat) (SI : Nat → Int32) (LK : Nat → Int32) (LE : Nat → Int32) (GR : Nat → Int32) (sz : Nat) (h_nq : nq ≤ 40) (h_HO : ∀ zz, HO zz ≤ 6) (h_LP : ∀ zz, LP zz ≤ 11) (h_LF : ∀ zz, LF zz ≤ 1) (h_np : np ≤ 12) : Met l ⟨"PromiseChains$Promises", "runOut", "(LPromiseChains$Pairs;I)I"⟩ (mw ⟨"PromiseChains$Promises", "runOut", "(LPromiseChains$Pairs;I)I"⟩ prog_4_method_7_code 7 (some .int)) ({ frames := 3, cells := 0, slots := 0, locals := 69 }) (va_Pc [.ref r0, .ref a0, .int v] (PB D cI cZ sz [(r0, .inr (3, [.int (nI nq), .int HA, .ref r1, .ref r2, .ref r3, .ref r4, .ref r5, .ref r6, .ref r7, .ref r8, .ref r9, .ref r10, .ref r11])), (r3, .inl (cI, 40, .inl (fun zy => nI (HO zy)))), (r4, .inl (cI, 40, .inl HE)), (r7, .inl (cI, 240, .inl (fun zy => nI (LP zy)))), (r8, .inl (cI, 240, .inl (fun zy => nI (LF zy)))), (r9, .inl (cI, 240, .inl LS)), (r10, .inl (cI, 240, .inl LC)), (r11, .inl (cI, 240, .inl LH)), (a0, .inr (2, [.int (nI np), .ref a1, .ref a2, .ref a3, .ref a4, .ref a5, .ref a6, .ref a7, .ref a8, .ref a9, .ref a10, .ref a11])), (a2, .inl (cI, 24, .inl SI)), (a3, .inl (cI, 24, .inl LK)), (a10, .inl (cI, 12, .inl LE)), (a11, .inl (cI, 12, .inl GR))])) (va_Qi (S := Int32 × (Nat → Int32) × (Nat → Int32) × (Nat → Int32) × (Nat → Int32) × (Nat → Int32) × (Nat → Int32)) (fun (r : Int32) uU => True) (fun uU tT => BB D (va_A [(r0, .inr (3, [.int (nI nq), .int HA, .ref r1, .ref r2, .ref r3, .ref r4, .ref r5, .ref r6, .ref r7, .ref r8, .ref r9, .ref r10, .ref r11])), (r3, .inl (cI, 40, .inl (fun zy => nI (HO zy)))), (r4, .inl (cI, 40, .inl HE)), (r7, .inl (cI, 240, .inl (fun zy => nI (LP zy)))), (r8, .inl (cI, 240, .inl (fun zy => nI (LF zy)))), (r9, .inl (cI, 240, .inl LS)), (r10, .inl (cI, 240, .inl LC)), (r11, .inl (cI, 240, .inl LH)), (a0, .inr (2, [.int (nI np), .ref a1, .ref a2, .ref a3, .ref a4, .ref a5, .ref a6, .ref a7, .ref a8, .ref a9, .ref a10, .ref a11])), (a2, .inl (cI, 24, .inl SI)), (a3, .inl (cI, 24, .inl LK)), (a10, .inl (cI, 12, .inl LE)), (a11, .inl (cI, 12, .inl GR))] sz) [(r0, .inr (3, [.int (nI nq), .int (uU.1), .ref r1, .ref r2, .ref r3, .ref r4, .ref r5, .ref r6, .ref r7, .ref r8, .ref r9, .ref r10, .ref r11])), (r3, .inl (cI, 40, .inl (fun zy => nI (HO zy)))), (r4, .inl (cI, 40, .inl (uU.2.1))), (r7, .inl (cI, 240, .inl (fun zy => nI (LP zy)))), (r8, .inl (cI, 240, .inl (fun zy => nI (LF zy)))), (r9, .inl (cI, 240, .inl LS)), (r10, .inl (cI, 240, .inl LC)), (r11, .inl (cI, 240, .inl (uU.2.2.1))), (a0, .inr (2, [.int (nI np), .ref a1, .ref a2, .ref a3, .ref a4, .ref a5, .ref a6, .ref a7, .ref a8, .ref a9, .ref a10, .ref a11])), (a2, .inl (cI, 24, .inl (uU.2.2.2.1))), (a3, .inl (cI, 24, .inl (uU.2.2.2.2.1))), (a10, .inl (cI, 12, .inl (uU.2.2.2.2.2.1))), (a11, .inl (cI, 12, .inl (uU.2.2.2.2.2.2)))] tT) (va_A [(r0, .inr (3, [.int (nI nq), .int HA, .ref r1, .ref r2, .ref r3, .ref r4, .ref r5, .ref r6, .ref r7, .ref r8, .ref r9, .ref r10, .ref r11])), (r3, .inl (cI, 40, .inl (fun zy => nI (HO zy)))), (r4, .inl (cI, 40, .inl HE)), (r7, .inl (cI, 240, .inl (fun zy => nI (LP zy)))), (r8, .inl (cI, 240, .inl (fun zy => nI (LF zy)))), (r9, .inl (cI, 240, .inl LS)), (r10, .inl (cI, 240, .inl LC)), (r11, .inl (cI, 240, .inl LH)), (a0, .inr (2, [.int (nI np), .ref a1, .ref a2, .ref a3, .ref a4, .ref a5, .ref a6, .ref a7, .ref a8, .ref a9, .ref a10, .ref a11])), (a2, .inl (cI, 24, .inl SI)), (a3, .inl (cI, 24, .inl LK)), (a10, .inl (cI, 12, .inl LE)), (a11, .inl (cI, 12, .inl GR))] sz)) 0 0 (va_A [(r0, .inr (3, [.int (nI nq), .int HA, .ref r1, .ref r2, .ref r3, .ref r4, .ref r5, .ref r6, .ref r7, .ref r8, .ref r9, .ref r10, .ref r11])), (r3, .inl (cI, 40, .inl (fun zy => nI (HO zy)))), (r4, .inl (cI, 40, .inl HE)), (r7, .inl (cI, 240, .inl (fun zy => nI (LP zy)))), (r8, .inl (cI, 240, .inl (fun zy => nI (LF zy)))), (r9, .inl (cI, 240, .inl LS)), (r10, .inl (cI, 240, .inl LC)), (r11, .inl (cI, 240, .inl LH)), (a0, .inr (2, [.int (nI np), .ref a1, .ref a2, .ref a3, .ref a4, .ref a5, .ref a6, .ref a7, .ref a8, .ref a9, .ref a10, .ref a11])), (a2, .inl (cI, 24, .inl SI)), (a3, .inl (cI, 24, .inl LK)), (a10, .inl (cI, 12, .inl LE)), (a11, .inl (cI, 12, .inl GR))] sz) := by
  refine Met.ofW (cc := prog_4_method_7_code) (maxL := 7) (ret := (some .int)) (by decide) rfl ?_
  intro p e s m args below meth c s₁ B hml hv
  obtain ⟨rfl, hsz, hP, hK, hD0, hN⟩ := hv
  have hx := B.exec
  have hb := B.bytes
  have hr := B.returns
  have hts0 := atoms_spec (ws := mw ⟨"PromiseChains$Promises", "runOut", "(LPromiseChains$Pairs;I)I"⟩ prog_4_method_7_code 7 (some .int)) B.pre
  have hts : ∀ w ∈ tblG, w.before _ s = true := fun w h => hts0 w (List.mem_cons_of_mem _ h)
  have hown : s.vm.findClass "PromiseChains$Promises" = some m.cls := findClass_of_methodNamed B.named
  have hlocks := B.notSynchronized
  subst hsz
  have hD := hD0.self (sz := s.heap.size)
  generalize hAe : va_A [(r0, .inr (3, [.int (nI nq), .int HA, .ref r1, .ref r2, .ref r3, .ref r4, .ref r5, .ref r6, .ref r7, .ref r8, .ref r9, .ref r10, .ref r11])), (r3, .inl (cI, 40, .inl (fun zy => nI (HO zy)))), (r4, .inl (cI, 40, .inl HE)), (r7, .inl (cI, 240, .inl (fun zy => nI (LP zy)))), (r8, .inl (cI, 240, .inl (fun zy => nI (LF zy)))), (r9, .inl (cI, 240, .inl LS)), (r10, .inl (cI, 240, .inl LC)), (r11, .inl (cI, 240, .inl LH)), (a0, .inr (2, [.int (nI np), .ref a1, .ref a2, .ref a3, .ref a4, .ref a5, .ref a6, .ref a7, .ref a8, .ref a9, .ref a10, .ref a11])), (a2, .inl (cI, 24, .inl SI)), (a3, .inl (cI, 24, .inl LK)), (a10, .inl (cI, 12, .inl LE)), (a11, .inl (cI, 12, .inl GR))] s.heap.size = A at hD ⊢
  have hA : ∀ q : Nat, s.heap.size ≤ q → A q := fun q h => by rw [← hAe]; exact Or.inr h
  have hS : va_S A s.heap s.heap [] := va_S.rf
  have hP : va_P D vwCl [(r0, .inr (3, [.int (nI nq), .int HA, .ref r1, .ref r2, .ref r3, .ref r4, .ref r5, .ref r6, .ref r7, .ref r8, .ref r9, .ref r10, .ref r11])), (r3, .inl (cI, 40, .inl (fun zy => nI (HO zy)))), (r4, .inl (cI, 40, .inl HE)), (r7, .inl (cI, 240, .inl (fun zy => nI (LP zy)))), (r8, .inl (cI, 240, .inl (fun zy => nI (LF zy)))), (r9, .inl (cI, 240, .inl LS)), (r10, .inl (cI, 240, .inl LC)), (r11, .inl (cI, 240, .inl LH)), (a0, .inr (2, [.int (nI np), .ref a1, .ref a2, .ref a3, .ref a4, .ref a5, .ref a6, .ref a7, .ref a8, .ref a9, .ref a10, .ref a11])), (a2, .inl (cI, 24, .inl SI)), (a3, .inl (cI, 24, .inl LK)), (a10, .inl (cI, 12, .inl LE)), (a11, .inl (cI, 12, .inl GR))] s.heap := hP
  have hl := lv_entry ([.ref r0, .ref a0, .int v]) (n := 7) (Nat.le_of_ble_eq_true rfl)
  rw [lg_entry_eq]
  generalize (lg_sl ([.ref r0, .ref a0, .int v]) ++ List.replicate (7 - (lg_sl ([.ref r0, .ref a0, .int v])).length) Slot.unset).toArray = ls at hl ⊢
  have hl : lv_has ls 7 [(0, .ref r0), (1, .ref a0), (2, .int v)] := hl
  refine lv_iconst (v := 0) hx hb d_PR_runOut_0 (by decide) ?_
  refine lv_istore_n (lv' := [(3, .int 0), (0, .ref r0), (1, .ref a0), (2, .int v)]) hx hb d_PR_runOut_1 rfl hl (by decide) rfl (fun ls hl => ?_)
  refine lv_iconst (v := 0) hx hb d_PR_runOut_2 (by decide) ?_
  refine lv_istore (lv' := [(4, .int 0), (3, .int 0), (0, .ref r0), (1, .ref a0), (2, .int v)]) hx hb d_PR_runOut_3 hl (by decide) rfl (fun ls hl => ?_)
  refine W_loop (σ := Nat × Int32 × Int32 × (Nat → Int32) × (Nat → Int32) × (Nat → Int32) × (Nat → Int32) × (Nat → Int32) × (Nat → Int32)) (I := fun xX H locs ls => xX.1 ≤ nq ∧ va_P D vwCl [(r0, .inr (3, [.int (nI nq), .int xX.2.2.1, .ref r1, .ref r2, .ref r3, .ref r4, .ref r5, .ref r6, .ref r7, .ref r8, .ref r9, .ref r10, .ref r11])), (r3, .inl (cI, 40, .inl (fun zy => nI (HO zy)))), (r4, .inl (cI, 40, .inl xX.2.2.2.1)), (r7, .inl (cI, 240, .inl (fun zy => nI (LP zy)))), (r8, .inl (cI, 240, .inl (fun zy => nI (LF zy)))), (r9, .inl (cI, 240, .inl LS)), (r10, .inl (cI, 240, .inl LC)), (r11, .inl (cI, 240, .inl xX.2.2.2.2.1)), (a0, .inr (2, [.int (nI np), .ref a1, .ref a2, .ref a3, .ref a4, .ref a5, .ref a6, .ref a7, .ref a8, .ref a9, .ref a10, .ref a11])), (a2, .inl (cI, 24, .inl xX.2.2.2.2.2.1)), (a3, .inl (cI, 24, .inl xX.2.2.2.2.2.2.1)), (a10, .inl (cI, 12, .inl xX.2.2.2.2.2.2.2.1)), (a11, .inl (cI, 12, .inl xX.2.2.2.2.2.2.2.2))] H ∧ va_D A [(r0, .inr (3, [.int (nI nq), .int xX.2.2.1, .ref r1, .ref r2, .ref r3, .ref r4, .ref r5, .ref r6, .ref r7, .ref r8, .ref r9, .ref r10, .ref r11])), (r3, .inl (cI, 40, .inl (fun zy => nI (HO zy)))), (r4, .inl (cI, 40, .inl xX.2.2.2.1)), (r7, .inl (cI, 240, .inl (fun zy => nI (LP zy)))), (r8, .inl (cI, 240, .inl (fun zy => nI (LF zy)))), (r9, .inl (cI, 240, .inl LS)), (r10, .inl (cI, 240, .inl LC)), (r11, .inl (cI, 240, .inl xX.2.2.2.2.1)), (a0, .inr (2, [.int (nI np), .ref a1, .ref a2, .ref a3, .ref a4, .ref a5, .ref a6, .ref a7, .ref a8, .ref a9, .ref a10, .ref a11])), (a2, .inl (cI, 24, .inl xX.2.2.2.2.2.1)), (a3, .inl (cI, 24, .inl xX.2.2.2.2.2.2.1)), (a10, .inl (cI, 12, .inl xX.2.2.2.2.2.2.2.1)), (a11, .inl (cI, 12, .inl xX.2.2.2.2.2.2.2.2))] ∧ va_S A s.heap H locs ∧ lv_has ls 7 [(4, .int (nI xX.1)), (3, .int xX.2.1), (2, .int v), (1, .ref a0), (0, .ref r0)]) (μ := fun xX => 41 - xX.1) ?_ (0, 0, HA, HE, LH, SI, LK, LE, GR) ⟨(by first | omega | (dsimp only; omega)), hP, hD, hS, lv_sub hl [0, 1, 4, 3, 2] rfl⟩
  intro xX H_1 locs ls hI ih1
  obtain ⟨q_l, ro_v, ha_v, HE_1, LH_1, SI_1, LK_1, LE_1, GR_1⟩ := xX
  obtain ⟨hq, hP, hD, hS, hl⟩ := hI
  have hP : va_P D vwCl [(r0, .inr (3, [.int (nI nq), .int ha_v, .ref r1, .ref r2, .ref r3, .ref r4, .ref r5, .ref r6, .ref r7, .ref r8, .ref r9, .ref r10, .ref r11])), (r3, .inl (cI, 40, .inl (fun zy => nI (HO zy)))), (r4, .inl (cI, 40, .inl HE_1)), (r7, .inl (cI, 240, .inl (fun zy => nI (LP zy)))), (r8, .inl (cI, 240, .inl (fun zy => nI (LF zy)))), (r9, .inl (cI, 240, .inl LS)), (r10, .inl (cI, 240, .inl LC)), (r11, .inl (cI, 240, .inl LH_1)), (a0, .inr (2, [.int (nI np), .ref a1, .ref a2, .ref a3, .ref a4, .ref a5, .ref a6, .ref a7, .ref a8, .ref a9, .ref a10, .ref a11])), (a2, .inl (cI, 24, .inl SI_1)), (a3, .inl (cI, 24, .inl LK_1)), (a10, .inl (cI, 12, .inl LE_1)), (a11, .inl (cI, 12, .inl GR_1))] H_1 := hP
  have hD : va_D A [(r0, .inr (3, [.int (nI nq), .int ha_v, .ref r1, .ref r2, .ref r3, .ref r4, .ref r5, .ref r6, .ref r7, .ref r8, .ref r9, .ref r10, .ref r11])), (r3, .inl (cI, 40, .inl (fun zy => nI (HO zy)))), (r4, .inl (cI, 40, .inl HE_1)), (r7, .inl (cI, 240, .inl (fun zy => nI (LP zy)))), (r8, .inl (cI, 240, .inl (fun zy => nI (LF zy)))), (r9, .inl (cI, 240, .inl LS)), (r10, .inl (cI, 240, .inl LC)), (r11, .inl (cI, 240, .inl LH_1)), (a0, .inr (2, [.int (nI np), .ref a1, .ref a2, .ref a3, .ref a4, .ref a5, .ref a6, .ref a7, .ref a8, .ref a9, .ref a10, .ref a11])), (a2, .inl (cI, 24, .inl SI_1)), (a3, .inl (cI, 24, .inl LK_1)), (a10, .inl (cI, 12, .inl LE_1)), (a11, .inl (cI, 12, .inl GR_1))] := hD
  have hl : lv_has ls 7 [(4, .int (nI q_l)), (3, .int ro_v), (2, .int v), (1, .ref a0), (0, .ref r0)] := hl
  have hq : q_l ≤ nq := hq
  refine lv_iload hx hb d_PR_runOut_5 (lv_at hl 0 rfl) ?_
  refine lv_aload_n hx hb d_PR_runOut_7 rfl (lv_at hl 4 rfl) ?_
  refine va_get (D := D) (ci := 3) (v := .int (nI nq)) (C := R_PR) (T := F_PR) (N := 13) hx hb hts i_PR hown hK hP 0 rfl rfl 0 (by decide) (hts _ q_110) (fun _ h9 => h9) rfl d_PR_runOut_8 ?_
  refine lv_icmp_ge (tgt := 119) hx hb d_PR_runOut_11 (by decide) (fun h_2 => ?_) (fun h_2 => ?_)
  · have nh_2 : nq ≤ q_l := (nI_leI (a := nq) (b := q_l) (by omega) (by omega)).mp h_2
    refine lv_iload_n hx hb d_PR_runOut_119 rfl (lv_at hl 1 rfl) ?_
    have hP9 := hP.sub (ws' := [(r0, .inr (3, [.int (nI nq), .int ha_v, .ref r1, .ref r2, .ref r3, .ref r4, .ref r5, .ref r6, .ref r7, .ref r8, .ref r9, .ref r10, .ref r11])), (r3, .inl (cI, 40, .inl (fun zy => nI (HO zy)))), (r4, .inl (cI, 40, .inl HE_1)), (r7, .inl (cI, 240, .inl (fun zy => nI (LP zy)))), (r8, .inl (cI, 240, .inl (fun zy => nI (LF zy)))), (r9, .inl (cI, 240, .inl LS)), (r10, .inl (cI, 240, .inl LC)), (r11, .inl (cI, 240, .inl LH_1)), (a0, .inr (2, [.int (nI np), .ref a1, .ref a2, .ref a3, .ref a4, .ref a5, .ref a6, .ref a7, .ref a8, .ref a9, .ref a10, .ref a11])), (a2, .inl (cI, 24, .inl SI_1)), (a3, .inl (cI, 24, .inl LK_1)), (a10, .inl (cI, 12, .inl LE_1)), (a11, .inl (cI, 12, .inl GR_1))]) [0, 1, 2, 3, 4, 5, 6, 7, 8, 9, 10, 11, 12] rfl
    have hD9 := hD.sub (ws' := [(r0, .inr (3, [.int (nI nq), .int ha_v, .ref r1, .ref r2, .ref r3, .ref r4, .ref r5, .ref r6, .ref r7, .ref r8, .ref r9, .ref r10, .ref r11])), (r3, .inl (cI, 40, .inl (fun zy => nI (HO zy)))), (r4, .inl (cI, 40, .inl HE_1)), (r7, .inl (cI, 240, .inl (fun zy => nI (LP zy)))), (r8, .inl (cI, 240, .inl (fun zy => nI (LF zy)))), (r9, .inl (cI, 240, .inl LS)), (r10, .inl (cI, 240, .inl LC)), (r11, .inl (cI, 240, .inl LH_1)), (a0, .inr (2, [.int (nI np), .ref a1, .ref a2, .ref a3, .ref a4, .ref a5, .ref a6, .ref a7, .ref a8, .ref a9, .ref a10, .ref a11])), (a2, .inl (cI, 24, .inl SI_1)), (a3, .inl (cI, 24, .inl LK_1)), (a10, .inl (cI, 12, .inl LE_1)), (a11, .inl (cI, 12, .inl GR_1))]) [0, 1, 2, 3, 4, 5, 6, 7, 8, 9, 10, 11, 12] (by decide) rfl
    refine W.widen (k := 0) (n := 0) (Nat.le_of_ble_eq_true rfl) (Nat.le_of_ble_eq_true rfl) ?_
    exact W.iret (v := ro_v) hx hb hr (fun tT ht hW => ⟨⟨ro_v, (ha_v, HE_1, LH_1, SI_1, LK_1, LE_1, GR_1), rfl, trivial, by rw [ht]; exact hP9, hD9⟩, hS.F ht⟩) hS.2.2 d_PR_runOut_120
  · have nh_2 : ¬ nq ≤ q_l := fun qZ => h_2 ((nI_leI (a := nq) (b := q_l) (by omega) (by omega)).mpr qZ)
    refine lv_iconst (v := 0) hx hb d_PR_runOut_14 (by decide) ?_
    refine lv_istore (lv' := [(5, .int 0), (4, .int (nI q_l)), (3, .int ro_v), (2, .int v), (1, .ref a0), (0, .ref r0)]) hx hb d_PR_runOut_15 hl (by decide) rfl (fun ls hl => ?_)
    refine W_loop (σ := Nat × Int32 × Int32 × (Nat → Int32) × (Nat → Int32) × (Nat → Int32) × (Nat → Int32) × (Nat → Int32) × (Nat → Int32)) (I := fun xX H locs ls => xX.1 ≤ HO q_l ∧ va_P D vwCl [(r0, .inr (3, [.int (nI nq), .int xX.2.2.1, .ref r1, .ref r2, .ref r3, .ref r4, .ref r5, .ref r6, .ref r7, .ref r8, .ref r9, .ref r10, .ref r11])), (r3, .inl (cI, 40, .inl (fun zy => nI (HO zy)))), (r4, .inl (cI, 40, .inl xX.2.2.2.1)), (r7, .inl (cI, 240, .inl (fun zy => nI (LP zy)))), (r8, .inl (cI, 240, .inl (fun zy => nI (LF zy)))), (r9, .inl (cI, 240, .inl LS)), (r10, .inl (cI, 240, .inl LC)), (r11, .inl (cI, 240, .inl xX.2.2.2.2.1)), (a0, .inr (2, [.int (nI np), .ref a1, .ref a2, .ref a3, .ref a4, .ref a5, .ref a6, .ref a7, .ref a8, .ref a9, .ref a10, .ref a11])), (a2, .inl (cI, 24, .inl xX.2.2.2.2.2.1)), (a3, .inl (cI, 24, .inl xX.2.2.2.2.2.2.1)), (a10, .inl (cI, 12, .inl xX.2.2.2.2.2.2.2.1)), (a11, .inl (cI, 12, .inl xX.2.2.2.2.2.2.2.2))] H ∧ va_D A [(r0, .inr (3, [.int (nI nq), .int xX.2.2.1, .ref r1, .ref r2, .ref r3, .ref r4, .ref r5, .ref r6, .ref r7, .ref r8, .ref r9, .ref r10, .ref r11])), (r3, .inl (cI, 40, .inl (fun zy => nI (HO zy)))), (r4, .inl (cI, 40, .inl xX.2.2.2.1)), (r7, .inl (cI, 240, .inl (fun zy => nI (LP zy)))), (r8, .inl (cI, 240, .inl (fun zy => nI (LF zy)))), (r9, .inl (cI, 240, .inl LS)), (r10, .inl (cI, 240, .inl LC)), (r11, .inl (cI, 240, .inl xX.2.2.2.2.1)), (a0, .inr (2, [.int (nI np), .ref a1, .ref a2, .ref a3, .ref a4, .ref a5, .ref a6, .ref a7, .ref a8, .ref a9, .ref a10, .ref a11])), (a2, .inl (cI, 24, .inl xX.2.2.2.2.2.1)), (a3, .inl (cI, 24, .inl xX.2.2.2.2.2.2.1)), (a10, .inl (cI, 12, .inl xX.2.2.2.2.2.2.2.1)), (a11, .inl (cI, 12, .inl xX.2.2.2.2.2.2.2.2))] ∧ va_S A s.heap H locs ∧ lv_has ls 7 [(5, .int (nI xX.1)), (4, .int (nI q_l)), (3, .int xX.2.1), (2, .int v), (1, .ref a0), (0, .ref r0)]) (μ := fun xX => 7 - xX.1) ?_ (0, ro_v, ha_v, HE_1, LH_1, SI_1, LK_1, LE_1, GR_1) ⟨(by first | omega | (dsimp only; omega)), hP, hD, hS, lv_sub hl [0, 1, 2, 3, 4, 5] rfl⟩
    intro xX H_3 locs ls hI ih2
    obtain ⟨i_l, ro2_v, ha2_v, HE_2, LH_2, SI_2, LK_2, LE_2, GR_2⟩ := xX
    obtain ⟨hi, hP, hD, hS, hl⟩ := hI
    have hP : va_P D vwCl [(r0, .inr (3, [.int (nI nq), .int ha2_v, .ref r1, .ref r2, .ref r3, .ref r4, .ref r5, .ref r6, .ref r7, .ref r8, .ref r9, .ref r10, .ref r11])), (r3, .inl (cI, 40, .inl (fun zy => nI (HO zy)))), (r4, .inl (cI, 40, .inl HE_2)), (r7, .inl (cI, 240, .inl (fun zy => nI (LP zy)))), (r8, .inl (cI, 240, .inl (fun zy => nI (LF zy)))), (r9, .inl (cI, 240, .inl LS)), (r10, .inl (cI, 240, .inl LC)), (r11, .inl (cI, 240, .inl LH_2)), (a0, .inr (2, [.int (nI np), .ref a1, .ref a2, .ref a3, .ref a4, .ref a5, .ref a6, .ref a7, .ref a8, .ref a9, .ref a10, .ref a11])), (a2, .inl (cI, 24, .inl SI_2)), (a3, .inl (cI, 24, .inl LK_2)), (a10, .inl (cI, 12, .inl LE_2)), (a11, .inl (cI, 12, .inl GR_2))] H_3 := hP
    have hD : va_D A [(r0, .inr (3, [.int (nI nq), .int ha2_v, .ref r1, .ref r2, .ref r3, .ref r4, .ref r5, .ref r6, .ref r7, .ref r8, .ref r9, .ref r10, .ref r11])), (r3, .inl (cI, 40, .inl (fun zy => nI (HO zy)))), (r4, .inl (cI, 40, .inl HE_2)), (r7, .inl (cI, 240, .inl (fun zy => nI (LP zy)))), (r8, .inl (cI, 240, .inl (fun zy => nI (LF zy)))), (r9, .inl (cI, 240, .inl LS)), (r10, .inl (cI, 240, .inl LC)), (r11, .inl (cI, 240, .inl LH_2)), (a0, .inr (2, [.int (nI np), .ref a1, .ref a2, .ref a3, .ref a4, .ref a5, .ref a6, .ref a7, .ref a8, .ref a9, .ref a10, .ref a11])), (a2, .inl (cI, 24, .inl SI_2)), (a3, .inl (cI, 24, .inl LK_2)), (a10, .inl (cI, 12, .inl LE_2)), (a11, .inl (cI, 12, .inl GR_2))] := hD
    have hl : lv_has ls 7 [(5, .int (nI i_l)), (4, .int (nI q_l)), (3, .int ro2_v), (2, .int v), (1, .ref a0), (0, .ref r0)] := hl
    have hi : i_l ≤ HO q_l := hi
    refine lv_iload hx hb d_PR_runOut_17 (lv_at hl 0 rfl) ?_
    refine lv_aload_n hx hb d_PR_runOut_19 rfl (lv_at hl 5 rfl) ?_
    refine va_get (D := D) (ci := 3) (v := .ref r3) (C := R_PR) (T := F_PR) (N := 13) hx hb hts i_PR hown hK hP 0 rfl rfl 4 (by decide) (hts _ q_118) (fun _ h9 => h9) rfl d_PR_runOut_20 ?_
    refine lv_iload hx hb d_PR_runOut_23 (lv_at hl 1 rfl) ?_
    refine my_ldN hx hb hK hP 1 rfl q_l rfl (by omega) (by decide) d_PR_runOut_25 ?_
    have hb_1 : HO q_l ≤ 6 := h_HO _
    refine lv_icmp_ge (tgt := 113) hx hb d_PR_runOut_26 (by decide) (fun h_4 => ?_) (fun h_4 => ?_)
    · have nh_4 : (HO q_l) ≤ i_l := (nI_leI (a := (HO q_l)) (b := i_l) (by omega) (by omega)).mp h_4
      refine lv_iinc (v := nI (q_l + 1)) (lv' := [(4, .int (nI (q_l + 1))), (5, .int (nI i_l)), (3, .int ro2_v), (2, .int v), (1, .ref a0), (0, .ref r0)]) hx hb d_PR_runOut_113 hl (k := 1) rfl (nI_1 q_l) (by decide) rfl (fun ls hl => ?_)
      refine lv_goto (tgt := 5) hx hb d_PR_runOut_116 (by decide) ?_
      have hPz := hP.sub (ws' := [(r0, .inr (3, [.int (nI nq), .int ha2_v, .ref r1, .ref r2, .ref r3, .ref r4, .ref r5, .ref r6, .ref r7, .ref r8, .ref r9, .ref r10, .ref r11])), (r3, .inl (cI, 40, .inl (fun zy => nI (HO zy)))), (r4, .inl (cI, 40, .inl HE_2)), (r7, .inl (cI, 240, .inl (fun zy => nI (LP zy)))), (r8, .inl (cI, 240, .inl (fun zy => nI (LF zy)))), (r9, .inl (cI, 240, .inl LS)), (r10, .inl (cI, 240, .inl LC)), (r11, .inl (cI, 240, .inl LH_2)), (a0, .inr (2, [.int (nI np), .ref a1, .ref a2, .ref a3, .ref a4, .ref a5, .ref a6, .ref a7, .ref a8, .ref a9, .ref a10, .ref a11])), (a2, .inl (cI, 24, .inl SI_2)), (a3, .inl (cI, 24, .inl LK_2)), (a10, .inl (cI, 12, .inl LE_2)), (a11, .inl (cI, 12, .inl GR_2))]) [0, 1, 2, 3, 4, 5, 6, 7, 8, 9, 10, 11, 12] rfl
      have hDz := hD.sub (ws' := [(r0, .inr (3, [.int (nI nq), .int ha2_v, .ref r1, .ref r2, .ref r3, .ref r4, .ref r5, .ref r6, .ref r7, .ref r8, .ref r9, .ref r10, .ref r11])), (r3, .inl (cI, 40, .inl (fun zy => nI (HO zy)))), (r4, .inl (cI, 40, .inl HE_2)), (r7, .inl (cI, 240, .inl (fun zy => nI (LP zy)))), (r8, .inl (cI, 240, .inl (fun zy => nI (LF zy)))), (r9, .inl (cI, 240, .inl LS)), (r10, .inl (cI, 240, .inl LC)), (r11, .inl (cI, 240, .inl LH_2)), (a0, .inr (2, [.int (nI np), .ref a1, .ref a2, .ref a3, .ref a4, .ref a5, .ref a6, .ref a7, .ref a8, .ref a9, .ref a10, .ref a11])), (a2, .inl (cI, 24, .inl SI_2)), (a3, .inl (cI, 24, .inl LK_2)), (a10, .inl (cI, 12, .inl LE_2)), (a11, .inl (cI, 12, .inl GR_2))]) [0, 1, 2, 3, 4, 5, 6, 7, 8, 9, 10, 11, 12] (by decide) rfl
      exact ih1 ((q_l + 1), ro2_v, ha2_v, HE_2, LH_2, SI_2, LK_2, LE_2, GR_2) _ _ _ (by first | omega | (dsimp only; omega)) ⟨(by first | omega | (dsimp only; omega)), hPz, hDz, hS, lv_sub hl [0, 2, 3, 4, 5] rfl⟩
    · have nh_4 : ¬ (HO q_l) ≤ i_l := fun qZ => h_4 ((nI_leI (a := (HO q_l)) (b := i_l) (by omega) (by omega)).mpr qZ)
      refine lv_aload_n hx hb d_PR_runOut_29 rfl (lv_at hl 5 rfl) ?_
      refine va_get (D := D) (ci := 3) (v := .ref r4) (C := R_PR) (T := F_PR) (N := 13) hx hb hts i_PR hown hK hP 0 rfl rfl 5 (by decide) (hts _ q_120) (fun _ h9 => h9) rfl d_PR_runOut_30 ?_
      refine lv_iload hx hb d_PR_runOut_33 (lv_at hl 1 rfl) ?_
      refine my_ldI hx hb hK hP 2 rfl q_l rfl (by omega) (by decide) d_PR_runOut_35 ?_
      refine lv_if_le (tgt := 113) hx hb d_PR_runOut_36 (by decide) (fun h_5 => ?_) (fun h_5 => ?_)
      · refine lv_iinc (v := nI (q_l + 1)) (lv' := [(4, .int (nI (q_l + 1))), (5, .int (nI i_l)), (3, .int ro2_v), (2, .int v), (1, .ref a0), (0, .ref r0)]) hx hb d_PR_runOut_113 hl (k := 1) rfl (nI_1 q_l) (by decide) rfl (fun ls hl => ?_)
        refine lv_goto (tgt := 5) hx hb d_PR_runOut_116 (by decide) ?_
        have hPz := hP.sub (ws' := [(r0, .inr (3, [.int (nI nq), .int ha2_v, .ref r1, .ref r2, .ref r3, .ref r4, .ref r5, .ref r6, .ref r7, .ref r8, .ref r9, .ref r10, .ref r11])), (r3, .inl (cI, 40, .inl (fun zy => nI (HO zy)))), (r4, .inl (cI, 40, .inl HE_2)), (r7, .inl (cI, 240, .inl (fun zy => nI (LP zy)))), (r8, .inl (cI, 240, .inl (fun zy => nI (LF zy)))), (r9, .inl (cI, 240, .inl LS)), (r10, .inl (cI, 240, .inl LC)), (r11, .inl (cI, 240, .inl LH_2)), (a0, .inr (2, [.int (nI np), .ref a1, .ref a2, .ref a3, .ref a4, .ref a5, .ref a6, .ref a7, .ref a8, .ref a9, .ref a10, .ref a11])), (a2, .inl (cI, 24, .inl SI_2)), (a3, .inl (cI, 24, .inl LK_2)), (a10, .inl (cI, 12, .inl LE_2)), (a11, .inl (cI, 12, .inl GR_2))]) [0, 1, 2, 3, 4, 5, 6, 7, 8, 9, 10, 11, 12] rfl
        have hDz := hD.sub (ws' := [(r0, .inr (3, [.int (nI nq), .int ha2_v, .ref r1, .ref r2, .ref r3, .ref r4, .ref r5, .ref r6, .ref r7, .ref r8, .ref r9, .ref r10, .ref r11])), (r3, .inl (cI, 40, .inl (fun zy => nI (HO zy)))), (r4, .inl (cI, 40, .inl HE_2)), (r7, .inl (cI, 240, .inl (fun zy => nI (LP zy)))), (r8, .inl (cI, 240, .inl (fun zy => nI (LF zy)))), (r9, .inl (cI, 240, .inl LS)), (r10, .inl (cI, 240, .inl LC)), (r11, .inl (cI, 240, .inl LH_2)), (a0, .inr (2, [.int (nI np), .ref a1, .ref a2, .ref a3, .ref a4, .ref a5, .ref a6, .ref a7, .ref a8, .ref a9, .ref a10, .ref a11])), (a2, .inl (cI, 24, .inl SI_2)), (a3, .inl (cI, 24, .inl LK_2)), (a10, .inl (cI, 12, .inl LE_2)), (a11, .inl (cI, 12, .inl GR_2))]) [0, 1, 2, 3, 4, 5, 6, 7, 8, 9, 10, 11, 12] (by decide) rfl
        exact ih1 ((q_l + 1), ro2_v, ha2_v, HE_2, LH_2, SI_2, LK_2, LE_2, GR_2) _ _ _ (by first | omega | (dsimp only; omega)) ⟨(by first | omega | (dsimp only; omega)), hPz, hDz, hS, lv_sub hl [0, 2, 3, 4, 5] rfl⟩
      · refine lv_iload hx hb d_PR_runOut_39 (lv_at hl 1 rfl) ?_
        refine lv_bipush (v := 6) hx hb d_PR_runOut_41 (by decide) ?_
        refine lv_imul hx hb d_PR_runOut_43 ?_
        refine lv_seti (nI (q_l * 6)) (pk_mul q_l 6) ?_
        refine lv_iload hx hb d_PR_runOut_44 (lv_at hl 0 rfl) ?_
        refine lv_iadd hx hb d_PR_runOut_46 ?_
        refine lv_seti (nI ((q_l * 6) + i_l)) (nI_add (q_l * 6) i_l) ?_
        refine lv_istore (lv' := [(6, .int (nI ((q_l * 6) + i_l))), (5, .int (nI i_l)), (4, .int (nI q_l)), (3, .int ro2_v), (2, .int v), (1, .ref a0), (0, .ref r0)]) hx hb d_PR_runOut_47 hl (by decide) rfl (fun ls hl => ?_)
        refine lv_aload_n hx hb d_PR_runOut_49 rfl (lv_at hl 6 rfl) ?_
        refine va_get (D := D) (ci := 3) (v := .ref r11) (C := R_PR) (T := F_PR) (N := 13) hx hb hts i_PR hown hK hP 0 rfl rfl 12 (by decide) (hts _ q_131) (fun _ h9 => h9) rfl d_PR_runOut_50 ?_
        refine lv_iload hx hb d_PR_runOut_53 (lv_at hl 0 rfl) ?_
        refine my_ldI hx hb hK hP 7 rfl ((q_l * 6) + i_l) rfl (by omega) (by decide) d_PR_runOut_55 ?_
        refine lv_if_ne (tgt := 107) hx hb d_PR_runOut_56 (by decide) (fun h_6 => ?_) (fun h_6 => ?_)
        · refine lv_iinc (v := nI (i_l + 1)) (lv' := [(5, .int (nI (i_l + 1))), (6, .int (nI ((q_l * 6) + i_l))), (4, .int (nI q_l)), (3, .int ro2_v), (2, .int v), (1, .ref a0), (0, .ref r0)]) hx hb d_PR_runOut_107 hl (k := 1) rfl (nI_1 i_l) (by decide) rfl (fun ls hl => ?_)
          refine lv_goto (tgt := 17) hx hb d_PR_runOut_110 (by decide) ?_
          have hPz := hP.sub (ws' := [(r0, .inr (3, [.int (nI nq), .int ha2_v, .ref r1, .ref r2, .ref r3, .ref r4, .ref r5, .ref r6, .ref r7, .ref r8, .ref r9, .ref r10, .ref r11])), (r3, .inl (cI, 40, .inl (fun zy => nI (HO zy)))), (r4, .inl (cI, 40, .inl HE_2)), (r7, .inl (cI, 240, .inl (fun zy => nI (LP zy)))), (r8, .inl (cI, 240, .inl (fun zy => nI (LF zy)))), (r9, .inl (cI, 240, .inl LS)), (r10, .inl (cI, 240, .inl LC)), (r11, .inl (cI, 240, .inl LH_2)), (a0, .inr (2, [.int (nI np), .ref a1, .ref a2, .ref a3, .ref a4, .ref a5, .ref a6, .ref a7, .ref a8, .ref a9, .ref a10, .ref a11])), (a2, .inl (cI, 24, .inl SI_2)), (a3, .inl (cI, 24, .inl LK_2)), (a10, .inl (cI, 12, .inl LE_2)), (a11, .inl (cI, 12, .inl GR_2))]) [0, 1, 2, 3, 4, 5, 6, 7, 8, 9, 10, 11, 12] rfl
          have hDz := hD.sub (ws' := [(r0, .inr (3, [.int (nI nq), .int ha2_v, .ref r1, .ref r2, .ref r3, .ref r4, .ref r5, .ref r6, .ref r7, .ref r8, .ref r9, .ref r10, .ref r11])), (r3, .inl (cI, 40, .inl (fun zy => nI (HO zy)))), (r4, .inl (cI, 40, .inl HE_2)), (r7, .inl (cI, 240, .inl (fun zy => nI (LP zy)))), (r8, .inl (cI, 240, .inl (fun zy => nI (LF zy)))), (r9, .inl (cI, 240, .inl LS)), (r10, .inl (cI, 240, .inl LC)), (r11, .inl (cI, 240, .inl LH_2)), (a0, .inr (2, [.int (nI np), .ref a1, .ref a2, .ref a3, .ref a4, .ref a5, .ref a6, .ref a7, .ref a8, .ref a9, .ref a10, .ref a11])), (a2, .inl (cI, 24, .inl SI_2)), (a3, .inl (cI, 24, .inl LK_2)), (a10, .inl (cI, 12, .inl LE_2)), (a11, .inl (cI, 12, .inl GR_2))]) [0, 1, 2, 3, 4, 5, 6, 7, 8, 9, 10, 11, 12] (by decide) rfl
          exact ih2 ((i_l + 1), ro2_v, ha2_v, HE_2, LH_2, SI_2, LK_2, LE_2, GR_2) _ _ _ (by first | omega | (dsimp only; omega)) ⟨(by first | omega | (dsimp only; omega)), hPz, hDz, hS, lv_sub hl [0, 2, 3, 4, 5, 6] rfl⟩
        · refine lv_aload_n hx hb d_PR_runOut_59 rfl (lv_at hl 6 rfl) ?_
          refine va_get (D := D) (ci := 3) (v := .ref r10) (C := R_PR) (T := F_PR) (N := 13) hx hb hts i_PR hown hK hP 0 rfl rfl 11 (by decide) (hts _ q_130) (fun _ h9 => h9) rfl d_PR_runOut_60 ?_
          refine lv_iload hx hb d_PR_runOut_63 (lv_at hl 0 rfl) ?_
          refine my_ldI hx hb hK hP 6 rfl ((q_l * 6) + i_l) rfl (by omega) (by decide) d_PR_runOut_65 ?_
          refine lv_iload_n hx hb d_PR_runOut_66 rfl (lv_at hl 4 rfl) ?_
          refine lv_icmp_gt (tgt := 107) hx hb d_PR_runOut_67 (by decide) (fun h_7 => ?_) (fun h_7 => ?_)
          · refine lv_iinc (v := nI (i_l + 1)) (lv' := [(5, .int (nI (i_l + 1))), (6, .int (nI ((q_l * 6) + i_l))), (4, .int (nI q_l)), (3, .int ro2_v), (2, .int v), (1, .ref a0), (0, .ref r0)]) hx hb d_PR_runOut_107 hl (k := 1) rfl (nI_1 i_l) (by decide) rfl (fun ls hl => ?_)
            refine lv_goto (tgt := 17) hx hb d_PR_runOut_110 (by decide) ?_
            have hPz := hP.sub (ws' := [(r0, .inr (3, [.int (nI nq), .int ha2_v, .ref r1, .ref r2, .ref r3, .ref r4, .ref r5, .ref r6, .ref r7, .ref r8, .ref r9, .ref r10, .ref r11])), (r3, .inl (cI, 40, .inl (fun zy => nI (HO zy)))), (r4, .inl (cI, 40, .inl HE_2)), (r7, .inl (cI, 240, .inl (fun zy => nI (LP zy)))), (r8, .inl (cI, 240, .inl (fun zy => nI (LF zy)))), (r9, .inl (cI, 240, .inl LS)), (r10, .inl (cI, 240, .inl LC)), (r11, .inl (cI, 240, .inl LH_2)), (a0, .inr (2, [.int (nI np), .ref a1, .ref a2, .ref a3, .ref a4, .ref a5, .ref a6, .ref a7, .ref a8, .ref a9, .ref a10, .ref a11])), (a2, .inl (cI, 24, .inl SI_2)), (a3, .inl (cI, 24, .inl LK_2)), (a10, .inl (cI, 12, .inl LE_2)), (a11, .inl (cI, 12, .inl GR_2))]) [0, 1, 2, 3, 4, 5, 6, 7, 8, 9, 10, 11, 12] rfl
            have hDz := hD.sub (ws' := [(r0, .inr (3, [.int (nI nq), .int ha2_v, .ref r1, .ref r2, .ref r3, .ref r4, .ref r5, .ref r6, .ref r7, .ref r8, .ref r9, .ref r10, .ref r11])), (r3, .inl (cI, 40, .inl (fun zy => nI (HO zy)))), (r4, .inl (cI, 40, .inl HE_2)), (r7, .inl (cI, 240, .inl (fun zy => nI (LP zy)))), (r8, .inl (cI, 240, .inl (fun zy => nI (LF zy)))), (r9, .inl (cI, 240, .inl LS)), (r10, .inl (cI, 240, .inl LC)), (r11, .inl (cI, 240, .inl LH_2)), (a0, .inr (2, [.int (nI np), .ref a1, .ref a2, .ref a3, .ref a4, .ref a5, .ref a6, .ref a7, .ref a8, .ref a9, .ref a10, .ref a11])), (a2, .inl (cI, 24, .inl SI_2)), (a3, .inl (cI, 24, .inl LK_2)), (a10, .inl (cI, 12, .inl LE_2)), (a11, .inl (cI, 12, .inl GR_2))]) [0, 1, 2, 3, 4, 5, 6, 7, 8, 9, 10, 11, 12] (by decide) rfl
            exact ih2 ((i_l + 1), ro2_v, ha2_v, HE_2, LH_2, SI_2, LK_2, LE_2, GR_2) _ _ _ (by first | omega | (dsimp only; omega)) ⟨(by first | omega | (dsimp only; omega)), hPz, hDz, hS, lv_sub hl [0, 2, 3, 4, 5, 6] rfl⟩
          · refine lv_aload_n hx hb d_PR_runOut_70 rfl (lv_at hl 6 rfl) ?_
            refine lv_iload hx hb d_PR_runOut_71 (lv_at hl 2 rfl) ?_
            refine lv_iload hx hb d_PR_runOut_73 (lv_at hl 0 rfl) ?_
            refine lv_iconst (v := 2) hx hb d_PR_runOut_75 (by decide) ?_
            have hPc := hP.sub (ws' := [(r0, .inr (3, [.int (nI nq), .int ha2_v, .ref r1, .ref r2, .ref r3, .ref r4, .ref r5, .ref r6, .ref r7, .ref r8, .ref r9, .ref r10, .ref r11])), (r4, .inl (cI, 40, .inl HE_2)), (r11, .inl (cI, 240, .inl LH_2))]) [0, 2, 7] rfl
            have hDc := hD.sub (ws' := [(r0, .inr (3, [.int (nI nq), .int ha2_v, .ref r1, .ref r2, .ref r3, .ref r4, .ref r5, .ref r6, .ref r7, .ref r8, .ref r9, .ref r10, .ref r11])), (r4, .inl (cI, 40, .inl HE_2)), (r11, .inl (cI, 240, .inl LH_2))]) [0, 2, 7] (by decide) rfl
            have hFc := va_free (wc := [(r0, .inr (3, [.int (nI nq), .int ha2_v, .ref r1, .ref r2, .ref r3, .ref r4, .ref r5, .ref r6, .ref r7, .ref r8, .ref r9, .ref r10, .ref r11])), (r4, .inl (cI, 40, .inl HE_2)), (r11, .inl (cI, 240, .inl LH_2))]) hD hS hA [0, 2, 7] rfl
            refine va_callv (va_runV (As := [.int (nI q_l), .int (nI ((q_l * 6) + i_l)), .int 2]) (rest := []) ⟨hx, hb, hml, hown, hts⟩ (g_PR_endLock l D cI cZ r0 q_l ((q_l * 6) + i_l) 2 nq ha2_v r1 r2 r3 r4 r5 r6 r7 r8 r9 r10 r11 HE_2 LH_2 H_3.size h_nq (by first | omega | (dsimp only; omega)) (by first | omega | (dsimp only; omega))) (my_cwV 3 hts q_352 q_349 q_350 q_351 q_4 rfl rfl (by decide +kernel) ⟨Nat.le_of_ble_eq_true rfl, Nat.le_of_ble_eq_true rfl⟩) (my_preV hPc hDc hK hN 3 0 rfl rfl) rfl rfl hl.1 rfl (lv_room (Nat.le_of_ble_eq_true rfl)) d_PR_runOut_76 ⟨Nat.le_of_ble_eq_true rfl, Nat.le_of_ble_eq_true rfl⟩) hS (fun q _ h => hFc q h) hFc (fun uU tT H_9 locs ht hvm hw_8 hB hz1 hk1 hS => ?_)
            obtain ⟨HA_10, HE_11, LH_12⟩ := uU
            obtain ⟨hP1, hD1⟩ := hB
            rw [ht] at hP1
            obtain ⟨hP, hD⟩ := va_join (wr := [(r3, .inl (cI, 40, .inl (fun zy => nI (HO zy)))), (r7, .inl (cI, 240, .inl (fun zy => nI (LP zy)))), (r8, .inl (cI, 240, .inl (fun zy => nI (LF zy)))), (r9, .inl (cI, 240, .inl LS)), (r10, .inl (cI, 240, .inl LC)), (a0, .inr (2, [.int (nI np), .ref a1, .ref a2, .ref a3, .ref a4, .ref a5, .ref a6, .ref a7, .ref a8, .ref a9, .ref a10, .ref a11])), (a2, .inl (cI, 24, .inl SI_2)), (a3, .inl (cI, 24, .inl LK_2)), (a10, .inl (cI, 12, .inl LE_2)), (a11, .inl (cI, 12, .inl GR_2))]) (w1 := [(r0, .inr (3, [.int (nI nq), .int HA_10, .ref r1, .ref r2, .ref r3, .ref r4, .ref r5, .ref r6, .ref r7, .ref r8, .ref r9, .ref r10, .ref r11])), (r4, .inl (cI, 40, .inl HE_11)), (r11, .inl (cI, 240, .inl LH_12))]) hP hD [0, 2, 7] [1, 3, 4, 5, 6, 8, 9, 10, 11, 12] rfl rfl (by decide) (by decide) hk1 hFc hP1 hD1
            have hP : va_P D vwCl [(r3, .inl (cI, 40, .inl (fun zy => nI (HO zy)))), (r7, .inl (cI, 240, .inl (fun zy => nI (LP zy)))), (r8, .inl (cI, 240, .inl (fun zy => nI (LF zy)))), (r9, .inl (cI, 240, .inl LS)), (r10, .inl (cI, 240, .inl LC)), (a0, .inr (2, [.int (nI np), .ref a1, .ref a2, .ref a3, .ref a4, .ref a5, .ref a6, .ref a7, .ref a8, .ref a9, .ref a10, .ref a11])), (a2, .inl (cI, 24, .inl SI_2)), (a3, .inl (cI, 24, .inl LK_2)), (a10, .inl (cI, 12, .inl LE_2)), (a11, .inl (cI, 12, .inl GR_2)), (r0, .inr (3, [.int (nI nq), .int HA_10, .ref r1, .ref r2, .ref r3, .ref r4, .ref r5, .ref r6, .ref r7, .ref r8, .ref r9, .ref r10, .ref r11])), (r4, .inl (cI, 40, .inl HE_11)), (r11, .inl (cI, 240, .inl LH_12))] H_9 := hP
            have hD : va_D A [(r3, .inl (cI, 40, .inl (fun zy => nI (HO zy)))), (r7, .inl (cI, 240, .inl (fun zy => nI (LP zy)))), (r8, .inl (cI, 240, .inl (fun zy => nI (LF zy)))), (r9, .inl (cI, 240, .inl LS)), (r10, .inl (cI, 240, .inl LC)), (a0, .inr (2, [.int (nI np), .ref a1, .ref a2, .ref a3, .ref a4, .ref a5, .ref a6, .ref a7, .ref a8, .ref a9, .ref a10, .ref a11])), (a2, .inl (cI, 24, .inl SI_2)), (a3, .inl (cI, 24, .inl LK_2)), (a10, .inl (cI, 12, .inl LE_2)), (a11, .inl (cI, 12, .inl GR_2)), (r0, .inr (3, [.int (nI nq), .int HA_10, .ref r1, .ref r2, .ref r3, .ref r4, .ref r5, .ref r6, .ref r7, .ref r8, .ref r9, .ref r10, .ref r11])), (r4, .inl (cI, 40, .inl HE_11)), (r11, .inl (cI, 240, .inl LH_12))] := hD
            refine lv_aload_n hx hb d_PR_runOut_79 rfl (lv_at hl 5 rfl) ?_
            refine lv_aload_n hx hb d_PR_runOut_80 rfl (lv_at hl 6 rfl) ?_
            refine va_get (D := D) (ci := 3) (v := .ref r7) (C := R_PR) (T := F_PR) (N := 13) hx hb hts i_PR hown hK hP 10 rfl rfl 8 (by decide) (hts _ q_126) (fun _ h9 => h9) rfl d_PR_runOut_81 ?_
            refine lv_iload hx hb d_PR_runOut_84 (lv_at hl 0 rfl) ?_
            refine my_ldN hx hb hK hP 1 rfl ((q_l * 6) + i_l) rfl (by omega) (by decide) d_PR_runOut_86 ?_
            have hb_2 : LP ((q_l * 6) + i_l) ≤ 11 := h_LP _
            refine lv_aload_n hx hb d_PR_runOut_87 rfl (lv_at hl 6 rfl) ?_
            refine va_get (D := D) (ci := 3) (v := .ref r8) (C := R_PR) (T := F_PR) (N := 13) hx hb hts i_PR hown hK hP 10 rfl rfl 9 (by decide) (hts _ q_127) (fun _ h9 => h9) rfl d_PR_runOut_88 ?_
            refine lv_iload hx hb d_PR_runOut_91 (lv_at hl 0 rfl) ?_
            refine my_ldN hx hb hK hP 2 rfl ((q_l * 6) + i_l) rfl (by omega) (by decide) d_PR_runOut_93 ?_
            have hb_3 : LF ((q_l * 6) + i_l) ≤ 1 := h_LF _
            refine lv_aload_n hx hb d_PR_runOut_94 rfl (lv_at hl 6 rfl) ?_
            refine va_get (D := D) (ci := 3) (v := .ref r9) (C := R_PR) (T := F_PR) (N := 13) hx hb hts i_PR hown hK hP 10 rfl rfl 10 (by decide) (hts _ q_128) (fun _ h9 => h9) rfl d_PR_runOut_95 ?_
            refine lv_iload hx hb d_PR_runOut_98 (lv_at hl 0 rfl) ?_
            refine my_ldI hx hb hK hP 3 rfl ((q_l * 6) + i_l) rfl (by omega) (by decide) d_PR_runOut_100 ?_
            have hPc := hP.sub (ws' := [(a0, .inr (2, [.int (nI np), .ref a1, .ref a2, .ref a3, .ref a4, .ref a5, .ref a6, .ref a7, .ref a8, .ref a9, .ref a10, .ref a11])), (a2, .inl (cI, 24, .inl SI_2)), (a3, .inl (cI, 24, .inl LK_2)), (a10, .inl (cI, 12, .inl LE_2)), (a11, .inl (cI, 12, .inl GR_2))]) [5, 6, 7, 8, 9] rfl
            have hDc := hD.sub (ws' := [(a0, .inr (2, [.int (nI np), .ref a1, .ref a2, .ref a3, .ref a4, .ref a5, .ref a6, .ref a7, .ref a8, .ref a9, .ref a10, .ref a11])), (a2, .inl (cI, 24, .inl SI_2)), (a3, .inl (cI, 24, .inl LK_2)), (a10, .inl (cI, 12, .inl LE_2)), (a11, .inl (cI, 12, .inl GR_2))]) [5, 6, 7, 8, 9] (by decide) rfl
            have hFc := va_free (wc := [(a0, .inr (2, [.int (nI np), .ref a1, .ref a2, .ref a3, .ref a4, .ref a5, .ref a6, .ref a7, .ref a8, .ref a9, .ref a10, .ref a11])), (a2, .inl (cI, 24, .inl SI_2)), (a3, .inl (cI, 24, .inl LK_2)), (a10, .inl (cI, 12, .inl LE_2)), (a11, .inl (cI, 12, .inl GR_2))]) hD hS hA [5, 6, 7, 8, 9] rfl
            refine va_callv (va_runV (As := [.int (nI (LP ((q_l * 6) + i_l))), .int (nI (LF ((q_l * 6) + i_l))), .int (LS ((q_l * 6) + i_l))]) (rest := []) ⟨hx, hb, hml, hown, hts⟩ (g_PA_giveBack l D cI cZ a0 (LP ((q_l * 6) + i_l)) (LF ((q_l * 6) + i_l)) (LS ((q_l * 6) + i_l)) np a1 a2 a3 a4 a5 a6 a7 a8 a9 a10 a11 SI_2 LK_2 LE_2 GR_2 H_9.size h_np (by first | omega | (dsimp only; omega)) (by first | omega | (dsimp only; omega))) (my_cwV 3 hts q_470 q_467 q_468 q_469 q_3 rfl rfl (by decide +kernel) ⟨Nat.le_of_ble_eq_true rfl, Nat.le_of_ble_eq_true rfl⟩) (my_preV hPc hDc hK hN 2 0 rfl rfl) rfl rfl hl.1 rfl (lv_room (Nat.le_of_ble_eq_true rfl)) d_PR_runOut_101 ⟨Nat.le_of_ble_eq_true rfl, Nat.le_of_ble_eq_true rfl⟩) hS (fun q _ h => hFc q h) hFc (fun uU tT H_14 locs ht hvm hw_13 hB hz1 hk1 hS => ?_)
            obtain ⟨SI_15, LK_16, LE_17, GR_18⟩ := uU
            obtain ⟨hP1, hD1⟩ := hB
            rw [ht] at hP1
            obtain ⟨hP, hD⟩ := va_join (wr := [(r3, .inl (cI, 40, .inl (fun zy => nI (HO zy)))), (r7, .inl (cI, 240, .inl (fun zy => nI (LP zy)))), (r8, .inl (cI, 240, .inl (fun zy => nI (LF zy)))), (r9, .inl (cI, 240, .inl LS)), (r10, .inl (cI, 240, .inl LC)), (r0, .inr (3, [.int (nI nq), .int HA_10, .ref r1, .ref r2, .ref r3, .ref r4, .ref r5, .ref r6, .ref r7, .ref r8, .ref r9, .ref r10, .ref r11])), (r4, .inl (cI, 40, .inl HE_11)), (r11, .inl (cI, 240, .inl LH_12))]) (w1 := [(a0, .inr (2, [.int (nI np), .ref a1, .ref a2, .ref a3, .ref a4, .ref a5, .ref a6, .ref a7, .ref a8, .ref a9, .ref a10, .ref a11])), (a2, .inl (cI, 24, .inl SI_15)), (a3, .inl (cI, 24, .inl LK_16)), (a10, .inl (cI, 12, .inl LE_17)), (a11, .inl (cI, 12, .inl GR_18))]) hP hD [5, 6, 7, 8, 9] [0, 1, 2, 3, 4, 10, 11, 12] rfl rfl (by decide) (by decide) hk1 hFc hP1 hD1
            have hP : va_P D vwCl [(r3, .inl (cI, 40, .inl (fun zy => nI (HO zy)))), (r7, .inl (cI, 240, .inl (fun zy => nI (LP zy)))), (r8, .inl (cI, 240, .inl (fun zy => nI (LF zy)))), (r9, .inl (cI, 240, .inl LS)), (r10, .inl (cI, 240, .inl LC)), (r0, .inr (3, [.int (nI nq), .int HA_10, .ref r1, .ref r2, .ref r3, .ref r4, .ref r5, .ref r6, .ref r7, .ref r8, .ref r9, .ref r10, .ref r11])), (r4, .inl (cI, 40, .inl HE_11)), (r11, .inl (cI, 240, .inl LH_12)), (a0, .inr (2, [.int (nI np), .ref a1, .ref a2, .ref a3, .ref a4, .ref a5, .ref a6, .ref a7, .ref a8, .ref a9, .ref a10, .ref a11])), (a2, .inl (cI, 24, .inl SI_15)), (a3, .inl (cI, 24, .inl LK_16)), (a10, .inl (cI, 12, .inl LE_17)), (a11, .inl (cI, 12, .inl GR_18))] H_14 := hP
            have hD : va_D A [(r3, .inl (cI, 40, .inl (fun zy => nI (HO zy)))), (r7, .inl (cI, 240, .inl (fun zy => nI (LP zy)))), (r8, .inl (cI, 240, .inl (fun zy => nI (LF zy)))), (r9, .inl (cI, 240, .inl LS)), (r10, .inl (cI, 240, .inl LC)), (r0, .inr (3, [.int (nI nq), .int HA_10, .ref r1, .ref r2, .ref r3, .ref r4, .ref r5, .ref r6, .ref r7, .ref r8, .ref r9, .ref r10, .ref r11])), (r4, .inl (cI, 40, .inl HE_11)), (r11, .inl (cI, 240, .inl LH_12)), (a0, .inr (2, [.int (nI np), .ref a1, .ref a2, .ref a3, .ref a4, .ref a5, .ref a6, .ref a7, .ref a8, .ref a9, .ref a10, .ref a11])), (a2, .inl (cI, 24, .inl SI_15)), (a3, .inl (cI, 24, .inl LK_16)), (a10, .inl (cI, 12, .inl LE_17)), (a11, .inl (cI, 12, .inl GR_18))] := hD
            refine lv_iinc (v := ro2_v + 1) (lv' := [(3, .int (ro2_v + 1)), (6, .int (nI ((q_l * 6) + i_l))), (5, .int (nI i_l)), (4, .int (nI q_l)), (2, .int v), (1, .ref a0), (0, .ref r0)]) hx hb d_PR_runOut_104 hl (k := 3) rfl (rfl) (by decide) rfl (fun ls hl => ?_)
            refine lv_iinc (v := nI (i_l + 1)) (lv' := [(5, .int (nI (i_l + 1))), (3, .int (ro2_v + 1)), (6, .int (nI ((q_l * 6) + i_l))), (4, .int (nI q_l)), (2, .int v), (1, .ref a0), (0, .ref r0)]) hx hb d_PR_runOut_107 hl (k := 2) rfl (nI_1 i_l) (by decide) rfl (fun ls hl => ?_)
            refine lv_goto (tgt := 17) hx hb d_PR_runOut_110 (by decide) ?_
            have hPz := hP.sub (ws' := [(r0, .inr (3, [.int (nI nq), .int HA_10, .ref r1, .ref r2, .ref r3, .ref r4, .ref r5, .ref r6, .ref r7, .ref r8, .ref r9, .ref r10, .ref r11])), (r3, .inl (cI, 40, .inl (fun zy => nI (HO zy)))), (r4, .inl (cI, 40, .inl HE_11)), (r7, .inl (cI, 240, .inl (fun zy => nI (LP zy)))), (r8, .inl (cI, 240, .inl (fun zy => nI (LF zy)))), (r9, .inl (cI, 240, .inl LS)), (r10, .inl (cI, 240, .inl LC)), (r11, .inl (cI, 240, .inl LH_12)), (a0, .inr (2, [.int (nI np), .ref a1, .ref a2, .ref a3, .ref a4, .ref a5, .ref a6, .ref a7, .ref a8, .ref a9, .ref a10, .ref a11])), (a2, .inl (cI, 24, .inl SI_15)), (a3, .inl (cI, 24, .inl LK_16)), (a10, .inl (cI, 12, .inl LE_17)), (a11, .inl (cI, 12, .inl GR_18))]) [5, 0, 6, 1, 2, 3, 4, 7, 8, 9, 10, 11, 12] rfl
            have hDz := hD.sub (ws' := [(r0, .inr (3, [.int (nI nq), .int HA_10, .ref r1, .ref r2, .ref r3, .ref r4, .ref r5, .ref r6, .ref r7, .ref r8, .ref r9, .ref r10, .ref r11])), (r3, .inl (cI, 40, .inl (fun zy => nI (HO zy)))), (r4, .inl (cI, 40, .inl HE_11)), (r7, .inl (cI, 240, .inl (fun zy => nI (LP zy)))), (r8, .inl (cI, 240, .inl (fun zy => nI (LF zy)))), (r9, .inl (cI, 240, .inl LS)), (r10, .inl (cI, 240, .inl LC)), (r11, .inl (cI, 240, .inl LH_12)), (a0, .inr (2, [.int (nI np), .ref a1, .ref a2, .ref a3, .ref a4, .ref a5, .ref a6, .ref a7, .ref a8, .ref a9, .ref a10, .ref a11])), (a2, .inl (cI, 24, .inl SI_15)), (a3, .inl (cI, 24, .inl LK_16)), (a10, .inl (cI, 12, .inl LE_17)), (a11, .inl (cI, 12, .inl GR_18))]) [5, 0, 6, 1, 2, 3, 4, 7, 8, 9, 10, 11, 12] (by decide) rfl
            exact ih2 ((i_l + 1), ro2_v + 1, HA_10, HE_11, LH_12, SI_15, LK_16, LE_17, GR_18) _ _ _ (by first | omega | (dsimp only; omega)) ⟨(by first | omega | (dsimp only; omega)), hPz, hDz, hS, lv_sub hl [0, 3, 1, 4, 5, 6] rfl⟩

set_option maxHeartbeats 4000000 in
set_option maxRecDepth 100000 in
theorem g_PR_keepRound (l : Launch) (D : va_G) (cI cZ : ClassId) (r0 : Nat) (f0 : Nat) (a0 : Nat) (v : Int32) (nq : Nat) (HA : Int32) (r1 : Nat) (r2 : Nat) (r3 : Nat) (r4 : Nat) (r5 : Nat) (r6 : Nat) (r7 : Nat) (r8 : Nat) (r9 : Nat) (r10 : Nat) (r11 : Nat) (HO : Nat → Nat) (HE : Nat → Int32) (KE : Nat → Int32) (TO : Nat → Int32) (LP : Nat → Nat) (LF : Nat → Nat) (LS : Nat → Int32) (LC : Nat → Int32) (LH : Nat → Int32) (np : Nat) (a1 : Nat) (a2 : Nat) (a3 : Nat) (a4 : Nat) (a5 : Nat) (a6 : Nat) (a7 : Nat) (a8 : Nat) (a9 : Nat) (a10 : Nat) (a11 : Nat) (EP : Nat → Nat) (SI : Nat → Int32) (LK : Nat → Int32) (SS : Nat → Int32) (ST : Nat → Nat) (LE : Nat → Int32) (GR : Nat → Int32) (nn : Nat) (f1 : Nat) (f2 : Nat) (f3 : Nat) (f4 : Nat) (FA : Nat → Int32) (sz : Nat) (h_nq : nq ≤ 40) (h_HO : ∀ zz, HO zz ≤ 6) (h_LP : ∀ zz, LP zz ≤ 11) (h_LF : ∀ zz, LF zz ≤ 1) (h_np : np ≤ 12) (h_EP : ∀ zz, EP zz ≤ 6) (h_ST : ∀ zz, ST zz ≤ 64) (h_nn : nn ≤ 7) (hz : ∀ zz, narrow .boolean (.int (TO zz)) = .int (TO zz)) : Met l ⟨"PromiseChains$Promises", "keepRound", "(LPromiseChains$People;LPromiseChains$Pairs;I)I"⟩ (mw ⟨"PromiseChains$Promises", "keepRound", "(LPromiseChains$People;LPromiseChains$Pairs;I)I"⟩ prog_4_method_9_code 8 (some .int)) ({ frames := 3, cells := 0, slots := 0, locals := 69 }) (va_Pc [.ref r0, .ref f0, .ref a0, .int v] (PB D cI cZ sz [(r0, .inr (3, [.int (nI nq), .int HA, .ref r1, .ref r2, .ref r3, .ref r4, .ref r5, .ref r6, .ref r7, .ref r8, .ref r9, .ref r10, .ref r11])), (r3, .inl (cI, 40, .inl (fun zy => nI (HO zy)))), (r4, .inl (cI, 40, .inl HE)), (r5, .inl (cI, 40, .inl KE)), (r6, .inl (cZ, 40, .inl TO)), (r7, .inl (cI, 240, .inl (fun zy => nI (LP zy)))), (r8, .inl (cI, 240, .inl (fun zy => nI (LF zy)))), (r9, .inl (cI, 240, .inl LS)), (r10, .inl (cI, 240, .inl LC)), (r11, .inl (cI, 240, .inl LH)), (a0, .inr (2, [.int (nI np), .ref a1, .ref a2, .ref a3, .ref a4, .ref a5, .ref a6, .ref a7, .ref a8, .ref a9, .ref a10, .ref a11])), (a1, .inl (cI, 24, .inl (fun zy => nI (EP zy)))), (a2, .inl (cI, 24, .inl SI)), (a3, .inl (cI, 24, .inl LK)), (a4, .inl (cI, 1536, .inl SS)), (a5, .inl (cI, 12, .inl (fun zy => nI (ST zy)))), (a10, .inl (cI, 12, .inl LE)), (a11, .inl (cI, 12, .inl GR)), (f0, .inr (1, [.int (nI nn), .ref f1, .ref f2, .ref f3, .ref f4])), (f4, .inl (cZ, 7, .inl FA))])) (va_Qi (S := Int32 × (Nat → Int32) × (Nat → Int32) × (Nat → Int32) × (Nat → Int32) × (Nat → Int32) × (Nat → Int32) × (Nat → Nat) × (Nat → Int32) × (Nat → Int32)) (fun (r : Int32) uU => (∀ zz, uU.2.2.2.2.2.2.2.1 zz ≤ 64) ∧ (∀ qq, 1 ≤ ST qq → 1 ≤ uU.2.2.2.2.2.2.2.1 qq)) (fun uU tT => BB D (va_A [(r0, .inr (3, [.int (nI nq), .int HA, .ref r1, .ref r2, .ref r3, .ref r4, .ref r5, .ref r6, .ref r7, .ref r8, .ref r9, .ref r10, .ref r11])), (r3, .inl (cI, 40, .inl (fun zy => nI (HO zy)))), (r4, .inl (cI, 40, .inl HE)), (r5, .inl (cI, 40, .inl KE)), (r6, .inl (cZ, 40, .inl TO)), (r7, .inl (cI, 240, .inl (fun zy => nI (LP zy)))), (r8, .inl (cI, 240, .inl (fun zy => nI (LF zy)))), (r9, .inl (cI, 240, .inl LS)), (r10, .inl (cI, 240, .inl LC)), (r11, .inl (cI, 240, .inl LH)), (a0, .inr (2, [.int (nI np), .ref a1, .ref a2, .ref a3, .ref a4, .ref a5, .ref a6, .ref a7, .ref a8, .ref a9, .ref a10, .ref a11])), (a1, .inl (cI, 24, .inl (fun zy => nI (EP zy)))), (a2, .inl (cI, 24, .inl SI)), (a3, .inl (cI, 24, .inl LK)), (a4, .inl (cI, 1536, .inl SS)), (a5, .inl (cI, 12, .inl (fun zy => nI (ST zy)))), (a10, .inl (cI, 12, .inl LE)), (a11, .inl (cI, 12, .inl GR)), (f0, .inr (1, [.int (nI nn), .ref f1, .ref f2, .ref f3, .ref f4])), (f4, .inl (cZ, 7, .inl FA))] sz) [(r0, .inr (3, [.int (nI nq), .int (uU.1), .ref r1, .ref r2, .ref r3, .ref r4, .ref r5, .ref r6, .ref r7, .ref r8, .ref r9, .ref r10, .ref r11])), (r3, .inl (cI, 40, .inl (fun zy => nI (HO zy)))), (r4, .inl (cI, 40, .inl (uU.2.1))), (r5, .inl (cI, 40, .inl (uU.2.2.1))), (r6, .inl (cZ, 40, .inl TO)), (r7, .inl (cI, 240, .inl (fun zy => nI (LP zy)))), (r8, .inl (cI, 240, .inl (fun zy => nI (LF zy)))), (r9, .inl (cI, 240, .inl LS)), (r10, .inl (cI, 240, .inl LC)), (r11, .inl (cI, 240, .inl (uU.2.2.2.1))), (a0, .inr (2, [.int (nI np), .ref a1, .ref a2, .ref a3, .ref a4, .ref a5, .ref a6, .ref a7, .ref a8, .ref a9, .ref a10, .ref a11])), (a1, .inl (cI, 24, .inl (fun zy => nI (EP zy)))), (a2, .inl (cI, 24, .inl (uU.2.2.2.2.1))), (a3, .inl (cI, 24, .inl (uU.2.2.2.2.2.1))), (a4, .inl (cI, 1536, .inl (uU.2.2.2.2.2.2.1))), (a5, .inl (cI, 12, .inl (fun zy => nI ((uU.2.2.2.2.2.2.2.1) zy)))), (a10, .inl (cI, 12, .inl (uU.2.2.2.2.2.2.2.2.1))), (a11, .inl (cI, 12, .inl (uU.2.2.2.2.2.2.2.2.2))), (f0, .inr (1, [.int (nI nn), .ref f1, .ref f2, .ref f3, .ref f4])), (f4, .inl (cZ, 7, .inl FA))] tT) (va_A [(r0, .inr (3, [.int (nI nq), .int HA, .ref r1, .ref r2, .ref r3, .ref r4, .ref r5, .ref r6, .ref r7, .ref r8, .ref r9, .ref r10, .ref r11])), (r3, .inl (cI, 40, .inl (fun zy => nI (HO zy)))), (r4, .inl (cI, 40, .inl HE)), (r5, .inl (cI, 40, .inl KE)), (r6, .inl (cZ, 40, .inl TO)), (r7, .inl (cI, 240, .inl (fun zy => nI (LP zy)))), (r8, .inl (cI, 240, .inl (fun zy => nI (LF zy)))), (r9, .inl (cI, 240, .inl LS)), (r10, .inl (cI, 240, .inl LC)), (r11, .inl (cI, 240, .inl LH)), (a0, .inr (2, [.int (nI np), .ref a1, .ref a2, .ref a3, .ref a4, .ref a5, .ref a6, .ref a7, .ref a8, .ref a9, .ref a10, .ref a11])), (a1, .inl (cI, 24, .inl (fun zy => nI (EP zy)))), (a2, .inl (cI, 24, .inl SI)), (a3, .inl (cI, 24, .inl LK)), (a4, .inl (cI, 1536, .inl SS)), (a5, .inl (cI, 12, .inl (fun zy => nI (ST zy)))), (a10, .inl (cI, 12, .inl LE)), (a11, .inl (cI, 12, .inl GR)), (f0, .inr (1, [.int (nI nn), .ref f1, .ref f2, .ref f3, .ref f4])), (f4, .inl (cZ, 7, .inl FA))] sz)) 0 0 (va_A [(r0, .inr (3, [.int (nI nq), .int HA, .ref r1, .ref r2, .ref r3, .ref r4, .ref r5, .ref r6, .ref r7, .ref r8, .ref r9, .ref r10, .ref r11])), (r3, .inl (cI, 40, .inl (fun zy => nI (HO zy)))), (r4, .inl (cI, 40, .inl HE)), (r5, .inl (cI, 40, .inl KE)), (r6, .inl (cZ, 40, .inl TO)), (r7, .inl (cI, 240, .inl (fun zy => nI (LP zy)))), (r8, .inl (cI, 240, .inl (fun zy => nI (LF zy)))), (r9, .inl (cI, 240, .inl LS)), (r10, .inl (cI, 240, .inl LC)), (r11, .inl (cI, 240, .inl LH)), (a0, .inr (2, [.int (nI np), .ref a1, .ref a2, .ref a3, .ref a4, .ref a5, .ref a6, .ref a7, .ref a8, .ref a9, .ref a10, .ref a11])), (a1, .inl (cI, 24, .inl (fun zy => nI (EP zy)))), (a2, .inl (cI, 24, .inl SI)), (a3, .inl (cI, 24, .inl LK)), (a4, .inl (cI, 1536, .inl SS)), (a5, .inl (cI, 12, .inl (fun zy => nI (ST zy)))), (a10, .inl (cI, 12, .inl LE)), (a11, .inl (cI, 12, .inl GR)), (f0, .inr (1, [.int (nI nn), .ref f1, .ref f2, .ref f3, .ref f4])), (f4, .inl (cZ, 7, .inl FA))] sz) := by
  refine Met.ofW (cc := prog_4_method_9_code) (maxL := 8) (ret := (some .int)) (by decide) rfl ?_
  intro p e s m args below meth c s₁ B hml hv
  obtain ⟨rfl, hsz, hP, hK, hD0, hN⟩ := hv
  have hx := B.exec
  have hb := B.bytes
  have hr := B.returns
  have hts0 := atoms_spec (ws := mw ⟨"PromiseChains$Promises", "keepRound", "(LPromiseChains$People;LPromiseChains$Pairs;I)I"⟩ prog_4_method_9_code 8 (some .int)) B.pre
  have hts : ∀ w ∈ tblG, w.before _ s = true := fun w h => hts0 w (List.mem_cons_of_mem _ h)
  have hown : s.vm.findClass "PromiseChains$Promises" = some m.cls := findClass_of_methodNamed B.named
  have hlocks := B.notSynchronized
  subst hsz
  have hD := hD0.self (sz := s.heap.size)
  generalize hAe : va_A [(r0, .inr (3, [.int (nI nq), .int HA, .ref r1, .ref r2, .ref r3, .ref r4, .ref r5, .ref r6, .ref r7, .ref r8, .ref r9, .ref r10, .ref r11])), (r3, .inl (cI, 40, .inl (fun zy => nI (HO zy)))), (r4, .inl (cI, 40, .inl HE)), (r5, .inl (cI, 40, .inl KE)), (r6, .inl (cZ, 40, .inl TO)), (r7, .inl (cI, 240, .inl (fun zy => nI (LP zy)))), (r8, .inl (cI, 240, .inl (fun zy => nI (LF zy)))), (r9, .inl (cI, 240, .inl LS)), (r10, .inl (cI, 240, .inl LC)), (r11, .inl (cI, 240, .inl LH)), (a0, .inr (2, [.int (nI np), .ref a1, .ref a2, .ref a3, .ref a4, .ref a5, .ref a6, .ref a7, .ref a8, .ref a9, .ref a10, .ref a11])), (a1, .inl (cI, 24, .inl (fun zy => nI (EP zy)))), (a2, .inl (cI, 24, .inl SI)), (a3, .inl (cI, 24, .inl LK)), (a4, .inl (cI, 1536, .inl SS)), (a5, .inl (cI, 12, .inl (fun zy => nI (ST zy)))), (a10, .inl (cI, 12, .inl LE)), (a11, .inl (cI, 12, .inl GR)), (f0, .inr (1, [.int (nI nn), .ref f1, .ref f2, .ref f3, .ref f4])), (f4, .inl (cZ, 7, .inl FA))] s.heap.size = A at hD ⊢
  have hA : ∀ q : Nat, s.heap.size ≤ q → A q := fun q h => by rw [← hAe]; exact Or.inr h
  have hS : va_S A s.heap s.heap [] := va_S.rf
  have hP : va_P D vwCl [(r0, .inr (3, [.int (nI nq), .int HA, .ref r1, .ref r2, .ref r3, .ref r4, .ref r5, .ref r6, .ref r7, .ref r8, .ref r9, .ref r10, .ref r11])), (r3, .inl (cI, 40, .inl (fun zy => nI (HO zy)))), (r4, .inl (cI, 40, .inl HE)), (r5, .inl (cI, 40, .inl KE)), (r6, .inl (cZ, 40, .inl TO)), (r7, .inl (cI, 240, .inl (fun zy => nI (LP zy)))), (r8, .inl (cI, 240, .inl (fun zy => nI (LF zy)))), (r9, .inl (cI, 240, .inl LS)), (r10, .inl (cI, 240, .inl LC)), (r11, .inl (cI, 240, .inl LH)), (a0, .inr (2, [.int (nI np), .ref a1, .ref a2, .ref a3, .ref a4, .ref a5, .ref a6, .ref a7, .ref a8, .ref a9, .ref a10, .ref a11])), (a1, .inl (cI, 24, .inl (fun zy => nI (EP zy)))), (a2, .inl (cI, 24, .inl SI)), (a3, .inl (cI, 24, .inl LK)), (a4, .inl (cI, 1536, .inl SS)), (a5, .inl (cI, 12, .inl (fun zy => nI (ST zy)))), (a10, .inl (cI, 12, .inl LE)), (a11, .inl (cI, 12, .inl GR)), (f0, .inr (1, [.int (nI nn), .ref f1, .ref f2, .ref f3, .ref f4])), (f4, .inl (cZ, 7, .inl FA))] s.heap := hP
  have hl := lv_entry ([.ref r0, .ref f0, .ref a0, .int v]) (n := 8) (Nat.le_of_ble_eq_true rfl)
  rw [lg_entry_eq]
  generalize (lg_sl ([.ref r0, .ref f0, .ref a0, .int v]) ++ List.replicate (8 - (lg_sl ([.ref r0, .ref f0, .ref a0, .int v])).length) Slot.unset).toArray = ls at hl ⊢
  have hl : lv_has ls 8 [(0, .ref r0), (1, .ref f0), (2, .ref a0), (3, .int v)] := hl
  refine lv_iconst (v := 0) hx hb d_PR_keepRound_0 (by decide) ?_
  refine lv_istore (lv' := [(4, .int 0), (0, .ref r0), (1, .ref f0), (2, .ref a0), (3, .int v)]) hx hb d_PR_keepRound_1 hl (by decide) rfl (fun ls hl => ?_)
  refine lv_iconst (v := 0) hx hb d_PR_keepRound_3 (by decide) ?_
  refine lv_istore (lv' := [(5, .int 0), (4, .int 0), (0, .ref r0), (1, .ref f0), (2, .ref a0), (3, .int v)]) hx hb d_PR_keepRound_4 hl (by decide) rfl (fun ls hl => ?_)
  refine W_loop (σ := Nat × Int32 × Int32 × (Nat → Int32) × (Nat → Int32) × (Nat → Int32) × (Nat → Int32) × (Nat → Int32) × (Nat → Int32) × (Nat → Nat) × (Nat → Int32) × (Nat → Int32)) (I := fun xX H locs ls => (∀ zz, xX.2.2.2.2.2.2.2.2.2.1 zz ≤ 64) ∧ xX.1 ≤ nq ∧ (∀ qq, 1 ≤ ST qq → 1 ≤ xX.2.2.2.2.2.2.2.2.2.1 qq) ∧ va_P D vwCl [(r0, .inr (3, [.int (nI nq), .int xX.2.2.1, .ref r1, .ref r2, .ref r3, .ref r4, .ref r5, .ref r6, .ref r7, .ref r8, .ref r9, .ref r10, .ref r11])), (r3, .inl (cI, 40, .inl (fun zy => nI (HO zy)))), (r4, .inl (cI, 40, .inl xX.2.2.2.1)), (r5, .inl (cI, 40, .inl xX.2.2.2.2.1)), (r6, .inl (cZ, 40, .inl TO)), (r7, .inl (cI, 240, .inl (fun zy => nI (LP zy)))), (r8, .inl (cI, 240, .inl (fun zy => nI (LF zy)))), (r9, .inl (cI, 240, .inl LS)), (r10, .inl (cI, 240, .inl LC)), (r11, .inl (cI, 240, .inl xX.2.2.2.2.2.1)), (a0, .inr (2, [.int (nI np), .ref a1, .ref a2, .ref a3, .ref a4, .ref a5, .ref a6, .ref a7, .ref a8, .ref a9, .ref a10, .ref a11])), (a1, .inl (cI, 24, .inl (fun zy => nI (EP zy)))), (a2, .inl (cI, 24, .inl xX.2.2.2.2.2.2.1)), (a3, .inl (cI, 24, .inl xX.2.2.2.2.2.2.2.1)), (a4, .inl (cI, 1536, .inl xX.2.2.2.2.2.2.2.2.1)), (a5, .inl (cI, 12, .inl (fun zy => nI (xX.2.2.2.2.2.2.2.2.2.1 zy)))), (a10, .inl (cI, 12, .inl xX.2.2.2.2.2.2.2.2.2.2.1)), (a11, .inl (cI, 12, .inl xX.2.2.2.2.2.2.2.2.2.2.2)), (f0, .inr (1, [.int (nI nn), .ref f1, .ref f2, .ref f3, .ref f4])), (f4, .inl (cZ, 7, .inl FA))] H ∧ va_D A [(r0, .inr (3, [.int (nI nq), .int xX.2.2.1, .ref r1, .ref r2, .ref r3, .ref r4, .ref r5, .ref r6, .ref r7, .ref r8, .ref r9, .ref r10, .ref r11])), (r3, .inl (cI, 40, .inl (fun zy => nI (HO zy)))), (r4, .inl (cI, 40, .inl xX.2.2.2.1)), (r5, .inl (cI, 40, .inl xX.2.2.2.2.1)), (r6, .inl (cZ, 40, .inl TO)), (r7, .inl (cI, 240, .inl (fun zy => nI (LP zy)))), (r8, .inl (cI, 240, .inl (fun zy => nI (LF zy)))), (r9, .inl (cI, 240, .inl LS)), (r10, .inl (cI, 240, .inl LC)), (r11, .inl (cI, 240, .inl xX.2.2.2.2.2.1)), (a0, .inr (2, [.int (nI np), .ref a1, .ref a2, .ref a3, .ref a4, .ref a5, .ref a6, .ref a7, .ref a8, .ref a9, .ref a10, .ref a11])), (a1, .inl (cI, 24, .inl (fun zy => nI (EP zy)))), (a2, .inl (cI, 24, .inl xX.2.2.2.2.2.2.1)), (a3, .inl (cI, 24, .inl xX.2.2.2.2.2.2.2.1)), (a4, .inl (cI, 1536, .inl xX.2.2.2.2.2.2.2.2.1)), (a5, .inl (cI, 12, .inl (fun zy => nI (xX.2.2.2.2.2.2.2.2.2.1 zy)))), (a10, .inl (cI, 12, .inl xX.2.2.2.2.2.2.2.2.2.2.1)), (a11, .inl (cI, 12, .inl xX.2.2.2.2.2.2.2.2.2.2.2)), (f0, .inr (1, [.int (nI nn), .ref f1, .ref f2, .ref f3, .ref f4])), (f4, .inl (cZ, 7, .inl FA))] ∧ va_S A s.heap H locs ∧ lv_has ls 8 [(5, .int (nI xX.1)), (4, .int xX.2.1), (3, .int v), (2, .ref a0), (1, .ref f0), (0, .ref r0)]) (μ := fun xX => 41 - xX.1) ?_ (0, 0, HA, HE, KE, LH, SI, LK, SS, ST, LE, GR) ⟨h_ST, (by first | omega | (dsimp only; omega)), (fun _ h => h), hP, hD, hS, lv_sub hl [0, 1, 5, 4, 3, 2] rfl⟩
  intro xX H_1 locs ls hI ih1
  obtain ⟨q_l, sm_v, ha_v, HE_1, KE_1, LH_1, SI_1, LK_1, SS_1, ST_1, LE_1, GR_1⟩ := xX
  obtain ⟨h_ST_1, hq, hs, hP, hD, hS, hl⟩ := hI
  have hP : va_P D vwCl [(r0, .inr (3, [.int (nI nq), .int ha_v, .ref r1, .ref r2, .ref r3, .ref r4, .ref r5, .ref r6, .ref r7, .ref r8, .ref r9, .ref r10, .ref r11])), (r3, .inl (cI, 40, .inl (fun zy => nI (HO zy)))), (r4, .inl (cI, 40, .inl HE_1)), (r5, .inl (cI, 40, .inl KE_1)), (r6, .inl (cZ, 40, .inl TO)), (r7, .inl (cI, 240, .inl (fun zy => nI (LP zy)))), (r8, .inl (cI, 240, .inl (fun zy => nI (LF zy)))), (r9, .inl (cI, 240, .inl LS)), (r10, .inl (cI, 240, .inl LC)), (r11, .inl (cI, 240, .inl LH_1)), (a0, .inr (2, [.int (nI np), .ref a1, .ref a2, .ref a3, .ref a4, .ref a5, .ref a6, .ref a7, .ref a8, .ref a9, .ref a10, .ref a11])), (a1, .inl (cI, 24, .inl (fun zy => nI (EP zy)))), (a2, .inl (cI, 24, .inl SI_1)), (a3, .inl (cI, 24, .inl LK_1)), (a4, .inl (cI, 1536, .inl SS_1)), (a5, .inl (cI, 12, .inl (fun zy => nI (ST_1 zy)))), (a10, .inl (cI, 12, .inl LE_1)), (a11, .inl (cI, 12, .inl GR_1)), (f0, .inr (1, [.int (nI nn), .ref f1, .ref f2, .ref f3, .ref f4])), (f4, .inl (cZ, 7, .inl FA))] H_1 := hP
  have hD : va_D A [(r0, .inr (3, [.int (nI nq), .int ha_v, .ref r1, .ref r2, .ref r3, .ref r4, .ref r5, .ref r6, .ref r7, .ref r8, .ref r9, .ref r10, .ref r11])), (r3, .inl (cI, 40, .inl (fun zy => nI (HO zy)))), (r4, .inl (cI, 40, .inl HE_1)), (r5, .inl (cI, 40, .inl KE_1)), (r6, .inl (cZ, 40, .inl TO)), (r7, .inl (cI, 240, .inl (fun zy => nI (LP zy)))), (r8, .inl (cI, 240, .inl (fun zy => nI (LF zy)))), (r9, .inl (cI, 240, .inl LS)), (r10, .inl (cI, 240, .inl LC)), (r11, .inl (cI, 240, .inl LH_1)), (a0, .inr (2, [.int (nI np), .ref a1, .ref a2, .ref a3, .ref a4, .ref a5, .ref a6, .ref a7, .ref a8, .ref a9, .ref a10, .ref a11])), (a1, .inl (cI, 24, .inl (fun zy => nI (EP zy)))), (a2, .inl (cI, 24, .inl SI_1)), (a3, .inl (cI, 24, .inl LK_1)), (a4, .inl (cI, 1536, .inl SS_1)), (a5, .inl (cI, 12, .inl (fun zy => nI (ST_1 zy)))), (a10, .inl (cI, 12, .inl LE_1)), (a11, .inl (cI, 12, .inl GR_1)), (f0, .inr (1, [.int (nI nn), .ref f1, .ref f2, .ref f3, .ref f4])), (f4, .inl (cZ, 7, .inl FA))] := hD
  have hl : lv_has ls 8 [(5, .int (nI q_l)), (4, .int sm_v), (3, .int v), (2, .ref a0), (1, .ref f0), (0, .ref r0)] := hl
  have h_ST_1 : ∀ zz, ST_1 zz ≤ 64 := h_ST_1
  have hq : q_l ≤ nq := hq
  have hs : ∀ qq, 1 ≤ ST qq → 1 ≤ ST_1 qq := hs
  refine lv_iload hx hb d_PR_keepRound_6 (lv_at hl 0 rfl) ?_
  refine lv_aload_n hx hb d_PR_keepRound_8 rfl (lv_at hl 5 rfl) ?_
  refine va_get (D := D) (ci := 3) (v := .int (nI nq)) (C := R_PR) (T := F_PR) (N := 13) hx hb hts i_PR hown hK hP 0 rfl rfl 0 (by decide) (hts _ q_110) (fun _ h9 => h9) rfl d_PR_keepRound_9 ?_
  refine lv_icmp_ge (tgt := 133) hx hb d_PR_keepRound_12 (by decide) (fun h_2 => ?_) (fun h_2 => ?_)
  · have nh_2 : nq ≤ q_l := (nI_leI (a := nq) (b := q_l) (by omega) (by omega)).mp h_2
    refine lv_iload hx hb d_PR_keepRound_133 (lv_at hl 1 rfl) ?_
    have hP9 := hP.sub (ws' := [(r0, .inr (3, [.int (nI nq), .int ha_v, .ref r1, .ref r2, .ref r3, .ref r4, .ref r5, .ref r6, .ref r7, .ref r8, .ref r9, .ref r10, .ref r11])), (r3, .inl (cI, 40, .inl (fun zy => nI (HO zy)))), (r4, .inl (cI, 40, .inl HE_1)), (r5, .inl (cI, 40, .inl KE_1)), (r6, .inl (cZ, 40, .inl TO)), (r7, .inl (cI, 240, .inl (fun zy => nI (LP zy)))), (r8, .inl (cI, 240, .inl (fun zy => nI (LF zy)))), (r9, .inl (cI, 240, .inl LS)), (r10, .inl (cI, 240, .inl LC)), (r11, .inl (cI, 240, .inl LH_1)), (a0, .inr (2, [.int (nI np), .ref a1, .ref a2, .ref a3, .ref a4, .ref a5, .ref a6, .ref a7, .ref a8, .ref a9, .ref a10, .ref a11])), (a1, .inl (cI, 24, .inl (fun zy => nI (EP zy)))), (a2, .inl (cI, 24, .inl SI_1)), (a3, .inl (cI, 24, .inl LK_1)), (a4, .inl (cI, 1536, .inl SS_1)), (a5, .inl (cI, 12, .inl (fun zy => nI (ST_1 zy)))), (a10, .inl (cI, 12, .inl LE_1)), (a11, .inl (cI, 12, .inl GR_1)), (f0, .inr (1, [.int (nI nn), .ref f1, .ref f2, .ref f3, .ref f4])), (f4, .inl (cZ, 7, .inl FA))]) [0, 1, 2, 3, 4, 5, 6, 7, 8, 9, 10, 11, 12, 13, 14, 15, 16, 17, 18, 19] rfl
    have hD9 := hD.sub (ws' := [(r0, .inr (3, [.int (nI nq), .int ha_v, .ref r1, .ref r2, .ref r3, .ref r4, .ref r5, .ref r6, .ref r7, .ref r8, .ref r9, .ref r10, .ref r11])), (r3, .inl (cI, 40, .inl (fun zy => nI (HO zy)))), (r4, .inl (cI, 40, .inl HE_1)), (r5, .inl (cI, 40, .inl KE_1)), (r6, .inl (cZ, 40, .inl TO)), (r7, .inl (cI, 240, .inl (fun zy => nI (LP zy)))), (r8, .inl (cI, 240, .inl (fun zy => nI (LF zy)))), (r9, .inl (cI, 240, .inl LS)), (r10, .inl (cI, 240, .inl LC)), (r11, .inl (cI, 240, .inl LH_1)), (a0, .inr (2, [.int (nI np), .ref a1, .ref a2, .ref a3, .ref a4, .ref a5, .ref a6, .ref a7, .ref a8, .ref a9, .ref a10, .ref a11])), (a1, .inl (cI, 24, .inl (fun zy => nI (EP zy)))), (a2, .inl (cI, 24, .inl SI_1)), (a3, .inl (cI, 24, .inl LK_1)), (a4, .inl (cI, 1536, .inl SS_1)), (a5, .inl (cI, 12, .inl (fun zy => nI (ST_1 zy)))), (a10, .inl (cI, 12, .inl LE_1)), (a11, .inl (cI, 12, .inl GR_1)), (f0, .inr (1, [.int (nI nn), .ref f1, .ref f2, .ref f3, .ref f4])), (f4, .inl (cZ, 7, .inl FA))]) [0, 1, 2, 3, 4, 5, 6, 7, 8, 9, 10, 11, 12, 13, 14, 15, 16, 17, 18, 19] (by decide) rfl
    refine W.widen (k := 0) (n := 0) (Nat.le_of_ble_eq_true rfl) (Nat.le_of_ble_eq_true rfl) ?_
    exact W.iret (v := sm_v) hx hb hr (fun tT ht hW => ⟨⟨sm_v, (ha_v, HE_1, KE_1, LH_1, SI_1, LK_1, SS_1, ST_1, LE_1, GR_1), rfl, ⟨h_ST_1, hs⟩, by rw [ht]; exact hP9, hD9⟩, hS.F ht⟩) hS.2.2 d_PR_keepRound_135
  · have nh_2 : ¬ nq ≤ q_l := fun qZ => h_2 ((nI_leI (a := nq) (b := q_l) (by omega) (by omega)).mpr qZ)
    refine lv_iconst (v := 0) hx hb d_PR_keepRound_15 (by decide) ?_
    refine lv_istore (lv' := [(6, .int 0), (5, .int (nI q_l)), (4, .int sm_v), (3, .int v), (2, .ref a0), (1, .ref f0), (0, .ref r0)]) hx hb d_PR_keepRound_16 hl (by decide) rfl (fun ls hl => ?_)
    refine W_loop (σ := Nat × Int32 × Int32 × (Nat → Int32) × (Nat → Int32) × (Nat → Int32) × (Nat → Int32) × (Nat → Int32) × (Nat → Int32) × (Nat → Nat) × (Nat → Int32) × (Nat → Int32)) (I := fun xX H locs ls => (∀ zz, xX.2.2.2.2.2.2.2.2.2.1 zz ≤ 64) ∧ xX.1 ≤ HO q_l ∧ (∀ qq, 1 ≤ ST qq → 1 ≤ xX.2.2.2.2.2.2.2.2.2.1 qq) ∧ va_P D vwCl [(r0, .inr (3, [.int (nI nq), .int xX.2.2.1, .ref r1, .ref r2, .ref r3, .ref r4, .ref r5, .ref r6, .ref r7, .ref r8, .ref r9, .ref r10, .ref r11])), (r3, .inl (cI, 40, .inl (fun zy => nI (HO zy)))), (r4, .inl (cI, 40, .inl xX.2.2.2.1)), (r5, .inl (cI, 40, .inl xX.2.2.2.2.1)), (r6, .inl (cZ, 40, .inl TO)), (r7, .inl (cI, 240, .inl (fun zy => nI (LP zy)))), (r8, .inl (cI, 240, .inl (fun zy => nI (LF zy)))), (r9, .inl (cI, 240, .inl LS)), (r10, .inl (cI, 240, .inl LC)), (r11, .inl (cI, 240, .inl xX.2.2.2.2.2.1)), (a0, .inr (2, [.int (nI np), .ref a1, .ref a2, .ref a3, .ref a4, .ref a5, .ref a6, .ref a7, .ref a8, .ref a9, .ref a10, .ref a11])), (a1, .inl (cI, 24, .inl (fun zy => nI (EP zy)))), (a2, .inl (cI, 24, .inl xX.2.2.2.2.2.2.1)), (a3, .inl (cI, 24, .inl xX.2.2.2.2.2.2.2.1)), (a4, .inl (cI, 1536, .inl xX.2.2.2.2.2.2.2.2.1)), (a5, .inl (cI, 12, .inl (fun zy => nI (xX.2.2.2.2.2.2.2.2.2.1 zy)))), (a10, .inl (cI, 12, .inl xX.2.2.2.2.2.2.2.2.2.2.1)), (a11, .inl (cI, 12, .inl xX.2.2.2.2.2.2.2.2.2.2.2)), (f0, .inr (1, [.int (nI nn), .ref f1, .ref f2, .ref f3, .ref f4])), (f4, .inl (cZ, 7, .inl FA))] H ∧ va_D A [(r0, .inr (3, [.int (nI nq), .int xX.2.2.1, .ref r1, .ref r2, .ref r3, .ref r4, .ref r5, .ref r6, .ref r7, .ref r8, .ref r9, .ref r10, .ref r11])), (r3, .inl (cI, 40, .inl (fun zy => nI (HO zy)))), (r4, .inl (cI, 40, .inl xX.2.2.2.1)), (r5, .inl (cI, 40, .inl xX.2.2.2.2.1)), (r6, .inl (cZ, 40, .inl TO)), (r7, .inl (cI, 240, .inl (fun zy => nI (LP zy)))), (r8, .inl (cI, 240, .inl (fun zy => nI (LF zy)))), (r9, .inl (cI, 240, .inl LS)), (r10, .inl (cI, 240, .inl LC)), (r11, .inl (cI, 240, .inl xX.2.2.2.2.2.1)), (a0, .inr (2, [.int (nI np), .ref a1, .ref a2, .ref a3, .ref a4, .ref a5, .ref a6, .ref a7, .ref a8, .ref a9, .ref a10, .ref a11])), (a1, .inl (cI, 24, .inl (fun zy => nI (EP zy)))), (a2, .inl (cI, 24, .inl xX.2.2.2.2.2.2.1)), (a3, .inl (cI, 24, .inl xX.2.2.2.2.2.2.2.1)), (a4, .inl (cI, 1536, .inl xX.2.2.2.2.2.2.2.2.1)), (a5, .inl (cI, 12, .inl (fun zy => nI (xX.2.2.2.2.2.2.2.2.2.1 zy)))), (a10, .inl (cI, 12, .inl xX.2.2.2.2.2.2.2.2.2.2.1)), (a11, .inl (cI, 12, .inl xX.2.2.2.2.2.2.2.2.2.2.2)), (f0, .inr (1, [.int (nI nn), .ref f1, .ref f2, .ref f3, .ref f4])), (f4, .inl (cZ, 7, .inl FA))] ∧ va_S A s.heap H locs ∧ lv_has ls 8 [(6, .int (nI xX.1)), (5, .int (nI q_l)), (4, .int xX.2.1), (3, .int v), (2, .ref a0), (1, .ref f0), (0, .ref r0)]) (μ := fun xX => 7 - xX.1) ?_ (0, sm_v, ha_v, HE_1, KE_1, LH_1, SI_1, LK_1, SS_1, ST_1, LE_1, GR_1) ⟨h_ST_1, (by first | omega | (dsimp only; omega)), hs, hP, hD, hS, lv_sub hl [0, 1, 2, 3, 4, 5, 6] rfl⟩
    intro xX H_3 locs ls hI ih2
    obtain ⟨i_l, sm2_v, ha2_v, HE_2, KE_2, LH_2, SI_2, LK_2, SS_2, ST_2, LE_2, GR_2⟩ := xX
    obtain ⟨h_ST_2, hi, hs2, hP, hD, hS, hl⟩ := hI
    have hP : va_P D vwCl [(r0, .inr (3, [.int (nI nq), .int ha2_v, .ref r1, .ref r2, .ref r3, .ref r4, .ref r5, .ref r6, .ref r7, .ref r8, .ref r9, .ref r10, .ref r11])), (r3, .inl (cI, 40, .inl (fun zy => nI (HO zy)))), (r4, .inl (cI, 40, .inl HE_2)), (r5, .inl (cI, 40, .inl KE_2)), (r6, .inl (cZ, 40, .inl TO)), (r7, .inl (cI, 240, .inl (fun zy => nI (LP zy)))), (r8, .inl (cI, 240, .inl (fun zy => nI (LF zy)))), (r9, .inl (cI, 240, .inl LS)), (r10, .inl (cI, 240, .inl LC)), (r11, .inl (cI, 240, .inl LH_2)), (a0, .inr (2, [.int (nI np), .ref a1, .ref a2, .ref a3, .ref a4, .ref a5, .ref a6, .ref a7, .ref a8, .ref a9, .ref a10, .ref a11])), (a1, .inl (cI, 24, .inl (fun zy => nI (EP zy)))), (a2, .inl (cI, 24, .inl SI_2)), (a3, .inl (cI, 24, .inl LK_2)), (a4, .inl (cI, 1536, .inl SS_2)), (a5, .inl (cI, 12, .inl (fun zy => nI (ST_2 zy)))), (a10, .inl (cI, 12, .inl LE_2)), (a11, .inl (cI, 12, .inl GR_2)), (f0, .inr (1, [.int (nI nn), .ref f1, .ref f2, .ref f3, .ref f4])), (f4, .inl (cZ, 7, .inl FA))] H_3 := hP
    have hD : va_D A [(r0, .inr (3, [.int (nI nq), .int ha2_v, .ref r1, .ref r2, .ref r3, .ref r4, .ref r5, .ref r6, .ref r7, .ref r8, .ref r9, .ref r10, .ref r11])), (r3, .inl (cI, 40, .inl (fun zy => nI (HO zy)))), (r4, .inl (cI, 40, .inl HE_2)), (r5, .inl (cI, 40, .inl KE_2)), (r6, .inl (cZ, 40, .inl TO)), (r7, .inl (cI, 240, .inl (fun zy => nI (LP zy)))), (r8, .inl (cI, 240, .inl (fun zy => nI (LF zy)))), (r9, .inl (cI, 240, .inl LS)), (r10, .inl (cI, 240, .inl LC)), (r11, .inl (cI, 240, .inl LH_2)), (a0, .inr (2, [.int (nI np), .ref a1, .ref a2, .ref a3, .ref a4, .ref a5, .ref a6, .ref a7, .ref a8, .ref a9, .ref a10, .ref a11])), (a1, .inl (cI, 24, .inl (fun zy => nI (EP zy)))), (a2, .inl (cI, 24, .inl SI_2)), (a3, .inl (cI, 24, .inl LK_2)), (a4, .inl (cI, 1536, .inl SS_2)), (a5, .inl (cI, 12, .inl (fun zy => nI (ST_2 zy)))), (a10, .inl (cI, 12, .inl LE_2)), (a11, .inl (cI, 12, .inl GR_2)), (f0, .inr (1, [.int (nI nn), .ref f1, .ref f2, .ref f3, .ref f4])), (f4, .inl (cZ, 7, .inl FA))] := hD
    have hl : lv_has ls 8 [(6, .int (nI i_l)), (5, .int (nI q_l)), (4, .int sm2_v), (3, .int v), (2, .ref a0), (1, .ref f0), (0, .ref r0)] := hl
    have h_ST_2 : ∀ zz, ST_2 zz ≤ 64 := h_ST_2
    have hi : i_l ≤ HO q_l := hi
    have hs2 : ∀ qq, 1 ≤ ST qq → 1 ≤ ST_2 qq := hs2
    refine lv_iload hx hb d_PR_keepRound_18 (lv_at hl 0 rfl) ?_
    refine lv_aload_n hx hb d_PR_keepRound_20 rfl (lv_at hl 6 rfl) ?_
    refine va_get (D := D) (ci := 3) (v := .ref r3) (C := R_PR) (T := F_PR) (N := 13) hx hb hts i_PR hown hK hP 0 rfl rfl 4 (by decide) (hts _ q_118) (fun _ h9 => h9) rfl d_PR_keepRound_21 ?_
    refine lv_iload hx hb d_PR_keepRound_24 (lv_at hl 1 rfl) ?_
    refine my_ldN hx hb hK hP 1 rfl q_l rfl (by omega) (by decide) d_PR_keepRound_26 ?_
    have hb_1 : HO q_l ≤ 6 := h_HO _
    refine lv_icmp_ge (tgt := 127) hx hb d_PR_keepRound_27 (by decide) (fun h_4 => ?_) (fun h_4 => ?_)
    · have nh_4 : (HO q_l) ≤ i_l := (nI_leI (a := (HO q_l)) (b := i_l) (by omega) (by omega)).mp h_4
      refine lv_iinc (v := nI (q_l + 1)) (lv' := [(5, .int (nI (q_l + 1))), (6, .int (nI i_l)), (4, .int sm2_v), (3, .int v), (2, .ref a0), (1, .ref f0), (0, .ref r0)]) hx hb d_PR_keepRound_127 hl (k := 1) rfl (nI_1 q_l) (by decide) rfl (fun ls hl => ?_)
      refine lv_goto (tgt := 6) hx hb d_PR_keepRound_130 (by decide) ?_
      have hPz := hP.sub (ws' := [(r0, .inr (3, [.int (nI nq), .int ha2_v, .ref r1, .ref r2, .ref r3, .ref r4, .ref r5, .ref r6, .ref r7, .ref r8, .ref r9, .ref r10, .ref r11])), (r3, .inl (cI, 40, .inl (fun zy => nI (HO zy)))), (r4, .inl (cI, 40, .inl HE_2)), (r5, .inl (cI, 40, .inl KE_2)), (r6, .inl (cZ, 40, .inl TO)), (r7, .inl (cI, 240, .inl (fun zy => nI (LP zy)))), (r8, .inl (cI, 240, .inl (fun zy => nI (LF zy)))), (r9, .inl (cI, 240, .inl LS)), (r10, .inl (cI, 240, .inl LC)), (r11, .inl (cI, 240, .inl LH_2)), (a0, .inr (2, [.int (nI np), .ref a1, .ref a2, .ref a3, .ref a4, .ref a5, .ref a6, .ref a7, .ref a8, .ref a9, .ref a10, .ref a11])), (a1, .inl (cI, 24, .inl (fun zy => nI (EP zy)))), (a2, .inl (cI, 24, .inl SI_2)), (a3, .inl (cI, 24, .inl LK_2)), (a4, .inl (cI, 1536, .inl SS_2)), (a5, .inl (cI, 12, .inl (fun zy => nI (ST_2 zy)))), (a10, .inl (cI, 12, .inl LE_2)), (a11, .inl (cI, 12, .inl GR_2)), (f0, .inr (1, [.int (nI nn), .ref f1, .ref f2, .ref f3, .ref f4])), (f4, .inl (cZ, 7, .inl FA))]) [0, 1, 2, 3, 4, 5, 6, 7, 8, 9, 10, 11, 12, 13, 14, 15, 16, 17, 18, 19] rfl
      have hDz := hD.sub (ws' := [(r0, .inr (3, [.int (nI nq), .int ha2_v, .ref r1, .ref r2, .ref r3, .ref r4, .ref r5, .ref r6, .ref r7, .ref r8, .ref r9, .ref r10, .ref r11])), (r3, .inl (cI, 40, .inl (fun zy => nI (HO zy)))), (r4, .inl (cI, 40, .inl HE_2)), (r5, .inl (cI, 40, .inl KE_2)), (r6, .inl (cZ, 40, .inl TO)), (r7, .inl (cI, 240, .inl (fun zy => nI (LP zy)))), (r8, .inl (cI, 240, .inl (fun zy => nI (LF zy)))), (r9, .inl (cI, 240, .inl LS)), (r10, .inl (cI, 240, .inl LC)), (r11, .inl (cI, 240, .inl LH_2)), (a0, .inr (2, [.int (nI np), .ref a1, .ref a2, .ref a3, .ref a4, .ref a5, .ref a6, .ref a7, .ref a8, .ref a9, .ref a10, .ref a11])), (a1, .inl (cI, 24, .inl (fun zy => nI (EP zy)))), (a2, .inl (cI, 24, .inl SI_2)), (a3, .inl (cI, 24, .inl LK_2)), (a4, .inl (cI, 1536, .inl SS_2)), (a5, .inl (cI, 12, .inl (fun zy => nI (ST_2 zy)))), (a10, .inl (cI, 12, .inl LE_2)), (a11, .inl (cI, 12, .inl GR_2)), (f0, .inr (1, [.int (nI nn), .ref f1, .ref f2, .ref f3, .ref f4])), (f4, .inl (cZ, 7, .inl FA))]) [0, 1, 2, 3, 4, 5, 6, 7, 8, 9, 10, 11, 12, 13, 14, 15, 16, 17, 18, 19] (by decide) rfl
      exact ih1 ((q_l + 1), sm2_v, ha2_v, HE_2, KE_2, LH_2, SI_2, LK_2, SS_2, ST_2, LE_2, GR_2) _ _ _ (by first | omega | (dsimp only; omega)) ⟨h_ST_2, (by first | omega | (dsimp only; omega)), hs2, hPz, hDz, hS, lv_sub hl [0, 2, 3, 4, 5, 6] rfl⟩
    · have nh_4 : ¬ (HO q_l) ≤ i_l := fun qZ => h_4 ((nI_leI (a := (HO q_l)) (b := i_l) (by omega) (by omega)).mpr qZ)
      refine lv_aload_n hx hb d_PR_keepRound_30 rfl (lv_at hl 6 rfl) ?_
      refine va_get (D := D) (ci := 3) (v := .ref r4) (C := R_PR) (T := F_PR) (N := 13) hx hb hts i_PR hown hK hP 0 rfl rfl 5 (by decide) (hts _ q_120) (fun _ h9 => h9) rfl d_PR_keepRound_31 ?_
      refine lv_iload hx hb d_PR_keepRound_34 (lv_at hl 1 rfl) ?_
      refine my_ldI hx hb hK hP 2 rfl q_l rfl (by omega) (by decide) d_PR_keepRound_36 ?_
      refine lv_if_le (tgt := 127) hx hb d_PR_keepRound_37 (by decide) (fun h_5 => ?_) (fun h_5 => ?_)
      · refine lv_iinc (v := nI (q_l + 1)) (lv' := [(5, .int (nI (q_l + 1))), (6, .int (nI i_l)), (4, .int sm2_v), (3, .int v), (2, .ref a0), (1, .ref f0), (0, .ref r0)]) hx hb d_PR_keepRound_127 hl (k := 1) rfl (nI_1 q_l) (by decide) rfl (fun ls hl => ?_)
        refine lv_goto (tgt := 6) hx hb d_PR_keepRound_130 (by decide) ?_
        have hPz := hP.sub (ws' := [(r0, .inr (3, [.int (nI nq), .int ha2_v, .ref r1, .ref r2, .ref r3, .ref r4, .ref r5, .ref r6, .ref r7, .ref r8, .ref r9, .ref r10, .ref r11])), (r3, .inl (cI, 40, .inl (fun zy => nI (HO zy)))), (r4, .inl (cI, 40, .inl HE_2)), (r5, .inl (cI, 40, .inl KE_2)), (r6, .inl (cZ, 40, .inl TO)), (r7, .inl (cI, 240, .inl (fun zy => nI (LP zy)))), (r8, .inl (cI, 240, .inl (fun zy => nI (LF zy)))), (r9, .inl (cI, 240, .inl LS)), (r10, .inl (cI, 240, .inl LC)), (r11, .inl (cI, 240, .inl LH_2)), (a0, .inr (2, [.int (nI np), .ref a1, .ref a2, .ref a3, .ref a4, .ref a5, .ref a6, .ref a7, .ref a8, .ref a9, .ref a10, .ref a11])), (a1, .inl (cI, 24, .inl (fun zy => nI (EP zy)))), (a2, .inl (cI, 24, .inl SI_2)), (a3, .inl (cI, 24, .inl LK_2)), (a4, .inl (cI, 1536, .inl SS_2)), (a5, .inl (cI, 12, .inl (fun zy => nI (ST_2 zy)))), (a10, .inl (cI, 12, .inl LE_2)), (a11, .inl (cI, 12, .inl GR_2)), (f0, .inr (1, [.int (nI nn), .ref f1, .ref f2, .ref f3, .ref f4])), (f4, .inl (cZ, 7, .inl FA))]) [0, 1, 2, 3, 4, 5, 6, 7, 8, 9, 10, 11, 12, 13, 14, 15, 16, 17, 18, 19] rfl
        have hDz := hD.sub (ws' := [(r0, .inr (3, [.int (nI nq), .int ha2_v, .ref r1, .ref r2, .ref r3, .ref r4, .ref r5, .ref r6, .ref r7, .ref r8, .ref r9, .ref r10, .ref r11])), (r3, .inl (cI, 40, .inl (fun zy => nI (HO zy)))), (r4, .inl (cI, 40, .inl HE_2)), (r5, .inl (cI, 40, .inl KE_2)), (r6, .inl (cZ, 40, .inl TO)), (r7, .inl (cI, 240, .inl (fun zy => nI (LP zy)))), (r8, .inl (cI, 240, .inl (fun zy => nI (LF zy)))), (r9, .inl (cI, 240, .inl LS)), (r10, .inl (cI, 240, .inl LC)), (r11, .inl (cI, 240, .inl LH_2)), (a0, .inr (2, [.int (nI np), .ref a1, .ref a2, .ref a3, .ref a4, .ref a5, .ref a6, .ref a7, .ref a8, .ref a9, .ref a10, .ref a11])), (a1, .inl (cI, 24, .inl (fun zy => nI (EP zy)))), (a2, .inl (cI, 24, .inl SI_2)), (a3, .inl (cI, 24, .inl LK_2)), (a4, .inl (cI, 1536, .inl SS_2)), (a5, .inl (cI, 12, .inl (fun zy => nI (ST_2 zy)))), (a10, .inl (cI, 12, .inl LE_2)), (a11, .inl (cI, 12, .inl GR_2)), (f0, .inr (1, [.int (nI nn), .ref f1, .ref f2, .ref f3, .ref f4])), (f4, .inl (cZ, 7, .inl FA))]) [0, 1, 2, 3, 4, 5, 6, 7, 8, 9, 10, 11, 12, 13, 14, 15, 16, 17, 18, 19] (by decide) rfl
        exact ih1 ((q_l + 1), sm2_v, ha2_v, HE_2, KE_2, LH_2, SI_2, LK_2, SS_2, ST_2, LE_2, GR_2) _ _ _ (by first | omega | (dsimp only; omega)) ⟨h_ST_2, (by first | omega | (dsimp only; omega)), hs2, hPz, hDz, hS, lv_sub hl [0, 2, 3, 4, 5, 6] rfl⟩
      · refine lv_iload hx hb d_PR_keepRound_40 (lv_at hl 1 rfl) ?_
        refine lv_bipush (v := 6) hx hb d_PR_keepRound_42 (by decide) ?_
        refine lv_imul hx hb d_PR_keepRound_44 ?_
        refine lv_seti (nI (q_l * 6)) (pk_mul q_l 6) ?_
        refine lv_iload hx hb d_PR_keepRound_45 (lv_at hl 0 rfl) ?_
        refine lv_iadd hx hb d_PR_keepRound_47 ?_
        refine lv_seti (nI ((q_l * 6) + i_l)) (nI_add (q_l * 6) i_l) ?_
        refine lv_istore (lv' := [(7, .int (nI ((q_l * 6) + i_l))), (6, .int (nI i_l)), (5, .int (nI q_l)), (4, .int sm2_v), (3, .int v), (2, .ref a0), (1, .ref f0), (0, .ref r0)]) hx hb d_PR_keepRound_48 hl (by decide) rfl (fun ls hl => ?_)
        refine lv_aload_n hx hb d_PR_keepRound_50 rfl (lv_at hl 7 rfl) ?_
        refine lv_iload hx hb d_PR_keepRound_51 (lv_at hl 2 rfl) ?_
        refine lv_iload hx hb d_PR_keepRound_53 (lv_at hl 1 rfl) ?_
        have hPc := hP.sub (ws' := [(r0, .inr (3, [.int (nI nq), .int ha2_v, .ref r1, .ref r2, .ref r3, .ref r4, .ref r5, .ref r6, .ref r7, .ref r8, .ref r9, .ref r10, .ref r11])), (r3, .inl (cI, 40, .inl (fun zy => nI (HO zy)))), (r6, .inl (cZ, 40, .inl TO)), (r11, .inl (cI, 240, .inl LH_2))]) [0, 1, 4, 9] rfl
        have hDc := hD.sub (ws' := [(r0, .inr (3, [.int (nI nq), .int ha2_v, .ref r1, .ref r2, .ref r3, .ref r4, .ref r5, .ref r6, .ref r7, .ref r8, .ref r9, .ref r10, .ref r11])), (r3, .inl (cI, 40, .inl (fun zy => nI (HO zy)))), (r6, .inl (cZ, 40, .inl TO)), (r11, .inl (cI, 240, .inl LH_2))]) [0, 1, 4, 9] (by decide) rfl
        refine vp_callSi (va_Run.run (va_runV (As := [.int (nI q_l), .int (nI i_l)]) (rest := []) ⟨hx, hb, hml, hown, hts⟩ (g_PR_isWordKnown l D cI cZ r0 q_l i_l nq ha2_v r1 r2 r3 r4 r5 r6 r7 r8 r9 r10 r11 HO TO LH_2 H_3.size h_nq h_HO (by first | omega | (dsimp only; omega)) (by first | omega | (dsimp only; omega)) hz) (my_cwV 2 hts q_344 q_341 q_342 q_343 q_4 rfl rfl (by decide +kernel) ⟨Nat.le_of_ble_eq_true rfl, Nat.le_of_ble_eq_true rfl⟩) (my_preV hPc hDc hK hN 3 0 rfl rfl) rfl rfl hl.1 rfl (lv_room (Nat.le_of_ble_eq_true rfl)) d_PR_keepRound_55 ⟨Nat.le_of_ble_eq_true rfl, Nat.le_of_ble_eq_true rfl⟩)) (fun r_6 hw_6 => ?_)
        refine lv_if_eq (tgt := 121) hx hb d_PR_keepRound_58 (by decide) (fun h_7 => ?_) (fun h_7 => ?_)
        · refine lv_iinc (v := nI (i_l + 1)) (lv' := [(6, .int (nI (i_l + 1))), (7, .int (nI ((q_l * 6) + i_l))), (5, .int (nI q_l)), (4, .int sm2_v), (3, .int v), (2, .ref a0), (1, .ref f0), (0, .ref r0)]) hx hb d_PR_keepRound_121 hl (k := 1) rfl (nI_1 i_l) (by decide) rfl (fun ls hl => ?_)
          refine lv_goto (tgt := 18) hx hb d_PR_keepRound_124 (by decide) ?_
          have hPz := hP.sub (ws' := [(r0, .inr (3, [.int (nI nq), .int ha2_v, .ref r1, .ref r2, .ref r3, .ref r4, .ref r5, .ref r6, .ref r7, .ref r8, .ref r9, .ref r10, .ref r11])), (r3, .inl (cI, 40, .inl (fun zy => nI (HO zy)))), (r4, .inl (cI, 40, .inl HE_2)), (r5, .inl (cI, 40, .inl KE_2)), (r6, .inl (cZ, 40, .inl TO)), (r7, .inl (cI, 240, .inl (fun zy => nI (LP zy)))), (r8, .inl (cI, 240, .inl (fun zy => nI (LF zy)))), (r9, .inl (cI, 240, .inl LS)), (r10, .inl (cI, 240, .inl LC)), (r11, .inl (cI, 240, .inl LH_2)), (a0, .inr (2, [.int (nI np), .ref a1, .ref a2, .ref a3, .ref a4, .ref a5, .ref a6, .ref a7, .ref a8, .ref a9, .ref a10, .ref a11])), (a1, .inl (cI, 24, .inl (fun zy => nI (EP zy)))), (a2, .inl (cI, 24, .inl SI_2)), (a3, .inl (cI, 24, .inl LK_2)), (a4, .inl (cI, 1536, .inl SS_2)), (a5, .inl (cI, 12, .inl (fun zy => nI (ST_2 zy)))), (a10, .inl (cI, 12, .inl LE_2)), (a11, .inl (cI, 12, .inl GR_2)), (f0, .inr (1, [.int (nI nn), .ref f1, .ref f2, .ref f3, .ref f4])), (f4, .inl (cZ, 7, .inl FA))]) [0, 1, 2, 3, 4, 5, 6, 7, 8, 9, 10, 11, 12, 13, 14, 15, 16, 17, 18, 19] rfl
          have hDz := hD.sub (ws' := [(r0, .inr (3, [.int (nI nq), .int ha2_v, .ref r1, .ref r2, .ref r3, .ref r4, .ref r5, .ref r6, .ref r7, .ref r8, .ref r9, .ref r10, .ref r11])), (r3, .inl (cI, 40, .inl (fun zy => nI (HO zy)))), (r4, .inl (cI, 40, .inl HE_2)), (r5, .inl (cI, 40, .inl KE_2)), (r6, .inl (cZ, 40, .inl TO)), (r7, .inl (cI, 240, .inl (fun zy => nI (LP zy)))), (r8, .inl (cI, 240, .inl (fun zy => nI (LF zy)))), (r9, .inl (cI, 240, .inl LS)), (r10, .inl (cI, 240, .inl LC)), (r11, .inl (cI, 240, .inl LH_2)), (a0, .inr (2, [.int (nI np), .ref a1, .ref a2, .ref a3, .ref a4, .ref a5, .ref a6, .ref a7, .ref a8, .ref a9, .ref a10, .ref a11])), (a1, .inl (cI, 24, .inl (fun zy => nI (EP zy)))), (a2, .inl (cI, 24, .inl SI_2)), (a3, .inl (cI, 24, .inl LK_2)), (a4, .inl (cI, 1536, .inl SS_2)), (a5, .inl (cI, 12, .inl (fun zy => nI (ST_2 zy)))), (a10, .inl (cI, 12, .inl LE_2)), (a11, .inl (cI, 12, .inl GR_2)), (f0, .inr (1, [.int (nI nn), .ref f1, .ref f2, .ref f3, .ref f4])), (f4, .inl (cZ, 7, .inl FA))]) [0, 1, 2, 3, 4, 5, 6, 7, 8, 9, 10, 11, 12, 13, 14, 15, 16, 17, 18, 19] (by decide) rfl
          exact ih2 ((i_l + 1), sm2_v, ha2_v, HE_2, KE_2, LH_2, SI_2, LK_2, SS_2, ST_2, LE_2, GR_2) _ _ _ (by first | omega | (dsimp only; omega)) ⟨h_ST_2, (by first | omega | (dsimp only; omega)), hs2, hPz, hDz, hS, lv_sub hl [0, 2, 3, 4, 5, 6, 7] rfl⟩
        · refine lv_aload_n hx hb d_PR_keepRound_61 rfl (lv_at hl 7 rfl) ?_
          refine lv_aload_n hx hb d_PR_keepRound_62 rfl (lv_at hl 6 rfl) ?_
          refine lv_aload_n hx hb d_PR_keepRound_63 rfl (lv_at hl 5 rfl) ?_
          refine lv_iload hx hb d_PR_keepRound_64 (lv_at hl 0 rfl) ?_
          refine lv_iload_n hx hb d_PR_keepRound_66 rfl (lv_at hl 4 rfl) ?_
          have hPc := hP.sub (ws' := [(r0, .inr (3, [.int (nI nq), .int ha2_v, .ref r1, .ref r2, .ref r3, .ref r4, .ref r5, .ref r6, .ref r7, .ref r8, .ref r9, .ref r10, .ref r11])), (r7, .inl (cI, 240, .inl (fun zy => nI (LP zy)))), (r8, .inl (cI, 240, .inl (fun zy => nI (LF zy)))), (r10, .inl (cI, 240, .inl LC)), (r11, .inl (cI, 240, .inl LH_2)), (a0, .inr (2, [.int (nI np), .ref a1, .ref a2, .ref a3, .ref a4, .ref a5, .ref a6, .ref a7, .ref a8, .ref a9, .ref a10, .ref a11])), (a1, .inl (cI, 24, .inl (fun zy => nI (EP zy)))), (f0, .inr (1, [.int (nI nn), .ref f1, .ref f2, .ref f3, .ref f4])), (f4, .inl (cZ, 7, .inl FA))]) [0, 5, 6, 8, 9, 10, 11, 18, 19] rfl
          have hDc := hD.sub (ws' := [(r0, .inr (3, [.int (nI nq), .int ha2_v, .ref r1, .ref r2, .ref r3, .ref r4, .ref r5, .ref r6, .ref r7, .ref r8, .ref r9, .ref r10, .ref r11])), (r7, .inl (cI, 240, .inl (fun zy => nI (LP zy)))), (r8, .inl (cI, 240, .inl (fun zy => nI (LF zy)))), (r10, .inl (cI, 240, .inl LC)), (r11, .inl (cI, 240, .inl LH_2)), (a0, .inr (2, [.int (nI np), .ref a1, .ref a2, .ref a3, .ref a4, .ref a5, .ref a6, .ref a7, .ref a8, .ref a9, .ref a10, .ref a11])), (a1, .inl (cI, 24, .inl (fun zy => nI (EP zy)))), (f0, .inr (1, [.int (nI nn), .ref f1, .ref f2, .ref f3, .ref f4])), (f4, .inl (cZ, 7, .inl FA))]) [0, 5, 6, 8, 9, 10, 11, 18, 19] (by decide) rfl
          refine vp_callSi (va_Run.run (va_runV (As := [.ref f0, .ref a0, .int (nI ((q_l * 6) + i_l)), .int v]) (rest := []) ⟨hx, hb, hml, hown, hts⟩ (g_PR_mayBeKept l D cI cZ r0 f0 a0 ((q_l * 6) + i_l) v nq ha2_v r1 r2 r3 r4 r5 r6 r7 r8 r9 r10 r11 LP LF LC LH_2 np a1 a2 a3 a4 a5 a6 a7 a8 a9 a10 a11 EP nn f1 f2 f3 f4 FA H_3.size h_nq h_LP h_LF h_np h_EP h_nn (by first | omega | (dsimp only; omega))) (my_cwV 4 hts q_348 q_345 q_346 q_347 q_4 rfl rfl (by decide +kernel) ⟨Nat.le_of_ble_eq_true rfl, Nat.le_of_ble_eq_true rfl⟩) (my_preV hPc hDc hK hN 3 0 rfl rfl) rfl rfl hl.1 rfl (lv_room (Nat.le_of_ble_eq_true rfl)) d_PR_keepRound_67 ⟨Nat.le_of_ble_eq_true rfl, Nat.le_of_ble_eq_true rfl⟩)) (fun r_8 hw_8 => ?_)
          rcases hw_8 with rfl | rfl
          · refine lv_if_eq (tgt := 121) hx hb d_PR_keepRound_70 (by decide) (fun _ => ?_) (fun h => absurd h (by decide))
            refine lv_iinc (v := nI (i_l + 1)) (lv' := [(6, .int (nI (i_l + 1))), (7, .int (nI ((q_l * 6) + i_l))), (5, .int (nI q_l)), (4, .int sm2_v), (3, .int v), (2, .ref a0), (1, .ref f0), (0, .ref r0)]) hx hb d_PR_keepRound_121 hl (k := 1) rfl (nI_1 i_l) (by decide) rfl (fun ls hl => ?_)
            refine lv_goto (tgt := 18) hx hb d_PR_keepRound_124 (by decide) ?_
            have hPz := hP.sub (ws' := [(r0, .inr (3, [.int (nI nq), .int ha2_v, .ref r1, .ref r2, .ref r3, .ref r4, .ref r5, .ref r6, .ref r7, .ref r8, .ref r9, .ref r10, .ref r11])), (r3, .inl (cI, 40, .inl (fun zy => nI (HO zy)))), (r4, .inl (cI, 40, .inl HE_2)), (r5, .inl (cI, 40, .inl KE_2)), (r6, .inl (cZ, 40, .inl TO)), (r7, .inl (cI, 240, .inl (fun zy => nI (LP zy)))), (r8, .inl (cI, 240, .inl (fun zy => nI (LF zy)))), (r9, .inl (cI, 240, .inl LS)), (r10, .inl (cI, 240, .inl LC)), (r11, .inl (cI, 240, .inl LH_2)), (a0, .inr (2, [.int (nI np), .ref a1, .ref a2, .ref a3, .ref a4, .ref a5, .ref a6, .ref a7, .ref a8, .ref a9, .ref a10, .ref a11])), (a1, .inl (cI, 24, .inl (fun zy => nI (EP zy)))), (a2, .inl (cI, 24, .inl SI_2)), (a3, .inl (cI, 24, .inl LK_2)), (a4, .inl (cI, 1536, .inl SS_2)), (a5, .inl (cI, 12, .inl (fun zy => nI (ST_2 zy)))), (a10, .inl (cI, 12, .inl LE_2)), (a11, .inl (cI, 12, .inl GR_2)), (f0, .inr (1, [.int (nI nn), .ref f1, .ref f2, .ref f3, .ref f4])), (f4, .inl (cZ, 7, .inl FA))]) [0, 1, 2, 3, 4, 5, 6, 7, 8, 9, 10, 11, 12, 13, 14, 15, 16, 17, 18, 19] rfl
            have hDz := hD.sub (ws' := [(r0, .inr (3, [.int (nI nq), .int ha2_v, .ref r1, .ref r2, .ref r3, .ref r4, .ref r5, .ref r6, .ref r7, .ref r8, .ref r9, .ref r10, .ref r11])), (r3, .inl (cI, 40, .inl (fun zy => nI (HO zy)))), (r4, .inl (cI, 40, .inl HE_2)), (r5, .inl (cI, 40, .inl KE_2)), (r6, .inl (cZ, 40, .inl TO)), (r7, .inl (cI, 240, .inl (fun zy => nI (LP zy)))), (r8, .inl (cI, 240, .inl (fun zy => nI (LF zy)))), (r9, .inl (cI, 240, .inl LS)), (r10, .inl (cI, 240, .inl LC)), (r11, .inl (cI, 240, .inl LH_2)), (a0, .inr (2, [.int (nI np), .ref a1, .ref a2, .ref a3, .ref a4, .ref a5, .ref a6, .ref a7, .ref a8, .ref a9, .ref a10, .ref a11])), (a1, .inl (cI, 24, .inl (fun zy => nI (EP zy)))), (a2, .inl (cI, 24, .inl SI_2)), (a3, .inl (cI, 24, .inl LK_2)), (a4, .inl (cI, 1536, .inl SS_2)), (a5, .inl (cI, 12, .inl (fun zy => nI (ST_2 zy)))), (a10, .inl (cI, 12, .inl LE_2)), (a11, .inl (cI, 12, .inl GR_2)), (f0, .inr (1, [.int (nI nn), .ref f1, .ref f2, .ref f3, .ref f4])), (f4, .inl (cZ, 7, .inl FA))]) [0, 1, 2, 3, 4, 5, 6, 7, 8, 9, 10, 11, 12, 13, 14, 15, 16, 17, 18, 19] (by decide) rfl
            exact ih2 ((i_l + 1), sm2_v, ha2_v, HE_2, KE_2, LH_2, SI_2, LK_2, SS_2, ST_2, LE_2, GR_2) _ _ _ (by first | omega | (dsimp only; omega)) ⟨h_ST_2, (by first | omega | (dsimp only; omega)), hs2, hPz, hDz, hS, lv_sub hl [0, 2, 3, 4, 5, 6, 7] rfl⟩
          · refine lv_if_eq (tgt := 121) hx hb d_PR_keepRound_70 (by decide) (fun h => absurd h (by decide)) (fun _ => ?_)
            refine lv_aload_n hx hb d_PR_keepRound_73 rfl (lv_at hl 7 rfl) ?_
            refine lv_iload hx hb d_PR_keepRound_74 (lv_at hl 2 rfl) ?_
            refine lv_iload hx hb d_PR_keepRound_76 (lv_at hl 0 rfl) ?_
            refine lv_iconst (v := 1) hx hb d_PR_keepRound_78 (by decide) ?_
            have hPc := hP.sub (ws' := [(r0, .inr (3, [.int (nI nq), .int ha2_v, .ref r1, .ref r2, .ref r3, .ref r4, .ref r5, .ref r6, .ref r7, .ref r8, .ref r9, .ref r10, .ref r11])), (r4, .inl (cI, 40, .inl HE_2)), (r11, .inl (cI, 240, .inl LH_2))]) [0, 2, 9] rfl
            have hDc := hD.sub (ws' := [(r0, .inr (3, [.int (nI nq), .int ha2_v, .ref r1, .ref r2, .ref r3, .ref r4, .ref r5, .ref r6, .ref r7, .ref r8, .ref r9, .ref r10, .ref r11])), (r4, .inl (cI, 40, .inl HE_2)), (r11, .inl (cI, 240, .inl LH_2))]) [0, 2, 9] (by decide) rfl
            have hFc := va_free (wc := [(r0, .inr (3, [.int (nI nq), .int ha2_v, .ref r1, .ref r2, .ref r3, .ref r4, .ref r5, .ref r6, .ref r7, .ref r8, .ref r9, .ref r10, .ref r11])), (r4, .inl (cI, 40, .inl HE_2)), (r11, .inl (cI, 240, .inl LH_2))]) hD hS hA [0, 2, 9] rfl
            refine va_callv (va_runV (As := [.int (nI q_l), .int (nI ((q_l * 6) + i_l)), .int 1]) (rest := []) ⟨hx, hb, hml, hown, hts⟩ (g_PR_endLock l D cI cZ r0 q_l ((q_l * 6) + i_l) 1 nq ha2_v r1 r2 r3 r4 r5 r6 r7 r8 r9 r10 r11 HE_2 LH_2 H_3.size h_nq (by first | omega | (dsimp only; omega)) (by first | omega | (dsimp only; omega))) (my_cwV 3 hts q_352 q_349 q_350 q_351 q_4 rfl rfl (by decide +kernel) ⟨Nat.le_of_ble_eq_true rfl, Nat.le_of_ble_eq_true rfl⟩) (my_preV hPc hDc hK hN 3 0 rfl rfl) rfl rfl hl.1 rfl (lv_room (Nat.le_of_ble_eq_true rfl)) d_PR_keepRound_79 ⟨Nat.le_of_ble_eq_true rfl, Nat.le_of_ble_eq_true rfl⟩) hS (fun q _ h => hFc q h) hFc (fun uU tT H_12 locs ht hvm hw_11 hB hz1 hk1 hS => ?_)
            obtain ⟨HA_13, HE_14, LH_15⟩ := uU
            obtain ⟨hP1, hD1⟩ := hB
            rw [ht] at hP1
            obtain ⟨hP, hD⟩ := va_join (wr := [(r3, .inl (cI, 40, .inl (fun zy => nI (HO zy)))), (r5, .inl (cI, 40, .inl KE_2)), (r6, .inl (cZ, 40, .inl TO)), (r7, .inl (cI, 240, .inl (fun zy => nI (LP zy)))), (r8, .inl (cI, 240, .inl (fun zy => nI (LF zy)))), (r9, .inl (cI, 240, .inl LS)), (r10, .inl (cI, 240, .inl LC)), (a0, .inr (2, [.int (nI np), .ref a1, .ref a2, .ref a3, .ref a4, .ref a5, .ref a6, .ref a7, .ref a8, .ref a9, .ref a10, .ref a11])), (a1, .inl (cI, 24, .inl (fun zy => nI (EP zy)))), (a2, .inl (cI, 24, .inl SI_2)), (a3, .inl (cI, 24, .inl LK_2)), (a4, .inl (cI, 1536, .inl SS_2)), (a5, .inl (cI, 12, .inl (fun zy => nI (ST_2 zy)))), (a10, .inl (cI, 12, .inl LE_2)), (a11, .inl (cI, 12, .inl GR_2)), (f0, .inr (1, [.int (nI nn), .ref f1, .ref f2, .ref f3, .ref f4])), (f4, .inl (cZ, 7, .inl FA))]) (w1 := [(r0, .inr (3, [.int (nI nq), .int HA_13, .ref r1, .ref r2, .ref r3, .ref r4, .ref r5, .ref r6, .ref r7, .ref r8, .ref r9, .ref r10, .ref r11])), (r4, .inl (cI, 40, .inl HE_14)), (r11, .inl (cI, 240, .inl LH_15))]) hP hD [0, 2, 9] [1, 3, 4, 5, 6, 7, 8, 10, 11, 12, 13, 14, 15, 16, 17, 18, 19] rfl rfl (by decide) (by decide) hk1 hFc hP1 hD1
            have hP : va_P D vwCl [(r3, .inl (cI, 40, .inl (fun zy => nI (HO zy)))), (r5, .inl (cI, 40, .inl KE_2)), (r6, .inl (cZ, 40, .inl TO)), (r7, .inl (cI, 240, .inl (fun zy => nI (LP zy)))), (r8, .inl (cI, 240, .inl (fun zy => nI (LF zy)))), (r9, .inl (cI, 240, .inl LS)), (r10, .inl (cI, 240, .inl LC)), (a0, .inr (2, [.int (nI np), .ref a1, .ref a2, .ref a3, .ref a4, .ref a5, .ref a6, .ref a7, .ref a8, .ref a9, .ref a10, .ref a11])), (a1, .inl (cI, 24, .inl (fun zy => nI (EP zy)))), (a2, .inl (cI, 24, .inl SI_2)), (a3, .inl (cI, 24, .inl LK_2)), (a4, .inl (cI, 1536, .inl SS_2)), (a5, .inl (cI, 12, .inl (fun zy => nI (ST_2 zy)))), (a10, .inl (cI, 12, .inl LE_2)), (a11, .inl (cI, 12, .inl GR_2)), (f0, .inr (1, [.int (nI nn), .ref f1, .ref f2, .ref f3, .ref f4])), (f4, .inl (cZ, 7, .inl FA)), (r0, .inr (3, [.int (nI nq), .int HA_13, .ref r1, .ref r2, .ref r3, .ref r4, .ref r5, .ref r6, .ref r7, .ref r8, .ref r9, .ref r10, .ref r11])), (r4, .inl (cI, 40, .inl HE_14)), (r11, .inl (cI, 240, .inl LH_15))] H_12 := hP
            have hD : va_D A [(r3, .inl (cI, 40, .inl (fun zy => nI (HO zy)))), (r5, .inl (cI, 40, .inl KE_2)), (r6, .inl (cZ, 40, .inl TO)), (r7, .inl (cI, 240, .inl (fun zy => nI (LP zy)))), (r8, .inl (cI, 240, .inl (fun zy => nI (LF zy)))), (r9, .inl (cI, 240, .inl LS)), (r10, .inl (cI, 240, .inl LC)), (a0, .inr (2, [.int (nI np), .ref a1, .ref a2, .ref a3, .ref a4, .ref a5, .ref a6, .ref a7, .ref a8, .ref a9, .ref a10, .ref a11])), (a1, .inl (cI, 24, .inl (fun zy => nI (EP zy)))), (a2, .inl (cI, 24, .inl SI_2)), (a3, .inl (cI, 24, .inl LK_2)), (a4, .inl (cI, 1536, .inl SS_2)), (a5, .inl (cI, 12, .inl (fun zy => nI (ST_2 zy)))), (a10, .inl (cI, 12, .inl LE_2)), (a11, .inl (cI, 12, .inl GR_2)), (f0, .inr (1, [.int (nI nn), .ref f1, .ref f2, .ref f3, .ref f4])), (f4, .inl (cZ, 7, .inl FA)), (r0, .inr (3, [.int (nI nq), .int HA_13, .ref r1, .ref r2, .ref r3, .ref r4, .ref r5, .ref r6, .ref r7, .ref r8, .ref r9, .ref r10, .ref r11])), (r4, .inl (cI, 40, .inl HE_14)), (r11, .inl (cI, 240, .inl LH_15))] := hD
            refine lv_aload_n hx hb d_PR_keepRound_82 rfl (lv_at hl 7 rfl) ?_
            refine va_get (D := D) (ci := 3) (v := .ref r5) (C := R_PR) (T := F_PR) (N := 13) hx hb hts i_PR hown hK hP 17 rfl rfl 6 (by decide) (hts _ q_122) (fun _ h9 => h9) rfl d_PR_keepRound_83 ?_
            refine lv_iload hx hb d_PR_keepRound_86 (lv_at hl 2 rfl) ?_
            refine lv_dup2_11 hx hb d_PR_keepRound_88 rfl rfl ?_
            refine my_ldI hx hb hK hP 1 rfl q_l rfl (by omega) (by decide) d_PR_keepRound_89 ?_
            refine lv_iconst (v := 1) hx hb d_PR_keepRound_90 (by decide) ?_
            refine lv_iadd hx hb d_PR_keepRound_91 ?_
            refine my_stI hx hb hK hP hD hS 1 rfl q_l rfl (by omega) (by decide) d_PR_keepRound_92 (fun H_16 locs hP hD hS => ?_)
            have hP : va_P D vwCl [(r3, .inl (cI, 40, .inl (fun zy => nI (HO zy)))), (r5, .inl (cI, 40, .inl (upd KE_2 q_l ((KE_2 q_l) + 1)))), (r6, .inl (cZ, 40, .inl TO)), (r7, .inl (cI, 240, .inl (fun zy => nI (LP zy)))), (r8, .inl (cI, 240, .inl (fun zy => nI (LF zy)))), (r9, .inl (cI, 240, .inl LS)), (r10, .inl (cI, 240, .inl LC)), (a0, .inr (2, [.int (nI np), .ref a1, .ref a2, .ref a3, .ref a4, .ref a5, .ref a6, .ref a7, .ref a8, .ref a9, .ref a10, .ref a11])), (a1, .inl (cI, 24, .inl (fun zy => nI (EP zy)))), (a2, .inl (cI, 24, .inl SI_2)), (a3, .inl (cI, 24, .inl LK_2)), (a4, .inl (cI, 1536, .inl SS_2)), (a5, .inl (cI, 12, .inl (fun zy => nI (ST_2 zy)))), (a10, .inl (cI, 12, .inl LE_2)), (a11, .inl (cI, 12, .inl GR_2)), (f0, .inr (1, [.int (nI nn), .ref f1, .ref f2, .ref f3, .ref f4])), (f4, .inl (cZ, 7, .inl FA)), (r0, .inr (3, [.int (nI nq), .int HA_13, .ref r1, .ref r2, .ref r3, .ref r4, .ref r5, .ref r6, .ref r7, .ref r8, .ref r9, .ref r10, .ref r11])), (r4, .inl (cI, 40, .inl HE_14)), (r11, .inl (cI, 240, .inl LH_15))] H_16 := hP
            have hD : va_D A [(r3, .inl (cI, 40, .inl (fun zy => nI (HO zy)))), (r5, .inl (cI, 40, .inl (upd KE_2 q_l ((KE_2 q_l) + 1)))), (r6, .inl (cZ, 40, .inl TO)), (r7, .inl (cI, 240, .inl (fun zy => nI (LP zy)))), (r8, .inl (cI, 240, .inl (fun zy => nI (LF zy)))), (r9, .inl (cI, 240, .inl LS)), (r10, .inl (cI, 240, .inl LC)), (a0, .inr (2, [.int (nI np), .ref a1, .ref a2, .ref a3, .ref a4, .ref a5, .ref a6, .ref a7, .ref a8, .ref a9, .ref a10, .ref a11])), (a1, .inl (cI, 24, .inl (fun zy => nI (EP zy)))), (a2, .inl (cI, 24, .inl SI_2)), (a3, .inl (cI, 24, .inl LK_2)), (a4, .inl (cI, 1536, .inl SS_2)), (a5, .inl (cI, 12, .inl (fun zy => nI (ST_2 zy)))), (a10, .inl (cI, 12, .inl LE_2)), (a11, .inl (cI, 12, .inl GR_2)), (f0, .inr (1, [.int (nI nn), .ref f1, .ref f2, .ref f3, .ref f4])), (f4, .inl (cZ, 7, .inl FA)), (r0, .inr (3, [.int (nI nq), .int HA_13, .ref r1, .ref r2, .ref r3, .ref r4, .ref r5, .ref r6, .ref r7, .ref r8, .ref r9, .ref r10, .ref r11])), (r4, .inl (cI, 40, .inl HE_14)), (r11, .inl (cI, 240, .inl LH_15))] := hD
            refine lv_aload_n hx hb d_PR_keepRound_93 rfl (lv_at hl 5 rfl) ?_
            refine lv_aload_n hx hb d_PR_keepRound_94 rfl (lv_at hl 7 rfl) ?_
            refine va_get (D := D) (ci := 3) (v := .ref r7) (C := R_PR) (T := F_PR) (N := 13) hx hb hts i_PR hown hK hP 17 rfl rfl 8 (by decide) (hts _ q_126) (fun _ h9 => h9) rfl d_PR_keepRound_95 ?_
            refine lv_iload hx hb d_PR_keepRound_98 (lv_at hl 0 rfl) ?_
            refine my_ldN hx hb hK hP 3 rfl ((q_l * 6) + i_l) rfl (by omega) (by decide) d_PR_keepRound_100 ?_
            have hb_2 : LP ((q_l * 6) + i_l) ≤ 11 := h_LP _
            refine lv_aload_n hx hb d_PR_keepRound_101 rfl (lv_at hl 7 rfl) ?_
            refine va_get (D := D) (ci := 3) (v := .ref r8) (C := R_PR) (T := F_PR) (N := 13) hx hb hts i_PR hown hK hP 17 rfl rfl 9 (by decide) (hts _ q_127) (fun _ h9 => h9) rfl d_PR_keepRound_102 ?_
            refine lv_iload hx hb d_PR_keepRound_105 (lv_at hl 0 rfl) ?_
            refine my_ldN hx hb hK hP 4 rfl ((q_l * 6) + i_l) rfl (by omega) (by decide) d_PR_keepRound_107 ?_
            have hb_3 : LF ((q_l * 6) + i_l) ≤ 1 := h_LF _
            refine lv_aload_n hx hb d_PR_keepRound_108 rfl (lv_at hl 7 rfl) ?_
            refine va_get (D := D) (ci := 3) (v := .ref r9) (C := R_PR) (T := F_PR) (N := 13) hx hb hts i_PR hown hK hP 17 rfl rfl 10 (by decide) (hts _ q_128) (fun _ h9 => h9) rfl d_PR_keepRound_109 ?_
            refine lv_iload hx hb d_PR_keepRound_112 (lv_at hl 0 rfl) ?_
            refine my_ldI hx hb hK hP 5 rfl ((q_l * 6) + i_l) rfl (by omega) (by decide) d_PR_keepRound_114 ?_
            have hPc := hP.sub (ws' := [(a0, .inr (2, [.int (nI np), .ref a1, .ref a2, .ref a3, .ref a4, .ref a5, .ref a6, .ref a7, .ref a8, .ref a9, .ref a10, .ref a11])), (a2, .inl (cI, 24, .inl SI_2)), (a3, .inl (cI, 24, .inl LK_2)), (a4, .inl (cI, 1536, .inl SS_2)), (a5, .inl (cI, 12, .inl (fun zy => nI (ST_2 zy)))), (a10, .inl (cI, 12, .inl LE_2)), (a11, .inl (cI, 12, .inl GR_2))]) [7, 9, 10, 11, 12, 13, 14] rfl
            have hDc := hD.sub (ws' := [(a0, .inr (2, [.int (nI np), .ref a1, .ref a2, .ref a3, .ref a4, .ref a5, .ref a6, .ref a7, .ref a8, .ref a9, .ref a10, .ref a11])), (a2, .inl (cI, 24, .inl SI_2)), (a3, .inl (cI, 24, .inl LK_2)), (a4, .inl (cI, 1536, .inl SS_2)), (a5, .inl (cI, 12, .inl (fun zy => nI (ST_2 zy)))), (a10, .inl (cI, 12, .inl LE_2)), (a11, .inl (cI, 12, .inl GR_2))]) [7, 9, 10, 11, 12, 13, 14] (by decide) rfl
            have hFc := va_free (wc := [(a0, .inr (2, [.int (nI np), .ref a1, .ref a2, .ref a3, .ref a4, .ref a5, .ref a6, .ref a7, .ref a8, .ref a9, .ref a10, .ref a11])), (a2, .inl (cI, 24, .inl SI_2)), (a3, .inl (cI, 24, .inl LK_2)), (a4, .inl (cI, 1536, .inl SS_2)), (a5, .inl (cI, 12, .inl (fun zy => nI (ST_2 zy)))), (a10, .inl (cI, 12, .inl LE_2)), (a11, .inl (cI, 12, .inl GR_2))]) hD hS hA [7, 9, 10, 11, 12, 13, 14] rfl
            refine va_callv (va_runV (As := [.int (nI (LP ((q_l * 6) + i_l))), .int (nI (LF ((q_l * 6) + i_l))), .int (LS ((q_l * 6) + i_l))]) (rest := []) ⟨hx, hb, hml, hown, hts⟩ (g_PA_handOver l D cI cZ a0 (LP ((q_l * 6) + i_l)) (LF ((q_l * 6) + i_l)) (LS ((q_l * 6) + i_l)) np a1 a2 a3 a4 a5 a6 a7 a8 a9 a10 a11 SI_2 LK_2 SS_2 ST_2 LE_2 GR_2 H_16.size h_np h_ST_2 (by first | omega | (dsimp only; omega)) (by first | omega | (dsimp only; omega))) (my_cwV 3 hts q_356 q_353 q_354 q_355 q_3 rfl rfl (by decide +kernel) ⟨Nat.le_of_ble_eq_true rfl, Nat.le_of_ble_eq_true rfl⟩) (my_preV hPc hDc hK hN 2 0 rfl rfl) rfl rfl hl.1 rfl (lv_room (Nat.le_of_ble_eq_true rfl)) d_PR_keepRound_115 ⟨Nat.le_of_ble_eq_true rfl, Nat.le_of_ble_eq_true rfl⟩) hS (fun q _ h => hFc q h) hFc (fun uU tT H_18 locs ht hvm hw_17 hB hz1 hk1 hS => ?_)
            obtain ⟨SI_19, LK_20, SS_21, ST_22, LE_23, GR_24⟩ := uU
            obtain ⟨hP1, hD1⟩ := hB
            rw [ht] at hP1
            obtain ⟨hP, hD⟩ := va_join (wr := [(r3, .inl (cI, 40, .inl (fun zy => nI (HO zy)))), (r5, .inl (cI, 40, .inl (upd KE_2 q_l ((KE_2 q_l) + 1)))), (r6, .inl (cZ, 40, .inl TO)), (r7, .inl (cI, 240, .inl (fun zy => nI (LP zy)))), (r8, .inl (cI, 240, .inl (fun zy => nI (LF zy)))), (r9, .inl (cI, 240, .inl LS)), (r10, .inl (cI, 240, .inl LC)), (a1, .inl (cI, 24, .inl (fun zy => nI (EP zy)))), (f0, .inr (1, [.int (nI nn), .ref f1, .ref f2, .ref f3, .ref f4])), (f4, .inl (cZ, 7, .inl FA)), (r0, .inr (3, [.int (nI nq), .int HA_13, .ref r1, .ref r2, .ref r3, .ref r4, .ref r5, .ref r6, .ref r7, .ref r8, .ref r9, .ref r10, .ref r11])), (r4, .inl (cI, 40, .inl HE_14)), (r11, .inl (cI, 240, .inl LH_15))]) (w1 := [(a0, .inr (2, [.int (nI np), .ref a1, .ref a2, .ref a3, .ref a4, .ref a5, .ref a6, .ref a7, .ref a8, .ref a9, .ref a10, .ref a11])), (a2, .inl (cI, 24, .inl SI_19)), (a3, .inl (cI, 24, .inl LK_20)), (a4, .inl (cI, 1536, .inl SS_21)), (a5, .inl (cI, 12, .inl (fun zy => nI (ST_22 zy)))), (a10, .inl (cI, 12, .inl LE_23)), (a11, .inl (cI, 12, .inl GR_24))]) hP hD [7, 9, 10, 11, 12, 13, 14] [0, 1, 2, 3, 4, 5, 6, 8, 15, 16, 17, 18, 19] rfl rfl (by decide) (by decide) hk1 hFc hP1 hD1
            have hP : va_P D vwCl [(r3, .inl (cI, 40, .inl (fun zy => nI (HO zy)))), (r5, .inl (cI, 40, .inl (upd KE_2 q_l ((KE_2 q_l) + 1)))), (r6, .inl (cZ, 40, .inl TO)), (r7, .inl (cI, 240, .inl (fun zy => nI (LP zy)))), (r8, .inl (cI, 240, .inl (fun zy => nI (LF zy)))), (r9, .inl (cI, 240, .inl LS)), (r10, .inl (cI, 240, .inl LC)), (a1, .inl (cI, 24, .inl (fun zy => nI (EP zy)))), (f0, .inr (1, [.int (nI nn), .ref f1, .ref f2, .ref f3, .ref f4])), (f4, .inl (cZ, 7, .inl FA)), (r0, .inr (3, [.int (nI nq), .int HA_13, .ref r1, .ref r2, .ref r3, .ref r4, .ref r5, .ref r6, .ref r7, .ref r8, .ref r9, .ref r10, .ref r11])), (r4, .inl (cI, 40, .inl HE_14)), (r11, .inl (cI, 240, .inl LH_15)), (a0, .inr (2, [.int (nI np), .ref a1, .ref a2, .ref a3, .ref a4, .ref a5, .ref a6, .ref a7, .ref a8, .ref a9, .ref a10, .ref a11])), (a2, .inl (cI, 24, .inl SI_19)), (a3, .inl (cI, 24, .inl LK_20)), (a4, .inl (cI, 1536, .inl SS_21)), (a5, .inl (cI, 12, .inl (fun zy => nI (ST_22 zy)))), (a10, .inl (cI, 12, .inl LE_23)), (a11, .inl (cI, 12, .inl GR_24))] H_18 := hP
            have hD : va_D A [(r3, .inl (cI, 40, .inl (fun zy => nI (HO zy)))), (r5, .inl (cI, 40, .inl (upd KE_2 q_l ((KE_2 q_l) + 1)))), (r6, .inl (cZ, 40, .inl TO)), (r7, .inl (cI, 240, .inl (fun zy => nI (LP zy)))), (r8, .inl (cI, 240, .inl (fun zy => nI (LF zy)))), (r9, .inl (cI, 240, .inl LS)), (r10, .inl (cI, 240, .inl LC)), (a1, .inl (cI, 24, .inl (fun zy => nI (EP zy)))), (f0, .inr (1, [.int (nI nn), .ref f1, .ref f2, .ref f3, .ref f4])), (f4, .inl (cZ, 7, .inl FA)), (r0, .inr (3, [.int (nI nq), .int HA_13, .ref r1, .ref r2, .ref r3, .ref r4, .ref r5, .ref r6, .ref r7, .ref r8, .ref r9, .ref r10, .ref r11])), (r4, .inl (cI, 40, .inl HE_14)), (r11, .inl (cI, 240, .inl LH_15)), (a0, .inr (2, [.int (nI np), .ref a1, .ref a2, .ref a3, .ref a4, .ref a5, .ref a6, .ref a7, .ref a8, .ref a9, .ref a10, .ref a11])), (a2, .inl (cI, 24, .inl SI_19)), (a3, .inl (cI, 24, .inl LK_20)), (a4, .inl (cI, 1536, .inl SS_21)), (a5, .inl (cI, 12, .inl (fun zy => nI (ST_22 zy)))), (a10, .inl (cI, 12, .inl LE_23)), (a11, .inl (cI, 12, .inl GR_24))] := hD
            have hw_17 : (∀ zz, ST_22 zz ≤ 64) ∧ (∀ qq, 1 ≤ ST_2 qq → 1 ≤ ST_22 qq) := hw_17
            obtain ⟨hf_24_0, hf_24_1⟩ := hw_17
            have hf_24_0 : ∀ zz, ST_22 zz ≤ 64 := hf_24_0
            have hf_24_1 : ∀ qq, 1 ≤ ST_2 qq → 1 ≤ ST_22 qq := hf_24_1
            refine lv_iinc (v := sm2_v + 1) (lv' := [(4, .int (sm2_v + 1)), (7, .int (nI ((q_l * 6) + i_l))), (6, .int (nI i_l)), (5, .int (nI q_l)), (3, .int v), (2, .ref a0), (1, .ref f0), (0, .ref r0)]) hx hb d_PR_keepRound_118 hl (k := 3) rfl (rfl) (by decide) rfl (fun ls hl => ?_)
            refine lv_iinc (v := nI (i_l + 1)) (lv' := [(6, .int (nI (i_l + 1))), (4, .int (sm2_v + 1)), (7, .int (nI ((q_l * 6) + i_l))), (5, .int (nI q_l)), (3, .int v), (2, .ref a0), (1, .ref f0), (0, .ref r0)]) hx hb d_PR_keepRound_121 hl (k := 2) rfl (nI_1 i_l) (by decide) rfl (fun ls hl => ?_)
            refine lv_goto (tgt := 18) hx hb d_PR_keepRound_124 (by decide) ?_
            have hPz := hP.sub (ws' := [(r0, .inr (3, [.int (nI nq), .int HA_13, .ref r1, .ref r2, .ref r3, .ref r4, .ref r5, .ref r6, .ref r7, .ref r8, .ref r9, .ref r10, .ref r11])), (r3, .inl (cI, 40, .inl (fun zy => nI (HO zy)))), (r4, .inl (cI, 40, .inl HE_14)), (r5, .inl (cI, 40, .inl (upd KE_2 q_l ((KE_2 q_l) + 1)))), (r6, .inl (cZ, 40, .inl TO)), (r7, .inl (cI, 240, .inl (fun zy => nI (LP zy)))), (r8, .inl (cI, 240, .inl (fun zy => nI (LF zy)))), (r9, .inl (cI, 240, .inl LS)), (r10, .inl (cI, 240, .inl LC)), (r11, .inl (cI, 240, .inl LH_15)), (a0, .inr (2, [.int (nI np), .ref a1, .ref a2, .ref a3, .ref a4, .ref a5, .ref a6, .ref a7, .ref a8, .ref a9, .ref a10, .ref a11])), (a1, .inl (cI, 24, .inl (fun zy => nI (EP zy)))), (a2, .inl (cI, 24, .inl SI_19)), (a3, .inl (cI, 24, .inl LK_20)), (a4, .inl (cI, 1536, .inl SS_21)), (a5, .inl (cI, 12, .inl (fun zy => nI (ST_22 zy)))), (a10, .inl (cI, 12, .inl LE_23)), (a11, .inl (cI, 12, .inl GR_24)), (f0, .inr (1, [.int (nI nn), .ref f1, .ref f2, .ref f3, .ref f4])), (f4, .inl (cZ, 7, .inl FA))]) [10, 0, 11, 1, 2, 3, 4, 5, 6, 12, 13, 7, 14, 15, 16, 17, 18, 19, 8, 9] rfl
            have hDz := hD.sub (ws' := [(r0, .inr (3, [.int (nI nq), .int HA_13, .ref r1, .ref r2, .ref r3, .ref r4, .ref r5, .ref r6, .ref r7, .ref r8, .ref r9, .ref r10, .ref r11])), (r3, .inl (cI, 40, .inl (fun zy => nI (HO zy)))), (r4, .inl (cI, 40, .inl HE_14)), (r5, .inl (cI, 40, .inl (upd KE_2 q_l ((KE_2 q_l) + 1)))), (r6, .inl (cZ, 40, .inl TO)), (r7, .inl (cI, 240, .inl (fun zy => nI (LP zy)))), (r8, .inl (cI, 240, .inl (fun zy => nI (LF zy)))), (r9, .inl (cI, 240, .inl LS)), (r10, .inl (cI, 240, .inl LC)), (r11, .inl (cI, 240, .inl LH_15)), (a0, .inr (2, [.int (nI np), .ref a1, .ref a2, .ref a3, .ref a4, .ref a5, .ref a6, .ref a7, .ref a8, .ref a9, .ref a10, .ref a11])), (a1, .inl (cI, 24, .inl (fun zy => nI (EP zy)))), (a2, .inl (cI, 24, .inl SI_19)), (a3, .inl (cI, 24, .inl LK_20)), (a4, .inl (cI, 1536, .inl SS_21)), (a5, .inl (cI, 12, .inl (fun zy => nI (ST_22 zy)))), (a10, .inl (cI, 12, .inl LE_23)), (a11, .inl (cI, 12, .inl GR_24)), (f0, .inr (1, [.int (nI nn), .ref f1, .ref f2, .ref f3, .ref f4])), (f4, .inl (cZ, 7, .inl FA))]) [10, 0, 11, 1, 2, 3, 4, 5, 6, 12, 13, 7, 14, 15, 16, 17, 18, 19, 8, 9] (by decide) rfl
            exact ih2 ((i_l + 1), sm2_v + 1, HA_13, HE_14, (upd KE_2 q_l ((KE_2 q_l) + 1)), LH_15, SI_19, LK_20, SS_21, ST_22, LE_23, GR_24) _ _ _ (by first | omega | (dsimp only; omega)) ⟨hf_24_0, (by first | omega | (dsimp only; omega)), (fun qq h => hf_24_1 qq (hs2 qq h)), hPz, hDz, hS, lv_sub hl [0, 3, 1, 4, 5, 6, 7] rfl⟩

set_option maxHeartbeats 4000000 in
set_option maxRecDepth 100000 in
theorem g_PR_keepAll (l : Launch) (D : va_G) (cI cZ : ClassId) (r0 : Nat) (f0 : Nat) (a0 : Nat) (v : Int32) (nq : Nat) (HA : Int32) (r1 : Nat) (r2 : Nat) (r3 : Nat) (r4 : Nat) (r5 : Nat) (r6 : Nat) (r7 : Nat) (r8 : Nat) (r9 : Nat) (r10 : Nat) (r11 : Nat) (HO : Nat → Nat) (HE : Nat → Int32) (KE : Nat → Int32) (TO : Nat → Int32) (LP : Nat → Nat) (LF : Nat → Nat) (LS : Nat → Int32) (LC : Nat → Int32) (LH : Nat → Int32) (np : Nat) (a1 : Nat) (a2 : Nat) (a3 : Nat) (a4 : Nat) (a5 : Nat) (a6 : Nat) (a7 : Nat) (a8 : Nat) (a9 : Nat) (a10 : Nat) (a11 : Nat) (EP : Nat → Nat) (SI : Nat → Int32) (LK : Nat → Int32) (SS : Nat → Int32) (ST : Nat → Nat) (LE : Nat → Int32) (GR : Nat → Int32) (nn : Nat) (f1 : Nat) (f2 : Nat) (f3 : Nat) (f4 : Nat) (FA : Nat → Int32) (sz : Nat) (h_nq : nq ≤ 40) (h_HO : ∀ zz, HO zz ≤ 6) (h_LP : ∀ zz, LP zz ≤ 11) (h_LF : ∀ zz, LF zz ≤ 1) (h_np : np ≤ 12) (h_EP : ∀ zz, EP zz ≤ 6) (h_ST : ∀ zz, ST zz ≤ 64) (h_nn : nn ≤ 7) (hz : ∀ zz, narrow .boolean (.int (TO zz)) = .int (TO zz)) : Met l ⟨"PromiseChains$Promises", "keepAll", "(LPromiseChains$People;LPromiseChains$Pairs;I)I"⟩ (mw ⟨"PromiseChains$Promises", "keepAll", "(LPromiseChains$People;LPromiseChains$Pairs;I)I"⟩ prog_4_method_8_code 7 (some .int)) ({ frames := 4, cells := 0, slots := 0, locals := 96 }) (va_Pc [.ref r0, .ref f0, .ref a0, .int v] (PB D cI cZ sz [(r0, .inr (3, [.int (nI nq), .int HA, .ref r1, .ref r2, .ref r3, .ref r4, .ref r5, .ref r6, .ref r7, .ref r8, .ref r9, .ref r10, .ref r11])), (r3, .inl (cI, 40, .inl (fun zy => nI (HO zy)))), (r4, .inl (cI, 40, .inl HE)), (r5, .inl (cI, 40, .inl KE)), (r6, .inl (cZ, 40, .inl TO)), (r7, .inl (cI, 240, .inl (fun zy => nI (LP zy)))), (r8, .inl (cI, 240, .inl (fun zy => nI (LF zy)))), (r9, .inl (cI, 240, .inl LS)), (r10, .inl (cI, 240, .inl LC)), (r11, .inl (cI, 240, .inl LH)), (a0, .inr (2, [.int (nI np), .ref a1, .ref a2, .ref a3, .ref a4, .ref a5, .ref a6, .ref a7, .ref a8, .ref a9, .ref a10, .ref a11])), (a1, .inl (cI, 24, .inl (fun zy => nI (EP zy)))), (a2, .inl (cI, 24, .inl SI)), (a3, .inl (cI, 24, .inl LK)), (a4, .inl (cI, 1536, .inl SS)), (a5, .inl (cI, 12, .inl (fun zy => nI (ST zy)))), (a10, .inl (cI, 12, .inl LE)), (a11, .inl (cI, 12, .inl GR)), (f0, .inr (1, [.int (nI nn), .ref f1, .ref f2, .ref f3, .ref f4])), (f4, .inl (cZ, 7, .inl FA))])) (va_Qi (S := Int32 × (Nat → Int32) × (Nat → Int32) × (Nat → Int32) × (Nat → Int32) × (Nat → Int32) × (Nat → Int32) × (Nat → Nat) × (Nat → Int32) × (Nat → Int32)) (fun (r : Int32) uU => (∀ zz, uU.2.2.2.2.2.2.2.1 zz ≤ 64) ∧ (∀ qq, 1 ≤ ST qq → 1 ≤ uU.2.2.2.2.2.2.2.1 qq)) (fun uU tT => BB D (va_A [(r0, .inr (3, [.int (nI nq), .int HA, .ref r1, .ref r2, .ref r3, .ref r4, .ref r5, .ref r6, .ref r7, .ref r8, .ref r9, .ref r10, .ref r11])), (r3, .inl (cI, 40, .inl (fun zy => nI (HO zy)))), (r4, .inl (cI, 40, .inl HE)), (r5, .inl (cI, 40, .inl KE)), (r6, .inl (cZ, 40, .inl TO)), (r7, .inl (cI, 240, .inl (fun zy => nI (LP zy)))), (r8, .inl (cI, 240, .inl (fun zy => nI (LF zy)))), (r9, .inl (cI, 240, .inl LS)), (r10, .inl (cI, 240, .inl LC)), (r11, .inl (cI, 240, .inl LH)), (a0, .inr (2, [.int (nI np), .ref a1, .ref a2, .ref a3, .ref a4, .ref a5, .ref a6, .ref a7, .ref a8, .ref a9, .ref a10, .ref a11])), (a1, .inl (cI, 24, .inl (fun zy => nI (EP zy)))), (a2, .inl (cI, 24, .inl SI)), (a3, .inl (cI, 24, .inl LK)), (a4, .inl (cI, 1536, .inl SS)), (a5, .inl (cI, 12, .inl (fun zy => nI (ST zy)))), (a10, .inl (cI, 12, .inl LE)), (a11, .inl (cI, 12, .inl GR)), (f0, .inr (1, [.int (nI nn), .ref f1, .ref f2, .ref f3, .ref f4])), (f4, .inl (cZ, 7, .inl FA))] sz) [(r0, .inr (3, [.int (nI nq), .int (uU.1), .ref r1, .ref r2, .ref r3, .ref r4, .ref r5, .ref r6, .ref r7, .ref r8, .ref r9, .ref r10, .ref r11])), (r3, .inl (cI, 40, .inl (fun zy => nI (HO zy)))), (r4, .inl (cI, 40, .inl (uU.2.1))), (r5, .inl (cI, 40, .inl (uU.2.2.1))), (r6, .inl (cZ, 40, .inl TO)), (r7, .inl (cI, 240, .inl (fun zy => nI (LP zy)))), (r8, .inl (cI, 240, .inl (fun zy => nI (LF zy)))), (r9, .inl (cI, 240, .inl LS)), (r10, .inl (cI, 240, .inl LC)), (r11, .inl (cI, 240, .inl (uU.2.2.2.1))), (a0, .inr (2, [.int (nI np), .ref a1, .ref a2, .ref a3, .ref a4, .ref a5, .ref a6, .ref a7, .ref a8, .ref a9, .ref a10, .ref a11])), (a1, .inl (cI, 24, .inl (fun zy => nI (EP zy)))), (a2, .inl (cI, 24, .inl (uU.2.2.2.2.1))), (a3, .inl (cI, 24, .inl (uU.2.2.2.2.2.1))), (a4, .inl (cI, 1536, .inl (uU.2.2.2.2.2.2.1))), (a5, .inl (cI, 12, .inl (fun zy => nI ((uU.2.2.2.2.2.2.2.1) zy)))), (a10, .inl (cI, 12, .inl (uU.2.2.2.2.2.2.2.2.1))), (a11, .inl (cI, 12, .inl (uU.2.2.2.2.2.2.2.2.2))), (f0, .inr (1, [.int (nI nn), .ref f1, .ref f2, .ref f3, .ref f4])), (f4, .inl (cZ, 7, .inl FA))] tT) (va_A [(r0, .inr (3, [.int (nI nq), .int HA, .ref r1, .ref r2, .ref r3, .ref r4, .ref r5, .ref r6, .ref r7, .ref r8, .ref r9, .ref r10, .ref r11])), (r3, .inl (cI, 40, .inl (fun zy => nI (HO zy)))), (r4, .inl (cI, 40, .inl HE)), (r5, .inl (cI, 40, .inl KE)), (r6, .inl (cZ, 40, .inl TO)), (r7, .inl (cI, 240, .inl (fun zy => nI (LP zy)))), (r8, .inl (cI, 240, .inl (fun zy => nI (LF zy)))), (r9, .inl (cI, 240, .inl LS)), (r10, .inl (cI, 240, .inl LC)), (r11, .inl (cI, 240, .inl LH)), (a0, .inr (2, [.int (nI np), .ref a1, .ref a2, .ref a3, .ref a4, .ref a5, .ref a6, .ref a7, .ref a8, .ref a9, .ref a10, .ref a11])), (a1, .inl (cI, 24, .inl (fun zy => nI (EP zy)))), (a2, .inl (cI, 24, .inl SI)), (a3, .inl (cI, 24, .inl LK)), (a4, .inl (cI, 1536, .inl SS)), (a5, .inl (cI, 12, .inl (fun zy => nI (ST zy)))), (a10, .inl (cI, 12, .inl LE)), (a11, .inl (cI, 12, .inl GR)), (f0, .inr (1, [.int (nI nn), .ref f1, .ref f2, .ref f3, .ref f4])), (f4, .inl (cZ, 7, .inl FA))] sz)) 0 0 (va_A [(r0, .inr (3, [.int (nI nq), .int HA, .ref r1, .ref r2, .ref r3, .ref r4, .ref r5, .ref r6, .ref r7, .ref r8, .ref r9, .ref r10, .ref r11])), (r3, .inl (cI, 40, .inl (fun zy => nI (HO zy)))), (r4, .inl (cI, 40, .inl HE)), (r5, .inl (cI, 40, .inl KE)), (r6, .inl (cZ, 40, .inl TO)), (r7, .inl (cI, 240, .inl (fun zy => nI (LP zy)))), (r8, .inl (cI, 240, .inl (fun zy => nI (LF zy)))), (r9, .inl (cI, 240, .inl LS)), (r10, .inl (cI, 240, .inl LC)), (r11, .inl (cI, 240, .inl LH)), (a0, .inr (2, [.int (nI np), .ref a1, .ref a2, .ref a3, .ref a4, .ref a5, .ref a6, .ref a7, .ref a8, .ref a9, .ref a10, .ref a11])), (a1, .inl (cI, 24, .inl (fun zy => nI (EP zy)))), (a2, .inl (cI, 24, .inl SI)), (a3, .inl (cI, 24, .inl LK)), (a4, .inl (cI, 1536, .inl SS)), (a5, .inl (cI, 12, .inl (fun zy => nI (ST zy)))), (a10, .inl (cI, 12, .inl LE)), (a11, .inl (cI, 12, .inl GR)), (f0, .inr (1, [.int (nI nn), .ref f1, .ref f2, .ref f3, .ref f4])), (f4, .inl (cZ, 7, .inl FA))] sz) := by
  refine Met.ofW (cc := prog_4_method_8_code) (maxL := 7) (ret := (some .int)) (by decide) rfl ?_
  intro p e s m args below meth c s₁ B hml hv
  obtain ⟨rfl, hsz, hP, hK, hD0, hN⟩ := hv
  have hx := B.exec
  have hb := B.bytes
  have hr := B.returns
  have hts0 := atoms_spec (ws := mw ⟨"PromiseChains$Promises", "keepAll", "(LPromiseChains$People;LPromiseChains$Pairs;I)I"⟩ prog_4_method_8_code 7 (some .int)) B.pre
  have hts : ∀ w ∈ tblG, w.before _ s = true := fun w h => hts0 w (List.mem_cons_of_mem _ h)
  have hown : s.vm.findClass "PromiseChains$Promises" = some m.cls := findClass_of_methodNamed B.named
  have hlocks := B.notSynchronized
  subst hsz
  have hD := hD0.self (sz := s.heap.size)
  generalize hAe : va_A [(r0, .inr (3, [.int (nI nq), .int HA, .ref r1, .ref r2, .ref r3, .ref r4, .ref r5, .ref r6, .ref r7, .ref r8, .ref r9, .ref r10, .ref r11])), (r3, .inl (cI, 40, .inl (fun zy => nI (HO zy)))), (r4, .inl (cI, 40, .inl HE)), (r5, .inl (cI, 40, .inl KE)), (r6, .inl (cZ, 40, .inl TO)), (r7, .inl (cI, 240, .inl (fun zy => nI (LP zy)))), (r8, .inl (cI, 240, .inl (fun zy => nI (LF zy)))), (r9, .inl (cI, 240, .inl LS)), (r10, .inl (cI, 240, .inl LC)), (r11, .inl (cI, 240, .inl LH)), (a0, .inr (2, [.int (nI np), .ref a1, .ref a2, .ref a3, .ref a4, .ref a5, .ref a6, .ref a7, .ref a8, .ref a9, .ref a10, .ref a11])), (a1, .inl (cI, 24, .inl (fun zy => nI (EP zy)))), (a2, .inl (cI, 24, .inl SI)), (a3, .inl (cI, 24, .inl LK)), (a4, .inl (cI, 1536, .inl SS)), (a5, .inl (cI, 12, .inl (fun zy => nI (ST zy)))), (a10, .inl (cI, 12, .inl LE)), (a11, .inl (cI, 12, .inl GR)), (f0, .inr (1, [.int (nI nn), .ref f1, .ref f2, .ref f3, .ref f4])), (f4, .inl (cZ, 7, .inl FA))] s.heap.size = A at hD ⊢
  have hA : ∀ q : Nat, s.heap.size ≤ q → A q := fun q h => by rw [← hAe]; exact Or.inr h
  have hS : va_S A s.heap s.heap [] := va_S.rf
  have hP : va_P D vwCl [(r0, .inr (3, [.int (nI nq), .int HA, .ref r1, .ref r2, .ref r3, .ref r4, .ref r5, .ref r6, .ref r7, .ref r8, .ref r9, .ref r10, .ref r11])), (r3, .inl (cI, 40, .inl (fun zy => nI (HO zy)))), (r4, .inl (cI, 40, .inl HE)), (r5, .inl (cI, 40, .inl KE)), (r6, .inl (cZ, 40, .inl TO)), (r7, .inl (cI, 240, .inl (fun zy => nI (LP zy)))), (r8, .inl (cI, 240, .inl (fun zy => nI (LF zy)))), (r9, .inl (cI, 240, .inl LS)), (r10, .inl (cI, 240, .inl LC)), (r11, .inl (cI, 240, .inl LH)), (a0, .inr (2, [.int (nI np), .ref a1, .ref a2, .ref a3, .ref a4, .ref a5, .ref a6, .ref a7, .ref a8, .ref a9, .ref a10, .ref a11])), (a1, .inl (cI, 24, .inl (fun zy => nI (EP zy)))), (a2, .inl (cI, 24, .inl SI)), (a3, .inl (cI, 24, .inl LK)), (a4, .inl (cI, 1536, .inl SS)), (a5, .inl (cI, 12, .inl (fun zy => nI (ST zy)))), (a10, .inl (cI, 12, .inl LE)), (a11, .inl (cI, 12, .inl GR)), (f0, .inr (1, [.int (nI nn), .ref f1, .ref f2, .ref f3, .ref f4])), (f4, .inl (cZ, 7, .inl FA))] s.heap := hP
  have hl := lv_entry ([.ref r0, .ref f0, .ref a0, .int v]) (n := 7) (Nat.le_of_ble_eq_true rfl)
  rw [lg_entry_eq]
  generalize (lg_sl ([.ref r0, .ref f0, .ref a0, .int v]) ++ List.replicate (7 - (lg_sl ([.ref r0, .ref f0, .ref a0, .int v])).length) Slot.unset).toArray = ls at hl ⊢
  have hl : lv_has ls 7 [(0, .ref r0), (1, .ref f0), (2, .ref a0), (3, .int v)] := hl
  refine lv_iconst (v := 0) hx hb d_PR_keepAll_0 (by decide) ?_
  refine lv_istore (lv' := [(4, .int 0), (0, .ref r0), (1, .ref f0), (2, .ref a0), (3, .int v)]) hx hb d_PR_keepAll_1 hl (by decide) rfl (fun ls hl => ?_)
  refine lv_iconst (v := 0) hx hb d_PR_keepAll_3 (by decide) ?_
  refine lv_istore (lv' := [(5, .int 0), (4, .int 0), (0, .ref r0), (1, .ref f0), (2, .ref a0), (3, .int v)]) hx hb d_PR_keepAll_4 hl (by decide) rfl (fun ls hl => ?_)
  refine W_loop (σ := Nat × Int32 × Int32 × (Nat → Int32) × (Nat → Int32) × (Nat → Int32) × (Nat → Int32) × (Nat → Int32) × (Nat → Int32) × (Nat → Nat) × (Nat → Int32) × (Nat → Int32)) (I := fun xX H locs ls => (∀ zz, xX.2.2.2.2.2.2.2.2.2.1 zz ≤ 64) ∧ xX.1 ≤ 240 ∧ (∀ qq, 1 ≤ ST qq → 1 ≤ xX.2.2.2.2.2.2.2.2.2.1 qq) ∧ va_P D vwCl [(r0, .inr (3, [.int (nI nq), .int xX.2.2.1, .ref r1, .ref r2, .ref r3, .ref r4, .ref r5, .ref r6, .ref r7, .ref r8, .ref r9, .ref r10, .ref r11])), (r3, .inl (cI, 40, .inl (fun zy => nI (HO zy)))), (r4, .inl (cI, 40, .inl xX.2.2.2.1)), (r5, .inl (cI, 40, .inl xX.2.2.2.2.1)), (r6, .inl (cZ, 40, .inl TO)), (r7, .inl (cI, 240, .inl (fun zy => nI (LP zy)))), (r8, .inl (cI, 240, .inl (fun zy => nI (LF zy)))), (r9, .inl (cI, 240, .inl LS)), (r10, .inl (cI, 240, .inl LC)), (r11, .inl (cI, 240, .inl xX.2.2.2.2.2.1)), (a0, .inr (2, [.int (nI np), .ref a1, .ref a2, .ref a3, .ref a4, .ref a5, .ref a6, .ref a7, .ref a8, .ref a9, .ref a10, .ref a11])), (a1, .inl (cI, 24, .inl (fun zy => nI (EP zy)))), (a2, .inl (cI, 24, .inl xX.2.2.2.2.2.2.1)), (a3, .inl (cI, 24, .inl xX.2.2.2.2.2.2.2.1)), (a4, .inl (cI, 1536, .inl xX.2.2.2.2.2.2.2.2.1)), (a5, .inl (cI, 12, .inl (fun zy => nI (xX.2.2.2.2.2.2.2.2.2.1 zy)))), (a10, .inl (cI, 12, .inl xX.2.2.2.2.2.2.2.2.2.2.1)), (a11, .inl (cI, 12, .inl xX.2.2.2.2.2.2.2.2.2.2.2)), (f0, .inr (1, [.int (nI nn), .ref f1, .ref f2, .ref f3, .ref f4])), (f4, .inl (cZ, 7, .inl FA))] H ∧ va_D A [(r0, .inr (3, [.int (nI nq), .int xX.2.2.1, .ref r1, .ref r2, .ref r3, .ref r4, .ref r5, .ref r6, .ref r7, .ref r8, .ref r9, .ref r10, .ref r11])), (r3, .inl (cI, 40, .inl (fun zy => nI (HO zy)))), (r4, .inl (cI, 40, .inl xX.2.2.2.1)), (r5, .inl (cI, 40, .inl xX.2.2.2.2.1)), (r6, .inl (cZ, 40, .inl TO)), (r7, .inl (cI, 240, .inl (fun zy => nI (LP zy)))), (r8, .inl (cI, 240, .inl (fun zy => nI (LF zy)))), (r9, .inl (cI, 240, .inl LS)), (r10, .inl (cI, 240, .inl LC)), (r11, .inl (cI, 240, .inl xX.2.2.2.2.2.1)), (a0, .inr (2, [.int (nI np), .ref a1, .ref a2, .ref a3, .ref a4, .ref a5, .ref a6, .ref a7, .ref a8, .ref a9, .ref a10, .ref a11])), (a1, .inl (cI, 24, .inl (fun zy => nI (EP zy)))), (a2, .inl (cI, 24, .inl xX.2.2.2.2.2.2.1)), (a3, .inl (cI, 24, .inl xX.2.2.2.2.2.2.2.1)), (a4, .inl (cI, 1536, .inl xX.2.2.2.2.2.2.2.2.1)), (a5, .inl (cI, 12, .inl (fun zy => nI (xX.2.2.2.2.2.2.2.2.2.1 zy)))), (a10, .inl (cI, 12, .inl xX.2.2.2.2.2.2.2.2.2.2.1)), (a11, .inl (cI, 12, .inl xX.2.2.2.2.2.2.2.2.2.2.2)), (f0, .inr (1, [.int (nI nn), .ref f1, .ref f2, .ref f3, .ref f4])), (f4, .inl (cZ, 7, .inl FA))] ∧ va_S A s.heap H locs ∧ lv_has ls 7 [(5, .int (nI xX.1)), (4, .int xX.2.1), (3, .int v), (2, .ref a0), (1, .ref f0), (0, .ref r0)]) (μ := fun xX => 241 - xX.1) ?_ (0, 0, HA, HE, KE, LH, SI, LK, SS, ST, LE, GR) ⟨h_ST, (by first | omega | (dsimp only; omega)), (fun _ h => h), hP, hD, hS, lv_sub hl [0, 1, 5, 4, 3, 2] rfl⟩
  intro xX H_1 locs ls hI ih1
  obtain ⟨i_l, sm_v, ha_v, HE_1, KE_1, LH_1, SI_1, LK_1, SS_1, ST_1, LE_1, GR_1⟩ := xX
  obtain ⟨h_ST_1, hi, hs, hP, hD, hS, hl⟩ := hI
  have hP : va_P D vwCl [(r0, .inr (3, [.int (nI nq), .int ha_v, .ref r1, .ref r2, .ref r3, .ref r4, .ref r5, .ref r6, .ref r7, .ref r8, .ref r9, .ref r10, .ref r11])), (r3, .inl (cI, 40, .inl (fun zy => nI (HO zy)))), (r4, .inl (cI, 40, .inl HE_1)), (r5, .inl (cI, 40, .inl KE_1)), (r6, .inl (cZ, 40, .inl TO)), (r7, .inl (cI, 240, .inl (fun zy => nI (LP zy)))), (r8, .inl (cI, 240, .inl (fun zy => nI (LF zy)))), (r9, .inl (cI, 240, .inl LS)), (r10, .inl (cI, 240, .inl LC)), (r11, .inl (cI, 240, .inl LH_1)), (a0, .inr (2, [.int (nI np), .ref a1, .ref a2, .ref a3, .ref a4, .ref a5, .ref a6, .ref a7, .ref a8, .ref a9, .ref a10, .ref a11])), (a1, .inl (cI, 24, .inl (fun zy => nI (EP zy)))), (a2, .inl (cI, 24, .inl SI_1)), (a3, .inl (cI, 24, .inl LK_1)), (a4, .inl (cI, 1536, .inl SS_1)), (a5, .inl (cI, 12, .inl (fun zy => nI (ST_1 zy)))), (a10, .inl (cI, 12, .inl LE_1)), (a11, .inl (cI, 12, .inl GR_1)), (f0, .inr (1, [.int (nI nn), .ref f1, .ref f2, .ref f3, .ref f4])), (f4, .inl (cZ, 7, .inl FA))] H_1 := hP
  have hD : va_D A [(r0, .inr (3, [.int (nI nq), .int ha_v, .ref r1, .ref r2, .ref r3, .ref r4, .ref r5, .ref r6, .ref r7, .ref r8, .ref r9, .ref r10, .ref r11])), (r3, .inl (cI, 40, .inl (fun zy => nI (HO zy)))), (r4, .inl (cI, 40, .inl HE_1)), (r5, .inl (cI, 40, .inl KE_1)), (r6, .inl (cZ, 40, .inl TO)), (r7, .inl (cI, 240, .inl (fun zy => nI (LP zy)))), (r8, .inl (cI, 240, .inl (fun zy => nI (LF zy)))), (r9, .inl (cI, 240, .inl LS)), (r10, .inl (cI, 240, .inl LC)), (r11, .inl (cI, 240, .inl LH_1)), (a0, .inr (2, [.int (nI np), .ref a1, .ref a2, .ref a3, .ref a4, .ref a5, .ref a6, .ref a7, .ref a8, .ref a9, .ref a10, .ref a11])), (a1, .inl (cI, 24, .inl (fun zy => nI (EP zy)))), (a2, .inl (cI, 24, .inl SI_1)), (a3, .inl (cI, 24, .inl LK_1)), (a4, .inl (cI, 1536, .inl SS_1)), (a5, .inl (cI, 12, .inl (fun zy => nI (ST_1 zy)))), (a10, .inl (cI, 12, .inl LE_1)), (a11, .inl (cI, 12, .inl GR_1)), (f0, .inr (1, [.int (nI nn), .ref f1, .ref f2, .ref f3, .ref f4])), (f4, .inl (cZ, 7, .inl FA))] := hD
  have hl : lv_has ls 7 [(5, .int (nI i_l)), (4, .int sm_v), (3, .int v), (2, .ref a0), (1, .ref f0), (0, .ref r0)] := hl
  have h_ST_1 : ∀ zz, ST_1 zz ≤ 64 := h_ST_1
  have hi : i_l ≤ 240 := hi
  have hs : ∀ qq, 1 ≤ ST qq → 1 ≤ ST_1 qq := hs
  refine lv_iload hx hb d_PR_keepAll_6 (lv_at hl 0 rfl) ?_
  refine lv_sipush (v := 240) hx hb d_PR_keepAll_8 (by decide) ?_
  refine lv_icmp_ge (tgt := 44) hx hb d_PR_keepAll_11 (by decide) (fun h_2 => ?_) (fun h_2 => ?_)
  · have nh_2 : 240 ≤ i_l := (nI_leI (a := 240) (b := i_l) (by omega) (by omega)).mp h_2
    refine lv_iload hx hb d_PR_keepAll_44 (lv_at hl 1 rfl) ?_
    have hP9 := hP.sub (ws' := [(r0, .inr (3, [.int (nI nq), .int ha_v, .ref r1, .ref r2, .ref r3, .ref r4, .ref r5, .ref r6, .ref r7, .ref r8, .ref r9, .ref r10, .ref r11])), (r3, .inl (cI, 40, .inl (fun zy => nI (HO zy)))), (r4, .inl (cI, 40, .inl HE_1)), (r5, .inl (cI, 40, .inl KE_1)), (r6, .inl (cZ, 40, .inl TO)), (r7, .inl (cI, 240, .inl (fun zy => nI (LP zy)))), (r8, .inl (cI, 240, .inl (fun zy => nI (LF zy)))), (r9, .inl (cI, 240, .inl LS)), (r10, .inl (cI, 240, .inl LC)), (r11, .inl (cI, 240, .inl LH_1)), (a0, .inr (2, [.int (nI np), .ref a1, .ref a2, .ref a3, .ref a4, .ref a5, .ref a6, .ref a7, .ref a8, .ref a9, .ref a10, .ref a11])), (a1, .inl (cI, 24, .inl (fun zy => nI (EP zy)))), (a2, .inl (cI, 24, .inl SI_1)), (a3, .inl (cI, 24, .inl LK_1)), (a4, .inl (cI, 1536, .inl SS_1)), (a5, .inl (cI, 12, .inl (fun zy => nI (ST_1 zy)))), (a10, .inl (cI, 12, .inl LE_1)), (a11, .inl (cI, 12, .inl GR_1)), (f0, .inr (1, [.int (nI nn), .ref f1, .ref f2, .ref f3, .ref f4])), (f4, .inl (cZ, 7, .inl FA))]) [0, 1, 2, 3, 4, 5, 6, 7, 8, 9, 10, 11, 12, 13, 14, 15, 16, 17, 18, 19] rfl
    have hD9 := hD.sub (ws' := [(r0, .inr (3, [.int (nI nq), .int ha_v, .ref r1, .ref r2, .ref r3, .ref r4, .ref r5, .ref r6, .ref r7, .ref r8, .ref r9, .ref r10, .ref r11])), (r3, .inl (cI, 40, .inl (fun zy => nI (HO zy)))), (r4, .inl (cI, 40, .inl HE_1)), (r5, .inl (cI, 40, .inl KE_1)), (r6, .inl (cZ, 40, .inl TO)), (r7, .inl (cI, 240, .inl (fun zy => nI (LP zy)))), (r8, .inl (cI, 240, .inl (fun zy => nI (LF zy)))), (r9, .inl (cI, 240, .inl LS)), (r10, .inl (cI, 240, .inl LC)), (r11, .inl (cI, 240, .inl LH_1)), (a0, .inr (2, [.int (nI np), .ref a1, .ref a2, .ref a3, .ref a4, .ref a5, .ref a6, .ref a7, .ref a8, .ref a9, .ref a10, .ref a11])), (a1, .inl (cI, 24, .inl (fun zy => nI (EP zy)))), (a2, .inl (cI, 24, .inl SI_1)), (a3, .inl (cI, 24, .inl LK_1)), (a4, .inl (cI, 1536, .inl SS_1)), (a5, .inl (cI, 12, .inl (fun zy => nI (ST_1 zy)))), (a10, .inl (cI, 12, .inl LE_1)), (a11, .inl (cI, 12, .inl GR_1)), (f0, .inr (1, [.int (nI nn), .ref f1, .ref f2, .ref f3, .ref f4])), (f4, .inl (cZ, 7, .inl FA))]) [0, 1, 2, 3, 4, 5, 6, 7, 8, 9, 10, 11, 12, 13, 14, 15, 16, 17, 18, 19] (by decide) rfl
    refine W.widen (k := 0) (n := 0) (Nat.le_of_ble_eq_true rfl) (Nat.le_of_ble_eq_true rfl) ?_
    exact W.iret (v := sm_v) hx hb hr (fun tT ht hW => ⟨⟨sm_v, (ha_v, HE_1, KE_1, LH_1, SI_1, LK_1, SS_1, ST_1, LE_1, GR_1), rfl, ⟨h_ST_1, hs⟩, by rw [ht]; exact hP9, hD9⟩, hS.F ht⟩) hS.2.2 d_PR_keepAll_46
  · have nh_2 : ¬ 240 ≤ i_l := fun qZ => h_2 ((nI_leI (a := 240) (b := i_l) (by omega) (by omega)).mpr qZ)
    refine lv_aload_n hx hb d_PR_keepAll_14 rfl (lv_at hl 5 rfl) ?_
    refine lv_aload_n hx hb d_PR_keepAll_15 rfl (lv_at hl 4 rfl) ?_
    refine lv_aload_n hx hb d_PR_keepAll_16 rfl (lv_at hl 3 rfl) ?_
    refine lv_iload_n hx hb d_PR_keepAll_17 rfl (lv_at hl 2 rfl) ?_
    have hPc := hP.sub (ws' := [(r0, .inr (3, [.int (nI nq), .int ha_v, .ref r1, .ref r2, .ref r3, .ref r4, .ref r5, .ref r6, .ref r7, .ref r8, .ref r9, .ref r10, .ref r11])), (r3, .inl (cI, 40, .inl (fun zy => nI (HO zy)))), (r4, .inl (cI, 40, .inl HE_1)), (r5, .inl (cI, 40, .inl KE_1)), (r6, .inl (cZ, 40, .inl TO)), (r7, .inl (cI, 240, .inl (fun zy => nI (LP zy)))), (r8, .inl (cI, 240, .inl (fun zy => nI (LF zy)))), (r9, .inl (cI, 240, .inl LS)), (r10, .inl (cI, 240, .inl LC)), (r11, .inl (cI, 240, .inl LH_1)), (a0, .inr (2, [.int (nI np), .ref a1, .ref a2, .ref a3, .ref a4, .ref a5, .ref a6, .ref a7, .ref a8, .ref a9, .ref a10, .ref a11])), (a1, .inl (cI, 24, .inl (fun zy => nI (EP zy)))), (a2, .inl (cI, 24, .inl SI_1)), (a3, .inl (cI, 24, .inl LK_1)), (a4, .inl (cI, 1536, .inl SS_1)), (a5, .inl (cI, 12, .inl (fun zy => nI (ST_1 zy)))), (a10, .inl (cI, 12, .inl LE_1)), (a11, .inl (cI, 12, .inl GR_1)), (f0, .inr (1, [.int (nI nn), .ref f1, .ref f2, .ref f3, .ref f4])), (f4, .inl (cZ, 7, .inl FA))]) [0, 1, 2, 3, 4, 5, 6, 7, 8, 9, 10, 11, 12, 13, 14, 15, 16, 17, 18, 19] rfl
    have hDc := hD.sub (ws' := [(r0, .inr (3, [.int (nI nq), .int ha_v, .ref r1, .ref r2, .ref r3, .ref r4, .ref r5, .ref r6, .ref r7, .ref r8, .ref r9, .ref r10, .ref r11])), (r3, .inl (cI, 40, .inl (fun zy => nI (HO zy)))), (r4, .inl (cI, 40, .inl HE_1)), (r5, .inl (cI, 40, .inl KE_1)), (r6, .inl (cZ, 40, .inl TO)), (r7, .inl (cI, 240, .inl (fun zy => nI (LP zy)))), (r8, .inl (cI, 240, .inl (fun zy => nI (LF zy)))), (r9, .inl (cI, 240, .inl LS)), (r10, .inl (cI, 240, .inl LC)), (r11, .inl (cI, 240, .inl LH_1)), (a0, .inr (2, [.int (nI np), .ref a1, .ref a2, .ref a3, .ref a4, .ref a5, .ref a6, .ref a7, .ref a8, .ref a9, .ref a10, .ref a11])), (a1, .inl (cI, 24, .inl (fun zy => nI (EP zy)))), (a2, .inl (cI, 24, .inl SI_1)), (a3, .inl (cI, 24, .inl LK_1)), (a4, .inl (cI, 1536, .inl SS_1)), (a5, .inl (cI, 12, .inl (fun zy => nI (ST_1 zy)))), (a10, .inl (cI, 12, .inl LE_1)), (a11, .inl (cI, 12, .inl GR_1)), (f0, .inr (1, [.int (nI nn), .ref f1, .ref f2, .ref f3, .ref f4])), (f4, .inl (cZ, 7, .inl FA))]) [0, 1, 2, 3, 4, 5, 6, 7, 8, 9, 10, 11, 12, 13, 14, 15, 16, 17, 18, 19] (by decide) rfl
    have hFc := va_free (wc := [(r0, .inr (3, [.int (nI nq), .int ha_v, .ref r1, .ref r2, .ref r3, .ref r4, .ref r5, .ref r6, .ref r7, .ref r8, .ref r9, .ref r10, .ref r11])), (r3, .inl (cI, 40, .inl (fun zy => nI (HO zy)))), (r4, .inl (cI, 40, .inl HE_1)), (r5, .inl (cI, 40, .inl KE_1)), (r6, .inl (cZ, 40, .inl TO)), (r7, .inl (cI, 240, .inl (fun zy => nI (LP zy)))), (r8, .inl (cI, 240, .inl (fun zy => nI (LF zy)))), (r9, .inl (cI, 240, .inl LS)), (r10, .inl (cI, 240, .inl LC)), (r11, .inl (cI, 240, .inl LH_1)), (a0, .inr (2, [.int (nI np), .ref a1, .ref a2, .ref a3, .ref a4, .ref a5, .ref a6, .ref a7, .ref a8, .ref a9, .ref a10, .ref a11])), (a1, .inl (cI, 24, .inl (fun zy => nI (EP zy)))), (a2, .inl (cI, 24, .inl SI_1)), (a3, .inl (cI, 24, .inl LK_1)), (a4, .inl (cI, 1536, .inl SS_1)), (a5, .inl (cI, 12, .inl (fun zy => nI (ST_1 zy)))), (a10, .inl (cI, 12, .inl LE_1)), (a11, .inl (cI, 12, .inl GR_1)), (f0, .inr (1, [.int (nI nn), .ref f1, .ref f2, .ref f3, .ref f4])), (f4, .inl (cZ, 7, .inl FA))]) hD hS hA [0, 1, 2, 3, 4, 5, 6, 7, 8, 9, 10, 11, 12, 13, 14, 15, 16, 17, 18, 19] rfl
    refine va_calli (va_runV (As := [.ref f0, .ref a0, .int v]) (rest := []) ⟨hx, hb, hml, hown, hts⟩ (g_PR_keepRound l D cI cZ r0 f0 a0 v nq ha_v r1 r2 r3 r4 r5 r6 r7 r8 r9 r10 r11 HO HE_1 KE_1 TO LP LF LS LC LH_1 np a1 a2 a3 a4 a5 a6 a7 a8 a9 a10 a11 EP SI_1 LK_1 SS_1 ST_1 LE_1 GR_1 nn f1 f2 f3 f4 FA H_1.size h_nq h_HO h_LP h_LF h_np h_EP h_ST_1 h_nn hz) (my_cwV 3 hts q_340 q_337 q_338 q_339 q_4 rfl rfl (by decide +kernel) ⟨Nat.le_of_ble_eq_true rfl, Nat.le_of_ble_eq_true rfl⟩) (my_preV hPc hDc hK hN 3 0 rfl rfl) rfl rfl hl.1 rfl (lv_room (Nat.le_of_ble_eq_true rfl)) d_PR_keepAll_18 ⟨Nat.le_of_ble_eq_true rfl, Nat.le_of_ble_eq_true rfl⟩) hS (fun q _ h => hFc q h) hFc (fun r_3 uU tT H_4 locs ht hvm hw_3 hB hz1 hk1 hS => ?_)
    obtain ⟨HA_5, HE_6, KE_7, LH_8, SI_9, LK_10, SS_11, ST_12, LE_13, GR_14⟩ := uU
    obtain ⟨hP1, hD1⟩ := hB
    rw [ht] at hP1
    obtain ⟨hP, hD⟩ := va_join (wr := []) (w1 := [(r0, .inr (3, [.int (nI nq), .int HA_5, .ref r1, .ref r2, .ref r3, .ref r4, .ref r5, .ref r6, .ref r7, .ref r8, .ref r9, .ref r10, .ref r11])), (r3, .inl (cI, 40, .inl (fun zy => nI (HO zy)))), (r4, .inl (cI, 40, .inl HE_6)), (r5, .inl (cI, 40, .inl KE_7)), (r6, .inl (cZ, 40, .inl TO)), (r7, .inl (cI, 240, .inl (fun zy => nI (LP zy)))), (r8, .inl (cI, 240, .inl (fun zy => nI (LF zy)))), (r9, .inl (cI, 240, .inl LS)), (r10, .inl (cI, 240, .inl LC)), (r11, .inl (cI, 240, .inl LH_8)), (a0, .inr (2, [.int (nI np), .ref a1, .ref a2, .ref a3, .ref a4, .ref a5, .ref a6, .ref a7, .ref a8, .ref a9, .ref a10, .ref a11])), (a1, .inl (cI, 24, .inl (fun zy => nI (EP zy)))), (a2, .inl (cI, 24, .inl SI_9)), (a3, .inl (cI, 24, .inl LK_10)), (a4, .inl (cI, 1536, .inl SS_11)), (a5, .inl (cI, 12, .inl (fun zy => nI (ST_12 zy)))), (a10, .inl (cI, 12, .inl LE_13)), (a11, .inl (cI, 12, .inl GR_14)), (f0, .inr (1, [.int (nI nn), .ref f1, .ref f2, .ref f3, .ref f4])), (f4, .inl (cZ, 7, .inl FA))]) hP hD [0, 1, 2, 3, 4, 5, 6, 7, 8, 9, 10, 11, 12, 13, 14, 15, 16, 17, 18, 19] [] rfl rfl (by decide) (by decide) hk1 hFc hP1 hD1
    have hP : va_P D vwCl [(r0, .inr (3, [.int (nI nq), .int HA_5, .ref r1, .ref r2, .ref r3, .ref r4, .ref r5, .ref r6, .ref r7, .ref r8, .ref r9, .ref r10, .ref r11])), (r3, .inl (cI, 40, .inl (fun zy => nI (HO zy)))), (r4, .inl (cI, 40, .inl HE_6)), (r5, .inl (cI, 40, .inl KE_7)), (r6, .inl (cZ, 40, .inl TO)), (r7, .inl (cI, 240, .inl (fun zy => nI (LP zy)))), (r8, .inl (cI, 240, .inl (fun zy => nI (LF zy)))), (r9, .inl (cI, 240, .inl LS)), (r10, .inl (cI, 240, .inl LC)), (r11, .inl (cI, 240, .inl LH_8)), (a0, .inr (2, [.int (nI np), .ref a1, .ref a2, .ref a3, .ref a4, .ref a5, .ref a6, .ref a7, .ref a8, .ref a9, .ref a10, .ref a11])), (a1, .inl (cI, 24, .inl (fun zy => nI (EP zy)))), (a2, .inl (cI, 24, .inl SI_9)), (a3, .inl (cI, 24, .inl LK_10)), (a4, .inl (cI, 1536, .inl SS_11)), (a5, .inl (cI, 12, .inl (fun zy => nI (ST_12 zy)))), (a10, .inl (cI, 12, .inl LE_13)), (a11, .inl (cI, 12, .inl GR_14)), (f0, .inr (1, [.int (nI nn), .ref f1, .ref f2, .ref f3, .ref f4])), (f4, .inl (cZ, 7, .inl FA))] H_4 := hP
    have hD : va_D A [(r0, .inr (3, [.int (nI nq), .int HA_5, .ref r1, .ref r2, .ref r3, .ref r4, .ref r5, .ref r6, .ref r7, .ref r8, .ref r9, .ref r10, .ref r11])), (r3, .inl (cI, 40, .inl (fun zy => nI (HO zy)))), (r4, .inl (cI, 40, .inl HE_6)), (r5, .inl (cI, 40, .inl KE_7)), (r6, .inl (cZ, 40, .inl TO)), (r7, .inl (cI, 240, .inl (fun zy => nI (LP zy)))), (r8, .inl (cI, 240, .inl (fun zy => nI (LF zy)))), (r9, .inl (cI, 240, .inl LS)), (r10, .inl (cI, 240, .inl LC)), (r11, .inl (cI, 240, .inl LH_8)), (a0, .inr (2, [.int (nI np), .ref a1, .ref a2, .ref a3, .ref a4, .ref a5, .ref a6, .ref a7, .ref a8, .ref a9, .ref a10, .ref a11])), (a1, .inl (cI, 24, .inl (fun zy => nI (EP zy)))), (a2, .inl (cI, 24, .inl SI_9)), (a3, .inl (cI, 24, .inl LK_10)), (a4, .inl (cI, 1536, .inl SS_11)), (a5, .inl (cI, 12, .inl (fun zy => nI (ST_12 zy)))), (a10, .inl (cI, 12, .inl LE_13)), (a11, .inl (cI, 12, .inl GR_14)), (f0, .inr (1, [.int (nI nn), .ref f1, .ref f2, .ref f3, .ref f4])), (f4, .inl (cZ, 7, .inl FA))] := hD
    have hw_3 : (∀ zz, ST_12 zz ≤ 64) ∧ (∀ qq, 1 ≤ ST_1 qq → 1 ≤ ST_12 qq) := hw_3
    obtain ⟨hf_14_0, hf_14_1⟩ := hw_3
    have hf_14_0 : ∀ zz, ST_12 zz ≤ 64 := hf_14_0
    have hf_14_1 : ∀ qq, 1 ≤ ST_1 qq → 1 ≤ ST_12 qq := hf_14_1
    refine lv_istore (lv' := [(6, .int r_3), (5, .int (nI i_l)), (4, .int sm_v), (3, .int v), (2, .ref a0), (1, .ref f0), (0, .ref r0)]) hx hb d_PR_keepAll_21 hl (by decide) rfl (fun ls hl => ?_)
    refine lv_iload hx hb d_PR_keepAll_23 (lv_at hl 0 rfl) ?_
    refine lv_if_ne (tgt := 31) hx hb d_PR_keepAll_25 (by decide) (fun h_15 => ?_) (fun h_15 => ?_)
    · refine lv_iload hx hb d_PR_keepAll_31 (lv_at hl 2 rfl) ?_
      refine lv_iload hx hb d_PR_keepAll_33 (lv_at hl 0 rfl) ?_
      refine lv_iadd hx hb d_PR_keepAll_35 ?_
      refine lv_istore (lv' := [(4, .int (sm_v + r_3)), (6, .int r_3), (5, .int (nI i_l)), (3, .int v), (2, .ref a0), (1, .ref f0), (0, .ref r0)]) hx hb d_PR_keepAll_36 hl (by decide) rfl (fun ls hl => ?_)
      refine lv_iinc (v := nI (i_l + 1)) (lv' := [(5, .int (nI (i_l + 1))), (4, .int (sm_v + r_3)), (6, .int r_3), (3, .int v), (2, .ref a0), (1, .ref f0), (0, .ref r0)]) hx hb d_PR_keepAll_38 hl (k := 2) rfl (nI_1 i_l) (by decide) rfl (fun ls hl => ?_)
      refine lv_goto (tgt := 6) hx hb d_PR_keepAll_41 (by decide) ?_
      have hPz := hP.sub (ws' := [(r0, .inr (3, [.int (nI nq), .int HA_5, .ref r1, .ref r2, .ref r3, .ref r4, .ref r5, .ref r6, .ref r7, .ref r8, .ref r9, .ref r10, .ref r11])), (r3, .inl (cI, 40, .inl (fun zy => nI (HO zy)))), (r4, .inl (cI, 40, .inl HE_6)), (r5, .inl (cI, 40, .inl KE_7)), (r6, .inl (cZ, 40, .inl TO)), (r7, .inl (cI, 240, .inl (fun zy => nI (LP zy)))), (r8, .inl (cI, 240, .inl (fun zy => nI (LF zy)))), (r9, .inl (cI, 240, .inl LS)), (r10, .inl (cI, 240, .inl LC)), (r11, .inl (cI, 240, .inl LH_8)), (a0, .inr (2, [.int (nI np), .ref a1, .ref a2, .ref a3, .ref a4, .ref a5, .ref a6, .ref a7, .ref a8, .ref a9, .ref a10, .ref a11])), (a1, .inl (cI, 24, .inl (fun zy => nI (EP zy)))), (a2, .inl (cI, 24, .inl SI_9)), (a3, .inl (cI, 24, .inl LK_10)), (a4, .inl (cI, 1536, .inl SS_11)), (a5, .inl (cI, 12, .inl (fun zy => nI (ST_12 zy)))), (a10, .inl (cI, 12, .inl LE_13)), (a11, .inl (cI, 12, .inl GR_14)), (f0, .inr (1, [.int (nI nn), .ref f1, .ref f2, .ref f3, .ref f4])), (f4, .inl (cZ, 7, .inl FA))]) [0, 1, 2, 3, 4, 5, 6, 7, 8, 9, 10, 11, 12, 13, 14, 15, 16, 17, 18, 19] rfl
      have hDz := hD.sub (ws' := [(r0, .inr (3, [.int (nI nq), .int HA_5, .ref r1, .ref r2, .ref r3, .ref r4, .ref r5, .ref r6, .ref r7, .ref r8, .ref r9, .ref r10, .ref r11])), (r3, .inl (cI, 40, .inl (fun zy => nI (HO zy)))), (r4, .inl (cI, 40, .inl HE_6)), (r5, .inl (cI, 40, .inl KE_7)), (r6, .inl (cZ, 40, .inl TO)), (r7, .inl (cI, 240, .inl (fun zy => nI (LP zy)))), (r8, .inl (cI, 240, .inl (fun zy => nI (LF zy)))), (r9, .inl (cI, 240, .inl LS)), (r10, .inl (cI, 240, .inl LC)), (r11, .inl (cI, 240, .inl LH_8)), (a0, .inr (2, [.int (nI np), .ref a1, .ref a2, .ref a3, .ref a4, .ref a5, .ref a6, .ref a7, .ref a8, .ref a9, .ref a10, .ref a11])), (a1, .inl (cI, 24, .inl (fun zy => nI (EP zy)))), (a2, .inl (cI, 24, .inl SI_9)), (a3, .inl (cI, 24, .inl LK_10)), (a4, .inl (cI, 1536, .inl SS_11)), (a5, .inl (cI, 12, .inl (fun zy => nI (ST_12 zy)))), (a10, .inl (cI, 12, .inl LE_13)), (a11, .inl (cI, 12, .inl GR_14)), (f0, .inr (1, [.int (nI nn), .ref f1, .ref f2, .ref f3, .ref f4])), (f4, .inl (cZ, 7, .inl FA))]) [0, 1, 2, 3, 4, 5, 6, 7, 8, 9, 10, 11, 12, 13, 14, 15, 16, 17, 18, 19] (by decide) rfl
      exact ih1 ((i_l + 1), sm_v + r_3, HA_5, HE_6, KE_7, LH_8, SI_9, LK_10, SS_11, ST_12, LE_13, GR_14) _ _ _ (by first | omega | (dsimp only; omega)) ⟨hf_14_0, (by first | omega | (dsimp only; omega)), (fun qq h => hf_14_1 qq (hs qq h)), hPz, hDz, hS, lv_sub hl [0, 1, 3, 4, 5, 6] rfl⟩
    · refine lv_goto (tgt := 44) hx hb d_PR_keepAll_28 (by decide) ?_
      refine lv_iload hx hb d_PR_keepAll_44 (lv_at hl 2 rfl) ?_
      have hP9 := hP.sub (ws' := [(r0, .inr (3, [.int (nI nq), .int HA_5, .ref r1, .ref r2, .ref r3, .ref r4, .ref r5, .ref r6, .ref r7, .ref r8, .ref r9, .ref r10, .ref r11])), (r3, .inl (cI, 40, .inl (fun zy => nI (HO zy)))), (r4, .inl (cI, 40, .inl HE_6)), (r5, .inl (cI, 40, .inl KE_7)), (r6, .inl (cZ, 40, .inl TO)), (r7, .inl (cI, 240, .inl (fun zy => nI (LP zy)))), (r8, .inl (cI, 240, .inl (fun zy => nI (LF zy)))), (r9, .inl (cI, 240, .inl LS)), (r10, .inl (cI, 240, .inl LC)), (r11, .inl (cI, 240, .inl LH_8)), (a0, .inr (2, [.int (nI np), .ref a1, .ref a2, .ref a3, .ref a4, .ref a5, .ref a6, .ref a7, .ref a8, .ref a9, .ref a10, .ref a11])), (a1, .inl (cI, 24, .inl (fun zy => nI (EP zy)))), (a2, .inl (cI, 24, .inl SI_9)), (a3, .inl (cI, 24, .inl LK_10)), (a4, .inl (cI, 1536, .inl SS_11)), (a5, .inl (cI, 12, .inl (fun zy => nI (ST_12 zy)))), (a10, .inl (cI, 12, .inl LE_13)), (a11, .inl (cI, 12, .inl GR_14)), (f0, .inr (1, [.int (nI nn), .ref f1, .ref f2, .ref f3, .ref f4])), (f4, .inl (cZ, 7, .inl FA))]) [0, 1, 2, 3, 4, 5, 6, 7, 8, 9, 10, 11, 12, 13, 14, 15, 16, 17, 18, 19] rfl
      have hD9 := hD.sub (ws' := [(r0, .inr (3, [.int (nI nq), .int HA_5, .ref r1, .ref r2, .ref r3, .ref r4, .ref r5, .ref r6, .ref r7, .ref r8, .ref r9, .ref r10, .ref r11])), (r3, .inl (cI, 40, .inl (fun zy => nI (HO zy)))), (r4, .inl (cI, 40, .inl HE_6)), (r5, .inl (cI, 40, .inl KE_7)), (r6, .inl (cZ, 40, .inl TO)), (r7, .inl (cI, 240, .inl (fun zy => nI (LP zy)))), (r8, .inl (cI, 240, .inl (fun zy => nI (LF zy)))), (r9, .inl (cI, 240, .inl LS)), (r10, .inl (cI, 240, .inl LC)), (r11, .inl (cI, 240, .inl LH_8)), (a0, .inr (2, [.int (nI np), .ref a1, .ref a2, .ref a3, .ref a4, .ref a5, .ref a6, .ref a7, .ref a8, .ref a9, .ref a10, .ref a11])), (a1, .inl (cI, 24, .inl (fun zy => nI (EP zy)))), (a2, .inl (cI, 24, .inl SI_9)), (a3, .inl (cI, 24, .inl LK_10)), (a4, .inl (cI, 1536, .inl SS_11)), (a5, .inl (cI, 12, .inl (fun zy => nI (ST_12 zy)))), (a10, .inl (cI, 12, .inl LE_13)), (a11, .inl (cI, 12, .inl GR_14)), (f0, .inr (1, [.int (nI nn), .ref f1, .ref f2, .ref f3, .ref f4])), (f4, .inl (cZ, 7, .inl FA))]) [0, 1, 2, 3, 4, 5, 6, 7, 8, 9, 10, 11, 12, 13, 14, 15, 16, 17, 18, 19] (by decide) rfl
      refine W.widen (k := 0) (n := 0) (Nat.le_of_ble_eq_true rfl) (Nat.le_of_ble_eq_true rfl) ?_
      exact W.iret (v := sm_v) hx hb hr (fun tT ht hW => ⟨⟨sm_v, (HA_5, HE_6, KE_7, LH_8, SI_9, LK_10, SS_11, ST_12, LE_13, GR_14), rfl, ⟨hf_14_0, (fun qq h => hf_14_1 qq (hs qq h))⟩, by rw [ht]; exact hP9, hD9⟩, hS.F ht⟩) hS.2.2 d_PR_keepAll_46
