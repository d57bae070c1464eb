/-- what a step of a try teaches of the least, of the greatest -/
def tryL (SI LE : Nat → Int32) (j t : Nat) (y : Int32) : Nat → Int32 := if t = 0 then (if SI (2 * j + t) < y then LE else upd LE j (mxI (LE j) y)) else (if SI (2 * j + t) < y then upd LE j (mxI (LE j) (gsum SI j - y + 1)) else LE)
def tryG (SI GR : Nat → Int32) (j t : Nat) (y : Int32) : Nat → Int32 := if t = 0 then (if SI (2 * j + t) < y then upd GR j (mnI (GR j) (y - 1)) else GR) else (if SI (2 * j + t) < y then GR else upd GR j (mnI (GR j) (gsum SI j - y)))
theorem gd_PA_isCaught_0 : (decode prog_2_method_17_code 0 = .ok (.iconst 1, 1)) ∧ (decode prog_2_method_17_code 1 = .ok (.aload_n 0, 1)) ∧ (decode prog_2_method_17_code 2 = .ok (.getfield 37, 3)) ∧ (decode prog_2_method_17_code 5 = .ok (.iload_n 1, 1)) ∧ (decode prog_2_method_17_code 6 = .ok (.iaload, 1)) ∧ (decode prog_2_method_17_code 7 = .ok (.isub, 1)) ∧ (decode prog_2_method_17_code 8 = .ok (.istore_n 3, 1)) ∧ (decode prog_2_method_17_code 9 = .ok (.aload_n 0, 1)) ∧ (decode prog_2_method_17_code 10 = .ok (.getfield 28, 3)) ∧ (decode prog_2_method_17_code 13 = .ok (.iload_n 1, 1)) := by decide +kernel
theorem d_PA_isCaught_0 : decode prog_2_method_17_code 0 = .ok (.iconst 1, 1) := gd_PA_isCaught_0.1
theorem d_PA_isCaught_1 : decode prog_2_method_17_code 1 = .ok (.aload_n 0, 1) := gd_PA_isCaught_0.2.1
theorem d_PA_isCaught_2 : decode prog_2_method_17_code 2 = .ok (.getfield 37, 3) := gd_PA_isCaught_0.2.2.1
theorem d_PA_isCaught_5 : decode prog_2_method_17_code 5 = .ok (.iload_n 1, 1) := gd_PA_isCaught_0.2.2.2.1
theorem d_PA_isCaught_6 : decode prog_2_method_17_code 6 = .ok (.iaload, 1) := gd_PA_isCaught_0.2.2.2.2.1
theorem d_PA_isCaught_7 : decode prog_2_method_17_code 7 = .ok (.isub, 1) := gd_PA_isCaught_0.2.2.2.2.2.1
theorem d_PA_isCaught_8 : decode prog_2_method_17_code 8 = .ok (.istore_n 3, 1) := gd_PA_isCaught_0.2.2.2.2.2.2.1
theorem d_PA_isCaught_9 : decode prog_2_method_17_code 9 = .ok (.aload_n 0, 1) := gd_PA_isCaught_0.2.2.2.2.2.2.2.1
theorem d_PA_isCaught_10 : decode prog_2_method_17_code 10 = .ok (.getfield 28, 3) := gd_PA_isCaught_0.2.2.2.2.2.2.2.2.1
theorem d_PA_isCaught_13 : decode prog_2_method_17_code 13 = .ok (.iload_n 1, 1) := gd_PA_isCaught_0.2.2.2.2.2.2.2.2.2
theorem gd_PA_isCaught_14 : (decode prog_2_method_17_code 14 = .ok (.iaload, 1)) ∧ (decode prog_2_method_17_code 15 = .ok (.iconst 1, 1)) ∧ (decode prog_2_method_17_code 16 = .ok (.isub, 1)) ∧ (decode prog_2_method_17_code 17 = .ok (.istore 4, 2)) ∧ (decode prog_2_method_17_code 19 = .ok (.aload_n 0, 1)) ∧ (decode prog_2_method_17_code 20 = .ok (.getfield 40, 3)) ∧ (decode prog_2_method_17_code 23 = .ok (.iload_n 1, 1)) ∧ (decode prog_2_method_17_code 24 = .ok (.iaload, 1)) ∧ (decode prog_2_method_17_code 25 = .ok (.iload 4, 2)) ∧ (decode prog_2_method_17_code 27 = .ok (.if_icmp .eq 21, 3)) := by decide +kernel
theorem d_PA_isCaught_14 : decode prog_2_method_17_code 14 = .ok (.iaload, 1) := gd_PA_isCaught_14.1
theorem d_PA_isCaught_15 : decode prog_2_method_17_code 15 = .ok (.iconst 1, 1) := gd_PA_isCaught_14.2.1
theorem d_PA_isCaught_16 : decode prog_2_method_17_code 16 = .ok (.isub, 1) := gd_PA_isCaught_14.2.2.1
theorem d_PA_isCaught_17 : decode prog_2_method_17_code 17 = .ok (.istore 4, 2) := gd_PA_isCaught_14.2.2.2.1
theorem d_PA_isCaught_19 : decode prog_2_method_17_code 19 = .ok (.aload_n 0, 1) := gd_PA_isCaught_14.2.2.2.2.1
theorem d_PA_isCaught_20 : decode prog_2_method_17_code 20 = .ok (.getfield 40, 3) := gd_PA_isCaught_14.2.2.2.2.2.1
theorem d_PA_isCaught_23 : decode prog_2_method_17_code 23 = .ok (.iload_n 1, 1) := gd_PA_isCaught_14.2.2.2.2.2.2.1
theorem d_PA_isCaught_24 : decode prog_2_method_17_code 24 = .ok (.iaload, 1) := gd_PA_isCaught_14.2.2.2.2.2.2.2.1
theorem d_PA_isCaught_25 : decode prog_2_method_17_code 25 = .ok (.iload 4, 2) := gd_PA_isCaught_14.2.2.2.2.2.2.2.2.1
theorem d_PA_isCaught_27 : decode prog_2_method_17_code 27 = .ok (.if_icmp .eq 21, 3) := gd_PA_isCaught_14.2.2.2.2.2.2.2.2.2
theorem gd_PA_isCaught_48 : (decode prog_2_method_17_code 48 = .ok (.iconst 0, 1)) ∧ (decode prog_2_method_17_code 49 = .ok (.ireturn, 1)) ∧ (decode prog_2_method_17_code 30 = .ok (.aload_n 2, 1)) ∧ (decode prog_2_method_17_code 31 = .ok (.getfield 78, 3)) ∧ (decode prog_2_method_17_code 34 = .ok (.aload_n 0, 1)) ∧ (decode prog_2_method_17_code 35 = .ok (.getfield 15, 3)) ∧ (decode prog_2_method_17_code 38 = .ok (.iconst 2, 1)) ∧ (decode prog_2_method_17_code 39 = .ok (.iload_n 1, 1)) ∧ (decode prog_2_method_17_code 40 = .ok (.imul, 1)) ∧ (decode prog_2_method_17_code 41 = .ok (.iload_n 3, 1)) := by decide +kernel
theorem d_PA_isCaught_48 : decode prog_2_method_17_code 48 = .ok (.iconst 0, 1) := gd_PA_isCaught_48.1
theorem d_PA_isCaught_49 : decode prog_2_method_17_code 49 = .ok (.ireturn, 1) := gd_PA_isCaught_48.2.1
theorem d_PA_isCaught_30 : decode prog_2_method_17_code 30 = .ok (.aload_n 2, 1) := gd_PA_isCaught_48.2.2.1
theorem d_PA_isCaught_31 : decode prog_2_method_17_code 31 = .ok (.getfield 78, 3) := gd_PA_isCaught_48.2.2.2.1
theorem d_PA_isCaught_34 : decode prog_2_method_17_code 34 = .ok (.aload_n 0, 1) := gd_PA_isCaught_48.2.2.2.2.1
theorem d_PA_isCaught_35 : decode prog_2_method_17_code 35 = .ok (.getfield 15, 3) := gd_PA_isCaught_48.2.2.2.2.2.1
theorem d_PA_isCaught_38 : decode prog_2_method_17_code 38 = .ok (.iconst 2, 1) := gd_PA_isCaught_48.2.2.2.2.2.2.1
theorem d_PA_isCaught_39 : decode prog_2_method_17_code 39 = .ok (.iload_n 1, 1) := gd_PA_isCaught_48.2.2.2.2.2.2.2.1
theorem d_PA_isCaught_40 : decode prog_2_method_17_code 40 = .ok (.imul, 1) := gd_PA_isCaught_48.2.2.2.2.2.2.2.2.1
theorem d_PA_isCaught_41 : decode prog_2_method_17_code 41 = .ok (.iload_n 3, 1) := gd_PA_isCaught_48.2.2.2.2.2.2.2.2.2
theorem gd_PA_isCaught_42 : (decode prog_2_method_17_code 42 = .ok (.iadd, 1)) ∧ (decode prog_2_method_17_code 43 = .ok (.iaload, 1)) ∧ (decode prog_2_method_17_code 44 = .ok (.baload, 1)) ∧ (decode prog_2_method_17_code 45 = .ok (.ifCond .eq 5, 3)) ∧ (decode prog_2_method_17_code 50 = .ok (.aload_n 0, 1)) ∧ (decode prog_2_method_17_code 51 = .ok (.iload_n 1, 1)) ∧ (decode prog_2_method_17_code 52 = .ok (.iload 4, 2)) ∧ (decode prog_2_method_17_code 54 = .ok (.iconst 0, 1)) ∧ (decode prog_2_method_17_code 55 = .ok (.invokevirtual 84, 3)) ∧ (decode prog_2_method_17_code 58 = .ok (.aload_n 0, 1)) := by decide +kernel
theorem d_PA_isCaught_42 : decode prog_2_method_17_code 42 = .ok (.iadd, 1) := gd_PA_isCaught_42.1
theorem d_PA_isCaught_43 : decode prog_2_method_17_code 43 = .ok (.iaload, 1) := gd_PA_isCaught_42.2.1
theorem d_PA_isCaught_44 : decode prog_2_method_17_code 44 = .ok (.baload, 1) := gd_PA_isCaught_42.2.2.1
theorem d_PA_isCaught_45 : decode prog_2_method_17_code 45 = .ok (.ifCond .eq 5, 3) := gd_PA_isCaught_42.2.2.2.1
theorem d_PA_isCaught_50 : decode prog_2_method_17_code 50 = .ok (.aload_n 0, 1) := gd_PA_isCaught_42.2.2.2.2.1
theorem d_PA_isCaught_51 : decode prog_2_method_17_code 51 = .ok (.iload_n 1, 1) := gd_PA_isCaught_42.2.2.2.2.2.1
theorem d_PA_isCaught_52 : decode prog_2_method_17_code 52 = .ok (.iload 4, 2) := gd_PA_isCaught_42.2.2.2.2.2.2.1
theorem d_PA_isCaught_54 : decode prog_2_method_17_code 54 = .ok (.iconst 0, 1) := gd_PA_isCaught_42.2.2.2.2.2.2.2.1
theorem d_PA_isCaught_55 : decode prog_2_method_17_code 55 = .ok (.invokevirtual 84, 3) := gd_PA_isCaught_42.2.2.2.2.2.2.2.2.1
theorem d_PA_isCaught_58 : decode prog_2_method_17_code 58 = .ok (.aload_n 0, 1) := gd_PA_isCaught_42.2.2.2.2.2.2.2.2.2
theorem gd_PA_isCaught_59 : (decode prog_2_method_17_code 59 = .ok (.iload_n 1, 1)) ∧ (decode prog_2_method_17_code 60 = .ok (.iload 4, 2)) ∧ (decode prog_2_method_17_code 62 = .ok (.iconst 1, 1)) ∧ (decode prog_2_method_17_code 63 = .ok (.invokevirtual 84, 3)) ∧ (decode prog_2_method_17_code 66 = .ok (.iadd, 1)) ∧ (decode prog_2_method_17_code 67 = .ok (.istore 5, 2)) ∧ (decode prog_2_method_17_code 69 = .ok (.aload_n 2, 1)) ∧ (decode prog_2_method_17_code 70 = .ok (.getfield 88, 3)) ∧ (decode prog_2_method_17_code 73 = .ok (.aload_n 0, 1)) ∧ (decode prog_2_method_17_code 74 = .ok (.getfield 15, 3)) := by decide +kernel
theorem d_PA_isCaught_59 : decode prog_2_method_17_code 59 = .ok (.iload_n 1, 1) := gd_PA_isCaught_59.1
theorem d_PA_isCaught_60 : decode prog_2_method_17_code 60 = .ok (.iload 4, 2) := gd_PA_isCaught_59.2.1
theorem d_PA_isCaught_62 : decode prog_2_method_17_code 62 = .ok (.iconst 1, 1) := gd_PA_isCaught_59.2.2.1
theorem d_PA_isCaught_63 : decode prog_2_method_17_code 63 = .ok (.invokevirtual 84, 3) := gd_PA_isCaught_59.2.2.2.1
theorem d_PA_isCaught_66 : decode prog_2_method_17_code 66 = .ok (.iadd, 1) := gd_PA_isCaught_59.2.2.2.2.1
theorem d_PA_isCaught_67 : decode prog_2_method_17_code 67 = .ok (.istore 5, 2) := gd_PA_isCaught_59.2.2.2.2.2.1
theorem d_PA_isCaught_69 : decode prog_2_method_17_code 69 = .ok (.aload_n 2, 1) := gd_PA_isCaught_59.2.2.2.2.2.2.1
theorem d_PA_isCaught_70 : decode prog_2_method_17_code 70 = .ok (.getfield 88, 3) := gd_PA_isCaught_59.2.2.2.2.2.2.2.1
theorem d_PA_isCaught_73 : decode prog_2_method_17_code 73 = .ok (.aload_n 0, 1) := gd_PA_isCaught_59.2.2.2.2.2.2.2.2.1
theorem d_PA_isCaught_74 : decode prog_2_method_17_code 74 = .ok (.getfield 15, 3) := gd_PA_isCaught_59.2.2.2.2.2.2.2.2.2
theorem gd_PA_isCaught_77 : (decode prog_2_method_17_code 77 = .ok (.iconst 2, 1)) ∧ (decode prog_2_method_17_code 78 = .ok (.iload_n 1, 1)) ∧ (decode prog_2_method_17_code 79 = .ok (.imul, 1)) ∧ (decode prog_2_method_17_code 80 = .ok (.iload_n 3, 1)) ∧ (decode prog_2_method_17_code 81 = .ok (.iadd, 1)) ∧ (decode prog_2_method_17_code 82 = .ok (.iaload, 1)) ∧ (decode prog_2_method_17_code 83 = .ok (.dup2, 1)) ∧ (decode prog_2_method_17_code 84 = .ok (.iaload, 1)) ∧ (decode prog_2_method_17_code 85 = .ok (.iload 5, 2)) ∧ (decode prog_2_method_17_code 87 = .ok (.iadd, 1)) := by decide +kernel
theorem d_PA_isCaught_77 : decode prog_2_method_17_code 77 = .ok (.iconst 2, 1) := gd_PA_isCaught_77.1
theorem d_PA_isCaught_78 : decode prog_2_method_17_code 78 = .ok (.iload_n 1, 1) := gd_PA_isCaught_77.2.1
theorem d_PA_isCaught_79 : decode prog_2_method_17_code 79 = .ok (.imul, 1) := gd_PA_isCaught_77.2.2.1
theorem d_PA_isCaught_80 : decode prog_2_method_17_code 80 = .ok (.iload_n 3, 1) := gd_PA_isCaught_77.2.2.2.1
theorem d_PA_isCaught_81 : decode prog_2_method_17_code 81 = .ok (.iadd, 1) := gd_PA_isCaught_77.2.2.2.2.1
theorem d_PA_isCaught_82 : decode prog_2_method_17_code 82 = .ok (.iaload, 1) := gd_PA_isCaught_77.2.2.2.2.2.1
theorem d_PA_isCaught_83 : decode prog_2_method_17_code 83 = .ok (.dup2, 1) := gd_PA_isCaught_77.2.2.2.2.2.2.1
theorem d_PA_isCaught_84 : decode prog_2_method_17_code 84 = .ok (.iaload, 1) := gd_PA_isCaught_77.2.2.2.2.2.2.2.1
theorem d_PA_isCaught_85 : decode prog_2_method_17_code 85 = .ok (.iload 5, 2) := gd_PA_isCaught_77.2.2.2.2.2.2.2.2.1
theorem d_PA_isCaught_87 : decode prog_2_method_17_code 87 = .ok (.iadd, 1) := gd_PA_isCaught_77.2.2.2.2.2.2.2.2.2
theorem gd_PA_isCaught_88 : (decode prog_2_method_17_code 88 = .ok (.iastore, 1)) ∧ (decode prog_2_method_17_code 89 = .ok (.aload_n 0, 1)) ∧ (decode prog_2_method_17_code 90 = .ok (.iload_n 1, 1)) ∧ (decode prog_2_method_17_code 91 = .ok (.invokevirtual 91, 3)) ∧ (decode prog_2_method_17_code 94 = .ok (.iconst 1, 1)) ∧ (decode prog_2_method_17_code 95 = .ok (.ireturn, 1)) := by decide +kernel
theorem d_PA_isCaught_88 : decode prog_2_method_17_code 88 = .ok (.iastore, 1) := gd_PA_isCaught_88.1
theorem d_PA_isCaught_89 : decode prog_2_method_17_code 89 = .ok (.aload_n 0, 1) := gd_PA_isCaught_88.2.1
theorem d_PA_isCaught_90 : decode prog_2_method_17_code 90 = .ok (.iload_n 1, 1) := gd_PA_isCaught_88.2.2.1
theorem d_PA_isCaught_91 : decode prog_2_method_17_code 91 = .ok (.invokevirtual 91, 3) := gd_PA_isCaught_88.2.2.2.1
theorem d_PA_isCaught_94 : decode prog_2_method_17_code 94 = .ok (.iconst 1, 1) := gd_PA_isCaught_88.2.2.2.2.1
theorem d_PA_isCaught_95 : decode prog_2_method_17_code 95 = .ok (.ireturn, 1) := gd_PA_isCaught_88.2.2.2.2.2
theorem gd_PA_settle_0 : (decode prog_2_method_18_code 0 = .ok (.iconst 0, 1)) ∧ (decode prog_2_method_18_code 1 = .ok (.istore_n 3, 1)) ∧ (decode prog_2_method_18_code 2 = .ok (.iload_n 3, 1)) ∧ (decode prog_2_method_18_code 3 = .ok (.aload_n 0, 1)) ∧ (decode prog_2_method_18_code 4 = .ok (.getfield 9, 3)) ∧ (decode prog_2_method_18_code 7 = .ok (.if_icmp .ge 105, 3)) ∧ (decode prog_2_method_18_code 112 = .ok (.return_, 1)) ∧ (decode prog_2_method_18_code 10 = .ok (.aload_n 0, 1)) ∧ (decode prog_2_method_18_code 11 = .ok (.getfield 31, 3)) ∧ (decode prog_2_method_18_code 14 = .ok (.iload_n 3, 1)) := by decide +kernel
theorem d_PA_settle_0 : decode prog_2_method_18_code 0 = .ok (.iconst 0, 1) := gd_PA_settle_0.1
theorem d_PA_settle_1 : decode prog_2_method_18_code 1 = .ok (.istore_n 3, 1) := gd_PA_settle_0.2.1
theorem d_PA_settle_2 : decode prog_2_method_18_code 2 = .ok (.iload_n 3, 1) := gd_PA_settle_0.2.2.1
theorem d_PA_settle_3 : decode prog_2_method_18_code 3 = .ok (.aload_n 0, 1) := gd_PA_settle_0.2.2.2.1
theorem d_PA_settle_4 : decode prog_2_method_18_code 4 = .ok (.getfield 9, 3) := gd_PA_settle_0.2.2.2.2.1
theorem d_PA_settle_7 : decode prog_2_method_18_code 7 = .ok (.if_icmp .ge 105, 3) := gd_PA_settle_0.2.2.2.2.2.1
theorem d_PA_settle_112 : decode prog_2_method_18_code 112 = .ok (.return_, 1) := gd_PA_settle_0.2.2.2.2.2.2.1
theorem d_PA_settle_10 : decode prog_2_method_18_code 10 = .ok (.aload_n 0, 1) := gd_PA_settle_0.2.2.2.2.2.2.2.1
theorem d_PA_settle_11 : decode prog_2_method_18_code 11 = .ok (.getfield 31, 3) := gd_PA_settle_0.2.2.2.2.2.2.2.2.1
theorem d_PA_settle_14 : decode prog_2_method_18_code 14 = .ok (.iload_n 3, 1) := gd_PA_settle_0.2.2.2.2.2.2.2.2.2
theorem gd_PA_settle_15 : (decode prog_2_method_18_code 15 = .ok (.iaload, 1)) ∧ (decode prog_2_method_18_code 16 = .ok (.iconst 1, 1)) ∧ (decode prog_2_method_18_code 17 = .ok (.if_icmp .eq 6, 3)) ∧ (decode prog_2_method_18_code 23 = .ok (.iload_n 2, 1)) ∧ (decode prog_2_method_18_code 24 = .ok (.aload_n 0, 1)) ∧ (decode prog_2_method_18_code 25 = .ok (.getfield 34, 3)) ∧ (decode prog_2_method_18_code 28 = .ok (.iload_n 3, 1)) ∧ (decode prog_2_method_18_code 29 = .ok (.iaload, 1)) ∧ (decode prog_2_method_18_code 30 = .ok (.if_icmp .ge 13, 3)) ∧ (decode prog_2_method_18_code 43 = .ok (.aload_n 1, 1)) := by decide +kernel
theorem d_PA_settle_15 : decode prog_2_method_18_code 15 = .ok (.iaload, 1) := gd_PA_settle_15.1
theorem d_PA_settle_16 : decode prog_2_method_18_code 16 = .ok (.iconst 1, 1) := gd_PA_settle_15.2.1
theorem d_PA_settle_17 : decode prog_2_method_18_code 17 = .ok (.if_icmp .eq 6, 3) := gd_PA_settle_15.2.2.1
theorem d_PA_settle_23 : decode prog_2_method_18_code 23 = .ok (.iload_n 2, 1) := gd_PA_settle_15.2.2.2.1
theorem d_PA_settle_24 : decode prog_2_method_18_code 24 = .ok (.aload_n 0, 1) := gd_PA_settle_15.2.2.2.2.1
theorem d_PA_settle_25 : decode prog_2_method_18_code 25 = .ok (.getfield 34, 3) := gd_PA_settle_15.2.2.2.2.2.1
theorem d_PA_settle_28 : decode prog_2_method_18_code 28 = .ok (.iload_n 3, 1) := gd_PA_settle_15.2.2.2.2.2.2.1
theorem d_PA_settle_29 : decode prog_2_method_18_code 29 = .ok (.iaload, 1) := gd_PA_settle_15.2.2.2.2.2.2.2.1
theorem d_PA_settle_30 : decode prog_2_method_18_code 30 = .ok (.if_icmp .ge 13, 3) := gd_PA_settle_15.2.2.2.2.2.2.2.2.1
theorem d_PA_settle_43 : decode prog_2_method_18_code 43 = .ok (.aload_n 1, 1) := gd_PA_settle_15.2.2.2.2.2.2.2.2.2
theorem gd_PA_settle_44 : (decode prog_2_method_18_code 44 = .ok (.getfield 88, 3)) ∧ (decode prog_2_method_18_code 47 = .ok (.aload_n 0, 1)) ∧ (decode prog_2_method_18_code 48 = .ok (.getfield 15, 3)) ∧ (decode prog_2_method_18_code 51 = .ok (.iconst 2, 1)) ∧ (decode prog_2_method_18_code 52 = .ok (.iload_n 3, 1)) ∧ (decode prog_2_method_18_code 53 = .ok (.imul, 1)) ∧ (decode prog_2_method_18_code 54 = .ok (.iaload, 1)) ∧ (decode prog_2_method_18_code 55 = .ok (.dup2, 1)) ∧ (decode prog_2_method_18_code 56 = .ok (.iaload, 1)) ∧ (decode prog_2_method_18_code 57 = .ok (.aload_n 0, 1)) := by decide +kernel
theorem d_PA_settle_44 : decode prog_2_method_18_code 44 = .ok (.getfield 88, 3) := gd_PA_settle_44.1
theorem d_PA_settle_47 : decode prog_2_method_18_code 47 = .ok (.aload_n 0, 1) := gd_PA_settle_44.2.1
theorem d_PA_settle_48 : decode prog_2_method_18_code 48 = .ok (.getfield 15, 3) := gd_PA_settle_44.2.2.1
theorem d_PA_settle_51 : decode prog_2_method_18_code 51 = .ok (.iconst 2, 1) := gd_PA_settle_44.2.2.2.1
theorem d_PA_settle_52 : decode prog_2_method_18_code 52 = .ok (.iload_n 3, 1) := gd_PA_settle_44.2.2.2.2.1
theorem d_PA_settle_53 : decode prog_2_method_18_code 53 = .ok (.imul, 1) := gd_PA_settle_44.2.2.2.2.2.1
theorem d_PA_settle_54 : decode prog_2_method_18_code 54 = .ok (.iaload, 1) := gd_PA_settle_44.2.2.2.2.2.2.1
theorem d_PA_settle_55 : decode prog_2_method_18_code 55 = .ok (.dup2, 1) := gd_PA_settle_44.2.2.2.2.2.2.2.1
theorem d_PA_settle_56 : decode prog_2_method_18_code 56 = .ok (.iaload, 1) := gd_PA_settle_44.2.2.2.2.2.2.2.2.1
theorem d_PA_settle_57 : decode prog_2_method_18_code 57 = .ok (.aload_n 0, 1) := gd_PA_settle_44.2.2.2.2.2.2.2.2.2
theorem gd_PA_settle_58 : (decode prog_2_method_18_code 58 = .ok (.iload_n 3, 1)) ∧ (decode prog_2_method_18_code 59 = .ok (.aload_n 0, 1)) ∧ (decode prog_2_method_18_code 60 = .ok (.getfield 40, 3)) ∧ (decode prog_2_method_18_code 63 = .ok (.iload_n 3, 1)) ∧ (decode prog_2_method_18_code 64 = .ok (.iaload, 1)) ∧ (decode prog_2_method_18_code 65 = .ok (.iconst 0, 1)) ∧ (decode prog_2_method_18_code 66 = .ok (.invokevirtual 84, 3)) ∧ (decode prog_2_method_18_code 69 = .ok (.iadd, 1)) ∧ (decode prog_2_method_18_code 70 = .ok (.iastore, 1)) ∧ (decode prog_2_method_18_code 71 = .ok (.aload_n 1, 1)) := by decide +kernel
theorem d_PA_settle_58 : decode prog_2_method_18_code 58 = .ok (.iload_n 3, 1) := gd_PA_settle_58.1
theorem d_PA_settle_59 : decode prog_2_method_18_code 59 = .ok (.aload_n 0, 1) := gd_PA_settle_58.2.1
theorem d_PA_settle_60 : decode prog_2_method_18_code 60 = .ok (.getfield 40, 3) := gd_PA_settle_58.2.2.1
theorem d_PA_settle_63 : decode prog_2_method_18_code 63 = .ok (.iload_n 3, 1) := gd_PA_settle_58.2.2.2.1
theorem d_PA_settle_64 : decode prog_2_method_18_code 64 = .ok (.iaload, 1) := gd_PA_settle_58.2.2.2.2.1
theorem d_PA_settle_65 : decode prog_2_method_18_code 65 = .ok (.iconst 0, 1) := gd_PA_settle_58.2.2.2.2.2.1
theorem d_PA_settle_66 : decode prog_2_method_18_code 66 = .ok (.invokevirtual 84, 3) := gd_PA_settle_58.2.2.2.2.2.2.1
theorem d_PA_settle_69 : decode prog_2_method_18_code 69 = .ok (.iadd, 1) := gd_PA_settle_58.2.2.2.2.2.2.2.1
theorem d_PA_settle_70 : decode prog_2_method_18_code 70 = .ok (.iastore, 1) := gd_PA_settle_58.2.2.2.2.2.2.2.2.1
theorem d_PA_settle_71 : decode prog_2_method_18_code 71 = .ok (.aload_n 1, 1) := gd_PA_settle_58.2.2.2.2.2.2.2.2.2
theorem gd_PA_settle_72 : (decode prog_2_method_18_code 72 = .ok (.getfield 88, 3)) ∧ (decode prog_2_method_18_code 75 = .ok (.aload_n 0, 1)) ∧ (decode prog_2_method_18_code 76 = .ok (.getfield 15, 3)) ∧ (decode prog_2_method_18_code 79 = .ok (.iconst 2, 1)) ∧ (decode prog_2_method_18_code 80 = .ok (.iload_n 3, 1)) ∧ (decode prog_2_method_18_code 81 = .ok (.imul, 1)) ∧ (decode prog_2_method_18_code 82 = .ok (.iconst 1, 1)) ∧ (decode prog_2_method_18_code 83 = .ok (.iadd, 1)) ∧ (decode prog_2_method_18_code 84 = .ok (.iaload, 1)) ∧ (decode prog_2_method_18_code 85 = .ok (.dup2, 1)) := by decide +kernel
theorem d_PA_settle_72 : decode prog_2_method_18_code 72 = .ok (.getfield 88, 3) := gd_PA_settle_72.1
theorem d_PA_settle_75 : decode prog_2_method_18_code 75 = .ok (.aload_n 0, 1) := gd_PA_settle_72.2.1
theorem d_PA_settle_76 : decode prog_2_method_18_code 76 = .ok (.getfield 15, 3) := gd_PA_settle_72.2.2.1
theorem d_PA_settle_79 : decode prog_2_method_18_code 79 = .ok (.iconst 2, 1) := gd_PA_settle_72.2.2.2.1
theorem d_PA_settle_80 : decode prog_2_method_18_code 80 = .ok (.iload_n 3, 1) := gd_PA_settle_72.2.2.2.2.1
theorem d_PA_settle_81 : decode prog_2_method_18_code 81 = .ok (.imul, 1) := gd_PA_settle_72.2.2.2.2.2.1
theorem d_PA_settle_82 : decode prog_2_method_18_code 82 = .ok (.iconst 1, 1) := gd_PA_settle_72.2.2.2.2.2.2.1
theorem d_PA_settle_83 : decode prog_2_method_18_code 83 = .ok (.iadd, 1) := gd_PA_settle_72.2.2.2.2.2.2.2.1
theorem d_PA_settle_84 : decode prog_2_method_18_code 84 = .ok (.iaload, 1) := gd_PA_settle_72.2.2.2.2.2.2.2.2.1
theorem d_PA_settle_85 : decode prog_2_method_18_code 85 = .ok (.dup2, 1) := gd_PA_settle_72.2.2.2.2.2.2.2.2.2
theorem gd_PA_settle_86 : (decode prog_2_method_18_code 86 = .ok (.iaload, 1)) ∧ (decode prog_2_method_18_code 87 = .ok (.aload_n 0, 1)) ∧ (decode prog_2_method_18_code 88 = .ok (.iload_n 3, 1)) ∧ (decode prog_2_method_18_code 89 = .ok (.aload_n 0, 1)) ∧ (decode prog_2_method_18_code 90 = .ok (.getfield 40, 3)) ∧ (decode prog_2_method_18_code 93 = .ok (.iload_n 3, 1)) ∧ (decode prog_2_method_18_code 94 = .ok (.iaload, 1)) ∧ (decode prog_2_method_18_code 95 = .ok (.iconst 1, 1)) ∧ (decode prog_2_method_18_code 96 = .ok (.invokevirtual 84, 3)) ∧ (decode prog_2_method_18_code 99 = .ok (.iadd, 1)) := by decide +kernel
theorem d_PA_settle_86 : decode prog_2_method_18_code 86 = .ok (.iaload, 1) := gd_PA_settle_86.1
theorem d_PA_settle_87 : decode prog_2_method_18_code 87 = .ok (.aload_n 0, 1) := gd_PA_settle_86.2.1
theorem d_PA_settle_88 : decode prog_2_method_18_code 88 = .ok (.iload_n 3, 1) := gd_PA_settle_86.2.2.1
theorem d_PA_settle_89 : decode prog_2_method_18_code 89 = .ok (.aload_n 0, 1) := gd_PA_settle_86.2.2.2.1
theorem d_PA_settle_90 : decode prog_2_method_18_code 90 = .ok (.getfield 40, 3) := gd_PA_settle_86.2.2.2.2.1
theorem d_PA_settle_93 : decode prog_2_method_18_code 93 = .ok (.iload_n 3, 1) := gd_PA_settle_86.2.2.2.2.2.1
theorem d_PA_settle_94 : decode prog_2_method_18_code 94 = .ok (.iaload, 1) := gd_PA_settle_86.2.2.2.2.2.2.1
theorem d_PA_settle_95 : decode prog_2_method_18_code 95 = .ok (.iconst 1, 1) := gd_PA_settle_86.2.2.2.2.2.2.2.1
theorem d_PA_settle_96 : decode prog_2_method_18_code 96 = .ok (.invokevirtual 84, 3) := gd_PA_settle_86.2.2.2.2.2.2.2.2.1
theorem d_PA_settle_99 : decode prog_2_method_18_code 99 = .ok (.iadd, 1) := gd_PA_settle_86.2.2.2.2.2.2.2.2.2
theorem gd_PA_settle_100 : (decode prog_2_method_18_code 100 = .ok (.iastore, 1)) ∧ (decode prog_2_method_18_code 101 = .ok (.aload_n 0, 1)) ∧ (decode prog_2_method_18_code 102 = .ok (.iload_n 3, 1)) ∧ (decode prog_2_method_18_code 103 = .ok (.invokevirtual 91, 3)) ∧ (decode prog_2_method_18_code 106 = .ok (.iinc 3 1, 3)) ∧ (decode prog_2_method_18_code 109 = .ok (.goto (-107), 3)) ∧ (decode prog_2_method_18_code 33 = .ok (.aload_n 0, 1)) ∧ (decode prog_2_method_18_code 34 = .ok (.iload_n 3, 1)) ∧ (decode prog_2_method_18_code 35 = .ok (.aload_n 1, 1)) ∧ (decode prog_2_method_18_code 36 = .ok (.invokevirtual 94, 3)) := by decide +kernel
theorem d_PA_settle_100 : decode prog_2_method_18_code 100 = .ok (.iastore, 1) := gd_PA_settle_100.1
theorem d_PA_settle_101 : decode prog_2_method_18_code 101 = .ok (.aload_n 0, 1) := gd_PA_settle_100.2.1
theorem d_PA_settle_102 : decode prog_2_method_18_code 102 = .ok (.iload_n 3, 1) := gd_PA_settle_100.2.2.1
theorem d_PA_settle_103 : decode prog_2_method_18_code 103 = .ok (.invokevirtual 91, 3) := gd_PA_settle_100.2.2.2.1
theorem d_PA_settle_106 : decode prog_2_method_18_code 106 = .ok (.iinc 3 1, 3) := gd_PA_settle_100.2.2.2.2.1
theorem d_PA_settle_109 : decode prog_2_method_18_code 109 = .ok (.goto (-107), 3) := gd_PA_settle_100.2.2.2.2.2.1
theorem d_PA_settle_33 : decode prog_2_method_18_code 33 = .ok (.aload_n 0, 1) := gd_PA_settle_100.2.2.2.2.2.2.1
theorem d_PA_settle_34 : decode prog_2_method_18_code 34 = .ok (.iload_n 3, 1) := gd_PA_settle_100.2.2.2.2.2.2.2.1
theorem d_PA_settle_35 : decode prog_2_method_18_code 35 = .ok (.aload_n 1, 1) := gd_PA_settle_100.2.2.2.2.2.2.2.2.1
theorem d_PA_settle_36 : decode prog_2_method_18_code 36 = .ok (.invokevirtual 94, 3) := gd_PA_settle_100.2.2.2.2.2.2.2.2.2
theorem gd_PA_settle_39 : (decode prog_2_method_18_code 39 = .ok (.pop, 1)) ∧ (decode prog_2_method_18_code 40 = .ok (.goto 66, 3)) ∧ (decode prog_2_method_18_code 20 = .ok (.goto 86, 3)) := by decide +kernel
theorem d_PA_settle_39 : decode prog_2_method_18_code 39 = .ok (.pop, 1) := gd_PA_settle_39.1
theorem d_PA_settle_40 : decode prog_2_method_18_code 40 = .ok (.goto 66, 3) := gd_PA_settle_39.2.1
theorem d_PA_settle_20 : decode prog_2_method_18_code 20 = .ok (.goto 86, 3) := gd_PA_settle_39.2.2
theorem gd_PA_tryToPay_0 : (decode prog_2_method_20_code 0 = .ok (.aload_n 0, 1)) ∧ (decode prog_2_method_20_code 1 = .ok (.getfield 19, 3)) ∧ (decode prog_2_method_20_code 4 = .ok (.iconst 2, 1)) ∧ (decode prog_2_method_20_code 5 = .ok (.iload_n 1, 1)) ∧ (decode prog_2_method_20_code 6 = .ok (.imul, 1)) ∧ (decode prog_2_method_20_code 7 = .ok (.iaload, 1)) ∧ (decode prog_2_method_20_code 8 = .ok (.aload_n 0, 1)) ∧ (decode prog_2_method_20_code 9 = .ok (.getfield 19, 3)) ∧ (decode prog_2_method_20_code 12 = .ok (.iconst 2, 1)) ∧ (decode prog_2_method_20_code 13 = .ok (.iload_n 1, 1)) := by decide +kernel
theorem d_PA_tryToPay_0 : decode prog_2_method_20_code 0 = .ok (.aload_n 0, 1) := gd_PA_tryToPay_0.1
theorem d_PA_tryToPay_1 : decode prog_2_method_20_code 1 = .ok (.getfield 19, 3) := gd_PA_tryToPay_0.2.1
theorem d_PA_tryToPay_4 : decode prog_2_method_20_code 4 = .ok (.iconst 2, 1) := gd_PA_tryToPay_0.2.2.1
theorem d_PA_tryToPay_5 : decode prog_2_method_20_code 5 = .ok (.iload_n 1, 1) := gd_PA_tryToPay_0.2.2.2.1
theorem d_PA_tryToPay_6 : decode prog_2_method_20_code 6 = .ok (.imul, 1) := gd_PA_tryToPay_0.2.2.2.2.1
theorem d_PA_tryToPay_7 : decode prog_2_method_20_code 7 = .ok (.iaload, 1) := gd_PA_tryToPay_0.2.2.2.2.2.1
theorem d_PA_tryToPay_8 : decode prog_2_method_20_code 8 = .ok (.aload_n 0, 1) := gd_PA_tryToPay_0.2.2.2.2.2.2.1
theorem d_PA_tryToPay_9 : decode prog_2_method_20_code 9 = .ok (.getfield 19, 3) := gd_PA_tryToPay_0.2.2.2.2.2.2.2.1
theorem d_PA_tryToPay_12 : decode prog_2_method_20_code 12 = .ok (.iconst 2, 1) := gd_PA_tryToPay_0.2.2.2.2.2.2.2.2.1
theorem d_PA_tryToPay_13 : decode prog_2_method_20_code 13 = .ok (.iload_n 1, 1) := gd_PA_tryToPay_0.2.2.2.2.2.2.2.2.2
theorem gd_PA_tryToPay_14 : (decode prog_2_method_20_code 14 = .ok (.imul, 1)) ∧ (decode prog_2_method_20_code 15 = .ok (.iconst 1, 1)) ∧ (decode prog_2_method_20_code 16 = .ok (.iadd, 1)) ∧ (decode prog_2_method_20_code 17 = .ok (.iaload, 1)) ∧ (decode prog_2_method_20_code 18 = .ok (.iadd, 1)) ∧ (decode prog_2_method_20_code 19 = .ok (.istore 4, 2)) ∧ (decode prog_2_method_20_code 21 = .ok (.aload_n 0, 1)) ∧ (decode prog_2_method_20_code 22 = .ok (.getfield 19, 3)) ∧ (decode prog_2_method_20_code 25 = .ok (.iconst 2, 1)) ∧ (decode prog_2_method_20_code 26 = .ok (.iload_n 1, 1)) := by decide +kernel
theorem d_PA_tryToPay_14 : decode prog_2_method_20_code 14 = .ok (.imul, 1) := gd_PA_tryToPay_14.1
theorem d_PA_tryToPay_15 : decode prog_2_method_20_code 15 = .ok (.iconst 1, 1) := gd_PA_tryToPay_14.2.1
theorem d_PA_tryToPay_16 : decode prog_2_method_20_code 16 = .ok (.iadd, 1) := gd_PA_tryToPay_14.2.2.1
theorem d_PA_tryToPay_17 : decode prog_2_method_20_code 17 = .ok (.iaload, 1) := gd_PA_tryToPay_14.2.2.2.1
theorem d_PA_tryToPay_18 : decode prog_2_method_20_code 18 = .ok (.iadd, 1) := gd_PA_tryToPay_14.2.2.2.2.1
theorem d_PA_tryToPay_19 : decode prog_2_method_20_code 19 = .ok (.istore 4, 2) := gd_PA_tryToPay_14.2.2.2.2.2.1
theorem d_PA_tryToPay_21 : decode prog_2_method_20_code 21 = .ok (.aload_n 0, 1) := gd_PA_tryToPay_14.2.2.2.2.2.2.1
theorem d_PA_tryToPay_22 : decode prog_2_method_20_code 22 = .ok (.getfield 19, 3) := gd_PA_tryToPay_14.2.2.2.2.2.2.2.1
theorem d_PA_tryToPay_25 : decode prog_2_method_20_code 25 = .ok (.iconst 2, 1) := gd_PA_tryToPay_14.2.2.2.2.2.2.2.2.1
theorem d_PA_tryToPay_26 : decode prog_2_method_20_code 26 = .ok (.iload_n 1, 1) := gd_PA_tryToPay_14.2.2.2.2.2.2.2.2.2
theorem gd_PA_tryToPay_27 : (decode prog_2_method_20_code 27 = .ok (.imul, 1)) ∧ (decode prog_2_method_20_code 28 = .ok (.iload_n 2, 1)) ∧ (decode prog_2_method_20_code 29 = .ok (.iadd, 1)) ∧ (decode prog_2_method_20_code 30 = .ok (.iaload, 1)) ∧ (decode prog_2_method_20_code 31 = .ok (.iload_n 3, 1)) ∧ (decode prog_2_method_20_code 32 = .ok (.if_icmp .lt 7, 3)) ∧ (decode prog_2_method_20_code 39 = .ok (.iconst 0, 1)) ∧ (decode prog_2_method_20_code 40 = .ok (.istore 5, 2)) ∧ (decode prog_2_method_20_code 42 = .ok (.iload_n 2, 1)) ∧ (decode prog_2_method_20_code 43 = .ok (.ifCond .ne 27, 3)) := by decide +kernel
theorem d_PA_tryToPay_27 : decode prog_2_method_20_code 27 = .ok (.imul, 1) := gd_PA_tryToPay_27.1
theorem d_PA_tryToPay_28 : decode prog_2_method_20_code 28 = .ok (.iload_n 2, 1) := gd_PA_tryToPay_27.2.1
theorem d_PA_tryToPay_29 : decode prog_2_method_20_code 29 = .ok (.iadd, 1) := gd_PA_tryToPay_27.2.2.1
theorem d_PA_tryToPay_30 : decode prog_2_method_20_code 30 = .ok (.iaload, 1) := gd_PA_tryToPay_27.2.2.2.1
theorem d_PA_tryToPay_31 : decode prog_2_method_20_code 31 = .ok (.iload_n 3, 1) := gd_PA_tryToPay_27.2.2.2.2.1
theorem d_PA_tryToPay_32 : decode prog_2_method_20_code 32 = .ok (.if_icmp .lt 7, 3) := gd_PA_tryToPay_27.2.2.2.2.2.1
theorem d_PA_tryToPay_39 : decode prog_2_method_20_code 39 = .ok (.iconst 0, 1) := gd_PA_tryToPay_27.2.2.2.2.2.2.1
theorem d_PA_tryToPay_40 : decode prog_2_method_20_code 40 = .ok (.istore 5, 2) := gd_PA_tryToPay_27.2.2.2.2.2.2.2.1
theorem d_PA_tryToPay_42 : decode prog_2_method_20_code 42 = .ok (.iload_n 2, 1) := gd_PA_tryToPay_27.2.2.2.2.2.2.2.2.1
theorem d_PA_tryToPay_43 : decode prog_2_method_20_code 43 = .ok (.ifCond .ne 27, 3) := gd_PA_tryToPay_27.2.2.2.2.2.2.2.2.2
theorem gd_PA_tryToPay_70 : (decode prog_2_method_20_code 70 = .ok (.iload_n 2, 1)) ∧ (decode prog_2_method_20_code 71 = .ok (.ifCond .ne 24, 3)) ∧ (decode prog_2_method_20_code 95 = .ok (.iload 5, 2)) ∧ (decode prog_2_method_20_code 97 = .ok (.ifCond .eq 25, 3)) ∧ (decode prog_2_method_20_code 122 = .ok (.aload_n 0, 1)) ∧ (decode prog_2_method_20_code 123 = .ok (.getfield 43, 3)) ∧ (decode prog_2_method_20_code 126 = .ok (.iload_n 1, 1)) ∧ (decode prog_2_method_20_code 127 = .ok (.aload_n 0, 1)) ∧ (decode prog_2_method_20_code 128 = .ok (.getfield 43, 3)) ∧ (decode prog_2_method_20_code 131 = .ok (.iload_n 1, 1)) := by decide +kernel
theorem d_PA_tryToPay_70 : decode prog_2_method_20_code 70 = .ok (.iload_n 2, 1) := gd_PA_tryToPay_70.1
theorem d_PA_tryToPay_71 : decode prog_2_method_20_code 71 = .ok (.ifCond .ne 24, 3) := gd_PA_tryToPay_70.2.1
theorem d_PA_tryToPay_95 : decode prog_2_method_20_code 95 = .ok (.iload 5, 2) := gd_PA_tryToPay_70.2.2.1
theorem d_PA_tryToPay_97 : decode prog_2_method_20_code 97 = .ok (.ifCond .eq 25, 3) := gd_PA_tryToPay_70.2.2.2.1
theorem d_PA_tryToPay_122 : decode prog_2_method_20_code 122 = .ok (.aload_n 0, 1) := gd_PA_tryToPay_70.2.2.2.2.1
theorem d_PA_tryToPay_123 : decode prog_2_method_20_code 123 = .ok (.getfield 43, 3) := gd_PA_tryToPay_70.2.2.2.2.2.1
theorem d_PA_tryToPay_126 : decode prog_2_method_20_code 126 = .ok (.iload_n 1, 1) := gd_PA_tryToPay_70.2.2.2.2.2.2.1
theorem d_PA_tryToPay_127 : decode prog_2_method_20_code 127 = .ok (.aload_n 0, 1) := gd_PA_tryToPay_70.2.2.2.2.2.2.2.1
theorem d_PA_tryToPay_128 : decode prog_2_method_20_code 128 = .ok (.getfield 43, 3) := gd_PA_tryToPay_70.2.2.2.2.2.2.2.2.1
theorem d_PA_tryToPay_131 : decode prog_2_method_20_code 131 = .ok (.iload_n 1, 1) := gd_PA_tryToPay_70.2.2.2.2.2.2.2.2.2
theorem gd_PA_tryToPay_132 : (decode prog_2_method_20_code 132 = .ok (.iaload, 1)) ∧ (decode prog_2_method_20_code 133 = .ok (.iload 4, 2)) ∧ (decode prog_2_method_20_code 135 = .ok (.iload_n 3, 1)) ∧ (decode prog_2_method_20_code 136 = .ok (.isub, 1)) ∧ (decode prog_2_method_20_code 137 = .ok (.iconst 1, 1)) ∧ (decode prog_2_method_20_code 138 = .ok (.iadd, 1)) ∧ (decode prog_2_method_20_code 139 = .ok (.invokestatic 98, 3)) ∧ (decode prog_2_method_20_code 142 = .ok (.iastore, 1)) ∧ (decode prog_2_method_20_code 143 = .ok (.iload 5, 2)) ∧ (decode prog_2_method_20_code 145 = .ok (.ireturn, 1)) := by decide +kernel
theorem d_PA_tryToPay_132 : decode prog_2_method_20_code 132 = .ok (.iaload, 1) := gd_PA_tryToPay_132.1
theorem d_PA_tryToPay_133 : decode prog_2_method_20_code 133 = .ok (.iload 4, 2) := gd_PA_tryToPay_132.2.1
theorem d_PA_tryToPay_135 : decode prog_2_method_20_code 135 = .ok (.iload_n 3, 1) := gd_PA_tryToPay_132.2.2.1
theorem d_PA_tryToPay_136 : decode prog_2_method_20_code 136 = .ok (.isub, 1) := gd_PA_tryToPay_132.2.2.2.1
theorem d_PA_tryToPay_137 : decode prog_2_method_20_code 137 = .ok (.iconst 1, 1) := gd_PA_tryToPay_132.2.2.2.2.1
theorem d_PA_tryToPay_138 : decode prog_2_method_20_code 138 = .ok (.iadd, 1) := gd_PA_tryToPay_132.2.2.2.2.2.1
theorem d_PA_tryToPay_139 : decode prog_2_method_20_code 139 = .ok (.invokestatic 98, 3) := gd_PA_tryToPay_132.2.2.2.2.2.2.1
theorem d_PA_tryToPay_142 : decode prog_2_method_20_code 142 = .ok (.iastore, 1) := gd_PA_tryToPay_132.2.2.2.2.2.2.2.1
theorem d_PA_tryToPay_143 : decode prog_2_method_20_code 143 = .ok (.iload 5, 2) := gd_PA_tryToPay_132.2.2.2.2.2.2.2.2.1
theorem d_PA_tryToPay_145 : decode prog_2_method_20_code 145 = .ok (.ireturn, 1) := gd_PA_tryToPay_132.2.2.2.2.2.2.2.2.2
theorem gd_PA_tryToPay_46 : (decode prog_2_method_20_code 46 = .ok (.iload 5, 2)) ∧ (decode prog_2_method_20_code 48 = .ok (.ifCond .eq 22, 3)) ∧ (decode prog_2_method_20_code 74 = .ok (.aload_n 0, 1)) ∧ (decode prog_2_method_20_code 75 = .ok (.getfield 46, 3)) ∧ (decode prog_2_method_20_code 78 = .ok (.iload_n 1, 1)) ∧ (decode prog_2_method_20_code 79 = .ok (.aload_n 0, 1)) ∧ (decode prog_2_method_20_code 80 = .ok (.getfield 46, 3)) ∧ (decode prog_2_method_20_code 83 = .ok (.iload_n 1, 1)) ∧ (decode prog_2_method_20_code 84 = .ok (.iaload, 1)) ∧ (decode prog_2_method_20_code 85 = .ok (.iload_n 3, 1)) := by decide +kernel
theorem d_PA_tryToPay_46 : decode prog_2_method_20_code 46 = .ok (.iload 5, 2) := gd_PA_tryToPay_46.1
theorem d_PA_tryToPay_48 : decode prog_2_method_20_code 48 = .ok (.ifCond .eq 22, 3) := gd_PA_tryToPay_46.2.1
theorem d_PA_tryToPay_74 : decode prog_2_method_20_code 74 = .ok (.aload_n 0, 1) := gd_PA_tryToPay_46.2.2.1
theorem d_PA_tryToPay_75 : decode prog_2_method_20_code 75 = .ok (.getfield 46, 3) := gd_PA_tryToPay_46.2.2.2.1
theorem d_PA_tryToPay_78 : decode prog_2_method_20_code 78 = .ok (.iload_n 1, 1) := gd_PA_tryToPay_46.2.2.2.2.1
theorem d_PA_tryToPay_79 : decode prog_2_method_20_code 79 = .ok (.aload_n 0, 1) := gd_PA_tryToPay_46.2.2.2.2.2.1
theorem d_PA_tryToPay_80 : decode prog_2_method_20_code 80 = .ok (.getfield 46, 3) := gd_PA_tryToPay_46.2.2.2.2.2.2.1
theorem d_PA_tryToPay_83 : decode prog_2_method_20_code 83 = .ok (.iload_n 1, 1) := gd_PA_tryToPay_46.2.2.2.2.2.2.2.1
theorem d_PA_tryToPay_84 : decode prog_2_method_20_code 84 = .ok (.iaload, 1) := gd_PA_tryToPay_46.2.2.2.2.2.2.2.2.1
theorem d_PA_tryToPay_85 : decode prog_2_method_20_code 85 = .ok (.iload_n 3, 1) := gd_PA_tryToPay_46.2.2.2.2.2.2.2.2.2
theorem gd_PA_tryToPay_86 : (decode prog_2_method_20_code 86 = .ok (.iconst 1, 1)) ∧ (decode prog_2_method_20_code 87 = .ok (.isub, 1)) ∧ (decode prog_2_method_20_code 88 = .ok (.invokestatic 102, 3)) ∧ (decode prog_2_method_20_code 91 = .ok (.iastore, 1)) ∧ (decode prog_2_method_20_code 92 = .ok (.goto 51, 3)) ∧ (decode prog_2_method_20_code 35 = .ok (.iconst 1, 1)) ∧ (decode prog_2_method_20_code 36 = .ok (.goto 4, 3)) ∧ (decode prog_2_method_20_code 100 = .ok (.aload_n 0, 1)) ∧ (decode prog_2_method_20_code 101 = .ok (.getfield 46, 3)) ∧ (decode prog_2_method_20_code 104 = .ok (.iload_n 1, 1)) := by decide +kernel
theorem d_PA_tryToPay_86 : decode prog_2_method_20_code 86 = .ok (.iconst 1, 1) := gd_PA_tryToPay_86.1
theorem d_PA_tryToPay_87 : decode prog_2_method_20_code 87 = .ok (.isub, 1) := gd_PA_tryToPay_86.2.1
theorem d_PA_tryToPay_88 : decode prog_2_method_20_code 88 = .ok (.invokestatic 102, 3) := gd_PA_tryToPay_86.2.2.1
theorem d_PA_tryToPay_91 : decode prog_2_method_20_code 91 = .ok (.iastore, 1) := gd_PA_tryToPay_86.2.2.2.1
theorem d_PA_tryToPay_92 : decode prog_2_method_20_code 92 = .ok (.goto 51, 3) := gd_PA_tryToPay_86.2.2.2.2.1
theorem d_PA_tryToPay_35 : decode prog_2_method_20_code 35 = .ok (.iconst 1, 1) := gd_PA_tryToPay_86.2.2.2.2.2.1
theorem d_PA_tryToPay_36 : decode prog_2_method_20_code 36 = .ok (.goto 4, 3) := gd_PA_tryToPay_86.2.2.2.2.2.2.1
theorem d_PA_tryToPay_100 : decode prog_2_method_20_code 100 = .ok (.aload_n 0, 1) := gd_PA_tryToPay_86.2.2.2.2.2.2.2.1
theorem d_PA_tryToPay_101 : decode prog_2_method_20_code 101 = .ok (.getfield 46, 3) := gd_PA_tryToPay_86.2.2.2.2.2.2.2.2.1
theorem d_PA_tryToPay_104 : decode prog_2_method_20_code 104 = .ok (.iload_n 1, 1) := gd_PA_tryToPay_86.2.2.2.2.2.2.2.2.2
theorem gd_PA_tryToPay_105 : (decode prog_2_method_20_code 105 = .ok (.aload_n 0, 1)) ∧ (decode prog_2_method_20_code 106 = .ok (.getfield 46, 3)) ∧ (decode prog_2_method_20_code 109 = .ok (.iload_n 1, 1)) ∧ (decode prog_2_method_20_code 110 = .ok (.iaload, 1)) ∧ (decode prog_2_method_20_code 111 = .ok (.iload 4, 2)) ∧ (decode prog_2_method_20_code 113 = .ok (.iload_n 3, 1)) ∧ (decode prog_2_method_20_code 114 = .ok (.isub, 1)) ∧ (decode prog_2_method_20_code 115 = .ok (.invokestatic 102, 3)) ∧ (decode prog_2_method_20_code 118 = .ok (.iastore, 1)) ∧ (decode prog_2_method_20_code 119 = .ok (.goto 24, 3)) := by decide +kernel
theorem d_PA_tryToPay_105 : decode prog_2_method_20_code 105 = .ok (.aload_n 0, 1) := gd_PA_tryToPay_105.1
theorem d_PA_tryToPay_106 : decode prog_2_method_20_code 106 = .ok (.getfield 46, 3) := gd_PA_tryToPay_105.2.1
theorem d_PA_tryToPay_109 : decode prog_2_method_20_code 109 = .ok (.iload_n 1, 1) := gd_PA_tryToPay_105.2.2.1
theorem d_PA_tryToPay_110 : decode prog_2_method_20_code 110 = .ok (.iaload, 1) := gd_PA_tryToPay_105.2.2.2.1
theorem d_PA_tryToPay_111 : decode prog_2_method_20_code 111 = .ok (.iload 4, 2) := gd_PA_tryToPay_105.2.2.2.2.1
theorem d_PA_tryToPay_113 : decode prog_2_method_20_code 113 = .ok (.iload_n 3, 1) := gd_PA_tryToPay_105.2.2.2.2.2.1
theorem d_PA_tryToPay_114 : decode prog_2_method_20_code 114 = .ok (.isub, 1) := gd_PA_tryToPay_105.2.2.2.2.2.2.1
theorem d_PA_tryToPay_115 : decode prog_2_method_20_code 115 = .ok (.invokestatic 102, 3) := gd_PA_tryToPay_105.2.2.2.2.2.2.2.1
theorem d_PA_tryToPay_118 : decode prog_2_method_20_code 118 = .ok (.iastore, 1) := gd_PA_tryToPay_105.2.2.2.2.2.2.2.2.1
theorem d_PA_tryToPay_119 : decode prog_2_method_20_code 119 = .ok (.goto 24, 3) := gd_PA_tryToPay_105.2.2.2.2.2.2.2.2.2
theorem gd_PA_tryToPay_51 : (decode prog_2_method_20_code 51 = .ok (.aload_n 0, 1)) ∧ (decode prog_2_method_20_code 52 = .ok (.getfield 43, 3)) ∧ (decode prog_2_method_20_code 55 = .ok (.iload_n 1, 1)) ∧ (decode prog_2_method_20_code 56 = .ok (.aload_n 0, 1)) ∧ (decode prog_2_method_20_code 57 = .ok (.getfield 43, 3)) ∧ (decode prog_2_method_20_code 60 = .ok (.iload_n 1, 1)) ∧ (decode prog_2_method_20_code 61 = .ok (.iaload, 1)) ∧ (decode prog_2_method_20_code 62 = .ok (.iload_n 3, 1)) ∧ (decode prog_2_method_20_code 63 = .ok (.invokestatic 98, 3)) ∧ (decode prog_2_method_20_code 66 = .ok (.iastore, 1)) := by decide +kernel
theorem d_PA_tryToPay_51 : decode prog_2_method_20_code 51 = .ok (.aload_n 0, 1) := gd_PA_tryToPay_51.1
theorem d_PA_tryToPay_52 : decode prog_2_method_20_code 52 = .ok (.getfield 43, 3) := gd_PA_tryToPay_51.2.1
theorem d_PA_tryToPay_55 : decode prog_2_method_20_code 55 = .ok (.iload_n 1, 1) := gd_PA_tryToPay_51.2.2.1
theorem d_PA_tryToPay_56 : decode prog_2_method_20_code 56 = .ok (.aload_n 0, 1) := gd_PA_tryToPay_51.2.2.2.1
theorem d_PA_tryToPay_57 : decode prog_2_method_20_code 57 = .ok (.getfield 43, 3) := gd_PA_tryToPay_51.2.2.2.2.1
theorem d_PA_tryToPay_60 : decode prog_2_method_20_code 60 = .ok (.iload_n 1, 1) := gd_PA_tryToPay_51.2.2.2.2.2.1
theorem d_PA_tryToPay_61 : decode prog_2_method_20_code 61 = .ok (.iaload, 1) := gd_PA_tryToPay_51.2.2.2.2.2.2.1
theorem d_PA_tryToPay_62 : decode prog_2_method_20_code 62 = .ok (.iload_n 3, 1) := gd_PA_tryToPay_51.2.2.2.2.2.2.2.1
theorem d_PA_tryToPay_63 : decode prog_2_method_20_code 63 = .ok (.invokestatic 98, 3) := gd_PA_tryToPay_51.2.2.2.2.2.2.2.2.1
theorem d_PA_tryToPay_66 : decode prog_2_method_20_code 66 = .ok (.iastore, 1) := gd_PA_tryToPay_51.2.2.2.2.2.2.2.2.2
theorem d_PA_tryToPay_67 : decode prog_2_method_20_code 67 = .ok (.goto 76, 3) := by decide +kernel
theorem gd_PA_add_0 : (decode prog_2_method_3_code 0 = .ok (.aload_n 0, 1)) ∧ (decode prog_2_method_3_code 1 = .ok (.getfield 9, 3)) ∧ (decode prog_2_method_3_code 4 = .ok (.istore 5, 2)) ∧ (decode prog_2_method_3_code 6 = .ok (.aload_n 0, 1)) ∧ (decode prog_2_method_3_code 7 = .ok (.dup, 1)) ∧ (decode prog_2_method_3_code 8 = .ok (.getfield 9, 3)) ∧ (decode prog_2_method_3_code 11 = .ok (.iconst 1, 1)) ∧ (decode prog_2_method_3_code 12 = .ok (.iadd, 1)) ∧ (decode prog_2_method_3_code 13 = .ok (.putfield 9, 3)) ∧ (decode prog_2_method_3_code 16 = .ok (.aload_n 0, 1)) := by decide +kernel
theorem d_PA_add_0 : decode prog_2_method_3_code 0 = .ok (.aload_n 0, 1) := gd_PA_add_0.1
theorem d_PA_add_1 : decode prog_2_method_3_code 1 = .ok (.getfield 9, 3) := gd_PA_add_0.2.1
theorem d_PA_add_4 : decode prog_2_method_3_code 4 = .ok (.istore 5, 2) := gd_PA_add_0.2.2.1
theorem d_PA_add_6 : decode prog_2_method_3_code 6 = .ok (.aload_n 0, 1) := gd_PA_add_0.2.2.2.1
theorem d_PA_add_7 : decode prog_2_method_3_code 7 = .ok (.dup, 1) := gd_PA_add_0.2.2.2.2.1
theorem d_PA_add_8 : decode prog_2_method_3_code 8 = .ok (.getfield 9, 3) := gd_PA_add_0.2.2.2.2.2.1
theorem d_PA_add_11 : decode prog_2_method_3_code 11 = .ok (.iconst 1, 1) := gd_PA_add_0.2.2.2.2.2.2.1
theorem d_PA_add_12 : decode prog_2_method_3_code 12 = .ok (.iadd, 1) := gd_PA_add_0.2.2.2.2.2.2.2.1
theorem d_PA_add_13 : decode prog_2_method_3_code 13 = .ok (.putfield 9, 3) := gd_PA_add_0.2.2.2.2.2.2.2.2.1
theorem d_PA_add_16 : decode prog_2_method_3_code 16 = .ok (.aload_n 0, 1) := gd_PA_add_0.2.2.2.2.2.2.2.2.2
theorem gd_PA_add_17 : (decode prog_2_method_3_code 17 = .ok (.getfield 15, 3)) ∧ (decode prog_2_method_3_code 20 = .ok (.iconst 2, 1)) ∧ (decode prog_2_method_3_code 21 = .ok (.iload 5, 2)) ∧ (decode prog_2_method_3_code 23 = .ok (.imul, 1)) ∧ (decode prog_2_method_3_code 24 = .ok (.iload_n 1, 1)) ∧ (decode prog_2_method_3_code 25 = .ok (.iastore, 1)) ∧ (decode prog_2_method_3_code 26 = .ok (.aload_n 0, 1)) ∧ (decode prog_2_method_3_code 27 = .ok (.getfield 15, 3)) ∧ (decode prog_2_method_3_code 30 = .ok (.iconst 2, 1)) ∧ (decode prog_2_method_3_code 31 = .ok (.iload 5, 2)) := by decide +kernel
theorem d_PA_add_17 : decode prog_2_method_3_code 17 = .ok (.getfield 15, 3) := gd_PA_add_17.1
theorem d_PA_add_20 : decode prog_2_method_3_code 20 = .ok (.iconst 2, 1) := gd_PA_add_17.2.1
theorem d_PA_add_21 : decode prog_2_method_3_code 21 = .ok (.iload 5, 2) := gd_PA_add_17.2.2.1
theorem d_PA_add_23 : decode prog_2_method_3_code 23 = .ok (.imul, 1) := gd_PA_add_17.2.2.2.1
theorem d_PA_add_24 : decode prog_2_method_3_code 24 = .ok (.iload_n 1, 1) := gd_PA_add_17.2.2.2.2.1
theorem d_PA_add_25 : decode prog_2_method_3_code 25 = .ok (.iastore, 1) := gd_PA_add_17.2.2.2.2.2.1
theorem d_PA_add_26 : decode prog_2_method_3_code 26 = .ok (.aload_n 0, 1) := gd_PA_add_17.2.2.2.2.2.2.1
theorem d_PA_add_27 : decode prog_2_method_3_code 27 = .ok (.getfield 15, 3) := gd_PA_add_17.2.2.2.2.2.2.2.1
theorem d_PA_add_30 : decode prog_2_method_3_code 30 = .ok (.iconst 2, 1) := gd_PA_add_17.2.2.2.2.2.2.2.2.1
theorem d_PA_add_31 : decode prog_2_method_3_code 31 = .ok (.iload 5, 2) := gd_PA_add_17.2.2.2.2.2.2.2.2.2
theorem gd_PA_add_33 : (decode prog_2_method_3_code 33 = .ok (.imul, 1)) ∧ (decode prog_2_method_3_code 34 = .ok (.iconst 1, 1)) ∧ (decode prog_2_method_3_code 35 = .ok (.iadd, 1)) ∧ (decode prog_2_method_3_code 36 = .ok (.iload_n 2, 1)) ∧ (decode prog_2_method_3_code 37 = .ok (.iastore, 1)) ∧ (decode prog_2_method_3_code 38 = .ok (.aload_n 0, 1)) ∧ (decode prog_2_method_3_code 39 = .ok (.getfield 22, 3)) ∧ (decode prog_2_method_3_code 42 = .ok (.iconst 2, 1)) ∧ (decode prog_2_method_3_code 43 = .ok (.iload 5, 2)) ∧ (decode prog_2_method_3_code 45 = .ok (.imul, 1)) := by decide +kernel
theorem d_PA_add_33 : decode prog_2_method_3_code 33 = .ok (.imul, 1) := gd_PA_add_33.1
theorem d_PA_add_34 : decode prog_2_method_3_code 34 = .ok (.iconst 1, 1) := gd_PA_add_33.2.1
theorem d_PA_add_35 : decode prog_2_method_3_code 35 = .ok (.iadd, 1) := gd_PA_add_33.2.2.1
theorem d_PA_add_36 : decode prog_2_method_3_code 36 = .ok (.iload_n 2, 1) := gd_PA_add_33.2.2.2.1
theorem d_PA_add_37 : decode prog_2_method_3_code 37 = .ok (.iastore, 1) := gd_PA_add_33.2.2.2.2.1
theorem d_PA_add_38 : decode prog_2_method_3_code 38 = .ok (.aload_n 0, 1) := gd_PA_add_33.2.2.2.2.2.1
theorem d_PA_add_39 : decode prog_2_method_3_code 39 = .ok (.getfield 22, 3) := gd_PA_add_33.2.2.2.2.2.2.1
theorem d_PA_add_42 : decode prog_2_method_3_code 42 = .ok (.iconst 2, 1) := gd_PA_add_33.2.2.2.2.2.2.2.1
theorem d_PA_add_43 : decode prog_2_method_3_code 43 = .ok (.iload 5, 2) := gd_PA_add_33.2.2.2.2.2.2.2.2.1
theorem d_PA_add_45 : decode prog_2_method_3_code 45 = .ok (.imul, 1) := gd_PA_add_33.2.2.2.2.2.2.2.2.2
theorem gd_PA_add_46 : (decode prog_2_method_3_code 46 = .ok (.iconst 0, 1)) ∧ (decode prog_2_method_3_code 47 = .ok (.iastore, 1)) ∧ (decode prog_2_method_3_code 48 = .ok (.aload_n 0, 1)) ∧ (decode prog_2_method_3_code 49 = .ok (.getfield 22, 3)) ∧ (decode prog_2_method_3_code 52 = .ok (.iconst 2, 1)) ∧ (decode prog_2_method_3_code 53 = .ok (.iload 5, 2)) ∧ (decode prog_2_method_3_code 55 = .ok (.imul, 1)) ∧ (decode prog_2_method_3_code 56 = .ok (.iconst 1, 1)) ∧ (decode prog_2_method_3_code 57 = .ok (.iadd, 1)) ∧ (decode prog_2_method_3_code 58 = .ok (.iconst 0, 1)) := by decide +kernel
theorem d_PA_add_46 : decode prog_2_method_3_code 46 = .ok (.iconst 0, 1) := gd_PA_add_46.1
theorem d_PA_add_47 : decode prog_2_method_3_code 47 = .ok (.iastore, 1) := gd_PA_add_46.2.1
theorem d_PA_add_48 : decode prog_2_method_3_code 48 = .ok (.aload_n 0, 1) := gd_PA_add_46.2.2.1
theorem d_PA_add_49 : decode prog_2_method_3_code 49 = .ok (.getfield 22, 3) := gd_PA_add_46.2.2.2.1
theorem d_PA_add_52 : decode prog_2_method_3_code 52 = .ok (.iconst 2, 1) := gd_PA_add_46.2.2.2.2.1
theorem d_PA_add_53 : decode prog_2_method_3_code 53 = .ok (.iload 5, 2) := gd_PA_add_46.2.2.2.2.2.1
theorem d_PA_add_55 : decode prog_2_method_3_code 55 = .ok (.imul, 1) := gd_PA_add_46.2.2.2.2.2.2.1
theorem d_PA_add_56 : decode prog_2_method_3_code 56 = .ok (.iconst 1, 1) := gd_PA_add_46.2.2.2.2.2.2.2.1
theorem d_PA_add_57 : decode prog_2_method_3_code 57 = .ok (.iadd, 1) := gd_PA_add_46.2.2.2.2.2.2.2.2.1
theorem d_PA_add_58 : decode prog_2_method_3_code 58 = .ok (.iconst 0, 1) := gd_PA_add_46.2.2.2.2.2.2.2.2.2
theorem gd_PA_add_59 : (decode prog_2_method_3_code 59 = .ok (.iastore, 1)) ∧ (decode prog_2_method_3_code 60 = .ok (.aload_n 0, 1)) ∧ (decode prog_2_method_3_code 61 = .ok (.getfield 28, 3)) ∧ (decode prog_2_method_3_code 64 = .ok (.iload 5, 2)) ∧ (decode prog_2_method_3_code 66 = .ok (.iconst 0, 1)) ∧ (decode prog_2_method_3_code 67 = .ok (.iastore, 1)) ∧ (decode prog_2_method_3_code 68 = .ok (.aload_n 0, 1)) ∧ (decode prog_2_method_3_code 69 = .ok (.getfield 31, 3)) ∧ (decode prog_2_method_3_code 72 = .ok (.iload 5, 2)) ∧ (decode prog_2_method_3_code 74 = .ok (.iconst 0, 1)) := by decide +kernel
theorem d_PA_add_59 : decode prog_2_method_3_code 59 = .ok (.iastore, 1) := gd_PA_add_59.1
theorem d_PA_add_60 : decode prog_2_method_3_code 60 = .ok (.aload_n 0, 1) := gd_PA_add_59.2.1
theorem d_PA_add_61 : decode prog_2_method_3_code 61 = .ok (.getfield 28, 3) := gd_PA_add_59.2.2.1
theorem d_PA_add_64 : decode prog_2_method_3_code 64 = .ok (.iload 5, 2) := gd_PA_add_59.2.2.2.1
theorem d_PA_add_66 : decode prog_2_method_3_code 66 = .ok (.iconst 0, 1) := gd_PA_add_59.2.2.2.2.1
theorem d_PA_add_67 : decode prog_2_method_3_code 67 = .ok (.iastore, 1) := gd_PA_add_59.2.2.2.2.2.1
theorem d_PA_add_68 : decode prog_2_method_3_code 68 = .ok (.aload_n 0, 1) := gd_PA_add_59.2.2.2.2.2.2.1
theorem d_PA_add_69 : decode prog_2_method_3_code 69 = .ok (.getfield 31, 3) := gd_PA_add_59.2.2.2.2.2.2.2.1
theorem d_PA_add_72 : decode prog_2_method_3_code 72 = .ok (.iload 5, 2) := gd_PA_add_59.2.2.2.2.2.2.2.2.1
theorem d_PA_add_74 : decode prog_2_method_3_code 74 = .ok (.iconst 0, 1) := gd_PA_add_59.2.2.2.2.2.2.2.2.2
theorem gd_PA_add_75 : (decode prog_2_method_3_code 75 = .ok (.iastore, 1)) ∧ (decode prog_2_method_3_code 76 = .ok (.aload_n 0, 1)) ∧ (decode prog_2_method_3_code 77 = .ok (.iload 5, 2)) ∧ (decode prog_2_method_3_code 79 = .ok (.iload_n 3, 1)) ∧ (decode prog_2_method_3_code 80 = .ok (.iload 4, 2)) ∧ (decode prog_2_method_3_code 82 = .ok (.invokevirtual 53, 3)) ∧ (decode prog_2_method_3_code 85 = .ok (.aload_n 0, 1)) ∧ (decode prog_2_method_3_code 86 = .ok (.iload 5, 2)) ∧ (decode prog_2_method_3_code 88 = .ok (.invokevirtual 57, 3)) ∧ (decode prog_2_method_3_code 91 = .ok (.iload 5, 2)) := by decide +kernel
theorem d_PA_add_75 : decode prog_2_method_3_code 75 = .ok (.iastore, 1) := gd_PA_add_75.1
theorem d_PA_add_76 : decode prog_2_method_3_code 76 = .ok (.aload_n 0, 1) := gd_PA_add_75.2.1
theorem d_PA_add_77 : decode prog_2_method_3_code 77 = .ok (.iload 5, 2) := gd_PA_add_75.2.2.1
theorem d_PA_add_79 : decode prog_2_method_3_code 79 = .ok (.iload_n 3, 1) := gd_PA_add_75.2.2.2.1
theorem d_PA_add_80 : decode prog_2_method_3_code 80 = .ok (.iload 4, 2) := gd_PA_add_75.2.2.2.2.1
theorem d_PA_add_82 : decode prog_2_method_3_code 82 = .ok (.invokevirtual 53, 3) := gd_PA_add_75.2.2.2.2.2.1
theorem d_PA_add_85 : decode prog_2_method_3_code 85 = .ok (.aload_n 0, 1) := gd_PA_add_75.2.2.2.2.2.2.1
theorem d_PA_add_86 : decode prog_2_method_3_code 86 = .ok (.iload 5, 2) := gd_PA_add_75.2.2.2.2.2.2.2.1
theorem d_PA_add_88 : decode prog_2_method_3_code 88 = .ok (.invokevirtual 57, 3) := gd_PA_add_75.2.2.2.2.2.2.2.2.1
theorem d_PA_add_91 : decode prog_2_method_3_code 91 = .ok (.iload 5, 2) := gd_PA_add_75.2.2.2.2.2.2.2.2.2
theorem d_PA_add_93 : decode prog_2_method_3_code 93 = .ok (.ireturn, 1) := by decide +kernel
set_option maxHeartbeats 4000000 in
set_option maxRecDepth 100000 in
theorem e_PA_isCaught (l : Launch) (D : va_G) (cI cZ : ClassId) (a0 : Nat) (j : Nat) (f0 : Nat) (np : Nat) (a1 : Nat) (a2 : Nat) (a3 : Nat) (a4 : Nat) (a5 : Nat) (a6 : Nat) (a7 : Nat) (a8 : Nat) (a9 : Nat) (a10 : Nat) (a11 : Nat) (EP : Nat → Nat) (SI : Nat → Int32) (SS : Nat → Int32) (ST : Nat → Nat) (PH : Nat → Int32) (CL : Nat → Nat) (CB : Nat → Nat) (LE : Nat → Int32) (GR : Nat → Int32) (nn : Nat) (f1 : Nat) (f2 : Nat) (f3 : Nat) (f4 : Nat) (FC : Nat → Int32) (FA : Nat → Int32) (sz : Nat) (h_np : np ≤ 12) (h_EP : ∀ zz, EP zz ≤ 6) (h_ST : ∀ zz, ST zz ≤ 64) (h_CL : ∀ zz, CL zz ≤ 1) (h_CB : ∀ zz, CB zz ≤ 63) (h_nn : nn ≤ 7) (hj : j < 12) (h1 : 1 ≤ ST j) : Met l ⟨"PromiseChains$Pairs", "isCaught", "(ILPromiseChains$People;)Z"⟩ (mw ⟨"PromiseChains$Pairs", "isCaught", "(ILPromiseChains$People;)Z"⟩ prog_2_method_17_code 6 (some .boolean)) ({ frames := 2, cells := 0, slots := 0, locals := 44 }) (va_Pc [.ref a0, .int (nI j), .ref f0] (PB D cI cZ sz [(a0, .inr (2, [.int (nI np), .ref a1, .ref a2, .ref a3, .ref a4, .ref a5, .ref a6, .ref a7, .ref a8, .ref a9, .ref a10, .ref a11])), (a1, .inl (cI, 24, .inl (fun zy => nI (EP zy)))), (a2, .inl (cI, 24, .inl SI)), (a4, .inl (cI, 1536, .inl SS)), (a5, .inl (cI, 12, .inl (fun zy => nI (ST zy)))), (a6, .inl (cI, 12, .inl PH)), (a8, .inl (cI, 12, .inl (fun zy => nI (CL zy)))), (a9, .inl (cI, 12, .inl (fun zy => nI (CB zy)))), (a10, .inl (cI, 12, .inl LE)), (a11, .inl (cI, 12, .inl GR)), (f0, .inr (1, [.int (nI nn), .ref f1, .ref f2, .ref f3, .ref f4])), (f1, .inl (cI, 7, .inl FC)), (f4, .inl (cZ, 7, .inl FA))])) (va_Qi (S := (Nat → Int32) × (Nat → Int32) × (Nat → Int32) × (Nat → Int32) × (Nat → Int32)) (fun (r : Int32) uU => (cgB EP ST CL CB FA j = false ∧ uU.1 = SI ∧ uU.2.1 = PH ∧ uU.2.2.1 = LE ∧ uU.2.2.2.1 = GR ∧ r = 0) ∨ (cgB EP ST CL CB FA j = true ∧ uU.1 = upd (upd SI (2 * j) 0) (2 * j + 1) 0 ∧ uU.2.1 = upd PH j 2 ∧ uU.2.2.1 = upd LE j 0 ∧ uU.2.2.2.1 = upd GR j (0 + 0) ∧ r = 1)) (fun uU tT => BB D (va_A [(a0, .inr (2, [.int (nI np), .ref a1, .ref a2, .ref a3, .ref a4, .ref a5, .ref a6, .ref a7, .ref a8, .ref a9, .ref a10, .ref a11])), (a1, .inl (cI, 24, .inl (fun zy => nI (EP zy)))), (a2, .inl (cI, 24, .inl SI)), (a4, .inl (cI, 1536, .inl SS)), (a5, .inl (cI, 12, .inl (fun zy => nI (ST zy)))), (a6, .inl (cI, 12, .inl PH)), (a8, .inl (cI, 12, .inl (fun zy => nI (CL zy)))), (a9, .inl (cI, 12, .inl (fun zy => nI (CB zy)))), (a10, .inl (cI, 12, .inl LE)), (a11, .inl (cI, 12, .inl GR)), (f0, .inr (1, [.int (nI nn), .ref f1, .ref f2, .ref f3, .ref f4])), (f1, .inl (cI, 7, .inl FC)), (f4, .inl (cZ, 7, .inl FA))] sz) [(a0, .inr (2, [.int (nI np), .ref a1, .ref a2, .ref a3, .ref a4, .ref a5, .ref a6, .ref a7, .ref a8, .ref a9, .ref a10, .ref a11])), (a1, .inl (cI, 24, .inl (fun zy => nI (EP zy)))), (a2, .inl (cI, 24, .inl (uU.1))), (a4, .inl (cI, 1536, .inl SS)), (a5, .inl (cI, 12, .inl (fun zy => nI (ST zy)))), (a6, .inl (cI, 12, .inl (uU.2.1))), (a8, .inl (cI, 12, .inl (fun zy => nI (CL zy)))), (a9, .inl (cI, 12, .inl (fun zy => nI (CB zy)))), (a10, .inl (cI, 12, .inl (uU.2.2.1))), (a11, .inl (cI, 12, .inl (uU.2.2.2.1))), (f0, .inr (1, [.int (nI nn), .ref f1, .ref f2, .ref f3, .ref f4])), (f1, .inl (cI, 7, .inl (uU.2.2.2.2))), (f4, .inl (cZ, 7, .inl FA))] tT) (va_A [(a0, .inr (2, [.int (nI np), .ref a1, .ref a2, .ref a3, .ref a4, .ref a5, .ref a6, .ref a7, .ref a8, .ref a9, .ref a10, .ref a11])), (a1, .inl (cI, 24, .inl (fun zy => nI (EP zy)))), (a2, .inl (cI, 24, .inl SI)), (a4, .inl (cI, 1536, .inl SS)), (a5, .inl (cI, 12, .inl (fun zy => nI (ST zy)))), (a6, .inl (cI, 12, .inl PH)), (a8, .inl (cI, 12, .inl (fun zy => nI (CL zy)))), (a9, .inl (cI, 12, .inl (fun zy => nI (CB zy)))), (a10, .inl (cI, 12, .inl LE)), (a11, .inl (cI, 12, .inl GR)), (f0, .inr (1, [.int (nI nn), .ref f1, .ref f2, .ref f3, .ref f4])), (f1, .inl (cI, 7, .inl FC)), (f4, .inl (cZ, 7, .inl FA))] sz)) 0 0 (va_A [(a0, .inr (2, [.int (nI np), .ref a1, .ref a2, .ref a3, .ref a4, .ref a5, .ref a6, .ref a7, .ref a8, .ref a9, .ref a10, .ref a11])), (a1, .inl (cI, 24, .inl (fun zy => nI (EP zy)))), (a2, .inl (cI, 24, .inl SI)), (a4, .inl (cI, 1536, .inl SS)), (a5, .inl (cI, 12, .inl (fun zy => nI (ST zy)))), (a6, .inl (cI, 12, .inl PH)), (a8, .inl (cI, 12, .inl (fun zy => nI (CL zy)))), (a9, .inl (cI, 12, .inl (fun zy => nI (CB zy)))), (a10, .inl (cI, 12, .inl LE)), (a11, .inl (cI, 12, .inl GR)), (f0, .inr (1, [.int (nI nn), .ref f1, .ref f2, .ref f3, .ref f4])), (f1, .inl (cI, 7, .inl FC)), (f4, .inl (cZ, 7, .inl FA))] sz) := by
  refine Met.ofW (cc := prog_2_method_17_code) (maxL := 6) (ret := (some .boolean)) (by decide) rfl ?_
  intro p e s m args below meth c s₁ B hml hv
  obtain ⟨rfl, hsz, hP, hK, hD0, hN⟩ := hv
  have hx := B.exec
  have hb := B.bytes
  have hr := B.returns
  have hts0 := atoms_spec (ws := mw ⟨"PromiseChains$Pairs", "isCaught", "(ILPromiseChains$People;)Z"⟩ prog_2_method_17_code 6 (some .boolean)) B.pre
  have hts : ∀ w ∈ tblG, w.before _ s = true := fun w h => hts0 w (List.mem_cons_of_mem _ h)
  have hown : s.vm.findClass "PromiseChains$Pairs" = some m.cls := findClass_of_methodNamed B.named
  have hlocks := B.notSynchronized
  subst hsz
  have hD := hD0.self (sz := s.heap.size)
  generalize hAe : va_A [(a0, .inr (2, [.int (nI np), .ref a1, .ref a2, .ref a3, .ref a4, .ref a5, .ref a6, .ref a7, .ref a8, .ref a9, .ref a10, .ref a11])), (a1, .inl (cI, 24, .inl (fun zy => nI (EP zy)))), (a2, .inl (cI, 24, .inl SI)), (a4, .inl (cI, 1536, .inl SS)), (a5, .inl (cI, 12, .inl (fun zy => nI (ST zy)))), (a6, .inl (cI, 12, .inl PH)), (a8, .inl (cI, 12, .inl (fun zy => nI (CL zy)))), (a9, .inl (cI, 12, .inl (fun zy => nI (CB zy)))), (a10, .inl (cI, 12, .inl LE)), (a11, .inl (cI, 12, .inl GR)), (f0, .inr (1, [.int (nI nn), .ref f1, .ref f2, .ref f3, .ref f4])), (f1, .inl (cI, 7, .inl FC)), (f4, .inl (cZ, 7, .inl FA))] s.heap.size = A at hD ⊢
  have hA : ∀ q : Nat, s.heap.size ≤ q → A q := fun q h => by rw [← hAe]; exact Or.inr h
  have hS : va_S A s.heap s.heap [] := va_S.rf
  have hP : va_P D vwCl [(a0, .inr (2, [.int (nI np), .ref a1, .ref a2, .ref a3, .ref a4, .ref a5, .ref a6, .ref a7, .ref a8, .ref a9, .ref a10, .ref a11])), (a1, .inl (cI, 24, .inl (fun zy => nI (EP zy)))), (a2, .inl (cI, 24, .inl SI)), (a4, .inl (cI, 1536, .inl SS)), (a5, .inl (cI, 12, .inl (fun zy => nI (ST zy)))), (a6, .inl (cI, 12, .inl PH)), (a8, .inl (cI, 12, .inl (fun zy => nI (CL zy)))), (a9, .inl (cI, 12, .inl (fun zy => nI (CB zy)))), (a10, .inl (cI, 12, .inl LE)), (a11, .inl (cI, 12, .inl GR)), (f0, .inr (1, [.int (nI nn), .ref f1, .ref f2, .ref f3, .ref f4])), (f1, .inl (cI, 7, .inl FC)), (f4, .inl (cZ, 7, .inl FA))] s.heap := hP
  have hl := lv_entry ([.ref a0, .int (nI j), .ref f0]) (n := 6) (Nat.le_of_ble_eq_true rfl)
  rw [lg_entry_eq]
  generalize (lg_sl ([.ref a0, .int (nI j), .ref f0]) ++ List.replicate (6 - (lg_sl ([.ref a0, .int (nI j), .ref f0])).length) Slot.unset).toArray = ls at hl ⊢
  have hl : lv_has ls 6 [(0, .ref a0), (1, .int (nI j)), (2, .ref f0)] := hl
  refine lv_iconst (v := 1) hx hb d_PA_isCaught_0 (by decide) ?_
  refine lv_aload_n hx hb d_PA_isCaught_1 rfl (lv_at hl 0 rfl) ?_
  refine va_get (D := D) (ci := 2) (v := .ref a8) (C := R_PA) (T := F_PA) (N := 12) hx hb hts i_PA hown hK hP 0 rfl rfl 8 (by decide) (hts _ q_73) (fun _ h9 => h9) rfl d_PA_isCaught_2 ?_
  refine lv_iload_n hx hb d_PA_isCaught_5 rfl (lv_at hl 1 rfl) ?_
  refine my_ldN hx hb hK hP 6 rfl j rfl (by omega) (by decide) d_PA_isCaught_6 ?_
  have hb_1 : CL j ≤ 1 := h_CL _
  refine lv_isub hx hb d_PA_isCaught_7 ?_
  refine lv_seti (nI (1 - (CL j))) (pk_sub (a := 1) (b := (CL j)) (by omega)) ?_
  refine lv_istore_n (lv' := [(3, .int (nI (1 - (CL j)))), (0, .ref a0), (1, .int (nI j)), (2, .ref f0)]) hx hb d_PA_isCaught_8 rfl hl (by decide) rfl (fun ls hl => ?_)
  refine lv_aload_n hx hb d_PA_isCaught_9 rfl (lv_at hl 1 rfl) ?_
  refine va_get (D := D) (ci := 2) (v := .ref a5) (C := R_PA) (T := F_PA) (N := 12) hx hb hts i_PA hown hK hP 0 rfl rfl 5 (by decide) (hts _ q_67) (fun _ h9 => h9) rfl d_PA_isCaught_10 ?_
  refine lv_iload_n hx hb d_PA_isCaught_13 rfl (lv_at hl 2 rfl) ?_
  refine my_ldN hx hb hK hP 4 rfl j rfl (by omega) (by decide) d_PA_isCaught_14 ?_
  have hb_2 : ST j ≤ 64 := h_ST _
  refine lv_iconst (v := 1) hx hb d_PA_isCaught_15 (by decide) ?_
  refine lv_isub hx hb d_PA_isCaught_16 ?_
  refine lv_seti (nI ((ST j) - 1)) (pk_sub (a := (ST j)) (b := 1) (by omega)) ?_
  refine lv_istore (lv' := [(4, .int (nI ((ST j) - 1))), (3, .int (nI (1 - (CL j)))), (0, .ref a0), (1, .int (nI j)), (2, .ref f0)]) hx hb d_PA_isCaught_17 hl (by decide) rfl (fun ls hl => ?_)
  refine lv_aload_n hx hb d_PA_isCaught_19 rfl (lv_at hl 2 rfl) ?_
  refine va_get (D := D) (ci := 2) (v := .ref a9) (C := R_PA) (T := F_PA) (N := 12) hx hb hts i_PA hown hK hP 0 rfl rfl 9 (by decide) (hts _ q_74) (fun _ h9 => h9) rfl d_PA_isCaught_20 ?_
  refine lv_iload_n hx hb d_PA_isCaught_23 rfl (lv_at hl 3 rfl) ?_
  refine my_ldN hx hb hK hP 7 rfl j rfl (by omega) (by decide) d_PA_isCaught_24 ?_
  have hb_3 : CB j ≤ 63 := h_CB _
  refine lv_iload hx hb d_PA_isCaught_25 (lv_at hl 0 rfl) ?_
  refine lv_icmp_eq (tgt := 48) hx hb d_PA_isCaught_27 (by decide) (fun h_1 => ?_) (fun h_1 => ?_)
  · have nh_1 : (CB j) = ((ST j) - 1) := (nI_eq (a := (CB j)) (b := ((ST j) - 1)) (by omega) (by omega)).mp h_1
    refine lv_iconst (v := 0) hx hb d_PA_isCaught_48 (by decide) ?_
    have hP9 := hP.sub (ws' := [(a0, .inr (2, [.int (nI np), .ref a1, .ref a2, .ref a3, .ref a4, .ref a5, .ref a6, .ref a7, .ref a8, .ref a9, .ref a10, .ref a11])), (a1, .inl (cI, 24, .inl (fun zy => nI (EP zy)))), (a2, .inl (cI, 24, .inl SI)), (a4, .inl (cI, 1536, .inl SS)), (a5, .inl (cI, 12, .inl (fun zy => nI (ST zy)))), (a6, .inl (cI, 12, .inl PH)), (a8, .inl (cI, 12, .inl (fun zy => nI (CL zy)))), (a9, .inl (cI, 12, .inl (fun zy => nI (CB zy)))), (a10, .inl (cI, 12, .inl LE)), (a11, .inl (cI, 12, .inl GR)), (f0, .inr (1, [.int (nI nn), .ref f1, .ref f2, .ref f3, .ref f4])), (f1, .inl (cI, 7, .inl FC)), (f4, .inl (cZ, 7, .inl FA))]) [0, 1, 2, 3, 4, 5, 6, 7, 8, 9, 10, 11, 12] rfl
    have hD9 := hD.sub (ws' := [(a0, .inr (2, [.int (nI np), .ref a1, .ref a2, .ref a3, .ref a4, .ref a5, .ref a6, .ref a7, .ref a8, .ref a9, .ref a10, .ref a11])), (a1, .inl (cI, 24, .inl (fun zy => nI (EP zy)))), (a2, .inl (cI, 24, .inl SI)), (a4, .inl (cI, 1536, .inl SS)), (a5, .inl (cI, 12, .inl (fun zy => nI (ST zy)))), (a6, .inl (cI, 12, .inl PH)), (a8, .inl (cI, 12, .inl (fun zy => nI (CL zy)))), (a9, .inl (cI, 12, .inl (fun zy => nI (CB zy)))), (a10, .inl (cI, 12, .inl LE)), (a11, .inl (cI, 12, .inl GR)), (f0, .inr (1, [.int (nI nn), .ref f1, .ref f2, .ref f3, .ref f4])), (f1, .inl (cI, 7, .inl FC)), (f4, .inl (cZ, 7, .inl FA))]) [0, 1, 2, 3, 4, 5, 6, 7, 8, 9, 10, 11, 12] (by decide +kernel) rfl
    refine W.widen (k := 0) (n := 0) (Nat.le_of_ble_eq_true rfl) (Nat.le_of_ble_eq_true rfl) ?_
    exact W.zret (v := 0) hx hb hr rfl (fun tT ht hW => ⟨⟨0, (SI, PH, LE, GR, FC), rfl, (Or.inl (⟨(cgB_n1 nh_1), rfl, rfl, rfl, rfl, rfl⟩)), by rw [ht]; exact hP9, hD9⟩, hS.F ht⟩) hS.2.2 d_PA_isCaught_49
  · have nh_1 : ¬ (CB j) = ((ST j) - 1) := fun qZ => h_1 ((nI_eq (a := (CB j)) (b := ((ST j) - 1)) (by omega) (by omega)).mpr qZ)
    refine lv_aload_n hx hb d_PA_isCaught_30 rfl (lv_at hl 4 rfl) ?_
    refine va_get (D := D) (ci := 1) (v := .ref f4) (C := R_PE) (T := F_PE) (N := 5) hx hb hts i_PE hown hK hP 10 rfl rfl 4 (by decide) (hts _ q_36) (fun _ h9 => h9) rfl d_PA_isCaught_31 ?_
    refine lv_aload_n hx hb d_PA_isCaught_34 rfl (lv_at hl 2 rfl) ?_
    refine va_get (D := D) (ci := 2) (v := .ref a1) (C := R_PA) (T := F_PA) (N := 12) hx hb hts i_PA hown hK hP 0 rfl rfl 1 (by decide) (hts _ q_58) (fun _ h9 => h9) rfl d_PA_isCaught_35 ?_
    refine lv_iconst (v := 2) hx hb d_PA_isCaught_38 (by decide) ?_
    refine lv_iload_n hx hb d_PA_isCaught_39 rfl (lv_at hl 3 rfl) ?_
    refine lv_imul hx hb d_PA_isCaught_40 ?_
    refine lv_seti (nI (2 * j)) (pk_mul 2 j) ?_
    refine lv_iload_n hx hb d_PA_isCaught_41 rfl (lv_at hl 1 rfl) ?_
    refine lv_iadd hx hb d_PA_isCaught_42 ?_
    refine lv_seti (nI ((2 * j) + (1 - (CL j)))) (nI_add (2 * j) (1 - (CL j))) ?_
    refine my_ldN hx hb hK hP 1 rfl ((2 * j) + (1 - (CL j))) rfl (by omega) (by decide) d_PA_isCaught_43 ?_
    have hb_4 : EP ((2 * j) + (1 - (CL j))) ≤ 6 := h_EP _
    refine my_ldZ hx hb hK hP 12 rfl (EP ((2 * j) + (1 - (CL j)))) rfl (by omega) (by decide) d_PA_isCaught_44 ?_
    refine lv_if_eq (tgt := 50) hx hb d_PA_isCaught_45 (by decide) (fun h_2 => ?_) (fun h_2 => ?_)
    · refine lv_aload_n hx hb d_PA_isCaught_50 rfl (lv_at hl 2 rfl) ?_
      refine lv_iload_n hx hb d_PA_isCaught_51 rfl (lv_at hl 3 rfl) ?_
      refine lv_iload hx hb d_PA_isCaught_52 (lv_at hl 0 rfl) ?_
      refine lv_iconst (v := 0) hx hb d_PA_isCaught_54 (by decide) ?_
      have hPc := hP.sub (ws' := [(a0, .inr (2, [.int (nI np), .ref a1, .ref a2, .ref a3, .ref a4, .ref a5, .ref a6, .ref a7, .ref a8, .ref a9, .ref a10, .ref a11])), (a4, .inl (cI, 1536, .inl SS))]) [0, 3] rfl
      have hDc := hD.sub (ws' := [(a0, .inr (2, [.int (nI np), .ref a1, .ref a2, .ref a3, .ref a4, .ref a5, .ref a6, .ref a7, .ref a8, .ref a9, .ref a10, .ref a11])), (a4, .inl (cI, 1536, .inl SS))]) [0, 3] (by decide +kernel) rfl
      refine vp_callSi (va_Run.run (va_runV (As := [.int (nI j), .int (nI ((ST j) - 1)), .int 0]) (rest := []) ⟨hx, hb, hml, hown, hts⟩ (e_PA_sideInState l D cI cZ a0 j ((ST j) - 1) 0 np a1 a2 a3 a4 a5 a6 a7 a8 a9 a10 a11 SS s.heap.size h_np hj (by first | omega | (dsimp only; omega)) (by first | omega | (dsimp only; omega))) (my_cwV 3 hts q_372 q_369 q_370 q_371 q_3 rfl rfl (by decide +kernel) ⟨Nat.le_of_ble_eq_true rfl, Nat.le_of_ble_eq_true rfl⟩) (my_preV hPc hDc hK hN 2 0 rfl rfl) rfl rfl hl.1 rfl (lv_room (Nat.le_of_ble_eq_true rfl)) d_PA_isCaught_55 ⟨Nat.le_of_ble_eq_true rfl, Nat.le_of_ble_eq_true rfl⟩)) (fun r_3 hw_3 => ?_)
      have hf_3_0 : r_3 = (SS ((2 * ((j * 64) + ((ST j) - 1))) + 0)) := hw_3
      have hf_3_0 : r_3 = (SS ((2 * ((j * 64) + ((ST j) - 1))) + 0)) := hf_3_0
      subst hf_3_0
      refine lv_aload_n hx hb d_PA_isCaught_58 rfl (lv_at hl 2 rfl) ?_
      refine lv_iload_n hx hb d_PA_isCaught_59 rfl (lv_at hl 3 rfl) ?_
      refine lv_iload hx hb d_PA_isCaught_60 (lv_at hl 0 rfl) ?_
      refine lv_iconst (v := 1) hx hb d_PA_isCaught_62 (by decide) ?_
      have hPc := hP.sub (ws' := [(a0, .inr (2, [.int (nI np), .ref a1, .ref a2, .ref a3, .ref a4, .ref a5, .ref a6, .ref a7, .ref a8, .ref a9, .ref a10, .ref a11])), (a4, .inl (cI, 1536, .inl SS))]) [0, 3] rfl
      have hDc := hD.sub (ws' := [(a0, .inr (2, [.int (nI np), .ref a1, .ref a2, .ref a3, .ref a4, .ref a5, .ref a6, .ref a7, .ref a8, .ref a9, .ref a10, .ref a11])), (a4, .inl (cI, 1536, .inl SS))]) [0, 3] (by decide +kernel) rfl
      refine vp_callSi (va_Run.run (va_runV (As := [.int (nI j), .int (nI ((ST j) - 1)), .int 1]) (rest := [.int (SS ((2 * ((j * 64) + ((ST j) - 1))) + 0))]) ⟨hx, hb, hml, hown, hts⟩ (e_PA_sideInState l D cI cZ a0 j ((ST j) - 1) 1 np a1 a2 a3 a4 a5 a6 a7 a8 a9 a10 a11 SS s.heap.size h_np hj (by first | omega | (dsimp only; omega)) (by first | omega | (dsimp only; omega))) (my_cwV 3 hts q_372 q_369 q_370 q_371 q_3 rfl rfl (by decide +kernel) ⟨Nat.le_of_ble_eq_true rfl, Nat.le_of_ble_eq_true rfl⟩) (my_preV hPc hDc hK hN 2 0 rfl rfl) rfl rfl hl.1 rfl (lv_room (Nat.le_of_ble_eq_true rfl)) d_PA_isCaught_63 ⟨Nat.le_of_ble_eq_true rfl, Nat.le_of_ble_eq_true rfl⟩)) (fun r_4 hw_4 => ?_)
      have hf_4_0 : r_4 = (SS ((2 * ((j * 64) + ((ST j) - 1))) + 1)) := hw_4
      have hf_4_0 : r_4 = (SS ((2 * ((j * 64) + ((ST j) - 1))) + 1)) := hf_4_0
      subst hf_4_0
      refine lv_iadd hx hb d_PA_isCaught_66 ?_
      refine lv_istore (lv' := [(5, .int ((SS ((2 * ((j * 64) + ((ST j) - 1))) + 0)) + (SS ((2 * ((j * 64) + ((ST j) - 1))) + 1)))), (4, .int (nI ((ST j) - 1))), (3, .int (nI (1 - (CL j)))), (0, .ref a0), (1, .int (nI j)), (2, .ref f0)]) hx hb d_PA_isCaught_67 hl (by decide) rfl (fun ls hl => ?_)
      refine lv_aload_n hx hb d_PA_isCaught_69 rfl (lv_at hl 5 rfl) ?_
      refine va_get (D := D) (ci := 1) (v := .ref f1) (C := R_PE) (T := F_PE) (N := 5) hx hb hts i_PE hown hK hP 10 rfl rfl 1 (by decide) (hts _ q_27) (fun _ h9 => h9) rfl d_PA_isCaught_70 ?_
      refine lv_aload_n hx hb d_PA_isCaught_73 rfl (lv_at hl 3 rfl) ?_
      refine va_get (D := D) (ci := 2) (v := .ref a1) (C := R_PA) (T := F_PA) (N := 12) hx hb hts i_PA hown hK hP 0 rfl rfl 1 (by decide) (hts _ q_58) (fun _ h9 => h9) rfl d_PA_isCaught_74 ?_
      refine lv_iconst (v := 2) hx hb d_PA_isCaught_77 (by decide) ?_
      refine lv_iload_n hx hb d_PA_isCaught_78 rfl (lv_at hl 4 rfl) ?_
      refine lv_imul hx hb d_PA_isCaught_79 ?_
      refine lv_seti (nI (2 * j)) (pk_mul 2 j) ?_
      refine lv_iload_n hx hb d_PA_isCaught_80 rfl (lv_at hl 2 rfl) ?_
      refine lv_iadd hx hb d_PA_isCaught_81 ?_
      refine lv_seti (nI ((2 * j) + (1 - (CL j)))) (nI_add (2 * j) (1 - (CL j))) ?_
      refine my_ldN hx hb hK hP 1 rfl ((2 * j) + (1 - (CL j))) rfl (by omega) (by decide) d_PA_isCaught_82 ?_
      have hb_5 : EP ((2 * j) + (1 - (CL j))) ≤ 6 := h_EP _
      refine lv_dup2_11 hx hb d_PA_isCaught_83 rfl rfl ?_
      refine my_ldI hx hb hK hP 11 rfl (EP ((2 * j) + (1 - (CL j)))) rfl (by omega) (by decide) d_PA_isCaught_84 ?_
      refine lv_iload hx hb d_PA_isCaught_85 (lv_at hl 0 rfl) ?_
      refine lv_iadd hx hb d_PA_isCaught_87 ?_
      refine my_stI hx hb hK hP hD hS 11 rfl (EP ((2 * j) + (1 - (CL j)))) rfl (by omega) (by decide) d_PA_isCaught_88 (fun H_5 locs hP hD hS => ?_)
      have hP : va_P D vwCl [(a0, .inr (2, [.int (nI np), .ref a1, .ref a2, .ref a3, .ref a4, .ref a5, .ref a6, .ref a7, .ref a8, .ref a9, .ref a10, .ref a11])), (a1, .inl (cI, 24, .inl (fun zy => nI (EP zy)))), (a2, .inl (cI, 24, .inl SI)), (a4, .inl (cI, 1536, .inl SS)), (a5, .inl (cI, 12, .inl (fun zy => nI (ST zy)))), (a6, .inl (cI, 12, .inl PH)), (a8, .inl (cI, 12, .inl (fun zy => nI (CL zy)))), (a9, .inl (cI, 12, .inl (fun zy => nI (CB zy)))), (a10, .inl (cI, 12, .inl LE)), (a11, .inl (cI, 12, .inl GR)), (f0, .inr (1, [.int (nI nn), .ref f1, .ref f2, .ref f3, .ref f4])), (f1, .inl (cI, 7, .inl (upd FC (EP ((2 * j) + (1 - (CL j)))) ((FC (EP ((2 * j) + (1 - (CL j))))) + ((SS ((2 * ((j * 64) + ((ST j) - 1))) + 0)) + (SS ((2 * ((j * 64) + ((ST j) - 1))) + 1))))))), (f4, .inl (cZ, 7, .inl FA))] H_5 := hP
      refine lv_aload_n hx hb d_PA_isCaught_89 rfl (lv_at hl 3 rfl) ?_
      refine lv_iload_n hx hb d_PA_isCaught_90 rfl (lv_at hl 4 rfl) ?_
      have hPc := hP.sub (ws' := [(a0, .inr (2, [.int (nI np), .ref a1, .ref a2, .ref a3, .ref a4, .ref a5, .ref a6, .ref a7, .ref a8, .ref a9, .ref a10, .ref a11])), (a2, .inl (cI, 24, .inl SI)), (a6, .inl (cI, 12, .inl PH)), (a10, .inl (cI, 12, .inl LE)), (a11, .inl (cI, 12, .inl GR))]) [0, 2, 5, 8, 9] rfl
      have hDc := hD.sub (ws' := [(a0, .inr (2, [.int (nI np), .ref a1, .ref a2, .ref a3, .ref a4, .ref a5, .ref a6, .ref a7, .ref a8, .ref a9, .ref a10, .ref a11])), (a2, .inl (cI, 24, .inl SI)), (a6, .inl (cI, 12, .inl PH)), (a10, .inl (cI, 12, .inl LE)), (a11, .inl (cI, 12, .inl GR))]) [0, 2, 5, 8, 9] (by decide +kernel) rfl
      have hFc := va_free (wc := [(a0, .inr (2, [.int (nI np), .ref a1, .ref a2, .ref a3, .ref a4, .ref a5, .ref a6, .ref a7, .ref a8, .ref a9, .ref a10, .ref a11])), (a2, .inl (cI, 24, .inl SI)), (a6, .inl (cI, 12, .inl PH)), (a10, .inl (cI, 12, .inl LE)), (a11, .inl (cI, 12, .inl GR))]) hD hS hA [0, 2, 5, 8, 9] rfl
      refine va_callv (va_runV (As := [.int (nI j)]) (rest := []) ⟨hx, hb, hml, hown, hts⟩ (e_PA_finish l D cI cZ a0 j np a1 a2 a3 a4 a5 a6 a7 a8 a9 a10 a11 SI PH LE GR H_5.size h_np hj) (my_cwV 1 hts q_376 q_373 q_374 q_375 q_3 rfl rfl (by decide +kernel) ⟨Nat.le_of_ble_eq_true rfl, Nat.le_of_ble_eq_true rfl⟩) (my_preV hPc hDc hK hN 2 0 rfl rfl) rfl rfl hl.1 rfl (lv_room (Nat.le_of_ble_eq_true rfl)) d_PA_isCaught_91 ⟨Nat.le_of_ble_eq_true rfl, Nat.le_of_ble_eq_true rfl⟩) hS (fun q _ h => hFc q h) hFc (fun uU tT H_7 locs ht hvm hw_6 hB hz1 hk1 hS => ?_)
      obtain ⟨hP1, hD1⟩ := hB
      rw [ht] at hP1
      obtain ⟨hP, hD⟩ := va_join (wr := [(a1, .inl (cI, 24, .inl (fun zy => nI (EP zy)))), (a4, .inl (cI, 1536, .inl SS)), (a5, .inl (cI, 12, .inl (fun zy => nI (ST zy)))), (a8, .inl (cI, 12, .inl (fun zy => nI (CL zy)))), (a9, .inl (cI, 12, .inl (fun zy => nI (CB zy)))), (f0, .inr (1, [.int (nI nn), .ref f1, .ref f2, .ref f3, .ref f4])), (f1, .inl (cI, 7, .inl (upd FC (EP ((2 * j) + (1 - (CL j)))) ((FC (EP ((2 * j) + (1 - (CL j))))) + ((SS ((2 * ((j * 64) + ((ST j) - 1))) + 0)) + (SS ((2 * ((j * 64) + ((ST j) - 1))) + 1))))))), (f4, .inl (cZ, 7, .inl FA))]) (w1 := [(a0, .inr (2, [.int (nI np), .ref a1, .ref a2, .ref a3, .ref a4, .ref a5, .ref a6, .ref a7, .ref a8, .ref a9, .ref a10, .ref a11])), (a2, .inl (cI, 24, .inl (upd (upd SI (2 * j) 0) (2 * j + 1) 0))), (a6, .inl (cI, 12, .inl (upd PH j 2))), (a10, .inl (cI, 12, .inl (upd LE j 0))), (a11, .inl (cI, 12, .inl (upd GR j (0 + 0))))]) hP hD [0, 2, 5, 8, 9] [1, 3, 4, 6, 7, 10, 11, 12] rfl rfl (by decide +kernel) (by decide +kernel) hk1 hFc hP1 hD1
      have hP : va_P D vwCl [(a1, .inl (cI, 24, .inl (fun zy => nI (EP zy)))), (a4, .inl (cI, 1536, .inl SS)), (a5, .inl (cI, 12, .inl (fun zy => nI (ST zy)))), (a8, .inl (cI, 12, .inl (fun zy => nI (CL zy)))), (a9, .inl (cI, 12, .inl (fun zy => nI (CB zy)))), (f0, .inr (1, [.int (nI nn), .ref f1, .ref f2, .ref f3, .ref f4])), (f1, .inl (cI, 7, .inl (upd FC (EP ((2 * j) + (1 - (CL j)))) ((FC (EP ((2 * j) + (1 - (CL j))))) + ((SS ((2 * ((j * 64) + ((ST j) - 1))) + 0)) + (SS ((2 * ((j * 64) + ((ST j) - 1))) + 1))))))), (f4, .inl (cZ, 7, .inl FA)), (a0, .inr (2, [.int (nI np), .ref a1, .ref a2, .ref a3, .ref a4, .ref a5, .ref a6, .ref a7, .ref a8, .ref a9, .ref a10, .ref a11])), (a2, .inl (cI, 24, .inl (upd (upd SI (2 * j) 0) (2 * j + 1) 0))), (a6, .inl (cI, 12, .inl (upd PH j 2))), (a10, .inl (cI, 12, .inl (upd LE j 0))), (a11, .inl (cI, 12, .inl (upd GR j (0 + 0))))] H_7 := hP
      refine lv_iconst (v := 1) hx hb d_PA_isCaught_94 (by decide) ?_
      have hP9 := hP.sub (ws' := [(a0, .inr (2, [.int (nI np), .ref a1, .ref a2, .ref a3, .ref a4, .ref a5, .ref a6, .ref a7, .ref a8, .ref a9, .ref a10, .ref a11])), (a1, .inl (cI, 24, .inl (fun zy => nI (EP zy)))), (a2, .inl (cI, 24, .inl (upd (upd SI (2 * j) 0) (2 * j + 1) 0))), (a4, .inl (cI, 1536, .inl SS)), (a5, .inl (cI, 12, .inl (fun zy => nI (ST zy)))), (a6, .inl (cI, 12, .inl (upd PH j 2))), (a8, .inl (cI, 12, .inl (fun zy => nI (CL zy)))), (a9, .inl (cI, 12, .inl (fun zy => nI (CB zy)))), (a10, .inl (cI, 12, .inl (upd LE j 0))), (a11, .inl (cI, 12, .inl (upd GR j (0 + 0)))), (f0, .inr (1, [.int (nI nn), .ref f1, .ref f2, .ref f3, .ref f4])), (f1, .inl (cI, 7, .inl (upd FC (EP ((2 * j) + (1 - (CL j)))) ((FC (EP ((2 * j) + (1 - (CL j))))) + ((SS ((2 * ((j * 64) + ((ST j) - 1))) + 0)) + (SS ((2 * ((j * 64) + ((ST j) - 1))) + 1))))))), (f4, .inl (cZ, 7, .inl FA))]) [8, 0, 9, 1, 2, 10, 3, 4, 11, 12, 5, 6, 7] rfl
      have hD9 := hD.sub (ws' := [(a0, .inr (2, [.int (nI np), .ref a1, .ref a2, .ref a3, .ref a4, .ref a5, .ref a6, .ref a7, .ref a8, .ref a9, .ref a10, .ref a11])), (a1, .inl (cI, 24, .inl (fun zy => nI (EP zy)))), (a2, .inl (cI, 24, .inl (upd (upd SI (2 * j) 0) (2 * j + 1) 0))), (a4, .inl (cI, 1536, .inl SS)), (a5, .inl (cI, 12, .inl (fun zy => nI (ST zy)))), (a6, .inl (cI, 12, .inl (upd PH j 2))), (a8, .inl (cI, 12, .inl (fun zy => nI (CL zy)))), (a9, .inl (cI, 12, .inl (fun zy => nI (CB zy)))), (a10, .inl (cI, 12, .inl (upd LE j 0))), (a11, .inl (cI, 12, .inl (upd GR j (0 + 0)))), (f0, .inr (1, [.int (nI nn), .ref f1, .ref f2, .ref f3, .ref f4])), (f1, .inl (cI, 7, .inl (upd FC (EP ((2 * j) + (1 - (CL j)))) ((FC (EP ((2 * j) + (1 - (CL j))))) + ((SS ((2 * ((j * 64) + ((ST j) - 1))) + 0)) + (SS ((2 * ((j * 64) + ((ST j) - 1))) + 1))))))), (f4, .inl (cZ, 7, .inl FA))]) [8, 0, 9, 1, 2, 10, 3, 4, 11, 12, 5, 6, 7] (by decide +kernel) rfl
      refine W.widen (k := 0) (n := 0) (Nat.le_of_ble_eq_true rfl) (Nat.le_of_ble_eq_true rfl) ?_
      exact W.zret (v := 1) hx hb hr rfl (fun tT ht hW => ⟨⟨1, ((upd (upd SI (2 * j) 0) (2 * j + 1) 0), (upd PH j 2), (upd LE j 0), (upd GR j (0 + 0)), (upd FC (EP ((2 * j) + (1 - (CL j)))) ((FC (EP ((2 * j) + (1 - (CL j))))) + ((SS ((2 * ((j * 64) + ((ST j) - 1))) + 0)) + (SS ((2 * ((j * 64) + ((ST j) - 1))) + 1)))))), rfl, (Or.inr (⟨(cgB_y nh_1 h_2), rfl, rfl, rfl, rfl, rfl⟩)), by rw [ht]; exact hP9, hD9⟩, hS.F ht⟩) hS.2.2 d_PA_isCaught_95
    · refine lv_iconst (v := 0) hx hb d_PA_isCaught_48 (by decide) ?_
      have hP9 := hP.sub (ws' := [(a0, .inr (2, [.int (nI np), .ref a1, .ref a2, .ref a3, .ref a4, .ref a5, .ref a6, .ref a7, .ref a8, .ref a9, .ref a10, .ref a11])), (a1, .inl (cI, 24, .inl (fun zy => nI (EP zy)))), (a2, .inl (cI, 24, .inl SI)), (a4, .inl (cI, 1536, .inl SS)), (a5, .inl (cI, 12, .inl (fun zy => nI (ST zy)))), (a6, .inl (cI, 12, .inl PH)), (a8, .inl (cI, 12, .inl (fun zy => nI (CL zy)))), (a9, .inl (cI, 12, .inl (fun zy => nI (CB zy)))), (a10, .inl (cI, 12, .inl LE)), (a11, .inl (cI, 12, .inl GR)), (f0, .inr (1, [.int (nI nn), .ref f1, .ref f2, .ref f3, .ref f4])), (f1, .inl (cI, 7, .inl FC)), (f4, .inl (cZ, 7, .inl FA))]) [0, 1, 2, 3, 4, 5, 6, 7, 8, 9, 10, 11, 12] rfl
      have hD9 := hD.sub (ws' := [(a0, .inr (2, [.int (nI np), .ref a1, .ref a2, .ref a3, .ref a4, .ref a5, .ref a6, .ref a7, .ref a8, .ref a9, .ref a10, .ref a11])), (a1, .inl (cI, 24, .inl (fun zy => nI (EP zy)))), (a2, .inl (cI, 24, .inl SI)), (a4, .inl (cI, 1536, .inl SS)), (a5, .inl (cI, 12, .inl (fun zy => nI (ST zy)))), (a6, .inl (cI, 12, .inl PH)), (a8, .inl (cI, 12, .inl (fun zy => nI (CL zy)))), (a9, .inl (cI, 12, .inl (fun zy => nI (CB zy)))), (a10, .inl (cI, 12, .inl LE)), (a11, .inl (cI, 12, .inl GR)), (f0, .inr (1, [.int (nI nn), .ref f1, .ref f2, .ref f3, .ref f4])), (f1, .inl (cI, 7, .inl FC)), (f4, .inl (cZ, 7, .inl FA))]) [0, 1, 2, 3, 4, 5, 6, 7, 8, 9, 10, 11, 12] (by decide +kernel) rfl
      refine W.widen (k := 0) (n := 0) (Nat.le_of_ble_eq_true rfl) (Nat.le_of_ble_eq_true rfl) ?_
      exact W.zret (v := 0) hx hb hr rfl (fun tT ht hW => ⟨⟨0, (SI, PH, LE, GR, FC), rfl, (Or.inl (⟨(cgB_n2 h_2), rfl, rfl, rfl, rfl, rfl⟩)), by rw [ht]; exact hP9, hD9⟩, hS.F ht⟩) hS.2.2 d_PA_isCaught_49

set_option maxHeartbeats 4000000 in
set_option maxRecDepth 100000 in
theorem e_PA_settle (l : Launch) (D : va_G) (cI cZ : ClassId) (a0 : Nat) (f0 : Nat) (tm : Int32) (np : Nat) (a1 : Nat) (a2 : Nat) (a3 : Nat) (a4 : Nat) (a5 : Nat) (a6 : Nat) (a7 : Nat) (a8 : Nat) (a9 : Nat) (a10 : Nat) (a11 : Nat) (EP : Nat → Nat) (SI : Nat → Int32) (SS : Nat → Int32) (ST : Nat → Nat) (PH : Nat → Int32) (EN : Nat → Int32) (CL : Nat → Nat) (CB : Nat → Nat) (LE : Nat → Int32) (GR : Nat → Int32) (nn : Nat) (f1 : Nat) (f2 : Nat) (f3 : Nat) (f4 : Nat) (FC : Nat → Int32) (FA : Nat → Int32) (sz : Nat) (h_np : np ≤ 12) (h_EP : ∀ zz, EP zz ≤ 6) (h_ST : ∀ zz, ST zz ≤ 64) (h_CL : ∀ zz, CL zz ≤ 1) (h_CB : ∀ zz, CB zz ≤ 63) (h_nn : nn ≤ 7) (h_st : ∀ qq, qq < np → 1 ≤ ST qq) : Met l ⟨"PromiseChains$Pairs", "settle", "(LPromiseChains$People;I)V"⟩ (mw ⟨"PromiseChains$Pairs", "settle", "(LPromiseChains$People;I)V"⟩ prog_2_method_18_code 4 none) ({ frames := 3, cells := 0, slots := 0, locals := 69 }) (va_Pc [.ref a0, .ref f0, .int tm] (PB D cI cZ sz [(a0, .inr (2, [.int (nI np), .ref a1, .ref a2, .ref a3, .ref a4, .ref a5, .ref a6, .ref a7, .ref a8, .ref a9, .ref a10, .ref a11])), (a1, .inl (cI, 24, .inl (fun zy => nI (EP zy)))), (a2, .inl (cI, 24, .inl SI)), (a4, .inl (cI, 1536, .inl SS)), (a5, .inl (cI, 12, .inl (fun zy => nI (ST zy)))), (a6, .inl (cI, 12, .inl PH)), (a7, .inl (cI, 12, .inl EN)), (a8, .inl (cI, 12, .inl (fun zy => nI (CL zy)))), (a9, .inl (cI, 12, .inl (fun zy => nI (CB zy)))), (a10, .inl (cI, 12, .inl LE)), (a11, .inl (cI, 12, .inl GR)), (f0, .inr (1, [.int (nI nn), .ref f1, .ref f2, .ref f3, .ref f4])), (f1, .inl (cI, 7, .inl FC)), (f4, .inl (cZ, 7, .inl FA))])) (va_Qv (S := (Nat → Int32) × (Nat → Int32) × (Nat → Int32) × (Nat → Int32) × (Nat → Int32)) (fun uU => (uU.1 = clG (clB EP ST CL CB FA EN PH tm) np SI) ∧ (uU.2.1 = clF (clB EP ST CL CB FA EN PH tm) np 2 PH) ∧ (uU.2.2.1 = clF (clB EP ST CL CB FA EN PH tm) np 0 LE) ∧ (uU.2.2.2.1 = clF (clB EP ST CL CB FA EN PH tm) np 0 GR)) (fun uU tT => BB D (va_A [(a0, .inr (2, [.int (nI np), .ref a1, .ref a2, .ref a3, .ref a4, .ref a5, .ref a6, .ref a7, .ref a8, .ref a9, .ref a10, .ref a11])), (a1, .inl (cI, 24, .inl (fun zy => nI (EP zy)))), (a2, .inl (cI, 24, .inl SI)), (a4, .inl (cI, 1536, .inl SS)), (a5, .inl (cI, 12, .inl (fun zy => nI (ST zy)))), (a6, .inl (cI, 12, .inl PH)), (a7, .inl (cI, 12, .inl EN)), (a8, .inl (cI, 12, .inl (fun zy => nI (CL zy)))), (a9, .inl (cI, 12, .inl (fun zy => nI (CB zy)))), (a10, .inl (cI, 12, .inl LE)), (a11, .inl (cI, 12, .inl GR)), (f0, .inr (1, [.int (nI nn), .ref f1, .ref f2, .ref f3, .ref f4])), (f1, .inl (cI, 7, .inl FC)), (f4, .inl (cZ, 7, .inl FA))] sz) [(a0, .inr (2, [.int (nI np), .ref a1, .ref a2, .ref a3, .ref a4, .ref a5, .ref a6, .ref a7, .ref a8, .ref a9, .ref a10, .ref a11])), (a1, .inl (cI, 24, .inl (fun zy => nI (EP zy)))), (a2, .inl (cI, 24, .inl (uU.1))), (a4, .inl (cI, 1536, .inl SS)), (a5, .inl (cI, 12, .inl (fun zy => nI (ST zy)))), (a6, .inl (cI, 12, .inl (uU.2.1))), (a7, .inl (cI, 12, .inl EN)), (a8, .inl (cI, 12, .inl (fun zy => nI (CL zy)))), (a9, .inl (cI, 12, .inl (fun zy => nI (CB zy)))), (a10, .inl (cI, 12, .inl (uU.2.2.1))), (a11, .inl (cI, 12, .inl (uU.2.2.2.1))), (f0, .inr (1, [.int (nI nn), .ref f1, .ref f2, .ref f3, .ref f4])), (f1, .inl (cI, 7, .inl (uU.2.2.2.2))), (f4, .inl (cZ, 7, .inl FA))] tT) (va_A [(a0, .inr (2, [.int (nI np), .ref a1, .ref a2, .ref a3, .ref a4, .ref a5, .ref a6, .ref a7, .ref a8, .ref a9, .ref a10, .ref a11])), (a1, .inl (cI, 24, .inl (fun zy => nI (EP zy)))), (a2, .inl (cI, 24, .inl SI)), (a4, .inl (cI, 1536, .inl SS)), (a5, .inl (cI, 12, .inl (fun zy => nI (ST zy)))), (a6, .inl (cI, 12, .inl PH)), (a7, .inl (cI, 12, .inl EN)), (a8, .inl (cI, 12, .inl (fun zy => nI (CL zy)))), (a9, .inl (cI, 12, .inl (fun zy => nI (CB zy)))), (a10, .inl (cI, 12, .inl LE)), (a11, .inl (cI, 12, .inl GR)), (f0, .inr (1, [.int (nI nn), .ref f1, .ref f2, .ref f3, .ref f4])), (f1, .inl (cI, 7, .inl FC)), (f4, .inl (cZ, 7, .inl FA))] sz)) 0 0 (va_A [(a0, .inr (2, [.int (nI np), .ref a1, .ref a2, .ref a3, .ref a4, .ref a5, .ref a6, .ref a7, .ref a8, .ref a9, .ref a10, .ref a11])), (a1, .inl (cI, 24, .inl (fun zy => nI (EP zy)))), (a2, .inl (cI, 24, .inl SI)), (a4, .inl (cI, 1536, .inl SS)), (a5, .inl (cI, 12, .inl (fun zy => nI (ST zy)))), (a6, .inl (cI, 12, .inl PH)), (a7, .inl (cI, 12, .inl EN)), (a8, .inl (cI, 12, .inl (fun zy => nI (CL zy)))), (a9, .inl (cI, 12, .inl (fun zy => nI (CB zy)))), (a10, .inl (cI, 12, .inl LE)), (a11, .inl (cI, 12, .inl GR)), (f0, .inr (1, [.int (nI nn), .ref f1, .ref f2, .ref f3, .ref f4])), (f1, .inl (cI, 7, .inl FC)), (f4, .inl (cZ, 7, .inl FA))] sz) := by
  refine Met.ofW (cc := prog_2_method_18_code) (maxL := 4) (ret := none) (by decide) rfl ?_
  intro p e s m args below meth c s₁ B hml hv
  obtain ⟨rfl, hsz, hP, hK, hD0, hN⟩ := hv
  have hx := B.exec
  have hb := B.bytes
  have hr := B.returns
  have hts0 := atoms_spec (ws := mw ⟨"PromiseChains$Pairs", "settle", "(LPromiseChains$People;I)V"⟩ prog_2_method_18_code 4 none) B.pre
  have hts : ∀ w ∈ tblG, w.before _ s = true := fun w h => hts0 w (List.mem_cons_of_mem _ h)
  have hown : s.vm.findClass "PromiseChains$Pairs" = some m.cls := findClass_of_methodNamed B.named
  have hlocks := B.notSynchronized
  subst hsz
  have hD := hD0.self (sz := s.heap.size)
  generalize hAe : va_A [(a0, .inr (2, [.int (nI np), .ref a1, .ref a2, .ref a3, .ref a4, .ref a5, .ref a6, .ref a7, .ref a8, .ref a9, .ref a10, .ref a11])), (a1, .inl (cI, 24, .inl (fun zy => nI (EP zy)))), (a2, .inl (cI, 24, .inl SI)), (a4, .inl (cI, 1536, .inl SS)), (a5, .inl (cI, 12, .inl (fun zy => nI (ST zy)))), (a6, .inl (cI, 12, .inl PH)), (a7, .inl (cI, 12, .inl EN)), (a8, .inl (cI, 12, .inl (fun zy => nI (CL zy)))), (a9, .inl (cI, 12, .inl (fun zy => nI (CB zy)))), (a10, .inl (cI, 12, .inl LE)), (a11, .inl (cI, 12, .inl GR)), (f0, .inr (1, [.int (nI nn), .ref f1, .ref f2, .ref f3, .ref f4])), (f1, .inl (cI, 7, .inl FC)), (f4, .inl (cZ, 7, .inl FA))] s.heap.size = A at hD ⊢
  have hA : ∀ q : Nat, s.heap.size ≤ q → A q := fun q h => by rw [← hAe]; exact Or.inr h
  have hS : va_S A s.heap s.heap [] := va_S.rf
  have hP : va_P D vwCl [(a0, .inr (2, [.int (nI np), .ref a1, .ref a2, .ref a3, .ref a4, .ref a5, .ref a6, .ref a7, .ref a8, .ref a9, .ref a10, .ref a11])), (a1, .inl (cI, 24, .inl (fun zy => nI (EP zy)))), (a2, .inl (cI, 24, .inl SI)), (a4, .inl (cI, 1536, .inl SS)), (a5, .inl (cI, 12, .inl (fun zy => nI (ST zy)))), (a6, .inl (cI, 12, .inl PH)), (a7, .inl (cI, 12, .inl EN)), (a8, .inl (cI, 12, .inl (fun zy => nI (CL zy)))), (a9, .inl (cI, 12, .inl (fun zy => nI (CB zy)))), (a10, .inl (cI, 12, .inl LE)), (a11, .inl (cI, 12, .inl GR)), (f0, .inr (1, [.int (nI nn), .ref f1, .ref f2, .ref f3, .ref f4])), (f1, .inl (cI, 7, .inl FC)), (f4, .inl (cZ, 7, .inl FA))] s.heap := hP
  have hl := lv_entry ([.ref a0, .ref f0, .int tm]) (n := 4) (Nat.le_of_ble_eq_true rfl)
  rw [lg_entry_eq]
  generalize (lg_sl ([.ref a0, .ref f0, .int tm]) ++ List.replicate (4 - (lg_sl ([.ref a0, .ref f0, .int tm])).length) Slot.unset).toArray = ls at hl ⊢
  have hl : lv_has ls 4 [(0, .ref a0), (1, .ref f0), (2, .int tm)] := hl
  refine lv_iconst (v := 0) hx hb d_PA_settle_0 (by decide) ?_
  refine lv_istore_n (lv' := [(3, .int 0), (0, .ref a0), (1, .ref f0), (2, .int tm)]) hx hb d_PA_settle_1 rfl hl (by decide) rfl (fun ls hl => ?_)
  refine W_loop (σ := Nat × (Nat → Int32) × (Nat → Int32) × (Nat → Int32) × (Nat → Int32) × (Nat → Int32)) (I := fun xX H locs ls => xX.1 ≤ np ∧ xX.2.1 = clG (clB EP ST CL CB FA EN PH tm) xX.1 SI ∧ xX.2.2.1 = clF (clB EP ST CL CB FA EN PH tm) xX.1 2 PH ∧ xX.2.2.2.1 = clF (clB EP ST CL CB FA EN PH tm) xX.1 0 LE ∧ xX.2.2.2.2.1 = clF (clB EP ST CL CB FA EN PH tm) xX.1 0 GR ∧ va_P D vwCl [(a0, .inr (2, [.int (nI np), .ref a1, .ref a2, .ref a3, .ref a4, .ref a5, .ref a6, .ref a7, .ref a8, .ref a9, .ref a10, .ref a11])), (a1, .inl (cI, 24, .inl (fun zy => nI (EP zy)))), (a2, .inl (cI, 24, .inl xX.2.1)), (a4, .inl (cI, 1536, .inl SS)), (a5, .inl (cI, 12, .inl (fun zy => nI (ST zy)))), (a6, .inl (cI, 12, .inl xX.2.2.1)), (a7, .inl (cI, 12, .inl EN)), (a8, .inl (cI, 12, .inl (fun zy => nI (CL zy)))), (a9, .inl (cI, 12, .inl (fun zy => nI (CB zy)))), (a10, .inl (cI, 12, .inl xX.2.2.2.1)), (a11, .inl (cI, 12, .inl xX.2.2.2.2.1)), (f0, .inr (1, [.int (nI nn), .ref f1, .ref f2, .ref f3, .ref f4])), (f1, .inl (cI, 7, .inl xX.2.2.2.2.2)), (f4, .inl (cZ, 7, .inl FA))] H ∧ va_D A [(a0, .inr (2, [.int (nI np), .ref a1, .ref a2, .ref a3, .ref a4, .ref a5, .ref a6, .ref a7, .ref a8, .ref a9, .ref a10, .ref a11])), (a1, .inl (cI, 24, .inl (fun zy => nI (EP zy)))), (a2, .inl (cI, 24, .inl xX.2.1)), (a4, .inl (cI, 1536, .inl SS)), (a5, .inl (cI, 12, .inl (fun zy => nI (ST zy)))), (a6, .inl (cI, 12, .inl xX.2.2.1)), (a7, .inl (cI, 12, .inl EN)), (a8, .inl (cI, 12, .inl (fun zy => nI (CL zy)))), (a9, .inl (cI, 12, .inl (fun zy => nI (CB zy)))), (a10, .inl (cI, 12, .inl xX.2.2.2.1)), (a11, .inl (cI, 12, .inl xX.2.2.2.2.1)), (f0, .inr (1, [.int (nI nn), .ref f1, .ref f2, .ref f3, .ref f4])), (f1, .inl (cI, 7, .inl xX.2.2.2.2.2)), (f4, .inl (cZ, 7, .inl FA))] ∧ va_S A s.heap H locs ∧ lv_has ls 4 [(3, .int (nI xX.1)), (2, .int tm), (1, .ref f0), (0, .ref a0)]) (μ := fun xX => 13 - xX.1) ?_ (0, SI, PH, LE, GR, FC) ⟨(by first | omega | (dsimp only; omega)), (clG_0 _ _), (clF_0 _ _ _), (clF_0 _ _ _), (clF_0 _ _ _), hP, hD, hS, lv_sub hl [0, 3, 2, 1] rfl⟩
  intro xX H_1 locs ls hI ih1
  obtain ⟨i_l, SI_1, PH_1, LE_1, GR_1, FC_1⟩ := xX
  obtain ⟨hi, c1, c2, c3, c4, hP, hD, hS, hl⟩ := hI
  have hP : va_P D vwCl [(a0, .inr (2, [.int (nI np), .ref a1, .ref a2, .ref a3, .ref a4, .ref a5, .ref a6, .ref a7, .ref a8, .ref a9, .ref a10, .ref a11])), (a1, .inl (cI, 24, .inl (fun zy => nI (EP zy)))), (a2, .inl (cI, 24, .inl SI_1)), (a4, .inl (cI, 1536, .inl SS)), (a5, .inl (cI, 12, .inl (fun zy => nI (ST zy)))), (a6, .inl (cI, 12, .inl PH_1)), (a7, .inl (cI, 12, .inl EN)), (a8, .inl (cI, 12, .inl (fun zy => nI (CL zy)))), (a9, .inl (cI, 12, .inl (fun zy => nI (CB zy)))), (a10, .inl (cI, 12, .inl LE_1)), (a11, .inl (cI, 12, .inl GR_1)), (f0, .inr (1, [.int (nI nn), .ref f1, .ref f2, .ref f3, .ref f4])), (f1, .inl (cI, 7, .inl FC_1)), (f4, .inl (cZ, 7, .inl FA))] H_1 := hP
  have hl : lv_has ls 4 [(3, .int (nI i_l)), (2, .int tm), (1, .ref f0), (0, .ref a0)] := hl
  have hi : i_l ≤ np := hi
  have c1 : SI_1 = clG (clB EP ST CL CB FA EN PH tm) i_l SI := c1
  have c2 : PH_1 = clF (clB EP ST CL CB FA EN PH tm) i_l 2 PH := c2
  have c3 : LE_1 = clF (clB EP ST CL CB FA EN PH tm) i_l 0 LE := c3
  have c4 : GR_1 = clF (clB EP ST CL CB FA EN PH tm) i_l 0 GR := c4
  refine lv_iload_n hx hb d_PA_settle_2 rfl (lv_at hl 0 rfl) ?_
  refine lv_aload_n hx hb d_PA_settle_3 rfl (lv_at hl 3 rfl) ?_
  refine va_get (D := D) (ci := 2) (v := .int (nI np)) (C := R_PA) (T := F_PA) (N := 12) hx hb hts i_PA hown hK hP 0 rfl rfl 0 (by decide) (hts _ q_56) (fun _ h9 => h9) rfl d_PA_settle_4 ?_
  refine lv_icmp_ge (tgt := 112) hx hb d_PA_settle_7 (by decide) (fun h_2 => ?_) (fun h_2 => ?_)
  · have nh_2 : np ≤ i_l := (nI_leI (a := np) (b := i_l) (by omega) (by omega)).mp h_2
    have hP9 := hP.sub (ws' := [(a0, .inr (2, [.int (nI np), .ref a1, .ref a2, .ref a3, .ref a4, .ref a5, .ref a6, .ref a7, .ref a8, .ref a9, .ref a10, .ref a11])), (a1, .inl (cI, 24, .inl (fun zy => nI (EP zy)))), (a2, .inl (cI, 24, .inl SI_1)), (a4, .inl (cI, 1536, .inl SS)), (a5, .inl (cI, 12, .inl (fun zy => nI (ST zy)))), (a6, .inl (cI, 12, .inl PH_1)), (a7, .inl (cI, 12, .inl EN)), (a8, .inl (cI, 12, .inl (fun zy => nI (CL zy)))), (a9, .inl (cI, 12, .inl (fun zy => nI (CB zy)))), (a10, .inl (cI, 12, .inl LE_1)), (a11, .inl (cI, 12, .inl GR_1)), (f0, .inr (1, [.int (nI nn), .ref f1, .ref f2, .ref f3, .ref f4])), (f1, .inl (cI, 7, .inl FC_1)), (f4, .inl (cZ, 7, .inl FA))]) [0, 1, 2, 3, 4, 5, 6, 7, 8, 9, 10, 11, 12, 13] rfl
    have hD9 := hD.sub (ws' := [(a0, .inr (2, [.int (nI np), .ref a1, .ref a2, .ref a3, .ref a4, .ref a5, .ref a6, .ref a7, .ref a8, .ref a9, .ref a10, .ref a11])), (a1, .inl (cI, 24, .inl (fun zy => nI (EP zy)))), (a2, .inl (cI, 24, .inl SI_1)), (a4, .inl (cI, 1536, .inl SS)), (a5, .inl (cI, 12, .inl (fun zy => nI (ST zy)))), (a6, .inl (cI, 12, .inl PH_1)), (a7, .inl (cI, 12, .inl EN)), (a8, .inl (cI, 12, .inl (fun zy => nI (CL zy)))), (a9, .inl (cI, 12, .inl (fun zy => nI (CB zy)))), (a10, .inl (cI, 12, .inl LE_1)), (a11, .inl (cI, 12, .inl GR_1)), (f0, .inr (1, [.int (nI nn), .ref f1, .ref f2, .ref f3, .ref f4])), (f1, .inl (cI, 7, .inl FC_1)), (f4, .inl (cZ, 7, .inl FA))]) [0, 1, 2, 3, 4, 5, 6, 7, 8, 9, 10, 11, 12, 13] (by decide +kernel) rfl
    refine W.widen (k := 0) (n := 0) (Nat.le_of_ble_eq_true rfl) (Nat.le_of_ble_eq_true rfl) ?_
    exact W.vret hx hb hr (fun tT ht hW => ⟨⟨(SI_1, PH_1, LE_1, GR_1, FC_1), rfl, ⟨(by rw [← show i_l = np by omega]; exact c1), (by rw [← show i_l = np by omega]; exact c2), (by rw [← show i_l = np by omega]; exact c3), (by rw [← show i_l = np by omega]; exact c4)⟩, by rw [ht]; exact hP9, hD9⟩, hS.F ht⟩) hS.2.2 d_PA_settle_112
  · have nh_2 : ¬ np ≤ i_l := fun qZ => h_2 ((nI_leI (a := np) (b := i_l) (by omega) (by omega)).mpr qZ)
    refine lv_aload_n hx hb d_PA_settle_10 rfl (lv_at hl 3 rfl) ?_
    refine va_get (D := D) (ci := 2) (v := .ref a6) (C := R_PA) (T := F_PA) (N := 12) hx hb hts i_PA hown hK hP 0 rfl rfl 6 (by decide) (hts _ q_69) (fun _ h9 => h9) rfl d_PA_settle_11 ?_
    refine lv_iload_n hx hb d_PA_settle_14 rfl (lv_at hl 0 rfl) ?_
    refine my_ldI hx hb hK hP 5 rfl i_l rfl (by omega) (by decide) d_PA_settle_15 ?_
    refine lv_iconst (v := 1) hx hb d_PA_settle_16 (by decide) ?_
    refine lv_icmp_eq (tgt := 23) hx hb d_PA_settle_17 (by decide) (fun h_3 => ?_) (fun h_3 => ?_)
    · refine lv_iload_n hx hb d_PA_settle_23 rfl (lv_at hl 1 rfl) ?_
      refine lv_aload_n hx hb d_PA_settle_24 rfl (lv_at hl 3 rfl) ?_
      refine va_get (D := D) (ci := 2) (v := .ref a7) (C := R_PA) (T := F_PA) (N := 12) hx hb hts i_PA hown hK hP 0 rfl rfl 7 (by decide) (hts _ q_71) (fun _ h9 => h9) rfl d_PA_settle_25 ?_
      refine lv_iload_n hx hb d_PA_settle_28 rfl (lv_at hl 0 rfl) ?_
      refine my_ldI hx hb hK hP 6 rfl i_l rfl (by omega) (by decide) d_PA_settle_29 ?_
      refine lv_icmp_ge (tgt := 43) hx hb d_PA_settle_30 (by decide) (fun h_4 => ?_) (fun h_4 => ?_)
      · refine lv_aload_n hx hb d_PA_settle_43 rfl (lv_at hl 2 rfl) ?_
        refine va_get (D := D) (ci := 1) (v := .ref f1) (C := R_PE) (T := F_PE) (N := 5) hx hb hts i_PE hown hK hP 11 rfl rfl 1 (by decide) (hts _ q_27) (fun _ h9 => h9) rfl d_PA_settle_44 ?_
        refine lv_aload_n hx hb d_PA_settle_47 rfl (lv_at hl 3 rfl) ?_
        refine va_get (D := D) (ci := 2) (v := .ref a1) (C := R_PA) (T := F_PA) (N := 12) hx hb hts i_PA hown hK hP 0 rfl rfl 1 (by decide) (hts _ q_58) (fun _ h9 => h9) rfl d_PA_settle_48 ?_
        refine lv_iconst (v := 2) hx hb d_PA_settle_51 (by decide) ?_
        refine lv_iload_n hx hb d_PA_settle_52 rfl (lv_at hl 0 rfl) ?_
        refine lv_imul hx hb d_PA_settle_53 ?_
        refine lv_seti (nI (2 * i_l)) (pk_mul 2 i_l) ?_
        refine my_ldN hx hb hK hP 1 rfl (2 * i_l) rfl (by omega) (by decide) d_PA_settle_54 ?_
        have hb_1 : EP (2 * i_l) ≤ 6 := h_EP _
        refine lv_dup2_11 hx hb d_PA_settle_55 rfl rfl ?_
        refine my_ldI hx hb hK hP 12 rfl (EP (2 * i_l)) rfl (by omega) (by decide) d_PA_settle_56 ?_
        refine lv_aload_n hx hb d_PA_settle_57 rfl (lv_at hl 3 rfl) ?_
        refine lv_iload_n hx hb d_PA_settle_58 rfl (lv_at hl 0 rfl) ?_
        refine lv_aload_n hx hb d_PA_settle_59 rfl (lv_at hl 3 rfl) ?_
        refine va_get (D := D) (ci := 2) (v := .ref a9) (C := R_PA) (T := F_PA) (N := 12) hx hb hts i_PA hown hK hP 0 rfl rfl 9 (by decide) (hts _ q_74) (fun _ h9 => h9) rfl d_PA_settle_60 ?_
        refine lv_iload_n hx hb d_PA_settle_63 rfl (lv_at hl 0 rfl) ?_
        refine my_ldN hx hb hK hP 8 rfl i_l rfl (by omega) (by decide) d_PA_settle_64 ?_
        have hb_2 : CB i_l ≤ 63 := h_CB _
        refine lv_iconst (v := 0) hx hb d_PA_settle_65 (by decide) ?_
        have hPc := hP.sub (ws' := [(a0, .inr (2, [.int (nI np), .ref a1, .ref a2, .ref a3, .ref a4, .ref a5, .ref a6, .ref a7, .ref a8, .ref a9, .ref a10, .ref a11])), (a4, .inl (cI, 1536, .inl SS))]) [0, 3] rfl
        have hDc := hD.sub (ws' := [(a0, .inr (2, [.int (nI np), .ref a1, .ref a2, .ref a3, .ref a4, .ref a5, .ref a6, .ref a7, .ref a8, .ref a9, .ref a10, .ref a11])), (a4, .inl (cI, 1536, .inl SS))]) [0, 3] (by decide +kernel) rfl
        refine vp_callSi (va_Run.run (va_runV (As := [.int (nI i_l), .int (nI (CB i_l)), .int 0]) (rest := [.int (FC_1 (EP (2 * i_l))), .int (nI (EP (2 * i_l))), .ref f1]) ⟨hx, hb, hml, hown, hts⟩ (e_PA_sideInState l D cI cZ a0 i_l (CB i_l) 0 np a1 a2 a3 a4 a5 a6 a7 a8 a9 a10 a11 SS H_1.size h_np (by first | omega | (dsimp only; omega)) (by first | omega | (dsimp only; omega)) (by first | omega | (dsimp only; omega))) (my_cwV 3 hts q_372 q_369 q_370 q_371 q_3 rfl rfl (by decide +kernel) ⟨Nat.le_of_ble_eq_true rfl, Nat.le_of_ble_eq_true rfl⟩) (my_preV hPc hDc hK hN 2 0 rfl rfl) rfl rfl hl.1 rfl (lv_room (Nat.le_of_ble_eq_true rfl)) d_PA_settle_66 ⟨Nat.le_of_ble_eq_true rfl, Nat.le_of_ble_eq_true rfl⟩)) (fun r_5 hw_5 => ?_)
        have hf_5_0 : r_5 = (SS ((2 * ((i_l * 64) + (CB i_l))) + 0)) := hw_5
        have hf_5_0 : r_5 = (SS ((2 * ((i_l * 64) + (CB i_l))) + 0)) := hf_5_0
        subst hf_5_0
        refine lv_iadd hx hb d_PA_settle_69 ?_
        refine my_stI hx hb hK hP hD hS 12 rfl (EP (2 * i_l)) rfl (by omega) (by decide) d_PA_settle_70 (fun H_6 locs hP hD hS => ?_)
        have hP : va_P D vwCl [(a0, .inr (2, [.int (nI np), .ref a1, .ref a2, .ref a3, .ref a4, .ref a5, .ref a6, .ref a7, .ref a8, .ref a9, .ref a10, .ref a11])), (a1, .inl (cI, 24, .inl (fun zy => nI (EP zy)))), (a2, .inl (cI, 24, .inl SI_1)), (a4, .inl (cI, 1536, .inl SS)), (a5, .inl (cI, 12, .inl (fun zy => nI (ST zy)))), (a6, .inl (cI, 12, .inl PH_1)), (a7, .inl (cI, 12, .inl EN)), (a8, .inl (cI, 12, .inl (fun zy => nI (CL zy)))), (a9, .inl (cI, 12, .inl (fun zy => nI (CB zy)))), (a10, .inl (cI, 12, .inl LE_1)), (a11, .inl (cI, 12, .inl GR_1)), (f0, .inr (1, [.int (nI nn), .ref f1, .ref f2, .ref f3, .ref f4])), (f1, .inl (cI, 7, .inl (upd FC_1 (EP (2 * i_l)) ((FC_1 (EP (2 * i_l))) + (SS ((2 * ((i_l * 64) + (CB i_l))) + 0)))))), (f4, .inl (cZ, 7, .inl FA))] H_6 := hP
        refine lv_aload_n hx hb d_PA_settle_71 rfl (lv_at hl 2 rfl) ?_
        refine va_get (D := D) (ci := 1) (v := .ref f1) (C := R_PE) (T := F_PE) (N := 5) hx hb hts i_PE hown hK hP 11 rfl rfl 1 (by decide) (hts _ q_27) (fun _ h9 => h9) rfl d_PA_settle_72 ?_
        refine lv_aload_n hx hb d_PA_settle_75 rfl (lv_at hl 3 rfl) ?_
        refine va_get (D := D) (ci := 2) (v := .ref a1) (C := R_PA) (T := F_PA) (N := 12) hx hb hts i_PA hown hK hP 0 rfl rfl 1 (by decide) (hts _ q_58) (fun _ h9 => h9) rfl d_PA_settle_76 ?_
        refine lv_iconst (v := 2) hx hb d_PA_settle_79 (by decide) ?_
        refine lv_iload_n hx hb d_PA_settle_80 rfl (lv_at hl 0 rfl) ?_
        refine lv_imul hx hb d_PA_settle_81 ?_
        refine lv_seti (nI (2 * i_l)) (pk_mul 2 i_l) ?_
        refine lv_iconst (v := 1) hx hb d_PA_settle_82 (by decide) ?_
        refine lv_iadd hx hb d_PA_settle_83 ?_
        refine lv_seti (nI ((2 * i_l) + 1)) (nI_add (2 * i_l) 1) ?_
        refine my_ldN hx hb hK hP 1 rfl ((2 * i_l) + 1) rfl (by omega) (by decide) d_PA_settle_84 ?_
        have hb_3 : EP ((2 * i_l) + 1) ≤ 6 := h_EP _
        refine lv_dup2_11 hx hb d_PA_settle_85 rfl rfl ?_
        refine my_ldI hx hb hK hP 12 rfl (EP ((2 * i_l) + 1)) rfl (by omega) (by decide) d_PA_settle_86 ?_
        refine lv_aload_n hx hb d_PA_settle_87 rfl (lv_at hl 3 rfl) ?_
        refine lv_iload_n hx hb d_PA_settle_88 rfl (lv_at hl 0 rfl) ?_
        refine lv_aload_n hx hb d_PA_settle_89 rfl (lv_at hl 3 rfl) ?_
        refine va_get (D := D) (ci := 2) (v := .ref a9) (C := R_PA) (T := F_PA) (N := 12) hx hb hts i_PA hown hK hP 0 rfl rfl 9 (by decide) (hts _ q_74) (fun _ h9 => h9) rfl d_PA_settle_90 ?_
        refine lv_iload_n hx hb d_PA_settle_93 rfl (lv_at hl 0 rfl) ?_
        refine my_ldN hx hb hK hP 8 rfl i_l rfl (by omega) (by decide) d_PA_settle_94 ?_
        have hb_4 : CB i_l ≤ 63 := h_CB _
        refine lv_iconst (v := 1) hx hb d_PA_settle_95 (by decide) ?_
        have hPc := hP.sub (ws' := [(a0, .inr (2, [.int (nI np), .ref a1, .ref a2, .ref a3, .ref a4, .ref a5, .ref a6, .ref a7, .ref a8, .ref a9, .ref a10, .ref a11])), (a4, .inl (cI, 1536, .inl SS))]) [0, 3] rfl
        have hDc := hD.sub (ws' := [(a0, .inr (2, [.int (nI np), .ref a1, .ref a2, .ref a3, .ref a4, .ref a5, .ref a6, .ref a7, .ref a8, .ref a9, .ref a10, .ref a11])), (a4, .inl (cI, 1536, .inl SS))]) [0, 3] (by decide +kernel) rfl
        refine vp_callSi (va_Run.run (va_runV (As := [.int (nI i_l), .int (nI (CB i_l)), .int 1]) (rest := [.int ((upd FC_1 (EP (2 * i_l)) ((FC_1 (EP (2 * i_l))) + (SS ((2 * ((i_l * 64) + (CB i_l))) + 0)))) (EP ((2 * i_l) + 1))), .int (nI (EP ((2 * i_l) + 1))), .ref f1]) ⟨hx, hb, hml, hown, hts⟩ (e_PA_sideInState l D cI cZ a0 i_l (CB i_l) 1 np a1 a2 a3 a4 a5 a6 a7 a8 a9 a10 a11 SS H_6.size h_np (by first | omega | (dsimp only; omega)) (by first | omega | (dsimp only; omega)) (by first | omega | (dsimp only; omega))) (my_cwV 3 hts q_372 q_369 q_370 q_371 q_3 rfl rfl (by decide +kernel) ⟨Nat.le_of_ble_eq_true rfl, Nat.le_of_ble_eq_true rfl⟩) (my_preV hPc hDc hK hN 2 0 rfl rfl) rfl rfl hl.1 rfl (lv_room (Nat.le_of_ble_eq_true rfl)) d_PA_settle_96 ⟨Nat.le_of_ble_eq_true rfl, Nat.le_of_ble_eq_true rfl⟩)) (fun r_7 hw_7 => ?_)
        have hf_7_0 : r_7 = (SS ((2 * ((i_l * 64) + (CB i_l))) + 1)) := hw_7
        have hf_7_0 : r_7 = (SS ((2 * ((i_l * 64) + (CB i_l))) + 1)) := hf_7_0
        subst hf_7_0
        refine lv_iadd hx hb d_PA_settle_99 ?_
        refine my_stI hx hb hK hP hD hS 12 rfl (EP ((2 * i_l) + 1)) rfl (by omega) (by decide) d_PA_settle_100 (fun H_8 locs hP hD hS => ?_)
        have hP : va_P D vwCl [(a0, .inr (2, [.int (nI np), .ref a1, .ref a2, .ref a3, .ref a4, .ref a5, .ref a6, .ref a7, .ref a8, .ref a9, .ref a10, .ref a11])), (a1, .inl (cI, 24, .inl (fun zy => nI (EP zy)))), (a2, .inl (cI, 24, .inl SI_1)), (a4, .inl (cI, 1536, .inl SS)), (a5, .inl (cI, 12, .inl (fun zy => nI (ST zy)))), (a6, .inl (cI, 12, .inl PH_1)), (a7, .inl (cI, 12, .inl EN)), (a8, .inl (cI, 12, .inl (fun zy => nI (CL zy)))), (a9, .inl (cI, 12, .inl (fun zy => nI (CB zy)))), (a10, .inl (cI, 12, .inl LE_1)), (a11, .inl (cI, 12, .inl GR_1)), (f0, .inr (1, [.int (nI nn), .ref f1, .ref f2, .ref f3, .ref f4])), (f1, .inl (cI, 7, .inl (upd (upd FC_1 (EP (2 * i_l)) ((FC_1 (EP (2 * i_l))) + (SS ((2 * ((i_l * 64) + (CB i_l))) + 0)))) (EP ((2 * i_l) + 1)) (((upd FC_1 (EP (2 * i_l)) ((FC_1 (EP (2 * i_l))) + (SS ((2 * ((i_l * 64) + (CB i_l))) + 0)))) (EP ((2 * i_l) + 1))) + (SS ((2 * ((i_l * 64) + (CB i_l))) + 1)))))), (f4, .inl (cZ, 7, .inl FA))] H_8 := hP
        refine lv_aload_n hx hb d_PA_settle_101 rfl (lv_at hl 3 rfl) ?_
        refine lv_iload_n hx hb d_PA_settle_102 rfl (lv_at hl 0 rfl) ?_
        have hPc := hP.sub (ws' := [(a0, .inr (2, [.int (nI np), .ref a1, .ref a2, .ref a3, .ref a4, .ref a5, .ref a6, .ref a7, .ref a8, .ref a9, .ref a10, .ref a11])), (a2, .inl (cI, 24, .inl SI_1)), (a6, .inl (cI, 12, .inl PH_1)), (a10, .inl (cI, 12, .inl LE_1)), (a11, .inl (cI, 12, .inl GR_1))]) [0, 2, 5, 9, 10] rfl
        have hDc := hD.sub (ws' := [(a0, .inr (2, [.int (nI np), .ref a1, .ref a2, .ref a3, .ref a4, .ref a5, .ref a6, .ref a7, .ref a8, .ref a9, .ref a10, .ref a11])), (a2, .inl (cI, 24, .inl SI_1)), (a6, .inl (cI, 12, .inl PH_1)), (a10, .inl (cI, 12, .inl LE_1)), (a11, .inl (cI, 12, .inl GR_1))]) [0, 2, 5, 9, 10] (by decide +kernel) rfl
        have hFc := va_free (wc := [(a0, .inr (2, [.int (nI np), .ref a1, .ref a2, .ref a3, .ref a4, .ref a5, .ref a6, .ref a7, .ref a8, .ref a9, .ref a10, .ref a11])), (a2, .inl (cI, 24, .inl SI_1)), (a6, .inl (cI, 12, .inl PH_1)), (a10, .inl (cI, 12, .inl LE_1)), (a11, .inl (cI, 12, .inl GR_1))]) hD hS hA [0, 2, 5, 9, 10] rfl
        refine va_callv (va_runV (As := [.int (nI i_l)]) (rest := []) ⟨hx, hb, hml, hown, hts⟩ (e_PA_finish l D cI cZ a0 i_l np a1 a2 a3 a4 a5 a6 a7 a8 a9 a10 a11 SI_1 PH_1 LE_1 GR_1 H_8.size h_np (by first | omega | (dsimp only; omega))) (my_cwV 1 hts q_376 q_373 q_374 q_375 q_3 rfl rfl (by decide +kernel) ⟨Nat.le_of_ble_eq_true rfl, Nat.le_of_ble_eq_true rfl⟩) (my_preV hPc hDc hK hN 2 0 rfl rfl) rfl rfl hl.1 rfl (lv_room (Nat.le_of_ble_eq_true rfl)) d_PA_settle_103 ⟨Nat.le_of_ble_eq_true rfl, Nat.le_of_ble_eq_true rfl⟩) hS (fun q _ h => hFc q h) hFc (fun uU tT H_10 locs ht hvm hw_9 hB hz1 hk1 hS => ?_)
        obtain ⟨hP1, hD1⟩ := hB
        rw [ht] at hP1
        obtain ⟨hP, hD⟩ := va_join (wr := [(a1, .inl (cI, 24, .inl (fun zy => nI (EP zy)))), (a4, .inl (cI, 1536, .inl SS)), (a5, .inl (cI, 12, .inl (fun zy => nI (ST zy)))), (a7, .inl (cI, 12, .inl EN)), (a8, .inl (cI, 12, .inl (fun zy => nI (CL zy)))), (a9, .inl (cI, 12, .inl (fun zy => nI (CB zy)))), (f0, .inr (1, [.int (nI nn), .ref f1, .ref f2, .ref f3, .ref f4])), (f1, .inl (cI, 7, .inl (upd (upd FC_1 (EP (2 * i_l)) ((FC_1 (EP (2 * i_l))) + (SS ((2 * ((i_l * 64) + (CB i_l))) + 0)))) (EP ((2 * i_l) + 1)) (((upd FC_1 (EP (2 * i_l)) ((FC_1 (EP (2 * i_l))) + (SS ((2 * ((i_l * 64) + (CB i_l))) + 0)))) (EP ((2 * i_l) + 1))) + (SS ((2 * ((i_l * 64) + (CB i_l))) + 1)))))), (f4, .inl (cZ, 7, .inl FA))]) (w1 := [(a0, .inr (2, [.int (nI np), .ref a1, .ref a2, .ref a3, .ref a4, .ref a5, .ref a6, .ref a7, .ref a8, .ref a9, .ref a10, .ref a11])), (a2, .inl (cI, 24, .inl (upd (upd SI_1 (2 * i_l) 0) (2 * i_l + 1) 0))), (a6, .inl (cI, 12, .inl (upd PH_1 i_l 2))), (a10, .inl (cI, 12, .inl (upd LE_1 i_l 0))), (a11, .inl (cI, 12, .inl (upd GR_1 i_l (0 + 0))))]) hP hD [0, 2, 5, 9, 10] [1, 3, 4, 6, 7, 8, 11, 12, 13] rfl rfl (by decide +kernel) (by decide +kernel) hk1 hFc hP1 hD1
        have hP : va_P D vwCl [(a1, .inl (cI, 24, .inl (fun zy => nI (EP zy)))), (a4, .inl (cI, 1536, .inl SS)), (a5, .inl (cI, 12, .inl (fun zy => nI (ST zy)))), (a7, .inl (cI, 12, .inl EN)), (a8, .inl (cI, 12, .inl (fun zy => nI (CL zy)))), (a9, .inl (cI, 12, .inl (fun zy => nI (CB zy)))), (f0, .inr (1, [.int (nI nn), .ref f1, .ref f2, .ref f3, .ref f4])), (f1, .inl (cI, 7, .inl (upd (upd FC_1 (EP (2 * i_l)) ((FC_1 (EP (2 * i_l))) + (SS ((2 * ((i_l * 64) + (CB i_l))) + 0)))) (EP ((2 * i_l) + 1)) (((upd FC_1 (EP (2 * i_l)) ((FC_1 (EP (2 * i_l))) + (SS ((2 * ((i_l * 64) + (CB i_l))) + 0)))) (EP ((2 * i_l) + 1))) + (SS ((2 * ((i_l * 64) + (CB i_l))) + 1)))))), (f4, .inl (cZ, 7, .inl FA)), (a0, .inr (2, [.int (nI np), .ref a1, .ref a2, .ref a3, .ref a4, .ref a5, .ref a6, .ref a7, .ref a8, .ref a9, .ref a10, .ref a11])), (a2, .inl (cI, 24, .inl (upd (upd SI_1 (2 * i_l) 0) (2 * i_l + 1) 0))), (a6, .inl (cI, 12, .inl (upd PH_1 i_l 2))), (a10, .inl (cI, 12, .inl (upd LE_1 i_l 0))), (a11, .inl (cI, 12, .inl (upd GR_1 i_l (0 + 0))))] H_10 := hP
        have hph : PH i_l = 1 := by rw [← clF_at (B := (clB EP ST CL CB FA EN PH tm)) (n := i_l) (v := 2) (F := PH) (Nat.le_refl _), ← c2]; exact h_3
        have hBz : (clB EP ST CL CB FA EN PH tm) i_l = true := clB_2 hph (Int32.not_lt.mpr h_4)
        refine lv_iinc (v := nI (i_l + 1)) (lv' := [(3, .int (nI (i_l + 1))), (2, .int tm), (1, .ref f0), (0, .ref a0)]) hx hb d_PA_settle_106 hl (k := 0) rfl (nI_1 i_l) (by decide) rfl (fun ls hl => ?_)
        refine lv_goto (tgt := 2) hx hb d_PA_settle_109 (by decide) ?_
        have hPz := hP.sub (ws' := [(a0, .inr (2, [.int (nI np), .ref a1, .ref a2, .ref a3, .ref a4, .ref a5, .ref a6, .ref a7, .ref a8, .ref a9, .ref a10, .ref a11])), (a1, .inl (cI, 24, .inl (fun zy => nI (EP zy)))), (a2, .inl (cI, 24, .inl (upd (upd SI_1 (2 * i_l) 0) (2 * i_l + 1) 0))), (a4, .inl (cI, 1536, .inl SS)), (a5, .inl (cI, 12, .inl (fun zy => nI (ST zy)))), (a6, .inl (cI, 12, .inl (upd PH_1 i_l 2))), (a7, .inl (cI, 12, .inl EN)), (a8, .inl (cI, 12, .inl (fun zy => nI (CL zy)))), (a9, .inl (cI, 12, .inl (fun zy => nI (CB zy)))), (a10, .inl (cI, 12, .inl (upd LE_1 i_l 0))), (a11, .inl (cI, 12, .inl (upd GR_1 i_l (0 + 0)))), (f0, .inr (1, [.int (nI nn), .ref f1, .ref f2, .ref f3, .ref f4])), (f1, .inl (cI, 7, .inl (upd (upd FC_1 (EP (2 * i_l)) ((FC_1 (EP (2 * i_l))) + (SS ((2 * ((i_l * 64) + (CB i_l))) + 0)))) (EP ((2 * i_l) + 1)) (((upd FC_1 (EP (2 * i_l)) ((FC_1 (EP (2 * i_l))) + (SS ((2 * ((i_l * 64) + (CB i_l))) + 0)))) (EP ((2 * i_l) + 1))) + (SS ((2 * ((i_l * 64) + (CB i_l))) + 1)))))), (f4, .inl (cZ, 7, .inl FA))]) [9, 0, 10, 1, 2, 11, 3, 4, 5, 12, 13, 6, 7, 8] rfl
        have hDz := hD.sub (ws' := [(a0, .inr (2, [.int (nI np), .ref a1, .ref a2, .ref a3, .ref a4, .ref a5, .ref a6, .ref a7, .ref a8, .ref a9, .ref a10, .ref a11])), (a1, .inl (cI, 24, .inl (fun zy => nI (EP zy)))), (a2, .inl (cI, 24, .inl (upd (upd SI_1 (2 * i_l) 0) (2 * i_l + 1) 0))), (a4, .inl (cI, 1536, .inl SS)), (a5, .inl (cI, 12, .inl (fun zy => nI (ST zy)))), (a6, .inl (cI, 12, .inl (upd PH_1 i_l 2))), (a7, .inl (cI, 12, .inl EN)), (a8, .inl (cI, 12, .inl (fun zy => nI (CL zy)))), (a9, .inl (cI, 12, .inl (fun zy => nI (CB zy)))), (a10, .inl (cI, 12, .inl (upd LE_1 i_l 0))), (a11, .inl (cI, 12, .inl (upd GR_1 i_l (0 + 0)))), (f0, .inr (1, [.int (nI nn), .ref f1, .ref f2, .ref f3, .ref f4])), (f1, .inl (cI, 7, .inl (upd (upd FC_1 (EP (2 * i_l)) ((FC_1 (EP (2 * i_l))) + (SS ((2 * ((i_l * 64) + (CB i_l))) + 0)))) (EP ((2 * i_l) + 1)) (((upd FC_1 (EP (2 * i_l)) ((FC_1 (EP (2 * i_l))) + (SS ((2 * ((i_l * 64) + (CB i_l))) + 0)))) (EP ((2 * i_l) + 1))) + (SS ((2 * ((i_l * 64) + (CB i_l))) + 1)))))), (f4, .inl (cZ, 7, .inl FA))]) [9, 0, 10, 1, 2, 11, 3, 4, 5, 12, 13, 6, 7, 8] (by decide) rfl
        exact ih1 ((i_l + 1), (upd (upd SI_1 (2 * i_l) 0) (2 * i_l + 1) 0), (upd PH_1 i_l 2), (upd LE_1 i_l 0), (upd GR_1 i_l (0 + 0)), (upd (upd FC_1 (EP (2 * i_l)) ((FC_1 (EP (2 * i_l))) + (SS ((2 * ((i_l * 64) + (CB i_l))) + 0)))) (EP ((2 * i_l) + 1)) (((upd FC_1 (EP (2 * i_l)) ((FC_1 (EP (2 * i_l))) + (SS ((2 * ((i_l * 64) + (CB i_l))) + 0)))) (EP ((2 * i_l) + 1))) + (SS ((2 * ((i_l * 64) + (CB i_l))) + 1))))) _ _ _ (by first | omega | (dsimp only; omega)) ⟨(by first | omega | (dsimp only; omega)), (clG_y hBz c1), (clF_y hBz c2), (clF_y hBz c3), (by rw [zz_0]; exact clF_y hBz c4), hPz, hDz, hS, lv_sub hl [0, 1, 2, 3] rfl⟩
      · refine lv_aload_n hx hb d_PA_settle_33 rfl (lv_at hl 3 rfl) ?_
        refine lv_iload_n hx hb d_PA_settle_34 rfl (lv_at hl 0 rfl) ?_
        refine lv_aload_n hx hb d_PA_settle_35 rfl (lv_at hl 2 rfl) ?_
        have hPc := hP.sub (ws' := [(a0, .inr (2, [.int (nI np), .ref a1, .ref a2, .ref a3, .ref a4, .ref a5, .ref a6, .ref a7, .ref a8, .ref a9, .ref a10, .ref a11])), (a1, .inl (cI, 24, .inl (fun zy => nI (EP zy)))), (a2, .inl (cI, 24, .inl SI_1)), (a4, .inl (cI, 1536, .inl SS)), (a5, .inl (cI, 12, .inl (fun zy => nI (ST zy)))), (a6, .inl (cI, 12, .inl PH_1)), (a8, .inl (cI, 12, .inl (fun zy => nI (CL zy)))), (a9, .inl (cI, 12, .inl (fun zy => nI (CB zy)))), (a10, .inl (cI, 12, .inl LE_1)), (a11, .inl (cI, 12, .inl GR_1)), (f0, .inr (1, [.int (nI nn), .ref f1, .ref f2, .ref f3, .ref f4])), (f1, .inl (cI, 7, .inl FC_1)), (f4, .inl (cZ, 7, .inl FA))]) [0, 1, 2, 3, 4, 5, 7, 8, 9, 10, 11, 12, 13] rfl
        have hDc := hD.sub (ws' := [(a0, .inr (2, [.int (nI np), .ref a1, .ref a2, .ref a3, .ref a4, .ref a5, .ref a6, .ref a7, .ref a8, .ref a9, .ref a10, .ref a11])), (a1, .inl (cI, 24, .inl (fun zy => nI (EP zy)))), (a2, .inl (cI, 24, .inl SI_1)), (a4, .inl (cI, 1536, .inl SS)), (a5, .inl (cI, 12, .inl (fun zy => nI (ST zy)))), (a6, .inl (cI, 12, .inl PH_1)), (a8, .inl (cI, 12, .inl (fun zy => nI (CL zy)))), (a9, .inl (cI, 12, .inl (fun zy => nI (CB zy)))), (a10, .inl (cI, 12, .inl LE_1)), (a11, .inl (cI, 12, .inl GR_1)), (f0, .inr (1, [.int (nI nn), .ref f1, .ref f2, .ref f3, .ref f4])), (f1, .inl (cI, 7, .inl FC_1)), (f4, .inl (cZ, 7, .inl FA))]) [0, 1, 2, 3, 4, 5, 7, 8, 9, 10, 11, 12, 13] (by decide +kernel) rfl
        have hFc := va_free (wc := [(a0, .inr (2, [.int (nI np), .ref a1, .ref a2, .ref a3, .ref a4, .ref a5, .ref a6, .ref a7, .ref a8, .ref a9, .ref a10, .ref a11])), (a1, .inl (cI, 24, .inl (fun zy => nI (EP zy)))), (a2, .inl (cI, 24, .inl SI_1)), (a4, .inl (cI, 1536, .inl SS)), (a5, .inl (cI, 12, .inl (fun zy => nI (ST zy)))), (a6, .inl (cI, 12, .inl PH_1)), (a8, .inl (cI, 12, .inl (fun zy => nI (CL zy)))), (a9, .inl (cI, 12, .inl (fun zy => nI (CB zy)))), (a10, .inl (cI, 12, .inl LE_1)), (a11, .inl (cI, 12, .inl GR_1)), (f0, .inr (1, [.int (nI nn), .ref f1, .ref f2, .ref f3, .ref f4])), (f1, .inl (cI, 7, .inl FC_1)), (f4, .inl (cZ, 7, .inl FA))]) hD hS hA [0, 1, 2, 3, 4, 5, 7, 8, 9, 10, 11, 12, 13] rfl
        refine va_calli (va_runV (As := [.int (nI i_l), .ref f0]) (rest := []) ⟨hx, hb, hml, hown, hts⟩ (e_PA_isCaught l D cI cZ a0 i_l f0 np a1 a2 a3 a4 a5 a6 a7 a8 a9 a10 a11 EP SI_1 SS ST PH_1 CL CB LE_1 GR_1 nn f1 f2 f3 f4 FC_1 FA H_1.size h_np h_EP h_ST h_CL h_CB h_nn (by first | omega | (dsimp only; omega)) (h_st _ (by omega))) (my_cwV 2 hts q_368 q_365 q_366 q_367 q_3 rfl rfl (by decide +kernel) ⟨Nat.le_of_ble_eq_true rfl, Nat.le_of_ble_eq_true rfl⟩) (my_preV hPc hDc hK hN 2 0 rfl rfl) rfl rfl hl.1 rfl (lv_room (Nat.le_of_ble_eq_true rfl)) d_PA_settle_36 ⟨Nat.le_of_ble_eq_true rfl, Nat.le_of_ble_eq_true rfl⟩) hS (fun q _ h => hFc q h) hFc (fun r_11 uU tT H_12 locs ht hvm hw_11 hB hz1 hk1 hS => ?_)
        obtain ⟨SI_13, PH_14, LE_15, GR_16, FC_17⟩ := uU
        obtain ⟨hP1, hD1⟩ := hB
        rw [ht] at hP1
        obtain ⟨hP, hD⟩ := va_join (wr := [(a7, .inl (cI, 12, .inl EN))]) (w1 := [(a0, .inr (2, [.int (nI np), .ref a1, .ref a2, .ref a3, .ref a4, .ref a5, .ref a6, .ref a7, .ref a8, .ref a9, .ref a10, .ref a11])), (a1, .inl (cI, 24, .inl (fun zy => nI (EP zy)))), (a2, .inl (cI, 24, .inl SI_13)), (a4, .inl (cI, 1536, .inl SS)), (a5, .inl (cI, 12, .inl (fun zy => nI (ST zy)))), (a6, .inl (cI, 12, .inl PH_14)), (a8, .inl (cI, 12, .inl (fun zy => nI (CL zy)))), (a9, .inl (cI, 12, .inl (fun zy => nI (CB zy)))), (a10, .inl (cI, 12, .inl LE_15)), (a11, .inl (cI, 12, .inl GR_16)), (f0, .inr (1, [.int (nI nn), .ref f1, .ref f2, .ref f3, .ref f4])), (f1, .inl (cI, 7, .inl FC_17)), (f4, .inl (cZ, 7, .inl FA))]) hP hD [0, 1, 2, 3, 4, 5, 7, 8, 9, 10, 11, 12, 13] [6] rfl rfl (by decide +kernel) (by decide +kernel) hk1 hFc hP1 hD1
        have hP : va_P D vwCl [(a7, .inl (cI, 12, .inl EN)), (a0, .inr (2, [.int (nI np), .ref a1, .ref a2, .ref a3, .ref a4, .ref a5, .ref a6, .ref a7, .ref a8, .ref a9, .ref a10, .ref a11])), (a1, .inl (cI, 24, .inl (fun zy => nI (EP zy)))), (a2, .inl (cI, 24, .inl SI_13)), (a4, .inl (cI, 1536, .inl SS)), (a5, .inl (cI, 12, .inl (fun zy => nI (ST zy)))), (a6, .inl (cI, 12, .inl PH_14)), (a8, .inl (cI, 12, .inl (fun zy => nI (CL zy)))), (a9, .inl (cI, 12, .inl (fun zy => nI (CB zy)))), (a10, .inl (cI, 12, .inl LE_15)), (a11, .inl (cI, 12, .inl GR_16)), (f0, .inr (1, [.int (nI nn), .ref f1, .ref f2, .ref f3, .ref f4])), (f1, .inl (cI, 7, .inl FC_17)), (f4, .inl (cZ, 7, .inl FA))] H_12 := hP
        rcases hw_11 with ⟨hg_18, hg_19, hg_20, hg_21, hg_22, rfl⟩ | ⟨hg_23, hg_24, hg_25, hg_26, hg_27, rfl⟩
        · have hg_18 : cgB EP ST CL CB FA i_l = false := hg_18
          have hg_19 : SI_13 = SI_1 := hg_19
          have hg_20 : PH_14 = PH_1 := hg_20
          have hg_21 : LE_15 = LE_1 := hg_21
          have hg_22 : GR_16 = GR_1 := hg_22
          refine lv_pop hx hb d_PA_settle_39 rfl ?_
          refine lv_goto (tgt := 106) hx hb d_PA_settle_40 (by decide) ?_
          have hph : PH i_l = 1 := by rw [← clF_at (B := (clB EP ST CL CB FA EN PH tm)) (n := i_l) (v := 2) (F := PH) (Nat.le_refl _), ← c2]; exact h_3
          have hBz : (clB EP ST CL CB FA EN PH tm) i_l = false := clB_3 hph (Int32.not_le.mp h_4) hg_18
          refine lv_iinc (v := nI (i_l + 1)) (lv' := [(3, .int (nI (i_l + 1))), (2, .int tm), (1, .ref f0), (0, .ref a0)]) hx hb d_PA_settle_106 hl (k := 0) rfl (nI_1 i_l) (by decide) rfl (fun ls hl => ?_)
          refine lv_goto (tgt := 2) hx hb d_PA_settle_109 (by decide) ?_
          have hPz := hP.sub (ws' := [(a0, .inr (2, [.int (nI np), .ref a1, .ref a2, .ref a3, .ref a4, .ref a5, .ref a6, .ref a7, .ref a8, .ref a9, .ref a10, .ref a11])), (a1, .inl (cI, 24, .inl (fun zy => nI (EP zy)))), (a2, .inl (cI, 24, .inl SI_13)), (a4, .inl (cI, 1536, .inl SS)), (a5, .inl (cI, 12, .inl (fun zy => nI (ST zy)))), (a6, .inl (cI, 12, .inl PH_14)), (a7, .inl (cI, 12, .inl EN)), (a8, .inl (cI, 12, .inl (fun zy => nI (CL zy)))), (a9, .inl (cI, 12, .inl (fun zy => nI (CB zy)))), (a10, .inl (cI, 12, .inl LE_15)), (a11, .inl (cI, 12, .inl GR_16)), (f0, .inr (1, [.int (nI nn), .ref f1, .ref f2, .ref f3, .ref f4])), (f1, .inl (cI, 7, .inl FC_17)), (f4, .inl (cZ, 7, .inl FA))]) [1, 2, 3, 4, 5, 6, 0, 7, 8, 9, 10, 11, 12, 13] rfl
          have hDz := hD.sub (ws' := [(a0, .inr (2, [.int (nI np), .ref a1, .ref a2, .ref a3, .ref a4, .ref a5, .ref a6, .ref a7, .ref a8, .ref a9, .ref a10, .ref a11])), (a1, .inl (cI, 24, .inl (fun zy => nI (EP zy)))), (a2, .inl (cI, 24, .inl SI_13)), (a4, .inl (cI, 1536, .inl SS)), (a5, .inl (cI, 12, .inl (fun zy => nI (ST zy)))), (a6, .inl (cI, 12, .inl PH_14)), (a7, .inl (cI, 12, .inl EN)), (a8, .inl (cI, 12, .inl (fun zy => nI (CL zy)))), (a9, .inl (cI, 12, .inl (fun zy => nI (CB zy)))), (a10, .inl (cI, 12, .inl LE_15)), (a11, .inl (cI, 12, .inl GR_16)), (f0, .inr (1, [.int (nI nn), .ref f1, .ref f2, .ref f3, .ref f4])), (f1, .inl (cI, 7, .inl FC_17)), (f4, .inl (cZ, 7, .inl FA))]) [1, 2, 3, 4, 5, 6, 0, 7, 8, 9, 10, 11, 12, 13] (by decide) rfl
          exact ih1 ((i_l + 1), SI_13, PH_14, LE_15, GR_16, FC_17) _ _ _ (by first | omega | (dsimp only; omega)) ⟨(by first | omega | (dsimp only; omega)), (by rw [hg_19]; exact clG_n hBz c1), (by rw [hg_20]; exact clF_n hBz c2), (by rw [hg_21]; exact clF_n hBz c3), (by rw [hg_22]; exact clF_n hBz c4), hPz, hDz, hS, lv_sub hl [0, 1, 2, 3] rfl⟩
        · have hg_23 : cgB EP ST CL CB FA i_l = true := hg_23
          have hg_24 : SI_13 = upd (upd SI_1 (2 * i_l) 0) (2 * i_l + 1) 0 := hg_24
          have hg_25 : PH_14 = upd PH_1 i_l 2 := hg_25
          have hg_26 : LE_15 = upd LE_1 i_l 0 := hg_26
          have hg_27 : GR_16 = upd GR_1 i_l (0 + 0) := hg_27
          refine lv_pop hx hb d_PA_settle_39 rfl ?_
          refine lv_goto (tgt := 106) hx hb d_PA_settle_40 (by decide) ?_
          have hph : PH i_l = 1 := by rw [← clF_at (B := (clB EP ST CL CB FA EN PH tm)) (n := i_l) (v := 2) (F := PH) (Nat.le_refl _), ← c2]; exact h_3
          have hBz : (clB EP ST CL CB FA EN PH tm) i_l = true := clB_3 hph (Int32.not_le.mp h_4) hg_23
          refine lv_iinc (v := nI (i_l + 1)) (lv' := [(3, .int (nI (i_l + 1))), (2, .int tm), (1, .ref f0), (0, .ref a0)]) hx hb d_PA_settle_106 hl (k := 0) rfl (nI_1 i_l) (by decide) rfl (fun ls hl => ?_)
          refine lv_goto (tgt := 2) hx hb d_PA_settle_109 (by decide) ?_
          have hPz := hP.sub (ws' := [(a0, .inr (2, [.int (nI np), .ref a1, .ref a2, .ref a3, .ref a4, .ref a5, .ref a6, .ref a7, .ref a8, .ref a9, .ref a10, .ref a11])), (a1, .inl (cI, 24, .inl (fun zy => nI (EP zy)))), (a2, .inl (cI, 24, .inl SI_13)), (a4, .inl (cI, 1536, .inl SS)), (a5, .inl (cI, 12, .inl (fun zy => nI (ST zy)))), (a6, .inl (cI, 12, .inl PH_14)), (a7, .inl (cI, 12, .inl EN)), (a8, .inl (cI, 12, .inl (fun zy => nI (CL zy)))), (a9, .inl (cI, 12, .inl (fun zy => nI (CB zy)))), (a10, .inl (cI, 12, .inl LE_15)), (a11, .inl (cI, 12, .inl GR_16)), (f0, .inr (1, [.int (nI nn), .ref f1, .ref f2, .ref f3, .ref f4])), (f1, .inl (cI, 7, .inl FC_17)), (f4, .inl (cZ, 7, .inl FA))]) [1, 2, 3, 4, 5, 6, 0, 7, 8, 9, 10, 11, 12, 13] rfl
          have hDz := hD.sub (ws' := [(a0, .inr (2, [.int (nI np), .ref a1, .ref a2, .ref a3, .ref a4, .ref a5, .ref a6, .ref a7, .ref a8, .ref a9, .ref a10, .ref a11])), (a1, .inl (cI, 24, .inl (fun zy => nI (EP zy)))), (a2, .inl (cI, 24, .inl SI_13)), (a4, .inl (cI, 1536, .inl SS)), (a5, .inl (cI, 12, .inl (fun zy => nI (ST zy)))), (a6, .inl (cI, 12, .inl PH_14)), (a7, .inl (cI, 12, .inl EN)), (a8, .inl (cI, 12, .inl (fun zy => nI (CL zy)))), (a9, .inl (cI, 12, .inl (fun zy => nI (CB zy)))), (a10, .inl (cI, 12, .inl LE_15)), (a11, .inl (cI, 12, .inl GR_16)), (f0, .inr (1, [.int (nI nn), .ref f1, .ref f2, .ref f3, .ref f4])), (f1, .inl (cI, 7, .inl FC_17)), (f4, .inl (cZ, 7, .inl FA))]) [1, 2, 3, 4, 5, 6, 0, 7, 8, 9, 10, 11, 12, 13] (by decide) rfl
          exact ih1 ((i_l + 1), SI_13, PH_14, LE_15, GR_16, FC_17) _ _ _ (by first | omega | (dsimp only; omega)) ⟨(by first | omega | (dsimp only; omega)), (by rw [hg_24]; exact (clG_y hBz c1)), (by rw [hg_25]; exact (clF_y hBz c2)), (by rw [hg_26]; exact (clF_y hBz c3)), (by rw [hg_27]; rw [zz_0]; exact clF_y hBz c4), hPz, hDz, hS, lv_sub hl [0, 1, 2, 3] rfl⟩
    · refine lv_goto (tgt := 106) hx hb d_PA_settle_20 (by decide) ?_
      have hBz : (clB EP ST CL CB FA EN PH tm) i_l = false := clB_1 (fun hz => h_3 (by rw [c2, clF_at (Nat.le_refl _)]; exact hz))
      refine lv_iinc (v := nI (i_l + 1)) (lv' := [(3, .int (nI (i_l + 1))), (2, .int tm), (1, .ref f0), (0, .ref a0)]) hx hb d_PA_settle_106 hl (k := 0) rfl (nI_1 i_l) (by decide) rfl (fun ls hl => ?_)
      refine lv_goto (tgt := 2) hx hb d_PA_settle_109 (by decide) ?_
      have hPz := hP.sub (ws' := [(a0, .inr (2, [.int (nI np), .ref a1, .ref a2, .ref a3, .ref a4, .ref a5, .ref a6, .ref a7, .ref a8, .ref a9, .ref a10, .ref a11])), (a1, .inl (cI, 24, .inl (fun zy => nI (EP zy)))), (a2, .inl (cI, 24, .inl SI_1)), (a4, .inl (cI, 1536, .inl SS)), (a5, .inl (cI, 12, .inl (fun zy => nI (ST zy)))), (a6, .inl (cI, 12, .inl PH_1)), (a7, .inl (cI, 12, .inl EN)), (a8, .inl (cI, 12, .inl (fun zy => nI (CL zy)))), (a9, .inl (cI, 12, .inl (fun zy => nI (CB zy)))), (a10, .inl (cI, 12, .inl LE_1)), (a11, .inl (cI, 12, .inl GR_1)), (f0, .inr (1, [.int (nI nn), .ref f1, .ref f2, .ref f3, .ref f4])), (f1, .inl (cI, 7, .inl FC_1)), (f4, .inl (cZ, 7, .inl FA))]) [0, 1, 2, 3, 4, 5, 6, 7, 8, 9, 10, 11, 12, 13] rfl
      have hDz := hD.sub (ws' := [(a0, .inr (2, [.int (nI np), .ref a1, .ref a2, .ref a3, .ref a4, .ref a5, .ref a6, .ref a7, .ref a8, .ref a9, .ref a10, .ref a11])), (a1, .inl (cI, 24, .inl (fun zy => nI (EP zy)))), (a2, .inl (cI, 24, .inl SI_1)), (a4, .inl (cI, 1536, .inl SS)), (a5, .inl (cI, 12, .inl (fun zy => nI (ST zy)))), (a6, .inl (cI, 12, .inl PH_1)), (a7, .inl (cI, 12, .inl EN)), (a8, .inl (cI, 12, .inl (fun zy => nI (CL zy)))), (a9, .inl (cI, 12, .inl (fun zy => nI (CB zy)))), (a10, .inl (cI, 12, .inl LE_1)), (a11, .inl (cI, 12, .inl GR_1)), (f0, .inr (1, [.int (nI nn), .ref f1, .ref f2, .ref f3, .ref f4])), (f1, .inl (cI, 7, .inl FC_1)), (f4, .inl (cZ, 7, .inl FA))]) [0, 1, 2, 3, 4, 5, 6, 7, 8, 9, 10, 11, 12, 13] (by decide) rfl
      exact ih1 ((i_l + 1), SI_1, PH_1, LE_1, GR_1, FC_1) _ _ _ (by first | omega | (dsimp only; omega)) ⟨(by first | omega | (dsimp only; omega)), (clG_n hBz c1), (clF_n hBz c2), (clF_n hBz c3), (clF_n hBz c4), hPz, hDz, hS, lv_sub hl [0, 1, 2, 3] rfl⟩

set_option maxHeartbeats 4000000 in
set_option maxRecDepth 100000 in
theorem e_PA_tryToPay (l : Launch) (D : va_G) (cI cZ : ClassId) (a0 : Nat) (j : Nat) (t : Nat) (v : Int32) (np : Nat) (a1 : Nat) (a2 : Nat) (a3 : Nat) (a4 : Nat) (a5 : Nat) (a6 : Nat) (a7 : Nat) (a8 : Nat) (a9 : Nat) (a10 : Nat) (a11 : Nat) (SI : Nat → Int32) (LE : Nat → Int32) (GR : Nat → Int32) (sz : Nat) (h_np : np ≤ 12) (hj : j < 12) (htl : t ≤ 1) : Met l ⟨"PromiseChains$Pairs", "tryToPay", "(III)Z"⟩ (mw ⟨"PromiseChains$Pairs", "tryToPay", "(III)Z"⟩ prog_2_method_20_code 6 (some .boolean)) ({ frames := 1, cells := 0, slots := 0, locals := 15 }) (va_Pc [.ref a0, .int (nI j), .int (nI t), .int v] (PB D cI cZ sz [(a0, .inr (2, [.int (nI np), .ref a1, .ref a2, .ref a3, .ref a4, .ref a5, .ref a6, .ref a7, .ref a8, .ref a9, .ref a10, .ref a11])), (a2, .inl (cI, 24, .inl SI)), (a10, .inl (cI, 12, .inl LE)), (a11, .inl (cI, 12, .inl GR))])) (va_Qi (S := Unit) (fun (r : Int32) uU => (SI (2 * j + t) < v ∧ r = 0) ∨ (¬ SI (2 * j + t) < v ∧ r = 1)) (fun uU tT => BB D (va_A [(a0, .inr (2, [.int (nI np), .ref a1, .ref a2, .ref a3, .ref a4, .ref a5, .ref a6, .ref a7, .ref a8, .ref a9, .ref a10, .ref a11])), (a2, .inl (cI, 24, .inl SI)), (a10, .inl (cI, 12, .inl LE)), (a11, .inl (cI, 12, .inl GR))] sz) [(a0, .inr (2, [.int (nI np), .ref a1, .ref a2, .ref a3, .ref a4, .ref a5, .ref a6, .ref a7, .ref a8, .ref a9, .ref a10, .ref a11])), (a2, .inl (cI, 24, .inl SI)), (a10, .inl (cI, 12, .inl (tryL SI LE j t v))), (a11, .inl (cI, 12, .inl (tryG SI GR j t v)))] tT) (va_A [(a0, .inr (2, [.int (nI np), .ref a1, .ref a2, .ref a3, .ref a4, .ref a5, .ref a6, .ref a7, .ref a8, .ref a9, .ref a10, .ref a11])), (a2, .inl (cI, 24, .inl SI)), (a10, .inl (cI, 12, .inl LE)), (a11, .inl (cI, 12, .inl GR))] sz)) 0 0 (va_A [(a0, .inr (2, [.int (nI np), .ref a1, .ref a2, .ref a3, .ref a4, .ref a5, .ref a6, .ref a7, .ref a8, .ref a9, .ref a10, .ref a11])), (a2, .inl (cI, 24, .inl SI)), (a10, .inl (cI, 12, .inl LE)), (a11, .inl (cI, 12, .inl GR))] sz) := by
  refine Met.ofW (cc := prog_2_method_20_code) (maxL := 6) (ret := (some .boolean)) (by decide) rfl ?_
  intro p e s m args below meth c s₁ B hml hv
  obtain ⟨rfl, hsz, hP, hK, hD0, hN⟩ := hv
  have hx := B.exec
  have hb := B.bytes
  have hr := B.returns
  have hts0 := atoms_spec (ws := mw ⟨"PromiseChains$Pairs", "tryToPay", "(III)Z"⟩ prog_2_method_20_code 6 (some .boolean)) B.pre
  have hts : ∀ w ∈ tblG, w.before _ s = true := fun w h => hts0 w (List.mem_cons_of_mem _ h)
  have hown : s.vm.findClass "PromiseChains$Pairs" = some m.cls := findClass_of_methodNamed B.named
  have hlocks := B.notSynchronized
  subst hsz
  have hD := hD0.self (sz := s.heap.size)
  generalize hAe : va_A [(a0, .inr (2, [.int (nI np), .ref a1, .ref a2, .ref a3, .ref a4, .ref a5, .ref a6, .ref a7, .ref a8, .ref a9, .ref a10, .ref a11])), (a2, .inl (cI, 24, .inl SI)), (a10, .inl (cI, 12, .inl LE)), (a11, .inl (cI, 12, .inl GR))] s.heap.size = A at hD ⊢
  have hA : ∀ q : Nat, s.heap.size ≤ q → A q := fun q h => by rw [← hAe]; exact Or.inr h
  have hS : va_S A s.heap s.heap [] := va_S.rf
  have hP : va_P D vwCl [(a0, .inr (2, [.int (nI np), .ref a1, .ref a2, .ref a3, .ref a4, .ref a5, .ref a6, .ref a7, .ref a8, .ref a9, .ref a10, .ref a11])), (a2, .inl (cI, 24, .inl SI)), (a10, .inl (cI, 12, .inl LE)), (a11, .inl (cI, 12, .inl GR))] s.heap := hP
  have hl := lv_entry ([.ref a0, .int (nI j), .int (nI t), .int v]) (n := 6) (Nat.le_of_ble_eq_true rfl)
  rw [lg_entry_eq]
  generalize (lg_sl ([.ref a0, .int (nI j), .int (nI t), .int v]) ++ List.replicate (6 - (lg_sl ([.ref a0, .int (nI j), .int (nI t), .int v])).length) Slot.unset).toArray = ls at hl ⊢
  have hl : lv_has ls 6 [(0, .ref a0), (1, .int (nI j)), (2, .int (nI t)), (3, .int v)] := hl
  refine lv_aload_n hx hb d_PA_tryToPay_0 rfl (lv_at hl 0 rfl) ?_
  refine va_get (D := D) (ci := 2) (v := .ref a2) (C := R_PA) (T := F_PA) (N := 12) hx hb hts i_PA hown hK hP 0 rfl rfl 2 (by decide) (hts _ q_61) (fun _ h9 => h9) rfl d_PA_tryToPay_1 ?_
  refine lv_iconst (v := 2) hx hb d_PA_tryToPay_4 (by decide) ?_
  refine lv_iload_n hx hb d_PA_tryToPay_5 rfl (lv_at hl 1 rfl) ?_
  refine lv_imul hx hb d_PA_tryToPay_6 ?_
  refine lv_seti (nI (2 * j)) (pk_mul 2 j) ?_
  refine my_ldI hx hb hK hP 1 rfl (2 * j) rfl (by omega) (by decide) d_PA_tryToPay_7 ?_
  refine lv_aload_n hx hb d_PA_tryToPay_8 rfl (lv_at hl 0 rfl) ?_
  refine va_get (D := D) (ci := 2) (v := .ref a2) (C := R_PA) (T := F_PA) (N := 12) hx hb hts i_PA hown hK hP 0 rfl rfl 2 (by decide) (hts _ q_61) (fun _ h9 => h9) rfl d_PA_tryToPay_9 ?_
  refine lv_iconst (v := 2) hx hb d_PA_tryToPay_12 (by decide) ?_
  refine lv_iload_n hx hb d_PA_tryToPay_13 rfl (lv_at hl 1 rfl) ?_
  refine lv_imul hx hb d_PA_tryToPay_14 ?_
  refine lv_seti (nI (2 * j)) (pk_mul 2 j) ?_
  refine lv_iconst (v := 1) hx hb d_PA_tryToPay_15 (by decide) ?_
  refine lv_iadd hx hb d_PA_tryToPay_16 ?_
  refine lv_seti (nI ((2 * j) + 1)) (nI_add (2 * j) 1) ?_
  refine my_ldI hx hb hK hP 1 rfl ((2 * j) + 1) rfl (by omega) (by decide) d_PA_tryToPay_17 ?_
  refine lv_iadd hx hb d_PA_tryToPay_18 ?_
  refine lv_istore (lv' := [(4, .int ((SI (2 * j)) + (SI ((2 * j) + 1)))), (0, .ref a0), (1, .int (nI j)), (2, .int (nI t)), (3, .int v)]) hx hb d_PA_tryToPay_19 hl (by decide) rfl (fun ls hl => ?_)
  refine lv_aload_n hx hb d_PA_tryToPay_21 rfl (lv_at hl 1 rfl) ?_
  refine va_get (D := D) (ci := 2) (v := .ref a2) (C := R_PA) (T := F_PA) (N := 12) hx hb hts i_PA hown hK hP 0 rfl rfl 2 (by decide) (hts _ q_61) (fun _ h9 => h9) rfl d_PA_tryToPay_22 ?_
  refine lv_iconst (v := 2) hx hb d_PA_tryToPay_25 (by decide) ?_
  refine lv_iload_n hx hb d_PA_tryToPay_26 rfl (lv_at hl 2 rfl) ?_
  refine lv_imul hx hb d_PA_tryToPay_27 ?_
  refine lv_seti (nI (2 * j)) (pk_mul 2 j) ?_
  refine lv_iload_n hx hb d_PA_tryToPay_28 rfl (lv_at hl 3 rfl) ?_
  refine lv_iadd hx hb d_PA_tryToPay_29 ?_
  refine lv_seti (nI ((2 * j) + t)) (nI_add (2 * j) t) ?_
  refine my_ldI hx hb hK hP 1 rfl ((2 * j) + t) rfl (by omega) (by decide) d_PA_tryToPay_30 ?_
  refine lv_iload_n hx hb d_PA_tryToPay_31 rfl (lv_at hl 4 rfl) ?_
  refine lv_icmp_lt (tgt := 39) hx hb d_PA_tryToPay_32 (by decide) (fun h_1 => ?_) (fun h_1 => ?_)
  · refine lv_iconst (v := 0) hx hb d_PA_tryToPay_39 (by decide) ?_
    refine lv_istore (lv' := [(5, .int 0), (4, .int ((SI (2 * j)) + (SI ((2 * j) + 1)))), (0, .ref a0), (1, .int (nI j)), (2, .int (nI t)), (3, .int v)]) hx hb d_PA_tryToPay_40 hl (by decide) rfl (fun ls hl => ?_)
    refine lv_iload_n hx hb d_PA_tryToPay_42 rfl (lv_at hl 4 rfl) ?_
    refine lv_if_ne (tgt := 70) hx hb d_PA_tryToPay_43 (by decide) (fun h_2 => ?_) (fun h_2 => ?_)
    · have nh_2 : ¬ t = 0 := fun qZ => h_2 ((nI_eq (a := t) (b := 0) (by omega) (by omega)).mpr qZ)
      refine lv_iload_n hx hb d_PA_tryToPay_70 rfl (lv_at hl 4 rfl) ?_
      refine lv_if_ne (tgt := 95) hx hb d_PA_tryToPay_71 (by decide) (fun _ => ?_) (fun h => absurd h h_2)
      refine lv_iload hx hb d_PA_tryToPay_95 (lv_at hl 0 rfl) ?_
      refine lv_if_eq (tgt := 122) hx hb d_PA_tryToPay_97 (by decide) (fun _ => ?_) (fun h => absurd h (by decide))
      refine lv_aload_n hx hb d_PA_tryToPay_122 rfl (lv_at hl 2 rfl) ?_
      refine va_get (D := D) (ci := 2) (v := .ref a10) (C := R_PA) (T := F_PA) (N := 12) hx hb hts i_PA hown hK hP 0 rfl rfl 10 (by decide) (hts _ q_75) (fun _ h9 => h9) rfl d_PA_tryToPay_123 ?_
      refine lv_iload_n hx hb d_PA_tryToPay_126 rfl (lv_at hl 3 rfl) ?_
      refine lv_aload_n hx hb d_PA_tryToPay_127 rfl (lv_at hl 2 rfl) ?_
      refine va_get (D := D) (ci := 2) (v := .ref a10) (C := R_PA) (T := F_PA) (N := 12) hx hb hts i_PA hown hK hP 0 rfl rfl 10 (by decide) (hts _ q_75) (fun _ h9 => h9) rfl d_PA_tryToPay_128 ?_
      refine lv_iload_n hx hb d_PA_tryToPay_131 rfl (lv_at hl 3 rfl) ?_
      refine my_ldI hx hb hK hP 2 rfl j rfl (by omega) (by decide) d_PA_tryToPay_132 ?_
      refine lv_iload hx hb d_PA_tryToPay_133 (lv_at hl 1 rfl) ?_
      refine lv_iload_n hx hb d_PA_tryToPay_135 rfl (lv_at hl 5 rfl) ?_
      refine lv_isub hx hb d_PA_tryToPay_136 ?_
      refine lv_iconst (v := 1) hx hb d_PA_tryToPay_137 (by decide) ?_
      refine lv_iadd hx hb d_PA_tryToPay_138 ?_
      refine va_mmax hx hb (hml.trans hl.1.symm) hown (hts _ q_593) (hts _ q_594) (hts _ q_9) (hts _ q_595) (Nat.le_of_ble_eq_true rfl) (Nat.le_of_ble_eq_true rfl) (Nat.le_of_ble_eq_true rfl) (Nat.le_of_ble_eq_true rfl) d_PA_tryToPay_139 ?_
      refine lv_topi (fun v_5 ev_5 => ?_)
      refine my_stI hx hb hK hP hD hS 2 rfl j rfl (by omega) (by decide) d_PA_tryToPay_142 (fun H_6 locs hP hD hS => ?_)
      have hP : va_P D vwCl [(a0, .inr (2, [.int (nI np), .ref a1, .ref a2, .ref a3, .ref a4, .ref a5, .ref a6, .ref a7, .ref a8, .ref a9, .ref a10, .ref a11])), (a2, .inl (cI, 24, .inl SI)), (a10, .inl (cI, 12, .inl (upd LE j v_5))), (a11, .inl (cI, 12, .inl GR))] H_6 := hP
      refine lv_iload hx hb d_PA_tryToPay_143 (lv_at hl 0 rfl) ?_
      have hr_7 : (upd LE j v_5) = tryL SI LE j t v := by unfold tryL; rw [if_neg nh_2, if_pos h_1]; rw [ev_5]; rfl
      have hP : va_P D vwCl [(a0, .inr (2, [.int (nI np), .ref a1, .ref a2, .ref a3, .ref a4, .ref a5, .ref a6, .ref a7, .ref a8, .ref a9, .ref a10, .ref a11])), (a2, .inl (cI, 24, .inl SI)), (a10, .inl (cI, 12, .inl (tryL SI LE j t v))), (a11, .inl (cI, 12, .inl GR))] H_6 := by rw [← hr_7]; exact hP
      have hD : va_D A [(a0, .inr (2, [.int (nI np), .ref a1, .ref a2, .ref a3, .ref a4, .ref a5, .ref a6, .ref a7, .ref a8, .ref a9, .ref a10, .ref a11])), (a2, .inl (cI, 24, .inl SI)), (a10, .inl (cI, 12, .inl (tryL SI LE j t v))), (a11, .inl (cI, 12, .inl GR))] := by rw [← hr_7]; exact hD
      have hr_8 : GR = tryG SI GR j t v := by unfold tryG; rw [if_neg nh_2, if_pos h_1]
      have hP : va_P D vwCl [(a0, .inr (2, [.int (nI np), .ref a1, .ref a2, .ref a3, .ref a4, .ref a5, .ref a6, .ref a7, .ref a8, .ref a9, .ref a10, .ref a11])), (a2, .inl (cI, 24, .inl SI)), (a10, .inl (cI, 12, .inl (tryL SI LE j t v))), (a11, .inl (cI, 12, .inl (tryG SI GR j t v)))] H_6 := by rw [← hr_8]; exact hP
      have hD : va_D A [(a0, .inr (2, [.int (nI np), .ref a1, .ref a2, .ref a3, .ref a4, .ref a5, .ref a6, .ref a7, .ref a8, .ref a9, .ref a10, .ref a11])), (a2, .inl (cI, 24, .inl SI)), (a10, .inl (cI, 12, .inl (tryL SI LE j t v))), (a11, .inl (cI, 12, .inl (tryG SI GR j t v)))] := by rw [← hr_8]; exact hD
      have hP : va_P D vwCl [(a0, .inr (2, [.int (nI np), .ref a1, .ref a2, .ref a3, .ref a4, .ref a5, .ref a6, .ref a7, .ref a8, .ref a9, .ref a10, .ref a11])), (a2, .inl (cI, 24, .inl SI)), (a10, .inl (cI, 12, .inl (tryL SI LE j t v))), (a11, .inl (cI, 12, .inl (tryG SI GR j t v)))] H_6 := hP
      have hP9 := hP.sub (ws' := [(a0, .inr (2, [.int (nI np), .ref a1, .ref a2, .ref a3, .ref a4, .ref a5, .ref a6, .ref a7, .ref a8, .ref a9, .ref a10, .ref a11])), (a2, .inl (cI, 24, .inl SI)), (a10, .inl (cI, 12, .inl (tryL SI LE j t v))), (a11, .inl (cI, 12, .inl (tryG SI GR j t v)))]) [0, 1, 2, 3] rfl
      have hD9 := hD.sub (ws' := [(a0, .inr (2, [.int (nI np), .ref a1, .ref a2, .ref a3, .ref a4, .ref a5, .ref a6, .ref a7, .ref a8, .ref a9, .ref a10, .ref a11])), (a2, .inl (cI, 24, .inl SI)), (a10, .inl (cI, 12, .inl (tryL SI LE j t v))), (a11, .inl (cI, 12, .inl (tryG SI GR j t v)))]) [0, 1, 2, 3] (by decide +kernel) rfl
      refine W.widen (k := 0) (n := 0) (Nat.le_of_ble_eq_true rfl) (Nat.le_of_ble_eq_true rfl) ?_
      exact W.zret (v := 0) hx hb hr rfl (fun tT ht hW => ⟨⟨0, (), rfl, (Or.inl (⟨h_1, rfl⟩)), by rw [ht]; exact hP9, hD9⟩, hS.F ht⟩) hS.2.2 d_PA_tryToPay_145
    · have nh_2 : t = 0 := (nI_eq (a := t) (b := 0) (by omega) (by omega)).mp h_2
      refine lv_iload hx hb d_PA_tryToPay_46 (lv_at hl 0 rfl) ?_
      refine lv_if_eq (tgt := 70) hx hb d_PA_tryToPay_48 (by decide) (fun _ => ?_) (fun h => absurd h (by decide))
      refine lv_iload_n hx hb d_PA_tryToPay_70 rfl (lv_at hl 4 rfl) ?_
      refine lv_if_ne (tgt := 95) hx hb d_PA_tryToPay_71 (by decide) (fun h => absurd h_2 h) (fun _ => ?_)
      refine lv_aload_n hx hb d_PA_tryToPay_74 rfl (lv_at hl 2 rfl) ?_
      refine va_get (D := D) (ci := 2) (v := .ref a11) (C := R_PA) (T := F_PA) (N := 12) hx hb hts i_PA hown hK hP 0 rfl rfl 11 (by decide) (hts _ q_77) (fun _ h9 => h9) rfl d_PA_tryToPay_75 ?_
      refine lv_iload_n hx hb d_PA_tryToPay_78 rfl (lv_at hl 3 rfl) ?_
      refine lv_aload_n hx hb d_PA_tryToPay_79 rfl (lv_at hl 2 rfl) ?_
      refine va_get (D := D) (ci := 2) (v := .ref a11) (C := R_PA) (T := F_PA) (N := 12) hx hb hts i_PA hown hK hP 0 rfl rfl 11 (by decide) (hts _ q_77) (fun _ h9 => h9) rfl d_PA_tryToPay_80 ?_
      refine lv_iload_n hx hb d_PA_tryToPay_83 rfl (lv_at hl 3 rfl) ?_
      refine my_ldI hx hb hK hP 3 rfl j rfl (by omega) (by decide) d_PA_tryToPay_84 ?_
      refine lv_iload_n hx hb d_PA_tryToPay_85 rfl (lv_at hl 5 rfl) ?_
      refine lv_iconst (v := 1) hx hb d_PA_tryToPay_86 (by decide) ?_
      refine lv_isub hx hb d_PA_tryToPay_87 ?_
      refine va_mmin hx hb (hml.trans hl.1.symm) hown (hts _ q_596) (hts _ q_554) (hts _ q_9) (hts _ q_555) (Nat.le_of_ble_eq_true rfl) (Nat.le_of_ble_eq_true rfl) (Nat.le_of_ble_eq_true rfl) (Nat.le_of_ble_eq_true rfl) d_PA_tryToPay_88 ?_
      refine lv_topi (fun v_11 ev_11 => ?_)
      refine my_stI hx hb hK hP hD hS 3 rfl j rfl (by omega) (by decide) d_PA_tryToPay_91 (fun H_12 locs hP hD hS => ?_)
      have hP : va_P D vwCl [(a0, .inr (2, [.int (nI np), .ref a1, .ref a2, .ref a3, .ref a4, .ref a5, .ref a6, .ref a7, .ref a8, .ref a9, .ref a10, .ref a11])), (a2, .inl (cI, 24, .inl SI)), (a10, .inl (cI, 12, .inl LE)), (a11, .inl (cI, 12, .inl (upd GR j v_11)))] H_12 := hP
      refine lv_goto (tgt := 143) hx hb d_PA_tryToPay_92 (by decide) ?_
      refine lv_iload hx hb d_PA_tryToPay_143 (lv_at hl 0 rfl) ?_
      have hr_13 : LE = tryL SI LE j t v := by unfold tryL; rw [if_pos nh_2, if_pos h_1]
      have hP : va_P D vwCl [(a0, .inr (2, [.int (nI np), .ref a1, .ref a2, .ref a3, .ref a4, .ref a5, .ref a6, .ref a7, .ref a8, .ref a9, .ref a10, .ref a11])), (a2, .inl (cI, 24, .inl SI)), (a10, .inl (cI, 12, .inl (tryL SI LE j t v))), (a11, .inl (cI, 12, .inl (upd GR j v_11)))] H_12 := by rw [← hr_13]; exact hP
      have hD : va_D A [(a0, .inr (2, [.int (nI np), .ref a1, .ref a2, .ref a3, .ref a4, .ref a5, .ref a6, .ref a7, .ref a8, .ref a9, .ref a10, .ref a11])), (a2, .inl (cI, 24, .inl SI)), (a10, .inl (cI, 12, .inl (tryL SI LE j t v))), (a11, .inl (cI, 12, .inl (upd GR j v_11)))] := by rw [← hr_13]; exact hD
      have hr_14 : (upd GR j v_11) = tryG SI GR j t v := by unfold tryG; rw [if_pos nh_2, if_pos h_1]; rw [ev_11]; rfl
      have hP : va_P D vwCl [(a0, .inr (2, [.int (nI np), .ref a1, .ref a2, .ref a3, .ref a4, .ref a5, .ref a6, .ref a7, .ref a8, .ref a9, .ref a10, .ref a11])), (a2, .inl (cI, 24, .inl SI)), (a10, .inl (cI, 12, .inl (tryL SI LE j t v))), (a11, .inl (cI, 12, .inl (tryG SI GR j t v)))] H_12 := by rw [← hr_14]; exact hP
      have hD : va_D A [(a0, .inr (2, [.int (nI np), .ref a1, .ref a2, .ref a3, .ref a4, .ref a5, .ref a6, .ref a7, .ref a8, .ref a9, .ref a10, .ref a11])), (a2, .inl (cI, 24, .inl SI)), (a10, .inl (cI, 12, .inl (tryL SI LE j t v))), (a11, .inl (cI, 12, .inl (tryG SI GR j t v)))] := by rw [← hr_14]; exact hD
      have hP : va_P D vwCl [(a0, .inr (2, [.int (nI np), .ref a1, .ref a2, .ref a3, .ref a4, .ref a5, .ref a6, .ref a7, .ref a8, .ref a9, .ref a10, .ref a11])), (a2, .inl (cI, 24, .inl SI)), (a10, .inl (cI, 12, .inl (tryL SI LE j t v))), (a11, .inl (cI, 12, .inl (tryG SI GR j t v)))] H_12 := hP
      have hP9 := hP.sub (ws' := [(a0, .inr (2, [.int (nI np), .ref a1, .ref a2, .ref a3, .ref a4, .ref a5, .ref a6, .ref a7, .ref a8, .ref a9, .ref a10, .ref a11])), (a2, .inl (cI, 24, .inl SI)), (a10, .inl (cI, 12, .inl (tryL SI LE j t v))), (a11, .inl (cI, 12, .inl (tryG SI GR j t v)))]) [0, 1, 2, 3] rfl
      have hD9 := hD.sub (ws' := [(a0, .inr (2, [.int (nI np), .ref a1, .ref a2, .ref a3, .ref a4, .ref a5, .ref a6, .ref a7, .ref a8, .ref a9, .ref a10, .ref a11])), (a2, .inl (cI, 24, .inl SI)), (a10, .inl (cI, 12, .inl (tryL SI LE j t v))), (a11, .inl (cI, 12, .inl (tryG SI GR j t v)))]) [0, 1, 2, 3] (by decide +kernel) rfl
      refine W.widen (k := 0) (n := 0) (Nat.le_of_ble_eq_true rfl) (Nat.le_of_ble_eq_true rfl) ?_
      exact W.zret (v := 0) hx hb hr rfl (fun tT ht hW => ⟨⟨0, (), rfl, (Or.inl (⟨h_1, rfl⟩)), by rw [ht]; exact hP9, hD9⟩, hS.F ht⟩) hS.2.2 d_PA_tryToPay_145
  · refine lv_iconst (v := 1) hx hb d_PA_tryToPay_35 (by decide) ?_
    refine lv_goto (tgt := 40) hx hb d_PA_tryToPay_36 (by decide) ?_
    refine lv_istore (lv' := [(5, .int 1), (4, .int ((SI (2 * j)) + (SI ((2 * j) + 1)))), (0, .ref a0), (1, .int (nI j)), (2, .int (nI t)), (3, .int v)]) hx hb d_PA_tryToPay_40 hl (by decide) rfl (fun ls hl => ?_)
    refine lv_iload_n hx hb d_PA_tryToPay_42 rfl (lv_at hl 4 rfl) ?_
    refine lv_if_ne (tgt := 70) hx hb d_PA_tryToPay_43 (by decide) (fun h_15 => ?_) (fun h_15 => ?_)
    · have nh_15 : ¬ t = 0 := fun qZ => h_15 ((nI_eq (a := t) (b := 0) (by omega) (by omega)).mpr qZ)
      refine lv_iload_n hx hb d_PA_tryToPay_70 rfl (lv_at hl 4 rfl) ?_
      refine lv_if_ne (tgt := 95) hx hb d_PA_tryToPay_71 (by decide) (fun _ => ?_) (fun h => absurd h h_15)
      refine lv_iload hx hb d_PA_tryToPay_95 (lv_at hl 0 rfl) ?_
      refine lv_if_eq (tgt := 122) hx hb d_PA_tryToPay_97 (by decide) (fun h => absurd h (by decide)) (fun _ => ?_)
      refine lv_aload_n hx hb d_PA_tryToPay_100 rfl (lv_at hl 2 rfl) ?_
      refine va_get (D := D) (ci := 2) (v := .ref a11) (C := R_PA) (T := F_PA) (N := 12) hx hb hts i_PA hown hK hP 0 rfl rfl 11 (by decide) (hts _ q_77) (fun _ h9 => h9) rfl d_PA_tryToPay_101 ?_
      refine lv_iload_n hx hb d_PA_tryToPay_104 rfl (lv_at hl 3 rfl) ?_
      refine lv_aload_n hx hb d_PA_tryToPay_105 rfl (lv_at hl 2 rfl) ?_
      refine va_get (D := D) (ci := 2) (v := .ref a11) (C := R_PA) (T := F_PA) (N := 12) hx hb hts i_PA hown hK hP 0 rfl rfl 11 (by decide) (hts _ q_77) (fun _ h9 => h9) rfl d_PA_tryToPay_106 ?_
      refine lv_iload_n hx hb d_PA_tryToPay_109 rfl (lv_at hl 3 rfl) ?_
      refine my_ldI hx hb hK hP 3 rfl j rfl (by omega) (by decide) d_PA_tryToPay_110 ?_
      refine lv_iload hx hb d_PA_tryToPay_111 (lv_at hl 1 rfl) ?_
      refine lv_iload_n hx hb d_PA_tryToPay_113 rfl (lv_at hl 5 rfl) ?_
      refine lv_isub hx hb d_PA_tryToPay_114 ?_
      refine va_mmin hx hb (hml.trans hl.1.symm) hown (hts _ q_596) (hts _ q_554) (hts _ q_9) (hts _ q_555) (Nat.le_of_ble_eq_true rfl) (Nat.le_of_ble_eq_true rfl) (Nat.le_of_ble_eq_true rfl) (Nat.le_of_ble_eq_true rfl) d_PA_tryToPay_115 ?_
      refine lv_topi (fun v_18 ev_18 => ?_)
      refine my_stI hx hb hK hP hD hS 3 rfl j rfl (by omega) (by decide) d_PA_tryToPay_118 (fun H_19 locs hP hD hS => ?_)
      have hP : va_P D vwCl [(a0, .inr (2, [.int (nI np), .ref a1, .ref a2, .ref a3, .ref a4, .ref a5, .ref a6, .ref a7, .ref a8, .ref a9, .ref a10, .ref a11])), (a2, .inl (cI, 24, .inl SI)), (a10, .inl (cI, 12, .inl LE)), (a11, .inl (cI, 12, .inl (upd GR j v_18)))] H_19 := hP
      refine lv_goto (tgt := 143) hx hb d_PA_tryToPay_119 (by decide) ?_
      refine lv_iload hx hb d_PA_tryToPay_143 (lv_at hl 0 rfl) ?_
      have hr_20 : LE = tryL SI LE j t v := by unfold tryL; rw [if_neg nh_15, if_neg h_1]
      have hP : va_P D vwCl [(a0, .inr (2, [.int (nI np), .ref a1, .ref a2, .ref a3, .ref a4, .ref a5, .ref a6, .ref a7, .ref a8, .ref a9, .ref a10, .ref a11])), (a2, .inl (cI, 24, .inl SI)), (a10, .inl (cI, 12, .inl (tryL SI LE j t v))), (a11, .inl (cI, 12, .inl (upd GR j v_18)))] H_19 := by rw [← hr_20]; exact hP
      have hD : va_D A [(a0, .inr (2, [.int (nI np), .ref a1, .ref a2, .ref a3, .ref a4, .ref a5, .ref a6, .ref a7, .ref a8, .ref a9, .ref a10, .ref a11])), (a2, .inl (cI, 24, .inl SI)), (a10, .inl (cI, 12, .inl (tryL SI LE j t v))), (a11, .inl (cI, 12, .inl (upd GR j v_18)))] := by rw [← hr_20]; exact hD
      have hr_21 : (upd GR j v_18) = tryG SI GR j t v := by unfold tryG; rw [if_neg nh_15, if_neg h_1]; rw [ev_18]; rfl
      have hP : va_P D vwCl [(a0, .inr (2, [.int (nI np), .ref a1, .ref a2, .ref a3, .ref a4, .ref a5, .ref a6, .ref a7, .ref a8, .ref a9, .ref a10, .ref a11])), (a2, .inl (cI, 24, .inl SI)), (a10, .inl (cI, 12, .inl (tryL SI LE j t v))), (a11, .inl (cI, 12, .inl (tryG SI GR j t v)))] H_19 := by rw [← hr_21]; exact hP
      have hD : va_D A [(a0, .inr (2, [.int (nI np), .ref a1, .ref a2, .ref a3, .ref a4, .ref a5, .ref a6, .ref a7, .ref a8, .ref a9, .ref a10, .ref a11])), (a2, .inl (cI, 24, .inl SI)), (a10, .inl (cI, 12, .inl (tryL SI LE j t v))), (a11, .inl (cI, 12, .inl (tryG SI GR j t v)))] := by rw [← hr_21]; exact hD
      have hP : va_P D vwCl [(a0, .inr (2, [.int (nI np), .ref a1, .ref a2, .ref a3, .ref a4, .ref a5, .ref a6, .ref a7, .ref a8, .ref a9, .ref a10, .ref a11])), (a2, .inl (cI, 24, .inl SI)), (a10, .inl (cI, 12, .inl (tryL SI LE j t v))), (a11, .inl (cI, 12, .inl (tryG SI GR j t v)))] H_19 := hP
      have hP9 := hP.sub (ws' := [(a0, .inr (2, [.int (nI np), .ref a1, .ref a2, .ref a3, .ref a4, .ref a5, .ref a6, .ref a7, .ref a8, .ref a9, .ref a10, .ref a11])), (a2, .inl (cI, 24, .inl SI)), (a10, .inl (cI, 12, .inl (tryL SI LE j t v))), (a11, .inl (cI, 12, .inl (tryG SI GR j t v)))]) [0, 1, 2, 3] rfl
      have hD9 := hD.sub (ws' := [(a0, .inr (2, [.int (nI np), .ref a1, .ref a2, .ref a3, .ref a4, .ref a5, .ref a6, .ref a7, .ref a8, .ref a9, .ref a10, .ref a11])), (a2, .inl (cI, 24, .inl SI)), (a10, .inl (cI, 12, .inl (tryL SI LE j t v))), (a11, .inl (cI, 12, .inl (tryG SI GR j t v)))]) [0, 1, 2, 3] (by decide +kernel) rfl
      refine W.widen (k := 0) (n := 0) (Nat.le_of_ble_eq_true rfl) (Nat.le_of_ble_eq_true rfl) ?_
      exact W.zret (v := 1) hx hb hr rfl (fun tT ht hW => ⟨⟨1, (), rfl, (Or.inr (⟨h_1, rfl⟩)), by rw [ht]; exact hP9, hD9⟩, hS.F ht⟩) hS.2.2 d_PA_tryToPay_145
    · have nh_15 : t = 0 := (nI_eq (a := t) (b := 0) (by omega) (by omega)).mp h_15
      refine lv_iload hx hb d_PA_tryToPay_46 (lv_at hl 0 rfl) ?_
      refine lv_if_eq (tgt := 70) hx hb d_PA_tryToPay_48 (by decide) (fun h => absurd h (by decide)) (fun _ => ?_)
      refine lv_aload_n hx hb d_PA_tryToPay_51 rfl (lv_at hl 2 rfl) ?_
      refine va_get (D := D) (ci := 2) (v := .ref a10) (C := R_PA) (T := F_PA) (N := 12) hx hb hts i_PA hown hK hP 0 rfl rfl 10 (by decide) (hts _ q_75) (fun _ h9 => h9) rfl d_PA_tryToPay_52 ?_
      refine lv_iload_n hx hb d_PA_tryToPay_55 rfl (lv_at hl 3 rfl) ?_
      refine lv_aload_n hx hb d_PA_tryToPay_56 rfl (lv_at hl 2 rfl) ?_
      refine va_get (D := D) (ci := 2) (v := .ref a10) (C := R_PA) (T := F_PA) (N := 12) hx hb hts i_PA hown hK hP 0 rfl rfl 10 (by decide) (hts _ q_75) (fun _ h9 => h9) rfl d_PA_tryToPay_57 ?_
      refine lv_iload_n hx hb d_PA_tryToPay_60 rfl (lv_at hl 3 rfl) ?_
      refine my_ldI hx hb hK hP 2 rfl j rfl (by omega) (by decide) d_PA_tryToPay_61 ?_
      refine lv_iload_n hx hb d_PA_tryToPay_62 rfl (lv_at hl 5 rfl) ?_
      refine va_mmax hx hb (hml.trans hl.1.symm) hown (hts _ q_593) (hts _ q_594) (hts _ q_9) (hts _ q_595) (Nat.le_of_ble_eq_true rfl) (Nat.le_of_ble_eq_true rfl) (Nat.le_of_ble_eq_true rfl) (Nat.le_of_ble_eq_true rfl) d_PA_tryToPay_63 ?_
      refine lv_topi (fun v_23 ev_23 => ?_)
      refine my_stI hx hb hK hP hD hS 2 rfl j rfl (by omega) (by decide) d_PA_tryToPay_66 (fun H_24 locs hP hD hS => ?_)
      have hP : va_P D vwCl [(a0, .inr (2, [.int (nI np), .ref a1, .ref a2, .ref a3, .ref a4, .ref a5, .ref a6, .ref a7, .ref a8, .ref a9, .ref a10, .ref a11])), (a2, .inl (cI, 24, .inl SI)), (a10, .inl (cI, 12, .inl (upd LE j v_23))), (a11, .inl (cI, 12, .inl GR))] H_24 := hP
      refine lv_goto (tgt := 143) hx hb d_PA_tryToPay_67 (by decide) ?_
      refine lv_iload hx hb d_PA_tryToPay_143 (lv_at hl 0 rfl) ?_
      have hr_25 : (upd LE j v_23) = tryL SI LE j t v := by unfold tryL; rw [if_pos nh_15, if_neg h_1]; rw [ev_23]; rfl
      have hP : va_P D vwCl [(a0, .inr (2, [.int (nI np), .ref a1, .ref a2, .ref a3, .ref a4, .ref a5, .ref a6, .ref a7, .ref a8, .ref a9, .ref a10, .ref a11])), (a2, .inl (cI, 24, .inl SI)), (a10, .inl (cI, 12, .inl (tryL SI LE j t v))), (a11, .inl (cI, 12, .inl GR))] H_24 := by rw [← hr_25]; exact hP
      have hD : va_D A [(a0, .inr (2, [.int (nI np), .ref a1, .ref a2, .ref a3, .ref a4, .ref a5, .ref a6, .ref a7, .ref a8, .ref a9, .ref a10, .ref a11])), (a2, .inl (cI, 24, .inl SI)), (a10, .inl (cI, 12, .inl (tryL SI LE j t v))), (a11, .inl (cI, 12, .inl GR))] := by rw [← hr_25]; exact hD
      have hr_26 : GR = tryG SI GR j t v := by unfold tryG; rw [if_pos nh_15, if_neg h_1]
      have hP : va_P D vwCl [(a0, .inr (2, [.int (nI np), .ref a1, .ref a2, .ref a3, .ref a4, .ref a5, .ref a6, .ref a7, .ref a8, .ref a9, .ref a10, .ref a11])), (a2, .inl (cI, 24, .inl SI)), (a10, .inl (cI, 12, .inl (tryL SI LE j t v))), (a11, .inl (cI, 12, .inl (tryG SI GR j t v)))] H_24 := by rw [← hr_26]; exact hP
      have hD : va_D A [(a0, .inr (2, [.int (nI np), .ref a1, .ref a2, .ref a3, .ref a4, .ref a5, .ref a6, .ref a7, .ref a8, .ref a9, .ref a10, .ref a11])), (a2, .inl (cI, 24, .inl SI)), (a10, .inl (cI, 12, .inl (tryL SI LE j t v))), (a11, .inl (cI, 12, .inl (tryG SI GR j t v)))] := by rw [← hr_26]; exact hD
      have hP : va_P D vwCl [(a0, .inr (2, [.int (nI np), .ref a1, .ref a2, .ref a3, .ref a4, .ref a5, .ref a6, .ref a7, .ref a8, .ref a9, .ref a10, .ref a11])), (a2, .inl (cI, 24, .inl SI)), (a10, .inl (cI, 12, .inl (tryL SI LE j t v))), (a11, .inl (cI, 12, .inl (tryG SI GR j t v)))] H_24 := hP
      have hP9 := hP.sub (ws' := [(a0, .inr (2, [.int (nI np), .ref a1, .ref a2, .ref a3, .ref a4, .ref a5, .ref a6, .ref a7, .ref a8, .ref a9, .ref a10, .ref a11])), (a2, .inl (cI, 24, .inl SI)), (a10, .inl (cI, 12, .inl (tryL SI LE j t v))), (a11, .inl (cI, 12, .inl (tryG SI GR j t v)))]) [0, 1, 2, 3] rfl
      have hD9 := hD.sub (ws' := [(a0, .inr (2, [.int (nI np), .ref a1, .ref a2, .ref a3, .ref a4, .ref a5, .ref a6, .ref a7, .ref a8, .ref a9, .ref a10, .ref a11])), (a2, .inl (cI, 24, .inl SI)), (a10, .inl (cI, 12, .inl (tryL SI LE j t v))), (a11, .inl (cI, 12, .inl (tryG SI GR j t v)))]) [0, 1, 2, 3] (by decide +kernel) rfl
      refine W.widen (k := 0) (n := 0) (Nat.le_of_ble_eq_true rfl) (Nat.le_of_ble_eq_true rfl) ?_
      exact W.zret (v := 1) hx hb hr rfl (fun tT ht hW => ⟨⟨1, (), rfl, (Or.inr (⟨h_1, rfl⟩)), by rw [ht]; exact hP9, hD9⟩, hS.F ht⟩) hS.2.2 d_PA_tryToPay_145

set_option maxHeartbeats 4000000 in
set_option maxRecDepth 100000 in
theorem e_PA_add (l : Launch) (D : va_G) (cI cZ : ClassId) (a0 : Nat) (u : Nat) (v : Nat) (y : Int32) (z : Int32) (np : Nat) (a1 : Nat) (a2 : Nat) (a3 : Nat) (a4 : Nat) (a5 : Nat) (a6 : Nat) (a7 : Nat) (a8 : Nat) (a9 : Nat) (a10 : Nat) (a11 : Nat) (EP : Nat → Nat) (SI : Nat → Int32) (LK : Nat → Int32) (SS : Nat → Int32) (ST : Nat → Nat) (PH : Nat → Int32) (LE : Nat → Int32) (GR : Nat → Int32) (sz : Nat) (h_np : np ≤ 12) (h_EP : ∀ zz, EP zz ≤ 6) (h_ST : ∀ zz, ST zz ≤ 64) (hnp : np < 12) (hu : u ≤ 6) (hv : v ≤ 6) : Met l ⟨"PromiseChains$Pairs", "add", "(IIII)I"⟩ (mw ⟨"PromiseChains$Pairs", "add", "(IIII)I"⟩ prog_2_method_3_code 6 (some .int)) ({ frames := 1, cells := 0, slots := 0, locals := 23 }) (va_Pc [.ref a0, .int (nI u), .int (nI v), .int y, .int z] (PB D cI cZ sz [(a0, .inr (2, [.int (nI np), .ref a1, .ref a2, .ref a3, .ref a4, .ref a5, .ref a6, .ref a7, .ref a8, .ref a9, .ref a10, .ref a11])), (a1, .inl (cI, 24, .inl (fun zy => nI (EP zy)))), (a2, .inl (cI, 24, .inl SI)), (a3, .inl (cI, 24, .inl LK)), (a4, .inl (cI, 1536, .inl SS)), (a5, .inl (cI, 12, .inl (fun zy => nI (ST zy)))), (a6, .inl (cI, 12, .inl PH)), (a10, .inl (cI, 12, .inl LE)), (a11, .inl (cI, 12, .inl GR))])) (va_Qi (S := (Nat → Int32)) (fun (r : Int32) uU => r = nI np) (fun uU tT => BB D (va_A [(a0, .inr (2, [.int (nI np), .ref a1, .ref a2, .ref a3, .ref a4, .ref a5, .ref a6, .ref a7, .ref a8, .ref a9, .ref a10, .ref a11])), (a1, .inl (cI, 24, .inl (fun zy => nI (EP zy)))), (a2, .inl (cI, 24, .inl SI)), (a3, .inl (cI, 24, .inl LK)), (a4, .inl (cI, 1536, .inl SS)), (a5, .inl (cI, 12, .inl (fun zy => nI (ST zy)))), (a6, .inl (cI, 12, .inl PH)), (a10, .inl (cI, 12, .inl LE)), (a11, .inl (cI, 12, .inl GR))] sz) [(a0, .inr (2, [.int (nI (np + 1)), .ref a1, .ref a2, .ref a3, .ref a4, .ref a5, .ref a6, .ref a7, .ref a8, .ref a9, .ref a10, .ref a11])), (a1, .inl (cI, 24, .inl (fun zy => nI ((upN (upN EP (2 * np) u) (2 * np + 1) v) zy)))), (a2, .inl (cI, 24, .inl (upd (upd SI (2 * np) y) (2 * np + 1) z))), (a3, .inl (cI, 24, .inl (upd (upd LK (2 * np) 0) (2 * np + 1) 0))), (a4, .inl (cI, 1536, .inl (uU))), (a5, .inl (cI, 12, .inl (fun zy => nI ((upN (upN ST np 0) np (inc64 (upN ST np 0 np))) zy)))), (a6, .inl (cI, 12, .inl (upd PH np 0))), (a10, .inl (cI, 12, .inl (upd LE np 0))), (a11, .inl (cI, 12, .inl (upd GR np (y + z))))] tT) (va_A [(a0, .inr (2, [.int (nI np), .ref a1, .ref a2, .ref a3, .ref a4, .ref a5, .ref a6, .ref a7, .ref a8, .ref a9, .ref a10, .ref a11])), (a1, .inl (cI, 24, .inl (fun zy => nI (EP zy)))), (a2, .inl (cI, 24, .inl SI)), (a3, .inl (cI, 24, .inl LK)), (a4, .inl (cI, 1536, .inl SS)), (a5, .inl (cI, 12, .inl (fun zy => nI (ST zy)))), (a6, .inl (cI, 12, .inl PH)), (a10, .inl (cI, 12, .inl LE)), (a11, .inl (cI, 12, .inl GR))] sz)) 0 0 (va_A [(a0, .inr (2, [.int (nI np), .ref a1, .ref a2, .ref a3, .ref a4, .ref a5, .ref a6, .ref a7, .ref a8, .ref a9, .ref a10, .ref a11])), (a1, .inl (cI, 24, .inl (fun zy => nI (EP zy)))), (a2, .inl (cI, 24, .inl SI)), (a3, .inl (cI, 24, .inl LK)), (a4, .inl (cI, 1536, .inl SS)), (a5, .inl (cI, 12, .inl (fun zy => nI (ST zy)))), (a6, .inl (cI, 12, .inl PH)), (a10, .inl (cI, 12, .inl LE)), (a11, .inl (cI, 12, .inl GR))] sz) := by
  refine Met.ofW (cc := prog_2_method_3_code) (maxL := 6) (ret := (some .int)) (by decide) rfl ?_
  intro p e s m args below meth c s₁ B hml hv
  obtain ⟨rfl, hsz, hP, hK, hD0, hN⟩ := hv
  have hx := B.exec
  have hb := B.bytes
  have hr := B.returns
  have hts0 := atoms_spec (ws := mw ⟨"PromiseChains$Pairs", "add", "(IIII)I"⟩ prog_2_method_3_code 6 (some .int)) B.pre
  have hts : ∀ w ∈ tblG, w.before _ s = true := fun w h => hts0 w (List.mem_cons_of_mem _ h)
  have hown : s.vm.findClass "PromiseChains$Pairs" = some m.cls := findClass_of_methodNamed B.named
  have hlocks := B.notSynchronized
  subst hsz
  have hD := hD0.self (sz := s.heap.size)
  generalize hAe : va_A [(a0, .inr (2, [.int (nI np), .ref a1, .ref a2, .ref a3, .ref a4, .ref a5, .ref a6, .ref a7, .ref a8, .ref a9, .ref a10, .ref a11])), (a1, .inl (cI, 24, .inl (fun zy => nI (EP zy)))), (a2, .inl (cI, 24, .inl SI)), (a3, .inl (cI, 24, .inl LK)), (a4, .inl (cI, 1536, .inl SS)), (a5, .inl (cI, 12, .inl (fun zy => nI (ST zy)))), (a6, .inl (cI, 12, .inl PH)), (a10, .inl (cI, 12, .inl LE)), (a11, .inl (cI, 12, .inl GR))] s.heap.size = A at hD ⊢
  have hA : ∀ q : Nat, s.heap.size ≤ q → A q := fun q h => by rw [← hAe]; exact Or.inr h
  have hS : va_S A s.heap s.heap [] := va_S.rf
  have hP : va_P D vwCl [(a0, .inr (2, [.int (nI np), .ref a1, .ref a2, .ref a3, .ref a4, .ref a5, .ref a6, .ref a7, .ref a8, .ref a9, .ref a10, .ref a11])), (a1, .inl (cI, 24, .inl (fun zy => nI (EP zy)))), (a2, .inl (cI, 24, .inl SI)), (a3, .inl (cI, 24, .inl LK)), (a4, .inl (cI, 1536, .inl SS)), (a5, .inl (cI, 12, .inl (fun zy => nI (ST zy)))), (a6, .inl (cI, 12, .inl PH)), (a10, .inl (cI, 12, .inl LE)), (a11, .inl (cI, 12, .inl GR))] s.heap := hP
  have hl := lv_entry ([.ref a0, .int (nI u), .int (nI v), .int y, .int z]) (n := 6) (Nat.le_of_ble_eq_true rfl)
  rw [lg_entry_eq]
  generalize (lg_sl ([.ref a0, .int (nI u), .int (nI v), .int y, .int z]) ++ List.replicate (6 - (lg_sl ([.ref a0, .int (nI u), .int (nI v), .int y, .int z])).length) Slot.unset).toArray = ls at hl ⊢
  have hl : lv_has ls 6 [(0, .ref a0), (1, .int (nI u)), (2, .int (nI v)), (3, .int y), (4, .int z)] := hl
  refine lv_aload_n hx hb d_PA_add_0 rfl (lv_at hl 0 rfl) ?_
  refine va_get (D := D) (ci := 2) (v := .int (nI np)) (C := R_PA) (T := F_PA) (N := 12) hx hb hts i_PA hown hK hP 0 rfl rfl 0 (by decide) (hts _ q_56) (fun _ h9 => h9) rfl d_PA_add_1 ?_
  refine lv_istore (lv' := [(5, .int (nI np)), (0, .ref a0), (1, .int (nI u)), (2, .int (nI v)), (3, .int y), (4, .int z)]) hx hb d_PA_add_4 hl (by decide) rfl (fun ls hl => ?_)
  refine lv_aload_n hx hb d_PA_add_6 rfl (lv_at hl 1 rfl) ?_
  refine lv_dup hx hb d_PA_add_7 rfl ?_
  refine va_get (D := D) (ci := 2) (v := .int (nI np)) (C := R_PA) (T := F_PA) (N := 12) hx hb hts i_PA hown hK hP 0 rfl rfl 0 (by decide) (hts _ q_56) (fun _ h9 => h9) rfl d_PA_add_8 ?_
  refine lv_iconst (v := 1) hx hb d_PA_add_11 (by decide) ?_
  refine lv_iadd hx hb d_PA_add_12 ?_
  refine lv_seti (nI (np + 1)) (nI_add np 1) ?_
  refine va_put (D := D) (ci := 2) (v := .int (nI (np + 1))) (ty := .int) (C := R_PA) (T := F_PA) (N := 12) hx hb hts i_PA t_PA t_PA_ok n_PA hown hK hP hD hS 0 rfl rfl 0 (by decide) (hts _ q_56) (fun _ h9 => h9) rfl (by decide +kernel) rfl rfl (Nat.le_of_ble_eq_true rfl) d_PA_add_13 (fun H_1 locs hP hD hS => ?_)
  have hP : va_P D vwCl [(a0, .inr (2, [.int (nI (np + 1)), .ref a1, .ref a2, .ref a3, .ref a4, .ref a5, .ref a6, .ref a7, .ref a8, .ref a9, .ref a10, .ref a11])), (a1, .inl (cI, 24, .inl (fun zy => nI (EP zy)))), (a2, .inl (cI, 24, .inl SI)), (a3, .inl (cI, 24, .inl LK)), (a4, .inl (cI, 1536, .inl SS)), (a5, .inl (cI, 12, .inl (fun zy => nI (ST zy)))), (a6, .inl (cI, 12, .inl PH)), (a10, .inl (cI, 12, .inl LE)), (a11, .inl (cI, 12, .inl GR))] H_1 := hP
  refine lv_aload_n hx hb d_PA_add_16 rfl (lv_at hl 1 rfl) ?_
  refine va_get (D := D) (ci := 2) (v := .ref a1) (C := R_PA) (T := F_PA) (N := 12) hx hb hts i_PA hown hK hP 0 rfl rfl 1 (by decide) (hts _ q_58) (fun _ h9 => h9) rfl d_PA_add_17 ?_
  refine lv_iconst (v := 2) hx hb d_PA_add_20 (by decide) ?_
  refine lv_iload hx hb d_PA_add_21 (lv_at hl 0 rfl) ?_
  refine lv_imul hx hb d_PA_add_23 ?_
  refine lv_seti (nI (2 * np)) (pk_mul 2 np) ?_
  refine lv_iload_n hx hb d_PA_add_24 rfl (lv_at hl 2 rfl) ?_
  refine my_stN hx hb hK hP hD hS 1 rfl (2 * np) u rfl rfl (by omega) (by decide) d_PA_add_25 (fun H_2 locs hP hD hS => ?_)
  have hP : va_P D vwCl [(a0, .inr (2, [.int (nI (np + 1)), .ref a1, .ref a2, .ref a3, .ref a4, .ref a5, .ref a6, .ref a7, .ref a8, .ref a9, .ref a10, .ref a11])), (a1, .inl (cI, 24, .inl (fun zy => nI ((upN EP (2 * np) u) zy)))), (a2, .inl (cI, 24, .inl SI)), (a3, .inl (cI, 24, .inl LK)), (a4, .inl (cI, 1536, .inl SS)), (a5, .inl (cI, 12, .inl (fun zy => nI (ST zy)))), (a6, .inl (cI, 12, .inl PH)), (a10, .inl (cI, 12, .inl LE)), (a11, .inl (cI, 12, .inl GR))] H_2 := hP
  refine lv_aload_n hx hb d_PA_add_26 rfl (lv_at hl 1 rfl) ?_
  refine va_get (D := D) (ci := 2) (v := .ref a1) (C := R_PA) (T := F_PA) (N := 12) hx hb hts i_PA hown hK hP 0 rfl rfl 1 (by decide) (hts _ q_58) (fun _ h9 => h9) rfl d_PA_add_27 ?_
  refine lv_iconst (v := 2) hx hb d_PA_add_30 (by decide) ?_
  refine lv_iload hx hb d_PA_add_31 (lv_at hl 0 rfl) ?_
  refine lv_imul hx hb d_PA_add_33 ?_
  refine lv_seti (nI (2 * np)) (pk_mul 2 np) ?_
  refine lv_iconst (v := 1) hx hb d_PA_add_34 (by decide) ?_
  refine lv_iadd hx hb d_PA_add_35 ?_
  refine lv_seti (nI ((2 * np) + 1)) (nI_add (2 * np) 1) ?_
  refine lv_iload_n hx hb d_PA_add_36 rfl (lv_at hl 3 rfl) ?_
  refine my_stN hx hb hK hP hD hS 1 rfl ((2 * np) + 1) v rfl rfl (by omega) (by decide) d_PA_add_37 (fun H_3 locs hP hD hS => ?_)
  have hP : va_P D vwCl [(a0, .inr (2, [.int (nI (np + 1)), .ref a1, .ref a2, .ref a3, .ref a4, .ref a5, .ref a6, .ref a7, .ref a8, .ref a9, .ref a10, .ref a11])), (a1, .inl (cI, 24, .inl (fun zy => nI ((upN (upN EP (2 * np) u) ((2 * np) + 1) v) zy)))), (a2, .inl (cI, 24, .inl SI)), (a3, .inl (cI, 24, .inl LK)), (a4, .inl (cI, 1536, .inl SS)), (a5, .inl (cI, 12, .inl (fun zy => nI (ST zy)))), (a6, .inl (cI, 12, .inl PH)), (a10, .inl (cI, 12, .inl LE)), (a11, .inl (cI, 12, .inl GR))] H_3 := hP
  refine lv_aload_n hx hb d_PA_add_38 rfl (lv_at hl 1 rfl) ?_
  refine va_get (D := D) (ci := 2) (v := .ref a3) (C := R_PA) (T := F_PA) (N := 12) hx hb hts i_PA hown hK hP 0 rfl rfl 3 (by decide) (hts _ q_64) (fun _ h9 => h9) rfl d_PA_add_39 ?_
  refine lv_iconst (v := 2) hx hb d_PA_add_42 (by decide) ?_
  refine lv_iload hx hb d_PA_add_43 (lv_at hl 0 rfl) ?_
  refine lv_imul hx hb d_PA_add_45 ?_
  refine lv_seti (nI (2 * np)) (pk_mul 2 np) ?_
  refine lv_iconst (v := 0) hx hb d_PA_add_46 (by decide) ?_
  refine my_stI hx hb hK hP hD hS 3 rfl (2 * np) rfl (by omega) (by decide) d_PA_add_47 (fun H_4 locs hP hD hS => ?_)
  have hP : va_P D vwCl [(a0, .inr (2, [.int (nI (np + 1)), .ref a1, .ref a2, .ref a3, .ref a4, .ref a5, .ref a6, .ref a7, .ref a8, .ref a9, .ref a10, .ref a11])), (a1, .inl (cI, 24, .inl (fun zy => nI ((upN (upN EP (2 * np) u) ((2 * np) + 1) v) zy)))), (a2, .inl (cI, 24, .inl SI)), (a3, .inl (cI, 24, .inl (upd LK (2 * np) 0))), (a4, .inl (cI, 1536, .inl SS)), (a5, .inl (cI, 12, .inl (fun zy => nI (ST zy)))), (a6, .inl (cI, 12, .inl PH)), (a10, .inl (cI, 12, .inl LE)), (a11, .inl (cI, 12, .inl GR))] H_4 := hP
  refine lv_aload_n hx hb d_PA_add_48 rfl (lv_at hl 1 rfl) ?_
  refine va_get (D := D) (ci := 2) (v := .ref a3) (C := R_PA) (T := F_PA) (N := 12) hx hb hts i_PA hown hK hP 0 rfl rfl 3 (by decide) (hts _ q_64) (fun _ h9 => h9) rfl d_PA_add_49 ?_
  refine lv_iconst (v := 2) hx hb d_PA_add_52 (by decide) ?_
  refine lv_iload hx hb d_PA_add_53 (lv_at hl 0 rfl) ?_
  refine lv_imul hx hb d_PA_add_55 ?_
  refine lv_seti (nI (2 * np)) (pk_mul 2 np) ?_
  refine lv_iconst (v := 1) hx hb d_PA_add_56 (by decide) ?_
  refine lv_iadd hx hb d_PA_add_57 ?_
  refine lv_seti (nI ((2 * np) + 1)) (nI_add (2 * np) 1) ?_
  refine lv_iconst (v := 0) hx hb d_PA_add_58 (by decide) ?_
  refine my_stI hx hb hK hP hD hS 3 rfl ((2 * np) + 1) rfl (by omega) (by decide) d_PA_add_59 (fun H_5 locs hP hD hS => ?_)
  have hP : va_P D vwCl [(a0, .inr (2, [.int (nI (np + 1)), .ref a1, .ref a2, .ref a3, .ref a4, .ref a5, .ref a6, .ref a7, .ref a8, .ref a9, .ref a10, .ref a11])), (a1, .inl (cI, 24, .inl (fun zy => nI ((upN (upN EP (2 * np) u) ((2 * np) + 1) v) zy)))), (a2, .inl (cI, 24, .inl SI)), (a3, .inl (cI, 24, .inl (upd (upd LK (2 * np) 0) ((2 * np) + 1) 0))), (a4, .inl (cI, 1536, .inl SS)), (a5, .inl (cI, 12, .inl (fun zy => nI (ST zy)))), (a6, .inl (cI, 12, .inl PH)), (a10, .inl (cI, 12, .inl LE)), (a11, .inl (cI, 12, .inl GR))] H_5 := hP
  refine lv_aload_n hx hb d_PA_add_60 rfl (lv_at hl 1 rfl) ?_
  refine va_get (D := D) (ci := 2) (v := .ref a5) (C := R_PA) (T := F_PA) (N := 12) hx hb hts i_PA hown hK hP 0 rfl rfl 5 (by decide) (hts _ q_67) (fun _ h9 => h9) rfl d_PA_add_61 ?_
  refine lv_iload hx hb d_PA_add_64 (lv_at hl 0 rfl) ?_
  refine lv_iconst (v := 0) hx hb d_PA_add_66 (by decide) ?_
  refine my_stN hx hb hK hP hD hS 5 rfl np 0 rfl rfl (by omega) (by decide) d_PA_add_67 (fun H_6 locs hP hD hS => ?_)
  have hP : va_P D vwCl [(a0, .inr (2, [.int (nI (np + 1)), .ref a1, .ref a2, .ref a3, .ref a4, .ref a5, .ref a6, .ref a7, .ref a8, .ref a9, .ref a10, .ref a11])), (a1, .inl (cI, 24, .inl (fun zy => nI ((upN (upN EP (2 * np) u) ((2 * np) + 1) v) zy)))), (a2, .inl (cI, 24, .inl SI)), (a3, .inl (cI, 24, .inl (upd (upd LK (2 * np) 0) ((2 * np) + 1) 0))), (a4, .inl (cI, 1536, .inl SS)), (a5, .inl (cI, 12, .inl (fun zy => nI ((upN ST np 0) zy)))), (a6, .inl (cI, 12, .inl PH)), (a10, .inl (cI, 12, .inl LE)), (a11, .inl (cI, 12, .inl GR))] H_6 := hP
  refine lv_aload_n hx hb d_PA_add_68 rfl (lv_at hl 1 rfl) ?_
  refine va_get (D := D) (ci := 2) (v := .ref a6) (C := R_PA) (T := F_PA) (N := 12) hx hb hts i_PA hown hK hP 0 rfl rfl 6 (by decide) (hts _ q_69) (fun _ h9 => h9) rfl d_PA_add_69 ?_
  refine lv_iload hx hb d_PA_add_72 (lv_at hl 0 rfl) ?_
  refine lv_iconst (v := 0) hx hb d_PA_add_74 (by decide) ?_
  refine my_stI hx hb hK hP hD hS 6 rfl np rfl (by omega) (by decide) d_PA_add_75 (fun H_7 locs hP hD hS => ?_)
  have hP : va_P D vwCl [(a0, .inr (2, [.int (nI (np + 1)), .ref a1, .ref a2, .ref a3, .ref a4, .ref a5, .ref a6, .ref a7, .ref a8, .ref a9, .ref a10, .ref a11])), (a1, .inl (cI, 24, .inl (fun zy => nI ((upN (upN EP (2 * np) u) ((2 * np) + 1) v) zy)))), (a2, .inl (cI, 24, .inl SI)), (a3, .inl (cI, 24, .inl (upd (upd LK (2 * np) 0) ((2 * np) + 1) 0))), (a4, .inl (cI, 1536, .inl SS)), (a5, .inl (cI, 12, .inl (fun zy => nI ((upN ST np 0) zy)))), (a6, .inl (cI, 12, .inl (upd PH np 0))), (a10, .inl (cI, 12, .inl LE)), (a11, .inl (cI, 12, .inl GR))] H_7 := hP
  refine lv_aload_n hx hb d_PA_add_76 rfl (lv_at hl 1 rfl) ?_
  refine lv_iload hx hb d_PA_add_77 (lv_at hl 0 rfl) ?_
  refine lv_iload_n hx hb d_PA_add_79 rfl (lv_at hl 4 rfl) ?_
  refine lv_iload hx hb d_PA_add_80 (lv_at hl 5 rfl) ?_
  have hPc := hP.sub (ws' := [(a0, .inr (2, [.int (nI (np + 1)), .ref a1, .ref a2, .ref a3, .ref a4, .ref a5, .ref a6, .ref a7, .ref a8, .ref a9, .ref a10, .ref a11])), (a2, .inl (cI, 24, .inl SI)), (a10, .inl (cI, 12, .inl LE)), (a11, .inl (cI, 12, .inl GR))]) [0, 2, 7, 8] rfl
  have hDc := hD.sub (ws' := [(a0, .inr (2, [.int (nI (np + 1)), .ref a1, .ref a2, .ref a3, .ref a4, .ref a5, .ref a6, .ref a7, .ref a8, .ref a9, .ref a10, .ref a11])), (a2, .inl (cI, 24, .inl SI)), (a10, .inl (cI, 12, .inl LE)), (a11, .inl (cI, 12, .inl GR))]) [0, 2, 7, 8] (by decide +kernel) rfl
  have hFc := va_free (wc := [(a0, .inr (2, [.int (nI (np + 1)), .ref a1, .ref a2, .ref a3, .ref a4, .ref a5, .ref a6, .ref a7, .ref a8, .ref a9, .ref a10, .ref a11])), (a2, .inl (cI, 24, .inl SI)), (a10, .inl (cI, 12, .inl LE)), (a11, .inl (cI, 12, .inl GR))]) hD hS hA [0, 2, 7, 8] rfl
  refine va_callv (va_runV (As := [.int (nI np), .int y, .int z]) (rest := []) ⟨hx, hb, hml, hown, hts⟩ (e_PA_setSides l D cI cZ a0 np y z (np + 1) a1 a2 a3 a4 a5 a6 a7 a8 a9 a10 a11 SI LE GR H_7.size (by first | omega | (dsimp only; omega)) hnp) (my_cwV 3 hts q_312 q_309 q_310 q_311 q_3 rfl rfl (by decide +kernel) ⟨Nat.le_of_ble_eq_true rfl, Nat.le_of_ble_eq_true rfl⟩) (my_preV hPc hDc hK hN 2 0 rfl rfl) rfl rfl hl.1 rfl (lv_room (Nat.le_of_ble_eq_true rfl)) d_PA_add_82 ⟨Nat.le_of_ble_eq_true rfl, Nat.le_of_ble_eq_true rfl⟩) hS (fun q _ h => hFc q h) hFc (fun uU tT H_9 locs ht hvm hw_8 hB hz1 hk1 hS => ?_)
  obtain ⟨hP1, hD1⟩ := hB
  rw [ht] at hP1
  obtain ⟨hP, hD⟩ := va_join (wr := [(a1, .inl (cI, 24, .inl (fun zy => nI ((upN (upN EP (2 * np) u) ((2 * np) + 1) v) zy)))), (a3, .inl (cI, 24, .inl (upd (upd LK (2 * np) 0) ((2 * np) + 1) 0))), (a4, .inl (cI, 1536, .inl SS)), (a5, .inl (cI, 12, .inl (fun zy => nI ((upN ST np 0) zy)))), (a6, .inl (cI, 12, .inl (upd PH np 0)))]) (w1 := [(a0, .inr (2, [.int (nI (np + 1)), .ref a1, .ref a2, .ref a3, .ref a4, .ref a5, .ref a6, .ref a7, .ref a8, .ref a9, .ref a10, .ref a11])), (a2, .inl (cI, 24, .inl (upd (upd SI (2 * np) y) (2 * np + 1) z))), (a10, .inl (cI, 12, .inl (upd LE np 0))), (a11, .inl (cI, 12, .inl (upd GR np (y + z))))]) hP hD [0, 2, 7, 8] [1, 3, 4, 5, 6] rfl rfl (by decide +kernel) (by decide +kernel) hk1 hFc hP1 hD1
  have hP : va_P D vwCl [(a1, .inl (cI, 24, .inl (fun zy => nI ((upN (upN EP (2 * np) u) ((2 * np) + 1) v) zy)))), (a3, .inl (cI, 24, .inl (upd (upd LK (2 * np) 0) ((2 * np) + 1) 0))), (a4, .inl (cI, 1536, .inl SS)), (a5, .inl (cI, 12, .inl (fun zy => nI ((upN ST np 0) zy)))), (a6, .inl (cI, 12, .inl (upd PH np 0))), (a0, .inr (2, [.int (nI (np + 1)), .ref a1, .ref a2, .ref a3, .ref a4, .ref a5, .ref a6, .ref a7, .ref a8, .ref a9, .ref a10, .ref a11])), (a2, .inl (cI, 24, .inl (upd (upd SI (2 * np) y) (2 * np + 1) z))), (a10, .inl (cI, 12, .inl (upd LE np 0))), (a11, .inl (cI, 12, .inl (upd GR np (y + z))))] H_9 := hP
  refine lv_aload_n hx hb d_PA_add_85 rfl (lv_at hl 1 rfl) ?_
  refine lv_iload hx hb d_PA_add_86 (lv_at hl 0 rfl) ?_
  have hPc := hP.sub (ws' := [(a0, .inr (2, [.int (nI (np + 1)), .ref a1, .ref a2, .ref a3, .ref a4, .ref a5, .ref a6, .ref a7, .ref a8, .ref a9, .ref a10, .ref a11])), (a2, .inl (cI, 24, .inl (upd (upd SI (2 * np) y) (2 * np + 1) z))), (a3, .inl (cI, 24, .inl (upd (upd LK (2 * np) 0) ((2 * np) + 1) 0))), (a4, .inl (cI, 1536, .inl SS)), (a5, .inl (cI, 12, .inl (fun zy => nI ((upN ST np 0) zy))))]) [5, 6, 1, 2, 3] rfl
  have hDc := hD.sub (ws' := [(a0, .inr (2, [.int (nI (np + 1)), .ref a1, .ref a2, .ref a3, .ref a4, .ref a5, .ref a6, .ref a7, .ref a8, .ref a9, .ref a10, .ref a11])), (a2, .inl (cI, 24, .inl (upd (upd SI (2 * np) y) (2 * np + 1) z))), (a3, .inl (cI, 24, .inl (upd (upd LK (2 * np) 0) ((2 * np) + 1) 0))), (a4, .inl (cI, 1536, .inl SS)), (a5, .inl (cI, 12, .inl (fun zy => nI ((upN ST np 0) zy))))]) [5, 6, 1, 2, 3] (by decide +kernel) rfl
  have hFc := va_free (wc := [(a0, .inr (2, [.int (nI (np + 1)), .ref a1, .ref a2, .ref a3, .ref a4, .ref a5, .ref a6, .ref a7, .ref a8, .ref a9, .ref a10, .ref a11])), (a2, .inl (cI, 24, .inl (upd (upd SI (2 * np) y) (2 * np + 1) z))), (a3, .inl (cI, 24, .inl (upd (upd LK (2 * np) 0) ((2 * np) + 1) 0))), (a4, .inl (cI, 1536, .inl SS)), (a5, .inl (cI, 12, .inl (fun zy => nI ((upN ST np 0) zy))))]) hD hS hA [5, 6, 1, 2, 3] rfl
  refine va_callv (va_runV (As := [.int (nI np)]) (rest := []) ⟨hx, hb, hml, hown, hts⟩ (e_PA_addState l D cI cZ a0 np (np + 1) a1 a2 a3 a4 a5 a6 a7 a8 a9 a10 a11 (upd (upd SI (2 * np) y) (2 * np + 1) z) (upd (upd LK (2 * np) 0) ((2 * np) + 1) 0) SS (upN ST np 0) H_9.size (by first | omega | (dsimp only; omega)) (upN_le h_ST (by omega)) hnp) (my_cwV 1 hts q_316 q_313 q_314 q_315 q_3 rfl rfl (by decide +kernel) ⟨Nat.le_of_ble_eq_true rfl, Nat.le_of_ble_eq_true rfl⟩) (my_preV hPc hDc hK hN 2 0 rfl rfl) rfl rfl hl.1 rfl (lv_room (Nat.le_of_ble_eq_true rfl)) d_PA_add_88 ⟨Nat.le_of_ble_eq_true rfl, Nat.le_of_ble_eq_true rfl⟩) hS (fun q _ h => hFc q h) hFc (fun uU tT H_11 locs ht hvm hw_10 hB hz1 hk1 hS => ?_)
  obtain ⟨SS_12, rfl⟩ : ∃ z, z = uU := ⟨_, rfl⟩
  obtain ⟨hP1, hD1⟩ := hB
  rw [ht] at hP1
  obtain ⟨hP, hD⟩ := va_join (wr := [(a1, .inl (cI, 24, .inl (fun zy => nI ((upN (upN EP (2 * np) u) ((2 * np) + 1) v) zy)))), (a6, .inl (cI, 12, .inl (upd PH np 0))), (a10, .inl (cI, 12, .inl (upd LE np 0))), (a11, .inl (cI, 12, .inl (upd GR np (y + z))))]) (w1 := [(a0, .inr (2, [.int (nI (np + 1)), .ref a1, .ref a2, .ref a3, .ref a4, .ref a5, .ref a6, .ref a7, .ref a8, .ref a9, .ref a10, .ref a11])), (a2, .inl (cI, 24, .inl (upd (upd SI (2 * np) y) (2 * np + 1) z))), (a3, .inl (cI, 24, .inl (upd (upd LK (2 * np) 0) ((2 * np) + 1) 0))), (a4, .inl (cI, 1536, .inl SS_12)), (a5, .inl (cI, 12, .inl (fun zy => nI ((upN (upN ST np 0) np (inc64 ((upN ST np 0) np))) zy))))]) hP hD [5, 6, 1, 2, 3] [0, 4, 7, 8] rfl rfl (by decide +kernel) (by decide +kernel) hk1 hFc hP1 hD1
  have hP : va_P D vwCl [(a1, .inl (cI, 24, .inl (fun zy => nI ((upN (upN EP (2 * np) u) ((2 * np) + 1) v) zy)))), (a6, .inl (cI, 12, .inl (upd PH np 0))), (a10, .inl (cI, 12, .inl (upd LE np 0))), (a11, .inl (cI, 12, .inl (upd GR np (y + z)))), (a0, .inr (2, [.int (nI (np + 1)), .ref a1, .ref a2, .ref a3, .ref a4, .ref a5, .ref a6, .ref a7, .ref a8, .ref a9, .ref a10, .ref a11])), (a2, .inl (cI, 24, .inl (upd (upd SI (2 * np) y) (2 * np + 1) z))), (a3, .inl (cI, 24, .inl (upd (upd LK (2 * np) 0) ((2 * np) + 1) 0))), (a4, .inl (cI, 1536, .inl SS_12)), (a5, .inl (cI, 12, .inl (fun zy => nI ((upN (upN ST np 0) np (inc64 ((upN ST np 0) np))) zy))))] H_11 := hP
  refine lv_iload hx hb d_PA_add_91 (lv_at hl 0 rfl) ?_
  have hP9 := hP.sub (ws' := [(a0, .inr (2, [.int (nI (np + 1)), .ref a1, .ref a2, .ref a3, .ref a4, .ref a5, .ref a6, .ref a7, .ref a8, .ref a9, .ref a10, .ref a11])), (a1, .inl (cI, 24, .inl (fun zy => nI ((upN (upN EP (2 * np) u) (2 * np + 1) v) zy)))), (a2, .inl (cI, 24, .inl (upd (upd SI (2 * np) y) (2 * np + 1) z))), (a3, .inl (cI, 24, .inl (upd (upd LK (2 * np) 0) (2 * np + 1) 0))), (a4, .inl (cI, 1536, .inl SS_12)), (a5, .inl (cI, 12, .inl (fun zy => nI ((upN (upN ST np 0) np (inc64 (upN ST np 0 np))) zy)))), (a6, .inl (cI, 12, .inl (upd PH np 0))), (a10, .inl (cI, 12, .inl (upd LE np 0))), (a11, .inl (cI, 12, .inl (upd GR np (y + z))))]) [4, 0, 5, 6, 7, 8, 1, 2, 3] rfl
  have hD9 := hD.sub (ws' := [(a0, .inr (2, [.int (nI (np + 1)), .ref a1, .ref a2, .ref a3, .ref a4, .ref a5, .ref a6, .ref a7, .ref a8, .ref a9, .ref a10, .ref a11])), (a1, .inl (cI, 24, .inl (fun zy => nI ((upN (upN EP (2 * np) u) (2 * np + 1) v) zy)))), (a2, .inl (cI, 24, .inl (upd (upd SI (2 * np) y) (2 * np + 1) z))), (a3, .inl (cI, 24, .inl (upd (upd LK (2 * np) 0) (2 * np + 1) 0))), (a4, .inl (cI, 1536, .inl SS_12)), (a5, .inl (cI, 12, .inl (fun zy => nI ((upN (upN ST np 0) np (inc64 (upN ST np 0 np))) zy)))), (a6, .inl (cI, 12, .inl (upd PH np 0))), (a10, .inl (cI, 12, .inl (upd LE np 0))), (a11, .inl (cI, 12, .inl (upd GR np (y + z))))]) [4, 0, 5, 6, 7, 8, 1, 2, 3] (by decide +kernel) rfl
  refine W.widen (k := 0) (n := 0) (Nat.le_of_ble_eq_true rfl) (Nat.le_of_ble_eq_true rfl) ?_
  exact W.iret (v := (nI np)) hx hb hr (fun tT ht hW => ⟨⟨(nI np), SS_12, rfl, rfl, by rw [ht]; exact hP9, hD9⟩, hS.F ht⟩) hS.2.2 d_PA_add_93
