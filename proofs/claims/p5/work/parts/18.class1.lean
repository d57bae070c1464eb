theorem isw_N {v : Int32} {N : Nat} (hN : N < 2 ^ 31) (h : ¬ isw v 0 (nI N) = 0) : ∃ j : Nat, j ≤ N ∧ v = nI j := isw_K (nI_toInt hN) h
theorem isw_lo {v a b : Int32} {K : Nat} (ha : 0 ≤ a.toInt) (hb : b.toInt = K) (h : ¬ isw v a b = 0) : ∃ N : Nat, N ≤ K ∧ v = nI N := by
  obtain ⟨h1, h2⟩ := isw_ge h
  have h3 := Int32.le_iff_toInt_le.mp h1
  have e0 : (0 : Int32).toInt = 0 := rfl
  exact nI_of2 hb (by rw [Int32.lt_iff_toInt_lt]; omega) h2
def gp_people (n : Int32) : Int32 := if isw n 2 7 = 0 then -2 else 1
def gp_pair (nn np : Nat) (a b u v : Int32) : Int32 := if isw a 0 (nI nn - 1) = 0 ∨ isw b 0 (nI nn - 1) = 0 ∨ a = b ∨ isw u 0 100000 = 0 ∨ isw v 0 100000 = 0 then -2 else if np < 12 then nI np else -4
def gp_fee (nn : Nat) (a u v : Int32) : Int32 := if isw a 0 (nI nn - 1) = 0 ∨ isw u 0 100 = 0 ∨ isw v 0 100 = 0 then -2 else 1
def gp_set (g v : Int32) : Int32 := if isw v 1 50 = 0 then -2 else g
theorem d_PC_people_0 : decode prog_1_method_2_code 0 = .ok (.iload_n 1, 1) := by decide +kernel
theorem d_PC_people_1 : decode prog_1_method_2_code 1 = .ok (.iconst 2, 1) := by decide +kernel
theorem d_PC_people_2 : decode prog_1_method_2_code 2 = .ok (.bipush 7, 2) := by decide +kernel
theorem d_PC_people_4 : decode prog_1_method_2_code 4 = .ok (.invokestatic 65, 3) := by decide +kernel
theorem d_PC_people_7 : decode prog_1_method_2_code 7 = .ok (.ifCond .ne 6, 3) := by decide +kernel
theorem d_PC_people_13 : decode prog_1_method_2_code 13 = .ok (.aload_n 0, 1) := by decide +kernel
theorem d_PC_people_14 : decode prog_1_method_2_code 14 = .ok (.getfield 12, 3) := by decide +kernel
theorem d_PC_people_17 : decode prog_1_method_2_code 17 = .ok (.iload_n 1, 1) := by decide +kernel
theorem d_PC_people_18 : decode prog_1_method_2_code 18 = .ok (.invokevirtual 61, 3) := by decide +kernel
theorem d_PC_people_21 : decode prog_1_method_2_code 21 = .ok (.aload_n 0, 1) := by decide +kernel
theorem d_PC_people_22 : decode prog_1_method_2_code 22 = .ok (.getfield 19, 3) := by decide +kernel
theorem d_PC_people_25 : decode prog_1_method_2_code 25 = .ok (.iconst 0, 1) := by decide +kernel
theorem d_PC_people_26 : decode prog_1_method_2_code 26 = .ok (.putfield 69, 3) := by decide +kernel
theorem d_PC_people_29 : decode prog_1_method_2_code 29 = .ok (.aload_n 0, 1) := by decide +kernel
theorem d_PC_people_30 : decode prog_1_method_2_code 30 = .ok (.getfield 26, 3) := by decide +kernel
theorem d_PC_people_33 : decode prog_1_method_2_code 33 = .ok (.invokevirtual 72, 3) := by decide +kernel
theorem d_PC_people_36 : decode prog_1_method_2_code 36 = .ok (.aload_n 0, 1) := by decide +kernel
theorem d_PC_people_37 : decode prog_1_method_2_code 37 = .ok (.getfield 47, 3) := by decide +kernel
theorem d_PC_people_40 : decode prog_1_method_2_code 40 = .ok (.iconst 0, 1) := by decide +kernel
theorem d_PC_people_41 : decode prog_1_method_2_code 41 = .ok (.putfield 74, 3) := by decide +kernel
theorem d_PC_people_44 : decode prog_1_method_2_code 44 = .ok (.aload_n 0, 1) := by decide +kernel
theorem d_PC_people_45 : decode prog_1_method_2_code 45 = .ok (.iconst 0, 1) := by decide +kernel
theorem d_PC_people_46 : decode prog_1_method_2_code 46 = .ok (.putfield 51, 3) := by decide +kernel
theorem d_PC_people_49 : decode prog_1_method_2_code 49 = .ok (.iconst 1, 1) := by decide +kernel
theorem d_PC_people_50 : decode prog_1_method_2_code 50 = .ok (.ireturn, 1) := by decide +kernel
theorem d_PC_people_10 : decode prog_1_method_2_code 10 = .ok (.bipush (-2), 2) := by decide +kernel
theorem d_PC_people_12 : decode prog_1_method_2_code 12 = .ok (.ireturn, 1) := by decide +kernel
theorem d_PC_pair_0 : decode prog_1_method_3_code 0 = .ok (.aload_n 0, 1) := by decide +kernel
theorem d_PC_pair_1 : decode prog_1_method_3_code 1 = .ok (.getfield 12, 3) := by decide +kernel
theorem d_PC_pair_4 : decode prog_1_method_3_code 4 = .ok (.iload_n 1, 1) := by decide +kernel
theorem d_PC_pair_5 : decode prog_1_method_3_code 5 = .ok (.invokevirtual 77, 3) := by decide +kernel
theorem d_PC_pair_8 : decode prog_1_method_3_code 8 = .ok (.ifCond .eq 19, 3) := by decide +kernel
theorem d_PC_pair_27 : decode prog_1_method_3_code 27 = .ok (.bipush (-2), 2) := by decide +kernel
theorem d_PC_pair_29 : decode prog_1_method_3_code 29 = .ok (.ireturn, 1) := by decide +kernel
theorem d_PC_pair_11 : decode prog_1_method_3_code 11 = .ok (.aload_n 0, 1) := by decide +kernel
theorem d_PC_pair_12 : decode prog_1_method_3_code 12 = .ok (.getfield 12, 3) := by decide +kernel
theorem d_PC_pair_15 : decode prog_1_method_3_code 15 = .ok (.iload_n 2, 1) := by decide +kernel
theorem d_PC_pair_16 : decode prog_1_method_3_code 16 = .ok (.invokevirtual 77, 3) := by decide +kernel
theorem d_PC_pair_19 : decode prog_1_method_3_code 19 = .ok (.ifCond .eq 8, 3) := by decide +kernel
theorem d_PC_pair_22 : decode prog_1_method_3_code 22 = .ok (.iload_n 1, 1) := by decide +kernel
theorem d_PC_pair_23 : decode prog_1_method_3_code 23 = .ok (.iload_n 2, 1) := by decide +kernel
theorem d_PC_pair_24 : decode prog_1_method_3_code 24 = .ok (.if_icmp .ne 6, 3) := by decide +kernel
theorem d_PC_pair_30 : decode prog_1_method_3_code 30 = .ok (.iload_n 3, 1) := by decide +kernel
theorem d_PC_pair_31 : decode prog_1_method_3_code 31 = .ok (.iconst 0, 1) := by decide +kernel
theorem d_PC_pair_32 : decode prog_1_method_3_code 32 = .ok (.ldc 81, 2) := by decide +kernel
theorem d_PC_pair_34 : decode prog_1_method_3_code 34 = .ok (.invokestatic 65, 3) := by decide +kernel
theorem d_PC_pair_37 : decode prog_1_method_3_code 37 = .ok (.ifCond .eq 14, 3) := by decide +kernel
theorem d_PC_pair_51 : decode prog_1_method_3_code 51 = .ok (.bipush (-2), 2) := by decide +kernel
theorem d_PC_pair_53 : decode prog_1_method_3_code 53 = .ok (.ireturn, 1) := by decide +kernel
theorem d_PC_pair_40 : decode prog_1_method_3_code 40 = .ok (.iload 4, 2) := by decide +kernel
theorem d_PC_pair_42 : decode prog_1_method_3_code 42 = .ok (.iconst 0, 1) := by decide +kernel
theorem d_PC_pair_43 : decode prog_1_method_3_code 43 = .ok (.ldc 81, 2) := by decide +kernel
theorem d_PC_pair_45 : decode prog_1_method_3_code 45 = .ok (.invokestatic 65, 3) := by decide +kernel
theorem d_PC_pair_48 : decode prog_1_method_3_code 48 = .ok (.ifCond .ne 6, 3) := by decide +kernel
theorem d_PC_pair_54 : decode prog_1_method_3_code 54 = .ok (.aload_n 0, 1) := by decide +kernel
theorem d_PC_pair_55 : decode prog_1_method_3_code 55 = .ok (.getfield 19, 3) := by decide +kernel
theorem d_PC_pair_58 : decode prog_1_method_3_code 58 = .ok (.getfield 69, 3) := by decide +kernel
theorem d_PC_pair_61 : decode prog_1_method_3_code 61 = .ok (.bipush 12, 2) := by decide +kernel
theorem d_PC_pair_63 : decode prog_1_method_3_code 63 = .ok (.if_icmp .lt 6, 3) := by decide +kernel
theorem d_PC_pair_69 : decode prog_1_method_3_code 69 = .ok (.aload_n 0, 1) := by decide +kernel
theorem d_PC_pair_70 : decode prog_1_method_3_code 70 = .ok (.getfield 19, 3) := by decide +kernel
theorem d_PC_pair_73 : decode prog_1_method_3_code 73 = .ok (.iload_n 1, 1) := by decide +kernel
theorem d_PC_pair_74 : decode prog_1_method_3_code 74 = .ok (.iload_n 2, 1) := by decide +kernel
theorem d_PC_pair_75 : decode prog_1_method_3_code 75 = .ok (.iload_n 3, 1) := by decide +kernel
theorem d_PC_pair_76 : decode prog_1_method_3_code 76 = .ok (.iload 4, 2) := by decide +kernel
theorem d_PC_pair_78 : decode prog_1_method_3_code 78 = .ok (.invokevirtual 82, 3) := by decide +kernel
theorem d_PC_pair_81 : decode prog_1_method_3_code 81 = .ok (.ireturn, 1) := by decide +kernel
theorem d_PC_pair_66 : decode prog_1_method_3_code 66 = .ok (.bipush (-4), 2) := by decide +kernel
theorem d_PC_pair_68 : decode prog_1_method_3_code 68 = .ok (.ireturn, 1) := by decide +kernel
theorem d_PC_fee_0 : decode prog_1_method_4_code 0 = .ok (.aload_n 0, 1) := by decide +kernel
theorem d_PC_fee_1 : decode prog_1_method_4_code 1 = .ok (.getfield 12, 3) := by decide +kernel
theorem d_PC_fee_4 : decode prog_1_method_4_code 4 = .ok (.iload_n 1, 1) := by decide +kernel
theorem d_PC_fee_5 : decode prog_1_method_4_code 5 = .ok (.invokevirtual 77, 3) := by decide +kernel
theorem d_PC_fee_8 : decode prog_1_method_4_code 8 = .ok (.ifCond .eq 23, 3) := by decide +kernel
theorem d_PC_fee_31 : decode prog_1_method_4_code 31 = .ok (.bipush (-2), 2) := by decide +kernel
theorem d_PC_fee_33 : decode prog_1_method_4_code 33 = .ok (.ireturn, 1) := by decide +kernel
theorem d_PC_fee_11 : decode prog_1_method_4_code 11 = .ok (.iload_n 2, 1) := by decide +kernel
theorem d_PC_fee_12 : decode prog_1_method_4_code 12 = .ok (.iconst 0, 1) := by decide +kernel
theorem d_PC_fee_13 : decode prog_1_method_4_code 13 = .ok (.bipush 100, 2) := by decide +kernel
theorem d_PC_fee_15 : decode prog_1_method_4_code 15 = .ok (.invokestatic 65, 3) := by decide +kernel
theorem d_PC_fee_18 : decode prog_1_method_4_code 18 = .ok (.ifCond .eq 13, 3) := by decide +kernel
theorem d_PC_fee_21 : decode prog_1_method_4_code 21 = .ok (.iload_n 3, 1) := by decide +kernel
theorem d_PC_fee_22 : decode prog_1_method_4_code 22 = .ok (.iconst 0, 1) := by decide +kernel
theorem d_PC_fee_23 : decode prog_1_method_4_code 23 = .ok (.bipush 100, 2) := by decide +kernel
theorem d_PC_fee_25 : decode prog_1_method_4_code 25 = .ok (.invokestatic 65, 3) := by decide +kernel
theorem d_PC_fee_28 : decode prog_1_method_4_code 28 = .ok (.ifCond .ne 6, 3) := by decide +kernel
theorem d_PC_fee_34 : decode prog_1_method_4_code 34 = .ok (.aload_n 0, 1) := by decide +kernel
theorem d_PC_fee_35 : decode prog_1_method_4_code 35 = .ok (.getfield 12, 3) := by decide +kernel
theorem d_PC_fee_38 : decode prog_1_method_4_code 38 = .ok (.getfield 86, 3) := by decide +kernel
theorem d_PC_fee_41 : decode prog_1_method_4_code 41 = .ok (.iload_n 1, 1) := by decide +kernel
theorem d_PC_fee_42 : decode prog_1_method_4_code 42 = .ok (.iload_n 2, 1) := by decide +kernel
theorem d_PC_fee_43 : decode prog_1_method_4_code 43 = .ok (.iastore, 1) := by decide +kernel
theorem d_PC_fee_44 : decode prog_1_method_4_code 44 = .ok (.aload_n 0, 1) := by decide +kernel
theorem d_PC_fee_45 : decode prog_1_method_4_code 45 = .ok (.getfield 12, 3) := by decide +kernel
theorem d_PC_fee_48 : decode prog_1_method_4_code 48 = .ok (.getfield 90, 3) := by decide +kernel
theorem d_PC_fee_51 : decode prog_1_method_4_code 51 = .ok (.iload_n 1, 1) := by decide +kernel
theorem d_PC_fee_52 : decode prog_1_method_4_code 52 = .ok (.iload_n 3, 1) := by decide +kernel
theorem d_PC_fee_53 : decode prog_1_method_4_code 53 = .ok (.iastore, 1) := by decide +kernel
theorem d_PC_fee_54 : decode prog_1_method_4_code 54 = .ok (.iconst 1, 1) := by decide +kernel
theorem d_PC_fee_55 : decode prog_1_method_4_code 55 = .ok (.ireturn, 1) := by decide +kernel
theorem d_PC_gap_0 : decode prog_1_method_5_code 0 = .ok (.iload_n 1, 1) := by decide +kernel
theorem d_PC_gap_1 : decode prog_1_method_5_code 1 = .ok (.iconst 1, 1) := by decide +kernel
theorem d_PC_gap_2 : decode prog_1_method_5_code 2 = .ok (.bipush 50, 2) := by decide +kernel
theorem d_PC_gap_4 : decode prog_1_method_5_code 4 = .ok (.invokestatic 65, 3) := by decide +kernel
theorem d_PC_gap_7 : decode prog_1_method_5_code 7 = .ok (.ifCond .ne 6, 3) := by decide +kernel
theorem d_PC_gap_13 : decode prog_1_method_5_code 13 = .ok (.aload_n 0, 1) := by decide +kernel
theorem d_PC_gap_14 : decode prog_1_method_5_code 14 = .ok (.getfield 55, 3) := by decide +kernel
theorem d_PC_gap_17 : decode prog_1_method_5_code 17 = .ok (.istore_n 2, 1) := by decide +kernel
theorem d_PC_gap_18 : decode prog_1_method_5_code 18 = .ok (.aload_n 0, 1) := by decide +kernel
theorem d_PC_gap_19 : decode prog_1_method_5_code 19 = .ok (.iload_n 1, 1) := by decide +kernel
theorem d_PC_gap_20 : decode prog_1_method_5_code 20 = .ok (.putfield 55, 3) := by decide +kernel
theorem d_PC_gap_23 : decode prog_1_method_5_code 23 = .ok (.iload_n 2, 1) := by decide +kernel
theorem d_PC_gap_24 : decode prog_1_method_5_code 24 = .ok (.ireturn, 1) := by decide +kernel
theorem d_PC_gap_10 : decode prog_1_method_5_code 10 = .ok (.bipush (-2), 2) := by decide +kernel
theorem d_PC_gap_12 : decode prog_1_method_5_code 12 = .ok (.ireturn, 1) := by decide +kernel
theorem d_PC_look_0 : decode prog_1_method_6_code 0 = .ok (.iload_n 1, 1) := by decide +kernel
theorem d_PC_look_1 : decode prog_1_method_6_code 1 = .ok (.iconst 1, 1) := by decide +kernel
theorem d_PC_look_2 : decode prog_1_method_6_code 2 = .ok (.bipush 50, 2) := by decide +kernel
theorem d_PC_look_4 : decode prog_1_method_6_code 4 = .ok (.invokestatic 65, 3) := by decide +kernel
theorem d_PC_look_7 : decode prog_1_method_6_code 7 = .ok (.ifCond .ne 6, 3) := by decide +kernel
theorem d_PC_look_13 : decode prog_1_method_6_code 13 = .ok (.aload_n 0, 1) := by decide +kernel
theorem d_PC_look_14 : decode prog_1_method_6_code 14 = .ok (.getfield 58, 3) := by decide +kernel
theorem d_PC_look_17 : decode prog_1_method_6_code 17 = .ok (.istore_n 2, 1) := by decide +kernel
theorem d_PC_look_18 : decode prog_1_method_6_code 18 = .ok (.aload_n 0, 1) := by decide +kernel
theorem d_PC_look_19 : decode prog_1_method_6_code 19 = .ok (.iload_n 1, 1) := by decide +kernel
theorem d_PC_look_20 : decode prog_1_method_6_code 20 = .ok (.putfield 58, 3) := by decide +kernel
theorem d_PC_look_23 : decode prog_1_method_6_code 23 = .ok (.iload_n 2, 1) := by decide +kernel
theorem d_PC_look_24 : decode prog_1_method_6_code 24 = .ok (.ireturn, 1) := by decide +kernel
theorem d_PC_look_10 : decode prog_1_method_6_code 10 = .ok (.bipush (-2), 2) := by decide +kernel
theorem d_PC_look_12 : decode prog_1_method_6_code 12 = .ok (.ireturn, 1) := by decide +kernel
theorem d_PC_away_0 : decode prog_1_method_7_code 0 = .ok (.aload_n 0, 1) := by decide +kernel
theorem d_PC_away_1 : decode prog_1_method_7_code 1 = .ok (.getfield 12, 3) := by decide +kernel
theorem d_PC_away_4 : decode prog_1_method_7_code 4 = .ok (.iload_n 1, 1) := by decide +kernel
theorem d_PC_away_5 : decode prog_1_method_7_code 5 = .ok (.invokevirtual 77, 3) := by decide +kernel
theorem d_PC_away_8 : decode prog_1_method_7_code 8 = .ok (.ifCond .ne 6, 3) := by decide +kernel
theorem d_PC_away_11 : decode prog_1_method_7_code 11 = .ok (.bipush (-2), 2) := by decide +kernel
theorem d_PC_away_13 : decode prog_1_method_7_code 13 = .ok (.ireturn, 1) := by decide +kernel
theorem d_PC_away_14 : decode prog_1_method_7_code 14 = .ok (.aload_n 0, 1) := by decide +kernel
theorem d_PC_away_15 : decode prog_1_method_7_code 15 = .ok (.getfield 12, 3) := by decide +kernel
theorem d_PC_away_18 : decode prog_1_method_7_code 18 = .ok (.getfield 93, 3) := by decide +kernel
theorem d_PC_away_21 : decode prog_1_method_7_code 21 = .ok (.iload_n 1, 1) := by decide +kernel
theorem d_PC_away_22 : decode prog_1_method_7_code 22 = .ok (.baload, 1) := by decide +kernel
theorem d_PC_away_23 : decode prog_1_method_7_code 23 = .ok (.iload_n 2, 1) := by decide +kernel
theorem d_PC_away_24 : decode prog_1_method_7_code 24 = .ok (.if_icmp .ne 6, 3) := by decide +kernel
theorem d_PC_away_30 : decode prog_1_method_7_code 30 = .ok (.aload_n 0, 1) := by decide +kernel
theorem d_PC_away_31 : decode prog_1_method_7_code 31 = .ok (.getfield 12, 3) := by decide +kernel
theorem d_PC_away_34 : decode prog_1_method_7_code 34 = .ok (.getfield 93, 3) := by decide +kernel
theorem d_PC_away_37 : decode prog_1_method_7_code 37 = .ok (.iload_n 1, 1) := by decide +kernel
theorem d_PC_away_38 : decode prog_1_method_7_code 38 = .ok (.iload_n 2, 1) := by decide +kernel
theorem d_PC_away_39 : decode prog_1_method_7_code 39 = .ok (.bastore, 1) := by decide +kernel
theorem d_PC_away_40 : decode prog_1_method_7_code 40 = .ok (.iload_n 2, 1) := by decide +kernel
theorem d_PC_away_41 : decode prog_1_method_7_code 41 = .ok (.ifCond .eq 5, 3) := by decide +kernel
theorem d_PC_away_46 : decode prog_1_method_7_code 46 = .ok (.aload_n 0, 1) := by decide +kernel
theorem d_PC_away_47 : decode prog_1_method_7_code 47 = .ok (.getfield 26, 3) := by decide +kernel
theorem d_PC_away_50 : decode prog_1_method_7_code 50 = .ok (.aload_n 0, 1) := by decide +kernel
theorem d_PC_away_51 : decode prog_1_method_7_code 51 = .ok (.getfield 12, 3) := by decide +kernel
theorem d_PC_away_54 : decode prog_1_method_7_code 54 = .ok (.aload_n 0, 1) := by decide +kernel
theorem d_PC_away_55 : decode prog_1_method_7_code 55 = .ok (.getfield 19, 3) := by decide +kernel
theorem d_PC_away_58 : decode prog_1_method_7_code 58 = .ok (.aload_n 0, 1) := by decide +kernel
theorem d_PC_away_59 : decode prog_1_method_7_code 59 = .ok (.getfield 51, 3) := by decide +kernel
theorem d_PC_away_62 : decode prog_1_method_7_code 62 = .ok (.invokevirtual 97, 3) := by decide +kernel
theorem d_PC_away_65 : decode prog_1_method_7_code 65 = .ok (.istore_n 3, 1) := by decide +kernel
theorem d_PC_away_66 : decode prog_1_method_7_code 66 = .ok (.aload_n 0, 1) := by decide +kernel
theorem d_PC_away_67 : decode prog_1_method_7_code 67 = .ok (.getfield 19, 3) := by decide +kernel
theorem d_PC_away_70 : decode prog_1_method_7_code 70 = .ok (.aload_n 0, 1) := by decide +kernel
theorem d_PC_away_71 : decode prog_1_method_7_code 71 = .ok (.getfield 12, 3) := by decide +kernel
theorem d_PC_away_74 : decode prog_1_method_7_code 74 = .ok (.aload_n 0, 1) := by decide +kernel
theorem d_PC_away_75 : decode prog_1_method_7_code 75 = .ok (.getfield 51, 3) := by decide +kernel
theorem d_PC_away_78 : decode prog_1_method_7_code 78 = .ok (.invokevirtual 101, 3) := by decide +kernel
theorem d_PC_away_81 : decode prog_1_method_7_code 81 = .ok (.iload_n 3, 1) := by decide +kernel
theorem d_PC_away_82 : decode prog_1_method_7_code 82 = .ok (.ireturn, 1) := by decide +kernel
theorem d_PC_away_44 : decode prog_1_method_7_code 44 = .ok (.iconst 0, 1) := by decide +kernel
theorem d_PC_away_45 : decode prog_1_method_7_code 45 = .ok (.ireturn, 1) := by decide +kernel
theorem d_PC_away_27 : decode prog_1_method_7_code 27 = .ok (.bipush (-3), 2) := by decide +kernel
theorem d_PC_away_29 : decode prog_1_method_7_code 29 = .ok (.ireturn, 1) := by decide +kernel
set_option maxHeartbeats 4000000 in
set_option maxRecDepth 100000 in
theorem g_PE_begin (l : Launch) (D : va_G) (cI cZ : ClassId) (f0 : Nat) (u : Int32) (n0 : Int32) (f1 : Nat) (f2 : Nat) (f3 : Nat) (f4 : Nat) (FC : Nat → Int32) (FB : Nat → Int32) (FR : Nat → Int32) (FA : Nat → Int32) (sz : Nat)  : Met l ⟨"PromiseChains$People", "begin", "(I)V"⟩ (mw ⟨"PromiseChains$People", "begin", "(I)V"⟩ prog_3_method_2_code 3 none) ({ frames := 0, cells := 0, slots := 0, locals := 0 }) (va_Pc [.ref f0, .int u] (PB D cI cZ sz [(f0, .inr (1, [.int n0, .ref f1, .ref f2, .ref f3, .ref f4])), (f1, .inl (cI, 7, .inl FC)), (f2, .inl (cI, 7, .inl FB)), (f3, .inl (cI, 7, .inl FR)), (f4, .inl (cZ, 7, .inl FA))])) (va_Qv (S := (Nat → Int32) × (Nat → Int32) × (Nat → Int32) × (Nat → Int32)) (fun uU => True) (fun uU tT => BB D (va_A [(f0, .inr (1, [.int n0, .ref f1, .ref f2, .ref f3, .ref f4])), (f1, .inl (cI, 7, .inl FC)), (f2, .inl (cI, 7, .inl FB)), (f3, .inl (cI, 7, .inl FR)), (f4, .inl (cZ, 7, .inl FA))] sz) [(f0, .inr (1, [.int u, .ref f1, .ref f2, .ref f3, .ref f4])), (f1, .inl (cI, 7, .inl (uU.1))), (f2, .inl (cI, 7, .inl (uU.2.1))), (f3, .inl (cI, 7, .inl (uU.2.2.1))), (f4, .inl (cZ, 7, .inl (uU.2.2.2)))] tT) (va_A [(f0, .inr (1, [.int n0, .ref f1, .ref f2, .ref f3, .ref f4])), (f1, .inl (cI, 7, .inl FC)), (f2, .inl (cI, 7, .inl FB)), (f3, .inl (cI, 7, .inl FR)), (f4, .inl (cZ, 7, .inl FA))] sz)) 0 0 (va_A [(f0, .inr (1, [.int n0, .ref f1, .ref f2, .ref f3, .ref f4])), (f1, .inl (cI, 7, .inl FC)), (f2, .inl (cI, 7, .inl FB)), (f3, .inl (cI, 7, .inl FR)), (f4, .inl (cZ, 7, .inl FA))] sz) := by
  refine Met.ofW (cc := prog_3_method_2_code) (maxL := 3) (ret := none) (by decide) rfl ?_
  intro p e s m args below meth c s₁ B hml hv
  obtain ⟨rfl, hsz, hP, hK, hD0, hN⟩ := hv
  have hx := B.exec
  have hb := B.bytes
  have hr := B.returns
  have hts0 := atoms_spec (ws := mw ⟨"PromiseChains$People", "begin", "(I)V"⟩ prog_3_method_2_code 3 none) B.pre
  have hts : ∀ w ∈ tblG, w.before _ s = true := fun w h => hts0 w (List.mem_cons_of_mem _ h)
  have hown : s.vm.findClass "PromiseChains$People" = some m.cls := findClass_of_methodNamed B.named
  have hlocks := B.notSynchronized
  subst hsz
  have hD := hD0.self (sz := s.heap.size)
  generalize hAe : va_A [(f0, .inr (1, [.int n0, .ref f1, .ref f2, .ref f3, .ref f4])), (f1, .inl (cI, 7, .inl FC)), (f2, .inl (cI, 7, .inl FB)), (f3, .inl (cI, 7, .inl FR)), (f4, .inl (cZ, 7, .inl FA))] s.heap.size = A at hD ⊢
  have hA : ∀ q : Nat, s.heap.size ≤ q → A q := fun q h => by rw [← hAe]; exact Or.inr h
  have hS : va_S A s.heap s.heap [] := va_S.rf
  have hP : va_P D vwCl [(f0, .inr (1, [.int n0, .ref f1, .ref f2, .ref f3, .ref f4])), (f1, .inl (cI, 7, .inl FC)), (f2, .inl (cI, 7, .inl FB)), (f3, .inl (cI, 7, .inl FR)), (f4, .inl (cZ, 7, .inl FA))] s.heap := hP
  have hl := lv_entry ([.ref f0, .int u]) (n := 3) (Nat.le_of_ble_eq_true rfl)
  rw [lg_entry_eq]
  generalize (lg_sl ([.ref f0, .int u]) ++ List.replicate (3 - (lg_sl ([.ref f0, .int u])).length) Slot.unset).toArray = ls at hl ⊢
  have hl : lv_has ls 3 [(0, .ref f0), (1, .int u)] := hl
  refine lv_aload_n hx hb d_PE_begin_0 rfl (lv_at hl 0 rfl) ?_
  refine lv_iload_n hx hb d_PE_begin_1 rfl (lv_at hl 1 rfl) ?_
  refine va_put (D := D) (ci := 1) (v := .int u) (ty := .int) (C := R_PE) (T := F_PE) (N := 5) hx hb hts i_PE t_PE t_PE_ok n_PE hown hK hP hD hS 0 rfl rfl 0 (by decide) (hts _ q_24) (fun _ h9 => h9) rfl (by decide +kernel) rfl rfl (Nat.le_of_ble_eq_true rfl) d_PE_begin_2 (fun H_1 locs hP hD hS => ?_)
  have hP : va_P D vwCl [(f0, .inr (1, [.int u, .ref f1, .ref f2, .ref f3, .ref f4])), (f1, .inl (cI, 7, .inl FC)), (f2, .inl (cI, 7, .inl FB)), (f3, .inl (cI, 7, .inl FR)), (f4, .inl (cZ, 7, .inl FA))] H_1 := hP
  have hD : va_D A [(f0, .inr (1, [.int u, .ref f1, .ref f2, .ref f3, .ref f4])), (f1, .inl (cI, 7, .inl FC)), (f2, .inl (cI, 7, .inl FB)), (f3, .inl (cI, 7, .inl FR)), (f4, .inl (cZ, 7, .inl FA))] := hD
  refine lv_iconst (v := 0) hx hb d_PE_begin_5 (by decide) ?_
  refine lv_istore_n (lv' := [(2, .int 0), (0, .ref f0), (1, .int u)]) hx hb d_PE_begin_6 rfl hl (by decide) rfl (fun ls hl => ?_)
  refine W_loop (σ := Nat × (Nat → Int32) × (Nat → Int32) × (Nat → Int32) × (Nat → Int32)) (I := fun xX H locs ls => xX.1 ≤ 7 ∧ va_P D vwCl [(f0, .inr (1, [.int u, .ref f1, .ref f2, .ref f3, .ref f4])), (f1, .inl (cI, 7, .inl xX.2.1)), (f2, .inl (cI, 7, .inl xX.2.2.1)), (f3, .inl (cI, 7, .inl xX.2.2.2.1)), (f4, .inl (cZ, 7, .inl xX.2.2.2.2))] H ∧ va_D A [(f0, .inr (1, [.int u, .ref f1, .ref f2, .ref f3, .ref f4])), (f1, .inl (cI, 7, .inl xX.2.1)), (f2, .inl (cI, 7, .inl xX.2.2.1)), (f3, .inl (cI, 7, .inl xX.2.2.2.1)), (f4, .inl (cZ, 7, .inl xX.2.2.2.2))] ∧ va_S A s.heap H locs ∧ lv_has ls 3 [(2, .int (nI xX.1)), (1, .int u), (0, .ref f0)]) (μ := fun xX => 8 - xX.1) ?_ (0, FC, FB, FR, FA) ⟨(by first | omega | (dsimp only; omega)), hP, hD, hS, lv_sub hl [0, 2, 1] rfl⟩
  intro xX H_2 locs ls hI ih1
  obtain ⟨i_l, FC_1, FB_1, FR_1, FA_1⟩ := xX
  obtain ⟨hi, hP, hD, hS, hl⟩ := hI
  have hP : va_P D vwCl [(f0, .inr (1, [.int u, .ref f1, .ref f2, .ref f3, .ref f4])), (f1, .inl (cI, 7, .inl FC_1)), (f2, .inl (cI, 7, .inl FB_1)), (f3, .inl (cI, 7, .inl FR_1)), (f4, .inl (cZ, 7, .inl FA_1))] H_2 := hP
  have hD : va_D A [(f0, .inr (1, [.int u, .ref f1, .ref f2, .ref f3, .ref f4])), (f1, .inl (cI, 7, .inl FC_1)), (f2, .inl (cI, 7, .inl FB_1)), (f3, .inl (cI, 7, .inl FR_1)), (f4, .inl (cZ, 7, .inl FA_1))] := hD
  have hl : lv_has ls 3 [(2, .int (nI i_l)), (1, .int u), (0, .ref f0)] := hl
  have hi : i_l ≤ 7 := hi
  refine lv_iload_n hx hb d_PE_begin_7 rfl (lv_at hl 0 rfl) ?_
  refine lv_bipush (v := 7) hx hb d_PE_begin_8 (by decide) ?_
  refine lv_icmp_ge (tgt := 47) hx hb d_PE_begin_10 (by decide) (fun h_3 => ?_) (fun h_3 => ?_)
  · have nh_3 : 7 ≤ i_l := (nI_leI (a := 7) (b := i_l) (by omega) (by omega)).mp h_3
    have hP9 := hP.sub (ws' := [(f0, .inr (1, [.int u, .ref f1, .ref f2, .ref f3, .ref f4])), (f1, .inl (cI, 7, .inl FC_1)), (f2, .inl (cI, 7, .inl FB_1)), (f3, .inl (cI, 7, .inl FR_1)), (f4, .inl (cZ, 7, .inl FA_1))]) [0, 1, 2, 3, 4] rfl
    have hD9 := hD.sub (ws' := [(f0, .inr (1, [.int u, .ref f1, .ref f2, .ref f3, .ref f4])), (f1, .inl (cI, 7, .inl FC_1)), (f2, .inl (cI, 7, .inl FB_1)), (f3, .inl (cI, 7, .inl FR_1)), (f4, .inl (cZ, 7, .inl FA_1))]) [0, 1, 2, 3, 4] (by decide) rfl
    refine W.widen (k := 0) (n := 0) (Nat.le_of_ble_eq_true rfl) (Nat.le_of_ble_eq_true rfl) ?_
    exact W.vret hx hb hr (fun tT ht hW => ⟨⟨(FC_1, FB_1, FR_1, FA_1), rfl, trivial, by rw [ht]; exact hP9, hD9⟩, hS.F ht⟩) hS.2.2 d_PE_begin_47
  · have nh_3 : ¬ 7 ≤ i_l := fun qZ => h_3 ((nI_leI (a := 7) (b := i_l) (by omega) (by omega)).mpr qZ)
    refine lv_aload_n hx hb d_PE_begin_13 rfl (lv_at hl 2 rfl) ?_
    refine va_get (D := D) (ci := 1) (v := .ref f1) (C := R_PE) (T := F_PE) (N := 5) hx hb hts i_PE hown hK hP 0 rfl rfl 1 (by decide) (hts _ q_26) (fun _ h9 => h9) rfl d_PE_begin_14 ?_
    refine lv_iload_n hx hb d_PE_begin_17 rfl (lv_at hl 0 rfl) ?_
    refine lv_iconst (v := 0) hx hb d_PE_begin_18 (by decide) ?_
    refine my_stI hx hb hK hP hD hS 1 rfl i_l rfl (by omega) (by decide) d_PE_begin_19 (fun H_4 locs hP hD hS => ?_)
    have hP : va_P D vwCl [(f0, .inr (1, [.int u, .ref f1, .ref f2, .ref f3, .ref f4])), (f1, .inl (cI, 7, .inl (upd FC_1 i_l 0))), (f2, .inl (cI, 7, .inl FB_1)), (f3, .inl (cI, 7, .inl FR_1)), (f4, .inl (cZ, 7, .inl FA_1))] H_4 := hP
    have hD : va_D A [(f0, .inr (1, [.int u, .ref f1, .ref f2, .ref f3, .ref f4])), (f1, .inl (cI, 7, .inl (upd FC_1 i_l 0))), (f2, .inl (cI, 7, .inl FB_1)), (f3, .inl (cI, 7, .inl FR_1)), (f4, .inl (cZ, 7, .inl FA_1))] := hD
    refine lv_aload_n hx hb d_PE_begin_20 rfl (lv_at hl 2 rfl) ?_
    refine va_get (D := D) (ci := 1) (v := .ref f2) (C := R_PE) (T := F_PE) (N := 5) hx hb hts i_PE hown hK hP 0 rfl rfl 2 (by decide) (hts _ q_29) (fun _ h9 => h9) rfl d_PE_begin_21 ?_
    refine lv_iload_n hx hb d_PE_begin_24 rfl (lv_at hl 0 rfl) ?_
    refine lv_iconst (v := 0) hx hb d_PE_begin_25 (by decide) ?_
    refine my_stI hx hb hK hP hD hS 2 rfl i_l rfl (by omega) (by decide) d_PE_begin_26 (fun H_5 locs hP hD hS => ?_)
    have hP : va_P D vwCl [(f0, .inr (1, [.int u, .ref f1, .ref f2, .ref f3, .ref f4])), (f1, .inl (cI, 7, .inl (upd FC_1 i_l 0))), (f2, .inl (cI, 7, .inl (upd FB_1 i_l 0))), (f3, .inl (cI, 7, .inl FR_1)), (f4, .inl (cZ, 7, .inl FA_1))] H_5 := hP
    have hD : va_D A [(f0, .inr (1, [.int u, .ref f1, .ref f2, .ref f3, .ref f4])), (f1, .inl (cI, 7, .inl (upd FC_1 i_l 0))), (f2, .inl (cI, 7, .inl (upd FB_1 i_l 0))), (f3, .inl (cI, 7, .inl FR_1)), (f4, .inl (cZ, 7, .inl FA_1))] := hD
    refine lv_aload_n hx hb d_PE_begin_27 rfl (lv_at hl 2 rfl) ?_
    refine va_get (D := D) (ci := 1) (v := .ref f3) (C := R_PE) (T := F_PE) (N := 5) hx hb hts i_PE hown hK hP 0 rfl rfl 3 (by decide) (hts _ q_31) (fun _ h9 => h9) rfl d_PE_begin_28 ?_
    refine lv_iload_n hx hb d_PE_begin_31 rfl (lv_at hl 0 rfl) ?_
    refine lv_iconst (v := 0) hx hb d_PE_begin_32 (by decide) ?_
    refine my_stI hx hb hK hP hD hS 3 rfl i_l rfl (by omega) (by decide) d_PE_begin_33 (fun H_6 locs hP hD hS => ?_)
    have hP : va_P D vwCl [(f0, .inr (1, [.int u, .ref f1, .ref f2, .ref f3, .ref f4])), (f1, .inl (cI, 7, .inl (upd FC_1 i_l 0))), (f2, .inl (cI, 7, .inl (upd FB_1 i_l 0))), (f3, .inl (cI, 7, .inl (upd FR_1 i_l 0))), (f4, .inl (cZ, 7, .inl FA_1))] H_6 := hP
    have hD : va_D A [(f0, .inr (1, [.int u, .ref f1, .ref f2, .ref f3, .ref f4])), (f1, .inl (cI, 7, .inl (upd FC_1 i_l 0))), (f2, .inl (cI, 7, .inl (upd FB_1 i_l 0))), (f3, .inl (cI, 7, .inl (upd FR_1 i_l 0))), (f4, .inl (cZ, 7, .inl FA_1))] := hD
    refine lv_aload_n hx hb d_PE_begin_34 rfl (lv_at hl 2 rfl) ?_
    refine va_get (D := D) (ci := 1) (v := .ref f4) (C := R_PE) (T := F_PE) (N := 5) hx hb hts i_PE hown hK hP 0 rfl rfl 4 (by decide) (hts _ q_33) (fun _ h9 => h9) rfl d_PE_begin_35 ?_
    refine lv_iload_n hx hb d_PE_begin_38 rfl (lv_at hl 0 rfl) ?_
    refine lv_iconst (v := 0) hx hb d_PE_begin_39 (by decide) ?_
    refine my_stZ hx hb hK hP hD hS 4 rfl i_l 0 rfl rfl (by omega) (by decide) d_PE_begin_40 (fun H_7 locs hP hD hS => ?_)
    have hP : va_P D vwCl [(f0, .inr (1, [.int u, .ref f1, .ref f2, .ref f3, .ref f4])), (f1, .inl (cI, 7, .inl (upd FC_1 i_l 0))), (f2, .inl (cI, 7, .inl (upd FB_1 i_l 0))), (f3, .inl (cI, 7, .inl (upd FR_1 i_l 0))), (f4, .inl (cZ, 7, .inl (upd FA_1 i_l 0)))] H_7 := hP
    have hD : va_D A [(f0, .inr (1, [.int u, .ref f1, .ref f2, .ref f3, .ref f4])), (f1, .inl (cI, 7, .inl (upd FC_1 i_l 0))), (f2, .inl (cI, 7, .inl (upd FB_1 i_l 0))), (f3, .inl (cI, 7, .inl (upd FR_1 i_l 0))), (f4, .inl (cZ, 7, .inl (upd FA_1 i_l 0)))] := hD
    refine lv_iinc (v := nI (i_l + 1)) (lv' := [(2, .int (nI (i_l + 1))), (1, .int u), (0, .ref f0)]) hx hb d_PE_begin_41 hl (k := 0) rfl (nI_1 i_l) (by decide) rfl (fun ls hl => ?_)
    refine lv_goto (tgt := 7) hx hb d_PE_begin_44 (by decide) ?_
    have hPz := hP.sub (ws' := [(f0, .inr (1, [.int u, .ref f1, .ref f2, .ref f3, .ref f4])), (f1, .inl (cI, 7, .inl (upd FC_1 i_l 0))), (f2, .inl (cI, 7, .inl (upd FB_1 i_l 0))), (f3, .inl (cI, 7, .inl (upd FR_1 i_l 0))), (f4, .inl (cZ, 7, .inl (upd FA_1 i_l 0)))]) [0, 1, 2, 3, 4] rfl
    have hDz := hD.sub (ws' := [(f0, .inr (1, [.int u, .ref f1, .ref f2, .ref f3, .ref f4])), (f1, .inl (cI, 7, .inl (upd FC_1 i_l 0))), (f2, .inl (cI, 7, .inl (upd FB_1 i_l 0))), (f3, .inl (cI, 7, .inl (upd FR_1 i_l 0))), (f4, .inl (cZ, 7, .inl (upd FA_1 i_l 0)))]) [0, 1, 2, 3, 4] (by decide) rfl
    exact ih1 ((i_l + 1), (upd FC_1 i_l 0), (upd FB_1 i_l 0), (upd FR_1 i_l 0), (upd FA_1 i_l 0)) _ _ _ (by first | omega | (dsimp only; omega)) ⟨(by first | omega | (dsimp only; omega)), hPz, hDz, hS, lv_sub hl [0, 1, 2] rfl⟩

set_option maxHeartbeats 4000000 in
set_option maxRecDepth 100000 in
theorem g_PC_people (l : Launch) (D : va_G) (cI cZ : ClassId) (x : Nat) (u : Int32) (f0 : Nat) (a0 : Nat) (r0 : Nat) (w0 : Nat) (g0 : Nat) (k0 : Nat) (tm : Int32) (gp : Int32) (lk : Int32) (nn : Nat) (f1 : Nat) (f2 : Nat) (f3 : Nat) (f4 : Nat) (FC : Nat → Int32) (FB : Nat → Int32) (FR : Nat → Int32) (FA : Nat → Int32) (np : Nat) (a1 : Nat) (a2 : Nat) (a3 : Nat) (a4 : Nat) (a5 : Nat) (a6 : Nat) (a7 : Nat) (a8 : Nat) (a9 : Nat) (a10 : Nat) (a11 : Nat) (nq : Nat) (HA : Int32) (r1 : Nat) (r2 : Nat) (r3 : Nat) (r4 : Nat) (r5 : Nat) (r6 : Nat) (r7 : Nat) (r8 : Nat) (r9 : Nat) (r10 : Nat) (r11 : Nat) (kl : Nat) (k1 : Nat) (k2 : Nat) (sz : Nat) (h_nn : nn ≤ 7) (h_np : np ≤ 12) (h_nq : nq ≤ 40) (h_kl : kl ≤ 6) : Met l ⟨"PromiseChains", "people", "(I)I"⟩ (mw ⟨"PromiseChains", "people", "(I)I"⟩ prog_1_method_2_code 2 (some .int)) ({ frames := 1, cells := 0, slots := 0, locals := 22 }) (va_Pc [.ref x, .int u] (PB D cI cZ sz [(x, .inr (0, [.ref f0, .ref a0, .ref r0, .ref w0, .ref g0, .ref k0, .int tm, .int gp, .int lk])), (f0, .inr (1, [.int (nI nn), .ref f1, .ref f2, .ref f3, .ref f4])), (f1, .inl (cI, 7, .inl FC)), (f2, .inl (cI, 7, .inl FB)), (f3, .inl (cI, 7, .inl FR)), (f4, .inl (cZ, 7, .inl FA)), (a0, .inr (2, [.int (nI np), .ref a1, .ref a2, .ref a3, .ref a4, .ref a5, .ref a6, .ref a7, .ref a8, .ref a9, .ref a10, .ref a11])), (r0, .inr (3, [.int (nI nq), .int HA, .ref r1, .ref r2, .ref r3, .ref r4, .ref r5, .ref r6, .ref r7, .ref r8, .ref r9, .ref r10, .ref r11])), (k0, .inr (6, [.int (nI kl), .ref k1, .ref k2]))])) (va_Qi (S := Int32 × Nat × Nat × Nat × Int32 × Nat × (Nat → Int32) × (Nat → Int32) × (Nat → Int32) × (Nat → Int32)) (fun (r : Int32) uU => (r = gp_people u) ∧ (uU.2.1 ≤ 7) ∧ (uU.2.2.1 ≤ 12) ∧ (uU.2.2.2.1 ≤ 40) ∧ (uU.2.2.2.2.2.1 ≤ 6) ∧ (uU.2.2.1 = np ∨ uU.2.2.1 = 0)) (fun uU tT => BB D (va_A [(x, .inr (0, [.ref f0, .ref a0, .ref r0, .ref w0, .ref g0, .ref k0, .int tm, .int gp, .int lk])), (f0, .inr (1, [.int (nI nn), .ref f1, .ref f2, .ref f3, .ref f4])), (f1, .inl (cI, 7, .inl FC)), (f2, .inl (cI, 7, .inl FB)), (f3, .inl (cI, 7, .inl FR)), (f4, .inl (cZ, 7, .inl FA)), (a0, .inr (2, [.int (nI np), .ref a1, .ref a2, .ref a3, .ref a4, .ref a5, .ref a6, .ref a7, .ref a8, .ref a9, .ref a10, .ref a11])), (r0, .inr (3, [.int (nI nq), .int HA, .ref r1, .ref r2, .ref r3, .ref r4, .ref r5, .ref r6, .ref r7, .ref r8, .ref r9, .ref r10, .ref r11])), (k0, .inr (6, [.int (nI kl), .ref k1, .ref k2]))] sz) [(x, .inr (0, [.ref f0, .ref a0, .ref r0, .ref w0, .ref g0, .ref k0, .int (uU.1), .int gp, .int lk])), (f0, .inr (1, [.int (nI uU.2.1), .ref f1, .ref f2, .ref f3, .ref f4])), (f1, .inl (cI, 7, .inl (uU.2.2.2.2.2.2.1))), (f2, .inl (cI, 7, .inl (uU.2.2.2.2.2.2.2.1))), (f3, .inl (cI, 7, .inl (uU.2.2.2.2.2.2.2.2.1))), (f4, .inl (cZ, 7, .inl (uU.2.2.2.2.2.2.2.2.2))), (a0, .inr (2, [.int (nI uU.2.2.1), .ref a1, .ref a2, .ref a3, .ref a4, .ref a5, .ref a6, .ref a7, .ref a8, .ref a9, .ref a10, .ref a11])), (r0, .inr (3, [.int (nI uU.2.2.2.1), .int (uU.2.2.2.2.1), .ref r1, .ref r2, .ref r3, .ref r4, .ref r5, .ref r6, .ref r7, .ref r8, .ref r9, .ref r10, .ref r11])), (k0, .inr (6, [.int (nI uU.2.2.2.2.2.1), .ref k1, .ref k2]))] tT) (va_A [(x, .inr (0, [.ref f0, .ref a0, .ref r0, .ref w0, .ref g0, .ref k0, .int tm, .int gp, .int lk])), (f0, .inr (1, [.int (nI nn), .ref f1, .ref f2, .ref f3, .ref f4])), (f1, .inl (cI, 7, .inl FC)), (f2, .inl (cI, 7, .inl FB)), (f3, .inl (cI, 7, .inl FR)), (f4, .inl (cZ, 7, .inl FA)), (a0, .inr (2, [.int (nI np), .ref a1, .ref a2, .ref a3, .ref a4, .ref a5, .ref a6, .ref a7, .ref a8, .ref a9, .ref a10, .ref a11])), (r0, .inr (3, [.int (nI nq), .int HA, .ref r1, .ref r2, .ref r3, .ref r4, .ref r5, .ref r6, .ref r7, .ref r8, .ref r9, .ref r10, .ref r11])), (k0, .inr (6, [.int (nI kl), .ref k1, .ref k2]))] sz)) 0 0 (va_A [(x, .inr (0, [.ref f0, .ref a0, .ref r0, .ref w0, .ref g0, .ref k0, .int tm, .int gp, .int lk])), (f0, .inr (1, [.int (nI nn), .ref f1, .ref f2, .ref f3, .ref f4])), (f1, .inl (cI, 7, .inl FC)), (f2, .inl (cI, 7, .inl FB)), (f3, .inl (cI, 7, .inl FR)), (f4, .inl (cZ, 7, .inl FA)), (a0, .inr (2, [.int (nI np), .ref a1, .ref a2, .ref a3, .ref a4, .ref a5, .ref a6, .ref a7, .ref a8, .ref a9, .ref a10, .ref a11])), (r0, .inr (3, [.int (nI nq), .int HA, .ref r1, .ref r2, .ref r3, .ref r4, .ref r5, .ref r6, .ref r7, .ref r8, .ref r9, .ref r10, .ref r11])), (k0, .inr (6, [.int (nI kl), .ref k1, .ref k2]))] sz) := by
  refine Met.ofW (cc := prog_1_method_2_code) (maxL := 2) (ret := (some .int)) (by decide) rfl ?_
  intro p e s m args below meth c s₁ B hml hv
  obtain ⟨rfl, hsz, hP, hK, hD0, hN⟩ := hv
  have hx := B.exec
  have hb := B.bytes
  have hr := B.returns
  have hts0 := atoms_spec (ws := mw ⟨"PromiseChains", "people", "(I)I"⟩ prog_1_method_2_code 2 (some .int)) B.pre
  have hts : ∀ w ∈ tblG, w.before _ s = true := fun w h => hts0 w (List.mem_cons_of_mem _ h)
  have hown : s.vm.findClass "PromiseChains" = some m.cls := findClass_of_methodNamed B.named
  have hlocks := B.notSynchronized
  subst hsz
  have hD := hD0.self (sz := s.heap.size)
  generalize hAe : va_A [(x, .inr (0, [.ref f0, .ref a0, .ref r0, .ref w0, .ref g0, .ref k0, .int tm, .int gp, .int lk])), (f0, .inr (1, [.int (nI nn), .ref f1, .ref f2, .ref f3, .ref f4])), (f1, .inl (cI, 7, .inl FC)), (f2, .inl (cI, 7, .inl FB)), (f3, .inl (cI, 7, .inl FR)), (f4, .inl (cZ, 7, .inl FA)), (a0, .inr (2, [.int (nI np), .ref a1, .ref a2, .ref a3, .ref a4, .ref a5, .ref a6, .ref a7, .ref a8, .ref a9, .ref a10, .ref a11])), (r0, .inr (3, [.int (nI nq), .int HA, .ref r1, .ref r2, .ref r3, .ref r4, .ref r5, .ref r6, .ref r7, .ref r8, .ref r9, .ref r10, .ref r11])), (k0, .inr (6, [.int (nI kl), .ref k1, .ref k2]))] s.heap.size = A at hD ⊢
  have hA : ∀ q : Nat, s.heap.size ≤ q → A q := fun q h => by rw [← hAe]; exact Or.inr h
  have hS : va_S A s.heap s.heap [] := va_S.rf
  have hP : va_P D vwCl [(x, .inr (0, [.ref f0, .ref a0, .ref r0, .ref w0, .ref g0, .ref k0, .int tm, .int gp, .int lk])), (f0, .inr (1, [.int (nI nn), .ref f1, .ref f2, .ref f3, .ref f4])), (f1, .inl (cI, 7, .inl FC)), (f2, .inl (cI, 7, .inl FB)), (f3, .inl (cI, 7, .inl FR)), (f4, .inl (cZ, 7, .inl FA)), (a0, .inr (2, [.int (nI np), .ref a1, .ref a2, .ref a3, .ref a4, .ref a5, .ref a6, .ref a7, .ref a8, .ref a9, .ref a10, .ref a11])), (r0, .inr (3, [.int (nI nq), .int HA, .ref r1, .ref r2, .ref r3, .ref r4, .ref r5, .ref r6, .ref r7, .ref r8, .ref r9, .ref r10, .ref r11])), (k0, .inr (6, [.int (nI kl), .ref k1, .ref k2]))] s.heap := hP
  have hl := lv_entry ([.ref x, .int u]) (n := 2) (Nat.le_of_ble_eq_true rfl)
  rw [lg_entry_eq]
  generalize (lg_sl ([.ref x, .int u]) ++ List.replicate (2 - (lg_sl ([.ref x, .int u])).length) Slot.unset).toArray = ls at hl ⊢
  have hl : lv_has ls 2 [(0, .ref x), (1, .int u)] := hl
  refine lv_iload_n hx hb d_PC_people_0 rfl (lv_at hl 1 rfl) ?_
  refine lv_iconst (v := 2) hx hb d_PC_people_1 (by decide) ?_
  refine lv_bipush (v := 7) hx hb d_PC_people_2 (by decide) ?_
  have hPc := hP.sub (ws' := []) [] rfl
  have hDc := hD.sub (ws' := []) [] (by decide) rfl
  refine vp_callSi (va_Run.run (va_runS (As := [.int u, .int 2, .int 7]) (rest := []) ⟨hx, hb, hml, hown, hts⟩ (g_within l D cI cZ u 2 7 s.heap.size ) (my_cwS 3 hts q_290 q_288 q_289 q_1 rfl rfl (by decide +kernel) ⟨Nat.le_of_ble_eq_true rfl, Nat.le_of_ble_eq_true rfl⟩) (my_preS hPc hDc hK hN) rfl rfl hl.1 rfl (lv_room (Nat.le_of_ble_eq_true rfl)) d_PC_people_4 ⟨Nat.le_of_ble_eq_true rfl, Nat.le_of_ble_eq_true rfl⟩)) (fun r_1 hw_1 => ?_)
  have hf_1_0 : r_1 = isw u 2 7 := hw_1
  have hf_1_0 : r_1 = isw u 2 7 := hf_1_0
  subst hf_1_0
  refine lv_if_ne (tgt := 13) hx hb d_PC_people_7 (by decide) (fun h_2 => ?_) (fun h_2 => ?_)
  · obtain ⟨j_3, hx_4, rfl⟩ := isw_lo (K := 7) (by decide) rfl h_2
    refine lv_aload_n hx hb d_PC_people_13 rfl (lv_at hl 0 rfl) ?_
    refine va_get (D := D) (ci := 0) (v := .ref f0) (C := R_PC) (T := F_PC) (N := 9) hx hb hts i_PC hown hK hP 0 rfl rfl 0 (by decide) (hts _ q_256) (fun _ h9 => h9) rfl d_PC_people_14 ?_
    refine lv_iload_n hx hb d_PC_people_17 rfl (lv_at hl 1 rfl) ?_
    have hPc := hP.sub (ws' := [(f0, .inr (1, [.int (nI nn), .ref f1, .ref f2, .ref f3, .ref f4])), (f1, .inl (cI, 7, .inl FC)), (f2, .inl (cI, 7, .inl FB)), (f3, .inl (cI, 7, .inl FR)), (f4, .inl (cZ, 7, .inl FA))]) [1, 2, 3, 4, 5] rfl
    have hDc := hD.sub (ws' := [(f0, .inr (1, [.int (nI nn), .ref f1, .ref f2, .ref f3, .ref f4])), (f1, .inl (cI, 7, .inl FC)), (f2, .inl (cI, 7, .inl FB)), (f3, .inl (cI, 7, .inl FR)), (f4, .inl (cZ, 7, .inl FA))]) [1, 2, 3, 4, 5] (by decide) rfl
    have hFc := va_free (wc := [(f0, .inr (1, [.int (nI nn), .ref f1, .ref f2, .ref f3, .ref f4])), (f1, .inl (cI, 7, .inl FC)), (f2, .inl (cI, 7, .inl FB)), (f3, .inl (cI, 7, .inl FR)), (f4, .inl (cZ, 7, .inl FA))]) hD hS hA [1, 2, 3, 4, 5] rfl
    refine va_callv (va_runV (As := [.int (nI j_3)]) (rest := []) ⟨hx, hb, hml, hown, hts⟩ (g_PE_begin l D cI cZ f0 (nI j_3) (nI nn) f1 f2 f3 f4 FC FB FR FA s.heap.size ) (my_cwV 1 hts q_255 q_252 q_253 q_254 q_2 rfl rfl (by decide +kernel) ⟨Nat.le_of_ble_eq_true rfl, Nat.le_of_ble_eq_true rfl⟩) (my_preV hPc hDc hK hN 1 0 rfl rfl) rfl rfl hl.1 rfl (lv_room (Nat.le_of_ble_eq_true rfl)) d_PC_people_18 ⟨Nat.le_of_ble_eq_true rfl, Nat.le_of_ble_eq_true rfl⟩) hS (fun q _ h => hFc q h) hFc (fun uU tT H_6 locs ht hvm hw_5 hB hz1 hk1 hS => ?_)
    obtain ⟨FC_7, FB_8, FR_9, FA_10⟩ := uU
    obtain ⟨hP1, hD1⟩ := hB
    rw [ht] at hP1
    obtain ⟨hP, hD⟩ := va_join (wr := [(x, .inr (0, [.ref f0, .ref a0, .ref r0, .ref w0, .ref g0, .ref k0, .int tm, .int gp, .int lk])), (a0, .inr (2, [.int (nI np), .ref a1, .ref a2, .ref a3, .ref a4, .ref a5, .ref a6, .ref a7, .ref a8, .ref a9, .ref a10, .ref a11])), (r0, .inr (3, [.int (nI nq), .int HA, .ref r1, .ref r2, .ref r3, .ref r4, .ref r5, .ref r6, .ref r7, .ref r8, .ref r9, .ref r10, .ref r11])), (k0, .inr (6, [.int (nI kl), .ref k1, .ref k2]))]) (w1 := [(f0, .inr (1, [.int (nI j_3), .ref f1, .ref f2, .ref f3, .ref f4])), (f1, .inl (cI, 7, .inl FC_7)), (f2, .inl (cI, 7, .inl FB_8)), (f3, .inl (cI, 7, .inl FR_9)), (f4, .inl (cZ, 7, .inl FA_10))]) hP hD [1, 2, 3, 4, 5] [0, 6, 7, 8] rfl rfl (by decide) (by decide) hk1 hFc hP1 hD1
    have hP : va_P D vwCl [(x, .inr (0, [.ref f0, .ref a0, .ref r0, .ref w0, .ref g0, .ref k0, .int tm, .int gp, .int lk])), (a0, .inr (2, [.int (nI np), .ref a1, .ref a2, .ref a3, .ref a4, .ref a5, .ref a6, .ref a7, .ref a8, .ref a9, .ref a10, .ref a11])), (r0, .inr (3, [.int (nI nq), .int HA, .ref r1, .ref r2, .ref r3, .ref r4, .ref r5, .ref r6, .ref r7, .ref r8, .ref r9, .ref r10, .ref r11])), (k0, .inr (6, [.int (nI kl), .ref k1, .ref k2])), (f0, .inr (1, [.int (nI j_3), .ref f1, .ref f2, .ref f3, .ref f4])), (f1, .inl (cI, 7, .inl FC_7)), (f2, .inl (cI, 7, .inl FB_8)), (f3, .inl (cI, 7, .inl FR_9)), (f4, .inl (cZ, 7, .inl FA_10))] H_6 := hP
    have hD : va_D A [(x, .inr (0, [.ref f0, .ref a0, .ref r0, .ref w0, .ref g0, .ref k0, .int tm, .int gp, .int lk])), (a0, .inr (2, [.int (nI np), .ref a1, .ref a2, .ref a3, .ref a4, .ref a5, .ref a6, .ref a7, .ref a8, .ref a9, .ref a10, .ref a11])), (r0, .inr (3, [.int (nI nq), .int HA, .ref r1, .ref r2, .ref r3, .ref r4, .ref r5, .ref r6, .ref r7, .ref r8, .ref r9, .ref r10, .ref r11])), (k0, .inr (6, [.int (nI kl), .ref k1, .ref k2])), (f0, .inr (1, [.int (nI j_3), .ref f1, .ref f2, .ref f3, .ref f4])), (f1, .inl (cI, 7, .inl FC_7)), (f2, .inl (cI, 7, .inl FB_8)), (f3, .inl (cI, 7, .inl FR_9)), (f4, .inl (cZ, 7, .inl FA_10))] := hD
    refine lv_aload_n hx hb d_PC_people_21 rfl (lv_at hl 0 rfl) ?_
    refine va_get (D := D) (ci := 0) (v := .ref a0) (C := R_PC) (T := F_PC) (N := 9) hx hb hts i_PC hown hK hP 0 rfl rfl 1 (by decide) (hts _ q_257) (fun _ h9 => h9) rfl d_PC_people_22 ?_
    refine lv_iconst (v := 0) hx hb d_PC_people_25 (by decide) ?_
    refine va_put (D := D) (ci := 2) (v := .int 0) (ty := .int) (C := R_PA) (T := F_PA) (N := 12) hx hb hts i_PA t_PA t_PA_ok n_PA hown hK hP hD hS 1 rfl rfl 0 (by decide) (hts _ q_57) (fun _ h9 => h9) rfl (by decide +kernel) rfl rfl (Nat.le_of_ble_eq_true rfl) d_PC_people_26 (fun H_11 locs hP hD hS => ?_)
    have hP : va_P D vwCl [(x, .inr (0, [.ref f0, .ref a0, .ref r0, .ref w0, .ref g0, .ref k0, .int tm, .int gp, .int lk])), (a0, .inr (2, [.int 0, .ref a1, .ref a2, .ref a3, .ref a4, .ref a5, .ref a6, .ref a7, .ref a8, .ref a9, .ref a10, .ref a11])), (r0, .inr (3, [.int (nI nq), .int HA, .ref r1, .ref r2, .ref r3, .ref r4, .ref r5, .ref r6, .ref r7, .ref r8, .ref r9, .ref r10, .ref r11])), (k0, .inr (6, [.int (nI kl), .ref k1, .ref k2])), (f0, .inr (1, [.int (nI j_3), .ref f1, .ref f2, .ref f3, .ref f4])), (f1, .inl (cI, 7, .inl FC_7)), (f2, .inl (cI, 7, .inl FB_8)), (f3, .inl (cI, 7, .inl FR_9)), (f4, .inl (cZ, 7, .inl FA_10))] H_11 := hP
    have hD : va_D A [(x, .inr (0, [.ref f0, .ref a0, .ref r0, .ref w0, .ref g0, .ref k0, .int tm, .int gp, .int lk])), (a0, .inr (2, [.int 0, .ref a1, .ref a2, .ref a3, .ref a4, .ref a5, .ref a6, .ref a7, .ref a8, .ref a9, .ref a10, .ref a11])), (r0, .inr (3, [.int (nI nq), .int HA, .ref r1, .ref r2, .ref r3, .ref r4, .ref r5, .ref r6, .ref r7, .ref r8, .ref r9, .ref r10, .ref r11])), (k0, .inr (6, [.int (nI kl), .ref k1, .ref k2])), (f0, .inr (1, [.int (nI j_3), .ref f1, .ref f2, .ref f3, .ref f4])), (f1, .inl (cI, 7, .inl FC_7)), (f2, .inl (cI, 7, .inl FB_8)), (f3, .inl (cI, 7, .inl FR_9)), (f4, .inl (cZ, 7, .inl FA_10))] := hD
    refine lv_aload_n hx hb d_PC_people_29 rfl (lv_at hl 0 rfl) ?_
    refine va_get (D := D) (ci := 0) (v := .ref r0) (C := R_PC) (T := F_PC) (N := 9) hx hb hts i_PC hown hK hP 0 rfl rfl 2 (by decide) (hts _ q_258) (fun _ h9 => h9) rfl d_PC_people_30 ?_
    have hPc := hP.sub (ws' := [(r0, .inr (3, [.int (nI nq), .int HA, .ref r1, .ref r2, .ref r3, .ref r4, .ref r5, .ref r6, .ref r7, .ref r8, .ref r9, .ref r10, .ref r11]))]) [2] rfl
    have hDc := hD.sub (ws' := [(r0, .inr (3, [.int (nI nq), .int HA, .ref r1, .ref r2, .ref r3, .ref r4, .ref r5, .ref r6, .ref r7, .ref r8, .ref r9, .ref r10, .ref r11]))]) [2] (by decide) rfl
    have hFc := va_free (wc := [(r0, .inr (3, [.int (nI nq), .int HA, .ref r1, .ref r2, .ref r3, .ref r4, .ref r5, .ref r6, .ref r7, .ref r8, .ref r9, .ref r10, .ref r11]))]) hD hS hA [2] rfl
    refine va_callv (va_runV (As := []) (rest := []) ⟨hx, hb, hml, hown, hts⟩ (g_PR_begin l D cI cZ r0 nq HA r1 r2 r3 r4 r5 r6 r7 r8 r9 r10 r11 H_11.size h_nq) (my_cwV 0 hts q_294 q_291 q_292 q_293 q_4 rfl rfl (by decide +kernel) ⟨Nat.le_of_ble_eq_true rfl, Nat.le_of_ble_eq_true rfl⟩) (my_preV hPc hDc hK hN 3 0 rfl rfl) rfl rfl hl.1 rfl (lv_room (Nat.le_of_ble_eq_true rfl)) d_PC_people_33 ⟨Nat.le_of_ble_eq_true rfl, Nat.le_of_ble_eq_true rfl⟩) hS (fun q _ h => hFc q h) hFc (fun uU tT H_13 locs ht hvm hw_12 hB hz1 hk1 hS => ?_)
    obtain ⟨hP1, hD1⟩ := hB
    rw [ht] at hP1
    obtain ⟨hP, hD⟩ := va_join (wr := [(x, .inr (0, [.ref f0, .ref a0, .ref r0, .ref w0, .ref g0, .ref k0, .int tm, .int gp, .int lk])), (a0, .inr (2, [.int 0, .ref a1, .ref a2, .ref a3, .ref a4, .ref a5, .ref a6, .ref a7, .ref a8, .ref a9, .ref a10, .ref a11])), (k0, .inr (6, [.int (nI kl), .ref k1, .ref k2])), (f0, .inr (1, [.int (nI j_3), .ref f1, .ref f2, .ref f3, .ref f4])), (f1, .inl (cI, 7, .inl FC_7)), (f2, .inl (cI, 7, .inl FB_8)), (f3, .inl (cI, 7, .inl FR_9)), (f4, .inl (cZ, 7, .inl FA_10))]) (w1 := [(r0, .inr (3, [.int 0, .int 0, .ref r1, .ref r2, .ref r3, .ref r4, .ref r5, .ref r6, .ref r7, .ref r8, .ref r9, .ref r10, .ref r11]))]) hP hD [2] [0, 1, 3, 4, 5, 6, 7, 8] rfl rfl (by decide) (by decide) hk1 hFc hP1 hD1
    have hP : va_P D vwCl [(x, .inr (0, [.ref f0, .ref a0, .ref r0, .ref w0, .ref g0, .ref k0, .int tm, .int gp, .int lk])), (a0, .inr (2, [.int 0, .ref a1, .ref a2, .ref a3, .ref a4, .ref a5, .ref a6, .ref a7, .ref a8, .ref a9, .ref a10, .ref a11])), (k0, .inr (6, [.int (nI kl), .ref k1, .ref k2])), (f0, .inr (1, [.int (nI j_3), .ref f1, .ref f2, .ref f3, .ref f4])), (f1, .inl (cI, 7, .inl FC_7)), (f2, .inl (cI, 7, .inl FB_8)), (f3, .inl (cI, 7, .inl FR_9)), (f4, .inl (cZ, 7, .inl FA_10)), (r0, .inr (3, [.int 0, .int 0, .ref r1, .ref r2, .ref r3, .ref r4, .ref r5, .ref r6, .ref r7, .ref r8, .ref r9, .ref r10, .ref r11]))] H_13 := hP
    have hD : va_D A [(x, .inr (0, [.ref f0, .ref a0, .ref r0, .ref w0, .ref g0, .ref k0, .int tm, .int gp, .int lk])), (a0, .inr (2, [.int 0, .ref a1, .ref a2, .ref a3, .ref a4, .ref a5, .ref a6, .ref a7, .ref a8, .ref a9, .ref a10, .ref a11])), (k0, .inr (6, [.int (nI kl), .ref k1, .ref k2])), (f0, .inr (1, [.int (nI j_3), .ref f1, .ref f2, .ref f3, .ref f4])), (f1, .inl (cI, 7, .inl FC_7)), (f2, .inl (cI, 7, .inl FB_8)), (f3, .inl (cI, 7, .inl FR_9)), (f4, .inl (cZ, 7, .inl FA_10)), (r0, .inr (3, [.int 0, .int 0, .ref r1, .ref r2, .ref r3, .ref r4, .ref r5, .ref r6, .ref r7, .ref r8, .ref r9, .ref r10, .ref r11]))] := hD
    refine lv_aload_n hx hb d_PC_people_36 rfl (lv_at hl 0 rfl) ?_
    refine va_get (D := D) (ci := 0) (v := .ref k0) (C := R_PC) (T := F_PC) (N := 9) hx hb hts i_PC hown hK hP 0 rfl rfl 5 (by decide) (hts _ q_261) (fun _ h9 => h9) rfl d_PC_people_37 ?_
    refine lv_iconst (v := 0) hx hb d_PC_people_40 (by decide) ?_
    refine va_put (D := D) (ci := 6) (v := .int 0) (ty := .int) (C := R_RO) (T := F_RO) (N := 3) hx hb hts i_RO t_RO t_RO_ok n_RO hown hK hP hD hS 2 rfl rfl 0 (by decide) (hts _ q_174) (fun _ h9 => h9) rfl (by decide +kernel) rfl rfl (Nat.le_of_ble_eq_true rfl) d_PC_people_41 (fun H_14 locs hP hD hS => ?_)
    have hP : va_P D vwCl [(x, .inr (0, [.ref f0, .ref a0, .ref r0, .ref w0, .ref g0, .ref k0, .int tm, .int gp, .int lk])), (a0, .inr (2, [.int 0, .ref a1, .ref a2, .ref a3, .ref a4, .ref a5, .ref a6, .ref a7, .ref a8, .ref a9, .ref a10, .ref a11])), (k0, .inr (6, [.int 0, .ref k1, .ref k2])), (f0, .inr (1, [.int (nI j_3), .ref f1, .ref f2, .ref f3, .ref f4])), (f1, .inl (cI, 7, .inl FC_7)), (f2, .inl (cI, 7, .inl FB_8)), (f3, .inl (cI, 7, .inl FR_9)), (f4, .inl (cZ, 7, .inl FA_10)), (r0, .inr (3, [.int 0, .int 0, .ref r1, .ref r2, .ref r3, .ref r4, .ref r5, .ref r6, .ref r7, .ref r8, .ref r9, .ref r10, .ref r11]))] H_14 := hP
    have hD : va_D A [(x, .inr (0, [.ref f0, .ref a0, .ref r0, .ref w0, .ref g0, .ref k0, .int tm, .int gp, .int lk])), (a0, .inr (2, [.int 0, .ref a1, .ref a2, .ref a3, .ref a4, .ref a5, .ref a6, .ref a7, .ref a8, .ref a9, .ref a10, .ref a11])), (k0, .inr (6, [.int 0, .ref k1, .ref k2])), (f0, .inr (1, [.int (nI j_3), .ref f1, .ref f2, .ref f3, .ref f4])), (f1, .inl (cI, 7, .inl FC_7)), (f2, .inl (cI, 7, .inl FB_8)), (f3, .inl (cI, 7, .inl FR_9)), (f4, .inl (cZ, 7, .inl FA_10)), (r0, .inr (3, [.int 0, .int 0, .ref r1, .ref r2, .ref r3, .ref r4, .ref r5, .ref r6, .ref r7, .ref r8, .ref r9, .ref r10, .ref r11]))] := hD
    refine lv_aload_n hx hb d_PC_people_44 rfl (lv_at hl 0 rfl) ?_
    refine lv_iconst (v := 0) hx hb d_PC_people_45 (by decide) ?_
    refine va_put (D := D) (ci := 0) (v := .int 0) (ty := .int) (C := R_PC) (T := F_PC) (N := 9) hx hb hts i_PC t_PC t_PC_ok n_PC hown hK hP hD hS 0 rfl rfl 6 (by decide) (hts _ q_262) (fun _ h9 => h9) rfl (by decide +kernel) rfl rfl (Nat.le_of_ble_eq_true rfl) d_PC_people_46 (fun H_15 locs hP hD hS => ?_)
    have hP : va_P D vwCl [(x, .inr (0, [.ref f0, .ref a0, .ref r0, .ref w0, .ref g0, .ref k0, .int 0, .int gp, .int lk])), (a0, .inr (2, [.int 0, .ref a1, .ref a2, .ref a3, .ref a4, .ref a5, .ref a6, .ref a7, .ref a8, .ref a9, .ref a10, .ref a11])), (k0, .inr (6, [.int 0, .ref k1, .ref k2])), (f0, .inr (1, [.int (nI j_3), .ref f1, .ref f2, .ref f3, .ref f4])), (f1, .inl (cI, 7, .inl FC_7)), (f2, .inl (cI, 7, .inl FB_8)), (f3, .inl (cI, 7, .inl FR_9)), (f4, .inl (cZ, 7, .inl FA_10)), (r0, .inr (3, [.int 0, .int 0, .ref r1, .ref r2, .ref r3, .ref r4, .ref r5, .ref r6, .ref r7, .ref r8, .ref r9, .ref r10, .ref r11]))] H_15 := hP
    have hD : va_D A [(x, .inr (0, [.ref f0, .ref a0, .ref r0, .ref w0, .ref g0, .ref k0, .int 0, .int gp, .int lk])), (a0, .inr (2, [.int 0, .ref a1, .ref a2, .ref a3, .ref a4, .ref a5, .ref a6, .ref a7, .ref a8, .ref a9, .ref a10, .ref a11])), (k0, .inr (6, [.int 0, .ref k1, .ref k2])), (f0, .inr (1, [.int (nI j_3), .ref f1, .ref f2, .ref f3, .ref f4])), (f1, .inl (cI, 7, .inl FC_7)), (f2, .inl (cI, 7, .inl FB_8)), (f3, .inl (cI, 7, .inl FR_9)), (f4, .inl (cZ, 7, .inl FA_10)), (r0, .inr (3, [.int 0, .int 0, .ref r1, .ref r2, .ref r3, .ref r4, .ref r5, .ref r6, .ref r7, .ref r8, .ref r9, .ref r10, .ref r11]))] := hD
    refine lv_iconst (v := 1) hx hb d_PC_people_49 (by decide) ?_
    have hP9 := hP.sub (ws' := [(x, .inr (0, [.ref f0, .ref a0, .ref r0, .ref w0, .ref g0, .ref k0, .int 0, .int gp, .int lk])), (f0, .inr (1, [.int (nI j_3), .ref f1, .ref f2, .ref f3, .ref f4])), (f1, .inl (cI, 7, .inl FC_7)), (f2, .inl (cI, 7, .inl FB_8)), (f3, .inl (cI, 7, .inl FR_9)), (f4, .inl (cZ, 7, .inl FA_10)), (a0, .inr (2, [.int (nI 0), .ref a1, .ref a2, .ref a3, .ref a4, .ref a5, .ref a6, .ref a7, .ref a8, .ref a9, .ref a10, .ref a11])), (r0, .inr (3, [.int (nI 0), .int 0, .ref r1, .ref r2, .ref r3, .ref r4, .ref r5, .ref r6, .ref r7, .ref r8, .ref r9, .ref r10, .ref r11])), (k0, .inr (6, [.int (nI 0), .ref k1, .ref k2]))]) [0, 3, 4, 5, 6, 7, 1, 8, 2] rfl
    have hD9 := hD.sub (ws' := [(x, .inr (0, [.ref f0, .ref a0, .ref r0, .ref w0, .ref g0, .ref k0, .int 0, .int gp, .int lk])), (f0, .inr (1, [.int (nI j_3), .ref f1, .ref f2, .ref f3, .ref f4])), (f1, .inl (cI, 7, .inl FC_7)), (f2, .inl (cI, 7, .inl FB_8)), (f3, .inl (cI, 7, .inl FR_9)), (f4, .inl (cZ, 7, .inl FA_10)), (a0, .inr (2, [.int (nI 0), .ref a1, .ref a2, .ref a3, .ref a4, .ref a5, .ref a6, .ref a7, .ref a8, .ref a9, .ref a10, .ref a11])), (r0, .inr (3, [.int (nI 0), .int 0, .ref r1, .ref r2, .ref r3, .ref r4, .ref r5, .ref r6, .ref r7, .ref r8, .ref r9, .ref r10, .ref r11])), (k0, .inr (6, [.int (nI 0), .ref k1, .ref k2]))]) [0, 3, 4, 5, 6, 7, 1, 8, 2] (by decide) rfl
    refine W.widen (k := 0) (n := 0) (Nat.le_of_ble_eq_true rfl) (Nat.le_of_ble_eq_true rfl) ?_
    exact W.iret (v := 1) hx hb hr (fun tT ht hW => ⟨⟨1, (0, j_3, 0, 0, 0, 0, FC_7, FB_8, FR_9, FA_10), rfl, ⟨(by simp [gp_people, h_2]), (by first | omega | (dsimp only; omega)), (by first | omega | (dsimp only; omega)), (by first | omega | (dsimp only; omega)), (by first | omega | (dsimp only; omega)), (Or.inr rfl)⟩, by rw [ht]; exact hP9, hD9⟩, hS.F ht⟩) hS.2.2 d_PC_people_50
  · refine lv_bipush (v := (-2)) hx hb d_PC_people_10 (by decide) ?_
    have hP9 := hP.sub (ws' := [(x, .inr (0, [.ref f0, .ref a0, .ref r0, .ref w0, .ref g0, .ref k0, .int tm, .int gp, .int lk])), (f0, .inr (1, [.int (nI nn), .ref f1, .ref f2, .ref f3, .ref f4])), (f1, .inl (cI, 7, .inl FC)), (f2, .inl (cI, 7, .inl FB)), (f3, .inl (cI, 7, .inl FR)), (f4, .inl (cZ, 7, .inl FA)), (a0, .inr (2, [.int (nI np), .ref a1, .ref a2, .ref a3, .ref a4, .ref a5, .ref a6, .ref a7, .ref a8, .ref a9, .ref a10, .ref a11])), (r0, .inr (3, [.int (nI nq), .int HA, .ref r1, .ref r2, .ref r3, .ref r4, .ref r5, .ref r6, .ref r7, .ref r8, .ref r9, .ref r10, .ref r11])), (k0, .inr (6, [.int (nI kl), .ref k1, .ref k2]))]) [0, 1, 2, 3, 4, 5, 6, 7, 8] rfl
    have hD9 := hD.sub (ws' := [(x, .inr (0, [.ref f0, .ref a0, .ref r0, .ref w0, .ref g0, .ref k0, .int tm, .int gp, .int lk])), (f0, .inr (1, [.int (nI nn), .ref f1, .ref f2, .ref f3, .ref f4])), (f1, .inl (cI, 7, .inl FC)), (f2, .inl (cI, 7, .inl FB)), (f3, .inl (cI, 7, .inl FR)), (f4, .inl (cZ, 7, .inl FA)), (a0, .inr (2, [.int (nI np), .ref a1, .ref a2, .ref a3, .ref a4, .ref a5, .ref a6, .ref a7, .ref a8, .ref a9, .ref a10, .ref a11])), (r0, .inr (3, [.int (nI nq), .int HA, .ref r1, .ref r2, .ref r3, .ref r4, .ref r5, .ref r6, .ref r7, .ref r8, .ref r9, .ref r10, .ref r11])), (k0, .inr (6, [.int (nI kl), .ref k1, .ref k2]))]) [0, 1, 2, 3, 4, 5, 6, 7, 8] (by decide) rfl
    refine W.widen (k := 0) (n := 0) (Nat.le_of_ble_eq_true rfl) (Nat.le_of_ble_eq_true rfl) ?_
    exact W.iret (v := (-2)) hx hb hr (fun tT ht hW => ⟨⟨(-2), (tm, nn, np, nq, HA, kl, FC, FB, FR, FA), rfl, ⟨(by simp [gp_people, h_2]), h_nn, h_np, h_nq, h_kl, (Or.inl rfl)⟩, by rw [ht]; exact hP9, hD9⟩, hS.F ht⟩) hS.2.2 d_PC_people_12

set_option maxHeartbeats 4000000 in
set_option maxRecDepth 100000 in
theorem g_PC_pair (l : Launch) (D : va_G) (cI cZ : ClassId) (x : Nat) (i : Int32) (j : Int32) (u : Int32) (v : Int32) (f0 : Nat) (a0 : Nat) (r0 : Nat) (w0 : Nat) (g0 : Nat) (k0 : Nat) (tm : Int32) (gp : Int32) (lk : Int32) (nn : Nat) (f1 : Nat) (f2 : Nat) (f3 : Nat) (f4 : Nat) (np : Nat) (a1 : Nat) (a2 : Nat) (a3 : Nat) (a4 : Nat) (a5 : Nat) (a6 : Nat) (a7 : Nat) (a8 : Nat) (a9 : Nat) (a10 : Nat) (a11 : Nat) (EP : Nat → Nat) (SI : Nat → Int32) (LK : Nat → Int32) (SS : Nat → Int32) (ST : Nat → Nat) (PH : Nat → Int32) (LE : Nat → Int32) (GR : Nat → Int32) (sz : Nat) (h_nn : nn ≤ 7) (h_np : np ≤ 12) (h_EP : ∀ zz, EP zz ≤ 6) (h_ST : ∀ zz, ST zz ≤ 64) (h_st : ∀ qq, qq < np → 1 ≤ ST qq) : Met l ⟨"PromiseChains", "pair", "(IIII)I"⟩ (mw ⟨"PromiseChains", "pair", "(IIII)I"⟩ prog_1_method_3_code 5 (some .int)) ({ frames := 2, cells := 0, slots := 0, locals := 48 }) (va_Pc [.ref x, .int i, .int j, .int u, .int v] (PB D cI cZ sz [(x, .inr (0, [.ref f0, .ref a0, .ref r0, .ref w0, .ref g0, .ref k0, .int tm, .int gp, .int lk])), (f0, .inr (1, [.int (nI nn), .ref f1, .ref f2, .ref f3, .ref f4])), (a0, .inr (2, [.int (nI np), .ref a1, .ref a2, .ref a3, .ref a4, .ref a5, .ref a6, .ref a7, .ref a8, .ref a9, .ref a10, .ref a11])), (a1, .inl (cI, 24, .inl (fun zy => nI (EP zy)))), (a2, .inl (cI, 24, .inl SI)), (a3, .inl (cI, 24, .inl LK)), (a4, .inl (cI, 1536, .inl SS)), (a5, .inl (cI, 12, .inl (fun zy => nI (ST zy)))), (a6, .inl (cI, 12, .inl PH)), (a10, .inl (cI, 12, .inl LE)), (a11, .inl (cI, 12, .inl GR))])) (va_Qi (S := Nat × (Nat → Nat) × (Nat → Int32) × (Nat → Int32) × (Nat → Int32) × (Nat → Nat) × (Nat → Int32) × (Nat → Int32) × (Nat → Int32)) (fun (r : Int32) uU => (r = gp_pair nn np i j u v) ∧ (uU.1 ≤ 12) ∧ (∀ zz, uU.2.1 zz ≤ 6) ∧ (∀ zz, uU.2.2.2.2.2.1 zz ≤ 64) ∧ (∀ qq, qq < uU.1 → 1 ≤ uU.2.2.2.2.2.1 qq)) (fun uU tT => BB D (va_A [(x, .inr (0, [.ref f0, .ref a0, .ref r0, .ref w0, .ref g0, .ref k0, .int tm, .int gp, .int lk])), (f0, .inr (1, [.int (nI nn), .ref f1, .ref f2, .ref f3, .ref f4])), (a0, .inr (2, [.int (nI np), .ref a1, .ref a2, .ref a3, .ref a4, .ref a5, .ref a6, .ref a7, .ref a8, .ref a9, .ref a10, .ref a11])), (a1, .inl (cI, 24, .inl (fun zy => nI (EP zy)))), (a2, .inl (cI, 24, .inl SI)), (a3, .inl (cI, 24, .inl LK)), (a4, .inl (cI, 1536, .inl SS)), (a5, .inl (cI, 12, .inl (fun zy => nI (ST zy)))), (a6, .inl (cI, 12, .inl PH)), (a10, .inl (cI, 12, .inl LE)), (a11, .inl (cI, 12, .inl GR))] sz) [(x, .inr (0, [.ref f0, .ref a0, .ref r0, .ref w0, .ref g0, .ref k0, .int tm, .int gp, .int lk])), (f0, .inr (1, [.int (nI nn), .ref f1, .ref f2, .ref f3, .ref f4])), (a0, .inr (2, [.int (nI uU.1), .ref a1, .ref a2, .ref a3, .ref a4, .ref a5, .ref a6, .ref a7, .ref a8, .ref a9, .ref a10, .ref a11])), (a1, .inl (cI, 24, .inl (fun zy => nI ((uU.2.1) zy)))), (a2, .inl (cI, 24, .inl (uU.2.2.1))), (a3, .inl (cI, 24, .inl (uU.2.2.2.1))), (a4, .inl (cI, 1536, .inl (uU.2.2.2.2.1))), (a5, .inl (cI, 12, .inl (fun zy => nI ((uU.2.2.2.2.2.1) zy)))), (a6, .inl (cI, 12, .inl (uU.2.2.2.2.2.2.1))), (a10, .inl (cI, 12, .inl (uU.2.2.2.2.2.2.2.1))), (a11, .inl (cI, 12, .inl (uU.2.2.2.2.2.2.2.2)))] tT) (va_A [(x, .inr (0, [.ref f0, .ref a0, .ref r0, .ref w0, .ref g0, .ref k0, .int tm, .int gp, .int lk])), (f0, .inr (1, [.int (nI nn), .ref f1, .ref f2, .ref f3, .ref f4])), (a0, .inr (2, [.int (nI np), .ref a1, .ref a2, .ref a3, .ref a4, .ref a5, .ref a6, .ref a7, .ref a8, .ref a9, .ref a10, .ref a11])), (a1, .inl (cI, 24, .inl (fun zy => nI (EP zy)))), (a2, .inl (cI, 24, .inl SI)), (a3, .inl (cI, 24, .inl LK)), (a4, .inl (cI, 1536, .inl SS)), (a5, .inl (cI, 12, .inl (fun zy => nI (ST zy)))), (a6, .inl (cI, 12, .inl PH)), (a10, .inl (cI, 12, .inl LE)), (a11, .inl (cI, 12, .inl GR))] sz)) 0 0 (va_A [(x, .inr (0, [.ref f0, .ref a0, .ref r0, .ref w0, .ref g0, .ref k0, .int tm, .int gp, .int lk])), (f0, .inr (1, [.int (nI nn), .ref f1, .ref f2, .ref f3, .ref f4])), (a0, .inr (2, [.int (nI np), .ref a1, .ref a2, .ref a3, .ref a4, .ref a5, .ref a6, .ref a7, .ref a8, .ref a9, .ref a10, .ref a11])), (a1, .inl (cI, 24, .inl (fun zy => nI (EP zy)))), (a2, .inl (cI, 24, .inl SI)), (a3, .inl (cI, 24, .inl LK)), (a4, .inl (cI, 1536, .inl SS)), (a5, .inl (cI, 12, .inl (fun zy => nI (ST zy)))), (a6, .inl (cI, 12, .inl PH)), (a10, .inl (cI, 12, .inl LE)), (a11, .inl (cI, 12, .inl GR))] sz) := by
  refine Met.ofW (cc := prog_1_method_3_code) (maxL := 5) (ret := (some .int)) (by decide) rfl ?_
  intro p e s m args below meth c s₁ B hml hv
  obtain ⟨rfl, hsz, hP, hK, hD0, hN⟩ := hv
  have hx := B.exec
  have hb := B.bytes
  have hr := B.returns
  have hts0 := atoms_spec (ws := mw ⟨"PromiseChains", "pair", "(IIII)I"⟩ prog_1_method_3_code 5 (some .int)) B.pre
  have hts : ∀ w ∈ tblG, w.before _ s = true := fun w h => hts0 w (List.mem_cons_of_mem _ h)
  have hown : s.vm.findClass "PromiseChains" = some m.cls := findClass_of_methodNamed B.named
  have hlocks := B.notSynchronized
  subst hsz
  have hD := hD0.self (sz := s.heap.size)
  generalize hAe : va_A [(x, .inr (0, [.ref f0, .ref a0, .ref r0, .ref w0, .ref g0, .ref k0, .int tm, .int gp, .int lk])), (f0, .inr (1, [.int (nI nn), .ref f1, .ref f2, .ref f3, .ref f4])), (a0, .inr (2, [.int (nI np), .ref a1, .ref a2, .ref a3, .ref a4, .ref a5, .ref a6, .ref a7, .ref a8, .ref a9, .ref a10, .ref a11])), (a1, .inl (cI, 24, .inl (fun zy => nI (EP zy)))), (a2, .inl (cI, 24, .inl SI)), (a3, .inl (cI, 24, .inl LK)), (a4, .inl (cI, 1536, .inl SS)), (a5, .inl (cI, 12, .inl (fun zy => nI (ST zy)))), (a6, .inl (cI, 12, .inl PH)), (a10, .inl (cI, 12, .inl LE)), (a11, .inl (cI, 12, .inl GR))] s.heap.size = A at hD ⊢
  have hA : ∀ q : Nat, s.heap.size ≤ q → A q := fun q h => by rw [← hAe]; exact Or.inr h
  have hS : va_S A s.heap s.heap [] := va_S.rf
  have hP : va_P D vwCl [(x, .inr (0, [.ref f0, .ref a0, .ref r0, .ref w0, .ref g0, .ref k0, .int tm, .int gp, .int lk])), (f0, .inr (1, [.int (nI nn), .ref f1, .ref f2, .ref f3, .ref f4])), (a0, .inr (2, [.int (nI np), .ref a1, .ref a2, .ref a3, .ref a4, .ref a5, .ref a6, .ref a7, .ref a8, .ref a9, .ref a10, .ref a11])), (a1, .inl (cI, 24, .inl (fun zy => nI (EP zy)))), (a2, .inl (cI, 24, .inl SI)), (a3, .inl (cI, 24, .inl LK)), (a4, .inl (cI, 1536, .inl SS)), (a5, .inl (cI, 12, .inl (fun zy => nI (ST zy)))), (a6, .inl (cI, 12, .inl PH)), (a10, .inl (cI, 12, .inl LE)), (a11, .inl (cI, 12, .inl GR))] s.heap := hP
  have hl := lv_entry ([.ref x, .int i, .int j, .int u, .int v]) (n := 5) (Nat.le_of_ble_eq_true rfl)
  rw [lg_entry_eq]
  generalize (lg_sl ([.ref x, .int i, .int j, .int u, .int v]) ++ List.replicate (5 - (lg_sl ([.ref x, .int i, .int j, .int u, .int v])).length) Slot.unset).toArray = ls at hl ⊢
  have hl : lv_has ls 5 [(0, .ref x), (1, .int i), (2, .int j), (3, .int u), (4, .int v)] := hl
  refine lv_aload_n hx hb d_PC_pair_0 rfl (lv_at hl 0 rfl) ?_
  refine va_get (D := D) (ci := 0) (v := .ref f0) (C := R_PC) (T := F_PC) (N := 9) hx hb hts i_PC hown hK hP 0 rfl rfl 0 (by decide) (hts _ q_256) (fun _ h9 => h9) rfl d_PC_pair_1 ?_
  refine lv_iload_n hx hb d_PC_pair_4 rfl (lv_at hl 1 rfl) ?_
  have hPc := hP.sub (ws' := [(f0, .inr (1, [.int (nI nn), .ref f1, .ref f2, .ref f3, .ref f4]))]) [1] rfl
  have hDc := hD.sub (ws' := [(f0, .inr (1, [.int (nI nn), .ref f1, .ref f2, .ref f3, .ref f4]))]) [1] (by decide) rfl
  refine vp_callSi (va_Run.run (va_runV (As := [.int i]) (rest := []) ⟨hx, hb, hml, hown, hts⟩ (g_PE_has l D cI cZ f0 i nn f1 f2 f3 f4 s.heap.size h_nn) (my_cwV 1 hts q_302 q_299 q_300 q_301 q_2 rfl rfl (by decide +kernel) ⟨Nat.le_of_ble_eq_true rfl, Nat.le_of_ble_eq_true rfl⟩) (my_preV hPc hDc hK hN 1 0 rfl rfl) rfl rfl hl.1 rfl (lv_room (Nat.le_of_ble_eq_true rfl)) d_PC_pair_5 ⟨Nat.le_of_ble_eq_true rfl, Nat.le_of_ble_eq_true rfl⟩)) (fun r_1 hw_1 => ?_)
  rcases hw_1 with ⟨hg_2, rfl⟩ | ⟨j_3, hg_4, hg_5, hg_6, rfl⟩
  · have hg_2 : isw i 0 (nI nn - 1) = 0 := hg_2
    refine lv_if_eq (tgt := 27) hx hb d_PC_pair_8 (by decide) (fun _ => ?_) (fun h => absurd h (by decide))
    refine lv_bipush (v := (-2)) hx hb d_PC_pair_27 (by decide) ?_
    have hP9 := hP.sub (ws' := [(x, .inr (0, [.ref f0, .ref a0, .ref r0, .ref w0, .ref g0, .ref k0, .int tm, .int gp, .int lk])), (f0, .inr (1, [.int (nI nn), .ref f1, .ref f2, .ref f3, .ref f4])), (a0, .inr (2, [.int (nI np), .ref a1, .ref a2, .ref a3, .ref a4, .ref a5, .ref a6, .ref a7, .ref a8, .ref a9, .ref a10, .ref a11])), (a1, .inl (cI, 24, .inl (fun zy => nI (EP zy)))), (a2, .inl (cI, 24, .inl SI)), (a3, .inl (cI, 24, .inl LK)), (a4, .inl (cI, 1536, .inl SS)), (a5, .inl (cI, 12, .inl (fun zy => nI (ST zy)))), (a6, .inl (cI, 12, .inl PH)), (a10, .inl (cI, 12, .inl LE)), (a11, .inl (cI, 12, .inl GR))]) [0, 1, 2, 3, 4, 5, 6, 7, 8, 9, 10] rfl
    have hD9 := hD.sub (ws' := [(x, .inr (0, [.ref f0, .ref a0, .ref r0, .ref w0, .ref g0, .ref k0, .int tm, .int gp, .int lk])), (f0, .inr (1, [.int (nI nn), .ref f1, .ref f2, .ref f3, .ref f4])), (a0, .inr (2, [.int (nI np), .ref a1, .ref a2, .ref a3, .ref a4, .ref a5, .ref a6, .ref a7, .ref a8, .ref a9, .ref a10, .ref a11])), (a1, .inl (cI, 24, .inl (fun zy => nI (EP zy)))), (a2, .inl (cI, 24, .inl SI)), (a3, .inl (cI, 24, .inl LK)), (a4, .inl (cI, 1536, .inl SS)), (a5, .inl (cI, 12, .inl (fun zy => nI (ST zy)))), (a6, .inl (cI, 12, .inl PH)), (a10, .inl (cI, 12, .inl LE)), (a11, .inl (cI, 12, .inl GR))]) [0, 1, 2, 3, 4, 5, 6, 7, 8, 9, 10] (by decide) rfl
    refine W.widen (k := 0) (n := 0) (Nat.le_of_ble_eq_true rfl) (Nat.le_of_ble_eq_true rfl) ?_
    exact W.iret (v := (-2)) hx hb hr (fun tT ht hW => ⟨⟨(-2), (np, EP, SI, LK, SS, ST, PH, LE, GR), rfl, ⟨(by simp [gp_pair, hg_2]), h_np, h_EP, h_ST, h_st⟩, by rw [ht]; exact hP9, hD9⟩, hS.F ht⟩) hS.2.2 d_PC_pair_29
  · have hg_4 : j_3 < nn := hg_4
    have hg_5 : i = nI j_3 := hg_5
    have hg_6 : ¬ isw i 0 (nI nn - 1) = 0 := hg_6
    subst hg_5
    refine lv_if_eq (tgt := 27) hx hb d_PC_pair_8 (by decide) (fun h => absurd h (by decide)) (fun _ => ?_)
    refine lv_aload_n hx hb d_PC_pair_11 rfl (lv_at hl 0 rfl) ?_
    refine va_get (D := D) (ci := 0) (v := .ref f0) (C := R_PC) (T := F_PC) (N := 9) hx hb hts i_PC hown hK hP 0 rfl rfl 0 (by decide) (hts _ q_256) (fun _ h9 => h9) rfl d_PC_pair_12 ?_
    refine lv_iload_n hx hb d_PC_pair_15 rfl (lv_at hl 2 rfl) ?_
    have hPc := hP.sub (ws' := [(f0, .inr (1, [.int (nI nn), .ref f1, .ref f2, .ref f3, .ref f4]))]) [1] rfl
    have hDc := hD.sub (ws' := [(f0, .inr (1, [.int (nI nn), .ref f1, .ref f2, .ref f3, .ref f4]))]) [1] (by decide) rfl
    refine vp_callSi (va_Run.run (va_runV (As := [.int j]) (rest := []) ⟨hx, hb, hml, hown, hts⟩ (g_PE_has l D cI cZ f0 j nn f1 f2 f3 f4 s.heap.size h_nn) (my_cwV 1 hts q_302 q_299 q_300 q_301 q_2 rfl rfl (by decide +kernel) ⟨Nat.le_of_ble_eq_true rfl, Nat.le_of_ble_eq_true rfl⟩) (my_preV hPc hDc hK hN 1 0 rfl rfl) rfl rfl hl.1 rfl (lv_room (Nat.le_of_ble_eq_true rfl)) d_PC_pair_16 ⟨Nat.le_of_ble_eq_true rfl, Nat.le_of_ble_eq_true rfl⟩)) (fun r_9 hw_9 => ?_)
    rcases hw_9 with ⟨hg_10, rfl⟩ | ⟨j_11, hg_12, hg_13, hg_14, rfl⟩
    · have hg_10 : isw j 0 (nI nn - 1) = 0 := hg_10
      refine lv_if_eq (tgt := 27) hx hb d_PC_pair_19 (by decide) (fun _ => ?_) (fun h => absurd h (by decide))
      refine lv_bipush (v := (-2)) hx hb d_PC_pair_27 (by decide) ?_
      have hP9 := hP.sub (ws' := [(x, .inr (0, [.ref f0, .ref a0, .ref r0, .ref w0, .ref g0, .ref k0, .int tm, .int gp, .int lk])), (f0, .inr (1, [.int (nI nn), .ref f1, .ref f2, .ref f3, .ref f4])), (a0, .inr (2, [.int (nI np), .ref a1, .ref a2, .ref a3, .ref a4, .ref a5, .ref a6, .ref a7, .ref a8, .ref a9, .ref a10, .ref a11])), (a1, .inl (cI, 24, .inl (fun zy => nI (EP zy)))), (a2, .inl (cI, 24, .inl SI)), (a3, .inl (cI, 24, .inl LK)), (a4, .inl (cI, 1536, .inl SS)), (a5, .inl (cI, 12, .inl (fun zy => nI (ST zy)))), (a6, .inl (cI, 12, .inl PH)), (a10, .inl (cI, 12, .inl LE)), (a11, .inl (cI, 12, .inl GR))]) [0, 1, 2, 3, 4, 5, 6, 7, 8, 9, 10] rfl
      have hD9 := hD.sub (ws' := [(x, .inr (0, [.ref f0, .ref a0, .ref r0, .ref w0, .ref g0, .ref k0, .int tm, .int gp, .int lk])), (f0, .inr (1, [.int (nI nn), .ref f1, .ref f2, .ref f3, .ref f4])), (a0, .inr (2, [.int (nI np), .ref a1, .ref a2, .ref a3, .ref a4, .ref a5, .ref a6, .ref a7, .ref a8, .ref a9, .ref a10, .ref a11])), (a1, .inl (cI, 24, .inl (fun zy => nI (EP zy)))), (a2, .inl (cI, 24, .inl SI)), (a3, .inl (cI, 24, .inl LK)), (a4, .inl (cI, 1536, .inl SS)), (a5, .inl (cI, 12, .inl (fun zy => nI (ST zy)))), (a6, .inl (cI, 12, .inl PH)), (a10, .inl (cI, 12, .inl LE)), (a11, .inl (cI, 12, .inl GR))]) [0, 1, 2, 3, 4, 5, 6, 7, 8, 9, 10] (by decide) rfl
      refine W.widen (k := 0) (n := 0) (Nat.le_of_ble_eq_true rfl) (Nat.le_of_ble_eq_true rfl) ?_
      exact W.iret (v := (-2)) hx hb hr (fun tT ht hW => ⟨⟨(-2), (np, EP, SI, LK, SS, ST, PH, LE, GR), rfl, ⟨(by simp [gp_pair, hg_6, hg_10]), h_np, h_EP, h_ST, h_st⟩, by rw [ht]; exact hP9, hD9⟩, hS.F ht⟩) hS.2.2 d_PC_pair_29
    · have hg_12 : j_11 < nn := hg_12
      have hg_13 : j = nI j_11 := hg_13
      have hg_14 : ¬ isw j 0 (nI nn - 1) = 0 := hg_14
      subst hg_13
      refine lv_if_eq (tgt := 27) hx hb d_PC_pair_19 (by decide) (fun h => absurd h (by decide)) (fun _ => ?_)
      refine lv_iload_n hx hb d_PC_pair_22 rfl (lv_at hl 1 rfl) ?_
      refine lv_iload_n hx hb d_PC_pair_23 rfl (lv_at hl 2 rfl) ?_
      refine lv_icmp_ne (tgt := 30) hx hb d_PC_pair_24 (by decide) (fun h_17 => ?_) (fun h_17 => ?_)
      · have nh_17 : ¬ j_3 = j_11 := fun qZ => h_17 ((nI_eq (a := j_3) (b := j_11) (by omega) (by omega)).mpr qZ)
        refine lv_iload_n hx hb d_PC_pair_30 rfl (lv_at hl 3 rfl) ?_
        refine lv_iconst (v := 0) hx hb d_PC_pair_31 (by decide) ?_
        refine lv_ldc hx hb hown (hts _ q_304) d_PC_pair_32 ?_
        have hPc := hP.sub (ws' := []) [] rfl
        have hDc := hD.sub (ws' := []) [] (by decide) rfl
        refine vp_callSi (va_Run.run (va_runS (As := [.int u, .int 0, .int 100000]) (rest := []) ⟨hx, hb, hml, hown, hts⟩ (g_within l D cI cZ u 0 100000 s.heap.size ) (my_cwS 3 hts q_290 q_288 q_289 q_1 rfl rfl (by decide +kernel) ⟨Nat.le_of_ble_eq_true rfl, Nat.le_of_ble_eq_true rfl⟩) (my_preS hPc hDc hK hN) rfl rfl hl.1 rfl (lv_room (Nat.le_of_ble_eq_true rfl)) d_PC_pair_34 ⟨Nat.le_of_ble_eq_true rfl, Nat.le_of_ble_eq_true rfl⟩)) (fun r_18 hw_18 => ?_)
        have hf_18_0 : r_18 = isw u 0 100000 := hw_18
        have hf_18_0 : r_18 = isw u 0 100000 := hf_18_0
        subst hf_18_0
        refine lv_if_eq (tgt := 51) hx hb d_PC_pair_37 (by decide) (fun h_19 => ?_) (fun h_19 => ?_)
        · refine lv_bipush (v := (-2)) hx hb d_PC_pair_51 (by decide) ?_
          have hP9 := hP.sub (ws' := [(x, .inr (0, [.ref f0, .ref a0, .ref r0, .ref w0, .ref g0, .ref k0, .int tm, .int gp, .int lk])), (f0, .inr (1, [.int (nI nn), .ref f1, .ref f2, .ref f3, .ref f4])), (a0, .inr (2, [.int (nI np), .ref a1, .ref a2, .ref a3, .ref a4, .ref a5, .ref a6, .ref a7, .ref a8, .ref a9, .ref a10, .ref a11])), (a1, .inl (cI, 24, .inl (fun zy => nI (EP zy)))), (a2, .inl (cI, 24, .inl SI)), (a3, .inl (cI, 24, .inl LK)), (a4, .inl (cI, 1536, .inl SS)), (a5, .inl (cI, 12, .inl (fun zy => nI (ST zy)))), (a6, .inl (cI, 12, .inl PH)), (a10, .inl (cI, 12, .inl LE)), (a11, .inl (cI, 12, .inl GR))]) [0, 1, 2, 3, 4, 5, 6, 7, 8, 9, 10] rfl
          have hD9 := hD.sub (ws' := [(x, .inr (0, [.ref f0, .ref a0, .ref r0, .ref w0, .ref g0, .ref k0, .int tm, .int gp, .int lk])), (f0, .inr (1, [.int (nI nn), .ref f1, .ref f2, .ref f3, .ref f4])), (a0, .inr (2, [.int (nI np), .ref a1, .ref a2, .ref a3, .ref a4, .ref a5, .ref a6, .ref a7, .ref a8, .ref a9, .ref a10, .ref a11])), (a1, .inl (cI, 24, .inl (fun zy => nI (EP zy)))), (a2, .inl (cI, 24, .inl SI)), (a3, .inl (cI, 24, .inl LK)), (a4, .inl (cI, 1536, .inl SS)), (a5, .inl (cI, 12, .inl (fun zy => nI (ST zy)))), (a6, .inl (cI, 12, .inl PH)), (a10, .inl (cI, 12, .inl LE)), (a11, .inl (cI, 12, .inl GR))]) [0, 1, 2, 3, 4, 5, 6, 7, 8, 9, 10] (by decide) rfl
          refine W.widen (k := 0) (n := 0) (Nat.le_of_ble_eq_true rfl) (Nat.le_of_ble_eq_true rfl) ?_
          exact W.iret (v := (-2)) hx hb hr (fun tT ht hW => ⟨⟨(-2), (np, EP, SI, LK, SS, ST, PH, LE, GR), rfl, ⟨(by simp [gp_pair, hg_6, hg_14, h_17, nh_17, h_19]), h_np, h_EP, h_ST, h_st⟩, by rw [ht]; exact hP9, hD9⟩, hS.F ht⟩) hS.2.2 d_PC_pair_53
        · refine lv_iload hx hb d_PC_pair_40 (lv_at hl 4 rfl) ?_
          refine lv_iconst (v := 0) hx hb d_PC_pair_42 (by decide) ?_
          refine lv_ldc hx hb hown (hts _ q_304) d_PC_pair_43 ?_
          have hPc := hP.sub (ws' := []) [] rfl
          have hDc := hD.sub (ws' := []) [] (by decide) rfl
          refine vp_callSi (va_Run.run (va_runS (As := [.int v, .int 0, .int 100000]) (rest := []) ⟨hx, hb, hml, hown, hts⟩ (g_within l D cI cZ v 0 100000 s.heap.size ) (my_cwS 3 hts q_290 q_288 q_289 q_1 rfl rfl (by decide +kernel) ⟨Nat.le_of_ble_eq_true rfl, Nat.le_of_ble_eq_true rfl⟩) (my_preS hPc hDc hK hN) rfl rfl hl.1 rfl (lv_room (Nat.le_of_ble_eq_true rfl)) d_PC_pair_45 ⟨Nat.le_of_ble_eq_true rfl, Nat.le_of_ble_eq_true rfl⟩)) (fun r_20 hw_20 => ?_)
          have hf_20_0 : r_20 = isw v 0 100000 := hw_20
          have hf_20_0 : r_20 = isw v 0 100000 := hf_20_0
          subst hf_20_0
          refine lv_if_ne (tgt := 54) hx hb d_PC_pair_48 (by decide) (fun h_21 => ?_) (fun h_21 => ?_)
          · refine lv_aload_n hx hb d_PC_pair_54 rfl (lv_at hl 0 rfl) ?_
            refine va_get (D := D) (ci := 0) (v := .ref a0) (C := R_PC) (T := F_PC) (N := 9) hx hb hts i_PC hown hK hP 0 rfl rfl 1 (by decide) (hts _ q_257) (fun _ h9 => h9) rfl d_PC_pair_55 ?_
            refine va_get (D := D) (ci := 2) (v := .int (nI np)) (C := R_PA) (T := F_PA) (N := 12) hx hb hts i_PA hown hK hP 2 rfl rfl 0 (by decide) (hts _ q_57) (fun _ h9 => h9) rfl d_PC_pair_58 ?_
            refine lv_bipush (v := 12) hx hb d_PC_pair_61 (by decide) ?_
            refine lv_icmp_lt (tgt := 69) hx hb d_PC_pair_63 (by decide) (fun h_22 => ?_) (fun h_22 => ?_)
            · have nh_22 : np < 12 := (nI_ltI (a := np) (b := 12) (by omega) (by omega)).mp h_22
              refine lv_aload_n hx hb d_PC_pair_69 rfl (lv_at hl 0 rfl) ?_
              refine va_get (D := D) (ci := 0) (v := .ref a0) (C := R_PC) (T := F_PC) (N := 9) hx hb hts i_PC hown hK hP 0 rfl rfl 1 (by decide) (hts _ q_257) (fun _ h9 => h9) rfl d_PC_pair_70 ?_
              refine lv_iload_n hx hb d_PC_pair_73 rfl (lv_at hl 1 rfl) ?_
              refine lv_iload_n hx hb d_PC_pair_74 rfl (lv_at hl 2 rfl) ?_
              refine lv_iload_n hx hb d_PC_pair_75 rfl (lv_at hl 3 rfl) ?_
              refine lv_iload hx hb d_PC_pair_76 (lv_at hl 4 rfl) ?_
              have hPc := hP.sub (ws' := [(a0, .inr (2, [.int (nI np), .ref a1, .ref a2, .ref a3, .ref a4, .ref a5, .ref a6, .ref a7, .ref a8, .ref a9, .ref a10, .ref a11])), (a1, .inl (cI, 24, .inl (fun zy => nI (EP zy)))), (a2, .inl (cI, 24, .inl SI)), (a3, .inl (cI, 24, .inl LK)), (a4, .inl (cI, 1536, .inl SS)), (a5, .inl (cI, 12, .inl (fun zy => nI (ST zy)))), (a6, .inl (cI, 12, .inl PH)), (a10, .inl (cI, 12, .inl LE)), (a11, .inl (cI, 12, .inl GR))]) [2, 3, 4, 5, 6, 7, 8, 9, 10] rfl
              have hDc := hD.sub (ws' := [(a0, .inr (2, [.int (nI np), .ref a1, .ref a2, .ref a3, .ref a4, .ref a5, .ref a6, .ref a7, .ref a8, .ref a9, .ref a10, .ref a11])), (a1, .inl (cI, 24, .inl (fun zy => nI (EP zy)))), (a2, .inl (cI, 24, .inl SI)), (a3, .inl (cI, 24, .inl LK)), (a4, .inl (cI, 1536, .inl SS)), (a5, .inl (cI, 12, .inl (fun zy => nI (ST zy)))), (a6, .inl (cI, 12, .inl PH)), (a10, .inl (cI, 12, .inl LE)), (a11, .inl (cI, 12, .inl GR))]) [2, 3, 4, 5, 6, 7, 8, 9, 10] (by decide) rfl
              have hFc := va_free (wc := [(a0, .inr (2, [.int (nI np), .ref a1, .ref a2, .ref a3, .ref a4, .ref a5, .ref a6, .ref a7, .ref a8, .ref a9, .ref a10, .ref a11])), (a1, .inl (cI, 24, .inl (fun zy => nI (EP zy)))), (a2, .inl (cI, 24, .inl SI)), (a3, .inl (cI, 24, .inl LK)), (a4, .inl (cI, 1536, .inl SS)), (a5, .inl (cI, 12, .inl (fun zy => nI (ST zy)))), (a6, .inl (cI, 12, .inl PH)), (a10, .inl (cI, 12, .inl LE)), (a11, .inl (cI, 12, .inl GR))]) hD hS hA [2, 3, 4, 5, 6, 7, 8, 9, 10] rfl
              refine va_calli (va_runV (As := [.int (nI j_3), .int (nI j_11), .int u, .int v]) (rest := []) ⟨hx, hb, hml, hown, hts⟩ (g_PA_add l D cI cZ a0 j_3 j_11 u v np a1 a2 a3 a4 a5 a6 a7 a8 a9 a10 a11 EP SI LK SS ST PH LE GR s.heap.size h_np h_EP h_ST nh_22 (by first | omega | (dsimp only; omega)) (by first | omega | (dsimp only; omega))) (my_cwV 4 hts q_308 q_305 q_306 q_307 q_3 rfl rfl (by decide +kernel) ⟨Nat.le_of_ble_eq_true rfl, Nat.le_of_ble_eq_true rfl⟩) (my_preV hPc hDc hK hN 2 0 rfl rfl) rfl rfl hl.1 rfl (lv_room (Nat.le_of_ble_eq_true rfl)) d_PC_pair_78 ⟨Nat.le_of_ble_eq_true rfl, Nat.le_of_ble_eq_true rfl⟩) hS (fun q _ h => hFc q h) hFc (fun r_23 uU tT H_24 locs ht hvm hw_23 hB hz1 hk1 hS => ?_)
              obtain ⟨EP_25, SI_26, LK_27, SS_28, ST_29, PH_30, LE_31, GR_32⟩ := uU
              obtain ⟨hP1, hD1⟩ := hB
              rw [ht] at hP1
              obtain ⟨hP, hD⟩ := va_join (wr := [(x, .inr (0, [.ref f0, .ref a0, .ref r0, .ref w0, .ref g0, .ref k0, .int tm, .int gp, .int lk])), (f0, .inr (1, [.int (nI nn), .ref f1, .ref f2, .ref f3, .ref f4]))]) (w1 := [(a0, .inr (2, [.int (nI (np + 1)), .ref a1, .ref a2, .ref a3, .ref a4, .ref a5, .ref a6, .ref a7, .ref a8, .ref a9, .ref a10, .ref a11])), (a1, .inl (cI, 24, .inl (fun zy => nI (EP_25 zy)))), (a2, .inl (cI, 24, .inl SI_26)), (a3, .inl (cI, 24, .inl LK_27)), (a4, .inl (cI, 1536, .inl SS_28)), (a5, .inl (cI, 12, .inl (fun zy => nI (ST_29 zy)))), (a6, .inl (cI, 12, .inl PH_30)), (a10, .inl (cI, 12, .inl LE_31)), (a11, .inl (cI, 12, .inl GR_32))]) hP hD [2, 3, 4, 5, 6, 7, 8, 9, 10] [0, 1] rfl rfl (by decide) (by decide) hk1 hFc hP1 hD1
              have hP : va_P D vwCl [(x, .inr (0, [.ref f0, .ref a0, .ref r0, .ref w0, .ref g0, .ref k0, .int tm, .int gp, .int lk])), (f0, .inr (1, [.int (nI nn), .ref f1, .ref f2, .ref f3, .ref f4])), (a0, .inr (2, [.int (nI (np + 1)), .ref a1, .ref a2, .ref a3, .ref a4, .ref a5, .ref a6, .ref a7, .ref a8, .ref a9, .ref a10, .ref a11])), (a1, .inl (cI, 24, .inl (fun zy => nI (EP_25 zy)))), (a2, .inl (cI, 24, .inl SI_26)), (a3, .inl (cI, 24, .inl LK_27)), (a4, .inl (cI, 1536, .inl SS_28)), (a5, .inl (cI, 12, .inl (fun zy => nI (ST_29 zy)))), (a6, .inl (cI, 12, .inl PH_30)), (a10, .inl (cI, 12, .inl LE_31)), (a11, .inl (cI, 12, .inl GR_32))] H_24 := hP
              have hD : va_D A [(x, .inr (0, [.ref f0, .ref a0, .ref r0, .ref w0, .ref g0, .ref k0, .int tm, .int gp, .int lk])), (f0, .inr (1, [.int (nI nn), .ref f1, .ref f2, .ref f3, .ref f4])), (a0, .inr (2, [.int (nI (np + 1)), .ref a1, .ref a2, .ref a3, .ref a4, .ref a5, .ref a6, .ref a7, .ref a8, .ref a9, .ref a10, .ref a11])), (a1, .inl (cI, 24, .inl (fun zy => nI (EP_25 zy)))), (a2, .inl (cI, 24, .inl SI_26)), (a3, .inl (cI, 24, .inl LK_27)), (a4, .inl (cI, 1536, .inl SS_28)), (a5, .inl (cI, 12, .inl (fun zy => nI (ST_29 zy)))), (a6, .inl (cI, 12, .inl PH_30)), (a10, .inl (cI, 12, .inl LE_31)), (a11, .inl (cI, 12, .inl GR_32))] := hD
              have hw_23 : (r_23 = nI np) ∧ (∀ zz, EP_25 zz ≤ 6) ∧ (∀ zz, ST_29 zz ≤ 64) ∧ (∀ qq, qq ≠ np → 1 ≤ ST qq → 1 ≤ ST_29 qq) ∧ (1 ≤ ST_29 np) := hw_23
              obtain ⟨hf_32_0, hf_32_1, hf_32_2, hf_32_3, hf_32_4⟩ := hw_23
              have hf_32_1 : ∀ zz, EP_25 zz ≤ 6 := hf_32_1
              have hf_32_2 : ∀ zz, ST_29 zz ≤ 64 := hf_32_2
              have hf_32_3 : ∀ qq, qq ≠ np → 1 ≤ ST qq → 1 ≤ ST_29 qq := hf_32_3
              have hf_32_4 : 1 ≤ ST_29 np := hf_32_4
              have hf_32_0 : r_23 = nI np := hf_32_0
              subst hf_32_0
              have hP9 := hP.sub (ws' := [(x, .inr (0, [.ref f0, .ref a0, .ref r0, .ref w0, .ref g0, .ref k0, .int tm, .int gp, .int lk])), (f0, .inr (1, [.int (nI nn), .ref f1, .ref f2, .ref f3, .ref f4])), (a0, .inr (2, [.int (nI (np + 1)), .ref a1, .ref a2, .ref a3, .ref a4, .ref a5, .ref a6, .ref a7, .ref a8, .ref a9, .ref a10, .ref a11])), (a1, .inl (cI, 24, .inl (fun zy => nI (EP_25 zy)))), (a2, .inl (cI, 24, .inl SI_26)), (a3, .inl (cI, 24, .inl LK_27)), (a4, .inl (cI, 1536, .inl SS_28)), (a5, .inl (cI, 12, .inl (fun zy => nI (ST_29 zy)))), (a6, .inl (cI, 12, .inl PH_30)), (a10, .inl (cI, 12, .inl LE_31)), (a11, .inl (cI, 12, .inl GR_32))]) [0, 1, 2, 3, 4, 5, 6, 7, 8, 9, 10] rfl
              have hD9 := hD.sub (ws' := [(x, .inr (0, [.ref f0, .ref a0, .ref r0, .ref w0, .ref g0, .ref k0, .int tm, .int gp, .int lk])), (f0, .inr (1, [.int (nI nn), .ref f1, .ref f2, .ref f3, .ref f4])), (a0, .inr (2, [.int (nI (np + 1)), .ref a1, .ref a2, .ref a3, .ref a4, .ref a5, .ref a6, .ref a7, .ref a8, .ref a9, .ref a10, .ref a11])), (a1, .inl (cI, 24, .inl (fun zy => nI (EP_25 zy)))), (a2, .inl (cI, 24, .inl SI_26)), (a3, .inl (cI, 24, .inl LK_27)), (a4, .inl (cI, 1536, .inl SS_28)), (a5, .inl (cI, 12, .inl (fun zy => nI (ST_29 zy)))), (a6, .inl (cI, 12, .inl PH_30)), (a10, .inl (cI, 12, .inl LE_31)), (a11, .inl (cI, 12, .inl GR_32))]) [0, 1, 2, 3, 4, 5, 6, 7, 8, 9, 10] (by decide) rfl
              refine W.widen (k := 0) (n := 0) (Nat.le_of_ble_eq_true rfl) (Nat.le_of_ble_eq_true rfl) ?_
              exact W.iret (v := (nI np)) hx hb hr (fun tT ht hW => ⟨⟨(nI np), ((np + 1), EP_25, SI_26, LK_27, SS_28, ST_29, PH_30, LE_31, GR_32), rfl, ⟨(by simp [gp_pair, hg_6, hg_14, h_17, nh_17, h_19, h_21, h_22, nh_22]), (by first | omega | (dsimp only; omega)), hf_32_1, hf_32_2, (fun qq h => if e : qq = np then (by rw [e]; exact hf_32_4) else hf_32_3 qq e (h_st qq (by omega)))⟩, by rw [ht]; exact hP9, hD9⟩, hS.F ht⟩) hS.2.2 d_PC_pair_81
            · have nh_22 : ¬ np < 12 := fun qZ => h_22 ((nI_ltI (a := np) (b := 12) (by omega) (by omega)).mpr qZ)
              refine lv_bipush (v := (-4)) hx hb d_PC_pair_66 (by decide) ?_
              have hP9 := hP.sub (ws' := [(x, .inr (0, [.ref f0, .ref a0, .ref r0, .ref w0, .ref g0, .ref k0, .int tm, .int gp, .int lk])), (f0, .inr (1, [.int (nI nn), .ref f1, .ref f2, .ref f3, .ref f4])), (a0, .inr (2, [.int (nI np), .ref a1, .ref a2, .ref a3, .ref a4, .ref a5, .ref a6, .ref a7, .ref a8, .ref a9, .ref a10, .ref a11])), (a1, .inl (cI, 24, .inl (fun zy => nI (EP zy)))), (a2, .inl (cI, 24, .inl SI)), (a3, .inl (cI, 24, .inl LK)), (a4, .inl (cI, 1536, .inl SS)), (a5, .inl (cI, 12, .inl (fun zy => nI (ST zy)))), (a6, .inl (cI, 12, .inl PH)), (a10, .inl (cI, 12, .inl LE)), (a11, .inl (cI, 12, .inl GR))]) [0, 1, 2, 3, 4, 5, 6, 7, 8, 9, 10] rfl
              have hD9 := hD.sub (ws' := [(x, .inr (0, [.ref f0, .ref a0, .ref r0, .ref w0, .ref g0, .ref k0, .int tm, .int gp, .int lk])), (f0, .inr (1, [.int (nI nn), .ref f1, .ref f2, .ref f3, .ref f4])), (a0, .inr (2, [.int (nI np), .ref a1, .ref a2, .ref a3, .ref a4, .ref a5, .ref a6, .ref a7, .ref a8, .ref a9, .ref a10, .ref a11])), (a1, .inl (cI, 24, .inl (fun zy => nI (EP zy)))), (a2, .inl (cI, 24, .inl SI)), (a3, .inl (cI, 24, .inl LK)), (a4, .inl (cI, 1536, .inl SS)), (a5, .inl (cI, 12, .inl (fun zy => nI (ST zy)))), (a6, .inl (cI, 12, .inl PH)), (a10, .inl (cI, 12, .inl LE)), (a11, .inl (cI, 12, .inl GR))]) [0, 1, 2, 3, 4, 5, 6, 7, 8, 9, 10] (by decide) rfl
              refine W.widen (k := 0) (n := 0) (Nat.le_of_ble_eq_true rfl) (Nat.le_of_ble_eq_true rfl) ?_
              exact W.iret (v := (-4)) hx hb hr (fun tT ht hW => ⟨⟨(-4), (np, EP, SI, LK, SS, ST, PH, LE, GR), rfl, ⟨(by simp [gp_pair, hg_6, hg_14, h_17, nh_17, h_19, h_21, h_22, nh_22]), h_np, h_EP, h_ST, h_st⟩, by rw [ht]; exact hP9, hD9⟩, hS.F ht⟩) hS.2.2 d_PC_pair_68
          · refine lv_bipush (v := (-2)) hx hb d_PC_pair_51 (by decide) ?_
            have hP9 := hP.sub (ws' := [(x, .inr (0, [.ref f0, .ref a0, .ref r0, .ref w0, .ref g0, .ref k0, .int tm, .int gp, .int lk])), (f0, .inr (1, [.int (nI nn), .ref f1, .ref f2, .ref f3, .ref f4])), (a0, .inr (2, [.int (nI np), .ref a1, .ref a2, .ref a3, .ref a4, .ref a5, .ref a6, .ref a7, .ref a8, .ref a9, .ref a10, .ref a11])), (a1, .inl (cI, 24, .inl (fun zy => nI (EP zy)))), (a2, .inl (cI, 24, .inl SI)), (a3, .inl (cI, 24, .inl LK)), (a4, .inl (cI, 1536, .inl SS)), (a5, .inl (cI, 12, .inl (fun zy => nI (ST zy)))), (a6, .inl (cI, 12, .inl PH)), (a10, .inl (cI, 12, .inl LE)), (a11, .inl (cI, 12, .inl GR))]) [0, 1, 2, 3, 4, 5, 6, 7, 8, 9, 10] rfl
            have hD9 := hD.sub (ws' := [(x, .inr (0, [.ref f0, .ref a0, .ref r0, .ref w0, .ref g0, .ref k0, .int tm, .int gp, .int lk])), (f0, .inr (1, [.int (nI nn), .ref f1, .ref f2, .ref f3, .ref f4])), (a0, .inr (2, [.int (nI np), .ref a1, .ref a2, .ref a3, .ref a4, .ref a5, .ref a6, .ref a7, .ref a8, .ref a9, .ref a10, .ref a11])), (a1, .inl (cI, 24, .inl (fun zy => nI (EP zy)))), (a2, .inl (cI, 24, .inl SI)), (a3, .inl (cI, 24, .inl LK)), (a4, .inl (cI, 1536, .inl SS)), (a5, .inl (cI, 12, .inl (fun zy => nI (ST zy)))), (a6, .inl (cI, 12, .inl PH)), (a10, .inl (cI, 12, .inl LE)), (a11, .inl (cI, 12, .inl GR))]) [0, 1, 2, 3, 4, 5, 6, 7, 8, 9, 10] (by decide) rfl
            refine W.widen (k := 0) (n := 0) (Nat.le_of_ble_eq_true rfl) (Nat.le_of_ble_eq_true rfl) ?_
            exact W.iret (v := (-2)) hx hb hr (fun tT ht hW => ⟨⟨(-2), (np, EP, SI, LK, SS, ST, PH, LE, GR), rfl, ⟨(by simp [gp_pair, hg_6, hg_14, h_17, nh_17, h_19, h_21]), h_np, h_EP, h_ST, h_st⟩, by rw [ht]; exact hP9, hD9⟩, hS.F ht⟩) hS.2.2 d_PC_pair_53
      · have nh_17 : j_3 = j_11 := (nI_eq (a := j_3) (b := j_11) (by omega) (by omega)).mp h_17
        refine lv_bipush (v := (-2)) hx hb d_PC_pair_27 (by decide) ?_
        have hP9 := hP.sub (ws' := [(x, .inr (0, [.ref f0, .ref a0, .ref r0, .ref w0, .ref g0, .ref k0, .int tm, .int gp, .int lk])), (f0, .inr (1, [.int (nI nn), .ref f1, .ref f2, .ref f3, .ref f4])), (a0, .inr (2, [.int (nI np), .ref a1, .ref a2, .ref a3, .ref a4, .ref a5, .ref a6, .ref a7, .ref a8, .ref a9, .ref a10, .ref a11])), (a1, .inl (cI, 24, .inl (fun zy => nI (EP zy)))), (a2, .inl (cI, 24, .inl SI)), (a3, .inl (cI, 24, .inl LK)), (a4, .inl (cI, 1536, .inl SS)), (a5, .inl (cI, 12, .inl (fun zy => nI (ST zy)))), (a6, .inl (cI, 12, .inl PH)), (a10, .inl (cI, 12, .inl LE)), (a11, .inl (cI, 12, .inl GR))]) [0, 1, 2, 3, 4, 5, 6, 7, 8, 9, 10] rfl
        have hD9 := hD.sub (ws' := [(x, .inr (0, [.ref f0, .ref a0, .ref r0, .ref w0, .ref g0, .ref k0, .int tm, .int gp, .int lk])), (f0, .inr (1, [.int (nI nn), .ref f1, .ref f2, .ref f3, .ref f4])), (a0, .inr (2, [.int (nI np), .ref a1, .ref a2, .ref a3, .ref a4, .ref a5, .ref a6, .ref a7, .ref a8, .ref a9, .ref a10, .ref a11])), (a1, .inl (cI, 24, .inl (fun zy => nI (EP zy)))), (a2, .inl (cI, 24, .inl SI)), (a3, .inl (cI, 24, .inl LK)), (a4, .inl (cI, 1536, .inl SS)), (a5, .inl (cI, 12, .inl (fun zy => nI (ST zy)))), (a6, .inl (cI, 12, .inl PH)), (a10, .inl (cI, 12, .inl LE)), (a11, .inl (cI, 12, .inl GR))]) [0, 1, 2, 3, 4, 5, 6, 7, 8, 9, 10] (by decide) rfl
        refine W.widen (k := 0) (n := 0) (Nat.le_of_ble_eq_true rfl) (Nat.le_of_ble_eq_true rfl) ?_
        exact W.iret (v := (-2)) hx hb hr (fun tT ht hW => ⟨⟨(-2), (np, EP, SI, LK, SS, ST, PH, LE, GR), rfl, ⟨(by simp [gp_pair, hg_6, hg_14, h_17, nh_17]), h_np, h_EP, h_ST, h_st⟩, by rw [ht]; exact hP9, hD9⟩, hS.F ht⟩) hS.2.2 d_PC_pair_29

set_option maxHeartbeats 4000000 in
set_option maxRecDepth 100000 in
theorem g_PC_fee (l : Launch) (D : va_G) (cI cZ : ClassId) (x : Nat) (i : Int32) (u : Int32) (v : Int32) (f0 : Nat) (a0 : Nat) (r0 : Nat) (w0 : Nat) (g0 : Nat) (k0 : Nat) (tm : Int32) (gp : Int32) (lk : Int32) (nn : Nat) (f1 : Nat) (f2 : Nat) (f3 : Nat) (f4 : Nat) (FB : Nat → Int32) (FR : Nat → Int32) (sz : Nat) (h_nn : nn ≤ 7) : Met l ⟨"PromiseChains", "fee", "(III)I"⟩ (mw ⟨"PromiseChains", "fee", "(III)I"⟩ prog_1_method_4_code 4 (some .int)) ({ frames := 2, cells := 0, slots := 0, locals := 43 }) (va_Pc [.ref x, .int i, .int u, .int v] (PB D cI cZ sz [(x, .inr (0, [.ref f0, .ref a0, .ref r0, .ref w0, .ref g0, .ref k0, .int tm, .int gp, .int lk])), (f0, .inr (1, [.int (nI nn), .ref f1, .ref f2, .ref f3, .ref f4])), (f2, .inl (cI, 7, .inl FB)), (f3, .inl (cI, 7, .inl FR))])) (va_Qi (S := (Nat → Int32) × (Nat → Int32)) (fun (r : Int32) uU => r = gp_fee nn i u v) (fun uU tT => BB D (va_A [(x, .inr (0, [.ref f0, .ref a0, .ref r0, .ref w0, .ref g0, .ref k0, .int tm, .int gp, .int lk])), (f0, .inr (1, [.int (nI nn), .ref f1, .ref f2, .ref f3, .ref f4])), (f2, .inl (cI, 7, .inl FB)), (f3, .inl (cI, 7, .inl FR))] sz) [(x, .inr (0, [.ref f0, .ref a0, .ref r0, .ref w0, .ref g0, .ref k0, .int tm, .int gp, .int lk])), (f0, .inr (1, [.int (nI nn), .ref f1, .ref f2, .ref f3, .ref f4])), (f2, .inl (cI, 7, .inl (uU.1))), (f3, .inl (cI, 7, .inl (uU.2)))] tT) (va_A [(x, .inr (0, [.ref f0, .ref a0, .ref r0, .ref w0, .ref g0, .ref k0, .int tm, .int gp, .int lk])), (f0, .inr (1, [.int (nI nn), .ref f1, .ref f2, .ref f3, .ref f4])), (f2, .inl (cI, 7, .inl FB)), (f3, .inl (cI, 7, .inl FR))] sz)) 0 0 (va_A [(x, .inr (0, [.ref f0, .ref a0, .ref r0, .ref w0, .ref g0, .ref k0, .int tm, .int gp, .int lk])), (f0, .inr (1, [.int (nI nn), .ref f1, .ref f2, .ref f3, .ref f4])), (f2, .inl (cI, 7, .inl FB)), (f3, .inl (cI, 7, .inl FR))] sz) := by
  refine Met.ofW (cc := prog_1_method_4_code) (maxL := 4) (ret := (some .int)) (by decide) rfl ?_
  intro p e s m args below meth c s₁ B hml hv
  obtain ⟨rfl, hsz, hP, hK, hD0, hN⟩ := hv
  have hx := B.exec
  have hb := B.bytes
  have hr := B.returns
  have hts0 := atoms_spec (ws := mw ⟨"PromiseChains", "fee", "(III)I"⟩ prog_1_method_4_code 4 (some .int)) B.pre
  have hts : ∀ w ∈ tblG, w.before _ s = true := fun w h => hts0 w (List.mem_cons_of_mem _ h)
  have hown : s.vm.findClass "PromiseChains" = some m.cls := findClass_of_methodNamed B.named
  have hlocks := B.notSynchronized
  subst hsz
  have hD := hD0.self (sz := s.heap.size)
  generalize hAe : va_A [(x, .inr (0, [.ref f0, .ref a0, .ref r0, .ref w0, .ref g0, .ref k0, .int tm, .int gp, .int lk])), (f0, .inr (1, [.int (nI nn), .ref f1, .ref f2, .ref f3, .ref f4])), (f2, .inl (cI, 7, .inl FB)), (f3, .inl (cI, 7, .inl FR))] s.heap.size = A at hD ⊢
  have hA : ∀ q : Nat, s.heap.size ≤ q → A q := fun q h => by rw [← hAe]; exact Or.inr h
  have hS : va_S A s.heap s.heap [] := va_S.rf
  have hP : va_P D vwCl [(x, .inr (0, [.ref f0, .ref a0, .ref r0, .ref w0, .ref g0, .ref k0, .int tm, .int gp, .int lk])), (f0, .inr (1, [.int (nI nn), .ref f1, .ref f2, .ref f3, .ref f4])), (f2, .inl (cI, 7, .inl FB)), (f3, .inl (cI, 7, .inl FR))] s.heap := hP
  have hl := lv_entry ([.ref x, .int i, .int u, .int v]) (n := 4) (Nat.le_of_ble_eq_true rfl)
  rw [lg_entry_eq]
  generalize (lg_sl ([.ref x, .int i, .int u, .int v]) ++ List.replicate (4 - (lg_sl ([.ref x, .int i, .int u, .int v])).length) Slot.unset).toArray = ls at hl ⊢
  have hl : lv_has ls 4 [(0, .ref x), (1, .int i), (2, .int u), (3, .int v)] := hl
  refine lv_aload_n hx hb d_PC_fee_0 rfl (lv_at hl 0 rfl) ?_
  refine va_get (D := D) (ci := 0) (v := .ref f0) (C := R_PC) (T := F_PC) (N := 9) hx hb hts i_PC hown hK hP 0 rfl rfl 0 (by decide) (hts _ q_256) (fun _ h9 => h9) rfl d_PC_fee_1 ?_
  refine lv_iload_n hx hb d_PC_fee_4 rfl (lv_at hl 1 rfl) ?_
  have hPc := hP.sub (ws' := [(f0, .inr (1, [.int (nI nn), .ref f1, .ref f2, .ref f3, .ref f4]))]) [1] rfl
  have hDc := hD.sub (ws' := [(f0, .inr (1, [.int (nI nn), .ref f1, .ref f2, .ref f3, .ref f4]))]) [1] (by decide) rfl
  refine vp_callSi (va_Run.run (va_runV (As := [.int i]) (rest := []) ⟨hx, hb, hml, hown, hts⟩ (g_PE_has l D cI cZ f0 i nn f1 f2 f3 f4 s.heap.size h_nn) (my_cwV 1 hts q_302 q_299 q_300 q_301 q_2 rfl rfl (by decide +kernel) ⟨Nat.le_of_ble_eq_true rfl, Nat.le_of_ble_eq_true rfl⟩) (my_preV hPc hDc hK hN 1 0 rfl rfl) rfl rfl hl.1 rfl (lv_room (Nat.le_of_ble_eq_true rfl)) d_PC_fee_5 ⟨Nat.le_of_ble_eq_true rfl, Nat.le_of_ble_eq_true rfl⟩)) (fun r_1 hw_1 => ?_)
  rcases hw_1 with ⟨hg_2, rfl⟩ | ⟨j_3, hg_4, hg_5, hg_6, rfl⟩
  · have hg_2 : isw i 0 (nI nn - 1) = 0 := hg_2
    refine lv_if_eq (tgt := 31) hx hb d_PC_fee_8 (by decide) (fun _ => ?_) (fun h => absurd h (by decide))
    refine lv_bipush (v := (-2)) hx hb d_PC_fee_31 (by decide) ?_
    have hP9 := hP.sub (ws' := [(x, .inr (0, [.ref f0, .ref a0, .ref r0, .ref w0, .ref g0, .ref k0, .int tm, .int gp, .int lk])), (f0, .inr (1, [.int (nI nn), .ref f1, .ref f2, .ref f3, .ref f4])), (f2, .inl (cI, 7, .inl FB)), (f3, .inl (cI, 7, .inl FR))]) [0, 1, 2, 3] rfl
    have hD9 := hD.sub (ws' := [(x, .inr (0, [.ref f0, .ref a0, .ref r0, .ref w0, .ref g0, .ref k0, .int tm, .int gp, .int lk])), (f0, .inr (1, [.int (nI nn), .ref f1, .ref f2, .ref f3, .ref f4])), (f2, .inl (cI, 7, .inl FB)), (f3, .inl (cI, 7, .inl FR))]) [0, 1, 2, 3] (by decide) rfl
    refine W.widen (k := 0) (n := 0) (Nat.le_of_ble_eq_true rfl) (Nat.le_of_ble_eq_true rfl) ?_
    exact W.iret (v := (-2)) hx hb hr (fun tT ht hW => ⟨⟨(-2), (FB, FR), rfl, (by simp [gp_fee, hg_2]), by rw [ht]; exact hP9, hD9⟩, hS.F ht⟩) hS.2.2 d_PC_fee_33
  · have hg_4 : j_3 < nn := hg_4
    have hg_5 : i = nI j_3 := hg_5
    have hg_6 : ¬ isw i 0 (nI nn - 1) = 0 := hg_6
    subst hg_5
    refine lv_if_eq (tgt := 31) hx hb d_PC_fee_8 (by decide) (fun h => absurd h (by decide)) (fun _ => ?_)
    refine lv_iload_n hx hb d_PC_fee_11 rfl (lv_at hl 2 rfl) ?_
    refine lv_iconst (v := 0) hx hb d_PC_fee_12 (by decide) ?_
    refine lv_bipush (v := 100) hx hb d_PC_fee_13 (by decide) ?_
    have hPc := hP.sub (ws' := []) [] rfl
    have hDc := hD.sub (ws' := []) [] (by decide) rfl
    refine vp_callSi (va_Run.run (va_runS (As := [.int u, .int 0, .int 100]) (rest := []) ⟨hx, hb, hml, hown, hts⟩ (g_within l D cI cZ u 0 100 s.heap.size ) (my_cwS 3 hts q_290 q_288 q_289 q_1 rfl rfl (by decide +kernel) ⟨Nat.le_of_ble_eq_true rfl, Nat.le_of_ble_eq_true rfl⟩) (my_preS hPc hDc hK hN) rfl rfl hl.1 rfl (lv_room (Nat.le_of_ble_eq_true rfl)) d_PC_fee_15 ⟨Nat.le_of_ble_eq_true rfl, Nat.le_of_ble_eq_true rfl⟩)) (fun r_9 hw_9 => ?_)
    have hf_9_0 : r_9 = isw u 0 100 := hw_9
    have hf_9_0 : r_9 = isw u 0 100 := hf_9_0
    subst hf_9_0
    refine lv_if_eq (tgt := 31) hx hb d_PC_fee_18 (by decide) (fun h_10 => ?_) (fun h_10 => ?_)
    · refine lv_bipush (v := (-2)) hx hb d_PC_fee_31 (by decide) ?_
      have hP9 := hP.sub (ws' := [(x, .inr (0, [.ref f0, .ref a0, .ref r0, .ref w0, .ref g0, .ref k0, .int tm, .int gp, .int lk])), (f0, .inr (1, [.int (nI nn), .ref f1, .ref f2, .ref f3, .ref f4])), (f2, .inl (cI, 7, .inl FB)), (f3, .inl (cI, 7, .inl FR))]) [0, 1, 2, 3] rfl
      have hD9 := hD.sub (ws' := [(x, .inr (0, [.ref f0, .ref a0, .ref r0, .ref w0, .ref g0, .ref k0, .int tm, .int gp, .int lk])), (f0, .inr (1, [.int (nI nn), .ref f1, .ref f2, .ref f3, .ref f4])), (f2, .inl (cI, 7, .inl FB)), (f3, .inl (cI, 7, .inl FR))]) [0, 1, 2, 3] (by decide) rfl
      refine W.widen (k := 0) (n := 0) (Nat.le_of_ble_eq_true rfl) (Nat.le_of_ble_eq_true rfl) ?_
      exact W.iret (v := (-2)) hx hb hr (fun tT ht hW => ⟨⟨(-2), (FB, FR), rfl, (by simp [gp_fee, hg_6, h_10]), by rw [ht]; exact hP9, hD9⟩, hS.F ht⟩) hS.2.2 d_PC_fee_33
    · refine lv_iload_n hx hb d_PC_fee_21 rfl (lv_at hl 3 rfl) ?_
      refine lv_iconst (v := 0) hx hb d_PC_fee_22 (by decide) ?_
      refine lv_bipush (v := 100) hx hb d_PC_fee_23 (by decide) ?_
      have hPc := hP.sub (ws' := []) [] rfl
      have hDc := hD.sub (ws' := []) [] (by decide) rfl
      refine vp_callSi (va_Run.run (va_runS (As := [.int v, .int 0, .int 100]) (rest := []) ⟨hx, hb, hml, hown, hts⟩ (g_within l D cI cZ v 0 100 s.heap.size ) (my_cwS 3 hts q_290 q_288 q_289 q_1 rfl rfl (by decide +kernel) ⟨Nat.le_of_ble_eq_true rfl, Nat.le_of_ble_eq_true rfl⟩) (my_preS hPc hDc hK hN) rfl rfl hl.1 rfl (lv_room (Nat.le_of_ble_eq_true rfl)) d_PC_fee_25 ⟨Nat.le_of_ble_eq_true rfl, Nat.le_of_ble_eq_true rfl⟩)) (fun r_11 hw_11 => ?_)
      have hf_11_0 : r_11 = isw v 0 100 := hw_11
      have hf_11_0 : r_11 = isw v 0 100 := hf_11_0
      subst hf_11_0
      refine lv_if_ne (tgt := 34) hx hb d_PC_fee_28 (by decide) (fun h_12 => ?_) (fun h_12 => ?_)
      · refine lv_aload_n hx hb d_PC_fee_34 rfl (lv_at hl 0 rfl) ?_
        refine va_get (D := D) (ci := 0) (v := .ref f0) (C := R_PC) (T := F_PC) (N := 9) hx hb hts i_PC hown hK hP 0 rfl rfl 0 (by decide) (hts _ q_256) (fun _ h9 => h9) rfl d_PC_fee_35 ?_
        refine va_get (D := D) (ci := 1) (v := .ref f2) (C := R_PE) (T := F_PE) (N := 5) hx hb hts i_PE hown hK hP 1 rfl rfl 2 (by decide) (hts _ q_30) (fun _ h9 => h9) rfl d_PC_fee_38 ?_
        refine lv_iload_n hx hb d_PC_fee_41 rfl (lv_at hl 1 rfl) ?_
        refine lv_iload_n hx hb d_PC_fee_42 rfl (lv_at hl 2 rfl) ?_
        refine my_stI hx hb hK hP hD hS 2 rfl j_3 rfl (by omega) (by decide) d_PC_fee_43 (fun H_13 locs hP hD hS => ?_)
        have hP : va_P D vwCl [(x, .inr (0, [.ref f0, .ref a0, .ref r0, .ref w0, .ref g0, .ref k0, .int tm, .int gp, .int lk])), (f0, .inr (1, [.int (nI nn), .ref f1, .ref f2, .ref f3, .ref f4])), (f2, .inl (cI, 7, .inl (upd FB j_3 u))), (f3, .inl (cI, 7, .inl FR))] H_13 := hP
        have hD : va_D A [(x, .inr (0, [.ref f0, .ref a0, .ref r0, .ref w0, .ref g0, .ref k0, .int tm, .int gp, .int lk])), (f0, .inr (1, [.int (nI nn), .ref f1, .ref f2, .ref f3, .ref f4])), (f2, .inl (cI, 7, .inl (upd FB j_3 u))), (f3, .inl (cI, 7, .inl FR))] := hD
        refine lv_aload_n hx hb d_PC_fee_44 rfl (lv_at hl 0 rfl) ?_
        refine va_get (D := D) (ci := 0) (v := .ref f0) (C := R_PC) (T := F_PC) (N := 9) hx hb hts i_PC hown hK hP 0 rfl rfl 0 (by decide) (hts _ q_256) (fun _ h9 => h9) rfl d_PC_fee_45 ?_
        refine va_get (D := D) (ci := 1) (v := .ref f3) (C := R_PE) (T := F_PE) (N := 5) hx hb hts i_PE hown hK hP 1 rfl rfl 3 (by decide) (hts _ q_32) (fun _ h9 => h9) rfl d_PC_fee_48 ?_
        refine lv_iload_n hx hb d_PC_fee_51 rfl (lv_at hl 1 rfl) ?_
        refine lv_iload_n hx hb d_PC_fee_52 rfl (lv_at hl 3 rfl) ?_
        refine my_stI hx hb hK hP hD hS 3 rfl j_3 rfl (by omega) (by decide) d_PC_fee_53 (fun H_14 locs hP hD hS => ?_)
        have hP : va_P D vwCl [(x, .inr (0, [.ref f0, .ref a0, .ref r0, .ref w0, .ref g0, .ref k0, .int tm, .int gp, .int lk])), (f0, .inr (1, [.int (nI nn), .ref f1, .ref f2, .ref f3, .ref f4])), (f2, .inl (cI, 7, .inl (upd FB j_3 u))), (f3, .inl (cI, 7, .inl (upd FR j_3 v)))] H_14 := hP
        have hD : va_D A [(x, .inr (0, [.ref f0, .ref a0, .ref r0, .ref w0, .ref g0, .ref k0, .int tm, .int gp, .int lk])), (f0, .inr (1, [.int (nI nn), .ref f1, .ref f2, .ref f3, .ref f4])), (f2, .inl (cI, 7, .inl (upd FB j_3 u))), (f3, .inl (cI, 7, .inl (upd FR j_3 v)))] := hD
        refine lv_iconst (v := 1) hx hb d_PC_fee_54 (by decide) ?_
        have hP9 := hP.sub (ws' := [(x, .inr (0, [.ref f0, .ref a0, .ref r0, .ref w0, .ref g0, .ref k0, .int tm, .int gp, .int lk])), (f0, .inr (1, [.int (nI nn), .ref f1, .ref f2, .ref f3, .ref f4])), (f2, .inl (cI, 7, .inl (upd FB j_3 u))), (f3, .inl (cI, 7, .inl (upd FR j_3 v)))]) [0, 1, 2, 3] rfl
        have hD9 := hD.sub (ws' := [(x, .inr (0, [.ref f0, .ref a0, .ref r0, .ref w0, .ref g0, .ref k0, .int tm, .int gp, .int lk])), (f0, .inr (1, [.int (nI nn), .ref f1, .ref f2, .ref f3, .ref f4])), (f2, .inl (cI, 7, .inl (upd FB j_3 u))), (f3, .inl (cI, 7, .inl (upd FR j_3 v)))]) [0, 1, 2, 3] (by decide) rfl
        refine W.widen (k := 0) (n := 0) (Nat.le_of_ble_eq_true rfl) (Nat.le_of_ble_eq_true rfl) ?_
        exact W.iret (v := 1) hx hb hr (fun tT ht hW => ⟨⟨1, ((upd FB j_3 u), (upd FR j_3 v)), rfl, (by simp [gp_fee, hg_6, h_10, h_12]), by rw [ht]; exact hP9, hD9⟩, hS.F ht⟩) hS.2.2 d_PC_fee_55
      · refine lv_bipush (v := (-2)) hx hb d_PC_fee_31 (by decide) ?_
        have hP9 := hP.sub (ws' := [(x, .inr (0, [.ref f0, .ref a0, .ref r0, .ref w0, .ref g0, .ref k0, .int tm, .int gp, .int lk])), (f0, .inr (1, [.int (nI nn), .ref f1, .ref f2, .ref f3, .ref f4])), (f2, .inl (cI, 7, .inl FB)), (f3, .inl (cI, 7, .inl FR))]) [0, 1, 2, 3] rfl
        have hD9 := hD.sub (ws' := [(x, .inr (0, [.ref f0, .ref a0, .ref r0, .ref w0, .ref g0, .ref k0, .int tm, .int gp, .int lk])), (f0, .inr (1, [.int (nI nn), .ref f1, .ref f2, .ref f3, .ref f4])), (f2, .inl (cI, 7, .inl FB)), (f3, .inl (cI, 7, .inl FR))]) [0, 1, 2, 3] (by decide) rfl
        refine W.widen (k := 0) (n := 0) (Nat.le_of_ble_eq_true rfl) (Nat.le_of_ble_eq_true rfl) ?_
        exact W.iret (v := (-2)) hx hb hr (fun tT ht hW => ⟨⟨(-2), (FB, FR), rfl, (by simp [gp_fee, hg_6, h_10, h_12]), by rw [ht]; exact hP9, hD9⟩, hS.F ht⟩) hS.2.2 d_PC_fee_33

set_option maxHeartbeats 4000000 in
set_option maxRecDepth 100000 in
theorem g_PC_gap (l : Launch) (D : va_G) (cI cZ : ClassId) (x : Nat) (v : Int32) (f0 : Nat) (a0 : Nat) (r0 : Nat) (w0 : Nat) (g0 : Nat) (k0 : Nat) (tm : Int32) (gp : Int32) (lk : Int32) (sz : Nat)  : Met l ⟨"PromiseChains", "gap", "(I)I"⟩ (mw ⟨"PromiseChains", "gap", "(I)I"⟩ prog_1_method_5_code 3 (some .int)) ({ frames := 1, cells := 0, slots := 0, locals := 22 }) (va_Pc [.ref x, .int v] (PB D cI cZ sz [(x, .inr (0, [.ref f0, .ref a0, .ref r0, .ref w0, .ref g0, .ref k0, .int tm, .int gp, .int lk]))])) (va_Qi (S := Int32) (fun (r : Int32) uU => r = gp_set gp v) (fun uU tT => BB D (va_A [(x, .inr (0, [.ref f0, .ref a0, .ref r0, .ref w0, .ref g0, .ref k0, .int tm, .int gp, .int lk]))] sz) [(x, .inr (0, [.ref f0, .ref a0, .ref r0, .ref w0, .ref g0, .ref k0, .int tm, .int (uU), .int lk]))] tT) (va_A [(x, .inr (0, [.ref f0, .ref a0, .ref r0, .ref w0, .ref g0, .ref k0, .int tm, .int gp, .int lk]))] sz)) 0 0 (va_A [(x, .inr (0, [.ref f0, .ref a0, .ref r0, .ref w0, .ref g0, .ref k0, .int tm, .int gp, .int lk]))] sz) := by
  refine Met.ofW (cc := prog_1_method_5_code) (maxL := 3) (ret := (some .int)) (by decide) rfl ?_
  intro p e s m args below meth c s₁ B hml hv
  obtain ⟨rfl, hsz, hP, hK, hD0, hN⟩ := hv
  have hx := B.exec
  have hb := B.bytes
  have hr := B.returns
  have hts0 := atoms_spec (ws := mw ⟨"PromiseChains", "gap", "(I)I"⟩ prog_1_method_5_code 3 (some .int)) B.pre
  have hts : ∀ w ∈ tblG, w.before _ s = true := fun w h => hts0 w (List.mem_cons_of_mem _ h)
  have hown : s.vm.findClass "PromiseChains" = some m.cls := findClass_of_methodNamed B.named
  have hlocks := B.notSynchronized
  subst hsz
  have hD := hD0.self (sz := s.heap.size)
  generalize hAe : va_A [(x, .inr (0, [.ref f0, .ref a0, .ref r0, .ref w0, .ref g0, .ref k0, .int tm, .int gp, .int lk]))] s.heap.size = A at hD ⊢
  have hA : ∀ q : Nat, s.heap.size ≤ q → A q := fun q h => by rw [← hAe]; exact Or.inr h
  have hS : va_S A s.heap s.heap [] := va_S.rf
  have hP : va_P D vwCl [(x, .inr (0, [.ref f0, .ref a0, .ref r0, .ref w0, .ref g0, .ref k0, .int tm, .int gp, .int lk]))] s.heap := hP
  have hl := lv_entry ([.ref x, .int v]) (n := 3) (Nat.le_of_ble_eq_true rfl)
  rw [lg_entry_eq]
  generalize (lg_sl ([.ref x, .int v]) ++ List.replicate (3 - (lg_sl ([.ref x, .int v])).length) Slot.unset).toArray = ls at hl ⊢
  have hl : lv_has ls 3 [(0, .ref x), (1, .int v)] := hl
  refine lv_iload_n hx hb d_PC_gap_0 rfl (lv_at hl 1 rfl) ?_
  refine lv_iconst (v := 1) hx hb d_PC_gap_1 (by decide) ?_
  refine lv_bipush (v := 50) hx hb d_PC_gap_2 (by decide) ?_
  have hPc := hP.sub (ws' := []) [] rfl
  have hDc := hD.sub (ws' := []) [] (by decide) rfl
  refine vp_callSi (va_Run.run (va_runS (As := [.int v, .int 1, .int 50]) (rest := []) ⟨hx, hb, hml, hown, hts⟩ (g_within l D cI cZ v 1 50 s.heap.size ) (my_cwS 3 hts q_290 q_288 q_289 q_1 rfl rfl (by decide +kernel) ⟨Nat.le_of_ble_eq_true rfl, Nat.le_of_ble_eq_true rfl⟩) (my_preS hPc hDc hK hN) rfl rfl hl.1 rfl (lv_room (Nat.le_of_ble_eq_true rfl)) d_PC_gap_4 ⟨Nat.le_of_ble_eq_true rfl, Nat.le_of_ble_eq_true rfl⟩)) (fun r_1 hw_1 => ?_)
  have hf_1_0 : r_1 = isw v 1 50 := hw_1
  have hf_1_0 : r_1 = isw v 1 50 := hf_1_0
  subst hf_1_0
  refine lv_if_ne (tgt := 13) hx hb d_PC_gap_7 (by decide) (fun h_2 => ?_) (fun h_2 => ?_)
  · refine lv_aload_n hx hb d_PC_gap_13 rfl (lv_at hl 0 rfl) ?_
    refine va_get (D := D) (ci := 0) (v := .int gp) (C := R_PC) (T := F_PC) (N := 9) hx hb hts i_PC hown hK hP 0 rfl rfl 7 (by decide) (hts _ q_263) (fun _ h9 => h9) rfl d_PC_gap_14 ?_
    refine lv_istore_n (lv' := [(2, .int gp), (0, .ref x), (1, .int v)]) hx hb d_PC_gap_17 rfl hl (by decide) rfl (fun ls hl => ?_)
    refine lv_aload_n hx hb d_PC_gap_18 rfl (lv_at hl 1 rfl) ?_
    refine lv_iload_n hx hb d_PC_gap_19 rfl (lv_at hl 2 rfl) ?_
    refine va_put (D := D) (ci := 0) (v := .int v) (ty := .int) (C := R_PC) (T := F_PC) (N := 9) hx hb hts i_PC t_PC t_PC_ok n_PC hown hK hP hD hS 0 rfl rfl 7 (by decide) (hts _ q_263) (fun _ h9 => h9) rfl (by decide +kernel) rfl rfl (Nat.le_of_ble_eq_true rfl) d_PC_gap_20 (fun H_3 locs hP hD hS => ?_)
    have hP : va_P D vwCl [(x, .inr (0, [.ref f0, .ref a0, .ref r0, .ref w0, .ref g0, .ref k0, .int tm, .int v, .int lk]))] H_3 := hP
    have hD : va_D A [(x, .inr (0, [.ref f0, .ref a0, .ref r0, .ref w0, .ref g0, .ref k0, .int tm, .int v, .int lk]))] := hD
    refine lv_iload_n hx hb d_PC_gap_23 rfl (lv_at hl 0 rfl) ?_
    have hP9 := hP.sub (ws' := [(x, .inr (0, [.ref f0, .ref a0, .ref r0, .ref w0, .ref g0, .ref k0, .int tm, .int v, .int lk]))]) [0] rfl
    have hD9 := hD.sub (ws' := [(x, .inr (0, [.ref f0, .ref a0, .ref r0, .ref w0, .ref g0, .ref k0, .int tm, .int v, .int lk]))]) [0] (by decide) rfl
    refine W.widen (k := 0) (n := 0) (Nat.le_of_ble_eq_true rfl) (Nat.le_of_ble_eq_true rfl) ?_
    exact W.iret (v := gp) hx hb hr (fun tT ht hW => ⟨⟨gp, v, rfl, (by simp [gp_set, h_2]), by rw [ht]; exact hP9, hD9⟩, hS.F ht⟩) hS.2.2 d_PC_gap_24
  · refine lv_bipush (v := (-2)) hx hb d_PC_gap_10 (by decide) ?_
    have hP9 := hP.sub (ws' := [(x, .inr (0, [.ref f0, .ref a0, .ref r0, .ref w0, .ref g0, .ref k0, .int tm, .int gp, .int lk]))]) [0] rfl
    have hD9 := hD.sub (ws' := [(x, .inr (0, [.ref f0, .ref a0, .ref r0, .ref w0, .ref g0, .ref k0, .int tm, .int gp, .int lk]))]) [0] (by decide) rfl
    refine W.widen (k := 0) (n := 0) (Nat.le_of_ble_eq_true rfl) (Nat.le_of_ble_eq_true rfl) ?_
    exact W.iret (v := (-2)) hx hb hr (fun tT ht hW => ⟨⟨(-2), gp, rfl, (by simp [gp_set, h_2]), by rw [ht]; exact hP9, hD9⟩, hS.F ht⟩) hS.2.2 d_PC_gap_12

set_option maxHeartbeats 4000000 in
set_option maxRecDepth 100000 in
theorem g_PC_look (l : Launch) (D : va_G) (cI cZ : ClassId) (x : Nat) (v : Int32) (f0 : Nat) (a0 : Nat) (r0 : Nat) (w0 : Nat) (g0 : Nat) (k0 : Nat) (tm : Int32) (gp : Int32) (lk : Int32) (sz : Nat)  : Met l ⟨"PromiseChains", "look", "(I)I"⟩ (mw ⟨"PromiseChains", "look", "(I)I"⟩ prog_1_method_6_code 3 (some .int)) ({ frames := 1, cells := 0, slots := 0, locals := 22 }) (va_Pc [.ref x, .int v] (PB D cI cZ sz [(x, .inr (0, [.ref f0, .ref a0, .ref r0, .ref w0, .ref g0, .ref k0, .int tm, .int gp, .int lk]))])) (va_Qi (S := Int32) (fun (r : Int32) uU => r = gp_set lk v) (fun uU tT => BB D (va_A [(x, .inr (0, [.ref f0, .ref a0, .ref r0, .ref w0, .ref g0, .ref k0, .int tm, .int gp, .int lk]))] sz) [(x, .inr (0, [.ref f0, .ref a0, .ref r0, .ref w0, .ref g0, .ref k0, .int tm, .int gp, .int (uU)]))] tT) (va_A [(x, .inr (0, [.ref f0, .ref a0, .ref r0, .ref w0, .ref g0, .ref k0, .int tm, .int gp, .int lk]))] sz)) 0 0 (va_A [(x, .inr (0, [.ref f0, .ref a0, .ref r0, .ref w0, .ref g0, .ref k0, .int tm, .int gp, .int lk]))] sz) := by
  refine Met.ofW (cc := prog_1_method_6_code) (maxL := 3) (ret := (some .int)) (by decide) rfl ?_
  intro p e s m args below meth c s₁ B hml hv
  obtain ⟨rfl, hsz, hP, hK, hD0, hN⟩ := hv
  have hx := B.exec
  have hb := B.bytes
  have hr := B.returns
  have hts0 := atoms_spec (ws := mw ⟨"PromiseChains", "look", "(I)I"⟩ prog_1_method_6_code 3 (some .int)) B.pre
  have hts : ∀ w ∈ tblG, w.before _ s = true := fun w h => hts0 w (List.mem_cons_of_mem _ h)
  have hown : s.vm.findClass "PromiseChains" = some m.cls := findClass_of_methodNamed B.named
  have hlocks := B.notSynchronized
  subst hsz
  have hD := hD0.self (sz := s.heap.size)
  generalize hAe : va_A [(x, .inr (0, [.ref f0, .ref a0, .ref r0, .ref w0, .ref g0, .ref k0, .int tm, .int gp, .int lk]))] s.heap.size = A at hD ⊢
  have hA : ∀ q : Nat, s.heap.size ≤ q → A q := fun q h => by rw [← hAe]; exact Or.inr h
  have hS : va_S A s.heap s.heap [] := va_S.rf
  have hP : va_P D vwCl [(x, .inr (0, [.ref f0, .ref a0, .ref r0, .ref w0, .ref g0, .ref k0, .int tm, .int gp, .int lk]))] s.heap := hP
  have hl := lv_entry ([.ref x, .int v]) (n := 3) (Nat.le_of_ble_eq_true rfl)
  rw [lg_entry_eq]
  generalize (lg_sl ([.ref x, .int v]) ++ List.replicate (3 - (lg_sl ([.ref x, .int v])).length) Slot.unset).toArray = ls at hl ⊢
  have hl : lv_has ls 3 [(0, .ref x), (1, .int v)] := hl
  refine lv_iload_n hx hb d_PC_look_0 rfl (lv_at hl 1 rfl) ?_
  refine lv_iconst (v := 1) hx hb d_PC_look_1 (by decide) ?_
  refine lv_bipush (v := 50) hx hb d_PC_look_2 (by decide) ?_
  have hPc := hP.sub (ws' := []) [] rfl
  have hDc := hD.sub (ws' := []) [] (by decide) rfl
  refine vp_callSi (va_Run.run (va_runS (As := [.int v, .int 1, .int 50]) (rest := []) ⟨hx, hb, hml, hown, hts⟩ (g_within l D cI cZ v 1 50 s.heap.size ) (my_cwS 3 hts q_290 q_288 q_289 q_1 rfl rfl (by decide +kernel) ⟨Nat.le_of_ble_eq_true rfl, Nat.le_of_ble_eq_true rfl⟩) (my_preS hPc hDc hK hN) rfl rfl hl.1 rfl (lv_room (Nat.le_of_ble_eq_true rfl)) d_PC_look_4 ⟨Nat.le_of_ble_eq_true rfl, Nat.le_of_ble_eq_true rfl⟩)) (fun r_1 hw_1 => ?_)
  have hf_1_0 : r_1 = isw v 1 50 := hw_1
  have hf_1_0 : r_1 = isw v 1 50 := hf_1_0
  subst hf_1_0
  refine lv_if_ne (tgt := 13) hx hb d_PC_look_7 (by decide) (fun h_2 => ?_) (fun h_2 => ?_)
  · refine lv_aload_n hx hb d_PC_look_13 rfl (lv_at hl 0 rfl) ?_
    refine va_get (D := D) (ci := 0) (v := .int lk) (C := R_PC) (T := F_PC) (N := 9) hx hb hts i_PC hown hK hP 0 rfl rfl 8 (by decide) (hts _ q_264) (fun _ h9 => h9) rfl d_PC_look_14 ?_
    refine lv_istore_n (lv' := [(2, .int lk), (0, .ref x), (1, .int v)]) hx hb d_PC_look_17 rfl hl (by decide) rfl (fun ls hl => ?_)
    refine lv_aload_n hx hb d_PC_look_18 rfl (lv_at hl 1 rfl) ?_
    refine lv_iload_n hx hb d_PC_look_19 rfl (lv_at hl 2 rfl) ?_
    refine va_put (D := D) (ci := 0) (v := .int v) (ty := .int) (C := R_PC) (T := F_PC) (N := 9) hx hb hts i_PC t_PC t_PC_ok n_PC hown hK hP hD hS 0 rfl rfl 8 (by decide) (hts _ q_264) (fun _ h9 => h9) rfl (by decide +kernel) rfl rfl (Nat.le_of_ble_eq_true rfl) d_PC_look_20 (fun H_3 locs hP hD hS => ?_)
    have hP : va_P D vwCl [(x, .inr (0, [.ref f0, .ref a0, .ref r0, .ref w0, .ref g0, .ref k0, .int tm, .int gp, .int v]))] H_3 := hP
    have hD : va_D A [(x, .inr (0, [.ref f0, .ref a0, .ref r0, .ref w0, .ref g0, .ref k0, .int tm, .int gp, .int v]))] := hD
    refine lv_iload_n hx hb d_PC_look_23 rfl (lv_at hl 0 rfl) ?_
    have hP9 := hP.sub (ws' := [(x, .inr (0, [.ref f0, .ref a0, .ref r0, .ref w0, .ref g0, .ref k0, .int tm, .int gp, .int v]))]) [0] rfl
    have hD9 := hD.sub (ws' := [(x, .inr (0, [.ref f0, .ref a0, .ref r0, .ref w0, .ref g0, .ref k0, .int tm, .int gp, .int v]))]) [0] (by decide) rfl
    refine W.widen (k := 0) (n := 0) (Nat.le_of_ble_eq_true rfl) (Nat.le_of_ble_eq_true rfl) ?_
    exact W.iret (v := lk) hx hb hr (fun tT ht hW => ⟨⟨lk, v, rfl, (by simp [gp_set, h_2]), by rw [ht]; exact hP9, hD9⟩, hS.F ht⟩) hS.2.2 d_PC_look_24
  · refine lv_bipush (v := (-2)) hx hb d_PC_look_10 (by decide) ?_
    have hP9 := hP.sub (ws' := [(x, .inr (0, [.ref f0, .ref a0, .ref r0, .ref w0, .ref g0, .ref k0, .int tm, .int gp, .int lk]))]) [0] rfl
    have hD9 := hD.sub (ws' := [(x, .inr (0, [.ref f0, .ref a0, .ref r0, .ref w0, .ref g0, .ref k0, .int tm, .int gp, .int lk]))]) [0] (by decide) rfl
    refine W.widen (k := 0) (n := 0) (Nat.le_of_ble_eq_true rfl) (Nat.le_of_ble_eq_true rfl) ?_
    exact W.iret (v := (-2)) hx hb hr (fun tT ht hW => ⟨⟨(-2), lk, rfl, (by simp [gp_set, h_2]), by rw [ht]; exact hP9, hD9⟩, hS.F ht⟩) hS.2.2 d_PC_look_12

set_option maxHeartbeats 4000000 in
set_option maxRecDepth 100000 in
theorem g_PC_away (l : Launch) (D : va_G) (cI cZ : ClassId) (x : Nat) (i : Int32) (v : Int32) (f0 : Nat) (a0 : Nat) (r0 : Nat) (w0 : Nat) (g0 : Nat) (k0 : Nat) (tm : Int32) (gp : Int32) (lk : Int32) (nn : Nat) (f1 : Nat) (f2 : Nat) (f3 : Nat) (f4 : Nat) (FA : Nat → Int32) (nq : Nat) (HA : Int32) (r1 : Nat) (r2 : Nat) (r3 : Nat) (r4 : Nat) (r5 : Nat) (r6 : Nat) (r7 : Nat) (r8 : Nat) (r9 : Nat) (r10 : Nat) (r11 : Nat) (HO : Nat → Nat) (HE : Nat → Int32) (KE : Nat → Int32) (TO : Nat → Int32) (LP : Nat → Nat) (LF : Nat → Nat) (LS : Nat → Int32) (LC : Nat → Int32) (LH : Nat → Int32) (np : Nat) (a1 : Nat) (a2 : Nat) (a3 : Nat) (a4 : Nat) (a5 : Nat) (a6 : Nat) (a7 : Nat) (a8 : Nat) (a9 : Nat) (a10 : Nat) (a11 : Nat) (EP : Nat → Nat) (SI : Nat → Int32) (LK : Nat → Int32) (SS : Nat → Int32) (ST : Nat → Nat) (LE : Nat → Int32) (GR : Nat → Int32) (PH : Nat → Int32) (EN : Nat → Int32) (CL : Nat → Nat) (CB : Nat → Nat) (FC : Nat → Int32) (sz : Nat) (h_nn : nn ≤ 7) (h_nq : nq ≤ 40) (h_HO : ∀ zz, HO zz ≤ 6) (h_LP : ∀ zz, LP zz ≤ 11) (h_LF : ∀ zz, LF zz ≤ 1) (h_np : np ≤ 12) (h_EP : ∀ zz, EP zz ≤ 6) (h_ST : ∀ zz, ST zz ≤ 64) (h_CL : ∀ zz, CL zz ≤ 1) (h_CB : ∀ zz, CB zz ≤ 63) (h_st : ∀ qq, qq < np → 1 ≤ ST qq) (hz : ∀ zz, narrow .boolean (.int (TO zz)) = .int (TO zz)) : Met l ⟨"PromiseChains", "away", "(IZ)I"⟩ (mw ⟨"PromiseChains", "away", "(IZ)I"⟩ prog_1_method_7_code 4 (some .int)) ({ frames := 5, cells := 0, slots := 0, locals := 122 }) (va_Pc [.ref x, .int i, .int v] (PB D cI cZ sz [(x, .inr (0, [.ref f0, .ref a0, .ref r0, .ref w0, .ref g0, .ref k0, .int tm, .int gp, .int lk])), (f0, .inr (1, [.int (nI nn), .ref f1, .ref f2, .ref f3, .ref f4])), (f4, .inl (cZ, 7, .inl FA)), (r0, .inr (3, [.int (nI nq), .int HA, .ref r1, .ref r2, .ref r3, .ref r4, .ref r5, .ref r6, .ref r7, .ref r8, .ref r9, .ref r10, .ref r11])), (r3, .inl (cI, 40, .inl (fun zy => nI (HO zy)))), (r4, .inl (cI, 40, .inl HE)), (r5, .inl (cI, 40, .inl KE)), (r6, .inl (cZ, 40, .inl TO)), (r7, .inl (cI, 240, .inl (fun zy => nI (LP zy)))), (r8, .inl (cI, 240, .inl (fun zy => nI (LF zy)))), (r9, .inl (cI, 240, .inl LS)), (r10, .inl (cI, 240, .inl LC)), (r11, .inl (cI, 240, .inl LH)), (a0, .inr (2, [.int (nI np), .ref a1, .ref a2, .ref a3, .ref a4, .ref a5, .ref a6, .ref a7, .ref a8, .ref a9, .ref a10, .ref a11])), (a1, .inl (cI, 24, .inl (fun zy => nI (EP zy)))), (a2, .inl (cI, 24, .inl SI)), (a3, .inl (cI, 24, .inl LK)), (a4, .inl (cI, 1536, .inl SS)), (a5, .inl (cI, 12, .inl (fun zy => nI (ST zy)))), (a10, .inl (cI, 12, .inl LE)), (a11, .inl (cI, 12, .inl GR)), (a6, .inl (cI, 12, .inl PH)), (a7, .inl (cI, 12, .inl EN)), (a8, .inl (cI, 12, .inl (fun zy => nI (CL zy)))), (a9, .inl (cI, 12, .inl (fun zy => nI (CB zy)))), (f1, .inl (cI, 7, .inl FC))])) (va_Qi (S := Int32 × (Nat → Int32) × (Nat → Int32) × (Nat → Int32) × (Nat → Int32) × (Nat → Int32) × (Nat → Int32) × (Nat → Nat) × (Nat → Int32) × (Nat → Int32) × (Nat → Int32) × (Nat → Int32) × (Nat → Int32)) (fun (r : Int32) uU => (∀ zz, uU.2.2.2.2.2.2.2.1 zz ≤ 64) ∧ (∀ qq, qq < np → 1 ≤ uU.2.2.2.2.2.2.2.1 qq)) (fun uU tT => BB D (va_A [(x, .inr (0, [.ref f0, .ref a0, .ref r0, .ref w0, .ref g0, .ref k0, .int tm, .int gp, .int lk])), (f0, .inr (1, [.int (nI nn), .ref f1, .ref f2, .ref f3, .ref f4])), (f4, .inl (cZ, 7, .inl FA)), (r0, .inr (3, [.int (nI nq), .int HA, .ref r1, .ref r2, .ref r3, .ref r4, .ref r5, .ref r6, .ref r7, .ref r8, .ref r9, .ref r10, .ref r11])), (r3, .inl (cI, 40, .inl (fun zy => nI (HO zy)))), (r4, .inl (cI, 40, .inl HE)), (r5, .inl (cI, 40, .inl KE)), (r6, .inl (cZ, 40, .inl TO)), (r7, .inl (cI, 240, .inl (fun zy => nI (LP zy)))), (r8, .inl (cI, 240, .inl (fun zy => nI (LF zy)))), (r9, .inl (cI, 240, .inl LS)), (r10, .inl (cI, 240, .inl LC)), (r11, .inl (cI, 240, .inl LH)), (a0, .inr (2, [.int (nI np), .ref a1, .ref a2, .ref a3, .ref a4, .ref a5, .ref a6, .ref a7, .ref a8, .ref a9, .ref a10, .ref a11])), (a1, .inl (cI, 24, .inl (fun zy => nI (EP zy)))), (a2, .inl (cI, 24, .inl SI)), (a3, .inl (cI, 24, .inl LK)), (a4, .inl (cI, 1536, .inl SS)), (a5, .inl (cI, 12, .inl (fun zy => nI (ST zy)))), (a10, .inl (cI, 12, .inl LE)), (a11, .inl (cI, 12, .inl GR)), (a6, .inl (cI, 12, .inl PH)), (a7, .inl (cI, 12, .inl EN)), (a8, .inl (cI, 12, .inl (fun zy => nI (CL zy)))), (a9, .inl (cI, 12, .inl (fun zy => nI (CB zy)))), (f1, .inl (cI, 7, .inl FC))] sz) [(x, .inr (0, [.ref f0, .ref a0, .ref r0, .ref w0, .ref g0, .ref k0, .int tm, .int gp, .int lk])), (f0, .inr (1, [.int (nI nn), .ref f1, .ref f2, .ref f3, .ref f4])), (f4, .inl (cZ, 7, .inl (uU.2.2.2.2.2.2.2.2.2.2.2.2))), (r0, .inr (3, [.int (nI nq), .int (uU.1), .ref r1, .ref r2, .ref r3, .ref r4, .ref r5, .ref r6, .ref r7, .ref r8, .ref r9, .ref r10, .ref r11])), (r3, .inl (cI, 40, .inl (fun zy => nI (HO zy)))), (r4, .inl (cI, 40, .inl (uU.2.1))), (r5, .inl (cI, 40, .inl (uU.2.2.1))), (r6, .inl (cZ, 40, .inl TO)), (r7, .inl (cI, 240, .inl (fun zy => nI (LP zy)))), (r8, .inl (cI, 240, .inl (fun zy => nI (LF zy)))), (r9, .inl (cI, 240, .inl LS)), (r10, .inl (cI, 240, .inl LC)), (r11, .inl (cI, 240, .inl (uU.2.2.2.1))), (a0, .inr (2, [.int (nI np), .ref a1, .ref a2, .ref a3, .ref a4, .ref a5, .ref a6, .ref a7, .ref a8, .ref a9, .ref a10, .ref a11])), (a1, .inl (cI, 24, .inl (fun zy => nI (EP zy)))), (a2, .inl (cI, 24, .inl (uU.2.2.2.2.1))), (a3, .inl (cI, 24, .inl (uU.2.2.2.2.2.1))), (a4, .inl (cI, 1536, .inl (uU.2.2.2.2.2.2.1))), (a5, .inl (cI, 12, .inl (fun zy => nI ((uU.2.2.2.2.2.2.2.1) zy)))), (a10, .inl (cI, 12, .inl (uU.2.2.2.2.2.2.2.2.1))), (a11, .inl (cI, 12, .inl (uU.2.2.2.2.2.2.2.2.2.1))), (a6, .inl (cI, 12, .inl (uU.2.2.2.2.2.2.2.2.2.2.1))), (a7, .inl (cI, 12, .inl EN)), (a8, .inl (cI, 12, .inl (fun zy => nI (CL zy)))), (a9, .inl (cI, 12, .inl (fun zy => nI (CB zy)))), (f1, .inl (cI, 7, .inl (uU.2.2.2.2.2.2.2.2.2.2.2.1)))] tT) (va_A [(x, .inr (0, [.ref f0, .ref a0, .ref r0, .ref w0, .ref g0, .ref k0, .int tm, .int gp, .int lk])), (f0, .inr (1, [.int (nI nn), .ref f1, .ref f2, .ref f3, .ref f4])), (f4, .inl (cZ, 7, .inl FA)), (r0, .inr (3, [.int (nI nq), .int HA, .ref r1, .ref r2, .ref r3, .ref r4, .ref r5, .ref r6, .ref r7, .ref r8, .ref r9, .ref r10, .ref r11])), (r3, .inl (cI, 40, .inl (fun zy => nI (HO zy)))), (r4, .inl (cI, 40, .inl HE)), (r5, .inl (cI, 40, .inl KE)), (r6, .inl (cZ, 40, .inl TO)), (r7, .inl (cI, 240, .inl (fun zy => nI (LP zy)))), (r8, .inl (cI, 240, .inl (fun zy => nI (LF zy)))), (r9, .inl (cI, 240, .inl LS)), (r10, .inl (cI, 240, .inl LC)), (r11, .inl (cI, 240, .inl LH)), (a0, .inr (2, [.int (nI np), .ref a1, .ref a2, .ref a3, .ref a4, .ref a5, .ref a6, .ref a7, .ref a8, .ref a9, .ref a10, .ref a11])), (a1, .inl (cI, 24, .inl (fun zy => nI (EP zy)))), (a2, .inl (cI, 24, .inl SI)), (a3, .inl (cI, 24, .inl LK)), (a4, .inl (cI, 1536, .inl SS)), (a5, .inl (cI, 12, .inl (fun zy => nI (ST zy)))), (a10, .inl (cI, 12, .inl LE)), (a11, .inl (cI, 12, .inl GR)), (a6, .inl (cI, 12, .inl PH)), (a7, .inl (cI, 12, .inl EN)), (a8, .inl (cI, 12, .inl (fun zy => nI (CL zy)))), (a9, .inl (cI, 12, .inl (fun zy => nI (CB zy)))), (f1, .inl (cI, 7, .inl FC))] sz)) 0 0 (va_A [(x, .inr (0, [.ref f0, .ref a0, .ref r0, .ref w0, .ref g0, .ref k0, .int tm, .int gp, .int lk])), (f0, .inr (1, [.int (nI nn), .ref f1, .ref f2, .ref f3, .ref f4])), (f4, .inl (cZ, 7, .inl FA)), (r0, .inr (3, [.int (nI nq), .int HA, .ref r1, .ref r2, .ref r3, .ref r4, .ref r5, .ref r6, .ref r7, .ref r8, .ref r9, .ref r10, .ref r11])), (r3, .inl (cI, 40, .inl (fun zy => nI (HO zy)))), (r4, .inl (cI, 40, .inl HE)), (r5, .inl (cI, 40, .inl KE)), (r6, .inl (cZ, 40, .inl TO)), (r7, .inl (cI, 240, .inl (fun zy => nI (LP zy)))), (r8, .inl (cI, 240, .inl (fun zy => nI (LF zy)))), (r9, .inl (cI, 240, .inl LS)), (r10, .inl (cI, 240, .inl LC)), (r11, .inl (cI, 240, .inl LH)), (a0, .inr (2, [.int (nI np), .ref a1, .ref a2, .ref a3, .ref a4, .ref a5, .ref a6, .ref a7, .ref a8, .ref a9, .ref a10, .ref a11])), (a1, .inl (cI, 24, .inl (fun zy => nI (EP zy)))), (a2, .inl (cI, 24, .inl SI)), (a3, .inl (cI, 24, .inl LK)), (a4, .inl (cI, 1536, .inl SS)), (a5, .inl (cI, 12, .inl (fun zy => nI (ST zy)))), (a10, .inl (cI, 12, .inl LE)), (a11, .inl (cI, 12, .inl GR)), (a6, .inl (cI, 12, .inl PH)), (a7, .inl (cI, 12, .inl EN)), (a8, .inl (cI, 12, .inl (fun zy => nI (CL zy)))), (a9, .inl (cI, 12, .inl (fun zy => nI (CB zy)))), (f1, .inl (cI, 7, .inl FC))] sz) := by
  refine Met.ofW (cc := prog_1_method_7_code) (maxL := 4) (ret := (some .int)) (by decide) rfl ?_
  intro p e s m args below meth c s₁ B hml hv
  obtain ⟨rfl, hsz, hP, hK, hD0, hN⟩ := hv
  have hx := B.exec
  have hb := B.bytes
  have hr := B.returns
  have hts0 := atoms_spec (ws := mw ⟨"PromiseChains", "away", "(IZ)I"⟩ prog_1_method_7_code 4 (some .int)) B.pre
  have hts : ∀ w ∈ tblG, w.before _ s = true := fun w h => hts0 w (List.mem_cons_of_mem _ h)
  have hown : s.vm.findClass "PromiseChains" = some m.cls := findClass_of_methodNamed B.named
  have hlocks := B.notSynchronized
  subst hsz
  have hD := hD0.self (sz := s.heap.size)
  generalize hAe : va_A [(x, .inr (0, [.ref f0, .ref a0, .ref r0, .ref w0, .ref g0, .ref k0, .int tm, .int gp, .int lk])), (f0, .inr (1, [.int (nI nn), .ref f1, .ref f2, .ref f3, .ref f4])), (f4, .inl (cZ, 7, .inl FA)), (r0, .inr (3, [.int (nI nq), .int HA, .ref r1, .ref r2, .ref r3, .ref r4, .ref r5, .ref r6, .ref r7, .ref r8, .ref r9, .ref r10, .ref r11])), (r3, .inl (cI, 40, .inl (fun zy => nI (HO zy)))), (r4, .inl (cI, 40, .inl HE)), (r5, .inl (cI, 40, .inl KE)), (r6, .inl (cZ, 40, .inl TO)), (r7, .inl (cI, 240, .inl (fun zy => nI (LP zy)))), (r8, .inl (cI, 240, .inl (fun zy => nI (LF zy)))), (r9, .inl (cI, 240, .inl LS)), (r10, .inl (cI, 240, .inl LC)), (r11, .inl (cI, 240, .inl LH)), (a0, .inr (2, [.int (nI np), .ref a1, .ref a2, .ref a3, .ref a4, .ref a5, .ref a6, .ref a7, .ref a8, .ref a9, .ref a10, .ref a11])), (a1, .inl (cI, 24, .inl (fun zy => nI (EP zy)))), (a2, .inl (cI, 24, .inl SI)), (a3, .inl (cI, 24, .inl LK)), (a4, .inl (cI, 1536, .inl SS)), (a5, .inl (cI, 12, .inl (fun zy => nI (ST zy)))), (a10, .inl (cI, 12, .inl LE)), (a11, .inl (cI, 12, .inl GR)), (a6, .inl (cI, 12, .inl PH)), (a7, .inl (cI, 12, .inl EN)), (a8, .inl (cI, 12, .inl (fun zy => nI (CL zy)))), (a9, .inl (cI, 12, .inl (fun zy => nI (CB zy)))), (f1, .inl (cI, 7, .inl FC))] s.heap.size = A at hD ⊢
  have hA : ∀ q : Nat, s.heap.size ≤ q → A q := fun q h => by rw [← hAe]; exact Or.inr h
  have hS : va_S A s.heap s.heap [] := va_S.rf
  have hP : va_P D vwCl [(x, .inr (0, [.ref f0, .ref a0, .ref r0, .ref w0, .ref g0, .ref k0, .int tm, .int gp, .int lk])), (f0, .inr (1, [.int (nI nn), .ref f1, .ref f2, .ref f3, .ref f4])), (f4, .inl (cZ, 7, .inl FA)), (r0, .inr (3, [.int (nI nq), .int HA, .ref r1, .ref r2, .ref r3, .ref r4, .ref r5, .ref r6, .ref r7, .ref r8, .ref r9, .ref r10, .ref r11])), (r3, .inl (cI, 40, .inl (fun zy => nI (HO zy)))), (r4, .inl (cI, 40, .inl HE)), (r5, .inl (cI, 40, .inl KE)), (r6, .inl (cZ, 40, .inl TO)), (r7, .inl (cI, 240, .inl (fun zy => nI (LP zy)))), (r8, .inl (cI, 240, .inl (fun zy => nI (LF zy)))), (r9, .inl (cI, 240, .inl LS)), (r10, .inl (cI, 240, .inl LC)), (r11, .inl (cI, 240, .inl LH)), (a0, .inr (2, [.int (nI np), .ref a1, .ref a2, .ref a3, .ref a4, .ref a5, .ref a6, .ref a7, .ref a8, .ref a9, .ref a10, .ref a11])), (a1, .inl (cI, 24, .inl (fun zy => nI (EP zy)))), (a2, .inl (cI, 24, .inl SI)), (a3, .inl (cI, 24, .inl LK)), (a4, .inl (cI, 1536, .inl SS)), (a5, .inl (cI, 12, .inl (fun zy => nI (ST zy)))), (a10, .inl (cI, 12, .inl LE)), (a11, .inl (cI, 12, .inl GR)), (a6, .inl (cI, 12, .inl PH)), (a7, .inl (cI, 12, .inl EN)), (a8, .inl (cI, 12, .inl (fun zy => nI (CL zy)))), (a9, .inl (cI, 12, .inl (fun zy => nI (CB zy)))), (f1, .inl (cI, 7, .inl FC))] s.heap := hP
  have hl := lv_entry ([.ref x, .int i, .int v]) (n := 4) (Nat.le_of_ble_eq_true rfl)
  rw [lg_entry_eq]
  generalize (lg_sl ([.ref x, .int i, .int v]) ++ List.replicate (4 - (lg_sl ([.ref x, .int i, .int v])).length) Slot.unset).toArray = ls at hl ⊢
  have hl : lv_has ls 4 [(0, .ref x), (1, .int i), (2, .int v)] := hl
  refine lv_aload_n hx hb d_PC_away_0 rfl (lv_at hl 0 rfl) ?_
  refine va_get (D := D) (ci := 0) (v := .ref f0) (C := R_PC) (T := F_PC) (N := 9) hx hb hts i_PC hown hK hP 0 rfl rfl 0 (by decide) (hts _ q_256) (fun _ h9 => h9) rfl d_PC_away_1 ?_
  refine lv_iload_n hx hb d_PC_away_4 rfl (lv_at hl 1 rfl) ?_
  have hPc := hP.sub (ws' := [(f0, .inr (1, [.int (nI nn), .ref f1, .ref f2, .ref f3, .ref f4]))]) [1] rfl
  have hDc := hD.sub (ws' := [(f0, .inr (1, [.int (nI nn), .ref f1, .ref f2, .ref f3, .ref f4]))]) [1] (by decide) rfl
  refine vp_callSi (va_Run.run (va_runV (As := [.int i]) (rest := []) ⟨hx, hb, hml, hown, hts⟩ (g_PE_has l D cI cZ f0 i nn f1 f2 f3 f4 s.heap.size h_nn) (my_cwV 1 hts q_302 q_299 q_300 q_301 q_2 rfl rfl (by decide +kernel) ⟨Nat.le_of_ble_eq_true rfl, Nat.le_of_ble_eq_true rfl⟩) (my_preV hPc hDc hK hN 1 0 rfl rfl) rfl rfl hl.1 rfl (lv_room (Nat.le_of_ble_eq_true rfl)) d_PC_away_5 ⟨Nat.le_of_ble_eq_true rfl, Nat.le_of_ble_eq_true rfl⟩)) (fun r_1 hw_1 => ?_)
  rcases hw_1 with ⟨hg_2, rfl⟩ | ⟨j_3, hg_4, hg_5, hg_6, rfl⟩
  · have hg_2 : isw i 0 (nI nn - 1) = 0 := hg_2
    refine lv_if_ne (tgt := 14) hx hb d_PC_away_8 (by decide) (fun h => absurd h (by decide)) (fun _ => ?_)
    refine lv_bipush (v := (-2)) hx hb d_PC_away_11 (by decide) ?_
    have hP9 := hP.sub (ws' := [(x, .inr (0, [.ref f0, .ref a0, .ref r0, .ref w0, .ref g0, .ref k0, .int tm, .int gp, .int lk])), (f0, .inr (1, [.int (nI nn), .ref f1, .ref f2, .ref f3, .ref f4])), (f4, .inl (cZ, 7, .inl FA)), (r0, .inr (3, [.int (nI nq), .int HA, .ref r1, .ref r2, .ref r3, .ref r4, .ref r5, .ref r6, .ref r7, .ref r8, .ref r9, .ref r10, .ref r11])), (r3, .inl (cI, 40, .inl (fun zy => nI (HO zy)))), (r4, .inl (cI, 40, .inl HE)), (r5, .inl (cI, 40, .inl KE)), (r6, .inl (cZ, 40, .inl TO)), (r7, .inl (cI, 240, .inl (fun zy => nI (LP zy)))), (r8, .inl (cI, 240, .inl (fun zy => nI (LF zy)))), (r9, .inl (cI, 240, .inl LS)), (r10, .inl (cI, 240, .inl LC)), (r11, .inl (cI, 240, .inl LH)), (a0, .inr (2, [.int (nI np), .ref a1, .ref a2, .ref a3, .ref a4, .ref a5, .ref a6, .ref a7, .ref a8, .ref a9, .ref a10, .ref a11])), (a1, .inl (cI, 24, .inl (fun zy => nI (EP zy)))), (a2, .inl (cI, 24, .inl SI)), (a3, .inl (cI, 24, .inl LK)), (a4, .inl (cI, 1536, .inl SS)), (a5, .inl (cI, 12, .inl (fun zy => nI (ST zy)))), (a10, .inl (cI, 12, .inl LE)), (a11, .inl (cI, 12, .inl GR)), (a6, .inl (cI, 12, .inl PH)), (a7, .inl (cI, 12, .inl EN)), (a8, .inl (cI, 12, .inl (fun zy => nI (CL zy)))), (a9, .inl (cI, 12, .inl (fun zy => nI (CB zy)))), (f1, .inl (cI, 7, .inl FC))]) [0, 1, 2, 3, 4, 5, 6, 7, 8, 9, 10, 11, 12, 13, 14, 15, 16, 17, 18, 19, 20, 21, 22, 23, 24, 25] rfl
    have hD9 := hD.sub (ws' := [(x, .inr (0, [.ref f0, .ref a0, .ref r0, .ref w0, .ref g0, .ref k0, .int tm, .int gp, .int lk])), (f0, .inr (1, [.int (nI nn), .ref f1, .ref f2, .ref f3, .ref f4])), (f4, .inl (cZ, 7, .inl FA)), (r0, .inr (3, [.int (nI nq), .int HA, .ref r1, .ref r2, .ref r3, .ref r4, .ref r5, .ref r6, .ref r7, .ref r8, .ref r9, .ref r10, .ref r11])), (r3, .inl (cI, 40, .inl (fun zy => nI (HO zy)))), (r4, .inl (cI, 40, .inl HE)), (r5, .inl (cI, 40, .inl KE)), (r6, .inl (cZ, 40, .inl TO)), (r7, .inl (cI, 240, .inl (fun zy => nI (LP zy)))), (r8, .inl (cI, 240, .inl (fun zy => nI (LF zy)))), (r9, .inl (cI, 240, .inl LS)), (r10, .inl (cI, 240, .inl LC)), (r11, .inl (cI, 240, .inl LH)), (a0, .inr (2, [.int (nI np), .ref a1, .ref a2, .ref a3, .ref a4, .ref a5, .ref a6, .ref a7, .ref a8, .ref a9, .ref a10, .ref a11])), (a1, .inl (cI, 24, .inl (fun zy => nI (EP zy)))), (a2, .inl (cI, 24, .inl SI)), (a3, .inl (cI, 24, .inl LK)), (a4, .inl (cI, 1536, .inl SS)), (a5, .inl (cI, 12, .inl (fun zy => nI (ST zy)))), (a10, .inl (cI, 12, .inl LE)), (a11, .inl (cI, 12, .inl GR)), (a6, .inl (cI, 12, .inl PH)), (a7, .inl (cI, 12, .inl EN)), (a8, .inl (cI, 12, .inl (fun zy => nI (CL zy)))), (a9, .inl (cI, 12, .inl (fun zy => nI (CB zy)))), (f1, .inl (cI, 7, .inl FC))]) [0, 1, 2, 3, 4, 5, 6, 7, 8, 9, 10, 11, 12, 13, 14, 15, 16, 17, 18, 19, 20, 21, 22, 23, 24, 25] (by decide) rfl
    refine W.widen (k := 0) (n := 0) (Nat.le_of_ble_eq_true rfl) (Nat.le_of_ble_eq_true rfl) ?_
    exact W.iret (v := (-2)) hx hb hr (fun tT ht hW => ⟨⟨(-2), (HA, HE, KE, LH, SI, LK, SS, ST, LE, GR, PH, FC, FA), rfl, ⟨h_ST, h_st⟩, by rw [ht]; exact hP9, hD9⟩, hS.F ht⟩) hS.2.2 d_PC_away_13
  · have hg_4 : j_3 < nn := hg_4
    have hg_5 : i = nI j_3 := hg_5
    have hg_6 : ¬ isw i 0 (nI nn - 1) = 0 := hg_6
    subst hg_5
    refine lv_if_ne (tgt := 14) hx hb d_PC_away_8 (by decide) (fun _ => ?_) (fun h => absurd h (by decide))
    refine lv_aload_n hx hb d_PC_away_14 rfl (lv_at hl 0 rfl) ?_
    refine va_get (D := D) (ci := 0) (v := .ref f0) (C := R_PC) (T := F_PC) (N := 9) hx hb hts i_PC hown hK hP 0 rfl rfl 0 (by decide) (hts _ q_256) (fun _ h9 => h9) rfl d_PC_away_15 ?_
    refine va_get (D := D) (ci := 1) (v := .ref f4) (C := R_PE) (T := F_PE) (N := 5) hx hb hts i_PE hown hK hP 1 rfl rfl 4 (by decide) (hts _ q_34) (fun _ h9 => h9) rfl d_PC_away_18 ?_
    refine lv_iload_n hx hb d_PC_away_21 rfl (lv_at hl 1 rfl) ?_
    refine my_ldZ hx hb hK hP 2 rfl j_3 rfl (by omega) (by decide) d_PC_away_22 ?_
    refine lv_iload_n hx hb d_PC_away_23 rfl (lv_at hl 2 rfl) ?_
    refine lv_icmp_ne (tgt := 30) hx hb d_PC_away_24 (by decide) (fun h_9 => ?_) (fun h_9 => ?_)
    · refine lv_aload_n hx hb d_PC_away_30 rfl (lv_at hl 0 rfl) ?_
      refine va_get (D := D) (ci := 0) (v := .ref f0) (C := R_PC) (T := F_PC) (N := 9) hx hb hts i_PC hown hK hP 0 rfl rfl 0 (by decide) (hts _ q_256) (fun _ h9 => h9) rfl d_PC_away_31 ?_
      refine va_get (D := D) (ci := 1) (v := .ref f4) (C := R_PE) (T := F_PE) (N := 5) hx hb hts i_PE hown hK hP 1 rfl rfl 4 (by decide) (hts _ q_34) (fun _ h9 => h9) rfl d_PC_away_34 ?_
      refine lv_iload_n hx hb d_PC_away_37 rfl (lv_at hl 1 rfl) ?_
      refine lv_iload_n hx hb d_PC_away_38 rfl (lv_at hl 2 rfl) ?_
      refine my_stZ hx hb hK hP hD hS 2 rfl j_3 (vp_nar .boolean v) rfl rfl (by omega) (by decide) d_PC_away_39 (fun H_10 locs hP hD hS => ?_)
      have hP : va_P D vwCl [(x, .inr (0, [.ref f0, .ref a0, .ref r0, .ref w0, .ref g0, .ref k0, .int tm, .int gp, .int lk])), (f0, .inr (1, [.int (nI nn), .ref f1, .ref f2, .ref f3, .ref f4])), (f4, .inl (cZ, 7, .inl (upd FA j_3 (vp_nar .boolean v)))), (r0, .inr (3, [.int (nI nq), .int HA, .ref r1, .ref r2, .ref r3, .ref r4, .ref r5, .ref r6, .ref r7, .ref r8, .ref r9, .ref r10, .ref r11])), (r3, .inl (cI, 40, .inl (fun zy => nI (HO zy)))), (r4, .inl (cI, 40, .inl HE)), (r5, .inl (cI, 40, .inl KE)), (r6, .inl (cZ, 40, .inl TO)), (r7, .inl (cI, 240, .inl (fun zy => nI (LP zy)))), (r8, .inl (cI, 240, .inl (fun zy => nI (LF zy)))), (r9, .inl (cI, 240, .inl LS)), (r10, .inl (cI, 240, .inl LC)), (r11, .inl (cI, 240, .inl LH)), (a0, .inr (2, [.int (nI np), .ref a1, .ref a2, .ref a3, .ref a4, .ref a5, .ref a6, .ref a7, .ref a8, .ref a9, .ref a10, .ref a11])), (a1, .inl (cI, 24, .inl (fun zy => nI (EP zy)))), (a2, .inl (cI, 24, .inl SI)), (a3, .inl (cI, 24, .inl LK)), (a4, .inl (cI, 1536, .inl SS)), (a5, .inl (cI, 12, .inl (fun zy => nI (ST zy)))), (a10, .inl (cI, 12, .inl LE)), (a11, .inl (cI, 12, .inl GR)), (a6, .inl (cI, 12, .inl PH)), (a7, .inl (cI, 12, .inl EN)), (a8, .inl (cI, 12, .inl (fun zy => nI (CL zy)))), (a9, .inl (cI, 12, .inl (fun zy => nI (CB zy)))), (f1, .inl (cI, 7, .inl FC))] H_10 := hP
      have hD : va_D A [(x, .inr (0, [.ref f0, .ref a0, .ref r0, .ref w0, .ref g0, .ref k0, .int tm, .int gp, .int lk])), (f0, .inr (1, [.int (nI nn), .ref f1, .ref f2, .ref f3, .ref f4])), (f4, .inl (cZ, 7, .inl (upd FA j_3 (vp_nar .boolean v)))), (r0, .inr (3, [.int (nI nq), .int HA, .ref r1, .ref r2, .ref r3, .ref r4, .ref r5, .ref r6, .ref r7, .ref r8, .ref r9, .ref r10, .ref r11])), (r3, .inl (cI, 40, .inl (fun zy => nI (HO zy)))), (r4, .inl (cI, 40, .inl HE)), (r5, .inl (cI, 40, .inl KE)), (r6, .inl (cZ, 40, .inl TO)), (r7, .inl (cI, 240, .inl (fun zy => nI (LP zy)))), (r8, .inl (cI, 240, .inl (fun zy => nI (LF zy)))), (r9, .inl (cI, 240, .inl LS)), (r10, .inl (cI, 240, .inl LC)), (r11, .inl (cI, 240, .inl LH)), (a0, .inr (2, [.int (nI np), .ref a1, .ref a2, .ref a3, .ref a4, .ref a5, .ref a6, .ref a7, .ref a8, .ref a9, .ref a10, .ref a11])), (a1, .inl (cI, 24, .inl (fun zy => nI (EP zy)))), (a2, .inl (cI, 24, .inl SI)), (a3, .inl (cI, 24, .inl LK)), (a4, .inl (cI, 1536, .inl SS)), (a5, .inl (cI, 12, .inl (fun zy => nI (ST zy)))), (a10, .inl (cI, 12, .inl LE)), (a11, .inl (cI, 12, .inl GR)), (a6, .inl (cI, 12, .inl PH)), (a7, .inl (cI, 12, .inl EN)), (a8, .inl (cI, 12, .inl (fun zy => nI (CL zy)))), (a9, .inl (cI, 12, .inl (fun zy => nI (CB zy)))), (f1, .inl (cI, 7, .inl FC))] := hD
      refine lv_iload_n hx hb d_PC_away_40 rfl (lv_at hl 2 rfl) ?_
      refine lv_if_eq (tgt := 46) hx hb d_PC_away_41 (by decide) (fun h_11 => ?_) (fun h_11 => ?_)
      · refine lv_aload_n hx hb d_PC_away_46 rfl (lv_at hl 0 rfl) ?_
        refine va_get (D := D) (ci := 0) (v := .ref r0) (C := R_PC) (T := F_PC) (N := 9) hx hb hts i_PC hown hK hP 0 rfl rfl 2 (by decide) (hts _ q_258) (fun _ h9 => h9) rfl d_PC_away_47 ?_
        refine lv_aload_n hx hb d_PC_away_50 rfl (lv_at hl 0 rfl) ?_
        refine va_get (D := D) (ci := 0) (v := .ref f0) (C := R_PC) (T := F_PC) (N := 9) hx hb hts i_PC hown hK hP 0 rfl rfl 0 (by decide) (hts _ q_256) (fun _ h9 => h9) rfl d_PC_away_51 ?_
        refine lv_aload_n hx hb d_PC_away_54 rfl (lv_at hl 0 rfl) ?_
        refine va_get (D := D) (ci := 0) (v := .ref a0) (C := R_PC) (T := F_PC) (N := 9) hx hb hts i_PC hown hK hP 0 rfl rfl 1 (by decide) (hts _ q_257) (fun _ h9 => h9) rfl d_PC_away_55 ?_
        refine lv_aload_n hx hb d_PC_away_58 rfl (lv_at hl 0 rfl) ?_
        refine va_get (D := D) (ci := 0) (v := .int tm) (C := R_PC) (T := F_PC) (N := 9) hx hb hts i_PC hown hK hP 0 rfl rfl 6 (by decide) (hts _ q_262) (fun _ h9 => h9) rfl d_PC_away_59 ?_
        have hPc := hP.sub (ws' := [(r0, .inr (3, [.int (nI nq), .int HA, .ref r1, .ref r2, .ref r3, .ref r4, .ref r5, .ref r6, .ref r7, .ref r8, .ref r9, .ref r10, .ref r11])), (r3, .inl (cI, 40, .inl (fun zy => nI (HO zy)))), (r4, .inl (cI, 40, .inl HE)), (r5, .inl (cI, 40, .inl KE)), (r6, .inl (cZ, 40, .inl TO)), (r7, .inl (cI, 240, .inl (fun zy => nI (LP zy)))), (r8, .inl (cI, 240, .inl (fun zy => nI (LF zy)))), (r9, .inl (cI, 240, .inl LS)), (r10, .inl (cI, 240, .inl LC)), (r11, .inl (cI, 240, .inl LH)), (a0, .inr (2, [.int (nI np), .ref a1, .ref a2, .ref a3, .ref a4, .ref a5, .ref a6, .ref a7, .ref a8, .ref a9, .ref a10, .ref a11])), (a1, .inl (cI, 24, .inl (fun zy => nI (EP zy)))), (a2, .inl (cI, 24, .inl SI)), (a3, .inl (cI, 24, .inl LK)), (a4, .inl (cI, 1536, .inl SS)), (a5, .inl (cI, 12, .inl (fun zy => nI (ST zy)))), (a10, .inl (cI, 12, .inl LE)), (a11, .inl (cI, 12, .inl GR)), (f0, .inr (1, [.int (nI nn), .ref f1, .ref f2, .ref f3, .ref f4])), (f4, .inl (cZ, 7, .inl (upd FA j_3 (vp_nar .boolean v))))]) [3, 4, 5, 6, 7, 8, 9, 10, 11, 12, 13, 14, 15, 16, 17, 18, 19, 20, 1, 2] rfl
        have hDc := hD.sub (ws' := [(r0, .inr (3, [.int (nI nq), .int HA, .ref r1, .ref r2, .ref r3, .ref r4, .ref r5, .ref r6, .ref r7, .ref r8, .ref r9, .ref r10, .ref r11])), (r3, .inl (cI, 40, .inl (fun zy => nI (HO zy)))), (r4, .inl (cI, 40, .inl HE)), (r5, .inl (cI, 40, .inl KE)), (r6, .inl (cZ, 40, .inl TO)), (r7, .inl (cI, 240, .inl (fun zy => nI (LP zy)))), (r8, .inl (cI, 240, .inl (fun zy => nI (LF zy)))), (r9, .inl (cI, 240, .inl LS)), (r10, .inl (cI, 240, .inl LC)), (r11, .inl (cI, 240, .inl LH)), (a0, .inr (2, [.int (nI np), .ref a1, .ref a2, .ref a3, .ref a4, .ref a5, .ref a6, .ref a7, .ref a8, .ref a9, .ref a10, .ref a11])), (a1, .inl (cI, 24, .inl (fun zy => nI (EP zy)))), (a2, .inl (cI, 24, .inl SI)), (a3, .inl (cI, 24, .inl LK)), (a4, .inl (cI, 1536, .inl SS)), (a5, .inl (cI, 12, .inl (fun zy => nI (ST zy)))), (a10, .inl (cI, 12, .inl LE)), (a11, .inl (cI, 12, .inl GR)), (f0, .inr (1, [.int (nI nn), .ref f1, .ref f2, .ref f3, .ref f4])), (f4, .inl (cZ, 7, .inl (upd FA j_3 (vp_nar .boolean v))))]) [3, 4, 5, 6, 7, 8, 9, 10, 11, 12, 13, 14, 15, 16, 17, 18, 19, 20, 1, 2] (by decide) rfl
        have hFc := va_free (wc := [(r0, .inr (3, [.int (nI nq), .int HA, .ref r1, .ref r2, .ref r3, .ref r4, .ref r5, .ref r6, .ref r7, .ref r8, .ref r9, .ref r10, .ref r11])), (r3, .inl (cI, 40, .inl (fun zy => nI (HO zy)))), (r4, .inl (cI, 40, .inl HE)), (r5, .inl (cI, 40, .inl KE)), (r6, .inl (cZ, 40, .inl TO)), (r7, .inl (cI, 240, .inl (fun zy => nI (LP zy)))), (r8, .inl (cI, 240, .inl (fun zy => nI (LF zy)))), (r9, .inl (cI, 240, .inl LS)), (r10, .inl (cI, 240, .inl LC)), (r11, .inl (cI, 240, .inl LH)), (a0, .inr (2, [.int (nI np), .ref a1, .ref a2, .ref a3, .ref a4, .ref a5, .ref a6, .ref a7, .ref a8, .ref a9, .ref a10, .ref a11])), (a1, .inl (cI, 24, .inl (fun zy => nI (EP zy)))), (a2, .inl (cI, 24, .inl SI)), (a3, .inl (cI, 24, .inl LK)), (a4, .inl (cI, 1536, .inl SS)), (a5, .inl (cI, 12, .inl (fun zy => nI (ST zy)))), (a10, .inl (cI, 12, .inl LE)), (a11, .inl (cI, 12, .inl GR)), (f0, .inr (1, [.int (nI nn), .ref f1, .ref f2, .ref f3, .ref f4])), (f4, .inl (cZ, 7, .inl (upd FA j_3 (vp_nar .boolean v))))]) hD hS hA [3, 4, 5, 6, 7, 8, 9, 10, 11, 12, 13, 14, 15, 16, 17, 18, 19, 20, 1, 2] rfl
        refine va_calli (va_runV (As := [.ref f0, .ref a0, .int tm]) (rest := []) ⟨hx, hb, hml, hown, hts⟩ (g_PR_keepAll l D cI cZ r0 f0 a0 tm nq HA r1 r2 r3 r4 r5 r6 r7 r8 r9 r10 r11 HO HE KE TO LP LF LS LC LH np a1 a2 a3 a4 a5 a6 a7 a8 a9 a10 a11 EP SI LK SS ST LE GR nn f1 f2 f3 f4 (upd FA j_3 (vp_nar .boolean v)) H_10.size h_nq h_HO h_LP h_LF h_np h_EP h_ST h_nn hz) (my_cwV 3 hts q_336 q_333 q_334 q_335 q_4 rfl rfl (by decide +kernel) ⟨Nat.le_of_ble_eq_true rfl, Nat.le_of_ble_eq_true rfl⟩) (my_preV hPc hDc hK hN 3 0 rfl rfl) rfl rfl hl.1 rfl (lv_room (Nat.le_of_ble_eq_true rfl)) d_PC_away_62 ⟨Nat.le_of_ble_eq_true rfl, Nat.le_of_ble_eq_true rfl⟩) hS (fun q _ h => hFc q h) hFc (fun r_12 uU tT H_13 locs ht hvm hw_12 hB hz1 hk1 hS => ?_)
        obtain ⟨HA_14, HE_15, KE_16, LH_17, SI_18, LK_19, SS_20, ST_21, LE_22, GR_23⟩ := uU
        obtain ⟨hP1, hD1⟩ := hB
        rw [ht] at hP1
        obtain ⟨hP, hD⟩ := va_join (wr := [(x, .inr (0, [.ref f0, .ref a0, .ref r0, .ref w0, .ref g0, .ref k0, .int tm, .int gp, .int lk])), (a6, .inl (cI, 12, .inl PH)), (a7, .inl (cI, 12, .inl EN)), (a8, .inl (cI, 12, .inl (fun zy => nI (CL zy)))), (a9, .inl (cI, 12, .inl (fun zy => nI (CB zy)))), (f1, .inl (cI, 7, .inl FC))]) (w1 := [(r0, .inr (3, [.int (nI nq), .int HA_14, .ref r1, .ref r2, .ref r3, .ref r4, .ref r5, .ref r6, .ref r7, .ref r8, .ref r9, .ref r10, .ref r11])), (r3, .inl (cI, 40, .inl (fun zy => nI (HO zy)))), (r4, .inl (cI, 40, .inl HE_15)), (r5, .inl (cI, 40, .inl KE_16)), (r6, .inl (cZ, 40, .inl TO)), (r7, .inl (cI, 240, .inl (fun zy => nI (LP zy)))), (r8, .inl (cI, 240, .inl (fun zy => nI (LF zy)))), (r9, .inl (cI, 240, .inl LS)), (r10, .inl (cI, 240, .inl LC)), (r11, .inl (cI, 240, .inl LH_17)), (a0, .inr (2, [.int (nI np), .ref a1, .ref a2, .ref a3, .ref a4, .ref a5, .ref a6, .ref a7, .ref a8, .ref a9, .ref a10, .ref a11])), (a1, .inl (cI, 24, .inl (fun zy => nI (EP zy)))), (a2, .inl (cI, 24, .inl SI_18)), (a3, .inl (cI, 24, .inl LK_19)), (a4, .inl (cI, 1536, .inl SS_20)), (a5, .inl (cI, 12, .inl (fun zy => nI (ST_21 zy)))), (a10, .inl (cI, 12, .inl LE_22)), (a11, .inl (cI, 12, .inl GR_23)), (f0, .inr (1, [.int (nI nn), .ref f1, .ref f2, .ref f3, .ref f4])), (f4, .inl (cZ, 7, .inl (upd FA j_3 (vp_nar .boolean v))))]) hP hD [3, 4, 5, 6, 7, 8, 9, 10, 11, 12, 13, 14, 15, 16, 17, 18, 19, 20, 1, 2] [0, 21, 22, 23, 24, 25] rfl rfl (by decide) (by decide) hk1 hFc hP1 hD1
        have hP : va_P D vwCl [(x, .inr (0, [.ref f0, .ref a0, .ref r0, .ref w0, .ref g0, .ref k0, .int tm, .int gp, .int lk])), (a6, .inl (cI, 12, .inl PH)), (a7, .inl (cI, 12, .inl EN)), (a8, .inl (cI, 12, .inl (fun zy => nI (CL zy)))), (a9, .inl (cI, 12, .inl (fun zy => nI (CB zy)))), (f1, .inl (cI, 7, .inl FC)), (r0, .inr (3, [.int (nI nq), .int HA_14, .ref r1, .ref r2, .ref r3, .ref r4, .ref r5, .ref r6, .ref r7, .ref r8, .ref r9, .ref r10, .ref r11])), (r3, .inl (cI, 40, .inl (fun zy => nI (HO zy)))), (r4, .inl (cI, 40, .inl HE_15)), (r5, .inl (cI, 40, .inl KE_16)), (r6, .inl (cZ, 40, .inl TO)), (r7, .inl (cI, 240, .inl (fun zy => nI (LP zy)))), (r8, .inl (cI, 240, .inl (fun zy => nI (LF zy)))), (r9, .inl (cI, 240, .inl LS)), (r10, .inl (cI, 240, .inl LC)), (r11, .inl (cI, 240, .inl LH_17)), (a0, .inr (2, [.int (nI np), .ref a1, .ref a2, .ref a3, .ref a4, .ref a5, .ref a6, .ref a7, .ref a8, .ref a9, .ref a10, .ref a11])), (a1, .inl (cI, 24, .inl (fun zy => nI (EP zy)))), (a2, .inl (cI, 24, .inl SI_18)), (a3, .inl (cI, 24, .inl LK_19)), (a4, .inl (cI, 1536, .inl SS_20)), (a5, .inl (cI, 12, .inl (fun zy => nI (ST_21 zy)))), (a10, .inl (cI, 12, .inl LE_22)), (a11, .inl (cI, 12, .inl GR_23)), (f0, .inr (1, [.int (nI nn), .ref f1, .ref f2, .ref f3, .ref f4])), (f4, .inl (cZ, 7, .inl (upd FA j_3 (vp_nar .boolean v))))] H_13 := hP
        have hD : va_D A [(x, .inr (0, [.ref f0, .ref a0, .ref r0, .ref w0, .ref g0, .ref k0, .int tm, .int gp, .int lk])), (a6, .inl (cI, 12, .inl PH)), (a7, .inl (cI, 12, .inl EN)), (a8, .inl (cI, 12, .inl (fun zy => nI (CL zy)))), (a9, .inl (cI, 12, .inl (fun zy => nI (CB zy)))), (f1, .inl (cI, 7, .inl FC)), (r0, .inr (3, [.int (nI nq), .int HA_14, .ref r1, .ref r2, .ref r3, .ref r4, .ref r5, .ref r6, .ref r7, .ref r8, .ref r9, .ref r10, .ref r11])), (r3, .inl (cI, 40, .inl (fun zy => nI (HO zy)))), (r4, .inl (cI, 40, .inl HE_15)), (r5, .inl (cI, 40, .inl KE_16)), (r6, .inl (cZ, 40, .inl TO)), (r7, .inl (cI, 240, .inl (fun zy => nI (LP zy)))), (r8, .inl (cI, 240, .inl (fun zy => nI (LF zy)))), (r9, .inl (cI, 240, .inl LS)), (r10, .inl (cI, 240, .inl LC)), (r11, .inl (cI, 240, .inl LH_17)), (a0, .inr (2, [.int (nI np), .ref a1, .ref a2, .ref a3, .ref a4, .ref a5, .ref a6, .ref a7, .ref a8, .ref a9, .ref a10, .ref a11])), (a1, .inl (cI, 24, .inl (fun zy => nI (EP zy)))), (a2, .inl (cI, 24, .inl SI_18)), (a3, .inl (cI, 24, .inl LK_19)), (a4, .inl (cI, 1536, .inl SS_20)), (a5, .inl (cI, 12, .inl (fun zy => nI (ST_21 zy)))), (a10, .inl (cI, 12, .inl LE_22)), (a11, .inl (cI, 12, .inl GR_23)), (f0, .inr (1, [.int (nI nn), .ref f1, .ref f2, .ref f3, .ref f4])), (f4, .inl (cZ, 7, .inl (upd FA j_3 (vp_nar .boolean v))))] := hD
        have hw_12 : (∀ zz, ST_21 zz ≤ 64) ∧ (∀ qq, 1 ≤ ST qq → 1 ≤ ST_21 qq) := hw_12
        obtain ⟨hf_23_0, hf_23_1⟩ := hw_12
        have hf_23_0 : ∀ zz, ST_21 zz ≤ 64 := hf_23_0
        have hf_23_1 : ∀ qq, 1 ≤ ST qq → 1 ≤ ST_21 qq := hf_23_1
        refine lv_istore_n (lv' := [(3, .int r_12), (0, .ref x), (1, .int (nI j_3)), (2, .int v)]) hx hb d_PC_away_65 rfl hl (by decide) rfl (fun ls hl => ?_)
        refine lv_aload_n hx hb d_PC_away_66 rfl (lv_at hl 1 rfl) ?_
        refine va_get (D := D) (ci := 0) (v := .ref a0) (C := R_PC) (T := F_PC) (N := 9) hx hb hts i_PC hown hK hP 0 rfl rfl 1 (by decide) (hts _ q_257) (fun _ h9 => h9) rfl d_PC_away_67 ?_
        refine lv_aload_n hx hb d_PC_away_70 rfl (lv_at hl 1 rfl) ?_
        refine va_get (D := D) (ci := 0) (v := .ref f0) (C := R_PC) (T := F_PC) (N := 9) hx hb hts i_PC hown hK hP 0 rfl rfl 0 (by decide) (hts _ q_256) (fun _ h9 => h9) rfl d_PC_away_71 ?_
        refine lv_aload_n hx hb d_PC_away_74 rfl (lv_at hl 1 rfl) ?_
        refine va_get (D := D) (ci := 0) (v := .int tm) (C := R_PC) (T := F_PC) (N := 9) hx hb hts i_PC hown hK hP 0 rfl rfl 6 (by decide) (hts _ q_262) (fun _ h9 => h9) rfl d_PC_away_75 ?_
        have hPc := hP.sub (ws' := [(a0, .inr (2, [.int (nI np), .ref a1, .ref a2, .ref a3, .ref a4, .ref a5, .ref a6, .ref a7, .ref a8, .ref a9, .ref a10, .ref a11])), (a1, .inl (cI, 24, .inl (fun zy => nI (EP zy)))), (a2, .inl (cI, 24, .inl SI_18)), (a4, .inl (cI, 1536, .inl SS_20)), (a5, .inl (cI, 12, .inl (fun zy => nI (ST_21 zy)))), (a6, .inl (cI, 12, .inl PH)), (a7, .inl (cI, 12, .inl EN)), (a8, .inl (cI, 12, .inl (fun zy => nI (CL zy)))), (a9, .inl (cI, 12, .inl (fun zy => nI (CB zy)))), (a10, .inl (cI, 12, .inl LE_22)), (a11, .inl (cI, 12, .inl GR_23)), (f0, .inr (1, [.int (nI nn), .ref f1, .ref f2, .ref f3, .ref f4])), (f1, .inl (cI, 7, .inl FC)), (f4, .inl (cZ, 7, .inl (upd FA j_3 (vp_nar .boolean v))))]) [16, 17, 18, 20, 21, 1, 2, 3, 4, 22, 23, 24, 5, 25] rfl
        have hDc := hD.sub (ws' := [(a0, .inr (2, [.int (nI np), .ref a1, .ref a2, .ref a3, .ref a4, .ref a5, .ref a6, .ref a7, .ref a8, .ref a9, .ref a10, .ref a11])), (a1, .inl (cI, 24, .inl (fun zy => nI (EP zy)))), (a2, .inl (cI, 24, .inl SI_18)), (a4, .inl (cI, 1536, .inl SS_20)), (a5, .inl (cI, 12, .inl (fun zy => nI (ST_21 zy)))), (a6, .inl (cI, 12, .inl PH)), (a7, .inl (cI, 12, .inl EN)), (a8, .inl (cI, 12, .inl (fun zy => nI (CL zy)))), (a9, .inl (cI, 12, .inl (fun zy => nI (CB zy)))), (a10, .inl (cI, 12, .inl LE_22)), (a11, .inl (cI, 12, .inl GR_23)), (f0, .inr (1, [.int (nI nn), .ref f1, .ref f2, .ref f3, .ref f4])), (f1, .inl (cI, 7, .inl FC)), (f4, .inl (cZ, 7, .inl (upd FA j_3 (vp_nar .boolean v))))]) [16, 17, 18, 20, 21, 1, 2, 3, 4, 22, 23, 24, 5, 25] (by decide) rfl
        have hFc := va_free (wc := [(a0, .inr (2, [.int (nI np), .ref a1, .ref a2, .ref a3, .ref a4, .ref a5, .ref a6, .ref a7, .ref a8, .ref a9, .ref a10, .ref a11])), (a1, .inl (cI, 24, .inl (fun zy => nI (EP zy)))), (a2, .inl (cI, 24, .inl SI_18)), (a4, .inl (cI, 1536, .inl SS_20)), (a5, .inl (cI, 12, .inl (fun zy => nI (ST_21 zy)))), (a6, .inl (cI, 12, .inl PH)), (a7, .inl (cI, 12, .inl EN)), (a8, .inl (cI, 12, .inl (fun zy => nI (CL zy)))), (a9, .inl (cI, 12, .inl (fun zy => nI (CB zy)))), (a10, .inl (cI, 12, .inl LE_22)), (a11, .inl (cI, 12, .inl GR_23)), (f0, .inr (1, [.int (nI nn), .ref f1, .ref f2, .ref f3, .ref f4])), (f1, .inl (cI, 7, .inl FC)), (f4, .inl (cZ, 7, .inl (upd FA j_3 (vp_nar .boolean v))))]) hD hS hA [16, 17, 18, 20, 21, 1, 2, 3, 4, 22, 23, 24, 5, 25] rfl
        refine va_callv (va_runV (As := [.ref f0, .int tm]) (rest := []) ⟨hx, hb, hml, hown, hts⟩ (g_PA_settle l D cI cZ a0 f0 tm np a1 a2 a3 a4 a5 a6 a7 a8 a9 a10 a11 EP SI_18 SS_20 ST_21 PH EN CL CB LE_22 GR_23 nn f1 f2 f3 f4 FC (upd FA j_3 (vp_nar .boolean v)) H_13.size h_np h_EP hf_23_0 h_CL h_CB h_nn (fun q h => hf_23_1 q (h_st q h))) (my_cwV 2 hts q_364 q_361 q_362 q_363 q_3 rfl rfl (by decide +kernel) ⟨Nat.le_of_ble_eq_true rfl, Nat.le_of_ble_eq_true rfl⟩) (my_preV hPc hDc hK hN 2 0 rfl rfl) rfl rfl hl.1 rfl (lv_room (Nat.le_of_ble_eq_true rfl)) d_PC_away_78 ⟨Nat.le_of_ble_eq_true rfl, Nat.le_of_ble_eq_true rfl⟩) hS (fun q _ h => hFc q h) hFc (fun uU tT H_25 locs ht hvm hw_24 hB hz1 hk1 hS => ?_)
        obtain ⟨SI_26, PH_27, LE_28, GR_29, FC_30⟩ := uU
        obtain ⟨hP1, hD1⟩ := hB
        rw [ht] at hP1
        obtain ⟨hP, hD⟩ := va_join (wr := [(x, .inr (0, [.ref f0, .ref a0, .ref r0, .ref w0, .ref g0, .ref k0, .int tm, .int gp, .int lk])), (r0, .inr (3, [.int (nI nq), .int HA_14, .ref r1, .ref r2, .ref r3, .ref r4, .ref r5, .ref r6, .ref r7, .ref r8, .ref r9, .ref r10, .ref r11])), (r3, .inl (cI, 40, .inl (fun zy => nI (HO zy)))), (r4, .inl (cI, 40, .inl HE_15)), (r5, .inl (cI, 40, .inl KE_16)), (r6, .inl (cZ, 40, .inl TO)), (r7, .inl (cI, 240, .inl (fun zy => nI (LP zy)))), (r8, .inl (cI, 240, .inl (fun zy => nI (LF zy)))), (r9, .inl (cI, 240, .inl LS)), (r10, .inl (cI, 240, .inl LC)), (r11, .inl (cI, 240, .inl LH_17)), (a3, .inl (cI, 24, .inl LK_19))]) (w1 := [(a0, .inr (2, [.int (nI np), .ref a1, .ref a2, .ref a3, .ref a4, .ref a5, .ref a6, .ref a7, .ref a8, .ref a9, .ref a10, .ref a11])), (a1, .inl (cI, 24, .inl (fun zy => nI (EP zy)))), (a2, .inl (cI, 24, .inl SI_26)), (a4, .inl (cI, 1536, .inl SS_20)), (a5, .inl (cI, 12, .inl (fun zy => nI (ST_21 zy)))), (a6, .inl (cI, 12, .inl PH_27)), (a7, .inl (cI, 12, .inl EN)), (a8, .inl (cI, 12, .inl (fun zy => nI (CL zy)))), (a9, .inl (cI, 12, .inl (fun zy => nI (CB zy)))), (a10, .inl (cI, 12, .inl LE_28)), (a11, .inl (cI, 12, .inl GR_29)), (f0, .inr (1, [.int (nI nn), .ref f1, .ref f2, .ref f3, .ref f4])), (f1, .inl (cI, 7, .inl FC_30)), (f4, .inl (cZ, 7, .inl (upd FA j_3 (vp_nar .boolean v))))]) hP hD [16, 17, 18, 20, 21, 1, 2, 3, 4, 22, 23, 24, 5, 25] [0, 6, 7, 8, 9, 10, 11, 12, 13, 14, 15, 19] rfl rfl (by decide) (by decide) hk1 hFc hP1 hD1
        have hP : va_P D vwCl [(x, .inr (0, [.ref f0, .ref a0, .ref r0, .ref w0, .ref g0, .ref k0, .int tm, .int gp, .int lk])), (r0, .inr (3, [.int (nI nq), .int HA_14, .ref r1, .ref r2, .ref r3, .ref r4, .ref r5, .ref r6, .ref r7, .ref r8, .ref r9, .ref r10, .ref r11])), (r3, .inl (cI, 40, .inl (fun zy => nI (HO zy)))), (r4, .inl (cI, 40, .inl HE_15)), (r5, .inl (cI, 40, .inl KE_16)), (r6, .inl (cZ, 40, .inl TO)), (r7, .inl (cI, 240, .inl (fun zy => nI (LP zy)))), (r8, .inl (cI, 240, .inl (fun zy => nI (LF zy)))), (r9, .inl (cI, 240, .inl LS)), (r10, .inl (cI, 240, .inl LC)), (r11, .inl (cI, 240, .inl LH_17)), (a3, .inl (cI, 24, .inl LK_19)), (a0, .inr (2, [.int (nI np), .ref a1, .ref a2, .ref a3, .ref a4, .ref a5, .ref a6, .ref a7, .ref a8, .ref a9, .ref a10, .ref a11])), (a1, .inl (cI, 24, .inl (fun zy => nI (EP zy)))), (a2, .inl (cI, 24, .inl SI_26)), (a4, .inl (cI, 1536, .inl SS_20)), (a5, .inl (cI, 12, .inl (fun zy => nI (ST_21 zy)))), (a6, .inl (cI, 12, .inl PH_27)), (a7, .inl (cI, 12, .inl EN)), (a8, .inl (cI, 12, .inl (fun zy => nI (CL zy)))), (a9, .inl (cI, 12, .inl (fun zy => nI (CB zy)))), (a10, .inl (cI, 12, .inl LE_28)), (a11, .inl (cI, 12, .inl GR_29)), (f0, .inr (1, [.int (nI nn), .ref f1, .ref f2, .ref f3, .ref f4])), (f1, .inl (cI, 7, .inl FC_30)), (f4, .inl (cZ, 7, .inl (upd FA j_3 (vp_nar .boolean v))))] H_25 := hP
        have hD : va_D A [(x, .inr (0, [.ref f0, .ref a0, .ref r0, .ref w0, .ref g0, .ref k0, .int tm, .int gp, .int lk])), (r0, .inr (3, [.int (nI nq), .int HA_14, .ref r1, .ref r2, .ref r3, .ref r4, .ref r5, .ref r6, .ref r7, .ref r8, .ref r9, .ref r10, .ref r11])), (r3, .inl (cI, 40, .inl (fun zy => nI (HO zy)))), (r4, .inl (cI, 40, .inl HE_15)), (r5, .inl (cI, 40, .inl KE_16)), (r6, .inl (cZ, 40, .inl TO)), (r7, .inl (cI, 240, .inl (fun zy => nI (LP zy)))), (r8, .inl (cI, 240, .inl (fun zy => nI (LF zy)))), (r9, .inl (cI, 240, .inl LS)), (r10, .inl (cI, 240, .inl LC)), (r11, .inl (cI, 240, .inl LH_17)), (a3, .inl (cI, 24, .inl LK_19)), (a0, .inr (2, [.int (nI np), .ref a1, .ref a2, .ref a3, .ref a4, .ref a5, .ref a6, .ref a7, .ref a8, .ref a9, .ref a10, .ref a11])), (a1, .inl (cI, 24, .inl (fun zy => nI (EP zy)))), (a2, .inl (cI, 24, .inl SI_26)), (a4, .inl (cI, 1536, .inl SS_20)), (a5, .inl (cI, 12, .inl (fun zy => nI (ST_21 zy)))), (a6, .inl (cI, 12, .inl PH_27)), (a7, .inl (cI, 12, .inl EN)), (a8, .inl (cI, 12, .inl (fun zy => nI (CL zy)))), (a9, .inl (cI, 12, .inl (fun zy => nI (CB zy)))), (a10, .inl (cI, 12, .inl LE_28)), (a11, .inl (cI, 12, .inl GR_29)), (f0, .inr (1, [.int (nI nn), .ref f1, .ref f2, .ref f3, .ref f4])), (f1, .inl (cI, 7, .inl FC_30)), (f4, .inl (cZ, 7, .inl (upd FA j_3 (vp_nar .boolean v))))] := hD
        refine lv_iload_n hx hb d_PC_away_81 rfl (lv_at hl 0 rfl) ?_
        have hP9 := hP.sub (ws' := [(x, .inr (0, [.ref f0, .ref a0, .ref r0, .ref w0, .ref g0, .ref k0, .int tm, .int gp, .int lk])), (f0, .inr (1, [.int (nI nn), .ref f1, .ref f2, .ref f3, .ref f4])), (f4, .inl (cZ, 7, .inl (upd FA j_3 (vp_nar .boolean v)))), (r0, .inr (3, [.int (nI nq), .int HA_14, .ref r1, .ref r2, .ref r3, .ref r4, .ref r5, .ref r6, .ref r7, .ref r8, .ref r9, .ref r10, .ref r11])), (r3, .inl (cI, 40, .inl (fun zy => nI (HO zy)))), (r4, .inl (cI, 40, .inl HE_15)), (r5, .inl (cI, 40, .inl KE_16)), (r6, .inl (cZ, 40, .inl TO)), (r7, .inl (cI, 240, .inl (fun zy => nI (LP zy)))), (r8, .inl (cI, 240, .inl (fun zy => nI (LF zy)))), (r9, .inl (cI, 240, .inl LS)), (r10, .inl (cI, 240, .inl LC)), (r11, .inl (cI, 240, .inl LH_17)), (a0, .inr (2, [.int (nI np), .ref a1, .ref a2, .ref a3, .ref a4, .ref a5, .ref a6, .ref a7, .ref a8, .ref a9, .ref a10, .ref a11])), (a1, .inl (cI, 24, .inl (fun zy => nI (EP zy)))), (a2, .inl (cI, 24, .inl SI_26)), (a3, .inl (cI, 24, .inl LK_19)), (a4, .inl (cI, 1536, .inl SS_20)), (a5, .inl (cI, 12, .inl (fun zy => nI (ST_21 zy)))), (a10, .inl (cI, 12, .inl LE_28)), (a11, .inl (cI, 12, .inl GR_29)), (a6, .inl (cI, 12, .inl PH_27)), (a7, .inl (cI, 12, .inl EN)), (a8, .inl (cI, 12, .inl (fun zy => nI (CL zy)))), (a9, .inl (cI, 12, .inl (fun zy => nI (CB zy)))), (f1, .inl (cI, 7, .inl FC_30))]) [0, 23, 25, 1, 2, 3, 4, 5, 6, 7, 8, 9, 10, 12, 13, 14, 11, 15, 16, 21, 22, 17, 18, 19, 20, 24] rfl
        have hD9 := hD.sub (ws' := [(x, .inr (0, [.ref f0, .ref a0, .ref r0, .ref w0, .ref g0, .ref k0, .int tm, .int gp, .int lk])), (f0, .inr (1, [.int (nI nn), .ref f1, .ref f2, .ref f3, .ref f4])), (f4, .inl (cZ, 7, .inl (upd FA j_3 (vp_nar .boolean v)))), (r0, .inr (3, [.int (nI nq), .int HA_14, .ref r1, .ref r2, .ref r3, .ref r4, .ref r5, .ref r6, .ref r7, .ref r8, .ref r9, .ref r10, .ref r11])), (r3, .inl (cI, 40, .inl (fun zy => nI (HO zy)))), (r4, .inl (cI, 40, .inl HE_15)), (r5, .inl (cI, 40, .inl KE_16)), (r6, .inl (cZ, 40, .inl TO)), (r7, .inl (cI, 240, .inl (fun zy => nI (LP zy)))), (r8, .inl (cI, 240, .inl (fun zy => nI (LF zy)))), (r9, .inl (cI, 240, .inl LS)), (r10, .inl (cI, 240, .inl LC)), (r11, .inl (cI, 240, .inl LH_17)), (a0, .inr (2, [.int (nI np), .ref a1, .ref a2, .ref a3, .ref a4, .ref a5, .ref a6, .ref a7, .ref a8, .ref a9, .ref a10, .ref a11])), (a1, .inl (cI, 24, .inl (fun zy => nI (EP zy)))), (a2, .inl (cI, 24, .inl SI_26)), (a3, .inl (cI, 24, .inl LK_19)), (a4, .inl (cI, 1536, .inl SS_20)), (a5, .inl (cI, 12, .inl (fun zy => nI (ST_21 zy)))), (a10, .inl (cI, 12, .inl LE_28)), (a11, .inl (cI, 12, .inl GR_29)), (a6, .inl (cI, 12, .inl PH_27)), (a7, .inl (cI, 12, .inl EN)), (a8, .inl (cI, 12, .inl (fun zy => nI (CL zy)))), (a9, .inl (cI, 12, .inl (fun zy => nI (CB zy)))), (f1, .inl (cI, 7, .inl FC_30))]) [0, 23, 25, 1, 2, 3, 4, 5, 6, 7, 8, 9, 10, 12, 13, 14, 11, 15, 16, 21, 22, 17, 18, 19, 20, 24] (by decide) rfl
        refine W.widen (k := 0) (n := 0) (Nat.le_of_ble_eq_true rfl) (Nat.le_of_ble_eq_true rfl) ?_
        exact W.iret (v := r_12) hx hb hr (fun tT ht hW => ⟨⟨r_12, (HA_14, HE_15, KE_16, LH_17, SI_26, LK_19, SS_20, ST_21, LE_28, GR_29, PH_27, FC_30, (upd FA j_3 (vp_nar .boolean v))), rfl, ⟨hf_23_0, (fun q h => hf_23_1 q (h_st q h))⟩, by rw [ht]; exact hP9, hD9⟩, hS.F ht⟩) hS.2.2 d_PC_away_82
      · refine lv_iconst (v := 0) hx hb d_PC_away_44 (by decide) ?_
        have hP9 := hP.sub (ws' := [(x, .inr (0, [.ref f0, .ref a0, .ref r0, .ref w0, .ref g0, .ref k0, .int tm, .int gp, .int lk])), (f0, .inr (1, [.int (nI nn), .ref f1, .ref f2, .ref f3, .ref f4])), (f4, .inl (cZ, 7, .inl (upd FA j_3 (vp_nar .boolean v)))), (r0, .inr (3, [.int (nI nq), .int HA, .ref r1, .ref r2, .ref r3, .ref r4, .ref r5, .ref r6, .ref r7, .ref r8, .ref r9, .ref r10, .ref r11])), (r3, .inl (cI, 40, .inl (fun zy => nI (HO zy)))), (r4, .inl (cI, 40, .inl HE)), (r5, .inl (cI, 40, .inl KE)), (r6, .inl (cZ, 40, .inl TO)), (r7, .inl (cI, 240, .inl (fun zy => nI (LP zy)))), (r8, .inl (cI, 240, .inl (fun zy => nI (LF zy)))), (r9, .inl (cI, 240, .inl LS)), (r10, .inl (cI, 240, .inl LC)), (r11, .inl (cI, 240, .inl LH)), (a0, .inr (2, [.int (nI np), .ref a1, .ref a2, .ref a3, .ref a4, .ref a5, .ref a6, .ref a7, .ref a8, .ref a9, .ref a10, .ref a11])), (a1, .inl (cI, 24, .inl (fun zy => nI (EP zy)))), (a2, .inl (cI, 24, .inl SI)), (a3, .inl (cI, 24, .inl LK)), (a4, .inl (cI, 1536, .inl SS)), (a5, .inl (cI, 12, .inl (fun zy => nI (ST zy)))), (a10, .inl (cI, 12, .inl LE)), (a11, .inl (cI, 12, .inl GR)), (a6, .inl (cI, 12, .inl PH)), (a7, .inl (cI, 12, .inl EN)), (a8, .inl (cI, 12, .inl (fun zy => nI (CL zy)))), (a9, .inl (cI, 12, .inl (fun zy => nI (CB zy)))), (f1, .inl (cI, 7, .inl FC))]) [0, 1, 2, 3, 4, 5, 6, 7, 8, 9, 10, 11, 12, 13, 14, 15, 16, 17, 18, 19, 20, 21, 22, 23, 24, 25] rfl
        have hD9 := hD.sub (ws' := [(x, .inr (0, [.ref f0, .ref a0, .ref r0, .ref w0, .ref g0, .ref k0, .int tm, .int gp, .int lk])), (f0, .inr (1, [.int (nI nn), .ref f1, .ref f2, .ref f3, .ref f4])), (f4, .inl (cZ, 7, .inl (upd FA j_3 (vp_nar .boolean v)))), (r0, .inr (3, [.int (nI nq), .int HA, .ref r1, .ref r2, .ref r3, .ref r4, .ref r5, .ref r6, .ref r7, .ref r8, .ref r9, .ref r10, .ref r11])), (r3, .inl (cI, 40, .inl (fun zy => nI (HO zy)))), (r4, .inl (cI, 40, .inl HE)), (r5, .inl (cI, 40, .inl KE)), (r6, .inl (cZ, 40, .inl TO)), (r7, .inl (cI, 240, .inl (fun zy => nI (LP zy)))), (r8, .inl (cI, 240, .inl (fun zy => nI (LF zy)))), (r9, .inl (cI, 240, .inl LS)), (r10, .inl (cI, 240, .inl LC)), (r11, .inl (cI, 240, .inl LH)), (a0, .inr (2, [.int (nI np), .ref a1, .ref a2, .ref a3, .ref a4, .ref a5, .ref a6, .ref a7, .ref a8, .ref a9, .ref a10, .ref a11])), (a1, .inl (cI, 24, .inl (fun zy => nI (EP zy)))), (a2, .inl (cI, 24, .inl SI)), (a3, .inl (cI, 24, .inl LK)), (a4, .inl (cI, 1536, .inl SS)), (a5, .inl (cI, 12, .inl (fun zy => nI (ST zy)))), (a10, .inl (cI, 12, .inl LE)), (a11, .inl (cI, 12, .inl GR)), (a6, .inl (cI, 12, .inl PH)), (a7, .inl (cI, 12, .inl EN)), (a8, .inl (cI, 12, .inl (fun zy => nI (CL zy)))), (a9, .inl (cI, 12, .inl (fun zy => nI (CB zy)))), (f1, .inl (cI, 7, .inl FC))]) [0, 1, 2, 3, 4, 5, 6, 7, 8, 9, 10, 11, 12, 13, 14, 15, 16, 17, 18, 19, 20, 21, 22, 23, 24, 25] (by decide) rfl
        refine W.widen (k := 0) (n := 0) (Nat.le_of_ble_eq_true rfl) (Nat.le_of_ble_eq_true rfl) ?_
        exact W.iret (v := 0) hx hb hr (fun tT ht hW => ⟨⟨0, (HA, HE, KE, LH, SI, LK, SS, ST, LE, GR, PH, FC, (upd FA j_3 (vp_nar .boolean v))), rfl, ⟨h_ST, h_st⟩, by rw [ht]; exact hP9, hD9⟩, hS.F ht⟩) hS.2.2 d_PC_away_45
    · refine lv_bipush (v := (-3)) hx hb d_PC_away_27 (by decide) ?_
      have hP9 := hP.sub (ws' := [(x, .inr (0, [.ref f0, .ref a0, .ref r0, .ref w0, .ref g0, .ref k0, .int tm, .int gp, .int lk])), (f0, .inr (1, [.int (nI nn), .ref f1, .ref f2, .ref f3, .ref f4])), (f4, .inl (cZ, 7, .inl FA)), (r0, .inr (3, [.int (nI nq), .int HA, .ref r1, .ref r2, .ref r3, .ref r4, .ref r5, .ref r6, .ref r7, .ref r8, .ref r9, .ref r10, .ref r11])), (r3, .inl (cI, 40, .inl (fun zy => nI (HO zy)))), (r4, .inl (cI, 40, .inl HE)), (r5, .inl (cI, 40, .inl KE)), (r6, .inl (cZ, 40, .inl TO)), (r7, .inl (cI, 240, .inl (fun zy => nI (LP zy)))), (r8, .inl (cI, 240, .inl (fun zy => nI (LF zy)))), (r9, .inl (cI, 240, .inl LS)), (r10, .inl (cI, 240, .inl LC)), (r11, .inl (cI, 240, .inl LH)), (a0, .inr (2, [.int (nI np), .ref a1, .ref a2, .ref a3, .ref a4, .ref a5, .ref a6, .ref a7, .ref a8, .ref a9, .ref a10, .ref a11])), (a1, .inl (cI, 24, .inl (fun zy => nI (EP zy)))), (a2, .inl (cI, 24, .inl SI)), (a3, .inl (cI, 24, .inl LK)), (a4, .inl (cI, 1536, .inl SS)), (a5, .inl (cI, 12, .inl (fun zy => nI (ST zy)))), (a10, .inl (cI, 12, .inl LE)), (a11, .inl (cI, 12, .inl GR)), (a6, .inl (cI, 12, .inl PH)), (a7, .inl (cI, 12, .inl EN)), (a8, .inl (cI, 12, .inl (fun zy => nI (CL zy)))), (a9, .inl (cI, 12, .inl (fun zy => nI (CB zy)))), (f1, .inl (cI, 7, .inl FC))]) [0, 1, 2, 3, 4, 5, 6, 7, 8, 9, 10, 11, 12, 13, 14, 15, 16, 17, 18, 19, 20, 21, 22, 23, 24, 25] rfl
      have hD9 := hD.sub (ws' := [(x, .inr (0, [.ref f0, .ref a0, .ref r0, .ref w0, .ref g0, .ref k0, .int tm, .int gp, .int lk])), (f0, .inr (1, [.int (nI nn), .ref f1, .ref f2, .ref f3, .ref f4])), (f4, .inl (cZ, 7, .inl FA)), (r0, .inr (3, [.int (nI nq), .int HA, .ref r1, .ref r2, .ref r3, .ref r4, .ref r5, .ref r6, .ref r7, .ref r8, .ref r9, .ref r10, .ref r11])), (r3, .inl (cI, 40, .inl (fun zy => nI (HO zy)))), (r4, .inl (cI, 40, .inl HE)), (r5, .inl (cI, 40, .inl KE)), (r6, .inl (cZ, 40, .inl TO)), (r7, .inl (cI, 240, .inl (fun zy => nI (LP zy)))), (r8, .inl (cI, 240, .inl (fun zy => nI (LF zy)))), (r9, .inl (cI, 240, .inl LS)), (r10, .inl (cI, 240, .inl LC)), (r11, .inl (cI, 240, .inl LH)), (a0, .inr (2, [.int (nI np), .ref a1, .ref a2, .ref a3, .ref a4, .ref a5, .ref a6, .ref a7, .ref a8, .ref a9, .ref a10, .ref a11])), (a1, .inl (cI, 24, .inl (fun zy => nI (EP zy)))), (a2, .inl (cI, 24, .inl SI)), (a3, .inl (cI, 24, .inl LK)), (a4, .inl (cI, 1536, .inl SS)), (a5, .inl (cI, 12, .inl (fun zy => nI (ST zy)))), (a10, .inl (cI, 12, .inl LE)), (a11, .inl (cI, 12, .inl GR)), (a6, .inl (cI, 12, .inl PH)), (a7, .inl (cI, 12, .inl EN)), (a8, .inl (cI, 12, .inl (fun zy => nI (CL zy)))), (a9, .inl (cI, 12, .inl (fun zy => nI (CB zy)))), (f1, .inl (cI, 7, .inl FC))]) [0, 1, 2, 3, 4, 5, 6, 7, 8, 9, 10, 11, 12, 13, 14, 15, 16, 17, 18, 19, 20, 21, 22, 23, 24, 25] (by decide) rfl
      refine W.widen (k := 0) (n := 0) (Nat.le_of_ble_eq_true rfl) (Nat.le_of_ble_eq_true rfl) ?_
      exact W.iret (v := (-3)) hx hb hr (fun tT ht hW => ⟨⟨(-3), (HA, HE, KE, LH, SI, LK, SS, ST, LE, GR, PH, FC, FA), rfl, ⟨h_ST, h_st⟩, by rw [ht]; exact hP9, hD9⟩, hS.F ht⟩) hS.2.2 d_PC_away_29
