-- what a fresh object answers
theorem isw_neg (i : Int32) : isw i 0 (-1) = 0 := by
  unfold isw
  by_cases h : i < 0
  · simp [h]
  · have h2 : (-1 : Int32) < i := by
      rw [Int32.lt_iff_toInt_lt] at h ⊢
      have e0 : (0 : Int32).toInt = 0 := rfl
      have e1 : (-1 : Int32).toInt = -1 := rfl
      omega
    simp [h2]
theorem isw_nat {v b : Int32} {K : Nat} (hb : b.toInt = K) (h : ¬ isw v 1 b = 0) : ∃ N : Nat, N ≤ K ∧ v = nI N := by
  obtain ⟨h1, h2⟩ := isw_ge h
  have h3 := Int32.le_iff_toInt_le.mp h1
  have h5 : (1 : Int32).toInt = 1 := rfl
  exact nI_of2 hb (by rw [Int32.lt_iff_toInt_lt]; have e0 : (0 : Int32).toInt = 0 := rfl; omega) h2
def sp_people (n : Int32) : Int32 := if isw n 2 7 = 0 then -2 else 1
def sp_pair (a b u v : Int32) : Int32 := if isw a 0 1 = 0 ∨ isw b 0 1 = 0 ∨ a = b ∨ isw u 0 100000 = 0 ∨ isw v 0 100000 = 0 then -2 else 0
def sp_fee (i b r : Int32) : Int32 := if isw i 0 1 = 0 ∨ isw b 0 100 = 0 ∨ isw r 0 100 = 0 then -2 else 1
def sp_gap (v : Int32) : Int32 := if isw v 1 50 = 0 then -2 else 3
def sp_look (v : Int32) : Int32 := if isw v 1 50 = 0 then -2 else 5
def sp_away (i z : Int32) : Int32 := if isw i 0 1 = 0 then -2 else if z = 0 then -3 else 0
def maw (a b v : Int32) : Int32 := if isw a 0 1 = 0 ∨ isw b 0 1 = 0 ∨ a = b ∨ isw v 1 100000 = 0 then 0 else 1
def sp_best (a b v : Int32) : Int32 := if maw a b v = 0 then -2 else -1
def sp_promise (a b v : Int32) : Int32 := if maw a b v = 0 then -2 else -3
def sp_tick (n : Int32) : Int32 := if isw n 1 60 = 0 then -2 else 0
def sp_wealth (i : Int32) : Int32 := if isw i 0 1 = 0 then -2 else 0
def sp_ring (i : Int32) : Int32 := if isw i 0 4 = 0 then -2 else -1
def sp_tries (i : Int32) : Int32 := if isw i 1 200000 = 0 then -2 else -3
def sp_count (i : Int32) : Int32 := if i = 0 then 2 else if i = 1 then 0 else if i = 2 then 0 else if i = 3 then 0 else if i = 4 then 0 else if i = 5 then 3 else if i = 6 then 5 else if i = 7 then 0 else -2
theorem maw_s {a b v : Int32} (h : ¬ maw a b v = 0) : ¬ isw a 0 1 = 0 := by
  intro q
  exact h (by simp [maw, q])
theorem maw_d {a b v : Int32} (h : ¬ maw a b v = 0) : ¬ isw b 0 1 = 0 := by
  intro q
  exact h (by simp [maw, q])
theorem d_PR_runOut_0 : decode prog_4_method_7_code 0 = .ok (.iconst 0, 1) := by decide +kernel
theorem d_PR_runOut_1 : decode prog_4_method_7_code 1 = .ok (.istore_n 3, 1) := by decide +kernel
theorem d_PR_runOut_2 : decode prog_4_method_7_code 2 = .ok (.iconst 0, 1) := by decide +kernel
theorem d_PR_runOut_3 : decode prog_4_method_7_code 3 = .ok (.istore 4, 2) := by decide +kernel
theorem d_PR_runOut_5 : decode prog_4_method_7_code 5 = .ok (.iload 4, 2) := by decide +kernel
theorem d_PR_runOut_7 : decode prog_4_method_7_code 7 = .ok (.aload_n 0, 1) := by decide +kernel
theorem d_PR_runOut_8 : decode prog_4_method_7_code 8 = .ok (.getfield 9, 3) := by decide +kernel
theorem d_PR_runOut_11 : decode prog_4_method_7_code 11 = .ok (.if_icmp .ge 108, 3) := by decide +kernel
theorem d_PR_runOut_119 : decode prog_4_method_7_code 119 = .ok (.iload_n 3, 1) := by decide +kernel
theorem d_PR_runOut_120 : decode prog_4_method_7_code 120 = .ok (.ireturn, 1) := by decide +kernel
theorem d_PR_keepRound_0 : decode prog_4_method_9_code 0 = .ok (.iconst 0, 1) := by decide +kernel
theorem d_PR_keepRound_1 : decode prog_4_method_9_code 1 = .ok (.istore 4, 2) := by decide +kernel
theorem d_PR_keepRound_3 : decode prog_4_method_9_code 3 = .ok (.iconst 0, 1) := by decide +kernel
theorem d_PR_keepRound_4 : decode prog_4_method_9_code 4 = .ok (.istore 5, 2) := by decide +kernel
theorem d_PR_keepRound_6 : decode prog_4_method_9_code 6 = .ok (.iload 5, 2) := by decide +kernel
theorem d_PR_keepRound_8 : decode prog_4_method_9_code 8 = .ok (.aload_n 0, 1) := by decide +kernel
theorem d_PR_keepRound_9 : decode prog_4_method_9_code 9 = .ok (.getfield 9, 3) := by decide +kernel
theorem d_PR_keepRound_12 : decode prog_4_method_9_code 12 = .ok (.if_icmp .ge 121, 3) := by decide +kernel
theorem d_PR_keepRound_133 : decode prog_4_method_9_code 133 = .ok (.iload 4, 2) := by decide +kernel
theorem d_PR_keepRound_135 : decode prog_4_method_9_code 135 = .ok (.ireturn, 1) := by decide +kernel
theorem d_PR_keepAll_0 : decode prog_4_method_8_code 0 = .ok (.iconst 0, 1) := by decide +kernel
theorem d_PR_keepAll_1 : decode prog_4_method_8_code 1 = .ok (.istore 4, 2) := by decide +kernel
theorem d_PR_keepAll_3 : decode prog_4_method_8_code 3 = .ok (.iconst 0, 1) := by decide +kernel
theorem d_PR_keepAll_4 : decode prog_4_method_8_code 4 = .ok (.istore 5, 2) := by decide +kernel
theorem d_PR_keepAll_6 : decode prog_4_method_8_code 6 = .ok (.iload 5, 2) := by decide +kernel
theorem d_PR_keepAll_8 : decode prog_4_method_8_code 8 = .ok (.sipush 240, 3) := by decide +kernel
theorem d_PR_keepAll_11 : decode prog_4_method_8_code 11 = .ok (.if_icmp .ge 33, 3) := by decide +kernel
theorem d_PR_keepAll_14 : decode prog_4_method_8_code 14 = .ok (.aload_n 0, 1) := by decide +kernel
theorem d_PR_keepAll_15 : decode prog_4_method_8_code 15 = .ok (.aload_n 1, 1) := by decide +kernel
theorem d_PR_keepAll_16 : decode prog_4_method_8_code 16 = .ok (.aload_n 2, 1) := by decide +kernel
theorem d_PR_keepAll_17 : decode prog_4_method_8_code 17 = .ok (.iload_n 3, 1) := by decide +kernel
theorem d_PR_keepAll_18 : decode prog_4_method_8_code 18 = .ok (.invokevirtual 66, 3) := by decide +kernel
theorem d_PR_keepAll_21 : decode prog_4_method_8_code 21 = .ok (.istore 6, 2) := by decide +kernel
theorem d_PR_keepAll_23 : decode prog_4_method_8_code 23 = .ok (.iload 6, 2) := by decide +kernel
theorem d_PR_keepAll_25 : decode prog_4_method_8_code 25 = .ok (.ifCond .ne 6, 3) := by decide +kernel
theorem d_PR_keepAll_28 : decode prog_4_method_8_code 28 = .ok (.goto 16, 3) := by decide +kernel
theorem d_PR_keepAll_44 : decode prog_4_method_8_code 44 = .ok (.iload 4, 2) := by decide +kernel
theorem d_PR_keepAll_46 : decode prog_4_method_8_code 46 = .ok (.ireturn, 1) := by decide +kernel
theorem d_PA_settle_0 : decode prog_2_method_18_code 0 = .ok (.iconst 0, 1) := by decide +kernel
theorem d_PA_settle_1 : decode prog_2_method_18_code 1 = .ok (.istore_n 3, 1) := by decide +kernel
theorem d_PA_settle_2 : decode prog_2_method_18_code 2 = .ok (.iload_n 3, 1) := by decide +kernel
theorem d_PA_settle_3 : decode prog_2_method_18_code 3 = .ok (.aload_n 0, 1) := by decide +kernel
theorem d_PA_settle_4 : decode prog_2_method_18_code 4 = .ok (.getfield 9, 3) := by decide +kernel
theorem d_PA_settle_7 : decode prog_2_method_18_code 7 = .ok (.if_icmp .ge 105, 3) := by decide +kernel
theorem d_PA_settle_112 : decode prog_2_method_18_code 112 = .ok (.return_, 1) := by decide +kernel
theorem d_PA_sumOff_0 : decode prog_2_method_8_code 0 = .ok (.iconst 0, 1) := by decide +kernel
theorem d_PA_sumOff_1 : decode prog_2_method_8_code 1 = .ok (.istore_n 1, 1) := by decide +kernel
theorem d_PA_sumOff_2 : decode prog_2_method_8_code 2 = .ok (.iconst 0, 1) := by decide +kernel
theorem d_PA_sumOff_3 : decode prog_2_method_8_code 3 = .ok (.istore_n 2, 1) := by decide +kernel
theorem d_PA_sumOff_4 : decode prog_2_method_8_code 4 = .ok (.iload_n 2, 1) := by decide +kernel
theorem d_PA_sumOff_5 : decode prog_2_method_8_code 5 = .ok (.aload_n 0, 1) := by decide +kernel
theorem d_PA_sumOff_6 : decode prog_2_method_8_code 6 = .ok (.getfield 9, 3) := by decide +kernel
theorem d_PA_sumOff_9 : decode prog_2_method_8_code 9 = .ok (.if_icmp .ge 43, 3) := by decide +kernel
theorem d_PA_sumOff_52 : decode prog_2_method_8_code 52 = .ok (.iload_n 1, 1) := by decide +kernel
theorem d_PA_sumOff_53 : decode prog_2_method_8_code 53 = .ok (.ireturn, 1) := by decide +kernel
theorem d_PE_howManyAway_0 : decode prog_3_method_5_code 0 = .ok (.iconst 0, 1) := by decide +kernel
theorem d_PE_howManyAway_1 : decode prog_3_method_5_code 1 = .ok (.istore_n 1, 1) := by decide +kernel
theorem d_PE_howManyAway_2 : decode prog_3_method_5_code 2 = .ok (.iconst 0, 1) := by decide +kernel
theorem d_PE_howManyAway_3 : decode prog_3_method_5_code 3 = .ok (.istore_n 2, 1) := by decide +kernel
theorem d_PE_howManyAway_4 : decode prog_3_method_5_code 4 = .ok (.iload_n 2, 1) := by decide +kernel
theorem d_PE_howManyAway_5 : decode prog_3_method_5_code 5 = .ok (.aload_n 0, 1) := by decide +kernel
theorem d_PE_howManyAway_6 : decode prog_3_method_5_code 6 = .ok (.getfield 9, 3) := by decide +kernel
theorem d_PE_howManyAway_9 : decode prog_3_method_5_code 9 = .ok (.if_icmp .ge 26, 3) := by decide +kernel
theorem d_PE_howManyAway_12 : decode prog_3_method_5_code 12 = .ok (.iload_n 1, 1) := by decide +kernel
theorem d_PE_howManyAway_13 : decode prog_3_method_5_code 13 = .ok (.aload_n 0, 1) := by decide +kernel
theorem d_PE_howManyAway_14 : decode prog_3_method_5_code 14 = .ok (.getfield 25, 3) := by decide +kernel
theorem d_PE_howManyAway_17 : decode prog_3_method_5_code 17 = .ok (.iload_n 2, 1) := by decide +kernel
theorem d_PE_howManyAway_18 : decode prog_3_method_5_code 18 = .ok (.baload, 1) := by decide +kernel
theorem d_PE_howManyAway_19 : decode prog_3_method_5_code 19 = .ok (.ifCond .eq 7, 3) := by decide +kernel
theorem d_PE_howManyAway_26 : decode prog_3_method_5_code 26 = .ok (.iconst 0, 1) := by decide +kernel
theorem d_PE_howManyAway_27 : decode prog_3_method_5_code 27 = .ok (.iadd, 1) := by decide +kernel
theorem d_PE_howManyAway_28 : decode prog_3_method_5_code 28 = .ok (.istore_n 1, 1) := by decide +kernel
theorem d_PE_howManyAway_29 : decode prog_3_method_5_code 29 = .ok (.iinc 2 1, 3) := by decide +kernel
theorem d_PE_howManyAway_32 : decode prog_3_method_5_code 32 = .ok (.goto (-28), 3) := by decide +kernel
theorem d_PE_howManyAway_35 : decode prog_3_method_5_code 35 = .ok (.iload_n 1, 1) := by decide +kernel
theorem d_PE_howManyAway_36 : decode prog_3_method_5_code 36 = .ok (.ireturn, 1) := by decide +kernel
theorem d_PA_setSides_0 : decode prog_2_method_9_code 0 = .ok (.aload_n 0, 1) := by decide +kernel
theorem d_PA_setSides_1 : decode prog_2_method_9_code 1 = .ok (.getfield 19, 3) := by decide +kernel
theorem d_PA_setSides_4 : decode prog_2_method_9_code 4 = .ok (.iconst 2, 1) := by decide +kernel
theorem d_PA_setSides_5 : decode prog_2_method_9_code 5 = .ok (.iload_n 1, 1) := by decide +kernel
theorem d_PA_setSides_6 : decode prog_2_method_9_code 6 = .ok (.imul, 1) := by decide +kernel
theorem d_PA_setSides_7 : decode prog_2_method_9_code 7 = .ok (.iload_n 2, 1) := by decide +kernel
theorem d_PA_setSides_8 : decode prog_2_method_9_code 8 = .ok (.iastore, 1) := by decide +kernel
theorem d_PA_setSides_9 : decode prog_2_method_9_code 9 = .ok (.aload_n 0, 1) := by decide +kernel
theorem d_PA_setSides_10 : decode prog_2_method_9_code 10 = .ok (.getfield 19, 3) := by decide +kernel
theorem d_PA_setSides_13 : decode prog_2_method_9_code 13 = .ok (.iconst 2, 1) := by decide +kernel
theorem d_PA_setSides_14 : decode prog_2_method_9_code 14 = .ok (.iload_n 1, 1) := by decide +kernel
theorem d_PA_setSides_15 : decode prog_2_method_9_code 15 = .ok (.imul, 1) := by decide +kernel
theorem d_PA_setSides_16 : decode prog_2_method_9_code 16 = .ok (.iconst 1, 1) := by decide +kernel
theorem d_PA_setSides_17 : decode prog_2_method_9_code 17 = .ok (.iadd, 1) := by decide +kernel
theorem d_PA_setSides_18 : decode prog_2_method_9_code 18 = .ok (.iload_n 3, 1) := by decide +kernel
theorem d_PA_setSides_19 : decode prog_2_method_9_code 19 = .ok (.iastore, 1) := by decide +kernel
theorem d_PA_setSides_20 : decode prog_2_method_9_code 20 = .ok (.aload_n 0, 1) := by decide +kernel
theorem d_PA_setSides_21 : decode prog_2_method_9_code 21 = .ok (.getfield 43, 3) := by decide +kernel
theorem d_PA_setSides_24 : decode prog_2_method_9_code 24 = .ok (.iload_n 1, 1) := by decide +kernel
theorem d_PA_setSides_25 : decode prog_2_method_9_code 25 = .ok (.iconst 0, 1) := by decide +kernel
theorem d_PA_setSides_26 : decode prog_2_method_9_code 26 = .ok (.iastore, 1) := by decide +kernel
theorem d_PA_setSides_27 : decode prog_2_method_9_code 27 = .ok (.aload_n 0, 1) := by decide +kernel
theorem d_PA_setSides_28 : decode prog_2_method_9_code 28 = .ok (.getfield 46, 3) := by decide +kernel
theorem d_PA_setSides_31 : decode prog_2_method_9_code 31 = .ok (.iload_n 1, 1) := by decide +kernel
theorem d_PA_setSides_32 : decode prog_2_method_9_code 32 = .ok (.iload_n 2, 1) := by decide +kernel
theorem d_PA_setSides_33 : decode prog_2_method_9_code 33 = .ok (.iload_n 3, 1) := by decide +kernel
theorem d_PA_setSides_34 : decode prog_2_method_9_code 34 = .ok (.iadd, 1) := by decide +kernel
theorem d_PA_setSides_35 : decode prog_2_method_9_code 35 = .ok (.iastore, 1) := by decide +kernel
theorem d_PA_setSides_36 : decode prog_2_method_9_code 36 = .ok (.return_, 1) := by decide +kernel
theorem d_PA_addState_0 : decode prog_2_method_11_code 0 = .ok (.aload_n 0, 1) := by decide +kernel
theorem d_PA_addState_1 : decode prog_2_method_11_code 1 = .ok (.getfield 28, 3) := by decide +kernel
theorem d_PA_addState_4 : decode prog_2_method_11_code 4 = .ok (.iload_n 1, 1) := by decide +kernel
theorem d_PA_addState_5 : decode prog_2_method_11_code 5 = .ok (.iaload, 1) := by decide +kernel
theorem d_PA_addState_6 : decode prog_2_method_11_code 6 = .ok (.bipush 64, 2) := by decide +kernel
theorem d_PA_addState_8 : decode prog_2_method_11_code 8 = .ok (.if_icmp .ge 13, 3) := by decide +kernel
theorem d_PA_addState_11 : decode prog_2_method_11_code 11 = .ok (.aload_n 0, 1) := by decide +kernel
theorem d_PA_addState_12 : decode prog_2_method_11_code 12 = .ok (.getfield 28, 3) := by decide +kernel
theorem d_PA_addState_15 : decode prog_2_method_11_code 15 = .ok (.iload_n 1, 1) := by decide +kernel
theorem d_PA_addState_16 : decode prog_2_method_11_code 16 = .ok (.dup2, 1) := by decide +kernel
theorem d_PA_addState_17 : decode prog_2_method_11_code 17 = .ok (.iaload, 1) := by decide +kernel
theorem d_PA_addState_18 : decode prog_2_method_11_code 18 = .ok (.iconst 1, 1) := by decide +kernel
theorem d_PA_addState_19 : decode prog_2_method_11_code 19 = .ok (.iadd, 1) := by decide +kernel
theorem d_PA_addState_20 : decode prog_2_method_11_code 20 = .ok (.iastore, 1) := by decide +kernel
theorem d_PA_addState_21 : decode prog_2_method_11_code 21 = .ok (.iconst 2, 1) := by decide +kernel
theorem d_PA_addState_22 : decode prog_2_method_11_code 22 = .ok (.iload_n 1, 1) := by decide +kernel
theorem d_PA_addState_23 : decode prog_2_method_11_code 23 = .ok (.bipush 64, 2) := by decide +kernel
theorem d_PA_addState_25 : decode prog_2_method_11_code 25 = .ok (.imul, 1) := by decide +kernel
theorem d_PA_addState_26 : decode prog_2_method_11_code 26 = .ok (.aload_n 0, 1) := by decide +kernel
theorem d_PA_addState_27 : decode prog_2_method_11_code 27 = .ok (.getfield 28, 3) := by decide +kernel
theorem d_PA_addState_30 : decode prog_2_method_11_code 30 = .ok (.iload_n 1, 1) := by decide +kernel
theorem d_PA_addState_31 : decode prog_2_method_11_code 31 = .ok (.iaload, 1) := by decide +kernel
theorem d_PA_addState_32 : decode prog_2_method_11_code 32 = .ok (.iadd, 1) := by decide +kernel
theorem d_PA_addState_33 : decode prog_2_method_11_code 33 = .ok (.iconst 1, 1) := by decide +kernel
theorem d_PA_addState_34 : decode prog_2_method_11_code 34 = .ok (.isub, 1) := by decide +kernel
theorem d_PA_addState_35 : decode prog_2_method_11_code 35 = .ok (.imul, 1) := by decide +kernel
theorem d_PA_addState_36 : decode prog_2_method_11_code 36 = .ok (.istore_n 2, 1) := by decide +kernel
theorem d_PA_addState_37 : decode prog_2_method_11_code 37 = .ok (.aload_n 0, 1) := by decide +kernel
theorem d_PA_addState_38 : decode prog_2_method_11_code 38 = .ok (.getfield 25, 3) := by decide +kernel
theorem d_PA_addState_41 : decode prog_2_method_11_code 41 = .ok (.iload_n 2, 1) := by decide +kernel
theorem d_PA_addState_42 : decode prog_2_method_11_code 42 = .ok (.aload_n 0, 1) := by decide +kernel
theorem d_PA_addState_43 : decode prog_2_method_11_code 43 = .ok (.getfield 19, 3) := by decide +kernel
theorem d_PA_addState_46 : decode prog_2_method_11_code 46 = .ok (.iconst 2, 1) := by decide +kernel
theorem d_PA_addState_47 : decode prog_2_method_11_code 47 = .ok (.iload_n 1, 1) := by decide +kernel
theorem d_PA_addState_48 : decode prog_2_method_11_code 48 = .ok (.imul, 1) := by decide +kernel
theorem d_PA_addState_49 : decode prog_2_method_11_code 49 = .ok (.iaload, 1) := by decide +kernel
theorem d_PA_addState_50 : decode prog_2_method_11_code 50 = .ok (.aload_n 0, 1) := by decide +kernel
theorem d_PA_addState_51 : decode prog_2_method_11_code 51 = .ok (.getfield 22, 3) := by decide +kernel
theorem d_PA_addState_54 : decode prog_2_method_11_code 54 = .ok (.iconst 2, 1) := by decide +kernel
theorem d_PA_addState_55 : decode prog_2_method_11_code 55 = .ok (.iload_n 1, 1) := by decide +kernel
theorem d_PA_addState_56 : decode prog_2_method_11_code 56 = .ok (.imul, 1) := by decide +kernel
theorem d_PA_addState_57 : decode prog_2_method_11_code 57 = .ok (.iaload, 1) := by decide +kernel
theorem d_PA_addState_58 : decode prog_2_method_11_code 58 = .ok (.iadd, 1) := by decide +kernel
theorem d_PA_addState_59 : decode prog_2_method_11_code 59 = .ok (.iastore, 1) := by decide +kernel
theorem d_PA_addState_60 : decode prog_2_method_11_code 60 = .ok (.aload_n 0, 1) := by decide +kernel
theorem d_PA_addState_61 : decode prog_2_method_11_code 61 = .ok (.getfield 25, 3) := by decide +kernel
theorem d_PA_addState_64 : decode prog_2_method_11_code 64 = .ok (.iload_n 2, 1) := by decide +kernel
theorem d_PA_addState_65 : decode prog_2_method_11_code 65 = .ok (.iconst 1, 1) := by decide +kernel
theorem d_PA_addState_66 : decode prog_2_method_11_code 66 = .ok (.iadd, 1) := by decide +kernel
theorem d_PA_addState_67 : decode prog_2_method_11_code 67 = .ok (.aload_n 0, 1) := by decide +kernel
theorem d_PA_addState_68 : decode prog_2_method_11_code 68 = .ok (.getfield 19, 3) := by decide +kernel
theorem d_PA_addState_71 : decode prog_2_method_11_code 71 = .ok (.iconst 2, 1) := by decide +kernel
theorem d_PA_addState_72 : decode prog_2_method_11_code 72 = .ok (.iload_n 1, 1) := by decide +kernel
theorem d_PA_addState_73 : decode prog_2_method_11_code 73 = .ok (.imul, 1) := by decide +kernel
theorem d_PA_addState_74 : decode prog_2_method_11_code 74 = .ok (.iconst 1, 1) := by decide +kernel
theorem d_PA_addState_75 : decode prog_2_method_11_code 75 = .ok (.iadd, 1) := by decide +kernel
theorem d_PA_addState_76 : decode prog_2_method_11_code 76 = .ok (.iaload, 1) := by decide +kernel
theorem d_PA_addState_77 : decode prog_2_method_11_code 77 = .ok (.aload_n 0, 1) := by decide +kernel
theorem d_PA_addState_78 : decode prog_2_method_11_code 78 = .ok (.getfield 22, 3) := by decide +kernel
theorem d_PA_addState_81 : decode prog_2_method_11_code 81 = .ok (.iconst 2, 1) := by decide +kernel
theorem d_PA_addState_82 : decode prog_2_method_11_code 82 = .ok (.iload_n 1, 1) := by decide +kernel
theorem d_PA_addState_83 : decode prog_2_method_11_code 83 = .ok (.imul, 1) := by decide +kernel
theorem d_PA_addState_84 : decode prog_2_method_11_code 84 = .ok (.iconst 1, 1) := by decide +kernel
theorem d_PA_addState_85 : decode prog_2_method_11_code 85 = .ok (.iadd, 1) := by decide +kernel
theorem d_PA_addState_86 : decode prog_2_method_11_code 86 = .ok (.iaload, 1) := by decide +kernel
theorem d_PA_addState_87 : decode prog_2_method_11_code 87 = .ok (.iadd, 1) := by decide +kernel
theorem d_PA_addState_88 : decode prog_2_method_11_code 88 = .ok (.iastore, 1) := by decide +kernel
theorem d_PA_addState_89 : decode prog_2_method_11_code 89 = .ok (.return_, 1) := by decide +kernel
theorem d_PA_add_0 : decode prog_2_method_3_code 0 = .ok (.aload_n 0, 1) := by decide +kernel
theorem d_PA_add_1 : decode prog_2_method_3_code 1 = .ok (.getfield 9, 3) := by decide +kernel
theorem d_PA_add_4 : decode prog_2_method_3_code 4 = .ok (.istore 5, 2) := by decide +kernel
theorem d_PA_add_6 : decode prog_2_method_3_code 6 = .ok (.aload_n 0, 1) := by decide +kernel
theorem d_PA_add_7 : decode prog_2_method_3_code 7 = .ok (.dup, 1) := by decide +kernel
theorem d_PA_add_8 : decode prog_2_method_3_code 8 = .ok (.getfield 9, 3) := by decide +kernel
theorem d_PA_add_11 : decode prog_2_method_3_code 11 = .ok (.iconst 1, 1) := by decide +kernel
theorem d_PA_add_12 : decode prog_2_method_3_code 12 = .ok (.iadd, 1) := by decide +kernel
theorem d_PA_add_13 : decode prog_2_method_3_code 13 = .ok (.putfield 9, 3) := by decide +kernel
theorem d_PA_add_16 : decode prog_2_method_3_code 16 = .ok (.aload_n 0, 1) := by decide +kernel
theorem d_PA_add_17 : decode prog_2_method_3_code 17 = .ok (.getfield 15, 3) := by decide +kernel
theorem d_PA_add_20 : decode prog_2_method_3_code 20 = .ok (.iconst 2, 1) := by decide +kernel
theorem d_PA_add_21 : decode prog_2_method_3_code 21 = .ok (.iload 5, 2) := by decide +kernel
theorem d_PA_add_23 : decode prog_2_method_3_code 23 = .ok (.imul, 1) := by decide +kernel
theorem d_PA_add_24 : decode prog_2_method_3_code 24 = .ok (.iload_n 1, 1) := by decide +kernel
theorem d_PA_add_25 : decode prog_2_method_3_code 25 = .ok (.iastore, 1) := by decide +kernel
theorem d_PA_add_26 : decode prog_2_method_3_code 26 = .ok (.aload_n 0, 1) := by decide +kernel
theorem d_PA_add_27 : decode prog_2_method_3_code 27 = .ok (.getfield 15, 3) := by decide +kernel
theorem d_PA_add_30 : decode prog_2_method_3_code 30 = .ok (.iconst 2, 1) := by decide +kernel
theorem d_PA_add_31 : decode prog_2_method_3_code 31 = .ok (.iload 5, 2) := by decide +kernel
theorem d_PA_add_33 : decode prog_2_method_3_code 33 = .ok (.imul, 1) := by decide +kernel
theorem d_PA_add_34 : decode prog_2_method_3_code 34 = .ok (.iconst 1, 1) := by decide +kernel
theorem d_PA_add_35 : decode prog_2_method_3_code 35 = .ok (.iadd, 1) := by decide +kernel
theorem d_PA_add_36 : decode prog_2_method_3_code 36 = .ok (.iload_n 2, 1) := by decide +kernel
theorem d_PA_add_37 : decode prog_2_method_3_code 37 = .ok (.iastore, 1) := by decide +kernel
theorem d_PA_add_38 : decode prog_2_method_3_code 38 = .ok (.aload_n 0, 1) := by decide +kernel
theorem d_PA_add_39 : decode prog_2_method_3_code 39 = .ok (.getfield 22, 3) := by decide +kernel
theorem d_PA_add_42 : decode prog_2_method_3_code 42 = .ok (.iconst 2, 1) := by decide +kernel
theorem d_PA_add_43 : decode prog_2_method_3_code 43 = .ok (.iload 5, 2) := by decide +kernel
theorem d_PA_add_45 : decode prog_2_method_3_code 45 = .ok (.imul, 1) := by decide +kernel
theorem d_PA_add_46 : decode prog_2_method_3_code 46 = .ok (.iconst 0, 1) := by decide +kernel
theorem d_PA_add_47 : decode prog_2_method_3_code 47 = .ok (.iastore, 1) := by decide +kernel
theorem d_PA_add_48 : decode prog_2_method_3_code 48 = .ok (.aload_n 0, 1) := by decide +kernel
theorem d_PA_add_49 : decode prog_2_method_3_code 49 = .ok (.getfield 22, 3) := by decide +kernel
theorem d_PA_add_52 : decode prog_2_method_3_code 52 = .ok (.iconst 2, 1) := by decide +kernel
theorem d_PA_add_53 : decode prog_2_method_3_code 53 = .ok (.iload 5, 2) := by decide +kernel
theorem d_PA_add_55 : decode prog_2_method_3_code 55 = .ok (.imul, 1) := by decide +kernel
theorem d_PA_add_56 : decode prog_2_method_3_code 56 = .ok (.iconst 1, 1) := by decide +kernel
theorem d_PA_add_57 : decode prog_2_method_3_code 57 = .ok (.iadd, 1) := by decide +kernel
theorem d_PA_add_58 : decode prog_2_method_3_code 58 = .ok (.iconst 0, 1) := by decide +kernel
theorem d_PA_add_59 : decode prog_2_method_3_code 59 = .ok (.iastore, 1) := by decide +kernel
theorem d_PA_add_60 : decode prog_2_method_3_code 60 = .ok (.aload_n 0, 1) := by decide +kernel
theorem d_PA_add_61 : decode prog_2_method_3_code 61 = .ok (.getfield 28, 3) := by decide +kernel
theorem d_PA_add_64 : decode prog_2_method_3_code 64 = .ok (.iload 5, 2) := by decide +kernel
theorem d_PA_add_66 : decode prog_2_method_3_code 66 = .ok (.iconst 0, 1) := by decide +kernel
theorem d_PA_add_67 : decode prog_2_method_3_code 67 = .ok (.iastore, 1) := by decide +kernel
theorem d_PA_add_68 : decode prog_2_method_3_code 68 = .ok (.aload_n 0, 1) := by decide +kernel
theorem d_PA_add_69 : decode prog_2_method_3_code 69 = .ok (.getfield 31, 3) := by decide +kernel
theorem d_PA_add_72 : decode prog_2_method_3_code 72 = .ok (.iload 5, 2) := by decide +kernel
theorem d_PA_add_74 : decode prog_2_method_3_code 74 = .ok (.iconst 0, 1) := by decide +kernel
theorem d_PA_add_75 : decode prog_2_method_3_code 75 = .ok (.iastore, 1) := by decide +kernel
theorem d_PA_add_76 : decode prog_2_method_3_code 76 = .ok (.aload_n 0, 1) := by decide +kernel
theorem d_PA_add_77 : decode prog_2_method_3_code 77 = .ok (.iload 5, 2) := by decide +kernel
theorem d_PA_add_79 : decode prog_2_method_3_code 79 = .ok (.iload_n 3, 1) := by decide +kernel
theorem d_PA_add_80 : decode prog_2_method_3_code 80 = .ok (.iload 4, 2) := by decide +kernel
theorem d_PA_add_82 : decode prog_2_method_3_code 82 = .ok (.invokevirtual 53, 3) := by decide +kernel
theorem d_PA_add_85 : decode prog_2_method_3_code 85 = .ok (.aload_n 0, 1) := by decide +kernel
theorem d_PA_add_86 : decode prog_2_method_3_code 86 = .ok (.iload 5, 2) := by decide +kernel
theorem d_PA_add_88 : decode prog_2_method_3_code 88 = .ok (.invokevirtual 57, 3) := by decide +kernel
theorem d_PA_add_91 : decode prog_2_method_3_code 91 = .ok (.iload 5, 2) := by decide +kernel
theorem d_PA_add_93 : decode prog_2_method_3_code 93 = .ok (.ireturn, 1) := by decide +kernel
theorem d_WS_begin_0 : decode prog_7_method_2_code 0 = .ok (.aload_n 0, 1) := by decide +kernel
theorem d_WS_begin_1 : decode prog_7_method_2_code 1 = .ok (.iload_n 1, 1) := by decide +kernel
theorem d_WS_begin_2 : decode prog_7_method_2_code 2 = .ok (.putfield 9, 3) := by decide +kernel
theorem d_WS_begin_5 : decode prog_7_method_2_code 5 = .ok (.aload_n 0, 1) := by decide +kernel
theorem d_WS_begin_6 : decode prog_7_method_2_code 6 = .ok (.getfield 32, 3) := by decide +kernel
theorem d_WS_begin_9 : decode prog_7_method_2_code 9 = .ok (.iconst 0, 1) := by decide +kernel
theorem d_WS_begin_10 : decode prog_7_method_2_code 10 = .ok (.putfield 35, 3) := by decide +kernel
theorem d_WS_begin_13 : decode prog_7_method_2_code 13 = .ok (.iconst 0, 1) := by decide +kernel
theorem d_WS_begin_14 : decode prog_7_method_2_code 14 = .ok (.istore_n 3, 1) := by decide +kernel
theorem d_WS_begin_15 : decode prog_7_method_2_code 15 = .ok (.iload_n 3, 1) := by decide +kernel
theorem d_WS_begin_16 : decode prog_7_method_2_code 16 = .ok (.bipush 7, 2) := by decide +kernel
theorem d_WS_begin_18 : decode prog_7_method_2_code 18 = .ok (.if_icmp .ge 25, 3) := by decide +kernel
theorem d_WS_begin_43 : decode prog_7_method_2_code 43 = .ok (.return_, 1) := by decide +kernel
theorem d_WS_begin_21 : decode prog_7_method_2_code 21 = .ok (.aload_n 0, 1) := by decide +kernel
theorem d_WS_begin_22 : decode prog_7_method_2_code 22 = .ok (.getfield 18, 3) := by decide +kernel
theorem d_WS_begin_25 : decode prog_7_method_2_code 25 = .ok (.iload_n 3, 1) := by decide +kernel
theorem d_WS_begin_26 : decode prog_7_method_2_code 26 = .ok (.iload_n 3, 1) := by decide +kernel
theorem d_WS_begin_27 : decode prog_7_method_2_code 27 = .ok (.iload_n 2, 1) := by decide +kernel
theorem d_WS_begin_28 : decode prog_7_method_2_code 28 = .ok (.if_icmp .ne 7, 3) := by decide +kernel
theorem d_WS_begin_35 : decode prog_7_method_2_code 35 = .ok (.iconst 0, 1) := by decide +kernel
theorem d_WS_begin_36 : decode prog_7_method_2_code 36 = .ok (.bastore, 1) := by decide +kernel
theorem d_WS_begin_37 : decode prog_7_method_2_code 37 = .ok (.iinc 3 1, 3) := by decide +kernel
theorem d_WS_begin_40 : decode prog_7_method_2_code 40 = .ok (.goto (-25), 3) := by decide +kernel
theorem d_WS_begin_31 : decode prog_7_method_2_code 31 = .ok (.iconst 1, 1) := by decide +kernel
theorem d_WS_begin_32 : decode prog_7_method_2_code 32 = .ok (.goto 4, 3) := by decide +kernel
theorem d_PC_searchWays_0 : decode prog_1_method_31_code 0 = .ok (.iload 5, 2) := by decide +kernel
theorem d_PC_searchWays_2 : decode prog_1_method_31_code 2 = .ok (.bipush 6, 2) := by decide +kernel
theorem d_PC_searchWays_4 : decode prog_1_method_31_code 4 = .ok (.if_icmp .lt 4, 3) := by decide +kernel
theorem d_PC_searchWays_8 : decode prog_1_method_31_code 8 = .ok (.iconst 0, 1) := by decide +kernel
theorem d_PC_searchWays_9 : decode prog_1_method_31_code 9 = .ok (.istore 6, 2) := by decide +kernel
theorem d_PC_searchWays_11 : decode prog_1_method_31_code 11 = .ok (.iload 6, 2) := by decide +kernel
theorem d_PC_searchWays_13 : decode prog_1_method_31_code 13 = .ok (.aload_n 2, 1) := by decide +kernel
theorem d_PC_searchWays_14 : decode prog_1_method_31_code 14 = .ok (.getfield 69, 3) := by decide +kernel
theorem d_PC_searchWays_17 : decode prog_1_method_31_code 17 = .ok (.if_icmp .ge 158, 3) := by decide +kernel
theorem d_PC_searchWays_175 : decode prog_1_method_31_code 175 = .ok (.return_, 1) := by decide +kernel
theorem d_PC_mayAskWay_0 : decode prog_1_method_29_code 0 = .ok (.aload_n 0, 1) := by decide +kernel
theorem d_PC_mayAskWay_1 : decode prog_1_method_29_code 1 = .ok (.getfield 12, 3) := by decide +kernel
theorem d_PC_mayAskWay_4 : decode prog_1_method_29_code 4 = .ok (.iload_n 1, 1) := by decide +kernel
theorem d_PC_mayAskWay_5 : decode prog_1_method_29_code 5 = .ok (.invokevirtual 77, 3) := by decide +kernel
theorem d_PC_mayAskWay_8 : decode prog_1_method_29_code 8 = .ok (.ifCond .eq 33, 3) := by decide +kernel
theorem d_PC_mayAskWay_41 : decode prog_1_method_29_code 41 = .ok (.iconst 0, 1) := by decide +kernel
theorem d_PC_mayAskWay_42 : decode prog_1_method_29_code 42 = .ok (.ireturn, 1) := by decide +kernel
theorem d_PC_mayAskWay_11 : decode prog_1_method_29_code 11 = .ok (.aload_n 0, 1) := by decide +kernel
theorem d_PC_mayAskWay_12 : decode prog_1_method_29_code 12 = .ok (.getfield 12, 3) := by decide +kernel
theorem d_PC_mayAskWay_15 : decode prog_1_method_29_code 15 = .ok (.iload_n 2, 1) := by decide +kernel
theorem d_PC_mayAskWay_16 : decode prog_1_method_29_code 16 = .ok (.invokevirtual 77, 3) := by decide +kernel
theorem d_PC_mayAskWay_19 : decode prog_1_method_29_code 19 = .ok (.ifCond .eq 22, 3) := by decide +kernel
theorem d_PC_mayAskWay_22 : decode prog_1_method_29_code 22 = .ok (.iload_n 1, 1) := by decide +kernel
theorem d_PC_mayAskWay_23 : decode prog_1_method_29_code 23 = .ok (.iload_n 2, 1) := by decide +kernel
theorem d_PC_mayAskWay_24 : decode prog_1_method_29_code 24 = .ok (.if_icmp .eq 17, 3) := by decide +kernel
theorem d_PC_mayAskWay_27 : decode prog_1_method_29_code 27 = .ok (.iload_n 3, 1) := by decide +kernel
theorem d_PC_mayAskWay_28 : decode prog_1_method_29_code 28 = .ok (.iconst 1, 1) := by decide +kernel
theorem d_PC_mayAskWay_29 : decode prog_1_method_29_code 29 = .ok (.ldc 81, 2) := by decide +kernel
theorem d_PC_mayAskWay_31 : decode prog_1_method_29_code 31 = .ok (.invokestatic 65, 3) := by decide +kernel
theorem d_PC_mayAskWay_34 : decode prog_1_method_29_code 34 = .ok (.ifCond .eq 7, 3) := by decide +kernel
theorem d_PC_mayAskWay_37 : decode prog_1_method_29_code 37 = .ok (.iconst 1, 1) := by decide +kernel
theorem d_PC_mayAskWay_38 : decode prog_1_method_29_code 38 = .ok (.goto 4, 3) := by decide +kernel
theorem d_PC_findWay_0 : decode prog_1_method_30_code 0 = .ok (.aload_n 0, 1) := by decide +kernel
theorem d_PC_findWay_1 : decode prog_1_method_30_code 1 = .ok (.getfield 33, 3) := by decide +kernel
theorem d_PC_findWay_4 : decode prog_1_method_30_code 4 = .ok (.iload_n 1, 1) := by decide +kernel
theorem d_PC_findWay_5 : decode prog_1_method_30_code 5 = .ok (.iload_n 2, 1) := by decide +kernel
theorem d_PC_findWay_6 : decode prog_1_method_30_code 6 = .ok (.invokevirtual 269, 3) := by decide +kernel
theorem d_PC_findWay_9 : decode prog_1_method_30_code 9 = .ok (.aload_n 0, 1) := by decide +kernel
theorem d_PC_findWay_10 : decode prog_1_method_30_code 10 = .ok (.getfield 33, 3) := by decide +kernel
theorem d_PC_findWay_13 : decode prog_1_method_30_code 13 = .ok (.aload_n 0, 1) := by decide +kernel
theorem d_PC_findWay_14 : decode prog_1_method_30_code 14 = .ok (.getfield 12, 3) := by decide +kernel
theorem d_PC_findWay_17 : decode prog_1_method_30_code 17 = .ok (.aload_n 0, 1) := by decide +kernel
theorem d_PC_findWay_18 : decode prog_1_method_30_code 18 = .ok (.getfield 19, 3) := by decide +kernel
theorem d_PC_findWay_21 : decode prog_1_method_30_code 21 = .ok (.iload_n 2, 1) := by decide +kernel
theorem d_PC_findWay_22 : decode prog_1_method_30_code 22 = .ok (.iload_n 3, 1) := by decide +kernel
theorem d_PC_findWay_23 : decode prog_1_method_30_code 23 = .ok (.iconst 0, 1) := by decide +kernel
theorem d_PC_findWay_24 : decode prog_1_method_30_code 24 = .ok (.invokestatic 272, 3) := by decide +kernel
theorem d_PC_findWay_27 : decode prog_1_method_30_code 27 = .ok (.aload_n 0, 1) := by decide +kernel
theorem d_PC_findWay_28 : decode prog_1_method_30_code 28 = .ok (.getfield 33, 3) := by decide +kernel
theorem d_PC_findWay_31 : decode prog_1_method_30_code 31 = .ok (.getfield 111, 3) := by decide +kernel
theorem d_PC_findWay_34 : decode prog_1_method_30_code 34 = .ok (.getfield 74, 3) := by decide +kernel
theorem d_PC_findWay_37 : decode prog_1_method_30_code 37 = .ok (.ifCond .le 7, 3) := by decide +kernel
theorem d_PC_findWay_44 : decode prog_1_method_30_code 44 = .ok (.iconst 0, 1) := by decide +kernel
theorem d_PC_findWay_45 : decode prog_1_method_30_code 45 = .ok (.ireturn, 1) := by decide +kernel
theorem d_RS_begin_0 : decode prog_5_method_2_code 0 = .ok (.aload_n 0, 1) := by decide +kernel
theorem d_RS_begin_1 : decode prog_5_method_2_code 1 = .ok (.iload_n 1, 1) := by decide +kernel
theorem d_RS_begin_2 : decode prog_5_method_2_code 2 = .ok (.putfield 15, 3) := by decide +kernel
theorem d_RS_begin_5 : decode prog_5_method_2_code 5 = .ok (.aload_n 0, 1) := by decide +kernel
theorem d_RS_begin_6 : decode prog_5_method_2_code 6 = .ok (.getfield 35, 3) := by decide +kernel
theorem d_RS_begin_9 : decode prog_5_method_2_code 9 = .ok (.iconst 0, 1) := by decide +kernel
theorem d_RS_begin_10 : decode prog_5_method_2_code 10 = .ok (.putfield 38, 3) := by decide +kernel
theorem d_RS_begin_13 : decode prog_5_method_2_code 13 = .ok (.return_, 1) := by decide +kernel
theorem d_PC_findRing_0 : decode prog_1_method_33_code 0 = .ok (.aload_n 0, 1) := by decide +kernel
theorem d_PC_findRing_1 : decode prog_1_method_33_code 1 = .ok (.getfield 40, 3) := by decide +kernel
theorem d_PC_findRing_4 : decode prog_1_method_33_code 4 = .ok (.aload_n 0, 1) := by decide +kernel
theorem d_PC_findRing_5 : decode prog_1_method_33_code 5 = .ok (.getfield 19, 3) := by decide +kernel
theorem d_PC_findRing_8 : decode prog_1_method_33_code 8 = .ok (.invokevirtual 199, 3) := by decide +kernel
theorem d_PC_findRing_11 : decode prog_1_method_33_code 11 = .ok (.invokevirtual 303, 3) := by decide +kernel
theorem d_PC_findRing_14 : decode prog_1_method_33_code 14 = .ok (.iconst 0, 1) := by decide +kernel
theorem d_PC_findRing_15 : decode prog_1_method_33_code 15 = .ok (.istore_n 1, 1) := by decide +kernel
theorem d_PC_findRing_16 : decode prog_1_method_33_code 16 = .ok (.iload_n 1, 1) := by decide +kernel
theorem d_PC_findRing_17 : decode prog_1_method_33_code 17 = .ok (.aload_n 0, 1) := by decide +kernel
theorem d_PC_findRing_18 : decode prog_1_method_33_code 18 = .ok (.getfield 19, 3) := by decide +kernel
theorem d_PC_findRing_21 : decode prog_1_method_33_code 21 = .ok (.getfield 69, 3) := by decide +kernel
theorem d_PC_findRing_24 : decode prog_1_method_33_code 24 = .ok (.if_icmp .ge 134, 3) := by decide +kernel
theorem d_PC_findRing_158 : decode prog_1_method_33_code 158 = .ok (.aload_n 0, 1) := by decide +kernel
theorem d_PC_findRing_159 : decode prog_1_method_33_code 159 = .ok (.getfield 40, 3) := by decide +kernel
theorem d_PC_findRing_162 : decode prog_1_method_33_code 162 = .ok (.getfield 207, 3) := by decide +kernel
theorem d_PC_findRing_165 : decode prog_1_method_33_code 165 = .ok (.getfield 74, 3) := by decide +kernel
theorem d_PC_findRing_168 : decode prog_1_method_33_code 168 = .ok (.ifCond .le 7, 3) := by decide +kernel
theorem d_PC_findRing_175 : decode prog_1_method_33_code 175 = .ok (.iconst 0, 1) := by decide +kernel
theorem d_PC_findRing_176 : decode prog_1_method_33_code 176 = .ok (.ireturn, 1) := by decide +kernel
set_option maxHeartbeats 4000000 in
set_option maxRecDepth 100000 in
theorem f_PE_has (l : Launch) (D : va_G) (cI cZ : ClassId) (f0 : Nat) (i : Int32) (f1 : Nat) (f2 : Nat) (f3 : Nat) (f4 : Nat) (sz : Nat)  : Met l ⟨"PromiseChains$People", "has", "(I)Z"⟩ (mw ⟨"PromiseChains$People", "has", "(I)Z"⟩ prog_3_method_3_code 2 (some .boolean)) ({ frames := 1, cells := 0, slots := 0, locals := 22 }) (va_Pc [.ref f0, .int i] (PB D cI cZ sz [(f0, .inr (1, [.int 2, .ref f1, .ref f2, .ref f3, .ref f4]))])) (vp_Si (fun r => r = isw i 0 1)) 0 0 (fun _ => False) := by
  refine Met.ofW (cc := prog_3_method_3_code) (maxL := 2) (ret := (some .boolean)) (by decide) rfl ?_
  intro p e s m args below meth c s₁ B hml hv
  obtain ⟨rfl, hsz, hP, hK, hD0, hN⟩ := hv
  have hx := B.exec
  have hb := B.bytes
  have hr := B.returns
  have hts0 := atoms_spec (ws := mw ⟨"PromiseChains$People", "has", "(I)Z"⟩ prog_3_method_3_code 2 (some .boolean)) B.pre
  have hts : ∀ w ∈ tblG, w.before _ s = true := fun w h => hts0 w (List.mem_cons_of_mem _ h)
  have hown : s.vm.findClass "PromiseChains$People" = some m.cls := findClass_of_methodNamed B.named
  have hlocks := B.notSynchronized
  subst hsz
  have hD := hD0
  have hP : va_P D vwCl [(f0, .inr (1, [.int 2, .ref f1, .ref f2, .ref f3, .ref f4]))] s.heap := hP
  have hl := lv_entry ([.ref f0, .int i]) (n := 2) (Nat.le_of_ble_eq_true rfl)
  rw [lg_entry_eq]
  generalize (lg_sl ([.ref f0, .int i]) ++ List.replicate (2 - (lg_sl ([.ref f0, .int i])).length) Slot.unset).toArray = ls at hl ⊢
  have hl : lv_has ls 2 [(0, .ref f0), (1, .int i)] := hl
  refine lv_iload_n hx hb d_PE_has_0 rfl (lv_at hl 1 rfl) ?_
  refine lv_iconst (v := 0) hx hb d_PE_has_1 (by decide) ?_
  refine lv_aload_n hx hb d_PE_has_2 rfl (lv_at hl 0 rfl) ?_
  refine va_get (D := D) (ci := 1) (v := .int 2) (C := R_PE) (T := F_PE) (N := 5) hx hb hts i_PE hown hK hP 0 rfl rfl 0 (by decide) (hts _ q_24) (fun _ h9 => h9) rfl d_PE_has_3 ?_
  refine lv_iconst (v := 1) hx hb d_PE_has_6 (by decide) ?_
  refine lv_isub hx hb d_PE_has_7 ?_
  refine lv_seti (1) (by decide) ?_
  have hPc := hP.sub (ws' := []) [] rfl
  have hDc := hD.sub (ws' := []) [] (by decide) rfl
  refine vp_callSi (va_Run.run (va_runSN (As := [.int i, .int 0, .int 1]) (rest := []) ⟨hx, hb, hml, hown, hts⟩ (c_within l D cI cZ i 0 1 s.heap.size ) ⟨(my_cwN 3 hts q_290 (hN _ nw_303) q_1 rfl rfl (by decide +kernel) ⟨Nat.le_of_ble_eq_true rfl, Nat.le_of_ble_eq_true rfl⟩), hts _ q_289, trivial⟩ (my_preS hPc hDc hK hN) rfl rfl hl.1 rfl (lv_room (Nat.le_of_ble_eq_true rfl)) d_PE_has_8 ⟨Nat.le_of_ble_eq_true rfl, Nat.le_of_ble_eq_true rfl⟩)) (fun r_1 hw_1 => ?_)
  have hw_1 : r_1 = isw i 0 1 := hw_1
  subst hw_1
  exact W.zret (v := (isw i 0 1)) hx hb hr (isw_nar _ _ _) (fun t ht hW => ⟨(isw i 0 1), rfl, rfl, ht⟩) (fun q h => absurd h List.not_mem_nil) d_PE_has_11

set_option maxHeartbeats 4000000 in
set_option maxRecDepth 100000 in
theorem f_PA_has (l : Launch) (D : va_G) (cI cZ : ClassId) (a0 : Nat) (i : Int32) (a1 : Nat) (a2 : Nat) (a3 : Nat) (a4 : Nat) (a5 : Nat) (a6 : Nat) (a7 : Nat) (a8 : Nat) (a9 : Nat) (a10 : Nat) (a11 : Nat) (sz : Nat)  : Met l ⟨"PromiseChains$Pairs", "has", "(I)Z"⟩ (mw ⟨"PromiseChains$Pairs", "has", "(I)Z"⟩ prog_2_method_2_code 2 (some .boolean)) ({ frames := 1, cells := 0, slots := 0, locals := 22 }) (va_Pc [.ref a0, .int i] (PB D cI cZ sz [(a0, .inr (2, [.int 0, .ref a1, .ref a2, .ref a3, .ref a4, .ref a5, .ref a6, .ref a7, .ref a8, .ref a9, .ref a10, .ref a11]))])) (vp_Si (fun r => r = 0)) 0 0 (fun _ => False) := by
  refine Met.ofW (cc := prog_2_method_2_code) (maxL := 2) (ret := (some .boolean)) (by decide) rfl ?_
  intro p e s m args below meth c s₁ B hml hv
  obtain ⟨rfl, hsz, hP, hK, hD0, hN⟩ := hv
  have hx := B.exec
  have hb := B.bytes
  have hr := B.returns
  have hts0 := atoms_spec (ws := mw ⟨"PromiseChains$Pairs", "has", "(I)Z"⟩ prog_2_method_2_code 2 (some .boolean)) B.pre
  have hts : ∀ w ∈ tblG, w.before _ s = true := fun w h => hts0 w (List.mem_cons_of_mem _ h)
  have hown : s.vm.findClass "PromiseChains$Pairs" = some m.cls := findClass_of_methodNamed B.named
  have hlocks := B.notSynchronized
  subst hsz
  have hD := hD0
  have hP : va_P D vwCl [(a0, .inr (2, [.int 0, .ref a1, .ref a2, .ref a3, .ref a4, .ref a5, .ref a6, .ref a7, .ref a8, .ref a9, .ref a10, .ref a11]))] s.heap := hP
  have hl := lv_entry ([.ref a0, .int i]) (n := 2) (Nat.le_of_ble_eq_true rfl)
  rw [lg_entry_eq]
  generalize (lg_sl ([.ref a0, .int i]) ++ List.replicate (2 - (lg_sl ([.ref a0, .int i])).length) Slot.unset).toArray = ls at hl ⊢
  have hl : lv_has ls 2 [(0, .ref a0), (1, .int i)] := hl
  refine lv_iload_n hx hb d_PA_has_0 rfl (lv_at hl 1 rfl) ?_
  refine lv_iconst (v := 0) hx hb d_PA_has_1 (by decide) ?_
  refine lv_aload_n hx hb d_PA_has_2 rfl (lv_at hl 0 rfl) ?_
  refine va_get (D := D) (ci := 2) (v := .int 0) (C := R_PA) (T := F_PA) (N := 12) hx hb hts i_PA hown hK hP 0 rfl rfl 0 (by decide) (hts _ q_56) (fun _ h9 => h9) rfl d_PA_has_3 ?_
  refine lv_iconst (v := 1) hx hb d_PA_has_6 (by decide) ?_
  refine lv_isub hx hb d_PA_has_7 ?_
  refine lv_seti (-1) (by decide) ?_
  have hPc := hP.sub (ws' := []) [] rfl
  have hDc := hD.sub (ws' := []) [] (by decide) rfl
  refine vp_callSi (va_Run.run (va_runSN (As := [.int i, .int 0, .int (-1)]) (rest := []) ⟨hx, hb, hml, hown, hts⟩ (c_within l D cI cZ i 0 (-1) s.heap.size ) ⟨(my_cwN 3 hts q_290 (hN _ nw_487) q_1 rfl rfl (by decide +kernel) ⟨Nat.le_of_ble_eq_true rfl, Nat.le_of_ble_eq_true rfl⟩), hts _ q_289, trivial⟩ (my_preS hPc hDc hK hN) rfl rfl hl.1 rfl (lv_room (Nat.le_of_ble_eq_true rfl)) d_PA_has_8 ⟨Nat.le_of_ble_eq_true rfl, Nat.le_of_ble_eq_true rfl⟩)) (fun r_1 hw_1 => ?_)
  have hw_1 : r_1 = isw i 0 (-1) := hw_1
  subst hw_1
  refine lv_seti (0) (isw_neg _) ?_
  exact W.zret (v := 0) hx hb hr rfl (fun t ht hW => ⟨0, rfl, rfl, ht⟩) (fun q h => absurd h List.not_mem_nil) d_PA_has_11

set_option maxHeartbeats 4000000 in
set_option maxRecDepth 100000 in
theorem f_PR_has (l : Launch) (D : va_G) (cI cZ : ClassId) (r0 : Nat) (i : Int32) (r1 : Nat) (r2 : Nat) (r3 : Nat) (r4 : Nat) (r5 : Nat) (r6 : Nat) (r7 : Nat) (r8 : Nat) (r9 : Nat) (r10 : Nat) (r11 : Nat) (sz : Nat)  : Met l ⟨"PromiseChains$Promises", "has", "(I)Z"⟩ (mw ⟨"PromiseChains$Promises", "has", "(I)Z"⟩ prog_4_method_3_code 2 (some .boolean)) ({ frames := 1, cells := 0, slots := 0, locals := 22 }) (va_Pc [.ref r0, .int i] (PB D cI cZ sz [(r0, .inr (3, [.int 0, .int 0, .ref r1, .ref r2, .ref r3, .ref r4, .ref r5, .ref r6, .ref r7, .ref r8, .ref r9, .ref r10, .ref r11]))])) (vp_Si (fun r => r = 0)) 0 0 (fun _ => False) := by
  refine Met.ofW (cc := prog_4_method_3_code) (maxL := 2) (ret := (some .boolean)) (by decide) rfl ?_
  intro p e s m args below meth c s₁ B hml hv
  obtain ⟨rfl, hsz, hP, hK, hD0, hN⟩ := hv
  have hx := B.exec
  have hb := B.bytes
  have hr := B.returns
  have hts0 := atoms_spec (ws := mw ⟨"PromiseChains$Promises", "has", "(I)Z"⟩ prog_4_method_3_code 2 (some .boolean)) B.pre
  have hts : ∀ w ∈ tblG, w.before _ s = true := fun w h => hts0 w (List.mem_cons_of_mem _ h)
  have hown : s.vm.findClass "PromiseChains$Promises" = some m.cls := findClass_of_methodNamed B.named
  have hlocks := B.notSynchronized
  subst hsz
  have hD := hD0
  have hP : va_P D vwCl [(r0, .inr (3, [.int 0, .int 0, .ref r1, .ref r2, .ref r3, .ref r4, .ref r5, .ref r6, .ref r7, .ref r8, .ref r9, .ref r10, .ref r11]))] s.heap := hP
  have hl := lv_entry ([.ref r0, .int i]) (n := 2) (Nat.le_of_ble_eq_true rfl)
  rw [lg_entry_eq]
  generalize (lg_sl ([.ref r0, .int i]) ++ List.replicate (2 - (lg_sl ([.ref r0, .int i])).length) Slot.unset).toArray = ls at hl ⊢
  have hl : lv_has ls 2 [(0, .ref r0), (1, .int i)] := hl
  refine lv_iload_n hx hb d_PR_has_0 rfl (lv_at hl 1 rfl) ?_
  refine lv_iconst (v := 0) hx hb d_PR_has_1 (by decide) ?_
  refine lv_aload_n hx hb d_PR_has_2 rfl (lv_at hl 0 rfl) ?_
  refine va_get (D := D) (ci := 3) (v := .int 0) (C := R_PR) (T := F_PR) (N := 13) hx hb hts i_PR hown hK hP 0 rfl rfl 0 (by decide) (hts _ q_110) (fun _ h9 => h9) rfl d_PR_has_3 ?_
  refine lv_iconst (v := 1) hx hb d_PR_has_6 (by decide) ?_
  refine lv_isub hx hb d_PR_has_7 ?_
  refine lv_seti (-1) (by decide) ?_
  have hPc := hP.sub (ws' := []) [] rfl
  have hDc := hD.sub (ws' := []) [] (by decide) rfl
  refine vp_callSi (va_Run.run (va_runSN (As := [.int i, .int 0, .int (-1)]) (rest := []) ⟨hx, hb, hml, hown, hts⟩ (c_within l D cI cZ i 0 (-1) s.heap.size ) ⟨(my_cwN 3 hts q_290 (hN _ nw_458) q_1 rfl rfl (by decide +kernel) ⟨Nat.le_of_ble_eq_true rfl, Nat.le_of_ble_eq_true rfl⟩), hts _ q_289, trivial⟩ (my_preS hPc hDc hK hN) rfl rfl hl.1 rfl (lv_room (Nat.le_of_ble_eq_true rfl)) d_PR_has_8 ⟨Nat.le_of_ble_eq_true rfl, Nat.le_of_ble_eq_true rfl⟩)) (fun r_1 hw_1 => ?_)
  have hw_1 : r_1 = isw i 0 (-1) := hw_1
  subst hw_1
  refine lv_seti (0) (isw_neg _) ?_
  exact W.zret (v := 0) hx hb hr rfl (fun t ht hW => ⟨0, rfl, rfl, ht⟩) (fun q h => absurd h List.not_mem_nil) d_PR_has_11

set_option maxHeartbeats 4000000 in
set_option maxRecDepth 100000 in
theorem f_PR_runOut (l : Launch) (D : va_G) (cI cZ : ClassId) (r0 : Nat) (a0 : Nat) (tm : Int32) (r1 : Nat) (r2 : Nat) (r3 : Nat) (r4 : Nat) (r5 : Nat) (r6 : Nat) (r7 : Nat) (r8 : Nat) (r9 : Nat) (r10 : Nat) (r11 : Nat) (sz : Nat)  : Met l ⟨"PromiseChains$Promises", "runOut", "(LPromiseChains$Pairs;I)I"⟩ (mw ⟨"PromiseChains$Promises", "runOut", "(LPromiseChains$Pairs;I)I"⟩ prog_4_method_7_code 7 (some .int)) ({ frames := 0, cells := 0, slots := 0, locals := 0 }) (va_Pc [.ref r0, .ref a0, .int tm] (PB D cI cZ sz [(r0, .inr (3, [.int 0, .int 0, .ref r1, .ref r2, .ref r3, .ref r4, .ref r5, .ref r6, .ref r7, .ref r8, .ref r9, .ref r10, .ref r11]))])) (vp_Si (fun r => r = 0)) 0 0 (fun _ => False) := by
  refine Met.ofW (cc := prog_4_method_7_code) (maxL := 7) (ret := (some .int)) (by decide) rfl ?_
  intro p e s m args below meth c s₁ B hml hv
  obtain ⟨rfl, hsz, hP, hK, hD0, hN⟩ := hv
  have hx := B.exec
  have hb := B.bytes
  have hr := B.returns
  have hts0 := atoms_spec (ws := mw ⟨"PromiseChains$Promises", "runOut", "(LPromiseChains$Pairs;I)I"⟩ prog_4_method_7_code 7 (some .int)) B.pre
  have hts : ∀ w ∈ tblG, w.before _ s = true := fun w h => hts0 w (List.mem_cons_of_mem _ h)
  have hown : s.vm.findClass "PromiseChains$Promises" = some m.cls := findClass_of_methodNamed B.named
  have hlocks := B.notSynchronized
  subst hsz
  have hD := hD0
  have hP : va_P D vwCl [(r0, .inr (3, [.int 0, .int 0, .ref r1, .ref r2, .ref r3, .ref r4, .ref r5, .ref r6, .ref r7, .ref r8, .ref r9, .ref r10, .ref r11]))] s.heap := hP
  have hl := lv_entry ([.ref r0, .ref a0, .int tm]) (n := 7) (Nat.le_of_ble_eq_true rfl)
  rw [lg_entry_eq]
  generalize (lg_sl ([.ref r0, .ref a0, .int tm]) ++ List.replicate (7 - (lg_sl ([.ref r0, .ref a0, .int tm])).length) Slot.unset).toArray = ls at hl ⊢
  have hl : lv_has ls 7 [(0, .ref r0), (1, .ref a0), (2, .int tm)] := hl
  refine lv_iconst (v := 0) hx hb d_PR_runOut_0 (by decide) ?_
  refine lv_istore_n (lv' := [(3, .int 0), (0, .ref r0), (1, .ref a0), (2, .int tm)]) hx hb d_PR_runOut_1 rfl hl (by decide) rfl (fun ls hl => ?_)
  refine lv_iconst (v := 0) hx hb d_PR_runOut_2 (by decide) ?_
  refine lv_istore (lv' := [(4, .int 0), (3, .int 0), (0, .ref r0), (1, .ref a0), (2, .int tm)]) hx hb d_PR_runOut_3 hl (by decide) rfl (fun ls hl => ?_)
  refine lv_iload hx hb d_PR_runOut_5 (lv_at hl 0 rfl) ?_
  refine lv_aload_n hx hb d_PR_runOut_7 rfl (lv_at hl 2 rfl) ?_
  refine va_get (D := D) (ci := 3) (v := .int 0) (C := R_PR) (T := F_PR) (N := 13) hx hb hts i_PR hown hK hP 0 rfl rfl 0 (by decide) (hts _ q_110) (fun _ h9 => h9) rfl d_PR_runOut_8 ?_
  refine lv_icmp_ge (tgt := 119) hx hb d_PR_runOut_11 (by decide) (fun _ => ?_) (fun h => absurd h (by decide))
  refine lv_iload_n hx hb d_PR_runOut_119 rfl (lv_at hl 1 rfl) ?_
  exact W.iret (v := 0) hx hb hr (fun t ht hW => ⟨0, rfl, rfl, ht⟩) (fun q h => absurd h List.not_mem_nil) d_PR_runOut_120

set_option maxHeartbeats 4000000 in
set_option maxRecDepth 100000 in
theorem f_PR_keepRound (l : Launch) (D : va_G) (cI cZ : ClassId) (r0 : Nat) (f0 : Nat) (a0 : Nat) (tm : Int32) (r1 : Nat) (r2 : Nat) (r3 : Nat) (r4 : Nat) (r5 : Nat) (r6 : Nat) (r7 : Nat) (r8 : Nat) (r9 : Nat) (r10 : Nat) (r11 : Nat) (sz : Nat)  : Met l ⟨"PromiseChains$Promises", "keepRound", "(LPromiseChains$People;LPromiseChains$Pairs;I)I"⟩ (mw ⟨"PromiseChains$Promises", "keepRound", "(LPromiseChains$People;LPromiseChains$Pairs;I)I"⟩ prog_4_method_9_code 8 (some .int)) ({ frames := 0, cells := 0, slots := 0, locals := 0 }) (va_Pc [.ref r0, .ref f0, .ref a0, .int tm] (PB D cI cZ sz [(r0, .inr (3, [.int 0, .int 0, .ref r1, .ref r2, .ref r3, .ref r4, .ref r5, .ref r6, .ref r7, .ref r8, .ref r9, .ref r10, .ref r11]))])) (vp_Si (fun r => r = 0)) 0 0 (fun _ => False) := by
  refine Met.ofW (cc := prog_4_method_9_code) (maxL := 8) (ret := (some .int)) (by decide) rfl ?_
  intro p e s m args below meth c s₁ B hml hv
  obtain ⟨rfl, hsz, hP, hK, hD0, hN⟩ := hv
  have hx := B.exec
  have hb := B.bytes
  have hr := B.returns
  have hts0 := atoms_spec (ws := mw ⟨"PromiseChains$Promises", "keepRound", "(LPromiseChains$People;LPromiseChains$Pairs;I)I"⟩ prog_4_method_9_code 8 (some .int)) B.pre
  have hts : ∀ w ∈ tblG, w.before _ s = true := fun w h => hts0 w (List.mem_cons_of_mem _ h)
  have hown : s.vm.findClass "PromiseChains$Promises" = some m.cls := findClass_of_methodNamed B.named
  have hlocks := B.notSynchronized
  subst hsz
  have hD := hD0
  have hP : va_P D vwCl [(r0, .inr (3, [.int 0, .int 0, .ref r1, .ref r2, .ref r3, .ref r4, .ref r5, .ref r6, .ref r7, .ref r8, .ref r9, .ref r10, .ref r11]))] s.heap := hP
  have hl := lv_entry ([.ref r0, .ref f0, .ref a0, .int tm]) (n := 8) (Nat.le_of_ble_eq_true rfl)
  rw [lg_entry_eq]
  generalize (lg_sl ([.ref r0, .ref f0, .ref a0, .int tm]) ++ List.replicate (8 - (lg_sl ([.ref r0, .ref f0, .ref a0, .int tm])).length) Slot.unset).toArray = ls at hl ⊢
  have hl : lv_has ls 8 [(0, .ref r0), (1, .ref f0), (2, .ref a0), (3, .int tm)] := hl
  refine lv_iconst (v := 0) hx hb d_PR_keepRound_0 (by decide) ?_
  refine lv_istore (lv' := [(4, .int 0), (0, .ref r0), (1, .ref f0), (2, .ref a0), (3, .int tm)]) hx hb d_PR_keepRound_1 hl (by decide) rfl (fun ls hl => ?_)
  refine lv_iconst (v := 0) hx hb d_PR_keepRound_3 (by decide) ?_
  refine lv_istore (lv' := [(5, .int 0), (4, .int 0), (0, .ref r0), (1, .ref f0), (2, .ref a0), (3, .int tm)]) hx hb d_PR_keepRound_4 hl (by decide) rfl (fun ls hl => ?_)
  refine lv_iload hx hb d_PR_keepRound_6 (lv_at hl 0 rfl) ?_
  refine lv_aload_n hx hb d_PR_keepRound_8 rfl (lv_at hl 2 rfl) ?_
  refine va_get (D := D) (ci := 3) (v := .int 0) (C := R_PR) (T := F_PR) (N := 13) hx hb hts i_PR hown hK hP 0 rfl rfl 0 (by decide) (hts _ q_110) (fun _ h9 => h9) rfl d_PR_keepRound_9 ?_
  refine lv_icmp_ge (tgt := 133) hx hb d_PR_keepRound_12 (by decide) (fun _ => ?_) (fun h => absurd h (by decide))
  refine lv_iload hx hb d_PR_keepRound_133 (lv_at hl 1 rfl) ?_
  exact W.iret (v := 0) hx hb hr (fun t ht hW => ⟨0, rfl, rfl, ht⟩) (fun q h => absurd h List.not_mem_nil) d_PR_keepRound_135

set_option maxHeartbeats 4000000 in
set_option maxRecDepth 100000 in
theorem f_PR_keepAll (l : Launch) (D : va_G) (cI cZ : ClassId) (r0 : Nat) (f0 : Nat) (a0 : Nat) (tm : Int32) (r1 : Nat) (r2 : Nat) (r3 : Nat) (r4 : Nat) (r5 : Nat) (r6 : Nat) (r7 : Nat) (r8 : Nat) (r9 : Nat) (r10 : Nat) (r11 : Nat) (sz : Nat)  : Met l ⟨"PromiseChains$Promises", "keepAll", "(LPromiseChains$People;LPromiseChains$Pairs;I)I"⟩ (mw ⟨"PromiseChains$Promises", "keepAll", "(LPromiseChains$People;LPromiseChains$Pairs;I)I"⟩ prog_4_method_8_code 7 (some .int)) ({ frames := 1, cells := 0, slots := 0, locals := 27 }) (va_Pc [.ref r0, .ref f0, .ref a0, .int tm] (PB D cI cZ sz [(r0, .inr (3, [.int 0, .int 0, .ref r1, .ref r2, .ref r3, .ref r4, .ref r5, .ref r6, .ref r7, .ref r8, .ref r9, .ref r10, .ref r11]))])) (vp_Si (fun r => r = 0)) 0 0 (fun _ => False) := by
  refine Met.ofW (cc := prog_4_method_8_code) (maxL := 7) (ret := (some .int)) (by decide) rfl ?_
  intro p e s m args below meth c s₁ B hml hv
  obtain ⟨rfl, hsz, hP, hK, hD0, hN⟩ := hv
  have hx := B.exec
  have hb := B.bytes
  have hr := B.returns
  have hts0 := atoms_spec (ws := mw ⟨"PromiseChains$Promises", "keepAll", "(LPromiseChains$People;LPromiseChains$Pairs;I)I"⟩ prog_4_method_8_code 7 (some .int)) B.pre
  have hts : ∀ w ∈ tblG, w.before _ s = true := fun w h => hts0 w (List.mem_cons_of_mem _ h)
  have hown : s.vm.findClass "PromiseChains$Promises" = some m.cls := findClass_of_methodNamed B.named
  have hlocks := B.notSynchronized
  subst hsz
  have hD := hD0
  have hP : va_P D vwCl [(r0, .inr (3, [.int 0, .int 0, .ref r1, .ref r2, .ref r3, .ref r4, .ref r5, .ref r6, .ref r7, .ref r8, .ref r9, .ref r10, .ref r11]))] s.heap := hP
  have hl := lv_entry ([.ref r0, .ref f0, .ref a0, .int tm]) (n := 7) (Nat.le_of_ble_eq_true rfl)
  rw [lg_entry_eq]
  generalize (lg_sl ([.ref r0, .ref f0, .ref a0, .int tm]) ++ List.replicate (7 - (lg_sl ([.ref r0, .ref f0, .ref a0, .int tm])).length) Slot.unset).toArray = ls at hl ⊢
  have hl : lv_has ls 7 [(0, .ref r0), (1, .ref f0), (2, .ref a0), (3, .int tm)] := hl
  refine lv_iconst (v := 0) hx hb d_PR_keepAll_0 (by decide) ?_
  refine lv_istore (lv' := [(4, .int 0), (0, .ref r0), (1, .ref f0), (2, .ref a0), (3, .int tm)]) hx hb d_PR_keepAll_1 hl (by decide) rfl (fun ls hl => ?_)
  refine lv_iconst (v := 0) hx hb d_PR_keepAll_3 (by decide) ?_
  refine lv_istore (lv' := [(5, .int 0), (4, .int 0), (0, .ref r0), (1, .ref f0), (2, .ref a0), (3, .int tm)]) hx hb d_PR_keepAll_4 hl (by decide) rfl (fun ls hl => ?_)
  refine lv_iload hx hb d_PR_keepAll_6 (lv_at hl 0 rfl) ?_
  refine lv_sipush (v := 240) hx hb d_PR_keepAll_8 (by decide) ?_
  refine lv_icmp_ge (tgt := 44) hx hb d_PR_keepAll_11 (by decide) (fun h => absurd h (by decide)) (fun _ => ?_)
  refine lv_aload_n hx hb d_PR_keepAll_14 rfl (lv_at hl 2 rfl) ?_
  refine lv_aload_n hx hb d_PR_keepAll_15 rfl (lv_at hl 3 rfl) ?_
  refine lv_aload_n hx hb d_PR_keepAll_16 rfl (lv_at hl 4 rfl) ?_
  refine lv_iload_n hx hb d_PR_keepAll_17 rfl (lv_at hl 5 rfl) ?_
  have hPc := hP.sub (ws' := [(r0, .inr (3, [.int 0, .int 0, .ref r1, .ref r2, .ref r3, .ref r4, .ref r5, .ref r6, .ref r7, .ref r8, .ref r9, .ref r10, .ref r11]))]) [0] rfl
  have hDc := hD.sub (ws' := [(r0, .inr (3, [.int 0, .int 0, .ref r1, .ref r2, .ref r3, .ref r4, .ref r5, .ref r6, .ref r7, .ref r8, .ref r9, .ref r10, .ref r11]))]) [0] (by decide) rfl
  refine vp_callSi (va_Run.run (va_runV (As := [.ref f0, .ref a0, .int tm]) (rest := []) ⟨hx, hb, hml, hown, hts⟩ (f_PR_keepRound l D cI cZ r0 f0 a0 tm r1 r2 r3 r4 r5 r6 r7 r8 r9 r10 r11 s.heap.size ) (my_cwV 3 hts q_340 q_337 q_338 q_339 q_4 rfl rfl (by decide +kernel) ⟨Nat.le_of_ble_eq_true rfl, Nat.le_of_ble_eq_true rfl⟩) (my_preV hPc hDc hK hN 3 0 rfl rfl) rfl rfl hl.1 rfl (lv_room (Nat.le_of_ble_eq_true rfl)) d_PR_keepAll_18 ⟨Nat.le_of_ble_eq_true rfl, Nat.le_of_ble_eq_true rfl⟩)) (fun r_2 hw_2 => ?_)
  have hw_2 : r_2 = 0 := hw_2
  subst hw_2
  refine lv_istore (lv' := [(6, .int 0), (5, .int 0), (4, .int 0), (0, .ref r0), (1, .ref f0), (2, .ref a0), (3, .int tm)]) hx hb d_PR_keepAll_21 hl (by decide) rfl (fun ls hl => ?_)
  refine lv_iload hx hb d_PR_keepAll_23 (lv_at hl 0 rfl) ?_
  refine lv_if_ne (tgt := 31) hx hb d_PR_keepAll_25 (by decide) (fun h => absurd h (by decide)) (fun _ => ?_)
  refine lv_goto (tgt := 44) hx hb d_PR_keepAll_28 (by decide) ?_
  refine lv_iload hx hb d_PR_keepAll_44 (lv_at hl 2 rfl) ?_
  exact W.iret (v := 0) hx hb hr (fun t ht hW => ⟨0, rfl, rfl, ht⟩) (fun q h => absurd h List.not_mem_nil) d_PR_keepAll_46

set_option maxHeartbeats 4000000 in
set_option maxRecDepth 100000 in
theorem f_PA_settle (l : Launch) (D : va_G) (cI cZ : ClassId) (a0 : Nat) (f0 : Nat) (tm : Int32) (a1 : Nat) (a2 : Nat) (a3 : Nat) (a4 : Nat) (a5 : Nat) (a6 : Nat) (a7 : Nat) (a8 : Nat) (a9 : Nat) (a10 : Nat) (a11 : Nat) (sz : Nat)  : Met l ⟨"PromiseChains$Pairs", "settle", "(LPromiseChains$People;I)V"⟩ (mw ⟨"PromiseChains$Pairs", "settle", "(LPromiseChains$People;I)V"⟩ prog_2_method_18_code 4 none) ({ frames := 0, cells := 0, slots := 0, locals := 0 }) (va_Pc [.ref a0, .ref f0, .int tm] (PB D cI cZ sz [(a0, .inr (2, [.int 0, .ref a1, .ref a2, .ref a3, .ref a4, .ref a5, .ref a6, .ref a7, .ref a8, .ref a9, .ref a10, .ref a11]))])) (va_Sv (fun _ => True)) 0 0 (fun _ => False) := by
  refine Met.ofW (cc := prog_2_method_18_code) (maxL := 4) (ret := none) (by decide) rfl ?_
  intro p e s m args below meth c s₁ B hml hv
  obtain ⟨rfl, hsz, hP, hK, hD0, hN⟩ := hv
  have hx := B.exec
  have hb := B.bytes
  have hr := B.returns
  have hts0 := atoms_spec (ws := mw ⟨"PromiseChains$Pairs", "settle", "(LPromiseChains$People;I)V"⟩ prog_2_method_18_code 4 none) B.pre
  have hts : ∀ w ∈ tblG, w.before _ s = true := fun w h => hts0 w (List.mem_cons_of_mem _ h)
  have hown : s.vm.findClass "PromiseChains$Pairs" = some m.cls := findClass_of_methodNamed B.named
  have hlocks := B.notSynchronized
  subst hsz
  have hD := hD0
  have hP : va_P D vwCl [(a0, .inr (2, [.int 0, .ref a1, .ref a2, .ref a3, .ref a4, .ref a5, .ref a6, .ref a7, .ref a8, .ref a9, .ref a10, .ref a11]))] s.heap := hP
  have hl := lv_entry ([.ref a0, .ref f0, .int tm]) (n := 4) (Nat.le_of_ble_eq_true rfl)
  rw [lg_entry_eq]
  generalize (lg_sl ([.ref a0, .ref f0, .int tm]) ++ List.replicate (4 - (lg_sl ([.ref a0, .ref f0, .int tm])).length) Slot.unset).toArray = ls at hl ⊢
  have hl : lv_has ls 4 [(0, .ref a0), (1, .ref f0), (2, .int tm)] := hl
  refine lv_iconst (v := 0) hx hb d_PA_settle_0 (by decide) ?_
  refine lv_istore_n (lv' := [(3, .int 0), (0, .ref a0), (1, .ref f0), (2, .int tm)]) hx hb d_PA_settle_1 rfl hl (by decide) rfl (fun ls hl => ?_)
  refine lv_iload_n hx hb d_PA_settle_2 rfl (lv_at hl 0 rfl) ?_
  refine lv_aload_n hx hb d_PA_settle_3 rfl (lv_at hl 1 rfl) ?_
  refine va_get (D := D) (ci := 2) (v := .int 0) (C := R_PA) (T := F_PA) (N := 12) hx hb hts i_PA hown hK hP 0 rfl rfl 0 (by decide) (hts _ q_56) (fun _ h9 => h9) rfl d_PA_settle_4 ?_
  refine lv_icmp_ge (tgt := 112) hx hb d_PA_settle_7 (by decide) (fun _ => ?_) (fun h => absurd h (by decide))
  exact W.vret hx hb hr (fun t ht hW => ⟨rfl, trivial, ht⟩) (fun q h => absurd h List.not_mem_nil) d_PA_settle_112

set_option maxHeartbeats 4000000 in
set_option maxRecDepth 100000 in
theorem f_PA_sumOff (l : Launch) (D : va_G) (cI cZ : ClassId) (a0 : Nat) (a1 : Nat) (a2 : Nat) (a3 : Nat) (a4 : Nat) (a5 : Nat) (a6 : Nat) (a7 : Nat) (a8 : Nat) (a9 : Nat) (a10 : Nat) (a11 : Nat) (sz : Nat)  : Met l ⟨"PromiseChains$Pairs", "sumOff", "()I"⟩ (mw ⟨"PromiseChains$Pairs", "sumOff", "()I"⟩ prog_2_method_8_code 3 (some .int)) ({ frames := 0, cells := 0, slots := 0, locals := 0 }) (va_Pc [.ref a0] (PB D cI cZ sz [(a0, .inr (2, [.int 0, .ref a1, .ref a2, .ref a3, .ref a4, .ref a5, .ref a6, .ref a7, .ref a8, .ref a9, .ref a10, .ref a11]))])) (vp_Si (fun r => r = 0)) 0 0 (fun _ => False) := by
  refine Met.ofW (cc := prog_2_method_8_code) (maxL := 3) (ret := (some .int)) (by decide) rfl ?_
  intro p e s m args below meth c s₁ B hml hv
  obtain ⟨rfl, hsz, hP, hK, hD0, hN⟩ := hv
  have hx := B.exec
  have hb := B.bytes
  have hr := B.returns
  have hts0 := atoms_spec (ws := mw ⟨"PromiseChains$Pairs", "sumOff", "()I"⟩ prog_2_method_8_code 3 (some .int)) B.pre
  have hts : ∀ w ∈ tblG, w.before _ s = true := fun w h => hts0 w (List.mem_cons_of_mem _ h)
  have hown : s.vm.findClass "PromiseChains$Pairs" = some m.cls := findClass_of_methodNamed B.named
  have hlocks := B.notSynchronized
  subst hsz
  have hD := hD0
  have hP : va_P D vwCl [(a0, .inr (2, [.int 0, .ref a1, .ref a2, .ref a3, .ref a4, .ref a5, .ref a6, .ref a7, .ref a8, .ref a9, .ref a10, .ref a11]))] s.heap := hP
  have hl := lv_entry ([.ref a0]) (n := 3) (Nat.le_of_ble_eq_true rfl)
  rw [lg_entry_eq]
  generalize (lg_sl ([.ref a0]) ++ List.replicate (3 - (lg_sl ([.ref a0])).length) Slot.unset).toArray = ls at hl ⊢
  have hl : lv_has ls 3 [(0, .ref a0)] := hl
  refine lv_iconst (v := 0) hx hb d_PA_sumOff_0 (by decide) ?_
  refine lv_istore_n (lv' := [(1, .int 0), (0, .ref a0)]) hx hb d_PA_sumOff_1 rfl hl (by decide) rfl (fun ls hl => ?_)
  refine lv_iconst (v := 0) hx hb d_PA_sumOff_2 (by decide) ?_
  refine lv_istore_n (lv' := [(2, .int 0), (1, .int 0), (0, .ref a0)]) hx hb d_PA_sumOff_3 rfl hl (by decide) rfl (fun ls hl => ?_)
  refine lv_iload_n hx hb d_PA_sumOff_4 rfl (lv_at hl 0 rfl) ?_
  refine lv_aload_n hx hb d_PA_sumOff_5 rfl (lv_at hl 2 rfl) ?_
  refine va_get (D := D) (ci := 2) (v := .int 0) (C := R_PA) (T := F_PA) (N := 12) hx hb hts i_PA hown hK hP 0 rfl rfl 0 (by decide) (hts _ q_56) (fun _ h9 => h9) rfl d_PA_sumOff_6 ?_
  refine lv_icmp_ge (tgt := 52) hx hb d_PA_sumOff_9 (by decide) (fun _ => ?_) (fun h => absurd h (by decide))
  refine lv_iload_n hx hb d_PA_sumOff_52 rfl (lv_at hl 1 rfl) ?_
  exact W.iret (v := 0) hx hb hr (fun t ht hW => ⟨0, rfl, rfl, ht⟩) (fun q h => absurd h List.not_mem_nil) d_PA_sumOff_53

set_option maxHeartbeats 4000000 in
set_option maxRecDepth 100000 in
theorem f_PE_howManyAway (l : Launch) (D : va_G) (cI cZ : ClassId) (f0 : Nat) (f1 : Nat) (f2 : Nat) (f3 : Nat) (f4 : Nat) (sz : Nat)  : Met l ⟨"PromiseChains$People", "howManyAway", "()I"⟩ (mw ⟨"PromiseChains$People", "howManyAway", "()I"⟩ prog_3_method_5_code 3 (some .int)) ({ frames := 0, cells := 0, slots := 0, locals := 0 }) (va_Pc [.ref f0] (PB D cI cZ sz [(f0, .inr (1, [.int 2, .ref f1, .ref f2, .ref f3, .ref f4])), (f4, .inl (cZ, 7, .inl (fun _ => 0)))])) (vp_Si (fun r => r = 0)) 0 0 (fun _ => False) := by
  refine Met.ofW (cc := prog_3_method_5_code) (maxL := 3) (ret := (some .int)) (by decide) rfl ?_
  intro p e s m args below meth c s₁ B hml hv
  obtain ⟨rfl, hsz, hP, hK, hD0, hN⟩ := hv
  have hx := B.exec
  have hb := B.bytes
  have hr := B.returns
  have hts0 := atoms_spec (ws := mw ⟨"PromiseChains$People", "howManyAway", "()I"⟩ prog_3_method_5_code 3 (some .int)) B.pre
  have hts : ∀ w ∈ tblG, w.before _ s = true := fun w h => hts0 w (List.mem_cons_of_mem _ h)
  have hown : s.vm.findClass "PromiseChains$People" = some m.cls := findClass_of_methodNamed B.named
  have hlocks := B.notSynchronized
  subst hsz
  have hD := hD0
  have hP : va_P D vwCl [(f0, .inr (1, [.int 2, .ref f1, .ref f2, .ref f3, .ref f4])), (f4, .inl (cZ, 7, .inl (fun _ => 0)))] s.heap := hP
  have hl := lv_entry ([.ref f0]) (n := 3) (Nat.le_of_ble_eq_true rfl)
  rw [lg_entry_eq]
  generalize (lg_sl ([.ref f0]) ++ List.replicate (3 - (lg_sl ([.ref f0])).length) Slot.unset).toArray = ls at hl ⊢
  have hl : lv_has ls 3 [(0, .ref f0)] := hl
  refine lv_iconst (v := 0) hx hb d_PE_howManyAway_0 (by decide) ?_
  refine lv_istore_n (lv' := [(1, .int 0), (0, .ref f0)]) hx hb d_PE_howManyAway_1 rfl hl (by decide) rfl (fun ls hl => ?_)
  refine lv_iconst (v := 0) hx hb d_PE_howManyAway_2 (by decide) ?_
  refine lv_istore_n (lv' := [(2, .int 0), (1, .int 0), (0, .ref f0)]) hx hb d_PE_howManyAway_3 rfl hl (by decide) rfl (fun ls hl => ?_)
  refine lv_iload_n hx hb d_PE_howManyAway_4 rfl (lv_at hl 0 rfl) ?_
  refine lv_aload_n hx hb d_PE_howManyAway_5 rfl (lv_at hl 2 rfl) ?_
  refine va_get (D := D) (ci := 1) (v := .int 2) (C := R_PE) (T := F_PE) (N := 5) hx hb hts i_PE hown hK hP 0 rfl rfl 0 (by decide) (hts _ q_24) (fun _ h9 => h9) rfl d_PE_howManyAway_6 ?_
  refine lv_icmp_ge (tgt := 35) hx hb d_PE_howManyAway_9 (by decide) (fun h => absurd h (by decide)) (fun _ => ?_)
  refine lv_iload_n hx hb d_PE_howManyAway_12 rfl (lv_at hl 1 rfl) ?_
  refine lv_aload_n hx hb d_PE_howManyAway_13 rfl (lv_at hl 2 rfl) ?_
  refine va_get (D := D) (ci := 1) (v := .ref f4) (C := R_PE) (T := F_PE) (N := 5) hx hb hts i_PE hown hK hP 0 rfl rfl 4 (by decide) (hts _ q_33) (fun _ h9 => h9) rfl d_PE_howManyAway_14 ?_
  refine lv_iload_n hx hb d_PE_howManyAway_17 rfl (lv_at hl 0 rfl) ?_
  refine va_zald hx hb hK hP 1 1 rfl rfl (by unfold vp_in; decide) d_PE_howManyAway_18 ?_
  refine lv_seti (0) (rfl) ?_
  refine lv_if_eq (tgt := 26) hx hb d_PE_howManyAway_19 (by decide) (fun _ => ?_) (fun h => absurd h (by decide))
  refine lv_iconst (v := 0) hx hb d_PE_howManyAway_26 (by decide) ?_
  refine lv_iadd hx hb d_PE_howManyAway_27 ?_
  refine lv_seti (0) (by decide) ?_
  refine lv_istore_n (lv' := [(1, .int 0), (2, .int 0), (0, .ref f0)]) hx hb d_PE_howManyAway_28 rfl hl (by decide) rfl (fun ls hl => ?_)
  refine lv_iinc (v := 1) (lv' := [(2, .int 1), (1, .int 0), (0, .ref f0)]) hx hb d_PE_howManyAway_29 hl (k := 1) rfl (by decide) (by decide) rfl (fun ls hl => ?_)
  refine lv_goto (tgt := 4) hx hb d_PE_howManyAway_32 (by decide) ?_
  refine lv_iload_n hx hb d_PE_howManyAway_4 rfl (lv_at hl 0 rfl) ?_
  refine lv_aload_n hx hb d_PE_howManyAway_5 rfl (lv_at hl 2 rfl) ?_
  refine va_get (D := D) (ci := 1) (v := .int 2) (C := R_PE) (T := F_PE) (N := 5) hx hb hts i_PE hown hK hP 0 rfl rfl 0 (by decide) (hts _ q_24) (fun _ h9 => h9) rfl d_PE_howManyAway_6 ?_
  refine lv_icmp_ge (tgt := 35) hx hb d_PE_howManyAway_9 (by decide) (fun h => absurd h (by decide)) (fun _ => ?_)
  refine lv_iload_n hx hb d_PE_howManyAway_12 rfl (lv_at hl 1 rfl) ?_
  refine lv_aload_n hx hb d_PE_howManyAway_13 rfl (lv_at hl 2 rfl) ?_
  refine va_get (D := D) (ci := 1) (v := .ref f4) (C := R_PE) (T := F_PE) (N := 5) hx hb hts i_PE hown hK hP 0 rfl rfl 4 (by decide) (hts _ q_33) (fun _ h9 => h9) rfl d_PE_howManyAway_14 ?_
  refine lv_iload_n hx hb d_PE_howManyAway_17 rfl (lv_at hl 0 rfl) ?_
  refine va_zald hx hb hK hP 1 1 rfl rfl (by unfold vp_in; decide) d_PE_howManyAway_18 ?_
  refine lv_seti (0) (rfl) ?_
  refine lv_if_eq (tgt := 26) hx hb d_PE_howManyAway_19 (by decide) (fun _ => ?_) (fun h => absurd h (by decide))
  refine lv_iconst (v := 0) hx hb d_PE_howManyAway_26 (by decide) ?_
  refine lv_iadd hx hb d_PE_howManyAway_27 ?_
  refine lv_seti (0) (by decide) ?_
  refine lv_istore_n (lv' := [(1, .int 0), (2, .int 1), (0, .ref f0)]) hx hb d_PE_howManyAway_28 rfl hl (by decide) rfl (fun ls hl => ?_)
  refine lv_iinc (v := 2) (lv' := [(2, .int 2), (1, .int 0), (0, .ref f0)]) hx hb d_PE_howManyAway_29 hl (k := 1) rfl (by decide) (by decide) rfl (fun ls hl => ?_)
  refine lv_goto (tgt := 4) hx hb d_PE_howManyAway_32 (by decide) ?_
  refine lv_iload_n hx hb d_PE_howManyAway_4 rfl (lv_at hl 0 rfl) ?_
  refine lv_aload_n hx hb d_PE_howManyAway_5 rfl (lv_at hl 2 rfl) ?_
  refine va_get (D := D) (ci := 1) (v := .int 2) (C := R_PE) (T := F_PE) (N := 5) hx hb hts i_PE hown hK hP 0 rfl rfl 0 (by decide) (hts _ q_24) (fun _ h9 => h9) rfl d_PE_howManyAway_6 ?_
  refine lv_icmp_ge (tgt := 35) hx hb d_PE_howManyAway_9 (by decide) (fun _ => ?_) (fun h => absurd h (by decide))
  refine lv_iload_n hx hb d_PE_howManyAway_35 rfl (lv_at hl 1 rfl) ?_
  exact W.iret (v := 0) hx hb hr (fun t ht hW => ⟨0, rfl, rfl, ht⟩) (fun q h => absurd h List.not_mem_nil) d_PE_howManyAway_36

set_option maxHeartbeats 4000000 in
set_option maxRecDepth 100000 in
theorem f_PA_setSides (l : Launch) (D : va_G) (cI cZ : ClassId) (a0 : Nat) (u : Int32) (v : Int32) (n : Int32) (a1 : Nat) (a2 : Nat) (a3 : Nat) (a4 : Nat) (a5 : Nat) (a6 : Nat) (a7 : Nat) (a8 : Nat) (a9 : Nat) (a10 : Nat) (a11 : Nat) (F1 : Nat → Int32) (F2 : Nat → Int32) (F3 : Nat → Int32) (sz : Nat)  : Met l ⟨"PromiseChains$Pairs", "setSides", "(III)V"⟩ (mw ⟨"PromiseChains$Pairs", "setSides", "(III)V"⟩ prog_2_method_9_code 4 none) ({ frames := 0, cells := 0, slots := 0, locals := 0 }) (va_Pc [.ref a0, .int 0, .int u, .int v] (PB D cI cZ sz [(a0, .inr (2, [.int n, .ref a1, .ref a2, .ref a3, .ref a4, .ref a5, .ref a6, .ref a7, .ref a8, .ref a9, .ref a10, .ref a11])), (a2, .inl (cI, 24, .inl F1)), (a10, .inl (cI, 12, .inl F2)), (a11, .inl (cI, 12, .inl F3))])) (va_Qv (S := Unit) (fun uU => True) (fun uU tT => BB D (va_A [(a0, .inr (2, [.int n, .ref a1, .ref a2, .ref a3, .ref a4, .ref a5, .ref a6, .ref a7, .ref a8, .ref a9, .ref a10, .ref a11])), (a2, .inl (cI, 24, .inl F1)), (a10, .inl (cI, 12, .inl F2)), (a11, .inl (cI, 12, .inl F3))] sz) [(a0, .inr (2, [.int n, .ref a1, .ref a2, .ref a3, .ref a4, .ref a5, .ref a6, .ref a7, .ref a8, .ref a9, .ref a10, .ref a11])), (a2, .inl (cI, 24, .inl (upd (upd F1 0 u) 1 v))), (a10, .inl (cI, 12, .inl (upd F2 0 0))), (a11, .inl (cI, 12, .inl (upd F3 0 (u + v))))] tT) (va_A [(a0, .inr (2, [.int n, .ref a1, .ref a2, .ref a3, .ref a4, .ref a5, .ref a6, .ref a7, .ref a8, .ref a9, .ref a10, .ref a11])), (a2, .inl (cI, 24, .inl F1)), (a10, .inl (cI, 12, .inl F2)), (a11, .inl (cI, 12, .inl F3))] sz)) 0 0 (va_A [(a0, .inr (2, [.int n, .ref a1, .ref a2, .ref a3, .ref a4, .ref a5, .ref a6, .ref a7, .ref a8, .ref a9, .ref a10, .ref a11])), (a2, .inl (cI, 24, .inl F1)), (a10, .inl (cI, 12, .inl F2)), (a11, .inl (cI, 12, .inl F3))] sz) := by
  refine Met.ofW (cc := prog_2_method_9_code) (maxL := 4) (ret := none) (by decide) rfl ?_
  intro p e s m args below meth c s₁ B hml hv
  obtain ⟨rfl, hsz, hP, hK, hD0, hN⟩ := hv
  have hx := B.exec
  have hb := B.bytes
  have hr := B.returns
  have hts0 := atoms_spec (ws := mw ⟨"PromiseChains$Pairs", "setSides", "(III)V"⟩ prog_2_method_9_code 4 none) B.pre
  have hts : ∀ w ∈ tblG, w.before _ s = true := fun w h => hts0 w (List.mem_cons_of_mem _ h)
  have hown : s.vm.findClass "PromiseChains$Pairs" = some m.cls := findClass_of_methodNamed B.named
  have hlocks := B.notSynchronized
  subst hsz
  have hD := hD0.self (sz := s.heap.size)
  generalize hAe : va_A [(a0, .inr (2, [.int n, .ref a1, .ref a2, .ref a3, .ref a4, .ref a5, .ref a6, .ref a7, .ref a8, .ref a9, .ref a10, .ref a11])), (a2, .inl (cI, 24, .inl F1)), (a10, .inl (cI, 12, .inl F2)), (a11, .inl (cI, 12, .inl F3))] s.heap.size = A at hD ⊢
  have hA : ∀ q : Nat, s.heap.size ≤ q → A q := fun q h => by rw [← hAe]; exact Or.inr h
  have hS : va_S A s.heap s.heap [] := va_S.rf
  have hP : va_P D vwCl [(a0, .inr (2, [.int n, .ref a1, .ref a2, .ref a3, .ref a4, .ref a5, .ref a6, .ref a7, .ref a8, .ref a9, .ref a10, .ref a11])), (a2, .inl (cI, 24, .inl F1)), (a10, .inl (cI, 12, .inl F2)), (a11, .inl (cI, 12, .inl F3))] s.heap := hP
  have hl := lv_entry ([.ref a0, .int 0, .int u, .int v]) (n := 4) (Nat.le_of_ble_eq_true rfl)
  rw [lg_entry_eq]
  generalize (lg_sl ([.ref a0, .int 0, .int u, .int v]) ++ List.replicate (4 - (lg_sl ([.ref a0, .int 0, .int u, .int v])).length) Slot.unset).toArray = ls at hl ⊢
  have hl : lv_has ls 4 [(0, .ref a0), (1, .int 0), (2, .int u), (3, .int v)] := hl
  refine lv_aload_n hx hb d_PA_setSides_0 rfl (lv_at hl 0 rfl) ?_
  refine va_get (D := D) (ci := 2) (v := .ref a2) (C := R_PA) (T := F_PA) (N := 12) hx hb hts i_PA hown hK hP 0 rfl rfl 2 (by decide) (hts _ q_61) (fun _ h9 => h9) rfl d_PA_setSides_1 ?_
  refine lv_iconst (v := 2) hx hb d_PA_setSides_4 (by decide) ?_
  refine lv_iload_n hx hb d_PA_setSides_5 rfl (lv_at hl 1 rfl) ?_
  refine lv_imul hx hb d_PA_setSides_6 ?_
  refine lv_seti (0) (by decide) ?_
  refine lv_iload_n hx hb d_PA_setSides_7 rfl (lv_at hl 2 rfl) ?_
  refine va_iast hx hb hK hP hD hS 1 0 rfl rfl (by unfold vp_in; decide) d_PA_setSides_8 (fun H_1 locs hP hD hS => ?_)
  have hP : va_P D vwCl [(a0, .inr (2, [.int n, .ref a1, .ref a2, .ref a3, .ref a4, .ref a5, .ref a6, .ref a7, .ref a8, .ref a9, .ref a10, .ref a11])), (a2, .inl (cI, 24, .inl (upd F1 0 u))), (a10, .inl (cI, 12, .inl F2)), (a11, .inl (cI, 12, .inl F3))] H_1 := hP
  have hD : va_D A [(a0, .inr (2, [.int n, .ref a1, .ref a2, .ref a3, .ref a4, .ref a5, .ref a6, .ref a7, .ref a8, .ref a9, .ref a10, .ref a11])), (a2, .inl (cI, 24, .inl (upd F1 0 u))), (a10, .inl (cI, 12, .inl F2)), (a11, .inl (cI, 12, .inl F3))] := hD
  refine lv_aload_n hx hb d_PA_setSides_9 rfl (lv_at hl 0 rfl) ?_
  refine va_get (D := D) (ci := 2) (v := .ref a2) (C := R_PA) (T := F_PA) (N := 12) hx hb hts i_PA hown hK hP 0 rfl rfl 2 (by decide) (hts _ q_61) (fun _ h9 => h9) rfl d_PA_setSides_10 ?_
  refine lv_iconst (v := 2) hx hb d_PA_setSides_13 (by decide) ?_
  refine lv_iload_n hx hb d_PA_setSides_14 rfl (lv_at hl 1 rfl) ?_
  refine lv_imul hx hb d_PA_setSides_15 ?_
  refine lv_seti (0) (by decide) ?_
  refine lv_iconst (v := 1) hx hb d_PA_setSides_16 (by decide) ?_
  refine lv_iadd hx hb d_PA_setSides_17 ?_
  refine lv_seti (1) (by decide) ?_
  refine lv_iload_n hx hb d_PA_setSides_18 rfl (lv_at hl 3 rfl) ?_
  refine va_iast hx hb hK hP hD hS 1 0 rfl rfl (by unfold vp_in; decide) d_PA_setSides_19 (fun H_2 locs hP hD hS => ?_)
  have hP : va_P D vwCl [(a0, .inr (2, [.int n, .ref a1, .ref a2, .ref a3, .ref a4, .ref a5, .ref a6, .ref a7, .ref a8, .ref a9, .ref a10, .ref a11])), (a2, .inl (cI, 24, .inl (upd (upd F1 0 u) 1 v))), (a10, .inl (cI, 12, .inl F2)), (a11, .inl (cI, 12, .inl F3))] H_2 := hP
  have hD : va_D A [(a0, .inr (2, [.int n, .ref a1, .ref a2, .ref a3, .ref a4, .ref a5, .ref a6, .ref a7, .ref a8, .ref a9, .ref a10, .ref a11])), (a2, .inl (cI, 24, .inl (upd (upd F1 0 u) 1 v))), (a10, .inl (cI, 12, .inl F2)), (a11, .inl (cI, 12, .inl F3))] := hD
  refine lv_aload_n hx hb d_PA_setSides_20 rfl (lv_at hl 0 rfl) ?_
  refine va_get (D := D) (ci := 2) (v := .ref a10) (C := R_PA) (T := F_PA) (N := 12) hx hb hts i_PA hown hK hP 0 rfl rfl 10 (by decide) (hts _ q_75) (fun _ h9 => h9) rfl d_PA_setSides_21 ?_
  refine lv_iload_n hx hb d_PA_setSides_24 rfl (lv_at hl 1 rfl) ?_
  refine lv_iconst (v := 0) hx hb d_PA_setSides_25 (by decide) ?_
  refine va_iast hx hb hK hP hD hS 2 0 rfl rfl (by unfold vp_in; decide) d_PA_setSides_26 (fun H_3 locs hP hD hS => ?_)
  have hP : va_P D vwCl [(a0, .inr (2, [.int n, .ref a1, .ref a2, .ref a3, .ref a4, .ref a5, .ref a6, .ref a7, .ref a8, .ref a9, .ref a10, .ref a11])), (a2, .inl (cI, 24, .inl (upd (upd F1 0 u) 1 v))), (a10, .inl (cI, 12, .inl (upd F2 0 0))), (a11, .inl (cI, 12, .inl F3))] H_3 := hP
  have hD : va_D A [(a0, .inr (2, [.int n, .ref a1, .ref a2, .ref a3, .ref a4, .ref a5, .ref a6, .ref a7, .ref a8, .ref a9, .ref a10, .ref a11])), (a2, .inl (cI, 24, .inl (upd (upd F1 0 u) 1 v))), (a10, .inl (cI, 12, .inl (upd F2 0 0))), (a11, .inl (cI, 12, .inl F3))] := hD
  refine lv_aload_n hx hb d_PA_setSides_27 rfl (lv_at hl 0 rfl) ?_
  refine va_get (D := D) (ci := 2) (v := .ref a11) (C := R_PA) (T := F_PA) (N := 12) hx hb hts i_PA hown hK hP 0 rfl rfl 11 (by decide) (hts _ q_77) (fun _ h9 => h9) rfl d_PA_setSides_28 ?_
  refine lv_iload_n hx hb d_PA_setSides_31 rfl (lv_at hl 1 rfl) ?_
  refine lv_iload_n hx hb d_PA_setSides_32 rfl (lv_at hl 2 rfl) ?_
  refine lv_iload_n hx hb d_PA_setSides_33 rfl (lv_at hl 3 rfl) ?_
  refine lv_iadd hx hb d_PA_setSides_34 ?_
  refine va_iast hx hb hK hP hD hS 3 0 rfl rfl (by unfold vp_in; decide) d_PA_setSides_35 (fun H_4 locs hP hD hS => ?_)
  have hP : va_P D vwCl [(a0, .inr (2, [.int n, .ref a1, .ref a2, .ref a3, .ref a4, .ref a5, .ref a6, .ref a7, .ref a8, .ref a9, .ref a10, .ref a11])), (a2, .inl (cI, 24, .inl (upd (upd F1 0 u) 1 v))), (a10, .inl (cI, 12, .inl (upd F2 0 0))), (a11, .inl (cI, 12, .inl (upd F3 0 (u + v))))] H_4 := hP
  have hD : va_D A [(a0, .inr (2, [.int n, .ref a1, .ref a2, .ref a3, .ref a4, .ref a5, .ref a6, .ref a7, .ref a8, .ref a9, .ref a10, .ref a11])), (a2, .inl (cI, 24, .inl (upd (upd F1 0 u) 1 v))), (a10, .inl (cI, 12, .inl (upd F2 0 0))), (a11, .inl (cI, 12, .inl (upd F3 0 (u + v))))] := hD
  have hP9 := hP.sub (ws' := [(a0, .inr (2, [.int n, .ref a1, .ref a2, .ref a3, .ref a4, .ref a5, .ref a6, .ref a7, .ref a8, .ref a9, .ref a10, .ref a11])), (a2, .inl (cI, 24, .inl (upd (upd F1 0 u) 1 v))), (a10, .inl (cI, 12, .inl (upd F2 0 0))), (a11, .inl (cI, 12, .inl (upd F3 0 (u + v))))]) [0, 1, 2, 3] rfl
  have hD9 := hD.sub (ws' := [(a0, .inr (2, [.int n, .ref a1, .ref a2, .ref a3, .ref a4, .ref a5, .ref a6, .ref a7, .ref a8, .ref a9, .ref a10, .ref a11])), (a2, .inl (cI, 24, .inl (upd (upd F1 0 u) 1 v))), (a10, .inl (cI, 12, .inl (upd F2 0 0))), (a11, .inl (cI, 12, .inl (upd F3 0 (u + v))))]) [0, 1, 2, 3] (by decide) rfl
  refine W.widen (k := 0) (n := 0) (Nat.le_of_ble_eq_true rfl) (Nat.le_of_ble_eq_true rfl) ?_
  exact W.vret hx hb hr (fun t ht hW => ⟨⟨(), rfl, trivial, by rw [ht]; exact hP9, hD9⟩, hS.F ht⟩) hS.2.2 d_PA_setSides_36

set_option maxHeartbeats 4000000 in
set_option maxRecDepth 100000 in
theorem f_PA_addState (l : Launch) (D : va_G) (cI cZ : ClassId) (a0 : Nat) (n : Int32) (a1 : Nat) (a2 : Nat) (a3 : Nat) (a4 : Nat) (a5 : Nat) (a6 : Nat) (a7 : Nat) (a8 : Nat) (a9 : Nat) (a10 : Nat) (a11 : Nat) (F1 : Nat → Int32) (F2 : Nat → Int32) (F3 : Nat → Int32) (sz : Nat)  : Met l ⟨"PromiseChains$Pairs", "addState", "(I)V"⟩ (mw ⟨"PromiseChains$Pairs", "addState", "(I)V"⟩ prog_2_method_11_code 3 none) ({ frames := 0, cells := 0, slots := 0, locals := 0 }) (va_Pc [.ref a0, .int 0] (PB D cI cZ sz [(a0, .inr (2, [.int n, .ref a1, .ref a2, .ref a3, .ref a4, .ref a5, .ref a6, .ref a7, .ref a8, .ref a9, .ref a10, .ref a11])), (a2, .inl (cI, 24, .inl F1)), (a3, .inl (cI, 24, .inl F2)), (a4, .inl (cI, 1536, .inl F3)), (a5, .inl (cI, 12, .inl (upd (fun _ => 0) 0 0)))])) (va_Qv (S := Unit) (fun uU => True) (fun uU tT => BB D (va_A [(a0, .inr (2, [.int n, .ref a1, .ref a2, .ref a3, .ref a4, .ref a5, .ref a6, .ref a7, .ref a8, .ref a9, .ref a10, .ref a11])), (a2, .inl (cI, 24, .inl F1)), (a3, .inl (cI, 24, .inl F2)), (a4, .inl (cI, 1536, .inl F3)), (a5, .inl (cI, 12, .inl (upd (fun _ => 0) 0 0)))] sz) [] tT) (va_A [(a0, .inr (2, [.int n, .ref a1, .ref a2, .ref a3, .ref a4, .ref a5, .ref a6, .ref a7, .ref a8, .ref a9, .ref a10, .ref a11])), (a2, .inl (cI, 24, .inl F1)), (a3, .inl (cI, 24, .inl F2)), (a4, .inl (cI, 1536, .inl F3)), (a5, .inl (cI, 12, .inl (upd (fun _ => 0) 0 0)))] sz)) 0 0 (va_A [(a0, .inr (2, [.int n, .ref a1, .ref a2, .ref a3, .ref a4, .ref a5, .ref a6, .ref a7, .ref a8, .ref a9, .ref a10, .ref a11])), (a2, .inl (cI, 24, .inl F1)), (a3, .inl (cI, 24, .inl F2)), (a4, .inl (cI, 1536, .inl F3)), (a5, .inl (cI, 12, .inl (upd (fun _ => 0) 0 0)))] sz) := by
  refine Met.ofW (cc := prog_2_method_11_code) (maxL := 3) (ret := none) (by decide) rfl ?_
  intro p e s m args below meth c s₁ B hml hv
  obtain ⟨rfl, hsz, hP, hK, hD0, hN⟩ := hv
  have hx := B.exec
  have hb := B.bytes
  have hr := B.returns
  have hts0 := atoms_spec (ws := mw ⟨"PromiseChains$Pairs", "addState", "(I)V"⟩ prog_2_method_11_code 3 none) B.pre
  have hts : ∀ w ∈ tblG, w.before _ s = true := fun w h => hts0 w (List.mem_cons_of_mem _ h)
  have hown : s.vm.findClass "PromiseChains$Pairs" = some m.cls := findClass_of_methodNamed B.named
  have hlocks := B.notSynchronized
  subst hsz
  have hD := hD0.self (sz := s.heap.size)
  generalize hAe : va_A [(a0, .inr (2, [.int n, .ref a1, .ref a2, .ref a3, .ref a4, .ref a5, .ref a6, .ref a7, .ref a8, .ref a9, .ref a10, .ref a11])), (a2, .inl (cI, 24, .inl F1)), (a3, .inl (cI, 24, .inl F2)), (a4, .inl (cI, 1536, .inl F3)), (a5, .inl (cI, 12, .inl (upd (fun _ => 0) 0 0)))] s.heap.size = A at hD ⊢
  have hA : ∀ q : Nat, s.heap.size ≤ q → A q := fun q h => by rw [← hAe]; exact Or.inr h
  have hS : va_S A s.heap s.heap [] := va_S.rf
  have hP : va_P D vwCl [(a0, .inr (2, [.int n, .ref a1, .ref a2, .ref a3, .ref a4, .ref a5, .ref a6, .ref a7, .ref a8, .ref a9, .ref a10, .ref a11])), (a2, .inl (cI, 24, .inl F1)), (a3, .inl (cI, 24, .inl F2)), (a4, .inl (cI, 1536, .inl F3)), (a5, .inl (cI, 12, .inl (upd (fun _ => 0) 0 0)))] s.heap := hP
  have hl := lv_entry ([.ref a0, .int 0]) (n := 3) (Nat.le_of_ble_eq_true rfl)
  rw [lg_entry_eq]
  generalize (lg_sl ([.ref a0, .int 0]) ++ List.replicate (3 - (lg_sl ([.ref a0, .int 0])).length) Slot.unset).toArray = ls at hl ⊢
  have hl : lv_has ls 3 [(0, .ref a0), (1, .int 0)] := hl
  refine lv_aload_n hx hb d_PA_addState_0 rfl (lv_at hl 0 rfl) ?_
  refine va_get (D := D) (ci := 2) (v := .ref a5) (C := R_PA) (T := F_PA) (N := 12) hx hb hts i_PA hown hK hP 0 rfl rfl 5 (by decide) (hts _ q_67) (fun _ h9 => h9) rfl d_PA_addState_1 ?_
  refine lv_iload_n hx hb d_PA_addState_4 rfl (lv_at hl 1 rfl) ?_
  refine va_iald hx hb hK hP 4 0 rfl rfl (by unfold vp_in; decide) d_PA_addState_5 ?_
  refine lv_seti (0) (rfl) ?_
  refine lv_bipush (v := 64) hx hb d_PA_addState_6 (by decide) ?_
  refine lv_icmp_ge (tgt := 21) hx hb d_PA_addState_8 (by decide) (fun h => absurd h (by decide)) (fun _ => ?_)
  refine lv_aload_n hx hb d_PA_addState_11 rfl (lv_at hl 0 rfl) ?_
  refine va_get (D := D) (ci := 2) (v := .ref a5) (C := R_PA) (T := F_PA) (N := 12) hx hb hts i_PA hown hK hP 0 rfl rfl 5 (by decide) (hts _ q_67) (fun _ h9 => h9) rfl d_PA_addState_12 ?_
  refine lv_iload_n hx hb d_PA_addState_15 rfl (lv_at hl 1 rfl) ?_
  refine lv_dup2_11 hx hb d_PA_addState_16 rfl rfl ?_
  refine va_iald hx hb hK hP 4 0 rfl rfl (by unfold vp_in; decide) d_PA_addState_17 ?_
  refine lv_seti (0) (rfl) ?_
  refine lv_iconst (v := 1) hx hb d_PA_addState_18 (by decide) ?_
  refine lv_iadd hx hb d_PA_addState_19 ?_
  refine lv_seti (1) (by decide) ?_
  refine va_iast hx hb hK hP hD hS 4 0 rfl rfl (by unfold vp_in; decide) d_PA_addState_20 (fun H_2 locs hP hD hS => ?_)
  have hP : va_P D vwCl [(a0, .inr (2, [.int n, .ref a1, .ref a2, .ref a3, .ref a4, .ref a5, .ref a6, .ref a7, .ref a8, .ref a9, .ref a10, .ref a11])), (a2, .inl (cI, 24, .inl F1)), (a3, .inl (cI, 24, .inl F2)), (a4, .inl (cI, 1536, .inl F3)), (a5, .inl (cI, 12, .inl (upd (upd (fun _ => 0) 0 0) 0 1)))] H_2 := hP
  have hD : va_D A [(a0, .inr (2, [.int n, .ref a1, .ref a2, .ref a3, .ref a4, .ref a5, .ref a6, .ref a7, .ref a8, .ref a9, .ref a10, .ref a11])), (a2, .inl (cI, 24, .inl F1)), (a3, .inl (cI, 24, .inl F2)), (a4, .inl (cI, 1536, .inl F3)), (a5, .inl (cI, 12, .inl (upd (upd (fun _ => 0) 0 0) 0 1)))] := hD
  refine lv_iconst (v := 2) hx hb d_PA_addState_21 (by decide) ?_
  refine lv_iload_n hx hb d_PA_addState_22 rfl (lv_at hl 1 rfl) ?_
  refine lv_bipush (v := 64) hx hb d_PA_addState_23 (by decide) ?_
  refine lv_imul hx hb d_PA_addState_25 ?_
  refine lv_seti (0) (by decide) ?_
  refine lv_aload_n hx hb d_PA_addState_26 rfl (lv_at hl 0 rfl) ?_
  refine va_get (D := D) (ci := 2) (v := .ref a5) (C := R_PA) (T := F_PA) (N := 12) hx hb hts i_PA hown hK hP 0 rfl rfl 5 (by decide) (hts _ q_67) (fun _ h9 => h9) rfl d_PA_addState_27 ?_
  refine lv_iload_n hx hb d_PA_addState_30 rfl (lv_at hl 1 rfl) ?_
  refine va_iald hx hb hK hP 4 0 rfl rfl (by unfold vp_in; decide) d_PA_addState_31 ?_
  refine lv_seti (1) (rfl) ?_
  refine lv_iadd hx hb d_PA_addState_32 ?_
  refine lv_seti (1) (by decide) ?_
  refine lv_iconst (v := 1) hx hb d_PA_addState_33 (by decide) ?_
  refine lv_isub hx hb d_PA_addState_34 ?_
  refine lv_seti (0) (by decide) ?_
  refine lv_imul hx hb d_PA_addState_35 ?_
  refine lv_seti (0) (by decide) ?_
  refine lv_istore_n (lv' := [(2, .int 0), (0, .ref a0), (1, .int 0)]) hx hb d_PA_addState_36 rfl hl (by decide) rfl (fun ls hl => ?_)
  refine lv_aload_n hx hb d_PA_addState_37 rfl (lv_at hl 1 rfl) ?_
  refine va_get (D := D) (ci := 2) (v := .ref a4) (C := R_PA) (T := F_PA) (N := 12) hx hb hts i_PA hown hK hP 0 rfl rfl 4 (by decide) (hts _ q_66) (fun _ h9 => h9) rfl d_PA_addState_38 ?_
  refine lv_iload_n hx hb d_PA_addState_41 rfl (lv_at hl 0 rfl) ?_
  refine lv_aload_n hx hb d_PA_addState_42 rfl (lv_at hl 1 rfl) ?_
  refine va_get (D := D) (ci := 2) (v := .ref a2) (C := R_PA) (T := F_PA) (N := 12) hx hb hts i_PA hown hK hP 0 rfl rfl 2 (by decide) (hts _ q_61) (fun _ h9 => h9) rfl d_PA_addState_43 ?_
  refine lv_iconst (v := 2) hx hb d_PA_addState_46 (by decide) ?_
  refine lv_iload_n hx hb d_PA_addState_47 rfl (lv_at hl 2 rfl) ?_
  refine lv_imul hx hb d_PA_addState_48 ?_
  refine lv_seti (0) (by decide) ?_
  refine va_iald hx hb hK hP 1 0 rfl rfl (by unfold vp_in; decide) d_PA_addState_49 ?_
  refine lv_seti (F1 0) rfl ?_
  refine lv_aload_n hx hb d_PA_addState_50 rfl (lv_at hl 1 rfl) ?_
  refine va_get (D := D) (ci := 2) (v := .ref a3) (C := R_PA) (T := F_PA) (N := 12) hx hb hts i_PA hown hK hP 0 rfl rfl 3 (by decide) (hts _ q_64) (fun _ h9 => h9) rfl d_PA_addState_51 ?_
  refine lv_iconst (v := 2) hx hb d_PA_addState_54 (by decide) ?_
  refine lv_iload_n hx hb d_PA_addState_55 rfl (lv_at hl 2 rfl) ?_
  refine lv_imul hx hb d_PA_addState_56 ?_
  refine lv_seti (0) (by decide) ?_
  refine va_iald hx hb hK hP 2 0 rfl rfl (by unfold vp_in; decide) d_PA_addState_57 ?_
  refine lv_seti (F2 0) rfl ?_
  refine lv_iadd hx hb d_PA_addState_58 ?_
  refine va_iast hx hb hK hP hD hS 3 0 rfl rfl (by unfold vp_in; decide) d_PA_addState_59 (fun H_3 locs hP hD hS => ?_)
  have hP : va_P D vwCl [(a0, .inr (2, [.int n, .ref a1, .ref a2, .ref a3, .ref a4, .ref a5, .ref a6, .ref a7, .ref a8, .ref a9, .ref a10, .ref a11])), (a2, .inl (cI, 24, .inl F1)), (a3, .inl (cI, 24, .inl F2)), (a4, .inl (cI, 1536, .inl (upd F3 0 ((F1 0) + (F2 0))))), (a5, .inl (cI, 12, .inl (upd (upd (fun _ => 0) 0 0) 0 1)))] H_3 := hP
  have hD : va_D A [(a0, .inr (2, [.int n, .ref a1, .ref a2, .ref a3, .ref a4, .ref a5, .ref a6, .ref a7, .ref a8, .ref a9, .ref a10, .ref a11])), (a2, .inl (cI, 24, .inl F1)), (a3, .inl (cI, 24, .inl F2)), (a4, .inl (cI, 1536, .inl (upd F3 0 ((F1 0) + (F2 0))))), (a5, .inl (cI, 12, .inl (upd (upd (fun _ => 0) 0 0) 0 1)))] := hD
  refine lv_aload_n hx hb d_PA_addState_60 rfl (lv_at hl 1 rfl) ?_
  refine va_get (D := D) (ci := 2) (v := .ref a4) (C := R_PA) (T := F_PA) (N := 12) hx hb hts i_PA hown hK hP 0 rfl rfl 4 (by decide) (hts _ q_66) (fun _ h9 => h9) rfl d_PA_addState_61 ?_
  refine lv_iload_n hx hb d_PA_addState_64 rfl (lv_at hl 0 rfl) ?_
  refine lv_iconst (v := 1) hx hb d_PA_addState_65 (by decide) ?_
  refine lv_iadd hx hb d_PA_addState_66 ?_
  refine lv_seti (1) (by decide) ?_
  refine lv_aload_n hx hb d_PA_addState_67 rfl (lv_at hl 1 rfl) ?_
  refine va_get (D := D) (ci := 2) (v := .ref a2) (C := R_PA) (T := F_PA) (N := 12) hx hb hts i_PA hown hK hP 0 rfl rfl 2 (by decide) (hts _ q_61) (fun _ h9 => h9) rfl d_PA_addState_68 ?_
  refine lv_iconst (v := 2) hx hb d_PA_addState_71 (by decide) ?_
  refine lv_iload_n hx hb d_PA_addState_72 rfl (lv_at hl 2 rfl) ?_
  refine lv_imul hx hb d_PA_addState_73 ?_
  refine lv_seti (0) (by decide) ?_
  refine lv_iconst (v := 1) hx hb d_PA_addState_74 (by decide) ?_
  refine lv_iadd hx hb d_PA_addState_75 ?_
  refine lv_seti (1) (by decide) ?_
  refine va_iald hx hb hK hP 1 0 rfl rfl (by unfold vp_in; decide) d_PA_addState_76 ?_
  refine lv_seti (F1 1) rfl ?_
  refine lv_aload_n hx hb d_PA_addState_77 rfl (lv_at hl 1 rfl) ?_
  refine va_get (D := D) (ci := 2) (v := .ref a3) (C := R_PA) (T := F_PA) (N := 12) hx hb hts i_PA hown hK hP 0 rfl rfl 3 (by decide) (hts _ q_64) (fun _ h9 => h9) rfl d_PA_addState_78 ?_
  refine lv_iconst (v := 2) hx hb d_PA_addState_81 (by decide) ?_
  refine lv_iload_n hx hb d_PA_addState_82 rfl (lv_at hl 2 rfl) ?_
  refine lv_imul hx hb d_PA_addState_83 ?_
  refine lv_seti (0) (by decide) ?_
  refine lv_iconst (v := 1) hx hb d_PA_addState_84 (by decide) ?_
  refine lv_iadd hx hb d_PA_addState_85 ?_
  refine lv_seti (1) (by decide) ?_
  refine va_iald hx hb hK hP 2 0 rfl rfl (by unfold vp_in; decide) d_PA_addState_86 ?_
  refine lv_seti (F2 1) rfl ?_
  refine lv_iadd hx hb d_PA_addState_87 ?_
  refine va_iast hx hb hK hP hD hS 3 0 rfl rfl (by unfold vp_in; decide) d_PA_addState_88 (fun H_4 locs hP hD hS => ?_)
  have hP : va_P D vwCl [(a0, .inr (2, [.int n, .ref a1, .ref a2, .ref a3, .ref a4, .ref a5, .ref a6, .ref a7, .ref a8, .ref a9, .ref a10, .ref a11])), (a2, .inl (cI, 24, .inl F1)), (a3, .inl (cI, 24, .inl F2)), (a4, .inl (cI, 1536, .inl (upd (upd F3 0 ((F1 0) + (F2 0))) 1 ((F1 1) + (F2 1))))), (a5, .inl (cI, 12, .inl (upd (upd (fun _ => 0) 0 0) 0 1)))] H_4 := hP
  have hD : va_D A [(a0, .inr (2, [.int n, .ref a1, .ref a2, .ref a3, .ref a4, .ref a5, .ref a6, .ref a7, .ref a8, .ref a9, .ref a10, .ref a11])), (a2, .inl (cI, 24, .inl F1)), (a3, .inl (cI, 24, .inl F2)), (a4, .inl (cI, 1536, .inl (upd (upd F3 0 ((F1 0) + (F2 0))) 1 ((F1 1) + (F2 1))))), (a5, .inl (cI, 12, .inl (upd (upd (fun _ => 0) 0 0) 0 1)))] := hD
  have hP9 := hP.sub (ws' := []) [] rfl
  have hD9 := hD.sub (ws' := []) [] (by decide) rfl
  refine W.widen (k := 0) (n := 0) (Nat.le_of_ble_eq_true rfl) (Nat.le_of_ble_eq_true rfl) ?_
  exact W.vret hx hb hr (fun t ht hW => ⟨⟨(), rfl, trivial, by rw [ht]; exact hP9, hD9⟩, hS.F ht⟩) hS.2.2 d_PA_addState_89

set_option maxHeartbeats 4000000 in
set_option maxRecDepth 100000 in
theorem f_PA_add (l : Launch) (D : va_G) (cI cZ : ClassId) (a0 : Nat) (i : Int32) (j : Int32) (u : Int32) (v : Int32) (a1 : Nat) (a2 : Nat) (a3 : Nat) (a4 : Nat) (a5 : Nat) (a6 : Nat) (a7 : Nat) (a8 : Nat) (a9 : Nat) (a10 : Nat) (a11 : Nat) (sz : Nat)  : Met l ⟨"PromiseChains$Pairs", "add", "(IIII)I"⟩ (mw ⟨"PromiseChains$Pairs", "add", "(IIII)I"⟩ prog_2_method_3_code 6 (some .int)) ({ frames := 1, cells := 0, slots := 0, locals := 23 }) (va_Pc [.ref a0, .int i, .int j, .int u, .int v] (PB D cI cZ sz [(a0, .inr (2, [.int 0, .ref a1, .ref a2, .ref a3, .ref a4, .ref a5, .ref a6, .ref a7, .ref a8, .ref a9, .ref a10, .ref a11])), (a1, .inl (cI, 24, .inl (fun _ => 0))), (a2, .inl (cI, 24, .inl (fun _ => 0))), (a3, .inl (cI, 24, .inl (fun _ => 0))), (a4, .inl (cI, 1536, .inl (fun _ => 0))), (a5, .inl (cI, 12, .inl (fun _ => 0))), (a6, .inl (cI, 12, .inl (fun _ => 0))), (a10, .inl (cI, 12, .inl (fun _ => 0))), (a11, .inl (cI, 12, .inl (fun _ => 0)))])) (va_Qi (S := Unit) (fun (r : Int32) uU => r = 0) (fun uU tT => BB D (va_A [(a0, .inr (2, [.int 0, .ref a1, .ref a2, .ref a3, .ref a4, .ref a5, .ref a6, .ref a7, .ref a8, .ref a9, .ref a10, .ref a11])), (a1, .inl (cI, 24, .inl (fun _ => 0))), (a2, .inl (cI, 24, .inl (fun _ => 0))), (a3, .inl (cI, 24, .inl (fun _ => 0))), (a4, .inl (cI, 1536, .inl (fun _ => 0))), (a5, .inl (cI, 12, .inl (fun _ => 0))), (a6, .inl (cI, 12, .inl (fun _ => 0))), (a10, .inl (cI, 12, .inl (fun _ => 0))), (a11, .inl (cI, 12, .inl (fun _ => 0)))] sz) [] tT) (va_A [(a0, .inr (2, [.int 0, .ref a1, .ref a2, .ref a3, .ref a4, .ref a5, .ref a6, .ref a7, .ref a8, .ref a9, .ref a10, .ref a11])), (a1, .inl (cI, 24, .inl (fun _ => 0))), (a2, .inl (cI, 24, .inl (fun _ => 0))), (a3, .inl (cI, 24, .inl (fun _ => 0))), (a4, .inl (cI, 1536, .inl (fun _ => 0))), (a5, .inl (cI, 12, .inl (fun _ => 0))), (a6, .inl (cI, 12, .inl (fun _ => 0))), (a10, .inl (cI, 12, .inl (fun _ => 0))), (a11, .inl (cI, 12, .inl (fun _ => 0)))] sz)) 0 0 (va_A [(a0, .inr (2, [.int 0, .ref a1, .ref a2, .ref a3, .ref a4, .ref a5, .ref a6, .ref a7, .ref a8, .ref a9, .ref a10, .ref a11])), (a1, .inl (cI, 24, .inl (fun _ => 0))), (a2, .inl (cI, 24, .inl (fun _ => 0))), (a3, .inl (cI, 24, .inl (fun _ => 0))), (a4, .inl (cI, 1536, .inl (fun _ => 0))), (a5, .inl (cI, 12, .inl (fun _ => 0))), (a6, .inl (cI, 12, .inl (fun _ => 0))), (a10, .inl (cI, 12, .inl (fun _ => 0))), (a11, .inl (cI, 12, .inl (fun _ => 0)))] sz) := by
  refine Met.ofW (cc := prog_2_method_3_code) (maxL := 6) (ret := (some .int)) (by decide) rfl ?_
  intro p e s m args below meth c s₁ B hml hv
  obtain ⟨rfl, hsz, hP, hK, hD0, hN⟩ := hv
  have hx := B.exec
  have hb := B.bytes
  have hr := B.returns
  have hts0 := atoms_spec (ws := mw ⟨"PromiseChains$Pairs", "add", "(IIII)I"⟩ prog_2_method_3_code 6 (some .int)) B.pre
  have hts : ∀ w ∈ tblG, w.before _ s = true := fun w h => hts0 w (List.mem_cons_of_mem _ h)
  have hown : s.vm.findClass "PromiseChains$Pairs" = some m.cls := findClass_of_methodNamed B.named
  have hlocks := B.notSynchronized
  subst hsz
  have hD := hD0.self (sz := s.heap.size)
  generalize hAe : va_A [(a0, .inr (2, [.int 0, .ref a1, .ref a2, .ref a3, .ref a4, .ref a5, .ref a6, .ref a7, .ref a8, .ref a9, .ref a10, .ref a11])), (a1, .inl (cI, 24, .inl (fun _ => 0))), (a2, .inl (cI, 24, .inl (fun _ => 0))), (a3, .inl (cI, 24, .inl (fun _ => 0))), (a4, .inl (cI, 1536, .inl (fun _ => 0))), (a5, .inl (cI, 12, .inl (fun _ => 0))), (a6, .inl (cI, 12, .inl (fun _ => 0))), (a10, .inl (cI, 12, .inl (fun _ => 0))), (a11, .inl (cI, 12, .inl (fun _ => 0)))] s.heap.size = A at hD ⊢
  have hA : ∀ q : Nat, s.heap.size ≤ q → A q := fun q h => by rw [← hAe]; exact Or.inr h
  have hS : va_S A s.heap s.heap [] := va_S.rf
  have hP : va_P D vwCl [(a0, .inr (2, [.int 0, .ref a1, .ref a2, .ref a3, .ref a4, .ref a5, .ref a6, .ref a7, .ref a8, .ref a9, .ref a10, .ref a11])), (a1, .inl (cI, 24, .inl (fun _ => 0))), (a2, .inl (cI, 24, .inl (fun _ => 0))), (a3, .inl (cI, 24, .inl (fun _ => 0))), (a4, .inl (cI, 1536, .inl (fun _ => 0))), (a5, .inl (cI, 12, .inl (fun _ => 0))), (a6, .inl (cI, 12, .inl (fun _ => 0))), (a10, .inl (cI, 12, .inl (fun _ => 0))), (a11, .inl (cI, 12, .inl (fun _ => 0)))] s.heap := hP
  have hl := lv_entry ([.ref a0, .int i, .int j, .int u, .int v]) (n := 6) (Nat.le_of_ble_eq_true rfl)
  rw [lg_entry_eq]
  generalize (lg_sl ([.ref a0, .int i, .int j, .int u, .int v]) ++ List.replicate (6 - (lg_sl ([.ref a0, .int i, .int j, .int u, .int v])).length) Slot.unset).toArray = ls at hl ⊢
  have hl : lv_has ls 6 [(0, .ref a0), (1, .int i), (2, .int j), (3, .int u), (4, .int v)] := hl
  refine lv_aload_n hx hb d_PA_add_0 rfl (lv_at hl 0 rfl) ?_
  refine va_get (D := D) (ci := 2) (v := .int 0) (C := R_PA) (T := F_PA) (N := 12) hx hb hts i_PA hown hK hP 0 rfl rfl 0 (by decide) (hts _ q_56) (fun _ h9 => h9) rfl d_PA_add_1 ?_
  refine lv_istore (lv' := [(5, .int 0), (0, .ref a0), (1, .int i), (2, .int j), (3, .int u), (4, .int v)]) hx hb d_PA_add_4 hl (by decide) rfl (fun ls hl => ?_)
  refine lv_aload_n hx hb d_PA_add_6 rfl (lv_at hl 1 rfl) ?_
  refine lv_dup hx hb d_PA_add_7 rfl ?_
  refine va_get (D := D) (ci := 2) (v := .int 0) (C := R_PA) (T := F_PA) (N := 12) hx hb hts i_PA hown hK hP 0 rfl rfl 0 (by decide) (hts _ q_56) (fun _ h9 => h9) rfl d_PA_add_8 ?_
  refine lv_iconst (v := 1) hx hb d_PA_add_11 (by decide) ?_
  refine lv_iadd hx hb d_PA_add_12 ?_
  refine lv_seti (1) (by decide) ?_
  refine va_put (D := D) (ci := 2) (v := .int 1) (ty := .int) (C := R_PA) (T := F_PA) (N := 12) hx hb hts i_PA t_PA t_PA_ok n_PA hown hK hP hD hS 0 rfl rfl 0 (by decide) (hts _ q_56) (fun _ h9 => h9) rfl (by decide +kernel) rfl rfl (Nat.le_of_ble_eq_true rfl) d_PA_add_13 (fun H_1 locs hP hD hS => ?_)
  have hP : va_P D vwCl [(a0, .inr (2, [.int 1, .ref a1, .ref a2, .ref a3, .ref a4, .ref a5, .ref a6, .ref a7, .ref a8, .ref a9, .ref a10, .ref a11])), (a1, .inl (cI, 24, .inl (fun _ => 0))), (a2, .inl (cI, 24, .inl (fun _ => 0))), (a3, .inl (cI, 24, .inl (fun _ => 0))), (a4, .inl (cI, 1536, .inl (fun _ => 0))), (a5, .inl (cI, 12, .inl (fun _ => 0))), (a6, .inl (cI, 12, .inl (fun _ => 0))), (a10, .inl (cI, 12, .inl (fun _ => 0))), (a11, .inl (cI, 12, .inl (fun _ => 0)))] H_1 := hP
  have hD : va_D A [(a0, .inr (2, [.int 1, .ref a1, .ref a2, .ref a3, .ref a4, .ref a5, .ref a6, .ref a7, .ref a8, .ref a9, .ref a10, .ref a11])), (a1, .inl (cI, 24, .inl (fun _ => 0))), (a2, .inl (cI, 24, .inl (fun _ => 0))), (a3, .inl (cI, 24, .inl (fun _ => 0))), (a4, .inl (cI, 1536, .inl (fun _ => 0))), (a5, .inl (cI, 12, .inl (fun _ => 0))), (a6, .inl (cI, 12, .inl (fun _ => 0))), (a10, .inl (cI, 12, .inl (fun _ => 0))), (a11, .inl (cI, 12, .inl (fun _ => 0)))] := hD
  refine lv_aload_n hx hb d_PA_add_16 rfl (lv_at hl 1 rfl) ?_
  refine va_get (D := D) (ci := 2) (v := .ref a1) (C := R_PA) (T := F_PA) (N := 12) hx hb hts i_PA hown hK hP 0 rfl rfl 1 (by decide) (hts _ q_58) (fun _ h9 => h9) rfl d_PA_add_17 ?_
  refine lv_iconst (v := 2) hx hb d_PA_add_20 (by decide) ?_
  refine lv_iload hx hb d_PA_add_21 (lv_at hl 0 rfl) ?_
  refine lv_imul hx hb d_PA_add_23 ?_
  refine lv_seti (0) (by decide) ?_
  refine lv_iload_n hx hb d_PA_add_24 rfl (lv_at hl 2 rfl) ?_
  refine va_iast hx hb hK hP hD hS 1 0 rfl rfl (by unfold vp_in; decide) d_PA_add_25 (fun H_2 locs hP hD hS => ?_)
  have hP : va_P D vwCl [(a0, .inr (2, [.int 1, .ref a1, .ref a2, .ref a3, .ref a4, .ref a5, .ref a6, .ref a7, .ref a8, .ref a9, .ref a10, .ref a11])), (a1, .inl (cI, 24, .inl (upd (fun _ => 0) 0 i))), (a2, .inl (cI, 24, .inl (fun _ => 0))), (a3, .inl (cI, 24, .inl (fun _ => 0))), (a4, .inl (cI, 1536, .inl (fun _ => 0))), (a5, .inl (cI, 12, .inl (fun _ => 0))), (a6, .inl (cI, 12, .inl (fun _ => 0))), (a10, .inl (cI, 12, .inl (fun _ => 0))), (a11, .inl (cI, 12, .inl (fun _ => 0)))] H_2 := hP
  have hD : va_D A [(a0, .inr (2, [.int 1, .ref a1, .ref a2, .ref a3, .ref a4, .ref a5, .ref a6, .ref a7, .ref a8, .ref a9, .ref a10, .ref a11])), (a1, .inl (cI, 24, .inl (upd (fun _ => 0) 0 i))), (a2, .inl (cI, 24, .inl (fun _ => 0))), (a3, .inl (cI, 24, .inl (fun _ => 0))), (a4, .inl (cI, 1536, .inl (fun _ => 0))), (a5, .inl (cI, 12, .inl (fun _ => 0))), (a6, .inl (cI, 12, .inl (fun _ => 0))), (a10, .inl (cI, 12, .inl (fun _ => 0))), (a11, .inl (cI, 12, .inl (fun _ => 0)))] := hD
  refine lv_aload_n hx hb d_PA_add_26 rfl (lv_at hl 1 rfl) ?_
  refine va_get (D := D) (ci := 2) (v := .ref a1) (C := R_PA) (T := F_PA) (N := 12) hx hb hts i_PA hown hK hP 0 rfl rfl 1 (by decide) (hts _ q_58) (fun _ h9 => h9) rfl d_PA_add_27 ?_
  refine lv_iconst (v := 2) hx hb d_PA_add_30 (by decide) ?_
  refine lv_iload hx hb d_PA_add_31 (lv_at hl 0 rfl) ?_
  refine lv_imul hx hb d_PA_add_33 ?_
  refine lv_seti (0) (by decide) ?_
  refine lv_iconst (v := 1) hx hb d_PA_add_34 (by decide) ?_
  refine lv_iadd hx hb d_PA_add_35 ?_
  refine lv_seti (1) (by decide) ?_
  refine lv_iload_n hx hb d_PA_add_36 rfl (lv_at hl 3 rfl) ?_
  refine va_iast hx hb hK hP hD hS 1 0 rfl rfl (by unfold vp_in; decide) d_PA_add_37 (fun H_3 locs hP hD hS => ?_)
  have hP : va_P D vwCl [(a0, .inr (2, [.int 1, .ref a1, .ref a2, .ref a3, .ref a4, .ref a5, .ref a6, .ref a7, .ref a8, .ref a9, .ref a10, .ref a11])), (a1, .inl (cI, 24, .inl (upd (upd (fun _ => 0) 0 i) 1 j))), (a2, .inl (cI, 24, .inl (fun _ => 0))), (a3, .inl (cI, 24, .inl (fun _ => 0))), (a4, .inl (cI, 1536, .inl (fun _ => 0))), (a5, .inl (cI, 12, .inl (fun _ => 0))), (a6, .inl (cI, 12, .inl (fun _ => 0))), (a10, .inl (cI, 12, .inl (fun _ => 0))), (a11, .inl (cI, 12, .inl (fun _ => 0)))] H_3 := hP
  have hD : va_D A [(a0, .inr (2, [.int 1, .ref a1, .ref a2, .ref a3, .ref a4, .ref a5, .ref a6, .ref a7, .ref a8, .ref a9, .ref a10, .ref a11])), (a1, .inl (cI, 24, .inl (upd (upd (fun _ => 0) 0 i) 1 j))), (a2, .inl (cI, 24, .inl (fun _ => 0))), (a3, .inl (cI, 24, .inl (fun _ => 0))), (a4, .inl (cI, 1536, .inl (fun _ => 0))), (a5, .inl (cI, 12, .inl (fun _ => 0))), (a6, .inl (cI, 12, .inl (fun _ => 0))), (a10, .inl (cI, 12, .inl (fun _ => 0))), (a11, .inl (cI, 12, .inl (fun _ => 0)))] := hD
  refine lv_aload_n hx hb d_PA_add_38 rfl (lv_at hl 1 rfl) ?_
  refine va_get (D := D) (ci := 2) (v := .ref a3) (C := R_PA) (T := F_PA) (N := 12) hx hb hts i_PA hown hK hP 0 rfl rfl 3 (by decide) (hts _ q_64) (fun _ h9 => h9) rfl d_PA_add_39 ?_
  refine lv_iconst (v := 2) hx hb d_PA_add_42 (by decide) ?_
  refine lv_iload hx hb d_PA_add_43 (lv_at hl 0 rfl) ?_
  refine lv_imul hx hb d_PA_add_45 ?_
  refine lv_seti (0) (by decide) ?_
  refine lv_iconst (v := 0) hx hb d_PA_add_46 (by decide) ?_
  refine va_iast hx hb hK hP hD hS 3 0 rfl rfl (by unfold vp_in; decide) d_PA_add_47 (fun H_4 locs hP hD hS => ?_)
  have hP : va_P D vwCl [(a0, .inr (2, [.int 1, .ref a1, .ref a2, .ref a3, .ref a4, .ref a5, .ref a6, .ref a7, .ref a8, .ref a9, .ref a10, .ref a11])), (a1, .inl (cI, 24, .inl (upd (upd (fun _ => 0) 0 i) 1 j))), (a2, .inl (cI, 24, .inl (fun _ => 0))), (a3, .inl (cI, 24, .inl (upd (fun _ => 0) 0 0))), (a4, .inl (cI, 1536, .inl (fun _ => 0))), (a5, .inl (cI, 12, .inl (fun _ => 0))), (a6, .inl (cI, 12, .inl (fun _ => 0))), (a10, .inl (cI, 12, .inl (fun _ => 0))), (a11, .inl (cI, 12, .inl (fun _ => 0)))] H_4 := hP
  have hD : va_D A [(a0, .inr (2, [.int 1, .ref a1, .ref a2, .ref a3, .ref a4, .ref a5, .ref a6, .ref a7, .ref a8, .ref a9, .ref a10, .ref a11])), (a1, .inl (cI, 24, .inl (upd (upd (fun _ => 0) 0 i) 1 j))), (a2, .inl (cI, 24, .inl (fun _ => 0))), (a3, .inl (cI, 24, .inl (upd (fun _ => 0) 0 0))), (a4, .inl (cI, 1536, .inl (fun _ => 0))), (a5, .inl (cI, 12, .inl (fun _ => 0))), (a6, .inl (cI, 12, .inl (fun _ => 0))), (a10, .inl (cI, 12, .inl (fun _ => 0))), (a11, .inl (cI, 12, .inl (fun _ => 0)))] := hD
  refine lv_aload_n hx hb d_PA_add_48 rfl (lv_at hl 1 rfl) ?_
  refine va_get (D := D) (ci := 2) (v := .ref a3) (C := R_PA) (T := F_PA) (N := 12) hx hb hts i_PA hown hK hP 0 rfl rfl 3 (by decide) (hts _ q_64) (fun _ h9 => h9) rfl d_PA_add_49 ?_
  refine lv_iconst (v := 2) hx hb d_PA_add_52 (by decide) ?_
  refine lv_iload hx hb d_PA_add_53 (lv_at hl 0 rfl) ?_
  refine lv_imul hx hb d_PA_add_55 ?_
  refine lv_seti (0) (by decide) ?_
  refine lv_iconst (v := 1) hx hb d_PA_add_56 (by decide) ?_
  refine lv_iadd hx hb d_PA_add_57 ?_
  refine lv_seti (1) (by decide) ?_
  refine lv_iconst (v := 0) hx hb d_PA_add_58 (by decide) ?_
  refine va_iast hx hb hK hP hD hS 3 0 rfl rfl (by unfold vp_in; decide) d_PA_add_59 (fun H_5 locs hP hD hS => ?_)
  have hP : va_P D vwCl [(a0, .inr (2, [.int 1, .ref a1, .ref a2, .ref a3, .ref a4, .ref a5, .ref a6, .ref a7, .ref a8, .ref a9, .ref a10, .ref a11])), (a1, .inl (cI, 24, .inl (upd (upd (fun _ => 0) 0 i) 1 j))), (a2, .inl (cI, 24, .inl (fun _ => 0))), (a3, .inl (cI, 24, .inl (upd (upd (fun _ => 0) 0 0) 1 0))), (a4, .inl (cI, 1536, .inl (fun _ => 0))), (a5, .inl (cI, 12, .inl (fun _ => 0))), (a6, .inl (cI, 12, .inl (fun _ => 0))), (a10, .inl (cI, 12, .inl (fun _ => 0))), (a11, .inl (cI, 12, .inl (fun _ => 0)))] H_5 := hP
  have hD : va_D A [(a0, .inr (2, [.int 1, .ref a1, .ref a2, .ref a3, .ref a4, .ref a5, .ref a6, .ref a7, .ref a8, .ref a9, .ref a10, .ref a11])), (a1, .inl (cI, 24, .inl (upd (upd (fun _ => 0) 0 i) 1 j))), (a2, .inl (cI, 24, .inl (fun _ => 0))), (a3, .inl (cI, 24, .inl (upd (upd (fun _ => 0) 0 0) 1 0))), (a4, .inl (cI, 1536, .inl (fun _ => 0))), (a5, .inl (cI, 12, .inl (fun _ => 0))), (a6, .inl (cI, 12, .inl (fun _ => 0))), (a10, .inl (cI, 12, .inl (fun _ => 0))), (a11, .inl (cI, 12, .inl (fun _ => 0)))] := hD
  refine lv_aload_n hx hb d_PA_add_60 rfl (lv_at hl 1 rfl) ?_
  refine va_get (D := D) (ci := 2) (v := .ref a5) (C := R_PA) (T := F_PA) (N := 12) hx hb hts i_PA hown hK hP 0 rfl rfl 5 (by decide) (hts _ q_67) (fun _ h9 => h9) rfl d_PA_add_61 ?_
  refine lv_iload hx hb d_PA_add_64 (lv_at hl 0 rfl) ?_
  refine lv_iconst (v := 0) hx hb d_PA_add_66 (by decide) ?_
  refine va_iast hx hb hK hP hD hS 5 0 rfl rfl (by unfold vp_in; decide) d_PA_add_67 (fun H_6 locs hP hD hS => ?_)
  have hP : va_P D vwCl [(a0, .inr (2, [.int 1, .ref a1, .ref a2, .ref a3, .ref a4, .ref a5, .ref a6, .ref a7, .ref a8, .ref a9, .ref a10, .ref a11])), (a1, .inl (cI, 24, .inl (upd (upd (fun _ => 0) 0 i) 1 j))), (a2, .inl (cI, 24, .inl (fun _ => 0))), (a3, .inl (cI, 24, .inl (upd (upd (fun _ => 0) 0 0) 1 0))), (a4, .inl (cI, 1536, .inl (fun _ => 0))), (a5, .inl (cI, 12, .inl (upd (fun _ => 0) 0 0))), (a6, .inl (cI, 12, .inl (fun _ => 0))), (a10, .inl (cI, 12, .inl (fun _ => 0))), (a11, .inl (cI, 12, .inl (fun _ => 0)))] H_6 := hP
  have hD : va_D A [(a0, .inr (2, [.int 1, .ref a1, .ref a2, .ref a3, .ref a4, .ref a5, .ref a6, .ref a7, .ref a8, .ref a9, .ref a10, .ref a11])), (a1, .inl (cI, 24, .inl (upd (upd (fun _ => 0) 0 i) 1 j))), (a2, .inl (cI, 24, .inl (fun _ => 0))), (a3, .inl (cI, 24, .inl (upd (upd (fun _ => 0) 0 0) 1 0))), (a4, .inl (cI, 1536, .inl (fun _ => 0))), (a5, .inl (cI, 12, .inl (upd (fun _ => 0) 0 0))), (a6, .inl (cI, 12, .inl (fun _ => 0))), (a10, .inl (cI, 12, .inl (fun _ => 0))), (a11, .inl (cI, 12, .inl (fun _ => 0)))] := hD
  refine lv_aload_n hx hb d_PA_add_68 rfl (lv_at hl 1 rfl) ?_
  refine va_get (D := D) (ci := 2) (v := .ref a6) (C := R_PA) (T := F_PA) (N := 12) hx hb hts i_PA hown hK hP 0 rfl rfl 6 (by decide) (hts _ q_69) (fun _ h9 => h9) rfl d_PA_add_69 ?_
  refine lv_iload hx hb d_PA_add_72 (lv_at hl 0 rfl) ?_
  refine lv_iconst (v := 0) hx hb d_PA_add_74 (by decide) ?_
  refine va_iast hx hb hK hP hD hS 6 0 rfl rfl (by unfold vp_in; decide) d_PA_add_75 (fun H_7 locs hP hD hS => ?_)
  have hP : va_P D vwCl [(a0, .inr (2, [.int 1, .ref a1, .ref a2, .ref a3, .ref a4, .ref a5, .ref a6, .ref a7, .ref a8, .ref a9, .ref a10, .ref a11])), (a1, .inl (cI, 24, .inl (upd (upd (fun _ => 0) 0 i) 1 j))), (a2, .inl (cI, 24, .inl (fun _ => 0))), (a3, .inl (cI, 24, .inl (upd (upd (fun _ => 0) 0 0) 1 0))), (a4, .inl (cI, 1536, .inl (fun _ => 0))), (a5, .inl (cI, 12, .inl (upd (fun _ => 0) 0 0))), (a6, .inl (cI, 12, .inl (upd (fun _ => 0) 0 0))), (a10, .inl (cI, 12, .inl (fun _ => 0))), (a11, .inl (cI, 12, .inl (fun _ => 0)))] H_7 := hP
  have hD : va_D A [(a0, .inr (2, [.int 1, .ref a1, .ref a2, .ref a3, .ref a4, .ref a5, .ref a6, .ref a7, .ref a8, .ref a9, .ref a10, .ref a11])), (a1, .inl (cI, 24, .inl (upd (upd (fun _ => 0) 0 i) 1 j))), (a2, .inl (cI, 24, .inl (fun _ => 0))), (a3, .inl (cI, 24, .inl (upd (upd (fun _ => 0) 0 0) 1 0))), (a4, .inl (cI, 1536, .inl (fun _ => 0))), (a5, .inl (cI, 12, .inl (upd (fun _ => 0) 0 0))), (a6, .inl (cI, 12, .inl (upd (fun _ => 0) 0 0))), (a10, .inl (cI, 12, .inl (fun _ => 0))), (a11, .inl (cI, 12, .inl (fun _ => 0)))] := hD
  refine lv_aload_n hx hb d_PA_add_76 rfl (lv_at hl 1 rfl) ?_
  refine lv_iload hx hb d_PA_add_77 (lv_at hl 0 rfl) ?_
  refine lv_iload_n hx hb d_PA_add_79 rfl (lv_at hl 4 rfl) ?_
  refine lv_iload hx hb d_PA_add_80 (lv_at hl 5 rfl) ?_
  have hPc := hP.sub (ws' := [(a0, .inr (2, [.int 1, .ref a1, .ref a2, .ref a3, .ref a4, .ref a5, .ref a6, .ref a7, .ref a8, .ref a9, .ref a10, .ref a11])), (a2, .inl (cI, 24, .inl (fun _ => 0))), (a10, .inl (cI, 12, .inl (fun _ => 0))), (a11, .inl (cI, 12, .inl (fun _ => 0)))]) [0, 2, 7, 8] rfl
  have hDc := hD.sub (ws' := [(a0, .inr (2, [.int 1, .ref a1, .ref a2, .ref a3, .ref a4, .ref a5, .ref a6, .ref a7, .ref a8, .ref a9, .ref a10, .ref a11])), (a2, .inl (cI, 24, .inl (fun _ => 0))), (a10, .inl (cI, 12, .inl (fun _ => 0))), (a11, .inl (cI, 12, .inl (fun _ => 0)))]) [0, 2, 7, 8] (by decide) rfl
  have hFc := va_free (wc := [(a0, .inr (2, [.int 1, .ref a1, .ref a2, .ref a3, .ref a4, .ref a5, .ref a6, .ref a7, .ref a8, .ref a9, .ref a10, .ref a11])), (a2, .inl (cI, 24, .inl (fun _ => 0))), (a10, .inl (cI, 12, .inl (fun _ => 0))), (a11, .inl (cI, 12, .inl (fun _ => 0)))]) hD hS hA [0, 2, 7, 8] rfl
  refine va_callv (va_runV (As := [.int 0, .int u, .int v]) (rest := []) ⟨hx, hb, hml, hown, hts⟩ (f_PA_setSides l D cI cZ a0 u v 1 a1 a2 a3 a4 a5 a6 a7 a8 a9 a10 a11 (fun _ => 0) (fun _ => 0) (fun _ => 0) H_7.size ) (my_cwV 3 hts q_312 q_309 q_310 q_311 q_3 rfl rfl (by decide +kernel) ⟨Nat.le_of_ble_eq_true rfl, Nat.le_of_ble_eq_true rfl⟩) (my_preV hPc hDc hK hN 2 0 rfl rfl) rfl rfl hl.1 rfl (lv_room (Nat.le_of_ble_eq_true rfl)) d_PA_add_82 ⟨Nat.le_of_ble_eq_true rfl, Nat.le_of_ble_eq_true rfl⟩) hS (fun q _ h => hFc q h) hFc (fun uU tT H_9 locs ht hvm hw_8 hB hz1 hk1 hS => ?_)
  obtain ⟨hP1, hD1⟩ := hB
  rw [ht] at hP1
  obtain ⟨hP, hD⟩ := va_join (wr := [(a1, .inl (cI, 24, .inl (upd (upd (fun _ => 0) 0 i) 1 j))), (a3, .inl (cI, 24, .inl (upd (upd (fun _ => 0) 0 0) 1 0))), (a4, .inl (cI, 1536, .inl (fun _ => 0))), (a5, .inl (cI, 12, .inl (upd (fun _ => 0) 0 0))), (a6, .inl (cI, 12, .inl (upd (fun _ => 0) 0 0)))]) (w1 := [(a0, .inr (2, [.int 1, .ref a1, .ref a2, .ref a3, .ref a4, .ref a5, .ref a6, .ref a7, .ref a8, .ref a9, .ref a10, .ref a11])), (a2, .inl (cI, 24, .inl (upd (upd (fun _ => 0) 0 u) 1 v))), (a10, .inl (cI, 12, .inl (upd (fun _ => 0) 0 0))), (a11, .inl (cI, 12, .inl (upd (fun _ => 0) 0 (u + v))))]) hP hD [0, 2, 7, 8] [1, 3, 4, 5, 6] rfl rfl (by decide) (by decide) hk1 hFc hP1 hD1
  have hP : va_P D vwCl [(a1, .inl (cI, 24, .inl (upd (upd (fun _ => 0) 0 i) 1 j))), (a3, .inl (cI, 24, .inl (upd (upd (fun _ => 0) 0 0) 1 0))), (a4, .inl (cI, 1536, .inl (fun _ => 0))), (a5, .inl (cI, 12, .inl (upd (fun _ => 0) 0 0))), (a6, .inl (cI, 12, .inl (upd (fun _ => 0) 0 0))), (a0, .inr (2, [.int 1, .ref a1, .ref a2, .ref a3, .ref a4, .ref a5, .ref a6, .ref a7, .ref a8, .ref a9, .ref a10, .ref a11])), (a2, .inl (cI, 24, .inl (upd (upd (fun _ => 0) 0 u) 1 v))), (a10, .inl (cI, 12, .inl (upd (fun _ => 0) 0 0))), (a11, .inl (cI, 12, .inl (upd (fun _ => 0) 0 (u + v))))] H_9 := hP
  have hD : va_D A [(a1, .inl (cI, 24, .inl (upd (upd (fun _ => 0) 0 i) 1 j))), (a3, .inl (cI, 24, .inl (upd (upd (fun _ => 0) 0 0) 1 0))), (a4, .inl (cI, 1536, .inl (fun _ => 0))), (a5, .inl (cI, 12, .inl (upd (fun _ => 0) 0 0))), (a6, .inl (cI, 12, .inl (upd (fun _ => 0) 0 0))), (a0, .inr (2, [.int 1, .ref a1, .ref a2, .ref a3, .ref a4, .ref a5, .ref a6, .ref a7, .ref a8, .ref a9, .ref a10, .ref a11])), (a2, .inl (cI, 24, .inl (upd (upd (fun _ => 0) 0 u) 1 v))), (a10, .inl (cI, 12, .inl (upd (fun _ => 0) 0 0))), (a11, .inl (cI, 12, .inl (upd (fun _ => 0) 0 (u + v))))] := hD
  refine lv_aload_n hx hb d_PA_add_85 rfl (lv_at hl 1 rfl) ?_
  refine lv_iload hx hb d_PA_add_86 (lv_at hl 0 rfl) ?_
  have hPc := hP.sub (ws' := [(a0, .inr (2, [.int 1, .ref a1, .ref a2, .ref a3, .ref a4, .ref a5, .ref a6, .ref a7, .ref a8, .ref a9, .ref a10, .ref a11])), (a2, .inl (cI, 24, .inl (upd (upd (fun _ => 0) 0 u) 1 v))), (a3, .inl (cI, 24, .inl (upd (upd (fun _ => 0) 0 0) 1 0))), (a4, .inl (cI, 1536, .inl (fun _ => 0))), (a5, .inl (cI, 12, .inl (upd (fun _ => 0) 0 0)))]) [5, 6, 1, 2, 3] rfl
  have hDc := hD.sub (ws' := [(a0, .inr (2, [.int 1, .ref a1, .ref a2, .ref a3, .ref a4, .ref a5, .ref a6, .ref a7, .ref a8, .ref a9, .ref a10, .ref a11])), (a2, .inl (cI, 24, .inl (upd (upd (fun _ => 0) 0 u) 1 v))), (a3, .inl (cI, 24, .inl (upd (upd (fun _ => 0) 0 0) 1 0))), (a4, .inl (cI, 1536, .inl (fun _ => 0))), (a5, .inl (cI, 12, .inl (upd (fun _ => 0) 0 0)))]) [5, 6, 1, 2, 3] (by decide) rfl
  have hFc := va_free (wc := [(a0, .inr (2, [.int 1, .ref a1, .ref a2, .ref a3, .ref a4, .ref a5, .ref a6, .ref a7, .ref a8, .ref a9, .ref a10, .ref a11])), (a2, .inl (cI, 24, .inl (upd (upd (fun _ => 0) 0 u) 1 v))), (a3, .inl (cI, 24, .inl (upd (upd (fun _ => 0) 0 0) 1 0))), (a4, .inl (cI, 1536, .inl (fun _ => 0))), (a5, .inl (cI, 12, .inl (upd (fun _ => 0) 0 0)))]) hD hS hA [5, 6, 1, 2, 3] rfl
  refine va_callv (va_runV (As := [.int 0]) (rest := []) ⟨hx, hb, hml, hown, hts⟩ (f_PA_addState l D cI cZ a0 1 a1 a2 a3 a4 a5 a6 a7 a8 a9 a10 a11 (upd (upd (fun _ => 0) 0 u) 1 v) (upd (upd (fun _ => 0) 0 0) 1 0) (fun _ => 0) H_9.size ) (my_cwV 1 hts q_316 q_313 q_314 q_315 q_3 rfl rfl (by decide +kernel) ⟨Nat.le_of_ble_eq_true rfl, Nat.le_of_ble_eq_true rfl⟩) (my_preV hPc hDc hK hN 2 0 rfl rfl) rfl rfl hl.1 rfl (lv_room (Nat.le_of_ble_eq_true rfl)) d_PA_add_88 ⟨Nat.le_of_ble_eq_true rfl, Nat.le_of_ble_eq_true rfl⟩) hS (fun q _ h => hFc q h) hFc (fun uU tT H_11 locs ht hvm hw_10 hB hz1 hk1 hS => ?_)
  obtain ⟨hP1, hD1⟩ := hB
  rw [ht] at hP1
  obtain ⟨hP, hD⟩ := va_join (wr := [(a1, .inl (cI, 24, .inl (upd (upd (fun _ => 0) 0 i) 1 j))), (a6, .inl (cI, 12, .inl (upd (fun _ => 0) 0 0))), (a10, .inl (cI, 12, .inl (upd (fun _ => 0) 0 0))), (a11, .inl (cI, 12, .inl (upd (fun _ => 0) 0 (u + v))))]) (w1 := []) hP hD [5, 6, 1, 2, 3] [0, 4, 7, 8] rfl rfl (by decide) (by decide) hk1 hFc hP1 hD1
  have hP : va_P D vwCl [(a1, .inl (cI, 24, .inl (upd (upd (fun _ => 0) 0 i) 1 j))), (a6, .inl (cI, 12, .inl (upd (fun _ => 0) 0 0))), (a10, .inl (cI, 12, .inl (upd (fun _ => 0) 0 0))), (a11, .inl (cI, 12, .inl (upd (fun _ => 0) 0 (u + v))))] H_11 := hP
  have hD : va_D A [(a1, .inl (cI, 24, .inl (upd (upd (fun _ => 0) 0 i) 1 j))), (a6, .inl (cI, 12, .inl (upd (fun _ => 0) 0 0))), (a10, .inl (cI, 12, .inl (upd (fun _ => 0) 0 0))), (a11, .inl (cI, 12, .inl (upd (fun _ => 0) 0 (u + v))))] := hD
  refine lv_iload hx hb d_PA_add_91 (lv_at hl 0 rfl) ?_
  have hP9 := hP.sub (ws' := []) [] rfl
  have hD9 := hD.sub (ws' := []) [] (by decide) rfl
  refine W.widen (k := 0) (n := 0) (Nat.le_of_ble_eq_true rfl) (Nat.le_of_ble_eq_true rfl) ?_
  exact W.iret (v := 0) hx hb hr (fun t ht hW => ⟨⟨0, (), rfl, rfl, by rw [ht]; exact hP9, hD9⟩, hS.F ht⟩) hS.2.2 d_PA_add_93

set_option maxHeartbeats 4000000 in
set_option maxRecDepth 100000 in
theorem c_WS_begin (l : Launch) (D : va_G) (cI cZ : ClassId) (w0 : Nat) (i : Int32) (j : Int32) (z0 : Int32) (z1 : Int32) (w1 : Nat) (w2 : Nat) (w5 : Nat) (w8 : Nat) (F1 : Nat → Int32) (z2 : Int32) (w9 : Nat) (w10 : Nat) (sz : Nat)  : Met l ⟨"PromiseChains$WaySearch", "begin", "(II)V"⟩ (mw ⟨"PromiseChains$WaySearch", "begin", "(II)V"⟩ prog_7_method_2_code 4 none) ({ frames := 0, cells := 0, slots := 0, locals := 0 }) (va_Pc [.ref w0, .int i, .int j] (PB D cI cZ sz [(w0, .inr (4, [.int z0, .int z1, .ref w1, .ref w2, .ref w5, .ref w8])), (w1, .inl (cZ, 7, .inl F1)), (w8, .inr (6, [.int z2, .ref w9, .ref w10]))])) (va_Qv (S := (Nat → Int32)) (fun uU => True) (fun uU tT => BB D (va_A [(w0, .inr (4, [.int z0, .int z1, .ref w1, .ref w2, .ref w5, .ref w8])), (w1, .inl (cZ, 7, .inl F1)), (w8, .inr (6, [.int z2, .ref w9, .ref w10]))] sz) [(w0, .inr (4, [.int i, .int z1, .ref w1, .ref w2, .ref w5, .ref w8])), (w1, .inl (cZ, 7, .inl uU)), (w8, .inr (6, [.int 0, .ref w9, .ref w10]))] tT) (va_A [(w0, .inr (4, [.int z0, .int z1, .ref w1, .ref w2, .ref w5, .ref w8])), (w1, .inl (cZ, 7, .inl F1)), (w8, .inr (6, [.int z2, .ref w9, .ref w10]))] sz)) 0 0 (va_A [(w0, .inr (4, [.int z0, .int z1, .ref w1, .ref w2, .ref w5, .ref w8])), (w1, .inl (cZ, 7, .inl F1)), (w8, .inr (6, [.int z2, .ref w9, .ref w10]))] sz) := by
  refine Met.ofW (cc := prog_7_method_2_code) (maxL := 4) (ret := none) (by decide) rfl ?_
  intro p e s m args below meth c s₁ B hml hv
  obtain ⟨rfl, hsz, hP, hK, hD0, hN⟩ := hv
  have hx := B.exec
  have hb := B.bytes
  have hr := B.returns
  have hts0 := atoms_spec (ws := mw ⟨"PromiseChains$WaySearch", "begin", "(II)V"⟩ prog_7_method_2_code 4 none) B.pre
  have hts : ∀ w ∈ tblG, w.before _ s = true := fun w h => hts0 w (List.mem_cons_of_mem _ h)
  have hown : s.vm.findClass "PromiseChains$WaySearch" = some m.cls := findClass_of_methodNamed B.named
  have hlocks := B.notSynchronized
  subst hsz
  have hD := hD0.self (sz := s.heap.size)
  generalize hAe : va_A [(w0, .inr (4, [.int z0, .int z1, .ref w1, .ref w2, .ref w5, .ref w8])), (w1, .inl (cZ, 7, .inl F1)), (w8, .inr (6, [.int z2, .ref w9, .ref w10]))] s.heap.size = A at hD ⊢
  have hA : ∀ q : Nat, s.heap.size ≤ q → A q := fun q h => by rw [← hAe]; exact Or.inr h
  have hS : va_S A s.heap s.heap [] := va_S.rf
  have hP : va_P D vwCl [(w0, .inr (4, [.int z0, .int z1, .ref w1, .ref w2, .ref w5, .ref w8])), (w1, .inl (cZ, 7, .inl F1)), (w8, .inr (6, [.int z2, .ref w9, .ref w10]))] s.heap := hP
  have hl := lv_entry ([.ref w0, .int i, .int j]) (n := 4) (Nat.le_of_ble_eq_true rfl)
  rw [lg_entry_eq]
  generalize (lg_sl ([.ref w0, .int i, .int j]) ++ List.replicate (4 - (lg_sl ([.ref w0, .int i, .int j])).length) Slot.unset).toArray = ls at hl ⊢
  have hl : lv_has ls 4 [(0, .ref w0), (1, .int i), (2, .int j)] := hl
  refine lv_aload_n hx hb d_WS_begin_0 rfl (lv_at hl 0 rfl) ?_
  refine lv_iload_n hx hb d_WS_begin_1 rfl (lv_at hl 1 rfl) ?_
  refine va_put (D := D) (ci := 4) (v := .int i) (ty := .int) (C := R_WS) (T := F_WS) (N := 6) hx hb hts i_WS t_WS t_WS_ok n_WS hown hK hP hD hS 0 rfl rfl 0 (by decide) (hts _ q_190) (fun _ h9 => h9) rfl (by decide +kernel) rfl rfl (Nat.le_of_ble_eq_true rfl) d_WS_begin_2 (fun H_1 locs hP hD hS => ?_)
  have hP : va_P D vwCl [(w0, .inr (4, [.int i, .int z1, .ref w1, .ref w2, .ref w5, .ref w8])), (w1, .inl (cZ, 7, .inl F1)), (w8, .inr (6, [.int z2, .ref w9, .ref w10]))] H_1 := hP
  have hD : va_D A [(w0, .inr (4, [.int i, .int z1, .ref w1, .ref w2, .ref w5, .ref w8])), (w1, .inl (cZ, 7, .inl F1)), (w8, .inr (6, [.int z2, .ref w9, .ref w10]))] := hD
  refine lv_aload_n hx hb d_WS_begin_5 rfl (lv_at hl 0 rfl) ?_
  refine va_get (D := D) (ci := 4) (v := .ref w8) (C := R_WS) (T := F_WS) (N := 6) hx hb hts i_WS hown hK hP 0 rfl rfl 5 (by decide) (hts _ q_199) (fun _ h9 => h9) rfl d_WS_begin_6 ?_
  refine lv_iconst (v := 0) hx hb d_WS_begin_9 (by decide) ?_
  refine va_put (D := D) (ci := 6) (v := .int 0) (ty := .int) (C := R_RO) (T := F_RO) (N := 3) hx hb hts i_RO t_RO t_RO_ok n_RO hown hK hP hD hS 2 rfl rfl 0 (by decide) (hts _ q_172) (fun _ h9 => h9) rfl (by decide +kernel) rfl rfl (Nat.le_of_ble_eq_true rfl) d_WS_begin_10 (fun H_2 locs hP hD hS => ?_)
  have hP : va_P D vwCl [(w0, .inr (4, [.int i, .int z1, .ref w1, .ref w2, .ref w5, .ref w8])), (w1, .inl (cZ, 7, .inl F1)), (w8, .inr (6, [.int 0, .ref w9, .ref w10]))] H_2 := hP
  have hD : va_D A [(w0, .inr (4, [.int i, .int z1, .ref w1, .ref w2, .ref w5, .ref w8])), (w1, .inl (cZ, 7, .inl F1)), (w8, .inr (6, [.int 0, .ref w9, .ref w10]))] := hD
  refine lv_iconst (v := 0) hx hb d_WS_begin_13 (by decide) ?_
  refine lv_istore_n (lv' := [(3, .int 0), (0, .ref w0), (1, .int i), (2, .int j)]) hx hb d_WS_begin_14 rfl hl (by decide) rfl (fun ls hl => ?_)
  refine W_loop (σ := Nat × (Nat → Int32)) (I := fun xX H locs ls => xX.1 ≤ 7 ∧ va_P D vwCl [(w0, .inr (4, [.int i, .int z1, .ref w1, .ref w2, .ref w5, .ref w8])), (w1, .inl (cZ, 7, .inl xX.2)), (w8, .inr (6, [.int 0, .ref w9, .ref w10]))] H ∧ va_D A [(w0, .inr (4, [.int i, .int z1, .ref w1, .ref w2, .ref w5, .ref w8])), (w1, .inl (cZ, 7, .inl xX.2)), (w8, .inr (6, [.int 0, .ref w9, .ref w10]))] ∧ va_S A s.heap H locs ∧ lv_has ls 4 [(3, .int (nI xX.1)), (0, .ref w0), (1, .int i), (2, .int j)]) (μ := fun xX => 8 - xX.1) ?_ (0, F1) ⟨(Nat.zero_le 7), hP, hD, hS, lv_sub hl [0, 1, 2, 3] rfl⟩
  intro xX H_3 locs ls hI ih
  obtain ⟨k, G⟩ := xX
  obtain ⟨hi, hP, hD, hS, hl⟩ := hI
  have hP : va_P D vwCl [(w0, .inr (4, [.int i, .int z1, .ref w1, .ref w2, .ref w5, .ref w8])), (w1, .inl (cZ, 7, .inl G)), (w8, .inr (6, [.int 0, .ref w9, .ref w10]))] H_3 := hP
  have hD : va_D A [(w0, .inr (4, [.int i, .int z1, .ref w1, .ref w2, .ref w5, .ref w8])), (w1, .inl (cZ, 7, .inl G)), (w8, .inr (6, [.int 0, .ref w9, .ref w10]))] := hD
  have hl : lv_has ls 4 [(3, .int (nI k)), (0, .ref w0), (1, .int i), (2, .int j)] := hl
  have hi : k ≤ 7 := hi
  refine lv_iload_n hx hb d_WS_begin_15 rfl (lv_at hl 0 rfl) ?_
  refine lv_bipush (v := 7) hx hb d_WS_begin_16 (by decide) ?_
  refine lv_icmp_ge (tgt := 43) hx hb d_WS_begin_18 (by decide) (fun h_4 => ?_) (fun h_4 => ?_)
  · have nh_4 : 7 ≤ k := (nI_leI (a := 7) (b := k) (by omega) (by omega)).mp h_4
    have hP9 := hP.sub (ws' := [(w0, .inr (4, [.int i, .int z1, .ref w1, .ref w2, .ref w5, .ref w8])), (w1, .inl (cZ, 7, .inl G)), (w8, .inr (6, [.int 0, .ref w9, .ref w10]))]) [0, 1, 2] rfl
    have hD9 := hD.sub (ws' := [(w0, .inr (4, [.int i, .int z1, .ref w1, .ref w2, .ref w5, .ref w8])), (w1, .inl (cZ, 7, .inl G)), (w8, .inr (6, [.int 0, .ref w9, .ref w10]))]) [0, 1, 2] (by decide) rfl
    refine W.widen (k := 0) (n := 0) (Nat.le_of_ble_eq_true rfl) (Nat.le_of_ble_eq_true rfl) ?_
    exact W.vret hx hb hr (fun t ht hW => ⟨⟨G, rfl, trivial, by rw [ht]; exact hP9, hD9⟩, hS.F ht⟩) hS.2.2 d_WS_begin_43
  · have nh_4 : ¬ 7 ≤ k := fun q => h_4 ((nI_leI (a := 7) (b := k) (by omega) (by omega)).mpr q)
    refine lv_aload_n hx hb d_WS_begin_21 rfl (lv_at hl 1 rfl) ?_
    refine va_get (D := D) (ci := 4) (v := .ref w1) (C := R_WS) (T := F_WS) (N := 6) hx hb hts i_WS hown hK hP 0 rfl rfl 2 (by decide) (hts _ q_194) (fun _ h9 => h9) rfl d_WS_begin_22 ?_
    refine lv_iload_n hx hb d_WS_begin_25 rfl (lv_at hl 0 rfl) ?_
    refine lv_iload_n hx hb d_WS_begin_26 rfl (lv_at hl 0 rfl) ?_
    refine lv_iload_n hx hb d_WS_begin_27 rfl (lv_at hl 3 rfl) ?_
    refine lv_icmp_ne (tgt := 35) hx hb d_WS_begin_28 (by decide) (fun h_5 => ?_) (fun h_5 => ?_)
    · refine lv_iconst (v := 0) hx hb d_WS_begin_35 (by decide) ?_
      refine va_zast hx hb hK hP hD hS 1 1 rfl rfl (vp_in_nI (by omega) (by decide)) d_WS_begin_36 (fun H_6 locs hP hD hS => ?_)
      have hP : va_P D vwCl [(w0, .inr (4, [.int i, .int z1, .ref w1, .ref w2, .ref w5, .ref w8])), (w1, .inl (cZ, 7, .inl (upd G (nI k).toNatClampNeg 0))), (w8, .inr (6, [.int 0, .ref w9, .ref w10]))] H_6 := hP
      have hD : va_D A [(w0, .inr (4, [.int i, .int z1, .ref w1, .ref w2, .ref w5, .ref w8])), (w1, .inl (cZ, 7, .inl (upd G (nI k).toNatClampNeg 0))), (w8, .inr (6, [.int 0, .ref w9, .ref w10]))] := hD
      refine lv_iinc (v := nI (k + 1)) (lv' := [(3, .int (nI (k + 1))), (0, .ref w0), (1, .int i), (2, .int j)]) hx hb d_WS_begin_37 hl (k := 0) rfl (nI_1 k) (by decide) rfl (fun ls hl => ?_)
      refine lv_goto (tgt := 15) hx hb d_WS_begin_40 (by decide) ?_
      exact ih ((k + 1), (upd G (nI k).toNatClampNeg 0)) _ _ _ (by first | omega | (dsimp only; omega)) ⟨(by first | omega | (dsimp only; omega)), hP, hD, hS, lv_sub hl [0, 1, 2, 3] rfl⟩
    · refine lv_iconst (v := 1) hx hb d_WS_begin_31 (by decide) ?_
      refine lv_goto (tgt := 36) hx hb d_WS_begin_32 (by decide) ?_
      refine va_zast hx hb hK hP hD hS 1 1 rfl rfl (vp_in_nI (by omega) (by decide)) d_WS_begin_36 (fun H_7 locs hP hD hS => ?_)
      have hP : va_P D vwCl [(w0, .inr (4, [.int i, .int z1, .ref w1, .ref w2, .ref w5, .ref w8])), (w1, .inl (cZ, 7, .inl (upd G (nI k).toNatClampNeg 1))), (w8, .inr (6, [.int 0, .ref w9, .ref w10]))] H_7 := hP
      have hD : va_D A [(w0, .inr (4, [.int i, .int z1, .ref w1, .ref w2, .ref w5, .ref w8])), (w1, .inl (cZ, 7, .inl (upd G (nI k).toNatClampNeg 1))), (w8, .inr (6, [.int 0, .ref w9, .ref w10]))] := hD
      refine lv_iinc (v := nI (k + 1)) (lv' := [(3, .int (nI (k + 1))), (0, .ref w0), (1, .int i), (2, .int j)]) hx hb d_WS_begin_37 hl (k := 0) rfl (nI_1 k) (by decide) rfl (fun ls hl => ?_)
      refine lv_goto (tgt := 15) hx hb d_WS_begin_40 (by decide) ?_
      exact ih ((k + 1), (upd G (nI k).toNatClampNeg 1)) _ _ _ (by first | omega | (dsimp only; omega)) ⟨(by first | omega | (dsimp only; omega)), hP, hD, hS, lv_sub hl [0, 1, 2, 3] rfl⟩

set_option maxHeartbeats 4000000 in
set_option maxRecDepth 100000 in
theorem f_PC_searchWays (l : Launch) (D : va_G) (cI cZ : ClassId) (w0 : Nat) (f0 : Nat) (a0 : Nat) (i : Int32) (v : Int32) (a1 : Nat) (a2 : Nat) (a3 : Nat) (a4 : Nat) (a5 : Nat) (a6 : Nat) (a7 : Nat) (a8 : Nat) (a9 : Nat) (a10 : Nat) (a11 : Nat) (sz : Nat)  : Met l ⟨"PromiseChains", "searchWays", "(LPromiseChains$WaySearch;LPromiseChains$People;LPromiseChains$Pairs;III)V"⟩ (mw ⟨"PromiseChains", "searchWays", "(LPromiseChains$WaySearch;LPromiseChains$People;LPromiseChains$Pairs;III)V"⟩ prog_1_method_31_code 9 none) ({ frames := 0, cells := 0, slots := 0, locals := 0 }) (va_Pc [.ref w0, .ref f0, .ref a0, .int i, .int v, .int 0] (PB D cI cZ sz [(a0, .inr (2, [.int 0, .ref a1, .ref a2, .ref a3, .ref a4, .ref a5, .ref a6, .ref a7, .ref a8, .ref a9, .ref a10, .ref a11]))])) (va_Sv (fun _ => True)) 0 0 (fun _ => False) := by
  refine Met.ofW (cc := prog_1_method_31_code) (maxL := 9) (ret := none) (by decide) rfl ?_
  intro p e s m args below meth c s₁ B hml hv
  obtain ⟨rfl, hsz, hP, hK, hD0, hN⟩ := hv
  have hx := B.exec
  have hb := B.bytes
  have hr := B.returns
  have hts0 := atoms_spec (ws := mw ⟨"PromiseChains", "searchWays", "(LPromiseChains$WaySearch;LPromiseChains$People;LPromiseChains$Pairs;III)V"⟩ prog_1_method_31_code 9 none) B.pre
  have hts : ∀ w ∈ tblG, w.before _ s = true := fun w h => hts0 w (List.mem_cons_of_mem _ h)
  have hown : s.vm.findClass "PromiseChains" = some m.cls := findClass_of_methodNamed B.named
  have hlocks := B.notSynchronized
  subst hsz
  have hD := hD0
  have hP : va_P D vwCl [(a0, .inr (2, [.int 0, .ref a1, .ref a2, .ref a3, .ref a4, .ref a5, .ref a6, .ref a7, .ref a8, .ref a9, .ref a10, .ref a11]))] s.heap := hP
  have hl := lv_entry ([.ref w0, .ref f0, .ref a0, .int i, .int v, .int 0]) (n := 9) (Nat.le_of_ble_eq_true rfl)
  rw [lg_entry_eq]
  generalize (lg_sl ([.ref w0, .ref f0, .ref a0, .int i, .int v, .int 0]) ++ List.replicate (9 - (lg_sl ([.ref w0, .ref f0, .ref a0, .int i, .int v, .int 0])).length) Slot.unset).toArray = ls at hl ⊢
  have hl : lv_has ls 9 [(0, .ref w0), (1, .ref f0), (2, .ref a0), (3, .int i), (4, .int v), (5, .int 0)] := hl
  refine lv_iload hx hb d_PC_searchWays_0 (lv_at hl 5 rfl) ?_
  refine lv_bipush (v := 6) hx hb d_PC_searchWays_2 (by decide) ?_
  refine lv_icmp_lt (tgt := 8) hx hb d_PC_searchWays_4 (by decide) (fun _ => ?_) (fun h => absurd h (by decide))
  refine lv_iconst (v := 0) hx hb d_PC_searchWays_8 (by decide) ?_
  refine lv_istore (lv' := [(6, .int 0), (0, .ref w0), (1, .ref f0), (2, .ref a0), (3, .int i), (4, .int v), (5, .int 0)]) hx hb d_PC_searchWays_9 hl (by decide) rfl (fun ls hl => ?_)
  refine lv_iload hx hb d_PC_searchWays_11 (lv_at hl 0 rfl) ?_
  refine lv_aload_n hx hb d_PC_searchWays_13 rfl (lv_at hl 3 rfl) ?_
  refine va_get (D := D) (ci := 2) (v := .int 0) (C := R_PA) (T := F_PA) (N := 12) hx hb hts i_PA hown hK hP 0 rfl rfl 0 (by decide) (hts _ q_57) (fun _ h9 => h9) rfl d_PC_searchWays_14 ?_
  refine lv_icmp_ge (tgt := 175) hx hb d_PC_searchWays_17 (by decide) (fun _ => ?_) (fun h => absurd h (by decide))
  exact W.vret hx hb hr (fun t ht hW => ⟨rfl, trivial, ht⟩) (fun q h => absurd h List.not_mem_nil) d_PC_searchWays_175

set_option maxHeartbeats 4000000 in
set_option maxRecDepth 100000 in
theorem f_PC_mayAskWay (l : Launch) (D : va_G) (cI cZ : ClassId) (x : Nat) (i : Int32) (j : Int32) (v : Int32) (f0 : Nat) (a0 : Nat) (r0 : Nat) (w0 : Nat) (g0 : Nat) (k0 : Nat) (f1 : Nat) (f2 : Nat) (f3 : Nat) (f4 : Nat) (sz : Nat)  : Met l ⟨"PromiseChains", "mayAskWay", "(III)Z"⟩ (mw ⟨"PromiseChains", "mayAskWay", "(III)Z"⟩ prog_1_method_29_code 4 (some .boolean)) ({ frames := 2, cells := 0, slots := 0, locals := 43 }) (va_Pc [.ref x, .int i, .int j, .int v] (PB D cI cZ sz [(x, .inr (0, [.ref f0, .ref a0, .ref r0, .ref w0, .ref g0, .ref k0, .int 0, .int 3, .int 5])), (f0, .inr (1, [.int 2, .ref f1, .ref f2, .ref f3, .ref f4]))])) (vp_Si (fun r => r = maw i j v)) 0 0 (fun _ => False) := by
  refine Met.ofW (cc := prog_1_method_29_code) (maxL := 4) (ret := (some .boolean)) (by decide) rfl ?_
  intro p e s m args below meth c s₁ B hml hv
  obtain ⟨rfl, hsz, hP, hK, hD0, hN⟩ := hv
  have hx := B.exec
  have hb := B.bytes
  have hr := B.returns
  have hts0 := atoms_spec (ws := mw ⟨"PromiseChains", "mayAskWay", "(III)Z"⟩ prog_1_method_29_code 4 (some .boolean)) B.pre
  have hts : ∀ w ∈ tblG, w.before _ s = true := fun w h => hts0 w (List.mem_cons_of_mem _ h)
  have hown : s.vm.findClass "PromiseChains" = some m.cls := findClass_of_methodNamed B.named
  have hlocks := B.notSynchronized
  subst hsz
  have hD := hD0
  have hP : va_P D vwCl [(x, .inr (0, [.ref f0, .ref a0, .ref r0, .ref w0, .ref g0, .ref k0, .int 0, .int 3, .int 5])), (f0, .inr (1, [.int 2, .ref f1, .ref f2, .ref f3, .ref f4]))] s.heap := hP
  have hl := lv_entry ([.ref x, .int i, .int j, .int v]) (n := 4) (Nat.le_of_ble_eq_true rfl)
  rw [lg_entry_eq]
  generalize (lg_sl ([.ref x, .int i, .int j, .int v]) ++ List.replicate (4 - (lg_sl ([.ref x, .int i, .int j, .int v])).length) Slot.unset).toArray = ls at hl ⊢
  have hl : lv_has ls 4 [(0, .ref x), (1, .int i), (2, .int j), (3, .int v)] := hl
  refine lv_aload_n hx hb d_PC_mayAskWay_0 rfl (lv_at hl 0 rfl) ?_
  refine va_get (D := D) (ci := 0) (v := .ref f0) (C := R_PC) (T := F_PC) (N := 9) hx hb hts i_PC hown hK hP 0 rfl rfl 0 (by decide) (hts _ q_256) (fun _ h9 => h9) rfl d_PC_mayAskWay_1 ?_
  refine lv_iload_n hx hb d_PC_mayAskWay_4 rfl (lv_at hl 1 rfl) ?_
  have hPc := hP.sub (ws' := [(f0, .inr (1, [.int 2, .ref f1, .ref f2, .ref f3, .ref f4]))]) [1] rfl
  have hDc := hD.sub (ws' := [(f0, .inr (1, [.int 2, .ref f1, .ref f2, .ref f3, .ref f4]))]) [1] (by decide) rfl
  refine vp_callSi (va_Run.run (va_runV (As := [.int i]) (rest := []) ⟨hx, hb, hml, hown, hts⟩ (f_PE_has l D cI cZ f0 i f1 f2 f3 f4 s.heap.size ) (my_cwV 1 hts q_302 q_299 q_300 q_301 q_2 rfl rfl (by decide +kernel) ⟨Nat.le_of_ble_eq_true rfl, Nat.le_of_ble_eq_true rfl⟩) (my_preV hPc hDc hK hN 1 0 rfl rfl) rfl rfl hl.1 rfl (lv_room (Nat.le_of_ble_eq_true rfl)) d_PC_mayAskWay_5 ⟨Nat.le_of_ble_eq_true rfl, Nat.le_of_ble_eq_true rfl⟩)) (fun r_1 hw_1 => ?_)
  have hw_1 : r_1 = isw i 0 1 := hw_1
  subst hw_1
  refine lv_if_eq (tgt := 41) hx hb d_PC_mayAskWay_8 (by decide) (fun h_2 => ?_) (fun h_2 => ?_)
  · refine lv_iconst (v := 0) hx hb d_PC_mayAskWay_41 (by decide) ?_
    exact W.zret (v := 0) hx hb hr rfl (fun t ht hW => ⟨0, rfl, (by first | decide | simp [maw, h_2]), ht⟩) (fun q h => absurd h List.not_mem_nil) d_PC_mayAskWay_42
  · refine lv_aload_n hx hb d_PC_mayAskWay_11 rfl (lv_at hl 0 rfl) ?_
    refine va_get (D := D) (ci := 0) (v := .ref f0) (C := R_PC) (T := F_PC) (N := 9) hx hb hts i_PC hown hK hP 0 rfl rfl 0 (by decide) (hts _ q_256) (fun _ h9 => h9) rfl d_PC_mayAskWay_12 ?_
    refine lv_iload_n hx hb d_PC_mayAskWay_15 rfl (lv_at hl 2 rfl) ?_
    have hPc := hP.sub (ws' := [(f0, .inr (1, [.int 2, .ref f1, .ref f2, .ref f3, .ref f4]))]) [1] rfl
    have hDc := hD.sub (ws' := [(f0, .inr (1, [.int 2, .ref f1, .ref f2, .ref f3, .ref f4]))]) [1] (by decide) rfl
    refine vp_callSi (va_Run.run (va_runV (As := [.int j]) (rest := []) ⟨hx, hb, hml, hown, hts⟩ (f_PE_has l D cI cZ f0 j f1 f2 f3 f4 s.heap.size ) (my_cwV 1 hts q_302 q_299 q_300 q_301 q_2 rfl rfl (by decide +kernel) ⟨Nat.le_of_ble_eq_true rfl, Nat.le_of_ble_eq_true rfl⟩) (my_preV hPc hDc hK hN 1 0 rfl rfl) rfl rfl hl.1 rfl (lv_room (Nat.le_of_ble_eq_true rfl)) d_PC_mayAskWay_16 ⟨Nat.le_of_ble_eq_true rfl, Nat.le_of_ble_eq_true rfl⟩)) (fun r_3 hw_3 => ?_)
    have hw_3 : r_3 = isw j 0 1 := hw_3
    subst hw_3
    refine lv_if_eq (tgt := 41) hx hb d_PC_mayAskWay_19 (by decide) (fun h_4 => ?_) (fun h_4 => ?_)
    · refine lv_iconst (v := 0) hx hb d_PC_mayAskWay_41 (by decide) ?_
      exact W.zret (v := 0) hx hb hr rfl (fun t ht hW => ⟨0, rfl, (by first | decide | simp [maw, h_2, h_4]), ht⟩) (fun q h => absurd h List.not_mem_nil) d_PC_mayAskWay_42
    · refine lv_iload_n hx hb d_PC_mayAskWay_22 rfl (lv_at hl 1 rfl) ?_
      refine lv_iload_n hx hb d_PC_mayAskWay_23 rfl (lv_at hl 2 rfl) ?_
      refine lv_icmp_eq (tgt := 41) hx hb d_PC_mayAskWay_24 (by decide) (fun h_5 => ?_) (fun h_5 => ?_)
      · refine lv_iconst (v := 0) hx hb d_PC_mayAskWay_41 (by decide) ?_
        exact W.zret (v := 0) hx hb hr rfl (fun t ht hW => ⟨0, rfl, (by first | decide | simp [maw, h_2, h_4, h_5]), ht⟩) (fun q h => absurd h List.not_mem_nil) d_PC_mayAskWay_42
      · refine lv_iload_n hx hb d_PC_mayAskWay_27 rfl (lv_at hl 3 rfl) ?_
        refine lv_iconst (v := 1) hx hb d_PC_mayAskWay_28 (by decide) ?_
        refine lv_ldc hx hb hown (hts _ q_304) d_PC_mayAskWay_29 ?_
        have hPc := hP.sub (ws' := []) [] rfl
        have hDc := hD.sub (ws' := []) [] (by decide) rfl
        refine vp_callSi (va_Run.run (va_runS (As := [.int v, .int 1, .int 100000]) (rest := []) ⟨hx, hb, hml, hown, hts⟩ (c_within l D cI cZ v 1 100000 s.heap.size ) (my_cwS 3 hts q_290 q_288 q_289 q_1 rfl rfl (by decide +kernel) ⟨Nat.le_of_ble_eq_true rfl, Nat.le_of_ble_eq_true rfl⟩) (my_preS hPc hDc hK hN) rfl rfl hl.1 rfl (lv_room (Nat.le_of_ble_eq_true rfl)) d_PC_mayAskWay_31 ⟨Nat.le_of_ble_eq_true rfl, Nat.le_of_ble_eq_true rfl⟩)) (fun r_6 hw_6 => ?_)
        have hw_6 : r_6 = isw v 1 100000 := hw_6
        subst hw_6
        refine lv_if_eq (tgt := 41) hx hb d_PC_mayAskWay_34 (by decide) (fun h_7 => ?_) (fun h_7 => ?_)
        · refine lv_iconst (v := 0) hx hb d_PC_mayAskWay_41 (by decide) ?_
          exact W.zret (v := 0) hx hb hr rfl (fun t ht hW => ⟨0, rfl, (by first | decide | simp [maw, h_2, h_4, h_5, h_7]), ht⟩) (fun q h => absurd h List.not_mem_nil) d_PC_mayAskWay_42
        · refine lv_iconst (v := 1) hx hb d_PC_mayAskWay_37 (by decide) ?_
          refine lv_goto (tgt := 42) hx hb d_PC_mayAskWay_38 (by decide) ?_
          exact W.zret (v := 1) hx hb hr rfl (fun t ht hW => ⟨1, rfl, (by first | decide | simp [maw, h_2, h_4, h_5, h_7]), ht⟩) (fun q h => absurd h List.not_mem_nil) d_PC_mayAskWay_42

set_option maxHeartbeats 4000000 in
set_option maxRecDepth 100000 in
theorem f_PC_findWay (l : Launch) (D : va_G) (cI cZ : ClassId) (x : Nat) (i : Int32) (j : Int32) (v : Int32) (f0 : Nat) (a0 : Nat) (r0 : Nat) (w0 : Nat) (g0 : Nat) (k0 : Nat) (a1 : Nat) (a2 : Nat) (a3 : Nat) (a4 : Nat) (a5 : Nat) (a6 : Nat) (a7 : Nat) (a8 : Nat) (a9 : Nat) (a10 : Nat) (a11 : Nat) (w1 : Nat) (w2 : Nat) (w5 : Nat) (w8 : Nat) (w9 : Nat) (w10 : Nat) (sz : Nat)  : Met l ⟨"PromiseChains", "findWay", "(III)Z"⟩ (mw ⟨"PromiseChains", "findWay", "(III)Z"⟩ prog_1_method_30_code 4 (some .boolean)) ({ frames := 1, cells := 0, slots := 0, locals := 28 }) (va_Pc [.ref x, .int i, .int j, .int v] (PB D cI cZ sz [(x, .inr (0, [.ref f0, .ref a0, .ref r0, .ref w0, .ref g0, .ref k0, .int 0, .int 3, .int 5])), (a0, .inr (2, [.int 0, .ref a1, .ref a2, .ref a3, .ref a4, .ref a5, .ref a6, .ref a7, .ref a8, .ref a9, .ref a10, .ref a11])), (w0, .inr (4, [.int 0, .int 0, .ref w1, .ref w2, .ref w5, .ref w8])), (w1, .inl (cZ, 7, .inl (fun _ => 0))), (w8, .inr (6, [.int 0, .ref w9, .ref w10]))])) (va_Qi (S := Unit) (fun (r : Int32) uU => r = 0) (fun uU tT => BB D (va_A [(x, .inr (0, [.ref f0, .ref a0, .ref r0, .ref w0, .ref g0, .ref k0, .int 0, .int 3, .int 5])), (a0, .inr (2, [.int 0, .ref a1, .ref a2, .ref a3, .ref a4, .ref a5, .ref a6, .ref a7, .ref a8, .ref a9, .ref a10, .ref a11])), (w0, .inr (4, [.int 0, .int 0, .ref w1, .ref w2, .ref w5, .ref w8])), (w1, .inl (cZ, 7, .inl (fun _ => 0))), (w8, .inr (6, [.int 0, .ref w9, .ref w10]))] sz) [] tT) (va_A [(x, .inr (0, [.ref f0, .ref a0, .ref r0, .ref w0, .ref g0, .ref k0, .int 0, .int 3, .int 5])), (a0, .inr (2, [.int 0, .ref a1, .ref a2, .ref a3, .ref a4, .ref a5, .ref a6, .ref a7, .ref a8, .ref a9, .ref a10, .ref a11])), (w0, .inr (4, [.int 0, .int 0, .ref w1, .ref w2, .ref w5, .ref w8])), (w1, .inl (cZ, 7, .inl (fun _ => 0))), (w8, .inr (6, [.int 0, .ref w9, .ref w10]))] sz)) 0 0 (va_A [(x, .inr (0, [.ref f0, .ref a0, .ref r0, .ref w0, .ref g0, .ref k0, .int 0, .int 3, .int 5])), (a0, .inr (2, [.int 0, .ref a1, .ref a2, .ref a3, .ref a4, .ref a5, .ref a6, .ref a7, .ref a8, .ref a9, .ref a10, .ref a11])), (w0, .inr (4, [.int 0, .int 0, .ref w1, .ref w2, .ref w5, .ref w8])), (w1, .inl (cZ, 7, .inl (fun _ => 0))), (w8, .inr (6, [.int 0, .ref w9, .ref w10]))] sz) := by
  refine Met.ofW (cc := prog_1_method_30_code) (maxL := 4) (ret := (some .boolean)) (by decide) rfl ?_
  intro p e s m args below meth c s₁ B hml hv
  obtain ⟨rfl, hsz, hP, hK, hD0, hN⟩ := hv
  have hx := B.exec
  have hb := B.bytes
  have hr := B.returns
  have hts0 := atoms_spec (ws := mw ⟨"PromiseChains", "findWay", "(III)Z"⟩ prog_1_method_30_code 4 (some .boolean)) B.pre
  have hts : ∀ w ∈ tblG, w.before _ s = true := fun w h => hts0 w (List.mem_cons_of_mem _ h)
  have hown : s.vm.findClass "PromiseChains" = some m.cls := findClass_of_methodNamed B.named
  have hlocks := B.notSynchronized
  subst hsz
  have hD := hD0.self (sz := s.heap.size)
  generalize hAe : va_A [(x, .inr (0, [.ref f0, .ref a0, .ref r0, .ref w0, .ref g0, .ref k0, .int 0, .int 3, .int 5])), (a0, .inr (2, [.int 0, .ref a1, .ref a2, .ref a3, .ref a4, .ref a5, .ref a6, .ref a7, .ref a8, .ref a9, .ref a10, .ref a11])), (w0, .inr (4, [.int 0, .int 0, .ref w1, .ref w2, .ref w5, .ref w8])), (w1, .inl (cZ, 7, .inl (fun _ => 0))), (w8, .inr (6, [.int 0, .ref w9, .ref w10]))] s.heap.size = A at hD ⊢
  have hA : ∀ q : Nat, s.heap.size ≤ q → A q := fun q h => by rw [← hAe]; exact Or.inr h
  have hS : va_S A s.heap s.heap [] := va_S.rf
  have hP : va_P D vwCl [(x, .inr (0, [.ref f0, .ref a0, .ref r0, .ref w0, .ref g0, .ref k0, .int 0, .int 3, .int 5])), (a0, .inr (2, [.int 0, .ref a1, .ref a2, .ref a3, .ref a4, .ref a5, .ref a6, .ref a7, .ref a8, .ref a9, .ref a10, .ref a11])), (w0, .inr (4, [.int 0, .int 0, .ref w1, .ref w2, .ref w5, .ref w8])), (w1, .inl (cZ, 7, .inl (fun _ => 0))), (w8, .inr (6, [.int 0, .ref w9, .ref w10]))] s.heap := hP
  have hl := lv_entry ([.ref x, .int i, .int j, .int v]) (n := 4) (Nat.le_of_ble_eq_true rfl)
  rw [lg_entry_eq]
  generalize (lg_sl ([.ref x, .int i, .int j, .int v]) ++ List.replicate (4 - (lg_sl ([.ref x, .int i, .int j, .int v])).length) Slot.unset).toArray = ls at hl ⊢
  have hl : lv_has ls 4 [(0, .ref x), (1, .int i), (2, .int j), (3, .int v)] := hl
  refine lv_aload_n hx hb d_PC_findWay_0 rfl (lv_at hl 0 rfl) ?_
  refine va_get (D := D) (ci := 0) (v := .ref w0) (C := R_PC) (T := F_PC) (N := 9) hx hb hts i_PC hown hK hP 0 rfl rfl 3 (by decide) (hts _ q_259) (fun _ h9 => h9) rfl d_PC_findWay_1 ?_
  refine lv_iload_n hx hb d_PC_findWay_4 rfl (lv_at hl 1 rfl) ?_
  refine lv_iload_n hx hb d_PC_findWay_5 rfl (lv_at hl 2 rfl) ?_
  have hPc := hP.sub (ws' := [(w0, .inr (4, [.int 0, .int 0, .ref w1, .ref w2, .ref w5, .ref w8])), (w1, .inl (cZ, 7, .inl (fun _ => 0))), (w8, .inr (6, [.int 0, .ref w9, .ref w10]))]) [2, 3, 4] rfl
  have hDc := hD.sub (ws' := [(w0, .inr (4, [.int 0, .int 0, .ref w1, .ref w2, .ref w5, .ref w8])), (w1, .inl (cZ, 7, .inl (fun _ => 0))), (w8, .inr (6, [.int 0, .ref w9, .ref w10]))]) [2, 3, 4] (by decide) rfl
  have hFc := va_free (wc := [(w0, .inr (4, [.int 0, .int 0, .ref w1, .ref w2, .ref w5, .ref w8])), (w1, .inl (cZ, 7, .inl (fun _ => 0))), (w8, .inr (6, [.int 0, .ref w9, .ref w10]))]) hD hS hA [2, 3, 4] rfl
  refine va_callv (va_runV (As := [.int i, .int j]) (rest := []) ⟨hx, hb, hml, hown, hts⟩ (c_WS_begin l D cI cZ w0 i j 0 0 w1 w2 w5 w8 (fun _ => 0) 0 w9 w10 s.heap.size ) (my_cwV 2 hts q_392 q_389 q_390 q_391 q_5 rfl rfl (by decide +kernel) ⟨Nat.le_of_ble_eq_true rfl, Nat.le_of_ble_eq_true rfl⟩) (my_preV hPc hDc hK hN 4 0 rfl rfl) rfl rfl hl.1 rfl (lv_room (Nat.le_of_ble_eq_true rfl)) d_PC_findWay_6 ⟨Nat.le_of_ble_eq_true rfl, Nat.le_of_ble_eq_true rfl⟩) hS (fun q _ h => hFc q h) hFc (fun uU tT H_2 locs ht hvm hw_1 hB hz1 hk1 hS => ?_)
  obtain ⟨G_3, rfl⟩ : ∃ z, z = uU := ⟨_, rfl⟩
  obtain ⟨hP1, hD1⟩ := hB
  rw [ht] at hP1
  obtain ⟨hP, hD⟩ := va_join (wr := [(x, .inr (0, [.ref f0, .ref a0, .ref r0, .ref w0, .ref g0, .ref k0, .int 0, .int 3, .int 5])), (a0, .inr (2, [.int 0, .ref a1, .ref a2, .ref a3, .ref a4, .ref a5, .ref a6, .ref a7, .ref a8, .ref a9, .ref a10, .ref a11]))]) (w1 := [(w0, .inr (4, [.int i, .int 0, .ref w1, .ref w2, .ref w5, .ref w8])), (w1, .inl (cZ, 7, .inl G_3)), (w8, .inr (6, [.int 0, .ref w9, .ref w10]))]) hP hD [2, 3, 4] [0, 1] rfl rfl (by decide) (by decide) hk1 hFc hP1 hD1
  have hP : va_P D vwCl [(x, .inr (0, [.ref f0, .ref a0, .ref r0, .ref w0, .ref g0, .ref k0, .int 0, .int 3, .int 5])), (a0, .inr (2, [.int 0, .ref a1, .ref a2, .ref a3, .ref a4, .ref a5, .ref a6, .ref a7, .ref a8, .ref a9, .ref a10, .ref a11])), (w0, .inr (4, [.int i, .int 0, .ref w1, .ref w2, .ref w5, .ref w8])), (w1, .inl (cZ, 7, .inl G_3)), (w8, .inr (6, [.int 0, .ref w9, .ref w10]))] H_2 := hP
  have hD : va_D A [(x, .inr (0, [.ref f0, .ref a0, .ref r0, .ref w0, .ref g0, .ref k0, .int 0, .int 3, .int 5])), (a0, .inr (2, [.int 0, .ref a1, .ref a2, .ref a3, .ref a4, .ref a5, .ref a6, .ref a7, .ref a8, .ref a9, .ref a10, .ref a11])), (w0, .inr (4, [.int i, .int 0, .ref w1, .ref w2, .ref w5, .ref w8])), (w1, .inl (cZ, 7, .inl G_3)), (w8, .inr (6, [.int 0, .ref w9, .ref w10]))] := hD
  refine lv_aload_n hx hb d_PC_findWay_9 rfl (lv_at hl 0 rfl) ?_
  refine va_get (D := D) (ci := 0) (v := .ref w0) (C := R_PC) (T := F_PC) (N := 9) hx hb hts i_PC hown hK hP 0 rfl rfl 3 (by decide) (hts _ q_259) (fun _ h9 => h9) rfl d_PC_findWay_10 ?_
  refine lv_aload_n hx hb d_PC_findWay_13 rfl (lv_at hl 0 rfl) ?_
  refine va_get (D := D) (ci := 0) (v := .ref f0) (C := R_PC) (T := F_PC) (N := 9) hx hb hts i_PC hown hK hP 0 rfl rfl 0 (by decide) (hts _ q_256) (fun _ h9 => h9) rfl d_PC_findWay_14 ?_
  refine lv_aload_n hx hb d_PC_findWay_17 rfl (lv_at hl 0 rfl) ?_
  refine va_get (D := D) (ci := 0) (v := .ref a0) (C := R_PC) (T := F_PC) (N := 9) hx hb hts i_PC hown hK hP 0 rfl rfl 1 (by decide) (hts _ q_257) (fun _ h9 => h9) rfl d_PC_findWay_18 ?_
  refine lv_iload_n hx hb d_PC_findWay_21 rfl (lv_at hl 2 rfl) ?_
  refine lv_iload_n hx hb d_PC_findWay_22 rfl (lv_at hl 3 rfl) ?_
  refine lv_iconst (v := 0) hx hb d_PC_findWay_23 (by decide) ?_
  have hPc := hP.sub (ws' := [(a0, .inr (2, [.int 0, .ref a1, .ref a2, .ref a3, .ref a4, .ref a5, .ref a6, .ref a7, .ref a8, .ref a9, .ref a10, .ref a11]))]) [1] rfl
  have hDc := hD.sub (ws' := [(a0, .inr (2, [.int 0, .ref a1, .ref a2, .ref a3, .ref a4, .ref a5, .ref a6, .ref a7, .ref a8, .ref a9, .ref a10, .ref a11]))]) [1] (by decide) rfl
  refine va_csv (va_Run.run (va_runS (As := [.ref w0, .ref f0, .ref a0, .int j, .int v, .int 0]) (rest := []) ⟨hx, hb, hml, hown, hts⟩ (f_PC_searchWays l D cI cZ w0 f0 a0 j v a1 a2 a3 a4 a5 a6 a7 a8 a9 a10 a11 H_2.size ) (my_cwS 6 hts q_395 q_393 q_394 q_1 rfl rfl (by decide +kernel) ⟨Nat.le_of_ble_eq_true rfl, Nat.le_of_ble_eq_true rfl⟩) (my_preS hPc hDc hK hN) rfl rfl hl.1 rfl (lv_room (Nat.le_of_ble_eq_true rfl)) d_PC_findWay_24 ⟨Nat.le_of_ble_eq_true rfl, Nat.le_of_ble_eq_true rfl⟩)) (fun _ => ?_)
  refine lv_aload_n hx hb d_PC_findWay_27 rfl (lv_at hl 0 rfl) ?_
  refine va_get (D := D) (ci := 0) (v := .ref w0) (C := R_PC) (T := F_PC) (N := 9) hx hb hts i_PC hown hK hP 0 rfl rfl 3 (by decide) (hts _ q_259) (fun _ h9 => h9) rfl d_PC_findWay_28 ?_
  refine va_get (D := D) (ci := 4) (v := .ref w8) (C := R_WS) (T := F_WS) (N := 6) hx hb hts i_WS hown hK hP 2 rfl rfl 5 (by decide) (hts _ q_200) (fun _ h9 => h9) rfl d_PC_findWay_31 ?_
  refine va_get (D := D) (ci := 6) (v := .int 0) (C := R_RO) (T := F_RO) (N := 3) hx hb hts i_RO hown hK hP 4 rfl rfl 0 (by decide) (hts _ q_174) (fun _ h9 => h9) rfl d_PC_findWay_34 ?_
  refine lv_if_le (tgt := 44) hx hb d_PC_findWay_37 (by decide) (fun _ => ?_) (fun h => absurd h (by decide))
  refine lv_iconst (v := 0) hx hb d_PC_findWay_44 (by decide) ?_
  have hP9 := hP.sub (ws' := []) [] rfl
  have hD9 := hD.sub (ws' := []) [] (by decide) rfl
  refine W.widen (k := 0) (n := 0) (Nat.le_of_ble_eq_true rfl) (Nat.le_of_ble_eq_true rfl) ?_
  exact W.zret (v := 0) hx hb hr rfl (fun t ht hW => ⟨⟨0, (), rfl, rfl, by rw [ht]; exact hP9, hD9⟩, hS.F ht⟩) hS.2.2 d_PC_findWay_45

set_option maxHeartbeats 4000000 in
set_option maxRecDepth 100000 in
theorem c_RS_begin (l : Launch) (D : va_G) (cI cZ : ClassId) (g0 : Nat) (v : Int32) (z0 : Int32) (g1 : Nat) (g2 : Nat) (g5 : Nat) (z1 : Int32) (g6 : Nat) (g7 : Nat) (sz : Nat)  : Met l ⟨"PromiseChains$RingSearch", "begin", "(I)V"⟩ (mw ⟨"PromiseChains$RingSearch", "begin", "(I)V"⟩ prog_5_method_2_code 2 none) ({ frames := 0, cells := 0, slots := 0, locals := 0 }) (va_Pc [.ref g0, .int v] (PB D cI cZ sz [(g0, .inr (5, [.int 0, .int z0, .int 0, .int 0, .ref g1, .ref g2, .ref g5])), (g5, .inr (6, [.int z1, .ref g6, .ref g7]))])) (va_Qv (S := Unit) (fun uU => True) (fun uU tT => BB D (va_A [(g0, .inr (5, [.int 0, .int z0, .int 0, .int 0, .ref g1, .ref g2, .ref g5])), (g5, .inr (6, [.int z1, .ref g6, .ref g7]))] sz) [(g0, .inr (5, [.int 0, .int v, .int 0, .int 0, .ref g1, .ref g2, .ref g5])), (g5, .inr (6, [.int 0, .ref g6, .ref g7]))] tT) (va_A [(g0, .inr (5, [.int 0, .int z0, .int 0, .int 0, .ref g1, .ref g2, .ref g5])), (g5, .inr (6, [.int z1, .ref g6, .ref g7]))] sz)) 0 0 (va_A [(g0, .inr (5, [.int 0, .int z0, .int 0, .int 0, .ref g1, .ref g2, .ref g5])), (g5, .inr (6, [.int z1, .ref g6, .ref g7]))] sz) := by
  refine Met.ofW (cc := prog_5_method_2_code) (maxL := 2) (ret := none) (by decide) rfl ?_
  intro p e s m args below meth c s₁ B hml hv
  obtain ⟨rfl, hsz, hP, hK, hD0, hN⟩ := hv
  have hx := B.exec
  have hb := B.bytes
  have hr := B.returns
  have hts0 := atoms_spec (ws := mw ⟨"PromiseChains$RingSearch", "begin", "(I)V"⟩ prog_5_method_2_code 2 none) B.pre
  have hts : ∀ w ∈ tblG, w.before _ s = true := fun w h => hts0 w (List.mem_cons_of_mem _ h)
  have hown : s.vm.findClass "PromiseChains$RingSearch" = some m.cls := findClass_of_methodNamed B.named
  have hlocks := B.notSynchronized
  subst hsz
  have hD := hD0.self (sz := s.heap.size)
  generalize hAe : va_A [(g0, .inr (5, [.int 0, .int z0, .int 0, .int 0, .ref g1, .ref g2, .ref g5])), (g5, .inr (6, [.int z1, .ref g6, .ref g7]))] s.heap.size = A at hD ⊢
  have hA : ∀ q : Nat, s.heap.size ≤ q → A q := fun q h => by rw [← hAe]; exact Or.inr h
  have hS : va_S A s.heap s.heap [] := va_S.rf
  have hP : va_P D vwCl [(g0, .inr (5, [.int 0, .int z0, .int 0, .int 0, .ref g1, .ref g2, .ref g5])), (g5, .inr (6, [.int z1, .ref g6, .ref g7]))] s.heap := hP
  have hl := lv_entry ([.ref g0, .int v]) (n := 2) (Nat.le_of_ble_eq_true rfl)
  rw [lg_entry_eq]
  generalize (lg_sl ([.ref g0, .int v]) ++ List.replicate (2 - (lg_sl ([.ref g0, .int v])).length) Slot.unset).toArray = ls at hl ⊢
  have hl : lv_has ls 2 [(0, .ref g0), (1, .int v)] := hl
  refine lv_aload_n hx hb d_RS_begin_0 rfl (lv_at hl 0 rfl) ?_
  refine lv_iload_n hx hb d_RS_begin_1 rfl (lv_at hl 1 rfl) ?_
  refine va_put (D := D) (ci := 5) (v := .int v) (ty := .int) (C := R_RS) (T := F_RS) (N := 7) hx hb hts i_RS t_RS t_RS_ok n_RS hown hK hP hD hS 0 rfl rfl 1 (by decide) (hts _ q_224) (fun _ h9 => h9) rfl (by decide +kernel) rfl rfl (Nat.le_of_ble_eq_true rfl) d_RS_begin_2 (fun H_1 locs hP hD hS => ?_)
  have hP : va_P D vwCl [(g0, .inr (5, [.int 0, .int v, .int 0, .int 0, .ref g1, .ref g2, .ref g5])), (g5, .inr (6, [.int z1, .ref g6, .ref g7]))] H_1 := hP
  have hD : va_D A [(g0, .inr (5, [.int 0, .int v, .int 0, .int 0, .ref g1, .ref g2, .ref g5])), (g5, .inr (6, [.int z1, .ref g6, .ref g7]))] := hD
  refine lv_aload_n hx hb d_RS_begin_5 rfl (lv_at hl 0 rfl) ?_
  refine va_get (D := D) (ci := 5) (v := .ref g5) (C := R_RS) (T := F_RS) (N := 7) hx hb hts i_RS hown hK hP 0 rfl rfl 6 (by decide) (hts _ q_233) (fun _ h9 => h9) rfl d_RS_begin_6 ?_
  refine lv_iconst (v := 0) hx hb d_RS_begin_9 (by decide) ?_
  refine va_put (D := D) (ci := 6) (v := .int 0) (ty := .int) (C := R_RO) (T := F_RO) (N := 3) hx hb hts i_RO t_RO t_RO_ok n_RO hown hK hP hD hS 1 rfl rfl 0 (by decide) (hts _ q_173) (fun _ h9 => h9) rfl (by decide +kernel) rfl rfl (Nat.le_of_ble_eq_true rfl) d_RS_begin_10 (fun H_2 locs hP hD hS => ?_)
  have hP : va_P D vwCl [(g0, .inr (5, [.int 0, .int v, .int 0, .int 0, .ref g1, .ref g2, .ref g5])), (g5, .inr (6, [.int 0, .ref g6, .ref g7]))] H_2 := hP
  have hD : va_D A [(g0, .inr (5, [.int 0, .int v, .int 0, .int 0, .ref g1, .ref g2, .ref g5])), (g5, .inr (6, [.int 0, .ref g6, .ref g7]))] := hD
  have hP9 := hP.sub (ws' := [(g0, .inr (5, [.int 0, .int v, .int 0, .int 0, .ref g1, .ref g2, .ref g5])), (g5, .inr (6, [.int 0, .ref g6, .ref g7]))]) [0, 1] rfl
  have hD9 := hD.sub (ws' := [(g0, .inr (5, [.int 0, .int v, .int 0, .int 0, .ref g1, .ref g2, .ref g5])), (g5, .inr (6, [.int 0, .ref g6, .ref g7]))]) [0, 1] (by decide) rfl
  refine W.widen (k := 0) (n := 0) (Nat.le_of_ble_eq_true rfl) (Nat.le_of_ble_eq_true rfl) ?_
  exact W.vret hx hb hr (fun t ht hW => ⟨⟨(), rfl, trivial, by rw [ht]; exact hP9, hD9⟩, hS.F ht⟩) hS.2.2 d_RS_begin_13

set_option maxHeartbeats 4000000 in
set_option maxRecDepth 100000 in
theorem f_PC_findRing (l : Launch) (D : va_G) (cI cZ : ClassId) (x : Nat) (f0 : Nat) (a0 : Nat) (r0 : Nat) (w0 : Nat) (g0 : Nat) (k0 : Nat) (a1 : Nat) (a2 : Nat) (a3 : Nat) (a4 : Nat) (a5 : Nat) (a6 : Nat) (a7 : Nat) (a8 : Nat) (a9 : Nat) (a10 : Nat) (a11 : Nat) (g1 : Nat) (g2 : Nat) (g5 : Nat) (g6 : Nat) (g7 : Nat) (sz : Nat)  : Met l ⟨"PromiseChains", "findRing", "()Z"⟩ (mw ⟨"PromiseChains", "findRing", "()Z"⟩ prog_1_method_33_code 4 (some .boolean)) ({ frames := 1, cells := 0, slots := 0, locals := 22 }) (va_Pc [.ref x] (PB D cI cZ sz [(x, .inr (0, [.ref f0, .ref a0, .ref r0, .ref w0, .ref g0, .ref k0, .int 0, .int 3, .int 5])), (a0, .inr (2, [.int 0, .ref a1, .ref a2, .ref a3, .ref a4, .ref a5, .ref a6, .ref a7, .ref a8, .ref a9, .ref a10, .ref a11])), (g0, .inr (5, [.int 0, .int 0, .int 0, .int 0, .ref g1, .ref g2, .ref g5])), (g5, .inr (6, [.int 0, .ref g6, .ref g7]))])) (va_Qi (S := Unit) (fun (r : Int32) uU => r = 0) (fun uU tT => BB D (va_A [(x, .inr (0, [.ref f0, .ref a0, .ref r0, .ref w0, .ref g0, .ref k0, .int 0, .int 3, .int 5])), (a0, .inr (2, [.int 0, .ref a1, .ref a2, .ref a3, .ref a4, .ref a5, .ref a6, .ref a7, .ref a8, .ref a9, .ref a10, .ref a11])), (g0, .inr (5, [.int 0, .int 0, .int 0, .int 0, .ref g1, .ref g2, .ref g5])), (g5, .inr (6, [.int 0, .ref g6, .ref g7]))] sz) [] tT) (va_A [(x, .inr (0, [.ref f0, .ref a0, .ref r0, .ref w0, .ref g0, .ref k0, .int 0, .int 3, .int 5])), (a0, .inr (2, [.int 0, .ref a1, .ref a2, .ref a3, .ref a4, .ref a5, .ref a6, .ref a7, .ref a8, .ref a9, .ref a10, .ref a11])), (g0, .inr (5, [.int 0, .int 0, .int 0, .int 0, .ref g1, .ref g2, .ref g5])), (g5, .inr (6, [.int 0, .ref g6, .ref g7]))] sz)) 0 0 (va_A [(x, .inr (0, [.ref f0, .ref a0, .ref r0, .ref w0, .ref g0, .ref k0, .int 0, .int 3, .int 5])), (a0, .inr (2, [.int 0, .ref a1, .ref a2, .ref a3, .ref a4, .ref a5, .ref a6, .ref a7, .ref a8, .ref a9, .ref a10, .ref a11])), (g0, .inr (5, [.int 0, .int 0, .int 0, .int 0, .ref g1, .ref g2, .ref g5])), (g5, .inr (6, [.int 0, .ref g6, .ref g7]))] sz) := by
  refine Met.ofW (cc := prog_1_method_33_code) (maxL := 4) (ret := (some .boolean)) (by decide) rfl ?_
  intro p e s m args below meth c s₁ B hml hv
  obtain ⟨rfl, hsz, hP, hK, hD0, hN⟩ := hv
  have hx := B.exec
  have hb := B.bytes
  have hr := B.returns
  have hts0 := atoms_spec (ws := mw ⟨"PromiseChains", "findRing", "()Z"⟩ prog_1_method_33_code 4 (some .boolean)) B.pre
  have hts : ∀ w ∈ tblG, w.before _ s = true := fun w h => hts0 w (List.mem_cons_of_mem _ h)
  have hown : s.vm.findClass "PromiseChains" = some m.cls := findClass_of_methodNamed B.named
  have hlocks := B.notSynchronized
  subst hsz
  have hD := hD0.self (sz := s.heap.size)
  generalize hAe : va_A [(x, .inr (0, [.ref f0, .ref a0, .ref r0, .ref w0, .ref g0, .ref k0, .int 0, .int 3, .int 5])), (a0, .inr (2, [.int 0, .ref a1, .ref a2, .ref a3, .ref a4, .ref a5, .ref a6, .ref a7, .ref a8, .ref a9, .ref a10, .ref a11])), (g0, .inr (5, [.int 0, .int 0, .int 0, .int 0, .ref g1, .ref g2, .ref g5])), (g5, .inr (6, [.int 0, .ref g6, .ref g7]))] s.heap.size = A at hD ⊢
  have hA : ∀ q : Nat, s.heap.size ≤ q → A q := fun q h => by rw [← hAe]; exact Or.inr h
  have hS : va_S A s.heap s.heap [] := va_S.rf
  have hP : va_P D vwCl [(x, .inr (0, [.ref f0, .ref a0, .ref r0, .ref w0, .ref g0, .ref k0, .int 0, .int 3, .int 5])), (a0, .inr (2, [.int 0, .ref a1, .ref a2, .ref a3, .ref a4, .ref a5, .ref a6, .ref a7, .ref a8, .ref a9, .ref a10, .ref a11])), (g0, .inr (5, [.int 0, .int 0, .int 0, .int 0, .ref g1, .ref g2, .ref g5])), (g5, .inr (6, [.int 0, .ref g6, .ref g7]))] s.heap := hP
  have hl := lv_entry ([.ref x]) (n := 4) (Nat.le_of_ble_eq_true rfl)
  rw [lg_entry_eq]
  generalize (lg_sl ([.ref x]) ++ List.replicate (4 - (lg_sl ([.ref x])).length) Slot.unset).toArray = ls at hl ⊢
  have hl : lv_has ls 4 [(0, .ref x)] := hl
  refine lv_aload_n hx hb d_PC_findRing_0 rfl (lv_at hl 0 rfl) ?_
  refine va_get (D := D) (ci := 0) (v := .ref g0) (C := R_PC) (T := F_PC) (N := 9) hx hb hts i_PC hown hK hP 0 rfl rfl 4 (by decide) (hts _ q_260) (fun _ h9 => h9) rfl d_PC_findRing_1 ?_
  refine lv_aload_n hx hb d_PC_findRing_4 rfl (lv_at hl 0 rfl) ?_
  refine va_get (D := D) (ci := 0) (v := .ref a0) (C := R_PC) (T := F_PC) (N := 9) hx hb hts i_PC hown hK hP 0 rfl rfl 1 (by decide) (hts _ q_257) (fun _ h9 => h9) rfl d_PC_findRing_5 ?_
  have hPc := hP.sub (ws' := [(a0, .inr (2, [.int 0, .ref a1, .ref a2, .ref a3, .ref a4, .ref a5, .ref a6, .ref a7, .ref a8, .ref a9, .ref a10, .ref a11]))]) [1] rfl
  have hDc := hD.sub (ws' := [(a0, .inr (2, [.int 0, .ref a1, .ref a2, .ref a3, .ref a4, .ref a5, .ref a6, .ref a7, .ref a8, .ref a9, .ref a10, .ref a11]))]) [1] (by decide) rfl
  refine vp_callSi (va_Run.run (va_runV (As := []) (rest := [.ref g0]) ⟨hx, hb, hml, hown, hts⟩ (f_PA_sumOff l D cI cZ a0 a1 a2 a3 a4 a5 a6 a7 a8 a9 a10 a11 s.heap.size ) (my_cwV 0 hts q_525 q_522 q_523 q_524 q_3 rfl rfl (by decide +kernel) ⟨Nat.le_of_ble_eq_true rfl, Nat.le_of_ble_eq_true rfl⟩) (my_preV hPc hDc hK hN 2 0 rfl rfl) rfl rfl hl.1 rfl (lv_room (Nat.le_of_ble_eq_true rfl)) d_PC_findRing_8 ⟨Nat.le_of_ble_eq_true rfl, Nat.le_of_ble_eq_true rfl⟩)) (fun r_1 hw_1 => ?_)
  have hw_1 : r_1 = 0 := hw_1
  subst hw_1
  have hPc := hP.sub (ws' := [(g0, .inr (5, [.int 0, .int 0, .int 0, .int 0, .ref g1, .ref g2, .ref g5])), (g5, .inr (6, [.int 0, .ref g6, .ref g7]))]) [2, 3] rfl
  have hDc := hD.sub (ws' := [(g0, .inr (5, [.int 0, .int 0, .int 0, .int 0, .ref g1, .ref g2, .ref g5])), (g5, .inr (6, [.int 0, .ref g6, .ref g7]))]) [2, 3] (by decide) rfl
  have hFc := va_free (wc := [(g0, .inr (5, [.int 0, .int 0, .int 0, .int 0, .ref g1, .ref g2, .ref g5])), (g5, .inr (6, [.int 0, .ref g6, .ref g7]))]) hD hS hA [2, 3] rfl
  refine va_callv (va_runV (As := [.int 0]) (rest := []) ⟨hx, hb, hml, hown, hts⟩ (c_RS_begin l D cI cZ g0 0 0 g1 g2 g5 0 g6 g7 s.heap.size ) (my_cwV 1 hts q_540 q_537 q_538 q_539 q_7 rfl rfl (by decide +kernel) ⟨Nat.le_of_ble_eq_true rfl, Nat.le_of_ble_eq_true rfl⟩) (my_preV hPc hDc hK hN 5 0 rfl rfl) rfl rfl hl.1 rfl (lv_room (Nat.le_of_ble_eq_true rfl)) d_PC_findRing_11 ⟨Nat.le_of_ble_eq_true rfl, Nat.le_of_ble_eq_true rfl⟩) hS (fun q _ h => hFc q h) hFc (fun uU tT H_3 locs ht hvm hw_2 hB hz1 hk1 hS => ?_)
  obtain ⟨hP1, hD1⟩ := hB
  rw [ht] at hP1
  obtain ⟨hP, hD⟩ := va_join (wr := [(x, .inr (0, [.ref f0, .ref a0, .ref r0, .ref w0, .ref g0, .ref k0, .int 0, .int 3, .int 5])), (a0, .inr (2, [.int 0, .ref a1, .ref a2, .ref a3, .ref a4, .ref a5, .ref a6, .ref a7, .ref a8, .ref a9, .ref a10, .ref a11]))]) (w1 := [(g0, .inr (5, [.int 0, .int 0, .int 0, .int 0, .ref g1, .ref g2, .ref g5])), (g5, .inr (6, [.int 0, .ref g6, .ref g7]))]) hP hD [2, 3] [0, 1] rfl rfl (by decide) (by decide) hk1 hFc hP1 hD1
  have hP : va_P D vwCl [(x, .inr (0, [.ref f0, .ref a0, .ref r0, .ref w0, .ref g0, .ref k0, .int 0, .int 3, .int 5])), (a0, .inr (2, [.int 0, .ref a1, .ref a2, .ref a3, .ref a4, .ref a5, .ref a6, .ref a7, .ref a8, .ref a9, .ref a10, .ref a11])), (g0, .inr (5, [.int 0, .int 0, .int 0, .int 0, .ref g1, .ref g2, .ref g5])), (g5, .inr (6, [.int 0, .ref g6, .ref g7]))] H_3 := hP
  have hD : va_D A [(x, .inr (0, [.ref f0, .ref a0, .ref r0, .ref w0, .ref g0, .ref k0, .int 0, .int 3, .int 5])), (a0, .inr (2, [.int 0, .ref a1, .ref a2, .ref a3, .ref a4, .ref a5, .ref a6, .ref a7, .ref a8, .ref a9, .ref a10, .ref a11])), (g0, .inr (5, [.int 0, .int 0, .int 0, .int 0, .ref g1, .ref g2, .ref g5])), (g5, .inr (6, [.int 0, .ref g6, .ref g7]))] := hD
  refine lv_iconst (v := 0) hx hb d_PC_findRing_14 (by decide) ?_
  refine lv_istore_n (lv' := [(1, .int 0), (0, .ref x)]) hx hb d_PC_findRing_15 rfl hl (by decide) rfl (fun ls hl => ?_)
  refine lv_iload_n hx hb d_PC_findRing_16 rfl (lv_at hl 0 rfl) ?_
  refine lv_aload_n hx hb d_PC_findRing_17 rfl (lv_at hl 1 rfl) ?_
  refine va_get (D := D) (ci := 0) (v := .ref a0) (C := R_PC) (T := F_PC) (N := 9) hx hb hts i_PC hown hK hP 0 rfl rfl 1 (by decide) (hts _ q_257) (fun _ h9 => h9) rfl d_PC_findRing_18 ?_
  refine va_get (D := D) (ci := 2) (v := .int 0) (C := R_PA) (T := F_PA) (N := 12) hx hb hts i_PA hown hK hP 1 rfl rfl 0 (by decide) (hts _ q_57) (fun _ h9 => h9) rfl d_PC_findRing_21 ?_
  refine lv_icmp_ge (tgt := 158) hx hb d_PC_findRing_24 (by decide) (fun _ => ?_) (fun h => absurd h (by decide))
  refine lv_aload_n hx hb d_PC_findRing_158 rfl (lv_at hl 1 rfl) ?_
  refine va_get (D := D) (ci := 0) (v := .ref g0) (C := R_PC) (T := F_PC) (N := 9) hx hb hts i_PC hown hK hP 0 rfl rfl 4 (by decide) (hts _ q_260) (fun _ h9 => h9) rfl d_PC_findRing_159 ?_
  refine va_get (D := D) (ci := 5) (v := .ref g5) (C := R_RS) (T := F_RS) (N := 7) hx hb hts i_RS hown hK hP 2 rfl rfl 6 (by decide) (hts _ q_234) (fun _ h9 => h9) rfl d_PC_findRing_162 ?_
  refine va_get (D := D) (ci := 6) (v := .int 0) (C := R_RO) (T := F_RO) (N := 3) hx hb hts i_RO hown hK hP 3 rfl rfl 0 (by decide) (hts _ q_174) (fun _ h9 => h9) rfl d_PC_findRing_165 ?_
  refine lv_if_le (tgt := 175) hx hb d_PC_findRing_168 (by decide) (fun _ => ?_) (fun h => absurd h (by decide))
  refine lv_iconst (v := 0) hx hb d_PC_findRing_175 (by decide) ?_
  have hP9 := hP.sub (ws' := []) [] rfl
  have hD9 := hD.sub (ws' := []) [] (by decide) rfl
  refine W.widen (k := 0) (n := 0) (Nat.le_of_ble_eq_true rfl) (Nat.le_of_ble_eq_true rfl) ?_
  exact W.zret (v := 0) hx hb hr rfl (fun t ht hW => ⟨⟨0, (), rfl, rfl, by rw [ht]; exact hP9, hD9⟩, hS.F ht⟩) hS.2.2 d_PC_findRing_176
