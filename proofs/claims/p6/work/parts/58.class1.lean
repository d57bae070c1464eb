def badPair (nn : Nat) (i j u v : Int32) : Prop := isw i 0 (nI nn - 1) = 0 ∨ isw j 0 (nI nn - 1) = 0 ∨ i = j ∨ isw u 0 100000 = 0 ∨ isw v 0 100000 = 0
def badWay (nn : Nat) (i j v : Int32) : Prop := isw i 0 (nI nn - 1) = 0 ∨ isw j 0 (nI nn - 1) = 0 ∨ i = j ∨ isw v 1 100000 = 0
def badFee (nn : Nat) (i u v : Int32) : Prop := isw i 0 (nI nn - 1) = 0 ∨ isw u 0 100 = 0 ∨ isw v 0 100 = 0
theorem bp_1 {nn : Nat} {i j u v : Int32} (h : isw i 0 (nI nn - 1) = 0) : badPair nn i j u v := Or.inl h
theorem bp_2 {nn : Nat} {i j u v : Int32} (h : isw j 0 (nI nn - 1) = 0) : badPair nn i j u v := Or.inr (Or.inl h)
theorem bp_3 {nn : Nat} {i j u v : Int32} (h : i = j) : badPair nn i j u v := Or.inr (Or.inr (Or.inl h))
theorem bp_4 {nn : Nat} {i j u v : Int32} (h : isw u 0 100000 = 0) : badPair nn i j u v := Or.inr (Or.inr (Or.inr (Or.inl h)))
theorem bp_5 {nn : Nat} {i j u v : Int32} (h : isw v 0 100000 = 0) : badPair nn i j u v := Or.inr (Or.inr (Or.inr (Or.inr h)))
theorem bp_n {nn : Nat} {i j u v : Int32} (h1 : ¬ isw i 0 (nI nn - 1) = 0) (h2 : ¬ isw j 0 (nI nn - 1) = 0) (h3 : ¬ i = j) (h4 : ¬ isw u 0 100000 = 0) (h5 : ¬ isw v 0 100000 = 0) : ¬ badPair nn i j u v := by
  rintro (h | h | h | h | h)
  · exact h1 h
  · exact h2 h
  · exact h3 h
  · exact h4 h
  · exact h5 h
theorem bw_1 {nn : Nat} {i j v : Int32} (h : isw i 0 (nI nn - 1) = 0) : badWay nn i j v := Or.inl h
theorem bw_2 {nn : Nat} {i j v : Int32} (h : isw j 0 (nI nn - 1) = 0) : badWay nn i j v := Or.inr (Or.inl h)
theorem bw_3 {nn : Nat} {i j v : Int32} (h : i = j) : badWay nn i j v := Or.inr (Or.inr (Or.inl h))
theorem bw_4 {nn : Nat} {i j v : Int32} (h : isw v 1 100000 = 0) : badWay nn i j v := Or.inr (Or.inr (Or.inr h))
theorem bw_n {nn : Nat} {i j v : Int32} (h1 : ¬ isw i 0 (nI nn - 1) = 0) (h2 : ¬ isw j 0 (nI nn - 1) = 0) (h3 : ¬ i = j) (h4 : ¬ isw v 1 100000 = 0) : ¬ badWay nn i j v := by
  rintro (h | h | h | h)
  · exact h1 h
  · exact h2 h
  · exact h3 h
  · exact h4 h
theorem bf_1 {nn : Nat} {i u v : Int32} (h : isw i 0 (nI nn - 1) = 0) : badFee nn i u v := Or.inl h
theorem bf_2 {nn : Nat} {i u v : Int32} (h : isw u 0 100 = 0) : badFee nn i u v := Or.inr (Or.inl h)
theorem bf_3 {nn : Nat} {i u v : Int32} (h : isw v 0 100 = 0) : badFee nn i u v := Or.inr (Or.inr h)
theorem bf_n {nn : Nat} {i u v : Int32} (h1 : ¬ isw i 0 (nI nn - 1) = 0) (h2 : ¬ isw u 0 100 = 0) (h3 : ¬ isw v 0 100 = 0) : ¬ badFee nn i u v := by
  rintro (h | h | h)
  · exact h1 h
  · exact h2 h
  · exact h3 h
theorem nI_ne {a b : Nat} (ha : a < 2 ^ 31) (hb : b < 2 ^ 31) (h : ¬ a = b) : ¬ nI a = nI b := fun q => h ((nI_eq ha hb).mp q)
def gsv (g v : Int32) : Int32 := if isw v 1 50 = 0 then g else v
def gp_set (g v : Int32) : Int32 := if isw v 1 50 = 0 then -2 else g
theorem isw_lo {v a b : Int32} {K : Nat} (ha : 0 ≤ a.toInt) (hb : b.toInt = K) (h : ¬ isw v a b = 0) : ∃ N : Nat, N ≤ K ∧ v = nI N := by
  obtain ⟨h1, h2⟩ := isw_ge h
  have h3 := Int32.le_iff_toInt_le.mp h1
  have e0 : (0 : Int32).toInt = 0 := rfl
  exact nI_of2 hb (by rw [Int32.lt_iff_toInt_lt]; omega) h2
theorem isw_N {v : Int32} {N : Nat} (hN : N < 2 ^ 31) (h : ¬ isw v 0 (nI N) = 0) : ∃ j : Nat, j ≤ N ∧ v = nI j := isw_K (nI_toInt hN) h
theorem SWP_0 {EP : Nat → Nat} {PH SI FB FR : Nat → Int32} {np s d : Nat} {x : Int32} {WM WM' : Nat → Int32} {B : Nat → Nat} (hd : d < 7) (hs : ¬ s = d) (hW : WM' = mkM d 7 WM) : SWP EP PH SI FB FR np s d x WM' B 0 d x := by
  refine ⟨rfl, rfl, fun h hh => ?_, fun z hz => absurd hz (Nat.not_lt_zero _), fun z hz => ?_, fun i j h1 h2 => by omega⟩
  · rw [hW]
    unfold mkM
    rw [if_pos hh]
    by_cases e : h = d
    · rw [if_pos e]
      exact ⟨fun _ => ⟨0, Nat.le_refl _, e.symm⟩, fun _ => by decide⟩
    · rw [if_neg e]
      refine ⟨fun z => absurd rfl z, ?_⟩
      rintro ⟨z, z1, z2⟩
      have : z = 0 := by omega
      subst this
      exact absurd z2.symm e
  · have : z = 0 := by omega
    subst this
    exact ⟨fun q => hs q.symm, hd⟩
theorem gd_PC_people_0 : (decode prog_1_method_2_code 0 = .ok (.iload_n 1, 1)) ∧ (decode prog_1_method_2_code 1 = .ok (.iconst 2, 1)) ∧ (decode prog_1_method_2_code 2 = .ok (.bipush 7, 2)) ∧ (decode prog_1_method_2_code 4 = .ok (.invokestatic 65, 3)) ∧ (decode prog_1_method_2_code 7 = .ok (.ifCond .ne 6, 3)) ∧ (decode prog_1_method_2_code 13 = .ok (.aload_n 0, 1)) ∧ (decode prog_1_method_2_code 14 = .ok (.getfield 12, 3)) ∧ (decode prog_1_method_2_code 17 = .ok (.iload_n 1, 1)) ∧ (decode prog_1_method_2_code 18 = .ok (.invokevirtual 61, 3)) ∧ (decode prog_1_method_2_code 21 = .ok (.aload_n 0, 1)) := by decide +kernel
theorem d_PC_people_0 : decode prog_1_method_2_code 0 = .ok (.iload_n 1, 1) := gd_PC_people_0.1
theorem d_PC_people_1 : decode prog_1_method_2_code 1 = .ok (.iconst 2, 1) := gd_PC_people_0.2.1
theorem d_PC_people_2 : decode prog_1_method_2_code 2 = .ok (.bipush 7, 2) := gd_PC_people_0.2.2.1
theorem d_PC_people_4 : decode prog_1_method_2_code 4 = .ok (.invokestatic 65, 3) := gd_PC_people_0.2.2.2.1
theorem d_PC_people_7 : decode prog_1_method_2_code 7 = .ok (.ifCond .ne 6, 3) := gd_PC_people_0.2.2.2.2.1
theorem d_PC_people_13 : decode prog_1_method_2_code 13 = .ok (.aload_n 0, 1) := gd_PC_people_0.2.2.2.2.2.1
theorem d_PC_people_14 : decode prog_1_method_2_code 14 = .ok (.getfield 12, 3) := gd_PC_people_0.2.2.2.2.2.2.1
theorem d_PC_people_17 : decode prog_1_method_2_code 17 = .ok (.iload_n 1, 1) := gd_PC_people_0.2.2.2.2.2.2.2.1
theorem d_PC_people_18 : decode prog_1_method_2_code 18 = .ok (.invokevirtual 61, 3) := gd_PC_people_0.2.2.2.2.2.2.2.2.1
theorem d_PC_people_21 : decode prog_1_method_2_code 21 = .ok (.aload_n 0, 1) := gd_PC_people_0.2.2.2.2.2.2.2.2.2
theorem gd_PC_people_22 : (decode prog_1_method_2_code 22 = .ok (.getfield 19, 3)) ∧ (decode prog_1_method_2_code 25 = .ok (.iconst 0, 1)) ∧ (decode prog_1_method_2_code 26 = .ok (.putfield 69, 3)) ∧ (decode prog_1_method_2_code 29 = .ok (.aload_n 0, 1)) ∧ (decode prog_1_method_2_code 30 = .ok (.getfield 26, 3)) ∧ (decode prog_1_method_2_code 33 = .ok (.invokevirtual 72, 3)) ∧ (decode prog_1_method_2_code 36 = .ok (.aload_n 0, 1)) ∧ (decode prog_1_method_2_code 37 = .ok (.getfield 47, 3)) ∧ (decode prog_1_method_2_code 40 = .ok (.iconst 0, 1)) ∧ (decode prog_1_method_2_code 41 = .ok (.putfield 74, 3)) := by decide +kernel
theorem d_PC_people_22 : decode prog_1_method_2_code 22 = .ok (.getfield 19, 3) := gd_PC_people_22.1
theorem d_PC_people_25 : decode prog_1_method_2_code 25 = .ok (.iconst 0, 1) := gd_PC_people_22.2.1
theorem d_PC_people_26 : decode prog_1_method_2_code 26 = .ok (.putfield 69, 3) := gd_PC_people_22.2.2.1
theorem d_PC_people_29 : decode prog_1_method_2_code 29 = .ok (.aload_n 0, 1) := gd_PC_people_22.2.2.2.1
theorem d_PC_people_30 : decode prog_1_method_2_code 30 = .ok (.getfield 26, 3) := gd_PC_people_22.2.2.2.2.1
theorem d_PC_people_33 : decode prog_1_method_2_code 33 = .ok (.invokevirtual 72, 3) := gd_PC_people_22.2.2.2.2.2.1
theorem d_PC_people_36 : decode prog_1_method_2_code 36 = .ok (.aload_n 0, 1) := gd_PC_people_22.2.2.2.2.2.2.1
theorem d_PC_people_37 : decode prog_1_method_2_code 37 = .ok (.getfield 47, 3) := gd_PC_people_22.2.2.2.2.2.2.2.1
theorem d_PC_people_40 : decode prog_1_method_2_code 40 = .ok (.iconst 0, 1) := gd_PC_people_22.2.2.2.2.2.2.2.2.1
theorem d_PC_people_41 : decode prog_1_method_2_code 41 = .ok (.putfield 74, 3) := gd_PC_people_22.2.2.2.2.2.2.2.2.2
theorem gd_PC_people_44 : (decode prog_1_method_2_code 44 = .ok (.aload_n 0, 1)) ∧ (decode prog_1_method_2_code 45 = .ok (.iconst 0, 1)) ∧ (decode prog_1_method_2_code 46 = .ok (.putfield 51, 3)) ∧ (decode prog_1_method_2_code 49 = .ok (.iconst 1, 1)) ∧ (decode prog_1_method_2_code 50 = .ok (.ireturn, 1)) ∧ (decode prog_1_method_2_code 10 = .ok (.bipush (-2), 2)) ∧ (decode prog_1_method_2_code 12 = .ok (.ireturn, 1)) := by decide +kernel
theorem d_PC_people_44 : decode prog_1_method_2_code 44 = .ok (.aload_n 0, 1) := gd_PC_people_44.1
theorem d_PC_people_45 : decode prog_1_method_2_code 45 = .ok (.iconst 0, 1) := gd_PC_people_44.2.1
theorem d_PC_people_46 : decode prog_1_method_2_code 46 = .ok (.putfield 51, 3) := gd_PC_people_44.2.2.1
theorem d_PC_people_49 : decode prog_1_method_2_code 49 = .ok (.iconst 1, 1) := gd_PC_people_44.2.2.2.1
theorem d_PC_people_50 : decode prog_1_method_2_code 50 = .ok (.ireturn, 1) := gd_PC_people_44.2.2.2.2.1
theorem d_PC_people_10 : decode prog_1_method_2_code 10 = .ok (.bipush (-2), 2) := gd_PC_people_44.2.2.2.2.2.1
theorem d_PC_people_12 : decode prog_1_method_2_code 12 = .ok (.ireturn, 1) := gd_PC_people_44.2.2.2.2.2.2
theorem gd_PC_pair_0 : (decode prog_1_method_3_code 0 = .ok (.aload_n 0, 1)) ∧ (decode prog_1_method_3_code 1 = .ok (.getfield 12, 3)) ∧ (decode prog_1_method_3_code 4 = .ok (.iload_n 1, 1)) ∧ (decode prog_1_method_3_code 5 = .ok (.invokevirtual 77, 3)) ∧ (decode prog_1_method_3_code 8 = .ok (.ifCond .eq 19, 3)) ∧ (decode prog_1_method_3_code 27 = .ok (.bipush (-2), 2)) ∧ (decode prog_1_method_3_code 29 = .ok (.ireturn, 1)) ∧ (decode prog_1_method_3_code 11 = .ok (.aload_n 0, 1)) ∧ (decode prog_1_method_3_code 12 = .ok (.getfield 12, 3)) ∧ (decode prog_1_method_3_code 15 = .ok (.iload_n 2, 1)) := by decide +kernel
theorem d_PC_pair_0 : decode prog_1_method_3_code 0 = .ok (.aload_n 0, 1) := gd_PC_pair_0.1
theorem d_PC_pair_1 : decode prog_1_method_3_code 1 = .ok (.getfield 12, 3) := gd_PC_pair_0.2.1
theorem d_PC_pair_4 : decode prog_1_method_3_code 4 = .ok (.iload_n 1, 1) := gd_PC_pair_0.2.2.1
theorem d_PC_pair_5 : decode prog_1_method_3_code 5 = .ok (.invokevirtual 77, 3) := gd_PC_pair_0.2.2.2.1
theorem d_PC_pair_8 : decode prog_1_method_3_code 8 = .ok (.ifCond .eq 19, 3) := gd_PC_pair_0.2.2.2.2.1
theorem d_PC_pair_27 : decode prog_1_method_3_code 27 = .ok (.bipush (-2), 2) := gd_PC_pair_0.2.2.2.2.2.1
theorem d_PC_pair_29 : decode prog_1_method_3_code 29 = .ok (.ireturn, 1) := gd_PC_pair_0.2.2.2.2.2.2.1
theorem d_PC_pair_11 : decode prog_1_method_3_code 11 = .ok (.aload_n 0, 1) := gd_PC_pair_0.2.2.2.2.2.2.2.1
theorem d_PC_pair_12 : decode prog_1_method_3_code 12 = .ok (.getfield 12, 3) := gd_PC_pair_0.2.2.2.2.2.2.2.2.1
theorem d_PC_pair_15 : decode prog_1_method_3_code 15 = .ok (.iload_n 2, 1) := gd_PC_pair_0.2.2.2.2.2.2.2.2.2
theorem gd_PC_pair_16 : (decode prog_1_method_3_code 16 = .ok (.invokevirtual 77, 3)) ∧ (decode prog_1_method_3_code 19 = .ok (.ifCond .eq 8, 3)) ∧ (decode prog_1_method_3_code 22 = .ok (.iload_n 1, 1)) ∧ (decode prog_1_method_3_code 23 = .ok (.iload_n 2, 1)) ∧ (decode prog_1_method_3_code 24 = .ok (.if_icmp .ne 6, 3)) ∧ (decode prog_1_method_3_code 30 = .ok (.iload_n 3, 1)) ∧ (decode prog_1_method_3_code 31 = .ok (.iconst 0, 1)) ∧ (decode prog_1_method_3_code 32 = .ok (.ldc 81, 2)) ∧ (decode prog_1_method_3_code 34 = .ok (.invokestatic 65, 3)) ∧ (decode prog_1_method_3_code 37 = .ok (.ifCond .eq 14, 3)) := by decide +kernel
theorem d_PC_pair_16 : decode prog_1_method_3_code 16 = .ok (.invokevirtual 77, 3) := gd_PC_pair_16.1
theorem d_PC_pair_19 : decode prog_1_method_3_code 19 = .ok (.ifCond .eq 8, 3) := gd_PC_pair_16.2.1
theorem d_PC_pair_22 : decode prog_1_method_3_code 22 = .ok (.iload_n 1, 1) := gd_PC_pair_16.2.2.1
theorem d_PC_pair_23 : decode prog_1_method_3_code 23 = .ok (.iload_n 2, 1) := gd_PC_pair_16.2.2.2.1
theorem d_PC_pair_24 : decode prog_1_method_3_code 24 = .ok (.if_icmp .ne 6, 3) := gd_PC_pair_16.2.2.2.2.1
theorem d_PC_pair_30 : decode prog_1_method_3_code 30 = .ok (.iload_n 3, 1) := gd_PC_pair_16.2.2.2.2.2.1
theorem d_PC_pair_31 : decode prog_1_method_3_code 31 = .ok (.iconst 0, 1) := gd_PC_pair_16.2.2.2.2.2.2.1
theorem d_PC_pair_32 : decode prog_1_method_3_code 32 = .ok (.ldc 81, 2) := gd_PC_pair_16.2.2.2.2.2.2.2.1
theorem d_PC_pair_34 : decode prog_1_method_3_code 34 = .ok (.invokestatic 65, 3) := gd_PC_pair_16.2.2.2.2.2.2.2.2.1
theorem d_PC_pair_37 : decode prog_1_method_3_code 37 = .ok (.ifCond .eq 14, 3) := gd_PC_pair_16.2.2.2.2.2.2.2.2.2
theorem gd_PC_pair_51 : (decode prog_1_method_3_code 51 = .ok (.bipush (-2), 2)) ∧ (decode prog_1_method_3_code 53 = .ok (.ireturn, 1)) ∧ (decode prog_1_method_3_code 40 = .ok (.iload 4, 2)) ∧ (decode prog_1_method_3_code 42 = .ok (.iconst 0, 1)) ∧ (decode prog_1_method_3_code 43 = .ok (.ldc 81, 2)) ∧ (decode prog_1_method_3_code 45 = .ok (.invokestatic 65, 3)) ∧ (decode prog_1_method_3_code 48 = .ok (.ifCond .ne 6, 3)) ∧ (decode prog_1_method_3_code 54 = .ok (.aload_n 0, 1)) ∧ (decode prog_1_method_3_code 55 = .ok (.getfield 19, 3)) ∧ (decode prog_1_method_3_code 58 = .ok (.getfield 69, 3)) := by decide +kernel
theorem d_PC_pair_51 : decode prog_1_method_3_code 51 = .ok (.bipush (-2), 2) := gd_PC_pair_51.1
theorem d_PC_pair_53 : decode prog_1_method_3_code 53 = .ok (.ireturn, 1) := gd_PC_pair_51.2.1
theorem d_PC_pair_40 : decode prog_1_method_3_code 40 = .ok (.iload 4, 2) := gd_PC_pair_51.2.2.1
theorem d_PC_pair_42 : decode prog_1_method_3_code 42 = .ok (.iconst 0, 1) := gd_PC_pair_51.2.2.2.1
theorem d_PC_pair_43 : decode prog_1_method_3_code 43 = .ok (.ldc 81, 2) := gd_PC_pair_51.2.2.2.2.1
theorem d_PC_pair_45 : decode prog_1_method_3_code 45 = .ok (.invokestatic 65, 3) := gd_PC_pair_51.2.2.2.2.2.1
theorem d_PC_pair_48 : decode prog_1_method_3_code 48 = .ok (.ifCond .ne 6, 3) := gd_PC_pair_51.2.2.2.2.2.2.1
theorem d_PC_pair_54 : decode prog_1_method_3_code 54 = .ok (.aload_n 0, 1) := gd_PC_pair_51.2.2.2.2.2.2.2.1
theorem d_PC_pair_55 : decode prog_1_method_3_code 55 = .ok (.getfield 19, 3) := gd_PC_pair_51.2.2.2.2.2.2.2.2.1
theorem d_PC_pair_58 : decode prog_1_method_3_code 58 = .ok (.getfield 69, 3) := gd_PC_pair_51.2.2.2.2.2.2.2.2.2
theorem gd_PC_pair_61 : (decode prog_1_method_3_code 61 = .ok (.bipush 12, 2)) ∧ (decode prog_1_method_3_code 63 = .ok (.if_icmp .lt 6, 3)) ∧ (decode prog_1_method_3_code 69 = .ok (.aload_n 0, 1)) ∧ (decode prog_1_method_3_code 70 = .ok (.getfield 19, 3)) ∧ (decode prog_1_method_3_code 73 = .ok (.iload_n 1, 1)) ∧ (decode prog_1_method_3_code 74 = .ok (.iload_n 2, 1)) ∧ (decode prog_1_method_3_code 75 = .ok (.iload_n 3, 1)) ∧ (decode prog_1_method_3_code 76 = .ok (.iload 4, 2)) ∧ (decode prog_1_method_3_code 78 = .ok (.invokevirtual 82, 3)) ∧ (decode prog_1_method_3_code 81 = .ok (.ireturn, 1)) := by decide +kernel
theorem d_PC_pair_61 : decode prog_1_method_3_code 61 = .ok (.bipush 12, 2) := gd_PC_pair_61.1
theorem d_PC_pair_63 : decode prog_1_method_3_code 63 = .ok (.if_icmp .lt 6, 3) := gd_PC_pair_61.2.1
theorem d_PC_pair_69 : decode prog_1_method_3_code 69 = .ok (.aload_n 0, 1) := gd_PC_pair_61.2.2.1
theorem d_PC_pair_70 : decode prog_1_method_3_code 70 = .ok (.getfield 19, 3) := gd_PC_pair_61.2.2.2.1
theorem d_PC_pair_73 : decode prog_1_method_3_code 73 = .ok (.iload_n 1, 1) := gd_PC_pair_61.2.2.2.2.1
theorem d_PC_pair_74 : decode prog_1_method_3_code 74 = .ok (.iload_n 2, 1) := gd_PC_pair_61.2.2.2.2.2.1
theorem d_PC_pair_75 : decode prog_1_method_3_code 75 = .ok (.iload_n 3, 1) := gd_PC_pair_61.2.2.2.2.2.2.1
theorem d_PC_pair_76 : decode prog_1_method_3_code 76 = .ok (.iload 4, 2) := gd_PC_pair_61.2.2.2.2.2.2.2.1
theorem d_PC_pair_78 : decode prog_1_method_3_code 78 = .ok (.invokevirtual 82, 3) := gd_PC_pair_61.2.2.2.2.2.2.2.2.1
theorem d_PC_pair_81 : decode prog_1_method_3_code 81 = .ok (.ireturn, 1) := gd_PC_pair_61.2.2.2.2.2.2.2.2.2
theorem gd_PC_pair_66 : (decode prog_1_method_3_code 66 = .ok (.bipush (-4), 2)) ∧ (decode prog_1_method_3_code 68 = .ok (.ireturn, 1)) := by decide +kernel
theorem d_PC_pair_66 : decode prog_1_method_3_code 66 = .ok (.bipush (-4), 2) := gd_PC_pair_66.1
theorem d_PC_pair_68 : decode prog_1_method_3_code 68 = .ok (.ireturn, 1) := gd_PC_pair_66.2
theorem gd_PC_fee_0 : (decode prog_1_method_4_code 0 = .ok (.aload_n 0, 1)) ∧ (decode prog_1_method_4_code 1 = .ok (.getfield 12, 3)) ∧ (decode prog_1_method_4_code 4 = .ok (.iload_n 1, 1)) ∧ (decode prog_1_method_4_code 5 = .ok (.invokevirtual 77, 3)) ∧ (decode prog_1_method_4_code 8 = .ok (.ifCond .eq 23, 3)) ∧ (decode prog_1_method_4_code 31 = .ok (.bipush (-2), 2)) ∧ (decode prog_1_method_4_code 33 = .ok (.ireturn, 1)) ∧ (decode prog_1_method_4_code 11 = .ok (.iload_n 2, 1)) ∧ (decode prog_1_method_4_code 12 = .ok (.iconst 0, 1)) ∧ (decode prog_1_method_4_code 13 = .ok (.bipush 100, 2)) := by decide +kernel
theorem d_PC_fee_0 : decode prog_1_method_4_code 0 = .ok (.aload_n 0, 1) := gd_PC_fee_0.1
theorem d_PC_fee_1 : decode prog_1_method_4_code 1 = .ok (.getfield 12, 3) := gd_PC_fee_0.2.1
theorem d_PC_fee_4 : decode prog_1_method_4_code 4 = .ok (.iload_n 1, 1) := gd_PC_fee_0.2.2.1
theorem d_PC_fee_5 : decode prog_1_method_4_code 5 = .ok (.invokevirtual 77, 3) := gd_PC_fee_0.2.2.2.1
theorem d_PC_fee_8 : decode prog_1_method_4_code 8 = .ok (.ifCond .eq 23, 3) := gd_PC_fee_0.2.2.2.2.1
theorem d_PC_fee_31 : decode prog_1_method_4_code 31 = .ok (.bipush (-2), 2) := gd_PC_fee_0.2.2.2.2.2.1
theorem d_PC_fee_33 : decode prog_1_method_4_code 33 = .ok (.ireturn, 1) := gd_PC_fee_0.2.2.2.2.2.2.1
theorem d_PC_fee_11 : decode prog_1_method_4_code 11 = .ok (.iload_n 2, 1) := gd_PC_fee_0.2.2.2.2.2.2.2.1
theorem d_PC_fee_12 : decode prog_1_method_4_code 12 = .ok (.iconst 0, 1) := gd_PC_fee_0.2.2.2.2.2.2.2.2.1
theorem d_PC_fee_13 : decode prog_1_method_4_code 13 = .ok (.bipush 100, 2) := gd_PC_fee_0.2.2.2.2.2.2.2.2.2
theorem gd_PC_fee_15 : (decode prog_1_method_4_code 15 = .ok (.invokestatic 65, 3)) ∧ (decode prog_1_method_4_code 18 = .ok (.ifCond .eq 13, 3)) ∧ (decode prog_1_method_4_code 21 = .ok (.iload_n 3, 1)) ∧ (decode prog_1_method_4_code 22 = .ok (.iconst 0, 1)) ∧ (decode prog_1_method_4_code 23 = .ok (.bipush 100, 2)) ∧ (decode prog_1_method_4_code 25 = .ok (.invokestatic 65, 3)) ∧ (decode prog_1_method_4_code 28 = .ok (.ifCond .ne 6, 3)) ∧ (decode prog_1_method_4_code 34 = .ok (.aload_n 0, 1)) ∧ (decode prog_1_method_4_code 35 = .ok (.getfield 12, 3)) ∧ (decode prog_1_method_4_code 38 = .ok (.getfield 86, 3)) := by decide +kernel
theorem d_PC_fee_15 : decode prog_1_method_4_code 15 = .ok (.invokestatic 65, 3) := gd_PC_fee_15.1
theorem d_PC_fee_18 : decode prog_1_method_4_code 18 = .ok (.ifCond .eq 13, 3) := gd_PC_fee_15.2.1
theorem d_PC_fee_21 : decode prog_1_method_4_code 21 = .ok (.iload_n 3, 1) := gd_PC_fee_15.2.2.1
theorem d_PC_fee_22 : decode prog_1_method_4_code 22 = .ok (.iconst 0, 1) := gd_PC_fee_15.2.2.2.1
theorem d_PC_fee_23 : decode prog_1_method_4_code 23 = .ok (.bipush 100, 2) := gd_PC_fee_15.2.2.2.2.1
theorem d_PC_fee_25 : decode prog_1_method_4_code 25 = .ok (.invokestatic 65, 3) := gd_PC_fee_15.2.2.2.2.2.1
theorem d_PC_fee_28 : decode prog_1_method_4_code 28 = .ok (.ifCond .ne 6, 3) := gd_PC_fee_15.2.2.2.2.2.2.1
theorem d_PC_fee_34 : decode prog_1_method_4_code 34 = .ok (.aload_n 0, 1) := gd_PC_fee_15.2.2.2.2.2.2.2.1
theorem d_PC_fee_35 : decode prog_1_method_4_code 35 = .ok (.getfield 12, 3) := gd_PC_fee_15.2.2.2.2.2.2.2.2.1
theorem d_PC_fee_38 : decode prog_1_method_4_code 38 = .ok (.getfield 86, 3) := gd_PC_fee_15.2.2.2.2.2.2.2.2.2
theorem gd_PC_fee_41 : (decode prog_1_method_4_code 41 = .ok (.iload_n 1, 1)) ∧ (decode prog_1_method_4_code 42 = .ok (.iload_n 2, 1)) ∧ (decode prog_1_method_4_code 43 = .ok (.iastore, 1)) ∧ (decode prog_1_method_4_code 44 = .ok (.aload_n 0, 1)) ∧ (decode prog_1_method_4_code 45 = .ok (.getfield 12, 3)) ∧ (decode prog_1_method_4_code 48 = .ok (.getfield 90, 3)) ∧ (decode prog_1_method_4_code 51 = .ok (.iload_n 1, 1)) ∧ (decode prog_1_method_4_code 52 = .ok (.iload_n 3, 1)) ∧ (decode prog_1_method_4_code 53 = .ok (.iastore, 1)) ∧ (decode prog_1_method_4_code 54 = .ok (.iconst 1, 1)) := by decide +kernel
theorem d_PC_fee_41 : decode prog_1_method_4_code 41 = .ok (.iload_n 1, 1) := gd_PC_fee_41.1
theorem d_PC_fee_42 : decode prog_1_method_4_code 42 = .ok (.iload_n 2, 1) := gd_PC_fee_41.2.1
theorem d_PC_fee_43 : decode prog_1_method_4_code 43 = .ok (.iastore, 1) := gd_PC_fee_41.2.2.1
theorem d_PC_fee_44 : decode prog_1_method_4_code 44 = .ok (.aload_n 0, 1) := gd_PC_fee_41.2.2.2.1
theorem d_PC_fee_45 : decode prog_1_method_4_code 45 = .ok (.getfield 12, 3) := gd_PC_fee_41.2.2.2.2.1
theorem d_PC_fee_48 : decode prog_1_method_4_code 48 = .ok (.getfield 90, 3) := gd_PC_fee_41.2.2.2.2.2.1
theorem d_PC_fee_51 : decode prog_1_method_4_code 51 = .ok (.iload_n 1, 1) := gd_PC_fee_41.2.2.2.2.2.2.1
theorem d_PC_fee_52 : decode prog_1_method_4_code 52 = .ok (.iload_n 3, 1) := gd_PC_fee_41.2.2.2.2.2.2.2.1
theorem d_PC_fee_53 : decode prog_1_method_4_code 53 = .ok (.iastore, 1) := gd_PC_fee_41.2.2.2.2.2.2.2.2.1
theorem d_PC_fee_54 : decode prog_1_method_4_code 54 = .ok (.iconst 1, 1) := gd_PC_fee_41.2.2.2.2.2.2.2.2.2
theorem d_PC_fee_55 : decode prog_1_method_4_code 55 = .ok (.ireturn, 1) := by decide +kernel
theorem gd_PC_gap_0 : (decode prog_1_method_5_code 0 = .ok (.iload_n 1, 1)) ∧ (decode prog_1_method_5_code 1 = .ok (.iconst 1, 1)) ∧ (decode prog_1_method_5_code 2 = .ok (.bipush 50, 2)) ∧ (decode prog_1_method_5_code 4 = .ok (.invokestatic 65, 3)) ∧ (decode prog_1_method_5_code 7 = .ok (.ifCond .ne 6, 3)) ∧ (decode prog_1_method_5_code 13 = .ok (.aload_n 0, 1)) ∧ (decode prog_1_method_5_code 14 = .ok (.getfield 55, 3)) ∧ (decode prog_1_method_5_code 17 = .ok (.istore_n 2, 1)) ∧ (decode prog_1_method_5_code 18 = .ok (.aload_n 0, 1)) ∧ (decode prog_1_method_5_code 19 = .ok (.iload_n 1, 1)) := by decide +kernel
theorem d_PC_gap_0 : decode prog_1_method_5_code 0 = .ok (.iload_n 1, 1) := gd_PC_gap_0.1
theorem d_PC_gap_1 : decode prog_1_method_5_code 1 = .ok (.iconst 1, 1) := gd_PC_gap_0.2.1
theorem d_PC_gap_2 : decode prog_1_method_5_code 2 = .ok (.bipush 50, 2) := gd_PC_gap_0.2.2.1
theorem d_PC_gap_4 : decode prog_1_method_5_code 4 = .ok (.invokestatic 65, 3) := gd_PC_gap_0.2.2.2.1
theorem d_PC_gap_7 : decode prog_1_method_5_code 7 = .ok (.ifCond .ne 6, 3) := gd_PC_gap_0.2.2.2.2.1
theorem d_PC_gap_13 : decode prog_1_method_5_code 13 = .ok (.aload_n 0, 1) := gd_PC_gap_0.2.2.2.2.2.1
theorem d_PC_gap_14 : decode prog_1_method_5_code 14 = .ok (.getfield 55, 3) := gd_PC_gap_0.2.2.2.2.2.2.1
theorem d_PC_gap_17 : decode prog_1_method_5_code 17 = .ok (.istore_n 2, 1) := gd_PC_gap_0.2.2.2.2.2.2.2.1
theorem d_PC_gap_18 : decode prog_1_method_5_code 18 = .ok (.aload_n 0, 1) := gd_PC_gap_0.2.2.2.2.2.2.2.2.1
theorem d_PC_gap_19 : decode prog_1_method_5_code 19 = .ok (.iload_n 1, 1) := gd_PC_gap_0.2.2.2.2.2.2.2.2.2
theorem gd_PC_gap_20 : (decode prog_1_method_5_code 20 = .ok (.putfield 55, 3)) ∧ (decode prog_1_method_5_code 23 = .ok (.iload_n 2, 1)) ∧ (decode prog_1_method_5_code 24 = .ok (.ireturn, 1)) ∧ (decode prog_1_method_5_code 10 = .ok (.bipush (-2), 2)) ∧ (decode prog_1_method_5_code 12 = .ok (.ireturn, 1)) := by decide +kernel
theorem d_PC_gap_20 : decode prog_1_method_5_code 20 = .ok (.putfield 55, 3) := gd_PC_gap_20.1
theorem d_PC_gap_23 : decode prog_1_method_5_code 23 = .ok (.iload_n 2, 1) := gd_PC_gap_20.2.1
theorem d_PC_gap_24 : decode prog_1_method_5_code 24 = .ok (.ireturn, 1) := gd_PC_gap_20.2.2.1
theorem d_PC_gap_10 : decode prog_1_method_5_code 10 = .ok (.bipush (-2), 2) := gd_PC_gap_20.2.2.2.1
theorem d_PC_gap_12 : decode prog_1_method_5_code 12 = .ok (.ireturn, 1) := gd_PC_gap_20.2.2.2.2
theorem gd_PC_look_0 : (decode prog_1_method_6_code 0 = .ok (.iload_n 1, 1)) ∧ (decode prog_1_method_6_code 1 = .ok (.iconst 1, 1)) ∧ (decode prog_1_method_6_code 2 = .ok (.bipush 50, 2)) ∧ (decode prog_1_method_6_code 4 = .ok (.invokestatic 65, 3)) ∧ (decode prog_1_method_6_code 7 = .ok (.ifCond .ne 6, 3)) ∧ (decode prog_1_method_6_code 13 = .ok (.aload_n 0, 1)) ∧ (decode prog_1_method_6_code 14 = .ok (.getfield 58, 3)) ∧ (decode prog_1_method_6_code 17 = .ok (.istore_n 2, 1)) ∧ (decode prog_1_method_6_code 18 = .ok (.aload_n 0, 1)) ∧ (decode prog_1_method_6_code 19 = .ok (.iload_n 1, 1)) := by decide +kernel
theorem d_PC_look_0 : decode prog_1_method_6_code 0 = .ok (.iload_n 1, 1) := gd_PC_look_0.1
theorem d_PC_look_1 : decode prog_1_method_6_code 1 = .ok (.iconst 1, 1) := gd_PC_look_0.2.1
theorem d_PC_look_2 : decode prog_1_method_6_code 2 = .ok (.bipush 50, 2) := gd_PC_look_0.2.2.1
theorem d_PC_look_4 : decode prog_1_method_6_code 4 = .ok (.invokestatic 65, 3) := gd_PC_look_0.2.2.2.1
theorem d_PC_look_7 : decode prog_1_method_6_code 7 = .ok (.ifCond .ne 6, 3) := gd_PC_look_0.2.2.2.2.1
theorem d_PC_look_13 : decode prog_1_method_6_code 13 = .ok (.aload_n 0, 1) := gd_PC_look_0.2.2.2.2.2.1
theorem d_PC_look_14 : decode prog_1_method_6_code 14 = .ok (.getfield 58, 3) := gd_PC_look_0.2.2.2.2.2.2.1
theorem d_PC_look_17 : decode prog_1_method_6_code 17 = .ok (.istore_n 2, 1) := gd_PC_look_0.2.2.2.2.2.2.2.1
theorem d_PC_look_18 : decode prog_1_method_6_code 18 = .ok (.aload_n 0, 1) := gd_PC_look_0.2.2.2.2.2.2.2.2.1
theorem d_PC_look_19 : decode prog_1_method_6_code 19 = .ok (.iload_n 1, 1) := gd_PC_look_0.2.2.2.2.2.2.2.2.2
theorem gd_PC_look_20 : (decode prog_1_method_6_code 20 = .ok (.putfield 58, 3)) ∧ (decode prog_1_method_6_code 23 = .ok (.iload_n 2, 1)) ∧ (decode prog_1_method_6_code 24 = .ok (.ireturn, 1)) ∧ (decode prog_1_method_6_code 10 = .ok (.bipush (-2), 2)) ∧ (decode prog_1_method_6_code 12 = .ok (.ireturn, 1)) := by decide +kernel
theorem d_PC_look_20 : decode prog_1_method_6_code 20 = .ok (.putfield 58, 3) := gd_PC_look_20.1
theorem d_PC_look_23 : decode prog_1_method_6_code 23 = .ok (.iload_n 2, 1) := gd_PC_look_20.2.1
theorem d_PC_look_24 : decode prog_1_method_6_code 24 = .ok (.ireturn, 1) := gd_PC_look_20.2.2.1
theorem d_PC_look_10 : decode prog_1_method_6_code 10 = .ok (.bipush (-2), 2) := gd_PC_look_20.2.2.2.1
theorem d_PC_look_12 : decode prog_1_method_6_code 12 = .ok (.ireturn, 1) := gd_PC_look_20.2.2.2.2
theorem gd_PC_mayAskWay_0 : (decode prog_1_method_29_code 0 = .ok (.aload_n 0, 1)) ∧ (decode prog_1_method_29_code 1 = .ok (.getfield 12, 3)) ∧ (decode prog_1_method_29_code 4 = .ok (.iload_n 1, 1)) ∧ (decode prog_1_method_29_code 5 = .ok (.invokevirtual 77, 3)) ∧ (decode prog_1_method_29_code 8 = .ok (.ifCond .eq 33, 3)) ∧ (decode prog_1_method_29_code 41 = .ok (.iconst 0, 1)) ∧ (decode prog_1_method_29_code 42 = .ok (.ireturn, 1)) ∧ (decode prog_1_method_29_code 11 = .ok (.aload_n 0, 1)) ∧ (decode prog_1_method_29_code 12 = .ok (.getfield 12, 3)) ∧ (decode prog_1_method_29_code 15 = .ok (.iload_n 2, 1)) := by decide +kernel
theorem d_PC_mayAskWay_0 : decode prog_1_method_29_code 0 = .ok (.aload_n 0, 1) := gd_PC_mayAskWay_0.1
theorem d_PC_mayAskWay_1 : decode prog_1_method_29_code 1 = .ok (.getfield 12, 3) := gd_PC_mayAskWay_0.2.1
theorem d_PC_mayAskWay_4 : decode prog_1_method_29_code 4 = .ok (.iload_n 1, 1) := gd_PC_mayAskWay_0.2.2.1
theorem d_PC_mayAskWay_5 : decode prog_1_method_29_code 5 = .ok (.invokevirtual 77, 3) := gd_PC_mayAskWay_0.2.2.2.1
theorem d_PC_mayAskWay_8 : decode prog_1_method_29_code 8 = .ok (.ifCond .eq 33, 3) := gd_PC_mayAskWay_0.2.2.2.2.1
theorem d_PC_mayAskWay_41 : decode prog_1_method_29_code 41 = .ok (.iconst 0, 1) := gd_PC_mayAskWay_0.2.2.2.2.2.1
theorem d_PC_mayAskWay_42 : decode prog_1_method_29_code 42 = .ok (.ireturn, 1) := gd_PC_mayAskWay_0.2.2.2.2.2.2.1
theorem d_PC_mayAskWay_11 : decode prog_1_method_29_code 11 = .ok (.aload_n 0, 1) := gd_PC_mayAskWay_0.2.2.2.2.2.2.2.1
theorem d_PC_mayAskWay_12 : decode prog_1_method_29_code 12 = .ok (.getfield 12, 3) := gd_PC_mayAskWay_0.2.2.2.2.2.2.2.2.1
theorem d_PC_mayAskWay_15 : decode prog_1_method_29_code 15 = .ok (.iload_n 2, 1) := gd_PC_mayAskWay_0.2.2.2.2.2.2.2.2.2
theorem gd_PC_mayAskWay_16 : (decode prog_1_method_29_code 16 = .ok (.invokevirtual 77, 3)) ∧ (decode prog_1_method_29_code 19 = .ok (.ifCond .eq 22, 3)) ∧ (decode prog_1_method_29_code 22 = .ok (.iload_n 1, 1)) ∧ (decode prog_1_method_29_code 23 = .ok (.iload_n 2, 1)) ∧ (decode prog_1_method_29_code 24 = .ok (.if_icmp .eq 17, 3)) ∧ (decode prog_1_method_29_code 27 = .ok (.iload_n 3, 1)) ∧ (decode prog_1_method_29_code 28 = .ok (.iconst 1, 1)) ∧ (decode prog_1_method_29_code 29 = .ok (.ldc 81, 2)) ∧ (decode prog_1_method_29_code 31 = .ok (.invokestatic 65, 3)) ∧ (decode prog_1_method_29_code 34 = .ok (.ifCond .eq 7, 3)) := by decide +kernel
theorem d_PC_mayAskWay_16 : decode prog_1_method_29_code 16 = .ok (.invokevirtual 77, 3) := gd_PC_mayAskWay_16.1
theorem d_PC_mayAskWay_19 : decode prog_1_method_29_code 19 = .ok (.ifCond .eq 22, 3) := gd_PC_mayAskWay_16.2.1
theorem d_PC_mayAskWay_22 : decode prog_1_method_29_code 22 = .ok (.iload_n 1, 1) := gd_PC_mayAskWay_16.2.2.1
theorem d_PC_mayAskWay_23 : decode prog_1_method_29_code 23 = .ok (.iload_n 2, 1) := gd_PC_mayAskWay_16.2.2.2.1
theorem d_PC_mayAskWay_24 : decode prog_1_method_29_code 24 = .ok (.if_icmp .eq 17, 3) := gd_PC_mayAskWay_16.2.2.2.2.1
theorem d_PC_mayAskWay_27 : decode prog_1_method_29_code 27 = .ok (.iload_n 3, 1) := gd_PC_mayAskWay_16.2.2.2.2.2.1
theorem d_PC_mayAskWay_28 : decode prog_1_method_29_code 28 = .ok (.iconst 1, 1) := gd_PC_mayAskWay_16.2.2.2.2.2.2.1
theorem d_PC_mayAskWay_29 : decode prog_1_method_29_code 29 = .ok (.ldc 81, 2) := gd_PC_mayAskWay_16.2.2.2.2.2.2.2.1
theorem d_PC_mayAskWay_31 : decode prog_1_method_29_code 31 = .ok (.invokestatic 65, 3) := gd_PC_mayAskWay_16.2.2.2.2.2.2.2.2.1
theorem d_PC_mayAskWay_34 : decode prog_1_method_29_code 34 = .ok (.ifCond .eq 7, 3) := gd_PC_mayAskWay_16.2.2.2.2.2.2.2.2.2
theorem gd_PC_mayAskWay_37 : (decode prog_1_method_29_code 37 = .ok (.iconst 1, 1)) ∧ (decode prog_1_method_29_code 38 = .ok (.goto 4, 3)) := by decide +kernel
theorem d_PC_mayAskWay_37 : decode prog_1_method_29_code 37 = .ok (.iconst 1, 1) := gd_PC_mayAskWay_37.1
theorem d_PC_mayAskWay_38 : decode prog_1_method_29_code 38 = .ok (.goto 4, 3) := gd_PC_mayAskWay_37.2
theorem gd_PC_findWay_0 : (decode prog_1_method_30_code 0 = .ok (.aload_n 0, 1)) ∧ (decode prog_1_method_30_code 1 = .ok (.getfield 33, 3)) ∧ (decode prog_1_method_30_code 4 = .ok (.iload_n 1, 1)) ∧ (decode prog_1_method_30_code 5 = .ok (.iload_n 2, 1)) ∧ (decode prog_1_method_30_code 6 = .ok (.invokevirtual 269, 3)) ∧ (decode prog_1_method_30_code 9 = .ok (.aload_n 0, 1)) ∧ (decode prog_1_method_30_code 10 = .ok (.getfield 33, 3)) ∧ (decode prog_1_method_30_code 13 = .ok (.aload_n 0, 1)) ∧ (decode prog_1_method_30_code 14 = .ok (.getfield 12, 3)) ∧ (decode prog_1_method_30_code 17 = .ok (.aload_n 0, 1)) := by decide +kernel
theorem d_PC_findWay_0 : decode prog_1_method_30_code 0 = .ok (.aload_n 0, 1) := gd_PC_findWay_0.1
theorem d_PC_findWay_1 : decode prog_1_method_30_code 1 = .ok (.getfield 33, 3) := gd_PC_findWay_0.2.1
theorem d_PC_findWay_4 : decode prog_1_method_30_code 4 = .ok (.iload_n 1, 1) := gd_PC_findWay_0.2.2.1
theorem d_PC_findWay_5 : decode prog_1_method_30_code 5 = .ok (.iload_n 2, 1) := gd_PC_findWay_0.2.2.2.1
theorem d_PC_findWay_6 : decode prog_1_method_30_code 6 = .ok (.invokevirtual 269, 3) := gd_PC_findWay_0.2.2.2.2.1
theorem d_PC_findWay_9 : decode prog_1_method_30_code 9 = .ok (.aload_n 0, 1) := gd_PC_findWay_0.2.2.2.2.2.1
theorem d_PC_findWay_10 : decode prog_1_method_30_code 10 = .ok (.getfield 33, 3) := gd_PC_findWay_0.2.2.2.2.2.2.1
theorem d_PC_findWay_13 : decode prog_1_method_30_code 13 = .ok (.aload_n 0, 1) := gd_PC_findWay_0.2.2.2.2.2.2.2.1
theorem d_PC_findWay_14 : decode prog_1_method_30_code 14 = .ok (.getfield 12, 3) := gd_PC_findWay_0.2.2.2.2.2.2.2.2.1
theorem d_PC_findWay_17 : decode prog_1_method_30_code 17 = .ok (.aload_n 0, 1) := gd_PC_findWay_0.2.2.2.2.2.2.2.2.2
theorem gd_PC_findWay_18 : (decode prog_1_method_30_code 18 = .ok (.getfield 19, 3)) ∧ (decode prog_1_method_30_code 21 = .ok (.iload_n 2, 1)) ∧ (decode prog_1_method_30_code 22 = .ok (.iload_n 3, 1)) ∧ (decode prog_1_method_30_code 23 = .ok (.iconst 0, 1)) ∧ (decode prog_1_method_30_code 24 = .ok (.invokestatic 272, 3)) ∧ (decode prog_1_method_30_code 27 = .ok (.aload_n 0, 1)) ∧ (decode prog_1_method_30_code 28 = .ok (.getfield 33, 3)) ∧ (decode prog_1_method_30_code 31 = .ok (.getfield 111, 3)) ∧ (decode prog_1_method_30_code 34 = .ok (.getfield 74, 3)) ∧ (decode prog_1_method_30_code 37 = .ok (.ifCond .le 7, 3)) := by decide +kernel
theorem d_PC_findWay_18 : decode prog_1_method_30_code 18 = .ok (.getfield 19, 3) := gd_PC_findWay_18.1
theorem d_PC_findWay_21 : decode prog_1_method_30_code 21 = .ok (.iload_n 2, 1) := gd_PC_findWay_18.2.1
theorem d_PC_findWay_22 : decode prog_1_method_30_code 22 = .ok (.iload_n 3, 1) := gd_PC_findWay_18.2.2.1
theorem d_PC_findWay_23 : decode prog_1_method_30_code 23 = .ok (.iconst 0, 1) := gd_PC_findWay_18.2.2.2.1
theorem d_PC_findWay_24 : decode prog_1_method_30_code 24 = .ok (.invokestatic 272, 3) := gd_PC_findWay_18.2.2.2.2.1
theorem d_PC_findWay_27 : decode prog_1_method_30_code 27 = .ok (.aload_n 0, 1) := gd_PC_findWay_18.2.2.2.2.2.1
theorem d_PC_findWay_28 : decode prog_1_method_30_code 28 = .ok (.getfield 33, 3) := gd_PC_findWay_18.2.2.2.2.2.2.1
theorem d_PC_findWay_31 : decode prog_1_method_30_code 31 = .ok (.getfield 111, 3) := gd_PC_findWay_18.2.2.2.2.2.2.2.1
theorem d_PC_findWay_34 : decode prog_1_method_30_code 34 = .ok (.getfield 74, 3) := gd_PC_findWay_18.2.2.2.2.2.2.2.2.1
theorem d_PC_findWay_37 : decode prog_1_method_30_code 37 = .ok (.ifCond .le 7, 3) := gd_PC_findWay_18.2.2.2.2.2.2.2.2.2
theorem gd_PC_findWay_44 : (decode prog_1_method_30_code 44 = .ok (.iconst 0, 1)) ∧ (decode prog_1_method_30_code 45 = .ok (.ireturn, 1)) ∧ (decode prog_1_method_30_code 40 = .ok (.iconst 1, 1)) ∧ (decode prog_1_method_30_code 41 = .ok (.goto 4, 3)) := by decide +kernel
theorem d_PC_findWay_44 : decode prog_1_method_30_code 44 = .ok (.iconst 0, 1) := gd_PC_findWay_44.1
theorem d_PC_findWay_45 : decode prog_1_method_30_code 45 = .ok (.ireturn, 1) := gd_PC_findWay_44.2.1
theorem d_PC_findWay_40 : decode prog_1_method_30_code 40 = .ok (.iconst 1, 1) := gd_PC_findWay_44.2.2.1
theorem d_PC_findWay_41 : decode prog_1_method_30_code 41 = .ok (.goto 4, 3) := gd_PC_findWay_44.2.2.2
theorem gd_PC_best_0 : (decode prog_1_method_8_code 0 = .ok (.aload_n 0, 1)) ∧ (decode prog_1_method_8_code 1 = .ok (.iload_n 1, 1)) ∧ (decode prog_1_method_8_code 2 = .ok (.iload_n 2, 1)) ∧ (decode prog_1_method_8_code 3 = .ok (.iload_n 3, 1)) ∧ (decode prog_1_method_8_code 4 = .ok (.invokevirtual 105, 3)) ∧ (decode prog_1_method_8_code 7 = .ok (.ifCond .ne 6, 3)) ∧ (decode prog_1_method_8_code 10 = .ok (.bipush (-2), 2)) ∧ (decode prog_1_method_8_code 12 = .ok (.ireturn, 1)) ∧ (decode prog_1_method_8_code 13 = .ok (.aload_n 0, 1)) ∧ (decode prog_1_method_8_code 14 = .ok (.iload_n 1, 1)) := by decide +kernel
theorem d_PC_best_0 : decode prog_1_method_8_code 0 = .ok (.aload_n 0, 1) := gd_PC_best_0.1
theorem d_PC_best_1 : decode prog_1_method_8_code 1 = .ok (.iload_n 1, 1) := gd_PC_best_0.2.1
theorem d_PC_best_2 : decode prog_1_method_8_code 2 = .ok (.iload_n 2, 1) := gd_PC_best_0.2.2.1
theorem d_PC_best_3 : decode prog_1_method_8_code 3 = .ok (.iload_n 3, 1) := gd_PC_best_0.2.2.2.1
theorem d_PC_best_4 : decode prog_1_method_8_code 4 = .ok (.invokevirtual 105, 3) := gd_PC_best_0.2.2.2.2.1
theorem d_PC_best_7 : decode prog_1_method_8_code 7 = .ok (.ifCond .ne 6, 3) := gd_PC_best_0.2.2.2.2.2.1
theorem d_PC_best_10 : decode prog_1_method_8_code 10 = .ok (.bipush (-2), 2) := gd_PC_best_0.2.2.2.2.2.2.1
theorem d_PC_best_12 : decode prog_1_method_8_code 12 = .ok (.ireturn, 1) := gd_PC_best_0.2.2.2.2.2.2.2.1
theorem d_PC_best_13 : decode prog_1_method_8_code 13 = .ok (.aload_n 0, 1) := gd_PC_best_0.2.2.2.2.2.2.2.2.1
theorem d_PC_best_14 : decode prog_1_method_8_code 14 = .ok (.iload_n 1, 1) := gd_PC_best_0.2.2.2.2.2.2.2.2.2
theorem gd_PC_best_15 : (decode prog_1_method_8_code 15 = .ok (.iload_n 2, 1)) ∧ (decode prog_1_method_8_code 16 = .ok (.iload_n 3, 1)) ∧ (decode prog_1_method_8_code 17 = .ok (.invokevirtual 108, 3)) ∧ (decode prog_1_method_8_code 20 = .ok (.ifCond .ne 5, 3)) ∧ (decode prog_1_method_8_code 23 = .ok (.iconst (-1), 1)) ∧ (decode prog_1_method_8_code 24 = .ok (.ireturn, 1)) ∧ (decode prog_1_method_8_code 25 = .ok (.aload_n 0, 1)) ∧ (decode prog_1_method_8_code 26 = .ok (.getfield 47, 3)) ∧ (decode prog_1_method_8_code 29 = .ok (.aload_n 0, 1)) ∧ (decode prog_1_method_8_code 30 = .ok (.getfield 33, 3)) := by decide +kernel
theorem d_PC_best_15 : decode prog_1_method_8_code 15 = .ok (.iload_n 2, 1) := gd_PC_best_15.1
theorem d_PC_best_16 : decode prog_1_method_8_code 16 = .ok (.iload_n 3, 1) := gd_PC_best_15.2.1
theorem d_PC_best_17 : decode prog_1_method_8_code 17 = .ok (.invokevirtual 108, 3) := gd_PC_best_15.2.2.1
theorem d_PC_best_20 : decode prog_1_method_8_code 20 = .ok (.ifCond .ne 5, 3) := gd_PC_best_15.2.2.2.1
theorem d_PC_best_23 : decode prog_1_method_8_code 23 = .ok (.iconst (-1), 1) := gd_PC_best_15.2.2.2.2.1
theorem d_PC_best_24 : decode prog_1_method_8_code 24 = .ok (.ireturn, 1) := gd_PC_best_15.2.2.2.2.2.1
theorem d_PC_best_25 : decode prog_1_method_8_code 25 = .ok (.aload_n 0, 1) := gd_PC_best_15.2.2.2.2.2.2.1
theorem d_PC_best_26 : decode prog_1_method_8_code 26 = .ok (.getfield 47, 3) := gd_PC_best_15.2.2.2.2.2.2.2.1
theorem d_PC_best_29 : decode prog_1_method_8_code 29 = .ok (.aload_n 0, 1) := gd_PC_best_15.2.2.2.2.2.2.2.2.1
theorem d_PC_best_30 : decode prog_1_method_8_code 30 = .ok (.getfield 33, 3) := gd_PC_best_15.2.2.2.2.2.2.2.2.2
theorem gd_PC_best_33 : (decode prog_1_method_8_code 33 = .ok (.getfield 111, 3)) ∧ (decode prog_1_method_8_code 36 = .ok (.invokevirtual 114, 3)) ∧ (decode prog_1_method_8_code 39 = .ok (.aload_n 0, 1)) ∧ (decode prog_1_method_8_code 40 = .ok (.getfield 33, 3)) ∧ (decode prog_1_method_8_code 43 = .ok (.getfield 118, 3)) ∧ (decode prog_1_method_8_code 46 = .ok (.ireturn, 1)) := by decide +kernel
theorem d_PC_best_33 : decode prog_1_method_8_code 33 = .ok (.getfield 111, 3) := gd_PC_best_33.1
theorem d_PC_best_36 : decode prog_1_method_8_code 36 = .ok (.invokevirtual 114, 3) := gd_PC_best_33.2.1
theorem d_PC_best_39 : decode prog_1_method_8_code 39 = .ok (.aload_n 0, 1) := gd_PC_best_33.2.2.1
theorem d_PC_best_40 : decode prog_1_method_8_code 40 = .ok (.getfield 33, 3) := gd_PC_best_33.2.2.2.1
theorem d_PC_best_43 : decode prog_1_method_8_code 43 = .ok (.getfield 118, 3) := gd_PC_best_33.2.2.2.2.1
theorem d_PC_best_46 : decode prog_1_method_8_code 46 = .ok (.ireturn, 1) := gd_PC_best_33.2.2.2.2.2
set_option maxHeartbeats 4000000 in
set_option maxRecDepth 100000 in
theorem e_PE_begin (l : Launch) (D : va_G) (cI cZ : ClassId) (f0 : Nat) (u : Int32) (n0 : Int32) (f1 : Nat) (f2 : Nat) (f3 : Nat) (f4 : Nat) (FC : Nat → Int32) (FB : Nat → Int32) (FR : Nat → Int32) (FA : Nat → Int32) (sz : Nat)  : Met l ⟨"PromiseChains$People", "begin", "(I)V"⟩ (mw ⟨"PromiseChains$People", "begin", "(I)V"⟩ prog_3_method_2_code 3 none) ({ frames := 0, cells := 0, slots := 0, locals := 0 }) (va_Pc [.ref f0, .int u] (PB D cI cZ sz [(f0, .inr (1, [.int n0, .ref f1, .ref f2, .ref f3, .ref f4])), (f1, .inl (cI, 7, .inl FC)), (f2, .inl (cI, 7, .inl FB)), (f3, .inl (cI, 7, .inl FR)), (f4, .inl (cZ, 7, .inl FA))])) (va_Qv (S := Unit) (fun uU => True) (fun uU tT => BB D (va_A [(f0, .inr (1, [.int n0, .ref f1, .ref f2, .ref f3, .ref f4])), (f1, .inl (cI, 7, .inl FC)), (f2, .inl (cI, 7, .inl FB)), (f3, .inl (cI, 7, .inl FR)), (f4, .inl (cZ, 7, .inl FA))] sz) [(f0, .inr (1, [.int u, .ref f1, .ref f2, .ref f3, .ref f4])), (f1, .inl (cI, 7, .inl (zf 7 FC))), (f2, .inl (cI, 7, .inl (zf 7 FB))), (f3, .inl (cI, 7, .inl (zf 7 FR))), (f4, .inl (cZ, 7, .inl (zf 7 FA)))] tT) (va_A [(f0, .inr (1, [.int n0, .ref f1, .ref f2, .ref f3, .ref f4])), (f1, .inl (cI, 7, .inl FC)), (f2, .inl (cI, 7, .inl FB)), (f3, .inl (cI, 7, .inl FR)), (f4, .inl (cZ, 7, .inl FA))] sz)) 0 0 (va_A [(f0, .inr (1, [.int n0, .ref f1, .ref f2, .ref f3, .ref f4])), (f1, .inl (cI, 7, .inl FC)), (f2, .inl (cI, 7, .inl FB)), (f3, .inl (cI, 7, .inl FR)), (f4, .inl (cZ, 7, .inl FA))] sz) := by
  refine Met.ofW (cc := prog_3_method_2_code) (maxL := 3) (ret := none) (by decide) rfl ?_
  intro p e s m args below meth c s₁ B hml hv
  obtain ⟨rfl, hsz, hP, hK, hD0, hN⟩ := hv
  have hx := B.exec
  have hb := B.bytes
  have hr := B.returns
  have hts0 := atoms_spec (ws := mw ⟨"PromiseChains$People", "begin", "(I)V"⟩ prog_3_method_2_code 3 none) B.pre
  have hts : ∀ w ∈ tblG, w.before _ s = true := fun w h => hts0 w (List.mem_cons_of_mem _ h)
  have hown : s.vm.findClass "PromiseChains$People" = some m.cls := findClass_of_methodNamed B.named
  have hlocks := B.notSynchronized
  subst hsz
  have hD := hD0.self (sz := s.heap.size)
  generalize hAe : va_A [(f0, .inr (1, [.int n0, .ref f1, .ref f2, .ref f3, .ref f4])), (f1, .inl (cI, 7, .inl FC)), (f2, .inl (cI, 7, .inl FB)), (f3, .inl (cI, 7, .inl FR)), (f4, .inl (cZ, 7, .inl FA))] s.heap.size = A at hD ⊢
  have hA : ∀ q : Nat, s.heap.size ≤ q → A q := fun q h => by rw [← hAe]; exact Or.inr h
  have hS : va_S A s.heap s.heap [] := va_S.rf
  have hP : va_P D vwCl [(f0, .inr (1, [.int n0, .ref f1, .ref f2, .ref f3, .ref f4])), (f1, .inl (cI, 7, .inl FC)), (f2, .inl (cI, 7, .inl FB)), (f3, .inl (cI, 7, .inl FR)), (f4, .inl (cZ, 7, .inl FA))] s.heap := hP
  have hl := lv_entry ([.ref f0, .int u]) (n := 3) (Nat.le_of_ble_eq_true rfl)
  rw [lg_entry_eq]
  generalize (lg_sl ([.ref f0, .int u]) ++ List.replicate (3 - (lg_sl ([.ref f0, .int u])).length) Slot.unset).toArray = ls at hl ⊢
  have hl : lv_has ls 3 [(0, .ref f0), (1, .int u)] := hl
  refine lv_aload_n hx hb d_PE_begin_0 rfl (lv_at hl 0 rfl) ?_
  refine lv_iload_n hx hb d_PE_begin_1 rfl (lv_at hl 1 rfl) ?_
  refine va_put (D := D) (ci := 1) (v := .int u) (ty := .int) (C := R_PE) (T := F_PE) (N := 5) hx hb hts i_PE t_PE t_PE_ok n_PE hown hK hP hD hS 0 rfl rfl 0 (by decide) (hts _ q_24) (fun _ h9 => h9) rfl (by decide +kernel) rfl rfl (Nat.le_of_ble_eq_true rfl) d_PE_begin_2 (fun H_1 locs hP hD hS => ?_)
  have hP : va_P D vwCl [(f0, .inr (1, [.int u, .ref f1, .ref f2, .ref f3, .ref f4])), (f1, .inl (cI, 7, .inl FC)), (f2, .inl (cI, 7, .inl FB)), (f3, .inl (cI, 7, .inl FR)), (f4, .inl (cZ, 7, .inl FA))] H_1 := hP
  refine lv_iconst (v := 0) hx hb d_PE_begin_5 (by decide) ?_
  refine lv_istore_n (lv' := [(2, .int 0), (0, .ref f0), (1, .int u)]) hx hb d_PE_begin_6 rfl hl (by decide) rfl (fun ls hl => ?_)
  refine W_loop (σ := Nat × (Nat → Int32) × (Nat → Int32) × (Nat → Int32) × (Nat → Int32)) (I := fun xX H locs ls => xX.1 ≤ 7 ∧ xX.2.1 = zf xX.1 FC ∧ xX.2.2.1 = zf xX.1 FB ∧ xX.2.2.2.1 = zf xX.1 FR ∧ xX.2.2.2.2 = zf xX.1 FA ∧ va_P D vwCl [(f0, .inr (1, [.int u, .ref f1, .ref f2, .ref f3, .ref f4])), (f1, .inl (cI, 7, .inl xX.2.1)), (f2, .inl (cI, 7, .inl xX.2.2.1)), (f3, .inl (cI, 7, .inl xX.2.2.2.1)), (f4, .inl (cZ, 7, .inl xX.2.2.2.2))] H ∧ va_D A [(f0, .inr (1, [.int u, .ref f1, .ref f2, .ref f3, .ref f4])), (f1, .inl (cI, 7, .inl xX.2.1)), (f2, .inl (cI, 7, .inl xX.2.2.1)), (f3, .inl (cI, 7, .inl xX.2.2.2.1)), (f4, .inl (cZ, 7, .inl xX.2.2.2.2))] ∧ va_S A s.heap H locs ∧ lv_has ls 3 [(2, .int (nI xX.1)), (1, .int u), (0, .ref f0)]) (μ := fun xX => 8 - xX.1) ?_ (0, FC, FB, FR, FA) ⟨(by first | omega | (dsimp only; omega)), (zf_0 _).symm, (zf_0 _).symm, (zf_0 _).symm, (zf_0 _).symm, hP, hD, hS, lv_sub hl [0, 2, 1] rfl⟩
  intro xX H_2 locs ls hI ih1
  obtain ⟨i_l, FC_1, FB_1, FR_1, FA_1⟩ := xX
  obtain ⟨hi, c1, c2, c3, c4, hP, hD, hS, hl⟩ := hI
  have hP : va_P D vwCl [(f0, .inr (1, [.int u, .ref f1, .ref f2, .ref f3, .ref f4])), (f1, .inl (cI, 7, .inl FC_1)), (f2, .inl (cI, 7, .inl FB_1)), (f3, .inl (cI, 7, .inl FR_1)), (f4, .inl (cZ, 7, .inl FA_1))] H_2 := hP
  have hl : lv_has ls 3 [(2, .int (nI i_l)), (1, .int u), (0, .ref f0)] := hl
  have hi : i_l ≤ 7 := hi
  have c1 : FC_1 = zf i_l FC := c1
  have c2 : FB_1 = zf i_l FB := c2
  have c3 : FR_1 = zf i_l FR := c3
  have c4 : FA_1 = zf i_l FA := c4
  refine lv_iload_n hx hb d_PE_begin_7 rfl (lv_at hl 0 rfl) ?_
  refine lv_bipush (v := 7) hx hb d_PE_begin_8 (by decide) ?_
  refine lv_icmp_ge (tgt := 47) hx hb d_PE_begin_10 (by decide) (fun h_3 => ?_) (fun h_3 => ?_)
  · have nh_3 : 7 ≤ i_l := (nI_leI (a := 7) (b := i_l) (by omega) (by omega)).mp h_3
    have hr_4 : FC_1 = zf 7 FC := by rw [c1, show i_l = 7 by omega]
    have hP : va_P D vwCl [(f0, .inr (1, [.int u, .ref f1, .ref f2, .ref f3, .ref f4])), (f1, .inl (cI, 7, .inl (zf 7 FC))), (f2, .inl (cI, 7, .inl FB_1)), (f3, .inl (cI, 7, .inl FR_1)), (f4, .inl (cZ, 7, .inl FA_1))] H_2 := by rw [← hr_4]; exact hP
    have hD : va_D A [(f0, .inr (1, [.int u, .ref f1, .ref f2, .ref f3, .ref f4])), (f1, .inl (cI, 7, .inl (zf 7 FC))), (f2, .inl (cI, 7, .inl FB_1)), (f3, .inl (cI, 7, .inl FR_1)), (f4, .inl (cZ, 7, .inl FA_1))] := by rw [← hr_4]; exact hD
    have hr_5 : FB_1 = zf 7 FB := by rw [c2, show i_l = 7 by omega]
    have hP : va_P D vwCl [(f0, .inr (1, [.int u, .ref f1, .ref f2, .ref f3, .ref f4])), (f1, .inl (cI, 7, .inl (zf 7 FC))), (f2, .inl (cI, 7, .inl (zf 7 FB))), (f3, .inl (cI, 7, .inl FR_1)), (f4, .inl (cZ, 7, .inl FA_1))] H_2 := by rw [← hr_5]; exact hP
    have hD : va_D A [(f0, .inr (1, [.int u, .ref f1, .ref f2, .ref f3, .ref f4])), (f1, .inl (cI, 7, .inl (zf 7 FC))), (f2, .inl (cI, 7, .inl (zf 7 FB))), (f3, .inl (cI, 7, .inl FR_1)), (f4, .inl (cZ, 7, .inl FA_1))] := by rw [← hr_5]; exact hD
    have hr_6 : FR_1 = zf 7 FR := by rw [c3, show i_l = 7 by omega]
    have hP : va_P D vwCl [(f0, .inr (1, [.int u, .ref f1, .ref f2, .ref f3, .ref f4])), (f1, .inl (cI, 7, .inl (zf 7 FC))), (f2, .inl (cI, 7, .inl (zf 7 FB))), (f3, .inl (cI, 7, .inl (zf 7 FR))), (f4, .inl (cZ, 7, .inl FA_1))] H_2 := by rw [← hr_6]; exact hP
    have hD : va_D A [(f0, .inr (1, [.int u, .ref f1, .ref f2, .ref f3, .ref f4])), (f1, .inl (cI, 7, .inl (zf 7 FC))), (f2, .inl (cI, 7, .inl (zf 7 FB))), (f3, .inl (cI, 7, .inl (zf 7 FR))), (f4, .inl (cZ, 7, .inl FA_1))] := by rw [← hr_6]; exact hD
    have hr_7 : FA_1 = zf 7 FA := by rw [c4, show i_l = 7 by omega]
    have hP : va_P D vwCl [(f0, .inr (1, [.int u, .ref f1, .ref f2, .ref f3, .ref f4])), (f1, .inl (cI, 7, .inl (zf 7 FC))), (f2, .inl (cI, 7, .inl (zf 7 FB))), (f3, .inl (cI, 7, .inl (zf 7 FR))), (f4, .inl (cZ, 7, .inl (zf 7 FA)))] H_2 := by rw [← hr_7]; exact hP
    have hD : va_D A [(f0, .inr (1, [.int u, .ref f1, .ref f2, .ref f3, .ref f4])), (f1, .inl (cI, 7, .inl (zf 7 FC))), (f2, .inl (cI, 7, .inl (zf 7 FB))), (f3, .inl (cI, 7, .inl (zf 7 FR))), (f4, .inl (cZ, 7, .inl (zf 7 FA)))] := by rw [← hr_7]; exact hD
    have hP : va_P D vwCl [(f0, .inr (1, [.int u, .ref f1, .ref f2, .ref f3, .ref f4])), (f1, .inl (cI, 7, .inl (zf 7 FC))), (f2, .inl (cI, 7, .inl (zf 7 FB))), (f3, .inl (cI, 7, .inl (zf 7 FR))), (f4, .inl (cZ, 7, .inl (zf 7 FA)))] H_2 := hP
    have hP9 := hP.sub (ws' := [(f0, .inr (1, [.int u, .ref f1, .ref f2, .ref f3, .ref f4])), (f1, .inl (cI, 7, .inl (zf 7 FC))), (f2, .inl (cI, 7, .inl (zf 7 FB))), (f3, .inl (cI, 7, .inl (zf 7 FR))), (f4, .inl (cZ, 7, .inl (zf 7 FA)))]) [0, 1, 2, 3, 4] rfl
    have hD9 := hD.sub (ws' := [(f0, .inr (1, [.int u, .ref f1, .ref f2, .ref f3, .ref f4])), (f1, .inl (cI, 7, .inl (zf 7 FC))), (f2, .inl (cI, 7, .inl (zf 7 FB))), (f3, .inl (cI, 7, .inl (zf 7 FR))), (f4, .inl (cZ, 7, .inl (zf 7 FA)))]) [0, 1, 2, 3, 4] (by decide +kernel) rfl
    refine W.widen (k := 0) (n := 0) (Nat.le_of_ble_eq_true rfl) (Nat.le_of_ble_eq_true rfl) ?_
    exact W.vret hx hb hr (fun tT ht hW => ⟨⟨(), rfl, trivial, by rw [ht]; exact hP9, hD9⟩, hS.F ht⟩) hS.2.2 d_PE_begin_47
  · have nh_3 : ¬ 7 ≤ i_l := fun qZ => h_3 ((nI_leI (a := 7) (b := i_l) (by omega) (by omega)).mpr qZ)
    refine lv_aload_n hx hb d_PE_begin_13 rfl (lv_at hl 2 rfl) ?_
    refine va_get (D := D) (ci := 1) (v := .ref f1) (C := R_PE) (T := F_PE) (N := 5) hx hb hts i_PE hown hK hP 0 rfl rfl 1 (by decide) (hts _ q_26) (fun _ h9 => h9) rfl d_PE_begin_14 ?_
    refine lv_iload_n hx hb d_PE_begin_17 rfl (lv_at hl 0 rfl) ?_
    refine lv_iconst (v := 0) hx hb d_PE_begin_18 (by decide) ?_
    refine my_stI hx hb hK hP hD hS 1 rfl i_l rfl (by omega) (by decide) d_PE_begin_19 (fun H_8 locs hP hD hS => ?_)
    have hP : va_P D vwCl [(f0, .inr (1, [.int u, .ref f1, .ref f2, .ref f3, .ref f4])), (f1, .inl (cI, 7, .inl (upd FC_1 i_l 0))), (f2, .inl (cI, 7, .inl FB_1)), (f3, .inl (cI, 7, .inl FR_1)), (f4, .inl (cZ, 7, .inl FA_1))] H_8 := hP
    refine lv_aload_n hx hb d_PE_begin_20 rfl (lv_at hl 2 rfl) ?_
    refine va_get (D := D) (ci := 1) (v := .ref f2) (C := R_PE) (T := F_PE) (N := 5) hx hb hts i_PE hown hK hP 0 rfl rfl 2 (by decide) (hts _ q_29) (fun _ h9 => h9) rfl d_PE_begin_21 ?_
    refine lv_iload_n hx hb d_PE_begin_24 rfl (lv_at hl 0 rfl) ?_
    refine lv_iconst (v := 0) hx hb d_PE_begin_25 (by decide) ?_
    refine my_stI hx hb hK hP hD hS 2 rfl i_l rfl (by omega) (by decide) d_PE_begin_26 (fun H_9 locs hP hD hS => ?_)
    have hP : va_P D vwCl [(f0, .inr (1, [.int u, .ref f1, .ref f2, .ref f3, .ref f4])), (f1, .inl (cI, 7, .inl (upd FC_1 i_l 0))), (f2, .inl (cI, 7, .inl (upd FB_1 i_l 0))), (f3, .inl (cI, 7, .inl FR_1)), (f4, .inl (cZ, 7, .inl FA_1))] H_9 := hP
    refine lv_aload_n hx hb d_PE_begin_27 rfl (lv_at hl 2 rfl) ?_
    refine va_get (D := D) (ci := 1) (v := .ref f3) (C := R_PE) (T := F_PE) (N := 5) hx hb hts i_PE hown hK hP 0 rfl rfl 3 (by decide) (hts _ q_31) (fun _ h9 => h9) rfl d_PE_begin_28 ?_
    refine lv_iload_n hx hb d_PE_begin_31 rfl (lv_at hl 0 rfl) ?_
    refine lv_iconst (v := 0) hx hb d_PE_begin_32 (by decide) ?_
    refine my_stI hx hb hK hP hD hS 3 rfl i_l rfl (by omega) (by decide) d_PE_begin_33 (fun H_10 locs hP hD hS => ?_)
    have hP : va_P D vwCl [(f0, .inr (1, [.int u, .ref f1, .ref f2, .ref f3, .ref f4])), (f1, .inl (cI, 7, .inl (upd FC_1 i_l 0))), (f2, .inl (cI, 7, .inl (upd FB_1 i_l 0))), (f3, .inl (cI, 7, .inl (upd FR_1 i_l 0))), (f4, .inl (cZ, 7, .inl FA_1))] H_10 := hP
    refine lv_aload_n hx hb d_PE_begin_34 rfl (lv_at hl 2 rfl) ?_
    refine va_get (D := D) (ci := 1) (v := .ref f4) (C := R_PE) (T := F_PE) (N := 5) hx hb hts i_PE hown hK hP 0 rfl rfl 4 (by decide) (hts _ q_33) (fun _ h9 => h9) rfl d_PE_begin_35 ?_
    refine lv_iload_n hx hb d_PE_begin_38 rfl (lv_at hl 0 rfl) ?_
    refine lv_iconst (v := 0) hx hb d_PE_begin_39 (by decide) ?_
    refine my_stZ hx hb hK hP hD hS 4 rfl i_l 0 rfl rfl (by omega) (by decide) d_PE_begin_40 (fun H_11 locs hP hD hS => ?_)
    have hP : va_P D vwCl [(f0, .inr (1, [.int u, .ref f1, .ref f2, .ref f3, .ref f4])), (f1, .inl (cI, 7, .inl (upd FC_1 i_l 0))), (f2, .inl (cI, 7, .inl (upd FB_1 i_l 0))), (f3, .inl (cI, 7, .inl (upd FR_1 i_l 0))), (f4, .inl (cZ, 7, .inl (upd FA_1 i_l 0)))] H_11 := hP
    refine lv_iinc (v := nI (i_l + 1)) (lv' := [(2, .int (nI (i_l + 1))), (1, .int u), (0, .ref f0)]) hx hb d_PE_begin_41 hl (k := 0) rfl (nI_1 i_l) (by decide) rfl (fun ls hl => ?_)
    refine lv_goto (tgt := 7) hx hb d_PE_begin_44 (by decide) ?_
    have hPz := hP.sub (ws' := [(f0, .inr (1, [.int u, .ref f1, .ref f2, .ref f3, .ref f4])), (f1, .inl (cI, 7, .inl (upd FC_1 i_l 0))), (f2, .inl (cI, 7, .inl (upd FB_1 i_l 0))), (f3, .inl (cI, 7, .inl (upd FR_1 i_l 0))), (f4, .inl (cZ, 7, .inl (upd FA_1 i_l 0)))]) [0, 1, 2, 3, 4] rfl
    have hDz := hD.sub (ws' := [(f0, .inr (1, [.int u, .ref f1, .ref f2, .ref f3, .ref f4])), (f1, .inl (cI, 7, .inl (upd FC_1 i_l 0))), (f2, .inl (cI, 7, .inl (upd FB_1 i_l 0))), (f3, .inl (cI, 7, .inl (upd FR_1 i_l 0))), (f4, .inl (cZ, 7, .inl (upd FA_1 i_l 0)))]) [0, 1, 2, 3, 4] (by decide) rfl
    exact ih1 ((i_l + 1), (upd FC_1 i_l 0), (upd FB_1 i_l 0), (upd FR_1 i_l 0), (upd FA_1 i_l 0)) _ _ _ (by first | omega | (dsimp only; omega)) ⟨(by first | omega | (dsimp only; omega)), (by rw [c1]; exact zf_s _ _), (by rw [c2]; exact zf_s _ _), (by rw [c3]; exact zf_s _ _), (by rw [c4]; exact zf_s _ _), hPz, hDz, hS, lv_sub hl [0, 1, 2] rfl⟩

set_option maxHeartbeats 4000000 in
set_option maxRecDepth 100000 in
theorem e_PC_people (l : Launch) (D : va_G) (cI cZ : ClassId) (x : Nat) (u : Int32) (f0 : Nat) (a0 : Nat) (r0 : Nat) (w0 : Nat) (g0 : Nat) (k0 : Nat) (tm : Int32) (gp : Int32) (lk : Int32) (nn : Nat) (f1 : Nat) (f2 : Nat) (f3 : Nat) (f4 : Nat) (FC : Nat → Int32) (FB : Nat → Int32) (FR : Nat → Int32) (FA : Nat → Int32) (np : Nat) (a1 : Nat) (a2 : Nat) (a3 : Nat) (a4 : Nat) (a5 : Nat) (a6 : Nat) (a7 : Nat) (a8 : Nat) (a9 : Nat) (a10 : Nat) (a11 : Nat) (nq : Nat) (HA : Int32) (r1 : Nat) (r2 : Nat) (r3 : Nat) (r4 : Nat) (r5 : Nat) (r6 : Nat) (r7 : Nat) (r8 : Nat) (r9 : Nat) (r10 : Nat) (r11 : Nat) (kl : Nat) (k1 : Nat) (k2 : Nat) (sz : Nat) (h_nn : nn ≤ 7) (h_np : np ≤ 12) (h_nq : nq ≤ 40) (h_kl : kl ≤ 6) : Met l ⟨"PromiseChains", "people", "(I)I"⟩ (mw ⟨"PromiseChains", "people", "(I)I"⟩ prog_1_method_2_code 2 (some .int)) ({ frames := 1, cells := 0, slots := 0, locals := 22 }) (va_Pc [.ref x, .int u] (PB D cI cZ sz [(x, .inr (0, [.ref f0, .ref a0, .ref r0, .ref w0, .ref g0, .ref k0, .int tm, .int gp, .int lk])), (f0, .inr (1, [.int (nI nn), .ref f1, .ref f2, .ref f3, .ref f4])), (f1, .inl (cI, 7, .inl FC)), (f2, .inl (cI, 7, .inl FB)), (f3, .inl (cI, 7, .inl FR)), (f4, .inl (cZ, 7, .inl FA)), (a0, .inr (2, [.int (nI np), .ref a1, .ref a2, .ref a3, .ref a4, .ref a5, .ref a6, .ref a7, .ref a8, .ref a9, .ref a10, .ref a11])), (r0, .inr (3, [.int (nI nq), .int HA, .ref r1, .ref r2, .ref r3, .ref r4, .ref r5, .ref r6, .ref r7, .ref r8, .ref r9, .ref r10, .ref r11])), (k0, .inr (6, [.int (nI kl), .ref k1, .ref k2]))])) (va_Qi (S := Int32 × Nat × Nat × Nat × Int32 × Nat × (Nat → Int32) × (Nat → Int32) × (Nat → Int32) × (Nat → Int32)) (fun (r : Int32) uU => (uU.2.1 ≤ 7) ∧ (uU.2.2.1 ≤ 12) ∧ (uU.2.2.2.1 ≤ 40) ∧ (uU.2.2.2.2.2.1 ≤ 6) ∧ ((isw u 2 7 = 0 ∧ uU.2.1 = nn ∧ uU.2.2.2.2.2.2.2.1 = FB ∧ uU.2.2.2.2.2.2.2.2.1 = FR ∧ uU.2.2.2.2.2.2.2.2.2 = FA ∧ uU.2.2.1 = np ∧ uU.2.2.2.1 = nq ∧ uU.2.2.2.2.1 = HA ∧ uU.2.2.2.2.2.1 = kl ∧ uU.1 = tm ∧ r = -2) ∨ (¬ isw u 2 7 = 0 ∧ u = nI uU.2.1 ∧ uU.2.2.2.2.2.2.2.1 = zf 7 FB ∧ uU.2.2.2.2.2.2.2.2.1 = zf 7 FR ∧ uU.2.2.2.2.2.2.2.2.2 = zf 7 FA ∧ uU.2.2.1 = 0 ∧ uU.2.2.2.1 = 0 ∧ uU.2.2.2.2.1 = 0 ∧ uU.2.2.2.2.2.1 = 0 ∧ uU.1 = 0 ∧ r = 1))) (fun uU tT => BB D (va_A [(x, .inr (0, [.ref f0, .ref a0, .ref r0, .ref w0, .ref g0, .ref k0, .int tm, .int gp, .int lk])), (f0, .inr (1, [.int (nI nn), .ref f1, .ref f2, .ref f3, .ref f4])), (f1, .inl (cI, 7, .inl FC)), (f2, .inl (cI, 7, .inl FB)), (f3, .inl (cI, 7, .inl FR)), (f4, .inl (cZ, 7, .inl FA)), (a0, .inr (2, [.int (nI np), .ref a1, .ref a2, .ref a3, .ref a4, .ref a5, .ref a6, .ref a7, .ref a8, .ref a9, .ref a10, .ref a11])), (r0, .inr (3, [.int (nI nq), .int HA, .ref r1, .ref r2, .ref r3, .ref r4, .ref r5, .ref r6, .ref r7, .ref r8, .ref r9, .ref r10, .ref r11])), (k0, .inr (6, [.int (nI kl), .ref k1, .ref k2]))] sz) [(x, .inr (0, [.ref f0, .ref a0, .ref r0, .ref w0, .ref g0, .ref k0, .int (uU.1), .int gp, .int lk])), (f0, .inr (1, [.int (nI uU.2.1), .ref f1, .ref f2, .ref f3, .ref f4])), (f1, .inl (cI, 7, .inl (uU.2.2.2.2.2.2.1))), (f2, .inl (cI, 7, .inl (uU.2.2.2.2.2.2.2.1))), (f3, .inl (cI, 7, .inl (uU.2.2.2.2.2.2.2.2.1))), (f4, .inl (cZ, 7, .inl (uU.2.2.2.2.2.2.2.2.2))), (a0, .inr (2, [.int (nI uU.2.2.1), .ref a1, .ref a2, .ref a3, .ref a4, .ref a5, .ref a6, .ref a7, .ref a8, .ref a9, .ref a10, .ref a11])), (r0, .inr (3, [.int (nI uU.2.2.2.1), .int (uU.2.2.2.2.1), .ref r1, .ref r2, .ref r3, .ref r4, .ref r5, .ref r6, .ref r7, .ref r8, .ref r9, .ref r10, .ref r11])), (k0, .inr (6, [.int (nI uU.2.2.2.2.2.1), .ref k1, .ref k2]))] tT) (va_A [(x, .inr (0, [.ref f0, .ref a0, .ref r0, .ref w0, .ref g0, .ref k0, .int tm, .int gp, .int lk])), (f0, .inr (1, [.int (nI nn), .ref f1, .ref f2, .ref f3, .ref f4])), (f1, .inl (cI, 7, .inl FC)), (f2, .inl (cI, 7, .inl FB)), (f3, .inl (cI, 7, .inl FR)), (f4, .inl (cZ, 7, .inl FA)), (a0, .inr (2, [.int (nI np), .ref a1, .ref a2, .ref a3, .ref a4, .ref a5, .ref a6, .ref a7, .ref a8, .ref a9, .ref a10, .ref a11])), (r0, .inr (3, [.int (nI nq), .int HA, .ref r1, .ref r2, .ref r3, .ref r4, .ref r5, .ref r6, .ref r7, .ref r8, .ref r9, .ref r10, .ref r11])), (k0, .inr (6, [.int (nI kl), .ref k1, .ref k2]))] sz)) 0 0 (va_A [(x, .inr (0, [.ref f0, .ref a0, .ref r0, .ref w0, .ref g0, .ref k0, .int tm, .int gp, .int lk])), (f0, .inr (1, [.int (nI nn), .ref f1, .ref f2, .ref f3, .ref f4])), (f1, .inl (cI, 7, .inl FC)), (f2, .inl (cI, 7, .inl FB)), (f3, .inl (cI, 7, .inl FR)), (f4, .inl (cZ, 7, .inl FA)), (a0, .inr (2, [.int (nI np), .ref a1, .ref a2, .ref a3, .ref a4, .ref a5, .ref a6, .ref a7, .ref a8, .ref a9, .ref a10, .ref a11])), (r0, .inr (3, [.int (nI nq), .int HA, .ref r1, .ref r2, .ref r3, .ref r4, .ref r5, .ref r6, .ref r7, .ref r8, .ref r9, .ref r10, .ref r11])), (k0, .inr (6, [.int (nI kl), .ref k1, .ref k2]))] sz) := by
  refine Met.ofW (cc := prog_1_method_2_code) (maxL := 2) (ret := (some .int)) (by decide) rfl ?_
  intro p e s m args below meth c s₁ B hml hv
  obtain ⟨rfl, hsz, hP, hK, hD0, hN⟩ := hv
  have hx := B.exec
  have hb := B.bytes
  have hr := B.returns
  have hts0 := atoms_spec (ws := mw ⟨"PromiseChains", "people", "(I)I"⟩ prog_1_method_2_code 2 (some .int)) B.pre
  have hts : ∀ w ∈ tblG, w.before _ s = true := fun w h => hts0 w (List.mem_cons_of_mem _ h)
  have hown : s.vm.findClass "PromiseChains" = some m.cls := findClass_of_methodNamed B.named
  have hlocks := B.notSynchronized
  subst hsz
  have hD := hD0.self (sz := s.heap.size)
  generalize hAe : va_A [(x, .inr (0, [.ref f0, .ref a0, .ref r0, .ref w0, .ref g0, .ref k0, .int tm, .int gp, .int lk])), (f0, .inr (1, [.int (nI nn), .ref f1, .ref f2, .ref f3, .ref f4])), (f1, .inl (cI, 7, .inl FC)), (f2, .inl (cI, 7, .inl FB)), (f3, .inl (cI, 7, .inl FR)), (f4, .inl (cZ, 7, .inl FA)), (a0, .inr (2, [.int (nI np), .ref a1, .ref a2, .ref a3, .ref a4, .ref a5, .ref a6, .ref a7, .ref a8, .ref a9, .ref a10, .ref a11])), (r0, .inr (3, [.int (nI nq), .int HA, .ref r1, .ref r2, .ref r3, .ref r4, .ref r5, .ref r6, .ref r7, .ref r8, .ref r9, .ref r10, .ref r11])), (k0, .inr (6, [.int (nI kl), .ref k1, .ref k2]))] s.heap.size = A at hD ⊢
  have hA : ∀ q : Nat, s.heap.size ≤ q → A q := fun q h => by rw [← hAe]; exact Or.inr h
  have hS : va_S A s.heap s.heap [] := va_S.rf
  have hP : va_P D vwCl [(x, .inr (0, [.ref f0, .ref a0, .ref r0, .ref w0, .ref g0, .ref k0, .int tm, .int gp, .int lk])), (f0, .inr (1, [.int (nI nn), .ref f1, .ref f2, .ref f3, .ref f4])), (f1, .inl (cI, 7, .inl FC)), (f2, .inl (cI, 7, .inl FB)), (f3, .inl (cI, 7, .inl FR)), (f4, .inl (cZ, 7, .inl FA)), (a0, .inr (2, [.int (nI np), .ref a1, .ref a2, .ref a3, .ref a4, .ref a5, .ref a6, .ref a7, .ref a8, .ref a9, .ref a10, .ref a11])), (r0, .inr (3, [.int (nI nq), .int HA, .ref r1, .ref r2, .ref r3, .ref r4, .ref r5, .ref r6, .ref r7, .ref r8, .ref r9, .ref r10, .ref r11])), (k0, .inr (6, [.int (nI kl), .ref k1, .ref k2]))] s.heap := hP
  have hl := lv_entry ([.ref x, .int u]) (n := 2) (Nat.le_of_ble_eq_true rfl)
  rw [lg_entry_eq]
  generalize (lg_sl ([.ref x, .int u]) ++ List.replicate (2 - (lg_sl ([.ref x, .int u])).length) Slot.unset).toArray = ls at hl ⊢
  have hl : lv_has ls 2 [(0, .ref x), (1, .int u)] := hl
  refine lv_iload_n hx hb d_PC_people_0 rfl (lv_at hl 1 rfl) ?_
  refine lv_iconst (v := 2) hx hb d_PC_people_1 (by decide) ?_
  refine lv_bipush (v := 7) hx hb d_PC_people_2 (by decide) ?_
  have hPc := hP.sub (ws' := []) [] rfl
  have hDc := hD.sub (ws' := []) [] (by decide +kernel) rfl
  refine vp_callSi (va_Run.run (va_runS (As := [.int u, .int 2, .int 7]) (rest := []) ⟨hx, hb, hml, hown, hts⟩ (e_within l D cI cZ u 2 7 s.heap.size ) (my_cwS 3 hts q_290 q_288 q_289 q_1 rfl rfl (by decide +kernel) ⟨Nat.le_of_ble_eq_true rfl, Nat.le_of_ble_eq_true rfl⟩) (my_preS hPc hDc hK hN) rfl rfl hl.1 rfl (lv_room (Nat.le_of_ble_eq_true rfl)) d_PC_people_4 ⟨Nat.le_of_ble_eq_true rfl, Nat.le_of_ble_eq_true rfl⟩)) (fun r_1 hw_1 => ?_)
  have hf_1_0 : r_1 = isw u 2 7 := hw_1
  have hf_1_0 : r_1 = isw u 2 7 := hf_1_0
  subst hf_1_0
  refine lv_if_ne (tgt := 13) hx hb d_PC_people_7 (by decide) (fun h_2 => ?_) (fun h_2 => ?_)
  · obtain ⟨j_3, hx_4, rfl⟩ := isw_lo (K := 7) (by decide) rfl h_2
    refine lv_aload_n hx hb d_PC_people_13 rfl (lv_at hl 0 rfl) ?_
    refine va_get (D := D) (ci := 0) (v := .ref f0) (C := R_PC) (T := F_PC) (N := 9) hx hb hts i_PC hown hK hP 0 rfl rfl 0 (by decide) (hts _ q_256) (fun _ h9 => h9) rfl d_PC_people_14 ?_
    refine lv_iload_n hx hb d_PC_people_17 rfl (lv_at hl 1 rfl) ?_
    have hPc := hP.sub (ws' := [(f0, .inr (1, [.int (nI nn), .ref f1, .ref f2, .ref f3, .ref f4])), (f1, .inl (cI, 7, .inl FC)), (f2, .inl (cI, 7, .inl FB)), (f3, .inl (cI, 7, .inl FR)), (f4, .inl (cZ, 7, .inl FA))]) [1, 2, 3, 4, 5] rfl
    have hDc := hD.sub (ws' := [(f0, .inr (1, [.int (nI nn), .ref f1, .ref f2, .ref f3, .ref f4])), (f1, .inl (cI, 7, .inl FC)), (f2, .inl (cI, 7, .inl FB)), (f3, .inl (cI, 7, .inl FR)), (f4, .inl (cZ, 7, .inl FA))]) [1, 2, 3, 4, 5] (by decide +kernel) rfl
    have hFc := va_free (wc := [(f0, .inr (1, [.int (nI nn), .ref f1, .ref f2, .ref f3, .ref f4])), (f1, .inl (cI, 7, .inl FC)), (f2, .inl (cI, 7, .inl FB)), (f3, .inl (cI, 7, .inl FR)), (f4, .inl (cZ, 7, .inl FA))]) hD hS hA [1, 2, 3, 4, 5] rfl
    refine va_callv (va_runV (As := [.int (nI j_3)]) (rest := []) ⟨hx, hb, hml, hown, hts⟩ (e_PE_begin l D cI cZ f0 (nI j_3) (nI nn) f1 f2 f3 f4 FC FB FR FA s.heap.size ) (my_cwV 1 hts q_255 q_252 q_253 q_254 q_2 rfl rfl (by decide +kernel) ⟨Nat.le_of_ble_eq_true rfl, Nat.le_of_ble_eq_true rfl⟩) (my_preV hPc hDc hK hN 1 0 rfl rfl) rfl rfl hl.1 rfl (lv_room (Nat.le_of_ble_eq_true rfl)) d_PC_people_18 ⟨Nat.le_of_ble_eq_true rfl, Nat.le_of_ble_eq_true rfl⟩) hS (fun q _ h => hFc q h) hFc (fun uU tT H_6 locs ht hvm hw_5 hB hz1 hk1 hS => ?_)
    obtain ⟨hP1, hD1⟩ := hB
    rw [ht] at hP1
    obtain ⟨hP, hD⟩ := va_join (wr := [(x, .inr (0, [.ref f0, .ref a0, .ref r0, .ref w0, .ref g0, .ref k0, .int tm, .int gp, .int lk])), (a0, .inr (2, [.int (nI np), .ref a1, .ref a2, .ref a3, .ref a4, .ref a5, .ref a6, .ref a7, .ref a8, .ref a9, .ref a10, .ref a11])), (r0, .inr (3, [.int (nI nq), .int HA, .ref r1, .ref r2, .ref r3, .ref r4, .ref r5, .ref r6, .ref r7, .ref r8, .ref r9, .ref r10, .ref r11])), (k0, .inr (6, [.int (nI kl), .ref k1, .ref k2]))]) (w1 := [(f0, .inr (1, [.int (nI j_3), .ref f1, .ref f2, .ref f3, .ref f4])), (f1, .inl (cI, 7, .inl (zf 7 FC))), (f2, .inl (cI, 7, .inl (zf 7 FB))), (f3, .inl (cI, 7, .inl (zf 7 FR))), (f4, .inl (cZ, 7, .inl (zf 7 FA)))]) hP hD [1, 2, 3, 4, 5] [0, 6, 7, 8] rfl rfl (by decide +kernel) (by decide +kernel) hk1 hFc hP1 hD1
    have hP : va_P D vwCl [(x, .inr (0, [.ref f0, .ref a0, .ref r0, .ref w0, .ref g0, .ref k0, .int tm, .int gp, .int lk])), (a0, .inr (2, [.int (nI np), .ref a1, .ref a2, .ref a3, .ref a4, .ref a5, .ref a6, .ref a7, .ref a8, .ref a9, .ref a10, .ref a11])), (r0, .inr (3, [.int (nI nq), .int HA, .ref r1, .ref r2, .ref r3, .ref r4, .ref r5, .ref r6, .ref r7, .ref r8, .ref r9, .ref r10, .ref r11])), (k0, .inr (6, [.int (nI kl), .ref k1, .ref k2])), (f0, .inr (1, [.int (nI j_3), .ref f1, .ref f2, .ref f3, .ref f4])), (f1, .inl (cI, 7, .inl (zf 7 FC))), (f2, .inl (cI, 7, .inl (zf 7 FB))), (f3, .inl (cI, 7, .inl (zf 7 FR))), (f4, .inl (cZ, 7, .inl (zf 7 FA)))] H_6 := hP
    refine lv_aload_n hx hb d_PC_people_21 rfl (lv_at hl 0 rfl) ?_
    refine va_get (D := D) (ci := 0) (v := .ref a0) (C := R_PC) (T := F_PC) (N := 9) hx hb hts i_PC hown hK hP 0 rfl rfl 1 (by decide) (hts _ q_257) (fun _ h9 => h9) rfl d_PC_people_22 ?_
    refine lv_iconst (v := 0) hx hb d_PC_people_25 (by decide) ?_
    refine va_put (D := D) (ci := 2) (v := .int 0) (ty := .int) (C := R_PA) (T := F_PA) (N := 12) hx hb hts i_PA t_PA t_PA_ok n_PA hown hK hP hD hS 1 rfl rfl 0 (by decide) (hts _ q_57) (fun _ h9 => h9) rfl (by decide +kernel) rfl rfl (Nat.le_of_ble_eq_true rfl) d_PC_people_26 (fun H_7 locs hP hD hS => ?_)
    have hP : va_P D vwCl [(x, .inr (0, [.ref f0, .ref a0, .ref r0, .ref w0, .ref g0, .ref k0, .int tm, .int gp, .int lk])), (a0, .inr (2, [.int 0, .ref a1, .ref a2, .ref a3, .ref a4, .ref a5, .ref a6, .ref a7, .ref a8, .ref a9, .ref a10, .ref a11])), (r0, .inr (3, [.int (nI nq), .int HA, .ref r1, .ref r2, .ref r3, .ref r4, .ref r5, .ref r6, .ref r7, .ref r8, .ref r9, .ref r10, .ref r11])), (k0, .inr (6, [.int (nI kl), .ref k1, .ref k2])), (f0, .inr (1, [.int (nI j_3), .ref f1, .ref f2, .ref f3, .ref f4])), (f1, .inl (cI, 7, .inl (zf 7 FC))), (f2, .inl (cI, 7, .inl (zf 7 FB))), (f3, .inl (cI, 7, .inl (zf 7 FR))), (f4, .inl (cZ, 7, .inl (zf 7 FA)))] H_7 := hP
    refine lv_aload_n hx hb d_PC_people_29 rfl (lv_at hl 0 rfl) ?_
    refine va_get (D := D) (ci := 0) (v := .ref r0) (C := R_PC) (T := F_PC) (N := 9) hx hb hts i_PC hown hK hP 0 rfl rfl 2 (by decide) (hts _ q_258) (fun _ h9 => h9) rfl d_PC_people_30 ?_
    have hPc := hP.sub (ws' := [(r0, .inr (3, [.int (nI nq), .int HA, .ref r1, .ref r2, .ref r3, .ref r4, .ref r5, .ref r6, .ref r7, .ref r8, .ref r9, .ref r10, .ref r11]))]) [2] rfl
    have hDc := hD.sub (ws' := [(r0, .inr (3, [.int (nI nq), .int HA, .ref r1, .ref r2, .ref r3, .ref r4, .ref r5, .ref r6, .ref r7, .ref r8, .ref r9, .ref r10, .ref r11]))]) [2] (by decide +kernel) rfl
    have hFc := va_free (wc := [(r0, .inr (3, [.int (nI nq), .int HA, .ref r1, .ref r2, .ref r3, .ref r4, .ref r5, .ref r6, .ref r7, .ref r8, .ref r9, .ref r10, .ref r11]))]) hD hS hA [2] rfl
    refine va_callv (va_runV (As := []) (rest := []) ⟨hx, hb, hml, hown, hts⟩ (e_PR_begin l D cI cZ r0 nq HA r1 r2 r3 r4 r5 r6 r7 r8 r9 r10 r11 H_7.size h_nq) (my_cwV 0 hts q_294 q_291 q_292 q_293 q_4 rfl rfl (by decide +kernel) ⟨Nat.le_of_ble_eq_true rfl, Nat.le_of_ble_eq_true rfl⟩) (my_preV hPc hDc hK hN 3 0 rfl rfl) rfl rfl hl.1 rfl (lv_room (Nat.le_of_ble_eq_true rfl)) d_PC_people_33 ⟨Nat.le_of_ble_eq_true rfl, Nat.le_of_ble_eq_true rfl⟩) hS (fun q _ h => hFc q h) hFc (fun uU tT H_9 locs ht hvm hw_8 hB hz1 hk1 hS => ?_)
    obtain ⟨hP1, hD1⟩ := hB
    rw [ht] at hP1
    obtain ⟨hP, hD⟩ := va_join (wr := [(x, .inr (0, [.ref f0, .ref a0, .ref r0, .ref w0, .ref g0, .ref k0, .int tm, .int gp, .int lk])), (a0, .inr (2, [.int 0, .ref a1, .ref a2, .ref a3, .ref a4, .ref a5, .ref a6, .ref a7, .ref a8, .ref a9, .ref a10, .ref a11])), (k0, .inr (6, [.int (nI kl), .ref k1, .ref k2])), (f0, .inr (1, [.int (nI j_3), .ref f1, .ref f2, .ref f3, .ref f4])), (f1, .inl (cI, 7, .inl (zf 7 FC))), (f2, .inl (cI, 7, .inl (zf 7 FB))), (f3, .inl (cI, 7, .inl (zf 7 FR))), (f4, .inl (cZ, 7, .inl (zf 7 FA)))]) (w1 := [(r0, .inr (3, [.int 0, .int 0, .ref r1, .ref r2, .ref r3, .ref r4, .ref r5, .ref r6, .ref r7, .ref r8, .ref r9, .ref r10, .ref r11]))]) hP hD [2] [0, 1, 3, 4, 5, 6, 7, 8] rfl rfl (by decide +kernel) (by decide +kernel) hk1 hFc hP1 hD1
    have hP : va_P D vwCl [(x, .inr (0, [.ref f0, .ref a0, .ref r0, .ref w0, .ref g0, .ref k0, .int tm, .int gp, .int lk])), (a0, .inr (2, [.int 0, .ref a1, .ref a2, .ref a3, .ref a4, .ref a5, .ref a6, .ref a7, .ref a8, .ref a9, .ref a10, .ref a11])), (k0, .inr (6, [.int (nI kl), .ref k1, .ref k2])), (f0, .inr (1, [.int (nI j_3), .ref f1, .ref f2, .ref f3, .ref f4])), (f1, .inl (cI, 7, .inl (zf 7 FC))), (f2, .inl (cI, 7, .inl (zf 7 FB))), (f3, .inl (cI, 7, .inl (zf 7 FR))), (f4, .inl (cZ, 7, .inl (zf 7 FA))), (r0, .inr (3, [.int 0, .int 0, .ref r1, .ref r2, .ref r3, .ref r4, .ref r5, .ref r6, .ref r7, .ref r8, .ref r9, .ref r10, .ref r11]))] H_9 := hP
    refine lv_aload_n hx hb d_PC_people_36 rfl (lv_at hl 0 rfl) ?_
    refine va_get (D := D) (ci := 0) (v := .ref k0) (C := R_PC) (T := F_PC) (N := 9) hx hb hts i_PC hown hK hP 0 rfl rfl 5 (by decide) (hts _ q_261) (fun _ h9 => h9) rfl d_PC_people_37 ?_
    refine lv_iconst (v := 0) hx hb d_PC_people_40 (by decide) ?_
    refine va_put (D := D) (ci := 6) (v := .int 0) (ty := .int) (C := R_RO) (T := F_RO) (N := 3) hx hb hts i_RO t_RO t_RO_ok n_RO hown hK hP hD hS 2 rfl rfl 0 (by decide) (hts _ q_174) (fun _ h9 => h9) rfl (by decide +kernel) rfl rfl (Nat.le_of_ble_eq_true rfl) d_PC_people_41 (fun H_10 locs hP hD hS => ?_)
    have hP : va_P D vwCl [(x, .inr (0, [.ref f0, .ref a0, .ref r0, .ref w0, .ref g0, .ref k0, .int tm, .int gp, .int lk])), (a0, .inr (2, [.int 0, .ref a1, .ref a2, .ref a3, .ref a4, .ref a5, .ref a6, .ref a7, .ref a8, .ref a9, .ref a10, .ref a11])), (k0, .inr (6, [.int 0, .ref k1, .ref k2])), (f0, .inr (1, [.int (nI j_3), .ref f1, .ref f2, .ref f3, .ref f4])), (f1, .inl (cI, 7, .inl (zf 7 FC))), (f2, .inl (cI, 7, .inl (zf 7 FB))), (f3, .inl (cI, 7, .inl (zf 7 FR))), (f4, .inl (cZ, 7, .inl (zf 7 FA))), (r0, .inr (3, [.int 0, .int 0, .ref r1, .ref r2, .ref r3, .ref r4, .ref r5, .ref r6, .ref r7, .ref r8, .ref r9, .ref r10, .ref r11]))] H_10 := hP
    refine lv_aload_n hx hb d_PC_people_44 rfl (lv_at hl 0 rfl) ?_
    refine lv_iconst (v := 0) hx hb d_PC_people_45 (by decide) ?_
    refine va_put (D := D) (ci := 0) (v := .int 0) (ty := .int) (C := R_PC) (T := F_PC) (N := 9) hx hb hts i_PC t_PC t_PC_ok n_PC hown hK hP hD hS 0 rfl rfl 6 (by decide) (hts _ q_262) (fun _ h9 => h9) rfl (by decide +kernel) rfl rfl (Nat.le_of_ble_eq_true rfl) d_PC_people_46 (fun H_11 locs hP hD hS => ?_)
    have hP : va_P D vwCl [(x, .inr (0, [.ref f0, .ref a0, .ref r0, .ref w0, .ref g0, .ref k0, .int 0, .int gp, .int lk])), (a0, .inr (2, [.int 0, .ref a1, .ref a2, .ref a3, .ref a4, .ref a5, .ref a6, .ref a7, .ref a8, .ref a9, .ref a10, .ref a11])), (k0, .inr (6, [.int 0, .ref k1, .ref k2])), (f0, .inr (1, [.int (nI j_3), .ref f1, .ref f2, .ref f3, .ref f4])), (f1, .inl (cI, 7, .inl (zf 7 FC))), (f2, .inl (cI, 7, .inl (zf 7 FB))), (f3, .inl (cI, 7, .inl (zf 7 FR))), (f4, .inl (cZ, 7, .inl (zf 7 FA))), (r0, .inr (3, [.int 0, .int 0, .ref r1, .ref r2, .ref r3, .ref r4, .ref r5, .ref r6, .ref r7, .ref r8, .ref r9, .ref r10, .ref r11]))] H_11 := hP
    refine lv_iconst (v := 1) hx hb d_PC_people_49 (by decide) ?_
    have hP9 := hP.sub (ws' := [(x, .inr (0, [.ref f0, .ref a0, .ref r0, .ref w0, .ref g0, .ref k0, .int 0, .int gp, .int lk])), (f0, .inr (1, [.int (nI j_3), .ref f1, .ref f2, .ref f3, .ref f4])), (f1, .inl (cI, 7, .inl (zf 7 FC))), (f2, .inl (cI, 7, .inl (zf 7 FB))), (f3, .inl (cI, 7, .inl (zf 7 FR))), (f4, .inl (cZ, 7, .inl (zf 7 FA))), (a0, .inr (2, [.int (nI 0), .ref a1, .ref a2, .ref a3, .ref a4, .ref a5, .ref a6, .ref a7, .ref a8, .ref a9, .ref a10, .ref a11])), (r0, .inr (3, [.int (nI 0), .int 0, .ref r1, .ref r2, .ref r3, .ref r4, .ref r5, .ref r6, .ref r7, .ref r8, .ref r9, .ref r10, .ref r11])), (k0, .inr (6, [.int (nI 0), .ref k1, .ref k2]))]) [0, 3, 4, 5, 6, 7, 1, 8, 2] rfl
    have hD9 := hD.sub (ws' := [(x, .inr (0, [.ref f0, .ref a0, .ref r0, .ref w0, .ref g0, .ref k0, .int 0, .int gp, .int lk])), (f0, .inr (1, [.int (nI j_3), .ref f1, .ref f2, .ref f3, .ref f4])), (f1, .inl (cI, 7, .inl (zf 7 FC))), (f2, .inl (cI, 7, .inl (zf 7 FB))), (f3, .inl (cI, 7, .inl (zf 7 FR))), (f4, .inl (cZ, 7, .inl (zf 7 FA))), (a0, .inr (2, [.int (nI 0), .ref a1, .ref a2, .ref a3, .ref a4, .ref a5, .ref a6, .ref a7, .ref a8, .ref a9, .ref a10, .ref a11])), (r0, .inr (3, [.int (nI 0), .int 0, .ref r1, .ref r2, .ref r3, .ref r4, .ref r5, .ref r6, .ref r7, .ref r8, .ref r9, .ref r10, .ref r11])), (k0, .inr (6, [.int (nI 0), .ref k1, .ref k2]))]) [0, 3, 4, 5, 6, 7, 1, 8, 2] (by decide +kernel) rfl
    refine W.widen (k := 0) (n := 0) (Nat.le_of_ble_eq_true rfl) (Nat.le_of_ble_eq_true rfl) ?_
    exact W.iret (v := 1) hx hb hr (fun tT ht hW => ⟨⟨1, (0, j_3, 0, 0, 0, 0, (zf 7 FC), (zf 7 FB), (zf 7 FR), (zf 7 FA)), rfl, ⟨(by first | omega | (dsimp only; omega)), (by first | omega | (dsimp only; omega)), (by first | omega | (dsimp only; omega)), (by first | omega | (dsimp only; omega)), Or.inr (⟨h_2, rfl, rfl, rfl, rfl, rfl, rfl, rfl, rfl, rfl, rfl⟩)⟩, by rw [ht]; exact hP9, hD9⟩, hS.F ht⟩) hS.2.2 d_PC_people_50
  · refine lv_bipush (v := (-2)) hx hb d_PC_people_10 (by decide) ?_
    have hP9 := hP.sub (ws' := [(x, .inr (0, [.ref f0, .ref a0, .ref r0, .ref w0, .ref g0, .ref k0, .int tm, .int gp, .int lk])), (f0, .inr (1, [.int (nI nn), .ref f1, .ref f2, .ref f3, .ref f4])), (f1, .inl (cI, 7, .inl FC)), (f2, .inl (cI, 7, .inl FB)), (f3, .inl (cI, 7, .inl FR)), (f4, .inl (cZ, 7, .inl FA)), (a0, .inr (2, [.int (nI np), .ref a1, .ref a2, .ref a3, .ref a4, .ref a5, .ref a6, .ref a7, .ref a8, .ref a9, .ref a10, .ref a11])), (r0, .inr (3, [.int (nI nq), .int HA, .ref r1, .ref r2, .ref r3, .ref r4, .ref r5, .ref r6, .ref r7, .ref r8, .ref r9, .ref r10, .ref r11])), (k0, .inr (6, [.int (nI kl), .ref k1, .ref k2]))]) [0, 1, 2, 3, 4, 5, 6, 7, 8] rfl
    have hD9 := hD.sub (ws' := [(x, .inr (0, [.ref f0, .ref a0, .ref r0, .ref w0, .ref g0, .ref k0, .int tm, .int gp, .int lk])), (f0, .inr (1, [.int (nI nn), .ref f1, .ref f2, .ref f3, .ref f4])), (f1, .inl (cI, 7, .inl FC)), (f2, .inl (cI, 7, .inl FB)), (f3, .inl (cI, 7, .inl FR)), (f4, .inl (cZ, 7, .inl FA)), (a0, .inr (2, [.int (nI np), .ref a1, .ref a2, .ref a3, .ref a4, .ref a5, .ref a6, .ref a7, .ref a8, .ref a9, .ref a10, .ref a11])), (r0, .inr (3, [.int (nI nq), .int HA, .ref r1, .ref r2, .ref r3, .ref r4, .ref r5, .ref r6, .ref r7, .ref r8, .ref r9, .ref r10, .ref r11])), (k0, .inr (6, [.int (nI kl), .ref k1, .ref k2]))]) [0, 1, 2, 3, 4, 5, 6, 7, 8] (by decide +kernel) rfl
    refine W.widen (k := 0) (n := 0) (Nat.le_of_ble_eq_true rfl) (Nat.le_of_ble_eq_true rfl) ?_
    exact W.iret (v := (-2)) hx hb hr (fun tT ht hW => ⟨⟨(-2), (tm, nn, np, nq, HA, kl, FC, FB, FR, FA), rfl, ⟨h_nn, h_np, h_nq, h_kl, Or.inl (⟨h_2, rfl, rfl, rfl, rfl, rfl, rfl, rfl, rfl, rfl, rfl⟩)⟩, by rw [ht]; exact hP9, hD9⟩, hS.F ht⟩) hS.2.2 d_PC_people_12

set_option maxHeartbeats 4000000 in
set_option maxRecDepth 100000 in
theorem e_PC_pair (l : Launch) (D : va_G) (cI cZ : ClassId) (x : Nat) (i : Int32) (j : Int32) (u : Int32) (v : Int32) (f0 : Nat) (a0 : Nat) (r0 : Nat) (w0 : Nat) (g0 : Nat) (k0 : Nat) (tm : Int32) (gp : Int32) (lk : Int32) (nn : Nat) (f1 : Nat) (f2 : Nat) (f3 : Nat) (f4 : Nat) (np : Nat) (a1 : Nat) (a2 : Nat) (a3 : Nat) (a4 : Nat) (a5 : Nat) (a6 : Nat) (a7 : Nat) (a8 : Nat) (a9 : Nat) (a10 : Nat) (a11 : Nat) (EP : Nat → Nat) (SI : Nat → Int32) (LK : Nat → Int32) (SS : Nat → Int32) (ST : Nat → Nat) (PH : Nat → Int32) (LE : Nat → Int32) (GR : Nat → Int32) (sz : Nat) (h_nn : nn ≤ 7) (h_np : np ≤ 12) (h_EP : ∀ zz, EP zz ≤ 6) (h_ST : ∀ zz, ST zz ≤ 64) : Met l ⟨"PromiseChains", "pair", "(IIII)I"⟩ (mw ⟨"PromiseChains", "pair", "(IIII)I"⟩ prog_1_method_3_code 5 (some .int)) ({ frames := 2, cells := 0, slots := 0, locals := 48 }) (va_Pc [.ref x, .int i, .int j, .int u, .int v] (PB D cI cZ sz [(x, .inr (0, [.ref f0, .ref a0, .ref r0, .ref w0, .ref g0, .ref k0, .int tm, .int gp, .int lk])), (f0, .inr (1, [.int (nI nn), .ref f1, .ref f2, .ref f3, .ref f4])), (a0, .inr (2, [.int (nI np), .ref a1, .ref a2, .ref a3, .ref a4, .ref a5, .ref a6, .ref a7, .ref a8, .ref a9, .ref a10, .ref a11])), (a1, .inl (cI, 24, .inl (fun zy => nI (EP zy)))), (a2, .inl (cI, 24, .inl SI)), (a3, .inl (cI, 24, .inl LK)), (a4, .inl (cI, 1536, .inl SS)), (a5, .inl (cI, 12, .inl (fun zy => nI (ST zy)))), (a6, .inl (cI, 12, .inl PH)), (a10, .inl (cI, 12, .inl LE)), (a11, .inl (cI, 12, .inl GR))])) (va_Qi (S := Nat × (Nat → Nat) × (Nat → Int32) × (Nat → Int32) × (Nat → Int32) × (Nat → Nat) × (Nat → Int32) × (Nat → Int32) × (Nat → Int32)) (fun (r : Int32) uU => (uU.1 ≤ 12) ∧ (∀ zz, uU.2.1 zz ≤ 6) ∧ (∀ zz, uU.2.2.2.2.2.1 zz ≤ 64) ∧ ((badPair nn i j u v ∧ uU.1 = np ∧ uU.2.1 = EP ∧ uU.2.2.1 = SI ∧ uU.2.2.2.1 = LK ∧ uU.2.2.2.2.2.1 = ST ∧ uU.2.2.2.2.2.2.1 = PH ∧ uU.2.2.2.2.2.2.2.1 = LE ∧ uU.2.2.2.2.2.2.2.2 = GR ∧ r = -2) ∨ (¬ badPair nn i j u v ∧ np = 12 ∧ uU.1 = np ∧ uU.2.1 = EP ∧ uU.2.2.1 = SI ∧ uU.2.2.2.1 = LK ∧ uU.2.2.2.2.2.1 = ST ∧ uU.2.2.2.2.2.2.1 = PH ∧ uU.2.2.2.2.2.2.2.1 = LE ∧ uU.2.2.2.2.2.2.2.2 = GR ∧ r = -4) ∨ (∃ a : Nat, ∃ b : Nat, ¬ badPair nn i j u v ∧ i = nI a ∧ j = nI b ∧ a < nn ∧ b < nn ∧ ¬ a = b ∧ np < 12 ∧ uU.1 = np + 1 ∧ uU.2.1 = upN (upN EP (2 * np) a) (2 * np + 1) b ∧ uU.2.2.1 = upd (upd SI (2 * np) u) (2 * np + 1) v ∧ uU.2.2.2.1 = upd (upd LK (2 * np) 0) (2 * np + 1) 0 ∧ uU.2.2.2.2.2.1 = upN (upN ST np 0) np (inc64 (upN ST np 0 np)) ∧ uU.2.2.2.2.2.2.1 = upd PH np 0 ∧ uU.2.2.2.2.2.2.2.1 = upd LE np 0 ∧ uU.2.2.2.2.2.2.2.2 = upd GR np (u + v) ∧ r = nI np))) (fun uU tT => BB D (va_A [(x, .inr (0, [.ref f0, .ref a0, .ref r0, .ref w0, .ref g0, .ref k0, .int tm, .int gp, .int lk])), (f0, .inr (1, [.int (nI nn), .ref f1, .ref f2, .ref f3, .ref f4])), (a0, .inr (2, [.int (nI np), .ref a1, .ref a2, .ref a3, .ref a4, .ref a5, .ref a6, .ref a7, .ref a8, .ref a9, .ref a10, .ref a11])), (a1, .inl (cI, 24, .inl (fun zy => nI (EP zy)))), (a2, .inl (cI, 24, .inl SI)), (a3, .inl (cI, 24, .inl LK)), (a4, .inl (cI, 1536, .inl SS)), (a5, .inl (cI, 12, .inl (fun zy => nI (ST zy)))), (a6, .inl (cI, 12, .inl PH)), (a10, .inl (cI, 12, .inl LE)), (a11, .inl (cI, 12, .inl GR))] sz) [(x, .inr (0, [.ref f0, .ref a0, .ref r0, .ref w0, .ref g0, .ref k0, .int tm, .int gp, .int lk])), (f0, .inr (1, [.int (nI nn), .ref f1, .ref f2, .ref f3, .ref f4])), (a0, .inr (2, [.int (nI uU.1), .ref a1, .ref a2, .ref a3, .ref a4, .ref a5, .ref a6, .ref a7, .ref a8, .ref a9, .ref a10, .ref a11])), (a1, .inl (cI, 24, .inl (fun zy => nI ((uU.2.1) zy)))), (a2, .inl (cI, 24, .inl (uU.2.2.1))), (a3, .inl (cI, 24, .inl (uU.2.2.2.1))), (a4, .inl (cI, 1536, .inl (uU.2.2.2.2.1))), (a5, .inl (cI, 12, .inl (fun zy => nI ((uU.2.2.2.2.2.1) zy)))), (a6, .inl (cI, 12, .inl (uU.2.2.2.2.2.2.1))), (a10, .inl (cI, 12, .inl (uU.2.2.2.2.2.2.2.1))), (a11, .inl (cI, 12, .inl (uU.2.2.2.2.2.2.2.2)))] tT) (va_A [(x, .inr (0, [.ref f0, .ref a0, .ref r0, .ref w0, .ref g0, .ref k0, .int tm, .int gp, .int lk])), (f0, .inr (1, [.int (nI nn), .ref f1, .ref f2, .ref f3, .ref f4])), (a0, .inr (2, [.int (nI np), .ref a1, .ref a2, .ref a3, .ref a4, .ref a5, .ref a6, .ref a7, .ref a8, .ref a9, .ref a10, .ref a11])), (a1, .inl (cI, 24, .inl (fun zy => nI (EP zy)))), (a2, .inl (cI, 24, .inl SI)), (a3, .inl (cI, 24, .inl LK)), (a4, .inl (cI, 1536, .inl SS)), (a5, .inl (cI, 12, .inl (fun zy => nI (ST zy)))), (a6, .inl (cI, 12, .inl PH)), (a10, .inl (cI, 12, .inl LE)), (a11, .inl (cI, 12, .inl GR))] sz)) 0 0 (va_A [(x, .inr (0, [.ref f0, .ref a0, .ref r0, .ref w0, .ref g0, .ref k0, .int tm, .int gp, .int lk])), (f0, .inr (1, [.int (nI nn), .ref f1, .ref f2, .ref f3, .ref f4])), (a0, .inr (2, [.int (nI np), .ref a1, .ref a2, .ref a3, .ref a4, .ref a5, .ref a6, .ref a7, .ref a8, .ref a9, .ref a10, .ref a11])), (a1, .inl (cI, 24, .inl (fun zy => nI (EP zy)))), (a2, .inl (cI, 24, .inl SI)), (a3, .inl (cI, 24, .inl LK)), (a4, .inl (cI, 1536, .inl SS)), (a5, .inl (cI, 12, .inl (fun zy => nI (ST zy)))), (a6, .inl (cI, 12, .inl PH)), (a10, .inl (cI, 12, .inl LE)), (a11, .inl (cI, 12, .inl GR))] sz) := by
  refine Met.ofW (cc := prog_1_method_3_code) (maxL := 5) (ret := (some .int)) (by decide) rfl ?_
  intro p e s m args below meth c s₁ B hml hv
  obtain ⟨rfl, hsz, hP, hK, hD0, hN⟩ := hv
  have hx := B.exec
  have hb := B.bytes
  have hr := B.returns
  have hts0 := atoms_spec (ws := mw ⟨"PromiseChains", "pair", "(IIII)I"⟩ prog_1_method_3_code 5 (some .int)) B.pre
  have hts : ∀ w ∈ tblG, w.before _ s = true := fun w h => hts0 w (List.mem_cons_of_mem _ h)
  have hown : s.vm.findClass "PromiseChains" = some m.cls := findClass_of_methodNamed B.named
  have hlocks := B.notSynchronized
  subst hsz
  have hD := hD0.self (sz := s.heap.size)
  generalize hAe : va_A [(x, .inr (0, [.ref f0, .ref a0, .ref r0, .ref w0, .ref g0, .ref k0, .int tm, .int gp, .int lk])), (f0, .inr (1, [.int (nI nn), .ref f1, .ref f2, .ref f3, .ref f4])), (a0, .inr (2, [.int (nI np), .ref a1, .ref a2, .ref a3, .ref a4, .ref a5, .ref a6, .ref a7, .ref a8, .ref a9, .ref a10, .ref a11])), (a1, .inl (cI, 24, .inl (fun zy => nI (EP zy)))), (a2, .inl (cI, 24, .inl SI)), (a3, .inl (cI, 24, .inl LK)), (a4, .inl (cI, 1536, .inl SS)), (a5, .inl (cI, 12, .inl (fun zy => nI (ST zy)))), (a6, .inl (cI, 12, .inl PH)), (a10, .inl (cI, 12, .inl LE)), (a11, .inl (cI, 12, .inl GR))] s.heap.size = A at hD ⊢
  have hA : ∀ q : Nat, s.heap.size ≤ q → A q := fun q h => by rw [← hAe]; exact Or.inr h
  have hS : va_S A s.heap s.heap [] := va_S.rf
  have hP : va_P D vwCl [(x, .inr (0, [.ref f0, .ref a0, .ref r0, .ref w0, .ref g0, .ref k0, .int tm, .int gp, .int lk])), (f0, .inr (1, [.int (nI nn), .ref f1, .ref f2, .ref f3, .ref f4])), (a0, .inr (2, [.int (nI np), .ref a1, .ref a2, .ref a3, .ref a4, .ref a5, .ref a6, .ref a7, .ref a8, .ref a9, .ref a10, .ref a11])), (a1, .inl (cI, 24, .inl (fun zy => nI (EP zy)))), (a2, .inl (cI, 24, .inl SI)), (a3, .inl (cI, 24, .inl LK)), (a4, .inl (cI, 1536, .inl SS)), (a5, .inl (cI, 12, .inl (fun zy => nI (ST zy)))), (a6, .inl (cI, 12, .inl PH)), (a10, .inl (cI, 12, .inl LE)), (a11, .inl (cI, 12, .inl GR))] s.heap := hP
  have hl := lv_entry ([.ref x, .int i, .int j, .int u, .int v]) (n := 5) (Nat.le_of_ble_eq_true rfl)
  rw [lg_entry_eq]
  generalize (lg_sl ([.ref x, .int i, .int j, .int u, .int v]) ++ List.replicate (5 - (lg_sl ([.ref x, .int i, .int j, .int u, .int v])).length) Slot.unset).toArray = ls at hl ⊢
  have hl : lv_has ls 5 [(0, .ref x), (1, .int i), (2, .int j), (3, .int u), (4, .int v)] := hl
  refine lv_aload_n hx hb d_PC_pair_0 rfl (lv_at hl 0 rfl) ?_
  refine va_get (D := D) (ci := 0) (v := .ref f0) (C := R_PC) (T := F_PC) (N := 9) hx hb hts i_PC hown hK hP 0 rfl rfl 0 (by decide) (hts _ q_256) (fun _ h9 => h9) rfl d_PC_pair_1 ?_
  refine lv_iload_n hx hb d_PC_pair_4 rfl (lv_at hl 1 rfl) ?_
  have hPc := hP.sub (ws' := [(f0, .inr (1, [.int (nI nn), .ref f1, .ref f2, .ref f3, .ref f4]))]) [1] rfl
  have hDc := hD.sub (ws' := [(f0, .inr (1, [.int (nI nn), .ref f1, .ref f2, .ref f3, .ref f4]))]) [1] (by decide +kernel) rfl
  refine vp_callSi (va_Run.run (va_runV (As := [.int i]) (rest := []) ⟨hx, hb, hml, hown, hts⟩ (e_PE_has l D cI cZ f0 i nn f1 f2 f3 f4 s.heap.size h_nn) (my_cwV 1 hts q_302 q_299 q_300 q_301 q_2 rfl rfl (by decide +kernel) ⟨Nat.le_of_ble_eq_true rfl, Nat.le_of_ble_eq_true rfl⟩) (my_preV hPc hDc hK hN 1 0 rfl rfl) rfl rfl hl.1 rfl (lv_room (Nat.le_of_ble_eq_true rfl)) d_PC_pair_5 ⟨Nat.le_of_ble_eq_true rfl, Nat.le_of_ble_eq_true rfl⟩)) (fun r_1 hw_1 => ?_)
  rcases hw_1 with ⟨hg_2, rfl⟩ | ⟨j_3, hg_4, hg_5, hg_6, rfl⟩
  · have hg_2 : isw i 0 (nI nn - 1) = 0 := hg_2
    refine lv_if_eq (tgt := 27) hx hb d_PC_pair_8 (by decide) (fun _ => ?_) (fun h => absurd h (by decide))
    refine lv_bipush (v := (-2)) hx hb d_PC_pair_27 (by decide) ?_
    have hP9 := hP.sub (ws' := [(x, .inr (0, [.ref f0, .ref a0, .ref r0, .ref w0, .ref g0, .ref k0, .int tm, .int gp, .int lk])), (f0, .inr (1, [.int (nI nn), .ref f1, .ref f2, .ref f3, .ref f4])), (a0, .inr (2, [.int (nI np), .ref a1, .ref a2, .ref a3, .ref a4, .ref a5, .ref a6, .ref a7, .ref a8, .ref a9, .ref a10, .ref a11])), (a1, .inl (cI, 24, .inl (fun zy => nI (EP zy)))), (a2, .inl (cI, 24, .inl SI)), (a3, .inl (cI, 24, .inl LK)), (a4, .inl (cI, 1536, .inl SS)), (a5, .inl (cI, 12, .inl (fun zy => nI (ST zy)))), (a6, .inl (cI, 12, .inl PH)), (a10, .inl (cI, 12, .inl LE)), (a11, .inl (cI, 12, .inl GR))]) [0, 1, 2, 3, 4, 5, 6, 7, 8, 9, 10] rfl
    have hD9 := hD.sub (ws' := [(x, .inr (0, [.ref f0, .ref a0, .ref r0, .ref w0, .ref g0, .ref k0, .int tm, .int gp, .int lk])), (f0, .inr (1, [.int (nI nn), .ref f1, .ref f2, .ref f3, .ref f4])), (a0, .inr (2, [.int (nI np), .ref a1, .ref a2, .ref a3, .ref a4, .ref a5, .ref a6, .ref a7, .ref a8, .ref a9, .ref a10, .ref a11])), (a1, .inl (cI, 24, .inl (fun zy => nI (EP zy)))), (a2, .inl (cI, 24, .inl SI)), (a3, .inl (cI, 24, .inl LK)), (a4, .inl (cI, 1536, .inl SS)), (a5, .inl (cI, 12, .inl (fun zy => nI (ST zy)))), (a6, .inl (cI, 12, .inl PH)), (a10, .inl (cI, 12, .inl LE)), (a11, .inl (cI, 12, .inl GR))]) [0, 1, 2, 3, 4, 5, 6, 7, 8, 9, 10] (by decide +kernel) rfl
    refine W.widen (k := 0) (n := 0) (Nat.le_of_ble_eq_true rfl) (Nat.le_of_ble_eq_true rfl) ?_
    exact W.iret (v := (-2)) hx hb hr (fun tT ht hW => ⟨⟨(-2), (np, EP, SI, LK, SS, ST, PH, LE, GR), rfl, ⟨h_np, h_EP, h_ST, Or.inl (⟨(bp_1 hg_2), rfl, rfl, rfl, rfl, rfl, rfl, rfl, rfl, rfl⟩)⟩, by rw [ht]; exact hP9, hD9⟩, hS.F ht⟩) hS.2.2 d_PC_pair_29
  · have hg_4 : j_3 < nn := hg_4
    have hg_5 : i = nI j_3 := hg_5
    have hg_6 : ¬ isw i 0 (nI nn - 1) = 0 := hg_6
    subst hg_5
    refine lv_if_eq (tgt := 27) hx hb d_PC_pair_8 (by decide) (fun h => absurd h (by decide)) (fun _ => ?_)
    refine lv_aload_n hx hb d_PC_pair_11 rfl (lv_at hl 0 rfl) ?_
    refine va_get (D := D) (ci := 0) (v := .ref f0) (C := R_PC) (T := F_PC) (N := 9) hx hb hts i_PC hown hK hP 0 rfl rfl 0 (by decide) (hts _ q_256) (fun _ h9 => h9) rfl d_PC_pair_12 ?_
    refine lv_iload_n hx hb d_PC_pair_15 rfl (lv_at hl 2 rfl) ?_
    have hPc := hP.sub (ws' := [(f0, .inr (1, [.int (nI nn), .ref f1, .ref f2, .ref f3, .ref f4]))]) [1] rfl
    have hDc := hD.sub (ws' := [(f0, .inr (1, [.int (nI nn), .ref f1, .ref f2, .ref f3, .ref f4]))]) [1] (by decide +kernel) rfl
    refine vp_callSi (va_Run.run (va_runV (As := [.int j]) (rest := []) ⟨hx, hb, hml, hown, hts⟩ (e_PE_has l D cI cZ f0 j nn f1 f2 f3 f4 s.heap.size h_nn) (my_cwV 1 hts q_302 q_299 q_300 q_301 q_2 rfl rfl (by decide +kernel) ⟨Nat.le_of_ble_eq_true rfl, Nat.le_of_ble_eq_true rfl⟩) (my_preV hPc hDc hK hN 1 0 rfl rfl) rfl rfl hl.1 rfl (lv_room (Nat.le_of_ble_eq_true rfl)) d_PC_pair_16 ⟨Nat.le_of_ble_eq_true rfl, Nat.le_of_ble_eq_true rfl⟩)) (fun r_9 hw_9 => ?_)
    rcases hw_9 with ⟨hg_10, rfl⟩ | ⟨j_11, hg_12, hg_13, hg_14, rfl⟩
    · have hg_10 : isw j 0 (nI nn - 1) = 0 := hg_10
      refine lv_if_eq (tgt := 27) hx hb d_PC_pair_19 (by decide) (fun _ => ?_) (fun h => absurd h (by decide))
      refine lv_bipush (v := (-2)) hx hb d_PC_pair_27 (by decide) ?_
      have hP9 := hP.sub (ws' := [(x, .inr (0, [.ref f0, .ref a0, .ref r0, .ref w0, .ref g0, .ref k0, .int tm, .int gp, .int lk])), (f0, .inr (1, [.int (nI nn), .ref f1, .ref f2, .ref f3, .ref f4])), (a0, .inr (2, [.int (nI np), .ref a1, .ref a2, .ref a3, .ref a4, .ref a5, .ref a6, .ref a7, .ref a8, .ref a9, .ref a10, .ref a11])), (a1, .inl (cI, 24, .inl (fun zy => nI (EP zy)))), (a2, .inl (cI, 24, .inl SI)), (a3, .inl (cI, 24, .inl LK)), (a4, .inl (cI, 1536, .inl SS)), (a5, .inl (cI, 12, .inl (fun zy => nI (ST zy)))), (a6, .inl (cI, 12, .inl PH)), (a10, .inl (cI, 12, .inl LE)), (a11, .inl (cI, 12, .inl GR))]) [0, 1, 2, 3, 4, 5, 6, 7, 8, 9, 10] rfl
      have hD9 := hD.sub (ws' := [(x, .inr (0, [.ref f0, .ref a0, .ref r0, .ref w0, .ref g0, .ref k0, .int tm, .int gp, .int lk])), (f0, .inr (1, [.int (nI nn), .ref f1, .ref f2, .ref f3, .ref f4])), (a0, .inr (2, [.int (nI np), .ref a1, .ref a2, .ref a3, .ref a4, .ref a5, .ref a6, .ref a7, .ref a8, .ref a9, .ref a10, .ref a11])), (a1, .inl (cI, 24, .inl (fun zy => nI (EP zy)))), (a2, .inl (cI, 24, .inl SI)), (a3, .inl (cI, 24, .inl LK)), (a4, .inl (cI, 1536, .inl SS)), (a5, .inl (cI, 12, .inl (fun zy => nI (ST zy)))), (a6, .inl (cI, 12, .inl PH)), (a10, .inl (cI, 12, .inl LE)), (a11, .inl (cI, 12, .inl GR))]) [0, 1, 2, 3, 4, 5, 6, 7, 8, 9, 10] (by decide +kernel) rfl
      refine W.widen (k := 0) (n := 0) (Nat.le_of_ble_eq_true rfl) (Nat.le_of_ble_eq_true rfl) ?_
      exact W.iret (v := (-2)) hx hb hr (fun tT ht hW => ⟨⟨(-2), (np, EP, SI, LK, SS, ST, PH, LE, GR), rfl, ⟨h_np, h_EP, h_ST, Or.inl (⟨(bp_2 hg_10), rfl, rfl, rfl, rfl, rfl, rfl, rfl, rfl, rfl⟩)⟩, by rw [ht]; exact hP9, hD9⟩, hS.F ht⟩) hS.2.2 d_PC_pair_29
    · have hg_12 : j_11 < nn := hg_12
      have hg_13 : j = nI j_11 := hg_13
      have hg_14 : ¬ isw j 0 (nI nn - 1) = 0 := hg_14
      subst hg_13
      refine lv_if_eq (tgt := 27) hx hb d_PC_pair_19 (by decide) (fun h => absurd h (by decide)) (fun _ => ?_)
      refine lv_iload_n hx hb d_PC_pair_22 rfl (lv_at hl 1 rfl) ?_
      refine lv_iload_n hx hb d_PC_pair_23 rfl (lv_at hl 2 rfl) ?_
      refine lv_icmp_ne (tgt := 30) hx hb d_PC_pair_24 (by decide) (fun h_17 => ?_) (fun h_17 => ?_)
      · have nh_17 : ¬ j_3 = j_11 := fun qZ => h_17 ((nI_eq (a := j_3) (b := j_11) (by omega) (by omega)).mpr qZ)
        refine lv_iload_n hx hb d_PC_pair_30 rfl (lv_at hl 3 rfl) ?_
        refine lv_iconst (v := 0) hx hb d_PC_pair_31 (by decide) ?_
        refine lv_ldc hx hb hown (hts _ q_304) d_PC_pair_32 ?_
        have hPc := hP.sub (ws' := []) [] rfl
        have hDc := hD.sub (ws' := []) [] (by decide +kernel) rfl
        refine vp_callSi (va_Run.run (va_runS (As := [.int u, .int 0, .int 100000]) (rest := []) ⟨hx, hb, hml, hown, hts⟩ (e_within l D cI cZ u 0 100000 s.heap.size ) (my_cwS 3 hts q_290 q_288 q_289 q_1 rfl rfl (by decide +kernel) ⟨Nat.le_of_ble_eq_true rfl, Nat.le_of_ble_eq_true rfl⟩) (my_preS hPc hDc hK hN) rfl rfl hl.1 rfl (lv_room (Nat.le_of_ble_eq_true rfl)) d_PC_pair_34 ⟨Nat.le_of_ble_eq_true rfl, Nat.le_of_ble_eq_true rfl⟩)) (fun r_18 hw_18 => ?_)
        have hf_18_0 : r_18 = isw u 0 100000 := hw_18
        have hf_18_0 : r_18 = isw u 0 100000 := hf_18_0
        subst hf_18_0
        refine lv_if_eq (tgt := 51) hx hb d_PC_pair_37 (by decide) (fun h_19 => ?_) (fun h_19 => ?_)
        · refine lv_bipush (v := (-2)) hx hb d_PC_pair_51 (by decide) ?_
          have hP9 := hP.sub (ws' := [(x, .inr (0, [.ref f0, .ref a0, .ref r0, .ref w0, .ref g0, .ref k0, .int tm, .int gp, .int lk])), (f0, .inr (1, [.int (nI nn), .ref f1, .ref f2, .ref f3, .ref f4])), (a0, .inr (2, [.int (nI np), .ref a1, .ref a2, .ref a3, .ref a4, .ref a5, .ref a6, .ref a7, .ref a8, .ref a9, .ref a10, .ref a11])), (a1, .inl (cI, 24, .inl (fun zy => nI (EP zy)))), (a2, .inl (cI, 24, .inl SI)), (a3, .inl (cI, 24, .inl LK)), (a4, .inl (cI, 1536, .inl SS)), (a5, .inl (cI, 12, .inl (fun zy => nI (ST zy)))), (a6, .inl (cI, 12, .inl PH)), (a10, .inl (cI, 12, .inl LE)), (a11, .inl (cI, 12, .inl GR))]) [0, 1, 2, 3, 4, 5, 6, 7, 8, 9, 10] rfl
          have hD9 := hD.sub (ws' := [(x, .inr (0, [.ref f0, .ref a0, .ref r0, .ref w0, .ref g0, .ref k0, .int tm, .int gp, .int lk])), (f0, .inr (1, [.int (nI nn), .ref f1, .ref f2, .ref f3, .ref f4])), (a0, .inr (2, [.int (nI np), .ref a1, .ref a2, .ref a3, .ref a4, .ref a5, .ref a6, .ref a7, .ref a8, .ref a9, .ref a10, .ref a11])), (a1, .inl (cI, 24, .inl (fun zy => nI (EP zy)))), (a2, .inl (cI, 24, .inl SI)), (a3, .inl (cI, 24, .inl LK)), (a4, .inl (cI, 1536, .inl SS)), (a5, .inl (cI, 12, .inl (fun zy => nI (ST zy)))), (a6, .inl (cI, 12, .inl PH)), (a10, .inl (cI, 12, .inl LE)), (a11, .inl (cI, 12, .inl GR))]) [0, 1, 2, 3, 4, 5, 6, 7, 8, 9, 10] (by decide +kernel) rfl
          refine W.widen (k := 0) (n := 0) (Nat.le_of_ble_eq_true rfl) (Nat.le_of_ble_eq_true rfl) ?_
          exact W.iret (v := (-2)) hx hb hr (fun tT ht hW => ⟨⟨(-2), (np, EP, SI, LK, SS, ST, PH, LE, GR), rfl, ⟨h_np, h_EP, h_ST, Or.inl (⟨(bp_4 h_19), rfl, rfl, rfl, rfl, rfl, rfl, rfl, rfl, rfl⟩)⟩, by rw [ht]; exact hP9, hD9⟩, hS.F ht⟩) hS.2.2 d_PC_pair_53
        · refine lv_iload hx hb d_PC_pair_40 (lv_at hl 4 rfl) ?_
          refine lv_iconst (v := 0) hx hb d_PC_pair_42 (by decide) ?_
          refine lv_ldc hx hb hown (hts _ q_304) d_PC_pair_43 ?_
          have hPc := hP.sub (ws' := []) [] rfl
          have hDc := hD.sub (ws' := []) [] (by decide +kernel) rfl
          refine vp_callSi (va_Run.run (va_runS (As := [.int v, .int 0, .int 100000]) (rest := []) ⟨hx, hb, hml, hown, hts⟩ (e_within l D cI cZ v 0 100000 s.heap.size ) (my_cwS 3 hts q_290 q_288 q_289 q_1 rfl rfl (by decide +kernel) ⟨Nat.le_of_ble_eq_true rfl, Nat.le_of_ble_eq_true rfl⟩) (my_preS hPc hDc hK hN) rfl rfl hl.1 rfl (lv_room (Nat.le_of_ble_eq_true rfl)) d_PC_pair_45 ⟨Nat.le_of_ble_eq_true rfl, Nat.le_of_ble_eq_true rfl⟩)) (fun r_20 hw_20 => ?_)
          have hf_20_0 : r_20 = isw v 0 100000 := hw_20
          have hf_20_0 : r_20 = isw v 0 100000 := hf_20_0
          subst hf_20_0
          refine lv_if_ne (tgt := 54) hx hb d_PC_pair_48 (by decide) (fun h_21 => ?_) (fun h_21 => ?_)
          · refine lv_aload_n hx hb d_PC_pair_54 rfl (lv_at hl 0 rfl) ?_
            refine va_get (D := D) (ci := 0) (v := .ref a0) (C := R_PC) (T := F_PC) (N := 9) hx hb hts i_PC hown hK hP 0 rfl rfl 1 (by decide) (hts _ q_257) (fun _ h9 => h9) rfl d_PC_pair_55 ?_
            refine va_get (D := D) (ci := 2) (v := .int (nI np)) (C := R_PA) (T := F_PA) (N := 12) hx hb hts i_PA hown hK hP 2 rfl rfl 0 (by decide) (hts _ q_57) (fun _ h9 => h9) rfl d_PC_pair_58 ?_
            refine lv_bipush (v := 12) hx hb d_PC_pair_61 (by decide) ?_
            refine lv_icmp_lt (tgt := 69) hx hb d_PC_pair_63 (by decide) (fun h_22 => ?_) (fun h_22 => ?_)
            · have nh_22 : np < 12 := (nI_ltI (a := np) (b := 12) (by omega) (by omega)).mp h_22
              refine lv_aload_n hx hb d_PC_pair_69 rfl (lv_at hl 0 rfl) ?_
              refine va_get (D := D) (ci := 0) (v := .ref a0) (C := R_PC) (T := F_PC) (N := 9) hx hb hts i_PC hown hK hP 0 rfl rfl 1 (by decide) (hts _ q_257) (fun _ h9 => h9) rfl d_PC_pair_70 ?_
              refine lv_iload_n hx hb d_PC_pair_73 rfl (lv_at hl 1 rfl) ?_
              refine lv_iload_n hx hb d_PC_pair_74 rfl (lv_at hl 2 rfl) ?_
              refine lv_iload_n hx hb d_PC_pair_75 rfl (lv_at hl 3 rfl) ?_
              refine lv_iload hx hb d_PC_pair_76 (lv_at hl 4 rfl) ?_
              have hPc := hP.sub (ws' := [(a0, .inr (2, [.int (nI np), .ref a1, .ref a2, .ref a3, .ref a4, .ref a5, .ref a6, .ref a7, .ref a8, .ref a9, .ref a10, .ref a11])), (a1, .inl (cI, 24, .inl (fun zy => nI (EP zy)))), (a2, .inl (cI, 24, .inl SI)), (a3, .inl (cI, 24, .inl LK)), (a4, .inl (cI, 1536, .inl SS)), (a5, .inl (cI, 12, .inl (fun zy => nI (ST zy)))), (a6, .inl (cI, 12, .inl PH)), (a10, .inl (cI, 12, .inl LE)), (a11, .inl (cI, 12, .inl GR))]) [2, 3, 4, 5, 6, 7, 8, 9, 10] rfl
              have hDc := hD.sub (ws' := [(a0, .inr (2, [.int (nI np), .ref a1, .ref a2, .ref a3, .ref a4, .ref a5, .ref a6, .ref a7, .ref a8, .ref a9, .ref a10, .ref a11])), (a1, .inl (cI, 24, .inl (fun zy => nI (EP zy)))), (a2, .inl (cI, 24, .inl SI)), (a3, .inl (cI, 24, .inl LK)), (a4, .inl (cI, 1536, .inl SS)), (a5, .inl (cI, 12, .inl (fun zy => nI (ST zy)))), (a6, .inl (cI, 12, .inl PH)), (a10, .inl (cI, 12, .inl LE)), (a11, .inl (cI, 12, .inl GR))]) [2, 3, 4, 5, 6, 7, 8, 9, 10] (by decide +kernel) rfl
              have hFc := va_free (wc := [(a0, .inr (2, [.int (nI np), .ref a1, .ref a2, .ref a3, .ref a4, .ref a5, .ref a6, .ref a7, .ref a8, .ref a9, .ref a10, .ref a11])), (a1, .inl (cI, 24, .inl (fun zy => nI (EP zy)))), (a2, .inl (cI, 24, .inl SI)), (a3, .inl (cI, 24, .inl LK)), (a4, .inl (cI, 1536, .inl SS)), (a5, .inl (cI, 12, .inl (fun zy => nI (ST zy)))), (a6, .inl (cI, 12, .inl PH)), (a10, .inl (cI, 12, .inl LE)), (a11, .inl (cI, 12, .inl GR))]) hD hS hA [2, 3, 4, 5, 6, 7, 8, 9, 10] rfl
              refine va_calli (va_runV (As := [.int (nI j_3), .int (nI j_11), .int u, .int v]) (rest := []) ⟨hx, hb, hml, hown, hts⟩ (e_PA_add l D cI cZ a0 j_3 j_11 u v np a1 a2 a3 a4 a5 a6 a7 a8 a9 a10 a11 EP SI LK SS ST PH LE GR s.heap.size h_np h_EP h_ST nh_22 (by first | omega | (dsimp only; omega)) (by first | omega | (dsimp only; omega))) (my_cwV 4 hts q_308 q_305 q_306 q_307 q_3 rfl rfl (by decide +kernel) ⟨Nat.le_of_ble_eq_true rfl, Nat.le_of_ble_eq_true rfl⟩) (my_preV hPc hDc hK hN 2 0 rfl rfl) rfl rfl hl.1 rfl (lv_room (Nat.le_of_ble_eq_true rfl)) d_PC_pair_78 ⟨Nat.le_of_ble_eq_true rfl, Nat.le_of_ble_eq_true rfl⟩) hS (fun q _ h => hFc q h) hFc (fun r_23 uU tT H_24 locs ht hvm hw_23 hB hz1 hk1 hS => ?_)
              obtain ⟨SS_25, rfl⟩ : ∃ z, z = uU := ⟨_, rfl⟩
              obtain ⟨hP1, hD1⟩ := hB
              rw [ht] at hP1
              obtain ⟨hP, hD⟩ := va_join (wr := [(x, .inr (0, [.ref f0, .ref a0, .ref r0, .ref w0, .ref g0, .ref k0, .int tm, .int gp, .int lk])), (f0, .inr (1, [.int (nI nn), .ref f1, .ref f2, .ref f3, .ref f4]))]) (w1 := [(a0, .inr (2, [.int (nI (np + 1)), .ref a1, .ref a2, .ref a3, .ref a4, .ref a5, .ref a6, .ref a7, .ref a8, .ref a9, .ref a10, .ref a11])), (a1, .inl (cI, 24, .inl (fun zy => nI ((upN (upN EP (2 * np) j_3) (2 * np + 1) j_11) zy)))), (a2, .inl (cI, 24, .inl (upd (upd SI (2 * np) u) (2 * np + 1) v))), (a3, .inl (cI, 24, .inl (upd (upd LK (2 * np) 0) (2 * np + 1) 0))), (a4, .inl (cI, 1536, .inl SS_25)), (a5, .inl (cI, 12, .inl (fun zy => nI ((upN (upN ST np 0) np (inc64 (upN ST np 0 np))) zy)))), (a6, .inl (cI, 12, .inl (upd PH np 0))), (a10, .inl (cI, 12, .inl (upd LE np 0))), (a11, .inl (cI, 12, .inl (upd GR np (u + v))))]) hP hD [2, 3, 4, 5, 6, 7, 8, 9, 10] [0, 1] rfl rfl (by decide +kernel) (by decide +kernel) hk1 hFc hP1 hD1
              have hP : va_P D vwCl [(x, .inr (0, [.ref f0, .ref a0, .ref r0, .ref w0, .ref g0, .ref k0, .int tm, .int gp, .int lk])), (f0, .inr (1, [.int (nI nn), .ref f1, .ref f2, .ref f3, .ref f4])), (a0, .inr (2, [.int (nI (np + 1)), .ref a1, .ref a2, .ref a3, .ref a4, .ref a5, .ref a6, .ref a7, .ref a8, .ref a9, .ref a10, .ref a11])), (a1, .inl (cI, 24, .inl (fun zy => nI ((upN (upN EP (2 * np) j_3) (2 * np + 1) j_11) zy)))), (a2, .inl (cI, 24, .inl (upd (upd SI (2 * np) u) (2 * np + 1) v))), (a3, .inl (cI, 24, .inl (upd (upd LK (2 * np) 0) (2 * np + 1) 0))), (a4, .inl (cI, 1536, .inl SS_25)), (a5, .inl (cI, 12, .inl (fun zy => nI ((upN (upN ST np 0) np (inc64 (upN ST np 0 np))) zy)))), (a6, .inl (cI, 12, .inl (upd PH np 0))), (a10, .inl (cI, 12, .inl (upd LE np 0))), (a11, .inl (cI, 12, .inl (upd GR np (u + v))))] H_24 := hP
              have hf_25_0 : r_23 = nI np := hw_23
              have hf_25_0 : r_23 = nI np := hf_25_0
              subst hf_25_0
              have hP9 := hP.sub (ws' := [(x, .inr (0, [.ref f0, .ref a0, .ref r0, .ref w0, .ref g0, .ref k0, .int tm, .int gp, .int lk])), (f0, .inr (1, [.int (nI nn), .ref f1, .ref f2, .ref f3, .ref f4])), (a0, .inr (2, [.int (nI (np + 1)), .ref a1, .ref a2, .ref a3, .ref a4, .ref a5, .ref a6, .ref a7, .ref a8, .ref a9, .ref a10, .ref a11])), (a1, .inl (cI, 24, .inl (fun zy => nI ((upN (upN EP (2 * np) j_3) (2 * np + 1) j_11) zy)))), (a2, .inl (cI, 24, .inl (upd (upd SI (2 * np) u) (2 * np + 1) v))), (a3, .inl (cI, 24, .inl (upd (upd LK (2 * np) 0) (2 * np + 1) 0))), (a4, .inl (cI, 1536, .inl SS_25)), (a5, .inl (cI, 12, .inl (fun zy => nI ((upN (upN ST np 0) np (inc64 (upN ST np 0 np))) zy)))), (a6, .inl (cI, 12, .inl (upd PH np 0))), (a10, .inl (cI, 12, .inl (upd LE np 0))), (a11, .inl (cI, 12, .inl (upd GR np (u + v))))]) [0, 1, 2, 3, 4, 5, 6, 7, 8, 9, 10] rfl
              have hD9 := hD.sub (ws' := [(x, .inr (0, [.ref f0, .ref a0, .ref r0, .ref w0, .ref g0, .ref k0, .int tm, .int gp, .int lk])), (f0, .inr (1, [.int (nI nn), .ref f1, .ref f2, .ref f3, .ref f4])), (a0, .inr (2, [.int (nI (np + 1)), .ref a1, .ref a2, .ref a3, .ref a4, .ref a5, .ref a6, .ref a7, .ref a8, .ref a9, .ref a10, .ref a11])), (a1, .inl (cI, 24, .inl (fun zy => nI ((upN (upN EP (2 * np) j_3) (2 * np + 1) j_11) zy)))), (a2, .inl (cI, 24, .inl (upd (upd SI (2 * np) u) (2 * np + 1) v))), (a3, .inl (cI, 24, .inl (upd (upd LK (2 * np) 0) (2 * np + 1) 0))), (a4, .inl (cI, 1536, .inl SS_25)), (a5, .inl (cI, 12, .inl (fun zy => nI ((upN (upN ST np 0) np (inc64 (upN ST np 0 np))) zy)))), (a6, .inl (cI, 12, .inl (upd PH np 0))), (a10, .inl (cI, 12, .inl (upd LE np 0))), (a11, .inl (cI, 12, .inl (upd GR np (u + v))))]) [0, 1, 2, 3, 4, 5, 6, 7, 8, 9, 10] (by decide +kernel) rfl
              refine W.widen (k := 0) (n := 0) (Nat.le_of_ble_eq_true rfl) (Nat.le_of_ble_eq_true rfl) ?_
              exact W.iret (v := (nI np)) hx hb hr (fun tT ht hW => ⟨⟨(nI np), ((np + 1), (upN (upN EP (2 * np) j_3) (2 * np + 1) j_11), (upd (upd SI (2 * np) u) (2 * np + 1) v), (upd (upd LK (2 * np) 0) (2 * np + 1) 0), SS_25, (upN (upN ST np 0) np (inc64 (upN ST np 0 np))), (upd PH np 0), (upd LE np 0), (upd GR np (u + v))), rfl, ⟨(by first | omega | (dsimp only; omega)), (upN_le (upN_le h_EP (by omega)) (by omega)), (upN_le (upN_le h_ST (by omega)) (inc64_le ((upN_le h_ST (by omega)) _))), Or.inr (Or.inr (⟨j_3, j_11, (bp_n hg_6 hg_14 h_17 h_19 h_21), hg_5, hg_13, hg_4, hg_12, nh_17, nh_22, rfl, rfl, rfl, rfl, rfl, rfl, rfl, rfl, rfl⟩))⟩, by rw [ht]; exact hP9, hD9⟩, hS.F ht⟩) hS.2.2 d_PC_pair_81
            · have nh_22 : ¬ np < 12 := fun qZ => h_22 ((nI_ltI (a := np) (b := 12) (by omega) (by omega)).mpr qZ)
              refine lv_bipush (v := (-4)) hx hb d_PC_pair_66 (by decide) ?_
              have hP9 := hP.sub (ws' := [(x, .inr (0, [.ref f0, .ref a0, .ref r0, .ref w0, .ref g0, .ref k0, .int tm, .int gp, .int lk])), (f0, .inr (1, [.int (nI nn), .ref f1, .ref f2, .ref f3, .ref f4])), (a0, .inr (2, [.int (nI np), .ref a1, .ref a2, .ref a3, .ref a4, .ref a5, .ref a6, .ref a7, .ref a8, .ref a9, .ref a10, .ref a11])), (a1, .inl (cI, 24, .inl (fun zy => nI (EP zy)))), (a2, .inl (cI, 24, .inl SI)), (a3, .inl (cI, 24, .inl LK)), (a4, .inl (cI, 1536, .inl SS)), (a5, .inl (cI, 12, .inl (fun zy => nI (ST zy)))), (a6, .inl (cI, 12, .inl PH)), (a10, .inl (cI, 12, .inl LE)), (a11, .inl (cI, 12, .inl GR))]) [0, 1, 2, 3, 4, 5, 6, 7, 8, 9, 10] rfl
              have hD9 := hD.sub (ws' := [(x, .inr (0, [.ref f0, .ref a0, .ref r0, .ref w0, .ref g0, .ref k0, .int tm, .int gp, .int lk])), (f0, .inr (1, [.int (nI nn), .ref f1, .ref f2, .ref f3, .ref f4])), (a0, .inr (2, [.int (nI np), .ref a1, .ref a2, .ref a3, .ref a4, .ref a5, .ref a6, .ref a7, .ref a8, .ref a9, .ref a10, .ref a11])), (a1, .inl (cI, 24, .inl (fun zy => nI (EP zy)))), (a2, .inl (cI, 24, .inl SI)), (a3, .inl (cI, 24, .inl LK)), (a4, .inl (cI, 1536, .inl SS)), (a5, .inl (cI, 12, .inl (fun zy => nI (ST zy)))), (a6, .inl (cI, 12, .inl PH)), (a10, .inl (cI, 12, .inl LE)), (a11, .inl (cI, 12, .inl GR))]) [0, 1, 2, 3, 4, 5, 6, 7, 8, 9, 10] (by decide +kernel) rfl
              refine W.widen (k := 0) (n := 0) (Nat.le_of_ble_eq_true rfl) (Nat.le_of_ble_eq_true rfl) ?_
              exact W.iret (v := (-4)) hx hb hr (fun tT ht hW => ⟨⟨(-4), (np, EP, SI, LK, SS, ST, PH, LE, GR), rfl, ⟨h_np, h_EP, h_ST, Or.inr (Or.inl (⟨(bp_n hg_6 hg_14 h_17 h_19 h_21), (by first | omega | (dsimp only; omega)), rfl, rfl, rfl, rfl, rfl, rfl, rfl, rfl, rfl⟩))⟩, by rw [ht]; exact hP9, hD9⟩, hS.F ht⟩) hS.2.2 d_PC_pair_68
          · refine lv_bipush (v := (-2)) hx hb d_PC_pair_51 (by decide) ?_
            have hP9 := hP.sub (ws' := [(x, .inr (0, [.ref f0, .ref a0, .ref r0, .ref w0, .ref g0, .ref k0, .int tm, .int gp, .int lk])), (f0, .inr (1, [.int (nI nn), .ref f1, .ref f2, .ref f3, .ref f4])), (a0, .inr (2, [.int (nI np), .ref a1, .ref a2, .ref a3, .ref a4, .ref a5, .ref a6, .ref a7, .ref a8, .ref a9, .ref a10, .ref a11])), (a1, .inl (cI, 24, .inl (fun zy => nI (EP zy)))), (a2, .inl (cI, 24, .inl SI)), (a3, .inl (cI, 24, .inl LK)), (a4, .inl (cI, 1536, .inl SS)), (a5, .inl (cI, 12, .inl (fun zy => nI (ST zy)))), (a6, .inl (cI, 12, .inl PH)), (a10, .inl (cI, 12, .inl LE)), (a11, .inl (cI, 12, .inl GR))]) [0, 1, 2, 3, 4, 5, 6, 7, 8, 9, 10] rfl
            have hD9 := hD.sub (ws' := [(x, .inr (0, [.ref f0, .ref a0, .ref r0, .ref w0, .ref g0, .ref k0, .int tm, .int gp, .int lk])), (f0, .inr (1, [.int (nI nn), .ref f1, .ref f2, .ref f3, .ref f4])), (a0, .inr (2, [.int (nI np), .ref a1, .ref a2, .ref a3, .ref a4, .ref a5, .ref a6, .ref a7, .ref a8, .ref a9, .ref a10, .ref a11])), (a1, .inl (cI, 24, .inl (fun zy => nI (EP zy)))), (a2, .inl (cI, 24, .inl SI)), (a3, .inl (cI, 24, .inl LK)), (a4, .inl (cI, 1536, .inl SS)), (a5, .inl (cI, 12, .inl (fun zy => nI (ST zy)))), (a6, .inl (cI, 12, .inl PH)), (a10, .inl (cI, 12, .inl LE)), (a11, .inl (cI, 12, .inl GR))]) [0, 1, 2, 3, 4, 5, 6, 7, 8, 9, 10] (by decide +kernel) rfl
            refine W.widen (k := 0) (n := 0) (Nat.le_of_ble_eq_true rfl) (Nat.le_of_ble_eq_true rfl) ?_
            exact W.iret (v := (-2)) hx hb hr (fun tT ht hW => ⟨⟨(-2), (np, EP, SI, LK, SS, ST, PH, LE, GR), rfl, ⟨h_np, h_EP, h_ST, Or.inl (⟨(bp_5 h_21), rfl, rfl, rfl, rfl, rfl, rfl, rfl, rfl, rfl⟩)⟩, by rw [ht]; exact hP9, hD9⟩, hS.F ht⟩) hS.2.2 d_PC_pair_53
      · have nh_17 : j_3 = j_11 := (nI_eq (a := j_3) (b := j_11) (by omega) (by omega)).mp h_17
        refine lv_bipush (v := (-2)) hx hb d_PC_pair_27 (by decide) ?_
        have hP9 := hP.sub (ws' := [(x, .inr (0, [.ref f0, .ref a0, .ref r0, .ref w0, .ref g0, .ref k0, .int tm, .int gp, .int lk])), (f0, .inr (1, [.int (nI nn), .ref f1, .ref f2, .ref f3, .ref f4])), (a0, .inr (2, [.int (nI np), .ref a1, .ref a2, .ref a3, .ref a4, .ref a5, .ref a6, .ref a7, .ref a8, .ref a9, .ref a10, .ref a11])), (a1, .inl (cI, 24, .inl (fun zy => nI (EP zy)))), (a2, .inl (cI, 24, .inl SI)), (a3, .inl (cI, 24, .inl LK)), (a4, .inl (cI, 1536, .inl SS)), (a5, .inl (cI, 12, .inl (fun zy => nI (ST zy)))), (a6, .inl (cI, 12, .inl PH)), (a10, .inl (cI, 12, .inl LE)), (a11, .inl (cI, 12, .inl GR))]) [0, 1, 2, 3, 4, 5, 6, 7, 8, 9, 10] rfl
        have hD9 := hD.sub (ws' := [(x, .inr (0, [.ref f0, .ref a0, .ref r0, .ref w0, .ref g0, .ref k0, .int tm, .int gp, .int lk])), (f0, .inr (1, [.int (nI nn), .ref f1, .ref f2, .ref f3, .ref f4])), (a0, .inr (2, [.int (nI np), .ref a1, .ref a2, .ref a3, .ref a4, .ref a5, .ref a6, .ref a7, .ref a8, .ref a9, .ref a10, .ref a11])), (a1, .inl (cI, 24, .inl (fun zy => nI (EP zy)))), (a2, .inl (cI, 24, .inl SI)), (a3, .inl (cI, 24, .inl LK)), (a4, .inl (cI, 1536, .inl SS)), (a5, .inl (cI, 12, .inl (fun zy => nI (ST zy)))), (a6, .inl (cI, 12, .inl PH)), (a10, .inl (cI, 12, .inl LE)), (a11, .inl (cI, 12, .inl GR))]) [0, 1, 2, 3, 4, 5, 6, 7, 8, 9, 10] (by decide +kernel) rfl
        refine W.widen (k := 0) (n := 0) (Nat.le_of_ble_eq_true rfl) (Nat.le_of_ble_eq_true rfl) ?_
        exact W.iret (v := (-2)) hx hb hr (fun tT ht hW => ⟨⟨(-2), (np, EP, SI, LK, SS, ST, PH, LE, GR), rfl, ⟨h_np, h_EP, h_ST, Or.inl (⟨(bp_3 h_17), rfl, rfl, rfl, rfl, rfl, rfl, rfl, rfl, rfl⟩)⟩, by rw [ht]; exact hP9, hD9⟩, hS.F ht⟩) hS.2.2 d_PC_pair_29

set_option maxHeartbeats 4000000 in
set_option maxRecDepth 100000 in
theorem e_PC_fee (l : Launch) (D : va_G) (cI cZ : ClassId) (x : Nat) (i : Int32) (u : Int32) (v : Int32) (f0 : Nat) (a0 : Nat) (r0 : Nat) (w0 : Nat) (g0 : Nat) (k0 : Nat) (tm : Int32) (gp : Int32) (lk : Int32) (nn : Nat) (f1 : Nat) (f2 : Nat) (f3 : Nat) (f4 : Nat) (FB : Nat → Int32) (FR : Nat → Int32) (sz : Nat) (h_nn : nn ≤ 7) : Met l ⟨"PromiseChains", "fee", "(III)I"⟩ (mw ⟨"PromiseChains", "fee", "(III)I"⟩ prog_1_method_4_code 4 (some .int)) ({ frames := 2, cells := 0, slots := 0, locals := 43 }) (va_Pc [.ref x, .int i, .int u, .int v] (PB D cI cZ sz [(x, .inr (0, [.ref f0, .ref a0, .ref r0, .ref w0, .ref g0, .ref k0, .int tm, .int gp, .int lk])), (f0, .inr (1, [.int (nI nn), .ref f1, .ref f2, .ref f3, .ref f4])), (f2, .inl (cI, 7, .inl FB)), (f3, .inl (cI, 7, .inl FR))])) (va_Qi (S := (Nat → Int32) × (Nat → Int32)) (fun (r : Int32) uU => (badFee nn i u v ∧ uU.1 = FB ∧ uU.2 = FR ∧ r = -2) ∨ (∃ a : Nat, ¬ badFee nn i u v ∧ i = nI a ∧ a < nn ∧ uU.1 = upd FB a u ∧ uU.2 = upd FR a v ∧ r = 1)) (fun uU tT => BB D (va_A [(x, .inr (0, [.ref f0, .ref a0, .ref r0, .ref w0, .ref g0, .ref k0, .int tm, .int gp, .int lk])), (f0, .inr (1, [.int (nI nn), .ref f1, .ref f2, .ref f3, .ref f4])), (f2, .inl (cI, 7, .inl FB)), (f3, .inl (cI, 7, .inl FR))] sz) [(x, .inr (0, [.ref f0, .ref a0, .ref r0, .ref w0, .ref g0, .ref k0, .int tm, .int gp, .int lk])), (f0, .inr (1, [.int (nI nn), .ref f1, .ref f2, .ref f3, .ref f4])), (f2, .inl (cI, 7, .inl (uU.1))), (f3, .inl (cI, 7, .inl (uU.2)))] tT) (va_A [(x, .inr (0, [.ref f0, .ref a0, .ref r0, .ref w0, .ref g0, .ref k0, .int tm, .int gp, .int lk])), (f0, .inr (1, [.int (nI nn), .ref f1, .ref f2, .ref f3, .ref f4])), (f2, .inl (cI, 7, .inl FB)), (f3, .inl (cI, 7, .inl FR))] sz)) 0 0 (va_A [(x, .inr (0, [.ref f0, .ref a0, .ref r0, .ref w0, .ref g0, .ref k0, .int tm, .int gp, .int lk])), (f0, .inr (1, [.int (nI nn), .ref f1, .ref f2, .ref f3, .ref f4])), (f2, .inl (cI, 7, .inl FB)), (f3, .inl (cI, 7, .inl FR))] sz) := by
  refine Met.ofW (cc := prog_1_method_4_code) (maxL := 4) (ret := (some .int)) (by decide) rfl ?_
  intro p e s m args below meth c s₁ B hml hv
  obtain ⟨rfl, hsz, hP, hK, hD0, hN⟩ := hv
  have hx := B.exec
  have hb := B.bytes
  have hr := B.returns
  have hts0 := atoms_spec (ws := mw ⟨"PromiseChains", "fee", "(III)I"⟩ prog_1_method_4_code 4 (some .int)) B.pre
  have hts : ∀ w ∈ tblG, w.before _ s = true := fun w h => hts0 w (List.mem_cons_of_mem _ h)
  have hown : s.vm.findClass "PromiseChains" = some m.cls := findClass_of_methodNamed B.named
  have hlocks := B.notSynchronized
  subst hsz
  have hD := hD0.self (sz := s.heap.size)
  generalize hAe : va_A [(x, .inr (0, [.ref f0, .ref a0, .ref r0, .ref w0, .ref g0, .ref k0, .int tm, .int gp, .int lk])), (f0, .inr (1, [.int (nI nn), .ref f1, .ref f2, .ref f3, .ref f4])), (f2, .inl (cI, 7, .inl FB)), (f3, .inl (cI, 7, .inl FR))] s.heap.size = A at hD ⊢
  have hA : ∀ q : Nat, s.heap.size ≤ q → A q := fun q h => by rw [← hAe]; exact Or.inr h
  have hS : va_S A s.heap s.heap [] := va_S.rf
  have hP : va_P D vwCl [(x, .inr (0, [.ref f0, .ref a0, .ref r0, .ref w0, .ref g0, .ref k0, .int tm, .int gp, .int lk])), (f0, .inr (1, [.int (nI nn), .ref f1, .ref f2, .ref f3, .ref f4])), (f2, .inl (cI, 7, .inl FB)), (f3, .inl (cI, 7, .inl FR))] s.heap := hP
  have hl := lv_entry ([.ref x, .int i, .int u, .int v]) (n := 4) (Nat.le_of_ble_eq_true rfl)
  rw [lg_entry_eq]
  generalize (lg_sl ([.ref x, .int i, .int u, .int v]) ++ List.replicate (4 - (lg_sl ([.ref x, .int i, .int u, .int v])).length) Slot.unset).toArray = ls at hl ⊢
  have hl : lv_has ls 4 [(0, .ref x), (1, .int i), (2, .int u), (3, .int v)] := hl
  refine lv_aload_n hx hb d_PC_fee_0 rfl (lv_at hl 0 rfl) ?_
  refine va_get (D := D) (ci := 0) (v := .ref f0) (C := R_PC) (T := F_PC) (N := 9) hx hb hts i_PC hown hK hP 0 rfl rfl 0 (by decide) (hts _ q_256) (fun _ h9 => h9) rfl d_PC_fee_1 ?_
  refine lv_iload_n hx hb d_PC_fee_4 rfl (lv_at hl 1 rfl) ?_
  have hPc := hP.sub (ws' := [(f0, .inr (1, [.int (nI nn), .ref f1, .ref f2, .ref f3, .ref f4]))]) [1] rfl
  have hDc := hD.sub (ws' := [(f0, .inr (1, [.int (nI nn), .ref f1, .ref f2, .ref f3, .ref f4]))]) [1] (by decide +kernel) rfl
  refine vp_callSi (va_Run.run (va_runV (As := [.int i]) (rest := []) ⟨hx, hb, hml, hown, hts⟩ (e_PE_has l D cI cZ f0 i nn f1 f2 f3 f4 s.heap.size h_nn) (my_cwV 1 hts q_302 q_299 q_300 q_301 q_2 rfl rfl (by decide +kernel) ⟨Nat.le_of_ble_eq_true rfl, Nat.le_of_ble_eq_true rfl⟩) (my_preV hPc hDc hK hN 1 0 rfl rfl) rfl rfl hl.1 rfl (lv_room (Nat.le_of_ble_eq_true rfl)) d_PC_fee_5 ⟨Nat.le_of_ble_eq_true rfl, Nat.le_of_ble_eq_true rfl⟩)) (fun r_1 hw_1 => ?_)
  rcases hw_1 with ⟨hg_2, rfl⟩ | ⟨j_3, hg_4, hg_5, hg_6, rfl⟩
  · have hg_2 : isw i 0 (nI nn - 1) = 0 := hg_2
    refine lv_if_eq (tgt := 31) hx hb d_PC_fee_8 (by decide) (fun _ => ?_) (fun h => absurd h (by decide))
    refine lv_bipush (v := (-2)) hx hb d_PC_fee_31 (by decide) ?_
    have hP9 := hP.sub (ws' := [(x, .inr (0, [.ref f0, .ref a0, .ref r0, .ref w0, .ref g0, .ref k0, .int tm, .int gp, .int lk])), (f0, .inr (1, [.int (nI nn), .ref f1, .ref f2, .ref f3, .ref f4])), (f2, .inl (cI, 7, .inl FB)), (f3, .inl (cI, 7, .inl FR))]) [0, 1, 2, 3] rfl
    have hD9 := hD.sub (ws' := [(x, .inr (0, [.ref f0, .ref a0, .ref r0, .ref w0, .ref g0, .ref k0, .int tm, .int gp, .int lk])), (f0, .inr (1, [.int (nI nn), .ref f1, .ref f2, .ref f3, .ref f4])), (f2, .inl (cI, 7, .inl FB)), (f3, .inl (cI, 7, .inl FR))]) [0, 1, 2, 3] (by decide +kernel) rfl
    refine W.widen (k := 0) (n := 0) (Nat.le_of_ble_eq_true rfl) (Nat.le_of_ble_eq_true rfl) ?_
    exact W.iret (v := (-2)) hx hb hr (fun tT ht hW => ⟨⟨(-2), (FB, FR), rfl, (Or.inl (⟨(bf_1 hg_2), rfl, rfl, rfl⟩)), by rw [ht]; exact hP9, hD9⟩, hS.F ht⟩) hS.2.2 d_PC_fee_33
  · have hg_4 : j_3 < nn := hg_4
    have hg_5 : i = nI j_3 := hg_5
    have hg_6 : ¬ isw i 0 (nI nn - 1) = 0 := hg_6
    subst hg_5
    refine lv_if_eq (tgt := 31) hx hb d_PC_fee_8 (by decide) (fun h => absurd h (by decide)) (fun _ => ?_)
    refine lv_iload_n hx hb d_PC_fee_11 rfl (lv_at hl 2 rfl) ?_
    refine lv_iconst (v := 0) hx hb d_PC_fee_12 (by decide) ?_
    refine lv_bipush (v := 100) hx hb d_PC_fee_13 (by decide) ?_
    have hPc := hP.sub (ws' := []) [] rfl
    have hDc := hD.sub (ws' := []) [] (by decide +kernel) rfl
    refine vp_callSi (va_Run.run (va_runS (As := [.int u, .int 0, .int 100]) (rest := []) ⟨hx, hb, hml, hown, hts⟩ (e_within l D cI cZ u 0 100 s.heap.size ) (my_cwS 3 hts q_290 q_288 q_289 q_1 rfl rfl (by decide +kernel) ⟨Nat.le_of_ble_eq_true rfl, Nat.le_of_ble_eq_true rfl⟩) (my_preS hPc hDc hK hN) rfl rfl hl.1 rfl (lv_room (Nat.le_of_ble_eq_true rfl)) d_PC_fee_15 ⟨Nat.le_of_ble_eq_true rfl, Nat.le_of_ble_eq_true rfl⟩)) (fun r_9 hw_9 => ?_)
    have hf_9_0 : r_9 = isw u 0 100 := hw_9
    have hf_9_0 : r_9 = isw u 0 100 := hf_9_0
    subst hf_9_0
    refine lv_if_eq (tgt := 31) hx hb d_PC_fee_18 (by decide) (fun h_10 => ?_) (fun h_10 => ?_)
    · refine lv_bipush (v := (-2)) hx hb d_PC_fee_31 (by decide) ?_
      have hP9 := hP.sub (ws' := [(x, .inr (0, [.ref f0, .ref a0, .ref r0, .ref w0, .ref g0, .ref k0, .int tm, .int gp, .int lk])), (f0, .inr (1, [.int (nI nn), .ref f1, .ref f2, .ref f3, .ref f4])), (f2, .inl (cI, 7, .inl FB)), (f3, .inl (cI, 7, .inl FR))]) [0, 1, 2, 3] rfl
      have hD9 := hD.sub (ws' := [(x, .inr (0, [.ref f0, .ref a0, .ref r0, .ref w0, .ref g0, .ref k0, .int tm, .int gp, .int lk])), (f0, .inr (1, [.int (nI nn), .ref f1, .ref f2, .ref f3, .ref f4])), (f2, .inl (cI, 7, .inl FB)), (f3, .inl (cI, 7, .inl FR))]) [0, 1, 2, 3] (by decide +kernel) rfl
      refine W.widen (k := 0) (n := 0) (Nat.le_of_ble_eq_true rfl) (Nat.le_of_ble_eq_true rfl) ?_
      exact W.iret (v := (-2)) hx hb hr (fun tT ht hW => ⟨⟨(-2), (FB, FR), rfl, (Or.inl (⟨(bf_2 h_10), rfl, rfl, rfl⟩)), by rw [ht]; exact hP9, hD9⟩, hS.F ht⟩) hS.2.2 d_PC_fee_33
    · refine lv_iload_n hx hb d_PC_fee_21 rfl (lv_at hl 3 rfl) ?_
      refine lv_iconst (v := 0) hx hb d_PC_fee_22 (by decide) ?_
      refine lv_bipush (v := 100) hx hb d_PC_fee_23 (by decide) ?_
      have hPc := hP.sub (ws' := []) [] rfl
      have hDc := hD.sub (ws' := []) [] (by decide +kernel) rfl
      refine vp_callSi (va_Run.run (va_runS (As := [.int v, .int 0, .int 100]) (rest := []) ⟨hx, hb, hml, hown, hts⟩ (e_within l D cI cZ v 0 100 s.heap.size ) (my_cwS 3 hts q_290 q_288 q_289 q_1 rfl rfl (by decide +kernel) ⟨Nat.le_of_ble_eq_true rfl, Nat.le_of_ble_eq_true rfl⟩) (my_preS hPc hDc hK hN) rfl rfl hl.1 rfl (lv_room (Nat.le_of_ble_eq_true rfl)) d_PC_fee_25 ⟨Nat.le_of_ble_eq_true rfl, Nat.le_of_ble_eq_true rfl⟩)) (fun r_11 hw_11 => ?_)
      have hf_11_0 : r_11 = isw v 0 100 := hw_11
      have hf_11_0 : r_11 = isw v 0 100 := hf_11_0
      subst hf_11_0
      refine lv_if_ne (tgt := 34) hx hb d_PC_fee_28 (by decide) (fun h_12 => ?_) (fun h_12 => ?_)
      · refine lv_aload_n hx hb d_PC_fee_34 rfl (lv_at hl 0 rfl) ?_
        refine va_get (D := D) (ci := 0) (v := .ref f0) (C := R_PC) (T := F_PC) (N := 9) hx hb hts i_PC hown hK hP 0 rfl rfl 0 (by decide) (hts _ q_256) (fun _ h9 => h9) rfl d_PC_fee_35 ?_
        refine va_get (D := D) (ci := 1) (v := .ref f2) (C := R_PE) (T := F_PE) (N := 5) hx hb hts i_PE hown hK hP 1 rfl rfl 2 (by decide) (hts _ q_30) (fun _ h9 => h9) rfl d_PC_fee_38 ?_
        refine lv_iload_n hx hb d_PC_fee_41 rfl (lv_at hl 1 rfl) ?_
        refine lv_iload_n hx hb d_PC_fee_42 rfl (lv_at hl 2 rfl) ?_
        refine my_stI hx hb hK hP hD hS 2 rfl j_3 rfl (by omega) (by decide) d_PC_fee_43 (fun H_13 locs hP hD hS => ?_)
        have hP : va_P D vwCl [(x, .inr (0, [.ref f0, .ref a0, .ref r0, .ref w0, .ref g0, .ref k0, .int tm, .int gp, .int lk])), (f0, .inr (1, [.int (nI nn), .ref f1, .ref f2, .ref f3, .ref f4])), (f2, .inl (cI, 7, .inl (upd FB j_3 u))), (f3, .inl (cI, 7, .inl FR))] H_13 := hP
        refine lv_aload_n hx hb d_PC_fee_44 rfl (lv_at hl 0 rfl) ?_
        refine va_get (D := D) (ci := 0) (v := .ref f0) (C := R_PC) (T := F_PC) (N := 9) hx hb hts i_PC hown hK hP 0 rfl rfl 0 (by decide) (hts _ q_256) (fun _ h9 => h9) rfl d_PC_fee_45 ?_
        refine va_get (D := D) (ci := 1) (v := .ref f3) (C := R_PE) (T := F_PE) (N := 5) hx hb hts i_PE hown hK hP 1 rfl rfl 3 (by decide) (hts _ q_32) (fun _ h9 => h9) rfl d_PC_fee_48 ?_
        refine lv_iload_n hx hb d_PC_fee_51 rfl (lv_at hl 1 rfl) ?_
        refine lv_iload_n hx hb d_PC_fee_52 rfl (lv_at hl 3 rfl) ?_
        refine my_stI hx hb hK hP hD hS 3 rfl j_3 rfl (by omega) (by decide) d_PC_fee_53 (fun H_14 locs hP hD hS => ?_)
        have hP : va_P D vwCl [(x, .inr (0, [.ref f0, .ref a0, .ref r0, .ref w0, .ref g0, .ref k0, .int tm, .int gp, .int lk])), (f0, .inr (1, [.int (nI nn), .ref f1, .ref f2, .ref f3, .ref f4])), (f2, .inl (cI, 7, .inl (upd FB j_3 u))), (f3, .inl (cI, 7, .inl (upd FR j_3 v)))] H_14 := hP
        refine lv_iconst (v := 1) hx hb d_PC_fee_54 (by decide) ?_
        have hP9 := hP.sub (ws' := [(x, .inr (0, [.ref f0, .ref a0, .ref r0, .ref w0, .ref g0, .ref k0, .int tm, .int gp, .int lk])), (f0, .inr (1, [.int (nI nn), .ref f1, .ref f2, .ref f3, .ref f4])), (f2, .inl (cI, 7, .inl (upd FB j_3 u))), (f3, .inl (cI, 7, .inl (upd FR j_3 v)))]) [0, 1, 2, 3] rfl
        have hD9 := hD.sub (ws' := [(x, .inr (0, [.ref f0, .ref a0, .ref r0, .ref w0, .ref g0, .ref k0, .int tm, .int gp, .int lk])), (f0, .inr (1, [.int (nI nn), .ref f1, .ref f2, .ref f3, .ref f4])), (f2, .inl (cI, 7, .inl (upd FB j_3 u))), (f3, .inl (cI, 7, .inl (upd FR j_3 v)))]) [0, 1, 2, 3] (by decide +kernel) rfl
        refine W.widen (k := 0) (n := 0) (Nat.le_of_ble_eq_true rfl) (Nat.le_of_ble_eq_true rfl) ?_
        exact W.iret (v := 1) hx hb hr (fun tT ht hW => ⟨⟨1, ((upd FB j_3 u), (upd FR j_3 v)), rfl, (Or.inr (⟨j_3, (bf_n hg_6 h_10 h_12), hg_5, hg_4, rfl, rfl, rfl⟩)), by rw [ht]; exact hP9, hD9⟩, hS.F ht⟩) hS.2.2 d_PC_fee_55
      · refine lv_bipush (v := (-2)) hx hb d_PC_fee_31 (by decide) ?_
        have hP9 := hP.sub (ws' := [(x, .inr (0, [.ref f0, .ref a0, .ref r0, .ref w0, .ref g0, .ref k0, .int tm, .int gp, .int lk])), (f0, .inr (1, [.int (nI nn), .ref f1, .ref f2, .ref f3, .ref f4])), (f2, .inl (cI, 7, .inl FB)), (f3, .inl (cI, 7, .inl FR))]) [0, 1, 2, 3] rfl
        have hD9 := hD.sub (ws' := [(x, .inr (0, [.ref f0, .ref a0, .ref r0, .ref w0, .ref g0, .ref k0, .int tm, .int gp, .int lk])), (f0, .inr (1, [.int (nI nn), .ref f1, .ref f2, .ref f3, .ref f4])), (f2, .inl (cI, 7, .inl FB)), (f3, .inl (cI, 7, .inl FR))]) [0, 1, 2, 3] (by decide +kernel) rfl
        refine W.widen (k := 0) (n := 0) (Nat.le_of_ble_eq_true rfl) (Nat.le_of_ble_eq_true rfl) ?_
        exact W.iret (v := (-2)) hx hb hr (fun tT ht hW => ⟨⟨(-2), (FB, FR), rfl, (Or.inl (⟨(bf_3 h_12), rfl, rfl, rfl⟩)), by rw [ht]; exact hP9, hD9⟩, hS.F ht⟩) hS.2.2 d_PC_fee_33

set_option maxHeartbeats 4000000 in
set_option maxRecDepth 100000 in
theorem e_PC_gap (l : Launch) (D : va_G) (cI cZ : ClassId) (x : Nat) (v : Int32) (f0 : Nat) (a0 : Nat) (r0 : Nat) (w0 : Nat) (g0 : Nat) (k0 : Nat) (tm : Int32) (gp : Int32) (lk : Int32) (sz : Nat)  : Met l ⟨"PromiseChains", "gap", "(I)I"⟩ (mw ⟨"PromiseChains", "gap", "(I)I"⟩ prog_1_method_5_code 3 (some .int)) ({ frames := 1, cells := 0, slots := 0, locals := 22 }) (va_Pc [.ref x, .int v] (PB D cI cZ sz [(x, .inr (0, [.ref f0, .ref a0, .ref r0, .ref w0, .ref g0, .ref k0, .int tm, .int gp, .int lk]))])) (va_Qi (S := Int32) (fun (r : Int32) uU => (r = gp_set gp v) ∧ (uU = gsv gp v)) (fun uU tT => BB D (va_A [(x, .inr (0, [.ref f0, .ref a0, .ref r0, .ref w0, .ref g0, .ref k0, .int tm, .int gp, .int lk]))] sz) [(x, .inr (0, [.ref f0, .ref a0, .ref r0, .ref w0, .ref g0, .ref k0, .int tm, .int (uU), .int lk]))] tT) (va_A [(x, .inr (0, [.ref f0, .ref a0, .ref r0, .ref w0, .ref g0, .ref k0, .int tm, .int gp, .int lk]))] sz)) 0 0 (va_A [(x, .inr (0, [.ref f0, .ref a0, .ref r0, .ref w0, .ref g0, .ref k0, .int tm, .int gp, .int lk]))] sz) := by
  refine Met.ofW (cc := prog_1_method_5_code) (maxL := 3) (ret := (some .int)) (by decide) rfl ?_
  intro p e s m args below meth c s₁ B hml hv
  obtain ⟨rfl, hsz, hP, hK, hD0, hN⟩ := hv
  have hx := B.exec
  have hb := B.bytes
  have hr := B.returns
  have hts0 := atoms_spec (ws := mw ⟨"PromiseChains", "gap", "(I)I"⟩ prog_1_method_5_code 3 (some .int)) B.pre
  have hts : ∀ w ∈ tblG, w.before _ s = true := fun w h => hts0 w (List.mem_cons_of_mem _ h)
  have hown : s.vm.findClass "PromiseChains" = some m.cls := findClass_of_methodNamed B.named
  have hlocks := B.notSynchronized
  subst hsz
  have hD := hD0.self (sz := s.heap.size)
  generalize hAe : va_A [(x, .inr (0, [.ref f0, .ref a0, .ref r0, .ref w0, .ref g0, .ref k0, .int tm, .int gp, .int lk]))] s.heap.size = A at hD ⊢
  have hA : ∀ q : Nat, s.heap.size ≤ q → A q := fun q h => by rw [← hAe]; exact Or.inr h
  have hS : va_S A s.heap s.heap [] := va_S.rf
  have hP : va_P D vwCl [(x, .inr (0, [.ref f0, .ref a0, .ref r0, .ref w0, .ref g0, .ref k0, .int tm, .int gp, .int lk]))] s.heap := hP
  have hl := lv_entry ([.ref x, .int v]) (n := 3) (Nat.le_of_ble_eq_true rfl)
  rw [lg_entry_eq]
  generalize (lg_sl ([.ref x, .int v]) ++ List.replicate (3 - (lg_sl ([.ref x, .int v])).length) Slot.unset).toArray = ls at hl ⊢
  have hl : lv_has ls 3 [(0, .ref x), (1, .int v)] := hl
  refine lv_iload_n hx hb d_PC_gap_0 rfl (lv_at hl 1 rfl) ?_
  refine lv_iconst (v := 1) hx hb d_PC_gap_1 (by decide) ?_
  refine lv_bipush (v := 50) hx hb d_PC_gap_2 (by decide) ?_
  have hPc := hP.sub (ws' := []) [] rfl
  have hDc := hD.sub (ws' := []) [] (by decide +kernel) rfl
  refine vp_callSi (va_Run.run (va_runS (As := [.int v, .int 1, .int 50]) (rest := []) ⟨hx, hb, hml, hown, hts⟩ (e_within l D cI cZ v 1 50 s.heap.size ) (my_cwS 3 hts q_290 q_288 q_289 q_1 rfl rfl (by decide +kernel) ⟨Nat.le_of_ble_eq_true rfl, Nat.le_of_ble_eq_true rfl⟩) (my_preS hPc hDc hK hN) rfl rfl hl.1 rfl (lv_room (Nat.le_of_ble_eq_true rfl)) d_PC_gap_4 ⟨Nat.le_of_ble_eq_true rfl, Nat.le_of_ble_eq_true rfl⟩)) (fun r_1 hw_1 => ?_)
  have hf_1_0 : r_1 = isw v 1 50 := hw_1
  have hf_1_0 : r_1 = isw v 1 50 := hf_1_0
  subst hf_1_0
  refine lv_if_ne (tgt := 13) hx hb d_PC_gap_7 (by decide) (fun h_2 => ?_) (fun h_2 => ?_)
  · refine lv_aload_n hx hb d_PC_gap_13 rfl (lv_at hl 0 rfl) ?_
    refine va_get (D := D) (ci := 0) (v := .int gp) (C := R_PC) (T := F_PC) (N := 9) hx hb hts i_PC hown hK hP 0 rfl rfl 7 (by decide) (hts _ q_263) (fun _ h9 => h9) rfl d_PC_gap_14 ?_
    refine lv_istore_n (lv' := [(2, .int gp), (0, .ref x), (1, .int v)]) hx hb d_PC_gap_17 rfl hl (by decide) rfl (fun ls hl => ?_)
    refine lv_aload_n hx hb d_PC_gap_18 rfl (lv_at hl 1 rfl) ?_
    refine lv_iload_n hx hb d_PC_gap_19 rfl (lv_at hl 2 rfl) ?_
    refine va_put (D := D) (ci := 0) (v := .int v) (ty := .int) (C := R_PC) (T := F_PC) (N := 9) hx hb hts i_PC t_PC t_PC_ok n_PC hown hK hP hD hS 0 rfl rfl 7 (by decide) (hts _ q_263) (fun _ h9 => h9) rfl (by decide +kernel) rfl rfl (Nat.le_of_ble_eq_true rfl) d_PC_gap_20 (fun H_3 locs hP hD hS => ?_)
    have hP : va_P D vwCl [(x, .inr (0, [.ref f0, .ref a0, .ref r0, .ref w0, .ref g0, .ref k0, .int tm, .int v, .int lk]))] H_3 := hP
    refine lv_iload_n hx hb d_PC_gap_23 rfl (lv_at hl 0 rfl) ?_
    have hP9 := hP.sub (ws' := [(x, .inr (0, [.ref f0, .ref a0, .ref r0, .ref w0, .ref g0, .ref k0, .int tm, .int v, .int lk]))]) [0] rfl
    have hD9 := hD.sub (ws' := [(x, .inr (0, [.ref f0, .ref a0, .ref r0, .ref w0, .ref g0, .ref k0, .int tm, .int v, .int lk]))]) [0] (by decide +kernel) rfl
    refine W.widen (k := 0) (n := 0) (Nat.le_of_ble_eq_true rfl) (Nat.le_of_ble_eq_true rfl) ?_
    exact W.iret (v := gp) hx hb hr (fun tT ht hW => ⟨⟨gp, v, rfl, ⟨(by simp [gp_set, h_2]), (by simp [gsv, h_2])⟩, by rw [ht]; exact hP9, hD9⟩, hS.F ht⟩) hS.2.2 d_PC_gap_24
  · refine lv_bipush (v := (-2)) hx hb d_PC_gap_10 (by decide) ?_
    have hP9 := hP.sub (ws' := [(x, .inr (0, [.ref f0, .ref a0, .ref r0, .ref w0, .ref g0, .ref k0, .int tm, .int gp, .int lk]))]) [0] rfl
    have hD9 := hD.sub (ws' := [(x, .inr (0, [.ref f0, .ref a0, .ref r0, .ref w0, .ref g0, .ref k0, .int tm, .int gp, .int lk]))]) [0] (by decide +kernel) rfl
    refine W.widen (k := 0) (n := 0) (Nat.le_of_ble_eq_true rfl) (Nat.le_of_ble_eq_true rfl) ?_
    exact W.iret (v := (-2)) hx hb hr (fun tT ht hW => ⟨⟨(-2), gp, rfl, ⟨(by simp [gp_set, h_2]), (by simp [gsv, h_2])⟩, by rw [ht]; exact hP9, hD9⟩, hS.F ht⟩) hS.2.2 d_PC_gap_12

set_option maxHeartbeats 4000000 in
set_option maxRecDepth 100000 in
theorem e_PC_look (l : Launch) (D : va_G) (cI cZ : ClassId) (x : Nat) (v : Int32) (f0 : Nat) (a0 : Nat) (r0 : Nat) (w0 : Nat) (g0 : Nat) (k0 : Nat) (tm : Int32) (gp : Int32) (lk : Int32) (sz : Nat)  : Met l ⟨"PromiseChains", "look", "(I)I"⟩ (mw ⟨"PromiseChains", "look", "(I)I"⟩ prog_1_method_6_code 3 (some .int)) ({ frames := 1, cells := 0, slots := 0, locals := 22 }) (va_Pc [.ref x, .int v] (PB D cI cZ sz [(x, .inr (0, [.ref f0, .ref a0, .ref r0, .ref w0, .ref g0, .ref k0, .int tm, .int gp, .int lk]))])) (va_Qi (S := Int32) (fun (r : Int32) uU => (r = gp_set lk v) ∧ (uU = gsv lk v)) (fun uU tT => BB D (va_A [(x, .inr (0, [.ref f0, .ref a0, .ref r0, .ref w0, .ref g0, .ref k0, .int tm, .int gp, .int lk]))] sz) [(x, .inr (0, [.ref f0, .ref a0, .ref r0, .ref w0, .ref g0, .ref k0, .int tm, .int gp, .int (uU)]))] tT) (va_A [(x, .inr (0, [.ref f0, .ref a0, .ref r0, .ref w0, .ref g0, .ref k0, .int tm, .int gp, .int lk]))] sz)) 0 0 (va_A [(x, .inr (0, [.ref f0, .ref a0, .ref r0, .ref w0, .ref g0, .ref k0, .int tm, .int gp, .int lk]))] sz) := by
  refine Met.ofW (cc := prog_1_method_6_code) (maxL := 3) (ret := (some .int)) (by decide) rfl ?_
  intro p e s m args below meth c s₁ B hml hv
  obtain ⟨rfl, hsz, hP, hK, hD0, hN⟩ := hv
  have hx := B.exec
  have hb := B.bytes
  have hr := B.returns
  have hts0 := atoms_spec (ws := mw ⟨"PromiseChains", "look", "(I)I"⟩ prog_1_method_6_code 3 (some .int)) B.pre
  have hts : ∀ w ∈ tblG, w.before _ s = true := fun w h => hts0 w (List.mem_cons_of_mem _ h)
  have hown : s.vm.findClass "PromiseChains" = some m.cls := findClass_of_methodNamed B.named
  have hlocks := B.notSynchronized
  subst hsz
  have hD := hD0.self (sz := s.heap.size)
  generalize hAe : va_A [(x, .inr (0, [.ref f0, .ref a0, .ref r0, .ref w0, .ref g0, .ref k0, .int tm, .int gp, .int lk]))] s.heap.size = A at hD ⊢
  have hA : ∀ q : Nat, s.heap.size ≤ q → A q := fun q h => by rw [← hAe]; exact Or.inr h
  have hS : va_S A s.heap s.heap [] := va_S.rf
  have hP : va_P D vwCl [(x, .inr (0, [.ref f0, .ref a0, .ref r0, .ref w0, .ref g0, .ref k0, .int tm, .int gp, .int lk]))] s.heap := hP
  have hl := lv_entry ([.ref x, .int v]) (n := 3) (Nat.le_of_ble_eq_true rfl)
  rw [lg_entry_eq]
  generalize (lg_sl ([.ref x, .int v]) ++ List.replicate (3 - (lg_sl ([.ref x, .int v])).length) Slot.unset).toArray = ls at hl ⊢
  have hl : lv_has ls 3 [(0, .ref x), (1, .int v)] := hl
  refine lv_iload_n hx hb d_PC_look_0 rfl (lv_at hl 1 rfl) ?_
  refine lv_iconst (v := 1) hx hb d_PC_look_1 (by decide) ?_
  refine lv_bipush (v := 50) hx hb d_PC_look_2 (by decide) ?_
  have hPc := hP.sub (ws' := []) [] rfl
  have hDc := hD.sub (ws' := []) [] (by decide +kernel) rfl
  refine vp_callSi (va_Run.run (va_runS (As := [.int v, .int 1, .int 50]) (rest := []) ⟨hx, hb, hml, hown, hts⟩ (e_within l D cI cZ v 1 50 s.heap.size ) (my_cwS 3 hts q_290 q_288 q_289 q_1 rfl rfl (by decide +kernel) ⟨Nat.le_of_ble_eq_true rfl, Nat.le_of_ble_eq_true rfl⟩) (my_preS hPc hDc hK hN) rfl rfl hl.1 rfl (lv_room (Nat.le_of_ble_eq_true rfl)) d_PC_look_4 ⟨Nat.le_of_ble_eq_true rfl, Nat.le_of_ble_eq_true rfl⟩)) (fun r_1 hw_1 => ?_)
  have hf_1_0 : r_1 = isw v 1 50 := hw_1
  have hf_1_0 : r_1 = isw v 1 50 := hf_1_0
  subst hf_1_0
  refine lv_if_ne (tgt := 13) hx hb d_PC_look_7 (by decide) (fun h_2 => ?_) (fun h_2 => ?_)
  · refine lv_aload_n hx hb d_PC_look_13 rfl (lv_at hl 0 rfl) ?_
    refine va_get (D := D) (ci := 0) (v := .int lk) (C := R_PC) (T := F_PC) (N := 9) hx hb hts i_PC hown hK hP 0 rfl rfl 8 (by decide) (hts _ q_264) (fun _ h9 => h9) rfl d_PC_look_14 ?_
    refine lv_istore_n (lv' := [(2, .int lk), (0, .ref x), (1, .int v)]) hx hb d_PC_look_17 rfl hl (by decide) rfl (fun ls hl => ?_)
    refine lv_aload_n hx hb d_PC_look_18 rfl (lv_at hl 1 rfl) ?_
    refine lv_iload_n hx hb d_PC_look_19 rfl (lv_at hl 2 rfl) ?_
    refine va_put (D := D) (ci := 0) (v := .int v) (ty := .int) (C := R_PC) (T := F_PC) (N := 9) hx hb hts i_PC t_PC t_PC_ok n_PC hown hK hP hD hS 0 rfl rfl 8 (by decide) (hts _ q_264) (fun _ h9 => h9) rfl (by decide +kernel) rfl rfl (Nat.le_of_ble_eq_true rfl) d_PC_look_20 (fun H_3 locs hP hD hS => ?_)
    have hP : va_P D vwCl [(x, .inr (0, [.ref f0, .ref a0, .ref r0, .ref w0, .ref g0, .ref k0, .int tm, .int gp, .int v]))] H_3 := hP
    refine lv_iload_n hx hb d_PC_look_23 rfl (lv_at hl 0 rfl) ?_
    have hP9 := hP.sub (ws' := [(x, .inr (0, [.ref f0, .ref a0, .ref r0, .ref w0, .ref g0, .ref k0, .int tm, .int gp, .int v]))]) [0] rfl
    have hD9 := hD.sub (ws' := [(x, .inr (0, [.ref f0, .ref a0, .ref r0, .ref w0, .ref g0, .ref k0, .int tm, .int gp, .int v]))]) [0] (by decide +kernel) rfl
    refine W.widen (k := 0) (n := 0) (Nat.le_of_ble_eq_true rfl) (Nat.le_of_ble_eq_true rfl) ?_
    exact W.iret (v := lk) hx hb hr (fun tT ht hW => ⟨⟨lk, v, rfl, ⟨(by simp [gp_set, h_2]), (by simp [gsv, h_2])⟩, by rw [ht]; exact hP9, hD9⟩, hS.F ht⟩) hS.2.2 d_PC_look_24
  · refine lv_bipush (v := (-2)) hx hb d_PC_look_10 (by decide) ?_
    have hP9 := hP.sub (ws' := [(x, .inr (0, [.ref f0, .ref a0, .ref r0, .ref w0, .ref g0, .ref k0, .int tm, .int gp, .int lk]))]) [0] rfl
    have hD9 := hD.sub (ws' := [(x, .inr (0, [.ref f0, .ref a0, .ref r0, .ref w0, .ref g0, .ref k0, .int tm, .int gp, .int lk]))]) [0] (by decide +kernel) rfl
    refine W.widen (k := 0) (n := 0) (Nat.le_of_ble_eq_true rfl) (Nat.le_of_ble_eq_true rfl) ?_
    exact W.iret (v := (-2)) hx hb hr (fun tT ht hW => ⟨⟨(-2), lk, rfl, ⟨(by simp [gp_set, h_2]), (by simp [gsv, h_2])⟩, by rw [ht]; exact hP9, hD9⟩, hS.F ht⟩) hS.2.2 d_PC_look_12

set_option maxHeartbeats 4000000 in
set_option maxRecDepth 100000 in
theorem e_PC_mayAskWay (l : Launch) (D : va_G) (cI cZ : ClassId) (x : Nat) (i : Int32) (j : Int32) (v : Int32) (f0 : Nat) (a0 : Nat) (r0 : Nat) (w0 : Nat) (g0 : Nat) (k0 : Nat) (tm : Int32) (gp : Int32) (lk : Int32) (nn : Nat) (f1 : Nat) (f2 : Nat) (f3 : Nat) (f4 : Nat) (sz : Nat) (h_nn : nn ≤ 7) : Met l ⟨"PromiseChains", "mayAskWay", "(III)Z"⟩ (mw ⟨"PromiseChains", "mayAskWay", "(III)Z"⟩ prog_1_method_29_code 4 (some .boolean)) ({ frames := 2, cells := 0, slots := 0, locals := 43 }) (va_Pc [.ref x, .int i, .int j, .int v] (PB D cI cZ sz [(x, .inr (0, [.ref f0, .ref a0, .ref r0, .ref w0, .ref g0, .ref k0, .int tm, .int gp, .int lk])), (f0, .inr (1, [.int (nI nn), .ref f1, .ref f2, .ref f3, .ref f4]))])) (vp_Si (fun r => (badWay nn i j v ∧ r = 0) ∨ (∃ a : Nat, ∃ b : Nat, ¬ badWay nn i j v ∧ i = nI a ∧ j = nI b ∧ a < nn ∧ b < nn ∧ ¬ a = b ∧ r = 1))) 0 0 (fun _ => False) := by
  refine Met.ofW (cc := prog_1_method_29_code) (maxL := 4) (ret := (some .boolean)) (by decide) rfl ?_
  intro p e s m args below meth c s₁ B hml hv
  obtain ⟨rfl, hsz, hP, hK, hD0, hN⟩ := hv
  have hx := B.exec
  have hb := B.bytes
  have hr := B.returns
  have hts0 := atoms_spec (ws := mw ⟨"PromiseChains", "mayAskWay", "(III)Z"⟩ prog_1_method_29_code 4 (some .boolean)) B.pre
  have hts : ∀ w ∈ tblG, w.before _ s = true := fun w h => hts0 w (List.mem_cons_of_mem _ h)
  have hown : s.vm.findClass "PromiseChains" = some m.cls := findClass_of_methodNamed B.named
  have hlocks := B.notSynchronized
  subst hsz
  have hD := hD0
  have hP : va_P D vwCl [(x, .inr (0, [.ref f0, .ref a0, .ref r0, .ref w0, .ref g0, .ref k0, .int tm, .int gp, .int lk])), (f0, .inr (1, [.int (nI nn), .ref f1, .ref f2, .ref f3, .ref f4]))] s.heap := hP
  have hl := lv_entry ([.ref x, .int i, .int j, .int v]) (n := 4) (Nat.le_of_ble_eq_true rfl)
  rw [lg_entry_eq]
  generalize (lg_sl ([.ref x, .int i, .int j, .int v]) ++ List.replicate (4 - (lg_sl ([.ref x, .int i, .int j, .int v])).length) Slot.unset).toArray = ls at hl ⊢
  have hl : lv_has ls 4 [(0, .ref x), (1, .int i), (2, .int j), (3, .int v)] := hl
  refine lv_aload_n hx hb d_PC_mayAskWay_0 rfl (lv_at hl 0 rfl) ?_
  refine va_get (D := D) (ci := 0) (v := .ref f0) (C := R_PC) (T := F_PC) (N := 9) hx hb hts i_PC hown hK hP 0 rfl rfl 0 (by decide) (hts _ q_256) (fun _ h9 => h9) rfl d_PC_mayAskWay_1 ?_
  refine lv_iload_n hx hb d_PC_mayAskWay_4 rfl (lv_at hl 1 rfl) ?_
  have hPc := hP.sub (ws' := [(f0, .inr (1, [.int (nI nn), .ref f1, .ref f2, .ref f3, .ref f4]))]) [1] rfl
  have hDc := hD.sub (ws' := [(f0, .inr (1, [.int (nI nn), .ref f1, .ref f2, .ref f3, .ref f4]))]) [1] (by decide +kernel) rfl
  refine vp_callSi (va_Run.run (va_runV (As := [.int i]) (rest := []) ⟨hx, hb, hml, hown, hts⟩ (e_PE_has l D cI cZ f0 i nn f1 f2 f3 f4 s.heap.size h_nn) (my_cwV 1 hts q_302 q_299 q_300 q_301 q_2 rfl rfl (by decide +kernel) ⟨Nat.le_of_ble_eq_true rfl, Nat.le_of_ble_eq_true rfl⟩) (my_preV hPc hDc hK hN 1 0 rfl rfl) rfl rfl hl.1 rfl (lv_room (Nat.le_of_ble_eq_true rfl)) d_PC_mayAskWay_5 ⟨Nat.le_of_ble_eq_true rfl, Nat.le_of_ble_eq_true rfl⟩)) (fun r_1 hw_1 => ?_)
  rcases hw_1 with ⟨hg_2, rfl⟩ | ⟨j_3, hg_4, hg_5, hg_6, rfl⟩
  · have hg_2 : isw i 0 (nI nn - 1) = 0 := hg_2
    refine lv_if_eq (tgt := 41) hx hb d_PC_mayAskWay_8 (by decide) (fun _ => ?_) (fun h => absurd h (by decide))
    refine lv_iconst (v := 0) hx hb d_PC_mayAskWay_41 (by decide) ?_
    exact W.zret (v := 0) hx hb hr rfl (fun tT ht hW => ⟨0, rfl, (Or.inl (⟨(bw_1 hg_2), rfl⟩)), ht⟩) (fun q h => absurd h List.not_mem_nil) d_PC_mayAskWay_42
  · have hg_4 : j_3 < nn := hg_4
    have hg_5 : i = nI j_3 := hg_5
    have hg_6 : ¬ isw i 0 (nI nn - 1) = 0 := hg_6
    subst hg_5
    refine lv_if_eq (tgt := 41) hx hb d_PC_mayAskWay_8 (by decide) (fun h => absurd h (by decide)) (fun _ => ?_)
    refine lv_aload_n hx hb d_PC_mayAskWay_11 rfl (lv_at hl 0 rfl) ?_
    refine va_get (D := D) (ci := 0) (v := .ref f0) (C := R_PC) (T := F_PC) (N := 9) hx hb hts i_PC hown hK hP 0 rfl rfl 0 (by decide) (hts _ q_256) (fun _ h9 => h9) rfl d_PC_mayAskWay_12 ?_
    refine lv_iload_n hx hb d_PC_mayAskWay_15 rfl (lv_at hl 2 rfl) ?_
    have hPc := hP.sub (ws' := [(f0, .inr (1, [.int (nI nn), .ref f1, .ref f2, .ref f3, .ref f4]))]) [1] rfl
    have hDc := hD.sub (ws' := [(f0, .inr (1, [.int (nI nn), .ref f1, .ref f2, .ref f3, .ref f4]))]) [1] (by decide +kernel) rfl
    refine vp_callSi (va_Run.run (va_runV (As := [.int j]) (rest := []) ⟨hx, hb, hml, hown, hts⟩ (e_PE_has l D cI cZ f0 j nn f1 f2 f3 f4 s.heap.size h_nn) (my_cwV 1 hts q_302 q_299 q_300 q_301 q_2 rfl rfl (by decide +kernel) ⟨Nat.le_of_ble_eq_true rfl, Nat.le_of_ble_eq_true rfl⟩) (my_preV hPc hDc hK hN 1 0 rfl rfl) rfl rfl hl.1 rfl (lv_room (Nat.le_of_ble_eq_true rfl)) d_PC_mayAskWay_16 ⟨Nat.le_of_ble_eq_true rfl, Nat.le_of_ble_eq_true rfl⟩)) (fun r_9 hw_9 => ?_)
    rcases hw_9 with ⟨hg_10, rfl⟩ | ⟨j_11, hg_12, hg_13, hg_14, rfl⟩
    · have hg_10 : isw j 0 (nI nn - 1) = 0 := hg_10
      refine lv_if_eq (tgt := 41) hx hb d_PC_mayAskWay_19 (by decide) (fun _ => ?_) (fun h => absurd h (by decide))
      refine lv_iconst (v := 0) hx hb d_PC_mayAskWay_41 (by decide) ?_
      exact W.zret (v := 0) hx hb hr rfl (fun tT ht hW => ⟨0, rfl, (Or.inl (⟨(bw_2 hg_10), rfl⟩)), ht⟩) (fun q h => absurd h List.not_mem_nil) d_PC_mayAskWay_42
    · have hg_12 : j_11 < nn := hg_12
      have hg_13 : j = nI j_11 := hg_13
      have hg_14 : ¬ isw j 0 (nI nn - 1) = 0 := hg_14
      subst hg_13
      refine lv_if_eq (tgt := 41) hx hb d_PC_mayAskWay_19 (by decide) (fun h => absurd h (by decide)) (fun _ => ?_)
      refine lv_iload_n hx hb d_PC_mayAskWay_22 rfl (lv_at hl 1 rfl) ?_
      refine lv_iload_n hx hb d_PC_mayAskWay_23 rfl (lv_at hl 2 rfl) ?_
      refine lv_icmp_eq (tgt := 41) hx hb d_PC_mayAskWay_24 (by decide) (fun h_17 => ?_) (fun h_17 => ?_)
      · have nh_17 : j_3 = j_11 := (nI_eq (a := j_3) (b := j_11) (by omega) (by omega)).mp h_17
        refine lv_iconst (v := 0) hx hb d_PC_mayAskWay_41 (by decide) ?_
        exact W.zret (v := 0) hx hb hr rfl (fun tT ht hW => ⟨0, rfl, (Or.inl (⟨(bw_3 h_17), rfl⟩)), ht⟩) (fun q h => absurd h List.not_mem_nil) d_PC_mayAskWay_42
      · have nh_17 : ¬ j_3 = j_11 := fun qZ => h_17 ((nI_eq (a := j_3) (b := j_11) (by omega) (by omega)).mpr qZ)
        refine lv_iload_n hx hb d_PC_mayAskWay_27 rfl (lv_at hl 3 rfl) ?_
        refine lv_iconst (v := 1) hx hb d_PC_mayAskWay_28 (by decide) ?_
        refine lv_ldc hx hb hown (hts _ q_304) d_PC_mayAskWay_29 ?_
        have hPc := hP.sub (ws' := []) [] rfl
        have hDc := hD.sub (ws' := []) [] (by decide +kernel) rfl
        refine vp_callSi (va_Run.run (va_runS (As := [.int v, .int 1, .int 100000]) (rest := []) ⟨hx, hb, hml, hown, hts⟩ (e_within l D cI cZ v 1 100000 s.heap.size ) (my_cwS 3 hts q_290 q_288 q_289 q_1 rfl rfl (by decide +kernel) ⟨Nat.le_of_ble_eq_true rfl, Nat.le_of_ble_eq_true rfl⟩) (my_preS hPc hDc hK hN) rfl rfl hl.1 rfl (lv_room (Nat.le_of_ble_eq_true rfl)) d_PC_mayAskWay_31 ⟨Nat.le_of_ble_eq_true rfl, Nat.le_of_ble_eq_true rfl⟩)) (fun r_18 hw_18 => ?_)
        have hf_18_0 : r_18 = isw v 1 100000 := hw_18
        have hf_18_0 : r_18 = isw v 1 100000 := hf_18_0
        subst hf_18_0
        refine lv_if_eq (tgt := 41) hx hb d_PC_mayAskWay_34 (by decide) (fun h_19 => ?_) (fun h_19 => ?_)
        · refine lv_iconst (v := 0) hx hb d_PC_mayAskWay_41 (by decide) ?_
          exact W.zret (v := 0) hx hb hr rfl (fun tT ht hW => ⟨0, rfl, (Or.inl (⟨(bw_4 h_19), rfl⟩)), ht⟩) (fun q h => absurd h List.not_mem_nil) d_PC_mayAskWay_42
        · refine lv_iconst (v := 1) hx hb d_PC_mayAskWay_37 (by decide) ?_
          refine lv_goto (tgt := 42) hx hb d_PC_mayAskWay_38 (by decide) ?_
          exact W.zret (v := 1) hx hb hr rfl (fun tT ht hW => ⟨1, rfl, (Or.inr (⟨j_3, j_11, (bw_n hg_6 hg_14 h_17 h_19), hg_5, hg_13, hg_4, hg_12, nh_17, rfl⟩)), ht⟩) (fun q h => absurd h List.not_mem_nil) d_PC_mayAskWay_42

set_option maxHeartbeats 4000000 in
set_option maxRecDepth 100000 in
theorem e_PC_findWay (l : Launch) (D : va_G) (cI cZ : ClassId) (x : Nat) (a : Nat) (b : Nat) (v : Int32) (f0 : Nat) (a0 : Nat) (r0 : Nat) (w0 : Nat) (g0 : Nat) (k0 : Nat) (tm : Int32) (gp : Int32) (lk : Int32) (wst : Int32) (wbc : Int32) (w1 : Nat) (w2 : Nat) (w5 : Nat) (w8 : Nat) (WM : Nat → Int32) (wbl : Int32) (w3 : Nat) (w4 : Nat) (BKP : Nat → Nat) (BKF : Nat → Nat) (wtl : Int32) (w6 : Nat) (w7 : Nat) (TUP : Nat → Nat) (TUF : Nat → Nat) (bl : Nat) (w9 : Nat) (w10 : Nat) (BEP : Nat → Nat) (BEF : Nat → Nat) (nn : Nat) (f1 : Nat) (f2 : Nat) (f3 : Nat) (f4 : Nat) (FB : Nat → Int32) (FR : Nat → Int32) (np : Nat) (a1 : Nat) (a2 : Nat) (a3 : Nat) (a4 : Nat) (a5 : Nat) (a6 : Nat) (a7 : Nat) (a8 : Nat) (a9 : Nat) (a10 : Nat) (a11 : Nat) (EP : Nat → Nat) (SI : Nat → Int32) (PH : Nat → Int32) (sz : Nat) (h_BKP : ∀ zz, BKP zz ≤ 11) (h_BKF : ∀ zz, BKF zz ≤ 1) (h_TUP : ∀ zz, TUP zz ≤ 11) (h_TUF : ∀ zz, TUF zz ≤ 1) (h_bl : bl ≤ 6) (h_BEP : ∀ zz, BEP zz ≤ 11) (h_BEF : ∀ zz, BEF zz ≤ 1) (h_nn : nn ≤ 7) (h_np : np ≤ 12) (h_EP : ∀ zz, EP zz ≤ 6) (ha7 : a < 7) (hb7 : b < 7) (hab : ¬ a = b) (hne : ∀ qq, qq < np → EP (2 * qq) ≠ EP (2 * qq + 1)) : Met l ⟨"PromiseChains", "findWay", "(III)Z"⟩ (mw ⟨"PromiseChains", "findWay", "(III)Z"⟩ prog_1_method_30_code 4 (some .boolean)) ({ frames := 9, cells := 0, slots := 0, locals := 235 }) (va_Pc [.ref x, .int (nI a), .int (nI b), .int v] (PB D cI cZ sz [(x, .inr (0, [.ref f0, .ref a0, .ref r0, .ref w0, .ref g0, .ref k0, .int tm, .int gp, .int lk])), (w0, .inr (4, [.int wst, .int wbc, .ref w1, .ref w2, .ref w5, .ref w8])), (w1, .inl (cZ, 7, .inl WM)), (w2, .inr (6, [.int wbl, .ref w3, .ref w4])), (w3, .inl (cI, 7, .inl (fun zy => nI (BKP zy)))), (w4, .inl (cI, 7, .inl (fun zy => nI (BKF zy)))), (w5, .inr (6, [.int wtl, .ref w6, .ref w7])), (w6, .inl (cI, 7, .inl (fun zy => nI (TUP zy)))), (w7, .inl (cI, 7, .inl (fun zy => nI (TUF zy)))), (w8, .inr (6, [.int (nI bl), .ref w9, .ref w10])), (w9, .inl (cI, 7, .inl (fun zy => nI (BEP zy)))), (w10, .inl (cI, 7, .inl (fun zy => nI (BEF zy)))), (f0, .inr (1, [.int (nI nn), .ref f1, .ref f2, .ref f3, .ref f4])), (f2, .inl (cI, 7, .inl FB)), (f3, .inl (cI, 7, .inl FR)), (a0, .inr (2, [.int (nI np), .ref a1, .ref a2, .ref a3, .ref a4, .ref a5, .ref a6, .ref a7, .ref a8, .ref a9, .ref a10, .ref a11])), (a1, .inl (cI, 24, .inl (fun zy => nI (EP zy)))), (a2, .inl (cI, 24, .inl SI)), (a6, .inl (cI, 12, .inl PH))])) (va_Qi (S := Int32 × Int32 × Int32 × Int32 × Nat × (Nat → Int32) × (Nat → Nat) × (Nat → Nat) × (Nat → Nat) × (Nat → Nat) × (Nat → Nat) × (Nat → Nat)) (fun (r : Int32) uU => (uU.2.2.2.2.1 ≤ 6) ∧ (∀ zz, uU.2.2.2.2.2.2.1 zz ≤ 11) ∧ (∀ zz, uU.2.2.2.2.2.2.2.1 zz ≤ 1) ∧ (∀ zz, uU.2.2.2.2.2.2.2.2.1 zz ≤ 11) ∧ (∀ zz, uU.2.2.2.2.2.2.2.2.2.1 zz ≤ 1) ∧ (∀ zz, uU.2.2.2.2.2.2.2.2.2.2.1 zz ≤ 11) ∧ (∀ zz, uU.2.2.2.2.2.2.2.2.2.2.2 zz ≤ 1) ∧ ((uU.2.2.2.2.1 = 0 ∧ WOK EP PH SI FB FR np a b v uU.2.2.2.2.1 uU.2.1 uU.2.2.2.2.2.2.2.2.2.2.1 uU.2.2.2.2.2.2.2.2.2.2.2 ∧ WAll EP PH SI FB FR np a b v 0 (fun _ => 0) np uU.2.2.2.2.1 uU.2.1 uU.2.2.2.2.2.2.2.2.2.2.1 ∧ r = 0) ∨ (¬ uU.2.2.2.2.1 = 0 ∧ WOK EP PH SI FB FR np a b v uU.2.2.2.2.1 uU.2.1 uU.2.2.2.2.2.2.2.2.2.2.1 uU.2.2.2.2.2.2.2.2.2.2.2 ∧ WAll EP PH SI FB FR np a b v 0 (fun _ => 0) np uU.2.2.2.2.1 uU.2.1 uU.2.2.2.2.2.2.2.2.2.2.1 ∧ r = 1))) (fun uU tT => BB D (va_A [(x, .inr (0, [.ref f0, .ref a0, .ref r0, .ref w0, .ref g0, .ref k0, .int tm, .int gp, .int lk])), (w0, .inr (4, [.int wst, .int wbc, .ref w1, .ref w2, .ref w5, .ref w8])), (w1, .inl (cZ, 7, .inl WM)), (w2, .inr (6, [.int wbl, .ref w3, .ref w4])), (w3, .inl (cI, 7, .inl (fun zy => nI (BKP zy)))), (w4, .inl (cI, 7, .inl (fun zy => nI (BKF zy)))), (w5, .inr (6, [.int wtl, .ref w6, .ref w7])), (w6, .inl (cI, 7, .inl (fun zy => nI (TUP zy)))), (w7, .inl (cI, 7, .inl (fun zy => nI (TUF zy)))), (w8, .inr (6, [.int (nI bl), .ref w9, .ref w10])), (w9, .inl (cI, 7, .inl (fun zy => nI (BEP zy)))), (w10, .inl (cI, 7, .inl (fun zy => nI (BEF zy)))), (f0, .inr (1, [.int (nI nn), .ref f1, .ref f2, .ref f3, .ref f4])), (f2, .inl (cI, 7, .inl FB)), (f3, .inl (cI, 7, .inl FR)), (a0, .inr (2, [.int (nI np), .ref a1, .ref a2, .ref a3, .ref a4, .ref a5, .ref a6, .ref a7, .ref a8, .ref a9, .ref a10, .ref a11])), (a1, .inl (cI, 24, .inl (fun zy => nI (EP zy)))), (a2, .inl (cI, 24, .inl SI)), (a6, .inl (cI, 12, .inl PH))] sz) [(x, .inr (0, [.ref f0, .ref a0, .ref r0, .ref w0, .ref g0, .ref k0, .int tm, .int gp, .int lk])), (w0, .inr (4, [.int (uU.1), .int (uU.2.1), .ref w1, .ref w2, .ref w5, .ref w8])), (w1, .inl (cZ, 7, .inl (uU.2.2.2.2.2.1))), (w2, .inr (6, [.int (uU.2.2.1), .ref w3, .ref w4])), (w3, .inl (cI, 7, .inl (fun zy => nI ((uU.2.2.2.2.2.2.1) zy)))), (w4, .inl (cI, 7, .inl (fun zy => nI ((uU.2.2.2.2.2.2.2.1) zy)))), (w5, .inr (6, [.int (uU.2.2.2.1), .ref w6, .ref w7])), (w6, .inl (cI, 7, .inl (fun zy => nI ((uU.2.2.2.2.2.2.2.2.1) zy)))), (w7, .inl (cI, 7, .inl (fun zy => nI ((uU.2.2.2.2.2.2.2.2.2.1) zy)))), (w8, .inr (6, [.int (nI uU.2.2.2.2.1), .ref w9, .ref w10])), (w9, .inl (cI, 7, .inl (fun zy => nI ((uU.2.2.2.2.2.2.2.2.2.2.1) zy)))), (w10, .inl (cI, 7, .inl (fun zy => nI ((uU.2.2.2.2.2.2.2.2.2.2.2) zy)))), (f0, .inr (1, [.int (nI nn), .ref f1, .ref f2, .ref f3, .ref f4])), (f2, .inl (cI, 7, .inl FB)), (f3, .inl (cI, 7, .inl FR)), (a0, .inr (2, [.int (nI np), .ref a1, .ref a2, .ref a3, .ref a4, .ref a5, .ref a6, .ref a7, .ref a8, .ref a9, .ref a10, .ref a11])), (a1, .inl (cI, 24, .inl (fun zy => nI (EP zy)))), (a2, .inl (cI, 24, .inl SI)), (a6, .inl (cI, 12, .inl PH))] tT) (va_A [(x, .inr (0, [.ref f0, .ref a0, .ref r0, .ref w0, .ref g0, .ref k0, .int tm, .int gp, .int lk])), (w0, .inr (4, [.int wst, .int wbc, .ref w1, .ref w2, .ref w5, .ref w8])), (w1, .inl (cZ, 7, .inl WM)), (w2, .inr (6, [.int wbl, .ref w3, .ref w4])), (w3, .inl (cI, 7, .inl (fun zy => nI (BKP zy)))), (w4, .inl (cI, 7, .inl (fun zy => nI (BKF zy)))), (w5, .inr (6, [.int wtl, .ref w6, .ref w7])), (w6, .inl (cI, 7, .inl (fun zy => nI (TUP zy)))), (w7, .inl (cI, 7, .inl (fun zy => nI (TUF zy)))), (w8, .inr (6, [.int (nI bl), .ref w9, .ref w10])), (w9, .inl (cI, 7, .inl (fun zy => nI (BEP zy)))), (w10, .inl (cI, 7, .inl (fun zy => nI (BEF zy)))), (f0, .inr (1, [.int (nI nn), .ref f1, .ref f2, .ref f3, .ref f4])), (f2, .inl (cI, 7, .inl FB)), (f3, .inl (cI, 7, .inl FR)), (a0, .inr (2, [.int (nI np), .ref a1, .ref a2, .ref a3, .ref a4, .ref a5, .ref a6, .ref a7, .ref a8, .ref a9, .ref a10, .ref a11])), (a1, .inl (cI, 24, .inl (fun zy => nI (EP zy)))), (a2, .inl (cI, 24, .inl SI)), (a6, .inl (cI, 12, .inl PH))] sz)) 0 0 (va_A [(x, .inr (0, [.ref f0, .ref a0, .ref r0, .ref w0, .ref g0, .ref k0, .int tm, .int gp, .int lk])), (w0, .inr (4, [.int wst, .int wbc, .ref w1, .ref w2, .ref w5, .ref w8])), (w1, .inl (cZ, 7, .inl WM)), (w2, .inr (6, [.int wbl, .ref w3, .ref w4])), (w3, .inl (cI, 7, .inl (fun zy => nI (BKP zy)))), (w4, .inl (cI, 7, .inl (fun zy => nI (BKF zy)))), (w5, .inr (6, [.int wtl, .ref w6, .ref w7])), (w6, .inl (cI, 7, .inl (fun zy => nI (TUP zy)))), (w7, .inl (cI, 7, .inl (fun zy => nI (TUF zy)))), (w8, .inr (6, [.int (nI bl), .ref w9, .ref w10])), (w9, .inl (cI, 7, .inl (fun zy => nI (BEP zy)))), (w10, .inl (cI, 7, .inl (fun zy => nI (BEF zy)))), (f0, .inr (1, [.int (nI nn), .ref f1, .ref f2, .ref f3, .ref f4])), (f2, .inl (cI, 7, .inl FB)), (f3, .inl (cI, 7, .inl FR)), (a0, .inr (2, [.int (nI np), .ref a1, .ref a2, .ref a3, .ref a4, .ref a5, .ref a6, .ref a7, .ref a8, .ref a9, .ref a10, .ref a11])), (a1, .inl (cI, 24, .inl (fun zy => nI (EP zy)))), (a2, .inl (cI, 24, .inl SI)), (a6, .inl (cI, 12, .inl PH))] sz) := by
  refine Met.ofW (cc := prog_1_method_30_code) (maxL := 4) (ret := (some .boolean)) (by decide) rfl ?_
  intro p e s m args below meth c s₁ B hml hv
  obtain ⟨rfl, hsz, hP, hK, hD0, hN⟩ := hv
  have hx := B.exec
  have hb := B.bytes
  have hr := B.returns
  have hts0 := atoms_spec (ws := mw ⟨"PromiseChains", "findWay", "(III)Z"⟩ prog_1_method_30_code 4 (some .boolean)) B.pre
  have hts : ∀ w ∈ tblG, w.before _ s = true := fun w h => hts0 w (List.mem_cons_of_mem _ h)
  have hown : s.vm.findClass "PromiseChains" = some m.cls := findClass_of_methodNamed B.named
  have hlocks := B.notSynchronized
  subst hsz
  have hD := hD0.self (sz := s.heap.size)
  generalize hAe : va_A [(x, .inr (0, [.ref f0, .ref a0, .ref r0, .ref w0, .ref g0, .ref k0, .int tm, .int gp, .int lk])), (w0, .inr (4, [.int wst, .int wbc, .ref w1, .ref w2, .ref w5, .ref w8])), (w1, .inl (cZ, 7, .inl WM)), (w2, .inr (6, [.int wbl, .ref w3, .ref w4])), (w3, .inl (cI, 7, .inl (fun zy => nI (BKP zy)))), (w4, .inl (cI, 7, .inl (fun zy => nI (BKF zy)))), (w5, .inr (6, [.int wtl, .ref w6, .ref w7])), (w6, .inl (cI, 7, .inl (fun zy => nI (TUP zy)))), (w7, .inl (cI, 7, .inl (fun zy => nI (TUF zy)))), (w8, .inr (6, [.int (nI bl), .ref w9, .ref w10])), (w9, .inl (cI, 7, .inl (fun zy => nI (BEP zy)))), (w10, .inl (cI, 7, .inl (fun zy => nI (BEF zy)))), (f0, .inr (1, [.int (nI nn), .ref f1, .ref f2, .ref f3, .ref f4])), (f2, .inl (cI, 7, .inl FB)), (f3, .inl (cI, 7, .inl FR)), (a0, .inr (2, [.int (nI np), .ref a1, .ref a2, .ref a3, .ref a4, .ref a5, .ref a6, .ref a7, .ref a8, .ref a9, .ref a10, .ref a11])), (a1, .inl (cI, 24, .inl (fun zy => nI (EP zy)))), (a2, .inl (cI, 24, .inl SI)), (a6, .inl (cI, 12, .inl PH))] s.heap.size = A at hD ⊢
  have hA : ∀ q : Nat, s.heap.size ≤ q → A q := fun q h => by rw [← hAe]; exact Or.inr h
  have hS : va_S A s.heap s.heap [] := va_S.rf
  have hP : va_P D vwCl [(x, .inr (0, [.ref f0, .ref a0, .ref r0, .ref w0, .ref g0, .ref k0, .int tm, .int gp, .int lk])), (w0, .inr (4, [.int wst, .int wbc, .ref w1, .ref w2, .ref w5, .ref w8])), (w1, .inl (cZ, 7, .inl WM)), (w2, .inr (6, [.int wbl, .ref w3, .ref w4])), (w3, .inl (cI, 7, .inl (fun zy => nI (BKP zy)))), (w4, .inl (cI, 7, .inl (fun zy => nI (BKF zy)))), (w5, .inr (6, [.int wtl, .ref w6, .ref w7])), (w6, .inl (cI, 7, .inl (fun zy => nI (TUP zy)))), (w7, .inl (cI, 7, .inl (fun zy => nI (TUF zy)))), (w8, .inr (6, [.int (nI bl), .ref w9, .ref w10])), (w9, .inl (cI, 7, .inl (fun zy => nI (BEP zy)))), (w10, .inl (cI, 7, .inl (fun zy => nI (BEF zy)))), (f0, .inr (1, [.int (nI nn), .ref f1, .ref f2, .ref f3, .ref f4])), (f2, .inl (cI, 7, .inl FB)), (f3, .inl (cI, 7, .inl FR)), (a0, .inr (2, [.int (nI np), .ref a1, .ref a2, .ref a3, .ref a4, .ref a5, .ref a6, .ref a7, .ref a8, .ref a9, .ref a10, .ref a11])), (a1, .inl (cI, 24, .inl (fun zy => nI (EP zy)))), (a2, .inl (cI, 24, .inl SI)), (a6, .inl (cI, 12, .inl PH))] s.heap := hP
  have hl := lv_entry ([.ref x, .int (nI a), .int (nI b), .int v]) (n := 4) (Nat.le_of_ble_eq_true rfl)
  rw [lg_entry_eq]
  generalize (lg_sl ([.ref x, .int (nI a), .int (nI b), .int v]) ++ List.replicate (4 - (lg_sl ([.ref x, .int (nI a), .int (nI b), .int v])).length) Slot.unset).toArray = ls at hl ⊢
  have hl : lv_has ls 4 [(0, .ref x), (1, .int (nI a)), (2, .int (nI b)), (3, .int v)] := hl
  refine lv_aload_n hx hb d_PC_findWay_0 rfl (lv_at hl 0 rfl) ?_
  refine va_get (D := D) (ci := 0) (v := .ref w0) (C := R_PC) (T := F_PC) (N := 9) hx hb hts i_PC hown hK hP 0 rfl rfl 3 (by decide) (hts _ q_259) (fun _ h9 => h9) rfl d_PC_findWay_1 ?_
  refine lv_iload_n hx hb d_PC_findWay_4 rfl (lv_at hl 1 rfl) ?_
  refine lv_iload_n hx hb d_PC_findWay_5 rfl (lv_at hl 2 rfl) ?_
  have hPc := hP.sub (ws' := [(w0, .inr (4, [.int wst, .int wbc, .ref w1, .ref w2, .ref w5, .ref w8])), (w1, .inl (cZ, 7, .inl WM)), (w8, .inr (6, [.int (nI bl), .ref w9, .ref w10]))]) [1, 2, 9] rfl
  have hDc := hD.sub (ws' := [(w0, .inr (4, [.int wst, .int wbc, .ref w1, .ref w2, .ref w5, .ref w8])), (w1, .inl (cZ, 7, .inl WM)), (w8, .inr (6, [.int (nI bl), .ref w9, .ref w10]))]) [1, 2, 9] (by decide +kernel) rfl
  have hFc := va_free (wc := [(w0, .inr (4, [.int wst, .int wbc, .ref w1, .ref w2, .ref w5, .ref w8])), (w1, .inl (cZ, 7, .inl WM)), (w8, .inr (6, [.int (nI bl), .ref w9, .ref w10]))]) hD hS hA [1, 2, 9] rfl
  refine va_callv (va_runV (As := [.int (nI a), .int (nI b)]) (rest := []) ⟨hx, hb, hml, hown, hts⟩ (e_WS_begin l D cI cZ w0 a b wst wbc w1 w2 w5 w8 WM bl w9 w10 s.heap.size h_bl hb7) (my_cwV 2 hts q_392 q_389 q_390 q_391 q_5 rfl rfl (by decide +kernel) ⟨Nat.le_of_ble_eq_true rfl, Nat.le_of_ble_eq_true rfl⟩) (my_preV hPc hDc hK hN 4 0 rfl rfl) rfl rfl hl.1 rfl (lv_room (Nat.le_of_ble_eq_true rfl)) d_PC_findWay_6 ⟨Nat.le_of_ble_eq_true rfl, Nat.le_of_ble_eq_true rfl⟩) hS (fun q _ h => hFc q h) hFc (fun uU tT H_2 locs ht hvm hw_1 hB hz1 hk1 hS => ?_)
  obtain ⟨WM_3, rfl⟩ : ∃ z, z = uU := ⟨_, rfl⟩
  obtain ⟨hP1, hD1⟩ := hB
  rw [ht] at hP1
  obtain ⟨hP, hD⟩ := va_join (wr := [(x, .inr (0, [.ref f0, .ref a0, .ref r0, .ref w0, .ref g0, .ref k0, .int tm, .int gp, .int lk])), (w2, .inr (6, [.int wbl, .ref w3, .ref w4])), (w3, .inl (cI, 7, .inl (fun zy => nI (BKP zy)))), (w4, .inl (cI, 7, .inl (fun zy => nI (BKF zy)))), (w5, .inr (6, [.int wtl, .ref w6, .ref w7])), (w6, .inl (cI, 7, .inl (fun zy => nI (TUP zy)))), (w7, .inl (cI, 7, .inl (fun zy => nI (TUF zy)))), (w9, .inl (cI, 7, .inl (fun zy => nI (BEP zy)))), (w10, .inl (cI, 7, .inl (fun zy => nI (BEF zy)))), (f0, .inr (1, [.int (nI nn), .ref f1, .ref f2, .ref f3, .ref f4])), (f2, .inl (cI, 7, .inl FB)), (f3, .inl (cI, 7, .inl FR)), (a0, .inr (2, [.int (nI np), .ref a1, .ref a2, .ref a3, .ref a4, .ref a5, .ref a6, .ref a7, .ref a8, .ref a9, .ref a10, .ref a11])), (a1, .inl (cI, 24, .inl (fun zy => nI (EP zy)))), (a2, .inl (cI, 24, .inl SI)), (a6, .inl (cI, 12, .inl PH))]) (w1 := [(w0, .inr (4, [.int (nI a), .int wbc, .ref w1, .ref w2, .ref w5, .ref w8])), (w1, .inl (cZ, 7, .inl WM_3)), (w8, .inr (6, [.int 0, .ref w9, .ref w10]))]) hP hD [1, 2, 9] [0, 3, 4, 5, 6, 7, 8, 10, 11, 12, 13, 14, 15, 16, 17, 18] rfl rfl (by decide +kernel) (by decide +kernel) hk1 hFc hP1 hD1
  have hP : va_P D vwCl [(x, .inr (0, [.ref f0, .ref a0, .ref r0, .ref w0, .ref g0, .ref k0, .int tm, .int gp, .int lk])), (w2, .inr (6, [.int wbl, .ref w3, .ref w4])), (w3, .inl (cI, 7, .inl (fun zy => nI (BKP zy)))), (w4, .inl (cI, 7, .inl (fun zy => nI (BKF zy)))), (w5, .inr (6, [.int wtl, .ref w6, .ref w7])), (w6, .inl (cI, 7, .inl (fun zy => nI (TUP zy)))), (w7, .inl (cI, 7, .inl (fun zy => nI (TUF zy)))), (w9, .inl (cI, 7, .inl (fun zy => nI (BEP zy)))), (w10, .inl (cI, 7, .inl (fun zy => nI (BEF zy)))), (f0, .inr (1, [.int (nI nn), .ref f1, .ref f2, .ref f3, .ref f4])), (f2, .inl (cI, 7, .inl FB)), (f3, .inl (cI, 7, .inl FR)), (a0, .inr (2, [.int (nI np), .ref a1, .ref a2, .ref a3, .ref a4, .ref a5, .ref a6, .ref a7, .ref a8, .ref a9, .ref a10, .ref a11])), (a1, .inl (cI, 24, .inl (fun zy => nI (EP zy)))), (a2, .inl (cI, 24, .inl SI)), (a6, .inl (cI, 12, .inl PH)), (w0, .inr (4, [.int (nI a), .int wbc, .ref w1, .ref w2, .ref w5, .ref w8])), (w1, .inl (cZ, 7, .inl WM_3)), (w8, .inr (6, [.int 0, .ref w9, .ref w10]))] H_2 := hP
  have hf_3_0 : WM_3 = mkM b 7 WM := hw_1
  have hf_3_0 : WM_3 = mkM b 7 WM := hf_3_0
  refine lv_aload_n hx hb d_PC_findWay_9 rfl (lv_at hl 0 rfl) ?_
  refine va_get (D := D) (ci := 0) (v := .ref w0) (C := R_PC) (T := F_PC) (N := 9) hx hb hts i_PC hown hK hP 0 rfl rfl 3 (by decide) (hts _ q_259) (fun _ h9 => h9) rfl d_PC_findWay_10 ?_
  refine lv_aload_n hx hb d_PC_findWay_13 rfl (lv_at hl 0 rfl) ?_
  refine va_get (D := D) (ci := 0) (v := .ref f0) (C := R_PC) (T := F_PC) (N := 9) hx hb hts i_PC hown hK hP 0 rfl rfl 0 (by decide) (hts _ q_256) (fun _ h9 => h9) rfl d_PC_findWay_14 ?_
  refine lv_aload_n hx hb d_PC_findWay_17 rfl (lv_at hl 0 rfl) ?_
  refine va_get (D := D) (ci := 0) (v := .ref a0) (C := R_PC) (T := F_PC) (N := 9) hx hb hts i_PC hown hK hP 0 rfl rfl 1 (by decide) (hts _ q_257) (fun _ h9 => h9) rfl d_PC_findWay_18 ?_
  refine lv_iload_n hx hb d_PC_findWay_21 rfl (lv_at hl 2 rfl) ?_
  refine lv_iload_n hx hb d_PC_findWay_22 rfl (lv_at hl 3 rfl) ?_
  refine lv_iconst (v := 0) hx hb d_PC_findWay_23 (by decide) ?_
  have hPc := hP.sub (ws' := [(w0, .inr (4, [.int (nI a), .int wbc, .ref w1, .ref w2, .ref w5, .ref w8])), (w1, .inl (cZ, 7, .inl WM_3)), (w2, .inr (6, [.int wbl, .ref w3, .ref w4])), (w3, .inl (cI, 7, .inl (fun zy => nI (BKP zy)))), (w4, .inl (cI, 7, .inl (fun zy => nI (BKF zy)))), (w5, .inr (6, [.int wtl, .ref w6, .ref w7])), (w6, .inl (cI, 7, .inl (fun zy => nI (TUP zy)))), (w7, .inl (cI, 7, .inl (fun zy => nI (TUF zy)))), (w8, .inr (6, [.int 0, .ref w9, .ref w10])), (w9, .inl (cI, 7, .inl (fun zy => nI (BEP zy)))), (w10, .inl (cI, 7, .inl (fun zy => nI (BEF zy)))), (f0, .inr (1, [.int (nI nn), .ref f1, .ref f2, .ref f3, .ref f4])), (f2, .inl (cI, 7, .inl FB)), (f3, .inl (cI, 7, .inl FR)), (a0, .inr (2, [.int (nI np), .ref a1, .ref a2, .ref a3, .ref a4, .ref a5, .ref a6, .ref a7, .ref a8, .ref a9, .ref a10, .ref a11])), (a1, .inl (cI, 24, .inl (fun zy => nI (EP zy)))), (a2, .inl (cI, 24, .inl SI)), (a6, .inl (cI, 12, .inl PH))]) [16, 17, 1, 2, 3, 4, 5, 6, 18, 7, 8, 9, 10, 11, 12, 13, 14, 15] rfl
  have hDc := hD.sub (ws' := [(w0, .inr (4, [.int (nI a), .int wbc, .ref w1, .ref w2, .ref w5, .ref w8])), (w1, .inl (cZ, 7, .inl WM_3)), (w2, .inr (6, [.int wbl, .ref w3, .ref w4])), (w3, .inl (cI, 7, .inl (fun zy => nI (BKP zy)))), (w4, .inl (cI, 7, .inl (fun zy => nI (BKF zy)))), (w5, .inr (6, [.int wtl, .ref w6, .ref w7])), (w6, .inl (cI, 7, .inl (fun zy => nI (TUP zy)))), (w7, .inl (cI, 7, .inl (fun zy => nI (TUF zy)))), (w8, .inr (6, [.int 0, .ref w9, .ref w10])), (w9, .inl (cI, 7, .inl (fun zy => nI (BEP zy)))), (w10, .inl (cI, 7, .inl (fun zy => nI (BEF zy)))), (f0, .inr (1, [.int (nI nn), .ref f1, .ref f2, .ref f3, .ref f4])), (f2, .inl (cI, 7, .inl FB)), (f3, .inl (cI, 7, .inl FR)), (a0, .inr (2, [.int (nI np), .ref a1, .ref a2, .ref a3, .ref a4, .ref a5, .ref a6, .ref a7, .ref a8, .ref a9, .ref a10, .ref a11])), (a1, .inl (cI, 24, .inl (fun zy => nI (EP zy)))), (a2, .inl (cI, 24, .inl SI)), (a6, .inl (cI, 12, .inl PH))]) [16, 17, 1, 2, 3, 4, 5, 6, 18, 7, 8, 9, 10, 11, 12, 13, 14, 15] (by decide +kernel) rfl
  have hFc := va_free (wc := [(w0, .inr (4, [.int (nI a), .int wbc, .ref w1, .ref w2, .ref w5, .ref w8])), (w1, .inl (cZ, 7, .inl WM_3)), (w2, .inr (6, [.int wbl, .ref w3, .ref w4])), (w3, .inl (cI, 7, .inl (fun zy => nI (BKP zy)))), (w4, .inl (cI, 7, .inl (fun zy => nI (BKF zy)))), (w5, .inr (6, [.int wtl, .ref w6, .ref w7])), (w6, .inl (cI, 7, .inl (fun zy => nI (TUP zy)))), (w7, .inl (cI, 7, .inl (fun zy => nI (TUF zy)))), (w8, .inr (6, [.int 0, .ref w9, .ref w10])), (w9, .inl (cI, 7, .inl (fun zy => nI (BEP zy)))), (w10, .inl (cI, 7, .inl (fun zy => nI (BEF zy)))), (f0, .inr (1, [.int (nI nn), .ref f1, .ref f2, .ref f3, .ref f4])), (f2, .inl (cI, 7, .inl FB)), (f3, .inl (cI, 7, .inl FR)), (a0, .inr (2, [.int (nI np), .ref a1, .ref a2, .ref a3, .ref a4, .ref a5, .ref a6, .ref a7, .ref a8, .ref a9, .ref a10, .ref a11])), (a1, .inl (cI, 24, .inl (fun zy => nI (EP zy)))), (a2, .inl (cI, 24, .inl SI)), (a6, .inl (cI, 12, .inl PH))]) hD hS hA [16, 17, 1, 2, 3, 4, 5, 6, 18, 7, 8, 9, 10, 11, 12, 13, 14, 15] rfl
  refine va_callv (va_runS (As := [.ref w0, .ref f0, .ref a0, .int (nI b), .int v, .int 0]) (rest := []) ⟨hx, hb, hml, hown, hts⟩ (e_PC_searchWays_0 l D cI cZ w0 f0 a0 b v a wbc w1 w2 w5 w8 WM_3 wbl w3 w4 BKP BKF wtl w6 w7 TUP TUF 0 w9 w10 BEP BEF nn f1 f2 f3 f4 FB FR np a1 a2 a3 a4 a5 a6 a7 a8 a9 a10 a11 EP SI PH b v H_2.size h_BKP h_BKF h_TUP h_TUF (by first | omega | (dsimp only; omega)) h_BEP h_BEF h_nn h_np h_EP hb7 ha7 hne (SWP_0 (by omega) hab hf_3_0) (fun hZ => absurd rfl hZ)) (my_cwS 6 hts q_395 q_393 q_394 q_1 rfl rfl (by decide +kernel) ⟨Nat.le_of_ble_eq_true rfl, Nat.le_of_ble_eq_true rfl⟩) (my_preS hPc hDc hK hN) rfl rfl hl.1 rfl (lv_room (Nat.le_of_ble_eq_true rfl)) d_PC_findWay_24 ⟨Nat.le_of_ble_eq_true rfl, Nat.le_of_ble_eq_true rfl⟩) hS (fun q _ h => hFc q h) hFc (fun uU tT H_5 locs ht hvm hw_4 hB hz1 hk1 hS => ?_)
  obtain ⟨wbc_6, wbl_7, wtl_8, bl_9, BKP_10, BKF_11, TUP_12, TUF_13, BEP_14, BEF_15⟩ := uU
  obtain ⟨hP1, hD1⟩ := hB
  rw [ht] at hP1
  obtain ⟨hP, hD⟩ := va_join (wr := [(x, .inr (0, [.ref f0, .ref a0, .ref r0, .ref w0, .ref g0, .ref k0, .int tm, .int gp, .int lk]))]) (w1 := [(w0, .inr (4, [.int (nI a), .int wbc_6, .ref w1, .ref w2, .ref w5, .ref w8])), (w1, .inl (cZ, 7, .inl WM_3)), (w2, .inr (6, [.int wbl_7, .ref w3, .ref w4])), (w3, .inl (cI, 7, .inl (fun zy => nI (BKP_10 zy)))), (w4, .inl (cI, 7, .inl (fun zy => nI (BKF_11 zy)))), (w5, .inr (6, [.int wtl_8, .ref w6, .ref w7])), (w6, .inl (cI, 7, .inl (fun zy => nI (TUP_12 zy)))), (w7, .inl (cI, 7, .inl (fun zy => nI (TUF_13 zy)))), (w8, .inr (6, [.int (nI bl_9), .ref w9, .ref w10])), (w9, .inl (cI, 7, .inl (fun zy => nI (BEP_14 zy)))), (w10, .inl (cI, 7, .inl (fun zy => nI (BEF_15 zy)))), (f0, .inr (1, [.int (nI nn), .ref f1, .ref f2, .ref f3, .ref f4])), (f2, .inl (cI, 7, .inl FB)), (f3, .inl (cI, 7, .inl FR)), (a0, .inr (2, [.int (nI np), .ref a1, .ref a2, .ref a3, .ref a4, .ref a5, .ref a6, .ref a7, .ref a8, .ref a9, .ref a10, .ref a11])), (a1, .inl (cI, 24, .inl (fun zy => nI (EP zy)))), (a2, .inl (cI, 24, .inl SI)), (a6, .inl (cI, 12, .inl PH))]) hP hD [16, 17, 1, 2, 3, 4, 5, 6, 18, 7, 8, 9, 10, 11, 12, 13, 14, 15] [0] rfl rfl (by decide +kernel) (by decide +kernel) hk1 hFc hP1 hD1
  have hP : va_P D vwCl [(x, .inr (0, [.ref f0, .ref a0, .ref r0, .ref w0, .ref g0, .ref k0, .int tm, .int gp, .int lk])), (w0, .inr (4, [.int (nI a), .int wbc_6, .ref w1, .ref w2, .ref w5, .ref w8])), (w1, .inl (cZ, 7, .inl WM_3)), (w2, .inr (6, [.int wbl_7, .ref w3, .ref w4])), (w3, .inl (cI, 7, .inl (fun zy => nI (BKP_10 zy)))), (w4, .inl (cI, 7, .inl (fun zy => nI (BKF_11 zy)))), (w5, .inr (6, [.int wtl_8, .ref w6, .ref w7])), (w6, .inl (cI, 7, .inl (fun zy => nI (TUP_12 zy)))), (w7, .inl (cI, 7, .inl (fun zy => nI (TUF_13 zy)))), (w8, .inr (6, [.int (nI bl_9), .ref w9, .ref w10])), (w9, .inl (cI, 7, .inl (fun zy => nI (BEP_14 zy)))), (w10, .inl (cI, 7, .inl (fun zy => nI (BEF_15 zy)))), (f0, .inr (1, [.int (nI nn), .ref f1, .ref f2, .ref f3, .ref f4])), (f2, .inl (cI, 7, .inl FB)), (f3, .inl (cI, 7, .inl FR)), (a0, .inr (2, [.int (nI np), .ref a1, .ref a2, .ref a3, .ref a4, .ref a5, .ref a6, .ref a7, .ref a8, .ref a9, .ref a10, .ref a11])), (a1, .inl (cI, 24, .inl (fun zy => nI (EP zy)))), (a2, .inl (cI, 24, .inl SI)), (a6, .inl (cI, 12, .inl PH))] H_5 := hP
  have hw_4 : (bl_9 ≤ 6) ∧ (∀ zz, BKP_10 zz ≤ 11) ∧ (∀ zz, BKF_11 zz ≤ 1) ∧ (∀ zz, TUP_12 zz ≤ 11) ∧ (∀ zz, TUF_13 zz ≤ 1) ∧ (∀ zz, BEP_14 zz ≤ 11) ∧ (∀ zz, BEF_15 zz ≤ 1) ∧ (∀ zz, zz < 0 → BKP_10 zz = BKP zz ∧ BKF_11 zz = BKF zz) ∧ (WOK EP PH SI FB FR np a b v bl_9 wbc_6 BEP_14 BEF_15) ∧ (WMono 0 wbc BEP bl_9 wbc_6 BEP_14) ∧ (WAll EP PH SI FB FR np a b v 0 (pfx BKP BKF) np bl_9 wbc_6 BEP_14) := hw_4
  obtain ⟨hf_15_0, hf_15_1, hf_15_2, hf_15_3, hf_15_4, hf_15_5, hf_15_6, hf_15_7, hf_15_8, hf_15_9, hf_15_10⟩ := hw_4
  have hf_15_0 : bl_9 ≤ 6 := hf_15_0
  have hf_15_1 : ∀ zz, BKP_10 zz ≤ 11 := hf_15_1
  have hf_15_2 : ∀ zz, BKF_11 zz ≤ 1 := hf_15_2
  have hf_15_3 : ∀ zz, TUP_12 zz ≤ 11 := hf_15_3
  have hf_15_4 : ∀ zz, TUF_13 zz ≤ 1 := hf_15_4
  have hf_15_5 : ∀ zz, BEP_14 zz ≤ 11 := hf_15_5
  have hf_15_6 : ∀ zz, BEF_15 zz ≤ 1 := hf_15_6
  have hf_15_7 : ∀ zz, zz < 0 → BKP_10 zz = BKP zz ∧ BKF_11 zz = BKF zz := hf_15_7
  have hf_15_8 : WOK EP PH SI FB FR np a b v bl_9 wbc_6 BEP_14 BEF_15 := hf_15_8
  have hf_15_9 : WMono 0 wbc BEP bl_9 wbc_6 BEP_14 := hf_15_9
  have hf_15_10 : WAll EP PH SI FB FR np a b v 0 (pfx BKP BKF) np bl_9 wbc_6 BEP_14 := hf_15_10
  refine lv_aload_n hx hb d_PC_findWay_27 rfl (lv_at hl 0 rfl) ?_
  refine va_get (D := D) (ci := 0) (v := .ref w0) (C := R_PC) (T := F_PC) (N := 9) hx hb hts i_PC hown hK hP 0 rfl rfl 3 (by decide) (hts _ q_259) (fun _ h9 => h9) rfl d_PC_findWay_28 ?_
  refine va_get (D := D) (ci := 4) (v := .ref w8) (C := R_WS) (T := F_WS) (N := 6) hx hb hts i_WS hown hK hP 1 rfl rfl 5 (by decide) (hts _ q_200) (fun _ h9 => h9) rfl d_PC_findWay_31 ?_
  refine va_get (D := D) (ci := 6) (v := .int (nI bl_9)) (C := R_RO) (T := F_RO) (N := 3) hx hb hts i_RO hown hK hP 9 rfl rfl 0 (by decide) (hts _ q_174) (fun _ h9 => h9) rfl d_PC_findWay_34 ?_
  refine lv_if_le (tgt := 44) hx hb d_PC_findWay_37 (by decide) (fun h_16 => ?_) (fun h_16 => ?_)
  · have nh_16 : bl_9 ≤ 0 := (nI_leI (a := bl_9) (b := 0) (by omega) (by omega)).mp h_16
    refine lv_iconst (v := 0) hx hb d_PC_findWay_44 (by decide) ?_
    have hP9 := hP.sub (ws' := [(x, .inr (0, [.ref f0, .ref a0, .ref r0, .ref w0, .ref g0, .ref k0, .int tm, .int gp, .int lk])), (w0, .inr (4, [.int (nI a), .int wbc_6, .ref w1, .ref w2, .ref w5, .ref w8])), (w1, .inl (cZ, 7, .inl WM_3)), (w2, .inr (6, [.int wbl_7, .ref w3, .ref w4])), (w3, .inl (cI, 7, .inl (fun zy => nI (BKP_10 zy)))), (w4, .inl (cI, 7, .inl (fun zy => nI (BKF_11 zy)))), (w5, .inr (6, [.int wtl_8, .ref w6, .ref w7])), (w6, .inl (cI, 7, .inl (fun zy => nI (TUP_12 zy)))), (w7, .inl (cI, 7, .inl (fun zy => nI (TUF_13 zy)))), (w8, .inr (6, [.int (nI bl_9), .ref w9, .ref w10])), (w9, .inl (cI, 7, .inl (fun zy => nI (BEP_14 zy)))), (w10, .inl (cI, 7, .inl (fun zy => nI (BEF_15 zy)))), (f0, .inr (1, [.int (nI nn), .ref f1, .ref f2, .ref f3, .ref f4])), (f2, .inl (cI, 7, .inl FB)), (f3, .inl (cI, 7, .inl FR)), (a0, .inr (2, [.int (nI np), .ref a1, .ref a2, .ref a3, .ref a4, .ref a5, .ref a6, .ref a7, .ref a8, .ref a9, .ref a10, .ref a11])), (a1, .inl (cI, 24, .inl (fun zy => nI (EP zy)))), (a2, .inl (cI, 24, .inl SI)), (a6, .inl (cI, 12, .inl PH))]) [0, 1, 2, 3, 4, 5, 6, 7, 8, 9, 10, 11, 12, 13, 14, 15, 16, 17, 18] rfl
    have hD9 := hD.sub (ws' := [(x, .inr (0, [.ref f0, .ref a0, .ref r0, .ref w0, .ref g0, .ref k0, .int tm, .int gp, .int lk])), (w0, .inr (4, [.int (nI a), .int wbc_6, .ref w1, .ref w2, .ref w5, .ref w8])), (w1, .inl (cZ, 7, .inl WM_3)), (w2, .inr (6, [.int wbl_7, .ref w3, .ref w4])), (w3, .inl (cI, 7, .inl (fun zy => nI (BKP_10 zy)))), (w4, .inl (cI, 7, .inl (fun zy => nI (BKF_11 zy)))), (w5, .inr (6, [.int wtl_8, .ref w6, .ref w7])), (w6, .inl (cI, 7, .inl (fun zy => nI (TUP_12 zy)))), (w7, .inl (cI, 7, .inl (fun zy => nI (TUF_13 zy)))), (w8, .inr (6, [.int (nI bl_9), .ref w9, .ref w10])), (w9, .inl (cI, 7, .inl (fun zy => nI (BEP_14 zy)))), (w10, .inl (cI, 7, .inl (fun zy => nI (BEF_15 zy)))), (f0, .inr (1, [.int (nI nn), .ref f1, .ref f2, .ref f3, .ref f4])), (f2, .inl (cI, 7, .inl FB)), (f3, .inl (cI, 7, .inl FR)), (a0, .inr (2, [.int (nI np), .ref a1, .ref a2, .ref a3, .ref a4, .ref a5, .ref a6, .ref a7, .ref a8, .ref a9, .ref a10, .ref a11])), (a1, .inl (cI, 24, .inl (fun zy => nI (EP zy)))), (a2, .inl (cI, 24, .inl SI)), (a6, .inl (cI, 12, .inl PH))]) [0, 1, 2, 3, 4, 5, 6, 7, 8, 9, 10, 11, 12, 13, 14, 15, 16, 17, 18] (by decide +kernel) rfl
    refine W.widen (k := 0) (n := 0) (Nat.le_of_ble_eq_true rfl) (Nat.le_of_ble_eq_true rfl) ?_
    exact W.zret (v := 0) hx hb hr rfl (fun tT ht hW => ⟨⟨0, (nI a, wbc_6, wbl_7, wtl_8, bl_9, WM_3, BKP_10, BKF_11, TUP_12, TUF_13, BEP_14, BEF_15), rfl, ⟨hf_15_0, hf_15_1, hf_15_2, hf_15_3, hf_15_4, hf_15_5, hf_15_6, Or.inl (⟨(by first | omega | (dsimp only; omega)), hf_15_8, (WAll_congr (fun z hz => absurd hz (Nat.not_lt_zero _)) hf_15_10), rfl⟩)⟩, by rw [ht]; exact hP9, hD9⟩, hS.F ht⟩) hS.2.2 d_PC_findWay_45
  · have nh_16 : ¬ bl_9 ≤ 0 := fun qZ => h_16 ((nI_leI (a := bl_9) (b := 0) (by omega) (by omega)).mpr qZ)
    refine lv_iconst (v := 1) hx hb d_PC_findWay_40 (by decide) ?_
    refine lv_goto (tgt := 45) hx hb d_PC_findWay_41 (by decide) ?_
    have hP9 := hP.sub (ws' := [(x, .inr (0, [.ref f0, .ref a0, .ref r0, .ref w0, .ref g0, .ref k0, .int tm, .int gp, .int lk])), (w0, .inr (4, [.int (nI a), .int wbc_6, .ref w1, .ref w2, .ref w5, .ref w8])), (w1, .inl (cZ, 7, .inl WM_3)), (w2, .inr (6, [.int wbl_7, .ref w3, .ref w4])), (w3, .inl (cI, 7, .inl (fun zy => nI (BKP_10 zy)))), (w4, .inl (cI, 7, .inl (fun zy => nI (BKF_11 zy)))), (w5, .inr (6, [.int wtl_8, .ref w6, .ref w7])), (w6, .inl (cI, 7, .inl (fun zy => nI (TUP_12 zy)))), (w7, .inl (cI, 7, .inl (fun zy => nI (TUF_13 zy)))), (w8, .inr (6, [.int (nI bl_9), .ref w9, .ref w10])), (w9, .inl (cI, 7, .inl (fun zy => nI (BEP_14 zy)))), (w10, .inl (cI, 7, .inl (fun zy => nI (BEF_15 zy)))), (f0, .inr (1, [.int (nI nn), .ref f1, .ref f2, .ref f3, .ref f4])), (f2, .inl (cI, 7, .inl FB)), (f3, .inl (cI, 7, .inl FR)), (a0, .inr (2, [.int (nI np), .ref a1, .ref a2, .ref a3, .ref a4, .ref a5, .ref a6, .ref a7, .ref a8, .ref a9, .ref a10, .ref a11])), (a1, .inl (cI, 24, .inl (fun zy => nI (EP zy)))), (a2, .inl (cI, 24, .inl SI)), (a6, .inl (cI, 12, .inl PH))]) [0, 1, 2, 3, 4, 5, 6, 7, 8, 9, 10, 11, 12, 13, 14, 15, 16, 17, 18] rfl
    have hD9 := hD.sub (ws' := [(x, .inr (0, [.ref f0, .ref a0, .ref r0, .ref w0, .ref g0, .ref k0, .int tm, .int gp, .int lk])), (w0, .inr (4, [.int (nI a), .int wbc_6, .ref w1, .ref w2, .ref w5, .ref w8])), (w1, .inl (cZ, 7, .inl WM_3)), (w2, .inr (6, [.int wbl_7, .ref w3, .ref w4])), (w3, .inl (cI, 7, .inl (fun zy => nI (BKP_10 zy)))), (w4, .inl (cI, 7, .inl (fun zy => nI (BKF_11 zy)))), (w5, .inr (6, [.int wtl_8, .ref w6, .ref w7])), (w6, .inl (cI, 7, .inl (fun zy => nI (TUP_12 zy)))), (w7, .inl (cI, 7, .inl (fun zy => nI (TUF_13 zy)))), (w8, .inr (6, [.int (nI bl_9), .ref w9, .ref w10])), (w9, .inl (cI, 7, .inl (fun zy => nI (BEP_14 zy)))), (w10, .inl (cI, 7, .inl (fun zy => nI (BEF_15 zy)))), (f0, .inr (1, [.int (nI nn), .ref f1, .ref f2, .ref f3, .ref f4])), (f2, .inl (cI, 7, .inl FB)), (f3, .inl (cI, 7, .inl FR)), (a0, .inr (2, [.int (nI np), .ref a1, .ref a2, .ref a3, .ref a4, .ref a5, .ref a6, .ref a7, .ref a8, .ref a9, .ref a10, .ref a11])), (a1, .inl (cI, 24, .inl (fun zy => nI (EP zy)))), (a2, .inl (cI, 24, .inl SI)), (a6, .inl (cI, 12, .inl PH))]) [0, 1, 2, 3, 4, 5, 6, 7, 8, 9, 10, 11, 12, 13, 14, 15, 16, 17, 18] (by decide +kernel) rfl
    refine W.widen (k := 0) (n := 0) (Nat.le_of_ble_eq_true rfl) (Nat.le_of_ble_eq_true rfl) ?_
    exact W.zret (v := 1) hx hb hr rfl (fun tT ht hW => ⟨⟨1, (nI a, wbc_6, wbl_7, wtl_8, bl_9, WM_3, BKP_10, BKF_11, TUP_12, TUF_13, BEP_14, BEF_15), rfl, ⟨hf_15_0, hf_15_1, hf_15_2, hf_15_3, hf_15_4, hf_15_5, hf_15_6, Or.inr (⟨(by first | omega | (dsimp only; omega)), hf_15_8, (WAll_congr (fun z hz => absurd hz (Nat.not_lt_zero _)) hf_15_10), rfl⟩)⟩, by rw [ht]; exact hP9, hD9⟩, hS.F ht⟩) hS.2.2 d_PC_findWay_45

set_option maxHeartbeats 4000000 in
set_option maxRecDepth 100000 in
theorem e_PC_best (l : Launch) (D : va_G) (cI cZ : ClassId) (x : Nat) (i : Int32) (j : Int32) (v : Int32) (f0 : Nat) (a0 : Nat) (r0 : Nat) (w0 : Nat) (g0 : Nat) (k0 : Nat) (tm : Int32) (gp : Int32) (lk : Int32) (wst : Int32) (wbc : Int32) (w1 : Nat) (w2 : Nat) (w5 : Nat) (w8 : Nat) (WM : Nat → Int32) (wbl : Int32) (w3 : Nat) (w4 : Nat) (BKP : Nat → Nat) (BKF : Nat → Nat) (wtl : Int32) (w6 : Nat) (w7 : Nat) (TUP : Nat → Nat) (TUF : Nat → Nat) (bl : Nat) (w9 : Nat) (w10 : Nat) (BEP : Nat → Nat) (BEF : Nat → Nat) (nn : Nat) (f1 : Nat) (f2 : Nat) (f3 : Nat) (f4 : Nat) (FB : Nat → Int32) (FR : Nat → Int32) (np : Nat) (a1 : Nat) (a2 : Nat) (a3 : Nat) (a4 : Nat) (a5 : Nat) (a6 : Nat) (a7 : Nat) (a8 : Nat) (a9 : Nat) (a10 : Nat) (a11 : Nat) (EP : Nat → Nat) (SI : Nat → Int32) (PH : Nat → Int32) (kl : Nat) (k1 : Nat) (k2 : Nat) (KP : Nat → Nat) (KF : Nat → Nat) (sz : Nat) (h_BKP : ∀ zz, BKP zz ≤ 11) (h_BKF : ∀ zz, BKF zz ≤ 1) (h_TUP : ∀ zz, TUP zz ≤ 11) (h_TUF : ∀ zz, TUF zz ≤ 1) (h_bl : bl ≤ 6) (h_BEP : ∀ zz, BEP zz ≤ 11) (h_BEF : ∀ zz, BEF zz ≤ 1) (h_nn : nn ≤ 7) (h_np : np ≤ 12) (h_EP : ∀ zz, EP zz ≤ 6) (h_kl : kl ≤ 6) (h_KP : ∀ zz, KP zz ≤ 11) (h_KF : ∀ zz, KF zz ≤ 1) (hne : ∀ qq, qq < np → EP (2 * qq) ≠ EP (2 * qq + 1)) : Met l ⟨"PromiseChains", "best", "(III)I"⟩ (mw ⟨"PromiseChains", "best", "(III)I"⟩ prog_1_method_8_code 4 (some .int)) ({ frames := 10, cells := 0, slots := 0, locals := 258 }) (va_Pc [.ref x, .int i, .int j, .int v] (PB D cI cZ sz [(x, .inr (0, [.ref f0, .ref a0, .ref r0, .ref w0, .ref g0, .ref k0, .int tm, .int gp, .int lk])), (w0, .inr (4, [.int wst, .int wbc, .ref w1, .ref w2, .ref w5, .ref w8])), (w1, .inl (cZ, 7, .inl WM)), (w2, .inr (6, [.int wbl, .ref w3, .ref w4])), (w3, .inl (cI, 7, .inl (fun zy => nI (BKP zy)))), (w4, .inl (cI, 7, .inl (fun zy => nI (BKF zy)))), (w5, .inr (6, [.int wtl, .ref w6, .ref w7])), (w6, .inl (cI, 7, .inl (fun zy => nI (TUP zy)))), (w7, .inl (cI, 7, .inl (fun zy => nI (TUF zy)))), (w8, .inr (6, [.int (nI bl), .ref w9, .ref w10])), (w9, .inl (cI, 7, .inl (fun zy => nI (BEP zy)))), (w10, .inl (cI, 7, .inl (fun zy => nI (BEF zy)))), (f0, .inr (1, [.int (nI nn), .ref f1, .ref f2, .ref f3, .ref f4])), (f2, .inl (cI, 7, .inl FB)), (f3, .inl (cI, 7, .inl FR)), (a0, .inr (2, [.int (nI np), .ref a1, .ref a2, .ref a3, .ref a4, .ref a5, .ref a6, .ref a7, .ref a8, .ref a9, .ref a10, .ref a11])), (a1, .inl (cI, 24, .inl (fun zy => nI (EP zy)))), (a2, .inl (cI, 24, .inl SI)), (a6, .inl (cI, 12, .inl PH)), (k0, .inr (6, [.int (nI kl), .ref k1, .ref k2])), (k1, .inl (cI, 7, .inl (fun zy => nI (KP zy)))), (k2, .inl (cI, 7, .inl (fun zy => nI (KF zy))))])) (va_Qi (S := Int32 × Int32 × Int32 × Int32 × Nat × Nat × (Nat → Int32) × (Nat → Nat) × (Nat → Nat) × (Nat → Nat) × (Nat → Nat) × (Nat → Nat) × (Nat → Nat) × (Nat → Nat) × (Nat → Nat)) (fun (r : Int32) uU => (uU.2.2.2.2.1 ≤ 6) ∧ (uU.2.2.2.2.2.1 ≤ 6) ∧ (∀ zz, uU.2.2.2.2.2.2.2.1 zz ≤ 11) ∧ (∀ zz, uU.2.2.2.2.2.2.2.2.1 zz ≤ 1) ∧ (∀ zz, uU.2.2.2.2.2.2.2.2.2.1 zz ≤ 11) ∧ (∀ zz, uU.2.2.2.2.2.2.2.2.2.2.1 zz ≤ 1) ∧ (∀ zz, uU.2.2.2.2.2.2.2.2.2.2.2.1 zz ≤ 11) ∧ (∀ zz, uU.2.2.2.2.2.2.2.2.2.2.2.2.1 zz ≤ 1) ∧ (∀ zz, uU.2.2.2.2.2.2.2.2.2.2.2.2.2.1 zz ≤ 11) ∧ (∀ zz, uU.2.2.2.2.2.2.2.2.2.2.2.2.2.2 zz ≤ 1) ∧ ((badWay nn i j v ∧ uU.2.2.2.2.2.1 = kl ∧ uU.2.2.2.2.2.2.2.2.2.2.2.2.2.1 = KP ∧ uU.2.2.2.2.2.2.2.2.2.2.2.2.2.2 = KF ∧ r = -2) ∨ (∃ a : Nat, ∃ b : Nat, ∃ c1 : Int32, ∃ P1 : Nat → Nat, ¬ badWay nn i j v ∧ i = nI a ∧ j = nI b ∧ a < nn ∧ b < nn ∧ ¬ a = b ∧ WAll EP PH SI FB FR np a b v 0 (fun _ => 0) np 0 c1 P1 ∧ uU.2.2.2.2.2.1 = kl ∧ uU.2.2.2.2.2.2.2.2.2.2.2.2.2.1 = KP ∧ uU.2.2.2.2.2.2.2.2.2.2.2.2.2.2 = KF ∧ r = -1) ∨ (∃ rr : Int32, ∃ a : Nat, ∃ b : Nat, ∃ bl1 : Nat, ∃ P1 : Nat → Nat, ∃ F1 : Nat → Nat, ¬ badWay nn i j v ∧ i = nI a ∧ j = nI b ∧ a < nn ∧ b < nn ∧ ¬ a = b ∧ ¬ bl1 = 0 ∧ (∀ zz, F1 zz ≤ 1) ∧ WOK EP PH SI FB FR np a b v bl1 rr P1 F1 ∧ WAll EP PH SI FB FR np a b v 0 (fun _ => 0) np bl1 rr P1 ∧ uU.2.2.2.2.2.1 = bl1 ∧ uU.2.2.2.2.2.2.2.2.2.2.2.2.2.1 = cpN bl1 P1 KP ∧ uU.2.2.2.2.2.2.2.2.2.2.2.2.2.2 = cpN bl1 F1 KF ∧ r = rr))) (fun uU tT => BB D (va_A [(x, .inr (0, [.ref f0, .ref a0, .ref r0, .ref w0, .ref g0, .ref k0, .int tm, .int gp, .int lk])), (w0, .inr (4, [.int wst, .int wbc, .ref w1, .ref w2, .ref w5, .ref w8])), (w1, .inl (cZ, 7, .inl WM)), (w2, .inr (6, [.int wbl, .ref w3, .ref w4])), (w3, .inl (cI, 7, .inl (fun zy => nI (BKP zy)))), (w4, .inl (cI, 7, .inl (fun zy => nI (BKF zy)))), (w5, .inr (6, [.int wtl, .ref w6, .ref w7])), (w6, .inl (cI, 7, .inl (fun zy => nI (TUP zy)))), (w7, .inl (cI, 7, .inl (fun zy => nI (TUF zy)))), (w8, .inr (6, [.int (nI bl), .ref w9, .ref w10])), (w9, .inl (cI, 7, .inl (fun zy => nI (BEP zy)))), (w10, .inl (cI, 7, .inl (fun zy => nI (BEF zy)))), (f0, .inr (1, [.int (nI nn), .ref f1, .ref f2, .ref f3, .ref f4])), (f2, .inl (cI, 7, .inl FB)), (f3, .inl (cI, 7, .inl FR)), (a0, .inr (2, [.int (nI np), .ref a1, .ref a2, .ref a3, .ref a4, .ref a5, .ref a6, .ref a7, .ref a8, .ref a9, .ref a10, .ref a11])), (a1, .inl (cI, 24, .inl (fun zy => nI (EP zy)))), (a2, .inl (cI, 24, .inl SI)), (a6, .inl (cI, 12, .inl PH)), (k0, .inr (6, [.int (nI kl), .ref k1, .ref k2])), (k1, .inl (cI, 7, .inl (fun zy => nI (KP zy)))), (k2, .inl (cI, 7, .inl (fun zy => nI (KF zy))))] sz) [(x, .inr (0, [.ref f0, .ref a0, .ref r0, .ref w0, .ref g0, .ref k0, .int tm, .int gp, .int lk])), (w0, .inr (4, [.int (uU.1), .int (uU.2.1), .ref w1, .ref w2, .ref w5, .ref w8])), (w1, .inl (cZ, 7, .inl (uU.2.2.2.2.2.2.1))), (w2, .inr (6, [.int (uU.2.2.1), .ref w3, .ref w4])), (w3, .inl (cI, 7, .inl (fun zy => nI ((uU.2.2.2.2.2.2.2.1) zy)))), (w4, .inl (cI, 7, .inl (fun zy => nI ((uU.2.2.2.2.2.2.2.2.1) zy)))), (w5, .inr (6, [.int (uU.2.2.2.1), .ref w6, .ref w7])), (w6, .inl (cI, 7, .inl (fun zy => nI ((uU.2.2.2.2.2.2.2.2.2.1) zy)))), (w7, .inl (cI, 7, .inl (fun zy => nI ((uU.2.2.2.2.2.2.2.2.2.2.1) zy)))), (w8, .inr (6, [.int (nI uU.2.2.2.2.1), .ref w9, .ref w10])), (w9, .inl (cI, 7, .inl (fun zy => nI ((uU.2.2.2.2.2.2.2.2.2.2.2.1) zy)))), (w10, .inl (cI, 7, .inl (fun zy => nI ((uU.2.2.2.2.2.2.2.2.2.2.2.2.1) zy)))), (f0, .inr (1, [.int (nI nn), .ref f1, .ref f2, .ref f3, .ref f4])), (f2, .inl (cI, 7, .inl FB)), (f3, .inl (cI, 7, .inl FR)), (a0, .inr (2, [.int (nI np), .ref a1, .ref a2, .ref a3, .ref a4, .ref a5, .ref a6, .ref a7, .ref a8, .ref a9, .ref a10, .ref a11])), (a1, .inl (cI, 24, .inl (fun zy => nI (EP zy)))), (a2, .inl (cI, 24, .inl SI)), (a6, .inl (cI, 12, .inl PH)), (k0, .inr (6, [.int (nI uU.2.2.2.2.2.1), .ref k1, .ref k2])), (k1, .inl (cI, 7, .inl (fun zy => nI ((uU.2.2.2.2.2.2.2.2.2.2.2.2.2.1) zy)))), (k2, .inl (cI, 7, .inl (fun zy => nI ((uU.2.2.2.2.2.2.2.2.2.2.2.2.2.2) zy))))] tT) (va_A [(x, .inr (0, [.ref f0, .ref a0, .ref r0, .ref w0, .ref g0, .ref k0, .int tm, .int gp, .int lk])), (w0, .inr (4, [.int wst, .int wbc, .ref w1, .ref w2, .ref w5, .ref w8])), (w1, .inl (cZ, 7, .inl WM)), (w2, .inr (6, [.int wbl, .ref w3, .ref w4])), (w3, .inl (cI, 7, .inl (fun zy => nI (BKP zy)))), (w4, .inl (cI, 7, .inl (fun zy => nI (BKF zy)))), (w5, .inr (6, [.int wtl, .ref w6, .ref w7])), (w6, .inl (cI, 7, .inl (fun zy => nI (TUP zy)))), (w7, .inl (cI, 7, .inl (fun zy => nI (TUF zy)))), (w8, .inr (6, [.int (nI bl), .ref w9, .ref w10])), (w9, .inl (cI, 7, .inl (fun zy => nI (BEP zy)))), (w10, .inl (cI, 7, .inl (fun zy => nI (BEF zy)))), (f0, .inr (1, [.int (nI nn), .ref f1, .ref f2, .ref f3, .ref f4])), (f2, .inl (cI, 7, .inl FB)), (f3, .inl (cI, 7, .inl FR)), (a0, .inr (2, [.int (nI np), .ref a1, .ref a2, .ref a3, .ref a4, .ref a5, .ref a6, .ref a7, .ref a8, .ref a9, .ref a10, .ref a11])), (a1, .inl (cI, 24, .inl (fun zy => nI (EP zy)))), (a2, .inl (cI, 24, .inl SI)), (a6, .inl (cI, 12, .inl PH)), (k0, .inr (6, [.int (nI kl), .ref k1, .ref k2])), (k1, .inl (cI, 7, .inl (fun zy => nI (KP zy)))), (k2, .inl (cI, 7, .inl (fun zy => nI (KF zy))))] sz)) 0 0 (va_A [(x, .inr (0, [.ref f0, .ref a0, .ref r0, .ref w0, .ref g0, .ref k0, .int tm, .int gp, .int lk])), (w0, .inr (4, [.int wst, .int wbc, .ref w1, .ref w2, .ref w5, .ref w8])), (w1, .inl (cZ, 7, .inl WM)), (w2, .inr (6, [.int wbl, .ref w3, .ref w4])), (w3, .inl (cI, 7, .inl (fun zy => nI (BKP zy)))), (w4, .inl (cI, 7, .inl (fun zy => nI (BKF zy)))), (w5, .inr (6, [.int wtl, .ref w6, .ref w7])), (w6, .inl (cI, 7, .inl (fun zy => nI (TUP zy)))), (w7, .inl (cI, 7, .inl (fun zy => nI (TUF zy)))), (w8, .inr (6, [.int (nI bl), .ref w9, .ref w10])), (w9, .inl (cI, 7, .inl (fun zy => nI (BEP zy)))), (w10, .inl (cI, 7, .inl (fun zy => nI (BEF zy)))), (f0, .inr (1, [.int (nI nn), .ref f1, .ref f2, .ref f3, .ref f4])), (f2, .inl (cI, 7, .inl FB)), (f3, .inl (cI, 7, .inl FR)), (a0, .inr (2, [.int (nI np), .ref a1, .ref a2, .ref a3, .ref a4, .ref a5, .ref a6, .ref a7, .ref a8, .ref a9, .ref a10, .ref a11])), (a1, .inl (cI, 24, .inl (fun zy => nI (EP zy)))), (a2, .inl (cI, 24, .inl SI)), (a6, .inl (cI, 12, .inl PH)), (k0, .inr (6, [.int (nI kl), .ref k1, .ref k2])), (k1, .inl (cI, 7, .inl (fun zy => nI (KP zy)))), (k2, .inl (cI, 7, .inl (fun zy => nI (KF zy))))] sz) := by
  refine Met.ofW (cc := prog_1_method_8_code) (maxL := 4) (ret := (some .int)) (by decide) rfl ?_
  intro p e s m args below meth c s₁ B hml hv
  obtain ⟨rfl, hsz, hP, hK, hD0, hN⟩ := hv
  have hx := B.exec
  have hb := B.bytes
  have hr := B.returns
  have hts0 := atoms_spec (ws := mw ⟨"PromiseChains", "best", "(III)I"⟩ prog_1_method_8_code 4 (some .int)) B.pre
  have hts : ∀ w ∈ tblG, w.before _ s = true := fun w h => hts0 w (List.mem_cons_of_mem _ h)
  have hown : s.vm.findClass "PromiseChains" = some m.cls := findClass_of_methodNamed B.named
  have hlocks := B.notSynchronized
  subst hsz
  have hD := hD0.self (sz := s.heap.size)
  generalize hAe : va_A [(x, .inr (0, [.ref f0, .ref a0, .ref r0, .ref w0, .ref g0, .ref k0, .int tm, .int gp, .int lk])), (w0, .inr (4, [.int wst, .int wbc, .ref w1, .ref w2, .ref w5, .ref w8])), (w1, .inl (cZ, 7, .inl WM)), (w2, .inr (6, [.int wbl, .ref w3, .ref w4])), (w3, .inl (cI, 7, .inl (fun zy => nI (BKP zy)))), (w4, .inl (cI, 7, .inl (fun zy => nI (BKF zy)))), (w5, .inr (6, [.int wtl, .ref w6, .ref w7])), (w6, .inl (cI, 7, .inl (fun zy => nI (TUP zy)))), (w7, .inl (cI, 7, .inl (fun zy => nI (TUF zy)))), (w8, .inr (6, [.int (nI bl), .ref w9, .ref w10])), (w9, .inl (cI, 7, .inl (fun zy => nI (BEP zy)))), (w10, .inl (cI, 7, .inl (fun zy => nI (BEF zy)))), (f0, .inr (1, [.int (nI nn), .ref f1, .ref f2, .ref f3, .ref f4])), (f2, .inl (cI, 7, .inl FB)), (f3, .inl (cI, 7, .inl FR)), (a0, .inr (2, [.int (nI np), .ref a1, .ref a2, .ref a3, .ref a4, .ref a5, .ref a6, .ref a7, .ref a8, .ref a9, .ref a10, .ref a11])), (a1, .inl (cI, 24, .inl (fun zy => nI (EP zy)))), (a2, .inl (cI, 24, .inl SI)), (a6, .inl (cI, 12, .inl PH)), (k0, .inr (6, [.int (nI kl), .ref k1, .ref k2])), (k1, .inl (cI, 7, .inl (fun zy => nI (KP zy)))), (k2, .inl (cI, 7, .inl (fun zy => nI (KF zy))))] s.heap.size = A at hD ⊢
  have hA : ∀ q : Nat, s.heap.size ≤ q → A q := fun q h => by rw [← hAe]; exact Or.inr h
  have hS : va_S A s.heap s.heap [] := va_S.rf
  have hP : va_P D vwCl [(x, .inr (0, [.ref f0, .ref a0, .ref r0, .ref w0, .ref g0, .ref k0, .int tm, .int gp, .int lk])), (w0, .inr (4, [.int wst, .int wbc, .ref w1, .ref w2, .ref w5, .ref w8])), (w1, .inl (cZ, 7, .inl WM)), (w2, .inr (6, [.int wbl, .ref w3, .ref w4])), (w3, .inl (cI, 7, .inl (fun zy => nI (BKP zy)))), (w4, .inl (cI, 7, .inl (fun zy => nI (BKF zy)))), (w5, .inr (6, [.int wtl, .ref w6, .ref w7])), (w6, .inl (cI, 7, .inl (fun zy => nI (TUP zy)))), (w7, .inl (cI, 7, .inl (fun zy => nI (TUF zy)))), (w8, .inr (6, [.int (nI bl), .ref w9, .ref w10])), (w9, .inl (cI, 7, .inl (fun zy => nI (BEP zy)))), (w10, .inl (cI, 7, .inl (fun zy => nI (BEF zy)))), (f0, .inr (1, [.int (nI nn), .ref f1, .ref f2, .ref f3, .ref f4])), (f2, .inl (cI, 7, .inl FB)), (f3, .inl (cI, 7, .inl FR)), (a0, .inr (2, [.int (nI np), .ref a1, .ref a2, .ref a3, .ref a4, .ref a5, .ref a6, .ref a7, .ref a8, .ref a9, .ref a10, .ref a11])), (a1, .inl (cI, 24, .inl (fun zy => nI (EP zy)))), (a2, .inl (cI, 24, .inl SI)), (a6, .inl (cI, 12, .inl PH)), (k0, .inr (6, [.int (nI kl), .ref k1, .ref k2])), (k1, .inl (cI, 7, .inl (fun zy => nI (KP zy)))), (k2, .inl (cI, 7, .inl (fun zy => nI (KF zy))))] s.heap := hP
  have hl := lv_entry ([.ref x, .int i, .int j, .int v]) (n := 4) (Nat.le_of_ble_eq_true rfl)
  rw [lg_entry_eq]
  generalize (lg_sl ([.ref x, .int i, .int j, .int v]) ++ List.replicate (4 - (lg_sl ([.ref x, .int i, .int j, .int v])).length) Slot.unset).toArray = ls at hl ⊢
  have hl : lv_has ls 4 [(0, .ref x), (1, .int i), (2, .int j), (3, .int v)] := hl
  refine lv_aload_n hx hb d_PC_best_0 rfl (lv_at hl 0 rfl) ?_
  refine lv_iload_n hx hb d_PC_best_1 rfl (lv_at hl 1 rfl) ?_
  refine lv_iload_n hx hb d_PC_best_2 rfl (lv_at hl 2 rfl) ?_
  refine lv_iload_n hx hb d_PC_best_3 rfl (lv_at hl 3 rfl) ?_
  have hPc := hP.sub (ws' := [(x, .inr (0, [.ref f0, .ref a0, .ref r0, .ref w0, .ref g0, .ref k0, .int tm, .int gp, .int lk])), (f0, .inr (1, [.int (nI nn), .ref f1, .ref f2, .ref f3, .ref f4]))]) [0, 12] rfl
  have hDc := hD.sub (ws' := [(x, .inr (0, [.ref f0, .ref a0, .ref r0, .ref w0, .ref g0, .ref k0, .int tm, .int gp, .int lk])), (f0, .inr (1, [.int (nI nn), .ref f1, .ref f2, .ref f3, .ref f4]))]) [0, 12] (by decide +kernel) rfl
  refine vp_callSi (va_Run.run (va_runV (As := [.int i, .int j, .int v]) (rest := []) ⟨hx, hb, hml, hown, hts⟩ (e_PC_mayAskWay l D cI cZ x i j v f0 a0 r0 w0 g0 k0 tm gp lk nn f1 f2 f3 f4 s.heap.size h_nn) (my_cwV 3 hts q_384 q_381 q_383 q_p0 q_1 rfl rfl (by decide +kernel) ⟨Nat.le_of_ble_eq_true rfl, Nat.le_of_ble_eq_true rfl⟩) (my_preV hPc hDc hK hN 0 0 rfl rfl) rfl rfl hl.1 rfl (lv_room (Nat.le_of_ble_eq_true rfl)) d_PC_best_4 ⟨Nat.le_of_ble_eq_true rfl, Nat.le_of_ble_eq_true rfl⟩)) (fun r_1 hw_1 => ?_)
  rcases hw_1 with ⟨hg_2, rfl⟩ | ⟨a_3, b_4, hg_5, hg_6, hg_7, hg_8, hg_9, hg_10, rfl⟩
  · have hg_2 : badWay nn i j v := hg_2
    refine lv_if_ne (tgt := 13) hx hb d_PC_best_7 (by decide) (fun h => absurd h (by decide)) (fun _ => ?_)
    refine lv_bipush (v := (-2)) hx hb d_PC_best_10 (by decide) ?_
    have hP9 := hP.sub (ws' := [(x, .inr (0, [.ref f0, .ref a0, .ref r0, .ref w0, .ref g0, .ref k0, .int tm, .int gp, .int lk])), (w0, .inr (4, [.int wst, .int wbc, .ref w1, .ref w2, .ref w5, .ref w8])), (w1, .inl (cZ, 7, .inl WM)), (w2, .inr (6, [.int wbl, .ref w3, .ref w4])), (w3, .inl (cI, 7, .inl (fun zy => nI (BKP zy)))), (w4, .inl (cI, 7, .inl (fun zy => nI (BKF zy)))), (w5, .inr (6, [.int wtl, .ref w6, .ref w7])), (w6, .inl (cI, 7, .inl (fun zy => nI (TUP zy)))), (w7, .inl (cI, 7, .inl (fun zy => nI (TUF zy)))), (w8, .inr (6, [.int (nI bl), .ref w9, .ref w10])), (w9, .inl (cI, 7, .inl (fun zy => nI (BEP zy)))), (w10, .inl (cI, 7, .inl (fun zy => nI (BEF zy)))), (f0, .inr (1, [.int (nI nn), .ref f1, .ref f2, .ref f3, .ref f4])), (f2, .inl (cI, 7, .inl FB)), (f3, .inl (cI, 7, .inl FR)), (a0, .inr (2, [.int (nI np), .ref a1, .ref a2, .ref a3, .ref a4, .ref a5, .ref a6, .ref a7, .ref a8, .ref a9, .ref a10, .ref a11])), (a1, .inl (cI, 24, .inl (fun zy => nI (EP zy)))), (a2, .inl (cI, 24, .inl SI)), (a6, .inl (cI, 12, .inl PH)), (k0, .inr (6, [.int (nI kl), .ref k1, .ref k2])), (k1, .inl (cI, 7, .inl (fun zy => nI (KP zy)))), (k2, .inl (cI, 7, .inl (fun zy => nI (KF zy))))]) [0, 1, 2, 3, 4, 5, 6, 7, 8, 9, 10, 11, 12, 13, 14, 15, 16, 17, 18, 19, 20, 21] rfl
    have hD9 := hD.sub (ws' := [(x, .inr (0, [.ref f0, .ref a0, .ref r0, .ref w0, .ref g0, .ref k0, .int tm, .int gp, .int lk])), (w0, .inr (4, [.int wst, .int wbc, .ref w1, .ref w2, .ref w5, .ref w8])), (w1, .inl (cZ, 7, .inl WM)), (w2, .inr (6, [.int wbl, .ref w3, .ref w4])), (w3, .inl (cI, 7, .inl (fun zy => nI (BKP zy)))), (w4, .inl (cI, 7, .inl (fun zy => nI (BKF zy)))), (w5, .inr (6, [.int wtl, .ref w6, .ref w7])), (w6, .inl (cI, 7, .inl (fun zy => nI (TUP zy)))), (w7, .inl (cI, 7, .inl (fun zy => nI (TUF zy)))), (w8, .inr (6, [.int (nI bl), .ref w9, .ref w10])), (w9, .inl (cI, 7, .inl (fun zy => nI (BEP zy)))), (w10, .inl (cI, 7, .inl (fun zy => nI (BEF zy)))), (f0, .inr (1, [.int (nI nn), .ref f1, .ref f2, .ref f3, .ref f4])), (f2, .inl (cI, 7, .inl FB)), (f3, .inl (cI, 7, .inl FR)), (a0, .inr (2, [.int (nI np), .ref a1, .ref a2, .ref a3, .ref a4, .ref a5, .ref a6, .ref a7, .ref a8, .ref a9, .ref a10, .ref a11])), (a1, .inl (cI, 24, .inl (fun zy => nI (EP zy)))), (a2, .inl (cI, 24, .inl SI)), (a6, .inl (cI, 12, .inl PH)), (k0, .inr (6, [.int (nI kl), .ref k1, .ref k2])), (k1, .inl (cI, 7, .inl (fun zy => nI (KP zy)))), (k2, .inl (cI, 7, .inl (fun zy => nI (KF zy))))]) [0, 1, 2, 3, 4, 5, 6, 7, 8, 9, 10, 11, 12, 13, 14, 15, 16, 17, 18, 19, 20, 21] (by decide +kernel) rfl
    refine W.widen (k := 0) (n := 0) (Nat.le_of_ble_eq_true rfl) (Nat.le_of_ble_eq_true rfl) ?_
    exact W.iret (v := (-2)) hx hb hr (fun tT ht hW => ⟨⟨(-2), (wst, wbc, wbl, wtl, bl, kl, WM, BKP, BKF, TUP, TUF, BEP, BEF, KP, KF), rfl, ⟨h_bl, h_kl, h_BKP, h_BKF, h_TUP, h_TUF, h_BEP, h_BEF, h_KP, h_KF, Or.inl (⟨hg_2, rfl, rfl, rfl, rfl⟩)⟩, by rw [ht]; exact hP9, hD9⟩, hS.F ht⟩) hS.2.2 d_PC_best_12
  · have hg_5 : ¬ badWay nn i j v := hg_5
    have hg_6 : i = nI a_3 := hg_6
    have hg_7 : j = nI b_4 := hg_7
    have hg_8 : a_3 < nn := hg_8
    have hg_9 : b_4 < nn := hg_9
    have hg_10 : ¬ a_3 = b_4 := hg_10
    subst hg_6
    subst hg_7
    refine lv_if_ne (tgt := 13) hx hb d_PC_best_7 (by decide) (fun _ => ?_) (fun h => absurd h (by decide))
    refine lv_aload_n hx hb d_PC_best_13 rfl (lv_at hl 0 rfl) ?_
    refine lv_iload_n hx hb d_PC_best_14 rfl (lv_at hl 1 rfl) ?_
    refine lv_iload_n hx hb d_PC_best_15 rfl (lv_at hl 2 rfl) ?_
    refine lv_iload_n hx hb d_PC_best_16 rfl (lv_at hl 3 rfl) ?_
    have hPc := hP.sub (ws' := [(x, .inr (0, [.ref f0, .ref a0, .ref r0, .ref w0, .ref g0, .ref k0, .int tm, .int gp, .int lk])), (w0, .inr (4, [.int wst, .int wbc, .ref w1, .ref w2, .ref w5, .ref w8])), (w1, .inl (cZ, 7, .inl WM)), (w2, .inr (6, [.int wbl, .ref w3, .ref w4])), (w3, .inl (cI, 7, .inl (fun zy => nI (BKP zy)))), (w4, .inl (cI, 7, .inl (fun zy => nI (BKF zy)))), (w5, .inr (6, [.int wtl, .ref w6, .ref w7])), (w6, .inl (cI, 7, .inl (fun zy => nI (TUP zy)))), (w7, .inl (cI, 7, .inl (fun zy => nI (TUF zy)))), (w8, .inr (6, [.int (nI bl), .ref w9, .ref w10])), (w9, .inl (cI, 7, .inl (fun zy => nI (BEP zy)))), (w10, .inl (cI, 7, .inl (fun zy => nI (BEF zy)))), (f0, .inr (1, [.int (nI nn), .ref f1, .ref f2, .ref f3, .ref f4])), (f2, .inl (cI, 7, .inl FB)), (f3, .inl (cI, 7, .inl FR)), (a0, .inr (2, [.int (nI np), .ref a1, .ref a2, .ref a3, .ref a4, .ref a5, .ref a6, .ref a7, .ref a8, .ref a9, .ref a10, .ref a11])), (a1, .inl (cI, 24, .inl (fun zy => nI (EP zy)))), (a2, .inl (cI, 24, .inl SI)), (a6, .inl (cI, 12, .inl PH))]) [0, 1, 2, 3, 4, 5, 6, 7, 8, 9, 10, 11, 12, 13, 14, 15, 16, 17, 18] rfl
    have hDc := hD.sub (ws' := [(x, .inr (0, [.ref f0, .ref a0, .ref r0, .ref w0, .ref g0, .ref k0, .int tm, .int gp, .int lk])), (w0, .inr (4, [.int wst, .int wbc, .ref w1, .ref w2, .ref w5, .ref w8])), (w1, .inl (cZ, 7, .inl WM)), (w2, .inr (6, [.int wbl, .ref w3, .ref w4])), (w3, .inl (cI, 7, .inl (fun zy => nI (BKP zy)))), (w4, .inl (cI, 7, .inl (fun zy => nI (BKF zy)))), (w5, .inr (6, [.int wtl, .ref w6, .ref w7])), (w6, .inl (cI, 7, .inl (fun zy => nI (TUP zy)))), (w7, .inl (cI, 7, .inl (fun zy => nI (TUF zy)))), (w8, .inr (6, [.int (nI bl), .ref w9, .ref w10])), (w9, .inl (cI, 7, .inl (fun zy => nI (BEP zy)))), (w10, .inl (cI, 7, .inl (fun zy => nI (BEF zy)))), (f0, .inr (1, [.int (nI nn), .ref f1, .ref f2, .ref f3, .ref f4])), (f2, .inl (cI, 7, .inl FB)), (f3, .inl (cI, 7, .inl FR)), (a0, .inr (2, [.int (nI np), .ref a1, .ref a2, .ref a3, .ref a4, .ref a5, .ref a6, .ref a7, .ref a8, .ref a9, .ref a10, .ref a11])), (a1, .inl (cI, 24, .inl (fun zy => nI (EP zy)))), (a2, .inl (cI, 24, .inl SI)), (a6, .inl (cI, 12, .inl PH))]) [0, 1, 2, 3, 4, 5, 6, 7, 8, 9, 10, 11, 12, 13, 14, 15, 16, 17, 18] (by decide +kernel) rfl
    have hFc := va_free (wc := [(x, .inr (0, [.ref f0, .ref a0, .ref r0, .ref w0, .ref g0, .ref k0, .int tm, .int gp, .int lk])), (w0, .inr (4, [.int wst, .int wbc, .ref w1, .ref w2, .ref w5, .ref w8])), (w1, .inl (cZ, 7, .inl WM)), (w2, .inr (6, [.int wbl, .ref w3, .ref w4])), (w3, .inl (cI, 7, .inl (fun zy => nI (BKP zy)))), (w4, .inl (cI, 7, .inl (fun zy => nI (BKF zy)))), (w5, .inr (6, [.int wtl, .ref w6, .ref w7])), (w6, .inl (cI, 7, .inl (fun zy => nI (TUP zy)))), (w7, .inl (cI, 7, .inl (fun zy => nI (TUF zy)))), (w8, .inr (6, [.int (nI bl), .ref w9, .ref w10])), (w9, .inl (cI, 7, .inl (fun zy => nI (BEP zy)))), (w10, .inl (cI, 7, .inl (fun zy => nI (BEF zy)))), (f0, .inr (1, [.int (nI nn), .ref f1, .ref f2, .ref f3, .ref f4])), (f2, .inl (cI, 7, .inl FB)), (f3, .inl (cI, 7, .inl FR)), (a0, .inr (2, [.int (nI np), .ref a1, .ref a2, .ref a3, .ref a4, .ref a5, .ref a6, .ref a7, .ref a8, .ref a9, .ref a10, .ref a11])), (a1, .inl (cI, 24, .inl (fun zy => nI (EP zy)))), (a2, .inl (cI, 24, .inl SI)), (a6, .inl (cI, 12, .inl PH))]) hD hS hA [0, 1, 2, 3, 4, 5, 6, 7, 8, 9, 10, 11, 12, 13, 14, 15, 16, 17, 18] rfl
    refine va_calli (va_runV (As := [.int (nI a_3), .int (nI b_4), .int v]) (rest := []) ⟨hx, hb, hml, hown, hts⟩ (e_PC_findWay l D cI cZ x a_3 b_4 v f0 a0 r0 w0 g0 k0 tm gp lk wst wbc w1 w2 w5 w8 WM wbl w3 w4 BKP BKF wtl w6 w7 TUP TUF bl w9 w10 BEP BEF nn f1 f2 f3 f4 FB FR np a1 a2 a3 a4 a5 a6 a7 a8 a9 a10 a11 EP SI PH s.heap.size h_BKP h_BKF h_TUP h_TUF h_bl h_BEP h_BEF h_nn h_np h_EP (by first | omega | (dsimp only; omega)) (by first | omega | (dsimp only; omega)) hg_10 hne) (my_cwV 3 hts q_388 q_385 q_387 q_p1 q_1 rfl rfl (by decide +kernel) ⟨Nat.le_of_ble_eq_true rfl, Nat.le_of_ble_eq_true rfl⟩) (my_preV hPc hDc hK hN 0 0 rfl rfl) rfl rfl hl.1 rfl (lv_room (Nat.le_of_ble_eq_true rfl)) d_PC_best_17 ⟨Nat.le_of_ble_eq_true rfl, Nat.le_of_ble_eq_true rfl⟩) hS (fun q _ h => hFc q h) hFc (fun r_13 uU tT H_14 locs ht hvm hw_13 hB hz1 hk1 hS => ?_)
    obtain ⟨wst_15, wbc_16, wbl_17, wtl_18, bl_19, WM_20, BKP_21, BKF_22, TUP_23, TUF_24, BEP_25, BEF_26⟩ := uU
    obtain ⟨hP1, hD1⟩ := hB
    rw [ht] at hP1
    obtain ⟨hP, hD⟩ := va_join (wr := [(k0, .inr (6, [.int (nI kl), .ref k1, .ref k2])), (k1, .inl (cI, 7, .inl (fun zy => nI (KP zy)))), (k2, .inl (cI, 7, .inl (fun zy => nI (KF zy))))]) (w1 := [(x, .inr (0, [.ref f0, .ref a0, .ref r0, .ref w0, .ref g0, .ref k0, .int tm, .int gp, .int lk])), (w0, .inr (4, [.int wst_15, .int wbc_16, .ref w1, .ref w2, .ref w5, .ref w8])), (w1, .inl (cZ, 7, .inl WM_20)), (w2, .inr (6, [.int wbl_17, .ref w3, .ref w4])), (w3, .inl (cI, 7, .inl (fun zy => nI (BKP_21 zy)))), (w4, .inl (cI, 7, .inl (fun zy => nI (BKF_22 zy)))), (w5, .inr (6, [.int wtl_18, .ref w6, .ref w7])), (w6, .inl (cI, 7, .inl (fun zy => nI (TUP_23 zy)))), (w7, .inl (cI, 7, .inl (fun zy => nI (TUF_24 zy)))), (w8, .inr (6, [.int (nI bl_19), .ref w9, .ref w10])), (w9, .inl (cI, 7, .inl (fun zy => nI (BEP_25 zy)))), (w10, .inl (cI, 7, .inl (fun zy => nI (BEF_26 zy)))), (f0, .inr (1, [.int (nI nn), .ref f1, .ref f2, .ref f3, .ref f4])), (f2, .inl (cI, 7, .inl FB)), (f3, .inl (cI, 7, .inl FR)), (a0, .inr (2, [.int (nI np), .ref a1, .ref a2, .ref a3, .ref a4, .ref a5, .ref a6, .ref a7, .ref a8, .ref a9, .ref a10, .ref a11])), (a1, .inl (cI, 24, .inl (fun zy => nI (EP zy)))), (a2, .inl (cI, 24, .inl SI)), (a6, .inl (cI, 12, .inl PH))]) hP hD [0, 1, 2, 3, 4, 5, 6, 7, 8, 9, 10, 11, 12, 13, 14, 15, 16, 17, 18] [19, 20, 21] rfl rfl (by decide +kernel) (by decide +kernel) hk1 hFc hP1 hD1
    have hP : va_P D vwCl [(k0, .inr (6, [.int (nI kl), .ref k1, .ref k2])), (k1, .inl (cI, 7, .inl (fun zy => nI (KP zy)))), (k2, .inl (cI, 7, .inl (fun zy => nI (KF zy)))), (x, .inr (0, [.ref f0, .ref a0, .ref r0, .ref w0, .ref g0, .ref k0, .int tm, .int gp, .int lk])), (w0, .inr (4, [.int wst_15, .int wbc_16, .ref w1, .ref w2, .ref w5, .ref w8])), (w1, .inl (cZ, 7, .inl WM_20)), (w2, .inr (6, [.int wbl_17, .ref w3, .ref w4])), (w3, .inl (cI, 7, .inl (fun zy => nI (BKP_21 zy)))), (w4, .inl (cI, 7, .inl (fun zy => nI (BKF_22 zy)))), (w5, .inr (6, [.int wtl_18, .ref w6, .ref w7])), (w6, .inl (cI, 7, .inl (fun zy => nI (TUP_23 zy)))), (w7, .inl (cI, 7, .inl (fun zy => nI (TUF_24 zy)))), (w8, .inr (6, [.int (nI bl_19), .ref w9, .ref w10])), (w9, .inl (cI, 7, .inl (fun zy => nI (BEP_25 zy)))), (w10, .inl (cI, 7, .inl (fun zy => nI (BEF_26 zy)))), (f0, .inr (1, [.int (nI nn), .ref f1, .ref f2, .ref f3, .ref f4])), (f2, .inl (cI, 7, .inl FB)), (f3, .inl (cI, 7, .inl FR)), (a0, .inr (2, [.int (nI np), .ref a1, .ref a2, .ref a3, .ref a4, .ref a5, .ref a6, .ref a7, .ref a8, .ref a9, .ref a10, .ref a11])), (a1, .inl (cI, 24, .inl (fun zy => nI (EP zy)))), (a2, .inl (cI, 24, .inl SI)), (a6, .inl (cI, 12, .inl PH))] H_14 := hP
    have hw_13 : (bl_19 ≤ 6) ∧ (∀ zz, BKP_21 zz ≤ 11) ∧ (∀ zz, BKF_22 zz ≤ 1) ∧ (∀ zz, TUP_23 zz ≤ 11) ∧ (∀ zz, TUF_24 zz ≤ 1) ∧ (∀ zz, BEP_25 zz ≤ 11) ∧ (∀ zz, BEF_26 zz ≤ 1) ∧ ((bl_19 = 0 ∧ WOK EP PH SI FB FR np a_3 b_4 v bl_19 wbc_16 BEP_25 BEF_26 ∧ WAll EP PH SI FB FR np a_3 b_4 v 0 (fun _ => 0) np bl_19 wbc_16 BEP_25 ∧ r_13 = 0) ∨ (¬ bl_19 = 0 ∧ WOK EP PH SI FB FR np a_3 b_4 v bl_19 wbc_16 BEP_25 BEF_26 ∧ WAll EP PH SI FB FR np a_3 b_4 v 0 (fun _ => 0) np bl_19 wbc_16 BEP_25 ∧ r_13 = 1)) := hw_13
    obtain ⟨hf_26_0, hf_26_1, hf_26_2, hf_26_3, hf_26_4, hf_26_5, hf_26_6, hw_13⟩ := hw_13
    have hf_26_0 : bl_19 ≤ 6 := hf_26_0
    have hf_26_1 : ∀ zz, BKP_21 zz ≤ 11 := hf_26_1
    have hf_26_2 : ∀ zz, BKF_22 zz ≤ 1 := hf_26_2
    have hf_26_3 : ∀ zz, TUP_23 zz ≤ 11 := hf_26_3
    have hf_26_4 : ∀ zz, TUF_24 zz ≤ 1 := hf_26_4
    have hf_26_5 : ∀ zz, BEP_25 zz ≤ 11 := hf_26_5
    have hf_26_6 : ∀ zz, BEF_26 zz ≤ 1 := hf_26_6
    rcases hw_13 with ⟨hg_27, hg_28, hg_29, rfl⟩ | ⟨hg_30, hg_31, hg_32, rfl⟩
    · have hg_27 : bl_19 = 0 := hg_27
      have hg_28 : WOK EP PH SI FB FR np a_3 b_4 v bl_19 wbc_16 BEP_25 BEF_26 := hg_28
      have hg_29 : WAll EP PH SI FB FR np a_3 b_4 v 0 (fun _ => 0) np bl_19 wbc_16 BEP_25 := hg_29
      refine lv_if_ne (tgt := 25) hx hb d_PC_best_20 (by decide) (fun h => absurd h (by decide)) (fun _ => ?_)
      refine lv_iconst (v := (-1)) hx hb d_PC_best_23 (by decide) ?_
      have hP9 := hP.sub (ws' := [(x, .inr (0, [.ref f0, .ref a0, .ref r0, .ref w0, .ref g0, .ref k0, .int tm, .int gp, .int lk])), (w0, .inr (4, [.int wst_15, .int wbc_16, .ref w1, .ref w2, .ref w5, .ref w8])), (w1, .inl (cZ, 7, .inl WM_20)), (w2, .inr (6, [.int wbl_17, .ref w3, .ref w4])), (w3, .inl (cI, 7, .inl (fun zy => nI (BKP_21 zy)))), (w4, .inl (cI, 7, .inl (fun zy => nI (BKF_22 zy)))), (w5, .inr (6, [.int wtl_18, .ref w6, .ref w7])), (w6, .inl (cI, 7, .inl (fun zy => nI (TUP_23 zy)))), (w7, .inl (cI, 7, .inl (fun zy => nI (TUF_24 zy)))), (w8, .inr (6, [.int (nI bl_19), .ref w9, .ref w10])), (w9, .inl (cI, 7, .inl (fun zy => nI (BEP_25 zy)))), (w10, .inl (cI, 7, .inl (fun zy => nI (BEF_26 zy)))), (f0, .inr (1, [.int (nI nn), .ref f1, .ref f2, .ref f3, .ref f4])), (f2, .inl (cI, 7, .inl FB)), (f3, .inl (cI, 7, .inl FR)), (a0, .inr (2, [.int (nI np), .ref a1, .ref a2, .ref a3, .ref a4, .ref a5, .ref a6, .ref a7, .ref a8, .ref a9, .ref a10, .ref a11])), (a1, .inl (cI, 24, .inl (fun zy => nI (EP zy)))), (a2, .inl (cI, 24, .inl SI)), (a6, .inl (cI, 12, .inl PH)), (k0, .inr (6, [.int (nI kl), .ref k1, .ref k2])), (k1, .inl (cI, 7, .inl (fun zy => nI (KP zy)))), (k2, .inl (cI, 7, .inl (fun zy => nI (KF zy))))]) [3, 4, 5, 6, 7, 8, 9, 10, 11, 12, 13, 14, 15, 16, 17, 18, 19, 20, 21, 0, 1, 2] rfl
      have hD9 := hD.sub (ws' := [(x, .inr (0, [.ref f0, .ref a0, .ref r0, .ref w0, .ref g0, .ref k0, .int tm, .int gp, .int lk])), (w0, .inr (4, [.int wst_15, .int wbc_16, .ref w1, .ref w2, .ref w5, .ref w8])), (w1, .inl (cZ, 7, .inl WM_20)), (w2, .inr (6, [.int wbl_17, .ref w3, .ref w4])), (w3, .inl (cI, 7, .inl (fun zy => nI (BKP_21 zy)))), (w4, .inl (cI, 7, .inl (fun zy => nI (BKF_22 zy)))), (w5, .inr (6, [.int wtl_18, .ref w6, .ref w7])), (w6, .inl (cI, 7, .inl (fun zy => nI (TUP_23 zy)))), (w7, .inl (cI, 7, .inl (fun zy => nI (TUF_24 zy)))), (w8, .inr (6, [.int (nI bl_19), .ref w9, .ref w10])), (w9, .inl (cI, 7, .inl (fun zy => nI (BEP_25 zy)))), (w10, .inl (cI, 7, .inl (fun zy => nI (BEF_26 zy)))), (f0, .inr (1, [.int (nI nn), .ref f1, .ref f2, .ref f3, .ref f4])), (f2, .inl (cI, 7, .inl FB)), (f3, .inl (cI, 7, .inl FR)), (a0, .inr (2, [.int (nI np), .ref a1, .ref a2, .ref a3, .ref a4, .ref a5, .ref a6, .ref a7, .ref a8, .ref a9, .ref a10, .ref a11])), (a1, .inl (cI, 24, .inl (fun zy => nI (EP zy)))), (a2, .inl (cI, 24, .inl SI)), (a6, .inl (cI, 12, .inl PH)), (k0, .inr (6, [.int (nI kl), .ref k1, .ref k2])), (k1, .inl (cI, 7, .inl (fun zy => nI (KP zy)))), (k2, .inl (cI, 7, .inl (fun zy => nI (KF zy))))]) [3, 4, 5, 6, 7, 8, 9, 10, 11, 12, 13, 14, 15, 16, 17, 18, 19, 20, 21, 0, 1, 2] (by decide +kernel) rfl
      refine W.widen (k := 0) (n := 0) (Nat.le_of_ble_eq_true rfl) (Nat.le_of_ble_eq_true rfl) ?_
      exact W.iret (v := (-1)) hx hb hr (fun tT ht hW => ⟨⟨(-1), (wst_15, wbc_16, wbl_17, wtl_18, bl_19, kl, WM_20, BKP_21, BKF_22, TUP_23, TUF_24, BEP_25, BEF_26, KP, KF), rfl, ⟨hf_26_0, h_kl, hf_26_1, hf_26_2, hf_26_3, hf_26_4, hf_26_5, hf_26_6, h_KP, h_KF, Or.inr (Or.inl (⟨a_3, b_4, wbc_16, BEP_25, hg_5, hg_6, hg_7, hg_8, hg_9, hg_10, (by have h9 := hg_29; rw [hg_27] at h9; exact h9), rfl, rfl, rfl, rfl⟩))⟩, by rw [ht]; exact hP9, hD9⟩, hS.F ht⟩) hS.2.2 d_PC_best_24
    · have hg_30 : ¬ bl_19 = 0 := hg_30
      have hg_31 : WOK EP PH SI FB FR np a_3 b_4 v bl_19 wbc_16 BEP_25 BEF_26 := hg_31
      have hg_32 : WAll EP PH SI FB FR np a_3 b_4 v 0 (fun _ => 0) np bl_19 wbc_16 BEP_25 := hg_32
      refine lv_if_ne (tgt := 25) hx hb d_PC_best_20 (by decide) (fun _ => ?_) (fun h => absurd h (by decide))
      refine lv_aload_n hx hb d_PC_best_25 rfl (lv_at hl 0 rfl) ?_
      refine va_get (D := D) (ci := 0) (v := .ref k0) (C := R_PC) (T := F_PC) (N := 9) hx hb hts i_PC hown hK hP 3 rfl rfl 5 (by decide) (hts _ q_261) (fun _ h9 => h9) rfl d_PC_best_26 ?_
      refine lv_aload_n hx hb d_PC_best_29 rfl (lv_at hl 0 rfl) ?_
      refine va_get (D := D) (ci := 0) (v := .ref w0) (C := R_PC) (T := F_PC) (N := 9) hx hb hts i_PC hown hK hP 3 rfl rfl 3 (by decide) (hts _ q_259) (fun _ h9 => h9) rfl d_PC_best_30 ?_
      refine va_get (D := D) (ci := 4) (v := .ref w8) (C := R_WS) (T := F_WS) (N := 6) hx hb hts i_WS hown hK hP 4 rfl rfl 5 (by decide) (hts _ q_200) (fun _ h9 => h9) rfl d_PC_best_33 ?_
      have hPc := hP.sub (ws' := [(k0, .inr (6, [.int (nI kl), .ref k1, .ref k2])), (k1, .inl (cI, 7, .inl (fun zy => nI (KP zy)))), (k2, .inl (cI, 7, .inl (fun zy => nI (KF zy)))), (w8, .inr (6, [.int (nI bl_19), .ref w9, .ref w10])), (w9, .inl (cI, 7, .inl (fun zy => nI (BEP_25 zy)))), (w10, .inl (cI, 7, .inl (fun zy => nI (BEF_26 zy))))]) [0, 1, 2, 12, 13, 14] rfl
      have hDc := hD.sub (ws' := [(k0, .inr (6, [.int (nI kl), .ref k1, .ref k2])), (k1, .inl (cI, 7, .inl (fun zy => nI (KP zy)))), (k2, .inl (cI, 7, .inl (fun zy => nI (KF zy)))), (w8, .inr (6, [.int (nI bl_19), .ref w9, .ref w10])), (w9, .inl (cI, 7, .inl (fun zy => nI (BEP_25 zy)))), (w10, .inl (cI, 7, .inl (fun zy => nI (BEF_26 zy))))]) [0, 1, 2, 12, 13, 14] (by decide +kernel) rfl
      have hFc := va_free (wc := [(k0, .inr (6, [.int (nI kl), .ref k1, .ref k2])), (k1, .inl (cI, 7, .inl (fun zy => nI (KP zy)))), (k2, .inl (cI, 7, .inl (fun zy => nI (KF zy)))), (w8, .inr (6, [.int (nI bl_19), .ref w9, .ref w10])), (w9, .inl (cI, 7, .inl (fun zy => nI (BEP_25 zy)))), (w10, .inl (cI, 7, .inl (fun zy => nI (BEF_26 zy))))]) hD hS hA [0, 1, 2, 12, 13, 14] rfl
      refine va_callv (va_runV (As := [.ref w8]) (rest := []) ⟨hx, hb, hml, hown, hts⟩ (e_RO_take l D cI cZ k0 w8 (nI kl) k1 k2 KP KF bl_19 w9 w10 BEP_25 BEF_26 H_14.size (by first | omega | (dsimp only; omega)) hf_26_5 hf_26_6) (my_cwV 1 hts q_420 q_425 q_418 q_419 q_6 rfl rfl (by decide +kernel) ⟨Nat.le_of_ble_eq_true rfl, Nat.le_of_ble_eq_true rfl⟩) (my_preV hPc hDc hK hN 6 0 rfl rfl) rfl rfl hl.1 rfl (lv_room (Nat.le_of_ble_eq_true rfl)) d_PC_best_36 ⟨Nat.le_of_ble_eq_true rfl, Nat.le_of_ble_eq_true rfl⟩) hS (fun q _ h => hFc q h) hFc (fun uU tT H_36 locs ht hvm hw_35 hB hz1 hk1 hS => ?_)
      obtain ⟨hP1, hD1⟩ := hB
      rw [ht] at hP1
      obtain ⟨hP, hD⟩ := va_join (wr := [(x, .inr (0, [.ref f0, .ref a0, .ref r0, .ref w0, .ref g0, .ref k0, .int tm, .int gp, .int lk])), (w0, .inr (4, [.int wst_15, .int wbc_16, .ref w1, .ref w2, .ref w5, .ref w8])), (w1, .inl (cZ, 7, .inl WM_20)), (w2, .inr (6, [.int wbl_17, .ref w3, .ref w4])), (w3, .inl (cI, 7, .inl (fun zy => nI (BKP_21 zy)))), (w4, .inl (cI, 7, .inl (fun zy => nI (BKF_22 zy)))), (w5, .inr (6, [.int wtl_18, .ref w6, .ref w7])), (w6, .inl (cI, 7, .inl (fun zy => nI (TUP_23 zy)))), (w7, .inl (cI, 7, .inl (fun zy => nI (TUF_24 zy)))), (f0, .inr (1, [.int (nI nn), .ref f1, .ref f2, .ref f3, .ref f4])), (f2, .inl (cI, 7, .inl FB)), (f3, .inl (cI, 7, .inl FR)), (a0, .inr (2, [.int (nI np), .ref a1, .ref a2, .ref a3, .ref a4, .ref a5, .ref a6, .ref a7, .ref a8, .ref a9, .ref a10, .ref a11])), (a1, .inl (cI, 24, .inl (fun zy => nI (EP zy)))), (a2, .inl (cI, 24, .inl SI)), (a6, .inl (cI, 12, .inl PH))]) (w1 := [(k0, .inr (6, [.int (nI bl_19), .ref k1, .ref k2])), (k1, .inl (cI, 7, .inl (fun zy => nI ((cpN bl_19 BEP_25 KP) zy)))), (k2, .inl (cI, 7, .inl (fun zy => nI ((cpN bl_19 BEF_26 KF) zy)))), (w8, .inr (6, [.int (nI bl_19), .ref w9, .ref w10])), (w9, .inl (cI, 7, .inl (fun zy => nI (BEP_25 zy)))), (w10, .inl (cI, 7, .inl (fun zy => nI (BEF_26 zy))))]) hP hD [0, 1, 2, 12, 13, 14] [3, 4, 5, 6, 7, 8, 9, 10, 11, 15, 16, 17, 18, 19, 20, 21] rfl rfl (by decide +kernel) (by decide +kernel) hk1 hFc hP1 hD1
      have hP : va_P D vwCl [(x, .inr (0, [.ref f0, .ref a0, .ref r0, .ref w0, .ref g0, .ref k0, .int tm, .int gp, .int lk])), (w0, .inr (4, [.int wst_15, .int wbc_16, .ref w1, .ref w2, .ref w5, .ref w8])), (w1, .inl (cZ, 7, .inl WM_20)), (w2, .inr (6, [.int wbl_17, .ref w3, .ref w4])), (w3, .inl (cI, 7, .inl (fun zy => nI (BKP_21 zy)))), (w4, .inl (cI, 7, .inl (fun zy => nI (BKF_22 zy)))), (w5, .inr (6, [.int wtl_18, .ref w6, .ref w7])), (w6, .inl (cI, 7, .inl (fun zy => nI (TUP_23 zy)))), (w7, .inl (cI, 7, .inl (fun zy => nI (TUF_24 zy)))), (f0, .inr (1, [.int (nI nn), .ref f1, .ref f2, .ref f3, .ref f4])), (f2, .inl (cI, 7, .inl FB)), (f3, .inl (cI, 7, .inl FR)), (a0, .inr (2, [.int (nI np), .ref a1, .ref a2, .ref a3, .ref a4, .ref a5, .ref a6, .ref a7, .ref a8, .ref a9, .ref a10, .ref a11])), (a1, .inl (cI, 24, .inl (fun zy => nI (EP zy)))), (a2, .inl (cI, 24, .inl SI)), (a6, .inl (cI, 12, .inl PH)), (k0, .inr (6, [.int (nI bl_19), .ref k1, .ref k2])), (k1, .inl (cI, 7, .inl (fun zy => nI ((cpN bl_19 BEP_25 KP) zy)))), (k2, .inl (cI, 7, .inl (fun zy => nI ((cpN bl_19 BEF_26 KF) zy)))), (w8, .inr (6, [.int (nI bl_19), .ref w9, .ref w10])), (w9, .inl (cI, 7, .inl (fun zy => nI (BEP_25 zy)))), (w10, .inl (cI, 7, .inl (fun zy => nI (BEF_26 zy))))] H_36 := hP
      refine lv_aload_n hx hb d_PC_best_39 rfl (lv_at hl 0 rfl) ?_
      refine va_get (D := D) (ci := 0) (v := .ref w0) (C := R_PC) (T := F_PC) (N := 9) hx hb hts i_PC hown hK hP 0 rfl rfl 3 (by decide) (hts _ q_259) (fun _ h9 => h9) rfl d_PC_best_40 ?_
      refine va_get (D := D) (ci := 4) (v := .int wbc_16) (C := R_WS) (T := F_WS) (N := 6) hx hb hts i_WS hown hK hP 1 rfl rfl 1 (by decide) (hts _ q_193) (fun _ h9 => h9) rfl d_PC_best_43 ?_
      have hP9 := hP.sub (ws' := [(x, .inr (0, [.ref f0, .ref a0, .ref r0, .ref w0, .ref g0, .ref k0, .int tm, .int gp, .int lk])), (w0, .inr (4, [.int wst_15, .int wbc_16, .ref w1, .ref w2, .ref w5, .ref w8])), (w1, .inl (cZ, 7, .inl WM_20)), (w2, .inr (6, [.int wbl_17, .ref w3, .ref w4])), (w3, .inl (cI, 7, .inl (fun zy => nI (BKP_21 zy)))), (w4, .inl (cI, 7, .inl (fun zy => nI (BKF_22 zy)))), (w5, .inr (6, [.int wtl_18, .ref w6, .ref w7])), (w6, .inl (cI, 7, .inl (fun zy => nI (TUP_23 zy)))), (w7, .inl (cI, 7, .inl (fun zy => nI (TUF_24 zy)))), (w8, .inr (6, [.int (nI bl_19), .ref w9, .ref w10])), (w9, .inl (cI, 7, .inl (fun zy => nI (BEP_25 zy)))), (w10, .inl (cI, 7, .inl (fun zy => nI (BEF_26 zy)))), (f0, .inr (1, [.int (nI nn), .ref f1, .ref f2, .ref f3, .ref f4])), (f2, .inl (cI, 7, .inl FB)), (f3, .inl (cI, 7, .inl FR)), (a0, .inr (2, [.int (nI np), .ref a1, .ref a2, .ref a3, .ref a4, .ref a5, .ref a6, .ref a7, .ref a8, .ref a9, .ref a10, .ref a11])), (a1, .inl (cI, 24, .inl (fun zy => nI (EP zy)))), (a2, .inl (cI, 24, .inl SI)), (a6, .inl (cI, 12, .inl PH)), (k0, .inr (6, [.int (nI bl_19), .ref k1, .ref k2])), (k1, .inl (cI, 7, .inl (fun zy => nI ((cpN bl_19 BEP_25 KP) zy)))), (k2, .inl (cI, 7, .inl (fun zy => nI ((cpN bl_19 BEF_26 KF) zy))))]) [0, 1, 2, 3, 4, 5, 6, 7, 8, 19, 20, 21, 9, 10, 11, 12, 13, 14, 15, 16, 17, 18] rfl
      have hD9 := hD.sub (ws' := [(x, .inr (0, [.ref f0, .ref a0, .ref r0, .ref w0, .ref g0, .ref k0, .int tm, .int gp, .int lk])), (w0, .inr (4, [.int wst_15, .int wbc_16, .ref w1, .ref w2, .ref w5, .ref w8])), (w1, .inl (cZ, 7, .inl WM_20)), (w2, .inr (6, [.int wbl_17, .ref w3, .ref w4])), (w3, .inl (cI, 7, .inl (fun zy => nI (BKP_21 zy)))), (w4, .inl (cI, 7, .inl (fun zy => nI (BKF_22 zy)))), (w5, .inr (6, [.int wtl_18, .ref w6, .ref w7])), (w6, .inl (cI, 7, .inl (fun zy => nI (TUP_23 zy)))), (w7, .inl (cI, 7, .inl (fun zy => nI (TUF_24 zy)))), (w8, .inr (6, [.int (nI bl_19), .ref w9, .ref w10])), (w9, .inl (cI, 7, .inl (fun zy => nI (BEP_25 zy)))), (w10, .inl (cI, 7, .inl (fun zy => nI (BEF_26 zy)))), (f0, .inr (1, [.int (nI nn), .ref f1, .ref f2, .ref f3, .ref f4])), (f2, .inl (cI, 7, .inl FB)), (f3, .inl (cI, 7, .inl FR)), (a0, .inr (2, [.int (nI np), .ref a1, .ref a2, .ref a3, .ref a4, .ref a5, .ref a6, .ref a7, .ref a8, .ref a9, .ref a10, .ref a11])), (a1, .inl (cI, 24, .inl (fun zy => nI (EP zy)))), (a2, .inl (cI, 24, .inl SI)), (a6, .inl (cI, 12, .inl PH)), (k0, .inr (6, [.int (nI bl_19), .ref k1, .ref k2])), (k1, .inl (cI, 7, .inl (fun zy => nI ((cpN bl_19 BEP_25 KP) zy)))), (k2, .inl (cI, 7, .inl (fun zy => nI ((cpN bl_19 BEF_26 KF) zy))))]) [0, 1, 2, 3, 4, 5, 6, 7, 8, 19, 20, 21, 9, 10, 11, 12, 13, 14, 15, 16, 17, 18] (by decide +kernel) rfl
      refine W.widen (k := 0) (n := 0) (Nat.le_of_ble_eq_true rfl) (Nat.le_of_ble_eq_true rfl) ?_
      exact W.iret (v := wbc_16) hx hb hr (fun tT ht hW => ⟨⟨wbc_16, (wst_15, wbc_16, wbl_17, wtl_18, bl_19, bl_19, WM_20, BKP_21, BKF_22, TUP_23, TUF_24, BEP_25, BEF_26, (cpN bl_19 BEP_25 KP), (cpN bl_19 BEF_26 KF)), rfl, ⟨hf_26_0, hf_26_0, hf_26_1, hf_26_2, hf_26_3, hf_26_4, hf_26_5, hf_26_6, (cpN_le hf_26_5 h_KP), (cpN_le hf_26_6 h_KF), Or.inr (Or.inr (⟨wbc_16, a_3, b_4, bl_19, BEP_25, BEF_26, hg_5, hg_6, hg_7, hg_8, hg_9, hg_10, hg_30, hf_26_6, hg_31, hg_32, rfl, rfl, rfl, rfl⟩))⟩, by rw [ht]; exact hP9, hD9⟩, hS.F ht⟩) hS.2.2 d_PC_best_46
