theorem wkn_a {HO : Nat → Nat} {TO LH : Nat → Int32} {q i : Nat} (h : i + 1 = HO q) : ¬ TO q = 0 ↔ wKn HO TO LH q i := by
  unfold wKn
  rw [if_pos h]
theorem wkn_b0 {HO : Nat → Nat} {TO LH : Nat → Int32} {q i : Nat} (h : ¬ i + 1 = HO q) (h2 : ¬ LH (q * 6 + i + 1) = 1) : ¬ (0 : Int32) = 0 ↔ wKn HO TO LH q i := by
  unfold wKn
  rw [if_neg h]
  exact ⟨fun z => absurd rfl z, fun z => absurd z h2⟩
theorem wkn_b1 {HO : Nat → Nat} {TO LH : Nat → Int32} {q i : Nat} (h : ¬ i + 1 = HO q) (h2 : LH (q * 6 + i + 1) = 1) : ¬ (1 : Int32) = 0 ↔ wKn HO TO LH q i := by
  unfold wKn
  rw [if_neg h]
  exact ⟨fun _ => h2, fun _ => by decide⟩
def gOut (h n k : Int32) : Int32 := if h ≤ 0 then (if k = n then 1 else if k = 0 then 2 else 3) else 0
theorem gd_PR_add_0 : (decode prog_4_method_4_code 0 = .ok (.aload_n 0, 1)) ∧ (decode prog_4_method_4_code 1 = .ok (.getfield 9, 3)) ∧ (decode prog_4_method_4_code 4 = .ok (.istore 4, 2)) ∧ (decode prog_4_method_4_code 6 = .ok (.aload_n 0, 1)) ∧ (decode prog_4_method_4_code 7 = .ok (.dup, 1)) ∧ (decode prog_4_method_4_code 8 = .ok (.getfield 9, 3)) ∧ (decode prog_4_method_4_code 11 = .ok (.iconst 1, 1)) ∧ (decode prog_4_method_4_code 12 = .ok (.iadd, 1)) ∧ (decode prog_4_method_4_code 13 = .ok (.putfield 9, 3)) ∧ (decode prog_4_method_4_code 16 = .ok (.aload_n 0, 1)) := by decide +kernel
theorem d_PR_add_0 : decode prog_4_method_4_code 0 = .ok (.aload_n 0, 1) := gd_PR_add_0.1
theorem d_PR_add_1 : decode prog_4_method_4_code 1 = .ok (.getfield 9, 3) := gd_PR_add_0.2.1
theorem d_PR_add_4 : decode prog_4_method_4_code 4 = .ok (.istore 4, 2) := gd_PR_add_0.2.2.1
theorem d_PR_add_6 : decode prog_4_method_4_code 6 = .ok (.aload_n 0, 1) := gd_PR_add_0.2.2.2.1
theorem d_PR_add_7 : decode prog_4_method_4_code 7 = .ok (.dup, 1) := gd_PR_add_0.2.2.2.2.1
theorem d_PR_add_8 : decode prog_4_method_4_code 8 = .ok (.getfield 9, 3) := gd_PR_add_0.2.2.2.2.2.1
theorem d_PR_add_11 : decode prog_4_method_4_code 11 = .ok (.iconst 1, 1) := gd_PR_add_0.2.2.2.2.2.2.1
theorem d_PR_add_12 : decode prog_4_method_4_code 12 = .ok (.iadd, 1) := gd_PR_add_0.2.2.2.2.2.2.2.1
theorem d_PR_add_13 : decode prog_4_method_4_code 13 = .ok (.putfield 9, 3) := gd_PR_add_0.2.2.2.2.2.2.2.2.1
theorem d_PR_add_16 : decode prog_4_method_4_code 16 = .ok (.aload_n 0, 1) := gd_PR_add_0.2.2.2.2.2.2.2.2.2
theorem gd_PR_add_17 : (decode prog_4_method_4_code 17 = .ok (.getfield 18, 3)) ∧ (decode prog_4_method_4_code 20 = .ok (.iload 4, 2)) ∧ (decode prog_4_method_4_code 22 = .ok (.iload_n 1, 1)) ∧ (decode prog_4_method_4_code 23 = .ok (.iastore, 1)) ∧ (decode prog_4_method_4_code 24 = .ok (.aload_n 0, 1)) ∧ (decode prog_4_method_4_code 25 = .ok (.getfield 22, 3)) ∧ (decode prog_4_method_4_code 28 = .ok (.iload 4, 2)) ∧ (decode prog_4_method_4_code 30 = .ok (.iload_n 2, 1)) ∧ (decode prog_4_method_4_code 31 = .ok (.iastore, 1)) ∧ (decode prog_4_method_4_code 32 = .ok (.aload_n 0, 1)) := by decide +kernel
theorem d_PR_add_17 : decode prog_4_method_4_code 17 = .ok (.getfield 18, 3) := gd_PR_add_17.1
theorem d_PR_add_20 : decode prog_4_method_4_code 20 = .ok (.iload 4, 2) := gd_PR_add_17.2.1
theorem d_PR_add_22 : decode prog_4_method_4_code 22 = .ok (.iload_n 1, 1) := gd_PR_add_17.2.2.1
theorem d_PR_add_23 : decode prog_4_method_4_code 23 = .ok (.iastore, 1) := gd_PR_add_17.2.2.2.1
theorem d_PR_add_24 : decode prog_4_method_4_code 24 = .ok (.aload_n 0, 1) := gd_PR_add_17.2.2.2.2.1
theorem d_PR_add_25 : decode prog_4_method_4_code 25 = .ok (.getfield 22, 3) := gd_PR_add_17.2.2.2.2.2.1
theorem d_PR_add_28 : decode prog_4_method_4_code 28 = .ok (.iload 4, 2) := gd_PR_add_17.2.2.2.2.2.2.1
theorem d_PR_add_30 : decode prog_4_method_4_code 30 = .ok (.iload_n 2, 1) := gd_PR_add_17.2.2.2.2.2.2.2.1
theorem d_PR_add_31 : decode prog_4_method_4_code 31 = .ok (.iastore, 1) := gd_PR_add_17.2.2.2.2.2.2.2.2.1
theorem d_PR_add_32 : decode prog_4_method_4_code 32 = .ok (.aload_n 0, 1) := gd_PR_add_17.2.2.2.2.2.2.2.2.2
theorem gd_PR_add_33 : (decode prog_4_method_4_code 33 = .ok (.getfield 25, 3)) ∧ (decode prog_4_method_4_code 36 = .ok (.iload 4, 2)) ∧ (decode prog_4_method_4_code 38 = .ok (.iload_n 3, 1)) ∧ (decode prog_4_method_4_code 39 = .ok (.iastore, 1)) ∧ (decode prog_4_method_4_code 40 = .ok (.aload_n 0, 1)) ∧ (decode prog_4_method_4_code 41 = .ok (.getfield 28, 3)) ∧ (decode prog_4_method_4_code 44 = .ok (.iload 4, 2)) ∧ (decode prog_4_method_4_code 46 = .ok (.iload_n 3, 1)) ∧ (decode prog_4_method_4_code 47 = .ok (.iastore, 1)) ∧ (decode prog_4_method_4_code 48 = .ok (.aload_n 0, 1)) := by decide +kernel
theorem d_PR_add_33 : decode prog_4_method_4_code 33 = .ok (.getfield 25, 3) := gd_PR_add_33.1
theorem d_PR_add_36 : decode prog_4_method_4_code 36 = .ok (.iload 4, 2) := gd_PR_add_33.2.1
theorem d_PR_add_38 : decode prog_4_method_4_code 38 = .ok (.iload_n 3, 1) := gd_PR_add_33.2.2.1
theorem d_PR_add_39 : decode prog_4_method_4_code 39 = .ok (.iastore, 1) := gd_PR_add_33.2.2.2.1
theorem d_PR_add_40 : decode prog_4_method_4_code 40 = .ok (.aload_n 0, 1) := gd_PR_add_33.2.2.2.2.1
theorem d_PR_add_41 : decode prog_4_method_4_code 41 = .ok (.getfield 28, 3) := gd_PR_add_33.2.2.2.2.2.1
theorem d_PR_add_44 : decode prog_4_method_4_code 44 = .ok (.iload 4, 2) := gd_PR_add_33.2.2.2.2.2.2.1
theorem d_PR_add_46 : decode prog_4_method_4_code 46 = .ok (.iload_n 3, 1) := gd_PR_add_33.2.2.2.2.2.2.2.1
theorem d_PR_add_47 : decode prog_4_method_4_code 47 = .ok (.iastore, 1) := gd_PR_add_33.2.2.2.2.2.2.2.2.1
theorem d_PR_add_48 : decode prog_4_method_4_code 48 = .ok (.aload_n 0, 1) := gd_PR_add_33.2.2.2.2.2.2.2.2.2
theorem gd_PR_add_49 : (decode prog_4_method_4_code 49 = .ok (.getfield 31, 3)) ∧ (decode prog_4_method_4_code 52 = .ok (.iload 4, 2)) ∧ (decode prog_4_method_4_code 54 = .ok (.iconst 0, 1)) ∧ (decode prog_4_method_4_code 55 = .ok (.iastore, 1)) ∧ (decode prog_4_method_4_code 56 = .ok (.aload_n 0, 1)) ∧ (decode prog_4_method_4_code 57 = .ok (.getfield 34, 3)) ∧ (decode prog_4_method_4_code 60 = .ok (.iload 4, 2)) ∧ (decode prog_4_method_4_code 62 = .ok (.iconst 0, 1)) ∧ (decode prog_4_method_4_code 63 = .ok (.bastore, 1)) ∧ (decode prog_4_method_4_code 64 = .ok (.aload_n 0, 1)) := by decide +kernel
theorem d_PR_add_49 : decode prog_4_method_4_code 49 = .ok (.getfield 31, 3) := gd_PR_add_49.1
theorem d_PR_add_52 : decode prog_4_method_4_code 52 = .ok (.iload 4, 2) := gd_PR_add_49.2.1
theorem d_PR_add_54 : decode prog_4_method_4_code 54 = .ok (.iconst 0, 1) := gd_PR_add_49.2.2.1
theorem d_PR_add_55 : decode prog_4_method_4_code 55 = .ok (.iastore, 1) := gd_PR_add_49.2.2.2.1
theorem d_PR_add_56 : decode prog_4_method_4_code 56 = .ok (.aload_n 0, 1) := gd_PR_add_49.2.2.2.2.1
theorem d_PR_add_57 : decode prog_4_method_4_code 57 = .ok (.getfield 34, 3) := gd_PR_add_49.2.2.2.2.2.1
theorem d_PR_add_60 : decode prog_4_method_4_code 60 = .ok (.iload 4, 2) := gd_PR_add_49.2.2.2.2.2.2.1
theorem d_PR_add_62 : decode prog_4_method_4_code 62 = .ok (.iconst 0, 1) := gd_PR_add_49.2.2.2.2.2.2.2.1
theorem d_PR_add_63 : decode prog_4_method_4_code 63 = .ok (.bastore, 1) := gd_PR_add_49.2.2.2.2.2.2.2.2.1
theorem d_PR_add_64 : decode prog_4_method_4_code 64 = .ok (.aload_n 0, 1) := gd_PR_add_49.2.2.2.2.2.2.2.2.2
theorem gd_PR_add_65 : (decode prog_4_method_4_code 65 = .ok (.dup, 1)) ∧ (decode prog_4_method_4_code 66 = .ok (.getfield 15, 3)) ∧ (decode prog_4_method_4_code 69 = .ok (.iload_n 3, 1)) ∧ (decode prog_4_method_4_code 70 = .ok (.iadd, 1)) ∧ (decode prog_4_method_4_code 71 = .ok (.putfield 15, 3)) ∧ (decode prog_4_method_4_code 74 = .ok (.iload 4, 2)) ∧ (decode prog_4_method_4_code 76 = .ok (.ireturn, 1)) := by decide +kernel
theorem d_PR_add_65 : decode prog_4_method_4_code 65 = .ok (.dup, 1) := gd_PR_add_65.1
theorem d_PR_add_66 : decode prog_4_method_4_code 66 = .ok (.getfield 15, 3) := gd_PR_add_65.2.1
theorem d_PR_add_69 : decode prog_4_method_4_code 69 = .ok (.iload_n 3, 1) := gd_PR_add_65.2.2.1
theorem d_PR_add_70 : decode prog_4_method_4_code 70 = .ok (.iadd, 1) := gd_PR_add_65.2.2.2.1
theorem d_PR_add_71 : decode prog_4_method_4_code 71 = .ok (.putfield 15, 3) := gd_PR_add_65.2.2.2.2.1
theorem d_PR_add_74 : decode prog_4_method_4_code 74 = .ok (.iload 4, 2) := gd_PR_add_65.2.2.2.2.2.1
theorem d_PR_add_76 : decode prog_4_method_4_code 76 = .ok (.ireturn, 1) := gd_PR_add_65.2.2.2.2.2.2
theorem gd_PR_putLock_0 : (decode prog_4_method_5_code 0 = .ok (.iload_n 1, 1)) ∧ (decode prog_4_method_5_code 1 = .ok (.bipush 6, 2)) ∧ (decode prog_4_method_5_code 3 = .ok (.imul, 1)) ∧ (decode prog_4_method_5_code 4 = .ok (.iload_n 2, 1)) ∧ (decode prog_4_method_5_code 5 = .ok (.iadd, 1)) ∧ (decode prog_4_method_5_code 6 = .ok (.istore 7, 2)) ∧ (decode prog_4_method_5_code 8 = .ok (.aload_n 0, 1)) ∧ (decode prog_4_method_5_code 9 = .ok (.getfield 38, 3)) ∧ (decode prog_4_method_5_code 12 = .ok (.iload 7, 2)) ∧ (decode prog_4_method_5_code 14 = .ok (.iload_n 3, 1)) := by decide +kernel
theorem d_PR_putLock_0 : decode prog_4_method_5_code 0 = .ok (.iload_n 1, 1) := gd_PR_putLock_0.1
theorem d_PR_putLock_1 : decode prog_4_method_5_code 1 = .ok (.bipush 6, 2) := gd_PR_putLock_0.2.1
theorem d_PR_putLock_3 : decode prog_4_method_5_code 3 = .ok (.imul, 1) := gd_PR_putLock_0.2.2.1
theorem d_PR_putLock_4 : decode prog_4_method_5_code 4 = .ok (.iload_n 2, 1) := gd_PR_putLock_0.2.2.2.1
theorem d_PR_putLock_5 : decode prog_4_method_5_code 5 = .ok (.iadd, 1) := gd_PR_putLock_0.2.2.2.2.1
theorem d_PR_putLock_6 : decode prog_4_method_5_code 6 = .ok (.istore 7, 2) := gd_PR_putLock_0.2.2.2.2.2.1
theorem d_PR_putLock_8 : decode prog_4_method_5_code 8 = .ok (.aload_n 0, 1) := gd_PR_putLock_0.2.2.2.2.2.2.1
theorem d_PR_putLock_9 : decode prog_4_method_5_code 9 = .ok (.getfield 38, 3) := gd_PR_putLock_0.2.2.2.2.2.2.2.1
theorem d_PR_putLock_12 : decode prog_4_method_5_code 12 = .ok (.iload 7, 2) := gd_PR_putLock_0.2.2.2.2.2.2.2.2.1
theorem d_PR_putLock_14 : decode prog_4_method_5_code 14 = .ok (.iload_n 3, 1) := gd_PR_putLock_0.2.2.2.2.2.2.2.2.2
theorem gd_PR_putLock_15 : (decode prog_4_method_5_code 15 = .ok (.iastore, 1)) ∧ (decode prog_4_method_5_code 16 = .ok (.aload_n 0, 1)) ∧ (decode prog_4_method_5_code 17 = .ok (.getfield 41, 3)) ∧ (decode prog_4_method_5_code 20 = .ok (.iload 7, 2)) ∧ (decode prog_4_method_5_code 22 = .ok (.iload 4, 2)) ∧ (decode prog_4_method_5_code 24 = .ok (.iastore, 1)) ∧ (decode prog_4_method_5_code 25 = .ok (.aload_n 0, 1)) ∧ (decode prog_4_method_5_code 26 = .ok (.getfield 44, 3)) ∧ (decode prog_4_method_5_code 29 = .ok (.iload 7, 2)) ∧ (decode prog_4_method_5_code 31 = .ok (.iload 5, 2)) := by decide +kernel
theorem d_PR_putLock_15 : decode prog_4_method_5_code 15 = .ok (.iastore, 1) := gd_PR_putLock_15.1
theorem d_PR_putLock_16 : decode prog_4_method_5_code 16 = .ok (.aload_n 0, 1) := gd_PR_putLock_15.2.1
theorem d_PR_putLock_17 : decode prog_4_method_5_code 17 = .ok (.getfield 41, 3) := gd_PR_putLock_15.2.2.1
theorem d_PR_putLock_20 : decode prog_4_method_5_code 20 = .ok (.iload 7, 2) := gd_PR_putLock_15.2.2.2.1
theorem d_PR_putLock_22 : decode prog_4_method_5_code 22 = .ok (.iload 4, 2) := gd_PR_putLock_15.2.2.2.2.1
theorem d_PR_putLock_24 : decode prog_4_method_5_code 24 = .ok (.iastore, 1) := gd_PR_putLock_15.2.2.2.2.2.1
theorem d_PR_putLock_25 : decode prog_4_method_5_code 25 = .ok (.aload_n 0, 1) := gd_PR_putLock_15.2.2.2.2.2.2.1
theorem d_PR_putLock_26 : decode prog_4_method_5_code 26 = .ok (.getfield 44, 3) := gd_PR_putLock_15.2.2.2.2.2.2.2.1
theorem d_PR_putLock_29 : decode prog_4_method_5_code 29 = .ok (.iload 7, 2) := gd_PR_putLock_15.2.2.2.2.2.2.2.2.1
theorem d_PR_putLock_31 : decode prog_4_method_5_code 31 = .ok (.iload 5, 2) := gd_PR_putLock_15.2.2.2.2.2.2.2.2.2
theorem gd_PR_putLock_33 : (decode prog_4_method_5_code 33 = .ok (.iastore, 1)) ∧ (decode prog_4_method_5_code 34 = .ok (.aload_n 0, 1)) ∧ (decode prog_4_method_5_code 35 = .ok (.getfield 47, 3)) ∧ (decode prog_4_method_5_code 38 = .ok (.iload 7, 2)) ∧ (decode prog_4_method_5_code 40 = .ok (.iload 6, 2)) ∧ (decode prog_4_method_5_code 42 = .ok (.iastore, 1)) ∧ (decode prog_4_method_5_code 43 = .ok (.aload_n 0, 1)) ∧ (decode prog_4_method_5_code 44 = .ok (.getfield 50, 3)) ∧ (decode prog_4_method_5_code 47 = .ok (.iload 7, 2)) ∧ (decode prog_4_method_5_code 49 = .ok (.iconst 0, 1)) := by decide +kernel
theorem d_PR_putLock_33 : decode prog_4_method_5_code 33 = .ok (.iastore, 1) := gd_PR_putLock_33.1
theorem d_PR_putLock_34 : decode prog_4_method_5_code 34 = .ok (.aload_n 0, 1) := gd_PR_putLock_33.2.1
theorem d_PR_putLock_35 : decode prog_4_method_5_code 35 = .ok (.getfield 47, 3) := gd_PR_putLock_33.2.2.1
theorem d_PR_putLock_38 : decode prog_4_method_5_code 38 = .ok (.iload 7, 2) := gd_PR_putLock_33.2.2.2.1
theorem d_PR_putLock_40 : decode prog_4_method_5_code 40 = .ok (.iload 6, 2) := gd_PR_putLock_33.2.2.2.2.1
theorem d_PR_putLock_42 : decode prog_4_method_5_code 42 = .ok (.iastore, 1) := gd_PR_putLock_33.2.2.2.2.2.1
theorem d_PR_putLock_43 : decode prog_4_method_5_code 43 = .ok (.aload_n 0, 1) := gd_PR_putLock_33.2.2.2.2.2.2.1
theorem d_PR_putLock_44 : decode prog_4_method_5_code 44 = .ok (.getfield 50, 3) := gd_PR_putLock_33.2.2.2.2.2.2.2.1
theorem d_PR_putLock_47 : decode prog_4_method_5_code 47 = .ok (.iload 7, 2) := gd_PR_putLock_33.2.2.2.2.2.2.2.2.1
theorem d_PR_putLock_49 : decode prog_4_method_5_code 49 = .ok (.iconst 0, 1) := gd_PR_putLock_33.2.2.2.2.2.2.2.2.2
theorem gd_PR_putLock_50 : (decode prog_4_method_5_code 50 = .ok (.iastore, 1)) ∧ (decode prog_4_method_5_code 51 = .ok (.return_, 1)) := by decide +kernel
theorem d_PR_putLock_50 : decode prog_4_method_5_code 50 = .ok (.iastore, 1) := gd_PR_putLock_50.1
theorem d_PR_putLock_51 : decode prog_4_method_5_code 51 = .ok (.return_, 1) := gd_PR_putLock_50.2
theorem gd_PR_outcome_0 : (decode prog_4_method_6_code 0 = .ok (.aload_n 0, 1)) ∧ (decode prog_4_method_6_code 1 = .ok (.getfield 28, 3)) ∧ (decode prog_4_method_6_code 4 = .ok (.iload_n 1, 1)) ∧ (decode prog_4_method_6_code 5 = .ok (.iaload, 1)) ∧ (decode prog_4_method_6_code 6 = .ok (.ifCond .le 5, 3)) ∧ (decode prog_4_method_6_code 11 = .ok (.aload_n 0, 1)) ∧ (decode prog_4_method_6_code 12 = .ok (.getfield 31, 3)) ∧ (decode prog_4_method_6_code 15 = .ok (.iload_n 1, 1)) ∧ (decode prog_4_method_6_code 16 = .ok (.iaload, 1)) ∧ (decode prog_4_method_6_code 17 = .ok (.aload_n 0, 1)) := by decide +kernel
theorem d_PR_outcome_0 : decode prog_4_method_6_code 0 = .ok (.aload_n 0, 1) := gd_PR_outcome_0.1
theorem d_PR_outcome_1 : decode prog_4_method_6_code 1 = .ok (.getfield 28, 3) := gd_PR_outcome_0.2.1
theorem d_PR_outcome_4 : decode prog_4_method_6_code 4 = .ok (.iload_n 1, 1) := gd_PR_outcome_0.2.2.1
theorem d_PR_outcome_5 : decode prog_4_method_6_code 5 = .ok (.iaload, 1) := gd_PR_outcome_0.2.2.2.1
theorem d_PR_outcome_6 : decode prog_4_method_6_code 6 = .ok (.ifCond .le 5, 3) := gd_PR_outcome_0.2.2.2.2.1
theorem d_PR_outcome_11 : decode prog_4_method_6_code 11 = .ok (.aload_n 0, 1) := gd_PR_outcome_0.2.2.2.2.2.1
theorem d_PR_outcome_12 : decode prog_4_method_6_code 12 = .ok (.getfield 31, 3) := gd_PR_outcome_0.2.2.2.2.2.2.1
theorem d_PR_outcome_15 : decode prog_4_method_6_code 15 = .ok (.iload_n 1, 1) := gd_PR_outcome_0.2.2.2.2.2.2.2.1
theorem d_PR_outcome_16 : decode prog_4_method_6_code 16 = .ok (.iaload, 1) := gd_PR_outcome_0.2.2.2.2.2.2.2.2.1
theorem d_PR_outcome_17 : decode prog_4_method_6_code 17 = .ok (.aload_n 0, 1) := gd_PR_outcome_0.2.2.2.2.2.2.2.2.2
theorem gd_PR_outcome_18 : (decode prog_4_method_6_code 18 = .ok (.getfield 25, 3)) ∧ (decode prog_4_method_6_code 21 = .ok (.iload_n 1, 1)) ∧ (decode prog_4_method_6_code 22 = .ok (.iaload, 1)) ∧ (decode prog_4_method_6_code 23 = .ok (.if_icmp .ne 5, 3)) ∧ (decode prog_4_method_6_code 28 = .ok (.aload_n 0, 1)) ∧ (decode prog_4_method_6_code 29 = .ok (.getfield 31, 3)) ∧ (decode prog_4_method_6_code 32 = .ok (.iload_n 1, 1)) ∧ (decode prog_4_method_6_code 33 = .ok (.iaload, 1)) ∧ (decode prog_4_method_6_code 34 = .ok (.ifCond .ne 7, 3)) ∧ (decode prog_4_method_6_code 41 = .ok (.iconst 3, 1)) := by decide +kernel
theorem d_PR_outcome_18 : decode prog_4_method_6_code 18 = .ok (.getfield 25, 3) := gd_PR_outcome_18.1
theorem d_PR_outcome_21 : decode prog_4_method_6_code 21 = .ok (.iload_n 1, 1) := gd_PR_outcome_18.2.1
theorem d_PR_outcome_22 : decode prog_4_method_6_code 22 = .ok (.iaload, 1) := gd_PR_outcome_18.2.2.1
theorem d_PR_outcome_23 : decode prog_4_method_6_code 23 = .ok (.if_icmp .ne 5, 3) := gd_PR_outcome_18.2.2.2.1
theorem d_PR_outcome_28 : decode prog_4_method_6_code 28 = .ok (.aload_n 0, 1) := gd_PR_outcome_18.2.2.2.2.1
theorem d_PR_outcome_29 : decode prog_4_method_6_code 29 = .ok (.getfield 31, 3) := gd_PR_outcome_18.2.2.2.2.2.1
theorem d_PR_outcome_32 : decode prog_4_method_6_code 32 = .ok (.iload_n 1, 1) := gd_PR_outcome_18.2.2.2.2.2.2.1
theorem d_PR_outcome_33 : decode prog_4_method_6_code 33 = .ok (.iaload, 1) := gd_PR_outcome_18.2.2.2.2.2.2.2.1
theorem d_PR_outcome_34 : decode prog_4_method_6_code 34 = .ok (.ifCond .ne 7, 3) := gd_PR_outcome_18.2.2.2.2.2.2.2.2.1
theorem d_PR_outcome_41 : decode prog_4_method_6_code 41 = .ok (.iconst 3, 1) := gd_PR_outcome_18.2.2.2.2.2.2.2.2.2
theorem gd_PR_outcome_42 : (decode prog_4_method_6_code 42 = .ok (.ireturn, 1)) ∧ (decode prog_4_method_6_code 37 = .ok (.iconst 2, 1)) ∧ (decode prog_4_method_6_code 38 = .ok (.goto 4, 3)) ∧ (decode prog_4_method_6_code 26 = .ok (.iconst 1, 1)) ∧ (decode prog_4_method_6_code 27 = .ok (.ireturn, 1)) ∧ (decode prog_4_method_6_code 9 = .ok (.iconst 0, 1)) ∧ (decode prog_4_method_6_code 10 = .ok (.ireturn, 1)) := by decide +kernel
theorem d_PR_outcome_42 : decode prog_4_method_6_code 42 = .ok (.ireturn, 1) := gd_PR_outcome_42.1
theorem d_PR_outcome_37 : decode prog_4_method_6_code 37 = .ok (.iconst 2, 1) := gd_PR_outcome_42.2.1
theorem d_PR_outcome_38 : decode prog_4_method_6_code 38 = .ok (.goto 4, 3) := gd_PR_outcome_42.2.2.1
theorem d_PR_outcome_26 : decode prog_4_method_6_code 26 = .ok (.iconst 1, 1) := gd_PR_outcome_42.2.2.2.1
theorem d_PR_outcome_27 : decode prog_4_method_6_code 27 = .ok (.ireturn, 1) := gd_PR_outcome_42.2.2.2.2.1
theorem d_PR_outcome_9 : decode prog_4_method_6_code 9 = .ok (.iconst 0, 1) := gd_PR_outcome_42.2.2.2.2.2.1
theorem d_PR_outcome_10 : decode prog_4_method_6_code 10 = .ok (.ireturn, 1) := gd_PR_outcome_42.2.2.2.2.2.2
theorem gd_PR_endLock_0 : (decode prog_4_method_12_code 0 = .ok (.aload_n 0, 1)) ∧ (decode prog_4_method_12_code 1 = .ok (.getfield 50, 3)) ∧ (decode prog_4_method_12_code 4 = .ok (.iload_n 2, 1)) ∧ (decode prog_4_method_12_code 5 = .ok (.iload_n 3, 1)) ∧ (decode prog_4_method_12_code 6 = .ok (.iastore, 1)) ∧ (decode prog_4_method_12_code 7 = .ok (.aload_n 0, 1)) ∧ (decode prog_4_method_12_code 8 = .ok (.getfield 28, 3)) ∧ (decode prog_4_method_12_code 11 = .ok (.iload_n 1, 1)) ∧ (decode prog_4_method_12_code 12 = .ok (.dup2, 1)) ∧ (decode prog_4_method_12_code 13 = .ok (.iaload, 1)) := by decide +kernel
theorem d_PR_endLock_0 : decode prog_4_method_12_code 0 = .ok (.aload_n 0, 1) := gd_PR_endLock_0.1
theorem d_PR_endLock_1 : decode prog_4_method_12_code 1 = .ok (.getfield 50, 3) := gd_PR_endLock_0.2.1
theorem d_PR_endLock_4 : decode prog_4_method_12_code 4 = .ok (.iload_n 2, 1) := gd_PR_endLock_0.2.2.1
theorem d_PR_endLock_5 : decode prog_4_method_12_code 5 = .ok (.iload_n 3, 1) := gd_PR_endLock_0.2.2.2.1
theorem d_PR_endLock_6 : decode prog_4_method_12_code 6 = .ok (.iastore, 1) := gd_PR_endLock_0.2.2.2.2.1
theorem d_PR_endLock_7 : decode prog_4_method_12_code 7 = .ok (.aload_n 0, 1) := gd_PR_endLock_0.2.2.2.2.2.1
theorem d_PR_endLock_8 : decode prog_4_method_12_code 8 = .ok (.getfield 28, 3) := gd_PR_endLock_0.2.2.2.2.2.2.1
theorem d_PR_endLock_11 : decode prog_4_method_12_code 11 = .ok (.iload_n 1, 1) := gd_PR_endLock_0.2.2.2.2.2.2.2.1
theorem d_PR_endLock_12 : decode prog_4_method_12_code 12 = .ok (.dup2, 1) := gd_PR_endLock_0.2.2.2.2.2.2.2.2.1
theorem d_PR_endLock_13 : decode prog_4_method_12_code 13 = .ok (.iaload, 1) := gd_PR_endLock_0.2.2.2.2.2.2.2.2.2
theorem gd_PR_endLock_14 : (decode prog_4_method_12_code 14 = .ok (.iconst 1, 1)) ∧ (decode prog_4_method_12_code 15 = .ok (.isub, 1)) ∧ (decode prog_4_method_12_code 16 = .ok (.iastore, 1)) ∧ (decode prog_4_method_12_code 17 = .ok (.aload_n 0, 1)) ∧ (decode prog_4_method_12_code 18 = .ok (.dup, 1)) ∧ (decode prog_4_method_12_code 19 = .ok (.getfield 15, 3)) ∧ (decode prog_4_method_12_code 22 = .ok (.iconst 1, 1)) ∧ (decode prog_4_method_12_code 23 = .ok (.isub, 1)) ∧ (decode prog_4_method_12_code 24 = .ok (.putfield 15, 3)) ∧ (decode prog_4_method_12_code 27 = .ok (.return_, 1)) := by decide +kernel
theorem d_PR_endLock_14 : decode prog_4_method_12_code 14 = .ok (.iconst 1, 1) := gd_PR_endLock_14.1
theorem d_PR_endLock_15 : decode prog_4_method_12_code 15 = .ok (.isub, 1) := gd_PR_endLock_14.2.1
theorem d_PR_endLock_16 : decode prog_4_method_12_code 16 = .ok (.iastore, 1) := gd_PR_endLock_14.2.2.1
theorem d_PR_endLock_17 : decode prog_4_method_12_code 17 = .ok (.aload_n 0, 1) := gd_PR_endLock_14.2.2.2.1
theorem d_PR_endLock_18 : decode prog_4_method_12_code 18 = .ok (.dup, 1) := gd_PR_endLock_14.2.2.2.2.1
theorem d_PR_endLock_19 : decode prog_4_method_12_code 19 = .ok (.getfield 15, 3) := gd_PR_endLock_14.2.2.2.2.2.1
theorem d_PR_endLock_22 : decode prog_4_method_12_code 22 = .ok (.iconst 1, 1) := gd_PR_endLock_14.2.2.2.2.2.2.1
theorem d_PR_endLock_23 : decode prog_4_method_12_code 23 = .ok (.isub, 1) := gd_PR_endLock_14.2.2.2.2.2.2.2.1
theorem d_PR_endLock_24 : decode prog_4_method_12_code 24 = .ok (.putfield 15, 3) := gd_PR_endLock_14.2.2.2.2.2.2.2.2.1
theorem d_PR_endLock_27 : decode prog_4_method_12_code 27 = .ok (.return_, 1) := gd_PR_endLock_14.2.2.2.2.2.2.2.2.2
theorem gd_PR_isWordKnown_0 : (decode prog_4_method_10_code 0 = .ok (.iload_n 2, 1)) ∧ (decode prog_4_method_10_code 1 = .ok (.aload_n 0, 1)) ∧ (decode prog_4_method_10_code 2 = .ok (.getfield 25, 3)) ∧ (decode prog_4_method_10_code 5 = .ok (.iload_n 1, 1)) ∧ (decode prog_4_method_10_code 6 = .ok (.iaload, 1)) ∧ (decode prog_4_method_10_code 7 = .ok (.iconst 1, 1)) ∧ (decode prog_4_method_10_code 8 = .ok (.isub, 1)) ∧ (decode prog_4_method_10_code 9 = .ok (.if_icmp .ne 10, 3)) ∧ (decode prog_4_method_10_code 19 = .ok (.aload_n 0, 1)) ∧ (decode prog_4_method_10_code 20 = .ok (.getfield 50, 3)) := by decide +kernel
theorem d_PR_isWordKnown_0 : decode prog_4_method_10_code 0 = .ok (.iload_n 2, 1) := gd_PR_isWordKnown_0.1
theorem d_PR_isWordKnown_1 : decode prog_4_method_10_code 1 = .ok (.aload_n 0, 1) := gd_PR_isWordKnown_0.2.1
theorem d_PR_isWordKnown_2 : decode prog_4_method_10_code 2 = .ok (.getfield 25, 3) := gd_PR_isWordKnown_0.2.2.1
theorem d_PR_isWordKnown_5 : decode prog_4_method_10_code 5 = .ok (.iload_n 1, 1) := gd_PR_isWordKnown_0.2.2.2.1
theorem d_PR_isWordKnown_6 : decode prog_4_method_10_code 6 = .ok (.iaload, 1) := gd_PR_isWordKnown_0.2.2.2.2.1
theorem d_PR_isWordKnown_7 : decode prog_4_method_10_code 7 = .ok (.iconst 1, 1) := gd_PR_isWordKnown_0.2.2.2.2.2.1
theorem d_PR_isWordKnown_8 : decode prog_4_method_10_code 8 = .ok (.isub, 1) := gd_PR_isWordKnown_0.2.2.2.2.2.2.1
theorem d_PR_isWordKnown_9 : decode prog_4_method_10_code 9 = .ok (.if_icmp .ne 10, 3) := gd_PR_isWordKnown_0.2.2.2.2.2.2.2.1
theorem d_PR_isWordKnown_19 : decode prog_4_method_10_code 19 = .ok (.aload_n 0, 1) := gd_PR_isWordKnown_0.2.2.2.2.2.2.2.2.1
theorem d_PR_isWordKnown_20 : decode prog_4_method_10_code 20 = .ok (.getfield 50, 3) := gd_PR_isWordKnown_0.2.2.2.2.2.2.2.2.2
theorem gd_PR_isWordKnown_23 : (decode prog_4_method_10_code 23 = .ok (.iload_n 1, 1)) ∧ (decode prog_4_method_10_code 24 = .ok (.bipush 6, 2)) ∧ (decode prog_4_method_10_code 26 = .ok (.imul, 1)) ∧ (decode prog_4_method_10_code 27 = .ok (.iload_n 2, 1)) ∧ (decode prog_4_method_10_code 28 = .ok (.iadd, 1)) ∧ (decode prog_4_method_10_code 29 = .ok (.iconst 1, 1)) ∧ (decode prog_4_method_10_code 30 = .ok (.iadd, 1)) ∧ (decode prog_4_method_10_code 31 = .ok (.iaload, 1)) ∧ (decode prog_4_method_10_code 32 = .ok (.iconst 1, 1)) ∧ (decode prog_4_method_10_code 33 = .ok (.if_icmp .ne 7, 3)) := by decide +kernel
theorem d_PR_isWordKnown_23 : decode prog_4_method_10_code 23 = .ok (.iload_n 1, 1) := gd_PR_isWordKnown_23.1
theorem d_PR_isWordKnown_24 : decode prog_4_method_10_code 24 = .ok (.bipush 6, 2) := gd_PR_isWordKnown_23.2.1
theorem d_PR_isWordKnown_26 : decode prog_4_method_10_code 26 = .ok (.imul, 1) := gd_PR_isWordKnown_23.2.2.1
theorem d_PR_isWordKnown_27 : decode prog_4_method_10_code 27 = .ok (.iload_n 2, 1) := gd_PR_isWordKnown_23.2.2.2.1
theorem d_PR_isWordKnown_28 : decode prog_4_method_10_code 28 = .ok (.iadd, 1) := gd_PR_isWordKnown_23.2.2.2.2.1
theorem d_PR_isWordKnown_29 : decode prog_4_method_10_code 29 = .ok (.iconst 1, 1) := gd_PR_isWordKnown_23.2.2.2.2.2.1
theorem d_PR_isWordKnown_30 : decode prog_4_method_10_code 30 = .ok (.iadd, 1) := gd_PR_isWordKnown_23.2.2.2.2.2.2.1
theorem d_PR_isWordKnown_31 : decode prog_4_method_10_code 31 = .ok (.iaload, 1) := gd_PR_isWordKnown_23.2.2.2.2.2.2.2.1
theorem d_PR_isWordKnown_32 : decode prog_4_method_10_code 32 = .ok (.iconst 1, 1) := gd_PR_isWordKnown_23.2.2.2.2.2.2.2.2.1
theorem d_PR_isWordKnown_33 : decode prog_4_method_10_code 33 = .ok (.if_icmp .ne 7, 3) := gd_PR_isWordKnown_23.2.2.2.2.2.2.2.2.2
theorem gd_PR_isWordKnown_40 : (decode prog_4_method_10_code 40 = .ok (.iconst 0, 1)) ∧ (decode prog_4_method_10_code 41 = .ok (.ireturn, 1)) ∧ (decode prog_4_method_10_code 36 = .ok (.iconst 1, 1)) ∧ (decode prog_4_method_10_code 37 = .ok (.goto 4, 3)) ∧ (decode prog_4_method_10_code 12 = .ok (.aload_n 0, 1)) ∧ (decode prog_4_method_10_code 13 = .ok (.getfield 34, 3)) ∧ (decode prog_4_method_10_code 16 = .ok (.iload_n 1, 1)) ∧ (decode prog_4_method_10_code 17 = .ok (.baload, 1)) ∧ (decode prog_4_method_10_code 18 = .ok (.ireturn, 1)) := by decide +kernel
theorem d_PR_isWordKnown_40 : decode prog_4_method_10_code 40 = .ok (.iconst 0, 1) := gd_PR_isWordKnown_40.1
theorem d_PR_isWordKnown_41 : decode prog_4_method_10_code 41 = .ok (.ireturn, 1) := gd_PR_isWordKnown_40.2.1
theorem d_PR_isWordKnown_36 : decode prog_4_method_10_code 36 = .ok (.iconst 1, 1) := gd_PR_isWordKnown_40.2.2.1
theorem d_PR_isWordKnown_37 : decode prog_4_method_10_code 37 = .ok (.goto 4, 3) := gd_PR_isWordKnown_40.2.2.2.1
theorem d_PR_isWordKnown_12 : decode prog_4_method_10_code 12 = .ok (.aload_n 0, 1) := gd_PR_isWordKnown_40.2.2.2.2.1
theorem d_PR_isWordKnown_13 : decode prog_4_method_10_code 13 = .ok (.getfield 34, 3) := gd_PR_isWordKnown_40.2.2.2.2.2.1
theorem d_PR_isWordKnown_16 : decode prog_4_method_10_code 16 = .ok (.iload_n 1, 1) := gd_PR_isWordKnown_40.2.2.2.2.2.2.1
theorem d_PR_isWordKnown_17 : decode prog_4_method_10_code 17 = .ok (.baload, 1) := gd_PR_isWordKnown_40.2.2.2.2.2.2.2.1
theorem d_PR_isWordKnown_18 : decode prog_4_method_10_code 18 = .ok (.ireturn, 1) := gd_PR_isWordKnown_40.2.2.2.2.2.2.2.2
theorem gd_PR_mayBeKept_0 : (decode prog_4_method_11_code 0 = .ok (.aload_n 2, 1)) ∧ (decode prog_4_method_11_code 1 = .ok (.getfield 81, 3)) ∧ (decode prog_4_method_11_code 4 = .ok (.iconst 2, 1)) ∧ (decode prog_4_method_11_code 5 = .ok (.aload_n 0, 1)) ∧ (decode prog_4_method_11_code 6 = .ok (.getfield 38, 3)) ∧ (decode prog_4_method_11_code 9 = .ok (.iload_n 3, 1)) ∧ (decode prog_4_method_11_code 10 = .ok (.iaload, 1)) ∧ (decode prog_4_method_11_code 11 = .ok (.imul, 1)) ∧ (decode prog_4_method_11_code 12 = .ok (.iconst 1, 1)) ∧ (decode prog_4_method_11_code 13 = .ok (.iadd, 1)) := by decide +kernel
theorem d_PR_mayBeKept_0 : decode prog_4_method_11_code 0 = .ok (.aload_n 2, 1) := gd_PR_mayBeKept_0.1
theorem d_PR_mayBeKept_1 : decode prog_4_method_11_code 1 = .ok (.getfield 81, 3) := gd_PR_mayBeKept_0.2.1
theorem d_PR_mayBeKept_4 : decode prog_4_method_11_code 4 = .ok (.iconst 2, 1) := gd_PR_mayBeKept_0.2.2.1
theorem d_PR_mayBeKept_5 : decode prog_4_method_11_code 5 = .ok (.aload_n 0, 1) := gd_PR_mayBeKept_0.2.2.2.1
theorem d_PR_mayBeKept_6 : decode prog_4_method_11_code 6 = .ok (.getfield 38, 3) := gd_PR_mayBeKept_0.2.2.2.2.1
theorem d_PR_mayBeKept_9 : decode prog_4_method_11_code 9 = .ok (.iload_n 3, 1) := gd_PR_mayBeKept_0.2.2.2.2.2.1
theorem d_PR_mayBeKept_10 : decode prog_4_method_11_code 10 = .ok (.iaload, 1) := gd_PR_mayBeKept_0.2.2.2.2.2.2.1
theorem d_PR_mayBeKept_11 : decode prog_4_method_11_code 11 = .ok (.imul, 1) := gd_PR_mayBeKept_0.2.2.2.2.2.2.2.1
theorem d_PR_mayBeKept_12 : decode prog_4_method_11_code 12 = .ok (.iconst 1, 1) := gd_PR_mayBeKept_0.2.2.2.2.2.2.2.2.1
theorem d_PR_mayBeKept_13 : decode prog_4_method_11_code 13 = .ok (.iadd, 1) := gd_PR_mayBeKept_0.2.2.2.2.2.2.2.2.2
theorem gd_PR_mayBeKept_14 : (decode prog_4_method_11_code 14 = .ok (.aload_n 0, 1)) ∧ (decode prog_4_method_11_code 15 = .ok (.getfield 41, 3)) ∧ (decode prog_4_method_11_code 18 = .ok (.iload_n 3, 1)) ∧ (decode prog_4_method_11_code 19 = .ok (.iaload, 1)) ∧ (decode prog_4_method_11_code 20 = .ok (.isub, 1)) ∧ (decode prog_4_method_11_code 21 = .ok (.iaload, 1)) ∧ (decode prog_4_method_11_code 22 = .ok (.istore 5, 2)) ∧ (decode prog_4_method_11_code 24 = .ok (.aload_n 0, 1)) ∧ (decode prog_4_method_11_code 25 = .ok (.getfield 50, 3)) ∧ (decode prog_4_method_11_code 28 = .ok (.iload_n 3, 1)) := by decide +kernel
theorem d_PR_mayBeKept_14 : decode prog_4_method_11_code 14 = .ok (.aload_n 0, 1) := gd_PR_mayBeKept_14.1
theorem d_PR_mayBeKept_15 : decode prog_4_method_11_code 15 = .ok (.getfield 41, 3) := gd_PR_mayBeKept_14.2.1
theorem d_PR_mayBeKept_18 : decode prog_4_method_11_code 18 = .ok (.iload_n 3, 1) := gd_PR_mayBeKept_14.2.2.1
theorem d_PR_mayBeKept_19 : decode prog_4_method_11_code 19 = .ok (.iaload, 1) := gd_PR_mayBeKept_14.2.2.2.1
theorem d_PR_mayBeKept_20 : decode prog_4_method_11_code 20 = .ok (.isub, 1) := gd_PR_mayBeKept_14.2.2.2.2.1
theorem d_PR_mayBeKept_21 : decode prog_4_method_11_code 21 = .ok (.iaload, 1) := gd_PR_mayBeKept_14.2.2.2.2.2.1
theorem d_PR_mayBeKept_22 : decode prog_4_method_11_code 22 = .ok (.istore 5, 2) := gd_PR_mayBeKept_14.2.2.2.2.2.2.1
theorem d_PR_mayBeKept_24 : decode prog_4_method_11_code 24 = .ok (.aload_n 0, 1) := gd_PR_mayBeKept_14.2.2.2.2.2.2.2.1
theorem d_PR_mayBeKept_25 : decode prog_4_method_11_code 25 = .ok (.getfield 50, 3) := gd_PR_mayBeKept_14.2.2.2.2.2.2.2.2.1
theorem d_PR_mayBeKept_28 : decode prog_4_method_11_code 28 = .ok (.iload_n 3, 1) := gd_PR_mayBeKept_14.2.2.2.2.2.2.2.2.2
theorem gd_PR_mayBeKept_29 : (decode prog_4_method_11_code 29 = .ok (.iaload, 1)) ∧ (decode prog_4_method_11_code 30 = .ok (.ifCond .ne 28, 3)) ∧ (decode prog_4_method_11_code 58 = .ok (.iconst 0, 1)) ∧ (decode prog_4_method_11_code 59 = .ok (.ireturn, 1)) ∧ (decode prog_4_method_11_code 33 = .ok (.aload_n 1, 1)) ∧ (decode prog_4_method_11_code 34 = .ok (.getfield 84, 3)) ∧ (decode prog_4_method_11_code 37 = .ok (.iload 5, 2)) ∧ (decode prog_4_method_11_code 39 = .ok (.baload, 1)) ∧ (decode prog_4_method_11_code 40 = .ok (.ifCond .ne 18, 3)) ∧ (decode prog_4_method_11_code 43 = .ok (.iload 4, 2)) := by decide +kernel
theorem d_PR_mayBeKept_29 : decode prog_4_method_11_code 29 = .ok (.iaload, 1) := gd_PR_mayBeKept_29.1
theorem d_PR_mayBeKept_30 : decode prog_4_method_11_code 30 = .ok (.ifCond .ne 28, 3) := gd_PR_mayBeKept_29.2.1
theorem d_PR_mayBeKept_58 : decode prog_4_method_11_code 58 = .ok (.iconst 0, 1) := gd_PR_mayBeKept_29.2.2.1
theorem d_PR_mayBeKept_59 : decode prog_4_method_11_code 59 = .ok (.ireturn, 1) := gd_PR_mayBeKept_29.2.2.2.1
theorem d_PR_mayBeKept_33 : decode prog_4_method_11_code 33 = .ok (.aload_n 1, 1) := gd_PR_mayBeKept_29.2.2.2.2.1
theorem d_PR_mayBeKept_34 : decode prog_4_method_11_code 34 = .ok (.getfield 84, 3) := gd_PR_mayBeKept_29.2.2.2.2.2.1
theorem d_PR_mayBeKept_37 : decode prog_4_method_11_code 37 = .ok (.iload 5, 2) := gd_PR_mayBeKept_29.2.2.2.2.2.2.1
theorem d_PR_mayBeKept_39 : decode prog_4_method_11_code 39 = .ok (.baload, 1) := gd_PR_mayBeKept_29.2.2.2.2.2.2.2.1
theorem d_PR_mayBeKept_40 : decode prog_4_method_11_code 40 = .ok (.ifCond .ne 18, 3) := gd_PR_mayBeKept_29.2.2.2.2.2.2.2.2.1
theorem d_PR_mayBeKept_43 : decode prog_4_method_11_code 43 = .ok (.iload 4, 2) := gd_PR_mayBeKept_29.2.2.2.2.2.2.2.2.2
theorem gd_PR_mayBeKept_45 : (decode prog_4_method_11_code 45 = .ok (.aload_n 0, 1)) ∧ (decode prog_4_method_11_code 46 = .ok (.getfield 47, 3)) ∧ (decode prog_4_method_11_code 49 = .ok (.iload_n 3, 1)) ∧ (decode prog_4_method_11_code 50 = .ok (.iaload, 1)) ∧ (decode prog_4_method_11_code 51 = .ok (.if_icmp .ge 7, 3)) ∧ (decode prog_4_method_11_code 54 = .ok (.iconst 1, 1)) ∧ (decode prog_4_method_11_code 55 = .ok (.goto 4, 3)) := by decide +kernel
theorem d_PR_mayBeKept_45 : decode prog_4_method_11_code 45 = .ok (.aload_n 0, 1) := gd_PR_mayBeKept_45.1
theorem d_PR_mayBeKept_46 : decode prog_4_method_11_code 46 = .ok (.getfield 47, 3) := gd_PR_mayBeKept_45.2.1
theorem d_PR_mayBeKept_49 : decode prog_4_method_11_code 49 = .ok (.iload_n 3, 1) := gd_PR_mayBeKept_45.2.2.1
theorem d_PR_mayBeKept_50 : decode prog_4_method_11_code 50 = .ok (.iaload, 1) := gd_PR_mayBeKept_45.2.2.2.1
theorem d_PR_mayBeKept_51 : decode prog_4_method_11_code 51 = .ok (.if_icmp .ge 7, 3) := gd_PR_mayBeKept_45.2.2.2.2.1
theorem d_PR_mayBeKept_54 : decode prog_4_method_11_code 54 = .ok (.iconst 1, 1) := gd_PR_mayBeKept_45.2.2.2.2.2.1
theorem d_PR_mayBeKept_55 : decode prog_4_method_11_code 55 = .ok (.goto 4, 3) := gd_PR_mayBeKept_45.2.2.2.2.2.2
set_option maxHeartbeats 4000000 in
set_option maxRecDepth 100000 in
theorem e_PR_begin (l : Launch) (D : va_G) (cI cZ : ClassId) (r0 : Nat) (nq : Nat) (HA : Int32) (r1 : Nat) (r2 : Nat) (r3 : Nat) (r4 : Nat) (r5 : Nat) (r6 : Nat) (r7 : Nat) (r8 : Nat) (r9 : Nat) (r10 : Nat) (r11 : Nat) (sz : Nat) (h_nq : nq ≤ 40) : Met l ⟨"PromiseChains$Promises", "begin", "()V"⟩ (mw ⟨"PromiseChains$Promises", "begin", "()V"⟩ prog_4_method_2_code 1 none) ({ frames := 0, cells := 0, slots := 0, locals := 0 }) (va_Pc [.ref r0] (PB D cI cZ sz [(r0, .inr (3, [.int (nI nq), .int HA, .ref r1, .ref r2, .ref r3, .ref r4, .ref r5, .ref r6, .ref r7, .ref r8, .ref r9, .ref r10, .ref r11]))])) (va_Qv (S := Unit) (fun uU => True) (fun uU tT => BB D (va_A [(r0, .inr (3, [.int (nI nq), .int HA, .ref r1, .ref r2, .ref r3, .ref r4, .ref r5, .ref r6, .ref r7, .ref r8, .ref r9, .ref r10, .ref r11]))] sz) [(r0, .inr (3, [.int 0, .int 0, .ref r1, .ref r2, .ref r3, .ref r4, .ref r5, .ref r6, .ref r7, .ref r8, .ref r9, .ref r10, .ref r11]))] tT) (va_A [(r0, .inr (3, [.int (nI nq), .int HA, .ref r1, .ref r2, .ref r3, .ref r4, .ref r5, .ref r6, .ref r7, .ref r8, .ref r9, .ref r10, .ref r11]))] sz)) 0 0 (va_A [(r0, .inr (3, [.int (nI nq), .int HA, .ref r1, .ref r2, .ref r3, .ref r4, .ref r5, .ref r6, .ref r7, .ref r8, .ref r9, .ref r10, .ref r11]))] sz) := by
  refine Met.ofW (cc := prog_4_method_2_code) (maxL := 1) (ret := none) (by decide) rfl ?_
  intro p e s m args below meth c s₁ B hml hv
  obtain ⟨rfl, hsz, hP, hK, hD0, hN⟩ := hv
  have hx := B.exec
  have hb := B.bytes
  have hr := B.returns
  have hts0 := atoms_spec (ws := mw ⟨"PromiseChains$Promises", "begin", "()V"⟩ prog_4_method_2_code 1 none) B.pre
  have hts : ∀ w ∈ tblG, w.before _ s = true := fun w h => hts0 w (List.mem_cons_of_mem _ h)
  have hown : s.vm.findClass "PromiseChains$Promises" = some m.cls := findClass_of_methodNamed B.named
  have hlocks := B.notSynchronized
  subst hsz
  have hD := hD0.self (sz := s.heap.size)
  generalize hAe : va_A [(r0, .inr (3, [.int (nI nq), .int HA, .ref r1, .ref r2, .ref r3, .ref r4, .ref r5, .ref r6, .ref r7, .ref r8, .ref r9, .ref r10, .ref r11]))] s.heap.size = A at hD ⊢
  have hA : ∀ q : Nat, s.heap.size ≤ q → A q := fun q h => by rw [← hAe]; exact Or.inr h
  have hS : va_S A s.heap s.heap [] := va_S.rf
  have hP : va_P D vwCl [(r0, .inr (3, [.int (nI nq), .int HA, .ref r1, .ref r2, .ref r3, .ref r4, .ref r5, .ref r6, .ref r7, .ref r8, .ref r9, .ref r10, .ref r11]))] s.heap := hP
  have hl := lv_entry ([.ref r0]) (n := 1) (Nat.le_of_ble_eq_true rfl)
  rw [lg_entry_eq]
  generalize (lg_sl ([.ref r0]) ++ List.replicate (1 - (lg_sl ([.ref r0])).length) Slot.unset).toArray = ls at hl ⊢
  have hl : lv_has ls 1 [(0, .ref r0)] := hl
  refine lv_aload_n hx hb d_PR_begin_0 rfl (lv_at hl 0 rfl) ?_
  refine lv_iconst (v := 0) hx hb d_PR_begin_1 (by decide) ?_
  refine va_put (D := D) (ci := 3) (v := .int 0) (ty := .int) (C := R_PR) (T := F_PR) (N := 13) hx hb hts i_PR t_PR t_PR_ok n_PR hown hK hP hD hS 0 rfl rfl 0 (by decide) (hts _ q_110) (fun _ h9 => h9) rfl (by decide +kernel) rfl rfl (Nat.le_of_ble_eq_true rfl) d_PR_begin_2 (fun H_1 locs hP hD hS => ?_)
  have hP : va_P D vwCl [(r0, .inr (3, [.int 0, .int HA, .ref r1, .ref r2, .ref r3, .ref r4, .ref r5, .ref r6, .ref r7, .ref r8, .ref r9, .ref r10, .ref r11]))] H_1 := hP
  refine lv_aload_n hx hb d_PR_begin_5 rfl (lv_at hl 0 rfl) ?_
  refine lv_iconst (v := 0) hx hb d_PR_begin_6 (by decide) ?_
  refine va_put (D := D) (ci := 3) (v := .int 0) (ty := .int) (C := R_PR) (T := F_PR) (N := 13) hx hb hts i_PR t_PR t_PR_ok n_PR hown hK hP hD hS 0 rfl rfl 1 (by decide) (hts _ q_112) (fun _ h9 => h9) rfl (by decide +kernel) rfl rfl (Nat.le_of_ble_eq_true rfl) d_PR_begin_7 (fun H_2 locs hP hD hS => ?_)
  have hP : va_P D vwCl [(r0, .inr (3, [.int 0, .int 0, .ref r1, .ref r2, .ref r3, .ref r4, .ref r5, .ref r6, .ref r7, .ref r8, .ref r9, .ref r10, .ref r11]))] H_2 := hP
  have hP9 := hP.sub (ws' := [(r0, .inr (3, [.int 0, .int 0, .ref r1, .ref r2, .ref r3, .ref r4, .ref r5, .ref r6, .ref r7, .ref r8, .ref r9, .ref r10, .ref r11]))]) [0] rfl
  have hD9 := hD.sub (ws' := [(r0, .inr (3, [.int 0, .int 0, .ref r1, .ref r2, .ref r3, .ref r4, .ref r5, .ref r6, .ref r7, .ref r8, .ref r9, .ref r10, .ref r11]))]) [0] (by decide +kernel) rfl
  refine W.widen (k := 0) (n := 0) (Nat.le_of_ble_eq_true rfl) (Nat.le_of_ble_eq_true rfl) ?_
  exact W.vret hx hb hr (fun tT ht hW => ⟨⟨(), rfl, trivial, by rw [ht]; exact hP9, hD9⟩, hS.F ht⟩) hS.2.2 d_PR_begin_10

set_option maxHeartbeats 4000000 in
set_option maxRecDepth 100000 in
theorem e_PR_add (l : Launch) (D : va_G) (cI cZ : ClassId) (r0 : Nat) (u : Int32) (v : Int32) (ln : Nat) (nq : Nat) (HA : Int32) (r1 : Nat) (r2 : Nat) (r3 : Nat) (r4 : Nat) (r5 : Nat) (r6 : Nat) (r7 : Nat) (r8 : Nat) (r9 : Nat) (r10 : Nat) (r11 : Nat) (PY : Nat → Int32) (PD : Nat → Int32) (HO : Nat → Nat) (HE : Nat → Int32) (KE : Nat → Int32) (TO : Nat → Int32) (sz : Nat) (h_nq : nq ≤ 40) (h_HO : ∀ zz, HO zz ≤ 6) (hnq : nq < 40) (hln : ln ≤ 6) : Met l ⟨"PromiseChains$Promises", "add", "(III)I"⟩ (mw ⟨"PromiseChains$Promises", "add", "(III)I"⟩ prog_4_method_4_code 5 (some .int)) ({ frames := 0, cells := 0, slots := 0, locals := 0 }) (va_Pc [.ref r0, .int u, .int v, .int (nI ln)] (PB D cI cZ sz [(r0, .inr (3, [.int (nI nq), .int HA, .ref r1, .ref r2, .ref r3, .ref r4, .ref r5, .ref r6, .ref r7, .ref r8, .ref r9, .ref r10, .ref r11])), (r1, .inl (cI, 40, .inl PY)), (r2, .inl (cI, 40, .inl PD)), (r3, .inl (cI, 40, .inl (fun zy => nI (HO zy)))), (r4, .inl (cI, 40, .inl HE)), (r5, .inl (cI, 40, .inl KE)), (r6, .inl (cZ, 40, .inl TO))])) (va_Qi (S := Unit) (fun (r : Int32) uU => r = nI nq) (fun uU tT => BB D (va_A [(r0, .inr (3, [.int (nI nq), .int HA, .ref r1, .ref r2, .ref r3, .ref r4, .ref r5, .ref r6, .ref r7, .ref r8, .ref r9, .ref r10, .ref r11])), (r1, .inl (cI, 40, .inl PY)), (r2, .inl (cI, 40, .inl PD)), (r3, .inl (cI, 40, .inl (fun zy => nI (HO zy)))), (r4, .inl (cI, 40, .inl HE)), (r5, .inl (cI, 40, .inl KE)), (r6, .inl (cZ, 40, .inl TO))] sz) [(r0, .inr (3, [.int (nI (nq + 1)), .int (HA + nI ln), .ref r1, .ref r2, .ref r3, .ref r4, .ref r5, .ref r6, .ref r7, .ref r8, .ref r9, .ref r10, .ref r11])), (r1, .inl (cI, 40, .inl (upd PY nq u))), (r2, .inl (cI, 40, .inl (upd PD nq v))), (r3, .inl (cI, 40, .inl (fun zy => nI ((upN HO nq ln) zy)))), (r4, .inl (cI, 40, .inl (upd HE nq (nI ln)))), (r5, .inl (cI, 40, .inl (upd KE nq 0))), (r6, .inl (cZ, 40, .inl (upd TO nq 0)))] tT) (va_A [(r0, .inr (3, [.int (nI nq), .int HA, .ref r1, .ref r2, .ref r3, .ref r4, .ref r5, .ref r6, .ref r7, .ref r8, .ref r9, .ref r10, .ref r11])), (r1, .inl (cI, 40, .inl PY)), (r2, .inl (cI, 40, .inl PD)), (r3, .inl (cI, 40, .inl (fun zy => nI (HO zy)))), (r4, .inl (cI, 40, .inl HE)), (r5, .inl (cI, 40, .inl KE)), (r6, .inl (cZ, 40, .inl TO))] sz)) 0 0 (va_A [(r0, .inr (3, [.int (nI nq), .int HA, .ref r1, .ref r2, .ref r3, .ref r4, .ref r5, .ref r6, .ref r7, .ref r8, .ref r9, .ref r10, .ref r11])), (r1, .inl (cI, 40, .inl PY)), (r2, .inl (cI, 40, .inl PD)), (r3, .inl (cI, 40, .inl (fun zy => nI (HO zy)))), (r4, .inl (cI, 40, .inl HE)), (r5, .inl (cI, 40, .inl KE)), (r6, .inl (cZ, 40, .inl TO))] sz) := by
  refine Met.ofW (cc := prog_4_method_4_code) (maxL := 5) (ret := (some .int)) (by decide) rfl ?_
  intro p e s m args below meth c s₁ B hml hv
  obtain ⟨rfl, hsz, hP, hK, hD0, hN⟩ := hv
  have hx := B.exec
  have hb := B.bytes
  have hr := B.returns
  have hts0 := atoms_spec (ws := mw ⟨"PromiseChains$Promises", "add", "(III)I"⟩ prog_4_method_4_code 5 (some .int)) B.pre
  have hts : ∀ w ∈ tblG, w.before _ s = true := fun w h => hts0 w (List.mem_cons_of_mem _ h)
  have hown : s.vm.findClass "PromiseChains$Promises" = some m.cls := findClass_of_methodNamed B.named
  have hlocks := B.notSynchronized
  subst hsz
  have hD := hD0.self (sz := s.heap.size)
  generalize hAe : va_A [(r0, .inr (3, [.int (nI nq), .int HA, .ref r1, .ref r2, .ref r3, .ref r4, .ref r5, .ref r6, .ref r7, .ref r8, .ref r9, .ref r10, .ref r11])), (r1, .inl (cI, 40, .inl PY)), (r2, .inl (cI, 40, .inl PD)), (r3, .inl (cI, 40, .inl (fun zy => nI (HO zy)))), (r4, .inl (cI, 40, .inl HE)), (r5, .inl (cI, 40, .inl KE)), (r6, .inl (cZ, 40, .inl TO))] s.heap.size = A at hD ⊢
  have hA : ∀ q : Nat, s.heap.size ≤ q → A q := fun q h => by rw [← hAe]; exact Or.inr h
  have hS : va_S A s.heap s.heap [] := va_S.rf
  have hP : va_P D vwCl [(r0, .inr (3, [.int (nI nq), .int HA, .ref r1, .ref r2, .ref r3, .ref r4, .ref r5, .ref r6, .ref r7, .ref r8, .ref r9, .ref r10, .ref r11])), (r1, .inl (cI, 40, .inl PY)), (r2, .inl (cI, 40, .inl PD)), (r3, .inl (cI, 40, .inl (fun zy => nI (HO zy)))), (r4, .inl (cI, 40, .inl HE)), (r5, .inl (cI, 40, .inl KE)), (r6, .inl (cZ, 40, .inl TO))] s.heap := hP
  have hl := lv_entry ([.ref r0, .int u, .int v, .int (nI ln)]) (n := 5) (Nat.le_of_ble_eq_true rfl)
  rw [lg_entry_eq]
  generalize (lg_sl ([.ref r0, .int u, .int v, .int (nI ln)]) ++ List.replicate (5 - (lg_sl ([.ref r0, .int u, .int v, .int (nI ln)])).length) Slot.unset).toArray = ls at hl ⊢
  have hl : lv_has ls 5 [(0, .ref r0), (1, .int u), (2, .int v), (3, .int (nI ln))] := hl
  refine lv_aload_n hx hb d_PR_add_0 rfl (lv_at hl 0 rfl) ?_
  refine va_get (D := D) (ci := 3) (v := .int (nI nq)) (C := R_PR) (T := F_PR) (N := 13) hx hb hts i_PR hown hK hP 0 rfl rfl 0 (by decide) (hts _ q_110) (fun _ h9 => h9) rfl d_PR_add_1 ?_
  refine lv_istore (lv' := [(4, .int (nI nq)), (0, .ref r0), (1, .int u), (2, .int v), (3, .int (nI ln))]) hx hb d_PR_add_4 hl (by decide) rfl (fun ls hl => ?_)
  refine lv_aload_n hx hb d_PR_add_6 rfl (lv_at hl 1 rfl) ?_
  refine lv_dup hx hb d_PR_add_7 rfl ?_
  refine va_get (D := D) (ci := 3) (v := .int (nI nq)) (C := R_PR) (T := F_PR) (N := 13) hx hb hts i_PR hown hK hP 0 rfl rfl 0 (by decide) (hts _ q_110) (fun _ h9 => h9) rfl d_PR_add_8 ?_
  refine lv_iconst (v := 1) hx hb d_PR_add_11 (by decide) ?_
  refine lv_iadd hx hb d_PR_add_12 ?_
  refine lv_seti (nI (nq + 1)) (nI_add nq 1) ?_
  refine va_put (D := D) (ci := 3) (v := .int (nI (nq + 1))) (ty := .int) (C := R_PR) (T := F_PR) (N := 13) hx hb hts i_PR t_PR t_PR_ok n_PR hown hK hP hD hS 0 rfl rfl 0 (by decide) (hts _ q_110) (fun _ h9 => h9) rfl (by decide +kernel) rfl rfl (Nat.le_of_ble_eq_true rfl) d_PR_add_13 (fun H_1 locs hP hD hS => ?_)
  have hP : va_P D vwCl [(r0, .inr (3, [.int (nI (nq + 1)), .int HA, .ref r1, .ref r2, .ref r3, .ref r4, .ref r5, .ref r6, .ref r7, .ref r8, .ref r9, .ref r10, .ref r11])), (r1, .inl (cI, 40, .inl PY)), (r2, .inl (cI, 40, .inl PD)), (r3, .inl (cI, 40, .inl (fun zy => nI (HO zy)))), (r4, .inl (cI, 40, .inl HE)), (r5, .inl (cI, 40, .inl KE)), (r6, .inl (cZ, 40, .inl TO))] H_1 := hP
  refine lv_aload_n hx hb d_PR_add_16 rfl (lv_at hl 1 rfl) ?_
  refine va_get (D := D) (ci := 3) (v := .ref r1) (C := R_PR) (T := F_PR) (N := 13) hx hb hts i_PR hown hK hP 0 rfl rfl 2 (by decide) (hts _ q_114) (fun _ h9 => h9) rfl d_PR_add_17 ?_
  refine lv_iload hx hb d_PR_add_20 (lv_at hl 0 rfl) ?_
  refine lv_iload_n hx hb d_PR_add_22 rfl (lv_at hl 2 rfl) ?_
  refine my_stI hx hb hK hP hD hS 1 rfl nq rfl (by omega) (by decide) d_PR_add_23 (fun H_2 locs hP hD hS => ?_)
  have hP : va_P D vwCl [(r0, .inr (3, [.int (nI (nq + 1)), .int HA, .ref r1, .ref r2, .ref r3, .ref r4, .ref r5, .ref r6, .ref r7, .ref r8, .ref r9, .ref r10, .ref r11])), (r1, .inl (cI, 40, .inl (upd PY nq u))), (r2, .inl (cI, 40, .inl PD)), (r3, .inl (cI, 40, .inl (fun zy => nI (HO zy)))), (r4, .inl (cI, 40, .inl HE)), (r5, .inl (cI, 40, .inl KE)), (r6, .inl (cZ, 40, .inl TO))] H_2 := hP
  refine lv_aload_n hx hb d_PR_add_24 rfl (lv_at hl 1 rfl) ?_
  refine va_get (D := D) (ci := 3) (v := .ref r2) (C := R_PR) (T := F_PR) (N := 13) hx hb hts i_PR hown hK hP 0 rfl rfl 3 (by decide) (hts _ q_116) (fun _ h9 => h9) rfl d_PR_add_25 ?_
  refine lv_iload hx hb d_PR_add_28 (lv_at hl 0 rfl) ?_
  refine lv_iload_n hx hb d_PR_add_30 rfl (lv_at hl 3 rfl) ?_
  refine my_stI hx hb hK hP hD hS 2 rfl nq rfl (by omega) (by decide) d_PR_add_31 (fun H_3 locs hP hD hS => ?_)
  have hP : va_P D vwCl [(r0, .inr (3, [.int (nI (nq + 1)), .int HA, .ref r1, .ref r2, .ref r3, .ref r4, .ref r5, .ref r6, .ref r7, .ref r8, .ref r9, .ref r10, .ref r11])), (r1, .inl (cI, 40, .inl (upd PY nq u))), (r2, .inl (cI, 40, .inl (upd PD nq v))), (r3, .inl (cI, 40, .inl (fun zy => nI (HO zy)))), (r4, .inl (cI, 40, .inl HE)), (r5, .inl (cI, 40, .inl KE)), (r6, .inl (cZ, 40, .inl TO))] H_3 := hP
  refine lv_aload_n hx hb d_PR_add_32 rfl (lv_at hl 1 rfl) ?_
  refine va_get (D := D) (ci := 3) (v := .ref r3) (C := R_PR) (T := F_PR) (N := 13) hx hb hts i_PR hown hK hP 0 rfl rfl 4 (by decide) (hts _ q_118) (fun _ h9 => h9) rfl d_PR_add_33 ?_
  refine lv_iload hx hb d_PR_add_36 (lv_at hl 0 rfl) ?_
  refine lv_iload_n hx hb d_PR_add_38 rfl (lv_at hl 4 rfl) ?_
  refine my_stN hx hb hK hP hD hS 3 rfl nq ln rfl rfl (by omega) (by decide) d_PR_add_39 (fun H_4 locs hP hD hS => ?_)
  have hP : va_P D vwCl [(r0, .inr (3, [.int (nI (nq + 1)), .int HA, .ref r1, .ref r2, .ref r3, .ref r4, .ref r5, .ref r6, .ref r7, .ref r8, .ref r9, .ref r10, .ref r11])), (r1, .inl (cI, 40, .inl (upd PY nq u))), (r2, .inl (cI, 40, .inl (upd PD nq v))), (r3, .inl (cI, 40, .inl (fun zy => nI ((upN HO nq ln) zy)))), (r4, .inl (cI, 40, .inl HE)), (r5, .inl (cI, 40, .inl KE)), (r6, .inl (cZ, 40, .inl TO))] H_4 := hP
  refine lv_aload_n hx hb d_PR_add_40 rfl (lv_at hl 1 rfl) ?_
  refine va_get (D := D) (ci := 3) (v := .ref r4) (C := R_PR) (T := F_PR) (N := 13) hx hb hts i_PR hown hK hP 0 rfl rfl 5 (by decide) (hts _ q_120) (fun _ h9 => h9) rfl d_PR_add_41 ?_
  refine lv_iload hx hb d_PR_add_44 (lv_at hl 0 rfl) ?_
  refine lv_iload_n hx hb d_PR_add_46 rfl (lv_at hl 4 rfl) ?_
  refine my_stI hx hb hK hP hD hS 4 rfl nq rfl (by omega) (by decide) d_PR_add_47 (fun H_5 locs hP hD hS => ?_)
  have hP : va_P D vwCl [(r0, .inr (3, [.int (nI (nq + 1)), .int HA, .ref r1, .ref r2, .ref r3, .ref r4, .ref r5, .ref r6, .ref r7, .ref r8, .ref r9, .ref r10, .ref r11])), (r1, .inl (cI, 40, .inl (upd PY nq u))), (r2, .inl (cI, 40, .inl (upd PD nq v))), (r3, .inl (cI, 40, .inl (fun zy => nI ((upN HO nq ln) zy)))), (r4, .inl (cI, 40, .inl (upd HE nq (nI ln)))), (r5, .inl (cI, 40, .inl KE)), (r6, .inl (cZ, 40, .inl TO))] H_5 := hP
  refine lv_aload_n hx hb d_PR_add_48 rfl (lv_at hl 1 rfl) ?_
  refine va_get (D := D) (ci := 3) (v := .ref r5) (C := R_PR) (T := F_PR) (N := 13) hx hb hts i_PR hown hK hP 0 rfl rfl 6 (by decide) (hts _ q_122) (fun _ h9 => h9) rfl d_PR_add_49 ?_
  refine lv_iload hx hb d_PR_add_52 (lv_at hl 0 rfl) ?_
  refine lv_iconst (v := 0) hx hb d_PR_add_54 (by decide) ?_
  refine my_stI hx hb hK hP hD hS 5 rfl nq rfl (by omega) (by decide) d_PR_add_55 (fun H_6 locs hP hD hS => ?_)
  have hP : va_P D vwCl [(r0, .inr (3, [.int (nI (nq + 1)), .int HA, .ref r1, .ref r2, .ref r3, .ref r4, .ref r5, .ref r6, .ref r7, .ref r8, .ref r9, .ref r10, .ref r11])), (r1, .inl (cI, 40, .inl (upd PY nq u))), (r2, .inl (cI, 40, .inl (upd PD nq v))), (r3, .inl (cI, 40, .inl (fun zy => nI ((upN HO nq ln) zy)))), (r4, .inl (cI, 40, .inl (upd HE nq (nI ln)))), (r5, .inl (cI, 40, .inl (upd KE nq 0))), (r6, .inl (cZ, 40, .inl TO))] H_6 := hP
  refine lv_aload_n hx hb d_PR_add_56 rfl (lv_at hl 1 rfl) ?_
  refine va_get (D := D) (ci := 3) (v := .ref r6) (C := R_PR) (T := F_PR) (N := 13) hx hb hts i_PR hown hK hP 0 rfl rfl 7 (by decide) (hts _ q_124) (fun _ h9 => h9) rfl d_PR_add_57 ?_
  refine lv_iload hx hb d_PR_add_60 (lv_at hl 0 rfl) ?_
  refine lv_iconst (v := 0) hx hb d_PR_add_62 (by decide) ?_
  refine my_stZ hx hb hK hP hD hS 6 rfl nq 0 rfl rfl (by omega) (by decide) d_PR_add_63 (fun H_7 locs hP hD hS => ?_)
  have hP : va_P D vwCl [(r0, .inr (3, [.int (nI (nq + 1)), .int HA, .ref r1, .ref r2, .ref r3, .ref r4, .ref r5, .ref r6, .ref r7, .ref r8, .ref r9, .ref r10, .ref r11])), (r1, .inl (cI, 40, .inl (upd PY nq u))), (r2, .inl (cI, 40, .inl (upd PD nq v))), (r3, .inl (cI, 40, .inl (fun zy => nI ((upN HO nq ln) zy)))), (r4, .inl (cI, 40, .inl (upd HE nq (nI ln)))), (r5, .inl (cI, 40, .inl (upd KE nq 0))), (r6, .inl (cZ, 40, .inl (upd TO nq 0)))] H_7 := hP
  refine lv_aload_n hx hb d_PR_add_64 rfl (lv_at hl 1 rfl) ?_
  refine lv_dup hx hb d_PR_add_65 rfl ?_
  refine va_get (D := D) (ci := 3) (v := .int HA) (C := R_PR) (T := F_PR) (N := 13) hx hb hts i_PR hown hK hP 0 rfl rfl 1 (by decide) (hts _ q_112) (fun _ h9 => h9) rfl d_PR_add_66 ?_
  refine lv_iload_n hx hb d_PR_add_69 rfl (lv_at hl 4 rfl) ?_
  refine lv_iadd hx hb d_PR_add_70 ?_
  refine va_put (D := D) (ci := 3) (v := .int (HA + (nI ln))) (ty := .int) (C := R_PR) (T := F_PR) (N := 13) hx hb hts i_PR t_PR t_PR_ok n_PR hown hK hP hD hS 0 rfl rfl 1 (by decide) (hts _ q_112) (fun _ h9 => h9) rfl (by decide +kernel) rfl rfl (Nat.le_of_ble_eq_true rfl) d_PR_add_71 (fun H_8 locs hP hD hS => ?_)
  have hP : va_P D vwCl [(r0, .inr (3, [.int (nI (nq + 1)), .int (HA + (nI ln)), .ref r1, .ref r2, .ref r3, .ref r4, .ref r5, .ref r6, .ref r7, .ref r8, .ref r9, .ref r10, .ref r11])), (r1, .inl (cI, 40, .inl (upd PY nq u))), (r2, .inl (cI, 40, .inl (upd PD nq v))), (r3, .inl (cI, 40, .inl (fun zy => nI ((upN HO nq ln) zy)))), (r4, .inl (cI, 40, .inl (upd HE nq (nI ln)))), (r5, .inl (cI, 40, .inl (upd KE nq 0))), (r6, .inl (cZ, 40, .inl (upd TO nq 0)))] H_8 := hP
  refine lv_iload hx hb d_PR_add_74 (lv_at hl 0 rfl) ?_
  have hP9 := hP.sub (ws' := [(r0, .inr (3, [.int (nI (nq + 1)), .int (HA + nI ln), .ref r1, .ref r2, .ref r3, .ref r4, .ref r5, .ref r6, .ref r7, .ref r8, .ref r9, .ref r10, .ref r11])), (r1, .inl (cI, 40, .inl (upd PY nq u))), (r2, .inl (cI, 40, .inl (upd PD nq v))), (r3, .inl (cI, 40, .inl (fun zy => nI ((upN HO nq ln) zy)))), (r4, .inl (cI, 40, .inl (upd HE nq (nI ln)))), (r5, .inl (cI, 40, .inl (upd KE nq 0))), (r6, .inl (cZ, 40, .inl (upd TO nq 0)))]) [0, 1, 2, 3, 4, 5, 6] rfl
  have hD9 := hD.sub (ws' := [(r0, .inr (3, [.int (nI (nq + 1)), .int (HA + nI ln), .ref r1, .ref r2, .ref r3, .ref r4, .ref r5, .ref r6, .ref r7, .ref r8, .ref r9, .ref r10, .ref r11])), (r1, .inl (cI, 40, .inl (upd PY nq u))), (r2, .inl (cI, 40, .inl (upd PD nq v))), (r3, .inl (cI, 40, .inl (fun zy => nI ((upN HO nq ln) zy)))), (r4, .inl (cI, 40, .inl (upd HE nq (nI ln)))), (r5, .inl (cI, 40, .inl (upd KE nq 0))), (r6, .inl (cZ, 40, .inl (upd TO nq 0)))]) [0, 1, 2, 3, 4, 5, 6] (by decide +kernel) rfl
  refine W.widen (k := 0) (n := 0) (Nat.le_of_ble_eq_true rfl) (Nat.le_of_ble_eq_true rfl) ?_
  exact W.iret (v := (nI nq)) hx hb hr (fun tT ht hW => ⟨⟨(nI nq), (), rfl, rfl, by rw [ht]; exact hP9, hD9⟩, hS.F ht⟩) hS.2.2 d_PR_add_76

set_option maxHeartbeats 4000000 in
set_option maxRecDepth 100000 in
theorem e_PR_putLock (l : Launch) (D : va_G) (cI cZ : ClassId) (r0 : Nat) (q : Nat) (i : Nat) (j : Nat) (t : Nat) (u : Int32) (v : Int32) (nq : Nat) (HA : Int32) (r1 : Nat) (r2 : Nat) (r3 : Nat) (r4 : Nat) (r5 : Nat) (r6 : Nat) (r7 : Nat) (r8 : Nat) (r9 : Nat) (r10 : Nat) (r11 : Nat) (LP : Nat → Nat) (LF : Nat → Nat) (LS : Nat → Int32) (LC : Nat → Int32) (LH : Nat → Int32) (sz : Nat) (h_nq : nq ≤ 40) (h_LP : ∀ zz, LP zz ≤ 11) (h_LF : ∀ zz, LF zz ≤ 1) (hq : q < 40) (hi : i < 6) (hj : j < 12) (ht : t ≤ 1) : Met l ⟨"PromiseChains$Promises", "putLock", "(IIIIII)V"⟩ (mw ⟨"PromiseChains$Promises", "putLock", "(IIIIII)V"⟩ prog_4_method_5_code 8 none) ({ frames := 0, cells := 0, slots := 0, locals := 0 }) (va_Pc [.ref r0, .int (nI q), .int (nI i), .int (nI j), .int (nI t), .int u, .int v] (PB D cI cZ sz [(r0, .inr (3, [.int (nI nq), .int HA, .ref r1, .ref r2, .ref r3, .ref r4, .ref r5, .ref r6, .ref r7, .ref r8, .ref r9, .ref r10, .ref r11])), (r7, .inl (cI, 240, .inl (fun zy => nI (LP zy)))), (r8, .inl (cI, 240, .inl (fun zy => nI (LF zy)))), (r9, .inl (cI, 240, .inl LS)), (r10, .inl (cI, 240, .inl LC)), (r11, .inl (cI, 240, .inl LH))])) (va_Qv (S := Unit) (fun uU => True) (fun uU tT => BB D (va_A [(r0, .inr (3, [.int (nI nq), .int HA, .ref r1, .ref r2, .ref r3, .ref r4, .ref r5, .ref r6, .ref r7, .ref r8, .ref r9, .ref r10, .ref r11])), (r7, .inl (cI, 240, .inl (fun zy => nI (LP zy)))), (r8, .inl (cI, 240, .inl (fun zy => nI (LF zy)))), (r9, .inl (cI, 240, .inl LS)), (r10, .inl (cI, 240, .inl LC)), (r11, .inl (cI, 240, .inl LH))] sz) [(r0, .inr (3, [.int (nI nq), .int HA, .ref r1, .ref r2, .ref r3, .ref r4, .ref r5, .ref r6, .ref r7, .ref r8, .ref r9, .ref r10, .ref r11])), (r7, .inl (cI, 240, .inl (fun zy => nI ((upN LP (q * 6 + i) j) zy)))), (r8, .inl (cI, 240, .inl (fun zy => nI ((upN LF (q * 6 + i) t) zy)))), (r9, .inl (cI, 240, .inl (upd LS (q * 6 + i) u))), (r10, .inl (cI, 240, .inl (upd LC (q * 6 + i) v))), (r11, .inl (cI, 240, .inl (upd LH (q * 6 + i) 0)))] tT) (va_A [(r0, .inr (3, [.int (nI nq), .int HA, .ref r1, .ref r2, .ref r3, .ref r4, .ref r5, .ref r6, .ref r7, .ref r8, .ref r9, .ref r10, .ref r11])), (r7, .inl (cI, 240, .inl (fun zy => nI (LP zy)))), (r8, .inl (cI, 240, .inl (fun zy => nI (LF zy)))), (r9, .inl (cI, 240, .inl LS)), (r10, .inl (cI, 240, .inl LC)), (r11, .inl (cI, 240, .inl LH))] sz)) 0 0 (va_A [(r0, .inr (3, [.int (nI nq), .int HA, .ref r1, .ref r2, .ref r3, .ref r4, .ref r5, .ref r6, .ref r7, .ref r8, .ref r9, .ref r10, .ref r11])), (r7, .inl (cI, 240, .inl (fun zy => nI (LP zy)))), (r8, .inl (cI, 240, .inl (fun zy => nI (LF zy)))), (r9, .inl (cI, 240, .inl LS)), (r10, .inl (cI, 240, .inl LC)), (r11, .inl (cI, 240, .inl LH))] sz) := by
  refine Met.ofW (cc := prog_4_method_5_code) (maxL := 8) (ret := none) (by decide) rfl ?_
  intro p e s m args below meth c s₁ B hml hv
  obtain ⟨rfl, hsz, hP, hK, hD0, hN⟩ := hv
  have hx := B.exec
  have hb := B.bytes
  have hr := B.returns
  have hts0 := atoms_spec (ws := mw ⟨"PromiseChains$Promises", "putLock", "(IIIIII)V"⟩ prog_4_method_5_code 8 none) B.pre
  have hts : ∀ w ∈ tblG, w.before _ s = true := fun w h => hts0 w (List.mem_cons_of_mem _ h)
  have hown : s.vm.findClass "PromiseChains$Promises" = some m.cls := findClass_of_methodNamed B.named
  have hlocks := B.notSynchronized
  subst hsz
  have hD := hD0.self (sz := s.heap.size)
  generalize hAe : va_A [(r0, .inr (3, [.int (nI nq), .int HA, .ref r1, .ref r2, .ref r3, .ref r4, .ref r5, .ref r6, .ref r7, .ref r8, .ref r9, .ref r10, .ref r11])), (r7, .inl (cI, 240, .inl (fun zy => nI (LP zy)))), (r8, .inl (cI, 240, .inl (fun zy => nI (LF zy)))), (r9, .inl (cI, 240, .inl LS)), (r10, .inl (cI, 240, .inl LC)), (r11, .inl (cI, 240, .inl LH))] s.heap.size = A at hD ⊢
  have hA : ∀ q : Nat, s.heap.size ≤ q → A q := fun q h => by rw [← hAe]; exact Or.inr h
  have hS : va_S A s.heap s.heap [] := va_S.rf
  have hP : va_P D vwCl [(r0, .inr (3, [.int (nI nq), .int HA, .ref r1, .ref r2, .ref r3, .ref r4, .ref r5, .ref r6, .ref r7, .ref r8, .ref r9, .ref r10, .ref r11])), (r7, .inl (cI, 240, .inl (fun zy => nI (LP zy)))), (r8, .inl (cI, 240, .inl (fun zy => nI (LF zy)))), (r9, .inl (cI, 240, .inl LS)), (r10, .inl (cI, 240, .inl LC)), (r11, .inl (cI, 240, .inl LH))] s.heap := hP
  have hl := lv_entry ([.ref r0, .int (nI q), .int (nI i), .int (nI j), .int (nI t), .int u, .int v]) (n := 8) (Nat.le_of_ble_eq_true rfl)
  rw [lg_entry_eq]
  generalize (lg_sl ([.ref r0, .int (nI q), .int (nI i), .int (nI j), .int (nI t), .int u, .int v]) ++ List.replicate (8 - (lg_sl ([.ref r0, .int (nI q), .int (nI i), .int (nI j), .int (nI t), .int u, .int v])).length) Slot.unset).toArray = ls at hl ⊢
  have hl : lv_has ls 8 [(0, .ref r0), (1, .int (nI q)), (2, .int (nI i)), (3, .int (nI j)), (4, .int (nI t)), (5, .int u), (6, .int v)] := hl
  refine lv_iload_n hx hb d_PR_putLock_0 rfl (lv_at hl 1 rfl) ?_
  refine lv_bipush (v := 6) hx hb d_PR_putLock_1 (by decide) ?_
  refine lv_imul hx hb d_PR_putLock_3 ?_
  refine lv_seti (nI (q * 6)) (pk_mul q 6) ?_
  refine lv_iload_n hx hb d_PR_putLock_4 rfl (lv_at hl 2 rfl) ?_
  refine lv_iadd hx hb d_PR_putLock_5 ?_
  refine lv_seti (nI ((q * 6) + i)) (nI_add (q * 6) i) ?_
  refine lv_istore (lv' := [(7, .int (nI ((q * 6) + i))), (0, .ref r0), (1, .int (nI q)), (2, .int (nI i)), (3, .int (nI j)), (4, .int (nI t)), (5, .int u), (6, .int v)]) hx hb d_PR_putLock_6 hl (by decide) rfl (fun ls hl => ?_)
  refine lv_aload_n hx hb d_PR_putLock_8 rfl (lv_at hl 1 rfl) ?_
  refine va_get (D := D) (ci := 3) (v := .ref r7) (C := R_PR) (T := F_PR) (N := 13) hx hb hts i_PR hown hK hP 0 rfl rfl 8 (by decide) (hts _ q_126) (fun _ h9 => h9) rfl d_PR_putLock_9 ?_
  refine lv_iload hx hb d_PR_putLock_12 (lv_at hl 0 rfl) ?_
  refine lv_iload_n hx hb d_PR_putLock_14 rfl (lv_at hl 4 rfl) ?_
  refine my_stN hx hb hK hP hD hS 1 rfl ((q * 6) + i) j rfl rfl (by omega) (by decide) d_PR_putLock_15 (fun H_1 locs hP hD hS => ?_)
  have hP : va_P D vwCl [(r0, .inr (3, [.int (nI nq), .int HA, .ref r1, .ref r2, .ref r3, .ref r4, .ref r5, .ref r6, .ref r7, .ref r8, .ref r9, .ref r10, .ref r11])), (r7, .inl (cI, 240, .inl (fun zy => nI ((upN LP ((q * 6) + i) j) zy)))), (r8, .inl (cI, 240, .inl (fun zy => nI (LF zy)))), (r9, .inl (cI, 240, .inl LS)), (r10, .inl (cI, 240, .inl LC)), (r11, .inl (cI, 240, .inl LH))] H_1 := hP
  refine lv_aload_n hx hb d_PR_putLock_16 rfl (lv_at hl 1 rfl) ?_
  refine va_get (D := D) (ci := 3) (v := .ref r8) (C := R_PR) (T := F_PR) (N := 13) hx hb hts i_PR hown hK hP 0 rfl rfl 9 (by decide) (hts _ q_127) (fun _ h9 => h9) rfl d_PR_putLock_17 ?_
  refine lv_iload hx hb d_PR_putLock_20 (lv_at hl 0 rfl) ?_
  refine lv_iload hx hb d_PR_putLock_22 (lv_at hl 5 rfl) ?_
  refine my_stN hx hb hK hP hD hS 2 rfl ((q * 6) + i) t rfl rfl (by omega) (by decide) d_PR_putLock_24 (fun H_2 locs hP hD hS => ?_)
  have hP : va_P D vwCl [(r0, .inr (3, [.int (nI nq), .int HA, .ref r1, .ref r2, .ref r3, .ref r4, .ref r5, .ref r6, .ref r7, .ref r8, .ref r9, .ref r10, .ref r11])), (r7, .inl (cI, 240, .inl (fun zy => nI ((upN LP ((q * 6) + i) j) zy)))), (r8, .inl (cI, 240, .inl (fun zy => nI ((upN LF ((q * 6) + i) t) zy)))), (r9, .inl (cI, 240, .inl LS)), (r10, .inl (cI, 240, .inl LC)), (r11, .inl (cI, 240, .inl LH))] H_2 := hP
  refine lv_aload_n hx hb d_PR_putLock_25 rfl (lv_at hl 1 rfl) ?_
  refine va_get (D := D) (ci := 3) (v := .ref r9) (C := R_PR) (T := F_PR) (N := 13) hx hb hts i_PR hown hK hP 0 rfl rfl 10 (by decide) (hts _ q_128) (fun _ h9 => h9) rfl d_PR_putLock_26 ?_
  refine lv_iload hx hb d_PR_putLock_29 (lv_at hl 0 rfl) ?_
  refine lv_iload hx hb d_PR_putLock_31 (lv_at hl 6 rfl) ?_
  refine my_stI hx hb hK hP hD hS 3 rfl ((q * 6) + i) rfl (by omega) (by decide) d_PR_putLock_33 (fun H_3 locs hP hD hS => ?_)
  have hP : va_P D vwCl [(r0, .inr (3, [.int (nI nq), .int HA, .ref r1, .ref r2, .ref r3, .ref r4, .ref r5, .ref r6, .ref r7, .ref r8, .ref r9, .ref r10, .ref r11])), (r7, .inl (cI, 240, .inl (fun zy => nI ((upN LP ((q * 6) + i) j) zy)))), (r8, .inl (cI, 240, .inl (fun zy => nI ((upN LF ((q * 6) + i) t) zy)))), (r9, .inl (cI, 240, .inl (upd LS ((q * 6) + i) u))), (r10, .inl (cI, 240, .inl LC)), (r11, .inl (cI, 240, .inl LH))] H_3 := hP
  refine lv_aload_n hx hb d_PR_putLock_34 rfl (lv_at hl 1 rfl) ?_
  refine va_get (D := D) (ci := 3) (v := .ref r10) (C := R_PR) (T := F_PR) (N := 13) hx hb hts i_PR hown hK hP 0 rfl rfl 11 (by decide) (hts _ q_130) (fun _ h9 => h9) rfl d_PR_putLock_35 ?_
  refine lv_iload hx hb d_PR_putLock_38 (lv_at hl 0 rfl) ?_
  refine lv_iload hx hb d_PR_putLock_40 (lv_at hl 7 rfl) ?_
  refine my_stI hx hb hK hP hD hS 4 rfl ((q * 6) + i) rfl (by omega) (by decide) d_PR_putLock_42 (fun H_4 locs hP hD hS => ?_)
  have hP : va_P D vwCl [(r0, .inr (3, [.int (nI nq), .int HA, .ref r1, .ref r2, .ref r3, .ref r4, .ref r5, .ref r6, .ref r7, .ref r8, .ref r9, .ref r10, .ref r11])), (r7, .inl (cI, 240, .inl (fun zy => nI ((upN LP ((q * 6) + i) j) zy)))), (r8, .inl (cI, 240, .inl (fun zy => nI ((upN LF ((q * 6) + i) t) zy)))), (r9, .inl (cI, 240, .inl (upd LS ((q * 6) + i) u))), (r10, .inl (cI, 240, .inl (upd LC ((q * 6) + i) v))), (r11, .inl (cI, 240, .inl LH))] H_4 := hP
  refine lv_aload_n hx hb d_PR_putLock_43 rfl (lv_at hl 1 rfl) ?_
  refine va_get (D := D) (ci := 3) (v := .ref r11) (C := R_PR) (T := F_PR) (N := 13) hx hb hts i_PR hown hK hP 0 rfl rfl 12 (by decide) (hts _ q_131) (fun _ h9 => h9) rfl d_PR_putLock_44 ?_
  refine lv_iload hx hb d_PR_putLock_47 (lv_at hl 0 rfl) ?_
  refine lv_iconst (v := 0) hx hb d_PR_putLock_49 (by decide) ?_
  refine my_stI hx hb hK hP hD hS 5 rfl ((q * 6) + i) rfl (by omega) (by decide) d_PR_putLock_50 (fun H_5 locs hP hD hS => ?_)
  have hP : va_P D vwCl [(r0, .inr (3, [.int (nI nq), .int HA, .ref r1, .ref r2, .ref r3, .ref r4, .ref r5, .ref r6, .ref r7, .ref r8, .ref r9, .ref r10, .ref r11])), (r7, .inl (cI, 240, .inl (fun zy => nI ((upN LP ((q * 6) + i) j) zy)))), (r8, .inl (cI, 240, .inl (fun zy => nI ((upN LF ((q * 6) + i) t) zy)))), (r9, .inl (cI, 240, .inl (upd LS ((q * 6) + i) u))), (r10, .inl (cI, 240, .inl (upd LC ((q * 6) + i) v))), (r11, .inl (cI, 240, .inl (upd LH ((q * 6) + i) 0)))] H_5 := hP
  have hP9 := hP.sub (ws' := [(r0, .inr (3, [.int (nI nq), .int HA, .ref r1, .ref r2, .ref r3, .ref r4, .ref r5, .ref r6, .ref r7, .ref r8, .ref r9, .ref r10, .ref r11])), (r7, .inl (cI, 240, .inl (fun zy => nI ((upN LP (q * 6 + i) j) zy)))), (r8, .inl (cI, 240, .inl (fun zy => nI ((upN LF (q * 6 + i) t) zy)))), (r9, .inl (cI, 240, .inl (upd LS (q * 6 + i) u))), (r10, .inl (cI, 240, .inl (upd LC (q * 6 + i) v))), (r11, .inl (cI, 240, .inl (upd LH (q * 6 + i) 0)))]) [0, 1, 2, 3, 4, 5] rfl
  have hD9 := hD.sub (ws' := [(r0, .inr (3, [.int (nI nq), .int HA, .ref r1, .ref r2, .ref r3, .ref r4, .ref r5, .ref r6, .ref r7, .ref r8, .ref r9, .ref r10, .ref r11])), (r7, .inl (cI, 240, .inl (fun zy => nI ((upN LP (q * 6 + i) j) zy)))), (r8, .inl (cI, 240, .inl (fun zy => nI ((upN LF (q * 6 + i) t) zy)))), (r9, .inl (cI, 240, .inl (upd LS (q * 6 + i) u))), (r10, .inl (cI, 240, .inl (upd LC (q * 6 + i) v))), (r11, .inl (cI, 240, .inl (upd LH (q * 6 + i) 0)))]) [0, 1, 2, 3, 4, 5] (by decide +kernel) rfl
  refine W.widen (k := 0) (n := 0) (Nat.le_of_ble_eq_true rfl) (Nat.le_of_ble_eq_true rfl) ?_
  exact W.vret hx hb hr (fun tT ht hW => ⟨⟨(), rfl, trivial, by rw [ht]; exact hP9, hD9⟩, hS.F ht⟩) hS.2.2 d_PR_putLock_51

set_option maxHeartbeats 4000000 in
set_option maxRecDepth 100000 in
theorem e_PR_outcome (l : Launch) (D : va_G) (cI cZ : ClassId) (r0 : Nat) (q : Nat) (nq : Nat) (HA : Int32) (r1 : Nat) (r2 : Nat) (r3 : Nat) (r4 : Nat) (r5 : Nat) (r6 : Nat) (r7 : Nat) (r8 : Nat) (r9 : Nat) (r10 : Nat) (r11 : Nat) (HO : Nat → Nat) (HE : Nat → Int32) (KE : Nat → Int32) (sz : Nat) (h_nq : nq ≤ 40) (h_HO : ∀ zz, HO zz ≤ 6) (hq : q < 40) : Met l ⟨"PromiseChains$Promises", "outcome", "(I)I"⟩ (mw ⟨"PromiseChains$Promises", "outcome", "(I)I"⟩ prog_4_method_6_code 2 (some .int)) ({ frames := 0, cells := 0, slots := 0, locals := 0 }) (va_Pc [.ref r0, .int (nI q)] (PB D cI cZ sz [(r0, .inr (3, [.int (nI nq), .int HA, .ref r1, .ref r2, .ref r3, .ref r4, .ref r5, .ref r6, .ref r7, .ref r8, .ref r9, .ref r10, .ref r11])), (r3, .inl (cI, 40, .inl (fun zy => nI (HO zy)))), (r4, .inl (cI, 40, .inl HE)), (r5, .inl (cI, 40, .inl KE))])) (vp_Si (fun r => r = gOut (HE q) (nI (HO q)) (KE q))) 0 0 (fun _ => False) := by
  refine Met.ofW (cc := prog_4_method_6_code) (maxL := 2) (ret := (some .int)) (by decide) rfl ?_
  intro p e s m args below meth c s₁ B hml hv
  obtain ⟨rfl, hsz, hP, hK, hD0, hN⟩ := hv
  have hx := B.exec
  have hb := B.bytes
  have hr := B.returns
  have hts0 := atoms_spec (ws := mw ⟨"PromiseChains$Promises", "outcome", "(I)I"⟩ prog_4_method_6_code 2 (some .int)) B.pre
  have hts : ∀ w ∈ tblG, w.before _ s = true := fun w h => hts0 w (List.mem_cons_of_mem _ h)
  have hown : s.vm.findClass "PromiseChains$Promises" = some m.cls := findClass_of_methodNamed B.named
  have hlocks := B.notSynchronized
  subst hsz
  have hD := hD0
  have hP : va_P D vwCl [(r0, .inr (3, [.int (nI nq), .int HA, .ref r1, .ref r2, .ref r3, .ref r4, .ref r5, .ref r6, .ref r7, .ref r8, .ref r9, .ref r10, .ref r11])), (r3, .inl (cI, 40, .inl (fun zy => nI (HO zy)))), (r4, .inl (cI, 40, .inl HE)), (r5, .inl (cI, 40, .inl KE))] s.heap := hP
  have hl := lv_entry ([.ref r0, .int (nI q)]) (n := 2) (Nat.le_of_ble_eq_true rfl)
  rw [lg_entry_eq]
  generalize (lg_sl ([.ref r0, .int (nI q)]) ++ List.replicate (2 - (lg_sl ([.ref r0, .int (nI q)])).length) Slot.unset).toArray = ls at hl ⊢
  have hl : lv_has ls 2 [(0, .ref r0), (1, .int (nI q))] := hl
  refine lv_aload_n hx hb d_PR_outcome_0 rfl (lv_at hl 0 rfl) ?_
  refine va_get (D := D) (ci := 3) (v := .ref r4) (C := R_PR) (T := F_PR) (N := 13) hx hb hts i_PR hown hK hP 0 rfl rfl 5 (by decide) (hts _ q_120) (fun _ h9 => h9) rfl d_PR_outcome_1 ?_
  refine lv_iload_n hx hb d_PR_outcome_4 rfl (lv_at hl 1 rfl) ?_
  refine my_ldI hx hb hK hP 2 rfl q rfl (by omega) (by decide) d_PR_outcome_5 ?_
  refine lv_if_le (tgt := 11) hx hb d_PR_outcome_6 (by decide) (fun h_1 => ?_) (fun h_1 => ?_)
  · refine lv_aload_n hx hb d_PR_outcome_11 rfl (lv_at hl 0 rfl) ?_
    refine va_get (D := D) (ci := 3) (v := .ref r5) (C := R_PR) (T := F_PR) (N := 13) hx hb hts i_PR hown hK hP 0 rfl rfl 6 (by decide) (hts _ q_122) (fun _ h9 => h9) rfl d_PR_outcome_12 ?_
    refine lv_iload_n hx hb d_PR_outcome_15 rfl (lv_at hl 1 rfl) ?_
    refine my_ldI hx hb hK hP 3 rfl q rfl (by omega) (by decide) d_PR_outcome_16 ?_
    refine lv_aload_n hx hb d_PR_outcome_17 rfl (lv_at hl 0 rfl) ?_
    refine va_get (D := D) (ci := 3) (v := .ref r3) (C := R_PR) (T := F_PR) (N := 13) hx hb hts i_PR hown hK hP 0 rfl rfl 4 (by decide) (hts _ q_118) (fun _ h9 => h9) rfl d_PR_outcome_18 ?_
    refine lv_iload_n hx hb d_PR_outcome_21 rfl (lv_at hl 1 rfl) ?_
    refine my_ldN hx hb hK hP 1 rfl q rfl (by omega) (by decide) d_PR_outcome_22 ?_
    have hb_1 : HO q ≤ 6 := h_HO _
    refine lv_icmp_ne (tgt := 28) hx hb d_PR_outcome_23 (by decide) (fun h_2 => ?_) (fun h_2 => ?_)
    · refine lv_aload_n hx hb d_PR_outcome_28 rfl (lv_at hl 0 rfl) ?_
      refine va_get (D := D) (ci := 3) (v := .ref r5) (C := R_PR) (T := F_PR) (N := 13) hx hb hts i_PR hown hK hP 0 rfl rfl 6 (by decide) (hts _ q_122) (fun _ h9 => h9) rfl d_PR_outcome_29 ?_
      refine lv_iload_n hx hb d_PR_outcome_32 rfl (lv_at hl 1 rfl) ?_
      refine my_ldI hx hb hK hP 3 rfl q rfl (by omega) (by decide) d_PR_outcome_33 ?_
      refine lv_if_ne (tgt := 41) hx hb d_PR_outcome_34 (by decide) (fun h_3 => ?_) (fun h_3 => ?_)
      · refine lv_iconst (v := 3) hx hb d_PR_outcome_41 (by decide) ?_
        exact W.iret (v := 3) hx hb hr (fun tT ht hW => ⟨3, rfl, (by unfold gOut; rw [if_pos h_1, if_neg h_2, if_neg h_3]), ht⟩) (fun q h => absurd h List.not_mem_nil) d_PR_outcome_42
      · refine lv_iconst (v := 2) hx hb d_PR_outcome_37 (by decide) ?_
        refine lv_goto (tgt := 42) hx hb d_PR_outcome_38 (by decide) ?_
        exact W.iret (v := 2) hx hb hr (fun tT ht hW => ⟨2, rfl, (by unfold gOut; rw [if_pos h_1, if_neg h_2, if_pos h_3]), ht⟩) (fun q h => absurd h List.not_mem_nil) d_PR_outcome_42
    · refine lv_iconst (v := 1) hx hb d_PR_outcome_26 (by decide) ?_
      exact W.iret (v := 1) hx hb hr (fun tT ht hW => ⟨1, rfl, (by unfold gOut; rw [if_pos h_1, if_pos h_2]), ht⟩) (fun q h => absurd h List.not_mem_nil) d_PR_outcome_27
  · refine lv_iconst (v := 0) hx hb d_PR_outcome_9 (by decide) ?_
    exact W.iret (v := 0) hx hb hr (fun tT ht hW => ⟨0, rfl, (by unfold gOut; rw [if_neg h_1]), ht⟩) (fun q h => absurd h List.not_mem_nil) d_PR_outcome_10

set_option maxHeartbeats 4000000 in
set_option maxRecDepth 100000 in
theorem e_PR_endLock (l : Launch) (D : va_G) (cI cZ : ClassId) (r0 : Nat) (q : Nat) (i : Nat) (v : Int32) (nq : Nat) (HA : Int32) (r1 : Nat) (r2 : Nat) (r3 : Nat) (r4 : Nat) (r5 : Nat) (r6 : Nat) (r7 : Nat) (r8 : Nat) (r9 : Nat) (r10 : Nat) (r11 : Nat) (HE : Nat → Int32) (LH : Nat → Int32) (sz : Nat) (h_nq : nq ≤ 40) (hq : q < 40) (hi : i < 240) : Met l ⟨"PromiseChains$Promises", "endLock", "(III)V"⟩ (mw ⟨"PromiseChains$Promises", "endLock", "(III)V"⟩ prog_4_method_12_code 4 none) ({ frames := 0, cells := 0, slots := 0, locals := 0 }) (va_Pc [.ref r0, .int (nI q), .int (nI i), .int v] (PB D cI cZ sz [(r0, .inr (3, [.int (nI nq), .int HA, .ref r1, .ref r2, .ref r3, .ref r4, .ref r5, .ref r6, .ref r7, .ref r8, .ref r9, .ref r10, .ref r11])), (r4, .inl (cI, 40, .inl HE)), (r11, .inl (cI, 240, .inl LH))])) (va_Qv (S := Unit) (fun uU => True) (fun uU tT => BB D (va_A [(r0, .inr (3, [.int (nI nq), .int HA, .ref r1, .ref r2, .ref r3, .ref r4, .ref r5, .ref r6, .ref r7, .ref r8, .ref r9, .ref r10, .ref r11])), (r4, .inl (cI, 40, .inl HE)), (r11, .inl (cI, 240, .inl LH))] sz) [(r0, .inr (3, [.int (nI nq), .int (HA - 1), .ref r1, .ref r2, .ref r3, .ref r4, .ref r5, .ref r6, .ref r7, .ref r8, .ref r9, .ref r10, .ref r11])), (r4, .inl (cI, 40, .inl (subS HE q 1))), (r11, .inl (cI, 240, .inl (upd LH i v)))] tT) (va_A [(r0, .inr (3, [.int (nI nq), .int HA, .ref r1, .ref r2, .ref r3, .ref r4, .ref r5, .ref r6, .ref r7, .ref r8, .ref r9, .ref r10, .ref r11])), (r4, .inl (cI, 40, .inl HE)), (r11, .inl (cI, 240, .inl LH))] sz)) 0 0 (va_A [(r0, .inr (3, [.int (nI nq), .int HA, .ref r1, .ref r2, .ref r3, .ref r4, .ref r5, .ref r6, .ref r7, .ref r8, .ref r9, .ref r10, .ref r11])), (r4, .inl (cI, 40, .inl HE)), (r11, .inl (cI, 240, .inl LH))] sz) := by
  refine Met.ofW (cc := prog_4_method_12_code) (maxL := 4) (ret := none) (by decide) rfl ?_
  intro p e s m args below meth c s₁ B hml hv
  obtain ⟨rfl, hsz, hP, hK, hD0, hN⟩ := hv
  have hx := B.exec
  have hb := B.bytes
  have hr := B.returns
  have hts0 := atoms_spec (ws := mw ⟨"PromiseChains$Promises", "endLock", "(III)V"⟩ prog_4_method_12_code 4 none) B.pre
  have hts : ∀ w ∈ tblG, w.before _ s = true := fun w h => hts0 w (List.mem_cons_of_mem _ h)
  have hown : s.vm.findClass "PromiseChains$Promises" = some m.cls := findClass_of_methodNamed B.named
  have hlocks := B.notSynchronized
  subst hsz
  have hD := hD0.self (sz := s.heap.size)
  generalize hAe : va_A [(r0, .inr (3, [.int (nI nq), .int HA, .ref r1, .ref r2, .ref r3, .ref r4, .ref r5, .ref r6, .ref r7, .ref r8, .ref r9, .ref r10, .ref r11])), (r4, .inl (cI, 40, .inl HE)), (r11, .inl (cI, 240, .inl LH))] s.heap.size = A at hD ⊢
  have hA : ∀ q : Nat, s.heap.size ≤ q → A q := fun q h => by rw [← hAe]; exact Or.inr h
  have hS : va_S A s.heap s.heap [] := va_S.rf
  have hP : va_P D vwCl [(r0, .inr (3, [.int (nI nq), .int HA, .ref r1, .ref r2, .ref r3, .ref r4, .ref r5, .ref r6, .ref r7, .ref r8, .ref r9, .ref r10, .ref r11])), (r4, .inl (cI, 40, .inl HE)), (r11, .inl (cI, 240, .inl LH))] s.heap := hP
  have hl := lv_entry ([.ref r0, .int (nI q), .int (nI i), .int v]) (n := 4) (Nat.le_of_ble_eq_true rfl)
  rw [lg_entry_eq]
  generalize (lg_sl ([.ref r0, .int (nI q), .int (nI i), .int v]) ++ List.replicate (4 - (lg_sl ([.ref r0, .int (nI q), .int (nI i), .int v])).length) Slot.unset).toArray = ls at hl ⊢
  have hl : lv_has ls 4 [(0, .ref r0), (1, .int (nI q)), (2, .int (nI i)), (3, .int v)] := hl
  refine lv_aload_n hx hb d_PR_endLock_0 rfl (lv_at hl 0 rfl) ?_
  refine va_get (D := D) (ci := 3) (v := .ref r11) (C := R_PR) (T := F_PR) (N := 13) hx hb hts i_PR hown hK hP 0 rfl rfl 12 (by decide) (hts _ q_131) (fun _ h9 => h9) rfl d_PR_endLock_1 ?_
  refine lv_iload_n hx hb d_PR_endLock_4 rfl (lv_at hl 2 rfl) ?_
  refine lv_iload_n hx hb d_PR_endLock_5 rfl (lv_at hl 3 rfl) ?_
  refine my_stI hx hb hK hP hD hS 2 rfl i rfl (by omega) (by decide) d_PR_endLock_6 (fun H_1 locs hP hD hS => ?_)
  have hP : va_P D vwCl [(r0, .inr (3, [.int (nI nq), .int HA, .ref r1, .ref r2, .ref r3, .ref r4, .ref r5, .ref r6, .ref r7, .ref r8, .ref r9, .ref r10, .ref r11])), (r4, .inl (cI, 40, .inl HE)), (r11, .inl (cI, 240, .inl (upd LH i v)))] H_1 := hP
  refine lv_aload_n hx hb d_PR_endLock_7 rfl (lv_at hl 0 rfl) ?_
  refine va_get (D := D) (ci := 3) (v := .ref r4) (C := R_PR) (T := F_PR) (N := 13) hx hb hts i_PR hown hK hP 0 rfl rfl 5 (by decide) (hts _ q_120) (fun _ h9 => h9) rfl d_PR_endLock_8 ?_
  refine lv_iload_n hx hb d_PR_endLock_11 rfl (lv_at hl 1 rfl) ?_
  refine lv_dup2_11 hx hb d_PR_endLock_12 rfl rfl ?_
  refine my_ldI hx hb hK hP 1 rfl q rfl (by omega) (by decide) d_PR_endLock_13 ?_
  refine lv_iconst (v := 1) hx hb d_PR_endLock_14 (by decide) ?_
  refine lv_isub hx hb d_PR_endLock_15 ?_
  refine my_stI hx hb hK hP hD hS 1 rfl q rfl (by omega) (by decide) d_PR_endLock_16 (fun H_2 locs hP hD hS => ?_)
  have hP : va_P D vwCl [(r0, .inr (3, [.int (nI nq), .int HA, .ref r1, .ref r2, .ref r3, .ref r4, .ref r5, .ref r6, .ref r7, .ref r8, .ref r9, .ref r10, .ref r11])), (r4, .inl (cI, 40, .inl (upd HE q ((HE q) - 1)))), (r11, .inl (cI, 240, .inl (upd LH i v)))] H_2 := hP
  refine lv_aload_n hx hb d_PR_endLock_17 rfl (lv_at hl 0 rfl) ?_
  refine lv_dup hx hb d_PR_endLock_18 rfl ?_
  refine va_get (D := D) (ci := 3) (v := .int HA) (C := R_PR) (T := F_PR) (N := 13) hx hb hts i_PR hown hK hP 0 rfl rfl 1 (by decide) (hts _ q_112) (fun _ h9 => h9) rfl d_PR_endLock_19 ?_
  refine lv_iconst (v := 1) hx hb d_PR_endLock_22 (by decide) ?_
  refine lv_isub hx hb d_PR_endLock_23 ?_
  refine va_put (D := D) (ci := 3) (v := .int (HA - 1)) (ty := .int) (C := R_PR) (T := F_PR) (N := 13) hx hb hts i_PR t_PR t_PR_ok n_PR hown hK hP hD hS 0 rfl rfl 1 (by decide) (hts _ q_112) (fun _ h9 => h9) rfl (by decide +kernel) rfl rfl (Nat.le_of_ble_eq_true rfl) d_PR_endLock_24 (fun H_3 locs hP hD hS => ?_)
  have hP : va_P D vwCl [(r0, .inr (3, [.int (nI nq), .int (HA - 1), .ref r1, .ref r2, .ref r3, .ref r4, .ref r5, .ref r6, .ref r7, .ref r8, .ref r9, .ref r10, .ref r11])), (r4, .inl (cI, 40, .inl (upd HE q ((HE q) - 1)))), (r11, .inl (cI, 240, .inl (upd LH i v)))] H_3 := hP
  have hP9 := hP.sub (ws' := [(r0, .inr (3, [.int (nI nq), .int (HA - 1), .ref r1, .ref r2, .ref r3, .ref r4, .ref r5, .ref r6, .ref r7, .ref r8, .ref r9, .ref r10, .ref r11])), (r4, .inl (cI, 40, .inl (subS HE q 1))), (r11, .inl (cI, 240, .inl (upd LH i v)))]) [0, 1, 2] rfl
  have hD9 := hD.sub (ws' := [(r0, .inr (3, [.int (nI nq), .int (HA - 1), .ref r1, .ref r2, .ref r3, .ref r4, .ref r5, .ref r6, .ref r7, .ref r8, .ref r9, .ref r10, .ref r11])), (r4, .inl (cI, 40, .inl (subS HE q 1))), (r11, .inl (cI, 240, .inl (upd LH i v)))]) [0, 1, 2] (by decide +kernel) rfl
  refine W.widen (k := 0) (n := 0) (Nat.le_of_ble_eq_true rfl) (Nat.le_of_ble_eq_true rfl) ?_
  exact W.vret hx hb hr (fun tT ht hW => ⟨⟨(), rfl, trivial, by rw [ht]; exact hP9, hD9⟩, hS.F ht⟩) hS.2.2 d_PR_endLock_27

set_option maxHeartbeats 4000000 in
set_option maxRecDepth 100000 in
theorem e_PR_isWordKnown (l : Launch) (D : va_G) (cI cZ : ClassId) (r0 : Nat) (q : Nat) (i : Nat) (nq : Nat) (HA : Int32) (r1 : Nat) (r2 : Nat) (r3 : Nat) (r4 : Nat) (r5 : Nat) (r6 : Nat) (r7 : Nat) (r8 : Nat) (r9 : Nat) (r10 : Nat) (r11 : Nat) (HO : Nat → Nat) (TO : Nat → Int32) (LH : Nat → Int32) (sz : Nat) (h_nq : nq ≤ 40) (h_HO : ∀ zz, HO zz ≤ 6) (hq : q < 40) (hi : i < HO q) (hz : ∀ zz, narrow .boolean (.int (TO zz)) = .int (TO zz)) : Met l ⟨"PromiseChains$Promises", "isWordKnown", "(II)Z"⟩ (mw ⟨"PromiseChains$Promises", "isWordKnown", "(II)Z"⟩ prog_4_method_10_code 3 (some .boolean)) ({ frames := 0, cells := 0, slots := 0, locals := 0 }) (va_Pc [.ref r0, .int (nI q), .int (nI i)] (PB D cI cZ sz [(r0, .inr (3, [.int (nI nq), .int HA, .ref r1, .ref r2, .ref r3, .ref r4, .ref r5, .ref r6, .ref r7, .ref r8, .ref r9, .ref r10, .ref r11])), (r3, .inl (cI, 40, .inl (fun zy => nI (HO zy)))), (r6, .inl (cZ, 40, .inl TO)), (r11, .inl (cI, 240, .inl LH))])) (vp_Si (fun r => ¬ r = 0 ↔ wKn HO TO LH q i)) 0 0 (fun _ => False) := by
  refine Met.ofW (cc := prog_4_method_10_code) (maxL := 3) (ret := (some .boolean)) (by decide) rfl ?_
  intro p e s m args below meth c s₁ B hml hv
  obtain ⟨rfl, hsz, hP, hK, hD0, hN⟩ := hv
  have hx := B.exec
  have hb := B.bytes
  have hr := B.returns
  have hts0 := atoms_spec (ws := mw ⟨"PromiseChains$Promises", "isWordKnown", "(II)Z"⟩ prog_4_method_10_code 3 (some .boolean)) B.pre
  have hts : ∀ w ∈ tblG, w.before _ s = true := fun w h => hts0 w (List.mem_cons_of_mem _ h)
  have hown : s.vm.findClass "PromiseChains$Promises" = some m.cls := findClass_of_methodNamed B.named
  have hlocks := B.notSynchronized
  subst hsz
  have hD := hD0
  have hP : va_P D vwCl [(r0, .inr (3, [.int (nI nq), .int HA, .ref r1, .ref r2, .ref r3, .ref r4, .ref r5, .ref r6, .ref r7, .ref r8, .ref r9, .ref r10, .ref r11])), (r3, .inl (cI, 40, .inl (fun zy => nI (HO zy)))), (r6, .inl (cZ, 40, .inl TO)), (r11, .inl (cI, 240, .inl LH))] s.heap := hP
  have hl := lv_entry ([.ref r0, .int (nI q), .int (nI i)]) (n := 3) (Nat.le_of_ble_eq_true rfl)
  rw [lg_entry_eq]
  generalize (lg_sl ([.ref r0, .int (nI q), .int (nI i)]) ++ List.replicate (3 - (lg_sl ([.ref r0, .int (nI q), .int (nI i)])).length) Slot.unset).toArray = ls at hl ⊢
  have hl : lv_has ls 3 [(0, .ref r0), (1, .int (nI q)), (2, .int (nI i))] := hl
  refine lv_iload_n hx hb d_PR_isWordKnown_0 rfl (lv_at hl 2 rfl) ?_
  refine lv_aload_n hx hb d_PR_isWordKnown_1 rfl (lv_at hl 0 rfl) ?_
  refine va_get (D := D) (ci := 3) (v := .ref r3) (C := R_PR) (T := F_PR) (N := 13) hx hb hts i_PR hown hK hP 0 rfl rfl 4 (by decide) (hts _ q_118) (fun _ h9 => h9) rfl d_PR_isWordKnown_2 ?_
  refine lv_iload_n hx hb d_PR_isWordKnown_5 rfl (lv_at hl 1 rfl) ?_
  refine my_ldN hx hb hK hP 1 rfl q rfl (by omega) (by decide) d_PR_isWordKnown_6 ?_
  have hb_1 : HO q ≤ 6 := h_HO _
  refine lv_iconst (v := 1) hx hb d_PR_isWordKnown_7 (by decide) ?_
  refine lv_isub hx hb d_PR_isWordKnown_8 ?_
  refine lv_seti (nI ((HO q) - 1)) (pk_sub (a := (HO q)) (b := 1) (by omega)) ?_
  refine lv_icmp_ne (tgt := 19) hx hb d_PR_isWordKnown_9 (by decide) (fun h_1 => ?_) (fun h_1 => ?_)
  · have nh_1 : ¬ i = ((HO q) - 1) := fun qZ => h_1 ((nI_eq (a := i) (b := ((HO q) - 1)) (by omega) (by omega)).mpr qZ)
    refine lv_aload_n hx hb d_PR_isWordKnown_19 rfl (lv_at hl 0 rfl) ?_
    refine va_get (D := D) (ci := 3) (v := .ref r11) (C := R_PR) (T := F_PR) (N := 13) hx hb hts i_PR hown hK hP 0 rfl rfl 12 (by decide) (hts _ q_131) (fun _ h9 => h9) rfl d_PR_isWordKnown_20 ?_
    refine lv_iload_n hx hb d_PR_isWordKnown_23 rfl (lv_at hl 1 rfl) ?_
    refine lv_bipush (v := 6) hx hb d_PR_isWordKnown_24 (by decide) ?_
    refine lv_imul hx hb d_PR_isWordKnown_26 ?_
    refine lv_seti (nI (q * 6)) (pk_mul q 6) ?_
    refine lv_iload_n hx hb d_PR_isWordKnown_27 rfl (lv_at hl 2 rfl) ?_
    refine lv_iadd hx hb d_PR_isWordKnown_28 ?_
    refine lv_seti (nI ((q * 6) + i)) (nI_add (q * 6) i) ?_
    refine lv_iconst (v := 1) hx hb d_PR_isWordKnown_29 (by decide) ?_
    refine lv_iadd hx hb d_PR_isWordKnown_30 ?_
    refine lv_seti (nI (((q * 6) + i) + 1)) (nI_add ((q * 6) + i) 1) ?_
    refine my_ldI hx hb hK hP 3 rfl (((q * 6) + i) + 1) rfl (by omega) (by decide) d_PR_isWordKnown_31 ?_
    refine lv_iconst (v := 1) hx hb d_PR_isWordKnown_32 (by decide) ?_
    refine lv_icmp_ne (tgt := 40) hx hb d_PR_isWordKnown_33 (by decide) (fun h_2 => ?_) (fun h_2 => ?_)
    · refine lv_iconst (v := 0) hx hb d_PR_isWordKnown_40 (by decide) ?_
      exact W.zret (v := 0) hx hb hr rfl (fun tT ht hW => ⟨0, rfl, (wkn_b0 (show ¬ i + 1 = HO q by omega) h_2), ht⟩) (fun q h => absurd h List.not_mem_nil) d_PR_isWordKnown_41
    · refine lv_iconst (v := 1) hx hb d_PR_isWordKnown_36 (by decide) ?_
      refine lv_goto (tgt := 41) hx hb d_PR_isWordKnown_37 (by decide) ?_
      exact W.zret (v := 1) hx hb hr rfl (fun tT ht hW => ⟨1, rfl, (wkn_b1 (show ¬ i + 1 = HO q by omega) h_2), ht⟩) (fun q h => absurd h List.not_mem_nil) d_PR_isWordKnown_41
  · have nh_1 : i = ((HO q) - 1) := (nI_eq (a := i) (b := ((HO q) - 1)) (by omega) (by omega)).mp h_1
    refine lv_aload_n hx hb d_PR_isWordKnown_12 rfl (lv_at hl 0 rfl) ?_
    refine va_get (D := D) (ci := 3) (v := .ref r6) (C := R_PR) (T := F_PR) (N := 13) hx hb hts i_PR hown hK hP 0 rfl rfl 7 (by decide) (hts _ q_124) (fun _ h9 => h9) rfl d_PR_isWordKnown_13 ?_
    refine lv_iload_n hx hb d_PR_isWordKnown_16 rfl (lv_at hl 1 rfl) ?_
    refine my_ldZ hx hb hK hP 2 rfl q rfl (by omega) (by decide) d_PR_isWordKnown_17 ?_
    exact W.zret (v := (TO q)) hx hb hr (hz _) (fun tT ht hW => ⟨(TO q), rfl, (wkn_a (show i + 1 = HO q by omega)), ht⟩) (fun q h => absurd h List.not_mem_nil) d_PR_isWordKnown_18

set_option maxHeartbeats 4000000 in
set_option maxRecDepth 100000 in
theorem e_PR_mayBeKept (l : Launch) (D : va_G) (cI cZ : ClassId) (r0 : Nat) (f0 : Nat) (a0 : Nat) (i : Nat) (v : Int32) (nq : Nat) (HA : Int32) (r1 : Nat) (r2 : Nat) (r3 : Nat) (r4 : Nat) (r5 : Nat) (r6 : Nat) (r7 : Nat) (r8 : Nat) (r9 : Nat) (r10 : Nat) (r11 : Nat) (LP : Nat → Nat) (LF : Nat → Nat) (LC : Nat → Int32) (LH : Nat → Int32) (np : Nat) (a1 : Nat) (a2 : Nat) (a3 : Nat) (a4 : Nat) (a5 : Nat) (a6 : Nat) (a7 : Nat) (a8 : Nat) (a9 : Nat) (a10 : Nat) (a11 : Nat) (EP : Nat → Nat) (nn : Nat) (f1 : Nat) (f2 : Nat) (f3 : Nat) (f4 : Nat) (FA : Nat → Int32) (sz : Nat) (h_nq : nq ≤ 40) (h_LP : ∀ zz, LP zz ≤ 11) (h_LF : ∀ zz, LF zz ≤ 1) (h_np : np ≤ 12) (h_EP : ∀ zz, EP zz ≤ 6) (h_nn : nn ≤ 7) (hi : i < 240) : Met l ⟨"PromiseChains$Promises", "mayBeKept", "(LPromiseChains$People;LPromiseChains$Pairs;II)Z"⟩ (mw ⟨"PromiseChains$Promises", "mayBeKept", "(LPromiseChains$People;LPromiseChains$Pairs;II)Z"⟩ prog_4_method_11_code 6 (some .boolean)) ({ frames := 0, cells := 0, slots := 0, locals := 0 }) (va_Pc [.ref r0, .ref f0, .ref a0, .int (nI i), .int v] (PB D cI cZ sz [(r0, .inr (3, [.int (nI nq), .int HA, .ref r1, .ref r2, .ref r3, .ref r4, .ref r5, .ref r6, .ref r7, .ref r8, .ref r9, .ref r10, .ref r11])), (r7, .inl (cI, 240, .inl (fun zy => nI (LP zy)))), (r8, .inl (cI, 240, .inl (fun zy => nI (LF zy)))), (r10, .inl (cI, 240, .inl LC)), (r11, .inl (cI, 240, .inl LH)), (a0, .inr (2, [.int (nI np), .ref a1, .ref a2, .ref a3, .ref a4, .ref a5, .ref a6, .ref a7, .ref a8, .ref a9, .ref a10, .ref a11])), (a1, .inl (cI, 24, .inl (fun zy => nI (EP zy)))), (f0, .inr (1, [.int (nI nn), .ref f1, .ref f2, .ref f3, .ref f4])), (f4, .inl (cZ, 7, .inl FA))])) (vp_Si (fun r => (¬ (LH i = 0 ∧ FA (EP (2 * LP i + (1 - LF i))) = 0 ∧ v < LC i) ∧ r = 0) ∨ (LH i = 0 ∧ FA (EP (2 * LP i + (1 - LF i))) = 0 ∧ v < LC i ∧ r = 1))) 0 0 (fun _ => False) := by
  refine Met.ofW (cc := prog_4_method_11_code) (maxL := 6) (ret := (some .boolean)) (by decide) rfl ?_
  intro p e s m args below meth c s₁ B hml hv
  obtain ⟨rfl, hsz, hP, hK, hD0, hN⟩ := hv
  have hx := B.exec
  have hb := B.bytes
  have hr := B.returns
  have hts0 := atoms_spec (ws := mw ⟨"PromiseChains$Promises", "mayBeKept", "(LPromiseChains$People;LPromiseChains$Pairs;II)Z"⟩ prog_4_method_11_code 6 (some .boolean)) B.pre
  have hts : ∀ w ∈ tblG, w.before _ s = true := fun w h => hts0 w (List.mem_cons_of_mem _ h)
  have hown : s.vm.findClass "PromiseChains$Promises" = some m.cls := findClass_of_methodNamed B.named
  have hlocks := B.notSynchronized
  subst hsz
  have hD := hD0
  have hP : va_P D vwCl [(r0, .inr (3, [.int (nI nq), .int HA, .ref r1, .ref r2, .ref r3, .ref r4, .ref r5, .ref r6, .ref r7, .ref r8, .ref r9, .ref r10, .ref r11])), (r7, .inl (cI, 240, .inl (fun zy => nI (LP zy)))), (r8, .inl (cI, 240, .inl (fun zy => nI (LF zy)))), (r10, .inl (cI, 240, .inl LC)), (r11, .inl (cI, 240, .inl LH)), (a0, .inr (2, [.int (nI np), .ref a1, .ref a2, .ref a3, .ref a4, .ref a5, .ref a6, .ref a7, .ref a8, .ref a9, .ref a10, .ref a11])), (a1, .inl (cI, 24, .inl (fun zy => nI (EP zy)))), (f0, .inr (1, [.int (nI nn), .ref f1, .ref f2, .ref f3, .ref f4])), (f4, .inl (cZ, 7, .inl FA))] s.heap := hP
  have hl := lv_entry ([.ref r0, .ref f0, .ref a0, .int (nI i), .int v]) (n := 6) (Nat.le_of_ble_eq_true rfl)
  rw [lg_entry_eq]
  generalize (lg_sl ([.ref r0, .ref f0, .ref a0, .int (nI i), .int v]) ++ List.replicate (6 - (lg_sl ([.ref r0, .ref f0, .ref a0, .int (nI i), .int v])).length) Slot.unset).toArray = ls at hl ⊢
  have hl : lv_has ls 6 [(0, .ref r0), (1, .ref f0), (2, .ref a0), (3, .int (nI i)), (4, .int v)] := hl
  refine lv_aload_n hx hb d_PR_mayBeKept_0 rfl (lv_at hl 2 rfl) ?_
  refine va_get (D := D) (ci := 2) (v := .ref a1) (C := R_PA) (T := F_PA) (N := 12) hx hb hts i_PA hown hK hP 5 rfl rfl 1 (by decide) (hts _ q_59) (fun _ h9 => h9) rfl d_PR_mayBeKept_1 ?_
  refine lv_iconst (v := 2) hx hb d_PR_mayBeKept_4 (by decide) ?_
  refine lv_aload_n hx hb d_PR_mayBeKept_5 rfl (lv_at hl 0 rfl) ?_
  refine va_get (D := D) (ci := 3) (v := .ref r7) (C := R_PR) (T := F_PR) (N := 13) hx hb hts i_PR hown hK hP 0 rfl rfl 8 (by decide) (hts _ q_126) (fun _ h9 => h9) rfl d_PR_mayBeKept_6 ?_
  refine lv_iload_n hx hb d_PR_mayBeKept_9 rfl (lv_at hl 3 rfl) ?_
  refine my_ldN hx hb hK hP 1 rfl i rfl (by omega) (by decide) d_PR_mayBeKept_10 ?_
  have hb_1 : LP i ≤ 11 := h_LP _
  refine lv_imul hx hb d_PR_mayBeKept_11 ?_
  refine lv_seti (nI (2 * (LP i))) (pk_mul 2 (LP i)) ?_
  refine lv_iconst (v := 1) hx hb d_PR_mayBeKept_12 (by decide) ?_
  refine lv_iadd hx hb d_PR_mayBeKept_13 ?_
  refine lv_seti (nI ((2 * (LP i)) + 1)) (nI_add (2 * (LP i)) 1) ?_
  refine lv_aload_n hx hb d_PR_mayBeKept_14 rfl (lv_at hl 0 rfl) ?_
  refine va_get (D := D) (ci := 3) (v := .ref r8) (C := R_PR) (T := F_PR) (N := 13) hx hb hts i_PR hown hK hP 0 rfl rfl 9 (by decide) (hts _ q_127) (fun _ h9 => h9) rfl d_PR_mayBeKept_15 ?_
  refine lv_iload_n hx hb d_PR_mayBeKept_18 rfl (lv_at hl 3 rfl) ?_
  refine my_ldN hx hb hK hP 2 rfl i rfl (by omega) (by decide) d_PR_mayBeKept_19 ?_
  have hb_2 : LF i ≤ 1 := h_LF _
  refine lv_isub hx hb d_PR_mayBeKept_20 ?_
  refine lv_seti (nI (((2 * (LP i)) + 1) - (LF i))) (pk_sub (a := ((2 * (LP i)) + 1)) (b := (LF i)) (by omega)) ?_
  refine my_ldN hx hb hK hP 6 rfl (((2 * (LP i)) + 1) - (LF i)) rfl (by omega) (by decide) d_PR_mayBeKept_21 ?_
  have hb_3 : EP (((2 * (LP i)) + 1) - (LF i)) ≤ 6 := h_EP _
  refine lv_istore (lv' := [(5, .int (nI (EP (((2 * (LP i)) + 1) - (LF i))))), (0, .ref r0), (1, .ref f0), (2, .ref a0), (3, .int (nI i)), (4, .int v)]) hx hb d_PR_mayBeKept_22 hl (by decide) rfl (fun ls hl => ?_)
  refine lv_aload_n hx hb d_PR_mayBeKept_24 rfl (lv_at hl 1 rfl) ?_
  refine va_get (D := D) (ci := 3) (v := .ref r11) (C := R_PR) (T := F_PR) (N := 13) hx hb hts i_PR hown hK hP 0 rfl rfl 12 (by decide) (hts _ q_131) (fun _ h9 => h9) rfl d_PR_mayBeKept_25 ?_
  refine lv_iload_n hx hb d_PR_mayBeKept_28 rfl (lv_at hl 4 rfl) ?_
  refine my_ldI hx hb hK hP 4 rfl i rfl (by omega) (by decide) d_PR_mayBeKept_29 ?_
  refine lv_if_ne (tgt := 58) hx hb d_PR_mayBeKept_30 (by decide) (fun h_1 => ?_) (fun h_1 => ?_)
  · refine lv_iconst (v := 0) hx hb d_PR_mayBeKept_58 (by decide) ?_
    exact W.zret (v := 0) hx hb hr rfl (fun tT ht hW => ⟨0, rfl, (Or.inl (⟨(fun hZ => h_1 hZ.1), rfl⟩)), ht⟩) (fun q h => absurd h List.not_mem_nil) d_PR_mayBeKept_59
  · refine lv_aload_n hx hb d_PR_mayBeKept_33 rfl (lv_at hl 2 rfl) ?_
    refine va_get (D := D) (ci := 1) (v := .ref f4) (C := R_PE) (T := F_PE) (N := 5) hx hb hts i_PE hown hK hP 7 rfl rfl 4 (by decide) (hts _ q_35) (fun _ h9 => h9) rfl d_PR_mayBeKept_34 ?_
    refine lv_iload hx hb d_PR_mayBeKept_37 (lv_at hl 0 rfl) ?_
    refine my_ldZ hx hb hK hP 8 rfl (EP (((2 * (LP i)) + 1) - (LF i))) rfl (by omega) (by decide) d_PR_mayBeKept_39 ?_
    refine lv_if_ne (tgt := 58) hx hb d_PR_mayBeKept_40 (by decide) (fun h_2 => ?_) (fun h_2 => ?_)
    · refine lv_iconst (v := 0) hx hb d_PR_mayBeKept_58 (by decide) ?_
      exact W.zret (v := 0) hx hb hr rfl (fun tT ht hW => ⟨0, rfl, (Or.inl (⟨(fun hZ => (show ¬ FA (EP (2 * LP i + (1 - LF i))) = 0 by rw [← side_1 (h_LF i)]; exact h_2) hZ.2.1), rfl⟩)), ht⟩) (fun q h => absurd h List.not_mem_nil) d_PR_mayBeKept_59
    · refine lv_iload hx hb d_PR_mayBeKept_43 (lv_at hl 5 rfl) ?_
      refine lv_aload_n hx hb d_PR_mayBeKept_45 rfl (lv_at hl 1 rfl) ?_
      refine va_get (D := D) (ci := 3) (v := .ref r10) (C := R_PR) (T := F_PR) (N := 13) hx hb hts i_PR hown hK hP 0 rfl rfl 11 (by decide) (hts _ q_130) (fun _ h9 => h9) rfl d_PR_mayBeKept_46 ?_
      refine lv_iload_n hx hb d_PR_mayBeKept_49 rfl (lv_at hl 4 rfl) ?_
      refine my_ldI hx hb hK hP 3 rfl i rfl (by omega) (by decide) d_PR_mayBeKept_50 ?_
      refine lv_icmp_ge (tgt := 58) hx hb d_PR_mayBeKept_51 (by decide) (fun h_3 => ?_) (fun h_3 => ?_)
      · refine lv_iconst (v := 0) hx hb d_PR_mayBeKept_58 (by decide) ?_
        exact W.zret (v := 0) hx hb hr rfl (fun tT ht hW => ⟨0, rfl, (Or.inl (⟨(fun hZ => (Int32.not_lt.mpr h_3) hZ.2.2), rfl⟩)), ht⟩) (fun q h => absurd h List.not_mem_nil) d_PR_mayBeKept_59
      · refine lv_iconst (v := 1) hx hb d_PR_mayBeKept_54 (by decide) ?_
        refine lv_goto (tgt := 59) hx hb d_PR_mayBeKept_55 (by decide) ?_
        exact W.zret (v := 1) hx hb hr rfl (fun tT ht hW => ⟨1, rfl, (Or.inr (⟨h_1, (show FA (EP (2 * LP i + (1 - LF i))) = 0 by rw [← side_1 (h_LF i)]; exact h_2), (Int32.not_le.mp h_3), rfl⟩)), ht⟩) (fun q h => absurd h List.not_mem_nil) d_PR_mayBeKept_59
