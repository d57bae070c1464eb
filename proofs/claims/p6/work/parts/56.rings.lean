def frC (PH LK : Nat → Int32) (j : Nat) : Prop := PH j = 0 ∧ LK (2 * j) = 0 ∧ LK (2 * j + 1) = 0
theorem isw_le {u v : Int32} (h : ¬ isw u 1 v = 0) : 1 ≤ u ∧ u ≤ v := isw_ge h
theorem isw_nle {u v : Int32} (h : isw u 1 v = 0) : ¬ (1 ≤ u ∧ u ≤ v) := by
  rintro ⟨h1, h2⟩
  unfold isw at h
  rw [if_neg (Int32.not_lt.mpr h1), if_neg (Int32.not_lt.mpr h2)] at h
  exact absurd h (by decide)
def rBt (off m : Int32) (n : Nat) (P : Nat → Nat) (rl : Nat) (bo bm : Int32) (RP : Nat → Nat) : Prop := rl = 0 ∨ rLt off m n P bo bm rl RP
theorem rbt_1 {u v bo bm : Int32} {n rl : Nat} {P RP : Nat → Nat} (h : rl = 0) : rBt u v n P rl bo bm RP := Or.inl h
theorem rbt_2 {u v bo bm : Int32} {n rl : Nat} {P RP : Nat → Nat} (h : u < bo) : rBt u v n P rl bo bm RP := Or.inr (Or.inl h)
theorem rbt_3 {u v bo bm : Int32} {n rl : Nat} {P RP : Nat → Nat} (h : u = bo) (h2 : v < bm) : rBt u v n P rl bo bm RP := Or.inr (Or.inr ⟨h, Or.inl h2⟩)
theorem rbt_4 {u v bo bm : Int32} {n rl : Nat} {P RP : Nat → Nat} (h : u = bo) (h2 : v = bm) (h3 : rowLt n rl P RP) : rBt u v n P rl bo bm RP := Or.inr (Or.inr ⟨h, Or.inr ⟨h2, h3⟩⟩)
theorem rbt_n {u v bo bm : Int32} {n rl : Nat} {P RP : Nat → Nat} (h0 : ¬ rl = 0) (h1 : ¬ u < bo) (h2 : u = bo → ¬ v < bm) (h3 : u = bo → v = bm → ¬ rowLt n rl P RP) : ¬ rBt u v n P rl bo bm RP := by
  rintro (h | h | ⟨h, h4 | ⟨h4, h5⟩⟩)
  · exact h0 h
  · exact h1 h
  · exact h2 h h4
  · exact h3 h h4 h5
theorem nlt_ne {u v : Int32} (h : u = v) : ¬ u < v := by rw [h]; exact i32_irr
theorem rw_no {SI : Nat → Int32} {n : Nat} {P F : Nat → Nat} {b u most : Int32} {rl : Nat} {bo bm : Int32} {RP RF : Nat → Nat} (h : ¬ (1 ≤ u ∧ u ≤ most) ∨ ¬ rOff SI (pfx P F) u b n < b ∨ ¬ rBt (rOff SI (pfx P F) u b n) u n P rl bo bm RP) : RW SI n P F b u most rl bo bm RP RF rl bo bm RP RF := by
  refine Or.inr ⟨?_, rfl, rfl, rfl, rfl, rfl⟩
  rintro ⟨a1, a2, a3, a4⟩
  rcases h with h | h | h
  · exact h ⟨a1, a2⟩
  · exact h a3
  · exact h a4
theorem rw_yes {SI : Nat → Int32} {n : Nat} {P F : Nat → Nat} {b u most : Int32} {rl : Nat} {bo bm : Int32} {RP RF RP' RF' : Nat → Nat} (h1 : 1 ≤ u ∧ u ≤ most) (h2 : rOff SI (pfx P F) u b n < b) (h3 : rBt (rOff SI (pfx P F) u b n) u n P rl bo bm RP) (h4 : ∀ z, z < n → RP' z = P z ∧ RF' z = F z) : RW SI n P F b u most rl bo bm RP RF n (rOff SI (pfx P F) u b n) u RP' RF' := Or.inl ⟨⟨h1.1, h1.2, h2, h3⟩, rfl, rfl, rfl, h4⟩
theorem cpN_lt {n z : Nat} {F G : Nat → Nat} (h : z < n) : cpN n F G z = F z := by unfold cpN; rw [if_pos h]
/-- what a ring's offer does -/
def OFR (SI : Nat → Int32) (n : Nat) (P F : Nat → Nat) (b : Int32) (rl : Nat) (bo bm : Int32) (RP RF : Nat → Nat) (rl' : Nat) (bo' bm' : Int32) (RP' RF' : Nat → Nat) : Prop := (n < 3 ∧ rl' = rl ∧ bo' = bo ∧ bm' = bm ∧ RP' = RP ∧ RF' = RF) ∨ (3 ≤ n ∧ ROI SI n P F b (fun m => rCandC SI n (pfx P F) m) rl bo bm RP RF rl' bo' bm' RP' RF')
theorem ofr_s {SI : Nat → Int32} {n i : Nat} {K : Nat → Nat} (m : Int32) (hm : m = lpS SI K n ∨ ∃ q, q < i + 1 ∧ (m = dfS SI (K q) / 2 ∨ m = dfS SI (K q) - dfS SI (K q) / 2)) : ((m = lpS SI K n ∨ ∃ q, q < i ∧ (m = dfS SI (K q) / 2 ∨ m = dfS SI (K q) - dfS SI (K q) / 2)) ∨ m = dfS SI (K i) / 2) ∨ m = dfS SI (K i) - dfS SI (K i) / 2 := by
  rcases hm with h | ⟨q, q1, q2⟩
  · exact Or.inl (Or.inl (Or.inl h))
  · by_cases e : q = i
    · subst e
      rcases q2 with q2 | q2
      · exact Or.inl (Or.inr q2)
      · exact Or.inr q2
    · exact Or.inl (Or.inl (Or.inr ⟨q, by omega, q2⟩))
theorem gd_RS_begin_0 : (decode prog_5_method_2_code 0 = .ok (.aload_n 0, 1)) ∧ (decode prog_5_method_2_code 1 = .ok (.iload_n 1, 1)) ∧ (decode prog_5_method_2_code 2 = .ok (.putfield 15, 3)) ∧ (decode prog_5_method_2_code 5 = .ok (.aload_n 0, 1)) ∧ (decode prog_5_method_2_code 6 = .ok (.getfield 35, 3)) ∧ (decode prog_5_method_2_code 9 = .ok (.iconst 0, 1)) ∧ (decode prog_5_method_2_code 10 = .ok (.putfield 38, 3)) ∧ (decode prog_5_method_2_code 13 = .ok (.return_, 1)) := by decide +kernel
theorem d_RS_begin_0 : decode prog_5_method_2_code 0 = .ok (.aload_n 0, 1) := gd_RS_begin_0.1
theorem d_RS_begin_1 : decode prog_5_method_2_code 1 = .ok (.iload_n 1, 1) := gd_RS_begin_0.2.1
theorem d_RS_begin_2 : decode prog_5_method_2_code 2 = .ok (.putfield 15, 3) := gd_RS_begin_0.2.2.1
theorem d_RS_begin_5 : decode prog_5_method_2_code 5 = .ok (.aload_n 0, 1) := gd_RS_begin_0.2.2.2.1
theorem d_RS_begin_6 : decode prog_5_method_2_code 6 = .ok (.getfield 35, 3) := gd_RS_begin_0.2.2.2.2.1
theorem d_RS_begin_9 : decode prog_5_method_2_code 9 = .ok (.iconst 0, 1) := gd_RS_begin_0.2.2.2.2.2.1
theorem d_RS_begin_10 : decode prog_5_method_2_code 10 = .ok (.putfield 38, 3) := gd_RS_begin_0.2.2.2.2.2.2.1
theorem d_RS_begin_13 : decode prog_5_method_2_code 13 = .ok (.return_, 1) := gd_RS_begin_0.2.2.2.2.2.2.2
theorem gd_RS_difference_0 : (decode prog_5_method_5_code 0 = .ok (.iconst 2, 1)) ∧ (decode prog_5_method_5_code 1 = .ok (.aload_n 0, 1)) ∧ (decode prog_5_method_5_code 2 = .ok (.getfield 31, 3)) ∧ (decode prog_5_method_5_code 5 = .ok (.getfield 60, 3)) ∧ (decode prog_5_method_5_code 8 = .ok (.iload_n 2, 1)) ∧ (decode prog_5_method_5_code 9 = .ok (.iaload, 1)) ∧ (decode prog_5_method_5_code 10 = .ok (.imul, 1)) ∧ (decode prog_5_method_5_code 11 = .ok (.aload_n 0, 1)) ∧ (decode prog_5_method_5_code 12 = .ok (.getfield 31, 3)) ∧ (decode prog_5_method_5_code 15 = .ok (.getfield 63, 3)) := by decide +kernel
theorem d_RS_difference_0 : decode prog_5_method_5_code 0 = .ok (.iconst 2, 1) := gd_RS_difference_0.1
theorem d_RS_difference_1 : decode prog_5_method_5_code 1 = .ok (.aload_n 0, 1) := gd_RS_difference_0.2.1
theorem d_RS_difference_2 : decode prog_5_method_5_code 2 = .ok (.getfield 31, 3) := gd_RS_difference_0.2.2.1
theorem d_RS_difference_5 : decode prog_5_method_5_code 5 = .ok (.getfield 60, 3) := gd_RS_difference_0.2.2.2.1
theorem d_RS_difference_8 : decode prog_5_method_5_code 8 = .ok (.iload_n 2, 1) := gd_RS_difference_0.2.2.2.2.1
theorem d_RS_difference_9 : decode prog_5_method_5_code 9 = .ok (.iaload, 1) := gd_RS_difference_0.2.2.2.2.2.1
theorem d_RS_difference_10 : decode prog_5_method_5_code 10 = .ok (.imul, 1) := gd_RS_difference_0.2.2.2.2.2.2.1
theorem d_RS_difference_11 : decode prog_5_method_5_code 11 = .ok (.aload_n 0, 1) := gd_RS_difference_0.2.2.2.2.2.2.2.1
theorem d_RS_difference_12 : decode prog_5_method_5_code 12 = .ok (.getfield 31, 3) := gd_RS_difference_0.2.2.2.2.2.2.2.2.1
theorem d_RS_difference_15 : decode prog_5_method_5_code 15 = .ok (.getfield 63, 3) := gd_RS_difference_0.2.2.2.2.2.2.2.2.2
theorem gd_RS_difference_18 : (decode prog_5_method_5_code 18 = .ok (.iload_n 2, 1)) ∧ (decode prog_5_method_5_code 19 = .ok (.iaload, 1)) ∧ (decode prog_5_method_5_code 20 = .ok (.iadd, 1)) ∧ (decode prog_5_method_5_code 21 = .ok (.istore_n 3, 1)) ∧ (decode prog_5_method_5_code 22 = .ok (.iconst 2, 1)) ∧ (decode prog_5_method_5_code 23 = .ok (.aload_n 0, 1)) ∧ (decode prog_5_method_5_code 24 = .ok (.getfield 31, 3)) ∧ (decode prog_5_method_5_code 27 = .ok (.getfield 60, 3)) ∧ (decode prog_5_method_5_code 30 = .ok (.iload_n 2, 1)) ∧ (decode prog_5_method_5_code 31 = .ok (.iaload, 1)) := by decide +kernel
theorem d_RS_difference_18 : decode prog_5_method_5_code 18 = .ok (.iload_n 2, 1) := gd_RS_difference_18.1
theorem d_RS_difference_19 : decode prog_5_method_5_code 19 = .ok (.iaload, 1) := gd_RS_difference_18.2.1
theorem d_RS_difference_20 : decode prog_5_method_5_code 20 = .ok (.iadd, 1) := gd_RS_difference_18.2.2.1
theorem d_RS_difference_21 : decode prog_5_method_5_code 21 = .ok (.istore_n 3, 1) := gd_RS_difference_18.2.2.2.1
theorem d_RS_difference_22 : decode prog_5_method_5_code 22 = .ok (.iconst 2, 1) := gd_RS_difference_18.2.2.2.2.1
theorem d_RS_difference_23 : decode prog_5_method_5_code 23 = .ok (.aload_n 0, 1) := gd_RS_difference_18.2.2.2.2.2.1
theorem d_RS_difference_24 : decode prog_5_method_5_code 24 = .ok (.getfield 31, 3) := gd_RS_difference_18.2.2.2.2.2.2.1
theorem d_RS_difference_27 : decode prog_5_method_5_code 27 = .ok (.getfield 60, 3) := gd_RS_difference_18.2.2.2.2.2.2.2.1
theorem d_RS_difference_30 : decode prog_5_method_5_code 30 = .ok (.iload_n 2, 1) := gd_RS_difference_18.2.2.2.2.2.2.2.2.1
theorem d_RS_difference_31 : decode prog_5_method_5_code 31 = .ok (.iaload, 1) := gd_RS_difference_18.2.2.2.2.2.2.2.2.2
theorem gd_RS_difference_32 : (decode prog_5_method_5_code 32 = .ok (.imul, 1)) ∧ (decode prog_5_method_5_code 33 = .ok (.iconst 1, 1)) ∧ (decode prog_5_method_5_code 34 = .ok (.iadd, 1)) ∧ (decode prog_5_method_5_code 35 = .ok (.aload_n 0, 1)) ∧ (decode prog_5_method_5_code 36 = .ok (.getfield 31, 3)) ∧ (decode prog_5_method_5_code 39 = .ok (.getfield 63, 3)) ∧ (decode prog_5_method_5_code 42 = .ok (.iload_n 2, 1)) ∧ (decode prog_5_method_5_code 43 = .ok (.iaload, 1)) ∧ (decode prog_5_method_5_code 44 = .ok (.isub, 1)) ∧ (decode prog_5_method_5_code 45 = .ok (.istore 4, 2)) := by decide +kernel
theorem d_RS_difference_32 : decode prog_5_method_5_code 32 = .ok (.imul, 1) := gd_RS_difference_32.1
theorem d_RS_difference_33 : decode prog_5_method_5_code 33 = .ok (.iconst 1, 1) := gd_RS_difference_32.2.1
theorem d_RS_difference_34 : decode prog_5_method_5_code 34 = .ok (.iadd, 1) := gd_RS_difference_32.2.2.1
theorem d_RS_difference_35 : decode prog_5_method_5_code 35 = .ok (.aload_n 0, 1) := gd_RS_difference_32.2.2.2.1
theorem d_RS_difference_36 : decode prog_5_method_5_code 36 = .ok (.getfield 31, 3) := gd_RS_difference_32.2.2.2.2.1
theorem d_RS_difference_39 : decode prog_5_method_5_code 39 = .ok (.getfield 63, 3) := gd_RS_difference_32.2.2.2.2.2.1
theorem d_RS_difference_42 : decode prog_5_method_5_code 42 = .ok (.iload_n 2, 1) := gd_RS_difference_32.2.2.2.2.2.2.1
theorem d_RS_difference_43 : decode prog_5_method_5_code 43 = .ok (.iaload, 1) := gd_RS_difference_32.2.2.2.2.2.2.2.1
theorem d_RS_difference_44 : decode prog_5_method_5_code 44 = .ok (.isub, 1) := gd_RS_difference_32.2.2.2.2.2.2.2.2.1
theorem d_RS_difference_45 : decode prog_5_method_5_code 45 = .ok (.istore 4, 2) := gd_RS_difference_32.2.2.2.2.2.2.2.2.2
theorem gd_RS_difference_47 : (decode prog_5_method_5_code 47 = .ok (.aload_n 1, 1)) ∧ (decode prog_5_method_5_code 48 = .ok (.getfield 54, 3)) ∧ (decode prog_5_method_5_code 51 = .ok (.iload_n 3, 1)) ∧ (decode prog_5_method_5_code 52 = .ok (.iaload, 1)) ∧ (decode prog_5_method_5_code 53 = .ok (.aload_n 1, 1)) ∧ (decode prog_5_method_5_code 54 = .ok (.getfield 54, 3)) ∧ (decode prog_5_method_5_code 57 = .ok (.iload 4, 2)) ∧ (decode prog_5_method_5_code 59 = .ok (.iaload, 1)) ∧ (decode prog_5_method_5_code 60 = .ok (.isub, 1)) ∧ (decode prog_5_method_5_code 61 = .ok (.ireturn, 1)) := by decide +kernel
theorem d_RS_difference_47 : decode prog_5_method_5_code 47 = .ok (.aload_n 1, 1) := gd_RS_difference_47.1
theorem d_RS_difference_48 : decode prog_5_method_5_code 48 = .ok (.getfield 54, 3) := gd_RS_difference_47.2.1
theorem d_RS_difference_51 : decode prog_5_method_5_code 51 = .ok (.iload_n 3, 1) := gd_RS_difference_47.2.2.1
theorem d_RS_difference_52 : decode prog_5_method_5_code 52 = .ok (.iaload, 1) := gd_RS_difference_47.2.2.2.1
theorem d_RS_difference_53 : decode prog_5_method_5_code 53 = .ok (.aload_n 1, 1) := gd_RS_difference_47.2.2.2.2.1
theorem d_RS_difference_54 : decode prog_5_method_5_code 54 = .ok (.getfield 54, 3) := gd_RS_difference_47.2.2.2.2.2.1
theorem d_RS_difference_57 : decode prog_5_method_5_code 57 = .ok (.iload 4, 2) := gd_RS_difference_47.2.2.2.2.2.2.1
theorem d_RS_difference_59 : decode prog_5_method_5_code 59 = .ok (.iaload, 1) := gd_RS_difference_47.2.2.2.2.2.2.2.1
theorem d_RS_difference_60 : decode prog_5_method_5_code 60 = .ok (.isub, 1) := gd_RS_difference_47.2.2.2.2.2.2.2.2.1
theorem d_RS_difference_61 : decode prog_5_method_5_code 61 = .ok (.ireturn, 1) := gd_RS_difference_47.2.2.2.2.2.2.2.2.2
theorem gd_RS_leastPayingSide_0 : (decode prog_5_method_4_code 0 = .ok (.ldc 53, 2)) ∧ (decode prog_5_method_4_code 2 = .ok (.istore_n 2, 1)) ∧ (decode prog_5_method_4_code 3 = .ok (.iconst 0, 1)) ∧ (decode prog_5_method_4_code 4 = .ok (.istore_n 3, 1)) ∧ (decode prog_5_method_4_code 5 = .ok (.iload_n 3, 1)) ∧ (decode prog_5_method_4_code 6 = .ok (.aload_n 0, 1)) ∧ (decode prog_5_method_4_code 7 = .ok (.getfield 31, 3)) ∧ (decode prog_5_method_4_code 10 = .ok (.getfield 38, 3)) ∧ (decode prog_5_method_4_code 13 = .ok (.if_icmp .ge 40, 3)) ∧ (decode prog_5_method_4_code 53 = .ok (.iload_n 2, 1)) := by decide +kernel
theorem d_RS_leastPayingSide_0 : decode prog_5_method_4_code 0 = .ok (.ldc 53, 2) := gd_RS_leastPayingSide_0.1
theorem d_RS_leastPayingSide_2 : decode prog_5_method_4_code 2 = .ok (.istore_n 2, 1) := gd_RS_leastPayingSide_0.2.1
theorem d_RS_leastPayingSide_3 : decode prog_5_method_4_code 3 = .ok (.iconst 0, 1) := gd_RS_leastPayingSide_0.2.2.1
theorem d_RS_leastPayingSide_4 : decode prog_5_method_4_code 4 = .ok (.istore_n 3, 1) := gd_RS_leastPayingSide_0.2.2.2.1
theorem d_RS_leastPayingSide_5 : decode prog_5_method_4_code 5 = .ok (.iload_n 3, 1) := gd_RS_leastPayingSide_0.2.2.2.2.1
theorem d_RS_leastPayingSide_6 : decode prog_5_method_4_code 6 = .ok (.aload_n 0, 1) := gd_RS_leastPayingSide_0.2.2.2.2.2.1
theorem d_RS_leastPayingSide_7 : decode prog_5_method_4_code 7 = .ok (.getfield 31, 3) := gd_RS_leastPayingSide_0.2.2.2.2.2.2.1
theorem d_RS_leastPayingSide_10 : decode prog_5_method_4_code 10 = .ok (.getfield 38, 3) := gd_RS_leastPayingSide_0.2.2.2.2.2.2.2.1
theorem d_RS_leastPayingSide_13 : decode prog_5_method_4_code 13 = .ok (.if_icmp .ge 40, 3) := gd_RS_leastPayingSide_0.2.2.2.2.2.2.2.2.1
theorem d_RS_leastPayingSide_53 : decode prog_5_method_4_code 53 = .ok (.iload_n 2, 1) := gd_RS_leastPayingSide_0.2.2.2.2.2.2.2.2.2
theorem gd_RS_leastPayingSide_54 : (decode prog_5_method_4_code 54 = .ok (.ireturn, 1)) ∧ (decode prog_5_method_4_code 16 = .ok (.iload_n 2, 1)) ∧ (decode prog_5_method_4_code 17 = .ok (.aload_n 1, 1)) ∧ (decode prog_5_method_4_code 18 = .ok (.getfield 54, 3)) ∧ (decode prog_5_method_4_code 21 = .ok (.iconst 2, 1)) ∧ (decode prog_5_method_4_code 22 = .ok (.aload_n 0, 1)) ∧ (decode prog_5_method_4_code 23 = .ok (.getfield 31, 3)) ∧ (decode prog_5_method_4_code 26 = .ok (.getfield 60, 3)) ∧ (decode prog_5_method_4_code 29 = .ok (.iload_n 3, 1)) ∧ (decode prog_5_method_4_code 30 = .ok (.iaload, 1)) := by decide +kernel
theorem d_RS_leastPayingSide_54 : decode prog_5_method_4_code 54 = .ok (.ireturn, 1) := gd_RS_leastPayingSide_54.1
theorem d_RS_leastPayingSide_16 : decode prog_5_method_4_code 16 = .ok (.iload_n 2, 1) := gd_RS_leastPayingSide_54.2.1
theorem d_RS_leastPayingSide_17 : decode prog_5_method_4_code 17 = .ok (.aload_n 1, 1) := gd_RS_leastPayingSide_54.2.2.1
theorem d_RS_leastPayingSide_18 : decode prog_5_method_4_code 18 = .ok (.getfield 54, 3) := gd_RS_leastPayingSide_54.2.2.2.1
theorem d_RS_leastPayingSide_21 : decode prog_5_method_4_code 21 = .ok (.iconst 2, 1) := gd_RS_leastPayingSide_54.2.2.2.2.1
theorem d_RS_leastPayingSide_22 : decode prog_5_method_4_code 22 = .ok (.aload_n 0, 1) := gd_RS_leastPayingSide_54.2.2.2.2.2.1
theorem d_RS_leastPayingSide_23 : decode prog_5_method_4_code 23 = .ok (.getfield 31, 3) := gd_RS_leastPayingSide_54.2.2.2.2.2.2.1
theorem d_RS_leastPayingSide_26 : decode prog_5_method_4_code 26 = .ok (.getfield 60, 3) := gd_RS_leastPayingSide_54.2.2.2.2.2.2.2.1
theorem d_RS_leastPayingSide_29 : decode prog_5_method_4_code 29 = .ok (.iload_n 3, 1) := gd_RS_leastPayingSide_54.2.2.2.2.2.2.2.2.1
theorem d_RS_leastPayingSide_30 : decode prog_5_method_4_code 30 = .ok (.iaload, 1) := gd_RS_leastPayingSide_54.2.2.2.2.2.2.2.2.2
theorem gd_RS_leastPayingSide_31 : (decode prog_5_method_4_code 31 = .ok (.imul, 1)) ∧ (decode prog_5_method_4_code 32 = .ok (.aload_n 0, 1)) ∧ (decode prog_5_method_4_code 33 = .ok (.getfield 31, 3)) ∧ (decode prog_5_method_4_code 36 = .ok (.getfield 63, 3)) ∧ (decode prog_5_method_4_code 39 = .ok (.iload_n 3, 1)) ∧ (decode prog_5_method_4_code 40 = .ok (.iaload, 1)) ∧ (decode prog_5_method_4_code 41 = .ok (.iadd, 1)) ∧ (decode prog_5_method_4_code 42 = .ok (.iaload, 1)) ∧ (decode prog_5_method_4_code 43 = .ok (.invokestatic 66, 3)) ∧ (decode prog_5_method_4_code 46 = .ok (.istore_n 2, 1)) := by decide +kernel
theorem d_RS_leastPayingSide_31 : decode prog_5_method_4_code 31 = .ok (.imul, 1) := gd_RS_leastPayingSide_31.1
theorem d_RS_leastPayingSide_32 : decode prog_5_method_4_code 32 = .ok (.aload_n 0, 1) := gd_RS_leastPayingSide_31.2.1
theorem d_RS_leastPayingSide_33 : decode prog_5_method_4_code 33 = .ok (.getfield 31, 3) := gd_RS_leastPayingSide_31.2.2.1
theorem d_RS_leastPayingSide_36 : decode prog_5_method_4_code 36 = .ok (.getfield 63, 3) := gd_RS_leastPayingSide_31.2.2.2.1
theorem d_RS_leastPayingSide_39 : decode prog_5_method_4_code 39 = .ok (.iload_n 3, 1) := gd_RS_leastPayingSide_31.2.2.2.2.1
theorem d_RS_leastPayingSide_40 : decode prog_5_method_4_code 40 = .ok (.iaload, 1) := gd_RS_leastPayingSide_31.2.2.2.2.2.1
theorem d_RS_leastPayingSide_41 : decode prog_5_method_4_code 41 = .ok (.iadd, 1) := gd_RS_leastPayingSide_31.2.2.2.2.2.2.1
theorem d_RS_leastPayingSide_42 : decode prog_5_method_4_code 42 = .ok (.iaload, 1) := gd_RS_leastPayingSide_31.2.2.2.2.2.2.2.1
theorem d_RS_leastPayingSide_43 : decode prog_5_method_4_code 43 = .ok (.invokestatic 66, 3) := gd_RS_leastPayingSide_31.2.2.2.2.2.2.2.2.1
theorem d_RS_leastPayingSide_46 : decode prog_5_method_4_code 46 = .ok (.istore_n 2, 1) := gd_RS_leastPayingSide_31.2.2.2.2.2.2.2.2.2
theorem gd_RS_leastPayingSide_47 : (decode prog_5_method_4_code 47 = .ok (.iinc 3 1, 3)) ∧ (decode prog_5_method_4_code 50 = .ok (.goto (-45), 3)) := by decide +kernel
theorem d_RS_leastPayingSide_47 : decode prog_5_method_4_code 47 = .ok (.iinc 3 1, 3) := gd_RS_leastPayingSide_47.1
theorem d_RS_leastPayingSide_50 : decode prog_5_method_4_code 50 = .ok (.goto (-45), 3) := gd_RS_leastPayingSide_47.2
theorem gd_RS_isBetter_0 : (decode prog_5_method_7_code 0 = .ok (.aload_n 0, 1)) ∧ (decode prog_5_method_7_code 1 = .ok (.getfield 35, 3)) ∧ (decode prog_5_method_7_code 4 = .ok (.getfield 38, 3)) ∧ (decode prog_5_method_7_code 7 = .ok (.ifCond .eq 11, 3)) ∧ (decode prog_5_method_7_code 18 = .ok (.aload_n 0, 1)) ∧ (decode prog_5_method_7_code 19 = .ok (.getfield 35, 3)) ∧ (decode prog_5_method_7_code 22 = .ok (.getfield 38, 3)) ∧ (decode prog_5_method_7_code 25 = .ok (.ifCond .eq 11, 3)) ∧ (decode prog_5_method_7_code 36 = .ok (.iconst 1, 1)) ∧ (decode prog_5_method_7_code 37 = .ok (.goto 4, 3)) := by decide +kernel
theorem d_RS_isBetter_0 : decode prog_5_method_7_code 0 = .ok (.aload_n 0, 1) := gd_RS_isBetter_0.1
theorem d_RS_isBetter_1 : decode prog_5_method_7_code 1 = .ok (.getfield 35, 3) := gd_RS_isBetter_0.2.1
theorem d_RS_isBetter_4 : decode prog_5_method_7_code 4 = .ok (.getfield 38, 3) := gd_RS_isBetter_0.2.2.1
theorem d_RS_isBetter_7 : decode prog_5_method_7_code 7 = .ok (.ifCond .eq 11, 3) := gd_RS_isBetter_0.2.2.2.1
theorem d_RS_isBetter_18 : decode prog_5_method_7_code 18 = .ok (.aload_n 0, 1) := gd_RS_isBetter_0.2.2.2.2.1
theorem d_RS_isBetter_19 : decode prog_5_method_7_code 19 = .ok (.getfield 35, 3) := gd_RS_isBetter_0.2.2.2.2.2.1
theorem d_RS_isBetter_22 : decode prog_5_method_7_code 22 = .ok (.getfield 38, 3) := gd_RS_isBetter_0.2.2.2.2.2.2.1
theorem d_RS_isBetter_25 : decode prog_5_method_7_code 25 = .ok (.ifCond .eq 11, 3) := gd_RS_isBetter_0.2.2.2.2.2.2.2.1
theorem d_RS_isBetter_36 : decode prog_5_method_7_code 36 = .ok (.iconst 1, 1) := gd_RS_isBetter_0.2.2.2.2.2.2.2.2.1
theorem d_RS_isBetter_37 : decode prog_5_method_7_code 37 = .ok (.goto 4, 3) := gd_RS_isBetter_0.2.2.2.2.2.2.2.2.2
theorem gd_RS_isBetter_41 : (decode prog_5_method_7_code 41 = .ok (.ireturn, 1)) ∧ (decode prog_5_method_7_code 10 = .ok (.iload_n 1, 1)) ∧ (decode prog_5_method_7_code 11 = .ok (.aload_n 0, 1)) ∧ (decode prog_5_method_7_code 12 = .ok (.getfield 18, 3)) ∧ (decode prog_5_method_7_code 15 = .ok (.if_icmp .eq 27, 3)) ∧ (decode prog_5_method_7_code 42 = .ok (.iload_n 2, 1)) ∧ (decode prog_5_method_7_code 43 = .ok (.aload_n 0, 1)) ∧ (decode prog_5_method_7_code 44 = .ok (.getfield 21, 3)) ∧ (decode prog_5_method_7_code 47 = .ok (.if_icmp .lt 25, 3)) ∧ (decode prog_5_method_7_code 72 = .ok (.iconst 1, 1)) := by decide +kernel
theorem d_RS_isBetter_41 : decode prog_5_method_7_code 41 = .ok (.ireturn, 1) := gd_RS_isBetter_41.1
theorem d_RS_isBetter_10 : decode prog_5_method_7_code 10 = .ok (.iload_n 1, 1) := gd_RS_isBetter_41.2.1
theorem d_RS_isBetter_11 : decode prog_5_method_7_code 11 = .ok (.aload_n 0, 1) := gd_RS_isBetter_41.2.2.1
theorem d_RS_isBetter_12 : decode prog_5_method_7_code 12 = .ok (.getfield 18, 3) := gd_RS_isBetter_41.2.2.2.1
theorem d_RS_isBetter_15 : decode prog_5_method_7_code 15 = .ok (.if_icmp .eq 27, 3) := gd_RS_isBetter_41.2.2.2.2.1
theorem d_RS_isBetter_42 : decode prog_5_method_7_code 42 = .ok (.iload_n 2, 1) := gd_RS_isBetter_41.2.2.2.2.2.1
theorem d_RS_isBetter_43 : decode prog_5_method_7_code 43 = .ok (.aload_n 0, 1) := gd_RS_isBetter_41.2.2.2.2.2.2.1
theorem d_RS_isBetter_44 : decode prog_5_method_7_code 44 = .ok (.getfield 21, 3) := gd_RS_isBetter_41.2.2.2.2.2.2.2.1
theorem d_RS_isBetter_47 : decode prog_5_method_7_code 47 = .ok (.if_icmp .lt 25, 3) := gd_RS_isBetter_41.2.2.2.2.2.2.2.2.1
theorem d_RS_isBetter_72 : decode prog_5_method_7_code 72 = .ok (.iconst 1, 1) := gd_RS_isBetter_41.2.2.2.2.2.2.2.2.2
theorem gd_RS_isBetter_73 : (decode prog_5_method_7_code 73 = .ok (.goto 4, 3)) ∧ (decode prog_5_method_7_code 77 = .ok (.ireturn, 1)) ∧ (decode prog_5_method_7_code 50 = .ok (.iload_n 2, 1)) ∧ (decode prog_5_method_7_code 51 = .ok (.aload_n 0, 1)) ∧ (decode prog_5_method_7_code 52 = .ok (.getfield 21, 3)) ∧ (decode prog_5_method_7_code 55 = .ok (.if_icmp .ne 21, 3)) ∧ (decode prog_5_method_7_code 76 = .ok (.iconst 0, 1)) ∧ (decode prog_5_method_7_code 58 = .ok (.aload_n 0, 1)) ∧ (decode prog_5_method_7_code 59 = .ok (.getfield 31, 3)) ∧ (decode prog_5_method_7_code 62 = .ok (.aload_n 0, 1)) := by decide +kernel
theorem d_RS_isBetter_73 : decode prog_5_method_7_code 73 = .ok (.goto 4, 3) := gd_RS_isBetter_73.1
theorem d_RS_isBetter_77 : decode prog_5_method_7_code 77 = .ok (.ireturn, 1) := gd_RS_isBetter_73.2.1
theorem d_RS_isBetter_50 : decode prog_5_method_7_code 50 = .ok (.iload_n 2, 1) := gd_RS_isBetter_73.2.2.1
theorem d_RS_isBetter_51 : decode prog_5_method_7_code 51 = .ok (.aload_n 0, 1) := gd_RS_isBetter_73.2.2.2.1
theorem d_RS_isBetter_52 : decode prog_5_method_7_code 52 = .ok (.getfield 21, 3) := gd_RS_isBetter_73.2.2.2.2.1
theorem d_RS_isBetter_55 : decode prog_5_method_7_code 55 = .ok (.if_icmp .ne 21, 3) := gd_RS_isBetter_73.2.2.2.2.2.1
theorem d_RS_isBetter_76 : decode prog_5_method_7_code 76 = .ok (.iconst 0, 1) := gd_RS_isBetter_73.2.2.2.2.2.2.1
theorem d_RS_isBetter_58 : decode prog_5_method_7_code 58 = .ok (.aload_n 0, 1) := gd_RS_isBetter_73.2.2.2.2.2.2.2.1
theorem d_RS_isBetter_59 : decode prog_5_method_7_code 59 = .ok (.getfield 31, 3) := gd_RS_isBetter_73.2.2.2.2.2.2.2.2.1
theorem d_RS_isBetter_62 : decode prog_5_method_7_code 62 = .ok (.aload_n 0, 1) := gd_RS_isBetter_73.2.2.2.2.2.2.2.2.2
theorem gd_RS_isBetter_63 : (decode prog_5_method_7_code 63 = .ok (.getfield 35, 3)) ∧ (decode prog_5_method_7_code 66 = .ok (.invokevirtual 88, 3)) ∧ (decode prog_5_method_7_code 69 = .ok (.ifCond .eq 7, 3)) ∧ (decode prog_5_method_7_code 28 = .ok (.iload_n 1, 1)) ∧ (decode prog_5_method_7_code 29 = .ok (.aload_n 0, 1)) ∧ (decode prog_5_method_7_code 30 = .ok (.getfield 18, 3)) ∧ (decode prog_5_method_7_code 33 = .ok (.if_icmp .ge 7, 3)) ∧ (decode prog_5_method_7_code 40 = .ok (.iconst 0, 1)) := by decide +kernel
theorem d_RS_isBetter_63 : decode prog_5_method_7_code 63 = .ok (.getfield 35, 3) := gd_RS_isBetter_63.1
theorem d_RS_isBetter_66 : decode prog_5_method_7_code 66 = .ok (.invokevirtual 88, 3) := gd_RS_isBetter_63.2.1
theorem d_RS_isBetter_69 : decode prog_5_method_7_code 69 = .ok (.ifCond .eq 7, 3) := gd_RS_isBetter_63.2.2.1
theorem d_RS_isBetter_28 : decode prog_5_method_7_code 28 = .ok (.iload_n 1, 1) := gd_RS_isBetter_63.2.2.2.1
theorem d_RS_isBetter_29 : decode prog_5_method_7_code 29 = .ok (.aload_n 0, 1) := gd_RS_isBetter_63.2.2.2.2.1
theorem d_RS_isBetter_30 : decode prog_5_method_7_code 30 = .ok (.getfield 18, 3) := gd_RS_isBetter_63.2.2.2.2.2.1
theorem d_RS_isBetter_33 : decode prog_5_method_7_code 33 = .ok (.if_icmp .ge 7, 3) := gd_RS_isBetter_63.2.2.2.2.2.2.1
theorem d_RS_isBetter_40 : decode prog_5_method_7_code 40 = .ok (.iconst 0, 1) := gd_RS_isBetter_63.2.2.2.2.2.2.2
theorem gd_RS_weigh_0 : (decode prog_5_method_6_code 0 = .ok (.iload_n 2, 1)) ∧ (decode prog_5_method_6_code 1 = .ok (.iconst 1, 1)) ∧ (decode prog_5_method_6_code 2 = .ok (.iload_n 3, 1)) ∧ (decode prog_5_method_6_code 3 = .ok (.invokestatic 72, 3)) ∧ (decode prog_5_method_6_code 6 = .ok (.ifCond .ne 4, 3)) ∧ (decode prog_5_method_6_code 10 = .ok (.aload_n 0, 1)) ∧ (decode prog_5_method_6_code 11 = .ok (.getfield 15, 3)) ∧ (decode prog_5_method_6_code 14 = .ok (.istore 4, 2)) ∧ (decode prog_5_method_6_code 16 = .ok (.iconst 0, 1)) ∧ (decode prog_5_method_6_code 17 = .ok (.istore 5, 2)) := by decide +kernel
theorem d_RS_weigh_0 : decode prog_5_method_6_code 0 = .ok (.iload_n 2, 1) := gd_RS_weigh_0.1
theorem d_RS_weigh_1 : decode prog_5_method_6_code 1 = .ok (.iconst 1, 1) := gd_RS_weigh_0.2.1
theorem d_RS_weigh_2 : decode prog_5_method_6_code 2 = .ok (.iload_n 3, 1) := gd_RS_weigh_0.2.2.1
theorem d_RS_weigh_3 : decode prog_5_method_6_code 3 = .ok (.invokestatic 72, 3) := gd_RS_weigh_0.2.2.2.1
theorem d_RS_weigh_6 : decode prog_5_method_6_code 6 = .ok (.ifCond .ne 4, 3) := gd_RS_weigh_0.2.2.2.2.1
theorem d_RS_weigh_10 : decode prog_5_method_6_code 10 = .ok (.aload_n 0, 1) := gd_RS_weigh_0.2.2.2.2.2.1
theorem d_RS_weigh_11 : decode prog_5_method_6_code 11 = .ok (.getfield 15, 3) := gd_RS_weigh_0.2.2.2.2.2.2.1
theorem d_RS_weigh_14 : decode prog_5_method_6_code 14 = .ok (.istore 4, 2) := gd_RS_weigh_0.2.2.2.2.2.2.2.1
theorem d_RS_weigh_16 : decode prog_5_method_6_code 16 = .ok (.iconst 0, 1) := gd_RS_weigh_0.2.2.2.2.2.2.2.2.1
theorem d_RS_weigh_17 : decode prog_5_method_6_code 17 = .ok (.istore 5, 2) := gd_RS_weigh_0.2.2.2.2.2.2.2.2.2
theorem gd_RS_weigh_19 : (decode prog_5_method_6_code 19 = .ok (.iload 5, 2)) ∧ (decode prog_5_method_6_code 21 = .ok (.aload_n 0, 1)) ∧ (decode prog_5_method_6_code 22 = .ok (.getfield 31, 3)) ∧ (decode prog_5_method_6_code 25 = .ok (.getfield 38, 3)) ∧ (decode prog_5_method_6_code 28 = .ok (.if_icmp .ge 38, 3)) ∧ (decode prog_5_method_6_code 66 = .ok (.iload 4, 2)) ∧ (decode prog_5_method_6_code 68 = .ok (.aload_n 0, 1)) ∧ (decode prog_5_method_6_code 69 = .ok (.getfield 15, 3)) ∧ (decode prog_5_method_6_code 72 = .ok (.if_icmp .ge 35, 3)) ∧ (decode prog_5_method_6_code 107 = .ok (.return_, 1)) := by decide +kernel
theorem d_RS_weigh_19 : decode prog_5_method_6_code 19 = .ok (.iload 5, 2) := gd_RS_weigh_19.1
theorem d_RS_weigh_21 : decode prog_5_method_6_code 21 = .ok (.aload_n 0, 1) := gd_RS_weigh_19.2.1
theorem d_RS_weigh_22 : decode prog_5_method_6_code 22 = .ok (.getfield 31, 3) := gd_RS_weigh_19.2.2.1
theorem d_RS_weigh_25 : decode prog_5_method_6_code 25 = .ok (.getfield 38, 3) := gd_RS_weigh_19.2.2.2.1
theorem d_RS_weigh_28 : decode prog_5_method_6_code 28 = .ok (.if_icmp .ge 38, 3) := gd_RS_weigh_19.2.2.2.2.1
theorem d_RS_weigh_66 : decode prog_5_method_6_code 66 = .ok (.iload 4, 2) := gd_RS_weigh_19.2.2.2.2.2.1
theorem d_RS_weigh_68 : decode prog_5_method_6_code 68 = .ok (.aload_n 0, 1) := gd_RS_weigh_19.2.2.2.2.2.2.1
theorem d_RS_weigh_69 : decode prog_5_method_6_code 69 = .ok (.getfield 15, 3) := gd_RS_weigh_19.2.2.2.2.2.2.2.1
theorem d_RS_weigh_72 : decode prog_5_method_6_code 72 = .ok (.if_icmp .ge 35, 3) := gd_RS_weigh_19.2.2.2.2.2.2.2.2.1
theorem d_RS_weigh_107 : decode prog_5_method_6_code 107 = .ok (.return_, 1) := gd_RS_weigh_19.2.2.2.2.2.2.2.2.2
theorem gd_RS_weigh_75 : (decode prog_5_method_6_code 75 = .ok (.aload_n 0, 1)) ∧ (decode prog_5_method_6_code 76 = .ok (.iload 4, 2)) ∧ (decode prog_5_method_6_code 78 = .ok (.iload_n 2, 1)) ∧ (decode prog_5_method_6_code 79 = .ok (.invokevirtual 80, 3)) ∧ (decode prog_5_method_6_code 82 = .ok (.ifCond .eq 25, 3)) ∧ (decode prog_5_method_6_code 85 = .ok (.aload_n 0, 1)) ∧ (decode prog_5_method_6_code 86 = .ok (.getfield 35, 3)) ∧ (decode prog_5_method_6_code 89 = .ok (.aload_n 0, 1)) ∧ (decode prog_5_method_6_code 90 = .ok (.getfield 31, 3)) ∧ (decode prog_5_method_6_code 93 = .ok (.invokevirtual 84, 3)) := by decide +kernel
theorem d_RS_weigh_75 : decode prog_5_method_6_code 75 = .ok (.aload_n 0, 1) := gd_RS_weigh_75.1
theorem d_RS_weigh_76 : decode prog_5_method_6_code 76 = .ok (.iload 4, 2) := gd_RS_weigh_75.2.1
theorem d_RS_weigh_78 : decode prog_5_method_6_code 78 = .ok (.iload_n 2, 1) := gd_RS_weigh_75.2.2.1
theorem d_RS_weigh_79 : decode prog_5_method_6_code 79 = .ok (.invokevirtual 80, 3) := gd_RS_weigh_75.2.2.2.1
theorem d_RS_weigh_82 : decode prog_5_method_6_code 82 = .ok (.ifCond .eq 25, 3) := gd_RS_weigh_75.2.2.2.2.1
theorem d_RS_weigh_85 : decode prog_5_method_6_code 85 = .ok (.aload_n 0, 1) := gd_RS_weigh_75.2.2.2.2.2.1
theorem d_RS_weigh_86 : decode prog_5_method_6_code 86 = .ok (.getfield 35, 3) := gd_RS_weigh_75.2.2.2.2.2.2.1
theorem d_RS_weigh_89 : decode prog_5_method_6_code 89 = .ok (.aload_n 0, 1) := gd_RS_weigh_75.2.2.2.2.2.2.2.1
theorem d_RS_weigh_90 : decode prog_5_method_6_code 90 = .ok (.getfield 31, 3) := gd_RS_weigh_75.2.2.2.2.2.2.2.2.1
theorem d_RS_weigh_93 : decode prog_5_method_6_code 93 = .ok (.invokevirtual 84, 3) := gd_RS_weigh_75.2.2.2.2.2.2.2.2.2
theorem gd_RS_weigh_96 : (decode prog_5_method_6_code 96 = .ok (.aload_n 0, 1)) ∧ (decode prog_5_method_6_code 97 = .ok (.iload 4, 2)) ∧ (decode prog_5_method_6_code 99 = .ok (.putfield 18, 3)) ∧ (decode prog_5_method_6_code 102 = .ok (.aload_n 0, 1)) ∧ (decode prog_5_method_6_code 103 = .ok (.iload_n 2, 1)) ∧ (decode prog_5_method_6_code 104 = .ok (.putfield 21, 3)) ∧ (decode prog_5_method_6_code 31 = .ok (.aload_n 0, 1)) ∧ (decode prog_5_method_6_code 32 = .ok (.aload_n 1, 1)) ∧ (decode prog_5_method_6_code 33 = .ok (.iload 5, 2)) ∧ (decode prog_5_method_6_code 35 = .ok (.invokevirtual 49, 3)) := by decide +kernel
theorem d_RS_weigh_96 : decode prog_5_method_6_code 96 = .ok (.aload_n 0, 1) := gd_RS_weigh_96.1
theorem d_RS_weigh_97 : decode prog_5_method_6_code 97 = .ok (.iload 4, 2) := gd_RS_weigh_96.2.1
theorem d_RS_weigh_99 : decode prog_5_method_6_code 99 = .ok (.putfield 18, 3) := gd_RS_weigh_96.2.2.1
theorem d_RS_weigh_102 : decode prog_5_method_6_code 102 = .ok (.aload_n 0, 1) := gd_RS_weigh_96.2.2.2.1
theorem d_RS_weigh_103 : decode prog_5_method_6_code 103 = .ok (.iload_n 2, 1) := gd_RS_weigh_96.2.2.2.2.1
theorem d_RS_weigh_104 : decode prog_5_method_6_code 104 = .ok (.putfield 21, 3) := gd_RS_weigh_96.2.2.2.2.2.1
theorem d_RS_weigh_31 : decode prog_5_method_6_code 31 = .ok (.aload_n 0, 1) := gd_RS_weigh_96.2.2.2.2.2.2.1
theorem d_RS_weigh_32 : decode prog_5_method_6_code 32 = .ok (.aload_n 1, 1) := gd_RS_weigh_96.2.2.2.2.2.2.2.1
theorem d_RS_weigh_33 : decode prog_5_method_6_code 33 = .ok (.iload 5, 2) := gd_RS_weigh_96.2.2.2.2.2.2.2.2.1
theorem d_RS_weigh_35 : decode prog_5_method_6_code 35 = .ok (.invokevirtual 49, 3) := gd_RS_weigh_96.2.2.2.2.2.2.2.2.2
theorem gd_RS_weigh_38 : (decode prog_5_method_6_code 38 = .ok (.istore 6, 2)) ∧ (decode prog_5_method_6_code 40 = .ok (.iload 4, 2)) ∧ (decode prog_5_method_6_code 42 = .ok (.iload 6, 2)) ∧ (decode prog_5_method_6_code 44 = .ok (.iconst 2, 1)) ∧ (decode prog_5_method_6_code 45 = .ok (.iload_n 2, 1)) ∧ (decode prog_5_method_6_code 46 = .ok (.imul, 1)) ∧ (decode prog_5_method_6_code 47 = .ok (.isub, 1)) ∧ (decode prog_5_method_6_code 48 = .ok (.invokestatic 76, 3)) ∧ (decode prog_5_method_6_code 51 = .ok (.iload 6, 2)) ∧ (decode prog_5_method_6_code 53 = .ok (.invokestatic 76, 3)) := by decide +kernel
theorem d_RS_weigh_38 : decode prog_5_method_6_code 38 = .ok (.istore 6, 2) := gd_RS_weigh_38.1
theorem d_RS_weigh_40 : decode prog_5_method_6_code 40 = .ok (.iload 4, 2) := gd_RS_weigh_38.2.1
theorem d_RS_weigh_42 : decode prog_5_method_6_code 42 = .ok (.iload 6, 2) := gd_RS_weigh_38.2.2.1
theorem d_RS_weigh_44 : decode prog_5_method_6_code 44 = .ok (.iconst 2, 1) := gd_RS_weigh_38.2.2.2.1
theorem d_RS_weigh_45 : decode prog_5_method_6_code 45 = .ok (.iload_n 2, 1) := gd_RS_weigh_38.2.2.2.2.1
theorem d_RS_weigh_46 : decode prog_5_method_6_code 46 = .ok (.imul, 1) := gd_RS_weigh_38.2.2.2.2.2.1
theorem d_RS_weigh_47 : decode prog_5_method_6_code 47 = .ok (.isub, 1) := gd_RS_weigh_38.2.2.2.2.2.2.1
theorem d_RS_weigh_48 : decode prog_5_method_6_code 48 = .ok (.invokestatic 76, 3) := gd_RS_weigh_38.2.2.2.2.2.2.2.1
theorem d_RS_weigh_51 : decode prog_5_method_6_code 51 = .ok (.iload 6, 2) := gd_RS_weigh_38.2.2.2.2.2.2.2.2.1
theorem d_RS_weigh_53 : decode prog_5_method_6_code 53 = .ok (.invokestatic 76, 3) := gd_RS_weigh_38.2.2.2.2.2.2.2.2.2
theorem gd_RS_weigh_56 : (decode prog_5_method_6_code 56 = .ok (.isub, 1)) ∧ (decode prog_5_method_6_code 57 = .ok (.iadd, 1)) ∧ (decode prog_5_method_6_code 58 = .ok (.istore 4, 2)) ∧ (decode prog_5_method_6_code 60 = .ok (.iinc 5 1, 3)) ∧ (decode prog_5_method_6_code 63 = .ok (.goto (-44), 3)) ∧ (decode prog_5_method_6_code 9 = .ok (.return_, 1)) := by decide +kernel
theorem d_RS_weigh_56 : decode prog_5_method_6_code 56 = .ok (.isub, 1) := gd_RS_weigh_56.1
theorem d_RS_weigh_57 : decode prog_5_method_6_code 57 = .ok (.iadd, 1) := gd_RS_weigh_56.2.1
theorem d_RS_weigh_58 : decode prog_5_method_6_code 58 = .ok (.istore 4, 2) := gd_RS_weigh_56.2.2.1
theorem d_RS_weigh_60 : decode prog_5_method_6_code 60 = .ok (.iinc 5 1, 3) := gd_RS_weigh_56.2.2.2.1
theorem d_RS_weigh_63 : decode prog_5_method_6_code 63 = .ok (.goto (-44), 3) := gd_RS_weigh_56.2.2.2.2.1
theorem d_RS_weigh_9 : decode prog_5_method_6_code 9 = .ok (.return_, 1) := gd_RS_weigh_56.2.2.2.2.2
theorem gd_RS_offer_0 : (decode prog_5_method_3_code 0 = .ok (.iload_n 2, 1)) ∧ (decode prog_5_method_3_code 1 = .ok (.iconst 3, 1)) ∧ (decode prog_5_method_3_code 2 = .ok (.if_icmp .ge 4, 3)) ∧ (decode prog_5_method_3_code 6 = .ok (.aload_n 0, 1)) ∧ (decode prog_5_method_3_code 7 = .ok (.getfield 31, 3)) ∧ (decode prog_5_method_3_code 10 = .ok (.iload_n 2, 1)) ∧ (decode prog_5_method_3_code 11 = .ok (.putfield 38, 3)) ∧ (decode prog_5_method_3_code 14 = .ok (.aload_n 0, 1)) ∧ (decode prog_5_method_3_code 15 = .ok (.aload_n 1, 1)) ∧ (decode prog_5_method_3_code 16 = .ok (.invokevirtual 41, 3)) := by decide +kernel
theorem d_RS_offer_0 : decode prog_5_method_3_code 0 = .ok (.iload_n 2, 1) := gd_RS_offer_0.1
theorem d_RS_offer_1 : decode prog_5_method_3_code 1 = .ok (.iconst 3, 1) := gd_RS_offer_0.2.1
theorem d_RS_offer_2 : decode prog_5_method_3_code 2 = .ok (.if_icmp .ge 4, 3) := gd_RS_offer_0.2.2.1
theorem d_RS_offer_6 : decode prog_5_method_3_code 6 = .ok (.aload_n 0, 1) := gd_RS_offer_0.2.2.2.1
theorem d_RS_offer_7 : decode prog_5_method_3_code 7 = .ok (.getfield 31, 3) := gd_RS_offer_0.2.2.2.2.1
theorem d_RS_offer_10 : decode prog_5_method_3_code 10 = .ok (.iload_n 2, 1) := gd_RS_offer_0.2.2.2.2.2.1
theorem d_RS_offer_11 : decode prog_5_method_3_code 11 = .ok (.putfield 38, 3) := gd_RS_offer_0.2.2.2.2.2.2.1
theorem d_RS_offer_14 : decode prog_5_method_3_code 14 = .ok (.aload_n 0, 1) := gd_RS_offer_0.2.2.2.2.2.2.2.1
theorem d_RS_offer_15 : decode prog_5_method_3_code 15 = .ok (.aload_n 1, 1) := gd_RS_offer_0.2.2.2.2.2.2.2.2.1
theorem d_RS_offer_16 : decode prog_5_method_3_code 16 = .ok (.invokevirtual 41, 3) := gd_RS_offer_0.2.2.2.2.2.2.2.2.2
theorem gd_RS_offer_19 : (decode prog_5_method_3_code 19 = .ok (.istore_n 3, 1)) ∧ (decode prog_5_method_3_code 20 = .ok (.aload_n 0, 1)) ∧ (decode prog_5_method_3_code 21 = .ok (.aload_n 1, 1)) ∧ (decode prog_5_method_3_code 22 = .ok (.iload_n 3, 1)) ∧ (decode prog_5_method_3_code 23 = .ok (.iload_n 3, 1)) ∧ (decode prog_5_method_3_code 24 = .ok (.invokevirtual 45, 3)) ∧ (decode prog_5_method_3_code 27 = .ok (.iconst 0, 1)) ∧ (decode prog_5_method_3_code 28 = .ok (.istore 4, 2)) ∧ (decode prog_5_method_3_code 30 = .ok (.iload 4, 2)) ∧ (decode prog_5_method_3_code 32 = .ok (.iload_n 2, 1)) := by decide +kernel
theorem d_RS_offer_19 : decode prog_5_method_3_code 19 = .ok (.istore_n 3, 1) := gd_RS_offer_19.1
theorem d_RS_offer_20 : decode prog_5_method_3_code 20 = .ok (.aload_n 0, 1) := gd_RS_offer_19.2.1
theorem d_RS_offer_21 : decode prog_5_method_3_code 21 = .ok (.aload_n 1, 1) := gd_RS_offer_19.2.2.1
theorem d_RS_offer_22 : decode prog_5_method_3_code 22 = .ok (.iload_n 3, 1) := gd_RS_offer_19.2.2.2.1
theorem d_RS_offer_23 : decode prog_5_method_3_code 23 = .ok (.iload_n 3, 1) := gd_RS_offer_19.2.2.2.2.1
theorem d_RS_offer_24 : decode prog_5_method_3_code 24 = .ok (.invokevirtual 45, 3) := gd_RS_offer_19.2.2.2.2.2.1
theorem d_RS_offer_27 : decode prog_5_method_3_code 27 = .ok (.iconst 0, 1) := gd_RS_offer_19.2.2.2.2.2.2.1
theorem d_RS_offer_28 : decode prog_5_method_3_code 28 = .ok (.istore 4, 2) := gd_RS_offer_19.2.2.2.2.2.2.2.1
theorem d_RS_offer_30 : decode prog_5_method_3_code 30 = .ok (.iload 4, 2) := gd_RS_offer_19.2.2.2.2.2.2.2.2.1
theorem d_RS_offer_32 : decode prog_5_method_3_code 32 = .ok (.iload_n 2, 1) := gd_RS_offer_19.2.2.2.2.2.2.2.2.2
theorem gd_RS_offer_33 : (decode prog_5_method_3_code 33 = .ok (.if_icmp .ge 41, 3)) ∧ (decode prog_5_method_3_code 74 = .ok (.return_, 1)) ∧ (decode prog_5_method_3_code 36 = .ok (.aload_n 0, 1)) ∧ (decode prog_5_method_3_code 37 = .ok (.aload_n 1, 1)) ∧ (decode prog_5_method_3_code 38 = .ok (.iload 4, 2)) ∧ (decode prog_5_method_3_code 40 = .ok (.invokevirtual 49, 3)) ∧ (decode prog_5_method_3_code 43 = .ok (.istore 5, 2)) ∧ (decode prog_5_method_3_code 45 = .ok (.aload_n 0, 1)) ∧ (decode prog_5_method_3_code 46 = .ok (.aload_n 1, 1)) ∧ (decode prog_5_method_3_code 47 = .ok (.iload 5, 2)) := by decide +kernel
theorem d_RS_offer_33 : decode prog_5_method_3_code 33 = .ok (.if_icmp .ge 41, 3) := gd_RS_offer_33.1
theorem d_RS_offer_74 : decode prog_5_method_3_code 74 = .ok (.return_, 1) := gd_RS_offer_33.2.1
theorem d_RS_offer_36 : decode prog_5_method_3_code 36 = .ok (.aload_n 0, 1) := gd_RS_offer_33.2.2.1
theorem d_RS_offer_37 : decode prog_5_method_3_code 37 = .ok (.aload_n 1, 1) := gd_RS_offer_33.2.2.2.1
theorem d_RS_offer_38 : decode prog_5_method_3_code 38 = .ok (.iload 4, 2) := gd_RS_offer_33.2.2.2.2.1
theorem d_RS_offer_40 : decode prog_5_method_3_code 40 = .ok (.invokevirtual 49, 3) := gd_RS_offer_33.2.2.2.2.2.1
theorem d_RS_offer_43 : decode prog_5_method_3_code 43 = .ok (.istore 5, 2) := gd_RS_offer_33.2.2.2.2.2.2.1
theorem d_RS_offer_45 : decode prog_5_method_3_code 45 = .ok (.aload_n 0, 1) := gd_RS_offer_33.2.2.2.2.2.2.2.1
theorem d_RS_offer_46 : decode prog_5_method_3_code 46 = .ok (.aload_n 1, 1) := gd_RS_offer_33.2.2.2.2.2.2.2.2.1
theorem d_RS_offer_47 : decode prog_5_method_3_code 47 = .ok (.iload 5, 2) := gd_RS_offer_33.2.2.2.2.2.2.2.2.2
theorem gd_RS_offer_49 : (decode prog_5_method_3_code 49 = .ok (.iconst 2, 1)) ∧ (decode prog_5_method_3_code 50 = .ok (.idiv, 1)) ∧ (decode prog_5_method_3_code 51 = .ok (.iload_n 3, 1)) ∧ (decode prog_5_method_3_code 52 = .ok (.invokevirtual 45, 3)) ∧ (decode prog_5_method_3_code 55 = .ok (.aload_n 0, 1)) ∧ (decode prog_5_method_3_code 56 = .ok (.aload_n 1, 1)) ∧ (decode prog_5_method_3_code 57 = .ok (.iload 5, 2)) ∧ (decode prog_5_method_3_code 59 = .ok (.iload 5, 2)) ∧ (decode prog_5_method_3_code 61 = .ok (.iconst 2, 1)) ∧ (decode prog_5_method_3_code 62 = .ok (.idiv, 1)) := by decide +kernel
theorem d_RS_offer_49 : decode prog_5_method_3_code 49 = .ok (.iconst 2, 1) := gd_RS_offer_49.1
theorem d_RS_offer_50 : decode prog_5_method_3_code 50 = .ok (.idiv, 1) := gd_RS_offer_49.2.1
theorem d_RS_offer_51 : decode prog_5_method_3_code 51 = .ok (.iload_n 3, 1) := gd_RS_offer_49.2.2.1
theorem d_RS_offer_52 : decode prog_5_method_3_code 52 = .ok (.invokevirtual 45, 3) := gd_RS_offer_49.2.2.2.1
theorem d_RS_offer_55 : decode prog_5_method_3_code 55 = .ok (.aload_n 0, 1) := gd_RS_offer_49.2.2.2.2.1
theorem d_RS_offer_56 : decode prog_5_method_3_code 56 = .ok (.aload_n 1, 1) := gd_RS_offer_49.2.2.2.2.2.1
theorem d_RS_offer_57 : decode prog_5_method_3_code 57 = .ok (.iload 5, 2) := gd_RS_offer_49.2.2.2.2.2.2.1
theorem d_RS_offer_59 : decode prog_5_method_3_code 59 = .ok (.iload 5, 2) := gd_RS_offer_49.2.2.2.2.2.2.2.1
theorem d_RS_offer_61 : decode prog_5_method_3_code 61 = .ok (.iconst 2, 1) := gd_RS_offer_49.2.2.2.2.2.2.2.2.1
theorem d_RS_offer_62 : decode prog_5_method_3_code 62 = .ok (.idiv, 1) := gd_RS_offer_49.2.2.2.2.2.2.2.2.2
theorem gd_RS_offer_63 : (decode prog_5_method_3_code 63 = .ok (.isub, 1)) ∧ (decode prog_5_method_3_code 64 = .ok (.iload_n 3, 1)) ∧ (decode prog_5_method_3_code 65 = .ok (.invokevirtual 45, 3)) ∧ (decode prog_5_method_3_code 68 = .ok (.iinc 4 1, 3)) ∧ (decode prog_5_method_3_code 71 = .ok (.goto (-41), 3)) ∧ (decode prog_5_method_3_code 5 = .ok (.return_, 1)) := by decide +kernel
theorem d_RS_offer_63 : decode prog_5_method_3_code 63 = .ok (.isub, 1) := gd_RS_offer_63.1
theorem d_RS_offer_64 : decode prog_5_method_3_code 64 = .ok (.iload_n 3, 1) := gd_RS_offer_63.2.1
theorem d_RS_offer_65 : decode prog_5_method_3_code 65 = .ok (.invokevirtual 45, 3) := gd_RS_offer_63.2.2.1
theorem d_RS_offer_68 : decode prog_5_method_3_code 68 = .ok (.iinc 4 1, 3) := gd_RS_offer_63.2.2.2.1
theorem d_RS_offer_71 : decode prog_5_method_3_code 71 = .ok (.goto (-41), 3) := gd_RS_offer_63.2.2.2.2.1
theorem d_RS_offer_5 : decode prog_5_method_3_code 5 = .ok (.return_, 1) := gd_RS_offer_63.2.2.2.2.2
set_option maxHeartbeats 4000000 in
set_option maxRecDepth 100000 in
theorem e_RS_begin (l : Launch) (D : va_G) (cI cZ : ClassId) (g0 : Nat) (v : Int32) (HM : Int32) (OB : Int32) (BO : Int32) (BM : Int32) (g1 : Nat) (g2 : Nat) (g5 : Nat) (rl : Nat) (g6 : Nat) (g7 : Nat) (sz : Nat) (h_rl : rl ≤ 7) : Met l ⟨"PromiseChains$RingSearch", "begin", "(I)V"⟩ (mw ⟨"PromiseChains$RingSearch", "begin", "(I)V"⟩ prog_5_method_2_code 2 none) ({ frames := 0, cells := 0, slots := 0, locals := 0 }) (va_Pc [.ref g0, .int v] (PB D cI cZ sz [(g0, .inr (5, [.int HM, .int OB, .int BO, .int BM, .ref g1, .ref g2, .ref g5])), (g5, .inr (6, [.int (nI rl), .ref g6, .ref g7]))])) (va_Qv (S := Unit) (fun uU => True) (fun uU tT => BB D (va_A [(g0, .inr (5, [.int HM, .int OB, .int BO, .int BM, .ref g1, .ref g2, .ref g5])), (g5, .inr (6, [.int (nI rl), .ref g6, .ref g7]))] sz) [(g0, .inr (5, [.int HM, .int v, .int BO, .int BM, .ref g1, .ref g2, .ref g5])), (g5, .inr (6, [.int 0, .ref g6, .ref g7]))] tT) (va_A [(g0, .inr (5, [.int HM, .int OB, .int BO, .int BM, .ref g1, .ref g2, .ref g5])), (g5, .inr (6, [.int (nI rl), .ref g6, .ref g7]))] sz)) 0 0 (va_A [(g0, .inr (5, [.int HM, .int OB, .int BO, .int BM, .ref g1, .ref g2, .ref g5])), (g5, .inr (6, [.int (nI rl), .ref g6, .ref g7]))] sz) := by
  refine Met.ofW (cc := prog_5_method_2_code) (maxL := 2) (ret := none) (by decide) rfl ?_
  intro p e s m args below meth c s₁ B hml hv
  obtain ⟨rfl, hsz, hP, hK, hD0, hN⟩ := hv
  have hx := B.exec
  have hb := B.bytes
  have hr := B.returns
  have hts0 := atoms_spec (ws := mw ⟨"PromiseChains$RingSearch", "begin", "(I)V"⟩ prog_5_method_2_code 2 none) B.pre
  have hts : ∀ w ∈ tblG, w.before _ s = true := fun w h => hts0 w (List.mem_cons_of_mem _ h)
  have hown : s.vm.findClass "PromiseChains$RingSearch" = some m.cls := findClass_of_methodNamed B.named
  have hlocks := B.notSynchronized
  subst hsz
  have hD := hD0.self (sz := s.heap.size)
  generalize hAe : va_A [(g0, .inr (5, [.int HM, .int OB, .int BO, .int BM, .ref g1, .ref g2, .ref g5])), (g5, .inr (6, [.int (nI rl), .ref g6, .ref g7]))] s.heap.size = A at hD ⊢
  have hA : ∀ q : Nat, s.heap.size ≤ q → A q := fun q h => by rw [← hAe]; exact Or.inr h
  have hS : va_S A s.heap s.heap [] := va_S.rf
  have hP : va_P D vwCl [(g0, .inr (5, [.int HM, .int OB, .int BO, .int BM, .ref g1, .ref g2, .ref g5])), (g5, .inr (6, [.int (nI rl), .ref g6, .ref g7]))] s.heap := hP
  have hl := lv_entry ([.ref g0, .int v]) (n := 2) (Nat.le_of_ble_eq_true rfl)
  rw [lg_entry_eq]
  generalize (lg_sl ([.ref g0, .int v]) ++ List.replicate (2 - (lg_sl ([.ref g0, .int v])).length) Slot.unset).toArray = ls at hl ⊢
  have hl : lv_has ls 2 [(0, .ref g0), (1, .int v)] := hl
  refine lv_aload_n hx hb d_RS_begin_0 rfl (lv_at hl 0 rfl) ?_
  refine lv_iload_n hx hb d_RS_begin_1 rfl (lv_at hl 1 rfl) ?_
  refine va_put (D := D) (ci := 5) (v := .int v) (ty := .int) (C := R_RS) (T := F_RS) (N := 7) hx hb hts i_RS t_RS t_RS_ok n_RS hown hK hP hD hS 0 rfl rfl 1 (by decide) (hts _ q_224) (fun _ h9 => h9) rfl (by decide +kernel) rfl rfl (Nat.le_of_ble_eq_true rfl) d_RS_begin_2 (fun H_1 locs hP hD hS => ?_)
  have hP : va_P D vwCl [(g0, .inr (5, [.int HM, .int v, .int BO, .int BM, .ref g1, .ref g2, .ref g5])), (g5, .inr (6, [.int (nI rl), .ref g6, .ref g7]))] H_1 := hP
  refine lv_aload_n hx hb d_RS_begin_5 rfl (lv_at hl 0 rfl) ?_
  refine va_get (D := D) (ci := 5) (v := .ref g5) (C := R_RS) (T := F_RS) (N := 7) hx hb hts i_RS hown hK hP 0 rfl rfl 6 (by decide) (hts _ q_233) (fun _ h9 => h9) rfl d_RS_begin_6 ?_
  refine lv_iconst (v := 0) hx hb d_RS_begin_9 (by decide) ?_
  refine va_put (D := D) (ci := 6) (v := .int 0) (ty := .int) (C := R_RO) (T := F_RO) (N := 3) hx hb hts i_RO t_RO t_RO_ok n_RO hown hK hP hD hS 1 rfl rfl 0 (by decide) (hts _ q_173) (fun _ h9 => h9) rfl (by decide +kernel) rfl rfl (Nat.le_of_ble_eq_true rfl) d_RS_begin_10 (fun H_2 locs hP hD hS => ?_)
  have hP : va_P D vwCl [(g0, .inr (5, [.int HM, .int v, .int BO, .int BM, .ref g1, .ref g2, .ref g5])), (g5, .inr (6, [.int 0, .ref g6, .ref g7]))] H_2 := hP
  have hP9 := hP.sub (ws' := [(g0, .inr (5, [.int HM, .int v, .int BO, .int BM, .ref g1, .ref g2, .ref g5])), (g5, .inr (6, [.int 0, .ref g6, .ref g7]))]) [0, 1] rfl
  have hD9 := hD.sub (ws' := [(g0, .inr (5, [.int HM, .int v, .int BO, .int BM, .ref g1, .ref g2, .ref g5])), (g5, .inr (6, [.int 0, .ref g6, .ref g7]))]) [0, 1] (by decide +kernel) rfl
  refine W.widen (k := 0) (n := 0) (Nat.le_of_ble_eq_true rfl) (Nat.le_of_ble_eq_true rfl) ?_
  exact W.vret hx hb hr (fun tT ht hW => ⟨⟨(), rfl, trivial, by rw [ht]; exact hP9, hD9⟩, hS.F ht⟩) hS.2.2 d_RS_begin_13

set_option maxHeartbeats 4000000 in
set_option maxRecDepth 100000 in
theorem e_RS_difference (l : Launch) (D : va_G) (cI cZ : ClassId) (g0 : Nat) (a0 : Nat) (i : Nat) (HM : Int32) (OB : Int32) (BO : Int32) (BM : Int32) (g1 : Nat) (g2 : Nat) (g5 : Nat) (gn : Nat) (g3 : Nat) (g4 : Nat) (NP : Nat → Nat) (NF : Nat → Nat) (np : Nat) (a1 : Nat) (a2 : Nat) (a3 : Nat) (a4 : Nat) (a5 : Nat) (a6 : Nat) (a7 : Nat) (a8 : Nat) (a9 : Nat) (a10 : Nat) (a11 : Nat) (SI : Nat → Int32) (sz : Nat) (h_NP : ∀ zz, NP zz ≤ 11) (h_NF : ∀ zz, NF zz ≤ 1) (h_np : np ≤ 12) (hi : i < 7) : Met l ⟨"PromiseChains$RingSearch", "difference", "(LPromiseChains$Pairs;I)I"⟩ (mw ⟨"PromiseChains$RingSearch", "difference", "(LPromiseChains$Pairs;I)I"⟩ prog_5_method_5_code 5 (some .int)) ({ frames := 0, cells := 0, slots := 0, locals := 0 }) (va_Pc [.ref g0, .ref a0, .int (nI i)] (PB D cI cZ sz [(g0, .inr (5, [.int HM, .int OB, .int BO, .int BM, .ref g1, .ref g2, .ref g5])), (g2, .inr (6, [.int (nI gn), .ref g3, .ref g4])), (g3, .inl (cI, 7, .inl (fun zy => nI (NP zy)))), (g4, .inl (cI, 7, .inl (fun zy => nI (NF zy)))), (a0, .inr (2, [.int (nI np), .ref a1, .ref a2, .ref a3, .ref a4, .ref a5, .ref a6, .ref a7, .ref a8, .ref a9, .ref a10, .ref a11])), (a2, .inl (cI, 24, .inl SI))])) (vp_Si (fun r => r = dfS SI (pfx NP NF i))) 0 0 (fun _ => False) := by
  refine Met.ofW (cc := prog_5_method_5_code) (maxL := 5) (ret := (some .int)) (by decide) rfl ?_
  intro p e s m args below meth c s₁ B hml hv
  obtain ⟨rfl, hsz, hP, hK, hD0, hN⟩ := hv
  have hx := B.exec
  have hb := B.bytes
  have hr := B.returns
  have hts0 := atoms_spec (ws := mw ⟨"PromiseChains$RingSearch", "difference", "(LPromiseChains$Pairs;I)I"⟩ prog_5_method_5_code 5 (some .int)) B.pre
  have hts : ∀ w ∈ tblG, w.before _ s = true := fun w h => hts0 w (List.mem_cons_of_mem _ h)
  have hown : s.vm.findClass "PromiseChains$RingSearch" = some m.cls := findClass_of_methodNamed B.named
  have hlocks := B.notSynchronized
  subst hsz
  have hD := hD0
  have hP : va_P D vwCl [(g0, .inr (5, [.int HM, .int OB, .int BO, .int BM, .ref g1, .ref g2, .ref g5])), (g2, .inr (6, [.int (nI gn), .ref g3, .ref g4])), (g3, .inl (cI, 7, .inl (fun zy => nI (NP zy)))), (g4, .inl (cI, 7, .inl (fun zy => nI (NF zy)))), (a0, .inr (2, [.int (nI np), .ref a1, .ref a2, .ref a3, .ref a4, .ref a5, .ref a6, .ref a7, .ref a8, .ref a9, .ref a10, .ref a11])), (a2, .inl (cI, 24, .inl SI))] s.heap := hP
  have hl := lv_entry ([.ref g0, .ref a0, .int (nI i)]) (n := 5) (Nat.le_of_ble_eq_true rfl)
  rw [lg_entry_eq]
  generalize (lg_sl ([.ref g0, .ref a0, .int (nI i)]) ++ List.replicate (5 - (lg_sl ([.ref g0, .ref a0, .int (nI i)])).length) Slot.unset).toArray = ls at hl ⊢
  have hl : lv_has ls 5 [(0, .ref g0), (1, .ref a0), (2, .int (nI i))] := hl
  refine lv_iconst (v := 2) hx hb d_RS_difference_0 (by decide) ?_
  refine lv_aload_n hx hb d_RS_difference_1 rfl (lv_at hl 0 rfl) ?_
  refine va_get (D := D) (ci := 5) (v := .ref g2) (C := R_RS) (T := F_RS) (N := 7) hx hb hts i_RS hown hK hP 0 rfl rfl 5 (by decide) (hts _ q_231) (fun _ h9 => h9) rfl d_RS_difference_2 ?_
  refine va_get (D := D) (ci := 6) (v := .ref g3) (C := R_RO) (T := F_RO) (N := 3) hx hb hts i_RO hown hK hP 1 rfl rfl 1 (by decide) (hts _ q_177) (fun _ h9 => h9) rfl d_RS_difference_5 ?_
  refine lv_iload_n hx hb d_RS_difference_8 rfl (lv_at hl 2 rfl) ?_
  refine my_ldN hx hb hK hP 2 rfl i rfl (by omega) (by decide) d_RS_difference_9 ?_
  have hb_1 : NP i ≤ 11 := h_NP _
  refine lv_imul hx hb d_RS_difference_10 ?_
  refine lv_seti (nI (2 * (NP i))) (pk_mul 2 (NP i)) ?_
  refine lv_aload_n hx hb d_RS_difference_11 rfl (lv_at hl 0 rfl) ?_
  refine va_get (D := D) (ci := 5) (v := .ref g2) (C := R_RS) (T := F_RS) (N := 7) hx hb hts i_RS hown hK hP 0 rfl rfl 5 (by decide) (hts _ q_231) (fun _ h9 => h9) rfl d_RS_difference_12 ?_
  refine va_get (D := D) (ci := 6) (v := .ref g4) (C := R_RO) (T := F_RO) (N := 3) hx hb hts i_RO hown hK hP 1 rfl rfl 2 (by decide) (hts _ q_181) (fun _ h9 => h9) rfl d_RS_difference_15 ?_
  refine lv_iload_n hx hb d_RS_difference_18 rfl (lv_at hl 2 rfl) ?_
  refine my_ldN hx hb hK hP 3 rfl i rfl (by omega) (by decide) d_RS_difference_19 ?_
  have hb_2 : NF i ≤ 1 := h_NF _
  refine lv_iadd hx hb d_RS_difference_20 ?_
  refine lv_seti (nI ((2 * (NP i)) + (NF i))) (nI_add (2 * (NP i)) (NF i)) ?_
  refine lv_istore_n (lv' := [(3, .int (nI ((2 * (NP i)) + (NF i)))), (0, .ref g0), (1, .ref a0), (2, .int (nI i))]) hx hb d_RS_difference_21 rfl hl (by decide) rfl (fun ls hl => ?_)
  refine lv_iconst (v := 2) hx hb d_RS_difference_22 (by decide) ?_
  refine lv_aload_n hx hb d_RS_difference_23 rfl (lv_at hl 1 rfl) ?_
  refine va_get (D := D) (ci := 5) (v := .ref g2) (C := R_RS) (T := F_RS) (N := 7) hx hb hts i_RS hown hK hP 0 rfl rfl 5 (by decide) (hts _ q_231) (fun _ h9 => h9) rfl d_RS_difference_24 ?_
  refine va_get (D := D) (ci := 6) (v := .ref g3) (C := R_RO) (T := F_RO) (N := 3) hx hb hts i_RO hown hK hP 1 rfl rfl 1 (by decide) (hts _ q_177) (fun _ h9 => h9) rfl d_RS_difference_27 ?_
  refine lv_iload_n hx hb d_RS_difference_30 rfl (lv_at hl 3 rfl) ?_
  refine my_ldN hx hb hK hP 2 rfl i rfl (by omega) (by decide) d_RS_difference_31 ?_
  have hb_3 : NP i ≤ 11 := h_NP _
  refine lv_imul hx hb d_RS_difference_32 ?_
  refine lv_seti (nI (2 * (NP i))) (pk_mul 2 (NP i)) ?_
  refine lv_iconst (v := 1) hx hb d_RS_difference_33 (by decide) ?_
  refine lv_iadd hx hb d_RS_difference_34 ?_
  refine lv_seti (nI ((2 * (NP i)) + 1)) (nI_add (2 * (NP i)) 1) ?_
  refine lv_aload_n hx hb d_RS_difference_35 rfl (lv_at hl 1 rfl) ?_
  refine va_get (D := D) (ci := 5) (v := .ref g2) (C := R_RS) (T := F_RS) (N := 7) hx hb hts i_RS hown hK hP 0 rfl rfl 5 (by decide) (hts _ q_231) (fun _ h9 => h9) rfl d_RS_difference_36 ?_
  refine va_get (D := D) (ci := 6) (v := .ref g4) (C := R_RO) (T := F_RO) (N := 3) hx hb hts i_RO hown hK hP 1 rfl rfl 2 (by decide) (hts _ q_181) (fun _ h9 => h9) rfl d_RS_difference_39 ?_
  refine lv_iload_n hx hb d_RS_difference_42 rfl (lv_at hl 3 rfl) ?_
  refine my_ldN hx hb hK hP 3 rfl i rfl (by omega) (by decide) d_RS_difference_43 ?_
  have hb_4 : NF i ≤ 1 := h_NF _
  refine lv_isub hx hb d_RS_difference_44 ?_
  refine lv_seti (nI (((2 * (NP i)) + 1) - (NF i))) (pk_sub (a := ((2 * (NP i)) + 1)) (b := (NF i)) (by omega)) ?_
  refine lv_istore (lv' := [(4, .int (nI (((2 * (NP i)) + 1) - (NF i)))), (3, .int (nI ((2 * (NP i)) + (NF i)))), (0, .ref g0), (1, .ref a0), (2, .int (nI i))]) hx hb d_RS_difference_45 hl (by decide) rfl (fun ls hl => ?_)
  refine lv_aload_n hx hb d_RS_difference_47 rfl (lv_at hl 3 rfl) ?_
  refine va_get (D := D) (ci := 2) (v := .ref a2) (C := R_PA) (T := F_PA) (N := 12) hx hb hts i_PA hown hK hP 4 rfl rfl 2 (by decide) (hts _ q_62) (fun _ h9 => h9) rfl d_RS_difference_48 ?_
  refine lv_iload_n hx hb d_RS_difference_51 rfl (lv_at hl 1 rfl) ?_
  refine my_ldI hx hb hK hP 5 rfl ((2 * (NP i)) + (NF i)) rfl (by omega) (by decide) d_RS_difference_52 ?_
  refine lv_aload_n hx hb d_RS_difference_53 rfl (lv_at hl 3 rfl) ?_
  refine va_get (D := D) (ci := 2) (v := .ref a2) (C := R_PA) (T := F_PA) (N := 12) hx hb hts i_PA hown hK hP 4 rfl rfl 2 (by decide) (hts _ q_62) (fun _ h9 => h9) rfl d_RS_difference_54 ?_
  refine lv_iload hx hb d_RS_difference_57 (lv_at hl 0 rfl) ?_
  refine my_ldI hx hb hK hP 5 rfl (((2 * (NP i)) + 1) - (NF i)) rfl (by omega) (by decide) d_RS_difference_59 ?_
  refine lv_isub hx hb d_RS_difference_60 ?_
  refine lv_seti (dfS SI (pfx NP NF i)) (df_of (h_NF i)) ?_
  exact W.iret (v := (dfS SI (pfx NP NF i))) hx hb hr (fun tT ht hW => ⟨(dfS SI (pfx NP NF i)), rfl, rfl, ht⟩) (fun q h => absurd h List.not_mem_nil) d_RS_difference_61

set_option maxHeartbeats 4000000 in
set_option maxRecDepth 100000 in
theorem e_RS_leastPayingSide (l : Launch) (D : va_G) (cI cZ : ClassId) (g0 : Nat) (a0 : Nat) (HM : Int32) (OB : Int32) (BO : Int32) (BM : Int32) (g1 : Nat) (g2 : Nat) (g5 : Nat) (gn : Nat) (g3 : Nat) (g4 : Nat) (NP : Nat → Nat) (NF : Nat → Nat) (np : Nat) (a1 : Nat) (a2 : Nat) (a3 : Nat) (a4 : Nat) (a5 : Nat) (a6 : Nat) (a7 : Nat) (a8 : Nat) (a9 : Nat) (a10 : Nat) (a11 : Nat) (SI : Nat → Int32) (sz : Nat) (h_NP : ∀ zz, NP zz ≤ 11) (h_NF : ∀ zz, NF zz ≤ 1) (h_np : np ≤ 12) (hgn : gn ≤ 7) : Met l ⟨"PromiseChains$RingSearch", "leastPayingSide", "(LPromiseChains$Pairs;)I"⟩ (mw ⟨"PromiseChains$RingSearch", "leastPayingSide", "(LPromiseChains$Pairs;)I"⟩ prog_5_method_4_code 4 (some .int)) ({ frames := 1, cells := 0, slots := 0, locals := 13 }) (va_Pc [.ref g0, .ref a0] (PB D cI cZ sz [(g0, .inr (5, [.int HM, .int OB, .int BO, .int BM, .ref g1, .ref g2, .ref g5])), (g2, .inr (6, [.int (nI gn), .ref g3, .ref g4])), (g3, .inl (cI, 7, .inl (fun zy => nI (NP zy)))), (g4, .inl (cI, 7, .inl (fun zy => nI (NF zy)))), (a0, .inr (2, [.int (nI np), .ref a1, .ref a2, .ref a3, .ref a4, .ref a5, .ref a6, .ref a7, .ref a8, .ref a9, .ref a10, .ref a11])), (a2, .inl (cI, 24, .inl SI))])) (vp_Si (fun r => r = lpS SI (pfx NP NF) gn)) 0 0 (fun _ => False) := by
  refine Met.ofW (cc := prog_5_method_4_code) (maxL := 4) (ret := (some .int)) (by decide) rfl ?_
  intro p e s m args below meth c s₁ B hml hv
  obtain ⟨rfl, hsz, hP, hK, hD0, hN⟩ := hv
  have hx := B.exec
  have hb := B.bytes
  have hr := B.returns
  have hts0 := atoms_spec (ws := mw ⟨"PromiseChains$RingSearch", "leastPayingSide", "(LPromiseChains$Pairs;)I"⟩ prog_5_method_4_code 4 (some .int)) B.pre
  have hts : ∀ w ∈ tblG, w.before _ s = true := fun w h => hts0 w (List.mem_cons_of_mem _ h)
  have hown : s.vm.findClass "PromiseChains$RingSearch" = some m.cls := findClass_of_methodNamed B.named
  have hlocks := B.notSynchronized
  subst hsz
  have hD := hD0
  have hP : va_P D vwCl [(g0, .inr (5, [.int HM, .int OB, .int BO, .int BM, .ref g1, .ref g2, .ref g5])), (g2, .inr (6, [.int (nI gn), .ref g3, .ref g4])), (g3, .inl (cI, 7, .inl (fun zy => nI (NP zy)))), (g4, .inl (cI, 7, .inl (fun zy => nI (NF zy)))), (a0, .inr (2, [.int (nI np), .ref a1, .ref a2, .ref a3, .ref a4, .ref a5, .ref a6, .ref a7, .ref a8, .ref a9, .ref a10, .ref a11])), (a2, .inl (cI, 24, .inl SI))] s.heap := hP
  have hl := lv_entry ([.ref g0, .ref a0]) (n := 4) (Nat.le_of_ble_eq_true rfl)
  rw [lg_entry_eq]
  generalize (lg_sl ([.ref g0, .ref a0]) ++ List.replicate (4 - (lg_sl ([.ref g0, .ref a0])).length) Slot.unset).toArray = ls at hl ⊢
  have hl : lv_has ls 4 [(0, .ref g0), (1, .ref a0)] := hl
  refine lv_ldc hx hb hown (hts _ q_552) d_RS_leastPayingSide_0 ?_
  refine lv_istore_n (lv' := [(2, .int 200000), (0, .ref g0), (1, .ref a0)]) hx hb d_RS_leastPayingSide_2 rfl hl (by decide) rfl (fun ls hl => ?_)
  refine lv_iconst (v := 0) hx hb d_RS_leastPayingSide_3 (by decide) ?_
  refine lv_istore_n (lv' := [(3, .int 0), (2, .int 200000), (0, .ref g0), (1, .ref a0)]) hx hb d_RS_leastPayingSide_4 rfl hl (by decide) rfl (fun ls hl => ?_)
  refine W_loop (σ := Nat × Int32) (I := fun xX H locs ls => xX.1 ≤ gn ∧ xX.2 = lpS SI (pfx NP NF) xX.1 ∧ H = s.heap ∧ locs = [] ∧ lv_has ls 4 [(3, .int (nI xX.1)), (2, .int xX.2), (1, .ref a0), (0, .ref g0)]) (μ := fun xX => 8 - xX.1) ?_ (0, 200000) ⟨(by first | omega | (dsimp only; omega)), rfl, rfl, rfl, lv_sub hl [0, 1, 3, 2] rfl⟩
  intro xX H_1 locs ls hI ih1
  obtain ⟨i_l, sm_v⟩ := xX
  obtain ⟨hi, hsm, rfl, rfl, hl⟩ := hI
  have hl : lv_has ls 4 [(3, .int (nI i_l)), (2, .int sm_v), (1, .ref a0), (0, .ref g0)] := hl
  have hi : i_l ≤ gn := hi
  have hsm : sm_v = lpS SI (pfx NP NF) i_l := hsm
  refine lv_iload_n hx hb d_RS_leastPayingSide_5 rfl (lv_at hl 0 rfl) ?_
  refine lv_aload_n hx hb d_RS_leastPayingSide_6 rfl (lv_at hl 3 rfl) ?_
  refine va_get (D := D) (ci := 5) (v := .ref g2) (C := R_RS) (T := F_RS) (N := 7) hx hb hts i_RS hown hK hP 0 rfl rfl 5 (by decide) (hts _ q_231) (fun _ h9 => h9) rfl d_RS_leastPayingSide_7 ?_
  refine va_get (D := D) (ci := 6) (v := .int (nI gn)) (C := R_RO) (T := F_RO) (N := 3) hx hb hts i_RO hown hK hP 1 rfl rfl 0 (by decide) (hts _ q_173) (fun _ h9 => h9) rfl d_RS_leastPayingSide_10 ?_
  refine lv_icmp_ge (tgt := 53) hx hb d_RS_leastPayingSide_13 (by decide) (fun h_2 => ?_) (fun h_2 => ?_)
  · have nh_2 : gn ≤ i_l := (nI_leI (a := gn) (b := i_l) (by omega) (by omega)).mp h_2
    refine lv_iload_n hx hb d_RS_leastPayingSide_53 rfl (lv_at hl 1 rfl) ?_
    exact W.iret (v := sm_v) hx hb hr (fun tT ht hW => ⟨sm_v, rfl, (by rw [← show i_l = gn by omega]; exact hsm), ht⟩) (fun q h => absurd h List.not_mem_nil) d_RS_leastPayingSide_54
  · have nh_2 : ¬ gn ≤ i_l := fun qZ => h_2 ((nI_leI (a := gn) (b := i_l) (by omega) (by omega)).mpr qZ)
    refine lv_iload_n hx hb d_RS_leastPayingSide_16 rfl (lv_at hl 1 rfl) ?_
    refine lv_aload_n hx hb d_RS_leastPayingSide_17 rfl (lv_at hl 2 rfl) ?_
    refine va_get (D := D) (ci := 2) (v := .ref a2) (C := R_PA) (T := F_PA) (N := 12) hx hb hts i_PA hown hK hP 4 rfl rfl 2 (by decide) (hts _ q_62) (fun _ h9 => h9) rfl d_RS_leastPayingSide_18 ?_
    refine lv_iconst (v := 2) hx hb d_RS_leastPayingSide_21 (by decide) ?_
    refine lv_aload_n hx hb d_RS_leastPayingSide_22 rfl (lv_at hl 3 rfl) ?_
    refine va_get (D := D) (ci := 5) (v := .ref g2) (C := R_RS) (T := F_RS) (N := 7) hx hb hts i_RS hown hK hP 0 rfl rfl 5 (by decide) (hts _ q_231) (fun _ h9 => h9) rfl d_RS_leastPayingSide_23 ?_
    refine va_get (D := D) (ci := 6) (v := .ref g3) (C := R_RO) (T := F_RO) (N := 3) hx hb hts i_RO hown hK hP 1 rfl rfl 1 (by decide) (hts _ q_177) (fun _ h9 => h9) rfl d_RS_leastPayingSide_26 ?_
    refine lv_iload_n hx hb d_RS_leastPayingSide_29 rfl (lv_at hl 0 rfl) ?_
    refine my_ldN hx hb hK hP 2 rfl i_l rfl (by omega) (by decide) d_RS_leastPayingSide_30 ?_
    have hb_1 : NP i_l ≤ 11 := h_NP _
    refine lv_imul hx hb d_RS_leastPayingSide_31 ?_
    refine lv_seti (nI (2 * (NP i_l))) (pk_mul 2 (NP i_l)) ?_
    refine lv_aload_n hx hb d_RS_leastPayingSide_32 rfl (lv_at hl 3 rfl) ?_
    refine va_get (D := D) (ci := 5) (v := .ref g2) (C := R_RS) (T := F_RS) (N := 7) hx hb hts i_RS hown hK hP 0 rfl rfl 5 (by decide) (hts _ q_231) (fun _ h9 => h9) rfl d_RS_leastPayingSide_33 ?_
    refine va_get (D := D) (ci := 6) (v := .ref g4) (C := R_RO) (T := F_RO) (N := 3) hx hb hts i_RO hown hK hP 1 rfl rfl 2 (by decide) (hts _ q_181) (fun _ h9 => h9) rfl d_RS_leastPayingSide_36 ?_
    refine lv_iload_n hx hb d_RS_leastPayingSide_39 rfl (lv_at hl 0 rfl) ?_
    refine my_ldN hx hb hK hP 3 rfl i_l rfl (by omega) (by decide) d_RS_leastPayingSide_40 ?_
    have hb_2 : NF i_l ≤ 1 := h_NF _
    refine lv_iadd hx hb d_RS_leastPayingSide_41 ?_
    refine lv_seti (nI ((2 * (NP i_l)) + (NF i_l))) (nI_add (2 * (NP i_l)) (NF i_l)) ?_
    refine my_ldI hx hb hK hP 5 rfl ((2 * (NP i_l)) + (NF i_l)) rfl (by omega) (by decide) d_RS_leastPayingSide_42 ?_
    refine va_mmin hx hb (hml.trans hl.1.symm) hown (hts _ q_553) (hts _ q_554) (hts _ q_9) (hts _ q_555) (Nat.le_of_ble_eq_true rfl) (Nat.le_of_ble_eq_true rfl) (Nat.le_of_ble_eq_true rfl) (Nat.le_of_ble_eq_true rfl) d_RS_leastPayingSide_43 ?_
    refine lv_topi (fun v_3 ev_3 => ?_)
    refine lv_istore_n (lv' := [(2, .int v_3), (3, .int (nI i_l)), (1, .ref a0), (0, .ref g0)]) hx hb d_RS_leastPayingSide_46 rfl hl (by decide) rfl (fun ls hl => ?_)
    refine lv_iinc (v := nI (i_l + 1)) (lv' := [(3, .int (nI (i_l + 1))), (2, .int v_3), (1, .ref a0), (0, .ref g0)]) hx hb d_RS_leastPayingSide_47 hl (k := 1) rfl (nI_1 i_l) (by decide) rfl (fun ls hl => ?_)
    refine lv_goto (tgt := 5) hx hb d_RS_leastPayingSide_50 (by decide) ?_
    exact ih1 ((i_l + 1), v_3) _ _ _ (by first | omega | (dsimp only; omega)) ⟨(by first | omega | (dsimp only; omega)), (lps_s hsm ev_3), rfl, rfl, lv_sub hl [0, 1, 2, 3] rfl⟩

set_option maxHeartbeats 4000000 in
set_option maxRecDepth 100000 in
theorem e_RS_isBetter (l : Launch) (D : va_G) (cI cZ : ClassId) (g0 : Nat) (u : Int32) (v : Int32) (HM : Int32) (OB : Int32) (BO : Int32) (BM : Int32) (g1 : Nat) (g2 : Nat) (g5 : Nat) (gn : Nat) (g3 : Nat) (g4 : Nat) (NP : Nat → Nat) (NF : Nat → Nat) (rl : Nat) (g6 : Nat) (g7 : Nat) (RP : Nat → Nat) (sz : Nat) (h_NP : ∀ zz, NP zz ≤ 11) (h_NF : ∀ zz, NF zz ≤ 1) (h_rl : rl ≤ 7) (h_RP : ∀ zz, RP zz ≤ 11) (hgn : gn ≤ 7) : Met l ⟨"PromiseChains$RingSearch", "isBetter", "(II)Z"⟩ (mw ⟨"PromiseChains$RingSearch", "isBetter", "(II)Z"⟩ prog_5_method_7_code 3 (some .boolean)) ({ frames := 1, cells := 0, slots := 0, locals := 22 }) (va_Pc [.ref g0, .int u, .int v] (PB D cI cZ sz [(g0, .inr (5, [.int HM, .int OB, .int BO, .int BM, .ref g1, .ref g2, .ref g5])), (g2, .inr (6, [.int (nI gn), .ref g3, .ref g4])), (g3, .inl (cI, 7, .inl (fun zy => nI (NP zy)))), (g4, .inl (cI, 7, .inl (fun zy => nI (NF zy)))), (g5, .inr (6, [.int (nI rl), .ref g6, .ref g7])), (g6, .inl (cI, 7, .inl (fun zy => nI (RP zy))))])) (vp_Si (fun r => (¬ rBt u v gn NP rl BO BM RP ∧ r = 0) ∨ (rBt u v gn NP rl BO BM RP ∧ r = 1))) 0 0 (fun _ => False) := by
  refine Met.ofW (cc := prog_5_method_7_code) (maxL := 3) (ret := (some .boolean)) (by decide) rfl ?_
  intro p e s m args below meth c s₁ B hml hv
  obtain ⟨rfl, hsz, hP, hK, hD0, hN⟩ := hv
  have hx := B.exec
  have hb := B.bytes
  have hr := B.returns
  have hts0 := atoms_spec (ws := mw ⟨"PromiseChains$RingSearch", "isBetter", "(II)Z"⟩ prog_5_method_7_code 3 (some .boolean)) B.pre
  have hts : ∀ w ∈ tblG, w.before _ s = true := fun w h => hts0 w (List.mem_cons_of_mem _ h)
  have hown : s.vm.findClass "PromiseChains$RingSearch" = some m.cls := findClass_of_methodNamed B.named
  have hlocks := B.notSynchronized
  subst hsz
  have hD := hD0
  have hP : va_P D vwCl [(g0, .inr (5, [.int HM, .int OB, .int BO, .int BM, .ref g1, .ref g2, .ref g5])), (g2, .inr (6, [.int (nI gn), .ref g3, .ref g4])), (g3, .inl (cI, 7, .inl (fun zy => nI (NP zy)))), (g4, .inl (cI, 7, .inl (fun zy => nI (NF zy)))), (g5, .inr (6, [.int (nI rl), .ref g6, .ref g7])), (g6, .inl (cI, 7, .inl (fun zy => nI (RP zy))))] s.heap := hP
  have hl := lv_entry ([.ref g0, .int u, .int v]) (n := 3) (Nat.le_of_ble_eq_true rfl)
  rw [lg_entry_eq]
  generalize (lg_sl ([.ref g0, .int u, .int v]) ++ List.replicate (3 - (lg_sl ([.ref g0, .int u, .int v])).length) Slot.unset).toArray = ls at hl ⊢
  have hl : lv_has ls 3 [(0, .ref g0), (1, .int u), (2, .int v)] := hl
  refine lv_aload_n hx hb d_RS_isBetter_0 rfl (lv_at hl 0 rfl) ?_
  refine va_get (D := D) (ci := 5) (v := .ref g5) (C := R_RS) (T := F_RS) (N := 7) hx hb hts i_RS hown hK hP 0 rfl rfl 6 (by decide) (hts _ q_233) (fun _ h9 => h9) rfl d_RS_isBetter_1 ?_
  refine va_get (D := D) (ci := 6) (v := .int (nI rl)) (C := R_RO) (T := F_RO) (N := 3) hx hb hts i_RO hown hK hP 4 rfl rfl 0 (by decide) (hts _ q_173) (fun _ h9 => h9) rfl d_RS_isBetter_4 ?_
  refine lv_if_eq (tgt := 18) hx hb d_RS_isBetter_7 (by decide) (fun h_1 => ?_) (fun h_1 => ?_)
  · have nh_1 : rl = 0 := (nI_eq (a := rl) (b := 0) (by omega) (by omega)).mp h_1
    refine lv_aload_n hx hb d_RS_isBetter_18 rfl (lv_at hl 0 rfl) ?_
    refine va_get (D := D) (ci := 5) (v := .ref g5) (C := R_RS) (T := F_RS) (N := 7) hx hb hts i_RS hown hK hP 0 rfl rfl 6 (by decide) (hts _ q_233) (fun _ h9 => h9) rfl d_RS_isBetter_19 ?_
    refine va_get (D := D) (ci := 6) (v := .int (nI rl)) (C := R_RO) (T := F_RO) (N := 3) hx hb hts i_RO hown hK hP 4 rfl rfl 0 (by decide) (hts _ q_173) (fun _ h9 => h9) rfl d_RS_isBetter_22 ?_
    refine lv_if_eq (tgt := 36) hx hb d_RS_isBetter_25 (by decide) (fun _ => ?_) (fun h => absurd h_1 h)
    refine lv_iconst (v := 1) hx hb d_RS_isBetter_36 (by decide) ?_
    refine lv_goto (tgt := 41) hx hb d_RS_isBetter_37 (by decide) ?_
    exact W.zret (v := 1) hx hb hr rfl (fun tT ht hW => ⟨1, rfl, (Or.inr (⟨(rbt_1 nh_1), rfl⟩)), ht⟩) (fun q h => absurd h List.not_mem_nil) d_RS_isBetter_41
  · have nh_1 : ¬ rl = 0 := fun qZ => h_1 ((nI_eq (a := rl) (b := 0) (by omega) (by omega)).mpr qZ)
    refine lv_iload_n hx hb d_RS_isBetter_10 rfl (lv_at hl 1 rfl) ?_
    refine lv_aload_n hx hb d_RS_isBetter_11 rfl (lv_at hl 0 rfl) ?_
    refine va_get (D := D) (ci := 5) (v := .int BO) (C := R_RS) (T := F_RS) (N := 7) hx hb hts i_RS hown hK hP 0 rfl rfl 2 (by decide) (hts _ q_225) (fun _ h9 => h9) rfl d_RS_isBetter_12 ?_
    refine lv_icmp_eq (tgt := 42) hx hb d_RS_isBetter_15 (by decide) (fun h_3 => ?_) (fun h_3 => ?_)
    · refine lv_iload_n hx hb d_RS_isBetter_42 rfl (lv_at hl 2 rfl) ?_
      refine lv_aload_n hx hb d_RS_isBetter_43 rfl (lv_at hl 0 rfl) ?_
      refine va_get (D := D) (ci := 5) (v := .int BM) (C := R_RS) (T := F_RS) (N := 7) hx hb hts i_RS hown hK hP 0 rfl rfl 3 (by decide) (hts _ q_227) (fun _ h9 => h9) rfl d_RS_isBetter_44 ?_
      refine lv_icmp_lt (tgt := 72) hx hb d_RS_isBetter_47 (by decide) (fun h_4 => ?_) (fun h_4 => ?_)
      · refine lv_iconst (v := 1) hx hb d_RS_isBetter_72 (by decide) ?_
        refine lv_goto (tgt := 77) hx hb d_RS_isBetter_73 (by decide) ?_
        exact W.zret (v := 1) hx hb hr rfl (fun tT ht hW => ⟨1, rfl, (Or.inr (⟨(rbt_3 h_3 h_4), rfl⟩)), ht⟩) (fun q h => absurd h List.not_mem_nil) d_RS_isBetter_77
      · refine lv_iload_n hx hb d_RS_isBetter_50 rfl (lv_at hl 2 rfl) ?_
        refine lv_aload_n hx hb d_RS_isBetter_51 rfl (lv_at hl 0 rfl) ?_
        refine va_get (D := D) (ci := 5) (v := .int BM) (C := R_RS) (T := F_RS) (N := 7) hx hb hts i_RS hown hK hP 0 rfl rfl 3 (by decide) (hts _ q_227) (fun _ h9 => h9) rfl d_RS_isBetter_52 ?_
        refine lv_icmp_ne (tgt := 76) hx hb d_RS_isBetter_55 (by decide) (fun h_5 => ?_) (fun h_5 => ?_)
        · refine lv_iconst (v := 0) hx hb d_RS_isBetter_76 (by decide) ?_
          exact W.zret (v := 0) hx hb hr rfl (fun tT ht hW => ⟨0, rfl, (Or.inl (⟨(rbt_n nh_1 (nlt_ne h_3) (fun _ => h_4) (fun _ hZ => absurd hZ h_5)), rfl⟩)), ht⟩) (fun q h => absurd h List.not_mem_nil) d_RS_isBetter_77
        · refine lv_aload_n hx hb d_RS_isBetter_58 rfl (lv_at hl 0 rfl) ?_
          refine va_get (D := D) (ci := 5) (v := .ref g2) (C := R_RS) (T := F_RS) (N := 7) hx hb hts i_RS hown hK hP 0 rfl rfl 5 (by decide) (hts _ q_231) (fun _ h9 => h9) rfl d_RS_isBetter_59 ?_
          refine lv_aload_n hx hb d_RS_isBetter_62 rfl (lv_at hl 0 rfl) ?_
          refine va_get (D := D) (ci := 5) (v := .ref g5) (C := R_RS) (T := F_RS) (N := 7) hx hb hts i_RS hown hK hP 0 rfl rfl 6 (by decide) (hts _ q_233) (fun _ h9 => h9) rfl d_RS_isBetter_63 ?_
          have hPc := hP.sub (ws' := [(g2, .inr (6, [.int (nI gn), .ref g3, .ref g4])), (g3, .inl (cI, 7, .inl (fun zy => nI (NP zy)))), (g5, .inr (6, [.int (nI rl), .ref g6, .ref g7])), (g6, .inl (cI, 7, .inl (fun zy => nI (RP zy))))]) [1, 2, 4, 5] rfl
          have hDc := hD.sub (ws' := [(g2, .inr (6, [.int (nI gn), .ref g3, .ref g4])), (g3, .inl (cI, 7, .inl (fun zy => nI (NP zy)))), (g5, .inr (6, [.int (nI rl), .ref g6, .ref g7])), (g6, .inl (cI, 7, .inl (fun zy => nI (RP zy))))]) [1, 2, 4, 5] (by decide +kernel) rfl
          refine vp_callSi (va_Run.run (va_runV (As := [.ref g5]) (rest := []) ⟨hx, hb, hml, hown, hts⟩ (e_RO_isAhead l D cI cZ g2 g5 gn g3 g4 NP rl g6 g7 RP s.heap.size hgn h_rl h_NP h_RP) (my_cwV 1 hts q_416 q_570 q_414 q_415 q_6 rfl rfl (by decide +kernel) ⟨Nat.le_of_ble_eq_true rfl, Nat.le_of_ble_eq_true rfl⟩) (my_preV hPc hDc hK hN 6 0 rfl rfl) rfl rfl hl.1 rfl (lv_room (Nat.le_of_ble_eq_true rfl)) d_RS_isBetter_66 ⟨Nat.le_of_ble_eq_true rfl, Nat.le_of_ble_eq_true rfl⟩)) (fun r_6 hw_6 => ?_)
          rcases hw_6 with ⟨hg_7, rfl⟩ | ⟨hg_8, rfl⟩
          · have hg_7 : ¬ rowLt gn rl NP RP := hg_7
            refine lv_if_eq (tgt := 76) hx hb d_RS_isBetter_69 (by decide) (fun _ => ?_) (fun h => absurd h (by decide))
            refine lv_iconst (v := 0) hx hb d_RS_isBetter_76 (by decide) ?_
            exact W.zret (v := 0) hx hb hr rfl (fun tT ht hW => ⟨0, rfl, (Or.inl (⟨(rbt_n nh_1 (nlt_ne h_3) (fun _ => h_4) (fun _ _ => hg_7)), rfl⟩)), ht⟩) (fun q h => absurd h List.not_mem_nil) d_RS_isBetter_77
          · have hg_8 : rowLt gn rl NP RP := hg_8
            refine lv_if_eq (tgt := 76) hx hb d_RS_isBetter_69 (by decide) (fun h => absurd h (by decide)) (fun _ => ?_)
            refine lv_iconst (v := 1) hx hb d_RS_isBetter_72 (by decide) ?_
            refine lv_goto (tgt := 77) hx hb d_RS_isBetter_73 (by decide) ?_
            exact W.zret (v := 1) hx hb hr rfl (fun tT ht hW => ⟨1, rfl, (Or.inr (⟨(rbt_4 h_3 h_5 hg_8), rfl⟩)), ht⟩) (fun q h => absurd h List.not_mem_nil) d_RS_isBetter_77
    · refine lv_aload_n hx hb d_RS_isBetter_18 rfl (lv_at hl 0 rfl) ?_
      refine va_get (D := D) (ci := 5) (v := .ref g5) (C := R_RS) (T := F_RS) (N := 7) hx hb hts i_RS hown hK hP 0 rfl rfl 6 (by decide) (hts _ q_233) (fun _ h9 => h9) rfl d_RS_isBetter_19 ?_
      refine va_get (D := D) (ci := 6) (v := .int (nI rl)) (C := R_RO) (T := F_RO) (N := 3) hx hb hts i_RO hown hK hP 4 rfl rfl 0 (by decide) (hts _ q_173) (fun _ h9 => h9) rfl d_RS_isBetter_22 ?_
      refine lv_if_eq (tgt := 36) hx hb d_RS_isBetter_25 (by decide) (fun h => absurd h h_1) (fun _ => ?_)
      refine lv_iload_n hx hb d_RS_isBetter_28 rfl (lv_at hl 1 rfl) ?_
      refine lv_aload_n hx hb d_RS_isBetter_29 rfl (lv_at hl 0 rfl) ?_
      refine va_get (D := D) (ci := 5) (v := .int BO) (C := R_RS) (T := F_RS) (N := 7) hx hb hts i_RS hown hK hP 0 rfl rfl 2 (by decide) (hts _ q_225) (fun _ h9 => h9) rfl d_RS_isBetter_30 ?_
      refine lv_icmp_ge (tgt := 40) hx hb d_RS_isBetter_33 (by decide) (fun h_12 => ?_) (fun h_12 => ?_)
      · refine lv_iconst (v := 0) hx hb d_RS_isBetter_40 (by decide) ?_
        exact W.zret (v := 0) hx hb hr rfl (fun tT ht hW => ⟨0, rfl, (Or.inl (⟨(rbt_n nh_1 (Int32.not_lt.mpr h_12) (fun hZ => absurd hZ h_3) (fun hZ => absurd hZ h_3)), rfl⟩)), ht⟩) (fun q h => absurd h List.not_mem_nil) d_RS_isBetter_41
      · refine lv_iconst (v := 1) hx hb d_RS_isBetter_36 (by decide) ?_
        refine lv_goto (tgt := 41) hx hb d_RS_isBetter_37 (by decide) ?_
        exact W.zret (v := 1) hx hb hr rfl (fun tT ht hW => ⟨1, rfl, (Or.inr (⟨(rbt_2 (Int32.not_le.mp h_12)), rfl⟩)), ht⟩) (fun q h => absurd h List.not_mem_nil) d_RS_isBetter_41

set_option maxHeartbeats 4000000 in
set_option maxRecDepth 100000 in
theorem e_RS_weigh (l : Launch) (D : va_G) (cI cZ : ClassId) (g0 : Nat) (a0 : Nat) (u : Int32) (v : Int32) (HM : Int32) (OB : Int32) (BO : Int32) (BM : Int32) (g1 : Nat) (g2 : Nat) (g5 : Nat) (gn : Nat) (g3 : Nat) (g4 : Nat) (NP : Nat → Nat) (NF : Nat → Nat) (rl : Nat) (g6 : Nat) (g7 : Nat) (RP : Nat → Nat) (RF : Nat → Nat) (np : Nat) (a1 : Nat) (a2 : Nat) (a3 : Nat) (a4 : Nat) (a5 : Nat) (a6 : Nat) (a7 : Nat) (a8 : Nat) (a9 : Nat) (a10 : Nat) (a11 : Nat) (SI : Nat → Int32) (sz : Nat) (h_NP : ∀ zz, NP zz ≤ 11) (h_NF : ∀ zz, NF zz ≤ 1) (h_rl : rl ≤ 7) (h_RP : ∀ zz, RP zz ≤ 11) (h_RF : ∀ zz, RF zz ≤ 1) (h_np : np ≤ 12) (hgn : gn ≤ 7) : Met l ⟨"PromiseChains$RingSearch", "weigh", "(LPromiseChains$Pairs;II)V"⟩ (mw ⟨"PromiseChains$RingSearch", "weigh", "(LPromiseChains$Pairs;II)V"⟩ prog_5_method_6_code 7 none) ({ frames := 2, cells := 0, slots := 0, locals := 45 }) (va_Pc [.ref g0, .ref a0, .int u, .int v] (PB D cI cZ sz [(g0, .inr (5, [.int HM, .int OB, .int BO, .int BM, .ref g1, .ref g2, .ref g5])), (g2, .inr (6, [.int (nI gn), .ref g3, .ref g4])), (g3, .inl (cI, 7, .inl (fun zy => nI (NP zy)))), (g4, .inl (cI, 7, .inl (fun zy => nI (NF zy)))), (g5, .inr (6, [.int (nI rl), .ref g6, .ref g7])), (g6, .inl (cI, 7, .inl (fun zy => nI (RP zy)))), (g7, .inl (cI, 7, .inl (fun zy => nI (RF zy)))), (a0, .inr (2, [.int (nI np), .ref a1, .ref a2, .ref a3, .ref a4, .ref a5, .ref a6, .ref a7, .ref a8, .ref a9, .ref a10, .ref a11])), (a2, .inl (cI, 24, .inl SI))])) (va_Qv (S := Int32 × Int32 × Nat × (Nat → Nat) × (Nat → Nat)) (fun uU => (uU.2.2.1 ≤ 7) ∧ (∀ zz, uU.2.2.2.1 zz ≤ 11) ∧ (∀ zz, uU.2.2.2.2 zz ≤ 1) ∧ (RW SI gn NP NF OB u v rl BO BM RP RF uU.2.2.1 uU.1 uU.2.1 uU.2.2.2.1 uU.2.2.2.2)) (fun uU tT => BB D (va_A [(g0, .inr (5, [.int HM, .int OB, .int BO, .int BM, .ref g1, .ref g2, .ref g5])), (g2, .inr (6, [.int (nI gn), .ref g3, .ref g4])), (g3, .inl (cI, 7, .inl (fun zy => nI (NP zy)))), (g4, .inl (cI, 7, .inl (fun zy => nI (NF zy)))), (g5, .inr (6, [.int (nI rl), .ref g6, .ref g7])), (g6, .inl (cI, 7, .inl (fun zy => nI (RP zy)))), (g7, .inl (cI, 7, .inl (fun zy => nI (RF zy)))), (a0, .inr (2, [.int (nI np), .ref a1, .ref a2, .ref a3, .ref a4, .ref a5, .ref a6, .ref a7, .ref a8, .ref a9, .ref a10, .ref a11])), (a2, .inl (cI, 24, .inl SI))] sz) [(g0, .inr (5, [.int HM, .int OB, .int (uU.1), .int (uU.2.1), .ref g1, .ref g2, .ref g5])), (g2, .inr (6, [.int (nI gn), .ref g3, .ref g4])), (g3, .inl (cI, 7, .inl (fun zy => nI (NP zy)))), (g4, .inl (cI, 7, .inl (fun zy => nI (NF zy)))), (g5, .inr (6, [.int (nI uU.2.2.1), .ref g6, .ref g7])), (g6, .inl (cI, 7, .inl (fun zy => nI ((uU.2.2.2.1) zy)))), (g7, .inl (cI, 7, .inl (fun zy => nI ((uU.2.2.2.2) zy)))), (a0, .inr (2, [.int (nI np), .ref a1, .ref a2, .ref a3, .ref a4, .ref a5, .ref a6, .ref a7, .ref a8, .ref a9, .ref a10, .ref a11])), (a2, .inl (cI, 24, .inl SI))] tT) (va_A [(g0, .inr (5, [.int HM, .int OB, .int BO, .int BM, .ref g1, .ref g2, .ref g5])), (g2, .inr (6, [.int (nI gn), .ref g3, .ref g4])), (g3, .inl (cI, 7, .inl (fun zy => nI (NP zy)))), (g4, .inl (cI, 7, .inl (fun zy => nI (NF zy)))), (g5, .inr (6, [.int (nI rl), .ref g6, .ref g7])), (g6, .inl (cI, 7, .inl (fun zy => nI (RP zy)))), (g7, .inl (cI, 7, .inl (fun zy => nI (RF zy)))), (a0, .inr (2, [.int (nI np), .ref a1, .ref a2, .ref a3, .ref a4, .ref a5, .ref a6, .ref a7, .ref a8, .ref a9, .ref a10, .ref a11])), (a2, .inl (cI, 24, .inl SI))] sz)) 0 0 (va_A [(g0, .inr (5, [.int HM, .int OB, .int BO, .int BM, .ref g1, .ref g2, .ref g5])), (g2, .inr (6, [.int (nI gn), .ref g3, .ref g4])), (g3, .inl (cI, 7, .inl (fun zy => nI (NP zy)))), (g4, .inl (cI, 7, .inl (fun zy => nI (NF zy)))), (g5, .inr (6, [.int (nI rl), .ref g6, .ref g7])), (g6, .inl (cI, 7, .inl (fun zy => nI (RP zy)))), (g7, .inl (cI, 7, .inl (fun zy => nI (RF zy)))), (a0, .inr (2, [.int (nI np), .ref a1, .ref a2, .ref a3, .ref a4, .ref a5, .ref a6, .ref a7, .ref a8, .ref a9, .ref a10, .ref a11])), (a2, .inl (cI, 24, .inl SI))] sz) := by
  refine Met.ofW (cc := prog_5_method_6_code) (maxL := 7) (ret := none) (by decide) rfl ?_
  intro p e s m args below meth c s₁ B hml hv
  obtain ⟨rfl, hsz, hP, hK, hD0, hN⟩ := hv
  have hx := B.exec
  have hb := B.bytes
  have hr := B.returns
  have hts0 := atoms_spec (ws := mw ⟨"PromiseChains$RingSearch", "weigh", "(LPromiseChains$Pairs;II)V"⟩ prog_5_method_6_code 7 none) B.pre
  have hts : ∀ w ∈ tblG, w.before _ s = true := fun w h => hts0 w (List.mem_cons_of_mem _ h)
  have hown : s.vm.findClass "PromiseChains$RingSearch" = some m.cls := findClass_of_methodNamed B.named
  have hlocks := B.notSynchronized
  subst hsz
  have hD := hD0.self (sz := s.heap.size)
  generalize hAe : va_A [(g0, .inr (5, [.int HM, .int OB, .int BO, .int BM, .ref g1, .ref g2, .ref g5])), (g2, .inr (6, [.int (nI gn), .ref g3, .ref g4])), (g3, .inl (cI, 7, .inl (fun zy => nI (NP zy)))), (g4, .inl (cI, 7, .inl (fun zy => nI (NF zy)))), (g5, .inr (6, [.int (nI rl), .ref g6, .ref g7])), (g6, .inl (cI, 7, .inl (fun zy => nI (RP zy)))), (g7, .inl (cI, 7, .inl (fun zy => nI (RF zy)))), (a0, .inr (2, [.int (nI np), .ref a1, .ref a2, .ref a3, .ref a4, .ref a5, .ref a6, .ref a7, .ref a8, .ref a9, .ref a10, .ref a11])), (a2, .inl (cI, 24, .inl SI))] s.heap.size = A at hD ⊢
  have hA : ∀ q : Nat, s.heap.size ≤ q → A q := fun q h => by rw [← hAe]; exact Or.inr h
  have hS : va_S A s.heap s.heap [] := va_S.rf
  have hP : va_P D vwCl [(g0, .inr (5, [.int HM, .int OB, .int BO, .int BM, .ref g1, .ref g2, .ref g5])), (g2, .inr (6, [.int (nI gn), .ref g3, .ref g4])), (g3, .inl (cI, 7, .inl (fun zy => nI (NP zy)))), (g4, .inl (cI, 7, .inl (fun zy => nI (NF zy)))), (g5, .inr (6, [.int (nI rl), .ref g6, .ref g7])), (g6, .inl (cI, 7, .inl (fun zy => nI (RP zy)))), (g7, .inl (cI, 7, .inl (fun zy => nI (RF zy)))), (a0, .inr (2, [.int (nI np), .ref a1, .ref a2, .ref a3, .ref a4, .ref a5, .ref a6, .ref a7, .ref a8, .ref a9, .ref a10, .ref a11])), (a2, .inl (cI, 24, .inl SI))] s.heap := hP
  have hl := lv_entry ([.ref g0, .ref a0, .int u, .int v]) (n := 7) (Nat.le_of_ble_eq_true rfl)
  rw [lg_entry_eq]
  generalize (lg_sl ([.ref g0, .ref a0, .int u, .int v]) ++ List.replicate (7 - (lg_sl ([.ref g0, .ref a0, .int u, .int v])).length) Slot.unset).toArray = ls at hl ⊢
  have hl : lv_has ls 7 [(0, .ref g0), (1, .ref a0), (2, .int u), (3, .int v)] := hl
  refine lv_iload_n hx hb d_RS_weigh_0 rfl (lv_at hl 2 rfl) ?_
  refine lv_iconst (v := 1) hx hb d_RS_weigh_1 (by decide) ?_
  refine lv_iload_n hx hb d_RS_weigh_2 rfl (lv_at hl 3 rfl) ?_
  have hPc := hP.sub (ws' := []) [] rfl
  have hDc := hD.sub (ws' := []) [] (by decide +kernel) rfl
  refine vp_callSi (va_Run.run (va_runSN (As := [.int u, .int 1, .int v]) (rest := []) ⟨hx, hb, hml, hown, hts⟩ (e_within l D cI cZ u 1 v s.heap.size ) ⟨(my_cwN 3 hts q_290 (hN _ nw_560) q_1 rfl rfl (by decide +kernel) ⟨Nat.le_of_ble_eq_true rfl, Nat.le_of_ble_eq_true rfl⟩), hts _ q_289, trivial⟩ (my_preS hPc hDc hK hN) rfl rfl hl.1 rfl (lv_room (Nat.le_of_ble_eq_true rfl)) d_RS_weigh_3 ⟨Nat.le_of_ble_eq_true rfl, Nat.le_of_ble_eq_true rfl⟩)) (fun r_1 hw_1 => ?_)
  have hf_1_0 : r_1 = isw u 1 v := hw_1
  have hf_1_0 : r_1 = isw u 1 v := hf_1_0
  subst hf_1_0
  refine lv_if_ne (tgt := 10) hx hb d_RS_weigh_6 (by decide) (fun h_2 => ?_) (fun h_2 => ?_)
  · refine lv_aload_n hx hb d_RS_weigh_10 rfl (lv_at hl 0 rfl) ?_
    refine va_get (D := D) (ci := 5) (v := .int OB) (C := R_RS) (T := F_RS) (N := 7) hx hb hts i_RS hown hK hP 0 rfl rfl 1 (by decide) (hts _ q_224) (fun _ h9 => h9) rfl d_RS_weigh_11 ?_
    refine lv_istore (lv' := [(4, .int OB), (0, .ref g0), (1, .ref a0), (2, .int u), (3, .int v)]) hx hb d_RS_weigh_14 hl (by decide) rfl (fun ls hl => ?_)
    refine lv_iconst (v := 0) hx hb d_RS_weigh_16 (by decide) ?_
    refine lv_istore (lv' := [(5, .int 0), (4, .int OB), (0, .ref g0), (1, .ref a0), (2, .int u), (3, .int v)]) hx hb d_RS_weigh_17 hl (by decide) rfl (fun ls hl => ?_)
    refine W_loop (σ := Nat × Int32) (I := fun xX H locs ls => xX.1 ≤ gn ∧ xX.2 = rOff SI (pfx NP NF) u OB xX.1 ∧ va_P D vwCl [(g0, .inr (5, [.int HM, .int OB, .int BO, .int BM, .ref g1, .ref g2, .ref g5])), (g2, .inr (6, [.int (nI gn), .ref g3, .ref g4])), (g3, .inl (cI, 7, .inl (fun zy => nI (NP zy)))), (g4, .inl (cI, 7, .inl (fun zy => nI (NF zy)))), (g5, .inr (6, [.int (nI rl), .ref g6, .ref g7])), (g6, .inl (cI, 7, .inl (fun zy => nI (RP zy)))), (g7, .inl (cI, 7, .inl (fun zy => nI (RF zy)))), (a0, .inr (2, [.int (nI np), .ref a1, .ref a2, .ref a3, .ref a4, .ref a5, .ref a6, .ref a7, .ref a8, .ref a9, .ref a10, .ref a11])), (a2, .inl (cI, 24, .inl SI))] H ∧ va_D A [(g0, .inr (5, [.int HM, .int OB, .int BO, .int BM, .ref g1, .ref g2, .ref g5])), (g2, .inr (6, [.int (nI gn), .ref g3, .ref g4])), (g3, .inl (cI, 7, .inl (fun zy => nI (NP zy)))), (g4, .inl (cI, 7, .inl (fun zy => nI (NF zy)))), (g5, .inr (6, [.int (nI rl), .ref g6, .ref g7])), (g6, .inl (cI, 7, .inl (fun zy => nI (RP zy)))), (g7, .inl (cI, 7, .inl (fun zy => nI (RF zy)))), (a0, .inr (2, [.int (nI np), .ref a1, .ref a2, .ref a3, .ref a4, .ref a5, .ref a6, .ref a7, .ref a8, .ref a9, .ref a10, .ref a11])), (a2, .inl (cI, 24, .inl SI))] ∧ va_S A s.heap H locs ∧ lv_has ls 7 [(5, .int (nI xX.1)), (4, .int xX.2), (3, .int v), (2, .int u), (1, .ref a0), (0, .ref g0)]) (μ := fun xX => 8 - xX.1) ?_ (0, OB) ⟨(by first | omega | (dsimp only; omega)), rfl, hP, hD, hS, lv_sub hl [0, 1, 5, 4, 3, 2] rfl⟩
    intro xX H_3 locs ls hI ih1
    obtain ⟨i_l, sm_v⟩ := xX
    obtain ⟨hi, hsm, hP, hD, hS, hl⟩ := hI
    have hP : va_P D vwCl [(g0, .inr (5, [.int HM, .int OB, .int BO, .int BM, .ref g1, .ref g2, .ref g5])), (g2, .inr (6, [.int (nI gn), .ref g3, .ref g4])), (g3, .inl (cI, 7, .inl (fun zy => nI (NP zy)))), (g4, .inl (cI, 7, .inl (fun zy => nI (NF zy)))), (g5, .inr (6, [.int (nI rl), .ref g6, .ref g7])), (g6, .inl (cI, 7, .inl (fun zy => nI (RP zy)))), (g7, .inl (cI, 7, .inl (fun zy => nI (RF zy)))), (a0, .inr (2, [.int (nI np), .ref a1, .ref a2, .ref a3, .ref a4, .ref a5, .ref a6, .ref a7, .ref a8, .ref a9, .ref a10, .ref a11])), (a2, .inl (cI, 24, .inl SI))] H_3 := hP
    have hl : lv_has ls 7 [(5, .int (nI i_l)), (4, .int sm_v), (3, .int v), (2, .int u), (1, .ref a0), (0, .ref g0)] := hl
    have hi : i_l ≤ gn := hi
    have hsm : sm_v = rOff SI (pfx NP NF) u OB i_l := hsm
    refine lv_iload hx hb d_RS_weigh_19 (lv_at hl 0 rfl) ?_
    refine lv_aload_n hx hb d_RS_weigh_21 rfl (lv_at hl 5 rfl) ?_
    refine va_get (D := D) (ci := 5) (v := .ref g2) (C := R_RS) (T := F_RS) (N := 7) hx hb hts i_RS hown hK hP 0 rfl rfl 5 (by decide) (hts _ q_231) (fun _ h9 => h9) rfl d_RS_weigh_22 ?_
    refine va_get (D := D) (ci := 6) (v := .int (nI gn)) (C := R_RO) (T := F_RO) (N := 3) hx hb hts i_RO hown hK hP 1 rfl rfl 0 (by decide) (hts _ q_173) (fun _ h9 => h9) rfl d_RS_weigh_25 ?_
    refine lv_icmp_ge (tgt := 66) hx hb d_RS_weigh_28 (by decide) (fun h_4 => ?_) (fun h_4 => ?_)
    · have nh_4 : gn ≤ i_l := (nI_leI (a := gn) (b := i_l) (by omega) (by omega)).mp h_4
      refine lv_iload hx hb d_RS_weigh_66 (lv_at hl 1 rfl) ?_
      refine lv_aload_n hx hb d_RS_weigh_68 rfl (lv_at hl 5 rfl) ?_
      refine va_get (D := D) (ci := 5) (v := .int OB) (C := R_RS) (T := F_RS) (N := 7) hx hb hts i_RS hown hK hP 0 rfl rfl 1 (by decide) (hts _ q_224) (fun _ h9 => h9) rfl d_RS_weigh_69 ?_
      refine lv_icmp_ge (tgt := 107) hx hb d_RS_weigh_72 (by decide) (fun h_5 => ?_) (fun h_5 => ?_)
      · have hP9 := hP.sub (ws' := [(g0, .inr (5, [.int HM, .int OB, .int BO, .int BM, .ref g1, .ref g2, .ref g5])), (g2, .inr (6, [.int (nI gn), .ref g3, .ref g4])), (g3, .inl (cI, 7, .inl (fun zy => nI (NP zy)))), (g4, .inl (cI, 7, .inl (fun zy => nI (NF zy)))), (g5, .inr (6, [.int (nI rl), .ref g6, .ref g7])), (g6, .inl (cI, 7, .inl (fun zy => nI (RP zy)))), (g7, .inl (cI, 7, .inl (fun zy => nI (RF zy)))), (a0, .inr (2, [.int (nI np), .ref a1, .ref a2, .ref a3, .ref a4, .ref a5, .ref a6, .ref a7, .ref a8, .ref a9, .ref a10, .ref a11])), (a2, .inl (cI, 24, .inl SI))]) [0, 1, 2, 3, 4, 5, 6, 7, 8] rfl
        have hD9 := hD.sub (ws' := [(g0, .inr (5, [.int HM, .int OB, .int BO, .int BM, .ref g1, .ref g2, .ref g5])), (g2, .inr (6, [.int (nI gn), .ref g3, .ref g4])), (g3, .inl (cI, 7, .inl (fun zy => nI (NP zy)))), (g4, .inl (cI, 7, .inl (fun zy => nI (NF zy)))), (g5, .inr (6, [.int (nI rl), .ref g6, .ref g7])), (g6, .inl (cI, 7, .inl (fun zy => nI (RP zy)))), (g7, .inl (cI, 7, .inl (fun zy => nI (RF zy)))), (a0, .inr (2, [.int (nI np), .ref a1, .ref a2, .ref a3, .ref a4, .ref a5, .ref a6, .ref a7, .ref a8, .ref a9, .ref a10, .ref a11])), (a2, .inl (cI, 24, .inl SI))]) [0, 1, 2, 3, 4, 5, 6, 7, 8] (by decide +kernel) rfl
        refine W.widen (k := 0) (n := 0) (Nat.le_of_ble_eq_true rfl) (Nat.le_of_ble_eq_true rfl) ?_
        exact W.vret hx hb hr (fun tT ht hW => ⟨⟨(BO, BM, rl, RP, RF), rfl, ⟨h_rl, h_RP, h_RF, (by rw [show i_l = gn by omega] at hsm; exact rw_no (Or.inr (Or.inl (by rw [← hsm]; exact (Int32.not_lt.mpr h_5)))))⟩, by rw [ht]; exact hP9, hD9⟩, hS.F ht⟩) hS.2.2 d_RS_weigh_107
      · refine lv_aload_n hx hb d_RS_weigh_75 rfl (lv_at hl 5 rfl) ?_
        refine lv_iload hx hb d_RS_weigh_76 (lv_at hl 1 rfl) ?_
        refine lv_iload_n hx hb d_RS_weigh_78 rfl (lv_at hl 3 rfl) ?_
        have hPc := hP.sub (ws' := [(g0, .inr (5, [.int HM, .int OB, .int BO, .int BM, .ref g1, .ref g2, .ref g5])), (g2, .inr (6, [.int (nI gn), .ref g3, .ref g4])), (g3, .inl (cI, 7, .inl (fun zy => nI (NP zy)))), (g4, .inl (cI, 7, .inl (fun zy => nI (NF zy)))), (g5, .inr (6, [.int (nI rl), .ref g6, .ref g7])), (g6, .inl (cI, 7, .inl (fun zy => nI (RP zy))))]) [0, 1, 2, 3, 4, 5] rfl
        have hDc := hD.sub (ws' := [(g0, .inr (5, [.int HM, .int OB, .int BO, .int BM, .ref g1, .ref g2, .ref g5])), (g2, .inr (6, [.int (nI gn), .ref g3, .ref g4])), (g3, .inl (cI, 7, .inl (fun zy => nI (NP zy)))), (g4, .inl (cI, 7, .inl (fun zy => nI (NF zy)))), (g5, .inr (6, [.int (nI rl), .ref g6, .ref g7])), (g6, .inl (cI, 7, .inl (fun zy => nI (RP zy))))]) [0, 1, 2, 3, 4, 5] (by decide +kernel) rfl
        refine vp_callSi (va_Run.run (va_runV (As := [.int sm_v, .int u]) (rest := []) ⟨hx, hb, hml, hown, hts⟩ (e_RS_isBetter l D cI cZ g0 sm_v u HM OB BO BM g1 g2 g5 gn g3 g4 NP NF rl g6 g7 RP H_3.size h_NP h_NF h_rl h_RP hgn) (my_cwV 2 hts q_569 q_566 q_567 q_568 q_7 rfl rfl (by decide +kernel) ⟨Nat.le_of_ble_eq_true rfl, Nat.le_of_ble_eq_true rfl⟩) (my_preV hPc hDc hK hN 5 0 rfl rfl) rfl rfl hl.1 rfl (lv_room (Nat.le_of_ble_eq_true rfl)) d_RS_weigh_79 ⟨Nat.le_of_ble_eq_true rfl, Nat.le_of_ble_eq_true rfl⟩)) (fun r_6 hw_6 => ?_)
        rcases hw_6 with ⟨hg_7, rfl⟩ | ⟨hg_8, rfl⟩
        · have hg_7 : ¬ rBt sm_v u gn NP rl BO BM RP := hg_7
          refine lv_if_eq (tgt := 107) hx hb d_RS_weigh_82 (by decide) (fun _ => ?_) (fun h => absurd h (by decide))
          have hP9 := hP.sub (ws' := [(g0, .inr (5, [.int HM, .int OB, .int BO, .int BM, .ref g1, .ref g2, .ref g5])), (g2, .inr (6, [.int (nI gn), .ref g3, .ref g4])), (g3, .inl (cI, 7, .inl (fun zy => nI (NP zy)))), (g4, .inl (cI, 7, .inl (fun zy => nI (NF zy)))), (g5, .inr (6, [.int (nI rl), .ref g6, .ref g7])), (g6, .inl (cI, 7, .inl (fun zy => nI (RP zy)))), (g7, .inl (cI, 7, .inl (fun zy => nI (RF zy)))), (a0, .inr (2, [.int (nI np), .ref a1, .ref a2, .ref a3, .ref a4, .ref a5, .ref a6, .ref a7, .ref a8, .ref a9, .ref a10, .ref a11])), (a2, .inl (cI, 24, .inl SI))]) [0, 1, 2, 3, 4, 5, 6, 7, 8] rfl
          have hD9 := hD.sub (ws' := [(g0, .inr (5, [.int HM, .int OB, .int BO, .int BM, .ref g1, .ref g2, .ref g5])), (g2, .inr (6, [.int (nI gn), .ref g3, .ref g4])), (g3, .inl (cI, 7, .inl (fun zy => nI (NP zy)))), (g4, .inl (cI, 7, .inl (fun zy => nI (NF zy)))), (g5, .inr (6, [.int (nI rl), .ref g6, .ref g7])), (g6, .inl (cI, 7, .inl (fun zy => nI (RP zy)))), (g7, .inl (cI, 7, .inl (fun zy => nI (RF zy)))), (a0, .inr (2, [.int (nI np), .ref a1, .ref a2, .ref a3, .ref a4, .ref a5, .ref a6, .ref a7, .ref a8, .ref a9, .ref a10, .ref a11])), (a2, .inl (cI, 24, .inl SI))]) [0, 1, 2, 3, 4, 5, 6, 7, 8] (by decide +kernel) rfl
          refine W.widen (k := 0) (n := 0) (Nat.le_of_ble_eq_true rfl) (Nat.le_of_ble_eq_true rfl) ?_
          exact W.vret hx hb hr (fun tT ht hW => ⟨⟨(BO, BM, rl, RP, RF), rfl, ⟨h_rl, h_RP, h_RF, (by rw [show i_l = gn by omega] at hsm; exact rw_no (Or.inr (Or.inr (by rw [← hsm]; exact hg_7))))⟩, by rw [ht]; exact hP9, hD9⟩, hS.F ht⟩) hS.2.2 d_RS_weigh_107
        · have hg_8 : rBt sm_v u gn NP rl BO BM RP := hg_8
          refine lv_if_eq (tgt := 107) hx hb d_RS_weigh_82 (by decide) (fun h => absurd h (by decide)) (fun _ => ?_)
          refine lv_aload_n hx hb d_RS_weigh_85 rfl (lv_at hl 5 rfl) ?_
          refine va_get (D := D) (ci := 5) (v := .ref g5) (C := R_RS) (T := F_RS) (N := 7) hx hb hts i_RS hown hK hP 0 rfl rfl 6 (by decide) (hts _ q_233) (fun _ h9 => h9) rfl d_RS_weigh_86 ?_
          refine lv_aload_n hx hb d_RS_weigh_89 rfl (lv_at hl 5 rfl) ?_
          refine va_get (D := D) (ci := 5) (v := .ref g2) (C := R_RS) (T := F_RS) (N := 7) hx hb hts i_RS hown hK hP 0 rfl rfl 5 (by decide) (hts _ q_231) (fun _ h9 => h9) rfl d_RS_weigh_90 ?_
          have hPc := hP.sub (ws' := [(g5, .inr (6, [.int (nI rl), .ref g6, .ref g7])), (g6, .inl (cI, 7, .inl (fun zy => nI (RP zy)))), (g7, .inl (cI, 7, .inl (fun zy => nI (RF zy)))), (g2, .inr (6, [.int (nI gn), .ref g3, .ref g4])), (g3, .inl (cI, 7, .inl (fun zy => nI (NP zy)))), (g4, .inl (cI, 7, .inl (fun zy => nI (NF zy))))]) [4, 5, 6, 1, 2, 3] rfl
          have hDc := hD.sub (ws' := [(g5, .inr (6, [.int (nI rl), .ref g6, .ref g7])), (g6, .inl (cI, 7, .inl (fun zy => nI (RP zy)))), (g7, .inl (cI, 7, .inl (fun zy => nI (RF zy)))), (g2, .inr (6, [.int (nI gn), .ref g3, .ref g4])), (g3, .inl (cI, 7, .inl (fun zy => nI (NP zy)))), (g4, .inl (cI, 7, .inl (fun zy => nI (NF zy))))]) [4, 5, 6, 1, 2, 3] (by decide +kernel) rfl
          have hFc := va_free (wc := [(g5, .inr (6, [.int (nI rl), .ref g6, .ref g7])), (g6, .inl (cI, 7, .inl (fun zy => nI (RP zy)))), (g7, .inl (cI, 7, .inl (fun zy => nI (RF zy)))), (g2, .inr (6, [.int (nI gn), .ref g3, .ref g4])), (g3, .inl (cI, 7, .inl (fun zy => nI (NP zy)))), (g4, .inl (cI, 7, .inl (fun zy => nI (NF zy))))]) hD hS hA [4, 5, 6, 1, 2, 3] rfl
          refine va_callv (va_runV (As := [.ref g2]) (rest := []) ⟨hx, hb, hml, hown, hts⟩ (e_RO_take l D cI cZ g5 g2 (nI rl) g6 g7 RP RF gn g3 g4 NP NF H_3.size hgn h_NP h_NF) (my_cwV 1 hts q_420 q_571 q_418 q_419 q_6 rfl rfl (by decide +kernel) ⟨Nat.le_of_ble_eq_true rfl, Nat.le_of_ble_eq_true rfl⟩) (my_preV hPc hDc hK hN 6 0 rfl rfl) rfl rfl hl.1 rfl (lv_room (Nat.le_of_ble_eq_true rfl)) d_RS_weigh_93 ⟨Nat.le_of_ble_eq_true rfl, Nat.le_of_ble_eq_true rfl⟩) hS (fun q _ h => hFc q h) hFc (fun uU tT H_12 locs ht hvm hw_11 hB hz1 hk1 hS => ?_)
          obtain ⟨hP1, hD1⟩ := hB
          rw [ht] at hP1
          obtain ⟨hP, hD⟩ := va_join (wr := [(g0, .inr (5, [.int HM, .int OB, .int BO, .int BM, .ref g1, .ref g2, .ref g5])), (a0, .inr (2, [.int (nI np), .ref a1, .ref a2, .ref a3, .ref a4, .ref a5, .ref a6, .ref a7, .ref a8, .ref a9, .ref a10, .ref a11])), (a2, .inl (cI, 24, .inl SI))]) (w1 := [(g5, .inr (6, [.int (nI gn), .ref g6, .ref g7])), (g6, .inl (cI, 7, .inl (fun zy => nI ((cpN gn NP RP) zy)))), (g7, .inl (cI, 7, .inl (fun zy => nI ((cpN gn NF RF) zy)))), (g2, .inr (6, [.int (nI gn), .ref g3, .ref g4])), (g3, .inl (cI, 7, .inl (fun zy => nI (NP zy)))), (g4, .inl (cI, 7, .inl (fun zy => nI (NF zy))))]) hP hD [4, 5, 6, 1, 2, 3] [0, 7, 8] rfl rfl (by decide +kernel) (by decide +kernel) hk1 hFc hP1 hD1
          have hP : va_P D vwCl [(g0, .inr (5, [.int HM, .int OB, .int BO, .int BM, .ref g1, .ref g2, .ref g5])), (a0, .inr (2, [.int (nI np), .ref a1, .ref a2, .ref a3, .ref a4, .ref a5, .ref a6, .ref a7, .ref a8, .ref a9, .ref a10, .ref a11])), (a2, .inl (cI, 24, .inl SI)), (g5, .inr (6, [.int (nI gn), .ref g6, .ref g7])), (g6, .inl (cI, 7, .inl (fun zy => nI ((cpN gn NP RP) zy)))), (g7, .inl (cI, 7, .inl (fun zy => nI ((cpN gn NF RF) zy)))), (g2, .inr (6, [.int (nI gn), .ref g3, .ref g4])), (g3, .inl (cI, 7, .inl (fun zy => nI (NP zy)))), (g4, .inl (cI, 7, .inl (fun zy => nI (NF zy))))] H_12 := hP
          refine lv_aload_n hx hb d_RS_weigh_96 rfl (lv_at hl 5 rfl) ?_
          refine lv_iload hx hb d_RS_weigh_97 (lv_at hl 1 rfl) ?_
          refine va_put (D := D) (ci := 5) (v := .int sm_v) (ty := .int) (C := R_RS) (T := F_RS) (N := 7) hx hb hts i_RS t_RS t_RS_ok n_RS hown hK hP hD hS 0 rfl rfl 2 (by decide) (hts _ q_225) (fun _ h9 => h9) rfl (by decide +kernel) rfl rfl (Nat.le_of_ble_eq_true rfl) d_RS_weigh_99 (fun H_13 locs hP hD hS => ?_)
          have hP : va_P D vwCl [(g0, .inr (5, [.int HM, .int OB, .int sm_v, .int BM, .ref g1, .ref g2, .ref g5])), (a0, .inr (2, [.int (nI np), .ref a1, .ref a2, .ref a3, .ref a4, .ref a5, .ref a6, .ref a7, .ref a8, .ref a9, .ref a10, .ref a11])), (a2, .inl (cI, 24, .inl SI)), (g5, .inr (6, [.int (nI gn), .ref g6, .ref g7])), (g6, .inl (cI, 7, .inl (fun zy => nI ((cpN gn NP RP) zy)))), (g7, .inl (cI, 7, .inl (fun zy => nI ((cpN gn NF RF) zy)))), (g2, .inr (6, [.int (nI gn), .ref g3, .ref g4])), (g3, .inl (cI, 7, .inl (fun zy => nI (NP zy)))), (g4, .inl (cI, 7, .inl (fun zy => nI (NF zy))))] H_13 := hP
          refine lv_aload_n hx hb d_RS_weigh_102 rfl (lv_at hl 5 rfl) ?_
          refine lv_iload_n hx hb d_RS_weigh_103 rfl (lv_at hl 3 rfl) ?_
          refine va_put (D := D) (ci := 5) (v := .int u) (ty := .int) (C := R_RS) (T := F_RS) (N := 7) hx hb hts i_RS t_RS t_RS_ok n_RS hown hK hP hD hS 0 rfl rfl 3 (by decide) (hts _ q_227) (fun _ h9 => h9) rfl (by decide +kernel) rfl rfl (Nat.le_of_ble_eq_true rfl) d_RS_weigh_104 (fun H_14 locs hP hD hS => ?_)
          have hP : va_P D vwCl [(g0, .inr (5, [.int HM, .int OB, .int sm_v, .int u, .ref g1, .ref g2, .ref g5])), (a0, .inr (2, [.int (nI np), .ref a1, .ref a2, .ref a3, .ref a4, .ref a5, .ref a6, .ref a7, .ref a8, .ref a9, .ref a10, .ref a11])), (a2, .inl (cI, 24, .inl SI)), (g5, .inr (6, [.int (nI gn), .ref g6, .ref g7])), (g6, .inl (cI, 7, .inl (fun zy => nI ((cpN gn NP RP) zy)))), (g7, .inl (cI, 7, .inl (fun zy => nI ((cpN gn NF RF) zy)))), (g2, .inr (6, [.int (nI gn), .ref g3, .ref g4])), (g3, .inl (cI, 7, .inl (fun zy => nI (NP zy)))), (g4, .inl (cI, 7, .inl (fun zy => nI (NF zy))))] H_14 := hP
          have hP9 := hP.sub (ws' := [(g0, .inr (5, [.int HM, .int OB, .int sm_v, .int u, .ref g1, .ref g2, .ref g5])), (g2, .inr (6, [.int (nI gn), .ref g3, .ref g4])), (g3, .inl (cI, 7, .inl (fun zy => nI (NP zy)))), (g4, .inl (cI, 7, .inl (fun zy => nI (NF zy)))), (g5, .inr (6, [.int (nI gn), .ref g6, .ref g7])), (g6, .inl (cI, 7, .inl (fun zy => nI ((cpN gn NP RP) zy)))), (g7, .inl (cI, 7, .inl (fun zy => nI ((cpN gn NF RF) zy)))), (a0, .inr (2, [.int (nI np), .ref a1, .ref a2, .ref a3, .ref a4, .ref a5, .ref a6, .ref a7, .ref a8, .ref a9, .ref a10, .ref a11])), (a2, .inl (cI, 24, .inl SI))]) [0, 6, 7, 8, 3, 4, 5, 1, 2] rfl
          have hD9 := hD.sub (ws' := [(g0, .inr (5, [.int HM, .int OB, .int sm_v, .int u, .ref g1, .ref g2, .ref g5])), (g2, .inr (6, [.int (nI gn), .ref g3, .ref g4])), (g3, .inl (cI, 7, .inl (fun zy => nI (NP zy)))), (g4, .inl (cI, 7, .inl (fun zy => nI (NF zy)))), (g5, .inr (6, [.int (nI gn), .ref g6, .ref g7])), (g6, .inl (cI, 7, .inl (fun zy => nI ((cpN gn NP RP) zy)))), (g7, .inl (cI, 7, .inl (fun zy => nI ((cpN gn NF RF) zy)))), (a0, .inr (2, [.int (nI np), .ref a1, .ref a2, .ref a3, .ref a4, .ref a5, .ref a6, .ref a7, .ref a8, .ref a9, .ref a10, .ref a11])), (a2, .inl (cI, 24, .inl SI))]) [0, 6, 7, 8, 3, 4, 5, 1, 2] (by decide +kernel) rfl
          refine W.widen (k := 0) (n := 0) (Nat.le_of_ble_eq_true rfl) (Nat.le_of_ble_eq_true rfl) ?_
          exact W.vret hx hb hr (fun tT ht hW => ⟨⟨(sm_v, u, gn, (cpN gn NP RP), (cpN gn NF RF)), rfl, ⟨hgn, (cpN_le h_NP h_RP), (cpN_le h_NF h_RF), (by rw [show i_l = gn by omega] at hsm; rw [hsm]; exact rw_yes (isw_le h_2) (by rw [← hsm]; exact (Int32.not_le.mp h_5)) (by rw [← hsm]; exact hg_8) (fun z hz => ⟨cpN_lt hz, cpN_lt hz⟩))⟩, by rw [ht]; exact hP9, hD9⟩, hS.F ht⟩) hS.2.2 d_RS_weigh_107
    · have nh_4 : ¬ gn ≤ i_l := fun qZ => h_4 ((nI_leI (a := gn) (b := i_l) (by omega) (by omega)).mpr qZ)
      refine lv_aload_n hx hb d_RS_weigh_31 rfl (lv_at hl 5 rfl) ?_
      refine lv_aload_n hx hb d_RS_weigh_32 rfl (lv_at hl 4 rfl) ?_
      refine lv_iload hx hb d_RS_weigh_33 (lv_at hl 0 rfl) ?_
      have hPc := hP.sub (ws' := [(g0, .inr (5, [.int HM, .int OB, .int BO, .int BM, .ref g1, .ref g2, .ref g5])), (g2, .inr (6, [.int (nI gn), .ref g3, .ref g4])), (g3, .inl (cI, 7, .inl (fun zy => nI (NP zy)))), (g4, .inl (cI, 7, .inl (fun zy => nI (NF zy)))), (a0, .inr (2, [.int (nI np), .ref a1, .ref a2, .ref a3, .ref a4, .ref a5, .ref a6, .ref a7, .ref a8, .ref a9, .ref a10, .ref a11])), (a2, .inl (cI, 24, .inl SI))]) [0, 1, 2, 3, 7, 8] rfl
      have hDc := hD.sub (ws' := [(g0, .inr (5, [.int HM, .int OB, .int BO, .int BM, .ref g1, .ref g2, .ref g5])), (g2, .inr (6, [.int (nI gn), .ref g3, .ref g4])), (g3, .inl (cI, 7, .inl (fun zy => nI (NP zy)))), (g4, .inl (cI, 7, .inl (fun zy => nI (NF zy)))), (a0, .inr (2, [.int (nI np), .ref a1, .ref a2, .ref a3, .ref a4, .ref a5, .ref a6, .ref a7, .ref a8, .ref a9, .ref a10, .ref a11])), (a2, .inl (cI, 24, .inl SI))]) [0, 1, 2, 3, 7, 8] (by decide +kernel) rfl
      refine vp_callSi (va_Run.run (va_runV (As := [.ref a0, .int (nI i_l)]) (rest := []) ⟨hx, hb, hml, hown, hts⟩ (e_RS_difference l D cI cZ g0 a0 i_l HM OB BO BM g1 g2 g5 gn g3 g4 NP NF np a1 a2 a3 a4 a5 a6 a7 a8 a9 a10 a11 SI H_3.size h_NP h_NF h_np (by first | omega | (dsimp only; omega))) (my_cwV 2 hts q_564 q_561 q_562 q_563 q_7 rfl rfl (by decide +kernel) ⟨Nat.le_of_ble_eq_true rfl, Nat.le_of_ble_eq_true rfl⟩) (my_preV hPc hDc hK hN 5 0 rfl rfl) rfl rfl hl.1 rfl (lv_room (Nat.le_of_ble_eq_true rfl)) d_RS_weigh_35 ⟨Nat.le_of_ble_eq_true rfl, Nat.le_of_ble_eq_true rfl⟩)) (fun r_15 hw_15 => ?_)
      have hf_15_0 : r_15 = dfS SI (pfx NP NF i_l) := hw_15
      have hf_15_0 : r_15 = dfS SI (pfx NP NF i_l) := hf_15_0
      subst hf_15_0
      refine lv_istore (lv' := [(6, .int (dfS SI (pfx NP NF i_l))), (5, .int (nI i_l)), (4, .int sm_v), (3, .int v), (2, .int u), (1, .ref a0), (0, .ref g0)]) hx hb d_RS_weigh_38 hl (by decide) rfl (fun ls hl => ?_)
      refine lv_iload hx hb d_RS_weigh_40 (lv_at hl 2 rfl) ?_
      refine lv_iload hx hb d_RS_weigh_42 (lv_at hl 0 rfl) ?_
      refine lv_iconst (v := 2) hx hb d_RS_weigh_44 (by decide) ?_
      refine lv_iload_n hx hb d_RS_weigh_45 rfl (lv_at hl 4 rfl) ?_
      refine lv_imul hx hb d_RS_weigh_46 ?_
      refine lv_isub hx hb d_RS_weigh_47 ?_
      refine va_mabs hx hb (hml.trans hl.1.symm) hown (hts _ q_565) (hts _ q_527) (hts _ q_9) (hts _ q_528) (Nat.le_of_ble_eq_true rfl) (Nat.le_of_ble_eq_true rfl) (Nat.le_of_ble_eq_true rfl) (Nat.le_of_ble_eq_true rfl) d_RS_weigh_48 ?_
      refine lv_topi (fun v_16 ev_16 => ?_)
      refine lv_iload hx hb d_RS_weigh_51 (lv_at hl 0 rfl) ?_
      refine va_mabs hx hb (hml.trans hl.1.symm) hown (hts _ q_565) (hts _ q_527) (hts _ q_9) (hts _ q_528) (Nat.le_of_ble_eq_true rfl) (Nat.le_of_ble_eq_true rfl) (Nat.le_of_ble_eq_true rfl) (Nat.le_of_ble_eq_true rfl) d_RS_weigh_53 ?_
      refine lv_topi (fun v_17 ev_17 => ?_)
      refine lv_isub hx hb d_RS_weigh_56 ?_
      refine lv_iadd hx hb d_RS_weigh_57 ?_
      refine lv_istore (lv' := [(4, .int (sm_v + (v_16 - v_17))), (6, .int (dfS SI (pfx NP NF i_l))), (5, .int (nI i_l)), (3, .int v), (2, .int u), (1, .ref a0), (0, .ref g0)]) hx hb d_RS_weigh_58 hl (by decide) rfl (fun ls hl => ?_)
      refine lv_iinc (v := nI (i_l + 1)) (lv' := [(5, .int (nI (i_l + 1))), (4, .int (sm_v + (v_16 - v_17))), (6, .int (dfS SI (pfx NP NF i_l))), (3, .int v), (2, .int u), (1, .ref a0), (0, .ref g0)]) hx hb d_RS_weigh_60 hl (k := 2) rfl (nI_1 i_l) (by decide) rfl (fun ls hl => ?_)
      refine lv_goto (tgt := 19) hx hb d_RS_weigh_63 (by decide) ?_
      have hPz := hP.sub (ws' := [(g0, .inr (5, [.int HM, .int OB, .int BO, .int BM, .ref g1, .ref g2, .ref g5])), (g2, .inr (6, [.int (nI gn), .ref g3, .ref g4])), (g3, .inl (cI, 7, .inl (fun zy => nI (NP zy)))), (g4, .inl (cI, 7, .inl (fun zy => nI (NF zy)))), (g5, .inr (6, [.int (nI rl), .ref g6, .ref g7])), (g6, .inl (cI, 7, .inl (fun zy => nI (RP zy)))), (g7, .inl (cI, 7, .inl (fun zy => nI (RF zy)))), (a0, .inr (2, [.int (nI np), .ref a1, .ref a2, .ref a3, .ref a4, .ref a5, .ref a6, .ref a7, .ref a8, .ref a9, .ref a10, .ref a11])), (a2, .inl (cI, 24, .inl SI))]) [0, 1, 2, 3, 4, 5, 6, 7, 8] rfl
      have hDz := hD.sub (ws' := [(g0, .inr (5, [.int HM, .int OB, .int BO, .int BM, .ref g1, .ref g2, .ref g5])), (g2, .inr (6, [.int (nI gn), .ref g3, .ref g4])), (g3, .inl (cI, 7, .inl (fun zy => nI (NP zy)))), (g4, .inl (cI, 7, .inl (fun zy => nI (NF zy)))), (g5, .inr (6, [.int (nI rl), .ref g6, .ref g7])), (g6, .inl (cI, 7, .inl (fun zy => nI (RP zy)))), (g7, .inl (cI, 7, .inl (fun zy => nI (RF zy)))), (a0, .inr (2, [.int (nI np), .ref a1, .ref a2, .ref a3, .ref a4, .ref a5, .ref a6, .ref a7, .ref a8, .ref a9, .ref a10, .ref a11])), (a2, .inl (cI, 24, .inl SI))]) [0, 1, 2, 3, 4, 5, 6, 7, 8] (by decide) rfl
      exact ih1 ((i_l + 1), sm_v + (v_16 - v_17)) _ _ _ (by first | omega | (dsimp only; omega)) ⟨(by first | omega | (dsimp only; omega)), (roff_s hsm ev_16 ev_17), hPz, hDz, hS, lv_sub hl [0, 1, 3, 4, 5, 6] rfl⟩
  · have hP9 := hP.sub (ws' := [(g0, .inr (5, [.int HM, .int OB, .int BO, .int BM, .ref g1, .ref g2, .ref g5])), (g2, .inr (6, [.int (nI gn), .ref g3, .ref g4])), (g3, .inl (cI, 7, .inl (fun zy => nI (NP zy)))), (g4, .inl (cI, 7, .inl (fun zy => nI (NF zy)))), (g5, .inr (6, [.int (nI rl), .ref g6, .ref g7])), (g6, .inl (cI, 7, .inl (fun zy => nI (RP zy)))), (g7, .inl (cI, 7, .inl (fun zy => nI (RF zy)))), (a0, .inr (2, [.int (nI np), .ref a1, .ref a2, .ref a3, .ref a4, .ref a5, .ref a6, .ref a7, .ref a8, .ref a9, .ref a10, .ref a11])), (a2, .inl (cI, 24, .inl SI))]) [0, 1, 2, 3, 4, 5, 6, 7, 8] rfl
    have hD9 := hD.sub (ws' := [(g0, .inr (5, [.int HM, .int OB, .int BO, .int BM, .ref g1, .ref g2, .ref g5])), (g2, .inr (6, [.int (nI gn), .ref g3, .ref g4])), (g3, .inl (cI, 7, .inl (fun zy => nI (NP zy)))), (g4, .inl (cI, 7, .inl (fun zy => nI (NF zy)))), (g5, .inr (6, [.int (nI rl), .ref g6, .ref g7])), (g6, .inl (cI, 7, .inl (fun zy => nI (RP zy)))), (g7, .inl (cI, 7, .inl (fun zy => nI (RF zy)))), (a0, .inr (2, [.int (nI np), .ref a1, .ref a2, .ref a3, .ref a4, .ref a5, .ref a6, .ref a7, .ref a8, .ref a9, .ref a10, .ref a11])), (a2, .inl (cI, 24, .inl SI))]) [0, 1, 2, 3, 4, 5, 6, 7, 8] (by decide +kernel) rfl
    refine W.widen (k := 0) (n := 0) (Nat.le_of_ble_eq_true rfl) (Nat.le_of_ble_eq_true rfl) ?_
    exact W.vret hx hb hr (fun tT ht hW => ⟨⟨(BO, BM, rl, RP, RF), rfl, ⟨h_rl, h_RP, h_RF, (rw_no (Or.inl (isw_nle h_2)))⟩, by rw [ht]; exact hP9, hD9⟩, hS.F ht⟩) hS.2.2 d_RS_weigh_9

set_option maxHeartbeats 4000000 in
set_option maxRecDepth 100000 in
theorem e_RS_offer (l : Launch) (D : va_G) (cI cZ : ClassId) (g0 : Nat) (a0 : Nat) (ln : Nat) (HM : Int32) (OB : Int32) (BO : Int32) (BM : Int32) (g1 : Nat) (g2 : Nat) (g5 : Nat) (gnl : Int32) (g3 : Nat) (g4 : Nat) (NP : Nat → Nat) (NF : Nat → Nat) (rl : Nat) (g6 : Nat) (g7 : Nat) (RP : Nat → Nat) (RF : Nat → Nat) (np : Nat) (a1 : Nat) (a2 : Nat) (a3 : Nat) (a4 : Nat) (a5 : Nat) (a6 : Nat) (a7 : Nat) (a8 : Nat) (a9 : Nat) (a10 : Nat) (a11 : Nat) (SI : Nat → Int32) (sz : Nat) (h_NP : ∀ zz, NP zz ≤ 11) (h_NF : ∀ zz, NF zz ≤ 1) (h_rl : rl ≤ 7) (h_RP : ∀ zz, RP zz ≤ 11) (h_RF : ∀ zz, RF zz ≤ 1) (h_np : np ≤ 12) (hln : ln ≤ 7) (hSI : ∀ k, 0 ≤ (SI k).toInt ∧ (SI k).toInt ≤ 200000) : Met l ⟨"PromiseChains$RingSearch", "offer", "(LPromiseChains$Pairs;I)V"⟩ (mw ⟨"PromiseChains$RingSearch", "offer", "(LPromiseChains$Pairs;I)V"⟩ prog_5_method_3_code 6 none) ({ frames := 3, cells := 0, slots := 0, locals := 71 }) (va_Pc [.ref g0, .ref a0, .int (nI ln)] (PB D cI cZ sz [(g0, .inr (5, [.int HM, .int OB, .int BO, .int BM, .ref g1, .ref g2, .ref g5])), (g2, .inr (6, [.int gnl, .ref g3, .ref g4])), (g3, .inl (cI, 7, .inl (fun zy => nI (NP zy)))), (g4, .inl (cI, 7, .inl (fun zy => nI (NF zy)))), (g5, .inr (6, [.int (nI rl), .ref g6, .ref g7])), (g6, .inl (cI, 7, .inl (fun zy => nI (RP zy)))), (g7, .inl (cI, 7, .inl (fun zy => nI (RF zy)))), (a0, .inr (2, [.int (nI np), .ref a1, .ref a2, .ref a3, .ref a4, .ref a5, .ref a6, .ref a7, .ref a8, .ref a9, .ref a10, .ref a11])), (a2, .inl (cI, 24, .inl SI))])) (va_Qv (S := Int32 × Int32 × Int32 × Nat × (Nat → Nat) × (Nat → Nat)) (fun uU => (uU.2.2.2.1 ≤ 7) ∧ (∀ zz, uU.2.2.2.2.1 zz ≤ 11) ∧ (∀ zz, uU.2.2.2.2.2 zz ≤ 1) ∧ (OFR SI ln NP NF OB rl BO BM RP RF uU.2.2.2.1 uU.1 uU.2.1 uU.2.2.2.2.1 uU.2.2.2.2.2)) (fun uU tT => BB D (va_A [(g0, .inr (5, [.int HM, .int OB, .int BO, .int BM, .ref g1, .ref g2, .ref g5])), (g2, .inr (6, [.int gnl, .ref g3, .ref g4])), (g3, .inl (cI, 7, .inl (fun zy => nI (NP zy)))), (g4, .inl (cI, 7, .inl (fun zy => nI (NF zy)))), (g5, .inr (6, [.int (nI rl), .ref g6, .ref g7])), (g6, .inl (cI, 7, .inl (fun zy => nI (RP zy)))), (g7, .inl (cI, 7, .inl (fun zy => nI (RF zy)))), (a0, .inr (2, [.int (nI np), .ref a1, .ref a2, .ref a3, .ref a4, .ref a5, .ref a6, .ref a7, .ref a8, .ref a9, .ref a10, .ref a11])), (a2, .inl (cI, 24, .inl SI))] sz) [(g0, .inr (5, [.int HM, .int OB, .int (uU.1), .int (uU.2.1), .ref g1, .ref g2, .ref g5])), (g2, .inr (6, [.int (uU.2.2.1), .ref g3, .ref g4])), (g3, .inl (cI, 7, .inl (fun zy => nI (NP zy)))), (g4, .inl (cI, 7, .inl (fun zy => nI (NF zy)))), (g5, .inr (6, [.int (nI uU.2.2.2.1), .ref g6, .ref g7])), (g6, .inl (cI, 7, .inl (fun zy => nI ((uU.2.2.2.2.1) zy)))), (g7, .inl (cI, 7, .inl (fun zy => nI ((uU.2.2.2.2.2) zy)))), (a0, .inr (2, [.int (nI np), .ref a1, .ref a2, .ref a3, .ref a4, .ref a5, .ref a6, .ref a7, .ref a8, .ref a9, .ref a10, .ref a11])), (a2, .inl (cI, 24, .inl SI))] tT) (va_A [(g0, .inr (5, [.int HM, .int OB, .int BO, .int BM, .ref g1, .ref g2, .ref g5])), (g2, .inr (6, [.int gnl, .ref g3, .ref g4])), (g3, .inl (cI, 7, .inl (fun zy => nI (NP zy)))), (g4, .inl (cI, 7, .inl (fun zy => nI (NF zy)))), (g5, .inr (6, [.int (nI rl), .ref g6, .ref g7])), (g6, .inl (cI, 7, .inl (fun zy => nI (RP zy)))), (g7, .inl (cI, 7, .inl (fun zy => nI (RF zy)))), (a0, .inr (2, [.int (nI np), .ref a1, .ref a2, .ref a3, .ref a4, .ref a5, .ref a6, .ref a7, .ref a8, .ref a9, .ref a10, .ref a11])), (a2, .inl (cI, 24, .inl SI))] sz)) 0 0 (va_A [(g0, .inr (5, [.int HM, .int OB, .int BO, .int BM, .ref g1, .ref g2, .ref g5])), (g2, .inr (6, [.int gnl, .ref g3, .ref g4])), (g3, .inl (cI, 7, .inl (fun zy => nI (NP zy)))), (g4, .inl (cI, 7, .inl (fun zy => nI (NF zy)))), (g5, .inr (6, [.int (nI rl), .ref g6, .ref g7])), (g6, .inl (cI, 7, .inl (fun zy => nI (RP zy)))), (g7, .inl (cI, 7, .inl (fun zy => nI (RF zy)))), (a0, .inr (2, [.int (nI np), .ref a1, .ref a2, .ref a3, .ref a4, .ref a5, .ref a6, .ref a7, .ref a8, .ref a9, .ref a10, .ref a11])), (a2, .inl (cI, 24, .inl SI))] sz) := by
  refine Met.ofW (cc := prog_5_method_3_code) (maxL := 6) (ret := none) (by decide) rfl ?_
  intro p e s m args below meth c s₁ B hml hv
  obtain ⟨rfl, hsz, hP, hK, hD0, hN⟩ := hv
  have hx := B.exec
  have hb := B.bytes
  have hr := B.returns
  have hts0 := atoms_spec (ws := mw ⟨"PromiseChains$RingSearch", "offer", "(LPromiseChains$Pairs;I)V"⟩ prog_5_method_3_code 6 none) B.pre
  have hts : ∀ w ∈ tblG, w.before _ s = true := fun w h => hts0 w (List.mem_cons_of_mem _ h)
  have hown : s.vm.findClass "PromiseChains$RingSearch" = some m.cls := findClass_of_methodNamed B.named
  have hlocks := B.notSynchronized
  subst hsz
  have hD := hD0.self (sz := s.heap.size)
  generalize hAe : va_A [(g0, .inr (5, [.int HM, .int OB, .int BO, .int BM, .ref g1, .ref g2, .ref g5])), (g2, .inr (6, [.int gnl, .ref g3, .ref g4])), (g3, .inl (cI, 7, .inl (fun zy => nI (NP zy)))), (g4, .inl (cI, 7, .inl (fun zy => nI (NF zy)))), (g5, .inr (6, [.int (nI rl), .ref g6, .ref g7])), (g6, .inl (cI, 7, .inl (fun zy => nI (RP zy)))), (g7, .inl (cI, 7, .inl (fun zy => nI (RF zy)))), (a0, .inr (2, [.int (nI np), .ref a1, .ref a2, .ref a3, .ref a4, .ref a5, .ref a6, .ref a7, .ref a8, .ref a9, .ref a10, .ref a11])), (a2, .inl (cI, 24, .inl SI))] s.heap.size = A at hD ⊢
  have hA : ∀ q : Nat, s.heap.size ≤ q → A q := fun q h => by rw [← hAe]; exact Or.inr h
  have hS : va_S A s.heap s.heap [] := va_S.rf
  have hP : va_P D vwCl [(g0, .inr (5, [.int HM, .int OB, .int BO, .int BM, .ref g1, .ref g2, .ref g5])), (g2, .inr (6, [.int gnl, .ref g3, .ref g4])), (g3, .inl (cI, 7, .inl (fun zy => nI (NP zy)))), (g4, .inl (cI, 7, .inl (fun zy => nI (NF zy)))), (g5, .inr (6, [.int (nI rl), .ref g6, .ref g7])), (g6, .inl (cI, 7, .inl (fun zy => nI (RP zy)))), (g7, .inl (cI, 7, .inl (fun zy => nI (RF zy)))), (a0, .inr (2, [.int (nI np), .ref a1, .ref a2, .ref a3, .ref a4, .ref a5, .ref a6, .ref a7, .ref a8, .ref a9, .ref a10, .ref a11])), (a2, .inl (cI, 24, .inl SI))] s.heap := hP
  have hl := lv_entry ([.ref g0, .ref a0, .int (nI ln)]) (n := 6) (Nat.le_of_ble_eq_true rfl)
  rw [lg_entry_eq]
  generalize (lg_sl ([.ref g0, .ref a0, .int (nI ln)]) ++ List.replicate (6 - (lg_sl ([.ref g0, .ref a0, .int (nI ln)])).length) Slot.unset).toArray = ls at hl ⊢
  have hl : lv_has ls 6 [(0, .ref g0), (1, .ref a0), (2, .int (nI ln))] := hl
  refine lv_iload_n hx hb d_RS_offer_0 rfl (lv_at hl 2 rfl) ?_
  refine lv_iconst (v := 3) hx hb d_RS_offer_1 (by decide) ?_
  refine lv_icmp_ge (tgt := 6) hx hb d_RS_offer_2 (by decide) (fun h_1 => ?_) (fun h_1 => ?_)
  · have nh_1 : 3 ≤ ln := (nI_leI (a := 3) (b := ln) (by omega) (by omega)).mp h_1
    refine lv_aload_n hx hb d_RS_offer_6 rfl (lv_at hl 0 rfl) ?_
    refine va_get (D := D) (ci := 5) (v := .ref g2) (C := R_RS) (T := F_RS) (N := 7) hx hb hts i_RS hown hK hP 0 rfl rfl 5 (by decide) (hts _ q_231) (fun _ h9 => h9) rfl d_RS_offer_7 ?_
    refine lv_iload_n hx hb d_RS_offer_10 rfl (lv_at hl 2 rfl) ?_
    refine va_put (D := D) (ci := 6) (v := .int (nI ln)) (ty := .int) (C := R_RO) (T := F_RO) (N := 3) hx hb hts i_RO t_RO t_RO_ok n_RO hown hK hP hD hS 1 rfl rfl 0 (by decide) (hts _ q_173) (fun _ h9 => h9) rfl (by decide +kernel) rfl rfl (Nat.le_of_ble_eq_true rfl) d_RS_offer_11 (fun H_2 locs hP hD hS => ?_)
    have hP : va_P D vwCl [(g0, .inr (5, [.int HM, .int OB, .int BO, .int BM, .ref g1, .ref g2, .ref g5])), (g2, .inr (6, [.int (nI ln), .ref g3, .ref g4])), (g3, .inl (cI, 7, .inl (fun zy => nI (NP zy)))), (g4, .inl (cI, 7, .inl (fun zy => nI (NF zy)))), (g5, .inr (6, [.int (nI rl), .ref g6, .ref g7])), (g6, .inl (cI, 7, .inl (fun zy => nI (RP zy)))), (g7, .inl (cI, 7, .inl (fun zy => nI (RF zy)))), (a0, .inr (2, [.int (nI np), .ref a1, .ref a2, .ref a3, .ref a4, .ref a5, .ref a6, .ref a7, .ref a8, .ref a9, .ref a10, .ref a11])), (a2, .inl (cI, 24, .inl SI))] H_2 := hP
    refine lv_aload_n hx hb d_RS_offer_14 rfl (lv_at hl 0 rfl) ?_
    refine lv_aload_n hx hb d_RS_offer_15 rfl (lv_at hl 1 rfl) ?_
    have hPc := hP.sub (ws' := [(g0, .inr (5, [.int HM, .int OB, .int BO, .int BM, .ref g1, .ref g2, .ref g5])), (g2, .inr (6, [.int (nI ln), .ref g3, .ref g4])), (g3, .inl (cI, 7, .inl (fun zy => nI (NP zy)))), (g4, .inl (cI, 7, .inl (fun zy => nI (NF zy)))), (a0, .inr (2, [.int (nI np), .ref a1, .ref a2, .ref a3, .ref a4, .ref a5, .ref a6, .ref a7, .ref a8, .ref a9, .ref a10, .ref a11])), (a2, .inl (cI, 24, .inl SI))]) [0, 1, 2, 3, 7, 8] rfl
    have hDc := hD.sub (ws' := [(g0, .inr (5, [.int HM, .int OB, .int BO, .int BM, .ref g1, .ref g2, .ref g5])), (g2, .inr (6, [.int (nI ln), .ref g3, .ref g4])), (g3, .inl (cI, 7, .inl (fun zy => nI (NP zy)))), (g4, .inl (cI, 7, .inl (fun zy => nI (NF zy)))), (a0, .inr (2, [.int (nI np), .ref a1, .ref a2, .ref a3, .ref a4, .ref a5, .ref a6, .ref a7, .ref a8, .ref a9, .ref a10, .ref a11])), (a2, .inl (cI, 24, .inl SI))]) [0, 1, 2, 3, 7, 8] (by decide +kernel) rfl
    refine vp_callSi (va_Run.run (va_runV (As := [.ref a0]) (rest := []) ⟨hx, hb, hml, hown, hts⟩ (e_RS_leastPayingSide l D cI cZ g0 a0 HM OB BO BM g1 g2 g5 ln g3 g4 NP NF np a1 a2 a3 a4 a5 a6 a7 a8 a9 a10 a11 SI H_2.size h_NP h_NF h_np hln) (my_cwV 1 hts q_551 q_548 q_549 q_550 q_7 rfl rfl (by decide +kernel) ⟨Nat.le_of_ble_eq_true rfl, Nat.le_of_ble_eq_true rfl⟩) (my_preV hPc hDc hK hN 5 0 rfl rfl) rfl rfl hl.1 rfl (lv_room (Nat.le_of_ble_eq_true rfl)) d_RS_offer_16 ⟨Nat.le_of_ble_eq_true rfl, Nat.le_of_ble_eq_true rfl⟩)) (fun r_3 hw_3 => ?_)
    have hf_3_0 : r_3 = lpS SI (pfx NP NF) ln := hw_3
    have hf_3_0 : r_3 = lpS SI (pfx NP NF) ln := hf_3_0
    refine lv_istore_n (lv' := [(3, .int r_3), (0, .ref g0), (1, .ref a0), (2, .int (nI ln))]) hx hb d_RS_offer_19 rfl hl (by decide) rfl (fun ls hl => ?_)
    refine lv_aload_n hx hb d_RS_offer_20 rfl (lv_at hl 1 rfl) ?_
    refine lv_aload_n hx hb d_RS_offer_21 rfl (lv_at hl 2 rfl) ?_
    refine lv_iload_n hx hb d_RS_offer_22 rfl (lv_at hl 0 rfl) ?_
    refine lv_iload_n hx hb d_RS_offer_23 rfl (lv_at hl 0 rfl) ?_
    have hPc := hP.sub (ws' := [(g0, .inr (5, [.int HM, .int OB, .int BO, .int BM, .ref g1, .ref g2, .ref g5])), (g2, .inr (6, [.int (nI ln), .ref g3, .ref g4])), (g3, .inl (cI, 7, .inl (fun zy => nI (NP zy)))), (g4, .inl (cI, 7, .inl (fun zy => nI (NF zy)))), (g5, .inr (6, [.int (nI rl), .ref g6, .ref g7])), (g6, .inl (cI, 7, .inl (fun zy => nI (RP zy)))), (g7, .inl (cI, 7, .inl (fun zy => nI (RF zy)))), (a0, .inr (2, [.int (nI np), .ref a1, .ref a2, .ref a3, .ref a4, .ref a5, .ref a6, .ref a7, .ref a8, .ref a9, .ref a10, .ref a11])), (a2, .inl (cI, 24, .inl SI))]) [0, 1, 2, 3, 4, 5, 6, 7, 8] rfl
    have hDc := hD.sub (ws' := [(g0, .inr (5, [.int HM, .int OB, .int BO, .int BM, .ref g1, .ref g2, .ref g5])), (g2, .inr (6, [.int (nI ln), .ref g3, .ref g4])), (g3, .inl (cI, 7, .inl (fun zy => nI (NP zy)))), (g4, .inl (cI, 7, .inl (fun zy => nI (NF zy)))), (g5, .inr (6, [.int (nI rl), .ref g6, .ref g7])), (g6, .inl (cI, 7, .inl (fun zy => nI (RP zy)))), (g7, .inl (cI, 7, .inl (fun zy => nI (RF zy)))), (a0, .inr (2, [.int (nI np), .ref a1, .ref a2, .ref a3, .ref a4, .ref a5, .ref a6, .ref a7, .ref a8, .ref a9, .ref a10, .ref a11])), (a2, .inl (cI, 24, .inl SI))]) [0, 1, 2, 3, 4, 5, 6, 7, 8] (by decide +kernel) rfl
    have hFc := va_free (wc := [(g0, .inr (5, [.int HM, .int OB, .int BO, .int BM, .ref g1, .ref g2, .ref g5])), (g2, .inr (6, [.int (nI ln), .ref g3, .ref g4])), (g3, .inl (cI, 7, .inl (fun zy => nI (NP zy)))), (g4, .inl (cI, 7, .inl (fun zy => nI (NF zy)))), (g5, .inr (6, [.int (nI rl), .ref g6, .ref g7])), (g6, .inl (cI, 7, .inl (fun zy => nI (RP zy)))), (g7, .inl (cI, 7, .inl (fun zy => nI (RF zy)))), (a0, .inr (2, [.int (nI np), .ref a1, .ref a2, .ref a3, .ref a4, .ref a5, .ref a6, .ref a7, .ref a8, .ref a9, .ref a10, .ref a11])), (a2, .inl (cI, 24, .inl SI))]) hD hS hA [0, 1, 2, 3, 4, 5, 6, 7, 8] rfl
    refine va_callv (va_runV (As := [.ref a0, .int r_3, .int r_3]) (rest := []) ⟨hx, hb, hml, hown, hts⟩ (e_RS_weigh l D cI cZ g0 a0 r_3 r_3 HM OB BO BM g1 g2 g5 ln g3 g4 NP NF rl g6 g7 RP RF np a1 a2 a3 a4 a5 a6 a7 a8 a9 a10 a11 SI H_2.size h_NP h_NF h_rl h_RP h_RF h_np hln) (my_cwV 3 hts q_559 q_556 q_557 q_558 q_7 rfl rfl (by decide +kernel) ⟨Nat.le_of_ble_eq_true rfl, Nat.le_of_ble_eq_true rfl⟩) (my_preV hPc hDc hK hN 5 0 rfl rfl) rfl rfl hl.1 rfl (lv_room (Nat.le_of_ble_eq_true rfl)) d_RS_offer_24 ⟨Nat.le_of_ble_eq_true rfl, Nat.le_of_ble_eq_true rfl⟩) hS (fun q _ h => hFc q h) hFc (fun uU tT H_5 locs ht hvm hw_4 hB hz1 hk1 hS => ?_)
    obtain ⟨BO_6, BM_7, rl_8, RP_9, RF_10⟩ := uU
    obtain ⟨hP1, hD1⟩ := hB
    rw [ht] at hP1
    obtain ⟨hP, hD⟩ := va_join (wr := []) (w1 := [(g0, .inr (5, [.int HM, .int OB, .int BO_6, .int BM_7, .ref g1, .ref g2, .ref g5])), (g2, .inr (6, [.int (nI ln), .ref g3, .ref g4])), (g3, .inl (cI, 7, .inl (fun zy => nI (NP zy)))), (g4, .inl (cI, 7, .inl (fun zy => nI (NF zy)))), (g5, .inr (6, [.int (nI rl_8), .ref g6, .ref g7])), (g6, .inl (cI, 7, .inl (fun zy => nI (RP_9 zy)))), (g7, .inl (cI, 7, .inl (fun zy => nI (RF_10 zy)))), (a0, .inr (2, [.int (nI np), .ref a1, .ref a2, .ref a3, .ref a4, .ref a5, .ref a6, .ref a7, .ref a8, .ref a9, .ref a10, .ref a11])), (a2, .inl (cI, 24, .inl SI))]) hP hD [0, 1, 2, 3, 4, 5, 6, 7, 8] [] rfl rfl (by decide +kernel) (by decide +kernel) hk1 hFc hP1 hD1
    have hP : va_P D vwCl [(g0, .inr (5, [.int HM, .int OB, .int BO_6, .int BM_7, .ref g1, .ref g2, .ref g5])), (g2, .inr (6, [.int (nI ln), .ref g3, .ref g4])), (g3, .inl (cI, 7, .inl (fun zy => nI (NP zy)))), (g4, .inl (cI, 7, .inl (fun zy => nI (NF zy)))), (g5, .inr (6, [.int (nI rl_8), .ref g6, .ref g7])), (g6, .inl (cI, 7, .inl (fun zy => nI (RP_9 zy)))), (g7, .inl (cI, 7, .inl (fun zy => nI (RF_10 zy)))), (a0, .inr (2, [.int (nI np), .ref a1, .ref a2, .ref a3, .ref a4, .ref a5, .ref a6, .ref a7, .ref a8, .ref a9, .ref a10, .ref a11])), (a2, .inl (cI, 24, .inl SI))] H_5 := hP
    have hw_4 : (rl_8 ≤ 7) ∧ (∀ zz, RP_9 zz ≤ 11) ∧ (∀ zz, RF_10 zz ≤ 1) ∧ (RW SI ln NP NF OB r_3 r_3 rl BO BM RP RF rl_8 BO_6 BM_7 RP_9 RF_10) := hw_4
    obtain ⟨hf_10_0, hf_10_1, hf_10_2, hf_10_3⟩ := hw_4
    have hf_10_0 : rl_8 ≤ 7 := hf_10_0
    have hf_10_1 : ∀ zz, RP_9 zz ≤ 11 := hf_10_1
    have hf_10_2 : ∀ zz, RF_10 zz ≤ 1 := hf_10_2
    have hf_10_3 : RW SI ln NP NF OB r_3 r_3 rl BO BM RP RF rl_8 BO_6 BM_7 RP_9 RF_10 := hf_10_3
    refine lv_iconst (v := 0) hx hb d_RS_offer_27 (by decide) ?_
    refine lv_istore (lv' := [(4, .int 0), (3, .int r_3), (0, .ref g0), (1, .ref a0), (2, .int (nI ln))]) hx hb d_RS_offer_28 hl (by decide) rfl (fun ls hl => ?_)
    refine W_loop (σ := Nat × Int32 × Int32 × Nat × (Nat → Nat) × (Nat → Nat)) (I := fun xX H locs ls => (∀ zz, xX.2.2.2.2.1 zz ≤ 11) ∧ (∀ zz, xX.2.2.2.2.2 zz ≤ 1) ∧ xX.1 ≤ ln ∧ xX.2.2.2.1 ≤ 7 ∧ (ROI SI ln NP NF OB (fun m => m = lpS SI (pfx NP NF) ln ∨ ∃ qq, qq < xX.1 ∧ (m = dfS SI (pfx NP NF qq) / 2 ∨ m = dfS SI (pfx NP NF qq) - dfS SI (pfx NP NF qq) / 2)) rl BO BM RP RF xX.2.2.2.1 xX.2.1 xX.2.2.1 xX.2.2.2.2.1 xX.2.2.2.2.2) ∧ va_P D vwCl [(g0, .inr (5, [.int HM, .int OB, .int xX.2.1, .int xX.2.2.1, .ref g1, .ref g2, .ref g5])), (g2, .inr (6, [.int (nI ln), .ref g3, .ref g4])), (g3, .inl (cI, 7, .inl (fun zy => nI (NP zy)))), (g4, .inl (cI, 7, .inl (fun zy => nI (NF zy)))), (g5, .inr (6, [.int (nI xX.2.2.2.1), .ref g6, .ref g7])), (g6, .inl (cI, 7, .inl (fun zy => nI (xX.2.2.2.2.1 zy)))), (g7, .inl (cI, 7, .inl (fun zy => nI (xX.2.2.2.2.2 zy)))), (a0, .inr (2, [.int (nI np), .ref a1, .ref a2, .ref a3, .ref a4, .ref a5, .ref a6, .ref a7, .ref a8, .ref a9, .ref a10, .ref a11])), (a2, .inl (cI, 24, .inl SI))] H ∧ va_D A [(g0, .inr (5, [.int HM, .int OB, .int xX.2.1, .int xX.2.2.1, .ref g1, .ref g2, .ref g5])), (g2, .inr (6, [.int (nI ln), .ref g3, .ref g4])), (g3, .inl (cI, 7, .inl (fun zy => nI (NP zy)))), (g4, .inl (cI, 7, .inl (fun zy => nI (NF zy)))), (g5, .inr (6, [.int (nI xX.2.2.2.1), .ref g6, .ref g7])), (g6, .inl (cI, 7, .inl (fun zy => nI (xX.2.2.2.2.1 zy)))), (g7, .inl (cI, 7, .inl (fun zy => nI (xX.2.2.2.2.2 zy)))), (a0, .inr (2, [.int (nI np), .ref a1, .ref a2, .ref a3, .ref a4, .ref a5, .ref a6, .ref a7, .ref a8, .ref a9, .ref a10, .ref a11])), (a2, .inl (cI, 24, .inl SI))] ∧ va_S A s.heap H locs ∧ lv_has ls 6 [(4, .int (nI xX.1)), (3, .int r_3), (2, .int (nI ln)), (1, .ref a0), (0, .ref g0)]) (μ := fun xX => 8 - xX.1) ?_ (0, BO_6, BM_7, rl_8, RP_9, RF_10) ⟨hf_10_1, hf_10_2, (by first | omega | (dsimp only; omega)), hf_10_0, (ROI_C (fun m hm => by rcases hm with hm | ⟨qq, q1, -⟩; (exact Or.inr (hm.trans hf_3_0.symm)); omega) (ROI_w hSI (by omega) hf_3_0 ROI_0 hf_10_3)), hP, hD, hS, lv_sub hl [0, 1, 4, 3, 2] rfl⟩
    intro xX H_11 locs ls hI ih1
    obtain ⟨i_l, bo_v, bm_v, rl_l, RP_1, RF_1⟩ := xX
    obtain ⟨h_RP_1, h_RF_1, hi, hrl, hro, hP, hD, hS, hl⟩ := hI
    have hP : va_P D vwCl [(g0, .inr (5, [.int HM, .int OB, .int bo_v, .int bm_v, .ref g1, .ref g2, .ref g5])), (g2, .inr (6, [.int (nI ln), .ref g3, .ref g4])), (g3, .inl (cI, 7, .inl (fun zy => nI (NP zy)))), (g4, .inl (cI, 7, .inl (fun zy => nI (NF zy)))), (g5, .inr (6, [.int (nI rl_l), .ref g6, .ref g7])), (g6, .inl (cI, 7, .inl (fun zy => nI (RP_1 zy)))), (g7, .inl (cI, 7, .inl (fun zy => nI (RF_1 zy)))), (a0, .inr (2, [.int (nI np), .ref a1, .ref a2, .ref a3, .ref a4, .ref a5, .ref a6, .ref a7, .ref a8, .ref a9, .ref a10, .ref a11])), (a2, .inl (cI, 24, .inl SI))] H_11 := hP
    have hl : lv_has ls 6 [(4, .int (nI i_l)), (3, .int r_3), (2, .int (nI ln)), (1, .ref a0), (0, .ref g0)] := hl
    have h_RP_1 : ∀ zz, RP_1 zz ≤ 11 := h_RP_1
    have h_RF_1 : ∀ zz, RF_1 zz ≤ 1 := h_RF_1
    have hi : i_l ≤ ln := hi
    have hrl : rl_l ≤ 7 := hrl
    have hro : ROI SI ln NP NF OB (fun m => m = lpS SI (pfx NP NF) ln ∨ ∃ qq, qq < i_l ∧ (m = dfS SI (pfx NP NF qq) / 2 ∨ m = dfS SI (pfx NP NF qq) - dfS SI (pfx NP NF qq) / 2)) rl BO BM RP RF rl_l bo_v bm_v RP_1 RF_1 := hro
    refine lv_iload hx hb d_RS_offer_30 (lv_at hl 0 rfl) ?_
    refine lv_iload_n hx hb d_RS_offer_32 rfl (lv_at hl 2 rfl) ?_
    refine lv_icmp_ge (tgt := 74) hx hb d_RS_offer_33 (by decide) (fun h_12 => ?_) (fun h_12 => ?_)
    · have nh_12 : ln ≤ i_l := (nI_leI (a := ln) (b := i_l) (by omega) (by omega)).mp h_12
      have hP9 := hP.sub (ws' := [(g0, .inr (5, [.int HM, .int OB, .int bo_v, .int bm_v, .ref g1, .ref g2, .ref g5])), (g2, .inr (6, [.int (nI ln), .ref g3, .ref g4])), (g3, .inl (cI, 7, .inl (fun zy => nI (NP zy)))), (g4, .inl (cI, 7, .inl (fun zy => nI (NF zy)))), (g5, .inr (6, [.int (nI rl_l), .ref g6, .ref g7])), (g6, .inl (cI, 7, .inl (fun zy => nI (RP_1 zy)))), (g7, .inl (cI, 7, .inl (fun zy => nI (RF_1 zy)))), (a0, .inr (2, [.int (nI np), .ref a1, .ref a2, .ref a3, .ref a4, .ref a5, .ref a6, .ref a7, .ref a8, .ref a9, .ref a10, .ref a11])), (a2, .inl (cI, 24, .inl SI))]) [0, 1, 2, 3, 4, 5, 6, 7, 8] rfl
      have hD9 := hD.sub (ws' := [(g0, .inr (5, [.int HM, .int OB, .int bo_v, .int bm_v, .ref g1, .ref g2, .ref g5])), (g2, .inr (6, [.int (nI ln), .ref g3, .ref g4])), (g3, .inl (cI, 7, .inl (fun zy => nI (NP zy)))), (g4, .inl (cI, 7, .inl (fun zy => nI (NF zy)))), (g5, .inr (6, [.int (nI rl_l), .ref g6, .ref g7])), (g6, .inl (cI, 7, .inl (fun zy => nI (RP_1 zy)))), (g7, .inl (cI, 7, .inl (fun zy => nI (RF_1 zy)))), (a0, .inr (2, [.int (nI np), .ref a1, .ref a2, .ref a3, .ref a4, .ref a5, .ref a6, .ref a7, .ref a8, .ref a9, .ref a10, .ref a11])), (a2, .inl (cI, 24, .inl SI))]) [0, 1, 2, 3, 4, 5, 6, 7, 8] (by decide +kernel) rfl
      refine W.widen (k := 0) (n := 0) (Nat.le_of_ble_eq_true rfl) (Nat.le_of_ble_eq_true rfl) ?_
      exact W.vret hx hb hr (fun tT ht hW => ⟨⟨(bo_v, bm_v, nI ln, rl_l, RP_1, RF_1), rfl, ⟨hrl, h_RP_1, h_RF_1, (Or.inr ⟨by omega, ROI_C (fun m hm => hm) (by rw [show i_l = ln by omega] at hro; exact hro)⟩)⟩, by rw [ht]; exact hP9, hD9⟩, hS.F ht⟩) hS.2.2 d_RS_offer_74
    · have nh_12 : ¬ ln ≤ i_l := fun qZ => h_12 ((nI_leI (a := ln) (b := i_l) (by omega) (by omega)).mpr qZ)
      refine lv_aload_n hx hb d_RS_offer_36 rfl (lv_at hl 4 rfl) ?_
      refine lv_aload_n hx hb d_RS_offer_37 rfl (lv_at hl 3 rfl) ?_
      refine lv_iload hx hb d_RS_offer_38 (lv_at hl 0 rfl) ?_
      have hPc := hP.sub (ws' := [(g0, .inr (5, [.int HM, .int OB, .int bo_v, .int bm_v, .ref g1, .ref g2, .ref g5])), (g2, .inr (6, [.int (nI ln), .ref g3, .ref g4])), (g3, .inl (cI, 7, .inl (fun zy => nI (NP zy)))), (g4, .inl (cI, 7, .inl (fun zy => nI (NF zy)))), (a0, .inr (2, [.int (nI np), .ref a1, .ref a2, .ref a3, .ref a4, .ref a5, .ref a6, .ref a7, .ref a8, .ref a9, .ref a10, .ref a11])), (a2, .inl (cI, 24, .inl SI))]) [0, 1, 2, 3, 7, 8] rfl
      have hDc := hD.sub (ws' := [(g0, .inr (5, [.int HM, .int OB, .int bo_v, .int bm_v, .ref g1, .ref g2, .ref g5])), (g2, .inr (6, [.int (nI ln), .ref g3, .ref g4])), (g3, .inl (cI, 7, .inl (fun zy => nI (NP zy)))), (g4, .inl (cI, 7, .inl (fun zy => nI (NF zy)))), (a0, .inr (2, [.int (nI np), .ref a1, .ref a2, .ref a3, .ref a4, .ref a5, .ref a6, .ref a7, .ref a8, .ref a9, .ref a10, .ref a11])), (a2, .inl (cI, 24, .inl SI))]) [0, 1, 2, 3, 7, 8] (by decide +kernel) rfl
      refine vp_callSi (va_Run.run (va_runV (As := [.ref a0, .int (nI i_l)]) (rest := []) ⟨hx, hb, hml, hown, hts⟩ (e_RS_difference l D cI cZ g0 a0 i_l HM OB bo_v bm_v g1 g2 g5 ln g3 g4 NP NF np a1 a2 a3 a4 a5 a6 a7 a8 a9 a10 a11 SI H_11.size h_NP h_NF h_np (by first | omega | (dsimp only; omega))) (my_cwV 2 hts q_564 q_561 q_562 q_563 q_7 rfl rfl (by decide +kernel) ⟨Nat.le_of_ble_eq_true rfl, Nat.le_of_ble_eq_true rfl⟩) (my_preV hPc hDc hK hN 5 0 rfl rfl) rfl rfl hl.1 rfl (lv_room (Nat.le_of_ble_eq_true rfl)) d_RS_offer_40 ⟨Nat.le_of_ble_eq_true rfl, Nat.le_of_ble_eq_true rfl⟩)) (fun r_13 hw_13 => ?_)
      have hf_13_0 : r_13 = dfS SI (pfx NP NF i_l) := hw_13
      have hf_13_0 : r_13 = dfS SI (pfx NP NF i_l) := hf_13_0
      subst hf_13_0
      refine lv_istore (lv' := [(5, .int (dfS SI (pfx NP NF i_l))), (4, .int (nI i_l)), (3, .int r_3), (2, .int (nI ln)), (1, .ref a0), (0, .ref g0)]) hx hb d_RS_offer_43 hl (by decide) rfl (fun ls hl => ?_)
      refine lv_aload_n hx hb d_RS_offer_45 rfl (lv_at hl 5 rfl) ?_
      refine lv_aload_n hx hb d_RS_offer_46 rfl (lv_at hl 4 rfl) ?_
      refine lv_iload hx hb d_RS_offer_47 (lv_at hl 0 rfl) ?_
      refine lv_iconst (v := 2) hx hb d_RS_offer_49 (by decide) ?_
      refine lv_idiv hx hb d_RS_offer_50 (by decide) ?_
      refine lv_iload_n hx hb d_RS_offer_51 rfl (lv_at hl 2 rfl) ?_
      have hPc := hP.sub (ws' := [(g0, .inr (5, [.int HM, .int OB, .int bo_v, .int bm_v, .ref g1, .ref g2, .ref g5])), (g2, .inr (6, [.int (nI ln), .ref g3, .ref g4])), (g3, .inl (cI, 7, .inl (fun zy => nI (NP zy)))), (g4, .inl (cI, 7, .inl (fun zy => nI (NF zy)))), (g5, .inr (6, [.int (nI rl_l), .ref g6, .ref g7])), (g6, .inl (cI, 7, .inl (fun zy => nI (RP_1 zy)))), (g7, .inl (cI, 7, .inl (fun zy => nI (RF_1 zy)))), (a0, .inr (2, [.int (nI np), .ref a1, .ref a2, .ref a3, .ref a4, .ref a5, .ref a6, .ref a7, .ref a8, .ref a9, .ref a10, .ref a11])), (a2, .inl (cI, 24, .inl SI))]) [0, 1, 2, 3, 4, 5, 6, 7, 8] rfl
      have hDc := hD.sub (ws' := [(g0, .inr (5, [.int HM, .int OB, .int bo_v, .int bm_v, .ref g1, .ref g2, .ref g5])), (g2, .inr (6, [.int (nI ln), .ref g3, .ref g4])), (g3, .inl (cI, 7, .inl (fun zy => nI (NP zy)))), (g4, .inl (cI, 7, .inl (fun zy => nI (NF zy)))), (g5, .inr (6, [.int (nI rl_l), .ref g6, .ref g7])), (g6, .inl (cI, 7, .inl (fun zy => nI (RP_1 zy)))), (g7, .inl (cI, 7, .inl (fun zy => nI (RF_1 zy)))), (a0, .inr (2, [.int (nI np), .ref a1, .ref a2, .ref a3, .ref a4, .ref a5, .ref a6, .ref a7, .ref a8, .ref a9, .ref a10, .ref a11])), (a2, .inl (cI, 24, .inl SI))]) [0, 1, 2, 3, 4, 5, 6, 7, 8] (by decide +kernel) rfl
      have hFc := va_free (wc := [(g0, .inr (5, [.int HM, .int OB, .int bo_v, .int bm_v, .ref g1, .ref g2, .ref g5])), (g2, .inr (6, [.int (nI ln), .ref g3, .ref g4])), (g3, .inl (cI, 7, .inl (fun zy => nI (NP zy)))), (g4, .inl (cI, 7, .inl (fun zy => nI (NF zy)))), (g5, .inr (6, [.int (nI rl_l), .ref g6, .ref g7])), (g6, .inl (cI, 7, .inl (fun zy => nI (RP_1 zy)))), (g7, .inl (cI, 7, .inl (fun zy => nI (RF_1 zy)))), (a0, .inr (2, [.int (nI np), .ref a1, .ref a2, .ref a3, .ref a4, .ref a5, .ref a6, .ref a7, .ref a8, .ref a9, .ref a10, .ref a11])), (a2, .inl (cI, 24, .inl SI))]) hD hS hA [0, 1, 2, 3, 4, 5, 6, 7, 8] rfl
      refine va_callv (va_runV (As := [.ref a0, .int ((dfS SI (pfx NP NF i_l)) / 2), .int r_3]) (rest := []) ⟨hx, hb, hml, hown, hts⟩ (e_RS_weigh l D cI cZ g0 a0 ((dfS SI (pfx NP NF i_l)) / 2) r_3 HM OB bo_v bm_v g1 g2 g5 ln g3 g4 NP NF rl_l g6 g7 RP_1 RF_1 np a1 a2 a3 a4 a5 a6 a7 a8 a9 a10 a11 SI H_11.size h_NP h_NF hrl h_RP_1 h_RF_1 h_np hln) (my_cwV 3 hts q_559 q_556 q_557 q_558 q_7 rfl rfl (by decide +kernel) ⟨Nat.le_of_ble_eq_true rfl, Nat.le_of_ble_eq_true rfl⟩) (my_preV hPc hDc hK hN 5 0 rfl rfl) rfl rfl hl.1 rfl (lv_room (Nat.le_of_ble_eq_true rfl)) d_RS_offer_52 ⟨Nat.le_of_ble_eq_true rfl, Nat.le_of_ble_eq_true rfl⟩) hS (fun q _ h => hFc q h) hFc (fun uU tT H_15 locs ht hvm hw_14 hB hz1 hk1 hS => ?_)
      obtain ⟨BO_16, BM_17, rl_18, RP_19, RF_20⟩ := uU
      obtain ⟨hP1, hD1⟩ := hB
      rw [ht] at hP1
      obtain ⟨hP, hD⟩ := va_join (wr := []) (w1 := [(g0, .inr (5, [.int HM, .int OB, .int BO_16, .int BM_17, .ref g1, .ref g2, .ref g5])), (g2, .inr (6, [.int (nI ln), .ref g3, .ref g4])), (g3, .inl (cI, 7, .inl (fun zy => nI (NP zy)))), (g4, .inl (cI, 7, .inl (fun zy => nI (NF zy)))), (g5, .inr (6, [.int (nI rl_18), .ref g6, .ref g7])), (g6, .inl (cI, 7, .inl (fun zy => nI (RP_19 zy)))), (g7, .inl (cI, 7, .inl (fun zy => nI (RF_20 zy)))), (a0, .inr (2, [.int (nI np), .ref a1, .ref a2, .ref a3, .ref a4, .ref a5, .ref a6, .ref a7, .ref a8, .ref a9, .ref a10, .ref a11])), (a2, .inl (cI, 24, .inl SI))]) hP hD [0, 1, 2, 3, 4, 5, 6, 7, 8] [] rfl rfl (by decide +kernel) (by decide +kernel) hk1 hFc hP1 hD1
      have hP : va_P D vwCl [(g0, .inr (5, [.int HM, .int OB, .int BO_16, .int BM_17, .ref g1, .ref g2, .ref g5])), (g2, .inr (6, [.int (nI ln), .ref g3, .ref g4])), (g3, .inl (cI, 7, .inl (fun zy => nI (NP zy)))), (g4, .inl (cI, 7, .inl (fun zy => nI (NF zy)))), (g5, .inr (6, [.int (nI rl_18), .ref g6, .ref g7])), (g6, .inl (cI, 7, .inl (fun zy => nI (RP_19 zy)))), (g7, .inl (cI, 7, .inl (fun zy => nI (RF_20 zy)))), (a0, .inr (2, [.int (nI np), .ref a1, .ref a2, .ref a3, .ref a4, .ref a5, .ref a6, .ref a7, .ref a8, .ref a9, .ref a10, .ref a11])), (a2, .inl (cI, 24, .inl SI))] H_15 := hP
      have hw_14 : (rl_18 ≤ 7) ∧ (∀ zz, RP_19 zz ≤ 11) ∧ (∀ zz, RF_20 zz ≤ 1) ∧ (RW SI ln NP NF OB ((dfS SI (pfx NP NF i_l)) / 2) r_3 rl_l bo_v bm_v RP_1 RF_1 rl_18 BO_16 BM_17 RP_19 RF_20) := hw_14
      obtain ⟨hf_20_0, hf_20_1, hf_20_2, hf_20_3⟩ := hw_14
      have hf_20_0 : rl_18 ≤ 7 := hf_20_0
      have hf_20_1 : ∀ zz, RP_19 zz ≤ 11 := hf_20_1
      have hf_20_2 : ∀ zz, RF_20 zz ≤ 1 := hf_20_2
      have hf_20_3 : RW SI ln NP NF OB ((dfS SI (pfx NP NF i_l)) / 2) r_3 rl_l bo_v bm_v RP_1 RF_1 rl_18 BO_16 BM_17 RP_19 RF_20 := hf_20_3
      refine lv_aload_n hx hb d_RS_offer_55 rfl (lv_at hl 5 rfl) ?_
      refine lv_aload_n hx hb d_RS_offer_56 rfl (lv_at hl 4 rfl) ?_
      refine lv_iload hx hb d_RS_offer_57 (lv_at hl 0 rfl) ?_
      refine lv_iload hx hb d_RS_offer_59 (lv_at hl 0 rfl) ?_
      refine lv_iconst (v := 2) hx hb d_RS_offer_61 (by decide) ?_
      refine lv_idiv hx hb d_RS_offer_62 (by decide) ?_
      refine lv_isub hx hb d_RS_offer_63 ?_
      refine lv_iload_n hx hb d_RS_offer_64 rfl (lv_at hl 2 rfl) ?_
      have hPc := hP.sub (ws' := [(g0, .inr (5, [.int HM, .int OB, .int BO_16, .int BM_17, .ref g1, .ref g2, .ref g5])), (g2, .inr (6, [.int (nI ln), .ref g3, .ref g4])), (g3, .inl (cI, 7, .inl (fun zy => nI (NP zy)))), (g4, .inl (cI, 7, .inl (fun zy => nI (NF zy)))), (g5, .inr (6, [.int (nI rl_18), .ref g6, .ref g7])), (g6, .inl (cI, 7, .inl (fun zy => nI (RP_19 zy)))), (g7, .inl (cI, 7, .inl (fun zy => nI (RF_20 zy)))), (a0, .inr (2, [.int (nI np), .ref a1, .ref a2, .ref a3, .ref a4, .ref a5, .ref a6, .ref a7, .ref a8, .ref a9, .ref a10, .ref a11])), (a2, .inl (cI, 24, .inl SI))]) [0, 1, 2, 3, 4, 5, 6, 7, 8] rfl
      have hDc := hD.sub (ws' := [(g0, .inr (5, [.int HM, .int OB, .int BO_16, .int BM_17, .ref g1, .ref g2, .ref g5])), (g2, .inr (6, [.int (nI ln), .ref g3, .ref g4])), (g3, .inl (cI, 7, .inl (fun zy => nI (NP zy)))), (g4, .inl (cI, 7, .inl (fun zy => nI (NF zy)))), (g5, .inr (6, [.int (nI rl_18), .ref g6, .ref g7])), (g6, .inl (cI, 7, .inl (fun zy => nI (RP_19 zy)))), (g7, .inl (cI, 7, .inl (fun zy => nI (RF_20 zy)))), (a0, .inr (2, [.int (nI np), .ref a1, .ref a2, .ref a3, .ref a4, .ref a5, .ref a6, .ref a7, .ref a8, .ref a9, .ref a10, .ref a11])), (a2, .inl (cI, 24, .inl SI))]) [0, 1, 2, 3, 4, 5, 6, 7, 8] (by decide +kernel) rfl
      have hFc := va_free (wc := [(g0, .inr (5, [.int HM, .int OB, .int BO_16, .int BM_17, .ref g1, .ref g2, .ref g5])), (g2, .inr (6, [.int (nI ln), .ref g3, .ref g4])), (g3, .inl (cI, 7, .inl (fun zy => nI (NP zy)))), (g4, .inl (cI, 7, .inl (fun zy => nI (NF zy)))), (g5, .inr (6, [.int (nI rl_18), .ref g6, .ref g7])), (g6, .inl (cI, 7, .inl (fun zy => nI (RP_19 zy)))), (g7, .inl (cI, 7, .inl (fun zy => nI (RF_20 zy)))), (a0, .inr (2, [.int (nI np), .ref a1, .ref a2, .ref a3, .ref a4, .ref a5, .ref a6, .ref a7, .ref a8, .ref a9, .ref a10, .ref a11])), (a2, .inl (cI, 24, .inl SI))]) hD hS hA [0, 1, 2, 3, 4, 5, 6, 7, 8] rfl
      refine va_callv (va_runV (As := [.ref a0, .int ((dfS SI (pfx NP NF i_l)) - ((dfS SI (pfx NP NF i_l)) / 2)), .int r_3]) (rest := []) ⟨hx, hb, hml, hown, hts⟩ (e_RS_weigh l D cI cZ g0 a0 ((dfS SI (pfx NP NF i_l)) - ((dfS SI (pfx NP NF i_l)) / 2)) r_3 HM OB BO_16 BM_17 g1 g2 g5 ln g3 g4 NP NF rl_18 g6 g7 RP_19 RF_20 np a1 a2 a3 a4 a5 a6 a7 a8 a9 a10 a11 SI H_15.size h_NP h_NF hf_20_0 hf_20_1 hf_20_2 h_np hln) (my_cwV 3 hts q_559 q_556 q_557 q_558 q_7 rfl rfl (by decide +kernel) ⟨Nat.le_of_ble_eq_true rfl, Nat.le_of_ble_eq_true rfl⟩) (my_preV hPc hDc hK hN 5 0 rfl rfl) rfl rfl hl.1 rfl (lv_room (Nat.le_of_ble_eq_true rfl)) d_RS_offer_65 ⟨Nat.le_of_ble_eq_true rfl, Nat.le_of_ble_eq_true rfl⟩) hS (fun q _ h => hFc q h) hFc (fun uU tT H_22 locs ht hvm hw_21 hB hz1 hk1 hS => ?_)
      obtain ⟨BO_23, BM_24, rl_25, RP_26, RF_27⟩ := uU
      obtain ⟨hP1, hD1⟩ := hB
      rw [ht] at hP1
      obtain ⟨hP, hD⟩ := va_join (wr := []) (w1 := [(g0, .inr (5, [.int HM, .int OB, .int BO_23, .int BM_24, .ref g1, .ref g2, .ref g5])), (g2, .inr (6, [.int (nI ln), .ref g3, .ref g4])), (g3, .inl (cI, 7, .inl (fun zy => nI (NP zy)))), (g4, .inl (cI, 7, .inl (fun zy => nI (NF zy)))), (g5, .inr (6, [.int (nI rl_25), .ref g6, .ref g7])), (g6, .inl (cI, 7, .inl (fun zy => nI (RP_26 zy)))), (g7, .inl (cI, 7, .inl (fun zy => nI (RF_27 zy)))), (a0, .inr (2, [.int (nI np), .ref a1, .ref a2, .ref a3, .ref a4, .ref a5, .ref a6, .ref a7, .ref a8, .ref a9, .ref a10, .ref a11])), (a2, .inl (cI, 24, .inl SI))]) hP hD [0, 1, 2, 3, 4, 5, 6, 7, 8] [] rfl rfl (by decide +kernel) (by decide +kernel) hk1 hFc hP1 hD1
      have hP : va_P D vwCl [(g0, .inr (5, [.int HM, .int OB, .int BO_23, .int BM_24, .ref g1, .ref g2, .ref g5])), (g2, .inr (6, [.int (nI ln), .ref g3, .ref g4])), (g3, .inl (cI, 7, .inl (fun zy => nI (NP zy)))), (g4, .inl (cI, 7, .inl (fun zy => nI (NF zy)))), (g5, .inr (6, [.int (nI rl_25), .ref g6, .ref g7])), (g6, .inl (cI, 7, .inl (fun zy => nI (RP_26 zy)))), (g7, .inl (cI, 7, .inl (fun zy => nI (RF_27 zy)))), (a0, .inr (2, [.int (nI np), .ref a1, .ref a2, .ref a3, .ref a4, .ref a5, .ref a6, .ref a7, .ref a8, .ref a9, .ref a10, .ref a11])), (a2, .inl (cI, 24, .inl SI))] H_22 := hP
      have hw_21 : (rl_25 ≤ 7) ∧ (∀ zz, RP_26 zz ≤ 11) ∧ (∀ zz, RF_27 zz ≤ 1) ∧ (RW SI ln NP NF OB ((dfS SI (pfx NP NF i_l)) - ((dfS SI (pfx NP NF i_l)) / 2)) r_3 rl_18 BO_16 BM_17 RP_19 RF_20 rl_25 BO_23 BM_24 RP_26 RF_27) := hw_21
      obtain ⟨hf_27_0, hf_27_1, hf_27_2, hf_27_3⟩ := hw_21
      have hf_27_0 : rl_25 ≤ 7 := hf_27_0
      have hf_27_1 : ∀ zz, RP_26 zz ≤ 11 := hf_27_1
      have hf_27_2 : ∀ zz, RF_27 zz ≤ 1 := hf_27_2
      have hf_27_3 : RW SI ln NP NF OB ((dfS SI (pfx NP NF i_l)) - ((dfS SI (pfx NP NF i_l)) / 2)) r_3 rl_18 BO_16 BM_17 RP_19 RF_20 rl_25 BO_23 BM_24 RP_26 RF_27 := hf_27_3
      refine lv_iinc (v := nI (i_l + 1)) (lv' := [(4, .int (nI (i_l + 1))), (5, .int (dfS SI (pfx NP NF i_l))), (3, .int r_3), (2, .int (nI ln)), (1, .ref a0), (0, .ref g0)]) hx hb d_RS_offer_68 hl (k := 1) rfl (nI_1 i_l) (by decide) rfl (fun ls hl => ?_)
      refine lv_goto (tgt := 30) hx hb d_RS_offer_71 (by decide) ?_
      have hPz := hP.sub (ws' := [(g0, .inr (5, [.int HM, .int OB, .int BO_23, .int BM_24, .ref g1, .ref g2, .ref g5])), (g2, .inr (6, [.int (nI ln), .ref g3, .ref g4])), (g3, .inl (cI, 7, .inl (fun zy => nI (NP zy)))), (g4, .inl (cI, 7, .inl (fun zy => nI (NF zy)))), (g5, .inr (6, [.int (nI rl_25), .ref g6, .ref g7])), (g6, .inl (cI, 7, .inl (fun zy => nI (RP_26 zy)))), (g7, .inl (cI, 7, .inl (fun zy => nI (RF_27 zy)))), (a0, .inr (2, [.int (nI np), .ref a1, .ref a2, .ref a3, .ref a4, .ref a5, .ref a6, .ref a7, .ref a8, .ref a9, .ref a10, .ref a11])), (a2, .inl (cI, 24, .inl SI))]) [0, 1, 2, 3, 4, 5, 6, 7, 8] rfl
      have hDz := hD.sub (ws' := [(g0, .inr (5, [.int HM, .int OB, .int BO_23, .int BM_24, .ref g1, .ref g2, .ref g5])), (g2, .inr (6, [.int (nI ln), .ref g3, .ref g4])), (g3, .inl (cI, 7, .inl (fun zy => nI (NP zy)))), (g4, .inl (cI, 7, .inl (fun zy => nI (NF zy)))), (g5, .inr (6, [.int (nI rl_25), .ref g6, .ref g7])), (g6, .inl (cI, 7, .inl (fun zy => nI (RP_26 zy)))), (g7, .inl (cI, 7, .inl (fun zy => nI (RF_27 zy)))), (a0, .inr (2, [.int (nI np), .ref a1, .ref a2, .ref a3, .ref a4, .ref a5, .ref a6, .ref a7, .ref a8, .ref a9, .ref a10, .ref a11])), (a2, .inl (cI, 24, .inl SI))]) [0, 1, 2, 3, 4, 5, 6, 7, 8] (by decide) rfl
      exact ih1 ((i_l + 1), BO_23, BM_24, rl_25, RP_26, RF_27) _ _ _ (by first | omega | (dsimp only; omega)) ⟨hf_27_1, hf_27_2, (by first | omega | (dsimp only; omega)), hf_27_0, (ROI_C (ofr_s) (ROI_w hSI (by omega) hf_3_0 (ROI_w hSI (by omega) hf_3_0 hro hf_20_3) hf_27_3)), hPz, hDz, hS, lv_sub hl [0, 2, 3, 4, 5] rfl⟩
  · have nh_1 : ¬ 3 ≤ ln := fun qZ => h_1 ((nI_leI (a := 3) (b := ln) (by omega) (by omega)).mpr qZ)
    have hP9 := hP.sub (ws' := [(g0, .inr (5, [.int HM, .int OB, .int BO, .int BM, .ref g1, .ref g2, .ref g5])), (g2, .inr (6, [.int gnl, .ref g3, .ref g4])), (g3, .inl (cI, 7, .inl (fun zy => nI (NP zy)))), (g4, .inl (cI, 7, .inl (fun zy => nI (NF zy)))), (g5, .inr (6, [.int (nI rl), .ref g6, .ref g7])), (g6, .inl (cI, 7, .inl (fun zy => nI (RP zy)))), (g7, .inl (cI, 7, .inl (fun zy => nI (RF zy)))), (a0, .inr (2, [.int (nI np), .ref a1, .ref a2, .ref a3, .ref a4, .ref a5, .ref a6, .ref a7, .ref a8, .ref a9, .ref a10, .ref a11])), (a2, .inl (cI, 24, .inl SI))]) [0, 1, 2, 3, 4, 5, 6, 7, 8] rfl
    have hD9 := hD.sub (ws' := [(g0, .inr (5, [.int HM, .int OB, .int BO, .int BM, .ref g1, .ref g2, .ref g5])), (g2, .inr (6, [.int gnl, .ref g3, .ref g4])), (g3, .inl (cI, 7, .inl (fun zy => nI (NP zy)))), (g4, .inl (cI, 7, .inl (fun zy => nI (NF zy)))), (g5, .inr (6, [.int (nI rl), .ref g6, .ref g7])), (g6, .inl (cI, 7, .inl (fun zy => nI (RP zy)))), (g7, .inl (cI, 7, .inl (fun zy => nI (RF zy)))), (a0, .inr (2, [.int (nI np), .ref a1, .ref a2, .ref a3, .ref a4, .ref a5, .ref a6, .ref a7, .ref a8, .ref a9, .ref a10, .ref a11])), (a2, .inl (cI, 24, .inl SI))]) [0, 1, 2, 3, 4, 5, 6, 7, 8] (by decide +kernel) rfl
    refine W.widen (k := 0) (n := 0) (Nat.le_of_ble_eq_true rfl) (Nat.le_of_ble_eq_true rfl) ?_
    exact W.vret hx hb hr (fun tT ht hW => ⟨⟨(BO, BM, gnl, rl, RP, RF), rfl, ⟨h_rl, h_RP, h_RF, (Or.inl ⟨by omega, rfl, rfl, rfl, rfl, rfl⟩)⟩, by rw [ht]; exact hP9, hD9⟩, hS.F ht⟩) hS.2.2 d_RS_offer_5
