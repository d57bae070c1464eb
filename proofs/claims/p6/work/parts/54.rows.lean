theorem rl_n1 {n m : Nat} {P Q : Nat → Nat} (h : ¬ n = m) (h2 : ¬ n < m) : ¬ rowLt n m P Q := by
  rintro (h3 | ⟨h3, -⟩)
  · exact h2 h3
  · exact h h3
theorem rl_n2 {n m i : Nat} {P Q : Nat → Nat} (h : n = m) (hr : ∀ z, z < i → P z = Q z) (h2 : ¬ P i = Q i) (h3 : ¬ P i < Q i) : ¬ rowLt n m P Q := by
  rintro (h4 | ⟨-, k, k1, k2, k3⟩)
  · omega
  · rcases Nat.lt_trichotomy k i with h5 | h5 | h5
    · have := hr k h5
      omega
    · subst h5
      exact h3 k3
    · exact h2 (k2 i h5)
theorem rl_n3 {n m : Nat} {P Q : Nat → Nat} (h : n = m) (hr : ∀ z, z < n → P z = Q z) : ¬ rowLt n m P Q := by
  rintro (h4 | ⟨-, k, k1, k2, k3⟩)
  · omega
  · have := hr k k1
    omega
def mkM (d i : Nat) (F : Nat → Int32) : Nat → Int32 := fun j => if j < i then (if j = d then 1 else 0) else F j
theorem mkM_0 (d : Nat) (F : Nat → Int32) : F = mkM d 0 F := by funext j; unfold mkM; rw [if_neg (by omega)]
theorem mkM_y {d i : Nat} {F G : Nat → Int32} (h : G = mkM d i F) (e : i = d) : upd G i 1 = mkM d (i + 1) F := by
  subst h
  funext j
  rw [upd_at]
  unfold mkM
  by_cases h1 : j = i
  · rw [if_pos h1, if_pos (by omega), if_pos (by omega)]
  · rw [if_neg h1]
    by_cases h2 : j < i
    · rw [if_pos h2, if_pos (show j < i + 1 by omega)]
    · rw [if_neg h2, if_neg (show ¬ j < i + 1 by omega)]
theorem mkM_n {d i : Nat} {F G : Nat → Int32} (h : G = mkM d i F) (e : ¬ i = d) : upd G i 0 = mkM d (i + 1) F := by
  subst h
  funext j
  rw [upd_at]
  unfold mkM
  by_cases h1 : j = i
  · rw [if_pos h1, if_pos (by omega), if_neg (by omega)]
  · rw [if_neg h1]
    by_cases h2 : j < i
    · rw [if_pos h2, if_pos (show j < i + 1 by omega)]
    · rw [if_neg h2, if_neg (show ¬ j < i + 1 by omega)]
theorem woff_n {ln bl : Nat} {v wbc : Int32} {TP TF BEP BEF T6 : Nat → Nat} (hb : ¬ bl = 0) (h1 : ¬ v < wbc) (h2 : v = wbc → ¬ rowLt ln bl (cpN ln (fun zx => TP ((ln - 1) - zx)) T6) BEP) : WOff ln v TP TF bl wbc BEP BEF bl wbc BEP BEF := by
  refine Or.inr ⟨⟨hb, ?_⟩, rfl, rfl, rfl, rfl⟩
  rintro (h | ⟨h, h3⟩)
  · exact h1 h
  · refine h2 h (rowLt_congr (fun z hz => ?_) (fun _ _ => rfl) h3)
    unfold cpN
    rw [if_pos hz]
theorem woff_y {ln bl : Nat} {v wbc : Int32} {TP TF BEP BEF T6 T7 : Nat → Nat} (h : bl = 0 ∨ v < wbc ∨ (v = wbc ∧ rowLt ln bl (cpN ln (fun zx => TP ((ln - 1) - zx)) T6) BEP)) : WOff ln v TP TF bl wbc BEP BEF ln v (cpN ln (cpN ln (fun zx => TP ((ln - 1) - zx)) T6) BEP) (cpN ln (cpN ln (fun zx => TF ((ln - 1) - zx)) T7) BEF) := by
  refine Or.inl ⟨?_, rfl, rfl, fun z hz => ?_⟩
  · rcases h with h | h | ⟨h, h2⟩
    · exact Or.inl h
    · exact Or.inr (Or.inl h)
    · refine Or.inr (Or.inr ⟨h, rowLt_congr (fun z hz => ?_) (fun _ _ => rfl) h2⟩)
      unfold cpN
      rw [if_pos hz]
  · unfold cpN
    rw [if_pos hz, if_pos hz, if_pos hz, if_pos hz]
    exact ⟨rfl, rfl⟩
theorem gd_RO_put_0 : (decode prog_6_method_2_code 0 = .ok (.aload_n 0, 1)) ∧ (decode prog_6_method_2_code 1 = .ok (.getfield 15, 3)) ∧ (decode prog_6_method_2_code 4 = .ok (.iload_n 1, 1)) ∧ (decode prog_6_method_2_code 5 = .ok (.iload_n 2, 1)) ∧ (decode prog_6_method_2_code 6 = .ok (.iastore, 1)) ∧ (decode prog_6_method_2_code 7 = .ok (.aload_n 0, 1)) ∧ (decode prog_6_method_2_code 8 = .ok (.getfield 19, 3)) ∧ (decode prog_6_method_2_code 11 = .ok (.iload_n 1, 1)) ∧ (decode prog_6_method_2_code 12 = .ok (.iload_n 3, 1)) ∧ (decode prog_6_method_2_code 13 = .ok (.iastore, 1)) := by decide +kernel
theorem d_RO_put_0 : decode prog_6_method_2_code 0 = .ok (.aload_n 0, 1) := gd_RO_put_0.1
theorem d_RO_put_1 : decode prog_6_method_2_code 1 = .ok (.getfield 15, 3) := gd_RO_put_0.2.1
theorem d_RO_put_4 : decode prog_6_method_2_code 4 = .ok (.iload_n 1, 1) := gd_RO_put_0.2.2.1
theorem d_RO_put_5 : decode prog_6_method_2_code 5 = .ok (.iload_n 2, 1) := gd_RO_put_0.2.2.2.1
theorem d_RO_put_6 : decode prog_6_method_2_code 6 = .ok (.iastore, 1) := gd_RO_put_0.2.2.2.2.1
theorem d_RO_put_7 : decode prog_6_method_2_code 7 = .ok (.aload_n 0, 1) := gd_RO_put_0.2.2.2.2.2.1
theorem d_RO_put_8 : decode prog_6_method_2_code 8 = .ok (.getfield 19, 3) := gd_RO_put_0.2.2.2.2.2.2.1
theorem d_RO_put_11 : decode prog_6_method_2_code 11 = .ok (.iload_n 1, 1) := gd_RO_put_0.2.2.2.2.2.2.2.1
theorem d_RO_put_12 : decode prog_6_method_2_code 12 = .ok (.iload_n 3, 1) := gd_RO_put_0.2.2.2.2.2.2.2.2.1
theorem d_RO_put_13 : decode prog_6_method_2_code 13 = .ok (.iastore, 1) := gd_RO_put_0.2.2.2.2.2.2.2.2.2
theorem d_RO_put_14 : decode prog_6_method_2_code 14 = .ok (.return_, 1) := by decide +kernel
theorem gd_RO_take_0 : (decode prog_6_method_3_code 0 = .ok (.aload_n 0, 1)) ∧ (decode prog_6_method_3_code 1 = .ok (.aload_n 1, 1)) ∧ (decode prog_6_method_3_code 2 = .ok (.getfield 9, 3)) ∧ (decode prog_6_method_3_code 5 = .ok (.putfield 9, 3)) ∧ (decode prog_6_method_3_code 8 = .ok (.iconst 0, 1)) ∧ (decode prog_6_method_3_code 9 = .ok (.istore_n 2, 1)) ∧ (decode prog_6_method_3_code 10 = .ok (.iload_n 2, 1)) ∧ (decode prog_6_method_3_code 11 = .ok (.aload_n 0, 1)) ∧ (decode prog_6_method_3_code 12 = .ok (.getfield 9, 3)) ∧ (decode prog_6_method_3_code 15 = .ok (.if_icmp .ge 26, 3)) := by decide +kernel
theorem d_RO_take_0 : decode prog_6_method_3_code 0 = .ok (.aload_n 0, 1) := gd_RO_take_0.1
theorem d_RO_take_1 : decode prog_6_method_3_code 1 = .ok (.aload_n 1, 1) := gd_RO_take_0.2.1
theorem d_RO_take_2 : decode prog_6_method_3_code 2 = .ok (.getfield 9, 3) := gd_RO_take_0.2.2.1
theorem d_RO_take_5 : decode prog_6_method_3_code 5 = .ok (.putfield 9, 3) := gd_RO_take_0.2.2.2.1
theorem d_RO_take_8 : decode prog_6_method_3_code 8 = .ok (.iconst 0, 1) := gd_RO_take_0.2.2.2.2.1
theorem d_RO_take_9 : decode prog_6_method_3_code 9 = .ok (.istore_n 2, 1) := gd_RO_take_0.2.2.2.2.2.1
theorem d_RO_take_10 : decode prog_6_method_3_code 10 = .ok (.iload_n 2, 1) := gd_RO_take_0.2.2.2.2.2.2.1
theorem d_RO_take_11 : decode prog_6_method_3_code 11 = .ok (.aload_n 0, 1) := gd_RO_take_0.2.2.2.2.2.2.2.1
theorem d_RO_take_12 : decode prog_6_method_3_code 12 = .ok (.getfield 9, 3) := gd_RO_take_0.2.2.2.2.2.2.2.2.1
theorem d_RO_take_15 : decode prog_6_method_3_code 15 = .ok (.if_icmp .ge 26, 3) := gd_RO_take_0.2.2.2.2.2.2.2.2.2
theorem gd_RO_take_41 : (decode prog_6_method_3_code 41 = .ok (.return_, 1)) ∧ (decode prog_6_method_3_code 18 = .ok (.aload_n 0, 1)) ∧ (decode prog_6_method_3_code 19 = .ok (.iload_n 2, 1)) ∧ (decode prog_6_method_3_code 20 = .ok (.aload_n 1, 1)) ∧ (decode prog_6_method_3_code 21 = .ok (.getfield 15, 3)) ∧ (decode prog_6_method_3_code 24 = .ok (.iload_n 2, 1)) ∧ (decode prog_6_method_3_code 25 = .ok (.iaload, 1)) ∧ (decode prog_6_method_3_code 26 = .ok (.aload_n 1, 1)) ∧ (decode prog_6_method_3_code 27 = .ok (.getfield 19, 3)) ∧ (decode prog_6_method_3_code 30 = .ok (.iload_n 2, 1)) := by decide +kernel
theorem d_RO_take_41 : decode prog_6_method_3_code 41 = .ok (.return_, 1) := gd_RO_take_41.1
theorem d_RO_take_18 : decode prog_6_method_3_code 18 = .ok (.aload_n 0, 1) := gd_RO_take_41.2.1
theorem d_RO_take_19 : decode prog_6_method_3_code 19 = .ok (.iload_n 2, 1) := gd_RO_take_41.2.2.1
theorem d_RO_take_20 : decode prog_6_method_3_code 20 = .ok (.aload_n 1, 1) := gd_RO_take_41.2.2.2.1
theorem d_RO_take_21 : decode prog_6_method_3_code 21 = .ok (.getfield 15, 3) := gd_RO_take_41.2.2.2.2.1
theorem d_RO_take_24 : decode prog_6_method_3_code 24 = .ok (.iload_n 2, 1) := gd_RO_take_41.2.2.2.2.2.1
theorem d_RO_take_25 : decode prog_6_method_3_code 25 = .ok (.iaload, 1) := gd_RO_take_41.2.2.2.2.2.2.1
theorem d_RO_take_26 : decode prog_6_method_3_code 26 = .ok (.aload_n 1, 1) := gd_RO_take_41.2.2.2.2.2.2.2.1
theorem d_RO_take_27 : decode prog_6_method_3_code 27 = .ok (.getfield 19, 3) := gd_RO_take_41.2.2.2.2.2.2.2.2.1
theorem d_RO_take_30 : decode prog_6_method_3_code 30 = .ok (.iload_n 2, 1) := gd_RO_take_41.2.2.2.2.2.2.2.2.2
theorem gd_RO_take_31 : (decode prog_6_method_3_code 31 = .ok (.iaload, 1)) ∧ (decode prog_6_method_3_code 32 = .ok (.invokevirtual 22, 3)) ∧ (decode prog_6_method_3_code 35 = .ok (.iinc 2 1, 3)) ∧ (decode prog_6_method_3_code 38 = .ok (.goto (-28), 3)) := by decide +kernel
theorem d_RO_take_31 : decode prog_6_method_3_code 31 = .ok (.iaload, 1) := gd_RO_take_31.1
theorem d_RO_take_32 : decode prog_6_method_3_code 32 = .ok (.invokevirtual 22, 3) := gd_RO_take_31.2.1
theorem d_RO_take_35 : decode prog_6_method_3_code 35 = .ok (.iinc 2 1, 3) := gd_RO_take_31.2.2.1
theorem d_RO_take_38 : decode prog_6_method_3_code 38 = .ok (.goto (-28), 3) := gd_RO_take_31.2.2.2
theorem gd_RO_takeTurned_0 : (decode prog_6_method_4_code 0 = .ok (.aload_n 0, 1)) ∧ (decode prog_6_method_4_code 1 = .ok (.aload_n 1, 1)) ∧ (decode prog_6_method_4_code 2 = .ok (.getfield 9, 3)) ∧ (decode prog_6_method_4_code 5 = .ok (.putfield 9, 3)) ∧ (decode prog_6_method_4_code 8 = .ok (.iconst 0, 1)) ∧ (decode prog_6_method_4_code 9 = .ok (.istore_n 2, 1)) ∧ (decode prog_6_method_4_code 10 = .ok (.iload_n 2, 1)) ∧ (decode prog_6_method_4_code 11 = .ok (.aload_n 0, 1)) ∧ (decode prog_6_method_4_code 12 = .ok (.getfield 9, 3)) ∧ (decode prog_6_method_4_code 15 = .ok (.if_icmp .ge 40, 3)) := by decide +kernel
theorem d_RO_takeTurned_0 : decode prog_6_method_4_code 0 = .ok (.aload_n 0, 1) := gd_RO_takeTurned_0.1
theorem d_RO_takeTurned_1 : decode prog_6_method_4_code 1 = .ok (.aload_n 1, 1) := gd_RO_takeTurned_0.2.1
theorem d_RO_takeTurned_2 : decode prog_6_method_4_code 2 = .ok (.getfield 9, 3) := gd_RO_takeTurned_0.2.2.1
theorem d_RO_takeTurned_5 : decode prog_6_method_4_code 5 = .ok (.putfield 9, 3) := gd_RO_takeTurned_0.2.2.2.1
theorem d_RO_takeTurned_8 : decode prog_6_method_4_code 8 = .ok (.iconst 0, 1) := gd_RO_takeTurned_0.2.2.2.2.1
theorem d_RO_takeTurned_9 : decode prog_6_method_4_code 9 = .ok (.istore_n 2, 1) := gd_RO_takeTurned_0.2.2.2.2.2.1
theorem d_RO_takeTurned_10 : decode prog_6_method_4_code 10 = .ok (.iload_n 2, 1) := gd_RO_takeTurned_0.2.2.2.2.2.2.1
theorem d_RO_takeTurned_11 : decode prog_6_method_4_code 11 = .ok (.aload_n 0, 1) := gd_RO_takeTurned_0.2.2.2.2.2.2.2.1
theorem d_RO_takeTurned_12 : decode prog_6_method_4_code 12 = .ok (.getfield 9, 3) := gd_RO_takeTurned_0.2.2.2.2.2.2.2.2.1
theorem d_RO_takeTurned_15 : decode prog_6_method_4_code 15 = .ok (.if_icmp .ge 40, 3) := gd_RO_takeTurned_0.2.2.2.2.2.2.2.2.2
theorem gd_RO_takeTurned_55 : (decode prog_6_method_4_code 55 = .ok (.return_, 1)) ∧ (decode prog_6_method_4_code 18 = .ok (.aload_n 0, 1)) ∧ (decode prog_6_method_4_code 19 = .ok (.iload_n 2, 1)) ∧ (decode prog_6_method_4_code 20 = .ok (.aload_n 1, 1)) ∧ (decode prog_6_method_4_code 21 = .ok (.getfield 15, 3)) ∧ (decode prog_6_method_4_code 24 = .ok (.aload_n 0, 1)) ∧ (decode prog_6_method_4_code 25 = .ok (.getfield 9, 3)) ∧ (decode prog_6_method_4_code 28 = .ok (.iconst 1, 1)) ∧ (decode prog_6_method_4_code 29 = .ok (.isub, 1)) ∧ (decode prog_6_method_4_code 30 = .ok (.iload_n 2, 1)) := by decide +kernel
theorem d_RO_takeTurned_55 : decode prog_6_method_4_code 55 = .ok (.return_, 1) := gd_RO_takeTurned_55.1
theorem d_RO_takeTurned_18 : decode prog_6_method_4_code 18 = .ok (.aload_n 0, 1) := gd_RO_takeTurned_55.2.1
theorem d_RO_takeTurned_19 : decode prog_6_method_4_code 19 = .ok (.iload_n 2, 1) := gd_RO_takeTurned_55.2.2.1
theorem d_RO_takeTurned_20 : decode prog_6_method_4_code 20 = .ok (.aload_n 1, 1) := gd_RO_takeTurned_55.2.2.2.1
theorem d_RO_takeTurned_21 : decode prog_6_method_4_code 21 = .ok (.getfield 15, 3) := gd_RO_takeTurned_55.2.2.2.2.1
theorem d_RO_takeTurned_24 : decode prog_6_method_4_code 24 = .ok (.aload_n 0, 1) := gd_RO_takeTurned_55.2.2.2.2.2.1
theorem d_RO_takeTurned_25 : decode prog_6_method_4_code 25 = .ok (.getfield 9, 3) := gd_RO_takeTurned_55.2.2.2.2.2.2.1
theorem d_RO_takeTurned_28 : decode prog_6_method_4_code 28 = .ok (.iconst 1, 1) := gd_RO_takeTurned_55.2.2.2.2.2.2.2.1
theorem d_RO_takeTurned_29 : decode prog_6_method_4_code 29 = .ok (.isub, 1) := gd_RO_takeTurned_55.2.2.2.2.2.2.2.2.1
theorem d_RO_takeTurned_30 : decode prog_6_method_4_code 30 = .ok (.iload_n 2, 1) := gd_RO_takeTurned_55.2.2.2.2.2.2.2.2.2
theorem gd_RO_takeTurned_31 : (decode prog_6_method_4_code 31 = .ok (.isub, 1)) ∧ (decode prog_6_method_4_code 32 = .ok (.iaload, 1)) ∧ (decode prog_6_method_4_code 33 = .ok (.aload_n 1, 1)) ∧ (decode prog_6_method_4_code 34 = .ok (.getfield 19, 3)) ∧ (decode prog_6_method_4_code 37 = .ok (.aload_n 0, 1)) ∧ (decode prog_6_method_4_code 38 = .ok (.getfield 9, 3)) ∧ (decode prog_6_method_4_code 41 = .ok (.iconst 1, 1)) ∧ (decode prog_6_method_4_code 42 = .ok (.isub, 1)) ∧ (decode prog_6_method_4_code 43 = .ok (.iload_n 2, 1)) ∧ (decode prog_6_method_4_code 44 = .ok (.isub, 1)) := by decide +kernel
theorem d_RO_takeTurned_31 : decode prog_6_method_4_code 31 = .ok (.isub, 1) := gd_RO_takeTurned_31.1
theorem d_RO_takeTurned_32 : decode prog_6_method_4_code 32 = .ok (.iaload, 1) := gd_RO_takeTurned_31.2.1
theorem d_RO_takeTurned_33 : decode prog_6_method_4_code 33 = .ok (.aload_n 1, 1) := gd_RO_takeTurned_31.2.2.1
theorem d_RO_takeTurned_34 : decode prog_6_method_4_code 34 = .ok (.getfield 19, 3) := gd_RO_takeTurned_31.2.2.2.1
theorem d_RO_takeTurned_37 : decode prog_6_method_4_code 37 = .ok (.aload_n 0, 1) := gd_RO_takeTurned_31.2.2.2.2.1
theorem d_RO_takeTurned_38 : decode prog_6_method_4_code 38 = .ok (.getfield 9, 3) := gd_RO_takeTurned_31.2.2.2.2.2.1
theorem d_RO_takeTurned_41 : decode prog_6_method_4_code 41 = .ok (.iconst 1, 1) := gd_RO_takeTurned_31.2.2.2.2.2.2.1
theorem d_RO_takeTurned_42 : decode prog_6_method_4_code 42 = .ok (.isub, 1) := gd_RO_takeTurned_31.2.2.2.2.2.2.2.1
theorem d_RO_takeTurned_43 : decode prog_6_method_4_code 43 = .ok (.iload_n 2, 1) := gd_RO_takeTurned_31.2.2.2.2.2.2.2.2.1
theorem d_RO_takeTurned_44 : decode prog_6_method_4_code 44 = .ok (.isub, 1) := gd_RO_takeTurned_31.2.2.2.2.2.2.2.2.2
theorem gd_RO_takeTurned_45 : (decode prog_6_method_4_code 45 = .ok (.iaload, 1)) ∧ (decode prog_6_method_4_code 46 = .ok (.invokevirtual 22, 3)) ∧ (decode prog_6_method_4_code 49 = .ok (.iinc 2 1, 3)) ∧ (decode prog_6_method_4_code 52 = .ok (.goto (-42), 3)) := by decide +kernel
theorem d_RO_takeTurned_45 : decode prog_6_method_4_code 45 = .ok (.iaload, 1) := gd_RO_takeTurned_45.1
theorem d_RO_takeTurned_46 : decode prog_6_method_4_code 46 = .ok (.invokevirtual 22, 3) := gd_RO_takeTurned_45.2.1
theorem d_RO_takeTurned_49 : decode prog_6_method_4_code 49 = .ok (.iinc 2 1, 3) := gd_RO_takeTurned_45.2.2.1
theorem d_RO_takeTurned_52 : decode prog_6_method_4_code 52 = .ok (.goto (-42), 3) := gd_RO_takeTurned_45.2.2.2
theorem gd_RO_isAhead_0 : (decode prog_6_method_5_code 0 = .ok (.aload_n 0, 1)) ∧ (decode prog_6_method_5_code 1 = .ok (.getfield 9, 3)) ∧ (decode prog_6_method_5_code 4 = .ok (.aload_n 1, 1)) ∧ (decode prog_6_method_5_code 5 = .ok (.getfield 9, 3)) ∧ (decode prog_6_method_5_code 8 = .ok (.if_icmp .eq 20, 3)) ∧ (decode prog_6_method_5_code 28 = .ok (.iconst 0, 1)) ∧ (decode prog_6_method_5_code 29 = .ok (.istore_n 2, 1)) ∧ (decode prog_6_method_5_code 30 = .ok (.iload_n 2, 1)) ∧ (decode prog_6_method_5_code 31 = .ok (.aload_n 0, 1)) ∧ (decode prog_6_method_5_code 32 = .ok (.getfield 9, 3)) := by decide +kernel
theorem d_RO_isAhead_0 : decode prog_6_method_5_code 0 = .ok (.aload_n 0, 1) := gd_RO_isAhead_0.1
theorem d_RO_isAhead_1 : decode prog_6_method_5_code 1 = .ok (.getfield 9, 3) := gd_RO_isAhead_0.2.1
theorem d_RO_isAhead_4 : decode prog_6_method_5_code 4 = .ok (.aload_n 1, 1) := gd_RO_isAhead_0.2.2.1
theorem d_RO_isAhead_5 : decode prog_6_method_5_code 5 = .ok (.getfield 9, 3) := gd_RO_isAhead_0.2.2.2.1
theorem d_RO_isAhead_8 : decode prog_6_method_5_code 8 = .ok (.if_icmp .eq 20, 3) := gd_RO_isAhead_0.2.2.2.2.1
theorem d_RO_isAhead_28 : decode prog_6_method_5_code 28 = .ok (.iconst 0, 1) := gd_RO_isAhead_0.2.2.2.2.2.1
theorem d_RO_isAhead_29 : decode prog_6_method_5_code 29 = .ok (.istore_n 2, 1) := gd_RO_isAhead_0.2.2.2.2.2.2.1
theorem d_RO_isAhead_30 : decode prog_6_method_5_code 30 = .ok (.iload_n 2, 1) := gd_RO_isAhead_0.2.2.2.2.2.2.2.1
theorem d_RO_isAhead_31 : decode prog_6_method_5_code 31 = .ok (.aload_n 0, 1) := gd_RO_isAhead_0.2.2.2.2.2.2.2.2.1
theorem d_RO_isAhead_32 : decode prog_6_method_5_code 32 = .ok (.getfield 9, 3) := gd_RO_isAhead_0.2.2.2.2.2.2.2.2.2
theorem gd_RO_isAhead_35 : (decode prog_6_method_5_code 35 = .ok (.if_icmp .ge 45, 3)) ∧ (decode prog_6_method_5_code 80 = .ok (.iconst 0, 1)) ∧ (decode prog_6_method_5_code 81 = .ok (.ireturn, 1)) ∧ (decode prog_6_method_5_code 38 = .ok (.aload_n 0, 1)) ∧ (decode prog_6_method_5_code 39 = .ok (.getfield 15, 3)) ∧ (decode prog_6_method_5_code 42 = .ok (.iload_n 2, 1)) ∧ (decode prog_6_method_5_code 43 = .ok (.iaload, 1)) ∧ (decode prog_6_method_5_code 44 = .ok (.aload_n 1, 1)) ∧ (decode prog_6_method_5_code 45 = .ok (.getfield 15, 3)) ∧ (decode prog_6_method_5_code 48 = .ok (.iload_n 2, 1)) := by decide +kernel
theorem d_RO_isAhead_35 : decode prog_6_method_5_code 35 = .ok (.if_icmp .ge 45, 3) := gd_RO_isAhead_35.1
theorem d_RO_isAhead_80 : decode prog_6_method_5_code 80 = .ok (.iconst 0, 1) := gd_RO_isAhead_35.2.1
theorem d_RO_isAhead_81 : decode prog_6_method_5_code 81 = .ok (.ireturn, 1) := gd_RO_isAhead_35.2.2.1
theorem d_RO_isAhead_38 : decode prog_6_method_5_code 38 = .ok (.aload_n 0, 1) := gd_RO_isAhead_35.2.2.2.1
theorem d_RO_isAhead_39 : decode prog_6_method_5_code 39 = .ok (.getfield 15, 3) := gd_RO_isAhead_35.2.2.2.2.1
theorem d_RO_isAhead_42 : decode prog_6_method_5_code 42 = .ok (.iload_n 2, 1) := gd_RO_isAhead_35.2.2.2.2.2.1
theorem d_RO_isAhead_43 : decode prog_6_method_5_code 43 = .ok (.iaload, 1) := gd_RO_isAhead_35.2.2.2.2.2.2.1
theorem d_RO_isAhead_44 : decode prog_6_method_5_code 44 = .ok (.aload_n 1, 1) := gd_RO_isAhead_35.2.2.2.2.2.2.2.1
theorem d_RO_isAhead_45 : decode prog_6_method_5_code 45 = .ok (.getfield 15, 3) := gd_RO_isAhead_35.2.2.2.2.2.2.2.2.1
theorem d_RO_isAhead_48 : decode prog_6_method_5_code 48 = .ok (.iload_n 2, 1) := gd_RO_isAhead_35.2.2.2.2.2.2.2.2.2
theorem gd_RO_isAhead_49 : (decode prog_6_method_5_code 49 = .ok (.iaload, 1)) ∧ (decode prog_6_method_5_code 50 = .ok (.if_icmp .eq 24, 3)) ∧ (decode prog_6_method_5_code 74 = .ok (.iinc 2 1, 3)) ∧ (decode prog_6_method_5_code 77 = .ok (.goto (-47), 3)) ∧ (decode prog_6_method_5_code 53 = .ok (.aload_n 0, 1)) ∧ (decode prog_6_method_5_code 54 = .ok (.getfield 15, 3)) ∧ (decode prog_6_method_5_code 57 = .ok (.iload_n 2, 1)) ∧ (decode prog_6_method_5_code 58 = .ok (.iaload, 1)) ∧ (decode prog_6_method_5_code 59 = .ok (.aload_n 1, 1)) ∧ (decode prog_6_method_5_code 60 = .ok (.getfield 15, 3)) := by decide +kernel
theorem d_RO_isAhead_49 : decode prog_6_method_5_code 49 = .ok (.iaload, 1) := gd_RO_isAhead_49.1
theorem d_RO_isAhead_50 : decode prog_6_method_5_code 50 = .ok (.if_icmp .eq 24, 3) := gd_RO_isAhead_49.2.1
theorem d_RO_isAhead_74 : decode prog_6_method_5_code 74 = .ok (.iinc 2 1, 3) := gd_RO_isAhead_49.2.2.1
theorem d_RO_isAhead_77 : decode prog_6_method_5_code 77 = .ok (.goto (-47), 3) := gd_RO_isAhead_49.2.2.2.1
theorem d_RO_isAhead_53 : decode prog_6_method_5_code 53 = .ok (.aload_n 0, 1) := gd_RO_isAhead_49.2.2.2.2.1
theorem d_RO_isAhead_54 : decode prog_6_method_5_code 54 = .ok (.getfield 15, 3) := gd_RO_isAhead_49.2.2.2.2.2.1
theorem d_RO_isAhead_57 : decode prog_6_method_5_code 57 = .ok (.iload_n 2, 1) := gd_RO_isAhead_49.2.2.2.2.2.2.1
theorem d_RO_isAhead_58 : decode prog_6_method_5_code 58 = .ok (.iaload, 1) := gd_RO_isAhead_49.2.2.2.2.2.2.2.1
theorem d_RO_isAhead_59 : decode prog_6_method_5_code 59 = .ok (.aload_n 1, 1) := gd_RO_isAhead_49.2.2.2.2.2.2.2.2.1
theorem d_RO_isAhead_60 : decode prog_6_method_5_code 60 = .ok (.getfield 15, 3) := gd_RO_isAhead_49.2.2.2.2.2.2.2.2.2
theorem gd_RO_isAhead_63 : (decode prog_6_method_5_code 63 = .ok (.iload_n 2, 1)) ∧ (decode prog_6_method_5_code 64 = .ok (.iaload, 1)) ∧ (decode prog_6_method_5_code 65 = .ok (.if_icmp .ge 7, 3)) ∧ (decode prog_6_method_5_code 72 = .ok (.iconst 0, 1)) ∧ (decode prog_6_method_5_code 73 = .ok (.ireturn, 1)) ∧ (decode prog_6_method_5_code 68 = .ok (.iconst 1, 1)) ∧ (decode prog_6_method_5_code 69 = .ok (.goto 4, 3)) ∧ (decode prog_6_method_5_code 11 = .ok (.aload_n 0, 1)) ∧ (decode prog_6_method_5_code 12 = .ok (.getfield 9, 3)) ∧ (decode prog_6_method_5_code 15 = .ok (.aload_n 1, 1)) := by decide +kernel
theorem d_RO_isAhead_63 : decode prog_6_method_5_code 63 = .ok (.iload_n 2, 1) := gd_RO_isAhead_63.1
theorem d_RO_isAhead_64 : decode prog_6_method_5_code 64 = .ok (.iaload, 1) := gd_RO_isAhead_63.2.1
theorem d_RO_isAhead_65 : decode prog_6_method_5_code 65 = .ok (.if_icmp .ge 7, 3) := gd_RO_isAhead_63.2.2.1
theorem d_RO_isAhead_72 : decode prog_6_method_5_code 72 = .ok (.iconst 0, 1) := gd_RO_isAhead_63.2.2.2.1
theorem d_RO_isAhead_73 : decode prog_6_method_5_code 73 = .ok (.ireturn, 1) := gd_RO_isAhead_63.2.2.2.2.1
theorem d_RO_isAhead_68 : decode prog_6_method_5_code 68 = .ok (.iconst 1, 1) := gd_RO_isAhead_63.2.2.2.2.2.1
theorem d_RO_isAhead_69 : decode prog_6_method_5_code 69 = .ok (.goto 4, 3) := gd_RO_isAhead_63.2.2.2.2.2.2.1
theorem d_RO_isAhead_11 : decode prog_6_method_5_code 11 = .ok (.aload_n 0, 1) := gd_RO_isAhead_63.2.2.2.2.2.2.2.1
theorem d_RO_isAhead_12 : decode prog_6_method_5_code 12 = .ok (.getfield 9, 3) := gd_RO_isAhead_63.2.2.2.2.2.2.2.2.1
theorem d_RO_isAhead_15 : decode prog_6_method_5_code 15 = .ok (.aload_n 1, 1) := gd_RO_isAhead_63.2.2.2.2.2.2.2.2.2
theorem gd_RO_isAhead_16 : (decode prog_6_method_5_code 16 = .ok (.getfield 9, 3)) ∧ (decode prog_6_method_5_code 19 = .ok (.if_icmp .ge 7, 3)) ∧ (decode prog_6_method_5_code 26 = .ok (.iconst 0, 1)) ∧ (decode prog_6_method_5_code 27 = .ok (.ireturn, 1)) ∧ (decode prog_6_method_5_code 22 = .ok (.iconst 1, 1)) ∧ (decode prog_6_method_5_code 23 = .ok (.goto 4, 3)) := by decide +kernel
theorem d_RO_isAhead_16 : decode prog_6_method_5_code 16 = .ok (.getfield 9, 3) := gd_RO_isAhead_16.1
theorem d_RO_isAhead_19 : decode prog_6_method_5_code 19 = .ok (.if_icmp .ge 7, 3) := gd_RO_isAhead_16.2.1
theorem d_RO_isAhead_26 : decode prog_6_method_5_code 26 = .ok (.iconst 0, 1) := gd_RO_isAhead_16.2.2.1
theorem d_RO_isAhead_27 : decode prog_6_method_5_code 27 = .ok (.ireturn, 1) := gd_RO_isAhead_16.2.2.2.1
theorem d_RO_isAhead_22 : decode prog_6_method_5_code 22 = .ok (.iconst 1, 1) := gd_RO_isAhead_16.2.2.2.2.1
theorem d_RO_isAhead_23 : decode prog_6_method_5_code 23 = .ok (.goto 4, 3) := gd_RO_isAhead_16.2.2.2.2.2
theorem gd_WS_begin_0 : (decode prog_7_method_2_code 0 = .ok (.aload_n 0, 1)) ∧ (decode prog_7_method_2_code 1 = .ok (.iload_n 1, 1)) ∧ (decode prog_7_method_2_code 2 = .ok (.putfield 9, 3)) ∧ (decode prog_7_method_2_code 5 = .ok (.aload_n 0, 1)) ∧ (decode prog_7_method_2_code 6 = .ok (.getfield 32, 3)) ∧ (decode prog_7_method_2_code 9 = .ok (.iconst 0, 1)) ∧ (decode prog_7_method_2_code 10 = .ok (.putfield 35, 3)) ∧ (decode prog_7_method_2_code 13 = .ok (.iconst 0, 1)) ∧ (decode prog_7_method_2_code 14 = .ok (.istore_n 3, 1)) ∧ (decode prog_7_method_2_code 15 = .ok (.iload_n 3, 1)) := by decide +kernel
theorem d_WS_begin_0 : decode prog_7_method_2_code 0 = .ok (.aload_n 0, 1) := gd_WS_begin_0.1
theorem d_WS_begin_1 : decode prog_7_method_2_code 1 = .ok (.iload_n 1, 1) := gd_WS_begin_0.2.1
theorem d_WS_begin_2 : decode prog_7_method_2_code 2 = .ok (.putfield 9, 3) := gd_WS_begin_0.2.2.1
theorem d_WS_begin_5 : decode prog_7_method_2_code 5 = .ok (.aload_n 0, 1) := gd_WS_begin_0.2.2.2.1
theorem d_WS_begin_6 : decode prog_7_method_2_code 6 = .ok (.getfield 32, 3) := gd_WS_begin_0.2.2.2.2.1
theorem d_WS_begin_9 : decode prog_7_method_2_code 9 = .ok (.iconst 0, 1) := gd_WS_begin_0.2.2.2.2.2.1
theorem d_WS_begin_10 : decode prog_7_method_2_code 10 = .ok (.putfield 35, 3) := gd_WS_begin_0.2.2.2.2.2.2.1
theorem d_WS_begin_13 : decode prog_7_method_2_code 13 = .ok (.iconst 0, 1) := gd_WS_begin_0.2.2.2.2.2.2.2.1
theorem d_WS_begin_14 : decode prog_7_method_2_code 14 = .ok (.istore_n 3, 1) := gd_WS_begin_0.2.2.2.2.2.2.2.2.1
theorem d_WS_begin_15 : decode prog_7_method_2_code 15 = .ok (.iload_n 3, 1) := gd_WS_begin_0.2.2.2.2.2.2.2.2.2
theorem gd_WS_begin_16 : (decode prog_7_method_2_code 16 = .ok (.bipush 7, 2)) ∧ (decode prog_7_method_2_code 18 = .ok (.if_icmp .ge 25, 3)) ∧ (decode prog_7_method_2_code 43 = .ok (.return_, 1)) ∧ (decode prog_7_method_2_code 21 = .ok (.aload_n 0, 1)) ∧ (decode prog_7_method_2_code 22 = .ok (.getfield 18, 3)) ∧ (decode prog_7_method_2_code 25 = .ok (.iload_n 3, 1)) ∧ (decode prog_7_method_2_code 26 = .ok (.iload_n 3, 1)) ∧ (decode prog_7_method_2_code 27 = .ok (.iload_n 2, 1)) ∧ (decode prog_7_method_2_code 28 = .ok (.if_icmp .ne 7, 3)) ∧ (decode prog_7_method_2_code 35 = .ok (.iconst 0, 1)) := by decide +kernel
theorem d_WS_begin_16 : decode prog_7_method_2_code 16 = .ok (.bipush 7, 2) := gd_WS_begin_16.1
theorem d_WS_begin_18 : decode prog_7_method_2_code 18 = .ok (.if_icmp .ge 25, 3) := gd_WS_begin_16.2.1
theorem d_WS_begin_43 : decode prog_7_method_2_code 43 = .ok (.return_, 1) := gd_WS_begin_16.2.2.1
theorem d_WS_begin_21 : decode prog_7_method_2_code 21 = .ok (.aload_n 0, 1) := gd_WS_begin_16.2.2.2.1
theorem d_WS_begin_22 : decode prog_7_method_2_code 22 = .ok (.getfield 18, 3) := gd_WS_begin_16.2.2.2.2.1
theorem d_WS_begin_25 : decode prog_7_method_2_code 25 = .ok (.iload_n 3, 1) := gd_WS_begin_16.2.2.2.2.2.1
theorem d_WS_begin_26 : decode prog_7_method_2_code 26 = .ok (.iload_n 3, 1) := gd_WS_begin_16.2.2.2.2.2.2.1
theorem d_WS_begin_27 : decode prog_7_method_2_code 27 = .ok (.iload_n 2, 1) := gd_WS_begin_16.2.2.2.2.2.2.2.1
theorem d_WS_begin_28 : decode prog_7_method_2_code 28 = .ok (.if_icmp .ne 7, 3) := gd_WS_begin_16.2.2.2.2.2.2.2.2.1
theorem d_WS_begin_35 : decode prog_7_method_2_code 35 = .ok (.iconst 0, 1) := gd_WS_begin_16.2.2.2.2.2.2.2.2.2
theorem gd_WS_begin_36 : (decode prog_7_method_2_code 36 = .ok (.bastore, 1)) ∧ (decode prog_7_method_2_code 37 = .ok (.iinc 3 1, 3)) ∧ (decode prog_7_method_2_code 40 = .ok (.goto (-25), 3)) ∧ (decode prog_7_method_2_code 31 = .ok (.iconst 1, 1)) ∧ (decode prog_7_method_2_code 32 = .ok (.goto 4, 3)) := by decide +kernel
theorem d_WS_begin_36 : decode prog_7_method_2_code 36 = .ok (.bastore, 1) := gd_WS_begin_36.1
theorem d_WS_begin_37 : decode prog_7_method_2_code 37 = .ok (.iinc 3 1, 3) := gd_WS_begin_36.2.1
theorem d_WS_begin_40 : decode prog_7_method_2_code 40 = .ok (.goto (-25), 3) := gd_WS_begin_36.2.2.1
theorem d_WS_begin_31 : decode prog_7_method_2_code 31 = .ok (.iconst 1, 1) := gd_WS_begin_36.2.2.2.1
theorem d_WS_begin_32 : decode prog_7_method_2_code 32 = .ok (.goto 4, 3) := gd_WS_begin_36.2.2.2.2
theorem gd_WS_offer_0 : (decode prog_7_method_3_code 0 = .ok (.aload_n 0, 1)) ∧ (decode prog_7_method_3_code 1 = .ok (.getfield 25, 3)) ∧ (decode prog_7_method_3_code 4 = .ok (.iload_n 1, 1)) ∧ (decode prog_7_method_3_code 5 = .ok (.putfield 35, 3)) ∧ (decode prog_7_method_3_code 8 = .ok (.aload_n 0, 1)) ∧ (decode prog_7_method_3_code 9 = .ok (.getfield 29, 3)) ∧ (decode prog_7_method_3_code 12 = .ok (.aload_n 0, 1)) ∧ (decode prog_7_method_3_code 13 = .ok (.getfield 25, 3)) ∧ (decode prog_7_method_3_code 16 = .ok (.invokevirtual 38, 3)) ∧ (decode prog_7_method_3_code 19 = .ok (.aload_n 0, 1)) := by decide +kernel
theorem d_WS_offer_0 : decode prog_7_method_3_code 0 = .ok (.aload_n 0, 1) := gd_WS_offer_0.1
theorem d_WS_offer_1 : decode prog_7_method_3_code 1 = .ok (.getfield 25, 3) := gd_WS_offer_0.2.1
theorem d_WS_offer_4 : decode prog_7_method_3_code 4 = .ok (.iload_n 1, 1) := gd_WS_offer_0.2.2.1
theorem d_WS_offer_5 : decode prog_7_method_3_code 5 = .ok (.putfield 35, 3) := gd_WS_offer_0.2.2.2.1
theorem d_WS_offer_8 : decode prog_7_method_3_code 8 = .ok (.aload_n 0, 1) := gd_WS_offer_0.2.2.2.2.1
theorem d_WS_offer_9 : decode prog_7_method_3_code 9 = .ok (.getfield 29, 3) := gd_WS_offer_0.2.2.2.2.2.1
theorem d_WS_offer_12 : decode prog_7_method_3_code 12 = .ok (.aload_n 0, 1) := gd_WS_offer_0.2.2.2.2.2.2.1
theorem d_WS_offer_13 : decode prog_7_method_3_code 13 = .ok (.getfield 25, 3) := gd_WS_offer_0.2.2.2.2.2.2.2.1
theorem d_WS_offer_16 : decode prog_7_method_3_code 16 = .ok (.invokevirtual 38, 3) := gd_WS_offer_0.2.2.2.2.2.2.2.2.1
theorem d_WS_offer_19 : decode prog_7_method_3_code 19 = .ok (.aload_n 0, 1) := gd_WS_offer_0.2.2.2.2.2.2.2.2.2
theorem gd_WS_offer_20 : (decode prog_7_method_3_code 20 = .ok (.getfield 32, 3)) ∧ (decode prog_7_method_3_code 23 = .ok (.getfield 35, 3)) ∧ (decode prog_7_method_3_code 26 = .ok (.ifCond .eq 33, 3)) ∧ (decode prog_7_method_3_code 59 = .ok (.aload_n 0, 1)) ∧ (decode prog_7_method_3_code 60 = .ok (.getfield 32, 3)) ∧ (decode prog_7_method_3_code 63 = .ok (.aload_n 0, 1)) ∧ (decode prog_7_method_3_code 64 = .ok (.getfield 29, 3)) ∧ (decode prog_7_method_3_code 67 = .ok (.invokevirtual 46, 3)) ∧ (decode prog_7_method_3_code 70 = .ok (.aload_n 0, 1)) ∧ (decode prog_7_method_3_code 71 = .ok (.iload_n 2, 1)) := by decide +kernel
theorem d_WS_offer_20 : decode prog_7_method_3_code 20 = .ok (.getfield 32, 3) := gd_WS_offer_20.1
theorem d_WS_offer_23 : decode prog_7_method_3_code 23 = .ok (.getfield 35, 3) := gd_WS_offer_20.2.1
theorem d_WS_offer_26 : decode prog_7_method_3_code 26 = .ok (.ifCond .eq 33, 3) := gd_WS_offer_20.2.2.1
theorem d_WS_offer_59 : decode prog_7_method_3_code 59 = .ok (.aload_n 0, 1) := gd_WS_offer_20.2.2.2.1
theorem d_WS_offer_60 : decode prog_7_method_3_code 60 = .ok (.getfield 32, 3) := gd_WS_offer_20.2.2.2.2.1
theorem d_WS_offer_63 : decode prog_7_method_3_code 63 = .ok (.aload_n 0, 1) := gd_WS_offer_20.2.2.2.2.2.1
theorem d_WS_offer_64 : decode prog_7_method_3_code 64 = .ok (.getfield 29, 3) := gd_WS_offer_20.2.2.2.2.2.2.1
theorem d_WS_offer_67 : decode prog_7_method_3_code 67 = .ok (.invokevirtual 46, 3) := gd_WS_offer_20.2.2.2.2.2.2.2.1
theorem d_WS_offer_70 : decode prog_7_method_3_code 70 = .ok (.aload_n 0, 1) := gd_WS_offer_20.2.2.2.2.2.2.2.2.1
theorem d_WS_offer_71 : decode prog_7_method_3_code 71 = .ok (.iload_n 2, 1) := gd_WS_offer_20.2.2.2.2.2.2.2.2.2
theorem gd_WS_offer_72 : (decode prog_7_method_3_code 72 = .ok (.putfield 15, 3)) ∧ (decode prog_7_method_3_code 75 = .ok (.return_, 1)) ∧ (decode prog_7_method_3_code 29 = .ok (.iload_n 2, 1)) ∧ (decode prog_7_method_3_code 30 = .ok (.aload_n 0, 1)) ∧ (decode prog_7_method_3_code 31 = .ok (.getfield 15, 3)) ∧ (decode prog_7_method_3_code 34 = .ok (.if_icmp .lt 25, 3)) ∧ (decode prog_7_method_3_code 37 = .ok (.iload_n 2, 1)) ∧ (decode prog_7_method_3_code 38 = .ok (.aload_n 0, 1)) ∧ (decode prog_7_method_3_code 39 = .ok (.getfield 15, 3)) ∧ (decode prog_7_method_3_code 42 = .ok (.if_icmp .ne 33, 3)) := by decide +kernel
theorem d_WS_offer_72 : decode prog_7_method_3_code 72 = .ok (.putfield 15, 3) := gd_WS_offer_72.1
theorem d_WS_offer_75 : decode prog_7_method_3_code 75 = .ok (.return_, 1) := gd_WS_offer_72.2.1
theorem d_WS_offer_29 : decode prog_7_method_3_code 29 = .ok (.iload_n 2, 1) := gd_WS_offer_72.2.2.1
theorem d_WS_offer_30 : decode prog_7_method_3_code 30 = .ok (.aload_n 0, 1) := gd_WS_offer_72.2.2.2.1
theorem d_WS_offer_31 : decode prog_7_method_3_code 31 = .ok (.getfield 15, 3) := gd_WS_offer_72.2.2.2.2.1
theorem d_WS_offer_34 : decode prog_7_method_3_code 34 = .ok (.if_icmp .lt 25, 3) := gd_WS_offer_72.2.2.2.2.2.1
theorem d_WS_offer_37 : decode prog_7_method_3_code 37 = .ok (.iload_n 2, 1) := gd_WS_offer_72.2.2.2.2.2.2.1
theorem d_WS_offer_38 : decode prog_7_method_3_code 38 = .ok (.aload_n 0, 1) := gd_WS_offer_72.2.2.2.2.2.2.2.1
theorem d_WS_offer_39 : decode prog_7_method_3_code 39 = .ok (.getfield 15, 3) := gd_WS_offer_72.2.2.2.2.2.2.2.2.1
theorem d_WS_offer_42 : decode prog_7_method_3_code 42 = .ok (.if_icmp .ne 33, 3) := gd_WS_offer_72.2.2.2.2.2.2.2.2.2
theorem gd_WS_offer_45 : (decode prog_7_method_3_code 45 = .ok (.aload_n 0, 1)) ∧ (decode prog_7_method_3_code 46 = .ok (.getfield 29, 3)) ∧ (decode prog_7_method_3_code 49 = .ok (.aload_n 0, 1)) ∧ (decode prog_7_method_3_code 50 = .ok (.getfield 32, 3)) ∧ (decode prog_7_method_3_code 53 = .ok (.invokevirtual 42, 3)) ∧ (decode prog_7_method_3_code 56 = .ok (.ifCond .eq 19, 3)) := by decide +kernel
theorem d_WS_offer_45 : decode prog_7_method_3_code 45 = .ok (.aload_n 0, 1) := gd_WS_offer_45.1
theorem d_WS_offer_46 : decode prog_7_method_3_code 46 = .ok (.getfield 29, 3) := gd_WS_offer_45.2.1
theorem d_WS_offer_49 : decode prog_7_method_3_code 49 = .ok (.aload_n 0, 1) := gd_WS_offer_45.2.2.1
theorem d_WS_offer_50 : decode prog_7_method_3_code 50 = .ok (.getfield 32, 3) := gd_WS_offer_45.2.2.2.1
theorem d_WS_offer_53 : decode prog_7_method_3_code 53 = .ok (.invokevirtual 42, 3) := gd_WS_offer_45.2.2.2.2.1
theorem d_WS_offer_56 : decode prog_7_method_3_code 56 = .ok (.ifCond .eq 19, 3) := gd_WS_offer_45.2.2.2.2.2
set_option maxHeartbeats 4000000 in
set_option maxRecDepth 100000 in
theorem e_RO_put (l : Launch) (D : va_G) (cI cZ : ClassId) (ko : Nat) (i : Nat) (u : Nat) (v : Nat) (ln : Int32) (kp : Nat) (kf : Nat) (RA : Nat → Nat) (RB : Nat → Nat) (sz : Nat) (hi : i < 7) : Met l ⟨"PromiseChains$Row", "put", "(III)V"⟩ (mw ⟨"PromiseChains$Row", "put", "(III)V"⟩ prog_6_method_2_code 4 none) ({ frames := 0, cells := 0, slots := 0, locals := 0 }) (va_Pc [.ref ko, .int (nI i), .int (nI u), .int (nI v)] (PB D cI cZ sz [(ko, .inr (6, [.int ln, .ref kp, .ref kf])), (kp, .inl (cI, 7, .inl (fun zy => nI (RA zy)))), (kf, .inl (cI, 7, .inl (fun zy => nI (RB zy))))])) (va_Qv (S := Unit) (fun uU => True) (fun uU tT => BB D (va_A [(ko, .inr (6, [.int ln, .ref kp, .ref kf])), (kp, .inl (cI, 7, .inl (fun zy => nI (RA zy)))), (kf, .inl (cI, 7, .inl (fun zy => nI (RB zy))))] sz) [(ko, .inr (6, [.int ln, .ref kp, .ref kf])), (kp, .inl (cI, 7, .inl (fun zy => nI ((upN RA i u) zy)))), (kf, .inl (cI, 7, .inl (fun zy => nI ((upN RB i v) zy))))] tT) (va_A [(ko, .inr (6, [.int ln, .ref kp, .ref kf])), (kp, .inl (cI, 7, .inl (fun zy => nI (RA zy)))), (kf, .inl (cI, 7, .inl (fun zy => nI (RB zy))))] sz)) 0 0 (va_A [(ko, .inr (6, [.int ln, .ref kp, .ref kf])), (kp, .inl (cI, 7, .inl (fun zy => nI (RA zy)))), (kf, .inl (cI, 7, .inl (fun zy => nI (RB zy))))] sz) := by
  refine Met.ofW (cc := prog_6_method_2_code) (maxL := 4) (ret := none) (by decide) rfl ?_
  intro p e s m args below meth c s₁ B hml hv
  obtain ⟨rfl, hsz, hP, hK, hD0, hN⟩ := hv
  have hx := B.exec
  have hb := B.bytes
  have hr := B.returns
  have hts0 := atoms_spec (ws := mw ⟨"PromiseChains$Row", "put", "(III)V"⟩ prog_6_method_2_code 4 none) B.pre
  have hts : ∀ w ∈ tblG, w.before _ s = true := fun w h => hts0 w (List.mem_cons_of_mem _ h)
  have hown : s.vm.findClass "PromiseChains$Row" = some m.cls := findClass_of_methodNamed B.named
  have hlocks := B.notSynchronized
  subst hsz
  have hD := hD0.self (sz := s.heap.size)
  generalize hAe : va_A [(ko, .inr (6, [.int ln, .ref kp, .ref kf])), (kp, .inl (cI, 7, .inl (fun zy => nI (RA zy)))), (kf, .inl (cI, 7, .inl (fun zy => nI (RB zy))))] s.heap.size = A at hD ⊢
  have hA : ∀ q : Nat, s.heap.size ≤ q → A q := fun q h => by rw [← hAe]; exact Or.inr h
  have hS : va_S A s.heap s.heap [] := va_S.rf
  have hP : va_P D vwCl [(ko, .inr (6, [.int ln, .ref kp, .ref kf])), (kp, .inl (cI, 7, .inl (fun zy => nI (RA zy)))), (kf, .inl (cI, 7, .inl (fun zy => nI (RB zy))))] s.heap := hP
  have hl := lv_entry ([.ref ko, .int (nI i), .int (nI u), .int (nI v)]) (n := 4) (Nat.le_of_ble_eq_true rfl)
  rw [lg_entry_eq]
  generalize (lg_sl ([.ref ko, .int (nI i), .int (nI u), .int (nI v)]) ++ List.replicate (4 - (lg_sl ([.ref ko, .int (nI i), .int (nI u), .int (nI v)])).length) Slot.unset).toArray = ls at hl ⊢
  have hl : lv_has ls 4 [(0, .ref ko), (1, .int (nI i)), (2, .int (nI u)), (3, .int (nI v))] := hl
  refine lv_aload_n hx hb d_RO_put_0 rfl (lv_at hl 0 rfl) ?_
  refine va_get (D := D) (ci := 6) (v := .ref kp) (C := R_RO) (T := F_RO) (N := 3) hx hb hts i_RO hown hK hP 0 rfl rfl 1 (by decide) (hts _ q_176) (fun _ h9 => h9) rfl d_RO_put_1 ?_
  refine lv_iload_n hx hb d_RO_put_4 rfl (lv_at hl 1 rfl) ?_
  refine lv_iload_n hx hb d_RO_put_5 rfl (lv_at hl 2 rfl) ?_
  refine my_stN hx hb hK hP hD hS 1 rfl i u rfl rfl (by omega) (by decide) d_RO_put_6 (fun H_1 locs hP hD hS => ?_)
  have hP : va_P D vwCl [(ko, .inr (6, [.int ln, .ref kp, .ref kf])), (kp, .inl (cI, 7, .inl (fun zy => nI ((upN RA i u) zy)))), (kf, .inl (cI, 7, .inl (fun zy => nI (RB zy))))] H_1 := hP
  refine lv_aload_n hx hb d_RO_put_7 rfl (lv_at hl 0 rfl) ?_
  refine va_get (D := D) (ci := 6) (v := .ref kf) (C := R_RO) (T := F_RO) (N := 3) hx hb hts i_RO hown hK hP 0 rfl rfl 2 (by decide) (hts _ q_180) (fun _ h9 => h9) rfl d_RO_put_8 ?_
  refine lv_iload_n hx hb d_RO_put_11 rfl (lv_at hl 1 rfl) ?_
  refine lv_iload_n hx hb d_RO_put_12 rfl (lv_at hl 3 rfl) ?_
  refine my_stN hx hb hK hP hD hS 2 rfl i v rfl rfl (by omega) (by decide) d_RO_put_13 (fun H_2 locs hP hD hS => ?_)
  have hP : va_P D vwCl [(ko, .inr (6, [.int ln, .ref kp, .ref kf])), (kp, .inl (cI, 7, .inl (fun zy => nI ((upN RA i u) zy)))), (kf, .inl (cI, 7, .inl (fun zy => nI ((upN RB i v) zy))))] H_2 := hP
  have hP9 := hP.sub (ws' := [(ko, .inr (6, [.int ln, .ref kp, .ref kf])), (kp, .inl (cI, 7, .inl (fun zy => nI ((upN RA i u) zy)))), (kf, .inl (cI, 7, .inl (fun zy => nI ((upN RB i v) zy))))]) [0, 1, 2] rfl
  have hD9 := hD.sub (ws' := [(ko, .inr (6, [.int ln, .ref kp, .ref kf])), (kp, .inl (cI, 7, .inl (fun zy => nI ((upN RA i u) zy)))), (kf, .inl (cI, 7, .inl (fun zy => nI ((upN RB i v) zy))))]) [0, 1, 2] (by decide +kernel) rfl
  refine W.widen (k := 0) (n := 0) (Nat.le_of_ble_eq_true rfl) (Nat.le_of_ble_eq_true rfl) ?_
  exact W.vret hx hb hr (fun tT ht hW => ⟨⟨(), rfl, trivial, by rw [ht]; exact hP9, hD9⟩, hS.F ht⟩) hS.2.2 d_RO_put_14

set_option maxHeartbeats 4000000 in
set_option maxRecDepth 100000 in
theorem e_RO_take (l : Launch) (D : va_G) (cI cZ : ClassId) (ko : Nat) (jo : Nat) (l0 : Int32) (kp : Nat) (kf : Nat) (RA : Nat → Nat) (RB : Nat → Nat) (ln : Nat) (jp : Nat) (jf : Nat) (SA : Nat → Nat) (SB : Nat → Nat) (sz : Nat) (hln : ln ≤ 7) (h_SA : ∀ zz, SA zz ≤ 11) (h_SB : ∀ zz, SB zz ≤ 1) : Met l ⟨"PromiseChains$Row", "take", "(LPromiseChains$Row;)V"⟩ (mw ⟨"PromiseChains$Row", "take", "(LPromiseChains$Row;)V"⟩ prog_6_method_3_code 3 none) ({ frames := 1, cells := 0, slots := 0, locals := 23 }) (va_Pc [.ref ko, .ref jo] (PB D cI cZ sz [(ko, .inr (6, [.int l0, .ref kp, .ref kf])), (kp, .inl (cI, 7, .inl (fun zy => nI (RA zy)))), (kf, .inl (cI, 7, .inl (fun zy => nI (RB zy)))), (jo, .inr (6, [.int (nI ln), .ref jp, .ref jf])), (jp, .inl (cI, 7, .inl (fun zy => nI (SA zy)))), (jf, .inl (cI, 7, .inl (fun zy => nI (SB zy))))])) (va_Qv (S := Unit) (fun uU => True) (fun uU tT => BB D (va_A [(ko, .inr (6, [.int l0, .ref kp, .ref kf])), (kp, .inl (cI, 7, .inl (fun zy => nI (RA zy)))), (kf, .inl (cI, 7, .inl (fun zy => nI (RB zy)))), (jo, .inr (6, [.int (nI ln), .ref jp, .ref jf])), (jp, .inl (cI, 7, .inl (fun zy => nI (SA zy)))), (jf, .inl (cI, 7, .inl (fun zy => nI (SB zy))))] sz) [(ko, .inr (6, [.int (nI ln), .ref kp, .ref kf])), (kp, .inl (cI, 7, .inl (fun zy => nI ((cpN ln SA RA) zy)))), (kf, .inl (cI, 7, .inl (fun zy => nI ((cpN ln SB RB) zy)))), (jo, .inr (6, [.int (nI ln), .ref jp, .ref jf])), (jp, .inl (cI, 7, .inl (fun zy => nI (SA zy)))), (jf, .inl (cI, 7, .inl (fun zy => nI (SB zy))))] tT) (va_A [(ko, .inr (6, [.int l0, .ref kp, .ref kf])), (kp, .inl (cI, 7, .inl (fun zy => nI (RA zy)))), (kf, .inl (cI, 7, .inl (fun zy => nI (RB zy)))), (jo, .inr (6, [.int (nI ln), .ref jp, .ref jf])), (jp, .inl (cI, 7, .inl (fun zy => nI (SA zy)))), (jf, .inl (cI, 7, .inl (fun zy => nI (SB zy))))] sz)) 0 0 (va_A [(ko, .inr (6, [.int l0, .ref kp, .ref kf])), (kp, .inl (cI, 7, .inl (fun zy => nI (RA zy)))), (kf, .inl (cI, 7, .inl (fun zy => nI (RB zy)))), (jo, .inr (6, [.int (nI ln), .ref jp, .ref jf])), (jp, .inl (cI, 7, .inl (fun zy => nI (SA zy)))), (jf, .inl (cI, 7, .inl (fun zy => nI (SB zy))))] sz) := by
  refine Met.ofW (cc := prog_6_method_3_code) (maxL := 3) (ret := none) (by decide) rfl ?_
  intro p e s m args below meth c s₁ B hml hv
  obtain ⟨rfl, hsz, hP, hK, hD0, hN⟩ := hv
  have hx := B.exec
  have hb := B.bytes
  have hr := B.returns
  have hts0 := atoms_spec (ws := mw ⟨"PromiseChains$Row", "take", "(LPromiseChains$Row;)V"⟩ prog_6_method_3_code 3 none) B.pre
  have hts : ∀ w ∈ tblG, w.before _ s = true := fun w h => hts0 w (List.mem_cons_of_mem _ h)
  have hown : s.vm.findClass "PromiseChains$Row" = some m.cls := findClass_of_methodNamed B.named
  have hlocks := B.notSynchronized
  subst hsz
  have hD := hD0.self (sz := s.heap.size)
  generalize hAe : va_A [(ko, .inr (6, [.int l0, .ref kp, .ref kf])), (kp, .inl (cI, 7, .inl (fun zy => nI (RA zy)))), (kf, .inl (cI, 7, .inl (fun zy => nI (RB zy)))), (jo, .inr (6, [.int (nI ln), .ref jp, .ref jf])), (jp, .inl (cI, 7, .inl (fun zy => nI (SA zy)))), (jf, .inl (cI, 7, .inl (fun zy => nI (SB zy))))] s.heap.size = A at hD ⊢
  have hA : ∀ q : Nat, s.heap.size ≤ q → A q := fun q h => by rw [← hAe]; exact Or.inr h
  have hS : va_S A s.heap s.heap [] := va_S.rf
  have hP : va_P D vwCl [(ko, .inr (6, [.int l0, .ref kp, .ref kf])), (kp, .inl (cI, 7, .inl (fun zy => nI (RA zy)))), (kf, .inl (cI, 7, .inl (fun zy => nI (RB zy)))), (jo, .inr (6, [.int (nI ln), .ref jp, .ref jf])), (jp, .inl (cI, 7, .inl (fun zy => nI (SA zy)))), (jf, .inl (cI, 7, .inl (fun zy => nI (SB zy))))] s.heap := hP
  have hl := lv_entry ([.ref ko, .ref jo]) (n := 3) (Nat.le_of_ble_eq_true rfl)
  rw [lg_entry_eq]
  generalize (lg_sl ([.ref ko, .ref jo]) ++ List.replicate (3 - (lg_sl ([.ref ko, .ref jo])).length) Slot.unset).toArray = ls at hl ⊢
  have hl : lv_has ls 3 [(0, .ref ko), (1, .ref jo)] := hl
  refine lv_aload_n hx hb d_RO_take_0 rfl (lv_at hl 0 rfl) ?_
  refine lv_aload_n hx hb d_RO_take_1 rfl (lv_at hl 1 rfl) ?_
  refine va_get (D := D) (ci := 6) (v := .int (nI ln)) (C := R_RO) (T := F_RO) (N := 3) hx hb hts i_RO hown hK hP 3 rfl rfl 0 (by decide) (hts _ q_171) (fun _ h9 => h9) rfl d_RO_take_2 ?_
  refine va_put (D := D) (ci := 6) (v := .int (nI ln)) (ty := .int) (C := R_RO) (T := F_RO) (N := 3) hx hb hts i_RO t_RO t_RO_ok n_RO hown hK hP hD hS 0 rfl rfl 0 (by decide) (hts _ q_171) (fun _ h9 => h9) rfl (by decide +kernel) rfl rfl (Nat.le_of_ble_eq_true rfl) d_RO_take_5 (fun H_1 locs hP hD hS => ?_)
  have hP : va_P D vwCl [(ko, .inr (6, [.int (nI ln), .ref kp, .ref kf])), (kp, .inl (cI, 7, .inl (fun zy => nI (RA zy)))), (kf, .inl (cI, 7, .inl (fun zy => nI (RB zy)))), (jo, .inr (6, [.int (nI ln), .ref jp, .ref jf])), (jp, .inl (cI, 7, .inl (fun zy => nI (SA zy)))), (jf, .inl (cI, 7, .inl (fun zy => nI (SB zy))))] H_1 := hP
  refine lv_iconst (v := 0) hx hb d_RO_take_8 (by decide) ?_
  refine lv_istore_n (lv' := [(2, .int 0), (0, .ref ko), (1, .ref jo)]) hx hb d_RO_take_9 rfl hl (by decide) rfl (fun ls hl => ?_)
  refine W_loop (σ := Nat) (I := fun xX H locs ls => xX ≤ ln ∧ va_P D vwCl [(ko, .inr (6, [.int (nI ln), .ref kp, .ref kf])), (kp, .inl (cI, 7, .inl (fun zy => nI ((cpN xX SA RA) zy)))), (kf, .inl (cI, 7, .inl (fun zy => nI ((cpN xX SB RB) zy)))), (jo, .inr (6, [.int (nI ln), .ref jp, .ref jf])), (jp, .inl (cI, 7, .inl (fun zy => nI (SA zy)))), (jf, .inl (cI, 7, .inl (fun zy => nI (SB zy))))] H ∧ va_D A [(ko, .inr (6, [.int (nI ln), .ref kp, .ref kf])), (kp, .inl (cI, 7, .inl (fun zy => nI ((cpN xX SA RA) zy)))), (kf, .inl (cI, 7, .inl (fun zy => nI ((cpN xX SB RB) zy)))), (jo, .inr (6, [.int (nI ln), .ref jp, .ref jf])), (jp, .inl (cI, 7, .inl (fun zy => nI (SA zy)))), (jf, .inl (cI, 7, .inl (fun zy => nI (SB zy))))] ∧ va_S A s.heap H locs ∧ lv_has ls 3 [(2, .int (nI xX)), (1, .ref jo), (0, .ref ko)]) (μ := fun xX => 8 - xX) ?_ 0 ⟨Nat.zero_le _, (by simp only [cpN_0]; exact hP), (by simp only [cpN_0]; exact hD), hS, lv_sub hl [0, 2, 1] rfl⟩
  intro i H_2 locs ls hI ih
  obtain ⟨hi, hP, hD, hS, hl⟩ := hI
  have hP : va_P D vwCl [(ko, .inr (6, [.int (nI ln), .ref kp, .ref kf])), (kp, .inl (cI, 7, .inl (fun zy => nI ((cpN i SA RA) zy)))), (kf, .inl (cI, 7, .inl (fun zy => nI ((cpN i SB RB) zy)))), (jo, .inr (6, [.int (nI ln), .ref jp, .ref jf])), (jp, .inl (cI, 7, .inl (fun zy => nI (SA zy)))), (jf, .inl (cI, 7, .inl (fun zy => nI (SB zy))))] H_2 := hP
  have hl : lv_has ls 3 [(2, .int (nI i)), (1, .ref jo), (0, .ref ko)] := hl
  refine lv_iload_n hx hb d_RO_take_10 rfl (lv_at hl 0 rfl) ?_
  refine lv_aload_n hx hb d_RO_take_11 rfl (lv_at hl 2 rfl) ?_
  refine va_get (D := D) (ci := 6) (v := .int (nI ln)) (C := R_RO) (T := F_RO) (N := 3) hx hb hts i_RO hown hK hP 0 rfl rfl 0 (by decide) (hts _ q_171) (fun _ h9 => h9) rfl d_RO_take_12 ?_
  refine lv_icmp_ge (tgt := 41) hx hb d_RO_take_15 (by decide) (fun h_3 => ?_) (fun h_3 => ?_)
  · have nh_3 : ln ≤ i := (nI_leI (a := ln) (b := i) (by omega) (by omega)).mp h_3
    have hie : i = ln := by omega
    rw [hie] at hP hD
    have hP : va_P D vwCl [(ko, .inr (6, [.int (nI ln), .ref kp, .ref kf])), (kp, .inl (cI, 7, .inl (fun zy => nI ((cpN ln SA RA) zy)))), (kf, .inl (cI, 7, .inl (fun zy => nI ((cpN ln SB RB) zy)))), (jo, .inr (6, [.int (nI ln), .ref jp, .ref jf])), (jp, .inl (cI, 7, .inl (fun zy => nI (SA zy)))), (jf, .inl (cI, 7, .inl (fun zy => nI (SB zy))))] H_2 := hP
    have hP9 := hP.sub (ws' := [(ko, .inr (6, [.int (nI ln), .ref kp, .ref kf])), (kp, .inl (cI, 7, .inl (fun zy => nI ((cpN ln SA RA) zy)))), (kf, .inl (cI, 7, .inl (fun zy => nI ((cpN ln SB RB) zy)))), (jo, .inr (6, [.int (nI ln), .ref jp, .ref jf])), (jp, .inl (cI, 7, .inl (fun zy => nI (SA zy)))), (jf, .inl (cI, 7, .inl (fun zy => nI (SB zy))))]) [0, 1, 2, 3, 4, 5] rfl
    have hD9 := hD.sub (ws' := [(ko, .inr (6, [.int (nI ln), .ref kp, .ref kf])), (kp, .inl (cI, 7, .inl (fun zy => nI ((cpN ln SA RA) zy)))), (kf, .inl (cI, 7, .inl (fun zy => nI ((cpN ln SB RB) zy)))), (jo, .inr (6, [.int (nI ln), .ref jp, .ref jf])), (jp, .inl (cI, 7, .inl (fun zy => nI (SA zy)))), (jf, .inl (cI, 7, .inl (fun zy => nI (SB zy))))]) [0, 1, 2, 3, 4, 5] (by decide +kernel) rfl
    refine W.widen (k := 0) (n := 0) (Nat.le_of_ble_eq_true rfl) (Nat.le_of_ble_eq_true rfl) ?_
    exact W.vret hx hb hr (fun tT ht hW => ⟨⟨(), rfl, trivial, by rw [ht]; exact hP9, hD9⟩, hS.F ht⟩) hS.2.2 d_RO_take_41
  · have nh_3 : ¬ ln ≤ i := fun qZ => h_3 ((nI_leI (a := ln) (b := i) (by omega) (by omega)).mpr qZ)
    refine lv_aload_n hx hb d_RO_take_18 rfl (lv_at hl 2 rfl) ?_
    refine lv_iload_n hx hb d_RO_take_19 rfl (lv_at hl 0 rfl) ?_
    refine lv_aload_n hx hb d_RO_take_20 rfl (lv_at hl 1 rfl) ?_
    refine va_get (D := D) (ci := 6) (v := .ref jp) (C := R_RO) (T := F_RO) (N := 3) hx hb hts i_RO hown hK hP 3 rfl rfl 1 (by decide) (hts _ q_176) (fun _ h9 => h9) rfl d_RO_take_21 ?_
    refine lv_iload_n hx hb d_RO_take_24 rfl (lv_at hl 0 rfl) ?_
    refine my_ldN hx hb hK hP 4 rfl i rfl (by omega) (by decide) d_RO_take_25 ?_
    have hb_1 : SA i ≤ 11 := h_SA _
    refine lv_aload_n hx hb d_RO_take_26 rfl (lv_at hl 1 rfl) ?_
    refine va_get (D := D) (ci := 6) (v := .ref jf) (C := R_RO) (T := F_RO) (N := 3) hx hb hts i_RO hown hK hP 3 rfl rfl 2 (by decide) (hts _ q_180) (fun _ h9 => h9) rfl d_RO_take_27 ?_
    refine lv_iload_n hx hb d_RO_take_30 rfl (lv_at hl 0 rfl) ?_
    refine my_ldN hx hb hK hP 5 rfl i rfl (by omega) (by decide) d_RO_take_31 ?_
    have hb_2 : SB i ≤ 1 := h_SB _
    have hPc := hP.sub (ws' := [(ko, .inr (6, [.int (nI ln), .ref kp, .ref kf])), (kp, .inl (cI, 7, .inl (fun zy => nI ((cpN i SA RA) zy)))), (kf, .inl (cI, 7, .inl (fun zy => nI ((cpN i SB RB) zy))))]) [0, 1, 2] rfl
    have hDc := hD.sub (ws' := [(ko, .inr (6, [.int (nI ln), .ref kp, .ref kf])), (kp, .inl (cI, 7, .inl (fun zy => nI ((cpN i SA RA) zy)))), (kf, .inl (cI, 7, .inl (fun zy => nI ((cpN i SB RB) zy))))]) [0, 1, 2] (by decide +kernel) rfl
    have hFc := va_free (wc := [(ko, .inr (6, [.int (nI ln), .ref kp, .ref kf])), (kp, .inl (cI, 7, .inl (fun zy => nI ((cpN i SA RA) zy)))), (kf, .inl (cI, 7, .inl (fun zy => nI ((cpN i SB RB) zy))))]) hD hS hA [0, 1, 2] rfl
    refine va_callv (va_runV (As := [.int (nI i), .int (nI (SA i)), .int (nI (SB i))]) (rest := []) ⟨hx, hb, hml, hown, hts⟩ (e_RO_put l D cI cZ ko i (SA i) (SB i) (nI ln) kp kf (cpN i SA RA) (cpN i SB RB) H_2.size (by first | omega | (dsimp only; omega))) (my_cwV 3 hts q_403 q_412 q_401 q_402 q_6 rfl rfl (by decide +kernel) ⟨Nat.le_of_ble_eq_true rfl, Nat.le_of_ble_eq_true rfl⟩) (my_preV hPc hDc hK hN 6 0 rfl rfl) rfl rfl hl.1 rfl (lv_room (Nat.le_of_ble_eq_true rfl)) d_RO_take_32 ⟨Nat.le_of_ble_eq_true rfl, Nat.le_of_ble_eq_true rfl⟩) hS (fun q _ h => hFc q h) hFc (fun uU tT H_5 locs ht hvm hw_4 hB hz1 hk1 hS => ?_)
    obtain ⟨hP1, hD1⟩ := hB
    rw [ht] at hP1
    obtain ⟨hP, hD⟩ := va_join (wr := [(jo, .inr (6, [.int (nI ln), .ref jp, .ref jf])), (jp, .inl (cI, 7, .inl (fun zy => nI (SA zy)))), (jf, .inl (cI, 7, .inl (fun zy => nI (SB zy))))]) (w1 := [(ko, .inr (6, [.int (nI ln), .ref kp, .ref kf])), (kp, .inl (cI, 7, .inl (fun zy => nI ((upN (cpN i SA RA) i (SA i)) zy)))), (kf, .inl (cI, 7, .inl (fun zy => nI ((upN (cpN i SB RB) i (SB i)) zy))))]) hP hD [0, 1, 2] [3, 4, 5] rfl rfl (by decide +kernel) (by decide +kernel) hk1 hFc hP1 hD1
    have hP : va_P D vwCl [(jo, .inr (6, [.int (nI ln), .ref jp, .ref jf])), (jp, .inl (cI, 7, .inl (fun zy => nI (SA zy)))), (jf, .inl (cI, 7, .inl (fun zy => nI (SB zy)))), (ko, .inr (6, [.int (nI ln), .ref kp, .ref kf])), (kp, .inl (cI, 7, .inl (fun zy => nI ((upN (cpN i SA RA) i (SA i)) zy)))), (kf, .inl (cI, 7, .inl (fun zy => nI ((upN (cpN i SB RB) i (SB i)) zy))))] H_5 := hP
    refine lv_iinc (v := nI (i + 1)) (lv' := [(2, .int (nI (i + 1))), (1, .ref jo), (0, .ref ko)]) hx hb d_RO_take_35 hl (k := 0) rfl (nI_1 i) (by decide) rfl (fun ls hl => ?_)
    refine lv_goto (tgt := 10) hx hb d_RO_take_38 (by decide) ?_
    have hPz := hP.sub (ws' := [(ko, .inr (6, [.int (nI ln), .ref kp, .ref kf])), (kp, .inl (cI, 7, .inl (fun zy => nI ((upN (cpN i SA RA) i (SA i)) zy)))), (kf, .inl (cI, 7, .inl (fun zy => nI ((upN (cpN i SB RB) i (SB i)) zy)))), (jo, .inr (6, [.int (nI ln), .ref jp, .ref jf])), (jp, .inl (cI, 7, .inl (fun zy => nI (SA zy)))), (jf, .inl (cI, 7, .inl (fun zy => nI (SB zy))))]) [3, 4, 5, 0, 1, 2] rfl
    have hDz := hD.sub (ws' := [(ko, .inr (6, [.int (nI ln), .ref kp, .ref kf])), (kp, .inl (cI, 7, .inl (fun zy => nI ((upN (cpN i SA RA) i (SA i)) zy)))), (kf, .inl (cI, 7, .inl (fun zy => nI ((upN (cpN i SB RB) i (SB i)) zy)))), (jo, .inr (6, [.int (nI ln), .ref jp, .ref jf])), (jp, .inl (cI, 7, .inl (fun zy => nI (SA zy)))), (jf, .inl (cI, 7, .inl (fun zy => nI (SB zy))))]) [3, 4, 5, 0, 1, 2] (by decide) rfl
    rw [show upN (cpN i SA RA) i (SA i) = cpN (i + 1) SA RA from cpN_s i SA RA, show upN (cpN i SB RB) i (SB i) = cpN (i + 1) SB RB from cpN_s i SB RB] at hPz hDz
    exact ih (i + 1) _ _ _ (by first | omega | (dsimp only; omega)) ⟨(by first | omega | (dsimp only; omega)), hPz, hDz, hS, lv_sub hl [0, 1, 2] rfl⟩

set_option maxHeartbeats 4000000 in
set_option maxRecDepth 100000 in
theorem e_RO_takeTurned (l : Launch) (D : va_G) (cI cZ : ClassId) (ko : Nat) (jo : Nat) (l0 : Int32) (kp : Nat) (kf : Nat) (RA : Nat → Nat) (RB : Nat → Nat) (ln : Nat) (jp : Nat) (jf : Nat) (SA : Nat → Nat) (SB : Nat → Nat) (sz : Nat) (hln : ln ≤ 7) (h_SA : ∀ zz, SA zz ≤ 11) (h_SB : ∀ zz, SB zz ≤ 1) : Met l ⟨"PromiseChains$Row", "takeTurned", "(LPromiseChains$Row;)V"⟩ (mw ⟨"PromiseChains$Row", "takeTurned", "(LPromiseChains$Row;)V"⟩ prog_6_method_4_code 3 none) ({ frames := 1, cells := 0, slots := 0, locals := 23 }) (va_Pc [.ref ko, .ref jo] (PB D cI cZ sz [(ko, .inr (6, [.int l0, .ref kp, .ref kf])), (kp, .inl (cI, 7, .inl (fun zy => nI (RA zy)))), (kf, .inl (cI, 7, .inl (fun zy => nI (RB zy)))), (jo, .inr (6, [.int (nI ln), .ref jp, .ref jf])), (jp, .inl (cI, 7, .inl (fun zy => nI (SA zy)))), (jf, .inl (cI, 7, .inl (fun zy => nI (SB zy))))])) (va_Qv (S := Unit) (fun uU => True) (fun uU tT => BB D (va_A [(ko, .inr (6, [.int l0, .ref kp, .ref kf])), (kp, .inl (cI, 7, .inl (fun zy => nI (RA zy)))), (kf, .inl (cI, 7, .inl (fun zy => nI (RB zy)))), (jo, .inr (6, [.int (nI ln), .ref jp, .ref jf])), (jp, .inl (cI, 7, .inl (fun zy => nI (SA zy)))), (jf, .inl (cI, 7, .inl (fun zy => nI (SB zy))))] sz) [(ko, .inr (6, [.int (nI ln), .ref kp, .ref kf])), (kp, .inl (cI, 7, .inl (fun zy => nI ((cpN ln (fun zx => SA ((ln - 1) - zx)) RA) zy)))), (kf, .inl (cI, 7, .inl (fun zy => nI ((cpN ln (fun zx => SB ((ln - 1) - zx)) RB) zy)))), (jo, .inr (6, [.int (nI ln), .ref jp, .ref jf])), (jp, .inl (cI, 7, .inl (fun zy => nI (SA zy)))), (jf, .inl (cI, 7, .inl (fun zy => nI (SB zy))))] tT) (va_A [(ko, .inr (6, [.int l0, .ref kp, .ref kf])), (kp, .inl (cI, 7, .inl (fun zy => nI (RA zy)))), (kf, .inl (cI, 7, .inl (fun zy => nI (RB zy)))), (jo, .inr (6, [.int (nI ln), .ref jp, .ref jf])), (jp, .inl (cI, 7, .inl (fun zy => nI (SA zy)))), (jf, .inl (cI, 7, .inl (fun zy => nI (SB zy))))] sz)) 0 0 (va_A [(ko, .inr (6, [.int l0, .ref kp, .ref kf])), (kp, .inl (cI, 7, .inl (fun zy => nI (RA zy)))), (kf, .inl (cI, 7, .inl (fun zy => nI (RB zy)))), (jo, .inr (6, [.int (nI ln), .ref jp, .ref jf])), (jp, .inl (cI, 7, .inl (fun zy => nI (SA zy)))), (jf, .inl (cI, 7, .inl (fun zy => nI (SB zy))))] sz) := by
  refine Met.ofW (cc := prog_6_method_4_code) (maxL := 3) (ret := none) (by decide) rfl ?_
  intro p e s m args below meth c s₁ B hml hv
  obtain ⟨rfl, hsz, hP, hK, hD0, hN⟩ := hv
  have hx := B.exec
  have hb := B.bytes
  have hr := B.returns
  have hts0 := atoms_spec (ws := mw ⟨"PromiseChains$Row", "takeTurned", "(LPromiseChains$Row;)V"⟩ prog_6_method_4_code 3 none) B.pre
  have hts : ∀ w ∈ tblG, w.before _ s = true := fun w h => hts0 w (List.mem_cons_of_mem _ h)
  have hown : s.vm.findClass "PromiseChains$Row" = some m.cls := findClass_of_methodNamed B.named
  have hlocks := B.notSynchronized
  subst hsz
  have hD := hD0.self (sz := s.heap.size)
  generalize hAe : va_A [(ko, .inr (6, [.int l0, .ref kp, .ref kf])), (kp, .inl (cI, 7, .inl (fun zy => nI (RA zy)))), (kf, .inl (cI, 7, .inl (fun zy => nI (RB zy)))), (jo, .inr (6, [.int (nI ln), .ref jp, .ref jf])), (jp, .inl (cI, 7, .inl (fun zy => nI (SA zy)))), (jf, .inl (cI, 7, .inl (fun zy => nI (SB zy))))] s.heap.size = A at hD ⊢
  have hA : ∀ q : Nat, s.heap.size ≤ q → A q := fun q h => by rw [← hAe]; exact Or.inr h
  have hS : va_S A s.heap s.heap [] := va_S.rf
  have hP : va_P D vwCl [(ko, .inr (6, [.int l0, .ref kp, .ref kf])), (kp, .inl (cI, 7, .inl (fun zy => nI (RA zy)))), (kf, .inl (cI, 7, .inl (fun zy => nI (RB zy)))), (jo, .inr (6, [.int (nI ln), .ref jp, .ref jf])), (jp, .inl (cI, 7, .inl (fun zy => nI (SA zy)))), (jf, .inl (cI, 7, .inl (fun zy => nI (SB zy))))] s.heap := hP
  have hl := lv_entry ([.ref ko, .ref jo]) (n := 3) (Nat.le_of_ble_eq_true rfl)
  rw [lg_entry_eq]
  generalize (lg_sl ([.ref ko, .ref jo]) ++ List.replicate (3 - (lg_sl ([.ref ko, .ref jo])).length) Slot.unset).toArray = ls at hl ⊢
  have hl : lv_has ls 3 [(0, .ref ko), (1, .ref jo)] := hl
  refine lv_aload_n hx hb d_RO_takeTurned_0 rfl (lv_at hl 0 rfl) ?_
  refine lv_aload_n hx hb d_RO_takeTurned_1 rfl (lv_at hl 1 rfl) ?_
  refine va_get (D := D) (ci := 6) (v := .int (nI ln)) (C := R_RO) (T := F_RO) (N := 3) hx hb hts i_RO hown hK hP 3 rfl rfl 0 (by decide) (hts _ q_171) (fun _ h9 => h9) rfl d_RO_takeTurned_2 ?_
  refine va_put (D := D) (ci := 6) (v := .int (nI ln)) (ty := .int) (C := R_RO) (T := F_RO) (N := 3) hx hb hts i_RO t_RO t_RO_ok n_RO hown hK hP hD hS 0 rfl rfl 0 (by decide) (hts _ q_171) (fun _ h9 => h9) rfl (by decide +kernel) rfl rfl (Nat.le_of_ble_eq_true rfl) d_RO_takeTurned_5 (fun H_1 locs hP hD hS => ?_)
  have hP : va_P D vwCl [(ko, .inr (6, [.int (nI ln), .ref kp, .ref kf])), (kp, .inl (cI, 7, .inl (fun zy => nI (RA zy)))), (kf, .inl (cI, 7, .inl (fun zy => nI (RB zy)))), (jo, .inr (6, [.int (nI ln), .ref jp, .ref jf])), (jp, .inl (cI, 7, .inl (fun zy => nI (SA zy)))), (jf, .inl (cI, 7, .inl (fun zy => nI (SB zy))))] H_1 := hP
  refine lv_iconst (v := 0) hx hb d_RO_takeTurned_8 (by decide) ?_
  refine lv_istore_n (lv' := [(2, .int 0), (0, .ref ko), (1, .ref jo)]) hx hb d_RO_takeTurned_9 rfl hl (by decide) rfl (fun ls hl => ?_)
  refine W_loop (σ := Nat) (I := fun xX H locs ls => xX ≤ ln ∧ va_P D vwCl [(ko, .inr (6, [.int (nI ln), .ref kp, .ref kf])), (kp, .inl (cI, 7, .inl (fun zy => nI ((cpN xX (fun zx => SA ((ln - 1) - zx)) RA) zy)))), (kf, .inl (cI, 7, .inl (fun zy => nI ((cpN xX (fun zx => SB ((ln - 1) - zx)) RB) zy)))), (jo, .inr (6, [.int (nI ln), .ref jp, .ref jf])), (jp, .inl (cI, 7, .inl (fun zy => nI (SA zy)))), (jf, .inl (cI, 7, .inl (fun zy => nI (SB zy))))] H ∧ va_D A [(ko, .inr (6, [.int (nI ln), .ref kp, .ref kf])), (kp, .inl (cI, 7, .inl (fun zy => nI ((cpN xX (fun zx => SA ((ln - 1) - zx)) RA) zy)))), (kf, .inl (cI, 7, .inl (fun zy => nI ((cpN xX (fun zx => SB ((ln - 1) - zx)) RB) zy)))), (jo, .inr (6, [.int (nI ln), .ref jp, .ref jf])), (jp, .inl (cI, 7, .inl (fun zy => nI (SA zy)))), (jf, .inl (cI, 7, .inl (fun zy => nI (SB zy))))] ∧ va_S A s.heap H locs ∧ lv_has ls 3 [(2, .int (nI xX)), (1, .ref jo), (0, .ref ko)]) (μ := fun xX => 8 - xX) ?_ 0 ⟨Nat.zero_le _, (by simp only [cpN_0]; exact hP), (by simp only [cpN_0]; exact hD), hS, lv_sub hl [0, 2, 1] rfl⟩
  intro i H_2 locs ls hI ih
  obtain ⟨hi, hP, hD, hS, hl⟩ := hI
  have hP : va_P D vwCl [(ko, .inr (6, [.int (nI ln), .ref kp, .ref kf])), (kp, .inl (cI, 7, .inl (fun zy => nI ((cpN i (fun zx => SA ((ln - 1) - zx)) RA) zy)))), (kf, .inl (cI, 7, .inl (fun zy => nI ((cpN i (fun zx => SB ((ln - 1) - zx)) RB) zy)))), (jo, .inr (6, [.int (nI ln), .ref jp, .ref jf])), (jp, .inl (cI, 7, .inl (fun zy => nI (SA zy)))), (jf, .inl (cI, 7, .inl (fun zy => nI (SB zy))))] H_2 := hP
  have hl : lv_has ls 3 [(2, .int (nI i)), (1, .ref jo), (0, .ref ko)] := hl
  refine lv_iload_n hx hb d_RO_takeTurned_10 rfl (lv_at hl 0 rfl) ?_
  refine lv_aload_n hx hb d_RO_takeTurned_11 rfl (lv_at hl 2 rfl) ?_
  refine va_get (D := D) (ci := 6) (v := .int (nI ln)) (C := R_RO) (T := F_RO) (N := 3) hx hb hts i_RO hown hK hP 0 rfl rfl 0 (by decide) (hts _ q_171) (fun _ h9 => h9) rfl d_RO_takeTurned_12 ?_
  refine lv_icmp_ge (tgt := 55) hx hb d_RO_takeTurned_15 (by decide) (fun h_3 => ?_) (fun h_3 => ?_)
  · have nh_3 : ln ≤ i := (nI_leI (a := ln) (b := i) (by omega) (by omega)).mp h_3
    have hie : i = ln := by omega
    rw [hie] at hP hD
    have hP : va_P D vwCl [(ko, .inr (6, [.int (nI ln), .ref kp, .ref kf])), (kp, .inl (cI, 7, .inl (fun zy => nI ((cpN ln (fun zx => SA ((ln - 1) - zx)) RA) zy)))), (kf, .inl (cI, 7, .inl (fun zy => nI ((cpN ln (fun zx => SB ((ln - 1) - zx)) RB) zy)))), (jo, .inr (6, [.int (nI ln), .ref jp, .ref jf])), (jp, .inl (cI, 7, .inl (fun zy => nI (SA zy)))), (jf, .inl (cI, 7, .inl (fun zy => nI (SB zy))))] H_2 := hP
    have hP9 := hP.sub (ws' := [(ko, .inr (6, [.int (nI ln), .ref kp, .ref kf])), (kp, .inl (cI, 7, .inl (fun zy => nI ((cpN ln (fun zx => SA ((ln - 1) - zx)) RA) zy)))), (kf, .inl (cI, 7, .inl (fun zy => nI ((cpN ln (fun zx => SB ((ln - 1) - zx)) RB) zy)))), (jo, .inr (6, [.int (nI ln), .ref jp, .ref jf])), (jp, .inl (cI, 7, .inl (fun zy => nI (SA zy)))), (jf, .inl (cI, 7, .inl (fun zy => nI (SB zy))))]) [0, 1, 2, 3, 4, 5] rfl
    have hD9 := hD.sub (ws' := [(ko, .inr (6, [.int (nI ln), .ref kp, .ref kf])), (kp, .inl (cI, 7, .inl (fun zy => nI ((cpN ln (fun zx => SA ((ln - 1) - zx)) RA) zy)))), (kf, .inl (cI, 7, .inl (fun zy => nI ((cpN ln (fun zx => SB ((ln - 1) - zx)) RB) zy)))), (jo, .inr (6, [.int (nI ln), .ref jp, .ref jf])), (jp, .inl (cI, 7, .inl (fun zy => nI (SA zy)))), (jf, .inl (cI, 7, .inl (fun zy => nI (SB zy))))]) [0, 1, 2, 3, 4, 5] (by decide +kernel) rfl
    refine W.widen (k := 0) (n := 0) (Nat.le_of_ble_eq_true rfl) (Nat.le_of_ble_eq_true rfl) ?_
    exact W.vret hx hb hr (fun tT ht hW => ⟨⟨(), rfl, trivial, by rw [ht]; exact hP9, hD9⟩, hS.F ht⟩) hS.2.2 d_RO_takeTurned_55
  · have nh_3 : ¬ ln ≤ i := fun qZ => h_3 ((nI_leI (a := ln) (b := i) (by omega) (by omega)).mpr qZ)
    refine lv_aload_n hx hb d_RO_takeTurned_18 rfl (lv_at hl 2 rfl) ?_
    refine lv_iload_n hx hb d_RO_takeTurned_19 rfl (lv_at hl 0 rfl) ?_
    refine lv_aload_n hx hb d_RO_takeTurned_20 rfl (lv_at hl 1 rfl) ?_
    refine va_get (D := D) (ci := 6) (v := .ref jp) (C := R_RO) (T := F_RO) (N := 3) hx hb hts i_RO hown hK hP 3 rfl rfl 1 (by decide) (hts _ q_176) (fun _ h9 => h9) rfl d_RO_takeTurned_21 ?_
    refine lv_aload_n hx hb d_RO_takeTurned_24 rfl (lv_at hl 2 rfl) ?_
    refine va_get (D := D) (ci := 6) (v := .int (nI ln)) (C := R_RO) (T := F_RO) (N := 3) hx hb hts i_RO hown hK hP 0 rfl rfl 0 (by decide) (hts _ q_171) (fun _ h9 => h9) rfl d_RO_takeTurned_25 ?_
    refine lv_iconst (v := 1) hx hb d_RO_takeTurned_28 (by decide) ?_
    refine lv_isub hx hb d_RO_takeTurned_29 ?_
    refine lv_seti (nI (ln - 1)) (pk_sub (a := ln) (b := 1) (by omega)) ?_
    refine lv_iload_n hx hb d_RO_takeTurned_30 rfl (lv_at hl 0 rfl) ?_
    refine lv_isub hx hb d_RO_takeTurned_31 ?_
    refine lv_seti (nI ((ln - 1) - i)) (pk_sub (a := (ln - 1)) (b := i) (by omega)) ?_
    refine my_ldN hx hb hK hP 4 rfl ((ln - 1) - i) rfl (by omega) (by decide) d_RO_takeTurned_32 ?_
    have hb_1 : SA ((ln - 1) - i) ≤ 11 := h_SA _
    refine lv_aload_n hx hb d_RO_takeTurned_33 rfl (lv_at hl 1 rfl) ?_
    refine va_get (D := D) (ci := 6) (v := .ref jf) (C := R_RO) (T := F_RO) (N := 3) hx hb hts i_RO hown hK hP 3 rfl rfl 2 (by decide) (hts _ q_180) (fun _ h9 => h9) rfl d_RO_takeTurned_34 ?_
    refine lv_aload_n hx hb d_RO_takeTurned_37 rfl (lv_at hl 2 rfl) ?_
    refine va_get (D := D) (ci := 6) (v := .int (nI ln)) (C := R_RO) (T := F_RO) (N := 3) hx hb hts i_RO hown hK hP 0 rfl rfl 0 (by decide) (hts _ q_171) (fun _ h9 => h9) rfl d_RO_takeTurned_38 ?_
    refine lv_iconst (v := 1) hx hb d_RO_takeTurned_41 (by decide) ?_
    refine lv_isub hx hb d_RO_takeTurned_42 ?_
    refine lv_seti (nI (ln - 1)) (pk_sub (a := ln) (b := 1) (by omega)) ?_
    refine lv_iload_n hx hb d_RO_takeTurned_43 rfl (lv_at hl 0 rfl) ?_
    refine lv_isub hx hb d_RO_takeTurned_44 ?_
    refine lv_seti (nI ((ln - 1) - i)) (pk_sub (a := (ln - 1)) (b := i) (by omega)) ?_
    refine my_ldN hx hb hK hP 5 rfl ((ln - 1) - i) rfl (by omega) (by decide) d_RO_takeTurned_45 ?_
    have hb_2 : SB ((ln - 1) - i) ≤ 1 := h_SB _
    have hPc := hP.sub (ws' := [(ko, .inr (6, [.int (nI ln), .ref kp, .ref kf])), (kp, .inl (cI, 7, .inl (fun zy => nI ((cpN i (fun zx => SA ((ln - 1) - zx)) RA) zy)))), (kf, .inl (cI, 7, .inl (fun zy => nI ((cpN i (fun zx => SB ((ln - 1) - zx)) RB) zy))))]) [0, 1, 2] rfl
    have hDc := hD.sub (ws' := [(ko, .inr (6, [.int (nI ln), .ref kp, .ref kf])), (kp, .inl (cI, 7, .inl (fun zy => nI ((cpN i (fun zx => SA ((ln - 1) - zx)) RA) zy)))), (kf, .inl (cI, 7, .inl (fun zy => nI ((cpN i (fun zx => SB ((ln - 1) - zx)) RB) zy))))]) [0, 1, 2] (by decide +kernel) rfl
    have hFc := va_free (wc := [(ko, .inr (6, [.int (nI ln), .ref kp, .ref kf])), (kp, .inl (cI, 7, .inl (fun zy => nI ((cpN i (fun zx => SA ((ln - 1) - zx)) RA) zy)))), (kf, .inl (cI, 7, .inl (fun zy => nI ((cpN i (fun zx => SB ((ln - 1) - zx)) RB) zy))))]) hD hS hA [0, 1, 2] rfl
    refine va_callv (va_runV (As := [.int (nI i), .int (nI (SA ((ln - 1) - i))), .int (nI (SB ((ln - 1) - i)))]) (rest := []) ⟨hx, hb, hml, hown, hts⟩ (e_RO_put l D cI cZ ko i (SA ((ln - 1) - i)) (SB ((ln - 1) - i)) (nI ln) kp kf (cpN i (fun zx => SA ((ln - 1) - zx)) RA) (cpN i (fun zx => SB ((ln - 1) - zx)) RB) H_2.size (by first | omega | (dsimp only; omega))) (my_cwV 3 hts q_403 q_412 q_401 q_402 q_6 rfl rfl (by decide +kernel) ⟨Nat.le_of_ble_eq_true rfl, Nat.le_of_ble_eq_true rfl⟩) (my_preV hPc hDc hK hN 6 0 rfl rfl) rfl rfl hl.1 rfl (lv_room (Nat.le_of_ble_eq_true rfl)) d_RO_takeTurned_46 ⟨Nat.le_of_ble_eq_true rfl, Nat.le_of_ble_eq_true rfl⟩) hS (fun q _ h => hFc q h) hFc (fun uU tT H_5 locs ht hvm hw_4 hB hz1 hk1 hS => ?_)
    obtain ⟨hP1, hD1⟩ := hB
    rw [ht] at hP1
    obtain ⟨hP, hD⟩ := va_join (wr := [(jo, .inr (6, [.int (nI ln), .ref jp, .ref jf])), (jp, .inl (cI, 7, .inl (fun zy => nI (SA zy)))), (jf, .inl (cI, 7, .inl (fun zy => nI (SB zy))))]) (w1 := [(ko, .inr (6, [.int (nI ln), .ref kp, .ref kf])), (kp, .inl (cI, 7, .inl (fun zy => nI ((upN (cpN i (fun zx => SA ((ln - 1) - zx)) RA) i (SA ((ln - 1) - i))) zy)))), (kf, .inl (cI, 7, .inl (fun zy => nI ((upN (cpN i (fun zx => SB ((ln - 1) - zx)) RB) i (SB ((ln - 1) - i))) zy))))]) hP hD [0, 1, 2] [3, 4, 5] rfl rfl (by decide +kernel) (by decide +kernel) hk1 hFc hP1 hD1
    have hP : va_P D vwCl [(jo, .inr (6, [.int (nI ln), .ref jp, .ref jf])), (jp, .inl (cI, 7, .inl (fun zy => nI (SA zy)))), (jf, .inl (cI, 7, .inl (fun zy => nI (SB zy)))), (ko, .inr (6, [.int (nI ln), .ref kp, .ref kf])), (kp, .inl (cI, 7, .inl (fun zy => nI ((upN (cpN i (fun zx => SA ((ln - 1) - zx)) RA) i (SA ((ln - 1) - i))) zy)))), (kf, .inl (cI, 7, .inl (fun zy => nI ((upN (cpN i (fun zx => SB ((ln - 1) - zx)) RB) i (SB ((ln - 1) - i))) zy))))] H_5 := hP
    refine lv_iinc (v := nI (i + 1)) (lv' := [(2, .int (nI (i + 1))), (1, .ref jo), (0, .ref ko)]) hx hb d_RO_takeTurned_49 hl (k := 0) rfl (nI_1 i) (by decide) rfl (fun ls hl => ?_)
    refine lv_goto (tgt := 10) hx hb d_RO_takeTurned_52 (by decide) ?_
    have hPz := hP.sub (ws' := [(ko, .inr (6, [.int (nI ln), .ref kp, .ref kf])), (kp, .inl (cI, 7, .inl (fun zy => nI ((upN (cpN i (fun zx => SA ((ln - 1) - zx)) RA) i (SA ((ln - 1) - i))) zy)))), (kf, .inl (cI, 7, .inl (fun zy => nI ((upN (cpN i (fun zx => SB ((ln - 1) - zx)) RB) i (SB ((ln - 1) - i))) zy)))), (jo, .inr (6, [.int (nI ln), .ref jp, .ref jf])), (jp, .inl (cI, 7, .inl (fun zy => nI (SA zy)))), (jf, .inl (cI, 7, .inl (fun zy => nI (SB zy))))]) [3, 4, 5, 0, 1, 2] rfl
    have hDz := hD.sub (ws' := [(ko, .inr (6, [.int (nI ln), .ref kp, .ref kf])), (kp, .inl (cI, 7, .inl (fun zy => nI ((upN (cpN i (fun zx => SA ((ln - 1) - zx)) RA) i (SA ((ln - 1) - i))) zy)))), (kf, .inl (cI, 7, .inl (fun zy => nI ((upN (cpN i (fun zx => SB ((ln - 1) - zx)) RB) i (SB ((ln - 1) - i))) zy)))), (jo, .inr (6, [.int (nI ln), .ref jp, .ref jf])), (jp, .inl (cI, 7, .inl (fun zy => nI (SA zy)))), (jf, .inl (cI, 7, .inl (fun zy => nI (SB zy))))]) [3, 4, 5, 0, 1, 2] (by decide) rfl
    rw [show upN (cpN i (fun zx => SA ((ln - 1) - zx)) RA) i (SA (ln - 1 - i)) = cpN (i + 1) (fun zx => SA ((ln - 1) - zx)) RA from cpN_s i (fun zx => SA ((ln - 1) - zx)) RA, show upN (cpN i (fun zx => SB ((ln - 1) - zx)) RB) i (SB (ln - 1 - i)) = cpN (i + 1) (fun zx => SB ((ln - 1) - zx)) RB from cpN_s i (fun zx => SB ((ln - 1) - zx)) RB] at hPz hDz
    exact ih (i + 1) _ _ _ (by first | omega | (dsimp only; omega)) ⟨(by first | omega | (dsimp only; omega)), hPz, hDz, hS, lv_sub hl [0, 1, 2] rfl⟩

set_option maxHeartbeats 4000000 in
set_option maxRecDepth 100000 in
theorem e_RO_isAhead (l : Launch) (D : va_G) (cI cZ : ClassId) (ko : Nat) (jo : Nat) (ln : Nat) (kp : Nat) (kf : Nat) (RA : Nat → Nat) (lm : Nat) (jp : Nat) (jf : Nat) (SA : Nat → Nat) (sz : Nat) (hln : ln ≤ 7) (hlm : lm ≤ 7) (h_RA : ∀ zz, RA zz ≤ 11) (h_SA : ∀ zz, SA zz ≤ 11) : Met l ⟨"PromiseChains$Row", "isAhead", "(LPromiseChains$Row;)Z"⟩ (mw ⟨"PromiseChains$Row", "isAhead", "(LPromiseChains$Row;)Z"⟩ prog_6_method_5_code 3 (some .boolean)) ({ frames := 0, cells := 0, slots := 0, locals := 0 }) (va_Pc [.ref ko, .ref jo] (PB D cI cZ sz [(ko, .inr (6, [.int (nI ln), .ref kp, .ref kf])), (kp, .inl (cI, 7, .inl (fun zy => nI (RA zy)))), (jo, .inr (6, [.int (nI lm), .ref jp, .ref jf])), (jp, .inl (cI, 7, .inl (fun zy => nI (SA zy))))])) (vp_Si (fun r => (¬ rowLt ln lm RA SA ∧ r = 0) ∨ (rowLt ln lm RA SA ∧ r = 1))) 0 0 (fun _ => False) := by
  refine Met.ofW (cc := prog_6_method_5_code) (maxL := 3) (ret := (some .boolean)) (by decide) rfl ?_
  intro p e s m args below meth c s₁ B hml hv
  obtain ⟨rfl, hsz, hP, hK, hD0, hN⟩ := hv
  have hx := B.exec
  have hb := B.bytes
  have hr := B.returns
  have hts0 := atoms_spec (ws := mw ⟨"PromiseChains$Row", "isAhead", "(LPromiseChains$Row;)Z"⟩ prog_6_method_5_code 3 (some .boolean)) B.pre
  have hts : ∀ w ∈ tblG, w.before _ s = true := fun w h => hts0 w (List.mem_cons_of_mem _ h)
  have hown : s.vm.findClass "PromiseChains$Row" = some m.cls := findClass_of_methodNamed B.named
  have hlocks := B.notSynchronized
  subst hsz
  have hD := hD0
  have hP : va_P D vwCl [(ko, .inr (6, [.int (nI ln), .ref kp, .ref kf])), (kp, .inl (cI, 7, .inl (fun zy => nI (RA zy)))), (jo, .inr (6, [.int (nI lm), .ref jp, .ref jf])), (jp, .inl (cI, 7, .inl (fun zy => nI (SA zy))))] s.heap := hP
  have hl := lv_entry ([.ref ko, .ref jo]) (n := 3) (Nat.le_of_ble_eq_true rfl)
  rw [lg_entry_eq]
  generalize (lg_sl ([.ref ko, .ref jo]) ++ List.replicate (3 - (lg_sl ([.ref ko, .ref jo])).length) Slot.unset).toArray = ls at hl ⊢
  have hl : lv_has ls 3 [(0, .ref ko), (1, .ref jo)] := hl
  refine lv_aload_n hx hb d_RO_isAhead_0 rfl (lv_at hl 0 rfl) ?_
  refine va_get (D := D) (ci := 6) (v := .int (nI ln)) (C := R_RO) (T := F_RO) (N := 3) hx hb hts i_RO hown hK hP 0 rfl rfl 0 (by decide) (hts _ q_171) (fun _ h9 => h9) rfl d_RO_isAhead_1 ?_
  refine lv_aload_n hx hb d_RO_isAhead_4 rfl (lv_at hl 1 rfl) ?_
  refine va_get (D := D) (ci := 6) (v := .int (nI lm)) (C := R_RO) (T := F_RO) (N := 3) hx hb hts i_RO hown hK hP 2 rfl rfl 0 (by decide) (hts _ q_171) (fun _ h9 => h9) rfl d_RO_isAhead_5 ?_
  refine lv_icmp_eq (tgt := 28) hx hb d_RO_isAhead_8 (by decide) (fun h_1 => ?_) (fun h_1 => ?_)
  · have nh_1 : ln = lm := (nI_eq (a := ln) (b := lm) (by omega) (by omega)).mp h_1
    refine lv_iconst (v := 0) hx hb d_RO_isAhead_28 (by decide) ?_
    refine lv_istore_n (lv' := [(2, .int 0), (0, .ref ko), (1, .ref jo)]) hx hb d_RO_isAhead_29 rfl hl (by decide) rfl (fun ls hl => ?_)
    refine W_loop (σ := Nat) (I := fun xX H locs ls => xX ≤ ln ∧ (∀ zz, zz < xX → RA zz = SA zz) ∧ H = s.heap ∧ locs = [] ∧ lv_has ls 3 [(2, .int (nI xX)), (1, .ref jo), (0, .ref ko)]) (μ := fun xX => 8 - xX) ?_ 0 ⟨Nat.zero_le _, fun _ h => absurd h (Nat.not_lt_zero _), rfl, rfl, lv_sub hl [0, 2, 1] rfl⟩
    intro i H locs ls hI ih
    obtain ⟨hi, hrow, rfl, rfl, hl⟩ := hI
    have hl : lv_has ls 3 [(2, .int (nI i)), (1, .ref jo), (0, .ref ko)] := hl
    refine lv_iload_n hx hb d_RO_isAhead_30 rfl (lv_at hl 0 rfl) ?_
    refine lv_aload_n hx hb d_RO_isAhead_31 rfl (lv_at hl 2 rfl) ?_
    refine va_get (D := D) (ci := 6) (v := .int (nI ln)) (C := R_RO) (T := F_RO) (N := 3) hx hb hts i_RO hown hK hP 0 rfl rfl 0 (by decide) (hts _ q_171) (fun _ h9 => h9) rfl d_RO_isAhead_32 ?_
    refine lv_icmp_ge (tgt := 80) hx hb d_RO_isAhead_35 (by decide) (fun h_2 => ?_) (fun h_2 => ?_)
    · have nh_2 : ln ≤ i := (nI_leI (a := ln) (b := i) (by omega) (by omega)).mp h_2
      refine lv_iconst (v := 0) hx hb d_RO_isAhead_80 (by decide) ?_
      exact W.zret (v := 0) hx hb hr rfl (fun tT ht hW => ⟨0, rfl, (Or.inl (⟨(rl_n3 (by omega) (fun zz hz => hrow zz (by omega))), rfl⟩)), ht⟩) (fun q h => absurd h List.not_mem_nil) d_RO_isAhead_81
    · have nh_2 : ¬ ln ≤ i := fun qZ => h_2 ((nI_leI (a := ln) (b := i) (by omega) (by omega)).mpr qZ)
      refine lv_aload_n hx hb d_RO_isAhead_38 rfl (lv_at hl 2 rfl) ?_
      refine va_get (D := D) (ci := 6) (v := .ref kp) (C := R_RO) (T := F_RO) (N := 3) hx hb hts i_RO hown hK hP 0 rfl rfl 1 (by decide) (hts _ q_176) (fun _ h9 => h9) rfl d_RO_isAhead_39 ?_
      refine lv_iload_n hx hb d_RO_isAhead_42 rfl (lv_at hl 0 rfl) ?_
      refine my_ldN hx hb hK hP 1 rfl i rfl (by omega) (by decide) d_RO_isAhead_43 ?_
      have hb_1 : RA i ≤ 11 := h_RA _
      refine lv_aload_n hx hb d_RO_isAhead_44 rfl (lv_at hl 1 rfl) ?_
      refine va_get (D := D) (ci := 6) (v := .ref jp) (C := R_RO) (T := F_RO) (N := 3) hx hb hts i_RO hown hK hP 2 rfl rfl 1 (by decide) (hts _ q_176) (fun _ h9 => h9) rfl d_RO_isAhead_45 ?_
      refine lv_iload_n hx hb d_RO_isAhead_48 rfl (lv_at hl 0 rfl) ?_
      refine my_ldN hx hb hK hP 3 rfl i rfl (by omega) (by decide) d_RO_isAhead_49 ?_
      have hb_2 : SA i ≤ 11 := h_SA _
      refine lv_icmp_eq (tgt := 74) hx hb d_RO_isAhead_50 (by decide) (fun h_3 => ?_) (fun h_3 => ?_)
      · have nh_3 : (RA i) = (SA i) := (nI_eq (a := (RA i)) (b := (SA i)) (by omega) (by omega)).mp h_3
        refine lv_iinc (v := nI (i + 1)) (lv' := [(2, .int (nI (i + 1))), (1, .ref jo), (0, .ref ko)]) hx hb d_RO_isAhead_74 hl (k := 0) rfl (nI_1 i) (by decide) rfl (fun ls hl => ?_)
        refine lv_goto (tgt := 30) hx hb d_RO_isAhead_77 (by decide) ?_
        exact ih (i + 1) _ _ _ (by first | omega | (dsimp only; omega)) ⟨(by first | omega | (dsimp only; omega)), all_s hrow (by omega), rfl, rfl, lv_sub hl [0, 1, 2] rfl⟩
      · have nh_3 : ¬ (RA i) = (SA i) := fun qZ => h_3 ((nI_eq (a := (RA i)) (b := (SA i)) (by omega) (by omega)).mpr qZ)
        refine lv_aload_n hx hb d_RO_isAhead_53 rfl (lv_at hl 2 rfl) ?_
        refine va_get (D := D) (ci := 6) (v := .ref kp) (C := R_RO) (T := F_RO) (N := 3) hx hb hts i_RO hown hK hP 0 rfl rfl 1 (by decide) (hts _ q_176) (fun _ h9 => h9) rfl d_RO_isAhead_54 ?_
        refine lv_iload_n hx hb d_RO_isAhead_57 rfl (lv_at hl 0 rfl) ?_
        refine my_ldN hx hb hK hP 1 rfl i rfl (by omega) (by decide) d_RO_isAhead_58 ?_
        have hb_3 : RA i ≤ 11 := h_RA _
        refine lv_aload_n hx hb d_RO_isAhead_59 rfl (lv_at hl 1 rfl) ?_
        refine va_get (D := D) (ci := 6) (v := .ref jp) (C := R_RO) (T := F_RO) (N := 3) hx hb hts i_RO hown hK hP 2 rfl rfl 1 (by decide) (hts _ q_176) (fun _ h9 => h9) rfl d_RO_isAhead_60 ?_
        refine lv_iload_n hx hb d_RO_isAhead_63 rfl (lv_at hl 0 rfl) ?_
        refine my_ldN hx hb hK hP 3 rfl i rfl (by omega) (by decide) d_RO_isAhead_64 ?_
        have hb_4 : SA i ≤ 11 := h_SA _
        refine lv_icmp_ge (tgt := 72) hx hb d_RO_isAhead_65 (by decide) (fun h_4 => ?_) (fun h_4 => ?_)
        · have nh_4 : (SA i) ≤ (RA i) := (nI_leI (a := (SA i)) (b := (RA i)) (by omega) (by omega)).mp h_4
          refine lv_iconst (v := 0) hx hb d_RO_isAhead_72 (by decide) ?_
          exact W.zret (v := 0) hx hb hr rfl (fun tT ht hW => ⟨0, rfl, (Or.inl (⟨(rl_n2 (by omega) hrow (by omega) (by omega)), rfl⟩)), ht⟩) (fun q h => absurd h List.not_mem_nil) d_RO_isAhead_73
        · have nh_4 : ¬ (SA i) ≤ (RA i) := fun qZ => h_4 ((nI_leI (a := (SA i)) (b := (RA i)) (by omega) (by omega)).mpr qZ)
          refine lv_iconst (v := 1) hx hb d_RO_isAhead_68 (by decide) ?_
          refine lv_goto (tgt := 73) hx hb d_RO_isAhead_69 (by decide) ?_
          exact W.zret (v := 1) hx hb hr rfl (fun tT ht hW => ⟨1, rfl, (Or.inr (⟨(Or.inr ⟨by omega, i, by omega, hrow, by omega⟩), rfl⟩)), ht⟩) (fun q h => absurd h List.not_mem_nil) d_RO_isAhead_73
  · have nh_1 : ¬ ln = lm := fun qZ => h_1 ((nI_eq (a := ln) (b := lm) (by omega) (by omega)).mpr qZ)
    refine lv_aload_n hx hb d_RO_isAhead_11 rfl (lv_at hl 0 rfl) ?_
    refine va_get (D := D) (ci := 6) (v := .int (nI ln)) (C := R_RO) (T := F_RO) (N := 3) hx hb hts i_RO hown hK hP 0 rfl rfl 0 (by decide) (hts _ q_171) (fun _ h9 => h9) rfl d_RO_isAhead_12 ?_
    refine lv_aload_n hx hb d_RO_isAhead_15 rfl (lv_at hl 1 rfl) ?_
    refine va_get (D := D) (ci := 6) (v := .int (nI lm)) (C := R_RO) (T := F_RO) (N := 3) hx hb hts i_RO hown hK hP 2 rfl rfl 0 (by decide) (hts _ q_171) (fun _ h9 => h9) rfl d_RO_isAhead_16 ?_
    refine lv_icmp_ge (tgt := 26) hx hb d_RO_isAhead_19 (by decide) (fun h_5 => ?_) (fun h_5 => ?_)
    · have nh_5 : lm ≤ ln := (nI_leI (a := lm) (b := ln) (by omega) (by omega)).mp h_5
      refine lv_iconst (v := 0) hx hb d_RO_isAhead_26 (by decide) ?_
      exact W.zret (v := 0) hx hb hr rfl (fun tT ht hW => ⟨0, rfl, (Or.inl (⟨(rl_n1 (by omega) (by omega)), rfl⟩)), ht⟩) (fun q h => absurd h List.not_mem_nil) d_RO_isAhead_27
    · have nh_5 : ¬ lm ≤ ln := fun qZ => h_5 ((nI_leI (a := lm) (b := ln) (by omega) (by omega)).mpr qZ)
      refine lv_iconst (v := 1) hx hb d_RO_isAhead_22 (by decide) ?_
      refine lv_goto (tgt := 27) hx hb d_RO_isAhead_23 (by decide) ?_
      exact W.zret (v := 1) hx hb hr rfl (fun tT ht hW => ⟨1, rfl, (Or.inr (⟨(Or.inl (by omega)), rfl⟩)), ht⟩) (fun q h => absurd h List.not_mem_nil) d_RO_isAhead_27

set_option maxHeartbeats 4000000 in
set_option maxRecDepth 100000 in
theorem e_WS_begin (l : Launch) (D : va_G) (cI cZ : ClassId) (w0 : Nat) (ss : Nat) (dd : Nat) (wst : Int32) (wbc : Int32) (w1 : Nat) (w2 : Nat) (w5 : Nat) (w8 : Nat) (WM : Nat → Int32) (bl : Nat) (w9 : Nat) (w10 : Nat) (sz : Nat) (h_bl : bl ≤ 6) (hdd : dd < 7) : Met l ⟨"PromiseChains$WaySearch", "begin", "(II)V"⟩ (mw ⟨"PromiseChains$WaySearch", "begin", "(II)V"⟩ prog_7_method_2_code 4 none) ({ frames := 0, cells := 0, slots := 0, locals := 0 }) (va_Pc [.ref w0, .int (nI ss), .int (nI dd)] (PB D cI cZ sz [(w0, .inr (4, [.int wst, .int wbc, .ref w1, .ref w2, .ref w5, .ref w8])), (w1, .inl (cZ, 7, .inl WM)), (w8, .inr (6, [.int (nI bl), .ref w9, .ref w10]))])) (va_Qv (S := (Nat → Int32)) (fun uU => uU = mkM dd 7 WM) (fun uU tT => BB D (va_A [(w0, .inr (4, [.int wst, .int wbc, .ref w1, .ref w2, .ref w5, .ref w8])), (w1, .inl (cZ, 7, .inl WM)), (w8, .inr (6, [.int (nI bl), .ref w9, .ref w10]))] sz) [(w0, .inr (4, [.int (nI ss), .int wbc, .ref w1, .ref w2, .ref w5, .ref w8])), (w1, .inl (cZ, 7, .inl (uU))), (w8, .inr (6, [.int 0, .ref w9, .ref w10]))] tT) (va_A [(w0, .inr (4, [.int wst, .int wbc, .ref w1, .ref w2, .ref w5, .ref w8])), (w1, .inl (cZ, 7, .inl WM)), (w8, .inr (6, [.int (nI bl), .ref w9, .ref w10]))] sz)) 0 0 (va_A [(w0, .inr (4, [.int wst, .int wbc, .ref w1, .ref w2, .ref w5, .ref w8])), (w1, .inl (cZ, 7, .inl WM)), (w8, .inr (6, [.int (nI bl), .ref w9, .ref w10]))] sz) := by
  refine Met.ofW (cc := prog_7_method_2_code) (maxL := 4) (ret := none) (by decide) rfl ?_
  intro p e s m args below meth c s₁ B hml hv
  obtain ⟨rfl, hsz, hP, hK, hD0, hN⟩ := hv
  have hx := B.exec
  have hb := B.bytes
  have hr := B.returns
  have hts0 := atoms_spec (ws := mw ⟨"PromiseChains$WaySearch", "begin", "(II)V"⟩ prog_7_method_2_code 4 none) B.pre
  have hts : ∀ w ∈ tblG, w.before _ s = true := fun w h => hts0 w (List.mem_cons_of_mem _ h)
  have hown : s.vm.findClass "PromiseChains$WaySearch" = some m.cls := findClass_of_methodNamed B.named
  have hlocks := B.notSynchronized
  subst hsz
  have hD := hD0.self (sz := s.heap.size)
  generalize hAe : va_A [(w0, .inr (4, [.int wst, .int wbc, .ref w1, .ref w2, .ref w5, .ref w8])), (w1, .inl (cZ, 7, .inl WM)), (w8, .inr (6, [.int (nI bl), .ref w9, .ref w10]))] s.heap.size = A at hD ⊢
  have hA : ∀ q : Nat, s.heap.size ≤ q → A q := fun q h => by rw [← hAe]; exact Or.inr h
  have hS : va_S A s.heap s.heap [] := va_S.rf
  have hP : va_P D vwCl [(w0, .inr (4, [.int wst, .int wbc, .ref w1, .ref w2, .ref w5, .ref w8])), (w1, .inl (cZ, 7, .inl WM)), (w8, .inr (6, [.int (nI bl), .ref w9, .ref w10]))] s.heap := hP
  have hl := lv_entry ([.ref w0, .int (nI ss), .int (nI dd)]) (n := 4) (Nat.le_of_ble_eq_true rfl)
  rw [lg_entry_eq]
  generalize (lg_sl ([.ref w0, .int (nI ss), .int (nI dd)]) ++ List.replicate (4 - (lg_sl ([.ref w0, .int (nI ss), .int (nI dd)])).length) Slot.unset).toArray = ls at hl ⊢
  have hl : lv_has ls 4 [(0, .ref w0), (1, .int (nI ss)), (2, .int (nI dd))] := hl
  refine lv_aload_n hx hb d_WS_begin_0 rfl (lv_at hl 0 rfl) ?_
  refine lv_iload_n hx hb d_WS_begin_1 rfl (lv_at hl 1 rfl) ?_
  refine va_put (D := D) (ci := 4) (v := .int (nI ss)) (ty := .int) (C := R_WS) (T := F_WS) (N := 6) hx hb hts i_WS t_WS t_WS_ok n_WS hown hK hP hD hS 0 rfl rfl 0 (by decide) (hts _ q_190) (fun _ h9 => h9) rfl (by decide +kernel) rfl rfl (Nat.le_of_ble_eq_true rfl) d_WS_begin_2 (fun H_1 locs hP hD hS => ?_)
  have hP : va_P D vwCl [(w0, .inr (4, [.int (nI ss), .int wbc, .ref w1, .ref w2, .ref w5, .ref w8])), (w1, .inl (cZ, 7, .inl WM)), (w8, .inr (6, [.int (nI bl), .ref w9, .ref w10]))] H_1 := hP
  refine lv_aload_n hx hb d_WS_begin_5 rfl (lv_at hl 0 rfl) ?_
  refine va_get (D := D) (ci := 4) (v := .ref w8) (C := R_WS) (T := F_WS) (N := 6) hx hb hts i_WS hown hK hP 0 rfl rfl 5 (by decide) (hts _ q_199) (fun _ h9 => h9) rfl d_WS_begin_6 ?_
  refine lv_iconst (v := 0) hx hb d_WS_begin_9 (by decide) ?_
  refine va_put (D := D) (ci := 6) (v := .int 0) (ty := .int) (C := R_RO) (T := F_RO) (N := 3) hx hb hts i_RO t_RO t_RO_ok n_RO hown hK hP hD hS 2 rfl rfl 0 (by decide) (hts _ q_172) (fun _ h9 => h9) rfl (by decide +kernel) rfl rfl (Nat.le_of_ble_eq_true rfl) d_WS_begin_10 (fun H_2 locs hP hD hS => ?_)
  have hP : va_P D vwCl [(w0, .inr (4, [.int (nI ss), .int wbc, .ref w1, .ref w2, .ref w5, .ref w8])), (w1, .inl (cZ, 7, .inl WM)), (w8, .inr (6, [.int 0, .ref w9, .ref w10]))] H_2 := hP
  refine lv_iconst (v := 0) hx hb d_WS_begin_13 (by decide) ?_
  refine lv_istore_n (lv' := [(3, .int 0), (0, .ref w0), (1, .int (nI ss)), (2, .int (nI dd))]) hx hb d_WS_begin_14 rfl hl (by decide) rfl (fun ls hl => ?_)
  refine W_loop (σ := Nat × (Nat → Int32)) (I := fun xX H locs ls => xX.1 ≤ 7 ∧ xX.2 = mkM dd xX.1 WM ∧ va_P D vwCl [(w0, .inr (4, [.int (nI ss), .int wbc, .ref w1, .ref w2, .ref w5, .ref w8])), (w1, .inl (cZ, 7, .inl xX.2)), (w8, .inr (6, [.int 0, .ref w9, .ref w10]))] H ∧ va_D A [(w0, .inr (4, [.int (nI ss), .int wbc, .ref w1, .ref w2, .ref w5, .ref w8])), (w1, .inl (cZ, 7, .inl xX.2)), (w8, .inr (6, [.int 0, .ref w9, .ref w10]))] ∧ va_S A s.heap H locs ∧ lv_has ls 4 [(3, .int (nI xX.1)), (2, .int (nI dd)), (1, .int (nI ss)), (0, .ref w0)]) (μ := fun xX => 8 - xX.1) ?_ (0, WM) ⟨(by first | omega | (dsimp only; omega)), (mkM_0 _ _), hP, hD, hS, lv_sub hl [0, 3, 2, 1] rfl⟩
  intro xX H_3 locs ls hI ih1
  obtain ⟨i_l, WM_1⟩ := xX
  obtain ⟨hi, hm, hP, hD, hS, hl⟩ := hI
  have hP : va_P D vwCl [(w0, .inr (4, [.int (nI ss), .int wbc, .ref w1, .ref w2, .ref w5, .ref w8])), (w1, .inl (cZ, 7, .inl WM_1)), (w8, .inr (6, [.int 0, .ref w9, .ref w10]))] H_3 := hP
  have hl : lv_has ls 4 [(3, .int (nI i_l)), (2, .int (nI dd)), (1, .int (nI ss)), (0, .ref w0)] := hl
  have hi : i_l ≤ 7 := hi
  have hm : WM_1 = mkM dd i_l WM := hm
  refine lv_iload_n hx hb d_WS_begin_15 rfl (lv_at hl 0 rfl) ?_
  refine lv_bipush (v := 7) hx hb d_WS_begin_16 (by decide) ?_
  refine lv_icmp_ge (tgt := 43) hx hb d_WS_begin_18 (by decide) (fun h_4 => ?_) (fun h_4 => ?_)
  · have nh_4 : 7 ≤ i_l := (nI_leI (a := 7) (b := i_l) (by omega) (by omega)).mp h_4
    have hP9 := hP.sub (ws' := [(w0, .inr (4, [.int (nI ss), .int wbc, .ref w1, .ref w2, .ref w5, .ref w8])), (w1, .inl (cZ, 7, .inl WM_1)), (w8, .inr (6, [.int 0, .ref w9, .ref w10]))]) [0, 1, 2] rfl
    have hD9 := hD.sub (ws' := [(w0, .inr (4, [.int (nI ss), .int wbc, .ref w1, .ref w2, .ref w5, .ref w8])), (w1, .inl (cZ, 7, .inl WM_1)), (w8, .inr (6, [.int 0, .ref w9, .ref w10]))]) [0, 1, 2] (by decide +kernel) rfl
    refine W.widen (k := 0) (n := 0) (Nat.le_of_ble_eq_true rfl) (Nat.le_of_ble_eq_true rfl) ?_
    exact W.vret hx hb hr (fun tT ht hW => ⟨⟨WM_1, rfl, (by rw [← show i_l = 7 by omega]; exact hm), by rw [ht]; exact hP9, hD9⟩, hS.F ht⟩) hS.2.2 d_WS_begin_43
  · have nh_4 : ¬ 7 ≤ i_l := fun qZ => h_4 ((nI_leI (a := 7) (b := i_l) (by omega) (by omega)).mpr qZ)
    refine lv_aload_n hx hb d_WS_begin_21 rfl (lv_at hl 3 rfl) ?_
    refine va_get (D := D) (ci := 4) (v := .ref w1) (C := R_WS) (T := F_WS) (N := 6) hx hb hts i_WS hown hK hP 0 rfl rfl 2 (by decide) (hts _ q_194) (fun _ h9 => h9) rfl d_WS_begin_22 ?_
    refine lv_iload_n hx hb d_WS_begin_25 rfl (lv_at hl 0 rfl) ?_
    refine lv_iload_n hx hb d_WS_begin_26 rfl (lv_at hl 0 rfl) ?_
    refine lv_iload_n hx hb d_WS_begin_27 rfl (lv_at hl 1 rfl) ?_
    refine lv_icmp_ne (tgt := 35) hx hb d_WS_begin_28 (by decide) (fun h_5 => ?_) (fun h_5 => ?_)
    · have nh_5 : ¬ i_l = dd := fun qZ => h_5 ((nI_eq (a := i_l) (b := dd) (by omega) (by omega)).mpr qZ)
      refine lv_iconst (v := 0) hx hb d_WS_begin_35 (by decide) ?_
      refine my_stZ hx hb hK hP hD hS 1 rfl i_l 0 rfl rfl (by omega) (by decide) d_WS_begin_36 (fun H_6 locs hP hD hS => ?_)
      have hP : va_P D vwCl [(w0, .inr (4, [.int (nI ss), .int wbc, .ref w1, .ref w2, .ref w5, .ref w8])), (w1, .inl (cZ, 7, .inl (upd WM_1 i_l 0))), (w8, .inr (6, [.int 0, .ref w9, .ref w10]))] H_6 := hP
      refine lv_iinc (v := nI (i_l + 1)) (lv' := [(3, .int (nI (i_l + 1))), (2, .int (nI dd)), (1, .int (nI ss)), (0, .ref w0)]) hx hb d_WS_begin_37 hl (k := 0) rfl (nI_1 i_l) (by decide) rfl (fun ls hl => ?_)
      refine lv_goto (tgt := 15) hx hb d_WS_begin_40 (by decide) ?_
      have hPz := hP.sub (ws' := [(w0, .inr (4, [.int (nI ss), .int wbc, .ref w1, .ref w2, .ref w5, .ref w8])), (w1, .inl (cZ, 7, .inl (upd WM_1 i_l 0))), (w8, .inr (6, [.int 0, .ref w9, .ref w10]))]) [0, 1, 2] rfl
      have hDz := hD.sub (ws' := [(w0, .inr (4, [.int (nI ss), .int wbc, .ref w1, .ref w2, .ref w5, .ref w8])), (w1, .inl (cZ, 7, .inl (upd WM_1 i_l 0))), (w8, .inr (6, [.int 0, .ref w9, .ref w10]))]) [0, 1, 2] (by decide) rfl
      exact ih1 ((i_l + 1), (upd WM_1 i_l 0)) _ _ _ (by first | omega | (dsimp only; omega)) ⟨(by first | omega | (dsimp only; omega)), (mkM_n hm nh_5), hPz, hDz, hS, lv_sub hl [0, 1, 2, 3] rfl⟩
    · have nh_5 : i_l = dd := (nI_eq (a := i_l) (b := dd) (by omega) (by omega)).mp h_5
      refine lv_iconst (v := 1) hx hb d_WS_begin_31 (by decide) ?_
      refine lv_goto (tgt := 36) hx hb d_WS_begin_32 (by decide) ?_
      refine my_stZ hx hb hK hP hD hS 1 rfl i_l 1 rfl rfl (by omega) (by decide) d_WS_begin_36 (fun H_7 locs hP hD hS => ?_)
      have hP : va_P D vwCl [(w0, .inr (4, [.int (nI ss), .int wbc, .ref w1, .ref w2, .ref w5, .ref w8])), (w1, .inl (cZ, 7, .inl (upd WM_1 i_l 1))), (w8, .inr (6, [.int 0, .ref w9, .ref w10]))] H_7 := hP
      refine lv_iinc (v := nI (i_l + 1)) (lv' := [(3, .int (nI (i_l + 1))), (2, .int (nI dd)), (1, .int (nI ss)), (0, .ref w0)]) hx hb d_WS_begin_37 hl (k := 0) rfl (nI_1 i_l) (by decide) rfl (fun ls hl => ?_)
      refine lv_goto (tgt := 15) hx hb d_WS_begin_40 (by decide) ?_
      have hPz := hP.sub (ws' := [(w0, .inr (4, [.int (nI ss), .int wbc, .ref w1, .ref w2, .ref w5, .ref w8])), (w1, .inl (cZ, 7, .inl (upd WM_1 i_l 1))), (w8, .inr (6, [.int 0, .ref w9, .ref w10]))]) [0, 1, 2] rfl
      have hDz := hD.sub (ws' := [(w0, .inr (4, [.int (nI ss), .int wbc, .ref w1, .ref w2, .ref w5, .ref w8])), (w1, .inl (cZ, 7, .inl (upd WM_1 i_l 1))), (w8, .inr (6, [.int 0, .ref w9, .ref w10]))]) [0, 1, 2] (by decide) rfl
      exact ih1 ((i_l + 1), (upd WM_1 i_l 1)) _ _ _ (by first | omega | (dsimp only; omega)) ⟨(by first | omega | (dsimp only; omega)), (mkM_y hm nh_5), hPz, hDz, hS, lv_sub hl [0, 1, 2, 3] rfl⟩

set_option maxHeartbeats 4000000 in
set_option maxRecDepth 100000 in
theorem e_WS_offer (l : Launch) (D : va_G) (cI cZ : ClassId) (w0 : Nat) (ln : Nat) (v : Int32) (wst : Int32) (wbc : Int32) (w1 : Nat) (w2 : Nat) (w5 : Nat) (w8 : Nat) (wbl : Int32) (w3 : Nat) (w4 : Nat) (BKP : Nat → Nat) (BKF : Nat → Nat) (wtl : Int32) (w6 : Nat) (w7 : Nat) (TUP : Nat → Nat) (TUF : Nat → Nat) (bl : Nat) (w9 : Nat) (w10 : Nat) (BEP : Nat → Nat) (BEF : Nat → Nat) (sz : Nat) (h_BKP : ∀ zz, BKP zz ≤ 11) (h_BKF : ∀ zz, BKF zz ≤ 1) (h_TUP : ∀ zz, TUP zz ≤ 11) (h_TUF : ∀ zz, TUF zz ≤ 1) (h_bl : bl ≤ 6) (h_BEP : ∀ zz, BEP zz ≤ 11) (h_BEF : ∀ zz, BEF zz ≤ 1) (hln : ln ≤ 6) : Met l ⟨"PromiseChains$WaySearch", "offer", "(II)V"⟩ (mw ⟨"PromiseChains$WaySearch", "offer", "(II)V"⟩ prog_7_method_3_code 3 none) ({ frames := 2, cells := 0, slots := 0, locals := 45 }) (va_Pc [.ref w0, .int (nI ln), .int v] (PB D cI cZ sz [(w0, .inr (4, [.int wst, .int wbc, .ref w1, .ref w2, .ref w5, .ref w8])), (w2, .inr (6, [.int wbl, .ref w3, .ref w4])), (w3, .inl (cI, 7, .inl (fun zy => nI (BKP zy)))), (w4, .inl (cI, 7, .inl (fun zy => nI (BKF zy)))), (w5, .inr (6, [.int wtl, .ref w6, .ref w7])), (w6, .inl (cI, 7, .inl (fun zy => nI (TUP zy)))), (w7, .inl (cI, 7, .inl (fun zy => nI (TUF zy)))), (w8, .inr (6, [.int (nI bl), .ref w9, .ref w10])), (w9, .inl (cI, 7, .inl (fun zy => nI (BEP zy)))), (w10, .inl (cI, 7, .inl (fun zy => nI (BEF zy))))])) (va_Qv (S := Int32 × Nat × (Nat → Nat) × (Nat → Nat) × (Nat → Nat) × (Nat → Nat)) (fun uU => (uU.2.1 ≤ 6) ∧ (∀ zz, uU.2.2.1 zz ≤ 11) ∧ (∀ zz, uU.2.2.2.1 zz ≤ 1) ∧ (∀ zz, uU.2.2.2.2.1 zz ≤ 11) ∧ (∀ zz, uU.2.2.2.2.2 zz ≤ 1) ∧ (WOff ln v BKP BKF bl wbc BEP BEF uU.2.1 uU.1 uU.2.2.2.2.1 uU.2.2.2.2.2)) (fun uU tT => BB D (va_A [(w0, .inr (4, [.int wst, .int wbc, .ref w1, .ref w2, .ref w5, .ref w8])), (w2, .inr (6, [.int wbl, .ref w3, .ref w4])), (w3, .inl (cI, 7, .inl (fun zy => nI (BKP zy)))), (w4, .inl (cI, 7, .inl (fun zy => nI (BKF zy)))), (w5, .inr (6, [.int wtl, .ref w6, .ref w7])), (w6, .inl (cI, 7, .inl (fun zy => nI (TUP zy)))), (w7, .inl (cI, 7, .inl (fun zy => nI (TUF zy)))), (w8, .inr (6, [.int (nI bl), .ref w9, .ref w10])), (w9, .inl (cI, 7, .inl (fun zy => nI (BEP zy)))), (w10, .inl (cI, 7, .inl (fun zy => nI (BEF zy))))] sz) [(w0, .inr (4, [.int wst, .int (uU.1), .ref w1, .ref w2, .ref w5, .ref w8])), (w2, .inr (6, [.int (nI ln), .ref w3, .ref w4])), (w3, .inl (cI, 7, .inl (fun zy => nI (BKP zy)))), (w4, .inl (cI, 7, .inl (fun zy => nI (BKF zy)))), (w5, .inr (6, [.int (nI ln), .ref w6, .ref w7])), (w6, .inl (cI, 7, .inl (fun zy => nI ((uU.2.2.1) zy)))), (w7, .inl (cI, 7, .inl (fun zy => nI ((uU.2.2.2.1) zy)))), (w8, .inr (6, [.int (nI uU.2.1), .ref w9, .ref w10])), (w9, .inl (cI, 7, .inl (fun zy => nI ((uU.2.2.2.2.1) zy)))), (w10, .inl (cI, 7, .inl (fun zy => nI ((uU.2.2.2.2.2) zy))))] tT) (va_A [(w0, .inr (4, [.int wst, .int wbc, .ref w1, .ref w2, .ref w5, .ref w8])), (w2, .inr (6, [.int wbl, .ref w3, .ref w4])), (w3, .inl (cI, 7, .inl (fun zy => nI (BKP zy)))), (w4, .inl (cI, 7, .inl (fun zy => nI (BKF zy)))), (w5, .inr (6, [.int wtl, .ref w6, .ref w7])), (w6, .inl (cI, 7, .inl (fun zy => nI (TUP zy)))), (w7, .inl (cI, 7, .inl (fun zy => nI (TUF zy)))), (w8, .inr (6, [.int (nI bl), .ref w9, .ref w10])), (w9, .inl (cI, 7, .inl (fun zy => nI (BEP zy)))), (w10, .inl (cI, 7, .inl (fun zy => nI (BEF zy))))] sz)) 0 0 (va_A [(w0, .inr (4, [.int wst, .int wbc, .ref w1, .ref w2, .ref w5, .ref w8])), (w2, .inr (6, [.int wbl, .ref w3, .ref w4])), (w3, .inl (cI, 7, .inl (fun zy => nI (BKP zy)))), (w4, .inl (cI, 7, .inl (fun zy => nI (BKF zy)))), (w5, .inr (6, [.int wtl, .ref w6, .ref w7])), (w6, .inl (cI, 7, .inl (fun zy => nI (TUP zy)))), (w7, .inl (cI, 7, .inl (fun zy => nI (TUF zy)))), (w8, .inr (6, [.int (nI bl), .ref w9, .ref w10])), (w9, .inl (cI, 7, .inl (fun zy => nI (BEP zy)))), (w10, .inl (cI, 7, .inl (fun zy => nI (BEF zy))))] sz) := by
  refine Met.ofW (cc := prog_7_method_3_code) (maxL := 3) (ret := none) (by decide) rfl ?_
  intro p e s m args below meth c s₁ B hml hv
  obtain ⟨rfl, hsz, hP, hK, hD0, hN⟩ := hv
  have hx := B.exec
  have hb := B.bytes
  have hr := B.returns
  have hts0 := atoms_spec (ws := mw ⟨"PromiseChains$WaySearch", "offer", "(II)V"⟩ prog_7_method_3_code 3 none) B.pre
  have hts : ∀ w ∈ tblG, w.before _ s = true := fun w h => hts0 w (List.mem_cons_of_mem _ h)
  have hown : s.vm.findClass "PromiseChains$WaySearch" = some m.cls := findClass_of_methodNamed B.named
  have hlocks := B.notSynchronized
  subst hsz
  have hD := hD0.self (sz := s.heap.size)
  generalize hAe : va_A [(w0, .inr (4, [.int wst, .int wbc, .ref w1, .ref w2, .ref w5, .ref w8])), (w2, .inr (6, [.int wbl, .ref w3, .ref w4])), (w3, .inl (cI, 7, .inl (fun zy => nI (BKP zy)))), (w4, .inl (cI, 7, .inl (fun zy => nI (BKF zy)))), (w5, .inr (6, [.int wtl, .ref w6, .ref w7])), (w6, .inl (cI, 7, .inl (fun zy => nI (TUP zy)))), (w7, .inl (cI, 7, .inl (fun zy => nI (TUF zy)))), (w8, .inr (6, [.int (nI bl), .ref w9, .ref w10])), (w9, .inl (cI, 7, .inl (fun zy => nI (BEP zy)))), (w10, .inl (cI, 7, .inl (fun zy => nI (BEF zy))))] s.heap.size = A at hD ⊢
  have hA : ∀ q : Nat, s.heap.size ≤ q → A q := fun q h => by rw [← hAe]; exact Or.inr h
  have hS : va_S A s.heap s.heap [] := va_S.rf
  have hP : va_P D vwCl [(w0, .inr (4, [.int wst, .int wbc, .ref w1, .ref w2, .ref w5, .ref w8])), (w2, .inr (6, [.int wbl, .ref w3, .ref w4])), (w3, .inl (cI, 7, .inl (fun zy => nI (BKP zy)))), (w4, .inl (cI, 7, .inl (fun zy => nI (BKF zy)))), (w5, .inr (6, [.int wtl, .ref w6, .ref w7])), (w6, .inl (cI, 7, .inl (fun zy => nI (TUP zy)))), (w7, .inl (cI, 7, .inl (fun zy => nI (TUF zy)))), (w8, .inr (6, [.int (nI bl), .ref w9, .ref w10])), (w9, .inl (cI, 7, .inl (fun zy => nI (BEP zy)))), (w10, .inl (cI, 7, .inl (fun zy => nI (BEF zy))))] s.heap := hP
  have hl := lv_entry ([.ref w0, .int (nI ln), .int v]) (n := 3) (Nat.le_of_ble_eq_true rfl)
  rw [lg_entry_eq]
  generalize (lg_sl ([.ref w0, .int (nI ln), .int v]) ++ List.replicate (3 - (lg_sl ([.ref w0, .int (nI ln), .int v])).length) Slot.unset).toArray = ls at hl ⊢
  have hl : lv_has ls 3 [(0, .ref w0), (1, .int (nI ln)), (2, .int v)] := hl
  refine lv_aload_n hx hb d_WS_offer_0 rfl (lv_at hl 0 rfl) ?_
  refine va_get (D := D) (ci := 4) (v := .ref w2) (C := R_WS) (T := F_WS) (N := 6) hx hb hts i_WS hown hK hP 0 rfl rfl 3 (by decide) (hts _ q_196) (fun _ h9 => h9) rfl d_WS_offer_1 ?_
  refine lv_iload_n hx hb d_WS_offer_4 rfl (lv_at hl 1 rfl) ?_
  refine va_put (D := D) (ci := 6) (v := .int (nI ln)) (ty := .int) (C := R_RO) (T := F_RO) (N := 3) hx hb hts i_RO t_RO t_RO_ok n_RO hown hK hP hD hS 1 rfl rfl 0 (by decide) (hts _ q_172) (fun _ h9 => h9) rfl (by decide +kernel) rfl rfl (Nat.le_of_ble_eq_true rfl) d_WS_offer_5 (fun H_1 locs hP hD hS => ?_)
  have hP : va_P D vwCl [(w0, .inr (4, [.int wst, .int wbc, .ref w1, .ref w2, .ref w5, .ref w8])), (w2, .inr (6, [.int (nI ln), .ref w3, .ref w4])), (w3, .inl (cI, 7, .inl (fun zy => nI (BKP zy)))), (w4, .inl (cI, 7, .inl (fun zy => nI (BKF zy)))), (w5, .inr (6, [.int wtl, .ref w6, .ref w7])), (w6, .inl (cI, 7, .inl (fun zy => nI (TUP zy)))), (w7, .inl (cI, 7, .inl (fun zy => nI (TUF zy)))), (w8, .inr (6, [.int (nI bl), .ref w9, .ref w10])), (w9, .inl (cI, 7, .inl (fun zy => nI (BEP zy)))), (w10, .inl (cI, 7, .inl (fun zy => nI (BEF zy))))] H_1 := hP
  refine lv_aload_n hx hb d_WS_offer_8 rfl (lv_at hl 0 rfl) ?_
  refine va_get (D := D) (ci := 4) (v := .ref w5) (C := R_WS) (T := F_WS) (N := 6) hx hb hts i_WS hown hK hP 0 rfl rfl 4 (by decide) (hts _ q_198) (fun _ h9 => h9) rfl d_WS_offer_9 ?_
  refine lv_aload_n hx hb d_WS_offer_12 rfl (lv_at hl 0 rfl) ?_
  refine va_get (D := D) (ci := 4) (v := .ref w2) (C := R_WS) (T := F_WS) (N := 6) hx hb hts i_WS hown hK hP 0 rfl rfl 3 (by decide) (hts _ q_196) (fun _ h9 => h9) rfl d_WS_offer_13 ?_
  have hPc := hP.sub (ws' := [(w5, .inr (6, [.int wtl, .ref w6, .ref w7])), (w6, .inl (cI, 7, .inl (fun zy => nI (TUP zy)))), (w7, .inl (cI, 7, .inl (fun zy => nI (TUF zy)))), (w2, .inr (6, [.int (nI ln), .ref w3, .ref w4])), (w3, .inl (cI, 7, .inl (fun zy => nI (BKP zy)))), (w4, .inl (cI, 7, .inl (fun zy => nI (BKF zy))))]) [4, 5, 6, 1, 2, 3] rfl
  have hDc := hD.sub (ws' := [(w5, .inr (6, [.int wtl, .ref w6, .ref w7])), (w6, .inl (cI, 7, .inl (fun zy => nI (TUP zy)))), (w7, .inl (cI, 7, .inl (fun zy => nI (TUF zy)))), (w2, .inr (6, [.int (nI ln), .ref w3, .ref w4])), (w3, .inl (cI, 7, .inl (fun zy => nI (BKP zy)))), (w4, .inl (cI, 7, .inl (fun zy => nI (BKF zy))))]) [4, 5, 6, 1, 2, 3] (by decide +kernel) rfl
  have hFc := va_free (wc := [(w5, .inr (6, [.int wtl, .ref w6, .ref w7])), (w6, .inl (cI, 7, .inl (fun zy => nI (TUP zy)))), (w7, .inl (cI, 7, .inl (fun zy => nI (TUF zy)))), (w2, .inr (6, [.int (nI ln), .ref w3, .ref w4])), (w3, .inl (cI, 7, .inl (fun zy => nI (BKP zy)))), (w4, .inl (cI, 7, .inl (fun zy => nI (BKF zy))))]) hD hS hA [4, 5, 6, 1, 2, 3] rfl
  refine va_callv (va_runV (As := [.ref w2]) (rest := []) ⟨hx, hb, hml, hown, hts⟩ (e_RO_takeTurned l D cI cZ w5 w2 wtl w6 w7 TUP TUF ln w3 w4 BKP BKF H_1.size (by first | omega | (dsimp only; omega)) h_BKP h_BKF) (my_cwV 1 hts q_411 q_408 q_409 q_410 q_6 rfl rfl (by decide +kernel) ⟨Nat.le_of_ble_eq_true rfl, Nat.le_of_ble_eq_true rfl⟩) (my_preV hPc hDc hK hN 6 0 rfl rfl) rfl rfl hl.1 rfl (lv_room (Nat.le_of_ble_eq_true rfl)) d_WS_offer_16 ⟨Nat.le_of_ble_eq_true rfl, Nat.le_of_ble_eq_true rfl⟩) hS (fun q _ h => hFc q h) hFc (fun uU tT H_3 locs ht hvm hw_2 hB hz1 hk1 hS => ?_)
  obtain ⟨hP1, hD1⟩ := hB
  rw [ht] at hP1
  obtain ⟨hP, hD⟩ := va_join (wr := [(w0, .inr (4, [.int wst, .int wbc, .ref w1, .ref w2, .ref w5, .ref w8])), (w8, .inr (6, [.int (nI bl), .ref w9, .ref w10])), (w9, .inl (cI, 7, .inl (fun zy => nI (BEP zy)))), (w10, .inl (cI, 7, .inl (fun zy => nI (BEF zy))))]) (w1 := [(w5, .inr (6, [.int (nI ln), .ref w6, .ref w7])), (w6, .inl (cI, 7, .inl (fun zy => nI ((cpN ln (fun zx => BKP ((ln - 1) - zx)) TUP) zy)))), (w7, .inl (cI, 7, .inl (fun zy => nI ((cpN ln (fun zx => BKF ((ln - 1) - zx)) TUF) zy)))), (w2, .inr (6, [.int (nI ln), .ref w3, .ref w4])), (w3, .inl (cI, 7, .inl (fun zy => nI (BKP zy)))), (w4, .inl (cI, 7, .inl (fun zy => nI (BKF zy))))]) hP hD [4, 5, 6, 1, 2, 3] [0, 7, 8, 9] rfl rfl (by decide +kernel) (by decide +kernel) hk1 hFc hP1 hD1
  have hP : va_P D vwCl [(w0, .inr (4, [.int wst, .int wbc, .ref w1, .ref w2, .ref w5, .ref w8])), (w8, .inr (6, [.int (nI bl), .ref w9, .ref w10])), (w9, .inl (cI, 7, .inl (fun zy => nI (BEP zy)))), (w10, .inl (cI, 7, .inl (fun zy => nI (BEF zy)))), (w5, .inr (6, [.int (nI ln), .ref w6, .ref w7])), (w6, .inl (cI, 7, .inl (fun zy => nI ((cpN ln (fun zx => BKP ((ln - 1) - zx)) TUP) zy)))), (w7, .inl (cI, 7, .inl (fun zy => nI ((cpN ln (fun zx => BKF ((ln - 1) - zx)) TUF) zy)))), (w2, .inr (6, [.int (nI ln), .ref w3, .ref w4])), (w3, .inl (cI, 7, .inl (fun zy => nI (BKP zy)))), (w4, .inl (cI, 7, .inl (fun zy => nI (BKF zy))))] H_3 := hP
  refine lv_aload_n hx hb d_WS_offer_19 rfl (lv_at hl 0 rfl) ?_
  refine va_get (D := D) (ci := 4) (v := .ref w8) (C := R_WS) (T := F_WS) (N := 6) hx hb hts i_WS hown hK hP 0 rfl rfl 5 (by decide) (hts _ q_199) (fun _ h9 => h9) rfl d_WS_offer_20 ?_
  refine va_get (D := D) (ci := 6) (v := .int (nI bl)) (C := R_RO) (T := F_RO) (N := 3) hx hb hts i_RO hown hK hP 1 rfl rfl 0 (by decide) (hts _ q_172) (fun _ h9 => h9) rfl d_WS_offer_23 ?_
  refine lv_if_eq (tgt := 59) hx hb d_WS_offer_26 (by decide) (fun h_4 => ?_) (fun h_4 => ?_)
  · have nh_4 : bl = 0 := (nI_eq (a := bl) (b := 0) (by omega) (by omega)).mp h_4
    refine lv_aload_n hx hb d_WS_offer_59 rfl (lv_at hl 0 rfl) ?_
    refine va_get (D := D) (ci := 4) (v := .ref w8) (C := R_WS) (T := F_WS) (N := 6) hx hb hts i_WS hown hK hP 0 rfl rfl 5 (by decide) (hts _ q_199) (fun _ h9 => h9) rfl d_WS_offer_60 ?_
    refine lv_aload_n hx hb d_WS_offer_63 rfl (lv_at hl 0 rfl) ?_
    refine va_get (D := D) (ci := 4) (v := .ref w5) (C := R_WS) (T := F_WS) (N := 6) hx hb hts i_WS hown hK hP 0 rfl rfl 4 (by decide) (hts _ q_198) (fun _ h9 => h9) rfl d_WS_offer_64 ?_
    have hPc := hP.sub (ws' := [(w8, .inr (6, [.int (nI bl), .ref w9, .ref w10])), (w9, .inl (cI, 7, .inl (fun zy => nI (BEP zy)))), (w10, .inl (cI, 7, .inl (fun zy => nI (BEF zy)))), (w5, .inr (6, [.int (nI ln), .ref w6, .ref w7])), (w6, .inl (cI, 7, .inl (fun zy => nI ((cpN ln (fun zx => BKP ((ln - 1) - zx)) TUP) zy)))), (w7, .inl (cI, 7, .inl (fun zy => nI ((cpN ln (fun zx => BKF ((ln - 1) - zx)) TUF) zy))))]) [1, 2, 3, 4, 5, 6] rfl
    have hDc := hD.sub (ws' := [(w8, .inr (6, [.int (nI bl), .ref w9, .ref w10])), (w9, .inl (cI, 7, .inl (fun zy => nI (BEP zy)))), (w10, .inl (cI, 7, .inl (fun zy => nI (BEF zy)))), (w5, .inr (6, [.int (nI ln), .ref w6, .ref w7])), (w6, .inl (cI, 7, .inl (fun zy => nI ((cpN ln (fun zx => BKP ((ln - 1) - zx)) TUP) zy)))), (w7, .inl (cI, 7, .inl (fun zy => nI ((cpN ln (fun zx => BKF ((ln - 1) - zx)) TUF) zy))))]) [1, 2, 3, 4, 5, 6] (by decide +kernel) rfl
    have hFc := va_free (wc := [(w8, .inr (6, [.int (nI bl), .ref w9, .ref w10])), (w9, .inl (cI, 7, .inl (fun zy => nI (BEP zy)))), (w10, .inl (cI, 7, .inl (fun zy => nI (BEF zy)))), (w5, .inr (6, [.int (nI ln), .ref w6, .ref w7])), (w6, .inl (cI, 7, .inl (fun zy => nI ((cpN ln (fun zx => BKP ((ln - 1) - zx)) TUP) zy)))), (w7, .inl (cI, 7, .inl (fun zy => nI ((cpN ln (fun zx => BKF ((ln - 1) - zx)) TUF) zy))))]) hD hS hA [1, 2, 3, 4, 5, 6] rfl
    refine va_callv (va_runV (As := [.ref w5]) (rest := []) ⟨hx, hb, hml, hown, hts⟩ (e_RO_take l D cI cZ w8 w5 (nI bl) w9 w10 BEP BEF ln w6 w7 (cpN ln (fun zx => BKP ((ln - 1) - zx)) TUP) (cpN ln (fun zx => BKF ((ln - 1) - zx)) TUF) H_3.size (by first | omega | (dsimp only; omega)) (cpN_le (fun zx => h_BKP _) h_TUP) (cpN_le (fun zx => h_BKF _) h_TUF)) (my_cwV 1 hts q_420 q_417 q_418 q_419 q_6 rfl rfl (by decide +kernel) ⟨Nat.le_of_ble_eq_true rfl, Nat.le_of_ble_eq_true rfl⟩) (my_preV hPc hDc hK hN 6 0 rfl rfl) rfl rfl hl.1 rfl (lv_room (Nat.le_of_ble_eq_true rfl)) d_WS_offer_67 ⟨Nat.le_of_ble_eq_true rfl, Nat.le_of_ble_eq_true rfl⟩) hS (fun q _ h => hFc q h) hFc (fun uU tT H_6 locs ht hvm hw_5 hB hz1 hk1 hS => ?_)
    obtain ⟨hP1, hD1⟩ := hB
    rw [ht] at hP1
    obtain ⟨hP, hD⟩ := va_join (wr := [(w0, .inr (4, [.int wst, .int wbc, .ref w1, .ref w2, .ref w5, .ref w8])), (w2, .inr (6, [.int (nI ln), .ref w3, .ref w4])), (w3, .inl (cI, 7, .inl (fun zy => nI (BKP zy)))), (w4, .inl (cI, 7, .inl (fun zy => nI (BKF zy))))]) (w1 := [(w8, .inr (6, [.int (nI ln), .ref w9, .ref w10])), (w9, .inl (cI, 7, .inl (fun zy => nI ((cpN ln (cpN ln (fun zx => BKP ((ln - 1) - zx)) TUP) BEP) zy)))), (w10, .inl (cI, 7, .inl (fun zy => nI ((cpN ln (cpN ln (fun zx => BKF ((ln - 1) - zx)) TUF) BEF) zy)))), (w5, .inr (6, [.int (nI ln), .ref w6, .ref w7])), (w6, .inl (cI, 7, .inl (fun zy => nI ((cpN ln (fun zx => BKP ((ln - 1) - zx)) TUP) zy)))), (w7, .inl (cI, 7, .inl (fun zy => nI ((cpN ln (fun zx => BKF ((ln - 1) - zx)) TUF) zy))))]) hP hD [1, 2, 3, 4, 5, 6] [0, 7, 8, 9] rfl rfl (by decide +kernel) (by decide +kernel) hk1 hFc hP1 hD1
    have hP : va_P D vwCl [(w0, .inr (4, [.int wst, .int wbc, .ref w1, .ref w2, .ref w5, .ref w8])), (w2, .inr (6, [.int (nI ln), .ref w3, .ref w4])), (w3, .inl (cI, 7, .inl (fun zy => nI (BKP zy)))), (w4, .inl (cI, 7, .inl (fun zy => nI (BKF zy)))), (w8, .inr (6, [.int (nI ln), .ref w9, .ref w10])), (w9, .inl (cI, 7, .inl (fun zy => nI ((cpN ln (cpN ln (fun zx => BKP ((ln - 1) - zx)) TUP) BEP) zy)))), (w10, .inl (cI, 7, .inl (fun zy => nI ((cpN ln (cpN ln (fun zx => BKF ((ln - 1) - zx)) TUF) BEF) zy)))), (w5, .inr (6, [.int (nI ln), .ref w6, .ref w7])), (w6, .inl (cI, 7, .inl (fun zy => nI ((cpN ln (fun zx => BKP ((ln - 1) - zx)) TUP) zy)))), (w7, .inl (cI, 7, .inl (fun zy => nI ((cpN ln (fun zx => BKF ((ln - 1) - zx)) TUF) zy))))] H_6 := hP
    refine lv_aload_n hx hb d_WS_offer_70 rfl (lv_at hl 0 rfl) ?_
    refine lv_iload_n hx hb d_WS_offer_71 rfl (lv_at hl 2 rfl) ?_
    refine va_put (D := D) (ci := 4) (v := .int v) (ty := .int) (C := R_WS) (T := F_WS) (N := 6) hx hb hts i_WS t_WS t_WS_ok n_WS hown hK hP hD hS 0 rfl rfl 1 (by decide) (hts _ q_192) (fun _ h9 => h9) rfl (by decide +kernel) rfl rfl (Nat.le_of_ble_eq_true rfl) d_WS_offer_72 (fun H_7 locs hP hD hS => ?_)
    have hP : va_P D vwCl [(w0, .inr (4, [.int wst, .int v, .ref w1, .ref w2, .ref w5, .ref w8])), (w2, .inr (6, [.int (nI ln), .ref w3, .ref w4])), (w3, .inl (cI, 7, .inl (fun zy => nI (BKP zy)))), (w4, .inl (cI, 7, .inl (fun zy => nI (BKF zy)))), (w8, .inr (6, [.int (nI ln), .ref w9, .ref w10])), (w9, .inl (cI, 7, .inl (fun zy => nI ((cpN ln (cpN ln (fun zx => BKP ((ln - 1) - zx)) TUP) BEP) zy)))), (w10, .inl (cI, 7, .inl (fun zy => nI ((cpN ln (cpN ln (fun zx => BKF ((ln - 1) - zx)) TUF) BEF) zy)))), (w5, .inr (6, [.int (nI ln), .ref w6, .ref w7])), (w6, .inl (cI, 7, .inl (fun zy => nI ((cpN ln (fun zx => BKP ((ln - 1) - zx)) TUP) zy)))), (w7, .inl (cI, 7, .inl (fun zy => nI ((cpN ln (fun zx => BKF ((ln - 1) - zx)) TUF) zy))))] H_7 := hP
    have hP9 := hP.sub (ws' := [(w0, .inr (4, [.int wst, .int v, .ref w1, .ref w2, .ref w5, .ref w8])), (w2, .inr (6, [.int (nI ln), .ref w3, .ref w4])), (w3, .inl (cI, 7, .inl (fun zy => nI (BKP zy)))), (w4, .inl (cI, 7, .inl (fun zy => nI (BKF zy)))), (w5, .inr (6, [.int (nI ln), .ref w6, .ref w7])), (w6, .inl (cI, 7, .inl (fun zy => nI ((cpN ln (fun zx => BKP ((ln - 1) - zx)) TUP) zy)))), (w7, .inl (cI, 7, .inl (fun zy => nI ((cpN ln (fun zx => BKF ((ln - 1) - zx)) TUF) zy)))), (w8, .inr (6, [.int (nI ln), .ref w9, .ref w10])), (w9, .inl (cI, 7, .inl (fun zy => nI ((cpN ln (cpN ln (fun zx => BKP ((ln - 1) - zx)) TUP) BEP) zy)))), (w10, .inl (cI, 7, .inl (fun zy => nI ((cpN ln (cpN ln (fun zx => BKF ((ln - 1) - zx)) TUF) BEF) zy))))]) [0, 1, 2, 3, 7, 8, 9, 4, 5, 6] rfl
    have hD9 := hD.sub (ws' := [(w0, .inr (4, [.int wst, .int v, .ref w1, .ref w2, .ref w5, .ref w8])), (w2, .inr (6, [.int (nI ln), .ref w3, .ref w4])), (w3, .inl (cI, 7, .inl (fun zy => nI (BKP zy)))), (w4, .inl (cI, 7, .inl (fun zy => nI (BKF zy)))), (w5, .inr (6, [.int (nI ln), .ref w6, .ref w7])), (w6, .inl (cI, 7, .inl (fun zy => nI ((cpN ln (fun zx => BKP ((ln - 1) - zx)) TUP) zy)))), (w7, .inl (cI, 7, .inl (fun zy => nI ((cpN ln (fun zx => BKF ((ln - 1) - zx)) TUF) zy)))), (w8, .inr (6, [.int (nI ln), .ref w9, .ref w10])), (w9, .inl (cI, 7, .inl (fun zy => nI ((cpN ln (cpN ln (fun zx => BKP ((ln - 1) - zx)) TUP) BEP) zy)))), (w10, .inl (cI, 7, .inl (fun zy => nI ((cpN ln (cpN ln (fun zx => BKF ((ln - 1) - zx)) TUF) BEF) zy))))]) [0, 1, 2, 3, 7, 8, 9, 4, 5, 6] (by decide +kernel) rfl
    refine W.widen (k := 0) (n := 0) (Nat.le_of_ble_eq_true rfl) (Nat.le_of_ble_eq_true rfl) ?_
    exact W.vret hx hb hr (fun tT ht hW => ⟨⟨(v, ln, (cpN ln (fun zx => BKP ((ln - 1) - zx)) TUP), (cpN ln (fun zx => BKF ((ln - 1) - zx)) TUF), (cpN ln (cpN ln (fun zx => BKP ((ln - 1) - zx)) TUP) BEP), (cpN ln (cpN ln (fun zx => BKF ((ln - 1) - zx)) TUF) BEF)), rfl, ⟨hln, (cpN_le (fun zx => h_BKP _) h_TUP), (cpN_le (fun zx => h_BKF _) h_TUF), (cpN_le (cpN_le (fun zx => h_BKP _) h_TUP) h_BEP), (cpN_le (cpN_le (fun zx => h_BKF _) h_TUF) h_BEF), (woff_y (Or.inl nh_4))⟩, by rw [ht]; exact hP9, hD9⟩, hS.F ht⟩) hS.2.2 d_WS_offer_75
  · have nh_4 : ¬ bl = 0 := fun qZ => h_4 ((nI_eq (a := bl) (b := 0) (by omega) (by omega)).mpr qZ)
    refine lv_iload_n hx hb d_WS_offer_29 rfl (lv_at hl 2 rfl) ?_
    refine lv_aload_n hx hb d_WS_offer_30 rfl (lv_at hl 0 rfl) ?_
    refine va_get (D := D) (ci := 4) (v := .int wbc) (C := R_WS) (T := F_WS) (N := 6) hx hb hts i_WS hown hK hP 0 rfl rfl 1 (by decide) (hts _ q_192) (fun _ h9 => h9) rfl d_WS_offer_31 ?_
    refine lv_icmp_lt (tgt := 59) hx hb d_WS_offer_34 (by decide) (fun h_8 => ?_) (fun h_8 => ?_)
    · refine lv_aload_n hx hb d_WS_offer_59 rfl (lv_at hl 0 rfl) ?_
      refine va_get (D := D) (ci := 4) (v := .ref w8) (C := R_WS) (T := F_WS) (N := 6) hx hb hts i_WS hown hK hP 0 rfl rfl 5 (by decide) (hts _ q_199) (fun _ h9 => h9) rfl d_WS_offer_60 ?_
      refine lv_aload_n hx hb d_WS_offer_63 rfl (lv_at hl 0 rfl) ?_
      refine va_get (D := D) (ci := 4) (v := .ref w5) (C := R_WS) (T := F_WS) (N := 6) hx hb hts i_WS hown hK hP 0 rfl rfl 4 (by decide) (hts _ q_198) (fun _ h9 => h9) rfl d_WS_offer_64 ?_
      have hPc := hP.sub (ws' := [(w8, .inr (6, [.int (nI bl), .ref w9, .ref w10])), (w9, .inl (cI, 7, .inl (fun zy => nI (BEP zy)))), (w10, .inl (cI, 7, .inl (fun zy => nI (BEF zy)))), (w5, .inr (6, [.int (nI ln), .ref w6, .ref w7])), (w6, .inl (cI, 7, .inl (fun zy => nI ((cpN ln (fun zx => BKP ((ln - 1) - zx)) TUP) zy)))), (w7, .inl (cI, 7, .inl (fun zy => nI ((cpN ln (fun zx => BKF ((ln - 1) - zx)) TUF) zy))))]) [1, 2, 3, 4, 5, 6] rfl
      have hDc := hD.sub (ws' := [(w8, .inr (6, [.int (nI bl), .ref w9, .ref w10])), (w9, .inl (cI, 7, .inl (fun zy => nI (BEP zy)))), (w10, .inl (cI, 7, .inl (fun zy => nI (BEF zy)))), (w5, .inr (6, [.int (nI ln), .ref w6, .ref w7])), (w6, .inl (cI, 7, .inl (fun zy => nI ((cpN ln (fun zx => BKP ((ln - 1) - zx)) TUP) zy)))), (w7, .inl (cI, 7, .inl (fun zy => nI ((cpN ln (fun zx => BKF ((ln - 1) - zx)) TUF) zy))))]) [1, 2, 3, 4, 5, 6] (by decide +kernel) rfl
      have hFc := va_free (wc := [(w8, .inr (6, [.int (nI bl), .ref w9, .ref w10])), (w9, .inl (cI, 7, .inl (fun zy => nI (BEP zy)))), (w10, .inl (cI, 7, .inl (fun zy => nI (BEF zy)))), (w5, .inr (6, [.int (nI ln), .ref w6, .ref w7])), (w6, .inl (cI, 7, .inl (fun zy => nI ((cpN ln (fun zx => BKP ((ln - 1) - zx)) TUP) zy)))), (w7, .inl (cI, 7, .inl (fun zy => nI ((cpN ln (fun zx => BKF ((ln - 1) - zx)) TUF) zy))))]) hD hS hA [1, 2, 3, 4, 5, 6] rfl
      refine va_callv (va_runV (As := [.ref w5]) (rest := []) ⟨hx, hb, hml, hown, hts⟩ (e_RO_take l D cI cZ w8 w5 (nI bl) w9 w10 BEP BEF ln w6 w7 (cpN ln (fun zx => BKP ((ln - 1) - zx)) TUP) (cpN ln (fun zx => BKF ((ln - 1) - zx)) TUF) H_3.size (by first | omega | (dsimp only; omega)) (cpN_le (fun zx => h_BKP _) h_TUP) (cpN_le (fun zx => h_BKF _) h_TUF)) (my_cwV 1 hts q_420 q_417 q_418 q_419 q_6 rfl rfl (by decide +kernel) ⟨Nat.le_of_ble_eq_true rfl, Nat.le_of_ble_eq_true rfl⟩) (my_preV hPc hDc hK hN 6 0 rfl rfl) rfl rfl hl.1 rfl (lv_room (Nat.le_of_ble_eq_true rfl)) d_WS_offer_67 ⟨Nat.le_of_ble_eq_true rfl, Nat.le_of_ble_eq_true rfl⟩) hS (fun q _ h => hFc q h) hFc (fun uU tT H_10 locs ht hvm hw_9 hB hz1 hk1 hS => ?_)
      obtain ⟨hP1, hD1⟩ := hB
      rw [ht] at hP1
      obtain ⟨hP, hD⟩ := va_join (wr := [(w0, .inr (4, [.int wst, .int wbc, .ref w1, .ref w2, .ref w5, .ref w8])), (w2, .inr (6, [.int (nI ln), .ref w3, .ref w4])), (w3, .inl (cI, 7, .inl (fun zy => nI (BKP zy)))), (w4, .inl (cI, 7, .inl (fun zy => nI (BKF zy))))]) (w1 := [(w8, .inr (6, [.int (nI ln), .ref w9, .ref w10])), (w9, .inl (cI, 7, .inl (fun zy => nI ((cpN ln (cpN ln (fun zx => BKP ((ln - 1) - zx)) TUP) BEP) zy)))), (w10, .inl (cI, 7, .inl (fun zy => nI ((cpN ln (cpN ln (fun zx => BKF ((ln - 1) - zx)) TUF) BEF) zy)))), (w5, .inr (6, [.int (nI ln), .ref w6, .ref w7])), (w6, .inl (cI, 7, .inl (fun zy => nI ((cpN ln (fun zx => BKP ((ln - 1) - zx)) TUP) zy)))), (w7, .inl (cI, 7, .inl (fun zy => nI ((cpN ln (fun zx => BKF ((ln - 1) - zx)) TUF) zy))))]) hP hD [1, 2, 3, 4, 5, 6] [0, 7, 8, 9] rfl rfl (by decide +kernel) (by decide +kernel) hk1 hFc hP1 hD1
      have hP : va_P D vwCl [(w0, .inr (4, [.int wst, .int wbc, .ref w1, .ref w2, .ref w5, .ref w8])), (w2, .inr (6, [.int (nI ln), .ref w3, .ref w4])), (w3, .inl (cI, 7, .inl (fun zy => nI (BKP zy)))), (w4, .inl (cI, 7, .inl (fun zy => nI (BKF zy)))), (w8, .inr (6, [.int (nI ln), .ref w9, .ref w10])), (w9, .inl (cI, 7, .inl (fun zy => nI ((cpN ln (cpN ln (fun zx => BKP ((ln - 1) - zx)) TUP) BEP) zy)))), (w10, .inl (cI, 7, .inl (fun zy => nI ((cpN ln (cpN ln (fun zx => BKF ((ln - 1) - zx)) TUF) BEF) zy)))), (w5, .inr (6, [.int (nI ln), .ref w6, .ref w7])), (w6, .inl (cI, 7, .inl (fun zy => nI ((cpN ln (fun zx => BKP ((ln - 1) - zx)) TUP) zy)))), (w7, .inl (cI, 7, .inl (fun zy => nI ((cpN ln (fun zx => BKF ((ln - 1) - zx)) TUF) zy))))] H_10 := hP
      refine lv_aload_n hx hb d_WS_offer_70 rfl (lv_at hl 0 rfl) ?_
      refine lv_iload_n hx hb d_WS_offer_71 rfl (lv_at hl 2 rfl) ?_
      refine va_put (D := D) (ci := 4) (v := .int v) (ty := .int) (C := R_WS) (T := F_WS) (N := 6) hx hb hts i_WS t_WS t_WS_ok n_WS hown hK hP hD hS 0 rfl rfl 1 (by decide) (hts _ q_192) (fun _ h9 => h9) rfl (by decide +kernel) rfl rfl (Nat.le_of_ble_eq_true rfl) d_WS_offer_72 (fun H_11 locs hP hD hS => ?_)
      have hP : va_P D vwCl [(w0, .inr (4, [.int wst, .int v, .ref w1, .ref w2, .ref w5, .ref w8])), (w2, .inr (6, [.int (nI ln), .ref w3, .ref w4])), (w3, .inl (cI, 7, .inl (fun zy => nI (BKP zy)))), (w4, .inl (cI, 7, .inl (fun zy => nI (BKF zy)))), (w8, .inr (6, [.int (nI ln), .ref w9, .ref w10])), (w9, .inl (cI, 7, .inl (fun zy => nI ((cpN ln (cpN ln (fun zx => BKP ((ln - 1) - zx)) TUP) BEP) zy)))), (w10, .inl (cI, 7, .inl (fun zy => nI ((cpN ln (cpN ln (fun zx => BKF ((ln - 1) - zx)) TUF) BEF) zy)))), (w5, .inr (6, [.int (nI ln), .ref w6, .ref w7])), (w6, .inl (cI, 7, .inl (fun zy => nI ((cpN ln (fun zx => BKP ((ln - 1) - zx)) TUP) zy)))), (w7, .inl (cI, 7, .inl (fun zy => nI ((cpN ln (fun zx => BKF ((ln - 1) - zx)) TUF) zy))))] H_11 := hP
      have hP9 := hP.sub (ws' := [(w0, .inr (4, [.int wst, .int v, .ref w1, .ref w2, .ref w5, .ref w8])), (w2, .inr (6, [.int (nI ln), .ref w3, .ref w4])), (w3, .inl (cI, 7, .inl (fun zy => nI (BKP zy)))), (w4, .inl (cI, 7, .inl (fun zy => nI (BKF zy)))), (w5, .inr (6, [.int (nI ln), .ref w6, .ref w7])), (w6, .inl (cI, 7, .inl (fun zy => nI ((cpN ln (fun zx => BKP ((ln - 1) - zx)) TUP) zy)))), (w7, .inl (cI, 7, .inl (fun zy => nI ((cpN ln (fun zx => BKF ((ln - 1) - zx)) TUF) zy)))), (w8, .inr (6, [.int (nI ln), .ref w9, .ref w10])), (w9, .inl (cI, 7, .inl (fun zy => nI ((cpN ln (cpN ln (fun zx => BKP ((ln - 1) - zx)) TUP) BEP) zy)))), (w10, .inl (cI, 7, .inl (fun zy => nI ((cpN ln (cpN ln (fun zx => BKF ((ln - 1) - zx)) TUF) BEF) zy))))]) [0, 1, 2, 3, 7, 8, 9, 4, 5, 6] rfl
      have hD9 := hD.sub (ws' := [(w0, .inr (4, [.int wst, .int v, .ref w1, .ref w2, .ref w5, .ref w8])), (w2, .inr (6, [.int (nI ln), .ref w3, .ref w4])), (w3, .inl (cI, 7, .inl (fun zy => nI (BKP zy)))), (w4, .inl (cI, 7, .inl (fun zy => nI (BKF zy)))), (w5, .inr (6, [.int (nI ln), .ref w6, .ref w7])), (w6, .inl (cI, 7, .inl (fun zy => nI ((cpN ln (fun zx => BKP ((ln - 1) - zx)) TUP) zy)))), (w7, .inl (cI, 7, .inl (fun zy => nI ((cpN ln (fun zx => BKF ((ln - 1) - zx)) TUF) zy)))), (w8, .inr (6, [.int (nI ln), .ref w9, .ref w10])), (w9, .inl (cI, 7, .inl (fun zy => nI ((cpN ln (cpN ln (fun zx => BKP ((ln - 1) - zx)) TUP) BEP) zy)))), (w10, .inl (cI, 7, .inl (fun zy => nI ((cpN ln (cpN ln (fun zx => BKF ((ln - 1) - zx)) TUF) BEF) zy))))]) [0, 1, 2, 3, 7, 8, 9, 4, 5, 6] (by decide +kernel) rfl
      refine W.widen (k := 0) (n := 0) (Nat.le_of_ble_eq_true rfl) (Nat.le_of_ble_eq_true rfl) ?_
      exact W.vret hx hb hr (fun tT ht hW => ⟨⟨(v, ln, (cpN ln (fun zx => BKP ((ln - 1) - zx)) TUP), (cpN ln (fun zx => BKF ((ln - 1) - zx)) TUF), (cpN ln (cpN ln (fun zx => BKP ((ln - 1) - zx)) TUP) BEP), (cpN ln (cpN ln (fun zx => BKF ((ln - 1) - zx)) TUF) BEF)), rfl, ⟨hln, (cpN_le (fun zx => h_BKP _) h_TUP), (cpN_le (fun zx => h_BKF _) h_TUF), (cpN_le (cpN_le (fun zx => h_BKP _) h_TUP) h_BEP), (cpN_le (cpN_le (fun zx => h_BKF _) h_TUF) h_BEF), (woff_y (Or.inr (Or.inl h_8)))⟩, by rw [ht]; exact hP9, hD9⟩, hS.F ht⟩) hS.2.2 d_WS_offer_75
    · refine lv_iload_n hx hb d_WS_offer_37 rfl (lv_at hl 2 rfl) ?_
      refine lv_aload_n hx hb d_WS_offer_38 rfl (lv_at hl 0 rfl) ?_
      refine va_get (D := D) (ci := 4) (v := .int wbc) (C := R_WS) (T := F_WS) (N := 6) hx hb hts i_WS hown hK hP 0 rfl rfl 1 (by decide) (hts _ q_192) (fun _ h9 => h9) rfl d_WS_offer_39 ?_
      refine lv_icmp_ne (tgt := 75) hx hb d_WS_offer_42 (by decide) (fun h_12 => ?_) (fun h_12 => ?_)
      · have hP9 := hP.sub (ws' := [(w0, .inr (4, [.int wst, .int wbc, .ref w1, .ref w2, .ref w5, .ref w8])), (w2, .inr (6, [.int (nI ln), .ref w3, .ref w4])), (w3, .inl (cI, 7, .inl (fun zy => nI (BKP zy)))), (w4, .inl (cI, 7, .inl (fun zy => nI (BKF zy)))), (w5, .inr (6, [.int (nI ln), .ref w6, .ref w7])), (w6, .inl (cI, 7, .inl (fun zy => nI ((cpN ln (fun zx => BKP ((ln - 1) - zx)) TUP) zy)))), (w7, .inl (cI, 7, .inl (fun zy => nI ((cpN ln (fun zx => BKF ((ln - 1) - zx)) TUF) zy)))), (w8, .inr (6, [.int (nI bl), .ref w9, .ref w10])), (w9, .inl (cI, 7, .inl (fun zy => nI (BEP zy)))), (w10, .inl (cI, 7, .inl (fun zy => nI (BEF zy))))]) [0, 7, 8, 9, 4, 5, 6, 1, 2, 3] rfl
        have hD9 := hD.sub (ws' := [(w0, .inr (4, [.int wst, .int wbc, .ref w1, .ref w2, .ref w5, .ref w8])), (w2, .inr (6, [.int (nI ln), .ref w3, .ref w4])), (w3, .inl (cI, 7, .inl (fun zy => nI (BKP zy)))), (w4, .inl (cI, 7, .inl (fun zy => nI (BKF zy)))), (w5, .inr (6, [.int (nI ln), .ref w6, .ref w7])), (w6, .inl (cI, 7, .inl (fun zy => nI ((cpN ln (fun zx => BKP ((ln - 1) - zx)) TUP) zy)))), (w7, .inl (cI, 7, .inl (fun zy => nI ((cpN ln (fun zx => BKF ((ln - 1) - zx)) TUF) zy)))), (w8, .inr (6, [.int (nI bl), .ref w9, .ref w10])), (w9, .inl (cI, 7, .inl (fun zy => nI (BEP zy)))), (w10, .inl (cI, 7, .inl (fun zy => nI (BEF zy))))]) [0, 7, 8, 9, 4, 5, 6, 1, 2, 3] (by decide +kernel) rfl
        refine W.widen (k := 0) (n := 0) (Nat.le_of_ble_eq_true rfl) (Nat.le_of_ble_eq_true rfl) ?_
        exact W.vret hx hb hr (fun tT ht hW => ⟨⟨(wbc, bl, (cpN ln (fun zx => BKP ((ln - 1) - zx)) TUP), (cpN ln (fun zx => BKF ((ln - 1) - zx)) TUF), BEP, BEF), rfl, ⟨h_bl, (cpN_le (fun zx => h_BKP _) h_TUP), (cpN_le (fun zx => h_BKF _) h_TUF), h_BEP, h_BEF, (woff_n (T6 := TUP) nh_4 h_8 (fun hZ => absurd hZ h_12))⟩, by rw [ht]; exact hP9, hD9⟩, hS.F ht⟩) hS.2.2 d_WS_offer_75
      · refine lv_aload_n hx hb d_WS_offer_45 rfl (lv_at hl 0 rfl) ?_
        refine va_get (D := D) (ci := 4) (v := .ref w5) (C := R_WS) (T := F_WS) (N := 6) hx hb hts i_WS hown hK hP 0 rfl rfl 4 (by decide) (hts _ q_198) (fun _ h9 => h9) rfl d_WS_offer_46 ?_
        refine lv_aload_n hx hb d_WS_offer_49 rfl (lv_at hl 0 rfl) ?_
        refine va_get (D := D) (ci := 4) (v := .ref w8) (C := R_WS) (T := F_WS) (N := 6) hx hb hts i_WS hown hK hP 0 rfl rfl 5 (by decide) (hts _ q_199) (fun _ h9 => h9) rfl d_WS_offer_50 ?_
        have hPc := hP.sub (ws' := [(w5, .inr (6, [.int (nI ln), .ref w6, .ref w7])), (w6, .inl (cI, 7, .inl (fun zy => nI ((cpN ln (fun zx => BKP ((ln - 1) - zx)) TUP) zy)))), (w8, .inr (6, [.int (nI bl), .ref w9, .ref w10])), (w9, .inl (cI, 7, .inl (fun zy => nI (BEP zy))))]) [4, 5, 1, 2] rfl
        have hDc := hD.sub (ws' := [(w5, .inr (6, [.int (nI ln), .ref w6, .ref w7])), (w6, .inl (cI, 7, .inl (fun zy => nI ((cpN ln (fun zx => BKP ((ln - 1) - zx)) TUP) zy)))), (w8, .inr (6, [.int (nI bl), .ref w9, .ref w10])), (w9, .inl (cI, 7, .inl (fun zy => nI (BEP zy))))]) [4, 5, 1, 2] (by decide +kernel) rfl
        refine vp_callSi (va_Run.run (va_runV (As := [.ref w8]) (rest := []) ⟨hx, hb, hml, hown, hts⟩ (e_RO_isAhead l D cI cZ w5 w8 ln w6 w7 (cpN ln (fun zx => BKP ((ln - 1) - zx)) TUP) bl w9 w10 BEP H_3.size (by first | omega | (dsimp only; omega)) (by first | omega | (dsimp only; omega)) (cpN_le (fun zx => h_BKP _) h_TUP) h_BEP) (my_cwV 1 hts q_416 q_413 q_414 q_415 q_6 rfl rfl (by decide +kernel) ⟨Nat.le_of_ble_eq_true rfl, Nat.le_of_ble_eq_true rfl⟩) (my_preV hPc hDc hK hN 6 0 rfl rfl) rfl rfl hl.1 rfl (lv_room (Nat.le_of_ble_eq_true rfl)) d_WS_offer_53 ⟨Nat.le_of_ble_eq_true rfl, Nat.le_of_ble_eq_true rfl⟩)) (fun r_13 hw_13 => ?_)
        rcases hw_13 with ⟨hg_14, rfl⟩ | ⟨hg_15, rfl⟩
        · have hg_14 : ¬ rowLt ln bl (cpN ln (fun zx => BKP ((ln - 1) - zx)) TUP) BEP := hg_14
          refine lv_if_eq (tgt := 75) hx hb d_WS_offer_56 (by decide) (fun _ => ?_) (fun h => absurd h (by decide))
          have hP9 := hP.sub (ws' := [(w0, .inr (4, [.int wst, .int wbc, .ref w1, .ref w2, .ref w5, .ref w8])), (w2, .inr (6, [.int (nI ln), .ref w3, .ref w4])), (w3, .inl (cI, 7, .inl (fun zy => nI (BKP zy)))), (w4, .inl (cI, 7, .inl (fun zy => nI (BKF zy)))), (w5, .inr (6, [.int (nI ln), .ref w6, .ref w7])), (w6, .inl (cI, 7, .inl (fun zy => nI ((cpN ln (fun zx => BKP ((ln - 1) - zx)) TUP) zy)))), (w7, .inl (cI, 7, .inl (fun zy => nI ((cpN ln (fun zx => BKF ((ln - 1) - zx)) TUF) zy)))), (w8, .inr (6, [.int (nI bl), .ref w9, .ref w10])), (w9, .inl (cI, 7, .inl (fun zy => nI (BEP zy)))), (w10, .inl (cI, 7, .inl (fun zy => nI (BEF zy))))]) [0, 7, 8, 9, 4, 5, 6, 1, 2, 3] rfl
          have hD9 := hD.sub (ws' := [(w0, .inr (4, [.int wst, .int wbc, .ref w1, .ref w2, .ref w5, .ref w8])), (w2, .inr (6, [.int (nI ln), .ref w3, .ref w4])), (w3, .inl (cI, 7, .inl (fun zy => nI (BKP zy)))), (w4, .inl (cI, 7, .inl (fun zy => nI (BKF zy)))), (w5, .inr (6, [.int (nI ln), .ref w6, .ref w7])), (w6, .inl (cI, 7, .inl (fun zy => nI ((cpN ln (fun zx => BKP ((ln - 1) - zx)) TUP) zy)))), (w7, .inl (cI, 7, .inl (fun zy => nI ((cpN ln (fun zx => BKF ((ln - 1) - zx)) TUF) zy)))), (w8, .inr (6, [.int (nI bl), .ref w9, .ref w10])), (w9, .inl (cI, 7, .inl (fun zy => nI (BEP zy)))), (w10, .inl (cI, 7, .inl (fun zy => nI (BEF zy))))]) [0, 7, 8, 9, 4, 5, 6, 1, 2, 3] (by decide +kernel) rfl
          refine W.widen (k := 0) (n := 0) (Nat.le_of_ble_eq_true rfl) (Nat.le_of_ble_eq_true rfl) ?_
          exact W.vret hx hb hr (fun tT ht hW => ⟨⟨(wbc, bl, (cpN ln (fun zx => BKP ((ln - 1) - zx)) TUP), (cpN ln (fun zx => BKF ((ln - 1) - zx)) TUF), BEP, BEF), rfl, ⟨h_bl, (cpN_le (fun zx => h_BKP _) h_TUP), (cpN_le (fun zx => h_BKF _) h_TUF), h_BEP, h_BEF, (woff_n nh_4 h_8 (fun _ => hg_14))⟩, by rw [ht]; exact hP9, hD9⟩, hS.F ht⟩) hS.2.2 d_WS_offer_75
        · have hg_15 : rowLt ln bl (cpN ln (fun zx => BKP ((ln - 1) - zx)) TUP) BEP := hg_15
          refine lv_if_eq (tgt := 75) hx hb d_WS_offer_56 (by decide) (fun h => absurd h (by decide)) (fun _ => ?_)
          refine lv_aload_n hx hb d_WS_offer_59 rfl (lv_at hl 0 rfl) ?_
          refine va_get (D := D) (ci := 4) (v := .ref w8) (C := R_WS) (T := F_WS) (N := 6) hx hb hts i_WS hown hK hP 0 rfl rfl 5 (by decide) (hts _ q_199) (fun _ h9 => h9) rfl d_WS_offer_60 ?_
          refine lv_aload_n hx hb d_WS_offer_63 rfl (lv_at hl 0 rfl) ?_
          refine va_get (D := D) (ci := 4) (v := .ref w5) (C := R_WS) (T := F_WS) (N := 6) hx hb hts i_WS hown hK hP 0 rfl rfl 4 (by decide) (hts _ q_198) (fun _ h9 => h9) rfl d_WS_offer_64 ?_
          have hPc := hP.sub (ws' := [(w8, .inr (6, [.int (nI bl), .ref w9, .ref w10])), (w9, .inl (cI, 7, .inl (fun zy => nI (BEP zy)))), (w10, .inl (cI, 7, .inl (fun zy => nI (BEF zy)))), (w5, .inr (6, [.int (nI ln), .ref w6, .ref w7])), (w6, .inl (cI, 7, .inl (fun zy => nI ((cpN ln (fun zx => BKP ((ln - 1) - zx)) TUP) zy)))), (w7, .inl (cI, 7, .inl (fun zy => nI ((cpN ln (fun zx => BKF ((ln - 1) - zx)) TUF) zy))))]) [1, 2, 3, 4, 5, 6] rfl
          have hDc := hD.sub (ws' := [(w8, .inr (6, [.int (nI bl), .ref w9, .ref w10])), (w9, .inl (cI, 7, .inl (fun zy => nI (BEP zy)))), (w10, .inl (cI, 7, .inl (fun zy => nI (BEF zy)))), (w5, .inr (6, [.int (nI ln), .ref w6, .ref w7])), (w6, .inl (cI, 7, .inl (fun zy => nI ((cpN ln (fun zx => BKP ((ln - 1) - zx)) TUP) zy)))), (w7, .inl (cI, 7, .inl (fun zy => nI ((cpN ln (fun zx => BKF ((ln - 1) - zx)) TUF) zy))))]) [1, 2, 3, 4, 5, 6] (by decide +kernel) rfl
          have hFc := va_free (wc := [(w8, .inr (6, [.int (nI bl), .ref w9, .ref w10])), (w9, .inl (cI, 7, .inl (fun zy => nI (BEP zy)))), (w10, .inl (cI, 7, .inl (fun zy => nI (BEF zy)))), (w5, .inr (6, [.int (nI ln), .ref w6, .ref w7])), (w6, .inl (cI, 7, .inl (fun zy => nI ((cpN ln (fun zx => BKP ((ln - 1) - zx)) TUP) zy)))), (w7, .inl (cI, 7, .inl (fun zy => nI ((cpN ln (fun zx => BKF ((ln - 1) - zx)) TUF) zy))))]) hD hS hA [1, 2, 3, 4, 5, 6] rfl
          refine va_callv (va_runV (As := [.ref w5]) (rest := []) ⟨hx, hb, hml, hown, hts⟩ (e_RO_take l D cI cZ w8 w5 (nI bl) w9 w10 BEP BEF ln w6 w7 (cpN ln (fun zx => BKP ((ln - 1) - zx)) TUP) (cpN ln (fun zx => BKF ((ln - 1) - zx)) TUF) H_3.size (by first | omega | (dsimp only; omega)) (cpN_le (fun zx => h_BKP _) h_TUP) (cpN_le (fun zx => h_BKF _) h_TUF)) (my_cwV 1 hts q_420 q_417 q_418 q_419 q_6 rfl rfl (by decide +kernel) ⟨Nat.le_of_ble_eq_true rfl, Nat.le_of_ble_eq_true rfl⟩) (my_preV hPc hDc hK hN 6 0 rfl rfl) rfl rfl hl.1 rfl (lv_room (Nat.le_of_ble_eq_true rfl)) d_WS_offer_67 ⟨Nat.le_of_ble_eq_true rfl, Nat.le_of_ble_eq_true rfl⟩) hS (fun q _ h => hFc q h) hFc (fun uU tT H_19 locs ht hvm hw_18 hB hz1 hk1 hS => ?_)
          obtain ⟨hP1, hD1⟩ := hB
          rw [ht] at hP1
          obtain ⟨hP, hD⟩ := va_join (wr := [(w0, .inr (4, [.int wst, .int wbc, .ref w1, .ref w2, .ref w5, .ref w8])), (w2, .inr (6, [.int (nI ln), .ref w3, .ref w4])), (w3, .inl (cI, 7, .inl (fun zy => nI (BKP zy)))), (w4, .inl (cI, 7, .inl (fun zy => nI (BKF zy))))]) (w1 := [(w8, .inr (6, [.int (nI ln), .ref w9, .ref w10])), (w9, .inl (cI, 7, .inl (fun zy => nI ((cpN ln (cpN ln (fun zx => BKP ((ln - 1) - zx)) TUP) BEP) zy)))), (w10, .inl (cI, 7, .inl (fun zy => nI ((cpN ln (cpN ln (fun zx => BKF ((ln - 1) - zx)) TUF) BEF) zy)))), (w5, .inr (6, [.int (nI ln), .ref w6, .ref w7])), (w6, .inl (cI, 7, .inl (fun zy => nI ((cpN ln (fun zx => BKP ((ln - 1) - zx)) TUP) zy)))), (w7, .inl (cI, 7, .inl (fun zy => nI ((cpN ln (fun zx => BKF ((ln - 1) - zx)) TUF) zy))))]) hP hD [1, 2, 3, 4, 5, 6] [0, 7, 8, 9] rfl rfl (by decide +kernel) (by decide +kernel) hk1 hFc hP1 hD1
          have hP : va_P D vwCl [(w0, .inr (4, [.int wst, .int wbc, .ref w1, .ref w2, .ref w5, .ref w8])), (w2, .inr (6, [.int (nI ln), .ref w3, .ref w4])), (w3, .inl (cI, 7, .inl (fun zy => nI (BKP zy)))), (w4, .inl (cI, 7, .inl (fun zy => nI (BKF zy)))), (w8, .inr (6, [.int (nI ln), .ref w9, .ref w10])), (w9, .inl (cI, 7, .inl (fun zy => nI ((cpN ln (cpN ln (fun zx => BKP ((ln - 1) - zx)) TUP) BEP) zy)))), (w10, .inl (cI, 7, .inl (fun zy => nI ((cpN ln (cpN ln (fun zx => BKF ((ln - 1) - zx)) TUF) BEF) zy)))), (w5, .inr (6, [.int (nI ln), .ref w6, .ref w7])), (w6, .inl (cI, 7, .inl (fun zy => nI ((cpN ln (fun zx => BKP ((ln - 1) - zx)) TUP) zy)))), (w7, .inl (cI, 7, .inl (fun zy => nI ((cpN ln (fun zx => BKF ((ln - 1) - zx)) TUF) zy))))] H_19 := hP
          refine lv_aload_n hx hb d_WS_offer_70 rfl (lv_at hl 0 rfl) ?_
          refine lv_iload_n hx hb d_WS_offer_71 rfl (lv_at hl 2 rfl) ?_
          refine va_put (D := D) (ci := 4) (v := .int v) (ty := .int) (C := R_WS) (T := F_WS) (N := 6) hx hb hts i_WS t_WS t_WS_ok n_WS hown hK hP hD hS 0 rfl rfl 1 (by decide) (hts _ q_192) (fun _ h9 => h9) rfl (by decide +kernel) rfl rfl (Nat.le_of_ble_eq_true rfl) d_WS_offer_72 (fun H_20 locs hP hD hS => ?_)
          have hP : va_P D vwCl [(w0, .inr (4, [.int wst, .int v, .ref w1, .ref w2, .ref w5, .ref w8])), (w2, .inr (6, [.int (nI ln), .ref w3, .ref w4])), (w3, .inl (cI, 7, .inl (fun zy => nI (BKP zy)))), (w4, .inl (cI, 7, .inl (fun zy => nI (BKF zy)))), (w8, .inr (6, [.int (nI ln), .ref w9, .ref w10])), (w9, .inl (cI, 7, .inl (fun zy => nI ((cpN ln (cpN ln (fun zx => BKP ((ln - 1) - zx)) TUP) BEP) zy)))), (w10, .inl (cI, 7, .inl (fun zy => nI ((cpN ln (cpN ln (fun zx => BKF ((ln - 1) - zx)) TUF) BEF) zy)))), (w5, .inr (6, [.int (nI ln), .ref w6, .ref w7])), (w6, .inl (cI, 7, .inl (fun zy => nI ((cpN ln (fun zx => BKP ((ln - 1) - zx)) TUP) zy)))), (w7, .inl (cI, 7, .inl (fun zy => nI ((cpN ln (fun zx => BKF ((ln - 1) - zx)) TUF) zy))))] H_20 := hP
          have hP9 := hP.sub (ws' := [(w0, .inr (4, [.int wst, .int v, .ref w1, .ref w2, .ref w5, .ref w8])), (w2, .inr (6, [.int (nI ln), .ref w3, .ref w4])), (w3, .inl (cI, 7, .inl (fun zy => nI (BKP zy)))), (w4, .inl (cI, 7, .inl (fun zy => nI (BKF zy)))), (w5, .inr (6, [.int (nI ln), .ref w6, .ref w7])), (w6, .inl (cI, 7, .inl (fun zy => nI ((cpN ln (fun zx => BKP ((ln - 1) - zx)) TUP) zy)))), (w7, .inl (cI, 7, .inl (fun zy => nI ((cpN ln (fun zx => BKF ((ln - 1) - zx)) TUF) zy)))), (w8, .inr (6, [.int (nI ln), .ref w9, .ref w10])), (w9, .inl (cI, 7, .inl (fun zy => nI ((cpN ln (cpN ln (fun zx => BKP ((ln - 1) - zx)) TUP) BEP) zy)))), (w10, .inl (cI, 7, .inl (fun zy => nI ((cpN ln (cpN ln (fun zx => BKF ((ln - 1) - zx)) TUF) BEF) zy))))]) [0, 1, 2, 3, 7, 8, 9, 4, 5, 6] rfl
          have hD9 := hD.sub (ws' := [(w0, .inr (4, [.int wst, .int v, .ref w1, .ref w2, .ref w5, .ref w8])), (w2, .inr (6, [.int (nI ln), .ref w3, .ref w4])), (w3, .inl (cI, 7, .inl (fun zy => nI (BKP zy)))), (w4, .inl (cI, 7, .inl (fun zy => nI (BKF zy)))), (w5, .inr (6, [.int (nI ln), .ref w6, .ref w7])), (w6, .inl (cI, 7, .inl (fun zy => nI ((cpN ln (fun zx => BKP ((ln - 1) - zx)) TUP) zy)))), (w7, .inl (cI, 7, .inl (fun zy => nI ((cpN ln (fun zx => BKF ((ln - 1) - zx)) TUF) zy)))), (w8, .inr (6, [.int (nI ln), .ref w9, .ref w10])), (w9, .inl (cI, 7, .inl (fun zy => nI ((cpN ln (cpN ln (fun zx => BKP ((ln - 1) - zx)) TUP) BEP) zy)))), (w10, .inl (cI, 7, .inl (fun zy => nI ((cpN ln (cpN ln (fun zx => BKF ((ln - 1) - zx)) TUF) BEF) zy))))]) [0, 1, 2, 3, 7, 8, 9, 4, 5, 6] (by decide +kernel) rfl
          refine W.widen (k := 0) (n := 0) (Nat.le_of_ble_eq_true rfl) (Nat.le_of_ble_eq_true rfl) ?_
          exact W.vret hx hb hr (fun tT ht hW => ⟨⟨(v, ln, (cpN ln (fun zx => BKP ((ln - 1) - zx)) TUP), (cpN ln (fun zx => BKF ((ln - 1) - zx)) TUF), (cpN ln (cpN ln (fun zx => BKP ((ln - 1) - zx)) TUP) BEP), (cpN ln (cpN ln (fun zx => BKF ((ln - 1) - zx)) TUF) BEF)), rfl, ⟨hln, (cpN_le (fun zx => h_BKP _) h_TUP), (cpN_le (fun zx => h_BKF _) h_TUF), (cpN_le (cpN_le (fun zx => h_BKP _) h_TUP) h_BEP), (cpN_le (cpN_le (fun zx => h_BKF _) h_TUF) h_BEF), (woff_y (Or.inr (Or.inr ⟨h_12, hg_15⟩)))⟩, by rw [ht]; exact hP9, hD9⟩, hS.F ht⟩) hS.2.2 d_WS_offer_75
