theorem inc64_le {n : Nat} (h : n ≤ 64) : inc64 n ≤ 64 := by
  unfold inc64
  split <;> omega
theorem sd0 {S : Nat → Int32} {j t : Nat} {v : Int32} (h : t = 0) : upd (upd S (2 * j) (S (2 * j) + v)) (2 * j + 1) (S (2 * j + 1)) = addS S (2 * j + t) v := by
  subst h
  funext k
  unfold addS
  simp only [upd_at, Nat.add_zero]
  by_cases h1 : k = 2 * j + 1
  · rw [if_pos h1, if_neg (by omega), h1]
  · rw [if_neg h1]
theorem sd1 {S : Nat → Int32} {j t : Nat} {v : Int32} (h : ¬ t = 0) (ht : t ≤ 1) : upd (upd S (2 * j) (S (2 * j))) (2 * j + 1) (S (2 * j + 1) + v) = addS S (2 * j + t) v := by
  have h0 : t = 1 := by omega
  subst h0
  funext k
  unfold addS
  simp only [upd_at]
  by_cases h1 : k = 2 * j + 1
  · rw [if_pos h1, if_pos h1]
  · rw [if_neg h1, if_neg h1]
    by_cases h2 : k = 2 * j
    · rw [if_pos h2, h2]
    · rw [if_neg h2]
theorem gs0 {S : Nat → Int32} {j t : Nat} {v : Int32} (h : t = 0) : S (2 * j) + v + S (2 * j + 1) = gsum (addS S (2 * j + t) v) j := by
  subst h
  show _ = gsum (addS S (2 * j) v) j
  unfold gsum
  rw [addS_s, addS_n (by omega)]
theorem gs1 {S : Nat → Int32} {j t : Nat} {v : Int32} (h : ¬ t = 0) (ht : t ≤ 1) : S (2 * j) + (S (2 * j + 1) + v) = gsum (addS S (2 * j + t) v) j := by
  have h0 : t = 1 := by omega
  subst h0
  unfold gsum
  rw [addS_n (by omega), addS_s]
theorem inc_lt {n : Nat} (h : n < 64) : n + 1 = inc64 n := by
  unfold inc64
  rw [if_pos h]
theorem inc_ge {n : Nat} (h : ¬ n < 64) : n = inc64 n := by
  unfold inc64
  rw [if_neg h]
theorem upN_id (F : Nat → Nat) (j : Nat) : upN F j (F j) = F := by
  funext k
  unfold upN
  split
  · rename_i h
    rw [h]
  · rfl
theorem upN_inc {F : Nat → Nat} {j : Nat} (h : ¬ F j < 64) : F = upN F j (inc64 (F j)) := by
  rw [← inc_ge h, upN_id]
theorem all_s {P : Nat → Prop} {n : Nat} (h : ∀ z, z < n → P z) (hn : P n) : ∀ z, z < n + 1 → P z := by
  intro z hz
  by_cases e : z = n
  · rw [e]
    exact hn
  · exact h z (by omega)
def sumO (SI PH : Nat → Int32) : Nat → Int32
  | 0 => 0
  | n + 1 => sumO SI PH n + if PH n = 0 then oabs (SI (2 * n) - SI (2 * n + 1)) else 0
theorem sumO_y {SI PH : Nat → Int32} {n : Nat} {x f : Int32} (h : x = sumO SI PH n) (hp : PH n = 0) (hf : f = if 0 ≤ SI (2 * n) - SI (2 * n + 1) then SI (2 * n) - SI (2 * n + 1) else 0 - (SI (2 * n) - SI (2 * n + 1))) : x + f = sumO SI PH (n + 1) := by
  unfold sumO
  rw [if_pos hp, ← h, hf]
  rfl
theorem sumO_n {SI PH : Nat → Int32} {n : Nat} {x : Int32} (h : x = sumO SI PH n) (hp : ¬ PH n = 0) : x = sumO SI PH (n + 1) := by
  unfold sumO
  rw [if_neg hp, ← h, Int32.add_zero]
def cntA (f : Nat → Int32) : Nat → Int32
  | 0 => 0
  | n + 1 => cntA f n + if f n = 0 then 0 else 1
theorem cntA_y {f : Nat → Int32} {n : Nat} {x : Int32} (h : x = cntA f n) (hp : ¬ f n = 0) : x + 1 = cntA f (n + 1) := by
  unfold cntA
  rw [if_neg hp, ← h]
theorem cntA_n {f : Nat → Int32} {n : Nat} {x : Int32} (h : x = cntA f n) (hp : f n = 0) : x + 0 = cntA f (n + 1) := by
  unfold cntA
  rw [if_pos hp, ← h]
-- closings
def cgB (EP ST CL CB : Nat → Nat) (FA : Nat → Int32) (j : Nat) : Bool := !decide (CB j = ST j - 1) && decide (FA (EP (2 * j + (1 - CL j))) = 0)
def clB (EP ST CL CB : Nat → Nat) (FA EN PH : Nat → Int32) (tm : Int32) (j : Nat) : Bool := decide (PH j = 1) && (if tm < EN j then cgB EP ST CL CB FA j else true)
def clF (B : Nat → Bool) (n : Nat) (v : Int32) (F : Nat → Int32) : Nat → Int32 := fun p => if p < n ∧ B p = true then v else F p
def clG (B : Nat → Bool) (n : Nat) (F : Nat → Int32) : Nat → Int32 := fun k => if k / 2 < n ∧ B (k / 2) = true then 0 else F k
theorem clF_0 (B : Nat → Bool) (v : Int32) (F : Nat → Int32) : F = clF B 0 v F := by funext p; unfold clF; rw [if_neg (by omega)]
theorem clG_0 (B : Nat → Bool) (F : Nat → Int32) : F = clG B 0 F := by funext p; unfold clG; rw [if_neg (by omega)]
theorem clF_at {B : Nat → Bool} {n : Nat} {v : Int32} {F : Nat → Int32} {j : Nat} (h : n ≤ j) : clF B n v F j = F j := by unfold clF; rw [if_neg (by omega)]
theorem clG_at {B : Nat → Bool} {n : Nat} {F : Nat → Int32} {j : Nat} (h : n ≤ j / 2) : clG B n F j = F j := by unfold clG; rw [if_neg (by omega)]
theorem clF_y {B : Nat → Bool} {n : Nat} {v : Int32} {F F1 : Nat → Int32} (hB : B n = true) (h : F1 = clF B n v F) : upd F1 n v = clF B (n + 1) v F := by
  subst h
  funext p
  rw [upd_at]
  unfold clF
  by_cases e : p = n
  · rw [if_pos e, if_pos ⟨by omega, by rw [e]; exact hB⟩]
  · rw [if_neg e]
    by_cases e2 : p < n ∧ B p = true
    · rw [if_pos e2, if_pos ⟨by omega, e2.2⟩]
    · rw [if_neg e2, if_neg (fun z => e2 ⟨by omega, z.2⟩)]
theorem clF_n {B : Nat → Bool} {n : Nat} {v : Int32} {F F1 : Nat → Int32} (hB : B n = false) (h : F1 = clF B n v F) : F1 = clF B (n + 1) v F := by
  subst h
  funext p
  unfold clF
  by_cases e2 : p < n ∧ B p = true
  · rw [if_pos e2, if_pos ⟨by omega, e2.2⟩]
  · rw [if_neg e2]
    by_cases e : p = n
    · rw [if_neg (fun z => by rw [e, hB] at z; exact absurd z.2 (by decide))]
    · rw [if_neg (fun z => e2 ⟨by omega, z.2⟩)]
theorem clG_y {B : Nat → Bool} {n : Nat} {F F1 : Nat → Int32} (hB : B n = true) (h : F1 = clG B n F) : upd (upd F1 (2 * n) 0) (2 * n + 1) 0 = clG B (n + 1) F := by
  subst h
  funext p
  rw [upd_at, upd_at]
  unfold clG
  by_cases e : p / 2 = n
  · rw [if_pos (show p / 2 < n + 1 ∧ B (p / 2) = true from ⟨by omega, by rw [e]; exact hB⟩)]
    by_cases e1 : p = 2 * n + 1
    · rw [if_pos e1]
    · rw [if_neg e1, if_pos (by omega)]
  · rw [if_neg (show ¬ p = 2 * n + 1 by omega), if_neg (show ¬ p = 2 * n by omega)]
    by_cases e2 : p / 2 < n ∧ B (p / 2) = true
    · rw [if_pos e2, if_pos ⟨by omega, e2.2⟩]
    · rw [if_neg e2, if_neg (fun z => e2 ⟨by omega, z.2⟩)]
theorem clG_n {B : Nat → Bool} {n : Nat} {F F1 : Nat → Int32} (hB : B n = false) (h : F1 = clG B n F) : F1 = clG B (n + 1) F := by
  subst h
  funext p
  unfold clG
  by_cases e2 : p / 2 < n ∧ B (p / 2) = true
  · rw [if_pos e2, if_pos ⟨by omega, e2.2⟩]
  · rw [if_neg e2]
    by_cases e : p / 2 = n
    · rw [if_neg (fun z => by rw [e, hB] at z; exact absurd z.2 (by decide))]
    · rw [if_neg (fun z => e2 ⟨by omega, z.2⟩)]
theorem zz_0 : (0 : Int32) + 0 = 0 := by decide
theorem clB_1 {EP ST CL CB : Nat → Nat} {FA EN PH : Nat → Int32} {tm : Int32} {j : Nat} (h : ¬ PH j = 1) : clB EP ST CL CB FA EN PH tm j = false := by
  unfold clB
  rw [decide_eq_false h]
  rfl
theorem clB_2 {EP ST CL CB : Nat → Nat} {FA EN PH : Nat → Int32} {tm : Int32} {j : Nat} (h : PH j = 1) (h2 : ¬ tm < EN j) : clB EP ST CL CB FA EN PH tm j = true := by
  unfold clB
  rw [decide_eq_true h, if_neg h2]
  rfl
theorem clB_3 {EP ST CL CB : Nat → Nat} {FA EN PH : Nat → Int32} {tm : Int32} {j : Nat} {b : Bool} (h : PH j = 1) (h2 : tm < EN j) (h3 : cgB EP ST CL CB FA j = b) : clB EP ST CL CB FA EN PH tm j = b := by
  unfold clB
  rw [decide_eq_true h, if_pos h2, h3]
  rfl
theorem cgB_n1 {EP ST CL CB : Nat → Nat} {FA : Nat → Int32} {j : Nat} (h : CB j = ST j - 1) : cgB EP ST CL CB FA j = false := by
  unfold cgB
  rw [decide_eq_true h]
  rfl
theorem cgB_n2 {EP ST CL CB : Nat → Nat} {FA : Nat → Int32} {j : Nat} (h : ¬ FA (EP (2 * j + (1 - CL j))) = 0) : cgB EP ST CL CB FA j = false := by
  unfold cgB
  rw [decide_eq_false h, Bool.and_false]
theorem cgB_y {EP ST CL CB : Nat → Nat} {FA : Nat → Int32} {j : Nat} (h : ¬ CB j = ST j - 1) (h2 : FA (EP (2 * j + (1 - CL j))) = 0) : cgB EP ST CL CB FA j = true := by
  unfold cgB
  rw [decide_eq_false h, decide_eq_true h2]
  rfl
theorem upd_upd (F : Nat → Int32) (k : Nat) (x y : Int32) : upd (upd F k x) k y = upd F k y := by
  funext j
  simp only [upd_at]
  split <;> rfl
theorem gd_PE_feeOf_0 : (decode prog_3_method_4_code 0 = .ok (.aload_n 0, 1)) ∧ (decode prog_3_method_4_code 1 = .ok (.getfield 19, 3)) ∧ (decode prog_3_method_4_code 4 = .ok (.iload_n 1, 1)) ∧ (decode prog_3_method_4_code 5 = .ok (.iaload, 1)) ∧ (decode prog_3_method_4_code 6 = .ok (.iload_n 2, 1)) ∧ (decode prog_3_method_4_code 7 = .ok (.aload_n 0, 1)) ∧ (decode prog_3_method_4_code 8 = .ok (.getfield 22, 3)) ∧ (decode prog_3_method_4_code 11 = .ok (.iload_n 1, 1)) ∧ (decode prog_3_method_4_code 12 = .ok (.iaload, 1)) ∧ (decode prog_3_method_4_code 13 = .ok (.imul, 1)) := by decide +kernel
theorem d_PE_feeOf_0 : decode prog_3_method_4_code 0 = .ok (.aload_n 0, 1) := gd_PE_feeOf_0.1
theorem d_PE_feeOf_1 : decode prog_3_method_4_code 1 = .ok (.getfield 19, 3) := gd_PE_feeOf_0.2.1
theorem d_PE_feeOf_4 : decode prog_3_method_4_code 4 = .ok (.iload_n 1, 1) := gd_PE_feeOf_0.2.2.1
theorem d_PE_feeOf_5 : decode prog_3_method_4_code 5 = .ok (.iaload, 1) := gd_PE_feeOf_0.2.2.2.1
theorem d_PE_feeOf_6 : decode prog_3_method_4_code 6 = .ok (.iload_n 2, 1) := gd_PE_feeOf_0.2.2.2.2.1
theorem d_PE_feeOf_7 : decode prog_3_method_4_code 7 = .ok (.aload_n 0, 1) := gd_PE_feeOf_0.2.2.2.2.2.1
theorem d_PE_feeOf_8 : decode prog_3_method_4_code 8 = .ok (.getfield 22, 3) := gd_PE_feeOf_0.2.2.2.2.2.2.1
theorem d_PE_feeOf_11 : decode prog_3_method_4_code 11 = .ok (.iload_n 1, 1) := gd_PE_feeOf_0.2.2.2.2.2.2.2.1
theorem d_PE_feeOf_12 : decode prog_3_method_4_code 12 = .ok (.iaload, 1) := gd_PE_feeOf_0.2.2.2.2.2.2.2.2.1
theorem d_PE_feeOf_13 : decode prog_3_method_4_code 13 = .ok (.imul, 1) := gd_PE_feeOf_0.2.2.2.2.2.2.2.2.2
theorem gd_PE_feeOf_14 : (decode prog_3_method_4_code 14 = .ok (.sipush 1000, 3)) ∧ (decode prog_3_method_4_code 17 = .ok (.idiv, 1)) ∧ (decode prog_3_method_4_code 18 = .ok (.iadd, 1)) ∧ (decode prog_3_method_4_code 19 = .ok (.ireturn, 1)) := by decide +kernel
theorem d_PE_feeOf_14 : decode prog_3_method_4_code 14 = .ok (.sipush 1000, 3) := gd_PE_feeOf_14.1
theorem d_PE_feeOf_17 : decode prog_3_method_4_code 17 = .ok (.idiv, 1) := gd_PE_feeOf_14.2.1
theorem d_PE_feeOf_18 : decode prog_3_method_4_code 18 = .ok (.iadd, 1) := gd_PE_feeOf_14.2.2.1
theorem d_PE_feeOf_19 : decode prog_3_method_4_code 19 = .ok (.ireturn, 1) := gd_PE_feeOf_14.2.2.2
theorem gd_PE_howManyAway_0 : (decode prog_3_method_5_code 0 = .ok (.iconst 0, 1)) ∧ (decode prog_3_method_5_code 1 = .ok (.istore_n 1, 1)) ∧ (decode prog_3_method_5_code 2 = .ok (.iconst 0, 1)) ∧ (decode prog_3_method_5_code 3 = .ok (.istore_n 2, 1)) ∧ (decode prog_3_method_5_code 4 = .ok (.iload_n 2, 1)) ∧ (decode prog_3_method_5_code 5 = .ok (.aload_n 0, 1)) ∧ (decode prog_3_method_5_code 6 = .ok (.getfield 9, 3)) ∧ (decode prog_3_method_5_code 9 = .ok (.if_icmp .ge 26, 3)) ∧ (decode prog_3_method_5_code 35 = .ok (.iload_n 1, 1)) ∧ (decode prog_3_method_5_code 36 = .ok (.ireturn, 1)) := by decide +kernel
theorem d_PE_howManyAway_0 : decode prog_3_method_5_code 0 = .ok (.iconst 0, 1) := gd_PE_howManyAway_0.1
theorem d_PE_howManyAway_1 : decode prog_3_method_5_code 1 = .ok (.istore_n 1, 1) := gd_PE_howManyAway_0.2.1
theorem d_PE_howManyAway_2 : decode prog_3_method_5_code 2 = .ok (.iconst 0, 1) := gd_PE_howManyAway_0.2.2.1
theorem d_PE_howManyAway_3 : decode prog_3_method_5_code 3 = .ok (.istore_n 2, 1) := gd_PE_howManyAway_0.2.2.2.1
theorem d_PE_howManyAway_4 : decode prog_3_method_5_code 4 = .ok (.iload_n 2, 1) := gd_PE_howManyAway_0.2.2.2.2.1
theorem d_PE_howManyAway_5 : decode prog_3_method_5_code 5 = .ok (.aload_n 0, 1) := gd_PE_howManyAway_0.2.2.2.2.2.1
theorem d_PE_howManyAway_6 : decode prog_3_method_5_code 6 = .ok (.getfield 9, 3) := gd_PE_howManyAway_0.2.2.2.2.2.2.1
theorem d_PE_howManyAway_9 : decode prog_3_method_5_code 9 = .ok (.if_icmp .ge 26, 3) := gd_PE_howManyAway_0.2.2.2.2.2.2.2.1
theorem d_PE_howManyAway_35 : decode prog_3_method_5_code 35 = .ok (.iload_n 1, 1) := gd_PE_howManyAway_0.2.2.2.2.2.2.2.2.1
theorem d_PE_howManyAway_36 : decode prog_3_method_5_code 36 = .ok (.ireturn, 1) := gd_PE_howManyAway_0.2.2.2.2.2.2.2.2.2
theorem gd_PE_howManyAway_12 : (decode prog_3_method_5_code 12 = .ok (.iload_n 1, 1)) ∧ (decode prog_3_method_5_code 13 = .ok (.aload_n 0, 1)) ∧ (decode prog_3_method_5_code 14 = .ok (.getfield 25, 3)) ∧ (decode prog_3_method_5_code 17 = .ok (.iload_n 2, 1)) ∧ (decode prog_3_method_5_code 18 = .ok (.baload, 1)) ∧ (decode prog_3_method_5_code 19 = .ok (.ifCond .eq 7, 3)) ∧ (decode prog_3_method_5_code 26 = .ok (.iconst 0, 1)) ∧ (decode prog_3_method_5_code 27 = .ok (.iadd, 1)) ∧ (decode prog_3_method_5_code 28 = .ok (.istore_n 1, 1)) ∧ (decode prog_3_method_5_code 29 = .ok (.iinc 2 1, 3)) := by decide +kernel
theorem d_PE_howManyAway_12 : decode prog_3_method_5_code 12 = .ok (.iload_n 1, 1) := gd_PE_howManyAway_12.1
theorem d_PE_howManyAway_13 : decode prog_3_method_5_code 13 = .ok (.aload_n 0, 1) := gd_PE_howManyAway_12.2.1
theorem d_PE_howManyAway_14 : decode prog_3_method_5_code 14 = .ok (.getfield 25, 3) := gd_PE_howManyAway_12.2.2.1
theorem d_PE_howManyAway_17 : decode prog_3_method_5_code 17 = .ok (.iload_n 2, 1) := gd_PE_howManyAway_12.2.2.2.1
theorem d_PE_howManyAway_18 : decode prog_3_method_5_code 18 = .ok (.baload, 1) := gd_PE_howManyAway_12.2.2.2.2.1
theorem d_PE_howManyAway_19 : decode prog_3_method_5_code 19 = .ok (.ifCond .eq 7, 3) := gd_PE_howManyAway_12.2.2.2.2.2.1
theorem d_PE_howManyAway_26 : decode prog_3_method_5_code 26 = .ok (.iconst 0, 1) := gd_PE_howManyAway_12.2.2.2.2.2.2.1
theorem d_PE_howManyAway_27 : decode prog_3_method_5_code 27 = .ok (.iadd, 1) := gd_PE_howManyAway_12.2.2.2.2.2.2.2.1
theorem d_PE_howManyAway_28 : decode prog_3_method_5_code 28 = .ok (.istore_n 1, 1) := gd_PE_howManyAway_12.2.2.2.2.2.2.2.2.1
theorem d_PE_howManyAway_29 : decode prog_3_method_5_code 29 = .ok (.iinc 2 1, 3) := gd_PE_howManyAway_12.2.2.2.2.2.2.2.2.2
theorem gd_PE_howManyAway_32 : (decode prog_3_method_5_code 32 = .ok (.goto (-28), 3)) ∧ (decode prog_3_method_5_code 22 = .ok (.iconst 1, 1)) ∧ (decode prog_3_method_5_code 23 = .ok (.goto 4, 3)) := by decide +kernel
theorem d_PE_howManyAway_32 : decode prog_3_method_5_code 32 = .ok (.goto (-28), 3) := gd_PE_howManyAway_32.1
theorem d_PE_howManyAway_22 : decode prog_3_method_5_code 22 = .ok (.iconst 1, 1) := gd_PE_howManyAway_32.2.1
theorem d_PE_howManyAway_23 : decode prog_3_method_5_code 23 = .ok (.goto 4, 3) := gd_PE_howManyAway_32.2.2
theorem gd_PA_whichIs_0 : (decode prog_2_method_4_code 0 = .ok (.aload_n 0, 1)) ∧ (decode prog_2_method_4_code 1 = .ok (.getfield 15, 3)) ∧ (decode prog_2_method_4_code 4 = .ok (.iconst 2, 1)) ∧ (decode prog_2_method_4_code 5 = .ok (.iload_n 1, 1)) ∧ (decode prog_2_method_4_code 6 = .ok (.imul, 1)) ∧ (decode prog_2_method_4_code 7 = .ok (.iaload, 1)) ∧ (decode prog_2_method_4_code 8 = .ok (.iload_n 2, 1)) ∧ (decode prog_2_method_4_code 9 = .ok (.if_icmp .ne 5, 3)) ∧ (decode prog_2_method_4_code 14 = .ok (.aload_n 0, 1)) ∧ (decode prog_2_method_4_code 15 = .ok (.getfield 15, 3)) := by decide +kernel
theorem d_PA_whichIs_0 : decode prog_2_method_4_code 0 = .ok (.aload_n 0, 1) := gd_PA_whichIs_0.1
theorem d_PA_whichIs_1 : decode prog_2_method_4_code 1 = .ok (.getfield 15, 3) := gd_PA_whichIs_0.2.1
theorem d_PA_whichIs_4 : decode prog_2_method_4_code 4 = .ok (.iconst 2, 1) := gd_PA_whichIs_0.2.2.1
theorem d_PA_whichIs_5 : decode prog_2_method_4_code 5 = .ok (.iload_n 1, 1) := gd_PA_whichIs_0.2.2.2.1
theorem d_PA_whichIs_6 : decode prog_2_method_4_code 6 = .ok (.imul, 1) := gd_PA_whichIs_0.2.2.2.2.1
theorem d_PA_whichIs_7 : decode prog_2_method_4_code 7 = .ok (.iaload, 1) := gd_PA_whichIs_0.2.2.2.2.2.1
theorem d_PA_whichIs_8 : decode prog_2_method_4_code 8 = .ok (.iload_n 2, 1) := gd_PA_whichIs_0.2.2.2.2.2.2.1
theorem d_PA_whichIs_9 : decode prog_2_method_4_code 9 = .ok (.if_icmp .ne 5, 3) := gd_PA_whichIs_0.2.2.2.2.2.2.2.1
theorem d_PA_whichIs_14 : decode prog_2_method_4_code 14 = .ok (.aload_n 0, 1) := gd_PA_whichIs_0.2.2.2.2.2.2.2.2.1
theorem d_PA_whichIs_15 : decode prog_2_method_4_code 15 = .ok (.getfield 15, 3) := gd_PA_whichIs_0.2.2.2.2.2.2.2.2.2
theorem gd_PA_whichIs_18 : (decode prog_2_method_4_code 18 = .ok (.iconst 2, 1)) ∧ (decode prog_2_method_4_code 19 = .ok (.iload_n 1, 1)) ∧ (decode prog_2_method_4_code 20 = .ok (.imul, 1)) ∧ (decode prog_2_method_4_code 21 = .ok (.iconst 1, 1)) ∧ (decode prog_2_method_4_code 22 = .ok (.iadd, 1)) ∧ (decode prog_2_method_4_code 23 = .ok (.iaload, 1)) ∧ (decode prog_2_method_4_code 24 = .ok (.iload_n 2, 1)) ∧ (decode prog_2_method_4_code 25 = .ok (.if_icmp .ne 7, 3)) ∧ (decode prog_2_method_4_code 32 = .ok (.iconst (-1), 1)) ∧ (decode prog_2_method_4_code 33 = .ok (.ireturn, 1)) := by decide +kernel
theorem d_PA_whichIs_18 : decode prog_2_method_4_code 18 = .ok (.iconst 2, 1) := gd_PA_whichIs_18.1
theorem d_PA_whichIs_19 : decode prog_2_method_4_code 19 = .ok (.iload_n 1, 1) := gd_PA_whichIs_18.2.1
theorem d_PA_whichIs_20 : decode prog_2_method_4_code 20 = .ok (.imul, 1) := gd_PA_whichIs_18.2.2.1
theorem d_PA_whichIs_21 : decode prog_2_method_4_code 21 = .ok (.iconst 1, 1) := gd_PA_whichIs_18.2.2.2.1
theorem d_PA_whichIs_22 : decode prog_2_method_4_code 22 = .ok (.iadd, 1) := gd_PA_whichIs_18.2.2.2.2.1
theorem d_PA_whichIs_23 : decode prog_2_method_4_code 23 = .ok (.iaload, 1) := gd_PA_whichIs_18.2.2.2.2.2.1
theorem d_PA_whichIs_24 : decode prog_2_method_4_code 24 = .ok (.iload_n 2, 1) := gd_PA_whichIs_18.2.2.2.2.2.2.1
theorem d_PA_whichIs_25 : decode prog_2_method_4_code 25 = .ok (.if_icmp .ne 7, 3) := gd_PA_whichIs_18.2.2.2.2.2.2.2.1
theorem d_PA_whichIs_32 : decode prog_2_method_4_code 32 = .ok (.iconst (-1), 1) := gd_PA_whichIs_18.2.2.2.2.2.2.2.2.1
theorem d_PA_whichIs_33 : decode prog_2_method_4_code 33 = .ok (.ireturn, 1) := gd_PA_whichIs_18.2.2.2.2.2.2.2.2.2
theorem gd_PA_whichIs_28 : (decode prog_2_method_4_code 28 = .ok (.iconst 1, 1)) ∧ (decode prog_2_method_4_code 29 = .ok (.goto 4, 3)) ∧ (decode prog_2_method_4_code 12 = .ok (.iconst 0, 1)) ∧ (decode prog_2_method_4_code 13 = .ok (.ireturn, 1)) := by decide +kernel
theorem d_PA_whichIs_28 : decode prog_2_method_4_code 28 = .ok (.iconst 1, 1) := gd_PA_whichIs_28.1
theorem d_PA_whichIs_29 : decode prog_2_method_4_code 29 = .ok (.goto 4, 3) := gd_PA_whichIs_28.2.1
theorem d_PA_whichIs_12 : decode prog_2_method_4_code 12 = .ok (.iconst 0, 1) := gd_PA_whichIs_28.2.2.1
theorem d_PA_whichIs_13 : decode prog_2_method_4_code 13 = .ok (.ireturn, 1) := gd_PA_whichIs_28.2.2.2
theorem gd_PA_isFree_0 : (decode prog_2_method_5_code 0 = .ok (.aload_n 0, 1)) ∧ (decode prog_2_method_5_code 1 = .ok (.getfield 31, 3)) ∧ (decode prog_2_method_5_code 4 = .ok (.iload_n 1, 1)) ∧ (decode prog_2_method_5_code 5 = .ok (.iaload, 1)) ∧ (decode prog_2_method_5_code 6 = .ok (.ifCond .ne 31, 3)) ∧ (decode prog_2_method_5_code 37 = .ok (.iconst 0, 1)) ∧ (decode prog_2_method_5_code 38 = .ok (.ireturn, 1)) ∧ (decode prog_2_method_5_code 9 = .ok (.aload_n 0, 1)) ∧ (decode prog_2_method_5_code 10 = .ok (.getfield 22, 3)) ∧ (decode prog_2_method_5_code 13 = .ok (.iconst 2, 1)) := by decide +kernel
theorem d_PA_isFree_0 : decode prog_2_method_5_code 0 = .ok (.aload_n 0, 1) := gd_PA_isFree_0.1
theorem d_PA_isFree_1 : decode prog_2_method_5_code 1 = .ok (.getfield 31, 3) := gd_PA_isFree_0.2.1
theorem d_PA_isFree_4 : decode prog_2_method_5_code 4 = .ok (.iload_n 1, 1) := gd_PA_isFree_0.2.2.1
theorem d_PA_isFree_5 : decode prog_2_method_5_code 5 = .ok (.iaload, 1) := gd_PA_isFree_0.2.2.2.1
theorem d_PA_isFree_6 : decode prog_2_method_5_code 6 = .ok (.ifCond .ne 31, 3) := gd_PA_isFree_0.2.2.2.2.1
theorem d_PA_isFree_37 : decode prog_2_method_5_code 37 = .ok (.iconst 0, 1) := gd_PA_isFree_0.2.2.2.2.2.1
theorem d_PA_isFree_38 : decode prog_2_method_5_code 38 = .ok (.ireturn, 1) := gd_PA_isFree_0.2.2.2.2.2.2.1
theorem d_PA_isFree_9 : decode prog_2_method_5_code 9 = .ok (.aload_n 0, 1) := gd_PA_isFree_0.2.2.2.2.2.2.2.1
theorem d_PA_isFree_10 : decode prog_2_method_5_code 10 = .ok (.getfield 22, 3) := gd_PA_isFree_0.2.2.2.2.2.2.2.2.1
theorem d_PA_isFree_13 : decode prog_2_method_5_code 13 = .ok (.iconst 2, 1) := gd_PA_isFree_0.2.2.2.2.2.2.2.2.2
theorem gd_PA_isFree_14 : (decode prog_2_method_5_code 14 = .ok (.iload_n 1, 1)) ∧ (decode prog_2_method_5_code 15 = .ok (.imul, 1)) ∧ (decode prog_2_method_5_code 16 = .ok (.iaload, 1)) ∧ (decode prog_2_method_5_code 17 = .ok (.ifCond .ne 20, 3)) ∧ (decode prog_2_method_5_code 20 = .ok (.aload_n 0, 1)) ∧ (decode prog_2_method_5_code 21 = .ok (.getfield 22, 3)) ∧ (decode prog_2_method_5_code 24 = .ok (.iconst 2, 1)) ∧ (decode prog_2_method_5_code 25 = .ok (.iload_n 1, 1)) ∧ (decode prog_2_method_5_code 26 = .ok (.imul, 1)) ∧ (decode prog_2_method_5_code 27 = .ok (.iconst 1, 1)) := by decide +kernel
theorem d_PA_isFree_14 : decode prog_2_method_5_code 14 = .ok (.iload_n 1, 1) := gd_PA_isFree_14.1
theorem d_PA_isFree_15 : decode prog_2_method_5_code 15 = .ok (.imul, 1) := gd_PA_isFree_14.2.1
theorem d_PA_isFree_16 : decode prog_2_method_5_code 16 = .ok (.iaload, 1) := gd_PA_isFree_14.2.2.1
theorem d_PA_isFree_17 : decode prog_2_method_5_code 17 = .ok (.ifCond .ne 20, 3) := gd_PA_isFree_14.2.2.2.1
theorem d_PA_isFree_20 : decode prog_2_method_5_code 20 = .ok (.aload_n 0, 1) := gd_PA_isFree_14.2.2.2.2.1
theorem d_PA_isFree_21 : decode prog_2_method_5_code 21 = .ok (.getfield 22, 3) := gd_PA_isFree_14.2.2.2.2.2.1
theorem d_PA_isFree_24 : decode prog_2_method_5_code 24 = .ok (.iconst 2, 1) := gd_PA_isFree_14.2.2.2.2.2.2.1
theorem d_PA_isFree_25 : decode prog_2_method_5_code 25 = .ok (.iload_n 1, 1) := gd_PA_isFree_14.2.2.2.2.2.2.2.1
theorem d_PA_isFree_26 : decode prog_2_method_5_code 26 = .ok (.imul, 1) := gd_PA_isFree_14.2.2.2.2.2.2.2.2.1
theorem d_PA_isFree_27 : decode prog_2_method_5_code 27 = .ok (.iconst 1, 1) := gd_PA_isFree_14.2.2.2.2.2.2.2.2.2
theorem gd_PA_isFree_28 : (decode prog_2_method_5_code 28 = .ok (.iadd, 1)) ∧ (decode prog_2_method_5_code 29 = .ok (.iaload, 1)) ∧ (decode prog_2_method_5_code 30 = .ok (.ifCond .ne 7, 3)) ∧ (decode prog_2_method_5_code 33 = .ok (.iconst 1, 1)) ∧ (decode prog_2_method_5_code 34 = .ok (.goto 4, 3)) := by decide +kernel
theorem d_PA_isFree_28 : decode prog_2_method_5_code 28 = .ok (.iadd, 1) := gd_PA_isFree_28.1
theorem d_PA_isFree_29 : decode prog_2_method_5_code 29 = .ok (.iaload, 1) := gd_PA_isFree_28.2.1
theorem d_PA_isFree_30 : decode prog_2_method_5_code 30 = .ok (.ifCond .ne 7, 3) := gd_PA_isFree_28.2.2.1
theorem d_PA_isFree_33 : decode prog_2_method_5_code 33 = .ok (.iconst 1, 1) := gd_PA_isFree_28.2.2.2.1
theorem d_PA_isFree_34 : decode prog_2_method_5_code 34 = .ok (.goto 4, 3) := gd_PA_isFree_28.2.2.2.2
theorem gd_PA_areOpen_0 : (decode prog_2_method_6_code 0 = .ok (.iconst 0, 1)) ∧ (decode prog_2_method_6_code 1 = .ok (.istore_n 2, 1)) ∧ (decode prog_2_method_6_code 2 = .ok (.iload_n 2, 1)) ∧ (decode prog_2_method_6_code 3 = .ok (.aload_n 1, 1)) ∧ (decode prog_2_method_6_code 4 = .ok (.getfield 61, 3)) ∧ (decode prog_2_method_6_code 7 = .ok (.if_icmp .ge 25, 3)) ∧ (decode prog_2_method_6_code 32 = .ok (.iconst 1, 1)) ∧ (decode prog_2_method_6_code 33 = .ok (.ireturn, 1)) ∧ (decode prog_2_method_6_code 10 = .ok (.aload_n 0, 1)) ∧ (decode prog_2_method_6_code 11 = .ok (.getfield 31, 3)) := by decide +kernel
theorem d_PA_areOpen_0 : decode prog_2_method_6_code 0 = .ok (.iconst 0, 1) := gd_PA_areOpen_0.1
theorem d_PA_areOpen_1 : decode prog_2_method_6_code 1 = .ok (.istore_n 2, 1) := gd_PA_areOpen_0.2.1
theorem d_PA_areOpen_2 : decode prog_2_method_6_code 2 = .ok (.iload_n 2, 1) := gd_PA_areOpen_0.2.2.1
theorem d_PA_areOpen_3 : decode prog_2_method_6_code 3 = .ok (.aload_n 1, 1) := gd_PA_areOpen_0.2.2.2.1
theorem d_PA_areOpen_4 : decode prog_2_method_6_code 4 = .ok (.getfield 61, 3) := gd_PA_areOpen_0.2.2.2.2.1
theorem d_PA_areOpen_7 : decode prog_2_method_6_code 7 = .ok (.if_icmp .ge 25, 3) := gd_PA_areOpen_0.2.2.2.2.2.1
theorem d_PA_areOpen_32 : decode prog_2_method_6_code 32 = .ok (.iconst 1, 1) := gd_PA_areOpen_0.2.2.2.2.2.2.1
theorem d_PA_areOpen_33 : decode prog_2_method_6_code 33 = .ok (.ireturn, 1) := gd_PA_areOpen_0.2.2.2.2.2.2.2.1
theorem d_PA_areOpen_10 : decode prog_2_method_6_code 10 = .ok (.aload_n 0, 1) := gd_PA_areOpen_0.2.2.2.2.2.2.2.2.1
theorem d_PA_areOpen_11 : decode prog_2_method_6_code 11 = .ok (.getfield 31, 3) := gd_PA_areOpen_0.2.2.2.2.2.2.2.2.2
theorem gd_PA_areOpen_14 : (decode prog_2_method_6_code 14 = .ok (.aload_n 1, 1)) ∧ (decode prog_2_method_6_code 15 = .ok (.getfield 66, 3)) ∧ (decode prog_2_method_6_code 18 = .ok (.iload_n 2, 1)) ∧ (decode prog_2_method_6_code 19 = .ok (.iaload, 1)) ∧ (decode prog_2_method_6_code 20 = .ok (.iaload, 1)) ∧ (decode prog_2_method_6_code 21 = .ok (.ifCond .eq 5, 3)) ∧ (decode prog_2_method_6_code 26 = .ok (.iinc 2 1, 3)) ∧ (decode prog_2_method_6_code 29 = .ok (.goto (-27), 3)) ∧ (decode prog_2_method_6_code 24 = .ok (.iconst 0, 1)) ∧ (decode prog_2_method_6_code 25 = .ok (.ireturn, 1)) := by decide +kernel
theorem d_PA_areOpen_14 : decode prog_2_method_6_code 14 = .ok (.aload_n 1, 1) := gd_PA_areOpen_14.1
theorem d_PA_areOpen_15 : decode prog_2_method_6_code 15 = .ok (.getfield 66, 3) := gd_PA_areOpen_14.2.1
theorem d_PA_areOpen_18 : decode prog_2_method_6_code 18 = .ok (.iload_n 2, 1) := gd_PA_areOpen_14.2.2.1
theorem d_PA_areOpen_19 : decode prog_2_method_6_code 19 = .ok (.iaload, 1) := gd_PA_areOpen_14.2.2.2.1
theorem d_PA_areOpen_20 : decode prog_2_method_6_code 20 = .ok (.iaload, 1) := gd_PA_areOpen_14.2.2.2.2.1
theorem d_PA_areOpen_21 : decode prog_2_method_6_code 21 = .ok (.ifCond .eq 5, 3) := gd_PA_areOpen_14.2.2.2.2.2.1
theorem d_PA_areOpen_26 : decode prog_2_method_6_code 26 = .ok (.iinc 2 1, 3) := gd_PA_areOpen_14.2.2.2.2.2.2.1
theorem d_PA_areOpen_29 : decode prog_2_method_6_code 29 = .ok (.goto (-27), 3) := gd_PA_areOpen_14.2.2.2.2.2.2.2.1
theorem d_PA_areOpen_24 : decode prog_2_method_6_code 24 = .ok (.iconst 0, 1) := gd_PA_areOpen_14.2.2.2.2.2.2.2.2.1
theorem d_PA_areOpen_25 : decode prog_2_method_6_code 25 = .ok (.ireturn, 1) := gd_PA_areOpen_14.2.2.2.2.2.2.2.2.2
theorem gd_PA_sideInState_0 : (decode prog_2_method_7_code 0 = .ok (.aload_n 0, 1)) ∧ (decode prog_2_method_7_code 1 = .ok (.getfield 25, 3)) ∧ (decode prog_2_method_7_code 4 = .ok (.iconst 2, 1)) ∧ (decode prog_2_method_7_code 5 = .ok (.iload_n 1, 1)) ∧ (decode prog_2_method_7_code 6 = .ok (.bipush 64, 2)) ∧ (decode prog_2_method_7_code 8 = .ok (.imul, 1)) ∧ (decode prog_2_method_7_code 9 = .ok (.iload_n 2, 1)) ∧ (decode prog_2_method_7_code 10 = .ok (.iadd, 1)) ∧ (decode prog_2_method_7_code 11 = .ok (.imul, 1)) ∧ (decode prog_2_method_7_code 12 = .ok (.iload_n 3, 1)) := by decide +kernel
theorem d_PA_sideInState_0 : decode prog_2_method_7_code 0 = .ok (.aload_n 0, 1) := gd_PA_sideInState_0.1
theorem d_PA_sideInState_1 : decode prog_2_method_7_code 1 = .ok (.getfield 25, 3) := gd_PA_sideInState_0.2.1
theorem d_PA_sideInState_4 : decode prog_2_method_7_code 4 = .ok (.iconst 2, 1) := gd_PA_sideInState_0.2.2.1
theorem d_PA_sideInState_5 : decode prog_2_method_7_code 5 = .ok (.iload_n 1, 1) := gd_PA_sideInState_0.2.2.2.1
theorem d_PA_sideInState_6 : decode prog_2_method_7_code 6 = .ok (.bipush 64, 2) := gd_PA_sideInState_0.2.2.2.2.1
theorem d_PA_sideInState_8 : decode prog_2_method_7_code 8 = .ok (.imul, 1) := gd_PA_sideInState_0.2.2.2.2.2.1
theorem d_PA_sideInState_9 : decode prog_2_method_7_code 9 = .ok (.iload_n 2, 1) := gd_PA_sideInState_0.2.2.2.2.2.2.1
theorem d_PA_sideInState_10 : decode prog_2_method_7_code 10 = .ok (.iadd, 1) := gd_PA_sideInState_0.2.2.2.2.2.2.2.1
theorem d_PA_sideInState_11 : decode prog_2_method_7_code 11 = .ok (.imul, 1) := gd_PA_sideInState_0.2.2.2.2.2.2.2.2.1
theorem d_PA_sideInState_12 : decode prog_2_method_7_code 12 = .ok (.iload_n 3, 1) := gd_PA_sideInState_0.2.2.2.2.2.2.2.2.2
theorem gd_PA_sideInState_13 : (decode prog_2_method_7_code 13 = .ok (.iadd, 1)) ∧ (decode prog_2_method_7_code 14 = .ok (.iaload, 1)) ∧ (decode prog_2_method_7_code 15 = .ok (.ireturn, 1)) := by decide +kernel
theorem d_PA_sideInState_13 : decode prog_2_method_7_code 13 = .ok (.iadd, 1) := gd_PA_sideInState_13.1
theorem d_PA_sideInState_14 : decode prog_2_method_7_code 14 = .ok (.iaload, 1) := gd_PA_sideInState_13.2.1
theorem d_PA_sideInState_15 : decode prog_2_method_7_code 15 = .ok (.ireturn, 1) := gd_PA_sideInState_13.2.2
theorem gd_PA_sumOff_0 : (decode prog_2_method_8_code 0 = .ok (.iconst 0, 1)) ∧ (decode prog_2_method_8_code 1 = .ok (.istore_n 1, 1)) ∧ (decode prog_2_method_8_code 2 = .ok (.iconst 0, 1)) ∧ (decode prog_2_method_8_code 3 = .ok (.istore_n 2, 1)) ∧ (decode prog_2_method_8_code 4 = .ok (.iload_n 2, 1)) ∧ (decode prog_2_method_8_code 5 = .ok (.aload_n 0, 1)) ∧ (decode prog_2_method_8_code 6 = .ok (.getfield 9, 3)) ∧ (decode prog_2_method_8_code 9 = .ok (.if_icmp .ge 43, 3)) ∧ (decode prog_2_method_8_code 52 = .ok (.iload_n 1, 1)) ∧ (decode prog_2_method_8_code 53 = .ok (.ireturn, 1)) := by decide +kernel
theorem d_PA_sumOff_0 : decode prog_2_method_8_code 0 = .ok (.iconst 0, 1) := gd_PA_sumOff_0.1
theorem d_PA_sumOff_1 : decode prog_2_method_8_code 1 = .ok (.istore_n 1, 1) := gd_PA_sumOff_0.2.1
theorem d_PA_sumOff_2 : decode prog_2_method_8_code 2 = .ok (.iconst 0, 1) := gd_PA_sumOff_0.2.2.1
theorem d_PA_sumOff_3 : decode prog_2_method_8_code 3 = .ok (.istore_n 2, 1) := gd_PA_sumOff_0.2.2.2.1
theorem d_PA_sumOff_4 : decode prog_2_method_8_code 4 = .ok (.iload_n 2, 1) := gd_PA_sumOff_0.2.2.2.2.1
theorem d_PA_sumOff_5 : decode prog_2_method_8_code 5 = .ok (.aload_n 0, 1) := gd_PA_sumOff_0.2.2.2.2.2.1
theorem d_PA_sumOff_6 : decode prog_2_method_8_code 6 = .ok (.getfield 9, 3) := gd_PA_sumOff_0.2.2.2.2.2.2.1
theorem d_PA_sumOff_9 : decode prog_2_method_8_code 9 = .ok (.if_icmp .ge 43, 3) := gd_PA_sumOff_0.2.2.2.2.2.2.2.1
theorem d_PA_sumOff_52 : decode prog_2_method_8_code 52 = .ok (.iload_n 1, 1) := gd_PA_sumOff_0.2.2.2.2.2.2.2.2.1
theorem d_PA_sumOff_53 : decode prog_2_method_8_code 53 = .ok (.ireturn, 1) := gd_PA_sumOff_0.2.2.2.2.2.2.2.2.2
theorem gd_PA_sumOff_12 : (decode prog_2_method_8_code 12 = .ok (.aload_n 0, 1)) ∧ (decode prog_2_method_8_code 13 = .ok (.getfield 31, 3)) ∧ (decode prog_2_method_8_code 16 = .ok (.iload_n 2, 1)) ∧ (decode prog_2_method_8_code 17 = .ok (.iaload, 1)) ∧ (decode prog_2_method_8_code 18 = .ok (.ifCond .ne 28, 3)) ∧ (decode prog_2_method_8_code 46 = .ok (.iinc 2 1, 3)) ∧ (decode prog_2_method_8_code 49 = .ok (.goto (-45), 3)) ∧ (decode prog_2_method_8_code 21 = .ok (.iload_n 1, 1)) ∧ (decode prog_2_method_8_code 22 = .ok (.aload_n 0, 1)) ∧ (decode prog_2_method_8_code 23 = .ok (.getfield 19, 3)) := by decide +kernel
theorem d_PA_sumOff_12 : decode prog_2_method_8_code 12 = .ok (.aload_n 0, 1) := gd_PA_sumOff_12.1
theorem d_PA_sumOff_13 : decode prog_2_method_8_code 13 = .ok (.getfield 31, 3) := gd_PA_sumOff_12.2.1
theorem d_PA_sumOff_16 : decode prog_2_method_8_code 16 = .ok (.iload_n 2, 1) := gd_PA_sumOff_12.2.2.1
theorem d_PA_sumOff_17 : decode prog_2_method_8_code 17 = .ok (.iaload, 1) := gd_PA_sumOff_12.2.2.2.1
theorem d_PA_sumOff_18 : decode prog_2_method_8_code 18 = .ok (.ifCond .ne 28, 3) := gd_PA_sumOff_12.2.2.2.2.1
theorem d_PA_sumOff_46 : decode prog_2_method_8_code 46 = .ok (.iinc 2 1, 3) := gd_PA_sumOff_12.2.2.2.2.2.1
theorem d_PA_sumOff_49 : decode prog_2_method_8_code 49 = .ok (.goto (-45), 3) := gd_PA_sumOff_12.2.2.2.2.2.2.1
theorem d_PA_sumOff_21 : decode prog_2_method_8_code 21 = .ok (.iload_n 1, 1) := gd_PA_sumOff_12.2.2.2.2.2.2.2.1
theorem d_PA_sumOff_22 : decode prog_2_method_8_code 22 = .ok (.aload_n 0, 1) := gd_PA_sumOff_12.2.2.2.2.2.2.2.2.1
theorem d_PA_sumOff_23 : decode prog_2_method_8_code 23 = .ok (.getfield 19, 3) := gd_PA_sumOff_12.2.2.2.2.2.2.2.2.2
theorem gd_PA_sumOff_26 : (decode prog_2_method_8_code 26 = .ok (.iconst 2, 1)) ∧ (decode prog_2_method_8_code 27 = .ok (.iload_n 2, 1)) ∧ (decode prog_2_method_8_code 28 = .ok (.imul, 1)) ∧ (decode prog_2_method_8_code 29 = .ok (.iaload, 1)) ∧ (decode prog_2_method_8_code 30 = .ok (.aload_n 0, 1)) ∧ (decode prog_2_method_8_code 31 = .ok (.getfield 19, 3)) ∧ (decode prog_2_method_8_code 34 = .ok (.iconst 2, 1)) ∧ (decode prog_2_method_8_code 35 = .ok (.iload_n 2, 1)) ∧ (decode prog_2_method_8_code 36 = .ok (.imul, 1)) ∧ (decode prog_2_method_8_code 37 = .ok (.iconst 1, 1)) := by decide +kernel
theorem d_PA_sumOff_26 : decode prog_2_method_8_code 26 = .ok (.iconst 2, 1) := gd_PA_sumOff_26.1
theorem d_PA_sumOff_27 : decode prog_2_method_8_code 27 = .ok (.iload_n 2, 1) := gd_PA_sumOff_26.2.1
theorem d_PA_sumOff_28 : decode prog_2_method_8_code 28 = .ok (.imul, 1) := gd_PA_sumOff_26.2.2.1
theorem d_PA_sumOff_29 : decode prog_2_method_8_code 29 = .ok (.iaload, 1) := gd_PA_sumOff_26.2.2.2.1
theorem d_PA_sumOff_30 : decode prog_2_method_8_code 30 = .ok (.aload_n 0, 1) := gd_PA_sumOff_26.2.2.2.2.1
theorem d_PA_sumOff_31 : decode prog_2_method_8_code 31 = .ok (.getfield 19, 3) := gd_PA_sumOff_26.2.2.2.2.2.1
theorem d_PA_sumOff_34 : decode prog_2_method_8_code 34 = .ok (.iconst 2, 1) := gd_PA_sumOff_26.2.2.2.2.2.2.1
theorem d_PA_sumOff_35 : decode prog_2_method_8_code 35 = .ok (.iload_n 2, 1) := gd_PA_sumOff_26.2.2.2.2.2.2.2.1
theorem d_PA_sumOff_36 : decode prog_2_method_8_code 36 = .ok (.imul, 1) := gd_PA_sumOff_26.2.2.2.2.2.2.2.2.1
theorem d_PA_sumOff_37 : decode prog_2_method_8_code 37 = .ok (.iconst 1, 1) := gd_PA_sumOff_26.2.2.2.2.2.2.2.2.2
theorem gd_PA_sumOff_38 : (decode prog_2_method_8_code 38 = .ok (.iadd, 1)) ∧ (decode prog_2_method_8_code 39 = .ok (.iaload, 1)) ∧ (decode prog_2_method_8_code 40 = .ok (.isub, 1)) ∧ (decode prog_2_method_8_code 41 = .ok (.invokestatic 69, 3)) ∧ (decode prog_2_method_8_code 44 = .ok (.iadd, 1)) ∧ (decode prog_2_method_8_code 45 = .ok (.istore_n 1, 1)) := by decide +kernel
theorem d_PA_sumOff_38 : decode prog_2_method_8_code 38 = .ok (.iadd, 1) := gd_PA_sumOff_38.1
theorem d_PA_sumOff_39 : decode prog_2_method_8_code 39 = .ok (.iaload, 1) := gd_PA_sumOff_38.2.1
theorem d_PA_sumOff_40 : decode prog_2_method_8_code 40 = .ok (.isub, 1) := gd_PA_sumOff_38.2.2.1
theorem d_PA_sumOff_41 : decode prog_2_method_8_code 41 = .ok (.invokestatic 69, 3) := gd_PA_sumOff_38.2.2.2.1
theorem d_PA_sumOff_44 : decode prog_2_method_8_code 44 = .ok (.iadd, 1) := gd_PA_sumOff_38.2.2.2.2.1
theorem d_PA_sumOff_45 : decode prog_2_method_8_code 45 = .ok (.istore_n 1, 1) := gd_PA_sumOff_38.2.2.2.2.2
theorem gd_PA_setSides_0 : (decode prog_2_method_9_code 0 = .ok (.aload_n 0, 1)) ∧ (decode prog_2_method_9_code 1 = .ok (.getfield 19, 3)) ∧ (decode prog_2_method_9_code 4 = .ok (.iconst 2, 1)) ∧ (decode prog_2_method_9_code 5 = .ok (.iload_n 1, 1)) ∧ (decode prog_2_method_9_code 6 = .ok (.imul, 1)) ∧ (decode prog_2_method_9_code 7 = .ok (.iload_n 2, 1)) ∧ (decode prog_2_method_9_code 8 = .ok (.iastore, 1)) ∧ (decode prog_2_method_9_code 9 = .ok (.aload_n 0, 1)) ∧ (decode prog_2_method_9_code 10 = .ok (.getfield 19, 3)) ∧ (decode prog_2_method_9_code 13 = .ok (.iconst 2, 1)) := by decide +kernel
theorem d_PA_setSides_0 : decode prog_2_method_9_code 0 = .ok (.aload_n 0, 1) := gd_PA_setSides_0.1
theorem d_PA_setSides_1 : decode prog_2_method_9_code 1 = .ok (.getfield 19, 3) := gd_PA_setSides_0.2.1
theorem d_PA_setSides_4 : decode prog_2_method_9_code 4 = .ok (.iconst 2, 1) := gd_PA_setSides_0.2.2.1
theorem d_PA_setSides_5 : decode prog_2_method_9_code 5 = .ok (.iload_n 1, 1) := gd_PA_setSides_0.2.2.2.1
theorem d_PA_setSides_6 : decode prog_2_method_9_code 6 = .ok (.imul, 1) := gd_PA_setSides_0.2.2.2.2.1
theorem d_PA_setSides_7 : decode prog_2_method_9_code 7 = .ok (.iload_n 2, 1) := gd_PA_setSides_0.2.2.2.2.2.1
theorem d_PA_setSides_8 : decode prog_2_method_9_code 8 = .ok (.iastore, 1) := gd_PA_setSides_0.2.2.2.2.2.2.1
theorem d_PA_setSides_9 : decode prog_2_method_9_code 9 = .ok (.aload_n 0, 1) := gd_PA_setSides_0.2.2.2.2.2.2.2.1
theorem d_PA_setSides_10 : decode prog_2_method_9_code 10 = .ok (.getfield 19, 3) := gd_PA_setSides_0.2.2.2.2.2.2.2.2.1
theorem d_PA_setSides_13 : decode prog_2_method_9_code 13 = .ok (.iconst 2, 1) := gd_PA_setSides_0.2.2.2.2.2.2.2.2.2
theorem gd_PA_setSides_14 : (decode prog_2_method_9_code 14 = .ok (.iload_n 1, 1)) ∧ (decode prog_2_method_9_code 15 = .ok (.imul, 1)) ∧ (decode prog_2_method_9_code 16 = .ok (.iconst 1, 1)) ∧ (decode prog_2_method_9_code 17 = .ok (.iadd, 1)) ∧ (decode prog_2_method_9_code 18 = .ok (.iload_n 3, 1)) ∧ (decode prog_2_method_9_code 19 = .ok (.iastore, 1)) ∧ (decode prog_2_method_9_code 20 = .ok (.aload_n 0, 1)) ∧ (decode prog_2_method_9_code 21 = .ok (.getfield 43, 3)) ∧ (decode prog_2_method_9_code 24 = .ok (.iload_n 1, 1)) ∧ (decode prog_2_method_9_code 25 = .ok (.iconst 0, 1)) := by decide +kernel
theorem d_PA_setSides_14 : decode prog_2_method_9_code 14 = .ok (.iload_n 1, 1) := gd_PA_setSides_14.1
theorem d_PA_setSides_15 : decode prog_2_method_9_code 15 = .ok (.imul, 1) := gd_PA_setSides_14.2.1
theorem d_PA_setSides_16 : decode prog_2_method_9_code 16 = .ok (.iconst 1, 1) := gd_PA_setSides_14.2.2.1
theorem d_PA_setSides_17 : decode prog_2_method_9_code 17 = .ok (.iadd, 1) := gd_PA_setSides_14.2.2.2.1
theorem d_PA_setSides_18 : decode prog_2_method_9_code 18 = .ok (.iload_n 3, 1) := gd_PA_setSides_14.2.2.2.2.1
theorem d_PA_setSides_19 : decode prog_2_method_9_code 19 = .ok (.iastore, 1) := gd_PA_setSides_14.2.2.2.2.2.1
theorem d_PA_setSides_20 : decode prog_2_method_9_code 20 = .ok (.aload_n 0, 1) := gd_PA_setSides_14.2.2.2.2.2.2.1
theorem d_PA_setSides_21 : decode prog_2_method_9_code 21 = .ok (.getfield 43, 3) := gd_PA_setSides_14.2.2.2.2.2.2.2.1
theorem d_PA_setSides_24 : decode prog_2_method_9_code 24 = .ok (.iload_n 1, 1) := gd_PA_setSides_14.2.2.2.2.2.2.2.2.1
theorem d_PA_setSides_25 : decode prog_2_method_9_code 25 = .ok (.iconst 0, 1) := gd_PA_setSides_14.2.2.2.2.2.2.2.2.2
theorem gd_PA_setSides_26 : (decode prog_2_method_9_code 26 = .ok (.iastore, 1)) ∧ (decode prog_2_method_9_code 27 = .ok (.aload_n 0, 1)) ∧ (decode prog_2_method_9_code 28 = .ok (.getfield 46, 3)) ∧ (decode prog_2_method_9_code 31 = .ok (.iload_n 1, 1)) ∧ (decode prog_2_method_9_code 32 = .ok (.iload_n 2, 1)) ∧ (decode prog_2_method_9_code 33 = .ok (.iload_n 3, 1)) ∧ (decode prog_2_method_9_code 34 = .ok (.iadd, 1)) ∧ (decode prog_2_method_9_code 35 = .ok (.iastore, 1)) ∧ (decode prog_2_method_9_code 36 = .ok (.return_, 1)) := by decide +kernel
theorem d_PA_setSides_26 : decode prog_2_method_9_code 26 = .ok (.iastore, 1) := gd_PA_setSides_26.1
theorem d_PA_setSides_27 : decode prog_2_method_9_code 27 = .ok (.aload_n 0, 1) := gd_PA_setSides_26.2.1
theorem d_PA_setSides_28 : decode prog_2_method_9_code 28 = .ok (.getfield 46, 3) := gd_PA_setSides_26.2.2.1
theorem d_PA_setSides_31 : decode prog_2_method_9_code 31 = .ok (.iload_n 1, 1) := gd_PA_setSides_26.2.2.2.1
theorem d_PA_setSides_32 : decode prog_2_method_9_code 32 = .ok (.iload_n 2, 1) := gd_PA_setSides_26.2.2.2.2.1
theorem d_PA_setSides_33 : decode prog_2_method_9_code 33 = .ok (.iload_n 3, 1) := gd_PA_setSides_26.2.2.2.2.2.1
theorem d_PA_setSides_34 : decode prog_2_method_9_code 34 = .ok (.iadd, 1) := gd_PA_setSides_26.2.2.2.2.2.2.1
theorem d_PA_setSides_35 : decode prog_2_method_9_code 35 = .ok (.iastore, 1) := gd_PA_setSides_26.2.2.2.2.2.2.2.1
theorem d_PA_setSides_36 : decode prog_2_method_9_code 36 = .ok (.return_, 1) := gd_PA_setSides_26.2.2.2.2.2.2.2.2
theorem gd_PA_addToSide_0 : (decode prog_2_method_10_code 0 = .ok (.iload_n 2, 1)) ∧ (decode prog_2_method_10_code 1 = .ok (.ifCond .ne 31, 3)) ∧ (decode prog_2_method_10_code 32 = .ok (.aload_n 0, 1)) ∧ (decode prog_2_method_10_code 33 = .ok (.iload_n 1, 1)) ∧ (decode prog_2_method_10_code 34 = .ok (.aload_n 0, 1)) ∧ (decode prog_2_method_10_code 35 = .ok (.getfield 19, 3)) ∧ (decode prog_2_method_10_code 38 = .ok (.iconst 2, 1)) ∧ (decode prog_2_method_10_code 39 = .ok (.iload_n 1, 1)) ∧ (decode prog_2_method_10_code 40 = .ok (.imul, 1)) ∧ (decode prog_2_method_10_code 41 = .ok (.iaload, 1)) := by decide +kernel
theorem d_PA_addToSide_0 : decode prog_2_method_10_code 0 = .ok (.iload_n 2, 1) := gd_PA_addToSide_0.1
theorem d_PA_addToSide_1 : decode prog_2_method_10_code 1 = .ok (.ifCond .ne 31, 3) := gd_PA_addToSide_0.2.1
theorem d_PA_addToSide_32 : decode prog_2_method_10_code 32 = .ok (.aload_n 0, 1) := gd_PA_addToSide_0.2.2.1
theorem d_PA_addToSide_33 : decode prog_2_method_10_code 33 = .ok (.iload_n 1, 1) := gd_PA_addToSide_0.2.2.2.1
theorem d_PA_addToSide_34 : decode prog_2_method_10_code 34 = .ok (.aload_n 0, 1) := gd_PA_addToSide_0.2.2.2.2.1
theorem d_PA_addToSide_35 : decode prog_2_method_10_code 35 = .ok (.getfield 19, 3) := gd_PA_addToSide_0.2.2.2.2.2.1
theorem d_PA_addToSide_38 : decode prog_2_method_10_code 38 = .ok (.iconst 2, 1) := gd_PA_addToSide_0.2.2.2.2.2.2.1
theorem d_PA_addToSide_39 : decode prog_2_method_10_code 39 = .ok (.iload_n 1, 1) := gd_PA_addToSide_0.2.2.2.2.2.2.2.1
theorem d_PA_addToSide_40 : decode prog_2_method_10_code 40 = .ok (.imul, 1) := gd_PA_addToSide_0.2.2.2.2.2.2.2.2.1
theorem d_PA_addToSide_41 : decode prog_2_method_10_code 41 = .ok (.iaload, 1) := gd_PA_addToSide_0.2.2.2.2.2.2.2.2.2
theorem gd_PA_addToSide_42 : (decode prog_2_method_10_code 42 = .ok (.aload_n 0, 1)) ∧ (decode prog_2_method_10_code 43 = .ok (.getfield 19, 3)) ∧ (decode prog_2_method_10_code 46 = .ok (.iconst 2, 1)) ∧ (decode prog_2_method_10_code 47 = .ok (.iload_n 1, 1)) ∧ (decode prog_2_method_10_code 48 = .ok (.imul, 1)) ∧ (decode prog_2_method_10_code 49 = .ok (.iconst 1, 1)) ∧ (decode prog_2_method_10_code 50 = .ok (.iadd, 1)) ∧ (decode prog_2_method_10_code 51 = .ok (.iaload, 1)) ∧ (decode prog_2_method_10_code 52 = .ok (.iload_n 3, 1)) ∧ (decode prog_2_method_10_code 53 = .ok (.iadd, 1)) := by decide +kernel
theorem d_PA_addToSide_42 : decode prog_2_method_10_code 42 = .ok (.aload_n 0, 1) := gd_PA_addToSide_42.1
theorem d_PA_addToSide_43 : decode prog_2_method_10_code 43 = .ok (.getfield 19, 3) := gd_PA_addToSide_42.2.1
theorem d_PA_addToSide_46 : decode prog_2_method_10_code 46 = .ok (.iconst 2, 1) := gd_PA_addToSide_42.2.2.1
theorem d_PA_addToSide_47 : decode prog_2_method_10_code 47 = .ok (.iload_n 1, 1) := gd_PA_addToSide_42.2.2.2.1
theorem d_PA_addToSide_48 : decode prog_2_method_10_code 48 = .ok (.imul, 1) := gd_PA_addToSide_42.2.2.2.2.1
theorem d_PA_addToSide_49 : decode prog_2_method_10_code 49 = .ok (.iconst 1, 1) := gd_PA_addToSide_42.2.2.2.2.2.1
theorem d_PA_addToSide_50 : decode prog_2_method_10_code 50 = .ok (.iadd, 1) := gd_PA_addToSide_42.2.2.2.2.2.2.1
theorem d_PA_addToSide_51 : decode prog_2_method_10_code 51 = .ok (.iaload, 1) := gd_PA_addToSide_42.2.2.2.2.2.2.2.1
theorem d_PA_addToSide_52 : decode prog_2_method_10_code 52 = .ok (.iload_n 3, 1) := gd_PA_addToSide_42.2.2.2.2.2.2.2.2.1
theorem d_PA_addToSide_53 : decode prog_2_method_10_code 53 = .ok (.iadd, 1) := gd_PA_addToSide_42.2.2.2.2.2.2.2.2.2
theorem gd_PA_addToSide_54 : (decode prog_2_method_10_code 54 = .ok (.invokevirtual 53, 3)) ∧ (decode prog_2_method_10_code 57 = .ok (.return_, 1)) ∧ (decode prog_2_method_10_code 4 = .ok (.aload_n 0, 1)) ∧ (decode prog_2_method_10_code 5 = .ok (.iload_n 1, 1)) ∧ (decode prog_2_method_10_code 6 = .ok (.aload_n 0, 1)) ∧ (decode prog_2_method_10_code 7 = .ok (.getfield 19, 3)) ∧ (decode prog_2_method_10_code 10 = .ok (.iconst 2, 1)) ∧ (decode prog_2_method_10_code 11 = .ok (.iload_n 1, 1)) ∧ (decode prog_2_method_10_code 12 = .ok (.imul, 1)) ∧ (decode prog_2_method_10_code 13 = .ok (.iaload, 1)) := by decide +kernel
theorem d_PA_addToSide_54 : decode prog_2_method_10_code 54 = .ok (.invokevirtual 53, 3) := gd_PA_addToSide_54.1
theorem d_PA_addToSide_57 : decode prog_2_method_10_code 57 = .ok (.return_, 1) := gd_PA_addToSide_54.2.1
theorem d_PA_addToSide_4 : decode prog_2_method_10_code 4 = .ok (.aload_n 0, 1) := gd_PA_addToSide_54.2.2.1
theorem d_PA_addToSide_5 : decode prog_2_method_10_code 5 = .ok (.iload_n 1, 1) := gd_PA_addToSide_54.2.2.2.1
theorem d_PA_addToSide_6 : decode prog_2_method_10_code 6 = .ok (.aload_n 0, 1) := gd_PA_addToSide_54.2.2.2.2.1
theorem d_PA_addToSide_7 : decode prog_2_method_10_code 7 = .ok (.getfield 19, 3) := gd_PA_addToSide_54.2.2.2.2.2.1
theorem d_PA_addToSide_10 : decode prog_2_method_10_code 10 = .ok (.iconst 2, 1) := gd_PA_addToSide_54.2.2.2.2.2.2.1
theorem d_PA_addToSide_11 : decode prog_2_method_10_code 11 = .ok (.iload_n 1, 1) := gd_PA_addToSide_54.2.2.2.2.2.2.2.1
theorem d_PA_addToSide_12 : decode prog_2_method_10_code 12 = .ok (.imul, 1) := gd_PA_addToSide_54.2.2.2.2.2.2.2.2.1
theorem d_PA_addToSide_13 : decode prog_2_method_10_code 13 = .ok (.iaload, 1) := gd_PA_addToSide_54.2.2.2.2.2.2.2.2.2
theorem gd_PA_addToSide_14 : (decode prog_2_method_10_code 14 = .ok (.iload_n 3, 1)) ∧ (decode prog_2_method_10_code 15 = .ok (.iadd, 1)) ∧ (decode prog_2_method_10_code 16 = .ok (.aload_n 0, 1)) ∧ (decode prog_2_method_10_code 17 = .ok (.getfield 19, 3)) ∧ (decode prog_2_method_10_code 20 = .ok (.iconst 2, 1)) ∧ (decode prog_2_method_10_code 21 = .ok (.iload_n 1, 1)) ∧ (decode prog_2_method_10_code 22 = .ok (.imul, 1)) ∧ (decode prog_2_method_10_code 23 = .ok (.iconst 1, 1)) ∧ (decode prog_2_method_10_code 24 = .ok (.iadd, 1)) ∧ (decode prog_2_method_10_code 25 = .ok (.iaload, 1)) := by decide +kernel
theorem d_PA_addToSide_14 : decode prog_2_method_10_code 14 = .ok (.iload_n 3, 1) := gd_PA_addToSide_14.1
theorem d_PA_addToSide_15 : decode prog_2_method_10_code 15 = .ok (.iadd, 1) := gd_PA_addToSide_14.2.1
theorem d_PA_addToSide_16 : decode prog_2_method_10_code 16 = .ok (.aload_n 0, 1) := gd_PA_addToSide_14.2.2.1
theorem d_PA_addToSide_17 : decode prog_2_method_10_code 17 = .ok (.getfield 19, 3) := gd_PA_addToSide_14.2.2.2.1
theorem d_PA_addToSide_20 : decode prog_2_method_10_code 20 = .ok (.iconst 2, 1) := gd_PA_addToSide_14.2.2.2.2.1
theorem d_PA_addToSide_21 : decode prog_2_method_10_code 21 = .ok (.iload_n 1, 1) := gd_PA_addToSide_14.2.2.2.2.2.1
theorem d_PA_addToSide_22 : decode prog_2_method_10_code 22 = .ok (.imul, 1) := gd_PA_addToSide_14.2.2.2.2.2.2.1
theorem d_PA_addToSide_23 : decode prog_2_method_10_code 23 = .ok (.iconst 1, 1) := gd_PA_addToSide_14.2.2.2.2.2.2.2.1
theorem d_PA_addToSide_24 : decode prog_2_method_10_code 24 = .ok (.iadd, 1) := gd_PA_addToSide_14.2.2.2.2.2.2.2.2.1
theorem d_PA_addToSide_25 : decode prog_2_method_10_code 25 = .ok (.iaload, 1) := gd_PA_addToSide_14.2.2.2.2.2.2.2.2.2
theorem gd_PA_addToSide_26 : (decode prog_2_method_10_code 26 = .ok (.invokevirtual 53, 3)) ∧ (decode prog_2_method_10_code 29 = .ok (.goto 28, 3)) := by decide +kernel
theorem d_PA_addToSide_26 : decode prog_2_method_10_code 26 = .ok (.invokevirtual 53, 3) := gd_PA_addToSide_26.1
theorem d_PA_addToSide_29 : decode prog_2_method_10_code 29 = .ok (.goto 28, 3) := gd_PA_addToSide_26.2
theorem gd_PA_addState_0 : (decode prog_2_method_11_code 0 = .ok (.aload_n 0, 1)) ∧ (decode prog_2_method_11_code 1 = .ok (.getfield 28, 3)) ∧ (decode prog_2_method_11_code 4 = .ok (.iload_n 1, 1)) ∧ (decode prog_2_method_11_code 5 = .ok (.iaload, 1)) ∧ (decode prog_2_method_11_code 6 = .ok (.bipush 64, 2)) ∧ (decode prog_2_method_11_code 8 = .ok (.if_icmp .ge 13, 3)) ∧ (decode prog_2_method_11_code 21 = .ok (.iconst 2, 1)) ∧ (decode prog_2_method_11_code 22 = .ok (.iload_n 1, 1)) ∧ (decode prog_2_method_11_code 23 = .ok (.bipush 64, 2)) ∧ (decode prog_2_method_11_code 25 = .ok (.imul, 1)) := by decide +kernel
theorem d_PA_addState_0 : decode prog_2_method_11_code 0 = .ok (.aload_n 0, 1) := gd_PA_addState_0.1
theorem d_PA_addState_1 : decode prog_2_method_11_code 1 = .ok (.getfield 28, 3) := gd_PA_addState_0.2.1
theorem d_PA_addState_4 : decode prog_2_method_11_code 4 = .ok (.iload_n 1, 1) := gd_PA_addState_0.2.2.1
theorem d_PA_addState_5 : decode prog_2_method_11_code 5 = .ok (.iaload, 1) := gd_PA_addState_0.2.2.2.1
theorem d_PA_addState_6 : decode prog_2_method_11_code 6 = .ok (.bipush 64, 2) := gd_PA_addState_0.2.2.2.2.1
theorem d_PA_addState_8 : decode prog_2_method_11_code 8 = .ok (.if_icmp .ge 13, 3) := gd_PA_addState_0.2.2.2.2.2.1
theorem d_PA_addState_21 : decode prog_2_method_11_code 21 = .ok (.iconst 2, 1) := gd_PA_addState_0.2.2.2.2.2.2.1
theorem d_PA_addState_22 : decode prog_2_method_11_code 22 = .ok (.iload_n 1, 1) := gd_PA_addState_0.2.2.2.2.2.2.2.1
theorem d_PA_addState_23 : decode prog_2_method_11_code 23 = .ok (.bipush 64, 2) := gd_PA_addState_0.2.2.2.2.2.2.2.2.1
theorem d_PA_addState_25 : decode prog_2_method_11_code 25 = .ok (.imul, 1) := gd_PA_addState_0.2.2.2.2.2.2.2.2.2
theorem gd_PA_addState_26 : (decode prog_2_method_11_code 26 = .ok (.aload_n 0, 1)) ∧ (decode prog_2_method_11_code 27 = .ok (.getfield 28, 3)) ∧ (decode prog_2_method_11_code 30 = .ok (.iload_n 1, 1)) ∧ (decode prog_2_method_11_code 31 = .ok (.iaload, 1)) ∧ (decode prog_2_method_11_code 32 = .ok (.iadd, 1)) ∧ (decode prog_2_method_11_code 33 = .ok (.iconst 1, 1)) ∧ (decode prog_2_method_11_code 34 = .ok (.isub, 1)) ∧ (decode prog_2_method_11_code 35 = .ok (.imul, 1)) ∧ (decode prog_2_method_11_code 36 = .ok (.istore_n 2, 1)) ∧ (decode prog_2_method_11_code 37 = .ok (.aload_n 0, 1)) := by decide +kernel
theorem d_PA_addState_26 : decode prog_2_method_11_code 26 = .ok (.aload_n 0, 1) := gd_PA_addState_26.1
theorem d_PA_addState_27 : decode prog_2_method_11_code 27 = .ok (.getfield 28, 3) := gd_PA_addState_26.2.1
theorem d_PA_addState_30 : decode prog_2_method_11_code 30 = .ok (.iload_n 1, 1) := gd_PA_addState_26.2.2.1
theorem d_PA_addState_31 : decode prog_2_method_11_code 31 = .ok (.iaload, 1) := gd_PA_addState_26.2.2.2.1
theorem d_PA_addState_32 : decode prog_2_method_11_code 32 = .ok (.iadd, 1) := gd_PA_addState_26.2.2.2.2.1
theorem d_PA_addState_33 : decode prog_2_method_11_code 33 = .ok (.iconst 1, 1) := gd_PA_addState_26.2.2.2.2.2.1
theorem d_PA_addState_34 : decode prog_2_method_11_code 34 = .ok (.isub, 1) := gd_PA_addState_26.2.2.2.2.2.2.1
theorem d_PA_addState_35 : decode prog_2_method_11_code 35 = .ok (.imul, 1) := gd_PA_addState_26.2.2.2.2.2.2.2.1
theorem d_PA_addState_36 : decode prog_2_method_11_code 36 = .ok (.istore_n 2, 1) := gd_PA_addState_26.2.2.2.2.2.2.2.2.1
theorem d_PA_addState_37 : decode prog_2_method_11_code 37 = .ok (.aload_n 0, 1) := gd_PA_addState_26.2.2.2.2.2.2.2.2.2
theorem gd_PA_addState_38 : (decode prog_2_method_11_code 38 = .ok (.getfield 25, 3)) ∧ (decode prog_2_method_11_code 41 = .ok (.iload_n 2, 1)) ∧ (decode prog_2_method_11_code 42 = .ok (.aload_n 0, 1)) ∧ (decode prog_2_method_11_code 43 = .ok (.getfield 19, 3)) ∧ (decode prog_2_method_11_code 46 = .ok (.iconst 2, 1)) ∧ (decode prog_2_method_11_code 47 = .ok (.iload_n 1, 1)) ∧ (decode prog_2_method_11_code 48 = .ok (.imul, 1)) ∧ (decode prog_2_method_11_code 49 = .ok (.iaload, 1)) ∧ (decode prog_2_method_11_code 50 = .ok (.aload_n 0, 1)) ∧ (decode prog_2_method_11_code 51 = .ok (.getfield 22, 3)) := by decide +kernel
theorem d_PA_addState_38 : decode prog_2_method_11_code 38 = .ok (.getfield 25, 3) := gd_PA_addState_38.1
theorem d_PA_addState_41 : decode prog_2_method_11_code 41 = .ok (.iload_n 2, 1) := gd_PA_addState_38.2.1
theorem d_PA_addState_42 : decode prog_2_method_11_code 42 = .ok (.aload_n 0, 1) := gd_PA_addState_38.2.2.1
theorem d_PA_addState_43 : decode prog_2_method_11_code 43 = .ok (.getfield 19, 3) := gd_PA_addState_38.2.2.2.1
theorem d_PA_addState_46 : decode prog_2_method_11_code 46 = .ok (.iconst 2, 1) := gd_PA_addState_38.2.2.2.2.1
theorem d_PA_addState_47 : decode prog_2_method_11_code 47 = .ok (.iload_n 1, 1) := gd_PA_addState_38.2.2.2.2.2.1
theorem d_PA_addState_48 : decode prog_2_method_11_code 48 = .ok (.imul, 1) := gd_PA_addState_38.2.2.2.2.2.2.1
theorem d_PA_addState_49 : decode prog_2_method_11_code 49 = .ok (.iaload, 1) := gd_PA_addState_38.2.2.2.2.2.2.2.1
theorem d_PA_addState_50 : decode prog_2_method_11_code 50 = .ok (.aload_n 0, 1) := gd_PA_addState_38.2.2.2.2.2.2.2.2.1
theorem d_PA_addState_51 : decode prog_2_method_11_code 51 = .ok (.getfield 22, 3) := gd_PA_addState_38.2.2.2.2.2.2.2.2.2
theorem gd_PA_addState_54 : (decode prog_2_method_11_code 54 = .ok (.iconst 2, 1)) ∧ (decode prog_2_method_11_code 55 = .ok (.iload_n 1, 1)) ∧ (decode prog_2_method_11_code 56 = .ok (.imul, 1)) ∧ (decode prog_2_method_11_code 57 = .ok (.iaload, 1)) ∧ (decode prog_2_method_11_code 58 = .ok (.iadd, 1)) ∧ (decode prog_2_method_11_code 59 = .ok (.iastore, 1)) ∧ (decode prog_2_method_11_code 60 = .ok (.aload_n 0, 1)) ∧ (decode prog_2_method_11_code 61 = .ok (.getfield 25, 3)) ∧ (decode prog_2_method_11_code 64 = .ok (.iload_n 2, 1)) ∧ (decode prog_2_method_11_code 65 = .ok (.iconst 1, 1)) := by decide +kernel
theorem d_PA_addState_54 : decode prog_2_method_11_code 54 = .ok (.iconst 2, 1) := gd_PA_addState_54.1
theorem d_PA_addState_55 : decode prog_2_method_11_code 55 = .ok (.iload_n 1, 1) := gd_PA_addState_54.2.1
theorem d_PA_addState_56 : decode prog_2_method_11_code 56 = .ok (.imul, 1) := gd_PA_addState_54.2.2.1
theorem d_PA_addState_57 : decode prog_2_method_11_code 57 = .ok (.iaload, 1) := gd_PA_addState_54.2.2.2.1
theorem d_PA_addState_58 : decode prog_2_method_11_code 58 = .ok (.iadd, 1) := gd_PA_addState_54.2.2.2.2.1
theorem d_PA_addState_59 : decode prog_2_method_11_code 59 = .ok (.iastore, 1) := gd_PA_addState_54.2.2.2.2.2.1
theorem d_PA_addState_60 : decode prog_2_method_11_code 60 = .ok (.aload_n 0, 1) := gd_PA_addState_54.2.2.2.2.2.2.1
theorem d_PA_addState_61 : decode prog_2_method_11_code 61 = .ok (.getfield 25, 3) := gd_PA_addState_54.2.2.2.2.2.2.2.1
theorem d_PA_addState_64 : decode prog_2_method_11_code 64 = .ok (.iload_n 2, 1) := gd_PA_addState_54.2.2.2.2.2.2.2.2.1
theorem d_PA_addState_65 : decode prog_2_method_11_code 65 = .ok (.iconst 1, 1) := gd_PA_addState_54.2.2.2.2.2.2.2.2.2
theorem gd_PA_addState_66 : (decode prog_2_method_11_code 66 = .ok (.iadd, 1)) ∧ (decode prog_2_method_11_code 67 = .ok (.aload_n 0, 1)) ∧ (decode prog_2_method_11_code 68 = .ok (.getfield 19, 3)) ∧ (decode prog_2_method_11_code 71 = .ok (.iconst 2, 1)) ∧ (decode prog_2_method_11_code 72 = .ok (.iload_n 1, 1)) ∧ (decode prog_2_method_11_code 73 = .ok (.imul, 1)) ∧ (decode prog_2_method_11_code 74 = .ok (.iconst 1, 1)) ∧ (decode prog_2_method_11_code 75 = .ok (.iadd, 1)) ∧ (decode prog_2_method_11_code 76 = .ok (.iaload, 1)) ∧ (decode prog_2_method_11_code 77 = .ok (.aload_n 0, 1)) := by decide +kernel
theorem d_PA_addState_66 : decode prog_2_method_11_code 66 = .ok (.iadd, 1) := gd_PA_addState_66.1
theorem d_PA_addState_67 : decode prog_2_method_11_code 67 = .ok (.aload_n 0, 1) := gd_PA_addState_66.2.1
theorem d_PA_addState_68 : decode prog_2_method_11_code 68 = .ok (.getfield 19, 3) := gd_PA_addState_66.2.2.1
theorem d_PA_addState_71 : decode prog_2_method_11_code 71 = .ok (.iconst 2, 1) := gd_PA_addState_66.2.2.2.1
theorem d_PA_addState_72 : decode prog_2_method_11_code 72 = .ok (.iload_n 1, 1) := gd_PA_addState_66.2.2.2.2.1
theorem d_PA_addState_73 : decode prog_2_method_11_code 73 = .ok (.imul, 1) := gd_PA_addState_66.2.2.2.2.2.1
theorem d_PA_addState_74 : decode prog_2_method_11_code 74 = .ok (.iconst 1, 1) := gd_PA_addState_66.2.2.2.2.2.2.1
theorem d_PA_addState_75 : decode prog_2_method_11_code 75 = .ok (.iadd, 1) := gd_PA_addState_66.2.2.2.2.2.2.2.1
theorem d_PA_addState_76 : decode prog_2_method_11_code 76 = .ok (.iaload, 1) := gd_PA_addState_66.2.2.2.2.2.2.2.2.1
theorem d_PA_addState_77 : decode prog_2_method_11_code 77 = .ok (.aload_n 0, 1) := gd_PA_addState_66.2.2.2.2.2.2.2.2.2
theorem gd_PA_addState_78 : (decode prog_2_method_11_code 78 = .ok (.getfield 22, 3)) ∧ (decode prog_2_method_11_code 81 = .ok (.iconst 2, 1)) ∧ (decode prog_2_method_11_code 82 = .ok (.iload_n 1, 1)) ∧ (decode prog_2_method_11_code 83 = .ok (.imul, 1)) ∧ (decode prog_2_method_11_code 84 = .ok (.iconst 1, 1)) ∧ (decode prog_2_method_11_code 85 = .ok (.iadd, 1)) ∧ (decode prog_2_method_11_code 86 = .ok (.iaload, 1)) ∧ (decode prog_2_method_11_code 87 = .ok (.iadd, 1)) ∧ (decode prog_2_method_11_code 88 = .ok (.iastore, 1)) ∧ (decode prog_2_method_11_code 89 = .ok (.return_, 1)) := by decide +kernel
theorem d_PA_addState_78 : decode prog_2_method_11_code 78 = .ok (.getfield 22, 3) := gd_PA_addState_78.1
theorem d_PA_addState_81 : decode prog_2_method_11_code 81 = .ok (.iconst 2, 1) := gd_PA_addState_78.2.1
theorem d_PA_addState_82 : decode prog_2_method_11_code 82 = .ok (.iload_n 1, 1) := gd_PA_addState_78.2.2.1
theorem d_PA_addState_83 : decode prog_2_method_11_code 83 = .ok (.imul, 1) := gd_PA_addState_78.2.2.2.1
theorem d_PA_addState_84 : decode prog_2_method_11_code 84 = .ok (.iconst 1, 1) := gd_PA_addState_78.2.2.2.2.1
theorem d_PA_addState_85 : decode prog_2_method_11_code 85 = .ok (.iadd, 1) := gd_PA_addState_78.2.2.2.2.2.1
theorem d_PA_addState_86 : decode prog_2_method_11_code 86 = .ok (.iaload, 1) := gd_PA_addState_78.2.2.2.2.2.2.1
theorem d_PA_addState_87 : decode prog_2_method_11_code 87 = .ok (.iadd, 1) := gd_PA_addState_78.2.2.2.2.2.2.2.1
theorem d_PA_addState_88 : decode prog_2_method_11_code 88 = .ok (.iastore, 1) := gd_PA_addState_78.2.2.2.2.2.2.2.2.1
theorem d_PA_addState_89 : decode prog_2_method_11_code 89 = .ok (.return_, 1) := gd_PA_addState_78.2.2.2.2.2.2.2.2.2
theorem gd_PA_addState_11 : (decode prog_2_method_11_code 11 = .ok (.aload_n 0, 1)) ∧ (decode prog_2_method_11_code 12 = .ok (.getfield 28, 3)) ∧ (decode prog_2_method_11_code 15 = .ok (.iload_n 1, 1)) ∧ (decode prog_2_method_11_code 16 = .ok (.dup2, 1)) ∧ (decode prog_2_method_11_code 17 = .ok (.iaload, 1)) ∧ (decode prog_2_method_11_code 18 = .ok (.iconst 1, 1)) ∧ (decode prog_2_method_11_code 19 = .ok (.iadd, 1)) ∧ (decode prog_2_method_11_code 20 = .ok (.iastore, 1)) := by decide +kernel
theorem d_PA_addState_11 : decode prog_2_method_11_code 11 = .ok (.aload_n 0, 1) := gd_PA_addState_11.1
theorem d_PA_addState_12 : decode prog_2_method_11_code 12 = .ok (.getfield 28, 3) := gd_PA_addState_11.2.1
theorem d_PA_addState_15 : decode prog_2_method_11_code 15 = .ok (.iload_n 1, 1) := gd_PA_addState_11.2.2.1
theorem d_PA_addState_16 : decode prog_2_method_11_code 16 = .ok (.dup2, 1) := gd_PA_addState_11.2.2.2.1
theorem d_PA_addState_17 : decode prog_2_method_11_code 17 = .ok (.iaload, 1) := gd_PA_addState_11.2.2.2.2.1
theorem d_PA_addState_18 : decode prog_2_method_11_code 18 = .ok (.iconst 1, 1) := gd_PA_addState_11.2.2.2.2.2.1
theorem d_PA_addState_19 : decode prog_2_method_11_code 19 = .ok (.iadd, 1) := gd_PA_addState_11.2.2.2.2.2.2.1
theorem d_PA_addState_20 : decode prog_2_method_11_code 20 = .ok (.iastore, 1) := gd_PA_addState_11.2.2.2.2.2.2.2
theorem gd_PA_lock_0 : (decode prog_2_method_12_code 0 = .ok (.aload_n 0, 1)) ∧ (decode prog_2_method_12_code 1 = .ok (.getfield 22, 3)) ∧ (decode prog_2_method_12_code 4 = .ok (.iconst 2, 1)) ∧ (decode prog_2_method_12_code 5 = .ok (.iload_n 1, 1)) ∧ (decode prog_2_method_12_code 6 = .ok (.imul, 1)) ∧ (decode prog_2_method_12_code 7 = .ok (.iload_n 2, 1)) ∧ (decode prog_2_method_12_code 8 = .ok (.iadd, 1)) ∧ (decode prog_2_method_12_code 9 = .ok (.dup2, 1)) ∧ (decode prog_2_method_12_code 10 = .ok (.iaload, 1)) ∧ (decode prog_2_method_12_code 11 = .ok (.iload_n 3, 1)) := by decide +kernel
theorem d_PA_lock_0 : decode prog_2_method_12_code 0 = .ok (.aload_n 0, 1) := gd_PA_lock_0.1
theorem d_PA_lock_1 : decode prog_2_method_12_code 1 = .ok (.getfield 22, 3) := gd_PA_lock_0.2.1
theorem d_PA_lock_4 : decode prog_2_method_12_code 4 = .ok (.iconst 2, 1) := gd_PA_lock_0.2.2.1
theorem d_PA_lock_5 : decode prog_2_method_12_code 5 = .ok (.iload_n 1, 1) := gd_PA_lock_0.2.2.2.1
theorem d_PA_lock_6 : decode prog_2_method_12_code 6 = .ok (.imul, 1) := gd_PA_lock_0.2.2.2.2.1
theorem d_PA_lock_7 : decode prog_2_method_12_code 7 = .ok (.iload_n 2, 1) := gd_PA_lock_0.2.2.2.2.2.1
theorem d_PA_lock_8 : decode prog_2_method_12_code 8 = .ok (.iadd, 1) := gd_PA_lock_0.2.2.2.2.2.2.1
theorem d_PA_lock_9 : decode prog_2_method_12_code 9 = .ok (.dup2, 1) := gd_PA_lock_0.2.2.2.2.2.2.2.1
theorem d_PA_lock_10 : decode prog_2_method_12_code 10 = .ok (.iaload, 1) := gd_PA_lock_0.2.2.2.2.2.2.2.2.1
theorem d_PA_lock_11 : decode prog_2_method_12_code 11 = .ok (.iload_n 3, 1) := gd_PA_lock_0.2.2.2.2.2.2.2.2.2
theorem gd_PA_lock_12 : (decode prog_2_method_12_code 12 = .ok (.iadd, 1)) ∧ (decode prog_2_method_12_code 13 = .ok (.iastore, 1)) ∧ (decode prog_2_method_12_code 14 = .ok (.aload_n 0, 1)) ∧ (decode prog_2_method_12_code 15 = .ok (.iload_n 1, 1)) ∧ (decode prog_2_method_12_code 16 = .ok (.iload_n 2, 1)) ∧ (decode prog_2_method_12_code 17 = .ok (.iload_n 3, 1)) ∧ (decode prog_2_method_12_code 18 = .ok (.ineg, 1)) ∧ (decode prog_2_method_12_code 19 = .ok (.invokevirtual 75, 3)) ∧ (decode prog_2_method_12_code 22 = .ok (.return_, 1)) := by decide +kernel
theorem d_PA_lock_12 : decode prog_2_method_12_code 12 = .ok (.iadd, 1) := gd_PA_lock_12.1
theorem d_PA_lock_13 : decode prog_2_method_12_code 13 = .ok (.iastore, 1) := gd_PA_lock_12.2.1
theorem d_PA_lock_14 : decode prog_2_method_12_code 14 = .ok (.aload_n 0, 1) := gd_PA_lock_12.2.2.1
theorem d_PA_lock_15 : decode prog_2_method_12_code 15 = .ok (.iload_n 1, 1) := gd_PA_lock_12.2.2.2.1
theorem d_PA_lock_16 : decode prog_2_method_12_code 16 = .ok (.iload_n 2, 1) := gd_PA_lock_12.2.2.2.2.1
theorem d_PA_lock_17 : decode prog_2_method_12_code 17 = .ok (.iload_n 3, 1) := gd_PA_lock_12.2.2.2.2.2.1
theorem d_PA_lock_18 : decode prog_2_method_12_code 18 = .ok (.ineg, 1) := gd_PA_lock_12.2.2.2.2.2.2.1
theorem d_PA_lock_19 : decode prog_2_method_12_code 19 = .ok (.invokevirtual 75, 3) := gd_PA_lock_12.2.2.2.2.2.2.2.1
theorem d_PA_lock_22 : decode prog_2_method_12_code 22 = .ok (.return_, 1) := gd_PA_lock_12.2.2.2.2.2.2.2.2
theorem gd_PA_giveBack_0 : (decode prog_2_method_13_code 0 = .ok (.aload_n 0, 1)) ∧ (decode prog_2_method_13_code 1 = .ok (.getfield 22, 3)) ∧ (decode prog_2_method_13_code 4 = .ok (.iconst 2, 1)) ∧ (decode prog_2_method_13_code 5 = .ok (.iload_n 1, 1)) ∧ (decode prog_2_method_13_code 6 = .ok (.imul, 1)) ∧ (decode prog_2_method_13_code 7 = .ok (.iload_n 2, 1)) ∧ (decode prog_2_method_13_code 8 = .ok (.iadd, 1)) ∧ (decode prog_2_method_13_code 9 = .ok (.dup2, 1)) ∧ (decode prog_2_method_13_code 10 = .ok (.iaload, 1)) ∧ (decode prog_2_method_13_code 11 = .ok (.iload_n 3, 1)) := by decide +kernel
theorem d_PA_giveBack_0 : decode prog_2_method_13_code 0 = .ok (.aload_n 0, 1) := gd_PA_giveBack_0.1
theorem d_PA_giveBack_1 : decode prog_2_method_13_code 1 = .ok (.getfield 22, 3) := gd_PA_giveBack_0.2.1
theorem d_PA_giveBack_4 : decode prog_2_method_13_code 4 = .ok (.iconst 2, 1) := gd_PA_giveBack_0.2.2.1
theorem d_PA_giveBack_5 : decode prog_2_method_13_code 5 = .ok (.iload_n 1, 1) := gd_PA_giveBack_0.2.2.2.1
theorem d_PA_giveBack_6 : decode prog_2_method_13_code 6 = .ok (.imul, 1) := gd_PA_giveBack_0.2.2.2.2.1
theorem d_PA_giveBack_7 : decode prog_2_method_13_code 7 = .ok (.iload_n 2, 1) := gd_PA_giveBack_0.2.2.2.2.2.1
theorem d_PA_giveBack_8 : decode prog_2_method_13_code 8 = .ok (.iadd, 1) := gd_PA_giveBack_0.2.2.2.2.2.2.1
theorem d_PA_giveBack_9 : decode prog_2_method_13_code 9 = .ok (.dup2, 1) := gd_PA_giveBack_0.2.2.2.2.2.2.2.1
theorem d_PA_giveBack_10 : decode prog_2_method_13_code 10 = .ok (.iaload, 1) := gd_PA_giveBack_0.2.2.2.2.2.2.2.2.1
theorem d_PA_giveBack_11 : decode prog_2_method_13_code 11 = .ok (.iload_n 3, 1) := gd_PA_giveBack_0.2.2.2.2.2.2.2.2.2
theorem gd_PA_giveBack_12 : (decode prog_2_method_13_code 12 = .ok (.isub, 1)) ∧ (decode prog_2_method_13_code 13 = .ok (.iastore, 1)) ∧ (decode prog_2_method_13_code 14 = .ok (.aload_n 0, 1)) ∧ (decode prog_2_method_13_code 15 = .ok (.iload_n 1, 1)) ∧ (decode prog_2_method_13_code 16 = .ok (.iload_n 2, 1)) ∧ (decode prog_2_method_13_code 17 = .ok (.iload_n 3, 1)) ∧ (decode prog_2_method_13_code 18 = .ok (.invokevirtual 75, 3)) ∧ (decode prog_2_method_13_code 21 = .ok (.return_, 1)) := by decide +kernel
theorem d_PA_giveBack_12 : decode prog_2_method_13_code 12 = .ok (.isub, 1) := gd_PA_giveBack_12.1
theorem d_PA_giveBack_13 : decode prog_2_method_13_code 13 = .ok (.iastore, 1) := gd_PA_giveBack_12.2.1
theorem d_PA_giveBack_14 : decode prog_2_method_13_code 14 = .ok (.aload_n 0, 1) := gd_PA_giveBack_12.2.2.1
theorem d_PA_giveBack_15 : decode prog_2_method_13_code 15 = .ok (.iload_n 1, 1) := gd_PA_giveBack_12.2.2.2.1
theorem d_PA_giveBack_16 : decode prog_2_method_13_code 16 = .ok (.iload_n 2, 1) := gd_PA_giveBack_12.2.2.2.2.1
theorem d_PA_giveBack_17 : decode prog_2_method_13_code 17 = .ok (.iload_n 3, 1) := gd_PA_giveBack_12.2.2.2.2.2.1
theorem d_PA_giveBack_18 : decode prog_2_method_13_code 18 = .ok (.invokevirtual 75, 3) := gd_PA_giveBack_12.2.2.2.2.2.2.1
theorem d_PA_giveBack_21 : decode prog_2_method_13_code 21 = .ok (.return_, 1) := gd_PA_giveBack_12.2.2.2.2.2.2.2
theorem gd_PA_handOver_0 : (decode prog_2_method_14_code 0 = .ok (.aload_n 0, 1)) ∧ (decode prog_2_method_14_code 1 = .ok (.getfield 22, 3)) ∧ (decode prog_2_method_14_code 4 = .ok (.iconst 2, 1)) ∧ (decode prog_2_method_14_code 5 = .ok (.iload_n 1, 1)) ∧ (decode prog_2_method_14_code 6 = .ok (.imul, 1)) ∧ (decode prog_2_method_14_code 7 = .ok (.iload_n 2, 1)) ∧ (decode prog_2_method_14_code 8 = .ok (.iadd, 1)) ∧ (decode prog_2_method_14_code 9 = .ok (.dup2, 1)) ∧ (decode prog_2_method_14_code 10 = .ok (.iaload, 1)) ∧ (decode prog_2_method_14_code 11 = .ok (.iload_n 3, 1)) := by decide +kernel
theorem d_PA_handOver_0 : decode prog_2_method_14_code 0 = .ok (.aload_n 0, 1) := gd_PA_handOver_0.1
theorem d_PA_handOver_1 : decode prog_2_method_14_code 1 = .ok (.getfield 22, 3) := gd_PA_handOver_0.2.1
theorem d_PA_handOver_4 : decode prog_2_method_14_code 4 = .ok (.iconst 2, 1) := gd_PA_handOver_0.2.2.1
theorem d_PA_handOver_5 : decode prog_2_method_14_code 5 = .ok (.iload_n 1, 1) := gd_PA_handOver_0.2.2.2.1
theorem d_PA_handOver_6 : decode prog_2_method_14_code 6 = .ok (.imul, 1) := gd_PA_handOver_0.2.2.2.2.1
theorem d_PA_handOver_7 : decode prog_2_method_14_code 7 = .ok (.iload_n 2, 1) := gd_PA_handOver_0.2.2.2.2.2.1
theorem d_PA_handOver_8 : decode prog_2_method_14_code 8 = .ok (.iadd, 1) := gd_PA_handOver_0.2.2.2.2.2.2.1
theorem d_PA_handOver_9 : decode prog_2_method_14_code 9 = .ok (.dup2, 1) := gd_PA_handOver_0.2.2.2.2.2.2.2.1
theorem d_PA_handOver_10 : decode prog_2_method_14_code 10 = .ok (.iaload, 1) := gd_PA_handOver_0.2.2.2.2.2.2.2.2.1
theorem d_PA_handOver_11 : decode prog_2_method_14_code 11 = .ok (.iload_n 3, 1) := gd_PA_handOver_0.2.2.2.2.2.2.2.2.2
theorem gd_PA_handOver_12 : (decode prog_2_method_14_code 12 = .ok (.isub, 1)) ∧ (decode prog_2_method_14_code 13 = .ok (.iastore, 1)) ∧ (decode prog_2_method_14_code 14 = .ok (.aload_n 0, 1)) ∧ (decode prog_2_method_14_code 15 = .ok (.iload_n 1, 1)) ∧ (decode prog_2_method_14_code 16 = .ok (.iconst 1, 1)) ∧ (decode prog_2_method_14_code 17 = .ok (.iload_n 2, 1)) ∧ (decode prog_2_method_14_code 18 = .ok (.isub, 1)) ∧ (decode prog_2_method_14_code 19 = .ok (.iload_n 3, 1)) ∧ (decode prog_2_method_14_code 20 = .ok (.invokevirtual 75, 3)) ∧ (decode prog_2_method_14_code 23 = .ok (.aload_n 0, 1)) := by decide +kernel
theorem d_PA_handOver_12 : decode prog_2_method_14_code 12 = .ok (.isub, 1) := gd_PA_handOver_12.1
theorem d_PA_handOver_13 : decode prog_2_method_14_code 13 = .ok (.iastore, 1) := gd_PA_handOver_12.2.1
theorem d_PA_handOver_14 : decode prog_2_method_14_code 14 = .ok (.aload_n 0, 1) := gd_PA_handOver_12.2.2.1
theorem d_PA_handOver_15 : decode prog_2_method_14_code 15 = .ok (.iload_n 1, 1) := gd_PA_handOver_12.2.2.2.1
theorem d_PA_handOver_16 : decode prog_2_method_14_code 16 = .ok (.iconst 1, 1) := gd_PA_handOver_12.2.2.2.2.1
theorem d_PA_handOver_17 : decode prog_2_method_14_code 17 = .ok (.iload_n 2, 1) := gd_PA_handOver_12.2.2.2.2.2.1
theorem d_PA_handOver_18 : decode prog_2_method_14_code 18 = .ok (.isub, 1) := gd_PA_handOver_12.2.2.2.2.2.2.1
theorem d_PA_handOver_19 : decode prog_2_method_14_code 19 = .ok (.iload_n 3, 1) := gd_PA_handOver_12.2.2.2.2.2.2.2.1
theorem d_PA_handOver_20 : decode prog_2_method_14_code 20 = .ok (.invokevirtual 75, 3) := gd_PA_handOver_12.2.2.2.2.2.2.2.2.1
theorem d_PA_handOver_23 : decode prog_2_method_14_code 23 = .ok (.aload_n 0, 1) := gd_PA_handOver_12.2.2.2.2.2.2.2.2.2
theorem gd_PA_handOver_24 : (decode prog_2_method_14_code 24 = .ok (.iload_n 1, 1)) ∧ (decode prog_2_method_14_code 25 = .ok (.invokevirtual 57, 3)) ∧ (decode prog_2_method_14_code 28 = .ok (.return_, 1)) := by decide +kernel
theorem d_PA_handOver_24 : decode prog_2_method_14_code 24 = .ok (.iload_n 1, 1) := gd_PA_handOver_24.1
theorem d_PA_handOver_25 : decode prog_2_method_14_code 25 = .ok (.invokevirtual 57, 3) := gd_PA_handOver_24.2.1
theorem d_PA_handOver_28 : decode prog_2_method_14_code 28 = .ok (.return_, 1) := gd_PA_handOver_24.2.2
theorem gd_PA_move_0 : (decode prog_2_method_15_code 0 = .ok (.aload_n 0, 1)) ∧ (decode prog_2_method_15_code 1 = .ok (.iload_n 1, 1)) ∧ (decode prog_2_method_15_code 2 = .ok (.iload_n 2, 1)) ∧ (decode prog_2_method_15_code 3 = .ok (.iload_n 3, 1)) ∧ (decode prog_2_method_15_code 4 = .ok (.ineg, 1)) ∧ (decode prog_2_method_15_code 5 = .ok (.invokevirtual 75, 3)) ∧ (decode prog_2_method_15_code 8 = .ok (.aload_n 0, 1)) ∧ (decode prog_2_method_15_code 9 = .ok (.iload_n 1, 1)) ∧ (decode prog_2_method_15_code 10 = .ok (.iconst 1, 1)) ∧ (decode prog_2_method_15_code 11 = .ok (.iload_n 2, 1)) := by decide +kernel
theorem d_PA_move_0 : decode prog_2_method_15_code 0 = .ok (.aload_n 0, 1) := gd_PA_move_0.1
theorem d_PA_move_1 : decode prog_2_method_15_code 1 = .ok (.iload_n 1, 1) := gd_PA_move_0.2.1
theorem d_PA_move_2 : decode prog_2_method_15_code 2 = .ok (.iload_n 2, 1) := gd_PA_move_0.2.2.1
theorem d_PA_move_3 : decode prog_2_method_15_code 3 = .ok (.iload_n 3, 1) := gd_PA_move_0.2.2.2.1
theorem d_PA_move_4 : decode prog_2_method_15_code 4 = .ok (.ineg, 1) := gd_PA_move_0.2.2.2.2.1
theorem d_PA_move_5 : decode prog_2_method_15_code 5 = .ok (.invokevirtual 75, 3) := gd_PA_move_0.2.2.2.2.2.1
theorem d_PA_move_8 : decode prog_2_method_15_code 8 = .ok (.aload_n 0, 1) := gd_PA_move_0.2.2.2.2.2.2.1
theorem d_PA_move_9 : decode prog_2_method_15_code 9 = .ok (.iload_n 1, 1) := gd_PA_move_0.2.2.2.2.2.2.2.1
theorem d_PA_move_10 : decode prog_2_method_15_code 10 = .ok (.iconst 1, 1) := gd_PA_move_0.2.2.2.2.2.2.2.2.1
theorem d_PA_move_11 : decode prog_2_method_15_code 11 = .ok (.iload_n 2, 1) := gd_PA_move_0.2.2.2.2.2.2.2.2.2
theorem gd_PA_move_12 : (decode prog_2_method_15_code 12 = .ok (.isub, 1)) ∧ (decode prog_2_method_15_code 13 = .ok (.iload_n 3, 1)) ∧ (decode prog_2_method_15_code 14 = .ok (.invokevirtual 75, 3)) ∧ (decode prog_2_method_15_code 17 = .ok (.aload_n 0, 1)) ∧ (decode prog_2_method_15_code 18 = .ok (.iload_n 1, 1)) ∧ (decode prog_2_method_15_code 19 = .ok (.invokevirtual 57, 3)) ∧ (decode prog_2_method_15_code 22 = .ok (.return_, 1)) := by decide +kernel
theorem d_PA_move_12 : decode prog_2_method_15_code 12 = .ok (.isub, 1) := gd_PA_move_12.1
theorem d_PA_move_13 : decode prog_2_method_15_code 13 = .ok (.iload_n 3, 1) := gd_PA_move_12.2.1
theorem d_PA_move_14 : decode prog_2_method_15_code 14 = .ok (.invokevirtual 75, 3) := gd_PA_move_12.2.2.1
theorem d_PA_move_17 : decode prog_2_method_15_code 17 = .ok (.aload_n 0, 1) := gd_PA_move_12.2.2.2.1
theorem d_PA_move_18 : decode prog_2_method_15_code 18 = .ok (.iload_n 1, 1) := gd_PA_move_12.2.2.2.2.1
theorem d_PA_move_19 : decode prog_2_method_15_code 19 = .ok (.invokevirtual 57, 3) := gd_PA_move_12.2.2.2.2.2.1
theorem d_PA_move_22 : decode prog_2_method_15_code 22 = .ok (.return_, 1) := gd_PA_move_12.2.2.2.2.2.2
theorem gd_PA_finish_0 : (decode prog_2_method_19_code 0 = .ok (.aload_n 0, 1)) ∧ (decode prog_2_method_19_code 1 = .ok (.getfield 31, 3)) ∧ (decode prog_2_method_19_code 4 = .ok (.iload_n 1, 1)) ∧ (decode prog_2_method_19_code 5 = .ok (.iconst 2, 1)) ∧ (decode prog_2_method_19_code 6 = .ok (.iastore, 1)) ∧ (decode prog_2_method_19_code 7 = .ok (.aload_n 0, 1)) ∧ (decode prog_2_method_19_code 8 = .ok (.iload_n 1, 1)) ∧ (decode prog_2_method_19_code 9 = .ok (.iconst 0, 1)) ∧ (decode prog_2_method_19_code 10 = .ok (.iconst 0, 1)) ∧ (decode prog_2_method_19_code 11 = .ok (.invokevirtual 53, 3)) := by decide +kernel
theorem d_PA_finish_0 : decode prog_2_method_19_code 0 = .ok (.aload_n 0, 1) := gd_PA_finish_0.1
theorem d_PA_finish_1 : decode prog_2_method_19_code 1 = .ok (.getfield 31, 3) := gd_PA_finish_0.2.1
theorem d_PA_finish_4 : decode prog_2_method_19_code 4 = .ok (.iload_n 1, 1) := gd_PA_finish_0.2.2.1
theorem d_PA_finish_5 : decode prog_2_method_19_code 5 = .ok (.iconst 2, 1) := gd_PA_finish_0.2.2.2.1
theorem d_PA_finish_6 : decode prog_2_method_19_code 6 = .ok (.iastore, 1) := gd_PA_finish_0.2.2.2.2.1
theorem d_PA_finish_7 : decode prog_2_method_19_code 7 = .ok (.aload_n 0, 1) := gd_PA_finish_0.2.2.2.2.2.1
theorem d_PA_finish_8 : decode prog_2_method_19_code 8 = .ok (.iload_n 1, 1) := gd_PA_finish_0.2.2.2.2.2.2.1
theorem d_PA_finish_9 : decode prog_2_method_19_code 9 = .ok (.iconst 0, 1) := gd_PA_finish_0.2.2.2.2.2.2.2.1
theorem d_PA_finish_10 : decode prog_2_method_19_code 10 = .ok (.iconst 0, 1) := gd_PA_finish_0.2.2.2.2.2.2.2.2.1
theorem d_PA_finish_11 : decode prog_2_method_19_code 11 = .ok (.invokevirtual 53, 3) := gd_PA_finish_0.2.2.2.2.2.2.2.2.2
theorem d_PA_finish_14 : decode prog_2_method_19_code 14 = .ok (.return_, 1) := by decide +kernel
theorem gd_PA_beginClosing_0 : (decode prog_2_method_16_code 0 = .ok (.aload_n 0, 1)) ∧ (decode prog_2_method_16_code 1 = .ok (.getfield 31, 3)) ∧ (decode prog_2_method_16_code 4 = .ok (.iload_n 1, 1)) ∧ (decode prog_2_method_16_code 5 = .ok (.iconst 1, 1)) ∧ (decode prog_2_method_16_code 6 = .ok (.iastore, 1)) ∧ (decode prog_2_method_16_code 7 = .ok (.aload_n 0, 1)) ∧ (decode prog_2_method_16_code 8 = .ok (.getfield 37, 3)) ∧ (decode prog_2_method_16_code 11 = .ok (.iload_n 1, 1)) ∧ (decode prog_2_method_16_code 12 = .ok (.iload_n 2, 1)) ∧ (decode prog_2_method_16_code 13 = .ok (.iastore, 1)) := by decide +kernel
theorem d_PA_beginClosing_0 : decode prog_2_method_16_code 0 = .ok (.aload_n 0, 1) := gd_PA_beginClosing_0.1
theorem d_PA_beginClosing_1 : decode prog_2_method_16_code 1 = .ok (.getfield 31, 3) := gd_PA_beginClosing_0.2.1
theorem d_PA_beginClosing_4 : decode prog_2_method_16_code 4 = .ok (.iload_n 1, 1) := gd_PA_beginClosing_0.2.2.1
theorem d_PA_beginClosing_5 : decode prog_2_method_16_code 5 = .ok (.iconst 1, 1) := gd_PA_beginClosing_0.2.2.2.1
theorem d_PA_beginClosing_6 : decode prog_2_method_16_code 6 = .ok (.iastore, 1) := gd_PA_beginClosing_0.2.2.2.2.1
theorem d_PA_beginClosing_7 : decode prog_2_method_16_code 7 = .ok (.aload_n 0, 1) := gd_PA_beginClosing_0.2.2.2.2.2.1
theorem d_PA_beginClosing_8 : decode prog_2_method_16_code 8 = .ok (.getfield 37, 3) := gd_PA_beginClosing_0.2.2.2.2.2.2.1
theorem d_PA_beginClosing_11 : decode prog_2_method_16_code 11 = .ok (.iload_n 1, 1) := gd_PA_beginClosing_0.2.2.2.2.2.2.2.1
theorem d_PA_beginClosing_12 : decode prog_2_method_16_code 12 = .ok (.iload_n 2, 1) := gd_PA_beginClosing_0.2.2.2.2.2.2.2.2.1
theorem d_PA_beginClosing_13 : decode prog_2_method_16_code 13 = .ok (.iastore, 1) := gd_PA_beginClosing_0.2.2.2.2.2.2.2.2.2
theorem gd_PA_beginClosing_14 : (decode prog_2_method_16_code 14 = .ok (.aload_n 0, 1)) ∧ (decode prog_2_method_16_code 15 = .ok (.getfield 40, 3)) ∧ (decode prog_2_method_16_code 18 = .ok (.iload_n 1, 1)) ∧ (decode prog_2_method_16_code 19 = .ok (.iload_n 3, 1)) ∧ (decode prog_2_method_16_code 20 = .ok (.iastore, 1)) ∧ (decode prog_2_method_16_code 21 = .ok (.aload_n 0, 1)) ∧ (decode prog_2_method_16_code 22 = .ok (.getfield 34, 3)) ∧ (decode prog_2_method_16_code 25 = .ok (.iload_n 1, 1)) ∧ (decode prog_2_method_16_code 26 = .ok (.iload 4, 2)) ∧ (decode prog_2_method_16_code 28 = .ok (.iastore, 1)) := by decide +kernel
theorem d_PA_beginClosing_14 : decode prog_2_method_16_code 14 = .ok (.aload_n 0, 1) := gd_PA_beginClosing_14.1
theorem d_PA_beginClosing_15 : decode prog_2_method_16_code 15 = .ok (.getfield 40, 3) := gd_PA_beginClosing_14.2.1
theorem d_PA_beginClosing_18 : decode prog_2_method_16_code 18 = .ok (.iload_n 1, 1) := gd_PA_beginClosing_14.2.2.1
theorem d_PA_beginClosing_19 : decode prog_2_method_16_code 19 = .ok (.iload_n 3, 1) := gd_PA_beginClosing_14.2.2.2.1
theorem d_PA_beginClosing_20 : decode prog_2_method_16_code 20 = .ok (.iastore, 1) := gd_PA_beginClosing_14.2.2.2.2.1
theorem d_PA_beginClosing_21 : decode prog_2_method_16_code 21 = .ok (.aload_n 0, 1) := gd_PA_beginClosing_14.2.2.2.2.2.1
theorem d_PA_beginClosing_22 : decode prog_2_method_16_code 22 = .ok (.getfield 34, 3) := gd_PA_beginClosing_14.2.2.2.2.2.2.1
theorem d_PA_beginClosing_25 : decode prog_2_method_16_code 25 = .ok (.iload_n 1, 1) := gd_PA_beginClosing_14.2.2.2.2.2.2.2.1
theorem d_PA_beginClosing_26 : decode prog_2_method_16_code 26 = .ok (.iload 4, 2) := gd_PA_beginClosing_14.2.2.2.2.2.2.2.2.1
theorem d_PA_beginClosing_28 : decode prog_2_method_16_code 28 = .ok (.iastore, 1) := gd_PA_beginClosing_14.2.2.2.2.2.2.2.2.2
theorem d_PA_beginClosing_29 : decode prog_2_method_16_code 29 = .ok (.return_, 1) := by decide +kernel
set_option maxHeartbeats 4000000 in
set_option maxRecDepth 100000 in
theorem e_within (l : Launch) (D : va_G) (cI cZ : ClassId) (v : Int32) (a : Int32) (b : Int32) (sz : Nat)  : Met l ⟨"PromiseChains", "isWithin", "(III)Z"⟩ (mw ⟨"PromiseChains", "isWithin", "(III)Z"⟩ prog_1_method_28_code 3 (some .boolean)) ({ frames := 0, cells := 0, slots := 0, locals := 0 }) (va_Pc [.int v, .int a, .int b] (PB D cI cZ sz [])) (vp_Si (fun r => r = isw v a b)) 0 0 (fun _ => False) := by
  refine Met.ofW (cc := prog_1_method_28_code) (maxL := 3) (ret := (some .boolean)) (by decide) rfl ?_
  intro p e s m args below meth c s₁ B hml hv
  obtain ⟨rfl, hsz, hP, hK, hD0, hN⟩ := hv
  have hx := B.exec
  have hb := B.bytes
  have hr := B.returns
  have hts0 := atoms_spec (ws := mw ⟨"PromiseChains", "isWithin", "(III)Z"⟩ prog_1_method_28_code 3 (some .boolean)) B.pre
  have hts : ∀ w ∈ tblG, w.before _ s = true := fun w h => hts0 w (List.mem_cons_of_mem _ h)
  have hown : s.vm.findClass "PromiseChains" = some m.cls := findClass_of_methodNamed B.named
  have hlocks := B.notSynchronized
  subst hsz
  have hD := hD0
  have hP : va_P D vwCl [] s.heap := hP
  have hl := lv_entry ([.int v, .int a, .int b]) (n := 3) (Nat.le_of_ble_eq_true rfl)
  rw [lg_entry_eq]
  generalize (lg_sl ([.int v, .int a, .int b]) ++ List.replicate (3 - (lg_sl ([.int v, .int a, .int b])).length) Slot.unset).toArray = ls at hl ⊢
  have hl : lv_has ls 3 [(0, .int v), (1, .int a), (2, .int b)] := hl
  refine lv_iload_n hx hb d_PC_isWithin_0 rfl (lv_at hl 0 rfl) ?_
  refine lv_iload_n hx hb d_PC_isWithin_1 rfl (lv_at hl 1 rfl) ?_
  refine lv_icmp_lt (tgt := 14) hx hb d_PC_isWithin_2 (by decide) (fun h_1 => ?_) (fun h_1 => ?_)
  · refine lv_iconst (v := 0) hx hb d_PC_isWithin_14 (by decide) ?_
    exact W.zret (v := 0) hx hb hr rfl (fun tT ht hW => ⟨0, rfl, (by simp [isw, h_1]), ht⟩) (fun q h => absurd h List.not_mem_nil) d_PC_isWithin_15
  · refine lv_iload_n hx hb d_PC_isWithin_5 rfl (lv_at hl 0 rfl) ?_
    refine lv_iload_n hx hb d_PC_isWithin_6 rfl (lv_at hl 2 rfl) ?_
    refine lv_icmp_gt (tgt := 14) hx hb d_PC_isWithin_7 (by decide) (fun h_2 => ?_) (fun h_2 => ?_)
    · refine lv_iconst (v := 0) hx hb d_PC_isWithin_14 (by decide) ?_
      exact W.zret (v := 0) hx hb hr rfl (fun tT ht hW => ⟨0, rfl, (by simp [isw, h_1, h_2]), ht⟩) (fun q h => absurd h List.not_mem_nil) d_PC_isWithin_15
    · refine lv_iconst (v := 1) hx hb d_PC_isWithin_10 (by decide) ?_
      refine lv_goto (tgt := 15) hx hb d_PC_isWithin_11 (by decide) ?_
      exact W.zret (v := 1) hx hb hr rfl (fun tT ht hW => ⟨1, rfl, (by simp [isw, h_1, h_2]), ht⟩) (fun q h => absurd h List.not_mem_nil) d_PC_isWithin_15

set_option maxHeartbeats 4000000 in
set_option maxRecDepth 100000 in
theorem e_PE_has (l : Launch) (D : va_G) (cI cZ : ClassId) (f0 : Nat) (i : Int32) (nn : Nat) (f1 : Nat) (f2 : Nat) (f3 : Nat) (f4 : Nat) (sz : Nat) (h_nn : nn ≤ 7) : Met l ⟨"PromiseChains$People", "has", "(I)Z"⟩ (mw ⟨"PromiseChains$People", "has", "(I)Z"⟩ prog_3_method_3_code 2 (some .boolean)) ({ frames := 1, cells := 0, slots := 0, locals := 22 }) (va_Pc [.ref f0, .int i] (PB D cI cZ sz [(f0, .inr (1, [.int (nI nn), .ref f1, .ref f2, .ref f3, .ref f4]))])) (vp_Si (fun r => (isw i 0 (nI nn - 1) = 0 ∧ r = 0) ∨ (∃ j : Nat, j < nn ∧ i = nI j ∧ ¬ isw i 0 (nI nn - 1) = 0 ∧ r = 1))) 0 0 (fun _ => False) := by
  refine Met.ofW (cc := prog_3_method_3_code) (maxL := 2) (ret := (some .boolean)) (by decide) rfl ?_
  intro p e s m args below meth c s₁ B hml hv
  obtain ⟨rfl, hsz, hP, hK, hD0, hN⟩ := hv
  have hx := B.exec
  have hb := B.bytes
  have hr := B.returns
  have hts0 := atoms_spec (ws := mw ⟨"PromiseChains$People", "has", "(I)Z"⟩ prog_3_method_3_code 2 (some .boolean)) B.pre
  have hts : ∀ w ∈ tblG, w.before _ s = true := fun w h => hts0 w (List.mem_cons_of_mem _ h)
  have hown : s.vm.findClass "PromiseChains$People" = some m.cls := findClass_of_methodNamed B.named
  have hlocks := B.notSynchronized
  subst hsz
  have hD := hD0
  have hP : va_P D vwCl [(f0, .inr (1, [.int (nI nn), .ref f1, .ref f2, .ref f3, .ref f4]))] s.heap := hP
  have hl := lv_entry ([.ref f0, .int i]) (n := 2) (Nat.le_of_ble_eq_true rfl)
  rw [lg_entry_eq]
  generalize (lg_sl ([.ref f0, .int i]) ++ List.replicate (2 - (lg_sl ([.ref f0, .int i])).length) Slot.unset).toArray = ls at hl ⊢
  have hl : lv_has ls 2 [(0, .ref f0), (1, .int i)] := hl
  refine lv_iload_n hx hb d_PE_has_0 rfl (lv_at hl 1 rfl) ?_
  refine lv_iconst (v := 0) hx hb d_PE_has_1 (by decide) ?_
  refine lv_aload_n hx hb d_PE_has_2 rfl (lv_at hl 0 rfl) ?_
  refine va_get (D := D) (ci := 1) (v := .int (nI nn)) (C := R_PE) (T := F_PE) (N := 5) hx hb hts i_PE hown hK hP 0 rfl rfl 0 (by decide) (hts _ q_24) (fun _ h9 => h9) rfl d_PE_has_3 ?_
  refine lv_iconst (v := 1) hx hb d_PE_has_6 (by decide) ?_
  refine lv_isub hx hb d_PE_has_7 ?_
  have hPc := hP.sub (ws' := []) [] rfl
  have hDc := hD.sub (ws' := []) [] (by decide +kernel) rfl
  refine vp_callSi (va_Run.run (va_runSN (As := [.int i, .int 0, .int ((nI nn) - 1)]) (rest := []) ⟨hx, hb, hml, hown, hts⟩ (e_within l D cI cZ i 0 ((nI nn) - 1) s.heap.size ) ⟨(my_cwN 3 hts q_290 (hN _ nw_303) q_1 rfl rfl (by decide +kernel) ⟨Nat.le_of_ble_eq_true rfl, Nat.le_of_ble_eq_true rfl⟩), hts _ q_289, trivial⟩ (my_preS hPc hDc hK hN) rfl rfl hl.1 rfl (lv_room (Nat.le_of_ble_eq_true rfl)) d_PE_has_8 ⟨Nat.le_of_ble_eq_true rfl, Nat.le_of_ble_eq_true rfl⟩)) (fun r_1 hw_1 => ?_)
  have hf_1_0 : r_1 = isw i 0 ((nI nn) - 1) := hw_1
  have hf_1_0 : r_1 = isw i 0 ((nI nn) - 1) := hf_1_0
  subst hf_1_0
  by_cases hz_2 : isw i 0 ((nI nn) - 1) = 0
  · refine lv_seti (0) hz_2 ?_
    exact W.zret (v := 0) hx hb hr rfl (fun tT ht hW => ⟨0, rfl, (Or.inl ⟨hz_2, rfl⟩), ht⟩) (fun q h => absurd h List.not_mem_nil) d_PE_has_11
  · obtain ⟨j, hj, hi⟩ := isw_nI (by omega) hz_2
    refine lv_seti (1) (isw_one hz_2) ?_
    exact W.zret (v := 1) hx hb hr rfl (fun tT ht hW => ⟨1, rfl, (Or.inr ⟨j, hj, hi, hz_2, rfl⟩), ht⟩) (fun q h => absurd h List.not_mem_nil) d_PE_has_11

set_option maxHeartbeats 4000000 in
set_option maxRecDepth 100000 in
theorem e_PA_has (l : Launch) (D : va_G) (cI cZ : ClassId) (a0 : Nat) (i : Int32) (np : Nat) (a1 : Nat) (a2 : Nat) (a3 : Nat) (a4 : Nat) (a5 : Nat) (a6 : Nat) (a7 : Nat) (a8 : Nat) (a9 : Nat) (a10 : Nat) (a11 : Nat) (sz : Nat) (h_np : np ≤ 12) : Met l ⟨"PromiseChains$Pairs", "has", "(I)Z"⟩ (mw ⟨"PromiseChains$Pairs", "has", "(I)Z"⟩ prog_2_method_2_code 2 (some .boolean)) ({ frames := 1, cells := 0, slots := 0, locals := 22 }) (va_Pc [.ref a0, .int i] (PB D cI cZ sz [(a0, .inr (2, [.int (nI np), .ref a1, .ref a2, .ref a3, .ref a4, .ref a5, .ref a6, .ref a7, .ref a8, .ref a9, .ref a10, .ref a11]))])) (vp_Si (fun r => (isw i 0 (nI np - 1) = 0 ∧ r = 0) ∨ (∃ j : Nat, j < np ∧ i = nI j ∧ ¬ isw i 0 (nI np - 1) = 0 ∧ r = 1))) 0 0 (fun _ => False) := by
  refine Met.ofW (cc := prog_2_method_2_code) (maxL := 2) (ret := (some .boolean)) (by decide) rfl ?_
  intro p e s m args below meth c s₁ B hml hv
  obtain ⟨rfl, hsz, hP, hK, hD0, hN⟩ := hv
  have hx := B.exec
  have hb := B.bytes
  have hr := B.returns
  have hts0 := atoms_spec (ws := mw ⟨"PromiseChains$Pairs", "has", "(I)Z"⟩ prog_2_method_2_code 2 (some .boolean)) B.pre
  have hts : ∀ w ∈ tblG, w.before _ s = true := fun w h => hts0 w (List.mem_cons_of_mem _ h)
  have hown : s.vm.findClass "PromiseChains$Pairs" = some m.cls := findClass_of_methodNamed B.named
  have hlocks := B.notSynchronized
  subst hsz
  have hD := hD0
  have hP : va_P D vwCl [(a0, .inr (2, [.int (nI np), .ref a1, .ref a2, .ref a3, .ref a4, .ref a5, .ref a6, .ref a7, .ref a8, .ref a9, .ref a10, .ref a11]))] s.heap := hP
  have hl := lv_entry ([.ref a0, .int i]) (n := 2) (Nat.le_of_ble_eq_true rfl)
  rw [lg_entry_eq]
  generalize (lg_sl ([.ref a0, .int i]) ++ List.replicate (2 - (lg_sl ([.ref a0, .int i])).length) Slot.unset).toArray = ls at hl ⊢
  have hl : lv_has ls 2 [(0, .ref a0), (1, .int i)] := hl
  refine lv_iload_n hx hb d_PA_has_0 rfl (lv_at hl 1 rfl) ?_
  refine lv_iconst (v := 0) hx hb d_PA_has_1 (by decide) ?_
  refine lv_aload_n hx hb d_PA_has_2 rfl (lv_at hl 0 rfl) ?_
  refine va_get (D := D) (ci := 2) (v := .int (nI np)) (C := R_PA) (T := F_PA) (N := 12) hx hb hts i_PA hown hK hP 0 rfl rfl 0 (by decide) (hts _ q_56) (fun _ h9 => h9) rfl d_PA_has_3 ?_
  refine lv_iconst (v := 1) hx hb d_PA_has_6 (by decide) ?_
  refine lv_isub hx hb d_PA_has_7 ?_
  have hPc := hP.sub (ws' := []) [] rfl
  have hDc := hD.sub (ws' := []) [] (by decide +kernel) rfl
  refine vp_callSi (va_Run.run (va_runSN (As := [.int i, .int 0, .int ((nI np) - 1)]) (rest := []) ⟨hx, hb, hml, hown, hts⟩ (e_within l D cI cZ i 0 ((nI np) - 1) s.heap.size ) ⟨(my_cwN 3 hts q_290 (hN _ nw_487) q_1 rfl rfl (by decide +kernel) ⟨Nat.le_of_ble_eq_true rfl, Nat.le_of_ble_eq_true rfl⟩), hts _ q_289, trivial⟩ (my_preS hPc hDc hK hN) rfl rfl hl.1 rfl (lv_room (Nat.le_of_ble_eq_true rfl)) d_PA_has_8 ⟨Nat.le_of_ble_eq_true rfl, Nat.le_of_ble_eq_true rfl⟩)) (fun r_1 hw_1 => ?_)
  have hf_1_0 : r_1 = isw i 0 ((nI np) - 1) := hw_1
  have hf_1_0 : r_1 = isw i 0 ((nI np) - 1) := hf_1_0
  subst hf_1_0
  by_cases hz_2 : isw i 0 ((nI np) - 1) = 0
  · refine lv_seti (0) hz_2 ?_
    exact W.zret (v := 0) hx hb hr rfl (fun tT ht hW => ⟨0, rfl, (Or.inl ⟨hz_2, rfl⟩), ht⟩) (fun q h => absurd h List.not_mem_nil) d_PA_has_11
  · obtain ⟨j, hj, hi⟩ := isw_nI (by omega) hz_2
    refine lv_seti (1) (isw_one hz_2) ?_
    exact W.zret (v := 1) hx hb hr rfl (fun tT ht hW => ⟨1, rfl, (Or.inr ⟨j, hj, hi, hz_2, rfl⟩), ht⟩) (fun q h => absurd h List.not_mem_nil) d_PA_has_11

set_option maxHeartbeats 4000000 in
set_option maxRecDepth 100000 in
theorem e_PR_has (l : Launch) (D : va_G) (cI cZ : ClassId) (r0 : Nat) (i : Int32) (nq : Nat) (HA : Int32) (r1 : Nat) (r2 : Nat) (r3 : Nat) (r4 : Nat) (r5 : Nat) (r6 : Nat) (r7 : Nat) (r8 : Nat) (r9 : Nat) (r10 : Nat) (r11 : Nat) (sz : Nat) (h_nq : nq ≤ 40) : Met l ⟨"PromiseChains$Promises", "has", "(I)Z"⟩ (mw ⟨"PromiseChains$Promises", "has", "(I)Z"⟩ prog_4_method_3_code 2 (some .boolean)) ({ frames := 1, cells := 0, slots := 0, locals := 22 }) (va_Pc [.ref r0, .int i] (PB D cI cZ sz [(r0, .inr (3, [.int (nI nq), .int HA, .ref r1, .ref r2, .ref r3, .ref r4, .ref r5, .ref r6, .ref r7, .ref r8, .ref r9, .ref r10, .ref r11]))])) (vp_Si (fun r => (isw i 0 (nI nq - 1) = 0 ∧ r = 0) ∨ (∃ j : Nat, j < nq ∧ i = nI j ∧ ¬ isw i 0 (nI nq - 1) = 0 ∧ r = 1))) 0 0 (fun _ => False) := by
  refine Met.ofW (cc := prog_4_method_3_code) (maxL := 2) (ret := (some .boolean)) (by decide) rfl ?_
  intro p e s m args below meth c s₁ B hml hv
  obtain ⟨rfl, hsz, hP, hK, hD0, hN⟩ := hv
  have hx := B.exec
  have hb := B.bytes
  have hr := B.returns
  have hts0 := atoms_spec (ws := mw ⟨"PromiseChains$Promises", "has", "(I)Z"⟩ prog_4_method_3_code 2 (some .boolean)) B.pre
  have hts : ∀ w ∈ tblG, w.before _ s = true := fun w h => hts0 w (List.mem_cons_of_mem _ h)
  have hown : s.vm.findClass "PromiseChains$Promises" = some m.cls := findClass_of_methodNamed B.named
  have hlocks := B.notSynchronized
  subst hsz
  have hD := hD0
  have hP : va_P D vwCl [(r0, .inr (3, [.int (nI nq), .int HA, .ref r1, .ref r2, .ref r3, .ref r4, .ref r5, .ref r6, .ref r7, .ref r8, .ref r9, .ref r10, .ref r11]))] s.heap := hP
  have hl := lv_entry ([.ref r0, .int i]) (n := 2) (Nat.le_of_ble_eq_true rfl)
  rw [lg_entry_eq]
  generalize (lg_sl ([.ref r0, .int i]) ++ List.replicate (2 - (lg_sl ([.ref r0, .int i])).length) Slot.unset).toArray = ls at hl ⊢
  have hl : lv_has ls 2 [(0, .ref r0), (1, .int i)] := hl
  refine lv_iload_n hx hb d_PR_has_0 rfl (lv_at hl 1 rfl) ?_
  refine lv_iconst (v := 0) hx hb d_PR_has_1 (by decide) ?_
  refine lv_aload_n hx hb d_PR_has_2 rfl (lv_at hl 0 rfl) ?_
  refine va_get (D := D) (ci := 3) (v := .int (nI nq)) (C := R_PR) (T := F_PR) (N := 13) hx hb hts i_PR hown hK hP 0 rfl rfl 0 (by decide) (hts _ q_110) (fun _ h9 => h9) rfl d_PR_has_3 ?_
  refine lv_iconst (v := 1) hx hb d_PR_has_6 (by decide) ?_
  refine lv_isub hx hb d_PR_has_7 ?_
  have hPc := hP.sub (ws' := []) [] rfl
  have hDc := hD.sub (ws' := []) [] (by decide +kernel) rfl
  refine vp_callSi (va_Run.run (va_runSN (As := [.int i, .int 0, .int ((nI nq) - 1)]) (rest := []) ⟨hx, hb, hml, hown, hts⟩ (e_within l D cI cZ i 0 ((nI nq) - 1) s.heap.size ) ⟨(my_cwN 3 hts q_290 (hN _ nw_458) q_1 rfl rfl (by decide +kernel) ⟨Nat.le_of_ble_eq_true rfl, Nat.le_of_ble_eq_true rfl⟩), hts _ q_289, trivial⟩ (my_preS hPc hDc hK hN) rfl rfl hl.1 rfl (lv_room (Nat.le_of_ble_eq_true rfl)) d_PR_has_8 ⟨Nat.le_of_ble_eq_true rfl, Nat.le_of_ble_eq_true rfl⟩)) (fun r_1 hw_1 => ?_)
  have hf_1_0 : r_1 = isw i 0 ((nI nq) - 1) := hw_1
  have hf_1_0 : r_1 = isw i 0 ((nI nq) - 1) := hf_1_0
  subst hf_1_0
  by_cases hz_2 : isw i 0 ((nI nq) - 1) = 0
  · refine lv_seti (0) hz_2 ?_
    exact W.zret (v := 0) hx hb hr rfl (fun tT ht hW => ⟨0, rfl, (Or.inl ⟨hz_2, rfl⟩), ht⟩) (fun q h => absurd h List.not_mem_nil) d_PR_has_11
  · obtain ⟨j, hj, hi⟩ := isw_nI (by omega) hz_2
    refine lv_seti (1) (isw_one hz_2) ?_
    exact W.zret (v := 1) hx hb hr rfl (fun tT ht hW => ⟨1, rfl, (Or.inr ⟨j, hj, hi, hz_2, rfl⟩), ht⟩) (fun q h => absurd h List.not_mem_nil) d_PR_has_11

set_option maxHeartbeats 4000000 in
set_option maxRecDepth 100000 in
theorem e_PE_feeOf (l : Launch) (D : va_G) (cI cZ : ClassId) (f0 : Nat) (j : Nat) (y : Int32) (nn : Nat) (f1 : Nat) (f2 : Nat) (f3 : Nat) (f4 : Nat) (FB : Nat → Int32) (FR : Nat → Int32) (sz : Nat) (h_nn : nn ≤ 7) (hj : j < 7) : Met l ⟨"PromiseChains$People", "feeOf", "(II)I"⟩ (mw ⟨"PromiseChains$People", "feeOf", "(II)I"⟩ prog_3_method_4_code 3 (some .int)) ({ frames := 0, cells := 0, slots := 0, locals := 0 }) (va_Pc [.ref f0, .int (nI j), .int y] (PB D cI cZ sz [(f0, .inr (1, [.int (nI nn), .ref f1, .ref f2, .ref f3, .ref f4])), (f2, .inl (cI, 7, .inl FB)), (f3, .inl (cI, 7, .inl FR))])) (vp_Si (fun r => r = (FB j) + ((y * (FR j)) / 1000))) 0 0 (fun _ => False) := by
  refine Met.ofW (cc := prog_3_method_4_code) (maxL := 3) (ret := (some .int)) (by decide) rfl ?_
  intro p e s m args below meth c s₁ B hml hv
  obtain ⟨rfl, hsz, hP, hK, hD0, hN⟩ := hv
  have hx := B.exec
  have hb := B.bytes
  have hr := B.returns
  have hts0 := atoms_spec (ws := mw ⟨"PromiseChains$People", "feeOf", "(II)I"⟩ prog_3_method_4_code 3 (some .int)) B.pre
  have hts : ∀ w ∈ tblG, w.before _ s = true := fun w h => hts0 w (List.mem_cons_of_mem _ h)
  have hown : s.vm.findClass "PromiseChains$People" = some m.cls := findClass_of_methodNamed B.named
  have hlocks := B.notSynchronized
  subst hsz
  have hD := hD0
  have hP : va_P D vwCl [(f0, .inr (1, [.int (nI nn), .ref f1, .ref f2, .ref f3, .ref f4])), (f2, .inl (cI, 7, .inl FB)), (f3, .inl (cI, 7, .inl FR))] s.heap := hP
  have hl := lv_entry ([.ref f0, .int (nI j), .int y]) (n := 3) (Nat.le_of_ble_eq_true rfl)
  rw [lg_entry_eq]
  generalize (lg_sl ([.ref f0, .int (nI j), .int y]) ++ List.replicate (3 - (lg_sl ([.ref f0, .int (nI j), .int y])).length) Slot.unset).toArray = ls at hl ⊢
  have hl : lv_has ls 3 [(0, .ref f0), (1, .int (nI j)), (2, .int y)] := hl
  refine lv_aload_n hx hb d_PE_feeOf_0 rfl (lv_at hl 0 rfl) ?_
  refine va_get (D := D) (ci := 1) (v := .ref f2) (C := R_PE) (T := F_PE) (N := 5) hx hb hts i_PE hown hK hP 0 rfl rfl 2 (by decide) (hts _ q_29) (fun _ h9 => h9) rfl d_PE_feeOf_1 ?_
  refine lv_iload_n hx hb d_PE_feeOf_4 rfl (lv_at hl 1 rfl) ?_
  refine my_ldI hx hb hK hP 1 rfl j rfl (by omega) (by decide) d_PE_feeOf_5 ?_
  refine lv_iload_n hx hb d_PE_feeOf_6 rfl (lv_at hl 2 rfl) ?_
  refine lv_aload_n hx hb d_PE_feeOf_7 rfl (lv_at hl 0 rfl) ?_
  refine va_get (D := D) (ci := 1) (v := .ref f3) (C := R_PE) (T := F_PE) (N := 5) hx hb hts i_PE hown hK hP 0 rfl rfl 3 (by decide) (hts _ q_31) (fun _ h9 => h9) rfl d_PE_feeOf_8 ?_
  refine lv_iload_n hx hb d_PE_feeOf_11 rfl (lv_at hl 1 rfl) ?_
  refine my_ldI hx hb hK hP 2 rfl j rfl (by omega) (by decide) d_PE_feeOf_12 ?_
  refine lv_imul hx hb d_PE_feeOf_13 ?_
  refine lv_sipush (v := 1000) hx hb d_PE_feeOf_14 (by decide) ?_
  refine lv_idiv hx hb d_PE_feeOf_17 (by decide) ?_
  refine lv_iadd hx hb d_PE_feeOf_18 ?_
  exact W.iret (v := ((FB j) + ((y * (FR j)) / 1000))) hx hb hr (fun tT ht hW => ⟨((FB j) + ((y * (FR j)) / 1000)), rfl, rfl, ht⟩) (fun q h => absurd h List.not_mem_nil) d_PE_feeOf_19

set_option maxHeartbeats 4000000 in
set_option maxRecDepth 100000 in
theorem e_PE_howManyAway (l : Launch) (D : va_G) (cI cZ : ClassId) (f0 : Nat) (nn : Nat) (f1 : Nat) (f2 : Nat) (f3 : Nat) (f4 : Nat) (FA : Nat → Int32) (sz : Nat) (h_nn : nn ≤ 7) : Met l ⟨"PromiseChains$People", "howManyAway", "()I"⟩ (mw ⟨"PromiseChains$People", "howManyAway", "()I"⟩ prog_3_method_5_code 3 (some .int)) ({ frames := 0, cells := 0, slots := 0, locals := 0 }) (va_Pc [.ref f0] (PB D cI cZ sz [(f0, .inr (1, [.int (nI nn), .ref f1, .ref f2, .ref f3, .ref f4])), (f4, .inl (cZ, 7, .inl FA))])) (vp_Si (fun r => r = cntA FA nn)) 0 0 (fun _ => False) := by
  refine Met.ofW (cc := prog_3_method_5_code) (maxL := 3) (ret := (some .int)) (by decide) rfl ?_
  intro p e s m args below meth c s₁ B hml hv
  obtain ⟨rfl, hsz, hP, hK, hD0, hN⟩ := hv
  have hx := B.exec
  have hb := B.bytes
  have hr := B.returns
  have hts0 := atoms_spec (ws := mw ⟨"PromiseChains$People", "howManyAway", "()I"⟩ prog_3_method_5_code 3 (some .int)) B.pre
  have hts : ∀ w ∈ tblG, w.before _ s = true := fun w h => hts0 w (List.mem_cons_of_mem _ h)
  have hown : s.vm.findClass "PromiseChains$People" = some m.cls := findClass_of_methodNamed B.named
  have hlocks := B.notSynchronized
  subst hsz
  have hD := hD0
  have hP : va_P D vwCl [(f0, .inr (1, [.int (nI nn), .ref f1, .ref f2, .ref f3, .ref f4])), (f4, .inl (cZ, 7, .inl FA))] s.heap := hP
  have hl := lv_entry ([.ref f0]) (n := 3) (Nat.le_of_ble_eq_true rfl)
  rw [lg_entry_eq]
  generalize (lg_sl ([.ref f0]) ++ List.replicate (3 - (lg_sl ([.ref f0])).length) Slot.unset).toArray = ls at hl ⊢
  have hl : lv_has ls 3 [(0, .ref f0)] := hl
  refine lv_iconst (v := 0) hx hb d_PE_howManyAway_0 (by decide) ?_
  refine lv_istore_n (lv' := [(1, .int 0), (0, .ref f0)]) hx hb d_PE_howManyAway_1 rfl hl (by decide) rfl (fun ls hl => ?_)
  refine lv_iconst (v := 0) hx hb d_PE_howManyAway_2 (by decide) ?_
  refine lv_istore_n (lv' := [(2, .int 0), (1, .int 0), (0, .ref f0)]) hx hb d_PE_howManyAway_3 rfl hl (by decide) rfl (fun ls hl => ?_)
  refine W_loop (σ := Nat × Int32) (I := fun xX H locs ls => xX.1 ≤ nn ∧ xX.2 = cntA FA xX.1 ∧ H = s.heap ∧ locs = [] ∧ lv_has ls 3 [(2, .int (nI xX.1)), (1, .int xX.2), (0, .ref f0)]) (μ := fun xX => 8 - xX.1) ?_ (0, 0) ⟨(by first | omega | (dsimp only; omega)), rfl, rfl, rfl, lv_sub hl [0, 1, 2] rfl⟩
  intro xX H_1 locs ls hI ih1
  obtain ⟨i_l, sm_l⟩ := xX
  obtain ⟨hi, hsm, rfl, rfl, hl⟩ := hI
  have hl : lv_has ls 3 [(2, .int (nI i_l)), (1, .int sm_l), (0, .ref f0)] := hl
  have hi : i_l ≤ nn := hi
  have hsm : sm_l = cntA FA i_l := hsm
  refine lv_iload_n hx hb d_PE_howManyAway_4 rfl (lv_at hl 0 rfl) ?_
  refine lv_aload_n hx hb d_PE_howManyAway_5 rfl (lv_at hl 2 rfl) ?_
  refine va_get (D := D) (ci := 1) (v := .int (nI nn)) (C := R_PE) (T := F_PE) (N := 5) hx hb hts i_PE hown hK hP 0 rfl rfl 0 (by decide) (hts _ q_24) (fun _ h9 => h9) rfl d_PE_howManyAway_6 ?_
  refine lv_icmp_ge (tgt := 35) hx hb d_PE_howManyAway_9 (by decide) (fun h_2 => ?_) (fun h_2 => ?_)
  · have nh_2 : nn ≤ i_l := (nI_leI (a := nn) (b := i_l) (by omega) (by omega)).mp h_2
    refine lv_iload_n hx hb d_PE_howManyAway_35 rfl (lv_at hl 1 rfl) ?_
    exact W.iret (v := sm_l) hx hb hr (fun tT ht hW => ⟨sm_l, rfl, (by rw [← show i_l = nn by omega]; exact hsm), ht⟩) (fun q h => absurd h List.not_mem_nil) d_PE_howManyAway_36
  · have nh_2 : ¬ nn ≤ i_l := fun qZ => h_2 ((nI_leI (a := nn) (b := i_l) (by omega) (by omega)).mpr qZ)
    refine lv_iload_n hx hb d_PE_howManyAway_12 rfl (lv_at hl 1 rfl) ?_
    refine lv_aload_n hx hb d_PE_howManyAway_13 rfl (lv_at hl 2 rfl) ?_
    refine va_get (D := D) (ci := 1) (v := .ref f4) (C := R_PE) (T := F_PE) (N := 5) hx hb hts i_PE hown hK hP 0 rfl rfl 4 (by decide) (hts _ q_33) (fun _ h9 => h9) rfl d_PE_howManyAway_14 ?_
    refine lv_iload_n hx hb d_PE_howManyAway_17 rfl (lv_at hl 0 rfl) ?_
    refine my_ldZ hx hb hK hP 1 rfl i_l rfl (by omega) (by decide) d_PE_howManyAway_18 ?_
    refine lv_if_eq (tgt := 26) hx hb d_PE_howManyAway_19 (by decide) (fun h_3 => ?_) (fun h_3 => ?_)
    · refine lv_iconst (v := 0) hx hb d_PE_howManyAway_26 (by decide) ?_
      refine lv_iadd hx hb d_PE_howManyAway_27 ?_
      refine lv_istore_n (lv' := [(1, .int (sm_l + 0)), (2, .int (nI i_l)), (0, .ref f0)]) hx hb d_PE_howManyAway_28 rfl hl (by decide) rfl (fun ls hl => ?_)
      refine lv_iinc (v := nI (i_l + 1)) (lv' := [(2, .int (nI (i_l + 1))), (1, .int (sm_l + 0)), (0, .ref f0)]) hx hb d_PE_howManyAway_29 hl (k := 1) rfl (nI_1 i_l) (by decide) rfl (fun ls hl => ?_)
      refine lv_goto (tgt := 4) hx hb d_PE_howManyAway_32 (by decide) ?_
      exact ih1 ((i_l + 1), sm_l + 0) _ _ _ (by first | omega | (dsimp only; omega)) ⟨(by first | omega | (dsimp only; omega)), (cntA_n hsm h_3), rfl, rfl, lv_sub hl [0, 1, 2] rfl⟩
    · refine lv_iconst (v := 1) hx hb d_PE_howManyAway_22 (by decide) ?_
      refine lv_goto (tgt := 27) hx hb d_PE_howManyAway_23 (by decide) ?_
      refine lv_iadd hx hb d_PE_howManyAway_27 ?_
      refine lv_istore_n (lv' := [(1, .int (sm_l + 1)), (2, .int (nI i_l)), (0, .ref f0)]) hx hb d_PE_howManyAway_28 rfl hl (by decide) rfl (fun ls hl => ?_)
      refine lv_iinc (v := nI (i_l + 1)) (lv' := [(2, .int (nI (i_l + 1))), (1, .int (sm_l + 1)), (0, .ref f0)]) hx hb d_PE_howManyAway_29 hl (k := 1) rfl (nI_1 i_l) (by decide) rfl (fun ls hl => ?_)
      refine lv_goto (tgt := 4) hx hb d_PE_howManyAway_32 (by decide) ?_
      exact ih1 ((i_l + 1), sm_l + 1) _ _ _ (by first | omega | (dsimp only; omega)) ⟨(by first | omega | (dsimp only; omega)), (cntA_y hsm h_3), rfl, rfl, lv_sub hl [0, 1, 2] rfl⟩

set_option maxHeartbeats 4000000 in
set_option maxRecDepth 100000 in
theorem e_PA_whichIs (l : Launch) (D : va_G) (cI cZ : ClassId) (a0 : Nat) (j : Nat) (v : Nat) (np : Nat) (a1 : Nat) (a2 : Nat) (a3 : Nat) (a4 : Nat) (a5 : Nat) (a6 : Nat) (a7 : Nat) (a8 : Nat) (a9 : Nat) (a10 : Nat) (a11 : Nat) (EP : Nat → Nat) (sz : Nat) (h_np : np ≤ 12) (h_EP : ∀ zz, EP zz ≤ 6) (hj : j < 12) (hv7 : v < 7) : Met l ⟨"PromiseChains$Pairs", "whichIs", "(II)I"⟩ (mw ⟨"PromiseChains$Pairs", "whichIs", "(II)I"⟩ prog_2_method_4_code 3 (some .int)) ({ frames := 0, cells := 0, slots := 0, locals := 0 }) (va_Pc [.ref a0, .int (nI j), .int (nI v)] (PB D cI cZ sz [(a0, .inr (2, [.int (nI np), .ref a1, .ref a2, .ref a3, .ref a4, .ref a5, .ref a6, .ref a7, .ref a8, .ref a9, .ref a10, .ref a11])), (a1, .inl (cI, 24, .inl (fun zy => nI (EP zy))))])) (vp_Si (fun r => (¬ EP (2 * j) = v ∧ ¬ EP (2 * j + 1) = v ∧ r = -1) ∨ (∃ t : Nat, t ≤ 1 ∧ EP (2 * j + t) = v ∧ (t = 1 → ¬ EP (2 * j) = v) ∧ r = nI t))) 0 0 (fun _ => False) := by
  refine Met.ofW (cc := prog_2_method_4_code) (maxL := 3) (ret := (some .int)) (by decide) rfl ?_
  intro p e s m args below meth c s₁ B hml hv
  obtain ⟨rfl, hsz, hP, hK, hD0, hN⟩ := hv
  have hx := B.exec
  have hb := B.bytes
  have hr := B.returns
  have hts0 := atoms_spec (ws := mw ⟨"PromiseChains$Pairs", "whichIs", "(II)I"⟩ prog_2_method_4_code 3 (some .int)) B.pre
  have hts : ∀ w ∈ tblG, w.before _ s = true := fun w h => hts0 w (List.mem_cons_of_mem _ h)
  have hown : s.vm.findClass "PromiseChains$Pairs" = some m.cls := findClass_of_methodNamed B.named
  have hlocks := B.notSynchronized
  subst hsz
  have hD := hD0
  have hP : va_P D vwCl [(a0, .inr (2, [.int (nI np), .ref a1, .ref a2, .ref a3, .ref a4, .ref a5, .ref a6, .ref a7, .ref a8, .ref a9, .ref a10, .ref a11])), (a1, .inl (cI, 24, .inl (fun zy => nI (EP zy))))] s.heap := hP
  have hl := lv_entry ([.ref a0, .int (nI j), .int (nI v)]) (n := 3) (Nat.le_of_ble_eq_true rfl)
  rw [lg_entry_eq]
  generalize (lg_sl ([.ref a0, .int (nI j), .int (nI v)]) ++ List.replicate (3 - (lg_sl ([.ref a0, .int (nI j), .int (nI v)])).length) Slot.unset).toArray = ls at hl ⊢
  have hl : lv_has ls 3 [(0, .ref a0), (1, .int (nI j)), (2, .int (nI v))] := hl
  refine lv_aload_n hx hb d_PA_whichIs_0 rfl (lv_at hl 0 rfl) ?_
  refine va_get (D := D) (ci := 2) (v := .ref a1) (C := R_PA) (T := F_PA) (N := 12) hx hb hts i_PA hown hK hP 0 rfl rfl 1 (by decide) (hts _ q_58) (fun _ h9 => h9) rfl d_PA_whichIs_1 ?_
  refine lv_iconst (v := 2) hx hb d_PA_whichIs_4 (by decide) ?_
  refine lv_iload_n hx hb d_PA_whichIs_5 rfl (lv_at hl 1 rfl) ?_
  refine lv_imul hx hb d_PA_whichIs_6 ?_
  refine lv_seti (nI (2 * j)) (pk_mul 2 j) ?_
  refine my_ldN hx hb hK hP 1 rfl (2 * j) rfl (by omega) (by decide) d_PA_whichIs_7 ?_
  have hb_1 : EP (2 * j) ≤ 6 := h_EP _
  refine lv_iload_n hx hb d_PA_whichIs_8 rfl (lv_at hl 2 rfl) ?_
  refine lv_icmp_ne (tgt := 14) hx hb d_PA_whichIs_9 (by decide) (fun h_1 => ?_) (fun h_1 => ?_)
  · have nh_1 : ¬ (EP (2 * j)) = v := fun qZ => h_1 ((nI_eq (a := (EP (2 * j))) (b := v) (by omega) (by omega)).mpr qZ)
    refine lv_aload_n hx hb d_PA_whichIs_14 rfl (lv_at hl 0 rfl) ?_
    refine va_get (D := D) (ci := 2) (v := .ref a1) (C := R_PA) (T := F_PA) (N := 12) hx hb hts i_PA hown hK hP 0 rfl rfl 1 (by decide) (hts _ q_58) (fun _ h9 => h9) rfl d_PA_whichIs_15 ?_
    refine lv_iconst (v := 2) hx hb d_PA_whichIs_18 (by decide) ?_
    refine lv_iload_n hx hb d_PA_whichIs_19 rfl (lv_at hl 1 rfl) ?_
    refine lv_imul hx hb d_PA_whichIs_20 ?_
    refine lv_seti (nI (2 * j)) (pk_mul 2 j) ?_
    refine lv_iconst (v := 1) hx hb d_PA_whichIs_21 (by decide) ?_
    refine lv_iadd hx hb d_PA_whichIs_22 ?_
    refine lv_seti (nI ((2 * j) + 1)) (nI_add (2 * j) 1) ?_
    refine my_ldN hx hb hK hP 1 rfl ((2 * j) + 1) rfl (by omega) (by decide) d_PA_whichIs_23 ?_
    have hb_2 : EP ((2 * j) + 1) ≤ 6 := h_EP _
    refine lv_iload_n hx hb d_PA_whichIs_24 rfl (lv_at hl 2 rfl) ?_
    refine lv_icmp_ne (tgt := 32) hx hb d_PA_whichIs_25 (by decide) (fun h_2 => ?_) (fun h_2 => ?_)
    · have nh_2 : ¬ (EP ((2 * j) + 1)) = v := fun qZ => h_2 ((nI_eq (a := (EP ((2 * j) + 1))) (b := v) (by omega) (by omega)).mpr qZ)
      refine lv_iconst (v := (-1)) hx hb d_PA_whichIs_32 (by decide) ?_
      exact W.iret (v := (-1)) hx hb hr (fun tT ht hW => ⟨(-1), rfl, (Or.inl (⟨nh_1, nh_2, rfl⟩)), ht⟩) (fun q h => absurd h List.not_mem_nil) d_PA_whichIs_33
    · have nh_2 : (EP ((2 * j) + 1)) = v := (nI_eq (a := (EP ((2 * j) + 1))) (b := v) (by omega) (by omega)).mp h_2
      refine lv_iconst (v := 1) hx hb d_PA_whichIs_28 (by decide) ?_
      refine lv_goto (tgt := 33) hx hb d_PA_whichIs_29 (by decide) ?_
      exact W.iret (v := 1) hx hb hr (fun tT ht hW => ⟨1, rfl, (Or.inr (⟨1, (by first | omega | (dsimp only; omega)), nh_2, (by first | omega | (dsimp only; omega)), rfl⟩)), ht⟩) (fun q h => absurd h List.not_mem_nil) d_PA_whichIs_33
  · have nh_1 : (EP (2 * j)) = v := (nI_eq (a := (EP (2 * j))) (b := v) (by omega) (by omega)).mp h_1
    refine lv_iconst (v := 0) hx hb d_PA_whichIs_12 (by decide) ?_
    exact W.iret (v := 0) hx hb hr (fun tT ht hW => ⟨0, rfl, (Or.inr (⟨0, (by first | omega | (dsimp only; omega)), (by first | omega | (dsimp only; omega)), (by first | omega | (dsimp only; omega)), rfl⟩)), ht⟩) (fun q h => absurd h List.not_mem_nil) d_PA_whichIs_13

set_option maxHeartbeats 4000000 in
set_option maxRecDepth 100000 in
theorem e_PA_isFree (l : Launch) (D : va_G) (cI cZ : ClassId) (a0 : Nat) (j : Nat) (np : Nat) (a1 : Nat) (a2 : Nat) (a3 : Nat) (a4 : Nat) (a5 : Nat) (a6 : Nat) (a7 : Nat) (a8 : Nat) (a9 : Nat) (a10 : Nat) (a11 : Nat) (PH : Nat → Int32) (LK : Nat → Int32) (sz : Nat) (h_np : np ≤ 12) (hj : j < 12) : Met l ⟨"PromiseChains$Pairs", "isFree", "(I)Z"⟩ (mw ⟨"PromiseChains$Pairs", "isFree", "(I)Z"⟩ prog_2_method_5_code 2 (some .boolean)) ({ frames := 0, cells := 0, slots := 0, locals := 0 }) (va_Pc [.ref a0, .int (nI j)] (PB D cI cZ sz [(a0, .inr (2, [.int (nI np), .ref a1, .ref a2, .ref a3, .ref a4, .ref a5, .ref a6, .ref a7, .ref a8, .ref a9, .ref a10, .ref a11])), (a6, .inl (cI, 12, .inl PH)), (a3, .inl (cI, 24, .inl LK))])) (vp_Si (fun r => (¬ (PH j = 0 ∧ LK (2 * j) = 0 ∧ LK (2 * j + 1) = 0) ∧ r = 0) ∨ (PH j = 0 ∧ LK (2 * j) = 0 ∧ LK (2 * j + 1) = 0 ∧ r = 1))) 0 0 (fun _ => False) := by
  refine Met.ofW (cc := prog_2_method_5_code) (maxL := 2) (ret := (some .boolean)) (by decide) rfl ?_
  intro p e s m args below meth c s₁ B hml hv
  obtain ⟨rfl, hsz, hP, hK, hD0, hN⟩ := hv
  have hx := B.exec
  have hb := B.bytes
  have hr := B.returns
  have hts0 := atoms_spec (ws := mw ⟨"PromiseChains$Pairs", "isFree", "(I)Z"⟩ prog_2_method_5_code 2 (some .boolean)) B.pre
  have hts : ∀ w ∈ tblG, w.before _ s = true := fun w h => hts0 w (List.mem_cons_of_mem _ h)
  have hown : s.vm.findClass "PromiseChains$Pairs" = some m.cls := findClass_of_methodNamed B.named
  have hlocks := B.notSynchronized
  subst hsz
  have hD := hD0
  have hP : va_P D vwCl [(a0, .inr (2, [.int (nI np), .ref a1, .ref a2, .ref a3, .ref a4, .ref a5, .ref a6, .ref a7, .ref a8, .ref a9, .ref a10, .ref a11])), (a6, .inl (cI, 12, .inl PH)), (a3, .inl (cI, 24, .inl LK))] s.heap := hP
  have hl := lv_entry ([.ref a0, .int (nI j)]) (n := 2) (Nat.le_of_ble_eq_true rfl)
  rw [lg_entry_eq]
  generalize (lg_sl ([.ref a0, .int (nI j)]) ++ List.replicate (2 - (lg_sl ([.ref a0, .int (nI j)])).length) Slot.unset).toArray = ls at hl ⊢
  have hl : lv_has ls 2 [(0, .ref a0), (1, .int (nI j))] := hl
  refine lv_aload_n hx hb d_PA_isFree_0 rfl (lv_at hl 0 rfl) ?_
  refine va_get (D := D) (ci := 2) (v := .ref a6) (C := R_PA) (T := F_PA) (N := 12) hx hb hts i_PA hown hK hP 0 rfl rfl 6 (by decide) (hts _ q_69) (fun _ h9 => h9) rfl d_PA_isFree_1 ?_
  refine lv_iload_n hx hb d_PA_isFree_4 rfl (lv_at hl 1 rfl) ?_
  refine my_ldI hx hb hK hP 1 rfl j rfl (by omega) (by decide) d_PA_isFree_5 ?_
  refine lv_if_ne (tgt := 37) hx hb d_PA_isFree_6 (by decide) (fun h_1 => ?_) (fun h_1 => ?_)
  · refine lv_iconst (v := 0) hx hb d_PA_isFree_37 (by decide) ?_
    exact W.zret (v := 0) hx hb hr rfl (fun tT ht hW => ⟨0, rfl, (Or.inl (⟨(fun hZ => by obtain ⟨z0, z1, z2⟩ := hZ; first | exact h_1 z0 | exact h_1 z1 | exact h_1 z2), rfl⟩)), ht⟩) (fun q h => absurd h List.not_mem_nil) d_PA_isFree_38
  · refine lv_aload_n hx hb d_PA_isFree_9 rfl (lv_at hl 0 rfl) ?_
    refine va_get (D := D) (ci := 2) (v := .ref a3) (C := R_PA) (T := F_PA) (N := 12) hx hb hts i_PA hown hK hP 0 rfl rfl 3 (by decide) (hts _ q_64) (fun _ h9 => h9) rfl d_PA_isFree_10 ?_
    refine lv_iconst (v := 2) hx hb d_PA_isFree_13 (by decide) ?_
    refine lv_iload_n hx hb d_PA_isFree_14 rfl (lv_at hl 1 rfl) ?_
    refine lv_imul hx hb d_PA_isFree_15 ?_
    refine lv_seti (nI (2 * j)) (pk_mul 2 j) ?_
    refine my_ldI hx hb hK hP 2 rfl (2 * j) rfl (by omega) (by decide) d_PA_isFree_16 ?_
    refine lv_if_ne (tgt := 37) hx hb d_PA_isFree_17 (by decide) (fun h_2 => ?_) (fun h_2 => ?_)
    · refine lv_iconst (v := 0) hx hb d_PA_isFree_37 (by decide) ?_
      exact W.zret (v := 0) hx hb hr rfl (fun tT ht hW => ⟨0, rfl, (Or.inl (⟨(fun hZ => by obtain ⟨z0, z1, z2⟩ := hZ; first | exact h_2 z0 | exact h_2 z1 | exact h_2 z2), rfl⟩)), ht⟩) (fun q h => absurd h List.not_mem_nil) d_PA_isFree_38
    · refine lv_aload_n hx hb d_PA_isFree_20 rfl (lv_at hl 0 rfl) ?_
      refine va_get (D := D) (ci := 2) (v := .ref a3) (C := R_PA) (T := F_PA) (N := 12) hx hb hts i_PA hown hK hP 0 rfl rfl 3 (by decide) (hts _ q_64) (fun _ h9 => h9) rfl d_PA_isFree_21 ?_
      refine lv_iconst (v := 2) hx hb d_PA_isFree_24 (by decide) ?_
      refine lv_iload_n hx hb d_PA_isFree_25 rfl (lv_at hl 1 rfl) ?_
      refine lv_imul hx hb d_PA_isFree_26 ?_
      refine lv_seti (nI (2 * j)) (pk_mul 2 j) ?_
      refine lv_iconst (v := 1) hx hb d_PA_isFree_27 (by decide) ?_
      refine lv_iadd hx hb d_PA_isFree_28 ?_
      refine lv_seti (nI ((2 * j) + 1)) (nI_add (2 * j) 1) ?_
      refine my_ldI hx hb hK hP 2 rfl ((2 * j) + 1) rfl (by omega) (by decide) d_PA_isFree_29 ?_
      refine lv_if_ne (tgt := 37) hx hb d_PA_isFree_30 (by decide) (fun h_3 => ?_) (fun h_3 => ?_)
      · refine lv_iconst (v := 0) hx hb d_PA_isFree_37 (by decide) ?_
        exact W.zret (v := 0) hx hb hr rfl (fun tT ht hW => ⟨0, rfl, (Or.inl (⟨(fun hZ => by obtain ⟨z0, z1, z2⟩ := hZ; first | exact h_3 z0 | exact h_3 z1 | exact h_3 z2), rfl⟩)), ht⟩) (fun q h => absurd h List.not_mem_nil) d_PA_isFree_38
      · refine lv_iconst (v := 1) hx hb d_PA_isFree_33 (by decide) ?_
        refine lv_goto (tgt := 38) hx hb d_PA_isFree_34 (by decide) ?_
        exact W.zret (v := 1) hx hb hr rfl (fun tT ht hW => ⟨1, rfl, (Or.inr (⟨h_1, h_2, h_3, rfl⟩)), ht⟩) (fun q h => absurd h List.not_mem_nil) d_PA_isFree_38

set_option maxHeartbeats 4000000 in
set_option maxRecDepth 100000 in
theorem e_PA_areOpen (l : Launch) (D : va_G) (cI cZ : ClassId) (a0 : Nat) (k0 : Nat) (np : Nat) (a1 : Nat) (a2 : Nat) (a3 : Nat) (a4 : Nat) (a5 : Nat) (a6 : Nat) (a7 : Nat) (a8 : Nat) (a9 : Nat) (a10 : Nat) (a11 : Nat) (PH : Nat → Int32) (kl : Nat) (k1 : Nat) (k2 : Nat) (KP : Nat → Nat) (sz : Nat) (h_np : np ≤ 12) (h_kl : kl ≤ 6) (h_KP : ∀ zz, KP zz ≤ 11) : Met l ⟨"PromiseChains$Pairs", "areOpen", "(LPromiseChains$Row;)Z"⟩ (mw ⟨"PromiseChains$Pairs", "areOpen", "(LPromiseChains$Row;)Z"⟩ prog_2_method_6_code 3 (some .boolean)) ({ frames := 0, cells := 0, slots := 0, locals := 0 }) (va_Pc [.ref a0, .ref k0] (PB D cI cZ sz [(a0, .inr (2, [.int (nI np), .ref a1, .ref a2, .ref a3, .ref a4, .ref a5, .ref a6, .ref a7, .ref a8, .ref a9, .ref a10, .ref a11])), (a6, .inl (cI, 12, .inl PH)), (k0, .inr (6, [.int (nI kl), .ref k1, .ref k2])), (k1, .inl (cI, 7, .inl (fun zy => nI (KP zy))))])) (vp_Si (fun r => ((∃ zz, zz < kl ∧ ¬ PH (KP zz) = 0) ∧ r = 0) ∨ ((∀ zz, zz < kl → PH (KP zz) = 0) ∧ r = 1))) 0 0 (fun _ => False) := by
  refine Met.ofW (cc := prog_2_method_6_code) (maxL := 3) (ret := (some .boolean)) (by decide) rfl ?_
  intro p e s m args below meth c s₁ B hml hv
  obtain ⟨rfl, hsz, hP, hK, hD0, hN⟩ := hv
  have hx := B.exec
  have hb := B.bytes
  have hr := B.returns
  have hts0 := atoms_spec (ws := mw ⟨"PromiseChains$Pairs", "areOpen", "(LPromiseChains$Row;)Z"⟩ prog_2_method_6_code 3 (some .boolean)) B.pre
  have hts : ∀ w ∈ tblG, w.before _ s = true := fun w h => hts0 w (List.mem_cons_of_mem _ h)
  have hown : s.vm.findClass "PromiseChains$Pairs" = some m.cls := findClass_of_methodNamed B.named
  have hlocks := B.notSynchronized
  subst hsz
  have hD := hD0
  have hP : va_P D vwCl [(a0, .inr (2, [.int (nI np), .ref a1, .ref a2, .ref a3, .ref a4, .ref a5, .ref a6, .ref a7, .ref a8, .ref a9, .ref a10, .ref a11])), (a6, .inl (cI, 12, .inl PH)), (k0, .inr (6, [.int (nI kl), .ref k1, .ref k2])), (k1, .inl (cI, 7, .inl (fun zy => nI (KP zy))))] s.heap := hP
  have hl := lv_entry ([.ref a0, .ref k0]) (n := 3) (Nat.le_of_ble_eq_true rfl)
  rw [lg_entry_eq]
  generalize (lg_sl ([.ref a0, .ref k0]) ++ List.replicate (3 - (lg_sl ([.ref a0, .ref k0])).length) Slot.unset).toArray = ls at hl ⊢
  have hl : lv_has ls 3 [(0, .ref a0), (1, .ref k0)] := hl
  refine lv_iconst (v := 0) hx hb d_PA_areOpen_0 (by decide) ?_
  refine lv_istore_n (lv' := [(2, .int 0), (0, .ref a0), (1, .ref k0)]) hx hb d_PA_areOpen_1 rfl hl (by decide) rfl (fun ls hl => ?_)
  refine W_loop (σ := Nat) (I := fun xX H locs ls => xX ≤ kl ∧ (∀ zz, zz < xX → PH (KP zz) = 0) ∧ H = s.heap ∧ locs = [] ∧ lv_has ls 3 [(2, .int (nI xX)), (1, .ref k0), (0, .ref a0)]) (μ := fun xX => 8 - xX) ?_ 0 ⟨(by first | omega | (dsimp only; omega)), (fun _ h => absurd h (Nat.not_lt_zero _)), rfl, rfl, lv_sub hl [0, 2, 1] rfl⟩
  intro xX H_1 locs ls hI ih1
  obtain ⟨i_l, rfl⟩ : ∃ z, z = xX := ⟨_, rfl⟩
  obtain ⟨hi, ho, rfl, rfl, hl⟩ := hI
  have hl : lv_has ls 3 [(2, .int (nI i_l)), (1, .ref k0), (0, .ref a0)] := hl
  have hi : i_l ≤ kl := hi
  have ho : ∀ zz, zz < i_l → PH (KP zz) = 0 := ho
  refine lv_iload_n hx hb d_PA_areOpen_2 rfl (lv_at hl 0 rfl) ?_
  refine lv_aload_n hx hb d_PA_areOpen_3 rfl (lv_at hl 1 rfl) ?_
  refine va_get (D := D) (ci := 6) (v := .int (nI kl)) (C := R_RO) (T := F_RO) (N := 3) hx hb hts i_RO hown hK hP 2 rfl rfl 0 (by decide) (hts _ q_175) (fun _ h9 => h9) rfl d_PA_areOpen_4 ?_
  refine lv_icmp_ge (tgt := 32) hx hb d_PA_areOpen_7 (by decide) (fun h_2 => ?_) (fun h_2 => ?_)
  · have nh_2 : kl ≤ i_l := (nI_leI (a := kl) (b := i_l) (by omega) (by omega)).mp h_2
    refine lv_iconst (v := 1) hx hb d_PA_areOpen_32 (by decide) ?_
    exact W.zret (v := 1) hx hb hr rfl (fun tT ht hW => ⟨1, rfl, (Or.inr (⟨(fun zz hz => ho zz (by omega)), rfl⟩)), ht⟩) (fun q h => absurd h List.not_mem_nil) d_PA_areOpen_33
  · have nh_2 : ¬ kl ≤ i_l := fun qZ => h_2 ((nI_leI (a := kl) (b := i_l) (by omega) (by omega)).mpr qZ)
    refine lv_aload_n hx hb d_PA_areOpen_10 rfl (lv_at hl 2 rfl) ?_
    refine va_get (D := D) (ci := 2) (v := .ref a6) (C := R_PA) (T := F_PA) (N := 12) hx hb hts i_PA hown hK hP 0 rfl rfl 6 (by decide) (hts _ q_69) (fun _ h9 => h9) rfl d_PA_areOpen_11 ?_
    refine lv_aload_n hx hb d_PA_areOpen_14 rfl (lv_at hl 1 rfl) ?_
    refine va_get (D := D) (ci := 6) (v := .ref k1) (C := R_RO) (T := F_RO) (N := 3) hx hb hts i_RO hown hK hP 2 rfl rfl 1 (by decide) (hts _ q_178) (fun _ h9 => h9) rfl d_PA_areOpen_15 ?_
    refine lv_iload_n hx hb d_PA_areOpen_18 rfl (lv_at hl 0 rfl) ?_
    refine my_ldN hx hb hK hP 3 rfl i_l rfl (by omega) (by decide) d_PA_areOpen_19 ?_
    have hb_1 : KP i_l ≤ 11 := h_KP _
    refine my_ldI hx hb hK hP 1 rfl (KP i_l) rfl (by omega) (by decide) d_PA_areOpen_20 ?_
    refine lv_if_eq (tgt := 26) hx hb d_PA_areOpen_21 (by decide) (fun h_3 => ?_) (fun h_3 => ?_)
    · refine lv_iinc (v := nI (i_l + 1)) (lv' := [(2, .int (nI (i_l + 1))), (1, .ref k0), (0, .ref a0)]) hx hb d_PA_areOpen_26 hl (k := 0) rfl (nI_1 i_l) (by decide) rfl (fun ls hl => ?_)
      refine lv_goto (tgt := 2) hx hb d_PA_areOpen_29 (by decide) ?_
      exact ih1 (i_l + 1) _ _ _ (by first | omega | (dsimp only; omega)) ⟨(by first | omega | (dsimp only; omega)), (all_s ho h_3), rfl, rfl, lv_sub hl [0, 1, 2] rfl⟩
    · refine lv_iconst (v := 0) hx hb d_PA_areOpen_24 (by decide) ?_
      exact W.zret (v := 0) hx hb hr rfl (fun tT ht hW => ⟨0, rfl, (Or.inl (⟨⟨i_l, by omega, h_3⟩, rfl⟩)), ht⟩) (fun q h => absurd h List.not_mem_nil) d_PA_areOpen_25

set_option maxHeartbeats 4000000 in
set_option maxRecDepth 100000 in
theorem e_PA_sideInState (l : Launch) (D : va_G) (cI cZ : ClassId) (a0 : Nat) (j : Nat) (i : Nat) (t : Nat) (np : Nat) (a1 : Nat) (a2 : Nat) (a3 : Nat) (a4 : Nat) (a5 : Nat) (a6 : Nat) (a7 : Nat) (a8 : Nat) (a9 : Nat) (a10 : Nat) (a11 : Nat) (SS : Nat → Int32) (sz : Nat) (h_np : np ≤ 12) (hj : j < 12) (hi : i < 64) (htl : t ≤ 1) : Met l ⟨"PromiseChains$Pairs", "sideInState", "(III)I"⟩ (mw ⟨"PromiseChains$Pairs", "sideInState", "(III)I"⟩ prog_2_method_7_code 4 (some .int)) ({ frames := 0, cells := 0, slots := 0, locals := 0 }) (va_Pc [.ref a0, .int (nI j), .int (nI i), .int (nI t)] (PB D cI cZ sz [(a0, .inr (2, [.int (nI np), .ref a1, .ref a2, .ref a3, .ref a4, .ref a5, .ref a6, .ref a7, .ref a8, .ref a9, .ref a10, .ref a11])), (a4, .inl (cI, 1536, .inl SS))])) (vp_Si (fun r => r = (SS ((2 * ((j * 64) + i)) + t)))) 0 0 (fun _ => False) := by
  refine Met.ofW (cc := prog_2_method_7_code) (maxL := 4) (ret := (some .int)) (by decide) rfl ?_
  intro p e s m args below meth c s₁ B hml hv
  obtain ⟨rfl, hsz, hP, hK, hD0, hN⟩ := hv
  have hx := B.exec
  have hb := B.bytes
  have hr := B.returns
  have hts0 := atoms_spec (ws := mw ⟨"PromiseChains$Pairs", "sideInState", "(III)I"⟩ prog_2_method_7_code 4 (some .int)) B.pre
  have hts : ∀ w ∈ tblG, w.before _ s = true := fun w h => hts0 w (List.mem_cons_of_mem _ h)
  have hown : s.vm.findClass "PromiseChains$Pairs" = some m.cls := findClass_of_methodNamed B.named
  have hlocks := B.notSynchronized
  subst hsz
  have hD := hD0
  have hP : va_P D vwCl [(a0, .inr (2, [.int (nI np), .ref a1, .ref a2, .ref a3, .ref a4, .ref a5, .ref a6, .ref a7, .ref a8, .ref a9, .ref a10, .ref a11])), (a4, .inl (cI, 1536, .inl SS))] s.heap := hP
  have hl := lv_entry ([.ref a0, .int (nI j), .int (nI i), .int (nI t)]) (n := 4) (Nat.le_of_ble_eq_true rfl)
  rw [lg_entry_eq]
  generalize (lg_sl ([.ref a0, .int (nI j), .int (nI i), .int (nI t)]) ++ List.replicate (4 - (lg_sl ([.ref a0, .int (nI j), .int (nI i), .int (nI t)])).length) Slot.unset).toArray = ls at hl ⊢
  have hl : lv_has ls 4 [(0, .ref a0), (1, .int (nI j)), (2, .int (nI i)), (3, .int (nI t))] := hl
  refine lv_aload_n hx hb d_PA_sideInState_0 rfl (lv_at hl 0 rfl) ?_
  refine va_get (D := D) (ci := 2) (v := .ref a4) (C := R_PA) (T := F_PA) (N := 12) hx hb hts i_PA hown hK hP 0 rfl rfl 4 (by decide) (hts _ q_66) (fun _ h9 => h9) rfl d_PA_sideInState_1 ?_
  refine lv_iconst (v := 2) hx hb d_PA_sideInState_4 (by decide) ?_
  refine lv_iload_n hx hb d_PA_sideInState_5 rfl (lv_at hl 1 rfl) ?_
  refine lv_bipush (v := 64) hx hb d_PA_sideInState_6 (by decide) ?_
  refine lv_imul hx hb d_PA_sideInState_8 ?_
  refine lv_seti (nI (j * 64)) (pk_mul j 64) ?_
  refine lv_iload_n hx hb d_PA_sideInState_9 rfl (lv_at hl 2 rfl) ?_
  refine lv_iadd hx hb d_PA_sideInState_10 ?_
  refine lv_seti (nI ((j * 64) + i)) (nI_add (j * 64) i) ?_
  refine lv_imul hx hb d_PA_sideInState_11 ?_
  refine lv_seti (nI (2 * ((j * 64) + i))) (pk_mul 2 ((j * 64) + i)) ?_
  refine lv_iload_n hx hb d_PA_sideInState_12 rfl (lv_at hl 3 rfl) ?_
  refine lv_iadd hx hb d_PA_sideInState_13 ?_
  refine lv_seti (nI ((2 * ((j * 64) + i)) + t)) (nI_add (2 * ((j * 64) + i)) t) ?_
  refine my_ldI hx hb hK hP 1 rfl ((2 * ((j * 64) + i)) + t) rfl (by omega) (by decide) d_PA_sideInState_14 ?_
  exact W.iret (v := (SS ((2 * ((j * 64) + i)) + t))) hx hb hr (fun tT ht hW => ⟨(SS ((2 * ((j * 64) + i)) + t)), rfl, rfl, ht⟩) (fun q h => absurd h List.not_mem_nil) d_PA_sideInState_15

set_option maxHeartbeats 4000000 in
set_option maxRecDepth 100000 in
theorem e_PA_sumOff (l : Launch) (D : va_G) (cI cZ : ClassId) (a0 : Nat) (np : Nat) (a1 : Nat) (a2 : Nat) (a3 : Nat) (a4 : Nat) (a5 : Nat) (a6 : Nat) (a7 : Nat) (a8 : Nat) (a9 : Nat) (a10 : Nat) (a11 : Nat) (SI : Nat → Int32) (PH : Nat → Int32) (sz : Nat) (h_np : np ≤ 12) : Met l ⟨"PromiseChains$Pairs", "sumOff", "()I"⟩ (mw ⟨"PromiseChains$Pairs", "sumOff", "()I"⟩ prog_2_method_8_code 3 (some .int)) ({ frames := 1, cells := 0, slots := 0, locals := 14 }) (va_Pc [.ref a0] (PB D cI cZ sz [(a0, .inr (2, [.int (nI np), .ref a1, .ref a2, .ref a3, .ref a4, .ref a5, .ref a6, .ref a7, .ref a8, .ref a9, .ref a10, .ref a11])), (a2, .inl (cI, 24, .inl SI)), (a6, .inl (cI, 12, .inl PH))])) (vp_Si (fun r => r = sumO SI PH np)) 0 0 (fun _ => False) := by
  refine Met.ofW (cc := prog_2_method_8_code) (maxL := 3) (ret := (some .int)) (by decide) rfl ?_
  intro p e s m args below meth c s₁ B hml hv
  obtain ⟨rfl, hsz, hP, hK, hD0, hN⟩ := hv
  have hx := B.exec
  have hb := B.bytes
  have hr := B.returns
  have hts0 := atoms_spec (ws := mw ⟨"PromiseChains$Pairs", "sumOff", "()I"⟩ prog_2_method_8_code 3 (some .int)) B.pre
  have hts : ∀ w ∈ tblG, w.before _ s = true := fun w h => hts0 w (List.mem_cons_of_mem _ h)
  have hown : s.vm.findClass "PromiseChains$Pairs" = some m.cls := findClass_of_methodNamed B.named
  have hlocks := B.notSynchronized
  subst hsz
  have hD := hD0
  have hP : va_P D vwCl [(a0, .inr (2, [.int (nI np), .ref a1, .ref a2, .ref a3, .ref a4, .ref a5, .ref a6, .ref a7, .ref a8, .ref a9, .ref a10, .ref a11])), (a2, .inl (cI, 24, .inl SI)), (a6, .inl (cI, 12, .inl PH))] s.heap := hP
  have hl := lv_entry ([.ref a0]) (n := 3) (Nat.le_of_ble_eq_true rfl)
  rw [lg_entry_eq]
  generalize (lg_sl ([.ref a0]) ++ List.replicate (3 - (lg_sl ([.ref a0])).length) Slot.unset).toArray = ls at hl ⊢
  have hl : lv_has ls 3 [(0, .ref a0)] := hl
  refine lv_iconst (v := 0) hx hb d_PA_sumOff_0 (by decide) ?_
  refine lv_istore_n (lv' := [(1, .int 0), (0, .ref a0)]) hx hb d_PA_sumOff_1 rfl hl (by decide) rfl (fun ls hl => ?_)
  refine lv_iconst (v := 0) hx hb d_PA_sumOff_2 (by decide) ?_
  refine lv_istore_n (lv' := [(2, .int 0), (1, .int 0), (0, .ref a0)]) hx hb d_PA_sumOff_3 rfl hl (by decide) rfl (fun ls hl => ?_)
  refine W_loop (σ := Nat × Int32) (I := fun xX H locs ls => xX.1 ≤ np ∧ xX.2 = sumO SI PH xX.1 ∧ H = s.heap ∧ locs = [] ∧ lv_has ls 3 [(2, .int (nI xX.1)), (1, .int xX.2), (0, .ref a0)]) (μ := fun xX => 13 - xX.1) ?_ (0, 0) ⟨(by first | omega | (dsimp only; omega)), rfl, rfl, rfl, lv_sub hl [0, 1, 2] rfl⟩
  intro xX H_1 locs ls hI ih1
  obtain ⟨i_l, sm_l⟩ := xX
  obtain ⟨hi, hsm, rfl, rfl, hl⟩ := hI
  have hl : lv_has ls 3 [(2, .int (nI i_l)), (1, .int sm_l), (0, .ref a0)] := hl
  have hi : i_l ≤ np := hi
  have hsm : sm_l = sumO SI PH i_l := hsm
  refine lv_iload_n hx hb d_PA_sumOff_4 rfl (lv_at hl 0 rfl) ?_
  refine lv_aload_n hx hb d_PA_sumOff_5 rfl (lv_at hl 2 rfl) ?_
  refine va_get (D := D) (ci := 2) (v := .int (nI np)) (C := R_PA) (T := F_PA) (N := 12) hx hb hts i_PA hown hK hP 0 rfl rfl 0 (by decide) (hts _ q_56) (fun _ h9 => h9) rfl d_PA_sumOff_6 ?_
  refine lv_icmp_ge (tgt := 52) hx hb d_PA_sumOff_9 (by decide) (fun h_2 => ?_) (fun h_2 => ?_)
  · have nh_2 : np ≤ i_l := (nI_leI (a := np) (b := i_l) (by omega) (by omega)).mp h_2
    refine lv_iload_n hx hb d_PA_sumOff_52 rfl (lv_at hl 1 rfl) ?_
    exact W.iret (v := sm_l) hx hb hr (fun tT ht hW => ⟨sm_l, rfl, (by rw [← show i_l = np by omega]; exact hsm), ht⟩) (fun q h => absurd h List.not_mem_nil) d_PA_sumOff_53
  · have nh_2 : ¬ np ≤ i_l := fun qZ => h_2 ((nI_leI (a := np) (b := i_l) (by omega) (by omega)).mpr qZ)
    refine lv_aload_n hx hb d_PA_sumOff_12 rfl (lv_at hl 2 rfl) ?_
    refine va_get (D := D) (ci := 2) (v := .ref a6) (C := R_PA) (T := F_PA) (N := 12) hx hb hts i_PA hown hK hP 0 rfl rfl 6 (by decide) (hts _ q_69) (fun _ h9 => h9) rfl d_PA_sumOff_13 ?_
    refine lv_iload_n hx hb d_PA_sumOff_16 rfl (lv_at hl 0 rfl) ?_
    refine my_ldI hx hb hK hP 2 rfl i_l rfl (by omega) (by decide) d_PA_sumOff_17 ?_
    refine lv_if_ne (tgt := 46) hx hb d_PA_sumOff_18 (by decide) (fun h_3 => ?_) (fun h_3 => ?_)
    · refine lv_iinc (v := nI (i_l + 1)) (lv' := [(2, .int (nI (i_l + 1))), (1, .int sm_l), (0, .ref a0)]) hx hb d_PA_sumOff_46 hl (k := 0) rfl (nI_1 i_l) (by decide) rfl (fun ls hl => ?_)
      refine lv_goto (tgt := 4) hx hb d_PA_sumOff_49 (by decide) ?_
      exact ih1 ((i_l + 1), sm_l) _ _ _ (by first | omega | (dsimp only; omega)) ⟨(by first | omega | (dsimp only; omega)), (sumO_n hsm h_3), rfl, rfl, lv_sub hl [0, 1, 2] rfl⟩
    · refine lv_iload_n hx hb d_PA_sumOff_21 rfl (lv_at hl 1 rfl) ?_
      refine lv_aload_n hx hb d_PA_sumOff_22 rfl (lv_at hl 2 rfl) ?_
      refine va_get (D := D) (ci := 2) (v := .ref a2) (C := R_PA) (T := F_PA) (N := 12) hx hb hts i_PA hown hK hP 0 rfl rfl 2 (by decide) (hts _ q_61) (fun _ h9 => h9) rfl d_PA_sumOff_23 ?_
      refine lv_iconst (v := 2) hx hb d_PA_sumOff_26 (by decide) ?_
      refine lv_iload_n hx hb d_PA_sumOff_27 rfl (lv_at hl 0 rfl) ?_
      refine lv_imul hx hb d_PA_sumOff_28 ?_
      refine lv_seti (nI (2 * i_l)) (pk_mul 2 i_l) ?_
      refine my_ldI hx hb hK hP 1 rfl (2 * i_l) rfl (by omega) (by decide) d_PA_sumOff_29 ?_
      refine lv_aload_n hx hb d_PA_sumOff_30 rfl (lv_at hl 2 rfl) ?_
      refine va_get (D := D) (ci := 2) (v := .ref a2) (C := R_PA) (T := F_PA) (N := 12) hx hb hts i_PA hown hK hP 0 rfl rfl 2 (by decide) (hts _ q_61) (fun _ h9 => h9) rfl d_PA_sumOff_31 ?_
      refine lv_iconst (v := 2) hx hb d_PA_sumOff_34 (by decide) ?_
      refine lv_iload_n hx hb d_PA_sumOff_35 rfl (lv_at hl 0 rfl) ?_
      refine lv_imul hx hb d_PA_sumOff_36 ?_
      refine lv_seti (nI (2 * i_l)) (pk_mul 2 i_l) ?_
      refine lv_iconst (v := 1) hx hb d_PA_sumOff_37 (by decide) ?_
      refine lv_iadd hx hb d_PA_sumOff_38 ?_
      refine lv_seti (nI ((2 * i_l) + 1)) (nI_add (2 * i_l) 1) ?_
      refine my_ldI hx hb hK hP 1 rfl ((2 * i_l) + 1) rfl (by omega) (by decide) d_PA_sumOff_39 ?_
      refine lv_isub hx hb d_PA_sumOff_40 ?_
      refine va_mabs hx hb (hml.trans hl.1.symm) hown (hts _ q_526) (hts _ q_527) (hts _ q_9) (hts _ q_528) (Nat.le_of_ble_eq_true rfl) (Nat.le_of_ble_eq_true rfl) (Nat.le_of_ble_eq_true rfl) (Nat.le_of_ble_eq_true rfl) d_PA_sumOff_41 ?_
      refine lv_topi (fun v_4 ev_4 => ?_)
      refine lv_iadd hx hb d_PA_sumOff_44 ?_
      refine lv_istore_n (lv' := [(1, .int (sm_l + v_4)), (2, .int (nI i_l)), (0, .ref a0)]) hx hb d_PA_sumOff_45 rfl hl (by decide) rfl (fun ls hl => ?_)
      refine lv_iinc (v := nI (i_l + 1)) (lv' := [(2, .int (nI (i_l + 1))), (1, .int (sm_l + v_4)), (0, .ref a0)]) hx hb d_PA_sumOff_46 hl (k := 1) rfl (nI_1 i_l) (by decide) rfl (fun ls hl => ?_)
      refine lv_goto (tgt := 4) hx hb d_PA_sumOff_49 (by decide) ?_
      exact ih1 ((i_l + 1), sm_l + v_4) _ _ _ (by first | omega | (dsimp only; omega)) ⟨(by first | omega | (dsimp only; omega)), (sumO_y hsm h_3 ev_4), rfl, rfl, lv_sub hl [0, 1, 2] rfl⟩

set_option maxHeartbeats 4000000 in
set_option maxRecDepth 100000 in
theorem e_PA_setSides (l : Launch) (D : va_G) (cI cZ : ClassId) (a0 : Nat) (j : Nat) (u : Int32) (v : Int32) (np : Nat) (a1 : Nat) (a2 : Nat) (a3 : Nat) (a4 : Nat) (a5 : Nat) (a6 : Nat) (a7 : Nat) (a8 : Nat) (a9 : Nat) (a10 : Nat) (a11 : Nat) (SI : Nat → Int32) (LE : Nat → Int32) (GR : Nat → Int32) (sz : Nat) (h_np : np ≤ 12) (hj : j < 12) : Met l ⟨"PromiseChains$Pairs", "setSides", "(III)V"⟩ (mw ⟨"PromiseChains$Pairs", "setSides", "(III)V"⟩ prog_2_method_9_code 4 none) ({ frames := 0, cells := 0, slots := 0, locals := 0 }) (va_Pc [.ref a0, .int (nI j), .int u, .int v] (PB D cI cZ sz [(a0, .inr (2, [.int (nI np), .ref a1, .ref a2, .ref a3, .ref a4, .ref a5, .ref a6, .ref a7, .ref a8, .ref a9, .ref a10, .ref a11])), (a2, .inl (cI, 24, .inl SI)), (a10, .inl (cI, 12, .inl LE)), (a11, .inl (cI, 12, .inl GR))])) (va_Qv (S := Unit) (fun uU => True) (fun uU tT => BB D (va_A [(a0, .inr (2, [.int (nI np), .ref a1, .ref a2, .ref a3, .ref a4, .ref a5, .ref a6, .ref a7, .ref a8, .ref a9, .ref a10, .ref a11])), (a2, .inl (cI, 24, .inl SI)), (a10, .inl (cI, 12, .inl LE)), (a11, .inl (cI, 12, .inl GR))] sz) [(a0, .inr (2, [.int (nI np), .ref a1, .ref a2, .ref a3, .ref a4, .ref a5, .ref a6, .ref a7, .ref a8, .ref a9, .ref a10, .ref a11])), (a2, .inl (cI, 24, .inl (upd (upd SI (2 * j) u) (2 * j + 1) v))), (a10, .inl (cI, 12, .inl (upd LE j 0))), (a11, .inl (cI, 12, .inl (upd GR j (u + v))))] tT) (va_A [(a0, .inr (2, [.int (nI np), .ref a1, .ref a2, .ref a3, .ref a4, .ref a5, .ref a6, .ref a7, .ref a8, .ref a9, .ref a10, .ref a11])), (a2, .inl (cI, 24, .inl SI)), (a10, .inl (cI, 12, .inl LE)), (a11, .inl (cI, 12, .inl GR))] sz)) 0 0 (va_A [(a0, .inr (2, [.int (nI np), .ref a1, .ref a2, .ref a3, .ref a4, .ref a5, .ref a6, .ref a7, .ref a8, .ref a9, .ref a10, .ref a11])), (a2, .inl (cI, 24, .inl SI)), (a10, .inl (cI, 12, .inl LE)), (a11, .inl (cI, 12, .inl GR))] sz) := by
  refine Met.ofW (cc := prog_2_method_9_code) (maxL := 4) (ret := none) (by decide) rfl ?_
  intro p e s m args below meth c s₁ B hml hv
  obtain ⟨rfl, hsz, hP, hK, hD0, hN⟩ := hv
  have hx := B.exec
  have hb := B.bytes
  have hr := B.returns
  have hts0 := atoms_spec (ws := mw ⟨"PromiseChains$Pairs", "setSides", "(III)V"⟩ prog_2_method_9_code 4 none) B.pre
  have hts : ∀ w ∈ tblG, w.before _ s = true := fun w h => hts0 w (List.mem_cons_of_mem _ h)
  have hown : s.vm.findClass "PromiseChains$Pairs" = some m.cls := findClass_of_methodNamed B.named
  have hlocks := B.notSynchronized
  subst hsz
  have hD := hD0.self (sz := s.heap.size)
  generalize hAe : va_A [(a0, .inr (2, [.int (nI np), .ref a1, .ref a2, .ref a3, .ref a4, .ref a5, .ref a6, .ref a7, .ref a8, .ref a9, .ref a10, .ref a11])), (a2, .inl (cI, 24, .inl SI)), (a10, .inl (cI, 12, .inl LE)), (a11, .inl (cI, 12, .inl GR))] s.heap.size = A at hD ⊢
  have hA : ∀ q : Nat, s.heap.size ≤ q → A q := fun q h => by rw [← hAe]; exact Or.inr h
  have hS : va_S A s.heap s.heap [] := va_S.rf
  have hP : va_P D vwCl [(a0, .inr (2, [.int (nI np), .ref a1, .ref a2, .ref a3, .ref a4, .ref a5, .ref a6, .ref a7, .ref a8, .ref a9, .ref a10, .ref a11])), (a2, .inl (cI, 24, .inl SI)), (a10, .inl (cI, 12, .inl LE)), (a11, .inl (cI, 12, .inl GR))] s.heap := hP
  have hl := lv_entry ([.ref a0, .int (nI j), .int u, .int v]) (n := 4) (Nat.le_of_ble_eq_true rfl)
  rw [lg_entry_eq]
  generalize (lg_sl ([.ref a0, .int (nI j), .int u, .int v]) ++ List.replicate (4 - (lg_sl ([.ref a0, .int (nI j), .int u, .int v])).length) Slot.unset).toArray = ls at hl ⊢
  have hl : lv_has ls 4 [(0, .ref a0), (1, .int (nI j)), (2, .int u), (3, .int v)] := hl
  refine lv_aload_n hx hb d_PA_setSides_0 rfl (lv_at hl 0 rfl) ?_
  refine va_get (D := D) (ci := 2) (v := .ref a2) (C := R_PA) (T := F_PA) (N := 12) hx hb hts i_PA hown hK hP 0 rfl rfl 2 (by decide) (hts _ q_61) (fun _ h9 => h9) rfl d_PA_setSides_1 ?_
  refine lv_iconst (v := 2) hx hb d_PA_setSides_4 (by decide) ?_
  refine lv_iload_n hx hb d_PA_setSides_5 rfl (lv_at hl 1 rfl) ?_
  refine lv_imul hx hb d_PA_setSides_6 ?_
  refine lv_seti (nI (2 * j)) (pk_mul 2 j) ?_
  refine lv_iload_n hx hb d_PA_setSides_7 rfl (lv_at hl 2 rfl) ?_
  refine my_stI hx hb hK hP hD hS 1 rfl (2 * j) rfl (by omega) (by decide) d_PA_setSides_8 (fun H_1 locs hP hD hS => ?_)
  have hP : va_P D vwCl [(a0, .inr (2, [.int (nI np), .ref a1, .ref a2, .ref a3, .ref a4, .ref a5, .ref a6, .ref a7, .ref a8, .ref a9, .ref a10, .ref a11])), (a2, .inl (cI, 24, .inl (upd SI (2 * j) u))), (a10, .inl (cI, 12, .inl LE)), (a11, .inl (cI, 12, .inl GR))] H_1 := hP
  refine lv_aload_n hx hb d_PA_setSides_9 rfl (lv_at hl 0 rfl) ?_
  refine va_get (D := D) (ci := 2) (v := .ref a2) (C := R_PA) (T := F_PA) (N := 12) hx hb hts i_PA hown hK hP 0 rfl rfl 2 (by decide) (hts _ q_61) (fun _ h9 => h9) rfl d_PA_setSides_10 ?_
  refine lv_iconst (v := 2) hx hb d_PA_setSides_13 (by decide) ?_
  refine lv_iload_n hx hb d_PA_setSides_14 rfl (lv_at hl 1 rfl) ?_
  refine lv_imul hx hb d_PA_setSides_15 ?_
  refine lv_seti (nI (2 * j)) (pk_mul 2 j) ?_
  refine lv_iconst (v := 1) hx hb d_PA_setSides_16 (by decide) ?_
  refine lv_iadd hx hb d_PA_setSides_17 ?_
  refine lv_seti (nI ((2 * j) + 1)) (nI_add (2 * j) 1) ?_
  refine lv_iload_n hx hb d_PA_setSides_18 rfl (lv_at hl 3 rfl) ?_
  refine my_stI hx hb hK hP hD hS 1 rfl ((2 * j) + 1) rfl (by omega) (by decide) d_PA_setSides_19 (fun H_2 locs hP hD hS => ?_)
  have hP : va_P D vwCl [(a0, .inr (2, [.int (nI np), .ref a1, .ref a2, .ref a3, .ref a4, .ref a5, .ref a6, .ref a7, .ref a8, .ref a9, .ref a10, .ref a11])), (a2, .inl (cI, 24, .inl (upd (upd SI (2 * j) u) ((2 * j) + 1) v))), (a10, .inl (cI, 12, .inl LE)), (a11, .inl (cI, 12, .inl GR))] H_2 := hP
  refine lv_aload_n hx hb d_PA_setSides_20 rfl (lv_at hl 0 rfl) ?_
  refine va_get (D := D) (ci := 2) (v := .ref a10) (C := R_PA) (T := F_PA) (N := 12) hx hb hts i_PA hown hK hP 0 rfl rfl 10 (by decide) (hts _ q_75) (fun _ h9 => h9) rfl d_PA_setSides_21 ?_
  refine lv_iload_n hx hb d_PA_setSides_24 rfl (lv_at hl 1 rfl) ?_
  refine lv_iconst (v := 0) hx hb d_PA_setSides_25 (by decide) ?_
  refine my_stI hx hb hK hP hD hS 2 rfl j rfl (by omega) (by decide) d_PA_setSides_26 (fun H_3 locs hP hD hS => ?_)
  have hP : va_P D vwCl [(a0, .inr (2, [.int (nI np), .ref a1, .ref a2, .ref a3, .ref a4, .ref a5, .ref a6, .ref a7, .ref a8, .ref a9, .ref a10, .ref a11])), (a2, .inl (cI, 24, .inl (upd (upd SI (2 * j) u) ((2 * j) + 1) v))), (a10, .inl (cI, 12, .inl (upd LE j 0))), (a11, .inl (cI, 12, .inl GR))] H_3 := hP
  refine lv_aload_n hx hb d_PA_setSides_27 rfl (lv_at hl 0 rfl) ?_
  refine va_get (D := D) (ci := 2) (v := .ref a11) (C := R_PA) (T := F_PA) (N := 12) hx hb hts i_PA hown hK hP 0 rfl rfl 11 (by decide) (hts _ q_77) (fun _ h9 => h9) rfl d_PA_setSides_28 ?_
  refine lv_iload_n hx hb d_PA_setSides_31 rfl (lv_at hl 1 rfl) ?_
  refine lv_iload_n hx hb d_PA_setSides_32 rfl (lv_at hl 2 rfl) ?_
  refine lv_iload_n hx hb d_PA_setSides_33 rfl (lv_at hl 3 rfl) ?_
  refine lv_iadd hx hb d_PA_setSides_34 ?_
  refine my_stI hx hb hK hP hD hS 3 rfl j rfl (by omega) (by decide) d_PA_setSides_35 (fun H_4 locs hP hD hS => ?_)
  have hP : va_P D vwCl [(a0, .inr (2, [.int (nI np), .ref a1, .ref a2, .ref a3, .ref a4, .ref a5, .ref a6, .ref a7, .ref a8, .ref a9, .ref a10, .ref a11])), (a2, .inl (cI, 24, .inl (upd (upd SI (2 * j) u) ((2 * j) + 1) v))), (a10, .inl (cI, 12, .inl (upd LE j 0))), (a11, .inl (cI, 12, .inl (upd GR j (u + v))))] H_4 := hP
  have hP9 := hP.sub (ws' := [(a0, .inr (2, [.int (nI np), .ref a1, .ref a2, .ref a3, .ref a4, .ref a5, .ref a6, .ref a7, .ref a8, .ref a9, .ref a10, .ref a11])), (a2, .inl (cI, 24, .inl (upd (upd SI (2 * j) u) (2 * j + 1) v))), (a10, .inl (cI, 12, .inl (upd LE j 0))), (a11, .inl (cI, 12, .inl (upd GR j (u + v))))]) [0, 1, 2, 3] rfl
  have hD9 := hD.sub (ws' := [(a0, .inr (2, [.int (nI np), .ref a1, .ref a2, .ref a3, .ref a4, .ref a5, .ref a6, .ref a7, .ref a8, .ref a9, .ref a10, .ref a11])), (a2, .inl (cI, 24, .inl (upd (upd SI (2 * j) u) (2 * j + 1) v))), (a10, .inl (cI, 12, .inl (upd LE j 0))), (a11, .inl (cI, 12, .inl (upd GR j (u + v))))]) [0, 1, 2, 3] (by decide +kernel) rfl
  refine W.widen (k := 0) (n := 0) (Nat.le_of_ble_eq_true rfl) (Nat.le_of_ble_eq_true rfl) ?_
  exact W.vret hx hb hr (fun tT ht hW => ⟨⟨(), rfl, trivial, by rw [ht]; exact hP9, hD9⟩, hS.F ht⟩) hS.2.2 d_PA_setSides_36

set_option maxHeartbeats 4000000 in
set_option maxRecDepth 100000 in
theorem e_PA_addToSide (l : Launch) (D : va_G) (cI cZ : ClassId) (a0 : Nat) (j : Nat) (t : Nat) (v : Int32) (np : Nat) (a1 : Nat) (a2 : Nat) (a3 : Nat) (a4 : Nat) (a5 : Nat) (a6 : Nat) (a7 : Nat) (a8 : Nat) (a9 : Nat) (a10 : Nat) (a11 : Nat) (SI : Nat → Int32) (LE : Nat → Int32) (GR : Nat → Int32) (sz : Nat) (h_np : np ≤ 12) (hj : j < 12) (htl : t ≤ 1) : Met l ⟨"PromiseChains$Pairs", "addToSide", "(III)V"⟩ (mw ⟨"PromiseChains$Pairs", "addToSide", "(III)V"⟩ prog_2_method_10_code 4 none) ({ frames := 1, cells := 0, slots := 0, locals := 23 }) (va_Pc [.ref a0, .int (nI j), .int (nI t), .int v] (PB D cI cZ sz [(a0, .inr (2, [.int (nI np), .ref a1, .ref a2, .ref a3, .ref a4, .ref a5, .ref a6, .ref a7, .ref a8, .ref a9, .ref a10, .ref a11])), (a2, .inl (cI, 24, .inl SI)), (a10, .inl (cI, 12, .inl LE)), (a11, .inl (cI, 12, .inl GR))])) (va_Qv (S := Unit) (fun uU => True) (fun uU tT => BB D (va_A [(a0, .inr (2, [.int (nI np), .ref a1, .ref a2, .ref a3, .ref a4, .ref a5, .ref a6, .ref a7, .ref a8, .ref a9, .ref a10, .ref a11])), (a2, .inl (cI, 24, .inl SI)), (a10, .inl (cI, 12, .inl LE)), (a11, .inl (cI, 12, .inl GR))] sz) [(a0, .inr (2, [.int (nI np), .ref a1, .ref a2, .ref a3, .ref a4, .ref a5, .ref a6, .ref a7, .ref a8, .ref a9, .ref a10, .ref a11])), (a2, .inl (cI, 24, .inl (addS SI (2 * j + t) v))), (a10, .inl (cI, 12, .inl (upd LE j 0))), (a11, .inl (cI, 12, .inl (upd GR j (gsum (addS SI (2 * j + t) v) j))))] tT) (va_A [(a0, .inr (2, [.int (nI np), .ref a1, .ref a2, .ref a3, .ref a4, .ref a5, .ref a6, .ref a7, .ref a8, .ref a9, .ref a10, .ref a11])), (a2, .inl (cI, 24, .inl SI)), (a10, .inl (cI, 12, .inl LE)), (a11, .inl (cI, 12, .inl GR))] sz)) 0 0 (va_A [(a0, .inr (2, [.int (nI np), .ref a1, .ref a2, .ref a3, .ref a4, .ref a5, .ref a6, .ref a7, .ref a8, .ref a9, .ref a10, .ref a11])), (a2, .inl (cI, 24, .inl SI)), (a10, .inl (cI, 12, .inl LE)), (a11, .inl (cI, 12, .inl GR))] sz) := by
  refine Met.ofW (cc := prog_2_method_10_code) (maxL := 4) (ret := none) (by decide) rfl ?_
  intro p e s m args below meth c s₁ B hml hv
  obtain ⟨rfl, hsz, hP, hK, hD0, hN⟩ := hv
  have hx := B.exec
  have hb := B.bytes
  have hr := B.returns
  have hts0 := atoms_spec (ws := mw ⟨"PromiseChains$Pairs", "addToSide", "(III)V"⟩ prog_2_method_10_code 4 none) B.pre
  have hts : ∀ w ∈ tblG, w.before _ s = true := fun w h => hts0 w (List.mem_cons_of_mem _ h)
  have hown : s.vm.findClass "PromiseChains$Pairs" = some m.cls := findClass_of_methodNamed B.named
  have hlocks := B.notSynchronized
  subst hsz
  have hD := hD0.self (sz := s.heap.size)
  generalize hAe : va_A [(a0, .inr (2, [.int (nI np), .ref a1, .ref a2, .ref a3, .ref a4, .ref a5, .ref a6, .ref a7, .ref a8, .ref a9, .ref a10, .ref a11])), (a2, .inl (cI, 24, .inl SI)), (a10, .inl (cI, 12, .inl LE)), (a11, .inl (cI, 12, .inl GR))] s.heap.size = A at hD ⊢
  have hA : ∀ q : Nat, s.heap.size ≤ q → A q := fun q h => by rw [← hAe]; exact Or.inr h
  have hS : va_S A s.heap s.heap [] := va_S.rf
  have hP : va_P D vwCl [(a0, .inr (2, [.int (nI np), .ref a1, .ref a2, .ref a3, .ref a4, .ref a5, .ref a6, .ref a7, .ref a8, .ref a9, .ref a10, .ref a11])), (a2, .inl (cI, 24, .inl SI)), (a10, .inl (cI, 12, .inl LE)), (a11, .inl (cI, 12, .inl GR))] s.heap := hP
  have hl := lv_entry ([.ref a0, .int (nI j), .int (nI t), .int v]) (n := 4) (Nat.le_of_ble_eq_true rfl)
  rw [lg_entry_eq]
  generalize (lg_sl ([.ref a0, .int (nI j), .int (nI t), .int v]) ++ List.replicate (4 - (lg_sl ([.ref a0, .int (nI j), .int (nI t), .int v])).length) Slot.unset).toArray = ls at hl ⊢
  have hl : lv_has ls 4 [(0, .ref a0), (1, .int (nI j)), (2, .int (nI t)), (3, .int v)] := hl
  refine lv_iload_n hx hb d_PA_addToSide_0 rfl (lv_at hl 2 rfl) ?_
  refine lv_if_ne (tgt := 32) hx hb d_PA_addToSide_1 (by decide) (fun h_1 => ?_) (fun h_1 => ?_)
  · have nh_1 : ¬ t = 0 := fun qZ => h_1 ((nI_eq (a := t) (b := 0) (by omega) (by omega)).mpr qZ)
    refine lv_aload_n hx hb d_PA_addToSide_32 rfl (lv_at hl 0 rfl) ?_
    refine lv_iload_n hx hb d_PA_addToSide_33 rfl (lv_at hl 1 rfl) ?_
    refine lv_aload_n hx hb d_PA_addToSide_34 rfl (lv_at hl 0 rfl) ?_
    refine va_get (D := D) (ci := 2) (v := .ref a2) (C := R_PA) (T := F_PA) (N := 12) hx hb hts i_PA hown hK hP 0 rfl rfl 2 (by decide) (hts _ q_61) (fun _ h9 => h9) rfl d_PA_addToSide_35 ?_
    refine lv_iconst (v := 2) hx hb d_PA_addToSide_38 (by decide) ?_
    refine lv_iload_n hx hb d_PA_addToSide_39 rfl (lv_at hl 1 rfl) ?_
    refine lv_imul hx hb d_PA_addToSide_40 ?_
    refine lv_seti (nI (2 * j)) (pk_mul 2 j) ?_
    refine my_ldI hx hb hK hP 1 rfl (2 * j) rfl (by omega) (by decide) d_PA_addToSide_41 ?_
    refine lv_aload_n hx hb d_PA_addToSide_42 rfl (lv_at hl 0 rfl) ?_
    refine va_get (D := D) (ci := 2) (v := .ref a2) (C := R_PA) (T := F_PA) (N := 12) hx hb hts i_PA hown hK hP 0 rfl rfl 2 (by decide) (hts _ q_61) (fun _ h9 => h9) rfl d_PA_addToSide_43 ?_
    refine lv_iconst (v := 2) hx hb d_PA_addToSide_46 (by decide) ?_
    refine lv_iload_n hx hb d_PA_addToSide_47 rfl (lv_at hl 1 rfl) ?_
    refine lv_imul hx hb d_PA_addToSide_48 ?_
    refine lv_seti (nI (2 * j)) (pk_mul 2 j) ?_
    refine lv_iconst (v := 1) hx hb d_PA_addToSide_49 (by decide) ?_
    refine lv_iadd hx hb d_PA_addToSide_50 ?_
    refine lv_seti (nI ((2 * j) + 1)) (nI_add (2 * j) 1) ?_
    refine my_ldI hx hb hK hP 1 rfl ((2 * j) + 1) rfl (by omega) (by decide) d_PA_addToSide_51 ?_
    refine lv_iload_n hx hb d_PA_addToSide_52 rfl (lv_at hl 3 rfl) ?_
    refine lv_iadd hx hb d_PA_addToSide_53 ?_
    have hPc := hP.sub (ws' := [(a0, .inr (2, [.int (nI np), .ref a1, .ref a2, .ref a3, .ref a4, .ref a5, .ref a6, .ref a7, .ref a8, .ref a9, .ref a10, .ref a11])), (a2, .inl (cI, 24, .inl SI)), (a10, .inl (cI, 12, .inl LE)), (a11, .inl (cI, 12, .inl GR))]) [0, 1, 2, 3] rfl
    have hDc := hD.sub (ws' := [(a0, .inr (2, [.int (nI np), .ref a1, .ref a2, .ref a3, .ref a4, .ref a5, .ref a6, .ref a7, .ref a8, .ref a9, .ref a10, .ref a11])), (a2, .inl (cI, 24, .inl SI)), (a10, .inl (cI, 12, .inl LE)), (a11, .inl (cI, 12, .inl GR))]) [0, 1, 2, 3] (by decide +kernel) rfl
    have hFc := va_free (wc := [(a0, .inr (2, [.int (nI np), .ref a1, .ref a2, .ref a3, .ref a4, .ref a5, .ref a6, .ref a7, .ref a8, .ref a9, .ref a10, .ref a11])), (a2, .inl (cI, 24, .inl SI)), (a10, .inl (cI, 12, .inl LE)), (a11, .inl (cI, 12, .inl GR))]) hD hS hA [0, 1, 2, 3] rfl
    refine va_callv (va_runV (As := [.int (nI j), .int (SI (2 * j)), .int ((SI ((2 * j) + 1)) + v)]) (rest := []) ⟨hx, hb, hml, hown, hts⟩ (e_PA_setSides l D cI cZ a0 j (SI (2 * j)) ((SI ((2 * j) + 1)) + v) np a1 a2 a3 a4 a5 a6 a7 a8 a9 a10 a11 SI LE GR s.heap.size h_np hj) (my_cwV 3 hts q_312 q_309 q_310 q_311 q_3 rfl rfl (by decide +kernel) ⟨Nat.le_of_ble_eq_true rfl, Nat.le_of_ble_eq_true rfl⟩) (my_preV hPc hDc hK hN 2 0 rfl rfl) rfl rfl hl.1 rfl (lv_room (Nat.le_of_ble_eq_true rfl)) d_PA_addToSide_54 ⟨Nat.le_of_ble_eq_true rfl, Nat.le_of_ble_eq_true rfl⟩) hS (fun q _ h => hFc q h) hFc (fun uU tT H_3 locs ht hvm hw_2 hB hz1 hk1 hS => ?_)
    obtain ⟨hP1, hD1⟩ := hB
    rw [ht] at hP1
    obtain ⟨hP, hD⟩ := va_join (wr := []) (w1 := [(a0, .inr (2, [.int (nI np), .ref a1, .ref a2, .ref a3, .ref a4, .ref a5, .ref a6, .ref a7, .ref a8, .ref a9, .ref a10, .ref a11])), (a2, .inl (cI, 24, .inl (upd (upd SI (2 * j) (SI (2 * j))) (2 * j + 1) ((SI ((2 * j) + 1)) + v)))), (a10, .inl (cI, 12, .inl (upd LE j 0))), (a11, .inl (cI, 12, .inl (upd GR j ((SI (2 * j)) + ((SI ((2 * j) + 1)) + v)))))]) hP hD [0, 1, 2, 3] [] rfl rfl (by decide +kernel) (by decide +kernel) hk1 hFc hP1 hD1
    have hP : va_P D vwCl [(a0, .inr (2, [.int (nI np), .ref a1, .ref a2, .ref a3, .ref a4, .ref a5, .ref a6, .ref a7, .ref a8, .ref a9, .ref a10, .ref a11])), (a2, .inl (cI, 24, .inl (upd (upd SI (2 * j) (SI (2 * j))) (2 * j + 1) ((SI ((2 * j) + 1)) + v)))), (a10, .inl (cI, 12, .inl (upd LE j 0))), (a11, .inl (cI, 12, .inl (upd GR j ((SI (2 * j)) + ((SI ((2 * j) + 1)) + v)))))] H_3 := hP
    have hr_4 : (upd (upd SI (2 * j) (SI (2 * j))) (2 * j + 1) ((SI ((2 * j) + 1)) + v)) = addS SI (2 * j + t) v := sd1 nh_1 htl
    have hP : va_P D vwCl [(a0, .inr (2, [.int (nI np), .ref a1, .ref a2, .ref a3, .ref a4, .ref a5, .ref a6, .ref a7, .ref a8, .ref a9, .ref a10, .ref a11])), (a2, .inl (cI, 24, .inl (addS SI (2 * j + t) v))), (a10, .inl (cI, 12, .inl (upd LE j 0))), (a11, .inl (cI, 12, .inl (upd GR j ((SI (2 * j)) + ((SI ((2 * j) + 1)) + v)))))] H_3 := by rw [← hr_4]; exact hP
    have hD : va_D A [(a0, .inr (2, [.int (nI np), .ref a1, .ref a2, .ref a3, .ref a4, .ref a5, .ref a6, .ref a7, .ref a8, .ref a9, .ref a10, .ref a11])), (a2, .inl (cI, 24, .inl (addS SI (2 * j + t) v))), (a10, .inl (cI, 12, .inl (upd LE j 0))), (a11, .inl (cI, 12, .inl (upd GR j ((SI (2 * j)) + ((SI ((2 * j) + 1)) + v)))))] := by rw [← hr_4]; exact hD
    have hr_5 : (upd GR j ((SI (2 * j)) + ((SI ((2 * j) + 1)) + v))) = upd GR j (gsum (addS SI (2 * j + t) v) j) := by rw [← gs1 nh_1 htl]
    have hP : va_P D vwCl [(a0, .inr (2, [.int (nI np), .ref a1, .ref a2, .ref a3, .ref a4, .ref a5, .ref a6, .ref a7, .ref a8, .ref a9, .ref a10, .ref a11])), (a2, .inl (cI, 24, .inl (addS SI (2 * j + t) v))), (a10, .inl (cI, 12, .inl (upd LE j 0))), (a11, .inl (cI, 12, .inl (upd GR j (gsum (addS SI (2 * j + t) v) j))))] H_3 := by rw [← hr_5]; exact hP
    have hD : va_D A [(a0, .inr (2, [.int (nI np), .ref a1, .ref a2, .ref a3, .ref a4, .ref a5, .ref a6, .ref a7, .ref a8, .ref a9, .ref a10, .ref a11])), (a2, .inl (cI, 24, .inl (addS SI (2 * j + t) v))), (a10, .inl (cI, 12, .inl (upd LE j 0))), (a11, .inl (cI, 12, .inl (upd GR j (gsum (addS SI (2 * j + t) v) j))))] := by rw [← hr_5]; exact hD
    have hP : va_P D vwCl [(a0, .inr (2, [.int (nI np), .ref a1, .ref a2, .ref a3, .ref a4, .ref a5, .ref a6, .ref a7, .ref a8, .ref a9, .ref a10, .ref a11])), (a2, .inl (cI, 24, .inl (addS SI (2 * j + t) v))), (a10, .inl (cI, 12, .inl (upd LE j 0))), (a11, .inl (cI, 12, .inl (upd GR j (gsum (addS SI (2 * j + t) v) j))))] H_3 := hP
    have hP9 := hP.sub (ws' := [(a0, .inr (2, [.int (nI np), .ref a1, .ref a2, .ref a3, .ref a4, .ref a5, .ref a6, .ref a7, .ref a8, .ref a9, .ref a10, .ref a11])), (a2, .inl (cI, 24, .inl (addS SI (2 * j + t) v))), (a10, .inl (cI, 12, .inl (upd LE j 0))), (a11, .inl (cI, 12, .inl (upd GR j (gsum (addS SI (2 * j + t) v) j))))]) [0, 1, 2, 3] rfl
    have hD9 := hD.sub (ws' := [(a0, .inr (2, [.int (nI np), .ref a1, .ref a2, .ref a3, .ref a4, .ref a5, .ref a6, .ref a7, .ref a8, .ref a9, .ref a10, .ref a11])), (a2, .inl (cI, 24, .inl (addS SI (2 * j + t) v))), (a10, .inl (cI, 12, .inl (upd LE j 0))), (a11, .inl (cI, 12, .inl (upd GR j (gsum (addS SI (2 * j + t) v) j))))]) [0, 1, 2, 3] (by decide +kernel) rfl
    refine W.widen (k := 0) (n := 0) (Nat.le_of_ble_eq_true rfl) (Nat.le_of_ble_eq_true rfl) ?_
    exact W.vret hx hb hr (fun tT ht hW => ⟨⟨(), rfl, trivial, by rw [ht]; exact hP9, hD9⟩, hS.F ht⟩) hS.2.2 d_PA_addToSide_57
  · have nh_1 : t = 0 := (nI_eq (a := t) (b := 0) (by omega) (by omega)).mp h_1
    refine lv_aload_n hx hb d_PA_addToSide_4 rfl (lv_at hl 0 rfl) ?_
    refine lv_iload_n hx hb d_PA_addToSide_5 rfl (lv_at hl 1 rfl) ?_
    refine lv_aload_n hx hb d_PA_addToSide_6 rfl (lv_at hl 0 rfl) ?_
    refine va_get (D := D) (ci := 2) (v := .ref a2) (C := R_PA) (T := F_PA) (N := 12) hx hb hts i_PA hown hK hP 0 rfl rfl 2 (by decide) (hts _ q_61) (fun _ h9 => h9) rfl d_PA_addToSide_7 ?_
    refine lv_iconst (v := 2) hx hb d_PA_addToSide_10 (by decide) ?_
    refine lv_iload_n hx hb d_PA_addToSide_11 rfl (lv_at hl 1 rfl) ?_
    refine lv_imul hx hb d_PA_addToSide_12 ?_
    refine lv_seti (nI (2 * j)) (pk_mul 2 j) ?_
    refine my_ldI hx hb hK hP 1 rfl (2 * j) rfl (by omega) (by decide) d_PA_addToSide_13 ?_
    refine lv_iload_n hx hb d_PA_addToSide_14 rfl (lv_at hl 3 rfl) ?_
    refine lv_iadd hx hb d_PA_addToSide_15 ?_
    refine lv_aload_n hx hb d_PA_addToSide_16 rfl (lv_at hl 0 rfl) ?_
    refine va_get (D := D) (ci := 2) (v := .ref a2) (C := R_PA) (T := F_PA) (N := 12) hx hb hts i_PA hown hK hP 0 rfl rfl 2 (by decide) (hts _ q_61) (fun _ h9 => h9) rfl d_PA_addToSide_17 ?_
    refine lv_iconst (v := 2) hx hb d_PA_addToSide_20 (by decide) ?_
    refine lv_iload_n hx hb d_PA_addToSide_21 rfl (lv_at hl 1 rfl) ?_
    refine lv_imul hx hb d_PA_addToSide_22 ?_
    refine lv_seti (nI (2 * j)) (pk_mul 2 j) ?_
    refine lv_iconst (v := 1) hx hb d_PA_addToSide_23 (by decide) ?_
    refine lv_iadd hx hb d_PA_addToSide_24 ?_
    refine lv_seti (nI ((2 * j) + 1)) (nI_add (2 * j) 1) ?_
    refine my_ldI hx hb hK hP 1 rfl ((2 * j) + 1) rfl (by omega) (by decide) d_PA_addToSide_25 ?_
    have hPc := hP.sub (ws' := [(a0, .inr (2, [.int (nI np), .ref a1, .ref a2, .ref a3, .ref a4, .ref a5, .ref a6, .ref a7, .ref a8, .ref a9, .ref a10, .ref a11])), (a2, .inl (cI, 24, .inl SI)), (a10, .inl (cI, 12, .inl LE)), (a11, .inl (cI, 12, .inl GR))]) [0, 1, 2, 3] rfl
    have hDc := hD.sub (ws' := [(a0, .inr (2, [.int (nI np), .ref a1, .ref a2, .ref a3, .ref a4, .ref a5, .ref a6, .ref a7, .ref a8, .ref a9, .ref a10, .ref a11])), (a2, .inl (cI, 24, .inl SI)), (a10, .inl (cI, 12, .inl LE)), (a11, .inl (cI, 12, .inl GR))]) [0, 1, 2, 3] (by decide +kernel) rfl
    have hFc := va_free (wc := [(a0, .inr (2, [.int (nI np), .ref a1, .ref a2, .ref a3, .ref a4, .ref a5, .ref a6, .ref a7, .ref a8, .ref a9, .ref a10, .ref a11])), (a2, .inl (cI, 24, .inl SI)), (a10, .inl (cI, 12, .inl LE)), (a11, .inl (cI, 12, .inl GR))]) hD hS hA [0, 1, 2, 3] rfl
    refine va_callv (va_runV (As := [.int (nI j), .int ((SI (2 * j)) + v), .int (SI ((2 * j) + 1))]) (rest := []) ⟨hx, hb, hml, hown, hts⟩ (e_PA_setSides l D cI cZ a0 j ((SI (2 * j)) + v) (SI ((2 * j) + 1)) np a1 a2 a3 a4 a5 a6 a7 a8 a9 a10 a11 SI LE GR s.heap.size h_np hj) (my_cwV 3 hts q_312 q_309 q_310 q_311 q_3 rfl rfl (by decide +kernel) ⟨Nat.le_of_ble_eq_true rfl, Nat.le_of_ble_eq_true rfl⟩) (my_preV hPc hDc hK hN 2 0 rfl rfl) rfl rfl hl.1 rfl (lv_room (Nat.le_of_ble_eq_true rfl)) d_PA_addToSide_26 ⟨Nat.le_of_ble_eq_true rfl, Nat.le_of_ble_eq_true rfl⟩) hS (fun q _ h => hFc q h) hFc (fun uU tT H_7 locs ht hvm hw_6 hB hz1 hk1 hS => ?_)
    obtain ⟨hP1, hD1⟩ := hB
    rw [ht] at hP1
    obtain ⟨hP, hD⟩ := va_join (wr := []) (w1 := [(a0, .inr (2, [.int (nI np), .ref a1, .ref a2, .ref a3, .ref a4, .ref a5, .ref a6, .ref a7, .ref a8, .ref a9, .ref a10, .ref a11])), (a2, .inl (cI, 24, .inl (upd (upd SI (2 * j) ((SI (2 * j)) + v)) (2 * j + 1) (SI ((2 * j) + 1))))), (a10, .inl (cI, 12, .inl (upd LE j 0))), (a11, .inl (cI, 12, .inl (upd GR j (((SI (2 * j)) + v) + (SI ((2 * j) + 1))))))]) hP hD [0, 1, 2, 3] [] rfl rfl (by decide +kernel) (by decide +kernel) hk1 hFc hP1 hD1
    have hP : va_P D vwCl [(a0, .inr (2, [.int (nI np), .ref a1, .ref a2, .ref a3, .ref a4, .ref a5, .ref a6, .ref a7, .ref a8, .ref a9, .ref a10, .ref a11])), (a2, .inl (cI, 24, .inl (upd (upd SI (2 * j) ((SI (2 * j)) + v)) (2 * j + 1) (SI ((2 * j) + 1))))), (a10, .inl (cI, 12, .inl (upd LE j 0))), (a11, .inl (cI, 12, .inl (upd GR j (((SI (2 * j)) + v) + (SI ((2 * j) + 1))))))] H_7 := hP
    refine lv_goto (tgt := 57) hx hb d_PA_addToSide_29 (by decide) ?_
    have hr_8 : (upd (upd SI (2 * j) ((SI (2 * j)) + v)) (2 * j + 1) (SI ((2 * j) + 1))) = addS SI (2 * j + t) v := sd0 nh_1
    have hP : va_P D vwCl [(a0, .inr (2, [.int (nI np), .ref a1, .ref a2, .ref a3, .ref a4, .ref a5, .ref a6, .ref a7, .ref a8, .ref a9, .ref a10, .ref a11])), (a2, .inl (cI, 24, .inl (addS SI (2 * j + t) v))), (a10, .inl (cI, 12, .inl (upd LE j 0))), (a11, .inl (cI, 12, .inl (upd GR j (((SI (2 * j)) + v) + (SI ((2 * j) + 1))))))] H_7 := by rw [← hr_8]; exact hP
    have hD : va_D A [(a0, .inr (2, [.int (nI np), .ref a1, .ref a2, .ref a3, .ref a4, .ref a5, .ref a6, .ref a7, .ref a8, .ref a9, .ref a10, .ref a11])), (a2, .inl (cI, 24, .inl (addS SI (2 * j + t) v))), (a10, .inl (cI, 12, .inl (upd LE j 0))), (a11, .inl (cI, 12, .inl (upd GR j (((SI (2 * j)) + v) + (SI ((2 * j) + 1))))))] := by rw [← hr_8]; exact hD
    have hr_9 : (upd GR j (((SI (2 * j)) + v) + (SI ((2 * j) + 1)))) = upd GR j (gsum (addS SI (2 * j + t) v) j) := by rw [← gs0 nh_1]
    have hP : va_P D vwCl [(a0, .inr (2, [.int (nI np), .ref a1, .ref a2, .ref a3, .ref a4, .ref a5, .ref a6, .ref a7, .ref a8, .ref a9, .ref a10, .ref a11])), (a2, .inl (cI, 24, .inl (addS SI (2 * j + t) v))), (a10, .inl (cI, 12, .inl (upd LE j 0))), (a11, .inl (cI, 12, .inl (upd GR j (gsum (addS SI (2 * j + t) v) j))))] H_7 := by rw [← hr_9]; exact hP
    have hD : va_D A [(a0, .inr (2, [.int (nI np), .ref a1, .ref a2, .ref a3, .ref a4, .ref a5, .ref a6, .ref a7, .ref a8, .ref a9, .ref a10, .ref a11])), (a2, .inl (cI, 24, .inl (addS SI (2 * j + t) v))), (a10, .inl (cI, 12, .inl (upd LE j 0))), (a11, .inl (cI, 12, .inl (upd GR j (gsum (addS SI (2 * j + t) v) j))))] := by rw [← hr_9]; exact hD
    have hP : va_P D vwCl [(a0, .inr (2, [.int (nI np), .ref a1, .ref a2, .ref a3, .ref a4, .ref a5, .ref a6, .ref a7, .ref a8, .ref a9, .ref a10, .ref a11])), (a2, .inl (cI, 24, .inl (addS SI (2 * j + t) v))), (a10, .inl (cI, 12, .inl (upd LE j 0))), (a11, .inl (cI, 12, .inl (upd GR j (gsum (addS SI (2 * j + t) v) j))))] H_7 := hP
    have hP9 := hP.sub (ws' := [(a0, .inr (2, [.int (nI np), .ref a1, .ref a2, .ref a3, .ref a4, .ref a5, .ref a6, .ref a7, .ref a8, .ref a9, .ref a10, .ref a11])), (a2, .inl (cI, 24, .inl (addS SI (2 * j + t) v))), (a10, .inl (cI, 12, .inl (upd LE j 0))), (a11, .inl (cI, 12, .inl (upd GR j (gsum (addS SI (2 * j + t) v) j))))]) [0, 1, 2, 3] rfl
    have hD9 := hD.sub (ws' := [(a0, .inr (2, [.int (nI np), .ref a1, .ref a2, .ref a3, .ref a4, .ref a5, .ref a6, .ref a7, .ref a8, .ref a9, .ref a10, .ref a11])), (a2, .inl (cI, 24, .inl (addS SI (2 * j + t) v))), (a10, .inl (cI, 12, .inl (upd LE j 0))), (a11, .inl (cI, 12, .inl (upd GR j (gsum (addS SI (2 * j + t) v) j))))]) [0, 1, 2, 3] (by decide +kernel) rfl
    refine W.widen (k := 0) (n := 0) (Nat.le_of_ble_eq_true rfl) (Nat.le_of_ble_eq_true rfl) ?_
    exact W.vret hx hb hr (fun tT ht hW => ⟨⟨(), rfl, trivial, by rw [ht]; exact hP9, hD9⟩, hS.F ht⟩) hS.2.2 d_PA_addToSide_57

set_option maxHeartbeats 4000000 in
set_option maxRecDepth 100000 in
theorem e_PA_addState (l : Launch) (D : va_G) (cI cZ : ClassId) (a0 : Nat) (j : Nat) (np : Nat) (a1 : Nat) (a2 : Nat) (a3 : Nat) (a4 : Nat) (a5 : Nat) (a6 : Nat) (a7 : Nat) (a8 : Nat) (a9 : Nat) (a10 : Nat) (a11 : Nat) (SI : Nat → Int32) (LK : Nat → Int32) (SS : Nat → Int32) (ST : Nat → Nat) (sz : Nat) (h_np : np ≤ 12) (h_ST : ∀ zz, ST zz ≤ 64) (hj : j < 12) : Met l ⟨"PromiseChains$Pairs", "addState", "(I)V"⟩ (mw ⟨"PromiseChains$Pairs", "addState", "(I)V"⟩ prog_2_method_11_code 3 none) ({ frames := 0, cells := 0, slots := 0, locals := 0 }) (va_Pc [.ref a0, .int (nI j)] (PB D cI cZ sz [(a0, .inr (2, [.int (nI np), .ref a1, .ref a2, .ref a3, .ref a4, .ref a5, .ref a6, .ref a7, .ref a8, .ref a9, .ref a10, .ref a11])), (a2, .inl (cI, 24, .inl SI)), (a3, .inl (cI, 24, .inl LK)), (a4, .inl (cI, 1536, .inl SS)), (a5, .inl (cI, 12, .inl (fun zy => nI (ST zy))))])) (va_Qv (S := (Nat → Int32)) (fun uU => True) (fun uU tT => BB D (va_A [(a0, .inr (2, [.int (nI np), .ref a1, .ref a2, .ref a3, .ref a4, .ref a5, .ref a6, .ref a7, .ref a8, .ref a9, .ref a10, .ref a11])), (a2, .inl (cI, 24, .inl SI)), (a3, .inl (cI, 24, .inl LK)), (a4, .inl (cI, 1536, .inl SS)), (a5, .inl (cI, 12, .inl (fun zy => nI (ST zy))))] sz) [(a0, .inr (2, [.int (nI np), .ref a1, .ref a2, .ref a3, .ref a4, .ref a5, .ref a6, .ref a7, .ref a8, .ref a9, .ref a10, .ref a11])), (a2, .inl (cI, 24, .inl SI)), (a3, .inl (cI, 24, .inl LK)), (a4, .inl (cI, 1536, .inl (uU))), (a5, .inl (cI, 12, .inl (fun zy => nI ((upN ST j (inc64 (ST j))) zy))))] tT) (va_A [(a0, .inr (2, [.int (nI np), .ref a1, .ref a2, .ref a3, .ref a4, .ref a5, .ref a6, .ref a7, .ref a8, .ref a9, .ref a10, .ref a11])), (a2, .inl (cI, 24, .inl SI)), (a3, .inl (cI, 24, .inl LK)), (a4, .inl (cI, 1536, .inl SS)), (a5, .inl (cI, 12, .inl (fun zy => nI (ST zy))))] sz)) 0 0 (va_A [(a0, .inr (2, [.int (nI np), .ref a1, .ref a2, .ref a3, .ref a4, .ref a5, .ref a6, .ref a7, .ref a8, .ref a9, .ref a10, .ref a11])), (a2, .inl (cI, 24, .inl SI)), (a3, .inl (cI, 24, .inl LK)), (a4, .inl (cI, 1536, .inl SS)), (a5, .inl (cI, 12, .inl (fun zy => nI (ST zy))))] sz) := by
  refine Met.ofW (cc := prog_2_method_11_code) (maxL := 3) (ret := none) (by decide) rfl ?_
  intro p e s m args below meth c s₁ B hml hv
  obtain ⟨rfl, hsz, hP, hK, hD0, hN⟩ := hv
  have hx := B.exec
  have hb := B.bytes
  have hr := B.returns
  have hts0 := atoms_spec (ws := mw ⟨"PromiseChains$Pairs", "addState", "(I)V"⟩ prog_2_method_11_code 3 none) B.pre
  have hts : ∀ w ∈ tblG, w.before _ s = true := fun w h => hts0 w (List.mem_cons_of_mem _ h)
  have hown : s.vm.findClass "PromiseChains$Pairs" = some m.cls := findClass_of_methodNamed B.named
  have hlocks := B.notSynchronized
  subst hsz
  have hD := hD0.self (sz := s.heap.size)
  generalize hAe : va_A [(a0, .inr (2, [.int (nI np), .ref a1, .ref a2, .ref a3, .ref a4, .ref a5, .ref a6, .ref a7, .ref a8, .ref a9, .ref a10, .ref a11])), (a2, .inl (cI, 24, .inl SI)), (a3, .inl (cI, 24, .inl LK)), (a4, .inl (cI, 1536, .inl SS)), (a5, .inl (cI, 12, .inl (fun zy => nI (ST zy))))] s.heap.size = A at hD ⊢
  have hA : ∀ q : Nat, s.heap.size ≤ q → A q := fun q h => by rw [← hAe]; exact Or.inr h
  have hS : va_S A s.heap s.heap [] := va_S.rf
  have hP : va_P D vwCl [(a0, .inr (2, [.int (nI np), .ref a1, .ref a2, .ref a3, .ref a4, .ref a5, .ref a6, .ref a7, .ref a8, .ref a9, .ref a10, .ref a11])), (a2, .inl (cI, 24, .inl SI)), (a3, .inl (cI, 24, .inl LK)), (a4, .inl (cI, 1536, .inl SS)), (a5, .inl (cI, 12, .inl (fun zy => nI (ST zy))))] s.heap := hP
  have hl := lv_entry ([.ref a0, .int (nI j)]) (n := 3) (Nat.le_of_ble_eq_true rfl)
  rw [lg_entry_eq]
  generalize (lg_sl ([.ref a0, .int (nI j)]) ++ List.replicate (3 - (lg_sl ([.ref a0, .int (nI j)])).length) Slot.unset).toArray = ls at hl ⊢
  have hl : lv_has ls 3 [(0, .ref a0), (1, .int (nI j))] := hl
  refine lv_aload_n hx hb d_PA_addState_0 rfl (lv_at hl 0 rfl) ?_
  refine va_get (D := D) (ci := 2) (v := .ref a5) (C := R_PA) (T := F_PA) (N := 12) hx hb hts i_PA hown hK hP 0 rfl rfl 5 (by decide) (hts _ q_67) (fun _ h9 => h9) rfl d_PA_addState_1 ?_
  refine lv_iload_n hx hb d_PA_addState_4 rfl (lv_at hl 1 rfl) ?_
  refine my_ldN hx hb hK hP 4 rfl j rfl (by omega) (by decide) d_PA_addState_5 ?_
  have hb_1 : ST j ≤ 64 := h_ST _
  refine lv_bipush (v := 64) hx hb d_PA_addState_6 (by decide) ?_
  refine lv_icmp_ge (tgt := 21) hx hb d_PA_addState_8 (by decide) (fun h_1 => ?_) (fun h_1 => ?_)
  · have nh_1 : 64 ≤ (ST j) := (nI_leI (a := 64) (b := (ST j)) (by omega) (by omega)).mp h_1
    refine lv_iconst (v := 2) hx hb d_PA_addState_21 (by decide) ?_
    refine lv_iload_n hx hb d_PA_addState_22 rfl (lv_at hl 1 rfl) ?_
    refine lv_bipush (v := 64) hx hb d_PA_addState_23 (by decide) ?_
    refine lv_imul hx hb d_PA_addState_25 ?_
    refine lv_seti (nI (j * 64)) (pk_mul j 64) ?_
    refine lv_aload_n hx hb d_PA_addState_26 rfl (lv_at hl 0 rfl) ?_
    refine va_get (D := D) (ci := 2) (v := .ref a5) (C := R_PA) (T := F_PA) (N := 12) hx hb hts i_PA hown hK hP 0 rfl rfl 5 (by decide) (hts _ q_67) (fun _ h9 => h9) rfl d_PA_addState_27 ?_
    refine lv_iload_n hx hb d_PA_addState_30 rfl (lv_at hl 1 rfl) ?_
    refine my_ldN hx hb hK hP 4 rfl j rfl (by omega) (by decide) d_PA_addState_31 ?_
    have hb_2 : ST j ≤ 64 := h_ST _
    refine lv_iadd hx hb d_PA_addState_32 ?_
    refine lv_seti (nI ((j * 64) + (ST j))) (nI_add (j * 64) (ST j)) ?_
    refine lv_iconst (v := 1) hx hb d_PA_addState_33 (by decide) ?_
    refine lv_isub hx hb d_PA_addState_34 ?_
    refine lv_seti (nI (((j * 64) + (ST j)) - 1)) (pk_sub (a := ((j * 64) + (ST j))) (b := 1) (by omega)) ?_
    refine lv_imul hx hb d_PA_addState_35 ?_
    refine lv_seti (nI (2 * (((j * 64) + (ST j)) - 1))) (pk_mul 2 (((j * 64) + (ST j)) - 1)) ?_
    refine lv_istore_n (lv' := [(2, .int (nI (2 * (((j * 64) + (ST j)) - 1)))), (0, .ref a0), (1, .int (nI j))]) hx hb d_PA_addState_36 rfl hl (by decide) rfl (fun ls hl => ?_)
    refine lv_aload_n hx hb d_PA_addState_37 rfl (lv_at hl 1 rfl) ?_
    refine va_get (D := D) (ci := 2) (v := .ref a4) (C := R_PA) (T := F_PA) (N := 12) hx hb hts i_PA hown hK hP 0 rfl rfl 4 (by decide) (hts _ q_66) (fun _ h9 => h9) rfl d_PA_addState_38 ?_
    refine lv_iload_n hx hb d_PA_addState_41 rfl (lv_at hl 0 rfl) ?_
    refine lv_aload_n hx hb d_PA_addState_42 rfl (lv_at hl 1 rfl) ?_
    refine va_get (D := D) (ci := 2) (v := .ref a2) (C := R_PA) (T := F_PA) (N := 12) hx hb hts i_PA hown hK hP 0 rfl rfl 2 (by decide) (hts _ q_61) (fun _ h9 => h9) rfl d_PA_addState_43 ?_
    refine lv_iconst (v := 2) hx hb d_PA_addState_46 (by decide) ?_
    refine lv_iload_n hx hb d_PA_addState_47 rfl (lv_at hl 2 rfl) ?_
    refine lv_imul hx hb d_PA_addState_48 ?_
    refine lv_seti (nI (2 * j)) (pk_mul 2 j) ?_
    refine my_ldI hx hb hK hP 1 rfl (2 * j) rfl (by omega) (by decide) d_PA_addState_49 ?_
    refine lv_aload_n hx hb d_PA_addState_50 rfl (lv_at hl 1 rfl) ?_
    refine va_get (D := D) (ci := 2) (v := .ref a3) (C := R_PA) (T := F_PA) (N := 12) hx hb hts i_PA hown hK hP 0 rfl rfl 3 (by decide) (hts _ q_64) (fun _ h9 => h9) rfl d_PA_addState_51 ?_
    refine lv_iconst (v := 2) hx hb d_PA_addState_54 (by decide) ?_
    refine lv_iload_n hx hb d_PA_addState_55 rfl (lv_at hl 2 rfl) ?_
    refine lv_imul hx hb d_PA_addState_56 ?_
    refine lv_seti (nI (2 * j)) (pk_mul 2 j) ?_
    refine my_ldI hx hb hK hP 2 rfl (2 * j) rfl (by omega) (by decide) d_PA_addState_57 ?_
    refine lv_iadd hx hb d_PA_addState_58 ?_
    refine my_stI hx hb hK hP hD hS 3 rfl (2 * (((j * 64) + (ST j)) - 1)) rfl (by omega) (by decide) d_PA_addState_59 (fun H_2 locs hP hD hS => ?_)
    have hP : va_P D vwCl [(a0, .inr (2, [.int (nI np), .ref a1, .ref a2, .ref a3, .ref a4, .ref a5, .ref a6, .ref a7, .ref a8, .ref a9, .ref a10, .ref a11])), (a2, .inl (cI, 24, .inl SI)), (a3, .inl (cI, 24, .inl LK)), (a4, .inl (cI, 1536, .inl (upd SS (2 * (((j * 64) + (ST j)) - 1)) ((SI (2 * j)) + (LK (2 * j)))))), (a5, .inl (cI, 12, .inl (fun zy => nI (ST zy))))] H_2 := hP
    refine lv_aload_n hx hb d_PA_addState_60 rfl (lv_at hl 1 rfl) ?_
    refine va_get (D := D) (ci := 2) (v := .ref a4) (C := R_PA) (T := F_PA) (N := 12) hx hb hts i_PA hown hK hP 0 rfl rfl 4 (by decide) (hts _ q_66) (fun _ h9 => h9) rfl d_PA_addState_61 ?_
    refine lv_iload_n hx hb d_PA_addState_64 rfl (lv_at hl 0 rfl) ?_
    refine lv_iconst (v := 1) hx hb d_PA_addState_65 (by decide) ?_
    refine lv_iadd hx hb d_PA_addState_66 ?_
    refine lv_seti (nI ((2 * (((j * 64) + (ST j)) - 1)) + 1)) (nI_add (2 * (((j * 64) + (ST j)) - 1)) 1) ?_
    refine lv_aload_n hx hb d_PA_addState_67 rfl (lv_at hl 1 rfl) ?_
    refine va_get (D := D) (ci := 2) (v := .ref a2) (C := R_PA) (T := F_PA) (N := 12) hx hb hts i_PA hown hK hP 0 rfl rfl 2 (by decide) (hts _ q_61) (fun _ h9 => h9) rfl d_PA_addState_68 ?_
    refine lv_iconst (v := 2) hx hb d_PA_addState_71 (by decide) ?_
    refine lv_iload_n hx hb d_PA_addState_72 rfl (lv_at hl 2 rfl) ?_
    refine lv_imul hx hb d_PA_addState_73 ?_
    refine lv_seti (nI (2 * j)) (pk_mul 2 j) ?_
    refine lv_iconst (v := 1) hx hb d_PA_addState_74 (by decide) ?_
    refine lv_iadd hx hb d_PA_addState_75 ?_
    refine lv_seti (nI ((2 * j) + 1)) (nI_add (2 * j) 1) ?_
    refine my_ldI hx hb hK hP 1 rfl ((2 * j) + 1) rfl (by omega) (by decide) d_PA_addState_76 ?_
    refine lv_aload_n hx hb d_PA_addState_77 rfl (lv_at hl 1 rfl) ?_
    refine va_get (D := D) (ci := 2) (v := .ref a3) (C := R_PA) (T := F_PA) (N := 12) hx hb hts i_PA hown hK hP 0 rfl rfl 3 (by decide) (hts _ q_64) (fun _ h9 => h9) rfl d_PA_addState_78 ?_
    refine lv_iconst (v := 2) hx hb d_PA_addState_81 (by decide) ?_
    refine lv_iload_n hx hb d_PA_addState_82 rfl (lv_at hl 2 rfl) ?_
    refine lv_imul hx hb d_PA_addState_83 ?_
    refine lv_seti (nI (2 * j)) (pk_mul 2 j) ?_
    refine lv_iconst (v := 1) hx hb d_PA_addState_84 (by decide) ?_
    refine lv_iadd hx hb d_PA_addState_85 ?_
    refine lv_seti (nI ((2 * j) + 1)) (nI_add (2 * j) 1) ?_
    refine my_ldI hx hb hK hP 2 rfl ((2 * j) + 1) rfl (by omega) (by decide) d_PA_addState_86 ?_
    refine lv_iadd hx hb d_PA_addState_87 ?_
    refine my_stI hx hb hK hP hD hS 3 rfl ((2 * (((j * 64) + (ST j)) - 1)) + 1) rfl (by omega) (by decide) d_PA_addState_88 (fun H_3 locs hP hD hS => ?_)
    have hP : va_P D vwCl [(a0, .inr (2, [.int (nI np), .ref a1, .ref a2, .ref a3, .ref a4, .ref a5, .ref a6, .ref a7, .ref a8, .ref a9, .ref a10, .ref a11])), (a2, .inl (cI, 24, .inl SI)), (a3, .inl (cI, 24, .inl LK)), (a4, .inl (cI, 1536, .inl (upd (upd SS (2 * (((j * 64) + (ST j)) - 1)) ((SI (2 * j)) + (LK (2 * j)))) ((2 * (((j * 64) + (ST j)) - 1)) + 1) ((SI ((2 * j) + 1)) + (LK ((2 * j) + 1)))))), (a5, .inl (cI, 12, .inl (fun zy => nI (ST zy))))] H_3 := hP
    have hr_4 : ST = upN ST j (inc64 (ST j)) := upN_inc (Nat.not_lt.mpr nh_1)
    have hP : va_P D vwCl [(a0, .inr (2, [.int (nI np), .ref a1, .ref a2, .ref a3, .ref a4, .ref a5, .ref a6, .ref a7, .ref a8, .ref a9, .ref a10, .ref a11])), (a2, .inl (cI, 24, .inl SI)), (a3, .inl (cI, 24, .inl LK)), (a4, .inl (cI, 1536, .inl (upd (upd SS (2 * (((j * 64) + (ST j)) - 1)) ((SI (2 * j)) + (LK (2 * j)))) ((2 * (((j * 64) + (ST j)) - 1)) + 1) ((SI ((2 * j) + 1)) + (LK ((2 * j) + 1)))))), (a5, .inl (cI, 12, .inl (fun zy => nI ((upN ST j (inc64 (ST j))) zy))))] H_3 := by rw [← hr_4]; exact hP
    have hD : va_D A [(a0, .inr (2, [.int (nI np), .ref a1, .ref a2, .ref a3, .ref a4, .ref a5, .ref a6, .ref a7, .ref a8, .ref a9, .ref a10, .ref a11])), (a2, .inl (cI, 24, .inl SI)), (a3, .inl (cI, 24, .inl LK)), (a4, .inl (cI, 1536, .inl (upd (upd SS (2 * (((j * 64) + (ST j)) - 1)) ((SI (2 * j)) + (LK (2 * j)))) ((2 * (((j * 64) + (ST j)) - 1)) + 1) ((SI ((2 * j) + 1)) + (LK ((2 * j) + 1)))))), (a5, .inl (cI, 12, .inl (fun zy => nI ((upN ST j (inc64 (ST j))) zy))))] := by rw [← hr_4]; exact hD
    have hP : va_P D vwCl [(a0, .inr (2, [.int (nI np), .ref a1, .ref a2, .ref a3, .ref a4, .ref a5, .ref a6, .ref a7, .ref a8, .ref a9, .ref a10, .ref a11])), (a2, .inl (cI, 24, .inl SI)), (a3, .inl (cI, 24, .inl LK)), (a4, .inl (cI, 1536, .inl (upd (upd SS (2 * (((j * 64) + (ST j)) - 1)) ((SI (2 * j)) + (LK (2 * j)))) ((2 * (((j * 64) + (ST j)) - 1)) + 1) ((SI ((2 * j) + 1)) + (LK ((2 * j) + 1)))))), (a5, .inl (cI, 12, .inl (fun zy => nI ((upN ST j (inc64 (ST j))) zy))))] H_3 := hP
    have hP9 := hP.sub (ws' := [(a0, .inr (2, [.int (nI np), .ref a1, .ref a2, .ref a3, .ref a4, .ref a5, .ref a6, .ref a7, .ref a8, .ref a9, .ref a10, .ref a11])), (a2, .inl (cI, 24, .inl SI)), (a3, .inl (cI, 24, .inl LK)), (a4, .inl (cI, 1536, .inl (upd (upd SS (2 * (((j * 64) + (ST j)) - 1)) ((SI (2 * j)) + (LK (2 * j)))) ((2 * (((j * 64) + (ST j)) - 1)) + 1) ((SI ((2 * j) + 1)) + (LK ((2 * j) + 1)))))), (a5, .inl (cI, 12, .inl (fun zy => nI ((upN ST j (inc64 (ST j))) zy))))]) [0, 1, 2, 3, 4] rfl
    have hD9 := hD.sub (ws' := [(a0, .inr (2, [.int (nI np), .ref a1, .ref a2, .ref a3, .ref a4, .ref a5, .ref a6, .ref a7, .ref a8, .ref a9, .ref a10, .ref a11])), (a2, .inl (cI, 24, .inl SI)), (a3, .inl (cI, 24, .inl LK)), (a4, .inl (cI, 1536, .inl (upd (upd SS (2 * (((j * 64) + (ST j)) - 1)) ((SI (2 * j)) + (LK (2 * j)))) ((2 * (((j * 64) + (ST j)) - 1)) + 1) ((SI ((2 * j) + 1)) + (LK ((2 * j) + 1)))))), (a5, .inl (cI, 12, .inl (fun zy => nI ((upN ST j (inc64 (ST j))) zy))))]) [0, 1, 2, 3, 4] (by decide +kernel) rfl
    refine W.widen (k := 0) (n := 0) (Nat.le_of_ble_eq_true rfl) (Nat.le_of_ble_eq_true rfl) ?_
    exact W.vret hx hb hr (fun tT ht hW => ⟨⟨(upd (upd SS (2 * (((j * 64) + (ST j)) - 1)) ((SI (2 * j)) + (LK (2 * j)))) ((2 * (((j * 64) + (ST j)) - 1)) + 1) ((SI ((2 * j) + 1)) + (LK ((2 * j) + 1)))), rfl, trivial, by rw [ht]; exact hP9, hD9⟩, hS.F ht⟩) hS.2.2 d_PA_addState_89
  · have nh_1 : ¬ 64 ≤ (ST j) := fun qZ => h_1 ((nI_leI (a := 64) (b := (ST j)) (by omega) (by omega)).mpr qZ)
    refine lv_aload_n hx hb d_PA_addState_11 rfl (lv_at hl 0 rfl) ?_
    refine va_get (D := D) (ci := 2) (v := .ref a5) (C := R_PA) (T := F_PA) (N := 12) hx hb hts i_PA hown hK hP 0 rfl rfl 5 (by decide) (hts _ q_67) (fun _ h9 => h9) rfl d_PA_addState_12 ?_
    refine lv_iload_n hx hb d_PA_addState_15 rfl (lv_at hl 1 rfl) ?_
    refine lv_dup2_11 hx hb d_PA_addState_16 rfl rfl ?_
    refine my_ldN hx hb hK hP 4 rfl j rfl (by omega) (by decide) d_PA_addState_17 ?_
    have hb_2 : ST j ≤ 64 := h_ST _
    refine lv_iconst (v := 1) hx hb d_PA_addState_18 (by decide) ?_
    refine lv_iadd hx hb d_PA_addState_19 ?_
    refine lv_seti (nI ((ST j) + 1)) (nI_add (ST j) 1) ?_
    refine my_stN hx hb hK hP hD hS 4 rfl j ((ST j) + 1) rfl rfl (by omega) (by decide) d_PA_addState_20 (fun H_5 locs hP hD hS => ?_)
    have hP : va_P D vwCl [(a0, .inr (2, [.int (nI np), .ref a1, .ref a2, .ref a3, .ref a4, .ref a5, .ref a6, .ref a7, .ref a8, .ref a9, .ref a10, .ref a11])), (a2, .inl (cI, 24, .inl SI)), (a3, .inl (cI, 24, .inl LK)), (a4, .inl (cI, 1536, .inl SS)), (a5, .inl (cI, 12, .inl (fun zy => nI ((upN ST j ((ST j) + 1)) zy))))] H_5 := hP
    refine lv_iconst (v := 2) hx hb d_PA_addState_21 (by decide) ?_
    refine lv_iload_n hx hb d_PA_addState_22 rfl (lv_at hl 1 rfl) ?_
    refine lv_bipush (v := 64) hx hb d_PA_addState_23 (by decide) ?_
    refine lv_imul hx hb d_PA_addState_25 ?_
    refine lv_seti (nI (j * 64)) (pk_mul j 64) ?_
    refine lv_aload_n hx hb d_PA_addState_26 rfl (lv_at hl 0 rfl) ?_
    refine va_get (D := D) (ci := 2) (v := .ref a5) (C := R_PA) (T := F_PA) (N := 12) hx hb hts i_PA hown hK hP 0 rfl rfl 5 (by decide) (hts _ q_67) (fun _ h9 => h9) rfl d_PA_addState_27 ?_
    refine lv_iload_n hx hb d_PA_addState_30 rfl (lv_at hl 1 rfl) ?_
    refine my_ldN hx hb hK hP 4 rfl j rfl (by omega) (by decide) d_PA_addState_31 ?_
    refine lv_seti (nI ((ST j) + 1)) (congrArg nI upN_s) ?_
    refine lv_iadd hx hb d_PA_addState_32 ?_
    refine lv_seti (nI ((j * 64) + ((ST j) + 1))) (nI_add (j * 64) ((ST j) + 1)) ?_
    refine lv_iconst (v := 1) hx hb d_PA_addState_33 (by decide) ?_
    refine lv_isub hx hb d_PA_addState_34 ?_
    refine lv_seti (nI (((j * 64) + ((ST j) + 1)) - 1)) (pk_sub (a := ((j * 64) + ((ST j) + 1))) (b := 1) (by omega)) ?_
    refine lv_imul hx hb d_PA_addState_35 ?_
    refine lv_seti (nI (2 * (((j * 64) + ((ST j) + 1)) - 1))) (pk_mul 2 (((j * 64) + ((ST j) + 1)) - 1)) ?_
    refine lv_istore_n (lv' := [(2, .int (nI (2 * (((j * 64) + ((ST j) + 1)) - 1)))), (0, .ref a0), (1, .int (nI j))]) hx hb d_PA_addState_36 rfl hl (by decide) rfl (fun ls hl => ?_)
    refine lv_aload_n hx hb d_PA_addState_37 rfl (lv_at hl 1 rfl) ?_
    refine va_get (D := D) (ci := 2) (v := .ref a4) (C := R_PA) (T := F_PA) (N := 12) hx hb hts i_PA hown hK hP 0 rfl rfl 4 (by decide) (hts _ q_66) (fun _ h9 => h9) rfl d_PA_addState_38 ?_
    refine lv_iload_n hx hb d_PA_addState_41 rfl (lv_at hl 0 rfl) ?_
    refine lv_aload_n hx hb d_PA_addState_42 rfl (lv_at hl 1 rfl) ?_
    refine va_get (D := D) (ci := 2) (v := .ref a2) (C := R_PA) (T := F_PA) (N := 12) hx hb hts i_PA hown hK hP 0 rfl rfl 2 (by decide) (hts _ q_61) (fun _ h9 => h9) rfl d_PA_addState_43 ?_
    refine lv_iconst (v := 2) hx hb d_PA_addState_46 (by decide) ?_
    refine lv_iload_n hx hb d_PA_addState_47 rfl (lv_at hl 2 rfl) ?_
    refine lv_imul hx hb d_PA_addState_48 ?_
    refine lv_seti (nI (2 * j)) (pk_mul 2 j) ?_
    refine my_ldI hx hb hK hP 1 rfl (2 * j) rfl (by omega) (by decide) d_PA_addState_49 ?_
    refine lv_aload_n hx hb d_PA_addState_50 rfl (lv_at hl 1 rfl) ?_
    refine va_get (D := D) (ci := 2) (v := .ref a3) (C := R_PA) (T := F_PA) (N := 12) hx hb hts i_PA hown hK hP 0 rfl rfl 3 (by decide) (hts _ q_64) (fun _ h9 => h9) rfl d_PA_addState_51 ?_
    refine lv_iconst (v := 2) hx hb d_PA_addState_54 (by decide) ?_
    refine lv_iload_n hx hb d_PA_addState_55 rfl (lv_at hl 2 rfl) ?_
    refine lv_imul hx hb d_PA_addState_56 ?_
    refine lv_seti (nI (2 * j)) (pk_mul 2 j) ?_
    refine my_ldI hx hb hK hP 2 rfl (2 * j) rfl (by omega) (by decide) d_PA_addState_57 ?_
    refine lv_iadd hx hb d_PA_addState_58 ?_
    refine my_stI hx hb hK hP hD hS 3 rfl (2 * (((j * 64) + ((ST j) + 1)) - 1)) rfl (by omega) (by decide) d_PA_addState_59 (fun H_6 locs hP hD hS => ?_)
    have hP : va_P D vwCl [(a0, .inr (2, [.int (nI np), .ref a1, .ref a2, .ref a3, .ref a4, .ref a5, .ref a6, .ref a7, .ref a8, .ref a9, .ref a10, .ref a11])), (a2, .inl (cI, 24, .inl SI)), (a3, .inl (cI, 24, .inl LK)), (a4, .inl (cI, 1536, .inl (upd SS (2 * (((j * 64) + ((ST j) + 1)) - 1)) ((SI (2 * j)) + (LK (2 * j)))))), (a5, .inl (cI, 12, .inl (fun zy => nI ((upN ST j ((ST j) + 1)) zy))))] H_6 := hP
    refine lv_aload_n hx hb d_PA_addState_60 rfl (lv_at hl 1 rfl) ?_
    refine va_get (D := D) (ci := 2) (v := .ref a4) (C := R_PA) (T := F_PA) (N := 12) hx hb hts i_PA hown hK hP 0 rfl rfl 4 (by decide) (hts _ q_66) (fun _ h9 => h9) rfl d_PA_addState_61 ?_
    refine lv_iload_n hx hb d_PA_addState_64 rfl (lv_at hl 0 rfl) ?_
    refine lv_iconst (v := 1) hx hb d_PA_addState_65 (by decide) ?_
    refine lv_iadd hx hb d_PA_addState_66 ?_
    refine lv_seti (nI ((2 * (((j * 64) + ((ST j) + 1)) - 1)) + 1)) (nI_add (2 * (((j * 64) + ((ST j) + 1)) - 1)) 1) ?_
    refine lv_aload_n hx hb d_PA_addState_67 rfl (lv_at hl 1 rfl) ?_
    refine va_get (D := D) (ci := 2) (v := .ref a2) (C := R_PA) (T := F_PA) (N := 12) hx hb hts i_PA hown hK hP 0 rfl rfl 2 (by decide) (hts _ q_61) (fun _ h9 => h9) rfl d_PA_addState_68 ?_
    refine lv_iconst (v := 2) hx hb d_PA_addState_71 (by decide) ?_
    refine lv_iload_n hx hb d_PA_addState_72 rfl (lv_at hl 2 rfl) ?_
    refine lv_imul hx hb d_PA_addState_73 ?_
    refine lv_seti (nI (2 * j)) (pk_mul 2 j) ?_
    refine lv_iconst (v := 1) hx hb d_PA_addState_74 (by decide) ?_
    refine lv_iadd hx hb d_PA_addState_75 ?_
    refine lv_seti (nI ((2 * j) + 1)) (nI_add (2 * j) 1) ?_
    refine my_ldI hx hb hK hP 1 rfl ((2 * j) + 1) rfl (by omega) (by decide) d_PA_addState_76 ?_
    refine lv_aload_n hx hb d_PA_addState_77 rfl (lv_at hl 1 rfl) ?_
    refine va_get (D := D) (ci := 2) (v := .ref a3) (C := R_PA) (T := F_PA) (N := 12) hx hb hts i_PA hown hK hP 0 rfl rfl 3 (by decide) (hts _ q_64) (fun _ h9 => h9) rfl d_PA_addState_78 ?_
    refine lv_iconst (v := 2) hx hb d_PA_addState_81 (by decide) ?_
    refine lv_iload_n hx hb d_PA_addState_82 rfl (lv_at hl 2 rfl) ?_
    refine lv_imul hx hb d_PA_addState_83 ?_
    refine lv_seti (nI (2 * j)) (pk_mul 2 j) ?_
    refine lv_iconst (v := 1) hx hb d_PA_addState_84 (by decide) ?_
    refine lv_iadd hx hb d_PA_addState_85 ?_
    refine lv_seti (nI ((2 * j) + 1)) (nI_add (2 * j) 1) ?_
    refine my_ldI hx hb hK hP 2 rfl ((2 * j) + 1) rfl (by omega) (by decide) d_PA_addState_86 ?_
    refine lv_iadd hx hb d_PA_addState_87 ?_
    refine my_stI hx hb hK hP hD hS 3 rfl ((2 * (((j * 64) + ((ST j) + 1)) - 1)) + 1) rfl (by omega) (by decide) d_PA_addState_88 (fun H_7 locs hP hD hS => ?_)
    have hP : va_P D vwCl [(a0, .inr (2, [.int (nI np), .ref a1, .ref a2, .ref a3, .ref a4, .ref a5, .ref a6, .ref a7, .ref a8, .ref a9, .ref a10, .ref a11])), (a2, .inl (cI, 24, .inl SI)), (a3, .inl (cI, 24, .inl LK)), (a4, .inl (cI, 1536, .inl (upd (upd SS (2 * (((j * 64) + ((ST j) + 1)) - 1)) ((SI (2 * j)) + (LK (2 * j)))) ((2 * (((j * 64) + ((ST j) + 1)) - 1)) + 1) ((SI ((2 * j) + 1)) + (LK ((2 * j) + 1)))))), (a5, .inl (cI, 12, .inl (fun zy => nI ((upN ST j ((ST j) + 1)) zy))))] H_7 := hP
    have hr_8 : (upN ST j ((ST j) + 1)) = upN ST j (inc64 (ST j)) := by rw [← inc_lt (Nat.not_le.mp nh_1)]
    have hP : va_P D vwCl [(a0, .inr (2, [.int (nI np), .ref a1, .ref a2, .ref a3, .ref a4, .ref a5, .ref a6, .ref a7, .ref a8, .ref a9, .ref a10, .ref a11])), (a2, .inl (cI, 24, .inl SI)), (a3, .inl (cI, 24, .inl LK)), (a4, .inl (cI, 1536, .inl (upd (upd SS (2 * (((j * 64) + ((ST j) + 1)) - 1)) ((SI (2 * j)) + (LK (2 * j)))) ((2 * (((j * 64) + ((ST j) + 1)) - 1)) + 1) ((SI ((2 * j) + 1)) + (LK ((2 * j) + 1)))))), (a5, .inl (cI, 12, .inl (fun zy => nI ((upN ST j (inc64 (ST j))) zy))))] H_7 := by rw [← hr_8]; exact hP
    have hD : va_D A [(a0, .inr (2, [.int (nI np), .ref a1, .ref a2, .ref a3, .ref a4, .ref a5, .ref a6, .ref a7, .ref a8, .ref a9, .ref a10, .ref a11])), (a2, .inl (cI, 24, .inl SI)), (a3, .inl (cI, 24, .inl LK)), (a4, .inl (cI, 1536, .inl (upd (upd SS (2 * (((j * 64) + ((ST j) + 1)) - 1)) ((SI (2 * j)) + (LK (2 * j)))) ((2 * (((j * 64) + ((ST j) + 1)) - 1)) + 1) ((SI ((2 * j) + 1)) + (LK ((2 * j) + 1)))))), (a5, .inl (cI, 12, .inl (fun zy => nI ((upN ST j (inc64 (ST j))) zy))))] := by rw [← hr_8]; exact hD
    have hP : va_P D vwCl [(a0, .inr (2, [.int (nI np), .ref a1, .ref a2, .ref a3, .ref a4, .ref a5, .ref a6, .ref a7, .ref a8, .ref a9, .ref a10, .ref a11])), (a2, .inl (cI, 24, .inl SI)), (a3, .inl (cI, 24, .inl LK)), (a4, .inl (cI, 1536, .inl (upd (upd SS (2 * (((j * 64) + ((ST j) + 1)) - 1)) ((SI (2 * j)) + (LK (2 * j)))) ((2 * (((j * 64) + ((ST j) + 1)) - 1)) + 1) ((SI ((2 * j) + 1)) + (LK ((2 * j) + 1)))))), (a5, .inl (cI, 12, .inl (fun zy => nI ((upN ST j (inc64 (ST j))) zy))))] H_7 := hP
    have hP9 := hP.sub (ws' := [(a0, .inr (2, [.int (nI np), .ref a1, .ref a2, .ref a3, .ref a4, .ref a5, .ref a6, .ref a7, .ref a8, .ref a9, .ref a10, .ref a11])), (a2, .inl (cI, 24, .inl SI)), (a3, .inl (cI, 24, .inl LK)), (a4, .inl (cI, 1536, .inl (upd (upd SS (2 * (((j * 64) + ((ST j) + 1)) - 1)) ((SI (2 * j)) + (LK (2 * j)))) ((2 * (((j * 64) + ((ST j) + 1)) - 1)) + 1) ((SI ((2 * j) + 1)) + (LK ((2 * j) + 1)))))), (a5, .inl (cI, 12, .inl (fun zy => nI ((upN ST j (inc64 (ST j))) zy))))]) [0, 1, 2, 3, 4] rfl
    have hD9 := hD.sub (ws' := [(a0, .inr (2, [.int (nI np), .ref a1, .ref a2, .ref a3, .ref a4, .ref a5, .ref a6, .ref a7, .ref a8, .ref a9, .ref a10, .ref a11])), (a2, .inl (cI, 24, .inl SI)), (a3, .inl (cI, 24, .inl LK)), (a4, .inl (cI, 1536, .inl (upd (upd SS (2 * (((j * 64) + ((ST j) + 1)) - 1)) ((SI (2 * j)) + (LK (2 * j)))) ((2 * (((j * 64) + ((ST j) + 1)) - 1)) + 1) ((SI ((2 * j) + 1)) + (LK ((2 * j) + 1)))))), (a5, .inl (cI, 12, .inl (fun zy => nI ((upN ST j (inc64 (ST j))) zy))))]) [0, 1, 2, 3, 4] (by decide +kernel) rfl
    refine W.widen (k := 0) (n := 0) (Nat.le_of_ble_eq_true rfl) (Nat.le_of_ble_eq_true rfl) ?_
    exact W.vret hx hb hr (fun tT ht hW => ⟨⟨(upd (upd SS (2 * (((j * 64) + ((ST j) + 1)) - 1)) ((SI (2 * j)) + (LK (2 * j)))) ((2 * (((j * 64) + ((ST j) + 1)) - 1)) + 1) ((SI ((2 * j) + 1)) + (LK ((2 * j) + 1)))), rfl, trivial, by rw [ht]; exact hP9, hD9⟩, hS.F ht⟩) hS.2.2 d_PA_addState_89

set_option maxHeartbeats 4000000 in
set_option maxRecDepth 100000 in
theorem e_PA_lock (l : Launch) (D : va_G) (cI cZ : ClassId) (a0 : Nat) (j : Nat) (t : Nat) (v : Int32) (np : Nat) (a1 : Nat) (a2 : Nat) (a3 : Nat) (a4 : Nat) (a5 : Nat) (a6 : Nat) (a7 : Nat) (a8 : Nat) (a9 : Nat) (a10 : Nat) (a11 : Nat) (SI : Nat → Int32) (LK : Nat → Int32) (LE : Nat → Int32) (GR : Nat → Int32) (sz : Nat) (h_np : np ≤ 12) (hj : j < 12) (htl : t ≤ 1) : Met l ⟨"PromiseChains$Pairs", "lock", "(III)V"⟩ (mw ⟨"PromiseChains$Pairs", "lock", "(III)V"⟩ prog_2_method_12_code 4 none) ({ frames := 2, cells := 0, slots := 0, locals := 46 }) (va_Pc [.ref a0, .int (nI j), .int (nI t), .int v] (PB D cI cZ sz [(a0, .inr (2, [.int (nI np), .ref a1, .ref a2, .ref a3, .ref a4, .ref a5, .ref a6, .ref a7, .ref a8, .ref a9, .ref a10, .ref a11])), (a2, .inl (cI, 24, .inl SI)), (a3, .inl (cI, 24, .inl LK)), (a10, .inl (cI, 12, .inl LE)), (a11, .inl (cI, 12, .inl GR))])) (va_Qv (S := Unit) (fun uU => True) (fun uU tT => BB D (va_A [(a0, .inr (2, [.int (nI np), .ref a1, .ref a2, .ref a3, .ref a4, .ref a5, .ref a6, .ref a7, .ref a8, .ref a9, .ref a10, .ref a11])), (a2, .inl (cI, 24, .inl SI)), (a3, .inl (cI, 24, .inl LK)), (a10, .inl (cI, 12, .inl LE)), (a11, .inl (cI, 12, .inl GR))] sz) [(a0, .inr (2, [.int (nI np), .ref a1, .ref a2, .ref a3, .ref a4, .ref a5, .ref a6, .ref a7, .ref a8, .ref a9, .ref a10, .ref a11])), (a2, .inl (cI, 24, .inl (addS SI (2 * j + t) (-v)))), (a3, .inl (cI, 24, .inl (addS LK (2 * j + t) v))), (a10, .inl (cI, 12, .inl (upd LE j 0))), (a11, .inl (cI, 12, .inl (upd GR j (gsum (addS SI (2 * j + t) (-v)) j))))] tT) (va_A [(a0, .inr (2, [.int (nI np), .ref a1, .ref a2, .ref a3, .ref a4, .ref a5, .ref a6, .ref a7, .ref a8, .ref a9, .ref a10, .ref a11])), (a2, .inl (cI, 24, .inl SI)), (a3, .inl (cI, 24, .inl LK)), (a10, .inl (cI, 12, .inl LE)), (a11, .inl (cI, 12, .inl GR))] sz)) 0 0 (va_A [(a0, .inr (2, [.int (nI np), .ref a1, .ref a2, .ref a3, .ref a4, .ref a5, .ref a6, .ref a7, .ref a8, .ref a9, .ref a10, .ref a11])), (a2, .inl (cI, 24, .inl SI)), (a3, .inl (cI, 24, .inl LK)), (a10, .inl (cI, 12, .inl LE)), (a11, .inl (cI, 12, .inl GR))] sz) := by
  refine Met.ofW (cc := prog_2_method_12_code) (maxL := 4) (ret := none) (by decide) rfl ?_
  intro p e s m args below meth c s₁ B hml hv
  obtain ⟨rfl, hsz, hP, hK, hD0, hN⟩ := hv
  have hx := B.exec
  have hb := B.bytes
  have hr := B.returns
  have hts0 := atoms_spec (ws := mw ⟨"PromiseChains$Pairs", "lock", "(III)V"⟩ prog_2_method_12_code 4 none) B.pre
  have hts : ∀ w ∈ tblG, w.before _ s = true := fun w h => hts0 w (List.mem_cons_of_mem _ h)
  have hown : s.vm.findClass "PromiseChains$Pairs" = some m.cls := findClass_of_methodNamed B.named
  have hlocks := B.notSynchronized
  subst hsz
  have hD := hD0.self (sz := s.heap.size)
  generalize hAe : va_A [(a0, .inr (2, [.int (nI np), .ref a1, .ref a2, .ref a3, .ref a4, .ref a5, .ref a6, .ref a7, .ref a8, .ref a9, .ref a10, .ref a11])), (a2, .inl (cI, 24, .inl SI)), (a3, .inl (cI, 24, .inl LK)), (a10, .inl (cI, 12, .inl LE)), (a11, .inl (cI, 12, .inl GR))] s.heap.size = A at hD ⊢
  have hA : ∀ q : Nat, s.heap.size ≤ q → A q := fun q h => by rw [← hAe]; exact Or.inr h
  have hS : va_S A s.heap s.heap [] := va_S.rf
  have hP : va_P D vwCl [(a0, .inr (2, [.int (nI np), .ref a1, .ref a2, .ref a3, .ref a4, .ref a5, .ref a6, .ref a7, .ref a8, .ref a9, .ref a10, .ref a11])), (a2, .inl (cI, 24, .inl SI)), (a3, .inl (cI, 24, .inl LK)), (a10, .inl (cI, 12, .inl LE)), (a11, .inl (cI, 12, .inl GR))] s.heap := hP
  have hl := lv_entry ([.ref a0, .int (nI j), .int (nI t), .int v]) (n := 4) (Nat.le_of_ble_eq_true rfl)
  rw [lg_entry_eq]
  generalize (lg_sl ([.ref a0, .int (nI j), .int (nI t), .int v]) ++ List.replicate (4 - (lg_sl ([.ref a0, .int (nI j), .int (nI t), .int v])).length) Slot.unset).toArray = ls at hl ⊢
  have hl : lv_has ls 4 [(0, .ref a0), (1, .int (nI j)), (2, .int (nI t)), (3, .int v)] := hl
  refine lv_aload_n hx hb d_PA_lock_0 rfl (lv_at hl 0 rfl) ?_
  refine va_get (D := D) (ci := 2) (v := .ref a3) (C := R_PA) (T := F_PA) (N := 12) hx hb hts i_PA hown hK hP 0 rfl rfl 3 (by decide) (hts _ q_64) (fun _ h9 => h9) rfl d_PA_lock_1 ?_
  refine lv_iconst (v := 2) hx hb d_PA_lock_4 (by decide) ?_
  refine lv_iload_n hx hb d_PA_lock_5 rfl (lv_at hl 1 rfl) ?_
  refine lv_imul hx hb d_PA_lock_6 ?_
  refine lv_seti (nI (2 * j)) (pk_mul 2 j) ?_
  refine lv_iload_n hx hb d_PA_lock_7 rfl (lv_at hl 2 rfl) ?_
  refine lv_iadd hx hb d_PA_lock_8 ?_
  refine lv_seti (nI ((2 * j) + t)) (nI_add (2 * j) t) ?_
  refine lv_dup2_11 hx hb d_PA_lock_9 rfl rfl ?_
  refine my_ldI hx hb hK hP 2 rfl ((2 * j) + t) rfl (by omega) (by decide) d_PA_lock_10 ?_
  refine lv_iload_n hx hb d_PA_lock_11 rfl (lv_at hl 3 rfl) ?_
  refine lv_iadd hx hb d_PA_lock_12 ?_
  refine my_stI hx hb hK hP hD hS 2 rfl ((2 * j) + t) rfl (by omega) (by decide) d_PA_lock_13 (fun H_1 locs hP hD hS => ?_)
  have hP : va_P D vwCl [(a0, .inr (2, [.int (nI np), .ref a1, .ref a2, .ref a3, .ref a4, .ref a5, .ref a6, .ref a7, .ref a8, .ref a9, .ref a10, .ref a11])), (a2, .inl (cI, 24, .inl SI)), (a3, .inl (cI, 24, .inl (upd LK ((2 * j) + t) ((LK ((2 * j) + t)) + v)))), (a10, .inl (cI, 12, .inl LE)), (a11, .inl (cI, 12, .inl GR))] H_1 := hP
  refine lv_aload_n hx hb d_PA_lock_14 rfl (lv_at hl 0 rfl) ?_
  refine lv_iload_n hx hb d_PA_lock_15 rfl (lv_at hl 1 rfl) ?_
  refine lv_iload_n hx hb d_PA_lock_16 rfl (lv_at hl 2 rfl) ?_
  refine lv_iload_n hx hb d_PA_lock_17 rfl (lv_at hl 3 rfl) ?_
  refine lv_ineg hx hb d_PA_lock_18 ?_
  have hPc := hP.sub (ws' := [(a0, .inr (2, [.int (nI np), .ref a1, .ref a2, .ref a3, .ref a4, .ref a5, .ref a6, .ref a7, .ref a8, .ref a9, .ref a10, .ref a11])), (a2, .inl (cI, 24, .inl SI)), (a10, .inl (cI, 12, .inl LE)), (a11, .inl (cI, 12, .inl GR))]) [0, 1, 3, 4] rfl
  have hDc := hD.sub (ws' := [(a0, .inr (2, [.int (nI np), .ref a1, .ref a2, .ref a3, .ref a4, .ref a5, .ref a6, .ref a7, .ref a8, .ref a9, .ref a10, .ref a11])), (a2, .inl (cI, 24, .inl SI)), (a10, .inl (cI, 12, .inl LE)), (a11, .inl (cI, 12, .inl GR))]) [0, 1, 3, 4] (by decide +kernel) rfl
  have hFc := va_free (wc := [(a0, .inr (2, [.int (nI np), .ref a1, .ref a2, .ref a3, .ref a4, .ref a5, .ref a6, .ref a7, .ref a8, .ref a9, .ref a10, .ref a11])), (a2, .inl (cI, 24, .inl SI)), (a10, .inl (cI, 12, .inl LE)), (a11, .inl (cI, 12, .inl GR))]) hD hS hA [0, 1, 3, 4] rfl
  refine va_callv (va_runV (As := [.int (nI j), .int (nI t), .int (-v)]) (rest := []) ⟨hx, hb, hml, hown, hts⟩ (e_PA_addToSide l D cI cZ a0 j t (-v) np a1 a2 a3 a4 a5 a6 a7 a8 a9 a10 a11 SI LE GR H_1.size h_np hj htl) (my_cwV 3 hts q_360 q_357 q_358 q_359 q_3 rfl rfl (by decide +kernel) ⟨Nat.le_of_ble_eq_true rfl, Nat.le_of_ble_eq_true rfl⟩) (my_preV hPc hDc hK hN 2 0 rfl rfl) rfl rfl hl.1 rfl (lv_room (Nat.le_of_ble_eq_true rfl)) d_PA_lock_19 ⟨Nat.le_of_ble_eq_true rfl, Nat.le_of_ble_eq_true rfl⟩) hS (fun q _ h => hFc q h) hFc (fun uU tT H_3 locs ht hvm hw_2 hB hz1 hk1 hS => ?_)
  obtain ⟨hP1, hD1⟩ := hB
  rw [ht] at hP1
  obtain ⟨hP, hD⟩ := va_join (wr := [(a3, .inl (cI, 24, .inl (upd LK ((2 * j) + t) ((LK ((2 * j) + t)) + v))))]) (w1 := [(a0, .inr (2, [.int (nI np), .ref a1, .ref a2, .ref a3, .ref a4, .ref a5, .ref a6, .ref a7, .ref a8, .ref a9, .ref a10, .ref a11])), (a2, .inl (cI, 24, .inl (addS SI (2 * j + t) (-v)))), (a10, .inl (cI, 12, .inl (upd LE j 0))), (a11, .inl (cI, 12, .inl (upd GR j (gsum (addS SI (2 * j + t) (-v)) j))))]) hP hD [0, 1, 3, 4] [2] rfl rfl (by decide +kernel) (by decide +kernel) hk1 hFc hP1 hD1
  have hP : va_P D vwCl [(a3, .inl (cI, 24, .inl (upd LK ((2 * j) + t) ((LK ((2 * j) + t)) + v)))), (a0, .inr (2, [.int (nI np), .ref a1, .ref a2, .ref a3, .ref a4, .ref a5, .ref a6, .ref a7, .ref a8, .ref a9, .ref a10, .ref a11])), (a2, .inl (cI, 24, .inl (addS SI (2 * j + t) (-v)))), (a10, .inl (cI, 12, .inl (upd LE j 0))), (a11, .inl (cI, 12, .inl (upd GR j (gsum (addS SI (2 * j + t) (-v)) j))))] H_3 := hP
  have hP9 := hP.sub (ws' := [(a0, .inr (2, [.int (nI np), .ref a1, .ref a2, .ref a3, .ref a4, .ref a5, .ref a6, .ref a7, .ref a8, .ref a9, .ref a10, .ref a11])), (a2, .inl (cI, 24, .inl (addS SI (2 * j + t) (-v)))), (a3, .inl (cI, 24, .inl (addS LK (2 * j + t) v))), (a10, .inl (cI, 12, .inl (upd LE j 0))), (a11, .inl (cI, 12, .inl (upd GR j (gsum (addS SI (2 * j + t) (-v)) j))))]) [1, 2, 0, 3, 4] rfl
  have hD9 := hD.sub (ws' := [(a0, .inr (2, [.int (nI np), .ref a1, .ref a2, .ref a3, .ref a4, .ref a5, .ref a6, .ref a7, .ref a8, .ref a9, .ref a10, .ref a11])), (a2, .inl (cI, 24, .inl (addS SI (2 * j + t) (-v)))), (a3, .inl (cI, 24, .inl (addS LK (2 * j + t) v))), (a10, .inl (cI, 12, .inl (upd LE j 0))), (a11, .inl (cI, 12, .inl (upd GR j (gsum (addS SI (2 * j + t) (-v)) j))))]) [1, 2, 0, 3, 4] (by decide +kernel) rfl
  refine W.widen (k := 0) (n := 0) (Nat.le_of_ble_eq_true rfl) (Nat.le_of_ble_eq_true rfl) ?_
  exact W.vret hx hb hr (fun tT ht hW => ⟨⟨(), rfl, trivial, by rw [ht]; exact hP9, hD9⟩, hS.F ht⟩) hS.2.2 d_PA_lock_22

set_option maxHeartbeats 4000000 in
set_option maxRecDepth 100000 in
theorem e_PA_giveBack (l : Launch) (D : va_G) (cI cZ : ClassId) (a0 : Nat) (j : Nat) (t : Nat) (v : Int32) (np : Nat) (a1 : Nat) (a2 : Nat) (a3 : Nat) (a4 : Nat) (a5 : Nat) (a6 : Nat) (a7 : Nat) (a8 : Nat) (a9 : Nat) (a10 : Nat) (a11 : Nat) (SI : Nat → Int32) (LK : Nat → Int32) (LE : Nat → Int32) (GR : Nat → Int32) (sz : Nat) (h_np : np ≤ 12) (hj : j < 12) (htl : t ≤ 1) : Met l ⟨"PromiseChains$Pairs", "giveBack", "(III)V"⟩ (mw ⟨"PromiseChains$Pairs", "giveBack", "(III)V"⟩ prog_2_method_13_code 4 none) ({ frames := 2, cells := 0, slots := 0, locals := 46 }) (va_Pc [.ref a0, .int (nI j), .int (nI t), .int v] (PB D cI cZ sz [(a0, .inr (2, [.int (nI np), .ref a1, .ref a2, .ref a3, .ref a4, .ref a5, .ref a6, .ref a7, .ref a8, .ref a9, .ref a10, .ref a11])), (a2, .inl (cI, 24, .inl SI)), (a3, .inl (cI, 24, .inl LK)), (a10, .inl (cI, 12, .inl LE)), (a11, .inl (cI, 12, .inl GR))])) (va_Qv (S := Unit) (fun uU => True) (fun uU tT => BB D (va_A [(a0, .inr (2, [.int (nI np), .ref a1, .ref a2, .ref a3, .ref a4, .ref a5, .ref a6, .ref a7, .ref a8, .ref a9, .ref a10, .ref a11])), (a2, .inl (cI, 24, .inl SI)), (a3, .inl (cI, 24, .inl LK)), (a10, .inl (cI, 12, .inl LE)), (a11, .inl (cI, 12, .inl GR))] sz) [(a0, .inr (2, [.int (nI np), .ref a1, .ref a2, .ref a3, .ref a4, .ref a5, .ref a6, .ref a7, .ref a8, .ref a9, .ref a10, .ref a11])), (a2, .inl (cI, 24, .inl (addS SI (2 * j + t) v))), (a3, .inl (cI, 24, .inl (subS LK (2 * j + t) v))), (a10, .inl (cI, 12, .inl (upd LE j 0))), (a11, .inl (cI, 12, .inl (upd GR j (gsum (addS SI (2 * j + t) v) j))))] tT) (va_A [(a0, .inr (2, [.int (nI np), .ref a1, .ref a2, .ref a3, .ref a4, .ref a5, .ref a6, .ref a7, .ref a8, .ref a9, .ref a10, .ref a11])), (a2, .inl (cI, 24, .inl SI)), (a3, .inl (cI, 24, .inl LK)), (a10, .inl (cI, 12, .inl LE)), (a11, .inl (cI, 12, .inl GR))] sz)) 0 0 (va_A [(a0, .inr (2, [.int (nI np), .ref a1, .ref a2, .ref a3, .ref a4, .ref a5, .ref a6, .ref a7, .ref a8, .ref a9, .ref a10, .ref a11])), (a2, .inl (cI, 24, .inl SI)), (a3, .inl (cI, 24, .inl LK)), (a10, .inl (cI, 12, .inl LE)), (a11, .inl (cI, 12, .inl GR))] sz) := by
  refine Met.ofW (cc := prog_2_method_13_code) (maxL := 4) (ret := none) (by decide) rfl ?_
  intro p e s m args below meth c s₁ B hml hv
  obtain ⟨rfl, hsz, hP, hK, hD0, hN⟩ := hv
  have hx := B.exec
  have hb := B.bytes
  have hr := B.returns
  have hts0 := atoms_spec (ws := mw ⟨"PromiseChains$Pairs", "giveBack", "(III)V"⟩ prog_2_method_13_code 4 none) B.pre
  have hts : ∀ w ∈ tblG, w.before _ s = true := fun w h => hts0 w (List.mem_cons_of_mem _ h)
  have hown : s.vm.findClass "PromiseChains$Pairs" = some m.cls := findClass_of_methodNamed B.named
  have hlocks := B.notSynchronized
  subst hsz
  have hD := hD0.self (sz := s.heap.size)
  generalize hAe : va_A [(a0, .inr (2, [.int (nI np), .ref a1, .ref a2, .ref a3, .ref a4, .ref a5, .ref a6, .ref a7, .ref a8, .ref a9, .ref a10, .ref a11])), (a2, .inl (cI, 24, .inl SI)), (a3, .inl (cI, 24, .inl LK)), (a10, .inl (cI, 12, .inl LE)), (a11, .inl (cI, 12, .inl GR))] s.heap.size = A at hD ⊢
  have hA : ∀ q : Nat, s.heap.size ≤ q → A q := fun q h => by rw [← hAe]; exact Or.inr h
  have hS : va_S A s.heap s.heap [] := va_S.rf
  have hP : va_P D vwCl [(a0, .inr (2, [.int (nI np), .ref a1, .ref a2, .ref a3, .ref a4, .ref a5, .ref a6, .ref a7, .ref a8, .ref a9, .ref a10, .ref a11])), (a2, .inl (cI, 24, .inl SI)), (a3, .inl (cI, 24, .inl LK)), (a10, .inl (cI, 12, .inl LE)), (a11, .inl (cI, 12, .inl GR))] s.heap := hP
  have hl := lv_entry ([.ref a0, .int (nI j), .int (nI t), .int v]) (n := 4) (Nat.le_of_ble_eq_true rfl)
  rw [lg_entry_eq]
  generalize (lg_sl ([.ref a0, .int (nI j), .int (nI t), .int v]) ++ List.replicate (4 - (lg_sl ([.ref a0, .int (nI j), .int (nI t), .int v])).length) Slot.unset).toArray = ls at hl ⊢
  have hl : lv_has ls 4 [(0, .ref a0), (1, .int (nI j)), (2, .int (nI t)), (3, .int v)] := hl
  refine lv_aload_n hx hb d_PA_giveBack_0 rfl (lv_at hl 0 rfl) ?_
  refine va_get (D := D) (ci := 2) (v := .ref a3) (C := R_PA) (T := F_PA) (N := 12) hx hb hts i_PA hown hK hP 0 rfl rfl 3 (by decide) (hts _ q_64) (fun _ h9 => h9) rfl d_PA_giveBack_1 ?_
  refine lv_iconst (v := 2) hx hb d_PA_giveBack_4 (by decide) ?_
  refine lv_iload_n hx hb d_PA_giveBack_5 rfl (lv_at hl 1 rfl) ?_
  refine lv_imul hx hb d_PA_giveBack_6 ?_
  refine lv_seti (nI (2 * j)) (pk_mul 2 j) ?_
  refine lv_iload_n hx hb d_PA_giveBack_7 rfl (lv_at hl 2 rfl) ?_
  refine lv_iadd hx hb d_PA_giveBack_8 ?_
  refine lv_seti (nI ((2 * j) + t)) (nI_add (2 * j) t) ?_
  refine lv_dup2_11 hx hb d_PA_giveBack_9 rfl rfl ?_
  refine my_ldI hx hb hK hP 2 rfl ((2 * j) + t) rfl (by omega) (by decide) d_PA_giveBack_10 ?_
  refine lv_iload_n hx hb d_PA_giveBack_11 rfl (lv_at hl 3 rfl) ?_
  refine lv_isub hx hb d_PA_giveBack_12 ?_
  refine my_stI hx hb hK hP hD hS 2 rfl ((2 * j) + t) rfl (by omega) (by decide) d_PA_giveBack_13 (fun H_1 locs hP hD hS => ?_)
  have hP : va_P D vwCl [(a0, .inr (2, [.int (nI np), .ref a1, .ref a2, .ref a3, .ref a4, .ref a5, .ref a6, .ref a7, .ref a8, .ref a9, .ref a10, .ref a11])), (a2, .inl (cI, 24, .inl SI)), (a3, .inl (cI, 24, .inl (upd LK ((2 * j) + t) ((LK ((2 * j) + t)) - v)))), (a10, .inl (cI, 12, .inl LE)), (a11, .inl (cI, 12, .inl GR))] H_1 := hP
  refine lv_aload_n hx hb d_PA_giveBack_14 rfl (lv_at hl 0 rfl) ?_
  refine lv_iload_n hx hb d_PA_giveBack_15 rfl (lv_at hl 1 rfl) ?_
  refine lv_iload_n hx hb d_PA_giveBack_16 rfl (lv_at hl 2 rfl) ?_
  refine lv_iload_n hx hb d_PA_giveBack_17 rfl (lv_at hl 3 rfl) ?_
  have hPc := hP.sub (ws' := [(a0, .inr (2, [.int (nI np), .ref a1, .ref a2, .ref a3, .ref a4, .ref a5, .ref a6, .ref a7, .ref a8, .ref a9, .ref a10, .ref a11])), (a2, .inl (cI, 24, .inl SI)), (a10, .inl (cI, 12, .inl LE)), (a11, .inl (cI, 12, .inl GR))]) [0, 1, 3, 4] rfl
  have hDc := hD.sub (ws' := [(a0, .inr (2, [.int (nI np), .ref a1, .ref a2, .ref a3, .ref a4, .ref a5, .ref a6, .ref a7, .ref a8, .ref a9, .ref a10, .ref a11])), (a2, .inl (cI, 24, .inl SI)), (a10, .inl (cI, 12, .inl LE)), (a11, .inl (cI, 12, .inl GR))]) [0, 1, 3, 4] (by decide +kernel) rfl
  have hFc := va_free (wc := [(a0, .inr (2, [.int (nI np), .ref a1, .ref a2, .ref a3, .ref a4, .ref a5, .ref a6, .ref a7, .ref a8, .ref a9, .ref a10, .ref a11])), (a2, .inl (cI, 24, .inl SI)), (a10, .inl (cI, 12, .inl LE)), (a11, .inl (cI, 12, .inl GR))]) hD hS hA [0, 1, 3, 4] rfl
  refine va_callv (va_runV (As := [.int (nI j), .int (nI t), .int v]) (rest := []) ⟨hx, hb, hml, hown, hts⟩ (e_PA_addToSide l D cI cZ a0 j t v np a1 a2 a3 a4 a5 a6 a7 a8 a9 a10 a11 SI LE GR H_1.size h_np hj htl) (my_cwV 3 hts q_360 q_357 q_358 q_359 q_3 rfl rfl (by decide +kernel) ⟨Nat.le_of_ble_eq_true rfl, Nat.le_of_ble_eq_true rfl⟩) (my_preV hPc hDc hK hN 2 0 rfl rfl) rfl rfl hl.1 rfl (lv_room (Nat.le_of_ble_eq_true rfl)) d_PA_giveBack_18 ⟨Nat.le_of_ble_eq_true rfl, Nat.le_of_ble_eq_true rfl⟩) hS (fun q _ h => hFc q h) hFc (fun uU tT H_3 locs ht hvm hw_2 hB hz1 hk1 hS => ?_)
  obtain ⟨hP1, hD1⟩ := hB
  rw [ht] at hP1
  obtain ⟨hP, hD⟩ := va_join (wr := [(a3, .inl (cI, 24, .inl (upd LK ((2 * j) + t) ((LK ((2 * j) + t)) - v))))]) (w1 := [(a0, .inr (2, [.int (nI np), .ref a1, .ref a2, .ref a3, .ref a4, .ref a5, .ref a6, .ref a7, .ref a8, .ref a9, .ref a10, .ref a11])), (a2, .inl (cI, 24, .inl (addS SI (2 * j + t) v))), (a10, .inl (cI, 12, .inl (upd LE j 0))), (a11, .inl (cI, 12, .inl (upd GR j (gsum (addS SI (2 * j + t) v) j))))]) hP hD [0, 1, 3, 4] [2] rfl rfl (by decide +kernel) (by decide +kernel) hk1 hFc hP1 hD1
  have hP : va_P D vwCl [(a3, .inl (cI, 24, .inl (upd LK ((2 * j) + t) ((LK ((2 * j) + t)) - v)))), (a0, .inr (2, [.int (nI np), .ref a1, .ref a2, .ref a3, .ref a4, .ref a5, .ref a6, .ref a7, .ref a8, .ref a9, .ref a10, .ref a11])), (a2, .inl (cI, 24, .inl (addS SI (2 * j + t) v))), (a10, .inl (cI, 12, .inl (upd LE j 0))), (a11, .inl (cI, 12, .inl (upd GR j (gsum (addS SI (2 * j + t) v) j))))] H_3 := hP
  have hP9 := hP.sub (ws' := [(a0, .inr (2, [.int (nI np), .ref a1, .ref a2, .ref a3, .ref a4, .ref a5, .ref a6, .ref a7, .ref a8, .ref a9, .ref a10, .ref a11])), (a2, .inl (cI, 24, .inl (addS SI (2 * j + t) v))), (a3, .inl (cI, 24, .inl (subS LK (2 * j + t) v))), (a10, .inl (cI, 12, .inl (upd LE j 0))), (a11, .inl (cI, 12, .inl (upd GR j (gsum (addS SI (2 * j + t) v) j))))]) [1, 2, 0, 3, 4] rfl
  have hD9 := hD.sub (ws' := [(a0, .inr (2, [.int (nI np), .ref a1, .ref a2, .ref a3, .ref a4, .ref a5, .ref a6, .ref a7, .ref a8, .ref a9, .ref a10, .ref a11])), (a2, .inl (cI, 24, .inl (addS SI (2 * j + t) v))), (a3, .inl (cI, 24, .inl (subS LK (2 * j + t) v))), (a10, .inl (cI, 12, .inl (upd LE j 0))), (a11, .inl (cI, 12, .inl (upd GR j (gsum (addS SI (2 * j + t) v) j))))]) [1, 2, 0, 3, 4] (by decide +kernel) rfl
  refine W.widen (k := 0) (n := 0) (Nat.le_of_ble_eq_true rfl) (Nat.le_of_ble_eq_true rfl) ?_
  exact W.vret hx hb hr (fun tT ht hW => ⟨⟨(), rfl, trivial, by rw [ht]; exact hP9, hD9⟩, hS.F ht⟩) hS.2.2 d_PA_giveBack_21

set_option maxHeartbeats 4000000 in
set_option maxRecDepth 100000 in
theorem e_PA_handOver (l : Launch) (D : va_G) (cI cZ : ClassId) (a0 : Nat) (j : Nat) (t : Nat) (v : Int32) (np : Nat) (a1 : Nat) (a2 : Nat) (a3 : Nat) (a4 : Nat) (a5 : Nat) (a6 : Nat) (a7 : Nat) (a8 : Nat) (a9 : Nat) (a10 : Nat) (a11 : Nat) (SI : Nat → Int32) (LK : Nat → Int32) (SS : Nat → Int32) (ST : Nat → Nat) (LE : Nat → Int32) (GR : Nat → Int32) (sz : Nat) (h_np : np ≤ 12) (h_ST : ∀ zz, ST zz ≤ 64) (hj : j < 12) (htl : t ≤ 1) : Met l ⟨"PromiseChains$Pairs", "handOver", "(III)V"⟩ (mw ⟨"PromiseChains$Pairs", "handOver", "(III)V"⟩ prog_2_method_14_code 4 none) ({ frames := 2, cells := 0, slots := 0, locals := 46 }) (va_Pc [.ref a0, .int (nI j), .int (nI t), .int v] (PB D cI cZ sz [(a0, .inr (2, [.int (nI np), .ref a1, .ref a2, .ref a3, .ref a4, .ref a5, .ref a6, .ref a7, .ref a8, .ref a9, .ref a10, .ref a11])), (a2, .inl (cI, 24, .inl SI)), (a3, .inl (cI, 24, .inl LK)), (a4, .inl (cI, 1536, .inl SS)), (a5, .inl (cI, 12, .inl (fun zy => nI (ST zy)))), (a10, .inl (cI, 12, .inl LE)), (a11, .inl (cI, 12, .inl GR))])) (va_Qv (S := (Nat → Int32)) (fun uU => True) (fun uU tT => BB D (va_A [(a0, .inr (2, [.int (nI np), .ref a1, .ref a2, .ref a3, .ref a4, .ref a5, .ref a6, .ref a7, .ref a8, .ref a9, .ref a10, .ref a11])), (a2, .inl (cI, 24, .inl SI)), (a3, .inl (cI, 24, .inl LK)), (a4, .inl (cI, 1536, .inl SS)), (a5, .inl (cI, 12, .inl (fun zy => nI (ST zy)))), (a10, .inl (cI, 12, .inl LE)), (a11, .inl (cI, 12, .inl GR))] sz) [(a0, .inr (2, [.int (nI np), .ref a1, .ref a2, .ref a3, .ref a4, .ref a5, .ref a6, .ref a7, .ref a8, .ref a9, .ref a10, .ref a11])), (a2, .inl (cI, 24, .inl (addS SI (2 * j + (1 - t)) v))), (a3, .inl (cI, 24, .inl (subS LK (2 * j + t) v))), (a4, .inl (cI, 1536, .inl (uU))), (a5, .inl (cI, 12, .inl (fun zy => nI ((upN ST j (inc64 (ST j))) zy)))), (a10, .inl (cI, 12, .inl (upd LE j 0))), (a11, .inl (cI, 12, .inl (upd GR j (gsum (addS SI (2 * j + (1 - t)) v) j))))] tT) (va_A [(a0, .inr (2, [.int (nI np), .ref a1, .ref a2, .ref a3, .ref a4, .ref a5, .ref a6, .ref a7, .ref a8, .ref a9, .ref a10, .ref a11])), (a2, .inl (cI, 24, .inl SI)), (a3, .inl (cI, 24, .inl LK)), (a4, .inl (cI, 1536, .inl SS)), (a5, .inl (cI, 12, .inl (fun zy => nI (ST zy)))), (a10, .inl (cI, 12, .inl LE)), (a11, .inl (cI, 12, .inl GR))] sz)) 0 0 (va_A [(a0, .inr (2, [.int (nI np), .ref a1, .ref a2, .ref a3, .ref a4, .ref a5, .ref a6, .ref a7, .ref a8, .ref a9, .ref a10, .ref a11])), (a2, .inl (cI, 24, .inl SI)), (a3, .inl (cI, 24, .inl LK)), (a4, .inl (cI, 1536, .inl SS)), (a5, .inl (cI, 12, .inl (fun zy => nI (ST zy)))), (a10, .inl (cI, 12, .inl LE)), (a11, .inl (cI, 12, .inl GR))] sz) := by
  refine Met.ofW (cc := prog_2_method_14_code) (maxL := 4) (ret := none) (by decide) rfl ?_
  intro p e s m args below meth c s₁ B hml hv
  obtain ⟨rfl, hsz, hP, hK, hD0, hN⟩ := hv
  have hx := B.exec
  have hb := B.bytes
  have hr := B.returns
  have hts0 := atoms_spec (ws := mw ⟨"PromiseChains$Pairs", "handOver", "(III)V"⟩ prog_2_method_14_code 4 none) B.pre
  have hts : ∀ w ∈ tblG, w.before _ s = true := fun w h => hts0 w (List.mem_cons_of_mem _ h)
  have hown : s.vm.findClass "PromiseChains$Pairs" = some m.cls := findClass_of_methodNamed B.named
  have hlocks := B.notSynchronized
  subst hsz
  have hD := hD0.self (sz := s.heap.size)
  generalize hAe : va_A [(a0, .inr (2, [.int (nI np), .ref a1, .ref a2, .ref a3, .ref a4, .ref a5, .ref a6, .ref a7, .ref a8, .ref a9, .ref a10, .ref a11])), (a2, .inl (cI, 24, .inl SI)), (a3, .inl (cI, 24, .inl LK)), (a4, .inl (cI, 1536, .inl SS)), (a5, .inl (cI, 12, .inl (fun zy => nI (ST zy)))), (a10, .inl (cI, 12, .inl LE)), (a11, .inl (cI, 12, .inl GR))] s.heap.size = A at hD ⊢
  have hA : ∀ q : Nat, s.heap.size ≤ q → A q := fun q h => by rw [← hAe]; exact Or.inr h
  have hS : va_S A s.heap s.heap [] := va_S.rf
  have hP : va_P D vwCl [(a0, .inr (2, [.int (nI np), .ref a1, .ref a2, .ref a3, .ref a4, .ref a5, .ref a6, .ref a7, .ref a8, .ref a9, .ref a10, .ref a11])), (a2, .inl (cI, 24, .inl SI)), (a3, .inl (cI, 24, .inl LK)), (a4, .inl (cI, 1536, .inl SS)), (a5, .inl (cI, 12, .inl (fun zy => nI (ST zy)))), (a10, .inl (cI, 12, .inl LE)), (a11, .inl (cI, 12, .inl GR))] s.heap := hP
  have hl := lv_entry ([.ref a0, .int (nI j), .int (nI t), .int v]) (n := 4) (Nat.le_of_ble_eq_true rfl)
  rw [lg_entry_eq]
  generalize (lg_sl ([.ref a0, .int (nI j), .int (nI t), .int v]) ++ List.replicate (4 - (lg_sl ([.ref a0, .int (nI j), .int (nI t), .int v])).length) Slot.unset).toArray = ls at hl ⊢
  have hl : lv_has ls 4 [(0, .ref a0), (1, .int (nI j)), (2, .int (nI t)), (3, .int v)] := hl
  refine lv_aload_n hx hb d_PA_handOver_0 rfl (lv_at hl 0 rfl) ?_
  refine va_get (D := D) (ci := 2) (v := .ref a3) (C := R_PA) (T := F_PA) (N := 12) hx hb hts i_PA hown hK hP 0 rfl rfl 3 (by decide) (hts _ q_64) (fun _ h9 => h9) rfl d_PA_handOver_1 ?_
  refine lv_iconst (v := 2) hx hb d_PA_handOver_4 (by decide) ?_
  refine lv_iload_n hx hb d_PA_handOver_5 rfl (lv_at hl 1 rfl) ?_
  refine lv_imul hx hb d_PA_handOver_6 ?_
  refine lv_seti (nI (2 * j)) (pk_mul 2 j) ?_
  refine lv_iload_n hx hb d_PA_handOver_7 rfl (lv_at hl 2 rfl) ?_
  refine lv_iadd hx hb d_PA_handOver_8 ?_
  refine lv_seti (nI ((2 * j) + t)) (nI_add (2 * j) t) ?_
  refine lv_dup2_11 hx hb d_PA_handOver_9 rfl rfl ?_
  refine my_ldI hx hb hK hP 2 rfl ((2 * j) + t) rfl (by omega) (by decide) d_PA_handOver_10 ?_
  refine lv_iload_n hx hb d_PA_handOver_11 rfl (lv_at hl 3 rfl) ?_
  refine lv_isub hx hb d_PA_handOver_12 ?_
  refine my_stI hx hb hK hP hD hS 2 rfl ((2 * j) + t) rfl (by omega) (by decide) d_PA_handOver_13 (fun H_1 locs hP hD hS => ?_)
  have hP : va_P D vwCl [(a0, .inr (2, [.int (nI np), .ref a1, .ref a2, .ref a3, .ref a4, .ref a5, .ref a6, .ref a7, .ref a8, .ref a9, .ref a10, .ref a11])), (a2, .inl (cI, 24, .inl SI)), (a3, .inl (cI, 24, .inl (upd LK ((2 * j) + t) ((LK ((2 * j) + t)) - v)))), (a4, .inl (cI, 1536, .inl SS)), (a5, .inl (cI, 12, .inl (fun zy => nI (ST zy)))), (a10, .inl (cI, 12, .inl LE)), (a11, .inl (cI, 12, .inl GR))] H_1 := hP
  refine lv_aload_n hx hb d_PA_handOver_14 rfl (lv_at hl 0 rfl) ?_
  refine lv_iload_n hx hb d_PA_handOver_15 rfl (lv_at hl 1 rfl) ?_
  refine lv_iconst (v := 1) hx hb d_PA_handOver_16 (by decide) ?_
  refine lv_iload_n hx hb d_PA_handOver_17 rfl (lv_at hl 2 rfl) ?_
  refine lv_isub hx hb d_PA_handOver_18 ?_
  refine lv_seti (nI (1 - t)) (pk_sub (a := 1) (b := t) (by omega)) ?_
  refine lv_iload_n hx hb d_PA_handOver_19 rfl (lv_at hl 3 rfl) ?_
  have hPc := hP.sub (ws' := [(a0, .inr (2, [.int (nI np), .ref a1, .ref a2, .ref a3, .ref a4, .ref a5, .ref a6, .ref a7, .ref a8, .ref a9, .ref a10, .ref a11])), (a2, .inl (cI, 24, .inl SI)), (a10, .inl (cI, 12, .inl LE)), (a11, .inl (cI, 12, .inl GR))]) [0, 1, 5, 6] rfl
  have hDc := hD.sub (ws' := [(a0, .inr (2, [.int (nI np), .ref a1, .ref a2, .ref a3, .ref a4, .ref a5, .ref a6, .ref a7, .ref a8, .ref a9, .ref a10, .ref a11])), (a2, .inl (cI, 24, .inl SI)), (a10, .inl (cI, 12, .inl LE)), (a11, .inl (cI, 12, .inl GR))]) [0, 1, 5, 6] (by decide +kernel) rfl
  have hFc := va_free (wc := [(a0, .inr (2, [.int (nI np), .ref a1, .ref a2, .ref a3, .ref a4, .ref a5, .ref a6, .ref a7, .ref a8, .ref a9, .ref a10, .ref a11])), (a2, .inl (cI, 24, .inl SI)), (a10, .inl (cI, 12, .inl LE)), (a11, .inl (cI, 12, .inl GR))]) hD hS hA [0, 1, 5, 6] rfl
  refine va_callv (va_runV (As := [.int (nI j), .int (nI (1 - t)), .int v]) (rest := []) ⟨hx, hb, hml, hown, hts⟩ (e_PA_addToSide l D cI cZ a0 j (1 - t) v np a1 a2 a3 a4 a5 a6 a7 a8 a9 a10 a11 SI LE GR H_1.size h_np hj (by first | omega | (dsimp only; omega))) (my_cwV 3 hts q_360 q_357 q_358 q_359 q_3 rfl rfl (by decide +kernel) ⟨Nat.le_of_ble_eq_true rfl, Nat.le_of_ble_eq_true rfl⟩) (my_preV hPc hDc hK hN 2 0 rfl rfl) rfl rfl hl.1 rfl (lv_room (Nat.le_of_ble_eq_true rfl)) d_PA_handOver_20 ⟨Nat.le_of_ble_eq_true rfl, Nat.le_of_ble_eq_true rfl⟩) hS (fun q _ h => hFc q h) hFc (fun uU tT H_3 locs ht hvm hw_2 hB hz1 hk1 hS => ?_)
  obtain ⟨hP1, hD1⟩ := hB
  rw [ht] at hP1
  obtain ⟨hP, hD⟩ := va_join (wr := [(a3, .inl (cI, 24, .inl (upd LK ((2 * j) + t) ((LK ((2 * j) + t)) - v)))), (a4, .inl (cI, 1536, .inl SS)), (a5, .inl (cI, 12, .inl (fun zy => nI (ST zy))))]) (w1 := [(a0, .inr (2, [.int (nI np), .ref a1, .ref a2, .ref a3, .ref a4, .ref a5, .ref a6, .ref a7, .ref a8, .ref a9, .ref a10, .ref a11])), (a2, .inl (cI, 24, .inl (addS SI (2 * j + (1 - t)) v))), (a10, .inl (cI, 12, .inl (upd LE j 0))), (a11, .inl (cI, 12, .inl (upd GR j (gsum (addS SI (2 * j + (1 - t)) v) j))))]) hP hD [0, 1, 5, 6] [2, 3, 4] rfl rfl (by decide +kernel) (by decide +kernel) hk1 hFc hP1 hD1
  have hP : va_P D vwCl [(a3, .inl (cI, 24, .inl (upd LK ((2 * j) + t) ((LK ((2 * j) + t)) - v)))), (a4, .inl (cI, 1536, .inl SS)), (a5, .inl (cI, 12, .inl (fun zy => nI (ST zy)))), (a0, .inr (2, [.int (nI np), .ref a1, .ref a2, .ref a3, .ref a4, .ref a5, .ref a6, .ref a7, .ref a8, .ref a9, .ref a10, .ref a11])), (a2, .inl (cI, 24, .inl (addS SI (2 * j + (1 - t)) v))), (a10, .inl (cI, 12, .inl (upd LE j 0))), (a11, .inl (cI, 12, .inl (upd GR j (gsum (addS SI (2 * j + (1 - t)) v) j))))] H_3 := hP
  refine lv_aload_n hx hb d_PA_handOver_23 rfl (lv_at hl 0 rfl) ?_
  refine lv_iload_n hx hb d_PA_handOver_24 rfl (lv_at hl 1 rfl) ?_
  have hPc := hP.sub (ws' := [(a0, .inr (2, [.int (nI np), .ref a1, .ref a2, .ref a3, .ref a4, .ref a5, .ref a6, .ref a7, .ref a8, .ref a9, .ref a10, .ref a11])), (a2, .inl (cI, 24, .inl (addS SI (2 * j + (1 - t)) v))), (a3, .inl (cI, 24, .inl (upd LK ((2 * j) + t) ((LK ((2 * j) + t)) - v)))), (a4, .inl (cI, 1536, .inl SS)), (a5, .inl (cI, 12, .inl (fun zy => nI (ST zy))))]) [3, 4, 0, 1, 2] rfl
  have hDc := hD.sub (ws' := [(a0, .inr (2, [.int (nI np), .ref a1, .ref a2, .ref a3, .ref a4, .ref a5, .ref a6, .ref a7, .ref a8, .ref a9, .ref a10, .ref a11])), (a2, .inl (cI, 24, .inl (addS SI (2 * j + (1 - t)) v))), (a3, .inl (cI, 24, .inl (upd LK ((2 * j) + t) ((LK ((2 * j) + t)) - v)))), (a4, .inl (cI, 1536, .inl SS)), (a5, .inl (cI, 12, .inl (fun zy => nI (ST zy))))]) [3, 4, 0, 1, 2] (by decide +kernel) rfl
  have hFc := va_free (wc := [(a0, .inr (2, [.int (nI np), .ref a1, .ref a2, .ref a3, .ref a4, .ref a5, .ref a6, .ref a7, .ref a8, .ref a9, .ref a10, .ref a11])), (a2, .inl (cI, 24, .inl (addS SI (2 * j + (1 - t)) v))), (a3, .inl (cI, 24, .inl (upd LK ((2 * j) + t) ((LK ((2 * j) + t)) - v)))), (a4, .inl (cI, 1536, .inl SS)), (a5, .inl (cI, 12, .inl (fun zy => nI (ST zy))))]) hD hS hA [3, 4, 0, 1, 2] rfl
  refine va_callv (va_runV (As := [.int (nI j)]) (rest := []) ⟨hx, hb, hml, hown, hts⟩ (e_PA_addState l D cI cZ a0 j np a1 a2 a3 a4 a5 a6 a7 a8 a9 a10 a11 (addS SI (2 * j + (1 - t)) v) (upd LK ((2 * j) + t) ((LK ((2 * j) + t)) - v)) SS ST H_3.size h_np h_ST hj) (my_cwV 1 hts q_316 q_313 q_314 q_315 q_3 rfl rfl (by decide +kernel) ⟨Nat.le_of_ble_eq_true rfl, Nat.le_of_ble_eq_true rfl⟩) (my_preV hPc hDc hK hN 2 0 rfl rfl) rfl rfl hl.1 rfl (lv_room (Nat.le_of_ble_eq_true rfl)) d_PA_handOver_25 ⟨Nat.le_of_ble_eq_true rfl, Nat.le_of_ble_eq_true rfl⟩) hS (fun q _ h => hFc q h) hFc (fun uU tT H_5 locs ht hvm hw_4 hB hz1 hk1 hS => ?_)
  obtain ⟨SS_6, rfl⟩ : ∃ z, z = uU := ⟨_, rfl⟩
  obtain ⟨hP1, hD1⟩ := hB
  rw [ht] at hP1
  obtain ⟨hP, hD⟩ := va_join (wr := [(a10, .inl (cI, 12, .inl (upd LE j 0))), (a11, .inl (cI, 12, .inl (upd GR j (gsum (addS SI (2 * j + (1 - t)) v) j))))]) (w1 := [(a0, .inr (2, [.int (nI np), .ref a1, .ref a2, .ref a3, .ref a4, .ref a5, .ref a6, .ref a7, .ref a8, .ref a9, .ref a10, .ref a11])), (a2, .inl (cI, 24, .inl (addS SI (2 * j + (1 - t)) v))), (a3, .inl (cI, 24, .inl (upd LK ((2 * j) + t) ((LK ((2 * j) + t)) - v)))), (a4, .inl (cI, 1536, .inl SS_6)), (a5, .inl (cI, 12, .inl (fun zy => nI ((upN ST j (inc64 (ST j))) zy))))]) hP hD [3, 4, 0, 1, 2] [5, 6] rfl rfl (by decide +kernel) (by decide +kernel) hk1 hFc hP1 hD1
  have hP : va_P D vwCl [(a10, .inl (cI, 12, .inl (upd LE j 0))), (a11, .inl (cI, 12, .inl (upd GR j (gsum (addS SI (2 * j + (1 - t)) v) j)))), (a0, .inr (2, [.int (nI np), .ref a1, .ref a2, .ref a3, .ref a4, .ref a5, .ref a6, .ref a7, .ref a8, .ref a9, .ref a10, .ref a11])), (a2, .inl (cI, 24, .inl (addS SI (2 * j + (1 - t)) v))), (a3, .inl (cI, 24, .inl (upd LK ((2 * j) + t) ((LK ((2 * j) + t)) - v)))), (a4, .inl (cI, 1536, .inl SS_6)), (a5, .inl (cI, 12, .inl (fun zy => nI ((upN ST j (inc64 (ST j))) zy))))] H_5 := hP
  have hP9 := hP.sub (ws' := [(a0, .inr (2, [.int (nI np), .ref a1, .ref a2, .ref a3, .ref a4, .ref a5, .ref a6, .ref a7, .ref a8, .ref a9, .ref a10, .ref a11])), (a2, .inl (cI, 24, .inl (addS SI (2 * j + (1 - t)) v))), (a3, .inl (cI, 24, .inl (subS LK (2 * j + t) v))), (a4, .inl (cI, 1536, .inl SS_6)), (a5, .inl (cI, 12, .inl (fun zy => nI ((upN ST j (inc64 (ST j))) zy)))), (a10, .inl (cI, 12, .inl (upd LE j 0))), (a11, .inl (cI, 12, .inl (upd GR j (gsum (addS SI (2 * j + (1 - t)) v) j))))]) [2, 3, 4, 5, 6, 0, 1] rfl
  have hD9 := hD.sub (ws' := [(a0, .inr (2, [.int (nI np), .ref a1, .ref a2, .ref a3, .ref a4, .ref a5, .ref a6, .ref a7, .ref a8, .ref a9, .ref a10, .ref a11])), (a2, .inl (cI, 24, .inl (addS SI (2 * j + (1 - t)) v))), (a3, .inl (cI, 24, .inl (subS LK (2 * j + t) v))), (a4, .inl (cI, 1536, .inl SS_6)), (a5, .inl (cI, 12, .inl (fun zy => nI ((upN ST j (inc64 (ST j))) zy)))), (a10, .inl (cI, 12, .inl (upd LE j 0))), (a11, .inl (cI, 12, .inl (upd GR j (gsum (addS SI (2 * j + (1 - t)) v) j))))]) [2, 3, 4, 5, 6, 0, 1] (by decide +kernel) rfl
  refine W.widen (k := 0) (n := 0) (Nat.le_of_ble_eq_true rfl) (Nat.le_of_ble_eq_true rfl) ?_
  exact W.vret hx hb hr (fun tT ht hW => ⟨⟨SS_6, rfl, trivial, by rw [ht]; exact hP9, hD9⟩, hS.F ht⟩) hS.2.2 d_PA_handOver_28

set_option maxHeartbeats 4000000 in
set_option maxRecDepth 100000 in
theorem e_PA_move (l : Launch) (D : va_G) (cI cZ : ClassId) (a0 : Nat) (j : Nat) (t : Nat) (v : Int32) (np : Nat) (a1 : Nat) (a2 : Nat) (a3 : Nat) (a4 : Nat) (a5 : Nat) (a6 : Nat) (a7 : Nat) (a8 : Nat) (a9 : Nat) (a10 : Nat) (a11 : Nat) (SI : Nat → Int32) (LK : Nat → Int32) (SS : Nat → Int32) (ST : Nat → Nat) (LE : Nat → Int32) (GR : Nat → Int32) (sz : Nat) (h_np : np ≤ 12) (h_ST : ∀ zz, ST zz ≤ 64) (hj : j < 12) (htl : t ≤ 1) : Met l ⟨"PromiseChains$Pairs", "move", "(III)V"⟩ (mw ⟨"PromiseChains$Pairs", "move", "(III)V"⟩ prog_2_method_15_code 4 none) ({ frames := 2, cells := 0, slots := 0, locals := 46 }) (va_Pc [.ref a0, .int (nI j), .int (nI t), .int v] (PB D cI cZ sz [(a0, .inr (2, [.int (nI np), .ref a1, .ref a2, .ref a3, .ref a4, .ref a5, .ref a6, .ref a7, .ref a8, .ref a9, .ref a10, .ref a11])), (a2, .inl (cI, 24, .inl SI)), (a3, .inl (cI, 24, .inl LK)), (a4, .inl (cI, 1536, .inl SS)), (a5, .inl (cI, 12, .inl (fun zy => nI (ST zy)))), (a10, .inl (cI, 12, .inl LE)), (a11, .inl (cI, 12, .inl GR))])) (va_Qv (S := (Nat → Int32)) (fun uU => True) (fun uU tT => BB D (va_A [(a0, .inr (2, [.int (nI np), .ref a1, .ref a2, .ref a3, .ref a4, .ref a5, .ref a6, .ref a7, .ref a8, .ref a9, .ref a10, .ref a11])), (a2, .inl (cI, 24, .inl SI)), (a3, .inl (cI, 24, .inl LK)), (a4, .inl (cI, 1536, .inl SS)), (a5, .inl (cI, 12, .inl (fun zy => nI (ST zy)))), (a10, .inl (cI, 12, .inl LE)), (a11, .inl (cI, 12, .inl GR))] sz) [(a0, .inr (2, [.int (nI np), .ref a1, .ref a2, .ref a3, .ref a4, .ref a5, .ref a6, .ref a7, .ref a8, .ref a9, .ref a10, .ref a11])), (a2, .inl (cI, 24, .inl (addS (addS SI (2 * j + t) (-v)) (2 * j + (1 - t)) v))), (a3, .inl (cI, 24, .inl LK)), (a4, .inl (cI, 1536, .inl (uU))), (a5, .inl (cI, 12, .inl (fun zy => nI ((upN ST j (inc64 (ST j))) zy)))), (a10, .inl (cI, 12, .inl (upd LE j 0))), (a11, .inl (cI, 12, .inl (upd GR j (gsum (addS (addS SI (2 * j + t) (-v)) (2 * j + (1 - t)) v) j))))] tT) (va_A [(a0, .inr (2, [.int (nI np), .ref a1, .ref a2, .ref a3, .ref a4, .ref a5, .ref a6, .ref a7, .ref a8, .ref a9, .ref a10, .ref a11])), (a2, .inl (cI, 24, .inl SI)), (a3, .inl (cI, 24, .inl LK)), (a4, .inl (cI, 1536, .inl SS)), (a5, .inl (cI, 12, .inl (fun zy => nI (ST zy)))), (a10, .inl (cI, 12, .inl LE)), (a11, .inl (cI, 12, .inl GR))] sz)) 0 0 (va_A [(a0, .inr (2, [.int (nI np), .ref a1, .ref a2, .ref a3, .ref a4, .ref a5, .ref a6, .ref a7, .ref a8, .ref a9, .ref a10, .ref a11])), (a2, .inl (cI, 24, .inl SI)), (a3, .inl (cI, 24, .inl LK)), (a4, .inl (cI, 1536, .inl SS)), (a5, .inl (cI, 12, .inl (fun zy => nI (ST zy)))), (a10, .inl (cI, 12, .inl LE)), (a11, .inl (cI, 12, .inl GR))] sz) := by
  refine Met.ofW (cc := prog_2_method_15_code) (maxL := 4) (ret := none) (by decide) rfl ?_
  intro p e s m args below meth c s₁ B hml hv
  obtain ⟨rfl, hsz, hP, hK, hD0, hN⟩ := hv
  have hx := B.exec
  have hb := B.bytes
  have hr := B.returns
  have hts0 := atoms_spec (ws := mw ⟨"PromiseChains$Pairs", "move", "(III)V"⟩ prog_2_method_15_code 4 none) B.pre
  have hts : ∀ w ∈ tblG, w.before _ s = true := fun w h => hts0 w (List.mem_cons_of_mem _ h)
  have hown : s.vm.findClass "PromiseChains$Pairs" = some m.cls := findClass_of_methodNamed B.named
  have hlocks := B.notSynchronized
  subst hsz
  have hD := hD0.self (sz := s.heap.size)
  generalize hAe : va_A [(a0, .inr (2, [.int (nI np), .ref a1, .ref a2, .ref a3, .ref a4, .ref a5, .ref a6, .ref a7, .ref a8, .ref a9, .ref a10, .ref a11])), (a2, .inl (cI, 24, .inl SI)), (a3, .inl (cI, 24, .inl LK)), (a4, .inl (cI, 1536, .inl SS)), (a5, .inl (cI, 12, .inl (fun zy => nI (ST zy)))), (a10, .inl (cI, 12, .inl LE)), (a11, .inl (cI, 12, .inl GR))] s.heap.size = A at hD ⊢
  have hA : ∀ q : Nat, s.heap.size ≤ q → A q := fun q h => by rw [← hAe]; exact Or.inr h
  have hS : va_S A s.heap s.heap [] := va_S.rf
  have hP : va_P D vwCl [(a0, .inr (2, [.int (nI np), .ref a1, .ref a2, .ref a3, .ref a4, .ref a5, .ref a6, .ref a7, .ref a8, .ref a9, .ref a10, .ref a11])), (a2, .inl (cI, 24, .inl SI)), (a3, .inl (cI, 24, .inl LK)), (a4, .inl (cI, 1536, .inl SS)), (a5, .inl (cI, 12, .inl (fun zy => nI (ST zy)))), (a10, .inl (cI, 12, .inl LE)), (a11, .inl (cI, 12, .inl GR))] s.heap := hP
  have hl := lv_entry ([.ref a0, .int (nI j), .int (nI t), .int v]) (n := 4) (Nat.le_of_ble_eq_true rfl)
  rw [lg_entry_eq]
  generalize (lg_sl ([.ref a0, .int (nI j), .int (nI t), .int v]) ++ List.replicate (4 - (lg_sl ([.ref a0, .int (nI j), .int (nI t), .int v])).length) Slot.unset).toArray = ls at hl ⊢
  have hl : lv_has ls 4 [(0, .ref a0), (1, .int (nI j)), (2, .int (nI t)), (3, .int v)] := hl
  refine lv_aload_n hx hb d_PA_move_0 rfl (lv_at hl 0 rfl) ?_
  refine lv_iload_n hx hb d_PA_move_1 rfl (lv_at hl 1 rfl) ?_
  refine lv_iload_n hx hb d_PA_move_2 rfl (lv_at hl 2 rfl) ?_
  refine lv_iload_n hx hb d_PA_move_3 rfl (lv_at hl 3 rfl) ?_
  refine lv_ineg hx hb d_PA_move_4 ?_
  have hPc := hP.sub (ws' := [(a0, .inr (2, [.int (nI np), .ref a1, .ref a2, .ref a3, .ref a4, .ref a5, .ref a6, .ref a7, .ref a8, .ref a9, .ref a10, .ref a11])), (a2, .inl (cI, 24, .inl SI)), (a10, .inl (cI, 12, .inl LE)), (a11, .inl (cI, 12, .inl GR))]) [0, 1, 5, 6] rfl
  have hDc := hD.sub (ws' := [(a0, .inr (2, [.int (nI np), .ref a1, .ref a2, .ref a3, .ref a4, .ref a5, .ref a6, .ref a7, .ref a8, .ref a9, .ref a10, .ref a11])), (a2, .inl (cI, 24, .inl SI)), (a10, .inl (cI, 12, .inl LE)), (a11, .inl (cI, 12, .inl GR))]) [0, 1, 5, 6] (by decide +kernel) rfl
  have hFc := va_free (wc := [(a0, .inr (2, [.int (nI np), .ref a1, .ref a2, .ref a3, .ref a4, .ref a5, .ref a6, .ref a7, .ref a8, .ref a9, .ref a10, .ref a11])), (a2, .inl (cI, 24, .inl SI)), (a10, .inl (cI, 12, .inl LE)), (a11, .inl (cI, 12, .inl GR))]) hD hS hA [0, 1, 5, 6] rfl
  refine va_callv (va_runV (As := [.int (nI j), .int (nI t), .int (-v)]) (rest := []) ⟨hx, hb, hml, hown, hts⟩ (e_PA_addToSide l D cI cZ a0 j t (-v) np a1 a2 a3 a4 a5 a6 a7 a8 a9 a10 a11 SI LE GR s.heap.size h_np hj htl) (my_cwV 3 hts q_360 q_357 q_358 q_359 q_3 rfl rfl (by decide +kernel) ⟨Nat.le_of_ble_eq_true rfl, Nat.le_of_ble_eq_true rfl⟩) (my_preV hPc hDc hK hN 2 0 rfl rfl) rfl rfl hl.1 rfl (lv_room (Nat.le_of_ble_eq_true rfl)) d_PA_move_5 ⟨Nat.le_of_ble_eq_true rfl, Nat.le_of_ble_eq_true rfl⟩) hS (fun q _ h => hFc q h) hFc (fun uU tT H_2 locs ht hvm hw_1 hB hz1 hk1 hS => ?_)
  obtain ⟨hP1, hD1⟩ := hB
  rw [ht] at hP1
  obtain ⟨hP, hD⟩ := va_join (wr := [(a3, .inl (cI, 24, .inl LK)), (a4, .inl (cI, 1536, .inl SS)), (a5, .inl (cI, 12, .inl (fun zy => nI (ST zy))))]) (w1 := [(a0, .inr (2, [.int (nI np), .ref a1, .ref a2, .ref a3, .ref a4, .ref a5, .ref a6, .ref a7, .ref a8, .ref a9, .ref a10, .ref a11])), (a2, .inl (cI, 24, .inl (addS SI (2 * j + t) (-v)))), (a10, .inl (cI, 12, .inl (upd LE j 0))), (a11, .inl (cI, 12, .inl (upd GR j (gsum (addS SI (2 * j + t) (-v)) j))))]) hP hD [0, 1, 5, 6] [2, 3, 4] rfl rfl (by decide +kernel) (by decide +kernel) hk1 hFc hP1 hD1
  have hP : va_P D vwCl [(a3, .inl (cI, 24, .inl LK)), (a4, .inl (cI, 1536, .inl SS)), (a5, .inl (cI, 12, .inl (fun zy => nI (ST zy)))), (a0, .inr (2, [.int (nI np), .ref a1, .ref a2, .ref a3, .ref a4, .ref a5, .ref a6, .ref a7, .ref a8, .ref a9, .ref a10, .ref a11])), (a2, .inl (cI, 24, .inl (addS SI (2 * j + t) (-v)))), (a10, .inl (cI, 12, .inl (upd LE j 0))), (a11, .inl (cI, 12, .inl (upd GR j (gsum (addS SI (2 * j + t) (-v)) j))))] H_2 := hP
  refine lv_aload_n hx hb d_PA_move_8 rfl (lv_at hl 0 rfl) ?_
  refine lv_iload_n hx hb d_PA_move_9 rfl (lv_at hl 1 rfl) ?_
  refine lv_iconst (v := 1) hx hb d_PA_move_10 (by decide) ?_
  refine lv_iload_n hx hb d_PA_move_11 rfl (lv_at hl 2 rfl) ?_
  refine lv_isub hx hb d_PA_move_12 ?_
  refine lv_seti (nI (1 - t)) (pk_sub (a := 1) (b := t) (by omega)) ?_
  refine lv_iload_n hx hb d_PA_move_13 rfl (lv_at hl 3 rfl) ?_
  have hPc := hP.sub (ws' := [(a0, .inr (2, [.int (nI np), .ref a1, .ref a2, .ref a3, .ref a4, .ref a5, .ref a6, .ref a7, .ref a8, .ref a9, .ref a10, .ref a11])), (a2, .inl (cI, 24, .inl (addS SI (2 * j + t) (-v)))), (a10, .inl (cI, 12, .inl (upd LE j 0))), (a11, .inl (cI, 12, .inl (upd GR j (gsum (addS SI (2 * j + t) (-v)) j))))]) [3, 4, 5, 6] rfl
  have hDc := hD.sub (ws' := [(a0, .inr (2, [.int (nI np), .ref a1, .ref a2, .ref a3, .ref a4, .ref a5, .ref a6, .ref a7, .ref a8, .ref a9, .ref a10, .ref a11])), (a2, .inl (cI, 24, .inl (addS SI (2 * j + t) (-v)))), (a10, .inl (cI, 12, .inl (upd LE j 0))), (a11, .inl (cI, 12, .inl (upd GR j (gsum (addS SI (2 * j + t) (-v)) j))))]) [3, 4, 5, 6] (by decide +kernel) rfl
  have hFc := va_free (wc := [(a0, .inr (2, [.int (nI np), .ref a1, .ref a2, .ref a3, .ref a4, .ref a5, .ref a6, .ref a7, .ref a8, .ref a9, .ref a10, .ref a11])), (a2, .inl (cI, 24, .inl (addS SI (2 * j + t) (-v)))), (a10, .inl (cI, 12, .inl (upd LE j 0))), (a11, .inl (cI, 12, .inl (upd GR j (gsum (addS SI (2 * j + t) (-v)) j))))]) hD hS hA [3, 4, 5, 6] rfl
  refine va_callv (va_runV (As := [.int (nI j), .int (nI (1 - t)), .int v]) (rest := []) ⟨hx, hb, hml, hown, hts⟩ (e_PA_addToSide l D cI cZ a0 j (1 - t) v np a1 a2 a3 a4 a5 a6 a7 a8 a9 a10 a11 (addS SI (2 * j + t) (-v)) (upd LE j 0) (upd GR j (gsum (addS SI (2 * j + t) (-v)) j)) H_2.size h_np hj (by first | omega | (dsimp only; omega))) (my_cwV 3 hts q_360 q_357 q_358 q_359 q_3 rfl rfl (by decide +kernel) ⟨Nat.le_of_ble_eq_true rfl, Nat.le_of_ble_eq_true rfl⟩) (my_preV hPc hDc hK hN 2 0 rfl rfl) rfl rfl hl.1 rfl (lv_room (Nat.le_of_ble_eq_true rfl)) d_PA_move_14 ⟨Nat.le_of_ble_eq_true rfl, Nat.le_of_ble_eq_true rfl⟩) hS (fun q _ h => hFc q h) hFc (fun uU tT H_4 locs ht hvm hw_3 hB hz1 hk1 hS => ?_)
  obtain ⟨hP1, hD1⟩ := hB
  rw [ht] at hP1
  obtain ⟨hP, hD⟩ := va_join (wr := [(a3, .inl (cI, 24, .inl LK)), (a4, .inl (cI, 1536, .inl SS)), (a5, .inl (cI, 12, .inl (fun zy => nI (ST zy))))]) (w1 := [(a0, .inr (2, [.int (nI np), .ref a1, .ref a2, .ref a3, .ref a4, .ref a5, .ref a6, .ref a7, .ref a8, .ref a9, .ref a10, .ref a11])), (a2, .inl (cI, 24, .inl (addS (addS SI (2 * j + t) (-v)) (2 * j + (1 - t)) v))), (a10, .inl (cI, 12, .inl (upd (upd LE j 0) j 0))), (a11, .inl (cI, 12, .inl (upd (upd GR j (gsum (addS SI (2 * j + t) (-v)) j)) j (gsum (addS (addS SI (2 * j + t) (-v)) (2 * j + (1 - t)) v) j))))]) hP hD [3, 4, 5, 6] [0, 1, 2] rfl rfl (by decide +kernel) (by decide +kernel) hk1 hFc hP1 hD1
  have hP : va_P D vwCl [(a3, .inl (cI, 24, .inl LK)), (a4, .inl (cI, 1536, .inl SS)), (a5, .inl (cI, 12, .inl (fun zy => nI (ST zy)))), (a0, .inr (2, [.int (nI np), .ref a1, .ref a2, .ref a3, .ref a4, .ref a5, .ref a6, .ref a7, .ref a8, .ref a9, .ref a10, .ref a11])), (a2, .inl (cI, 24, .inl (addS (addS SI (2 * j + t) (-v)) (2 * j + (1 - t)) v))), (a10, .inl (cI, 12, .inl (upd (upd LE j 0) j 0))), (a11, .inl (cI, 12, .inl (upd (upd GR j (gsum (addS SI (2 * j + t) (-v)) j)) j (gsum (addS (addS SI (2 * j + t) (-v)) (2 * j + (1 - t)) v) j))))] H_4 := hP
  refine lv_aload_n hx hb d_PA_move_17 rfl (lv_at hl 0 rfl) ?_
  refine lv_iload_n hx hb d_PA_move_18 rfl (lv_at hl 1 rfl) ?_
  have hPc := hP.sub (ws' := [(a0, .inr (2, [.int (nI np), .ref a1, .ref a2, .ref a3, .ref a4, .ref a5, .ref a6, .ref a7, .ref a8, .ref a9, .ref a10, .ref a11])), (a2, .inl (cI, 24, .inl (addS (addS SI (2 * j + t) (-v)) (2 * j + (1 - t)) v))), (a3, .inl (cI, 24, .inl LK)), (a4, .inl (cI, 1536, .inl SS)), (a5, .inl (cI, 12, .inl (fun zy => nI (ST zy))))]) [3, 4, 0, 1, 2] rfl
  have hDc := hD.sub (ws' := [(a0, .inr (2, [.int (nI np), .ref a1, .ref a2, .ref a3, .ref a4, .ref a5, .ref a6, .ref a7, .ref a8, .ref a9, .ref a10, .ref a11])), (a2, .inl (cI, 24, .inl (addS (addS SI (2 * j + t) (-v)) (2 * j + (1 - t)) v))), (a3, .inl (cI, 24, .inl LK)), (a4, .inl (cI, 1536, .inl SS)), (a5, .inl (cI, 12, .inl (fun zy => nI (ST zy))))]) [3, 4, 0, 1, 2] (by decide +kernel) rfl
  have hFc := va_free (wc := [(a0, .inr (2, [.int (nI np), .ref a1, .ref a2, .ref a3, .ref a4, .ref a5, .ref a6, .ref a7, .ref a8, .ref a9, .ref a10, .ref a11])), (a2, .inl (cI, 24, .inl (addS (addS SI (2 * j + t) (-v)) (2 * j + (1 - t)) v))), (a3, .inl (cI, 24, .inl LK)), (a4, .inl (cI, 1536, .inl SS)), (a5, .inl (cI, 12, .inl (fun zy => nI (ST zy))))]) hD hS hA [3, 4, 0, 1, 2] rfl
  refine va_callv (va_runV (As := [.int (nI j)]) (rest := []) ⟨hx, hb, hml, hown, hts⟩ (e_PA_addState l D cI cZ a0 j np a1 a2 a3 a4 a5 a6 a7 a8 a9 a10 a11 (addS (addS SI (2 * j + t) (-v)) (2 * j + (1 - t)) v) LK SS ST H_4.size h_np h_ST hj) (my_cwV 1 hts q_316 q_313 q_314 q_315 q_3 rfl rfl (by decide +kernel) ⟨Nat.le_of_ble_eq_true rfl, Nat.le_of_ble_eq_true rfl⟩) (my_preV hPc hDc hK hN 2 0 rfl rfl) rfl rfl hl.1 rfl (lv_room (Nat.le_of_ble_eq_true rfl)) d_PA_move_19 ⟨Nat.le_of_ble_eq_true rfl, Nat.le_of_ble_eq_true rfl⟩) hS (fun q _ h => hFc q h) hFc (fun uU tT H_6 locs ht hvm hw_5 hB hz1 hk1 hS => ?_)
  obtain ⟨SS_7, rfl⟩ : ∃ z, z = uU := ⟨_, rfl⟩
  obtain ⟨hP1, hD1⟩ := hB
  rw [ht] at hP1
  obtain ⟨hP, hD⟩ := va_join (wr := [(a10, .inl (cI, 12, .inl (upd (upd LE j 0) j 0))), (a11, .inl (cI, 12, .inl (upd (upd GR j (gsum (addS SI (2 * j + t) (-v)) j)) j (gsum (addS (addS SI (2 * j + t) (-v)) (2 * j + (1 - t)) v) j))))]) (w1 := [(a0, .inr (2, [.int (nI np), .ref a1, .ref a2, .ref a3, .ref a4, .ref a5, .ref a6, .ref a7, .ref a8, .ref a9, .ref a10, .ref a11])), (a2, .inl (cI, 24, .inl (addS (addS SI (2 * j + t) (-v)) (2 * j + (1 - t)) v))), (a3, .inl (cI, 24, .inl LK)), (a4, .inl (cI, 1536, .inl SS_7)), (a5, .inl (cI, 12, .inl (fun zy => nI ((upN ST j (inc64 (ST j))) zy))))]) hP hD [3, 4, 0, 1, 2] [5, 6] rfl rfl (by decide +kernel) (by decide +kernel) hk1 hFc hP1 hD1
  have hP : va_P D vwCl [(a10, .inl (cI, 12, .inl (upd (upd LE j 0) j 0))), (a11, .inl (cI, 12, .inl (upd (upd GR j (gsum (addS SI (2 * j + t) (-v)) j)) j (gsum (addS (addS SI (2 * j + t) (-v)) (2 * j + (1 - t)) v) j)))), (a0, .inr (2, [.int (nI np), .ref a1, .ref a2, .ref a3, .ref a4, .ref a5, .ref a6, .ref a7, .ref a8, .ref a9, .ref a10, .ref a11])), (a2, .inl (cI, 24, .inl (addS (addS SI (2 * j + t) (-v)) (2 * j + (1 - t)) v))), (a3, .inl (cI, 24, .inl LK)), (a4, .inl (cI, 1536, .inl SS_7)), (a5, .inl (cI, 12, .inl (fun zy => nI ((upN ST j (inc64 (ST j))) zy))))] H_6 := hP
  have hr_8 : (upd (upd LE j 0) j 0) = upd LE j 0 := upd_upd _ _ _ _
  have hP : va_P D vwCl [(a10, .inl (cI, 12, .inl (upd LE j 0))), (a11, .inl (cI, 12, .inl (upd (upd GR j (gsum (addS SI (2 * j + t) (-v)) j)) j (gsum (addS (addS SI (2 * j + t) (-v)) (2 * j + (1 - t)) v) j)))), (a0, .inr (2, [.int (nI np), .ref a1, .ref a2, .ref a3, .ref a4, .ref a5, .ref a6, .ref a7, .ref a8, .ref a9, .ref a10, .ref a11])), (a2, .inl (cI, 24, .inl (addS (addS SI (2 * j + t) (-v)) (2 * j + (1 - t)) v))), (a3, .inl (cI, 24, .inl LK)), (a4, .inl (cI, 1536, .inl SS_7)), (a5, .inl (cI, 12, .inl (fun zy => nI ((upN ST j (inc64 (ST j))) zy))))] H_6 := by rw [← hr_8]; exact hP
  have hD : va_D A [(a10, .inl (cI, 12, .inl (upd LE j 0))), (a11, .inl (cI, 12, .inl (upd (upd GR j (gsum (addS SI (2 * j + t) (-v)) j)) j (gsum (addS (addS SI (2 * j + t) (-v)) (2 * j + (1 - t)) v) j)))), (a0, .inr (2, [.int (nI np), .ref a1, .ref a2, .ref a3, .ref a4, .ref a5, .ref a6, .ref a7, .ref a8, .ref a9, .ref a10, .ref a11])), (a2, .inl (cI, 24, .inl (addS (addS SI (2 * j + t) (-v)) (2 * j + (1 - t)) v))), (a3, .inl (cI, 24, .inl LK)), (a4, .inl (cI, 1536, .inl SS_7)), (a5, .inl (cI, 12, .inl (fun zy => nI ((upN ST j (inc64 (ST j))) zy))))] := by rw [← hr_8]; exact hD
  have hr_9 : (upd (upd GR j (gsum (addS SI (2 * j + t) (-v)) j)) j (gsum (addS (addS SI (2 * j + t) (-v)) (2 * j + (1 - t)) v) j)) = upd GR j (gsum (addS (addS SI (2 * j + t) (-v)) (2 * j + (1 - t)) v) j) := upd_upd _ _ _ _
  have hP : va_P D vwCl [(a10, .inl (cI, 12, .inl (upd LE j 0))), (a11, .inl (cI, 12, .inl (upd GR j (gsum (addS (addS SI (2 * j + t) (-v)) (2 * j + (1 - t)) v) j)))), (a0, .inr (2, [.int (nI np), .ref a1, .ref a2, .ref a3, .ref a4, .ref a5, .ref a6, .ref a7, .ref a8, .ref a9, .ref a10, .ref a11])), (a2, .inl (cI, 24, .inl (addS (addS SI (2 * j + t) (-v)) (2 * j + (1 - t)) v))), (a3, .inl (cI, 24, .inl LK)), (a4, .inl (cI, 1536, .inl SS_7)), (a5, .inl (cI, 12, .inl (fun zy => nI ((upN ST j (inc64 (ST j))) zy))))] H_6 := by rw [← hr_9]; exact hP
  have hD : va_D A [(a10, .inl (cI, 12, .inl (upd LE j 0))), (a11, .inl (cI, 12, .inl (upd GR j (gsum (addS (addS SI (2 * j + t) (-v)) (2 * j + (1 - t)) v) j)))), (a0, .inr (2, [.int (nI np), .ref a1, .ref a2, .ref a3, .ref a4, .ref a5, .ref a6, .ref a7, .ref a8, .ref a9, .ref a10, .ref a11])), (a2, .inl (cI, 24, .inl (addS (addS SI (2 * j + t) (-v)) (2 * j + (1 - t)) v))), (a3, .inl (cI, 24, .inl LK)), (a4, .inl (cI, 1536, .inl SS_7)), (a5, .inl (cI, 12, .inl (fun zy => nI ((upN ST j (inc64 (ST j))) zy))))] := by rw [← hr_9]; exact hD
  have hP : va_P D vwCl [(a10, .inl (cI, 12, .inl (upd LE j 0))), (a11, .inl (cI, 12, .inl (upd GR j (gsum (addS (addS SI (2 * j + t) (-v)) (2 * j + (1 - t)) v) j)))), (a0, .inr (2, [.int (nI np), .ref a1, .ref a2, .ref a3, .ref a4, .ref a5, .ref a6, .ref a7, .ref a8, .ref a9, .ref a10, .ref a11])), (a2, .inl (cI, 24, .inl (addS (addS SI (2 * j + t) (-v)) (2 * j + (1 - t)) v))), (a3, .inl (cI, 24, .inl LK)), (a4, .inl (cI, 1536, .inl SS_7)), (a5, .inl (cI, 12, .inl (fun zy => nI ((upN ST j (inc64 (ST j))) zy))))] H_6 := hP
  have hP9 := hP.sub (ws' := [(a0, .inr (2, [.int (nI np), .ref a1, .ref a2, .ref a3, .ref a4, .ref a5, .ref a6, .ref a7, .ref a8, .ref a9, .ref a10, .ref a11])), (a2, .inl (cI, 24, .inl (addS (addS SI (2 * j + t) (-v)) (2 * j + (1 - t)) v))), (a3, .inl (cI, 24, .inl LK)), (a4, .inl (cI, 1536, .inl SS_7)), (a5, .inl (cI, 12, .inl (fun zy => nI ((upN ST j (inc64 (ST j))) zy)))), (a10, .inl (cI, 12, .inl (upd LE j 0))), (a11, .inl (cI, 12, .inl (upd GR j (gsum (addS (addS SI (2 * j + t) (-v)) (2 * j + (1 - t)) v) j))))]) [2, 3, 4, 5, 6, 0, 1] rfl
  have hD9 := hD.sub (ws' := [(a0, .inr (2, [.int (nI np), .ref a1, .ref a2, .ref a3, .ref a4, .ref a5, .ref a6, .ref a7, .ref a8, .ref a9, .ref a10, .ref a11])), (a2, .inl (cI, 24, .inl (addS (addS SI (2 * j + t) (-v)) (2 * j + (1 - t)) v))), (a3, .inl (cI, 24, .inl LK)), (a4, .inl (cI, 1536, .inl SS_7)), (a5, .inl (cI, 12, .inl (fun zy => nI ((upN ST j (inc64 (ST j))) zy)))), (a10, .inl (cI, 12, .inl (upd LE j 0))), (a11, .inl (cI, 12, .inl (upd GR j (gsum (addS (addS SI (2 * j + t) (-v)) (2 * j + (1 - t)) v) j))))]) [2, 3, 4, 5, 6, 0, 1] (by decide +kernel) rfl
  refine W.widen (k := 0) (n := 0) (Nat.le_of_ble_eq_true rfl) (Nat.le_of_ble_eq_true rfl) ?_
  exact W.vret hx hb hr (fun tT ht hW => ⟨⟨SS_7, rfl, trivial, by rw [ht]; exact hP9, hD9⟩, hS.F ht⟩) hS.2.2 d_PA_move_22

set_option maxHeartbeats 4000000 in
set_option maxRecDepth 100000 in
theorem e_PA_finish (l : Launch) (D : va_G) (cI cZ : ClassId) (a0 : Nat) (j : Nat) (np : Nat) (a1 : Nat) (a2 : Nat) (a3 : Nat) (a4 : Nat) (a5 : Nat) (a6 : Nat) (a7 : Nat) (a8 : Nat) (a9 : Nat) (a10 : Nat) (a11 : Nat) (SI : Nat → Int32) (PH : Nat → Int32) (LE : Nat → Int32) (GR : Nat → Int32) (sz : Nat) (h_np : np ≤ 12) (hj : j < 12) : Met l ⟨"PromiseChains$Pairs", "finish", "(I)V"⟩ (mw ⟨"PromiseChains$Pairs", "finish", "(I)V"⟩ prog_2_method_19_code 2 none) ({ frames := 1, cells := 0, slots := 0, locals := 23 }) (va_Pc [.ref a0, .int (nI j)] (PB D cI cZ sz [(a0, .inr (2, [.int (nI np), .ref a1, .ref a2, .ref a3, .ref a4, .ref a5, .ref a6, .ref a7, .ref a8, .ref a9, .ref a10, .ref a11])), (a2, .inl (cI, 24, .inl SI)), (a6, .inl (cI, 12, .inl PH)), (a10, .inl (cI, 12, .inl LE)), (a11, .inl (cI, 12, .inl GR))])) (va_Qv (S := Unit) (fun uU => True) (fun uU tT => BB D (va_A [(a0, .inr (2, [.int (nI np), .ref a1, .ref a2, .ref a3, .ref a4, .ref a5, .ref a6, .ref a7, .ref a8, .ref a9, .ref a10, .ref a11])), (a2, .inl (cI, 24, .inl SI)), (a6, .inl (cI, 12, .inl PH)), (a10, .inl (cI, 12, .inl LE)), (a11, .inl (cI, 12, .inl GR))] sz) [(a0, .inr (2, [.int (nI np), .ref a1, .ref a2, .ref a3, .ref a4, .ref a5, .ref a6, .ref a7, .ref a8, .ref a9, .ref a10, .ref a11])), (a2, .inl (cI, 24, .inl (upd (upd SI (2 * j) 0) (2 * j + 1) 0))), (a6, .inl (cI, 12, .inl (upd PH j 2))), (a10, .inl (cI, 12, .inl (upd LE j 0))), (a11, .inl (cI, 12, .inl (upd GR j (0 + 0))))] tT) (va_A [(a0, .inr (2, [.int (nI np), .ref a1, .ref a2, .ref a3, .ref a4, .ref a5, .ref a6, .ref a7, .ref a8, .ref a9, .ref a10, .ref a11])), (a2, .inl (cI, 24, .inl SI)), (a6, .inl (cI, 12, .inl PH)), (a10, .inl (cI, 12, .inl LE)), (a11, .inl (cI, 12, .inl GR))] sz)) 0 0 (va_A [(a0, .inr (2, [.int (nI np), .ref a1, .ref a2, .ref a3, .ref a4, .ref a5, .ref a6, .ref a7, .ref a8, .ref a9, .ref a10, .ref a11])), (a2, .inl (cI, 24, .inl SI)), (a6, .inl (cI, 12, .inl PH)), (a10, .inl (cI, 12, .inl LE)), (a11, .inl (cI, 12, .inl GR))] sz) := by
  refine Met.ofW (cc := prog_2_method_19_code) (maxL := 2) (ret := none) (by decide) rfl ?_
  intro p e s m args below meth c s₁ B hml hv
  obtain ⟨rfl, hsz, hP, hK, hD0, hN⟩ := hv
  have hx := B.exec
  have hb := B.bytes
  have hr := B.returns
  have hts0 := atoms_spec (ws := mw ⟨"PromiseChains$Pairs", "finish", "(I)V"⟩ prog_2_method_19_code 2 none) B.pre
  have hts : ∀ w ∈ tblG, w.before _ s = true := fun w h => hts0 w (List.mem_cons_of_mem _ h)
  have hown : s.vm.findClass "PromiseChains$Pairs" = some m.cls := findClass_of_methodNamed B.named
  have hlocks := B.notSynchronized
  subst hsz
  have hD := hD0.self (sz := s.heap.size)
  generalize hAe : va_A [(a0, .inr (2, [.int (nI np), .ref a1, .ref a2, .ref a3, .ref a4, .ref a5, .ref a6, .ref a7, .ref a8, .ref a9, .ref a10, .ref a11])), (a2, .inl (cI, 24, .inl SI)), (a6, .inl (cI, 12, .inl PH)), (a10, .inl (cI, 12, .inl LE)), (a11, .inl (cI, 12, .inl GR))] s.heap.size = A at hD ⊢
  have hA : ∀ q : Nat, s.heap.size ≤ q → A q := fun q h => by rw [← hAe]; exact Or.inr h
  have hS : va_S A s.heap s.heap [] := va_S.rf
  have hP : va_P D vwCl [(a0, .inr (2, [.int (nI np), .ref a1, .ref a2, .ref a3, .ref a4, .ref a5, .ref a6, .ref a7, .ref a8, .ref a9, .ref a10, .ref a11])), (a2, .inl (cI, 24, .inl SI)), (a6, .inl (cI, 12, .inl PH)), (a10, .inl (cI, 12, .inl LE)), (a11, .inl (cI, 12, .inl GR))] s.heap := hP
  have hl := lv_entry ([.ref a0, .int (nI j)]) (n := 2) (Nat.le_of_ble_eq_true rfl)
  rw [lg_entry_eq]
  generalize (lg_sl ([.ref a0, .int (nI j)]) ++ List.replicate (2 - (lg_sl ([.ref a0, .int (nI j)])).length) Slot.unset).toArray = ls at hl ⊢
  have hl : lv_has ls 2 [(0, .ref a0), (1, .int (nI j))] := hl
  refine lv_aload_n hx hb d_PA_finish_0 rfl (lv_at hl 0 rfl) ?_
  refine va_get (D := D) (ci := 2) (v := .ref a6) (C := R_PA) (T := F_PA) (N := 12) hx hb hts i_PA hown hK hP 0 rfl rfl 6 (by decide) (hts _ q_69) (fun _ h9 => h9) rfl d_PA_finish_1 ?_
  refine lv_iload_n hx hb d_PA_finish_4 rfl (lv_at hl 1 rfl) ?_
  refine lv_iconst (v := 2) hx hb d_PA_finish_5 (by decide) ?_
  refine my_stI hx hb hK hP hD hS 2 rfl j rfl (by omega) (by decide) d_PA_finish_6 (fun H_1 locs hP hD hS => ?_)
  have hP : va_P D vwCl [(a0, .inr (2, [.int (nI np), .ref a1, .ref a2, .ref a3, .ref a4, .ref a5, .ref a6, .ref a7, .ref a8, .ref a9, .ref a10, .ref a11])), (a2, .inl (cI, 24, .inl SI)), (a6, .inl (cI, 12, .inl (upd PH j 2))), (a10, .inl (cI, 12, .inl LE)), (a11, .inl (cI, 12, .inl GR))] H_1 := hP
  refine lv_aload_n hx hb d_PA_finish_7 rfl (lv_at hl 0 rfl) ?_
  refine lv_iload_n hx hb d_PA_finish_8 rfl (lv_at hl 1 rfl) ?_
  refine lv_iconst (v := 0) hx hb d_PA_finish_9 (by decide) ?_
  refine lv_iconst (v := 0) hx hb d_PA_finish_10 (by decide) ?_
  have hPc := hP.sub (ws' := [(a0, .inr (2, [.int (nI np), .ref a1, .ref a2, .ref a3, .ref a4, .ref a5, .ref a6, .ref a7, .ref a8, .ref a9, .ref a10, .ref a11])), (a2, .inl (cI, 24, .inl SI)), (a10, .inl (cI, 12, .inl LE)), (a11, .inl (cI, 12, .inl GR))]) [0, 1, 3, 4] rfl
  have hDc := hD.sub (ws' := [(a0, .inr (2, [.int (nI np), .ref a1, .ref a2, .ref a3, .ref a4, .ref a5, .ref a6, .ref a7, .ref a8, .ref a9, .ref a10, .ref a11])), (a2, .inl (cI, 24, .inl SI)), (a10, .inl (cI, 12, .inl LE)), (a11, .inl (cI, 12, .inl GR))]) [0, 1, 3, 4] (by decide +kernel) rfl
  have hFc := va_free (wc := [(a0, .inr (2, [.int (nI np), .ref a1, .ref a2, .ref a3, .ref a4, .ref a5, .ref a6, .ref a7, .ref a8, .ref a9, .ref a10, .ref a11])), (a2, .inl (cI, 24, .inl SI)), (a10, .inl (cI, 12, .inl LE)), (a11, .inl (cI, 12, .inl GR))]) hD hS hA [0, 1, 3, 4] rfl
  refine va_callv (va_runV (As := [.int (nI j), .int 0, .int 0]) (rest := []) ⟨hx, hb, hml, hown, hts⟩ (e_PA_setSides l D cI cZ a0 j 0 0 np a1 a2 a3 a4 a5 a6 a7 a8 a9 a10 a11 SI LE GR H_1.size h_np hj) (my_cwV 3 hts q_312 q_309 q_310 q_311 q_3 rfl rfl (by decide +kernel) ⟨Nat.le_of_ble_eq_true rfl, Nat.le_of_ble_eq_true rfl⟩) (my_preV hPc hDc hK hN 2 0 rfl rfl) rfl rfl hl.1 rfl (lv_room (Nat.le_of_ble_eq_true rfl)) d_PA_finish_11 ⟨Nat.le_of_ble_eq_true rfl, Nat.le_of_ble_eq_true rfl⟩) hS (fun q _ h => hFc q h) hFc (fun uU tT H_3 locs ht hvm hw_2 hB hz1 hk1 hS => ?_)
  obtain ⟨hP1, hD1⟩ := hB
  rw [ht] at hP1
  obtain ⟨hP, hD⟩ := va_join (wr := [(a6, .inl (cI, 12, .inl (upd PH j 2)))]) (w1 := [(a0, .inr (2, [.int (nI np), .ref a1, .ref a2, .ref a3, .ref a4, .ref a5, .ref a6, .ref a7, .ref a8, .ref a9, .ref a10, .ref a11])), (a2, .inl (cI, 24, .inl (upd (upd SI (2 * j) 0) (2 * j + 1) 0))), (a10, .inl (cI, 12, .inl (upd LE j 0))), (a11, .inl (cI, 12, .inl (upd GR j (0 + 0))))]) hP hD [0, 1, 3, 4] [2] rfl rfl (by decide +kernel) (by decide +kernel) hk1 hFc hP1 hD1
  have hP : va_P D vwCl [(a6, .inl (cI, 12, .inl (upd PH j 2))), (a0, .inr (2, [.int (nI np), .ref a1, .ref a2, .ref a3, .ref a4, .ref a5, .ref a6, .ref a7, .ref a8, .ref a9, .ref a10, .ref a11])), (a2, .inl (cI, 24, .inl (upd (upd SI (2 * j) 0) (2 * j + 1) 0))), (a10, .inl (cI, 12, .inl (upd LE j 0))), (a11, .inl (cI, 12, .inl (upd GR j (0 + 0))))] H_3 := hP
  have hP9 := hP.sub (ws' := [(a0, .inr (2, [.int (nI np), .ref a1, .ref a2, .ref a3, .ref a4, .ref a5, .ref a6, .ref a7, .ref a8, .ref a9, .ref a10, .ref a11])), (a2, .inl (cI, 24, .inl (upd (upd SI (2 * j) 0) (2 * j + 1) 0))), (a6, .inl (cI, 12, .inl (upd PH j 2))), (a10, .inl (cI, 12, .inl (upd LE j 0))), (a11, .inl (cI, 12, .inl (upd GR j (0 + 0))))]) [1, 2, 0, 3, 4] rfl
  have hD9 := hD.sub (ws' := [(a0, .inr (2, [.int (nI np), .ref a1, .ref a2, .ref a3, .ref a4, .ref a5, .ref a6, .ref a7, .ref a8, .ref a9, .ref a10, .ref a11])), (a2, .inl (cI, 24, .inl (upd (upd SI (2 * j) 0) (2 * j + 1) 0))), (a6, .inl (cI, 12, .inl (upd PH j 2))), (a10, .inl (cI, 12, .inl (upd LE j 0))), (a11, .inl (cI, 12, .inl (upd GR j (0 + 0))))]) [1, 2, 0, 3, 4] (by decide +kernel) rfl
  refine W.widen (k := 0) (n := 0) (Nat.le_of_ble_eq_true rfl) (Nat.le_of_ble_eq_true rfl) ?_
  exact W.vret hx hb hr (fun tT ht hW => ⟨⟨(), rfl, trivial, by rw [ht]; exact hP9, hD9⟩, hS.F ht⟩) hS.2.2 d_PA_finish_14

set_option maxHeartbeats 4000000 in
set_option maxRecDepth 100000 in
theorem e_PA_beginClosing (l : Launch) (D : va_G) (cI cZ : ClassId) (a0 : Nat) (j : Nat) (t : Nat) (i : Nat) (v : Int32) (np : Nat) (a1 : Nat) (a2 : Nat) (a3 : Nat) (a4 : Nat) (a5 : Nat) (a6 : Nat) (a7 : Nat) (a8 : Nat) (a9 : Nat) (a10 : Nat) (a11 : Nat) (PH : Nat → Int32) (EN : Nat → Int32) (CL : Nat → Nat) (CB : Nat → Nat) (sz : Nat) (h_np : np ≤ 12) (h_CL : ∀ zz, CL zz ≤ 1) (h_CB : ∀ zz, CB zz ≤ 63) (hj : j < 12) (htl : t ≤ 1) (hi : i ≤ 63) : Met l ⟨"PromiseChains$Pairs", "beginClosing", "(IIII)V"⟩ (mw ⟨"PromiseChains$Pairs", "beginClosing", "(IIII)V"⟩ prog_2_method_16_code 5 none) ({ frames := 0, cells := 0, slots := 0, locals := 0 }) (va_Pc [.ref a0, .int (nI j), .int (nI t), .int (nI i), .int v] (PB D cI cZ sz [(a0, .inr (2, [.int (nI np), .ref a1, .ref a2, .ref a3, .ref a4, .ref a5, .ref a6, .ref a7, .ref a8, .ref a9, .ref a10, .ref a11])), (a6, .inl (cI, 12, .inl PH)), (a7, .inl (cI, 12, .inl EN)), (a8, .inl (cI, 12, .inl (fun zy => nI (CL zy)))), (a9, .inl (cI, 12, .inl (fun zy => nI (CB zy))))])) (va_Qv (S := Unit) (fun uU => True) (fun uU tT => BB D (va_A [(a0, .inr (2, [.int (nI np), .ref a1, .ref a2, .ref a3, .ref a4, .ref a5, .ref a6, .ref a7, .ref a8, .ref a9, .ref a10, .ref a11])), (a6, .inl (cI, 12, .inl PH)), (a7, .inl (cI, 12, .inl EN)), (a8, .inl (cI, 12, .inl (fun zy => nI (CL zy)))), (a9, .inl (cI, 12, .inl (fun zy => nI (CB zy))))] sz) [(a0, .inr (2, [.int (nI np), .ref a1, .ref a2, .ref a3, .ref a4, .ref a5, .ref a6, .ref a7, .ref a8, .ref a9, .ref a10, .ref a11])), (a6, .inl (cI, 12, .inl (upd PH j 1))), (a7, .inl (cI, 12, .inl (upd EN j v))), (a8, .inl (cI, 12, .inl (fun zy => nI ((upN CL j t) zy)))), (a9, .inl (cI, 12, .inl (fun zy => nI ((upN CB j i) zy))))] tT) (va_A [(a0, .inr (2, [.int (nI np), .ref a1, .ref a2, .ref a3, .ref a4, .ref a5, .ref a6, .ref a7, .ref a8, .ref a9, .ref a10, .ref a11])), (a6, .inl (cI, 12, .inl PH)), (a7, .inl (cI, 12, .inl EN)), (a8, .inl (cI, 12, .inl (fun zy => nI (CL zy)))), (a9, .inl (cI, 12, .inl (fun zy => nI (CB zy))))] sz)) 0 0 (va_A [(a0, .inr (2, [.int (nI np), .ref a1, .ref a2, .ref a3, .ref a4, .ref a5, .ref a6, .ref a7, .ref a8, .ref a9, .ref a10, .ref a11])), (a6, .inl (cI, 12, .inl PH)), (a7, .inl (cI, 12, .inl EN)), (a8, .inl (cI, 12, .inl (fun zy => nI (CL zy)))), (a9, .inl (cI, 12, .inl (fun zy => nI (CB zy))))] sz) := by
  refine Met.ofW (cc := prog_2_method_16_code) (maxL := 5) (ret := none) (by decide) rfl ?_
  intro p e s m args below meth c s₁ B hml hv
  obtain ⟨rfl, hsz, hP, hK, hD0, hN⟩ := hv
  have hx := B.exec
  have hb := B.bytes
  have hr := B.returns
  have hts0 := atoms_spec (ws := mw ⟨"PromiseChains$Pairs", "beginClosing", "(IIII)V"⟩ prog_2_method_16_code 5 none) B.pre
  have hts : ∀ w ∈ tblG, w.before _ s = true := fun w h => hts0 w (List.mem_cons_of_mem _ h)
  have hown : s.vm.findClass "PromiseChains$Pairs" = some m.cls := findClass_of_methodNamed B.named
  have hlocks := B.notSynchronized
  subst hsz
  have hD := hD0.self (sz := s.heap.size)
  generalize hAe : va_A [(a0, .inr (2, [.int (nI np), .ref a1, .ref a2, .ref a3, .ref a4, .ref a5, .ref a6, .ref a7, .ref a8, .ref a9, .ref a10, .ref a11])), (a6, .inl (cI, 12, .inl PH)), (a7, .inl (cI, 12, .inl EN)), (a8, .inl (cI, 12, .inl (fun zy => nI (CL zy)))), (a9, .inl (cI, 12, .inl (fun zy => nI (CB zy))))] s.heap.size = A at hD ⊢
  have hA : ∀ q : Nat, s.heap.size ≤ q → A q := fun q h => by rw [← hAe]; exact Or.inr h
  have hS : va_S A s.heap s.heap [] := va_S.rf
  have hP : va_P D vwCl [(a0, .inr (2, [.int (nI np), .ref a1, .ref a2, .ref a3, .ref a4, .ref a5, .ref a6, .ref a7, .ref a8, .ref a9, .ref a10, .ref a11])), (a6, .inl (cI, 12, .inl PH)), (a7, .inl (cI, 12, .inl EN)), (a8, .inl (cI, 12, .inl (fun zy => nI (CL zy)))), (a9, .inl (cI, 12, .inl (fun zy => nI (CB zy))))] s.heap := hP
  have hl := lv_entry ([.ref a0, .int (nI j), .int (nI t), .int (nI i), .int v]) (n := 5) (Nat.le_of_ble_eq_true rfl)
  rw [lg_entry_eq]
  generalize (lg_sl ([.ref a0, .int (nI j), .int (nI t), .int (nI i), .int v]) ++ List.replicate (5 - (lg_sl ([.ref a0, .int (nI j), .int (nI t), .int (nI i), .int v])).length) Slot.unset).toArray = ls at hl ⊢
  have hl : lv_has ls 5 [(0, .ref a0), (1, .int (nI j)), (2, .int (nI t)), (3, .int (nI i)), (4, .int v)] := hl
  refine lv_aload_n hx hb d_PA_beginClosing_0 rfl (lv_at hl 0 rfl) ?_
  refine va_get (D := D) (ci := 2) (v := .ref a6) (C := R_PA) (T := F_PA) (N := 12) hx hb hts i_PA hown hK hP 0 rfl rfl 6 (by decide) (hts _ q_69) (fun _ h9 => h9) rfl d_PA_beginClosing_1 ?_
  refine lv_iload_n hx hb d_PA_beginClosing_4 rfl (lv_at hl 1 rfl) ?_
  refine lv_iconst (v := 1) hx hb d_PA_beginClosing_5 (by decide) ?_
  refine my_stI hx hb hK hP hD hS 1 rfl j rfl (by omega) (by decide) d_PA_beginClosing_6 (fun H_1 locs hP hD hS => ?_)
  have hP : va_P D vwCl [(a0, .inr (2, [.int (nI np), .ref a1, .ref a2, .ref a3, .ref a4, .ref a5, .ref a6, .ref a7, .ref a8, .ref a9, .ref a10, .ref a11])), (a6, .inl (cI, 12, .inl (upd PH j 1))), (a7, .inl (cI, 12, .inl EN)), (a8, .inl (cI, 12, .inl (fun zy => nI (CL zy)))), (a9, .inl (cI, 12, .inl (fun zy => nI (CB zy))))] H_1 := hP
  refine lv_aload_n hx hb d_PA_beginClosing_7 rfl (lv_at hl 0 rfl) ?_
  refine va_get (D := D) (ci := 2) (v := .ref a8) (C := R_PA) (T := F_PA) (N := 12) hx hb hts i_PA hown hK hP 0 rfl rfl 8 (by decide) (hts _ q_73) (fun _ h9 => h9) rfl d_PA_beginClosing_8 ?_
  refine lv_iload_n hx hb d_PA_beginClosing_11 rfl (lv_at hl 1 rfl) ?_
  refine lv_iload_n hx hb d_PA_beginClosing_12 rfl (lv_at hl 2 rfl) ?_
  refine my_stN hx hb hK hP hD hS 3 rfl j t rfl rfl (by omega) (by decide) d_PA_beginClosing_13 (fun H_2 locs hP hD hS => ?_)
  have hP : va_P D vwCl [(a0, .inr (2, [.int (nI np), .ref a1, .ref a2, .ref a3, .ref a4, .ref a5, .ref a6, .ref a7, .ref a8, .ref a9, .ref a10, .ref a11])), (a6, .inl (cI, 12, .inl (upd PH j 1))), (a7, .inl (cI, 12, .inl EN)), (a8, .inl (cI, 12, .inl (fun zy => nI ((upN CL j t) zy)))), (a9, .inl (cI, 12, .inl (fun zy => nI (CB zy))))] H_2 := hP
  refine lv_aload_n hx hb d_PA_beginClosing_14 rfl (lv_at hl 0 rfl) ?_
  refine va_get (D := D) (ci := 2) (v := .ref a9) (C := R_PA) (T := F_PA) (N := 12) hx hb hts i_PA hown hK hP 0 rfl rfl 9 (by decide) (hts _ q_74) (fun _ h9 => h9) rfl d_PA_beginClosing_15 ?_
  refine lv_iload_n hx hb d_PA_beginClosing_18 rfl (lv_at hl 1 rfl) ?_
  refine lv_iload_n hx hb d_PA_beginClosing_19 rfl (lv_at hl 3 rfl) ?_
  refine my_stN hx hb hK hP hD hS 4 rfl j i rfl rfl (by omega) (by decide) d_PA_beginClosing_20 (fun H_3 locs hP hD hS => ?_)
  have hP : va_P D vwCl [(a0, .inr (2, [.int (nI np), .ref a1, .ref a2, .ref a3, .ref a4, .ref a5, .ref a6, .ref a7, .ref a8, .ref a9, .ref a10, .ref a11])), (a6, .inl (cI, 12, .inl (upd PH j 1))), (a7, .inl (cI, 12, .inl EN)), (a8, .inl (cI, 12, .inl (fun zy => nI ((upN CL j t) zy)))), (a9, .inl (cI, 12, .inl (fun zy => nI ((upN CB j i) zy))))] H_3 := hP
  refine lv_aload_n hx hb d_PA_beginClosing_21 rfl (lv_at hl 0 rfl) ?_
  refine va_get (D := D) (ci := 2) (v := .ref a7) (C := R_PA) (T := F_PA) (N := 12) hx hb hts i_PA hown hK hP 0 rfl rfl 7 (by decide) (hts _ q_71) (fun _ h9 => h9) rfl d_PA_beginClosing_22 ?_
  refine lv_iload_n hx hb d_PA_beginClosing_25 rfl (lv_at hl 1 rfl) ?_
  refine lv_iload hx hb d_PA_beginClosing_26 (lv_at hl 4 rfl) ?_
  refine my_stI hx hb hK hP hD hS 2 rfl j rfl (by omega) (by decide) d_PA_beginClosing_28 (fun H_4 locs hP hD hS => ?_)
  have hP : va_P D vwCl [(a0, .inr (2, [.int (nI np), .ref a1, .ref a2, .ref a3, .ref a4, .ref a5, .ref a6, .ref a7, .ref a8, .ref a9, .ref a10, .ref a11])), (a6, .inl (cI, 12, .inl (upd PH j 1))), (a7, .inl (cI, 12, .inl (upd EN j v))), (a8, .inl (cI, 12, .inl (fun zy => nI ((upN CL j t) zy)))), (a9, .inl (cI, 12, .inl (fun zy => nI ((upN CB j i) zy))))] H_4 := hP
  have hP9 := hP.sub (ws' := [(a0, .inr (2, [.int (nI np), .ref a1, .ref a2, .ref a3, .ref a4, .ref a5, .ref a6, .ref a7, .ref a8, .ref a9, .ref a10, .ref a11])), (a6, .inl (cI, 12, .inl (upd PH j 1))), (a7, .inl (cI, 12, .inl (upd EN j v))), (a8, .inl (cI, 12, .inl (fun zy => nI ((upN CL j t) zy)))), (a9, .inl (cI, 12, .inl (fun zy => nI ((upN CB j i) zy))))]) [0, 1, 2, 3, 4] rfl
  have hD9 := hD.sub (ws' := [(a0, .inr (2, [.int (nI np), .ref a1, .ref a2, .ref a3, .ref a4, .ref a5, .ref a6, .ref a7, .ref a8, .ref a9, .ref a10, .ref a11])), (a6, .inl (cI, 12, .inl (upd PH j 1))), (a7, .inl (cI, 12, .inl (upd EN j v))), (a8, .inl (cI, 12, .inl (fun zy => nI ((upN CL j t) zy)))), (a9, .inl (cI, 12, .inl (fun zy => nI ((upN CB j i) zy))))]) [0, 1, 2, 3, 4] (by decide +kernel) rfl
  refine W.widen (k := 0) (n := 0) (Nat.le_of_ble_eq_true rfl) (Nat.le_of_ble_eq_true rfl) ?_
  exact W.vret hx hb hr (fun tT ht hW => ⟨⟨(), rfl, trivial, by rw [ht]; exact hP9, hD9⟩, hS.F ht⟩) hS.2.2 d_PA_beginClosing_29
