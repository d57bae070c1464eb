theorem cwD_n1 {EP : Nat → Nat} {MS FB FR : Nat → Int32} {n : Nat} {S1 S2 : Nat → Nat} {x : Int32} {C : Nat → Int32} (h : cwD EP MS FB FR n S1 S2 x 0 C) (hS : ∀ k, 0 ≤ (MS k).toInt ∧ (MS k).toInt ≤ 200000) (hB : ∀ g, 0 ≤ (FB g).toInt ∧ (FB g).toInt ≤ 100) (hR : ∀ g, 0 ≤ (FR g).toInt ∧ (FR g).toInt ≤ 100) (hx : 1 ≤ x.toInt) : ¬ cwf EP FB FR (lkB n S1 S2) x (n - 1) = -1 := cwf_n1 hS hB hR hx (fun w hw => by
  have h9 := (h (n - 1 - w) (Nat.zero_le _) (by omega)).2
  rw [show n - 1 - (n - 1 - w) = w by omega] at h9
  exact h9)
def cpI (n : Nat) (F G : Nat → Int32) : Nat → Int32 := fun j => if j < n then F j else G j
theorem cpI_0 (F G : Nat → Int32) : cpI 0 F G = G := by funext j; unfold cpI; rw [if_neg (by omega)]
theorem cpI_s (n : Nat) (F G : Nat → Int32) : upd (cpI n F G) n (F n) = cpI (n + 1) F G := by
  funext j
  rw [upd_at]
  unfold cpI
  by_cases h : j = n
  · rw [if_pos h, if_pos (by omega), h]
  · rw [if_neg h]
    by_cases h2 : j < n
    · rw [if_pos h2, if_pos (by omega)]
    · rw [if_neg h2, if_neg (by omega)]
theorem cpI_lt {n z : Nat} {F G : Nat → Int32} (h : z < n) : cpI n F G z = F z := by unfold cpI; rw [if_pos h]
theorem gd_MO_carried_0 : (decode prog_9_method_14_code 0 = .ok (.iload_n 2, 1)) ∧ (decode prog_9_method_14_code 1 = .ok (.istore_n 3, 1)) ∧ (decode prog_9_method_14_code 2 = .ok (.iload_n 1, 1)) ∧ (decode prog_9_method_14_code 3 = .ok (.iconst 1, 1)) ∧ (decode prog_9_method_14_code 4 = .ok (.isub, 1)) ∧ (decode prog_9_method_14_code 5 = .ok (.istore 4, 2)) ∧ (decode prog_9_method_14_code 7 = .ok (.iload 4, 2)) ∧ (decode prog_9_method_14_code 9 = .ok (.ifCond .lt 103, 3)) ∧ (decode prog_9_method_14_code 112 = .ok (.iload_n 3, 1)) ∧ (decode prog_9_method_14_code 113 = .ok (.ireturn, 1)) := by decide +kernel
theorem d_MO_carried_0 : decode prog_9_method_14_code 0 = .ok (.iload_n 2, 1) := gd_MO_carried_0.1
theorem d_MO_carried_1 : decode prog_9_method_14_code 1 = .ok (.istore_n 3, 1) := gd_MO_carried_0.2.1
theorem d_MO_carried_2 : decode prog_9_method_14_code 2 = .ok (.iload_n 1, 1) := gd_MO_carried_0.2.2.1
theorem d_MO_carried_3 : decode prog_9_method_14_code 3 = .ok (.iconst 1, 1) := gd_MO_carried_0.2.2.2.1
theorem d_MO_carried_4 : decode prog_9_method_14_code 4 = .ok (.isub, 1) := gd_MO_carried_0.2.2.2.2.1
theorem d_MO_carried_5 : decode prog_9_method_14_code 5 = .ok (.istore 4, 2) := gd_MO_carried_0.2.2.2.2.2.1
theorem d_MO_carried_7 : decode prog_9_method_14_code 7 = .ok (.iload 4, 2) := gd_MO_carried_0.2.2.2.2.2.2.1
theorem d_MO_carried_9 : decode prog_9_method_14_code 9 = .ok (.ifCond .lt 103, 3) := gd_MO_carried_0.2.2.2.2.2.2.2.1
theorem d_MO_carried_112 : decode prog_9_method_14_code 112 = .ok (.iload_n 3, 1) := gd_MO_carried_0.2.2.2.2.2.2.2.2.1
theorem d_MO_carried_113 : decode prog_9_method_14_code 113 = .ok (.ireturn, 1) := gd_MO_carried_0.2.2.2.2.2.2.2.2.2
theorem gd_MO_carried_12 : (decode prog_9_method_14_code 12 = .ok (.iload 4, 2)) ∧ (decode prog_9_method_14_code 14 = .ok (.iload_n 1, 1)) ∧ (decode prog_9_method_14_code 15 = .ok (.iconst 1, 1)) ∧ (decode prog_9_method_14_code 16 = .ok (.isub, 1)) ∧ (decode prog_9_method_14_code 17 = .ok (.if_icmp .ge 53, 3)) ∧ (decode prog_9_method_14_code 70 = .ok (.aload_n 0, 1)) ∧ (decode prog_9_method_14_code 71 = .ok (.getfield 117, 3)) ∧ (decode prog_9_method_14_code 74 = .ok (.iload 4, 2)) ∧ (decode prog_9_method_14_code 76 = .ok (.iload_n 3, 1)) ∧ (decode prog_9_method_14_code 77 = .ok (.iastore, 1)) := by decide +kernel
theorem d_MO_carried_12 : decode prog_9_method_14_code 12 = .ok (.iload 4, 2) := gd_MO_carried_12.1
theorem d_MO_carried_14 : decode prog_9_method_14_code 14 = .ok (.iload_n 1, 1) := gd_MO_carried_12.2.1
theorem d_MO_carried_15 : decode prog_9_method_14_code 15 = .ok (.iconst 1, 1) := gd_MO_carried_12.2.2.1
theorem d_MO_carried_16 : decode prog_9_method_14_code 16 = .ok (.isub, 1) := gd_MO_carried_12.2.2.2.1
theorem d_MO_carried_17 : decode prog_9_method_14_code 17 = .ok (.if_icmp .ge 53, 3) := gd_MO_carried_12.2.2.2.2.1
theorem d_MO_carried_70 : decode prog_9_method_14_code 70 = .ok (.aload_n 0, 1) := gd_MO_carried_12.2.2.2.2.2.1
theorem d_MO_carried_71 : decode prog_9_method_14_code 71 = .ok (.getfield 117, 3) := gd_MO_carried_12.2.2.2.2.2.2.1
theorem d_MO_carried_74 : decode prog_9_method_14_code 74 = .ok (.iload 4, 2) := gd_MO_carried_12.2.2.2.2.2.2.2.1
theorem d_MO_carried_76 : decode prog_9_method_14_code 76 = .ok (.iload_n 3, 1) := gd_MO_carried_12.2.2.2.2.2.2.2.2.1
theorem d_MO_carried_77 : decode prog_9_method_14_code 77 = .ok (.iastore, 1) := gd_MO_carried_12.2.2.2.2.2.2.2.2.2
theorem gd_MO_carried_78 : (decode prog_9_method_14_code 78 = .ok (.iload_n 3, 1)) ∧ (decode prog_9_method_14_code 79 = .ok (.aload_n 0, 1)) ∧ (decode prog_9_method_14_code 80 = .ok (.getfield 36, 3)) ∧ (decode prog_9_method_14_code 83 = .ok (.iconst 2, 1)) ∧ (decode prog_9_method_14_code 84 = .ok (.aload_n 0, 1)) ∧ (decode prog_9_method_14_code 85 = .ok (.getfield 108, 3)) ∧ (decode prog_9_method_14_code 88 = .ok (.iload 4, 2)) ∧ (decode prog_9_method_14_code 90 = .ok (.iaload, 1)) ∧ (decode prog_9_method_14_code 91 = .ok (.imul, 1)) ∧ (decode prog_9_method_14_code 92 = .ok (.aload_n 0, 1)) := by decide +kernel
theorem d_MO_carried_78 : decode prog_9_method_14_code 78 = .ok (.iload_n 3, 1) := gd_MO_carried_78.1
theorem d_MO_carried_79 : decode prog_9_method_14_code 79 = .ok (.aload_n 0, 1) := gd_MO_carried_78.2.1
theorem d_MO_carried_80 : decode prog_9_method_14_code 80 = .ok (.getfield 36, 3) := gd_MO_carried_78.2.2.1
theorem d_MO_carried_83 : decode prog_9_method_14_code 83 = .ok (.iconst 2, 1) := gd_MO_carried_78.2.2.2.1
theorem d_MO_carried_84 : decode prog_9_method_14_code 84 = .ok (.aload_n 0, 1) := gd_MO_carried_78.2.2.2.2.1
theorem d_MO_carried_85 : decode prog_9_method_14_code 85 = .ok (.getfield 108, 3) := gd_MO_carried_78.2.2.2.2.2.1
theorem d_MO_carried_88 : decode prog_9_method_14_code 88 = .ok (.iload 4, 2) := gd_MO_carried_78.2.2.2.2.2.2.1
theorem d_MO_carried_90 : decode prog_9_method_14_code 90 = .ok (.iaload, 1) := gd_MO_carried_78.2.2.2.2.2.2.2.1
theorem d_MO_carried_91 : decode prog_9_method_14_code 91 = .ok (.imul, 1) := gd_MO_carried_78.2.2.2.2.2.2.2.2.1
theorem d_MO_carried_92 : decode prog_9_method_14_code 92 = .ok (.aload_n 0, 1) := gd_MO_carried_78.2.2.2.2.2.2.2.2.2
theorem gd_MO_carried_93 : (decode prog_9_method_14_code 93 = .ok (.getfield 111, 3)) ∧ (decode prog_9_method_14_code 96 = .ok (.iload 4, 2)) ∧ (decode prog_9_method_14_code 98 = .ok (.iaload, 1)) ∧ (decode prog_9_method_14_code 99 = .ok (.iadd, 1)) ∧ (decode prog_9_method_14_code 100 = .ok (.iaload, 1)) ∧ (decode prog_9_method_14_code 101 = .ok (.if_icmp .le 5, 3)) ∧ (decode prog_9_method_14_code 106 = .ok (.iinc 4 (-1), 3)) ∧ (decode prog_9_method_14_code 109 = .ok (.goto (-102), 3)) ∧ (decode prog_9_method_14_code 104 = .ok (.iconst (-1), 1)) ∧ (decode prog_9_method_14_code 105 = .ok (.ireturn, 1)) := by decide +kernel
theorem d_MO_carried_93 : decode prog_9_method_14_code 93 = .ok (.getfield 111, 3) := gd_MO_carried_93.1
theorem d_MO_carried_96 : decode prog_9_method_14_code 96 = .ok (.iload 4, 2) := gd_MO_carried_93.2.1
theorem d_MO_carried_98 : decode prog_9_method_14_code 98 = .ok (.iaload, 1) := gd_MO_carried_93.2.2.1
theorem d_MO_carried_99 : decode prog_9_method_14_code 99 = .ok (.iadd, 1) := gd_MO_carried_93.2.2.2.1
theorem d_MO_carried_100 : decode prog_9_method_14_code 100 = .ok (.iaload, 1) := gd_MO_carried_93.2.2.2.2.1
theorem d_MO_carried_101 : decode prog_9_method_14_code 101 = .ok (.if_icmp .le 5, 3) := gd_MO_carried_93.2.2.2.2.2.1
theorem d_MO_carried_106 : decode prog_9_method_14_code 106 = .ok (.iinc 4 (-1), 3) := gd_MO_carried_93.2.2.2.2.2.2.1
theorem d_MO_carried_109 : decode prog_9_method_14_code 109 = .ok (.goto (-102), 3) := gd_MO_carried_93.2.2.2.2.2.2.2.1
theorem d_MO_carried_104 : decode prog_9_method_14_code 104 = .ok (.iconst (-1), 1) := gd_MO_carried_93.2.2.2.2.2.2.2.2.1
theorem d_MO_carried_105 : decode prog_9_method_14_code 105 = .ok (.ireturn, 1) := gd_MO_carried_93.2.2.2.2.2.2.2.2.2
theorem gd_MO_carried_20 : (decode prog_9_method_14_code 20 = .ok (.aload_n 0, 1)) ∧ (decode prog_9_method_14_code 21 = .ok (.getfield 33, 3)) ∧ (decode prog_9_method_14_code 24 = .ok (.iconst 2, 1)) ∧ (decode prog_9_method_14_code 25 = .ok (.aload_n 0, 1)) ∧ (decode prog_9_method_14_code 26 = .ok (.getfield 108, 3)) ∧ (decode prog_9_method_14_code 29 = .ok (.iload 4, 2)) ∧ (decode prog_9_method_14_code 31 = .ok (.iaload, 1)) ∧ (decode prog_9_method_14_code 32 = .ok (.imul, 1)) ∧ (decode prog_9_method_14_code 33 = .ok (.iconst 1, 1)) ∧ (decode prog_9_method_14_code 34 = .ok (.iadd, 1)) := by decide +kernel
theorem d_MO_carried_20 : decode prog_9_method_14_code 20 = .ok (.aload_n 0, 1) := gd_MO_carried_20.1
theorem d_MO_carried_21 : decode prog_9_method_14_code 21 = .ok (.getfield 33, 3) := gd_MO_carried_20.2.1
theorem d_MO_carried_24 : decode prog_9_method_14_code 24 = .ok (.iconst 2, 1) := gd_MO_carried_20.2.2.1
theorem d_MO_carried_25 : decode prog_9_method_14_code 25 = .ok (.aload_n 0, 1) := gd_MO_carried_20.2.2.2.1
theorem d_MO_carried_26 : decode prog_9_method_14_code 26 = .ok (.getfield 108, 3) := gd_MO_carried_20.2.2.2.2.1
theorem d_MO_carried_29 : decode prog_9_method_14_code 29 = .ok (.iload 4, 2) := gd_MO_carried_20.2.2.2.2.2.1
theorem d_MO_carried_31 : decode prog_9_method_14_code 31 = .ok (.iaload, 1) := gd_MO_carried_20.2.2.2.2.2.2.1
theorem d_MO_carried_32 : decode prog_9_method_14_code 32 = .ok (.imul, 1) := gd_MO_carried_20.2.2.2.2.2.2.2.1
theorem d_MO_carried_33 : decode prog_9_method_14_code 33 = .ok (.iconst 1, 1) := gd_MO_carried_20.2.2.2.2.2.2.2.2.1
theorem d_MO_carried_34 : decode prog_9_method_14_code 34 = .ok (.iadd, 1) := gd_MO_carried_20.2.2.2.2.2.2.2.2.2
theorem gd_MO_carried_35 : (decode prog_9_method_14_code 35 = .ok (.aload_n 0, 1)) ∧ (decode prog_9_method_14_code 36 = .ok (.getfield 111, 3)) ∧ (decode prog_9_method_14_code 39 = .ok (.iload 4, 2)) ∧ (decode prog_9_method_14_code 41 = .ok (.iaload, 1)) ∧ (decode prog_9_method_14_code 42 = .ok (.isub, 1)) ∧ (decode prog_9_method_14_code 43 = .ok (.iaload, 1)) ∧ (decode prog_9_method_14_code 44 = .ok (.istore 5, 2)) ∧ (decode prog_9_method_14_code 46 = .ok (.iload_n 3, 1)) ∧ (decode prog_9_method_14_code 47 = .ok (.aload_n 0, 1)) ∧ (decode prog_9_method_14_code 48 = .ok (.getfield 27, 3)) := by decide +kernel
theorem d_MO_carried_35 : decode prog_9_method_14_code 35 = .ok (.aload_n 0, 1) := gd_MO_carried_35.1
theorem d_MO_carried_36 : decode prog_9_method_14_code 36 = .ok (.getfield 111, 3) := gd_MO_carried_35.2.1
theorem d_MO_carried_39 : decode prog_9_method_14_code 39 = .ok (.iload 4, 2) := gd_MO_carried_35.2.2.1
theorem d_MO_carried_41 : decode prog_9_method_14_code 41 = .ok (.iaload, 1) := gd_MO_carried_35.2.2.2.1
theorem d_MO_carried_42 : decode prog_9_method_14_code 42 = .ok (.isub, 1) := gd_MO_carried_35.2.2.2.2.1
theorem d_MO_carried_43 : decode prog_9_method_14_code 43 = .ok (.iaload, 1) := gd_MO_carried_35.2.2.2.2.2.1
theorem d_MO_carried_44 : decode prog_9_method_14_code 44 = .ok (.istore 5, 2) := gd_MO_carried_35.2.2.2.2.2.2.1
theorem d_MO_carried_46 : decode prog_9_method_14_code 46 = .ok (.iload_n 3, 1) := gd_MO_carried_35.2.2.2.2.2.2.2.1
theorem d_MO_carried_47 : decode prog_9_method_14_code 47 = .ok (.aload_n 0, 1) := gd_MO_carried_35.2.2.2.2.2.2.2.2.1
theorem d_MO_carried_48 : decode prog_9_method_14_code 48 = .ok (.getfield 27, 3) := gd_MO_carried_35.2.2.2.2.2.2.2.2.2
theorem gd_MO_carried_51 : (decode prog_9_method_14_code 51 = .ok (.iload 5, 2)) ∧ (decode prog_9_method_14_code 53 = .ok (.iaload, 1)) ∧ (decode prog_9_method_14_code 54 = .ok (.iadd, 1)) ∧ (decode prog_9_method_14_code 55 = .ok (.iload_n 3, 1)) ∧ (decode prog_9_method_14_code 56 = .ok (.aload_n 0, 1)) ∧ (decode prog_9_method_14_code 57 = .ok (.getfield 30, 3)) ∧ (decode prog_9_method_14_code 60 = .ok (.iload 5, 2)) ∧ (decode prog_9_method_14_code 62 = .ok (.iaload, 1)) ∧ (decode prog_9_method_14_code 63 = .ok (.imul, 1)) ∧ (decode prog_9_method_14_code 64 = .ok (.sipush 1000, 3)) := by decide +kernel
theorem d_MO_carried_51 : decode prog_9_method_14_code 51 = .ok (.iload 5, 2) := gd_MO_carried_51.1
theorem d_MO_carried_53 : decode prog_9_method_14_code 53 = .ok (.iaload, 1) := gd_MO_carried_51.2.1
theorem d_MO_carried_54 : decode prog_9_method_14_code 54 = .ok (.iadd, 1) := gd_MO_carried_51.2.2.1
theorem d_MO_carried_55 : decode prog_9_method_14_code 55 = .ok (.iload_n 3, 1) := gd_MO_carried_51.2.2.2.1
theorem d_MO_carried_56 : decode prog_9_method_14_code 56 = .ok (.aload_n 0, 1) := gd_MO_carried_51.2.2.2.2.1
theorem d_MO_carried_57 : decode prog_9_method_14_code 57 = .ok (.getfield 30, 3) := gd_MO_carried_51.2.2.2.2.2.1
theorem d_MO_carried_60 : decode prog_9_method_14_code 60 = .ok (.iload 5, 2) := gd_MO_carried_51.2.2.2.2.2.2.1
theorem d_MO_carried_62 : decode prog_9_method_14_code 62 = .ok (.iaload, 1) := gd_MO_carried_51.2.2.2.2.2.2.2.1
theorem d_MO_carried_63 : decode prog_9_method_14_code 63 = .ok (.imul, 1) := gd_MO_carried_51.2.2.2.2.2.2.2.2.1
theorem d_MO_carried_64 : decode prog_9_method_14_code 64 = .ok (.sipush 1000, 3) := gd_MO_carried_51.2.2.2.2.2.2.2.2.2
theorem gd_MO_carried_67 : (decode prog_9_method_14_code 67 = .ok (.idiv, 1)) ∧ (decode prog_9_method_14_code 68 = .ok (.iadd, 1)) ∧ (decode prog_9_method_14_code 69 = .ok (.istore_n 3, 1)) := by decide +kernel
theorem d_MO_carried_67 : decode prog_9_method_14_code 67 = .ok (.idiv, 1) := gd_MO_carried_67.1
theorem d_MO_carried_68 : decode prog_9_method_14_code 68 = .ok (.iadd, 1) := gd_MO_carried_67.2.1
theorem d_MO_carried_69 : decode prog_9_method_14_code 69 = .ok (.istore_n 3, 1) := gd_MO_carried_67.2.2
set_option maxHeartbeats 4000000 in
set_option maxRecDepth 100000 in
theorem e_MO_carried (l : Launch) (D : va_G) (cI cZ : ClassId) (y : Nat) (ln : Nat) (v : Int32) (mn : Nat) (mtm : Int32) (mgp : Int32) (mlk : Int32) (y1 : Nat) (y2 : Nat) (y3 : Nat) (y4 : Nat) (mp : Nat) (y5 : Nat) (y6 : Nat) (y7 : Nat) (y8 : Nat) (y9 : Nat) (y10 : Nat) (y11 : Nat) (y12 : Nat) (y13 : Nat) (y14 : Nat) (y15 : Nat) (mq : Nat) (y16 : Nat) (y17 : Nat) (y18 : Nat) (y19 : Nat) (y20 : Nat) (y21 : Nat) (y22 : Nat) (y23 : Nat) (y24 : Nat) (y25 : Nat) (y26 : Nat) (y27 : Nat) (mhw : Int32) (mwn : Nat) (y28 : Nat) (y29 : Nat) (y30 : Nat) (y31 : Nat) (y32 : Nat) (y33 : Nat) (y34 : Nat) (y35 : Nat) (y36 : Nat) (mbm : Nat) (y37 : Nat) (y38 : Nat) (mrm : Nat) (mro : Int32) (mrs : Int32) (ME : Nat → Nat) (MS : Nat → Int32) (MB : Nat → Int32) (MR : Nat → Int32) (DA1 : Nat → Nat) (DA2 : Nat → Nat) (DA4 : Nat → Int32) (sz : Nat) (h_mn : mn ≤ 7) (h_mp : mp ≤ 12) (h_mq : mq ≤ 40) (h_mwn : mwn ≤ 8) (h_mbm : mbm ≤ 8) (h_mrm : mrm ≤ 8) (h_ME : ∀ zz, ME zz ≤ 6) (h_DA1 : ∀ zz, DA1 zz ≤ 11) (h_DA2 : ∀ zz, DA2 zz ≤ 1) (hln : ln ≤ 8) (hln1 : 1 ≤ ln) (hch : ∀ zz, zz + 1 < ln → ME (oth (2 * DA1 zz + DA2 zz)) = ME (2 * DA1 (zz + 1) + DA2 (zz + 1))) : Met l ⟨"PromiseChainsModel", "carried", "(II)I"⟩ (mw ⟨"PromiseChainsModel", "carried", "(II)I"⟩ prog_9_method_14_code 6 (some .int)) ({ frames := 0, cells := 0, slots := 0, locals := 0 }) (va_Pc [.ref y, .int (nI ln), .int v] (PB D cI cZ sz [(y, .inr (7, [.int (nI mn), .int mtm, .int mgp, .int mlk, .ref y1, .ref y2, .ref y3, .ref y4, .int (nI mp), .ref y5, .ref y6, .ref y7, .ref y8, .ref y9, .ref y10, .ref y11, .ref y12, .ref y13, .ref y14, .ref y15, .int (nI mq), .ref y16, .ref y17, .ref y18, .ref y19, .ref y20, .ref y21, .ref y22, .ref y23, .ref y24, .ref y25, .ref y26, .ref y27, .int mhw, .int (nI mwn), .ref y28, .ref y29, .ref y30, .ref y31, .ref y32, .ref y33, .ref y34, .ref y35, .ref y36, .int (nI mbm), .ref y37, .ref y38, .int (nI mrm), .int mro, .int mrs])), (y5, .inl (cI, 24, .inl (fun zy => nI (ME zy)))), (y6, .inl (cI, 24, .inl MS)), (y3, .inl (cI, 7, .inl MB)), (y4, .inl (cI, 7, .inl MR)), (y30, .inl (cI, 9, .inl (fun zy => nI (DA1 zy)))), (y31, .inl (cI, 9, .inl (fun zy => nI (DA2 zy)))), (y33, .inl (cI, 9, .inl DA4))])) (va_Qi (S := (Nat → Int32)) (fun (r : Int32) uU => ((∃ zz, zz < ln ∧ MS (2 * DA1 zz + DA2 zz) < cwf ME MB MR (lkB ln DA1 DA2) v (ln - 1 - zz)) ∧ r = -1) ∨ (∃ rr : Int32, cwD ME MS MB MR ln DA1 DA2 v 0 uU ∧ rr = cwf ME MB MR (lkB ln DA1 DA2) v (ln - 1) ∧ r = rr)) (fun uU tT => BB D (va_A [(y, .inr (7, [.int (nI mn), .int mtm, .int mgp, .int mlk, .ref y1, .ref y2, .ref y3, .ref y4, .int (nI mp), .ref y5, .ref y6, .ref y7, .ref y8, .ref y9, .ref y10, .ref y11, .ref y12, .ref y13, .ref y14, .ref y15, .int (nI mq), .ref y16, .ref y17, .ref y18, .ref y19, .ref y20, .ref y21, .ref y22, .ref y23, .ref y24, .ref y25, .ref y26, .ref y27, .int mhw, .int (nI mwn), .ref y28, .ref y29, .ref y30, .ref y31, .ref y32, .ref y33, .ref y34, .ref y35, .ref y36, .int (nI mbm), .ref y37, .ref y38, .int (nI mrm), .int mro, .int mrs])), (y5, .inl (cI, 24, .inl (fun zy => nI (ME zy)))), (y6, .inl (cI, 24, .inl MS)), (y3, .inl (cI, 7, .inl MB)), (y4, .inl (cI, 7, .inl MR)), (y30, .inl (cI, 9, .inl (fun zy => nI (DA1 zy)))), (y31, .inl (cI, 9, .inl (fun zy => nI (DA2 zy)))), (y33, .inl (cI, 9, .inl DA4))] sz) [(y, .inr (7, [.int (nI mn), .int mtm, .int mgp, .int mlk, .ref y1, .ref y2, .ref y3, .ref y4, .int (nI mp), .ref y5, .ref y6, .ref y7, .ref y8, .ref y9, .ref y10, .ref y11, .ref y12, .ref y13, .ref y14, .ref y15, .int (nI mq), .ref y16, .ref y17, .ref y18, .ref y19, .ref y20, .ref y21, .ref y22, .ref y23, .ref y24, .ref y25, .ref y26, .ref y27, .int mhw, .int (nI mwn), .ref y28, .ref y29, .ref y30, .ref y31, .ref y32, .ref y33, .ref y34, .ref y35, .ref y36, .int (nI mbm), .ref y37, .ref y38, .int (nI mrm), .int mro, .int mrs])), (y5, .inl (cI, 24, .inl (fun zy => nI (ME zy)))), (y6, .inl (cI, 24, .inl MS)), (y3, .inl (cI, 7, .inl MB)), (y4, .inl (cI, 7, .inl MR)), (y30, .inl (cI, 9, .inl (fun zy => nI (DA1 zy)))), (y31, .inl (cI, 9, .inl (fun zy => nI (DA2 zy)))), (y33, .inl (cI, 9, .inl (uU)))] tT) (va_A [(y, .inr (7, [.int (nI mn), .int mtm, .int mgp, .int mlk, .ref y1, .ref y2, .ref y3, .ref y4, .int (nI mp), .ref y5, .ref y6, .ref y7, .ref y8, .ref y9, .ref y10, .ref y11, .ref y12, .ref y13, .ref y14, .ref y15, .int (nI mq), .ref y16, .ref y17, .ref y18, .ref y19, .ref y20, .ref y21, .ref y22, .ref y23, .ref y24, .ref y25, .ref y26, .ref y27, .int mhw, .int (nI mwn), .ref y28, .ref y29, .ref y30, .ref y31, .ref y32, .ref y33, .ref y34, .ref y35, .ref y36, .int (nI mbm), .ref y37, .ref y38, .int (nI mrm), .int mro, .int mrs])), (y5, .inl (cI, 24, .inl (fun zy => nI (ME zy)))), (y6, .inl (cI, 24, .inl MS)), (y3, .inl (cI, 7, .inl MB)), (y4, .inl (cI, 7, .inl MR)), (y30, .inl (cI, 9, .inl (fun zy => nI (DA1 zy)))), (y31, .inl (cI, 9, .inl (fun zy => nI (DA2 zy)))), (y33, .inl (cI, 9, .inl DA4))] sz)) 0 0 (va_A [(y, .inr (7, [.int (nI mn), .int mtm, .int mgp, .int mlk, .ref y1, .ref y2, .ref y3, .ref y4, .int (nI mp), .ref y5, .ref y6, .ref y7, .ref y8, .ref y9, .ref y10, .ref y11, .ref y12, .ref y13, .ref y14, .ref y15, .int (nI mq), .ref y16, .ref y17, .ref y18, .ref y19, .ref y20, .ref y21, .ref y22, .ref y23, .ref y24, .ref y25, .ref y26, .ref y27, .int mhw, .int (nI mwn), .ref y28, .ref y29, .ref y30, .ref y31, .ref y32, .ref y33, .ref y34, .ref y35, .ref y36, .int (nI mbm), .ref y37, .ref y38, .int (nI mrm), .int mro, .int mrs])), (y5, .inl (cI, 24, .inl (fun zy => nI (ME zy)))), (y6, .inl (cI, 24, .inl MS)), (y3, .inl (cI, 7, .inl MB)), (y4, .inl (cI, 7, .inl MR)), (y30, .inl (cI, 9, .inl (fun zy => nI (DA1 zy)))), (y31, .inl (cI, 9, .inl (fun zy => nI (DA2 zy)))), (y33, .inl (cI, 9, .inl DA4))] sz) := by
  refine Met.ofW (cc := prog_9_method_14_code) (maxL := 6) (ret := (some .int)) (by decide) rfl ?_
  intro p e s m args below meth c s₁ B hml hv
  obtain ⟨rfl, hsz, hP, hK, hD0, hN⟩ := hv
  have hx := B.exec
  have hb := B.bytes
  have hr := B.returns
  have hts0 := atoms_spec (ws := mw ⟨"PromiseChainsModel", "carried", "(II)I"⟩ prog_9_method_14_code 6 (some .int)) B.pre
  have hts : ∀ w ∈ tblG, w.before _ s = true := fun w h => hts0 w (List.mem_cons_of_mem _ h)
  have hown : s.vm.findClass "PromiseChainsModel" = some m.cls := findClass_of_methodNamed B.named
  have hlocks := B.notSynchronized
  subst hsz
  have hD := hD0.self (sz := s.heap.size)
  generalize hAe : va_A [(y, .inr (7, [.int (nI mn), .int mtm, .int mgp, .int mlk, .ref y1, .ref y2, .ref y3, .ref y4, .int (nI mp), .ref y5, .ref y6, .ref y7, .ref y8, .ref y9, .ref y10, .ref y11, .ref y12, .ref y13, .ref y14, .ref y15, .int (nI mq), .ref y16, .ref y17, .ref y18, .ref y19, .ref y20, .ref y21, .ref y22, .ref y23, .ref y24, .ref y25, .ref y26, .ref y27, .int mhw, .int (nI mwn), .ref y28, .ref y29, .ref y30, .ref y31, .ref y32, .ref y33, .ref y34, .ref y35, .ref y36, .int (nI mbm), .ref y37, .ref y38, .int (nI mrm), .int mro, .int mrs])), (y5, .inl (cI, 24, .inl (fun zy => nI (ME zy)))), (y6, .inl (cI, 24, .inl MS)), (y3, .inl (cI, 7, .inl MB)), (y4, .inl (cI, 7, .inl MR)), (y30, .inl (cI, 9, .inl (fun zy => nI (DA1 zy)))), (y31, .inl (cI, 9, .inl (fun zy => nI (DA2 zy)))), (y33, .inl (cI, 9, .inl DA4))] s.heap.size = A at hD ⊢
  have hA : ∀ q : Nat, s.heap.size ≤ q → A q := fun q h => by rw [← hAe]; exact Or.inr h
  have hS : va_S A s.heap s.heap [] := va_S.rf
  have hP : va_P D vwCl [(y, .inr (7, [.int (nI mn), .int mtm, .int mgp, .int mlk, .ref y1, .ref y2, .ref y3, .ref y4, .int (nI mp), .ref y5, .ref y6, .ref y7, .ref y8, .ref y9, .ref y10, .ref y11, .ref y12, .ref y13, .ref y14, .ref y15, .int (nI mq), .ref y16, .ref y17, .ref y18, .ref y19, .ref y20, .ref y21, .ref y22, .ref y23, .ref y24, .ref y25, .ref y26, .ref y27, .int mhw, .int (nI mwn), .ref y28, .ref y29, .ref y30, .ref y31, .ref y32, .ref y33, .ref y34, .ref y35, .ref y36, .int (nI mbm), .ref y37, .ref y38, .int (nI mrm), .int mro, .int mrs])), (y5, .inl (cI, 24, .inl (fun zy => nI (ME zy)))), (y6, .inl (cI, 24, .inl MS)), (y3, .inl (cI, 7, .inl MB)), (y4, .inl (cI, 7, .inl MR)), (y30, .inl (cI, 9, .inl (fun zy => nI (DA1 zy)))), (y31, .inl (cI, 9, .inl (fun zy => nI (DA2 zy)))), (y33, .inl (cI, 9, .inl DA4))] s.heap := hP
  have hl := lv_entry ([.ref y, .int (nI ln), .int v]) (n := 6) (Nat.le_of_ble_eq_true rfl)
  rw [lg_entry_eq]
  generalize (lg_sl ([.ref y, .int (nI ln), .int v]) ++ List.replicate (6 - (lg_sl ([.ref y, .int (nI ln), .int v])).length) Slot.unset).toArray = ls at hl ⊢
  have hl : lv_has ls 6 [(0, .ref y), (1, .int (nI ln)), (2, .int v)] := hl
  refine lv_iload_n hx hb d_MO_carried_0 rfl (lv_at hl 2 rfl) ?_
  refine lv_istore_n (lv' := [(3, .int v), (0, .ref y), (1, .int (nI ln)), (2, .int v)]) hx hb d_MO_carried_1 rfl hl (by decide) rfl (fun ls hl => ?_)
  refine lv_iload_n hx hb d_MO_carried_2 rfl (lv_at hl 2 rfl) ?_
  refine lv_iconst (v := 1) hx hb d_MO_carried_3 (by decide) ?_
  refine lv_isub hx hb d_MO_carried_4 ?_
  refine lv_seti (dI ln) (dI_sub _) ?_
  refine lv_istore (lv' := [(4, .int (dI ln)), (3, .int v), (0, .ref y), (1, .int (nI ln)), (2, .int v)]) hx hb d_MO_carried_5 hl (by decide) rfl (fun ls hl => ?_)
  refine W_loop (σ := Nat × Int32 × (Nat → Int32)) (I := fun xX H locs ls => xX.1 ≤ ln ∧ xX.2.1 = cwf ME MB MR (lkB ln DA1 DA2) v (ln - 1 - xX.1) ∧ cwD ME MS MB MR ln DA1 DA2 v xX.1 xX.2.2 ∧ va_P D vwCl [(y, .inr (7, [.int (nI mn), .int mtm, .int mgp, .int mlk, .ref y1, .ref y2, .ref y3, .ref y4, .int (nI mp), .ref y5, .ref y6, .ref y7, .ref y8, .ref y9, .ref y10, .ref y11, .ref y12, .ref y13, .ref y14, .ref y15, .int (nI mq), .ref y16, .ref y17, .ref y18, .ref y19, .ref y20, .ref y21, .ref y22, .ref y23, .ref y24, .ref y25, .ref y26, .ref y27, .int mhw, .int (nI mwn), .ref y28, .ref y29, .ref y30, .ref y31, .ref y32, .ref y33, .ref y34, .ref y35, .ref y36, .int (nI mbm), .ref y37, .ref y38, .int (nI mrm), .int mro, .int mrs])), (y5, .inl (cI, 24, .inl (fun zy => nI (ME zy)))), (y6, .inl (cI, 24, .inl MS)), (y3, .inl (cI, 7, .inl MB)), (y4, .inl (cI, 7, .inl MR)), (y30, .inl (cI, 9, .inl (fun zy => nI (DA1 zy)))), (y31, .inl (cI, 9, .inl (fun zy => nI (DA2 zy)))), (y33, .inl (cI, 9, .inl xX.2.2))] H ∧ va_D A [(y, .inr (7, [.int (nI mn), .int mtm, .int mgp, .int mlk, .ref y1, .ref y2, .ref y3, .ref y4, .int (nI mp), .ref y5, .ref y6, .ref y7, .ref y8, .ref y9, .ref y10, .ref y11, .ref y12, .ref y13, .ref y14, .ref y15, .int (nI mq), .ref y16, .ref y17, .ref y18, .ref y19, .ref y20, .ref y21, .ref y22, .ref y23, .ref y24, .ref y25, .ref y26, .ref y27, .int mhw, .int (nI mwn), .ref y28, .ref y29, .ref y30, .ref y31, .ref y32, .ref y33, .ref y34, .ref y35, .ref y36, .int (nI mbm), .ref y37, .ref y38, .int (nI mrm), .int mro, .int mrs])), (y5, .inl (cI, 24, .inl (fun zy => nI (ME zy)))), (y6, .inl (cI, 24, .inl MS)), (y3, .inl (cI, 7, .inl MB)), (y4, .inl (cI, 7, .inl MR)), (y30, .inl (cI, 9, .inl (fun zy => nI (DA1 zy)))), (y31, .inl (cI, 9, .inl (fun zy => nI (DA2 zy)))), (y33, .inl (cI, 9, .inl xX.2.2))] ∧ va_S A s.heap H locs ∧ lv_has ls 6 [(4, .int (dI xX.1)), (3, .int xX.2.1), (1, .int (nI ln)), (0, .ref y)]) (μ := fun xX => xX.1) ?_ (ln, v, DA4) ⟨(by first | omega | (dsimp only; omega)), (by rw [show ln - 1 - ln = 0 by omega]; rfl), cwD_0, hP, hD, hS, lv_sub hl [0, 1, 3, 2] rfl⟩
  intro xX H_1 locs ls hI ih1
  obtain ⟨k_l, sm_v, DA4_1⟩ := xX
  obtain ⟨hk, hsm, hca, hP, hD, hS, hl⟩ := hI
  have hP : va_P D vwCl [(y, .inr (7, [.int (nI mn), .int mtm, .int mgp, .int mlk, .ref y1, .ref y2, .ref y3, .ref y4, .int (nI mp), .ref y5, .ref y6, .ref y7, .ref y8, .ref y9, .ref y10, .ref y11, .ref y12, .ref y13, .ref y14, .ref y15, .int (nI mq), .ref y16, .ref y17, .ref y18, .ref y19, .ref y20, .ref y21, .ref y22, .ref y23, .ref y24, .ref y25, .ref y26, .ref y27, .int mhw, .int (nI mwn), .ref y28, .ref y29, .ref y30, .ref y31, .ref y32, .ref y33, .ref y34, .ref y35, .ref y36, .int (nI mbm), .ref y37, .ref y38, .int (nI mrm), .int mro, .int mrs])), (y5, .inl (cI, 24, .inl (fun zy => nI (ME zy)))), (y6, .inl (cI, 24, .inl MS)), (y3, .inl (cI, 7, .inl MB)), (y4, .inl (cI, 7, .inl MR)), (y30, .inl (cI, 9, .inl (fun zy => nI (DA1 zy)))), (y31, .inl (cI, 9, .inl (fun zy => nI (DA2 zy)))), (y33, .inl (cI, 9, .inl DA4_1))] H_1 := hP
  have hl : lv_has ls 6 [(4, .int (dI k_l)), (3, .int sm_v), (1, .int (nI ln)), (0, .ref y)] := hl
  have hk : k_l ≤ ln := hk
  have hsm : sm_v = cwf ME MB MR (lkB ln DA1 DA2) v (ln - 1 - k_l) := hsm
  have hca : cwD ME MS MB MR ln DA1 DA2 v k_l DA4_1 := hca
  rcases k_l with _ | kk
  · have hl : lv_has ls 6 [(4, .int (-1)), (3, .int sm_v), (1, .int (nI ln)), (0, .ref y)] := hl
    have hP : va_P D vwCl [(y, .inr (7, [.int (nI mn), .int mtm, .int mgp, .int mlk, .ref y1, .ref y2, .ref y3, .ref y4, .int (nI mp), .ref y5, .ref y6, .ref y7, .ref y8, .ref y9, .ref y10, .ref y11, .ref y12, .ref y13, .ref y14, .ref y15, .int (nI mq), .ref y16, .ref y17, .ref y18, .ref y19, .ref y20, .ref y21, .ref y22, .ref y23, .ref y24, .ref y25, .ref y26, .ref y27, .int mhw, .int (nI mwn), .ref y28, .ref y29, .ref y30, .ref y31, .ref y32, .ref y33, .ref y34, .ref y35, .ref y36, .int (nI mbm), .ref y37, .ref y38, .int (nI mrm), .int mro, .int mrs])), (y5, .inl (cI, 24, .inl (fun zy => nI (ME zy)))), (y6, .inl (cI, 24, .inl MS)), (y3, .inl (cI, 7, .inl MB)), (y4, .inl (cI, 7, .inl MR)), (y30, .inl (cI, 9, .inl (fun zy => nI (DA1 zy)))), (y31, .inl (cI, 9, .inl (fun zy => nI (DA2 zy)))), (y33, .inl (cI, 9, .inl DA4_1))] H_1 := hP
    refine lv_iload hx hb d_MO_carried_7 (lv_at hl 0 rfl) ?_
    refine lv_if_lt (tgt := 112) hx hb d_MO_carried_9 (by decide) (fun _ => ?_) (fun h => absurd h (by decide))
    refine lv_iload_n hx hb d_MO_carried_112 rfl (lv_at hl 1 rfl) ?_
    have hP9 := hP.sub (ws' := [(y, .inr (7, [.int (nI mn), .int mtm, .int mgp, .int mlk, .ref y1, .ref y2, .ref y3, .ref y4, .int (nI mp), .ref y5, .ref y6, .ref y7, .ref y8, .ref y9, .ref y10, .ref y11, .ref y12, .ref y13, .ref y14, .ref y15, .int (nI mq), .ref y16, .ref y17, .ref y18, .ref y19, .ref y20, .ref y21, .ref y22, .ref y23, .ref y24, .ref y25, .ref y26, .ref y27, .int mhw, .int (nI mwn), .ref y28, .ref y29, .ref y30, .ref y31, .ref y32, .ref y33, .ref y34, .ref y35, .ref y36, .int (nI mbm), .ref y37, .ref y38, .int (nI mrm), .int mro, .int mrs])), (y5, .inl (cI, 24, .inl (fun zy => nI (ME zy)))), (y6, .inl (cI, 24, .inl MS)), (y3, .inl (cI, 7, .inl MB)), (y4, .inl (cI, 7, .inl MR)), (y30, .inl (cI, 9, .inl (fun zy => nI (DA1 zy)))), (y31, .inl (cI, 9, .inl (fun zy => nI (DA2 zy)))), (y33, .inl (cI, 9, .inl DA4_1))]) [0, 1, 2, 3, 4, 5, 6, 7] rfl
    have hD9 := hD.sub (ws' := [(y, .inr (7, [.int (nI mn), .int mtm, .int mgp, .int mlk, .ref y1, .ref y2, .ref y3, .ref y4, .int (nI mp), .ref y5, .ref y6, .ref y7, .ref y8, .ref y9, .ref y10, .ref y11, .ref y12, .ref y13, .ref y14, .ref y15, .int (nI mq), .ref y16, .ref y17, .ref y18, .ref y19, .ref y20, .ref y21, .ref y22, .ref y23, .ref y24, .ref y25, .ref y26, .ref y27, .int mhw, .int (nI mwn), .ref y28, .ref y29, .ref y30, .ref y31, .ref y32, .ref y33, .ref y34, .ref y35, .ref y36, .int (nI mbm), .ref y37, .ref y38, .int (nI mrm), .int mro, .int mrs])), (y5, .inl (cI, 24, .inl (fun zy => nI (ME zy)))), (y6, .inl (cI, 24, .inl MS)), (y3, .inl (cI, 7, .inl MB)), (y4, .inl (cI, 7, .inl MR)), (y30, .inl (cI, 9, .inl (fun zy => nI (DA1 zy)))), (y31, .inl (cI, 9, .inl (fun zy => nI (DA2 zy)))), (y33, .inl (cI, 9, .inl DA4_1))]) [0, 1, 2, 3, 4, 5, 6, 7] (by decide +kernel) rfl
    refine W.widen (k := 0) (n := 0) (Nat.le_of_ble_eq_true rfl) (Nat.le_of_ble_eq_true rfl) ?_
    exact W.iret (v := sm_v) hx hb hr (fun tT ht hW => ⟨⟨sm_v, DA4_1, rfl, (Or.inr (⟨sm_v, hca, hsm, rfl⟩)), by rw [ht]; exact hP9, hD9⟩, hS.F ht⟩) hS.2.2 d_MO_carried_113
  · have hl : lv_has ls 6 [(4, .int (nI kk)), (3, .int sm_v), (1, .int (nI ln)), (0, .ref y)] := by rw [← dI_s]; exact hl
    refine lv_iload hx hb d_MO_carried_7 (lv_at hl 0 rfl) ?_
    refine lv_if_lt (tgt := 112) hx hb d_MO_carried_9 (by decide) (fun h => absurd h (nI_pos (by omega))) (fun _ => ?_)
    refine lv_iload hx hb d_MO_carried_12 (lv_at hl 0 rfl) ?_
    refine lv_iload_n hx hb d_MO_carried_14 rfl (lv_at hl 2 rfl) ?_
    refine lv_iconst (v := 1) hx hb d_MO_carried_15 (by decide) ?_
    refine lv_isub hx hb d_MO_carried_16 ?_
    refine lv_seti (nI (ln - 1)) (pk_sub (a := ln) (b := 1) (by omega)) ?_
    refine lv_icmp_ge (tgt := 70) hx hb d_MO_carried_17 (by decide) (fun h_3 => ?_) (fun h_3 => ?_)
    · have nh_3 : (ln - 1) ≤ kk := (nI_leI (a := (ln - 1)) (b := kk) (by omega) (by omega)).mp h_3
      have hval : sm_v = cwf ME MB MR (lkB ln DA1 DA2) v (ln - 1 - kk) := cw_l (by omega) hsm
      refine lv_aload_n hx hb d_MO_carried_70 rfl (lv_at hl 3 rfl) ?_
      refine va_get (D := D) (ci := 7) (v := .ref y33) (C := R_MO) (T := F_MO) (N := 50) hx hb hts i_MO hown hK hP 0 rfl rfl 40 (by decide) (hts _ q_672) (fun _ h9 => h9) rfl d_MO_carried_71 ?_
      refine lv_iload hx hb d_MO_carried_74 (lv_at hl 0 rfl) ?_
      refine lv_iload_n hx hb d_MO_carried_76 rfl (lv_at hl 1 rfl) ?_
      refine my_stI hx hb hK hP hD hS 7 rfl kk rfl (by omega) (by decide) d_MO_carried_77 (fun H_4 locs hP hD hS => ?_)
      have hP : va_P D vwCl [(y, .inr (7, [.int (nI mn), .int mtm, .int mgp, .int mlk, .ref y1, .ref y2, .ref y3, .ref y4, .int (nI mp), .ref y5, .ref y6, .ref y7, .ref y8, .ref y9, .ref y10, .ref y11, .ref y12, .ref y13, .ref y14, .ref y15, .int (nI mq), .ref y16, .ref y17, .ref y18, .ref y19, .ref y20, .ref y21, .ref y22, .ref y23, .ref y24, .ref y25, .ref y26, .ref y27, .int mhw, .int (nI mwn), .ref y28, .ref y29, .ref y30, .ref y31, .ref y32, .ref y33, .ref y34, .ref y35, .ref y36, .int (nI mbm), .ref y37, .ref y38, .int (nI mrm), .int mro, .int mrs])), (y5, .inl (cI, 24, .inl (fun zy => nI (ME zy)))), (y6, .inl (cI, 24, .inl MS)), (y3, .inl (cI, 7, .inl MB)), (y4, .inl (cI, 7, .inl MR)), (y30, .inl (cI, 9, .inl (fun zy => nI (DA1 zy)))), (y31, .inl (cI, 9, .inl (fun zy => nI (DA2 zy)))), (y33, .inl (cI, 9, .inl (upd DA4_1 kk sm_v)))] H_4 := hP
      refine lv_iload_n hx hb d_MO_carried_78 rfl (lv_at hl 1 rfl) ?_
      refine lv_aload_n hx hb d_MO_carried_79 rfl (lv_at hl 3 rfl) ?_
      refine va_get (D := D) (ci := 7) (v := .ref y6) (C := R_MO) (T := F_MO) (N := 50) hx hb hts i_MO hown hK hP 0 rfl rfl 10 (by decide) (hts _ q_642) (fun _ h9 => h9) rfl d_MO_carried_80 ?_
      refine lv_iconst (v := 2) hx hb d_MO_carried_83 (by decide) ?_
      refine lv_aload_n hx hb d_MO_carried_84 rfl (lv_at hl 3 rfl) ?_
      refine va_get (D := D) (ci := 7) (v := .ref y30) (C := R_MO) (T := F_MO) (N := 50) hx hb hts i_MO hown hK hP 0 rfl rfl 37 (by decide) (hts _ q_669) (fun _ h9 => h9) rfl d_MO_carried_85 ?_
      refine lv_iload hx hb d_MO_carried_88 (lv_at hl 0 rfl) ?_
      refine my_ldN hx hb hK hP 5 rfl kk rfl (by omega) (by decide) d_MO_carried_90 ?_
      have hb_1 : DA1 kk ≤ 11 := h_DA1 _
      refine lv_imul hx hb d_MO_carried_91 ?_
      refine lv_seti (nI (2 * (DA1 kk))) (pk_mul 2 (DA1 kk)) ?_
      refine lv_aload_n hx hb d_MO_carried_92 rfl (lv_at hl 3 rfl) ?_
      refine va_get (D := D) (ci := 7) (v := .ref y31) (C := R_MO) (T := F_MO) (N := 50) hx hb hts i_MO hown hK hP 0 rfl rfl 38 (by decide) (hts _ q_670) (fun _ h9 => h9) rfl d_MO_carried_93 ?_
      refine lv_iload hx hb d_MO_carried_96 (lv_at hl 0 rfl) ?_
      refine my_ldN hx hb hK hP 6 rfl kk rfl (by omega) (by decide) d_MO_carried_98 ?_
      have hb_2 : DA2 kk ≤ 1 := h_DA2 _
      refine lv_iadd hx hb d_MO_carried_99 ?_
      refine lv_seti (nI ((2 * (DA1 kk)) + (DA2 kk))) (nI_add (2 * (DA1 kk)) (DA2 kk)) ?_
      refine my_ldI hx hb hK hP 2 rfl ((2 * (DA1 kk)) + (DA2 kk)) rfl (by omega) (by decide) d_MO_carried_100 ?_
      refine lv_icmp_le (tgt := 106) hx hb d_MO_carried_101 (by decide) (fun h_5 => ?_) (fun h_5 => ?_)
      · refine lv_iinc (v := dI kk) (lv' := [(4, .int (dI kk)), (3, .int sm_v), (1, .int (nI ln)), (0, .ref y)]) hx hb d_MO_carried_106 hl (k := 0) rfl (rfl) (by decide) rfl (fun ls hl => ?_)
        refine lv_goto (tgt := 7) hx hb d_MO_carried_109 (by decide) ?_
        have hPz := hP.sub (ws' := [(y, .inr (7, [.int (nI mn), .int mtm, .int mgp, .int mlk, .ref y1, .ref y2, .ref y3, .ref y4, .int (nI mp), .ref y5, .ref y6, .ref y7, .ref y8, .ref y9, .ref y10, .ref y11, .ref y12, .ref y13, .ref y14, .ref y15, .int (nI mq), .ref y16, .ref y17, .ref y18, .ref y19, .ref y20, .ref y21, .ref y22, .ref y23, .ref y24, .ref y25, .ref y26, .ref y27, .int mhw, .int (nI mwn), .ref y28, .ref y29, .ref y30, .ref y31, .ref y32, .ref y33, .ref y34, .ref y35, .ref y36, .int (nI mbm), .ref y37, .ref y38, .int (nI mrm), .int mro, .int mrs])), (y5, .inl (cI, 24, .inl (fun zy => nI (ME zy)))), (y6, .inl (cI, 24, .inl MS)), (y3, .inl (cI, 7, .inl MB)), (y4, .inl (cI, 7, .inl MR)), (y30, .inl (cI, 9, .inl (fun zy => nI (DA1 zy)))), (y31, .inl (cI, 9, .inl (fun zy => nI (DA2 zy)))), (y33, .inl (cI, 9, .inl (upd DA4_1 kk sm_v)))]) [0, 1, 2, 3, 4, 5, 6, 7] rfl
        have hDz := hD.sub (ws' := [(y, .inr (7, [.int (nI mn), .int mtm, .int mgp, .int mlk, .ref y1, .ref y2, .ref y3, .ref y4, .int (nI mp), .ref y5, .ref y6, .ref y7, .ref y8, .ref y9, .ref y10, .ref y11, .ref y12, .ref y13, .ref y14, .ref y15, .int (nI mq), .ref y16, .ref y17, .ref y18, .ref y19, .ref y20, .ref y21, .ref y22, .ref y23, .ref y24, .ref y25, .ref y26, .ref y27, .int mhw, .int (nI mwn), .ref y28, .ref y29, .ref y30, .ref y31, .ref y32, .ref y33, .ref y34, .ref y35, .ref y36, .int (nI mbm), .ref y37, .ref y38, .int (nI mrm), .int mro, .int mrs])), (y5, .inl (cI, 24, .inl (fun zy => nI (ME zy)))), (y6, .inl (cI, 24, .inl MS)), (y3, .inl (cI, 7, .inl MB)), (y4, .inl (cI, 7, .inl MR)), (y30, .inl (cI, 9, .inl (fun zy => nI (DA1 zy)))), (y31, .inl (cI, 9, .inl (fun zy => nI (DA2 zy)))), (y33, .inl (cI, 9, .inl (upd DA4_1 kk sm_v)))]) [0, 1, 2, 3, 4, 5, 6, 7] (by decide) rfl
        exact ih1 (kk, sm_v, (upd DA4_1 kk sm_v)) _ _ _ (by first | omega | (dsimp only; omega)) ⟨(by first | omega | (dsimp only; omega)), hval, (cwD_s hca hval (Int32.not_lt.mpr h_5)), hPz, hDz, hS, lv_sub hl [0, 1, 2, 3] rfl⟩
      · refine lv_iconst (v := (-1)) hx hb d_MO_carried_104 (by decide) ?_
        have hP9 := hP.sub (ws' := [(y, .inr (7, [.int (nI mn), .int mtm, .int mgp, .int mlk, .ref y1, .ref y2, .ref y3, .ref y4, .int (nI mp), .ref y5, .ref y6, .ref y7, .ref y8, .ref y9, .ref y10, .ref y11, .ref y12, .ref y13, .ref y14, .ref y15, .int (nI mq), .ref y16, .ref y17, .ref y18, .ref y19, .ref y20, .ref y21, .ref y22, .ref y23, .ref y24, .ref y25, .ref y26, .ref y27, .int mhw, .int (nI mwn), .ref y28, .ref y29, .ref y30, .ref y31, .ref y32, .ref y33, .ref y34, .ref y35, .ref y36, .int (nI mbm), .ref y37, .ref y38, .int (nI mrm), .int mro, .int mrs])), (y5, .inl (cI, 24, .inl (fun zy => nI (ME zy)))), (y6, .inl (cI, 24, .inl MS)), (y3, .inl (cI, 7, .inl MB)), (y4, .inl (cI, 7, .inl MR)), (y30, .inl (cI, 9, .inl (fun zy => nI (DA1 zy)))), (y31, .inl (cI, 9, .inl (fun zy => nI (DA2 zy)))), (y33, .inl (cI, 9, .inl (upd DA4_1 kk sm_v)))]) [0, 1, 2, 3, 4, 5, 6, 7] rfl
        have hD9 := hD.sub (ws' := [(y, .inr (7, [.int (nI mn), .int mtm, .int mgp, .int mlk, .ref y1, .ref y2, .ref y3, .ref y4, .int (nI mp), .ref y5, .ref y6, .ref y7, .ref y8, .ref y9, .ref y10, .ref y11, .ref y12, .ref y13, .ref y14, .ref y15, .int (nI mq), .ref y16, .ref y17, .ref y18, .ref y19, .ref y20, .ref y21, .ref y22, .ref y23, .ref y24, .ref y25, .ref y26, .ref y27, .int mhw, .int (nI mwn), .ref y28, .ref y29, .ref y30, .ref y31, .ref y32, .ref y33, .ref y34, .ref y35, .ref y36, .int (nI mbm), .ref y37, .ref y38, .int (nI mrm), .int mro, .int mrs])), (y5, .inl (cI, 24, .inl (fun zy => nI (ME zy)))), (y6, .inl (cI, 24, .inl MS)), (y3, .inl (cI, 7, .inl MB)), (y4, .inl (cI, 7, .inl MR)), (y30, .inl (cI, 9, .inl (fun zy => nI (DA1 zy)))), (y31, .inl (cI, 9, .inl (fun zy => nI (DA2 zy)))), (y33, .inl (cI, 9, .inl (upd DA4_1 kk sm_v)))]) [0, 1, 2, 3, 4, 5, 6, 7] (by decide +kernel) rfl
        refine W.widen (k := 0) (n := 0) (Nat.le_of_ble_eq_true rfl) (Nat.le_of_ble_eq_true rfl) ?_
        exact W.iret (v := (-1)) hx hb hr (fun tT ht hW => ⟨⟨(-1), (upd DA4_1 kk sm_v), rfl, (Or.inl (⟨⟨kk, by omega, by rw [← hval]; exact (Int32.not_le.mp h_5)⟩, rfl⟩)), by rw [ht]; exact hP9, hD9⟩, hS.F ht⟩) hS.2.2 d_MO_carried_105
    · have nh_3 : ¬ (ln - 1) ≤ kk := fun qZ => h_3 ((nI_leI (a := (ln - 1)) (b := kk) (by omega) (by omega)).mpr qZ)
      refine lv_aload_n hx hb d_MO_carried_20 rfl (lv_at hl 3 rfl) ?_
      refine va_get (D := D) (ci := 7) (v := .ref y5) (C := R_MO) (T := F_MO) (N := 50) hx hb hts i_MO hown hK hP 0 rfl rfl 9 (by decide) (hts _ q_641) (fun _ h9 => h9) rfl d_MO_carried_21 ?_
      refine lv_iconst (v := 2) hx hb d_MO_carried_24 (by decide) ?_
      refine lv_aload_n hx hb d_MO_carried_25 rfl (lv_at hl 3 rfl) ?_
      refine va_get (D := D) (ci := 7) (v := .ref y30) (C := R_MO) (T := F_MO) (N := 50) hx hb hts i_MO hown hK hP 0 rfl rfl 37 (by decide) (hts _ q_669) (fun _ h9 => h9) rfl d_MO_carried_26 ?_
      refine lv_iload hx hb d_MO_carried_29 (lv_at hl 0 rfl) ?_
      refine my_ldN hx hb hK hP 5 rfl kk rfl (by omega) (by decide) d_MO_carried_31 ?_
      have hb_1 : DA1 kk ≤ 11 := h_DA1 _
      refine lv_imul hx hb d_MO_carried_32 ?_
      refine lv_seti (nI (2 * (DA1 kk))) (pk_mul 2 (DA1 kk)) ?_
      refine lv_iconst (v := 1) hx hb d_MO_carried_33 (by decide) ?_
      refine lv_iadd hx hb d_MO_carried_34 ?_
      refine lv_seti (nI ((2 * (DA1 kk)) + 1)) (nI_add (2 * (DA1 kk)) 1) ?_
      refine lv_aload_n hx hb d_MO_carried_35 rfl (lv_at hl 3 rfl) ?_
      refine va_get (D := D) (ci := 7) (v := .ref y31) (C := R_MO) (T := F_MO) (N := 50) hx hb hts i_MO hown hK hP 0 rfl rfl 38 (by decide) (hts _ q_670) (fun _ h9 => h9) rfl d_MO_carried_36 ?_
      refine lv_iload hx hb d_MO_carried_39 (lv_at hl 0 rfl) ?_
      refine my_ldN hx hb hK hP 6 rfl kk rfl (by omega) (by decide) d_MO_carried_41 ?_
      have hb_2 : DA2 kk ≤ 1 := h_DA2 _
      refine lv_isub hx hb d_MO_carried_42 ?_
      refine lv_seti (nI (((2 * (DA1 kk)) + 1) - (DA2 kk))) (pk_sub (a := ((2 * (DA1 kk)) + 1)) (b := (DA2 kk)) (by omega)) ?_
      refine my_ldN hx hb hK hP 1 rfl (((2 * (DA1 kk)) + 1) - (DA2 kk)) rfl (by omega) (by decide) d_MO_carried_43 ?_
      have hb_3 : ME (((2 * (DA1 kk)) + 1) - (DA2 kk)) ≤ 6 := h_ME _
      refine lv_istore (lv' := [(5, .int (nI (ME (((2 * (DA1 kk)) + 1) - (DA2 kk))))), (4, .int (nI kk)), (3, .int sm_v), (1, .int (nI ln)), (0, .ref y)]) hx hb d_MO_carried_44 hl (by decide) rfl (fun ls hl => ?_)
      refine lv_iload_n hx hb d_MO_carried_46 rfl (lv_at hl 2 rfl) ?_
      refine lv_aload_n hx hb d_MO_carried_47 rfl (lv_at hl 4 rfl) ?_
      refine va_get (D := D) (ci := 7) (v := .ref y3) (C := R_MO) (T := F_MO) (N := 50) hx hb hts i_MO hown hK hP 0 rfl rfl 6 (by decide) (hts _ q_638) (fun _ h9 => h9) rfl d_MO_carried_48 ?_
      refine lv_iload hx hb d_MO_carried_51 (lv_at hl 0 rfl) ?_
      refine my_ldI hx hb hK hP 3 rfl (ME (((2 * (DA1 kk)) + 1) - (DA2 kk))) rfl (by omega) (by decide) d_MO_carried_53 ?_
      refine lv_iadd hx hb d_MO_carried_54 ?_
      refine lv_iload_n hx hb d_MO_carried_55 rfl (lv_at hl 2 rfl) ?_
      refine lv_aload_n hx hb d_MO_carried_56 rfl (lv_at hl 4 rfl) ?_
      refine va_get (D := D) (ci := 7) (v := .ref y4) (C := R_MO) (T := F_MO) (N := 50) hx hb hts i_MO hown hK hP 0 rfl rfl 7 (by decide) (hts _ q_639) (fun _ h9 => h9) rfl d_MO_carried_57 ?_
      refine lv_iload hx hb d_MO_carried_60 (lv_at hl 0 rfl) ?_
      refine my_ldI hx hb hK hP 4 rfl (ME (((2 * (DA1 kk)) + 1) - (DA2 kk))) rfl (by omega) (by decide) d_MO_carried_62 ?_
      refine lv_imul hx hb d_MO_carried_63 ?_
      refine lv_sipush (v := 1000) hx hb d_MO_carried_64 (by decide) ?_
      refine lv_idiv hx hb d_MO_carried_67 (by decide) ?_
      refine lv_iadd hx hb d_MO_carried_68 ?_
      refine lv_istore_n (lv' := [(3, .int ((sm_v + (MB (ME (((2 * (DA1 kk)) + 1) - (DA2 kk))))) + ((sm_v * (MR (ME (((2 * (DA1 kk)) + 1) - (DA2 kk))))) / 1000))), (5, .int (nI (ME (((2 * (DA1 kk)) + 1) - (DA2 kk))))), (4, .int (nI kk)), (1, .int (nI ln)), (0, .ref y)]) hx hb d_MO_carried_69 rfl hl (by decide) rfl (fun ls hl => ?_)
      have hbt : ME (2 * DA1 kk + 1 - DA2 kk) = ME (2 * DA1 (kk + 1) + DA2 (kk + 1)) := by rw [← hch kk (by omega), oth_code (h_DA2 _), side_1 (h_DA2 _)]
      have hval : (sm_v + (MB (ME (((2 * (DA1 kk)) + 1) - (DA2 kk))))) + ((sm_v * (MR (ME (((2 * (DA1 kk)) + 1) - (DA2 kk))))) / 1000) = cwf ME MB MR (lkB ln DA1 DA2) v (ln - 1 - kk) := cw_m (by omega) hsm hbt
      refine lv_aload_n hx hb d_MO_carried_70 rfl (lv_at hl 4 rfl) ?_
      refine va_get (D := D) (ci := 7) (v := .ref y33) (C := R_MO) (T := F_MO) (N := 50) hx hb hts i_MO hown hK hP 0 rfl rfl 40 (by decide) (hts _ q_672) (fun _ h9 => h9) rfl d_MO_carried_71 ?_
      refine lv_iload hx hb d_MO_carried_74 (lv_at hl 2 rfl) ?_
      refine lv_iload_n hx hb d_MO_carried_76 rfl (lv_at hl 0 rfl) ?_
      refine my_stI hx hb hK hP hD hS 7 rfl kk rfl (by omega) (by decide) d_MO_carried_77 (fun H_6 locs hP hD hS => ?_)
      have hP : va_P D vwCl [(y, .inr (7, [.int (nI mn), .int mtm, .int mgp, .int mlk, .ref y1, .ref y2, .ref y3, .ref y4, .int (nI mp), .ref y5, .ref y6, .ref y7, .ref y8, .ref y9, .ref y10, .ref y11, .ref y12, .ref y13, .ref y14, .ref y15, .int (nI mq), .ref y16, .ref y17, .ref y18, .ref y19, .ref y20, .ref y21, .ref y22, .ref y23, .ref y24, .ref y25, .ref y26, .ref y27, .int mhw, .int (nI mwn), .ref y28, .ref y29, .ref y30, .ref y31, .ref y32, .ref y33, .ref y34, .ref y35, .ref y36, .int (nI mbm), .ref y37, .ref y38, .int (nI mrm), .int mro, .int mrs])), (y5, .inl (cI, 24, .inl (fun zy => nI (ME zy)))), (y6, .inl (cI, 24, .inl MS)), (y3, .inl (cI, 7, .inl MB)), (y4, .inl (cI, 7, .inl MR)), (y30, .inl (cI, 9, .inl (fun zy => nI (DA1 zy)))), (y31, .inl (cI, 9, .inl (fun zy => nI (DA2 zy)))), (y33, .inl (cI, 9, .inl (upd DA4_1 kk ((sm_v + (MB (ME (((2 * (DA1 kk)) + 1) - (DA2 kk))))) + ((sm_v * (MR (ME (((2 * (DA1 kk)) + 1) - (DA2 kk))))) / 1000)))))] H_6 := hP
      refine lv_iload_n hx hb d_MO_carried_78 rfl (lv_at hl 0 rfl) ?_
      refine lv_aload_n hx hb d_MO_carried_79 rfl (lv_at hl 4 rfl) ?_
      refine va_get (D := D) (ci := 7) (v := .ref y6) (C := R_MO) (T := F_MO) (N := 50) hx hb hts i_MO hown hK hP 0 rfl rfl 10 (by decide) (hts _ q_642) (fun _ h9 => h9) rfl d_MO_carried_80 ?_
      refine lv_iconst (v := 2) hx hb d_MO_carried_83 (by decide) ?_
      refine lv_aload_n hx hb d_MO_carried_84 rfl (lv_at hl 4 rfl) ?_
      refine va_get (D := D) (ci := 7) (v := .ref y30) (C := R_MO) (T := F_MO) (N := 50) hx hb hts i_MO hown hK hP 0 rfl rfl 37 (by decide) (hts _ q_669) (fun _ h9 => h9) rfl d_MO_carried_85 ?_
      refine lv_iload hx hb d_MO_carried_88 (lv_at hl 2 rfl) ?_
      refine my_ldN hx hb hK hP 5 rfl kk rfl (by omega) (by decide) d_MO_carried_90 ?_
      have hb_4 : DA1 kk ≤ 11 := h_DA1 _
      refine lv_imul hx hb d_MO_carried_91 ?_
      refine lv_seti (nI (2 * (DA1 kk))) (pk_mul 2 (DA1 kk)) ?_
      refine lv_aload_n hx hb d_MO_carried_92 rfl (lv_at hl 4 rfl) ?_
      refine va_get (D := D) (ci := 7) (v := .ref y31) (C := R_MO) (T := F_MO) (N := 50) hx hb hts i_MO hown hK hP 0 rfl rfl 38 (by decide) (hts _ q_670) (fun _ h9 => h9) rfl d_MO_carried_93 ?_
      refine lv_iload hx hb d_MO_carried_96 (lv_at hl 2 rfl) ?_
      refine my_ldN hx hb hK hP 6 rfl kk rfl (by omega) (by decide) d_MO_carried_98 ?_
      have hb_5 : DA2 kk ≤ 1 := h_DA2 _
      refine lv_iadd hx hb d_MO_carried_99 ?_
      refine lv_seti (nI ((2 * (DA1 kk)) + (DA2 kk))) (nI_add (2 * (DA1 kk)) (DA2 kk)) ?_
      refine my_ldI hx hb hK hP 2 rfl ((2 * (DA1 kk)) + (DA2 kk)) rfl (by omega) (by decide) d_MO_carried_100 ?_
      refine lv_icmp_le (tgt := 106) hx hb d_MO_carried_101 (by decide) (fun h_7 => ?_) (fun h_7 => ?_)
      · refine lv_iinc (v := dI kk) (lv' := [(4, .int (dI kk)), (3, .int ((sm_v + (MB (ME (((2 * (DA1 kk)) + 1) - (DA2 kk))))) + ((sm_v * (MR (ME (((2 * (DA1 kk)) + 1) - (DA2 kk))))) / 1000))), (5, .int (nI (ME (((2 * (DA1 kk)) + 1) - (DA2 kk))))), (1, .int (nI ln)), (0, .ref y)]) hx hb d_MO_carried_106 hl (k := 2) rfl (rfl) (by decide) rfl (fun ls hl => ?_)
        refine lv_goto (tgt := 7) hx hb d_MO_carried_109 (by decide) ?_
        have hPz := hP.sub (ws' := [(y, .inr (7, [.int (nI mn), .int mtm, .int mgp, .int mlk, .ref y1, .ref y2, .ref y3, .ref y4, .int (nI mp), .ref y5, .ref y6, .ref y7, .ref y8, .ref y9, .ref y10, .ref y11, .ref y12, .ref y13, .ref y14, .ref y15, .int (nI mq), .ref y16, .ref y17, .ref y18, .ref y19, .ref y20, .ref y21, .ref y22, .ref y23, .ref y24, .ref y25, .ref y26, .ref y27, .int mhw, .int (nI mwn), .ref y28, .ref y29, .ref y30, .ref y31, .ref y32, .ref y33, .ref y34, .ref y35, .ref y36, .int (nI mbm), .ref y37, .ref y38, .int (nI mrm), .int mro, .int mrs])), (y5, .inl (cI, 24, .inl (fun zy => nI (ME zy)))), (y6, .inl (cI, 24, .inl MS)), (y3, .inl (cI, 7, .inl MB)), (y4, .inl (cI, 7, .inl MR)), (y30, .inl (cI, 9, .inl (fun zy => nI (DA1 zy)))), (y31, .inl (cI, 9, .inl (fun zy => nI (DA2 zy)))), (y33, .inl (cI, 9, .inl (upd DA4_1 kk ((sm_v + (MB (ME (((2 * (DA1 kk)) + 1) - (DA2 kk))))) + ((sm_v * (MR (ME (((2 * (DA1 kk)) + 1) - (DA2 kk))))) / 1000)))))]) [0, 1, 2, 3, 4, 5, 6, 7] rfl
        have hDz := hD.sub (ws' := [(y, .inr (7, [.int (nI mn), .int mtm, .int mgp, .int mlk, .ref y1, .ref y2, .ref y3, .ref y4, .int (nI mp), .ref y5, .ref y6, .ref y7, .ref y8, .ref y9, .ref y10, .ref y11, .ref y12, .ref y13, .ref y14, .ref y15, .int (nI mq), .ref y16, .ref y17, .ref y18, .ref y19, .ref y20, .ref y21, .ref y22, .ref y23, .ref y24, .ref y25, .ref y26, .ref y27, .int mhw, .int (nI mwn), .ref y28, .ref y29, .ref y30, .ref y31, .ref y32, .ref y33, .ref y34, .ref y35, .ref y36, .int (nI mbm), .ref y37, .ref y38, .int (nI mrm), .int mro, .int mrs])), (y5, .inl (cI, 24, .inl (fun zy => nI (ME zy)))), (y6, .inl (cI, 24, .inl MS)), (y3, .inl (cI, 7, .inl MB)), (y4, .inl (cI, 7, .inl MR)), (y30, .inl (cI, 9, .inl (fun zy => nI (DA1 zy)))), (y31, .inl (cI, 9, .inl (fun zy => nI (DA2 zy)))), (y33, .inl (cI, 9, .inl (upd DA4_1 kk ((sm_v + (MB (ME (((2 * (DA1 kk)) + 1) - (DA2 kk))))) + ((sm_v * (MR (ME (((2 * (DA1 kk)) + 1) - (DA2 kk))))) / 1000)))))]) [0, 1, 2, 3, 4, 5, 6, 7] (by decide) rfl
        exact ih1 (kk, (sm_v + (MB (ME (((2 * (DA1 kk)) + 1) - (DA2 kk))))) + ((sm_v * (MR (ME (((2 * (DA1 kk)) + 1) - (DA2 kk))))) / 1000), (upd DA4_1 kk ((sm_v + (MB (ME (((2 * (DA1 kk)) + 1) - (DA2 kk))))) + ((sm_v * (MR (ME (((2 * (DA1 kk)) + 1) - (DA2 kk))))) / 1000)))) _ _ _ (by first | omega | (dsimp only; omega)) ⟨(by first | omega | (dsimp only; omega)), hval, (cwD_s hca hval (Int32.not_lt.mpr h_7)), hPz, hDz, hS, lv_sub hl [0, 1, 3, 4] rfl⟩
      · refine lv_iconst (v := (-1)) hx hb d_MO_carried_104 (by decide) ?_
        have hP9 := hP.sub (ws' := [(y, .inr (7, [.int (nI mn), .int mtm, .int mgp, .int mlk, .ref y1, .ref y2, .ref y3, .ref y4, .int (nI mp), .ref y5, .ref y6, .ref y7, .ref y8, .ref y9, .ref y10, .ref y11, .ref y12, .ref y13, .ref y14, .ref y15, .int (nI mq), .ref y16, .ref y17, .ref y18, .ref y19, .ref y20, .ref y21, .ref y22, .ref y23, .ref y24, .ref y25, .ref y26, .ref y27, .int mhw, .int (nI mwn), .ref y28, .ref y29, .ref y30, .ref y31, .ref y32, .ref y33, .ref y34, .ref y35, .ref y36, .int (nI mbm), .ref y37, .ref y38, .int (nI mrm), .int mro, .int mrs])), (y5, .inl (cI, 24, .inl (fun zy => nI (ME zy)))), (y6, .inl (cI, 24, .inl MS)), (y3, .inl (cI, 7, .inl MB)), (y4, .inl (cI, 7, .inl MR)), (y30, .inl (cI, 9, .inl (fun zy => nI (DA1 zy)))), (y31, .inl (cI, 9, .inl (fun zy => nI (DA2 zy)))), (y33, .inl (cI, 9, .inl (upd DA4_1 kk ((sm_v + (MB (ME (((2 * (DA1 kk)) + 1) - (DA2 kk))))) + ((sm_v * (MR (ME (((2 * (DA1 kk)) + 1) - (DA2 kk))))) / 1000)))))]) [0, 1, 2, 3, 4, 5, 6, 7] rfl
        have hD9 := hD.sub (ws' := [(y, .inr (7, [.int (nI mn), .int mtm, .int mgp, .int mlk, .ref y1, .ref y2, .ref y3, .ref y4, .int (nI mp), .ref y5, .ref y6, .ref y7, .ref y8, .ref y9, .ref y10, .ref y11, .ref y12, .ref y13, .ref y14, .ref y15, .int (nI mq), .ref y16, .ref y17, .ref y18, .ref y19, .ref y20, .ref y21, .ref y22, .ref y23, .ref y24, .ref y25, .ref y26, .ref y27, .int mhw, .int (nI mwn), .ref y28, .ref y29, .ref y30, .ref y31, .ref y32, .ref y33, .ref y34, .ref y35, .ref y36, .int (nI mbm), .ref y37, .ref y38, .int (nI mrm), .int mro, .int mrs])), (y5, .inl (cI, 24, .inl (fun zy => nI (ME zy)))), (y6, .inl (cI, 24, .inl MS)), (y3, .inl (cI, 7, .inl MB)), (y4, .inl (cI, 7, .inl MR)), (y30, .inl (cI, 9, .inl (fun zy => nI (DA1 zy)))), (y31, .inl (cI, 9, .inl (fun zy => nI (DA2 zy)))), (y33, .inl (cI, 9, .inl (upd DA4_1 kk ((sm_v + (MB (ME (((2 * (DA1 kk)) + 1) - (DA2 kk))))) + ((sm_v * (MR (ME (((2 * (DA1 kk)) + 1) - (DA2 kk))))) / 1000)))))]) [0, 1, 2, 3, 4, 5, 6, 7] (by decide +kernel) rfl
        refine W.widen (k := 0) (n := 0) (Nat.le_of_ble_eq_true rfl) (Nat.le_of_ble_eq_true rfl) ?_
        exact W.iret (v := (-1)) hx hb hr (fun tT ht hW => ⟨⟨(-1), (upd DA4_1 kk ((sm_v + (MB (ME (((2 * (DA1 kk)) + 1) - (DA2 kk))))) + ((sm_v * (MR (ME (((2 * (DA1 kk)) + 1) - (DA2 kk))))) / 1000))), rfl, (Or.inl (⟨⟨kk, by omega, by rw [← hval]; exact (Int32.not_le.mp h_7)⟩, rfl⟩)), by rw [ht]; exact hP9, hD9⟩, hS.F ht⟩) hS.2.2 d_MO_carried_105
