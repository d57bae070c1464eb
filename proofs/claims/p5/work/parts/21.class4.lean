theorem d_PC_withPair_0 : decode prog_1_method_27_code 0 = .ok (.lload_n 1, 1) := by decide +kernel
theorem d_PC_withPair_1 : decode prog_1_method_27_code 1 = .ok (.lstore 4, 2) := by decide +kernel
theorem d_PC_withPair_3 : decode prog_1_method_27_code 3 = .ok (.iconst 0, 1) := by decide +kernel
theorem d_PC_withPair_4 : decode prog_1_method_27_code 4 = .ok (.istore 6, 2) := by decide +kernel
theorem d_PC_withPair_6 : decode prog_1_method_27_code 6 = .ok (.iload 6, 2) := by decide +kernel
theorem d_PC_withPair_8 : decode prog_1_method_27_code 8 = .ok (.iconst 4, 1) := by decide +kernel
theorem d_PC_withPair_9 : decode prog_1_method_27_code 9 = .ok (.if_icmp .gt 26, 3) := by decide +kernel
theorem d_PC_withPair_35 : decode prog_1_method_27_code 35 = .ok (.ldc2_w 244, 3) := by decide +kernel
theorem d_PC_withPair_38 : decode prog_1_method_27_code 38 = .ok (.lload 4, 2) := by decide +kernel
theorem d_PC_withPair_40 : decode prog_1_method_27_code 40 = .ok (.lmul, 1) := by decide +kernel
theorem d_PC_withPair_41 : decode prog_1_method_27_code 41 = .ok (.aload_n 0, 1) := by decide +kernel
theorem d_PC_withPair_42 : decode prog_1_method_27_code 42 = .ok (.iload_n 3, 1) := by decide +kernel
theorem d_PC_withPair_43 : decode prog_1_method_27_code 43 = .ok (.iconst 0, 1) := by decide +kernel
theorem d_PC_withPair_44 : decode prog_1_method_27_code 44 = .ok (.invokevirtual 262, 3) := by decide +kernel
theorem d_PC_withPair_47 : decode prog_1_method_27_code 47 = .ok (.i2l, 1) := by decide +kernel
theorem d_PC_withPair_48 : decode prog_1_method_27_code 48 = .ok (.ladd, 1) := by decide +kernel
theorem d_PC_withPair_49 : decode prog_1_method_27_code 49 = .ok (.lstore 4, 2) := by decide +kernel
theorem d_PC_withPair_51 : decode prog_1_method_27_code 51 = .ok (.ldc2_w 244, 3) := by decide +kernel
theorem d_PC_withPair_54 : decode prog_1_method_27_code 54 = .ok (.lload 4, 2) := by decide +kernel
theorem d_PC_withPair_56 : decode prog_1_method_27_code 56 = .ok (.lmul, 1) := by decide +kernel
theorem d_PC_withPair_57 : decode prog_1_method_27_code 57 = .ok (.aload_n 0, 1) := by decide +kernel
theorem d_PC_withPair_58 : decode prog_1_method_27_code 58 = .ok (.iload_n 3, 1) := by decide +kernel
theorem d_PC_withPair_59 : decode prog_1_method_27_code 59 = .ok (.iconst 1, 1) := by decide +kernel
theorem d_PC_withPair_60 : decode prog_1_method_27_code 60 = .ok (.invokevirtual 262, 3) := by decide +kernel
theorem d_PC_withPair_63 : decode prog_1_method_27_code 63 = .ok (.i2l, 1) := by decide +kernel
theorem d_PC_withPair_64 : decode prog_1_method_27_code 64 = .ok (.ladd, 1) := by decide +kernel
theorem d_PC_withPair_65 : decode prog_1_method_27_code 65 = .ok (.lstore 4, 2) := by decide +kernel
theorem d_PC_withPair_67 : decode prog_1_method_27_code 67 = .ok (.ldc2_w 244, 3) := by decide +kernel
theorem d_PC_withPair_70 : decode prog_1_method_27_code 70 = .ok (.lload 4, 2) := by decide +kernel
theorem d_PC_withPair_72 : decode prog_1_method_27_code 72 = .ok (.lmul, 1) := by decide +kernel
theorem d_PC_withPair_73 : decode prog_1_method_27_code 73 = .ok (.aload_n 0, 1) := by decide +kernel
theorem d_PC_withPair_74 : decode prog_1_method_27_code 74 = .ok (.iload_n 3, 1) := by decide +kernel
theorem d_PC_withPair_75 : decode prog_1_method_27_code 75 = .ok (.iconst 0, 1) := by decide +kernel
theorem d_PC_withPair_76 : decode prog_1_method_27_code 76 = .ok (.invokevirtual 264, 3) := by decide +kernel
theorem d_PC_withPair_79 : decode prog_1_method_27_code 79 = .ok (.i2l, 1) := by decide +kernel
theorem d_PC_withPair_80 : decode prog_1_method_27_code 80 = .ok (.ladd, 1) := by decide +kernel
theorem d_PC_withPair_81 : decode prog_1_method_27_code 81 = .ok (.lstore 4, 2) := by decide +kernel
theorem d_PC_withPair_83 : decode prog_1_method_27_code 83 = .ok (.ldc2_w 244, 3) := by decide +kernel
theorem d_PC_withPair_86 : decode prog_1_method_27_code 86 = .ok (.lload 4, 2) := by decide +kernel
theorem d_PC_withPair_88 : decode prog_1_method_27_code 88 = .ok (.lmul, 1) := by decide +kernel
theorem d_PC_withPair_89 : decode prog_1_method_27_code 89 = .ok (.aload_n 0, 1) := by decide +kernel
theorem d_PC_withPair_90 : decode prog_1_method_27_code 90 = .ok (.iload_n 3, 1) := by decide +kernel
theorem d_PC_withPair_91 : decode prog_1_method_27_code 91 = .ok (.iconst 1, 1) := by decide +kernel
theorem d_PC_withPair_92 : decode prog_1_method_27_code 92 = .ok (.invokevirtual 264, 3) := by decide +kernel
theorem d_PC_withPair_95 : decode prog_1_method_27_code 95 = .ok (.i2l, 1) := by decide +kernel
theorem d_PC_withPair_96 : decode prog_1_method_27_code 96 = .ok (.ladd, 1) := by decide +kernel
theorem d_PC_withPair_97 : decode prog_1_method_27_code 97 = .ok (.lstore 4, 2) := by decide +kernel
theorem d_PC_withPair_99 : decode prog_1_method_27_code 99 = .ok (.ldc2_w 244, 3) := by decide +kernel
theorem d_PC_withPair_102 : decode prog_1_method_27_code 102 = .ok (.lload 4, 2) := by decide +kernel
theorem d_PC_withPair_104 : decode prog_1_method_27_code 104 = .ok (.lmul, 1) := by decide +kernel
theorem d_PC_withPair_105 : decode prog_1_method_27_code 105 = .ok (.aload_n 0, 1) := by decide +kernel
theorem d_PC_withPair_106 : decode prog_1_method_27_code 106 = .ok (.iload_n 3, 1) := by decide +kernel
theorem d_PC_withPair_107 : decode prog_1_method_27_code 107 = .ok (.iconst 0, 1) := by decide +kernel
theorem d_PC_withPair_108 : decode prog_1_method_27_code 108 = .ok (.invokevirtual 266, 3) := by decide +kernel
theorem d_PC_withPair_111 : decode prog_1_method_27_code 111 = .ok (.i2l, 1) := by decide +kernel
theorem d_PC_withPair_112 : decode prog_1_method_27_code 112 = .ok (.ladd, 1) := by decide +kernel
theorem d_PC_withPair_113 : decode prog_1_method_27_code 113 = .ok (.lstore 4, 2) := by decide +kernel
theorem d_PC_withPair_115 : decode prog_1_method_27_code 115 = .ok (.ldc2_w 244, 3) := by decide +kernel
theorem d_PC_withPair_118 : decode prog_1_method_27_code 118 = .ok (.lload 4, 2) := by decide +kernel
theorem d_PC_withPair_120 : decode prog_1_method_27_code 120 = .ok (.lmul, 1) := by decide +kernel
theorem d_PC_withPair_121 : decode prog_1_method_27_code 121 = .ok (.aload_n 0, 1) := by decide +kernel
theorem d_PC_withPair_122 : decode prog_1_method_27_code 122 = .ok (.iload_n 3, 1) := by decide +kernel
theorem d_PC_withPair_123 : decode prog_1_method_27_code 123 = .ok (.iconst 1, 1) := by decide +kernel
theorem d_PC_withPair_124 : decode prog_1_method_27_code 124 = .ok (.invokevirtual 266, 3) := by decide +kernel
theorem d_PC_withPair_127 : decode prog_1_method_27_code 127 = .ok (.i2l, 1) := by decide +kernel
theorem d_PC_withPair_128 : decode prog_1_method_27_code 128 = .ok (.ladd, 1) := by decide +kernel
theorem d_PC_withPair_129 : decode prog_1_method_27_code 129 = .ok (.lreturn, 1) := by decide +kernel
theorem d_PC_withPair_12 : decode prog_1_method_27_code 12 = .ok (.ldc2_w 244, 3) := by decide +kernel
theorem d_PC_withPair_15 : decode prog_1_method_27_code 15 = .ok (.lload 4, 2) := by decide +kernel
theorem d_PC_withPair_17 : decode prog_1_method_27_code 17 = .ok (.lmul, 1) := by decide +kernel
theorem d_PC_withPair_18 : decode prog_1_method_27_code 18 = .ok (.aload_n 0, 1) := by decide +kernel
theorem d_PC_withPair_19 : decode prog_1_method_27_code 19 = .ok (.iload_n 3, 1) := by decide +kernel
theorem d_PC_withPair_20 : decode prog_1_method_27_code 20 = .ok (.iload 6, 2) := by decide +kernel
theorem d_PC_withPair_22 : decode prog_1_method_27_code 22 = .ok (.invokevirtual 259, 3) := by decide +kernel
theorem d_PC_withPair_25 : decode prog_1_method_27_code 25 = .ok (.i2l, 1) := by decide +kernel
theorem d_PC_withPair_26 : decode prog_1_method_27_code 26 = .ok (.ladd, 1) := by decide +kernel
theorem d_PC_withPair_27 : decode prog_1_method_27_code 27 = .ok (.lstore 4, 2) := by decide +kernel
theorem d_PC_withPair_29 : decode prog_1_method_27_code 29 = .ok (.iinc 6 1, 3) := by decide +kernel
theorem d_PC_withPair_32 : decode prog_1_method_27_code 32 = .ok (.goto (-26), 3) := by decide +kernel
theorem d_PC_digest_0 : decode prog_1_method_26_code 0 = .ok (.ldc2_w 242, 3) := by decide +kernel
theorem d_PC_digest_3 : decode prog_1_method_26_code 3 = .ok (.lstore_n 1, 1) := by decide +kernel
theorem d_PC_digest_4 : decode prog_1_method_26_code 4 = .ok (.iconst 0, 1) := by decide +kernel
theorem d_PC_digest_5 : decode prog_1_method_26_code 5 = .ok (.istore_n 3, 1) := by decide +kernel
theorem d_PC_digest_6 : decode prog_1_method_26_code 6 = .ok (.iload_n 3, 1) := by decide +kernel
theorem d_PC_digest_7 : decode prog_1_method_26_code 7 = .ok (.bipush 7, 2) := by decide +kernel
theorem d_PC_digest_9 : decode prog_1_method_26_code 9 = .ok (.if_icmp .gt 22, 3) := by decide +kernel
theorem d_PC_digest_31 : decode prog_1_method_26_code 31 = .ok (.iconst 0, 1) := by decide +kernel
theorem d_PC_digest_32 : decode prog_1_method_26_code 32 = .ok (.istore_n 3, 1) := by decide +kernel
theorem d_PC_digest_33 : decode prog_1_method_26_code 33 = .ok (.iload_n 3, 1) := by decide +kernel
theorem d_PC_digest_34 : decode prog_1_method_26_code 34 = .ok (.aload_n 0, 1) := by decide +kernel
theorem d_PC_digest_35 : decode prog_1_method_26_code 35 = .ok (.getfield 12, 3) := by decide +kernel
theorem d_PC_digest_38 : decode prog_1_method_26_code 38 = .ok (.getfield 235, 3) := by decide +kernel
theorem d_PC_digest_41 : decode prog_1_method_26_code 41 = .ok (.if_icmp .ge 22, 3) := by decide +kernel
theorem d_PC_digest_63 : decode prog_1_method_26_code 63 = .ok (.iconst 0, 1) := by decide +kernel
theorem d_PC_digest_64 : decode prog_1_method_26_code 64 = .ok (.istore_n 3, 1) := by decide +kernel
theorem d_PC_digest_65 : decode prog_1_method_26_code 65 = .ok (.iload_n 3, 1) := by decide +kernel
theorem d_PC_digest_66 : decode prog_1_method_26_code 66 = .ok (.aload_n 0, 1) := by decide +kernel
theorem d_PC_digest_67 : decode prog_1_method_26_code 67 = .ok (.getfield 19, 3) := by decide +kernel
theorem d_PC_digest_70 : decode prog_1_method_26_code 70 = .ok (.getfield 69, 3) := by decide +kernel
theorem d_PC_digest_73 : decode prog_1_method_26_code 73 = .ok (.if_icmp .ge 16, 3) := by decide +kernel
theorem d_PC_digest_89 : decode prog_1_method_26_code 89 = .ok (.iconst 0, 1) := by decide +kernel
theorem d_PC_digest_90 : decode prog_1_method_26_code 90 = .ok (.istore_n 3, 1) := by decide +kernel
theorem d_PC_digest_91 : decode prog_1_method_26_code 91 = .ok (.iload_n 3, 1) := by decide +kernel
theorem d_PC_digest_92 : decode prog_1_method_26_code 92 = .ok (.aload_n 0, 1) := by decide +kernel
theorem d_PC_digest_93 : decode prog_1_method_26_code 93 = .ok (.getfield 26, 3) := by decide +kernel
theorem d_PC_digest_96 : decode prog_1_method_26_code 96 = .ok (.getfield 124, 3) := by decide +kernel
theorem d_PC_digest_99 : decode prog_1_method_26_code 99 = .ok (.if_icmp .ge 40, 3) := by decide +kernel
theorem d_PC_digest_139 : decode prog_1_method_26_code 139 = .ok (.lload_n 1, 1) := by decide +kernel
theorem d_PC_digest_140 : decode prog_1_method_26_code 140 = .ok (.lreturn, 1) := by decide +kernel
theorem d_PC_digest_102 : decode prog_1_method_26_code 102 = .ok (.iconst 0, 1) := by decide +kernel
theorem d_PC_digest_103 : decode prog_1_method_26_code 103 = .ok (.istore 4, 2) := by decide +kernel
theorem d_PC_digest_105 : decode prog_1_method_26_code 105 = .ok (.iload 4, 2) := by decide +kernel
theorem d_PC_digest_107 : decode prog_1_method_26_code 107 = .ok (.bipush 6, 2) := by decide +kernel
theorem d_PC_digest_109 : decode prog_1_method_26_code 109 = .ok (.if_icmp .gt 24, 3) := by decide +kernel
theorem d_PC_digest_133 : decode prog_1_method_26_code 133 = .ok (.iinc 3 1, 3) := by decide +kernel
theorem d_PC_digest_136 : decode prog_1_method_26_code 136 = .ok (.goto (-45), 3) := by decide +kernel
theorem d_PC_digest_112 : decode prog_1_method_26_code 112 = .ok (.ldc2_w 244, 3) := by decide +kernel
theorem d_PC_digest_115 : decode prog_1_method_26_code 115 = .ok (.lload_n 1, 1) := by decide +kernel
theorem d_PC_digest_116 : decode prog_1_method_26_code 116 = .ok (.lmul, 1) := by decide +kernel
theorem d_PC_digest_117 : decode prog_1_method_26_code 117 = .ok (.aload_n 0, 1) := by decide +kernel
theorem d_PC_digest_118 : decode prog_1_method_26_code 118 = .ok (.iload_n 3, 1) := by decide +kernel
theorem d_PC_digest_119 : decode prog_1_method_26_code 119 = .ok (.iload 4, 2) := by decide +kernel
theorem d_PC_digest_121 : decode prog_1_method_26_code 121 = .ok (.invokevirtual 256, 3) := by decide +kernel
theorem d_PC_digest_124 : decode prog_1_method_26_code 124 = .ok (.i2l, 1) := by decide +kernel
theorem d_PC_digest_125 : decode prog_1_method_26_code 125 = .ok (.ladd, 1) := by decide +kernel
theorem d_PC_digest_126 : decode prog_1_method_26_code 126 = .ok (.lstore_n 1, 1) := by decide +kernel
theorem d_PC_digest_127 : decode prog_1_method_26_code 127 = .ok (.iinc 4 1, 3) := by decide +kernel
theorem d_PC_digest_130 : decode prog_1_method_26_code 130 = .ok (.goto (-25), 3) := by decide +kernel
theorem d_PC_digest_76 : decode prog_1_method_26_code 76 = .ok (.aload_n 0, 1) := by decide +kernel
theorem d_PC_digest_77 : decode prog_1_method_26_code 77 = .ok (.lload_n 1, 1) := by decide +kernel
theorem d_PC_digest_78 : decode prog_1_method_26_code 78 = .ok (.iload_n 3, 1) := by decide +kernel
theorem d_PC_digest_79 : decode prog_1_method_26_code 79 = .ok (.invokevirtual 252, 3) := by decide +kernel
theorem d_PC_digest_82 : decode prog_1_method_26_code 82 = .ok (.lstore_n 1, 1) := by decide +kernel
theorem d_PC_digest_83 : decode prog_1_method_26_code 83 = .ok (.iinc 3 1, 3) := by decide +kernel
theorem d_PC_digest_86 : decode prog_1_method_26_code 86 = .ok (.goto (-21), 3) := by decide +kernel
theorem d_PC_digest_44 : decode prog_1_method_26_code 44 = .ok (.ldc2_w 244, 3) := by decide +kernel
theorem d_PC_digest_47 : decode prog_1_method_26_code 47 = .ok (.lload_n 1, 1) := by decide +kernel
theorem d_PC_digest_48 : decode prog_1_method_26_code 48 = .ok (.lmul, 1) := by decide +kernel
theorem d_PC_digest_49 : decode prog_1_method_26_code 49 = .ok (.aload_n 0, 1) := by decide +kernel
theorem d_PC_digest_50 : decode prog_1_method_26_code 50 = .ok (.iload_n 3, 1) := by decide +kernel
theorem d_PC_digest_51 : decode prog_1_method_26_code 51 = .ok (.invokevirtual 249, 3) := by decide +kernel
theorem d_PC_digest_54 : decode prog_1_method_26_code 54 = .ok (.i2l, 1) := by decide +kernel
theorem d_PC_digest_55 : decode prog_1_method_26_code 55 = .ok (.ladd, 1) := by decide +kernel
theorem d_PC_digest_56 : decode prog_1_method_26_code 56 = .ok (.lstore_n 1, 1) := by decide +kernel
theorem d_PC_digest_57 : decode prog_1_method_26_code 57 = .ok (.iinc 3 1, 3) := by decide +kernel
theorem d_PC_digest_60 : decode prog_1_method_26_code 60 = .ok (.goto (-27), 3) := by decide +kernel
theorem d_PC_digest_12 : decode prog_1_method_26_code 12 = .ok (.ldc2_w 244, 3) := by decide +kernel
theorem d_PC_digest_15 : decode prog_1_method_26_code 15 = .ok (.lload_n 1, 1) := by decide +kernel
theorem d_PC_digest_16 : decode prog_1_method_26_code 16 = .ok (.lmul, 1) := by decide +kernel
theorem d_PC_digest_17 : decode prog_1_method_26_code 17 = .ok (.aload_n 0, 1) := by decide +kernel
theorem d_PC_digest_18 : decode prog_1_method_26_code 18 = .ok (.iload_n 3, 1) := by decide +kernel
theorem d_PC_digest_19 : decode prog_1_method_26_code 19 = .ok (.invokevirtual 246, 3) := by decide +kernel
theorem d_PC_digest_22 : decode prog_1_method_26_code 22 = .ok (.i2l, 1) := by decide +kernel
theorem d_PC_digest_23 : decode prog_1_method_26_code 23 = .ok (.ladd, 1) := by decide +kernel
theorem d_PC_digest_24 : decode prog_1_method_26_code 24 = .ok (.lstore_n 1, 1) := by decide +kernel
theorem d_PC_digest_25 : decode prog_1_method_26_code 25 = .ok (.iinc 3 1, 3) := by decide +kernel
theorem d_PC_digest_28 : decode prog_1_method_26_code 28 = .ok (.goto (-22), 3) := by decide +kernel
set_option maxHeartbeats 4000000 in
set_option maxRecDepth 100000 in
theorem g_PC_withPair (l : Launch) (D : va_G) (cI cZ : ClassId) (x : Nat) (h : Int64) (i : Int32) (f0 : Nat) (a0 : Nat) (r0 : Nat) (w0 : Nat) (g0 : Nat) (k0 : Nat) (tm : Int32) (gp : Int32) (lk : Int32) (np : Nat) (a1 : Nat) (a2 : Nat) (a3 : Nat) (a4 : Nat) (a5 : Nat) (a6 : Nat) (a7 : Nat) (a8 : Nat) (a9 : Nat) (a10 : Nat) (a11 : Nat) (EP : Nat → Nat) (SI : Nat → Int32) (LK : Nat → Int32) (ST : Nat → Nat) (PH : Nat → Int32) (EN : Nat → Int32) (LE : Nat → Int32) (GR : Nat → Int32) (sz : Nat) (h_np : np ≤ 12) (h_EP : ∀ zz, EP zz ≤ 6) (h_ST : ∀ zz, ST zz ≤ 64) : Met l ⟨"PromiseChains", "withPair", "(JI)J"⟩ (mw ⟨"PromiseChains", "withPair", "(JI)J"⟩ prog_1_method_27_code 7 (some .long)) ({ frames := 3, cells := 0, slots := 0, locals := 65 }) (va_Pc [.ref x, .long h, .int i] (PB D cI cZ sz [(x, .inr (0, [.ref f0, .ref a0, .ref r0, .ref w0, .ref g0, .ref k0, .int tm, .int gp, .int lk])), (a0, .inr (2, [.int (nI np), .ref a1, .ref a2, .ref a3, .ref a4, .ref a5, .ref a6, .ref a7, .ref a8, .ref a9, .ref a10, .ref a11])), (a1, .inl (cI, 24, .inl (fun zy => nI (EP zy)))), (a2, .inl (cI, 24, .inl SI)), (a3, .inl (cI, 24, .inl LK)), (a5, .inl (cI, 12, .inl (fun zy => nI (ST zy)))), (a6, .inl (cI, 12, .inl PH)), (a7, .inl (cI, 12, .inl EN)), (a10, .inl (cI, 12, .inl LE)), (a11, .inl (cI, 12, .inl GR))])) (vp_Sl (fun r => True)) 0 0 (fun _ => False) := by
  refine Met.ofW (cc := prog_1_method_27_code) (maxL := 7) (ret := (some .long)) (by decide) rfl ?_
  intro p e s m args below meth c s₁ B hml hv
  obtain ⟨rfl, hsz, hP, hK, hD0, hN⟩ := hv
  have hx := B.exec
  have hb := B.bytes
  have hr := B.returns
  have hts0 := atoms_spec (ws := mw ⟨"PromiseChains", "withPair", "(JI)J"⟩ prog_1_method_27_code 7 (some .long)) B.pre
  have hts : ∀ w ∈ tblG, w.before _ s = true := fun w h => hts0 w (List.mem_cons_of_mem _ h)
  have hown : s.vm.findClass "PromiseChains" = some m.cls := findClass_of_methodNamed B.named
  have hlocks := B.notSynchronized
  subst hsz
  have hD := hD0
  have hP : va_P D vwCl [(x, .inr (0, [.ref f0, .ref a0, .ref r0, .ref w0, .ref g0, .ref k0, .int tm, .int gp, .int lk])), (a0, .inr (2, [.int (nI np), .ref a1, .ref a2, .ref a3, .ref a4, .ref a5, .ref a6, .ref a7, .ref a8, .ref a9, .ref a10, .ref a11])), (a1, .inl (cI, 24, .inl (fun zy => nI (EP zy)))), (a2, .inl (cI, 24, .inl SI)), (a3, .inl (cI, 24, .inl LK)), (a5, .inl (cI, 12, .inl (fun zy => nI (ST zy)))), (a6, .inl (cI, 12, .inl PH)), (a7, .inl (cI, 12, .inl EN)), (a10, .inl (cI, 12, .inl LE)), (a11, .inl (cI, 12, .inl GR))] s.heap := hP
  have hl := lv_entry ([.ref x, .long h, .int i]) (n := 7) (Nat.le_of_ble_eq_true rfl)
  rw [lg_entry_eq]
  generalize (lg_sl ([.ref x, .long h, .int i]) ++ List.replicate (7 - (lg_sl ([.ref x, .long h, .int i])).length) Slot.unset).toArray = ls at hl ⊢
  have hl : lv_has ls 7 [(0, .ref x), (1, .long h), (3, .int i)] := hl
  refine lv_lload_n hx hb d_PC_withPair_0 rfl (lv_at hl 1 rfl) ?_
  refine lv_lstore (lv' := [(4, .long h), (0, .ref x), (1, .long h), (3, .int i)]) hx hb d_PC_withPair_1 hl (by decide) rfl (fun ls hl => ?_)
  refine lv_iconst (v := 0) hx hb d_PC_withPair_3 (by decide) ?_
  refine lv_istore (lv' := [(6, .int 0), (4, .long h), (0, .ref x), (1, .long h), (3, .int i)]) hx hb d_PC_withPair_4 hl (by decide) rfl (fun ls hl => ?_)
  refine W_loop (σ := Nat × Int64) (I := fun xX H locs ls => xX.1 ≤ 5 ∧ H = s.heap ∧ locs = [] ∧ lv_has ls 7 [(6, .int (nI xX.1)), (4, .long xX.2), (3, .int i), (0, .ref x)]) (μ := fun xX => 6 - xX.1) ?_ (0, h) ⟨(by first | omega | (dsimp only; omega)), rfl, rfl, lv_sub hl [0, 1, 4, 2] rfl⟩
  intro xX H_1 locs ls hI ih1
  obtain ⟨k_l, hh_v⟩ := xX
  obtain ⟨hk, rfl, rfl, hl⟩ := hI
  have hl : lv_has ls 7 [(6, .int (nI k_l)), (4, .long hh_v), (3, .int i), (0, .ref x)] := hl
  have hk : k_l ≤ 5 := hk
  refine lv_iload hx hb d_PC_withPair_6 (lv_at hl 0 rfl) ?_
  refine lv_iconst (v := 4) hx hb d_PC_withPair_8 (by decide) ?_
  refine lv_icmp_gt (tgt := 35) hx hb d_PC_withPair_9 (by decide) (fun h_2 => ?_) (fun h_2 => ?_)
  · have nh_2 : 4 < k_l := (nI_ltI (a := 4) (b := k_l) (by omega) (by omega)).mp h_2
    refine lv_ldc2 hx hb hown (hts _ q_614) d_PC_withPair_35 ?_
    refine lv_lload hx hb d_PC_withPair_38 (lv_at hl 1 rfl) ?_
    refine lv_lmul hx hb d_PC_withPair_40 ?_
    refine lv_aload_n hx hb d_PC_withPair_41 rfl (lv_at hl 3 rfl) ?_
    refine lv_iload_n hx hb d_PC_withPair_42 rfl (lv_at hl 2 rfl) ?_
    refine lv_iconst (v := 0) hx hb d_PC_withPair_43 (by decide) ?_
    have hPc := hP.sub (ws' := [(x, .inr (0, [.ref f0, .ref a0, .ref r0, .ref w0, .ref g0, .ref k0, .int tm, .int gp, .int lk])), (a0, .inr (2, [.int (nI np), .ref a1, .ref a2, .ref a3, .ref a4, .ref a5, .ref a6, .ref a7, .ref a8, .ref a9, .ref a10, .ref a11])), (a2, .inl (cI, 24, .inl SI))]) [0, 1, 3] rfl
    have hDc := hD.sub (ws' := [(x, .inr (0, [.ref f0, .ref a0, .ref r0, .ref w0, .ref g0, .ref k0, .int tm, .int gp, .int lk])), (a0, .inr (2, [.int (nI np), .ref a1, .ref a2, .ref a3, .ref a4, .ref a5, .ref a6, .ref a7, .ref a8, .ref a9, .ref a10, .ref a11])), (a2, .inl (cI, 24, .inl SI))]) [0, 1, 3] (by decide) rfl
    refine vp_callSi (va_Run.run (va_runV (As := [.int i, .int 0]) (rest := [.long (31 * hh_v)]) ⟨hx, hb, hml, hown, hts⟩ (g_PC_side l D cI cZ x i 0 f0 a0 r0 w0 g0 k0 tm gp lk np a1 a2 a3 a4 a5 a6 a7 a8 a9 a10 a11 SI s.heap.size h_np) (my_cwV 2 hts q_482 q_622 q_480 q_481 q_1 rfl rfl (by decide +kernel) ⟨Nat.le_of_ble_eq_true rfl, Nat.le_of_ble_eq_true rfl⟩) (my_preV hPc hDc hK hN 0 0 rfl rfl) rfl rfl hl.1 rfl (lv_room (Nat.le_of_ble_eq_true rfl)) d_PC_withPair_44 ⟨Nat.le_of_ble_eq_true rfl, Nat.le_of_ble_eq_true rfl⟩)) (fun r_3 hw_3 => ?_)
    refine lv_i2l hx hb d_PC_withPair_47 rfl ?_
    refine lv_ladd hx hb d_PC_withPair_48 ?_
    refine lv_lstore (lv' := [(4, .long ((31 * hh_v) + r_3.toInt64)), (6, .int (nI k_l)), (3, .int i), (0, .ref x)]) hx hb d_PC_withPair_49 hl (by decide) rfl (fun ls hl => ?_)
    refine lv_ldc2 hx hb hown (hts _ q_614) d_PC_withPair_51 ?_
    refine lv_lload hx hb d_PC_withPair_54 (lv_at hl 0 rfl) ?_
    refine lv_lmul hx hb d_PC_withPair_56 ?_
    refine lv_aload_n hx hb d_PC_withPair_57 rfl (lv_at hl 3 rfl) ?_
    refine lv_iload_n hx hb d_PC_withPair_58 rfl (lv_at hl 2 rfl) ?_
    refine lv_iconst (v := 1) hx hb d_PC_withPair_59 (by decide) ?_
    have hPc := hP.sub (ws' := [(x, .inr (0, [.ref f0, .ref a0, .ref r0, .ref w0, .ref g0, .ref k0, .int tm, .int gp, .int lk])), (a0, .inr (2, [.int (nI np), .ref a1, .ref a2, .ref a3, .ref a4, .ref a5, .ref a6, .ref a7, .ref a8, .ref a9, .ref a10, .ref a11])), (a2, .inl (cI, 24, .inl SI))]) [0, 1, 3] rfl
    have hDc := hD.sub (ws' := [(x, .inr (0, [.ref f0, .ref a0, .ref r0, .ref w0, .ref g0, .ref k0, .int tm, .int gp, .int lk])), (a0, .inr (2, [.int (nI np), .ref a1, .ref a2, .ref a3, .ref a4, .ref a5, .ref a6, .ref a7, .ref a8, .ref a9, .ref a10, .ref a11])), (a2, .inl (cI, 24, .inl SI))]) [0, 1, 3] (by decide) rfl
    refine vp_callSi (va_Run.run (va_runV (As := [.int i, .int 1]) (rest := [.long (31 * ((31 * hh_v) + r_3.toInt64))]) ⟨hx, hb, hml, hown, hts⟩ (g_PC_side l D cI cZ x i 1 f0 a0 r0 w0 g0 k0 tm gp lk np a1 a2 a3 a4 a5 a6 a7 a8 a9 a10 a11 SI s.heap.size h_np) (my_cwV 2 hts q_482 q_622 q_480 q_481 q_1 rfl rfl (by decide +kernel) ⟨Nat.le_of_ble_eq_true rfl, Nat.le_of_ble_eq_true rfl⟩) (my_preV hPc hDc hK hN 0 0 rfl rfl) rfl rfl hl.1 rfl (lv_room (Nat.le_of_ble_eq_true rfl)) d_PC_withPair_60 ⟨Nat.le_of_ble_eq_true rfl, Nat.le_of_ble_eq_true rfl⟩)) (fun r_4 hw_4 => ?_)
    refine lv_i2l hx hb d_PC_withPair_63 rfl ?_
    refine lv_ladd hx hb d_PC_withPair_64 ?_
    refine lv_lstore (lv' := [(4, .long ((31 * ((31 * hh_v) + r_3.toInt64)) + r_4.toInt64)), (6, .int (nI k_l)), (3, .int i), (0, .ref x)]) hx hb d_PC_withPair_65 hl (by decide) rfl (fun ls hl => ?_)
    refine lv_ldc2 hx hb hown (hts _ q_614) d_PC_withPair_67 ?_
    refine lv_lload hx hb d_PC_withPair_70 (lv_at hl 0 rfl) ?_
    refine lv_lmul hx hb d_PC_withPair_72 ?_
    refine lv_aload_n hx hb d_PC_withPair_73 rfl (lv_at hl 3 rfl) ?_
    refine lv_iload_n hx hb d_PC_withPair_74 rfl (lv_at hl 2 rfl) ?_
    refine lv_iconst (v := 0) hx hb d_PC_withPair_75 (by decide) ?_
    have hPc := hP.sub (ws' := [(x, .inr (0, [.ref f0, .ref a0, .ref r0, .ref w0, .ref g0, .ref k0, .int tm, .int gp, .int lk])), (a0, .inr (2, [.int (nI np), .ref a1, .ref a2, .ref a3, .ref a4, .ref a5, .ref a6, .ref a7, .ref a8, .ref a9, .ref a10, .ref a11])), (a3, .inl (cI, 24, .inl LK))]) [0, 1, 4] rfl
    have hDc := hD.sub (ws' := [(x, .inr (0, [.ref f0, .ref a0, .ref r0, .ref w0, .ref g0, .ref k0, .int tm, .int gp, .int lk])), (a0, .inr (2, [.int (nI np), .ref a1, .ref a2, .ref a3, .ref a4, .ref a5, .ref a6, .ref a7, .ref a8, .ref a9, .ref a10, .ref a11])), (a3, .inl (cI, 24, .inl LK))]) [0, 1, 4] (by decide) rfl
    refine vp_callSi (va_Run.run (va_runV (As := [.int i, .int 0]) (rest := [.long (31 * ((31 * ((31 * hh_v) + r_3.toInt64)) + r_4.toInt64))]) ⟨hx, hb, hml, hown, hts⟩ (g_PC_locked l D cI cZ x i 0 f0 a0 r0 w0 g0 k0 tm gp lk np a1 a2 a3 a4 a5 a6 a7 a8 a9 a10 a11 LK s.heap.size h_np) (my_cwV 2 hts q_491 q_623 q_489 q_490 q_1 rfl rfl (by decide +kernel) ⟨Nat.le_of_ble_eq_true rfl, Nat.le_of_ble_eq_true rfl⟩) (my_preV hPc hDc hK hN 0 0 rfl rfl) rfl rfl hl.1 rfl (lv_room (Nat.le_of_ble_eq_true rfl)) d_PC_withPair_76 ⟨Nat.le_of_ble_eq_true rfl, Nat.le_of_ble_eq_true rfl⟩)) (fun r_5 hw_5 => ?_)
    refine lv_i2l hx hb d_PC_withPair_79 rfl ?_
    refine lv_ladd hx hb d_PC_withPair_80 ?_
    refine lv_lstore (lv' := [(4, .long ((31 * ((31 * ((31 * hh_v) + r_3.toInt64)) + r_4.toInt64)) + r_5.toInt64)), (6, .int (nI k_l)), (3, .int i), (0, .ref x)]) hx hb d_PC_withPair_81 hl (by decide) rfl (fun ls hl => ?_)
    refine lv_ldc2 hx hb hown (hts _ q_614) d_PC_withPair_83 ?_
    refine lv_lload hx hb d_PC_withPair_86 (lv_at hl 0 rfl) ?_
    refine lv_lmul hx hb d_PC_withPair_88 ?_
    refine lv_aload_n hx hb d_PC_withPair_89 rfl (lv_at hl 3 rfl) ?_
    refine lv_iload_n hx hb d_PC_withPair_90 rfl (lv_at hl 2 rfl) ?_
    refine lv_iconst (v := 1) hx hb d_PC_withPair_91 (by decide) ?_
    have hPc := hP.sub (ws' := [(x, .inr (0, [.ref f0, .ref a0, .ref r0, .ref w0, .ref g0, .ref k0, .int tm, .int gp, .int lk])), (a0, .inr (2, [.int (nI np), .ref a1, .ref a2, .ref a3, .ref a4, .ref a5, .ref a6, .ref a7, .ref a8, .ref a9, .ref a10, .ref a11])), (a3, .inl (cI, 24, .inl LK))]) [0, 1, 4] rfl
    have hDc := hD.sub (ws' := [(x, .inr (0, [.ref f0, .ref a0, .ref r0, .ref w0, .ref g0, .ref k0, .int tm, .int gp, .int lk])), (a0, .inr (2, [.int (nI np), .ref a1, .ref a2, .ref a3, .ref a4, .ref a5, .ref a6, .ref a7, .ref a8, .ref a9, .ref a10, .ref a11])), (a3, .inl (cI, 24, .inl LK))]) [0, 1, 4] (by decide) rfl
    refine vp_callSi (va_Run.run (va_runV (As := [.int i, .int 1]) (rest := [.long (31 * ((31 * ((31 * ((31 * hh_v) + r_3.toInt64)) + r_4.toInt64)) + r_5.toInt64))]) ⟨hx, hb, hml, hown, hts⟩ (g_PC_locked l D cI cZ x i 1 f0 a0 r0 w0 g0 k0 tm gp lk np a1 a2 a3 a4 a5 a6 a7 a8 a9 a10 a11 LK s.heap.size h_np) (my_cwV 2 hts q_491 q_623 q_489 q_490 q_1 rfl rfl (by decide +kernel) ⟨Nat.le_of_ble_eq_true rfl, Nat.le_of_ble_eq_true rfl⟩) (my_preV hPc hDc hK hN 0 0 rfl rfl) rfl rfl hl.1 rfl (lv_room (Nat.le_of_ble_eq_true rfl)) d_PC_withPair_92 ⟨Nat.le_of_ble_eq_true rfl, Nat.le_of_ble_eq_true rfl⟩)) (fun r_6 hw_6 => ?_)
    refine lv_i2l hx hb d_PC_withPair_95 rfl ?_
    refine lv_ladd hx hb d_PC_withPair_96 ?_
    refine lv_lstore (lv' := [(4, .long ((31 * ((31 * ((31 * ((31 * hh_v) + r_3.toInt64)) + r_4.toInt64)) + r_5.toInt64)) + r_6.toInt64)), (6, .int (nI k_l)), (3, .int i), (0, .ref x)]) hx hb d_PC_withPair_97 hl (by decide) rfl (fun ls hl => ?_)
    refine lv_ldc2 hx hb hown (hts _ q_614) d_PC_withPair_99 ?_
    refine lv_lload hx hb d_PC_withPair_102 (lv_at hl 0 rfl) ?_
    refine lv_lmul hx hb d_PC_withPair_104 ?_
    refine lv_aload_n hx hb d_PC_withPair_105 rfl (lv_at hl 3 rfl) ?_
    refine lv_iload_n hx hb d_PC_withPair_106 rfl (lv_at hl 2 rfl) ?_
    refine lv_iconst (v := 0) hx hb d_PC_withPair_107 (by decide) ?_
    have hPc := hP.sub (ws' := [(x, .inr (0, [.ref f0, .ref a0, .ref r0, .ref w0, .ref g0, .ref k0, .int tm, .int gp, .int lk])), (a0, .inr (2, [.int (nI np), .ref a1, .ref a2, .ref a3, .ref a4, .ref a5, .ref a6, .ref a7, .ref a8, .ref a9, .ref a10, .ref a11])), (a10, .inl (cI, 12, .inl LE)), (a11, .inl (cI, 12, .inl GR))]) [0, 1, 8, 9] rfl
    have hDc := hD.sub (ws' := [(x, .inr (0, [.ref f0, .ref a0, .ref r0, .ref w0, .ref g0, .ref k0, .int tm, .int gp, .int lk])), (a0, .inr (2, [.int (nI np), .ref a1, .ref a2, .ref a3, .ref a4, .ref a5, .ref a6, .ref a7, .ref a8, .ref a9, .ref a10, .ref a11])), (a10, .inl (cI, 12, .inl LE)), (a11, .inl (cI, 12, .inl GR))]) [0, 1, 8, 9] (by decide) rfl
    refine vp_callSi (va_Run.run (va_runV (As := [.int i, .int 0]) (rest := [.long (31 * ((31 * ((31 * ((31 * ((31 * hh_v) + r_3.toInt64)) + r_4.toInt64)) + r_5.toInt64)) + r_6.toInt64))]) ⟨hx, hb, hml, hown, hts⟩ (g_PC_learnt l D cI cZ x i 0 f0 a0 r0 w0 g0 k0 tm gp lk np a1 a2 a3 a4 a5 a6 a7 a8 a9 a10 a11 LE GR s.heap.size h_np) (my_cwV 2 hts q_600 q_624 q_598 q_599 q_1 rfl rfl (by decide +kernel) ⟨Nat.le_of_ble_eq_true rfl, Nat.le_of_ble_eq_true rfl⟩) (my_preV hPc hDc hK hN 0 0 rfl rfl) rfl rfl hl.1 rfl (lv_room (Nat.le_of_ble_eq_true rfl)) d_PC_withPair_108 ⟨Nat.le_of_ble_eq_true rfl, Nat.le_of_ble_eq_true rfl⟩)) (fun r_7 hw_7 => ?_)
    refine lv_i2l hx hb d_PC_withPair_111 rfl ?_
    refine lv_ladd hx hb d_PC_withPair_112 ?_
    refine lv_lstore (lv' := [(4, .long ((31 * ((31 * ((31 * ((31 * ((31 * hh_v) + r_3.toInt64)) + r_4.toInt64)) + r_5.toInt64)) + r_6.toInt64)) + r_7.toInt64)), (6, .int (nI k_l)), (3, .int i), (0, .ref x)]) hx hb d_PC_withPair_113 hl (by decide) rfl (fun ls hl => ?_)
    refine lv_ldc2 hx hb hown (hts _ q_614) d_PC_withPair_115 ?_
    refine lv_lload hx hb d_PC_withPair_118 (lv_at hl 0 rfl) ?_
    refine lv_lmul hx hb d_PC_withPair_120 ?_
    refine lv_aload_n hx hb d_PC_withPair_121 rfl (lv_at hl 3 rfl) ?_
    refine lv_iload_n hx hb d_PC_withPair_122 rfl (lv_at hl 2 rfl) ?_
    refine lv_iconst (v := 1) hx hb d_PC_withPair_123 (by decide) ?_
    have hPc := hP.sub (ws' := [(x, .inr (0, [.ref f0, .ref a0, .ref r0, .ref w0, .ref g0, .ref k0, .int tm, .int gp, .int lk])), (a0, .inr (2, [.int (nI np), .ref a1, .ref a2, .ref a3, .ref a4, .ref a5, .ref a6, .ref a7, .ref a8, .ref a9, .ref a10, .ref a11])), (a10, .inl (cI, 12, .inl LE)), (a11, .inl (cI, 12, .inl GR))]) [0, 1, 8, 9] rfl
    have hDc := hD.sub (ws' := [(x, .inr (0, [.ref f0, .ref a0, .ref r0, .ref w0, .ref g0, .ref k0, .int tm, .int gp, .int lk])), (a0, .inr (2, [.int (nI np), .ref a1, .ref a2, .ref a3, .ref a4, .ref a5, .ref a6, .ref a7, .ref a8, .ref a9, .ref a10, .ref a11])), (a10, .inl (cI, 12, .inl LE)), (a11, .inl (cI, 12, .inl GR))]) [0, 1, 8, 9] (by decide) rfl
    refine vp_callSi (va_Run.run (va_runV (As := [.int i, .int 1]) (rest := [.long (31 * ((31 * ((31 * ((31 * ((31 * ((31 * hh_v) + r_3.toInt64)) + r_4.toInt64)) + r_5.toInt64)) + r_6.toInt64)) + r_7.toInt64))]) ⟨hx, hb, hml, hown, hts⟩ (g_PC_learnt l D cI cZ x i 1 f0 a0 r0 w0 g0 k0 tm gp lk np a1 a2 a3 a4 a5 a6 a7 a8 a9 a10 a11 LE GR s.heap.size h_np) (my_cwV 2 hts q_600 q_624 q_598 q_599 q_1 rfl rfl (by decide +kernel) ⟨Nat.le_of_ble_eq_true rfl, Nat.le_of_ble_eq_true rfl⟩) (my_preV hPc hDc hK hN 0 0 rfl rfl) rfl rfl hl.1 rfl (lv_room (Nat.le_of_ble_eq_true rfl)) d_PC_withPair_124 ⟨Nat.le_of_ble_eq_true rfl, Nat.le_of_ble_eq_true rfl⟩)) (fun r_8 hw_8 => ?_)
    refine lv_i2l hx hb d_PC_withPair_127 rfl ?_
    refine lv_ladd hx hb d_PC_withPair_128 ?_
    exact W.lret (v := ((31 * ((31 * ((31 * ((31 * ((31 * ((31 * hh_v) + r_3.toInt64)) + r_4.toInt64)) + r_5.toInt64)) + r_6.toInt64)) + r_7.toInt64)) + r_8.toInt64)) hx hb hr (fun tT ht hW => ⟨((31 * ((31 * ((31 * ((31 * ((31 * ((31 * hh_v) + r_3.toInt64)) + r_4.toInt64)) + r_5.toInt64)) + r_6.toInt64)) + r_7.toInt64)) + r_8.toInt64), rfl, trivial, ht⟩) (fun q h => absurd h List.not_mem_nil) d_PC_withPair_129
  · have nh_2 : ¬ 4 < k_l := fun qZ => h_2 ((nI_ltI (a := 4) (b := k_l) (by omega) (by omega)).mpr qZ)
    refine lv_ldc2 hx hb hown (hts _ q_614) d_PC_withPair_12 ?_
    refine lv_lload hx hb d_PC_withPair_15 (lv_at hl 1 rfl) ?_
    refine lv_lmul hx hb d_PC_withPair_17 ?_
    refine lv_aload_n hx hb d_PC_withPair_18 rfl (lv_at hl 3 rfl) ?_
    refine lv_iload_n hx hb d_PC_withPair_19 rfl (lv_at hl 2 rfl) ?_
    refine lv_iload hx hb d_PC_withPair_20 (lv_at hl 0 rfl) ?_
    have hPc := hP.sub (ws' := [(x, .inr (0, [.ref f0, .ref a0, .ref r0, .ref w0, .ref g0, .ref k0, .int tm, .int gp, .int lk])), (a0, .inr (2, [.int (nI np), .ref a1, .ref a2, .ref a3, .ref a4, .ref a5, .ref a6, .ref a7, .ref a8, .ref a9, .ref a10, .ref a11])), (a1, .inl (cI, 24, .inl (fun zy => nI (EP zy)))), (a5, .inl (cI, 12, .inl (fun zy => nI (ST zy)))), (a6, .inl (cI, 12, .inl PH)), (a7, .inl (cI, 12, .inl EN))]) [0, 1, 2, 5, 6, 7] rfl
    have hDc := hD.sub (ws' := [(x, .inr (0, [.ref f0, .ref a0, .ref r0, .ref w0, .ref g0, .ref k0, .int tm, .int gp, .int lk])), (a0, .inr (2, [.int (nI np), .ref a1, .ref a2, .ref a3, .ref a4, .ref a5, .ref a6, .ref a7, .ref a8, .ref a9, .ref a10, .ref a11])), (a1, .inl (cI, 24, .inl (fun zy => nI (EP zy)))), (a5, .inl (cI, 12, .inl (fun zy => nI (ST zy)))), (a6, .inl (cI, 12, .inl PH)), (a7, .inl (cI, 12, .inl EN))]) [0, 1, 2, 5, 6, 7] (by decide) rfl
    refine vp_callSi (va_Run.run (va_runV (As := [.int i, .int (nI k_l)]) (rest := [.long (31 * hh_v)]) ⟨hx, hb, hml, hown, hts⟩ (g_PC_about l D cI cZ x i (nI k_l) f0 a0 r0 w0 g0 k0 tm gp lk np a1 a2 a3 a4 a5 a6 a7 a8 a9 a10 a11 EP ST PH EN s.heap.size h_np h_EP h_ST) (my_cwV 2 hts q_495 q_621 q_493 q_494 q_1 rfl rfl (by decide +kernel) ⟨Nat.le_of_ble_eq_true rfl, Nat.le_of_ble_eq_true rfl⟩) (my_preV hPc hDc hK hN 0 0 rfl rfl) rfl rfl hl.1 rfl (lv_room (Nat.le_of_ble_eq_true rfl)) d_PC_withPair_22 ⟨Nat.le_of_ble_eq_true rfl, Nat.le_of_ble_eq_true rfl⟩)) (fun r_9 hw_9 => ?_)
    refine lv_i2l hx hb d_PC_withPair_25 rfl ?_
    refine lv_ladd hx hb d_PC_withPair_26 ?_
    refine lv_lstore (lv' := [(4, .long ((31 * hh_v) + r_9.toInt64)), (6, .int (nI k_l)), (3, .int i), (0, .ref x)]) hx hb d_PC_withPair_27 hl (by decide) rfl (fun ls hl => ?_)
    refine lv_iinc (v := nI (k_l + 1)) (lv' := [(6, .int (nI (k_l + 1))), (4, .long ((31 * hh_v) + r_9.toInt64)), (3, .int i), (0, .ref x)]) hx hb d_PC_withPair_29 hl (k := 1) rfl (nI_1 k_l) (by decide) rfl (fun ls hl => ?_)
    refine lv_goto (tgt := 6) hx hb d_PC_withPair_32 (by decide) ?_
    exact ih1 ((k_l + 1), (31 * hh_v) + r_9.toInt64) _ _ _ (by first | omega | (dsimp only; omega)) ⟨(by first | omega | (dsimp only; omega)), rfl, rfl, lv_sub hl [0, 1, 2, 3] rfl⟩

set_option maxHeartbeats 4000000 in
set_option maxRecDepth 100000 in
theorem g_PC_digest (l : Launch) (D : va_G) (cI cZ : ClassId) (x : Nat) (f0 : Nat) (a0 : Nat) (r0 : Nat) (w0 : Nat) (g0 : Nat) (k0 : Nat) (tm : Int32) (gp : Int32) (lk : Int32) (nn : Nat) (f1 : Nat) (f2 : Nat) (f3 : Nat) (f4 : Nat) (FC : Nat → Int32) (FA : Nat → Int32) (np : Nat) (a1 : Nat) (a2 : Nat) (a3 : Nat) (a4 : Nat) (a5 : Nat) (a6 : Nat) (a7 : Nat) (a8 : Nat) (a9 : Nat) (a10 : Nat) (a11 : Nat) (EP : Nat → Nat) (SI : Nat → Int32) (LK : Nat → Int32) (ST : Nat → Nat) (PH : Nat → Int32) (EN : Nat → Int32) (LE : Nat → Int32) (GR : Nat → Int32) (nq : Nat) (HA : Int32) (r1 : Nat) (r2 : Nat) (r3 : Nat) (r4 : Nat) (r5 : Nat) (r6 : Nat) (r7 : Nat) (r8 : Nat) (r9 : Nat) (r10 : Nat) (r11 : Nat) (PY : Nat → Int32) (PD : Nat → Int32) (HO : Nat → Nat) (HE : Nat → Int32) (KE : Nat → Int32) (TO : Nat → Int32) (LS : Nat → Int32) (sz : Nat) (h_nn : nn ≤ 7) (h_np : np ≤ 12) (h_EP : ∀ zz, EP zz ≤ 6) (h_ST : ∀ zz, ST zz ≤ 64) (h_nq : nq ≤ 40) (h_HO : ∀ zz, HO zz ≤ 6) : Met l ⟨"PromiseChains", "digest", "()J"⟩ (mw ⟨"PromiseChains", "digest", "()J"⟩ prog_1_method_26_code 5 (some .long)) ({ frames := 4, cells := 0, slots := 0, locals := 91 }) (va_Pc [.ref x] (PB D cI cZ sz [(x, .inr (0, [.ref f0, .ref a0, .ref r0, .ref w0, .ref g0, .ref k0, .int tm, .int gp, .int lk])), (f0, .inr (1, [.int (nI nn), .ref f1, .ref f2, .ref f3, .ref f4])), (f1, .inl (cI, 7, .inl FC)), (f4, .inl (cZ, 7, .inl FA)), (a0, .inr (2, [.int (nI np), .ref a1, .ref a2, .ref a3, .ref a4, .ref a5, .ref a6, .ref a7, .ref a8, .ref a9, .ref a10, .ref a11])), (a1, .inl (cI, 24, .inl (fun zy => nI (EP zy)))), (a2, .inl (cI, 24, .inl SI)), (a3, .inl (cI, 24, .inl LK)), (a5, .inl (cI, 12, .inl (fun zy => nI (ST zy)))), (a6, .inl (cI, 12, .inl PH)), (a7, .inl (cI, 12, .inl EN)), (a10, .inl (cI, 12, .inl LE)), (a11, .inl (cI, 12, .inl GR)), (r0, .inr (3, [.int (nI nq), .int HA, .ref r1, .ref r2, .ref r3, .ref r4, .ref r5, .ref r6, .ref r7, .ref r8, .ref r9, .ref r10, .ref r11])), (r1, .inl (cI, 40, .inl PY)), (r2, .inl (cI, 40, .inl PD)), (r3, .inl (cI, 40, .inl (fun zy => nI (HO zy)))), (r4, .inl (cI, 40, .inl HE)), (r5, .inl (cI, 40, .inl KE)), (r6, .inl (cZ, 40, .inl TO)), (r9, .inl (cI, 240, .inl LS))])) (vp_Sl (fun r => True)) 0 0 (fun _ => False) := by
  refine Met.ofW (cc := prog_1_method_26_code) (maxL := 5) (ret := (some .long)) (by decide) rfl ?_
  intro p e s m args below meth c s₁ B hml hv
  obtain ⟨rfl, hsz, hP, hK, hD0, hN⟩ := hv
  have hx := B.exec
  have hb := B.bytes
  have hr := B.returns
  have hts0 := atoms_spec (ws := mw ⟨"PromiseChains", "digest", "()J"⟩ prog_1_method_26_code 5 (some .long)) B.pre
  have hts : ∀ w ∈ tblG, w.before _ s = true := fun w h => hts0 w (List.mem_cons_of_mem _ h)
  have hown : s.vm.findClass "PromiseChains" = some m.cls := findClass_of_methodNamed B.named
  have hlocks := B.notSynchronized
  subst hsz
  have hD := hD0
  have hP : va_P D vwCl [(x, .inr (0, [.ref f0, .ref a0, .ref r0, .ref w0, .ref g0, .ref k0, .int tm, .int gp, .int lk])), (f0, .inr (1, [.int (nI nn), .ref f1, .ref f2, .ref f3, .ref f4])), (f1, .inl (cI, 7, .inl FC)), (f4, .inl (cZ, 7, .inl FA)), (a0, .inr (2, [.int (nI np), .ref a1, .ref a2, .ref a3, .ref a4, .ref a5, .ref a6, .ref a7, .ref a8, .ref a9, .ref a10, .ref a11])), (a1, .inl (cI, 24, .inl (fun zy => nI (EP zy)))), (a2, .inl (cI, 24, .inl SI)), (a3, .inl (cI, 24, .inl LK)), (a5, .inl (cI, 12, .inl (fun zy => nI (ST zy)))), (a6, .inl (cI, 12, .inl PH)), (a7, .inl (cI, 12, .inl EN)), (a10, .inl (cI, 12, .inl LE)), (a11, .inl (cI, 12, .inl GR)), (r0, .inr (3, [.int (nI nq), .int HA, .ref r1, .ref r2, .ref r3, .ref r4, .ref r5, .ref r6, .ref r7, .ref r8, .ref r9, .ref r10, .ref r11])), (r1, .inl (cI, 40, .inl PY)), (r2, .inl (cI, 40, .inl PD)), (r3, .inl (cI, 40, .inl (fun zy => nI (HO zy)))), (r4, .inl (cI, 40, .inl HE)), (r5, .inl (cI, 40, .inl KE)), (r6, .inl (cZ, 40, .inl TO)), (r9, .inl (cI, 240, .inl LS))] s.heap := hP
  have hl := lv_entry ([.ref x]) (n := 5) (Nat.le_of_ble_eq_true rfl)
  rw [lg_entry_eq]
  generalize (lg_sl ([.ref x]) ++ List.replicate (5 - (lg_sl ([.ref x])).length) Slot.unset).toArray = ls at hl ⊢
  have hl : lv_has ls 5 [(0, .ref x)] := hl
  refine lv_ldc2 hx hb hown (hts _ q_613) d_PC_digest_0 ?_
  refine lv_lstore_n (lv' := [(1, .long 233), (0, .ref x)]) hx hb d_PC_digest_3 rfl hl (by decide) rfl (fun ls hl => ?_)
  refine lv_iconst (v := 0) hx hb d_PC_digest_4 (by decide) ?_
  refine lv_istore_n (lv' := [(3, .int 0), (1, .long 233), (0, .ref x)]) hx hb d_PC_digest_5 rfl hl (by decide) rfl (fun ls hl => ?_)
  refine W_loop (σ := Nat × Int64) (I := fun xX H locs ls => xX.1 ≤ 8 ∧ H = s.heap ∧ locs = [] ∧ lv_has ls 5 [(3, .int (nI xX.1)), (1, .long xX.2), (0, .ref x)]) (μ := fun xX => 9 - xX.1) ?_ (0, 233) ⟨(by first | omega | (dsimp only; omega)), rfl, rfl, lv_sub hl [0, 1, 2] rfl⟩
  intro xX H_1 locs ls hI ih1
  obtain ⟨k0_l, h0_v⟩ := xX
  obtain ⟨hk0, rfl, rfl, hl⟩ := hI
  have hl : lv_has ls 5 [(3, .int (nI k0_l)), (1, .long h0_v), (0, .ref x)] := hl
  have hk0 : k0_l ≤ 8 := hk0
  refine lv_iload_n hx hb d_PC_digest_6 rfl (lv_at hl 0 rfl) ?_
  refine lv_bipush (v := 7) hx hb d_PC_digest_7 (by decide) ?_
  refine lv_icmp_gt (tgt := 31) hx hb d_PC_digest_9 (by decide) (fun h_2 => ?_) (fun h_2 => ?_)
  · have nh_2 : 7 < k0_l := (nI_ltI (a := 7) (b := k0_l) (by omega) (by omega)).mp h_2
    refine lv_iconst (v := 0) hx hb d_PC_digest_31 (by decide) ?_
    refine lv_istore_n (lv' := [(3, .int 0), (1, .long h0_v), (0, .ref x)]) hx hb d_PC_digest_32 rfl hl (by decide) rfl (fun ls hl => ?_)
    refine W_loop (σ := Nat × Int64) (I := fun xX H locs ls => xX.1 ≤ nn ∧ H = s.heap ∧ locs = [] ∧ lv_has ls 5 [(3, .int (nI xX.1)), (1, .long xX.2), (0, .ref x)]) (μ := fun xX => 8 - xX.1) ?_ (0, h0_v) ⟨(by first | omega | (dsimp only; omega)), rfl, rfl, lv_sub hl [0, 1, 2] rfl⟩
    intro xX H_3 locs ls hI ih2
    obtain ⟨k1_l, h1_v⟩ := xX
    obtain ⟨hk1, rfl, rfl, hl⟩ := hI
    have hl : lv_has ls 5 [(3, .int (nI k1_l)), (1, .long h1_v), (0, .ref x)] := hl
    have hk1 : k1_l ≤ nn := hk1
    refine lv_iload_n hx hb d_PC_digest_33 rfl (lv_at hl 0 rfl) ?_
    refine lv_aload_n hx hb d_PC_digest_34 rfl (lv_at hl 2 rfl) ?_
    refine va_get (D := D) (ci := 0) (v := .ref f0) (C := R_PC) (T := F_PC) (N := 9) hx hb hts i_PC hown hK hP 0 rfl rfl 0 (by decide) (hts _ q_256) (fun _ h9 => h9) rfl d_PC_digest_35 ?_
    refine va_get (D := D) (ci := 1) (v := .int (nI nn)) (C := R_PE) (T := F_PE) (N := 5) hx hb hts i_PE hown hK hP 1 rfl rfl 0 (by decide) (hts _ q_25) (fun _ h9 => h9) rfl d_PC_digest_38 ?_
    refine lv_icmp_ge (tgt := 63) hx hb d_PC_digest_41 (by decide) (fun h_4 => ?_) (fun h_4 => ?_)
    · have nh_4 : nn ≤ k1_l := (nI_leI (a := nn) (b := k1_l) (by omega) (by omega)).mp h_4
      refine lv_iconst (v := 0) hx hb d_PC_digest_63 (by decide) ?_
      refine lv_istore_n (lv' := [(3, .int 0), (1, .long h1_v), (0, .ref x)]) hx hb d_PC_digest_64 rfl hl (by decide) rfl (fun ls hl => ?_)
      refine W_loop (σ := Nat × Int64) (I := fun xX H locs ls => xX.1 ≤ np ∧ H = s.heap ∧ locs = [] ∧ lv_has ls 5 [(3, .int (nI xX.1)), (1, .long xX.2), (0, .ref x)]) (μ := fun xX => 13 - xX.1) ?_ (0, h1_v) ⟨(by first | omega | (dsimp only; omega)), rfl, rfl, lv_sub hl [0, 1, 2] rfl⟩
      intro xX H_5 locs ls hI ih3
      obtain ⟨k2_l, h2_v⟩ := xX
      obtain ⟨hk2, rfl, rfl, hl⟩ := hI
      have hl : lv_has ls 5 [(3, .int (nI k2_l)), (1, .long h2_v), (0, .ref x)] := hl
      have hk2 : k2_l ≤ np := hk2
      refine lv_iload_n hx hb d_PC_digest_65 rfl (lv_at hl 0 rfl) ?_
      refine lv_aload_n hx hb d_PC_digest_66 rfl (lv_at hl 2 rfl) ?_
      refine va_get (D := D) (ci := 0) (v := .ref a0) (C := R_PC) (T := F_PC) (N := 9) hx hb hts i_PC hown hK hP 0 rfl rfl 1 (by decide) (hts _ q_257) (fun _ h9 => h9) rfl d_PC_digest_67 ?_
      refine va_get (D := D) (ci := 2) (v := .int (nI np)) (C := R_PA) (T := F_PA) (N := 12) hx hb hts i_PA hown hK hP 4 rfl rfl 0 (by decide) (hts _ q_57) (fun _ h9 => h9) rfl d_PC_digest_70 ?_
      refine lv_icmp_ge (tgt := 89) hx hb d_PC_digest_73 (by decide) (fun h_6 => ?_) (fun h_6 => ?_)
      · have nh_6 : np ≤ k2_l := (nI_leI (a := np) (b := k2_l) (by omega) (by omega)).mp h_6
        refine lv_iconst (v := 0) hx hb d_PC_digest_89 (by decide) ?_
        refine lv_istore_n (lv' := [(3, .int 0), (1, .long h2_v), (0, .ref x)]) hx hb d_PC_digest_90 rfl hl (by decide) rfl (fun ls hl => ?_)
        refine W_loop (σ := Nat × Int64) (I := fun xX H locs ls => xX.1 ≤ nq ∧ H = s.heap ∧ locs = [] ∧ lv_has ls 5 [(3, .int (nI xX.1)), (1, .long xX.2), (0, .ref x)]) (μ := fun xX => 41 - xX.1) ?_ (0, h2_v) ⟨(by first | omega | (dsimp only; omega)), rfl, rfl, lv_sub hl [0, 1, 2] rfl⟩
        intro xX H_7 locs ls hI ih4
        obtain ⟨k3_l, h3_v⟩ := xX
        obtain ⟨hk3, rfl, rfl, hl⟩ := hI
        have hl : lv_has ls 5 [(3, .int (nI k3_l)), (1, .long h3_v), (0, .ref x)] := hl
        have hk3 : k3_l ≤ nq := hk3
        refine lv_iload_n hx hb d_PC_digest_91 rfl (lv_at hl 0 rfl) ?_
        refine lv_aload_n hx hb d_PC_digest_92 rfl (lv_at hl 2 rfl) ?_
        refine va_get (D := D) (ci := 0) (v := .ref r0) (C := R_PC) (T := F_PC) (N := 9) hx hb hts i_PC hown hK hP 0 rfl rfl 2 (by decide) (hts _ q_258) (fun _ h9 => h9) rfl d_PC_digest_93 ?_
        refine va_get (D := D) (ci := 3) (v := .int (nI nq)) (C := R_PR) (T := F_PR) (N := 13) hx hb hts i_PR hown hK hP 13 rfl rfl 0 (by decide) (hts _ q_111) (fun _ h9 => h9) rfl d_PC_digest_96 ?_
        refine lv_icmp_ge (tgt := 139) hx hb d_PC_digest_99 (by decide) (fun h_8 => ?_) (fun h_8 => ?_)
        · have nh_8 : nq ≤ k3_l := (nI_leI (a := nq) (b := k3_l) (by omega) (by omega)).mp h_8
          refine lv_lload_n hx hb d_PC_digest_139 rfl (lv_at hl 1 rfl) ?_
          exact W.lret (v := h3_v) hx hb hr (fun tT ht hW => ⟨h3_v, rfl, trivial, ht⟩) (fun q h => absurd h List.not_mem_nil) d_PC_digest_140
        · have nh_8 : ¬ nq ≤ k3_l := fun qZ => h_8 ((nI_leI (a := nq) (b := k3_l) (by omega) (by omega)).mpr qZ)
          refine lv_iconst (v := 0) hx hb d_PC_digest_102 (by decide) ?_
          refine lv_istore (lv' := [(4, .int 0), (3, .int (nI k3_l)), (1, .long h3_v), (0, .ref x)]) hx hb d_PC_digest_103 hl (by decide) rfl (fun ls hl => ?_)
          refine W_loop (σ := Nat × Int64) (I := fun xX H locs ls => xX.1 ≤ 7 ∧ H = s.heap ∧ locs = [] ∧ lv_has ls 5 [(4, .int (nI xX.1)), (3, .int (nI k3_l)), (1, .long xX.2), (0, .ref x)]) (μ := fun xX => 8 - xX.1) ?_ (0, h3_v) ⟨(by first | omega | (dsimp only; omega)), rfl, rfl, lv_sub hl [0, 1, 2, 3] rfl⟩
          intro xX H_9 locs ls hI ih5
          obtain ⟨k4_l, h4_v⟩ := xX
          obtain ⟨hk4, rfl, rfl, hl⟩ := hI
          have hl : lv_has ls 5 [(4, .int (nI k4_l)), (3, .int (nI k3_l)), (1, .long h4_v), (0, .ref x)] := hl
          have hk4 : k4_l ≤ 7 := hk4
          refine lv_iload hx hb d_PC_digest_105 (lv_at hl 0 rfl) ?_
          refine lv_bipush (v := 6) hx hb d_PC_digest_107 (by decide) ?_
          refine lv_icmp_gt (tgt := 133) hx hb d_PC_digest_109 (by decide) (fun h_10 => ?_) (fun h_10 => ?_)
          · have nh_10 : 6 < k4_l := (nI_ltI (a := 6) (b := k4_l) (by omega) (by omega)).mp h_10
            refine lv_iinc (v := nI (k3_l + 1)) (lv' := [(3, .int (nI (k3_l + 1))), (4, .int (nI k4_l)), (1, .long h4_v), (0, .ref x)]) hx hb d_PC_digest_133 hl (k := 1) rfl (nI_1 k3_l) (by decide) rfl (fun ls hl => ?_)
            refine lv_goto (tgt := 91) hx hb d_PC_digest_136 (by decide) ?_
            exact ih4 ((k3_l + 1), h4_v) _ _ _ (by first | omega | (dsimp only; omega)) ⟨(by first | omega | (dsimp only; omega)), rfl, rfl, lv_sub hl [0, 2, 3] rfl⟩
          · have nh_10 : ¬ 6 < k4_l := fun qZ => h_10 ((nI_ltI (a := 6) (b := k4_l) (by omega) (by omega)).mpr qZ)
            refine lv_ldc2 hx hb hown (hts _ q_614) d_PC_digest_112 ?_
            refine lv_lload_n hx hb d_PC_digest_115 rfl (lv_at hl 2 rfl) ?_
            refine lv_lmul hx hb d_PC_digest_116 ?_
            refine lv_aload_n hx hb d_PC_digest_117 rfl (lv_at hl 3 rfl) ?_
            refine lv_iload_n hx hb d_PC_digest_118 rfl (lv_at hl 1 rfl) ?_
            refine lv_iload hx hb d_PC_digest_119 (lv_at hl 0 rfl) ?_
            have hPc := hP.sub (ws' := [(x, .inr (0, [.ref f0, .ref a0, .ref r0, .ref w0, .ref g0, .ref k0, .int tm, .int gp, .int lk])), (r0, .inr (3, [.int (nI nq), .int HA, .ref r1, .ref r2, .ref r3, .ref r4, .ref r5, .ref r6, .ref r7, .ref r8, .ref r9, .ref r10, .ref r11])), (r1, .inl (cI, 40, .inl PY)), (r2, .inl (cI, 40, .inl PD)), (r3, .inl (cI, 40, .inl (fun zy => nI (HO zy)))), (r4, .inl (cI, 40, .inl HE)), (r5, .inl (cI, 40, .inl KE)), (r6, .inl (cZ, 40, .inl TO)), (r9, .inl (cI, 240, .inl LS))]) [0, 13, 14, 15, 16, 17, 18, 19, 20] rfl
            have hDc := hD.sub (ws' := [(x, .inr (0, [.ref f0, .ref a0, .ref r0, .ref w0, .ref g0, .ref k0, .int tm, .int gp, .int lk])), (r0, .inr (3, [.int (nI nq), .int HA, .ref r1, .ref r2, .ref r3, .ref r4, .ref r5, .ref r6, .ref r7, .ref r8, .ref r9, .ref r10, .ref r11])), (r1, .inl (cI, 40, .inl PY)), (r2, .inl (cI, 40, .inl PD)), (r3, .inl (cI, 40, .inl (fun zy => nI (HO zy)))), (r4, .inl (cI, 40, .inl HE)), (r5, .inl (cI, 40, .inl KE)), (r6, .inl (cZ, 40, .inl TO)), (r9, .inl (cI, 240, .inl LS))]) [0, 13, 14, 15, 16, 17, 18, 19, 20] (by decide) rfl
            refine vp_callSi (va_Run.run (va_runV (As := [.int (nI k3_l), .int (nI k4_l)]) (rest := [.long (31 * h4_v)]) ⟨hx, hb, hml, hown, hts⟩ (g_PC_promiseAt l D cI cZ x (nI k3_l) (nI k4_l) f0 a0 r0 w0 g0 k0 tm gp lk nq HA r1 r2 r3 r4 r5 r6 r7 r8 r9 r10 r11 PY PD HO HE KE TO LS s.heap.size h_nq h_HO) (my_cwV 2 hts q_474 q_625 q_472 q_473 q_1 rfl rfl (by decide +kernel) ⟨Nat.le_of_ble_eq_true rfl, Nat.le_of_ble_eq_true rfl⟩) (my_preV hPc hDc hK hN 0 0 rfl rfl) rfl rfl hl.1 rfl (lv_room (Nat.le_of_ble_eq_true rfl)) d_PC_digest_121 ⟨Nat.le_of_ble_eq_true rfl, Nat.le_of_ble_eq_true rfl⟩)) (fun r_11 hw_11 => ?_)
            refine lv_i2l hx hb d_PC_digest_124 rfl ?_
            refine lv_ladd hx hb d_PC_digest_125 ?_
            refine lv_lstore_n (lv' := [(1, .long ((31 * h4_v) + r_11.toInt64)), (4, .int (nI k4_l)), (3, .int (nI k3_l)), (0, .ref x)]) hx hb d_PC_digest_126 rfl hl (by decide) rfl (fun ls hl => ?_)
            refine lv_iinc (v := nI (k4_l + 1)) (lv' := [(4, .int (nI (k4_l + 1))), (1, .long ((31 * h4_v) + r_11.toInt64)), (3, .int (nI k3_l)), (0, .ref x)]) hx hb d_PC_digest_127 hl (k := 1) rfl (nI_1 k4_l) (by decide) rfl (fun ls hl => ?_)
            refine lv_goto (tgt := 105) hx hb d_PC_digest_130 (by decide) ?_
            exact ih5 ((k4_l + 1), (31 * h4_v) + r_11.toInt64) _ _ _ (by first | omega | (dsimp only; omega)) ⟨(by first | omega | (dsimp only; omega)), rfl, rfl, lv_sub hl [0, 2, 1, 3] rfl⟩
      · have nh_6 : ¬ np ≤ k2_l := fun qZ => h_6 ((nI_leI (a := np) (b := k2_l) (by omega) (by omega)).mpr qZ)
        refine lv_aload_n hx hb d_PC_digest_76 rfl (lv_at hl 2 rfl) ?_
        refine lv_lload_n hx hb d_PC_digest_77 rfl (lv_at hl 1 rfl) ?_
        refine lv_iload_n hx hb d_PC_digest_78 rfl (lv_at hl 0 rfl) ?_
        have hPc := hP.sub (ws' := [(x, .inr (0, [.ref f0, .ref a0, .ref r0, .ref w0, .ref g0, .ref k0, .int tm, .int gp, .int lk])), (a0, .inr (2, [.int (nI np), .ref a1, .ref a2, .ref a3, .ref a4, .ref a5, .ref a6, .ref a7, .ref a8, .ref a9, .ref a10, .ref a11])), (a1, .inl (cI, 24, .inl (fun zy => nI (EP zy)))), (a2, .inl (cI, 24, .inl SI)), (a3, .inl (cI, 24, .inl LK)), (a5, .inl (cI, 12, .inl (fun zy => nI (ST zy)))), (a6, .inl (cI, 12, .inl PH)), (a7, .inl (cI, 12, .inl EN)), (a10, .inl (cI, 12, .inl LE)), (a11, .inl (cI, 12, .inl GR))]) [0, 4, 5, 6, 7, 8, 9, 10, 11, 12] rfl
        have hDc := hD.sub (ws' := [(x, .inr (0, [.ref f0, .ref a0, .ref r0, .ref w0, .ref g0, .ref k0, .int tm, .int gp, .int lk])), (a0, .inr (2, [.int (nI np), .ref a1, .ref a2, .ref a3, .ref a4, .ref a5, .ref a6, .ref a7, .ref a8, .ref a9, .ref a10, .ref a11])), (a1, .inl (cI, 24, .inl (fun zy => nI (EP zy)))), (a2, .inl (cI, 24, .inl SI)), (a3, .inl (cI, 24, .inl LK)), (a5, .inl (cI, 12, .inl (fun zy => nI (ST zy)))), (a6, .inl (cI, 12, .inl PH)), (a7, .inl (cI, 12, .inl EN)), (a10, .inl (cI, 12, .inl LE)), (a11, .inl (cI, 12, .inl GR))]) [0, 4, 5, 6, 7, 8, 9, 10, 11, 12] (by decide) rfl
        refine vp_callSl (va_Run.run (va_runV (As := [.long h2_v, .int (nI k2_l)]) (rest := []) ⟨hx, hb, hml, hown, hts⟩ (g_PC_withPair l D cI cZ x h2_v (nI k2_l) f0 a0 r0 w0 g0 k0 tm gp lk np a1 a2 a3 a4 a5 a6 a7 a8 a9 a10 a11 EP SI LK ST PH EN LE GR s.heap.size h_np h_EP h_ST) (my_cwV 2 hts q_620 q_617 q_619 q_p4 q_1 rfl rfl (by decide +kernel) ⟨Nat.le_of_ble_eq_true rfl, Nat.le_of_ble_eq_true rfl⟩) (my_preV hPc hDc hK hN 0 0 rfl rfl) rfl rfl hl.1 rfl (lv_room (Nat.le_of_ble_eq_true rfl)) d_PC_digest_79 ⟨Nat.le_of_ble_eq_true rfl, Nat.le_of_ble_eq_true rfl⟩)) (fun r_12 hw_12 => ?_)
        refine lv_lstore_n (lv' := [(1, .long r_12), (3, .int (nI k2_l)), (0, .ref x)]) hx hb d_PC_digest_82 rfl hl (by decide) rfl (fun ls hl => ?_)
        refine lv_iinc (v := nI (k2_l + 1)) (lv' := [(3, .int (nI (k2_l + 1))), (1, .long r_12), (0, .ref x)]) hx hb d_PC_digest_83 hl (k := 1) rfl (nI_1 k2_l) (by decide) rfl (fun ls hl => ?_)
        refine lv_goto (tgt := 65) hx hb d_PC_digest_86 (by decide) ?_
        exact ih3 ((k2_l + 1), r_12) _ _ _ (by first | omega | (dsimp only; omega)) ⟨(by first | omega | (dsimp only; omega)), rfl, rfl, lv_sub hl [0, 1, 2] rfl⟩
    · have nh_4 : ¬ nn ≤ k1_l := fun qZ => h_4 ((nI_leI (a := nn) (b := k1_l) (by omega) (by omega)).mpr qZ)
      refine lv_ldc2 hx hb hown (hts _ q_614) d_PC_digest_44 ?_
      refine lv_lload_n hx hb d_PC_digest_47 rfl (lv_at hl 1 rfl) ?_
      refine lv_lmul hx hb d_PC_digest_48 ?_
      refine lv_aload_n hx hb d_PC_digest_49 rfl (lv_at hl 2 rfl) ?_
      refine lv_iload_n hx hb d_PC_digest_50 rfl (lv_at hl 0 rfl) ?_
      have hPc := hP.sub (ws' := [(x, .inr (0, [.ref f0, .ref a0, .ref r0, .ref w0, .ref g0, .ref k0, .int tm, .int gp, .int lk])), (f0, .inr (1, [.int (nI nn), .ref f1, .ref f2, .ref f3, .ref f4])), (f1, .inl (cI, 7, .inl FC)), (a0, .inr (2, [.int (nI np), .ref a1, .ref a2, .ref a3, .ref a4, .ref a5, .ref a6, .ref a7, .ref a8, .ref a9, .ref a10, .ref a11])), (a1, .inl (cI, 24, .inl (fun zy => nI (EP zy)))), (a2, .inl (cI, 24, .inl SI)), (a3, .inl (cI, 24, .inl LK))]) [0, 1, 2, 4, 5, 6, 7] rfl
      have hDc := hD.sub (ws' := [(x, .inr (0, [.ref f0, .ref a0, .ref r0, .ref w0, .ref g0, .ref k0, .int tm, .int gp, .int lk])), (f0, .inr (1, [.int (nI nn), .ref f1, .ref f2, .ref f3, .ref f4])), (f1, .inl (cI, 7, .inl FC)), (a0, .inr (2, [.int (nI np), .ref a1, .ref a2, .ref a3, .ref a4, .ref a5, .ref a6, .ref a7, .ref a8, .ref a9, .ref a10, .ref a11])), (a1, .inl (cI, 24, .inl (fun zy => nI (EP zy)))), (a2, .inl (cI, 24, .inl SI)), (a3, .inl (cI, 24, .inl LK))]) [0, 1, 2, 4, 5, 6, 7] (by decide) rfl
      refine vp_callSi (va_Run.run (va_runV (As := [.int (nI k1_l)]) (rest := [.long (31 * h1_v)]) ⟨hx, hb, hml, hown, hts⟩ (g_PC_wealth l D cI cZ x (nI k1_l) f0 a0 r0 w0 g0 k0 tm gp lk nn f1 f2 f3 f4 FC np a1 a2 a3 a4 a5 a6 a7 a8 a9 a10 a11 EP SI LK s.heap.size h_nn h_np h_EP) (my_cwV 1 hts q_517 q_616 q_515 q_516 q_1 rfl rfl (by decide +kernel) ⟨Nat.le_of_ble_eq_true rfl, Nat.le_of_ble_eq_true rfl⟩) (my_preV hPc hDc hK hN 0 0 rfl rfl) rfl rfl hl.1 rfl (lv_room (Nat.le_of_ble_eq_true rfl)) d_PC_digest_51 ⟨Nat.le_of_ble_eq_true rfl, Nat.le_of_ble_eq_true rfl⟩)) (fun r_13 hw_13 => ?_)
      refine lv_i2l hx hb d_PC_digest_54 rfl ?_
      refine lv_ladd hx hb d_PC_digest_55 ?_
      refine lv_lstore_n (lv' := [(1, .long ((31 * h1_v) + r_13.toInt64)), (3, .int (nI k1_l)), (0, .ref x)]) hx hb d_PC_digest_56 rfl hl (by decide) rfl (fun ls hl => ?_)
      refine lv_iinc (v := nI (k1_l + 1)) (lv' := [(3, .int (nI (k1_l + 1))), (1, .long ((31 * h1_v) + r_13.toInt64)), (0, .ref x)]) hx hb d_PC_digest_57 hl (k := 1) rfl (nI_1 k1_l) (by decide) rfl (fun ls hl => ?_)
      refine lv_goto (tgt := 33) hx hb d_PC_digest_60 (by decide) ?_
      exact ih2 ((k1_l + 1), (31 * h1_v) + r_13.toInt64) _ _ _ (by first | omega | (dsimp only; omega)) ⟨(by first | omega | (dsimp only; omega)), rfl, rfl, lv_sub hl [0, 1, 2] rfl⟩
  · have nh_2 : ¬ 7 < k0_l := fun qZ => h_2 ((nI_ltI (a := 7) (b := k0_l) (by omega) (by omega)).mpr qZ)
    refine lv_ldc2 hx hb hown (hts _ q_614) d_PC_digest_12 ?_
    refine lv_lload_n hx hb d_PC_digest_15 rfl (lv_at hl 1 rfl) ?_
    refine lv_lmul hx hb d_PC_digest_16 ?_
    refine lv_aload_n hx hb d_PC_digest_17 rfl (lv_at hl 2 rfl) ?_
    refine lv_iload_n hx hb d_PC_digest_18 rfl (lv_at hl 0 rfl) ?_
    have hPc := hP.sub (ws' := [(x, .inr (0, [.ref f0, .ref a0, .ref r0, .ref w0, .ref g0, .ref k0, .int tm, .int gp, .int lk])), (f0, .inr (1, [.int (nI nn), .ref f1, .ref f2, .ref f3, .ref f4])), (f4, .inl (cZ, 7, .inl FA)), (a0, .inr (2, [.int (nI np), .ref a1, .ref a2, .ref a3, .ref a4, .ref a5, .ref a6, .ref a7, .ref a8, .ref a9, .ref a10, .ref a11])), (r0, .inr (3, [.int (nI nq), .int HA, .ref r1, .ref r2, .ref r3, .ref r4, .ref r5, .ref r6, .ref r7, .ref r8, .ref r9, .ref r10, .ref r11]))]) [0, 1, 3, 4, 13] rfl
    have hDc := hD.sub (ws' := [(x, .inr (0, [.ref f0, .ref a0, .ref r0, .ref w0, .ref g0, .ref k0, .int tm, .int gp, .int lk])), (f0, .inr (1, [.int (nI nn), .ref f1, .ref f2, .ref f3, .ref f4])), (f4, .inl (cZ, 7, .inl FA)), (a0, .inr (2, [.int (nI np), .ref a1, .ref a2, .ref a3, .ref a4, .ref a5, .ref a6, .ref a7, .ref a8, .ref a9, .ref a10, .ref a11])), (r0, .inr (3, [.int (nI nq), .int HA, .ref r1, .ref r2, .ref r3, .ref r4, .ref r5, .ref r6, .ref r7, .ref r8, .ref r9, .ref r10, .ref r11]))]) [0, 1, 3, 4, 13] (by decide) rfl
    refine vp_callSi (va_Run.run (va_runV (As := [.int (nI k0_l)]) (rest := [.long (31 * h0_v)]) ⟨hx, hb, hml, hown, hts⟩ (g_PC_count l D cI cZ x (nI k0_l) f0 a0 r0 w0 g0 k0 tm gp lk nn f1 f2 f3 f4 FA np a1 a2 a3 a4 a5 a6 a7 a8 a9 a10 a11 nq HA r1 r2 r3 r4 r5 r6 r7 r8 r9 r10 r11 s.heap.size h_nn h_np h_nq) (my_cwV 1 hts q_604 q_615 q_602 q_603 q_1 rfl rfl (by decide +kernel) ⟨Nat.le_of_ble_eq_true rfl, Nat.le_of_ble_eq_true rfl⟩) (my_preV hPc hDc hK hN 0 0 rfl rfl) rfl rfl hl.1 rfl (lv_room (Nat.le_of_ble_eq_true rfl)) d_PC_digest_19 ⟨Nat.le_of_ble_eq_true rfl, Nat.le_of_ble_eq_true rfl⟩)) (fun r_14 hw_14 => ?_)
    refine lv_i2l hx hb d_PC_digest_22 rfl ?_
    refine lv_ladd hx hb d_PC_digest_23 ?_
    refine lv_lstore_n (lv' := [(1, .long ((31 * h0_v) + r_14.toInt64)), (3, .int (nI k0_l)), (0, .ref x)]) hx hb d_PC_digest_24 rfl hl (by decide) rfl (fun ls hl => ?_)
    refine lv_iinc (v := nI (k0_l + 1)) (lv' := [(3, .int (nI (k0_l + 1))), (1, .long ((31 * h0_v) + r_14.toInt64)), (0, .ref x)]) hx hb d_PC_digest_25 hl (k := 1) rfl (nI_1 k0_l) (by decide) rfl (fun ls hl => ?_)
    refine lv_goto (tgt := 6) hx hb d_PC_digest_28 (by decide) ?_
    exact ih1 ((k0_l + 1), (31 * h0_v) + r_14.toInt64) _ _ _ (by first | omega | (dsimp only; omega)) ⟨(by first | omega | (dsimp only; omega)), rfl, rfl, lv_sub hl [0, 1, 2] rfl⟩
