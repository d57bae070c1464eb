theorem q_0 : Cond.initialized "PromiseChainsLaw" ∈ tblG := mG (m1 (List.mem_of_getElem? (i := 0) rfl)) rfl
theorem q_1 : Cond.initialized "PromiseChains" ∈ tblG := mG (m1 (List.mem_of_getElem? (i := 1) rfl)) rfl
theorem q_2 : Cond.initialized "PromiseChains$People" ∈ tblG := mG (m1 (List.mem_of_getElem? (i := 2) rfl)) rfl
theorem q_3 : Cond.initialized "PromiseChains$Pairs" ∈ tblG := mG (m1 (List.mem_of_getElem? (i := 3) rfl)) rfl
theorem q_4 : Cond.initialized "PromiseChains$Promises" ∈ tblG := mG (m1 (List.mem_of_getElem? (i := 4) rfl)) rfl
theorem q_5 : Cond.initialized "PromiseChains$WaySearch" ∈ tblG := mG (m1 (List.mem_of_getElem? (i := 5) rfl)) rfl
theorem q_6 : Cond.initialized "PromiseChains$Row" ∈ tblG := mG (m1 (List.mem_of_getElem? (i := 6) rfl)) rfl
theorem q_7 : Cond.initialized "PromiseChains$RingSearch" ∈ tblG := mG (m1 (List.mem_of_getElem? (i := 7) rfl)) rfl
theorem q_8 : Cond.initialized "PromiseChainsModel" ∈ tblG := mG (m1 (List.mem_of_getElem? (i := 8) rfl)) rfl
theorem q_9 : Cond.initialized "java/lang/Math" ∈ tblG := mG (m1 (List.mem_of_getElem? (i := 9) rfl)) rfl
theorem q_10 : Cond.classLink "PromiseChainsLaw" 7 "PromiseChains" ∈ tblG := mG (m1 (List.mem_of_getElem? (i := 10) rfl)) rfl
theorem q_11 : Cond.instantiable "PromiseChains" 9 ∈ tblG := mG (m1 (List.mem_of_getElem? (i := 11) rfl)) rfl
theorem q_12 : Cond.methodLink "PromiseChainsLaw" 9 ⟨"PromiseChains", "<init>", "()V"⟩ ∈ tblG := mG (m1 (List.mem_of_getElem? (i := 12) rfl)) rfl
theorem q_13 : Cond.instanceMethod ⟨"PromiseChains", "<init>", "()V"⟩ ∈ tblG := mG (m1 (List.mem_of_getElem? (i := 13) rfl)) rfl
theorem q_14 : Cond.code ⟨"PromiseChains", "<init>", "()V"⟩ prog_1_method_1_code 1 none ∈ tblG := mG (m1 (List.mem_of_getElem? (i := 14) rfl)) rfl
theorem q_15 : Cond.methodLink "PromiseChains" 3 ⟨"java/lang/Object", "<init>", "()V"⟩ ∈ tblG := mG (m1 (List.mem_of_getElem? (i := 15) rfl)) rfl
theorem q_16 : Cond.instanceMethod ⟨"java/lang/Object", "<init>", "()V"⟩ ∈ tblG := mG (m1 (List.mem_of_getElem? (i := 16) rfl)) rfl
theorem q_17 : Cond.code ⟨"java/lang/Object", "<init>", "()V"⟩ object_method_1_code 1 none ∈ tblG := mG (m1 (List.mem_of_getElem? (i := 17) rfl)) rfl
theorem q_18 : Cond.classLink "PromiseChains" 9 "PromiseChains$People" ∈ tblG := mG (m1 (List.mem_of_getElem? (i := 18) rfl)) rfl
theorem q_19 : Cond.instantiable "PromiseChains$People" 5 ∈ tblG := mG (m1 (List.mem_of_getElem? (i := 19) rfl)) rfl
theorem q_21 : Cond.instanceMethod ⟨"PromiseChains$People", "<init>", "()V"⟩ ∈ tblG := mG (m1 (List.mem_of_getElem? (i := 21) rfl)) rfl
theorem q_22 : Cond.code ⟨"PromiseChains$People", "<init>", "()V"⟩ prog_3_method_1_code 1 none ∈ tblG := mG (m1 (List.mem_of_getElem? (i := 22) rfl)) rfl
theorem q_23 : Cond.methodLink "PromiseChains$People" 3 ⟨"java/lang/Object", "<init>", "()V"⟩ ∈ tblG := mG (m1 (List.mem_of_getElem? (i := 23) rfl)) rfl
theorem q_24 : Cond.fieldLink "PromiseChains$People" 9 "PromiseChains$People" "size" "I" ∈ tblG := mG (m1 (List.mem_of_getElem? (i := 24) rfl)) rfl
theorem q_25 : Cond.fieldLink "PromiseChains" 235 "PromiseChains$People" "size" "I" ∈ tblG := mG (m1 (List.mem_of_getElem? (i := 25) rfl)) rfl
theorem q_26 : Cond.fieldLink "PromiseChains$People" 15 "PromiseChains$People" "cash" "[I" ∈ tblG := mG (m1 (List.mem_of_getElem? (i := 26) rfl)) rfl
theorem q_27 : Cond.fieldLink "PromiseChains$Pairs" 88 "PromiseChains$People" "cash" "[I" ∈ tblG := mG (m1 (List.mem_of_getElem? (i := 27) rfl)) rfl
theorem q_28 : Cond.fieldLink "PromiseChains" 196 "PromiseChains$People" "cash" "[I" ∈ tblG := mG (m1 (List.mem_of_getElem? (i := 28) rfl)) rfl
theorem q_29 : Cond.fieldLink "PromiseChains$People" 19 "PromiseChains$People" "base" "[I" ∈ tblG := mG (m1 (List.mem_of_getElem? (i := 29) rfl)) rfl
theorem q_30 : Cond.fieldLink "PromiseChains" 86 "PromiseChains$People" "base" "[I" ∈ tblG := mG (m1 (List.mem_of_getElem? (i := 30) rfl)) rfl
theorem q_31 : Cond.fieldLink "PromiseChains$People" 22 "PromiseChains$People" "rate" "[I" ∈ tblG := mG (m1 (List.mem_of_getElem? (i := 31) rfl)) rfl
theorem q_32 : Cond.fieldLink "PromiseChains" 90 "PromiseChains$People" "rate" "[I" ∈ tblG := mG (m1 (List.mem_of_getElem? (i := 32) rfl)) rfl
theorem q_33 : Cond.fieldLink "PromiseChains$People" 25 "PromiseChains$People" "isAway" "[Z" ∈ tblG := mG (m1 (List.mem_of_getElem? (i := 33) rfl)) rfl
theorem q_34 : Cond.fieldLink "PromiseChains" 93 "PromiseChains$People" "isAway" "[Z" ∈ tblG := mG (m1 (List.mem_of_getElem? (i := 34) rfl)) rfl
theorem q_35 : Cond.fieldLink "PromiseChains$Promises" 84 "PromiseChains$People" "isAway" "[Z" ∈ tblG := mG (m1 (List.mem_of_getElem? (i := 35) rfl)) rfl
theorem q_36 : Cond.fieldLink "PromiseChains$Pairs" 78 "PromiseChains$People" "isAway" "[Z" ∈ tblG := mG (m1 (List.mem_of_getElem? (i := 36) rfl)) rfl
theorem q_37 : Cond.lays "PromiseChains$People" "PromiseChains$People" "size" "I" ∈ tblG := mG (m1 (List.mem_of_getElem? (i := 37) rfl)) rfl
theorem q_39 : Cond.laysFinal "PromiseChains$People" "PromiseChains$People" "cash" "[I" ∈ tblG := mG (m1 (List.mem_of_getElem? (i := 39) rfl)) rfl
set_option maxRecDepth 20000 in
theorem q_41 : Cond.laysFinal "PromiseChains$People" "PromiseChains$People" "base" "[I" ∈ tblG := mG (m1 (List.mem_of_getElem? (i := 41) rfl)) rfl
set_option maxRecDepth 20000 in
theorem q_43 : Cond.laysFinal "PromiseChains$People" "PromiseChains$People" "rate" "[I" ∈ tblG := mG (m1 (List.mem_of_getElem? (i := 43) rfl)) rfl
set_option maxRecDepth 20000 in
theorem q_45 : Cond.laysFinal "PromiseChains$People" "PromiseChains$People" "isAway" "[Z" ∈ tblG := mG (m1 (List.mem_of_getElem? (i := 45) rfl)) rfl
set_option maxRecDepth 20000 in
theorem q_48 : Cond.arrayClass .int ∈ tblG := mG (m1 (List.mem_of_getElem? (i := 48) rfl)) rfl
set_option maxRecDepth 20000 in
theorem q_49 : Cond.arrayClass .boolean ∈ tblG := mG (m1 (List.mem_of_getElem? (i := 49) rfl)) rfl
set_option maxRecDepth 20000 in
theorem q_50 : Cond.classLink "PromiseChains" 16 "PromiseChains$Pairs" ∈ tblG := mG (m1 (List.mem_of_getElem? (i := 50) rfl)) rfl
set_option maxRecDepth 20000 in
theorem q_51 : Cond.instantiable "PromiseChains$Pairs" 12 ∈ tblG := mG (m1 (List.mem_of_getElem? (i := 51) rfl)) rfl
set_option maxRecDepth 20000 in
theorem q_53 : Cond.instanceMethod ⟨"PromiseChains$Pairs", "<init>", "()V"⟩ ∈ tblG := mG (m1 (List.mem_of_getElem? (i := 53) rfl)) rfl
set_option maxRecDepth 20000 in
theorem q_54 : Cond.code ⟨"PromiseChains$Pairs", "<init>", "()V"⟩ prog_2_method_1_code 1 none ∈ tblG := mG (m1 (List.mem_of_getElem? (i := 54) rfl)) rfl
set_option maxRecDepth 20000 in
theorem q_55 : Cond.methodLink "PromiseChains$Pairs" 3 ⟨"java/lang/Object", "<init>", "()V"⟩ ∈ tblG := mG (m1 (List.mem_of_getElem? (i := 55) rfl)) rfl
set_option maxRecDepth 20000 in
theorem q_56 : Cond.fieldLink "PromiseChains$Pairs" 9 "PromiseChains$Pairs" "size" "I" ∈ tblG := mG (m1 (List.mem_of_getElem? (i := 56) rfl)) rfl
set_option maxRecDepth 20000 in
theorem q_57 : Cond.fieldLink "PromiseChains" 69 "PromiseChains$Pairs" "size" "I" ∈ tblG := mG (m1 (List.mem_of_getElem? (i := 57) rfl)) rfl
set_option maxRecDepth 20000 in
theorem q_58 : Cond.fieldLink "PromiseChains$Pairs" 15 "PromiseChains$Pairs" "person" "[I" ∈ tblG := mG (m1 (List.mem_of_getElem? (i := 58) rfl)) rfl
set_option maxRecDepth 20000 in
theorem q_59 : Cond.fieldLink "PromiseChains$Promises" 81 "PromiseChains$Pairs" "person" "[I" ∈ tblG := mG (m1 (List.mem_of_getElem? (i := 59) rfl)) rfl
set_option maxRecDepth 20000 in
theorem q_60 : Cond.fieldLink "PromiseChains" 166 "PromiseChains$Pairs" "person" "[I" ∈ tblG := mG (m1 (List.mem_of_getElem? (i := 60) rfl)) rfl
set_option maxRecDepth 20000 in
theorem q_61 : Cond.fieldLink "PromiseChains$Pairs" 19 "PromiseChains$Pairs" "side" "[I" ∈ tblG := mG (m1 (List.mem_of_getElem? (i := 61) rfl)) rfl
set_option maxRecDepth 20000 in
theorem q_62 : Cond.fieldLink "PromiseChains$RingSearch" 54 "PromiseChains$Pairs" "side" "[I" ∈ tblG := mG (m1 (List.mem_of_getElem? (i := 62) rfl)) rfl
set_option maxRecDepth 20000 in
theorem q_63 : Cond.fieldLink "PromiseChains" 160 "PromiseChains$Pairs" "side" "[I" ∈ tblG := mG (m1 (List.mem_of_getElem? (i := 63) rfl)) rfl
set_option maxRecDepth 20000 in
theorem q_64 : Cond.fieldLink "PromiseChains$Pairs" 22 "PromiseChains$Pairs" "locked" "[I" ∈ tblG := mG (m1 (List.mem_of_getElem? (i := 64) rfl)) rfl
set_option maxRecDepth 20000 in
theorem q_65 : Cond.fieldLink "PromiseChains" 163 "PromiseChains$Pairs" "locked" "[I" ∈ tblG := mG (m1 (List.mem_of_getElem? (i := 65) rfl)) rfl
set_option maxRecDepth 20000 in
theorem q_66 : Cond.fieldLink "PromiseChains$Pairs" 25 "PromiseChains$Pairs" "stateSide" "[I" ∈ tblG := mG (m1 (List.mem_of_getElem? (i := 66) rfl)) rfl
set_option maxRecDepth 20000 in
theorem q_67 : Cond.fieldLink "PromiseChains$Pairs" 28 "PromiseChains$Pairs" "states" "[I" ∈ tblG := mG (m1 (List.mem_of_getElem? (i := 67) rfl)) rfl
set_option maxRecDepth 20000 in
theorem q_68 : Cond.fieldLink "PromiseChains" 172 "PromiseChains$Pairs" "states" "[I" ∈ tblG := mG (m1 (List.mem_of_getElem? (i := 68) rfl)) rfl
set_option maxRecDepth 20000 in
theorem q_69 : Cond.fieldLink "PromiseChains$Pairs" 31 "PromiseChains$Pairs" "phase" "[I" ∈ tblG := mG (m1 (List.mem_of_getElem? (i := 69) rfl)) rfl
set_option maxRecDepth 20000 in
theorem q_70 : Cond.fieldLink "PromiseChains" 169 "PromiseChains$Pairs" "phase" "[I" ∈ tblG := mG (m1 (List.mem_of_getElem? (i := 70) rfl)) rfl
set_option maxRecDepth 20000 in
theorem q_71 : Cond.fieldLink "PromiseChains$Pairs" 34 "PromiseChains$Pairs" "end" "[I" ∈ tblG := mG (m1 (List.mem_of_getElem? (i := 71) rfl)) rfl
set_option maxRecDepth 20000 in
theorem q_72 : Cond.fieldLink "PromiseChains" 175 "PromiseChains$Pairs" "end" "[I" ∈ tblG := mG (m1 (List.mem_of_getElem? (i := 72) rfl)) rfl
set_option maxRecDepth 20000 in
theorem q_73 : Cond.fieldLink "PromiseChains$Pairs" 37 "PromiseChains$Pairs" "closer" "[I" ∈ tblG := mG (m1 (List.mem_of_getElem? (i := 73) rfl)) rfl
set_option maxRecDepth 20000 in
theorem q_74 : Cond.fieldLink "PromiseChains$Pairs" 40 "PromiseChains$Pairs" "closedBy" "[I" ∈ tblG := mG (m1 (List.mem_of_getElem? (i := 74) rfl)) rfl
set_option maxRecDepth 20000 in
theorem q_75 : Cond.fieldLink "PromiseChains$Pairs" 43 "PromiseChains$Pairs" "least" "[I" ∈ tblG := mG (m1 (List.mem_of_getElem? (i := 75) rfl)) rfl
set_option maxRecDepth 20000 in
theorem q_76 : Cond.fieldLink "PromiseChains" 229 "PromiseChains$Pairs" "least" "[I" ∈ tblG := mG (m1 (List.mem_of_getElem? (i := 76) rfl)) rfl
set_option maxRecDepth 20000 in
theorem q_77 : Cond.fieldLink "PromiseChains$Pairs" 46 "PromiseChains$Pairs" "greatest" "[I" ∈ tblG := mG (m1 (List.mem_of_getElem? (i := 77) rfl)) rfl
set_option maxRecDepth 20000 in
theorem q_78 : Cond.fieldLink "PromiseChains" 232 "PromiseChains$Pairs" "greatest" "[I" ∈ tblG := mG (m1 (List.mem_of_getElem? (i := 78) rfl)) rfl
set_option maxRecDepth 20000 in
theorem q_79 : Cond.lays "PromiseChains$Pairs" "PromiseChains$Pairs" "size" "I" ∈ tblG := mG (m1 (List.mem_of_getElem? (i := 79) rfl)) rfl
set_option maxRecDepth 20000 in
theorem q_81 : Cond.laysFinal "PromiseChains$Pairs" "PromiseChains$Pairs" "person" "[I" ∈ tblG := mG (m1 (List.mem_of_getElem? (i := 81) rfl)) rfl
set_option maxRecDepth 20000 in
theorem q_83 : Cond.laysFinal "PromiseChains$Pairs" "PromiseChains$Pairs" "side" "[I" ∈ tblG := mG (m1 (List.mem_of_getElem? (i := 83) rfl)) rfl
set_option maxRecDepth 20000 in
theorem q_85 : Cond.laysFinal "PromiseChains$Pairs" "PromiseChains$Pairs" "locked" "[I" ∈ tblG := mG (m1 (List.mem_of_getElem? (i := 85) rfl)) rfl
set_option maxRecDepth 20000 in
theorem q_87 : Cond.laysFinal "PromiseChains$Pairs" "PromiseChains$Pairs" "stateSide" "[I" ∈ tblG := mG (m1 (List.mem_of_getElem? (i := 87) rfl)) rfl
set_option maxRecDepth 20000 in
theorem q_89 : Cond.laysFinal "PromiseChains$Pairs" "PromiseChains$Pairs" "states" "[I" ∈ tblG := mG (m1 (List.mem_of_getElem? (i := 89) rfl)) rfl
set_option maxRecDepth 20000 in
theorem q_91 : Cond.laysFinal "PromiseChains$Pairs" "PromiseChains$Pairs" "phase" "[I" ∈ tblG := mG (m1 (List.mem_of_getElem? (i := 91) rfl)) rfl
set_option maxRecDepth 20000 in
theorem q_93 : Cond.laysFinal "PromiseChains$Pairs" "PromiseChains$Pairs" "end" "[I" ∈ tblG := mG (m1 (List.mem_of_getElem? (i := 93) rfl)) rfl
set_option maxRecDepth 20000 in
theorem q_95 : Cond.laysFinal "PromiseChains$Pairs" "PromiseChains$Pairs" "closer" "[I" ∈ tblG := mG (m1 (List.mem_of_getElem? (i := 95) rfl)) rfl
set_option maxRecDepth 20000 in
theorem q_97 : Cond.laysFinal "PromiseChains$Pairs" "PromiseChains$Pairs" "closedBy" "[I" ∈ tblG := mG (m1 (List.mem_of_getElem? (i := 97) rfl)) rfl
set_option maxRecDepth 20000 in
theorem q_99 : Cond.laysFinal "PromiseChains$Pairs" "PromiseChains$Pairs" "least" "[I" ∈ tblG := mG (m1 (List.mem_of_getElem? (i := 99) rfl)) rfl
set_option maxRecDepth 20000 in
theorem q_101 : Cond.laysFinal "PromiseChains$Pairs" "PromiseChains$Pairs" "greatest" "[I" ∈ tblG := mG (m1 (List.mem_of_getElem? (i := 101) rfl)) rfl
set_option maxRecDepth 20000 in
theorem q_104 : Cond.classLink "PromiseChains" 23 "PromiseChains$Promises" ∈ tblG := mG (m1 (List.mem_of_getElem? (i := 104) rfl)) rfl
set_option maxRecDepth 20000 in
theorem q_105 : Cond.instantiable "PromiseChains$Promises" 13 ∈ tblG := mG (m1 (List.mem_of_getElem? (i := 105) rfl)) rfl
set_option maxRecDepth 20000 in
theorem q_107 : Cond.instanceMethod ⟨"PromiseChains$Promises", "<init>", "()V"⟩ ∈ tblG := mG (m1 (List.mem_of_getElem? (i := 107) rfl)) rfl
set_option maxRecDepth 20000 in
theorem q_108 : Cond.code ⟨"PromiseChains$Promises", "<init>", "()V"⟩ prog_4_method_1_code 1 none ∈ tblG := mG (m1 (List.mem_of_getElem? (i := 108) rfl)) rfl
set_option maxRecDepth 20000 in
theorem q_109 : Cond.methodLink "PromiseChains$Promises" 3 ⟨"java/lang/Object", "<init>", "()V"⟩ ∈ tblG := mG (m1 (List.mem_of_getElem? (i := 109) rfl)) rfl
set_option maxRecDepth 20000 in
theorem q_110 : Cond.fieldLink "PromiseChains$Promises" 9 "PromiseChains$Promises" "size" "I" ∈ tblG := mG (m1 (List.mem_of_getElem? (i := 110) rfl)) rfl
set_option maxRecDepth 20000 in
theorem q_111 : Cond.fieldLink "PromiseChains" 124 "PromiseChains$Promises" "size" "I" ∈ tblG := mG (m1 (List.mem_of_getElem? (i := 111) rfl)) rfl
set_option maxRecDepth 20000 in
theorem q_112 : Cond.fieldLink "PromiseChains$Promises" 15 "PromiseChains$Promises" "heldInAll" "I" ∈ tblG := mG (m1 (List.mem_of_getElem? (i := 112) rfl)) rfl
set_option maxRecDepth 20000 in
theorem q_113 : Cond.fieldLink "PromiseChains" 236 "PromiseChains$Promises" "heldInAll" "I" ∈ tblG := mG (m1 (List.mem_of_getElem? (i := 113) rfl)) rfl
set_option maxRecDepth 20000 in
theorem q_114 : Cond.fieldLink "PromiseChains$Promises" 18 "PromiseChains$Promises" "payer" "[I" ∈ tblG := mG (m1 (List.mem_of_getElem? (i := 114) rfl)) rfl
set_option maxRecDepth 20000 in
theorem q_115 : Cond.fieldLink "PromiseChains" 156 "PromiseChains$Promises" "payer" "[I" ∈ tblG := mG (m1 (List.mem_of_getElem? (i := 115) rfl)) rfl
set_option maxRecDepth 20000 in
theorem q_116 : Cond.fieldLink "PromiseChains$Promises" 22 "PromiseChains$Promises" "paid" "[I" ∈ tblG := mG (m1 (List.mem_of_getElem? (i := 116) rfl)) rfl
set_option maxRecDepth 20000 in
theorem q_117 : Cond.fieldLink "PromiseChains" 144 "PromiseChains$Promises" "paid" "[I" ∈ tblG := mG (m1 (List.mem_of_getElem? (i := 117) rfl)) rfl
set_option maxRecDepth 20000 in
theorem q_118 : Cond.fieldLink "PromiseChains$Promises" 25 "PromiseChains$Promises" "hops" "[I" ∈ tblG := mG (m1 (List.mem_of_getElem? (i := 118) rfl)) rfl
set_option maxRecDepth 20000 in
theorem q_119 : Cond.fieldLink "PromiseChains" 150 "PromiseChains$Promises" "hops" "[I" ∈ tblG := mG (m1 (List.mem_of_getElem? (i := 119) rfl)) rfl
set_option maxRecDepth 20000 in
theorem q_120 : Cond.fieldLink "PromiseChains$Promises" 28 "PromiseChains$Promises" "held" "[I" ∈ tblG := mG (m1 (List.mem_of_getElem? (i := 120) rfl)) rfl
set_option maxRecDepth 20000 in
theorem q_121 : Cond.fieldLink "PromiseChains" 133 "PromiseChains$Promises" "held" "[I" ∈ tblG := mG (m1 (List.mem_of_getElem? (i := 121) rfl)) rfl
set_option maxRecDepth 20000 in
theorem q_122 : Cond.fieldLink "PromiseChains$Promises" 31 "PromiseChains$Promises" "kept" "[I" ∈ tblG := mG (m1 (List.mem_of_getElem? (i := 122) rfl)) rfl
set_option maxRecDepth 20000 in
theorem q_123 : Cond.fieldLink "PromiseChains" 153 "PromiseChains$Promises" "kept" "[I" ∈ tblG := mG (m1 (List.mem_of_getElem? (i := 123) rfl)) rfl
set_option maxRecDepth 20000 in
theorem q_124 : Cond.fieldLink "PromiseChains$Promises" 34 "PromiseChains$Promises" "isTold" "[Z" ∈ tblG := mG (m1 (List.mem_of_getElem? (i := 124) rfl)) rfl
set_option maxRecDepth 20000 in
theorem q_125 : Cond.fieldLink "PromiseChains" 130 "PromiseChains$Promises" "isTold" "[Z" ∈ tblG := mG (m1 (List.mem_of_getElem? (i := 125) rfl)) rfl
set_option maxRecDepth 20000 in
theorem q_126 : Cond.fieldLink "PromiseChains$Promises" 38 "PromiseChains$Promises" "lockPair" "[I" ∈ tblG := mG (m1 (List.mem_of_getElem? (i := 126) rfl)) rfl
set_option maxRecDepth 20000 in
theorem q_127 : Cond.fieldLink "PromiseChains$Promises" 41 "PromiseChains$Promises" "lockFrom" "[I" ∈ tblG := mG (m1 (List.mem_of_getElem? (i := 127) rfl)) rfl
set_option maxRecDepth 20000 in
theorem q_128 : Cond.fieldLink "PromiseChains$Promises" 44 "PromiseChains$Promises" "lockSum" "[I" ∈ tblG := mG (m1 (List.mem_of_getElem? (i := 128) rfl)) rfl
set_option maxRecDepth 20000 in
theorem q_129 : Cond.fieldLink "PromiseChains" 147 "PromiseChains$Promises" "lockSum" "[I" ∈ tblG := mG (m1 (List.mem_of_getElem? (i := 129) rfl)) rfl
set_option maxRecDepth 20000 in
theorem q_130 : Cond.fieldLink "PromiseChains$Promises" 47 "PromiseChains$Promises" "lockClock" "[I" ∈ tblG := mG (m1 (List.mem_of_getElem? (i := 130) rfl)) rfl
set_option maxRecDepth 20000 in
theorem q_131 : Cond.fieldLink "PromiseChains$Promises" 50 "PromiseChains$Promises" "lockPhase" "[I" ∈ tblG := mG (m1 (List.mem_of_getElem? (i := 131) rfl)) rfl
set_option maxRecDepth 20000 in
theorem q_132 : Cond.lays "PromiseChains$Promises" "PromiseChains$Promises" "size" "I" ∈ tblG := mG (m1 (List.mem_of_getElem? (i := 132) rfl)) rfl
set_option maxRecDepth 20000 in
theorem q_134 : Cond.lays "PromiseChains$Promises" "PromiseChains$Promises" "heldInAll" "I" ∈ tblG := mG (m1 (List.mem_of_getElem? (i := 134) rfl)) rfl
set_option maxRecDepth 20000 in
theorem q_136 : Cond.laysFinal "PromiseChains$Promises" "PromiseChains$Promises" "payer" "[I" ∈ tblG := mG (m1 (List.mem_of_getElem? (i := 136) rfl)) rfl
set_option maxRecDepth 20000 in
theorem q_138 : Cond.laysFinal "PromiseChains$Promises" "PromiseChains$Promises" "paid" "[I" ∈ tblG := mG (m1 (List.mem_of_getElem? (i := 138) rfl)) rfl
set_option maxRecDepth 20000 in
theorem q_140 : Cond.laysFinal "PromiseChains$Promises" "PromiseChains$Promises" "hops" "[I" ∈ tblG := mG (m1 (List.mem_of_getElem? (i := 140) rfl)) rfl
set_option maxRecDepth 20000 in
theorem q_142 : Cond.laysFinal "PromiseChains$Promises" "PromiseChains$Promises" "held" "[I" ∈ tblG := mG (m1 (List.mem_of_getElem? (i := 142) rfl)) rfl
set_option maxRecDepth 20000 in
theorem q_144 : Cond.laysFinal "PromiseChains$Promises" "PromiseChains$Promises" "kept" "[I" ∈ tblG := mG (m1 (List.mem_of_getElem? (i := 144) rfl)) rfl
set_option maxRecDepth 20000 in
theorem q_146 : Cond.laysFinal "PromiseChains$Promises" "PromiseChains$Promises" "isTold" "[Z" ∈ tblG := mG (m1 (List.mem_of_getElem? (i := 146) rfl)) rfl
set_option maxRecDepth 20000 in
theorem q_148 : Cond.laysFinal "PromiseChains$Promises" "PromiseChains$Promises" "lockPair" "[I" ∈ tblG := mG (m1 (List.mem_of_getElem? (i := 148) rfl)) rfl
set_option maxRecDepth 20000 in
theorem q_150 : Cond.laysFinal "PromiseChains$Promises" "PromiseChains$Promises" "lockFrom" "[I" ∈ tblG := mG (m1 (List.mem_of_getElem? (i := 150) rfl)) rfl
set_option maxRecDepth 20000 in
theorem q_152 : Cond.laysFinal "PromiseChains$Promises" "PromiseChains$Promises" "lockSum" "[I" ∈ tblG := mG (m1 (List.mem_of_getElem? (i := 152) rfl)) rfl
set_option maxRecDepth 20000 in
theorem q_154 : Cond.laysFinal "PromiseChains$Promises" "PromiseChains$Promises" "lockClock" "[I" ∈ tblG := mG (m1 (List.mem_of_getElem? (i := 154) rfl)) rfl
set_option maxRecDepth 20000 in
theorem q_156 : Cond.laysFinal "PromiseChains$Promises" "PromiseChains$Promises" "lockPhase" "[I" ∈ tblG := mG (m1 (List.mem_of_getElem? (i := 156) rfl)) rfl
set_option maxRecDepth 20000 in
theorem q_159 : Cond.classLink "PromiseChains" 30 "PromiseChains$WaySearch" ∈ tblG := mG (m1 (List.mem_of_getElem? (i := 159) rfl)) rfl
set_option maxRecDepth 20000 in
theorem q_160 : Cond.instantiable "PromiseChains$WaySearch" 6 ∈ tblG := mG (m1 (List.mem_of_getElem? (i := 160) rfl)) rfl
set_option maxRecDepth 20000 in
theorem q_162 : Cond.instanceMethod ⟨"PromiseChains$WaySearch", "<init>", "()V"⟩ ∈ tblG := mG (m1 (List.mem_of_getElem? (i := 162) rfl)) rfl
set_option maxRecDepth 20000 in
theorem q_163 : Cond.code ⟨"PromiseChains$WaySearch", "<init>", "()V"⟩ prog_7_method_1_code 1 none ∈ tblG := mG (m1 (List.mem_of_getElem? (i := 163) rfl)) rfl
set_option maxRecDepth 20000 in
theorem q_164 : Cond.methodLink "PromiseChains$WaySearch" 3 ⟨"java/lang/Object", "<init>", "()V"⟩ ∈ tblG := mG (m1 (List.mem_of_getElem? (i := 164) rfl)) rfl
set_option maxRecDepth 20000 in
theorem q_165 : Cond.classLink "PromiseChains$WaySearch" 22 "PromiseChains$Row" ∈ tblG := mG (m1 (List.mem_of_getElem? (i := 165) rfl)) rfl
set_option maxRecDepth 20000 in
theorem q_166 : Cond.instantiable "PromiseChains$Row" 3 ∈ tblG := mG (m1 (List.mem_of_getElem? (i := 166) rfl)) rfl
set_option maxRecDepth 20000 in
theorem q_168 : Cond.instanceMethod ⟨"PromiseChains$Row", "<init>", "()V"⟩ ∈ tblG := mG (m1 (List.mem_of_getElem? (i := 168) rfl)) rfl
set_option maxRecDepth 20000 in
theorem q_169 : Cond.code ⟨"PromiseChains$Row", "<init>", "()V"⟩ prog_6_method_1_code 1 none ∈ tblG := mG (m1 (List.mem_of_getElem? (i := 169) rfl)) rfl
set_option maxRecDepth 20000 in
theorem q_170 : Cond.methodLink "PromiseChains$Row" 3 ⟨"java/lang/Object", "<init>", "()V"⟩ ∈ tblG := mG (m1 (List.mem_of_getElem? (i := 170) rfl)) rfl
set_option maxRecDepth 20000 in
theorem q_171 : Cond.fieldLink "PromiseChains$Row" 9 "PromiseChains$Row" "length" "I" ∈ tblG := mG (m1 (List.mem_of_getElem? (i := 171) rfl)) rfl
set_option maxRecDepth 20000 in
theorem q_172 : Cond.fieldLink "PromiseChains$WaySearch" 35 "PromiseChains$Row" "length" "I" ∈ tblG := mG (m1 (List.mem_of_getElem? (i := 172) rfl)) rfl
set_option maxRecDepth 20000 in
theorem q_173 : Cond.fieldLink "PromiseChains$RingSearch" 38 "PromiseChains$Row" "length" "I" ∈ tblG := mG (m1 (List.mem_of_getElem? (i := 173) rfl)) rfl
set_option maxRecDepth 20000 in
theorem q_174 : Cond.fieldLink "PromiseChains" 74 "PromiseChains$Row" "length" "I" ∈ tblG := mG (m1 (List.mem_of_getElem? (i := 174) rfl)) rfl
set_option maxRecDepth 20000 in
theorem q_175 : Cond.fieldLink "PromiseChains$Pairs" 61 "PromiseChains$Row" "length" "I" ∈ tblG := mG (m1 (List.mem_of_getElem? (i := 175) rfl)) rfl
set_option maxRecDepth 20000 in
theorem q_176 : Cond.fieldLink "PromiseChains$Row" 15 "PromiseChains$Row" "pair" "[I" ∈ tblG := mG (m1 (List.mem_of_getElem? (i := 176) rfl)) rfl
set_option maxRecDepth 20000 in
theorem q_177 : Cond.fieldLink "PromiseChains$RingSearch" 60 "PromiseChains$Row" "pair" "[I" ∈ tblG := mG (m1 (List.mem_of_getElem? (i := 177) rfl)) rfl
set_option maxRecDepth 20000 in
theorem q_178 : Cond.fieldLink "PromiseChains$Pairs" 66 "PromiseChains$Row" "pair" "[I" ∈ tblG := mG (m1 (List.mem_of_getElem? (i := 178) rfl)) rfl
set_option maxRecDepth 20000 in
theorem q_179 : Cond.fieldLink "PromiseChains" 121 "PromiseChains$Row" "pair" "[I" ∈ tblG := mG (m1 (List.mem_of_getElem? (i := 179) rfl)) rfl
set_option maxRecDepth 20000 in
theorem q_180 : Cond.fieldLink "PromiseChains$Row" 19 "PromiseChains$Row" "from" "[I" ∈ tblG := mG (m1 (List.mem_of_getElem? (i := 180) rfl)) rfl
set_option maxRecDepth 20000 in
theorem q_181 : Cond.fieldLink "PromiseChains$RingSearch" 63 "PromiseChains$Row" "from" "[I" ∈ tblG := mG (m1 (List.mem_of_getElem? (i := 181) rfl)) rfl
set_option maxRecDepth 20000 in
theorem q_182 : Cond.fieldLink "PromiseChains" 214 "PromiseChains$Row" "from" "[I" ∈ tblG := mG (m1 (List.mem_of_getElem? (i := 182) rfl)) rfl
set_option maxRecDepth 20000 in
theorem q_183 : Cond.lays "PromiseChains$Row" "PromiseChains$Row" "length" "I" ∈ tblG := mG (m1 (List.mem_of_getElem? (i := 183) rfl)) rfl
set_option maxRecDepth 20000 in
theorem q_185 : Cond.laysFinal "PromiseChains$Row" "PromiseChains$Row" "pair" "[I" ∈ tblG := mG (m1 (List.mem_of_getElem? (i := 185) rfl)) rfl
set_option maxRecDepth 20000 in
theorem q_187 : Cond.laysFinal "PromiseChains$Row" "PromiseChains$Row" "from" "[I" ∈ tblG := mG (m1 (List.mem_of_getElem? (i := 187) rfl)) rfl
set_option maxRecDepth 20000 in
theorem q_190 : Cond.fieldLink "PromiseChains$WaySearch" 9 "PromiseChains$WaySearch" "start" "I" ∈ tblG := mG (m1 (List.mem_of_getElem? (i := 190) rfl)) rfl
set_option maxRecDepth 20000 in
theorem q_191 : Cond.fieldLink "PromiseChains" 282 "PromiseChains$WaySearch" "start" "I" ∈ tblG := mG (m1 (List.mem_of_getElem? (i := 191) rfl)) rfl
set_option maxRecDepth 20000 in
theorem q_192 : Cond.fieldLink "PromiseChains$WaySearch" 15 "PromiseChains$WaySearch" "bestCarries" "I" ∈ tblG := mG (m1 (List.mem_of_getElem? (i := 192) rfl)) rfl
set_option maxRecDepth 20000 in
theorem q_193 : Cond.fieldLink "PromiseChains" 118 "PromiseChains$WaySearch" "bestCarries" "I" ∈ tblG := mG (m1 (List.mem_of_getElem? (i := 193) rfl)) rfl
set_option maxRecDepth 20000 in
theorem q_194 : Cond.fieldLink "PromiseChains$WaySearch" 18 "PromiseChains$WaySearch" "isMet" "[Z" ∈ tblG := mG (m1 (List.mem_of_getElem? (i := 194) rfl)) rfl
set_option maxRecDepth 20000 in
theorem q_195 : Cond.fieldLink "PromiseChains" 288 "PromiseChains$WaySearch" "isMet" "[Z" ∈ tblG := mG (m1 (List.mem_of_getElem? (i := 195) rfl)) rfl
set_option maxRecDepth 20000 in
theorem q_196 : Cond.fieldLink "PromiseChains$WaySearch" 25 "PromiseChains$WaySearch" "back" "LPromiseChains$Row;" ∈ tblG := mG (m1 (List.mem_of_getElem? (i := 196) rfl)) rfl
set_option maxRecDepth 20000 in
theorem q_197 : Cond.fieldLink "PromiseChains" 276 "PromiseChains$WaySearch" "back" "LPromiseChains$Row;" ∈ tblG := mG (m1 (List.mem_of_getElem? (i := 197) rfl)) rfl
set_option maxRecDepth 20000 in
theorem q_198 : Cond.fieldLink "PromiseChains$WaySearch" 29 "PromiseChains$WaySearch" "turned" "LPromiseChains$Row;" ∈ tblG := mG (m1 (List.mem_of_getElem? (i := 198) rfl)) rfl
set_option maxRecDepth 20000 in
theorem q_199 : Cond.fieldLink "PromiseChains$WaySearch" 32 "PromiseChains$WaySearch" "best" "LPromiseChains$Row;" ∈ tblG := mG (m1 (List.mem_of_getElem? (i := 199) rfl)) rfl
set_option maxRecDepth 20000 in
theorem q_200 : Cond.fieldLink "PromiseChains" 111 "PromiseChains$WaySearch" "best" "LPromiseChains$Row;" ∈ tblG := mG (m1 (List.mem_of_getElem? (i := 200) rfl)) rfl
set_option maxRecDepth 20000 in
theorem q_201 : Cond.lays "PromiseChains$WaySearch" "PromiseChains$WaySearch" "start" "I" ∈ tblG := mG (m1 (List.mem_of_getElem? (i := 201) rfl)) rfl
set_option maxRecDepth 20000 in
theorem q_203 : Cond.lays "PromiseChains$WaySearch" "PromiseChains$WaySearch" "bestCarries" "I" ∈ tblG := mG (m1 (List.mem_of_getElem? (i := 203) rfl)) rfl
set_option maxRecDepth 20000 in
theorem q_205 : Cond.laysFinal "PromiseChains$WaySearch" "PromiseChains$WaySearch" "isMet" "[Z" ∈ tblG := mG (m1 (List.mem_of_getElem? (i := 205) rfl)) rfl
set_option maxRecDepth 20000 in
theorem q_207 : Cond.laysFinal "PromiseChains$WaySearch" "PromiseChains$WaySearch" "back" "LPromiseChains$Row;" ∈ tblG := mG (m1 (List.mem_of_getElem? (i := 207) rfl)) rfl
set_option maxRecDepth 20000 in
theorem q_209 : Cond.laysFinal "PromiseChains$WaySearch" "PromiseChains$WaySearch" "turned" "LPromiseChains$Row;" ∈ tblG := mG (m1 (List.mem_of_getElem? (i := 209) rfl)) rfl
set_option maxRecDepth 20000 in
theorem q_211 : Cond.laysFinal "PromiseChains$WaySearch" "PromiseChains$WaySearch" "best" "LPromiseChains$Row;" ∈ tblG := mG (m1 (List.mem_of_getElem? (i := 211) rfl)) rfl
set_option maxRecDepth 20000 in
theorem q_214 : Cond.classLink "PromiseChains" 37 "PromiseChains$RingSearch" ∈ tblG := mG (m1 (List.mem_of_getElem? (i := 214) rfl)) rfl
set_option maxRecDepth 20000 in
theorem q_215 : Cond.instantiable "PromiseChains$RingSearch" 7 ∈ tblG := mG (m1 (List.mem_of_getElem? (i := 215) rfl)) rfl
set_option maxRecDepth 20000 in
theorem q_217 : Cond.instanceMethod ⟨"PromiseChains$RingSearch", "<init>", "()V"⟩ ∈ tblG := mG (m1 (List.mem_of_getElem? (i := 217) rfl)) rfl
set_option maxRecDepth 20000 in
theorem q_218 : Cond.code ⟨"PromiseChains$RingSearch", "<init>", "()V"⟩ prog_5_method_1_code 1 none ∈ tblG := mG (m1 (List.mem_of_getElem? (i := 218) rfl)) rfl
set_option maxRecDepth 20000 in
theorem q_219 : Cond.methodLink "PromiseChains$RingSearch" 3 ⟨"java/lang/Object", "<init>", "()V"⟩ ∈ tblG := mG (m1 (List.mem_of_getElem? (i := 219) rfl)) rfl
set_option maxRecDepth 20000 in
theorem q_220 : Cond.classLink "PromiseChains$RingSearch" 28 "PromiseChains$Row" ∈ tblG := mG (m1 (List.mem_of_getElem? (i := 220) rfl)) rfl
set_option maxRecDepth 20000 in
theorem q_222 : Cond.fieldLink "PromiseChains$RingSearch" 9 "PromiseChains$RingSearch" "home" "I" ∈ tblG := mG (m1 (List.mem_of_getElem? (i := 222) rfl)) rfl
set_option maxRecDepth 20000 in
theorem q_223 : Cond.fieldLink "PromiseChains" 304 "PromiseChains$RingSearch" "home" "I" ∈ tblG := mG (m1 (List.mem_of_getElem? (i := 223) rfl)) rfl
set_option maxRecDepth 20000 in
theorem q_224 : Cond.fieldLink "PromiseChains$RingSearch" 15 "PromiseChains$RingSearch" "offBefore" "I" ∈ tblG := mG (m1 (List.mem_of_getElem? (i := 224) rfl)) rfl
set_option maxRecDepth 20000 in
theorem q_225 : Cond.fieldLink "PromiseChains$RingSearch" 18 "PromiseChains$RingSearch" "bestOff" "I" ∈ tblG := mG (m1 (List.mem_of_getElem? (i := 225) rfl)) rfl
set_option maxRecDepth 20000 in
theorem q_226 : Cond.fieldLink "PromiseChains" 208 "PromiseChains$RingSearch" "bestOff" "I" ∈ tblG := mG (m1 (List.mem_of_getElem? (i := 226) rfl)) rfl
set_option maxRecDepth 20000 in
theorem q_227 : Cond.fieldLink "PromiseChains$RingSearch" 21 "PromiseChains$RingSearch" "bestM" "I" ∈ tblG := mG (m1 (List.mem_of_getElem? (i := 227) rfl)) rfl
set_option maxRecDepth 20000 in
theorem q_228 : Cond.fieldLink "PromiseChains" 211 "PromiseChains$RingSearch" "bestM" "I" ∈ tblG := mG (m1 (List.mem_of_getElem? (i := 228) rfl)) rfl
set_option maxRecDepth 20000 in
theorem q_229 : Cond.fieldLink "PromiseChains$RingSearch" 24 "PromiseChains$RingSearch" "isMet" "[Z" ∈ tblG := mG (m1 (List.mem_of_getElem? (i := 229) rfl)) rfl
set_option maxRecDepth 20000 in
theorem q_230 : Cond.fieldLink "PromiseChains" 310 "PromiseChains$RingSearch" "isMet" "[Z" ∈ tblG := mG (m1 (List.mem_of_getElem? (i := 230) rfl)) rfl
set_option maxRecDepth 20000 in
theorem q_231 : Cond.fieldLink "PromiseChains$RingSearch" 31 "PromiseChains$RingSearch" "now" "LPromiseChains$Row;" ∈ tblG := mG (m1 (List.mem_of_getElem? (i := 231) rfl)) rfl
set_option maxRecDepth 20000 in
theorem q_232 : Cond.fieldLink "PromiseChains" 307 "PromiseChains$RingSearch" "now" "LPromiseChains$Row;" ∈ tblG := mG (m1 (List.mem_of_getElem? (i := 232) rfl)) rfl
set_option maxRecDepth 20000 in
theorem q_233 : Cond.fieldLink "PromiseChains$RingSearch" 35 "PromiseChains$RingSearch" "best" "LPromiseChains$Row;" ∈ tblG := mG (m1 (List.mem_of_getElem? (i := 233) rfl)) rfl
set_option maxRecDepth 20000 in
theorem q_234 : Cond.fieldLink "PromiseChains" 207 "PromiseChains$RingSearch" "best" "LPromiseChains$Row;" ∈ tblG := mG (m1 (List.mem_of_getElem? (i := 234) rfl)) rfl
set_option maxRecDepth 20000 in
theorem q_235 : Cond.lays "PromiseChains$RingSearch" "PromiseChains$RingSearch" "home" "I" ∈ tblG := mG (m1 (List.mem_of_getElem? (i := 235) rfl)) rfl
set_option maxRecDepth 20000 in
theorem q_237 : Cond.lays "PromiseChains$RingSearch" "PromiseChains$RingSearch" "offBefore" "I" ∈ tblG := mG (m1 (List.mem_of_getElem? (i := 237) rfl)) rfl
set_option maxRecDepth 20000 in
theorem q_239 : Cond.lays "PromiseChains$RingSearch" "PromiseChains$RingSearch" "bestOff" "I" ∈ tblG := mG (m1 (List.mem_of_getElem? (i := 239) rfl)) rfl
theorem q_241 : Cond.lays "PromiseChains$RingSearch" "PromiseChains$RingSearch" "bestM" "I" ∈ tblG := mG (m2 (List.mem_of_getElem? (i := 1) rfl)) rfl
theorem q_243 : Cond.laysFinal "PromiseChains$RingSearch" "PromiseChains$RingSearch" "isMet" "[Z" ∈ tblG := mG (m2 (List.mem_of_getElem? (i := 3) rfl)) rfl
theorem q_245 : Cond.laysFinal "PromiseChains$RingSearch" "PromiseChains$RingSearch" "now" "LPromiseChains$Row;" ∈ tblG := mG (m2 (List.mem_of_getElem? (i := 5) rfl)) rfl
theorem q_247 : Cond.laysFinal "PromiseChains$RingSearch" "PromiseChains$RingSearch" "best" "LPromiseChains$Row;" ∈ tblG := mG (m2 (List.mem_of_getElem? (i := 7) rfl)) rfl
theorem q_250 : Cond.classLink "PromiseChains" 44 "PromiseChains$Row" ∈ tblG := mG (m2 (List.mem_of_getElem? (i := 10) rfl)) rfl
theorem q_252 : Cond.methodLink "PromiseChains" 61 ⟨"PromiseChains$People", "begin", "(I)V"⟩ ∈ tblG := mG (m2 (List.mem_of_getElem? (i := 12) rfl)) rfl
theorem q_253 : Cond.instanceMethod ⟨"PromiseChains$People", "begin", "(I)V"⟩ ∈ tblG := mG (m2 (List.mem_of_getElem? (i := 13) rfl)) rfl
theorem q_254 : Cond.selects "PromiseChains$People" ⟨"PromiseChains$People", "begin", "(I)V"⟩ ⟨"PromiseChains$People", "begin", "(I)V"⟩ ∈ tblG := mG (m2 (List.mem_of_getElem? (i := 14) rfl)) rfl
theorem q_255 : Cond.code ⟨"PromiseChains$People", "begin", "(I)V"⟩ prog_3_method_2_code 3 none ∈ tblG := mG (m2 (List.mem_of_getElem? (i := 15) rfl)) rfl
theorem q_256 : Cond.fieldLink "PromiseChains" 12 "PromiseChains" "folk" "LPromiseChains$People;" ∈ tblG := mG (m2 (List.mem_of_getElem? (i := 16) rfl)) rfl
theorem q_257 : Cond.fieldLink "PromiseChains" 19 "PromiseChains" "pairs" "LPromiseChains$Pairs;" ∈ tblG := mG (m2 (List.mem_of_getElem? (i := 17) rfl)) rfl
theorem q_258 : Cond.fieldLink "PromiseChains" 26 "PromiseChains" "promises" "LPromiseChains$Promises;" ∈ tblG := mG (m2 (List.mem_of_getElem? (i := 18) rfl)) rfl
theorem q_259 : Cond.fieldLink "PromiseChains" 33 "PromiseChains" "ways" "LPromiseChains$WaySearch;" ∈ tblG := mG (m2 (List.mem_of_getElem? (i := 19) rfl)) rfl
theorem q_260 : Cond.fieldLink "PromiseChains" 40 "PromiseChains" "rings" "LPromiseChains$RingSearch;" ∈ tblG := mG (m2 (List.mem_of_getElem? (i := 20) rfl)) rfl
theorem q_261 : Cond.fieldLink "PromiseChains" 47 "PromiseChains" "latestWay" "LPromiseChains$Row;" ∈ tblG := mG (m2 (List.mem_of_getElem? (i := 21) rfl)) rfl
theorem q_262 : Cond.fieldLink "PromiseChains" 51 "PromiseChains" "time" "I" ∈ tblG := mG (m2 (List.mem_of_getElem? (i := 22) rfl)) rfl
theorem q_263 : Cond.fieldLink "PromiseChains" 55 "PromiseChains" "gap" "I" ∈ tblG := mG (m2 (List.mem_of_getElem? (i := 23) rfl)) rfl
theorem q_264 : Cond.fieldLink "PromiseChains" 58 "PromiseChains" "look" "I" ∈ tblG := mG (m2 (List.mem_of_getElem? (i := 24) rfl)) rfl
theorem q_265 : Cond.laysFinal "PromiseChains" "PromiseChains" "folk" "LPromiseChains$People;" ∈ tblG := mG (m2 (List.mem_of_getElem? (i := 25) rfl)) rfl
theorem q_267 : Cond.laysFinal "PromiseChains" "PromiseChains" "pairs" "LPromiseChains$Pairs;" ∈ tblG := mG (m2 (List.mem_of_getElem? (i := 27) rfl)) rfl
theorem q_269 : Cond.laysFinal "PromiseChains" "PromiseChains" "promises" "LPromiseChains$Promises;" ∈ tblG := mG (m2 (List.mem_of_getElem? (i := 29) rfl)) rfl
theorem q_271 : Cond.laysFinal "PromiseChains" "PromiseChains" "ways" "LPromiseChains$WaySearch;" ∈ tblG := mG (m2 (List.mem_of_getElem? (i := 31) rfl)) rfl
theorem q_273 : Cond.laysFinal "PromiseChains" "PromiseChains" "rings" "LPromiseChains$RingSearch;" ∈ tblG := mG (m2 (List.mem_of_getElem? (i := 33) rfl)) rfl
theorem q_275 : Cond.laysFinal "PromiseChains" "PromiseChains" "latestWay" "LPromiseChains$Row;" ∈ tblG := mG (m2 (List.mem_of_getElem? (i := 35) rfl)) rfl
theorem q_277 : Cond.lays "PromiseChains" "PromiseChains" "time" "I" ∈ tblG := mG (m2 (List.mem_of_getElem? (i := 37) rfl)) rfl
theorem q_279 : Cond.lays "PromiseChains" "PromiseChains" "gap" "I" ∈ tblG := mG (m2 (List.mem_of_getElem? (i := 39) rfl)) rfl
set_option maxRecDepth 20000 in
theorem q_281 : Cond.lays "PromiseChains" "PromiseChains" "look" "I" ∈ tblG := mG (m2 (List.mem_of_getElem? (i := 41) rfl)) rfl
set_option maxRecDepth 20000 in
theorem q_284 : Cond.methodLink "PromiseChainsLaw" 13 ⟨"PromiseChains", "people", "(I)I"⟩ ∈ tblG := mG (m2 (List.mem_of_getElem? (i := 44) rfl)) rfl
set_option maxRecDepth 20000 in
theorem q_285 : Cond.instanceMethod ⟨"PromiseChains", "people", "(I)I"⟩ ∈ tblG := mG (m2 (List.mem_of_getElem? (i := 45) rfl)) rfl
set_option maxRecDepth 20000 in
theorem q_286 : Cond.selects "PromiseChains" ⟨"PromiseChains", "people", "(I)I"⟩ ⟨"PromiseChains", "people", "(I)I"⟩ ∈ tblG := mG (m2 (List.mem_of_getElem? (i := 46) rfl)) rfl
set_option maxRecDepth 20000 in
theorem q_287 : Cond.code ⟨"PromiseChains", "people", "(I)I"⟩ prog_1_method_2_code 2 (some .int) ∈ tblG := mG (m2 (List.mem_of_getElem? (i := 47) rfl)) rfl
set_option maxRecDepth 20000 in
theorem q_288 : Cond.methodLink "PromiseChains" 65 ⟨"PromiseChains", "isWithin", "(III)Z"⟩ ∈ tblG := mG (m2 (List.mem_of_getElem? (i := 48) rfl)) rfl
set_option maxRecDepth 20000 in
theorem q_289 : Cond.static ⟨"PromiseChains", "isWithin", "(III)Z"⟩ ∈ tblG := mG (m2 (List.mem_of_getElem? (i := 49) rfl)) rfl
set_option maxRecDepth 20000 in
theorem q_290 : Cond.code ⟨"PromiseChains", "isWithin", "(III)Z"⟩ prog_1_method_28_code 3 (some .boolean) ∈ tblG := mG (m2 (List.mem_of_getElem? (i := 50) rfl)) rfl
set_option maxRecDepth 20000 in
theorem q_291 : Cond.methodLink "PromiseChains" 72 ⟨"PromiseChains$Promises", "begin", "()V"⟩ ∈ tblG := mG (m2 (List.mem_of_getElem? (i := 51) rfl)) rfl
set_option maxRecDepth 20000 in
theorem q_292 : Cond.instanceMethod ⟨"PromiseChains$Promises", "begin", "()V"⟩ ∈ tblG := mG (m2 (List.mem_of_getElem? (i := 52) rfl)) rfl
set_option maxRecDepth 20000 in
theorem q_293 : Cond.selects "PromiseChains$Promises" ⟨"PromiseChains$Promises", "begin", "()V"⟩ ⟨"PromiseChains$Promises", "begin", "()V"⟩ ∈ tblG := mG (m2 (List.mem_of_getElem? (i := 53) rfl)) rfl
set_option maxRecDepth 20000 in
theorem q_294 : Cond.code ⟨"PromiseChains$Promises", "begin", "()V"⟩ prog_4_method_2_code 1 none ∈ tblG := mG (m2 (List.mem_of_getElem? (i := 54) rfl)) rfl
set_option maxRecDepth 20000 in
theorem q_295 : Cond.methodLink "PromiseChainsLaw" 18 ⟨"PromiseChains", "pair", "(IIII)I"⟩ ∈ tblG := mG (m2 (List.mem_of_getElem? (i := 55) rfl)) rfl
set_option maxRecDepth 20000 in
theorem q_296 : Cond.instanceMethod ⟨"PromiseChains", "pair", "(IIII)I"⟩ ∈ tblG := mG (m2 (List.mem_of_getElem? (i := 56) rfl)) rfl
set_option maxRecDepth 20000 in
theorem q_297 : Cond.selects "PromiseChains" ⟨"PromiseChains", "pair", "(IIII)I"⟩ ⟨"PromiseChains", "pair", "(IIII)I"⟩ ∈ tblG := mG (m2 (List.mem_of_getElem? (i := 57) rfl)) rfl
set_option maxRecDepth 20000 in
theorem q_298 : Cond.code ⟨"PromiseChains", "pair", "(IIII)I"⟩ prog_1_method_3_code 5 (some .int) ∈ tblG := mG (m2 (List.mem_of_getElem? (i := 58) rfl)) rfl
set_option maxRecDepth 20000 in
theorem q_299 : Cond.methodLink "PromiseChains" 77 ⟨"PromiseChains$People", "has", "(I)Z"⟩ ∈ tblG := mG (m2 (List.mem_of_getElem? (i := 59) rfl)) rfl
set_option maxRecDepth 20000 in
theorem q_300 : Cond.instanceMethod ⟨"PromiseChains$People", "has", "(I)Z"⟩ ∈ tblG := mG (m2 (List.mem_of_getElem? (i := 60) rfl)) rfl
set_option maxRecDepth 20000 in
theorem q_301 : Cond.selects "PromiseChains$People" ⟨"PromiseChains$People", "has", "(I)Z"⟩ ⟨"PromiseChains$People", "has", "(I)Z"⟩ ∈ tblG := mG (m2 (List.mem_of_getElem? (i := 61) rfl)) rfl
set_option maxRecDepth 20000 in
theorem q_302 : Cond.code ⟨"PromiseChains$People", "has", "(I)Z"⟩ prog_3_method_3_code 2 (some .boolean) ∈ tblG := mG (m2 (List.mem_of_getElem? (i := 62) rfl)) rfl
set_option maxRecDepth 20000 in
theorem q_304 : Cond.constant "PromiseChains" 81 100000 ∈ tblG := mG (m2 (List.mem_of_getElem? (i := 64) rfl)) rfl
set_option maxRecDepth 20000 in
theorem q_305 : Cond.methodLink "PromiseChains" 82 ⟨"PromiseChains$Pairs", "add", "(IIII)I"⟩ ∈ tblG := mG (m2 (List.mem_of_getElem? (i := 65) rfl)) rfl
set_option maxRecDepth 20000 in
theorem q_306 : Cond.instanceMethod ⟨"PromiseChains$Pairs", "add", "(IIII)I"⟩ ∈ tblG := mG (m2 (List.mem_of_getElem? (i := 66) rfl)) rfl
set_option maxRecDepth 20000 in
theorem q_307 : Cond.selects "PromiseChains$Pairs" ⟨"PromiseChains$Pairs", "add", "(IIII)I"⟩ ⟨"PromiseChains$Pairs", "add", "(IIII)I"⟩ ∈ tblG := mG (m2 (List.mem_of_getElem? (i := 67) rfl)) rfl
set_option maxRecDepth 20000 in
theorem q_308 : Cond.code ⟨"PromiseChains$Pairs", "add", "(IIII)I"⟩ prog_2_method_3_code 6 (some .int) ∈ tblG := mG (m2 (List.mem_of_getElem? (i := 68) rfl)) rfl
set_option maxRecDepth 20000 in
theorem q_309 : Cond.methodLink "PromiseChains$Pairs" 53 ⟨"PromiseChains$Pairs", "setSides", "(III)V"⟩ ∈ tblG := mG (m2 (List.mem_of_getElem? (i := 69) rfl)) rfl
set_option maxRecDepth 20000 in
theorem q_310 : Cond.instanceMethod ⟨"PromiseChains$Pairs", "setSides", "(III)V"⟩ ∈ tblG := mG (m2 (List.mem_of_getElem? (i := 70) rfl)) rfl
set_option maxRecDepth 20000 in
theorem q_311 : Cond.selects "PromiseChains$Pairs" ⟨"PromiseChains$Pairs", "setSides", "(III)V"⟩ ⟨"PromiseChains$Pairs", "setSides", "(III)V"⟩ ∈ tblG := mG (m2 (List.mem_of_getElem? (i := 71) rfl)) rfl
set_option maxRecDepth 20000 in
theorem q_312 : Cond.code ⟨"PromiseChains$Pairs", "setSides", "(III)V"⟩ prog_2_method_9_code 4 none ∈ tblG := mG (m2 (List.mem_of_getElem? (i := 72) rfl)) rfl
set_option maxRecDepth 20000 in
theorem q_313 : Cond.methodLink "PromiseChains$Pairs" 57 ⟨"PromiseChains$Pairs", "addState", "(I)V"⟩ ∈ tblG := mG (m2 (List.mem_of_getElem? (i := 73) rfl)) rfl
set_option maxRecDepth 20000 in
theorem q_314 : Cond.instanceMethod ⟨"PromiseChains$Pairs", "addState", "(I)V"⟩ ∈ tblG := mG (m2 (List.mem_of_getElem? (i := 74) rfl)) rfl
set_option maxRecDepth 20000 in
theorem q_315 : Cond.selects "PromiseChains$Pairs" ⟨"PromiseChains$Pairs", "addState", "(I)V"⟩ ⟨"PromiseChains$Pairs", "addState", "(I)V"⟩ ∈ tblG := mG (m2 (List.mem_of_getElem? (i := 75) rfl)) rfl
set_option maxRecDepth 20000 in
theorem q_316 : Cond.code ⟨"PromiseChains$Pairs", "addState", "(I)V"⟩ prog_2_method_11_code 3 none ∈ tblG := mG (m2 (List.mem_of_getElem? (i := 76) rfl)) rfl
set_option maxRecDepth 20000 in
theorem q_317 : Cond.methodLink "PromiseChainsLaw" 23 ⟨"PromiseChains", "fee", "(III)I"⟩ ∈ tblG := mG (m2 (List.mem_of_getElem? (i := 77) rfl)) rfl
set_option maxRecDepth 20000 in
theorem q_318 : Cond.instanceMethod ⟨"PromiseChains", "fee", "(III)I"⟩ ∈ tblG := mG (m2 (List.mem_of_getElem? (i := 78) rfl)) rfl
set_option maxRecDepth 20000 in
theorem q_319 : Cond.selects "PromiseChains" ⟨"PromiseChains", "fee", "(III)I"⟩ ⟨"PromiseChains", "fee", "(III)I"⟩ ∈ tblG := mG (m2 (List.mem_of_getElem? (i := 79) rfl)) rfl
set_option maxRecDepth 20000 in
theorem q_320 : Cond.code ⟨"PromiseChains", "fee", "(III)I"⟩ prog_1_method_4_code 4 (some .int) ∈ tblG := mG (m2 (List.mem_of_getElem? (i := 80) rfl)) rfl
set_option maxRecDepth 20000 in
theorem q_321 : Cond.methodLink "PromiseChainsLaw" 28 ⟨"PromiseChains", "gap", "(I)I"⟩ ∈ tblG := mG (m2 (List.mem_of_getElem? (i := 81) rfl)) rfl
set_option maxRecDepth 20000 in
theorem q_322 : Cond.instanceMethod ⟨"PromiseChains", "gap", "(I)I"⟩ ∈ tblG := mG (m2 (List.mem_of_getElem? (i := 82) rfl)) rfl
set_option maxRecDepth 20000 in
theorem q_323 : Cond.selects "PromiseChains" ⟨"PromiseChains", "gap", "(I)I"⟩ ⟨"PromiseChains", "gap", "(I)I"⟩ ∈ tblG := mG (m2 (List.mem_of_getElem? (i := 83) rfl)) rfl
set_option maxRecDepth 20000 in
theorem q_324 : Cond.code ⟨"PromiseChains", "gap", "(I)I"⟩ prog_1_method_5_code 3 (some .int) ∈ tblG := mG (m2 (List.mem_of_getElem? (i := 84) rfl)) rfl
set_option maxRecDepth 20000 in
theorem q_325 : Cond.methodLink "PromiseChainsLaw" 32 ⟨"PromiseChains", "look", "(I)I"⟩ ∈ tblG := mG (m2 (List.mem_of_getElem? (i := 85) rfl)) rfl
set_option maxRecDepth 20000 in
theorem q_326 : Cond.instanceMethod ⟨"PromiseChains", "look", "(I)I"⟩ ∈ tblG := mG (m2 (List.mem_of_getElem? (i := 86) rfl)) rfl
set_option maxRecDepth 20000 in
theorem q_327 : Cond.selects "PromiseChains" ⟨"PromiseChains", "look", "(I)I"⟩ ⟨"PromiseChains", "look", "(I)I"⟩ ∈ tblG := mG (m2 (List.mem_of_getElem? (i := 87) rfl)) rfl
set_option maxRecDepth 20000 in
theorem q_328 : Cond.code ⟨"PromiseChains", "look", "(I)I"⟩ prog_1_method_6_code 3 (some .int) ∈ tblG := mG (m2 (List.mem_of_getElem? (i := 88) rfl)) rfl
set_option maxRecDepth 20000 in
theorem q_329 : Cond.methodLink "PromiseChainsLaw" 36 ⟨"PromiseChains", "away", "(IZ)I"⟩ ∈ tblG := mG (m2 (List.mem_of_getElem? (i := 89) rfl)) rfl
set_option maxRecDepth 20000 in
theorem q_330 : Cond.instanceMethod ⟨"PromiseChains", "away", "(IZ)I"⟩ ∈ tblG := mG (m2 (List.mem_of_getElem? (i := 90) rfl)) rfl
set_option maxRecDepth 20000 in
theorem q_331 : Cond.selects "PromiseChains" ⟨"PromiseChains", "away", "(IZ)I"⟩ ⟨"PromiseChains", "away", "(IZ)I"⟩ ∈ tblG := mG (m2 (List.mem_of_getElem? (i := 91) rfl)) rfl
set_option maxRecDepth 20000 in
theorem q_332 : Cond.code ⟨"PromiseChains", "away", "(IZ)I"⟩ prog_1_method_7_code 4 (some .int) ∈ tblG := mG (m2 (List.mem_of_getElem? (i := 92) rfl)) rfl
set_option maxRecDepth 20000 in
theorem q_333 : Cond.methodLink "PromiseChains" 97 ⟨"PromiseChains$Promises", "keepAll", "(LPromiseChains$People;LPromiseChains$Pairs;I)I"⟩ ∈ tblG := mG (m2 (List.mem_of_getElem? (i := 93) rfl)) rfl
set_option maxRecDepth 20000 in
theorem q_334 : Cond.instanceMethod ⟨"PromiseChains$Promises", "keepAll", "(LPromiseChains$People;LPromiseChains$Pairs;I)I"⟩ ∈ tblG := mG (m2 (List.mem_of_getElem? (i := 94) rfl)) rfl
set_option maxRecDepth 20000 in
theorem q_335 : Cond.selects "PromiseChains$Promises" ⟨"PromiseChains$Promises", "keepAll", "(LPromiseChains$People;LPromiseChains$Pairs;I)I"⟩ ⟨"PromiseChains$Promises", "keepAll", "(LPromiseChains$People;LPromiseChains$Pairs;I)I"⟩ ∈ tblG := mG (m2 (List.mem_of_getElem? (i := 95) rfl)) rfl
set_option maxRecDepth 20000 in
theorem q_336 : Cond.code ⟨"PromiseChains$Promises", "keepAll", "(LPromiseChains$People;LPromiseChains$Pairs;I)I"⟩ prog_4_method_8_code 7 (some .int) ∈ tblG := mG (m2 (List.mem_of_getElem? (i := 96) rfl)) rfl
set_option maxRecDepth 20000 in
theorem q_337 : Cond.methodLink "PromiseChains$Promises" 66 ⟨"PromiseChains$Promises", "keepRound", "(LPromiseChains$People;LPromiseChains$Pairs;I)I"⟩ ∈ tblG := mG (m2 (List.mem_of_getElem? (i := 97) rfl)) rfl
set_option maxRecDepth 20000 in
theorem q_338 : Cond.instanceMethod ⟨"PromiseChains$Promises", "keepRound", "(LPromiseChains$People;LPromiseChains$Pairs;I)I"⟩ ∈ tblG := mG (m2 (List.mem_of_getElem? (i := 98) rfl)) rfl
set_option maxRecDepth 20000 in
theorem q_339 : Cond.selects "PromiseChains$Promises" ⟨"PromiseChains$Promises", "keepRound", "(LPromiseChains$People;LPromiseChains$Pairs;I)I"⟩ ⟨"PromiseChains$Promises", "keepRound", "(LPromiseChains$People;LPromiseChains$Pairs;I)I"⟩ ∈ tblG := mG (m2 (List.mem_of_getElem? (i := 99) rfl)) rfl
set_option maxRecDepth 20000 in
theorem q_340 : Cond.code ⟨"PromiseChains$Promises", "keepRound", "(LPromiseChains$People;LPromiseChains$Pairs;I)I"⟩ prog_4_method_9_code 8 (some .int) ∈ tblG := mG (m2 (List.mem_of_getElem? (i := 100) rfl)) rfl
set_option maxRecDepth 20000 in
theorem q_341 : Cond.methodLink "PromiseChains$Promises" 70 ⟨"PromiseChains$Promises", "isWordKnown", "(II)Z"⟩ ∈ tblG := mG (m2 (List.mem_of_getElem? (i := 101) rfl)) rfl
set_option maxRecDepth 20000 in
theorem q_342 : Cond.instanceMethod ⟨"PromiseChains$Promises", "isWordKnown", "(II)Z"⟩ ∈ tblG := mG (m2 (List.mem_of_getElem? (i := 102) rfl)) rfl
set_option maxRecDepth 20000 in
theorem q_343 : Cond.selects "PromiseChains$Promises" ⟨"PromiseChains$Promises", "isWordKnown", "(II)Z"⟩ ⟨"PromiseChains$Promises", "isWordKnown", "(II)Z"⟩ ∈ tblG := mG (m2 (List.mem_of_getElem? (i := 103) rfl)) rfl
set_option maxRecDepth 20000 in
theorem q_344 : Cond.code ⟨"PromiseChains$Promises", "isWordKnown", "(II)Z"⟩ prog_4_method_10_code 3 (some .boolean) ∈ tblG := mG (m2 (List.mem_of_getElem? (i := 104) rfl)) rfl
set_option maxRecDepth 20000 in
theorem q_345 : Cond.methodLink "PromiseChains$Promises" 74 ⟨"PromiseChains$Promises", "mayBeKept", "(LPromiseChains$People;LPromiseChains$Pairs;II)Z"⟩ ∈ tblG := mG (m2 (List.mem_of_getElem? (i := 105) rfl)) rfl
set_option maxRecDepth 20000 in
theorem q_346 : Cond.instanceMethod ⟨"PromiseChains$Promises", "mayBeKept", "(LPromiseChains$People;LPromiseChains$Pairs;II)Z"⟩ ∈ tblG := mG (m2 (List.mem_of_getElem? (i := 106) rfl)) rfl
set_option maxRecDepth 20000 in
theorem q_347 : Cond.selects "PromiseChains$Promises" ⟨"PromiseChains$Promises", "mayBeKept", "(LPromiseChains$People;LPromiseChains$Pairs;II)Z"⟩ ⟨"PromiseChains$Promises", "mayBeKept", "(LPromiseChains$People;LPromiseChains$Pairs;II)Z"⟩ ∈ tblG := mG (m2 (List.mem_of_getElem? (i := 107) rfl)) rfl
set_option maxRecDepth 20000 in
theorem q_348 : Cond.code ⟨"PromiseChains$Promises", "mayBeKept", "(LPromiseChains$People;LPromiseChains$Pairs;II)Z"⟩ prog_4_method_11_code 6 (some .boolean) ∈ tblG := mG (m2 (List.mem_of_getElem? (i := 108) rfl)) rfl
set_option maxRecDepth 20000 in
theorem q_349 : Cond.methodLink "PromiseChains$Promises" 57 ⟨"PromiseChains$Promises", "endLock", "(III)V"⟩ ∈ tblG := mG (m2 (List.mem_of_getElem? (i := 109) rfl)) rfl
set_option maxRecDepth 20000 in
theorem q_350 : Cond.instanceMethod ⟨"PromiseChains$Promises", "endLock", "(III)V"⟩ ∈ tblG := mG (m2 (List.mem_of_getElem? (i := 110) rfl)) rfl
set_option maxRecDepth 20000 in
theorem q_351 : Cond.selects "PromiseChains$Promises" ⟨"PromiseChains$Promises", "endLock", "(III)V"⟩ ⟨"PromiseChains$Promises", "endLock", "(III)V"⟩ ∈ tblG := mG (m2 (List.mem_of_getElem? (i := 111) rfl)) rfl
set_option maxRecDepth 20000 in
theorem q_352 : Cond.code ⟨"PromiseChains$Promises", "endLock", "(III)V"⟩ prog_4_method_12_code 4 none ∈ tblG := mG (m2 (List.mem_of_getElem? (i := 112) rfl)) rfl
set_option maxRecDepth 20000 in
theorem q_353 : Cond.methodLink "PromiseChains$Promises" 78 ⟨"PromiseChains$Pairs", "handOver", "(III)V"⟩ ∈ tblG := mG (m2 (List.mem_of_getElem? (i := 113) rfl)) rfl
set_option maxRecDepth 20000 in
theorem q_354 : Cond.instanceMethod ⟨"PromiseChains$Pairs", "handOver", "(III)V"⟩ ∈ tblG := mG (m2 (List.mem_of_getElem? (i := 114) rfl)) rfl
set_option maxRecDepth 20000 in
theorem q_355 : Cond.selects "PromiseChains$Pairs" ⟨"PromiseChains$Pairs", "handOver", "(III)V"⟩ ⟨"PromiseChains$Pairs", "handOver", "(III)V"⟩ ∈ tblG := mG (m2 (List.mem_of_getElem? (i := 115) rfl)) rfl
set_option maxRecDepth 20000 in
theorem q_356 : Cond.code ⟨"PromiseChains$Pairs", "handOver", "(III)V"⟩ prog_2_method_14_code 4 none ∈ tblG := mG (m2 (List.mem_of_getElem? (i := 116) rfl)) rfl
set_option maxRecDepth 20000 in
theorem q_357 : Cond.methodLink "PromiseChains$Pairs" 75 ⟨"PromiseChains$Pairs", "addToSide", "(III)V"⟩ ∈ tblG := mG (m2 (List.mem_of_getElem? (i := 117) rfl)) rfl
set_option maxRecDepth 20000 in
theorem q_358 : Cond.instanceMethod ⟨"PromiseChains$Pairs", "addToSide", "(III)V"⟩ ∈ tblG := mG (m2 (List.mem_of_getElem? (i := 118) rfl)) rfl
set_option maxRecDepth 20000 in
theorem q_359 : Cond.selects "PromiseChains$Pairs" ⟨"PromiseChains$Pairs", "addToSide", "(III)V"⟩ ⟨"PromiseChains$Pairs", "addToSide", "(III)V"⟩ ∈ tblG := mG (m2 (List.mem_of_getElem? (i := 119) rfl)) rfl
set_option maxRecDepth 20000 in
theorem q_360 : Cond.code ⟨"PromiseChains$Pairs", "addToSide", "(III)V"⟩ prog_2_method_10_code 4 none ∈ tblG := mG (m2 (List.mem_of_getElem? (i := 120) rfl)) rfl
set_option maxRecDepth 20000 in
theorem q_361 : Cond.methodLink "PromiseChains" 101 ⟨"PromiseChains$Pairs", "settle", "(LPromiseChains$People;I)V"⟩ ∈ tblG := mG (m2 (List.mem_of_getElem? (i := 121) rfl)) rfl
set_option maxRecDepth 20000 in
theorem q_362 : Cond.instanceMethod ⟨"PromiseChains$Pairs", "settle", "(LPromiseChains$People;I)V"⟩ ∈ tblG := mG (m2 (List.mem_of_getElem? (i := 122) rfl)) rfl
set_option maxRecDepth 20000 in
theorem q_363 : Cond.selects "PromiseChains$Pairs" ⟨"PromiseChains$Pairs", "settle", "(LPromiseChains$People;I)V"⟩ ⟨"PromiseChains$Pairs", "settle", "(LPromiseChains$People;I)V"⟩ ∈ tblG := mG (m2 (List.mem_of_getElem? (i := 123) rfl)) rfl
set_option maxRecDepth 20000 in
theorem q_364 : Cond.code ⟨"PromiseChains$Pairs", "settle", "(LPromiseChains$People;I)V"⟩ prog_2_method_18_code 4 none ∈ tblG := mG (m2 (List.mem_of_getElem? (i := 124) rfl)) rfl
set_option maxRecDepth 20000 in
theorem q_365 : Cond.methodLink "PromiseChains$Pairs" 94 ⟨"PromiseChains$Pairs", "isCaught", "(ILPromiseChains$People;)Z"⟩ ∈ tblG := mG (m2 (List.mem_of_getElem? (i := 125) rfl)) rfl
set_option maxRecDepth 20000 in
theorem q_366 : Cond.instanceMethod ⟨"PromiseChains$Pairs", "isCaught", "(ILPromiseChains$People;)Z"⟩ ∈ tblG := mG (m2 (List.mem_of_getElem? (i := 126) rfl)) rfl
set_option maxRecDepth 20000 in
theorem q_367 : Cond.selects "PromiseChains$Pairs" ⟨"PromiseChains$Pairs", "isCaught", "(ILPromiseChains$People;)Z"⟩ ⟨"PromiseChains$Pairs", "isCaught", "(ILPromiseChains$People;)Z"⟩ ∈ tblG := mG (m2 (List.mem_of_getElem? (i := 127) rfl)) rfl
set_option maxRecDepth 20000 in
theorem q_368 : Cond.code ⟨"PromiseChains$Pairs", "isCaught", "(ILPromiseChains$People;)Z"⟩ prog_2_method_17_code 6 (some .boolean) ∈ tblG := mG (m2 (List.mem_of_getElem? (i := 128) rfl)) rfl
set_option maxRecDepth 20000 in
theorem q_369 : Cond.methodLink "PromiseChains$Pairs" 84 ⟨"PromiseChains$Pairs", "sideInState", "(III)I"⟩ ∈ tblG := mG (m2 (List.mem_of_getElem? (i := 129) rfl)) rfl
set_option maxRecDepth 20000 in
theorem q_370 : Cond.instanceMethod ⟨"PromiseChains$Pairs", "sideInState", "(III)I"⟩ ∈ tblG := mG (m2 (List.mem_of_getElem? (i := 130) rfl)) rfl
set_option maxRecDepth 20000 in
theorem q_371 : Cond.selects "PromiseChains$Pairs" ⟨"PromiseChains$Pairs", "sideInState", "(III)I"⟩ ⟨"PromiseChains$Pairs", "sideInState", "(III)I"⟩ ∈ tblG := mG (m2 (List.mem_of_getElem? (i := 131) rfl)) rfl
set_option maxRecDepth 20000 in
theorem q_372 : Cond.code ⟨"PromiseChains$Pairs", "sideInState", "(III)I"⟩ prog_2_method_7_code 4 (some .int) ∈ tblG := mG (m2 (List.mem_of_getElem? (i := 132) rfl)) rfl
set_option maxRecDepth 20000 in
theorem q_373 : Cond.methodLink "PromiseChains$Pairs" 91 ⟨"PromiseChains$Pairs", "finish", "(I)V"⟩ ∈ tblG := mG (m2 (List.mem_of_getElem? (i := 133) rfl)) rfl
set_option maxRecDepth 20000 in
theorem q_374 : Cond.instanceMethod ⟨"PromiseChains$Pairs", "finish", "(I)V"⟩ ∈ tblG := mG (m2 (List.mem_of_getElem? (i := 134) rfl)) rfl
set_option maxRecDepth 20000 in
theorem q_375 : Cond.selects "PromiseChains$Pairs" ⟨"PromiseChains$Pairs", "finish", "(I)V"⟩ ⟨"PromiseChains$Pairs", "finish", "(I)V"⟩ ∈ tblG := mG (m2 (List.mem_of_getElem? (i := 135) rfl)) rfl
set_option maxRecDepth 20000 in
theorem q_376 : Cond.code ⟨"PromiseChains$Pairs", "finish", "(I)V"⟩ prog_2_method_19_code 2 none ∈ tblG := mG (m2 (List.mem_of_getElem? (i := 136) rfl)) rfl
set_option maxRecDepth 20000 in
theorem q_377 : Cond.methodLink "PromiseChainsLaw" 41 ⟨"PromiseChains", "best", "(III)I"⟩ ∈ tblG := mG (m2 (List.mem_of_getElem? (i := 137) rfl)) rfl
set_option maxRecDepth 20000 in
theorem q_378 : Cond.instanceMethod ⟨"PromiseChains", "best", "(III)I"⟩ ∈ tblG := mG (m2 (List.mem_of_getElem? (i := 138) rfl)) rfl
set_option maxRecDepth 20000 in
theorem q_379 : Cond.selects "PromiseChains" ⟨"PromiseChains", "best", "(III)I"⟩ ⟨"PromiseChains", "best", "(III)I"⟩ ∈ tblG := mG (m2 (List.mem_of_getElem? (i := 139) rfl)) rfl
set_option maxRecDepth 20000 in
theorem q_380 : Cond.code ⟨"PromiseChains", "best", "(III)I"⟩ prog_1_method_8_code 4 (some .int) ∈ tblG := mG (m2 (List.mem_of_getElem? (i := 140) rfl)) rfl
set_option maxRecDepth 20000 in
theorem q_381 : Cond.methodLink "PromiseChains" 105 ⟨"PromiseChains", "mayAskWay", "(III)Z"⟩ ∈ tblG := mG (m2 (List.mem_of_getElem? (i := 141) rfl)) rfl
set_option maxRecDepth 20000 in
theorem q_383 : Cond.instanceMethod ⟨"PromiseChains", "mayAskWay", "(III)Z"⟩ ∈ tblG := mG (m2 (List.mem_of_getElem? (i := 143) rfl)) rfl
set_option maxRecDepth 20000 in
theorem q_384 : Cond.code ⟨"PromiseChains", "mayAskWay", "(III)Z"⟩ prog_1_method_29_code 4 (some .boolean) ∈ tblG := mG (m2 (List.mem_of_getElem? (i := 144) rfl)) rfl
set_option maxRecDepth 20000 in
theorem q_385 : Cond.methodLink "PromiseChains" 108 ⟨"PromiseChains", "findWay", "(III)Z"⟩ ∈ tblG := mG (m2 (List.mem_of_getElem? (i := 145) rfl)) rfl
set_option maxRecDepth 20000 in
theorem q_387 : Cond.instanceMethod ⟨"PromiseChains", "findWay", "(III)Z"⟩ ∈ tblG := mG (m2 (List.mem_of_getElem? (i := 147) rfl)) rfl
set_option maxRecDepth 20000 in
theorem q_388 : Cond.code ⟨"PromiseChains", "findWay", "(III)Z"⟩ prog_1_method_30_code 4 (some .boolean) ∈ tblG := mG (m2 (List.mem_of_getElem? (i := 148) rfl)) rfl
set_option maxRecDepth 20000 in
theorem q_389 : Cond.methodLink "PromiseChains" 269 ⟨"PromiseChains$WaySearch", "begin", "(II)V"⟩ ∈ tblG := mG (m2 (List.mem_of_getElem? (i := 149) rfl)) rfl
set_option maxRecDepth 20000 in
theorem q_390 : Cond.instanceMethod ⟨"PromiseChains$WaySearch", "begin", "(II)V"⟩ ∈ tblG := mG (m2 (List.mem_of_getElem? (i := 150) rfl)) rfl
set_option maxRecDepth 20000 in
theorem q_391 : Cond.selects "PromiseChains$WaySearch" ⟨"PromiseChains$WaySearch", "begin", "(II)V"⟩ ⟨"PromiseChains$WaySearch", "begin", "(II)V"⟩ ∈ tblG := mG (m2 (List.mem_of_getElem? (i := 151) rfl)) rfl
set_option maxRecDepth 20000 in
theorem q_392 : Cond.code ⟨"PromiseChains$WaySearch", "begin", "(II)V"⟩ prog_7_method_2_code 4 none ∈ tblG := mG (m2 (List.mem_of_getElem? (i := 152) rfl)) rfl
set_option maxRecDepth 20000 in
theorem q_393 : Cond.methodLink "PromiseChains" 272 ⟨"PromiseChains", "searchWays", "(LPromiseChains$WaySearch;LPromiseChains$People;LPromiseChains$Pairs;III)V"⟩ ∈ tblG := mG (m2 (List.mem_of_getElem? (i := 153) rfl)) rfl
set_option maxRecDepth 20000 in
theorem q_394 : Cond.static ⟨"PromiseChains", "searchWays", "(LPromiseChains$WaySearch;LPromiseChains$People;LPromiseChains$Pairs;III)V"⟩ ∈ tblG := mG (m2 (List.mem_of_getElem? (i := 154) rfl)) rfl
set_option maxRecDepth 20000 in
theorem q_395 : Cond.code ⟨"PromiseChains", "searchWays", "(LPromiseChains$WaySearch;LPromiseChains$People;LPromiseChains$Pairs;III)V"⟩ prog_1_method_31_code 9 none ∈ tblG := mG (m2 (List.mem_of_getElem? (i := 155) rfl)) rfl
set_option maxRecDepth 20000 in
theorem q_396 : Cond.methodLink "PromiseChains" 182 ⟨"PromiseChains$Pairs", "whichIs", "(II)I"⟩ ∈ tblG := mG (m2 (List.mem_of_getElem? (i := 156) rfl)) rfl
set_option maxRecDepth 20000 in
theorem q_397 : Cond.instanceMethod ⟨"PromiseChains$Pairs", "whichIs", "(II)I"⟩ ∈ tblG := mG (m2 (List.mem_of_getElem? (i := 157) rfl)) rfl
set_option maxRecDepth 20000 in
theorem q_398 : Cond.selects "PromiseChains$Pairs" ⟨"PromiseChains$Pairs", "whichIs", "(II)I"⟩ ⟨"PromiseChains$Pairs", "whichIs", "(II)I"⟩ ∈ tblG := mG (m2 (List.mem_of_getElem? (i := 158) rfl)) rfl
set_option maxRecDepth 20000 in
theorem q_399 : Cond.code ⟨"PromiseChains$Pairs", "whichIs", "(II)I"⟩ prog_2_method_4_code 3 (some .int) ∈ tblG := mG (m2 (List.mem_of_getElem? (i := 159) rfl)) rfl
set_option maxRecDepth 20000 in
theorem q_400 : Cond.methodLink "PromiseChains" 279 ⟨"PromiseChains$Row", "put", "(III)V"⟩ ∈ tblG := mG (m2 (List.mem_of_getElem? (i := 160) rfl)) rfl
set_option maxRecDepth 20000 in
theorem q_401 : Cond.instanceMethod ⟨"PromiseChains$Row", "put", "(III)V"⟩ ∈ tblG := mG (m2 (List.mem_of_getElem? (i := 161) rfl)) rfl
set_option maxRecDepth 20000 in
theorem q_402 : Cond.selects "PromiseChains$Row" ⟨"PromiseChains$Row", "put", "(III)V"⟩ ⟨"PromiseChains$Row", "put", "(III)V"⟩ ∈ tblG := mG (m2 (List.mem_of_getElem? (i := 162) rfl)) rfl
set_option maxRecDepth 20000 in
theorem q_403 : Cond.code ⟨"PromiseChains$Row", "put", "(III)V"⟩ prog_6_method_2_code 4 none ∈ tblG := mG (m2 (List.mem_of_getElem? (i := 163) rfl)) rfl
set_option maxRecDepth 20000 in
theorem q_404 : Cond.methodLink "PromiseChains" 285 ⟨"PromiseChains$WaySearch", "offer", "(II)V"⟩ ∈ tblG := mG (m2 (List.mem_of_getElem? (i := 164) rfl)) rfl
set_option maxRecDepth 20000 in
theorem q_405 : Cond.instanceMethod ⟨"PromiseChains$WaySearch", "offer", "(II)V"⟩ ∈ tblG := mG (m2 (List.mem_of_getElem? (i := 165) rfl)) rfl
set_option maxRecDepth 20000 in
theorem q_406 : Cond.selects "PromiseChains$WaySearch" ⟨"PromiseChains$WaySearch", "offer", "(II)V"⟩ ⟨"PromiseChains$WaySearch", "offer", "(II)V"⟩ ∈ tblG := mG (m2 (List.mem_of_getElem? (i := 166) rfl)) rfl
set_option maxRecDepth 20000 in
theorem q_407 : Cond.code ⟨"PromiseChains$WaySearch", "offer", "(II)V"⟩ prog_7_method_3_code 3 none ∈ tblG := mG (m2 (List.mem_of_getElem? (i := 167) rfl)) rfl
set_option maxRecDepth 20000 in
theorem q_408 : Cond.methodLink "PromiseChains$WaySearch" 38 ⟨"PromiseChains$Row", "takeTurned", "(LPromiseChains$Row;)V"⟩ ∈ tblG := mG (m2 (List.mem_of_getElem? (i := 168) rfl)) rfl
set_option maxRecDepth 20000 in
theorem q_409 : Cond.instanceMethod ⟨"PromiseChains$Row", "takeTurned", "(LPromiseChains$Row;)V"⟩ ∈ tblG := mG (m2 (List.mem_of_getElem? (i := 169) rfl)) rfl
set_option maxRecDepth 20000 in
theorem q_410 : Cond.selects "PromiseChains$Row" ⟨"PromiseChains$Row", "takeTurned", "(LPromiseChains$Row;)V"⟩ ⟨"PromiseChains$Row", "takeTurned", "(LPromiseChains$Row;)V"⟩ ∈ tblG := mG (m2 (List.mem_of_getElem? (i := 170) rfl)) rfl
set_option maxRecDepth 20000 in
theorem q_411 : Cond.code ⟨"PromiseChains$Row", "takeTurned", "(LPromiseChains$Row;)V"⟩ prog_6_method_4_code 3 none ∈ tblG := mG (m2 (List.mem_of_getElem? (i := 171) rfl)) rfl
set_option maxRecDepth 20000 in
theorem q_412 : Cond.methodLink "PromiseChains$Row" 22 ⟨"PromiseChains$Row", "put", "(III)V"⟩ ∈ tblG := mG (m2 (List.mem_of_getElem? (i := 172) rfl)) rfl
set_option maxRecDepth 20000 in
theorem q_413 : Cond.methodLink "PromiseChains$WaySearch" 42 ⟨"PromiseChains$Row", "isAhead", "(LPromiseChains$Row;)Z"⟩ ∈ tblG := mG (m2 (List.mem_of_getElem? (i := 173) rfl)) rfl
set_option maxRecDepth 20000 in
theorem q_414 : Cond.instanceMethod ⟨"PromiseChains$Row", "isAhead", "(LPromiseChains$Row;)Z"⟩ ∈ tblG := mG (m2 (List.mem_of_getElem? (i := 174) rfl)) rfl
set_option maxRecDepth 20000 in
theorem q_415 : Cond.selects "PromiseChains$Row" ⟨"PromiseChains$Row", "isAhead", "(LPromiseChains$Row;)Z"⟩ ⟨"PromiseChains$Row", "isAhead", "(LPromiseChains$Row;)Z"⟩ ∈ tblG := mG (m2 (List.mem_of_getElem? (i := 175) rfl)) rfl
set_option maxRecDepth 20000 in
theorem q_416 : Cond.code ⟨"PromiseChains$Row", "isAhead", "(LPromiseChains$Row;)Z"⟩ prog_6_method_5_code 3 (some .boolean) ∈ tblG := mG (m2 (List.mem_of_getElem? (i := 176) rfl)) rfl
set_option maxRecDepth 20000 in
theorem q_417 : Cond.methodLink "PromiseChains$WaySearch" 46 ⟨"PromiseChains$Row", "take", "(LPromiseChains$Row;)V"⟩ ∈ tblG := mG (m2 (List.mem_of_getElem? (i := 177) rfl)) rfl
set_option maxRecDepth 20000 in
theorem q_418 : Cond.instanceMethod ⟨"PromiseChains$Row", "take", "(LPromiseChains$Row;)V"⟩ ∈ tblG := mG (m2 (List.mem_of_getElem? (i := 178) rfl)) rfl
set_option maxRecDepth 20000 in
theorem q_419 : Cond.selects "PromiseChains$Row" ⟨"PromiseChains$Row", "take", "(LPromiseChains$Row;)V"⟩ ⟨"PromiseChains$Row", "take", "(LPromiseChains$Row;)V"⟩ ∈ tblG := mG (m2 (List.mem_of_getElem? (i := 179) rfl)) rfl
set_option maxRecDepth 20000 in
theorem q_420 : Cond.code ⟨"PromiseChains$Row", "take", "(LPromiseChains$Row;)V"⟩ prog_6_method_3_code 3 none ∈ tblG := mG (m2 (List.mem_of_getElem? (i := 180) rfl)) rfl
set_option maxRecDepth 20000 in
theorem q_421 : Cond.methodLink "PromiseChains" 291 ⟨"PromiseChains$People", "feeOf", "(II)I"⟩ ∈ tblG := mG (m2 (List.mem_of_getElem? (i := 181) rfl)) rfl
set_option maxRecDepth 20000 in
theorem q_422 : Cond.instanceMethod ⟨"PromiseChains$People", "feeOf", "(II)I"⟩ ∈ tblG := mG (m2 (List.mem_of_getElem? (i := 182) rfl)) rfl
set_option maxRecDepth 20000 in
theorem q_423 : Cond.selects "PromiseChains$People" ⟨"PromiseChains$People", "feeOf", "(II)I"⟩ ⟨"PromiseChains$People", "feeOf", "(II)I"⟩ ∈ tblG := mG (m2 (List.mem_of_getElem? (i := 183) rfl)) rfl
set_option maxRecDepth 20000 in
theorem q_424 : Cond.code ⟨"PromiseChains$People", "feeOf", "(II)I"⟩ prog_3_method_4_code 3 (some .int) ∈ tblG := mG (m2 (List.mem_of_getElem? (i := 184) rfl)) rfl
set_option maxRecDepth 20000 in
theorem q_425 : Cond.methodLink "PromiseChains" 114 ⟨"PromiseChains$Row", "take", "(LPromiseChains$Row;)V"⟩ ∈ tblG := mG (m2 (List.mem_of_getElem? (i := 185) rfl)) rfl
set_option maxRecDepth 20000 in
theorem q_426 : Cond.methodLink "PromiseChainsLaw" 45 ⟨"PromiseChains", "wayAt", "(I)I"⟩ ∈ tblG := mG (m2 (List.mem_of_getElem? (i := 186) rfl)) rfl
set_option maxRecDepth 20000 in
theorem q_427 : Cond.instanceMethod ⟨"PromiseChains", "wayAt", "(I)I"⟩ ∈ tblG := mG (m2 (List.mem_of_getElem? (i := 187) rfl)) rfl
set_option maxRecDepth 20000 in
theorem q_428 : Cond.selects "PromiseChains" ⟨"PromiseChains", "wayAt", "(I)I"⟩ ⟨"PromiseChains", "wayAt", "(I)I"⟩ ∈ tblG := mG (m2 (List.mem_of_getElem? (i := 188) rfl)) rfl
set_option maxRecDepth 20000 in
theorem q_429 : Cond.code ⟨"PromiseChains", "wayAt", "(I)I"⟩ prog_1_method_9_code 2 (some .int) ∈ tblG := mG (m2 (List.mem_of_getElem? (i := 189) rfl)) rfl
set_option maxRecDepth 20000 in
theorem q_430 : Cond.methodLink "PromiseChainsLaw" 49 ⟨"PromiseChains", "promise", "(III)I"⟩ ∈ tblG := mG (m2 (List.mem_of_getElem? (i := 190) rfl)) rfl
set_option maxRecDepth 20000 in
theorem q_431 : Cond.instanceMethod ⟨"PromiseChains", "promise", "(III)I"⟩ ∈ tblG := mG (m2 (List.mem_of_getElem? (i := 191) rfl)) rfl
set_option maxRecDepth 20000 in
theorem q_432 : Cond.selects "PromiseChains" ⟨"PromiseChains", "promise", "(III)I"⟩ ⟨"PromiseChains", "promise", "(III)I"⟩ ∈ tblG := mG (m2 (List.mem_of_getElem? (i := 192) rfl)) rfl
set_option maxRecDepth 20000 in
theorem q_433 : Cond.code ⟨"PromiseChains", "promise", "(III)I"⟩ prog_1_method_10_code 4 (some .int) ∈ tblG := mG (m2 (List.mem_of_getElem? (i := 193) rfl)) rfl
set_option maxRecDepth 20000 in
theorem q_434 : Cond.methodLink "PromiseChains" 125 ⟨"PromiseChains", "lockAlong", "(II)I"⟩ ∈ tblG := mG (m2 (List.mem_of_getElem? (i := 194) rfl)) rfl
set_option maxRecDepth 20000 in
theorem q_436 : Cond.instanceMethod ⟨"PromiseChains", "lockAlong", "(II)I"⟩ ∈ tblG := mG (m2 (List.mem_of_getElem? (i := 196) rfl)) rfl
set_option maxRecDepth 20000 in
theorem q_437 : Cond.code ⟨"PromiseChains", "lockAlong", "(II)I"⟩ prog_1_method_32_code 8 (some .int) ∈ tblG := mG (m2 (List.mem_of_getElem? (i := 197) rfl)) rfl
set_option maxRecDepth 20000 in
theorem q_438 : Cond.methodLink "PromiseChains" 294 ⟨"PromiseChains$Promises", "add", "(III)I"⟩ ∈ tblG := mG (m2 (List.mem_of_getElem? (i := 198) rfl)) rfl
set_option maxRecDepth 20000 in
theorem q_439 : Cond.instanceMethod ⟨"PromiseChains$Promises", "add", "(III)I"⟩ ∈ tblG := mG (m2 (List.mem_of_getElem? (i := 199) rfl)) rfl
set_option maxRecDepth 20000 in
theorem q_440 : Cond.selects "PromiseChains$Promises" ⟨"PromiseChains$Promises", "add", "(III)I"⟩ ⟨"PromiseChains$Promises", "add", "(III)I"⟩ ∈ tblG := mG (m2 (List.mem_of_getElem? (i := 200) rfl)) rfl
set_option maxRecDepth 20000 in
theorem q_441 : Cond.code ⟨"PromiseChains$Promises", "add", "(III)I"⟩ prog_4_method_4_code 5 (some .int) ∈ tblG := mG (m2 (List.mem_of_getElem? (i := 201) rfl)) rfl
set_option maxRecDepth 20000 in
theorem q_442 : Cond.methodLink "PromiseChains" 296 ⟨"PromiseChains$Promises", "putLock", "(IIIIII)V"⟩ ∈ tblG := mG (m2 (List.mem_of_getElem? (i := 202) rfl)) rfl
set_option maxRecDepth 20000 in
theorem q_443 : Cond.instanceMethod ⟨"PromiseChains$Promises", "putLock", "(IIIIII)V"⟩ ∈ tblG := mG (m2 (List.mem_of_getElem? (i := 203) rfl)) rfl
set_option maxRecDepth 20000 in
theorem q_444 : Cond.selects "PromiseChains$Promises" ⟨"PromiseChains$Promises", "putLock", "(IIIIII)V"⟩ ⟨"PromiseChains$Promises", "putLock", "(IIIIII)V"⟩ ∈ tblG := mG (m2 (List.mem_of_getElem? (i := 204) rfl)) rfl
set_option maxRecDepth 20000 in
theorem q_445 : Cond.code ⟨"PromiseChains$Promises", "putLock", "(IIIIII)V"⟩ prog_4_method_5_code 8 none ∈ tblG := mG (m2 (List.mem_of_getElem? (i := 205) rfl)) rfl
set_option maxRecDepth 20000 in
theorem q_446 : Cond.methodLink "PromiseChains" 300 ⟨"PromiseChains$Pairs", "lock", "(III)V"⟩ ∈ tblG := mG (m2 (List.mem_of_getElem? (i := 206) rfl)) rfl
set_option maxRecDepth 20000 in
theorem q_447 : Cond.instanceMethod ⟨"PromiseChains$Pairs", "lock", "(III)V"⟩ ∈ tblG := mG (m2 (List.mem_of_getElem? (i := 207) rfl)) rfl
set_option maxRecDepth 20000 in
theorem q_448 : Cond.selects "PromiseChains$Pairs" ⟨"PromiseChains$Pairs", "lock", "(III)V"⟩ ⟨"PromiseChains$Pairs", "lock", "(III)V"⟩ ∈ tblG := mG (m2 (List.mem_of_getElem? (i := 208) rfl)) rfl
set_option maxRecDepth 20000 in
theorem q_449 : Cond.code ⟨"PromiseChains$Pairs", "lock", "(III)V"⟩ prog_2_method_12_code 4 none ∈ tblG := mG (m2 (List.mem_of_getElem? (i := 209) rfl)) rfl
set_option maxRecDepth 20000 in
theorem q_450 : Cond.methodLink "PromiseChainsLaw" 53 ⟨"PromiseChains", "tell", "(I)I"⟩ ∈ tblG := mG (m2 (List.mem_of_getElem? (i := 210) rfl)) rfl
set_option maxRecDepth 20000 in
theorem q_451 : Cond.instanceMethod ⟨"PromiseChains", "tell", "(I)I"⟩ ∈ tblG := mG (m2 (List.mem_of_getElem? (i := 211) rfl)) rfl
set_option maxRecDepth 20000 in
theorem q_452 : Cond.selects "PromiseChains" ⟨"PromiseChains", "tell", "(I)I"⟩ ⟨"PromiseChains", "tell", "(I)I"⟩ ∈ tblG := mG (m2 (List.mem_of_getElem? (i := 212) rfl)) rfl
set_option maxRecDepth 20000 in
theorem q_453 : Cond.code ⟨"PromiseChains", "tell", "(I)I"⟩ prog_1_method_11_code 2 (some .int) ∈ tblG := mG (m2 (List.mem_of_getElem? (i := 213) rfl)) rfl
set_option maxRecDepth 20000 in
theorem q_454 : Cond.methodLink "PromiseChains" 129 ⟨"PromiseChains$Promises", "has", "(I)Z"⟩ ∈ tblG := mG (m2 (List.mem_of_getElem? (i := 214) rfl)) rfl
set_option maxRecDepth 20000 in
theorem q_455 : Cond.instanceMethod ⟨"PromiseChains$Promises", "has", "(I)Z"⟩ ∈ tblG := mG (m2 (List.mem_of_getElem? (i := 215) rfl)) rfl
set_option maxRecDepth 20000 in
theorem q_456 : Cond.selects "PromiseChains$Promises" ⟨"PromiseChains$Promises", "has", "(I)Z"⟩ ⟨"PromiseChains$Promises", "has", "(I)Z"⟩ ∈ tblG := mG (m2 (List.mem_of_getElem? (i := 216) rfl)) rfl
set_option maxRecDepth 20000 in
theorem q_457 : Cond.code ⟨"PromiseChains$Promises", "has", "(I)Z"⟩ prog_4_method_3_code 2 (some .boolean) ∈ tblG := mG (m2 (List.mem_of_getElem? (i := 217) rfl)) rfl
set_option maxRecDepth 20000 in
theorem q_459 : Cond.methodLink "PromiseChainsLaw" 57 ⟨"PromiseChains", "tick", "(I)I"⟩ ∈ tblG := mG (m2 (List.mem_of_getElem? (i := 219) rfl)) rfl
set_option maxRecDepth 20000 in
theorem q_460 : Cond.instanceMethod ⟨"PromiseChains", "tick", "(I)I"⟩ ∈ tblG := mG (m2 (List.mem_of_getElem? (i := 220) rfl)) rfl
set_option maxRecDepth 20000 in
theorem q_461 : Cond.selects "PromiseChains" ⟨"PromiseChains", "tick", "(I)I"⟩ ⟨"PromiseChains", "tick", "(I)I"⟩ ∈ tblG := mG (m2 (List.mem_of_getElem? (i := 221) rfl)) rfl
set_option maxRecDepth 20000 in
theorem q_462 : Cond.code ⟨"PromiseChains", "tick", "(I)I"⟩ prog_1_method_12_code 4 (some .int) ∈ tblG := mG (m2 (List.mem_of_getElem? (i := 222) rfl)) rfl
set_option maxRecDepth 20000 in
theorem q_463 : Cond.methodLink "PromiseChains" 136 ⟨"PromiseChains$Promises", "runOut", "(LPromiseChains$Pairs;I)I"⟩ ∈ tblG := mG (m2 (List.mem_of_getElem? (i := 223) rfl)) rfl
set_option maxRecDepth 20000 in
theorem q_464 : Cond.instanceMethod ⟨"PromiseChains$Promises", "runOut", "(LPromiseChains$Pairs;I)I"⟩ ∈ tblG := mG (m2 (List.mem_of_getElem? (i := 224) rfl)) rfl
set_option maxRecDepth 20000 in
theorem q_465 : Cond.selects "PromiseChains$Promises" ⟨"PromiseChains$Promises", "runOut", "(LPromiseChains$Pairs;I)I"⟩ ⟨"PromiseChains$Promises", "runOut", "(LPromiseChains$Pairs;I)I"⟩ ∈ tblG := mG (m2 (List.mem_of_getElem? (i := 225) rfl)) rfl
set_option maxRecDepth 20000 in
theorem q_466 : Cond.code ⟨"PromiseChains$Promises", "runOut", "(LPromiseChains$Pairs;I)I"⟩ prog_4_method_7_code 7 (some .int) ∈ tblG := mG (m2 (List.mem_of_getElem? (i := 226) rfl)) rfl
set_option maxRecDepth 20000 in
theorem q_467 : Cond.methodLink "PromiseChains$Promises" 61 ⟨"PromiseChains$Pairs", "giveBack", "(III)V"⟩ ∈ tblG := mG (m2 (List.mem_of_getElem? (i := 227) rfl)) rfl
set_option maxRecDepth 20000 in
theorem q_468 : Cond.instanceMethod ⟨"PromiseChains$Pairs", "giveBack", "(III)V"⟩ ∈ tblG := mG (m2 (List.mem_of_getElem? (i := 228) rfl)) rfl
set_option maxRecDepth 20000 in
theorem q_469 : Cond.selects "PromiseChains$Pairs" ⟨"PromiseChains$Pairs", "giveBack", "(III)V"⟩ ⟨"PromiseChains$Pairs", "giveBack", "(III)V"⟩ ∈ tblG := mG (m2 (List.mem_of_getElem? (i := 229) rfl)) rfl
set_option maxRecDepth 20000 in
theorem q_470 : Cond.code ⟨"PromiseChains$Pairs", "giveBack", "(III)V"⟩ prog_2_method_13_code 4 none ∈ tblG := mG (m2 (List.mem_of_getElem? (i := 230) rfl)) rfl
set_option maxRecDepth 20000 in
theorem q_471 : Cond.methodLink "PromiseChainsLaw" 61 ⟨"PromiseChains", "promiseAt", "(II)I"⟩ ∈ tblG := mG (m2 (List.mem_of_getElem? (i := 231) rfl)) rfl
set_option maxRecDepth 20000 in
theorem q_472 : Cond.instanceMethod ⟨"PromiseChains", "promiseAt", "(II)I"⟩ ∈ tblG := mG (m2 (List.mem_of_getElem? (i := 232) rfl)) rfl
set_option maxRecDepth 20000 in
theorem q_473 : Cond.selects "PromiseChains" ⟨"PromiseChains", "promiseAt", "(II)I"⟩ ⟨"PromiseChains", "promiseAt", "(II)I"⟩ ∈ tblG := mG (m2 (List.mem_of_getElem? (i := 233) rfl)) rfl
set_option maxRecDepth 20000 in
theorem q_474 : Cond.code ⟨"PromiseChains", "promiseAt", "(II)I"⟩ prog_1_method_13_code 3 (some .int) ∈ tblG := mG (m2 (List.mem_of_getElem? (i := 234) rfl)) rfl
set_option maxRecDepth 20000 in
theorem q_475 : Cond.methodLink "PromiseChains" 140 ⟨"PromiseChains$Promises", "outcome", "(I)I"⟩ ∈ tblG := mG (m2 (List.mem_of_getElem? (i := 235) rfl)) rfl
set_option maxRecDepth 20000 in
theorem q_476 : Cond.instanceMethod ⟨"PromiseChains$Promises", "outcome", "(I)I"⟩ ∈ tblG := mG (m2 (List.mem_of_getElem? (i := 236) rfl)) rfl
set_option maxRecDepth 20000 in
theorem q_477 : Cond.selects "PromiseChains$Promises" ⟨"PromiseChains$Promises", "outcome", "(I)I"⟩ ⟨"PromiseChains$Promises", "outcome", "(I)I"⟩ ∈ tblG := mG (m2 (List.mem_of_getElem? (i := 237) rfl)) rfl
set_option maxRecDepth 20000 in
theorem q_478 : Cond.code ⟨"PromiseChains$Promises", "outcome", "(I)I"⟩ prog_4_method_6_code 2 (some .int) ∈ tblG := mG (m2 (List.mem_of_getElem? (i := 238) rfl)) rfl
set_option maxRecDepth 20000 in
theorem q_479 : Cond.methodLink "PromiseChainsLaw" 66 ⟨"PromiseChains", "side", "(II)I"⟩ ∈ tblG := mG (m2 (List.mem_of_getElem? (i := 239) rfl)) rfl
theorem q_480 : Cond.instanceMethod ⟨"PromiseChains", "side", "(II)I"⟩ ∈ tblG := mG (m3 (List.mem_of_getElem? (i := 0) rfl)) rfl
theorem q_481 : Cond.selects "PromiseChains" ⟨"PromiseChains", "side", "(II)I"⟩ ⟨"PromiseChains", "side", "(II)I"⟩ ∈ tblG := mG (m3 (List.mem_of_getElem? (i := 1) rfl)) rfl
theorem q_482 : Cond.code ⟨"PromiseChains", "side", "(II)I"⟩ prog_1_method_14_code 3 (some .int) ∈ tblG := mG (m3 (List.mem_of_getElem? (i := 2) rfl)) rfl
theorem q_483 : Cond.methodLink "PromiseChains" 159 ⟨"PromiseChains$Pairs", "has", "(I)Z"⟩ ∈ tblG := mG (m3 (List.mem_of_getElem? (i := 3) rfl)) rfl
theorem q_484 : Cond.instanceMethod ⟨"PromiseChains$Pairs", "has", "(I)Z"⟩ ∈ tblG := mG (m3 (List.mem_of_getElem? (i := 4) rfl)) rfl
theorem q_485 : Cond.selects "PromiseChains$Pairs" ⟨"PromiseChains$Pairs", "has", "(I)Z"⟩ ⟨"PromiseChains$Pairs", "has", "(I)Z"⟩ ∈ tblG := mG (m3 (List.mem_of_getElem? (i := 5) rfl)) rfl
theorem q_486 : Cond.code ⟨"PromiseChains$Pairs", "has", "(I)Z"⟩ prog_2_method_2_code 2 (some .boolean) ∈ tblG := mG (m3 (List.mem_of_getElem? (i := 6) rfl)) rfl
theorem q_488 : Cond.methodLink "PromiseChainsLaw" 70 ⟨"PromiseChains", "locked", "(II)I"⟩ ∈ tblG := mG (m3 (List.mem_of_getElem? (i := 8) rfl)) rfl
theorem q_489 : Cond.instanceMethod ⟨"PromiseChains", "locked", "(II)I"⟩ ∈ tblG := mG (m3 (List.mem_of_getElem? (i := 9) rfl)) rfl
theorem q_490 : Cond.selects "PromiseChains" ⟨"PromiseChains", "locked", "(II)I"⟩ ⟨"PromiseChains", "locked", "(II)I"⟩ ∈ tblG := mG (m3 (List.mem_of_getElem? (i := 10) rfl)) rfl
theorem q_491 : Cond.code ⟨"PromiseChains", "locked", "(II)I"⟩ prog_1_method_15_code 3 (some .int) ∈ tblG := mG (m3 (List.mem_of_getElem? (i := 11) rfl)) rfl
theorem q_492 : Cond.methodLink "PromiseChainsLaw" 74 ⟨"PromiseChains", "about", "(II)I"⟩ ∈ tblG := mG (m3 (List.mem_of_getElem? (i := 12) rfl)) rfl
theorem q_493 : Cond.instanceMethod ⟨"PromiseChains", "about", "(II)I"⟩ ∈ tblG := mG (m3 (List.mem_of_getElem? (i := 13) rfl)) rfl
theorem q_494 : Cond.selects "PromiseChains" ⟨"PromiseChains", "about", "(II)I"⟩ ⟨"PromiseChains", "about", "(II)I"⟩ ∈ tblG := mG (m3 (List.mem_of_getElem? (i := 14) rfl)) rfl
theorem q_495 : Cond.code ⟨"PromiseChains", "about", "(II)I"⟩ prog_1_method_16_code 3 (some .int) ∈ tblG := mG (m3 (List.mem_of_getElem? (i := 15) rfl)) rfl
theorem q_496 : Cond.methodLink "PromiseChainsLaw" 78 ⟨"PromiseChains", "stateAt", "(III)I"⟩ ∈ tblG := mG (m3 (List.mem_of_getElem? (i := 16) rfl)) rfl
theorem q_497 : Cond.instanceMethod ⟨"PromiseChains", "stateAt", "(III)I"⟩ ∈ tblG := mG (m3 (List.mem_of_getElem? (i := 17) rfl)) rfl
theorem q_498 : Cond.selects "PromiseChains" ⟨"PromiseChains", "stateAt", "(III)I"⟩ ⟨"PromiseChains", "stateAt", "(III)I"⟩ ∈ tblG := mG (m3 (List.mem_of_getElem? (i := 18) rfl)) rfl
theorem q_499 : Cond.code ⟨"PromiseChains", "stateAt", "(III)I"⟩ prog_1_method_17_code 4 (some .int) ∈ tblG := mG (m3 (List.mem_of_getElem? (i := 19) rfl)) rfl
theorem q_500 : Cond.methodLink "PromiseChains" 178 ⟨"PromiseChains$Pairs", "sideInState", "(III)I"⟩ ∈ tblG := mG (m3 (List.mem_of_getElem? (i := 20) rfl)) rfl
theorem q_501 : Cond.methodLink "PromiseChainsLaw" 82 ⟨"PromiseChains", "close", "(III)I"⟩ ∈ tblG := mG (m3 (List.mem_of_getElem? (i := 21) rfl)) rfl
theorem q_502 : Cond.instanceMethod ⟨"PromiseChains", "close", "(III)I"⟩ ∈ tblG := mG (m3 (List.mem_of_getElem? (i := 22) rfl)) rfl
theorem q_503 : Cond.selects "PromiseChains" ⟨"PromiseChains", "close", "(III)I"⟩ ⟨"PromiseChains", "close", "(III)I"⟩ ∈ tblG := mG (m3 (List.mem_of_getElem? (i := 23) rfl)) rfl
theorem q_504 : Cond.code ⟨"PromiseChains", "close", "(III)I"⟩ prog_1_method_18_code 5 (some .int) ∈ tblG := mG (m3 (List.mem_of_getElem? (i := 24) rfl)) rfl
theorem q_505 : Cond.methodLink "PromiseChains" 185 ⟨"PromiseChains$Pairs", "isFree", "(I)Z"⟩ ∈ tblG := mG (m3 (List.mem_of_getElem? (i := 25) rfl)) rfl
theorem q_506 : Cond.instanceMethod ⟨"PromiseChains$Pairs", "isFree", "(I)Z"⟩ ∈ tblG := mG (m3 (List.mem_of_getElem? (i := 26) rfl)) rfl
theorem q_507 : Cond.selects "PromiseChains$Pairs" ⟨"PromiseChains$Pairs", "isFree", "(I)Z"⟩ ⟨"PromiseChains$Pairs", "isFree", "(I)Z"⟩ ∈ tblG := mG (m3 (List.mem_of_getElem? (i := 27) rfl)) rfl
theorem q_508 : Cond.code ⟨"PromiseChains$Pairs", "isFree", "(I)Z"⟩ prog_2_method_5_code 2 (some .boolean) ∈ tblG := mG (m3 (List.mem_of_getElem? (i := 28) rfl)) rfl
theorem q_509 : Cond.methodLink "PromiseChains" 188 ⟨"PromiseChains$Pairs", "beginClosing", "(IIII)V"⟩ ∈ tblG := mG (m3 (List.mem_of_getElem? (i := 29) rfl)) rfl
theorem q_510 : Cond.instanceMethod ⟨"PromiseChains$Pairs", "beginClosing", "(IIII)V"⟩ ∈ tblG := mG (m3 (List.mem_of_getElem? (i := 30) rfl)) rfl
theorem q_511 : Cond.selects "PromiseChains$Pairs" ⟨"PromiseChains$Pairs", "beginClosing", "(IIII)V"⟩ ⟨"PromiseChains$Pairs", "beginClosing", "(IIII)V"⟩ ∈ tblG := mG (m3 (List.mem_of_getElem? (i := 31) rfl)) rfl
theorem q_512 : Cond.code ⟨"PromiseChains$Pairs", "beginClosing", "(IIII)V"⟩ prog_2_method_16_code 5 none ∈ tblG := mG (m3 (List.mem_of_getElem? (i := 32) rfl)) rfl
theorem q_513 : Cond.methodLink "PromiseChains" 192 ⟨"PromiseChains$Pairs", "isCaught", "(ILPromiseChains$People;)Z"⟩ ∈ tblG := mG (m3 (List.mem_of_getElem? (i := 33) rfl)) rfl
theorem q_514 : Cond.methodLink "PromiseChainsLaw" 86 ⟨"PromiseChains", "wealth", "(I)I"⟩ ∈ tblG := mG (m3 (List.mem_of_getElem? (i := 34) rfl)) rfl
theorem q_515 : Cond.instanceMethod ⟨"PromiseChains", "wealth", "(I)I"⟩ ∈ tblG := mG (m3 (List.mem_of_getElem? (i := 35) rfl)) rfl
theorem q_516 : Cond.selects "PromiseChains" ⟨"PromiseChains", "wealth", "(I)I"⟩ ⟨"PromiseChains", "wealth", "(I)I"⟩ ∈ tblG := mG (m3 (List.mem_of_getElem? (i := 36) rfl)) rfl
theorem q_517 : Cond.code ⟨"PromiseChains", "wealth", "(I)I"⟩ prog_1_method_19_code 4 (some .int) ∈ tblG := mG (m3 (List.mem_of_getElem? (i := 37) rfl)) rfl
theorem q_518 : Cond.methodLink "PromiseChainsLaw" 90 ⟨"PromiseChains", "off", "()I"⟩ ∈ tblG := mG (m3 (List.mem_of_getElem? (i := 38) rfl)) rfl
theorem q_519 : Cond.instanceMethod ⟨"PromiseChains", "off", "()I"⟩ ∈ tblG := mG (m3 (List.mem_of_getElem? (i := 39) rfl)) rfl
theorem q_520 : Cond.selects "PromiseChains" ⟨"PromiseChains", "off", "()I"⟩ ⟨"PromiseChains", "off", "()I"⟩ ∈ tblG := mG (m3 (List.mem_of_getElem? (i := 40) rfl)) rfl
set_option maxRecDepth 20000 in
theorem q_521 : Cond.code ⟨"PromiseChains", "off", "()I"⟩ prog_1_method_20_code 1 (some .int) ∈ tblG := mG (m3 (List.mem_of_getElem? (i := 41) rfl)) rfl
set_option maxRecDepth 20000 in
theorem q_522 : Cond.methodLink "PromiseChains" 199 ⟨"PromiseChains$Pairs", "sumOff", "()I"⟩ ∈ tblG := mG (m3 (List.mem_of_getElem? (i := 42) rfl)) rfl
set_option maxRecDepth 20000 in
theorem q_523 : Cond.instanceMethod ⟨"PromiseChains$Pairs", "sumOff", "()I"⟩ ∈ tblG := mG (m3 (List.mem_of_getElem? (i := 43) rfl)) rfl
set_option maxRecDepth 20000 in
theorem q_524 : Cond.selects "PromiseChains$Pairs" ⟨"PromiseChains$Pairs", "sumOff", "()I"⟩ ⟨"PromiseChains$Pairs", "sumOff", "()I"⟩ ∈ tblG := mG (m3 (List.mem_of_getElem? (i := 44) rfl)) rfl
set_option maxRecDepth 20000 in
theorem q_525 : Cond.code ⟨"PromiseChains$Pairs", "sumOff", "()I"⟩ prog_2_method_8_code 3 (some .int) ∈ tblG := mG (m3 (List.mem_of_getElem? (i := 45) rfl)) rfl
set_option maxRecDepth 20000 in
theorem q_526 : Cond.methodLink "PromiseChains$Pairs" 69 ⟨"java/lang/Math", "abs", "(I)I"⟩ ∈ tblG := mG (m3 (List.mem_of_getElem? (i := 46) rfl)) rfl
set_option maxRecDepth 20000 in
theorem q_527 : Cond.static ⟨"java/lang/Math", "abs", "(I)I"⟩ ∈ tblG := mG (m3 (List.mem_of_getElem? (i := 47) rfl)) rfl
set_option maxRecDepth 20000 in
theorem q_528 : Cond.code ⟨"java/lang/Math", "abs", "(I)I"⟩ prog_10_method_59_code 1 (some .int) ∈ tblG := mG (m3 (List.mem_of_getElem? (i := 48) rfl)) rfl
set_option maxRecDepth 20000 in
theorem q_529 : Cond.methodLink "PromiseChainsLaw" 95 ⟨"PromiseChains", "ring", "(II)I"⟩ ∈ tblG := mG (m3 (List.mem_of_getElem? (i := 49) rfl)) rfl
set_option maxRecDepth 20000 in
theorem q_530 : Cond.instanceMethod ⟨"PromiseChains", "ring", "(II)I"⟩ ∈ tblG := mG (m3 (List.mem_of_getElem? (i := 50) rfl)) rfl
set_option maxRecDepth 20000 in
theorem q_531 : Cond.selects "PromiseChains" ⟨"PromiseChains", "ring", "(II)I"⟩ ⟨"PromiseChains", "ring", "(II)I"⟩ ∈ tblG := mG (m3 (List.mem_of_getElem? (i := 51) rfl)) rfl
set_option maxRecDepth 20000 in
theorem q_532 : Cond.code ⟨"PromiseChains", "ring", "(II)I"⟩ prog_1_method_21_code 4 (some .int) ∈ tblG := mG (m3 (List.mem_of_getElem? (i := 52) rfl)) rfl
set_option maxRecDepth 20000 in
theorem q_533 : Cond.methodLink "PromiseChains" 203 ⟨"PromiseChains", "findRing", "()Z"⟩ ∈ tblG := mG (m3 (List.mem_of_getElem? (i := 53) rfl)) rfl
set_option maxRecDepth 20000 in
theorem q_535 : Cond.instanceMethod ⟨"PromiseChains", "findRing", "()Z"⟩ ∈ tblG := mG (m3 (List.mem_of_getElem? (i := 55) rfl)) rfl
set_option maxRecDepth 20000 in
theorem q_536 : Cond.code ⟨"PromiseChains", "findRing", "()Z"⟩ prog_1_method_33_code 4 (some .boolean) ∈ tblG := mG (m3 (List.mem_of_getElem? (i := 56) rfl)) rfl
set_option maxRecDepth 20000 in
theorem q_537 : Cond.methodLink "PromiseChains" 303 ⟨"PromiseChains$RingSearch", "begin", "(I)V"⟩ ∈ tblG := mG (m3 (List.mem_of_getElem? (i := 57) rfl)) rfl
set_option maxRecDepth 20000 in
theorem q_538 : Cond.instanceMethod ⟨"PromiseChains$RingSearch", "begin", "(I)V"⟩ ∈ tblG := mG (m3 (List.mem_of_getElem? (i := 58) rfl)) rfl
set_option maxRecDepth 20000 in
theorem q_539 : Cond.selects "PromiseChains$RingSearch" ⟨"PromiseChains$RingSearch", "begin", "(I)V"⟩ ⟨"PromiseChains$RingSearch", "begin", "(I)V"⟩ ∈ tblG := mG (m3 (List.mem_of_getElem? (i := 59) rfl)) rfl
set_option maxRecDepth 20000 in
theorem q_540 : Cond.code ⟨"PromiseChains$RingSearch", "begin", "(I)V"⟩ prog_5_method_2_code 2 none ∈ tblG := mG (m3 (List.mem_of_getElem? (i := 60) rfl)) rfl
set_option maxRecDepth 20000 in
theorem q_541 : Cond.methodLink "PromiseChains" 311 ⟨"PromiseChains", "searchRings", "(LPromiseChains$RingSearch;LPromiseChains$Pairs;II)V"⟩ ∈ tblG := mG (m3 (List.mem_of_getElem? (i := 61) rfl)) rfl
set_option maxRecDepth 20000 in
theorem q_542 : Cond.static ⟨"PromiseChains", "searchRings", "(LPromiseChains$RingSearch;LPromiseChains$Pairs;II)V"⟩ ∈ tblG := mG (m3 (List.mem_of_getElem? (i := 62) rfl)) rfl
set_option maxRecDepth 20000 in
theorem q_543 : Cond.code ⟨"PromiseChains", "searchRings", "(LPromiseChains$RingSearch;LPromiseChains$Pairs;II)V"⟩ prog_1_method_34_code 7 none ∈ tblG := mG (m3 (List.mem_of_getElem? (i := 63) rfl)) rfl
set_option maxRecDepth 20000 in
theorem q_544 : Cond.methodLink "PromiseChains" 315 ⟨"PromiseChains$RingSearch", "offer", "(LPromiseChains$Pairs;I)V"⟩ ∈ tblG := mG (m3 (List.mem_of_getElem? (i := 64) rfl)) rfl
set_option maxRecDepth 20000 in
theorem q_545 : Cond.instanceMethod ⟨"PromiseChains$RingSearch", "offer", "(LPromiseChains$Pairs;I)V"⟩ ∈ tblG := mG (m3 (List.mem_of_getElem? (i := 65) rfl)) rfl
set_option maxRecDepth 20000 in
theorem q_546 : Cond.selects "PromiseChains$RingSearch" ⟨"PromiseChains$RingSearch", "offer", "(LPromiseChains$Pairs;I)V"⟩ ⟨"PromiseChains$RingSearch", "offer", "(LPromiseChains$Pairs;I)V"⟩ ∈ tblG := mG (m3 (List.mem_of_getElem? (i := 66) rfl)) rfl
set_option maxRecDepth 20000 in
theorem q_547 : Cond.code ⟨"PromiseChains$RingSearch", "offer", "(LPromiseChains$Pairs;I)V"⟩ prog_5_method_3_code 6 none ∈ tblG := mG (m3 (List.mem_of_getElem? (i := 67) rfl)) rfl
set_option maxRecDepth 20000 in
theorem q_548 : Cond.methodLink "PromiseChains$RingSearch" 41 ⟨"PromiseChains$RingSearch", "leastPayingSide", "(LPromiseChains$Pairs;)I"⟩ ∈ tblG := mG (m3 (List.mem_of_getElem? (i := 68) rfl)) rfl
set_option maxRecDepth 20000 in
theorem q_549 : Cond.instanceMethod ⟨"PromiseChains$RingSearch", "leastPayingSide", "(LPromiseChains$Pairs;)I"⟩ ∈ tblG := mG (m3 (List.mem_of_getElem? (i := 69) rfl)) rfl
set_option maxRecDepth 20000 in
theorem q_550 : Cond.selects "PromiseChains$RingSearch" ⟨"PromiseChains$RingSearch", "leastPayingSide", "(LPromiseChains$Pairs;)I"⟩ ⟨"PromiseChains$RingSearch", "leastPayingSide", "(LPromiseChains$Pairs;)I"⟩ ∈ tblG := mG (m3 (List.mem_of_getElem? (i := 70) rfl)) rfl
set_option maxRecDepth 20000 in
theorem q_551 : Cond.code ⟨"PromiseChains$RingSearch", "leastPayingSide", "(LPromiseChains$Pairs;)I"⟩ prog_5_method_4_code 4 (some .int) ∈ tblG := mG (m3 (List.mem_of_getElem? (i := 71) rfl)) rfl
set_option maxRecDepth 20000 in
theorem q_552 : Cond.constant "PromiseChains$RingSearch" 53 200000 ∈ tblG := mG (m3 (List.mem_of_getElem? (i := 72) rfl)) rfl
set_option maxRecDepth 20000 in
theorem q_553 : Cond.methodLink "PromiseChains$RingSearch" 66 ⟨"java/lang/Math", "min", "(II)I"⟩ ∈ tblG := mG (m3 (List.mem_of_getElem? (i := 73) rfl)) rfl
set_option maxRecDepth 20000 in
theorem q_554 : Cond.static ⟨"java/lang/Math", "min", "(II)I"⟩ ∈ tblG := mG (m3 (List.mem_of_getElem? (i := 74) rfl)) rfl
set_option maxRecDepth 20000 in
theorem q_555 : Cond.code ⟨"java/lang/Math", "min", "(II)I"⟩ prog_10_method_69_code 2 (some .int) ∈ tblG := mG (m3 (List.mem_of_getElem? (i := 75) rfl)) rfl
set_option maxRecDepth 20000 in
theorem q_556 : Cond.methodLink "PromiseChains$RingSearch" 45 ⟨"PromiseChains$RingSearch", "weigh", "(LPromiseChains$Pairs;II)V"⟩ ∈ tblG := mG (m3 (List.mem_of_getElem? (i := 76) rfl)) rfl
set_option maxRecDepth 20000 in
theorem q_557 : Cond.instanceMethod ⟨"PromiseChains$RingSearch", "weigh", "(LPromiseChains$Pairs;II)V"⟩ ∈ tblG := mG (m3 (List.mem_of_getElem? (i := 77) rfl)) rfl
set_option maxRecDepth 20000 in
theorem q_558 : Cond.selects "PromiseChains$RingSearch" ⟨"PromiseChains$RingSearch", "weigh", "(LPromiseChains$Pairs;II)V"⟩ ⟨"PromiseChains$RingSearch", "weigh", "(LPromiseChains$Pairs;II)V"⟩ ∈ tblG := mG (m3 (List.mem_of_getElem? (i := 78) rfl)) rfl
set_option maxRecDepth 20000 in
theorem q_559 : Cond.code ⟨"PromiseChains$RingSearch", "weigh", "(LPromiseChains$Pairs;II)V"⟩ prog_5_method_6_code 7 none ∈ tblG := mG (m3 (List.mem_of_getElem? (i := 79) rfl)) rfl
set_option maxRecDepth 20000 in
theorem q_561 : Cond.methodLink "PromiseChains$RingSearch" 49 ⟨"PromiseChains$RingSearch", "difference", "(LPromiseChains$Pairs;I)I"⟩ ∈ tblG := mG (m3 (List.mem_of_getElem? (i := 81) rfl)) rfl
set_option maxRecDepth 20000 in
theorem q_562 : Cond.instanceMethod ⟨"PromiseChains$RingSearch", "difference", "(LPromiseChains$Pairs;I)I"⟩ ∈ tblG := mG (m3 (List.mem_of_getElem? (i := 82) rfl)) rfl
set_option maxRecDepth 20000 in
theorem q_563 : Cond.selects "PromiseChains$RingSearch" ⟨"PromiseChains$RingSearch", "difference", "(LPromiseChains$Pairs;I)I"⟩ ⟨"PromiseChains$RingSearch", "difference", "(LPromiseChains$Pairs;I)I"⟩ ∈ tblG := mG (m3 (List.mem_of_getElem? (i := 83) rfl)) rfl
set_option maxRecDepth 20000 in
theorem q_564 : Cond.code ⟨"PromiseChains$RingSearch", "difference", "(LPromiseChains$Pairs;I)I"⟩ prog_5_method_5_code 5 (some .int) ∈ tblG := mG (m3 (List.mem_of_getElem? (i := 84) rfl)) rfl
set_option maxRecDepth 20000 in
theorem q_565 : Cond.methodLink "PromiseChains$RingSearch" 76 ⟨"java/lang/Math", "abs", "(I)I"⟩ ∈ tblG := mG (m3 (List.mem_of_getElem? (i := 85) rfl)) rfl
set_option maxRecDepth 20000 in
theorem q_566 : Cond.methodLink "PromiseChains$RingSearch" 80 ⟨"PromiseChains$RingSearch", "isBetter", "(II)Z"⟩ ∈ tblG := mG (m3 (List.mem_of_getElem? (i := 86) rfl)) rfl
set_option maxRecDepth 20000 in
theorem q_567 : Cond.instanceMethod ⟨"PromiseChains$RingSearch", "isBetter", "(II)Z"⟩ ∈ tblG := mG (m3 (List.mem_of_getElem? (i := 87) rfl)) rfl
set_option maxRecDepth 20000 in
theorem q_568 : Cond.selects "PromiseChains$RingSearch" ⟨"PromiseChains$RingSearch", "isBetter", "(II)Z"⟩ ⟨"PromiseChains$RingSearch", "isBetter", "(II)Z"⟩ ∈ tblG := mG (m3 (List.mem_of_getElem? (i := 88) rfl)) rfl
set_option maxRecDepth 20000 in
theorem q_569 : Cond.code ⟨"PromiseChains$RingSearch", "isBetter", "(II)Z"⟩ prog_5_method_7_code 3 (some .boolean) ∈ tblG := mG (m3 (List.mem_of_getElem? (i := 89) rfl)) rfl
set_option maxRecDepth 20000 in
theorem q_570 : Cond.methodLink "PromiseChains$RingSearch" 88 ⟨"PromiseChains$Row", "isAhead", "(LPromiseChains$Row;)Z"⟩ ∈ tblG := mG (m3 (List.mem_of_getElem? (i := 90) rfl)) rfl
set_option maxRecDepth 20000 in
theorem q_571 : Cond.methodLink "PromiseChains$RingSearch" 84 ⟨"PromiseChains$Row", "take", "(LPromiseChains$Row;)V"⟩ ∈ tblG := mG (m3 (List.mem_of_getElem? (i := 91) rfl)) rfl
set_option maxRecDepth 20000 in
theorem q_572 : Cond.methodLink "PromiseChainsLaw" 99 ⟨"PromiseChains", "even", "()I"⟩ ∈ tblG := mG (m3 (List.mem_of_getElem? (i := 92) rfl)) rfl
set_option maxRecDepth 20000 in
theorem q_573 : Cond.instanceMethod ⟨"PromiseChains", "even", "()I"⟩ ∈ tblG := mG (m3 (List.mem_of_getElem? (i := 93) rfl)) rfl
set_option maxRecDepth 20000 in
theorem q_574 : Cond.selects "PromiseChains" ⟨"PromiseChains", "even", "()I"⟩ ⟨"PromiseChains", "even", "()I"⟩ ∈ tblG := mG (m3 (List.mem_of_getElem? (i := 94) rfl)) rfl
set_option maxRecDepth 20000 in
theorem q_575 : Cond.code ⟨"PromiseChains", "even", "()I"⟩ prog_1_method_22_code 2 (some .int) ∈ tblG := mG (m3 (List.mem_of_getElem? (i := 95) rfl)) rfl
set_option maxRecDepth 20000 in
theorem q_576 : Cond.methodLink "PromiseChains" 217 ⟨"PromiseChains$Pairs", "move", "(III)V"⟩ ∈ tblG := mG (m3 (List.mem_of_getElem? (i := 96) rfl)) rfl
set_option maxRecDepth 20000 in
theorem q_577 : Cond.instanceMethod ⟨"PromiseChains$Pairs", "move", "(III)V"⟩ ∈ tblG := mG (m3 (List.mem_of_getElem? (i := 97) rfl)) rfl
set_option maxRecDepth 20000 in
theorem q_578 : Cond.selects "PromiseChains$Pairs" ⟨"PromiseChains$Pairs", "move", "(III)V"⟩ ⟨"PromiseChains$Pairs", "move", "(III)V"⟩ ∈ tblG := mG (m3 (List.mem_of_getElem? (i := 98) rfl)) rfl
set_option maxRecDepth 20000 in
theorem q_579 : Cond.code ⟨"PromiseChains$Pairs", "move", "(III)V"⟩ prog_2_method_15_code 4 none ∈ tblG := mG (m3 (List.mem_of_getElem? (i := 99) rfl)) rfl
set_option maxRecDepth 20000 in
theorem q_580 : Cond.methodLink "PromiseChainsLaw" 103 ⟨"PromiseChains", "tries", "(I)I"⟩ ∈ tblG := mG (m3 (List.mem_of_getElem? (i := 100) rfl)) rfl
set_option maxRecDepth 20000 in
theorem q_581 : Cond.instanceMethod ⟨"PromiseChains", "tries", "(I)I"⟩ ∈ tblG := mG (m3 (List.mem_of_getElem? (i := 101) rfl)) rfl
set_option maxRecDepth 20000 in
theorem q_582 : Cond.selects "PromiseChains" ⟨"PromiseChains", "tries", "(I)I"⟩ ⟨"PromiseChains", "tries", "(I)I"⟩ ∈ tblG := mG (m3 (List.mem_of_getElem? (i := 102) rfl)) rfl
set_option maxRecDepth 20000 in
theorem q_583 : Cond.code ⟨"PromiseChains", "tries", "(I)I"⟩ prog_1_method_23_code 3 (some .int) ∈ tblG := mG (m3 (List.mem_of_getElem? (i := 103) rfl)) rfl
set_option maxRecDepth 20000 in
theorem q_584 : Cond.constant "PromiseChains" 221 200000 ∈ tblG := mG (m3 (List.mem_of_getElem? (i := 104) rfl)) rfl
set_option maxRecDepth 20000 in
theorem q_585 : Cond.methodLink "PromiseChains" 222 ⟨"PromiseChains$Pairs", "areOpen", "(LPromiseChains$Row;)Z"⟩ ∈ tblG := mG (m3 (List.mem_of_getElem? (i := 105) rfl)) rfl
set_option maxRecDepth 20000 in
theorem q_586 : Cond.instanceMethod ⟨"PromiseChains$Pairs", "areOpen", "(LPromiseChains$Row;)Z"⟩ ∈ tblG := mG (m3 (List.mem_of_getElem? (i := 106) rfl)) rfl
set_option maxRecDepth 20000 in
theorem q_587 : Cond.selects "PromiseChains$Pairs" ⟨"PromiseChains$Pairs", "areOpen", "(LPromiseChains$Row;)Z"⟩ ⟨"PromiseChains$Pairs", "areOpen", "(LPromiseChains$Row;)Z"⟩ ∈ tblG := mG (m3 (List.mem_of_getElem? (i := 107) rfl)) rfl
set_option maxRecDepth 20000 in
theorem q_588 : Cond.code ⟨"PromiseChains$Pairs", "areOpen", "(LPromiseChains$Row;)Z"⟩ prog_2_method_6_code 3 (some .boolean) ∈ tblG := mG (m3 (List.mem_of_getElem? (i := 108) rfl)) rfl
set_option maxRecDepth 20000 in
theorem q_589 : Cond.methodLink "PromiseChains" 226 ⟨"PromiseChains$Pairs", "tryToPay", "(III)Z"⟩ ∈ tblG := mG (m3 (List.mem_of_getElem? (i := 109) rfl)) rfl
set_option maxRecDepth 20000 in
theorem q_590 : Cond.instanceMethod ⟨"PromiseChains$Pairs", "tryToPay", "(III)Z"⟩ ∈ tblG := mG (m3 (List.mem_of_getElem? (i := 110) rfl)) rfl
set_option maxRecDepth 20000 in
theorem q_591 : Cond.selects "PromiseChains$Pairs" ⟨"PromiseChains$Pairs", "tryToPay", "(III)Z"⟩ ⟨"PromiseChains$Pairs", "tryToPay", "(III)Z"⟩ ∈ tblG := mG (m3 (List.mem_of_getElem? (i := 111) rfl)) rfl
set_option maxRecDepth 20000 in
theorem q_592 : Cond.code ⟨"PromiseChains$Pairs", "tryToPay", "(III)Z"⟩ prog_2_method_20_code 6 (some .boolean) ∈ tblG := mG (m3 (List.mem_of_getElem? (i := 112) rfl)) rfl
set_option maxRecDepth 20000 in
theorem q_593 : Cond.methodLink "PromiseChains$Pairs" 98 ⟨"java/lang/Math", "max", "(II)I"⟩ ∈ tblG := mG (m3 (List.mem_of_getElem? (i := 113) rfl)) rfl
set_option maxRecDepth 20000 in
theorem q_594 : Cond.static ⟨"java/lang/Math", "max", "(II)I"⟩ ∈ tblG := mG (m3 (List.mem_of_getElem? (i := 114) rfl)) rfl
set_option maxRecDepth 20000 in
theorem q_595 : Cond.code ⟨"java/lang/Math", "max", "(II)I"⟩ prog_10_method_65_code 2 (some .int) ∈ tblG := mG (m3 (List.mem_of_getElem? (i := 115) rfl)) rfl
set_option maxRecDepth 20000 in
theorem q_596 : Cond.methodLink "PromiseChains$Pairs" 102 ⟨"java/lang/Math", "min", "(II)I"⟩ ∈ tblG := mG (m3 (List.mem_of_getElem? (i := 116) rfl)) rfl
set_option maxRecDepth 20000 in
theorem q_597 : Cond.methodLink "PromiseChainsLaw" 107 ⟨"PromiseChains", "learnt", "(II)I"⟩ ∈ tblG := mG (m3 (List.mem_of_getElem? (i := 117) rfl)) rfl
set_option maxRecDepth 20000 in
theorem q_598 : Cond.instanceMethod ⟨"PromiseChains", "learnt", "(II)I"⟩ ∈ tblG := mG (m3 (List.mem_of_getElem? (i := 118) rfl)) rfl
set_option maxRecDepth 20000 in
theorem q_599 : Cond.selects "PromiseChains" ⟨"PromiseChains", "learnt", "(II)I"⟩ ⟨"PromiseChains", "learnt", "(II)I"⟩ ∈ tblG := mG (m3 (List.mem_of_getElem? (i := 119) rfl)) rfl
set_option maxRecDepth 20000 in
theorem q_600 : Cond.code ⟨"PromiseChains", "learnt", "(II)I"⟩ prog_1_method_24_code 3 (some .int) ∈ tblG := mG (m3 (List.mem_of_getElem? (i := 120) rfl)) rfl
set_option maxRecDepth 20000 in
theorem q_601 : Cond.methodLink "PromiseChainsLaw" 111 ⟨"PromiseChains", "count", "(I)I"⟩ ∈ tblG := mG (m3 (List.mem_of_getElem? (i := 121) rfl)) rfl
set_option maxRecDepth 20000 in
theorem q_602 : Cond.instanceMethod ⟨"PromiseChains", "count", "(I)I"⟩ ∈ tblG := mG (m3 (List.mem_of_getElem? (i := 122) rfl)) rfl
set_option maxRecDepth 20000 in
theorem q_603 : Cond.selects "PromiseChains" ⟨"PromiseChains", "count", "(I)I"⟩ ⟨"PromiseChains", "count", "(I)I"⟩ ∈ tblG := mG (m3 (List.mem_of_getElem? (i := 123) rfl)) rfl
set_option maxRecDepth 20000 in
theorem q_604 : Cond.code ⟨"PromiseChains", "count", "(I)I"⟩ prog_1_method_25_code 2 (some .int) ∈ tblG := mG (m3 (List.mem_of_getElem? (i := 124) rfl)) rfl
set_option maxRecDepth 20000 in
theorem q_605 : Cond.methodLink "PromiseChains" 239 ⟨"PromiseChains$People", "howManyAway", "()I"⟩ ∈ tblG := mG (m3 (List.mem_of_getElem? (i := 125) rfl)) rfl
set_option maxRecDepth 20000 in
theorem q_606 : Cond.instanceMethod ⟨"PromiseChains$People", "howManyAway", "()I"⟩ ∈ tblG := mG (m3 (List.mem_of_getElem? (i := 126) rfl)) rfl
set_option maxRecDepth 20000 in
theorem q_607 : Cond.selects "PromiseChains$People" ⟨"PromiseChains$People", "howManyAway", "()I"⟩ ⟨"PromiseChains$People", "howManyAway", "()I"⟩ ∈ tblG := mG (m3 (List.mem_of_getElem? (i := 127) rfl)) rfl
set_option maxRecDepth 20000 in
theorem q_608 : Cond.code ⟨"PromiseChains$People", "howManyAway", "()I"⟩ prog_3_method_5_code 3 (some .int) ∈ tblG := mG (m3 (List.mem_of_getElem? (i := 128) rfl)) rfl
set_option maxRecDepth 20000 in
theorem q_609 : Cond.methodLink "PromiseChainsLaw" 115 ⟨"PromiseChains", "digest", "()J"⟩ ∈ tblG := mG (m3 (List.mem_of_getElem? (i := 129) rfl)) rfl
set_option maxRecDepth 20000 in
theorem q_610 : Cond.instanceMethod ⟨"PromiseChains", "digest", "()J"⟩ ∈ tblG := mG (m3 (List.mem_of_getElem? (i := 130) rfl)) rfl
set_option maxRecDepth 20000 in
theorem q_611 : Cond.selects "PromiseChains" ⟨"PromiseChains", "digest", "()J"⟩ ⟨"PromiseChains", "digest", "()J"⟩ ∈ tblG := mG (m3 (List.mem_of_getElem? (i := 131) rfl)) rfl
set_option maxRecDepth 20000 in
theorem q_612 : Cond.code ⟨"PromiseChains", "digest", "()J"⟩ prog_1_method_26_code 5 (some .long) ∈ tblG := mG (m3 (List.mem_of_getElem? (i := 132) rfl)) rfl
set_option maxRecDepth 20000 in
theorem q_613 : Cond.constantLong "PromiseChains" 242 233 ∈ tblG := mG (m3 (List.mem_of_getElem? (i := 133) rfl)) rfl
set_option maxRecDepth 20000 in
theorem q_614 : Cond.constantLong "PromiseChains" 244 31 ∈ tblG := mG (m3 (List.mem_of_getElem? (i := 134) rfl)) rfl
set_option maxRecDepth 20000 in
theorem q_615 : Cond.methodLink "PromiseChains" 246 ⟨"PromiseChains", "count", "(I)I"⟩ ∈ tblG := mG (m3 (List.mem_of_getElem? (i := 135) rfl)) rfl
set_option maxRecDepth 20000 in
theorem q_616 : Cond.methodLink "PromiseChains" 249 ⟨"PromiseChains", "wealth", "(I)I"⟩ ∈ tblG := mG (m3 (List.mem_of_getElem? (i := 136) rfl)) rfl
set_option maxRecDepth 20000 in
theorem q_617 : Cond.methodLink "PromiseChains" 252 ⟨"PromiseChains", "withPair", "(JI)J"⟩ ∈ tblG := mG (m3 (List.mem_of_getElem? (i := 137) rfl)) rfl
set_option maxRecDepth 20000 in
theorem q_619 : Cond.instanceMethod ⟨"PromiseChains", "withPair", "(JI)J"⟩ ∈ tblG := mG (m3 (List.mem_of_getElem? (i := 139) rfl)) rfl
set_option maxRecDepth 20000 in
theorem q_620 : Cond.code ⟨"PromiseChains", "withPair", "(JI)J"⟩ prog_1_method_27_code 7 (some .long) ∈ tblG := mG (m3 (List.mem_of_getElem? (i := 140) rfl)) rfl
set_option maxRecDepth 20000 in
theorem q_621 : Cond.methodLink "PromiseChains" 259 ⟨"PromiseChains", "about", "(II)I"⟩ ∈ tblG := mG (m3 (List.mem_of_getElem? (i := 141) rfl)) rfl
set_option maxRecDepth 20000 in
theorem q_622 : Cond.methodLink "PromiseChains" 262 ⟨"PromiseChains", "side", "(II)I"⟩ ∈ tblG := mG (m3 (List.mem_of_getElem? (i := 142) rfl)) rfl
set_option maxRecDepth 20000 in
theorem q_623 : Cond.methodLink "PromiseChains" 264 ⟨"PromiseChains", "locked", "(II)I"⟩ ∈ tblG := mG (m3 (List.mem_of_getElem? (i := 143) rfl)) rfl
set_option maxRecDepth 20000 in
theorem q_624 : Cond.methodLink "PromiseChains" 266 ⟨"PromiseChains", "learnt", "(II)I"⟩ ∈ tblG := mG (m3 (List.mem_of_getElem? (i := 144) rfl)) rfl
set_option maxRecDepth 20000 in
theorem q_625 : Cond.methodLink "PromiseChains" 256 ⟨"PromiseChains", "promiseAt", "(II)I"⟩ ∈ tblG := mG (m3 (List.mem_of_getElem? (i := 145) rfl)) rfl
set_option maxRecDepth 20000 in
theorem q_626 : Cond.classLink "PromiseChainsLaw" 10 "PromiseChainsModel" ∈ tblG := mG (m3 (List.mem_of_getElem? (i := 146) rfl)) rfl
set_option maxRecDepth 20000 in
theorem q_627 : Cond.instantiable "PromiseChainsModel" 50 ∈ tblG := mG (m3 (List.mem_of_getElem? (i := 147) rfl)) rfl
set_option maxRecDepth 20000 in
theorem q_628 : Cond.methodLink "PromiseChainsLaw" 12 ⟨"PromiseChainsModel", "<init>", "()V"⟩ ∈ tblG := mG (m3 (List.mem_of_getElem? (i := 148) rfl)) rfl
set_option maxRecDepth 20000 in
theorem q_629 : Cond.instanceMethod ⟨"PromiseChainsModel", "<init>", "()V"⟩ ∈ tblG := mG (m3 (List.mem_of_getElem? (i := 149) rfl)) rfl
set_option maxRecDepth 20000 in
theorem q_630 : Cond.code ⟨"PromiseChainsModel", "<init>", "()V"⟩ prog_9_method_1_code 1 none ∈ tblG := mG (m3 (List.mem_of_getElem? (i := 150) rfl)) rfl
set_option maxRecDepth 20000 in
theorem q_631 : Cond.methodLink "PromiseChainsModel" 1 ⟨"java/lang/Object", "<init>", "()V"⟩ ∈ tblG := mG (m3 (List.mem_of_getElem? (i := 151) rfl)) rfl
set_option maxRecDepth 20000 in
theorem q_632 : Cond.fieldLink "PromiseChainsModel" 7 "PromiseChainsModel" "n" "I" ∈ tblG := mG (m3 (List.mem_of_getElem? (i := 152) rfl)) rfl
set_option maxRecDepth 20000 in
theorem q_633 : Cond.fieldLink "PromiseChainsModel" 142 "PromiseChainsModel" "time" "I" ∈ tblG := mG (m3 (List.mem_of_getElem? (i := 153) rfl)) rfl
set_option maxRecDepth 20000 in
theorem q_634 : Cond.fieldLink "PromiseChainsModel" 13 "PromiseChainsModel" "gap" "I" ∈ tblG := mG (m3 (List.mem_of_getElem? (i := 154) rfl)) rfl
set_option maxRecDepth 20000 in
theorem q_635 : Cond.fieldLink "PromiseChainsModel" 16 "PromiseChainsModel" "look" "I" ∈ tblG := mG (m3 (List.mem_of_getElem? (i := 155) rfl)) rfl
set_option maxRecDepth 20000 in
theorem q_636 : Cond.fieldLink "PromiseChainsModel" 19 "PromiseChainsModel" "away" "[Z" ∈ tblG := mG (m3 (List.mem_of_getElem? (i := 156) rfl)) rfl
set_option maxRecDepth 20000 in
theorem q_637 : Cond.fieldLink "PromiseChainsModel" 23 "PromiseChainsModel" "cash" "[I" ∈ tblG := mG (m3 (List.mem_of_getElem? (i := 157) rfl)) rfl
set_option maxRecDepth 20000 in
theorem q_638 : Cond.fieldLink "PromiseChainsModel" 27 "PromiseChainsModel" "base" "[I" ∈ tblG := mG (m3 (List.mem_of_getElem? (i := 158) rfl)) rfl
set_option maxRecDepth 20000 in
theorem q_639 : Cond.fieldLink "PromiseChainsModel" 30 "PromiseChainsModel" "rate" "[I" ∈ tblG := mG (m3 (List.mem_of_getElem? (i := 159) rfl)) rfl
set_option maxRecDepth 20000 in
theorem q_640 : Cond.fieldLink "PromiseChainsModel" 139 "PromiseChainsModel" "pairs" "I" ∈ tblG := mG (m3 (List.mem_of_getElem? (i := 160) rfl)) rfl
set_option maxRecDepth 20000 in
theorem q_641 : Cond.fieldLink "PromiseChainsModel" 33 "PromiseChainsModel" "ends" "[I" ∈ tblG := mG (m3 (List.mem_of_getElem? (i := 161) rfl)) rfl
set_option maxRecDepth 20000 in
theorem q_642 : Cond.fieldLink "PromiseChainsModel" 36 "PromiseChainsModel" "sides" "[I" ∈ tblG := mG (m3 (List.mem_of_getElem? (i := 162) rfl)) rfl
set_option maxRecDepth 20000 in
theorem q_643 : Cond.fieldLink "PromiseChainsModel" 39 "PromiseChainsModel" "locked" "[I" ∈ tblG := mG (m3 (List.mem_of_getElem? (i := 163) rfl)) rfl
set_option maxRecDepth 20000 in
theorem q_644 : Cond.fieldLink "PromiseChainsModel" 42 "PromiseChainsModel" "status" "[I" ∈ tblG := mG (m3 (List.mem_of_getElem? (i := 164) rfl)) rfl
set_option maxRecDepth 20000 in
theorem q_645 : Cond.fieldLink "PromiseChainsModel" 45 "PromiseChainsModel" "endTime" "[I" ∈ tblG := mG (m3 (List.mem_of_getElem? (i := 165) rfl)) rfl
set_option maxRecDepth 20000 in
theorem q_646 : Cond.fieldLink "PromiseChainsModel" 48 "PromiseChainsModel" "closer" "[I" ∈ tblG := mG (m3 (List.mem_of_getElem? (i := 166) rfl)) rfl
set_option maxRecDepth 20000 in
theorem q_647 : Cond.fieldLink "PromiseChainsModel" 51 "PromiseChainsModel" "closeState" "[I" ∈ tblG := mG (m3 (List.mem_of_getElem? (i := 167) rfl)) rfl
set_option maxRecDepth 20000 in
theorem q_648 : Cond.fieldLink "PromiseChainsModel" 54 "PromiseChainsModel" "states" "[I" ∈ tblG := mG (m3 (List.mem_of_getElem? (i := 168) rfl)) rfl
set_option maxRecDepth 20000 in
theorem q_649 : Cond.fieldLink "PromiseChainsModel" 57 "PromiseChainsModel" "stateMany" "[I" ∈ tblG := mG (m3 (List.mem_of_getElem? (i := 169) rfl)) rfl
set_option maxRecDepth 20000 in
theorem q_650 : Cond.fieldLink "PromiseChainsModel" 60 "PromiseChainsModel" "low" "[I" ∈ tblG := mG (m3 (List.mem_of_getElem? (i := 170) rfl)) rfl
set_option maxRecDepth 20000 in
theorem q_651 : Cond.fieldLink "PromiseChainsModel" 63 "PromiseChainsModel" "high" "[I" ∈ tblG := mG (m3 (List.mem_of_getElem? (i := 171) rfl)) rfl
set_option maxRecDepth 20000 in
theorem q_652 : Cond.fieldLink "PromiseChainsModel" 145 "PromiseChainsModel" "promises" "I" ∈ tblG := mG (m3 (List.mem_of_getElem? (i := 172) rfl)) rfl
set_option maxRecDepth 20000 in
theorem q_653 : Cond.fieldLink "PromiseChainsModel" 66 "PromiseChainsModel" "gets" "[I" ∈ tblG := mG (m3 (List.mem_of_getElem? (i := 173) rfl)) rfl
set_option maxRecDepth 20000 in
theorem q_654 : Cond.fieldLink "PromiseChainsModel" 69 "PromiseChainsModel" "payer" "[I" ∈ tblG := mG (m3 (List.mem_of_getElem? (i := 174) rfl)) rfl
set_option maxRecDepth 20000 in
theorem q_655 : Cond.fieldLink "PromiseChainsModel" 72 "PromiseChainsModel" "lockMany" "[I" ∈ tblG := mG (m3 (List.mem_of_getElem? (i := 175) rfl)) rfl
set_option maxRecDepth 20000 in
theorem q_656 : Cond.fieldLink "PromiseChainsModel" 75 "PromiseChainsModel" "keptMany" "[I" ∈ tblG := mG (m3 (List.mem_of_getElem? (i := 176) rfl)) rfl
set_option maxRecDepth 20000 in
theorem q_657 : Cond.fieldLink "PromiseChainsModel" 78 "PromiseChainsModel" "brokenMany" "[I" ∈ tblG := mG (m3 (List.mem_of_getElem? (i := 177) rfl)) rfl
set_option maxRecDepth 20000 in
theorem q_658 : Cond.fieldLink "PromiseChainsModel" 81 "PromiseChainsModel" "told" "[Z" ∈ tblG := mG (m3 (List.mem_of_getElem? (i := 178) rfl)) rfl
set_option maxRecDepth 20000 in
theorem q_659 : Cond.fieldLink "PromiseChainsModel" 84 "PromiseChainsModel" "knows" "[I" ∈ tblG := mG (m3 (List.mem_of_getElem? (i := 179) rfl)) rfl
set_option maxRecDepth 20000 in
theorem q_660 : Cond.fieldLink "PromiseChainsModel" 87 "PromiseChainsModel" "lockPair" "[I" ∈ tblG := mG (m3 (List.mem_of_getElem? (i := 180) rfl)) rfl
set_option maxRecDepth 20000 in
theorem q_661 : Cond.fieldLink "PromiseChainsModel" 90 "PromiseChainsModel" "lockSide" "[I" ∈ tblG := mG (m3 (List.mem_of_getElem? (i := 181) rfl)) rfl
set_option maxRecDepth 20000 in
theorem q_662 : Cond.fieldLink "PromiseChainsModel" 93 "PromiseChainsModel" "lockSum" "[I" ∈ tblG := mG (m3 (List.mem_of_getElem? (i := 182) rfl)) rfl
set_option maxRecDepth 20000 in
theorem q_663 : Cond.fieldLink "PromiseChainsModel" 96 "PromiseChainsModel" "lockClock" "[I" ∈ tblG := mG (m3 (List.mem_of_getElem? (i := 183) rfl)) rfl
set_option maxRecDepth 20000 in
theorem q_664 : Cond.fieldLink "PromiseChainsModel" 99 "PromiseChainsModel" "isLock" "[Z" ∈ tblG := mG (m3 (List.mem_of_getElem? (i := 184) rfl)) rfl
set_option maxRecDepth 20000 in
theorem q_665 : Cond.fieldLink "PromiseChainsModel" 148 "PromiseChainsModel" "hasWay" "Z" ∈ tblG := mG (m3 (List.mem_of_getElem? (i := 185) rfl)) rfl
set_option maxRecDepth 20000 in
theorem q_666 : Cond.fieldLink "PromiseChainsModel" 152 "PromiseChainsModel" "wayMany" "I" ∈ tblG := mG (m3 (List.mem_of_getElem? (i := 186) rfl)) rfl
set_option maxRecDepth 20000 in
theorem q_667 : Cond.fieldLink "PromiseChainsModel" 102 "PromiseChainsModel" "way" "[I" ∈ tblG := mG (m3 (List.mem_of_getElem? (i := 187) rfl)) rfl
set_option maxRecDepth 20000 in
theorem q_668 : Cond.fieldLink "PromiseChainsModel" 105 "PromiseChainsModel" "waySide" "[I" ∈ tblG := mG (m3 (List.mem_of_getElem? (i := 188) rfl)) rfl
set_option maxRecDepth 20000 in
theorem q_669 : Cond.fieldLink "PromiseChainsModel" 108 "PromiseChainsModel" "step" "[I" ∈ tblG := mG (m3 (List.mem_of_getElem? (i := 189) rfl)) rfl
set_option maxRecDepth 20000 in
theorem q_670 : Cond.fieldLink "PromiseChainsModel" 111 "PromiseChainsModel" "stepSide" "[I" ∈ tblG := mG (m3 (List.mem_of_getElem? (i := 190) rfl)) rfl
set_option maxRecDepth 20000 in
theorem q_671 : Cond.fieldLink "PromiseChainsModel" 114 "PromiseChainsModel" "tried" "[I" ∈ tblG := mG (m3 (List.mem_of_getElem? (i := 191) rfl)) rfl
set_option maxRecDepth 20000 in
theorem q_672 : Cond.fieldLink "PromiseChainsModel" 117 "PromiseChainsModel" "carries" "[I" ∈ tblG := mG (m3 (List.mem_of_getElem? (i := 192) rfl)) rfl
set_option maxRecDepth 20000 in
theorem q_673 : Cond.fieldLink "PromiseChainsModel" 120 "PromiseChainsModel" "bestWay" "[I" ∈ tblG := mG (m3 (List.mem_of_getElem? (i := 193) rfl)) rfl
set_option maxRecDepth 20000 in
theorem q_674 : Cond.fieldLink "PromiseChainsModel" 123 "PromiseChainsModel" "bestSide" "[I" ∈ tblG := mG (m3 (List.mem_of_getElem? (i := 194) rfl)) rfl
set_option maxRecDepth 20000 in
theorem q_675 : Cond.fieldLink "PromiseChainsModel" 126 "PromiseChainsModel" "bestCarries" "[I" ∈ tblG := mG (m3 (List.mem_of_getElem? (i := 195) rfl)) rfl
set_option maxRecDepth 20000 in
theorem q_676 : Cond.fieldLink "PromiseChainsModel" 179 "PromiseChainsModel" "bestMany" "I" ∈ tblG := mG (m3 (List.mem_of_getElem? (i := 196) rfl)) rfl
set_option maxRecDepth 20000 in
theorem q_677 : Cond.fieldLink "PromiseChainsModel" 129 "PromiseChainsModel" "ringPair" "[I" ∈ tblG := mG (m3 (List.mem_of_getElem? (i := 197) rfl)) rfl
set_option maxRecDepth 20000 in
theorem q_678 : Cond.fieldLink "PromiseChainsModel" 132 "PromiseChainsModel" "ringSide" "[I" ∈ tblG := mG (m3 (List.mem_of_getElem? (i := 198) rfl)) rfl
set_option maxRecDepth 20000 in
theorem q_679 : Cond.fieldLink "PromiseChainsModel" 223 "PromiseChainsModel" "ringMany" "I" ∈ tblG := mG (m3 (List.mem_of_getElem? (i := 199) rfl)) rfl
set_option maxRecDepth 20000 in
theorem q_680 : Cond.fieldLink "PromiseChainsModel" 226 "PromiseChainsModel" "ringOff" "I" ∈ tblG := mG (m3 (List.mem_of_getElem? (i := 200) rfl)) rfl
set_option maxRecDepth 20000 in
theorem q_681 : Cond.fieldLink "PromiseChainsModel" 229 "PromiseChainsModel" "ringSum" "I" ∈ tblG := mG (m3 (List.mem_of_getElem? (i := 201) rfl)) rfl
set_option maxRecDepth 20000 in
theorem q_682 : Cond.lays "PromiseChainsModel" "PromiseChainsModel" "n" "I" ∈ tblG := mG (m3 (List.mem_of_getElem? (i := 202) rfl)) rfl
set_option maxRecDepth 20000 in
theorem q_684 : Cond.lays "PromiseChainsModel" "PromiseChainsModel" "time" "I" ∈ tblG := mG (m3 (List.mem_of_getElem? (i := 204) rfl)) rfl
set_option maxRecDepth 20000 in
theorem q_686 : Cond.lays "PromiseChainsModel" "PromiseChainsModel" "gap" "I" ∈ tblG := mG (m3 (List.mem_of_getElem? (i := 206) rfl)) rfl
set_option maxRecDepth 20000 in
theorem q_688 : Cond.lays "PromiseChainsModel" "PromiseChainsModel" "look" "I" ∈ tblG := mG (m3 (List.mem_of_getElem? (i := 208) rfl)) rfl
set_option maxRecDepth 20000 in
theorem q_690 : Cond.laysFinal "PromiseChainsModel" "PromiseChainsModel" "away" "[Z" ∈ tblG := mG (m3 (List.mem_of_getElem? (i := 210) rfl)) rfl
set_option maxRecDepth 20000 in
theorem q_692 : Cond.laysFinal "PromiseChainsModel" "PromiseChainsModel" "cash" "[I" ∈ tblG := mG (m3 (List.mem_of_getElem? (i := 212) rfl)) rfl
set_option maxRecDepth 20000 in
theorem q_694 : Cond.laysFinal "PromiseChainsModel" "PromiseChainsModel" "base" "[I" ∈ tblG := mG (m3 (List.mem_of_getElem? (i := 214) rfl)) rfl
set_option maxRecDepth 20000 in
theorem q_696 : Cond.laysFinal "PromiseChainsModel" "PromiseChainsModel" "rate" "[I" ∈ tblG := mG (m3 (List.mem_of_getElem? (i := 216) rfl)) rfl
set_option maxRecDepth 20000 in
theorem q_698 : Cond.lays "PromiseChainsModel" "PromiseChainsModel" "pairs" "I" ∈ tblG := mG (m3 (List.mem_of_getElem? (i := 218) rfl)) rfl
set_option maxRecDepth 20000 in
theorem q_700 : Cond.laysFinal "PromiseChainsModel" "PromiseChainsModel" "ends" "[I" ∈ tblG := mG (m3 (List.mem_of_getElem? (i := 220) rfl)) rfl
set_option maxRecDepth 20000 in
theorem q_702 : Cond.laysFinal "PromiseChainsModel" "PromiseChainsModel" "sides" "[I" ∈ tblG := mG (m3 (List.mem_of_getElem? (i := 222) rfl)) rfl
set_option maxRecDepth 20000 in
theorem q_704 : Cond.laysFinal "PromiseChainsModel" "PromiseChainsModel" "locked" "[I" ∈ tblG := mG (m3 (List.mem_of_getElem? (i := 224) rfl)) rfl
set_option maxRecDepth 20000 in
theorem q_706 : Cond.laysFinal "PromiseChainsModel" "PromiseChainsModel" "status" "[I" ∈ tblG := mG (m3 (List.mem_of_getElem? (i := 226) rfl)) rfl
set_option maxRecDepth 20000 in
theorem q_708 : Cond.laysFinal "PromiseChainsModel" "PromiseChainsModel" "endTime" "[I" ∈ tblG := mG (m3 (List.mem_of_getElem? (i := 228) rfl)) rfl
set_option maxRecDepth 20000 in
theorem q_710 : Cond.laysFinal "PromiseChainsModel" "PromiseChainsModel" "closer" "[I" ∈ tblG := mG (m3 (List.mem_of_getElem? (i := 230) rfl)) rfl
set_option maxRecDepth 20000 in
theorem q_712 : Cond.laysFinal "PromiseChainsModel" "PromiseChainsModel" "closeState" "[I" ∈ tblG := mG (m3 (List.mem_of_getElem? (i := 232) rfl)) rfl
set_option maxRecDepth 20000 in
theorem q_714 : Cond.laysFinal "PromiseChainsModel" "PromiseChainsModel" "states" "[I" ∈ tblG := mG (m3 (List.mem_of_getElem? (i := 234) rfl)) rfl
set_option maxRecDepth 20000 in
theorem q_716 : Cond.laysFinal "PromiseChainsModel" "PromiseChainsModel" "stateMany" "[I" ∈ tblG := mG (m3 (List.mem_of_getElem? (i := 236) rfl)) rfl
set_option maxRecDepth 20000 in
theorem q_718 : Cond.laysFinal "PromiseChainsModel" "PromiseChainsModel" "low" "[I" ∈ tblG := mG (m3 (List.mem_of_getElem? (i := 238) rfl)) rfl
theorem q_720 : Cond.laysFinal "PromiseChainsModel" "PromiseChainsModel" "high" "[I" ∈ tblG := mG (m4 (List.mem_of_getElem? (i := 0) rfl)) rfl
theorem q_722 : Cond.lays "PromiseChainsModel" "PromiseChainsModel" "promises" "I" ∈ tblG := mG (m4 (List.mem_of_getElem? (i := 2) rfl)) rfl
theorem q_724 : Cond.laysFinal "PromiseChainsModel" "PromiseChainsModel" "gets" "[I" ∈ tblG := mG (m4 (List.mem_of_getElem? (i := 4) rfl)) rfl
theorem q_726 : Cond.laysFinal "PromiseChainsModel" "PromiseChainsModel" "payer" "[I" ∈ tblG := mG (m4 (List.mem_of_getElem? (i := 6) rfl)) rfl
theorem q_728 : Cond.laysFinal "PromiseChainsModel" "PromiseChainsModel" "lockMany" "[I" ∈ tblG := mG (m4 (List.mem_of_getElem? (i := 8) rfl)) rfl
theorem q_730 : Cond.laysFinal "PromiseChainsModel" "PromiseChainsModel" "keptMany" "[I" ∈ tblG := mG (m4 (List.mem_of_getElem? (i := 10) rfl)) rfl
theorem q_732 : Cond.laysFinal "PromiseChainsModel" "PromiseChainsModel" "brokenMany" "[I" ∈ tblG := mG (m4 (List.mem_of_getElem? (i := 12) rfl)) rfl
theorem q_734 : Cond.laysFinal "PromiseChainsModel" "PromiseChainsModel" "told" "[Z" ∈ tblG := mG (m4 (List.mem_of_getElem? (i := 14) rfl)) rfl
theorem q_736 : Cond.laysFinal "PromiseChainsModel" "PromiseChainsModel" "knows" "[I" ∈ tblG := mG (m4 (List.mem_of_getElem? (i := 16) rfl)) rfl
theorem q_738 : Cond.laysFinal "PromiseChainsModel" "PromiseChainsModel" "lockPair" "[I" ∈ tblG := mG (m4 (List.mem_of_getElem? (i := 18) rfl)) rfl
theorem q_740 : Cond.laysFinal "PromiseChainsModel" "PromiseChainsModel" "lockSide" "[I" ∈ tblG := mG (m4 (List.mem_of_getElem? (i := 20) rfl)) rfl
theorem q_742 : Cond.laysFinal "PromiseChainsModel" "PromiseChainsModel" "lockSum" "[I" ∈ tblG := mG (m4 (List.mem_of_getElem? (i := 22) rfl)) rfl
theorem q_744 : Cond.laysFinal "PromiseChainsModel" "PromiseChainsModel" "lockClock" "[I" ∈ tblG := mG (m4 (List.mem_of_getElem? (i := 24) rfl)) rfl
theorem q_746 : Cond.laysFinal "PromiseChainsModel" "PromiseChainsModel" "isLock" "[Z" ∈ tblG := mG (m4 (List.mem_of_getElem? (i := 26) rfl)) rfl
theorem q_748 : Cond.lays "PromiseChainsModel" "PromiseChainsModel" "hasWay" "Z" ∈ tblG := mG (m4 (List.mem_of_getElem? (i := 28) rfl)) rfl
theorem q_750 : Cond.lays "PromiseChainsModel" "PromiseChainsModel" "wayMany" "I" ∈ tblG := mG (m4 (List.mem_of_getElem? (i := 30) rfl)) rfl
theorem q_752 : Cond.laysFinal "PromiseChainsModel" "PromiseChainsModel" "way" "[I" ∈ tblG := mG (m4 (List.mem_of_getElem? (i := 32) rfl)) rfl
theorem q_754 : Cond.laysFinal "PromiseChainsModel" "PromiseChainsModel" "waySide" "[I" ∈ tblG := mG (m4 (List.mem_of_getElem? (i := 34) rfl)) rfl
theorem q_756 : Cond.laysFinal "PromiseChainsModel" "PromiseChainsModel" "step" "[I" ∈ tblG := mG (m4 (List.mem_of_getElem? (i := 36) rfl)) rfl
theorem q_758 : Cond.laysFinal "PromiseChainsModel" "PromiseChainsModel" "stepSide" "[I" ∈ tblG := mG (m4 (List.mem_of_getElem? (i := 38) rfl)) rfl
theorem q_760 : Cond.laysFinal "PromiseChainsModel" "PromiseChainsModel" "tried" "[I" ∈ tblG := mG (m4 (List.mem_of_getElem? (i := 40) rfl)) rfl
set_option maxRecDepth 20000 in
theorem q_762 : Cond.laysFinal "PromiseChainsModel" "PromiseChainsModel" "carries" "[I" ∈ tblG := mG (m4 (List.mem_of_getElem? (i := 42) rfl)) rfl
set_option maxRecDepth 20000 in
theorem q_764 : Cond.laysFinal "PromiseChainsModel" "PromiseChainsModel" "bestWay" "[I" ∈ tblG := mG (m4 (List.mem_of_getElem? (i := 44) rfl)) rfl
set_option maxRecDepth 20000 in
theorem q_766 : Cond.laysFinal "PromiseChainsModel" "PromiseChainsModel" "bestSide" "[I" ∈ tblG := mG (m4 (List.mem_of_getElem? (i := 46) rfl)) rfl
set_option maxRecDepth 20000 in
theorem q_768 : Cond.laysFinal "PromiseChainsModel" "PromiseChainsModel" "bestCarries" "[I" ∈ tblG := mG (m4 (List.mem_of_getElem? (i := 48) rfl)) rfl
set_option maxRecDepth 20000 in
theorem q_770 : Cond.lays "PromiseChainsModel" "PromiseChainsModel" "bestMany" "I" ∈ tblG := mG (m4 (List.mem_of_getElem? (i := 50) rfl)) rfl
set_option maxRecDepth 20000 in
theorem q_772 : Cond.laysFinal "PromiseChainsModel" "PromiseChainsModel" "ringPair" "[I" ∈ tblG := mG (m4 (List.mem_of_getElem? (i := 52) rfl)) rfl
set_option maxRecDepth 20000 in
theorem q_774 : Cond.laysFinal "PromiseChainsModel" "PromiseChainsModel" "ringSide" "[I" ∈ tblG := mG (m4 (List.mem_of_getElem? (i := 54) rfl)) rfl
set_option maxRecDepth 20000 in
theorem q_776 : Cond.lays "PromiseChainsModel" "PromiseChainsModel" "ringMany" "I" ∈ tblG := mG (m4 (List.mem_of_getElem? (i := 56) rfl)) rfl
set_option maxRecDepth 20000 in
theorem q_778 : Cond.lays "PromiseChainsModel" "PromiseChainsModel" "ringOff" "I" ∈ tblG := mG (m4 (List.mem_of_getElem? (i := 58) rfl)) rfl
set_option maxRecDepth 20000 in
theorem q_780 : Cond.lays "PromiseChainsModel" "PromiseChainsModel" "ringSum" "I" ∈ tblG := mG (m4 (List.mem_of_getElem? (i := 60) rfl)) rfl
set_option maxRecDepth 20000 in
theorem q_783 : Cond.methodLink "PromiseChainsLaw" 17 ⟨"PromiseChainsModel", "people", "(I)I"⟩ ∈ tblG := mG (m4 (List.mem_of_getElem? (i := 63) rfl)) rfl
set_option maxRecDepth 20000 in
theorem q_784 : Cond.instanceMethod ⟨"PromiseChainsModel", "people", "(I)I"⟩ ∈ tblG := mG (m4 (List.mem_of_getElem? (i := 64) rfl)) rfl
set_option maxRecDepth 20000 in
theorem q_785 : Cond.selects "PromiseChainsModel" ⟨"PromiseChainsModel", "people", "(I)I"⟩ ⟨"PromiseChainsModel", "people", "(I)I"⟩ ∈ tblG := mG (m4 (List.mem_of_getElem? (i := 65) rfl)) rfl
set_option maxRecDepth 20000 in
theorem q_786 : Cond.code ⟨"PromiseChainsModel", "people", "(I)I"⟩ prog_9_method_6_code 3 (some .int) ∈ tblG := mG (m4 (List.mem_of_getElem? (i := 66) rfl)) rfl
set_option maxRecDepth 20000 in
theorem q_787 : Cond.methodLink "PromiseChainsModel" 135 ⟨"PromiseChainsModel", "in", "(III)Z"⟩ ∈ tblG := mG (m4 (List.mem_of_getElem? (i := 67) rfl)) rfl
set_option maxRecDepth 20000 in
theorem q_788 : Cond.static ⟨"PromiseChainsModel", "in", "(III)Z"⟩ ∈ tblG := mG (m4 (List.mem_of_getElem? (i := 68) rfl)) rfl
set_option maxRecDepth 20000 in
theorem q_789 : Cond.code ⟨"PromiseChainsModel", "in", "(III)Z"⟩ prog_9_method_3_code 3 (some .boolean) ∈ tblG := mG (m4 (List.mem_of_getElem? (i := 69) rfl)) rfl
set_option maxRecDepth 20000 in
theorem q_790 : Cond.methodLink "PromiseChainsLaw" 22 ⟨"PromiseChainsModel", "pair", "(IIII)I"⟩ ∈ tblG := mG (m4 (List.mem_of_getElem? (i := 70) rfl)) rfl
set_option maxRecDepth 20000 in
theorem q_791 : Cond.instanceMethod ⟨"PromiseChainsModel", "pair", "(IIII)I"⟩ ∈ tblG := mG (m4 (List.mem_of_getElem? (i := 71) rfl)) rfl
set_option maxRecDepth 20000 in
theorem q_792 : Cond.selects "PromiseChainsModel" ⟨"PromiseChainsModel", "pair", "(IIII)I"⟩ ⟨"PromiseChainsModel", "pair", "(IIII)I"⟩ ∈ tblG := mG (m4 (List.mem_of_getElem? (i := 72) rfl)) rfl
set_option maxRecDepth 20000 in
theorem q_793 : Cond.code ⟨"PromiseChainsModel", "pair", "(IIII)I"⟩ prog_9_method_7_code 6 (some .int) ∈ tblG := mG (m4 (List.mem_of_getElem? (i := 73) rfl)) rfl
set_option maxRecDepth 20000 in
theorem q_794 : Cond.methodLink "PromiseChainsModel" 155 ⟨"PromiseChainsModel", "isPerson", "(I)Z"⟩ ∈ tblG := mG (m4 (List.mem_of_getElem? (i := 74) rfl)) rfl
set_option maxRecDepth 20000 in
theorem q_796 : Cond.instanceMethod ⟨"PromiseChainsModel", "isPerson", "(I)Z"⟩ ∈ tblG := mG (m4 (List.mem_of_getElem? (i := 76) rfl)) rfl
set_option maxRecDepth 20000 in
theorem q_797 : Cond.code ⟨"PromiseChainsModel", "isPerson", "(I)Z"⟩ prog_9_method_4_code 2 (some .boolean) ∈ tblG := mG (m4 (List.mem_of_getElem? (i := 77) rfl)) rfl
set_option maxRecDepth 20000 in
theorem q_798 : Cond.constant "PromiseChainsModel" 159 100000 ∈ tblG := mG (m4 (List.mem_of_getElem? (i := 78) rfl)) rfl
set_option maxRecDepth 20000 in
theorem q_799 : Cond.methodLink "PromiseChainsModel" 160 ⟨"PromiseChainsModel", "keepState", "(I)V"⟩ ∈ tblG := mG (m4 (List.mem_of_getElem? (i := 79) rfl)) rfl
set_option maxRecDepth 20000 in
theorem q_801 : Cond.instanceMethod ⟨"PromiseChainsModel", "keepState", "(I)V"⟩ ∈ tblG := mG (m4 (List.mem_of_getElem? (i := 81) rfl)) rfl
set_option maxRecDepth 20000 in
theorem q_802 : Cond.code ⟨"PromiseChainsModel", "keepState", "(I)V"⟩ prog_9_method_8_code 3 none ∈ tblG := mG (m4 (List.mem_of_getElem? (i := 82) rfl)) rfl
set_option maxRecDepth 20000 in
theorem q_803 : Cond.methodLink "PromiseChainsModel" 164 ⟨"PromiseChainsModel", "forget", "(I)V"⟩ ∈ tblG := mG (m4 (List.mem_of_getElem? (i := 83) rfl)) rfl
set_option maxRecDepth 20000 in
theorem q_805 : Cond.instanceMethod ⟨"PromiseChainsModel", "forget", "(I)V"⟩ ∈ tblG := mG (m4 (List.mem_of_getElem? (i := 85) rfl)) rfl
set_option maxRecDepth 20000 in
theorem q_806 : Cond.code ⟨"PromiseChainsModel", "forget", "(I)V"⟩ prog_9_method_9_code 2 none ∈ tblG := mG (m4 (List.mem_of_getElem? (i := 86) rfl)) rfl
set_option maxRecDepth 20000 in
theorem q_807 : Cond.methodLink "PromiseChainsLaw" 27 ⟨"PromiseChainsModel", "fee", "(III)I"⟩ ∈ tblG := mG (m4 (List.mem_of_getElem? (i := 87) rfl)) rfl
set_option maxRecDepth 20000 in
theorem q_808 : Cond.instanceMethod ⟨"PromiseChainsModel", "fee", "(III)I"⟩ ∈ tblG := mG (m4 (List.mem_of_getElem? (i := 88) rfl)) rfl
set_option maxRecDepth 20000 in
theorem q_809 : Cond.selects "PromiseChainsModel" ⟨"PromiseChainsModel", "fee", "(III)I"⟩ ⟨"PromiseChainsModel", "fee", "(III)I"⟩ ∈ tblG := mG (m4 (List.mem_of_getElem? (i := 89) rfl)) rfl
set_option maxRecDepth 20000 in
theorem q_810 : Cond.code ⟨"PromiseChainsModel", "fee", "(III)I"⟩ prog_9_method_10_code 4 (some .int) ∈ tblG := mG (m4 (List.mem_of_getElem? (i := 90) rfl)) rfl
set_option maxRecDepth 20000 in
theorem q_811 : Cond.methodLink "PromiseChainsLaw" 31 ⟨"PromiseChainsModel", "gap", "(I)I"⟩ ∈ tblG := mG (m4 (List.mem_of_getElem? (i := 91) rfl)) rfl
set_option maxRecDepth 20000 in
theorem q_812 : Cond.instanceMethod ⟨"PromiseChainsModel", "gap", "(I)I"⟩ ∈ tblG := mG (m4 (List.mem_of_getElem? (i := 92) rfl)) rfl
set_option maxRecDepth 20000 in
theorem q_813 : Cond.selects "PromiseChainsModel" ⟨"PromiseChainsModel", "gap", "(I)I"⟩ ⟨"PromiseChainsModel", "gap", "(I)I"⟩ ∈ tblG := mG (m4 (List.mem_of_getElem? (i := 93) rfl)) rfl
set_option maxRecDepth 20000 in
theorem q_814 : Cond.code ⟨"PromiseChainsModel", "gap", "(I)I"⟩ prog_9_method_11_code 3 (some .int) ∈ tblG := mG (m4 (List.mem_of_getElem? (i := 94) rfl)) rfl
set_option maxRecDepth 20000 in
theorem q_815 : Cond.methodLink "PromiseChainsLaw" 35 ⟨"PromiseChainsModel", "look", "(I)I"⟩ ∈ tblG := mG (m4 (List.mem_of_getElem? (i := 95) rfl)) rfl
set_option maxRecDepth 20000 in
theorem q_816 : Cond.instanceMethod ⟨"PromiseChainsModel", "look", "(I)I"⟩ ∈ tblG := mG (m4 (List.mem_of_getElem? (i := 96) rfl)) rfl
set_option maxRecDepth 20000 in
theorem q_817 : Cond.selects "PromiseChainsModel" ⟨"PromiseChainsModel", "look", "(I)I"⟩ ⟨"PromiseChainsModel", "look", "(I)I"⟩ ∈ tblG := mG (m4 (List.mem_of_getElem? (i := 97) rfl)) rfl
set_option maxRecDepth 20000 in
theorem q_818 : Cond.code ⟨"PromiseChainsModel", "look", "(I)I"⟩ prog_9_method_12_code 3 (some .int) ∈ tblG := mG (m4 (List.mem_of_getElem? (i := 98) rfl)) rfl
set_option maxRecDepth 20000 in
theorem q_819 : Cond.methodLink "PromiseChainsLaw" 40 ⟨"PromiseChainsModel", "away", "(IZ)I"⟩ ∈ tblG := mG (m4 (List.mem_of_getElem? (i := 99) rfl)) rfl
set_option maxRecDepth 20000 in
theorem q_820 : Cond.instanceMethod ⟨"PromiseChainsModel", "away", "(IZ)I"⟩ ∈ tblG := mG (m4 (List.mem_of_getElem? (i := 100) rfl)) rfl
set_option maxRecDepth 20000 in
theorem q_821 : Cond.selects "PromiseChainsModel" ⟨"PromiseChainsModel", "away", "(IZ)I"⟩ ⟨"PromiseChainsModel", "away", "(IZ)I"⟩ ∈ tblG := mG (m4 (List.mem_of_getElem? (i := 101) rfl)) rfl
set_option maxRecDepth 20000 in
theorem q_822 : Cond.code ⟨"PromiseChainsModel", "away", "(IZ)I"⟩ prog_9_method_13_code 4 (some .int) ∈ tblG := mG (m4 (List.mem_of_getElem? (i := 102) rfl)) rfl
set_option maxRecDepth 20000 in
theorem q_823 : Cond.methodLink "PromiseChainsModel" 167 ⟨"PromiseChainsModel", "keepAll", "()I"⟩ ∈ tblG := mG (m4 (List.mem_of_getElem? (i := 103) rfl)) rfl
set_option maxRecDepth 20000 in
theorem q_825 : Cond.instanceMethod ⟨"PromiseChainsModel", "keepAll", "()I"⟩ ∈ tblG := mG (m4 (List.mem_of_getElem? (i := 105) rfl)) rfl
set_option maxRecDepth 20000 in
theorem q_826 : Cond.code ⟨"PromiseChainsModel", "keepAll", "()I"⟩ prog_9_method_22_code 5 (some .int) ∈ tblG := mG (m4 (List.mem_of_getElem? (i := 106) rfl)) rfl
set_option maxRecDepth 20000 in
theorem q_827 : Cond.methodLink "PromiseChainsModel" 192 ⟨"PromiseChainsModel", "mayKeep", "(II)Z"⟩ ∈ tblG := mG (m4 (List.mem_of_getElem? (i := 107) rfl)) rfl
set_option maxRecDepth 20000 in
theorem q_829 : Cond.instanceMethod ⟨"PromiseChainsModel", "mayKeep", "(II)Z"⟩ ∈ tblG := mG (m4 (List.mem_of_getElem? (i := 109) rfl)) rfl
set_option maxRecDepth 20000 in
theorem q_830 : Cond.code ⟨"PromiseChainsModel", "mayKeep", "(II)Z"⟩ prog_9_method_23_code 4 (some .boolean) ∈ tblG := mG (m4 (List.mem_of_getElem? (i := 110) rfl)) rfl
set_option maxRecDepth 20000 in
theorem q_831 : Cond.methodLink "PromiseChainsModel" 196 ⟨"PromiseChainsModel", "keep", "(II)V"⟩ ∈ tblG := mG (m4 (List.mem_of_getElem? (i := 111) rfl)) rfl
set_option maxRecDepth 20000 in
theorem q_833 : Cond.instanceMethod ⟨"PromiseChainsModel", "keep", "(II)V"⟩ ∈ tblG := mG (m4 (List.mem_of_getElem? (i := 113) rfl)) rfl
set_option maxRecDepth 20000 in
theorem q_834 : Cond.code ⟨"PromiseChainsModel", "keep", "(II)V"⟩ prog_9_method_24_code 5 none ∈ tblG := mG (m4 (List.mem_of_getElem? (i := 114) rfl)) rfl
set_option maxRecDepth 20000 in
theorem q_835 : Cond.methodLink "PromiseChainsModel" 171 ⟨"PromiseChainsModel", "closings", "(Z)V"⟩ ∈ tblG := mG (m4 (List.mem_of_getElem? (i := 115) rfl)) rfl
set_option maxRecDepth 20000 in
theorem q_837 : Cond.instanceMethod ⟨"PromiseChainsModel", "closings", "(Z)V"⟩ ∈ tblG := mG (m4 (List.mem_of_getElem? (i := 117) rfl)) rfl
set_option maxRecDepth 20000 in
theorem q_838 : Cond.code ⟨"PromiseChainsModel", "closings", "(Z)V"⟩ prog_9_method_30_code 4 none ∈ tblG := mG (m4 (List.mem_of_getElem? (i := 118) rfl)) rfl
set_option maxRecDepth 20000 in
theorem q_839 : Cond.methodLink "PromiseChainsModel" 207 ⟨"PromiseChainsModel", "isCaught", "(I)Z"⟩ ∈ tblG := mG (m4 (List.mem_of_getElem? (i := 119) rfl)) rfl
set_option maxRecDepth 20000 in
theorem q_841 : Cond.instanceMethod ⟨"PromiseChainsModel", "isCaught", "(I)Z"⟩ ∈ tblG := mG (m4 (List.mem_of_getElem? (i := 121) rfl)) rfl
set_option maxRecDepth 20000 in
theorem q_842 : Cond.code ⟨"PromiseChainsModel", "isCaught", "(I)Z"⟩ prog_9_method_29_code 4 (some .boolean) ∈ tblG := mG (m4 (List.mem_of_getElem? (i := 122) rfl)) rfl
set_option maxRecDepth 20000 in
theorem q_843 : Cond.methodLink "PromiseChainsModel" 203 ⟨"PromiseChainsModel", "closeNow", "(III)V"⟩ ∈ tblG := mG (m4 (List.mem_of_getElem? (i := 123) rfl)) rfl
set_option maxRecDepth 20000 in
theorem q_845 : Cond.instanceMethod ⟨"PromiseChainsModel", "closeNow", "(III)V"⟩ ∈ tblG := mG (m4 (List.mem_of_getElem? (i := 125) rfl)) rfl
set_option maxRecDepth 20000 in
theorem q_846 : Cond.code ⟨"PromiseChainsModel", "closeNow", "(III)V"⟩ prog_9_method_28_code 4 none ∈ tblG := mG (m4 (List.mem_of_getElem? (i := 126) rfl)) rfl
set_option maxRecDepth 20000 in
theorem q_847 : Cond.methodLink "PromiseChainsLaw" 44 ⟨"PromiseChainsModel", "best", "(III)I"⟩ ∈ tblG := mG (m4 (List.mem_of_getElem? (i := 127) rfl)) rfl
set_option maxRecDepth 20000 in
theorem q_848 : Cond.instanceMethod ⟨"PromiseChainsModel", "best", "(III)I"⟩ ∈ tblG := mG (m4 (List.mem_of_getElem? (i := 128) rfl)) rfl
set_option maxRecDepth 20000 in
theorem q_849 : Cond.selects "PromiseChainsModel" ⟨"PromiseChainsModel", "best", "(III)I"⟩ ⟨"PromiseChainsModel", "best", "(III)I"⟩ ∈ tblG := mG (m4 (List.mem_of_getElem? (i := 129) rfl)) rfl
set_option maxRecDepth 20000 in
theorem q_850 : Cond.code ⟨"PromiseChainsModel", "best", "(III)I"⟩ prog_9_method_18_code 5 (some .int) ∈ tblG := mG (m4 (List.mem_of_getElem? (i := 130) rfl)) rfl
set_option maxRecDepth 20000 in
theorem q_851 : Cond.methodLink "PromiseChainsModel" 182 ⟨"PromiseChainsModel", "isAsked", "(III)Z"⟩ ∈ tblG := mG (m4 (List.mem_of_getElem? (i := 131) rfl)) rfl
set_option maxRecDepth 20000 in
theorem q_853 : Cond.instanceMethod ⟨"PromiseChainsModel", "isAsked", "(III)Z"⟩ ∈ tblG := mG (m4 (List.mem_of_getElem? (i := 133) rfl)) rfl
set_option maxRecDepth 20000 in
theorem q_854 : Cond.code ⟨"PromiseChainsModel", "isAsked", "(III)Z"⟩ prog_9_method_16_code 4 (some .boolean) ∈ tblG := mG (m4 (List.mem_of_getElem? (i := 134) rfl)) rfl
set_option maxRecDepth 20000 in
theorem q_855 : Cond.methodLink "PromiseChainsModel" 185 ⟨"PromiseChainsModel", "findWay", "(III)I"⟩ ∈ tblG := mG (m4 (List.mem_of_getElem? (i := 135) rfl)) rfl
set_option maxRecDepth 20000 in
theorem q_857 : Cond.instanceMethod ⟨"PromiseChainsModel", "findWay", "(III)I"⟩ ∈ tblG := mG (m4 (List.mem_of_getElem? (i := 137) rfl)) rfl
set_option maxRecDepth 20000 in
theorem q_858 : Cond.code ⟨"PromiseChainsModel", "findWay", "(III)I"⟩ prog_9_method_15_code 14 (some .int) ∈ tblG := mG (m4 (List.mem_of_getElem? (i := 138) rfl)) rfl
set_option maxRecDepth 20000 in
theorem q_859 : Cond.methodLink "PromiseChainsModel" 175 ⟨"PromiseChainsModel", "carried", "(II)I"⟩ ∈ tblG := mG (m4 (List.mem_of_getElem? (i := 139) rfl)) rfl
set_option maxRecDepth 20000 in
theorem q_861 : Cond.instanceMethod ⟨"PromiseChainsModel", "carried", "(II)I"⟩ ∈ tblG := mG (m4 (List.mem_of_getElem? (i := 141) rfl)) rfl
set_option maxRecDepth 20000 in
theorem q_862 : Cond.code ⟨"PromiseChainsModel", "carried", "(II)I"⟩ prog_9_method_14_code 6 (some .int) ∈ tblG := mG (m4 (List.mem_of_getElem? (i := 142) rfl)) rfl
set_option maxRecDepth 20000 in
theorem q_863 : Cond.methodLink "PromiseChainsModel" 189 ⟨"PromiseChainsModel", "takeWay", "()V"⟩ ∈ tblG := mG (m4 (List.mem_of_getElem? (i := 143) rfl)) rfl
set_option maxRecDepth 20000 in
theorem q_865 : Cond.instanceMethod ⟨"PromiseChainsModel", "takeWay", "()V"⟩ ∈ tblG := mG (m4 (List.mem_of_getElem? (i := 145) rfl)) rfl
set_option maxRecDepth 20000 in
theorem q_866 : Cond.code ⟨"PromiseChainsModel", "takeWay", "()V"⟩ prog_9_method_17_code 2 none ∈ tblG := mG (m4 (List.mem_of_getElem? (i := 146) rfl)) rfl
set_option maxRecDepth 20000 in
theorem q_867 : Cond.methodLink "PromiseChainsLaw" 48 ⟨"PromiseChainsModel", "wayAt", "(I)I"⟩ ∈ tblG := mG (m4 (List.mem_of_getElem? (i := 147) rfl)) rfl
set_option maxRecDepth 20000 in
theorem q_868 : Cond.instanceMethod ⟨"PromiseChainsModel", "wayAt", "(I)I"⟩ ∈ tblG := mG (m4 (List.mem_of_getElem? (i := 148) rfl)) rfl
set_option maxRecDepth 20000 in
theorem q_869 : Cond.selects "PromiseChainsModel" ⟨"PromiseChainsModel", "wayAt", "(I)I"⟩ ⟨"PromiseChainsModel", "wayAt", "(I)I"⟩ ∈ tblG := mG (m4 (List.mem_of_getElem? (i := 149) rfl)) rfl
set_option maxRecDepth 20000 in
theorem q_870 : Cond.code ⟨"PromiseChainsModel", "wayAt", "(I)I"⟩ prog_9_method_19_code 2 (some .int) ∈ tblG := mG (m4 (List.mem_of_getElem? (i := 150) rfl)) rfl
set_option maxRecDepth 20000 in
theorem q_871 : Cond.methodLink "PromiseChainsLaw" 52 ⟨"PromiseChainsModel", "promise", "(III)I"⟩ ∈ tblG := mG (m4 (List.mem_of_getElem? (i := 151) rfl)) rfl
set_option maxRecDepth 20000 in
theorem q_872 : Cond.instanceMethod ⟨"PromiseChainsModel", "promise", "(III)I"⟩ ∈ tblG := mG (m4 (List.mem_of_getElem? (i := 152) rfl)) rfl
set_option maxRecDepth 20000 in
theorem q_873 : Cond.selects "PromiseChainsModel" ⟨"PromiseChainsModel", "promise", "(III)I"⟩ ⟨"PromiseChainsModel", "promise", "(III)I"⟩ ∈ tblG := mG (m4 (List.mem_of_getElem? (i := 153) rfl)) rfl
set_option maxRecDepth 20000 in
theorem q_874 : Cond.code ⟨"PromiseChainsModel", "promise", "(III)I"⟩ prog_9_method_20_code 7 (some .int) ∈ tblG := mG (m4 (List.mem_of_getElem? (i := 154) rfl)) rfl
set_option maxRecDepth 20000 in
theorem q_875 : Cond.methodLink "PromiseChainsLaw" 56 ⟨"PromiseChainsModel", "tell", "(I)I"⟩ ∈ tblG := mG (m4 (List.mem_of_getElem? (i := 155) rfl)) rfl
set_option maxRecDepth 20000 in
theorem q_876 : Cond.instanceMethod ⟨"PromiseChainsModel", "tell", "(I)I"⟩ ∈ tblG := mG (m4 (List.mem_of_getElem? (i := 156) rfl)) rfl
set_option maxRecDepth 20000 in
theorem q_877 : Cond.selects "PromiseChainsModel" ⟨"PromiseChainsModel", "tell", "(I)I"⟩ ⟨"PromiseChainsModel", "tell", "(I)I"⟩ ∈ tblG := mG (m4 (List.mem_of_getElem? (i := 157) rfl)) rfl
set_option maxRecDepth 20000 in
theorem q_878 : Cond.code ⟨"PromiseChainsModel", "tell", "(I)I"⟩ prog_9_method_25_code 3 (some .int) ∈ tblG := mG (m4 (List.mem_of_getElem? (i := 158) rfl)) rfl
set_option maxRecDepth 20000 in
theorem q_879 : Cond.methodLink "PromiseChainsModel" 200 ⟨"PromiseChainsModel", "isOpen", "(I)Z"⟩ ∈ tblG := mG (m4 (List.mem_of_getElem? (i := 159) rfl)) rfl
set_option maxRecDepth 20000 in
theorem q_881 : Cond.instanceMethod ⟨"PromiseChainsModel", "isOpen", "(I)Z"⟩ ∈ tblG := mG (m4 (List.mem_of_getElem? (i := 161) rfl)) rfl
set_option maxRecDepth 20000 in
theorem q_882 : Cond.code ⟨"PromiseChainsModel", "isOpen", "(I)Z"⟩ prog_9_method_21_code 2 (some .boolean) ∈ tblG := mG (m4 (List.mem_of_getElem? (i := 162) rfl)) rfl
set_option maxRecDepth 20000 in
theorem q_883 : Cond.methodLink "PromiseChainsLaw" 60 ⟨"PromiseChainsModel", "tick", "(I)I"⟩ ∈ tblG := mG (m4 (List.mem_of_getElem? (i := 163) rfl)) rfl
set_option maxRecDepth 20000 in
theorem q_884 : Cond.instanceMethod ⟨"PromiseChainsModel", "tick", "(I)I"⟩ ∈ tblG := mG (m4 (List.mem_of_getElem? (i := 164) rfl)) rfl
set_option maxRecDepth 20000 in
theorem q_885 : Cond.selects "PromiseChainsModel" ⟨"PromiseChainsModel", "tick", "(I)I"⟩ ⟨"PromiseChainsModel", "tick", "(I)I"⟩ ∈ tblG := mG (m4 (List.mem_of_getElem? (i := 165) rfl)) rfl
set_option maxRecDepth 20000 in
theorem q_886 : Cond.code ⟨"PromiseChainsModel", "tick", "(I)I"⟩ prog_9_method_26_code 6 (some .int) ∈ tblG := mG (m4 (List.mem_of_getElem? (i := 166) rfl)) rfl
set_option maxRecDepth 20000 in
theorem q_887 : Cond.methodLink "PromiseChainsLaw" 65 ⟨"PromiseChainsModel", "promiseAt", "(II)I"⟩ ∈ tblG := mG (m4 (List.mem_of_getElem? (i := 167) rfl)) rfl
set_option maxRecDepth 20000 in
theorem q_888 : Cond.instanceMethod ⟨"PromiseChainsModel", "promiseAt", "(II)I"⟩ ∈ tblG := mG (m4 (List.mem_of_getElem? (i := 168) rfl)) rfl
set_option maxRecDepth 20000 in
theorem q_889 : Cond.selects "PromiseChainsModel" ⟨"PromiseChainsModel", "promiseAt", "(II)I"⟩ ⟨"PromiseChainsModel", "promiseAt", "(II)I"⟩ ∈ tblG := mG (m4 (List.mem_of_getElem? (i := 169) rfl)) rfl
set_option maxRecDepth 20000 in
theorem q_890 : Cond.code ⟨"PromiseChainsModel", "promiseAt", "(II)I"⟩ prog_9_method_27_code 3 (some .int) ∈ tblG := mG (m4 (List.mem_of_getElem? (i := 170) rfl)) rfl
set_option maxRecDepth 20000 in
theorem q_891 : Cond.methodLink "PromiseChainsLaw" 85 ⟨"PromiseChainsModel", "close", "(III)I"⟩ ∈ tblG := mG (m4 (List.mem_of_getElem? (i := 171) rfl)) rfl
set_option maxRecDepth 20000 in
theorem q_892 : Cond.instanceMethod ⟨"PromiseChainsModel", "close", "(III)I"⟩ ∈ tblG := mG (m4 (List.mem_of_getElem? (i := 172) rfl)) rfl
set_option maxRecDepth 20000 in
theorem q_893 : Cond.selects "PromiseChainsModel" ⟨"PromiseChainsModel", "close", "(III)I"⟩ ⟨"PromiseChainsModel", "close", "(III)I"⟩ ∈ tblG := mG (m4 (List.mem_of_getElem? (i := 173) rfl)) rfl
set_option maxRecDepth 20000 in
theorem q_894 : Cond.code ⟨"PromiseChainsModel", "close", "(III)I"⟩ prog_9_method_32_code 4 (some .int) ∈ tblG := mG (m4 (List.mem_of_getElem? (i := 174) rfl)) rfl
set_option maxRecDepth 20000 in
theorem q_895 : Cond.methodLink "PromiseChainsModel" 210 ⟨"PromiseChainsModel", "isPair", "(I)Z"⟩ ∈ tblG := mG (m4 (List.mem_of_getElem? (i := 175) rfl)) rfl
set_option maxRecDepth 20000 in
theorem q_897 : Cond.instanceMethod ⟨"PromiseChainsModel", "isPair", "(I)Z"⟩ ∈ tblG := mG (m4 (List.mem_of_getElem? (i := 177) rfl)) rfl
set_option maxRecDepth 20000 in
theorem q_898 : Cond.code ⟨"PromiseChainsModel", "isPair", "(I)Z"⟩ prog_9_method_5_code 2 (some .boolean) ∈ tblG := mG (m4 (List.mem_of_getElem? (i := 178) rfl)) rfl
set_option maxRecDepth 20000 in
theorem q_899 : Cond.methodLink "PromiseChainsModel" 213 ⟨"PromiseChainsModel", "hasLocks", "(I)Z"⟩ ∈ tblG := mG (m4 (List.mem_of_getElem? (i := 179) rfl)) rfl
set_option maxRecDepth 20000 in
theorem q_901 : Cond.instanceMethod ⟨"PromiseChainsModel", "hasLocks", "(I)Z"⟩ ∈ tblG := mG (m4 (List.mem_of_getElem? (i := 181) rfl)) rfl
set_option maxRecDepth 20000 in
theorem q_902 : Cond.code ⟨"PromiseChainsModel", "hasLocks", "(I)Z"⟩ prog_9_method_31_code 5 (some .boolean) ∈ tblG := mG (m4 (List.mem_of_getElem? (i := 182) rfl)) rfl
set_option maxRecDepth 20000 in
theorem q_903 : Cond.methodLink "PromiseChainsLaw" 69 ⟨"PromiseChainsModel", "side", "(II)I"⟩ ∈ tblG := mG (m4 (List.mem_of_getElem? (i := 183) rfl)) rfl
set_option maxRecDepth 20000 in
theorem q_904 : Cond.instanceMethod ⟨"PromiseChainsModel", "side", "(II)I"⟩ ∈ tblG := mG (m4 (List.mem_of_getElem? (i := 184) rfl)) rfl
set_option maxRecDepth 20000 in
theorem q_905 : Cond.selects "PromiseChainsModel" ⟨"PromiseChainsModel", "side", "(II)I"⟩ ⟨"PromiseChainsModel", "side", "(II)I"⟩ ∈ tblG := mG (m4 (List.mem_of_getElem? (i := 185) rfl)) rfl
set_option maxRecDepth 20000 in
theorem q_906 : Cond.code ⟨"PromiseChainsModel", "side", "(II)I"⟩ prog_9_method_33_code 3 (some .int) ∈ tblG := mG (m4 (List.mem_of_getElem? (i := 186) rfl)) rfl
set_option maxRecDepth 20000 in
theorem q_907 : Cond.methodLink "PromiseChainsLaw" 73 ⟨"PromiseChainsModel", "locked", "(II)I"⟩ ∈ tblG := mG (m4 (List.mem_of_getElem? (i := 187) rfl)) rfl
set_option maxRecDepth 20000 in
theorem q_908 : Cond.instanceMethod ⟨"PromiseChainsModel", "locked", "(II)I"⟩ ∈ tblG := mG (m4 (List.mem_of_getElem? (i := 188) rfl)) rfl
set_option maxRecDepth 20000 in
theorem q_909 : Cond.selects "PromiseChainsModel" ⟨"PromiseChainsModel", "locked", "(II)I"⟩ ⟨"PromiseChainsModel", "locked", "(II)I"⟩ ∈ tblG := mG (m4 (List.mem_of_getElem? (i := 189) rfl)) rfl
set_option maxRecDepth 20000 in
theorem q_910 : Cond.code ⟨"PromiseChainsModel", "locked", "(II)I"⟩ prog_9_method_34_code 3 (some .int) ∈ tblG := mG (m4 (List.mem_of_getElem? (i := 190) rfl)) rfl
set_option maxRecDepth 20000 in
theorem q_911 : Cond.methodLink "PromiseChainsLaw" 77 ⟨"PromiseChainsModel", "about", "(II)I"⟩ ∈ tblG := mG (m4 (List.mem_of_getElem? (i := 191) rfl)) rfl
set_option maxRecDepth 20000 in
theorem q_912 : Cond.instanceMethod ⟨"PromiseChainsModel", "about", "(II)I"⟩ ∈ tblG := mG (m4 (List.mem_of_getElem? (i := 192) rfl)) rfl
set_option maxRecDepth 20000 in
theorem q_913 : Cond.selects "PromiseChainsModel" ⟨"PromiseChainsModel", "about", "(II)I"⟩ ⟨"PromiseChainsModel", "about", "(II)I"⟩ ∈ tblG := mG (m4 (List.mem_of_getElem? (i := 193) rfl)) rfl
set_option maxRecDepth 20000 in
theorem q_914 : Cond.code ⟨"PromiseChainsModel", "about", "(II)I"⟩ prog_9_method_35_code 3 (some .int) ∈ tblG := mG (m4 (List.mem_of_getElem? (i := 194) rfl)) rfl
set_option maxRecDepth 20000 in
theorem q_915 : Cond.methodLink "PromiseChainsLaw" 81 ⟨"PromiseChainsModel", "stateAt", "(III)I"⟩ ∈ tblG := mG (m4 (List.mem_of_getElem? (i := 195) rfl)) rfl
set_option maxRecDepth 20000 in
theorem q_916 : Cond.instanceMethod ⟨"PromiseChainsModel", "stateAt", "(III)I"⟩ ∈ tblG := mG (m4 (List.mem_of_getElem? (i := 196) rfl)) rfl
set_option maxRecDepth 20000 in
theorem q_917 : Cond.selects "PromiseChainsModel" ⟨"PromiseChainsModel", "stateAt", "(III)I"⟩ ⟨"PromiseChainsModel", "stateAt", "(III)I"⟩ ∈ tblG := mG (m4 (List.mem_of_getElem? (i := 197) rfl)) rfl
set_option maxRecDepth 20000 in
theorem q_918 : Cond.code ⟨"PromiseChainsModel", "stateAt", "(III)I"⟩ prog_9_method_36_code 4 (some .int) ∈ tblG := mG (m4 (List.mem_of_getElem? (i := 198) rfl)) rfl
set_option maxRecDepth 20000 in
theorem q_919 : Cond.methodLink "PromiseChainsLaw" 89 ⟨"PromiseChainsModel", "wealth", "(I)I"⟩ ∈ tblG := mG (m4 (List.mem_of_getElem? (i := 199) rfl)) rfl
set_option maxRecDepth 20000 in
theorem q_920 : Cond.instanceMethod ⟨"PromiseChainsModel", "wealth", "(I)I"⟩ ∈ tblG := mG (m4 (List.mem_of_getElem? (i := 200) rfl)) rfl
set_option maxRecDepth 20000 in
theorem q_921 : Cond.selects "PromiseChainsModel" ⟨"PromiseChainsModel", "wealth", "(I)I"⟩ ⟨"PromiseChainsModel", "wealth", "(I)I"⟩ ∈ tblG := mG (m4 (List.mem_of_getElem? (i := 201) rfl)) rfl
set_option maxRecDepth 20000 in
theorem q_922 : Cond.code ⟨"PromiseChainsModel", "wealth", "(I)I"⟩ prog_9_method_38_code 2 (some .int) ∈ tblG := mG (m4 (List.mem_of_getElem? (i := 202) rfl)) rfl
set_option maxRecDepth 20000 in
theorem q_923 : Cond.methodLink "PromiseChainsModel" 216 ⟨"PromiseChainsModel", "wealthOf", "(I)I"⟩ ∈ tblG := mG (m4 (List.mem_of_getElem? (i := 203) rfl)) rfl
set_option maxRecDepth 20000 in
theorem q_925 : Cond.instanceMethod ⟨"PromiseChainsModel", "wealthOf", "(I)I"⟩ ∈ tblG := mG (m4 (List.mem_of_getElem? (i := 205) rfl)) rfl
set_option maxRecDepth 20000 in
theorem q_926 : Cond.code ⟨"PromiseChainsModel", "wealthOf", "(I)I"⟩ prog_9_method_37_code 4 (some .int) ∈ tblG := mG (m4 (List.mem_of_getElem? (i := 206) rfl)) rfl
set_option maxRecDepth 20000 in
theorem q_927 : Cond.methodLink "PromiseChainsLaw" 94 ⟨"PromiseChainsModel", "off", "()I"⟩ ∈ tblG := mG (m4 (List.mem_of_getElem? (i := 207) rfl)) rfl
set_option maxRecDepth 20000 in
theorem q_928 : Cond.instanceMethod ⟨"PromiseChainsModel", "off", "()I"⟩ ∈ tblG := mG (m4 (List.mem_of_getElem? (i := 208) rfl)) rfl
set_option maxRecDepth 20000 in
theorem q_929 : Cond.selects "PromiseChainsModel" ⟨"PromiseChainsModel", "off", "()I"⟩ ⟨"PromiseChainsModel", "off", "()I"⟩ ∈ tblG := mG (m4 (List.mem_of_getElem? (i := 209) rfl)) rfl
set_option maxRecDepth 20000 in
theorem q_930 : Cond.code ⟨"PromiseChainsModel", "off", "()I"⟩ prog_9_method_40_code 3 (some .int) ∈ tblG := mG (m4 (List.mem_of_getElem? (i := 210) rfl)) rfl
set_option maxRecDepth 20000 in
theorem q_931 : Cond.methodLink "PromiseChainsModel" 220 ⟨"PromiseChainsModel", "size", "(I)I"⟩ ∈ tblG := mG (m4 (List.mem_of_getElem? (i := 211) rfl)) rfl
set_option maxRecDepth 20000 in
theorem q_932 : Cond.static ⟨"PromiseChainsModel", "size", "(I)I"⟩ ∈ tblG := mG (m4 (List.mem_of_getElem? (i := 212) rfl)) rfl
set_option maxRecDepth 20000 in
theorem q_933 : Cond.code ⟨"PromiseChainsModel", "size", "(I)I"⟩ prog_9_method_39_code 1 (some .int) ∈ tblG := mG (m4 (List.mem_of_getElem? (i := 213) rfl)) rfl
set_option maxRecDepth 20000 in
theorem q_934 : Cond.methodLink "PromiseChainsLaw" 98 ⟨"PromiseChainsModel", "ring", "(II)I"⟩ ∈ tblG := mG (m4 (List.mem_of_getElem? (i := 214) rfl)) rfl
set_option maxRecDepth 20000 in
theorem q_935 : Cond.instanceMethod ⟨"PromiseChainsModel", "ring", "(II)I"⟩ ∈ tblG := mG (m4 (List.mem_of_getElem? (i := 215) rfl)) rfl
set_option maxRecDepth 20000 in
theorem q_936 : Cond.selects "PromiseChainsModel" ⟨"PromiseChainsModel", "ring", "(II)I"⟩ ⟨"PromiseChainsModel", "ring", "(II)I"⟩ ∈ tblG := mG (m4 (List.mem_of_getElem? (i := 216) rfl)) rfl
set_option maxRecDepth 20000 in
theorem q_937 : Cond.code ⟨"PromiseChainsModel", "ring", "(II)I"⟩ prog_9_method_47_code 3 (some .int) ∈ tblG := mG (m4 (List.mem_of_getElem? (i := 217) rfl)) rfl
set_option maxRecDepth 20000 in
theorem q_938 : Cond.methodLink "PromiseChainsModel" 250 ⟨"PromiseChainsModel", "findRing", "()V"⟩ ∈ tblG := mG (m4 (List.mem_of_getElem? (i := 218) rfl)) rfl
set_option maxRecDepth 20000 in
theorem q_940 : Cond.instanceMethod ⟨"PromiseChainsModel", "findRing", "()V"⟩ ∈ tblG := mG (m4 (List.mem_of_getElem? (i := 220) rfl)) rfl
set_option maxRecDepth 20000 in
theorem q_941 : Cond.code ⟨"PromiseChainsModel", "findRing", "()V"⟩ prog_9_method_44_code 2 none ∈ tblG := mG (m4 (List.mem_of_getElem? (i := 221) rfl)) rfl
set_option maxRecDepth 20000 in
theorem q_942 : Cond.methodLink "PromiseChainsModel" 241 ⟨"PromiseChainsModel", "goRound", "(II)V"⟩ ∈ tblG := mG (m4 (List.mem_of_getElem? (i := 222) rfl)) rfl
set_option maxRecDepth 20000 in
theorem q_944 : Cond.instanceMethod ⟨"PromiseChainsModel", "goRound", "(II)V"⟩ ∈ tblG := mG (m4 (List.mem_of_getElem? (i := 224) rfl)) rfl
set_option maxRecDepth 20000 in
theorem q_945 : Cond.code ⟨"PromiseChainsModel", "goRound", "(II)V"⟩ prog_9_method_46_code 10 none ∈ tblG := mG (m4 (List.mem_of_getElem? (i := 225) rfl)) rfl
set_option maxRecDepth 20000 in
theorem q_946 : Cond.methodLink "PromiseChainsModel" 244 ⟨"PromiseChainsModel", "isFree", "(I)Z"⟩ ∈ tblG := mG (m4 (List.mem_of_getElem? (i := 226) rfl)) rfl
set_option maxRecDepth 20000 in
theorem q_948 : Cond.instanceMethod ⟨"PromiseChainsModel", "isFree", "(I)Z"⟩ ∈ tblG := mG (m4 (List.mem_of_getElem? (i := 228) rfl)) rfl
set_option maxRecDepth 20000 in
theorem q_949 : Cond.code ⟨"PromiseChainsModel", "isFree", "(I)Z"⟩ prog_9_method_45_code 2 (some .boolean) ∈ tblG := mG (m4 (List.mem_of_getElem? (i := 229) rfl)) rfl
set_option maxRecDepth 20000 in
theorem q_950 : Cond.methodLink "PromiseChainsModel" 247 ⟨"PromiseChainsModel", "tryAll", "(I)V"⟩ ∈ tblG := mG (m4 (List.mem_of_getElem? (i := 230) rfl)) rfl
set_option maxRecDepth 20000 in
theorem q_952 : Cond.instanceMethod ⟨"PromiseChainsModel", "tryAll", "(I)V"⟩ ∈ tblG := mG (m4 (List.mem_of_getElem? (i := 232) rfl)) rfl
set_option maxRecDepth 20000 in
theorem q_953 : Cond.code ⟨"PromiseChainsModel", "tryAll", "(I)V"⟩ prog_9_method_43_code 7 none ∈ tblG := mG (m4 (List.mem_of_getElem? (i := 233) rfl)) rfl
set_option maxRecDepth 20000 in
theorem q_954 : Cond.methodLink "PromiseChainsModel" 235 ⟨"PromiseChainsModel", "off", "()I"⟩ ∈ tblG := mG (m4 (List.mem_of_getElem? (i := 234) rfl)) rfl
set_option maxRecDepth 20000 in
theorem q_955 : Cond.methodLink "PromiseChainsModel" 238 ⟨"PromiseChainsModel", "tryRing", "(III)V"⟩ ∈ tblG := mG (m4 (List.mem_of_getElem? (i := 235) rfl)) rfl
set_option maxRecDepth 20000 in
theorem q_957 : Cond.instanceMethod ⟨"PromiseChainsModel", "tryRing", "(III)V"⟩ ∈ tblG := mG (m4 (List.mem_of_getElem? (i := 237) rfl)) rfl
set_option maxRecDepth 20000 in
theorem q_958 : Cond.code ⟨"PromiseChainsModel", "tryRing", "(III)V"⟩ prog_9_method_42_code 8 none ∈ tblG := mG (m4 (List.mem_of_getElem? (i := 238) rfl)) rfl
set_option maxRecDepth 20000 in
theorem q_959 : Cond.methodLink "PromiseChainsModel" 232 ⟨"PromiseChainsModel", "isBetter", "(III)Z"⟩ ∈ tblG := mG (m4 (List.mem_of_getElem? (i := 239) rfl)) rfl
theorem q_961 : Cond.instanceMethod ⟨"PromiseChainsModel", "isBetter", "(III)Z"⟩ ∈ tblG := mG (m5 (List.mem_of_getElem? (i := 1) rfl)) rfl
theorem q_962 : Cond.code ⟨"PromiseChainsModel", "isBetter", "(III)Z"⟩ prog_9_method_41_code 5 (some .boolean) ∈ tblG := mG (m5 (List.mem_of_getElem? (i := 2) rfl)) rfl
theorem q_963 : Cond.methodLink "PromiseChainsLaw" 102 ⟨"PromiseChainsModel", "even", "()I"⟩ ∈ tblG := mG (m5 (List.mem_of_getElem? (i := 3) rfl)) rfl
theorem q_964 : Cond.instanceMethod ⟨"PromiseChainsModel", "even", "()I"⟩ ∈ tblG := mG (m5 (List.mem_of_getElem? (i := 4) rfl)) rfl
theorem q_965 : Cond.selects "PromiseChainsModel" ⟨"PromiseChainsModel", "even", "()I"⟩ ⟨"PromiseChainsModel", "even", "()I"⟩ ∈ tblG := mG (m5 (List.mem_of_getElem? (i := 5) rfl)) rfl
theorem q_966 : Cond.code ⟨"PromiseChainsModel", "even", "()I"⟩ prog_9_method_48_code 2 (some .int) ∈ tblG := mG (m5 (List.mem_of_getElem? (i := 6) rfl)) rfl
theorem q_967 : Cond.methodLink "PromiseChainsLaw" 106 ⟨"PromiseChainsModel", "tries", "(I)I"⟩ ∈ tblG := mG (m5 (List.mem_of_getElem? (i := 7) rfl)) rfl
theorem q_968 : Cond.instanceMethod ⟨"PromiseChainsModel", "tries", "(I)I"⟩ ∈ tblG := mG (m5 (List.mem_of_getElem? (i := 8) rfl)) rfl
theorem q_969 : Cond.selects "PromiseChainsModel" ⟨"PromiseChainsModel", "tries", "(I)I"⟩ ⟨"PromiseChainsModel", "tries", "(I)I"⟩ ∈ tblG := mG (m5 (List.mem_of_getElem? (i := 9) rfl)) rfl
theorem q_970 : Cond.code ⟨"PromiseChainsModel", "tries", "(I)I"⟩ prog_9_method_49_code 7 (some .int) ∈ tblG := mG (m5 (List.mem_of_getElem? (i := 10) rfl)) rfl
theorem q_971 : Cond.constant "PromiseChainsModel" 253 200000 ∈ tblG := mG (m5 (List.mem_of_getElem? (i := 11) rfl)) rfl
theorem q_972 : Cond.methodLink "PromiseChainsLaw" 110 ⟨"PromiseChainsModel", "learnt", "(II)I"⟩ ∈ tblG := mG (m5 (List.mem_of_getElem? (i := 12) rfl)) rfl
theorem q_973 : Cond.instanceMethod ⟨"PromiseChainsModel", "learnt", "(II)I"⟩ ∈ tblG := mG (m5 (List.mem_of_getElem? (i := 13) rfl)) rfl
theorem q_974 : Cond.selects "PromiseChainsModel" ⟨"PromiseChainsModel", "learnt", "(II)I"⟩ ⟨"PromiseChainsModel", "learnt", "(II)I"⟩ ∈ tblG := mG (m5 (List.mem_of_getElem? (i := 14) rfl)) rfl
theorem q_975 : Cond.code ⟨"PromiseChainsModel", "learnt", "(II)I"⟩ prog_9_method_50_code 3 (some .int) ∈ tblG := mG (m5 (List.mem_of_getElem? (i := 15) rfl)) rfl
theorem q_976 : Cond.methodLink "PromiseChainsLaw" 114 ⟨"PromiseChainsModel", "count", "(I)I"⟩ ∈ tblG := mG (m5 (List.mem_of_getElem? (i := 16) rfl)) rfl
theorem q_977 : Cond.instanceMethod ⟨"PromiseChainsModel", "count", "(I)I"⟩ ∈ tblG := mG (m5 (List.mem_of_getElem? (i := 17) rfl)) rfl
theorem q_978 : Cond.selects "PromiseChainsModel" ⟨"PromiseChainsModel", "count", "(I)I"⟩ ⟨"PromiseChainsModel", "count", "(I)I"⟩ ∈ tblG := mG (m5 (List.mem_of_getElem? (i := 18) rfl)) rfl
theorem q_979 : Cond.code ⟨"PromiseChainsModel", "count", "(I)I"⟩ prog_9_method_51_code 4 (some .int) ∈ tblG := mG (m5 (List.mem_of_getElem? (i := 19) rfl)) rfl
theorem q_980 : Cond.methodLink "PromiseChainsLaw" 119 ⟨"PromiseChainsModel", "digest", "()J"⟩ ∈ tblG := mG (m5 (List.mem_of_getElem? (i := 20) rfl)) rfl
theorem q_981 : Cond.instanceMethod ⟨"PromiseChainsModel", "digest", "()J"⟩ ∈ tblG := mG (m5 (List.mem_of_getElem? (i := 21) rfl)) rfl
theorem q_982 : Cond.selects "PromiseChainsModel" ⟨"PromiseChainsModel", "digest", "()J"⟩ ⟨"PromiseChainsModel", "digest", "()J"⟩ ∈ tblG := mG (m5 (List.mem_of_getElem? (i := 22) rfl)) rfl
theorem q_983 : Cond.code ⟨"PromiseChainsModel", "digest", "()J"⟩ prog_9_method_52_code 5 (some .long) ∈ tblG := mG (m5 (List.mem_of_getElem? (i := 23) rfl)) rfl
theorem q_984 : Cond.constantLong "PromiseChainsModel" 254 233 ∈ tblG := mG (m5 (List.mem_of_getElem? (i := 24) rfl)) rfl
theorem q_985 : Cond.constantLong "PromiseChainsModel" 256 31 ∈ tblG := mG (m5 (List.mem_of_getElem? (i := 25) rfl)) rfl
theorem q_986 : Cond.methodLink "PromiseChainsModel" 258 ⟨"PromiseChainsModel", "count", "(I)I"⟩ ∈ tblG := mG (m5 (List.mem_of_getElem? (i := 26) rfl)) rfl
theorem q_987 : Cond.methodLink "PromiseChainsModel" 261 ⟨"PromiseChainsModel", "about", "(II)I"⟩ ∈ tblG := mG (m5 (List.mem_of_getElem? (i := 27) rfl)) rfl
theorem q_988 : Cond.methodLink "PromiseChainsModel" 264 ⟨"PromiseChainsModel", "promiseAt", "(II)I"⟩ ∈ tblG := mG (m5 (List.mem_of_getElem? (i := 28) rfl)) rfl
theorem q_p0 : Cond.selects "PromiseChains" ⟨"PromiseChains", "mayAskWay", "(III)Z"⟩ ⟨"PromiseChains", "mayAskWay", "(III)Z"⟩ ∈ tblG := mG (mP (List.mem_of_getElem? (i := 0) rfl)) rfl
theorem q_p1 : Cond.selects "PromiseChains" ⟨"PromiseChains", "findWay", "(III)Z"⟩ ⟨"PromiseChains", "findWay", "(III)Z"⟩ ∈ tblG := mG (mP (List.mem_of_getElem? (i := 1) rfl)) rfl
theorem q_p2 : Cond.selects "PromiseChains" ⟨"PromiseChains", "lockAlong", "(II)I"⟩ ⟨"PromiseChains", "lockAlong", "(II)I"⟩ ∈ tblG := mG (mP (List.mem_of_getElem? (i := 2) rfl)) rfl
theorem q_p3 : Cond.selects "PromiseChains" ⟨"PromiseChains", "findRing", "()Z"⟩ ⟨"PromiseChains", "findRing", "()Z"⟩ ∈ tblG := mG (mP (List.mem_of_getElem? (i := 3) rfl)) rfl
theorem q_p4 : Cond.selects "PromiseChains" ⟨"PromiseChains", "withPair", "(JI)J"⟩ ⟨"PromiseChains", "withPair", "(JI)J"⟩ ∈ tblG := mG (mP (List.mem_of_getElem? (i := 4) rfl)) rfl
theorem q_p5 : Cond.selects "PromiseChainsModel" ⟨"PromiseChainsModel", "isPerson", "(I)Z"⟩ ⟨"PromiseChainsModel", "isPerson", "(I)Z"⟩ ∈ tblG := mG (mP (List.mem_of_getElem? (i := 5) rfl)) rfl
theorem q_p6 : Cond.selects "PromiseChainsModel" ⟨"PromiseChainsModel", "keepState", "(I)V"⟩ ⟨"PromiseChainsModel", "keepState", "(I)V"⟩ ∈ tblG := mG (mP (List.mem_of_getElem? (i := 6) rfl)) rfl
theorem q_p7 : Cond.selects "PromiseChainsModel" ⟨"PromiseChainsModel", "forget", "(I)V"⟩ ⟨"PromiseChainsModel", "forget", "(I)V"⟩ ∈ tblG := mG (mP (List.mem_of_getElem? (i := 7) rfl)) rfl
theorem q_p8 : Cond.selects "PromiseChainsModel" ⟨"PromiseChainsModel", "keepAll", "()I"⟩ ⟨"PromiseChainsModel", "keepAll", "()I"⟩ ∈ tblG := mG (mP (List.mem_of_getElem? (i := 8) rfl)) rfl
theorem q_p9 : Cond.selects "PromiseChainsModel" ⟨"PromiseChainsModel", "mayKeep", "(II)Z"⟩ ⟨"PromiseChainsModel", "mayKeep", "(II)Z"⟩ ∈ tblG := mG (mP (List.mem_of_getElem? (i := 9) rfl)) rfl
theorem q_p10 : Cond.selects "PromiseChainsModel" ⟨"PromiseChainsModel", "keep", "(II)V"⟩ ⟨"PromiseChainsModel", "keep", "(II)V"⟩ ∈ tblG := mG (mP (List.mem_of_getElem? (i := 10) rfl)) rfl
theorem q_p11 : Cond.selects "PromiseChainsModel" ⟨"PromiseChainsModel", "closings", "(Z)V"⟩ ⟨"PromiseChainsModel", "closings", "(Z)V"⟩ ∈ tblG := mG (mP (List.mem_of_getElem? (i := 11) rfl)) rfl
theorem q_p12 : Cond.selects "PromiseChainsModel" ⟨"PromiseChainsModel", "isCaught", "(I)Z"⟩ ⟨"PromiseChainsModel", "isCaught", "(I)Z"⟩ ∈ tblG := mG (mP (List.mem_of_getElem? (i := 12) rfl)) rfl
theorem q_p13 : Cond.selects "PromiseChainsModel" ⟨"PromiseChainsModel", "closeNow", "(III)V"⟩ ⟨"PromiseChainsModel", "closeNow", "(III)V"⟩ ∈ tblG := mG (mP (List.mem_of_getElem? (i := 13) rfl)) rfl
theorem q_p14 : Cond.selects "PromiseChainsModel" ⟨"PromiseChainsModel", "isAsked", "(III)Z"⟩ ⟨"PromiseChainsModel", "isAsked", "(III)Z"⟩ ∈ tblG := mG (mP (List.mem_of_getElem? (i := 14) rfl)) rfl
theorem q_p15 : Cond.selects "PromiseChainsModel" ⟨"PromiseChainsModel", "findWay", "(III)I"⟩ ⟨"PromiseChainsModel", "findWay", "(III)I"⟩ ∈ tblG := mG (mP (List.mem_of_getElem? (i := 15) rfl)) rfl
theorem q_p16 : Cond.selects "PromiseChainsModel" ⟨"PromiseChainsModel", "carried", "(II)I"⟩ ⟨"PromiseChainsModel", "carried", "(II)I"⟩ ∈ tblG := mG (mP (List.mem_of_getElem? (i := 16) rfl)) rfl
theorem q_p17 : Cond.selects "PromiseChainsModel" ⟨"PromiseChainsModel", "takeWay", "()V"⟩ ⟨"PromiseChainsModel", "takeWay", "()V"⟩ ∈ tblG := mG (mP (List.mem_of_getElem? (i := 17) rfl)) rfl
theorem q_p18 : Cond.selects "PromiseChainsModel" ⟨"PromiseChainsModel", "isOpen", "(I)Z"⟩ ⟨"PromiseChainsModel", "isOpen", "(I)Z"⟩ ∈ tblG := mG (mP (List.mem_of_getElem? (i := 18) rfl)) rfl
theorem q_p19 : Cond.selects "PromiseChainsModel" ⟨"PromiseChainsModel", "isPair", "(I)Z"⟩ ⟨"PromiseChainsModel", "isPair", "(I)Z"⟩ ∈ tblG := mG (mP (List.mem_of_getElem? (i := 19) rfl)) rfl
theorem q_p20 : Cond.selects "PromiseChainsModel" ⟨"PromiseChainsModel", "hasLocks", "(I)Z"⟩ ⟨"PromiseChainsModel", "hasLocks", "(I)Z"⟩ ∈ tblG := mG (mP (List.mem_of_getElem? (i := 20) rfl)) rfl
theorem q_p21 : Cond.selects "PromiseChainsModel" ⟨"PromiseChainsModel", "wealthOf", "(I)I"⟩ ⟨"PromiseChainsModel", "wealthOf", "(I)I"⟩ ∈ tblG := mG (mP (List.mem_of_getElem? (i := 21) rfl)) rfl
theorem q_p22 : Cond.selects "PromiseChainsModel" ⟨"PromiseChainsModel", "findRing", "()V"⟩ ⟨"PromiseChainsModel", "findRing", "()V"⟩ ∈ tblG := mG (mP (List.mem_of_getElem? (i := 22) rfl)) rfl
theorem q_p23 : Cond.selects "PromiseChainsModel" ⟨"PromiseChainsModel", "goRound", "(II)V"⟩ ⟨"PromiseChainsModel", "goRound", "(II)V"⟩ ∈ tblG := mG (mP (List.mem_of_getElem? (i := 23) rfl)) rfl
theorem q_p24 : Cond.selects "PromiseChainsModel" ⟨"PromiseChainsModel", "isFree", "(I)Z"⟩ ⟨"PromiseChainsModel", "isFree", "(I)Z"⟩ ∈ tblG := mG (mP (List.mem_of_getElem? (i := 24) rfl)) rfl
theorem q_p25 : Cond.selects "PromiseChainsModel" ⟨"PromiseChainsModel", "tryAll", "(I)V"⟩ ⟨"PromiseChainsModel", "tryAll", "(I)V"⟩ ∈ tblG := mG (mP (List.mem_of_getElem? (i := 25) rfl)) rfl
theorem q_p26 : Cond.selects "PromiseChainsModel" ⟨"PromiseChainsModel", "tryRing", "(III)V"⟩ ⟨"PromiseChainsModel", "tryRing", "(III)V"⟩ ∈ tblG := mG (mP (List.mem_of_getElem? (i := 26) rfl)) rfl
theorem q_p27 : Cond.selects "PromiseChainsModel" ⟨"PromiseChainsModel", "isBetter", "(III)Z"⟩ ⟨"PromiseChainsModel", "isBetter", "(III)Z"⟩ ∈ tblG := mG (mP (List.mem_of_getElem? (i := 27) rfl)) rfl
theorem i_PC : ∀ w ∈ u_ws R_PC F_PC 9, w ∈ tblG := List.forall_mem_cons.mpr ⟨q_265, List.forall_mem_cons.mpr ⟨q_267, List.forall_mem_cons.mpr ⟨q_269, List.forall_mem_cons.mpr ⟨q_271, List.forall_mem_cons.mpr ⟨q_273, List.forall_mem_cons.mpr ⟨q_275, List.forall_mem_cons.mpr ⟨q_277, List.forall_mem_cons.mpr ⟨q_279, List.forall_mem_cons.mpr ⟨q_281, fun _ h => absurd h List.not_mem_nil⟩⟩⟩⟩⟩⟩⟩⟩⟩
theorem i_PE : ∀ w ∈ u_ws R_PE F_PE 5, w ∈ tblG := List.forall_mem_cons.mpr ⟨q_37, List.forall_mem_cons.mpr ⟨q_39, List.forall_mem_cons.mpr ⟨q_41, List.forall_mem_cons.mpr ⟨q_43, List.forall_mem_cons.mpr ⟨q_45, fun _ h => absurd h List.not_mem_nil⟩⟩⟩⟩⟩
theorem i_PA : ∀ w ∈ u_ws R_PA F_PA 12, w ∈ tblG := List.forall_mem_cons.mpr ⟨q_79, List.forall_mem_cons.mpr ⟨q_81, List.forall_mem_cons.mpr ⟨q_83, List.forall_mem_cons.mpr ⟨q_85, List.forall_mem_cons.mpr ⟨q_87, List.forall_mem_cons.mpr ⟨q_89, List.forall_mem_cons.mpr ⟨q_91, List.forall_mem_cons.mpr ⟨q_93, List.forall_mem_cons.mpr ⟨q_95, List.forall_mem_cons.mpr ⟨q_97, List.forall_mem_cons.mpr ⟨q_99, List.forall_mem_cons.mpr ⟨q_101, fun _ h => absurd h List.not_mem_nil⟩⟩⟩⟩⟩⟩⟩⟩⟩⟩⟩⟩
theorem i_PR : ∀ w ∈ u_ws R_PR F_PR 13, w ∈ tblG := List.forall_mem_cons.mpr ⟨q_132, List.forall_mem_cons.mpr ⟨q_134, List.forall_mem_cons.mpr ⟨q_136, List.forall_mem_cons.mpr ⟨q_138, List.forall_mem_cons.mpr ⟨q_140, List.forall_mem_cons.mpr ⟨q_142, List.forall_mem_cons.mpr ⟨q_144, List.forall_mem_cons.mpr ⟨q_146, List.forall_mem_cons.mpr ⟨q_148, List.forall_mem_cons.mpr ⟨q_150, List.forall_mem_cons.mpr ⟨q_152, List.forall_mem_cons.mpr ⟨q_154, List.forall_mem_cons.mpr ⟨q_156, fun _ h => absurd h List.not_mem_nil⟩⟩⟩⟩⟩⟩⟩⟩⟩⟩⟩⟩⟩
theorem i_WS : ∀ w ∈ u_ws R_WS F_WS 6, w ∈ tblG := List.forall_mem_cons.mpr ⟨q_201, List.forall_mem_cons.mpr ⟨q_203, List.forall_mem_cons.mpr ⟨q_205, List.forall_mem_cons.mpr ⟨q_207, List.forall_mem_cons.mpr ⟨q_209, List.forall_mem_cons.mpr ⟨q_211, fun _ h => absurd h List.not_mem_nil⟩⟩⟩⟩⟩⟩
theorem i_RS : ∀ w ∈ u_ws R_RS F_RS 7, w ∈ tblG := List.forall_mem_cons.mpr ⟨q_235, List.forall_mem_cons.mpr ⟨q_237, List.forall_mem_cons.mpr ⟨q_239, List.forall_mem_cons.mpr ⟨q_241, List.forall_mem_cons.mpr ⟨q_243, List.forall_mem_cons.mpr ⟨q_245, List.forall_mem_cons.mpr ⟨q_247, fun _ h => absurd h List.not_mem_nil⟩⟩⟩⟩⟩⟩⟩
theorem i_RO : ∀ w ∈ u_ws R_RO F_RO 3, w ∈ tblG := List.forall_mem_cons.mpr ⟨q_183, List.forall_mem_cons.mpr ⟨q_185, List.forall_mem_cons.mpr ⟨q_187, fun _ h => absurd h List.not_mem_nil⟩⟩⟩
theorem i_MO : ∀ w ∈ u_ws R_MO F_MO 50, w ∈ tblG := List.forall_mem_cons.mpr ⟨q_682, List.forall_mem_cons.mpr ⟨q_684, List.forall_mem_cons.mpr ⟨q_686, List.forall_mem_cons.mpr ⟨q_688, List.forall_mem_cons.mpr ⟨q_690, List.forall_mem_cons.mpr ⟨q_692, List.forall_mem_cons.mpr ⟨q_694, List.forall_mem_cons.mpr ⟨q_696, List.forall_mem_cons.mpr ⟨q_698, List.forall_mem_cons.mpr ⟨q_700, List.forall_mem_cons.mpr ⟨q_702, List.forall_mem_cons.mpr ⟨q_704, List.forall_mem_cons.mpr ⟨q_706, List.forall_mem_cons.mpr ⟨q_708, List.forall_mem_cons.mpr ⟨q_710, List.forall_mem_cons.mpr ⟨q_712, List.forall_mem_cons.mpr ⟨q_714, List.forall_mem_cons.mpr ⟨q_716, List.forall_mem_cons.mpr ⟨q_718, List.forall_mem_cons.mpr ⟨q_720, List.forall_mem_cons.mpr ⟨q_722, List.forall_mem_cons.mpr ⟨q_724, List.forall_mem_cons.mpr ⟨q_726, List.forall_mem_cons.mpr ⟨q_728, List.forall_mem_cons.mpr ⟨q_730, List.forall_mem_cons.mpr ⟨q_732, List.forall_mem_cons.mpr ⟨q_734, List.forall_mem_cons.mpr ⟨q_736, List.forall_mem_cons.mpr ⟨q_738, List.forall_mem_cons.mpr ⟨q_740, List.forall_mem_cons.mpr ⟨q_742, List.forall_mem_cons.mpr ⟨q_744, List.forall_mem_cons.mpr ⟨q_746, List.forall_mem_cons.mpr ⟨q_748, List.forall_mem_cons.mpr ⟨q_750, List.forall_mem_cons.mpr ⟨q_752, List.forall_mem_cons.mpr ⟨q_754, List.forall_mem_cons.mpr ⟨q_756, List.forall_mem_cons.mpr ⟨q_758, List.forall_mem_cons.mpr ⟨q_760, List.forall_mem_cons.mpr ⟨q_762, List.forall_mem_cons.mpr ⟨q_764, List.forall_mem_cons.mpr ⟨q_766, List.forall_mem_cons.mpr ⟨q_768, List.forall_mem_cons.mpr ⟨q_770, List.forall_mem_cons.mpr ⟨q_772, List.forall_mem_cons.mpr ⟨q_774, List.forall_mem_cons.mpr ⟨q_776, List.forall_mem_cons.mpr ⟨q_778, List.forall_mem_cons.mpr ⟨q_780, fun _ h => absurd h List.not_mem_nil⟩⟩⟩⟩⟩⟩⟩⟩⟩⟩⟩⟩⟩⟩⟩⟩⟩⟩⟩⟩⟩⟩⟩⟩⟩⟩⟩⟩⟩⟩⟩⟩⟩⟩⟩⟩⟩⟩⟩⟩⟩⟩⟩⟩⟩⟩⟩⟩⟩⟩
theorem nw_20 : Cond.methodLinkNest "PromiseChains" 11 ⟨"PromiseChains$People", "<init>", "()V"⟩ "PromiseChains" ∈ nws := List.mem_of_getElem? (i := 0) rfl
theorem nw_52 : Cond.methodLinkNest "PromiseChains" 18 ⟨"PromiseChains$Pairs", "<init>", "()V"⟩ "PromiseChains" ∈ nws := List.mem_of_getElem? (i := 1) rfl
theorem nw_106 : Cond.methodLinkNest "PromiseChains" 25 ⟨"PromiseChains$Promises", "<init>", "()V"⟩ "PromiseChains" ∈ nws := List.mem_of_getElem? (i := 2) rfl
theorem nw_161 : Cond.methodLinkNest "PromiseChains" 32 ⟨"PromiseChains$WaySearch", "<init>", "()V"⟩ "PromiseChains" ∈ nws := List.mem_of_getElem? (i := 3) rfl
theorem nw_167 : Cond.methodLinkNest "PromiseChains$WaySearch" 24 ⟨"PromiseChains$Row", "<init>", "()V"⟩ "PromiseChains" ∈ nws := List.mem_of_getElem? (i := 4) rfl
theorem nw_216 : Cond.methodLinkNest "PromiseChains" 39 ⟨"PromiseChains$RingSearch", "<init>", "()V"⟩ "PromiseChains" ∈ nws := List.mem_of_getElem? (i := 5) rfl
theorem nw_221 : Cond.methodLinkNest "PromiseChains$RingSearch" 30 ⟨"PromiseChains$Row", "<init>", "()V"⟩ "PromiseChains" ∈ nws := List.mem_of_getElem? (i := 6) rfl
theorem nw_251 : Cond.methodLinkNest "PromiseChains" 46 ⟨"PromiseChains$Row", "<init>", "()V"⟩ "PromiseChains" ∈ nws := List.mem_of_getElem? (i := 7) rfl
theorem nw_303 : Cond.methodLinkNest "PromiseChains$People" 29 ⟨"PromiseChains", "isWithin", "(III)Z"⟩ "PromiseChains" ∈ nws := List.mem_of_getElem? (i := 8) rfl
theorem nw_458 : Cond.methodLinkNest "PromiseChains$Promises" 53 ⟨"PromiseChains", "isWithin", "(III)Z"⟩ "PromiseChains" ∈ nws := List.mem_of_getElem? (i := 9) rfl
theorem nw_487 : Cond.methodLinkNest "PromiseChains$Pairs" 49 ⟨"PromiseChains", "isWithin", "(III)Z"⟩ "PromiseChains" ∈ nws := List.mem_of_getElem? (i := 10) rfl
theorem nw_560 : Cond.methodLinkNest "PromiseChains$RingSearch" 72 ⟨"PromiseChains", "isWithin", "(III)Z"⟩ "PromiseChains" ∈ nws := List.mem_of_getElem? (i := 11) rfl
