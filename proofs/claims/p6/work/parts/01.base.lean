-- ===== PART A: goes FIRST, ahead of the names: the tables' words, and 'selects' of the private methods out of them =====
/-- a private method of a class that the tables say can be made, by its rows of tables_1 -/
def lw_okq (q : MethodName × Nat) : Prop := (q.1.cls ≠ "java/lang/invoke/MethodHandle" ∧ q.1.cls ≠ "java/lang/invoke/VarHandle") ∧ Cond.instantiable q.1.cls q.2 ∈ tables_1 ∧ Cond.privateMethod q.1 ∈ tables_1 ∧ Cond.instanceMethod q.1 ∈ tables_1
theorem lw_p0 : lw_okq (⟨"PromiseChains", "mayAskWay", "(III)Z"⟩, 9) := ⟨⟨by decide +kernel, by decide +kernel⟩, List.mem_of_getElem? (i := 11) (by decide +kernel), List.mem_of_getElem? (i := 382) (by decide +kernel), List.mem_of_getElem? (i := 383) (by decide +kernel)⟩
theorem lw_p1 : lw_okq (⟨"PromiseChains", "findWay", "(III)Z"⟩, 9) := ⟨⟨by decide +kernel, by decide +kernel⟩, List.mem_of_getElem? (i := 11) (by decide +kernel), List.mem_of_getElem? (i := 386) (by decide +kernel), List.mem_of_getElem? (i := 387) (by decide +kernel)⟩
theorem lw_p2 : lw_okq (⟨"PromiseChains", "lockAlong", "(II)I"⟩, 9) := ⟨⟨by decide +kernel, by decide +kernel⟩, List.mem_of_getElem? (i := 11) (by decide +kernel), List.mem_of_getElem? (i := 435) (by decide +kernel), List.mem_of_getElem? (i := 436) (by decide +kernel)⟩
theorem lw_p3 : lw_okq (⟨"PromiseChains", "findRing", "()Z"⟩, 9) := ⟨⟨by decide +kernel, by decide +kernel⟩, List.mem_of_getElem? (i := 11) (by decide +kernel), List.mem_of_getElem? (i := 534) (by decide +kernel), List.mem_of_getElem? (i := 535) (by decide +kernel)⟩
theorem lw_p4 : lw_okq (⟨"PromiseChains", "withPair", "(JI)J"⟩, 9) := ⟨⟨by decide +kernel, by decide +kernel⟩, List.mem_of_getElem? (i := 11) (by decide +kernel), List.mem_of_getElem? (i := 618) (by decide +kernel), List.mem_of_getElem? (i := 619) (by decide +kernel)⟩
theorem lw_p5 : lw_okq (⟨"PromiseChainsModel", "isPerson", "(I)Z"⟩, 50) := ⟨⟨by decide +kernel, by decide +kernel⟩, List.mem_of_getElem? (i := 627) (by decide +kernel), List.mem_of_getElem? (i := 795) (by decide +kernel), List.mem_of_getElem? (i := 796) (by decide +kernel)⟩
theorem lw_p6 : lw_okq (⟨"PromiseChainsModel", "keepState", "(I)V"⟩, 50) := ⟨⟨by decide +kernel, by decide +kernel⟩, List.mem_of_getElem? (i := 627) (by decide +kernel), List.mem_of_getElem? (i := 800) (by decide +kernel), List.mem_of_getElem? (i := 801) (by decide +kernel)⟩
theorem lw_p7 : lw_okq (⟨"PromiseChainsModel", "forget", "(I)V"⟩, 50) := ⟨⟨by decide +kernel, by decide +kernel⟩, List.mem_of_getElem? (i := 627) (by decide +kernel), List.mem_of_getElem? (i := 804) (by decide +kernel), List.mem_of_getElem? (i := 805) (by decide +kernel)⟩
theorem lw_p8 : lw_okq (⟨"PromiseChainsModel", "keepAll", "()I"⟩, 50) := ⟨⟨by decide +kernel, by decide +kernel⟩, List.mem_of_getElem? (i := 627) (by decide +kernel), List.mem_of_getElem? (i := 824) (by decide +kernel), List.mem_of_getElem? (i := 825) (by decide +kernel)⟩
theorem lw_p9 : lw_okq (⟨"PromiseChainsModel", "mayKeep", "(II)Z"⟩, 50) := ⟨⟨by decide +kernel, by decide +kernel⟩, List.mem_of_getElem? (i := 627) (by decide +kernel), List.mem_of_getElem? (i := 828) (by decide +kernel), List.mem_of_getElem? (i := 829) (by decide +kernel)⟩
theorem lw_p10 : lw_okq (⟨"PromiseChainsModel", "keep", "(II)V"⟩, 50) := ⟨⟨by decide +kernel, by decide +kernel⟩, List.mem_of_getElem? (i := 627) (by decide +kernel), List.mem_of_getElem? (i := 832) (by decide +kernel), List.mem_of_getElem? (i := 833) (by decide +kernel)⟩
theorem lw_p11 : lw_okq (⟨"PromiseChainsModel", "closings", "(Z)V"⟩, 50) := ⟨⟨by decide +kernel, by decide +kernel⟩, List.mem_of_getElem? (i := 627) (by decide +kernel), List.mem_of_getElem? (i := 836) (by decide +kernel), List.mem_of_getElem? (i := 837) (by decide +kernel)⟩
theorem lw_p12 : lw_okq (⟨"PromiseChainsModel", "isCaught", "(I)Z"⟩, 50) := ⟨⟨by decide +kernel, by decide +kernel⟩, List.mem_of_getElem? (i := 627) (by decide +kernel), List.mem_of_getElem? (i := 840) (by decide +kernel), List.mem_of_getElem? (i := 841) (by decide +kernel)⟩
theorem lw_p13 : lw_okq (⟨"PromiseChainsModel", "closeNow", "(III)V"⟩, 50) := ⟨⟨by decide +kernel, by decide +kernel⟩, List.mem_of_getElem? (i := 627) (by decide +kernel), List.mem_of_getElem? (i := 844) (by decide +kernel), List.mem_of_getElem? (i := 845) (by decide +kernel)⟩
theorem lw_p14 : lw_okq (⟨"PromiseChainsModel", "isAsked", "(III)Z"⟩, 50) := ⟨⟨by decide +kernel, by decide +kernel⟩, List.mem_of_getElem? (i := 627) (by decide +kernel), List.mem_of_getElem? (i := 852) (by decide +kernel), List.mem_of_getElem? (i := 853) (by decide +kernel)⟩
theorem lw_p15 : lw_okq (⟨"PromiseChainsModel", "findWay", "(III)I"⟩, 50) := ⟨⟨by decide +kernel, by decide +kernel⟩, List.mem_of_getElem? (i := 627) (by decide +kernel), List.mem_of_getElem? (i := 856) (by decide +kernel), List.mem_of_getElem? (i := 857) (by decide +kernel)⟩
def lw_privs_1 : List (MethodName × Nat) := [(⟨"PromiseChains", "mayAskWay", "(III)Z"⟩, 9), (⟨"PromiseChains", "findWay", "(III)Z"⟩, 9), (⟨"PromiseChains", "lockAlong", "(II)I"⟩, 9), (⟨"PromiseChains", "findRing", "()Z"⟩, 9), (⟨"PromiseChains", "withPair", "(JI)J"⟩, 9), (⟨"PromiseChainsModel", "isPerson", "(I)Z"⟩, 50), (⟨"PromiseChainsModel", "keepState", "(I)V"⟩, 50), (⟨"PromiseChainsModel", "forget", "(I)V"⟩, 50), (⟨"PromiseChainsModel", "keepAll", "()I"⟩, 50), (⟨"PromiseChainsModel", "mayKeep", "(II)Z"⟩, 50), (⟨"PromiseChainsModel", "keep", "(II)V"⟩, 50), (⟨"PromiseChainsModel", "closings", "(Z)V"⟩, 50), (⟨"PromiseChainsModel", "isCaught", "(I)Z"⟩, 50), (⟨"PromiseChainsModel", "closeNow", "(III)V"⟩, 50), (⟨"PromiseChainsModel", "isAsked", "(III)Z"⟩, 50), (⟨"PromiseChainsModel", "findWay", "(III)I"⟩, 50)]
theorem lw_r1 : ∀ q ∈ lw_privs_1, lw_okq q := List.forall_mem_cons.mpr ⟨lw_p0, List.forall_mem_cons.mpr ⟨lw_p1, List.forall_mem_cons.mpr ⟨lw_p2, List.forall_mem_cons.mpr ⟨lw_p3, List.forall_mem_cons.mpr ⟨lw_p4, List.forall_mem_cons.mpr ⟨lw_p5, List.forall_mem_cons.mpr ⟨lw_p6, List.forall_mem_cons.mpr ⟨lw_p7, List.forall_mem_cons.mpr ⟨lw_p8, List.forall_mem_cons.mpr ⟨lw_p9, List.forall_mem_cons.mpr ⟨lw_p10, List.forall_mem_cons.mpr ⟨lw_p11, List.forall_mem_cons.mpr ⟨lw_p12, List.forall_mem_cons.mpr ⟨lw_p13, List.forall_mem_cons.mpr ⟨lw_p14, List.forall_mem_cons.mpr ⟨lw_p15, fun _ h => absurd h List.not_mem_nil⟩⟩⟩⟩⟩⟩⟩⟩⟩⟩⟩⟩⟩⟩⟩⟩
theorem lw_p16 : lw_okq (⟨"PromiseChainsModel", "carried", "(II)I"⟩, 50) := ⟨⟨by decide +kernel, by decide +kernel⟩, List.mem_of_getElem? (i := 627) (by decide +kernel), List.mem_of_getElem? (i := 860) (by decide +kernel), List.mem_of_getElem? (i := 861) (by decide +kernel)⟩
theorem lw_p17 : lw_okq (⟨"PromiseChainsModel", "takeWay", "()V"⟩, 50) := ⟨⟨by decide +kernel, by decide +kernel⟩, List.mem_of_getElem? (i := 627) (by decide +kernel), List.mem_of_getElem? (i := 864) (by decide +kernel), List.mem_of_getElem? (i := 865) (by decide +kernel)⟩
theorem lw_p18 : lw_okq (⟨"PromiseChainsModel", "isOpen", "(I)Z"⟩, 50) := ⟨⟨by decide +kernel, by decide +kernel⟩, List.mem_of_getElem? (i := 627) (by decide +kernel), List.mem_of_getElem? (i := 880) (by decide +kernel), List.mem_of_getElem? (i := 881) (by decide +kernel)⟩
theorem lw_p19 : lw_okq (⟨"PromiseChainsModel", "isPair", "(I)Z"⟩, 50) := ⟨⟨by decide +kernel, by decide +kernel⟩, List.mem_of_getElem? (i := 627) (by decide +kernel), List.mem_of_getElem? (i := 896) (by decide +kernel), List.mem_of_getElem? (i := 897) (by decide +kernel)⟩
theorem lw_p20 : lw_okq (⟨"PromiseChainsModel", "hasLocks", "(I)Z"⟩, 50) := ⟨⟨by decide +kernel, by decide +kernel⟩, List.mem_of_getElem? (i := 627) (by decide +kernel), List.mem_of_getElem? (i := 900) (by decide +kernel), List.mem_of_getElem? (i := 901) (by decide +kernel)⟩
theorem lw_p21 : lw_okq (⟨"PromiseChainsModel", "wealthOf", "(I)I"⟩, 50) := ⟨⟨by decide +kernel, by decide +kernel⟩, List.mem_of_getElem? (i := 627) (by decide +kernel), List.mem_of_getElem? (i := 924) (by decide +kernel), List.mem_of_getElem? (i := 925) (by decide +kernel)⟩
theorem lw_p22 : lw_okq (⟨"PromiseChainsModel", "findRing", "()V"⟩, 50) := ⟨⟨by decide +kernel, by decide +kernel⟩, List.mem_of_getElem? (i := 627) (by decide +kernel), List.mem_of_getElem? (i := 939) (by decide +kernel), List.mem_of_getElem? (i := 940) (by decide +kernel)⟩
theorem lw_p23 : lw_okq (⟨"PromiseChainsModel", "goRound", "(II)V"⟩, 50) := ⟨⟨by decide +kernel, by decide +kernel⟩, List.mem_of_getElem? (i := 627) (by decide +kernel), List.mem_of_getElem? (i := 943) (by decide +kernel), List.mem_of_getElem? (i := 944) (by decide +kernel)⟩
theorem lw_p24 : lw_okq (⟨"PromiseChainsModel", "isFree", "(I)Z"⟩, 50) := ⟨⟨by decide +kernel, by decide +kernel⟩, List.mem_of_getElem? (i := 627) (by decide +kernel), List.mem_of_getElem? (i := 947) (by decide +kernel), List.mem_of_getElem? (i := 948) (by decide +kernel)⟩
theorem lw_p25 : lw_okq (⟨"PromiseChainsModel", "tryAll", "(I)V"⟩, 50) := ⟨⟨by decide +kernel, by decide +kernel⟩, List.mem_of_getElem? (i := 627) (by decide +kernel), List.mem_of_getElem? (i := 951) (by decide +kernel), List.mem_of_getElem? (i := 952) (by decide +kernel)⟩
theorem lw_p26 : lw_okq (⟨"PromiseChainsModel", "tryRing", "(III)V"⟩, 50) := ⟨⟨by decide +kernel, by decide +kernel⟩, List.mem_of_getElem? (i := 627) (by decide +kernel), List.mem_of_getElem? (i := 956) (by decide +kernel), List.mem_of_getElem? (i := 957) (by decide +kernel)⟩
theorem lw_p27 : lw_okq (⟨"PromiseChainsModel", "isBetter", "(III)Z"⟩, 50) := ⟨⟨by decide +kernel, by decide +kernel⟩, List.mem_of_getElem? (i := 627) (by decide +kernel), List.mem_of_getElem? (i := 960) (by decide +kernel), List.mem_of_getElem? (i := 961) (by decide +kernel)⟩
def lw_privs_2 : List (MethodName × Nat) := [(⟨"PromiseChainsModel", "carried", "(II)I"⟩, 50), (⟨"PromiseChainsModel", "takeWay", "()V"⟩, 50), (⟨"PromiseChainsModel", "isOpen", "(I)Z"⟩, 50), (⟨"PromiseChainsModel", "isPair", "(I)Z"⟩, 50), (⟨"PromiseChainsModel", "hasLocks", "(I)Z"⟩, 50), (⟨"PromiseChainsModel", "wealthOf", "(I)I"⟩, 50), (⟨"PromiseChainsModel", "findRing", "()V"⟩, 50), (⟨"PromiseChainsModel", "goRound", "(II)V"⟩, 50), (⟨"PromiseChainsModel", "isFree", "(I)Z"⟩, 50), (⟨"PromiseChainsModel", "tryAll", "(I)V"⟩, 50), (⟨"PromiseChainsModel", "tryRing", "(III)V"⟩, 50), (⟨"PromiseChainsModel", "isBetter", "(III)Z"⟩, 50)]
theorem lw_r2 : ∀ q ∈ lw_privs_2, lw_okq q := List.forall_mem_cons.mpr ⟨lw_p16, List.forall_mem_cons.mpr ⟨lw_p17, List.forall_mem_cons.mpr ⟨lw_p18, List.forall_mem_cons.mpr ⟨lw_p19, List.forall_mem_cons.mpr ⟨lw_p20, List.forall_mem_cons.mpr ⟨lw_p21, List.forall_mem_cons.mpr ⟨lw_p22, List.forall_mem_cons.mpr ⟨lw_p23, List.forall_mem_cons.mpr ⟨lw_p24, List.forall_mem_cons.mpr ⟨lw_p25, List.forall_mem_cons.mpr ⟨lw_p26, List.forall_mem_cons.mpr ⟨lw_p27, fun _ h => absurd h List.not_mem_nil⟩⟩⟩⟩⟩⟩⟩⟩⟩⟩⟩⟩
def lw_privs : List (MethodName × Nat) := lw_privs_1 ++ (lw_privs_2)
def lw_tbl : List Cond := k2_sels lw_privs ++ tables_1
theorem lw_privs_ok : ∀ q ∈ lw_privs, lw_okq q := by
  show ∀ q ∈ lw_privs_1 ++ (lw_privs_2), lw_okq q
  exact List.forall_mem_append.mpr ⟨lw_r1, lw_r2⟩

-- the good words, the nest words
def tblG : List Cond := lw_tbl.filter goodWord
theorem mG {w : Cond} (h : w ∈ lw_tbl) (hg : goodWord w = true) : w ∈ tblG := List.mem_filter.mpr ⟨h, hg⟩
theorem mT {w : Cond} (h : w ∈ tables_1) : w ∈ lw_tbl := List.mem_append_right _ h
theorem mP {w : Cond} (h : w ∈ k2_sels lw_privs) : w ∈ lw_tbl := List.mem_append_left _ h
theorem m1 {w : Cond} (h : w ∈ tables_1_1) : w ∈ lw_tbl := mT (List.mem_append_left _ h)
theorem m2 {w : Cond} (h : w ∈ tables_1_2) : w ∈ lw_tbl := mT (List.mem_append_right _ (List.mem_append_left _ h))
theorem m3 {w : Cond} (h : w ∈ tables_1_3) : w ∈ lw_tbl := mT (List.mem_append_right _ (List.mem_append_right _ (List.mem_append_left _ h)))
theorem m4 {w : Cond} (h : w ∈ tables_1_4) : w ∈ lw_tbl := mT (List.mem_append_right _ (List.mem_append_right _ (List.mem_append_right _ (List.mem_append_left _ h))))
theorem m5 {w : Cond} (h : w ∈ tables_1_5) : w ∈ lw_tbl := mT (List.mem_append_right _ (List.mem_append_right _ (List.mem_append_right _ (List.mem_append_right _ h))))
theorem goodG {c : Cond} (hc : c ∈ tblG) : GoodIn tblG (c :: tblG) := by
  intro w hw
  rcases List.mem_cons.mp hw with rfl | hw
  · exact ⟨hc, good_of_word (List.mem_filter.mp hc).2⟩
  · exact ⟨hw, good_of_word (List.mem_filter.mp hw).2⟩
/-- a method's words: its code, and all good words of the tables -/
abbrev mw (y : MethodName) (b : ByteArray) (n : Nat) (r : Option FieldType) : List Cond := .code y b n r :: tblG
section CALLS
variable {R : Room} {s : State} {args : Array Value} {own C : String} {index : Nat} {y : MethodName} {bytes : ByteArray} {maxL mc ms : Nat} {ret : Option FieldType} {rm : Room}
theorem my_cwV (n : Nat) (ht : ∀ w ∈ tblG, w.before args s = true) (hc : Cond.code y bytes maxL ret ∈ tblG) (h1 : Cond.methodLink own index y ∈ tblG) (h2 : Cond.instanceMethod y ∈ tblG) (h3 : Cond.selects C y y ∈ tblG) (h4 : Cond.initialized C ∈ tblG) (hrc : rm.cells = mc) (hrs : rm.slots = ms)
    (hd : y.cls = C ∧ y.cls ≠ "java/lang/invoke/MethodHandle" ∧ y.cls ≠ "java/lang/invoke/VarHandle" ∧ (parseMethodDescriptor y.desc).map (fun d => d.parameters.length) = some n) (hR : rm.frames + 1 ≤ R.frames ∧ 8 + (maxL + 11) + rm.locals ≤ R.locals) :
    CallW R s args own C index y bytes maxL ret (mw y bytes maxL ret) rm mc ms n := by
  refine cwV n ht ?_ rfl hrc hrs hd hR
  intro w hw
  have hg : ∀ c : Cond, c ∈ tblG → c ∈ tblG ∧ ((c.onTables && c.keeps) = true ∨ ∃ ty, c = .arrayClass ty) := fun c h => ⟨h, good_of_word (List.mem_filter.mp h).2⟩
  unfold wsV at hw
  rcases List.mem_append.mp hw with hw | hw
  · rcases List.mem_cons.mp hw with rfl | hw
    · exact hg _ h1
    rcases List.mem_cons.mp hw with rfl | hw
    · exact hg _ h2
    rcases List.mem_cons.mp hw with rfl | hw
    · exact hg _ h3
    rcases List.mem_cons.mp hw with rfl | hw
    · exact hg _ h4
    · cases hw
  · exact goodG hc w hw
theorem my_cwS (n : Nat) (ht : ∀ w ∈ tblG, w.before args s = true) (hc : Cond.code y bytes maxL ret ∈ tblG) (h1 : Cond.methodLink own index y ∈ tblG) (h2 : Cond.static y ∈ tblG) (h4 : Cond.initialized y.cls ∈ tblG) (hrc : rm.cells = mc) (hrs : rm.slots = ms)
    (hd : y.cls ≠ "java/lang/invoke/MethodHandle" ∧ y.cls ≠ "java/lang/invoke/VarHandle" ∧ (parseMethodDescriptor y.desc).map (fun d => d.parameters.length) = some n) (hR : rm.frames + 1 ≤ R.frames ∧ 8 + (maxL + 11) + rm.locals ≤ R.locals) :
    CallB R s args own index y bytes maxL ret (mw y bytes maxL ret) rm mc ms n ∧ (Cond.static y).before args s = true :=
  ⟨callB_of n ht (goodG hc) rfl hrc hrs (ht _ h4) (ht _ h1) hd hR, ht _ h2⟩
theorem my_cwI (n : Nat) (ht : ∀ w ∈ tblG, w.before args s = true) (hc : Cond.code y bytes maxL none ∈ tblG) (h1 : Cond.methodLink own index y ∈ tblG) (h2 : Cond.instanceMethod y ∈ tblG) (h4 : Cond.initialized y.cls ∈ tblG) (hrc : rm.cells = mc) (hrs : rm.slots = ms) (hy1 : y.name = "<init>")
    (hd : y.cls ≠ "java/lang/invoke/MethodHandle" ∧ y.cls ≠ "java/lang/invoke/VarHandle" ∧ (parseMethodDescriptor y.desc).map (fun d => d.parameters.length) = some n) (hR : rm.frames + 1 ≤ R.frames ∧ 8 + (maxL + 11) + rm.locals ≤ R.locals) :
    CallB R s args own index y bytes maxL none (mw y bytes maxL none) rm mc ms n ∧ y.name = "<init>" ∧ (Cond.instanceMethod y).before args s = true :=
  cwI n ht (goodG hc) rfl hrc hrs (ht _ h4) (ht _ h1) (ht _ h2) hy1 hd hR
theorem my_cwN {host : String} (n : Nat) (ht : ∀ w ∈ tblG, w.before args s = true) (hc : Cond.code y bytes maxL ret ∈ tblG) (hl : va_Nw (.methodLinkNest own index y host) s) (h4 : Cond.initialized y.cls ∈ tblG) (hrc : rm.cells = mc) (hrs : rm.slots = ms)
    (hd : y.cls ≠ "java/lang/invoke/MethodHandle" ∧ y.cls ≠ "java/lang/invoke/VarHandle" ∧ (parseMethodDescriptor y.desc).map (fun d => d.parameters.length) = some n) (hR : rm.frames + 1 ≤ R.frames ∧ 8 + (maxL + 11) + rm.locals ≤ R.locals) :
    va_CN R s args own index y host bytes maxL ret (mw y bytes maxL ret) rm mc ms n :=
  va_cnB n ht (goodG hc) rfl hrc hrs hl (ht _ h4) hd hR
end CALLS

def nws : List Cond := [.methodLinkNest "PromiseChains" 11 ⟨"PromiseChains$People", "<init>", "()V"⟩ "PromiseChains", .methodLinkNest "PromiseChains" 18 ⟨"PromiseChains$Pairs", "<init>", "()V"⟩ "PromiseChains", .methodLinkNest "PromiseChains" 25 ⟨"PromiseChains$Promises", "<init>", "()V"⟩ "PromiseChains", .methodLinkNest "PromiseChains" 32 ⟨"PromiseChains$WaySearch", "<init>", "()V"⟩ "PromiseChains", .methodLinkNest "PromiseChains$WaySearch" 24 ⟨"PromiseChains$Row", "<init>", "()V"⟩ "PromiseChains", .methodLinkNest "PromiseChains" 39 ⟨"PromiseChains$RingSearch", "<init>", "()V"⟩ "PromiseChains", .methodLinkNest "PromiseChains$RingSearch" 30 ⟨"PromiseChains$Row", "<init>", "()V"⟩ "PromiseChains", .methodLinkNest "PromiseChains" 46 ⟨"PromiseChains$Row", "<init>", "()V"⟩ "PromiseChains", .methodLinkNest "PromiseChains$People" 29 ⟨"PromiseChains", "isWithin", "(III)Z"⟩ "PromiseChains", .methodLinkNest "PromiseChains$Promises" 53 ⟨"PromiseChains", "isWithin", "(III)Z"⟩ "PromiseChains", .methodLinkNest "PromiseChains$Pairs" 49 ⟨"PromiseChains", "isWithin", "(III)Z"⟩ "PromiseChains", .methodLinkNest "PromiseChains$RingSearch" 72 ⟨"PromiseChains", "isWithin", "(III)Z"⟩ "PromiseChains"]
def NWs (U : State) : Prop := ∀ w ∈ nws, va_Nw w U
theorem NWs.warm {s U : State} (h : NWs s) (hW : s.WarmedH U.vm) : NWs U := by
  intro w hw
  have h1 := h w hw
  unfold nws at hw
  simp only [List.mem_cons, List.not_mem_nil, or_false] at hw
  rcases hw with rfl | rfl | rfl | rfl | rfl | rfl | rfl | rfl | rfl | rfl | rfl | rfl <;> exact va_Nw.warmM hW h1
theorem NWs.same {u U : State} (h : NWs u) (e : u.vm = U.vm) : NWs U := by
  intro w hw
  have h1 := h w hw
  unfold nws at hw
  simp only [List.mem_cons, List.not_mem_nil, or_false] at hw
  rcases hw with rfl | rfl | rfl | rfl | rfl | rfl | rfl | rfl | rfl | rfl | rfl | rfl <;> exact va_Nw.same rfl e h1

abbrev R_PC : String := "PromiseChains"
def F_PC : u_T := fun k => match k with
  | 0 => ("PromiseChains", "folk", "LPromiseChains$People;", true)
  | 1 => ("PromiseChains", "pairs", "LPromiseChains$Pairs;", true)
  | 2 => ("PromiseChains", "promises", "LPromiseChains$Promises;", true)
  | 3 => ("PromiseChains", "ways", "LPromiseChains$WaySearch;", true)
  | 4 => ("PromiseChains", "rings", "LPromiseChains$RingSearch;", true)
  | 5 => ("PromiseChains", "latestWay", "LPromiseChains$Row;", true)
  | 6 => ("PromiseChains", "time", "I", false)
  | 7 => ("PromiseChains", "gap", "I", false)
  | _ => ("PromiseChains", "look", "I", false)
def t_PC : Nat → FieldType := fun k => match k with
  | 0 => .object "PromiseChains$People"
  | 1 => .object "PromiseChains$Pairs"
  | 2 => .object "PromiseChains$Promises"
  | 3 => .object "PromiseChains$WaySearch"
  | 4 => .object "PromiseChains$RingSearch"
  | 5 => .object "PromiseChains$Row"
  | 6 => .int
  | 7 => .int
  | _ => .int
theorem n_PC : ∀ a, a < 9 → ∀ b, b < 9 → a ≠ b → (F_PC a).2.1 ≠ (F_PC b).2.1 := by decide +kernel
theorem t_PC_ok : ∀ k, k < 9 → parseFieldDescriptor (F_PC k).2.2.1 = some (t_PC k) := by decide +kernel
abbrev R_PE : String := "PromiseChains$People"
def F_PE : u_T := fun k => match k with
  | 0 => ("PromiseChains$People", "size", "I", false)
  | 1 => ("PromiseChains$People", "cash", "[I", true)
  | 2 => ("PromiseChains$People", "base", "[I", true)
  | 3 => ("PromiseChains$People", "rate", "[I", true)
  | _ => ("PromiseChains$People", "isAway", "[Z", true)
def t_PE : Nat → FieldType := fun k => match k with
  | 0 => .int
  | 1 => .array .int
  | 2 => .array .int
  | 3 => .array .int
  | _ => .array .boolean
theorem n_PE : ∀ a, a < 5 → ∀ b, b < 5 → a ≠ b → (F_PE a).2.1 ≠ (F_PE b).2.1 := by decide +kernel
theorem t_PE_ok : ∀ k, k < 5 → parseFieldDescriptor (F_PE k).2.2.1 = some (t_PE k) := by decide +kernel
abbrev R_PA : String := "PromiseChains$Pairs"
def F_PA : u_T := fun k => match k with
  | 0 => ("PromiseChains$Pairs", "size", "I", false)
  | 1 => ("PromiseChains$Pairs", "person", "[I", true)
  | 2 => ("PromiseChains$Pairs", "side", "[I", true)
  | 3 => ("PromiseChains$Pairs", "locked", "[I", true)
  | 4 => ("PromiseChains$Pairs", "stateSide", "[I", true)
  | 5 => ("PromiseChains$Pairs", "states", "[I", true)
  | 6 => ("PromiseChains$Pairs", "phase", "[I", true)
  | 7 => ("PromiseChains$Pairs", "end", "[I", true)
  | 8 => ("PromiseChains$Pairs", "closer", "[I", true)
  | 9 => ("PromiseChains$Pairs", "closedBy", "[I", true)
  | 10 => ("PromiseChains$Pairs", "least", "[I", true)
  | _ => ("PromiseChains$Pairs", "greatest", "[I", true)
def t_PA : Nat → FieldType := fun k => match k with
  | 0 => .int
  | 1 => .array .int
  | 2 => .array .int
  | 3 => .array .int
  | 4 => .array .int
  | 5 => .array .int
  | 6 => .array .int
  | 7 => .array .int
  | 8 => .array .int
  | 9 => .array .int
  | 10 => .array .int
  | _ => .array .int
theorem n_PA : ∀ a, a < 12 → ∀ b, b < 12 → a ≠ b → (F_PA a).2.1 ≠ (F_PA b).2.1 := by decide +kernel
theorem t_PA_ok : ∀ k, k < 12 → parseFieldDescriptor (F_PA k).2.2.1 = some (t_PA k) := by decide +kernel
abbrev R_PR : String := "PromiseChains$Promises"
def F_PR : u_T := fun k => match k with
  | 0 => ("PromiseChains$Promises", "size", "I", false)
  | 1 => ("PromiseChains$Promises", "heldInAll", "I", false)
  | 2 => ("PromiseChains$Promises", "payer", "[I", true)
  | 3 => ("PromiseChains$Promises", "paid", "[I", true)
  | 4 => ("PromiseChains$Promises", "hops", "[I", true)
  | 5 => ("PromiseChains$Promises", "held", "[I", true)
  | 6 => ("PromiseChains$Promises", "kept", "[I", true)
  | 7 => ("PromiseChains$Promises", "isTold", "[Z", true)
  | 8 => ("PromiseChains$Promises", "lockPair", "[I", true)
  | 9 => ("PromiseChains$Promises", "lockFrom", "[I", true)
  | 10 => ("PromiseChains$Promises", "lockSum", "[I", true)
  | 11 => ("PromiseChains$Promises", "lockClock", "[I", true)
  | _ => ("PromiseChains$Promises", "lockPhase", "[I", true)
def t_PR : Nat → FieldType := fun k => match k with
  | 0 => .int
  | 1 => .int
  | 2 => .array .int
  | 3 => .array .int
  | 4 => .array .int
  | 5 => .array .int
  | 6 => .array .int
  | 7 => .array .boolean
  | 8 => .array .int
  | 9 => .array .int
  | 10 => .array .int
  | 11 => .array .int
  | _ => .array .int
theorem n_PR : ∀ a, a < 13 → ∀ b, b < 13 → a ≠ b → (F_PR a).2.1 ≠ (F_PR b).2.1 := by decide +kernel
theorem t_PR_ok : ∀ k, k < 13 → parseFieldDescriptor (F_PR k).2.2.1 = some (t_PR k) := by decide +kernel
abbrev R_WS : String := "PromiseChains$WaySearch"
def F_WS : u_T := fun k => match k with
  | 0 => ("PromiseChains$WaySearch", "start", "I", false)
  | 1 => ("PromiseChains$WaySearch", "bestCarries", "I", false)
  | 2 => ("PromiseChains$WaySearch", "isMet", "[Z", true)
  | 3 => ("PromiseChains$WaySearch", "back", "LPromiseChains$Row;", true)
  | 4 => ("PromiseChains$WaySearch", "turned", "LPromiseChains$Row;", true)
  | _ => ("PromiseChains$WaySearch", "best", "LPromiseChains$Row;", true)
def t_WS : Nat → FieldType := fun k => match k with
  | 0 => .int
  | 1 => .int
  | 2 => .array .boolean
  | 3 => .object "PromiseChains$Row"
  | 4 => .object "PromiseChains$Row"
  | _ => .object "PromiseChains$Row"
theorem n_WS : ∀ a, a < 6 → ∀ b, b < 6 → a ≠ b → (F_WS a).2.1 ≠ (F_WS b).2.1 := by decide +kernel
theorem t_WS_ok : ∀ k, k < 6 → parseFieldDescriptor (F_WS k).2.2.1 = some (t_WS k) := by decide +kernel
abbrev R_RS : String := "PromiseChains$RingSearch"
def F_RS : u_T := fun k => match k with
  | 0 => ("PromiseChains$RingSearch", "home", "I", false)
  | 1 => ("PromiseChains$RingSearch", "offBefore", "I", false)
  | 2 => ("PromiseChains$RingSearch", "bestOff", "I", false)
  | 3 => ("PromiseChains$RingSearch", "bestM", "I", false)
  | 4 => ("PromiseChains$RingSearch", "isMet", "[Z", true)
  | 5 => ("PromiseChains$RingSearch", "now", "LPromiseChains$Row;", true)
  | _ => ("PromiseChains$RingSearch", "best", "LPromiseChains$Row;", true)
def t_RS : Nat → FieldType := fun k => match k with
  | 0 => .int
  | 1 => .int
  | 2 => .int
  | 3 => .int
  | 4 => .array .boolean
  | 5 => .object "PromiseChains$Row"
  | _ => .object "PromiseChains$Row"
theorem n_RS : ∀ a, a < 7 → ∀ b, b < 7 → a ≠ b → (F_RS a).2.1 ≠ (F_RS b).2.1 := by decide +kernel
theorem t_RS_ok : ∀ k, k < 7 → parseFieldDescriptor (F_RS k).2.2.1 = some (t_RS k) := by decide +kernel
abbrev R_RO : String := "PromiseChains$Row"
def F_RO : u_T := fun k => match k with
  | 0 => ("PromiseChains$Row", "length", "I", false)
  | 1 => ("PromiseChains$Row", "pair", "[I", true)
  | _ => ("PromiseChains$Row", "from", "[I", true)
def t_RO : Nat → FieldType := fun k => match k with
  | 0 => .int
  | 1 => .array .int
  | _ => .array .int
theorem n_RO : ∀ a, a < 3 → ∀ b, b < 3 → a ≠ b → (F_RO a).2.1 ≠ (F_RO b).2.1 := by decide +kernel
theorem t_RO_ok : ∀ k, k < 3 → parseFieldDescriptor (F_RO k).2.2.1 = some (t_RO k) := by decide +kernel
abbrev R_MO : String := "PromiseChainsModel"
def F_MO : u_T := fun k => match k with
  | 0 => ("PromiseChainsModel", "n", "I", false)
  | 1 => ("PromiseChainsModel", "time", "I", false)
  | 2 => ("PromiseChainsModel", "gap", "I", false)
  | 3 => ("PromiseChainsModel", "look", "I", false)
  | 4 => ("PromiseChainsModel", "away", "[Z", true)
  | 5 => ("PromiseChainsModel", "cash", "[I", true)
  | 6 => ("PromiseChainsModel", "base", "[I", true)
  | 7 => ("PromiseChainsModel", "rate", "[I", true)
  | 8 => ("PromiseChainsModel", "pairs", "I", false)
  | 9 => ("PromiseChainsModel", "ends", "[I", true)
  | 10 => ("PromiseChainsModel", "sides", "[I", true)
  | 11 => ("PromiseChainsModel", "locked", "[I", true)
  | 12 => ("PromiseChainsModel", "status", "[I", true)
  | 13 => ("PromiseChainsModel", "endTime", "[I", true)
  | 14 => ("PromiseChainsModel", "closer", "[I", true)
  | 15 => ("PromiseChainsModel", "closeState", "[I", true)
  | 16 => ("PromiseChainsModel", "states", "[I", true)
  | 17 => ("PromiseChainsModel", "stateMany", "[I", true)
  | 18 => ("PromiseChainsModel", "low", "[I", true)
  | 19 => ("PromiseChainsModel", "high", "[I", true)
  | 20 => ("PromiseChainsModel", "promises", "I", false)
  | 21 => ("PromiseChainsModel", "gets", "[I", true)
  | 22 => ("PromiseChainsModel", "payer", "[I", true)
  | 23 => ("PromiseChainsModel", "lockMany", "[I", true)
  | 24 => ("PromiseChainsModel", "keptMany", "[I", true)
  | 25 => ("PromiseChainsModel", "brokenMany", "[I", true)
  | 26 => ("PromiseChainsModel", "told", "[Z", true)
  | 27 => ("PromiseChainsModel", "knows", "[I", true)
  | 28 => ("PromiseChainsModel", "lockPair", "[I", true)
  | 29 => ("PromiseChainsModel", "lockSide", "[I", true)
  | 30 => ("PromiseChainsModel", "lockSum", "[I", true)
  | 31 => ("PromiseChainsModel", "lockClock", "[I", true)
  | 32 => ("PromiseChainsModel", "isLock", "[Z", true)
  | 33 => ("PromiseChainsModel", "hasWay", "Z", false)
  | 34 => ("PromiseChainsModel", "wayMany", "I", false)
  | 35 => ("PromiseChainsModel", "way", "[I", true)
  | 36 => ("PromiseChainsModel", "waySide", "[I", true)
  | 37 => ("PromiseChainsModel", "step", "[I", true)
  | 38 => ("PromiseChainsModel", "stepSide", "[I", true)
  | 39 => ("PromiseChainsModel", "tried", "[I", true)
  | 40 => ("PromiseChainsModel", "carries", "[I", true)
  | 41 => ("PromiseChainsModel", "bestWay", "[I", true)
  | 42 => ("PromiseChainsModel", "bestSide", "[I", true)
  | 43 => ("PromiseChainsModel", "bestCarries", "[I", true)
  | 44 => ("PromiseChainsModel", "bestMany", "I", false)
  | 45 => ("PromiseChainsModel", "ringPair", "[I", true)
  | 46 => ("PromiseChainsModel", "ringSide", "[I", true)
  | 47 => ("PromiseChainsModel", "ringMany", "I", false)
  | 48 => ("PromiseChainsModel", "ringOff", "I", false)
  | _ => ("PromiseChainsModel", "ringSum", "I", false)
def t_MO : Nat → FieldType := fun k => match k with
  | 0 => .int
  | 1 => .int
  | 2 => .int
  | 3 => .int
  | 4 => .array .boolean
  | 5 => .array .int
  | 6 => .array .int
  | 7 => .array .int
  | 8 => .int
  | 9 => .array .int
  | 10 => .array .int
  | 11 => .array .int
  | 12 => .array .int
  | 13 => .array .int
  | 14 => .array .int
  | 15 => .array .int
  | 16 => .array .int
  | 17 => .array .int
  | 18 => .array .int
  | 19 => .array .int
  | 20 => .int
  | 21 => .array .int
  | 22 => .array .int
  | 23 => .array .int
  | 24 => .array .int
  | 25 => .array .int
  | 26 => .array .boolean
  | 27 => .array .int
  | 28 => .array .int
  | 29 => .array .int
  | 30 => .array .int
  | 31 => .array .int
  | 32 => .array .boolean
  | 33 => .boolean
  | 34 => .int
  | 35 => .array .int
  | 36 => .array .int
  | 37 => .array .int
  | 38 => .array .int
  | 39 => .array .int
  | 40 => .array .int
  | 41 => .array .int
  | 42 => .array .int
  | 43 => .array .int
  | 44 => .int
  | 45 => .array .int
  | 46 => .array .int
  | 47 => .int
  | 48 => .int
  | _ => .int
theorem n_MO : ∀ a, a < 50 → ∀ b, b < 50 → a ≠ b → (F_MO a).2.1 ≠ (F_MO b).2.1 := by decide +kernel
theorem t_MO_ok : ∀ k, k < 50 → parseFieldDescriptor (F_MO k).2.2.1 = some (t_MO k) := by decide +kernel
abbrev vwCl : List vw_C := [(R_PC, F_PC, 9), (R_PE, F_PE, 5), (R_PA, F_PA, 12), (R_PR, F_PR, 13), (R_WS, F_WS, 6), (R_RS, F_RS, 7), (R_RO, F_RO, 3), (R_MO, F_MO, 50)]
abbrev tys2 (cI cZ : ClassId) : List (ClassId × FieldType) := [(cI, .int), (cZ, .boolean)]
/-- a method's start: the heap, the world, the classes, the nest words -/
def PB (D : va_G) (cI cZ : ClassId) (sz : Nat) (ws : va_W) (U : State) : Prop := U.heap.size = sz ∧ va_P D vwCl ws U.heap ∧ va_K D vwCl (tys2 cI cZ) U ∧ va_D (fun _ => True) ws ∧ NWs U
theorem PB_blind {D : va_G} {cI cZ : ClassId} {sz : Nat} {ws : va_W} {av : List Value} : FrameBlind (va_Pc av (PB D cI cZ sz ws)) := by
  intro a U g mk q
  obtain ⟨q0, q1, qP, qK, qD, qN⟩ := q
  exact ⟨q0, q1, qP, va_K.moved (u := U) (U := U.calling g mk a) (Vm.Alike.refl U.vm) qK, qD, qN.same rfl⟩
theorem PB_at {D : va_G} {cI cZ : ClassId} {ws : va_W} {av : List Value} {s : State} {H : Heap} {A : Nat → Prop} (hP : va_P D vwCl ws H) (hD : va_D A ws) (hK : va_K D vwCl (tys2 cI cZ) s) (hN : NWs s) : ∀ U : State, U.heap = H → s.WarmedH U.vm → va_Pc av (PB D cI cZ H.size ws) av.toArray U := fun U hU hW => ⟨rfl, by rw [hU], by rw [hU]; exact hP, va_K.moved hW.alike hK, hD.weaken (fun _ _ _ _ => trivial), hN.warm hW⟩
theorem my_preV {D : va_G} {cI cZ : ClassId} {ws : va_W} {s : State} {H : Heap} {A : Nat → Prop} (hP : va_P D vwCl ws H) (hD : va_D A ws) (hK : va_K D vwCl (tys2 cI cZ) s) (hN : NWs s) (ci q0 : Nat) {q : vw_C} {b : Nat} {fs : List Value} {As : List Value} (hc : vwCl[ci]? = some q) (he : ws[q0]? = some (b, .inr (ci, fs))) : PreV s H q.1 b (va_Pc (.ref b :: As) (PB D cI cZ H.size ws)) As :=
  ⟨PB_blind, va_recv hK hP hc he, PB_at hP hD hK hN⟩
theorem my_preS {D : va_G} {cI cZ : ClassId} {ws : va_W} {s : State} {H : Heap} {A : Nat → Prop} (hP : va_P D vwCl ws H) (hD : va_D A ws) (hK : va_K D vwCl (tys2 cI cZ) s) (hN : NWs s) {As : List Value} : PreS s H (va_Pc As (PB D cI cZ H.size ws)) As :=
  ⟨PB_blind, PB_at hP hD hK hN⟩
/-- behind a method that writes: the new world -/
def BB (D : va_G) (A : Nat → Prop) (ws : va_W) (t : State) : Prop := va_P D vwCl ws t.heap ∧ va_D A ws
section ROWS
variable {p : Program} {l : Launch} {e : Env} {R : Room} {s : State} {m : MethodId} {args : Array Value} {below : List Frame} {meth : Method} {c : Code} {H : Heap} {locs : List Loc} {cells slots : Nat} {Q : State → Prop} {pc : Nat} {ls : Array Slot} {rest : List Value} {cc : ByteArray}
theorem lv_seti {x : Int32} (y : Int32) (h : x = y) (k : W p l e R s m args below meth c H locs cells slots Q (F0 m pc ls (.int y :: rest))) : W p l e R s m args below meth c H locs cells slots Q (F0 m pc ls (.int x :: rest)) := by subst h; exact k
theorem lv_setl {x : Int64} (y : Int64) (h : x = y) (k : W p l e R s m args below meth c H locs cells slots Q (F0 m pc ls (.long y :: rest))) : W p l e R s m args below meth c H locs cells slots Q (F0 m pc ls (.long x :: rest)) := by subst h; exact k
theorem arr_same {D : va_G} {cA cB : ClassId} {tys : List (ClassId × FieldType)} {t : FieldType} (ht : t = .int ∨ t = .boolean) (hK : va_K D vwCl tys s) (i j : Nat) (hi : tys[i]? = some (cA, t)) (hj : tys[j]? = some (cB, t)) : cA = cB := by
  rcases ht with rfl | rfl
  · exact Option.some.inj ((hK.2 i _ hi).2.symm.trans (hK.2 j _ hj).2)
  · exact Option.some.inj ((hK.2 i _ hi).2.symm.trans (hK.2 j _ hj).2)
theorem my_newI {D : va_G} {cI cZ : ClassId} {A : Nat → Prop} {ws : va_W} {H0 : Heap} (hexec : p.tables.exec = Jvm.exec) (hb : c.code = cc) (harr : (Cond.arrayClass .int).before args s = true) (hK : va_K D vwCl (tys2 cI cZ) s) (hP : va_P D vwCl ws H) (hD : va_D A ws) (hS : va_S A H0 H locs) (hA : ∀ q, H0.size ≤ q → A q)
    {n : Int32} (N : Nat) (hn : ¬ n < 0) (hN : n.toNatClampNeg = N) (hbytes : N * 4 ≤ 536870912) (hcells : cells + 1 ≤ R.cells) (hslots : slots + N ≤ R.slots) (hdg : decode cc pc = .ok (.newarray .int, 2))
    (kk : ∀ (q : Nat) (H1 : Heap), va_P D vwCl (ws ++ [(q, .inl (cI, N, .inl (fun _ => 0)))]) H1 → va_D A (ws ++ [(q, .inl (cI, N, .inl (fun _ => 0)))]) → va_S A H0 H1 locs →
      W p l e R s m args below meth c H1 locs (cells + 1) (slots + N) Q (F0 m (pc + 2) ls (.ref q :: rest))) : W p l e R s m args below meth c H locs cells slots Q (F0 m pc ls (.int n :: rest)) := by
  refine va_newa (atype := .int) (a0 := (N, .inl (fun _ => 0))) hexec hb harr rfl hK hP hD hS hA (fun cA => rfl) hn hN hbytes hcells hslots hdg (fun q cA H1 hK1 hP1 hD1 hS1 => ?_)
  have e1 : cA = cI := arr_same (Or.inl rfl) hK1 2 0 rfl rfl
  subst e1
  exact kk q H1 hP1 hD1 hS1
theorem my_newZ {D : va_G} {cI cZ : ClassId} {A : Nat → Prop} {ws : va_W} {H0 : Heap} (hexec : p.tables.exec = Jvm.exec) (hb : c.code = cc) (harr : (Cond.arrayClass .boolean).before args s = true) (hK : va_K D vwCl (tys2 cI cZ) s) (hP : va_P D vwCl ws H) (hD : va_D A ws) (hS : va_S A H0 H locs) (hA : ∀ q, H0.size ≤ q → A q)
    {n : Int32} (N : Nat) (hn : ¬ n < 0) (hN : n.toNatClampNeg = N) (hbytes : N * 1 ≤ 536870912) (hcells : cells + 1 ≤ R.cells) (hslots : slots + N ≤ R.slots) (hdg : decode cc pc = .ok (.newarray .boolean, 2))
    (kk : ∀ (q : Nat) (H1 : Heap), va_P D vwCl (ws ++ [(q, .inl (cZ, N, .inl (fun _ => 0)))]) H1 → va_D A (ws ++ [(q, .inl (cZ, N, .inl (fun _ => 0)))]) → va_S A H0 H1 locs →
      W p l e R s m args below meth c H1 locs (cells + 1) (slots + N) Q (F0 m (pc + 2) ls (.ref q :: rest))) : W p l e R s m args below meth c H locs cells slots Q (F0 m pc ls (.int n :: rest)) := by
  refine va_newa (atype := .boolean) (a0 := (N, .inl (fun _ => 0))) hexec hb harr rfl hK hP hD hS hA (fun cA => rfl) hn hN hbytes hcells hslots hdg (fun q cA H1 hK1 hP1 hD1 hS1 => ?_)
  have e1 : cA = cZ := arr_same (Or.inr rfl) hK1 2 1 rfl rfl
  subst e1
  exact kk q H1 hP1 hD1 hS1
end ROWS
/-- what 'isWithin' and 'in' answer -/
def isw (v a b : Int32) : Int32 := if v < a then 0 else if b < v then 0 else 1
theorem isw_01 (v a b : Int32) : isw v a b = 0 ∨ isw v a b = 1 := by
  unfold isw
  split
  · exact Or.inl rfl
  · split
    · exact Or.inl rfl
    · exact Or.inr rfl
theorem isw_nar (v a b : Int32) : narrow .boolean (.int (isw v a b)) = .int (isw v a b) := by
  rcases isw_01 v a b with h | h <;> rw [h] <;> rfl
theorem isw_ge {v a b : Int32} (h : ¬ isw v a b = 0) : a ≤ v ∧ v ≤ b := by
  unfold isw at h
  by_cases h1 : v < a
  · simp [h1] at h
  · by_cases h2 : b < v
    · simp [h1, h2] at h
    · exact ⟨Int32.not_lt.mp h1, Int32.not_lt.mp h2⟩
theorem isw_in {v b : Int32} {n : Nat} (h : ¬ isw v 0 b = 0) (hb : b.toInt < n) : vp_in v n := by
  obtain ⟨h1, h2⟩ := isw_ge h
  rw [vp_in_iff]
  have h3 := Int32.le_iff_toInt_le.mp h1
  have h4 := Int32.le_iff_toInt_le.mp h2
  have h5 : (0 : Int32).toInt = 0 := rfl
  omega

