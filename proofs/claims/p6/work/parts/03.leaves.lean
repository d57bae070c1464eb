section LOOPS
variable {p : Program} {l : Launch} {e : Env} {R : Room} {s : State} {m : MethodId} {args : Array Value} {below : List Frame} {meth : Method} {c : Code} {cells slots : Nat} {Q : State → Prop}
/-- a loop: a step from any state that holds the invariant, given the walk from every state of a smaller measure -/
theorem W_loop {σ : Type} (I : σ → Heap → List Loc → Array Slot → Prop) (μ : σ → Nat) {pc : Nat} {st : List Value}
    (step : ∀ (x : σ) (H : Heap) (locs : List Loc) (ls : Array Slot), I x H locs ls → (∀ (y : σ) (H' : Heap) (locs' : List Loc) (ls' : Array Slot), μ y < μ x → I y H' locs' ls' → W p l e R s m args below meth c H' locs' cells slots Q (F0 m pc ls' st)) → W p l e R s m args below meth c H locs cells slots Q (F0 m pc ls st))
    (x : σ) {H : Heap} {locs : List Loc} {ls : Array Slot} (h : I x H locs ls) : W p l e R s m args below meth c H locs cells slots Q (F0 m pc ls st) := by
  have key : ∀ (n : Nat) (x : σ), μ x < n → ∀ (H : Heap) (locs : List Loc) (ls : Array Slot), I x H locs ls → W p l e R s m args below meth c H locs cells slots Q (F0 m pc ls st) := by
    intro n
    induction n with
    | zero => exact fun x h => absurd h (Nat.not_lt_zero _)
    | succ n ih => exact fun x hx H locs ls hI => step x H locs ls hI (fun y H' locs' ls' hy hI' => ih y (by omega) H' locs' ls' hI')
  exact key (μ x + 1) x (Nat.lt_succ_self _) H locs ls h
end LOOPS
theorem tb_out (n : Nat) (hn : n < 2 ^ 31) {x : Int32} (h : ∀ j : Nat, j < n → ¬ x = nI j) : x.toInt < 0 ∨ (n : Int) - 1 < x.toInt := by
  rcases Int.lt_or_le x.toInt 0 with h0 | h0
  · exact Or.inl h0
  · rcases Int.lt_or_le ((n : Int) - 1) x.toInt with h1 | h1
    · exact Or.inr h1
    · obtain ⟨j, hj, e⟩ := vp_in_of (vp_in_iff.mpr ⟨h0, (by omega : x.toInt < (n : Int))⟩) hn
      exact absurd e (h j hj)
/-- zeros at the first i places -/
def zf (i : Nat) (f : Nat → Int32) : Nat → Int32 := fun j => if j < i then 0 else f j
theorem zf_0 (f : Nat → Int32) : zf 0 f = f := by funext j; simp [zf]
theorem zf_s (i : Nat) (f : Nat → Int32) : upd (zf i f) i 0 = zf (i + 1) f := by
  funext j
  unfold upd zf
  by_cases h : j = i
  · subst h; simp
  · by_cases h2 : j < i
    · simp [h, h2, show j < i + 1 by omega]
    · simp [h, h2, show ¬ j < i + 1 by omega]
theorem zf_z (i : Nat) : zf i (fun _ => 0) = fun _ => 0 := by funext j; simp [zf]
theorem gd_PC_isWithin_0 : (decode prog_1_method_28_code 0 = .ok (.iload_n 0, 1)) ∧ (decode prog_1_method_28_code 1 = .ok (.iload_n 1, 1)) ∧ (decode prog_1_method_28_code 2 = .ok (.if_icmp .lt 12, 3)) ∧ (decode prog_1_method_28_code 14 = .ok (.iconst 0, 1)) ∧ (decode prog_1_method_28_code 15 = .ok (.ireturn, 1)) ∧ (decode prog_1_method_28_code 5 = .ok (.iload_n 0, 1)) ∧ (decode prog_1_method_28_code 6 = .ok (.iload_n 2, 1)) ∧ (decode prog_1_method_28_code 7 = .ok (.if_icmp .gt 7, 3)) ∧ (decode prog_1_method_28_code 10 = .ok (.iconst 1, 1)) ∧ (decode prog_1_method_28_code 11 = .ok (.goto 4, 3)) := by decide +kernel
theorem d_PC_isWithin_0 : decode prog_1_method_28_code 0 = .ok (.iload_n 0, 1) := gd_PC_isWithin_0.1
theorem d_PC_isWithin_1 : decode prog_1_method_28_code 1 = .ok (.iload_n 1, 1) := gd_PC_isWithin_0.2.1
theorem d_PC_isWithin_2 : decode prog_1_method_28_code 2 = .ok (.if_icmp .lt 12, 3) := gd_PC_isWithin_0.2.2.1
theorem d_PC_isWithin_14 : decode prog_1_method_28_code 14 = .ok (.iconst 0, 1) := gd_PC_isWithin_0.2.2.2.1
theorem d_PC_isWithin_15 : decode prog_1_method_28_code 15 = .ok (.ireturn, 1) := gd_PC_isWithin_0.2.2.2.2.1
theorem d_PC_isWithin_5 : decode prog_1_method_28_code 5 = .ok (.iload_n 0, 1) := gd_PC_isWithin_0.2.2.2.2.2.1
theorem d_PC_isWithin_6 : decode prog_1_method_28_code 6 = .ok (.iload_n 2, 1) := gd_PC_isWithin_0.2.2.2.2.2.2.1
theorem d_PC_isWithin_7 : decode prog_1_method_28_code 7 = .ok (.if_icmp .gt 7, 3) := gd_PC_isWithin_0.2.2.2.2.2.2.2.1
theorem d_PC_isWithin_10 : decode prog_1_method_28_code 10 = .ok (.iconst 1, 1) := gd_PC_isWithin_0.2.2.2.2.2.2.2.2.1
theorem d_PC_isWithin_11 : decode prog_1_method_28_code 11 = .ok (.goto 4, 3) := gd_PC_isWithin_0.2.2.2.2.2.2.2.2.2
theorem gd_MO_in_0 : (decode prog_9_method_3_code 0 = .ok (.iload_n 0, 1)) ∧ (decode prog_9_method_3_code 1 = .ok (.iload_n 1, 1)) ∧ (decode prog_9_method_3_code 2 = .ok (.if_icmp .lt 12, 3)) ∧ (decode prog_9_method_3_code 14 = .ok (.iconst 0, 1)) ∧ (decode prog_9_method_3_code 15 = .ok (.ireturn, 1)) ∧ (decode prog_9_method_3_code 5 = .ok (.iload_n 0, 1)) ∧ (decode prog_9_method_3_code 6 = .ok (.iload_n 2, 1)) ∧ (decode prog_9_method_3_code 7 = .ok (.if_icmp .gt 7, 3)) ∧ (decode prog_9_method_3_code 10 = .ok (.iconst 1, 1)) ∧ (decode prog_9_method_3_code 11 = .ok (.goto 4, 3)) := by decide +kernel
theorem d_MO_in_0 : decode prog_9_method_3_code 0 = .ok (.iload_n 0, 1) := gd_MO_in_0.1
theorem d_MO_in_1 : decode prog_9_method_3_code 1 = .ok (.iload_n 1, 1) := gd_MO_in_0.2.1
theorem d_MO_in_2 : decode prog_9_method_3_code 2 = .ok (.if_icmp .lt 12, 3) := gd_MO_in_0.2.2.1
theorem d_MO_in_14 : decode prog_9_method_3_code 14 = .ok (.iconst 0, 1) := gd_MO_in_0.2.2.2.1
theorem d_MO_in_15 : decode prog_9_method_3_code 15 = .ok (.ireturn, 1) := gd_MO_in_0.2.2.2.2.1
theorem d_MO_in_5 : decode prog_9_method_3_code 5 = .ok (.iload_n 0, 1) := gd_MO_in_0.2.2.2.2.2.1
theorem d_MO_in_6 : decode prog_9_method_3_code 6 = .ok (.iload_n 2, 1) := gd_MO_in_0.2.2.2.2.2.2.1
theorem d_MO_in_7 : decode prog_9_method_3_code 7 = .ok (.if_icmp .gt 7, 3) := gd_MO_in_0.2.2.2.2.2.2.2.1
theorem d_MO_in_10 : decode prog_9_method_3_code 10 = .ok (.iconst 1, 1) := gd_MO_in_0.2.2.2.2.2.2.2.2.1
theorem d_MO_in_11 : decode prog_9_method_3_code 11 = .ok (.goto 4, 3) := gd_MO_in_0.2.2.2.2.2.2.2.2.2
theorem gd_PE_has_0 : (decode prog_3_method_3_code 0 = .ok (.iload_n 1, 1)) ∧ (decode prog_3_method_3_code 1 = .ok (.iconst 0, 1)) ∧ (decode prog_3_method_3_code 2 = .ok (.aload_n 0, 1)) ∧ (decode prog_3_method_3_code 3 = .ok (.getfield 9, 3)) ∧ (decode prog_3_method_3_code 6 = .ok (.iconst 1, 1)) ∧ (decode prog_3_method_3_code 7 = .ok (.isub, 1)) ∧ (decode prog_3_method_3_code 8 = .ok (.invokestatic 29, 3)) ∧ (decode prog_3_method_3_code 11 = .ok (.ireturn, 1)) := by decide +kernel
theorem d_PE_has_0 : decode prog_3_method_3_code 0 = .ok (.iload_n 1, 1) := gd_PE_has_0.1
theorem d_PE_has_1 : decode prog_3_method_3_code 1 = .ok (.iconst 0, 1) := gd_PE_has_0.2.1
theorem d_PE_has_2 : decode prog_3_method_3_code 2 = .ok (.aload_n 0, 1) := gd_PE_has_0.2.2.1
theorem d_PE_has_3 : decode prog_3_method_3_code 3 = .ok (.getfield 9, 3) := gd_PE_has_0.2.2.2.1
theorem d_PE_has_6 : decode prog_3_method_3_code 6 = .ok (.iconst 1, 1) := gd_PE_has_0.2.2.2.2.1
theorem d_PE_has_7 : decode prog_3_method_3_code 7 = .ok (.isub, 1) := gd_PE_has_0.2.2.2.2.2.1
theorem d_PE_has_8 : decode prog_3_method_3_code 8 = .ok (.invokestatic 29, 3) := gd_PE_has_0.2.2.2.2.2.2.1
theorem d_PE_has_11 : decode prog_3_method_3_code 11 = .ok (.ireturn, 1) := gd_PE_has_0.2.2.2.2.2.2.2
theorem gd_PA_has_0 : (decode prog_2_method_2_code 0 = .ok (.iload_n 1, 1)) ∧ (decode prog_2_method_2_code 1 = .ok (.iconst 0, 1)) ∧ (decode prog_2_method_2_code 2 = .ok (.aload_n 0, 1)) ∧ (decode prog_2_method_2_code 3 = .ok (.getfield 9, 3)) ∧ (decode prog_2_method_2_code 6 = .ok (.iconst 1, 1)) ∧ (decode prog_2_method_2_code 7 = .ok (.isub, 1)) ∧ (decode prog_2_method_2_code 8 = .ok (.invokestatic 49, 3)) ∧ (decode prog_2_method_2_code 11 = .ok (.ireturn, 1)) := by decide +kernel
theorem d_PA_has_0 : decode prog_2_method_2_code 0 = .ok (.iload_n 1, 1) := gd_PA_has_0.1
theorem d_PA_has_1 : decode prog_2_method_2_code 1 = .ok (.iconst 0, 1) := gd_PA_has_0.2.1
theorem d_PA_has_2 : decode prog_2_method_2_code 2 = .ok (.aload_n 0, 1) := gd_PA_has_0.2.2.1
theorem d_PA_has_3 : decode prog_2_method_2_code 3 = .ok (.getfield 9, 3) := gd_PA_has_0.2.2.2.1
theorem d_PA_has_6 : decode prog_2_method_2_code 6 = .ok (.iconst 1, 1) := gd_PA_has_0.2.2.2.2.1
theorem d_PA_has_7 : decode prog_2_method_2_code 7 = .ok (.isub, 1) := gd_PA_has_0.2.2.2.2.2.1
theorem d_PA_has_8 : decode prog_2_method_2_code 8 = .ok (.invokestatic 49, 3) := gd_PA_has_0.2.2.2.2.2.2.1
theorem d_PA_has_11 : decode prog_2_method_2_code 11 = .ok (.ireturn, 1) := gd_PA_has_0.2.2.2.2.2.2.2
theorem gd_PR_has_0 : (decode prog_4_method_3_code 0 = .ok (.iload_n 1, 1)) ∧ (decode prog_4_method_3_code 1 = .ok (.iconst 0, 1)) ∧ (decode prog_4_method_3_code 2 = .ok (.aload_n 0, 1)) ∧ (decode prog_4_method_3_code 3 = .ok (.getfield 9, 3)) ∧ (decode prog_4_method_3_code 6 = .ok (.iconst 1, 1)) ∧ (decode prog_4_method_3_code 7 = .ok (.isub, 1)) ∧ (decode prog_4_method_3_code 8 = .ok (.invokestatic 53, 3)) ∧ (decode prog_4_method_3_code 11 = .ok (.ireturn, 1)) := by decide +kernel
theorem d_PR_has_0 : decode prog_4_method_3_code 0 = .ok (.iload_n 1, 1) := gd_PR_has_0.1
theorem d_PR_has_1 : decode prog_4_method_3_code 1 = .ok (.iconst 0, 1) := gd_PR_has_0.2.1
theorem d_PR_has_2 : decode prog_4_method_3_code 2 = .ok (.aload_n 0, 1) := gd_PR_has_0.2.2.1
theorem d_PR_has_3 : decode prog_4_method_3_code 3 = .ok (.getfield 9, 3) := gd_PR_has_0.2.2.2.1
theorem d_PR_has_6 : decode prog_4_method_3_code 6 = .ok (.iconst 1, 1) := gd_PR_has_0.2.2.2.2.1
theorem d_PR_has_7 : decode prog_4_method_3_code 7 = .ok (.isub, 1) := gd_PR_has_0.2.2.2.2.2.1
theorem d_PR_has_8 : decode prog_4_method_3_code 8 = .ok (.invokestatic 53, 3) := gd_PR_has_0.2.2.2.2.2.2.1
theorem d_PR_has_11 : decode prog_4_method_3_code 11 = .ok (.ireturn, 1) := gd_PR_has_0.2.2.2.2.2.2.2
set_option maxHeartbeats 4000000 in
set_option maxRecDepth 100000 in
theorem c_within (l : Launch) (D : va_G) (cI cZ : ClassId) (v : Int32) (a : Int32) (b : Int32) (sz : Nat)  : Met l ⟨"PromiseChains", "isWithin", "(III)Z"⟩ (mw ⟨"PromiseChains", "isWithin", "(III)Z"⟩ prog_1_method_28_code 3 (some .boolean)) ({ frames := 0, cells := 0, slots := 0, locals := 0 }) (va_Pc [.int v, .int a, .int b] (PB D cI cZ sz [])) (vp_Si (fun r => r = isw v a b)) 0 0 (fun _ => False) := by
  refine Met.ofW (cc := prog_1_method_28_code) (maxL := 3) (ret := (some .boolean)) (by decide) rfl ?_
  intro p e s m args below meth c s₁ B hml hv
  obtain ⟨rfl, hsz, hP, hK, hD0, hN⟩ := hv
  have hx := B.exec
  have hb := B.bytes
  have hr := B.returns
  have hts0 := atoms_spec (ws := mw ⟨"PromiseChains", "isWithin", "(III)Z"⟩ prog_1_method_28_code 3 (some .boolean)) B.pre
  have hts : ∀ w ∈ tblG, w.before _ s = true := fun w h => hts0 w (List.mem_cons_of_mem _ h)
  have hown : s.vm.findClass "PromiseChains" = some m.cls := findClass_of_methodNamed B.named
  have hlocks := B.notSynchronized
  subst hsz
  have hD := hD0
  have hP : va_P D vwCl [] s.heap := hP
  have hl := lv_entry ([.int v, .int a, .int b]) (n := 3) (Nat.le_of_ble_eq_true rfl)
  rw [lg_entry_eq]
  generalize (lg_sl ([.int v, .int a, .int b]) ++ List.replicate (3 - (lg_sl ([.int v, .int a, .int b])).length) Slot.unset).toArray = ls at hl ⊢
  have hl : lv_has ls 3 [(0, .int v), (1, .int a), (2, .int b)] := hl
  refine lv_iload_n hx hb d_PC_isWithin_0 rfl (lv_at hl 0 rfl) ?_
  refine lv_iload_n hx hb d_PC_isWithin_1 rfl (lv_at hl 1 rfl) ?_
  refine lv_icmp_lt (tgt := 14) hx hb d_PC_isWithin_2 (by decide) (fun h_1 => ?_) (fun h_1 => ?_)
  · refine lv_iconst (v := 0) hx hb d_PC_isWithin_14 (by decide) ?_
    exact W.zret (v := 0) hx hb hr rfl (fun t ht hW => ⟨0, rfl, (by simp [isw, h_1]), ht⟩) (fun q h => absurd h List.not_mem_nil) d_PC_isWithin_15
  · refine lv_iload_n hx hb d_PC_isWithin_5 rfl (lv_at hl 0 rfl) ?_
    refine lv_iload_n hx hb d_PC_isWithin_6 rfl (lv_at hl 2 rfl) ?_
    refine lv_icmp_gt (tgt := 14) hx hb d_PC_isWithin_7 (by decide) (fun h_2 => ?_) (fun h_2 => ?_)
    · refine lv_iconst (v := 0) hx hb d_PC_isWithin_14 (by decide) ?_
      exact W.zret (v := 0) hx hb hr rfl (fun t ht hW => ⟨0, rfl, (by simp [isw, h_1, h_2]), ht⟩) (fun q h => absurd h List.not_mem_nil) d_PC_isWithin_15
    · refine lv_iconst (v := 1) hx hb d_PC_isWithin_10 (by decide) ?_
      refine lv_goto (tgt := 15) hx hb d_PC_isWithin_11 (by decide) ?_
      exact W.zret (v := 1) hx hb hr rfl (fun t ht hW => ⟨1, rfl, (by simp [isw, h_1, h_2]), ht⟩) (fun q h => absurd h List.not_mem_nil) d_PC_isWithin_15

set_option maxHeartbeats 4000000 in
set_option maxRecDepth 100000 in
theorem c_in (l : Launch) (D : va_G) (cI cZ : ClassId) (v : Int32) (a : Int32) (b : Int32) (sz : Nat)  : Met l ⟨"PromiseChainsModel", "in", "(III)Z"⟩ (mw ⟨"PromiseChainsModel", "in", "(III)Z"⟩ prog_9_method_3_code 3 (some .boolean)) ({ frames := 0, cells := 0, slots := 0, locals := 0 }) (va_Pc [.int v, .int a, .int b] (PB D cI cZ sz [])) (vp_Si (fun r => r = isw v a b)) 0 0 (fun _ => False) := by
  refine Met.ofW (cc := prog_9_method_3_code) (maxL := 3) (ret := (some .boolean)) (by decide) rfl ?_
  intro p e s m args below meth c s₁ B hml hv
  obtain ⟨rfl, hsz, hP, hK, hD0, hN⟩ := hv
  have hx := B.exec
  have hb := B.bytes
  have hr := B.returns
  have hts0 := atoms_spec (ws := mw ⟨"PromiseChainsModel", "in", "(III)Z"⟩ prog_9_method_3_code 3 (some .boolean)) B.pre
  have hts : ∀ w ∈ tblG, w.before _ s = true := fun w h => hts0 w (List.mem_cons_of_mem _ h)
  have hown : s.vm.findClass "PromiseChainsModel" = some m.cls := findClass_of_methodNamed B.named
  have hlocks := B.notSynchronized
  subst hsz
  have hD := hD0
  have hP : va_P D vwCl [] s.heap := hP
  have hl := lv_entry ([.int v, .int a, .int b]) (n := 3) (Nat.le_of_ble_eq_true rfl)
  rw [lg_entry_eq]
  generalize (lg_sl ([.int v, .int a, .int b]) ++ List.replicate (3 - (lg_sl ([.int v, .int a, .int b])).length) Slot.unset).toArray = ls at hl ⊢
  have hl : lv_has ls 3 [(0, .int v), (1, .int a), (2, .int b)] := hl
  refine lv_iload_n hx hb d_MO_in_0 rfl (lv_at hl 0 rfl) ?_
  refine lv_iload_n hx hb d_MO_in_1 rfl (lv_at hl 1 rfl) ?_
  refine lv_icmp_lt (tgt := 14) hx hb d_MO_in_2 (by decide) (fun h_1 => ?_) (fun h_1 => ?_)
  · refine lv_iconst (v := 0) hx hb d_MO_in_14 (by decide) ?_
    exact W.zret (v := 0) hx hb hr rfl (fun t ht hW => ⟨0, rfl, (by simp [isw, h_1]), ht⟩) (fun q h => absurd h List.not_mem_nil) d_MO_in_15
  · refine lv_iload_n hx hb d_MO_in_5 rfl (lv_at hl 0 rfl) ?_
    refine lv_iload_n hx hb d_MO_in_6 rfl (lv_at hl 2 rfl) ?_
    refine lv_icmp_gt (tgt := 14) hx hb d_MO_in_7 (by decide) (fun h_2 => ?_) (fun h_2 => ?_)
    · refine lv_iconst (v := 0) hx hb d_MO_in_14 (by decide) ?_
      exact W.zret (v := 0) hx hb hr rfl (fun t ht hW => ⟨0, rfl, (by simp [isw, h_1, h_2]), ht⟩) (fun q h => absurd h List.not_mem_nil) d_MO_in_15
    · refine lv_iconst (v := 1) hx hb d_MO_in_10 (by decide) ?_
      refine lv_goto (tgt := 15) hx hb d_MO_in_11 (by decide) ?_
      exact W.zret (v := 1) hx hb hr rfl (fun t ht hW => ⟨1, rfl, (by simp [isw, h_1, h_2]), ht⟩) (fun q h => absurd h List.not_mem_nil) d_MO_in_15

set_option maxHeartbeats 4000000 in
set_option maxRecDepth 100000 in
theorem c_PE_has (l : Launch) (D : va_G) (cI cZ : ClassId) (f0 : Nat) (i : Int32) (n : Int32) (f1 : Nat) (f2 : Nat) (f3 : Nat) (f4 : Nat) (sz : Nat)  : Met l ⟨"PromiseChains$People", "has", "(I)Z"⟩ (mw ⟨"PromiseChains$People", "has", "(I)Z"⟩ prog_3_method_3_code 2 (some .boolean)) ({ frames := 1, cells := 0, slots := 0, locals := 22 }) (va_Pc [.ref f0, .int i] (PB D cI cZ sz [(f0, .inr (1, [.int n, .ref f1, .ref f2, .ref f3, .ref f4]))])) (vp_Si (fun r => r = isw i 0 (n - 1))) 0 0 (fun _ => False) := by
  refine Met.ofW (cc := prog_3_method_3_code) (maxL := 2) (ret := (some .boolean)) (by decide) rfl ?_
  intro p e s m args below meth c s₁ B hml hv
  obtain ⟨rfl, hsz, hP, hK, hD0, hN⟩ := hv
  have hx := B.exec
  have hb := B.bytes
  have hr := B.returns
  have hts0 := atoms_spec (ws := mw ⟨"PromiseChains$People", "has", "(I)Z"⟩ prog_3_method_3_code 2 (some .boolean)) B.pre
  have hts : ∀ w ∈ tblG, w.before _ s = true := fun w h => hts0 w (List.mem_cons_of_mem _ h)
  have hown : s.vm.findClass "PromiseChains$People" = some m.cls := findClass_of_methodNamed B.named
  have hlocks := B.notSynchronized
  subst hsz
  have hD := hD0
  have hP : va_P D vwCl [(f0, .inr (1, [.int n, .ref f1, .ref f2, .ref f3, .ref f4]))] s.heap := hP
  have hl := lv_entry ([.ref f0, .int i]) (n := 2) (Nat.le_of_ble_eq_true rfl)
  rw [lg_entry_eq]
  generalize (lg_sl ([.ref f0, .int i]) ++ List.replicate (2 - (lg_sl ([.ref f0, .int i])).length) Slot.unset).toArray = ls at hl ⊢
  have hl : lv_has ls 2 [(0, .ref f0), (1, .int i)] := hl
  refine lv_iload_n hx hb d_PE_has_0 rfl (lv_at hl 1 rfl) ?_
  refine lv_iconst (v := 0) hx hb d_PE_has_1 (by decide) ?_
  refine lv_aload_n hx hb d_PE_has_2 rfl (lv_at hl 0 rfl) ?_
  refine va_get (D := D) (ci := 1) (v := .int n) (C := R_PE) (T := F_PE) (N := 5) hx hb hts i_PE hown hK hP 0 rfl rfl 0 (by decide) (hts _ q_24) (fun _ h9 => h9) rfl d_PE_has_3 ?_
  refine lv_iconst (v := 1) hx hb d_PE_has_6 (by decide) ?_
  refine lv_isub hx hb d_PE_has_7 ?_
  have hPc := hP.sub (ws' := []) [] rfl
  have hDc := hD.sub (ws' := []) [] (by decide +kernel) rfl
  refine vp_callSi (va_Run.run (va_runSN (As := [.int i, .int 0, .int (n - 1)]) (rest := []) ⟨hx, hb, hml, hown, hts⟩ (c_within l D cI cZ i 0 (n - 1) s.heap.size ) ⟨(my_cwN 3 hts q_290 (hN _ nw_303) q_1 rfl rfl (by decide +kernel) ⟨Nat.le_of_ble_eq_true rfl, Nat.le_of_ble_eq_true rfl⟩), hts _ q_289, trivial⟩ (my_preS hPc hDc hK hN) rfl rfl hl.1 rfl (lv_room (Nat.le_of_ble_eq_true rfl)) d_PE_has_8 ⟨Nat.le_of_ble_eq_true rfl, Nat.le_of_ble_eq_true rfl⟩)) (fun r_1 hw_1 => ?_)
  have hw_1 : r_1 = isw i 0 (n - 1) := hw_1
  subst hw_1
  exact W.zret (v := (isw i 0 (n - 1))) hx hb hr (isw_nar _ _ _) (fun t ht hW => ⟨(isw i 0 (n - 1)), rfl, rfl, ht⟩) (fun q h => absurd h List.not_mem_nil) d_PE_has_11

set_option maxHeartbeats 4000000 in
set_option maxRecDepth 100000 in
theorem c_PA_has (l : Launch) (D : va_G) (cI cZ : ClassId) (a0 : Nat) (i : Int32) (n : Int32) (a1 : Nat) (a2 : Nat) (a3 : Nat) (a4 : Nat) (a5 : Nat) (a6 : Nat) (a7 : Nat) (a8 : Nat) (a9 : Nat) (a10 : Nat) (a11 : Nat) (sz : Nat)  : Met l ⟨"PromiseChains$Pairs", "has", "(I)Z"⟩ (mw ⟨"PromiseChains$Pairs", "has", "(I)Z"⟩ prog_2_method_2_code 2 (some .boolean)) ({ frames := 1, cells := 0, slots := 0, locals := 22 }) (va_Pc [.ref a0, .int i] (PB D cI cZ sz [(a0, .inr (2, [.int n, .ref a1, .ref a2, .ref a3, .ref a4, .ref a5, .ref a6, .ref a7, .ref a8, .ref a9, .ref a10, .ref a11]))])) (vp_Si (fun r => r = isw i 0 (n - 1))) 0 0 (fun _ => False) := by
  refine Met.ofW (cc := prog_2_method_2_code) (maxL := 2) (ret := (some .boolean)) (by decide) rfl ?_
  intro p e s m args below meth c s₁ B hml hv
  obtain ⟨rfl, hsz, hP, hK, hD0, hN⟩ := hv
  have hx := B.exec
  have hb := B.bytes
  have hr := B.returns
  have hts0 := atoms_spec (ws := mw ⟨"PromiseChains$Pairs", "has", "(I)Z"⟩ prog_2_method_2_code 2 (some .boolean)) B.pre
  have hts : ∀ w ∈ tblG, w.before _ s = true := fun w h => hts0 w (List.mem_cons_of_mem _ h)
  have hown : s.vm.findClass "PromiseChains$Pairs" = some m.cls := findClass_of_methodNamed B.named
  have hlocks := B.notSynchronized
  subst hsz
  have hD := hD0
  have hP : va_P D vwCl [(a0, .inr (2, [.int n, .ref a1, .ref a2, .ref a3, .ref a4, .ref a5, .ref a6, .ref a7, .ref a8, .ref a9, .ref a10, .ref a11]))] s.heap := hP
  have hl := lv_entry ([.ref a0, .int i]) (n := 2) (Nat.le_of_ble_eq_true rfl)
  rw [lg_entry_eq]
  generalize (lg_sl ([.ref a0, .int i]) ++ List.replicate (2 - (lg_sl ([.ref a0, .int i])).length) Slot.unset).toArray = ls at hl ⊢
  have hl : lv_has ls 2 [(0, .ref a0), (1, .int i)] := hl
  refine lv_iload_n hx hb d_PA_has_0 rfl (lv_at hl 1 rfl) ?_
  refine lv_iconst (v := 0) hx hb d_PA_has_1 (by decide) ?_
  refine lv_aload_n hx hb d_PA_has_2 rfl (lv_at hl 0 rfl) ?_
  refine va_get (D := D) (ci := 2) (v := .int n) (C := R_PA) (T := F_PA) (N := 12) hx hb hts i_PA hown hK hP 0 rfl rfl 0 (by decide) (hts _ q_56) (fun _ h9 => h9) rfl d_PA_has_3 ?_
  refine lv_iconst (v := 1) hx hb d_PA_has_6 (by decide) ?_
  refine lv_isub hx hb d_PA_has_7 ?_
  have hPc := hP.sub (ws' := []) [] rfl
  have hDc := hD.sub (ws' := []) [] (by decide +kernel) rfl
  refine vp_callSi (va_Run.run (va_runSN (As := [.int i, .int 0, .int (n - 1)]) (rest := []) ⟨hx, hb, hml, hown, hts⟩ (c_within l D cI cZ i 0 (n - 1) s.heap.size ) ⟨(my_cwN 3 hts q_290 (hN _ nw_487) q_1 rfl rfl (by decide +kernel) ⟨Nat.le_of_ble_eq_true rfl, Nat.le_of_ble_eq_true rfl⟩), hts _ q_289, trivial⟩ (my_preS hPc hDc hK hN) rfl rfl hl.1 rfl (lv_room (Nat.le_of_ble_eq_true rfl)) d_PA_has_8 ⟨Nat.le_of_ble_eq_true rfl, Nat.le_of_ble_eq_true rfl⟩)) (fun r_1 hw_1 => ?_)
  have hw_1 : r_1 = isw i 0 (n - 1) := hw_1
  subst hw_1
  exact W.zret (v := (isw i 0 (n - 1))) hx hb hr (isw_nar _ _ _) (fun t ht hW => ⟨(isw i 0 (n - 1)), rfl, rfl, ht⟩) (fun q h => absurd h List.not_mem_nil) d_PA_has_11

set_option maxHeartbeats 4000000 in
set_option maxRecDepth 100000 in
theorem c_PR_has (l : Launch) (D : va_G) (cI cZ : ClassId) (r0 : Nat) (i : Int32) (n : Int32) (r1 : Nat) (r2 : Nat) (r3 : Nat) (r4 : Nat) (r5 : Nat) (r6 : Nat) (r7 : Nat) (r8 : Nat) (r9 : Nat) (r10 : Nat) (r11 : Nat) (sz : Nat)  : Met l ⟨"PromiseChains$Promises", "has", "(I)Z"⟩ (mw ⟨"PromiseChains$Promises", "has", "(I)Z"⟩ prog_4_method_3_code 2 (some .boolean)) ({ frames := 1, cells := 0, slots := 0, locals := 22 }) (va_Pc [.ref r0, .int i] (PB D cI cZ sz [(r0, .inr (3, [.int n, .int 0, .ref r1, .ref r2, .ref r3, .ref r4, .ref r5, .ref r6, .ref r7, .ref r8, .ref r9, .ref r10, .ref r11]))])) (vp_Si (fun r => r = isw i 0 (n - 1))) 0 0 (fun _ => False) := by
  refine Met.ofW (cc := prog_4_method_3_code) (maxL := 2) (ret := (some .boolean)) (by decide) rfl ?_
  intro p e s m args below meth c s₁ B hml hv
  obtain ⟨rfl, hsz, hP, hK, hD0, hN⟩ := hv
  have hx := B.exec
  have hb := B.bytes
  have hr := B.returns
  have hts0 := atoms_spec (ws := mw ⟨"PromiseChains$Promises", "has", "(I)Z"⟩ prog_4_method_3_code 2 (some .boolean)) B.pre
  have hts : ∀ w ∈ tblG, w.before _ s = true := fun w h => hts0 w (List.mem_cons_of_mem _ h)
  have hown : s.vm.findClass "PromiseChains$Promises" = some m.cls := findClass_of_methodNamed B.named
  have hlocks := B.notSynchronized
  subst hsz
  have hD := hD0
  have hP : va_P D vwCl [(r0, .inr (3, [.int n, .int 0, .ref r1, .ref r2, .ref r3, .ref r4, .ref r5, .ref r6, .ref r7, .ref r8, .ref r9, .ref r10, .ref r11]))] s.heap := hP
  have hl := lv_entry ([.ref r0, .int i]) (n := 2) (Nat.le_of_ble_eq_true rfl)
  rw [lg_entry_eq]
  generalize (lg_sl ([.ref r0, .int i]) ++ List.replicate (2 - (lg_sl ([.ref r0, .int i])).length) Slot.unset).toArray = ls at hl ⊢
  have hl : lv_has ls 2 [(0, .ref r0), (1, .int i)] := hl
  refine lv_iload_n hx hb d_PR_has_0 rfl (lv_at hl 1 rfl) ?_
  refine lv_iconst (v := 0) hx hb d_PR_has_1 (by decide) ?_
  refine lv_aload_n hx hb d_PR_has_2 rfl (lv_at hl 0 rfl) ?_
  refine va_get (D := D) (ci := 3) (v := .int n) (C := R_PR) (T := F_PR) (N := 13) hx hb hts i_PR hown hK hP 0 rfl rfl 0 (by decide) (hts _ q_110) (fun _ h9 => h9) rfl d_PR_has_3 ?_
  refine lv_iconst (v := 1) hx hb d_PR_has_6 (by decide) ?_
  refine lv_isub hx hb d_PR_has_7 ?_
  have hPc := hP.sub (ws' := []) [] rfl
  have hDc := hD.sub (ws' := []) [] (by decide +kernel) rfl
  refine vp_callSi (va_Run.run (va_runSN (As := [.int i, .int 0, .int (n - 1)]) (rest := []) ⟨hx, hb, hml, hown, hts⟩ (c_within l D cI cZ i 0 (n - 1) s.heap.size ) ⟨(my_cwN 3 hts q_290 (hN _ nw_458) q_1 rfl rfl (by decide +kernel) ⟨Nat.le_of_ble_eq_true rfl, Nat.le_of_ble_eq_true rfl⟩), hts _ q_289, trivial⟩ (my_preS hPc hDc hK hN) rfl rfl hl.1 rfl (lv_room (Nat.le_of_ble_eq_true rfl)) d_PR_has_8 ⟨Nat.le_of_ble_eq_true rfl, Nat.le_of_ble_eq_true rfl⟩)) (fun r_1 hw_1 => ?_)
  have hw_1 : r_1 = isw i 0 (n - 1) := hw_1
  subst hw_1
  exact W.zret (v := (isw i 0 (n - 1))) hx hb hr (isw_nar _ _ _) (fun t ht hW => ⟨(isw i 0 (n - 1)), rfl, rfl, ht⟩) (fun q h => absurd h List.not_mem_nil) d_PR_has_11
