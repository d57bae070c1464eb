-- the class's locks that run out: sides, locked, least, greatest, phases, held, held in all
abbrev CR : Type := (Nat → Int32) × (Nat → Int32) × (Nat → Int32) × (Nat → Int32) × (Nat → Int32) × (Nat → Int32) × Int32
def crS (q l p k : Nat) (v : Int32) (s : CR) : CR := (addS s.1 k v, subS s.2.1 k v, upd s.2.2.1 p 0, upd s.2.2.2.1 p (gsum (addS s.1 k v) p), upd s.2.2.2.2.1 l 2, subS s.2.2.2.2.2.1 q 1, s.2.2.2.2.2.2 - 1)
def crSt (LP LF : Nat → Nat) (LS : Nat → Int32) (s : CR) (x : Nat × Nat) : CR := crS x.1 (x.1 * 6 + x.2) (LP (x.1 * 6 + x.2)) (2 * LP (x.1 * 6 + x.2) + LF (x.1 * 6 + x.2)) (LS (x.1 * 6 + x.2)) s
def crEn (nq : Nat) (HO : Nat → Nat) (LC : Nat → Int32) (tm : Int32) (s : CR) (x : Nat × Nat) : Prop := x.1 < nq ∧ x.2 < HO x.1 ∧ s.2.2.2.2.1 (x.1 * 6 + x.2) = 0 ∧ LC (x.1 * 6 + x.2) ≤ tm
theorem crS_comm (q l p k : Nat) (v : Int32) (q' l' p' k' : Nat) (v' : Int32) (s : CR) (h : k / 2 = p) (h' : k' / 2 = p') : crS q' l' p' k' v' (crS q l p k v s) = crS q l p k v (crS q' l' p' k' v' s) := by
  dsimp only [crS]
  refine Prod.ext (addS_comm _ _ _ _ _) (Prod.ext (subS_comm _ _ _ _ _) (Prod.ext (upd_cc _ _ _ _) (Prod.ext (GR_comm _ _ _ _ h h') (Prod.ext (upd_cc _ _ _ _) (Prod.ext (subS_comm _ _ _ _ _) rfl)))))
theorem cr_dia {nq : Nat} {HO LP LF : Nat → Nat} {LS LC : Nat → Int32} {tm : Int32} (hHO : ∀ q, HO q ≤ 6) (hLF : ∀ l, LF l ≤ 1) : ∀ (s : CR) (x y : Nat × Nat), crEn nq HO LC tm s x → crEn nq HO LC tm s y → x ≠ y → crEn nq HO LC tm (crSt LP LF LS s x) y ∧ crSt LP LF LS (crSt LP LF LS s x) y = crSt LP LF LS (crSt LP LF LS s y) x := by
  intro s x y hx hy hne
  obtain ⟨q, i⟩ := x
  obtain ⟨q', i'⟩ := y
  obtain ⟨a1, a2, a3, a4⟩ := hx
  obtain ⟨b1, b2, b3, b4⟩ := hy
  have h1 := hHO q
  have h2 := hHO q'
  dsimp only at a1 a2 a3 a4 b1 b2 b3 b4
  have hl : ¬ q' * 6 + i' = q * 6 + i := by
    intro e
    apply hne
    have e1 : q' = q := by omega
    subst e1
    have e2 : i' = i := by omega
    rw [e2]
  have f1 := hLF (q * 6 + i)
  have f2 := hLF (q' * 6 + i')
  refine ⟨⟨b1, b2, ?_, b4⟩, crS_comm _ _ _ _ _ _ _ _ _ _ _ (by dsimp only; omega) (by dsimp only; omega)⟩
  show upd s.2.2.2.2.1 (q * 6 + i) 2 (q' * 6 + i') = 0
  rw [pk_un hl]
  exact b3
/-- running out under way -/
def RI (nq : Nat) (HO LP LF : Nat → Nat) (LS LC : Nat → Int32) (tm : Int32) (s0 s : CR) (sm : Int32) (q i : Nat) : Prop := ∃ L : List (Nat × Nat), Rn (crEn nq HO LC tm) (crSt LP LF LS) s0 L s ∧ sm = nI L.length ∧ (∀ x : Nat × Nat, (x.1 < q ∨ (x.1 = q ∧ x.2 < i)) → ¬ crEn nq HO LC tm s x)
def RA (nq : Nat) (HO LP LF : Nat → Nat) (LS LC : Nat → Int32) (tm : Int32) (s0 s : CR) (sm : Int32) : Prop := ∃ L : List (Nat × Nat), Rn (crEn nq HO LC tm) (crSt LP LF LS) s0 L s ∧ sm = nI L.length ∧ (∀ x : Nat × Nat, ¬ crEn nq HO LC tm s x)
section RROWS
variable {nq : Nat} {HO LP LF : Nat → Nat} {LS LC : Nat → Int32} {tm : Int32} {s0 s : CR} {sm : Int32} {q i : Nat}
theorem RI_0 : RI nq HO LP LF LS LC tm s0 s0 0 0 0 := ⟨[], rfl, nI_0.symm, fun x h => by omega⟩
theorem RI_skip (h : RI nq HO LP LF LS LC tm s0 s sm q i) (hn : ¬ crEn nq HO LC tm s (q, i)) : RI nq HO LP LF LS LC tm s0 s sm q (i + 1) := by
  obtain ⟨L, h1, h2, h4⟩ := h
  refine ⟨L, h1, h2, fun x hx => ?_⟩
  by_cases e2 : x = (q, i)
  · rw [e2]
    exact hn
  · refine h4 x ?_
    rcases hx with h | ⟨h, h5⟩
    · exact Or.inl h
    · refine Or.inr ⟨h, ?_⟩
      have : ¬ x.2 = i := fun q2 => e2 (by rw [← h, ← q2])
      omega
theorem RI_out (hHO : ∀ q, HO q ≤ 6) (h : RI nq HO LP LF LS LC tm s0 s sm q i) (he : crEn nq HO LC tm s (q, i)) : RI nq HO LP LF LS LC tm s0 (crSt LP LF LS s (q, i)) (sm + 1) q (i + 1) := by
  obtain ⟨L, h1, h2, h4⟩ := h
  refine ⟨L ++ [(q, i)], Rn_snoc h1 he, ?_, fun x hx hxe => ?_⟩
  · rw [h2, nI_1, List.length_append]
    rfl
  · obtain ⟨b1, b2, b3, b4⟩ := hxe
    have b3 : upd s.2.2.2.2.1 (q * 6 + i) 2 (x.1 * 6 + x.2) = 0 := b3
    by_cases e : x.1 * 6 + x.2 = q * 6 + i
    · rw [e, pk_us] at b3
      exact absurd b3 (by decide)
    · rw [pk_un e] at b3
      refine h4 x ?_ ⟨b1, b2, b3, b4⟩
      have := hHO x.1
      rcases hx with h | ⟨h, h5⟩
      · exact Or.inl h
      · refine Or.inr ⟨h, ?_⟩
        rw [h] at e
        omega
theorem RI_stop (h : RI nq HO LP LF LS LC tm s0 s sm q i) (hn : HO q ≤ i ∨ ∀ j, j < HO q → ¬ s.2.2.2.2.1 (q * 6 + j) = 0) : RI nq HO LP LF LS LC tm s0 s sm (q + 1) 0 := by
  obtain ⟨L, h1, h2, h4⟩ := h
  refine ⟨L, h1, h2, fun x hx hxe => ?_⟩
  rcases Nat.lt_or_ge x.1 q with h5 | h5
  · exact h4 x (Or.inl h5) hxe
  · have h6 : x.1 = q := by omega
    obtain ⟨b1, b2, b3, b4⟩ := hxe
    rw [h6] at b2 b3
    rcases hn with hn | hn
    · refine h4 x (Or.inr ⟨h6, by omega⟩) ⟨b1, by rw [h6]; exact b2, by rw [h6]; exact b3, b4⟩
    · exact hn x.2 b2 b3
theorem RI_end (h : RI nq HO LP LF LS LC tm s0 s sm q 0) (hq : nq ≤ q) : RA nq HO LP LF LS LC tm s0 s sm := by
  obtain ⟨L, h1, h2, h4⟩ := h
  exact ⟨L, h1, h2, fun x hx => h4 x (Or.inl (Nat.lt_of_lt_of_le hx.1 hq)) hx⟩
theorem RI_HOK (hHO : ∀ q, HO q ≤ 6) (h : RI nq HO LP LF LS LC tm s0 s sm q i) (h0 : HOK nq HO s0.2.2.2.2.1 s0.2.2.2.2.2.1 s0.2.2.2.2.2.2) : HOK nq HO s.2.2.2.2.1 s.2.2.2.2.2.1 s.2.2.2.2.2.2 := by
  obtain ⟨L, h1, -⟩ := h
  exact Rn_inv (fun s : CR => HOK nq HO s.2.2.2.2.1 s.2.2.2.2.2.1 s.2.2.2.2.2.2) (fun s x hs hx => HOK_step hHO hs (by decide) hx.1 hx.2.1 hx.2.2.1) h1 h0
end RROWS
-- the reference's locks: sides, locked, low, high, states, locks that are, kept, who knows
abbrev MK : Type := (Nat → Int32) × (Nat → Int32) × (Nat → Int32) × (Nat → Int32) × (Nat → Nat) × (Nat → Int32) × (Nat → Int32) × (Nat → Nat)
def mkSt (EP PB1 PB2 : Nat → Nat) (PB3 : Nat → Int32) (s : MK) (x : Nat × Nat) : MK := (addS s.1 (2 * PB1 (8 * x.1 + x.2) + 1 - PB2 (8 * x.1 + x.2)) (PB3 (8 * x.1 + x.2)), subS s.2.1 (2 * PB1 (8 * x.1 + x.2) + PB2 (8 * x.1 + x.2)) (PB3 (8 * x.1 + x.2)), upd s.2.2.1 (PB1 (8 * x.1 + x.2)) 0, upd s.2.2.2.1 (PB1 (8 * x.1 + x.2)) (gsum (addS s.1 (2 * PB1 (8 * x.1 + x.2) + 1 - PB2 (8 * x.1 + x.2)) (PB3 (8 * x.1 + x.2))) (PB1 (8 * x.1 + x.2))), upN s.2.2.2.2.1 (PB1 (8 * x.1 + x.2)) (inc64 (s.2.2.2.2.1 (PB1 (8 * x.1 + x.2)))), upd s.2.2.2.2.2.1 (8 * x.1 + x.2) 0, addS s.2.2.2.2.2.2.1 x.1 1, upN s.2.2.2.2.2.2.2 x.1 (bset (s.2.2.2.2.2.2.2 x.1) (EP (2 * PB1 (8 * x.1 + x.2) + PB2 (8 * x.1 + x.2)))))
def mkEn (nq : Nat) (EP HO PB1 PB2 : Nat → Nat) (PB4 FA : Nat → Int32) (tm : Int32) (s : MK) (x : Nat × Nat) : Prop := x.1 < nq ∧ x.2 < HO x.1 ∧ ¬ s.2.2.2.2.2.1 (8 * x.1 + x.2) = 0 ∧ s.2.2.2.2.2.2.2 x.1 / 2 ^ EP (2 * PB1 (8 * x.1 + x.2) + 1 - PB2 (8 * x.1 + x.2)) % 2 = 1 ∧ FA (EP (2 * PB1 (8 * x.1 + x.2) + 1 - PB2 (8 * x.1 + x.2))) = 0 ∧ tm < PB4 (8 * x.1 + x.2)
def MA (nq : Nat) (EP HO PB1 PB2 : Nat → Nat) (PB3 PB4 FA : Nat → Int32) (tm : Int32) (s0 s : MK) (sm : Int32) : Prop := ∃ L : List (Nat × Nat), Rn (mkEn nq EP HO PB1 PB2 PB4 FA tm) (mkSt EP PB1 PB2 PB3) s0 L s ∧ sm = nI L.length ∧ (∀ x : Nat × Nat, ¬ mkEn nq EP HO PB1 PB2 PB4 FA tm s x)
/-- a pass under way: k and above of q are looked at -/
def MI (nq : Nat) (EP HO PB1 PB2 : Nat → Nat) (PB3 PB4 FA : Nat → Int32) (tm : Int32) (s0 s : MK) (sm mo : Int32) (q k : Nat) : Prop := ∃ L : List (Nat × Nat), Rn (mkEn nq EP HO PB1 PB2 PB4 FA tm) (mkSt EP PB1 PB2 PB3) s0 L s ∧ sm = nI L.length ∧ (mo = 0 → ∀ x : Nat × Nat, (x.1 < q ∨ (x.1 = q ∧ k ≤ x.2)) → ¬ mkEn nq EP HO PB1 PB2 PB4 FA tm s x)
section MROWS
variable {nq : Nat} {EP HO PB1 PB2 : Nat → Nat} {PB3 PB4 FA : Nat → Int32} {tm : Int32} {s0 s : MK} {sm mo : Int32} {q k : Nat}
theorem MI_0 : MI nq EP HO PB1 PB2 PB3 PB4 FA tm s0 s0 0 1 0 0 := ⟨[], rfl, nI_0.symm, fun h => absurd h (by decide)⟩
theorem MI_begin (h : MI nq EP HO PB1 PB2 PB3 PB4 FA tm s0 s sm mo q k) (hHO : ∀ q, HO q ≤ 8) : MI nq EP HO PB1 PB2 PB3 PB4 FA tm s0 s sm 0 0 (HO 0) := by
  obtain ⟨L, h1, h2, h4⟩ := h
  refine ⟨L, h1, h2, fun _ x hx he => ?_⟩
  have := he.2.1
  rcases hx with h5 | ⟨h5, h6⟩
  · omega
  · rw [h5] at this
    omega
theorem MI_skip (h : MI nq EP HO PB1 PB2 PB3 PB4 FA tm s0 s sm mo q (k + 1)) (hn : ¬ mkEn nq EP HO PB1 PB2 PB4 FA tm s (q, k)) : MI nq EP HO PB1 PB2 PB3 PB4 FA tm s0 s sm mo q k := by
  obtain ⟨L, h1, h2, h4⟩ := h
  refine ⟨L, h1, h2, fun hm x hx => ?_⟩
  by_cases e2 : x = (q, k)
  · rw [e2]
    exact hn
  · refine h4 hm x ?_
    rcases hx with h | ⟨h, h5⟩
    · exact Or.inl h
    · refine Or.inr ⟨h, ?_⟩
      have : ¬ x.2 = k := fun q2 => e2 (by rw [← h, ← q2])
      omega
theorem MI_keep (h : MI nq EP HO PB1 PB2 PB3 PB4 FA tm s0 s sm mo q (k + 1)) (he : mkEn nq EP HO PB1 PB2 PB4 FA tm s (q, k)) : MI nq EP HO PB1 PB2 PB3 PB4 FA tm s0 (mkSt EP PB1 PB2 PB3 s (q, k)) (sm + 1) 1 q k := by
  obtain ⟨L, h1, h2, h4⟩ := h
  refine ⟨L ++ [(q, k)], Rn_snoc h1 he, ?_, fun hm => absurd hm (by decide)⟩
  rw [h2, nI_1, List.length_append]
  rfl
theorem MI_next (h : MI nq EP HO PB1 PB2 PB3 PB4 FA tm s0 s sm mo q 0) : MI nq EP HO PB1 PB2 PB3 PB4 FA tm s0 s sm mo (q + 1) (HO (q + 1)) := by
  obtain ⟨L, h1, h2, h4⟩ := h
  refine ⟨L, h1, h2, fun hm x hx he => ?_⟩
  rcases hx with h5 | ⟨h5, h6⟩
  · exact h4 hm x (by omega) he
  · have := he.2.1
    rw [h5] at this
    omega
theorem MI_end (h : MI nq EP HO PB1 PB2 PB3 PB4 FA tm s0 s sm mo q k) (hq : nq ≤ q) (hm : mo = 0) : MA nq EP HO PB1 PB2 PB3 PB4 FA tm s0 s sm := by
  obtain ⟨L, h1, h2, h4⟩ := h
  exact ⟨L, h1, h2, fun x hx => h4 hm x (Or.inl (Nat.lt_of_lt_of_le hx.1 hq)) hx⟩
end MROWS
-- the reference's locks that run out: sides, locked, low, high, locks that are, broken
abbrev MO : Type := (Nat → Int32) × (Nat → Int32) × (Nat → Int32) × (Nat → Int32) × (Nat → Int32) × (Nat → Int32)
def moSt (PB1 PB2 : Nat → Nat) (PB3 : Nat → Int32) (s : MO) (x : Nat × Nat) : MO := (addS s.1 (2 * PB1 (8 * x.1 + x.2) + PB2 (8 * x.1 + x.2)) (PB3 (8 * x.1 + x.2)), subS s.2.1 (2 * PB1 (8 * x.1 + x.2) + PB2 (8 * x.1 + x.2)) (PB3 (8 * x.1 + x.2)), upd s.2.2.1 (PB1 (8 * x.1 + x.2)) 0, upd s.2.2.2.1 (PB1 (8 * x.1 + x.2)) (gsum (addS s.1 (2 * PB1 (8 * x.1 + x.2) + PB2 (8 * x.1 + x.2)) (PB3 (8 * x.1 + x.2))) (PB1 (8 * x.1 + x.2))), upd s.2.2.2.2.1 (8 * x.1 + x.2) 0, addS s.2.2.2.2.2 x.1 1)
def moEn (nq : Nat) (HO : Nat → Nat) (PB4 : Nat → Int32) (tm : Int32) (s : MO) (x : Nat × Nat) : Prop := x.1 < nq ∧ x.2 < HO x.1 ∧ ¬ s.2.2.2.2.1 (8 * x.1 + x.2) = 0 ∧ PB4 (8 * x.1 + x.2) ≤ tm
def OI (nq : Nat) (HO PB1 PB2 : Nat → Nat) (PB3 PB4 : Nat → Int32) (tm : Int32) (s0 s : MO) (sm0 sm : Int32) (q i : Nat) : Prop := ∃ L : List (Nat × Nat), Rn (moEn nq HO PB4 tm) (moSt PB1 PB2 PB3) s0 L s ∧ sm = sm0 + nI L.length ∧ (∀ x : Nat × Nat, (x.1 < q ∨ (x.1 = q ∧ x.2 < i)) → ¬ moEn nq HO PB4 tm s x)
def OA (nq : Nat) (HO PB1 PB2 : Nat → Nat) (PB3 PB4 : Nat → Int32) (tm : Int32) (s0 s : MO) (sm0 sm : Int32) : Prop := ∃ L : List (Nat × Nat), Rn (moEn nq HO PB4 tm) (moSt PB1 PB2 PB3) s0 L s ∧ sm = sm0 + nI L.length ∧ (∀ x : Nat × Nat, ¬ moEn nq HO PB4 tm s x)
section OROWS
variable {nq : Nat} {HO PB1 PB2 : Nat → Nat} {PB3 PB4 : Nat → Int32} {tm : Int32} {s0 s : MO} {sm0 sm : Int32} {q i : Nat}
theorem OI_0 : OI nq HO PB1 PB2 PB3 PB4 tm s0 s0 sm0 sm0 0 0 := ⟨[], rfl, by rw [show nI ([] : List (Nat × Nat)).length = 0 from nI_0, Int32.add_zero], fun x h => by omega⟩
theorem OI_skip (h : OI nq HO PB1 PB2 PB3 PB4 tm s0 s sm0 sm q i) (hn : ¬ moEn nq HO PB4 tm s (q, i)) : OI nq HO PB1 PB2 PB3 PB4 tm s0 s sm0 sm q (i + 1) := by
  obtain ⟨L, h1, h2, h4⟩ := h
  refine ⟨L, h1, h2, fun x hx => ?_⟩
  by_cases e2 : x = (q, i)
  · rw [e2]
    exact hn
  · refine h4 x ?_
    rcases hx with h | ⟨h, h5⟩
    · exact Or.inl h
    · refine Or.inr ⟨h, ?_⟩
      have : ¬ x.2 = i := fun q2 => e2 (by rw [← h, ← q2])
      omega
theorem OI_out (hHO : ∀ q, HO q ≤ 8) (h : OI nq HO PB1 PB2 PB3 PB4 tm s0 s sm0 sm q i) (he : moEn nq HO PB4 tm s (q, i)) : OI nq HO PB1 PB2 PB3 PB4 tm s0 (moSt PB1 PB2 PB3 s (q, i)) sm0 (sm + 1) q (i + 1) := by
  obtain ⟨L, h1, h2, h4⟩ := h
  refine ⟨L ++ [(q, i)], Rn_snoc h1 he, ?_, fun x hx hxe => ?_⟩
  · rw [h2, Int32.add_assoc, nI_1, List.length_append]
    rfl
  · obtain ⟨b1, b2, b3, b4⟩ := hxe
    have b3 : ¬ upd s.2.2.2.2.1 (8 * q + i) 0 (8 * x.1 + x.2) = 0 := b3
    by_cases e : 8 * x.1 + x.2 = 8 * q + i
    · rw [e, pk_us] at b3
      exact b3 rfl
    · rw [pk_un e] at b3
      refine h4 x ?_ ⟨b1, b2, b3, b4⟩
      have := hHO x.1
      rcases hx with h | ⟨h, h5⟩
      · exact Or.inl h
      · refine Or.inr ⟨h, ?_⟩
        rw [h] at e
        omega
theorem OI_next (h : OI nq HO PB1 PB2 PB3 PB4 tm s0 s sm0 sm q i) (hn : HO q ≤ i) : OI nq HO PB1 PB2 PB3 PB4 tm s0 s sm0 sm (q + 1) 0 := by
  obtain ⟨L, h1, h2, h4⟩ := h
  refine ⟨L, h1, h2, fun x hx hxe => ?_⟩
  have h5 := hxe.2.1
  rcases Nat.lt_or_ge x.1 q with h6 | h6
  · exact h4 x (Or.inl h6) hxe
  · have h7 : x.1 = q := by omega
    rw [h7] at h5
    exact h4 x (Or.inr ⟨h7, by omega⟩) hxe
theorem OI_end (h : OI nq HO PB1 PB2 PB3 PB4 tm s0 s sm0 sm q 0) (hq : nq ≤ q) : OA nq HO PB1 PB2 PB3 PB4 tm s0 s sm0 sm := by
  obtain ⟨L, h1, h2, h4⟩ := h
  exact ⟨L, h1, h2, fun x hx => h4 x (Or.inl (Nat.lt_of_lt_of_le hx.1 hq)) hx⟩
end OROWS
