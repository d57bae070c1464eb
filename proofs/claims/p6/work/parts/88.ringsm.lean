-- the reference weighs a ring
def rbS (o m : Int32) (n : Nat) (P F : Nat → Nat) (rl : Nat) (bo bm : Int32) (RP RF : Nat → Nat) : Prop := rl = 0 ∨ rLt o m n P bo bm rl RP ∨ (o = bo ∧ m = bm ∧ n = rl ∧ (∀ z, z < n → P z = RP z) ∧ F 0 < RF 0)
theorem rbs_n {o m bo bm : Int32} {n rl : Nat} {P F RP RF : Nat → Nat} (h0 : ¬ rl = 0) (h1 : o = bo → ¬ bLt m n P bm rl RP) (h2 : ¬ o < bo) (h3 : o = bo → m = bm → n = rl → (∀ z, z < n → P z = RP z) → ¬ F 0 < RF 0) : ¬ rbS o m n P F rl bo bm RP RF := by
  rintro (h | h | ⟨a, b, c, d, e⟩)
  · exact h0 h
  · rcases h with h | ⟨h, h4⟩
    · exact h2 h
    · exact h1 h h4
  · exact h3 a b c d e
theorem blt_n1 {a b : Int32} {n m : Nat} {P Q : Nat → Nat} (h : ¬ a < b) (h2 : ¬ a = b) : ¬ bLt a n P b m Q := by
  rintro (q | ⟨q, -⟩)
  · exact h q
  · exact h2 q
theorem blt_n2 {a b : Int32} {n m : Nat} {P Q : Nat → Nat} (h : a = b) (h2 : ¬ rowLt n m P Q) : ¬ bLt a n P b m Q := by
  rintro (q | ⟨-, q⟩)
  · exact nlt_ne h q
  · exact h2 q
/-- weighed one after the other -/
theorem ROI_seq {SI : Nat → Int32} {n : Nat} {P F : Nat → Nat} {b : Int32} {C1 C2 : Int32 → Prop} {rl rl1 rl' : Nat} {bo bm bo1 bm1 bo' bm' : Int32} {RP RF RP1 RF1 RP' RF' : Nat → Nat} (h : ROI SI n P F b C1 rl bo bm RP RF rl1 bo1 bm1 RP1 RF1) (h2 : ROI SI n P F b C2 rl1 bo1 bm1 RP1 RF1 rl' bo' bm' RP' RF') : ROI SI n P F b (fun m => C1 m ∨ C2 m) rl bo bm RP RF rl' bo' bm' RP' RF' := by
  obtain ⟨a1, a2, a3⟩ := h
  obtain ⟨b1, b2, b3⟩ := h2
  refine ⟨fun m hC hf => ?_, RMono_tr a2 b2, ?_⟩
  · rcases hC with hC | hC
    · obtain ⟨g1, g2⟩ := a1 m hC hf
      obtain ⟨g3, g4⟩ := b2 g1
      exact ⟨g3, g4 _ _ _ _ g2⟩
    · exact b1 m hC hf
  · rcases b3 with ⟨e1, e2, e3, e4, e5⟩ | b3
    · rw [e1, e2, e3, e4, e5]
      exact a3
    · exact Or.inr b3
section TRY
variable {SI : Nat → Int32} {n : Nat} {P F : Nat → Nat} {b u : Int32} {rl : Nat} {bo bm : Int32} {RP RF RP' RF' : Nat → Nat}
theorem tr_no (h : ¬ rFit SI n (pfx P F) b u ∨ ¬ rbS (rOff SI (pfx P F) u b n) u n P F rl bo bm RP RF) : ROI SI n P F b (fun m => m = u) rl bo bm RP RF rl bo bm RP RF := by
  refine ⟨fun m hC hf => ?_, RMono_rf, Or.inl ⟨rfl, rfl, rfl, rfl, rfl⟩⟩
  subst hC
  rcases h with h | h
  · exact absurd hf h
  · exact ⟨fun q => h (Or.inl q), fun q => h (Or.inr (Or.inl q))⟩
theorem tr_yes (h : rFit SI n (pfx P F) b u) (h2 : rbS (rOff SI (pfx P F) u b n) u n P F rl bo bm RP RF) (hn : ¬ n = 0) (h4 : ∀ z, z < n → RP' z = P z ∧ RF' z = F z) : ROI SI n P F b (fun m => m = u) rl bo bm RP RF n (rOff SI (pfx P F) u b n) u RP' RF' := by
  have self : ∀ {o m : Int32} {k : Nat} {Q : Nat → Nat}, rLt o m k Q (rOff SI (pfx P F) u b n) u n RP' → rLt o m k Q (rOff SI (pfx P F) u b n) u n P := fun q => rLt_congr (fun _ _ => rfl) (fun z hz => (h4 z hz).1) q
  refine ⟨fun m hC hf => ⟨hn, fun q => ?_⟩, fun h0 => ⟨hn, fun o m k Q hq q => ?_⟩, Or.inr ⟨rfl, h, rfl, h4⟩⟩
  · subst hC
    exact rLt_irr (self q)
  · have q := self q
    rcases h2 with h2 | h2 | ⟨e1, e2, e3, e4, -⟩
    · exact h0 h2
    · exact hq (rLt_tr q h2)
    · rw [e1, e2] at q
      subst e3
      exact hq (rLt_congr (fun _ _ => rfl) e4 q)
end TRY
def lmS (SI : Nat → Int32) (K : Nat → Nat) : Nat → Int32
  | 0 => SI (K 0)
  | i + 1 => mnI (lmS SI K i) (SI (K i))
theorem lmS_lp {SI : Nat → Int32} {K : Nat → Nat} (hS : ∀ k, 0 ≤ (SI k).toInt ∧ (SI k).toInt ≤ 200000) : ∀ n, lmS SI K (n + 1) = lpS SI K (n + 1) := by
  intro n
  induction n with
  | zero =>
    show mnI (SI (K 0)) (SI (K 0)) = mnI 200000 (SI (K 0))
    unfold mnI
    have h := (hS (K 0)).2
    by_cases e : SI (K 0) < 200000
    · rw [if_neg i32_irr, if_pos e]
    · rw [if_neg i32_irr, if_neg e]
      have h1 : ¬ (SI (K 0)).toInt < (200000 : Int32).toInt := fun q => e (Int32.lt_iff_toInt_lt.mpr q)
      have h2 : (200000 : Int32).toInt = 200000 := rfl
      exact i32_max (by omega)
  | succ n ih =>
    show mnI (lmS SI K (n + 1)) (SI (K (n + 1))) = mnI (lpS SI K (n + 1)) (SI (K (n + 1)))
    rw [ih]
/-- what has been weighed of a ring, up to the i-th pair -/
def mCd (SI : Nat → Int32) (K : Nat → Nat) (i : Nat) (m : Int32) : Prop := m = 1 ∨ ∃ q, q < i ∧ SI (oth (K q)) < SI (K q) ∧ (m = dfS SI (K q) / 2 ∨ m = (dfS SI (K q) + 1) / 2)
theorem mCd_0 {SI : Nat → Int32} {K : Nat → Nat} (m : Int32) (h : mCd SI K 0 m) : m = 1 := by
  rcases h with h | ⟨q, q1, -⟩
  · exact h
  · omega
theorem mCd_n {SI : Nat → Int32} {K : Nat → Nat} {i : Nat} (hn : ¬ SI (oth (K i)) < SI (K i)) (m : Int32) (h : mCd SI K (i + 1) m) : mCd SI K i m := by
  rcases h with h | ⟨q, q1, q2, q3⟩
  · exact Or.inl h
  · refine Or.inr ⟨q, ?_, q2, q3⟩
    by_cases e : q = i
    · rw [e] at q2
      exact absurd q2 hn
    · omega
theorem mCd_y {SI : Nat → Int32} {K : Nat → Nat} {i : Nat} (m : Int32) (h : mCd SI K (i + 1) m) : (mCd SI K i m ∨ m = dfS SI (K i) / 2) ∨ m = (dfS SI (K i) + 1) / 2 := by
  rcases h with h | ⟨q, q1, q2, q3⟩
  · exact Or.inl (Or.inl (Or.inl h))
  · by_cases e : q = i
    · subst e
      rcases q3 with q3 | q3
      · exact Or.inl (Or.inr q3)
      · exact Or.inr q3
    · exact Or.inl (Or.inl (Or.inr ⟨q, by omega, q2, q3⟩))
theorem mCd_end {SI : Nat → Int32} {K : Nat → Nat} {n : Nat} {mo : Int32} (hm : mo = lpS SI K n) (m : Int32) (h : rCandM SI n K m) : mCd SI K n m ∨ m = mo := by
  rcases h with h | h | h
  · exact Or.inl (Or.inl h)
  · exact Or.inr (by rw [h, hm])
  · exact Or.inl (Or.inr h)
theorem roff_m {SI : Nat → Int32} {P F : Nat → Nat} {i : Nat} {m b x : Int32} (hF : F i ≤ 1) (h : x = rOff SI (pfx P F) m b i) : x + (oabs (SI (2 * P i + F i) - SI (2 * P i + 1 - F i) - 2 * m) - oabs (SI (2 * P i + F i) - SI (2 * P i + 1 - F i))) = rOff SI (pfx P F) m b (i + 1) := by
  unfold rOff
  rw [← h, df_of hF]
theorem oth_p {P F : Nat → Nat} {i : Nat} (hF : F i ≤ 1) : oth (pfx P F i) = 2 * P i + 1 - F i := by
  unfold pfx
  rw [oth_code hF, side_1 hF]
