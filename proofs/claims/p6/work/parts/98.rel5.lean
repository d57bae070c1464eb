-- a new promise's locks in both
theorem isF_next {EP : Nat → Nat} {PH : Nat → Int32} {np s d n : Nat} {K : Nat → Nat} (h : isF EP PH np s d n K) {i j : Nat} (hi : i < n) (hj : j < n) : (EP (oth (K j)) = EP (K i) ↔ j + 1 = i) ∧ (EP (oth (K j)) = EP (oth (K i)) → j = i) := by
  obtain ⟨h1, h2, h3, h4, h5, h6, h7⟩ := h
  have dist : ∀ a b, a < n → b < n → EP (K a) = EP (K b) → a = b := by
    intro a b ha hb q
    rcases Nat.lt_trichotomy a b with e | e | e
    · exact absurd q (h6 a b e hb)
    · exact e
    · exact absurd q.symm (h6 b a e ha)
  have nx : ∀ a, a < n → (a + 1 < n ∧ EP (oth (K a)) = EP (K (a + 1))) ∨ (a + 1 = n ∧ EP (oth (K a)) = d) := by
    intro a ha
    rcases Nat.lt_or_ge (a + 1) n with e | e
    · exact Or.inl ⟨e, h4 a e⟩
    · refine Or.inr ⟨by omega, ?_⟩
      rw [← h5, show n - 1 = a by omega]
  refine ⟨⟨fun q => ?_, fun q => ?_⟩, fun q => ?_⟩
  · rcases nx j hj with ⟨a1, a2⟩ | ⟨a1, a2⟩
    · rw [a2] at q
      exact dist _ _ a1 hi q
    · rw [a2] at q
      exact absurd q.symm (h7 i hi)
  · subst q
    exact h4 j hi
  · rcases nx j hj with ⟨a1, a2⟩ | ⟨a1, a2⟩
    · rcases nx i hi with ⟨b1, b2⟩ | ⟨b1, b2⟩
      · rw [a2, b2] at q
        have := dist _ _ a1 b1 q
        omega
      · rw [a2, b2] at q
        exact absurd q (h7 (j + 1) a1)
    · rcases nx i hi with ⟨b1, b2⟩ | ⟨b1, b2⟩
      · rw [a2, b2] at q
        exact absurd q.symm (h7 (i + 1) b1)
      · omega
section NEWP
variable {nq n : Nat} {EP HO LP LF LP' LF' K1 K2 : Nat → Nat} {LS LC LS' LC' : Nat → Int32} {PB1 PB2 PB1' PB2' : Nat → Nat} {PB3 PB4 PB3' PB4' : Nat → Int32}
theorem LkS_new {PH : Nat → Int32} {np s d : Nat} (h : LkS nq EP HO LP LF LS LC PB1 PB2 PB3 PB4) (hHO : ∀ q, HO q ≤ 6) (h1 : 1 ≤ n) (h6 : n ≤ 6) (hE : ∀ z, EP z ≤ 6) (hw : isF EP PH np s d n (fun z => 2 * K1 z + K2 z)) (hF : ∀ z, K2 z ≤ 1) (hL : ∀ z, z < n → LP' (nq * 6 + z) = K1 z ∧ LF' (nq * 6 + z) = K2 z) (hO : ∀ l, l < nq * 6 → LP' l = LP l ∧ LF' l = LF l ∧ LS' l = LS l ∧ LC' l = LC l) (hP : ∀ z, z < n → PB1' (8 * nq + z) = LP' (nq * 6 + z) ∧ PB2' (8 * nq + z) = LF' (nq * 6 + z) ∧ PB3' (8 * nq + z) = LS' (nq * 6 + z) ∧ PB4' (8 * nq + z) = LC' (nq * 6 + z)) (hQ : ∀ l, l < 8 * nq → PB1' l = PB1 l ∧ PB2' l = PB2 l ∧ PB3' l = PB3 l ∧ PB4' l = PB4 l) : LkS (nq + 1) EP (upN HO nq n) LP' LF' LS' LC' PB1' PB2' PB3' PB4' := by
  intro q hq
  by_cases e : q = nq
  · subst e
    rw [upN_s]
    refine ⟨h1, h6, fun i hi => ?_⟩
    obtain ⟨p1, p2, p3, p4⟩ := hP i hi
    obtain ⟨l1, l2⟩ := hL i hi
    have b1 := hE (2 * LP' (q * 6 + i) + (1 - LF' (q * 6 + i)))
    have b2 := hE (2 * LP' (q * 6 + i) + LF' (q * 6 + i))
    refine ⟨p1, p2, p3, p4, by rw [l2]; exact hF i, by omega, by omega, fun j hj => ?_⟩
    obtain ⟨m1, m2⟩ := hL j hj
    rw [l1, l2, m1, m2, ← oth_code (hF i), ← oth_code (hF j)]
    exact isF_next hw hi hj
  · have hq' : q < nq := by omega
    obtain ⟨s1, s2, s3⟩ := h q hq'
    rw [upN_n e]
    refine ⟨s1, s2, fun i hi => ?_⟩
    obtain ⟨t1, t2, t3, t4, t5, t6, t7, t8⟩ := s3 i hi
    have h9 := hHO q
    obtain ⟨o1, o2, o3, o4⟩ := hO (q * 6 + i) (by omega)
    obtain ⟨q1, q2, q3, q4⟩ := hQ (8 * q + i) (by omega)
    rw [o1, o2, o3, o4, q1, q2, q3, q4]
    refine ⟨t1, t2, t3, t4, t5, t6, t7, fun j hj => ?_⟩
    obtain ⟨r1, r2, -, -⟩ := hO (q * 6 + j) (by omega)
    rw [r1, r2]
    exact t8 j hj
theorem LkD_new {TO LH LH' PB5 PB5' : Nat → Int32} {KN : Nat → Nat} (h : LkD nq EP HO LP LF TO LH PB5 KN) (hHO : ∀ q, HO q ≤ 6) (h6 : n ≤ 6) (hO : ∀ l, l < nq * 6 → LP' l = LP l ∧ LF' l = LF l ∧ LH' l = LH l) (hL : ∀ z, z < n → LH' (nq * 6 + z) = 0) (hP : ∀ z, z < n → PB5' (8 * nq + z) = 1) (hQ : ∀ l, l < 8 * nq → PB5' l = PB5 l) : LkD (nq + 1) EP (upN HO nq n) LP' LF' (upd TO nq 0) LH' PB5' (upN KN nq 0) := by
  intro q hq
  by_cases e : q = nq
  · subst e
    rw [upN_s, upN_s]
    refine ⟨by omega, fun i hi => ⟨?_, ?_⟩⟩
    · rw [hP i hi, hL i hi]
      exact ⟨fun _ => rfl, fun _ => by decide⟩
    · rw [Nat.zero_div]
      refine ⟨fun z => absurd z (by decide), fun z => ?_⟩
      unfold wKn at z
      rw [upN_s] at z
      by_cases e2 : i + 1 = n
      · rw [if_pos e2, pk_us] at z
        exact absurd rfl z
      · rw [if_neg e2, show q * 6 + i + 1 = q * 6 + (i + 1) by omega, hL (i + 1) (by omega)] at z
        exact absurd z (by decide)
  · have hq' : q < nq := by omega
    obtain ⟨d1, d2⟩ := h q hq'
    rw [upN_n e, upN_n e]
    refine ⟨d1, fun i hi => ?_⟩
    have h9 := hHO q
    obtain ⟨o1, o2, o3⟩ := hO (q * 6 + i) (by omega)
    obtain ⟨k1, k2⟩ := d2 i hi
    rw [o1, o2, o3, hQ (8 * q + i) (by omega)]
    refine ⟨k1, ?_⟩
    rw [k2]
    unfold wKn
    rw [upN_n e, pk_un e]
    by_cases e2 : i + 1 = HO q
    · rw [if_pos e2, if_pos e2]
    · rw [if_neg e2, if_neg e2, (hO (q * 6 + i + 1) (by omega)).2.2]
end NEWP
