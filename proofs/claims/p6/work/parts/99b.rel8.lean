-- answers alike: ways and tries
theorem way_at {kl : Nat} {KP : Nat → Nat} {mhw i : Int32} (hkl : kl ≤ 6) (h : mhw = 0 ↔ kl = 0) : gWay kl KP i = if mhw = 0 then -1 else gWay kl KP i := by
  by_cases e : mhw = 0
  · rw [if_pos e]
    unfold gWay
    by_cases e2 : isw i 0 (nI kl - 1) = 0
    · rw [if_pos e2]
    · obtain ⟨j, hj, -⟩ := isw_nI (by omega) e2
      have := h.mp e
      omega
  · rw [if_neg e]
theorem trD_fun {SI : Nat → Int32} {n : Nat} {P F : Nat → Nat} {y : Int32} {LE GR L1 G1 L2 G2 : Nat → Int32} {r1 r2 : Int32} (h1 : trD SI n P F y LE GR L1 G1 r1) (h2 : trD SI n P F y LE GR L2 G2 r2) : L1 = L2 ∧ G1 = G2 ∧ r1 = r2 := by
  rcases h1 with ⟨k, a1, a2, a3, a4, a5, a6⟩ | ⟨a2, a4, a5, a6⟩
  · rcases h2 with ⟨j, b1, b2, b3, b4, b5, b6⟩ | ⟨b2, b4, b5, b6⟩
    · have e : k = j := by
        rcases Nat.lt_trichotomy k j with e | e | e
        · exact absurd a3 (b2 k e)
        · exact e
        · exact absurd b3 (a2 j e)
      subst e
      exact ⟨a4.trans b4.symm, a5.trans b5.symm, a6.trans b6.symm⟩
    · exact absurd a3 (b2 k a1)
  · rcases h2 with ⟨j, b1, b2, b3, b4, b5, b6⟩ | ⟨b2, b4, b5, b6⟩
    · exact absurd b3 (a2 j b1)
    · exact ⟨a4.trans b4.symm, a5.trans b5.symm, a6.trans b6.symm⟩
/-- the best way's cells -/
theorem cpN_congr {n : Nat} {F F' G G' : Nat → Nat} (h : ∀ z, z < n → F z = F' z) (e : G = G') : cpN n F G = cpN n F' G' := by
  funext j
  unfold cpN
  rw [e]
  by_cases hj : j < n
  · rw [if_pos hj, if_pos hj, h j hj]
  · rw [if_neg hj, if_neg hj]
/-- no way in the one, none in the other -/
theorem way_none {EP : Nat → Nat} {PH SI FB FR : Nat → Int32} {np s d : Nat} {x : Int32} {bl : Nat} {c c0 : Int32} {P F B0 : Nat → Nat} {P0 : Nat → Nat} (h0 : ¬ bl = 0) (ho : WOK EP PH SI FB FR np s d x bl c P F) (ha : WAll EP PH SI FB FR np s d x 0 B0 np 0 c0 P0) : False := by
  obtain ⟨h1, -⟩ := ho h0
  have h3 := (h1.2.1 0 (by have := h1.1; omega)).1
  have h2 := ha bl _ h1 (fun z hz => by omega) (by have := h1.1; omega) (Nat.div_lt_of_lt_mul h3)
  exact h2.1 rfl
