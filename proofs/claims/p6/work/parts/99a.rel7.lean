-- a ring is made: sides and what is locked
theorem isR_pairs {EP : Nat → Nat} {fr : Nat → Prop} {np n : Nat} {K : Nat → Nat} (h : isR EP fr np n K) : ∀ i j, i < j → j < n → K i / 2 ≠ K j / 2 := by
  obtain ⟨h1, h2, h3, h4, h5, h6⟩ := h
  have dist : ∀ a b, a < n → b < n → EP (K a) = EP (K b) → a = b := by
    intro a b ha hb q
    rcases Nat.lt_trichotomy a b with e | e | e
    · exact absurd q (h6 a b e hb)
    · exact e
    · exact absurd q.symm (h6 b a e ha)
  intro i j hij hj e
  rcases half_eq e with e | e
  · exact h6 i j hij hj (by rw [e])
  · have c1 := h4 i (by omega)
    rw [e, oth_oth] at c1
    have c2 := dist _ _ hj (by omega) c1
    have c3 : EP (oth (K j)) = EP (K i) := by rw [e]
    rcases Nat.lt_or_ge (j + 1) n with q | q
    · have c4 := h4 j q
      rw [c3] at c4
      have := dist _ _ (by omega) q c4
      omega
    · have c4 := h5
      rw [show n - 1 = j by omega, c3] at c4
      have := dist _ _ (by omega) (by omega) c4
      omega
section EVEN
variable {P F : Nat → Nat} {m : Int32} {s : EV4} {LK : Nat → Int32}
theorem evI_un {k : Nat} : ∀ n, (∀ z, z < n → P z ≠ k / 2) → (∀ z, z < n → F z ≤ 1) → (evI P F m s n).1 k = s.1 k := by
  intro n
  induction n with
  | zero => intro _ _; rfl
  | succ n ih =>
    intro h hF
    have h1 := h n (by omega)
    have h2 := hF n (by omega)
    show addS (addS (evI P F m s n).1 (2 * P n + F n) (-m)) (2 * P n + (1 - F n)) m k = s.1 k
    rw [addS_un (show k ≠ 2 * P n + (1 - F n) by omega), addS_un (show k ≠ 2 * P n + F n by omega)]
    exact ih (fun z hz => h z (by omega)) (fun z hz => hF z (by omega))
theorem evI_SB (hs : SB s.1 LK) (hm : 0 ≤ m.toInt) : ∀ n, (∀ i j, i < j → j < n → P i ≠ P j) → (∀ z, z < n → F z ≤ 1) → (∀ z, z < n → m.toInt ≤ (s.1 (2 * P z + F z)).toInt) → SB (evI P F m s n).1 LK := by
  intro n
  induction n with
  | zero => intro _ _ _; exact hs
  | succ n ih =>
    intro hP hF hM
    have i1 := ih (fun i j hi hj => hP i j hi (by omega)) (fun z hz => hF z (by omega)) (fun z hz => hM z (by omega))
    have h2 := hF n (by omega)
    have u := evI_un (P := P) (F := F) (m := m) (s := s) (k := 2 * P n + F n) n (fun z hz q => hP z n hz (by omega) (by omega)) (fun z hz => hF z (by omega))
    have b := SB_over i1 (p := P n) (t := F n) h2 hm (by rw [u]; exact hM n (by omega))
    have e : subS (evI P F m s n).1 (2 * P n + F n) m = addS (evI P F m s n).1 (2 * P n + F n) (-m) := by
      unfold subS addS
      rw [Int32.sub_eq_add_neg]
    rw [e] at b
    exact b
theorem evI_ST {np : Nat} (h : ∀ q, q < np → 1 ≤ s.2.1 q) : ∀ n, ∀ q, q < np → 1 ≤ (evI P F m s n).2.1 q := by
  intro n
  induction n with
  | zero => exact h
  | succ n ih =>
    intro q hq
    show 1 ≤ upN (evI P F m s n).2.1 (P n) (inc64 ((evI P F m s n).2.1 (P n))) q
    unfold upN
    split
    · exact inc64_1 _
    · exact ih q hq
theorem evI_congr {P' F' : Nat → Nat} : ∀ n, (∀ z, z < n → P z = P' z ∧ F z = F' z) → evI P F m s n = evI P' F' m s n := by
  intro n
  induction n with
  | zero => intro _; rfl
  | succ n ih =>
    intro h
    show evS (P n) (F n) m (evI P F m s n) = evS (P' n) (F' n) m (evI P' F' m s n)
    rw [ih (fun z hz => h z (by omega)), (h n (by omega)).1, (h n (by omega)).2]
end EVEN
