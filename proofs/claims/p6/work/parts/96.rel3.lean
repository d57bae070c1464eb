-- a way is locked: from the one end or from the other
def itS (A : Nat → Nat) (C : Nat → Int32) (s : LK4) : Nat → LK4
  | 0 => s
  | i + 1 => lkS (A i) (C i) (itS A C s i)
theorem mlS_lkS (k : Nat) (v : Int32) (s : LK4) : mlS k v s = lkS k v s := by
  have e : subS s.1 k v = addS s.1 k (-v) := by
    unfold subS addS
    rw [Int32.sub_eq_add_neg]
  unfold mlS lkS
  rw [e]
theorem mlI_it {P F : Nat → Nat} {C : Nat → Int32} {s : LK4} : ∀ n, mlI P F C s n = itS (fun z => 2 * P z + F z) C s n := by
  intro n
  induction n with
  | zero => rfl
  | succ n ih =>
    show mlS (2 * P n + F n) (C n) (mlI P F C s n) = lkS (2 * P n + F n) (C n) (itS (fun z => 2 * P z + F z) C s n)
    rw [ih, mlS_lkS]
theorem lkI_it {EP : Nat → Nat} {FB FR : Nat → Int32} {B : Nat → Nat} {x : Int32} {s : LK4} : ∀ n, lkI EP FB FR B x s n = itS B (fun z => cwf EP FB FR B x z) s n := by
  intro n
  induction n with
  | zero => rfl
  | succ n ih =>
    show lkS (B n) (cwf EP FB FR B x n) (lkI EP FB FR B x s n) = lkS (B n) (cwf EP FB FR B x n) (itS B (fun z => cwf EP FB FR B x z) s n)
    rw [ih]
theorem lkS_comm {a b : Nat} {u v : Int32} {s : LK4} (h : a / 2 ≠ b / 2) : lkS a u (lkS b v s) = lkS b v (lkS a u s) := by
  obtain ⟨S, K, L, G⟩ := s
  have e1 : addS (addS S b (-v)) a (-u) = addS (addS S a (-u)) b (-v) := addS_comm _ _ _ _ _
  have g1 : gsum (addS (addS S b (-v)) a (-u)) (a / 2) = gsum (addS S a (-u)) (a / 2) := by
    rw [e1]
    unfold gsum
    rw [addS_un (F := addS S a (-u)) (show 2 * (a / 2) ≠ b by omega), addS_un (F := addS S a (-u)) (show 2 * (a / 2) + 1 ≠ b by omega)]
  have g2 : gsum (addS (addS S a (-u)) b (-v)) (b / 2) = gsum (addS S b (-v)) (b / 2) := by
    rw [← e1]
    unfold gsum
    rw [addS_un (F := addS S b (-v)) (show 2 * (b / 2) ≠ a by omega), addS_un (F := addS S b (-v)) (show 2 * (b / 2) + 1 ≠ a by omega)]
  show (addS (addS S b (-v)) a (-u), addS (addS K b v) a u, upd (upd L (b / 2) 0) (a / 2) 0, upd (upd G (b / 2) (gsum (addS S b (-v)) (b / 2))) (a / 2) (gsum (addS (addS S b (-v)) a (-u)) (a / 2))) = (addS (addS S a (-u)) b (-v), addS (addS K a u) b v, upd (upd L (a / 2) 0) (b / 2) 0, upd (upd G (a / 2) (gsum (addS S a (-u)) (a / 2))) (b / 2) (gsum (addS (addS S a (-u)) b (-v)) (b / 2)))
  rw [g1, g2, e1, addS_comm K b a v u]
  have c : ∀ (F : Nat → Int32) (x y : Int32), upd (upd F (b / 2) x) (a / 2) y = upd (upd F (a / 2) y) (b / 2) x := by
    intro F x y
    funext j
    by_cases e : j = a / 2
    · rw [e, pk_us, pk_un h, pk_us]
    · rw [pk_un e]
      by_cases e2 : j = b / 2
      · rw [e2, pk_us, pk_us]
      · rw [pk_un e2, pk_un e2, pk_un e]
  rw [c, c]
section ITS
variable {A : Nat → Nat} {C : Nat → Int32} {s : LK4}
theorem itS_sh : ∀ n, itS A C s (n + 1) = itS (fun z => A (z + 1)) (fun z => C (z + 1)) (lkS (A 0) (C 0) s) n := by
  intro n
  induction n with
  | zero => rfl
  | succ n ih =>
    show lkS (A (n + 1)) (C (n + 1)) (itS A C s (n + 1)) = lkS (A (n + 1)) (C (n + 1)) (itS (fun z => A (z + 1)) (fun z => C (z + 1)) (lkS (A 0) (C 0) s) n)
    rw [ih]
theorem itS_mv {a : Nat} {u : Int32} : ∀ n, (∀ z, z < n → a / 2 ≠ A z / 2) → lkS a u (itS A C s n) = itS A C (lkS a u s) n := by
  intro n
  induction n with
  | zero => intro _; rfl
  | succ n ih =>
    intro h
    show lkS a u (lkS (A n) (C n) (itS A C s n)) = lkS (A n) (C n) (itS A C (lkS a u s) n)
    rw [lkS_comm (h n (by omega)), ih (fun z hz => h z (by omega))]
theorem itS_congr {A' : Nat → Nat} {C' : Nat → Int32} : ∀ n, (∀ z, z < n → A z = A' z ∧ C z = C' z) → itS A C s n = itS A' C' s n := by
  intro n
  induction n with
  | zero => intro _; rfl
  | succ n ih =>
    intro h
    show lkS (A n) (C n) (itS A C s n) = lkS (A' n) (C' n) (itS A' C' s n)
    rw [ih (fun z hz => h z (by omega)), (h n (by omega)).1, (h n (by omega)).2]
end ITS
theorem itS_rev {A : Nat → Nat} {C : Nat → Int32} : ∀ (n : Nat) (s : LK4), (∀ i j, i < j → j < n → A i / 2 ≠ A j / 2) → itS (fun z => A (n - 1 - z)) (fun z => C (n - 1 - z)) s n = itS A C s n := by
  intro n
  induction n with
  | zero => intro s _; rfl
  | succ n ih =>
    intro s h
    rw [itS_sh]
    show itS (fun z => A (n + 1 - 1 - (z + 1))) (fun z => C (n + 1 - 1 - (z + 1))) (lkS (A n) (C n) s) n = lkS (A n) (C n) (itS A C s n)
    rw [itS_mv n (fun z hz => fun q => h z n hz (by omega) q.symm), ← ih (lkS (A n) (C n) s) (fun i j hi hj => h i j hi (by omega))]
    exact itS_congr n (fun z hz => ⟨by rw [show n + 1 - 1 - (z + 1) = n - 1 - z by omega], by rw [show n + 1 - 1 - (z + 1) = n - 1 - z by omega]⟩)
/-- the pairs of a way are apart -/
theorem isF_pairs {EP : Nat → Nat} {PH : Nat → Int32} {np s d n : Nat} {K : Nat → Nat} (h : isF EP PH np s d n K) : ∀ i j, i < j → j < n → K i / 2 ≠ K j / 2 := by
  obtain ⟨h1, h2, h3, h4, h5, h6, h7⟩ := h
  intro i j hij hj e
  rcases half_eq e with e | e
  · exact h6 i j hij hj (by rw [e])
  · -- there and back
    have c1 := h4 i (by omega)
    rw [e, oth_oth] at c1
    by_cases e2 : j = i + 1
    · subst e2
      have e3 : EP (oth (K (i + 1))) = EP (K i) := by rw [e]
      rcases Nat.lt_or_ge (i + 1 + 1) n with q | q
      · have c2 := h4 (i + 1) q
        rw [e3] at c2
        exact h6 i (i + 1 + 1) (by omega) q c2
      · have c2 := h5
        rw [show n - 1 = i + 1 by omega, e3] at c2
        exact h7 i (by omega) c2
    · exact h6 (i + 1) j (by omega) hj c1.symm
-- what is locked along a way
def psum (A : Nat → Nat) (C : Nat → Int32) (k : Nat) : Nat → Int
  | 0 => 0
  | i + 1 => psum A C k i + (if A i = k then (C i).toInt else 0)
theorem itS_un {A : Nat → Nat} {C : Nat → Int32} {s : LK4} {k : Nat} : ∀ n, (∀ z, z < n → A z ≠ k) → (itS A C s n).1 k = s.1 k ∧ (itS A C s n).2.1 k = s.2.1 k := by
  intro n
  induction n with
  | zero => intro _; exact ⟨rfl, rfl⟩
  | succ n ih =>
    intro h
    obtain ⟨i1, i2⟩ := ih (fun z hz => h z (by omega))
    have hn := h n (by omega)
    exact ⟨(addS_un (fun q => hn q.symm)).trans i1, (addS_un (fun q => hn q.symm)).trans i2⟩
theorem itS_SB {A : Nat → Nat} {C : Nat → Int32} {s : LK4} (hs : SB s.1 s.2.1) : ∀ n, (∀ i j, i < j → j < n → A i / 2 ≠ A j / 2) → (∀ z, z < n → 0 ≤ (C z).toInt ∧ (C z).toInt ≤ (s.1 (A z)).toInt) → SB (itS A C s n).1 (itS A C s n).2.1 ∧ ∀ k, ((itS A C s n).2.1 k).toInt = (s.2.1 k).toInt + psum A C k n := by
  intro n
  induction n with
  | zero => intro _ _; exact ⟨hs, fun k => by show _ = _ + (0 : Int); rw [Int.add_zero]; rfl⟩
  | succ n ih =>
    intro hd hc
    obtain ⟨i1, i2⟩ := ih (fun i j hi hj => hd i j hi (by omega)) (fun z hz => hc z (by omega))
    obtain ⟨u1, u2⟩ := itS_un (A := A) (C := C) (s := s) (k := A n) n (fun z hz q => hd z n hz (by omega) (by rw [q]))
    obtain ⟨c1, c2⟩ := hc n (by omega)
    have hk : A n = 2 * (A n / 2) + A n % 2 := by omega
    have g : (C n).toInt ≤ ((itS A C s n).1 (2 * (A n / 2) + A n % 2)).toInt := by
      rw [← hk, u1]
      exact c2
    have b1 := SB_lock i1 (p := A n / 2) (t := A n % 2) (by omega) c1 g
    rw [← hk] at b1
    have e : subS (itS A C s n).1 (A n) (C n) = addS (itS A C s n).1 (A n) (-(C n)) := by
      unfold subS addS
      rw [Int32.sub_eq_add_neg]
    rw [e] at b1
    refine ⟨b1, fun k => ?_⟩
    show (addS (itS A C s n).2.1 (A n) (C n) k).toInt = (s.2.1 k).toInt + (psum A C k n + (if A n = k then (C n).toInt else 0))
    by_cases e2 : A n = k
    · subst e2
      rw [addS_us rfl, if_pos rfl]
      have b2 := SB_K i1 (A n)
      have b3 := SB_S hs (A n)
      rw [add_toInt (by omega) (by omega) (by omega) (by omega), i2]
      omega
    · rw [addS_un (fun q => e2 q.symm), if_neg e2, i2]
      omega
