-- rings
def oabs (x : Int32) : Int32 := if 0 ≤ x then x else 0 - x
def mxI (a b : Int32) : Int32 := if a < b then b else a
def mnI (a b : Int32) : Int32 := if b < a then b else a
def dfS (SI : Nat → Int32) (k : Nat) : Int32 := SI k - SI (oth k)
def rOff (SI : Nat → Int32) (K : Nat → Nat) (m b : Int32) : Nat → Int32
  | 0 => b
  | i + 1 => rOff SI K m b i + (oabs (dfS SI (K i) - 2 * m) - oabs (dfS SI (K i)))
def lpS (SI : Nat → Int32) (K : Nat → Nat) : Nat → Int32
  | 0 => 200000
  | i + 1 => mnI (lpS SI K i) (SI (K i))
def isR (EP : Nat → Nat) (fr : Nat → Prop) (np n : Nat) (K : Nat → Nat) : Prop := 3 ≤ n ∧ (∀ z, z < n → K z < 2 * np ∧ fr (K z / 2)) ∧ (∀ z, 0 < z → z < n → K 0 / 2 < K z / 2) ∧ (∀ z, z + 1 < n → EP (oth (K z)) = EP (K (z + 1))) ∧ EP (oth (K (n - 1))) = EP (K 0) ∧ (∀ i j, i < j → j < n → EP (K i) ≠ EP (K j))
def rLt (o m : Int32) (n : Nat) (P : Nat → Nat) (o' m' : Int32) (n' : Nat) (P' : Nat → Nat) : Prop := o < o' ∨ (o = o' ∧ bLt m n P m' n' P')
/-- with m the ring is one that leaves less off -/
def rFit (SI : Nat → Int32) (n : Nat) (K : Nat → Nat) (b m : Int32) : Prop := 1 ≤ m ∧ (∀ z, z < n → m ≤ SI (K z)) ∧ rOff SI K m b n < b
theorem rLt_tr {o1 m1 o2 m2 o3 m3 : Int32} {a b c : Nat} {P Q R : Nat → Nat} (h : rLt o1 m1 a P o2 m2 b Q) (h2 : rLt o2 m2 b Q o3 m3 c R) : rLt o1 m1 a P o3 m3 c R := by
  rcases h with h | ⟨e, h⟩
  · rcases h2 with h2 | ⟨e2, -⟩
    · exact Or.inl (i32_tr h h2)
    · exact Or.inl (by rw [← e2]; exact h)
  · rcases h2 with h2 | ⟨e2, h2⟩
    · exact Or.inl (by rw [e]; exact h2)
    · exact Or.inr ⟨e.trans e2, bLt_tr h h2⟩
theorem rLt_irr {o m : Int32} {n : Nat} {P : Nat → Nat} : ¬ rLt o m n P o m n P := by
  rintro (h | ⟨-, h⟩)
  · exact i32_irr h
  · exact bLt_irr h
theorem rLt_congr {o m o' m' : Int32} {n n' : Nat} {P P2 Q Q2 : Nat → Nat} (h : ∀ z, z < n → P z = P2 z) (h2 : ∀ z, z < n' → Q z = Q2 z) (hr : rLt o m n P o' m' n' Q) : rLt o m n P2 o' m' n' Q2 := by
  rcases hr with hr | ⟨e, hr⟩
  · exact Or.inl hr
  · exact Or.inr ⟨e, bLt_congr h h2 hr⟩
theorem rLt_tri {o m o' m' : Int32} {n n' : Nat} {P P' : Nat → Nat} (h : ¬ rLt o m n P o' m' n' P') (h2 : ¬ rLt o' m' n' P' o m n P) : o = o' ∧ m = m' ∧ n = n' ∧ ∀ z, z < n → P z = P' z := by
  have e : o = o' := by
    rcases i32_tri o o' with h3 | h3 | h3
    · exact absurd (Or.inl h3) h
    · exact h3
    · exact absurd (Or.inl h3) h2
  subst e
  exact ⟨rfl, bLt_tri (fun z => h (Or.inr ⟨rfl, z⟩)) (fun z => h2 (Or.inr ⟨rfl, z⟩))⟩
theorem rOff_congr {SI : Nat → Int32} {K K' : Nat → Nat} {m b : Int32} {n : Nat} (h : ∀ z, z < n → K z = K' z) : ∀ i, i ≤ n → rOff SI K m b i = rOff SI K' m b i := by
  intro i
  induction i with
  | zero => intro _; rfl
  | succ i ih =>
    intro hi
    unfold rOff
    rw [ih (by omega), h i (by omega)]
theorem lpS_congr {SI : Nat → Int32} {K K' : Nat → Nat} {n : Nat} (h : ∀ z, z < n → K z = K' z) : ∀ i, i ≤ n → lpS SI K i = lpS SI K' i := by
  intro i
  induction i with
  | zero => intro _; rfl
  | succ i ih =>
    intro hi
    unfold lpS
    rw [ih (by omega), h i (by omega)]
theorem isR_congr {EP : Nat → Nat} {fr : Nat → Prop} {np n : Nat} {K K' : Nat → Nat} (h : ∀ z, z < n → K z = K' z) (hr : isR EP fr np n K) : isR EP fr np n K' := by
  obtain ⟨h1, h2, h3, h4, h5, h6⟩ := hr
  refine ⟨h1, fun z hz => ?_, fun z h0 hz => ?_, fun z hz => ?_, ?_, fun i j hij hj => ?_⟩
  · rw [← h z hz]
    exact h2 z hz
  · rw [← h z hz, ← h 0 (by omega)]
    exact h3 z h0 hz
  · rw [← h z (by omega), ← h (z + 1) hz]
    exact h4 z hz
  · rw [← h (n - 1) (by omega), ← h 0 (by omega)]
    exact h5
  · rw [← h i (by omega), ← h j hj]
    exact h6 i j hij hj
theorem oth_oth (k : Nat) : oth (oth k) = k := by unfold oth; omega
theorem oth_half (k : Nat) : oth k / 2 = k / 2 := by unfold oth; omega
theorem half_eq {j k : Nat} (h : j / 2 = k / 2) : j = k ∨ j = oth k := by unfold oth; omega
theorem ends_ne {EP : Nat → Nat} {np k : Nat} (hne : ∀ q, q < np → EP (2 * q) ≠ EP (2 * q + 1)) (hk : k < 2 * np) : EP k ≠ EP (oth k) := by
  have h := hne (k / 2) (by omega)
  rcases Nat.mod_two_eq_zero_or_one k with e | e
  · have e1 : k = 2 * (k / 2) := by omega
    have e2 : oth k = 2 * (k / 2) + 1 := by unfold oth; omega
    rw [e2]
    rw [← e1] at h
    rw [← e1]
    exact h
  · have e1 : k = 2 * (k / 2) + 1 := by omega
    have e2 : oth k = 2 * (k / 2) := by unfold oth; omega
    rw [e2]
    intro q
    rw [← e1] at h
    exact h q.symm
/-- rings with one row of pairs are one -/
theorem isR_row {EP : Nat → Nat} {fr : Nat → Prop} {np n : Nat} {K K' : Nat → Nat} (hne : ∀ q, q < np → EP (2 * q) ≠ EP (2 * q + 1)) (h : isR EP fr np n K) (h' : isR EP fr np n K') (hp : ∀ z, z < n → K z / 2 = K' z / 2) : ∀ z, z < n → K z = K' z := by
  obtain ⟨a1, a2, a3, a4, a5, a6⟩ := h
  obtain ⟨b1, b2, b3, b4, b5, b6⟩ := h'
  have h0 : K' 0 = K 0 := by
    rcases half_eq (hp 0 (by omega)).symm with e | e
    · exact e
    · exfalso
      have c1 := a4 0 (by omega)
      have c2 := b4 0 (by omega)
      rw [e, oth_oth] at c2
      rcases half_eq (hp (0 + 1) (by omega)).symm with e1 | e1
      · rw [e1, ← c1] at c2
        exact ends_ne hne (a2 0 (by omega)).1 c2
      · rw [e1] at c2
        have c3 := a4 (0 + 1) (by omega)
        rw [← c2] at c3
        exact a6 0 2 (by omega) (by omega) c3
  intro z
  induction z with
  | zero => intro _; exact h0.symm
  | succ z ih =>
    intro hz
    have e := ih (by omega)
    have c1 := a4 z hz
    have c2 := b4 z hz
    rw [← e, c1] at c2
    rcases half_eq (hp (z + 1) hz) with e1 | e1
    · exact e1
    · rw [e1] at c2
      exact absurd c2.symm (ends_ne hne (b2 (z + 1) hz).1)
/-- no ring is longer than seven pairs -/
theorem isR_7 {EP : Nat → Nat} {fr : Nat → Prop} {np n : Nat} {K : Nat → Nat} (hE : ∀ z, EP z ≤ 6) (h : isR EP fr np n K) : n ≤ 7 := pig 7 n (fun z => EP (K z)) (fun j _ => by have := hE (K j); show EP (K j) < 7; omega) (fun i j h1 h2 => h.2.2.2.2.2 i j h1 h2)
-- what is off, as a number
theorem i32_max {a b : Int32} (h : a.toInt = b.toInt) : a = b := Int32.toInt_inj.mp h
theorem oabs_toInt {x : Int32} (h : -1000000000 ≤ x.toInt) (h2 : x.toInt ≤ 1000000000) : (oabs x).toInt = x.toInt.natAbs := by
  unfold oabs
  by_cases e : 0 ≤ x
  · rw [if_pos e]
    have := Int32.le_iff_toInt_le.mp e
    rw [Int32.toInt_zero] at this
    omega
  · rw [if_neg e]
    have h3 : ¬ 0 ≤ x.toInt := fun q => e (Int32.le_iff_toInt_le.mpr (by rw [Int32.toInt_zero]; exact q))
    rw [Int32.toInt_sub, Int32.toInt_zero]
    have : (0 - x.toInt).bmod (2 ^ 32) = 0 - x.toInt := by
      rw [Int.bmod_eq_of_le] <;> omega
    rw [this]
    omega
theorem sub_toInt {a b : Int32} (ha : -1000000000 ≤ a.toInt) (ha2 : a.toInt ≤ 1000000000) (hb : -1000000000 ≤ b.toInt) (hb2 : b.toInt ≤ 1000000000) : (a - b).toInt = a.toInt - b.toInt := by
  rw [Int32.toInt_sub, Int.bmod_eq_of_le] <;> omega
theorem add_toInt {a b : Int32} (ha : -1000000000 ≤ a.toInt) (ha2 : a.toInt ≤ 1000000000) (hb : -1000000000 ≤ b.toInt) (hb2 : b.toInt ≤ 1000000000) : (a + b).toInt = a.toInt + b.toInt := by
  rw [Int32.toInt_add, Int.bmod_eq_of_le] <;> omega
theorem two_toInt {m : Int32} (h : -500000000 ≤ m.toInt) (h2 : m.toInt ≤ 500000000) : (2 * m).toInt = 2 * m.toInt := by
  rw [Int32.toInt_mul, show (2 : Int32).toInt = 2 from rfl, Int.bmod_eq_of_le] <;> omega
/-- the sum of the sizes, as a number -/
def gInt (d : Nat → Int) (m : Int) : Nat → Int
  | 0 => 0
  | i + 1 => gInt d m i + ((d i - 2 * m).natAbs : Int)
theorem rOff_toInt {SI : Nat → Int32} {K : Nat → Nat} {m b : Int32} (hS : ∀ k, 0 ≤ (SI k).toInt ∧ (SI k).toInt ≤ 200000) (hm : 0 ≤ m.toInt) (hm2 : m.toInt ≤ 200000) (hb : 0 ≤ b.toInt) (hb2 : b.toInt ≤ 10000000) : ∀ n, n ≤ 7 → (rOff SI K m b n).toInt = b.toInt + gInt (fun i => (SI (K i)).toInt - (SI (oth (K i))).toInt) m.toInt n - gInt (fun i => (SI (K i)).toInt - (SI (oth (K i))).toInt) 0 n ∧ (rOff SI K m b n).toInt ≤ b.toInt + 1000000 * n ∧ b.toInt - 1000000 * n ≤ (rOff SI K m b n).toInt := by
  intro n
  induction n with
  | zero => intro _; unfold rOff gInt; omega
  | succ n ih =>
    intro hn
    obtain ⟨h1, h2, h3⟩ := ih (by omega)
    have s1 := hS (K n)
    have s2 := hS (oth (K n))
    have d1 : (dfS SI (K n)).toInt = (SI (K n)).toInt - (SI (oth (K n))).toInt := by
      unfold dfS
      exact sub_toInt (by omega) (by omega) (by omega) (by omega)
    have d2 : (2 * m).toInt = 2 * m.toInt := two_toInt (by omega) (by omega)
    have d3 : (dfS SI (K n) - 2 * m).toInt = (SI (K n)).toInt - (SI (oth (K n))).toInt - 2 * m.toInt := by
      rw [sub_toInt (by omega) (by omega) (by omega) (by omega), d1, d2]
    have d4 := oabs_toInt (x := dfS SI (K n) - 2 * m) (by omega) (by omega)
    have d5 := oabs_toInt (x := dfS SI (K n)) (by omega) (by omega)
    have d6 : (oabs (dfS SI (K n) - 2 * m) - oabs (dfS SI (K n))).toInt = (oabs (dfS SI (K n) - 2 * m)).toInt - (oabs (dfS SI (K n))).toInt := sub_toInt (by omega) (by omega) (by omega) (by omega)
    unfold rOff gInt
    rw [add_toInt (by omega) (by omega) (by omega) (by omega), d6, d4, d5, d3, d1, h1]
    simp only [Int.mul_zero, Int.sub_zero]
    refine ⟨by omega, by omega, by omega⟩
theorem gInt_mid {d : Nat → Int} {m : Int} : ∀ n, (∀ i, i < n → d i ≠ 2 * m - 1 ∧ d i ≠ 2 * m ∧ d i ≠ 2 * m + 1) → gInt d (m - 1) n + gInt d (m + 1) n = 2 * gInt d m n := by
  intro n
  induction n with
  | zero => intro _; rfl
  | succ n ih =>
    intro h
    have h1 := ih (fun i hi => h i (by omega))
    obtain ⟨a, b, c⟩ := h n (by omega)
    unfold gInt
    omega
/-- a least place where the sum is least -/
theorem g_least (f : Nat → Int) : ∀ M, 1 ≤ M → ∃ m, 1 ≤ m ∧ m ≤ M ∧ ∀ k, 1 ≤ k → k ≤ M → f m < f k ∨ (f m = f k ∧ m ≤ k) := by
  intro M
  induction M with
  | zero => intro h; omega
  | succ M ih =>
    intro _
    rcases Nat.eq_zero_or_pos M with h0 | h0
    · subst h0
      exact ⟨1, by omega, by omega, fun k h1 h2 => Or.inr ⟨by rw [show k = 1 by omega], h1⟩⟩
    · obtain ⟨m, m1, m2, m3⟩ := ih h0
      by_cases e : f (M + 1) < f m
      · refine ⟨M + 1, by omega, by omega, fun k h1 h2 => ?_⟩
        by_cases e2 : k = M + 1
        · subst e2
          exact Or.inr ⟨rfl, Nat.le_refl _⟩
        · rcases m3 k h1 (by omega) with h | ⟨h, -⟩ <;> exact Or.inl (by omega)
      · refine ⟨m, m1, by omega, fun k h1 h2 => ?_⟩
        by_cases e2 : k = M + 1
        · subst e2
          rcases Int.lt_or_eq_of_le (Int.not_lt.mp e) with h | h
          · exact Or.inl h
          · exact Or.inr ⟨h, by omega⟩
        · exact m3 k h1 (by omega)
/-- where it is least and not at the end, a difference is near -/
theorem g_near {d : Nat → Int} {n M m : Nat} (h1 : 1 ≤ m) (h2 : m ≤ M) (hl : ∀ k : Nat, 1 ≤ k → k ≤ M → gInt d m n < gInt d k n ∨ (gInt d m n = gInt d k n ∧ m ≤ k)) (h0 : gInt d m n < gInt d 0 n) : m = M ∨ ∃ i, i < n ∧ (d i = 2 * m - 1 ∨ d i = 2 * m ∨ d i = 2 * m + 1) := by
  by_cases e : m = M
  · exact Or.inl e
  · refine Or.inr ?_
    apply Classical.byContradiction
    intro hn
    have hm := gInt_mid (d := d) (m := (m : Int)) n (fun i hi => by
      refine ⟨fun q => hn ⟨i, hi, Or.inl q⟩, fun q => hn ⟨i, hi, Or.inr (Or.inl q)⟩, fun q => hn ⟨i, hi, Or.inr (Or.inr q)⟩⟩)
    have a1 := hl (m + 1) (by omega) (by omega)
    rw [show ((m + 1 : Nat) : Int) = (m : Int) + 1 by omega] at a1
    by_cases e1 : m = 1
    · subst e1
      rw [show (((1 : Nat) : Int)) - 1 = 0 by omega] at hm
      omega
    · have a2 := hl (m - 1) (by omega) (by omega)
      rw [show ((m - 1 : Nat) : Int) = (m : Int) - 1 by omega] at a2
      omega
theorem lpS_le {SI : Nat → Int32} {K : Nat → Nat} : ∀ n z, z < n → (lpS SI K n).toInt ≤ (SI (K z)).toInt := by
  intro n
  induction n with
  | zero => intro z h; omega
  | succ n ih =>
    intro z hz
    unfold lpS mnI
    split
    · rename_i h
      have h := Int32.lt_iff_toInt_lt.mp h
      by_cases e : z = n
      · rw [e]
        exact Int.le_refl _
      · have := ih z (by omega)
        omega
    · rename_i h
      by_cases e : z = n
      · rw [e]
        have h : ¬ (SI (K n)).toInt < (lpS SI K n).toInt := fun q => h (Int32.lt_iff_toInt_lt.mpr q)
        omega
      · exact ih z (by omega)
theorem lpS_is {SI : Nat → Int32} {K : Nat → Nat} (hS : ∀ k, (SI k).toInt ≤ 200000) : ∀ n, lpS SI K n = 200000 ∨ ∃ z, z < n ∧ lpS SI K n = SI (K z) := by
  intro n
  induction n with
  | zero => exact Or.inl rfl
  | succ n ih =>
    unfold lpS mnI
    split
    · exact Or.inr ⟨n, by omega, rfl⟩
    · rcases ih with h | ⟨z, z1, z2⟩
      · exact Or.inl h
      · exact Or.inr ⟨z, by omega, z2⟩
theorem lpS_min {SI : Nat → Int32} {K : Nat → Nat} (hS : ∀ k, (SI k).toInt ≤ 200000) {n : Nat} (hn : 0 < n) : ∃ z, z < n ∧ lpS SI K n = SI (K z) := by
  rcases lpS_is (K := K) hS n with h | h
  · refine ⟨0, hn, i32_max ?_⟩
    have h1 := lpS_le (SI := SI) (K := K) n 0 hn
    have h2 := hS (K 0)
    rw [h] at h1 ⊢
    have h3 : (200000 : Int32).toInt = 200000 := rfl
    omega
  · exact h
def rCandC (SI : Nat → Int32) (n : Nat) (K : Nat → Nat) (m : Int32) : Prop := m = lpS SI K n ∨ ∃ i, i < n ∧ (m = dfS SI (K i) / 2 ∨ m = dfS SI (K i) - dfS SI (K i) / 2)
def rCandM (SI : Nat → Int32) (n : Nat) (K : Nat → Nat) (m : Int32) : Prop := m = 1 ∨ m = lpS SI K n ∨ ∃ i, i < n ∧ SI (oth (K i)) < SI (K i) ∧ (m = dfS SI (K i) / 2 ∨ m = (dfS SI (K i) + 1) / 2)
theorem i32_nat {a : Int32} (h : 0 ≤ a.toInt) : ∃ k : Nat, k < 2 ^ 31 ∧ a = nI k ∧ a.toInt = k := by
  have h1 : ¬ a < 0 := fun q => by
    have := Int32.lt_iff_toInt_lt.mp q
    rw [Int32.toInt_zero] at this
    omega
  obtain ⟨j, j1, j2⟩ := nI_of h1
  exact ⟨j, j1, j2, by rw [j2]; exact nI_toInt j1⟩
theorem my_l2 : (2 : Int32) = nI 2 := rfl
theorem my_l1 : (1 : Int32) = nI 1 := rfl
theorem cand_near {SI : Nat → Int32} {K : Nat → Nat} {n : Nat} {b m0 : Int32} (hS : ∀ k, 0 ≤ (SI k).toInt ∧ (SI k).toInt ≤ 200000) (hn : 0 < n) (hn7 : n ≤ 7) (hb : 0 ≤ b.toInt) (hb2 : b.toInt ≤ 10000000) (hf : rFit SI n K b m0) : ∃ m : Int32, rFit SI n K b m ∧ (rOff SI K m b n < rOff SI K m0 b n ∨ (rOff SI K m b n = rOff SI K m0 b n ∧ (m < m0 ∨ m = m0))) ∧ (m = lpS SI K n ∨ ∃ i, i < n ∧ ∃ k : Nat, 1 ≤ k ∧ k ≤ 200000 ∧ m = nI k ∧ (dfS SI (K i) = nI (2 * k - 1) ∨ dfS SI (K i) = nI (2 * k) ∨ dfS SI (K i) = nI (2 * k + 1))) := by
  obtain ⟨f1, f2, f3⟩ := hf
  have f1' := Int32.le_iff_toInt_le.mp f1
  rw [show (1 : Int32).toInt = 1 from rfl] at f1'
  obtain ⟨zM, zM1, zM2⟩ := lpS_min (K := K) (fun k => (hS k).2) hn
  have hM := hS (K zM)
  obtain ⟨M, M1, M2, M3⟩ := i32_nat (a := lpS SI K n) (by rw [zM2]; exact hM.1)
  obtain ⟨k0, k01, k02, k03⟩ := i32_nat (a := m0) (by omega)
  have hk0 : (k0 : Int) ≤ M := by
    have := Int32.le_iff_toInt_le.mp (f2 zM zM1)
    rw [← zM2] at this
    omega
  have hM2 : M ≤ 200000 := by rw [zM2] at M3; omega
  -- the sums as numbers
  have hr : ∀ k : Nat, k ≤ M → (rOff SI K (nI k) b n).toInt = b.toInt + gInt (fun i => (SI (K i)).toInt - (SI (oth (K i))).toInt) k n - gInt (fun i => (SI (K i)).toInt - (SI (oth (K i))).toInt) 0 n := by
    intro k hk
    have hkt : (nI k).toInt = k := nI_toInt (by omega)
    have := (rOff_toInt (K := K) (m := nI k) hS (by omega) (by omega) hb hb2 n hn7).1
    rw [hkt] at this
    exact this
  obtain ⟨m, m1, m2, m3⟩ := g_least (fun k => gInt (fun i => (SI (K i)).toInt - (SI (oth (K i))).toInt) (k : Nat) n) M (by omega)
  have hfit : rFit SI n K b (nI m) ∧ (rOff SI K (nI m) b n < rOff SI K m0 b n ∨ (rOff SI K (nI m) b n = rOff SI K m0 b n ∧ (nI m < m0 ∨ nI m = m0))) ∧ gInt (fun i => (SI (K i)).toInt - (SI (oth (K i))).toInt) m n < gInt (fun i => (SI (K i)).toInt - (SI (oth (K i))).toInt) 0 n := by
    have a1 := hr m m2
    have a2 := hr k0 (by omega)
    rw [← k02] at a2
    have a3 := Int32.lt_iff_toInt_lt.mp f3
    have a4 := m3 k0 (by omega) (by omega)
    refine ⟨⟨?_, fun z hz => ?_, ?_⟩, ?_, ?_⟩
    · rw [Int32.le_iff_toInt_le, show (1 : Int32).toInt = 1 from rfl, nI_toInt (by omega)]
      omega
    · have := lpS_le (SI := SI) (K := K) n z hz
      rw [Int32.le_iff_toInt_le, nI_toInt (by omega)]
      omega
    · rw [Int32.lt_iff_toInt_lt]
      rcases a4 with h | ⟨h, -⟩ <;> omega
    · rcases a4 with h | ⟨h, h2⟩
      · refine Or.inl ?_
        rw [Int32.lt_iff_toInt_lt]
        omega
      · refine Or.inr ⟨i32_max (by omega), ?_⟩
        rcases Nat.lt_or_eq_of_le h2 with h3 | h3
        · refine Or.inl ?_
          rw [k02]
          exact nI_lt h3 k01
        · refine Or.inr ?_
          rw [k02, h3]
    · rcases a4 with h | ⟨h, -⟩ <;> omega
  obtain ⟨g1, g2, g3⟩ := hfit
  refine ⟨nI m, g1, g2, ?_⟩
  rcases g_near m1 m2 (fun k h1 h2 => m3 k h1 h2) g3 with h | ⟨i, i1, i2⟩
  · exact Or.inl (by rw [h, M2])
  · refine Or.inr ⟨i, i1, m, m1, by omega, rfl, ?_⟩
    have s1 := hS (K i)
    have s2 := hS (oth (K i))
    have d1 : (dfS SI (K i)).toInt = (SI (K i)).toInt - (SI (oth (K i))).toInt := by
      unfold dfS
      exact sub_toInt (by omega) (by omega) (by omega) (by omega)
    rcases i2 with h | h | h
    · exact Or.inl (i32_max (by rw [nI_toInt (by omega)]; omega))
    · exact Or.inr (Or.inl (i32_max (by rw [nI_toInt (by omega)]; omega)))
    · exact Or.inr (Or.inr (i32_max (by rw [nI_toInt (by omega)]; omega)))
/-- the class looks there -/
theorem candC_of {SI : Nat → Int32} {K : Nat → Nat} {n : Nat} {m : Int32} (h : m = lpS SI K n ∨ ∃ i, i < n ∧ ∃ k : Nat, 1 ≤ k ∧ k ≤ 200000 ∧ m = nI k ∧ (dfS SI (K i) = nI (2 * k - 1) ∨ dfS SI (K i) = nI (2 * k) ∨ dfS SI (K i) = nI (2 * k + 1))) : rCandC SI n K m := by
  rcases h with h | ⟨i, i1, k, k1, k2, k3, h⟩
  · exact Or.inl h
  · refine Or.inr ⟨i, i1, ?_⟩
    rcases h with h | h | h
    · refine Or.inr ?_
      rw [h, k3, my_l2, pk_div (by omega) (by decide) (by decide), pk_sub (by omega)]
      exact congrArg nI (by omega)
    · refine Or.inl ?_
      rw [h, k3, my_l2, pk_div (by omega) (by decide) (by decide)]
      exact congrArg nI (by omega)
    · refine Or.inl ?_
      rw [h, k3, my_l2, pk_div (by omega) (by decide) (by decide)]
      exact congrArg nI (by omega)
/-- so does the reference -/
theorem candM_of {SI : Nat → Int32} {K : Nat → Nat} {n : Nat} {m : Int32} (hS : ∀ k, 0 ≤ (SI k).toInt ∧ (SI k).toInt ≤ 200000) (h : m = lpS SI K n ∨ ∃ i, i < n ∧ ∃ k : Nat, 1 ≤ k ∧ k ≤ 200000 ∧ m = nI k ∧ (dfS SI (K i) = nI (2 * k - 1) ∨ dfS SI (K i) = nI (2 * k) ∨ dfS SI (K i) = nI (2 * k + 1))) : rCandM SI n K m := by
  rcases h with h | ⟨i, i1, k, k1, k2, k3, h⟩
  · exact Or.inr (Or.inl h)
  · refine Or.inr (Or.inr ⟨i, i1, ?_, ?_⟩)
    · have s1 := hS (K i)
      have s2 := hS (oth (K i))
      have d1 : (dfS SI (K i)).toInt = (SI (K i)).toInt - (SI (oth (K i))).toInt := by
        unfold dfS
        exact sub_toInt (by omega) (by omega) (by omega) (by omega)
      rw [Int32.lt_iff_toInt_lt]
      rcases h with h | h | h
      · rw [h, nI_toInt (by omega)] at d1; omega
      · rw [h, nI_toInt (by omega)] at d1; omega
      · rw [h, nI_toInt (by omega)] at d1; omega
    · rcases h with h | h | h
      · refine Or.inr ?_
        rw [h, k3, my_l2, my_l1, nI_add, pk_div (by omega) (by decide) (by decide)]
        exact congrArg nI (by omega)
      · refine Or.inl ?_
        rw [h, k3, my_l2, pk_div (by omega) (by decide) (by decide)]
        exact congrArg nI (by omega)
      · refine Or.inl ?_
        rw [h, k3, my_l2, pk_div (by omega) (by decide) (by decide)]
        exact congrArg nI (by omega)
-- the best ring
def RBok (EP : Nat → Nat) (fr : Nat → Prop) (np : Nat) (SI : Nat → Int32) (b : Int32) (rl : Nat) (bo bm : Int32) (RP RF : Nat → Nat) : Prop := ¬ rl = 0 → isR EP fr np rl (pfx RP RF) ∧ rFit SI rl (pfx RP RF) b bm ∧ bo = rOff SI (pfx RP RF) bm b rl
def RMono (rl : Nat) (bo bm : Int32) (RP : Nat → Nat) (rl' : Nat) (bo' bm' : Int32) (RP' : Nat → Nat) : Prop := ¬ rl = 0 → ¬ rl' = 0 ∧ ∀ (o m : Int32) (n : Nat) (P : Nat → Nat), ¬ rLt o m n P bo bm rl RP → ¬ rLt o m n P bo' bm' rl' RP'
def RAll (EP : Nat → Nat) (fr : Nat → Prop) (np : Nat) (SI : Nat → Int32) (b : Int32) (cand : Nat → (Nat → Nat) → Int32 → Prop) (δ : Nat) (K : Nat → Nat) (lim rl : Nat) (bo bm : Int32) (RP : Nat → Nat) : Prop := ∀ (n : Nat) (K' : Nat → Nat) (m : Int32), isR EP fr np n K' → (∀ z, z < δ → K' z = K z) → δ < n → K' δ < lim → cand n K' m → rFit SI n K' b m → ¬ rl = 0 ∧ ¬ rLt (rOff SI K' m b n) m n (fun z => K' z / 2) bo bm rl RP
theorem RMono_rf {rl : Nat} {bo bm : Int32} {RP : Nat → Nat} : RMono rl bo bm RP rl bo bm RP := fun h => ⟨h, fun _ _ _ _ h => h⟩
theorem RMono_tr {a b c : Nat} {o1 m1 o2 m2 o3 m3 : Int32} {P Q R : Nat → Nat} (h : RMono a o1 m1 P b o2 m2 Q) (h2 : RMono b o2 m2 Q c o3 m3 R) : RMono a o1 m1 P c o3 m3 R := by
  intro h0
  obtain ⟨h3, h4⟩ := h h0
  obtain ⟨h5, h6⟩ := h2 h3
  exact ⟨h5, fun o m n P hn => h6 o m n P (h4 o m n P hn)⟩
theorem pfx_half {P F : Nat → Nat} (hF : ∀ z, F z ≤ 1) (z : Nat) : pfx P F z / 2 = P z := by
  have := hF z
  unfold pfx
  omega
/-- both searches have one best ring -/
theorem ring_same {EP : Nat → Nat} {fr : Nat → Prop} {np : Nat} {SI : Nat → Int32} {b : Int32} {K0 K1 : Nat → Nat} {rl rl' : Nat} {bo bm bo' bm' : Int32} {RP RF RP' RF' : Nat → Nat} (hE : ∀ z, EP z ≤ 6) (hne : ∀ q, q < np → EP (2 * q) ≠ EP (2 * q + 1)) (hS : ∀ k, 0 ≤ (SI k).toInt ∧ (SI k).toInt ≤ 200000) (hb : 0 ≤ b.toInt) (hb2 : b.toInt ≤ 10000000) (hF : ∀ z, RF z ≤ 1) (hF' : ∀ z, RF' z ≤ 1)
    (ho : RBok EP fr np SI b rl bo bm RP RF) (ha : RAll EP fr np SI b (rCandC SI) 0 K0 (2 * np) rl bo bm RP) (ho' : RBok EP fr np SI b rl' bo' bm' RP' RF') (ha' : RAll EP fr np SI b (rCandM SI) 0 K1 (2 * np) rl' bo' bm' RP') : rl = rl' ∧ (¬ rl = 0 → bo = bo' ∧ bm = bm' ∧ ∀ z, z < rl → RP z = RP' z ∧ RF z = RF' z) := by
  have low : ∀ {n : Nat} {K : Nat → Nat}, isR EP fr np n K → K 0 < 2 * np := fun h => (h.2.1 0 (by have := h.1; omega)).1
  by_cases e : rl = 0
  · refine ⟨?_, fun h => absurd e h⟩
    apply Classical.byContradiction
    intro e2
    have e3 : ¬ rl' = 0 := fun q => e2 (by rw [e, q])
    obtain ⟨c1, c2, c3⟩ := ho' e3
    obtain ⟨m, d1, -, d3⟩ := cand_near hS (by have := c1.1; omega) (isR_7 hE c1) hb hb2 c2
    exact (ha _ _ m c1 (fun z hz => absurd hz (Nat.not_lt_zero _)) (by have := c1.1; omega) (low c1) (candC_of d3) d1).1 e
  · obtain ⟨a1, a2, a3⟩ := ho e
    have e3 : ¬ rl' = 0 := by
      obtain ⟨m, d1, -, d3⟩ := cand_near hS (by have := a1.1; omega) (isR_7 hE a1) hb hb2 a2
      exact (ha' _ _ m a1 (fun z hz => absurd hz (Nat.not_lt_zero _)) (by have := a1.1; omega) (low a1) (candM_of hS d3) d1).1
    obtain ⟨c1, c2, c3⟩ := ho' e3
    have n1 : ¬ rLt bo' bm' rl' RP' bo bm rl RP := by
      obtain ⟨m, d1, d2, d3⟩ := cand_near hS (by have := c1.1; omega) (isR_7 hE c1) hb hb2 c2
      have h1 := (ha _ _ m c1 (fun z hz => absurd hz (Nat.not_lt_zero _)) (by have := c1.1; omega) (low c1) (candC_of d3) d1).2
      intro h2
      apply h1
      refine rLt_congr (P := RP') (Q := RP) (fun z _ => (pfx_half hF' z).symm) (fun _ _ => rfl) ?_
      rw [← c3] at d2
      rcases d2 with d2 | ⟨d2, d4 | d4⟩
      · exact rLt_tr (Or.inl d2) h2
      · exact rLt_tr (Or.inr ⟨d2, Or.inl d4⟩) h2
      · rw [d2, d4]
        exact h2
    have n2 : ¬ rLt bo bm rl RP bo' bm' rl' RP' := by
      obtain ⟨m, d1, d2, d3⟩ := cand_near hS (by have := a1.1; omega) (isR_7 hE a1) hb hb2 a2
      have h1 := (ha' _ _ m a1 (fun z hz => absurd hz (Nat.not_lt_zero _)) (by have := a1.1; omega) (low a1) (candM_of hS d3) d1).2
      intro h2
      apply h1
      refine rLt_congr (P := RP) (Q := RP') (fun z _ => (pfx_half hF z).symm) (fun _ _ => rfl) ?_
      rw [← a3] at d2
      rcases d2 with d2 | ⟨d2, d4 | d4⟩
      · exact rLt_tr (Or.inl d2) h2
      · exact rLt_tr (Or.inr ⟨d2, Or.inl d4⟩) h2
      · rw [d2, d4]
        exact h2
    obtain ⟨q1, q2, q3, q4⟩ := rLt_tri n2 n1
    subst q3
    refine ⟨rfl, fun _ => ⟨q1, q2, fun z hz => ?_⟩⟩
    have hr := isR_row hne a1 c1 (fun z hz => by rw [pfx_half hF, pfx_half hF']; exact q4 z hz) z hz
    have h1 := q4 z hz
    unfold pfx at hr
    exact ⟨h1, by omega⟩
/-- the best way is one -/
theorem way_same {EP : Nat → Nat} {PH SI FB FR : Nat → Int32} {np s d : Nat} {x : Int32} {B0 B1 : Nat → Nat} {bl bl' : Nat} {wbc wbc' : Int32} {BEP BEF BEP' BEF' : Nat → Nat} (hne : ∀ q, q < np → EP (2 * q) ≠ EP (2 * q + 1)) (hF : ∀ z, BEF z ≤ 1) (hF' : ∀ z, BEF' z ≤ 1) (ho : WOK EP PH SI FB FR np s d x bl wbc BEP BEF) (ha : WAll EP PH SI FB FR np s d x 0 B0 np bl wbc BEP) (ho' : WOK EP PH SI FB FR np s d x bl' wbc' BEP' BEF') (ha' : WAll EP PH SI FB FR np s d x 0 B1 np bl' wbc' BEP') : bl = bl' ∧ (¬ bl = 0 → wbc = wbc' ∧ ∀ z, z < bl → BEP z = BEP' z ∧ BEF z = BEF' z) := by
  have low : ∀ {n : Nat} {B : Nat → Nat}, isW EP PH SI FB FR np s d x n B → B 0 / 2 < np := fun h => by have := (h.2.1 0 (by have := h.1; omega)).1; omega
  by_cases e : bl = 0
  · refine ⟨?_, fun h => absurd e h⟩
    apply Classical.byContradiction
    intro e2
    have e3 : ¬ bl' = 0 := fun q => e2 (by rw [e, q])
    obtain ⟨c1, c2⟩ := ho' e3
    exact (ha _ _ c1 (fun z hz => absurd hz (Nat.not_lt_zero _)) (by omega) (low c1)).1 e
  · obtain ⟨a1, a2⟩ := ho e
    obtain ⟨e3, n1⟩ := ha' _ _ a1 (fun z hz => absurd hz (Nat.not_lt_zero _)) (by omega) (low a1)
    obtain ⟨c1, c2⟩ := ho' e3
    obtain ⟨-, n2⟩ := ha _ _ c1 (fun z hz => absurd hz (Nat.not_lt_zero _)) (by omega) (low c1)
    rw [← a2] at n1
    rw [← c2] at n2
    have r1 : ∀ z, z < bl → (2 * BEP (bl - 1 - (bl - 1 - z)) + BEF (bl - 1 - (bl - 1 - z))) / 2 = BEP z := by
      intro z hz
      have := hF z
      rw [show bl - 1 - (bl - 1 - z) = z by omega]
      omega
    have r2 : ∀ z, z < bl' → (2 * BEP' (bl' - 1 - (bl' - 1 - z)) + BEF' (bl' - 1 - (bl' - 1 - z))) / 2 = BEP' z := by
      intro z hz
      have := hF' z
      rw [show bl' - 1 - (bl' - 1 - z) = z by omega]
      omega
    have m1 : ¬ bLt wbc bl BEP wbc' bl' BEP' := fun h => n1 (bLt_congr (fun z hz => (r1 z hz).symm) (fun _ _ => rfl) h)
    have m2 : ¬ bLt wbc' bl' BEP' wbc bl BEP := fun h => n2 (bLt_congr (fun z hz => (r2 z hz).symm) (fun _ _ => rfl) h)
    obtain ⟨q1, q2, q3⟩ := bLt_tri m1 m2
    subst q2
    refine ⟨rfl, fun _ => ⟨q1, ?_⟩⟩
    -- the sides, from who pays on
    have key : ∀ z, z < bl → BEP z = BEP' z ∧ BEF z = BEF' z := by
      have st : ∀ z, z < bl → EP (2 * BEP z + BEF z) = EP (2 * BEP' z + BEF' z) → BEF z = BEF' z := by
        intro z hz he
        have h1 := q3 z hz
        have h2 := hF z
        have h3 := hF' z
        have h4 := (a1.2.1 (bl - 1 - z) (by omega)).1
        dsimp only at h4
        rw [show bl - 1 - (bl - 1 - z) = z by omega] at h4
        rw [← h1] at he
        have h5 := hne (BEP z) (by omega)
        rcases Nat.lt_or_ge 0 (BEF z) with f1 | f1
        · rcases Nat.lt_or_ge 0 (BEF' z) with f2 | f2
          · omega
          · rw [show BEF z = 1 by omega, show BEF' z = 0 by omega] at he
            exact absurd he.symm h5
        · rcases Nat.lt_or_ge 0 (BEF' z) with f2 | f2
          · rw [show BEF z = 0 by omega, show BEF' z = 1 by omega] at he
            exact absurd he h5
          · omega
      intro z
      induction z with
      | zero =>
        intro hz
        refine ⟨q3 0 hz, st 0 hz ?_⟩
        have g1 := a1.2.2.1
        have g2 := c1.2.2.1
        obtain ⟨l, hl⟩ : ∃ l, bl = l + 1 := ⟨bl - 1, by omega⟩
        subst hl
        have g1 : EP (2 * BEP (l + 1 - 1 - l) + BEF (l + 1 - 1 - l)) = s := g1
        have g2 : EP (2 * BEP' (l + 1 - 1 - l) + BEF' (l + 1 - 1 - l)) = s := g2
        rw [show l + 1 - 1 - l = 0 by omega] at g1 g2
        rw [g1, g2]
      | succ z ih =>
        intro hz
        obtain ⟨i1, i2⟩ := ih (by omega)
        refine ⟨q3 (z + 1) hz, st (z + 1) hz ?_⟩
        have g1 := (a1.2.1 (bl - 1 - z) (by omega)).2.2.1
        have g2 := (c1.2.1 (bl - 1 - z) (by omega)).2.2.1
        rw [show bl - 1 - z = (bl - 1 - (z + 1)) + 1 by omega] at g1 g2
        have g1 : EP (oth (2 * BEP (bl - 1 - ((bl - 1 - (z + 1)) + 1)) + BEF (bl - 1 - ((bl - 1 - (z + 1)) + 1)))) = EP (2 * BEP (bl - 1 - (bl - 1 - (z + 1))) + BEF (bl - 1 - (bl - 1 - (z + 1)))) := g1
        have g2 : EP (oth (2 * BEP' (bl - 1 - ((bl - 1 - (z + 1)) + 1)) + BEF' (bl - 1 - ((bl - 1 - (z + 1)) + 1)))) = EP (2 * BEP' (bl - 1 - (bl - 1 - (z + 1))) + BEF' (bl - 1 - (bl - 1 - (z + 1)))) := g2
        rw [show bl - 1 - ((bl - 1 - (z + 1)) + 1) = z by omega, show bl - 1 - (bl - 1 - (z + 1)) = z + 1 by omega] at g1 g2
        rw [← g1, ← g2, i1, i2]
    exact key
