-- the reference
theorem inc_64 {n : Nat} (h : ¬ n < 64) (h2 : n ≤ 64) : 64 = inc64 n := by
  unfold inc64
  rw [if_neg h]
  omega
def mcg (EP MX MY : Nat → Nat) (MQ AW : Nat → Int32) (j : Nat) : Bool := !decide (MX j = MY j - 1) && decide (AW (EP (2 * j + (if nI (EP (2 * j)) = MQ j then 1 else 0))) = 0)
def mcl (EP MX MY : Nat → Nat) (MQ AW MT MU : Nat → Int32) (tm : Int32) (z : Bool) (j : Nat) : Bool := decide (MU j = 1) && (if tm < MT j then mcg EP MX MY MQ AW j else z)
theorem mcg_n1 {EP MX MY : Nat → Nat} {MQ AW : Nat → Int32} {j : Nat} (h : MX j = MY j - 1) : mcg EP MX MY MQ AW j = false := by
  unfold mcg
  rw [decide_eq_true h]
  rfl
theorem mcg_n2 {EP MX MY : Nat → Nat} {MQ AW : Nat → Int32} {j t : Nat} (ht : (if nI (EP (2 * j)) = MQ j then 1 else 0) = t) (h : ¬ AW (EP (2 * j + t)) = 0) : mcg EP MX MY MQ AW j = false := by
  unfold mcg
  rw [ht, decide_eq_false h, Bool.and_false]
theorem mcg_y {EP MX MY : Nat → Nat} {MQ AW : Nat → Int32} {j t : Nat} (h : ¬ MX j = MY j - 1) (ht : (if nI (EP (2 * j)) = MQ j then 1 else 0) = t) (h2 : AW (EP (2 * j + t)) = 0) : mcg EP MX MY MQ AW j = true := by
  unfold mcg
  rw [ht, decide_eq_false h, decide_eq_true h2]
  rfl
theorem mcl_1 {EP MX MY : Nat → Nat} {MQ AW MT MU : Nat → Int32} {tm : Int32} {z : Bool} {j : Nat} (h : ¬ MU j = 1) : mcl EP MX MY MQ AW MT MU tm z j = false := by
  unfold mcl
  rw [decide_eq_false h]
  rfl
theorem mcl_2 {EP MX MY : Nat → Nat} {MQ AW MT MU : Nat → Int32} {tm : Int32} {z : Bool} {j : Nat} (h : MU j = 1) (h2 : ¬ tm < MT j) : mcl EP MX MY MQ AW MT MU tm z j = z := by
  unfold mcl
  rw [decide_eq_true h, if_neg h2]
  rfl
theorem mcl_3 {EP MX MY : Nat → Nat} {MQ AW MT MU : Nat → Int32} {tm : Int32} {z : Bool} {j : Nat} {b : Bool} (h : MU j = 1) (h2 : tm < MT j) (h3 : mcg EP MX MY MQ AW j = b) : mcl EP MX MY MQ AW MT MU tm z j = b := by
  unfold mcl
  rw [decide_eq_true h, if_pos h2, h3]
  rfl
theorem gsum_00 {S : Nat → Int32} {j : Nat} : gsum (upd (upd S (2 * j) 0) (2 * j + 1) 0) j = 0 := by
  unfold gsum
  rw [pk_un (by omega), pk_us, pk_us]
  exact zz_0
theorem clG_y0 {B : Nat → Bool} {n : Nat} {F F1 S : Nat → Int32} (hB : B n = true) (h : F1 = clF B n 0 F) : upd F1 n (gsum (upd (upd S (2 * n) 0) (2 * n + 1) 0) n) = clF B (n + 1) 0 F := by
  rw [gsum_00]
  exact clF_y hB h
/-- some lock that is on a pair, among those looked at -/
def hasL (HO PB1 : Nat → Nat) (PB5 : Nat → Int32) (j q l : Nat) : Prop := ∃ x : Nat × Nat, (x.1 < q ∨ (x.1 = q ∧ x.2 < l)) ∧ x.2 < HO x.1 ∧ ¬ PB5 (8 * x.1 + x.2) = 0 ∧ PB1 (8 * x.1 + x.2) = j
theorem hasL_0 {HO PB1 : Nat → Nat} {PB5 : Nat → Int32} {j : Nat} : ¬ (0 : Int32) = 0 ↔ hasL HO PB1 PB5 j 0 0 := ⟨fun h => absurd rfl h, fun ⟨x, h, _⟩ => by omega⟩
theorem hasL_no {HO PB1 : Nat → Nat} {PB5 : Nat → Int32} {j q i : Nat} {v : Int32} (h : ¬ v = 0 ↔ hasL HO PB1 PB5 j q i) (hn : PB5 (8 * q + i) = 0 ∨ ¬ PB1 (8 * q + i) = j) : ¬ v = 0 ↔ hasL HO PB1 PB5 j q (i + 1) := by
  rw [h]
  constructor
  · rintro ⟨x, h1, h2⟩
    exact ⟨x, by omega, h2⟩
  · rintro ⟨x, h1, h2, h3, h4⟩
    refine ⟨x, ?_, h2, h3, h4⟩
    by_cases e : x.1 = q ∧ x.2 = i
    · rw [e.1, e.2] at h3 h4
      rcases hn with hn | hn
      · exact absurd hn h3
      · exact absurd h4 hn
    · omega
theorem hasL_yes {HO PB1 : Nat → Nat} {PB5 : Nat → Int32} {j q i : Nat} (hi : i < HO q) (h1 : ¬ PB5 (8 * q + i) = 0) (h2 : PB1 (8 * q + i) = j) : ¬ (1 : Int32) = 0 ↔ hasL HO PB1 PB5 j q (i + 1) := ⟨fun _ => ⟨(q, i), Or.inr ⟨rfl, Nat.lt_succ_self _⟩, hi, h1, h2⟩, fun _ => by decide⟩
theorem hasL_same {HO PB1 : Nat → Nat} {PB5 : Nat → Int32} {j q i : Nat} {v : Int32} (hv : v = 1) (h : ¬ v = 0 ↔ hasL HO PB1 PB5 j q i) : ¬ v = 0 ↔ hasL HO PB1 PB5 j q (i + 1) := by
  constructor
  · intro h0
    obtain ⟨x, h1, h2⟩ := h.mp h0
    exact ⟨x, by omega, h2⟩
  · intro _ h0
    rw [hv] at h0
    exact absurd h0 (by decide)
theorem hasL_next {HO PB1 : Nat → Nat} {PB5 : Nat → Int32} {j q i : Nat} {v : Int32} (h : ¬ v = 0 ↔ hasL HO PB1 PB5 j q i) (hi : HO q ≤ i) : ¬ v = 0 ↔ hasL HO PB1 PB5 j (q + 1) 0 := by
  rw [h]
  constructor
  · rintro ⟨x, h1, h2⟩
    exact ⟨x, by omega, h2⟩
  · rintro ⟨x, h1, h2, h3⟩
    refine ⟨x, ?_, h2, h3⟩
    by_cases e : x.1 = q
    · rw [e] at h2
      omega
    · omega
