-- what both keep: the sides and what is locked
def SB (SI LK : Nat → Int32) : Prop := ∀ p, 0 ≤ (SI (2 * p)).toInt ∧ 0 ≤ (SI (2 * p + 1)).toInt ∧ 0 ≤ (LK (2 * p)).toInt ∧ 0 ≤ (LK (2 * p + 1)).toInt ∧ (SI (2 * p)).toInt + (SI (2 * p + 1)).toInt + (LK (2 * p)).toInt + (LK (2 * p + 1)).toInt ≤ 200000
section SBR
variable {SI LK SI' LK' : Nat → Int32} {p t : Nat} {v : Int32}
theorem SB_S (h : SB SI LK) (k : Nat) : 0 ≤ (SI k).toInt ∧ (SI k).toInt ≤ 200000 := by
  have h1 := h (k / 2)
  rcases Nat.mod_two_eq_zero_or_one k with e | e
  · have e1 : 2 * (k / 2) = k := by omega
    rw [e1] at h1
    omega
  · have e1 : 2 * (k / 2) + 1 = k := by omega
    rw [e1] at h1
    omega
theorem SB_K (h : SB SI LK) (k : Nat) : 0 ≤ (LK k).toInt ∧ (LK k).toInt ≤ 200000 := by
  have h1 := h (k / 2)
  rcases Nat.mod_two_eq_zero_or_one k with e | e
  · have e1 : 2 * (k / 2) = k := by omega
    rw [e1] at h1
    omega
  · have e1 : 2 * (k / 2) + 1 = k := by omega
    rw [e1] at h1
    omega
theorem SB_set (h : SB SI LK) (p : Nat) (ho : ∀ k, k / 2 ≠ p → SI' k = SI k ∧ LK' k = LK k) (hp : 0 ≤ (SI' (2 * p)).toInt ∧ 0 ≤ (SI' (2 * p + 1)).toInt ∧ 0 ≤ (LK' (2 * p)).toInt ∧ 0 ≤ (LK' (2 * p + 1)).toInt ∧ (SI' (2 * p)).toInt + (SI' (2 * p + 1)).toInt + (LK' (2 * p)).toInt + (LK' (2 * p + 1)).toInt ≤ 200000) : SB SI' LK' := by
  intro q
  by_cases e : q = p
  · subst e
    exact hp
  · obtain ⟨a1, a2⟩ := ho (2 * q) (by omega)
    obtain ⟨a3, a4⟩ := ho (2 * q + 1) (by omega)
    rw [a1, a2, a3, a4]
    exact h q
theorem addS_us {F : Nat → Int32} {k j : Nat} (e : j = k) : addS F k v j = F j + v := by
  subst e
  exact pk_us
theorem subS_us {F : Nat → Int32} {k j : Nat} (e : j = k) : subS F k v j = F j - v := by
  subst e
  exact pk_us
theorem addS_un {F : Nat → Int32} {k j : Nat} (e : j ≠ k) : addS F k v j = F j := pk_un e
theorem subS_un {F : Nat → Int32} {k j : Nat} (e : j ≠ k) : subS F k v j = F j := pk_un e
theorem SB_keep (h : SB SI LK) (ht : t ≤ 1) (h0 : 0 ≤ v.toInt) (hv : v.toInt ≤ (LK (2 * p + t)).toInt) : SB (addS SI (2 * p + (1 - t)) v) (subS LK (2 * p + t) v) := by
  have h1 := h p
  refine SB_set h p (fun k hk => ⟨addS_un (by omega), subS_un (by omega)⟩) ?_
  rcases Nat.lt_or_ge t 1 with e | e
  · obtain rfl : t = 0 := by omega
    have hv : v.toInt ≤ (LK (2 * p)).toInt := hv
    rw [addS_un (by omega), addS_us (by omega), subS_us (by omega), subS_un (by omega)]
    have b1 := add_toInt (a := SI (2 * p + 1)) (b := v) (by omega) (by omega) (by omega) (by omega)
    have b2 := sub_toInt (a := LK (2 * p)) (b := v) (by omega) (by omega) (by omega) (by omega)
    omega
  · obtain rfl : t = 1 := by omega
    rw [addS_us (by omega), addS_un (by omega), subS_un (by omega), subS_us (by omega)]
    have b1 := add_toInt (a := SI (2 * p)) (b := v) (by omega) (by omega) (by omega) (by omega)
    have b2 := sub_toInt (a := LK (2 * p + 1)) (b := v) (by omega) (by omega) (by omega) (by omega)
    omega
theorem SB_out (h : SB SI LK) (ht : t ≤ 1) (h0 : 0 ≤ v.toInt) (hv : v.toInt ≤ (LK (2 * p + t)).toInt) : SB (addS SI (2 * p + t) v) (subS LK (2 * p + t) v) := by
  have h1 := h p
  refine SB_set h p (fun k hk => ⟨addS_un (by omega), subS_un (by omega)⟩) ?_
  rcases Nat.lt_or_ge t 1 with e | e
  · obtain rfl : t = 0 := by omega
    have hv : v.toInt ≤ (LK (2 * p)).toInt := hv
    rw [addS_us (by omega), addS_un (by omega), subS_us (by omega), subS_un (by omega)]
    have b1 := add_toInt (a := SI (2 * p)) (b := v) (by omega) (by omega) (by omega) (by omega)
    have b2 := sub_toInt (a := LK (2 * p)) (b := v) (by omega) (by omega) (by omega) (by omega)
    omega
  · obtain rfl : t = 1 := by omega
    rw [addS_un (by omega), addS_us (by omega), subS_un (by omega), subS_us (by omega)]
    have b1 := add_toInt (a := SI (2 * p + 1)) (b := v) (by omega) (by omega) (by omega) (by omega)
    have b2 := sub_toInt (a := LK (2 * p + 1)) (b := v) (by omega) (by omega) (by omega) (by omega)
    omega
theorem SB_lock (h : SB SI LK) (ht : t ≤ 1) (h0 : 0 ≤ v.toInt) (hv : v.toInt ≤ (SI (2 * p + t)).toInt) : SB (subS SI (2 * p + t) v) (addS LK (2 * p + t) v) := by
  have h1 := h p
  refine SB_set h p (fun k hk => ⟨subS_un (by omega), addS_un (by omega)⟩) ?_
  rcases Nat.lt_or_ge t 1 with e | e
  · obtain rfl : t = 0 := by omega
    have hv : v.toInt ≤ (SI (2 * p)).toInt := hv
    rw [subS_us (by omega), subS_un (by omega), addS_us (by omega), addS_un (by omega)]
    have b1 := add_toInt (a := LK (2 * p)) (b := v) (by omega) (by omega) (by omega) (by omega)
    have b2 := sub_toInt (a := SI (2 * p)) (b := v) (by omega) (by omega) (by omega) (by omega)
    omega
  · obtain rfl : t = 1 := by omega
    rw [subS_un (by omega), subS_us (by omega), addS_un (by omega), addS_us (by omega)]
    have b1 := add_toInt (a := LK (2 * p + 1)) (b := v) (by omega) (by omega) (by omega) (by omega)
    have b2 := sub_toInt (a := SI (2 * p + 1)) (b := v) (by omega) (by omega) (by omega) (by omega)
    omega
/-- over a pair -/
theorem SB_over (h : SB SI LK) (ht : t ≤ 1) (h0 : 0 ≤ v.toInt) (hv : v.toInt ≤ (SI (2 * p + t)).toInt) : SB (addS (subS SI (2 * p + t) v) (2 * p + (1 - t)) v) LK := by
  have h1 := h p
  refine SB_set h p (fun k hk => ⟨by rw [addS_un (by omega), subS_un (by omega)], rfl⟩) ?_
  rcases Nat.lt_or_ge t 1 with e | e
  · obtain rfl : t = 0 := by omega
    have hv : v.toInt ≤ (SI (2 * p)).toInt := hv
    rw [addS_un (by omega), subS_us (by omega), addS_us (by omega), subS_un (by omega)]
    have b1 := add_toInt (a := SI (2 * p + 1)) (b := v) (by omega) (by omega) (by omega) (by omega)
    have b2 := sub_toInt (a := SI (2 * p)) (b := v) (by omega) (by omega) (by omega) (by omega)
    omega
  · obtain rfl : t = 1 := by omega
    rw [addS_us (by omega), subS_un (by omega), addS_un (by omega), subS_us (by omega)]
    have b1 := add_toInt (a := SI (2 * p)) (b := v) (by omega) (by omega) (by omega) (by omega)
    have b2 := sub_toInt (a := SI (2 * p + 1)) (b := v) (by omega) (by omega) (by omega) (by omega)
    omega
theorem SB_le (h : SB SI LK) (hs : ∀ k, SI' k = SI k ∨ SI' k = 0) : SB SI' LK := by
  intro p
  have h1 := h p
  have z : (0 : Int32).toInt = 0 := Int32.toInt_zero
  rcases hs (2 * p) with a | a <;> rcases hs (2 * p + 1) with b | b <;> rw [a, b] <;> omega
end SBR
-- the sum of what is held at a code
def hsum (LP LF : Nat → Nat) (LS LH : Nat → Int32) (k q : Nat) : Nat → Int
  | 0 => 0
  | i + 1 => hsum LP LF LS LH k q i + (if LH (q * 6 + i) = 0 ∧ 2 * LP (q * 6 + i) + LF (q * 6 + i) = k then (LS (q * 6 + i)).toInt else 0)
def hsA (HO LP LF : Nat → Nat) (LS LH : Nat → Int32) (k : Nat) : Nat → Int
  | 0 => 0
  | q + 1 => hsA HO LP LF LS LH k q + hsum LP LF LS LH k q (HO q)
section HSR
variable {HO LP LF : Nat → Nat} {LS LH : Nat → Int32} {k q i nq : Nat} {c : Int32}
theorem hsum_un {l : Nat} : ∀ n, (∀ j, j < n → q * 6 + j ≠ l) → hsum LP LF LS (upd LH l c) k q n = hsum LP LF LS LH k q n := by
  intro n
  induction n with
  | zero => intro _; rfl
  | succ n ih =>
    intro h
    unfold hsum
    rw [ih (fun j hj => h j (by omega)), pk_un (h n (by omega))]
theorem hsum_us (hc : ¬ c = 0) (h0 : LH (q * 6 + i) = 0) : ∀ n, i < n → hsum LP LF LS (upd LH (q * 6 + i) c) k q n = hsum LP LF LS LH k q n - (if 2 * LP (q * 6 + i) + LF (q * 6 + i) = k then (LS (q * 6 + i)).toInt else 0) := by
  intro n
  induction n with
  | zero => intro h; omega
  | succ n ih =>
    intro h
    unfold hsum
    by_cases e : i = n
    · subst e
      rw [hsum_un i (fun j hj => by omega), pk_us, if_neg (fun z => hc z.1)]
      by_cases e2 : 2 * LP (q * 6 + i) + LF (q * 6 + i) = k
      · rw [if_pos ⟨h0, e2⟩, if_pos e2]
        omega
      · rw [if_neg (fun z => e2 z.2), if_neg e2]
        omega
    · rw [ih (by omega), pk_un (by omega)]
      omega
theorem hsA_un {l : Nat} : ∀ n, (∀ p, p < n → ∀ j, j < HO p → p * 6 + j ≠ l) → hsA HO LP LF LS (upd LH l c) k n = hsA HO LP LF LS LH k n := by
  intro n
  induction n with
  | zero => intro _; rfl
  | succ n ih =>
    intro h
    unfold hsA
    rw [ih (fun p hp => h p (by omega)), hsum_un (HO n) (h n (by omega))]
theorem hsA_us (hHO : ∀ q, HO q ≤ 6) (hc : ¬ c = 0) (hi : i < HO q) (h0 : LH (q * 6 + i) = 0) : ∀ n, q < n → hsA HO LP LF LS (upd LH (q * 6 + i) c) k n = hsA HO LP LF LS LH k n - (if 2 * LP (q * 6 + i) + LF (q * 6 + i) = k then (LS (q * 6 + i)).toInt else 0) := by
  intro n
  have h6 := hHO q
  induction n with
  | zero => intro h; omega
  | succ n ih =>
    intro h
    unfold hsA
    by_cases e : q = n
    · subst e
      rw [hsA_un q (fun p hp j hj => by have := hHO p; omega), hsum_us hc h0 (HO q) hi]
      omega
    · rw [ih (by omega), hsum_un (HO n) (fun j hj => by have := hHO n; omega)]
      omega
theorem hsum_nn : ∀ n, (∀ j, j < n → 0 ≤ (LS (q * 6 + j)).toInt) → 0 ≤ hsum LP LF LS LH k q n ∧ ∀ j, j < n → LH (q * 6 + j) = 0 → 2 * LP (q * 6 + j) + LF (q * 6 + j) = k → (LS (q * 6 + j)).toInt ≤ hsum LP LF LS LH k q n := by
  intro n
  induction n with
  | zero => intro _; exact ⟨Int.le_refl 0, fun j hj => by omega⟩
  | succ n ih =>
    intro h
    obtain ⟨i1, i2⟩ := ih (fun j hj => h j (by omega))
    have hn := h n (by omega)
    unfold hsum
    by_cases e : LH (q * 6 + n) = 0 ∧ 2 * LP (q * 6 + n) + LF (q * 6 + n) = k
    · rw [if_pos e]
      refine ⟨by omega, fun j hj a b => ?_⟩
      by_cases e2 : j = n
      · rw [e2]
        omega
      · have := i2 j (by omega) a b
        omega
    · rw [if_neg e]
      refine ⟨by omega, fun j hj a b => ?_⟩
      by_cases e2 : j = n
      · rw [e2] at a b
        exact absurd ⟨a, b⟩ e
      · have := i2 j (by omega) a b
        omega
theorem hsA_nn : ∀ n, (∀ p, p < n → ∀ j, j < HO p → 0 ≤ (LS (p * 6 + j)).toInt) → 0 ≤ hsA HO LP LF LS LH k n ∧ ∀ p, p < n → ∀ j, j < HO p → LH (p * 6 + j) = 0 → 2 * LP (p * 6 + j) + LF (p * 6 + j) = k → (LS (p * 6 + j)).toInt ≤ hsA HO LP LF LS LH k n := by
  intro n
  induction n with
  | zero => intro _; exact ⟨Int.le_refl 0, fun p hp => by omega⟩
  | succ n ih =>
    intro h
    obtain ⟨i1, i2⟩ := ih (fun p hp => h p (by omega))
    obtain ⟨j1, j2⟩ := hsum_nn (LP := LP) (LF := LF) (LS := LS) (LH := LH) (k := k) (q := n) (HO n) (h n (by omega))
    unfold hsA
    refine ⟨by omega, fun p hp j hj a b => ?_⟩
    by_cases e : p = n
    · subst e
      have := j2 j hj a b
      omega
    · have := i2 p (by omega) j hj a b
      omega
theorem hsum_0 : ∀ n, (∀ j, j < n → LH (q * 6 + j) = 0 → 2 * LP (q * 6 + j) + LF (q * 6 + j) ≠ k) → hsum LP LF LS LH k q n = 0 := by
  intro n
  induction n with
  | zero => intro _; rfl
  | succ n ih =>
    intro h
    unfold hsum
    rw [ih (fun j hj => h j (by omega)), if_neg (fun z => h n (by omega) z.1 z.2)]
    rfl
theorem hsA_0 : ∀ n, (∀ p, p < n → ∀ j, j < HO p → LH (p * 6 + j) = 0 → 2 * LP (p * 6 + j) + LF (p * 6 + j) ≠ k) → hsA HO LP LF LS LH k n = 0 := by
  intro n
  induction n with
  | zero => intro _; rfl
  | succ n ih =>
    intro h
    unfold hsA
    rw [ih (fun p hp => h p (by omega)), hsum_0 (HO n) (h n (by omega))]
    rfl
end HSR
def LKI (np nq : Nat) (HO LP LF : Nat → Nat) (LS LH LK : Nat → Int32) : Prop := ∀ k, k < 2 * np → (LK k).toInt = hsA HO LP LF LS LH k nq
def LPB (np nq : Nat) (HO LP LF : Nat → Nat) (LS : Nat → Int32) : Prop := ∀ q, q < nq → ∀ i, i < HO q → LP (q * 6 + i) < np ∧ LF (q * 6 + i) ≤ 1 ∧ 1 ≤ (LS (q * 6 + i)).toInt
/-- what the class keeps of its numbers -/
def CI (np nq : Nat) (HO LP LF : Nat → Nat) (LS SI LK LH HE : Nat → Int32) (HA : Int32) : Prop := SB SI LK ∧ LKI np nq HO LP LF LS LH LK ∧ HOK nq HO LH HE HA
section CIR
variable {np nq : Nat} {HO LP LF : Nat → Nat} {LS SI LK LH HE : Nat → Int32} {HA : Int32} {q i : Nat}
theorem LKI_ge (hb : LPB np nq HO LP LF LS) (h : LKI np nq HO LP LF LS LH LK) (hq : q < nq) (hi : i < HO q) (h0 : LH (q * 6 + i) = 0) : (LS (q * 6 + i)).toInt ≤ (LK (2 * LP (q * 6 + i) + LF (q * 6 + i))).toInt := by
  obtain ⟨b1, b2, b3⟩ := hb q hq i hi
  rw [h _ (by omega)]
  exact (hsA_nn nq (fun p hp j hj => by have := (hb p hp j hj).2.2; omega)).2 q hq i hi h0 rfl
theorem LKI_sub (hHO : ∀ q, HO q ≤ 6) (hb : LPB np nq HO LP LF LS) (hs : SB SI LK) (h : LKI np nq HO LP LF LS LH LK) {c : Int32} (hc : ¬ c = 0) (hq : q < nq) (hi : i < HO q) (h0 : LH (q * 6 + i) = 0) : LKI np nq HO LP LF LS (upd LH (q * 6 + i) c) (subS LK (2 * LP (q * 6 + i) + LF (q * 6 + i)) (LS (q * 6 + i))) := by
  intro k hk
  rw [hsA_us hHO hc hi h0 nq hq, ← h k hk]
  have b3 := (hb q hq i hi).2.2
  have g := LKI_ge hb h hq hi h0
  by_cases e : 2 * LP (q * 6 + i) + LF (q * 6 + i) = k
  · rw [if_pos e, ← e, subS_us rfl]
    have := SB_K hs (2 * LP (q * 6 + i) + LF (q * 6 + i))
    rw [sub_toInt (by omega) (by omega) (by omega) (by omega)]
  · rw [if_neg e, subS_un (fun z => e z.symm)]
    omega
theorem CI_keep (hHO : ∀ q, HO q ≤ 6) (hb : LPB np nq HO LP LF LS) {s : CK} (h : CI np nq HO LP LF LS s.1 s.2.1 s.2.2.2.2.2.1 s.2.2.2.2.2.2.1 s.2.2.2.2.2.2.2.2) {x : Nat × Nat} (hq : x.1 < nq) (hi : x.2 < HO x.1) (h0 : s.2.2.2.2.2.1 (x.1 * 6 + x.2) = 0) : CI np nq HO LP LF LS (ckSt LP LF LS s x).1 (ckSt LP LF LS s x).2.1 (ckSt LP LF LS s x).2.2.2.2.2.1 (ckSt LP LF LS s x).2.2.2.2.2.2.1 (ckSt LP LF LS s x).2.2.2.2.2.2.2.2 := by
  obtain ⟨h1, h2, h3⟩ := h
  obtain ⟨b1, b2, b3⟩ := hb x.1 hq x.2 hi
  exact ⟨SB_keep h1 b2 (by omega) (LKI_ge hb h2 hq hi h0), LKI_sub hHO hb h1 h2 (by decide) hq hi h0, HOK_step hHO h3 (by decide) hq hi h0⟩
theorem CI_out (hHO : ∀ q, HO q ≤ 6) (hb : LPB np nq HO LP LF LS) {s : CR} (h : CI np nq HO LP LF LS s.1 s.2.1 s.2.2.2.2.1 s.2.2.2.2.2.1 s.2.2.2.2.2.2) {x : Nat × Nat} (hq : x.1 < nq) (hi : x.2 < HO x.1) (h0 : s.2.2.2.2.1 (x.1 * 6 + x.2) = 0) : CI np nq HO LP LF LS (crSt LP LF LS s x).1 (crSt LP LF LS s x).2.1 (crSt LP LF LS s x).2.2.2.2.1 (crSt LP LF LS s x).2.2.2.2.2.1 (crSt LP LF LS s x).2.2.2.2.2.2 := by
  obtain ⟨h1, h2, h3⟩ := h
  obtain ⟨b1, b2, b3⟩ := hb x.1 hq x.2 hi
  exact ⟨SB_out h1 b2 (by omega) (LKI_ge hb h2 hq hi h0), LKI_sub hHO hb h1 h2 (by decide) hq hi h0, HOK_step hHO h3 (by decide) hq hi h0⟩
theorem CI_KA {EP : Nat → Nat} {TO LC FA : Nat → Int32} {tm sm : Int32} (hHO : ∀ q, HO q ≤ 6) (hb : LPB np nq HO LP LF LS) {s v : CK} (h : CI np nq HO LP LF LS s.1 s.2.1 s.2.2.2.2.2.1 s.2.2.2.2.2.2.1 s.2.2.2.2.2.2.2.2) (hC : KA nq EP HO TO LP LF LS LC FA tm s v sm) : CI np nq HO LP LF LS v.1 v.2.1 v.2.2.2.2.2.1 v.2.2.2.2.2.2.1 v.2.2.2.2.2.2.2.2 := by
  obtain ⟨L, h1, -⟩ := hC
  exact Rn_inv (fun w : CK => CI np nq HO LP LF LS w.1 w.2.1 w.2.2.2.2.2.1 w.2.2.2.2.2.2.1 w.2.2.2.2.2.2.2.2) (fun w x hw hx => CI_keep hHO hb hw hx.1 hx.2.1 hx.2.2.1) h1 h
theorem CI_RA {LC : Nat → Int32} {tm sm : Int32} (hHO : ∀ q, HO q ≤ 6) (hb : LPB np nq HO LP LF LS) {s v : CR} (h : CI np nq HO LP LF LS s.1 s.2.1 s.2.2.2.2.1 s.2.2.2.2.2.1 s.2.2.2.2.2.2) (hC : RA nq HO LP LF LS LC tm s v sm) : CI np nq HO LP LF LS v.1 v.2.1 v.2.2.2.2.1 v.2.2.2.2.2.1 v.2.2.2.2.2.2 := by
  obtain ⟨L, h1, -⟩ := hC
  exact Rn_inv (fun w : CR => CI np nq HO LP LF LS w.1 w.2.1 w.2.2.2.2.1 w.2.2.2.2.2.1 w.2.2.2.2.2.2) (fun w x hw hx => CI_out hHO hb hw hx.1 hx.2.1 hx.2.2.1) h1 h
/-- a pair is free in both or in none -/
theorem fr_same {EP : Nat → Nat} {LC TO PB5 PH : Nat → Int32} {PB1 PB2 KN : Nat → Nat} {PB3 PB4 : Nat → Int32} {p : Nat} (hb : LPB np nq HO LP LF LS) (h : LKI np nq HO LP LF LS LH LK) (hS : LkS nq EP HO LP LF LS LC PB1 PB2 PB3 PB4) (hD : LkD nq EP HO LP LF TO LH PB5 KN) (hp : p < np) : frC PH LK p ↔ frM PH HO PB1 PB5 nq p := by
  have z0 : (0 : Int32).toInt = 0 := Int32.toInt_zero
  constructor
  · rintro ⟨h0, h1, h2⟩
    refine ⟨h0, ?_⟩
    rintro ⟨⟨q, i⟩, hx, hi, h5, he⟩
    dsimp only at hx hi h5 he
    have hq : q < nq := by omega
    obtain ⟨s1, -⟩ := (hS q hq).2.2 i hi
    obtain ⟨b1, b2, b3⟩ := hb q hq i hi
    have hl := ((hD q hq).2 i hi).1.mp h5
    rw [s1] at he
    have g := LKI_ge hb h hq hi hl
    rw [he] at g
    rcases Nat.lt_or_ge (LF (q * 6 + i)) 1 with e | e
    · rw [show 2 * p + LF (q * 6 + i) = 2 * p by omega, h1] at g
      omega
    · rw [show 2 * p + LF (q * 6 + i) = 2 * p + 1 by omega, h2] at g
      omega
  · rintro ⟨h0, h1⟩
    have key : ∀ k, k / 2 = p → LK k = 0 := fun k hk => by
      refine i32_max ?_
      rw [h k (by omega), z0]
      refine hsA_0 nq (fun q hq i hi hl hc => h1 ⟨(q, i), Or.inl hq, hi, ((hD q hq).2 i hi).1.mpr hl, ?_⟩)
      obtain ⟨s1, -⟩ := (hS q hq).2.2 i hi
      obtain ⟨b1, b2, b3⟩ := hb q hq i hi
      dsimp only
      rw [s1]
      omega
    exact ⟨h0, key _ (by omega), key _ (by omega)⟩
end CIR
