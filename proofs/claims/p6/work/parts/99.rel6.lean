-- a new promise's numbers
section NEWN
variable {nq n np : Nat} {HO LP LF LP' LF' : Nat → Nat} {LS LH LS' LH' : Nat → Int32}
theorem hcnt_congr {q : Nat} : ∀ m, (∀ i, i < m → LH' (q * 6 + i) = LH (q * 6 + i)) → hcnt LH' q m = hcnt LH q m := by
  intro m
  induction m with
  | zero => intro _; rfl
  | succ m ih =>
    intro h
    unfold hcnt
    rw [ih (fun i hi => h i (by omega)), h m (by omega)]
theorem hcnt_all {q : Nat} : ∀ m, (∀ i, i < m → LH' (q * 6 + i) = 0) → hcnt LH' q m = m := by
  intro m
  induction m with
  | zero => intro _; rfl
  | succ m ih =>
    intro h
    unfold hcnt
    rw [ih (fun i hi => h i (by omega)), if_pos (h m (by omega))]
theorem hall_congr (hHO : ∀ q, HO q ≤ 6) (hO : ∀ l, l < nq * 6 → LH' l = LH l) : ∀ m, m ≤ nq → hall (upN HO nq n) LH' m = hall HO LH m := by
  intro m
  induction m with
  | zero => intro _; rfl
  | succ m ih =>
    intro h
    have h6 := hHO m
    unfold hall
    rw [ih (by omega), upN_n (by omega), hcnt_congr (HO m) (fun i hi => hO _ (by omega))]
theorem HOK_new {HE : Nat → Int32} {HA : Int32} (hHO : ∀ q, HO q ≤ 6) (h : HOK nq HO LH HE HA) (hO : ∀ l, l < nq * 6 → LH' l = LH l) (hL : ∀ z, z < n → LH' (nq * 6 + z) = 0) : HOK (nq + 1) (upN HO nq n) LH' (upd HE nq (nI n)) (HA + nI n) := by
  refine ⟨fun q hq => ?_, ?_⟩
  · by_cases e : q = nq
    · subst e
      rw [pk_us, upN_s, hcnt_all n hL]
    · have h6 := hHO q
      rw [pk_un e, upN_n e, h.1 q (by omega), hcnt_congr (HO q) (fun i hi => hO _ (by omega))]
  · show _ = nI (hall (upN HO nq n) LH' nq + hcnt LH' nq (upN HO nq n nq))
    rw [hall_congr hHO hO nq (Nat.le_refl _), upN_s, hcnt_all n hL, h.2, nI_add]
theorem hsum_congr {k q : Nat} : ∀ m, (∀ i, i < m → LP' (q * 6 + i) = LP (q * 6 + i) ∧ LF' (q * 6 + i) = LF (q * 6 + i) ∧ LS' (q * 6 + i) = LS (q * 6 + i) ∧ LH' (q * 6 + i) = LH (q * 6 + i)) → hsum LP' LF' LS' LH' k q m = hsum LP LF LS LH k q m := by
  intro m
  induction m with
  | zero => intro _; rfl
  | succ m ih =>
    intro h
    obtain ⟨a, b, c, d⟩ := h m (by omega)
    unfold hsum
    rw [ih (fun i hi => h i (by omega)), a, b, c, d]
theorem hsA_congr (hHO : ∀ q, HO q ≤ 6) {k : Nat} (hO : ∀ l, l < nq * 6 → LP' l = LP l ∧ LF' l = LF l ∧ LS' l = LS l ∧ LH' l = LH l) : ∀ m, m ≤ nq → hsA (upN HO nq n) LP' LF' LS' LH' k m = hsA HO LP LF LS LH k m := by
  intro m
  induction m with
  | zero => intro _; rfl
  | succ m ih =>
    intro h
    have h6 := hHO m
    unfold hsA
    rw [ih (by omega), upN_n (by omega), hsum_congr (HO m) (fun i hi => hO _ (by omega))]
theorem hsum_new {k q : Nat} {A : Nat → Nat} {C : Nat → Int32} : ∀ m, (∀ z, z < m → 2 * LP' (q * 6 + z) + LF' (q * 6 + z) = A z ∧ LS' (q * 6 + z) = C z ∧ LH' (q * 6 + z) = 0) → hsum LP' LF' LS' LH' k q m = psum A C k m := by
  intro m
  induction m with
  | zero => intro _; rfl
  | succ m ih =>
    intro h
    obtain ⟨a, b, c⟩ := h m (by omega)
    unfold hsum psum
    rw [ih (fun i hi => h i (by omega)), a, b, c]
    by_cases e : A m = k
    · rw [if_pos ⟨rfl, e⟩, if_pos e]
    · rw [if_neg (fun z => e z.2), if_neg e]
/-- the numbers of the class behind a promise -/
theorem CI_new {SI LK HE : Nat → Int32} {HA : Int32} {L G : Nat → Int32} {A : Nat → Nat} {C : Nat → Int32} (hHO : ∀ q, HO q ≤ 6) (h : CI np nq HO LP LF LS SI LK LH HE HA) (hO : ∀ l, l < nq * 6 → LP' l = LP l ∧ LF' l = LF l ∧ LS' l = LS l ∧ LH' l = LH l) (hL : ∀ z, z < n → 2 * LP' (nq * 6 + z) + LF' (nq * 6 + z) = A z ∧ LS' (nq * 6 + z) = C z ∧ LH' (nq * 6 + z) = 0) (hA : ∀ i j, i < j → j < n → A i / 2 ≠ A j / 2) (hC : ∀ z, z < n → 0 ≤ (C z).toInt ∧ (C z).toInt ≤ (SI (A z)).toInt) : CI np (nq + 1) (upN HO nq n) LP' LF' LS' (itS A C (SI, LK, L, G) n).1 (itS A C (SI, LK, L, G) n).2.1 LH' (upd HE nq (nI n)) (HA + nI n) := by
  obtain ⟨h1, h2, h3⟩ := h
  obtain ⟨b1, b2⟩ := itS_SB (s := (SI, LK, L, G)) h1 n hA hC
  refine ⟨b1, fun k hk => ?_, HOK_new hHO h3 (fun l hl => (hO l hl).2.2.2) (fun z hz => (hL z hz).2.2)⟩
  rw [b2 k]
  show (LK k).toInt + psum A C k n = hsA (upN HO nq n) LP' LF' LS' LH' k nq + hsum LP' LF' LS' LH' k nq (upN HO nq n nq)
  rw [hsA_congr hHO hO nq (Nat.le_refl _), upN_s, hsum_new n hL, h2 k hk]
end NEWN
