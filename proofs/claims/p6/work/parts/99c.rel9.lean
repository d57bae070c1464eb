-- a new pair; a promise's pairs
theorem SB_pair {SI LK : Nat → Int32} {p : Nat} {u v : Int32} (h : SB SI LK) (hu : 0 ≤ u.toInt ∧ u.toInt ≤ 100000) (hv : 0 ≤ v.toInt ∧ v.toInt ≤ 100000) : SB (upd (upd SI (2 * p) u) (2 * p + 1) v) (upd (upd LK (2 * p) 0) (2 * p + 1) 0) := by
  have z : (0 : Int32).toInt = 0 := Int32.toInt_zero
  refine SB_set h p (fun k hk => ⟨?_, ?_⟩) ?_
  · rw [pk_un (show k ≠ 2 * p + 1 by omega), pk_un (show k ≠ 2 * p by omega)]
  · rw [pk_un (show k ≠ 2 * p + 1 by omega), pk_un (show k ≠ 2 * p by omega)]
  · have a1 : upd (upd SI (2 * p) u) (2 * p + 1) v (2 * p) = u := (pk_un (by omega)).trans pk_us
    have a2 : upd (upd SI (2 * p) u) (2 * p + 1) v (2 * p + 1) = v := pk_us
    have a3 : upd (upd LK (2 * p) 0) (2 * p + 1) 0 (2 * p) = 0 := (pk_un (by omega)).trans pk_us
    have a4 : upd (upd LK (2 * p) 0) (2 * p + 1) 0 (2 * p + 1) = 0 := pk_us
    rw [a1, a2, a3, a4]
    omega
theorem LPB_up {np nq : Nat} {HO LP LF : Nat → Nat} {LS : Nat → Int32} (h : LPB np nq HO LP LF LS) : LPB (np + 1) nq HO LP LF LS := fun q hq i hi => by
  obtain ⟨a, b, c⟩ := h q hq i hi
  exact ⟨by omega, b, c⟩
/-- no lock is on a pair that is new -/
theorem LKI_pair {np nq : Nat} {HO LP LF : Nat → Nat} {LS LH LK : Nat → Int32} (hb : LPB np nq HO LP LF LS) (h : LKI np nq HO LP LF LS LH LK) : LKI (np + 1) nq HO LP LF LS LH (upd (upd LK (2 * np) 0) (2 * np + 1) 0) := by
  intro k hk
  have z : (0 : Int32).toInt = 0 := Int32.toInt_zero
  have no : k / 2 = np → hsA HO LP LF LS LH k nq = 0 := fun e => hsA_0 nq (fun q hq i hi _ hc => by
    obtain ⟨a, b, c⟩ := hb q hq i hi
    omega)
  by_cases e1 : k = 2 * np + 1
  · rw [e1, pk_us, z, ← e1, no (by omega)]
  · rw [pk_un e1]
    by_cases e2 : k = 2 * np
    · rw [e2, pk_us, z, ← e2, no (by omega)]
    · rw [pk_un e2]
      exact h k (by omega)
theorem LPB_new {np nq n : Nat} {HO LP LF LP' LF' : Nat → Nat} {LS LS' : Nat → Int32} (h : LPB np nq HO LP LF LS) (hHO : ∀ q, HO q ≤ 6) (hO : ∀ l, l < nq * 6 → LP' l = LP l ∧ LF' l = LF l ∧ LS' l = LS l) (hL : ∀ z, z < n → LP' (nq * 6 + z) < np ∧ LF' (nq * 6 + z) ≤ 1 ∧ 1 ≤ (LS' (nq * 6 + z)).toInt) : LPB np (nq + 1) (upN HO nq n) LP' LF' LS' := by
  intro q hq i hi
  by_cases e : q = nq
  · subst e
    rw [upN_s] at hi
    exact hL i hi
  · rw [upN_n e] at hi
    have h6 := hHO q
    obtain ⟨a, b, c⟩ := hO (q * 6 + i) (by omega)
    rw [a, b, c]
    exact h q (by omega) i hi
