-- the ends of old pairs stay
section ENDS
variable {np nq : Nat} {EP EP' HO LP LF : Nat → Nat} {LS LC : Nat → Int32} {PB1 PB2 : Nat → Nat} {PB3 PB4 : Nat → Int32}
theorem LkS_EP (hb : LPB np nq HO LP LF LS) (he : ∀ k, k < 2 * np → EP' k = EP k) (h : LkS nq EP HO LP LF LS LC PB1 PB2 PB3 PB4) : LkS nq EP' HO LP LF LS LC PB1 PB2 PB3 PB4 := by
  intro q hq
  obtain ⟨s1, s2, s3⟩ := h q hq
  refine ⟨s1, s2, fun i hi => ?_⟩
  obtain ⟨t1, t2, t3, t4, t5, t6, t7, t8⟩ := s3 i hi
  obtain ⟨b1, b2, -⟩ := hb q hq i hi
  have e1 := he (2 * LP (q * 6 + i) + (1 - LF (q * 6 + i))) (by omega)
  have e2 := he (2 * LP (q * 6 + i) + LF (q * 6 + i)) (by omega)
  refine ⟨t1, t2, t3, t4, t5, by rw [e1]; exact t6, by rw [e2]; exact t7, fun j hj => ?_⟩
  obtain ⟨c1, c2, -⟩ := hb q hq j hj
  have e3 := he (2 * LP (q * 6 + j) + (1 - LF (q * 6 + j))) (by omega)
  rw [e1, e2, e3]
  exact t8 j hj
theorem LkD_EP {TO LH PB5 : Nat → Int32} {KN : Nat → Nat} (hb : LPB np nq HO LP LF LS) (he : ∀ k, k < 2 * np → EP' k = EP k) (h : LkD nq EP HO LP LF TO LH PB5 KN) : LkD nq EP' HO LP LF TO LH PB5 KN := by
  intro q hq
  obtain ⟨d1, d2⟩ := h q hq
  refine ⟨d1, fun i hi => ?_⟩
  obtain ⟨b1, b2, -⟩ := hb q hq i hi
  rw [he (2 * LP (q * 6 + i) + (1 - LF (q * 6 + i))) (by omega)]
  exact d2 i hi
end ENDS
/-- a pair more: closings -/
theorem ClR_pair {np a b : Nat} {EP CL : Nat → Nat} {PH EN MT MQ : Nat → Int32} (h : ClR np EP CL PH EN MT MQ) (hCL : ∀ z, CL z ≤ 1) : ClR (np + 1) (upN (upN EP (2 * np) a) (2 * np + 1) b) CL (upd PH np 0) EN (upd MT np (-1)) MQ := by
  intro p hp
  by_cases e : p = np
  · subst e
    rw [pk_us, pk_us]
    exact ⟨fun z => absurd z (by decide), fun _ => rfl⟩
  · have h1 := hCL p
    rw [pk_un e, pk_un e, upN_n (show 2 * p + CL p ≠ 2 * np + 1 by omega), upN_n (show 2 * p + CL p ≠ 2 * np by omega)]
    exact h p (by omega)
