-- a closing begun, or done at once
theorem ClR_begin {np p t : Nat} {EP CL : Nat → Nat} {PH EN MT MQ : Nat → Int32} {w : Int32} (h : ClR np EP CL PH EN MT MQ) : ClR np EP (upN CL p t) (upd PH p 1) (upd EN p w) (upd MT p w) (upd MQ p (nI (EP (2 * p + t)))) := by
  intro q hq
  by_cases e : q = p
  · subst e
    rw [pk_us, pk_us, pk_us, pk_us, upN_s]
    exact ⟨fun _ => ⟨rfl, rfl⟩, fun z => absurd rfl z⟩
  · rw [pk_un e, pk_un e, pk_un e, pk_un e, upN_n e]
    exact h q hq
theorem ClR_done {np p t k : Nat} {EP CL : Nat → Nat} {PH EN MT MQ : Nat → Int32} {w v m : Int32} (h : ClR np EP CL PH EN MT MQ) : ClR np EP (upN CL p t) (upd (upd PH p 1) p 2) (upd EN p w) (upd (upd MT p v) p (-1)) (upd MQ p m) := by
  intro q hq
  by_cases e : q = p
  · subst e
    rw [pk_us, pk_us]
    exact ⟨fun z => absurd z (by decide), fun _ => rfl⟩
  · rw [pk_un e, pk_un e, pk_un e, pk_un e, pk_un e, pk_un e, upN_n e]
    exact h q hq
