-- answers that are alike
section ANS
variable {nq np : Nat} {HO EP ST : Nat → Nat} {LH HE KE P5 PD LS TO PY PH EN : Nat → Int32} {HA : Int32}
theorem HOK_le {q : Nat} (h : HOK nq HO LH HE HA) (hHO : ∀ q, HO q ≤ 6) (hq : q < nq) : HE q ≤ 0 ↔ HE q = 0 := by
  have h1 := hcnt_le LH q (HO q)
  have h2 := hHO q
  rw [h.1 q hq]
  constructor
  · intro h0
    rcases Nat.eq_zero_or_pos (hcnt LH q (HO q)) with e | e
    · rw [e]
      exact nI_0
    · exact absurd h0 (nI_nle e (by omega))
  · intro h0
    rw [h0]
    exact Int32.le_refl _
theorem PA_same {B3 : Nat → Int32} {i z : Int32} (hnq : nq ≤ 40) (h : HOK nq HO LH HE HA) (hHO : ∀ q, HO q ≤ 6) (hs : ∀ q, q < nq → KE q + P5 q + HE q = nI (HO q)) (hl : ∀ q, q < nq → B3 (8 * q) = LS (q * 6)) : gPA nq HE HO KE PD LS TO PY i z = gPAm nq HO KE P5 PD B3 TO PY i z := by
  unfold gPA gPAm
  by_cases e : isw i 0 (nI nq - 1) = 0
  · rw [if_pos e, if_pos e]
  · obtain ⟨q, hq, hi⟩ := isw_nI (by omega) e
    rw [if_neg e, if_neg e, hi, nI_clamp (by omega)]
    unfold gPB gPBm
    rw [hl q hq]
    have g : gOut (HE q) (nI (HO q)) (KE q) = gOutM (KE q) (P5 q) (nI (HO q)) := by
      have o := open_same h hHO hq (hs q hq)
      have l := HOK_le h hHO hq
      unfold gOut gOutM
      by_cases e2 : HE q = 0
      · rw [if_pos (l.mpr e2), if_neg (fun z => o.mp z e2)]
      · rw [if_neg (fun z => e2 (l.mp z)), if_pos (o.mpr e2)]
    rw [g]
theorem AB_same {CL : Nat → Nat} {MT MQ : Nat → Int32} {i z : Int32} (hnp : np ≤ 12) (h : ClR np EP CL PH EN MT MQ) : gAB np EP PH ST EN i z = gABm np EP PH ST MT i z := by
  unfold gAB gABm
  by_cases e : isw i 0 (nI np - 1) = 0
  · rw [if_pos e, if_pos e]
  · obtain ⟨p, hp, hi⟩ := isw_nI (by omega) e
    rw [if_neg e, if_neg e, hi, nI_clamp (by omega)]
    unfold gAC gACm
    have g : (if PH p = 1 then EN p else -1) = MT p := by
      by_cases e2 : PH p = 1
      · rw [if_pos e2, ((h p hp).1 e2).1]
      · rw [if_neg e2, (h p hp).2 e2]
    rw [g]
theorem cnt_same (hHO : ∀ q, HO q ≤ 6) (h : HOK nq HO LH HE HA) (hs : ∀ q, q < nq → KE q + P5 q + HE q = nI (HO q)) : ∀ n, n ≤ nq → cntM HO KE P5 n = nI (hall HO LH n) := by
  intro n
  induction n with
  | zero => intro _; exact nI_0.symm
  | succ n ih =>
    intro hn
    show cntM HO KE P5 n + (nI (HO n) - KE n - P5 n) = nI (hall HO LH n + hcnt LH n (HO n))
    have e : nI (HO n) - KE n - P5 n = HE n := by
      rw [← hs n (by omega), Int32.sub_eq_add_neg, Int32.sub_eq_add_neg, Int32.add_assoc (KE n) (P5 n) (HE n), Int32.add_comm (KE n) (P5 n + HE n), Int32.add_assoc (P5 n + HE n) (KE n) (-KE n), Int32.add_right_neg, Int32.add_zero, Int32.add_comm (P5 n) (HE n), Int32.add_assoc, Int32.add_right_neg, Int32.add_zero]
    rw [ih (by omega), e, h.1 n (by omega), nI_add]
theorem cnt_HA (hHO : ∀ q, HO q ≤ 6) (h : HOK nq HO LH HE HA) (hs : ∀ q, q < nq → KE q + P5 q + HE q = nI (HO q)) : cntM HO KE P5 nq = HA := (cnt_same hHO h hs nq (Nat.le_refl _)).trans h.2.symm
end ANS
