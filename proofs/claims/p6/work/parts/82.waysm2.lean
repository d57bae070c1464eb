theorem cw_m {EP : Nat → Nat} {FB FR : Nat → Int32} {n kk g : Nat} {S1 S2 : Nat → Nat} {x y : Int32} (hk : kk + 1 < n) (h : y = cwf EP FB FR (lkB n S1 S2) x (n - 1 - (kk + 1))) (hg : g = EP (2 * S1 (kk + 1) + S2 (kk + 1))) : y + FB g + y * FR g / 1000 = cwf EP FB FR (lkB n S1 S2) x (n - 1 - kk) := by
  rw [show n - 1 - kk = (n - 1 - (kk + 1)) + 1 by omega]
  show _ = cwf EP FB FR (lkB n S1 S2) x (n - 1 - (kk + 1)) + fee1 FB FR (EP (lkB n S1 S2 (n - 1 - (kk + 1)))) (cwf EP FB FR (lkB n S1 S2) x (n - 1 - (kk + 1)))
  rw [← h]
  unfold lkB fee1
  rw [show n - 1 - (n - 1 - (kk + 1)) = kk + 1 by omega, ← hg, Int32.add_assoc]
theorem cw_l {EP : Nat → Nat} {FB FR : Nat → Int32} {n kk : Nat} {S1 S2 : Nat → Nat} {x y : Int32} (hk : ¬ kk + 1 < n) (h : y = cwf EP FB FR (lkB n S1 S2) x (n - 1 - (kk + 1))) : y = cwf EP FB FR (lkB n S1 S2) x (n - 1 - kk) := by
  rw [show n - 1 - kk = n - 1 - (kk + 1) by omega]
  exact h
/-- what is carried so far -/
def cwD (EP : Nat → Nat) (MS FB FR : Nat → Int32) (n : Nat) (S1 S2 : Nat → Nat) (x : Int32) (k : Nat) (C : Nat → Int32) : Prop := ∀ z, k ≤ z → z < n → C z = cwf EP FB FR (lkB n S1 S2) x (n - 1 - z) ∧ ¬ MS (2 * S1 z + S2 z) < cwf EP FB FR (lkB n S1 S2) x (n - 1 - z)
theorem cwD_0 {EP : Nat → Nat} {MS FB FR : Nat → Int32} {n : Nat} {S1 S2 : Nat → Nat} {x : Int32} {C : Nat → Int32} : cwD EP MS FB FR n S1 S2 x n C := fun z h1 h2 => by omega
theorem cwD_s {EP : Nat → Nat} {MS FB FR : Nat → Int32} {n kk : Nat} {S1 S2 : Nat → Nat} {x y : Int32} {C : Nat → Int32} (h : cwD EP MS FB FR n S1 S2 x (kk + 1) C) (hy : y = cwf EP FB FR (lkB n S1 S2) x (n - 1 - kk)) (hs : ¬ MS (2 * S1 kk + S2 kk) < y) : cwD EP MS FB FR n S1 S2 x kk (upd C kk y) := by
  intro z h1 h2
  by_cases e : z = kk
  · rw [e, pk_us, ← hy]
    exact ⟨rfl, hs⟩
  · rw [pk_un e]
    exact h z (by omega) h2
-- what is carried is a number from 1 on
theorem fee_ok {FB FR : Nat → Int32} {g : Nat} {y : Int32} (hB : 0 ≤ (FB g).toInt ∧ (FB g).toInt ≤ 100) (hR : 0 ≤ (FR g).toInt ∧ (FR g).toInt ≤ 100) (hy : 1 ≤ y.toInt) (hy2 : y.toInt ≤ 200000) : 1 ≤ (y + fee1 FB FR g y).toInt := by
  obtain ⟨a, a1, a2, a3⟩ := i32_nat (a := y) (by omega)
  obtain ⟨r, r1, r2, r3⟩ := i32_nat hR.1
  obtain ⟨c, c1, c2, c3⟩ := i32_nat hB.1
  unfold fee1
  have ha : a ≤ 200000 := by omega
  have hr : r ≤ 100 := by omega
  have hm : a * r ≤ 200000 * 100 := Nat.mul_le_mul ha hr
  have hd : a * r / 1000 ≤ a * r := Nat.div_le_self _ _
  rw [a2, r2, c2, pk_mul, show (1000 : Int32) = nI 1000 from rfl, pk_div (by omega) (by decide) (by decide), nI_add, nI_add, nI_toInt (by omega)]
  omega
theorem cwf_pos {EP : Nat → Nat} {MS FB FR : Nat → Int32} {B : Nat → Nat} {x : Int32} (hS : ∀ k, 0 ≤ (MS k).toInt ∧ (MS k).toInt ≤ 200000) (hB : ∀ g, 0 ≤ (FB g).toInt ∧ (FB g).toInt ≤ 100) (hR : ∀ g, 0 ≤ (FR g).toInt ∧ (FR g).toInt ≤ 100) (hx : 1 ≤ x.toInt) : ∀ z, (∀ w, w < z → ¬ MS (B w) < cwf EP FB FR B x w) → 1 ≤ (cwf EP FB FR B x z).toInt := by
  intro z
  induction z with
  | zero => intro _; exact hx
  | succ z ih =>
    intro h
    have i1 := ih (fun w hw => h w (by omega))
    have i2 := h z (by omega)
    have i3 : (cwf EP FB FR B x z).toInt ≤ 200000 := by
      have := hS (B z)
      have h4 : ¬ (MS (B z)).toInt < (cwf EP FB FR B x z).toInt := fun q => i2 (Int32.lt_iff_toInt_lt.mpr q)
      omega
    exact fee_ok (hB _) (hR _) i1 i3
theorem cwf_n1 {EP : Nat → Nat} {MS FB FR : Nat → Int32} {B : Nat → Nat} {x : Int32} {z : Nat} (hS : ∀ k, 0 ≤ (MS k).toInt ∧ (MS k).toInt ≤ 200000) (hB : ∀ g, 0 ≤ (FB g).toInt ∧ (FB g).toInt ≤ 100) (hR : ∀ g, 0 ≤ (FR g).toInt ∧ (FR g).toInt ≤ 100) (hx : 1 ≤ x.toInt) (h : ∀ w, w < z → ¬ MS (B w) < cwf EP FB FR B x w) : ¬ cwf EP FB FR B x z = -1 := by
  intro q
  have := cwf_pos hS hB hR hx z h
  rw [q] at this
  exact absurd this (by decide)
theorem oth_k (k : Nat) : oth k = 2 * (k / 2) + 1 - k % 2 := by unfold oth; omega
section WSM2
variable {EP : Nat → Nat} {PH SI FB FR : Nat → Int32} {np s d : Nat} {x : Int32} {kk b : Nat} {AP S1 S2 T : Nat → Nat} {be : Int32} {bm : Nat} {DB1 DB2 : Nat → Nat} {DB3 : Nat → Int32}
theorem WDn_0 (h : T 0 = 0) : WDn EP PH SI FB FR np s d x 1 (qrow 1 S1 S2 T) be bm DB1 := by
  intro n B hw hl
  rcases hl with hl | ⟨j, j1, j2, j3, j4⟩
  · omega
  · rw [show j = 0 by omega, qrow_ge (by omega), h] at j4
    omega
theorem WDn_n1 {v : Nat} (hv : v = T kk + 1) (h : WDn EP PH SI FB FR np s d x (kk + 1) (qrow (kk + 1) S1 S2 T) be bm DB1) (hD : DFS (kk + 1) AP b EP S1 S2) (hX : WX EP PH np s d (kk + 1) AP b S1 S2 T) (hn : ¬ PH (T kk / 2) = 0) : WDn EP PH SI FB FR np s d x (kk + 1) (qrow (kk + 1) S1 S2 (upN T kk v)) be bm DB1 := WDn_no hv h hD hX (Or.inl hn)
theorem WDn_n2 {v : Nat} (hv : v = T kk + 1) (h : WDn EP PH SI FB FR np s d x (kk + 1) (qrow (kk + 1) S1 S2 T) be bm DB1) (hD : DFS (kk + 1) AP b EP S1 S2) (hX : WX EP PH np s d (kk + 1) AP b S1 S2 T) (hn : ¬ EP (T kk) = AP kk) : WDn EP PH SI FB FR np s d x (kk + 1) (qrow (kk + 1) S1 S2 (upN T kk v)) be bm DB1 := WDn_no hv h hD hX (Or.inr (Or.inl hn))
theorem WDn_n3 {v : Nat} (hv : v = T kk + 1) (h : WDn EP PH SI FB FR np s d x (kk + 1) (qrow (kk + 1) S1 S2 T) be bm DB1) (hD : DFS (kk + 1) AP b EP S1 S2) (hX : WX EP PH np s d (kk + 1) AP b S1 S2 T) (h7 : EP (2 * (T kk / 2) + 1 - T kk % 2) < 7) (hn : b / 2 ^ EP (2 * (T kk / 2) + 1 - T kk % 2) % 2 = 1) : WDn EP PH SI FB FR np s d x (kk + 1) (qrow (kk + 1) S1 S2 (upN T kk v)) be bm DB1 := by
  rw [← oth_k] at h7 hn
  obtain ⟨j, j1, j2⟩ := hX.2.2.2 _ h7 hn
  exact WDn_no hv h hD hX (Or.inr (Or.inr ⟨hn, h7, by rw [← j2]; exact hX.2.1 j j1⟩))
theorem WDn_push {p t v : Nat} (hv : v = T kk + 1) (hT : T kk = 2 * p + t) (h : WDn EP PH SI FB FR np s d x (kk + 1) (qrow (kk + 1) S1 S2 T) be bm DB1) : WDn EP PH SI FB FR np s d x (kk + 2) (qrow (kk + 2) (upN S1 kk p) (upN S2 kk t) (upN (upN T kk v) (kk + 1) 0)) be bm DB1 := fun n B hw hl => h n B hw ((lexB_push hv hT).mp hl)
theorem WBs_push {p t v : Nat} (hv : v = T kk + 1) (hT : T kk = 2 * p + t) (h : WBs EP PH SI FB FR np s d x (kk + 1) (qrow (kk + 1) S1 S2 T) be bm DB1 DB2 DB3) : WBs EP PH SI FB FR np s d x (kk + 2) (qrow (kk + 2) (upN S1 kk p) (upN S2 kk t) (upN (upN T kk v) (kk + 1) 0)) be bm DB1 DB2 DB3 := fun hb => by
  obtain ⟨h1, h2, h3, h4⟩ := h hb
  exact ⟨h1, h2, h3, (lexB_push hv hT).mpr h4⟩
theorem WDn_pop (hT : T (kk + 1) = 2 * np) (hD : DFS (kk + 2) AP b EP S1 S2) (hX : WX EP PH np s d (kk + 2) AP b S1 S2 T) (h : WDn EP PH SI FB FR np s d x (kk + 2) (qrow (kk + 2) S1 S2 T) be bm DB1) : WDn EP PH SI FB FR np s d x (kk + 1) (qrow (kk + 1) S1 S2 T) be bm DB1 := fun n B hw hl => h n B hw (lexB_pop hT hD hX (isW_F hw) hl)
theorem WBs_pop (hX : WX EP PH np s d (kk + 2) AP b S1 S2 T) (h : WBs EP PH SI FB FR np s d x (kk + 2) (qrow (kk + 2) S1 S2 T) be bm DB1 DB2 DB3) : WBs EP PH SI FB FR np s d x (kk + 1) (qrow (kk + 1) S1 S2 T) be bm DB1 DB2 DB3 := fun hb => by
  obtain ⟨h1, h2, h3, h4⟩ := h hb
  exact ⟨h1, h2, h3, lexB_popB hX h4⟩
theorem WDn_pop0 {Q : Nat → Nat} (hT : T 0 = 2 * np) (h : WDn EP PH SI FB FR np s d x 1 (qrow 1 S1 S2 T) be bm DB1) : WDn EP PH SI FB FR np s d x 0 Q be bm DB1 := fun n B hw _ => h n B hw (Or.inr ⟨0, by omega, hw.1, fun z hz => by omega, by
  rw [qrow_ge (by omega), hT]
  exact ((isW_F hw).2.1 0 hw.1).1⟩)
theorem WBs_pop0 {Q : Nat → Nat} {dd : Nat} {Q0 : Nat → Nat} (h : WBs EP PH SI FB FR np s d x dd Q0 be bm DB1 DB2 DB3) : WBs EP PH SI FB FR np s d x 0 Q be bm DB1 DB2 DB3 := fun hb => by
  obtain ⟨h1, h2, h3, -⟩ := h hb
  exact ⟨h1, h2, h3, Or.inl rfl⟩
/-- at the end: the best way of all -/
theorem WDn_all {Q : Nat → Nat} {B0 : Nat → Nat} (h : WDn EP PH SI FB FR np s d x 0 Q be bm DB1) (hB : WBs EP PH SI FB FR np s d x 0 Q be bm DB1 DB2 DB3) (hb : ¬ be = -1) : WAll EP PH SI FB FR np s d x 0 B0 np bm be DB1 ∧ WOK EP PH SI FB FR np s d x bm be DB1 DB2 ∧ ∀ z, z < bm → DB3 z = cwf EP FB FR (lkB bm DB1 DB2) x (bm - 1 - z) := by
  obtain ⟨h1, h2, h3, -⟩ := hB hb
  refine ⟨fun n B' hw _ _ _ => ⟨?_, (h n B' hw (Or.inl rfl)).2⟩, fun _ => ⟨h1, h2⟩, h3⟩
  have := h1.1
  omega
theorem WDn_none {Q : Nat → Nat} {B0 : Nat → Nat} {c1 : Int32} {P1 : Nat → Nat} (h : WDn EP PH SI FB FR np s d x 0 Q be bm DB1) (hb : be = -1) : WAll EP PH SI FB FR np s d x 0 B0 np 0 c1 P1 := fun n B' hw _ _ _ => absurd hb (h n B' hw (Or.inl rfl)).1
end WSM2
