-- the reference's search for ways, from who pays on
def fwd (n : Nat) (B : Nat → Nat) : Nat → Nat := fun z => B (n - 1 - z)
/-- a way as it goes -/
def isF (EP : Nat → Nat) (PH : Nat → Int32) (np s d n : Nat) (K : Nat → Nat) : Prop := 1 ≤ n ∧ (∀ z, z < n → K z < 2 * np ∧ PH (K z / 2) = 0) ∧ EP (K 0) = s ∧ (∀ z, z + 1 < n → EP (oth (K z)) = EP (K (z + 1))) ∧ EP (oth (K (n - 1))) = d ∧ (∀ i j, i < j → j < n → EP (K i) ≠ EP (K j)) ∧ (∀ i, i < n → EP (K i) ≠ d)
theorem isW_F {EP : Nat → Nat} {PH SI FB FR : Nat → Int32} {np s d : Nat} {x : Int32} {n : Nat} {B : Nat → Nat} (h : isW EP PH SI FB FR np s d x n B) : isF EP PH np s d n (fwd n B) := by
  obtain ⟨h1, h2, h3, h4⟩ := h
  obtain ⟨m, rfl⟩ : ∃ m, n = m + 1 := ⟨n - 1, by omega⟩
  refine ⟨h1, fun z hz => ?_, ?_, fun z hz => ?_, ?_, fun i j hij hj => ?_, fun i hi => ?_⟩
  · obtain ⟨a1, a2, -⟩ := h2 (m + 1 - 1 - z) (by omega)
    exact ⟨a1, a2⟩
  · exact h3
  · obtain ⟨-, -, a3, -⟩ := h2 (m + 1 - 1 - z) (by omega)
    rw [show m + 1 - 1 - z = (m - (z + 1)) + 1 by omega] at a3
    show EP (oth (B (m + 1 - 1 - z))) = EP (B (m + 1 - 1 - (z + 1)))
    rw [show m + 1 - 1 - z = (m - (z + 1)) + 1 by omega, a3, show m + 1 - 1 - (z + 1) = m - (z + 1) by omega]
    rfl
  · obtain ⟨-, -, a3, -⟩ := h2 0 (by omega)
    show EP (oth (B (m + 1 - 1 - (m + 1 - 1)))) = d
    rw [Nat.sub_self]
    exact a3
  · have := h4 (m + 1 - 1 - j + 1) (m + 1 - 1 - i + 1) (by omega) (by omega)
    exact fun q => this q.symm
  · have := h4 0 (m + 1 - 1 - i + 1) (by omega) (by omega)
    exact fun q => this q.symm
theorem F_isW {EP : Nat → Nat} {PH SI FB FR : Nat → Int32} {np s d : Nat} {x : Int32} {n : Nat} {S1 S2 : Nat → Nat} (h : isF EP PH np s d n (fun z => 2 * S1 z + S2 z)) (hc : ∀ z, z < n → ¬ SI (2 * S1 z + S2 z) < cwf EP FB FR (lkB n S1 S2) x (n - 1 - z)) : isW EP PH SI FB FR np s d x n (lkB n S1 S2) := by
  obtain ⟨h1, h2, h3, h4, h5, h6, h7⟩ := h
  have g : ∀ z, z < n → gwf EP d (lkB n S1 S2) (z + 1) = EP (2 * S1 (n - 1 - z) + S2 (n - 1 - z)) := fun z hz => rfl
  refine ⟨h1, fun z hz => ?_, ?_, fun i j hij hj => ?_⟩
  · obtain ⟨a1, a2⟩ := h2 (n - 1 - z) (by omega)
    have a4 := hc (n - 1 - z) (by omega)
    rw [show n - 1 - (n - 1 - z) = z by omega] at a4
    refine ⟨a1, a2, ?_, a4⟩
    cases z with
    | zero => exact h5
    | succ z =>
      have := h4 (n - 1 - (z + 1)) (by omega)
      rw [show n - 1 - (z + 1) + 1 = n - 1 - z by omega] at this
      exact this
  · obtain ⟨m, rfl⟩ : ∃ m, n = m + 1 := ⟨n - 1, by omega⟩
    rw [g m (by omega), show m + 1 - 1 - m = 0 by omega]
    exact h3
  · cases i with
    | zero =>
      obtain ⟨k, rfl⟩ : ∃ k, j = k + 1 := ⟨j - 1, by omega⟩
      rw [g k (by omega)]
      exact fun q => h7 (n - 1 - k) (by omega) q.symm
    | succ i =>
      obtain ⟨k, rfl⟩ : ∃ k, j = k + 1 := ⟨j - 1, by omega⟩
      rw [g k (by omega), g i (by omega)]
      exact fun q => h6 (n - 1 - k) (n - 1 - i) (by omega) (by omega) q.symm
/-- behind in the order of the codes -/
def lexB (dd : Nat) (Q K : Nat → Nat) (n : Nat) : Prop := dd = 0 ∨ ∃ j, j < dd ∧ j < n ∧ (∀ z, z < j → K z = Q z) ∧ K j < Q j
def qrow (dd : Nat) (S1 S2 T : Nat → Nat) : Nat → Nat := fun j => if j + 1 < dd then 2 * S1 j + S2 j else T j
def WX (EP : Nat → Nat) (PH : Nat → Int32) (np s d dd : Nat) (AP : Nat → Nat) (b : Nat) (S1 S2 T : Nat → Nat) : Prop := (∀ j, j + 1 < dd → S1 j < np ∧ S2 j ≤ 1 ∧ PH (S1 j) = 0 ∧ EP (2 * S1 j + 1 - S2 j) = AP (j + 1) ∧ T j = 2 * S1 j + S2 j + 1) ∧ (∀ j, j < dd → AP j ≠ d) ∧ (0 < dd → AP 0 = s) ∧ (∀ a, a < 7 → b / 2 ^ a % 2 = 1 → ∃ j, j < dd ∧ AP j = a)
def WDn (EP : Nat → Nat) (PH SI FB FR : Nat → Int32) (np s d : Nat) (x : Int32) (dd : Nat) (Q : Nat → Nat) (be : Int32) (bm : Nat) (DB1 : Nat → Nat) : Prop := ∀ (n : Nat) (B : Nat → Nat), isW EP PH SI FB FR np s d x n B → lexB dd Q (fwd n B) n → ¬ be = -1 ∧ ¬ bLt (cwf EP FB FR B x (n - 1)) n (fun z => B (n - 1 - z) / 2) be bm DB1
def WBs (EP : Nat → Nat) (PH SI FB FR : Nat → Int32) (np s d : Nat) (x : Int32) (dd : Nat) (Q : Nat → Nat) (be : Int32) (bm : Nat) (DB1 DB2 : Nat → Nat) (DB3 : Nat → Int32) : Prop := ¬ be = -1 → isW EP PH SI FB FR np s d x bm (lkB bm DB1 DB2) ∧ be = cwf EP FB FR (lkB bm DB1 DB2) x (bm - 1) ∧ (∀ z, z < bm → DB3 z = cwf EP FB FR (lkB bm DB1 DB2) x (bm - 1 - z)) ∧ lexB dd Q (fwd bm (lkB bm DB1 DB2)) bm
section WSM
variable {EP : Nat → Nat} {PH SI FB FR : Nat → Int32} {np s d : Nat} {x : Int32} {kk b : Nat} {AP S1 S2 T : Nat → Nat} {be : Int32} {bm : Nat} {DB1 DB2 : Nat → Nat} {DB3 : Nat → Int32}
/-- where a way is that has gone as the search has -/
theorem WX_at (hD : DFS (kk + 1) AP b EP S1 S2) (hX : WX EP PH np s d (kk + 1) AP b S1 S2 T) {n : Nat} {K : Nat → Nat} (hw : isF EP PH np s d n K) (hp : ∀ z, z < kk → K z = 2 * S1 z + S2 z) : kk < n ∧ EP (K kk) = AP kk := by
  obtain ⟨x1, x2, x3, x4⟩ := hX
  have key : ∀ z, z ≤ kk → z < n ∧ EP (K z) = AP z := by
    intro z
    induction z with
    | zero => intro _; exact ⟨hw.1, by rw [hw.2.2.1, x3 (by omega)]⟩
    | succ z ih =>
      intro hz
      obtain ⟨i1, i2⟩ := ih (by omega)
      obtain ⟨a1, a2, a3, a4, a5⟩ := x1 z (by omega)
      have ho : oth (K z) = 2 * S1 z + 1 - S2 z := by rw [hp z (by omega), oth_code a2, side_1 a2]
      rcases Nat.lt_or_ge (z + 1) n with h | h
      · have := hw.2.2.2.1 z h
        rw [ho, a4] at this
        exact ⟨h, this.symm⟩
      · have := hw.2.2.2.2.1
        rw [show n - 1 = z by omega, ho, a4] at this
        exact absurd this (x2 (z + 1) (by omega))
  exact key kk (Nat.le_refl _)
theorem qrow_lt {dd j : Nat} (h : j + 1 < dd) : qrow dd S1 S2 T j = 2 * S1 j + S2 j := by unfold qrow; rw [if_pos h]
theorem qrow_ge {dd j : Nat} (h : ¬ j + 1 < dd) : qrow dd S1 S2 T j = T j := by unfold qrow; rw [if_neg h]
/-- one code more is tried: who is new -/
theorem lexB_inc {n : Nat} {K : Nat → Nat} {v : Nat} (hv : v = T kk + 1) (h : lexB (kk + 1) (qrow (kk + 1) S1 S2 (upN T kk v)) K n) : lexB (kk + 1) (qrow (kk + 1) S1 S2 T) K n ∨ (kk < n ∧ (∀ z, z < kk → K z = 2 * S1 z + S2 z) ∧ K kk = T kk) := by
  rcases h with h | ⟨j, j1, j2, j3, j4⟩
  · omega
  · by_cases e : j = kk
    · subst e
      have j5 : ∀ z, z < j → K z = 2 * S1 z + S2 z := fun z hz => by rw [j3 z hz, qrow_lt (by omega)]
      rw [qrow_ge (by omega), upN_s] at j4
      by_cases e2 : K j = T j
      · exact Or.inr ⟨j2, j5, e2⟩
      · refine Or.inl (Or.inr ⟨j, j1, j2, fun z hz => by rw [qrow_lt (by omega)]; exact j5 z hz, ?_⟩)
        rw [qrow_ge (by omega)]
        omega
    · refine Or.inl (Or.inr ⟨j, j1, j2, fun z hz => ?_, ?_⟩)
      · rw [qrow_lt (by omega)]
        rw [j3 z hz, qrow_lt (by omega)]
      · rw [qrow_lt (by omega)] at j4 ⊢
        exact j4
theorem lexB_old {n : Nat} {K : Nat → Nat} {v : Nat} (hv : v = T kk + 1) (h : lexB (kk + 1) (qrow (kk + 1) S1 S2 T) K n) : lexB (kk + 1) (qrow (kk + 1) S1 S2 (upN T kk v)) K n := by
  rcases h with h | ⟨j, j1, j2, j3, j4⟩
  · omega
  · refine Or.inr ⟨j, j1, j2, fun z hz => ?_, ?_⟩
    · rw [qrow_lt (by omega)]
      rw [j3 z hz, qrow_lt (by omega)]
    · by_cases e : j = kk
      · subst e
        rw [qrow_ge (by omega)] at j4 ⊢
        rw [upN_s]
        omega
      · rw [qrow_lt (by omega)] at j4 ⊢
        exact j4
/-- the rows of steps at kk don't matter -/
theorem qrow_upd (v w : Nat) : qrow (kk + 1) (upN S1 kk v) (upN S2 kk w) T = qrow (kk + 1) S1 S2 T := by
  funext j
  unfold qrow
  split
  · rw [upN_n (by omega), upN_n (by omega)]
  · rfl
/-- no way goes on by the code -/
theorem WDn_no {v : Nat} (hv : v = T kk + 1) (h : WDn EP PH SI FB FR np s d x (kk + 1) (qrow (kk + 1) S1 S2 T) be bm DB1) (hD : DFS (kk + 1) AP b EP S1 S2) (hX : WX EP PH np s d (kk + 1) AP b S1 S2 T) (hn : ¬ PH (T kk / 2) = 0 ∨ ¬ EP (T kk) = AP kk ∨ b / 2 ^ EP (oth (T kk)) % 2 = 1 ∧ EP (oth (T kk)) < 7 ∧ EP (oth (T kk)) ≠ d) : WDn EP PH SI FB FR np s d x (kk + 1) (qrow (kk + 1) S1 S2 (upN T kk v)) be bm DB1 := by
  intro n B hw hl
  rcases lexB_inc hv hl with hl | ⟨l1, l2, l3⟩
  · exact h n B hw hl
  · exfalso
    have hF := isW_F hw
    obtain ⟨-, a2⟩ := WX_at hD hX hF l2
    have a3 := (hF.2.1 kk l1).2
    rw [l3] at a2 a3
    rcases hn with hn | hn | ⟨hn, h7, hd⟩
    · exact hn a3
    · exact hn a2
    · obtain ⟨j, j1, j2⟩ := hX.2.2.2 _ h7 hn
      -- the next one was met
      have a4 : ∀ z, z ≤ kk → EP (fwd n B z) = AP z := fun z hz => by
        have hD2 : DFS (z + 1) AP b EP S1 S2 := ⟨fun j hj => hD.1 j (by omega), fun i j h1 h2 => hD.2.1 i j h1 (by omega), hD.2.2.1, fun j hj => hD.2.2.2.1 j (by omega), fun j hj => hD.2.2.2.2 j (by omega)⟩
        by_cases e : z = kk
        · subst e
          rw [l3]
          exact a2
        · have hs : EP (fwd n B z) = EP (2 * S1 z + S2 z) := by rw [l2 z (by omega)]
          rw [hs]
          exact hD.2.2.2.2 z (by omega)
      rcases Nat.lt_or_ge (kk + 1) n with q | q
      · have a5 := hF.2.2.2.1 kk q
        rw [l3, ← j2, ← a4 j (by omega)] at a5
        exact hF.2.2.2.2.2.1 j (kk + 1) (by omega) q a5
      · have a5 := hF.2.2.2.2.1
        rw [show n - 1 = kk by omega, l3] at a5
        exact hd a5
theorem WBs_old {v : Nat} (hv : v = T kk + 1) (h : WBs EP PH SI FB FR np s d x (kk + 1) (qrow (kk + 1) S1 S2 T) be bm DB1 DB2 DB3) : WBs EP PH SI FB FR np s d x (kk + 1) (qrow (kk + 1) S1 S2 (upN T kk v)) be bm DB1 DB2 DB3 := fun hb => by
  obtain ⟨h1, h2, h3, h4⟩ := h hb
  exact ⟨h1, h2, h3, lexB_old hv h4⟩
theorem WX_inc (v : Nat) (hX : WX EP PH np s d (kk + 1) AP b S1 S2 T) : WX EP PH np s d (kk + 1) AP b S1 S2 (upN T kk v) := by
  obtain ⟨x1, x2, x3, x4⟩ := hX
  refine ⟨fun j hj => ?_, x2, x3, x4⟩
  rw [upN_n (by omega)]
  exact x1 j hj
theorem WX_upd (v w : Nat) (hX : WX EP PH np s d (kk + 1) AP b S1 S2 T) : WX EP PH np s d (kk + 1) AP b (upN S1 kk v) (upN S2 kk w) T := by
  obtain ⟨x1, x2, x3, x4⟩ := hX
  refine ⟨fun j hj => ?_, x2, x3, x4⟩
  rw [upN_n (by omega), upN_n (by omega)]
  exact x1 j hj
/-- the search has come to who gets it: the way that is gone -/
theorem WX_way (hD : DFS (kk + 1) AP b EP S1 S2) (hX : WX EP PH np s d (kk + 1) AP b S1 S2 T) {p t : Nat} (hp : p < np) (ht : t ≤ 1) (h0 : PH p = 0) (he : EP (2 * p + t) = AP kk) (hd : EP (2 * p + 1 - t) = d) : isF EP PH np s d (kk + 1) (fun z => 2 * upN S1 kk p z + upN S2 kk t z) := by
  obtain ⟨x1, x2, x3, x4⟩ := hX
  have hE : ∀ z, z ≤ kk → EP (2 * upN S1 kk p z + upN S2 kk t z) = AP z := by
    intro z hz
    by_cases e : z = kk
    · rw [e, upN_s, upN_s]
      exact he
    · rw [upN_n e, upN_n e]
      exact hD.2.2.2.2 z (by omega)
  refine ⟨by omega, fun z hz => ?_, ?_, fun z hz => ?_, ?_, fun i j hij hj => ?_, fun i hi => ?_⟩
  · dsimp only
    by_cases e : z = kk
    · rw [e, upN_s, upN_s, show (2 * p + t) / 2 = p by omega]
      exact ⟨by omega, h0⟩
    · obtain ⟨a1, a2, a3, -⟩ := x1 z (by omega)
      rw [upN_n e, upN_n e, show (2 * S1 z + S2 z) / 2 = S1 z by omega]
      exact ⟨by omega, a3⟩
  · rw [hE 0 (by omega), x3 (by omega)]
  · show EP (oth (2 * upN S1 kk p z + upN S2 kk t z)) = EP (2 * upN S1 kk p (z + 1) + upN S2 kk t (z + 1))
    obtain ⟨a1, a2, a3, a4, -⟩ := x1 z (by omega)
    rw [hE (z + 1) (by omega), upN_n (by omega), upN_n (by omega), oth_code a2, ← side_1 a2, a4]
  · show EP (oth (2 * upN S1 kk p (kk + 1 - 1) + upN S2 kk t (kk + 1 - 1))) = d
    rw [show kk + 1 - 1 = kk by omega, upN_s, upN_s, oth_code ht, ← side_1 ht]
    exact hd
  · show EP (2 * upN S1 kk p i + upN S2 kk t i) ≠ EP (2 * upN S1 kk p j + upN S2 kk t j)
    rw [hE i (by omega), hE j (by omega)]
    exact hD.2.1 i j hij hj
  · show EP (2 * upN S1 kk p i + upN S2 kk t i) ≠ d
    rw [hE i (by omega)]
    exact x2 i hi
/-- a way that goes on by the code to who gets it is that -/
theorem way_is (hD : DFS (kk + 1) AP b EP S1 S2) (hX : WX EP PH np s d (kk + 1) AP b S1 S2 T) {p t : Nat} (ht : t ≤ 1) (hT : T kk = 2 * p + t) (hd : EP (2 * p + 1 - t) = d) {n : Nat} {B : Nat → Nat} (hw : isW EP PH SI FB FR np s d x n B) (l1 : kk < n) (l2 : ∀ z, z < kk → fwd n B z = 2 * S1 z + S2 z) (l3 : fwd n B kk = T kk) : n = kk + 1 ∧ ∀ z, z < n → B z = lkB n (upN S1 kk p) (upN S2 kk t) z := by
  have hF := isW_F hw
  have hn : n = kk + 1 := by
    rcases Nat.lt_or_ge (kk + 1) n with q | q
    · have a5 := hF.2.2.2.1 kk q
      rw [l3, hT, oth_code ht, ← side_1 ht, hd] at a5
      exact absurd a5.symm (hF.2.2.2.2.2.2 (kk + 1) q)
    · omega
  subst hn
  refine ⟨rfl, fun z hz => ?_⟩
  have e : B z = fwd (kk + 1) B (kk + 1 - 1 - z) := by
    unfold fwd
    rw [show kk + 1 - 1 - (kk + 1 - 1 - z) = z by omega]
  rw [e]
  unfold lkB
  by_cases e2 : z = 0
  · rw [e2, show kk + 1 - 1 - 0 = kk by omega, upN_s, upN_s, l3, hT]
  · rw [upN_n (by omega), upN_n (by omega)]
    exact l2 _ (by omega)
theorem lexB_new {n : Nat} {B : Nat → Nat} {v : Nat} (hv : v = T kk + 1) (hn : n = kk + 1) (h : ∀ z, z < kk → fwd n B z = 2 * S1 z + S2 z) (h2 : fwd n B kk = T kk) : lexB (kk + 1) (qrow (kk + 1) S1 S2 (upN T kk v)) (fwd n B) n := by
  refine Or.inr ⟨kk, by omega, by omega, fun z hz => by rw [qrow_lt (by omega)]; exact h z hz, ?_⟩
  rw [qrow_ge (by omega), upN_s]
  omega
theorem lkB_fwd {p t : Nat} (hT : T kk = 2 * p + t) : (∀ z, z < kk → fwd (kk + 1) (lkB (kk + 1) (upN S1 kk p) (upN S2 kk t)) z = 2 * S1 z + S2 z) ∧ fwd (kk + 1) (lkB (kk + 1) (upN S1 kk p) (upN S2 kk t)) kk = T kk := by
  refine ⟨fun z hz => ?_, ?_⟩
  · unfold fwd lkB
    rw [show kk + 1 - 1 - (kk + 1 - 1 - z) = z by omega, upN_n (by omega), upN_n (by omega)]
  · unfold fwd lkB
    rw [show kk + 1 - 1 - (kk + 1 - 1 - kk) = kk by omega, upN_s, upN_s, hT]
/-- the way can't carry it -/
theorem WDn_short {v p t : Nat} (hv : v = T kk + 1) (h : WDn EP PH SI FB FR np s d x (kk + 1) (qrow (kk + 1) S1 S2 T) be bm DB1) (hD : DFS (kk + 1) AP b EP S1 S2) (hX : WX EP PH np s d (kk + 1) AP b S1 S2 T) (ht : t ≤ 1) (hT : T kk = 2 * p + t) (hd : EP (2 * p + 1 - t) = d) (hn : ∃ z, z < kk + 1 ∧ SI (2 * upN S1 kk p z + upN S2 kk t z) < cwf EP FB FR (lkB (kk + 1) (upN S1 kk p) (upN S2 kk t)) x (kk + 1 - 1 - z)) : WDn EP PH SI FB FR np s d x (kk + 1) (qrow (kk + 1) S1 S2 (upN T kk v)) be bm DB1 := by
  intro n B hw hl
  rcases lexB_inc hv hl with hl | ⟨l1, l2, l3⟩
  · exact h n B hw hl
  · exfalso
    obtain ⟨e1, e2⟩ := way_is hD hX ht hT hd hw l1 l2 l3
    subst e1
    obtain ⟨z, z1, z2⟩ := hn
    have a4 := (hw.2.1 (kk + 1 - 1 - z) (by omega)).2.2.2
    rw [cwf_congr e2 (kk + 1 - 1 - z) (by omega), e2 _ (by omega)] at a4
    unfold lkB at a4
    rw [show kk + 1 - 1 - (kk + 1 - 1 - z) = z by omega] at a4
    exact a4 z2
/-- the way is taken -/
theorem WDn_take {v p t : Nat} {c : Int32} {P1 : Nat → Nat} (hv : v = T kk + 1) (h : WDn EP PH SI FB FR np s d x (kk + 1) (qrow (kk + 1) S1 S2 T) be bm DB1) (hD : DFS (kk + 1) AP b EP S1 S2) (hX : WX EP PH np s d (kk + 1) AP b S1 S2 T) (ht : t ≤ 1) (hT : T kk = 2 * p + t) (hd : EP (2 * p + 1 - t) = d) (hc : c = cwf EP FB FR (lkB (kk + 1) (upN S1 kk p) (upN S2 kk t)) x (kk + 1 - 1)) (hc1 : ¬ c = -1) (hb : be = -1 ∨ c < be ∨ (c = be ∧ kk + 1 < bm)) (hP : ∀ z, z < kk + 1 → P1 z = upN S1 kk p z) (hF : ∀ z, upN S2 kk t z ≤ 1) : WDn EP PH SI FB FR np s d x (kk + 1) (qrow (kk + 1) S1 S2 (upN T kk v)) c (kk + 1) P1 := by
  intro n B hw hl
  refine ⟨hc1, ?_⟩
  rcases lexB_inc hv hl with hl | ⟨l1, l2, l3⟩
  · obtain ⟨g1, g2⟩ := h n B hw hl
    intro q
    refine g2 (bLt_tr q ?_)
    rcases hb with hb | hb | ⟨hb, hb2⟩
    · exact absurd hb g1
    · exact Or.inl hb
    · exact Or.inr ⟨hb, Or.inl hb2⟩
  · obtain ⟨e1, e2⟩ := way_is hD hX ht hT hd hw l1 l2 l3
    subst e1
    intro q
    rw [cwf_congr e2 (kk + 1 - 1) (by omega), ← hc] at q
    refine bLt_irr (bLt_congr (P' := P1) (Q' := P1) (fun z hz => ?_) (fun _ _ => rfl) q)
    rw [e2 _ (by omega)]
    unfold lkB
    rw [show kk + 1 - 1 - (kk + 1 - 1 - z) = z by omega, hP z hz]
    have := hF z
    omega
theorem WBs_take {v p t : Nat} {c : Int32} {P1 P2 : Nat → Nat} {P3 : Nat → Int32} (hv : v = T kk + 1) (hT : T kk = 2 * p + t) (hw : isW EP PH SI FB FR np s d x (kk + 1) (lkB (kk + 1) (upN S1 kk p) (upN S2 kk t))) (hc : c = cwf EP FB FR (lkB (kk + 1) (upN S1 kk p) (upN S2 kk t)) x (kk + 1 - 1)) (hP : ∀ z, z < kk + 1 → P1 z = upN S1 kk p z ∧ P2 z = upN S2 kk t z ∧ P3 z = cwf EP FB FR (lkB (kk + 1) (upN S1 kk p) (upN S2 kk t)) x (kk + 1 - 1 - z)) : WBs EP PH SI FB FR np s d x (kk + 1) (qrow (kk + 1) S1 S2 (upN T kk v)) c (kk + 1) P1 P2 P3 := by
  intro _
  have hB : ∀ z, z < kk + 1 → lkB (kk + 1) (upN S1 kk p) (upN S2 kk t) z = lkB (kk + 1) P1 P2 z := by
    intro z hz
    obtain ⟨q1, q2, -⟩ := hP (kk + 1 - 1 - z) (by omega)
    unfold lkB
    rw [q1, q2]
  obtain ⟨f1, f2⟩ := lkB_fwd (S1 := S1) (S2 := S2) hT
  have hfw : ∀ z, z < kk + 1 → fwd (kk + 1) (lkB (kk + 1) P1 P2) z = fwd (kk + 1) (lkB (kk + 1) (upN S1 kk p) (upN S2 kk t)) z := fun z hz => (hB _ (by omega)).symm
  refine ⟨isW_congr hB hw, ?_, fun z hz => ?_, lexB_new hv rfl (fun z hz => by rw [hfw z (by omega)]; exact f1 z hz) (by rw [hfw kk (by omega)]; exact f2)⟩
  · rw [hc]
    exact cwf_congr hB _ (by omega)
  · rw [(hP z hz).2.2]
    exact cwf_congr hB _ (by omega)
/-- the way is no better -/
theorem WDn_keep {v p t : Nat} {c : Int32} (hv : v = T kk + 1) (h : WDn EP PH SI FB FR np s d x (kk + 1) (qrow (kk + 1) S1 S2 T) be bm DB1) (hB : WBs EP PH SI FB FR np s d x (kk + 1) (qrow (kk + 1) S1 S2 T) be bm DB1 DB2 DB3) (hD : DFS (kk + 1) AP b EP S1 S2) (hX : WX EP PH np s d (kk + 1) AP b S1 S2 T) (hne : ∀ q, q < np → EP (2 * q) ≠ EP (2 * q + 1)) (h2F : ∀ z, DB2 z ≤ 1) (ht : t ≤ 1) (hT : T kk = 2 * p + t) (hd : EP (2 * p + 1 - t) = d) (hc : c = cwf EP FB FR (lkB (kk + 1) (upN S1 kk p) (upN S2 kk t)) x (kk + 1 - 1)) (hb1 : ¬ be = -1) (hb2 : ¬ c < be) (hb3 : c = be → ¬ kk + 1 < bm) : WDn EP PH SI FB FR np s d x (kk + 1) (qrow (kk + 1) S1 S2 (upN T kk v)) be bm DB1 := by
  intro n B hw hl
  rcases lexB_inc hv hl with hl | ⟨l1, l2, l3⟩
  · exact h n B hw hl
  · obtain ⟨e1, e2⟩ := way_is hD hX ht hT hd hw l1 l2 l3
    have e1' := e1
    subst e1
    refine ⟨hb1, fun q => ?_⟩
    rw [cwf_congr e2 (kk + 1 - 1) (by omega), ← hc] at q
    rcases q with q | ⟨q, q2⟩
    · exact hb2 q
    · rcases q2 with q2 | ⟨q2, k, k1, k2, k3⟩
      · exact hb3 q q2
      · obtain ⟨w1, -, -, w4⟩ := hB hb1
        have hF1 := isW_F w1
        have hF := isW_F hw
        rcases w4 with w4 | ⟨j, j1, j2, j3, j4⟩
        · omega
        · have hK : ∀ z, z ≤ kk → fwd (kk + 1) B z = qrow (kk + 1) S1 S2 T z := by
            intro z hz
            by_cases e : z = kk
            · rw [e, l3, qrow_ge (by omega)]
            · rw [l2 z (by omega), qrow_lt (by omega)]
          have hd1 : ∀ z, z < bm → fwd bm (lkB bm DB1 DB2) z / 2 = DB1 z := by
            intro z hz
            have := h2F z
            unfold fwd lkB
            rw [show bm - 1 - (bm - 1 - z) = z by omega]
            omega
          rw [← hK j (by omega)] at j4
          have same : ∀ z, z < j → fwd bm (lkB bm DB1 DB2) z = fwd (kk + 1) B z := fun z hz => by rw [j3 z hz, hK z (by omega)]
          -- the payers at j are one, so the pairs are apart
          have hpay : EP (fwd bm (lkB bm DB1 DB2) j) = EP (fwd (kk + 1) B j) := by
            by_cases e : j = 0
            · rw [e, hF1.2.2.1, hF.2.2.1]
            · have c1 := hF1.2.2.2.1 (j - 1) (by omega)
              have c2 := hF.2.2.2.1 (j - 1) (by omega)
              rw [show j - 1 + 1 = j by omega] at c1 c2
              rw [← c1, ← c2, same (j - 1) (by omega)]
          have hlt : DB1 j < fwd (kk + 1) B j / 2 := by
            rw [← hd1 j j2]
            apply Classical.byContradiction
            intro hh
            have h3 : fwd bm (lkB bm DB1 DB2) j / 2 = fwd (kk + 1) B j / 2 := by omega
            rcases half_eq h3 with h4 | h4
            · omega
            · rw [h4] at hpay
              exact ends_ne hne (hF.2.1 j (by omega)).1 hpay.symm
          have k3 : fwd (kk + 1) B k / 2 < DB1 k := k3
          have k2 : ∀ z, z < k → fwd (kk + 1) B z / 2 = DB1 z := k2
          rcases Nat.lt_trichotomy k j with h5 | h5 | h5
          · have h6 := hd1 k (by omega)
            rw [same k h5] at h6
            omega
          · subst h5
            omega
          · have h6 := k2 j h5
            omega
/-- deeper -/
theorem lexB_push {n : Nat} {K : Nat → Nat} {p t v : Nat} (hv : v = T kk + 1) (hT : T kk = 2 * p + t) : lexB (kk + 2) (qrow (kk + 2) (upN S1 kk p) (upN S2 kk t) (upN (upN T kk v) (kk + 1) 0)) K n ↔ lexB (kk + 1) (qrow (kk + 1) S1 S2 T) K n := by
  have hq : ∀ z, z ≤ kk → qrow (kk + 2) (upN S1 kk p) (upN S2 kk t) (upN (upN T kk v) (kk + 1) 0) z = qrow (kk + 1) S1 S2 T z := by
    intro z hz
    rw [qrow_lt (by omega)]
    by_cases e : z = kk
    · rw [e, upN_s, upN_s, qrow_ge (by omega), hT]
    · rw [upN_n e, upN_n e, qrow_lt (by omega)]
  constructor
  · rintro (h | ⟨j, j1, j2, j3, j4⟩)
    · omega
    · by_cases e : j = kk + 1
      · rw [e, qrow_ge (by omega), upN_s] at j4
        omega
      · exact Or.inr ⟨j, by omega, j2, fun z hz => by rw [j3 z hz, hq z (by omega)], by rw [← hq j (by omega)]; exact j4⟩
  · rintro (h | ⟨j, j1, j2, j3, j4⟩)
    · omega
    · exact Or.inr ⟨j, by omega, j2, fun z hz => by rw [j3 z hz, hq z (by omega)], by rw [hq j (by omega)]; exact j4⟩
theorem WX_push {p t v u : Nat} (hv : v = T kk + 1) (hT : T kk = 2 * p + t) (hX : WX EP PH np s d (kk + 1) AP b S1 S2 T) (hp : p < np) (ht : t ≤ 1) (h0 : PH p = 0) (hu : EP (2 * p + 1 - t) = u) (hud : u ≠ d) (hu7 : u < 7) (hb : b < 128) : WX EP PH np s d (kk + 2) (upN AP (kk + 1) u) (bset b u) (upN S1 kk p) (upN S2 kk t) (upN (upN T kk v) (kk + 1) 0) := by
  obtain ⟨x1, x2, x3, x4⟩ := hX
  refine ⟨fun j hj => ?_, fun j hj => ?_, fun _ => ?_, fun a ha hba => ?_⟩
  · by_cases e : j = kk
    · subst e
      rw [upN_s, upN_s, upN_s, upN_n (by omega), upN_s]
      exact ⟨hp, ht, h0, hu, by omega⟩
    · rw [upN_n e, upN_n e, upN_n (by omega), upN_n (by omega), upN_n (by omega)]
      exact x1 j (by omega)
  · by_cases e : j = kk + 1
    · rw [e, upN_s]
      exact hud
    · rw [upN_n e]
      exact x2 j (by omega)
  · rw [upN_n (by omega)]
    exact x3 (by omega)
  · rw [bset_bit hb hu7 ha] at hba
    by_cases e : a = u
    · exact ⟨kk + 1, by omega, by rw [upN_s, e]⟩
    · rw [if_neg e] at hba
      obtain ⟨j, j1, j2⟩ := x4 a ha hba
      exact ⟨j, by omega, by rw [upN_n (by omega)]; exact j2⟩
/-- back -/
theorem lexB_pop {n : Nat} {B : Nat → Nat} (hT : T (kk + 1) = 2 * np) (hD : DFS (kk + 2) AP b EP S1 S2) (hX : WX EP PH np s d (kk + 2) AP b S1 S2 T) (hF : isF EP PH np s d n (fwd n B)) : lexB (kk + 1) (qrow (kk + 1) S1 S2 T) (fwd n B) n → lexB (kk + 2) (qrow (kk + 2) S1 S2 T) (fwd n B) n := by
  rintro (h | ⟨j, j1, j2, j3, j4⟩)
  · omega
  · have j5 : ∀ z, z < j → fwd n B z = 2 * S1 z + S2 z := fun z hz => by rw [j3 z hz, qrow_lt (by omega)]
    by_cases e : j = kk
    · subst e
      rw [qrow_ge (by omega), (hX.1 j (by omega)).2.2.2.2] at j4
      by_cases e2 : fwd n B j = 2 * S1 j + S2 j
      · have hp : ∀ z, z < j + 1 → fwd n B z = 2 * S1 z + S2 z := by
          intro z hz
          by_cases e3 : z = j
          · rw [e3]
            exact e2
          · exact j5 z (by omega)
        obtain ⟨a1, -⟩ := WX_at hD hX hF hp
        refine Or.inr ⟨j + 1, by omega, a1, fun z hz => by rw [hp z hz, qrow_lt (by omega)], ?_⟩
        rw [qrow_ge (by omega), hT]
        exact (hF.2.1 (j + 1) a1).1
      · refine Or.inr ⟨j, by omega, j2, fun z hz => by rw [j5 z hz, qrow_lt (by omega)], ?_⟩
        rw [qrow_lt (by omega)]
        omega
    · refine Or.inr ⟨j, by omega, j2, fun z hz => by rw [j5 z hz, qrow_lt (by omega)], ?_⟩
      rw [qrow_lt (by omega)] at j4 ⊢
      exact j4
theorem lexB_popB {n : Nat} {K : Nat → Nat} (hX : WX EP PH np s d (kk + 2) AP b S1 S2 T) : lexB (kk + 2) (qrow (kk + 2) S1 S2 T) K n → lexB (kk + 1) (qrow (kk + 1) S1 S2 T) K n := by
  rintro (h | ⟨j, j1, j2, j3, j4⟩)
  · omega
  · by_cases e : j = kk + 1
    · refine Or.inr ⟨kk, by omega, by omega, fun z hz => by rw [j3 z (by omega), qrow_lt (by omega), qrow_lt (by omega)], ?_⟩
      rw [qrow_ge (by omega), j3 kk (by omega), qrow_lt (by omega), (hX.1 kk (by omega)).2.2.2.2]
      omega
    · refine Or.inr ⟨j, by omega, j2, fun z hz => by rw [j3 z hz, qrow_lt (by omega), qrow_lt (by omega)], ?_⟩
      by_cases e2 : j = kk
      · subst e2
        rw [qrow_lt (by omega)] at j4
        rw [qrow_ge (by omega), (hX.1 j (by omega)).2.2.2.2]
        omega
      · rw [qrow_lt (by omega)] at j4 ⊢
        exact j4
theorem WX_pop (hX : WX EP PH np s d (kk + 2) AP b S1 S2 T) (hb : b < 128) (h6 : AP (kk + 1) < 7) : WX EP PH np s d (kk + 1) AP (bclr b (AP (kk + 1))) S1 S2 T := by
  obtain ⟨x1, x2, x3, x4⟩ := hX
  refine ⟨fun j hj => x1 j (by omega), fun j hj => x2 j (by omega), fun _ => x3 (by omega), fun a ha hba => ?_⟩
  rw [bt_c b hb _ h6 _ ha] at hba
  by_cases e : a = AP (kk + 1)
  · rw [if_pos e] at hba
    omega
  · rw [if_neg e] at hba
    obtain ⟨j, j1, j2⟩ := x4 a ha hba
    refine ⟨j, ?_, j2⟩
    apply Classical.byContradiction
    intro hh
    have : j = kk + 1 := by omega
    subst this
    exact e j2.symm
theorem WX_pop0 (hX : WX EP PH np s d 1 AP b S1 S2 T) {b' : Nat} (hb : ∀ a, a < 7 → b' / 2 ^ a % 2 = 1 → False) : WX EP PH np s d 0 AP b' S1 S2 T := ⟨fun j hj => by omega, fun j hj => by omega, fun h => by omega, fun a ha h => (hb a ha h).elim⟩
theorem WX_init {a : Nat} (ha : a < 7) (hsd : ¬ a = d) (S1 S2 T : Nat → Nat) : WX EP PH np a d 1 (fun _ => a) (2 ^ a) S1 S2 T := by
  refine ⟨fun j hj => by omega, fun j hj => hsd, fun _ => rfl, fun c hc hb => ⟨0, by omega, ?_⟩⟩
  have h1 := bt_s 0 (by decide) a ha c hc
  have h2 : bset 0 a = 2 ^ a := by unfold bset; rw [Nat.zero_or]
  rw [h2] at h1
  rw [h1] at hb
  by_cases e : c = a
  · exact e.symm
  · rw [if_neg e, Nat.zero_div] at hb
    exact absurd hb (by decide)
end WSM
