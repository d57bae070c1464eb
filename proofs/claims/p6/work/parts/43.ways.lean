-- ways, from the last pair back
def oth (k : Nat) : Nat := 2 * (k / 2) + (1 - k % 2)
def fee1 (FB FR : Nat → Int32) (g : Nat) (y : Int32) : Int32 := FB g + y * FR g / 1000
/-- what a pair carries; who gets it -/
def cwf (EP : Nat → Nat) (FB FR : Nat → Int32) (B : Nat → Nat) (x : Int32) : Nat → Int32
  | 0 => x
  | z + 1 => cwf EP FB FR B x z + fee1 FB FR (EP (B z)) (cwf EP FB FR B x z)
def gwf (EP : Nat → Nat) (d : Nat) (B : Nat → Nat) : Nat → Nat
  | 0 => d
  | z + 1 => EP (B z)
def isW (EP : Nat → Nat) (PH SI FB FR : Nat → Int32) (np s d : Nat) (x : Int32) (n : Nat) (B : Nat → Nat) : Prop := 1 ≤ n ∧ (∀ z, z < n → B z < 2 * np ∧ PH (B z / 2) = 0 ∧ EP (oth (B z)) = gwf EP d B z ∧ ¬ SI (B z) < cwf EP FB FR B x z) ∧ gwf EP d B n = s ∧ (∀ i j, i < j → j ≤ n → gwf EP d B i ≠ gwf EP d B j)
def rowLt (n m : Nat) (P Q : Nat → Nat) : Prop := n < m ∨ (n = m ∧ ∃ k, k < n ∧ (∀ z, z < k → P z = Q z) ∧ P k < Q k)
def bLt (c : Int32) (n : Nat) (P : Nat → Nat) (c' : Int32) (n' : Nat) (P' : Nat → Nat) : Prop := c < c' ∨ (c = c' ∧ rowLt n n' P P')
def WOK (EP : Nat → Nat) (PH SI FB FR : Nat → Int32) (np s d : Nat) (x : Int32) (bl : Nat) (wbc : Int32) (BEP BEF : Nat → Nat) : Prop := ¬ bl = 0 → isW EP PH SI FB FR np s d x bl (fun z => 2 * BEP (bl - 1 - z) + BEF (bl - 1 - z)) ∧ wbc = cwf EP FB FR (fun z => 2 * BEP (bl - 1 - z) + BEF (bl - 1 - z)) x (bl - 1)
def WMono (bl : Nat) (wbc : Int32) (BEP : Nat → Nat) (bl' : Nat) (wbc' : Int32) (BEP' : Nat → Nat) : Prop := ¬ bl = 0 → ¬ bl' = 0 ∧ ∀ (c : Int32) (n : Nat) (P : Nat → Nat), ¬ bLt c n P wbc bl BEP → ¬ bLt c n P wbc' bl' BEP'
def WAll (EP : Nat → Nat) (PH SI FB FR : Nat → Int32) (np s d : Nat) (x : Int32) (δ : Nat) (B : Nat → Nat) (lim bl : Nat) (wbc : Int32) (BEP : Nat → Nat) : Prop := ∀ (n : Nat) (B' : Nat → Nat), isW EP PH SI FB FR np s d x n B' → (∀ z, z < δ → B' z = B z) → δ < n → B' δ / 2 < lim → ¬ bl = 0 ∧ ¬ bLt (cwf EP FB FR B' x (n - 1)) n (fun z => B' (n - 1 - z) / 2) wbc bl BEP
/-- a search that has gone back over δ pairs, to g, with c -/
def SWP (EP : Nat → Nat) (PH SI FB FR : Nat → Int32) (np s d : Nat) (x : Int32) (WM : Nat → Int32) (B : Nat → Nat) (δ g : Nat) (c : Int32) : Prop := g = gwf EP d B δ ∧ c = cwf EP FB FR B x δ ∧ (∀ h, h < 7 → (¬ WM h = 0 ↔ ∃ z, z ≤ δ ∧ gwf EP d B z = h)) ∧ (∀ z, z < δ → B z < 2 * np ∧ PH (B z / 2) = 0 ∧ EP (oth (B z)) = gwf EP d B z ∧ ¬ SI (B z) < cwf EP FB FR B x z) ∧ (∀ z, z ≤ δ → gwf EP d B z ≠ s ∧ gwf EP d B z < 7) ∧ (∀ i j, i < j → j ≤ δ → gwf EP d B i ≠ gwf EP d B j)
theorem oth_code {p t : Nat} (h : t ≤ 1) : oth (2 * p + t) = 2 * p + (1 - t) := by unfold oth; omega
theorem rowLt_irr {n : Nat} {P : Nat → Nat} : ¬ rowLt n n P P := by
  rintro (h | ⟨-, k, -, -, h⟩)
  · omega
  · omega
theorem rowLt_tr {a b c : Nat} {P Q R : Nat → Nat} (h : rowLt a b P Q) (h2 : rowLt b c Q R) : rowLt a c P R := by
  rcases h with h | ⟨e, k, k1, k2, k3⟩
  · rcases h2 with h2 | ⟨e2, -⟩
    · exact Or.inl (by omega)
    · exact Or.inl (by omega)
  · rcases h2 with h2 | ⟨e2, j, j1, j2, j3⟩
    · exact Or.inl (by omega)
    · refine Or.inr ⟨by omega, ?_⟩
      rcases Nat.lt_trichotomy k j with h | h | h
      · exact ⟨k, k1, fun z hz => (k2 z hz).trans (j2 z (by omega)), by rw [← j2 k h]; exact k3⟩
      · subst h
        exact ⟨k, k1, fun z hz => (k2 z hz).trans (j2 z hz), by omega⟩
      · exact ⟨j, by omega, fun z hz => (k2 z (by omega)).trans (j2 z hz), by rw [k2 j h]; exact j3⟩
theorem i32_tr {a b c : Int32} (h : a < b) (h2 : b < c) : a < c := by
  rw [Int32.lt_iff_toInt_lt] at *
  omega
theorem i32_irr {a : Int32} : ¬ a < a := by
  rw [Int32.lt_iff_toInt_lt]
  omega
theorem i32_tri (a b : Int32) : a < b ∨ a = b ∨ b < a := by
  rcases Int.lt_trichotomy a.toInt b.toInt with h | h | h
  · exact Or.inl (Int32.lt_iff_toInt_lt.mpr h)
  · exact Or.inr (Or.inl (Int32.toInt_inj.mp h))
  · exact Or.inr (Or.inr (Int32.lt_iff_toInt_lt.mpr h))
theorem bLt_tr {a b c : Int32} {n m k : Nat} {P Q R : Nat → Nat} (h : bLt a n P b m Q) (h2 : bLt b m Q c k R) : bLt a n P c k R := by
  rcases h with h | ⟨e, h⟩
  · rcases h2 with h2 | ⟨e2, -⟩
    · exact Or.inl (i32_tr h h2)
    · exact Or.inl (by rw [← e2]; exact h)
  · rcases h2 with h2 | ⟨e2, h2⟩
    · exact Or.inl (by rw [e]; exact h2)
    · exact Or.inr ⟨e.trans e2, rowLt_tr h h2⟩
theorem bLt_irr {a : Int32} {n : Nat} {P : Nat → Nat} : ¬ bLt a n P a n P := by
  rintro (h | ⟨-, h⟩)
  · exact i32_irr h
  · exact rowLt_irr h
/-- two rows neither of which is ahead: one -/
theorem rowLt_tri {n m : Nat} {P Q : Nat → Nat} (h : ¬ rowLt n m P Q) (h2 : ¬ rowLt m n Q P) : n = m ∧ ∀ z, z < n → P z = Q z := by
  have e : n = m := by
    rcases Nat.lt_trichotomy n m with h3 | h3 | h3
    · exact absurd (Or.inl h3) h
    · exact h3
    · exact absurd (Or.inl h3) h2
  subst e
  refine ⟨rfl, fun z => ?_⟩
  induction z using Nat.strongRecOn with
  | _ z ih =>
    intro hz
    rcases Nat.lt_trichotomy (P z) (Q z) with h3 | h3 | h3
    · exact absurd (Or.inr ⟨rfl, z, hz, fun y hy => ih y hy (by omega), h3⟩) h
    · exact h3
    · exact absurd (Or.inr ⟨rfl, z, hz, fun y hy => (ih y hy (by omega)).symm, h3⟩) h2
theorem bLt_tri {a b : Int32} {n m : Nat} {P Q : Nat → Nat} (h : ¬ bLt a n P b m Q) (h2 : ¬ bLt b m Q a n P) : a = b ∧ n = m ∧ ∀ z, z < n → P z = Q z := by
  have e : a = b := by
    rcases i32_tri a b with h3 | h3 | h3
    · exact absurd (Or.inl h3) h
    · exact h3
    · exact absurd (Or.inl h3) h2
  subst e
  exact ⟨rfl, rowLt_tri (fun z => h (Or.inr ⟨rfl, z⟩)) (fun z => h2 (Or.inr ⟨rfl, z⟩))⟩
section WAYS
variable {EP : Nat → Nat} {PH SI FB FR : Nat → Int32} {np s d : Nat} {x : Int32}
theorem gwf_congr {B B' : Nat → Nat} {n : Nat} (h : ∀ z, z < n → B z = B' z) : ∀ z, z ≤ n → gwf EP d B z = gwf EP d B' z := by
  intro z hz
  cases z with
  | zero => rfl
  | succ z =>
    show EP (B z) = EP (B' z)
    rw [h z (by omega)]
theorem cwf_congr {B B' : Nat → Nat} {n : Nat} (h : ∀ z, z < n → B z = B' z) : ∀ z, z ≤ n → cwf EP FB FR B x z = cwf EP FB FR B' x z := by
  intro z
  induction z with
  | zero => intro _; rfl
  | succ z ih =>
    intro hz
    show cwf EP FB FR B x z + fee1 FB FR (EP (B z)) (cwf EP FB FR B x z) = cwf EP FB FR B' x z + fee1 FB FR (EP (B' z)) (cwf EP FB FR B' x z)
    rw [ih (by omega), h z (by omega)]
theorem isW_congr {n : Nat} {B B' : Nat → Nat} (h : ∀ z, z < n → B z = B' z) (hw : isW EP PH SI FB FR np s d x n B) : isW EP PH SI FB FR np s d x n B' := by
  obtain ⟨h1, h2, h3, h4⟩ := hw
  refine ⟨h1, fun z hz => ?_, ?_, fun i j hij hj => ?_⟩
  · obtain ⟨a1, a2, a3, a4⟩ := h2 z hz
    rw [← h z hz, ← gwf_congr h z (by omega), ← cwf_congr h z (by omega)]
    exact ⟨a1, a2, a3, a4⟩
  · rw [← gwf_congr h n (Nat.le_refl _)]
    exact h3
  · rw [← gwf_congr h i (by omega), ← gwf_congr h j hj]
    exact h4 i j hij hj
theorem WMono_rf {bl : Nat} {wbc : Int32} {BEP : Nat → Nat} : WMono bl wbc BEP bl wbc BEP := fun h => ⟨h, fun _ _ _ h => h⟩
theorem WMono_tr {a b c : Nat} {u v w : Int32} {P Q R : Nat → Nat} (h : WMono a u P b v Q) (h2 : WMono b v Q c w R) : WMono a u P c w R := by
  intro h0
  obtain ⟨h3, h4⟩ := h h0
  obtain ⟨h5, h6⟩ := h2 h3
  exact ⟨h5, fun c n P hn => h6 c n P (h4 c n P hn)⟩
theorem WAll_0 {δ bl : Nat} {B : Nat → Nat} {wbc : Int32} {BEP : Nat → Nat} : WAll EP PH SI FB FR np s d x δ B 0 bl wbc BEP := fun _ _ _ _ _ h => absurd h (Nat.not_lt_zero _)
/-- a pair by which no way goes on -/
theorem WAll_no {δ i bl : Nat} {B : Nat → Nat} {wbc : Int32} {BEP : Nat → Nat} (h : WAll EP PH SI FB FR np s d x δ B i bl wbc BEP) (hn : ∀ (n : Nat) (B' : Nat → Nat), isW EP PH SI FB FR np s d x n B' → (∀ z, z < δ → B' z = B z) → δ < n → B' δ / 2 = i → False) : WAll EP PH SI FB FR np s d x δ B (i + 1) bl wbc BEP := by
  intro n B' hw hp hd hl
  by_cases e : B' δ / 2 = i
  · exact (hn n B' hw hp hd e).elim
  · exact h n B' hw hp hd (by omega)
theorem WAll_up {δ i bl bl' : Nat} {B : Nat → Nat} {wbc wbc' : Int32} {BEP BEP' : Nat → Nat} (h : WAll EP PH SI FB FR np s d x δ B i bl wbc BEP) (hm : WMono bl wbc BEP bl' wbc' BEP') (hn : ∀ (n : Nat) (B' : Nat → Nat), isW EP PH SI FB FR np s d x n B' → (∀ z, z < δ → B' z = B z) → δ < n → B' δ / 2 = i → ¬ bl' = 0 ∧ ¬ bLt (cwf EP FB FR B' x (n - 1)) n (fun z => B' (n - 1 - z) / 2) wbc' bl' BEP') : WAll EP PH SI FB FR np s d x δ B (i + 1) bl' wbc' BEP' := by
  intro n B' hw hp hd hl
  by_cases e : B' δ / 2 = i
  · exact hn n B' hw hp hd e
  · obtain ⟨h1, h2⟩ := h n B' hw hp hd (by omega)
    obtain ⟨h3, h4⟩ := hm h1
    exact ⟨h3, h4 _ _ _ h2⟩
theorem WAll_lim {δ i j bl : Nat} {B : Nat → Nat} {wbc : Int32} {BEP : Nat → Nat} (h : WAll EP PH SI FB FR np s d x δ B i bl wbc BEP) (hj : j ≤ i) : WAll EP PH SI FB FR np s d x δ B j bl wbc BEP := fun n B' hw hp hd hl => h n B' hw hp hd (by omega)
theorem WAll_congr {δ i bl : Nat} {B B2 : Nat → Nat} {wbc : Int32} {BEP : Nat → Nat} (hB : ∀ z, z < δ → B z = B2 z) (h : WAll EP PH SI FB FR np s d x δ B i bl wbc BEP) : WAll EP PH SI FB FR np s d x δ B2 i bl wbc BEP := fun n B' hw hp hd hl => h n B' hw (fun z hz => (hp z hz).trans (hB z hz).symm) hd hl
variable {WM : Nat → Int32} {B : Nat → Nat} {δ g : Nat} {c : Int32}
/-- what a way that goes on over pair i has there -/
theorem SWP_next (h : SWP EP PH SI FB FR np s d x WM B δ g c) {n : Nat} {B' : Nat → Nat} (hw : isW EP PH SI FB FR np s d x n B') (hp : ∀ z, z < δ → B' z = B z) (hd : δ < n) : EP (oth (B' δ)) = g ∧ PH (B' δ / 2) = 0 ∧ ¬ SI (B' δ) < c ∧ B' δ < 2 * np := by
  obtain ⟨a1, a2, a3, a4⟩ := hw.2.1 δ hd
  rw [gwf_congr hp δ (Nat.le_refl _), ← h.1] at a3
  rw [cwf_congr hp δ (Nat.le_refl _), ← h.2.1] at a4
  exact ⟨a3, a2, a4, a1⟩
theorem code_of {k i t : Nat} (hk : k / 2 = i) (ht : t ≤ 1) (h : oth k = 2 * i + t) : k = 2 * i + (1 - t) := by
  unfold oth at h
  omega
theorem oth_in {k i : Nat} (hk : k / 2 = i) : oth k = 2 * i ∨ oth k = 2 * i + 1 := by
  unfold oth
  omega
/-- where neither end is who gets it -/
theorem SW_none (h : SWP EP PH SI FB FR np s d x WM B δ g c) {i : Nat} (h0 : ¬ EP (2 * i) = g) (h1 : ¬ EP (2 * i + 1) = g) : ∀ (n : Nat) (B' : Nat → Nat), isW EP PH SI FB FR np s d x n B' → (∀ z, z < δ → B' z = B z) → δ < n → B' δ / 2 = i → False := by
  intro n B' hw hp hd e
  obtain ⟨a1, -⟩ := SWP_next h hw hp hd
  rcases oth_in e with q | q
  · rw [q] at a1; exact h0 a1
  · rw [q] at a1; exact h1 a1
theorem SW_code (h : SWP EP PH SI FB FR np s d x WM B δ g c) {i t : Nat} (hne : EP (2 * i) ≠ EP (2 * i + 1)) (ht : t ≤ 1) (he : EP (2 * i + t) = g) {n : Nat} {B' : Nat → Nat} (hw : isW EP PH SI FB FR np s d x n B') (hp : ∀ z, z < δ → B' z = B z) (hd : δ < n) (e : B' δ / 2 = i) : B' δ = 2 * i + (1 - t) := by
  obtain ⟨a1, -⟩ := SWP_next h hw hp hd
  refine code_of e ht ?_
  rcases oth_in e with q | q
  · rw [q] at a1 ⊢
    have : t = 0 := by
      rcases Nat.lt_or_ge 0 t with h3 | h3
      · have h4 : t = 1 := by omega
        subst h4
        exact absurd (a1.trans he.symm) hne
      · omega
    omega
  · rw [q] at a1 ⊢
    have : t = 1 := by
      rcases Nat.lt_or_ge 0 t with h3 | h3
      · omega
      · have h4 : t = 0 := by omega
        subst h4
        exact absurd (he.trans a1.symm) hne
    omega
theorem SW_closed (h : SWP EP PH SI FB FR np s d x WM B δ g c) {i : Nat} (h0 : ¬ PH i = 0) : ∀ (n : Nat) (B' : Nat → Nat), isW EP PH SI FB FR np s d x n B' → (∀ z, z < δ → B' z = B z) → δ < n → B' δ / 2 = i → False := by
  intro n B' hw hp hd e
  obtain ⟨-, a2, -⟩ := SWP_next h hw hp hd
  rw [e] at a2
  exact h0 a2
theorem SW_short (h : SWP EP PH SI FB FR np s d x WM B δ g c) {i t : Nat} (hne : EP (2 * i) ≠ EP (2 * i + 1)) (ht : t ≤ 1) (he : EP (2 * i + t) = g) (hs : SI (2 * i + 1 - t) < c) : ∀ (n : Nat) (B' : Nat → Nat), isW EP PH SI FB FR np s d x n B' → (∀ z, z < δ → B' z = B z) → δ < n → B' δ / 2 = i → False := by
  intro n B' hw hp hd e
  rw [side_1 ht] at hs
  obtain ⟨-, -, a3, -⟩ := SWP_next h hw hp hd
  rw [SW_code h hne ht he hw hp hd e] at a3
  exact a3 hs
/-- somebody that the search has met -/
theorem SW_met (h : SWP EP PH SI FB FR np s d x WM B δ g c) {i t : Nat} (hne : EP (2 * i) ≠ EP (2 * i + 1)) (ht : t ≤ 1) (he : EP (2 * i + t) = g) (h7 : EP (2 * i + 1 - t) < 7) (hm : ¬ WM (EP (2 * i + 1 - t)) = 0) : ∀ (n : Nat) (B' : Nat → Nat), isW EP PH SI FB FR np s d x n B' → (∀ z, z < δ → B' z = B z) → δ < n → B' δ / 2 = i → False := by
  intro n B' hw hp hd e
  rw [side_1 ht] at h7 hm
  have hc := SW_code h hne ht he hw hp hd e
  obtain ⟨z, z1, z2⟩ := (h.2.2.1 _ h7).mp hm
  refine hw.2.2.2 z (δ + 1) (by omega) (by omega) ?_
  rw [gwf_congr hp z z1, z2, ← hc]
  rfl
/-- the search goes one pair further back -/
theorem SWP_up {i t : Nat} (h : SWP EP PH SI FB FR np s d x WM B δ g c) (ht : t ≤ 1) (hi : i < np) (hp0 : PH i = 0) (he : EP (2 * i + t) = g) (hs : ¬ SI (2 * i + 1 - t) < c) (h7 : EP (2 * i + 1 - t) < 7) (hns : ¬ EP (2 * i + 1 - t) = s) (hm : WM (EP (2 * i + 1 - t)) = 0) {B2 : Nat → Nat} (hB : ∀ z, z < δ → B2 z = B z) (hk : B2 δ = 2 * i + (1 - t)) : SWP EP PH SI FB FR np s d x (upd WM (EP (2 * i + 1 - t)) 1) B2 (δ + 1) (EP (2 * i + 1 - t)) (c + fee1 FB FR (EP (2 * i + 1 - t)) c) := by
  rw [side_1 ht] at hs h7 hns hm ⊢
  obtain ⟨a1, a2, a3, a4, a5, a6⟩ := h
  have g1 : ∀ z, z ≤ δ → gwf EP d B2 z = gwf EP d B z := gwf_congr hB
  have g2 : gwf EP d B2 (δ + 1) = EP (2 * i + (1 - t)) := by
    show EP (B2 δ) = _
    rw [hk]
  have hnew : ∀ z, z ≤ δ → gwf EP d B z ≠ EP (2 * i + (1 - t)) := fun z hz e => (a3 _ h7).mpr ⟨z, hz, e⟩ hm
  refine ⟨g2.symm, ?_, fun h hh => ?_, fun z hz => ?_, fun z hz => ?_, fun j k hjk hk2 => ?_⟩
  · show _ = cwf EP FB FR B2 x δ + fee1 FB FR (EP (B2 δ)) (cwf EP FB FR B2 x δ)
    rw [cwf_congr hB δ (Nat.le_refl _), ← a2, hk]
  · by_cases e : h = EP (2 * i + (1 - t))
    · rw [e, pk_us]
      exact ⟨fun _ => ⟨δ + 1, Nat.le_refl _, g2⟩, fun _ => by decide⟩
    · rw [pk_un e, a3 h hh]
      constructor
      · rintro ⟨z, z1, z2⟩
        exact ⟨z, by omega, by rw [g1 z z1]; exact z2⟩
      · rintro ⟨z, z1, z2⟩
        by_cases e2 : z = δ + 1
        · rw [e2, g2] at z2
          exact absurd z2.symm e
        · exact ⟨z, by omega, by rw [← g1 z (by omega)]; exact z2⟩
  · by_cases e : z = δ
    · rw [e, hk, oth_code (by omega), show 1 - (1 - t) = t by omega, g1 δ (Nat.le_refl _), cwf_congr hB δ (Nat.le_refl _), ← a1, ← a2, show (2 * i + (1 - t)) / 2 = i by omega]
      exact ⟨by omega, hp0, he, hs⟩
    · obtain ⟨b1, b2, b3, b4⟩ := a4 z (by omega)
      rw [hB z (by omega), g1 z (by omega), cwf_congr hB z (by omega)]
      exact ⟨b1, b2, b3, b4⟩
  · by_cases e : z = δ + 1
    · rw [e, g2]
      exact ⟨hns, h7⟩
    · rw [g1 z (by omega)]
      exact a5 z (by omega)
  · by_cases e : k = δ + 1
    · rw [e, g2, g1 j (by omega)]
      exact hnew j (by omega)
    · rw [g1 j (by omega), g1 k (by omega)]
      exact a6 j k hjk (by omega)
/-- the search has come to who pays -/
theorem SW_way {i t : Nat} (h : SWP EP PH SI FB FR np s d x WM B δ g c) (ht : t ≤ 1) (hi : i < np) (hp0 : PH i = 0) (he : EP (2 * i + t) = g) (hs : ¬ SI (2 * i + 1 - t) < c) (hns : EP (2 * i + 1 - t) = s) {B2 : Nat → Nat} (hB : ∀ z, z < δ → B2 z = B z) (hk : B2 δ = 2 * i + (1 - t)) : isW EP PH SI FB FR np s d x (δ + 1) B2 ∧ cwf EP FB FR B2 x δ = c := by
  rw [side_1 ht] at hs hns
  obtain ⟨a1, a2, a3, a4, a5, a6⟩ := h
  have g1 : ∀ z, z ≤ δ → gwf EP d B2 z = gwf EP d B z := gwf_congr hB
  have g2 : gwf EP d B2 (δ + 1) = s := by
    show EP (B2 δ) = _
    rw [hk, hns]
  refine ⟨⟨by omega, fun z hz => ?_, g2, fun j k hjk hk2 => ?_⟩, ?_⟩
  · by_cases e : z = δ
    · rw [e, hk, oth_code (by omega), show 1 - (1 - t) = t by omega, g1 δ (Nat.le_refl _), cwf_congr hB δ (Nat.le_refl _), ← a1, ← a2, show (2 * i + (1 - t)) / 2 = i by omega]
      exact ⟨by omega, hp0, he, hs⟩
    · obtain ⟨b1, b2, b3, b4⟩ := a4 z (by omega)
      rw [hB z (by omega), g1 z (by omega), cwf_congr hB z (by omega)]
      exact ⟨b1, b2, b3, b4⟩
  · by_cases e : k = δ + 1
    · rw [e, g2, g1 j (by omega)]
      exact (a5 j (by omega)).1
    · rw [g1 j (by omega), g1 k (by omega)]
      exact a6 j k hjk (by omega)
  · rw [cwf_congr hB δ (Nat.le_refl _), ← a2]
/-- the search goes on: every way of the one is a way of the other -/
theorem SW_rec {i t : Nat} (h : SWP EP PH SI FB FR np s d x WM B δ g c) (hne : EP (2 * i) ≠ EP (2 * i + 1)) (ht : t ≤ 1) (he : EP (2 * i + t) = g) (hns : ¬ EP (2 * i + 1 - t) = s) {B2 : Nat → Nat} (hB : ∀ z, z < δ → B2 z = B z) (hk : B2 δ = 2 * i + (1 - t)) {bl : Nat} {wbc : Int32} {BEP : Nat → Nat} (ha : WAll EP PH SI FB FR np s d x (δ + 1) B2 np bl wbc BEP) : ∀ (n : Nat) (B' : Nat → Nat), isW EP PH SI FB FR np s d x n B' → (∀ z, z < δ → B' z = B z) → δ < n → B' δ / 2 = i → ¬ bl = 0 ∧ ¬ bLt (cwf EP FB FR B' x (n - 1)) n (fun z => B' (n - 1 - z) / 2) wbc bl BEP := by
  intro n B' hw hp hd e
  rw [side_1 ht] at hns
  have hc := SW_code h hne ht he hw hp hd e
  have hn : δ + 1 < n := by
    rcases Nat.lt_or_ge (δ + 1) n with h1 | h1
    · exact h1
    · have h2 : n = δ + 1 := by omega
      have h3 := hw.2.2.1
      rw [h2] at h3
      have h3 : EP (B' δ) = s := h3
      rw [hc] at h3
      exact absurd h3 hns
  refine ha n B' hw (fun z hz => ?_) hn (by have := (hw.2.1 (δ + 1) hn).1; omega)
  by_cases e2 : z = δ
  · rw [e2, hc, hk]
  · rw [hp z (by omega), hB z (by omega)]
theorem gwf_7 {n : Nat} {B' : Nat → Nat} (hE : ∀ z, EP z ≤ 6) (hd : d < 7) (z : Nat) : gwf EP d B' z < 7 := by
  cases z with
  | zero => exact hd
  | succ z =>
    have := hE (B' z)
    show EP (B' z) < 7
    omega
/-- no way is longer than six pairs -/
theorem isW_6 {n : Nat} {B' : Nat → Nat} (hE : ∀ z, EP z ≤ 6) (hd : d < 7) (hw : isW EP PH SI FB FR np s d x n B') : n ≤ 6 := by
  have := pig 7 (n + 1) (gwf EP d B') (fun j _ => gwf_7 (n := n) hE hd j) (fun i j h1 h2 => hw.2.2.2 i j h1 (by omega))
  omega
theorem SW_deep (h : SWP EP PH SI FB FR np s d x WM B δ g c) (hE : ∀ z, EP z ≤ 6) (h6 : 6 ≤ δ) {bl : Nat} {wbc : Int32} {BEP : Nat → Nat} : WAll EP PH SI FB FR np s d x δ B np bl wbc BEP := by
  intro n B' hw hp hd hl
  have h0 := (h.2.2.2.2.1 0 (Nat.zero_le _)).2
  have := isW_6 hE h0 hw
  omega
/-- a way is offered -/
def WOff (ln : Nat) (v : Int32) (TP TF : Nat → Nat) (bl : Nat) (wbc : Int32) (BEP BEF : Nat → Nat) (bl' : Nat) (wbc' : Int32) (BEP' BEF' : Nat → Nat) : Prop := ((bl = 0 ∨ bLt v ln (fun z => TP (ln - 1 - z)) wbc bl BEP) ∧ bl' = ln ∧ wbc' = v ∧ ∀ z, z < ln → BEP' z = TP (ln - 1 - z) ∧ BEF' z = TF (ln - 1 - z)) ∨ ((¬ bl = 0 ∧ ¬ bLt v ln (fun z => TP (ln - 1 - z)) wbc bl BEP) ∧ bl' = bl ∧ wbc' = wbc ∧ BEP' = BEP ∧ BEF' = BEF)
theorem rowLt_congr {n m : Nat} {P P' Q Q' : Nat → Nat} (h : ∀ z, z < n → P z = P' z) (h2 : ∀ z, z < m → Q z = Q' z) (hr : rowLt n m P Q) : rowLt n m P' Q' := by
  rcases hr with hr | ⟨e, k, k1, k2, k3⟩
  · exact Or.inl hr
  · refine Or.inr ⟨e, k, k1, fun z hz => ?_, ?_⟩
    · rw [← h z (by omega), ← h2 z (by omega)]
      exact k2 z hz
    · rw [← h k k1, ← h2 k (by omega)]
      exact k3
theorem bLt_congr {a b : Int32} {n m : Nat} {P P' Q Q' : Nat → Nat} (h : ∀ z, z < n → P z = P' z) (h2 : ∀ z, z < m → Q z = Q' z) (hr : bLt a n P b m Q) : bLt a n P' b m Q' := by
  rcases hr with hr | ⟨e, hr⟩
  · exact Or.inl hr
  · exact Or.inr ⟨e, rowLt_congr h h2 hr⟩
def pfx (P F : Nat → Nat) : Nat → Nat := fun z => 2 * P z + F z
variable {bl bl' : Nat} {wbc wbc' : Int32} {BEP BEF BEP' BEF' TP TF : Nat → Nat}
theorem WOff_ok (h : WOff (δ + 1) c TP TF bl wbc BEP BEF bl' wbc' BEP' BEF') (ho : WOK EP PH SI FB FR np s d x bl wbc BEP BEF) (hw : isW EP PH SI FB FR np s d x (δ + 1) (pfx TP TF)) (hc : cwf EP FB FR (pfx TP TF) x δ = c) : WOK EP PH SI FB FR np s d x bl' wbc' BEP' BEF' := by
  rcases h with ⟨-, e1, e2, e3⟩ | ⟨-, e1, e2, e3, e4⟩
  · subst e1
    intro _
    have hB : ∀ z, z < δ + 1 → pfx TP TF z = 2 * BEP' (δ + 1 - 1 - z) + BEF' (δ + 1 - 1 - z) := by
      intro z hz
      obtain ⟨b1, b2⟩ := e3 (δ + 1 - 1 - z) (by omega)
      rw [b1, b2, show δ + 1 - 1 - (δ + 1 - 1 - z) = z by omega]
      rfl
    refine ⟨isW_congr hB hw, ?_⟩
    rw [e2, ← hc]
    exact cwf_congr hB δ (by omega)
  · rw [e1, e2, e3, e4]
    exact ho
theorem WOff_mono {ln : Nat} (h : WOff ln c TP TF bl wbc BEP BEF bl' wbc' BEP' BEF') (hl : ¬ ln = 0) : WMono bl wbc BEP bl' wbc' BEP' := by
  rcases h with ⟨h0, e1, e2, e3⟩ | ⟨-, e1, e2, e3, e4⟩
  · subst e1
    intro hb
    refine ⟨hl, fun c' n P hn hn2 => ?_⟩
    rcases h0 with h0 | h0
    · exact hb h0
    · rw [e2] at hn2
      exact hn (bLt_tr (bLt_congr (fun _ _ => rfl) (fun z hz => (e3 z hz).1) hn2) h0)
  · rw [e1, e2, e3]
    exact WMono_rf
theorem WOff_all {i t : Nat} (hS : SWP EP PH SI FB FR np s d x WM B δ g c) (hne : EP (2 * i) ≠ EP (2 * i + 1)) (ht : t ≤ 1) (he : EP (2 * i + t) = g) (hns : EP (2 * i + 1 - t) = s) (hB : ∀ z, z < δ → pfx TP TF z = B z) (hk : pfx TP TF δ = 2 * i + (1 - t)) (hF : ∀ z, TF z ≤ 1) (h : WOff (δ + 1) c TP TF bl wbc BEP BEF bl' wbc' BEP' BEF') : ∀ (n : Nat) (B' : Nat → Nat), isW EP PH SI FB FR np s d x n B' → (∀ z, z < δ → B' z = B z) → δ < n → B' δ / 2 = i → ¬ bl' = 0 ∧ ¬ bLt (cwf EP FB FR B' x (n - 1)) n (fun z => B' (n - 1 - z) / 2) wbc' bl' BEP' := by
  intro n B' hw hp hd e
  rw [side_1 ht] at hns
  have hc := SW_code hS hne ht he hw hp hd e
  have hn : n = δ + 1 := by
    rcases Nat.lt_or_ge (δ + 1) n with h1 | h1
    · have h3 := hw.2.2.2 (δ + 1) n h1 (Nat.le_refl _)
      rw [hw.2.2.1] at h3
      have h3 : EP (B' δ) ≠ s := h3
      rw [hc] at h3
      exact absurd hns h3
    · omega
  subst hn
  have hall : ∀ z, z < δ + 1 → B' z = pfx TP TF z := by
    intro z hz
    by_cases e2 : z = δ
    · rw [e2, hc, hk]
    · rw [hp z (by omega), hB z (by omega)]
  have hcw : cwf EP FB FR B' x (δ + 1 - 1) = c := by
    show cwf EP FB FR B' x δ = c
    rw [cwf_congr hp δ (Nat.le_refl _)]
    exact hS.2.1.symm
  have hrow : ∀ z, z < δ + 1 → B' (δ + 1 - 1 - z) / 2 = TP (δ + 1 - 1 - z) := by
    intro z hz
    rw [hall _ (by omega)]
    have := hF (δ + 1 - 1 - z)
    unfold pfx
    omega
  rw [hcw]
  rcases h with ⟨h0, e1, e2, e3⟩ | ⟨⟨h0, h1⟩, e1, e2, e3, e4⟩
  · subst e1
    refine ⟨by omega, fun hb => ?_⟩
    rw [e2] at hb
    exact bLt_irr (bLt_congr (P' := fun z => TP (δ + 1 - 1 - z)) (Q' := fun z => TP (δ + 1 - 1 - z)) hrow (fun z hz => (e3 z hz).1) hb)
  · rw [e1, e2, e3]
    refine ⟨h0, fun hb => h1 (bLt_congr hrow (fun _ _ => rfl) hb)⟩
theorem upd_back {F : Nat → Int32} {k : Nat} {v : Int32} (h : F k = 0) : upd (upd F k v) k 0 = F := by
  funext j
  simp only [upd_at]
  split
  · rename_i e
    rw [e, h]
  · rfl
end WAYS
