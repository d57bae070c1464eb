-- steps that may be taken, in any order
def Rn {σ α : Type} (en : σ → α → Prop) (st : σ → α → σ) : σ → List α → σ → Prop
  | s, [], t => t = s
  | s, x :: L, t => en s x ∧ Rn en st (st s x) L t
theorem Rn_snoc {σ α : Type} {en : σ → α → Prop} {st : σ → α → σ} {x : α} : ∀ {L : List α} {s t : σ}, Rn en st s L t → en t x → Rn en st s (L ++ [x]) (st t x) := by
  intro L
  induction L with
  | nil =>
    intro s t h he
    have h : t = s := h
    subst h
    exact ⟨he, rfl⟩
  | cons y L ih =>
    intro s t h he
    exact ⟨h.1, ih h.2 he⟩
theorem Rn_app {σ α : Type} {en : σ → α → Prop} {st : σ → α → σ} : ∀ {L M : List α} {s t u : σ}, Rn en st s L t → Rn en st t M u → Rn en st s (L ++ M) u := by
  intro L
  induction L with
  | nil =>
    intro M s t u h h2
    have h : t = s := h
    subst h
    exact h2
  | cons y L ih =>
    intro M s t u h h2
    exact ⟨h.1, ih h.2 h2⟩
theorem Rn_inv {σ α : Type} {en : σ → α → Prop} {st : σ → α → σ} (P : σ → Prop) (hP : ∀ s x, P s → en s x → P (st s x)) : ∀ {L : List α} {s t : σ}, Rn en st s L t → P s → P t := by
  intro L
  induction L with
  | nil =>
    intro s t h hs
    have h : t = s := h
    subst h
    exact hs
  | cons y L ih =>
    intro s t h hs
    exact ih h.2 (hP s y hs h.1)
/-- how a measure falls by one at each step -/
theorem Rn_len {σ α : Type} {en : σ → α → Prop} {st : σ → α → σ} (μ : σ → Nat) (hm : ∀ s x, en s x → μ (st s x) + 1 = μ s) : ∀ {L : List α} {s t : σ}, Rn en st s L t → μ t + L.length = μ s := by
  intro L
  induction L with
  | nil =>
    intro s t h
    have h : t = s := h
    subst h
    rfl
  | cons y L ih =>
    intro s t h
    have h1 := ih h.2
    have h2 := hm s y h.1
    show μ t + (L.length + 1) = μ s
    omega
theorem Rn_pull {σ α : Type} {en : σ → α → Prop} {st : σ → α → σ} (hd : ∀ s x y, en s x → en s y → x ≠ y → en (st s x) y ∧ st (st s x) y = st (st s y) x) : ∀ (L : List α) (s t : σ) (x : α), en s x → Rn en st s L t → (∀ y, ¬ en t y) → ∃ L', Rn en st (st s x) L' t ∧ L'.length + 1 = L.length := by
  intro L
  induction L with
  | nil =>
    intro s t x hx h hn
    have h : t = s := h
    subst h
    exact absurd hx (hn x)
  | cons y L ih =>
    intro s t x hx h hn
    by_cases e : x = y
    · subst e
      exact ⟨L, h.2, rfl⟩
    · obtain ⟨L', h1, h2⟩ := ih (st s y) t x (hd s y x h.1 hx (fun q => e q.symm)).1 h.2 hn
      obtain ⟨g1, g2⟩ := hd s x y hx h.1 e
      refine ⟨y :: L', ⟨g1, ?_⟩, ?_⟩
      · rw [g2]
        exact h1
      · show L'.length + 1 + 1 = L.length + 1
        rw [h2]
/-- where the steps commute, the end is one -/
theorem Rn_uniq {σ α : Type} {en : σ → α → Prop} {st : σ → α → σ} (hd : ∀ s x y, en s x → en s y → x ≠ y → en (st s x) y ∧ st (st s x) y = st (st s y) x) : ∀ (L : List α) (s t : σ) (M : List α) (u : σ), Rn en st s L t → (∀ y, ¬ en t y) → Rn en st s M u → (∀ y, ¬ en u y) → t = u ∧ L.length = M.length := by
  intro L
  induction L with
  | nil =>
    intro s t M u h hn h2 hn2
    have h : t = s := h
    subst h
    cases M with
    | nil =>
      have h2 : u = t := h2
      exact ⟨h2.symm, rfl⟩
    | cons y M => exact absurd h2.1 (hn y)
  | cons x L ih =>
    intro s t M u h hn h2 hn2
    obtain ⟨M', h3, h4⟩ := Rn_pull hd M s u x h.1 h2 hn2
    obtain ⟨g1, g2⟩ := ih (st s x) t M' u h.2 hn h3 hn2
    refine ⟨g1, ?_⟩
    show L.length + 1 = M.length
    rw [g2, h4]
-- the steps of a row of numbers
def addS (F : Nat → Int32) (k : Nat) (v : Int32) : Nat → Int32 := upd F k (F k + v)
def subS (F : Nat → Int32) (k : Nat) (v : Int32) : Nat → Int32 := upd F k (F k - v)
def gsum (S : Nat → Int32) (p : Nat) : Int32 := S (2 * p) + S (2 * p + 1)
def inc64 (n : Nat) : Nat := if n < 64 then n + 1 else n
theorem upd_at (F : Nat → Int32) (k : Nat) (x : Int32) (j : Nat) : upd F k x j = if j = k then x else F j := rfl
theorem i_rc (a b c : Int32) : a + b + c = a + c + b := by rw [Int32.add_assoc, Int32.add_comm b c, ← Int32.add_assoc]
theorem i_src (a b c : Int32) : a - b - c = a - c - b := by
  rw [Int32.sub_eq_add_neg, Int32.sub_eq_add_neg, Int32.sub_eq_add_neg, Int32.sub_eq_add_neg]
  exact i_rc _ _ _
theorem addS_comm (F : Nat → Int32) (a b : Nat) (u v : Int32) : addS (addS F a u) b v = addS (addS F b v) a u := by
  funext j
  unfold addS
  simp only [upd_at]
  by_cases h1 : j = b
  · by_cases h2 : j = a
    · have h3 : b = a := h1.symm.trans h2
      subst h3
      simp only [if_pos h1, if_true]
      exact i_rc _ _ _
    · have h3 : ¬ b = a := fun q => h2 (h1.trans q)
      simp only [if_pos h1, if_neg h2, if_neg h3]
  · by_cases h2 : j = a
    · have h3 : ¬ a = b := fun q => h1 (h2.trans q)
      simp only [if_neg h1, if_pos h2, if_neg h3]
    · simp only [if_neg h1, if_neg h2]
theorem subS_comm (F : Nat → Int32) (a b : Nat) (u v : Int32) : subS (subS F a u) b v = subS (subS F b v) a u := by
  funext j
  unfold subS
  simp only [upd_at]
  by_cases h1 : j = b
  · by_cases h2 : j = a
    · have h3 : b = a := h1.symm.trans h2
      subst h3
      simp only [if_pos h1, if_true]
      exact i_src _ _ _
    · have h3 : ¬ b = a := fun q => h2 (h1.trans q)
      simp only [if_pos h1, if_neg h2, if_neg h3]
  · by_cases h2 : j = a
    · have h3 : ¬ a = b := fun q => h1 (h2.trans q)
      simp only [if_neg h1, if_pos h2, if_neg h3]
    · simp only [if_neg h1, if_neg h2]
theorem upd_cc (F : Nat → Int32) (a b : Nat) (c : Int32) : upd (upd F a c) b c = upd (upd F b c) a c := by
  funext j
  simp only [upd_at]
  by_cases h1 : j = b
  · by_cases h2 : j = a
    · simp only [if_pos h1, if_pos h2]
    · simp only [if_pos h1, if_neg h2]
  · by_cases h2 : j = a
    · simp only [if_neg h1, if_pos h2]
    · simp only [if_neg h1, if_neg h2]
theorem upN_at (F : Nat → Nat) (k x j : Nat) : upN F k x j = if j = k then x else F j := rfl
theorem upN_gg (F : Nat → Nat) (g : Nat → Nat) (a b : Nat) : upN (upN F a (g (F a))) b (g (upN F a (g (F a)) b)) = upN (upN F b (g (F b))) a (g (upN F b (g (F b)) a)) := by
  funext j
  simp only [upN_at]
  by_cases h1 : j = b
  · by_cases h2 : j = a
    · have h3 : b = a := h1.symm.trans h2
      subst h3
      simp only [if_pos h1, if_true]
    · have h3 : ¬ b = a := fun q => h2 (h1.trans q)
      simp only [if_pos h1, if_neg h2, if_neg h3]
  · by_cases h2 : j = a
    · have h3 : ¬ a = b := fun q => h1 (h2.trans q)
      simp only [if_neg h1, if_pos h2, if_neg h3]
    · simp only [if_neg h1, if_neg h2]
theorem addS_n {F : Nat → Int32} {k j : Nat} {v : Int32} (h : j ≠ k) : addS F k v j = F j := pk_un h
theorem addS_s {F : Nat → Int32} {k : Nat} {v : Int32} : addS F k v k = F k + v := pk_us
theorem gsum_add {S : Nat → Int32} {k p : Nat} {v : Int32} (h : k / 2 ≠ p) : gsum (addS S k v) p = gsum S p := by
  unfold gsum
  rw [addS_n (by omega), addS_n (by omega)]
theorem GR_comm (G S : Nat → Int32) {p p' k k' : Nat} (u v : Int32) (hk : k / 2 = p) (hk' : k' / 2 = p') : upd (upd G p (gsum (addS S k u) p)) p' (gsum (addS (addS S k u) k' v) p') = upd (upd G p' (gsum (addS S k' v) p')) p (gsum (addS (addS S k' v) k u) p) := by
  rw [addS_comm S k k' u v]
  by_cases e : p = p'
  · subst e
    funext j
    simp only [upd_at]
    split <;> rfl
  · funext j
    simp only [upd_at]
    by_cases h1 : j = p'
    · have h2 : ¬ j = p := fun q => e (q.symm.trans h1)
      rw [if_pos h1, if_neg h2, if_pos h1, gsum_add (by omega)]
    · by_cases h2 : j = p
      · rw [if_neg h1, if_pos h2, if_pos h2, addS_comm S k' k v u, gsum_add (S := addS S k u) (k := k') (by omega)]
      · rw [if_neg h1, if_neg h2, if_neg h2, if_neg h1]
-- the class's locks: sides, locked, least, greatest, states, phases, held, kept, held in all
abbrev CK : Type := (Nat → Int32) × (Nat → Int32) × (Nat → Int32) × (Nat → Int32) × (Nat → Nat) × (Nat → Int32) × (Nat → Int32) × (Nat → Int32) × Int32
def ckS (q l p ka kl : Nat) (v : Int32) (s : CK) : CK := (addS s.1 ka v, subS s.2.1 kl v, upd s.2.2.1 p 0, upd s.2.2.2.1 p (gsum (addS s.1 ka v) p), upN s.2.2.2.2.1 p (inc64 (s.2.2.2.2.1 p)), upd s.2.2.2.2.2.1 l 1, subS s.2.2.2.2.2.2.1 q 1, addS s.2.2.2.2.2.2.2.1 q 1, s.2.2.2.2.2.2.2.2 - 1)
def ckSt (LP LF : Nat → Nat) (LS : Nat → Int32) (s : CK) (x : Nat × Nat) : CK := ckS x.1 (x.1 * 6 + x.2) (LP (x.1 * 6 + x.2)) (2 * LP (x.1 * 6 + x.2) + (1 - LF (x.1 * 6 + x.2))) (2 * LP (x.1 * 6 + x.2) + LF (x.1 * 6 + x.2)) (LS (x.1 * 6 + x.2)) s
def wKn (HO : Nat → Nat) (TO LH : Nat → Int32) (q i : Nat) : Prop := if i + 1 = HO q then ¬ TO q = 0 else LH (q * 6 + i + 1) = 1
def ckEn (nq : Nat) (EP HO : Nat → Nat) (TO : Nat → Int32) (LP LF : Nat → Nat) (LC FA : Nat → Int32) (tm : Int32) (s : CK) (x : Nat × Nat) : Prop := x.1 < nq ∧ x.2 < HO x.1 ∧ s.2.2.2.2.2.1 (x.1 * 6 + x.2) = 0 ∧ wKn HO TO s.2.2.2.2.2.1 x.1 x.2 ∧ FA (EP (2 * LP (x.1 * 6 + x.2) + (1 - LF (x.1 * 6 + x.2)))) = 0 ∧ tm < LC (x.1 * 6 + x.2)
theorem ckS_comm (q l p ka kl : Nat) (v : Int32) (q' l' p' ka' kl' : Nat) (v' : Int32) (s : CK) (h : ka / 2 = p) (h' : ka' / 2 = p') : ckS q' l' p' ka' kl' v' (ckS q l p ka kl v s) = ckS q l p ka kl v (ckS q' l' p' ka' kl' v' s) := by
  dsimp only [ckS]
  refine Prod.ext (addS_comm _ _ _ _ _) (Prod.ext (subS_comm _ _ _ _ _) (Prod.ext (upd_cc _ _ _ _) (Prod.ext (GR_comm _ _ _ _ h h') (Prod.ext (upN_gg _ _ _ _) (Prod.ext (upd_cc _ _ _ _) (Prod.ext (subS_comm _ _ _ _ _) (Prod.ext (addS_comm _ _ _ _ _) rfl)))))))
theorem wKn_upd {HO : Nat → Nat} {TO LH : Nat → Int32} {q i l : Nat} (h : wKn HO TO LH q i) : wKn HO TO (upd LH l 1) q i := by
  unfold wKn at h ⊢
  by_cases e : i + 1 = HO q
  · rw [if_pos e] at h ⊢
    exact h
  · rw [if_neg e] at h ⊢
    by_cases e2 : q * 6 + i + 1 = l
    · rw [e2, pk_us]
    · rw [pk_un e2, h]
theorem ck_dia {nq : Nat} {EP HO : Nat → Nat} {TO : Nat → Int32} {LP LF : Nat → Nat} {LS LC FA : Nat → Int32} {tm : Int32} (hHO : ∀ q, HO q ≤ 6) : ∀ (s : CK) (x y : Nat × Nat), ckEn nq EP HO TO LP LF LC FA tm s x → ckEn nq EP HO TO LP LF LC FA tm s y → x ≠ y → ckEn nq EP HO TO LP LF LC FA tm (ckSt LP LF LS s x) y ∧ ckSt LP LF LS (ckSt LP LF LS s x) y = ckSt LP LF LS (ckSt LP LF LS s y) x := by
  intro s x y hx hy hne
  obtain ⟨q, i⟩ := x
  obtain ⟨q', i'⟩ := y
  obtain ⟨a1, a2, a3, a4, a5, a6⟩ := hx
  obtain ⟨b1, b2, b3, b4, b5, b6⟩ := hy
  have h1 := hHO q
  have h2 := hHO q'
  dsimp only at a1 a2 a3 a4 a5 a6 b1 b2 b3 b4 b5 b6
  have hl : ¬ q' * 6 + i' = q * 6 + i := by
    intro e
    apply hne
    have e1 : q' = q := by omega
    subst e1
    have e2 : i' = i := by omega
    rw [e2]
  refine ⟨⟨b1, b2, ?_, wKn_upd b4, b5, b6⟩, ckS_comm _ _ _ _ _ _ _ _ _ _ _ _ _ (by omega) (by omega)⟩
  show upd s.2.2.2.2.2.1 (q * 6 + i) 1 (q' * 6 + i') = 0
  rw [pk_un hl]
  exact b3
-- how many locks of a promise are held
def hcnt (LH : Nat → Int32) (q : Nat) : Nat → Nat
  | 0 => 0
  | n + 1 => hcnt LH q n + if LH (q * 6 + n) = 0 then 1 else 0
theorem hcnt_le (LH : Nat → Int32) (q : Nat) : ∀ n, hcnt LH q n ≤ n := by
  intro n
  induction n with
  | zero => exact Nat.le_refl _
  | succ n ih =>
    unfold hcnt
    split <;> omega
theorem hcnt_0 {LH : Nat → Int32} {q : Nat} : ∀ {n : Nat}, hcnt LH q n = 0 → ∀ i, i < n → ¬ LH (q * 6 + i) = 0 := by
  intro n
  induction n with
  | zero => intro _ i h; omega
  | succ n ih =>
    intro h i hi
    unfold hcnt at h
    by_cases e : i = n
    · subst e
      intro e0
      rw [if_pos e0] at h
      omega
    · exact ih (by omega) i (by omega)
theorem hcnt_un {LH : Nat → Int32} {q l : Nat} {c : Int32} : ∀ n, (∀ i, i < n → q * 6 + i ≠ l) → hcnt (upd LH l c) q n = hcnt LH q n := by
  intro n
  induction n with
  | zero => intro _; rfl
  | succ n ih =>
    intro h
    unfold hcnt
    rw [ih (fun i hi => h i (by omega)), pk_un (h n (by omega))]
theorem hcnt_us {LH : Nat → Int32} {q i : Nat} {c : Int32} (hc : ¬ c = 0) (h0 : LH (q * 6 + i) = 0) : ∀ n, i < n → hcnt (upd LH (q * 6 + i) c) q n + 1 = hcnt LH q n := by
  intro n
  induction n with
  | zero => intro h; omega
  | succ n ih =>
    intro h
    unfold hcnt
    by_cases e : n = i
    · subst e
      rw [hcnt_un n (fun j hj => by omega), pk_us, if_neg hc, if_pos h0]
    · rw [pk_un (by omega)]
      have := ih (by omega)
      omega
def hall (HO : Nat → Nat) (LH : Nat → Int32) : Nat → Nat
  | 0 => 0
  | n + 1 => hall HO LH n + hcnt LH n (HO n)
theorem hall_un {HO : Nat → Nat} (hHO : ∀ q, HO q ≤ 6) {LH : Nat → Int32} {q i : Nat} {c : Int32} (hi : i < 6) : ∀ n, n ≤ q → hall HO (upd LH (q * 6 + i) c) n = hall HO LH n := by
  intro n
  induction n with
  | zero => intro _; rfl
  | succ n ih =>
    intro h
    unfold hall
    rw [ih (by omega), hcnt_un _ (fun j hj => by have := hHO n; omega)]
theorem hall_us {HO : Nat → Nat} (hHO : ∀ q, HO q ≤ 6) {LH : Nat → Int32} {q i : Nat} {c : Int32} (hc : ¬ c = 0) (hi : i < HO q) (h0 : LH (q * 6 + i) = 0) : ∀ n, q < n → hall HO (upd LH (q * 6 + i) c) n + 1 = hall HO LH n := by
  have h6 := hHO q
  intro n
  induction n with
  | zero => intro h; omega
  | succ n ih =>
    intro h
    unfold hall
    by_cases e : n = q
    · subst e
      rw [hall_un hHO (by omega) n (Nat.le_refl _)]
      have := hcnt_us hc h0 (HO n) hi
      omega
    · rw [hcnt_un _ (fun j hj => by have := hHO n; omega)]
      have := ih (by omega)
      omega
theorem hall_le {HO : Nat → Nat} (hHO : ∀ q, HO q ≤ 6) (LH : Nat → Int32) : ∀ n, hall HO LH n ≤ 6 * n := by
  intro n
  induction n with
  | zero => exact Nat.le_refl _
  | succ n ih =>
    unfold hall
    have h1 := hcnt_le LH n (HO n)
    have h2 := hHO n
    omega
theorem hall_0 {HO : Nat → Nat} {LH : Nat → Int32} : ∀ {n : Nat}, hall HO LH n = 0 → ∀ q i, q < n → i < HO q → ¬ LH (q * 6 + i) = 0 := by
  intro n
  induction n with
  | zero => intro _ q i h; omega
  | succ n ih =>
    intro h q i hq hi
    unfold hall at h
    by_cases e : q = n
    · subst e
      exact hcnt_0 (by omega) i hi
    · exact ih (by omega) q i (by omega) hi
/-- the class's numbers of held locks are so -/
def HOK (nq : Nat) (HO : Nat → Nat) (LH HE : Nat → Int32) (HA : Int32) : Prop := (∀ q, q < nq → HE q = nI (hcnt LH q (HO q))) ∧ HA = nI (hall HO LH nq)
theorem HOK_step {nq : Nat} {HO : Nat → Nat} {LH HE : Nat → Int32} {HA : Int32} (hHO : ∀ q, HO q ≤ 6) (h : HOK nq HO LH HE HA) {q i : Nat} {c : Int32} (hc : ¬ c = 0) (hq : q < nq) (hi : i < HO q) (h0 : LH (q * 6 + i) = 0) : HOK nq HO (upd LH (q * 6 + i) c) (subS HE q 1) (HA - 1) := by
  have h6 := hHO q
  refine ⟨fun p hp => ?_, ?_⟩
  · by_cases e : p = q
    · subst e
      have h1 := hcnt_us hc h0 (HO p) hi
      show upd HE p (HE p - 1) p = _
      rw [pk_us, h.1 p hp, ← h1, nI_pred]
    · show upd HE q (HE q - 1) p = _
      rw [pk_un e, h.1 p hp, hcnt_un _ (fun j hj => by have := hHO p; omega)]
  · have h1 := hall_us hHO hc hi h0 nq hq
    rw [h.2, ← h1, nI_pred]
theorem HOK_pos {nq : Nat} {HO : Nat → Nat} {LH HE : Nat → Int32} {HA : Int32} (hHO : ∀ q, HO q ≤ 6) (h : HOK nq HO LH HE HA) {q : Nat} (hq : q < nq) (h0 : HE q ≤ 0) : ∀ i, i < HO q → ¬ LH (q * 6 + i) = 0 := by
  refine hcnt_0 ?_
  rw [h.1 q hq] at h0
  have h1 := hcnt_le LH q (HO q)
  have h2 := hHO q
  rcases Nat.eq_zero_or_pos (hcnt LH q (HO q)) with e | e
  · exact e
  · exact absurd h0 (nI_nle e (by omega))
/-- a round of keeping under way -/
def KI (nq : Nat) (EP HO : Nat → Nat) (TO : Nat → Int32) (LP LF : Nat → Nat) (LS LC FA : Nat → Int32) (tm : Int32) (s0 s : CK) (sm : Int32) (q i : Nat) : Prop := ∃ L : List (Nat × Nat), Rn (ckEn nq EP HO TO LP LF LC FA tm) (ckSt LP LF LS) s0 L s ∧ sm = nI L.length ∧ L.length ≤ q * 6 + i ∧ (L = [] → ∀ x : Nat × Nat, (x.1 < q ∨ (x.1 = q ∧ x.2 < i)) → ¬ ckEn nq EP HO TO LP LF LC FA tm s0 x)
/-- a round that is done -/
def KP (nq : Nat) (EP HO : Nat → Nat) (TO : Nat → Int32) (LP LF : Nat → Nat) (LS LC FA : Nat → Int32) (tm : Int32) (s0 s : CK) (sm : Int32) : Prop := ∃ L : List (Nat × Nat), Rn (ckEn nq EP HO TO LP LF LC FA tm) (ckSt LP LF LS) s0 L s ∧ sm = nI L.length ∧ L.length ≤ 240 ∧ (sm = 0 → ∀ x : Nat × Nat, ¬ ckEn nq EP HO TO LP LF LC FA tm s x)
/-- all that may be kept is -/
def KA (nq : Nat) (EP HO : Nat → Nat) (TO : Nat → Int32) (LP LF : Nat → Nat) (LS LC FA : Nat → Int32) (tm : Int32) (s0 s : CK) (sm : Int32) : Prop := ∃ L : List (Nat × Nat), Rn (ckEn nq EP HO TO LP LF LC FA tm) (ckSt LP LF LS) s0 L s ∧ sm = nI L.length ∧ (∀ x : Nat × Nat, ¬ ckEn nq EP HO TO LP LF LC FA tm s x)
def KB (nq : Nat) (EP HO : Nat → Nat) (TO : Nat → Int32) (LP LF : Nat → Nat) (LS LC FA : Nat → Int32) (tm : Int32) (s0 s : CK) (sm : Int32) (r : Nat) : Prop := ∃ L : List (Nat × Nat), Rn (ckEn nq EP HO TO LP LF LC FA tm) (ckSt LP LF LS) s0 L s ∧ sm = nI L.length ∧ r ≤ L.length
section KROWS
variable {nq : Nat} {EP HO : Nat → Nat} {TO : Nat → Int32} {LP LF : Nat → Nat} {LS LC FA : Nat → Int32} {tm : Int32} {s0 s : CK} {sm : Int32} {q i : Nat}
theorem KI_0 : KI nq EP HO TO LP LF LS LC FA tm s0 s0 0 0 0 := ⟨[], rfl, nI_0.symm, Nat.zero_le _, fun _ x h => by omega⟩
theorem KI_skip (h : KI nq EP HO TO LP LF LS LC FA tm s0 s sm q i) (hn : ¬ ckEn nq EP HO TO LP LF LC FA tm s (q, i)) : KI nq EP HO TO LP LF LS LC FA tm s0 s sm q (i + 1) := by
  obtain ⟨L, h1, h2, h3, h4⟩ := h
  refine ⟨L, h1, h2, by omega, fun e x hx => ?_⟩
  by_cases e2 : x = (q, i)
  · subst e
    have h1 : s = s0 := h1
    rw [← h1, e2]
    exact hn
  · refine h4 e x ?_
    rcases hx with h | ⟨h, h5⟩
    · exact Or.inl h
    · refine Or.inr ⟨h, ?_⟩
      have : ¬ x.2 = i := fun q2 => e2 (by rw [← h, ← q2])
      omega
theorem KI_keep (h : KI nq EP HO TO LP LF LS LC FA tm s0 s sm q i) (he : ckEn nq EP HO TO LP LF LC FA tm s (q, i)) : KI nq EP HO TO LP LF LS LC FA tm s0 (ckSt LP LF LS s (q, i)) (sm + 1) q (i + 1) := by
  obtain ⟨L, h1, h2, h3, h4⟩ := h
  refine ⟨L ++ [(q, i)], Rn_snoc h1 he, ?_, ?_, fun e => ?_⟩
  · rw [h2, nI_1, List.length_append]
    rfl
  · rw [List.length_append]
    show L.length + 1 ≤ _
    omega
  · simp at e
theorem KI_next (h : KI nq EP HO TO LP LF LS LC FA tm s0 s sm q i) (hi : i ≤ 6) (hn : ∀ j, i ≤ j → ¬ ckEn nq EP HO TO LP LF LC FA tm s (q, j)) : KI nq EP HO TO LP LF LS LC FA tm s0 s sm (q + 1) 0 := by
  obtain ⟨L, h1, h2, h3, h4⟩ := h
  refine ⟨L, h1, h2, by omega, fun e x hx => ?_⟩
  rcases Nat.lt_or_ge x.1 q with h5 | h5
  · exact h4 e x (Or.inl h5)
  · have h6 : x.1 = q := by omega
    rcases Nat.lt_or_ge x.2 i with h7 | h7
    · exact h4 e x (Or.inr ⟨h6, h7⟩)
    · have := hn x.2 h7
      rw [← h6] at this
      subst e
      have h1 : s = s0 := h1
      rw [← h1]
      exact this
theorem KI_end (h : KI nq EP HO TO LP LF LS LC FA tm s0 s sm q 0) (hq : nq ≤ q) (hq2 : q ≤ 40) : KP nq EP HO TO LP LF LS LC FA tm s0 s sm := by
  obtain ⟨L, h1, h2, h3, h4⟩ := h
  refine ⟨L, h1, h2, by omega, fun e x hx => ?_⟩
  have e2 : L = [] := by
    cases L with
    | nil => rfl
    | cons y L =>
      rw [e] at h2
      exact absurd h2.symm (nI_ne0 (by show 0 < L.length + 1; omega) (by omega))
  subst e2
  have h1 : s = s0 := h1
  have hx1 : x.1 < nq := hx.1
  exact h4 rfl x (Or.inl (by omega)) (by rw [← h1]; exact hx)
theorem ckEn_held (h : ckEn nq EP HO TO LP LF LC FA tm s (q, i)) : s.2.2.2.2.2.1 (q * 6 + i) = 0 := h.2.2.1
theorem KI_stop (h : KI nq EP HO TO LP LF LS LC FA tm s0 s sm q i) (hi : i ≤ 6) (hn : HO q ≤ i ∨ ∀ j, j < HO q → ¬ s.2.2.2.2.2.1 (q * 6 + j) = 0) : KI nq EP HO TO LP LF LS LC FA tm s0 s sm (q + 1) 0 := by
  refine KI_next h hi (fun j hj he => ?_)
  rcases hn with hn | hn
  · have : j < HO q := he.2.1
    omega
  · exact hn j he.2.1 he.2.2.1
theorem KB_0 : KB nq EP HO TO LP LF LS LC FA tm s0 s0 0 0 := ⟨[], rfl, nI_0.symm, Nat.le_refl _⟩
theorem KB_round {r : Nat} {s1 : CK} {now : Int32} (h : KB nq EP HO TO LP LF LS LC FA tm s0 s sm r) (h2 : KP nq EP HO TO LP LF LS LC FA tm s s1 now) (hn : ¬ now = 0) : KB nq EP HO TO LP LF LS LC FA tm s0 s1 (sm + now) (r + 1) := by
  obtain ⟨L, a1, a2, a3⟩ := h
  obtain ⟨M, b1, b2, b3, b4⟩ := h2
  refine ⟨L ++ M, Rn_app a1 b1, ?_, ?_⟩
  · rw [a2, b2, nI_add, List.length_append]
  · rw [List.length_append]
    cases M with
    | nil => exact absurd (b2.trans nI_0) hn
    | cons y M =>
      show r + 1 ≤ L.length + (M.length + 1)
      omega
theorem KB_done {r : Nat} {s1 : CK} {now : Int32} (h : KB nq EP HO TO LP LF LS LC FA tm s0 s sm r) (h2 : KP nq EP HO TO LP LF LS LC FA tm s s1 now) (hn : now = 0) : KA nq EP HO TO LP LF LS LC FA tm s0 s1 sm := by
  obtain ⟨L, a1, a2, a3⟩ := h
  obtain ⟨M, b1, b2, b3, b4⟩ := h2
  have e2 : M = [] := by
    cases M with
    | nil => rfl
    | cons y M =>
      rw [hn] at b2
      exact absurd b2.symm (nI_ne0 (by show 0 < M.length + 1; omega) (by omega))
  have b5 := b4 hn
  subst e2
  have b1 : s1 = s := b1
  subst b1
  exact ⟨L, a1, a2, b5⟩
theorem ck_mu (hHO : ∀ q, HO q ≤ 6) : ∀ (s : CK) (x : Nat × Nat), ckEn nq EP HO TO LP LF LC FA tm s x → hall HO (ckSt LP LF LS s x).2.2.2.2.2.1 nq + 1 = hall HO s.2.2.2.2.2.1 nq := by
  intro s x h
  exact hall_us hHO (by decide) h.2.1 h.2.2.1 nq h.1
theorem KB_full {r : Nat} (hHO : ∀ q, HO q ≤ 6) (hq : nq ≤ 40) (h : KB nq EP HO TO LP LF LS LC FA tm s0 s sm r) (hr : 240 ≤ r) : KA nq EP HO TO LP LF LS LC FA tm s0 s sm := by
  obtain ⟨L, a1, a2, a3⟩ := h
  refine ⟨L, a1, a2, fun x hx => ?_⟩
  have h1 := Rn_len (fun s : CK => hall HO s.2.2.2.2.2.1 nq) (ck_mu hHO) a1
  have h2 := hall_le hHO s0.2.2.2.2.2.1 nq
  have h3 := ck_mu (LS := LS) hHO s x hx
  have h1 : hall HO s.2.2.2.2.2.1 nq + L.length = hall HO s0.2.2.2.2.2.1 nq := h1
  omega
theorem HOK_Rn (hHO : ∀ q, HO q ≤ 6) {L : List (Nat × Nat)} (h : Rn (ckEn nq EP HO TO LP LF LC FA tm) (ckSt LP LF LS) s0 L s) (h0 : HOK nq HO s0.2.2.2.2.2.1 s0.2.2.2.2.2.2.1 s0.2.2.2.2.2.2.2.2) : HOK nq HO s.2.2.2.2.2.1 s.2.2.2.2.2.2.1 s.2.2.2.2.2.2.2.2 :=
  Rn_inv (fun s : CK => HOK nq HO s.2.2.2.2.2.1 s.2.2.2.2.2.2.1 s.2.2.2.2.2.2.2.2) (fun s x hs hx => HOK_step hHO hs (by decide) hx.1 hx.2.1 hx.2.2.1) h h0
theorem KI_HOK (hHO : ∀ q, HO q ≤ 6) (h : KI nq EP HO TO LP LF LS LC FA tm s0 s sm q i) (h0 : HOK nq HO s0.2.2.2.2.2.1 s0.2.2.2.2.2.2.1 s0.2.2.2.2.2.2.2.2) : HOK nq HO s.2.2.2.2.2.1 s.2.2.2.2.2.2.1 s.2.2.2.2.2.2.2.2 := by
  obtain ⟨L, h1, -⟩ := h
  exact HOK_Rn hHO h1 h0
theorem KB_HOK {r : Nat} (hHO : ∀ q, HO q ≤ 6) (h : KB nq EP HO TO LP LF LS LC FA tm s0 s sm r) (h0 : HOK nq HO s0.2.2.2.2.2.1 s0.2.2.2.2.2.2.1 s0.2.2.2.2.2.2.2.2) : HOK nq HO s.2.2.2.2.2.1 s.2.2.2.2.2.2.1 s.2.2.2.2.2.2.2.2 := by
  obtain ⟨L, h1, -⟩ := h
  exact HOK_Rn hHO h1 h0
end KROWS
