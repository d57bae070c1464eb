-- the class's locks and the reference's
/-- what a promise's locks are, in both: the people are apart, one behind the other -/
def LkS (nq : Nat) (EP HO LP LF : Nat → Nat) (LS LC : Nat → Int32) (PB1 PB2 : Nat → Nat) (PB3 PB4 : Nat → Int32) : Prop := ∀ q, q < nq → 1 ≤ HO q ∧ HO q ≤ 6 ∧ ∀ i, i < HO q → PB1 (8 * q + i) = LP (q * 6 + i) ∧ PB2 (8 * q + i) = LF (q * 6 + i) ∧ PB3 (8 * q + i) = LS (q * 6 + i) ∧ PB4 (8 * q + i) = LC (q * 6 + i) ∧ LF (q * 6 + i) ≤ 1 ∧ EP (2 * LP (q * 6 + i) + (1 - LF (q * 6 + i))) < 7 ∧ EP (2 * LP (q * 6 + i) + LF (q * 6 + i)) < 7 ∧ ∀ j, j < HO q → (EP (2 * LP (q * 6 + j) + (1 - LF (q * 6 + j))) = EP (2 * LP (q * 6 + i) + LF (q * 6 + i)) ↔ j + 1 = i) ∧ (EP (2 * LP (q * 6 + j) + (1 - LF (q * 6 + j))) = EP (2 * LP (q * 6 + i) + (1 - LF (q * 6 + i))) → j = i)
/-- who knows the word, and which locks are -/
def LkD (nq : Nat) (EP HO LP LF : Nat → Nat) (TO LH PB5 : Nat → Int32) (KN : Nat → Nat) : Prop := ∀ q, q < nq → KN q < 128 ∧ ∀ i, i < HO q → (¬ PB5 (8 * q + i) = 0 ↔ LH (q * 6 + i) = 0) ∧ (KN q / 2 ^ EP (2 * LP (q * 6 + i) + (1 - LF (q * 6 + i))) % 2 = 1 ↔ wKn HO TO LH q i)
def KRel (nq : Nat) (EP HO LP LF : Nat → Nat) (TO : Nat → Int32) (s : CK) (t : MK) : Prop := s.1 = t.1 ∧ s.2.1 = t.2.1 ∧ s.2.2.1 = t.2.2.1 ∧ s.2.2.2.1 = t.2.2.2.1 ∧ s.2.2.2.2.1 = t.2.2.2.2.1 ∧ s.2.2.2.2.2.2.2.1 = t.2.2.2.2.2.2.1 ∧ LkD nq EP HO LP LF TO s.2.2.2.2.2.1 t.2.2.2.2.2.1 t.2.2.2.2.2.2.2
section REL
variable {nq : Nat} {EP HO LP LF : Nat → Nat} {TO LS LC FA : Nat → Int32} {PB1 PB2 : Nat → Nat} {PB3 PB4 : Nat → Int32} {tm : Int32}
theorem side_1 {p t : Nat} (h : t ≤ 1) : 2 * p + 1 - t = 2 * p + (1 - t) := by omega
theorem bset_bit {b a c : Nat} (hb : b < 128) (ha : a < 7) (hc : c < 7) : bset b a / 2 ^ c % 2 = if c = a then 1 else b / 2 ^ c % 2 := bt_s b hb a ha c hc
theorem bset_lt {b a : Nat} (hb : b < 128) (ha : a < 7) : bset b a < 128 := (bt_or b hb a ha).2
theorem LkD_keep {LH PB5 : Nat → Int32} {KN : Nat → Nat} (hS : LkS nq EP HO LP LF LS LC PB1 PB2 PB3 PB4) (h : LkD nq EP HO LP LF TO LH PB5 KN) {q i : Nat} (hq : q < nq) (hi : i < HO q) : LkD nq EP HO LP LF TO (upd LH (q * 6 + i) 1) (upd PB5 (8 * q + i) 0) (upN KN q (bset (KN q) (EP (2 * LP (q * 6 + i) + LF (q * 6 + i))))) := by
  obtain ⟨s1, s2, s3⟩ := hS q hq
  obtain ⟨-, -, -, -, -, -, g7, g8⟩ := s3 i hi
  intro p hp
  obtain ⟨d1, d2⟩ := h p hp
  obtain ⟨r1, r2, r3⟩ := hS p hp
  by_cases e : p = q
  · subst e
    refine ⟨?_, fun j hj => ?_⟩
    · rw [upN_s]
      exact bset_lt d1 g7
    · obtain ⟨k1, k2⟩ := d2 j hj
      obtain ⟨-, -, -, -, -, f6, -, -⟩ := r3 j hj
      obtain ⟨g9, -⟩ := g8 j hj
      rw [upN_s, bset_bit d1 g7 f6]
      refine ⟨?_, ?_⟩
      · by_cases e2 : j = i
        · subst e2
          rw [pk_us, pk_us]
          exact ⟨fun z => absurd rfl z, fun z => absurd z (by decide)⟩
        · rw [pk_un (by omega), pk_un (by omega)]
          exact k1
      · by_cases e3 : j + 1 = i
        · rw [if_pos (g9.mpr e3)]
          refine ⟨fun _ => ?_, fun _ => rfl⟩
          unfold wKn
          rw [if_neg (by omega), show p * 6 + j + 1 = p * 6 + i by omega, pk_us]
        · rw [if_neg (fun z => e3 (g9.mp z)), k2]
          unfold wKn
          by_cases e4 : j + 1 = HO p
          · rw [if_pos e4, if_pos e4]
          · rw [if_neg e4, if_neg e4, pk_un (by omega)]
  · refine ⟨?_, fun j hj => ?_⟩
    · rw [upN_n e]
      exact d1
    · obtain ⟨k1, k2⟩ := d2 j hj
      rw [upN_n e, pk_un (by omega), pk_un (by omega)]
      refine ⟨k1, ?_⟩
      rw [k2]
      unfold wKn
      by_cases e4 : j + 1 = HO p
      · rw [if_pos e4, if_pos e4]
      · rw [if_neg e4, if_neg e4, pk_un (by omega)]
theorem KRel_en (hS : LkS nq EP HO LP LF LS LC PB1 PB2 PB3 PB4) {s : CK} {t : MK} (h : KRel nq EP HO LP LF TO s t) (x : Nat × Nat) : mkEn nq EP HO PB1 PB2 PB4 FA tm t x ↔ ckEn nq EP HO TO LP LF LC FA tm s x := by
  obtain ⟨q, i⟩ := x
  obtain ⟨-, -, -, -, -, -, hD⟩ := h
  constructor
  · rintro ⟨a1, a2, a3, a4, a5, a6⟩
    obtain ⟨s1, s2, s3⟩ := hS q a1
    obtain ⟨e1, e2, e3, e4, e5, -⟩ := s3 i a2
    obtain ⟨d1, d2⟩ := hD q a1
    obtain ⟨k1, k2⟩ := d2 i a2
    dsimp only at a1 a2 a3 a4 a5 a6
    rw [e1, e2, side_1 e5] at a4 a5
    rw [e4] at a6
    exact ⟨a1, a2, k1.mp a3, k2.mp a4, a5, a6⟩
  · rintro ⟨a1, a2, a3, a4, a5, a6⟩
    obtain ⟨s1, s2, s3⟩ := hS q a1
    obtain ⟨e1, e2, e3, e4, e5, -⟩ := s3 i a2
    obtain ⟨d1, d2⟩ := hD q a1
    obtain ⟨k1, k2⟩ := d2 i a2
    dsimp only at a1 a2 a3 a4 a5 a6
    refine ⟨a1, a2, k1.mpr a3, ?_, ?_, ?_⟩
    · dsimp only
      rw [e1, e2, side_1 e5]
      exact k2.mpr a4
    · dsimp only
      rw [e1, e2, side_1 e5]
      exact a5
    · dsimp only
      rw [e4]
      exact a6
theorem KRel_st (hS : LkS nq EP HO LP LF LS LC PB1 PB2 PB3 PB4) {s : CK} {t : MK} (h : KRel nq EP HO LP LF TO s t) {x : Nat × Nat} (h1 : x.1 < nq) (h2 : x.2 < HO x.1) : KRel nq EP HO LP LF TO (ckSt LP LF LS s x) (mkSt EP PB1 PB2 PB3 t x) := by
  obtain ⟨q, i⟩ := x
  obtain ⟨c1, c2, c3, c4, c5, c6, hD⟩ := h
  obtain ⟨s1, s2, s3⟩ := hS q h1
  obtain ⟨e1, e2, e3, e4, e5, -⟩ := s3 i h2
  have hD2 := LkD_keep hS hD h1 h2
  dsimp only [KRel, ckSt, ckS, mkSt]
  rw [e1, e2, e3, side_1 e5, c1, c2, c3, c4, c5, c6]
  exact ⟨rfl, rfl, rfl, rfl, rfl, rfl, hD2⟩
theorem KRel_Rn (hS : LkS nq EP HO LP LF LS LC PB1 PB2 PB3 PB4) : ∀ {L : List (Nat × Nat)} {s : CK} {t u : MK}, KRel nq EP HO LP LF TO s t → Rn (mkEn nq EP HO PB1 PB2 PB4 FA tm) (mkSt EP PB1 PB2 PB3) t L u → ∃ v : CK, Rn (ckEn nq EP HO TO LP LF LC FA tm) (ckSt LP LF LS) s L v ∧ KRel nq EP HO LP LF TO v u := by
  intro L
  induction L with
  | nil =>
    intro s t u h hr
    have hr : u = t := hr
    subst hr
    exact ⟨s, rfl, h⟩
  | cons x L ih =>
    intro s t u h hr
    have hx := (KRel_en hS h x).mp hr.1
    obtain ⟨v, v1, v2⟩ := ih (KRel_st hS h hx.1 hx.2.1) hr.2
    exact ⟨v, ⟨hx, v1⟩, v2⟩
/-- keeping: both come to the same -/
theorem keep_same (hHO : ∀ q, HO q ≤ 6) (hS : LkS nq EP HO LP LF LS LC PB1 PB2 PB3 PB4) {s v : CK} {t u : MK} {r r' : Int32} (h : KRel nq EP HO LP LF TO s t) (hC : KA nq EP HO TO LP LF LS LC FA tm s v r) (hM : MA nq EP HO PB1 PB2 PB3 PB4 FA tm t u r') : KRel nq EP HO LP LF TO v u ∧ r = r' := by
  obtain ⟨L, a1, a2, a3⟩ := hC
  obtain ⟨M, b1, b2, b3⟩ := hM
  obtain ⟨w, w1, w2⟩ := KRel_Rn hS h b1
  have w3 : ∀ y, ¬ ckEn nq EP HO TO LP LF LC FA tm w y := fun y hy => b3 y ((KRel_en hS w2 y).mpr hy)
  obtain ⟨e1, e2⟩ := Rn_uniq (ck_dia hHO) L s v M w a1 a3 w1 w3
  rw [e1, a2, b2, e2]
  exact ⟨w2, rfl⟩
def ORel (nq : Nat) (EP HO LP LF : Nat → Nat) (TO : Nat → Int32) (KN : Nat → Nat) (s : CR) (t : MO) : Prop := s.1 = t.1 ∧ s.2.1 = t.2.1 ∧ s.2.2.1 = t.2.2.1 ∧ s.2.2.2.1 = t.2.2.2.1 ∧ LkD nq EP HO LP LF TO s.2.2.2.2.1 t.2.2.2.2.1 KN
theorem LkD_out {LH PB5 : Nat → Int32} {KN : Nat → Nat} (hS : LkS nq EP HO LP LF LS LC PB1 PB2 PB3 PB4) (h : LkD nq EP HO LP LF TO LH PB5 KN) {q i : Nat} (hq : q < nq) (hi : i < HO q) (h0 : LH (q * 6 + i) = 0) : LkD nq EP HO LP LF TO (upd LH (q * 6 + i) 2) (upd PB5 (8 * q + i) 0) KN := by
  obtain ⟨s1, s2, s3⟩ := hS q hq
  intro p hp
  obtain ⟨d1, d2⟩ := h p hp
  obtain ⟨r1, r2, r3⟩ := hS p hp
  refine ⟨d1, fun j hj => ?_⟩
  obtain ⟨k1, k2⟩ := d2 j hj
  refine ⟨?_, ?_⟩
  · by_cases e : p * 6 + j = q * 6 + i
    · have e2 : 8 * p + j = 8 * q + i := by omega
      rw [e, e2, pk_us, pk_us]
      exact ⟨fun z => absurd rfl z, fun z => absurd z (by decide)⟩
    · rw [pk_un e, pk_un (by omega)]
      exact k1
  · rw [k2]
    unfold wKn
    by_cases e4 : j + 1 = HO p
    · rw [if_pos e4, if_pos e4]
    · rw [if_neg e4, if_neg e4]
      by_cases e : p * 6 + j + 1 = q * 6 + i
      · rw [e, pk_us, h0]
        exact ⟨fun z => absurd z (by decide), fun z => absurd z (by decide)⟩
      · rw [pk_un e]
theorem ORel_en (hS : LkS nq EP HO LP LF LS LC PB1 PB2 PB3 PB4) {KN : Nat → Nat} {s : CR} {t : MO} (h : ORel nq EP HO LP LF TO KN s t) (x : Nat × Nat) : moEn nq HO PB4 tm t x ↔ crEn nq HO LC tm s x := by
  obtain ⟨q, i⟩ := x
  obtain ⟨-, -, -, -, hD⟩ := h
  constructor
  · rintro ⟨a1, a2, a3, a4⟩
    obtain ⟨s1, s2, s3⟩ := hS q a1
    obtain ⟨e1, e2, e3, e4, e5, -⟩ := s3 i a2
    obtain ⟨d1, d2⟩ := hD q a1
    obtain ⟨k1, k2⟩ := d2 i a2
    dsimp only at a1 a2 a3 a4
    rw [e4] at a4
    exact ⟨a1, a2, k1.mp a3, a4⟩
  · rintro ⟨a1, a2, a3, a4⟩
    obtain ⟨s1, s2, s3⟩ := hS q a1
    obtain ⟨e1, e2, e3, e4, e5, -⟩ := s3 i a2
    obtain ⟨d1, d2⟩ := hD q a1
    obtain ⟨k1, k2⟩ := d2 i a2
    dsimp only at a1 a2 a3 a4
    refine ⟨a1, a2, k1.mpr a3, ?_⟩
    dsimp only
    rw [e4]
    exact a4
theorem ORel_st (hS : LkS nq EP HO LP LF LS LC PB1 PB2 PB3 PB4) {KN : Nat → Nat} {s : CR} {t : MO} (h : ORel nq EP HO LP LF TO KN s t) {x : Nat × Nat} (hx : crEn nq HO LC tm s x) : ORel nq EP HO LP LF TO KN (crSt LP LF LS s x) (moSt PB1 PB2 PB3 t x) := by
  obtain ⟨q, i⟩ := x
  obtain ⟨c1, c2, c3, c4, hD⟩ := h
  obtain ⟨h1, h2, h3, -⟩ := hx
  obtain ⟨s1, s2, s3⟩ := hS q h1
  obtain ⟨e1, e2, e3, e4, e5, -⟩ := s3 i h2
  have hD2 := LkD_out hS hD h1 h2 h3
  dsimp only [ORel, crSt, crS, moSt]
  rw [e1, e2, e3, c1, c2, c3, c4]
  exact ⟨rfl, rfl, rfl, rfl, hD2⟩
theorem ORel_Rn (hS : LkS nq EP HO LP LF LS LC PB1 PB2 PB3 PB4) {KN : Nat → Nat} : ∀ {L : List (Nat × Nat)} {s : CR} {t u : MO}, ORel nq EP HO LP LF TO KN s t → Rn (moEn nq HO PB4 tm) (moSt PB1 PB2 PB3) t L u → ∃ v : CR, Rn (crEn nq HO LC tm) (crSt LP LF LS) s L v ∧ ORel nq EP HO LP LF TO KN v u ∧ (∀ q, u.2.2.2.2.2 q + v.2.2.2.2.2.1 q = t.2.2.2.2.2 q + s.2.2.2.2.2.1 q) := by
  intro L
  induction L with
  | nil =>
    intro s t u h hr
    have hr : u = t := hr
    subst hr
    exact ⟨s, rfl, h, fun _ => rfl⟩
  | cons x L ih =>
    intro s t u h hr
    have hx := (ORel_en hS h x).mp hr.1
    obtain ⟨v, v1, v2, v3⟩ := ih (ORel_st hS h hx) hr.2
    refine ⟨v, ⟨hx, v1⟩, v2, fun q => ?_⟩
    rw [v3 q]
    show addS t.2.2.2.2.2 x.1 1 q + subS s.2.2.2.2.2.1 x.1 1 q = _
    unfold addS subS
    by_cases e : q = x.1
    · rw [e, pk_us, pk_us, Int32.add_assoc, Int32.sub_eq_add_neg, Int32.add_comm 1, Int32.add_assoc, Int32.add_left_neg, Int32.add_zero]
    · rw [pk_un e, pk_un e]
theorem out_same (hHO : ∀ q, HO q ≤ 6) (hLF : ∀ l, LF l ≤ 1) (hS : LkS nq EP HO LP LF LS LC PB1 PB2 PB3 PB4) {KN : Nat → Nat} {s v : CR} {t u : MO} {r r' sm0 : Int32} (h : ORel nq EP HO LP LF TO KN s t) (hC : RA nq HO LP LF LS LC tm s v r) (hM : OA nq HO PB1 PB2 PB3 PB4 tm t u sm0 r') : ORel nq EP HO LP LF TO KN v u ∧ r' = sm0 + r ∧ (∀ q, u.2.2.2.2.2 q + v.2.2.2.2.2.1 q = t.2.2.2.2.2 q + s.2.2.2.2.2.1 q) := by
  obtain ⟨L, a1, a2, a3⟩ := hC
  obtain ⟨M, b1, b2, b3⟩ := hM
  obtain ⟨w, w1, w2, w4⟩ := ORel_Rn hS h b1
  have w3 : ∀ y, ¬ crEn nq HO LC tm w y := fun y hy => b3 y ((ORel_en hS w2 y).mpr hy)
  obtain ⟨e1, e2⟩ := Rn_uniq (cr_dia hHO hLF) L s v M w a1 a3 w1 w3
  rw [e1, a2, b2, e2]
  exact ⟨w2, rfl, w4⟩
/-- kept and held: together as before -/
theorem ck_KH {L : List (Nat × Nat)} {s v : CK} (h : Rn (ckEn nq EP HO TO LP LF LC FA tm) (ckSt LP LF LS) s L v) (q : Nat) : v.2.2.2.2.2.2.2.1 q + v.2.2.2.2.2.2.1 q = s.2.2.2.2.2.2.2.1 q + s.2.2.2.2.2.2.1 q := by
  refine Rn_inv (fun w : CK => w.2.2.2.2.2.2.2.1 q + w.2.2.2.2.2.2.1 q = s.2.2.2.2.2.2.2.1 q + s.2.2.2.2.2.2.1 q) (fun w x hw _ => ?_) h rfl
  show addS w.2.2.2.2.2.2.2.1 x.1 1 q + subS w.2.2.2.2.2.2.1 x.1 1 q = _
  unfold addS subS
  rw [← hw]
  by_cases e : q = x.1
  · rw [e, pk_us, pk_us, Int32.add_assoc, Int32.sub_eq_add_neg, Int32.add_comm 1, Int32.add_assoc, Int32.add_left_neg, Int32.add_zero]
  · rw [pk_un e, pk_un e]
/-- a word is told -/
theorem LkD_tell {LH PB5 : Nat → Int32} {KN : Nat → Nat} (hS : LkS nq EP HO LP LF LS LC PB1 PB2 PB3 PB4) (h : LkD nq EP HO LP LF TO LH PB5 KN) {q : Nat} (hq : q < nq) : LkD nq EP HO LP LF (upd TO q 1) LH PB5 (upN KN q (bset (KN q) (EP (2 * LP (q * 6 + (HO q - 1)) + (1 - LF (q * 6 + (HO q - 1))))))) := by
  obtain ⟨s1, s2, s3⟩ := hS q hq
  obtain ⟨-, -, -, -, -, g6, -, g8⟩ := s3 (HO q - 1) (by omega)
  intro p hp
  obtain ⟨d1, d2⟩ := h p hp
  obtain ⟨r1, r2, r3⟩ := hS p hp
  by_cases e : p = q
  · subst e
    refine ⟨?_, fun j hj => ?_⟩
    · rw [upN_s]
      exact bset_lt d1 g6
    · obtain ⟨k1, k2⟩ := d2 j hj
      obtain ⟨-, -, -, -, -, f6, -, -⟩ := r3 j hj
      obtain ⟨-, g9⟩ := g8 j hj
      refine ⟨k1, ?_⟩
      rw [upN_s, bset_bit d1 g6 f6]
      by_cases e3 : j + 1 = HO p
      · have e5 : j = HO p - 1 := by omega
        rw [← e5, if_pos rfl]
        unfold wKn
        rw [if_pos e3, pk_us]
        exact ⟨fun _ => by decide, fun _ => rfl⟩
      · rw [if_neg (fun z => e3 (by have := g9 z; omega)), k2]
        unfold wKn
        rw [if_neg e3, if_neg e3]
  · refine ⟨?_, fun j hj => ?_⟩
    · rw [upN_n e]
      exact d1
    · obtain ⟨k1, k2⟩ := d2 j hj
      refine ⟨k1, ?_⟩
      rw [upN_n e, k2]
      unfold wKn
      rw [pk_un e]
/-- the class's count of held locks, and whether the reference's promise is open -/
theorem open_same {LH HE KE PB : Nat → Int32} {HA : Int32} (h : HOK nq HO LH HE HA) (hHO : ∀ q, HO q ≤ 6) {q : Nat} (hq : q < nq) (hs : KE q + PB q + HE q = nI (HO q)) : (KE q + PB q < nI (HO q)) ↔ ¬ HE q = 0 := by
  have h1 := hcnt_le LH q (HO q)
  have h2 := hHO q
  have h3 := h.1 q hq
  have h4 : KE q + PB q = nI (HO q - hcnt LH q (HO q)) := by
    rw [← pk_sub h1, ← h3, ← hs, Int32.sub_eq_add_neg, Int32.add_assoc, Int32.add_right_neg, Int32.add_zero]
  rw [h4, h3, nI_ltI (by omega) (by omega)]
  constructor
  · intro h5 h6
    have h7 : hcnt LH q (HO q) = 0 := by
      rw [← nI_0] at h6
      exact (nI_eq (by omega) (by omega)).mp h6
    omega
  · intro h5
    have h7 : ¬ hcnt LH q (HO q) = 0 := fun z => h5 (by rw [z]; exact nI_0)
    omega
end REL
