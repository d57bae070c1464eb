-- closings and ticks in both
theorem cg_same {EP ST CL CB : Nat → Nat} {FA MQ : Nat → Int32} {p : Nat} (hne : EP (2 * p) ≠ EP (2 * p + 1)) (hE : ∀ z, EP z ≤ 6) (hcl : CL p ≤ 1) (hq : MQ p = nI (EP (2 * p + CL p))) : cgB EP ST CL CB FA p = mcg EP CB ST MQ FA p := by
  have e1 := hE (2 * p)
  have e2 := hE (2 * p + 1)
  unfold cgB mcg
  rw [hq]
  rcases Nat.lt_or_ge (CL p) 1 with e | e
  · have e0 : CL p = 0 := by omega
    rw [e0, if_pos (show nI (EP (2 * p)) = nI (EP (2 * p + 0)) from rfl)]
  · have e0 : CL p = 1 := by omega
    rw [e0, if_neg (fun z => hne ((nI_eq (by omega) (by omega)).mp z))]
def ClR (np : Nat) (EP CL : Nat → Nat) (PH EN MT MQ : Nat → Int32) : Prop := ∀ p, p < np → (PH p = 1 → MT p = EN p ∧ MQ p = nI (EP (2 * p + CL p))) ∧ (¬ PH p = 1 → MT p = -1)
theorem cl_same {np : Nat} {EP ST CL CB : Nat → Nat} {FA MQ MT EN PH : Nat → Int32} {tm : Int32} {p : Nat} (h : ClR np EP CL PH EN MT MQ) (hp : p < np) (hne : EP (2 * p) ≠ EP (2 * p + 1)) (hE : ∀ z, EP z ≤ 6) (hcl : CL p ≤ 1) : clB EP ST CL CB FA EN PH tm p = mcl EP CB ST MQ FA MT PH tm true p := by
  unfold clB mcl
  by_cases e : PH p = 1
  · obtain ⟨h1, h2⟩ := (h p hp).1 e
    rw [h1, cg_same hne hE hcl h2]
  · rw [decide_eq_false e, Bool.false_and, Bool.false_and]
theorem clF_congr {B B' : Nat → Bool} {n : Nat} {v : Int32} {F F' : Nat → Int32} (h : ∀ p, p < n → B p = B' p) (e : F = F') : clF B n v F = clF B' n v F' := by
  funext p
  unfold clF
  rw [e]
  by_cases hp : p < n
  · rw [h p hp]
  · rw [if_neg (fun z => hp z.1), if_neg (fun z => hp z.1)]
theorem clG_congr {B B' : Nat → Bool} {n : Nat} {F F' : Nat → Int32} (h : ∀ p, p < n → B p = B' p) (e : F = F') : clG B n F = clG B' n F' := by
  funext k
  unfold clG
  rw [e]
  by_cases hp : k / 2 < n
  · rw [h _ hp]
  · rw [if_neg (fun z => hp z.1), if_neg (fun z => hp z.1)]
theorem clG_or {B : Nat → Bool} {n : Nat} {F : Nat → Int32} (k : Nat) : clG B n F k = F k ∨ clG B n F k = 0 := by
  unfold clG
  split
  · exact Or.inr rfl
  · exact Or.inl rfl
theorem ClR_cl {np : Nat} {EP CL : Nat → Nat} {PH EN MT MQ : Nat → Int32} {B B' : Nat → Bool} (h : ClR np EP CL PH EN MT MQ) (hB : ∀ p, p < np → B p = B' p) : ClR np EP CL (clF B np 2 PH) EN (clF B' np (-1) MT) MQ := by
  intro p hp
  have h1 := h p hp
  unfold clF
  rw [← hB p hp]
  by_cases e : B p = true
  · rw [if_pos ⟨hp, e⟩, if_pos ⟨hp, e⟩]
    exact ⟨fun z => absurd z (by decide), fun _ => rfl⟩
  · rw [if_neg (fun z => e z.2), if_neg (fun z => e z.2)]
    exact h1
def TRel (np nq : Nat) (EP HO LP LF CL : Nat → Nat) (TO LS EN MQ : Nat → Int32) (s : CT) (t : MTS) : Prop := KRel nq EP HO LP LF TO s.1 t.1 ∧ s.2 = t.2.2.1 ∧ (∀ q, q < nq → s.1.2.2.2.2.2.2.2.1 q + t.2.1 q + s.1.2.2.2.2.2.2.1 q = nI (HO q)) ∧ CI np nq HO LP LF LS s.1.1 s.1.2.1 s.1.2.2.2.2.2.1 s.1.2.2.2.2.2.2.1 s.1.2.2.2.2.2.2.2.2 ∧ ClR np EP CL s.2 EN t.2.2.2 MQ
theorem i32_3 {a b c d e f g n : Int32} (h1 : a + b = d + e) (h2 : c + e = f + g) (h3 : d + f + g = n) : a + c + b = n := by
  rw [← h3, Int32.add_assoc d f g, ← h2, Int32.add_comm c e, ← Int32.add_assoc d e c, ← h1, Int32.add_assoc a c b, Int32.add_comm c b, ← Int32.add_assoc a b c]
section TICK
variable {np nq : Nat} {EP HO LP LF CL CB PB1 PB2 : Nat → Nat} {TO LS LC FA EN MQ PB3 PB4 : Nat → Int32} {tm : Int32}
theorem CI_le {SI SI' LK LH HE : Nat → Int32} {HA : Int32} (h : CI np nq HO LP LF LS SI LK LH HE HA) (hs : ∀ k, SI' k = SI k ∨ SI' k = 0) : CI np nq HO LP LF LS SI' LK LH HE HA := ⟨SB_le h.1 hs, h.2⟩
/-- one tick: both come to the same -/
theorem tick_same (hHO : ∀ q, HO q ≤ 6) (hLF : ∀ l, LF l ≤ 1) (hE : ∀ z, EP z ≤ 6) (hCL : ∀ z, CL z ≤ 1) (hne : ∀ p, p < np → EP (2 * p) ≠ EP (2 * p + 1)) (hS : LkS nq EP HO LP LF LS LC PB1 PB2 PB3 PB4) (hb : LPB np nq HO LP LF LS) {s s' : CT} {t t' : MTS} {ro r0 r1 : Int32} (hR : TRel np nq EP HO LP LF CL TO LS EN MQ s t) (hC : tkC np nq EP HO TO LP LF LS LC FA EN CL CB tm s s' ro) (hM : mtC np nq EP HO PB1 PB2 PB3 PB4 FA CB MQ tm t t' r0 r1) : TRel np nq EP HO LP LF CL TO LS EN MQ s' t' ∧ r1 = r0 + ro := by
  obtain ⟨a, b, rk, c1, c2, c3⟩ := hC
  obtain ⟨a', b', rk', m1, m2, m3⟩ := hM
  obtain ⟨⟨e1, e2, e3, e4, e5, e6, eD⟩, k2, k3, k4, k5⟩ := hR
  have hO : ORel nq EP HO LP LF TO t.1.2.2.2.2.2.2.2 (s.1.1, s.1.2.1, s.1.2.2.1, s.1.2.2.2.1, s.1.2.2.2.2.2.1, s.1.2.2.2.2.2.2.1, s.1.2.2.2.2.2.2.2.2) (t.1.1, t.1.2.1, t.1.2.2.1, t.1.2.2.2.1, t.1.2.2.2.2.2.1, t.2.1) := ⟨e1, e2, e3, e4, eD⟩
  obtain ⟨⟨p1, p2, p3, p4, pD⟩, o2, o3⟩ := out_same hHO hLF hS hO c1 m1
  have hK : KRel nq EP HO LP LF TO (a.1, a.2.1, a.2.2.1, a.2.2.2.1, s.1.2.2.2.2.1, a.2.2.2.2.1, a.2.2.2.2.2.1, s.1.2.2.2.2.2.2.2.1, a.2.2.2.2.2.2) (a'.1, a'.2.1, a'.2.2.1, a'.2.2.2.1, t.1.2.2.2.2.1, a'.2.2.2.2.1, t.1.2.2.2.2.2.2.1, t.1.2.2.2.2.2.2.2) := ⟨p1, p2, p3, p4, e5, e6, pD⟩
  obtain ⟨⟨q1, q2, q3, q4, q5, q6, qD⟩, -⟩ := keep_same hHO hS hK c2 m2
  have hCa := CI_RA hHO hb k4 c1
  have hCb := CI_KA hHO hb hCa c2
  obtain ⟨L, l1, -⟩ := c2
  have hkh := ck_KH l1
  have hB : ∀ p, p < np → clB EP b.2.2.2.2.1 CL CB FA EN s.2 tm p = mcl EP CB b'.2.2.2.2.1 MQ FA t.2.2.2 t.2.2.1 tm true p := fun p hp => by
    rw [← k2, ← q5]
    exact cl_same k5 hp (hne p hp) hE (hCL p)
  subst c3 m3
  refine ⟨⟨⟨clG_congr hB q1, q2, clF_congr hB q3, clF_congr hB q4, q5, q6, qD⟩, clF_congr hB k2, fun q hq => i32_3 (hkh q) (o3 q) (k3 q hq), CI_le hCb clG_or, ClR_cl k5 hB⟩, o2⟩
theorem ticks_same (hHO : ∀ q, HO q ≤ 6) (hLF : ∀ l, LF l ≤ 1) (hE : ∀ z, EP z ≤ 6) (hCL : ∀ z, CL z ≤ 1) (hne : ∀ p, p < np → EP (2 * p) ≠ EP (2 * p + 1)) (hS : LkS nq EP HO LP LF LS LC PB1 PB2 PB3 PB4) (hb : LPB np nq HO LP LF LS) {s : CT} {t : MTS} (hR : TRel np nq EP HO LP LF CL TO LS EN MQ s t) : ∀ (N : Nat) {s' : CT} {t' : MTS} {r r' : Int32}, tkI np nq EP HO TO LP LF LS LC FA EN CL CB tm s N s' r → mtI np nq EP HO PB1 PB2 PB3 PB4 FA CB MQ tm t N t' r' → TRel np nq EP HO LP LF CL TO LS EN MQ s' t' ∧ r' = r := by
  intro N
  induction N with
  | zero =>
    rintro s' t' r r' ⟨rfl, rfl⟩ ⟨rfl, rfl⟩
    exact ⟨hR, rfl⟩
  | succ N ih =>
    rintro s' t' r r' ⟨s1, r1, ro, c1, c2, c3⟩ ⟨t1, u1, m1, m2⟩
    obtain ⟨i1, i2⟩ := ih c1 m1
    obtain ⟨j1, j2⟩ := tick_same hHO hLF hE hCL hne hS hb i1 c2 m2
    exact ⟨j1, by rw [j2, i2, c3]⟩
end TICK
