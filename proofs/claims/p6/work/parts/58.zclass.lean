-- answers that change nothing
def gWay (kl : Nat) (KP : Nat → Nat) (i : Int32) : Int32 := if isw i 0 (nI kl - 1) = 0 then -1 else nI (KP i.toNatClampNeg)
def gSd (np : Nat) (S : Nat → Int32) (i z : Int32) : Int32 := if isw i 0 (nI np - 1) = 0 then -2 else if isw z 0 1 = 0 then -2 else S (2 * i.toNatClampNeg + z.toNatClampNeg)
def gLe (np : Nat) (LE GR : Nat → Int32) (i z : Int32) : Int32 := if isw i 0 (nI np - 1) = 0 then -2 else if isw z 0 1 = 0 then -2 else if z = 0 then LE i.toNatClampNeg else GR i.toNatClampNeg
def gPB (HE : Nat → Int32) (HO : Nat → Nat) (KE PD LS TO PY : Nat → Int32) (q : Nat) (z : Int32) : Int32 := if z = 0 then gOut (HE q) (nI (HO q)) (KE q) else if z = 1 then PD q else if z = 2 then LS (q * 6) else if z = 3 then nI (HO q) else if z = 4 then KE q else if z = 5 then (if TO q = 0 then 0 else 1) else if z = 6 then PY q else -2
def gPA (nq : Nat) (HE : Nat → Int32) (HO : Nat → Nat) (KE PD LS TO PY : Nat → Int32) (i z : Int32) : Int32 := if isw i 0 (nI nq - 1) = 0 then -2 else gPB HE HO KE PD LS TO PY i.toNatClampNeg z
def gAC (EP : Nat → Nat) (PH : Nat → Int32) (ST : Nat → Nat) (EN : Nat → Int32) (j : Nat) (z : Int32) : Int32 := if z = 0 then nI (EP (2 * j)) else if z = 1 then nI (EP (2 * j + 1)) else if z = 2 then PH j else if z = 3 then nI (ST j) else if z = 4 then (if PH j = 1 then EN j else -1) else -2
def gAB (np : Nat) (EP : Nat → Nat) (PH : Nat → Int32) (ST : Nat → Nat) (EN : Nat → Int32) (i z : Int32) : Int32 := if isw i 0 (nI np - 1) = 0 then -2 else gAC EP PH ST EN i.toNatClampNeg z
def gCt (nn np nq : Nat) (HA tm gp lk aw : Int32) (z : Int32) : Int32 := if z = 0 then nI nn else if z = 1 then nI np else if z = 2 then nI nq else if z = 3 then HA else if z = 4 then tm else if z = 5 then gp else if z = 6 then lk else if z = 7 then aw else -2
theorem KA_HOK {nq : Nat} {EP HO : Nat → Nat} {TO : Nat → Int32} {LP LF : Nat → Nat} {LS LC FA : Nat → Int32} {tm : Int32} {s0 s : CK} {sm : Int32} (hHO : ∀ q, HO q ≤ 6) (h : KA nq EP HO TO LP LF LS LC FA tm s0 s sm) (h0 : HOK nq HO s0.2.2.2.2.2.1 s0.2.2.2.2.2.2.1 s0.2.2.2.2.2.2.2.2) : HOK nq HO s.2.2.2.2.2.1 s.2.2.2.2.2.2.1 s.2.2.2.2.2.2.2.2 := by
  obtain ⟨L, h1, -⟩ := h
  exact HOK_Rn hHO h1 h0
theorem RA_HOK {nq : Nat} {HO LP LF : Nat → Nat} {LS LC : Nat → Int32} {tm : Int32} {s0 s : CR} {sm : Int32} (hHO : ∀ q, HO q ≤ 6) (h : RA nq HO LP LF LS LC tm s0 s sm) (h0 : HOK nq HO s0.2.2.2.2.1 s0.2.2.2.2.2.1 s0.2.2.2.2.2.2) : HOK nq HO s.2.2.2.2.1 s.2.2.2.2.2.1 s.2.2.2.2.2.2 := by
  obtain ⟨L, h1, -⟩ := h
  exact Rn_inv (fun s : CR => HOK nq HO s.2.2.2.2.1 s.2.2.2.2.2.1 s.2.2.2.2.2.2) (fun s x hs hx => HOK_step hHO hs (by decide) hx.1 hx.2.1 hx.2.2.1) h1 h0
theorem inc64_1 (n : Nat) : 1 ≤ inc64 n := by
  unfold inc64
  split <;> omega
theorem KA_ST {np nq : Nat} {EP HO : Nat → Nat} {TO : Nat → Int32} {LP LF : Nat → Nat} {LS LC FA : Nat → Int32} {tm : Int32} {s0 s : CK} {sm : Int32} (h : KA nq EP HO TO LP LF LS LC FA tm s0 s sm) (h0 : ∀ q, q < np → 1 ≤ s0.2.2.2.2.1 q) : ∀ q, q < np → 1 ≤ s.2.2.2.2.1 q := by
  obtain ⟨L, h1, -⟩ := h
  refine Rn_inv (fun s : CK => ∀ q, q < np → 1 ≤ s.2.2.2.2.1 q) (fun s x hs hx q hq => ?_) h1 h0
  show 1 ≤ upN s.2.2.2.2.1 (LP (x.1 * 6 + x.2)) (inc64 (s.2.2.2.2.1 (LP (x.1 * 6 + x.2)))) q
  unfold upN
  split
  · exact inc64_1 _
  · exact hs q hq
-- ticks
abbrev CT : Type := CK × (Nat → Int32)
def tkC (np nq : Nat) (EP HO : Nat → Nat) (TO : Nat → Int32) (LP LF : Nat → Nat) (LS LC FA EN : Nat → Int32) (CL CB : Nat → Nat) (tm : Int32) (s t : CT) (ro : Int32) : Prop := ∃ (a : CR) (b : CK) (rk : Int32), RA nq HO LP LF LS LC tm (s.1.1, s.1.2.1, s.1.2.2.1, s.1.2.2.2.1, s.1.2.2.2.2.2.1, s.1.2.2.2.2.2.2.1, s.1.2.2.2.2.2.2.2.2) a ro ∧ KA nq EP HO TO LP LF LS LC FA tm (a.1, a.2.1, a.2.2.1, a.2.2.2.1, s.1.2.2.2.2.1, a.2.2.2.2.1, a.2.2.2.2.2.1, s.1.2.2.2.2.2.2.2.1, a.2.2.2.2.2.2) b rk ∧ t = ((clG (clB EP b.2.2.2.2.1 CL CB FA EN s.2 tm) np b.1, b.2.1, clF (clB EP b.2.2.2.2.1 CL CB FA EN s.2 tm) np 0 b.2.2.1, clF (clB EP b.2.2.2.2.1 CL CB FA EN s.2 tm) np 0 b.2.2.2.1, b.2.2.2.2.1, b.2.2.2.2.2.1, b.2.2.2.2.2.2.1, b.2.2.2.2.2.2.2.1, b.2.2.2.2.2.2.2.2), clF (clB EP b.2.2.2.2.1 CL CB FA EN s.2 tm) np 2 s.2)
def tkI (np nq : Nat) (EP HO : Nat → Nat) (TO : Nat → Int32) (LP LF : Nat → Nat) (LS LC FA EN : Nat → Int32) (CL CB : Nat → Nat) (tm : Int32) (s0 : CT) : Nat → CT → Int32 → Prop
  | 0, s, r => s = s0 ∧ r = 0
  | k + 1, s, r => ∃ (s1 : CT) (r1 ro : Int32), tkI np nq EP HO TO LP LF LS LC FA EN CL CB tm s0 k s1 r1 ∧ tkC np nq EP HO TO LP LF LS LC FA EN CL CB (tm + nI (k + 1)) s1 s ro ∧ r = r1 + ro
theorem tm_up {a b : Int32} {k : Nat} (h : a = b + nI k) : a + 1 = b + nI (k + 1) := by rw [h, Int32.add_assoc, nI_1]
theorem tkI_s {np nq : Nat} {EP HO : Nat → Nat} {TO : Nat → Int32} {LP LF : Nat → Nat} {LS LC FA EN : Nat → Int32} {CL CB : Nat → Nat} {tm t' : Int32} {s0 s1 s : CT} {k : Nat} {r1 ro : Int32} (h : tkI np nq EP HO TO LP LF LS LC FA EN CL CB tm s0 k s1 r1) (ht : t' = tm + nI (k + 1)) (h2 : tkC np nq EP HO TO LP LF LS LC FA EN CL CB t' s1 s ro) : tkI np nq EP HO TO LP LF LS LC FA EN CL CB tm s0 (k + 1) s (r1 + ro) := by
  subst ht
  exact ⟨s1, r1, ro, h, h2, rfl⟩
def badClose (np nn : Nat) (EP ST : Nat → Nat) (i j z : Int32) : Prop := isw i 0 (nI np - 1) = 0 ∨ isw j 0 (nI nn - 1) = 0 ∨ isw z 0 (nI (ST i.toNatClampNeg - 1)) = 0 ∨ (¬ nI (EP (2 * i.toNatClampNeg)) = j ∧ ¬ nI (EP (2 * i.toNatClampNeg + 1)) = j)
theorem bc_3 {np nn p : Nat} {EP ST : Nat → Nat} {j z : Int32} (hp : p < 2 ^ 31) (h : isw z 0 (nI (ST p - 1)) = 0) : badClose np nn EP ST (nI p) j z := Or.inr (Or.inr (Or.inl (by rw [nI_clamp hp]; exact h)))
theorem bc_4 {np nn p : Nat} {EP ST : Nat → Nat} {j z : Int32} {a : Nat} (hE : ∀ z, EP z ≤ 6) (hp : p < 2 ^ 31) (ha : a < 7) (hj : j = nI a) (h : ¬ EP (2 * p) = a) (h2 : ¬ EP (2 * p + 1) = a) : badClose np nn EP ST (nI p) j z := by
  refine Or.inr (Or.inr (Or.inr ?_))
  have h6 := hE (2 * p)
  have h7 := hE (2 * p + 1)
  rw [nI_clamp hp, hj]
  exact ⟨fun q => h ((nI_eq (by omega) (by omega)).mp q), fun q => h2 ((nI_eq (by omega) (by omega)).mp q)⟩
theorem bc_n {np nn p t : Nat} {EP ST : Nat → Nat} {j z : Int32} (hp : p < 2 ^ 31) (h1 : ¬ isw (nI p) 0 (nI np - 1) = 0) (h2 : ¬ isw j 0 (nI nn - 1) = 0) (h3 : ¬ isw z 0 (nI (ST p - 1)) = 0) (ht : t ≤ 1) (h4 : nI (EP (2 * p + t)) = j) : ¬ badClose np nn EP ST (nI p) j z := by
  rintro (h | h | h | ⟨h, h5⟩)
  · exact h1 h
  · exact h2 h
  · rw [nI_clamp hp] at h
    exact h3 h
  · rw [nI_clamp hp] at h h5
    rcases Nat.lt_or_ge 0 t with q | q
    · have : t = 1 := by omega
      subst this
      exact h5 h4
    · have : t = 0 := by omega
      subst this
      exact h h4
-- a way is locked along
def lkB (kl : Nat) (KP KF : Nat → Nat) : Nat → Nat := fun z => 2 * KP (kl - 1 - z) + KF (kl - 1 - z)
abbrev LK4 : Type := (Nat → Int32) × (Nat → Int32) × (Nat → Int32) × (Nat → Int32)
def lkS (k : Nat) (v : Int32) (s : LK4) : LK4 := (addS s.1 k (-v), addS s.2.1 k v, upd s.2.2.1 (k / 2) 0, upd s.2.2.2 (k / 2) (gsum (addS s.1 k (-v)) (k / 2)))
/-- behind z pairs, from the last one on -/
def lkI (EP : Nat → Nat) (FB FR : Nat → Int32) (B : Nat → Nat) (x : Int32) (s : LK4) : Nat → LK4
  | 0 => s
  | z + 1 => lkS (B z) (cwf EP FB FR B x z) (lkI EP FB FR B x s z)
-- a ring is made
abbrev EV4 : Type := (Nat → Int32) × (Nat → Nat) × (Nat → Int32) × (Nat → Int32)
def evS (p t : Nat) (m : Int32) (s : EV4) : EV4 := (addS (addS s.1 (2 * p + t) (-m)) (2 * p + (1 - t)) m, upN s.2.1 p (inc64 (s.2.1 p)), upd s.2.2.1 p 0, upd s.2.2.2 p (gsum (addS (addS s.1 (2 * p + t) (-m)) (2 * p + (1 - t)) m) p))
def evI (P F : Nat → Nat) (m : Int32) (s : EV4) : Nat → EV4
  | 0 => s
  | z + 1 => evS (P z) (F z) m (evI P F m s z)
