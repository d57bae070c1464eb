-- ticks of the reference
abbrev MTS : Type := MK × (Nat → Int32) × (Nat → Int32) × (Nat → Int32)
def mtC (np nq : Nat) (EP HO PB1 PB2 : Nat → Nat) (PB3 PB4 FA : Nat → Int32) (MX : Nat → Nat) (MQ : Nat → Int32) (tm : Int32) (s t : MTS) (r0 r1 : Int32) : Prop := ∃ (a : MO) (b : MK) (rk : Int32), OA nq HO PB1 PB2 PB3 PB4 tm (s.1.1, s.1.2.1, s.1.2.2.1, s.1.2.2.2.1, s.1.2.2.2.2.2.1, s.2.1) a r0 r1 ∧ MA nq EP HO PB1 PB2 PB3 PB4 FA tm (a.1, a.2.1, a.2.2.1, a.2.2.2.1, s.1.2.2.2.2.1, a.2.2.2.2.1, s.1.2.2.2.2.2.2.1, s.1.2.2.2.2.2.2.2) b rk ∧ t = ((clG (mcl EP MX b.2.2.2.2.1 MQ FA s.2.2.2 s.2.2.1 tm true) np b.1, b.2.1, clF (mcl EP MX b.2.2.2.2.1 MQ FA s.2.2.2 s.2.2.1 tm true) np 0 b.2.2.1, clF (mcl EP MX b.2.2.2.2.1 MQ FA s.2.2.2 s.2.2.1 tm true) np 0 b.2.2.2.1, b.2.2.2.2.1, b.2.2.2.2.2.1, b.2.2.2.2.2.2.1, b.2.2.2.2.2.2.2), a.2.2.2.2.2, clF (mcl EP MX b.2.2.2.2.1 MQ FA s.2.2.2 s.2.2.1 tm true) np 2 s.2.2.1, clF (mcl EP MX b.2.2.2.2.1 MQ FA s.2.2.2 s.2.2.1 tm true) np (-1) s.2.2.2)
def mtI (np nq : Nat) (EP HO PB1 PB2 : Nat → Nat) (PB3 PB4 FA : Nat → Int32) (MX : Nat → Nat) (MQ : Nat → Int32) (tm : Int32) (s0 : MTS) : Nat → MTS → Int32 → Prop
  | 0, s, r => s = s0 ∧ r = 0
  | k + 1, s, r => ∃ (s1 : MTS) (r1 : Int32), mtI np nq EP HO PB1 PB2 PB3 PB4 FA MX MQ tm s0 k s1 r1 ∧ mtC np nq EP HO PB1 PB2 PB3 PB4 FA MX MQ (tm + nI (k + 1)) s1 s r1 r
theorem mtI_s {np nq : Nat} {EP HO PB1 PB2 : Nat → Nat} {PB3 PB4 FA : Nat → Int32} {MX : Nat → Nat} {MQ : Nat → Int32} {tm t' : Int32} {s0 s1 s : MTS} {k : Nat} {r1 r : Int32} (h : mtI np nq EP HO PB1 PB2 PB3 PB4 FA MX MQ tm s0 k s1 r1) (ht : t' = tm + nI (k + 1)) (h2 : mtC np nq EP HO PB1 PB2 PB3 PB4 FA MX MQ t' s1 s r1 r) : mtI np nq EP HO PB1 PB2 PB3 PB4 FA MX MQ tm s0 (k + 1) s r := by
  subst ht
  exact ⟨s1, r1, h, h2⟩
theorem MA_ST {np nq : Nat} {EP HO PB1 PB2 : Nat → Nat} {PB3 PB4 FA : Nat → Int32} {tm : Int32} {s0 s : MK} {sm : Int32} (h : MA nq EP HO PB1 PB2 PB3 PB4 FA tm s0 s sm) (h0 : ∀ q, q < np → 1 ≤ s0.2.2.2.2.1 q) : ∀ q, q < np → 1 ≤ s.2.2.2.2.1 q := by
  obtain ⟨L, h1, -⟩ := h
  refine Rn_inv (fun s : MK => ∀ q, q < np → 1 ≤ s.2.2.2.2.1 q) (fun s x hs hx q hq => ?_) h1 h0
  show 1 ≤ upN s.2.2.2.2.1 (PB1 (8 * x.1 + x.2)) (inc64 (s.2.2.2.2.1 (PB1 (8 * x.1 + x.2)))) q
  unfold upN
  split
  · exact inc64_1 _
  · exact hs q hq
theorem bc_m {np nn p a : Nat} {EP ST : Nat → Nat} {z : Int32} (hp : p < 2 ^ 31) (h1 : ¬ isw (nI p) 0 (nI np - 1) = 0) (h2 : ¬ isw (nI a) 0 (nI nn - 1) = 0) (h3 : ¬ isw z 0 (nI (ST p - 1)) = 0) (h4 : EP (2 * p) = a ∨ EP (2 * p + 1) = a) : ¬ badClose np nn EP ST (nI p) (nI a) z := by
  rcases h4 with h4 | h4
  · exact bc_n (t := 0) hp h1 h2 h3 (by decide) (congrArg nI h4)
  · exact bc_n (t := 1) hp h1 h2 h3 (by decide) (congrArg nI h4)
