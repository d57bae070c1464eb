-- what stands between class and reference, at the head of the law's loop
def relP (nn : Nat) (FA FB FR : Nat → Int32) (mn : Nat) (MAw MB MR : Nat → Int32) : Prop := nn = mn ∧ FA = MAw ∧ FB = MB ∧ FR = MR ∧ (∀ g, 0 ≤ (FB g).toInt ∧ (FB g).toInt ≤ 100) ∧ (∀ g, 0 ≤ (FR g).toInt ∧ (FR g).toInt ≤ 100)
def relQ (np : Nat) (EP ST CL CB : Nat → Nat) (SI LK PH EN LE GR : Nat → Int32) (tm : Int32) (mp : Nat) (ME MY MX : Nat → Nat) (MS MLk MU MT MQ ML MH : Nat → Int32) : Prop := (np = mp ∧ EP = ME ∧ ST = MY ∧ CB = MX ∧ SI = MS ∧ LK = MLk ∧ PH = MU ∧ LE = ML ∧ GR = MH) ∧ ClR np EP CL PH EN MT MQ ∧ (∀ q, q < np → EP (2 * q) ≠ EP (2 * q + 1)) ∧ SB SI LK ∧ (∀ q, q < np → 1 ≤ ST q) ∧ (∀ p, p < np → PH p = 1 → tm < EN p)
def relL (np : Nat) (EP : Nat → Nat) (LK : Nat → Int32) (nq : Nat) (HA : Int32) (HO LP LF : Nat → Nat) (PY PD HE KE TO LS LC LH : Nat → Int32) (mq : Nat) (PA3 PA7 PB1 PB2 : Nat → Nat) (PA1 PA2 PA4 PA5 PA6 PB3 PB4 PB5 : Nat → Int32) : Prop := (nq = mq ∧ PD = PA1 ∧ PY = PA2 ∧ HO = PA3 ∧ KE = PA4 ∧ TO = PA6) ∧ LkS nq EP HO LP LF LS LC PB1 PB2 PB3 PB4 ∧ LkD nq EP HO LP LF TO LH PB5 PA7 ∧ LPB np nq HO LP LF LS ∧ (∀ q, q < nq → KE q + PA5 q + HE q = nI (HO q)) ∧ HOK nq HO LH HE HA ∧ LKI np nq HO LP LF LS LH LK ∧ (∀ zz, narrow .boolean (.int (TO zz)) = .int (TO zz))
def relW (kl : Nat) (KP KF : Nat → Nat) (mhw : Int32) (mwn : Nat) (WA1 WA2 : Nat → Nat) : Prop := kl = mwn ∧ KP = WA1 ∧ KF = WA2 ∧ (mhw = 0 ↔ kl = 0)
def relT (ti : Nat) (tm gp lk mtm mgp mlk : Int32) : Prop := tm = mtm ∧ gp = mgp ∧ lk = mlk ∧ 0 ≤ tm.toInt ∧ tm.toInt ≤ 12 * ti ∧ 1 ≤ lk.toInt ∧ lk.toInt ≤ 50
theorem relT_up {ti : Nat} {tm gp lk mtm mgp mlk : Int32} (h : relT ti tm gp lk mtm mgp mlk) : relT (ti + 5) tm gp lk mtm mgp mlk := by
  obtain ⟨a, b, c, d, e, f, g⟩ := h
  exact ⟨a, b, c, d, by omega, f, g⟩
theorem relT_tick {ti N : Nat} {tm gp lk mtm mgp mlk : Int32} (h : relT ti tm gp lk mtm mgp mlk) (hti : ti ≤ 2560) (hN : N ≤ 60) : relT (ti + 5) (tm + nI N) gp lk (mtm + nI N) mgp mlk := by
  obtain ⟨a, b, c, d, e, f, g⟩ := h
  have h1 : (nI N).toInt = N := nI_toInt (by omega)
  have h2 := add_toInt (a := tm) (b := nI N) (by omega) (by omega) (by omega) (by omega)
  exact ⟨by rw [a], b, c, by omega, by omega, f, g⟩
theorem relT_look {ti : Nat} {tm gp lk lk' mtm mgp mlk mlk' v : Int32} (h : relT ti tm gp lk mtm mgp mlk) (h1 : lk' = gsv lk v) (h2 : mlk' = gsv mlk v) : relT (ti + 5) tm gp lk' mtm mgp mlk' := by
  obtain ⟨a, b, c, d, e, f, g⟩ := h
  subst c
  subst h1
  refine ⟨a, b, h2.symm, d, by omega, ?_⟩
  unfold gsv
  by_cases hv : isw v 1 50 = 0
  · rw [if_pos hv]
    exact ⟨f, g⟩
  · rw [if_neg hv]
    exact ⟨Int32.le_iff_toInt_le.mp (isw_ge hv).1, Int32.le_iff_toInt_le.mp (isw_ge hv).2⟩
theorem n7_eq {a b N : Nat} {i : Int32} (ha : a < N) (hb : b < N) (hN : N ≤ 64) (h1 : i = nI a) (h2 : i = nI b) : a = b := (nI_eq (by omega) (by omega)).mp (h1.symm.trans h2)
theorem isw_no {a N : Nat} {i : Int32} (ha : a < N) (hN : N ≤ 64) (h1 : i = nI a) (h : isw i 0 (nI N - 1) = 0) : False := by
  subst h1
  obtain ⟨m, rfl⟩ : ∃ m, N = m + 1 := ⟨N - 1, by omega⟩
  rw [nI_pred] at h
  unfold isw at h
  rw [if_neg (nI_pos (by omega))] at h
  rw [if_neg (fun q => by have := (nI_ltI (a := m) (b := a) (by omega) (by omega)).mp q; omega)] at h
  exact absurd h (by decide)
theorem isw_b {v lo hi : Int32} (h : ¬ isw v lo hi = 0) : lo.toInt ≤ v.toInt ∧ v.toInt ≤ hi.toInt := ⟨Int32.le_iff_toInt_le.mp (isw_ge h).1, Int32.le_iff_toInt_le.mp (isw_ge h).2⟩
theorem bp_in {nn : Nat} {i j u v : Int32} (h : ¬ badPair nn i j u v) : (0 ≤ u.toInt ∧ u.toInt ≤ 100000) ∧ (0 ≤ v.toInt ∧ v.toInt ≤ 100000) := ⟨isw_b (fun q => h (bp_4 q)), isw_b (fun q => h (bp_5 q))⟩
theorem bf_in {nn : Nat} {i u v : Int32} (h : ¬ badFee nn i u v) : (0 ≤ u.toInt ∧ u.toInt ≤ 100) ∧ (0 ≤ v.toInt ∧ v.toInt ≤ 100) := ⟨isw_b (fun q => h (bf_2 q)), isw_b (fun q => h (bf_3 q))⟩
theorem zf_b {F : Nat → Int32} (h : ∀ g, 0 ≤ (F g).toInt ∧ (F g).toInt ≤ 100) : ∀ g, 0 ≤ (zf 7 F g).toInt ∧ (zf 7 F g).toInt ≤ 100 := by
  have z : (0 : Int32).toInt = 0 := Int32.toInt_zero
  intro g
  unfold zf
  by_cases e : g < 7
  · rw [if_pos e]
    omega
  · rw [if_neg e]
    exact h g
theorem up_b {F : Nat → Int32} {a : Nat} {u : Int32} (h : ∀ g, 0 ≤ (F g).toInt ∧ (F g).toInt ≤ 100) (hu : 0 ≤ u.toInt ∧ u.toInt ≤ 100) : ∀ g, 0 ≤ (upd F a u g).toInt ∧ (upd F a u g).toInt ≤ 100 := by
  intro g
  by_cases e : g = a
  · rw [e, pk_us]
    exact hu
  · rw [pk_un e]
    exact h g
theorem gsum_pair {S : Nat → Int32} {p : Nat} {u v : Int32} : gsum (upd (upd S (2 * p) u) (2 * p + 1) v) p = u + v := by
  unfold gsum
  rw [pk_un (show 2 * p ≠ 2 * p + 1 by omega), pk_us, pk_us]
theorem ne_pair {np a b : Nat} {EP : Nat → Nat} (h : ∀ q, q < np → EP (2 * q) ≠ EP (2 * q + 1)) (hab : ¬ a = b) : ∀ q, q < np + 1 → upN (upN EP (2 * np) a) (2 * np + 1) b (2 * q) ≠ upN (upN EP (2 * np) a) (2 * np + 1) b (2 * q + 1) := by
  intro q hq
  by_cases e : q = np
  · rw [e, upN_n (show 2 * np ≠ 2 * np + 1 by omega), upN_s, upN_s]
    exact hab
  · rw [upN_n (show 2 * q ≠ 2 * np + 1 by omega), upN_n (show 2 * q ≠ 2 * np by omega), upN_n (show 2 * q + 1 ≠ 2 * np + 1 by omega), upN_n (show 2 * q + 1 ≠ 2 * np by omega)]
    exact h q (by omega)
theorem st_pair {np : Nat} {ST : Nat → Nat} (h : ∀ q, q < np → 1 ≤ ST q) : ∀ q, q < np + 1 → 1 ≤ upN (upN ST np 0) np (inc64 (upN ST np 0 np)) q := by
  intro q hq
  by_cases e : q = np
  · rw [e, upN_s]
    exact inc64_1 _
  · rw [upN_n e, upN_n e]
    exact h q (by omega)
theorem en_pair {np : Nat} {PH EN : Nat → Int32} {tm : Int32} (h : ∀ p, p < np → PH p = 1 → tm < EN p) : ∀ p, p < np + 1 → upd PH np 0 p = 1 → tm < EN p := by
  intro p hp h1
  by_cases e : p = np
  · rw [e, pk_us] at h1
    exact absurd h1 (by decide)
  · rw [pk_un e] at h1
    exact h p (by omega) h1
-- free pairs are so in both: rings
theorem isR_fr {EP : Nat → Nat} {fr fr' : Nat → Prop} {np n : Nat} {K : Nat → Nat} (hf : ∀ p, p < np → (fr p ↔ fr' p)) (h : isR EP fr np n K) : isR EP fr' np n K := by
  obtain ⟨h1, h2, h3, h4, h5, h6⟩ := h
  exact ⟨h1, fun z hz => ⟨(h2 z hz).1, (hf _ (by have := (h2 z hz).1; omega)).mp (h2 z hz).2⟩, h3, h4, h5, h6⟩
theorem RBok_fr {EP : Nat → Nat} {fr fr' : Nat → Prop} {np : Nat} {SI : Nat → Int32} {b : Int32} {rl : Nat} {bo bm : Int32} {RP RF : Nat → Nat} (hf : ∀ p, p < np → (fr p ↔ fr' p)) (h : RBok EP fr np SI b rl bo bm RP RF) : RBok EP fr' np SI b rl bo bm RP RF := fun h0 => ⟨isR_fr hf (h h0).1, (h h0).2⟩
theorem RAll_fr {EP : Nat → Nat} {fr fr' : Nat → Prop} {np : Nat} {SI : Nat → Int32} {b : Int32} {cand : Nat → (Nat → Nat) → Int32 → Prop} {δ : Nat} {K : Nat → Nat} {lim rl : Nat} {bo bm : Int32} {RP : Nat → Nat} (hf : ∀ p, p < np → (fr p ↔ fr' p)) (h : RAll EP fr np SI b cand δ K lim rl bo bm RP) : RAll EP fr' np SI b cand δ K lim rl bo bm RP := fun n K' m hr => h n K' m (isR_fr (fun p hp => (hf p hp).symm) hr)
theorem sumO_b {SI PH : Nat → Int32} (hS : ∀ k, 0 ≤ (SI k).toInt ∧ (SI k).toInt ≤ 200000) : ∀ n, n ≤ 12 → 0 ≤ (sumO SI PH n).toInt ∧ (sumO SI PH n).toInt ≤ 200000 * n := by
  have z : (0 : Int32).toInt = 0 := Int32.toInt_zero
  intro n
  induction n with
  | zero =>
    intro _
    show 0 ≤ (0 : Int32).toInt ∧ (0 : Int32).toInt ≤ _
    omega
  | succ n ih =>
    intro hn
    obtain ⟨i1, i2⟩ := ih (by omega)
    show 0 ≤ (sumO SI PH n + if PH n = 0 then oabs (SI (2 * n) - SI (2 * n + 1)) else 0).toInt ∧ (sumO SI PH n + if PH n = 0 then oabs (SI (2 * n) - SI (2 * n + 1)) else 0).toInt ≤ _
    by_cases e : PH n = 0
    · rw [if_pos e]
      have a1 := hS (2 * n)
      have a2 := hS (2 * n + 1)
      have a3 := sub_toInt (a := SI (2 * n)) (b := SI (2 * n + 1)) (by omega) (by omega) (by omega) (by omega)
      have a4 := oabs_toInt (x := SI (2 * n) - SI (2 * n + 1)) (by omega) (by omega)
      have a5 := add_toInt (a := sumO SI PH n) (b := oabs (SI (2 * n) - SI (2 * n + 1))) (by omega) (by omega) (by omega) (by omega)
      omega
    · rw [if_neg e, Int32.add_zero]
      omega
theorem gRi_same {rl rl' : Nat} {bo bm bo' bm' : Int32} {P F P' F' : Nat → Nat} {z i : Int32} (h7 : rl ≤ 7) (h : rl = rl' ∧ (¬ rl = 0 → bo = bo' ∧ bm = bm' ∧ ∀ z, z < rl → P z = P' z ∧ F z = F' z)) : gRi rl bo bm P F z i = gRi rl' bo' bm' P' F' z i := by
  obtain ⟨e, g⟩ := h
  subst e
  unfold gRi
  by_cases e : rl = 0
  · rw [if_pos e, if_pos e]
  · obtain ⟨g1, g2, g3⟩ := g e
    rw [if_neg e, if_neg e, g1, g2]
    by_cases e2 : isw i 0 (nI rl - 1) = 0
    · rw [if_pos e2, if_pos e2]
    · obtain ⟨j, hj, rfl⟩ := isw_nI (by omega) e2
      obtain ⟨g4, g5⟩ := g3 j hj
      rw [if_neg e2, if_neg e2, nI_clamp (by omega), g4, g5]
-- ticks: states, closings
theorem tkI_ST {np nq : Nat} {EP HO : Nat → Nat} {TO : Nat → Int32} {LP LF : Nat → Nat} {LS LC FA EN : Nat → Int32} {CL CB : Nat → Nat} {tm : Int32} {s0 : CT} (h0 : ∀ q, q < np → 1 ≤ s0.1.2.2.2.2.1 q) : ∀ (k : Nat) {s : CT} {r : Int32}, tkI np nq EP HO TO LP LF LS LC FA EN CL CB tm s0 k s r → ∀ q, q < np → 1 ≤ s.1.2.2.2.2.1 q := by
  intro k
  induction k with
  | zero =>
    rintro s r ⟨rfl, -⟩
    exact h0
  | succ k ih =>
    rintro s r ⟨s1, r1, ro, c1, ⟨a, b, rk, -, c3, c4⟩, -⟩
    have h1 := KA_ST (np := np) c3 (ih c1)
    rw [c4]
    exact h1
theorem tkC_EN {np nq : Nat} {EP HO : Nat → Nat} {TO : Nat → Int32} {LP LF : Nat → Nat} {LS LC FA EN : Nat → Int32} {CL CB : Nat → Nat} {tm : Int32} {s t : CT} {ro : Int32} (h : tkC np nq EP HO TO LP LF LS LC FA EN CL CB tm s t ro) : ∀ p, p < np → t.2 p = 1 → tm < EN p := by
  obtain ⟨a, b, rk, -, -, c3⟩ := h
  intro p hp h1
  rw [c3] at h1
  have h1 : clF (clB EP b.2.2.2.2.1 CL CB FA EN s.2 tm) np 2 s.2 p = 1 := h1
  unfold clF at h1
  by_cases e : clB EP b.2.2.2.2.1 CL CB FA EN s.2 tm p = true
  · rw [if_pos ⟨hp, e⟩] at h1
    exact absurd h1 (by decide)
  · rw [if_neg (fun z => e z.2)] at h1
    apply Classical.byContradiction
    intro h2
    exact e (clB_2 h1 h2)
theorem tkI_EN {np nq : Nat} {EP HO : Nat → Nat} {TO : Nat → Int32} {LP LF : Nat → Nat} {LS LC FA EN : Nat → Int32} {CL CB : Nat → Nat} {tm : Int32} {s0 s : CT} {k : Nat} {r : Int32} (hk : 1 ≤ k) (h : tkI np nq EP HO TO LP LF LS LC FA EN CL CB tm s0 k s r) : ∀ p, p < np → s.2 p = 1 → tm + nI k < EN p := by
  cases k with
  | zero => omega
  | succ k =>
    obtain ⟨s1, r1, ro, c1, c2, -⟩ := h
    exact tkC_EN c2
/-- between ticks none of the closings is at its end -/
theorem cl_same2 {np : Nat} {EP ST CL CB : Nat → Nat} {FA MQ MT EN PH : Nat → Int32} {tm : Int32} {p : Nat} (h : ClR np EP CL PH EN MT MQ) (hp : p < np) (hne : EP (2 * p) ≠ EP (2 * p + 1)) (hE : ∀ z, EP z ≤ 6) (hcl : CL p ≤ 1) (ht : PH p = 1 → tm < EN p) : clB EP ST CL CB FA EN PH tm p = mcl EP CB ST MQ FA MT PH tm false p := by
  unfold clB mcl
  by_cases e : PH p = 1
  · obtain ⟨h1, h2⟩ := (h p hp).1 e
    rw [h1, if_pos (ht e), if_pos (ht e), cg_same hne hE hcl h2]
  · rw [decide_eq_false e, Bool.false_and, Bool.false_and]
theorem clF_EN {np : Nat} {B : Nat → Bool} {PH EN : Nat → Int32} {tm : Int32} (h : ∀ p, p < np → PH p = 1 → tm < EN p) : ∀ p, p < np → clF B np 2 PH p = 1 → tm < EN p := by
  intro p hp h1
  unfold clF at h1
  by_cases e : p < np ∧ B p = true
  · rw [if_pos e] at h1
    exact absurd h1 (by decide)
  · rw [if_neg e] at h1
    exact h p hp h1
theorem en_close {np p : Nat} {PH EN : Nat → Int32} {tm lk c : Int32} (h : ∀ p, p < np → PH p = 1 → tm < EN p) (hc : tm < tm + lk) : ∀ q, q < np → upd PH p c q = 1 → tm < upd EN p (tm + lk) q := by
  intro q hq h1
  by_cases e : q = p
  · rw [e, pk_us]
    exact hc
  · rw [pk_un e] at h1
    rw [pk_un e]
    exact h q hq h1
theorem tm_lt {ti : Nat} {tm gp lk mtm mgp mlk : Int32} (h : relT ti tm gp lk mtm mgp mlk) (hti : ti ≤ 2560) : tm < tm + lk := by
  obtain ⟨a, b, c, d, e, f, g⟩ := h
  have h2 := add_toInt (a := tm) (b := lk) (by omega) (by omega) (by omega) (by omega)
  rw [Int32.lt_iff_toInt_lt]
  omega
/-- a promise is locked: in both the same -/
theorem pr_same {EP : Nat → Nat} {PH SI FB FR : Nat → Int32} {np a b n : Nat} {v : Int32} {K1 K2 P2 F2 : Nat → Nat} {C1 : Nat → Int32} (hw : isW EP PH SI FB FR np a b v n (lkB n K1 K2)) (hk : ∀ z, z < n → K1 z = P2 z ∧ K2 z = F2 z) (hc : ∀ z, z < n → C1 z = cwf EP FB FR (lkB n P2 F2) v (n - 1 - z)) : isF EP PH np a b n (fun z => 2 * K1 z + K2 z) ∧ (∀ z, z < n → cwf EP FB FR (lkB n K1 K2) v (n - 1 - z) = C1 z) ∧ ∀ s, lkI EP FB FR (lkB n K1 K2) v s n = itS (fun z => 2 * K1 z + K2 z) (fun z => cwf EP FB FR (lkB n K1 K2) v (n - 1 - z)) s n ∧ mlI P2 F2 C1 s n = itS (fun z => 2 * K1 z + K2 z) (fun z => cwf EP FB FR (lkB n K1 K2) v (n - 1 - z)) s n := by
  have hf0 := isW_F hw
  have hf : isF EP PH np a b n (fun z => 2 * K1 z + K2 z) := by
    have h1 := hf0.1
    have g : ∀ z, z < n → fwd n (lkB n K1 K2) z = 2 * K1 z + K2 z := fun z hz => by
      show 2 * K1 (n - 1 - (n - 1 - z)) + K2 (n - 1 - (n - 1 - z)) = _
      rw [show n - 1 - (n - 1 - z) = z by omega]
    obtain ⟨f1, f2, f3, f4, f5, f6, f7⟩ := hf0
    refine ⟨f1, fun z hz => ?_, ?_, fun z hz => ?_, ?_, fun i j hij hj => ?_, fun i hi => ?_⟩
    · have := f2 z hz
      rw [g z hz] at this
      exact this
    · rw [g 0 (by omega)] at f3
      exact f3
    · have := f4 z hz
      rw [g z (by omega), g (z + 1) hz] at this
      exact this
    · rw [g (n - 1) (by omega)] at f5
      exact f5
    · have := f6 i j hij hj
      rw [g i (by omega), g j hj] at this
      exact this
    · have := f7 i hi
      rw [g i hi] at this
      exact this
  have hB : ∀ z, z < n → lkB n K1 K2 z = lkB n P2 F2 z := fun z hz => by
    show 2 * K1 (n - 1 - z) + K2 (n - 1 - z) = 2 * P2 (n - 1 - z) + F2 (n - 1 - z)
    rw [(hk (n - 1 - z) (by omega)).1, (hk (n - 1 - z) (by omega)).2]
  have hC : ∀ z, z < n → cwf EP FB FR (lkB n K1 K2) v (n - 1 - z) = C1 z := fun z hz => by
    rw [hc z hz, cwf_congr (n := n) hB (n - 1 - z) (by omega)]
  refine ⟨hf, hC, fun s => ⟨?_, ?_⟩⟩
  · rw [lkI_it, ← itS_rev n s (isF_pairs hf)]
    refine itS_congr n (fun z hz => ⟨rfl, ?_⟩)
    rw [show n - 1 - (n - 1 - z) = z by omega]
  · rw [mlI_it]
    exact itS_congr n (fun z hz => ⟨by rw [(hk z hz).1, (hk z hz).2], (hC z hz).symm⟩)
