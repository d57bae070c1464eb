-- a way locked along: a step
theorem lkB_at {kl kk : Nat} {KP KF : Nat → Nat} (h : kk < kl) : lkB kl KP KF (kl - (kk + 1)) = 2 * KP kk + KF kk := by
  unfold lkB
  rw [show kl - 1 - (kl - (kk + 1)) = kk by omega]
theorem lkI_s {EP : Nat → Nat} {FB FR : Nat → Int32} {kl kk : Nat} {KP KF : Nat → Nat} {x c : Int32} {s0 : LK4} {S K L G : Nat → Int32} (h : (S, K, L, G) = lkI EP FB FR (lkB kl KP KF) x s0 (kl - (kk + 1))) (hk : kk < kl) (hF : KF kk ≤ 1) (hc : c = cwf EP FB FR (lkB kl KP KF) x (kl - (kk + 1))) : (addS S (2 * KP kk + KF kk) (-c), addS K (2 * KP kk + KF kk) c, upd L (KP kk) 0, upd G (KP kk) (gsum (addS S (2 * KP kk + KF kk) (-c)) (KP kk))) = lkI EP FB FR (lkB kl KP KF) x s0 (kl - kk) := by
  rw [show kl - kk = (kl - (kk + 1)) + 1 by omega]
  show _ = lkS (lkB kl KP KF (kl - (kk + 1))) (cwf EP FB FR (lkB kl KP KF) x (kl - (kk + 1))) (lkI EP FB FR (lkB kl KP KF) x s0 (kl - (kk + 1)))
  rw [← h, ← hc, lkB_at hk]
  unfold lkS
  rw [show (2 * KP kk + KF kk) / 2 = KP kk by omega]
theorem cwf_s {EP : Nat → Nat} {FB FR : Nat → Int32} {kl kk : Nat} {KP KF : Nat → Nat} {x c : Int32} (hk : kk < kl) (hc : c = cwf EP FB FR (lkB kl KP KF) x (kl - (kk + 1))) : c + (FB (EP (2 * KP kk + KF kk)) + c * FR (EP (2 * KP kk + KF kk)) / 1000) = cwf EP FB FR (lkB kl KP KF) x (kl - kk) := by
  rw [show kl - kk = (kl - (kk + 1)) + 1 by omega]
  show _ = cwf EP FB FR (lkB kl KP KF) x (kl - (kk + 1)) + fee1 FB FR (EP (lkB kl KP KF (kl - (kk + 1)))) (cwf EP FB FR (lkB kl KP KF) x (kl - (kk + 1)))
  rw [← hc, lkB_at hk]
  rfl
/-- the new promise's locks from k on -/
def lkL (EP : Nat → Nat) (FB FR : Nat → Int32) (nq kl : Nat) (KP KF : Nat → Nat) (x tm gp : Int32) (k : Nat) (LP LF : Nat → Nat) (LS LC LH : Nat → Int32) : Prop := ∀ z, k ≤ z → z < kl → LP (nq * 6 + z) = KP z ∧ LF (nq * 6 + z) = KF z ∧ LS (nq * 6 + z) = cwf EP FB FR (lkB kl KP KF) x (kl - 1 - z) ∧ LC (nq * 6 + z) = tm + gp * nI (kl - z) ∧ LH (nq * 6 + z) = 0
/-- the others as they were -/
def lkO (nq : Nat) (LP LF : Nat → Nat) (LS LC LH : Nat → Int32) (LP' LF' : Nat → Nat) (LS' LC' LH' : Nat → Int32) : Prop := ∀ l, (l < nq * 6 ∨ nq * 6 + 6 ≤ l) → LP' l = LP l ∧ LF' l = LF l ∧ LS' l = LS l ∧ LC' l = LC l ∧ LH' l = LH l
theorem lkO_rf {nq : Nat} {LP LF : Nat → Nat} {LS LC LH : Nat → Int32} : lkO nq LP LF LS LC LH LP LF LS LC LH := fun _ _ => ⟨rfl, rfl, rfl, rfl, rfl⟩
theorem lkO_s {nq i j t : Nat} {u v w : Int32} {LP LF : Nat → Nat} {LS LC LH : Nat → Int32} {LP' LF' : Nat → Nat} {LS' LC' LH' : Nat → Int32} (hi : i < 6) (h : lkO nq LP LF LS LC LH LP' LF' LS' LC' LH') : lkO nq LP LF LS LC LH (upN LP' (nq * 6 + i) j) (upN LF' (nq * 6 + i) t) (upd LS' (nq * 6 + i) u) (upd LC' (nq * 6 + i) v) (upd LH' (nq * 6 + i) w) := by
  intro l hl
  rw [upN_n (by omega), upN_n (by omega), pk_un (by omega), pk_un (by omega), pk_un (by omega)]
  exact h l hl
theorem lkL_0 {EP : Nat → Nat} {FB FR : Nat → Int32} {nq kl : Nat} {KP KF : Nat → Nat} {x tm gp : Int32} {LP LF : Nat → Nat} {LS LC LH : Nat → Int32} : lkL EP FB FR nq kl KP KF x tm gp kl LP LF LS LC LH := fun z h1 h2 => by omega
theorem lkL_s {EP : Nat → Nat} {FB FR : Nat → Int32} {nq kl kk : Nat} {KP KF : Nat → Nat} {x tm gp c : Int32} {LP LF : Nat → Nat} {LS LC LH : Nat → Int32} (hk : kk < kl) (hc : c = cwf EP FB FR (lkB kl KP KF) x (kl - (kk + 1))) (h : lkL EP FB FR nq kl KP KF x tm gp (kk + 1) LP LF LS LC LH) : lkL EP FB FR nq kl KP KF x tm gp kk (upN LP (nq * 6 + kk) (KP kk)) (upN LF (nq * 6 + kk) (KF kk)) (upd LS (nq * 6 + kk) c) (upd LC (nq * 6 + kk) (tm + gp * nI (kl - kk))) (upd LH (nq * 6 + kk) 0) := by
  intro z h1 h2
  by_cases e : z = kk
  · subst e
    rw [upN_s, upN_s, pk_us, pk_us, pk_us, show kl - 1 - z = kl - (z + 1) by omega]
    exact ⟨rfl, rfl, hc, rfl, rfl⟩
  · rw [upN_n (by omega), upN_n (by omega), pk_un (by omega), pk_un (by omega), pk_un (by omega)]
    exact h z (by omega) h2
-- the first pair of a ring
theorem RSP_1 {EP : Nat → Nat} {fr : Nat → Prop} {np p t : Nat} {GM : Nat → Int32} {K : Nat → Nat} (hne : ∀ q, q < np → EP (2 * q) ≠ EP (2 * q + 1)) (ht : t ≤ 1) (hp : p < np) (hf : fr p) (hk : K 0 = 2 * p + t) (hg : ∀ h, h < 7 → GM h = 0) : RSP EP fr np (upd GM (EP (2 * p + 1 - t)) 1) K 1 (EP (2 * p + 1 - t)) := by
  have ho : oth (K 0) = 2 * p + 1 - t := by rw [hk, oth_code ht, side_1 ht]
  refine ⟨Nat.le_refl _, by rw [show 1 - 1 = 0 from rfl, ho], fun z hz => ?_, fun z h0 hz => by omega, fun z hz => by omega, fun i j hij hj => by omega, fun z hz => ?_, fun h hh => ?_⟩
  · rw [show z = 0 by omega, hk, show (2 * p + t) / 2 = p by omega]
    exact ⟨by omega, hf⟩
  · rw [show z = 0 by omega]
    exact fun q => ends_ne hne (show K 0 < 2 * np by omega) q.symm
  · by_cases e : h = EP (2 * p + 1 - t)
    · rw [e, pk_us]
      exact ⟨fun _ => ⟨0, by omega, by rw [ho]⟩, fun _ => by decide⟩
    · rw [pk_un e, hg h hh]
      refine ⟨fun q => absurd rfl q, ?_⟩
      rintro ⟨z, z1, z2⟩
      rw [show z = 0 by omega, ho] at z2
      exact absurd z2.symm e
section RZERO
variable {EP : Nat → Nat} {fr : Nat → Prop} {np : Nat} {SI : Nat → Int32} {b : Int32} {cand : Nat → (Nat → Nat) → Int32 → Prop} {K K2 : Nat → Nat} {k rl rl' : Nat} {bo bm bo' bm' : Int32} {RP RP' : Nat → Nat}
theorem R0_0 : RAll EP fr np SI b cand 0 K 0 rl bo bm RP := fun _ _ _ _ _ _ h => absurd h (Nat.not_lt_zero _)
theorem R0_shut (h : RAll EP fr np SI b cand 0 K k rl bo bm RP) (hf : ¬ fr (k / 2)) : RAll EP fr np SI b cand 0 K (k + 1) rl bo bm RP := RAll_no h (fun n K' m hr hp hd e1 e2 _ => by
  have e : K' 0 = k := by omega
  have := (hr.2.1 0 hd).2
  rw [e] at this
  exact hf this)
theorem R0_zero (h : RAll EP fr np SI b cand 0 K k rl bo bm RP) (hz : SI k = 0) : RAll EP fr np SI b cand 0 K (k + 1) rl bo bm RP := RAll_no h (fun n K' m hr hp hd e1 e2 hf => by
  have e : K' 0 = k := by omega
  have := hf.2.1 0 hd
  rw [e] at this
  exact i32_10 hf.1 this hz)
theorem R0_up (h : RAll EP fr np SI b cand 0 K k rl bo bm RP) (hm : RMono rl bo bm RP rl' bo' bm' RP') (hk : K2 0 = k) (ha : RAll EP fr np SI b cand 1 K2 (2 * np) rl' bo' bm' RP') : RAll EP fr np SI b cand 0 K (k + 1) rl' bo' bm' RP' := RAll_up h hm (fun n K' m hr hp hd e1 e2 hc hf => by
  have h3 := hr.1
  refine ha n K' m hr (fun z hz => ?_) (by omega) (hr.2.1 1 (by omega)).1 hc hf
  rw [show z = 0 by omega, hk]
  omega)
theorem RAll_lim {δ i j : Nat} (h : RAll EP fr np SI b cand δ K i rl bo bm RP) (hj : j ≤ i) : RAll EP fr np SI b cand δ K j rl bo bm RP := fun n K' m hr hp hd hl hc hf => h n K' m hr hp hd (by omega) hc hf
end RZERO
def gRi (rl : Nat) (bo bm : Int32) (RP RF : Nat → Nat) (z i : Int32) : Int32 := if rl = 0 then -1 else if z = 0 then bo else if z = 1 then bm else if z = 2 then nI rl else if isw i 0 (nI rl - 1) = 0 then -1 else if z = 3 then nI (RP i.toNatClampNeg) else nI (RF i.toNatClampNeg)
-- a try, pair by pair
def trL (SI : Nat → Int32) (P F : Nat → Nat) (y : Int32) (LE : Nat → Int32) : Nat → Nat → Int32
  | 0 => LE
  | k + 1 => tryL SI (trL SI P F y LE k) (P k) (F k) y
def trG (SI : Nat → Int32) (P F : Nat → Nat) (y : Int32) (GR : Nat → Int32) : Nat → Nat → Int32
  | 0 => GR
  | k + 1 => tryG SI (trG SI P F y GR k) (P k) (F k) y
def trD (SI : Nat → Int32) (n : Nat) (P F : Nat → Nat) (y : Int32) (LE GR LE' GR' : Nat → Int32) (r : Int32) : Prop := (∃ k, k < n ∧ (∀ z, z < k → ¬ SI (2 * P z + F z) < y) ∧ SI (2 * P k + F k) < y ∧ LE' = trL SI P F y LE (k + 1) ∧ GR' = trG SI P F y GR (k + 1) ∧ r = nI k) ∨ ((∀ z, z < n → ¬ SI (2 * P z + F z) < y) ∧ LE' = trL SI P F y LE n ∧ GR' = trG SI P F y GR n ∧ r = nI n)
