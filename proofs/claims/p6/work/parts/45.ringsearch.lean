-- the class's search for rings
theorem df_of {SI : Nat → Int32} {P F : Nat → Nat} {i : Nat} (h : F i ≤ 1) : SI (2 * P i + F i) - SI (2 * P i + 1 - F i) = dfS SI (pfx P F i) := by
  unfold dfS pfx
  rw [oth_code h, side_1 h]
theorem lps_s {SI : Nat → Int32} {K : Nat → Nat} {i : Nat} {x f : Int32} (h : x = lpS SI K i) (e : f = if SI (K i) < x then SI (K i) else x) : f = lpS SI K (i + 1) := by
  unfold lpS mnI
  rw [← h, e]
theorem roff_s {SI : Nat → Int32} {K : Nat → Nat} {i : Nat} {m b x f g : Int32} (h : x = rOff SI K m b i) (e : f = if 0 ≤ dfS SI (K i) - 2 * m then dfS SI (K i) - 2 * m else 0 - (dfS SI (K i) - 2 * m)) (e2 : g = if 0 ≤ dfS SI (K i) then dfS SI (K i) else 0 - dfS SI (K i)) : x + (f - g) = rOff SI K m b (i + 1) := by
  unfold rOff oabs
  rw [← h, e, e2]
/-- one m of a ring is weighed -/
def RW (SI : Nat → Int32) (n : Nat) (P F : Nat → Nat) (b u most : Int32) (rl : Nat) (bo bm : Int32) (RP RF : Nat → Nat) (rl' : Nat) (bo' bm' : Int32) (RP' RF' : Nat → Nat) : Prop := ((1 ≤ u ∧ u ≤ most ∧ rOff SI (pfx P F) u b n < b ∧ (rl = 0 ∨ rLt (rOff SI (pfx P F) u b n) u n P bo bm rl RP)) ∧ rl' = n ∧ bo' = rOff SI (pfx P F) u b n ∧ bm' = u ∧ ∀ z, z < n → RP' z = P z ∧ RF' z = F z) ∨ (¬ (1 ≤ u ∧ u ≤ most ∧ rOff SI (pfx P F) u b n < b ∧ (rl = 0 ∨ rLt (rOff SI (pfx P F) u b n) u n P bo bm rl RP)) ∧ rl' = rl ∧ bo' = bo ∧ bm' = bm ∧ RP' = RP ∧ RF' = RF)
/-- those of C are weighed -/
def ROI (SI : Nat → Int32) (n : Nat) (P F : Nat → Nat) (b : Int32) (C : Int32 → Prop) (rl : Nat) (bo bm : Int32) (RP RF : Nat → Nat) (rl' : Nat) (bo' bm' : Int32) (RP' RF' : Nat → Nat) : Prop := (∀ m, C m → rFit SI n (pfx P F) b m → ¬ rl' = 0 ∧ ¬ rLt (rOff SI (pfx P F) m b n) m n P bo' bm' rl' RP') ∧ RMono rl bo bm RP rl' bo' bm' RP' ∧ ((rl' = rl ∧ bo' = bo ∧ bm' = bm ∧ RP' = RP ∧ RF' = RF) ∨ (rl' = n ∧ rFit SI n (pfx P F) b bm' ∧ bo' = rOff SI (pfx P F) bm' b n ∧ ∀ z, z < n → RP' z = P z ∧ RF' z = F z))
section RSEARCH
variable {SI : Nat → Int32} {n : Nat} {P F : Nat → Nat} {b u most : Int32} {rl rl1 rl' : Nat} {bo bm bo1 bm1 bo' bm' : Int32} {RP RF RP1 RF1 RP' RF' : Nat → Nat} {C : Int32 → Prop}
theorem ROI_0 : ROI SI n P F b (fun _ => False) rl bo bm RP RF rl bo bm RP RF := ⟨fun _ h => h.elim, RMono_rf, Or.inl ⟨rfl, rfl, rfl, rfl, rfl⟩⟩
theorem ROI_w (hS : ∀ k, 0 ≤ (SI k).toInt ∧ (SI k).toInt ≤ 200000) (hn : 0 < n) (hm : most = lpS SI (pfx P F) n) (h : ROI SI n P F b C rl bo bm RP RF rl1 bo1 bm1 RP1 RF1) (hw : RW SI n P F b u most rl1 bo1 bm1 RP1 RF1 rl' bo' bm' RP' RF') : ROI SI n P F b (fun m => C m ∨ m = u) rl bo bm RP RF rl' bo' bm' RP' RF' := by
  obtain ⟨h1, h2, h3⟩ := h
  have hle : ∀ m : Int32, m ≤ most ↔ ∀ z, z < n → m ≤ SI (pfx P F z) := by
    intro m
    rw [hm]
    constructor
    · intro q z hz
      have a1 := Int32.le_iff_toInt_le.mp q
      have a2 := lpS_le (SI := SI) (K := pfx P F) n z hz
      exact Int32.le_iff_toInt_le.mpr (by omega)
    · intro q
      obtain ⟨z, z1, z2⟩ := lpS_min (SI := SI) (K := pfx P F) (fun k => (hS k).2) hn
      rw [z2]
      exact q z z1
  rcases hw with ⟨⟨c1, c2, c3, c4⟩, e1, e2, e3, e4⟩ | ⟨c, e1, e2, e3, e4, e5⟩
  · have mono : RMono rl1 bo1 bm1 RP1 rl' bo' bm' RP' := by
      intro h0
      refine ⟨by omega, fun o m k Q hn hn2 => ?_⟩
      rcases c4 with c4 | c4
      · exact h0 c4
      · rw [e1, e2, e3] at hn2
        exact hn (rLt_tr (rLt_congr (fun _ _ => rfl) (fun z hz => (e4 z hz).1) hn2) c4)
    have self : ∀ {o m : Int32} {k : Nat} {Q : Nat → Nat}, rLt o m k Q bo' bm' rl' RP' → rLt o m k Q (rOff SI (pfx P F) u b n) u n P := by
      intro o m k Q q
      rw [e1, e2, e3] at q
      exact rLt_congr (fun _ _ => rfl) (fun z hz => (e4 z hz).1) q
    refine ⟨fun m hC hf => ?_, RMono_tr h2 mono, Or.inr ⟨e1, ?_, ?_, e4⟩⟩
    · refine ⟨by omega, fun q => ?_⟩
      have q := self q
      rcases hC with hC | hC
      · obtain ⟨g1, g2⟩ := h1 m hC hf
        rcases c4 with c4 | c4
        · exact g1 c4
        · exact g2 (rLt_tr q c4)
      · subst hC
        exact rLt_irr q
    · rw [e3]
      exact ⟨c1, (hle u).mp c2, c3⟩
    · rw [e3, e2]
  · rw [e1, e2, e3, e4, e5]
    refine ⟨fun m hC hf => ?_, h2, h3⟩
    rcases hC with hC | hC
    · exact h1 m hC hf
    · subst hC
      have c5 : ¬ (rl1 = 0 ∨ rLt (rOff SI (pfx P F) m b n) m n P bo1 bm1 rl1 RP1) := fun q => c ⟨hf.1, (hle m).mpr hf.2.1, hf.2.2, q⟩
      exact ⟨fun q => c5 (Or.inl q), fun q => c5 (Or.inr q)⟩
theorem ROI_C {C2 : Int32 → Prop} (hC : ∀ m, C2 m → C m) (h : ROI SI n P F b C rl bo bm RP RF rl' bo' bm' RP' RF') : ROI SI n P F b C2 rl bo bm RP RF rl' bo' bm' RP' RF' := ⟨fun m hm hf => h.1 m (hC m hm) hf, h.2⟩
end RSEARCH
/-- a search for rings that has gone over δ pairs, to p -/
def RSP (EP : Nat → Nat) (fr : Nat → Prop) (np : Nat) (GM : Nat → Int32) (K : Nat → Nat) (δ p : Nat) : Prop := 1 ≤ δ ∧ p = EP (oth (K (δ - 1))) ∧ (∀ z, z < δ → K z < 2 * np ∧ fr (K z / 2)) ∧ (∀ z, 0 < z → z < δ → K 0 / 2 < K z / 2) ∧ (∀ z, z + 1 < δ → EP (oth (K z)) = EP (K (z + 1))) ∧ (∀ i j, i < j → j < δ → EP (oth (K i)) ≠ EP (oth (K j))) ∧ (∀ z, z < δ → EP (oth (K z)) ≠ EP (K 0)) ∧ (∀ h, h < 7 → (¬ GM h = 0 ↔ ∃ z, z < δ ∧ EP (oth (K z)) = h))
section RSTEP
variable {EP : Nat → Nat} {fr : Nat → Prop} {np : Nat} {SI GM : Nat → Int32} {b : Int32} {cand : Nat → (Nat → Nat) → Int32 → Prop} {K : Nat → Nat} {δ p : Nat} {rl rl' : Nat} {bo bm bo' bm' : Int32} {RP RF RP' RF' : Nat → Nat}
theorem RAll_no {i j : Nat} (h : RAll EP fr np SI b cand δ K i rl bo bm RP) (hn : ∀ (n : Nat) (K' : Nat → Nat) (m : Int32), isR EP fr np n K' → (∀ z, z < δ → K' z = K z) → δ < n → i ≤ K' δ → K' δ < j → rFit SI n K' b m → False) : RAll EP fr np SI b cand δ K j rl bo bm RP := by
  intro n K' m hr hp hd hl hc hf
  rcases Nat.lt_or_ge (K' δ) i with e | e
  · exact h n K' m hr hp hd e hc hf
  · exact (hn n K' m hr hp hd e hl hf).elim
theorem RAll_up {i j : Nat} (h : RAll EP fr np SI b cand δ K i rl bo bm RP) (hm : RMono rl bo bm RP rl' bo' bm' RP') (hn : ∀ (n : Nat) (K' : Nat → Nat) (m : Int32), isR EP fr np n K' → (∀ z, z < δ → K' z = K z) → δ < n → i ≤ K' δ → K' δ < j → cand n K' m → rFit SI n K' b m → ¬ rl' = 0 ∧ ¬ rLt (rOff SI K' m b n) m n (fun z => K' z / 2) bo' bm' rl' RP') : RAll EP fr np SI b cand δ K j rl' bo' bm' RP' := by
  intro n K' m hr hp hd hl hc hf
  rcases Nat.lt_or_ge (K' δ) i with e | e
  · obtain ⟨h1, h2⟩ := h n K' m hr hp hd e hc hf
    obtain ⟨h3, h4⟩ := hm h1
    exact ⟨h3, h4 _ _ _ _ h2⟩
  · exact hn n K' m hr hp hd e hl hc hf
theorem RAll_congr {i : Nat} {K2 : Nat → Nat} (hK : ∀ z, z < δ → K z = K2 z) (h : RAll EP fr np SI b cand δ K i rl bo bm RP) : RAll EP fr np SI b cand δ K2 i rl bo bm RP := fun n K' m hr hp hd hl hc hf => h n K' m hr (fun z hz => (hp z hz).trans (hK z hz).symm) hd hl hc hf
theorem RAll_first (h : RSP EP fr np GM K δ p) : RAll EP fr np SI b cand δ K (2 * (K 0 / 2 + 1)) rl bo bm RP := by
  intro n K' m hr hp hd hl hc hf
  have h1 := h.1
  have h2 := hr.2.2.1 δ h1 hd
  rw [hp 0 h1] at h2
  omega
theorem RAll_deep (hE : ∀ z, EP z ≤ 6) (h7 : 7 ≤ δ) {i : Nat} : RAll EP fr np SI b cand δ K i rl bo bm RP := by
  intro n K' m hr hp hd hl hc hf
  have := isR_7 hE hr
  omega
theorem RS_at (h : RSP EP fr np GM K δ p) {n : Nat} {K' : Nat → Nat} (hr : isR EP fr np n K') (hp : ∀ z, z < δ → K' z = K z) (hd : δ < n) : EP (K' δ) = p ∧ fr (K' δ / 2) ∧ K' δ < 2 * np := by
  have h1 := h.1
  have h2 := hr.2.2.2.1 (δ - 1) (by omega)
  rw [show δ - 1 + 1 = δ by omega, hp (δ - 1) (by omega), ← h.2.1] at h2
  exact ⟨h2.symm, (hr.2.1 δ hd).2, (hr.2.1 δ hd).1⟩
theorem RS_none (h : RSP EP fr np GM K δ p) {i : Nat} (h0 : ¬ EP (2 * i) = p) (h1 : ¬ EP (2 * i + 1) = p) : ∀ (n : Nat) (K' : Nat → Nat) (m : Int32), isR EP fr np n K' → (∀ z, z < δ → K' z = K z) → δ < n → 2 * i ≤ K' δ → K' δ < 2 * (i + 1) → rFit SI n K' b m → False := by
  intro n K' m hr hp hd e1 e2 hf
  obtain ⟨a1, -⟩ := RS_at h hr hp hd
  rcases Nat.lt_or_ge (2 * i) (K' δ) with q | q
  · rw [show K' δ = 2 * i + 1 by omega] at a1; exact h1 a1
  · rw [show K' δ = 2 * i by omega] at a1; exact h0 a1
theorem RS_code (h : RSP EP fr np GM K δ p) {i t : Nat} (hne : EP (2 * i) ≠ EP (2 * i + 1)) (ht : t ≤ 1) (he : EP (2 * i + t) = p) {n : Nat} {K' : Nat → Nat} (hr : isR EP fr np n K') (hp : ∀ z, z < δ → K' z = K z) (hd : δ < n) (e1 : 2 * i ≤ K' δ) (e2 : K' δ < 2 * (i + 1)) : K' δ = 2 * i + t := by
  obtain ⟨a1, -⟩ := RS_at h hr hp hd
  rcases Nat.lt_or_ge (2 * i) (K' δ) with q | q
  · rcases Nat.lt_or_ge 0 t with q2 | q2
    · omega
    · rw [show K' δ = 2 * i + 1 by omega] at a1
      rw [show t = 0 by omega] at he
      exact absurd (he.trans a1.symm) hne
  · rcases Nat.lt_or_ge 0 t with q2 | q2
    · rw [show K' δ = 2 * i by omega] at a1
      rw [show t = 1 by omega] at he
      exact absurd (a1.trans he.symm) hne
    · omega
theorem RS_shut (h : RSP EP fr np GM K δ p) {i : Nat} (h0 : ¬ fr i) : ∀ (n : Nat) (K' : Nat → Nat) (m : Int32), isR EP fr np n K' → (∀ z, z < δ → K' z = K z) → δ < n → 2 * i ≤ K' δ → K' δ < 2 * (i + 1) → rFit SI n K' b m → False := by
  intro n K' m hr hp hd e1 e2 hf
  obtain ⟨-, a2, -⟩ := RS_at h hr hp hd
  rw [show K' δ / 2 = i by omega] at a2
  exact h0 a2
theorem i32_10 {m x : Int32} (h : 1 ≤ m) (h2 : m ≤ x) (h3 : x = 0) : False := by
  rw [h3] at h2
  have h := Int32.le_iff_toInt_le.mp h
  have h2 := Int32.le_iff_toInt_le.mp h2
  rw [show (1 : Int32).toInt = 1 from rfl] at h
  rw [Int32.toInt_zero] at h2
  omega
theorem RS_zero (h : RSP EP fr np GM K δ p) {i t : Nat} (hne : EP (2 * i) ≠ EP (2 * i + 1)) (ht : t ≤ 1) (he : EP (2 * i + t) = p) (hz : SI (2 * i + t) = 0) : ∀ (n : Nat) (K' : Nat → Nat) (m : Int32), isR EP fr np n K' → (∀ z, z < δ → K' z = K z) → δ < n → 2 * i ≤ K' δ → K' δ < 2 * (i + 1) → rFit SI n K' b m → False := by
  intro n K' m hr hp hd e1 e2 hf
  have hc := RS_code h hne ht he hr hp hd e1 e2
  have h1 := hf.2.1 δ hd
  rw [hc] at h1
  exact i32_10 hf.1 h1 hz
theorem RS_met (h : RSP EP fr np GM K δ p) {i t : Nat} (hne : EP (2 * i) ≠ EP (2 * i + 1)) (ht : t ≤ 1) (he : EP (2 * i + t) = p) (h7 : EP (2 * i + 1 - t) < 7) (hh : ¬ EP (2 * i + 1 - t) = EP (K 0)) (hm : ¬ GM (EP (2 * i + 1 - t)) = 0) : ∀ (n : Nat) (K' : Nat → Nat) (m : Int32), isR EP fr np n K' → (∀ z, z < δ → K' z = K z) → δ < n → 2 * i ≤ K' δ → K' δ < 2 * (i + 1) → rFit SI n K' b m → False := by
  intro n K' m hr hp hd e1 e2 hf
  rw [side_1 ht] at h7 hh hm
  have hc := RS_code h hne ht he hr hp hd e1 e2
  have h1 := h.1
  have ho : oth (K' δ) = 2 * i + (1 - t) := by rw [hc, oth_code ht]
  obtain ⟨z, z1, z2⟩ := (h.2.2.2.2.2.2.2 _ h7).mp hm
  rcases Nat.lt_or_ge (δ + 1) n with q | q
  · have c1 := hr.2.2.2.1 δ q
    rw [ho, ← z2, ← hp z z1] at c1
    have c2 := hr.2.2.2.1 z (by omega)
    rw [c1] at c2
    exact hr.2.2.2.2.2 (z + 1) (δ + 1) (by omega) q c2.symm
  · have c1 := hr.2.2.2.2.1
    rw [show n - 1 = δ by omega, ho, hp 0 h1] at c1
    exact hh c1
theorem RSP_up {i t : Nat} (h : RSP EP fr np GM K δ p) (ht : t ≤ 1) (hi : i < np) (hlow : K 0 / 2 < i) (hf : fr i) (he : EP (2 * i + t) = p) (h7 : EP (2 * i + 1 - t) < 7) (hh : ¬ EP (2 * i + 1 - t) = EP (K 0)) (hm : GM (EP (2 * i + 1 - t)) = 0) {K2 : Nat → Nat} (hK : ∀ z, z < δ → K2 z = K z) (hk : K2 δ = 2 * i + t) : RSP EP fr np (upd GM (EP (2 * i + 1 - t)) 1) K2 (δ + 1) (EP (2 * i + 1 - t)) := by
  rw [side_1 ht] at h7 hh hm ⊢
  obtain ⟨a1, a2, a3, a4, a5, a6, a7, a8⟩ := h
  have ho : oth (K2 δ) = 2 * i + (1 - t) := by rw [hk, oth_code ht]
  have k0 : K2 0 = K 0 := hK 0 a1
  have hp : EP (K2 δ) = EP (oth (K (δ - 1))) := by rw [hk, he, a2]
  refine ⟨by omega, by rw [show δ + 1 - 1 = δ by omega, ho], fun z hz => ?_, fun z h0 hz => ?_, fun z hz => ?_, fun x y hxy hy => ?_, fun z hz => ?_, fun g hg => ?_⟩
  · by_cases e : z = δ
    · rw [e, hk, show (2 * i + t) / 2 = i by omega]
      exact ⟨by omega, hf⟩
    · rw [hK z (by omega)]
      exact a3 z (by omega)
  · rw [k0]
    by_cases e : z = δ
    · rw [e, hk, show (2 * i + t) / 2 = i by omega]
      exact hlow
    · rw [hK z (by omega)]
      exact a4 z h0 (by omega)
  · by_cases e : z + 1 = δ
    · rw [e, hp, hK z (by omega), show δ - 1 = z by omega]
    · rw [hK z (by omega), hK (z + 1) (by omega)]
      exact a5 z (by omega)
  · by_cases e : y = δ
    · rw [e, ho, hK x (by omega)]
      exact fun q => (a8 _ h7).mpr ⟨x, by omega, q⟩ hm
    · rw [hK x (by omega), hK y (by omega)]
      exact a6 x y hxy (by omega)
  · rw [k0]
    by_cases e : z = δ
    · rw [e, ho]
      exact hh
    · rw [hK z (by omega)]
      exact a7 z (by omega)
  · by_cases e : g = EP (2 * i + (1 - t))
    · rw [e, pk_us]
      exact ⟨fun _ => ⟨δ, by omega, by rw [ho]⟩, fun _ => by decide⟩
    · rw [pk_un e, a8 g hg]
      constructor
      · rintro ⟨z, z1, z2⟩
        exact ⟨z, by omega, by rw [hK z z1]; exact z2⟩
      · rintro ⟨z, z1, z2⟩
        by_cases e2 : z = δ
        · rw [e2, ho] at z2
          exact absurd z2.symm e
        · exact ⟨z, by omega, by rw [← hK z (by omega)]; exact z2⟩
theorem RSP_dist (h : RSP EP fr np GM K δ p) : ∀ i j, i < j → j < δ → EP (K i) ≠ EP (K j) := by
  obtain ⟨a1, a2, a3, a4, a5, a6, a7, a8⟩ := h
  intro i j hij hj
  have cj := a5 (j - 1) (by omega)
  rw [show j - 1 + 1 = j by omega] at cj
  rw [← cj]
  by_cases e : i = 0
  · rw [e]
    exact fun q => a7 (j - 1) (by omega) q.symm
  · have ci := a5 (i - 1) (by omega)
    rw [show i - 1 + 1 = i by omega] at ci
    rw [← ci]
    exact a6 (i - 1) (j - 1) (by omega) (by omega)
/-- the search has come round -/
theorem RS_ring {i t : Nat} (h : RSP EP fr np GM K δ p) (h2 : 2 ≤ δ) (ht : t ≤ 1) (hi : i < np) (hlow : K 0 / 2 < i) (hf : fr i) (he : EP (2 * i + t) = p) (hh : EP (2 * i + 1 - t) = EP (K 0)) {K2 : Nat → Nat} (hK : ∀ z, z < δ → K2 z = K z) (hk : K2 δ = 2 * i + t) : isR EP fr np (δ + 1) K2 := by
  rw [side_1 ht] at hh
  have hd := RSP_dist h
  obtain ⟨a1, a2, a3, a4, a5, a6, a7, a8⟩ := h
  have ho : oth (K2 δ) = 2 * i + (1 - t) := by rw [hk, oth_code ht]
  have k0 : K2 0 = K 0 := hK 0 a1
  have hp : EP (K2 δ) = EP (oth (K (δ - 1))) := by rw [hk, he, a2]
  refine ⟨by omega, fun z hz => ?_, fun z h0 hz => ?_, fun z hz => ?_, ?_, fun x y hxy hy => ?_⟩
  · by_cases e : z = δ
    · rw [e, hk, show (2 * i + t) / 2 = i by omega]
      exact ⟨by omega, hf⟩
    · rw [hK z (by omega)]
      exact a3 z (by omega)
  · rw [k0]
    by_cases e : z = δ
    · rw [e, hk, show (2 * i + t) / 2 = i by omega]
      exact hlow
    · rw [hK z (by omega)]
      exact a4 z h0 (by omega)
  · by_cases e : z + 1 = δ
    · rw [e, hp, hK z (by omega), show δ - 1 = z by omega]
    · rw [hK z (by omega), hK (z + 1) (by omega)]
      exact a5 z (by omega)
  · rw [show δ + 1 - 1 = δ by omega, ho, k0]
    exact hh
  · by_cases e : y = δ
    · rw [e, hp, hK x (by omega)]
      by_cases e2 : x = 0
      · rw [e2]
        exact fun q => a7 (δ - 1) (by omega) q.symm
      · have c := a5 (x - 1) (by omega)
        rw [show x - 1 + 1 = x by omega] at c
        rw [← c]
        exact a6 (x - 1) (δ - 1) (by omega) (by omega)
    · rw [hK x (by omega), hK y (by omega)]
      exact hd x y hxy (by omega)
/-- every ring that goes on by the code is the one that is offered -/
theorem RS_only {i t : Nat} (h : RSP EP fr np GM K δ p) (hne : EP (2 * i) ≠ EP (2 * i + 1)) (ht : t ≤ 1) (he : EP (2 * i + t) = p) (hh : EP (2 * i + 1 - t) = EP (K 0)) {n : Nat} {K' : Nat → Nat} (hr : isR EP fr np n K') (hp : ∀ z, z < δ → K' z = K z) (hd : δ < n) (e1 : 2 * i ≤ K' δ) (e2 : K' δ < 2 * (i + 1)) {K2 : Nat → Nat} (hK : ∀ z, z < δ → K2 z = K z) (hk : K2 δ = 2 * i + t) : n = δ + 1 ∧ ∀ z, z < δ + 1 → K' z = K2 z := by
  rw [side_1 ht] at hh
  have hc := RS_code h hne ht he hr hp hd e1 e2
  have h1 := h.1
  have ho : oth (K' δ) = 2 * i + (1 - t) := by rw [hc, oth_code ht]
  refine ⟨?_, fun z hz => ?_⟩
  · rcases Nat.lt_or_ge (δ + 1) n with q | q
    · have c1 := hr.2.2.2.1 δ q
      rw [ho, hh, ← hp 0 h1] at c1
      exact absurd c1 (hr.2.2.2.2.2 0 (δ + 1) (by omega) q)
    · omega
  · by_cases e : z = δ
    · rw [e, hc, hk]
    · rw [hp z (by omega), hK z (by omega)]
theorem RS_rec {i t : Nat} (h : RSP EP fr np GM K δ p) (hne : EP (2 * i) ≠ EP (2 * i + 1)) (ht : t ≤ 1) (he : EP (2 * i + t) = p) (hh : ¬ EP (2 * i + 1 - t) = EP (K 0)) {K2 : Nat → Nat} (hK : ∀ z, z < δ → K2 z = K z) (hk : K2 δ = 2 * i + t) (ha : RAll EP fr np SI b cand (δ + 1) K2 (2 * np) rl bo bm RP) : ∀ (n : Nat) (K' : Nat → Nat) (m : Int32), isR EP fr np n K' → (∀ z, z < δ → K' z = K z) → δ < n → 2 * i ≤ K' δ → K' δ < 2 * (i + 1) → cand n K' m → rFit SI n K' b m → ¬ rl = 0 ∧ ¬ rLt (rOff SI K' m b n) m n (fun z => K' z / 2) bo bm rl RP := by
  intro n K' m hr hp hd e1 e2 hc hf
  rw [side_1 ht] at hh
  have hcode := RS_code h hne ht he hr hp hd e1 e2
  have h1 := h.1
  have ho : oth (K' δ) = 2 * i + (1 - t) := by rw [hcode, oth_code ht]
  have hn : δ + 1 < n := by
    rcases Nat.lt_or_ge (δ + 1) n with q | q
    · exact q
    · have c1 := hr.2.2.2.2.1
      rw [show n - 1 = δ by omega, ho, hp 0 h1] at c1
      exact absurd c1 hh
  refine ha n K' m hr (fun z hz => ?_) hn (hr.2.1 (δ + 1) hn).1 hc hf
  by_cases e : z = δ
  · rw [e, hcode, hk]
  · rw [hp z (by omega), hK z (by omega)]
/-- a ring has been offered: none that goes on by the code is better -/
theorem RS_offered {i t : Nat} {P F : Nat → Nat} (h : RSP EP fr np GM K δ p) (hne : EP (2 * i) ≠ EP (2 * i + 1)) (ht : t ≤ 1) (he : EP (2 * i + t) = p) (hh : EP (2 * i + 1 - t) = EP (K 0)) (hK : ∀ z, z < δ → pfx P F z = K z) (hk : pfx P F δ = 2 * i + t) (hF : ∀ z, F z ≤ 1) (ho : ROI SI (δ + 1) P F b (fun m => cand (δ + 1) (pfx P F) m) rl bo bm RP RF rl' bo' bm' RP' RF') (hcc : ∀ (n : Nat) (A B : Nat → Nat) (m : Int32), (∀ z, z < n → A z = B z) → cand n A m → cand n B m) : ∀ (n : Nat) (K' : Nat → Nat) (m : Int32), isR EP fr np n K' → (∀ z, z < δ → K' z = K z) → δ < n → 2 * i ≤ K' δ → K' δ < 2 * (i + 1) → cand n K' m → rFit SI n K' b m → ¬ rl' = 0 ∧ ¬ rLt (rOff SI K' m b n) m n (fun z => K' z / 2) bo' bm' rl' RP' := by
  intro n K' m hr hp hd e1 e2 hc hf
  obtain ⟨hn, hall⟩ := RS_only h hne ht he hh hr hp hd e1 e2 hK hk
  subst hn
  have hf2 : rFit SI (δ + 1) (pfx P F) b m := by
    refine ⟨hf.1, fun z hz => ?_, ?_⟩
    · rw [← hall z hz]
      exact hf.2.1 z hz
    · rw [← rOff_congr hall (δ + 1) (Nat.le_refl _)]
      exact hf.2.2
  obtain ⟨g1, g2⟩ := ho.1 m (hcc _ _ _ m hall hc) hf2
  refine ⟨g1, fun q => g2 ?_⟩
  rw [rOff_congr hall (δ + 1) (Nat.le_refl _)] at q
  exact rLt_congr (fun z hz => by rw [hall z hz, pfx_half hF]) (fun _ _ => rfl) q
/-- and the best one is still a ring -/
theorem RBok_offered {n : Nat} {P F : Nat → Nat} {C : Int32 → Prop} (ho : ROI SI n P F b C rl bo bm RP RF rl' bo' bm' RP' RF') (hr : isR EP fr np n (pfx P F)) (hok : RBok EP fr np SI b rl bo bm RP RF) : RBok EP fr np SI b rl' bo' bm' RP' RF' := by
  rcases ho.2.2 with ⟨e1, e2, e3, e4, e5⟩ | ⟨e1, e2, e3, e4⟩
  · rw [e1, e2, e3, e4, e5]
    exact hok
  · intro _
    have hK : ∀ z, z < rl' → pfx P F z = pfx RP' RF' z := by
      intro z hz
      rw [e1] at hz
      obtain ⟨q1, q2⟩ := e4 z hz
      unfold pfx
      rw [q1, q2]
    rw [← e1] at e2 e3 hr
    refine ⟨isR_congr hK hr, ⟨e2.1, fun z hz => ?_, ?_⟩, ?_⟩
    · rw [← hK z hz]
      exact e2.2.1 z hz
    · rw [← rOff_congr hK rl' (Nat.le_refl _)]
      exact e2.2.2
    · rw [e3]
      exact rOff_congr hK rl' (Nat.le_refl _)
end RSTEP
theorem rCandC_congr {SI : Nat → Int32} : ∀ (n : Nat) (A B : Nat → Nat) (m : Int32), (∀ z, z < n → A z = B z) → rCandC SI n A m → rCandC SI n B m := by
  intro n A B m h hc
  rcases hc with hc | ⟨i, i1, hc⟩
  · exact Or.inl (by rw [hc]; exact lpS_congr h n (Nat.le_refl _))
  · exact Or.inr ⟨i, i1, by rw [← h i i1]; exact hc⟩
theorem rCandM_congr {SI : Nat → Int32} : ∀ (n : Nat) (A B : Nat → Nat) (m : Int32), (∀ z, z < n → A z = B z) → rCandM SI n A m → rCandM SI n B m := by
  intro n A B m h hc
  rcases hc with hc | hc | ⟨i, i1, i2, hc⟩
  · exact Or.inl hc
  · exact Or.inr (Or.inl (by rw [hc]; exact lpS_congr h n (Nat.le_refl _)))
  · exact Or.inr (Or.inr ⟨i, i1, by rw [← h i i1]; exact i2, by rw [← h i i1]; exact hc⟩)
