-- the reference's search for rings, from one code on
def frM (MU : Nat → Int32) (PA3 PB1 : Nat → Nat) (PB5 : Nat → Int32) (mq p : Nat) : Prop := MU p = 0 ∧ ¬ hasL PA3 PB1 PB5 p mq 0
theorem gp_ex (fr : Nat → Prop) (fi : Nat) : ∃ GP : Nat → Int32, ∀ p, GP p = 0 ↔ fr p ∧ fi < p := by
  classical
  refine ⟨fun p => if fr p ∧ fi < p then 0 else 1, fun p => ?_⟩
  show (if fr p ∧ fi < p then (0 : Int32) else 1) = 0 ↔ fr p ∧ fi < p
  by_cases h : fr p ∧ fi < p
  · rw [if_pos h]
    exact ⟨fun _ => h, fun _ => rfl⟩
  · rw [if_neg h]
    exact ⟨fun q => absurd q (by decide), fun q => absurd q h⟩
/-- where the ring begins: the code c, from hm to s -/
def GC (EP : Nat → Nat) (fr : Nat → Prop) (fi c s hm : Nat) (GP : Nat → Int32) : Prop := (∀ p, GP p = 0 ↔ fr p ∧ fi < p) ∧ c / 2 = fi ∧ EP (oth c) = s ∧ EP c = hm ∧ fr fi ∧ hm < 7
def GX (EP : Nat → Nat) (GP : Nat → Int32) (np s hm dd : Nat) (AP : Nat → Nat) (b : Nat) (S1 S2 T : Nat → Nat) : Prop := WX EP GP np s hm dd AP (bclr b hm) S1 S2 T ∧ b / 2 ^ hm % 2 = 1
def GDn (EP : Nat → Nat) (fr : Nat → Prop) (np : Nat) (SI : Nat → Int32) (ob : Int32) (c dd : Nat) (Q : Nat → Nat) (rl : Nat) (bo bm : Int32) (RP : Nat → Nat) : Prop := ∀ (n : Nat) (K : Nat → Nat) (m : Int32), isR EP fr np n K → K 0 = c → lexB dd Q (fun z => K (z + 1)) (n - 1) → rCandM SI n K m → rFit SI n K ob m → ¬ rl = 0 ∧ ¬ rLt (rOff SI K m ob n) m n (fun z => K z / 2) bo bm rl RP
section GRS
variable {EP : Nat → Nat} {fr : Nat → Prop} {GP SI : Nat → Int32} {np fi c s hm : Nat} {ob : Int32} {kk b : Nat} {AP S1 S2 T : Nat → Nat} {rl rl' : Nat} {bo bm bo' bm' : Int32} {RP RF RP' RF' : Nat → Nat}
theorem isR_F (hG : GC EP fr fi c s hm GP) {n : Nat} {K : Nat → Nat} (hr : isR EP fr np n K) (h0 : K 0 = c) : isF EP GP np s hm (n - 1) (fun z => K (z + 1)) := by
  obtain ⟨g1, g2, g3, g4, g5, g6⟩ := hG
  obtain ⟨a1, a2, a3, a4, a5, a6⟩ := hr
  refine ⟨by omega, fun z hz => ?_, ?_, fun z hz => ?_, ?_, fun i j hij hj => ?_, fun i hi => ?_⟩
  · obtain ⟨b1, b2⟩ := a2 (z + 1) (by omega)
    have b3 := a3 (z + 1) (by omega) (by omega)
    rw [h0, g2] at b3
    exact ⟨b1, (g1 _).mpr ⟨b2, b3⟩⟩
  · have c1 := a4 0 (by omega)
    rw [h0, g3] at c1
    exact c1.symm
  · exact a4 (z + 1) (by omega)
  · show EP (oth (K (n - 1 - 1 + 1))) = hm
    rw [show n - 1 - 1 + 1 = n - 1 by omega, a5, h0, g4]
  · exact a6 (i + 1) (j + 1) (by omega) (by omega)
  · have c1 := a6 0 (i + 1) (by omega) (by omega)
    rw [h0, g4] at c1
    exact fun q => c1 q.symm
theorem F_isR (hG : GC EP fr fi c s hm GP) {n' : Nat} {K' K : Nat → Nat} (hF : isF EP GP np s hm n' K') (h2 : 2 ≤ n') (hc2 : c < 2 * np) (h0 : K 0 = c) (hK : ∀ z, z < n' → K (z + 1) = K' z) : isR EP fr np (n' + 1) K := by
  obtain ⟨g1, g2, g3, g4, g5, g6⟩ := hG
  obtain ⟨f1, f2, f3, f4, f5, f6, f7⟩ := hF
  refine ⟨by omega, fun z hz => ?_, fun z hz0 hz => ?_, fun z hz => ?_, ?_, fun i j hij hj => ?_⟩
  · cases z with
    | zero =>
      rw [h0, g2]
      exact ⟨hc2, g5⟩
    | succ z =>
      rw [hK z (by omega)]
      exact ⟨(f2 z (by omega)).1, ((g1 _).mp (f2 z (by omega)).2).1⟩
  · obtain ⟨y, rfl⟩ : ∃ y, z = y + 1 := ⟨z - 1, by omega⟩
    rw [h0, g2, hK y (by omega)]
    exact ((g1 _).mp (f2 y (by omega)).2).2
  · cases z with
    | zero =>
      rw [h0, g3, hK 0 (by omega)]
      exact f3.symm
    | succ z =>
      rw [hK z (by omega), hK (z + 1) (by omega)]
      exact f4 z (by omega)
  · rw [show n' + 1 - 1 = (n' - 1) + 1 by omega, hK (n' - 1) (by omega), h0, g4]
    exact f5
  · obtain ⟨y, rfl⟩ : ∃ y, j = y + 1 := ⟨j - 1, by omega⟩
    cases i with
    | zero =>
      rw [h0, g4, hK y (by omega)]
      exact fun q => f7 y (by omega) q.symm
    | succ i =>
      rw [hK i (by omega), hK y (by omega)]
      exact f6 i y (by omega) (by omega)
theorem WX_bits {PH : Nat → Int32} {d dd b' : Nat} (h : WX EP PH np s d dd AP b S1 S2 T) (hb : ∀ a, a < 7 → b' / 2 ^ a % 2 = 1 → b / 2 ^ a % 2 = 1) : WX EP PH np s d dd AP b' S1 S2 T := ⟨h.1, h.2.1, h.2.2.1, fun a ha q => h.2.2.2 a ha (hb a ha q)⟩
theorem WX_T {PH : Nat → Int32} {d dd : Nat} {T2 : Nat → Nat} (h : WX EP PH np s d dd AP b S1 S2 T) (hT : ∀ j, j + 1 < dd → T2 j = T j) : WX EP PH np s d dd AP b S1 S2 T2 := ⟨fun j hj => by rw [hT j hj]; exact h.1 j hj, h.2⟩
theorem DFS_cl {dd : Nat} (hD : DFS dd AP b EP S1 S2) (hX : GX EP GP np s hm dd AP b S1 S2 T) (h7 : hm < 7) : DFS dd AP (bclr b hm) EP S1 S2 := ⟨hD.1, hD.2.1, (bt_cl b hD.2.2.1 hm h7).2, fun j hj => by
  rw [bt_c b hD.2.2.1 hm h7 (AP j) (by have := hD.1 j hj; omega), if_neg (hX.1.2.1 j hj)]
  exact hD.2.2.2.1 j hj, hD.2.2.2.2⟩
theorem GX_inc (v : Nat) (hX : GX EP GP np s hm (kk + 1) AP b S1 S2 T) : GX EP GP np s hm (kk + 1) AP b S1 S2 (upN T kk v) := ⟨WX_inc v hX.1, hX.2⟩
theorem GX_upd (v w : Nat) (hX : GX EP GP np s hm (kk + 1) AP b S1 S2 T) : GX EP GP np s hm (kk + 1) AP b (upN S1 kk v) (upN S2 kk w) T := ⟨WX_upd v w hX.1, hX.2⟩
theorem GX_init (hG : GC EP fr fi c s hm GP) (hsd : EP c ≠ EP (oth c)) (hs7 : s < 7) (S1 S2 T : Nat → Nat) : GX EP GP np s hm 1 (fun _ => s) (bset (2 ^ s) hm) S1 S2 T := by
  obtain ⟨g1, g2, g3, g4, g5, g6⟩ := hG
  have hb := (bt_p s hs7).1
  have hne : ¬ s = hm := fun q => hsd (by rw [g3, g4, q])
  refine ⟨WX_bits (WX_init hs7 hne S1 S2 T) (fun a ha q => ?_), ?_⟩
  · rw [bt_c _ (bt_or _ hb hm g6).2 hm g6 a ha, bt_s _ hb hm g6 a ha] at q
    by_cases e : a = hm
    · rw [if_pos e] at q
      omega
    · rw [if_neg e, if_neg e] at q
      exact q
  · rw [bt_s _ hb hm g6 hm g6, if_pos rfl]
theorem GX_push (hG : GC EP fr fi c s hm GP) {p t v u w : Nat} (hv : v = T kk + 1) (hT : T kk = 2 * p + t) (hX : GX EP GP np s hm (kk + 1) AP b S1 S2 T) (hp : p < np) (ht : t ≤ 1) (h0 : GP p = 0) (hu : EP (2 * p + 1 - t) = u) (hu7 : u < 7) (hb : b < 128) (hbu : b / 2 ^ u % 2 = 0) : GX EP GP np s hm (kk + 2) (upN AP (kk + 1) u) (bset b u) (upN S1 kk p) (upN S2 kk t) (upN (upN T kk v) (kk + 1) w) := by
  have h7 := hG.2.2.2.2.2
  have hud : u ≠ hm := fun q => by
    rw [q, hX.2] at hbu
    exact absurd hbu (by decide)
  have h9 : WX EP GP np s hm (kk + 2) (upN AP (kk + 1) u) (bset (bclr b hm) u) (upN S1 kk p) (upN S2 kk t) (upN (upN T kk v) (kk + 1) 0) := WX_push hv hT hX.1 hp ht h0 hu hud hu7 (bt_cl b hb hm h7).2
  have h10 : WX EP GP np s hm (kk + 2) (upN AP (kk + 1) u) (bset (bclr b hm) u) (upN S1 kk p) (upN S2 kk t) (upN (upN T kk v) (kk + 1) w) := WX_T h9 (fun j hj => (upN_n (show j ≠ kk + 1 by omega)).trans (upN_n (show j ≠ kk + 1 by omega)).symm)
  refine ⟨WX_bits h10 (fun a ha q => ?_), ?_⟩
  · rw [bt_c _ (bt_or b hb u hu7).2 hm h7 a ha, bt_s b hb u hu7 a ha] at q
    rw [bt_s _ (bt_cl b hb hm h7).2 u hu7 a ha, bt_c b hb hm h7 a ha]
    by_cases e : a = u
    · rw [if_pos e]
    · rw [if_neg e] at q ⊢
      exact q
  · rw [bt_s b hb u hu7 hm h7, if_neg (fun q => hud q.symm)]
    exact hX.2
theorem GX_pop (hX : GX EP GP np s hm (kk + 2) AP b S1 S2 T) (h7 : hm < 7) (hb : b < 128) (hu7 : AP (kk + 1) < 7) : GX EP GP np s hm (kk + 1) AP (bclr b (AP (kk + 1))) S1 S2 T := by
  have hud : AP (kk + 1) ≠ hm := hX.1.2.1 (kk + 1) (by omega)
  refine ⟨WX_bits (WX_pop hX.1 (bt_cl b hb hm h7).2 hu7) (fun a ha q => ?_), ?_⟩
  · rw [bt_c _ (bt_cl b hb _ hu7).2 hm h7 a ha, bt_c b hb _ hu7 a ha] at q
    rw [bt_c _ (bt_cl b hb hm h7).2 _ hu7 a ha, bt_c b hb hm h7 a ha]
    by_cases e : a = hm
    · rw [if_pos e] at q
      omega
    · rw [if_neg e] at q ⊢
      exact q
  · rw [bt_c b hb _ hu7 hm h7, if_neg (fun q => hud q.symm)]
    exact hX.2
theorem GDn_0 (hG : GC EP fr fi c s hm GP) (hT : T 0 = 2 * fi + 2) : GDn EP fr np SI ob c 1 (qrow 1 S1 S2 T) rl bo bm RP := by
  intro n K m hr h0 hl hc hf
  rcases hl with hl | ⟨j, j1, j2, j3, j4⟩
  · omega
  · exfalso
    obtain rfl : j = 0 := by omega
    rw [qrow_ge (by omega), hT] at j4
    have j5 : K 1 < 2 * fi + 2 := j4
    have h1 := hr.2.2.1 1 (by omega) (by have := hr.1; omega)
    rw [h0, hG.2.1] at h1
    omega
theorem GDn_no {v : Nat} (hv : v = T kk + 1) (h : GDn EP fr np SI ob c (kk + 1) (qrow (kk + 1) S1 S2 T) rl bo bm RP) (hn : ∀ (n : Nat) (K : Nat → Nat) (m : Int32), isR EP fr np n K → K 0 = c → kk < n - 1 → (∀ z, z < kk → K (z + 1) = 2 * S1 z + S2 z) → K (kk + 1) = T kk → rCandM SI n K m → rFit SI n K ob m → ¬ rl = 0 ∧ ¬ rLt (rOff SI K m ob n) m n (fun z => K z / 2) bo bm rl RP) : GDn EP fr np SI ob c (kk + 1) (qrow (kk + 1) S1 S2 (upN T kk v)) rl bo bm RP := by
  intro n K m hr h0 hl hc hf
  rcases lexB_inc hv hl with hl | ⟨l1, l2, l3⟩
  · exact h n K m hr h0 hl hc hf
  · exact hn n K m hr h0 l1 l2 l3 hc hf
theorem GX_at (hG : GC EP fr fi c s hm GP) (hD : DFS (kk + 1) AP b EP S1 S2) (hX : GX EP GP np s hm (kk + 1) AP b S1 S2 T) {n : Nat} {K : Nat → Nat} (hr : isR EP fr np n K) (h0 : K 0 = c) (l2 : ∀ z, z < kk → K (z + 1) = 2 * S1 z + S2 z) : EP (K (kk + 1)) = AP kk := (WX_at (DFS_cl hD hX hG.2.2.2.2.2) hX.1 (isR_F hG hr h0) l2).2
theorem GDn_n1 (hG : GC EP fr fi c s hm GP) {v : Nat} (hv : v = T kk + 1) (h : GDn EP fr np SI ob c (kk + 1) (qrow (kk + 1) S1 S2 T) rl bo bm RP) (hD : DFS (kk + 1) AP b EP S1 S2) (hX : GX EP GP np s hm (kk + 1) AP b S1 S2 T) (hn : ¬ EP (T kk) = AP kk) : GDn EP fr np SI ob c (kk + 1) (qrow (kk + 1) S1 S2 (upN T kk v)) rl bo bm RP := GDn_no hv h (fun n K m hr h0 l1 l2 l3 hc hf => by
  have a2 := GX_at hG hD hX hr h0 l2
  rw [l3] at a2
  exact absurd a2 hn)
theorem GDn_n2 {v : Nat} (hv : v = T kk + 1) (h : GDn EP fr np SI ob c (kk + 1) (qrow (kk + 1) S1 S2 T) rl bo bm RP) (hn : ¬ fr (T kk / 2)) : GDn EP fr np SI ob c (kk + 1) (qrow (kk + 1) S1 S2 (upN T kk v)) rl bo bm RP := GDn_no hv h (fun n K m hr h0 l1 l2 l3 hc hf => by
  have a3 := (hr.2.1 (kk + 1) (by omega)).2
  rw [l3] at a3
  exact absurd a3 hn)
theorem GDn_n3 (hG : GC EP fr fi c s hm GP) {v : Nat} (hv : v = T kk + 1) (h : GDn EP fr np SI ob c (kk + 1) (qrow (kk + 1) S1 S2 T) rl bo bm RP) (hD : DFS (kk + 1) AP b EP S1 S2) (hX : GX EP GP np s hm (kk + 1) AP b S1 S2 T) (h7 : EP (2 * (T kk / 2) + 1 - T kk % 2) < 7) (hbit : b / 2 ^ EP (2 * (T kk / 2) + 1 - T kk % 2) % 2 = 1) (hor : ¬ EP (2 * (T kk / 2) + 1 - T kk % 2) = hm ∨ kk = 0) : GDn EP fr np SI ob c (kk + 1) (qrow (kk + 1) S1 S2 (upN T kk v)) rl bo bm RP := GDn_no hv h (fun n K m hr h0 l1 l2 l3 hc hf => by
  exfalso
  rw [← oth_k] at h7 hbit hor
  have a2 := GX_at hG hD hX hr h0 l2
  obtain ⟨g1, g2, g3, g4, g5, g6⟩ := hG
  have hn3 := hr.1
  by_cases e : EP (oth (T kk)) = hm
  · have k0 : kk = 0 := hor.resolve_left (fun q => q e)
    have c1 := hr.2.2.2.1 (kk + 1) (by omega)
    rw [l3, e, ← g4, ← h0] at c1
    exact hr.2.2.2.2.2 0 (kk + 1 + 1) (by omega) (by omega) c1
  · obtain ⟨j, j1, j2⟩ := hX.1.2.2.2 _ h7 (by rw [bt_c b hD.2.2.1 hm g6 _ h7, if_neg e]; exact hbit)
    have a4 : ∀ z, z ≤ kk → EP (K (z + 1)) = AP z := fun z hz => by
      by_cases e2 : z = kk
      · rw [e2]
        exact a2
      · rw [l2 z (by omega)]
        exact hD.2.2.2.2 z (by omega)
    rcases Nat.lt_or_ge (kk + 1) (n - 1) with q | q
    · have a5 := hr.2.2.2.1 (kk + 1) (by omega)
      rw [l3, ← j2, ← a4 j (by omega)] at a5
      exact hr.2.2.2.2.2 (j + 1) (kk + 1 + 1) (by omega) (by omega) a5
    · have a5 := hr.2.2.2.2.1
      rw [show n - 1 = kk + 1 by omega, l3, h0, g4] at a5
      exact e a5)
/-- a ring is closed and offered -/
theorem GX_ring (hG : GC EP fr fi c s hm GP) (hD : DFS (kk + 1) AP b EP S1 S2) (hX : GX EP GP np s hm (kk + 1) AP b S1 S2 T) {p t : Nat} {P F : Nat → Nat} (hp : p < np) (ht : t ≤ 1) (h0 : GP p = 0) (he : EP (2 * p + t) = AP kk) (hd : EP (2 * p + 1 - t) = hm) (hk : 1 ≤ kk) (hc2 : c < 2 * np) (hP0 : pfx P F 0 = c) (hPz : ∀ z, z < kk + 1 → pfx P F (z + 1) = 2 * upN S1 kk p z + upN S2 kk t z) : isR EP fr np (kk + 2) (pfx P F) := F_isR hG (WX_way (DFS_cl hD hX hG.2.2.2.2.2) hX.1 hp ht h0 he hd) (by omega) hc2 hP0 hPz
theorem GDn_off (hG : GC EP fr fi c s hm GP) {v p t : Nat} {P F : Nat → Nat} (hv : v = T kk + 1) (h : GDn EP fr np SI ob c (kk + 1) (qrow (kk + 1) S1 S2 T) rl bo bm RP) (hT : T kk = 2 * p + t) (ht : t ≤ 1) (hd : EP (2 * p + 1 - t) = hm) (ho : ROI SI (kk + 2) P F ob (fun m => rCandM SI (kk + 2) (pfx P F) m) rl bo bm RP RF rl' bo' bm' RP' RF') (hF1 : ∀ z, F z ≤ 1) (hP0 : pfx P F 0 = c) (hPz : ∀ z, z < kk + 1 → pfx P F (z + 1) = 2 * upN S1 kk p z + upN S2 kk t z) : GDn EP fr np SI ob c (kk + 1) (qrow (kk + 1) S1 S2 (upN T kk v)) rl' bo' bm' RP' := by
  refine GDn_no hv (fun n K m hr h0 hl hc hf => ?_) (fun n K m hr h0 l1 l2 l3 hc hf => ?_)
  · obtain ⟨g1, g2⟩ := h n K m hr h0 hl hc hf
    obtain ⟨g3, g4⟩ := ho.2.1 g1
    exact ⟨g3, g4 _ _ _ _ g2⟩
  · have hd2 : EP (oth (T kk)) = hm := by
      rw [side_1 ht] at hd
      rw [hT, oth_code ht]
      exact hd
    have hn : n = kk + 2 := by
      rcases Nat.lt_or_ge (kk + 1) (n - 1) with q | q
      · have a5 := hr.2.2.2.1 (kk + 1) (by omega)
        rw [l3, hd2, ← hG.2.2.2.1, ← h0] at a5
        exact absurd a5 (hr.2.2.2.2.2 0 (kk + 1 + 1) (by omega) (by omega))
      · omega
    subst hn
    have hall : ∀ z, z < kk + 2 → K z = pfx P F z := by
      intro z hz
      cases z with
      | zero => rw [h0, hP0]
      | succ z =>
        rw [hPz z (by omega)]
        by_cases e : z = kk
        · rw [e, l3, hT, upN_s, upN_s]
        · rw [l2 z (by omega), upN_n e, upN_n e]
    have hf2 : rFit SI (kk + 2) (pfx P F) ob m := by
      refine ⟨hf.1, fun z hz => ?_, ?_⟩
      · rw [← hall z hz]
        exact hf.2.1 z hz
      · rw [← rOff_congr hall (kk + 2) (Nat.le_refl _)]
        exact hf.2.2
    obtain ⟨g1, g2⟩ := ho.1 m (rCandM_congr _ _ _ m hall hc) hf2
    refine ⟨g1, fun q => g2 ?_⟩
    rw [rOff_congr hall (kk + 2) (Nat.le_refl _)] at q
    exact rLt_congr (fun z hz => by rw [hall z hz, pfx_half hF1]) (fun _ _ => rfl) q
theorem lexB_pushR {n : Nat} {K : Nat → Nat} {p t v w : Nat} (hT : T kk = 2 * p + t) (hK : ∀ z, z < n → w ≤ K z) : lexB (kk + 2) (qrow (kk + 2) (upN S1 kk p) (upN S2 kk t) (upN (upN T kk v) (kk + 1) w)) K n → lexB (kk + 1) (qrow (kk + 1) S1 S2 T) K n := by
  have hq : ∀ z, z ≤ kk → qrow (kk + 2) (upN S1 kk p) (upN S2 kk t) (upN (upN T kk v) (kk + 1) w) z = qrow (kk + 1) S1 S2 T z := by
    intro z hz
    rw [qrow_lt (by omega)]
    by_cases e : z = kk
    · rw [e, upN_s, upN_s, qrow_ge (by omega), hT]
    · rw [upN_n e, upN_n e, qrow_lt (by omega)]
  rintro (h | ⟨j, j1, j2, j3, j4⟩)
  · omega
  · by_cases e : j = kk + 1
    · rw [e, qrow_ge (by omega), upN_s] at j4
      have := hK (kk + 1) (by omega)
      omega
    · exact Or.inr ⟨j, by omega, j2, fun z hz => by rw [j3 z hz, hq z (by omega)], by rw [← hq j (by omega)]; exact j4⟩
theorem GDn_push (hG : GC EP fr fi c s hm GP) {p t v : Nat} (hT : T kk = 2 * p + t) (h : GDn EP fr np SI ob c (kk + 1) (qrow (kk + 1) S1 S2 T) rl bo bm RP) : GDn EP fr np SI ob c (kk + 2) (qrow (kk + 2) (upN S1 kk p) (upN S2 kk t) (upN (upN T kk v) (kk + 1) (2 * fi + 2))) rl bo bm RP := fun n K m hr h0 hl hc hf => h n K m hr h0 (lexB_pushR hT (fun z hz => by
  have h1 := hr.2.2.1 (z + 1) (by omega) (by omega)
  rw [h0, hG.2.1] at h1
  show 2 * fi + 2 ≤ K (z + 1)
  omega) hl) hc hf
theorem lexB_popG {PH : Nat → Int32} {d n : Nat} {K : Nat → Nat} (hT : T (kk + 1) = 2 * np) (hD : DFS (kk + 2) AP b EP S1 S2) (hX : WX EP PH np s d (kk + 2) AP b S1 S2 T) (hF : isF EP PH np s d n K) : lexB (kk + 1) (qrow (kk + 1) S1 S2 T) K n → lexB (kk + 2) (qrow (kk + 2) S1 S2 T) K n := by
  rintro (h | ⟨j, j1, j2, j3, j4⟩)
  · omega
  · have j5 : ∀ z, z < j → K z = 2 * S1 z + S2 z := fun z hz => by rw [j3 z hz, qrow_lt (by omega)]
    by_cases e : j = kk
    · subst e
      rw [qrow_ge (by omega), (hX.1 j (by omega)).2.2.2.2] at j4
      by_cases e2 : K j = 2 * S1 j + S2 j
      · have hp : ∀ z, z < j + 1 → K z = 2 * S1 z + S2 z := by
          intro z hz
          by_cases e3 : z = j
          · rw [e3]
            exact e2
          · exact j5 z (by omega)
        obtain ⟨a1, -⟩ := WX_at hD hX hF hp
        refine Or.inr ⟨j + 1, by omega, a1, fun z hz => by rw [hp z hz, qrow_lt (by omega)], ?_⟩
        rw [qrow_ge (by omega), hT]
        exact (hF.2.1 (j + 1) a1).1
      · refine Or.inr ⟨j, by omega, j2, fun z hz => by rw [j5 z hz, qrow_lt (by omega)], ?_⟩
        rw [qrow_lt (by omega)]
        omega
    · refine Or.inr ⟨j, by omega, j2, fun z hz => by rw [j5 z hz, qrow_lt (by omega)], ?_⟩
      rw [qrow_lt (by omega)] at j4 ⊢
      exact j4
theorem GDn_pop (hG : GC EP fr fi c s hm GP) (hT : T (kk + 1) = 2 * np) (hD : DFS (kk + 2) AP b EP S1 S2) (hX : GX EP GP np s hm (kk + 2) AP b S1 S2 T) (h : GDn EP fr np SI ob c (kk + 2) (qrow (kk + 2) S1 S2 T) rl bo bm RP) : GDn EP fr np SI ob c (kk + 1) (qrow (kk + 1) S1 S2 T) rl bo bm RP := fun n K m hr h0 hl hc hf => h n K m hr h0 (lexB_popG hT (DFS_cl hD hX hG.2.2.2.2.2) hX.1 (isR_F hG hr h0) hl) hc hf
theorem GDn_pop0 {Q : Nat → Nat} (hk : kk = 0) (hT : T kk = 2 * np) (h : GDn EP fr np SI ob c (kk + 1) (qrow (kk + 1) S1 S2 T) rl bo bm RP) : GDn EP fr np SI ob c kk Q rl bo bm RP := fun n K m hr h0 _ hc hf => h n K m hr h0 (Or.inr ⟨0, by omega, by have := hr.1; omega, fun z hz => by omega, by
  rw [qrow_ge (by omega), show T 0 = 2 * np by rw [← hk]; exact hT]
  exact (hr.2.1 (0 + 1) (by have := hr.1; omega)).1⟩) hc hf
theorem GDn_all {Q K0 : Nat → Nat} {rl0 : Nat} {bo0 bm0 : Int32} {RP0 : Nat → Nat} (h : GDn EP fr np SI ob c 0 Q rl bo bm RP) (hm0 : RMono rl0 bo0 bm0 RP0 rl bo bm RP) (ha : RAll EP fr np SI ob (rCandM SI) 0 K0 c rl0 bo0 bm0 RP0) : RAll EP fr np SI ob (rCandM SI) 0 K0 (c + 1) rl bo bm RP := by
  intro n K' m hr hp hd hl hc hf
  rcases Nat.lt_or_ge (K' 0) c with e | e
  · obtain ⟨h1, h2⟩ := ha n K' m hr hp hd e hc hf
    obtain ⟨h3, h4⟩ := hm0 h1
    exact ⟨h3, h4 _ _ _ _ h2⟩
  · exact h n K' m hr (by omega) (Or.inl rfl) hc hf
theorem RAll_shut {K0 : Nat → Nat} (hn : ¬ fr (c / 2)) (ha : RAll EP fr np SI ob (rCandM SI) 0 K0 c rl bo bm RP) : RAll EP fr np SI ob (rCandM SI) 0 K0 (c + 1) rl bo bm RP := by
  intro n K' m hr hp hd hl hc hf
  rcases Nat.lt_or_ge (K' 0) c with e | e
  · exact ha n K' m hr hp hd e hc hf
  · have h1 := (hr.2.1 0 hd).2
    rw [show K' 0 = c by omega] at h1
    exact absurd h1 hn
end GRS
theorem lo_sh1 {F : Nat → Nat} {v N : Nat} (h : N ≤ v) : ∀ jz, jz < 1 → N ≤ sh (upN F 1 v) jz := by
  intro jz hj
  obtain rfl : jz = 0 := by omega
  show N ≤ upN F 1 v (0 + 1)
  rw [show upN F 1 v (0 + 1) = v from upN_s]
  exact h
theorem lo_up {f : Nat → Nat} {N n k v : Nat} (h : ∀ jz, jz < n → N ≤ f jz) (hv : N ≤ v) : ∀ jz, jz < n → N ≤ upN f k v jz := by
  intro jz hj
  unfold upN
  split
  · exact hv
  · exact h jz hj
theorem lo_ext {f : Nat → Nat} {N n v : Nat} (h : ∀ jz, jz < n → N ≤ f jz) (hv : N ≤ v) : ∀ jz, jz < n + 1 → N ≤ upN f n v jz := by
  intro jz hj
  unfold upN
  split
  · exact hv
  · exact h jz (by omega)
theorem sh_1 {F : Nat → Nat} {v : Nat} : sh (upN F 1 v) 0 = v := by
  show upN F 1 v (0 + 1) = v
  exact upN_s
