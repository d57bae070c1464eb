def upN (F : Nat → Nat) (i v : Nat) : Nat → Nat := fun j => if j = i then v else F j
theorem upN_le {F : Nat → Nat} {i v K : Nat} (h : ∀ j, F j ≤ K) (hv : v ≤ K) : ∀ j, upN F i v j ≤ K := by
  intro j
  unfold upN
  split
  · exact hv
  · exact h j
theorem upN_s {F : Nat → Nat} {i v : Nat} : upN F i v i = v := by simp [upN]
theorem upN_n {F : Nat → Nat} {i v j : Nat} (h : j ≠ i) : upN F i v j = F j := by simp [upN, h]
theorem upd_nI (F : Nat → Nat) (i v : Nat) : upd (fun j => nI (F j)) i (nI v) = fun j => nI (upN F i v j) := by
  funext j
  unfold upd upN
  by_cases h : j = i <;> simp [h]
/-- the first n places from F, the rest from G -/
def cpN (n : Nat) (F G : Nat → Nat) : Nat → Nat := fun j => if j < n then F j else G j
theorem cpN_le {n K : Nat} {F G : Nat → Nat} (h : ∀ j, F j ≤ K) (hg : ∀ j, G j ≤ K) : ∀ j, cpN n F G j ≤ K := by
  intro j
  unfold cpN
  split
  · exact h j
  · exact hg j
theorem cpN_0 (F G : Nat → Nat) : cpN 0 F G = G := by funext j; simp [cpN]
theorem cpN_s (n : Nat) (F G : Nat → Nat) : upN (cpN n F G) n (F n) = cpN (n + 1) F G := by
  funext j
  unfold upN cpN
  by_cases h : j = n
  · subst h; simp
  · by_cases h2 : j < n
    · simp [h, h2, show j < n + 1 by omega]
    · simp [h, h2, show ¬ j < n + 1 by omega]
theorem nI_nm1 {t : Nat} (h : t < 2 ^ 31) {k : Int32} (hk : k < 0) : ¬ nI t = k := fun q => nI_pos h (by rw [q]; exact hk)
theorem isw_nI {v : Int32} {N : Nat} (hN : N < 2 ^ 31) (h : ¬ isw v 0 (nI N - 1) = 0) : ∃ j : Nat, j < N ∧ v = nI j := by
  obtain ⟨h1, h2⟩ := isw_ge h
  have h3 := Int32.le_iff_toInt_le.mp h1
  have h5 : (0 : Int32).toInt = 0 := rfl
  cases N with
  | zero =>
    exfalso
    have h4 := Int32.le_iff_toInt_le.mp h2
    have h6 : (nI 0 - 1).toInt = -1 := rfl
    omega
  | succ n =>
    rw [nI_pred] at h2
    have h4 := Int32.le_iff_toInt_le.mp h2
    rw [nI_toInt (by omega)] at h4
    obtain ⟨j, hj, e⟩ := nI_of2 (x := v) (M := nI n) (n := n) (nI_toInt (by omega)) (by rw [Int32.lt_iff_toInt_lt]; omega) h2
    exact ⟨j, by omega, e⟩
/-- a value within two bounds is a small number -/
theorem isw_K {v b : Int32} {K : Nat} (hb : b.toInt = K) (h : ¬ isw v 0 b = 0) : ∃ j : Nat, j ≤ K ∧ v = nI j := by
  obtain ⟨h1, h2⟩ := isw_ge h
  have h3 := Int32.le_iff_toInt_le.mp h1
  have h5 : (0 : Int32).toInt = 0 := rfl
  exact nI_of2 hb (by rw [Int32.lt_iff_toInt_lt]; omega) h2
section ROWS2
variable {p : Program} {l : Launch} {e : Env} {R : Room} {s : State} {m : MethodId} {args : Array Value} {below : List Frame} {meth : Method} {c : Code} {H : Heap} {locs : List Loc} {cells slots : Nat} {Q : State → Prop} {pc : Nat} {ls : Array Slot} {rest : List Value} {cc : ByteArray} {D : va_G} {cI cZ : ClassId} {A : Nat → Prop} {a : Nat} {ws : va_W} {H0 : Heap}
theorem my_ldN (hexec : p.tables.exec = Jvm.exec) (hb : c.code = cc) (hK : va_K D vwCl (tys2 cI cZ) s) (hP : va_P D vwCl ws H) (q0 : Nat) {n : Nat} {F : Nat → Nat} (ha : ws[q0]? = some (a, .inl (cI, n, .inl (fun j => nI (F j))))) (i : Nat) {x : Int32} (hx : x = nI i) (hi : i < n) (hn : n < 2 ^ 31) (hdg : decode cc pc = .ok (.iaload, 1))
    (kk : W p l e R s m args below meth c H locs cells slots Q (F0 m (pc + 1) ls (.int (nI (F i)) :: rest))) : W p l e R s m args below meth c H locs cells slots Q (F0 m pc ls (.int x :: .ref a :: rest)) := by
  subst hx
  refine va_iald hexec hb hK hP q0 0 ha rfl (vp_in_nI hi hn) hdg ?_
  rw [nI_clamp (by omega)]
  exact kk
theorem my_ldI (hexec : p.tables.exec = Jvm.exec) (hb : c.code = cc) (hK : va_K D vwCl (tys2 cI cZ) s) (hP : va_P D vwCl ws H) (q0 : Nat) {n : Nat} {F : Nat → Int32} (ha : ws[q0]? = some (a, .inl (cI, n, .inl F))) (i : Nat) {x : Int32} (hx : x = nI i) (hi : i < n) (hn : n < 2 ^ 31) (hdg : decode cc pc = .ok (.iaload, 1))
    (kk : W p l e R s m args below meth c H locs cells slots Q (F0 m (pc + 1) ls (.int (F i) :: rest))) : W p l e R s m args below meth c H locs cells slots Q (F0 m pc ls (.int x :: .ref a :: rest)) := by
  subst hx
  refine va_iald hexec hb hK hP q0 0 ha rfl (vp_in_nI hi hn) hdg ?_
  rw [nI_clamp (by omega)]
  exact kk
theorem my_ldZ (hexec : p.tables.exec = Jvm.exec) (hb : c.code = cc) (hK : va_K D vwCl (tys2 cI cZ) s) (hP : va_P D vwCl ws H) (q0 : Nat) {n : Nat} {F : Nat → Int32} (ha : ws[q0]? = some (a, .inl (cZ, n, .inl F))) (i : Nat) {x : Int32} (hx : x = nI i) (hi : i < n) (hn : n < 2 ^ 31) (hdg : decode cc pc = .ok (.baload, 1))
    (kk : W p l e R s m args below meth c H locs cells slots Q (F0 m (pc + 1) ls (.int (F i) :: rest))) : W p l e R s m args below meth c H locs cells slots Q (F0 m pc ls (.int x :: .ref a :: rest)) := by
  subst hx
  refine va_zald hexec hb hK hP q0 1 ha rfl (vp_in_nI hi hn) hdg ?_
  rw [nI_clamp (by omega)]
  exact kk
theorem my_stN (hexec : p.tables.exec = Jvm.exec) (hb : c.code = cc) (hK : va_K D vwCl (tys2 cI cZ) s) (hP : va_P D vwCl ws H) (hD : va_D A ws) (hS : va_S A H0 H locs) (q0 : Nat) {n : Nat} {F : Nat → Nat} (ha : ws[q0]? = some (a, .inl (cI, n, .inl (fun j => nI (F j))))) (i v : Nat) {x y : Int32} (hx : x = nI i) (hy : y = nI v) (hi : i < n) (hn : n < 2 ^ 31) (hdg : decode cc pc = .ok (.iastore, 1))
    (kk : ∀ (H1 : Heap) (locs1 : List Loc), va_P D vwCl (ws.set q0 (a, .inl (cI, n, .inl (fun j => nI (upN F i v j))))) H1 → va_D A (ws.set q0 (a, .inl (cI, n, .inl (fun j => nI (upN F i v j))))) → va_S A H0 H1 locs1 → W p l e R s m args below meth c H1 locs1 cells slots Q (F0 m (pc + 1) ls rest)) : W p l e R s m args below meth c H locs cells slots Q (F0 m pc ls (.int y :: .int x :: .ref a :: rest)) := by
  subst hx
  subst hy
  refine va_iast hexec hb hK hP hD hS q0 0 ha rfl (vp_in_nI hi hn) hdg (fun H1 locs1 h1 h2 h3 => ?_)
  rw [nI_clamp (by omega), upd_nI] at h1 h2
  exact kk H1 locs1 h1 h2 h3
theorem my_stI (hexec : p.tables.exec = Jvm.exec) (hb : c.code = cc) (hK : va_K D vwCl (tys2 cI cZ) s) (hP : va_P D vwCl ws H) (hD : va_D A ws) (hS : va_S A H0 H locs) (q0 : Nat) {n : Nat} {F : Nat → Int32} (ha : ws[q0]? = some (a, .inl (cI, n, .inl F))) (i : Nat) {x y : Int32} (hx : x = nI i) (hi : i < n) (hn : n < 2 ^ 31) (hdg : decode cc pc = .ok (.iastore, 1))
    (kk : ∀ (H1 : Heap) (locs1 : List Loc), va_P D vwCl (ws.set q0 (a, .inl (cI, n, .inl (upd F i y)))) H1 → va_D A (ws.set q0 (a, .inl (cI, n, .inl (upd F i y)))) → va_S A H0 H1 locs1 → W p l e R s m args below meth c H1 locs1 cells slots Q (F0 m (pc + 1) ls rest)) : W p l e R s m args below meth c H locs cells slots Q (F0 m pc ls (.int y :: .int x :: .ref a :: rest)) := by
  subst hx
  refine va_iast hexec hb hK hP hD hS q0 0 ha rfl (vp_in_nI hi hn) hdg (fun H1 locs1 h1 h2 h3 => ?_)
  rw [nI_clamp (by omega)] at h1 h2
  exact kk H1 locs1 h1 h2 h3
theorem my_stZ (hexec : p.tables.exec = Jvm.exec) (hb : c.code = cc) (hK : va_K D vwCl (tys2 cI cZ) s) (hP : va_P D vwCl ws H) (hD : va_D A ws) (hS : va_S A H0 H locs) (q0 : Nat) {n : Nat} {F : Nat → Int32} (ha : ws[q0]? = some (a, .inl (cZ, n, .inl F))) (i : Nat) (z : Int32) {x y : Int32} (hx : x = nI i) (hy : vp_nar .boolean y = z) (hi : i < n) (hn : n < 2 ^ 31) (hdg : decode cc pc = .ok (.bastore, 1))
    (kk : ∀ (H1 : Heap) (locs1 : List Loc), va_P D vwCl (ws.set q0 (a, .inl (cZ, n, .inl (upd F i z)))) H1 → va_D A (ws.set q0 (a, .inl (cZ, n, .inl (upd F i z)))) → va_S A H0 H1 locs1 → W p l e R s m args below meth c H1 locs1 cells slots Q (F0 m (pc + 1) ls rest)) : W p l e R s m args below meth c H locs cells slots Q (F0 m pc ls (.int y :: .int x :: .ref a :: rest)) := by
  subst hx
  subst hy
  refine va_zast hexec hb hK hP hD hS q0 1 ha rfl (vp_in_nI hi hn) hdg (fun H1 locs1 h1 h2 h3 => ?_)
  rw [nI_clamp (by omega)] at h1 h2
  exact kk H1 locs1 h1 h2 h3
end ROWS2
theorem nI_dec {t : Nat} (h : 0 < t) : nI t + Int32.ofInt (-1) = nI (t - 1) := by
  obtain ⟨k, rfl⟩ : ∃ k, t = k + 1 := ⟨t - 1, by omega⟩
  exact pk_m1 k
/-- one less, from 0 on below -/
def dI (k : Nat) : Int32 := nI k + Int32.ofInt (-1)
theorem dI_s (k : Nat) : dI (k + 1) = nI k := by unfold dI; rw [nI_dec (by omega)]; rfl
theorem dI_sub (k : Nat) : nI k - 1 = dI k := by unfold dI; rw [Int32.sub_eq_add_neg]; rfl
theorem upN_ge {F : Nat → Nat} {i v : Nat} (hv : 1 ≤ v) : ∀ q, 1 ≤ F q → 1 ≤ upN F i v q := by
  intro q h
  unfold upN
  split
  · exact hv
  · exact h
theorem isw_one {v a b : Int32} (h : ¬ isw v a b = 0) : isw v a b = 1 := (isw_01 v a b).resolve_left h
theorem upd_nar {F : Nat → Int32} (h : ∀ zz, narrow .boolean (.int (F zz)) = .int (F zz)) (i : Nat) {x : Int32} (hx : narrow .boolean (.int x) = .int x) : ∀ zz, narrow .boolean (.int (upd F i x zz)) = .int (upd F i x zz) := by
  intro zz
  unfold upd
  split
  · exact hx
  · exact h zz
theorem nar01 {x : Int32} (h : x = 0 ∨ x = 1) : narrow .boolean (.int x) = .int x := by
  rcases h with rfl | rfl <;> rfl
def cntZ (f : Nat → Int32) : Nat → Nat
  | 0 => 0
  | n + 1 => cntZ f n + if f n = 0 then 0 else 1
theorem cntZ_ge (f : Nat → Int32) (i : Nat) (x : Int32) : ∀ n, n ≤ i → cntZ (upd f i x) n = cntZ f n := by
  intro n
  induction n with
  | zero => intro _; rfl
  | succ n ih =>
    intro h
    unfold cntZ
    rw [ih (by omega)]
    have e : upd f i x n = f n := by unfold upd; rw [if_neg (by omega)]
    rw [e]
theorem cntZ_upd {f : Nat → Int32} {i : Nat} (hf : ¬ f i = 0) : ∀ n, i < n → cntZ (upd f i 0) n < cntZ f n := by
  intro n
  induction n with
  | zero => intro h; omega
  | succ n ih =>
    intro h
    unfold cntZ
    by_cases e : i = n
    · subst e
      rw [cntZ_ge f i 0 i (Nat.le_refl _)]
      have e1 : upd f i 0 i = 0 := by unfold upd; rw [if_pos rfl]
      rw [e1, if_pos rfl, if_neg hf]
      omega
    · have e1 : upd f i 0 n = f n := by unfold upd; rw [if_neg (by omega)]
      rw [e1]
      have := ih (by omega)
      omega
def bset (b a : Nat) : Nat := b ||| 2 ^ a
def bclr (b a : Nat) : Nat := b &&& (127 - 2 ^ a)
theorem bt_1 : ∀ a, a < 7 → (1 : Int32) <<< (nI a &&& 31) = nI (2 ^ a) := by decide +kernel
theorem bt_p : ∀ a, a < 7 → 2 ^ a < 128 ∧ 2 ^ a / 2 ^ a % 2 = 1 := by decide +kernel
theorem bt_or : ∀ b, b < 128 → ∀ a, a < 7 → nI b ||| nI (2 ^ a) = nI (bset b a) ∧ bset b a < 128 := by decide +kernel
theorem bt_cl : ∀ b, b < 128 → ∀ a, a < 7 → nI b &&& (nI (2 ^ a) ^^^ (-1)) = nI (bclr b a) ∧ bclr b a < 128 := by decide +kernel
theorem bt_sh : ∀ b, b < 128 → ∀ a, a < 7 → (nI b >>> (nI a &&& 31)) &&& 1 = nI (b / 2 ^ a % 2) := by decide +kernel
theorem bt_s : ∀ b, b < 128 → ∀ a, a < 7 → ∀ c, c < 7 → bset b a / 2 ^ c % 2 = if c = a then 1 else b / 2 ^ c % 2 := by decide +kernel
theorem bt_c : ∀ b, b < 128 → ∀ a, a < 7 → ∀ c, c < 7 → bclr b a / 2 ^ c % 2 = if c = a then 0 else b / 2 ^ c % 2 := by decide +kernel
/-- different numbers below K: at most K -/
theorem pig : ∀ (K n : Nat) (P : Nat → Nat), (∀ j, j < n → P j < K) → (∀ i j, i < j → j < n → P i ≠ P j) → n ≤ K := by
  intro K
  induction K with
  | zero =>
    intro n P h _
    rcases Nat.eq_zero_or_pos n with h0 | h0
    · omega
    · exact absurd (h 0 h0) (Nat.not_lt_zero _)
  | succ K ih =>
    intro n P h1 h2
    cases n with
    | zero => omega
    | succ m =>
      have key := ih m (fun i => if P i = K then P m else P i) (fun j hj => by
        have a1 := h1 j (by omega)
        have a2 := h1 m (by omega)
        have a3 := h2 j m hj (by omega)
        show (if P j = K then P m else P j) < K
        split <;> omega) (fun i j hij hj => by
        have b1 := h2 i j hij (by omega)
        have b2 := h2 i m (by omega) (by omega)
        have b3 := h2 j m hj (by omega)
        show (if P i = K then P m else P i) ≠ (if P j = K then P m else P j)
        split <;> split <;> omega)
      omega
/-- the row of people of a search that goes deep -/
def DFS (dd : Nat) (P : Nat → Nat) (b : Nat) (E S1 S2 : Nat → Nat) : Prop := (∀ j, j < dd → P j ≤ 6) ∧ (∀ i j, i < j → j < dd → P i ≠ P j) ∧ b < 128 ∧ (∀ j, j < dd → b / 2 ^ P j % 2 = 1) ∧ (∀ j, j + 1 < dd → E (2 * S1 j + S2 j) = P j)
theorem DFS_7 {dd b : Nat} {P E S1 S2 : Nat → Nat} (h : DFS dd P b E S1 S2) : dd ≤ 7 := pig 7 dd P (fun j hj => by have := h.1 j hj; omega) h.2.1
theorem DFS_init {a : Nat} (ha : a ≤ 6) (E S1 S2 : Nat → Nat) : DFS 1 (fun _ => a) (2 ^ a) E S1 S2 := ⟨fun _ _ => ha, fun i j h1 h2 => by omega, (bt_p a (by omega)).1, fun _ _ => (bt_p a (by omega)).2, fun j h => by omega⟩
theorem DFS_init2 {a c : Nat} (ha : a ≤ 6) (hc : c ≤ 6) (E S1 S2 : Nat → Nat) : DFS 1 (fun _ => a) (bset (2 ^ a) c) E S1 S2 := ⟨fun _ _ => ha, fun i j h1 h2 => by omega, (bt_or _ (bt_p a (by omega)).1 c (by omega)).2, fun _ _ => by
  show bset (2 ^ a) c / 2 ^ a % 2 = 1
  rw [bt_s _ (bt_p a (by omega)).1 c (by omega) a (by omega)]
  split
  · rfl
  · exact (bt_p a (by omega)).2, fun j h => by omega⟩
theorem DFS_upd {k b : Nat} {P E S1 S2 : Nat → Nat} (h : DFS (k + 1) P b E S1 S2) (v w : Nat) : DFS (k + 1) P b E (upN S1 k v) (upN S2 k w) := ⟨h.1, h.2.1, h.2.2.1, h.2.2.2.1, fun j hj => by
  rw [upN_n (by omega), upN_n (by omega)]
  exact h.2.2.2.2 j hj⟩
theorem DFS_less {k b : Nat} {P E S1 S2 : Nat → Nat} (h : DFS (k + 1) P b E S1 S2) : DFS k P b E S1 S2 := ⟨fun j hj => h.1 j (by omega), fun i j h1 h2 => h.2.1 i j h1 (by omega), h.2.2.1, fun j hj => h.2.2.2.1 j (by omega), fun j hj => h.2.2.2.2 j (by omega)⟩
theorem DFS_pop {k b : Nat} {P E S1 S2 : Nat → Nat} (h : DFS (k + 2) P b E S1 S2) : DFS (k + 1) P (bclr b (P (k + 1))) E S1 S2 := by
  have h6 := h.1 (k + 1) (by omega)
  refine ⟨fun j hj => h.1 j (by omega), fun i j h1 h2 => h.2.1 i j h1 (by omega), (bt_cl b h.2.2.1 _ (by omega)).2, fun j hj => ?_, fun j hj => h.2.2.2.2 j (by omega)⟩
  have hj6 := h.1 j (by omega)
  rw [bt_c b h.2.2.1 _ (by omega) _ (by omega), if_neg (h.2.1 j (k + 1) (by omega) (by omega))]
  exact h.2.2.2.1 j (by omega)
theorem DFS_push {k b u v w : Nat} {P E S1 S2 : Nat → Nat} (h : DFS (k + 1) P b E S1 S2) (hu : u ≤ 6) (hb : b / 2 ^ u % 2 = 0) (hE : E (2 * v + w) = P k) : DFS (k + 2) (upN P (k + 1) u) (bset b u) E (upN S1 k v) (upN S2 k w) := by
  have hne : ∀ j, j < k + 1 → P j ≠ u := by
    intro j hj e
    have := h.2.2.2.1 j hj
    rw [e] at this
    omega
  have old : ∀ j, j < k + 1 → upN P (k + 1) u j = P j := fun j hj => upN_n (by omega)
  refine ⟨fun j hj => ?_, fun i j h1 h2 => ?_, (bt_or b h.2.2.1 u (by omega)).2, fun j hj => ?_, fun j hj => ?_⟩
  · by_cases e : j = k + 1
    · rw [e, upN_s]; exact hu
    · rw [old j (by omega)]; exact h.1 j (by omega)
  · rw [old i (by omega)]
    by_cases e : j = k + 1
    · rw [e, upN_s]; exact hne i (by omega)
    · rw [old j (by omega)]; exact h.2.1 i j h1 (by omega)
  · by_cases e : j = k + 1
    · rw [e, upN_s, bt_s b h.2.2.1 u (by omega) u (by omega), if_pos rfl]
    · have hj6 := h.1 j (by omega)
      rw [old j (by omega), bt_s b h.2.2.1 u (by omega) _ (by omega), if_neg (hne j (by omega))]
      exact h.2.2.2.1 j (by omega)
  · rw [old j (by omega)]
    by_cases e : j = k
    · rw [e, upN_s, upN_s]; exact hE
    · rw [upN_n e, upN_n e]; exact h.2.2.2.2 j (by omega)
/-- how much is left to try -/
def mu (f : Nat → Nat) (N : Nat) : Nat → Nat
  | 0 => 0
  | d + 1 => mu f N d + (N + 1 - f d) * 26 ^ (8 - d)
theorem mu_up (f : Nat → Nat) (N i v : Nat) : ∀ d, d ≤ i → mu (upN f i v) N d = mu f N d := by
  intro d
  induction d with
  | zero => intro _; rfl
  | succ d ih =>
    intro h
    unfold mu
    rw [ih (by omega), upN_n (by omega)]
theorem mu_pop {f : Nat → Nat} {N d : Nat} (h : f d ≤ N) : mu f N d < mu f N (d + 1) := by
  show mu f N d < mu f N d + (N + 1 - f d) * 26 ^ (8 - d)
  have h1 : 0 < (N + 1 - f d) * 26 ^ (8 - d) := Nat.mul_pos (by omega) (Nat.pow_pos (by decide))
  omega
theorem mu_inc {f : Nat → Nat} {N d : Nat} (h : f d < N) : mu (upN f d (f d + 1)) N (d + 1) < mu f N (d + 1) := by
  show mu (upN f d (f d + 1)) N d + (N + 1 - upN f d (f d + 1) d) * 26 ^ (8 - d) < mu f N d + (N + 1 - f d) * 26 ^ (8 - d)
  rw [mu_up f N d _ d (Nat.le_refl _), upN_s]
  have h1 : (N + 1 - (f d + 1)) * 26 ^ (8 - d) < (N + 1 - f d) * 26 ^ (8 - d) := Nat.mul_lt_mul_of_pos_right (by omega) (Nat.pow_pos (by decide))
  omega
theorem mu_push {f : Nat → Nat} {N d v : Nat} (h : f d < N) (hN : N ≤ 24) (hd : d < 8) : mu (upN (upN f d (f d + 1)) (d + 1) v) N (d + 2) < mu f N (d + 1) := by
  show mu (upN (upN f d (f d + 1)) (d + 1) v) N d + (N + 1 - upN (upN f d (f d + 1)) (d + 1) v d) * 26 ^ (8 - d) + (N + 1 - upN (upN f d (f d + 1)) (d + 1) v (d + 1)) * 26 ^ (8 - (d + 1)) < mu f N d + (N + 1 - f d) * 26 ^ (8 - d)
  rw [mu_up _ N (d + 1) v d (by omega), mu_up f N d _ d (Nat.le_refl _), upN_s, upN_n (by omega : d ≠ d + 1), upN_s]
  obtain ⟨q, hq⟩ : ∃ q, 8 - d = q + 1 := ⟨7 - d, by omega⟩
  have hq2 : 8 - (d + 1) = q := by omega
  rw [hq, hq2, Nat.pow_succ]
  obtain ⟨r, hr⟩ : ∃ r, N + 1 - f d = r + 1 := ⟨N - f d, by omega⟩
  have hr2 : N + 1 - (f d + 1) = r := by omega
  rw [hr, hr2]
  have hX : 0 < 26 ^ q := Nat.pow_pos (by decide)
  have h1 : (N + 1 - v) * 26 ^ q ≤ 25 * 26 ^ q := Nat.mul_le_mul_right _ (by omega)
  have h2 : (r + 1) * (26 ^ q * 26) = r * (26 ^ q * 26) + 26 ^ q * 26 := Nat.succ_mul _ _
  rw [h2]
  omega
theorem tr_up {f : Nat → Nat} {N n : Nat} (h : ∀ jz, jz < n → f jz ≤ N) (i v : Nat) (hv : v ≤ N) : ∀ jz, jz < n → upN f i v jz ≤ N := by
  intro jz hj
  unfold upN
  split
  · exact hv
  · exact h jz hj
theorem tr_ext {f : Nat → Nat} {N n : Nat} (h : ∀ jz, jz < n → f jz ≤ N) (v : Nat) (hv : v ≤ N) : ∀ jz, jz < n + 1 → upN f n v jz ≤ N := by
  intro jz hj
  unfold upN
  split
  · exact hv
  · exact h jz (by omega)
def sh (f : Nat → Nat) : Nat → Nat := fun j => f (j + 1)
theorem sh_up (f : Nat → Nat) (k v : Nat) : sh (upN f (k + 1) v) = upN (sh f) k v := by
  funext j
  unfold sh upN
  by_cases h : j = k
  · simp [h]
  · simp [h]
