-- the reference locks along a way
def mlS (k : Nat) (v : Int32) (s : LK4) : LK4 := (subS s.1 k v, addS s.2.1 k v, upd s.2.2.1 (k / 2) 0, upd s.2.2.2 (k / 2) (gsum (subS s.1 k v) (k / 2)))
def mlI (P F : Nat → Nat) (C : Nat → Int32) (s : LK4) : Nat → LK4
  | 0 => s
  | i + 1 => mlS (2 * P i + F i) (C i) (mlI P F C s i)
theorem mlI_s {P F : Nat → Nat} {C : Nat → Int32} {s0 : LK4} {S K L G : Nat → Int32} {i : Nat} (h : (S, K, L, G) = mlI P F C s0 i) (hF : F i ≤ 1) : (subS S (2 * P i + F i) (C i), addS K (2 * P i + F i) (C i), upd L (P i) 0, upd G (P i) (gsum (subS S (2 * P i + F i) (C i)) (P i))) = mlI P F C s0 (i + 1) := by
  show _ = mlS (2 * P i + F i) (C i) (mlI P F C s0 i)
  rw [← h]
  unfold mlS
  rw [show (2 * P i + F i) / 2 = P i by omega]
def mlL (nq n : Nat) (P F : Nat → Nat) (C : Nat → Int32) (tm gp : Int32) (k : Nat) (B1 B2 : Nat → Nat) (B3 B4 B5 : Nat → Int32) : Prop := ∀ z, z < k → B1 (8 * nq + z) = P z ∧ B2 (8 * nq + z) = F z ∧ B3 (8 * nq + z) = C z ∧ B4 (8 * nq + z) = tm + gp * nI (n - z) ∧ B5 (8 * nq + z) = 1
def mlO (nq : Nat) (B1 B2 : Nat → Nat) (B3 B4 B5 : Nat → Int32) (B1' B2' : Nat → Nat) (B3' B4' B5' : Nat → Int32) : Prop := ∀ l, (l < 8 * nq ∨ 8 * nq + 8 ≤ l) → B1' l = B1 l ∧ B2' l = B2 l ∧ B3' l = B3 l ∧ B4' l = B4 l ∧ B5' l = B5 l
theorem mlO_rf {nq : Nat} {B1 B2 : Nat → Nat} {B3 B4 B5 : Nat → Int32} : mlO nq B1 B2 B3 B4 B5 B1 B2 B3 B4 B5 := fun _ _ => ⟨rfl, rfl, rfl, rfl, rfl⟩
theorem mlO_s {nq i j t : Nat} {u v w : Int32} {B1 B2 : Nat → Nat} {B3 B4 B5 : Nat → Int32} {B1' B2' : Nat → Nat} {B3' B4' B5' : Nat → Int32} (hi : i < 8) (h : mlO nq B1 B2 B3 B4 B5 B1' B2' B3' B4' B5') : mlO nq B1 B2 B3 B4 B5 (upN B1' (8 * nq + i) j) (upN B2' (8 * nq + i) t) (upd B3' (8 * nq + i) u) (upd B4' (8 * nq + i) v) (upd B5' (8 * nq + i) w) := by
  intro l hl
  rw [upN_n (by omega), upN_n (by omega), pk_un (by omega), pk_un (by omega), pk_un (by omega)]
  exact h l hl
theorem mlL_0 {nq n : Nat} {P F : Nat → Nat} {C : Nat → Int32} {tm gp : Int32} {B1 B2 : Nat → Nat} {B3 B4 B5 : Nat → Int32} : mlL nq n P F C tm gp 0 B1 B2 B3 B4 B5 := fun z h => by omega
theorem mlL_s {nq n k : Nat} {P F : Nat → Nat} {C : Nat → Int32} {tm gp : Int32} {B1 B2 : Nat → Nat} {B3 B4 B5 : Nat → Int32} (h : mlL nq n P F C tm gp k B1 B2 B3 B4 B5) : mlL nq n P F C tm gp (k + 1) (upN B1 (8 * nq + k) (P k)) (upN B2 (8 * nq + k) (F k)) (upd B3 (8 * nq + k) (C k)) (upd B4 (8 * nq + k) (tm + gp * nI (n - k))) (upd B5 (8 * nq + k) 1) := by
  intro z hz
  by_cases e : z = k
  · subst e
    rw [upN_s, upN_s, pk_us, pk_us, pk_us]
    exact ⟨rfl, rfl, rfl, rfl, rfl⟩
  · rw [upN_n (by omega), upN_n (by omega), pk_un (by omega), pk_un (by omega), pk_un (by omega)]
    exact h z (by omega)
theorem isw_x1 {v : Int32} (h : ¬ isw v 1 100000 = 0) : 1 ≤ v.toInt := by
  have h1 := Int32.le_iff_toInt_le.mp (isw_ge h).1
  exact h1
theorem bw_v {nn : Nat} {i j v : Int32} (h : ¬ badWay nn i j v) : 1 ≤ v.toInt := isw_x1 (fun q => h (bw_4 q))
