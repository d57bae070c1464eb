-- answers of the reference that change nothing
def gACm (EP : Nat → Nat) (MU : Nat → Int32) (MY : Nat → Nat) (MT : Nat → Int32) (j : Nat) (z : Int32) : Int32 := if z = 0 then nI (EP (2 * j)) else if z = 1 then nI (EP (2 * j + 1)) else if z = 2 then MU j else if z = 3 then nI (MY j) else if z = 4 then MT j else -2
def gABm (np : Nat) (EP : Nat → Nat) (MU : Nat → Int32) (MY : Nat → Nat) (MT : Nat → Int32) (i z : Int32) : Int32 := if isw i 0 (nI np - 1) = 0 then -2 else gACm EP MU MY MT i.toNatClampNeg z
def gOutM (k b n : Int32) : Int32 := if k + b < n then 0 else if k = n then 1 else if k = 0 then 2 else 3
def gPBm (P3 : Nat → Nat) (P4 P5 P1 B3 P6 P2 : Nat → Int32) (q : Nat) (z : Int32) : Int32 := if z = 0 then gOutM (P4 q) (P5 q) (nI (P3 q)) else if z = 1 then P1 q else if z = 2 then B3 (8 * q) else if z = 3 then nI (P3 q) else if z = 4 then P4 q else if z = 5 then (if P6 q = 0 then 0 else 1) else if z = 6 then P2 q else -2
def gPAm (nq : Nat) (P3 : Nat → Nat) (P4 P5 P1 B3 P6 P2 : Nat → Int32) (i z : Int32) : Int32 := if isw i 0 (nI nq - 1) = 0 then -2 else gPBm P3 P4 P5 P1 B3 P6 P2 i.toNatClampNeg z
def cntM (P3 : Nat → Nat) (P4 P5 : Nat → Int32) : Nat → Int32
  | 0 => 0
  | q + 1 => cntM P3 P4 P5 q + (nI (P3 q) - P4 q - P5 q)
theorem gom_0 {k b n : Int32} (h : k + b < n) : 0 = gOutM k b n := by unfold gOutM; rw [if_pos h]
theorem gom_1 {k b n : Int32} (h : ¬ k + b < n) (h2 : k = n) : 1 = gOutM k b n := by unfold gOutM; rw [if_neg h, if_pos h2]
theorem gom_2 {k b n : Int32} (h : ¬ k + b < n) (h2 : ¬ k = n) (h3 : k = 0) : 2 = gOutM k b n := by unfold gOutM; rw [if_neg h, if_neg h2, if_pos h3]
theorem gom_3 {k b n : Int32} (h : ¬ k + b < n) (h2 : ¬ k = n) (h3 : ¬ k = 0) : 3 = gOutM k b n := by unfold gOutM; rw [if_neg h, if_neg h2, if_neg h3]
