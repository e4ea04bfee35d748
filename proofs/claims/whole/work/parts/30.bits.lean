/-! ===== LEVEL B: pure steps. Sets of points as numbers below 1024 ===== -/
/-- how many of the first k bits are set -/
def pcn : Nat → Nat → Nat
  | 0, _ => 0
  | k + 1, a => pcn k a + (if a.testBit k then 1 else 0)
def pc (a : Nat) : Nat := pcn 10 a
def bI (b : Bool) : Int32 := if b then 1 else 0
theorem al2 {f : Nat → Bool} {n : Nat} (h : (List.range n).all f = true) (i : Nat) (hi : i < n) : f i = true := List.all_eq_true.mp h i (List.mem_range.mpr hi)
set_option maxRecDepth 100000 in
theorem hasC0 : (List.range 1024).all (fun a => (List.range 10).all (fun k => decide (f_X6_has (nI a) (nI k) = bI (a.testBit k)))) = true := by decide +kernel
set_option maxRecDepth 100000 in
theorem hasM0 : (List.range 1024).all (fun a => (List.range 10).all (fun k => decide (f_X7_has (nI a) (nI k) = bI (a.testBit k)))) = true := by decide +kernel
theorem hasC {a k : Nat} (ha : a < 1024) (hk : k < 10) : f_X6_has (nI a) (nI k) = bI (a.testBit k) := of_decide_eq_true (al2 (al2 hasC0 a ha) k hk)
theorem hasM {a k : Nat} (ha : a < 1024) (hk : k < 10) : f_X7_has (nI a) (nI k) = bI (a.testBit k) := of_decide_eq_true (al2 (al2 hasM0 a ha) k hk)
set_option maxRecDepth 100000 in
theorem bcC0 : (List.range 1024).all (fun a => decide (f_J6_bitCount_0f7a4 (nI a) = nI (pc a))) = true := by decide +kernel
theorem bcC {a : Nat} (ha : a < 1024) : f_J6_bitCount_0f7a4 (nI a) = nI (pc a) := of_decide_eq_true (al2 bcC0 a ha)
set_option maxRecDepth 100000 in
theorem onesM0 : (List.range 1024).all (fun a => decide (f_X7_ones_4 12 0 (nI a) = some (nI (pc a)))) = true := by decide +kernel
