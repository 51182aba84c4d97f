/-! tests -/
theorem tt_1 (a b : Int32) (h : 0 ≤ a) (h2 : a < b) (h3 : b ≤ 100) : a + 1 ≤ b := by grind
theorem tt_2 (a b : Int32) (h : 0 ≤ a) (h2 : ¬ b ≤ a) (h3 : b ≤ 100) : ¬ b < a + 1 := by grind
theorem tt_3 (a : Int32) (h : ¬ (0 : Int32) ≤ a) : a < 0 := by grind
theorem tt_4 (a : Int32) (h : 0 ≤ a) (h2 : a < 140) : a / 7 < 20 := by grind
theorem tt_5 (a : Int32) (h : 0 ≤ a) (h2 : a < 140) (f : Int32 → Int32) (h5 : f a = 3) (b : Int32) (h6 : b = a + 1) : f (b - 1) = 3 := by grind
theorem tt_6 (k : Nat) (h : k < 100) : (Int32.ofNat k).toInt = k := by grind
theorem tt_7 (k : Nat) (h : k < 100) : Int32.ofNat k + 1 = Int32.ofNat (k + 1) := by grind
theorem tt_8 (k j : Nat) (h : k < 100) (h2 : j < 100) (h3 : Int32.ofNat k < Int32.ofNat j) : k < j := by grind [Int32.ofNat_lt_iff_lt]
theorem tt_9 (x5 : Int32) (h : ¬ x5 < 0) (h2 : ¬ 160 ≤ x5.toNatClampNeg) : x5 < 160 := by grind
theorem tt_10 (x5 : Int32) (h : 0 ≤ x5) (h2 : x5 < 160) : x5.toNatClampNeg < 160 := by grind
theorem tt_11 (x5 : Int32) (h : 0 ≤ x5) (h2 : x5 < 160) : inb x5 160 = true := by grind [inb]
theorem tt_12 (f : Nat → Option Nat) (x y : Int32) (h : x < y) (k : Nat): (if y ≤ x then f 0 else f k) = f k := by grind
theorem tt_13 (x : Int32) (h : x = 3 ∨ x = 5) : ¬ x = 7 := by grind
theorem tt_14 (x : Int32) (h : x = 3 ∨ x = 5) : x ≠ -1 := by grind
theorem tt_15 (m : Mem) (x : Int32) (h : 0 ≤ x) (h2 : x < 24) (v : Int32): aI (wI m 3 (ix x) v) 4 7 = aI m 4 7 := by grind [aI, wI, up2]
