/-! Layer C: bits are counted alike -/
def popN (x : Nat) : Nat → Nat
  | 0 => 0
  | k + 1 => popN x k + (x >>> k) % 2
def sw1 (x : Nat) : Nat := x - ((x >>> 1) &&& 1431655765)
def sw2 (x : Nat) : Nat := (x &&& 858993459) + ((x >>> 2) &&& 858993459)
def sw3 (x : Nat) : Nat := (x + (x >>> 4)) &&& 252645135
def swN (x : Nat) : Nat := (sw3 (sw2 (sw1 x)) + (sw3 (sw2 (sw1 x)) >>> 8) + ((sw3 (sw2 (sw1 x)) + (sw3 (sw2 (sw1 x)) >>> 8)) >>> 16)) &&& 63
theorem popN_le {x : Nat} : ∀ k, popN x k ≤ k
  | 0 => Nat.le_refl _
  | k + 1 => by
    have := popN_le (x := x) k
    show popN x k + (x >>> k) % 2 ≤ k + 1
    omega
theorem sp_tb {x y j : Nat} (hy : y < 256) : (256 * x + y).testBit j = if j < 8 then y.testBit j else x.testBit (j - 8) := Nat.testBit_two_pow_mul_add (i := 8) x hy j
theorem and_sp {h l a b : Nat} (hl : l < 256) (hb : b < 256) : (256 * h + l) &&& (256 * a + b) = 256 * (h &&& a) + (l &&& b) := by
  apply Nat.eq_of_testBit_eq
  intro j
  rw [Nat.testBit_and, sp_tb hl, sp_tb hb, sp_tb (Nat.lt_of_le_of_lt Nat.and_le_left hl)]
  by_cases q : j < 8
  · simp [q]
  · simp [q]
theorem shr_sp {h l a b k : Nat} (hk : k ≤ 8) (hl : l < 256) (hb : b < 2 ^ (8 - k)) : ((256 * h + l) >>> k) &&& (256 * a + b) = 256 * ((h >>> k) &&& a) + ((l >>> k) &&& b) := by
  have hb8 : b < 256 := Nat.lt_of_lt_of_le hb (show 2 ^ (8 - k) ≤ 2 ^ 8 from Nat.pow_le_pow_right (by omega) (by omega))
  have hlk : (l >>> k) &&& b < 256 := Nat.lt_of_le_of_lt Nat.and_le_right hb8
  apply Nat.eq_of_testBit_eq
  intro j
  rw [Nat.testBit_and, Nat.testBit_shiftRight, sp_tb hl, sp_tb hb8, sp_tb hlk]
  by_cases q : j < 8
  · rw [if_pos q, if_pos q, Nat.testBit_and, Nat.testBit_shiftRight]
    by_cases q2 : k + j < 8
    · rw [if_pos q2]
    · have e1 : b.testBit j = false := Nat.testBit_lt_two_pow (Nat.lt_of_lt_of_le hb (Nat.pow_le_pow_right (by omega) (by omega)))
      rw [e1, Bool.and_false, Bool.and_false]
  · rw [if_neg q, if_neg q, if_neg (by omega), Nat.testBit_and, Nat.testBit_shiftRight, show k + j - 8 = k + (j - 8) by omega]
theorem by1 : ∀ h, h < 256 → (h >>> 1) &&& 5592405 = (h >>> 1) &&& 85 := by decide +kernel
theorem by2 : ∀ h, h < 256 → (h &&& 3355443 = h &&& 51) ∧ ((h >>> 2) &&& 3355443 = (h >>> 2) &&& 51) := by decide +kernel
theorem by3 : ∀ h, h < 256 → (h &&& 986895) = h &&& 15 := by decide +kernel
def b1 (x : Nat) : Nat := x - ((x >>> 1) &&& 85)
def b2 (x : Nat) : Nat := (x &&& 51) + ((x >>> 2) &&& 51)
def b3 (x : Nat) : Nat := (x + (x >>> 4)) &&& 15
theorem byt : ∀ h, h < 256 → (h >>> 1) &&& 85 ≤ h ∧ b1 h < 256 ∧ b2 (b1 h) ≤ 68 ∧ b2 (b1 h) % 16 ≤ 4 ∧ b3 (b2 (b1 h)) = popN h 8 := by decide +kernel
theorem sw1_sp {h l : Nat} (hh : h < 256) (hl : l < 256) : sw1 (256 * h + l) = 256 * b1 h + b1 l := by
  have e : ((256 * h + l) >>> 1) &&& 1431655765 = 256 * ((h >>> 1) &&& 5592405) + ((l >>> 1) &&& 85) := shr_sp (a := 5592405) (b := 85) (k := 1) (by omega) hl (by decide)
  have h1 := (byt h hh).1
  have h2 := (byt l hl).1
  unfold sw1 b1
  rw [e, by1 h hh]
  omega
theorem sw2_sp {h l : Nat} (hh : h < 256) (hl : l < 256) : sw2 (256 * h + l) = 256 * b2 h + b2 l := by
  have e1 : (256 * h + l) &&& 858993459 = 256 * (h &&& 3355443) + (l &&& 51) := and_sp (a := 3355443) (b := 51) hl (by omega)
  have e2 : ((256 * h + l) >>> 2) &&& 858993459 = 256 * ((h >>> 2) &&& 3355443) + ((l >>> 2) &&& 51) := shr_sp (a := 3355443) (b := 51) (k := 2) (by omega) hl (by decide)
  unfold sw2 b2
  rw [e1, e2, (by2 h hh).1, (by2 h hh).2]
  omega
theorem sw3_sp {h l : Nat} (hh : h ≤ 68) (hm : h % 16 ≤ 4) (hl : l ≤ 68) : sw3 (256 * h + l) = 256 * b3 h + b3 l := by
  have es : (256 * h + l) >>> 4 = 16 * h + l >>> 4 := by
    rw [Nat.shiftRight_eq_div_pow, Nat.shiftRight_eq_div_pow]
    omega
  have eh : h >>> 4 = h / 16 := Nat.shiftRight_eq_div_pow h 4
  have el : l >>> 4 = l / 16 := Nat.shiftRight_eq_div_pow l 4
  have et : 256 * h + l + (16 * h + l >>> 4) = 256 * (h + h >>> 4) + (16 * (h % 16) + (l + l >>> 4)) := by omega
  have e1 : (256 * (h + h >>> 4) + (16 * (h % 16) + (l + l >>> 4))) &&& 252645135 = 256 * ((h + h >>> 4) &&& 986895) + ((16 * (h % 16) + (l + l >>> 4)) &&& 15) := and_sp (a := 986895) (b := 15) (by omega) (by omega)
  have m15 : ∀ x : Nat, x &&& 15 = x % 16 := fun x => Nat.and_two_pow_sub_one_eq_mod x 4
  unfold sw3 b3
  rw [es, et, e1, by3 _ (by omega), m15 (16 * (h % 16) + (l + l >>> 4)), m15 (l + l >>> 4)]
  omega
theorem bt_e (x k : Nat) : (x >>> k) % 2 = (x.testBit k).toNat := by rw [Nat.toNat_testBit, Nat.shiftRight_eq_div_pow]
theorem popN_sp {h l : Nat} (hl : l < 256) : popN (256 * h + l) 16 = popN h 8 + popN l 8 := by
  simp only [popN, bt_e, sp_tb hl]
  simp
  omega
theorem sw_pop {x : Nat} (hx : x < 65536) : swN x = popN x 16 := by
  obtain ⟨h, l, hh, hl, rfl⟩ : ∃ h l, h < 256 ∧ l < 256 ∧ x = 256 * h + l := ⟨x / 256, x % 256, by omega, by omega, by omega⟩
  obtain ⟨-, y1, y2, y3, y4⟩ := byt h hh
  obtain ⟨-, z1, z2, z3, z4⟩ := byt l hl
  have p1 := popN_le (x := h) 8
  have p2 := popN_le (x := l) 8
  have m63 : ∀ x : Nat, x &&& 63 = x % 64 := fun x => Nat.and_two_pow_sub_one_eq_mod x 6
  unfold swN
  rw [sw1_sp hh hl, sw2_sp y1 z1, sw3_sp y2 y3 z2, y4, z4, popN_sp hl, m63, Nat.shiftRight_eq_div_pow, Nat.shiftRight_eq_div_pow]
  generalize popN h 8 = f at *
  generalize popN l 8 = k at *
  have q1 : (256 * f + k) / 2 ^ 8 = f := by omega
  have q2 : (256 * f + k + f) / 2 ^ 16 = 0 := by omega
  rw [q1, q2]
  omega
theorem nj_bv (a : Nat) : (nj a).toBitVec = BitVec.ofNat 32 a := rfl
theorem nj_and {a b : Nat} : nj a &&& nj b = nj (a &&& b) := by
  apply Int32.toBitVec.inj
  rw [Int32.toBitVec_and, nj_bv, nj_bv, nj_bv]
  exact (BitVec.ofNat_and).symm
theorem nj_and_l {a k : Nat} : nj a &&& (no_index (OfNat.ofNat k) : Int32) = nj (a &&& OfNat.ofNat k) := nj_and
theorem nj_ushr {a k : Nat} (ha : a < 2147483648) (hk : k < 32) : (Int32.toUInt32 (nj a) >>> (Int32.toUInt32 (nj k) &&& Int32.toUInt32 31)).toInt32 = nj (a >>> k) := by
  apply Int32.toBitVec.inj
  show ((Int32.toUInt32 (nj a) >>> (Int32.toUInt32 (nj k) &&& Int32.toUInt32 31))).toBitVec = _
  rw [UInt32.toBitVec_shiftRight, UInt32.toBitVec_and]
  show (BitVec.ofNat 32 a) >>> ((BitVec.ofNat 32 k &&& 31#32) % 32#32) = BitVec.ofNat 32 (a >>> k)
  apply BitVec.eq_of_toNat_eq
  have h31 : ∀ k, k < 32 → ((BitVec.ofNat 32 k &&& 31#32) % 32#32).toNat = k := by decide
  have := Nat.shiftRight_le a k
  rw [BitVec.ushiftRight_eq', BitVec.toNat_ushiftRight, h31 k hk, BitVec.toNat_ofNat, BitVec.toNat_ofNat, Nat.mod_eq_of_lt (by omega), Nat.mod_eq_of_lt (by omega)]
theorem nj_ushr_l {a k : Nat} (ha : a < 2147483648) (hk : OfNat.ofNat k < 32) : (Int32.toUInt32 (nj a) >>> (Int32.toUInt32 (no_index (OfNat.ofNat k) : Int32) &&& Int32.toUInt32 31)).toInt32 = nj (a >>> OfNat.ofNat k) := nj_ushr ha hk
theorem J_bitCount_e {x : Nat} (hx : x < 65536) : J_bitCount (nj x) = some (nj (popN x 16)) := by
  have h1 : sw1 x ≤ x := Nat.sub_le _ _
  have b1 : (x >>> 1) &&& 1431655765 ≤ x := Nat.le_trans Nat.and_le_left (Nat.shiftRight_le x 1)
  have b2 : sw2 (sw1 x) < 2147483648 := by
    have y1 : (sw1 x) &&& 858993459 ≤ sw1 x := Nat.and_le_left
    have y2 : (sw1 x >>> 2) &&& 858993459 ≤ sw1 x := Nat.le_trans Nat.and_le_left (Nat.shiftRight_le _ 2)
    show (sw1 x &&& 858993459) + ((sw1 x >>> 2) &&& 858993459) < _
    omega
  have b3 : sw3 (sw2 (sw1 x)) ≤ 252645135 := Nat.and_le_right
  have s8 := Nat.shiftRight_le (sw3 (sw2 (sw1 x))) 8
  have e1 : nj x - ((Int32.toUInt32 (nj x) >>> (Int32.toUInt32 1 &&& Int32.toUInt32 31)).toInt32 &&& 1431655765) = nj (sw1 x) := by
    rw [nj_ushr_l (by omega) (by omega), nj_and_l, nj_sub b1]
    rfl
  have e2 : (nj (sw1 x) &&& 858993459) + ((Int32.toUInt32 (nj (sw1 x)) >>> (Int32.toUInt32 2 &&& Int32.toUInt32 31)).toInt32 &&& 858993459) = nj (sw2 (sw1 x)) := by
    rw [nj_ushr_l (by omega) (by omega), nj_and_l, nj_and_l, nj_add]
    rfl
  have e3 : (nj (sw2 (sw1 x)) + (Int32.toUInt32 (nj (sw2 (sw1 x))) >>> (Int32.toUInt32 4 &&& Int32.toUInt32 31)).toInt32) &&& 252645135 = nj (sw3 (sw2 (sw1 x))) := by
    rw [nj_ushr_l (by omega) (by omega), nj_add, nj_and_l]
    rfl
  unfold J_bitCount
  simp only [vb_e]
  rw [e1, e2, e3, nj_ushr_l (by omega) (by omega), nj_add, nj_ushr_l (by omega) (by omega), nj_add, nj_and_l, ← sw_pop hx]
  rfl
theorem nj_bit {a k : Nat} (ha : a < 2147483648) (hk : k < 31) : (nj a >>> (nj k &&& 31)) &&& 1 = nj ((a >>> k) % 2) := by
  rw [and1, Int32.toBitVec_shiftRight]
  have h31 : ∀ k, k < 31 → ((nj k &&& 31).toBitVec.smod 32).toNat = k := by decide
  rw [BitVec.getLsbD_sshiftRight', h31 k hk, Nat.add_zero, if_pos (by omega), nj_bv]
  have e : (BitVec.ofNat 32 a).getLsbD k = a.testBit k := by
    rw [BitVec.getLsbD_ofNat]
    simp
    omega
  rw [e, Nat.testBit_eq_decide_div_mod_eq, ← Nat.shiftRight_eq_div_pow]
  have : (a >>> k) % 2 = 0 ∨ (a >>> k) % 2 = 1 := by omega
  rcases this with h | h
  · rw [h]; rfl
  · rw [h]; rfl
theorem R_bits_4_e {x : Nat} (hx : x < 2147483648) : ∀ (e k fu : Nat), k + e = 16 → e < fu → R_bits_4 fu (nj x) (nj (popN x k)) (nj k) = some (nj (popN x 16))
  | 0, k, fu + 1, he, _ => by
    rw [R_bits_4.eq_2, if_pos (by rw [show (16 : Int32) = nj 16 from rfl, nj_le (by omega) (by omega)]; omega), show k = 16 by omega]
  | e + 1, k, fu + 1, he, hf => by
    have ih := R_bits_4_e hx e (k + 1) fu (by omega) (by omega)
    rw [R_bits_4.eq_2, if_neg (by rw [show (16 : Int32) = nj 16 from rfl, nj_le (by omega) (by omega)]; omega), nj_bit hx (by omega), nj_add, vb_e, vb_e, nj_add_l]
    exact ih
theorem R_bits_e {x : Nat} (hx : x < 2147483648) : R_bits (nj x) = some (nj (popN x 16)) := R_bits_4_e hx 16 0 FU (by omega) (by unfold FU; omega)
