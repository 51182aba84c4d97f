/-! Layer C: words as numbers, to the base 32 (the class) and 27 (the reference) -/
/-- the first k letters of f, to the base B -/
def cdN (B : Nat) (f : Nat → Nat) : Nat → Nat
  | 0 => 0
  | k + 1 => cdN B f k * B + f k
def Lt (f : Nat → Nat) (k : Nat) : Prop := ∀ i, i < k → 1 ≤ f i ∧ f i ≤ 26
theorem cdN_pos {B : Nat} {f : Nat → Nat} {k : Nat} (h : Lt f (k + 1)) : 0 < cdN B f (k + 1) := by
  have := (h k (by omega)).1
  show 0 < cdN B f k * B + f k
  omega
theorem cdN_inj {B : Nat} (hB : 27 ≤ B) {f g : Nat → Nat} : ∀ (j k : Nat), Lt f j → Lt g k → cdN B f j = cdN B g k → j = k ∧ ∀ i, i < j → f i = g i
  | 0, 0, _, _, _ => ⟨rfl, fun i hi => absurd hi (Nat.not_lt_zero i)⟩
  | 0, k + 1, _, hg, h => by
    have := cdN_pos (B := B) hg
    have e : cdN B f 0 = 0 := rfl
    omega
  | j + 1, 0, hf, _, h => by
    have := cdN_pos (B := B) hf
    have e : cdN B g 0 = 0 := rfl
    omega
  | j + 1, k + 1, hf, hg, h => by
    have h1 := hf j (by omega)
    have h2 := hg k (by omega)
    have h' : cdN B f j * B + f j = cdN B g k * B + g k := h
    have m1 : (cdN B f j * B + f j) % B = f j := by rw [Nat.add_comm, Nat.add_mul_mod_self_right, Nat.mod_eq_of_lt (by omega)]
    have m2 : (cdN B g k * B + g k) % B = g k := by rw [Nat.add_comm, Nat.add_mul_mod_self_right, Nat.mod_eq_of_lt (by omega)]
    have m3 : f j = g k := by rw [← m1, ← m2, h']
    have m4 : cdN B f j * B = cdN B g k * B := by omega
    have m5 : cdN B f j = cdN B g k := Nat.eq_of_mul_eq_mul_right (by omega) m4
    obtain ⟨e1, e2⟩ := cdN_inj hB j k (fun i hi => hf i (by omega)) (fun i hi => hg i (by omega)) m5
    refine ⟨by omega, fun i hi => ?_⟩
    by_cases z : i = j
    · rw [z, m3, ← e1]
    · exact e2 i (by omega)
theorem cdN_ext {B : Nat} {f g : Nat → Nat} : ∀ k, (∀ i, i < k → f i = g i) → cdN B f k = cdN B g k
  | 0, _ => rfl
  | k + 1, h => by
    show cdN B f k * B + f k = cdN B g k * B + g k
    rw [cdN_ext k (fun i hi => h i (by omega)), h k (by omega)]
/-- the two ways to number words agree on which are the same -/
theorem cdN_both {f g : Nat → Nat} {j k : Nat} (hf : Lt f j) (hg : Lt g k) : (cdN 32 f j = cdN 32 g k) = (cdN 27 f j = cdN 27 g k) := by
  apply propext
  constructor
  · intro h
    obtain ⟨rfl, e⟩ := cdN_inj (by omega) j k hf hg h
    exact cdN_ext j e
  · intro h
    obtain ⟨rfl, e⟩ := cdN_inj (by omega) j k hf hg h
    exact cdN_ext j e
theorem cdN_lt {B : Nat} (hB : 27 ≤ B) {f : Nat → Nat} : ∀ k, Lt f k → cdN B f k < B ^ k
  | 0, _ => by
    show 0 < 1
    omega
  | k + 1, h => by
    have ih := cdN_lt hB k (fun i hi => h i (by omega))
    have h1 := h k (by omega)
    have : (cdN B f k + 1) * B ≤ B ^ k * B := Nat.mul_le_mul_right B (by omega)
    rw [Nat.add_mul, Nat.one_mul, ← Nat.pow_succ] at this
    show cdN B f k * B + f k < B ^ (k + 1)
    have e : B ^ (k + 1) = B ^ k.succ := rfl
    omega
theorem cdN_8 {f : Nat → Nat} {k : Nat} (h : Lt f k) (hk : k ≤ 8) : cdN 32 f k < 1099511627776 ∧ cdN 27 f k < 1099511627776 := by
  have h1 := cdN_lt (B := 32) (by omega) k h
  have h2 := cdN_lt (B := 27) (by omega) k h
  have p1 : 32 ^ k ≤ 32 ^ 8 := Nat.pow_le_pow_right (by omega) hk
  have p2 : 27 ^ k ≤ 27 ^ 8 := Nat.pow_le_pow_right (by omega) hk
  omega
/-- where the class's words stand among the reference's -/
def pmW (h : Nat) : Nat := [28, 29, 30, 31, 32, 33, 34, 35, 36, 37, 38, 39, 6, 8, 9, 14, 18, 19, 21, 22, 11, 0, 1, 2, 3, 4, 5, 7, 10, 12, 13, 15, 16, 17, 20, 23, 24, 25, 26, 27].getD h 0
/-- kinds of tokens: the class's as the reference has them -/
def kM (k : Nat) : Nat := if k < 16 then [0, 3, 1, 2, 4, 5, 8, 9, 10, 15, 11, 12, 13, 14, 6, 7].getD k 0 else if k < 20 then k else 20 + pmW (k - 20)
theorem kM_inj : ∀ j, j < 60 → ∀ k, k < 60 → kM j = kM k → j = k := by decide +kernel
