/-! Layer C: TASKS of a class -/
theorem nj_or (a b : Nat) : nj a ||| nj b = nj (a ||| b) := by
  apply Int32.toBitVec.inj
  rw [Int32.toBitVec_or]
  show BitVec.ofNat 32 a ||| BitVec.ofNat 32 b = BitVec.ofNat 32 (a ||| b)
  apply BitVec.eq_of_getLsbD_eq
  intro i hi
  simp [BitVec.getLsbD_or, BitVec.getLsbD_ofNat]
theorem sh_e : ∀ v, v < 16 → (1 : Int32) <<< (nj v &&& 31) = nj (2 ^ v) := by decide +kernel
theorem or_e {b v : Nat} (hb : b < 65536) (hv : v < 16) : ∃ b', b' < 65536 ∧ nj b ||| (1 <<< (nj v &&& 31)) = nj b' := by
  refine ⟨b ||| 2 ^ v, ?_, by rw [sh_e v hv, nj_or]⟩
  have h1 : b < 2 ^ 16 := hb
  have h2 : 2 ^ v < 2 ^ 16 := Nat.pow_lt_pow_right (by omega) hv
  exact Nat.or_lt_two_pow h1 h2
