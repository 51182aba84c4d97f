/-! Layer C: bits of a long -/
theorem sh63 : ∀ u, u < 60 → ((Int32.toInt64 (nj u) &&& 63).toBitVec.smod 64).toNat = u := by decide +kernel
theorem bit64 {x : Int64} {u : Nat} (hu : u < 60) : (lg_cmp ((x >>> (Int32.toInt64 (nj u) &&& 63)) &&& 1) 0 = 0) = (x.toBitVec.getLsbD u = false) := by
  have e : (x >>> (Int32.toInt64 (nj u) &&& 63)) &&& 1 = if x.toBitVec.getLsbD u = true then 1 else 0 := by
    apply Int64.toBitVec.inj
    show (x >>> (Int32.toInt64 (nj u) &&& 63)).toBitVec &&& 1#64 = _
    rw [BitVec.and_one_eq_setWidth_ofBool_getLsbD, Int64.toBitVec_shiftRight]
    have : (BitVec.sshiftRight' x.toBitVec ((Int32.toInt64 (nj u) &&& 63).toBitVec.smod 64)).getLsbD 0 = x.toBitVec.getLsbD u := by
      rw [BitVec.getLsbD_sshiftRight', sh63 u hu, Nat.add_zero, if_pos (by omega)]
      simp
    rw [this]
    cases x.toBitVec.getLsbD u <;> rfl
  rw [e]
  cases x.toBitVec.getLsbD u
  · rw [if_neg (by simp)]
    exact propext ⟨fun _ => rfl, fun _ => by decide⟩
  · rw [if_pos rfl]
    exact propext ⟨fun z => absurd z (by decide), fun z => by cases z⟩
theorem or64 {x y : Int64} {u : Nat} : (x ||| y).toBitVec.getLsbD u = (x.toBitVec.getLsbD u || y.toBitVec.getLsbD u) := by
  rw [Int64.toBitVec_or, BitVec.getLsbD_or]
theorem zero64 {u : Nat} : (0 : Int64).toBitVec.getLsbD u = false := by
  show (0#64).getLsbD u = false
  exact BitVec.getLsbD_zero
theorem P_held_e (x a b : Int32) : P_held x a b = some (jmax a (jmin b x)) := by
  unfold P_held
  rfl
theorem R_held_e (x a b : Int32) (h : a ≤ b) : R_held x a b = some (jmax a (jmin b x)) := by
  unfold R_held jmax jmin
  grind
