/-! Layer C: the reference writes a word's or a number's token -/
def tkW (m : Mem) (k : Nat) (x1 x2 x3 : Int32) (x4 : Int64) : Mem := sI (wL (wI (wI (wI m 3 k x1) 4 k x2) 5 k x3) 6 k x4) 1546 0 (nj (k + 1))
theorem R_cut_124_e {m : Mem} {k a l : Nat} {k7 : Int32 → Mem → Option (Unit × Mem)} {x4 : Int64} (hm : mI m 1546 0 = nj k) (hk : k < 503) (hl : l < 3000) : R_cut_124 k7 (nj a) (nj l) x4 m = k7 (nj (a + l)) (tkW m k (nj (if l ≤ 7 then kyL (aL m 7) x4 40 0 1 else if l ≤ 8 then 1 else 3)) (nj a) 0 x4) := by
  have e179 : ∀ x6 : Int32, R_cut_179 k7 (nj a) (nj l) x4 x6 m = k7 (nj (a + l)) (tkW m k x6 (nj a) 0 x4) := by
    intro x6
    unfold R_cut_179 R_cut_291
    rw [R_token_e hm hk, bn_s, vb_e, nj_add]
    rfl
  unfold R_cut_124 R_cut_135
  by_cases z : l ≤ 7
  · have e := R_cut_146_e (m := m) (k7 := k7) (x1 := nj a) (x3 := nj l) (x4 := x4) 40 0 1 FU (by omega) (by unfold FU; omega)
    have e' : R_cut_146 k7 FU (nj a) (nj l) x4 1 0 m = R_cut_179 k7 (nj a) (nj l) x4 (nj (kyL (aL m 7) x4 40 0 1)) m := e
    rw [if_pos (by rw [nj_le_l (by omega) (by omega)]; omega), if_neg (by rw [nj_l_lt (by omega) (by omega)]; omega), e', e179, if_pos z]
  · rw [if_neg z]
    by_cases y : l ≤ 8
    · rw [if_pos (by rw [nj_le_l (by omega) (by omega)]; omega), if_pos (by rw [nj_l_lt (by omega) (by omega)]; omega), e179, if_pos y]
      rfl
    · rw [if_neg (by rw [nj_le_l (by omega) (by omega)]; omega), if_pos (by rw [nj_l_lt (by omega) (by omega)]; omega), e179, if_neg y]
      rfl
theorem R_cut_250_e {m : Mem} {k a l : Nat} {k7 : Int32 → Mem → Option (Unit × Mem)} {x4 : Int32} (hm : mI m 1546 0 = nj k) (hk : k < 503) (hl : l < 3000) : R_cut_250 k7 (nj a) (nj l) x4 m = k7 (nj (a + l)) (tkW m k (nj (if l ≤ 4 then 2 else 3)) (nj a) x4 0) := by
  have e261 : ∀ x6 : Int32, R_cut_261 k7 (nj a) (nj l) x4 x6 m = k7 (nj (a + l)) (tkW m k x6 (nj a) x4 0) := by
    intro x6
    unfold R_cut_261 R_cut_291
    rw [R_token_e hm hk, bn_s, vb_e, nj_add]
    rfl
  unfold R_cut_250
  by_cases z : l ≤ 4
  · rw [if_pos (by rw [nj_le_l (by omega) (by omega)]; omega), e261, if_pos z]
    rfl
  · rw [if_neg (by rw [nj_le_l (by omega) (by omega)]; omega), e261, if_neg z]
    rfl
