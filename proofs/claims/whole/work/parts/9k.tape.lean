/-! Layer C: the tape -/
def TpN (p r : Mem) (n : Nat) : Prop := n ≤ 2000 ∧ mI p 641 16 = nj n ∧ mI r 1538 0 = nj n ∧ ∀ i, i < n → aI p 17 i = aI r 1 i &&& 255
def Tp (p r : Mem) : Prop := ∃ n, TpN p r n
theorem byte_e (y : Int32) : (Int32.toInt8 ((Int32.toInt8 y).toInt32)).toInt32 &&& 255 = y &&& 255 := by
  apply Int32.toBitVec.inj
  rw [Int32.toBitVec_and, Int32.toBitVec_and]
  apply BitVec.eq_of_getLsbD_eq
  intro i hi
  rw [BitVec.getLsbD_and, BitVec.getLsbD_and]
  have h255 : (255 : Int32).toBitVec.getLsbD i = decide (i < 8) := by
    have : ∀ i, i < 32 → (255 : Int32).toBitVec.getLsbD i = decide (i < 8) := by decide
    exact this i hi
  rw [h255]
  by_cases z : i < 8
  · rw [decide_eq_true z, Bool.and_true, Bool.and_true]
    simp only [Int8.toBitVec_toInt32, Int32.toBitVec_toInt8, BitVec.getLsbD_signExtend, BitVec.getLsbD_setWidth]
    simp [z, hi]
  · rw [decide_eq_false z, Bool.and_false, Bool.and_false]
theorem P_write_1 {fu n : Nat} {x sh : Int32} {m : Mem} (h : ¬ sh < 0) (hn : n < 2000) (hm : mI m 641 16 = nj n) : P_Lexer_write_3 (fu + 1) x sh m = P_Lexer_write_3 fu x (sh + (-8)) (sI (wI m 17 n ((x >>> (sh &&& 31)) &&& 255)) 641 16 (nj (n + 1))) := by
  rw [P_Lexer_write_3.eq_2, if_neg h, hm, if_neg (by rw [nj_l_le (by omega) (by omega)]; omega), inb_nj (by omega), gd_t (decide_eq_true hn), vb_e, vb_e, vb_e, k_mI_wI, hm, nj_add_l, ix_nj (by omega)]
theorem R_put_1 {fu n : Nat} {x sh : Int32} {m : Mem} (h : ¬ sh < 0) (hn : n < 2000) (hm : mI m 1538 0 = nj n) : R_put_3 (fu + 1) x sh m = R_put_3 fu x (sh + (-8)) (sI (wI m 1 n ((Int32.toInt8 ((Int32.toInt8 (x >>> (sh &&& 31))).toInt32)).toInt32)) 1538 0 (nj (n + 1))) := by
  rw [R_put_3.eq_2, if_neg h, hm, inb_nj (by omega), gd_t (decide_eq_true hn), vb_e, vb_e, vb_e, k_mI_wI, hm, nj_add_l, ix_nj (by omega)]
/-- both sides since p0, r0 -/
def TpC (p0 r0 p r : Mem) : Prop := Ch [641] [17] nil p0 p ∧ mC p = mC p0 ∧ mS p = mS p0 ∧ Ch [1538] [1] nil r0 r ∧ mC r = mC r0
theorem Tp_1 {p0 r0 p r : Mem} {n : Nat} {y : Int32} (h : TpN p r n) (c : TpC p0 r0 p r) (hn : n < 2000) : TpN (sI (wI p 17 n (y &&& 255)) 641 16 (nj (n + 1))) (sI (wI r 1 n ((Int32.toInt8 ((Int32.toInt8 y).toInt32)).toInt32)) 1538 0 (nj (n + 1))) (n + 1) ∧ TpC p0 r0 (sI (wI p 17 n (y &&& 255)) 641 16 (nj (n + 1))) (sI (wI r 1 n ((Int32.toInt8 ((Int32.toInt8 y).toInt32)).toInt32)) 1538 0 (nj (n + 1))) := by
  obtain ⟨h1, h2, h3, h4⟩ := h
  obtain ⟨c1, c2, c3, c4, c5⟩ := c
  refine ⟨⟨by omega, by rw [k_mI_sI_e, up1_ap, if_pos rfl], by rw [k_mI_sI_e, up1_ap, if_pos rfl], fun i hi => ?_⟩, (c1.wI (Or.inl (by decide))).sI (by decide), by rw [k_mC_sI, k_mC_wI]; exact c2, by rw [k_mS_sI, k_mS_wI]; exact c3, (c4.wI (Or.inl (by decide))).sI (by decide), by rw [k_mC_sI, k_mC_wI]; exact c5⟩
  rw [k_aI_sI, k_aI_sI, k_aI_wI_e, k_aI_wI_e, up1_ap, up1_ap]
  by_cases z : i = n
  · rw [if_pos z, if_pos z, byte_e]
  · rw [if_neg z, if_neg z]
    exact h4 i (by omega)
theorem write_e {p0 r0 p r : Mem} {n : Nat} (h : TpN p r n) (c : TpC p0 r0 p r) (hn : n + 4 ≤ 2000) (x : Int32) : ∃ p' r', P_Lexer_write x p = some ((), p') ∧ R_put x r = some ((), r') ∧ TpN p' r' (n + 4) ∧ TpC p0 r0 p' r' := by
  obtain ⟨fu, hf⟩ : ∃ fu, FU = fu + 5 := ⟨FU - 5, by unfold FU; omega⟩
  unfold P_Lexer_write R_put
  rw [hf]
  have e0 : ((24 : Int32) + (-8)) = 16 := by decide
  have e1 : ((16 : Int32) + (-8)) = 8 := by decide
  have e2 : ((8 : Int32) + (-8)) = 0 := by decide
  have e3 : ((0 : Int32) + (-8)) = -8 := by decide
  obtain ⟨a1, b1⟩ := Tp_1 (y := x >>> ((24 : Int32) &&& 31)) h c (by omega)
  obtain ⟨a2, b2⟩ := Tp_1 (y := x >>> ((16 : Int32) &&& 31)) a1 b1 (by omega)
  obtain ⟨a3, b3⟩ := Tp_1 (y := x >>> ((8 : Int32) &&& 31)) a2 b2 (by omega)
  obtain ⟨a4, b4⟩ := Tp_1 (y := x >>> ((0 : Int32) &&& 31)) a3 b3 (by omega)
  rw [P_write_1 (by decide) (by omega) h.2.1, e0, P_write_1 (by decide) (by omega) a1.2.1, e1, P_write_1 (by decide) (by omega) a2.2.1, e2, P_write_1 (by decide) (by omega) a3.2.1, e3, P_Lexer_write_3.eq_2, if_pos (by decide)]
  rw [R_put_1 (by decide) (by omega) h.2.2.1, e0, R_put_1 (by decide) (by omega) a1.2.2.1, e1, R_put_1 (by decide) (by omega) a2.2.2.1, e2, R_put_1 (by decide) (by omega) a3.2.2.1, e3, R_put_3.eq_2, if_pos (by decide)]
  exact ⟨_, _, rfl, rfl, a4, b4⟩
theorem st_feed {p r : Mem} (h : Tp p r) (x1 x2 x3 x4 x5 : Int32) : ∃ v p' r', P_feed x1 x2 x3 x4 x5 p = some (v, p') ∧ R_feed x1 x2 x3 x4 x5 r = some (v, r') ∧ Tp p' r' ∧ TpC p r p' r' := by
  obtain ⟨n, h⟩ := h
  have c : TpC p r p r := ⟨Ch.rfl, rfl, rfl, Ch.rfl, rfl⟩
  have hn := h.1
  unfold P_feed R_feed
  rw [h.2.1, h.2.2.1, nj_add_l]
  by_cases q : n + 20 ≤ 2000
  · rw [if_pos (by rw [nj_le_l (by omega) (by omega)]; exact q), if_pos (by rw [nj_le_l (by omega) (by omega)]; exact q)]
    obtain ⟨p1, r1, a1, b1, c1, d1⟩ := write_e h c (by omega) x1
    obtain ⟨p2, r2, a2, b2, c2, d2⟩ := write_e c1 d1 (by omega) x2
    obtain ⟨p3, r3, a3, b3, c3, d3⟩ := write_e c2 d2 (by omega) x3
    obtain ⟨p4, r4, a4, b4, c4, d4⟩ := write_e c3 d3 (by omega) x4
    obtain ⟨p5, r5, a5, b5, c5, d5⟩ := write_e c4 d4 (by omega) x5
    rw [a1, bn_s, a2, bn_s, a3, bn_s, a4, bn_s, a5, bn_s, b1, bn_s, b2, bn_s, b3, bn_s, b4, bn_s, b5, bn_s, c5.2.1, c5.2.2.1]
    exact ⟨_, p5, r5, rfl, rfl, ⟨_, c5⟩, d5⟩
  · rw [if_neg (by rw [nj_le_l (by omega) (by omega)]; exact q), if_neg (by rw [nj_le_l (by omega) (by omega)]; exact q)]
    exact ⟨_, p, r, rfl, rfl, ⟨n, h⟩, c⟩
theorem st_back {p r : Mem} (h : Tp p r) (x : Int32) : ∃ v p' r', P_back x p = some (v, p') ∧ R_back x r = some (v, r') ∧ Tp p' r' ∧ TpC p r p' r' := by
  obtain ⟨n, h⟩ := h
  have c : TpC p r p r := ⟨Ch.rfl, rfl, rfl, Ch.rfl, rfl⟩
  have hn := h.1
  unfold P_back R_back
  by_cases q : x < 0
  · rw [if_pos q, if_pos q]
    exact ⟨_, p, r, rfl, rfl, ⟨n, h⟩, c⟩
  · rw [if_neg q, if_neg q, h.2.1, h.2.2.1]
    obtain ⟨k, hk, rfl⟩ := nj_of (Int32.not_lt.mp q)
    by_cases w : k ≤ n
    · rw [if_pos (by rw [nj_le (by omega) (by omega)]; exact w), if_pos (by rw [nj_le (by omega) (by omega)]; exact w), vb_e, vb_e, nj_sub w, k_mI_sI_e, up1_ap, if_pos rfl, k_mI_sI_e, up1_ap, if_pos rfl]
      refine ⟨_, _, _, rfl, rfl, ⟨n - k, by omega, by rw [k_mI_sI_e, up1_ap, if_pos rfl], by rw [k_mI_sI_e, up1_ap, if_pos rfl], fun i hi => ?_⟩, Ch.rfl.sI (by decide), by simp only [k_aI_wI_e, k_aI_wI, k_aI_wL, k_aI_wR, k_aI_sI, k_aI_sL, k_aI_sR, k_aI_nw, k_aL_wL_e, k_aL_wL, k_aL_wI, k_aL_wR, k_aL_sI, k_aL_sL, k_aL_sR, k_aL_nw, k_aR_wR_e, k_aR_wR, k_aR_wI, k_aR_wL, k_aR_sI, k_aR_sL, k_aR_sR, k_aR_nw, k_mI_sI_e, k_mI_sI, k_mI_wI, k_mI_wL, k_mI_wR, k_mI_sL, k_mI_sR, k_mI_nw, k_mL_sL_e, k_mL_sL, k_mL_wI, k_mL_wL, k_mL_wR, k_mL_sI, k_mL_sR, k_mL_nw, k_mR_sR_e, k_mR_sR, k_mR_wI, k_mR_wL, k_mR_wR, k_mR_sI, k_mR_sL, k_mR_nw, k_mT_wI, k_mT_wL, k_mT_wR, k_mT_sI, k_mT_sL, k_mT_sR, k_mT_nw, k_mN_wI, k_mN_wL, k_mN_wR, k_mN_sI, k_mN_sL, k_mN_sR, k_mN_nw, k_mC_wI, k_mC_wL, k_mC_wR, k_mC_sI, k_mC_sL, k_mC_sR, k_mC_nw, k_mS_wI, k_mS_wL, k_mS_wR, k_mS_sI, k_mS_sL, k_mS_sR, k_mS_nw, k_zF_1, k_zF_3, k_zF_11, k_zF_32, k_zF_36, k_zA_1, k_zA_3, k_zA_11, k_zA_32, k_zA_36, k_mT_fil, k_mN_fil, k_mI_fil, k_mL_fil, k_mR_fil, k_aL_fil, k_aR_fil, k_mC_fil, k_mS_fil, k_aI_fil_e, k_aI_fil], by simp only [k_aI_wI_e, k_aI_wI, k_aI_wL, k_aI_wR, k_aI_sI, k_aI_sL, k_aI_sR, k_aI_nw, k_aL_wL_e, k_aL_wL, k_aL_wI, k_aL_wR, k_aL_sI, k_aL_sL, k_aL_sR, k_aL_nw, k_aR_wR_e, k_aR_wR, k_aR_wI, k_aR_wL, k_aR_sI, k_aR_sL, k_aR_sR, k_aR_nw, k_mI_sI_e, k_mI_sI, k_mI_wI, k_mI_wL, k_mI_wR, k_mI_sL, k_mI_sR, k_mI_nw, k_mL_sL_e, k_mL_sL, k_mL_wI, k_mL_wL, k_mL_wR, k_mL_sI, k_mL_sR, k_mL_nw, k_mR_sR_e, k_mR_sR, k_mR_wI, k_mR_wL, k_mR_wR, k_mR_sI, k_mR_sL, k_mR_nw, k_mT_wI, k_mT_wL, k_mT_wR, k_mT_sI, k_mT_sL, k_mT_sR, k_mT_nw, k_mN_wI, k_mN_wL, k_mN_wR, k_mN_sI, k_mN_sL, k_mN_sR, k_mN_nw, k_mC_wI, k_mC_wL, k_mC_wR, k_mC_sI, k_mC_sL, k_mC_sR, k_mC_nw, k_mS_wI, k_mS_wL, k_mS_wR, k_mS_sI, k_mS_sL, k_mS_sR, k_mS_nw, k_zF_1, k_zF_3, k_zF_11, k_zF_32, k_zF_36, k_zA_1, k_zA_3, k_zA_11, k_zA_32, k_zA_36, k_mT_fil, k_mN_fil, k_mI_fil, k_mL_fil, k_mR_fil, k_aL_fil, k_aR_fil, k_mC_fil, k_mS_fil, k_aI_fil_e, k_aI_fil], Ch.rfl.sI (by decide), by simp only [k_aI_wI_e, k_aI_wI, k_aI_wL, k_aI_wR, k_aI_sI, k_aI_sL, k_aI_sR, k_aI_nw, k_aL_wL_e, k_aL_wL, k_aL_wI, k_aL_wR, k_aL_sI, k_aL_sL, k_aL_sR, k_aL_nw, k_aR_wR_e, k_aR_wR, k_aR_wI, k_aR_wL, k_aR_sI, k_aR_sL, k_aR_sR, k_aR_nw, k_mI_sI_e, k_mI_sI, k_mI_wI, k_mI_wL, k_mI_wR, k_mI_sL, k_mI_sR, k_mI_nw, k_mL_sL_e, k_mL_sL, k_mL_wI, k_mL_wL, k_mL_wR, k_mL_sI, k_mL_sR, k_mL_nw, k_mR_sR_e, k_mR_sR, k_mR_wI, k_mR_wL, k_mR_wR, k_mR_sI, k_mR_sL, k_mR_nw, k_mT_wI, k_mT_wL, k_mT_wR, k_mT_sI, k_mT_sL, k_mT_sR, k_mT_nw, k_mN_wI, k_mN_wL, k_mN_wR, k_mN_sI, k_mN_sL, k_mN_sR, k_mN_nw, k_mC_wI, k_mC_wL, k_mC_wR, k_mC_sI, k_mC_sL, k_mC_sR, k_mC_nw, k_mS_wI, k_mS_wL, k_mS_wR, k_mS_sI, k_mS_sL, k_mS_sR, k_mS_nw, k_zF_1, k_zF_3, k_zF_11, k_zF_32, k_zF_36, k_zA_1, k_zA_3, k_zA_11, k_zA_32, k_zA_36, k_mT_fil, k_mN_fil, k_mI_fil, k_mL_fil, k_mR_fil, k_aL_fil, k_aR_fil, k_mC_fil, k_mS_fil, k_aI_fil_e, k_aI_fil]⟩
      rw [k_aI_sI, k_aI_sI]
      exact h.2.2.2 i (by omega)
    · rw [if_neg (by rw [nj_le (by omega) (by omega)]; exact w), if_neg (by rw [nj_le (by omega) (by omega)]; exact w)]
      exact ⟨_, p, r, rfl, rfl, ⟨n, h⟩, c⟩
