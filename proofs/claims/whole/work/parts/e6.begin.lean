/-! Layer C: a TEXT is read: how it begins on both sides -/
theorem and255 (y : Int32) : ∃ b, b < 256 ∧ y &&& 255 = nj b := by
  refine ⟨y.toBitVec.toNat % 256, Nat.mod_lt _ (by decide), ?_⟩
  apply Int32.toBitVec.inj
  rw [Int32.toBitVec_and]
  apply BitVec.eq_of_toNat_eq
  show (y.toBitVec &&& (255 : Int32).toBitVec).toNat = (BitVec.ofNat 32 (y.toBitVec.toNat % 256)).toNat
  rw [BitVec.toNat_and, BitVec.toNat_ofNat]
  have e : (255 : Int32).toBitVec.toNat = 2 ^ 8 - 1 := by decide
  rw [e, Nat.and_two_pow_sub_one_eq_mod]
  omega
theorem byte1_e (y : Int32) : (Int32.toInt8 y).toInt32 &&& 255 = y &&& 255 := by
  apply Int32.toBitVec.inj
  rw [Int32.toBitVec_and, Int32.toBitVec_and]
  apply BitVec.eq_of_getLsbD_eq
  intro i hi
  rw [BitVec.getLsbD_and, BitVec.getLsbD_and]
  have h255 : (255 : Int32).toBitVec.getLsbD i = decide (i < 8) := by
    have : ∀ i, i < 32 → (255 : Int32).toBitVec.getLsbD i = decide (i < 8) := by decide
    exact this i hi
  rw [h255]
  by_cases z : i < 8
  · rw [decide_eq_true z, Bool.and_true, Bool.and_true]
    simp only [Int8.toBitVec_toInt32, Int32.toBitVec_toInt8, BitVec.getLsbD_signExtend, BitVec.getLsbD_setWidth]
    simp [z, hi]
  · rw [decide_eq_false z, Bool.and_false, Bool.and_false]
/-- the tape as bytes -/
theorem tape_by {p r : Mem} {n : Nat} (h : TpN p r n) : ∃ by' : Nat → Nat, ∀ i, i < n → by' i < 256 ∧ aI p 17 i = nj (by' i) ∧ aI r 1 i &&& 255 = nj (by' i) := by
  refine ⟨fun i => ix (aI p 17 i), fun i hi => ?_⟩
  obtain ⟨b, b1, b2⟩ := and255 (aI r 1 i)
  have e : aI p 17 i = nj b := by rw [h.2.2.2 i hi]; exact b2
  show ix (aI p 17 i) < 256 ∧ aI p 17 i = nj (ix (aI p 17 i)) ∧ aI r 1 i &&& 255 = nj (ix (aI p 17 i))
  rw [e, ix_nj (by omega)]
  exact ⟨b1, rfl, b2⟩
/-- the reference copies the tape -/
def Cpy (n i : Nat) (r m : Mem) : Prop := Ch [] [2] nil r m ∧ mC m = mC r ∧ mS m = mS r ∧ ∀ j, j < i → aI m 2 j = (Int32.toInt8 (aI r 1 j)).toInt32
theorem copy_s {n i : Nat} {r m : Mem} (h : Cpy n i r m) (h82 : 82 ≤ mC r) : Cpy n (i + 1) r (wI m 2 i ((Int32.toInt8 (aI m 1 i)).toInt32)) := by
  obtain ⟨c1, c2, c3, c4⟩ := h
  have e1 : aI m 1 = aI r 1 := c1.ai (by decide) (fun z => z) (by omega)
  refine ⟨c1.wI (Or.inl (by decide)), c2, c3, fun j hj => ?_⟩
  rw [k_aI_wI_e, up1_ap]
  by_cases z : j = i
  · rw [if_pos z, e1, z]
  · rw [if_neg z]; exact c4 j (by omega)
theorem read32_e {n : Nat} {r : Mem} (hn : n ≤ 2000) (h82 : 82 ≤ mC r) (h40 : mI r 1540 0 = nj n) : ∀ (d i fu : Nat) (m : Mem), i + d = n → d < fu → Cpy n i r m → ∃ m', R_read_32 fu (nj i) m = R_read_58 m' ∧ Cpy n n r m'
  | 0, i, fu + 1, m, h, _, hc => by
    rw [R_read_32.eq_2, hc.1.i (by decide) (by omega), h40, if_pos (by rw [nj_le (by omega) (by omega)]; omega)]
    exact ⟨m, rfl, by rw [show i = n by omega] at hc; exact hc⟩
  | d + 1, i, fu + 1, m, h, hf, hc => by
    rw [R_read_32.eq_2, hc.1.i (by decide) (by omega), h40, if_neg (by rw [nj_le (by omega) (by omega)]; omega), inb_nj (by omega), gd_t (decide_eq_true (by omega)), gd_t (decide_eq_true (by omega)), vb_e, vb_e, nj_add_l, ix_nj (by omega)]
    exact read32_e hn h82 h40 d (i + 1) fu _ (by omega) (by omega) (copy_s hc h82)
theorem named10_e {n : Nat} {r : Mem} (hn : n ≤ 2000) (h82 : 82 ≤ mC r) (h40 : mI r 1540 0 = nj n) : ∀ (d i fu : Nat) (m : Mem), i + d = n → d < fu → Cpy n i r m → ∃ m', R_named_10 fu (nj i) m = R_named_36 m' ∧ Cpy n n r m'
  | 0, i, fu + 1, m, h, _, hc => by
    rw [R_named_10.eq_2, hc.1.i (by decide) (by omega), h40, if_pos (by rw [nj_le (by omega) (by omega)]; omega)]
    exact ⟨m, rfl, by rw [show i = n by omega] at hc; exact hc⟩
  | d + 1, i, fu + 1, m, h, hf, hc => by
    rw [R_named_10.eq_2, hc.1.i (by decide) (by omega), h40, if_neg (by rw [nj_le (by omega) (by omega)]; omega), inb_nj (by omega), gd_t (decide_eq_true (by omega)), gd_t (decide_eq_true (by omega)), vb_e, vb_e, nj_add_l, ix_nj (by omega)]
    exact named10_e hn h82 h40 d (i + 1) fu _ (by omega) (by omega) (copy_s hc h82)
/-- both scan the same tape -/
theorem scan_both {p r p1 r1 : Mem} {n : Nat} (h : TpN p r n) (h51 : 51 ≤ mC p) (h82 : 82 ≤ mC r) (hk : KyOk (aL p 21) (aL r 7)) (h641 : mI p1 641 16 = nj n) (h17 : aI p1 17 = aI p 17) (h21 : aL p1 21 = aL p 21) (c1 : mC p1 = mC p) (h40 : mI r1 1540 0 = nj n) (h2 : ∀ j, j < n → aI r1 2 j = (Int32.toInt8 (aI r 1 j)).toInt32) (h7 : aL r1 7 = aL r 7) (c2 : mC r1 = mC r) :
    ∃ N kd pl p2 r2 T', P_Lexer_scan p1 = some ((), p2) ∧ R_cut r1 = some ((), r2) ∧ Toks p2 r2 N kd pl ∧ Ch [646] [18, 19, 20] nil p1 p2 ∧ mC p2 = mC p1 ∧ mS p2 = mS p1 ∧ Ch [1546] [3, 4, 5, 6] nil r1 r2 ∧ mC r2 = mC r1 ∧ mS r2 = mS r1 ∧ mI r2 1546 0 = nj T' ∧ T' ≤ 501 ∧ N ≤ T' ∧ (T' < 501 → kd (T' - 1) = 0) ∧ ∀ i, i + 1 < T' → kd i ≠ 0 := by
  obtain ⟨by', hb⟩ := tape_by h
  have hn := h.1
  have c646 : Ch [646] [18, 19, 20] nil p1 (sI p1 646 16 0) := Ch.rfl.sI (by decide)
  obtain ⟨p2, a1, a2, a3, a4, a5⟩ := P_scan_9_e (by' := by') (n := n) (wd := aL p 21) 501 0 FU 0 (sI p1 646 16 0) ⟨hn, by rw [k_mI_sI (by omega)]; exact h641, fun i hi => ⟨(hb i hi).1, by rw [k_aI_sI, h17]; exact (hb i hi).2.1⟩⟩ (by rw [k_mC_sI]; omega) (by rw [k_aL_sI]; exact h21) (by rw [k_mI_sI_e, up1_ap, if_pos rfl]; rfl) (by omega) rfl (by omega) (by unfold FU; omega) (fun i hi => absurd hi (Nat.not_lt_zero i))
  obtain ⟨r2, b1, b2⟩ := R_cut_e (m := r1) (by' := by') (n := n) (wd := aL p 21) ⟨hn, h40, fun i hi => ⟨(hb i hi).1, by rw [h2 i hi, byte1_e]; exact (hb i hi).2.2⟩⟩ (by omega) (by rw [h7]; exact hk)
  obtain ⟨t1, T', t2, t3, t4, t5, t6⟩ := toks_e (fun i hi => (hb i hi).1) hn a5 b2
  refine ⟨_, _, _, p2, r2, T', ?_, b1, t1, Ch.trans c646 a2, by rw [a3, k_mC_sI], by rw [a4, k_mS_sI], b2.1, b2.2.1, b2.2.2.1, t2, t3, t4, t5, t6⟩
  unfold P_Lexer_scan
  rw [vb_e]
  exact a1
