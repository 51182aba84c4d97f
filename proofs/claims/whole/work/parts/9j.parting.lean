/-! Layer C: parting answers alike -/
theorem R_parting_49_e {x : Nat} (hx : x < 65536) (h7 : popN x 16 ≤ 7) {x2 x3 : Int32} : ∀ (k j fu : Nat) (m : Mem), j + k = 16 → k < fu → (∀ i, i < popN x j → aI m 77 i = nj ((tkL x j).getD i 0)) →
    ∃ m', R_parting_49 fu (nj x) x2 x3 (nj (popN x j)) (nj j) m = R_parting_86 x2 x3 (nj (popN x 16)) m' ∧ (Ch [] [77] nil m m' ∧ mC m' = mC m ∧ mS m' = mS m) ∧ ∀ i, i < popN x 16 → aI m' 77 i = nj ((tkL x 16).getD i 0)
  | 0, j, fu + 1, m, h1, _, h4 => by
    rw [R_parting_49.eq_2, if_pos (by rw [nj_l_le (by omega) (by omega)]; omega)]
    have e : j = 16 := by omega
    rw [e] at h4 ⊢
    exact ⟨m, rfl, ⟨Ch.rfl, rfl, rfl⟩, h4⟩
  | k + 1, j, fu + 1, m, h1, h2, h4 => by
    have hm := popN_mono (x := x) 16 (show j + 1 ≤ 16 by omega)
    have hp := popN_s x j
    rw [R_parting_49.eq_2, if_neg (by rw [nj_l_le (by omega) (by omega)]; omega), nj_bit (by omega) (by omega)]
    have e1 : (nj ((x >>> j) % 2) = 0) = ((x >>> j) % 2 = 0) := nj_eq_l (by omega) (by omega)
    simp only [e1]
    unfold R_parting_80
    have e : tkL x (j + 1) = if (x >>> j) % 2 = 1 then tkL x j ++ [j] else tkL x j := rfl
    by_cases z : (x >>> j) % 2 = 0
    · rw [if_pos z, vb_e, nj_add_l]
      have e0 : popN x (j + 1) = popN x j := by omega
      have ih := R_parting_49_e hx h7 (x2 := x2) (x3 := x3) k (j + 1) fu m (by omega) (by omega) (by rw [e0, e, if_neg (by omega)]; exact h4)
      rw [e0] at ih
      exact ih
    · have z1 : (x >>> j) % 2 = 1 := by omega
      rw [if_neg z, inb_nj (by omega), gd_t (decide_eq_true (by omega)), vb_e, vb_e, vb_e, nj_add_l, nj_add_l, ix_nj (by omega)]
      rw [z1] at hp
      obtain ⟨m', i1, i2, i3⟩ := R_parting_49_e hx h7 (x2 := x2) (x3 := x3) k (j + 1) fu (wI m 77 (popN x j) (nj j)) (by omega) (by omega) (fun i hi => by
        rw [hp] at hi
        rw [k_aI_wI_e, up1_ap, e, if_pos z1, tkL_app (by omega)]
        by_cases w : i = popN x j
        · rw [if_pos w, if_pos w]
        · rw [if_neg w, if_neg w]
          exact h4 i (by omega))
      rw [hp] at i1
      exact ⟨m', i1, ⟨Ch.trans (Ch.rfl.wI (Or.inl (by decide))) i2.1, i2.2.1.trans (by simp only [k_aI_wI_e, k_aI_wI, k_aI_wL, k_aI_wR, k_aI_sI, k_aI_sL, k_aI_sR, k_aI_nw, k_aL_wL_e, k_aL_wL, k_aL_wI, k_aL_wR, k_aL_sI, k_aL_sL, k_aL_sR, k_aL_nw, k_aR_wR_e, k_aR_wR, k_aR_wI, k_aR_wL, k_aR_sI, k_aR_sL, k_aR_sR, k_aR_nw, k_mI_sI_e, k_mI_sI, k_mI_wI, k_mI_wL, k_mI_wR, k_mI_sL, k_mI_sR, k_mI_nw, k_mL_sL_e, k_mL_sL, k_mL_wI, k_mL_wL, k_mL_wR, k_mL_sI, k_mL_sR, k_mL_nw, k_mR_sR_e, k_mR_sR, k_mR_wI, k_mR_wL, k_mR_wR, k_mR_sI, k_mR_sL, k_mR_nw, k_mT_wI, k_mT_wL, k_mT_wR, k_mT_sI, k_mT_sL, k_mT_sR, k_mT_nw, k_mN_wI, k_mN_wL, k_mN_wR, k_mN_sI, k_mN_sL, k_mN_sR, k_mN_nw, k_mC_wI, k_mC_wL, k_mC_wR, k_mC_sI, k_mC_sL, k_mC_sR, k_mC_nw, k_mS_wI, k_mS_wL, k_mS_wR, k_mS_sI, k_mS_sL, k_mS_sR, k_mS_nw, k_zF_1, k_zF_3, k_zF_11, k_zF_32, k_zF_36, k_zA_1, k_zA_3, k_zA_11, k_zA_32, k_zA_36, k_mT_fil, k_mN_fil, k_mI_fil, k_mL_fil, k_mR_fil, k_aL_fil, k_aR_fil, k_mC_fil, k_mS_fil, k_aI_fil_e, k_aI_fil]), i2.2.2.trans (by simp only [k_aI_wI_e, k_aI_wI, k_aI_wL, k_aI_wR, k_aI_sI, k_aI_sL, k_aI_sR, k_aI_nw, k_aL_wL_e, k_aL_wL, k_aL_wI, k_aL_wR, k_aL_sI, k_aL_sL, k_aL_sR, k_aL_nw, k_aR_wR_e, k_aR_wR, k_aR_wI, k_aR_wL, k_aR_sI, k_aR_sL, k_aR_sR, k_aR_nw, k_mI_sI_e, k_mI_sI, k_mI_wI, k_mI_wL, k_mI_wR, k_mI_sL, k_mI_sR, k_mI_nw, k_mL_sL_e, k_mL_sL, k_mL_wI, k_mL_wL, k_mL_wR, k_mL_sI, k_mL_sR, k_mL_nw, k_mR_sR_e, k_mR_sR, k_mR_wI, k_mR_wL, k_mR_wR, k_mR_sI, k_mR_sL, k_mR_nw, k_mT_wI, k_mT_wL, k_mT_wR, k_mT_sI, k_mT_sL, k_mT_sR, k_mT_nw, k_mN_wI, k_mN_wL, k_mN_wR, k_mN_sI, k_mN_sL, k_mN_sR, k_mN_nw, k_mC_wI, k_mC_wL, k_mC_wR, k_mC_sI, k_mC_sL, k_mC_sR, k_mC_nw, k_mS_wI, k_mS_wL, k_mS_wR, k_mS_sI, k_mS_sL, k_mS_sR, k_mS_nw, k_zF_1, k_zF_3, k_zF_11, k_zF_32, k_zF_36, k_zA_1, k_zA_3, k_zA_11, k_zA_32, k_zA_36, k_mT_fil, k_mN_fil, k_mI_fil, k_mL_fil, k_mR_fil, k_aL_fil, k_aR_fil, k_mC_fil, k_mS_fil, k_aI_fil_e, k_aI_fil])⟩, i3⟩
theorem R_parting_95_e {s : Nat} (hs : s ≤ 7) {x2 x3 x5 x6 : Int32} : ∀ (k j fu : Nat) (m : Mem), j + k = s → k < fu → ∃ m', R_parting_95 fu x2 x3 (nj s) x5 x6 (nj j) m = R_parting_116 x2 x3 (nj s) x5 x6 m' ∧ RJ m m' ∧ ∀ i, aI m' 78 i = if j ≤ i ∧ i < s then nj 0 else aI m 78 i
  | 0, j, fu + 1, m, h1, _ => by
    rw [R_parting_95.eq_2, if_pos (by rw [nj_le (by omega) (by omega)]; omega)]
    exact ⟨m, rfl, ⟨Ch.rfl, rfl, rfl⟩, fun i => by rw [if_neg (by omega)]⟩
  | k + 1, j, fu + 1, m, h1, h2 => by
    rw [R_parting_95.eq_2, if_neg (by rw [nj_le (by omega) (by omega)]; omega), inb_nj (by omega), gd_t (decide_eq_true (by omega)), vb_e, vb_e, nj_add_l, ix_nj (by omega)]
    obtain ⟨m', i1, i2, i3⟩ := R_parting_95_e hs (x2 := x2) (x3 := x3) (x5 := x5) (x6 := x6) k (j + 1) fu (wI m 78 j 0) (by omega) (by omega)
    refine ⟨m', i1, ⟨Ch.trans (Ch.rfl.wI (Or.inl (by decide))) i2.1, i2.2.1.trans (by simp only [k_aI_wI_e, k_aI_wI, k_aI_wL, k_aI_wR, k_aI_sI, k_aI_sL, k_aI_sR, k_aI_nw, k_aL_wL_e, k_aL_wL, k_aL_wI, k_aL_wR, k_aL_sI, k_aL_sL, k_aL_sR, k_aL_nw, k_aR_wR_e, k_aR_wR, k_aR_wI, k_aR_wL, k_aR_sI, k_aR_sL, k_aR_sR, k_aR_nw, k_mI_sI_e, k_mI_sI, k_mI_wI, k_mI_wL, k_mI_wR, k_mI_sL, k_mI_sR, k_mI_nw, k_mL_sL_e, k_mL_sL, k_mL_wI, k_mL_wL, k_mL_wR, k_mL_sI, k_mL_sR, k_mL_nw, k_mR_sR_e, k_mR_sR, k_mR_wI, k_mR_wL, k_mR_wR, k_mR_sI, k_mR_sL, k_mR_nw, k_mT_wI, k_mT_wL, k_mT_wR, k_mT_sI, k_mT_sL, k_mT_sR, k_mT_nw, k_mN_wI, k_mN_wL, k_mN_wR, k_mN_sI, k_mN_sL, k_mN_sR, k_mN_nw, k_mC_wI, k_mC_wL, k_mC_wR, k_mC_sI, k_mC_sL, k_mC_sR, k_mC_nw, k_mS_wI, k_mS_wL, k_mS_wR, k_mS_sI, k_mS_sL, k_mS_sR, k_mS_nw, k_zF_1, k_zF_3, k_zF_11, k_zF_32, k_zF_36, k_zA_1, k_zA_3, k_zA_11, k_zA_32, k_zA_36, k_mT_fil, k_mN_fil, k_mI_fil, k_mL_fil, k_mR_fil, k_aL_fil, k_aR_fil, k_mC_fil, k_mS_fil, k_aI_fil_e, k_aI_fil]), i2.2.2.trans (by simp only [k_aI_wI_e, k_aI_wI, k_aI_wL, k_aI_wR, k_aI_sI, k_aI_sL, k_aI_sR, k_aI_nw, k_aL_wL_e, k_aL_wL, k_aL_wI, k_aL_wR, k_aL_sI, k_aL_sL, k_aL_sR, k_aL_nw, k_aR_wR_e, k_aR_wR, k_aR_wI, k_aR_wL, k_aR_sI, k_aR_sL, k_aR_sR, k_aR_nw, k_mI_sI_e, k_mI_sI, k_mI_wI, k_mI_wL, k_mI_wR, k_mI_sL, k_mI_sR, k_mI_nw, k_mL_sL_e, k_mL_sL, k_mL_wI, k_mL_wL, k_mL_wR, k_mL_sI, k_mL_sR, k_mL_nw, k_mR_sR_e, k_mR_sR, k_mR_wI, k_mR_wL, k_mR_wR, k_mR_sI, k_mR_sL, k_mR_nw, k_mT_wI, k_mT_wL, k_mT_wR, k_mT_sI, k_mT_sL, k_mT_sR, k_mT_nw, k_mN_wI, k_mN_wL, k_mN_wR, k_mN_sI, k_mN_sL, k_mN_sR, k_mN_nw, k_mC_wI, k_mC_wL, k_mC_wR, k_mC_sI, k_mC_sL, k_mC_sR, k_mC_nw, k_mS_wI, k_mS_wL, k_mS_wR, k_mS_sI, k_mS_sL, k_mS_sR, k_mS_nw, k_zF_1, k_zF_3, k_zF_11, k_zF_32, k_zF_36, k_zA_1, k_zA_3, k_zA_11, k_zA_32, k_zA_36, k_mT_fil, k_mN_fil, k_mI_fil, k_mL_fil, k_mR_fil, k_aL_fil, k_aR_fil, k_mC_fil, k_mS_fil, k_aI_fil_e, k_aI_fil])⟩, fun i => ?_⟩
    rw [i3, k_aI_wI_e, up1_ap]
    by_cases z : i = j
    · rw [if_neg (by omega), if_pos z, if_pos (by omega)]
      rfl
    · by_cases y : j + 1 ≤ i ∧ i < s
      · rw [if_pos y, if_pos (by omega)]
      · rw [if_neg y, if_neg z, if_neg (by omega)]
theorem R_parting_342_e {x4 x5 : Int32} : ∀ (k j fu : Nat) (m : Mem), j + k = 16 → k < fu → ∃ m', R_parting_342 fu x4 x5 (nj j) m = R_parting_363 x4 x5 m' ∧ (Ch [] [75] nil m m' ∧ mC m' = mC m ∧ mS m' = mS m) ∧ ∀ i, aI m' 75 i = if j ≤ i ∧ i < 16 then -1 else aI m 75 i
  | 0, j, fu + 1, m, h1, _ => by
    rw [R_parting_342.eq_2, if_pos (by rw [nj_l_le (by omega) (by omega)]; omega)]
    exact ⟨m, rfl, ⟨Ch.rfl, rfl, rfl⟩, fun i => by rw [if_neg (by omega)]⟩
  | k + 1, j, fu + 1, m, h1, h2 => by
    rw [R_parting_342.eq_2, if_neg (by rw [nj_l_le (by omega) (by omega)]; omega), inb_nj (by omega), gd_t (decide_eq_true (by omega)), vb_e, vb_e, nj_add_l, ix_nj (by omega)]
    obtain ⟨m', i1, i2, i3⟩ := R_parting_342_e (x4 := x4) (x5 := x5) k (j + 1) fu (wI m 75 j (-1)) (by omega) (by omega)
    refine ⟨m', i1, ⟨Ch.trans (Ch.rfl.wI (Or.inl (by decide))) i2.1, i2.2.1.trans (by simp only [k_aI_wI_e, k_aI_wI, k_aI_wL, k_aI_wR, k_aI_sI, k_aI_sL, k_aI_sR, k_aI_nw, k_aL_wL_e, k_aL_wL, k_aL_wI, k_aL_wR, k_aL_sI, k_aL_sL, k_aL_sR, k_aL_nw, k_aR_wR_e, k_aR_wR, k_aR_wI, k_aR_wL, k_aR_sI, k_aR_sL, k_aR_sR, k_aR_nw, k_mI_sI_e, k_mI_sI, k_mI_wI, k_mI_wL, k_mI_wR, k_mI_sL, k_mI_sR, k_mI_nw, k_mL_sL_e, k_mL_sL, k_mL_wI, k_mL_wL, k_mL_wR, k_mL_sI, k_mL_sR, k_mL_nw, k_mR_sR_e, k_mR_sR, k_mR_wI, k_mR_wL, k_mR_wR, k_mR_sI, k_mR_sL, k_mR_nw, k_mT_wI, k_mT_wL, k_mT_wR, k_mT_sI, k_mT_sL, k_mT_sR, k_mT_nw, k_mN_wI, k_mN_wL, k_mN_wR, k_mN_sI, k_mN_sL, k_mN_sR, k_mN_nw, k_mC_wI, k_mC_wL, k_mC_wR, k_mC_sI, k_mC_sL, k_mC_sR, k_mC_nw, k_mS_wI, k_mS_wL, k_mS_wR, k_mS_sI, k_mS_sL, k_mS_sR, k_mS_nw, k_zF_1, k_zF_3, k_zF_11, k_zF_32, k_zF_36, k_zA_1, k_zA_3, k_zA_11, k_zA_32, k_zA_36, k_mT_fil, k_mN_fil, k_mI_fil, k_mL_fil, k_mR_fil, k_aL_fil, k_aR_fil, k_mC_fil, k_mS_fil, k_aI_fil_e, k_aI_fil]), i2.2.2.trans (by simp only [k_aI_wI_e, k_aI_wI, k_aI_wL, k_aI_wR, k_aI_sI, k_aI_sL, k_aI_sR, k_aI_nw, k_aL_wL_e, k_aL_wL, k_aL_wI, k_aL_wR, k_aL_sI, k_aL_sL, k_aL_sR, k_aL_nw, k_aR_wR_e, k_aR_wR, k_aR_wI, k_aR_wL, k_aR_sI, k_aR_sL, k_aR_sR, k_aR_nw, k_mI_sI_e, k_mI_sI, k_mI_wI, k_mI_wL, k_mI_wR, k_mI_sL, k_mI_sR, k_mI_nw, k_mL_sL_e, k_mL_sL, k_mL_wI, k_mL_wL, k_mL_wR, k_mL_sI, k_mL_sR, k_mL_nw, k_mR_sR_e, k_mR_sR, k_mR_wI, k_mR_wL, k_mR_wR, k_mR_sI, k_mR_sL, k_mR_nw, k_mT_wI, k_mT_wL, k_mT_wR, k_mT_sI, k_mT_sL, k_mT_sR, k_mT_nw, k_mN_wI, k_mN_wL, k_mN_wR, k_mN_sI, k_mN_sL, k_mN_sR, k_mN_nw, k_mC_wI, k_mC_wL, k_mC_wR, k_mC_sI, k_mC_sL, k_mC_sR, k_mC_nw, k_mS_wI, k_mS_wL, k_mS_wR, k_mS_sI, k_mS_sL, k_mS_sR, k_mS_nw, k_zF_1, k_zF_3, k_zF_11, k_zF_32, k_zF_36, k_zA_1, k_zA_3, k_zA_11, k_zA_32, k_zA_36, k_mT_fil, k_mN_fil, k_mI_fil, k_mL_fil, k_mR_fil, k_aL_fil, k_aR_fil, k_mC_fil, k_mS_fil, k_aI_fil_e, k_aI_fil])⟩, fun i => ?_⟩
    rw [i3, k_aI_wI_e, up1_ap]
    by_cases z : i = j
    · rw [if_neg (by omega), if_pos z, if_pos (by omega)]
    · by_cases y : j + 1 ≤ i ∧ i < 16
      · rw [if_pos y, if_pos (by omega)]
      · rw [if_neg y, if_neg z, if_neg (by omega)]
theorem R_parting_366_e {s : Nat} {mb o w : Nat → Nat} {m0 : Mem} {x5 : Int32} (hs : s ≤ 7) (hmb : ∀ i, i < s → mb i < 16) : ∀ (k j fu : Nat) (m : Mem), j + k = s → k < fu → (∀ i, i < s → aI m 77 i = nj (mb i) ∧ aI m 80 i = nj (o i) ∧ aI m 81 i = nj (w i)) →
    (∀ t, aI m 75 t = rmV (aI m0 75 t) o (rmI mb t j) ∧ aI m 76 t = rmV (aI m0 76 t) w (rmI mb t j)) →
    ∃ m', R_parting_366 fu (nj s) x5 (nj j) m = R_parting_417 x5 m' ∧ (Ch [] [75, 76] nil m m' ∧ mC m' = mC m ∧ mS m' = mS m) ∧ ∀ t, aI m' 75 t = rmV (aI m0 75 t) o (rmI mb t s) ∧ aI m' 76 t = rmV (aI m0 76 t) w (rmI mb t s)
  | 0, j, fu + 1, m, h1, _, h4, h5 => by
    rw [R_parting_366.eq_2, if_pos (by rw [nj_le (by omega) (by omega)]; omega)]
    have e : j = s := by omega
    rw [e] at h5
    exact ⟨m, rfl, ⟨Ch.rfl, rfl, rfl⟩, h5⟩
  | k + 1, j, fu + 1, m, h1, h2, h4, h5 => by
    have hj := h4 j (by omega)
    have hm := hmb j (by omega)
    have g : ∀ {β : Type} (z : Option β), gd (inb (nj j) 7) z = z := fun z => by rw [inb_nj (by omega), gd_t (decide_eq_true (by omega))]
    have g2 : ∀ {β : Type} (z : Option β), gd (inb (nj (mb j)) 16) z = z := fun z => by rw [inb_nj (by omega), gd_t (decide_eq_true (by omega))]
    rw [R_parting_366.eq_2, if_neg (by rw [nj_le (by omega) (by omega)]; omega), g, g, ix_nj (show j < 2147483648 by omega), hj.1, g2, vb_e, g, g, hj.2.1, k_aI_wI (by omega), k_aI_wI (by omega), hj.1, g2, vb_e, vb_e, hj.2.2, nj_add_l, ix_nj (show mb j < 2147483648 by omega)]
    obtain ⟨m', i1, i2, i4⟩ := R_parting_366_e (w := w) (m0 := m0) (x5 := x5) hs hmb k (j + 1) fu (wI (wI m 75 (mb j) (nj (o j))) 76 (mb j) (nj (w j))) (by omega) (by omega) (by rw [k_aI_wI (by omega), k_aI_wI (by omega), k_aI_wI (by omega), k_aI_wI (by omega), k_aI_wI (by omega), k_aI_wI (by omega)]; exact h4) (fun t => by
      have e : rmI mb t (j + 1) = if mb j = t then some j else rmI mb t j := rfl
      rw [k_aI_wI (show 75 ≠ 76 by omega), k_aI_wI_e, up1_ap, k_aI_wI_e, up1_ap, k_aI_wI (show 76 ≠ 75 by omega), e]
      by_cases z : t = mb j
      · rw [if_pos z, if_pos z, if_pos z.symm]
        exact ⟨rfl, rfl⟩
      · rw [if_neg z, if_neg z, if_neg (fun y => z y.symm)]
        exact h5 t)
    exact ⟨m', i1, ⟨Ch.trans ((Ch.rfl.wI (Or.inl (by decide))).wI (Or.inl (by decide))) i2.1, i2.2.1.trans (by simp only [k_aI_wI_e, k_aI_wI, k_aI_wL, k_aI_wR, k_aI_sI, k_aI_sL, k_aI_sR, k_aI_nw, k_aL_wL_e, k_aL_wL, k_aL_wI, k_aL_wR, k_aL_sI, k_aL_sL, k_aL_sR, k_aL_nw, k_aR_wR_e, k_aR_wR, k_aR_wI, k_aR_wL, k_aR_sI, k_aR_sL, k_aR_sR, k_aR_nw, k_mI_sI_e, k_mI_sI, k_mI_wI, k_mI_wL, k_mI_wR, k_mI_sL, k_mI_sR, k_mI_nw, k_mL_sL_e, k_mL_sL, k_mL_wI, k_mL_wL, k_mL_wR, k_mL_sI, k_mL_sR, k_mL_nw, k_mR_sR_e, k_mR_sR, k_mR_wI, k_mR_wL, k_mR_wR, k_mR_sI, k_mR_sL, k_mR_nw, k_mT_wI, k_mT_wL, k_mT_wR, k_mT_sI, k_mT_sL, k_mT_sR, k_mT_nw, k_mN_wI, k_mN_wL, k_mN_wR, k_mN_sI, k_mN_sL, k_mN_sR, k_mN_nw, k_mC_wI, k_mC_wL, k_mC_wR, k_mC_sI, k_mC_sL, k_mC_sR, k_mC_nw, k_mS_wI, k_mS_wL, k_mS_wR, k_mS_sI, k_mS_sL, k_mS_sR, k_mS_nw, k_zF_1, k_zF_3, k_zF_11, k_zF_32, k_zF_36, k_zA_1, k_zA_3, k_zA_11, k_zA_32, k_zA_36, k_mT_fil, k_mN_fil, k_mI_fil, k_mL_fil, k_mR_fil, k_aL_fil, k_aR_fil, k_mC_fil, k_mS_fil, k_aI_fil_e, k_aI_fil]), i2.2.2.trans (by simp only [k_aI_wI_e, k_aI_wI, k_aI_wL, k_aI_wR, k_aI_sI, k_aI_sL, k_aI_sR, k_aI_nw, k_aL_wL_e, k_aL_wL, k_aL_wI, k_aL_wR, k_aL_sI, k_aL_sL, k_aL_sR, k_aL_nw, k_aR_wR_e, k_aR_wR, k_aR_wI, k_aR_wL, k_aR_sI, k_aR_sL, k_aR_sR, k_aR_nw, k_mI_sI_e, k_mI_sI, k_mI_wI, k_mI_wL, k_mI_wR, k_mI_sL, k_mI_sR, k_mI_nw, k_mL_sL_e, k_mL_sL, k_mL_wI, k_mL_wL, k_mL_wR, k_mL_sI, k_mL_sR, k_mL_nw, k_mR_sR_e, k_mR_sR, k_mR_wI, k_mR_wL, k_mR_wR, k_mR_sI, k_mR_sL, k_mR_nw, k_mT_wI, k_mT_wL, k_mT_wR, k_mT_sI, k_mT_sL, k_mT_sR, k_mT_nw, k_mN_wI, k_mN_wL, k_mN_wR, k_mN_sI, k_mN_sL, k_mN_sR, k_mN_nw, k_mC_wI, k_mC_wL, k_mC_wR, k_mC_sI, k_mC_sL, k_mC_sR, k_mC_nw, k_mS_wI, k_mS_wL, k_mS_wR, k_mS_sI, k_mS_sL, k_mS_sR, k_mS_nw, k_zF_1, k_zF_3, k_zF_11, k_zF_32, k_zF_36, k_zA_1, k_zA_3, k_zA_11, k_zA_32, k_zA_36, k_mT_fil, k_mN_fil, k_mI_fil, k_mL_fil, k_mR_fil, k_aL_fil, k_aR_fil, k_mC_fil, k_mS_fil, k_aI_fil_e, k_aI_fil])⟩, i4⟩
theorem R_divide_e {r : Mem} {x k d : Nat} {tv : Nat → Nat} {ap : Nat → Nat → Bool} (h0 : 0 < x) (hx : x < 65536) (h7 : popN x 16 ≤ 7) (hk : k < 100) (hd : d < 1000) (h60 : 82 ≤ mC r) (htv : ∀ t, tv t < 1000) (hr : ∀ t, t < 16 → aI r 73 t = nj (tv t) ∧ ∀ b, b < 16 → (aI r 74 (16 * t + b) = 0) = (ap b t = false)) :
    ∃ r', R_parting_49 FU (nj x) (nj k) (nj d) 0 0 r = some (match bsX x tv ap d k with
      | none => -2
      | some b => nj b.1, r') ∧ (Ch [1651] [75, 76, 77, 78, 79, 80, 81] nil r r' ∧ mC r' = mC r ∧ mS r' = mS r) ∧
      (match bsX x tv ap d k with
      | none => mI r' 1651 0 = mI r 1651 0 ∧ aI r' 75 = aI r 75 ∧ aI r' 76 = aI r 76
      | some b => mI r' 1651 0 = 1 ∧ ∀ t, t < 16 → aI r' 75 t = rmV (-1) b.2.2.1 (rmI (mbX x) t (popN x 16)) ∧ aI r' 76 t = rmV (aI r 76 t) b.2.2.2 (rmI (mbX x) t (popN x 16))) := by
  have hs0 := popN_pos h0 hx
  obtain ⟨m1, a1, a2, a3⟩ := R_parting_49_e hx h7 (x2 := nj k) (x3 := nj d) 16 0 FU r (by omega) (by unfold FU; omega) (fun i hi => absurd hi (Nat.not_lt_zero i))
  have a1' : R_parting_49 FU (nj x) (nj k) (nj d) 0 0 r = R_parting_86 (nj k) (nj d) (nj (popN x 16)) m1 := a1
  rw [a1']
  unfold R_parting_86
  obtain ⟨m2, b1, b2, b3⟩ := R_parting_95_e h7 (x2 := nj k) (x3 := nj d) (x5 := -1) (x6 := 0) (popN x 16) 0 FU m1 (by omega) (by unfold FU; omega)
  have b1' : R_parting_95 FU (nj k) (nj d) (nj (popN x 16)) (-1) 0 0 m1 = R_parting_116 (nj k) (nj d) (nj (popN x 16)) (-1) 0 m2 := b1
  rw [b1']
  unfold R_parting_116
  have c2 : Ch [1651] [75, 76, 77, 78, 79, 80, 81] nil r m2 := Ch.trans (a2.1.mono (by decide) (by decide) (fun _ z => z)) (b2.1.mono (by decide) (by decide) (fun _ z => z))
  have k2 : mC m2 = mC r ∧ mS m2 = mS r := ⟨b2.2.1.trans a2.2.1, b2.2.2.trans a2.2.2⟩
  have hRR : RR m2 (popN x 16) (List.replicate (popN x 16) 0) (mbX x) tv ap := by
    refine ⟨h7, fun i hi => ?_, fun t ht => ?_⟩
    · have e0 : (List.replicate (popN x 16) 0).getD i 0 = 0 := by
        rw [List.getD_eq_getElem?_getD, List.getElem?_replicate, if_pos hi]
        rfl
      rw [e0, (b2.1.2.2.2 77 (by decide) (fun z => z) (by rw [a2.2.1]; omega)).1, b3, if_pos ⟨Nat.zero_le _, hi⟩]
      exact ⟨tkL_lt 16 i hi, a3 i hi, Nat.zero_le _, rfl⟩
    · rw [(c2.2.2.2 73 (by decide) (fun z => z) (by omega)).1, (c2.2.2.2 74 (by decide) (fun z => z) (by omega)).1]
      exact ⟨htv t, hr t ht⟩
  obtain ⟨m3, L', y5, y6, d1, d2, d3, d4⟩ := R_parting_119_e (k := k) hd hk (fun i => htv _) hs0 877 FU _ none (-1) 0 m2 (ends_all _ (by omega) hs0) (by unfold FU; omega) hRR (by rw [k2.1]; exact h60) rfl
  rw [d1]
  have c3 : Ch [1651] [75, 76, 77, 78, 79, 80, 81] nil r m3 := Ch.trans c2 (d2.1.mono (by decide) (by decide) (fun _ z => z))
  have k3 : mC m3 = mC r ∧ mS m3 = mS r := ⟨d2.2.1.trans k2.1, d2.2.2.trans k2.2⟩
  have f1 : aI m3 75 = aI r 75 := ((d2.1.2.2.2 75 (by decide) (fun z => z) (by omega)).1).trans (((b2.1.2.2.2 75 (by decide) (fun z => z) (by omega)).1).trans ((a2.1.2.2.2 75 (by decide) (fun z => z) (by omega)).1))
  have f2 : aI m3 76 = aI r 76 := ((d2.1.2.2.2 76 (by decide) (fun z => z) (by omega)).1).trans (((b2.1.2.2.2 76 (by decide) (fun z => z) (by omega)).1).trans ((a2.1.2.2.2 76 (by decide) (fun z => z) (by omega)).1))
  have f3 : mI m3 1651 0 = mI r 1651 0 := ((d2.1.2.2.1 1651 (by decide) 0 (by omega)).1).trans (((b2.1.2.2.1 1651 (by decide) 0 (by omega)).1).trans ((a2.1.2.2.1 1651 (by decide) 0 (by omega)).1))
  have d4' : BQ y5 y6 m3 (popN x 16) (bsX x tv ap d k) := d4
  unfold R_parting_330
  cases hB : bsX x tv ap d k with
  | none =>
    rw [hB] at d4'
    rw [if_pos (show y5 = -1 from d4')]
    exact ⟨m3, rfl, ⟨c3, k3⟩, f3, f1, f2⟩
  | some b =>
    rw [hB] at d4'
    obtain ⟨e1, e2, -, -, e5⟩ := d4'
    rw [if_neg (by rw [e2, nj_ne_m1 (by omega)]; exact fun z => z)]
    obtain ⟨m4, g1, g2, g3⟩ := R_parting_342_e (x4 := nj (popN x 16)) (x5 := y5) 16 0 FU m3 (by omega) (by unfold FU; omega)
    have g1' : R_parting_342 FU (nj (popN x 16)) y5 0 m3 = R_parting_363 (nj (popN x 16)) y5 m4 := g1
    rw [g1']
    unfold R_parting_363
    obtain ⟨m5, i1, i2, i4⟩ := R_parting_366_e (s := popN x 16) (mb := mbX x) (o := b.2.2.1) (w := b.2.2.2) (m0 := m4) (x5 := y5) h7 (fun i hi => tkL_lt 16 i hi) (popN x 16) 0 FU m4 (by omega) (by unfold FU; omega) (fun i hi => by
      rw [(g2.1.2.2.2 77 (by decide) (fun z => z) (by omega)).1, (g2.1.2.2.2 80 (by decide) (fun z => z) (by omega)).1, (g2.1.2.2.2 81 (by decide) (fun z => z) (by omega)).1]
      exact ⟨(d3.2.1 i hi).2.1, (e5 i hi).2⟩) (fun t => ⟨rfl, rfl⟩)
    have i1' : R_parting_366 FU (nj (popN x 16)) y5 0 m4 = R_parting_417 y5 m5 := i1
    rw [i1']
    unfold R_parting_417
    rw [vb_e]
    refine ⟨sI m5 1651 0 1, by rw [e2], ⟨(Ch.trans c3 (Ch.trans (g2.1.mono (by decide) (by decide) (fun _ z => z)) (i2.1.mono (by decide) (by decide) (fun _ z => z)))).sI (by decide), ?_, ?_⟩, ?_, fun t ht => ?_⟩
    · rw [k_mC_sI, i2.2.1, g2.2.1, k3.1]
    · rw [k_mS_sI, i2.2.2, g2.2.2, k3.2]
    · rw [k_mI_sI_e, up1_ap, if_pos rfl]
    · have z := i4 t
      rw [g3, if_pos ⟨Nat.zero_le _, ht⟩, (g2.1.2.2.2 76 (by decide) (fun z => z) (by omega)).1, f2] at z
      rw [k_aI_sI]
      exact z
theorem st_parting {p r : Mem} (h : Prt p r) (hp : 51 ≤ mC p) (hr : 82 ≤ mC r) (x y z : Int32) : ∃ v p' r', P_parting x y z p = some (v, p') ∧ R_parting x y z r = some (v, r') ∧ Prt p' r' ∧ Ch [901, 906, 907] [44, 45, 46, 47, 48, 49, 50] nil p p' ∧ Ch [1651] [75, 76, 77, 78, 79, 80, 81] nil r r' ∧ mC p' = mC p ∧ mS p' = mS p := by
  obtain ⟨h1, h2, h3, h4⟩ := id h
  have no : ∃ v p' r', some ((-1 : Int32), p) = some (v, p') ∧ some ((-1 : Int32), r) = some (v, r') ∧ Prt p' r' ∧ Ch [901, 906, 907] [44, 45, 46, 47, 48, 49, 50] nil p p' ∧ Ch [1651] [75, 76, 77, 78, 79, 80, 81] nil r r' ∧ mC p' = mC p ∧ mS p' = mS p := ⟨_, p, r, rfl, rfl, h, Ch.rfl, Ch.rfl, rfl, rfl⟩
  unfold P_parting R_parting
  rw [P_within_e, R_in_e, bp_s, bp_s]
  by_cases q : 1 ≤ x ∧ x ≤ 65535
  · rw [decide_eq_true q, tI_t, if_neg (show ¬ (1 : Int32) = 0 by decide), if_neg (show ¬ (1 : Int32) = 0 by decide)]
    obtain ⟨n, hn, rfl⟩ := nj_of (Int32.le_trans (show (0 : Int32) ≤ 1 by decide) q.1)
    have q1 := q.1
    rw [nj_l_le hn (by omega)] at q1
    have q2 := q.2
    rw [nj_le_l hn (by omega)] at q2
    have hp16 := popN_le (x := n) 16
    rw [J_bitCount_e (by omega), R_bits_e hn, bp_s, bp_s]
    by_cases w : popN n 16 ≤ 7
    · rw [if_pos (by rw [nj_le_l (by omega) (by omega)]; exact w), if_neg (by rw [nj_l_lt (by omega) (by omega)]; omega), P_within_e, R_in_e, bp_s, bp_s]
      by_cases u : 1 ≤ y ∧ y ≤ 7
      · rw [decide_eq_true u, tI_t, if_neg (show ¬ (1 : Int32) = 0 by decide), if_neg (show ¬ (1 : Int32) = 0 by decide), P_within_e, R_in_e, bp_s, bp_s]
        by_cases t : 0 ≤ z ∧ z ≤ 999
        · rw [decide_eq_true t, tI_t, if_neg (show ¬ (1 : Int32) = 0 by decide), if_neg (show ¬ (1 : Int32) = 0 by decide)]
          obtain ⟨k, hk, rfl⟩ := nj_of (Int32.le_trans (show (0 : Int32) ≤ 1 by decide) u.1)
          have u2 := u.2
          rw [nj_le_l hk (by omega)] at u2
          obtain ⟨d, hd, rfl⟩ := nj_of t.1
          have t2 := t.2
          rw [nj_le_l hd (by omega)] at t2
          have tv0 : ∃ tv : Nat → Nat, (∀ t, tv t < 1000) ∧ ∀ t, t < 16 → aI p 42 t = nj (tv t) ∧ aI r 73 t = nj (tv t) := by
            refine ⟨fun t => if t < 16 then ix (aI p 42 t) else 0, fun t => ?_, fun t ht => ?_⟩
            · by_cases c : t < 16
              · obtain ⟨v, v1, v2, -⟩ := h1 t c
                show (if t < 16 then ix (aI p 42 t) else 0) < 1000
                rw [if_pos c, v2, ix_nj (by omega)]
                exact v1
              · show (if t < 16 then ix (aI p 42 t) else 0) < 1000
                rw [if_neg c]
                omega
            · obtain ⟨v, v1, v2, v3⟩ := h1 t ht
              show aI p 42 t = nj (if t < 16 then ix (aI p 42 t) else 0) ∧ aI r 73 t = nj (if t < 16 then ix (aI p 42 t) else 0)
              rw [if_pos ht, v2, ix_nj (by omega)]
              exact ⟨rfl, v3⟩
          obtain ⟨tv, tv1, tv2⟩ := tv0
          obtain ⟨p', a1, a2, a3⟩ := P_divide_e (p := p) (x := n) (k := k) (d := d) (tv := tv) (ap := fun a b => bI (aI p 43 a) b) (by omega) (by omega) w (by omega) (by omega) hp tv1 (fun t ht => ⟨(tv2 t ht).1, fun b _ => rfl⟩) ⟨h4.1, h4.2.1⟩ h4.2.2
          obtain ⟨r', b1, b2, b3⟩ := R_divide_e (r := r) (x := n) (k := k) (d := d) (tv := tv) (ap := fun a b => bI (aI p 43 a) b) (by omega) (by omega) w (by omega) (by omega) hr tv1 (fun t ht => ⟨(tv2 t ht).2, fun b hb => by
            rw [(h2 t b ht hb).2]
            exact (h2 b t hb ht).1⟩)
          rw [a1, bn_s, b1]
          refine ⟨_, p', r', rfl, rfl, ⟨?_, ?_, ?_, ?_⟩, a2.1, b2.1, a2.2.1, a2.2.2⟩
          · rw [(a2.1.2.2.2 42 (by decide) (fun z => z) (by omega)).1, (b2.1.2.2.2 73 (by decide) (fun z => z) (by omega)).1]
            exact h1
          · rw [(a2.1.2.2.2 43 (by decide) (fun z => z) (by omega)).1, (b2.1.2.2.2 74 (by decide) (fun z => z) (by omega)).1]
            exact h2
          · cases hB : bsX n tv (fun a b => bI (aI p 43 a) b) d k with
            | none =>
              rw [hB] at a3 b3
              obtain ⟨a4, a5⟩ := a3
              obtain ⟨b4, b5, b6⟩ := b3
              rw [a4, a5, b4, b5, b6]
              exact h3
            | some b =>
              rw [hB] at a3 b3
              right
              refine ⟨by rw [b3.1]; decide, fun i hi => ?_⟩
              obtain ⟨a4, a5⟩ := a3 i hi
              obtain ⟨b4, b5⟩ := b3.2 i hi
              rw [a4, a5, b4, b5]
              refine ⟨rfl, fun c => ?_⟩
              cases e : rmI (mbX n) i (popN n 16) with
              | none =>
                rw [e] at c
                exact absurd rfl c
              | some _ => rfl
          · rw [(a2.1.2.1 44 (by omega)).1, (a2.1.2.1 44 (by omega)).2, (a2.1.2.1 47 (by omega)).2, (a2.1.2.1 48 (by omega)).2, (a2.1.2.1 49 (by omega)).2, (a2.1.2.1 50 (by omega)).2]
            exact h4
        · rw [decide_eq_false t, tI_f, if_pos rfl, if_pos rfl]
          exact no
      · rw [decide_eq_false u, tI_f, if_pos rfl, if_pos rfl]
        exact no
    · rw [if_neg (by rw [nj_le_l (by omega) (by omega)]; exact w), if_pos (by rw [nj_l_lt (by omega) (by omega)]; omega)]
      exact no
  · rw [decide_eq_false q, tI_f, if_pos rfl, if_pos rfl]
    exact no
