/-! Layer C: values, which TASKS are apart, what is remembered of the last parting -/
/-- bit c of an int -/
def bI (x : Int32) (c : Nat) : Bool := x.toBitVec.getLsbD c
/-- what holds of both sides' partings -/
def Prt (p r : Mem) : Prop :=
  (∀ i, i < 16 → ∃ v, v < 1000 ∧ aI p 42 i = nj v ∧ aI r 73 i = nj v) ∧
  (∀ a b, a < 16 → b < 16 → ((aI r 74 (16 * a + b) = 0) = (bI (aI p 43 a) b = false)) ∧ ((aI r 74 (16 * a + b) = 0) = (aI r 74 (16 * b + a) = 0))) ∧
  ((mI r 1651 0 = 0 ∧ ∀ i, i < 16 → aI p 44 i = -1) ∨ (¬ mI r 1651 0 = 0 ∧ ∀ i, i < 16 → aI p 44 i = aI r 75 i ∧ (¬ aI p 44 i = -1 → aI p 45 i = aI r 76 i))) ∧
  (mT p 44 = 32 ∧ mN p 44 = 16 ∧ mN p 47 = 7 ∧ mN p 48 = 7 ∧ mN p 49 = 7 ∧ mN p 50 = 7)
theorem st_value {p r : Mem} (h : Prt p r) (x y : Int32) : ∃ v p' r', P_value x y p = some (v, p') ∧ R_value x y r = some (v, r') ∧ Prt p' r' ∧ Ch [] [42] nil p p' ∧ Ch [] [73] nil r r' ∧ mC p' = mC p ∧ mS p' = mS p := by
  obtain ⟨h1, h2, h3, h4⟩ := id h
  unfold P_value R_value
  rw [P_isTask_e, R_in_e, bp_s, bp_s]
  by_cases q : 0 ≤ x ∧ x ≤ 15
  · rw [decide_eq_true q, tI_t, if_neg (by decide), if_neg (by decide), P_within_e, R_in_e, bp_s, bp_s]
    by_cases q2 : 0 ≤ y ∧ y ≤ 999
    · rw [decide_eq_true q2, tI_t, if_neg (by decide), if_neg (by decide)]
      obtain ⟨a, ha, rfl⟩ := nj_of q.1
      obtain ⟨b, hb, rfl⟩ := nj_of q2.1
      have q3 := q.2
      rw [nj_le_l ha (by omega)] at q3
      have q4 := q2.2
      rw [nj_le_l hb (by omega)] at q4
      rw [inb_nj ha, gd_t (decide_eq_true (by omega)), gd_t (decide_eq_true (by omega)), vb_e, vb_e, ix_nj ha]
      refine ⟨_, _, _, rfl, rfl, ⟨fun i hi => ?_, ?_, ?_, ?_⟩, Ch.rfl.wI (Or.inl (by decide)), Ch.rfl.wI (Or.inl (by decide)), by simp only [k_aI_wI_e, k_aI_wI, k_aI_wL, k_aI_wR, k_aI_sI, k_aI_sL, k_aI_sR, k_aI_nw, k_aL_wL_e, k_aL_wL, k_aL_wI, k_aL_wR, k_aL_sI, k_aL_sL, k_aL_sR, k_aL_nw, k_aR_wR_e, k_aR_wR, k_aR_wI, k_aR_wL, k_aR_sI, k_aR_sL, k_aR_sR, k_aR_nw, k_mI_sI_e, k_mI_sI, k_mI_wI, k_mI_wL, k_mI_wR, k_mI_sL, k_mI_sR, k_mI_nw, k_mL_sL_e, k_mL_sL, k_mL_wI, k_mL_wL, k_mL_wR, k_mL_sI, k_mL_sR, k_mL_nw, k_mR_sR_e, k_mR_sR, k_mR_wI, k_mR_wL, k_mR_wR, k_mR_sI, k_mR_sL, k_mR_nw, k_mT_wI, k_mT_wL, k_mT_wR, k_mT_sI, k_mT_sL, k_mT_sR, k_mT_nw, k_mN_wI, k_mN_wL, k_mN_wR, k_mN_sI, k_mN_sL, k_mN_sR, k_mN_nw, k_mC_wI, k_mC_wL, k_mC_wR, k_mC_sI, k_mC_sL, k_mC_sR, k_mC_nw, k_mS_wI, k_mS_wL, k_mS_wR, k_mS_sI, k_mS_sL, k_mS_sR, k_mS_nw, k_zF_1, k_zF_3, k_zF_11, k_zF_32, k_zF_36, k_zA_1, k_zA_3, k_zA_11, k_zA_32, k_zA_36, k_mT_fil, k_mN_fil, k_mI_fil, k_mL_fil, k_mR_fil, k_aL_fil, k_aR_fil, k_mC_fil, k_mS_fil, k_aI_fil_e, k_aI_fil], by simp only [k_aI_wI_e, k_aI_wI, k_aI_wL, k_aI_wR, k_aI_sI, k_aI_sL, k_aI_sR, k_aI_nw, k_aL_wL_e, k_aL_wL, k_aL_wI, k_aL_wR, k_aL_sI, k_aL_sL, k_aL_sR, k_aL_nw, k_aR_wR_e, k_aR_wR, k_aR_wI, k_aR_wL, k_aR_sI, k_aR_sL, k_aR_sR, k_aR_nw, k_mI_sI_e, k_mI_sI, k_mI_wI, k_mI_wL, k_mI_wR, k_mI_sL, k_mI_sR, k_mI_nw, k_mL_sL_e, k_mL_sL, k_mL_wI, k_mL_wL, k_mL_wR, k_mL_sI, k_mL_sR, k_mL_nw, k_mR_sR_e, k_mR_sR, k_mR_wI, k_mR_wL, k_mR_wR, k_mR_sI, k_mR_sL, k_mR_nw, k_mT_wI, k_mT_wL, k_mT_wR, k_mT_sI, k_mT_sL, k_mT_sR, k_mT_nw, k_mN_wI, k_mN_wL, k_mN_wR, k_mN_sI, k_mN_sL, k_mN_sR, k_mN_nw, k_mC_wI, k_mC_wL, k_mC_wR, k_mC_sI, k_mC_sL, k_mC_sR, k_mC_nw, k_mS_wI, k_mS_wL, k_mS_wR, k_mS_sI, k_mS_sL, k_mS_sR, k_mS_nw, k_zF_1, k_zF_3, k_zF_11, k_zF_32, k_zF_36, k_zA_1, k_zA_3, k_zA_11, k_zA_32, k_zA_36, k_mT_fil, k_mN_fil, k_mI_fil, k_mL_fil, k_mR_fil, k_aL_fil, k_aR_fil, k_mC_fil, k_mS_fil, k_aI_fil_e, k_aI_fil]⟩
      · rw [k_aI_wI_e, k_aI_wI_e, up1_ap, up1_ap]
        by_cases z : i = a
        · rw [if_pos z, if_pos z]
          exact ⟨b, by omega, rfl, rfl⟩
        · rw [if_neg z, if_neg z]
          exact h1 i hi
      · rw [k_aI_wI (by omega), k_aI_wI (by omega)]
        exact h2
      · rw [k_mI_wI, k_aI_wI (by omega), k_aI_wI (by omega), k_aI_wI (by omega), k_aI_wI (by omega)]
        exact h3
      · rw [k_mT_wI, k_mN_wI]
        exact h4
    · rw [decide_eq_false q2, tI_f, if_pos rfl, if_pos rfl]
      exact ⟨_, _, _, rfl, rfl, h, Ch.rfl, Ch.rfl, rfl, rfl⟩
  · rw [decide_eq_false q, tI_f, if_pos rfl, if_pos rfl]
    exact ⟨_, _, _, rfl, rfl, h, Ch.rfl, Ch.rfl, rfl, rfl⟩
theorem st_part {p r : Mem} (h : Prt p r) (x y : Int32) : ∃ v, P_part x y p = some (v, p) ∧ R_part x y r = some (v, r) := by
  obtain ⟨h1, h2, h3, h4⟩ := id h
  unfold P_part R_part
  rw [P_isTask_e, R_in_e, R_in_e, bp_s, bp_s, bp_s]
  by_cases q : 0 ≤ x ∧ x ≤ 15
  · rw [decide_eq_true q, tI_t, if_neg (show ¬ (1 : Int32) = 0 by decide), if_neg (show ¬ (1 : Int32) = 0 by decide)]
    obtain ⟨a, ha, rfl⟩ := nj_of q.1
    have q3 := q.2
    rw [nj_le_l ha (by omega)] at q3
    have g : ∀ {β : Type} (c : Option β), gd (inb (nj a) 16) c = c := fun c => by rw [inb_nj ha, gd_t (decide_eq_true (by omega))]
    simp only [g]
    rw [ix_nj ha]
    rcases h3 with ⟨e1, e2⟩ | ⟨e1, e2⟩
    · rw [if_pos (e2 a (by omega)), if_pos e1]
      exact ⟨_, rfl, rfl⟩
    · rw [if_neg e1, (e2 a (by omega)).1]
      by_cases z : aI r 75 a = -1
      · rw [if_pos z, if_pos z]
        exact ⟨_, rfl, rfl⟩
      · rw [if_neg z, if_neg z, (e2 a (by omega)).2 (by rw [(e2 a (by omega)).1]; exact z)]
        by_cases y0 : y = 0
        · rw [if_pos y0, if_neg (by rw [y0]; decide), if_pos y0]
          exact ⟨_, rfl, rfl⟩
        · rw [if_neg y0]
          by_cases y1 : y = 1
          · rw [if_pos y1, if_neg (by rw [y1]; decide), if_neg y0]
            exact ⟨_, rfl, rfl⟩
          · rw [if_neg y1, if_pos (by
              rw [tI_0]
              refine decide_eq_false fun c => ?_
              obtain ⟨b, hb, rfl⟩ := nj_of c.1
              have c2 := c.2
              rw [nj_le_l hb (by omega)] at c2
              rw [nj_eq_l hb (by omega)] at y0 y1
              omega)]
            exact ⟨_, rfl, rfl⟩
  · rw [decide_eq_false q, tI_f, if_pos rfl, if_pos (c := (0 : Int32) = 0) rfl]
    exact ⟨-1, rfl, by split <;> rfl⟩
theorem bI_1 : ∀ b, b < 16 → ∀ c, c < 16 → bI (1 <<< (nj b &&& 31)) c = decide (c = b) := by decide +kernel
theorem bI_n : ∀ b, b < 16 → ∀ c, c < 16 → bI ((1 <<< (nj b &&& 31)) ^^^ (-1)) c = !decide (c = b) := by decide +kernel
theorem bI_or {x y : Int32} {c : Nat} : bI (x ||| y) c = (bI x c || bI y c) := by
  unfold bI
  rw [Int32.toBitVec_or, BitVec.getLsbD_or]
theorem bI_and {x y : Int32} {c : Nat} : bI (x &&& y) c = (bI x c && bI y c) := by
  unfold bI
  rw [Int32.toBitVec_and, BitVec.getLsbD_and]
theorem P_setApart_e {a b : Nat} {p : Mem} {z : Int32} (ha : a < 16) (hb : b < 16) : ∃ w, P_Parting_setApart (nj a) (nj b) z p = some ((), wI p 43 a w) ∧ ∀ c, c < 16 → bI w c = if c = b then !decide (z = 0) else bI (aI p 43 a) c := by
  unfold P_Parting_setApart P_Parting_setApart_37
  have g : ∀ {β : Type} (c : Option β), gd (inb (nj a) 16) c = c := fun c => by rw [inb_nj (by omega), gd_t (decide_eq_true (by omega))]
  simp only [g, vb_e]
  rw [ix_nj (by omega)]
  by_cases q : z = 0
  · rw [if_pos q]
    refine ⟨_, rfl, fun c hc => ?_⟩
    rw [bI_and, bI_n b hb c hc]
    by_cases y : c = b <;> simp [y, q]
  · rw [if_neg q]
    refine ⟨_, rfl, fun c hc => ?_⟩
    rw [bI_or, bI_1 b hb c hc]
    by_cases y : c = b <;> simp [y, q]
theorem st_apart {p r : Mem} (h : Prt p r) (x y z : Int32) (hz : z = 0 ∨ z = 1) : ∃ v p' r', P_apart x y z p = some (v, p') ∧ R_apart x y z r = some (v, r') ∧ Prt p' r' ∧ Ch [] [43] nil p p' ∧ Ch [] [74] nil r r' ∧ mC p' = mC p ∧ mS p' = mS p := by
  obtain ⟨h1, h2, h3, h4⟩ := id h
  have no : ∀ v : Int32, ∃ v' p' r', some (v, p) = some (v', p') ∧ some (v, r) = some (v', r') ∧ Prt p' r' ∧ Ch [] [43] nil p p' ∧ Ch [] [74] nil r r' ∧ mC p' = mC p ∧ mS p' = mS p := fun v => ⟨v, p, r, rfl, rfl, h, Ch.rfl, Ch.rfl, rfl, rfl⟩
  unfold P_apart R_apart
  rw [P_isTask_e, P_isTask_e, R_in_e, R_in_e, bp_s, bp_s, bp_s, bp_s]
  by_cases q : 0 ≤ x ∧ x ≤ 15
  · rw [decide_eq_true q, tI_t, if_neg (show ¬ (1 : Int32) = 0 by decide), if_neg (show ¬ (1 : Int32) = 0 by decide)]
    by_cases q2 : 0 ≤ y ∧ y ≤ 15
    · rw [decide_eq_true q2, tI_t, if_neg (show ¬ (1 : Int32) = 0 by decide), if_neg (show ¬ (1 : Int32) = 0 by decide)]
      by_cases e : x = y
      · rw [if_pos e, if_pos e]
        exact no 0
      · rw [if_neg e, if_neg e]
        obtain ⟨a, ha, rfl⟩ := nj_of q.1
        obtain ⟨b, hb, rfl⟩ := nj_of q2.1
        have q3 := q.2
        rw [nj_le_l ha (by omega)] at q3
        have q4 := q2.2
        rw [nj_le_l hb (by omega)] at q4
        rw [nj_inj ha hb] at e
        obtain ⟨w1, e1, f1⟩ := P_setApart_e (p := p) (z := z) (a := a) (b := b) (by omega) (by omega)
        obtain ⟨w2, e2, f2⟩ := P_setApart_e (p := wI p 43 a w1) (z := z) (a := b) (b := a) (by omega) (by omega)
        rw [e1, bn_s, e2, bn_s]
        rw [k_aI_wI_e, up1_ap, if_neg (by omega)] at f2
        simp only [nj_l_mul, nj_add]
        rw [inb_nj (by omega), inb_nj (by omega), gd_t (decide_eq_true (by omega)), gz_t hz, vb_e, gd_t (decide_eq_true (by omega)), gz_t hz, vb_e, ix_nj (by omega), ix_nj (by omega)]
        refine ⟨_, _, _, rfl, rfl, ⟨?_, fun i j hi hj => ?_, ?_, ?_⟩, (Ch.rfl.wI (Or.inl (by decide))).wI (Or.inl (by decide)), (Ch.rfl.wI (Or.inl (by decide))).wI (Or.inl (by decide)), by simp only [k_aI_wI_e, k_aI_wI, k_aI_wL, k_aI_wR, k_aI_sI, k_aI_sL, k_aI_sR, k_aI_nw, k_aL_wL_e, k_aL_wL, k_aL_wI, k_aL_wR, k_aL_sI, k_aL_sL, k_aL_sR, k_aL_nw, k_aR_wR_e, k_aR_wR, k_aR_wI, k_aR_wL, k_aR_sI, k_aR_sL, k_aR_sR, k_aR_nw, k_mI_sI_e, k_mI_sI, k_mI_wI, k_mI_wL, k_mI_wR, k_mI_sL, k_mI_sR, k_mI_nw, k_mL_sL_e, k_mL_sL, k_mL_wI, k_mL_wL, k_mL_wR, k_mL_sI, k_mL_sR, k_mL_nw, k_mR_sR_e, k_mR_sR, k_mR_wI, k_mR_wL, k_mR_wR, k_mR_sI, k_mR_sL, k_mR_nw, k_mT_wI, k_mT_wL, k_mT_wR, k_mT_sI, k_mT_sL, k_mT_sR, k_mT_nw, k_mN_wI, k_mN_wL, k_mN_wR, k_mN_sI, k_mN_sL, k_mN_sR, k_mN_nw, k_mC_wI, k_mC_wL, k_mC_wR, k_mC_sI, k_mC_sL, k_mC_sR, k_mC_nw, k_mS_wI, k_mS_wL, k_mS_wR, k_mS_sI, k_mS_sL, k_mS_sR, k_mS_nw, k_zF_1, k_zF_3, k_zF_11, k_zF_32, k_zF_36, k_zA_1, k_zA_3, k_zA_11, k_zA_32, k_zA_36, k_mT_fil, k_mN_fil, k_mI_fil, k_mL_fil, k_mR_fil, k_aL_fil, k_aR_fil, k_mC_fil, k_mS_fil, k_aI_fil_e, k_aI_fil], by simp only [k_aI_wI_e, k_aI_wI, k_aI_wL, k_aI_wR, k_aI_sI, k_aI_sL, k_aI_sR, k_aI_nw, k_aL_wL_e, k_aL_wL, k_aL_wI, k_aL_wR, k_aL_sI, k_aL_sL, k_aL_sR, k_aL_nw, k_aR_wR_e, k_aR_wR, k_aR_wI, k_aR_wL, k_aR_sI, k_aR_sL, k_aR_sR, k_aR_nw, k_mI_sI_e, k_mI_sI, k_mI_wI, k_mI_wL, k_mI_wR, k_mI_sL, k_mI_sR, k_mI_nw, k_mL_sL_e, k_mL_sL, k_mL_wI, k_mL_wL, k_mL_wR, k_mL_sI, k_mL_sR, k_mL_nw, k_mR_sR_e, k_mR_sR, k_mR_wI, k_mR_wL, k_mR_wR, k_mR_sI, k_mR_sL, k_mR_nw, k_mT_wI, k_mT_wL, k_mT_wR, k_mT_sI, k_mT_sL, k_mT_sR, k_mT_nw, k_mN_wI, k_mN_wL, k_mN_wR, k_mN_sI, k_mN_sL, k_mN_sR, k_mN_nw, k_mC_wI, k_mC_wL, k_mC_wR, k_mC_sI, k_mC_sL, k_mC_sR, k_mC_nw, k_mS_wI, k_mS_wL, k_mS_wR, k_mS_sI, k_mS_sL, k_mS_sR, k_mS_nw, k_zF_1, k_zF_3, k_zF_11, k_zF_32, k_zF_36, k_zA_1, k_zA_3, k_zA_11, k_zA_32, k_zA_36, k_mT_fil, k_mN_fil, k_mI_fil, k_mL_fil, k_mR_fil, k_aL_fil, k_aR_fil, k_mC_fil, k_mS_fil, k_aI_fil_e, k_aI_fil]⟩
        · rw [k_aI_wI (by omega), k_aI_wI (by omega), k_aI_wI (by omega), k_aI_wI (by omega)]
          exact h1
        · have hr : ∀ i j, i < 16 → j < 16 → aI (wI (wI r 74 (16 * a + b) z) 74 (16 * b + a) z) 74 (16 * i + j) = if (i = a ∧ j = b) ∨ (i = b ∧ j = a) then z else aI r 74 (16 * i + j) := by
            intro i j hi hj
            rw [k_aI_wI_e, k_aI_wI_e, up1_ap, up1_ap]
            by_cases c1 : i = b ∧ j = a
            · rw [if_pos (by omega), if_pos (Or.inr c1)]
            · by_cases c2 : i = a ∧ j = b
              · rw [if_neg (by omega), if_pos (by omega), if_pos (Or.inl c2)]
              · rw [if_neg (by omega), if_neg (by omega), if_neg (by omega)]
          have hp : bI (aI (wI (wI p 43 a w1) 43 b w2) 43 i) j = if (i = a ∧ j = b) ∨ (i = b ∧ j = a) then !decide (z = 0) else bI (aI p 43 i) j := by
            rw [k_aI_wI_e, k_aI_wI_e, up1_ap, up1_ap]
            by_cases c1 : i = b
            · rw [if_pos c1, f2 j hj]
              by_cases c2 : j = a
              · rw [if_pos c2, if_pos (Or.inr ⟨c1, c2⟩)]
              · rw [if_neg c2, if_neg (by omega), c1]
            · rw [if_neg c1]
              by_cases c2 : i = a
              · rw [if_pos c2, f1 j hj]
                by_cases c3 : j = b
                · rw [if_pos c3, if_pos (Or.inl ⟨c2, c3⟩)]
                · rw [if_neg c3, if_neg (by omega), c2]
              · rw [if_neg c2, if_neg (by omega)]
          rw [hr i j hi hj, hr j i hj hi, hp]
          by_cases c : (i = a ∧ j = b) ∨ (i = b ∧ j = a)
          · rw [if_pos c, if_pos c, if_pos (by omega)]
            exact ⟨by simp, rfl⟩
          · rw [if_neg c, if_neg c, if_neg (by omega)]
            exact h2 i j hi hj
        · rw [k_mI_wI, k_mI_wI, k_aI_wI (by omega), k_aI_wI (by omega), k_aI_wI (by omega), k_aI_wI (by omega), k_aI_wI (by omega), k_aI_wI (by omega), k_aI_wI (by omega), k_aI_wI (by omega)]
          exact h3
        · rw [k_mT_wI, k_mN_wI, k_mT_wI, k_mN_wI]
          exact h4
    · rw [decide_eq_false q2, tI_f, if_pos rfl, if_pos rfl]
      exact no 0
  · rw [decide_eq_false q, tI_f, if_pos rfl, if_pos rfl]
    exact no 0
