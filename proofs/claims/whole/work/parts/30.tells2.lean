/-! Layer C: LOG, ANSWER, STAY, rows and cells, kind, award -/
section Te
variable {nc : Nat} {p r : Mem}
theorem R_textAt_some (h : Core nc p r) {f k : Nat} (hf : f < (dat r).2.2) (hq : isT (dat r) (nj f)) (h4 : (dat r).1 45 f = nj k) : R_textAt (nj f) r = some (nj k, r) := by
  have h160 := h.f160
  rw [R_textAt_e h, if_pos hq, ix_nj (by omega), h4]
theorem R_textAt_none (h : Core nc p r) {x : Int32} (hq : ¬ isT (dat r) x) : R_textAt x r = some (-1, r) := by
  rw [R_textAt_e h, if_neg hq]
theorem P_isName_e (h : Core nc p r) (x : Int32) : P_isName x p = some (tI (decide (0 ≤ x ∧ x < nj nc)), p) := by
  obtain ⟨-, -, -, -, -, -, h60, e4, -⟩ := h
  unfold P_isName
  rw [P_within_e, bp_s, gz_tI, e4]
  simp only [has_e (nj_0le (k := nc) (by omega)) (nj_ub (k := nc) (b := 1000) (by omega) (by omega))]
theorem st_claim (h : Core nc p r) (s x y z : Int32) (hs : s = 7 ∨ s = 8) : Told nc p r (bn (P_tellClaim s x y z p) fun a m => some (a, m)) (bn (R_tells s x y z r) fun a m => some (a, m)) := by
  have hfr := h.rfc
  have hfp := h.fc
  have h160 := h.f160
  have hN := P_isName_e h
  obtain ⟨T, C2, W1, W2, e1, e2, e3, e4, e5, fa, ta, ia, sa, ca, od, L, hSc⟩ := id h
  have ne6 : s ≠ 6 := by rcases hs with rfl | rfl <;> decide
  have hP : P_Ledger_textAt x (mI p 514 13) p = some (if x < nj (dat r).2.2 ∧ isT (dat r) x then some (ta (ix ((dat r).1 45 (ix x)))) else none, p) := by rw [hfp]; exact P_textAt_e L.1 h160 x _ (Int32.le_refl _)
  by_cases q1 : isT (dat r) x
  · obtain ⟨f, k, rfl, y2, y3, y4, y5, y6⟩ := isT_k W1 W2 q1
    have A := L.2.1.2.1 k y3
    have hR := R_textAt_some h y2 q1 y4
    have hkne : ¬ nj k = -1 := by rw [nj_ne_m1 (by have := W1.1; omega)]; simp
    rw [if_pos ⟨q1.2.1, q1⟩, ix_nj (by omega), y4, ix_nj (by have := W1.1; omega)] at hP
    have hD : aI r 44 f = mI p 1280 (ta k) := by rw [A.2.2.1, ← y6, dat_44 (by omega)]
    refine told_of h ((dat r).1 44 f = 0 ∧ (0 ≤ y ∧ y < nj nc) ∧ (0 ≤ z ∧ z ≤ 9999)) (s := s) (a := nj f) (b := y) (c := 0) (v := z) (b' := 0) (c' := y) (v' := z) ?_ ?_ ?_ ?_ ?_ (by rcases hs with rfl | rfl <;> decide) ne6 ?_ ?_ (fun _ => ⟨rfl, rfl⟩) ?_ ?_
    · intro q
      unfold P_tellClaim
      rw [hP, bn_s, if_neg (by simp), gs_s, gt_t A.2.1, A.2.2.1, ← y6]
      by_cases c1 : (dat r).1 44 f = 0 <;> by_cases c2 : 0 ≤ y ∧ y < nj nc <;> by_cases c3 : 0 ≤ z ∧ z ≤ 9999 <;> simp [hN, P_within_e, bn_s, bp_s, tI, c1, c2, c3]
      exact (q ⟨c1, c2, c3⟩).elim
    · intro q
      unfold R_tells
      by_cases c0 : (mI r 1601 0) = 160
      · rw [if_pos c0, bn_s]
      · rw [if_neg c0, hR, bn_s, if_neg hkne, inb_nj (by omega), gd_t (decide_eq_true (by omega)), ix_nj (by omega), e5, ← dat_44 (r := r) (x := 44) (by omega)]
        have hE := has_e (x := y) (nj_0le (k := nc) (by omega)) (nj_ub (k := nc) (b := 1000) (by omega) (by omega))
        have hIn : R_in y 0 (nj nc - 1) = some (tI (decide (0 ≤ y ∧ y < nj nc))) := by rw [R_in_e]; simp only [hE]
        by_cases c1 : (dat r).1 44 f = 0 <;> by_cases c2 : 0 ≤ y ∧ y < nj nc <;> by_cases c3 : 0 ≤ z ∧ z ≤ 9999 <;> simp [hIn, R_in_e z 0 9999, bn_s, bp_s, tI, c1, c2, c3]
        exact (q ⟨c1, c2, c3⟩).elim
    · intro q
      unfold R_tells
      rw [if_pos (by rw [hfr, q]; rfl), bn_s]
    · rintro ⟨c1, c2, c3⟩
      unfold P_tellClaim
      rw [hP, bn_s, if_neg (by simp), gs_s, gt_t A.2.1, A.2.2.1, ← y6]
      simp [hN, P_within_e, bn_s, bp_s, tI, c1, c2, c3]
      cases P_Ledger_tell s (nj f) 0 y z p <;> rfl
    · rintro ⟨c1, c2, c3⟩ q
      have hE := has_e (x := y) (nj_0le (k := nc) (by omega)) (nj_ub (k := nc) (b := 1000) (by omega) (by omega))
      have hIn : R_in y 0 (nj nc - 1) = some (tI (decide (0 ≤ y ∧ y < nj nc))) := by rw [R_in_e]; simp only [hE]
      unfold R_tells
      rw [if_neg (by rw [hfr, nj_eq_l (by omega) (by omega)]; exact q), hR, bn_s, if_neg hkne, inb_nj (by omega), gd_t (decide_eq_true (by omega)), ix_nj (by omega), e5, ← dat_44 (r := r) (x := 44) (by omega)]
      simp [hIn, R_in_e z 0 9999, bn_s, bp_s, tI, c1, c2, c3]
      cases R_fact s (nj f) y 0 z r <;> rfl
    · rcases hs with rfl | rfl <;> simp
    · rcases hs with rfl | rfl <;> simp
    · rcases hs with rfl | rfl <;> simp
    · rintro ⟨c1, c2, c3⟩ q
      obtain ⟨k1, g1, z1⟩ := nj_in' (by omega) c2
      obtain ⟨k2, g2, z2⟩ := nj_in (n := 9999) (by omega) c3
      unfold WF1
      rw [apF_44, apF_45, apF_46, apF_47, apF_48]
      have hz : (apF (dat r) s (nj f) y 0 z ((dat r).1 49)).1 44 f = 0 := by rw [apF_old y2 (by decide)]; exact c1
      rcases hs with rfl | rfl
      · exact ⟨7, by omega, rfl, by omega, by omega, by omega, by omega, fun _ => ⟨f, k1, k2, y2, by omega, by omega, hz, rfl, z1, z2⟩, by omega, by omega⟩
      · exact ⟨8, by omega, rfl, by omega, by omega, by omega, by omega, fun _ => ⟨f, k1, k2, y2, by omega, by omega, hz, rfl, z1, z2⟩, by omega, by omega⟩
  · refine ⟨-1, p, r, ?_, ?_, h, Ch.rfl, Ch.rfl, by omega, by omega, Or.inl rfl⟩
    · unfold P_tellClaim
      rw [if_neg (fun z => q1 z.2)] at hP
      rw [hP, bn_s, if_pos rfl, bn_s]
    · unfold R_tells
      by_cases c0 : (mI r 1601 0) = 160
      · rw [if_pos c0, bn_s]
      · rw [if_neg c0, R_textAt_none h q1, bn_s, if_pos rfl, bn_s]
theorem st_log (h : Core nc p r) (x y z : Int32) : Told nc p r (P_log x y z p) (R_log x y z r) := st_claim h 7 x y z (Or.inl rfl)
theorem st_answer (h : Core nc p r) (x y z : Int32) : Told nc p r (P_answer x y z p) (R_answer x y z r) := st_claim h 8 x y z (Or.inr rfl)
theorem st_stay (h : Core nc p r) (x y z : Int32) : Told nc p r (P_stay x y z p) (R_stay x y z r) := by
  have hfr := h.rfc
  have hfp := h.fc
  have h160 := h.f160
  obtain ⟨T, C2, W1, W2, e1, e2, e3, e4, e5, fa, ta, ia, sa, ca, od, L, hSc⟩ := id h
  have hP : P_Ledger_textAt x (mI p 514 13) p = some (if x < nj (dat r).2.2 ∧ isT (dat r) x then some (ta (ix ((dat r).1 45 (ix x)))) else none, p) := by rw [hfp]; exact P_textAt_e L.1 h160 x _ (Int32.le_refl _)
  by_cases q1 : isT (dat r) x
  · obtain ⟨f, k, rfl, y2, y3, y4, y5, y6⟩ := isT_k W1 W2 q1
    have hR := R_textAt_some h y2 q1 y4
    have hkne : ¬ nj k = -1 := by rw [nj_ne_m1 (by have := W1.1; omega)]; simp
    rw [if_pos ⟨q1.2.1, q1⟩] at hP
    refine told_of h (0 ≤ y ∧ y < z ∧ z ≤ 140) (s := 10) (a := nj f) (b := y) (c := z) (v := 0) (b' := y) (c' := 0) (v' := z) ?_ ?_ ?_ ?_ ?_ (by decide) (by decide) (by simp) (by simp) (by simp) (by simp) ?_
    · intro q
      unfold P_stay
      rw [hP, bn_s, if_neg (by simp)]
      by_cases c1 : y < 0
      · rw [if_pos c1]
      · by_cases c2 : z ≤ y
        · rw [if_neg c1, if_pos c2]
        · rw [if_neg c1, if_neg c2, if_neg (fun c3 => q ⟨Int32.not_lt.mp c1, Int32.not_le.mp c2, c3⟩)]
    · intro q
      unfold R_stay
      by_cases c0 : (mI r 1601 0) = 160
      · rw [if_pos c0]
      · rw [if_neg c0, hR, bn_s, if_neg hkne]
        by_cases c1 : y < 0
        · rw [if_pos c1]
        · by_cases c2 : z ≤ y
          · rw [if_neg c1, if_pos c2]
          · rw [if_neg c1, if_neg c2, if_neg (fun c3 => q ⟨Int32.not_lt.mp c1, Int32.not_le.mp c2, c3⟩)]
    · intro q
      unfold R_stay
      rw [if_pos (by rw [hfr, q]; rfl)]
    · rintro ⟨c1, c2, c3⟩
      unfold P_stay
      rw [hP, bn_s, if_neg (by simp), if_neg (Int32.not_lt.mpr c1), if_neg (Int32.not_le.mpr c2), if_pos c3]
    · rintro ⟨c1, c2, c3⟩ q
      unfold R_stay
      rw [if_neg (by rw [hfr, nj_eq_l (by omega) (by omega)]; exact q), hR, bn_s, if_neg hkne, if_neg (Int32.not_lt.mpr c1), if_neg (Int32.not_le.mpr c2), if_pos c3]
    · rintro ⟨c1, c2, c3⟩ q
      obtain ⟨k1, g1, rfl⟩ := nj_of c1
      obtain ⟨k2, g2, rfl⟩ := nj_of (show 0 ≤ z by grind)
      rw [nj_lt (by omega) (by omega)] at c2
      rw [nj_le_l (by omega) (by omega)] at c3
      unfold WF1
      rw [apF_44, apF_45, apF_46, apF_47, apF_48]
      refine ⟨10, by omega, rfl, by omega, by omega, by omega, by omega, by omega, by omega, fun _ => ⟨f, k1, k2, y2, c2, c3, ?_, rfl, rfl, rfl⟩⟩
      rw [apF_old y2 (by decide)]
      have := q1.2.2
      rw [ix_nj (by omega)] at this
      exact this
  · refine ⟨-1, p, r, ?_, ?_, h, Ch.rfl, Ch.rfl, by omega, by omega, Or.inl rfl⟩
    · unfold P_stay
      rw [if_neg (fun z => q1 z.2)] at hP
      rw [hP, bn_s, if_pos rfl]
    · unfold R_stay
      by_cases c0 : (mI r 1601 0) = 160
      · rw [if_pos c0]
      · rw [if_neg c0, R_textAt_none h q1, bn_s, if_pos rfl]
theorem st_kind (h : Core nc p r) (x : Int32) : ∃ v, P_kind x p = some (v, p) ∧ R_kind x r = some (v, r) := by
  have hfr := h.rfc
  have h160 := h.f160
  obtain ⟨T, C2, W1, W2, e1, e2, e3, e4, e5, fa, ta, ia, sa, ca, od, L, hSc⟩ := id h
  by_cases q : 0 ≤ x ∧ x < nj (dat r).2.2
  · obtain ⟨f, hf, rfl⟩ := nj_in' (by omega) q
    refine ⟨(dat r).1 44 f, ?_, ?_⟩
    · unfold P_kind
      rw [P_factAt_e L.1 h160, if_pos q, bn_s, if_neg (by simp), gs_s, ix_nj (by omega), gt_t (L.1.2 f hf).2.1.2.1, (L.1.2 f hf).2.1.2.2.2.2.1]
    · unfold R_kind
      rw [if_neg (Int32.not_lt.mpr q.1), hfr, if_neg (Int32.not_le.mpr q.2), inb_nj (by omega), gd_t (decide_eq_true (by omega)), ix_nj (by omega), dat_44 (by omega)]
  · refine ⟨-1, ?_, ?_⟩
    · unfold P_kind
      rw [P_factAt_e L.1 h160, if_neg q, bn_s, if_pos rfl]
    · unfold R_kind
      by_cases c1 : x < 0
      · rw [if_pos c1]
      · rw [if_neg c1, if_pos]
        rw [hfr]
        exact Int32.not_lt.mp fun z => q ⟨Int32.not_lt.mp c1, z⟩
theorem dat_8 (h : Core nc p r) {x k : Nat} (hx : 8 ≤ x ∧ x ≤ 14) (hk : k < (dat r).2.1) : (dat r).1 x k = aI r x k := by
  have : msk (ix (mI r 1554 0)) x k = true := by
    have : (dat r).2.1 = ix (mI r 1554 0) := rfl
    unfold msk
    grind
  exact if_pos this
theorem st_award (h : Core nc p r) (x : Int32) : ∃ v, P_award x p = some (v, p) ∧ R_award x r = some (v, r) := by
  have hfr := h.rfc
  have hfp := h.fc
  have h160 := h.f160
  obtain ⟨T, C2, W1, W2, e1, e2, e3, e4, e5, fa, ta, ia, sa, ca, od, L, hSc⟩ := id h
  have h24 := W1.1
  have hP : P_Ledger_textAt x (mI p 514 13) p = some (if x < nj (dat r).2.2 ∧ isT (dat r) x then some (ta (ix ((dat r).1 45 (ix x)))) else none, p) := by rw [hfp]; exact P_textAt_e L.1 h160 x _ (Int32.le_refl _)
  by_cases q1 : isT (dat r) x
  · obtain ⟨f, k, rfl, y2, y3, y4, y5, y6⟩ := isT_k W1 W2 q1
    have A := L.2.1.2.1 k y3
    obtain ⟨-, -, -, -, -, -, ⟨j, z1, z2, z3, z4, z5, z6⟩, -⟩ := W1.2.2.1 k y3
    have B := L.2.1.2.1 j (by omega)
    have hkne : ¬ nj k = -1 := by rw [nj_ne_m1 (by omega)]; simp
    rw [if_pos ⟨q1.2.1, q1⟩, ix_nj (by omega), y4, ix_nj (by omega)] at hP
    refine ⟨(dat r).1 12 j, ?_, ?_⟩
    · unfold P_award
      rw [hP, bn_s, if_neg (by simp), gs_s, gt_t A.2.1]
      unfold P_Text_awardFact
      rw [A.2.2.2.2.2.2.2.1]
      by_cases c : (dat r).1 8 k = 0
      · rw [if_pos c, if_pos rfl, bn_s, A.2.2.2.1, z5 c]
      · rw [if_neg c, if_neg (by simp), gs_s, z2, ix_nj (by omega), gt_t B.2.1, bn_s, B.2.2.2.1]
    · unfold R_award
      rw [R_textAt_some h y2 q1 y4, bn_s, if_neg hkne, inb_nj (by omega), gd_t (decide_eq_true (by omega)), ix_nj (by omega), ← dat_8 h (by omega) y3, z2, inb_nj (by omega), gd_t (decide_eq_true (by omega)), ix_nj (by omega), dat_8 h (by omega) (by omega)]
  · refine ⟨-1, ?_, ?_⟩
    · unfold P_award
      rw [if_neg (fun z => q1 z.2)] at hP
      rw [hP, bn_s, if_pos rfl]
    · unfold R_award
      rw [R_textAt_none h q1, bn_s, if_pos rfl]
end Te
