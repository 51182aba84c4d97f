/-! Layer C: binds, round, margin .. is -/
section Io
variable {N : Nat} {kd pl : Nat → Nat} {x a i l c : Nat} {p r : Mem} {t nm : Nat}
theorem round_j (h : Pi N kd pl x p r t nm l c) (hi : i < 750) (h256 : mI p 256 a = nj 38) (ha : mT p a = 3) :
    (∃ v p' r', v ≤ 9999 ∧ P_Parser_takeBody (some a) p = some (1, p') ∧ (bn (R_number 1 240 r) fun r79 m80 => gd (inb (nj i) 750) (vb (wI m80 17 (ix (nj i)) r79) fun m86 => R_tellItem_501 (nj i) m86)) = R_tellItem_501 (nj i) r' ∧ Pi N kd pl x p' r' (t + 1) nm l c ∧ Sp 0 a i l c p r p' r' t (t + 1) nm nm ∧ aI r' 17 i = nj v ∧ mI p' 265 a = nj v ∧ (mI r' 1551 0 = 0 → 1 ≤ v ∧ v ≤ 240) ∧ (∀ f, 256 ≤ f → f ≤ 268 → f ≠ 265 → mI p' f = mI p f) ∧ mL p' = mL p ∧ mR p' = mR p ∧ mT p' = mT p ∧ (∀ y j, y ≠ 17 → aI r' y j = aI r y j)) ∨
    (∃ p' r', P_Parser_takeBody (some a) p = some (0, p') ∧ (bn (R_number 1 240 r) fun r79 m80 => gd (inb (nj i) 750) (vb (wI m80 17 (ix (nj i)) r79) fun m86 => R_tellItem_501 (nj i) m86)) = some ((), r') ∧ Bi 0 a i l c t nm p r p' r') := by
  have la : a < mC p := h.T.lt (by rw [ha]; decide)
  unfold P_Parser_takeBody
  rw [gs_s, gt_t ha, h256, if_neg (show ¬ nj 38 = 32 by decide), if_neg (show ¬ nj 38 = 33 by decide), if_neg (show ¬ nj 38 = 34 by decide), if_neg (show ¬ nj 38 = 35 by decide), if_neg (show ¬ nj 38 = 36 by decide), if_neg (show ¬ nj 38 = 37 by decide), if_pos (show nj 38 = 38 from rfl)]
  rcases int_i (a := a) (i := i) h 1 240 (by omega) (by omega) with ⟨v, p1, r1, v1, b1, b2, b3, b4, b5, b6, b7, b8, b9, b10, b11⟩ | ⟨v, p1, r1, b1, b2, b3, b4⟩
  · left
    have b1' : P_Parser_takeInt 1 240 p = _ := b1
    have b2' : R_number 1 240 r = _ := b2
    rw [b1', bn_s, gt_t (by rw [b10]; exact ha), vb_e, gz_t (Or.inr rfl), b2', bn_s, inb_nj (by omega), gd_t (decide_eq_true hi), vb_e, ix_nj (by omega)]
    exact ⟨v, _, _, v1, rfl, rfl, (b3.wI (by omega)).sI (by omega) (by omega), (b4.wI (by omega) (by omega)).sI (by decide) (by omega), by rw [k_aI_wI_e, up1_ap, if_pos rfl], by rw [k_mI_sI_e, up1_ap, if_pos rfl, b5], b6, fun f f1 f2 f3 => by rw [k_mI_sI f3, b7 f f1 f2], b8, b9, b10, fun y j hy => by rw [k_aI_wI hy, b11]⟩
  · right
    have b1' : P_Parser_takeInt 1 240 p = _ := b1
    have b2' : R_number 1 240 r = _ := b2
    have e3 : mT p1 a = 3 := by rw [Ch.t b3.2.1.1 la]; exact ha
    have b3' : Bi 0 a i l c t nm p r (sI p1 265 a (mI p1 780 22)) (wI r1 17 i v) := (b3.wI (by omega) (by omega)).sI (by decide) (by omega) (by omega)
    obtain ⟨r'', d1, d2⟩ := b3'.go (F := fun m => R_tellItem_501 (nj i) m) h.p82 (fun d q hq _ => e501_f hq hi)
    rw [b1', bn_s, gt_t e3, vb_e, gz_t (Or.inl rfl), b2', bn_s, inb_nj (by omega), gd_t (decide_eq_true hi), vb_e, ix_nj (by omega)]
    exact ⟨_, r'', rfl, d1, d2⟩
theorem binds_j (h : Pi N kd pl x p r t nm l c) (ht : 4 ≤ t) (hi : i < 750) (h256 : mI p 256 a = nj 32) (ha : mT p a = 3) :
    (∃ p' r' t' l' c' nt, P_Parser_takeBody (some a) p = some (1, p') ∧ (bn (R_must 27 r) fun _ m41 => bn (R_cond m41) fun _ m45 => R_tellItem_501 (nj i) m45) = R_tellItem_501 (nj i) r' ∧ Pi N kd pl x p' r' t' nm l' c' ∧ Sp 1 a i l c p r p' r' t t' nm nm ∧ l < l' ∧ c ≤ c' ∧ aI r' 29 l = 1 ∧ (∀ k, l ≤ k → k < l' → aI r' 28 k = tI (odd (nt k))) ∧ (mI r' 1551 0 = 0 → ∀ k, l ≤ k → k < l' → WLit (rwD r' x) k) ∧ Arr p' (mC p) (conS (rwD r' x) nt false false (List.range' l (l' - l))) ∧ mR p' 263 a = some (mC p) ∧ mR p' 262 a = mR p 262 a ∧ (∀ f, 256 ≤ f → f ≤ 268 → f ≠ 262 → f ≠ 263 → mI p' f a = mI p f a ∧ mL p' f a = mL p f a) ∧ (∀ b, b < mC p → mT p' b = mT p b) ∧ (∀ y j, 15 ≤ y → y ≤ 26 → aI r' y j = aI r y j) ∧ ∀ k, l ≤ k → k < l' → LB r' k c') ∨
    (∃ p' r', P_Parser_takeBody (some a) p = some (0, p') ∧ (bn (R_must 27 r) fun _ m41 => bn (R_cond m41) fun _ m45 => R_tellItem_501 (nj i) m45) = some ((), r') ∧ Bi 0 a i l c t nm p r p' r') := by
  have la : a < mC p := h.T.lt (by rw [ha]; decide)
  unfold P_Parser_takeBody
  rw [gs_s, gt_t ha, h256, if_pos (show nj 32 = 32 from rfl)]
  rcases kind_i (a := a) (i := i) h 47 (by omega) (y := 27) rfl (by omega) with ⟨z, p1, r1, b1, b2, b3, b4, b5, b6, b7, b8, b9, b10⟩ | ⟨p1, r1, b1, b2, b3⟩
  · have b1' : P_Parser_takeKind 47 p = _ := b1
    have ec : mC p1 = mC p := by rw [b10, k_mC_sI]
    rw [b1', bn_s, if_neg (show ¬ (1 : Int32) = 0 by decide), b2, bn_s]
    rcases cond_i (a := a) (i := i) b3 (by omega) (by have := h.2.2.2.2.2.1; omega) (by rw [b8]; exact ha) with ⟨p2, r2, t2, l2, c2, nt, d1, d2, d3, d4, d5, d6, d7, d8, d9, d10, d11, d12, d13, d14, d15, d16, d17⟩ | ⟨p2, r2, d1, d2, d3⟩
    · left
      rw [d1, bn_s, if_neg (show ¬ (1 : Int32) = 0 by decide), d2, bn_s]
      rw [ec] at d11 d12 d15
      exact ⟨p2, r2, t2, l2, c2, nt, rfl, rfl, d3, Sp.trans (n := 0) (n' := 1) b4 d4 (Nat.le_refl _) (Nat.le_refl _), d6, d7, d8, d9, d10, d11, d12, by rw [d13, b7], fun f f1 f2 f3 f4 => by rw [(d14 f f1 f2 f3 f4).1, (d14 f f1 f2 f3 f4).2, b5 f (by omega), b6]; exact ⟨rfl, rfl⟩, fun b hb => by rw [d15 b hb, b8], fun y j y1 y2 => by rw [d16 y j y1 y2, b9], d17.2⟩
    · right
      obtain ⟨r'', g1, g2⟩ := d3.go (F := fun m => R_tellItem_501 (nj i) m) b3.p82 (fun d q hq _ => e501_f hq hi)
      rw [d1, bn_s, if_pos rfl, d2, bn_s]
      exact ⟨p2, r'', rfl, g1, Sp.bi (n := 0) (n' := 0) b4 g2 (Nat.le_refl _) (Nat.le_refl _)⟩
  · right
    have b1' : P_Parser_takeKind 47 p = _ := b1
    obtain ⟨r'', g1, g2⟩ := b3.go (F := fun m => bn (R_cond m) fun _ m45 => R_tellItem_501 (nj i) m45) h.p82 (fun d q hq _ => by
      rw [cond_f hq, bn_s]
      exact e501_f hq hi)
    rw [b1', bn_s, if_pos rfl, b2, bn_s]
    exact ⟨p1, r'', rfl, g1, g2⟩
/-- the reference in a failed state, behind margin's NAME -/
theorem mg_f {d q : Nat} {r : Mem} (h : Rf r d q) (hi : i < 750) (h82 : 82 ≤ mC r) : ∃ r', (bn (R_expression r) fun _ m110 => gd (inb (nj i) 750) (vb (wI m110 22 (ix (nj i)) (mI m110 1581 0)) fun m116 => R_tellItem_501 (nj i) m116)) = some ((), r') ∧ Rf r' d q ∧ Rj i r r' := by
  obtain ⟨r1, a1, a2, a3, -⟩ := expr_f h
  obtain ⟨r2, b1, b2, b3⟩ := e501_f (a2.wI (y := 22) (j := i) (v := mI r1 1581 0)) hi
  rw [a1, bn_s, inb_nj (by omega), gd_t (decide_eq_true hi), vb_e, ix_nj (by omega), b1]
  exact ⟨r2, rfl, b2, Rj.trans ((Rx.rj a3 h82).wI (by omega) (by omega)) b3⟩
theorem margin_j (h : Pi N kd pl x p r t nm l c) (ht : 4 ≤ t) (hi : i < 750) (h256 : mI p 256 a = nj 40) (ha : mT p a = 3) :
    (∃ v nm' p' r' t' L, P_Parser_takeBody (some a) p = some (1, p') ∧ (bn (R_name r) fun r1 m2 => gd (inb (nj i) 750) (vb (wI m2 16 (ix (nj i)) r1) fun m104 => bn (R_must 43 m104) fun _ m106 => bn (R_expression m106) fun _ m110 => gd (inb (nj i) 750) (vb (wI m110 22 (ix (nj i)) (mI m110 1581 0)) fun m116 => R_tellItem_501 (nj i) m116))) = R_tellItem_501 (nj i) r' ∧ Pi N kd pl x p' r' t' nm' l (c + L.length) ∧ Sp 1 a i l c p r p' r' t t' nm nm' ∧ v < nm' ∧ v < 600 ∧ aI r' 16 i = nj v ∧ mI p' 258 a = (if v < 60 then nj v else -1) ∧ aI r' 22 i = nj (c + L.length) ∧ Seg r' c L ∧ wfL L 0 1 ∧ mR p' 262 a = some (mC p) ∧ mR p' 263 a = mR p 263 a ∧ Arr p' (mC p) (L.map enN) ∧ (∀ f, 256 ≤ f → f ≤ 268 → f ≠ 262 → f ≠ 263 → (f ≠ 258 → mI p' f a = mI p f a) ∧ mL p' f a = mL p f a) ∧ (∀ b, b < mC p → mT p' b = mT p b) ∧ (∀ y j, 15 ≤ y → y ≤ 32 → y ≠ 16 → y ≠ 22 → aI r' y j = aI r y j)) ∨
    (∃ p' r', P_Parser_takeBody (some a) p = some (0, p') ∧ (bn (R_name r) fun r1 m2 => gd (inb (nj i) 750) (vb (wI m2 16 (ix (nj i)) r1) fun m104 => bn (R_must 43 m104) fun _ m106 => bn (R_expression m106) fun _ m110 => gd (inb (nj i) 750) (vb (wI m110 22 (ix (nj i)) (mI m110 1581 0)) fun m116 => R_tellItem_501 (nj i) m116))) = some ((), r') ∧ Bi 0 a i l c t nm p r p' r') := by
  have la : a < mC p := h.T.lt (by rw [ha]; decide)
  unfold P_Parser_takeBody
  rw [gs_s, gt_t ha, h256, if_neg (show ¬ nj 40 = 32 by decide), if_neg (show ¬ nj 40 = 33 by decide), if_neg (show ¬ nj 40 = 34 by decide), if_neg (show ¬ nj 40 = 35 by decide), if_neg (show ¬ nj 40 = 36 by decide), if_neg (show ¬ nj 40 = 37 by decide), if_neg (show ¬ nj 40 = 38 by decide), if_neg (show ¬ nj 40 = 39 by decide), if_pos (show nj 40 = 40 from rfl)]
  rcases iname_j (K := fun m104 => bn (R_must 43 m104) fun _ m106 => bn (R_expression m106) fun _ m110 => gd (inb (nj i) 750) (vb (wI m110 22 (ix (nj i)) (mI m110 1581 0)) fun m116 => R_tellItem_501 (nj i) m116)) h ha hi with ⟨v, nm', p1, r1, b1, b2, b3, b4, b5, b6, b7, b8, b9, b10, b11, b12⟩ | ⟨p1, r1, b1, b2, b3⟩
  · rw [b1, bn_s, if_neg (show ¬ (1 : Int32) = 0 by decide), b2]
    have ha1 : mT p1 a = 3 := by rw [b10 a la]; exact ha
    have ec1 : mC p1 = mC p := by have := b4.2.2.1; have := b4.2.2.2.1; omega
    rcases kind_i (a := a) (i := i) b3 55 (by omega) (y := 43) rfl (by omega) with ⟨z, p2, r2, d1, d2, d3, d4, d5, d6, d7, d8, d9, d10⟩ | ⟨p2, r2, d1, d2, d3⟩
    · have d1' : P_Parser_takeKind 55 p1 = _ := d1
      have ec2 : mC p2 = mC p := by rw [d10, k_mC_sI]; exact ec1
      rw [d1', bn_s, if_neg (show ¬ (1 : Int32) = 0 by decide), d2, bn_s]
      rcases sum_i (a := a) (i := i) d3 (by omega) (by rw [d8]; exact ha1) with ⟨p3, r3, t3, L, f1, f2, f3, f4, f5, f6, f7, f8, f9, f10, f11, f12, f13, f14, f15⟩ | ⟨p3, r3, f1, f2, f3⟩
      · left
        have h81 : mI r3 1581 0 = nj (c + L.length) := f3.2.2.2.2.2.2.1
        rw [f1, bn_s, if_neg (show ¬ (1 : Int32) = 0 by decide), f2, bn_s, inb_nj (by omega), gd_t (decide_eq_true hi), vb_e, ix_nj (by omega), h81]
        rw [ec2] at f8 f10 f12
        have hs : Sp 1 a i l c p r p3 r3 t t3 nm nm' := Sp.trans (n := 0) (n' := 1) b4 (Sp.trans (n := 0) (n' := 1) d4 f4 (Nat.le_refl _) (Nat.le_refl _)) (Nat.le_refl _) (Nat.le_refl _)
        refine ⟨v, nm', p3, _, t3, L, rfl, rfl, f3.wI (by omega), hs.wI (by omega) (by omega), b5, b6, by rw [k_aI_wI (by omega), f13 16 i (by omega) (by omega), d9]; exact b7, ?_, by rw [k_aI_wI_e, up1_ap, if_pos rfl], ?_, f7, f8, ?_, f10, fun q q1 q2 q3 q4 => ?_, fun b hb => by rw [f12 b hb, d8, b10 b hb], fun y j y1 y2 y3 y4 => by rw [k_aI_wI y4, f13 y j y1 y2, d9, b11 y j y1 (by omega) y3]⟩
        · rw [(f11 258 (by omega) (by omega) (by omega) (by omega)).1, d5 258 (by omega)]; exact b8
        · unfold Seg
          rw [k_aI_wI (by omega), k_aI_wI (by omega)]
          exact f6
        · rw [f9, d7]; exact (b9 263 (by omega) (by omega)).2.2
        · obtain ⟨w1, w2⟩ := f11 q q1 q2 q3 q4
          obtain ⟨w3, w4, w5⟩ := b9 q q1 q2
          exact ⟨fun w => by rw [w1, d5 q (by omega), w3 w], by rw [w2, d6, w4]⟩
      · right
        obtain ⟨r'', g1, g2⟩ := f3.go (F := fun m110 => gd (inb (nj i) 750) (vb (wI m110 22 (ix (nj i)) (mI m110 1581 0)) fun m116 => R_tellItem_501 (nj i) m116)) d3.p82 (fun d q hq h82 => by
          obtain ⟨r2, b1, b2, b3⟩ := e501_f (hq.wI (y := 22) (j := i) (v := mI r3 1581 0)) hi
          rw [inb_nj (by omega), gd_t (decide_eq_true hi), vb_e, ix_nj (by omega), b1]
          exact ⟨r2, rfl, b2, Rj.trans (Rj.rfl.wI (by omega) (by omega)) b3⟩)
        rw [f1, bn_s, if_pos rfl, f2, bn_s]
        exact ⟨p3, r'', rfl, g1, Sp.bi (n := 0) (n' := 0) b4 (Sp.bi (n := 0) (n' := 0) d4 g2 (Nat.le_refl _) (Nat.le_refl _)) (Nat.le_refl _) (Nat.le_refl _)⟩
    · right
      have d1' : P_Parser_takeKind 55 p1 = _ := d1
      obtain ⟨r'', g1, g2⟩ := d3.go (F := fun m => bn (R_expression m) fun _ m110 => gd (inb (nj i) 750) (vb (wI m110 22 (ix (nj i)) (mI m110 1581 0)) fun m116 => R_tellItem_501 (nj i) m116)) b3.p82 (fun d q hq h82 => mg_f hq hi h82)
      rw [d1', bn_s, if_pos rfl, d2, bn_s]
      exact ⟨p2, r'', rfl, g1, Sp.bi (n := 0) (n' := 0) b4 g2 (Nat.le_refl _) (Nat.le_refl _)⟩
  · right
    obtain ⟨r'', g1, g2⟩ := b3.go (F := fun m104 => bn (R_must 43 m104) fun _ m106 => bn (R_expression m106) fun _ m110 => gd (inb (nj i) 750) (vb (wI m110 22 (ix (nj i)) (mI m110 1581 0)) fun m116 => R_tellItem_501 (nj i) m116)) h.p82 (fun d q hq h82 => by
      rw [must_f hq, bn_s]
      exact mg_f hq hi h82)
    rw [b1, bn_s, if_pos rfl, b2]
    exact ⟨p1, r'', rfl, g1, g2⟩
end Io
