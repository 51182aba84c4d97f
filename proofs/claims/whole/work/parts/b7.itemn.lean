/-! Layer C: an ITEM's NAME, E, COND, with what the reference writes around them -/
section In
variable {N : Nat} {kd pl : Nat → Nat} {x a i l c : Nat} {p r : Mem} {t nm : Nat} {K : Mem → Option (Unit × Mem)}
theorem Sp.wI {n y : Nat} {v : Int32} {p1 r1 : Mem} {t1 nm1 : Nat} (h : Sp n a i l c p r p1 r1 t t1 nm nm1) (h1 : 15 ≤ y) (h2 : y ≤ 25) : Sp n a i l c p r p1 (wI r1 y i v) t t1 nm nm1 := by
  obtain ⟨s1, s2, s3, s4, s5, s6, s7, s8, s9, s10⟩ := h
  exact ⟨s1, s2.wI h1 h2, s3, s4, s5, s6, s7, s8, s9, s10⟩
theorem Sp.sI {n f : Nat} {v : Int32} {p1 r1 : Mem} {t1 nm1 : Nat} (h : Sp n a i l c p r p1 r1 t t1 nm nm1) (hf : f ∈ ItF) (h2 : f ≠ 771) : Sp n a i l c p r (sI p1 f a v) r1 t t1 nm nm1 := by
  obtain ⟨s1, s2, s3, s4, s5, s6, s7, s8, s9, s10⟩ := h
  exact ⟨s1.sI hf (Or.inl rfl), s2, s3, s4, s5, s6, s7, s8, s9, s10⟩
theorem Bi.wI {n y : Nat} {v : Int32} {p' r' : Mem} (h : Bi n a i l c t nm p r p' r') (h1 : 15 ≤ y) (h2 : y ≤ 25) : Bi n a i l c t nm p r p' (wI r' y i v) := by
  obtain ⟨⟨d, q, w1, w2, w3⟩, b2, b3, b4, b5, b6, b7⟩ := h
  exact ⟨⟨d, q, w1, w2, w3.wI⟩, b2, b3, b4, b5, b6.wI h1 h2, b7⟩
theorem Bi.sI {n f : Nat} {v : Int32} {p' r' : Mem} (h : Bi n a i l c t nm p r p' r') (hf : f ∈ ItG) (h1 : f ≠ 773) (h2 : f ≠ 774) : Bi n a i l c t nm p r (sI p' f a v) r' := by
  obtain ⟨⟨d, q, w1, w2, w3⟩, b2, b3, b4, b5, b6⟩ := h
  exact ⟨⟨d, q, by rw [k_mI_sI (by omega)]; exact w1, by rw [k_mI_sI (by omega)]; exact w2, w3⟩, ⟨Ch.sI b2.1 hf, fun b hb hn g g1 g2 => by
    have y := b2.2 b hb hn g g1 g2
    refine ⟨?_, y.2⟩
    have e : up2 (mI p') f a v g b = mI p' g b := up2_ne fun z => by omega
    exact e.trans y.1⟩, b3, b4, b5, b6⟩
/-- the ITEM's NAME -/
theorem iname_j (h : Pi N kd pl x p r t nm l c) (ha : mT p a = 3) (hi : i < 750) :
    (∃ v nm' p' r', P_Parser_takeItemName (some a) p = some (1, p') ∧ (bn (R_name r) fun r1 m2 => gd (inb (nj i) 750) (vb (wI m2 16 (ix (nj i)) r1) K)) = K r' ∧ Pi N kd pl x p' r' (t + 1) nm' l c ∧ Sp 0 a i l c p r p' r' t (t + 1) nm nm' ∧ v < nm' ∧ v < 600 ∧ aI r' 16 i = nj v ∧ mI p' 258 a = (if v < 60 then nj v else -1) ∧ (∀ f, 256 ≤ f → f ≤ 268 → (f ≠ 258 → mI p' f a = mI p f a) ∧ mL p' f a = mL p f a ∧ mR p' f a = mR p f a) ∧ (∀ b, b < mC p → mT p' b = mT p b) ∧ (∀ y j, 15 ≤ y → y ≤ 34 → y ≠ 16 → aI r' y j = aI r y j) ∧ mI r' 1551 0 = mI r 1551 0) ∨
    (∃ p' r', P_Parser_takeItemName (some a) p = some (0, p') ∧ (bn (R_name r) fun r1 m2 => gd (inb (nj i) 750) (vb (wI m2 16 (ix (nj i)) r1) K)) = K r' ∧ Bi 0 a i l c t nm p r p' r') := by
  have la : a < mC p := h.T.lt (by rw [ha]; decide)
  unfold P_Parser_takeItemName
  rcases name_i (a := a) (i := i) h with ⟨v, nm', p1, r1, b1, b2, b3, b4, b5, b6, b7, b8, b9, b10, b11⟩ | ⟨p1, r1, b1, b2, b3⟩
  · left
    rw [b1, bn_s, gs_s, gt_t (by rw [b9 a la]; exact ha), vb_e, gz_t (Or.inr rfl), b2, bn_s, inb_nj (by omega), gd_t (decide_eq_true hi), vb_e, ix_nj (by omega)]
    refine ⟨v, nm', _, _, rfl, rfl, (b3.wI (by omega)).sI (by omega) (by omega), (b4.wI (by omega) (by omega)).sI (by decide) (by omega), b5, b6, by rw [k_aI_wI_e, up1_ap, if_pos rfl], by rw [k_mI_sI_e, up1_ap, if_pos rfl, b7], fun f f1 f2 => ?_, fun b hb => by rw [k_mT_sI, b9 b hb], fun y j y1 y2 y3 => by rw [k_aI_wI y3, b10 y j y1 y2], b11⟩
    obtain ⟨w1, w2, w3⟩ := b8 f a f1 f2 la
    exact ⟨fun f3 => by rw [k_mI_sI f3, w1], w2, w3⟩
  · right
    have e3 : mT p1 a = 3 := by rw [Ch.t b3.2.1.1 la]; exact ha
    rw [b1, bn_s, gs_s, gt_t e3, vb_e, gz_t (Or.inl rfl), b2, bn_s, inb_nj (by omega), gd_t (decide_eq_true hi), vb_e, ix_nj (by omega)]
    exact ⟨_, _, rfl, rfl, (b3.wI (by omega) (by omega)).sI (by decide) (by omega) (by omega)⟩
/-- over, strike: a NAME alone -/
theorem only_j (h : Pi N kd pl x p r t nm l c) (ha : mT p a = 3) (hi : i < 750) :
    (∃ v nm' p' r', (bn (P_Parser_takeItemName (some a) p) fun r15 m16 => gz r15 (some (r15, m16))) = some (1, p') ∧ (bn (R_name r) fun r1 m2 => gd (inb (nj i) 750) (vb (wI m2 16 (ix (nj i)) r1) fun m => R_tellItem_501 (nj i) m)) = R_tellItem_501 (nj i) r' ∧ Pi N kd pl x p' r' (t + 1) nm' l c ∧ Sp 0 a i l c p r p' r' t (t + 1) nm nm' ∧ v < nm' ∧ v < 600 ∧ aI r' 16 i = nj v ∧ mI p' 258 a = (if v < 60 then nj v else -1) ∧ (∀ f, 256 ≤ f → f ≤ 268 → (f ≠ 258 → mI p' f a = mI p f a) ∧ mL p' f a = mL p f a ∧ mR p' f a = mR p f a) ∧ (∀ b, b < mC p → mT p' b = mT p b) ∧ (∀ y j, 15 ≤ y → y ≤ 34 → y ≠ 16 → aI r' y j = aI r y j) ∧ mI r' 1551 0 = mI r 1551 0) ∨
    (∃ p' r', (bn (P_Parser_takeItemName (some a) p) fun r15 m16 => gz r15 (some (r15, m16))) = some (0, p') ∧ (bn (R_name r) fun r1 m2 => gd (inb (nj i) 750) (vb (wI m2 16 (ix (nj i)) r1) fun m => R_tellItem_501 (nj i) m)) = some ((), r') ∧ Bi 0 a i l c t nm p r p' r') := by
  rcases iname_j (K := fun m => R_tellItem_501 (nj i) m) h ha hi with ⟨v, nm', p', r', b1, b2, b3⟩ | ⟨p', r', b1, b2, b3⟩
  · left
    rw [b1, bn_s, gz_t (Or.inr rfl), b2]
    exact ⟨v, nm', p', r', rfl, rfl, b3⟩
  · right
    obtain ⟨r'', d1, d2⟩ := b3.go (F := fun m => R_tellItem_501 (nj i) m) h.p82 (fun d q hq _ => e501_f hq hi)
    rw [b1, bn_s, gz_t (Or.inl rfl), b2]
    exact ⟨p', r'', rfl, d1, d2⟩
/-- choose -/
theorem ch_e : ∀ k, k < 60 → P_within (nj k) 51 53 = some (tI (decide (51 ≤ k ∧ k ≤ 53))) ∧ (51 ≤ k ∧ k ≤ 53 → nj (kM k) - 35 = nj (k - 51)) ∧ (¬ (51 ≤ k ∧ k ≤ 53) → nj (kM k) - 35 < 0 ∨ ¬ nj (kM k) - 35 ≤ 2) := by decide +kernel
theorem choose_j (h : Pi N kd pl x p r t nm l c) (hi : i < 750) (h256 : mI p 256 a = nj 35) (ha : mT p a = 3) :
    (∃ k p' r', k < 3 ∧ P_Parser_takeBody (some a) p = some (1, p') ∧ (gd (inb (mI r 1547 0) 503) (vb (aI r 3 (ix (mI r 1547 0)) - 35 : Int32) fun v64 => if mI r 1549 0 = 0 then (if v64 < 0 then R_tellItem_426 (nj i) v64 r else if v64 ≤ 2 then R_tellItem_431 (nj i) v64 r else R_tellItem_426 (nj i) v64 r) else R_tellItem_431 (nj i) v64 r)) = R_tellItem_501 (nj i) r' ∧ Pi N kd pl x p' r' (t + 1) nm l c ∧ Sp 0 a i l c p r p' r' t (t + 1) nm nm ∧ aI r' 17 i = nj k ∧ mI p' 265 a = nj (k + 51) ∧ (∀ f, f ≠ 265 → f ≠ 779 → mI p' f = mI p f) ∧ mL p' = mL p ∧ mR p' = mR p ∧ mT p' = mT p ∧ (∀ y j, y ≠ 17 → aI r' y j = aI r y j) ∧ mI r' 1551 0 = mI r 1551 0) ∨
    (∃ p' r', P_Parser_takeBody (some a) p = some (0, p') ∧ (gd (inb (mI r 1547 0) 503) (vb (aI r 3 (ix (mI r 1547 0)) - 35 : Int32) fun v64 => if mI r 1549 0 = 0 then (if v64 < 0 then R_tellItem_426 (nj i) v64 r else if v64 ≤ 2 then R_tellItem_431 (nj i) v64 r else R_tellItem_426 (nj i) v64 r) else R_tellItem_431 (nj i) v64 r)) = some ((), r') ∧ Bi 0 a i l c t nm p r p' r') := by
  have hT := h.tN
  have hk := h.kd3
  obtain ⟨w1, w2, w3⟩ := ch_e (kd t) hk.1
  unfold P_Parser_takeBody
  rw [gs_s, gt_t ha, h256, if_neg (show ¬ nj 35 = 32 by decide), if_neg (show ¬ nj 35 = 33 by decide), if_neg (show ¬ nj 35 = 34 by decide), if_pos (show nj 35 = 35 from rfl), h.1.2.2.1, inb_nj (by omega), gd_t (decide_eq_true (by omega)), vb_e, k_mI_sI_e, up1_ap, if_pos rfl, ix_nj (by omega), hk.2.1, w1, bp_s, h.1.2.2.2.1, inb_nj (by omega), gd_t (decide_eq_true (by omega)), vb_e, ix_nj (by omega), hk.2.2, h.1.2.2.2.2.1, if_pos rfl]
  have hs : Pi N kd pl x (sI p 265 a (nj (kd t))) r t nm l c := h.sI (by omega) (by omega)
  by_cases z : 51 ≤ kd t ∧ kd t ≤ 53
  · rw [decide_eq_true z, tI_t, if_neg (show ¬ (1 : Int32) = 0 by decide), w2 z, if_neg (by rw [nj_lt_l (by omega) (by omega)]; omega), if_pos (by rw [nj_le_l (by omega) (by omega)]; omega)]
    unfold R_tellItem_431
    rw [inb_nj (by omega), gd_t (decide_eq_true hi), vb_e, ix_nj (by omega)]
    have hw : Pi N kd pl x (sI p 265 a (nj (kd t))) (wI r 17 i (nj (kd t - 51))) t nm l c := hs.wI (by omega)
    have hS0 : Sp 0 a i l c p r (sI p 265 a (nj (kd t))) (wI r 17 i (nj (kd t - 51))) t t nm nm := Sp.sI (Sp.wI ⟨Ci.rfl, Ri.rfl, Nat.le_refl _, by omega, by omega, Nat.le_refl _, Nat.le_refl _, fun _ _ => rfl, fun _ _ => rfl, fun q => q⟩ (by omega) (by omega)) (by decide) (by omega)
    rcases take_i (a := a) (i := i) hw (by omega) with ⟨p1, r1, d1, d2, d3, d4, d5, d6, d7, d8, d9, d10, d11⟩ | ⟨p1, r1, d1, d2, d3⟩
    · left
      rw [d1, bn_s, gz_t (Or.inr rfl), d2, bn_s]
      refine ⟨kd t - 51, p1, r1, by omega, rfl, rfl, d3, Sp.trans (n := 0) (n' := 0) hS0 d4 (Nat.le_refl _) (Nat.le_refl _), by rw [d9, k_aI_wI_e, up1_ap, if_pos rfl], by rw [d5 265 (by omega), k_mI_sI_e, up1_ap, if_pos rfl, show kd t - 51 + 51 = kd t by omega], fun f f1 f2 => by rw [d5 f f2, k_mI_sI f1], by rw [d6, k_mL_sI], by rw [d7, k_mR_sI], by rw [d8, k_mT_sI], fun y j hy => by rw [d9, k_aI_wI hy], by rw [d11, k_mI_sI (by omega), k_mI_wI]⟩
    · right
      obtain ⟨r'', g1, g2⟩ := d3.go (F := fun m => R_tellItem_501 (nj i) m) hw.p82 (fun d q hq _ => e501_f hq hi)
      rw [d1, bn_s, gz_t (Or.inl rfl), d2, bn_s]
      exact ⟨p1, r'', rfl, g1, Sp.bi (n := 0) (n' := 0) hS0 g2 (Nat.le_refl _) (Nat.le_refl _)⟩
  · right
    rw [decide_eq_false z, tI_f, if_pos rfl]
    obtain ⟨p', r', a1, a2, a3, q, a4⟩ := fail_i (a := a) (i := i) (l := l) (c := c) hs 1 (Or.inl rfl)
    have a1' : P_Parser_fail 1 (sI p 265 a (nj (kd t))) = _ := a1
    have a2' : R_fail 1 r = _ := a2
    have hS0 : Sp 0 a i l c p r (sI p 265 a (nj (kd t))) r t t nm nm := Sp.sI ⟨Ci.rfl, Ri.rfl, Nat.le_refl _, by omega, by omega, Nat.le_refl _, Nat.le_refl _, fun _ _ => rfl, fun _ _ => rfl, fun q => q⟩ (by decide) (by omega)
    obtain ⟨r'', g1, g2⟩ := a3.go (F := fun m => R_tellItem_431 (nj i) (nj (kM (kd t)) - 35) m) h.p82 (fun d q hq h82 => by
      unfold R_tellItem_431
      rw [inb_nj (by omega), gd_t (decide_eq_true hi), vb_e, ix_nj (by omega)]
      obtain ⟨r1, f1, f2, f3⟩ := next_f (hq.wI (y := 17) (j := i) (v := nj (kM (kd t)) - 35))
      obtain ⟨r2, g1, g2, g3⟩ := e501_f f2 hi
      rw [f1, bn_s, g1]
      exact ⟨r2, rfl, g2, Rj.trans (Rj.trans (Rj.rfl.wI (by omega) (by omega)) (Rx.rj f3 h82)) g3⟩)
    have e426 : R_tellItem_426 (nj i) (nj (kM (kd t)) - 35) r = some ((), r'') := by
      unfold R_tellItem_426
      rw [a2', bn_s]
      exact g1
    rw [a1', bn_s, gz_t (Or.inl rfl)]
    refine ⟨p', r'', rfl, ?_, Sp.bi (n := 0) (n' := 0) hS0 g2 (Nat.le_refl _) (Nat.le_refl _)⟩
    rcases w3 z with e | e
    · rw [if_pos e, e426]
    · rw [if_neg e, e426]
      split <;> rfl
end In
