/-! Layer C: the end of an ITEM, both sides -/
section Ie
variable {N : Nat} {kd pl : Nat → Nat} {x a i l c : Nat} {p r : Mem} {t nm : Nat}
theorem iend_j (h : Pi N kd pl x p r t nm l c) (hi : i < 750) {k : Nat} (hx : mI r 1588 0 = nj x) (h14 : aI r 14 x = nj k) :
    (∃ p' r1, P_Parser_takeKind 4 p = some (1, p') ∧ R_tellItem_501 (nj i) r = some ((), wI r1 14 x (nj (k + 1))) ∧ Pi N kd pl x p' (wI r1 14 x (nj (k + 1))) (t + 1) nm l c ∧ Sp 0 a i l c p r p' r1 t (t + 1) nm nm ∧ aI r1 24 i = nj l ∧ (∀ f, f ≠ 779 → mI p' f = mI p f) ∧ mL p' = mL p ∧ mR p' = mR p ∧ mT p' = mT p ∧ (∀ y j, y ≠ 24 → aI r1 y j = aI r y j)) ∨
    (∃ p' r', P_Parser_takeKind 4 p = some (0, p') ∧ R_tellItem_501 (nj i) r = some ((), r') ∧ Bi 0 a i l c t nm p r p' r') := by
  have hx23 : x ≤ 23 := h.2.2.2.2.2.2.2.2.2
  unfold R_tellItem_501
  rcases kind_i (a := a) (i := i) h 4 (by omega) (y := 4) rfl (by omega) with ⟨z, p1, r1, b1, b2, b3, b4, b5, b6, b7, b8, b9, b10⟩ | ⟨p1, r1, b1, b2, b3⟩
  · left
    have b1' : P_Parser_takeKind 4 p = _ := b1
    have h80 : mI r1 1580 0 = nj l := b3.2.2.2.1
    have h0 : mI r1 1549 0 = 0 := b3.1.2.2.2.2.1
    have hx1 : mI r1 1588 0 = nj x := by
      have := b4.2.1.1.i (f := 1588) (a := 0) (by decide) (by have := h.p82; omega)
      rw [this]; exact hx
    rw [b1', b2, bn_s, inb_nj (by omega), gd_t (decide_eq_true hi), vb_e, ix_nj (by omega), h80, k_mI_wI, h0, if_pos rfl, hx1, inb_nj (by omega), gd_t (decide_eq_true (by omega)), gd_t (decide_eq_true (by omega)), vb_e, ix_nj (by omega), k_aI_wI (by omega), b9, h14, nj_add_l]
    exact ⟨p1, wI r1 24 i (nj l), rfl, rfl, (b3.wI (by omega)).wI (by omega), b4.wI (by omega) (by omega), by rw [k_aI_wI_e, up1_ap, if_pos rfl], b5, b6, b7, b8, fun y j hy => by rw [k_aI_wI hy, b9]⟩
  · right
    have b1' : P_Parser_takeKind 4 p = _ := b1
    obtain ⟨⟨d, q, w1, w2, w3⟩, -⟩ := id b3
    have hf : Rf (wI r1 24 i (mI r1 1580 0)) d q := w3.wI
    rw [b1', b2, bn_s, inb_nj (by omega), gd_t (decide_eq_true hi), vb_e, ix_nj (by omega), if_neg hf.ne.1]
    exact ⟨p1, _, rfl, rfl, b3.wI (by omega) (by omega)⟩
end Ie
