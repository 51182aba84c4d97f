/-! Layer C: a class's margin or tie, both sides -/
section Cm
variable {N : Nat} {kd pl : Nat → Nat} {x a i l c : Nat} {p r : Mem} {t nm : Nat}
/-- the E of a class -/
theorem e159_j (h : Pi N kd pl x p r t nm l c) (ht : 5 ≤ t) (hi : i < 750) (ha : mT p a = 3) :
    (∃ p' r' t' L, (bn (P_Parser_takeFormula (some a) 0 p) fun r8 m9 => if r8 = 0 then some ((0 : Int32), m9) else some ((1 : Int32), m9)) = some (1, p') ∧ R_tellClass_159 (nj i) r = some ((), r') ∧ Pi N kd pl x p' r' t' nm l (c + L.length) ∧ Sp 1 a i l c p r p' r' t t' nm nm ∧ aI r' 21 i = nj c ∧ aI r' 22 i = nj (c + L.length) ∧ Seg r' c L ∧ wfL L 0 1 ∧ mR p' 262 a = some (mC p) ∧ mR p' 263 a = mR p 263 a ∧ Arr p' (mC p) (L.map enN) ∧ (∀ f, 256 ≤ f → f ≤ 268 → f ≠ 262 → f ≠ 263 → mI p' f a = mI p f a ∧ mL p' f a = mL p f a) ∧ (∀ b, b < mC p → mT p' b = mT p b) ∧ (∀ y j, 15 ≤ y → y ≤ 32 → y ≠ 21 → y ≠ 22 → aI r' y j = aI r y j)) ∨
    (∃ p' r', (bn (P_Parser_takeFormula (some a) 0 p) fun r8 m9 => if r8 = 0 then some ((0 : Int32), m9) else some ((1 : Int32), m9)) = some (0, p') ∧ R_tellClass_159 (nj i) r = some ((), r') ∧ Bi 0 a i l c t nm p r p' r') := by
  have g : ∀ {β : Type} (z : Option β), gd (inb (nj i) 750) z = z := fun z => by rw [inb_nj (by omega), gd_t (decide_eq_true hi)]
  have h81 : mI r 1581 0 = nj c := h.2.2.2.2.2.2.1
  unfold R_tellClass_159
  rw [g, vb_e, ix_nj (by omega), h81]
  have hP : Pi N kd pl x p (wI r 21 i (nj c)) t nm l c := h.wI (by omega)
  have hS : Sp 0 a i l c p r p (wI r 21 i (nj c)) t t nm nm := Sp.wI Sp.self (by omega) (by omega)
  rcases sum_i (a := a) (i := i) hP ht ha with ⟨p2, r2, t2, L, f1, f2, f3, f4, f5, f6, f7, f8, f9, f10, f11, f12, f13, f14, f15⟩ | ⟨p2, r2, f1, f2, f3⟩
  · left
    have h812 : mI r2 1581 0 = nj (c + L.length) := f3.2.2.2.2.2.2.1
    rw [f1, bn_s, if_neg (show ¬ (1 : Int32) = 0 by decide), f2, bn_s, g, vb_e, h812]
    refine ⟨p2, _, t2, L, rfl, rfl, f3.wI (by omega), Sp.wI (Sp.trans (n := 0) (n' := 1) hS f4 (Nat.le_refl _) (Nat.le_refl _)) (by omega) (by omega), by rw [k_aI_wI (by omega), f13 21 i (by omega) (by omega), k_aI_wI_e, up1_ap, if_pos rfl], by rw [k_aI_wI_e, up1_ap, if_pos rfl], ?_, f7, f8, f9, f10, f11, f12, fun y j y1 y2 y3 y4 => by rw [k_aI_wI y4, f13 y j y1 y2, k_aI_wI y3]⟩
    unfold Seg
    rw [k_aI_wI (by omega), k_aI_wI (by omega)]
    exact f6
  · right
    rw [f1, bn_s, if_pos rfl, f2, bn_s, g, vb_e]
    exact ⟨p2, _, rfl, rfl, (Sp.bi (n := 0) (n' := 0) hS f3 (Nat.le_refl _) (Nat.le_refl _)).wI (by omega) (by omega)⟩
/-- a NAME of a tie -/
theorem tname_j (h : Pi N kd pl x p r t nm l c) (ha : mT p a = 3) (hi : i < 750) (f y : Nat) (hf : f = 260 ∨ f = 261) (hy : y = 19 ∨ y = 20) :
    (∃ v nm' p' r', P_Parser_takeName p = some (1, p') ∧ R_name r = some (nj v, r') ∧ mT p' a = 3 ∧ mC p' = mC p ∧ Pi N kd pl x (sI p' f a (mI p' 780 22)) (wI r' y i (nj v)) (t + 1) nm' l c ∧ Sp 0 a i l c p r (sI p' f a (mI p' 780 22)) (wI r' y i (nj v)) t (t + 1) nm nm' ∧ v < nm' ∧ v < 600 ∧ mI (sI p' f a (mI p' 780 22)) f a = (if v < 60 then nj v else -1) ∧ aI (wI r' y i (nj v)) y i = nj v ∧ (∀ q, 256 ≤ q → q ≤ 268 → (q ≠ f → mI (sI p' f a (mI p' 780 22)) q a = mI p q a) ∧ mL (sI p' f a (mI p' 780 22)) q a = mL p q a ∧ mR (sI p' f a (mI p' 780 22)) q a = mR p q a) ∧ (∀ b, b < mC p → mT (sI p' f a (mI p' 780 22)) b = mT p b) ∧ (∀ z j, 15 ≤ z → z ≤ 34 → z ≠ y → aI (wI r' y i (nj v)) z j = aI r z j)) ∨
    (∃ p' r', P_Parser_takeName p = some (0, p') ∧ R_name r = some (0, r') ∧ Bi 0 a i l c t nm p r p' (wI r' y i 0)) := by
  have la : a < mC p := h.T.lt (by rw [ha]; decide)
  rcases name_i (a := a) (i := i) h with ⟨v, nm', p1, r1, b1, b2, b3, b4, b5, b6, b7, b8, b9, b10, b11⟩ | ⟨p1, r1, b1, b2, b3⟩
  · left
    refine ⟨v, nm', p1, r1, b1, b2, by rw [b9 a la]; exact ha, by have := b4.2.2.1; have := b4.2.2.2.1; omega, (b3.wI (by omega)).sI (by omega) (by omega), (b4.wI (by omega) (by omega)).sI (by rcases hf with rfl | rfl <;> decide) (by omega), b5, b6, by rw [k_mI_sI_e, up1_ap, if_pos rfl, b7], by rw [k_aI_wI_e, up1_ap, if_pos rfl], fun q q1 q2 => ?_, fun b hb => by rw [k_mT_sI, b9 b hb], fun z j z1 z2 z3 => by rw [k_aI_wI z3, b10 z j z1 z2]⟩
    obtain ⟨w1, w2, w3⟩ := b8 q a q1 q2 la
    exact ⟨fun w => by rw [k_mI_sI w, w1], w2, w3⟩
  · right
    exact ⟨p1, r1, b1, b2, b3.wI (by omega) (by omega)⟩
end Cm
