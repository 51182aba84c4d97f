/-! Layer C: one ITEM, both sides -/
theorem RBod_f {r : Mem} {i d q s : Nat} (hs : s ≤ 8) (h : Rf r d q) (hi : i < 750) (h82 : 82 ≤ mC r) : ∃ r', RBod (nj s) (nj i) r = some ((), r') ∧ Rf r' d q ∧ Rj i r r' := by
  have g : ∀ {β : Type} (z : Option β), gd (inb (nj i) 750) z = z := fun z => by rw [inb_nj (by omega), gd_t (decide_eq_true hi)]
  have hz : ix (nj i) = i := ix_nj (by omega)
  have w16 : ∃ r', R_tellItem_501 (nj i) (wI r 16 i 0) = some ((), r') ∧ Rf r' d q ∧ Rj i r r' := by
    obtain ⟨r', a1, a2, a3⟩ := e501_f (h.wI (y := 16) (j := i) (v := 0)) hi
    exact ⟨r', a1, a2, Rj.trans (Rj.rfl.wI (by omega) (by omega)) a3⟩
  have wL : ∃ r', (bn (R_tellLoad (nj i) r) fun _ m70 => R_tellItem_501 (nj i) m70) = some ((), r') ∧ Rf r' d q ∧ Rj i r r' := by
    obtain ⟨r1, a1, a2, a3⟩ := tellLoad_f h hi h82
    obtain ⟨r', b1, b2, b3⟩ := e501_f a2 hi
    rw [a1, bn_s, b1]
    exact ⟨r', rfl, b2, Rj.trans a3 b3⟩
  unfold RBod
  rcases (show s = 0 ∨ s = 1 ∨ s = 2 ∨ s = 3 ∨ s = 4 ∨ s = 5 ∨ s = 6 ∨ s = 7 ∨ s = 8 by omega) with e | e | e | e | e | e | e | e | e <;> subst e
  · rw [if_pos (show nj 0 = 0 by decide), must_f h, bn_s, cond_f h, bn_s]
    exact e501_f h hi
  · rw [if_neg (show ¬ nj 1 = 0 by decide), if_pos (show nj 1 = 1 from rfl), name_f h, bn_s, g, vb_e, hz]
    exact w16
  · obtain ⟨r1, a1, a2, a3⟩ := tellClass_f h hi h82
    obtain ⟨r', b1, b2, b3⟩ := e501_f a2 hi
    rw [if_neg (show ¬ nj 2 = 0 by decide), if_neg (show ¬ nj 2 = 1 by decide), if_pos (show nj 2 = 2 from rfl), a1, bn_s, b1]
    exact ⟨r', rfl, b2, Rj.trans a3 b3⟩
  · obtain ⟨u, u1, u2⟩ := h.2.2.2
    rw [if_neg (show ¬ nj 3 = 0 by decide), if_neg (show ¬ nj 3 = 1 by decide), if_neg (show ¬ nj 3 = 2 by decide), if_pos (show nj 3 = 3 from rfl), u2, inb_nj (by omega), gd_t (decide_eq_true (by omega)), vb_e, if_neg h.ne.1]
    unfold R_tellItem_431
    rw [g, vb_e, hz]
    obtain ⟨r1, f1, f2, f3⟩ := next_f (h.wI (y := 17) (j := i) (v := aI r 3 (ix (nj u)) - 35))
    obtain ⟨r2, g1, g2, g3⟩ := e501_f f2 hi
    rw [f1, bn_s, g1]
    exact ⟨r2, rfl, g2, Rj.trans (Rj.trans (Rj.rfl.wI (by omega) (by omega)) (Rx.rj f3 h82)) g3⟩
  · rw [if_neg (show ¬ nj 4 = 0 by decide), if_neg (show ¬ nj 4 = 1 by decide), if_neg (show ¬ nj 4 = 2 by decide), if_neg (show ¬ nj 4 = 3 by decide), if_pos (show nj 4 = 4 from rfl)]
    exact wL
  · rw [if_neg (show ¬ nj 5 = 0 by decide), if_neg (show ¬ nj 5 = 1 by decide), if_neg (show ¬ nj 5 = 2 by decide), if_neg (show ¬ nj 5 = 3 by decide), if_neg (show ¬ nj 5 = 4 by decide), if_pos (show nj 5 = 5 from rfl)]
    exact wL
  · rw [if_neg (show ¬ nj 6 = 0 by decide), if_neg (show ¬ nj 6 = 1 by decide), if_neg (show ¬ nj 6 = 2 by decide), if_neg (show ¬ nj 6 = 3 by decide), if_neg (show ¬ nj 6 = 4 by decide), if_neg (show ¬ nj 6 = 5 by decide), if_pos (show nj 6 = 6 from rfl), number_f h, bn_s, g, vb_e, hz]
    obtain ⟨r', a1, a2, a3⟩ := e501_f (h.wI (y := 17) (j := i) (v := 0)) hi
    exact ⟨r', a1, a2, Rj.trans (Rj.rfl.wI (by omega) (by omega)) a3⟩
  · rw [if_neg (show ¬ nj 7 = 0 by decide), if_neg (show ¬ nj 7 = 1 by decide), if_neg (show ¬ nj 7 = 2 by decide), if_neg (show ¬ nj 7 = 3 by decide), if_neg (show ¬ nj 7 = 4 by decide), if_neg (show ¬ nj 7 = 5 by decide), if_neg (show ¬ nj 7 = 6 by decide), if_pos (show nj 7 = 7 from rfl), name_f h, bn_s, g, vb_e, hz]
    exact w16
  · have h1 : Rf (wI r 16 i 0) d q := h.wI
    obtain ⟨r1, a1, a2, a3, -⟩ := expr_f h1
    obtain ⟨r', b1, b2, b3⟩ := e501_f (a2.wI (y := 22) (j := i) (v := mI r1 1581 0)) hi
    rw [if_neg (show ¬ nj 8 = 0 by decide), if_neg (show ¬ nj 8 = 1 by decide), if_neg (show ¬ nj 8 = 2 by decide), if_neg (show ¬ nj 8 = 3 by decide), if_neg (show ¬ nj 8 = 4 by decide), if_neg (show ¬ nj 8 = 5 by decide), if_neg (show ¬ nj 8 = 6 by decide), if_neg (show ¬ nj 8 = 7 by decide), if_pos (show nj 8 = 8 from rfl), name_f h, bn_s, g, vb_e, hz, must_f h1, bn_s, a1, bn_s, g, vb_e, b1]
    exact ⟨r', rfl, b2, Rj.trans ((Rj.trans (Rj.rfl.wI (by omega) (by omega)) (Rx.rj a3 h82)).wI (by omega) (by omega)) b3⟩
section Ij
variable {N : Nat} {kd pl : Nat → Nat} {x l c k s a s1 c1 : Nat} {q rr : Mem} {t nm : Nat} {K : Int32 → Mem → Option (Int32 × Mem)}
theorem FrP.s779 {v : Int32} (h : FrP a s1 c1 q) : FrP a s1 c1 (sI q 779 22 v) := by
  obtain ⟨p1, p2, p3, p4, p5, p6, p7, p8, p9, p10, p11, p12⟩ := h
  exact ⟨by rw [k_mI_sI (by omega)]; exact p1, by rw [k_mI_sI (by omega)]; exact p2, by rw [k_mI_sI (by omega)]; exact p3, by rw [k_mI_sI (by omega)]; exact p4, by rw [k_mL_sI]; exact p5, by rw [k_mR_sI]; exact p6, by rw [k_mR_sI]; exact p7, p8, p9, by unfold Arr; rw [k_mT_sI, k_mN_sI, k_aI_sI]; exact p10, by unfold Arr; rw [k_mT_sI, k_mN_sI, k_aI_sI]; exact p11, p12⟩
theorem item_c (hJ : Pj N kd pl x q rr t nm l c) (h2 : 2 ≤ kd t) (ht : 5 ≤ t) (hk : k < 30) (hs : s ≤ 8) (h51 : 51 ≤ a) (ha : mT q a = 3) (hfr : FrP a s1 c1 q) (h256 : mI q 256 a = nj (s + 32)) (h24 : aR q 24 k = some a) (hx : mI rr 1588 0 = nj x) (h14 : aI rr 14 x = nj k) :
    (∃ p' r' t' nm' l' c' sA cA, P_Parser_takeItems_125 K (nj k) q = K (nj (k + 1)) p' ∧ R_tellItem_221 (nj s) rr = some ((), wI r' 14 x (nj (k + 1))) ∧ Pi N kd pl x p' (wI r' 14 x (nj (k + 1))) t' nm' l' c' ∧ Sp 2 a (30 * x + k) l c q rr p' r' t t' nm nm' ∧ l ≤ l' ∧ c ≤ c' ∧ t < t' ∧ (a < sA ∧ a < cA) ∧ Got p' (wI r' 14 x (nj (k + 1))) x (30 * x + k) a nm' l l' c' s sA cA ∧ aI r' 24 (30 * x + k) = nj l') ∨
    (∃ p' r', P_Parser_takeItems_125 K (nj k) q = some (0, p') ∧ R_tellItem_221 (nj s) rr = some ((), r') ∧ Bi 2 a (30 * x + k) l c t nm q rr p' r') := by
  have hx23 : x ≤ 23 := hJ.2.2.2.2.2.2.2.2.2
  have h80 : mI rr 1580 0 = nj l := hJ.2.2.2.1
  have h81 : mI rr 1581 0 = nj c := hJ.2.2.2.2.2.2.1
  have hi : 30 * x + k < 750 := by omega
  have h82 : 82 ≤ mC rr := hJ.1.2.2.2.2.2.2.2.2.2.1
  have T : Top q := hJ.1.2.2.2.2.2.2.2.2.1
  have la : a < mC q := T.lt (by rw [ha]; decide)
  have hN := hJ.1.1.2.1
  have htN := hJ.1.2.1
  rw [e221_e hx hx23 h14 hk h80 h81]
  have hJ2 : Pj N kd pl x q (itR rr (30 * x + k) (nj s) l c) t nm l c := by
    unfold itR
    exact (((((((hJ.wI (by omega)).wI (by omega)).wI (by omega)).wI (by omega)).wI (by omega)).wI (by omega)).wI (by omega)).wI (by omega)
  have hR2 : Ri (30 * x + k) l c rr (itR rr (30 * x + k) (nj s) l c) := by
    unfold itR
    exact ((((((((Ri.rfl).wI (by omega) (by omega)).wI (by omega) (by omega)).wI (by omega) (by omega)).wI (by omega) (by omega)).wI (by omega) (by omega)).wI (by omega) (by omega)).wI (by omega) (by omega)).wI (by omega) (by omega)
  have hF2 : FrR (30 * x + k) s l c (itR rr (30 * x + k) (nj s) l c) := by
    unfold FrR itR
    refine ⟨?_, ?_, ?_, ?_, ?_, ?_, ?_, ?_⟩ <;> simp [k_aI_wI_e, k_aI_wI, k_aI_wL, k_aI_wR, k_aI_sI, k_aI_sL, k_aI_sR, k_aI_nw, k_aL_wL_e, k_aL_wL, k_aL_wI, k_aL_wR, k_aL_sI, k_aL_sL, k_aL_sR, k_aL_nw, k_aR_wR_e, k_aR_wR, k_aR_wI, k_aR_wL, k_aR_sI, k_aR_sL, k_aR_sR, k_aR_nw, k_mI_sI_e, k_mI_sI, k_mI_wI, k_mI_wL, k_mI_wR, k_mI_sL, k_mI_sR, k_mI_nw, k_mL_sL_e, k_mL_sL, k_mL_wI, k_mL_wL, k_mL_wR, k_mL_sI, k_mL_sR, k_mL_nw, k_mR_sR_e, k_mR_sR, k_mR_wI, k_mR_wL, k_mR_wR, k_mR_sI, k_mR_sL, k_mR_nw, k_mT_wI, k_mT_wL, k_mT_wR, k_mT_sI, k_mT_sL, k_mT_sR, k_mT_nw, k_mN_wI, k_mN_wL, k_mN_wR, k_mN_sI, k_mN_sL, k_mN_sR, k_mN_nw, k_mC_wI, k_mC_wL, k_mC_wR, k_mC_sI, k_mC_sL, k_mC_sR, k_mC_nw, k_mS_wI, k_mS_wL, k_mS_wR, k_mS_sI, k_mS_sL, k_mS_sR, k_mS_nw, k_zF_1, k_zF_3, k_zF_11, k_zF_32, k_zF_36, k_zA_1, k_zA_3, k_zA_11, k_zA_32, k_zA_36, k_mT_fil, k_mN_fil, k_mI_fil, k_mL_fil, k_mR_fil, k_aL_fil, k_aR_fil, k_mC_fil, k_mS_fil, k_aI_fil_e, k_aI_fil, up1_ap]
  have e2 : mI (itR rr (30 * x + k) (nj s) l c) = mI rr := by
    unfold itR
    simp only [k_mI_wI]
  have e14 : aI (itR rr (30 * x + k) (nj s) l c) 14 = aI rr 14 := by
    unfold itR
    rw [k_aI_wI (by omega), k_aI_wI (by omega), k_aI_wI (by omega), k_aI_wI (by omega), k_aI_wI (by omega), k_aI_wI (by omega), k_aI_wI (by omega), k_aI_wI (by omega)]
  have eL2 : aL (itR rr (30 * x + k) (nj s) l c) = aL rr := by
    unfold itR
    simp only [k_aL_wI]
  generalize itR rr (30 * x + k) (nj s) l c = r2 at *
  have hSr : Sp 0 a (30 * x + k) l c q rr q r2 t t nm nm := ⟨Ci.rfl, hR2, Nat.le_refl _, by omega, by omega, Nat.le_refl _, Nat.le_refl _, fun _ _ => rfl, fun _ _ => by rw [eL2], by rw [e2]; exact fun q => q⟩
  have h822 : 82 ≤ mC r2 := by rw [hR2.2.1]; exact h82
  unfold P_Parser_takeItems_125
  rcases take_l (a := a) (i := 30 * x + k) hJ2 h2 with ⟨p3, r3, b1, b2, b3, b4, b5⟩ | ⟨p3, r3, b1, b2, b3⟩
  · have hS1 : Sp 0 a (30 * x + k) l c q r2 p3 r3 t (t + 1) nm nm := by
      subst b4 b5
      exact ⟨(Ct.rfl.sI (by decide)).ci, Rt.ri (Rt.rfl.sI (by decide)) h822, by rw [k_mC_sI]; omega, by rw [k_mC_sI]; omega, by rw [k_mS_sI]; omega, by omega, Nat.le_refl _, fun _ _ => by rw [k_aL_sI], fun _ _ => by rw [k_aL_sI], by rw [k_mI_sI (by omega)]; exact fun q => q⟩
    have hS01 := Sp.trans (n := 0) (n' := 0) hSr hS1 (Nat.le_refl _) (Nat.le_refl _)
    have ha3 : mT p3 a = 3 := by rw [b4, k_mT_sI]; exact ha
    have hfr3 : FrP a s1 c1 p3 := by rw [b4]; exact hfr.s779
    have h2563 : mI p3 256 a = nj (s + 32) := by rw [b4, k_mI_sI (by omega)]; exact h256
    have hF3 : FrR (30 * x + k) s l c r3 := by
      rw [b5]
      unfold FrR at hF2 ⊢
      rw [k_aI_sI]
      exact hF2
    have h243 : aR p3 24 k = some a := by rw [b4, k_aR_sI]; exact h24
    rw [b1, bn_s, if_neg (show ¬ (1 : Int32) = 0 by decide), inb_nj (by omega), gd_t (decide_eq_true hk), ix_nj (by omega), h243, b2, bn_s]
    rcases body_j (i := 30 * x + k) b3 (by omega) hi h51 hs h2563 ha3 hfr3 hF3 with ⟨p4, r4, t4, nm4, l4, c4, sA, cA, d1, d2, d3, d4, d5, d6, d7, d8, d9⟩ | ⟨p4, r4, d1, d2, d3⟩
    · rw [d1, bn_s, if_neg (show ¬ (1 : Int32) = 0 by decide), d2]
      have hS2 := Sp.trans (n := 0) (n' := 2) hS01 d4 (Nat.le_refl _) (Nat.le_refl _)
      have hx4 : mI r4 1588 0 = nj x := by rw [hS2.2.1.1.i (by decide) (by omega)]; exact hx
      have h144 : aI r4 14 x = nj k := by rw [hS2.2.1.1.ai (by decide) (fun z => z) (by omega)]; exact h14
      rcases iend_j (a := a) (i := 30 * x + k) d3 hi hx4 h144 with ⟨p5, r5, f1, f2, f3, f4, f5, f6, f7, f8, f9, f10⟩ | ⟨p5, r5, f1, f2, f3⟩
      · left
        rw [f1, bn_s, if_neg (show ¬ (1 : Int32) = 0 by decide), vb_e, nj_add_l, f2]
        have hS3 := Sp.trans (n := 2) (n' := 0) hS2 f4 d5 d6
        have hG : Got p5 (wI r5 14 x (nj (k + 1))) x (30 * x + k) a nm4 l l4 c4 s sA cA := by
          refine d9.keep0 d3.T f4.1.1 (fun b hb => by simp only [List.mem_cons, List.not_mem_nil, or_false]; omega) (fun f f1 f2 => by rw [f6 f (by omega), f7, f8]; exact ⟨rfl, rfl, rfl⟩) (fun y y1 y2 y3 => by rw [k_aI_wI (by omega), f10 y _ y3]) (fun b hb => by rw [k_aI_wI (by omega), f10 26 _ (by omega)]) (fun j hj y y1 y2 => by rw [k_aI_wI (by omega), f10 y _ (by omega)]) (fun j hj => by rw [k_aI_wI (by omega), k_aI_wI (by omega), f10 33 _ (by omega), f10 34 _ (by omega)]; exact ⟨rfl, rfl⟩) (by rw [k_mI_wI]; exact f4.2.2.2.2.2.2.2.2.2) (by omega) (Nat.le_refl _)
        exact ⟨p5, r5, t4 + 1, nm4, l4, c4, sA, cA, rfl, rfl, f3, hS3, d5, d6, by omega, d8, hG, f5⟩
      · right
        rw [f1, bn_s, if_pos rfl, f2]
        exact ⟨p5, r5, rfl, rfl, Sp.bi (n := 2) (n' := 0) hS2 f3 d5 d6⟩
    · right
      rw [d1, bn_s, if_pos rfl, d2]
      exact ⟨p4, r4, rfl, rfl, Sp.bi (n := 0) (n' := 2) hS01 d3 (Nat.le_refl _) (Nat.le_refl _)⟩
  · right
    obtain ⟨r'', g1, g2⟩ := b3.go (F := fun m => RBod (nj s) (nj (30 * x + k)) m) h822 (fun d q hq h82 => RBod_f hs hq hi h82)
    rw [b1, bn_s, if_pos rfl, b2, bn_s]
    exact ⟨p3, r'', rfl, g1, (Sp.bi (n := 0) (n' := 0) hSr g2 (Nat.le_refl _) (Nat.le_refl _)).up (by omega)⟩
end Ij
