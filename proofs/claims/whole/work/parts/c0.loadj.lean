/-! Layer C: a load or extra, both sides -/
section Lo
variable {N : Nat} {kd pl : Nat → Nat} {x a i l c : Nat} {p r : Mem} {t nm : Nat}
theorem Sp.self {n : Nat} : Sp n a i l c p r p r t t nm nm := ⟨Ci.rfl, Ri.rfl, Nat.le_refl _, by omega, by omega, Nat.le_refl _, Nat.le_refl _, fun _ _ => rfl, fun _ _ => rfl, fun q => q⟩
theorem Bi.up {n n' : Nat} {p' r' : Mem} (h : Bi n a i l c t nm p r p' r') (hn : n ≤ n') : Bi n' a i l c t nm p r p' r' := ⟨h.1, h.2.1, h.2.2.1, by have := h.2.2.2.1; omega, h.2.2.2.2⟩
theorem load_j (h : Pi N kd pl x p r t nm l c) (ht : 4 ≤ t) (hi : i < 750) (h256 : mI p 256 a = nj 36 ∨ mI p 256 a = nj 37) (ha : mT p a = 3) {ca0 : Nat} (hc1 : mR p 263 a = some ca0) (hc2 : 51 ≤ ca0 ∧ a < ca0) (hc3 : Arr p ca0 []) (h264 : mL p 264 a = 0) (h25 : aI r 25 i = 0) :
    (∃ v nm1 p1 r1 t1 L p' r' t' nm' l' c' ca k nt, P_Parser_takeBody (some a) p = some (1, p') ∧ R_tellLoad (nj i) r = some ((), r') ∧ LdC N kd pl x a i l (c + L.length) p1 r1 t1 nm1 p' r' t' nm' l' c' ca k nt ∧ Sp 2 a i l c p r p' r' t t' nm nm' ∧ v < nm1 ∧ v < 600 ∧ nm1 ≤ nm' ∧ aI r' 16 i = nj v ∧ mI p' 258 a = (if v < 60 then nj v else -1) ∧ aI r' 21 i = nj c ∧ aI r' 22 i = nj (c + L.length) ∧ aI r' 23 i = nj l ∧ Seg r' c L ∧ wfL L 0 1 ∧ mR p' 262 a = some (mC p) ∧ Arr p' (mC p) (L.map enN) ∧ (∀ f, 256 ≤ f → f ≤ 268 → f ≠ 262 → f ≠ 263 → f ≠ 258 → mI p' f a = mI p f a) ∧ (∀ b, b < mC p → mT p' b = mT p b) ∧ (∀ y j, 15 ≤ y → y ≤ 24 → y ≠ 16 → y ≠ 21 → y ≠ 22 → y ≠ 23 → aI r' y j = aI r y j)) ∨
    (∃ p' r', P_Parser_takeBody (some a) p = some (0, p') ∧ R_tellLoad (nj i) r = some ((), r') ∧ Bi 2 a i l c t nm p r p' r') := by
  have T := h.T
  have la : a < mC p := T.lt (by rw [ha]; decide)
  have g : ∀ {β : Type} (z : Option β), gd (inb (nj i) 750) z = z := fun z => by rw [inb_nj (by omega), gd_t (decide_eq_true hi)]
  have eB : P_Parser_takeBody (some a) p = bn (P_Parser_takeItemName (some a) p) fun r53 m54 => if r53 = 0 then some (0, m54) else bn (P_Parser_takeFormula (some a) 0 m54) fun r58 m59 => if r58 = 0 then some (0, m59) else gd (inb (mI m59 779 22) 501) (if aI m59 18 (ix (mI m59 779 22)) = 47 then bn (P_Parser_take m59) fun r65 m66 => if r65 = 0 then some (0, m66) else bn (P_Parser_takeFormula (some a) 1 m66) fun r70 m71 => if r70 = 0 then some (0, m71) else P_Parser_takeBody_222 (some a) m71 else P_Parser_takeBody_222 (some a) m59) := by
    unfold P_Parser_takeBody
    rw [gs_s, gt_t ha]
    rcases h256 with e | e
    · rw [e, if_neg (show ¬ nj 36 = 32 by decide), if_neg (show ¬ nj 36 = 33 by decide), if_neg (show ¬ nj 36 = 34 by decide), if_neg (show ¬ nj 36 = 35 by decide), if_pos (show nj 36 = 36 from rfl)]
    · rw [e, if_neg (show ¬ nj 37 = 32 by decide), if_neg (show ¬ nj 37 = 33 by decide), if_neg (show ¬ nj 37 = 34 by decide), if_neg (show ¬ nj 37 = 35 by decide), if_neg (show ¬ nj 37 = 36 by decide), if_pos (show nj 37 = 37 from rfl)]
  rw [eB]
  unfold R_tellLoad
  rcases iname_j (K := fun m8 => gd (inb (nj i) 750) (vb (wI m8 21 (ix (nj i)) (mI m8 1581 0)) fun m12 => bn (R_expression m12) fun _ m14 => gd (inb (nj i) 750) (vb (wI m14 22 (ix (nj i)) (mI m14 1581 0)) fun m20 => gd (inb (nj i) 750) (vb (wI m20 23 (ix (nj i)) (mI m20 1580 0)) fun m24 => bn (R_is 27 m24) fun r25 m26 => if r25 = 0 then R_tellLoad_61 FU (nj i) m26 else bn (R_next m26) fun _ m31 => bn (R_cond m31) fun _ m35 => R_tellLoad_61 FU (nj i) m35)))) h ha hi with ⟨v, nm', p1, r1, b1, b2, b3, b4, b5, b6, b7, b8, b9, b10, b11, b12⟩ | ⟨p1, r1, b1, b2, b3⟩
  · rw [b1, bn_s, if_neg (show ¬ (1 : Int32) = 0 by decide), b2]
    have ha1 : mT p1 a = 3 := by rw [b10 a la]; exact ha
    have ec1 : mC p1 = mC p := by have := b4.2.2.1; have := b4.2.2.2.1; omega
    have h81 : mI r1 1581 0 = nj c := b3.2.2.2.2.2.2.1
    rw [g, vb_e, ix_nj (by omega), h81]
    have hP1 : Pi N kd pl x p1 (wI r1 21 i (nj c)) (t + 1) nm' l c := b3.wI (by omega)
    have hS1 : Sp 0 a i l c p r p1 (wI r1 21 i (nj c)) t (t + 1) nm nm' := b4.wI (by omega) (by omega)
    rcases sum_i (a := a) (i := i) hP1 (by omega) ha1 with ⟨p2, r2, t2, L, f1, f2, f3, f4, f5, f6, f7, f8, f9, f10, f11, f12, f13, f14, f15⟩ | ⟨p2, r2, f1, f2, f3⟩
    · have h812 : mI r2 1581 0 = nj (c + L.length) := f3.2.2.2.2.2.2.1
      have h802 : mI r2 1580 0 = nj l := f3.2.2.2.1
      rw [f1, bn_s, if_neg (show ¬ (1 : Int32) = 0 by decide), f2, bn_s, g, vb_e, g, vb_e, h812, k_mI_wI, h802]
      rw [ec1] at f8 f10 f12 f15
      have hP2 : Pi N kd pl x p2 (wI (wI r2 22 i (nj (c + L.length))) 23 i (nj l)) t2 nm' l (c + L.length) := (f3.wI (by omega)).wI (by omega)
      have hS2 : Sp 1 a i l c p r p2 (wI (wI r2 22 i (nj (c + L.length))) 23 i (nj l)) t t2 nm nm' := Sp.wI (Sp.wI (Sp.trans (n := 0) (n' := 1) hS1 f4 (Nat.le_refl _) (Nat.le_refl _)) (by omega) (by omega)) (by omega) (by omega)
      have hc4 : mR p2 263 a = some ca0 := by rw [f9, (b9 263 (by omega) (by omega)).2.2]; exact hc1
      have hc5 : Arr p2 ca0 [] := hc3.Ch T hS2.1.1 (by simp only [List.mem_cons, List.not_mem_nil, or_false]; omega) (fun z => z)
      have hB2 : Bb a i nm' 0 p2 (wI (wI r2 22 i (nj (c + L.length))) 23 i (nj l)) := by
        refine ⟨by omega, by rw [k_aI_wI (by omega), k_aI_wI (by omega), f13 25 i (by omega) (by omega), k_aI_wI (by omega), b11 25 i (by omega) (by omega) (by omega), h25]; rfl, (fun b hb => absurd hb (Nat.not_lt_zero b)), fun hn u hu => ?_⟩
        rw [(f11 264 (by omega) (by omega) (by omega) (by omega)).2, (b9 264 (by omega) (by omega)).2.1, h264, zero64]
        exact ⟨fun w => (by cases w), (fun ⟨b, hb, _⟩ => absurd hb (Nat.not_lt_zero b))⟩
      have e16 : aI (wI (wI r2 22 i (nj (c + L.length))) 23 i (nj l)) 16 i = nj v := by rw [k_aI_wI (by omega), k_aI_wI (by omega), f13 16 i (by omega) (by omega), k_aI_wI (by omega)]; exact b7
      have e21 : aI (wI (wI r2 22 i (nj (c + L.length))) 23 i (nj l)) 21 i = nj c := by rw [k_aI_wI (by omega), k_aI_wI (by omega), f13 21 i (by omega) (by omega), k_aI_wI_e, up1_ap, if_pos rfl]
      have e22 : aI (wI (wI r2 22 i (nj (c + L.length))) 23 i (nj l)) 22 i = nj (c + L.length) := by rw [k_aI_wI (by omega), k_aI_wI_e, up1_ap, if_pos rfl]
      have e23 : aI (wI (wI r2 22 i (nj (c + L.length))) 23 i (nj l)) 23 i = nj l := by rw [k_aI_wI_e, up1_ap, if_pos rfl]
      have eo : ∀ y j, 15 ≤ y → y ≤ 24 → y ≠ 16 → y ≠ 21 → y ≠ 22 → y ≠ 23 → aI (wI (wI r2 22 i (nj (c + L.length))) 23 i (nj l)) y j = aI r y j := fun y j y1 y2 y3 y4 y5 y6 => by rw [k_aI_wI y6, k_aI_wI y5, f13 y j y1 (by omega), k_aI_wI y4, b11 y j y1 (by omega) y3]
      have hsg : Seg (wI (wI r2 22 i (nj (c + L.length))) 23 i (nj l)) c L := by
        unfold Seg
        rw [k_aI_wI (by omega), k_aI_wI (by omega), k_aI_wI (by omega), k_aI_wI (by omega)]
        exact f6
      generalize wI (wI r2 22 i (nj (c + L.length))) 23 i (nj l) = r3 at *
      have ha2 : mT p2 a = 3 := by rw [f12 a la, b10 a la]; exact ha
      rcases ldc_j (a := a) (i := i) hP2 (by omega) hi ha2 hB2 hc4 hc2 hc5 with ⟨p4, r4, t4, nm4, l4, c4, ca, k, nt, g1, g2, g3⟩ | ⟨p4, r4, g1, g2, g3⟩
      · left
        have g3' := g3
        obtain ⟨q1, q2, q3, q4, q5, q6, q7, q8, q9, q10, q11, q12, q13, q14, q15, q16⟩ := g3'
        refine ⟨v, nm', p2, r3, t2, L, p4, r4, t4, nm4, l4, c4, ca, k, nt, g1, g2, g3, Sp.trans (n := 1) (n' := 1) hS2 q2 (Nat.le_refl _) (by omega), b5, b6, q2.2.2.2.2.2.2.1, by rw [q15 16 i (by omega) (by omega)]; exact e16, ?_, by rw [q15 21 i (by omega) (by omega)]; exact e21, by rw [q15 22 i (by omega) (by omega)]; exact e22, by rw [q15 23 i (by omega) (by omega)]; exact e23, ?_, f7, by rw [q11]; exact f8, ?_, fun f w1 w2 w3 w4 w5 => ?_, fun b hb => by rw [q14 b (by omega), f12 b hb, b10 b hb], fun y j y1 y2 y3 y4 y5 y6 => by rw [q15 y j y1 y2]; exact eo y j y1 y2 y3 y4 y5 y6⟩
        · rw [q13 258 (by omega) (by omega) (by omega) (by omega), (f11 258 (by omega) (by omega) (by omega) (by omega)).1]; exact b8
        · intro j kv hj
          have hl : j < L.length := (List.getElem?_eq_some_iff.mp hj).1
          have := q2.2.1.2.2.2.1 (c + j) (by omega)
          rw [this.1, this.2]
          exact hsg j kv hj
        · exact f10.Ch f3.T q2.1.1 (by have := T.1; simp only [List.mem_cons, List.not_mem_nil, or_false]; omega) (fun z => z)
        · rw [q13 f w1 w2 w3 w4, (f11 f w1 w2 w3 w4).1, (b9 f w1 w2).1 w5]
      · right
        exact ⟨p4, r4, g1, g2, Sp.bi (n := 1) (n' := 1) hS2 g3 (Nat.le_refl _) (by omega)⟩
    · right
      obtain ⟨r'', g1, g2⟩ := f3.go (F := fun m14 => gd (inb (nj i) 750) (vb (wI m14 22 i (mI m14 1581 0)) fun m20 => gd (inb (nj i) 750) (vb (wI m20 23 i (mI m20 1580 0)) fun m24 => bn (R_is 27 m24) fun r25 m26 => if r25 = 0 then R_tellLoad_61 FU (nj i) m26 else bn (R_next m26) fun _ m31 => bn (R_cond m31) fun _ m35 => R_tellLoad_61 FU (nj i) m35))) hP1.p82 (fun d q hq h82 => by
        obtain ⟨r5, s1, s2, s3⟩ := tellLoad2_f (hq.wI (y := 22) (j := i) (v := mI r2 1581 0)) hi h82
        rw [g, vb_e, g, s1]
        exact ⟨r5, rfl, s2, Rj.trans (Rj.rfl.wI (by omega) (by omega)) s3⟩)
      rw [f1, bn_s, if_pos rfl, f2, bn_s]
      exact ⟨p2, r'', rfl, g1, (Sp.bi (n := 0) (n' := 0) hS1 g2 (Nat.le_refl _) (Nat.le_refl _)).up (by omega)⟩
  · right
    obtain ⟨r'', g1, g2⟩ := b3.go (F := fun m8 => gd (inb (nj i) 750) (vb (wI m8 21 (ix (nj i)) (mI m8 1581 0)) fun m12 => bn (R_expression m12) fun _ m14 => gd (inb (nj i) 750) (vb (wI m14 22 (ix (nj i)) (mI m14 1581 0)) fun m20 => gd (inb (nj i) 750) (vb (wI m20 23 (ix (nj i)) (mI m20 1580 0)) fun m24 => bn (R_is 27 m24) fun r25 m26 => if r25 = 0 then R_tellLoad_61 FU (nj i) m26 else bn (R_next m26) fun _ m31 => bn (R_cond m31) fun _ m35 => R_tellLoad_61 FU (nj i) m35)))) h.p82 (fun d q hq h82 => by
      obtain ⟨r4, w1, w2, w3, -⟩ := expr_f (hq.wI (y := 21) (j := i) (v := mI r1 1581 0))
      have h824 : 82 ≤ mC r4 := by rw [(w3 0).2.1]; exact h82
      obtain ⟨r5, s1, s2, s3⟩ := tellLoad2_f (w2.wI (y := 22) (j := i) (v := mI r4 1581 0)) hi h824
      rw [g, vb_e, ix_nj (by omega), w1, bn_s, g, vb_e, g, s1]
      exact ⟨r5, rfl, s2, Rj.trans ((Rj.trans (Rj.rfl.wI (by omega) (by omega)) (Rx.rj w3 h82)).wI (by omega) (by omega)) s3⟩)
    rw [b1, bn_s, if_pos rfl, b2]
    exact ⟨p1, r'', rfl, g1, g2.up (by omega)⟩
end Lo
