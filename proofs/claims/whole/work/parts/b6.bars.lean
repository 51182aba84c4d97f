/-! Layer C: bars of a load or extra, both sides -/
theorem takeName_2 {N : Nat} {kd pl : Nat → Nat} {x l c : Nat} {p r p' : Mem} {t nm : Nat} (h : Pi N kd pl x p r t nm l c) (e : P_Parser_takeName p = some (1, p')) : kd t = 2 := by
  by_cases z : kd t = 2
  · exact z
  · have hT := h.tN
    obtain ⟨m, b1, -⟩ := fail_e 1 h.1.2.2.1 (show t ≤ 500 by omega)
    have b1' : P_Parser_fail 1 p = _ := b1
    unfold P_Parser_takeName at e
    rw [h.1.2.2.1, inb_nj (by omega), gd_t (decide_eq_true (by omega)), ix_nj (by omega), h.kd3.2.1, if_neg (by rw [nj_eq_l (by have := h.kd3.1; omega) (by omega)]; exact z), b1', bn_s, gz_t (Or.inl rfl)] at e
    have := (Prod.mk.inj (Option.some.inj e)).1
    exact absurd this (by decide)
theorem bit1_e : ∀ v, v < 60 → ∀ u, u < 60 → ((1 : Int64) <<< (Int32.toInt64 (nj v) &&& 63)).toBitVec.getLsbD u = decide (u = v) := by decide +kernel
/-- k bars so far -/
def Bb (a i nm k : Nat) (p r : Mem) : Prop := k ≤ 4 ∧ aI r 25 i = nj k ∧ (∀ b, b < k → ∃ u, u < nm ∧ u < 600 ∧ aI r 26 (4 * i + b) = nj u) ∧ (nm ≤ 60 → ∀ u, u < 60 → ((mL p 264 a).toBitVec.getLsbD u = true ↔ ∃ b, b < k ∧ aI r 26 (4 * i + b) = nj u))
theorem e97_f {r : Mem} {d q : Nat} {k61 : Int32 → Mem → Option (Unit × Mem)} {y : Int32} (h : Rf r d q) : R_tellLoad_97 k61 y r = some ((), r) := by
  unfold R_tellLoad_97
  rw [name_f h, bn_s, if_neg h.ne.2.1]
def BarsS (N : Nat) (kd pl : Nat → Nat) (x a i l c d : Nat) : Prop := ∀ (k : Nat) (p r : Mem) (t nm fu fu2 : Nat), k + d = 4 → Pi N kd pl x p r t nm l c → mT p a = 3 → Bb a i nm k p r → d + 2 < fu → d + 2 < fu2 →
    (∃ p' r' t' nm' k', P_Parser_takeBars_2 fu (some a) (nj k) p = some (1, p') ∧ R_tellLoad_61 fu2 (nj i) r = some ((), r') ∧ Pi N kd pl x p' r' t' nm' l c ∧ Sp 0 a i l c p r p' r' t t' nm nm' ∧ Bb a i nm' k' p' r' ∧ (∀ f, 256 ≤ f → f ≤ 268 → mI p' f a = mI p f a ∧ (f ≠ 264 → mL p' f a = mL p f a) ∧ mR p' f a = mR p f a) ∧ (∀ b, b < mC p → mT p' b = mT p b) ∧ (∀ y j, 15 ≤ y → y ≤ 34 → y ≠ 25 → y ≠ 26 → aI r' y j = aI r y j)) ∨
    (∃ p' r', P_Parser_takeBars_2 fu (some a) (nj k) p = some (0, p') ∧ R_tellLoad_61 fu2 (nj i) r = some ((), r') ∧ Bi 0 a i l c t nm p r p' r')
theorem bars_s {N : Nat} {kd pl : Nat → Nat} {x a i l c : Nat} (hi : i < 750) (d : Nat) (ih : 0 < d → BarsS N kd pl x a i l c (d - 1)) : BarsS N kd pl x a i l c d := by
  intro k p r t nm fu fu2 hk h ha hB hfu hfu2
  obtain ⟨fu, rfl⟩ : ∃ f, fu = f + 1 := ⟨fu - 1, by omega⟩
  obtain ⟨fu2, rfl⟩ : ∃ f, fu2 = f + 1 := ⟨fu2 - 1, by omega⟩
  have hT := h.tN
  have h82 := h.p82
  have la : a < mC p := h.T.lt (by rw [ha]; decide)
  have e54 : (nj (kd t) = 54) = (kd t = 54) := nj_eq_l (by have := h.kd3.1; omega) (by omega)
  rw [P_Parser_takeBars_2.eq_2, if_neg (by rw [nj_l_lt (by omega) (by omega)]; omega), h.1.2.2.1, inb_nj (by omega), gd_t (decide_eq_true (by omega)), ix_nj (by omega), h.kd3.2.1, R_tellLoad_61.eq_2, h.is 54 (by omega) (y := 40) rfl, bn_s]
  by_cases z : kd t = 54
  · rw [if_pos (e54.mpr z), decide_eq_true z, tI_t, if_neg (show ¬ (1 : Int32) = 0 by decide)]
    rcases take_i (a := a) (i := i) h (by omega) with ⟨p1, r1, d1, d2, d3, d4, d5, d6, d7, d8, d9, -, -⟩ | ⟨p1, r1, d1, d2, d3⟩
    · rw [d1, bn_s, if_neg (show ¬ (1 : Int32) = 0 by decide), d2, bn_s, d3.is 2 (by omega) (y := 1) rfl, bn_s]
      have hT1 := d3.tN
      have ha1 : mT p1 a = 3 := by rw [d8]; exact ha
      have h25 : aI r1 25 i = nj k := by rw [d9]; exact hB.2.1
      have e4 : (nj k = 4) = (k = 4) := nj_eq_l (by omega) (by omega)
      have e2 : (nj (kd (t + 1)) = 2) = (kd (t + 1) = 2) := nj_eq_l (by have := d3.kd3.1; omega) (by omega)
      rw [d3.1.2.2.1, inb_nj (by omega), gd_t (decide_eq_true (by omega)), ix_nj (by omega), d3.kd3.2.1, inb_nj (by omega), gd_t (decide_eq_true hi), ix_nj (by omega), h25]
      by_cases z4 : k = 4 ∧ kd (t + 1) = 2
      · right
        obtain ⟨p', r', a1, a2, a3, q, a4⟩ := fail_i (a := a) (i := i) (l := l) (c := c) d3 2 (Or.inr rfl)
        have a1' : P_Parser_fail 2 p1 = _ := a1
        have a2' : R_fail 2 r1 = _ := a2
        unfold P_Parser_takeBars_56
        rw [if_pos (e4.mpr z4.1), if_pos (e2.mpr z4.2), a1', bn_s, gz_t (Or.inl rfl), decide_eq_true z4.2, tI_t, if_neg (show ¬ (1 : Int32) = 0 by decide), if_pos (e4.mpr z4.1), a2', bn_s, e97_f a4]
        exact ⟨p', r', rfl, rfl, Sp.bi (n := 0) (n' := 0) d4 a3 (Nat.le_refl _) (Nat.le_refl _)⟩
      · have eP : (if nj k = 4 then (if nj (kd (t + 1)) = 2 then P_Parser_takeBars_56 p1 else P_Parser_takeBars_62 (fun z0 z1 z2 => P_Parser_takeBars_2 fu z0 z1 z2) (some a) (nj k) p1) else P_Parser_takeBars_62 (fun z0 z1 z2 => P_Parser_takeBars_2 fu z0 z1 z2) (some a) (nj k) p1) = P_Parser_takeBars_62 (fun z0 z1 z2 => P_Parser_takeBars_2 fu z0 z1 z2) (some a) (nj k) p1 := by
          by_cases y : k = 4
          · rw [if_pos (e4.mpr y), if_neg (fun w => z4 ⟨y, e2.mp w⟩)]
          · rw [if_neg (fun w => y (e4.mp w))]
        have eR : (if tI (decide (kd (t + 1) = 2)) = 0 then R_tellLoad_97 (fun z0 z1 => R_tellLoad_61 fu2 z0 z1) (nj i) r1 else if nj k = 4 then bn (R_fail 2 r1) fun _ m18 => R_tellLoad_97 (fun z0 z1 => R_tellLoad_61 fu2 z0 z1) (nj i) m18 else R_tellLoad_97 (fun z0 z1 => R_tellLoad_61 fu2 z0 z1) (nj i) r1) = R_tellLoad_97 (fun z0 z1 => R_tellLoad_61 fu2 z0 z1) (nj i) r1 := by
          by_cases y : kd (t + 1) = 2
          · rw [decide_eq_true y, tI_t, if_neg (show ¬ (1 : Int32) = 0 by decide), if_neg (fun w => z4 ⟨e4.mp w, y⟩)]
          · rw [decide_eq_false y, tI_f, if_pos rfl]
        rw [eP, eR]
        unfold P_Parser_takeBars_62 R_tellLoad_97
        rcases name_i (a := a) (i := i) d3 with ⟨v, nm', p2, r2, b1, b2, b3, b4, b5, b6, b7, b8, b9, b10, b11⟩ | ⟨p2, r2, b1, b2, b3⟩
        · have hk4 : k < 4 := by
            by_cases y : k = 4
            · exact absurd ⟨y, takeName_2 d3 b1⟩ z4
            · omega
          have la1 : a < mC p1 := d3.T.lt (by rw [ha1]; decide)
          have h02 : mI r2 1549 0 ≤ 0 := by rw [b3.1.2.2.2.2.1]; decide
          have h252 : aI r2 25 i = nj k := by rw [b10 25 i (by omega) (by omega)]; exact h25
          rw [b1, bn_s, if_neg (show ¬ (1 : Int32) = 0 by decide), gs_s, gt_t (by rw [b9 a la1]; exact ha1), vb_e, vb_e, nj_add_l, b7, b2, bn_s, if_pos h02, inb_nj (by omega), gd_t (decide_eq_true hi), ix_nj (by omega), h252, show (4 : Int32) = nj 4 from rfl, nj_mul, nj_add, inb_nj (by omega), gd_t (decide_eq_true (by omega)), vb_e, gd_t (decide_eq_true hi), gd_t (decide_eq_true hi), vb_e, ix_nj (by omega), k_aI_wI (show 25 ≠ 26 by omega), h252, nj_add_l]
          have hP3 : Pi N kd pl x (sL p2 264 a (mL p2 264 a ||| (1 <<< (Int32.toInt64 (if v < 60 then nj v else -1) &&& 63)))) (wI (wI r2 26 (4 * i + k) (nj v)) 25 i (nj (k + OfNat.ofNat 1))) (t + 1 + 1) nm' l c := ((b3.wI (by omega)).wI (by omega)).sL
          have hS3 : Sp 0 a i l c p1 r1 (sL p2 264 a (mL p2 264 a ||| (1 <<< (Int32.toInt64 (if v < 60 then nj v else -1) &&& 63)))) (wI (wI r2 26 (4 * i + k) (nj v)) 25 i (nj (k + OfNat.ofNat 1))) (t + 1) (t + 1 + 1) nm nm' := by
            obtain ⟨s1, s2, s3, s4, s5, s6, s7, s8, s9, s10⟩ := b4
            exact ⟨s1.sL (by decide), (ri_w26 s2 (by omega)).wI (by omega) (by omega), s3, s4, s5, s6, s7, s8, s9, s10⟩
          have hB3 : Bb a i nm' (k + 1) (sL p2 264 a (mL p2 264 a ||| (1 <<< (Int32.toInt64 (if v < 60 then nj v else -1) &&& 63)))) (wI (wI r2 26 (4 * i + k) (nj v)) 25 i (nj (k + OfNat.ofNat 1))) := by
            have e26 : ∀ b, aI (wI (wI r2 26 (4 * i + k) (nj v)) 25 i (nj (k + OfNat.ofNat 1))) 26 (4 * i + b) = if b = k then nj v else aI r 26 (4 * i + b) := fun b => by
              rw [k_aI_wI (by omega), k_aI_wI_e, up1_ap]
              by_cases y : b = k
              · rw [if_pos (by omega), if_pos y]
              · rw [if_neg (by omega), if_neg y, b10 26 _ (by omega) (by omega), d9]
            obtain ⟨q1, q2, q3, q4⟩ := hB
            have hnm : nm ≤ nm' := b4.2.2.2.2.2.2.1
            refine ⟨by omega, by rw [k_aI_wI_e, up1_ap, if_pos rfl], fun b hb => ?_, fun hn u hu => ?_⟩
            · rw [e26]
              by_cases y : b = k
              · rw [if_pos y]; exact ⟨v, b5, b6, rfl⟩
              · rw [if_neg y]
                obtain ⟨u, w1, w2, w3⟩ := q3 b (by omega)
                exact ⟨u, by omega, w2, w3⟩
            · have v60 : v < 60 := by omega
              have e264 : mL p2 264 a = mL p 264 a := by rw [(b8 264 a (by omega) (by omega) la1).2.1, d6]
              rw [k_mL_sL_e, up1_ap, if_pos rfl, if_pos v60, Int64.toBitVec_or, BitVec.getLsbD_or, bit1_e v v60 u hu, e264]
              have q5 := q4 (by omega) u hu
              constructor
              · intro w
                rw [Bool.or_eq_true] at w
                rcases w with w | w
                · obtain ⟨b, w1, w2⟩ := q5.mp w
                  exact ⟨b, by omega, by rw [e26, if_neg (by omega)]; exact w2⟩
                · exact ⟨k, by omega, by rw [e26, if_pos rfl, of_decide_eq_true w]⟩
              · rintro ⟨b, w1, w2⟩
                rw [e26] at w2
                rw [Bool.or_eq_true]
                by_cases y : b = k
                · rw [if_pos y, nj_inj (by omega) (by omega)] at w2
                  exact Or.inr (decide_eq_true w2.symm)
                · rw [if_neg y] at w2
                  exact Or.inl (q5.mpr ⟨b, by omega, w2⟩)
          have hfld : ∀ f, 256 ≤ f → f ≤ 268 → mI (sL p2 264 a (mL p2 264 a ||| (1 <<< (Int32.toInt64 (if v < 60 then nj v else -1) &&& 63)))) f a = mI p f a ∧ (f ≠ 264 → mL (sL p2 264 a (mL p2 264 a ||| (1 <<< (Int32.toInt64 (if v < 60 then nj v else -1) &&& 63)))) f a = mL p f a) ∧ mR (sL p2 264 a (mL p2 264 a ||| (1 <<< (Int32.toInt64 (if v < 60 then nj v else -1) &&& 63)))) f a = mR p f a := fun f f1 f2 => by
            obtain ⟨w1, w2, w3⟩ := b8 f a f1 f2 la1
            refine ⟨by rw [k_mI_sL, w1, d5 f (by omega)], fun f3 => by rw [k_mL_sL f3, w2, d6], by rw [k_mR_sL, w3, d7]⟩
          have htg : ∀ b, b < mC p → mT (sL p2 264 a (mL p2 264 a ||| (1 <<< (Int32.toInt64 (if v < 60 then nj v else -1) &&& 63)))) b = mT p b := fun b hb => by
            rw [k_mT_sL, b9 b (by have := d4.2.2.1; omega), d8]
          have harr : ∀ y j, 15 ≤ y → y ≤ 34 → y ≠ 25 → y ≠ 26 → aI (wI (wI r2 26 (4 * i + k) (nj v)) 25 i (nj (k + OfNat.ofNat 1))) y j = aI r y j := fun y j y1 y2 y3 y4 => by rw [k_aI_wI y3, k_aI_wI y4, b10 y j y1 y2, d9]
          generalize sL p2 264 a (mL p2 264 a ||| (1 <<< (Int32.toInt64 (if v < 60 then nj v else -1) &&& 63))) = p3 at *
          generalize wI (wI r2 26 (4 * i + k) (nj v)) 25 i (nj (k + OfNat.ofNat 1)) = r3 at *
          have hS : Sp 0 a i l c p r p3 r3 t (t + 1 + 1) nm nm' := Sp.trans (n := 0) (n' := 0) d4 hS3 (Nat.le_refl _) (Nat.le_refl _)
          show (∃ p' r' t' nm' k', P_Parser_takeBars_2 fu (some a) (nj (k + 1)) p3 = some (1, p') ∧ R_tellLoad_61 fu2 (nj i) r3 = some ((), r') ∧ _) ∨ (∃ p' r', P_Parser_takeBars_2 fu (some a) (nj (k + 1)) p3 = some (0, p') ∧ R_tellLoad_61 fu2 (nj i) r3 = some ((), r') ∧ _)
          rcases ih (by omega) (k + 1) p3 r3 (t + 1 + 1) nm' fu fu2 (by omega) hP3 (by rw [htg a la]; exact ha) hB3 (by omega) (by omega) with ⟨p4, r4, t4, nm4, k4, f1, f2, f3, f4, f5, f6, f7, f8⟩ | ⟨p4, r4, f1, f2, f3⟩
          · left
            refine ⟨p4, r4, t4, nm4, k4, f1, f2, f3, Sp.trans (n := 0) (n' := 0) hS f4 (Nat.le_refl _) (Nat.le_refl _), f5, fun f q1 q2 => ?_, fun b hb => by rw [f7 b (by have := hS.2.2.1; omega), htg b hb], fun y j y1 y2 y3 y4 => by rw [f8 y j y1 y2 y3 y4, harr y j y1 y2 y3 y4]⟩
            obtain ⟨w1, w2, w3⟩ := f6 f q1 q2
            obtain ⟨w4, w5, w6⟩ := hfld f q1 q2
            exact ⟨w1.trans w4, fun w => (w2 w).trans (w5 w), w3.trans w6⟩
          · right
            exact ⟨p4, r4, f1, f2, Sp.bi (n := 0) (n' := 0) hS f3 (Nat.le_refl _) (Nat.le_refl _)⟩
        · right
          obtain ⟨dd, qq, w1, w2, w3⟩ := b3.1
          rw [b1, bn_s, if_pos rfl, b2, bn_s, if_neg w3.ne.2.1]
          exact ⟨p2, r2, rfl, rfl, Sp.bi (n := 0) (n' := 0) d4 b3 (Nat.le_refl _) (Nat.le_refl _)⟩
    · right
      have d3' := d3
      obtain ⟨⟨dd, qq, w1, w2, w3⟩, -⟩ := d3'
      rw [d1, bn_s, if_pos rfl, d2, bn_s, is_f w3, bn_s, if_pos rfl, e97_f w3]
      exact ⟨p1, r1, rfl, rfl, d3⟩
  · left
    rw [if_neg (fun w => z (e54.mp w)), decide_eq_false z, tI_f, if_pos rfl]
    exact ⟨p, r, t, nm, k, rfl, rfl, h, ⟨Ci.rfl, Ri.rfl, Nat.le_refl _, by omega, by omega, Nat.le_refl _, Nat.le_refl _, fun _ _ => rfl, fun _ _ => rfl, fun q => q⟩, hB, fun f _ _ => ⟨rfl, fun _ => rfl, rfl⟩, fun _ _ => rfl, fun _ _ _ _ _ _ => rfl⟩
theorem bars_j {N : Nat} {kd pl : Nat → Nat} {x a i l c : Nat} (hi : i < 750) : ∀ d, BarsS N kd pl x a i l c d
  | 0 => bars_s hi 0 (fun h => absurd h (by omega))
  | d + 1 => bars_s hi (d + 1) (fun _ => bars_j hi d)
