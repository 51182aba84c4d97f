/-! Layer C: a class's margin or tie, both sides -/
section Cj
variable {N : Nat} {kd pl : Nat → Nat} {x a i l c : Nat} {p r : Mem} {t nm : Nat}
def MgC (N : Nat) (kd pl : Nat → Nat) (x a i l c : Nat) (p r : Mem) (t nm : Nat) (p' r' : Mem) (t' nm' : Nat) (L : List (Nat × Nat)) : Prop :=
  Pi N kd pl x p' r' t' nm' l (c + L.length) ∧ Sp 1 a i l c p r p' r' t t' nm nm' ∧ aI r' 21 i = nj c ∧ aI r' 22 i = nj (c + L.length) ∧ Seg r' c L ∧ wfL L 0 1 ∧ mR p' 262 a = some (mC p) ∧ mR p' 263 a = mR p 263 a ∧ Arr p' (mC p) (L.map enN) ∧
  ((aI r' 18 i = 0 ∧ mI p' 260 a = mI p 260 a ∧ mI p' 261 a = mI p 261 a) ∨ (aI r' 18 i = 1 ∧ ∃ u w, u < nm' ∧ w < nm' ∧ u < 600 ∧ w < 600 ∧ aI r' 19 i = nj u ∧ aI r' 20 i = nj w ∧ mI p' 260 a = (if u < 60 then nj u else -1) ∧ mI p' 261 a = (if w < 60 then nj w else -1))) ∧
  (∀ f, 256 ≤ f → f ≤ 268 → f ≠ 260 → f ≠ 261 → f ≠ 262 → f ≠ 263 → mI p' f a = mI p f a ∧ mL p' f a = mL p f a) ∧ (∀ b, b < mC p → mT p' b = mT p b) ∧ (∀ y j, 15 ≤ y → y ≤ 32 → (y < 18 ∨ 22 < y) → aI r' y j = aI r y j)
theorem marg_j (h : Pi N kd pl x p r t nm l c) (ht : 4 ≤ t) (hi : i < 750) (ha : mT p a = 3) :
    (∃ p' r' t' nm' L, P_Parser_takeMargin (some a) p = some (1, p') ∧ R_tellClass_99 (nj i) r = some ((), r') ∧ MgC N kd pl x a i l c p r t nm p' r' t' nm' L) ∨
    (∃ p' r', P_Parser_takeMargin (some a) p = some (0, p') ∧ R_tellClass_99 (nj i) r = some ((), r') ∧ Bi 0 a i l c t nm p r p' r') := by
  have hT := h.tN
  have la : a < mC p := h.T.lt (by rw [ha]; decide)
  have g : ∀ {β : Type} (z : Option β), gd (inb (nj i) 750) z = z := fun z => by rw [inb_nj (by omega), gd_t (decide_eq_true hi)]
  have e40 : (nj (kd t) = 40) = (kd t = 40) := nj_eq_l (by have := h.kd3.1; omega) (by omega)
  unfold P_Parser_takeMargin R_tellClass_99
  rw [h.1.2.2.1, inb_nj (by omega), gd_t (decide_eq_true (by omega)), ix_nj (by omega), h.kd3.2.1, h.is 49 (by omega) (y := 32) rfl, bn_s, g, gz_tI, vb_e, ix_nj (by omega)]
  have hP : Pi N kd pl x p (wI r 18 i (tI (decide (kd t = 49)))) t nm l c := h.wI (by omega)
  have hS : Sp 0 a i l c p r p (wI r 18 i (tI (decide (kd t = 49)))) t t nm nm := Sp.wI Sp.self (by omega) (by omega)
  rw [hP.is 49 (by omega) (y := 32) rfl, bn_s]
  by_cases z40 : kd t = 40
  · rw [if_pos (e40.mpr z40), decide_eq_false (show ¬ kd t = 49 by omega), tI_f, if_pos rfl]
    rw [decide_eq_false (show ¬ kd t = 49 by omega), tI_f] at hP hS
    have em : R_must 31 (wI r 18 i 0) = bn (R_next (wI r 18 i 0)) fun _ m11 => some ((), m11) := by
      unfold R_must
      rw [hP.is 40 (by omega) (y := 31) rfl, bn_s, decide_eq_true z40, tI_t, if_neg (show ¬ (1 : Int32) = 0 by decide)]
    rw [em]
    rcases take_i (a := a) (i := i) hP (by omega) with ⟨p1, r1, d1, d2, d3, d4, d5, d6, d7, d8, d9, d10, d11⟩ | ⟨p1, r1, d1, d2, d3⟩
    · rw [d1, bn_s, if_neg (show ¬ (1 : Int32) = 0 by decide), d2, bn_s, bn_s]
      have ec1 : mC p1 = mC p := by rw [d10, k_mC_sI]
      have hS1 := Sp.trans (n := 0) (n' := 0) hS d4 (Nat.le_refl _) (Nat.le_refl _)
      rcases e159_j (a := a) (i := i) d3 (by omega) hi (by rw [d8]; exact ha) with ⟨p2, r2, t2, L, f1, f2, f3, f4, f5, f6, f7, f8, f9, f10, f11, f12, f13, f14⟩ | ⟨p2, r2, f1, f2, f3⟩
      · left
        rw [f1, f2]
        rw [ec1] at f9 f11 f13
        refine ⟨p2, r2, t2, nm, L, rfl, rfl, f3, Sp.trans (n := 0) (n' := 1) hS1 f4 (Nat.le_refl _) (Nat.le_refl _), f5, f6, f7, f8, f9, by rw [f10, d7], f11, Or.inl ⟨by rw [f14 18 i (by omega) (by omega) (by omega) (by omega), d9, k_aI_wI_e, up1_ap, if_pos rfl], by rw [(f12 260 (by omega) (by omega) (by omega) (by omega)).1, d5 260 (by omega)], by rw [(f12 261 (by omega) (by omega) (by omega) (by omega)).1, d5 261 (by omega)]⟩, fun f q1 q2 q3 q4 q5 q6 => by rw [(f12 f q1 q2 q5 q6).1, (f12 f q1 q2 q5 q6).2, d5 f (by omega), d6]; exact ⟨rfl, rfl⟩, fun b hb => by rw [f13 b hb, d8], fun y j y1 y2 y3 => by rw [f14 y j y1 y2 (by omega) (by omega), d9, k_aI_wI (by omega)]⟩
      · right
        rw [f1, f2]
        exact ⟨p2, r2, rfl, rfl, Sp.bi (n := 0) (n' := 0) hS1 f3 (Nat.le_refl _) (Nat.le_refl _)⟩
    · right
      obtain ⟨r'', g1, g2⟩ := d3.go (F := fun m => R_tellClass_159 (nj i) m) hP.p82 (fun d q hq h82 => e159_f hq hi h82)
      rw [d1, bn_s, if_pos rfl, d2, bn_s, bn_s]
      exact ⟨p1, r'', rfl, g1, Sp.bi (n := 0) (n' := 0) hS g2 (Nat.le_refl _) (Nat.le_refl _)⟩
  · rw [if_neg (fun w => z40 (e40.mp w))]
    have e49 : (nj (kd t) = 49) = (kd t = 49) := nj_eq_l (by have := h.kd3.1; omega) (by omega)
    by_cases z49 : kd t = 49
    · rw [decide_eq_true z49, tI_t, if_neg (show ¬ (1 : Int32) = 0 by decide)]
      rw [decide_eq_true z49, tI_t] at hP hS
      have ek : P_Parser_takeKind 49 p = bn (P_Parser_take p) fun r3 m4 => gz r3 (some (r3, m4)) := by
        unfold P_Parser_takeKind
        rw [h.1.2.2.1, inb_nj (by omega), gd_t (decide_eq_true (by omega)), ix_nj (by omega), h.kd3.2.1, if_pos (e49.mpr z49)]
      rw [ek]
      rcases take_i (a := a) (i := i) hP (by omega) with ⟨p1, r1, d1, d2, d3, d4, d5, d6, d7, d8, d9, d10, d11⟩ | ⟨p1, r1, d1, d2, d3⟩
      · rw [d1, bn_s, gz_t (Or.inr rfl), bn_s, if_neg (show ¬ (1 : Int32) = 0 by decide), d2, bn_s]
        have ec1 : mC p1 = mC p := by rw [d10, k_mC_sI]
        have hS1 := Sp.trans (n := 0) (n' := 0) hS d4 (Nat.le_refl _) (Nat.le_refl _)
        rcases tname_j (a := a) (i := i) d3 (by rw [d8]; exact ha) hi 260 19 (Or.inl rfl) (Or.inl rfl) with ⟨u, nm1, p2, r2, b1, b2, b3, b3', b4, b5, b6, b7, b8, b9, b10, b11, b12⟩ | ⟨p2, r2, b1, b2, b3⟩
        · rw [b1, bn_s, if_neg (show ¬ (1 : Int32) = 0 by decide), gs_s, gt_t b3, vb_e, b2, bn_s, g, vb_e]
          have ha2 : mT (sI p2 260 a (mI p2 780 22)) a = 3 := b3
          have ec2 : mC (sI p2 260 a (mI p2 780 22)) = mC p := by rw [k_mC_sI, b3']; exact ec1
          generalize sI p2 260 a (mI p2 780 22) = p3 at *
          generalize wI r2 19 i (nj u) = r3 at *
          have hS2 := Sp.trans (n := 0) (n' := 0) hS1 b5 (Nat.le_refl _) (Nat.le_refl _)
          rcases tname_j (a := a) (i := i) b4 ha2 hi 261 20 (Or.inr rfl) (Or.inr rfl) with ⟨w, nm2, p4, r4, s1, s2, s3, s3', s4, s5, s6, s7, s8, s9, s10, s11, s12⟩ | ⟨p4, r4, s1, s2, s3⟩
          · rw [s1, bn_s, if_neg (show ¬ (1 : Int32) = 0 by decide), gt_t s3, vb_e, s2, bn_s, g, vb_e]
            have ha3 : mT (sI p4 261 a (mI p4 780 22)) a = 3 := s3
            have ec3 : mC (sI p4 261 a (mI p4 780 22)) = mC p := by rw [k_mC_sI, s3']; exact ec2
            generalize sI p4 261 a (mI p4 780 22) = p5 at *
            generalize wI r4 20 i (nj w) = r5 at *
            have hS3 := Sp.trans (n := 0) (n' := 0) hS2 s5 (Nat.le_refl _) (Nat.le_refl _)
            rcases kind_i (a := a) (i := i) s4 50 (by omega) (y := 33) rfl (by omega) with ⟨z, p6, r6, k1, k2, k3, k4, k5, k6, k7, k8, k9, k10⟩ | ⟨p6, r6, k1, k2, k3⟩
            · have k1' : P_Parser_takeKind 50 p5 = _ := k1
              rw [k1', bn_s, if_neg (show ¬ (1 : Int32) = 0 by decide), k2, bn_s]
              have ec4 : mC p6 = mC p := by rw [k10, k_mC_sI]; exact ec3
              have hS4 := Sp.trans (n := 0) (n' := 0) hS3 k4 (Nat.le_refl _) (Nat.le_refl _)
              rcases e159_j (a := a) (i := i) k3 (by omega) hi (by rw [k8]; exact ha3) with ⟨p7, r7, t7, L, f1, f2, f3, f4, f5, f6, f7, f8, f9, f10, f11, f12, f13, f14⟩ | ⟨p7, r7, f1, f2, f3⟩
              · left
                rw [f1, f2]
                rw [ec4] at f9 f11 f13
                have hn12 : nm1 ≤ nm2 := s5.2.2.2.2.2.2.1
                refine ⟨p7, r7, t7, nm2, L, rfl, rfl, f3, Sp.trans (n := 0) (n' := 1) hS4 f4 (Nat.le_refl _) (Nat.le_refl _), f5, f6, f7, f8, f9, by rw [f10, k7, (s10 263 (by omega) (by omega)).2.2, (b10 263 (by omega) (by omega)).2.2, d7], f11, Or.inr ⟨?_, u, w, by omega, s6, b7, s7, ?_, ?_, ?_, ?_⟩, fun f q1 q2 q3 q4 q5 q6 => ⟨?_, ?_⟩, fun b hb => by rw [f13 b hb, k8, s11 b (by omega), b11 b (by omega), d8], fun y j y1 y2 y3 => by rw [f14 y j y1 y2 (by omega) (by omega), k9, s12 y j y1 (by omega) (by omega), b12 y j y1 (by omega) (by omega), d9, k_aI_wI (by omega)]⟩
                · rw [f14 18 i (by omega) (by omega) (by omega) (by omega), k9, s12 18 i (by omega) (by omega) (by omega), b12 18 i (by omega) (by omega) (by omega), d9, k_aI_wI_e, up1_ap, if_pos rfl]
                · rw [f14 19 i (by omega) (by omega) (by omega) (by omega), k9, s12 19 i (by omega) (by omega) (by omega)]; exact b9
                · rw [f14 20 i (by omega) (by omega) (by omega) (by omega), k9]; exact s9
                · rw [(f12 260 (by omega) (by omega) (by omega) (by omega)).1, k5 260 (by omega), (s10 260 (by omega) (by omega)).1 (by omega)]; exact b8
                · rw [(f12 261 (by omega) (by omega) (by omega) (by omega)).1, k5 261 (by omega)]; exact s8
                · rw [(f12 f q1 q2 q5 q6).1, k5 f (by omega), (s10 f q1 q2).1 q4, (b10 f q1 q2).1 q3, d5 f (by omega)]
                · rw [(f12 f q1 q2 q5 q6).2, k6, (s10 f q1 q2).2.1, (b10 f q1 q2).2.1, d6]
              · right
                rw [f1, f2]
                exact ⟨p7, r7, rfl, rfl, Sp.bi (n := 0) (n' := 0) hS4 f3 (Nat.le_refl _) (Nat.le_refl _)⟩
            · right
              have k1' : P_Parser_takeKind 50 p5 = _ := k1
              obtain ⟨r'', g1, g2⟩ := k3.go (F := fun m => R_tellClass_159 (nj i) m) s4.p82 (fun d q hq h82 => e159_f hq hi h82)
              rw [k1', bn_s, if_pos rfl, k2, bn_s]
              exact ⟨p6, r'', rfl, g1, Sp.bi (n := 0) (n' := 0) hS3 g2 (Nat.le_refl _) (Nat.le_refl _)⟩
          · right
            obtain ⟨r'', g1, g2⟩ := s3.go (F := fun m => bn (R_must 33 m) fun _ m40 => R_tellClass_159 (nj i) m40) b4.p82 (fun d q hq h82 => by
              rw [must_f hq, bn_s]
              exact e159_f hq hi h82)
            rw [s1, bn_s, if_pos rfl, s2, bn_s, g, vb_e]
            exact ⟨p4, r'', rfl, g1, Sp.bi (n := 0) (n' := 0) hS2 g2 (Nat.le_refl _) (Nat.le_refl _)⟩
        · right
          obtain ⟨r'', g1, g2⟩ := b3.go (F := fun m => bn (R_name m) fun r31 m32 => gd (inb (nj i) 750) (vb (wI m32 20 i r31) fun m38 => bn (R_must 33 m38) fun _ m40 => R_tellClass_159 (nj i) m40)) d3.p82 (fun d q hq h82 => by
            rw [name_f hq, bn_s, g, vb_e, must_f (hq.wI), bn_s]
            obtain ⟨r5, w1, w2, w3⟩ := e159_f (hq.wI (y := 20) (j := i) (v := 0)) hi h82
            exact ⟨r5, w1, w2, Rj.trans (Rj.rfl.wI (by omega) (by omega)) w3⟩)
          rw [b1, bn_s, if_pos rfl, b2, bn_s, g, vb_e]
          exact ⟨p2, r'', rfl, g1, Sp.bi (n := 0) (n' := 0) hS1 g2 (Nat.le_refl _) (Nat.le_refl _)⟩
      · right
        obtain ⟨r'', g1, g2⟩ := d3.go (F := fun m => bn (R_name m) fun r23 m24 => gd (inb (nj i) 750) (vb (wI m24 19 i r23) fun m30 => bn (R_name m30) fun r31 m32 => gd (inb (nj i) 750) (vb (wI m32 20 i r31) fun m38 => bn (R_must 33 m38) fun _ m40 => R_tellClass_159 (nj i) m40))) hP.p82 (fun d q hq h82 => by
          rw [name_f hq, bn_s, g, vb_e, name_f (hq.wI), bn_s, g, vb_e, must_f ((hq.wI).wI), bn_s]
          obtain ⟨r5, w1, w2, w3⟩ := e159_f ((hq.wI (y := 19) (j := i) (v := 0)).wI (y := 20) (j := i) (v := 0)) hi h82
          exact ⟨r5, w1, w2, Rj.trans ((Rj.rfl.wI (by omega) (by omega)).wI (by omega) (by omega)) w3⟩)
        rw [d1, bn_s, gz_t (Or.inl rfl), bn_s, if_pos rfl, d2, bn_s]
        exact ⟨p1, r'', rfl, g1, Sp.bi (n := 0) (n' := 0) hS g2 (Nat.le_refl _) (Nat.le_refl _)⟩
    · right
      rw [decide_eq_false z49, tI_f, if_pos rfl]
      rw [decide_eq_false z49, tI_f] at hP hS
      obtain ⟨p', r', a1, a2, a3, q, a4⟩ := fail_i (a := a) (i := i) (l := l) (c := c) hP 1 (Or.inl rfl)
      have a1' : P_Parser_fail 1 p = _ := a1
      have a2' : R_fail 1 (wI r 18 i 0) = _ := a2
      have ek : P_Parser_takeKind 49 p = some (0, p') := by
        unfold P_Parser_takeKind
        rw [h.1.2.2.1, inb_nj (by omega), gd_t (decide_eq_true (by omega)), ix_nj (by omega), h.kd3.2.1, if_neg (fun w => z49 (e49.mp w)), a1', bn_s, gz_t (Or.inl rfl)]
      have em : R_must 31 (wI r 18 i 0) = some ((), r') := by
        unfold R_must
        rw [hP.is 40 (by omega) (y := 31) rfl, bn_s, decide_eq_false z40, tI_f, if_pos rfl, a2', bn_s]
      obtain ⟨r'', g1, g2⟩ := a3.go (F := fun m => R_tellClass_159 (nj i) m) hP.p82 (fun d q hq h82 => e159_f hq hi h82)
      rw [ek, bn_s, if_pos rfl, em, bn_s]
      exact ⟨p', r'', rfl, g1, Sp.bi (n := 0) (n' := 0) hS g2 (Nat.le_refl _) (Nat.le_refl _)⟩
end Cj
