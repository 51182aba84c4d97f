/-! Layer C: TASKS of a class, both sides -/
section Pw
variable {N : Nat} {kd pl : Nat → Nat} {x a i l c : Nat} {p r : Mem} {t nm : Nat}
theorem Pi.sI {f b : Nat} {v : Int32} (h : Pi N kd pl x p r t nm l c) (h1 : 200 ≤ f) (h2 : f ≤ 268) : Pi N kd pl x (sI p f b v) r t nm l c := by
  obtain ⟨⟨a1, a2, a3, a4, a5, a6, a7, a8, a9, a10, a11, a12⟩, g2, g3, g4⟩ := h
  exact ⟨⟨a1, a2, by rw [k_mI_sI (by omega)]; exact a3, a4, a5, a6, by rw [k_mI_sI (by omega)]; exact a7, by rw [k_mI_sI (by omega)]; exact a8, a9, a10, a11, a12⟩, g2.same (by rw [k_mI_sI (by omega)]) (by rw [k_mI_sI (by omega)]) rfl rfl, g3.same (Nat.le_refl _) rfl (by rw [k_mI_sI (by omega)]) rfl rfl rfl (by rw [k_mI_sI (by omega)]), g4⟩
theorem Pi.sL {f b : Nat} {v : Int64} (h : Pi N kd pl x p r t nm l c) : Pi N kd pl x (sL p f b v) r t nm l c := by
  obtain ⟨⟨a1, a2, a3, a4, a5, a6, a7, a8, a9, a10, a11, a12⟩, g2, g3, g4⟩ := h
  exact ⟨⟨a1, a2, a3, a4, a5, a6, a7, a8, a9, a10, a11, a12⟩, g2, g3, g4⟩
theorem Pi.wI {y j : Nat} {v : Int32} (h : Pi N kd pl x p r t nm l c) (hy : 10 ≤ y) : Pi N kd pl x p (wI r y j v) t nm l c := by
  obtain ⟨⟨a1, a2, a3, a4, a5, a6, a7, a8, a9, a10, a11, a12⟩, g2, g3, g4⟩ := h
  exact ⟨⟨a1.keep rfl rfl rfl (by rw [k_aI_wI (by omega)]) (by rw [k_aI_wI (by omega)]) (by rw [k_aI_wI (by omega)]) rfl, a2, a3, a4, a5, a6, a7, a8, a9, a10, a11, a12⟩, g2, g3, g4⟩
theorem takeInt_3 {lo hi : Int32} {p' : Mem} (h : Pi N kd pl x p r t nm l c) (e : P_Parser_takeInt lo hi p = some (1, p')) : kd t = 3 := by
  by_cases z : kd t = 3
  · exact z
  · have hT := h.tN
    obtain ⟨m, b1, -⟩ := fail_e 1 h.1.2.2.1 (show t ≤ 500 by omega)
    have b1' : P_Parser_fail 1 p = _ := b1
    unfold P_Parser_takeInt at e
    rw [h.1.2.2.1, inb_nj (by omega), gd_t (decide_eq_true (by omega)), ix_nj (by omega), h.kd3.2.1, if_neg (by rw [nj_eq_l (by have := h.kd3.1; omega) (by omega)]; exact z), b1', bn_s, gz_t (Or.inl rfl)] at e
    have := (Prod.mk.inj (Option.some.inj e)).1
    exact absurd this (by decide)
/-- both fail at this token -/
theorem fail_i (h : Pi N kd pl x p r t nm l c) (d : Nat) (hd : d = 1 ∨ d = 2) : ∃ p' r', P_Parser_fail (nj d) p = some (0, p') ∧ R_fail (nj d) r = some ((), r') ∧ Bi 0 a i l c t nm p r p' r' ∧ ∃ q, Rf r' d q := by
  have hT := h.tN
  obtain ⟨k1, k2, k3, k4, k5, k6, k7, k8⟩ := h.1.1.2.2.2.2 t h.1.2.1
  obtain ⟨p', b1, b2⟩ := fail_e d h.1.2.2.1 (show t ≤ 500 by omega)
  obtain ⟨r', d1, d2, d3⟩ := fail_r (c := d) h.1.2.2.2.2.1 h.1.2.2.2.1 (by omega) k6 hd
  exact ⟨p', r', b1, d1, (bad_of h.1 Ct.rfl b2 d2 (fail_t (q := 0) d1) (fail_o d1 (by omega) (by omega)) (fail_o d1 (by omega) (by omega)) (fun _ _ => rfl) ((d3 0).1.al (by decide) (fun z => z) (by have := h.p82; omega))).bi h.p82 (by omega), _, d2⟩
end Pw
section Tf
variable {r : Mem} {i d q n : Nat} {x2 : Int32}
theorem e79_f (h : Rf r d q) (hi : i < 750) (h82 : 82 ≤ mC r) : ∃ r', R_tellClass_79 (fun z0 z1 z2 z3 => R_tellClass_20 (n + 1) z0 z1 z2 z3) (nj i) x2 r = some ((), r') ∧ Rf r' d q ∧ Rj i r r' := by
  unfold R_tellClass_79 R_tellClass_96
  rw [vb_e, is_f h, bn_s, if_pos rfl]
  exact e20_f h hi h82
theorem e50_f {v : Int32} (h : Rf r d q) (hi : i < 750) (h82 : 82 ≤ mC r) : ∃ r', (if 16 ≤ v then R_tellClass_79 (fun z0 z1 z2 z3 => R_tellClass_20 (n + 1) z0 z1 z2 z3) (nj i) x2 r else gd (inb (nj i) 750) (gd (inb (nj i) 750) (vb (wI r 17 (ix (nj i)) ((aI r 17 (ix (nj i))) ||| (1 <<< (v &&& 31)))) fun m10 => R_tellClass_79 (fun z0 z1 z2 z3 => R_tellClass_20 (n + 1) z0 z1 z2 z3) (nj i) x2 m10))) = some ((), r') ∧ Rf r' d q ∧ Rj i r r' := by
  by_cases z : 16 ≤ v
  · rw [if_pos z]
    exact e79_f h hi h82
  · rw [if_neg z, inb_nj (by omega), gd_t (decide_eq_true hi), gd_t (decide_eq_true hi), vb_e, ix_nj (by omega)]
    obtain ⟨r', a1, a2, a3⟩ := e79_f (i := i) (n := n) (x2 := x2) (h.wI (y := 17) (j := i) (v := aI r 17 i ||| (1 <<< (v &&& 31)))) hi h82
    exact ⟨r', a1, a2, Rj.trans (Rj.rfl.wI (by omega) (by omega)) a3⟩
end Tf
theorem Bi.go {n a i l c t nm : Nat} {p r p' r' : Mem} {F : Mem → Option (Unit × Mem)} (h : Bi n a i l c t nm p r p' r') (h82 : 82 ≤ mC r) (k : ∀ d q, Rf r' d q → 82 ≤ mC r' → ∃ r'', F r' = some ((), r'') ∧ Rf r'' d q ∧ Rj i r' r'') : ∃ r'', F r' = some ((), r'') ∧ Bi n a i l c t nm p r p' r'' := by
  obtain ⟨⟨d, q, w1, w2, w3⟩, b2, b3, b4, b5, b6, b7, b8⟩ := h
  obtain ⟨r'', c1, c2, c3⟩ := k d q w3 (by rw [b6.2.1]; exact h82)
  exact ⟨r'', c1, ⟨d, q, w1, w2, c2⟩, b2, b3, b4, b5, Ri.trans b6 (c3.1 l c), b7, fun k hk => by rw [c3.2]; exact b8 k hk⟩
/-- the bits agree where no fault is late -/
def Tb (a i : Nat) (p r : Mem) : Prop := mI r 1551 0 = 0 → mI p 259 a = aI r 17 i ∧ ∃ b, b < 65536 ∧ aI r 17 i = nj b
def TasksS (N : Nat) (kd pl : Nat → Nat) (x a i l c nm d : Nat) : Prop := ∀ (k : Nat) (p r : Mem) (t fu fu2 : Nat), k + d = 8 → Pi N kd pl x p r t nm l c → mT p a = 3 → Tb a i p r → d + 2 < fu → d + 2 < fu2 →
    (∃ p' r' t', P_Parser_takeTasks_54 (fun z0 z1 z2 => P_Parser_takeTasks_13 fu z0 z1 z2) (some a) (nj k) p = some (1, p') ∧ R_tellClass_20 fu2 (nj i) (nj k) 1 r = R_tellClass_99 (nj i) r' ∧ Pi N kd pl x p' r' t' nm l c ∧ Sp 0 a i l c p r p' r' t t' nm nm ∧ Tb a i p' r' ∧ (∀ f, 256 ≤ f → f ≤ 268 → f ≠ 259 → mI p' f a = mI p f a) ∧ mL p' = mL p ∧ mR p' = mR p ∧ mT p' = mT p ∧ (∀ y j, y ≠ 17 → aI r' y j = aI r y j)) ∨
    (∃ p' r', P_Parser_takeTasks_54 (fun z0 z1 z2 => P_Parser_takeTasks_13 fu z0 z1 z2) (some a) (nj k) p = some (0, p') ∧ R_tellClass_20 fu2 (nj i) (nj k) 1 r = some ((), r') ∧ Bi 0 a i l c t nm p r p' r')
theorem tasks_s {N : Nat} {kd pl : Nat → Nat} {x a i l c nm : Nat} (hi : i < 750) (d : Nat) (ih : 0 < d → TasksS N kd pl x a i l c nm (d - 1)) : TasksS N kd pl x a i l c nm d := by
    intro k p r t fu fu2 hk h ha hB hfu hfu2
    obtain ⟨fu2, rfl⟩ : ∃ f, fu2 = f + 1 := ⟨fu2 - 1, by omega⟩
    obtain ⟨fu, rfl⟩ : ∃ f, fu = f + 1 := ⟨fu - 1, by omega⟩
    obtain ⟨fu3, rfl⟩ : ∃ f, fu2 = f + 1 := ⟨fu2 - 1, by omega⟩
    have hT := h.tN
    have h82 := h.p82
    have la : a < mC p := h.T.lt (by rw [ha]; decide)
    have h0 : mI r 1549 0 = 0 := h.1.2.2.2.2.1
    have e8 : (nj k = 8) = (k = 8) := nj_eq_l (by omega) (by omega)
    have e3 : (nj (kd t) = 3) = (kd t = 3) := nj_eq_l (by have := h.kd3.1; omega) (by omega)
    rw [R_tellClass_20.eq_2, if_neg (show ¬ (1 : Int32) = 0 by decide), if_pos h0, h.is 3 (by omega) (y := 2) rfl, bn_s]
    unfold P_Parser_takeTasks_54
    rw [h.1.2.2.1, inb_nj (by omega), gd_t (decide_eq_true (by omega)), ix_nj (by omega), h.kd3.2.1]
    by_cases z8 : k = 8 ∧ kd t = 3
    · right
      obtain ⟨p', r', a1, a2, a3, q, a4⟩ := fail_i (a := a) (i := i) (l := l) (c := c) h 2 (Or.inr rfl)
      have a1' : P_Parser_fail 2 p = _ := a1
      have a2' : R_fail 2 r = _ := a2
      unfold P_Parser_takeTasks_76 R_tellClass_50
      obtain ⟨r'', b1, b2⟩ := a3.go (F := fun m => bn (R_number 0 15 m) fun r1 m2 => if 16 ≤ r1 then R_tellClass_79 (fun z0 z1 z2 z3 => R_tellClass_20 (fu3 + 1) z0 z1 z2 z3) (nj i) (nj k) m2 else gd (inb (nj i) 750) (gd (inb (nj i) 750) (vb (wI m2 17 (ix (nj i)) ((aI m2 17 (ix (nj i))) ||| (1 <<< (r1 &&& 31)))) fun m10 => R_tellClass_79 (fun z0 z1 z2 z3 => R_tellClass_20 (fu3 + 1) z0 z1 z2 z3) (nj i) (nj k) m10))) h82 (fun d' q' hq h82' => by
        show ∃ r'', (bn (R_number 0 15 r') _) = some ((), r'') ∧ _
        rw [number_f hq, bn_s]
        exact e50_f hq hi h82')
      rw [if_pos (e8.mpr z8.1), if_pos (e3.mpr z8.2), a1', bn_s, gz_t (Or.inl rfl), decide_eq_true z8.2, tI_t, if_neg (show ¬ (1 : Int32) = 0 by decide), if_pos (e8.mpr z8.1), a2', bn_s]
      exact ⟨p', r'', rfl, b1, b2⟩
    · have eP : (if nj k = 8 then (if nj (kd t) = 3 then P_Parser_takeTasks_76 p else P_Parser_takeTasks_82 (fun z0 z1 z2 => P_Parser_takeTasks_13 (fu + 1) z0 z1 z2) (some a) (nj k) p) else P_Parser_takeTasks_82 (fun z0 z1 z2 => P_Parser_takeTasks_13 (fu + 1) z0 z1 z2) (some a) (nj k) p) = P_Parser_takeTasks_82 (fun z0 z1 z2 => P_Parser_takeTasks_13 (fu + 1) z0 z1 z2) (some a) (nj k) p := by
        by_cases y : k = 8
        · rw [if_pos (e8.mpr y), if_neg (fun w => z8 ⟨y, e3.mp w⟩)]
        · rw [if_neg (fun w => y (e8.mp w))]
      have eR : (if tI (decide (kd t = 3)) = 0 then R_tellClass_50 (fun z0 z1 z2 z3 => R_tellClass_20 (fu3 + 1) z0 z1 z2 z3) (nj i) (nj k) r else if nj k = 8 then bn (R_fail 2 r) fun _ m10 => R_tellClass_50 (fun z0 z1 z2 z3 => R_tellClass_20 (fu3 + 1) z0 z1 z2 z3) (nj i) (nj k) m10 else R_tellClass_50 (fun z0 z1 z2 z3 => R_tellClass_20 (fu3 + 1) z0 z1 z2 z3) (nj i) (nj k) r) = R_tellClass_50 (fun z0 z1 z2 z3 => R_tellClass_20 (fu3 + 1) z0 z1 z2 z3) (nj i) (nj k) r := by
        by_cases y : kd t = 3
        · rw [decide_eq_true y, tI_t, if_neg (show ¬ (1 : Int32) = 0 by decide), if_neg (fun w => z8 ⟨e8.mp w, y⟩)]
        · rw [decide_eq_false y, tI_f, if_pos rfl]
      rw [eP, eR]
      unfold P_Parser_takeTasks_82 R_tellClass_50
      rcases int_i (a := a) (i := i) h 0 15 (by omega) (by omega) with ⟨v, p1, r1, v1, b1, b2, b3, b4, b5, b6, b7, b8, b9, b10, b11⟩ | ⟨v, p1, r1, b1, b2, b3, b4⟩
      · have z3 : kd t = 3 := takeInt_3 h b1
        have b1' : P_Parser_takeInt 0 15 p = _ := b1
        have b2' : R_number 0 15 r = _ := b2
        rw [b1', bn_s, if_neg (show ¬ (1 : Int32) = 0 by decide), gs_s, gt_t (by rw [b10]; exact ha), vb_e, vb_e, nj_add_l, b5, b2', bn_s]
        -- what the reference has then
        obtain ⟨r2, er, hr2, hri, hb2, ho2, h512⟩ : ∃ r2, (if 16 ≤ nj v then R_tellClass_79 (fun z0 z1 z2 z3 => R_tellClass_20 (fu3 + 1) z0 z1 z2 z3) (nj i) (nj k) r1 else gd (inb (nj i) 750) (gd (inb (nj i) 750) (vb (wI r1 17 (ix (nj i)) ((aI r1 17 (ix (nj i))) ||| (1 <<< (nj v &&& 31)))) fun m10 => R_tellClass_79 (fun z0 z1 z2 z3 => R_tellClass_20 (fu3 + 1) z0 z1 z2 z3) (nj i) (nj k) m10))) = R_tellClass_79 (fun z0 z1 z2 z3 => R_tellClass_20 (fu3 + 1) z0 z1 z2 z3) (nj i) (nj k) r2 ∧ Pi N kd pl x p1 r2 (t + 1) nm l c ∧ Ri i l c r1 r2 ∧ (v < 16 → aI r2 17 i = aI r1 17 i ||| (1 <<< (nj v &&& 31))) ∧ (∀ y j, y ≠ 17 → aI r2 y j = aI r1 y j) ∧ (mI r2 = mI r1 ∧ aL r2 = aL r1) := by
          by_cases y : 16 ≤ v
          · rw [if_pos (by rw [nj_l_le (by omega) (by omega)]; exact y)]
            exact ⟨r1, rfl, b3, Ri.rfl, fun w => by omega, fun _ _ _ => rfl, rfl, rfl⟩
          · rw [if_neg (by rw [nj_l_le (by omega) (by omega)]; exact y), inb_nj (by omega), gd_t (decide_eq_true hi), gd_t (decide_eq_true hi), vb_e, ix_nj (by omega)]
            exact ⟨_, rfl, b3.wI (by omega), Ri.rfl.wI (by omega) (by omega), fun _ => by rw [k_aI_wI_e, up1_ap, if_pos rfl], fun y' j hy => by rw [k_aI_wI hy], rfl, rfl⟩
        rw [er]
        have hP2 : Pi N kd pl x (sI p1 259 a (mI p1 259 a ||| (1 <<< (nj v &&& 31)))) r2 (t + 1) nm l c := hr2.sI (by omega) (by omega)
        have hT2 : mT (sI p1 259 a (mI p1 259 a ||| (1 <<< (nj v &&& 31)))) a = 3 := by rw [k_mT_sI, b10]; exact ha
        have hB2 : Tb a i (sI p1 259 a (mI p1 259 a ||| (1 <<< (nj v &&& 31)))) r2 := by
          intro q
          rw [h512.1] at q
          have v15 := b6 q
          obtain ⟨w1, b, w2, w3⟩ := hB (b4.2.2.2.2.2.2.2.2.2 q)
          rw [k_mI_sI_e, up1_ap, if_pos rfl, b7 259 (by omega) (by omega), hb2 (by omega), b11]
          rw [w1, w3]
          obtain ⟨b', o1, o2⟩ := or_e w2 (show v < 16 by omega)
          exact ⟨rfl, b', o1, o2⟩
        have hf2 : ∀ f, 256 ≤ f → f ≤ 268 → f ≠ 259 → mI (sI p1 259 a (mI p1 259 a ||| (1 <<< (nj v &&& 31)))) f a = mI p f a := fun f f1 f2 f3 => by rw [k_mI_sI f3, b7 f f1 f2]
        have hx2 : mL (sI p1 259 a (mI p1 259 a ||| (1 <<< (nj v &&& 31)))) = mL p ∧ mR (sI p1 259 a (mI p1 259 a ||| (1 <<< (nj v &&& 31)))) = mR p ∧ mT (sI p1 259 a (mI p1 259 a ||| (1 <<< (nj v &&& 31)))) = mT p := ⟨b8 ▸ rfl, b9 ▸ rfl, b10 ▸ rfl⟩
        have hS2 : Sp 0 a i l c p r (sI p1 259 a (mI p1 259 a ||| (1 <<< (nj v &&& 31)))) r2 t (t + 1) nm nm := by
          obtain ⟨s1, s2, s3, s4, s5, s6, s7, s8, s9, s10⟩ := b4
          exact ⟨s1.sI (by decide) (Or.inl rfl), Ri.trans s2 hri, s3, s4, s5, s6, s7, s8, fun k hk => by rw [h512.2]; exact s9 k hk, fun q => s10 (by rw [← h512.1]; exact q)⟩
        have hk8 : k < 8 := by
          by_cases y : k = 8
          · exact absurd ⟨y, z3⟩ z8
          · omega
        generalize sI p1 259 a (mI p1 259 a ||| (1 <<< (nj v &&& 31))) = p2 at *
        have hT3 := hP2.tN
        unfold R_tellClass_79 R_tellClass_96
        rw [vb_e, nj_add_l, hP2.is 5 (by omega) (y := 5) rfl, bn_s]
        show (∃ p' r' t', P_Parser_takeTasks_13 (fu + 1) (some a) (nj (k + 1)) p2 = some (1, p') ∧ _) ∨ (∃ p' r', P_Parser_takeTasks_13 (fu + 1) (some a) (nj (k + 1)) p2 = some (0, p') ∧ _)
        rw [P_Parser_takeTasks_13.eq_2, if_neg (by rw [nj_l_lt (by omega) (by omega)]; omega), if_neg (by rw [nj_le_l (by omega) (by omega)]; omega), hP2.1.2.2.1, inb_nj (by omega), gd_t (decide_eq_true (by omega)), ix_nj (by omega), hP2.kd3.2.1]
        have e5 : (nj (kd (t + 1)) = 5) = (kd (t + 1) = 5) := nj_eq_l (by have := hP2.kd3.1; omega) (by omega)
        by_cases z5 : kd (t + 1) = 5
        · rw [if_pos (e5.mpr z5), decide_eq_true z5, tI_t, if_neg (show ¬ (1 : Int32) = 0 by decide)]
          unfold P_Parser_takeTasks_41
          rw [if_neg (by rw [nj_le_l (by omega) (by omega)]; omega)]
          rcases take_i (a := a) (i := i) hP2 (by omega) with ⟨p3, r3, d1, d2, d3, d4, d5, d6, d7, d8, d9, -, -⟩ | ⟨p3, r3, d1, d2, d3⟩
          · rw [d1, bn_s, if_neg (show ¬ (1 : Int32) = 0 by decide), d2, bn_s]
            rcases ih (by omega) (k + 1) p3 r3 (t + 1 + 1) fu (fu3 + 1) (by omega) d3 (by rw [d8]; exact hT2) (by
              intro q
              rw [d5 259 (by omega), d9]
              exact hB2 (d4.2.2.2.2.2.2.2.2.2 q)) (by omega) (by omega) with ⟨p4, r4, t4, f1, f2, f3, f4, f5, f6, f7, f8, f9, f10⟩ | ⟨p4, r4, f1, f2, f3⟩
            · left
              exact ⟨p4, r4, t4, f1, f2, f3, Sp.trans (n := 0) (n' := 0) hS2 (Sp.trans (n := 0) (n' := 0) d4 f4 (Nat.le_refl _) (Nat.le_refl _)) (Nat.le_refl _) (Nat.le_refl _), f5, fun f q1 q2 q3 => by rw [f6 f q1 q2 q3, d5 f (by omega), hf2 f q1 q2 q3], by rw [f7, d6]; exact hx2.1, by rw [f8, d7]; exact hx2.2.1, by rw [f9, d8]; exact hx2.2.2, fun y j hy => by rw [f10 y j hy, d9, ho2 y j hy, b11]⟩
            · right
              exact ⟨p4, r4, f1, f2, Sp.bi (n := 0) (n' := 0) hS2 (Sp.bi (n := 0) (n' := 0) d4 f3 (Nat.le_refl _) (Nat.le_refl _)) (Nat.le_refl _) (Nat.le_refl _)⟩
          · right
            obtain ⟨r'', g1, g2⟩ := d3.go (F := fun m => R_tellClass_20 (fu3 + 1) (nj i) (nj (k + 1)) 1 m) hP2.p82 (fun d' q' hq h82' => e20_f hq hi h82')
            rw [d1, bn_s, if_pos rfl, d2, bn_s]
            exact ⟨p3, r'', rfl, g1, Sp.bi (n := 0) (n' := 0) hS2 g2 (Nat.le_refl _) (Nat.le_refl _)⟩
        · left
          rw [if_neg (fun w => z5 (e5.mp w)), decide_eq_false z5, tI_f, if_pos rfl]
          refine ⟨p2, r2, t + 1, rfl, ?_, hP2, hS2, hB2, hf2, hx2.1, hx2.2.1, hx2.2.2, fun y j hy => by rw [ho2 y j hy, b11]⟩
          show R_tellClass_20 (fu3 + 1) (nj i) (nj (k + 1)) 0 r2 = _
          rw [R_tellClass_20.eq_2, if_pos rfl]
      · right
        have b1' : P_Parser_takeInt 0 15 p = _ := b1
        have b2' : R_number 0 15 r = _ := b2
        obtain ⟨r'', d1, d2⟩ := b3.go (F := fun m2 => if 16 ≤ v then R_tellClass_79 (fun z0 z1 z2 z3 => R_tellClass_20 (fu3 + 1) z0 z1 z2 z3) (nj i) (nj k) m2 else gd (inb (nj i) 750) (gd (inb (nj i) 750) (vb (wI m2 17 (ix (nj i)) ((aI m2 17 (ix (nj i))) ||| (1 <<< (v &&& 31)))) fun m10 => R_tellClass_79 (fun z0 z1 z2 z3 => R_tellClass_20 (fu3 + 1) z0 z1 z2 z3) (nj i) (nj k) m10))) h82 (fun d' q' hq h82' => e50_f hq hi h82')
        rw [b1', bn_s, if_pos rfl, b2', bn_s]
        exact ⟨p1, r'', rfl, d1, d2⟩
theorem tasks_j {N : Nat} {kd pl : Nat → Nat} {x a i l c nm : Nat} (hi : i < 750) : ∀ d, TasksS N kd pl x a i l c nm d
  | 0 => tasks_s hi 0 (fun h => absurd h (by omega))
  | d + 1 => tasks_s hi (d + 1) (fun _ => tasks_j hi d)
