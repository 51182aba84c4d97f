/-! Layer C: questions of a HALF -/
def qF : List Nat := [1026, 1027, 1028, 1032, 1041, 1043, 1157, 1295, 1296, 268, 1287, 1292, 1293, 1294]
def qA : List Nat := [4, 26, 27, 29, 30, 31, 32, 33, 34, 35, 36, 37, 38, 39, 40]
def hi51 : Nat → Prop := fun a => 51 ≤ a
/-- a DAY that both have reckoned -/
def DayJ (nc w : Nat) (p r : Mem) (X : Dy) (who : Nat) (p' r' : Mem) : Prop := ∃ (fa ta ia sa ca : Nat → Nat) (od : List Nat) (w' : Nat), PS fa ta ia sa ca od (dat r) none w' p' ∧ w' ≤ w + 192 ∧ (∀ g, g < 48 → PkH ta (dat r) X none p' g) ∧ (tkN (dat r) (rwH (dat r) X) 48 ≠ 0 → PD fa ta ia sa ca od (dat r) X none w' p' ∧ V39 (dat r) X p' ∧ mI p' 1032 28 = nj (waH (dat r) X)) ∧ LdX fa (dat r) X p' ∧ RX (dat r) X who r' ∧ RB (dat r) none r' ∧ LC1 (dat r) X who none r' ∧ Ch qF qA hi51 p p' ∧ Ch loF loA nil r r' ∧ mC p' = mC p ∧ mS p' = mS p ∧ mC r' = mC r
section Hf
variable {fa ta ia sa ca : Nat → Nat} {od : List Nat} {p r : Mem} {nc w : Nat}
theorem Bs.PS_ (h : Bs nc p r) (hw : mI p 1157 25 = nj w) : ∃ fa ta ia sa ca od, PS fa ta ia sa ca od (dat r) none w p := by
  obtain ⟨⟨T, C2, W, Wf, e1, e2, hn60, e4, e5, fa, ta, ia, sa, ca, od, L, hSc⟩, Ld, hp, Wi, hB, hT⟩ := h
  refine ⟨fa, ta, ia, sa, ca, od, L, T, hp, ⟨hw, fun k j hk => by rw [← hw]; exact hSc.2.2.1 k j hk⟩, hSc.1, fun k hk hn => hSc.2.1 k hk (of_decide_eq_false hn), ⟨hSc.2.2.2, fun s e => by cases e⟩, Ld.wgt, fun j _ => ?_⟩
  obtain ⟨to, fi, pe, h1, h2, h3, g1, g2, g3, g4, g5, g6, a1, a2, -⟩ := Ld
  rw [a1, a2, dat_37 rfl (Or.inl rfl), dat_37 rfl (Or.inr rfl)]
  exact ⟨rfl, rfl⟩
theorem Bs.RB_ (h : Bs nc p r) : RB (dat r) none r := by
  obtain ⟨⟨T, C2, W, Wf, e1, e2, -⟩, Ld, hp, Wi, hB, hT⟩ := h
  exact ⟨rfl, C2, e2, hB, fun _ => hT, fun s e => by cases e⟩
theorem Bs_of {p' r' : Mem} (h : Bs nc p r) (P : PS fa ta ia sa ca od (dat r) none w p') (c : Ch qF qA hi51 p p') (R : RB (dat r) none r') (cr : Ch loF loA nil r r') (hC : mC r' = mC r) : Bs nc p' r' ∧ dat r' = dat r := by
  obtain ⟨hc, Ld, hp, Wi, hB, hT⟩ := h
  have T1 := hc.1.1
  have C2 := hc.2.1
  obtain ⟨k1, k2⟩ := hc.R cr hC (by decide) (by decide) (by decide)
  obtain ⟨T, -, W, Wf, e1, e2, hn60, e4, e5, -⟩ := k1
  obtain ⟨P1, P2, P3, P4, P5, P6, P7, P8, P9⟩ := P
  have L2 : Land p' r' := (Ld.P c T1 (by decide) (by decide) (fun a h => h)).R cr C2 (by decide) (by decide)
  refine ⟨⟨⟨P2, by omega, W, Wf, e1, e2, hn60, ?_, e5, fa, ta, ia, sa, ca, od, by rw [k2]; exact P1, ?_⟩, L2, P3, by rw [k2]; exact Wi, by rw [k2]; exact R.2.2.2.1, R.2.2.2.2.1 rfl⟩, k2⟩
  · rw [c.i (by decide) (by omega)]; exact e4
  · rw [k2]
    exact ⟨P5, fun k hk hn => P6 k hk (decide_eq_false hn), fun k j hk => by rw [P4.1]; exact P4.2 k j hk, P7.1⟩
theorem R_isHalf_e (h : Bs nc p r) (x1 x2 x3 x4 : Int32) : R_isHalf x1 x2 x3 x4 r = some (tI (decide ((0 ≤ x1 ∧ x1 < mI r 1595 0) ∧ (0 ≤ x2 ∧ x2 ≤ 139) ∧ (0 ≤ x3 ∧ x3 ≤ 47) ∧ (0 ≤ x4 ∧ x4 ≤ nj (dat r).2.2))), r) := by
  have k2 := R_isKnown_e h.1 x4
  unfold R_isHalf
  by_cases c1 : 0 ≤ x1 ∧ x1 < mI r 1595 0 <;> by_cases c2 : 0 ≤ x2 ∧ x2 ≤ 139 <;> by_cases c3 : 0 ≤ x3 ∧ x3 ≤ 47 <;> by_cases c4 : 0 ≤ x4 ∧ x4 ≤ nj (dat r).2.2 <;> simp [R_isPerson_e, R_in_e, k2, bn_s, bp_s, tI, c1, c2, c3, c4]
theorem P_isHalfOf_e (h : Bs nc p r) (x1 x2 x3 x4 : Int32) : P_isHalfOf x1 x2 x3 x4 p = some (tI (decide ((0 ≤ x1 ∧ x1 < mI r 1595 0) ∧ (0 ≤ x2 ∧ x2 ≤ 139) ∧ (0 ≤ x3 ∧ x3 ≤ 47) ∧ (0 ≤ x4 ∧ x4 ≤ nj (dat r).2.2))), p) := by
  have k1 := P_canKnow_e h.1 x4
  unfold P_isHalfOf
  by_cases c1 : 0 ≤ x1 ∧ x1 < mI r 1595 0 <;> by_cases c2 : 0 ≤ x2 ∧ x2 ≤ 139 <;> by_cases c3 : 0 ≤ x3 ∧ x3 ≤ 47 <;> by_cases c4 : 0 ≤ x4 ∧ x4 ≤ nj (dat r).2.2 <;> simp [P_hasPerson_e h.2.1, P_isDay_e, P_within_e, k1, bn_s, bp_s, tI, c1, c2, c3, c4]
/-- what a PERSON's DAY is asked of -/
theorem ask_X (h : Bs nc p r) {x1 : Int32} (c1 : 0 ≤ x1 ∧ x1 < mI r 1595 0) : ∃ who f, x1 = nj who ∧ who < 10 ∧ f < 8 ∧ (aI r 39 who = nj f ∧ nj who < mI r 1595 0) ∧ aI p 8 who = nj f ∧ aI p 9 who = aI r 40 who ∧ aI p 10 who = aI r 41 who := by
  obtain ⟨to, fi, pe, h1, h2, h3, g1, g2, g3, g4, g5, g6, a1, a2, a3, a4, a5, a6, a7, b1, b2, b3, -⟩ := h.2.1
  rw [g6] at c1
  obtain ⟨who, hwho, rfl⟩ := nj_in' (by omega) c1
  obtain ⟨f, hf, ef⟩ := b2 who hwho
  exact ⟨who, f, rfl, by omega, by omega, ⟨ef, by rw [g6, nj_lt (by omega) (by omega)]; exact hwho⟩, by rw [a3]; exact ef, by rw [a4], by rw [a5]⟩
theorem LdX.of {X : Dy} {F A : List Nat} {p' : Mem} {dy : Nat → Prop} (H : LdX fa (dat r) X p) (T : Top p) (c : Ch F A dy p p') (hF : 1026 ∉ F ∧ 1027 ∉ F ∧ 1028 ∉ F) (hA : 29 ∉ A ∧ 8 ∉ A ∧ 9 ∉ A ∧ 10 ∉ A) (hd : ∀ a, dy a → 51 ≤ a) : LdX fa (dat r) X p' := by
  have T1 := T.1
  have nd : ∀ a, a < 51 → ¬ dy a := fun a ha q => by have := hd a q; omega
  obtain ⟨h1, h2, who, h3, h4, h5, h6, h7⟩ := H
  exact ⟨h1.Ch T c ⟨hF.1, hF.2.1⟩ hA.1 (nd _ (by omega)), by rw [c.i hF.2.2 (by omega)]; exact h2, who, h3, h4, by rw [c.ai hA.2.1 (nd _ (by omega)) (by omega)]; exact h5, by rw [c.ai hA.2.2.1 (nd _ (by omega)) (by omega)]; exact h6, by rw [c.ai hA.2.2.2 (nd _ (by omega)) (by omega)]; exact h7⟩
theorem day_e (h : Bs nc p r) (hL : LC (dat r) none r) (hw : mI p 1157 25 = nj w) (hw1 : w + 192 < 2147483647) {who f d n : Nat} (hwho : who < 10) (hf : f < 8) (hd : d < 140) (hn : n ≤ (dat r).2.2) (e39 : aI r 39 who = nj f ∧ nj who < mI r 1595 0) (q1 : aI p 8 who = nj f) (q2 : aI p 9 who = aI r 40 who) (q3 : aI p 10 who = aI r 41 who) :
    ∃ p1 p' r', P_Reckoning_load (nj who) (nj (d / 7)) (nj n) p = some ((), p1) ∧ P_Reckoning_reckon (nj (d % 7)) p1 = some ((), p') ∧ R_looks (nj who) (nj d) (nj n) r = some ((), r') ∧ DayJ nc w p r (f, d, n, nj who, aI r 41 who, aI r 40 who) who p' r' := by
  obtain ⟨fa, ta, ia, sa, ca, od, P⟩ := h.PS_ hw
  have W := h.1.2.2.1
  have Wf := h.1.2.2.2.1
  have hn60 : nc ≤ 60 := h.1.2.2.2.2.2.2.1
  have Wi := h.2.2.2.1
  have h160 := W.2.1
  have T1 := P.2.1.1
  obtain ⟨p1, a1, a2, a3, a4, a5, a6⟩ := P_load_e P.1.1 P.2.1 P.2.2.1 Wf h160 (a := nj who) (wk := d / 7) (by omega) hn
  have P1 := P.Ch a4 (by decide) (by decide) (by decide)
  have HL : LdX fa (dat r) (f, d, n, nj who, aI r 41 who, aI r 40 who) p1 := ⟨a2, a3, who, hwho, rfl, by rw [a4.ai (by decide) nil_no (by omega)]; exact q1, by rw [a4.ai (by decide) nil_no (by omega)]; exact q2, by rw [a4.ai (by decide) nil_no (by omega)]; exact q3⟩
  obtain ⟨p', w', b1, b2, b3, b4, b5, b6, b7, b8⟩ := P_reckon_e (X := (f, d, n, nj who, aI r 41 who, aI r 40 who)) W Wf Wi hn60 hd hf hn hw1 P1 HL
  obtain ⟨r', d1, d2, d3, d4, d5, d6⟩ := R_looks_e (X := (f, d, n, nj who, aI r 41 who, aI r 40 who)) W Wf Wi hn60 ⟨hwho, rfl, hd, hf, hn, e39, rfl, rfl⟩ h.RB_ hL
  have h51 : ∀ a, dyT ta (dat r).2.1 a → 51 ≤ a := fun a q => by
    by_cases z : a ≤ 51
    · exact absurd q (dyT_lo P.1 z)
    · omega
  refine ⟨p1, p', r', a1, b1, d1, fa, ta, ia, sa, ca, od, w', b2, b3, b4, b5, HL.of P1.2.1 b6 (by decide) (by decide) h51, d2, d3, d4, (a4.mono (by decide) (by decide) (fun _ h => h.elim)).trans (b6.mono (by decide) (by decide) h51), d5, by omega, by omega, d6⟩
theorem half_e (h : Bs nc p r) (hL : LC (dat r) none r) (hw : mI p 1157 25 = nj w) (hw1 : w + 192 < 2147483647) (x1 x2 x3 x4 : Int32) :
    (P_reckoned x1 x2 x3 x4 p = some (0, p) ∧ R_isHalf x1 x2 x3 x4 r = some (0, r)) ∨ ∃ X who g p' r', x1 = nj who ∧ x2 = nj (xd X) ∧ x3 = nj g ∧ x4 = nj (xn X) ∧ g < 48 ∧ P_reckoned x1 x2 x3 x4 p = some (1, p') ∧ R_isHalf x1 x2 x3 x4 r = some (1, r) ∧ R_looks x1 x2 x4 r = some ((), r') ∧ DayJ nc w p r X who p' r' := by
  have h1 := P_isHalfOf_e h x1 x2 x3 x4
  have h2 := R_isHalf_e h x1 x2 x3 x4
  have h160 := h.1.2.2.1.2.1
  by_cases q : (0 ≤ x1 ∧ x1 < mI r 1595 0) ∧ (0 ≤ x2 ∧ x2 ≤ 139) ∧ (0 ≤ x3 ∧ x3 ≤ 47) ∧ (0 ≤ x4 ∧ x4 ≤ nj (dat r).2.2)
  · rw [decide_eq_true q] at h1 h2
    obtain ⟨c1, c2, c3, c4⟩ := q
    obtain ⟨who, f, rfl, hwho, hf, e39, q1, q2, q3⟩ := ask_X h c1
    obtain ⟨d, hd, rfl⟩ := nj_in (n := 139) (by omega) c2
    obtain ⟨g, hg, rfl⟩ := nj_in (n := 47) (by omega) c3
    obtain ⟨n, hn, rfl⟩ := nj_in (by omega) c4
    obtain ⟨p1, p', r', a1, a2, a3, a4⟩ := day_e h hL hw hw1 hwho hf (show d < 140 by omega) hn e39 q1 q2 q3
    have d7 : nj d / 7 = nj (d / 7) := nj_div (b := 7) (by omega) (by omega)
    have m7 : nj d - nj (d / 7) * 7 = nj (d % 7) := by rw [show (7 : Int32) = nj 7 from rfl, nj_mul, nj_sub (by omega)]; congr 1; omega
    refine Or.inr ⟨_, who, g, p', r', rfl, rfl, rfl, rfl, by omega, ?_, h2, a3, a4⟩
    unfold P_reckoned
    rw [h1, bn_s, if_neg (show ¬ tI true = 0 by decide), d7, a1, bn_s, m7, a2, bn_s]
  · rw [decide_eq_false q] at h1 h2
    refine Or.inl ⟨?_, h2⟩
    unfold P_reckoned
    rw [h1, bn_s, if_pos (by rfl)]
/-- a question that reckons -/
def Askl (nc w n : Nat) (p r : Mem) (x y : Option (Int32 × Mem)) : Prop := ∃ v p' r', x = some (v, p') ∧ y = some (v, r') ∧ Bs nc p' r' ∧ LC (dat r') none r' ∧ Ch qF qA hi51 p p' ∧ Ch loF loA nil r r' ∧ mC p' = mC p ∧ mS p' = mS p ∧ mC r' = mC r ∧ ∃ w', w' ≤ w + n ∧ mI p' 1157 25 = nj w'
theorem Askl.no {n : Nat} {x y : Option (Int32 × Mem)} {v : Int32} (h : Bs nc p r) (hL : LC (dat r) none r) (hw : mI p 1157 25 = nj w) (hx : x = some (v, p)) (hy : y = some (v, r)) : Askl nc w n p r x y := ⟨v, p, r, hx, hy, h, hL, Ch.rfl, Ch.rfl, rfl, rfl, rfl, w, by omega, hw⟩
theorem DayJ.ask {X : Dy} {who : Nat} {p' r' : Mem} {x y : Option (Int32 × Mem)} {v : Int32} (h : Bs nc p r) (J : DayJ nc w p r X who p' r') (hx : x = some (v, p')) (hy : y = some (v, r')) : Askl nc w 192 p r x y := by
  obtain ⟨fa, ta, ia, sa, ca, od, w', j1, j2, j3, j4, j5, j6, j7, j8, j9, j10, j11, j12, j13⟩ := J
  obtain ⟨B, e⟩ := Bs_of h j1 j9 j7 j10 j13
  exact ⟨v, p', r', hx, hy, B, by rw [e]; exact Or.inr ⟨X, who, j8⟩, j9, j10, j11, j12, j13, w', j2, j1.2.2.2.1.1⟩
theorem tk_ne {D : Dt} {X : Dy} {g : Nat} (hg : g < 48) (h : isTk (tsH D X g) = true) : tkN D (rwH D X) 48 ≠ 0 := fun z => by
  have := tk_zero 48 z g hg
  unfold tsH at h
  rw [this] at h
  cases h
theorem st_bound (h : Bs nc p r) (hL : LC (dat r) none r) (hw : mI p 1157 25 = nj w) (hw1 : w + 192 < 2147483647) (x1 x2 x3 x4 : Int32) : Askl nc w 192 p r (P_bound x1 x2 x3 x4 p) (R_bound x1 x2 x3 x4 r) := by
  have h24 := h.1.2.2.1.1
  rcases half_e h hL hw hw1 x1 x2 x3 x4 with ⟨a1, a2⟩ | ⟨X, who, g, p', r', rfl, rfl, rfl, rfl, hg, a1, a2, a3, J⟩
  · refine Askl.no (v := -1) h hL hw ?_ ?_
    · unfold P_bound
      rw [a1, bn_s, if_pos rfl]
    · unfold R_bound
      rw [a2, bn_s, if_pos rfl]
  · obtain ⟨fa, ta, ia, sa, ca, od, w', j1, j2, j3, j4, j5, j6, j7, j8, j9, j10, j11, j12, j13⟩ := id J
    obtain ⟨k1, k2, k3, k4, k5, k6, k7, k8, k9, k10, k11, k12, k13, k14⟩ := j8
    have gh : ∀ {β : Type} (c : Option β), gd (inb (nj g) 48) c = c := fun c => by rw [inb_nj (by omega), gd_t (decide_eq_true hg)]
    have ig : ix (nj g) = g := ix_nj (by omega)
    have n1 : ¬ ((1 : Int32) = 0) := by decide
    refine J.ask (v := pbH (dat r) X g) h ?_ ?_
    · unfold P_bound
      rw [a1, bn_s, if_neg n1, gh, ig, (j3 g hg).1.2.2.1]
    · unfold R_bound
      rw [a2, bn_s, if_neg n1, a3, bn_s]
      simp only [gh, ig]
      rw [(k14 g hg).1.2.2.1]
      unfold pbH
      cases c : awH (dat r) X g with
      | none =>
        have hneg : ¬ 0 ≤ boH (dat r) X g := by rcases aw_no c with z | z <;> rw [z] <;> decide
        rw [if_neg hneg]
      | some b =>
        obtain ⟨eb, hb, -⟩ := aw_some c
        rw [eb, if_pos (nj_0le (by omega)), inb_nj (by omega), gd_t (decide_eq_true (by omega)), ix_nj (by omega), dat_t j7.1 (x := 12) (by omega) hb]
theorem st_classed (h : Bs nc p r) (hL : LC (dat r) none r) (hw : mI p 1157 25 = nj w) (hw1 : w + 192 < 2147483647) (x1 x2 x3 x4 : Int32) : Askl nc w 192 p r (P_classed x1 x2 x3 x4 p) (R_classed x1 x2 x3 x4 r) := by
  have W := h.1.2.2.1
  have h24 := W.1
  have hn60 : nc ≤ 60 := h.1.2.2.2.2.2.2.1
  have Wi := h.2.2.2.1
  rcases half_e h hL hw hw1 x1 x2 x3 x4 with ⟨a1, a2⟩ | ⟨X, who, g, p', r', rfl, rfl, rfl, rfl, hg, a1, a2, a3, J⟩
  · refine Askl.no (v := -1) h hL hw ?_ ?_
    · unfold P_classed
      rw [a1, bn_s, if_pos rfl]
    · unfold R_classed
      rw [a2, bn_s, if_pos rfl]
  · obtain ⟨fa, ta, ia, sa, ca, od, w', j1, j2, j3, j4, j5, j6, j7, j8, j9, j10, j11, j12, j13⟩ := id J
    obtain ⟨k1, k2, k3, k4, k5, k6, k7, k8, k9, k10, k11, k12, k13, k14⟩ := j8
    obtain ⟨f1, f2, f3, f4, f5, f6, f7⟩ := (j3 g hg).1
    obtain ⟨g1, g2, g3, g4, g5, g6⟩ := (k14 g hg).1
    have gh : ∀ {β : Type} (c : Option β), gd (inb (nj g) 48) c = c := fun c => by rw [inb_nj (by omega), gd_t (decide_eq_true hg)]
    have ig : ix (nj g) = g := ix_nj (by omega)
    have n1 : ¬ ((1 : Int32) = 0) := by decide
    have hP : P_classed (nj who) (nj (xd X)) (nj g) (nj (xn X)) p = vb (jo (clH (dat r) X none (awH (dat r) X) g)) fun v8 => if (awH (dat r) X g).map ta = none then some (-1, p') else if v8 = -1 then some (-1, p') else gs ((awH (dat r) X g).map ta) fun a11 => gt p' a11 11 <| gs (mR p' 1288 a11) fun a14 => gt p' a14 36 <| gd (inb v8 (mN p' a14)) <| gs (aR p' a14 (ix v8)) fun a18 => gt p' a18 3 <| some (mI p' 258 a18, p') := by
      unfold P_classed
      rw [a1, bn_s, if_neg n1]
      simp only [gh, ig, f4, f5]
    have hR : R_classed (nj who) (nj (xd X)) (nj g) (nj (xn X)) r = if boH (dat r) X g < 0 then some (-1, r') else if jkO (awH (dat r) X g) (clH (dat r) X none (awH (dat r) X) g) = -1 then some (-1, r') else gd (inb (jkO (awH (dat r) X g) (clH (dat r) X none (awH (dat r) X) g)) 1536) <| gd (inb (aI r' 54 (ix (jkO (awH (dat r) X g) (clH (dat r) X none (awH (dat r) X) g)))) 750) <| some (aI r' 16 (ix (aI r' 54 (ix (jkO (awH (dat r) X g) (clH (dat r) X none (awH (dat r) X) g))))), r') := by
      unfold R_classed
      rw [a2, bn_s, if_neg n1, a3, bn_s]
      simp only [gh, ig, g3, g4]
    rw [hP, hR, vb_e]
    cases c : awH (dat r) X g with
    | none =>
      have hneg : boH (dat r) X g < 0 := by rcases aw_no c with z | z <;> rw [z] <;> decide
      exact J.ask (v := -1) h (by rw [if_pos (by rfl)]) (by rw [if_pos hneg])
    | some k =>
      obtain ⟨eb, hk, h8, hi, ht⟩ := aw_some c
      have hneg : ¬ boH (dat r) X g < 0 := by rw [eb, nj_nneg (by omega)]; exact id
      cases cj : clH (dat r) X none (awH (dat r) X) g with
      | none => exact J.ask (v := -1) h (by rw [if_neg (by simp), if_pos (by rfl)]) (by rw [if_neg hneg, if_pos (by rfl)])
      | some j =>
        obtain ⟨P', -, -⟩ := j4 (tk_ne hg ht)
        obtain ⟨z, hz, hz2⟩ := cl_some c cj
        have hwk : isW (dat r) k = true := decide_eq_true (Or.inl h8)
        have hRow := rowQ_W (X := X) W k3 hk
        have hlen := hRow.len Wi hn60
        have hj : j < 60 := by have := get_mem hz; omega
        obtain ⟨zI, -, -⟩ := hRow.1 z (List.mem_of_getElem? hz)
        obtain ⟨y1, y2, y3⟩ := isI_30 W zI
        obtain ⟨k', I⟩ := itemAt_of P'.1 zI
        obtain ⟨-, t2, -, -, -, -, -, -, -, -, -, -, t13, -, -, -, t17, -, -, -, t21⟩ := P'.1.2.1.2.1 k hk
        have hRp := P'.2.2.2.2.1.2.1 k hk hi hwk
        have hRr : RowsR r' k ((bQ (dat r) (xd X) (xf X) (xn X)).1 k) := j6.2.2.2.1.2.1 k hk
        refine J.ask (v := (dat r).1 16 z.1) h ?_ ?_
        · show (if some (ta k) = none then _ else if jo (some j) = -1 then _ else gs (some (ta k)) _) = _
          rw [if_neg (by simp), if_neg (jo_some (by omega)), gs_s, gt_t t2, t13, gs_s, gt_t t17, (t21 (Or.inl h8)).1, show jo (some j) = nj j from rfl, inb_nj (by omega), gd_t (decide_eq_true hj), ix_nj (by omega), (hRp.2.1 j z hz).1, gs_s, gt_t I.2.1, I.2.2.2.2.1]
        · rw [if_neg hneg, show jkO (some k) (some j) = nj (64 * k + j) from rfl, if_neg (by rw [nj_ne_m1 (by omega)]; exact id), inb_nj (by omega), gd_t (decide_eq_true (by omega)), ix_nj (by omega), (hRr.2.1 j z hz).1, inb_nj (by omega), gd_t (decide_eq_true (by omega)), ix_nj (by omega), dat_15 j7.1 (x := 16) (by omega) (by omega)]
theorem pay_eq {a b : Int32} (ha : 0 ≤ a) (hb : 0 ≤ b) : (jmax a b ≤ 0) = (a ≤ 0 ∧ b ≤ 0) := by
  unfold jmax
  grind
theorem wo_nn {D : Dt} {X : Dy} {sup : Sup} {nc : Nat} (W : WText D nc) (Wi : WItems D nc) (hn60 : nc ≤ 60) (hd : xd X < 140) {k j h : Nat} (hk : k < D.2.1) (hr : rtS D X sup k j ≤ 100000) : ∃ v, v ≤ 200000000 ∧ woS D X sup k j h = nj v := by
  have hlen := (rowQ_W (X := X) W hd hk).len Wi hn60
  have hwin := wFd_in (vs := vW D X sup k j h) (tk := xt X) (rowQ D X k) _ wIn_0 (fun z hz => ⟨((rowQ_W (X := X) W hd hk).1 z hz).1, ((rowQ_W (X := X) W hd hk).1 z hz).2.1⟩)
  obtain ⟨ee, he1, he2⟩ := hwin.2
  have hwl := wFd_len (D := D) (vs := vW D X sup k j h) (tk := xt X) (rowQ D X k) (100, 0, [])
  have hle : ee ≤ 60000 := by simp at hwl; omega
  have h0 : 0 ≤ rtS D X sup k j := by unfold rtS jmax; grind
  obtain ⟨a, ha, ea⟩ := nj_in (n := 100000) (by omega) ⟨h0, hr⟩
  have hb : 0 ≤ jmax 0 (jmin 1000 (wgS D X sup k j h).1) ∧ jmax 0 (jmin 1000 (wgS D X sup k j h).1) ≤ 1000 := by unfold jmax jmin; grind
  obtain ⟨b, hb', eb⟩ := nj_in (n := 1000) (by omega) hb
  have hc : 0 ≤ jmin (nj ee) 9999 ∧ jmin (nj ee) 9999 ≤ 9999 := by
    have := nj_0le (k := ee) (by omega)
    unfold jmin
    grind
  obtain ⟨c, hc', ec⟩ := nj_in (n := 9999) (by omega) hc
  have e2 : jmin (wgS D X sup k j h).2.1 9999 = nj c := by
    rw [← ec]
    show jmin ((rowQ D X k).foldl (wSt D (vW D X sup k j h) (xt X)) (100, 0, [])).2.1 9999 = _
    rw [he2]
  refine ⟨a * b + 200 * c, ?_, ?_⟩
  · have : a * b ≤ 100000 * 1000 := Nat.mul_le_mul ha hb'
    omega
  · unfold woS
    rw [ea, eb, e2, nj_mul, show (200 : Int32) = nj 200 from rfl, nj_mul, nj_add]
end Hf
