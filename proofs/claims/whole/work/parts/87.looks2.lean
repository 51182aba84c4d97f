/-! Layer C: the reference looks at a DAY, with what it remembers -/
section Lq
variable {r : Mem} {D : Dt} {nc : Nat} {X : Dy} {sup : Sup} {who : Nat}
theorem RB.Bt_ (h : RB D sup r) (W : WText D nc) (Wf : WFact D nc) (Wi : WItems D nc) (hn60 : nc ≤ 60) {d f n : Nat} (hd : d < 140) (hf : f < 8) (hn : n ≤ D.2.2) : ∃ r', R_builds (nj d) (nj f) (nj n) r = some ((), r') ∧ Bt D d f n r' ∧ mI r' 1612 0 = nj d ∧ mI r' 1613 0 = nj f ∧ mI r' 1614 0 = nj n ∧ RB D sup r' ∧ Ch [1610, 1612, 1613, 1614] [50, 51, 52, 53, 54, 55, 56, 57, 58] nil r r' ∧ mC r' = mC r := by
  obtain ⟨h1, h2, h3, h4, h5⟩ := h
  obtain ⟨r', b1, b2, b3, b4, b5, b6, b7⟩ := R_builds_e h4 h1 h2 h3 W Wf Wi hn60 hd hf hn
  exact ⟨r', b1, b2, b3, b4, b5, ⟨(dat_Ch b6 h2 (by decide) (by decide)).trans h1, by omega, by rw [b6.i (by decide) (by omega)]; exact h3, Or.inr ⟨d, f, n, hd, hf, hn, b3, b4, b5, b2⟩, h5.Ch h2 b6 (by decide)⟩, b6, b7⟩
theorem R_looks_37_e (W : WText D nc) (Wf : WFact D nc) (Wi : WItems D nc) (hn60 : nc ≤ 60) (hd : xd X < 140) (hf8 : xf X < 8) (hn : xn X ≤ D.2.2) (hwho : who < 10) (ea : xa X = nj who) (h : RB D sup r) (hB : Bt D (xd X) (xf X) (xn X) r) (e1 : mI r 1612 0 = nj (xd X)) (e2 : mI r 1613 0 = nj (xf X)) (e3 : mI r 1614 0 = nj (xn X)) (e39 : aI r 39 who = nj (xf X) ∧ nj who < mI r 1595 0) (e40 : aI r 40 who = xt X) (e41 : aI r 41 who = xy X) :
    ∃ r', R_looks_37 (nj who) (nj (xd X)) (nj (xn X)) r = some ((), r') ∧ RX D X who r' ∧ SuR D sup r' ∧ LC1 D X who sup r' ∧ Ch [1610, 1611, 1625, 1627, 1628, 1629, 1638, 1639, 1642, 1643] (50 :: 51 :: 59 :: 68 :: 69 :: 70 :: 71 :: lkA) nil r r' ∧ mC r' = mC r := by
  have h24 := W.1
  have h160 := W.2.1
  obtain ⟨g1, g2, g3, g4, g5⟩ := h
  have d7 : nj (xd X) / 7 = nj (xd X / 7) := nj_div (b := 7) (by omega) (by omega)
  have m7 : nj (xd X) - (nj (xd X) - nj (xd X / 7) * 7) = nj (7 * (xd X / 7) + 0) := by
    rw [show (7 : Int32) = nj 7 from rfl, nj_mul, nj_sub (by omega), nj_sub (by omega)]
    congr 1
    omega
  have c3 : Ch [1627, 1628, 1629, 1638, 1639] [] nil r (sI (sI (sI (sI (sI r 1627 0 (nj (xd X))) 1628 0 (nj who)) 1629 0 (nj (xn X))) 1639 0 (weH D X)) 1638 0 0) := ((((Ch.rfl.sI (by decide)).sI (by decide)).sI (by decide)).sI (by decide)).sI (by decide)
  have c30 : Ch [1627, 1628, 1629, 1638, 1639] [] nil r (sI (sI (sI r 1627 0 (nj (xd X))) 1628 0 (nj who)) 1629 0 (nj (xn X))) := ((Ch.rfl.sI (by decide)).sI (by decide)).sI (by decide)
  have D30 : dat (sI (sI (sI r 1627 0 (nj (xd X))) 1628 0 (nj who)) 1629 0 (nj (xn X))) = D := (dat_Ch c30 g2 (by decide) (by decide)).trans g1
  generalize hm : sI (sI (sI (sI (sI r 1627 0 (nj (xd X))) 1628 0 (nj who)) 1629 0 (nj (xn X))) 1639 0 (weH D X)) 1638 0 0 = m at c3
  have hCm : mC m = mC r := by rw [← hm]; simp only [k_aI_wI_e, k_aI_wI, k_aI_wL, k_aI_wR, k_aI_sI, k_aI_sL, k_aI_sR, k_aI_nw, k_aL_wL_e, k_aL_wL, k_aL_wI, k_aL_wR, k_aL_sI, k_aL_sL, k_aL_sR, k_aL_nw, k_aR_wR_e, k_aR_wR, k_aR_wI, k_aR_wL, k_aR_sI, k_aR_sL, k_aR_sR, k_aR_nw, k_mI_sI_e, k_mI_sI, k_mI_wI, k_mI_wL, k_mI_wR, k_mI_sL, k_mI_sR, k_mI_nw, k_mL_sL_e, k_mL_sL, k_mL_wI, k_mL_wL, k_mL_wR, k_mL_sI, k_mL_sR, k_mL_nw, k_mR_sR_e, k_mR_sR, k_mR_wI, k_mR_wL, k_mR_wR, k_mR_sI, k_mR_sL, k_mR_nw, k_mT_wI, k_mT_wL, k_mT_wR, k_mT_sI, k_mT_sL, k_mT_sR, k_mT_nw, k_mN_wI, k_mN_wL, k_mN_wR, k_mN_sI, k_mN_sL, k_mN_sR, k_mN_nw, k_mC_wI, k_mC_wL, k_mC_wR, k_mC_sI, k_mC_sL, k_mC_sR, k_mC_nw, k_mS_wI, k_mS_wL, k_mS_wR, k_mS_sI, k_mS_sL, k_mS_sR, k_mS_nw, k_zF_1, k_zF_3, k_zF_11, k_zF_32, k_zF_36, k_zA_1, k_zA_3, k_zA_11, k_zA_32, k_zA_36, k_mT_fil, k_mN_fil, k_mI_fil, k_mL_fil, k_mR_fil, k_aL_fil, k_aR_fil, k_mC_fil, k_mS_fil, k_aI_fil_e, k_aI_fil]
  have Dm : dat m = D := (dat_Ch c3 g2 (by decide) (by decide)).trans g1
  have e38 : mI m 1638 0 = nj (whN D (xa X) (xd X / 7) (xn X) 0) := by rw [← hm, k_mI_sI_e, up1_eq]; rfl
  obtain ⟨r1, a1, a2, a3, a4⟩ := R_looks_90_e (a := xa X) (x4 := jo (rwH D X)) (wk := xd X / 7) (d := xd X % 7) hn h160 (by omega) (by omega) (xd X % 7) 0 FU m (by omega) (by unfold FU; omega) Dm (by omega) e38
  rw [show 7 * (xd X / 7) + xd X % 7 = xd X by omega, ea] at a1
  have cr1 : Ch [1627, 1628, 1629, 1638, 1639] [] nil r r1 := c3.trans (a3.mono (by decide) (fun _ h => h) (fun _ h => h))
  have hC1 : mC r1 = mC r := by omega
  have e39m : mI m 1639 0 = weH D X := by rw [← hm, k_mI_sI (by omega), k_mI_sI_e, up1_eq]
  have X1 : RX D X who r1 := by
    refine ⟨(dat_Ch cr1 g2 (by decide) (by decide)).trans g1, by omega, ?_, hB.Ch cr1 g2 (by decide), ?_, ?_, ?_, ?_, ?_, a2, ?_⟩
    · rw [cr1.i (by decide) (by omega)]; exact g3
    · rw [cr1.i (by decide) (by omega)]; exact e1
    · rw [cr1.i (by decide) (by omega)]; exact e2
    · rw [cr1.i (by decide) (by omega)]; exact e3
    · rw [cr1.ai (by decide) nil_no (by omega)]; exact e41
    · rw [cr1.ai (by decide) nil_no (by omega)]; exact e40
    · rw [a3.i (by decide) (by omega)]; exact e39m
  obtain ⟨r2, b1, b2, b3, b4, b5⟩ := R_looks_125_e W Wi hd hf8 hn hwho 48 0 FU r1 (by omega) (by unfold FU; omega) X1 (fun _ h => absurd h (by omega))
  have S2 : SuR D sup r2 := (g5.Ch g2 cr1 (by decide)).Ch (by omega) b4 (by decide)
  have nl : ∀ (g : Nat → Option Nat) h, jkL D X sup g 0 h = -1 := fun g h => by
    unfold jkL
    cases g h with
    | none => rfl
    | some k => show (if k < 0 then _ else _) = _; rw [if_neg (by omega)]
  obtain ⟨r3, d1, d2, d3, d4, d5, d6⟩ := R_looks_278_e (sup := sup) W Wi hn60 hd hf8 hn hwho D.2.1 0 FU r2 (by omega) (by unfold FU; omega) b3 S2 (fun h hh => by
    obtain ⟨f1, f2, f3, f4, f5, f6, f7, f8⟩ := b2 h hh
    exact ⟨f1, f3, f5⟩) (fun h hh => by
    obtain ⟨f1, f2, f3, f4, f5, f6, f7, f8⟩ := b2 h hh
    rw [nl, nl]
    exact ⟨f4, f6⟩)
  have r3x : ∀ x, 60 ≤ x → x ≤ 67 → x ≠ 63 → x ≠ 65 → aI r3 x = aI r2 x := fun x q1 q2 q3 q4 => d5.ai (by simp; omega) nil_no (by omega)
  obtain ⟨r4, k1, k2, k3, k4, k5, k6⟩ := R_looks_355_e (sup := sup) W Wi hn60 hd hf8 hn hwho 48 0 FU r3 (by omega) (by unfold FU; omega) d2 d3 (fun h hh => by
    obtain ⟨f1, f2, f3, f4, f5, f6, f7, f8⟩ := b2 h hh
    unfold RfH
    rw [r3x 60 (by omega) (by omega) (by omega) (by omega), r3x 61 (by omega) (by omega) (by omega) (by omega), r3x 62 (by omega) (by omega) (by omega) (by omega), r3x 64 (by omega) (by omega) (by omega) (by omega)]
    exact ⟨f1, f2, f3, (d4 h hh).1, f5, (d4 h hh).2⟩) (fun _ h => absurd h (by omega)) (fun h _ hh => by
    obtain ⟨f1, f2, f3, f4, f5, f6, f7, f8⟩ := b2 h hh
    rw [r3x 66 (by omega) (by omega) (by omega) (by omega), r3x 67 (by omega) (by omega) (by omega) (by omega)]
    exact ⟨f7, f8⟩)
  have cA : Ch [1610, 1611, 1625, 1627, 1628, 1629, 1638, 1639, 1642, 1643] (50 :: 51 :: 59 :: 68 :: 69 :: 70 :: 71 :: lkA) nil r r4 := (((cr1.mono (by decide) (by decide) (fun _ h => h)).trans (b4.mono (by decide) (by decide) (fun _ h => h))).trans (d5.mono (by decide) (by decide) (fun _ h => h))).trans (k5.mono (by decide) (by decide) (fun _ h => h))
  have fm : ∀ f, f = 1627 ∨ f = 1628 ∨ f = 1629 → mI r4 f 0 = mI m f 0 := fun f hf => by
    rw [k5.i (by simp; omega) (by omega), d5.i (by unfold wkF; simp; omega) (by omega), b4.i (by simp; omega) (by omega), a3.i (by simp; omega) (by omega)]
  refine ⟨r4, ?_, k2, k3, ⟨hwho, ea, hd, hf8, hn, ?_, ?_, ?_, ?_, k2.2.2.2.2.2.2.2.2.1, k2.2.2.2.2.2.2.2.1, k2.2.2.2.2.2.2.2.2.2.1, k2.2.2.2.2.2.2.2.2.2.2, k4⟩, cA, by omega⟩
  · unfold R_looks_37
    have hw : R_wetOf (nj (xf X)) (nj (xd X)) (nj (xn X)) (sI (sI (sI r 1627 0 (nj (xd X))) 1628 0 (nj who)) 1629 0 (nj (xn X))) = some (weH D X, sI (sI (sI r 1627 0 (nj (xd X))) 1628 0 (nj who)) 1629 0 (nj (xn X))) := R_wetOf_e D30 (by omega)
    have hr : R_rowFact (nj who) (nj (xd X)) (nj (xn X)) (sI (sI (sI r 1627 0 (nj (xd X))) 1628 0 (nj who)) 1629 0 (nj (xn X))) = some (jo (rwH D X), sI (sI (sI r 1627 0 (nj (xd X))) 1628 0 (nj who)) 1629 0 (nj (xn X))) := by
      have := R_rowFact_e (x1 := nj who) (x2 := nj (xd X)) D30 (n := xn X) (by omega)
      rw [← ea] at this
      rw [← ea]
      exact this
    rw [vb_e, vb_e, vb_e, hr, bn_s, inb_nj (by omega), gd_t (decide_eq_true hwho), ix_nj (by omega), k_aI_sI, k_aI_sI, k_aI_sI, e39.1, hw, bn_s, vb_e, vb_e, hm, vb_e, d7, m7]
    refine Eq.trans a1 ?_
    unfold R_looks_119
    refine Eq.trans b1 ?_
    unfold R_looks_275
    refine Eq.trans d1 ?_
    unfold R_looks_352
    exact k1
  · rw [fm 1627 (by omega), ← hm, k_mI_sI (by omega), k_mI_sI (by omega), k_mI_sI (by omega), k_mI_sI (by omega), k_mI_sI_e, up1_eq]
  · rw [fm 1628 (by omega), ← hm, k_mI_sI (by omega), k_mI_sI (by omega), k_mI_sI (by omega), k_mI_sI_e, up1_eq]
  · rw [fm 1629 (by omega), ← hm, k_mI_sI (by omega), k_mI_sI (by omega), k_mI_sI_e, up1_eq]
  · exact ⟨by rw [cA.ai (by decide) nil_no (by omega)]; exact e39.1, by rw [cA.i (by decide) (by omega)]; exact e39.2⟩
theorem LC1.Ch {F A : List Nat} {r' : Mem} (h : LC1 D X who sup r) (hC : 82 ≤ mC r) (c : Ch F A nil r r') (hF : (F.all fun f => f != 1595 && f != 1627 && f != 1628 && f != 1629 && f != 1638 && f != 1639) = true) (hA : (A.all fun a => (a < 39 || 41 < a) && (a < 60 || 67 < a)) = true) : LC1 D X who sup r' := by
  obtain ⟨h1, h2, h3, h4, h5, h6, h7, h8, h9, h10, h11, h12, h13, h14⟩ := h
  have f : ∀ f, (f = 1595 ∨ f = 1627 ∨ f = 1628 ∨ f = 1629 ∨ f = 1638 ∨ f = 1639) → mI r' f 0 = mI r f 0 := fun f hf => c.i (fun q => by
    have := List.all_eq_true.mp hF f q
    simp at this
    omega) (by omega)
  have a : ∀ a, (39 ≤ a ∧ a ≤ 41 ∨ 60 ≤ a ∧ a ≤ 67) → aI r' a = aI r a := fun a ha => c.ai (fun q => by
    have := List.all_eq_true.mp hA a q
    simp at this
    omega) nil_no (by omega)
  refine ⟨h1, h2, h3, h4, h5, ?_, ?_, ?_, ?_, ?_, ?_, ?_, ?_, fun g hg => ?_⟩
  · rw [f 1627 (by omega)]; exact h6
  · rw [f 1628 (by omega)]; exact h7
  · rw [f 1629 (by omega)]; exact h8
  · rw [a 39 (by omega), f 1595 (by omega)]; exact h9
  · rw [a 40 (by omega)]; exact h10
  · rw [a 41 (by omega)]; exact h11
  · rw [f 1638 (by omega)]; exact h12
  · rw [f 1639 (by omega)]; exact h13
  · unfold RkH RfH
    rw [a 60 (by omega), a 61 (by omega), a 62 (by omega), a 63 (by omega), a 64 (by omega), a 65 (by omega), a 66 (by omega), a 67 (by omega)]
    exact h14 g hg
theorem RB.Ch_ {F A : List Nat} {r' : Mem} (h : RB D sup r) (c : Ch F A nil r r') (hC : mC r' = mC r) (hF : (F.all fun f => f != 1554 && f != 1601 && f != 1612 && f != 1613 && f != 1614 && f != 1622 && f != 1623 && f != 1624) = true) (hA : (A.all fun a => a == 50 || a == 51 || 58 < a) = true) : RB D sup r' := by
  obtain ⟨h1, h2, h3, h4, h5⟩ := h
  have hF1 : (F.all fun f => f != 1554 && f != 1601) = true := by
    rw [List.all_eq_true]
    intro f q
    have := List.all_eq_true.mp hF f q
    simp at this ⊢
    omega
  have hF2 : (F.all fun f => f < 1612 || 1614 < f) = true := by
    rw [List.all_eq_true]
    intro f q
    have := List.all_eq_true.mp hF f q
    simp at this ⊢
    omega
  have hF3 : (F.all fun f => f != 1622 && f != 1623 && f != 1624) = true := by
    rw [List.all_eq_true]
    intro f q
    have := List.all_eq_true.mp hF f q
    simp at this ⊢
    omega
  have hA1 : (A.all fun a => a < 8 || a == 35 || a == 36 || (38 < a && a < 43) || 49 < a) = true := by
    rw [List.all_eq_true]
    intro f q
    have := List.all_eq_true.mp hA f q
    simp at this ⊢
    omega
  have hA2 : (A.all fun a => a < 52 || 58 < a) = true := by
    rw [List.all_eq_true]
    intro f q
    have := List.all_eq_true.mp hA f q
    simp at this ⊢
    omega
  refine ⟨(dat_Ch c h2 hF1 hA1).trans h1, by omega, ?_, h4.Ch c h2 hF2 hA2, h5.Ch h2 c hF3⟩
  rw [c.i (fun q => by
    have := List.all_eq_true.mp hF 1554 q
    simp at this) (by omega)]
  exact h3
/-- X is asked of who -/
def AskX (D : Dt) (X : Dy) (who : Nat) (r : Mem) : Prop := who < 10 ∧ xa X = nj who ∧ xd X < 140 ∧ xf X < 8 ∧ xn X ≤ D.2.2 ∧ (aI r 39 who = nj (xf X) ∧ nj who < mI r 1595 0) ∧ aI r 40 who = xt X ∧ aI r 41 who = xy X
theorem R_looks_e (W : WText D nc) (Wf : WFact D nc) (Wi : WItems D nc) (hn60 : nc ≤ 60) (hX : AskX D X who r) (h : RB D sup r) (hL : LC D sup r) :
    ∃ r', R_looks (nj who) (nj (xd X)) (nj (xn X)) r = some ((), r') ∧ RX D X who r' ∧ RB D sup r' ∧ LC1 D X who sup r' ∧ Ch loF loA nil r r' ∧ mC r' = mC r := by
  obtain ⟨hwho, ea, hd, hf8, hn, e39, e40, e41⟩ := hX
  have C2 := h.2.1
  have h160 := W.2.1
  obtain ⟨r1, b1, b2, b3, b4, b5, b6, b7, b8⟩ := h.Bt_ W Wf Wi hn60 hd hf8 hn
  have C1 : 82 ≤ mC r1 := by omega
  have a1 : ∀ a, a = 39 ∨ a = 40 ∨ a = 41 → aI r1 a = aI r a := fun a ha => b7.ai (by simp; omega) nil_no (by omega)
  have f1 : ∀ f, 1627 ≤ f → mI r1 f 0 = mI r f 0 := fun f hf => b7.i (by simp; omega) (by omega)
  have new : ∃ r', R_looks_37 (nj who) (nj (xd X)) (nj (xn X)) r1 = some ((), r') ∧ RX D X who r' ∧ RB D sup r' ∧ LC1 D X who sup r' ∧ Ch loF loA nil r r' ∧ mC r' = mC r := by
    obtain ⟨r', d1, d2, d3, d4, d5, d6⟩ := R_looks_37_e W Wf Wi hn60 hd hf8 hn hwho ea b6 b2 b3 b4 b5 ⟨by rw [a1 39 (by omega)]; exact e39.1, by rw [b7.i (by decide) (by omega)]; exact e39.2⟩ (by rw [a1 40 (by omega)]; exact e40) (by rw [a1 41 (by omega)]; exact e41)
    exact ⟨r', d1, d2, b6.Ch_ d5 d6 (by decide) (by decide), d4, (b7.mono (by decide) (by decide) (fun _ h => h)).trans (d5.mono (by decide) (by decide) (fun _ h => h)), by omega⟩
  have hst : R_looks (nj who) (nj (xd X)) (nj (xn X)) r = if mI r 1627 0 = nj (xd X) then (if mI r 1628 0 = nj who then (if mI r 1629 0 = nj (xn X) then some ((), r1) else R_looks_37 (nj who) (nj (xd X)) (nj (xn X)) r1) else R_looks_37 (nj who) (nj (xd X)) (nj (xn X)) r1) else R_looks_37 (nj who) (nj (xd X)) (nj (xn X)) r1 := by
    unfold R_looks
    rw [inb_nj (by omega), gd_t (decide_eq_true hwho), ix_nj (by omega), e39.1, b1, bn_s, f1 1627 (by omega), f1 1628 (by omega), f1 1629 (by omega)]
  rw [hst]
  by_cases q1 : mI r 1627 0 = nj (xd X)
  · rw [if_pos q1]
    by_cases q2 : mI r 1628 0 = nj who
    · rw [if_pos q2]
      by_cases q3 : mI r 1629 0 = nj (xn X)
      · rw [if_pos q3]
        rcases hL with hL | ⟨Y, wy, hL⟩
        · rw [hL] at q1
          exact absurd q1.symm (by rw [nj_ne_m1 (by omega)]; exact id)
        · obtain ⟨g1, g2, g3, g4, g5, g6, g7, g8, g9, g10, g11, g12, g13, g14⟩ := id hL
          have ew : wy = who := (nj_inj (by omega) (by omega)).mp (g7.symm.trans q2)
          subst ew
          have hXY : Y = X := by
            have y1 : xf Y = xf X := (nj_inj (by omega) (by omega)).mp (g9.1.symm.trans e39.1)
            have y2 : xd Y = xd X := (nj_inj (by omega) (by omega)).mp (g6.symm.trans q1)
            have y3 : xn Y = xn X := (nj_inj (by omega) (by omega)).mp (g8.symm.trans q3)
            have y4 : xa Y = xa X := g2.trans ea.symm
            have y5 : xy Y = xy X := g11.symm.trans e41
            have y6 : xt Y = xt X := g10.symm.trans e40
            obtain ⟨m1, m2, m3, m4, m5, m6⟩ := Y
            obtain ⟨n1, n2, n3, n4, n5, n6⟩ := X
            change m1 = n1 at y1
            change m2 = n2 at y2
            change m3 = n3 at y3
            change m4 = n4 at y4
            change m5 = n5 at y5
            change m6 = n6 at y6
            rw [y1, y2, y3, y4, y5, y6]
          subst hXY
          refine ⟨r1, rfl, ⟨b6.1, by omega, b6.2.2.1, b2, b3, b4, b5, ?_, ?_, ?_, ?_⟩, b6, hL.Ch C2 b7 (by decide) (by decide), b7.mono (by decide) (by decide) (fun _ h => h), b8⟩
          · rw [a1 41 (by omega)]; exact e41
          · rw [a1 40 (by omega)]; exact e40
          · rw [f1 1638 (by omega)]; exact g12
          · rw [f1 1639 (by omega)]; exact g13
      · rw [if_neg q3]; exact new
    · rw [if_neg q2]; exact new
  · rw [if_neg q1]; exact new
end Lq
