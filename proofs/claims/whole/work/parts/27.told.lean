/-! Layer C: the links when a FACT is added -/
section Nn
variable {F A : List Nat} {dy : Nat → Prop} {m m1 : Mem} {f a j n : Nat}
theorem ch_sIn {x : Int32} (h : Ch F A dy m m1) (ha : mC m ≤ a) : Ch F A dy m (sI m1 f a x) := by
  obtain ⟨a1, b1, c1, d1⟩ := h
  refine ⟨a1, b1, fun g hg b hb => ?_, d1⟩
  have : mI (sI m1 f a x) g b = mI m1 g b := up2_ne (by omega)
  rw [this]
  exact c1 g hg b hb
theorem ch_sLn {x : Int64} (h : Ch F A dy m m1) (ha : mC m ≤ a) : Ch F A dy m (sL m1 f a x) := by
  obtain ⟨a1, b1, c1, d1⟩ := h
  refine ⟨a1, b1, fun g hg b hb => ?_, d1⟩
  have : mL (sL m1 f a x) g b = mL m1 g b := up2_ne (by omega)
  rw [this]
  exact c1 g hg b hb
theorem ch_sRn {x : Option Nat} (h : Ch F A dy m m1) (ha : mC m ≤ a) : Ch F A dy m (sR m1 f a x) := by
  obtain ⟨a1, b1, c1, d1⟩ := h
  refine ⟨a1, b1, fun g hg b hb => ?_, d1⟩
  have : mR (sR m1 f a x) g b = mR m1 g b := up2_ne (by omega)
  rw [this]
  exact c1 g hg b hb
theorem ch_wIn {x : Int32} (h : Ch F A dy m m1) (ha : mC m ≤ a) : Ch F A dy m (wI m1 a j x) := by
  obtain ⟨a1, b1, c1, d1⟩ := h
  refine ⟨a1, b1, c1, fun b hb hd hm => ?_⟩
  rw [k_aI_wI (by omega)]
  exact d1 b hb hd hm
theorem ch_wRn {x : Option Nat} (h : Ch F A dy m m1) (ha : mC m ≤ a) : Ch F A dy m (wR m1 a j x) := by
  obtain ⟨a1, b1, c1, d1⟩ := h
  refine ⟨a1, b1, c1, fun b hb hd hm => ?_⟩
  rw [k_aR_wR (by omega)]
  exact d1 b hb hd hm
theorem ch_filn {k : Nat} {x : Int32} (h : Ch F A dy m m1) (ha : mC m ≤ a) : Ch F A dy m (fil m1 a k n x) := by
  obtain ⟨a1, b1, c1, d1⟩ := h
  refine ⟨a1, b1, c1, fun b hb hd hm => ?_⟩
  rw [k_aI_fil (by omega)]
  exact d1 b hb hd hm
theorem ch_fil {k : Nat} {x : Int32} (h : Ch F A dy m m1) (ha : a ∈ A ∨ dy a) : Ch F A dy m (fil m1 a k n x) := by
  obtain ⟨a1, b1, c1, d1⟩ := h
  refine ⟨a1, b1, c1, fun b hb hd hm => ?_⟩
  rw [k_aI_fil (by rintro rfl; exact ha.elim hb hd)]
  exact d1 b hb hd hm
end Nn
section Tl
variable {p : Mem} {fc n : Nat} {s a b c v : Int32} {x : Option Nat}
theorem iniF_Ch : Ch [] [] nil p (iniF (nw p 1 0 7) (mC p) s a b c v n x) := by
  unfold iniF
  have h1 : mC p ≤ mC p := Nat.le_refl _
  have h2 : mC p ≤ mC (nw p 1 0 7) := by rw [k_mC_nw]; omega
  exact ch_filn (ch_sRn (ch_sRn (ch_sIn (ch_sIn (ch_sIn (ch_sIn (ch_sIn Ch.rfl.nw h1) h1) h1) h1) h1) h1).nw h1) h2
theorem iniF_C : mC (iniF (nw p 1 0 7) (mC p) s a b c v n x) = mC p + 2 ∧ mS (iniF (nw p 1 0 7) (mC p) s a b c v n x) = mS p + 7 + n := by
  unfold iniF
  simp only [k_mC_fil, k_mS_fil, k_aI_wI_e, k_aI_wI, k_aI_wL, k_aI_wR, k_aI_sI, k_aI_sL, k_aI_sR, k_aI_nw, k_aL_wL_e, k_aL_wL, k_aL_wI, k_aL_wR, k_aL_sI, k_aL_sL, k_aL_sR, k_aL_nw, k_aR_wR_e, k_aR_wR, k_aR_wI, k_aR_wL, k_aR_sI, k_aR_sL, k_aR_sR, k_aR_nw, k_mI_sI_e, k_mI_sI, k_mI_wI, k_mI_wL, k_mI_wR, k_mI_sL, k_mI_sR, k_mI_nw, k_mL_sL_e, k_mL_sL, k_mL_wI, k_mL_wL, k_mL_wR, k_mL_sI, k_mL_sR, k_mL_nw, k_mR_sR_e, k_mR_sR, k_mR_wI, k_mR_wL, k_mR_wR, k_mR_sI, k_mR_sL, k_mR_nw, k_mT_wI, k_mT_wL, k_mT_wR, k_mT_sI, k_mT_sL, k_mT_sR, k_mT_nw, k_mN_wI, k_mN_wL, k_mN_wR, k_mN_sI, k_mN_sL, k_mN_sR, k_mN_nw, k_mC_wI, k_mC_wL, k_mC_wR, k_mC_sI, k_mC_sL, k_mC_sR, k_mC_nw, k_mS_wI, k_mS_wL, k_mS_wR, k_mS_sI, k_mS_sL, k_mS_sR, k_mS_nw, k_zF_1, k_zF_3, k_zF_11, k_zF_32, k_zF_36, k_zA_1, k_zA_3, k_zA_11, k_zA_32, k_zA_36, k_mT_fil, k_mN_fil, k_mI_fil, k_mL_fil, k_mR_fil, k_aL_fil, k_aR_fil, k_mC_fil, k_mS_fil, k_aI_fil_e, k_aI_fil]
  exact ⟨trivial, trivial⟩
theorem iniF_Top (T : Top p) : Top (iniF (nw p 1 0 7) (mC p) s a b c v n x) := by
  have : Top (nw (nw p 1 0 7) 32 n n) := T.nw.nw
  refine this.same ?_ ?_
  · rw [iniF_T, ← k_mT_nw]
  · rw [iniF_C.1, k_mC_nw, k_mC_nw]
theorem tldP_Ch : Ch [514] [14] nil p (tldP p fc s a b c v n x) :=
  ((iniF_Ch.mono (fun _ h => absurd h List.not_mem_nil) (fun _ h => absurd h List.not_mem_nil) (fun _ h => h)).wR (Or.inl (by decide))).sI (by decide)
theorem tldP_C : mC (tldP p fc s a b c v n x) = mC p + 2 ∧ mS (tldP p fc s a b c v n x) = mS p + 7 + n := by
  unfold tldP
  simp only [k_aI_wI_e, k_aI_wI, k_aI_wL, k_aI_wR, k_aI_sI, k_aI_sL, k_aI_sR, k_aI_nw, k_aL_wL_e, k_aL_wL, k_aL_wI, k_aL_wR, k_aL_sI, k_aL_sL, k_aL_sR, k_aL_nw, k_aR_wR_e, k_aR_wR, k_aR_wI, k_aR_wL, k_aR_sI, k_aR_sL, k_aR_sR, k_aR_nw, k_mI_sI_e, k_mI_sI, k_mI_wI, k_mI_wL, k_mI_wR, k_mI_sL, k_mI_sR, k_mI_nw, k_mL_sL_e, k_mL_sL, k_mL_wI, k_mL_wL, k_mL_wR, k_mL_sI, k_mL_sR, k_mL_nw, k_mR_sR_e, k_mR_sR, k_mR_wI, k_mR_wL, k_mR_wR, k_mR_sI, k_mR_sL, k_mR_nw, k_mT_wI, k_mT_wL, k_mT_wR, k_mT_sI, k_mT_sL, k_mT_sR, k_mT_nw, k_mN_wI, k_mN_wL, k_mN_wR, k_mN_sI, k_mN_sL, k_mN_sR, k_mN_nw, k_mC_wI, k_mC_wL, k_mC_wR, k_mC_sI, k_mC_sL, k_mC_sR, k_mC_nw, k_mS_wI, k_mS_wL, k_mS_wR, k_mS_sI, k_mS_sL, k_mS_sR, k_mS_nw, k_zF_1, k_zF_3, k_zF_11, k_zF_32, k_zF_36, k_zA_1, k_zA_3, k_zA_11, k_zA_32, k_zA_36, k_mT_fil, k_mN_fil, k_mI_fil, k_mL_fil, k_mR_fil, k_aL_fil, k_aR_fil, k_mC_fil, k_mS_fil, k_aI_fil_e, k_aI_fil]
  exact iniF_C
theorem tldP_Top (T : Top p) : Top (tldP p fc s a b c v n x) := by
  refine (iniF_Top (s := s) (a := a) (b := b) (c := c) (v := v) (n := n) (x := x) T).same ?_ ?_
  · unfold tldP; rw [k_mT_sI, k_mT_wR]
  · unfold tldP; rw [k_mC_sI, k_mC_wR]
/-- how the new object reads -/
theorem tldP_at (T : Top p) : mT (tldP p fc s a b c v n x) (mC p) = 1 ∧ mR (tldP p fc s a b c v n x) 5 (mC p) = some (mC p + 1) ∧ mT (tldP p fc s a b c v n x) (mC p + 1) = 32 ∧ mN (tldP p fc s a b c v n x) (mC p + 1) = n ∧
    mI (tldP p fc s a b c v n x) 0 (mC p) = s ∧ mI (tldP p fc s a b c v n x) 1 (mC p) = a ∧ mI (tldP p fc s a b c v n x) 2 (mC p) = b ∧ mI (tldP p fc s a b c v n x) 3 (mC p) = c ∧ mI (tldP p fc s a b c v n x) 4 (mC p) = v ∧ mR (tldP p fc s a b c v n x) 6 (mC p) = x ∧
    (∀ h, h < n → aI (tldP p fc s a b c v n x) (mC p + 1) h = -1) ∧ aR (tldP p fc s a b c v n x) 14 = up1 (aR p 14) fc (some (mC p)) ∧ mI (tldP p fc s a b c v n x) 514 13 = nj (fc + 1) := by
  have T1 := T.1
  unfold tldP iniF
  refine ⟨?_, ?_, ?_, ?_, ?_, ?_, ?_, ?_, ?_, ?_, fun h hh => ?_, ?_, ?_⟩ <;> simp [k_aI_wI_e, k_aI_wI, k_aI_wL, k_aI_wR, k_aI_sI, k_aI_sL, k_aI_sR, k_aI_nw, k_aL_wL_e, k_aL_wL, k_aL_wI, k_aL_wR, k_aL_sI, k_aL_sL, k_aL_sR, k_aL_nw, k_aR_wR_e, k_aR_wR, k_aR_wI, k_aR_wL, k_aR_sI, k_aR_sL, k_aR_sR, k_aR_nw, k_mI_sI_e, k_mI_sI, k_mI_wI, k_mI_wL, k_mI_wR, k_mI_sL, k_mI_sR, k_mI_nw, k_mL_sL_e, k_mL_sL, k_mL_wI, k_mL_wL, k_mL_wR, k_mL_sI, k_mL_sR, k_mL_nw, k_mR_sR_e, k_mR_sR, k_mR_wI, k_mR_wL, k_mR_wR, k_mR_sI, k_mR_sL, k_mR_nw, k_mT_wI, k_mT_wL, k_mT_wR, k_mT_sI, k_mT_sL, k_mT_sR, k_mT_nw, k_mN_wI, k_mN_wL, k_mN_wR, k_mN_sI, k_mN_sL, k_mN_sR, k_mN_nw, k_mC_wI, k_mC_wL, k_mC_wR, k_mC_sI, k_mC_sL, k_mC_sR, k_mC_nw, k_mS_wI, k_mS_wL, k_mS_wR, k_mS_sI, k_mS_sL, k_mS_sR, k_mS_nw, k_zF_1, k_zF_3, k_zF_11, k_zF_32, k_zF_36, k_zA_1, k_zA_3, k_zA_11, k_zA_32, k_zA_36, k_mT_fil, k_mN_fil, k_mI_fil, k_mL_fil, k_mR_fil, k_aL_fil, k_aR_fil, k_mC_fil, k_mS_fil, k_aI_fil_e, k_aI_fil, up1_ap]
  · exact hh
  · rw [if_neg (by omega)]
end Tl
/-- all links -/
def Lk (fa ta ia sa ca : Nat → Nat) (od : List Nat) (p : Mem) (D : Dt) : Prop := LFact fa ta p D ∧ LText ta ia p D ∧ LOrd ta od p D ∧ LItem ia sa ca p D ∧ LSep fa ta ia sa ca D
section Lk
variable {fa ta ia sa ca : Nat → Nat} {od : List Nat} {p p' : Mem} {D : Dt} {nc : Nat} {s a b c v : Int32} {g : Nat → Int32}
theorem nil_no {a : Nat} : ¬ nil a := fun h => h
theorem FactAt.ap {i x : Nat} (h : FactAt p D i x) (hi : i < D.2.2) (hg : ∀ h, h < 48 → g (48 * i + h) = D.1 49 (48 * i + h)) : FactAt p (apF D s a b c v g) i x := by
  obtain ⟨g1, g2, g3, g4, g5, g6, g7, g8, g9, g10, g11⟩ := h
  unfold FactAt
  rw [apF_old hi (by decide), apF_old hi (by decide), apF_old hi (by decide), apF_old hi (by decide), apF_old hi (by decide), apF_49]
  refine ⟨g1, g2, g3, g4, g5, g6, g7, g8, fun q => ?_, g10, g11⟩
  obtain ⟨z1, n, z2, z3, z4, z5⟩ := g9 q
  exact ⟨z1, n, z2, z3, z4, fun h hh => by rw [hg h (by omega)]; exact z5 h hh⟩
theorem TextAt.ap {k t : Nat} (h : TextAt ta ia p D k t) : TextAt ta ia p (apF D s a b c v g) k t := by
  unfold TextAt
  rw [apF_lo (by omega), apF_lo (by omega), apF_lo (by omega), apF_lo (by omega), apF_lo (by omega), apF_lo (by omega), apF_lo (by omega)]
  exact h
/-- a FACT that is no TEXT is added -/
theorem Lk.tell {n : Nat} {s' a' b' c' v' : Int32} (h : Lk fa ta ia sa ca od p D) (T : Top p) (W : WText D nc) (hf : D.2.2 < 160) (hg : ∀ i h, i < D.2.2 → h < 48 → g (48 * i + h) = D.1 49 (48 * i + h)) (h4 : 4 ≤ s)
    (hn : FactAt (tldP p D.2.2 s' a' b' c' v' n none) (apF D s a b c v g) D.2.2 (mC p)) : Lk (up1 fa D.2.2 (mC p)) ta ia sa ca od (tldP p D.2.2 s' a' b' c' v' n none) (apF D s a b c v g) := by
  obtain ⟨H1, H2, H3, H4, H5⟩ := h
  have C := tldP_Ch (p := p) (fc := D.2.2) (s := s') (a := a') (b := b') (c := c') (v := v') (n := n) (x := none)
  have A := tldP_at (fc := D.2.2) (s := s') (a := a') (b := b') (c := c') (v := v') (n := n) (x := none) T
  refine ⟨⟨A.2.2.2.2.2.2.2.2.2.2.2.2, fun i hi => ?_⟩, ⟨?_, fun k hk => ?_, H2.2.2.1, fun k hk => ?_⟩, ?_, fun k j hk hj => ?_, fun k j hk hj => ?_, fun k j k' j' h1 h2 h3 h4 => ?_⟩
  · rw [A.2.2.2.2.2.2.2.2.2.2.2.1]
    by_cases q : i = D.2.2
    · subst q
      rw [up1_eq, up1_eq]
      refine ⟨rfl, hn, fun z => ?_, fun j hj e => ?_⟩
      · rw [apF_44] at z
        exact absurd h4 (Int32.not_le.mpr z)
      · by_cases q : j = D.2.2
        · exact q.symm
        · rw [up1_ne q] at e
          have l1 : fa j < mC p := T.lt (by rw [(H1.2 j (by rw [apF_f] at hj; omega)).2.1.2.1]; decide)
          omega
    · have hi' : i < D.2.2 := by rw [apF_f] at hi; omega
      obtain ⟨z1, z2, z3, z4⟩ := H1.2 i hi'
      have l1 : fa i < mC p := T.lt (by rw [z2.2.1]; decide)
      rw [up1_ne q, up1_ne q]
      refine ⟨z1, (z2.Ch T C (fun f hf => by simp; omega) (by have := z2.1; simp; omega) nil_no).ap hi' (hg i · hi'), fun z => ?_, fun j hj e => ?_⟩
      · rw [apF_old hi' (by decide)] at z
        rw [apF_old hi' (by decide), C.r (by decide) l1]
        exact z3 z
      · by_cases q2 : j = D.2.2
        · rw [q2, up1_eq] at e; omega
        · rw [up1_ne q2] at e
          exact z4 j (by rw [apF_f] at hj; omega) e
  · rw [C.i (by decide) (by have := T.1; omega)]; exact H2.1
  · exact ((H2.2.1 k hk).Ch T C (by decide) (by have := (H2.2.1 k hk).1; simp; omega) nil_no).ap
  · obtain ⟨-, -, -, -, -, -, -, -, -, -, -, -, -, -, -, -, -, -, -, g20, -⟩ := H2.2.1 k hk
    rw [C.n (T.lt (by rw [g20]; decide))]
    exact H2.2.2.2 k hk
  · have := H3.Ch T C (by decide) nil_no
    refine ⟨this.1, this.2.1, this.2.2.1, ?_⟩
    have e : ∀ k, (apF D s a b c v g).1 11 k = D.1 11 k := fun k => apF_lo (by omega)
    simp only [e]
    exact this.2.2.2
  · rw [apF_lo (by omega)] at hj
    obtain ⟨-, ⟨f, hf1, hf2, -⟩, -⟩ := W.2.2.1 k hk
    refine ((H4 k j hk hj).Ch T C (fun f h1 h2 => by simp; omega) (fun a ha => by simp; omega) nil_no nil_no).ap ?_
    rw [hf2, ix_nj (by omega)]
    omega
  · rw [apF_lo (by omega)] at hj
    obtain ⟨z1, z2, z3, z4⟩ := H5.1 k j hk hj
    have I := H4 k j hk hj
    have l2 : sa (30 * k + j) < mC p := T.lt (by rw [I.2.2.2.2.2.2.2.2.2.2.2.1]; decide)
    have l3 : ca (30 * k + j) < mC p := T.lt (by rw [I.2.2.2.2.2.2.2.2.2.2.2.2.1]; decide)
    refine ⟨z1, z2, ?_, ?_⟩
    · rintro ⟨i, hi, e⟩
      by_cases q : i = D.2.2
      · subst q; rw [up1_eq] at e; omega
      · rw [up1_ne q] at e
        exact z3 ⟨i, by rw [apF_f] at hi; omega, e⟩
    · rintro ⟨i, hi, e⟩
      by_cases q : i = D.2.2
      · subst q; rw [up1_eq] at e; omega
      · rw [up1_ne q] at e
        exact z4 ⟨i, by rw [apF_f] at hi; omega, e⟩
  · rw [apF_lo (by omega)] at h2 h4
    exact H5.2 k j k' j' h1 h2 h3 h4
theorem WText.ap (W : WText D nc) (hf : D.2.2 < 160) : WText (apF D s a b c v g) nc := by
  obtain ⟨w1, w2, w3, w4, w5⟩ := W
  refine ⟨w1, by rw [apF_f]; omega, fun k hk => ?_, fun k l h1 h2 => ?_, fun k l h1 h2 => ?_⟩
  · obtain ⟨y1, ⟨f, y2, y3, y4, y5⟩, y6, y7, y8, y9, ⟨j, z1, z2, z3, z4, z5, z6⟩, y11⟩ := w3 k hk
    simp only [apF_lo (D := D) (s := s) (a := a) (b := b) (c := c) (v := v) (g := g) (show 8 < 44 by omega), apF_lo (D := D) (s := s) (a := a) (b := b) (c := c) (v := v) (g := g) (show 9 < 44 by omega), apF_lo (D := D) (s := s) (a := a) (b := b) (c := c) (v := v) (g := g) (show 10 < 44 by omega), apF_lo (D := D) (s := s) (a := a) (b := b) (c := c) (v := v) (g := g) (show 11 < 44 by omega), apF_lo (D := D) (s := s) (a := a) (b := b) (c := c) (v := v) (g := g) (show 12 < 44 by omega), apF_lo (D := D) (s := s) (a := a) (b := b) (c := c) (v := v) (g := g) (show 13 < 44 by omega), apF_lo (D := D) (s := s) (a := a) (b := b) (c := c) (v := v) (g := g) (show 14 < 44 by omega)]
    refine ⟨y1, ⟨f, by rw [apF_f]; omega, y3, ?_, ?_⟩, y6, y7, y8, y9, ⟨j, z1, z2, z3, z4, z5, z6⟩, y11⟩
    · rw [apF_old y2 (by decide)]; exact y4
    · rw [apF_old y2 (by decide)]; exact y5
  · rw [apF_lo (by omega), apF_lo (by omega)]
    exact w4 k l h1 h2
  · rw [apF_lo (by omega), apF_lo (by omega), apF_lo (by omega), apF_lo (by omega)]
    exact w5 k l h1 h2
end Lk
