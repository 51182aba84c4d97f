/-! Layer C: the class reckons a DAY -/
/-- the class between questions -/
def PS (fa ta ia sa ca : Nat → Nat) (od : List Nat) (D : Dt) (sup : Sup) (w : Nat) (p : Mem) : Prop := Lk fa ta ia sa ca od p D ∧ Top p ∧ PL p ∧ Stm ta D w p ∧ (∀ j, j < 12 → j ≠ 0 → j ≠ 2 → j ≠ 3 → j ≠ 4 → aI p 26 j = 0) ∧ (∀ k, k < D.2.1 → isW D k = false → mI p 1292 (ta k) = 0) ∧ (mR p 1158 25 = sup.map (fun s => ta s.1) ∧ ∀ s, sup = some s → s.1 < D.2.1 ∧ mI p 1159 25 = s.2.1 ∧ mI p 1160 25 = s.2.2) ∧ (∀ j, j < 4 → aI p 12 j = D.1 43 j) ∧ ∀ j, j < 8 → aI p 6 j = D.1 37 j ∧ aI p 7 j = D.1 38 j
/-- whose week, and what is told of it -/
def LdX (fa : Nat → Nat) (D : Dt) (X : Dy) (p : Mem) : Prop := Ld29 fa D (xa X) (xd X / 7) (xn X) p ∧ mI p 1028 28 = nj (xn X) ∧ ∃ who, who < 10 ∧ xa X = nj who ∧ aI p 8 who = nj (xf X) ∧ aI p 9 who = xt X ∧ aI p 10 who = xy X
def PkH (ta : Nat → Nat) (D : Dt) (X : Dy) (sup : Sup) (p : Mem) (g : Nat) : Prop := PfH ta D X sup p g ∧ aR p 37 g = (pyH D X sup g).map ta ∧ aI p 38 g = jmax (wA D X sup g) (wG D X sup g)
def rkF : List Nat := [1032, 1041, 1043, 1157, 1295, 268, 1287, 1292, 1293, 1294]
def rkA : List Nat := [4, 26, 27, 30, 31, 32, 33, 34, 35, 36, 37, 38, 39, 40]
section Rk
variable {fa ta ia sa ca : Nat → Nat} {od : List Nat} {p : Mem} {D : Dt} {nc : Nat} {X : Dy} {sup : Sup} {w : Nat}
theorem PS.of {F A : List Nat} {p' : Mem} {w' : Nat} (h : PS fa ta ia sa ca od D sup w p) (hP : PD fa ta ia sa ca od D X sup w' p') (c : Ch F A (dyT ta D.2.1) p p') (hA : (A.all fun a => a != 12 && a != 6 && a != 7) = true) (h26 : ∀ j, j < 12 → j ≠ 0 → j ≠ 2 → j ≠ 3 → j ≠ 4 → aI p' 26 j = 0) : PS fa ta ia sa ca od D sup w' p' := by
  obtain ⟨L, T, hp, S, h5, h6, h7, h8, h9⟩ := h
  obtain ⟨L', T', hp', S', M', N'⟩ := hP
  have T1 := T.1
  have ha : ∀ a, (a = 12 ∨ a = 6 ∨ a = 7) → aI p' a = aI p a := fun a h => c.ai (fun q => by
    have := List.all_eq_true.mp hA a q
    simp at this
    omega) (dyT_lo L (by omega)) (by omega)
  refine ⟨L', T', hp', S', h26, N', M'.2.2.2, ?_, ?_⟩
  · rw [ha 12 (by omega)]; exact h8
  · rw [ha 6 (by omega), ha 7 (by omega)]; exact h9
theorem PS.Ch {F A : List Nat} {p' : Mem} (h : PS fa ta ia sa ca od D sup w p) (c : Ch F A nil p p') (hF : (F.all fun f => (1026 ≤ f && f < 1157) || f == 1295 || f == 1296) = true) (hF2 : (F.all fun f => !(P_refs.any fun q => q.1 == f)) = true) (hA : (A.all fun a => a == 4 || (28 < a && a < 50)) = true) : PS fa ta ia sa ca od D sup w p' := by
  obtain ⟨L, T, hp, S, h5, h6, h7, h8, h9⟩ := h
  have T1 := T.1
  have hf : ∀ f, f ∈ F → (1026 ≤ f ∧ f < 1157) ∨ f = 1295 ∨ f = 1296 := fun f q => by
    have := List.all_eq_true.mp hF f q
    simp at this
    omega
  have ha : ∀ a, a ∈ A → a = 4 ∨ (28 < a ∧ a < 50) := fun a q => by
    have := List.all_eq_true.mp hA a q
    simp at this
    omega
  have ai : ∀ a, (a = 12 ∨ a = 6 ∨ a = 7 ∨ a = 26) → aI p' a = aI p a := fun a h => c.ai (fun q => by have := ha a q; omega) nil_no (by omega)
  refine ⟨L.Ch T c.dy ?_ ?_, T.Ch c, hp.Ch c hF2, Stm_keep S L.2.1 T c (fun q => by have := hf _ q; omega) (fun a h q => by have := ha a q; omega), ?_, fun k hk hn => ?_, ?_, ?_, ?_⟩
  · rw [List.all_eq_true]
    intro f q
    have := hf f q
    simp [lkF]
    omega
  · rw [List.all_eq_true]
    intro f q
    have := ha f q
    simp
    omega
  · rw [ai 26 (by omega)]; exact h5
  · have lk : ta k < mC p := T.lt (by rw [(L.2.1.2.1 k hk).2.1]; decide)
    rw [c.i (fun q => by have := hf _ q; omega) lk]; exact h6 k hk hn
  · rw [c.r (fun q => by have := hf _ q; omega) (by omega), c.i (f := 1159) (fun q => by have := hf _ q; omega) (by omega), c.i (f := 1160) (fun q => by have := hf _ q; omega) (by omega)]; exact h7
  · rw [ai 12 (by omega)]; exact h8
  · rw [ai 6 (by omega), ai 7 (by omega)]; exact h9
theorem open_PD (W : WText D nc) (Wf : WFact D nc) (Wi : WItems D nc) (hn60 : nc ≤ 60) (hd : xd X < 140) (hf : xf X < 8) (hn : xn X ≤ D.2.2) (h : PS fa ta ia sa ca od D sup w p) :
    ∃ p', P_Scene_open (nj (xf X)) (nj (xd X)) (nj (xn X)) (xy X) p = some ((), p') ∧ PD fa ta ia sa ca od D X sup w p' ∧ PS fa ta ia sa ca od D sup w p' ∧ Ch opF opA (dy2 ta D.2.1) p p' ∧ mC p' = mC p ∧ mS p' = mS p := by
  obtain ⟨L, T, hp, S, h5, h6, h7, h8, h9⟩ := id h
  have T1 := T.1
  obtain ⟨p', o1, o2, o3, o4, o5, o6, o7, o8⟩ := P_open_e L T hp W Wf Wi hn60 h8 h9 h5 hf hd hn (xy X)
  have hb : bS D (vS D (xf X) (xd X) (xn X) 0) (infO D (xd X) (xf X) (xn X)) od = bQ D (xd X) (xf X) (xn X) := bS_bQ W hd L.2.2.1.2.2.1 L.2.2.1.2.2.2
  have o2' : OpQ ta ia D (xd X) (xf X) (xn X) p' := by
    unfold Opened at o2
    unfold OpQ
    rw [← hb]
    exact o2
  have cT : Ch opF opA (dyT ta D.2.1) p p' := o5.mono (fun _ h => h) (fun _ h => h) (fun a ⟨k, hk, h⟩ => ⟨k, hk, by omega⟩)
  have L' : Lk fa ta ia sa ca od p' D := L.Ch T cT (by decide) (by decide)
  have S' : Stm ta D w p' := by
    refine ⟨by rw [o5.i (by decide) (by omega)]; exact S.1, fun k j hk => ?_⟩
    obtain ⟨t1, -, -, -, -, -, -, -, -, -, -, -, -, -, -, -, -, -, t19, -⟩ := L.2.1.2.1 k hk
    have nd : ¬ dy2 ta D.2.1 (ta k + 3) := by
      rintro ⟨l, hl, e⟩
      obtain ⟨-, -, -, -, -, -, -, -, -, -, -, -, -, -, -, -, u17, u18, -⟩ := L.2.1.2.1 l hl
      rcases e with e | e
      · rw [e, u17] at t19; exact absurd t19 (by decide)
      · rw [e, u18] at t19; exact absurd t19 (by decide)
    rw [o5.ai (by unfold opA; simp; omega) nd (T.lt (by rw [t19]; decide))]
    exact S.2 k j hk
  have P' : PD fa ta ia sa ca od D X sup w p' := by
    refine ⟨L', T.Ch o5, hp.Ch o5 (by decide), S', ⟨o2'.1, o2'.2.1, o4, ?_, fun s hs => ?_⟩, fun k hk hn => ?_⟩
    · rw [o5.r (by decide) (by omega)]; exact h7.1
    · rw [o5.i (by decide) (by omega), o5.i (by decide) (by omega)]; exact h7.2 s hs
    · rw [o8 k hk hn]; exact h6 k hk hn
  refine ⟨p', o1, P', h.of P' cT (by decide) (fun j a b c d e => ?_), o5, o6, o7⟩
  rw [o3 j a]
  unfold vS
  rw [if_neg b, if_neg c, if_neg d, if_neg e]
  by_cases q : j = 1
  · rw [if_pos q]
  · rw [if_neg q]
theorem tk_zero {o : Option Nat} : ∀ H, tkN D o H = 0 → ∀ h, h < H → isTk (dnS D o h) = false
  | 0, _, _, h => absurd h (by omega)
  | H + 1, e, h, hh => by
    have e' : tkN D o H + (if isTk (dnS D o H) then 1 else 0) = 0 := e
    by_cases q : h = H
    · rw [q]
      cases c : isTk (dnS D o H) with
      | false => rfl
      | true => rw [c, if_pos rfl] at e'; omega
    · exact tk_zero H (by omega) h (by omega)
theorem cl_none {g : Nat → Option Nat} {h : Nat} (e : g h = none) : clH D X sup g h = none := by
  unfold clH
  rw [e]
theorem P_reckon_174_e (W : WText D nc) (Wi : WItems D nc) (hn60 : nc ≤ 60) (hd : xd X < 140) (hw : w + 192 < 2147483647) (P : PD fa ta ia sa ca od D X sup w p) (hV : V39 D X p) (hWho : Who X p) (h32 : mI p 1032 28 = nj (waH D X)) (H : ∀ g, g < 48 → PbH ta D X p g) :
    ∃ p' w', P_Reckoning_reckon_174 p = some ((), p') ∧ PD fa ta ia sa ca od D X sup w' p' ∧ w' ≤ w + 192 ∧ V39 D X p' ∧ (∀ g, g < 48 → PkH ta D X sup p' g) ∧ Ch [1041, 1043, 1157] [4, 34, 36, 37, 38, 39, 40] (dy4 ta D.2.1) p p' ∧ mC p' = mC p ∧ mS p' = mS p := by
  have T1 := P.2.1.1
  have L := P.1
  have n4 : ∀ a, a < 50 → ¬ dy4 ta D.2.1 a := fun a ha q => by have := dy4_51 L.2.1 q; omega
  obtain ⟨p1, w1, a1, a2, a3, a4, a5, a6, a7⟩ := P_findClasses_e (bA := 33) (eA := 34) W Wi hn60 hd GW_aw (by omega) (by omega) (by omega) (fun p hp => ⟨(PC_33 hp).1, (PC_33 hp).2, (PC_34 hp).1, (PC_34 hp).2⟩) (by omega) P (fun x hx => (H x hx).1) (fun x hx => (H x hx).2.2.2.1)
  have i1 : ∀ a, a ≠ 4 → a ≠ 34 → a < 50 → aI p1 a = aI p a ∧ aR p1 a = aR p a := fun a h1 h2 h3 => ⟨a5.ai (by simp; omega) (n4 a h3) (by omega), a5.ar (by simp; omega) (n4 a h3) (by omega)⟩
  obtain ⟨p2, w2, b1, b2, b3, b4, b5, b6, b7⟩ := P_findClasses_e (bA := 35) (eA := 36) (w := w1) W Wi hn60 hd GW_ag (by omega) (by omega) (by omega) (fun p hp => ⟨(PC_35 hp).1, (PC_35 hp).2, (PC_36 hp).1, (PC_36 hp).2⟩) (by omega) a3 (fun x hx => by rw [(i1 30 (by omega) (by omega) (by omega)).1]; exact (H x hx).1) (fun x hx => by rw [(i1 35 (by omega) (by omega) (by omega)).2]; exact (H x hx).2.2.2.2.2.1)
  have i2 : ∀ a, a ≠ 4 → a ≠ 36 → a < 50 → aI p2 a = aI p1 a ∧ aR p2 a = aR p1 a := fun a h1 h2 h3 => ⟨b5.ai (by simp; omega) (n4 a h3) (by omega), b5.ar (by simp; omega) (n4 a h3) (by omega)⟩
  have i3 : ∀ a, a ≠ 4 → a ≠ 34 → a ≠ 36 → a < 50 → aI p2 a = aI p a ∧ aR p2 a = aR p a := fun a h1 h2 h3 h4 => ⟨by rw [(i2 a h1 h3 h4).1, (i1 a h1 h2 h4).1], by rw [(i2 a h1 h3 h4).2, (i1 a h1 h2 h4).2]⟩
  have c2 : Ch [1041, 1043, 1157] [4, 34, 36, 37, 38, 39, 40] (dy4 ta D.2.1) p p2 := (a5.mono (by simp) (by simp) (fun _ h => h)).trans (b5.mono (by simp) (by simp) (fun _ h => h))
  have V2 : V39 D X p2 := fun i q x1 x2 x3 x4 x5 => by rw [(i3 39 (by omega) (by omega) (by omega) (by omega)).1]; exact hV i q x1 x2 x3 x4 x5
  obtain ⟨p3, w3, d1, d2, d3, d4, d5, d6, d7, d8⟩ := P_reckon_201_e (w := w2) W Wi hn60 hd (by omega) 48 0 FU p2 w2 (by omega) (by unfold FU; omega) b3 (by omega) V2 (hWho.Ch P.2.1 c2 (by decide) (by decide) (n4 _ (by omega))) (by rw [c2.i (by decide) (by omega)]; exact h32) (fun g hg => by
    obtain ⟨h1, h2, h3, h4, h5, h6, h7, h8, h9⟩ := H g hg
    unfold PfH
    rw [(i3 30 (by omega) (by omega) (by omega) (by omega)).1, (i3 31 (by omega) (by omega) (by omega) (by omega)).1, (i3 32 (by omega) (by omega) (by omega) (by omega)).1, (i3 33 (by omega) (by omega) (by omega) (by omega)).2, (i2 34 (by omega) (by omega) (by omega)).1, a2 g hg, (i3 35 (by omega) (by omega) (by omega) (by omega)).2, b2 g hg]
    exact ⟨h1, h2, h3, h4, rfl, h6, rfl⟩) (fun _ h => absurd h (by omega)) (fun g _ hg => by
    obtain ⟨h1, h2, h3, h4, h5, h6, h7, h8, h9⟩ := H g hg
    rw [(i3 37 (by omega) (by omega) (by omega) (by omega)).2, (i3 38 (by omega) (by omega) (by omega) (by omega)).1]
    exact ⟨h8, h9⟩)
  refine ⟨p3, w3, ?_, d2, by omega, d4, d5, c2.trans (d6.mono (by simp) (by simp) (fun a ⟨k, hk, e⟩ => ⟨k, hk, Or.inl e⟩)), by omega, by omega⟩
  unfold P_Reckoning_reckon_174
  rw [a1, bn_s, b1, bn_s]
  exact d1
theorem P_reckon_e (W : WText D nc) (Wf : WFact D nc) (Wi : WItems D nc) (hn60 : nc ≤ 60) (hd : xd X < 140) (hf : xf X < 8) (hn : xn X ≤ D.2.2) (hw : w + 192 < 2147483647) (h : PS fa ta ia sa ca od D sup w p) (HL : LdX fa D X p) :
    ∃ p' w', P_Reckoning_reckon (nj (xd X % 7)) p = some ((), p') ∧ PS fa ta ia sa ca od D sup w' p' ∧ w' ≤ w + 192 ∧ (∀ g, g < 48 → PkH ta D X sup p' g) ∧ (tkN D (rwH D X) 48 ≠ 0 → PD fa ta ia sa ca od D X sup w' p' ∧ V39 D X p' ∧ mI p' 1032 28 = nj (waH D X)) ∧ Ch rkF rkA (dyT ta D.2.1) p p' ∧ mC p' = mC p ∧ mS p' = mS p := by
  obtain ⟨L, T, hp, S, -⟩ := id h
  have T1 := T.1
  have h160 := W.2.1
  obtain ⟨HL1, HL2, who, w1, w2, w3, w4, w5⟩ := HL
  have c0 : Ch [1032] [] nil p (sI p 1032 28 0) := Ch.rfl.sI (by decide)
  have lo : ∀ a, a ≤ 51 → ¬ dyT ta D.2.1 a := fun a ha => dyT_lo L ha
  obtain ⟨p1, a1, a2, a3, a4, a5, a6⟩ := P_reckon_7_e (a := xa X) (wk := xd X / 7) (d := xd X % 7) hn (by omega) (xd X % 7) 0 FU (sI p 1032 28 0) (by omega) (by unfold FU; omega) (L.1.Ch T c0 (fun f hf => by simp; omega) (fun a ha => List.not_mem_nil) ⟨nil_no, fun _ _ => nil_no⟩) (T.Ch c0) (HL1.Ch T c0 (by decide) (by decide) nil_no) (by rw [k_mI_sI_e, up1_eq]; rfl)
  have c1 : Ch [1032] [] nil p p1 := c0.trans a4
  have hC1 : mC p1 = mC p := by rw [a5, k_mC_sI]
  have hS1 : mS p1 = mS p := by rw [a6, k_mS_sI]
  have S1 := h.Ch c1 (by decide) (by decide) (by decide)
  obtain ⟨p2, b1, b2, b3, b4, b5⟩ := P_takeTasks_e h160 hd hn S1.1.1 S1.2.1 S1.2.2.1 a3
  have c2 : Ch [1032] tkA nil p p2 := (c1.mono (fun _ h => h) (by simp) (fun _ h => h)).trans (b3.mono (by simp) (fun _ h => h) (fun _ h => h))
  have S2 := h.Ch c2 (by decide) (by decide) (by decide)
  have Ld2 : Ld29 fa D (xa X) (xd X / 7) (xn X) p2 := a3.Ch S1.2.1 b3 ⟨List.not_mem_nil, List.not_mem_nil⟩ (by decide) nil_no
  have htk := P_tasksOn_e S2.1.1 Ld2 hn (q := xd X % 7) (by omega)
  rw [show 7 * (xd X / 7) + xd X % 7 = xd X by omega] at htk
  have htk' : P_Reckoning_tasksOn (nj (xd X % 7)) p2 = some (nj (tkN D (rwH D X) 48), p2) := htk
  have h48 := tkN_le (D := D) (o := rwH D X) 48
  have e32 : mI p2 1032 28 = nj (waH D X) := by rw [b3.i List.not_mem_nil (by omega)]; exact a2
  have hst : P_Reckoning_reckon (nj (xd X % 7)) p = P_Reckoning_reckon_32 (nj (xd X % 7)) p1 := by
    unfold P_Reckoning_reckon
    rw [vb_e]
    exact a1
  have cR2 : Ch rkF rkA (dyT ta D.2.1) p p2 := c2.dy.mono (by decide) (by decide) (fun _ h => h)
  by_cases q : tkN D (rwH D X) 48 = 0
  · refine ⟨p2, w, ?_, S2, by omega, fun g hg => ?_, fun z => absurd q z, cR2, by omega, by omega⟩
    · rw [hst]
      unfold P_Reckoning_reckon_32
      rw [b1, bn_s, htk', bn_s, if_pos (by rw [q]; rfl)]
    · have hno : isTk (tsH D X g) = false := tk_zero 48 q g hg
      have ea := aw_none hno
      obtain ⟨y1, y2, y3⟩ := py_none (sup := sup) ea
      obtain ⟨h1, h2, h3, h4, h5, h6, h7, h8, h9⟩ := (b2 g hg).no (ta := ta) hno
      refine ⟨⟨h1, h2, h3, h4, ?_, h6, ?_⟩, ?_, ?_⟩
      · rw [h5, cl_none ea]; rfl
      · rw [h7, cl_none y1]; rfl
      · rw [h8, y2]; rfl
      · rw [h9, y3]
  · have hne : ¬ nj (tkN D (rwH D X) 48) = 0 := fun z => q ((nj_inj (b := 0) (by omega) (by omega)).mp z)
    obtain ⟨p3, d1, d2, d3, d4, d5, d6⟩ := open_PD (X := X) W Wf Wi hn60 hd hf hn S2
    have n2 : ∀ a, a < 50 → ¬ dy2 ta D.2.1 a := fun a ha ⟨l, hl, e⟩ => by have := (L.2.1.2.1 l hl).1; omega
    have hC3 : mC p3 = mC p := by omega
    have c5 : Ch [] [39] nil p3 (wI (wI (cpI p3 27 0 39 0 12) 39 6 (nj (xd X % 7))) 39 10 (weH D X)) := ((ch_cpI Ch.rfl (by decide)).wI (Or.inl (by decide))).wI (Or.inl (by decide))
    generalize hp5 : wI (wI (cpI p3 27 0 39 0 12) 39 6 (nj (xd X % 7))) 39 10 (weH D X) = p5 at c5
    have hC5 : mC p5 = mC p3 := by rw [← hp5, k_mC_wI, k_mC_wI, kc_mC]
    have hS5 : mS p5 = mS p3 := by rw [← hp5, k_mS_wI, k_mS_wI, kc_mS]
    have P5 := d2.Ch c5.dy (by decide) (by decide) (by decide) (Stm_keep d2.2.2.2.1 d2.1.2.1 d2.2.1 c5 (by decide) (fun a ha => by simp; omega))
    have c3 : Ch rkF rkA (dyT ta D.2.1) p p3 := cR2.trans (d4.mono (by decide) (by decide) (fun a ⟨k, hk, h⟩ => ⟨k, hk, by omega⟩))
    have cR5 : Ch rkF rkA (dyT ta D.2.1) p p5 := c3.trans (c5.dy.mono (by decide) (by decide) (fun _ h => h))
    have i5 : ∀ a, a ≠ 4 → a ≠ 26 → a ≠ 27 → a ≠ 39 → a < 50 → aI p5 a = aI p2 a ∧ aR p5 a = aR p2 a := fun a h1 h2 h3 h4 h5 => ⟨by rw [c5.ai (by simp; omega) nil_no (by omega), d4.ai (by unfold opA; simp; omega) (n2 a h5) (by omega)], by rw [c5.ar (by simp; omega) nil_no (by omega), d4.ar (by unfold opA; simp; omega) (n2 a h5) (by omega)]⟩
    have V5 : V39 D X p5 := fun j hj x5 x7 x8 x9 x11 => by
      have e27 : aI p3 27 j = vS D (xf X) (xd X) (xn X) (xy X) j := d2.2.2.2.2.1.2.2.1 j hj
      have hcp : aI (cpI p3 27 0 39 0 12) 39 j = aI p3 27 j := by
        rw [kc_aI_e]
        unfold va_cpy
        show (if 0 ≤ j ∧ j < 0 + 12 then aI p3 27 (0 + (j - 0)) else _) = _
        rw [if_pos (by omega), Nat.zero_add, Nat.sub_zero]
      rw [← hp5, k_aI_wI_e, up1_ap, k_aI_wI_e, up1_ap, hcp, e27]
      unfold vR
      rw [if_neg x5, if_neg x7, if_neg x8, if_neg x9]
      by_cases x10 : j = 10
      · rw [if_pos x10, if_neg (by omega), if_pos x10]
      · rw [if_neg x10]
        by_cases x6 : j = 6
        · rw [if_pos x6, if_pos x6]
        · rw [if_neg x6, if_neg x6, if_neg x10]
    have f5 : ∀ f, f ∈ [1026, 1027, 1028, 1032] → mI p5 f 28 = mI p2 f 28 := fun f hf => by
      rw [c5.i List.not_mem_nil (by omega), d4.i (by unfold opF; revert hf; simp; omega) (by omega)]
    have e26 : mI p2 1026 28 = nj who := by rw [Ld2.1, w2]
    have e28 : mI p2 1028 28 = nj (xn X) := by rw [c2.i (by decide) (by omega)]; exact HL2
    have i2 : ∀ a, a = 8 ∨ a = 9 ∨ a = 10 → aI p2 a = aI p a := fun a ha => c2.ai (by unfold tkA; simp; omega) nil_no (by omega)
    have hWho : Who X p5 := ⟨who, w1, by rw [f5 1026 (by simp)]; exact e26, by rw [(i5 9 (by omega) (by omega) (by omega) (by omega) (by omega)).1, i2 9 (by omega)]; exact w4⟩
    obtain ⟨p6, g1, g2, g3, g4, g5, g6⟩ := P_reckon_142_e (X := X) W Wi 48 0 FU p5 (by omega) (by unfold FU; omega) P5.1 P5.2.1 P5.2.2.1 V5 hWho (by rw [f5 1032 (by simp)]; exact e32) P5.2.2.2.2.1.1 (fun _ h => absurd h (by omega)) (fun g _ hg => by
      obtain ⟨h1, h2, h3, h4, h5, h6, h7, h8, h9⟩ := b2 g hg
      unfold TkH
      rw [(i5 30 (by omega) (by omega) (by omega) (by omega) (by omega)).1, (i5 31 (by omega) (by omega) (by omega) (by omega) (by omega)).1, (i5 32 (by omega) (by omega) (by omega) (by omega) (by omega)).1, (i5 33 (by omega) (by omega) (by omega) (by omega) (by omega)).2, (i5 34 (by omega) (by omega) (by omega) (by omega) (by omega)).1, (i5 35 (by omega) (by omega) (by omega) (by omega) (by omega)).2, (i5 36 (by omega) (by omega) (by omega) (by omega) (by omega)).1, (i5 37 (by omega) (by omega) (by omega) (by omega) (by omega)).2, (i5 38 (by omega) (by omega) (by omega) (by omega) (by omega)).1]
      exact ⟨h1, h2, h3, h4, h5, h6, h7, h8, h9⟩)
    have P6 := P5.Ch g4.dy (by decide) (by decide) (by decide) (Stm_keep P5.2.2.2.1 P5.1.2.1 P5.2.1 g4 (by decide) (fun a ha => by simp; omega))
    have e6 : mI p6 1032 28 = nj (waH D X) := by rw [g4.i (by decide) (by omega), f5 1032 (by simp)]; exact e32
    obtain ⟨p7, w7, k1, k2, k3, k4, k5, k6, k7, k8⟩ := P_reckon_174_e W Wi hn60 hd hw P6 g3 (hWho.Ch P5.2.1 g4 (by decide) (by decide) nil_no) e6 g2
    have cR7 : Ch rkF rkA (dyT ta D.2.1) p p7 := (cR5.trans (g4.dy.mono (by decide) (by decide) (fun _ h => h))).trans (k6.mono (by decide) (by decide) (fun a h => dy4_T h))
    have n4 : ∀ a, a < 50 → ¬ dy4 ta D.2.1 a := fun a ha q => by have := dy4_51 L.2.1 q; omega
    refine ⟨p7, w7, ?_, h.of k2 cR7 (by decide) (fun j a b c d e => ?_), k3, k5, fun _ => ⟨k2, k4, by rw [k6.i (by decide) (by omega)]; exact e6⟩, cR7, by omega, by omega⟩
    · rw [hst]
      unfold P_Reckoning_reckon_32
      have hday : nj (xd X / 7) * 7 + nj (xd X % 7) = nj (xd X) := by
        rw [show (7 : Int32) = nj 7 from rfl, nj_mul, nj_add]
        congr 1
        omega
      have hwet : P_Ledger_lastWet (nj (xf X)) (nj (xd X)) (nj (xn X)) (wI (cpI p3 27 0 39 0 12) 39 6 (nj (xd X % 7))) = some (weH D X, wI (cpI p3 27 0 39 0 12) 39 6 (nj (xd X % 7))) := by
        have cw : Ch [] [39] nil p3 (wI (cpI p3 27 0 39 0 12) 39 6 (nj (xd X % 7))) := (ch_cpI Ch.rfl (by decide)).wI (Or.inl (by decide))
        exact P_lastWet_e (d2.1.1.Ch d2.2.1 cw (fun f hf => List.not_mem_nil) (fun a ha => by simp; omega) ⟨nil_no, fun _ _ => nil_no⟩) h160 hn
      rw [b1, bn_s, htk', bn_s, if_neg hne, e26, inb_nj (by omega), gd_t (decide_eq_true w1), vb_e, vb_e, gd_t (decide_eq_true w1), ix_nj (by omega), i2 8 (by omega), w3, Ld2.2.1, hday, e28, i2 10 (by omega), w5, d1, bn_s]
      unfold P_Scene_copyVars
      rw [gs_s, gt_t (PC_39 d2.2.2.1).1, (PC_27 d2.2.2.1).2, (PC_39 d2.2.2.1).2, gd_t (by decide), vb_e, bn_s, inb_lit (show (6 : Nat) < 2147483648 by omega), gd_t (by decide), vb_e, ix_lit (show (6 : Nat) < 2147483648 by omega), ix_lit (show (0 : Nat) < 2147483648 by omega), ix_lit (show (12 : Nat) < 2147483648 by omega)]
      have e28' : mI (wI (cpI p3 27 0 39 0 12) 39 6 (nj (xd X % 7))) 1028 28 = nj (xn X) := by
        rw [k_mI_wI]
        have : mI (cpI p3 27 0 39 0 12) 1028 28 = mI p3 1028 28 := id rfl
        rw [this, d4.i (by decide) (by omega)]
        exact e28
      rw [e28', hwet, bn_s, inb_lit (show (10 : Nat) < 2147483648 by omega), gd_t (by decide), vb_e, ix_lit (show (10 : Nat) < 2147483648 by omega), hp5]
      refine Eq.trans g1 ?_
      exact k1
    · rw [k6.ai (by decide) (n4 _ (by omega)) (by omega), g4.ai (by decide) nil_no (by omega), c5.ai (by decide) nil_no (by omega)]
      exact d3.2.2.2.2.1 j a b c d e
end Rk
