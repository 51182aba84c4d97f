/-! Layer C: the class's payers of a DAY -/
noncomputable def rtS (D : Dt) (X : Dy) (sup : Sup) (k j : Nat) : Int32 := jmax 0 (vS D (xf X) (xd X) (xn X) (xy X) 0 + mgH D X sup k j)
noncomputable def vW (D : Dt) (X : Dy) (sup : Sup) (k j h : Nat) : Nat → Int32 := fun i => if i = 11 then rtS D X sup k j else vH D X h i
noncomputable def wgS (D : Dt) (X : Dy) (sup : Sup) (k j h : Nat) : WSt := wFd D (vW D X sup k j h) (xt X) (rowQ D X k)
noncomputable def woS (D : Dt) (X : Dy) (sup : Sup) (k j h : Nat) : Int32 := rtS D X sup k j * jmax 0 (jmin 1000 (wgS D X sup k j h).1) + 200 * jmin (wgS D X sup k j h).2.1 9999
noncomputable def wOp (D : Dt) (X : Dy) (sup : Sup) (o c : Option Nat) (h : Nat) : Int32 := match o, c with
  | some k, some j => woS D X sup k j h
  | _, _ => 0
noncomputable def wA (D : Dt) (X : Dy) (sup : Sup) (h : Nat) : Int32 := wOp D X sup (awH D X h) (clH D X sup (awH D X) h) h
noncomputable def wG (D : Dt) (X : Dy) (sup : Sup) (h : Nat) : Int32 := wOp D X sup (agH D X h) (clH D X sup (agH D X) h) h
noncomputable def pyH (D : Dt) (X : Dy) (sup : Sup) (h : Nat) : Option Nat := if jmax (wA D X sup h) (wG D X sup h) ≤ 0 then none else if wG D X sup h ≤ wA D X sup h then awH D X h else agH D X h
/-- a HALF, payer and worth aside -/
def PfH (ta : Nat → Nat) (D : Dt) (X : Dy) (sup : Sup) (p : Mem) (h : Nat) : Prop := aI p 30 h = tsH D X h ∧ aI p 31 h = nj (wkH D X h) ∧ aI p 32 h = pbH D X h ∧ aR p 33 h = (awH D X h).map ta ∧ aI p 34 h = jo (clH D X sup (awH D X) h) ∧ aR p 35 h = (agH D X h).map ta ∧ aI p 36 h = jo (clH D X sup (agH D X) h)
section Py
variable {fa ta ia sa ca : Nat → Nat} {od : List Nat} {p : Mem} {D : Dt} {nc : Nat} {X : Dy} {sup : Sup} {w : Nat}
theorem GW_aw : GW D X (awH D X) := fun h k e => by
  obtain ⟨-, h1, h2, h3, -⟩ := aw_some e
  exact ⟨h1, h3, decide_eq_true (Or.inl h2)⟩
theorem GW_ag : GW D X (agH D X) := fun h k e => by
  obtain ⟨-, -, h1, h2, h3⟩ := ag_some e
  exact ⟨h1, h3, decide_eq_true (Or.inr h2)⟩
theorem Stm_keep {F A : List Nat} {p' : Mem} (S : Stm ta D w p) (L : LText ta ia p D) (T : Top p) (c : Ch F A nil p p') (hF : 1157 ∉ F) (hA : ∀ a, 50 ≤ a → a ∉ A) : Stm ta D w p' := S.Ch L T (c.mono (fun _ h => h) (fun _ h => h) (fun _ h => h.elim)) hF hA
theorem P_worthBy_e (W : WText D nc) (Wi : WItems D nc) (hn60 : nc ≤ 60) (hd : xd X < 140) {k j h : Nat} {z : Row} (hk : k < D.2.1) (hi : inH D X k = true) (hwk : isW D k = true) (hz : (rowQ D X k)[j]? = some z) (hz2 : D.1 15 z.1 = 2) (hh : h < 48) (hw : w < 2147483647) (P : PD fa ta ia sa ca od D X sup w p) (hV : V39 D X p) (hWho : Who X p) (h32 : mI p 1032 28 = nj (waH D X)) (h30 : aI p 30 h = tsH D X h) (h31 : aI p 31 h = nj (wkH D X h)) :
    ∃ p', P_Reckoning_worthBy (some (ta k)) (nj j) (nj h) p = some (woS D X sup k j h, p') ∧ mI p' 1041 28 = rtS D X sup k j ∧ CtP D (wgS D X sup k j h) p' ∧ PD fa ta ia sa ca od D X sup (w + 1) p' ∧ V39 D X p' ∧ Ch [1041, 1043, 1157] [4, 39, 40] (dy3 ta D.2.1) p p' ∧ mC p' = mC p ∧ mS p' = mS p := by
  have T1 := P.2.1.1
  have hlen := (rowQ_W (X := X) W hd hk).len Wi hn60
  have hj : j < 60 := by have := get_mem hz; omega
  have c0 : Ch [1041, 1043, 1157] [4, 39, 40] nil p (sI p 1043 28 0) := Ch.rfl.sI (by decide)
  have L := P.1
  obtain ⟨p1, a1, a2, a3, a4, a5⟩ := P_lookAt_e (D := D) (p := sI p 1043 28 0) (d := xd X) (f := xf X) (n := xn X) (h := h) (yrs := xy X) (wet := weH D X) hh (by rw [k_aI_sI, k_mI_sI (by omega), h30, h31, h32]; exact hV.at)
  rw [k_aI_sI, k_mI_sI (by omega), h30, h31, h32] at a2
  have a2' : ∀ j, j < 12 → aI p1 39 j = vH D X h j := a2
  have c1 : Ch [1041, 1043, 1157] [4, 39, 40] nil p p1 := c0.trans (a3.mono (by simp) (by simp) (fun _ h => h))
  have c1' : Ch [1043] [39] nil p p1 := (Ch.rfl.sI (by decide)).trans (a3.mono (by simp) (fun _ h => h) (fun _ h => h))
  have P1 := P.Ch c1'.dy (by decide) (by decide) (by decide) (Stm_keep P.2.2.2.1 L.2.1 P.2.1 c1' (by decide) (fun a ha => by simp; omega))
  have e27 : aI p1 27 0 = vS D (xf X) (xd X) (xn X) (xy X) 0 := P1.2.2.2.2.1.2.2.1 0 (by omega)
  obtain ⟨p2, b1, b2, b3, b4, b5⟩ := P_marginOf_e W Wi hn60 (fun k hk => bQ_W W hd hk) P1.1 P1.2.1 P1.2.2.1 P1.2.2.2.1 hw P1.2.2.2.2.1 hk hi hwk hz hz2
  have b1' : P_Scene_marginOf (some (ta k)) (nj j) p1 = some (mgH D X sup k j, p2) := b1
  have P2 := pd_mg P1 b3 b2
  have c3 : Ch [1041] [39] nil p2 (wI (sI p2 1041 28 (rtS D X sup k j)) 39 11 (rtS D X sup k j)) := (Ch.rfl.sI (by decide)).wI (Or.inl (by decide))
  have hC1 : mC p1 = mC p := by rw [a4, k_mC_sI]
  have P3 := P2.Ch c3.dy (by decide) (by decide) (by decide) (Stm_keep P2.2.2.2.1 P2.1.2.1 P2.2.1 c3 (by decide) (fun a ha => by simp; omega))
  have n3 : ∀ a, a < 50 → ¬ dy3 ta D.2.1 a := fun a ha ⟨l, hl, e⟩ => by have := (L.2.1.2.1 l hl).1; omega
  have e39 : aI p2 39 = aI p1 39 := b3.ai (by decide) (n3 _ (by omega)) (by omega)
  obtain ⟨who, w1, w2, w3⟩ := hWho
  have H3 : HoP (wI (sI p2 1041 28 (rtS D X sup k j)) 39 11 (rtS D X sup k j)) (vW D X sup k j h) (xt X) := by
    refine ⟨fun i hi => ?_, who, w1, ?_, ?_⟩
    · rw [k_aI_wI_e, up1_ap, k_aI_sI, e39]
      unfold vW
      by_cases q : i = 11
      · rw [if_pos q, if_pos q]
      · rw [if_neg q, if_neg q]; exact a2' i hi
    · rw [k_mI_wI, k_mI_sI (by omega), b3.i (by decide) (by omega), c1.i (by decide) (by omega)]; exact w2
    · rw [k_aI_wI (by omega), k_aI_sI, b3.ai (by decide) (n3 _ (by omega)) (by omega), c1.ai (by decide) nil_no (by omega)]; exact w3
  have e43 : mI (wI (sI p2 1041 28 (rtS D X sup k j)) 39 11 (rtS D X sup k j)) 1043 28 = nj 0 := by
    rw [k_mI_wI, k_mI_sI (by omega), b3.i (by decide) (by omega), a3.i List.not_mem_nil (by rw [k_mC_sI]; omega), k_mI_sI_e, up1_eq]
    rfl
  obtain ⟨p4, d1, d2, d3, d4, d5, d6⟩ := P_worthBy_70_e (vs := vW D X sup k j h) (tk := xt X) W Wi hn60 hd hk hi hwk (rowQ D X k).length 0 FU (wI (sI p2 1041 28 (rtS D X sup k j)) 39 11 (rtS D X sup k j)) 0 (by omega) (by unfold FU; omega) P3 H3 (fun u hu => by
    rw [zero64]
    exact ⟨fun y => (by cases y), fun y => (by cases y)⟩) ⟨e43, fun i c hc => by cases hc⟩
  have e41 : mI p4 1041 28 = rtS D X sup k j := by
    rw [d4.i (by decide) (by rw [k_mC_wI, k_mC_sI]; omega), k_mI_wI, k_mI_sI_e, up1_eq]
  refine ⟨p4, ?_, e41, d2, d3, fun i q x1 x2 x3 x4 x5 => ?_, ?_, by rw [d5, k_mC_wI, k_mC_sI]; omega, by rw [d6, k_mS_wI, k_mS_sI, b5, a5, k_mS_sI]⟩
  · unfold P_Reckoning_worthBy
    rw [vb_e, if_neg (by simp), if_neg (by rw [nj_ne_m1 (by omega)]; exact id), a1, bn_s]
    unfold P_Scene_basket
    rw [inb_lit (show (0 : Nat) < 2147483648 by omega), gd_t (by decide), bn_s, b1', bn_s, vb_e, ix_lit (show (0 : Nat) < 2147483648 by omega), e27, inb_lit (show (11 : Nat) < 2147483648 by omega), gd_t (by decide), vb_e, ix_lit (show (11 : Nat) < 2147483648 by omega), k_mI_sI_e, up1_eq]
    refine Eq.trans d1 ?_
    unfold P_Reckoning_worthBy_250
    rw [P_held_e, bp_s, e41]
    rfl
  · rw [d4.ai (by decide) nil_no (by rw [k_mC_wI, k_mC_sI]; omega), k_aI_wI_e, up1_ne x5, k_aI_sI, e39, a2' i q]
    exact vR_ind x1 x2 x3 x4
  · exact (((c1.dy).trans (b3.mono (by simp) (by simp) (fun _ h => h))).trans (c3.dy.mono (by simp) (by simp) (fun _ h => h))).trans (d4.dy.mono (by simp) (by simp) (fun _ h => h))
/-- the worth of a HALF by what g gives it -/
theorem P_worthO_e (W : WText D nc) (Wi : WItems D nc) (hn60 : nc ≤ 60) (hd : xd X < 140) {g : Nat → Option Nat} (hG : GW D X g) {h : Nat} (hh : h < 48) (hw : w < 2147483647) (P : PD fa ta ia sa ca od D X sup w p) (hV : V39 D X p) (hWho : Who X p) (h32 : mI p 1032 28 = nj (waH D X)) (h30 : aI p 30 h = tsH D X h) (h31 : aI p 31 h = nj (wkH D X h)) :
    ∃ p' w', P_Reckoning_worthBy ((g h).map ta) (jo (clH D X sup g h)) (nj h) p = some (wOp D X sup (g h) (clH D X sup g h) h, p') ∧ PD fa ta ia sa ca od D X sup w' p' ∧ w' ≤ w + 1 ∧ V39 D X p' ∧ Ch [1041, 1043, 1157] [4, 39, 40] (dy3 ta D.2.1) p p' ∧ mC p' = mC p ∧ mS p' = mS p ∧ ∀ k j, g h = some k → clH D X sup g h = some j → mI p' 1041 28 = rtS D X sup k j ∧ CtP D (wgS D X sup k j h) p' := by
  have c0 : Ch [1043] [] nil p (sI p 1043 28 0) := Ch.rfl.sI (by decide)
  have P0 := P.Ch c0.dy (by decide) (by decide) (by decide) (Stm_keep P.2.2.2.1 P.1.2.1 P.2.1 c0 (by decide) (fun a ha => List.not_mem_nil))
  have c0' : Ch [1041, 1043, 1157] [4, 39, 40] (dy3 ta D.2.1) p (sI p 1043 28 0) := Ch.rfl.sI (by decide)
  cases c : g h with
  | none =>
    refine ⟨sI p 1043 28 0, w, ?_, P0, by omega, hV, c0', k_mC_sI, k_mS_sI, fun k j e => (by cases e)⟩
    unfold P_Reckoning_worthBy
    rw [vb_e, if_pos (by rfl)]
    rfl
  | some k =>
    obtain ⟨hk, hi, hwk⟩ := hG h k c
    cases cj : clH D X sup g h with
    | none =>
      refine ⟨sI p 1043 28 0, w, ?_, P0, by omega, hV, c0', k_mC_sI, k_mS_sI, fun k j e e' => (by cases e')⟩
      unfold P_Reckoning_worthBy
      rw [vb_e, if_neg (by simp), if_pos (by rfl)]
      rfl
    | some j =>
      obtain ⟨z, hz, hz2⟩ := cl_some c cj
      obtain ⟨p', a1, a2, a3, a4, a5, a6, a7, a8⟩ := P_worthBy_e W Wi hn60 hd hk hi hwk hz hz2 hh hw P hV hWho h32 h30 h31
      refine ⟨p', w + 1, a1, a4, by omega, a5, a6, a7, a8, fun k' j' e e' => ?_⟩
      cases e
      cases e'
      exact ⟨a2, a3⟩
theorem PfH.Ch {F A : List Nat} {p' : Mem} {h : Nat} (H : PfH ta D X sup p h) (L : LText ta ia p D) (T : Top p) (c : Ch F A (dy3 ta D.2.1) p p') (hA : (A.all fun a => a < 30 || 36 < a) = true) : PfH ta D X sup p' h := by
  have T1 := T.1
  have n3 : ∀ a, a < 50 → ¬ dy3 ta D.2.1 a := fun a ha ⟨l, hl, e⟩ => by have := (L.2.1 l hl).1; omega
  have hA' : ∀ a, 30 ≤ a → a ≤ 36 → a ∉ A := fun a h1 h2 q => by
    have := List.all_eq_true.mp hA a q
    simp at this
    omega
  have i : ∀ a, 30 ≤ a → a ≤ 36 → aI p' a = aI p a ∧ aR p' a = aR p a := fun a h1 h2 => ⟨c.ai (hA' a h1 h2) (n3 a (by omega)) (by omega), c.ar (hA' a h1 h2) (n3 a (by omega)) (by omega)⟩
  unfold PfH
  rw [(i 30 (by omega) (by omega)).1, (i 31 (by omega) (by omega)).1, (i 32 (by omega) (by omega)).1, (i 33 (by omega) (by omega)).2, (i 34 (by omega) (by omega)).1, (i 35 (by omega) (by omega)).2, (i 36 (by omega) (by omega)).1]
  exact H
theorem wOp_none {h : Nat} {c : Option Nat} : wOp D X sup none c h = 0 := by
  unfold wOp
  rfl
theorem P_findPayer_e (W : WText D nc) (Wi : WItems D nc) (hn60 : nc ≤ 60) (hd : xd X < 140) {h : Nat} (hh : h < 48) (hw : w + 1 < 2147483647) (P : PD fa ta ia sa ca od D X sup w p) (hV : V39 D X p) (hWho : Who X p) (h32 : mI p 1032 28 = nj (waH D X)) (H : PfH ta D X sup p h) (h37 : aR p 37 h = none) :
    ∃ p' w', P_Reckoning_findPayer (nj h) p = some ((), p') ∧ PD fa ta ia sa ca od D X sup w' p' ∧ w' ≤ w + 2 ∧ V39 D X p' ∧ Ch [1041, 1043, 1157] [4, 37, 38, 39, 40] (dy3 ta D.2.1) p p' ∧ mC p' = mC p ∧ mS p' = mS p ∧ aR p' 37 h = (pyH D X sup h).map ta ∧ aI p' 38 h = jmax (wA D X sup h) (wG D X sup h) ∧ ∀ g, g ≠ h → aR p' 37 g = aR p 37 g ∧ aI p' 38 g = aI p 38 g := by
  have T1 := P.2.1.1
  obtain ⟨f1, f2, f3, f4, f5, f6, f7⟩ := id H
  obtain ⟨p1, w1, a1, a2, a3, a4, a5, a6, a7, -⟩ := P_worthO_e W Wi hn60 hd GW_aw hh (by omega) P hV hWho h32 f1 f2
  have n3 : ∀ a, a < 50 → ¬ dy3 ta D.2.1 a := fun a ha ⟨l, hl, e⟩ => by have := (P.1.2.1.2.1 l hl).1; omega
  have H1 := H.Ch P.1.2.1 P.2.1 a5 (by decide)
  obtain ⟨p2, w2, b1, b2, b3, b4, b5, b6, b7, -⟩ := P_worthO_e W Wi hn60 hd GW_ag hh (by omega) a2 a4 (hWho.Ch P.2.1 a5 (by decide) (by decide) (n3 _ (by omega))) (by rw [a5.i (by decide) (by omega)]; exact h32) H1.1 H1.2.1
  have gh : ∀ {β : Type} (c : Option β), gd (inb (nj h) 48) c = c := fun c => by rw [inb_nj (by omega), gd_t (decide_eq_true hh)]
  have ih : ix (nj h) = h := ix_nj (by omega)
  have c2 : Ch [1041, 1043, 1157] [4, 39, 40] (dy3 ta D.2.1) p p2 := a5.trans b5
  have H2 := H.Ch P.1.2.1 P.2.1 c2 (by decide)
  have r37 : aR p2 37 = aR p 37 := c2.ar (by decide) (n3 _ (by omega)) (by omega)
  have r38 : aI p2 38 = aI p 38 := c2.ai (by decide) (n3 _ (by omega)) (by omega)
  have c3 : Ch [] [38] nil p2 (wI p2 38 h (jmax (wA D X sup h) (wG D X sup h))) := Ch.rfl.wI (Or.inl (by decide))
  have P3 := b2.Ch c3.dy (by decide) (by decide) (by decide) (Stm_keep b2.2.2.2.1 b2.1.2.1 b2.2.1 c3 (by decide) (fun a ha => by simp; omega))
  have c3' : Ch [1041, 1043, 1157] [4, 37, 38, 39, 40] (dy3 ta D.2.1) p (wI p2 38 h (jmax (wA D X sup h) (wG D X sup h))) := (c2.mono (fun _ h => h) (by simp) (fun _ h => h)).trans (c3.dy.mono (by simp) (by simp) (fun _ h => h))
  have a1' : P_Reckoning_worthBy ((awH D X h).map ta) (jo (clH D X sup (awH D X) h)) (nj h) p = some (wA D X sup h, p1) := a1
  have b1' : P_Reckoning_worthBy ((agH D X h).map ta) (jo (clH D X sup (agH D X) h)) (nj h) p1 = some (wG D X sup h, p2) := b1
  have hst : P_Reckoning_findPayer (nj h) p = if jmax (wA D X sup h) (wG D X sup h) ≤ 0 then some ((), wI p2 38 h (jmax (wA D X sup h) (wG D X sup h))) else if wG D X sup h ≤ wA D X sup h then P_Reckoning_findPayer_81 ((awH D X h).map ta) (nj h) (wI p2 38 h (jmax (wA D X sup h) (wG D X sup h))) else P_Reckoning_findPayer_81 ((agH D X h).map ta) (nj h) (wI p2 38 h (jmax (wA D X sup h) (wG D X sup h))) := by
    unfold P_Reckoning_findPayer
    rw [gh, gh, ih, f4, f5, a1', bn_s, gh, gh, H1.2.2.2.2.2.1, H1.2.2.2.2.2.2, b1', bn_s, gh, vb_e, gh]
    rw [k_aI_wI_e, up1_eq, k_aR_wI, gh, gh, H2.2.2.2.1, H2.2.2.2.2.2.1]
  have v3 : V39 D X (wI p2 38 h (jmax (wA D X sup h) (wG D X sup h))) := fun i q x1 x2 x3 x4 x5 => by rw [k_aI_wI (by omega)]; exact b4 i q x1 x2 x3 x4 x5
  have fin : ∀ o : Option Nat, pyH D X sup h = o → (∀ k, o = some k → k < D.2.1) → P_Reckoning_findPayer (nj h) p = P_Reckoning_findPayer_81 (o.map ta) (nj h) (wI p2 38 h (jmax (wA D X sup h) (wG D X sup h))) → ∃ p' w', P_Reckoning_findPayer (nj h) p = some ((), p') ∧ PD fa ta ia sa ca od D X sup w' p' ∧ w' ≤ w + 2 ∧ V39 D X p' ∧ Ch [1041, 1043, 1157] [4, 37, 38, 39, 40] (dy3 ta D.2.1) p p' ∧ mC p' = mC p ∧ mS p' = mS p ∧ aR p' 37 h = (pyH D X sup h).map ta ∧ aI p' 38 h = jmax (wA D X sup h) (wG D X sup h) ∧ ∀ g, g ≠ h → aR p' 37 g = aR p 37 g ∧ aI p' 38 g = aI p 38 g := fun o ho hlt he => by
    have c4 : Ch [] [37] nil (wI p2 38 h (jmax (wA D X sup h) (wG D X sup h))) (wR (wI p2 38 h (jmax (wA D X sup h) (wG D X sup h))) 37 h (o.map ta)) := Ch.rfl.wR (Or.inl (by decide))
    have P4 := P3.Ch c4.dy (by decide) (by decide) (by decide) (Stm_keep P3.2.2.2.1 P3.1.2.1 P3.2.1 c4 (by decide) (fun a ha => by simp; omega))
    refine ⟨_, w2, ?_, P4, by omega, fun i q x1 x2 x3 x4 x5 => by rw [k_aI_wR]; exact v3 i q x1 x2 x3 x4 x5, c3'.trans (c4.dy.mono (by simp) (by simp) (fun _ h => h)), by rw [k_mC_wR, k_mC_wI]; omega, by rw [k_mS_wR, k_mS_wI]; omega, by rw [k_aR_wR_e, up1_eq, ho], by rw [k_aI_wR, k_aI_wI_e, up1_eq], fun g hg => ⟨by rw [k_aR_wR_e, up1_ne hg, k_aR_wI, r37], by rw [k_aI_wR, k_aI_wI_e, up1_ne hg, r38]⟩⟩
    rw [he]
    unfold P_Reckoning_findPayer_81
    rw [gh, ih]
    cases o with
    | none => rfl
    | some k =>
      show go _ (some (ta k)) 11 _ = _
      rw [go_s (by rw [k_mT_wI]; exact (b2.1.2.1.2.1 k (hlt k rfl)).2.1)]
      rfl
  by_cases q : jmax (wA D X sup h) (wG D X sup h) ≤ 0
  · have hp : pyH D X sup h = none := by unfold pyH; rw [if_pos q]
    refine ⟨_, w2, by rw [hst, if_pos q], P3, by omega, v3, c3', by rw [k_mC_wI]; omega, by rw [k_mS_wI]; omega, by rw [k_aR_wI, r37, h37, hp]; rfl, by rw [k_aI_wI_e, up1_eq], fun g hg => ⟨by rw [k_aR_wI, r37], by rw [k_aI_wI_e, up1_ne hg, r38]⟩⟩
  · rw [if_neg q] at hst
    by_cases q2 : wG D X sup h ≤ wA D X sup h
    · rw [if_pos q2] at hst
      exact fin (awH D X h) (by unfold pyH; rw [if_neg q, if_pos q2]) (fun k e => (GW_aw h k e).1) hst
    · rw [if_neg q2] at hst
      exact fin (agH D X h) (by unfold pyH; rw [if_neg q, if_neg q2]) (fun k e => (GW_ag h k e).1) hst
theorem py_none {h : Nat} (e : awH D X h = none) : agH D X h = none ∧ pyH D X sup h = none ∧ jmax (wA D X sup h) (wG D X sup h) = 0 := by
  have h1 : agH D X h = none := by unfold agH; rw [e]
  have h2 : wA D X sup h = 0 := by unfold wA; rw [e]; exact wOp_none
  have h3 : wG D X sup h = 0 := by unfold wG; rw [h1]; exact wOp_none
  refine ⟨h1, ?_, by rw [h2, h3]; rfl⟩
  unfold pyH
  rw [h2, h3, if_pos (by decide)]
theorem P_reckon_201_e (W : WText D nc) (Wi : WItems D nc) (hn60 : nc ≤ 60) (hd : xd X < 140) (hw : w + 96 < 2147483647) : ∀ (e h fu : Nat) (p : Mem) (w1 : Nat), h + e = 48 → e < fu → PD fa ta ia sa ca od D X sup w1 p → w1 ≤ w + 2 * h → V39 D X p → Who X p → mI p 1032 28 = nj (waH D X) → (∀ g, g < 48 → PfH ta D X sup p g) → (∀ g, g < h → aR p 37 g = (pyH D X sup g).map ta ∧ aI p 38 g = jmax (wA D X sup g) (wG D X sup g)) → (∀ g, h ≤ g → g < 48 → aR p 37 g = none ∧ aI p 38 g = 0) →
    ∃ p' w', P_Reckoning_reckon_201 fu (nj h) p = some ((), p') ∧ PD fa ta ia sa ca od D X sup w' p' ∧ w' ≤ w + 96 ∧ V39 D X p' ∧ (∀ g, g < 48 → PfH ta D X sup p' g ∧ aR p' 37 g = (pyH D X sup g).map ta ∧ aI p' 38 g = jmax (wA D X sup g) (wG D X sup g)) ∧ Ch [1041, 1043, 1157] [4, 37, 38, 39, 40] (dy3 ta D.2.1) p p' ∧ mC p' = mC p ∧ mS p' = mS p
  | 0, h, fu + 1, p, w1, he, _, P, hw1, hV, hWho, h32, H, H1, H2 => by
    refine ⟨p, w1, ?_, P, by omega, hV, fun g hg => ⟨H g hg, H1 g (by omega)⟩, Ch.rfl, rfl, rfl⟩
    rw [P_Reckoning_reckon_201.eq_2, if_pos (by rw [show (48 : Int32) = nj 48 from rfl, nj_le (by omega) (by omega)]; omega)]
  | e + 1, h, fu + 1, p, w1, he, hf, P, hw1, hV, hWho, h32, H, H1, H2 => by
    have T1 := P.2.1.1
    have n3 : ∀ a, a < 50 → ¬ dy3 ta D.2.1 a := fun a ha ⟨l, hl, e⟩ => by have := (P.1.2.1.2.1 l hl).1; omega
    rw [P_Reckoning_reckon_201.eq_2, if_neg (by rw [show (48 : Int32) = nj 48 from rfl, nj_le (by omega) (by omega)]; omega), inb_nj (by omega), gd_t (decide_eq_true (by omega)), ix_nj (by omega), (H h (by omega)).2.2.2.1]
    unfold P_Reckoning_reckon_224
    simp only [vb_e, nj_add_l]
    cases c : awH D X h with
    | none =>
      rw [if_pos (by rfl)]
      obtain ⟨-, y2, y3⟩ := py_none (sup := sup) c
      exact P_reckon_201_e W Wi hn60 hd hw e (h + 1) fu p w1 (by omega) (by omega) P (by omega) hV hWho h32 H (fun g hg => by
        by_cases q : g = h
        · rw [q, y2, y3]; exact H2 h (by omega) (by omega)
        · exact H1 g (by omega)) (fun g h1 h2 => H2 g (by omega) h2)
    | some k =>
      rw [if_neg (by simp)]
      obtain ⟨p1, w2, a1, a2, a3, a4, a5, a6, a7, a8, a9, a10⟩ := P_findPayer_e W Wi hn60 hd (show h < 48 by omega) (by omega) P hV hWho h32 (H h (by omega)) (H2 h (by omega) (by omega)).1
      rw [a1, bn_s]
      obtain ⟨p', w', b1, b2, b3, b4, b5, b6, b7, b8⟩ := P_reckon_201_e W Wi hn60 hd hw e (h + 1) fu p1 w2 (by omega) (by omega) a2 (by omega) a4 (hWho.Ch P.2.1 a5 (by decide) (by decide) (n3 _ (by omega))) (by rw [a5.i (by decide) (by omega)]; exact h32) (fun g hg => (H g hg).Ch P.1.2.1 P.2.1 a5 (by decide)) (fun g hg => by
        by_cases q : g = h
        · rw [q]; exact ⟨a8, a9⟩
        · rw [(a10 g q).1, (a10 g q).2]; exact H1 g (by omega)) (fun g h1 h2 => by rw [(a10 g (by omega)).1, (a10 g (by omega)).2]; exact H2 g (by omega) h2)
      exact ⟨p', w', b1, b2, b3, b4, b5, a5.trans b6, by omega, by omega⟩
end Py
