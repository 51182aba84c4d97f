/-! Layer C: the class binds the HALVES of a DAY -/
section Bl
variable {fa ta ia sa ca : Nat → Nat} {od : List Nat} {p : Mem} {D : Dt} {nc : Nat} {X : Dy}
theorem Who.Ch {F A : List Nat} {dy : Nat → Prop} {p' : Mem} (h : Who X p) (T : Top p) (c : Ch F A dy p p') (hF : 1026 ∉ F) (hA : 9 ∉ A) (hd : ¬ dy 9) : Who X p' := by
  have T1 := T.1
  obtain ⟨w, h1, h2, h3⟩ := h
  exact ⟨w, h1, by rw [c.i hF (by omega)]; exact h2, by rw [c.ai hA hd (by omega)]; exact h3⟩
theorem V39.at (hV : V39 D X p) {h : Nat} : ∀ j, j < 12 → j ≠ 5 → j ≠ 7 → j ≠ 8 → j ≠ 9 → j ≠ 11 → aI p 39 j = vH D X h j := fun j a b c d e f => by
  rw [hV j a b c d e f]
  exact vR_ind b c d e
theorem wrB_at {h : Nat} {v : Int32} {a g : Option Nat} : (∀ j, aI (wrB p h v a g) 32 j = if j = h then v else aI p 32 j) ∧ (∀ j, aR (wrB p h v a g) 33 j = if j = h then a else aR p 33 j) ∧ (∀ j, aR (wrB p h v a g) 35 j = if j = h then g else aR p 35 j) ∧ (∀ x, x ≠ 32 → aI (wrB p h v a g) x = aI p x) ∧ (∀ x, x ≠ 33 → x ≠ 35 → aR (wrB p h v a g) x = aR p x) ∧ mC (wrB p h v a g) = mC p ∧ mS (wrB p h v a g) = mS p := by
  unfold wrB
  refine ⟨fun j => ?_, fun j => ?_, fun j => ?_, fun x hx => ?_, fun x hx hy => ?_, ?_, ?_⟩
  · simp only [k_aI_wI_e, k_aI_wI, k_aI_wL, k_aI_wR, k_aI_sI, k_aI_sL, k_aI_sR, k_aI_nw, k_aL_wL_e, k_aL_wL, k_aL_wI, k_aL_wR, k_aL_sI, k_aL_sL, k_aL_sR, k_aL_nw, k_aR_wR_e, k_aR_wR, k_aR_wI, k_aR_wL, k_aR_sI, k_aR_sL, k_aR_sR, k_aR_nw, k_mI_sI_e, k_mI_sI, k_mI_wI, k_mI_wL, k_mI_wR, k_mI_sL, k_mI_sR, k_mI_nw, k_mL_sL_e, k_mL_sL, k_mL_wI, k_mL_wL, k_mL_wR, k_mL_sI, k_mL_sR, k_mL_nw, k_mR_sR_e, k_mR_sR, k_mR_wI, k_mR_wL, k_mR_wR, k_mR_sI, k_mR_sL, k_mR_nw, k_mT_wI, k_mT_wL, k_mT_wR, k_mT_sI, k_mT_sL, k_mT_sR, k_mT_nw, k_mN_wI, k_mN_wL, k_mN_wR, k_mN_sI, k_mN_sL, k_mN_sR, k_mN_nw, k_mC_wI, k_mC_wL, k_mC_wR, k_mC_sI, k_mC_sL, k_mC_sR, k_mC_nw, k_mS_wI, k_mS_wL, k_mS_wR, k_mS_sI, k_mS_sL, k_mS_sR, k_mS_nw, k_zF_1, k_zF_3, k_zF_11, k_zF_32, k_zF_36, k_zA_1, k_zA_3, k_zA_11, k_zA_32, k_zA_36, k_mT_fil, k_mN_fil, k_mI_fil, k_mL_fil, k_mR_fil, k_aL_fil, k_aR_fil, k_mC_fil, k_mS_fil, k_aI_fil_e, k_aI_fil, up1_ap]
  · rw [k_aR_wR (by omega), k_aR_wR_e, up1_ap, k_aR_wI]
  · rw [k_aR_wR_e, up1_ap, k_aR_wR (by omega), k_aR_wI]
  · rw [k_aI_wR, k_aI_wR, k_aI_wI hx]
  · rw [k_aR_wR hy, k_aR_wR hx, k_aR_wI]
  · simp only [k_aI_wI_e, k_aI_wI, k_aI_wL, k_aI_wR, k_aI_sI, k_aI_sL, k_aI_sR, k_aI_nw, k_aL_wL_e, k_aL_wL, k_aL_wI, k_aL_wR, k_aL_sI, k_aL_sL, k_aL_sR, k_aL_nw, k_aR_wR_e, k_aR_wR, k_aR_wI, k_aR_wL, k_aR_sI, k_aR_sL, k_aR_sR, k_aR_nw, k_mI_sI_e, k_mI_sI, k_mI_wI, k_mI_wL, k_mI_wR, k_mI_sL, k_mI_sR, k_mI_nw, k_mL_sL_e, k_mL_sL, k_mL_wI, k_mL_wL, k_mL_wR, k_mL_sI, k_mL_sR, k_mL_nw, k_mR_sR_e, k_mR_sR, k_mR_wI, k_mR_wL, k_mR_wR, k_mR_sI, k_mR_sL, k_mR_nw, k_mT_wI, k_mT_wL, k_mT_wR, k_mT_sI, k_mT_sL, k_mT_sR, k_mT_nw, k_mN_wI, k_mN_wL, k_mN_wR, k_mN_sI, k_mN_sL, k_mN_sR, k_mN_nw, k_mC_wI, k_mC_wL, k_mC_wR, k_mC_sI, k_mC_sL, k_mC_sR, k_mC_nw, k_mS_wI, k_mS_wL, k_mS_wR, k_mS_sI, k_mS_sL, k_mS_sR, k_mS_nw, k_zF_1, k_zF_3, k_zF_11, k_zF_32, k_zF_36, k_zA_1, k_zA_3, k_zA_11, k_zA_32, k_zA_36, k_mT_fil, k_mN_fil, k_mI_fil, k_mL_fil, k_mR_fil, k_aL_fil, k_aR_fil, k_mC_fil, k_mS_fil, k_aI_fil_e, k_aI_fil]
  · simp only [k_aI_wI_e, k_aI_wI, k_aI_wL, k_aI_wR, k_aI_sI, k_aI_sL, k_aI_sR, k_aI_nw, k_aL_wL_e, k_aL_wL, k_aL_wI, k_aL_wR, k_aL_sI, k_aL_sL, k_aL_sR, k_aL_nw, k_aR_wR_e, k_aR_wR, k_aR_wI, k_aR_wL, k_aR_sI, k_aR_sL, k_aR_sR, k_aR_nw, k_mI_sI_e, k_mI_sI, k_mI_wI, k_mI_wL, k_mI_wR, k_mI_sL, k_mI_sR, k_mI_nw, k_mL_sL_e, k_mL_sL, k_mL_wI, k_mL_wL, k_mL_wR, k_mL_sI, k_mL_sR, k_mL_nw, k_mR_sR_e, k_mR_sR, k_mR_wI, k_mR_wL, k_mR_wR, k_mR_sI, k_mR_sL, k_mR_nw, k_mT_wI, k_mT_wL, k_mT_wR, k_mT_sI, k_mT_sL, k_mT_sR, k_mT_nw, k_mN_wI, k_mN_wL, k_mN_wR, k_mN_sI, k_mN_sL, k_mN_sR, k_mN_nw, k_mC_wI, k_mC_wL, k_mC_wR, k_mC_sI, k_mC_sL, k_mC_sR, k_mC_nw, k_mS_wI, k_mS_wL, k_mS_wR, k_mS_sI, k_mS_sL, k_mS_sR, k_mS_nw, k_zF_1, k_zF_3, k_zF_11, k_zF_32, k_zF_36, k_zA_1, k_zA_3, k_zA_11, k_zA_32, k_zA_36, k_mT_fil, k_mN_fil, k_mI_fil, k_mL_fil, k_mR_fil, k_aL_fil, k_aR_fil, k_mC_fil, k_mS_fil, k_aI_fil_e, k_aI_fil]
theorem PbH.mv {F A : List Nat} {p' : Mem} {g : Nat} (H : PbH ta D X p g) (T : Top p) (c : Ch F A nil p p') (hA : 30 ∉ A ∧ 31 ∉ A ∧ 34 ∉ A ∧ 36 ∉ A ∧ 37 ∉ A ∧ 38 ∉ A) (e : aI p' 32 g = aI p 32 g ∧ aR p' 33 g = aR p 33 g ∧ aR p' 35 g = aR p 35 g) : PbH ta D X p' g := by
  have T1 := T.1
  unfold PbH
  rw [c.ai hA.1 nil_no (by omega), c.ai hA.2.1 nil_no (by omega), c.ai hA.2.2.1 nil_no (by omega), c.ai hA.2.2.2.1 nil_no (by omega), c.ar hA.2.2.2.2.1 nil_no (by omega), c.ai hA.2.2.2.2.2 nil_no (by omega), e.1, e.2.1, e.2.2]
  exact H
theorem TkH.mv {F A : List Nat} {p' : Mem} {g : Nat} (H : TkH D X p g) (T : Top p) (c : Ch F A nil p p') (hA : 30 ∉ A ∧ 31 ∉ A ∧ 34 ∉ A ∧ 36 ∉ A ∧ 37 ∉ A ∧ 38 ∉ A) (e : aI p' 32 g = aI p 32 g ∧ aR p' 33 g = aR p 33 g ∧ aR p' 35 g = aR p 35 g) : TkH D X p' g := by
  have T1 := T.1
  unfold TkH
  rw [c.ai hA.1 nil_no (by omega), c.ai hA.2.1 nil_no (by omega), c.ai hA.2.2.1 nil_no (by omega), c.ai hA.2.2.2.1 nil_no (by omega), c.ar hA.2.2.2.2.1 nil_no (by omega), c.ai hA.2.2.2.2.2 nil_no (by omega), e.1, e.2.1, e.2.2]
  exact H
theorem P_bind_e (W : WText D nc) (Wi : WItems D nc) (L : Lk fa ta ia sa ca od p D) (T : Top p) (hp : PL p) {h : Nat} (hh : h < 48) (hV : V39 D X p) (hw : Who X p) (h32 : mI p 1032 28 = nj (waH D X)) (hI : ∀ k, k < D.2.1 → mI p 1287 (ta k) = tI (inH D X k)) (H : TkH D X p h) (ht : isTk (tsH D X h) = true) :
    ∃ p', P_Reckoning_bind (nj h) p = some ((), p') ∧ PbH ta D X p' h ∧ (∀ g, g ≠ h → aI p' 32 g = aI p 32 g ∧ aR p' 33 g = aR p 33 g ∧ aR p' 35 g = aR p 35 g) ∧ Ch [1295] [4, 32, 33, 35, 39] nil p p' ∧ V39 D X p' ∧ mC p' = mC p ∧ mS p' = mS p := by
  obtain ⟨g1, g2, g3, g4, g5, g6, g7, g8, g9⟩ := H
  have T1 := T.1
  have h24 := W.1
  obtain ⟨p1, a1, a2, a3, a4, a5⟩ := P_lookAt_e (D := D) (p := p) (d := xd X) (f := xf X) (n := xn X) (yrs := xy X) (wet := weH D X) hh (by rw [g1, g2, h32]; exact hV.at)
  rw [g1, g2, h32] at a2
  have a2' : ∀ j, j < 12 → aI p1 39 j = vH D X h j := a2
  obtain ⟨who, w1, w2, w3⟩ := hw
  have c1 : Ch [1295] [4, 39] nil p p1 := a3.mono (by simp) (by simp) (fun _ h => h)
  have ht' : ∀ k, k < D.2.1 → ta k < mC p := fun k hk => T.lt (by rw [(L.2.1.2.1 k hk).2.1]; decide)
  have L1 := L.Ch T c1.dy (by decide) (by decide)
  obtain ⟨p2, b1, b2, b3, b4, b5⟩ := P_bind_9_e W Wi (vs := vH D X h) (tk := xt X) (inf := inH D X) (x1 := nj h) D.2.1 0 FU p1 (by omega) (by unfold FU; omega) L1 (T.Ch c1) (hp.Ch c1 (by decide)) ⟨a2', who, w1, by rw [c1.i (by decide) (by omega)]; exact w2, by rw [c1.ai (by decide) nil_no (by omega)]; exact w3⟩ (fun k hk => by rw [a3.i (by decide) (ht' k hk)]; exact hI k hk) (fun k hk => by simp at hk)
  have c2 : Ch [1295] [4, 39] nil p p2 := c1.trans (b3.mono (fun _ h => h) (by simp) (fun _ h => h))
  have L2 := L.Ch T c2.dy (by decide) (by decide)
  have hbind : P_Reckoning_bind (nj h) p = P_Reckoning_bind_96 (nj h) (nj (cB (aB D (inH D X) (vH D X h) (xt X)) D.2.1)) p2 := by
    unfold P_Reckoning_bind
    rw [a1, bn_s]
    exact b1
  have hC : mC p2 = mC p := by omega
  have hS : mS p2 = mS p := by omega
  have v39 : V39 D X p2 := fun j q a b c d e => by
    rw [b3.ai (by decide) nil_no (by omega), a2' j q]
    exact vR_ind a b c d
  have r : ∀ x, x ≠ 4 → x ≠ 39 → x < 51 → aI p2 x = aI p x ∧ aR p2 x = aR p x := fun x q1 q2 q3 => ⟨c2.ai (by simp; omega) nil_no (by omega), c2.ar (by simp; omega) nil_no (by omega)⟩
  have fin : ∀ v a g, pbH D X h = v → (awH D X h).map ta = a → (agH D X h).map ta = g → P_Reckoning_bind_96 (nj h) (nj (cB (aB D (inH D X) (vH D X h) (xt X)) D.2.1)) p2 = some ((), wrB p2 h v a g) → ∃ p', P_Reckoning_bind (nj h) p = some ((), p') ∧ PbH ta D X p' h ∧ (∀ g, g ≠ h → aI p' 32 g = aI p 32 g ∧ aR p' 33 g = aR p 33 g ∧ aR p' 35 g = aR p 35 g) ∧ Ch [1295] [4, 32, 33, 35, 39] nil p p' ∧ V39 D X p' ∧ mC p' = mC p ∧ mS p' = mS p := fun v a g e1 e2 e3 e4 => by
    obtain ⟨y1, y2, y3, y4, y5, y6, y7⟩ := wrB_at (p := p2) (h := h) (v := v) (a := a) (g := g)
    refine ⟨wrB p2 h v a g, hbind.trans e4, ?_, fun x hx => ⟨?_, ?_, ?_⟩, (c2.mono (fun _ h => h) (by simp) (fun _ h => h)).trans (wrB_Ch.mono (by simp) (by simp) (fun _ h => h)), fun j q a b c d e => ?_, y6.trans hC, y7.trans hS⟩
    · unfold PbH
      rw [y1, y2, y3, y4 30 (by omega), y4 31 (by omega), y4 34 (by omega), y4 36 (by omega), y5 37 (by omega) (by omega), y4 38 (by omega), if_pos rfl, if_pos rfl, if_pos rfl, (r 30 (by omega) (by omega) (by omega)).1, (r 31 (by omega) (by omega) (by omega)).1, (r 34 (by omega) (by omega) (by omega)).1, (r 36 (by omega) (by omega) (by omega)).1, (r 37 (by omega) (by omega) (by omega)).2, (r 38 (by omega) (by omega) (by omega)).1]
      exact ⟨g1, g2, e1.symm, e2.symm, g5, e3.symm, g7, g8, g9⟩
    · rw [y1, if_neg hx, (r 32 (by omega) (by omega) (by omega)).1]
    · rw [y2, if_neg hx, (r 33 (by omega) (by omega) (by omega)).2]
    · rw [y3, if_neg hx, (r 35 (by omega) (by omega) (by omega)).2]
    · rw [y4 39 (by omega)]; exact v39 j q a b c d e
  rcases P_bind_96_e L2 (T.Ch c2) W Wi b2 hh with ⟨q, e⟩ | ⟨q1, q2, e⟩ | ⟨q1, q2, b, q3, q4, e⟩
  · have hn : awH D X h = none := by
      unfold awH
      rw [if_neg (fun z => z.2.1 q)]
    refine ⟨p2, hbind.trans e, ?_, fun x hx => ⟨?_, ?_, ?_⟩, c2.mono (fun _ h => h) (by simp) (fun _ h => h), v39, hC, hS⟩
    · unfold PbH pbH agH
      rw [hn, (r 30 (by omega) (by omega) (by omega)).1, (r 31 (by omega) (by omega) (by omega)).1, (r 32 (by omega) (by omega) (by omega)).1, (r 33 (by omega) (by omega) (by omega)).2, (r 34 (by omega) (by omega) (by omega)).1, (r 35 (by omega) (by omega) (by omega)).2, (r 36 (by omega) (by omega) (by omega)).1, (r 37 (by omega) (by omega) (by omega)).2, (r 38 (by omega) (by omega) (by omega)).1]
      refine ⟨g1, g2, ?_, g4, g5, g6, g7, g8, g9⟩
      show _ = boH D X h
      unfold boH bnS
      rw [if_pos ht, if_pos (show cB (bH D X h) D.2.1 = 0 from q)]
      exact g3
    · rw [(r 32 (by omega) (by omega) (by omega)).1]
    · rw [(r 33 (by omega) (by omega) (by omega)).2]
    · rw [(r 35 (by omega) (by omega) (by omega)).2]
  · have hn : awH D X h = none := by
      unfold awH
      rw [if_neg (fun z => q2 z.2.2)]
    refine fin (-2) none none ?_ (by rw [hn]; rfl) (by unfold agH; rw [hn]; rfl) e
    unfold pbH
    rw [hn]
    show boH D X h = _
    unfold boH bnS
    rw [if_pos ht, if_neg (show ¬ cB (bH D X h) D.2.1 = 0 from q1), if_neg (show ¬ cB (fun k => bH D X h k && !unS D (bH D X h) k) D.2.1 = 1 from q2)]
  · have hn : awH D X h = some b := by
      unfold awH
      rw [if_pos ⟨ht, q1, q2⟩]
      exact q4
    refine fin _ _ _ ?_ (by rw [hn]; rfl) ?_ e
    · unfold pbH
      rw [hn]
    · unfold agH
      rw [hn]
theorem P_reckon_142_e (W : WText D nc) (Wi : WItems D nc) : ∀ (e h fu : Nat) (p : Mem), h + e = 48 → e < fu → Lk fa ta ia sa ca od p D → Top p → PL p → V39 D X p → Who X p → mI p 1032 28 = nj (waH D X) → (∀ k, k < D.2.1 → mI p 1287 (ta k) = tI (inH D X k)) → (∀ g, g < h → PbH ta D X p g) → (∀ g, h ≤ g → g < 48 → TkH D X p g) →
    ∃ p', P_Reckoning_reckon_142 fu (nj h) p = P_Reckoning_reckon_174 p' ∧ (∀ g, g < 48 → PbH ta D X p' g) ∧ V39 D X p' ∧ Ch [1295] [4, 32, 33, 35, 39] nil p p' ∧ mC p' = mC p ∧ mS p' = mS p
  | 0, h, fu + 1, p, he, _, L, T, hp, hV, hw, h32, hI, HP, HT => by
    refine ⟨p, ?_, by rw [show 48 = h by omega]; exact HP, hV, Ch.rfl, rfl, rfl⟩
    rw [P_Reckoning_reckon_142.eq_2, if_pos (by rw [show (48 : Int32) = nj 48 from rfl, nj_le (by omega) (by omega)]; omega)]
  | e + 1, h, fu + 1, p, he, hf, L, T, hp, hV, hw, h32, hI, HP, HT => by
    have T1 := T.1
    have H := HT h (by omega) (by omega)
    have ht' : ∀ k, k < D.2.1 → ta k < mC p := fun k hk => T.lt (by rw [(L.2.1.2.1 k hk).2.1]; decide)
    rw [P_Reckoning_reckon_142.eq_2, if_neg (by rw [show (48 : Int32) = nj 48 from rfl, nj_le (by omega) (by omega)]; omega), inb_nj (by omega), gd_t (decide_eq_true (by omega)), ix_nj (by omega), H.1, P_isTask_k, bp_s]
    unfold P_Reckoning_reckon_168
    simp only [vb_e, nj_add_l]
    cases c : isTk (tsH D X h) with
    | false =>
      rw [if_pos (by rfl)]
      exact P_reckon_142_e W Wi e (h + 1) fu p (by omega) (by omega) L T hp hV hw h32 hI (fun g hg => by
        by_cases q : g = h
        · rw [q]; exact H.no c
        · exact HP g (by omega)) (fun g h1 h2 => HT g (by omega) h2)
    | true =>
      rw [if_neg (by decide)]
      obtain ⟨p1, a1, a2, a3, a4, a5, a6, a7⟩ := P_bind_e W Wi L T hp (by omega) hV hw h32 hI H c
      rw [a1, bn_s]
      obtain ⟨p', b1, b2, b3, b4, b5, b6⟩ := P_reckon_142_e W Wi e (h + 1) fu p1 (by omega) (by omega) (L.Ch T a4.dy (by decide) (by decide)) (T.Ch a4) (hp.Ch a4 (by decide)) a5 (hw.Ch T a4 (by decide) (by decide) nil_no) (by rw [a4.i (by decide) (by omega)]; exact h32) (fun k hk => by rw [a4.i (by decide) (ht' k hk)]; exact hI k hk) (fun g hg => by
        by_cases q : g = h
        · rw [q]; exact a2
        · exact (HP g (by omega)).mv T a4 (by decide) (a3 g q)) (fun g h1 h2 => (HT g (by omega) h2).mv T a4 (by decide) (a3 g (by omega)))
      exact ⟨p', b1, b2, b3, a4.trans b4, by omega, by omega⟩
end Bl
