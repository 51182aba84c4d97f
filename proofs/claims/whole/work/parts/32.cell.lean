/-! Layer C: cells of the last row -/
def upC (D : Dt) (j : Nat) (v : Int32) : Dt := (fun x i => if x = 49 ∧ i = j then v else D.1 x i, D.2)
section Ce
variable {nc : Nat} {p r : Mem} {D : Dt} {j : Nat} {v : Int32}
theorem upC_o {x i : Nat} (h : x ≠ 49) : (upC D j v).1 x i = D.1 x i := if_neg (fun z => h z.1)
theorem upC_49 {i : Nat} : (upC D j v).1 49 i = if i = j then v else D.1 49 i := by
  unfold upC
  by_cases q : i = j
  · show (if 49 = 49 ∧ i = j then v else D.1 49 i) = _
    rw [if_pos ⟨rfl, q⟩, if_pos q]
  · show (if 49 = 49 ∧ i = j then v else D.1 49 i) = _
    rw [if_neg (fun z => q z.2), if_neg q]
theorem dat_cell : dat (sI (sI (wI r 49 j v) 1612 0 (-1)) 1627 0 (-1)) = upC (dat r) j v := by
  refine Prod.ext ?_ ?_
  · funext x i
    unfold dat
    simp only [k_mI_sI (show 1554 ≠ 1627 by omega), k_mI_sI (show 1554 ≠ 1612 by omega), k_mI_wI, k_aI_sI]
    by_cases q : x = 49
    · subst q
      have : msk (ix (mI r 1554 0)) 49 i = true := by unfold msk; simp
      rw [upC_49, k_aI_wI_e]
      simp only [this, if_true, up1_ap]
    · rw [upC_o q, k_aI_wI q]
  · unfold dat upC
    simp only [k_mI_sI (show 1554 ≠ 1627 by omega), k_mI_sI (show 1554 ≠ 1612 by omega), k_mI_sI (show 1601 ≠ 1627 by omega), k_mI_sI (show 1601 ≠ 1612 by omega), k_mI_wI]
theorem upC_seg {x y : Nat} : segS (upC D j v) x y = segS D x y := by
  unfold segS
  congr 1
theorem WText.cell (W : WText D nc) : WText (upC D j v) nc := by
  have e : ∀ x i, x ≠ 49 → (upC D j v).1 x i = D.1 x i := fun x i h => upC_o h
  unfold WText
  simp only [e _ _ (show 8 ≠ 49 by omega), e _ _ (show 9 ≠ 49 by omega), e _ _ (show 10 ≠ 49 by omega), e _ _ (show 11 ≠ 49 by omega), e _ _ (show 12 ≠ 49 by omega), e _ _ (show 13 ≠ 49 by omega), e _ _ (show 14 ≠ 49 by omega), e _ _ (show 44 ≠ 49 by omega), e _ _ (show 45 ≠ 49 by omega)]
  exact W
theorem WF1.cell {i : Nat} (W : WF1 D nc i) (hv : -1 ≤ v ∧ v ≤ 16) : WF1 (upC D j v) nc i := by
  have e : ∀ x i, x ≠ 49 → (upC D j v).1 x i = D.1 x i := fun x i h => upC_o h
  obtain ⟨k, g1, g2, g3, g4, g5, g6, g7, g8, g9⟩ := W
  unfold WF1
  simp only [e _ _ (show 12 ≠ 49 by omega), e _ _ (show 44 ≠ 49 by omega), e _ _ (show 45 ≠ 49 by omega), e _ _ (show 46 ≠ 49 by omega), e _ _ (show 47 ≠ 49 by omega), e _ _ (show 48 ≠ 49 by omega)]
  refine ⟨k, g1, g2, g3, g4, g5, fun q => ?_, g7, g8, g9⟩
  obtain ⟨x, y, h1, h2, h3, h4, h5, h6⟩ := g6 q
  refine ⟨x, y, h1, h2, h3, h4, h5, fun h hh => ?_⟩
  rw [upC_49]
  by_cases z : 48 * i + h = j
  · rw [if_pos z]; exact hv
  · rw [if_neg z]; exact h6 h hh
theorem segS_eqD {D' : Dt} (e : ∀ x, x < 49 → D'.1 x = D.1 x) {x y : Nat} : segS D' x y = segS D x y := by
  unfold segS
  rw [e 33 (by omega), e 34 (by omega)]
theorem litS_eqD {D' : Dt} (e : ∀ x, x < 49 → D'.1 x = D.1 x) {nt : Nat → Nat} {l : Nat} : litS D' nt l = litS D nt l := by
  unfold litS
  rw [e 27 (by omega), e 34 (by omega), e 30 (by omega), e 31 (by omega), e 32 (by omega), segS_eqD e, segS_eqD e]
theorem conS_eqD {D' : Dt} (e : ∀ x, x < 49 → D'.1 x = D.1 x) {nt : Nat → Nat} : ∀ (pa po : Bool) (l : List Nat), conS D' nt pa po l = conS D nt pa po l
  | _, _, [] => rfl
  | pa, po, [l] => by
    unfold conS
    rw [litS_eqD e]
  | pa, po, l :: l2 :: r => by
    unfold conS
    rw [litS_eqD e, e 29 (by omega), conS_eqD e false true (l2 :: r), conS_eqD e true po (l2 :: r)]
theorem claimS_eqD {D' : Dt} (e : ∀ x, x < 49 → D'.1 x = D.1 x) {s aw nm : Int32} : ∀ n, claimS D' s aw nm n = claimS D s aw nm n
  | 0 => rfl
  | n + 1 => by
    unfold claimS
    rw [e 44 (by omega), e 45 (by omega), e 46 (by omega), e 48 (by omega), claimS_eqD e n]
theorem ItemAt.eqD {D' : Dt} (e : ∀ x, x < 49 → D'.1 x = D.1 x) {k i a s c : Nat} (h : ItemAt p D k i a s c) : ItemAt p D' k i a s c := by
  have e1 : logS D' k i = logS D k i := by
    unfold logS
    rw [e 12 (by omega), e 13 (by omega), e 16 (by omega), claimS_eqD e]
  have e2 : ansS D' k i = ansS D k i := by
    unfold ansS
    rw [e 12 (by omega), e 13 (by omega), e 16 (by omega), claimS_eqD e]
  unfold ItemAt
  simp only [e 12 (by omega), e 15 (by omega), e 16 (by omega), e 17 (by omega), e 18 (by omega), e 19 (by omega), e 20 (by omega), e 21 (by omega), e 22 (by omega), e 23 (by omega), e 24 (by omega), e 25 (by omega), e 26 (by omega), e 28 (by omega), segS_eqD e, conS_eqD e, e1, e2]
  exact h
theorem ItemAt.cell {k i a s c : Nat} (h : ItemAt p D k i a s c) : ItemAt p (upC D j v) k i a s c := h.eqD fun x hx => funext fun i => upC_o (by omega)
variable {fa ta ia sa ca : Nat → Nat} {od : List Nat}
/-- a cell of the last row is written -/
theorem Lk.cell {l i : Nat} (L : Lk fa ta ia sa ca od p D) (T : Top p) (hl : l < D.2.2) (h6 : D.1 44 l = 6) (hi : i < 48) : Lk fa ta ia sa ca od (wI p (fa l + 1) i v) (upC D (48 * l + i) v) ∧ Ch [] [] (fun a => a = fa l + 1) p (wI p (fa l + 1) i v) := by
  obtain ⟨L1, L2, L3, L4, L5⟩ := L
  have C : Ch [] [] (fun a => a = fa l + 1) p (wI p (fa l + 1) i v) := Ch.rfl.wI (Or.inr rfl)
  have Fl := (L1.2 l hl).2.1
  refine ⟨⟨⟨L1.1, fun k hk => ?_⟩, ?_, ?_, ?_, L5⟩, C⟩
  · obtain ⟨z1, z2, z3, z4⟩ := L1.2 k hk
    refine ⟨z1, ?_, z3, z4⟩
    by_cases q : k = l
    · subst q
      obtain ⟨g1, g2, g3, g4, g5, g6, g7, g8, g9, g10, g11⟩ := z2
      refine ⟨g1, g2, g3, g4, g5, g6, g7, g8, fun z => ?_, g10, g11⟩
      obtain ⟨y1, n, y2, y3, y4, y5⟩ := g9 h6
      refine ⟨y1, n, y2, y3, y4, fun h hh => ?_⟩
      rw [k_aI_wI_e, up1_ap, upC_49]
      by_cases w : h = i
      · rw [if_pos w, if_pos (by omega)]
      · rw [if_neg w, if_neg (by omega)]; exact y5 h hh
    · have hne : fa k + 1 ≠ fa l + 1 := fun e => q (z4 l hl (by omega))
      have z2' := z2.Ch T C (fun _ _ => List.not_mem_nil) List.not_mem_nil hne
      obtain ⟨g1, g2, g3, g4, g5, g6, g7, g8, g9, g10, g11⟩ := z2'
      refine ⟨g1, g2, g3, g4, g5, g6, g7, g8, fun z => ?_, g10, g11⟩
      obtain ⟨y1, n, y2, y3, y4, y5⟩ := g9 z
      refine ⟨y1, n, y2, y3, y4, fun h hh => ?_⟩
      rw [upC_49, if_neg (by omega)]
      exact y5 h hh
  · refine L2.Ch T C (fun _ _ => List.not_mem_nil) (fun _ _ => List.not_mem_nil) fun k hk => ?_
    have := L2.2.1 k hk
    intro e
    have h1 := this.2.2.2.2.2.2.2.2.2.1
    rw [e, Fl.2.2.2.1] at h1
    exact absurd h1 (by decide)
  · exact L3.Ch T C List.not_mem_nil (by have := Fl.1; omega)
  · refine fun k q hk hq => ItemAt.cell (L4.Ch T C (fun _ _ _ => List.not_mem_nil) (fun _ _ => List.not_mem_nil) (fun k q hk hq => ?_) k q hk hq)
    obtain ⟨-, -, z3, z4⟩ := L5.1 k q hk hq
    exact ⟨fun e => z3 ⟨l, hl, e⟩, fun e => z4 ⟨l, hl, e⟩⟩
theorem st_cell (h : Core nc p r) (x y : Int32) : ∃ v p' r', P_cell x y p = some (v, p') ∧ R_cell x y r = some (v, r') ∧ Core nc p' r' ∧ Ch [] [] (fun a => 51 ≤ a) p p' ∧ Ch [1612, 1627] [49] nil r r' ∧ mC p' = mC p ∧ mS p' = mS p ∧ (r' = r ∨ (mI r' 1612 0 = -1 ∧ mI r' 1627 0 = -1)) := by
  have hfr := h.rfc
  have hfp := h.fc
  have h160 := h.f160
  obtain ⟨T, C2, W1, W2, e1, e2, e3, e4, e5, fa, ta, ia, sa, ca, od, L, hSc⟩ := id h
  have no : P_cell x y p = some (0, p) → R_cell x y r = some (0, r) → ∃ v p' r', P_cell x y p = some (v, p') ∧ R_cell x y r = some (v, r') ∧ Core nc p' r' ∧ Ch [] [] (fun a => 51 ≤ a) p p' ∧ Ch [1612, 1627] [49] nil r r' ∧ mC p' = mC p ∧ mS p' = mS p ∧ (r' = r ∨ (mI r' 1612 0 = -1 ∧ mI r' 1627 0 = -1)) :=
    fun a b => ⟨0, p, r, a, b, h, Ch.rfl, Ch.rfl, rfl, rfl, Or.inl rfl⟩
  by_cases q0 : (dat r).2.2 = 0
  · refine no ?_ ?_
    · unfold P_cell
      rw [hfp, q0, P_factAt_e L.1 h160, q0, if_neg (by decide), bn_s, if_pos rfl]
    · unfold R_cell
      rw [hfr, q0, if_pos (by decide)]
  · obtain ⟨l, hl⟩ : ∃ l, (dat r).2.2 = l + 1 := ⟨(dat r).2.2 - 1, by omega⟩
    have hl' : l < (dat r).2.2 := by omega
    obtain ⟨z1, z2, z3, z4⟩ := L.1.2 l hl'
    have ePl : nj (dat r).2.2 - 1 = nj l := by rw [hl, nj_sub_l (by omega)]; rfl
    have hP : P_cell x y p = if (dat r).1 44 l = 6 then (
      bp (P_within x 0 ((Int32.ofNat (mN p (fa l + 1))) - 1)) fun r12 =>
      if r12 = 0 then some (0, p) else if y = (-1) then P_cell_67 x y (some (fa l)) p else if y = 16 then P_cell_67 x y (some (fa l)) p else
      bp (P_isTask y) fun r16 => if r16 = 0 then some (0, p) else P_cell_67 x y (some (fa l)) p) else some (0, p) := by
      unfold P_cell
      rw [hfp, ePl, P_factAt_e L.1 h160, if_pos ⟨nj_0le (by omega), by rw [nj_lt (by omega) (by omega)]; exact hl'⟩, bn_s, if_neg (by simp), gs_s, ix_nj (by omega), gt_t z2.2.1, z2.2.2.2.2.1, z2.2.2.1, gs_s, gt_t z2.2.2.2.1]
    have hR : R_cell x y r = if (dat r).1 44 l = 6 then (if x < 0 then some (0, r) else if (dat r).1 48 l ≤ x then some (0, r) else
      bp (R_in y (-1) 16) fun r7 => if r7 = 0 then some (0, r) else gd (inb ((48 * (nj l)) + x) 7680) <| bn (R_changed (wI r 49 (ix ((48 * (nj l)) + x)) y)) fun _ m14 => some (1, m14)) else some (0, r) := by
      unfold R_cell
      rw [hfr, if_neg (by rw [nj_eq_l (by omega) (by omega)]; exact q0), ePl, inb_nj (by omega), gd_t (decide_eq_true (by omega)), gd_t (decide_eq_true (by omega)), ix_nj (by omega), dat_44 (by omega), dat_44 (by omega)]
      rfl
    by_cases q6 : (dat r).1 44 l = 6
    · obtain ⟨y1, n, y2, y3, y4, y5⟩ := z2.2.2.2.2.2.2.2.2.1 q6
      rw [if_pos q6, y2] at hP
      rw [if_pos q6] at hR
      have eN : P_within x 0 (Int32.ofNat n - 1) = some (tI (decide (0 ≤ x ∧ x < nj n))) := by
        show P_within x 0 (nj n - 1) = _
        rw [P_within_e]
        simp only [has_e (nj_0le (k := n) (by omega)) (nj_ub (k := n) (b := 1000) (by omega) (by omega))]
      rw [eN, bp_s] at hP
      by_cases q1 : 0 ≤ x ∧ x < nj n
      · obtain ⟨i, hi, rfl⟩ := nj_in' (by omega) q1
        have eV : (dat r).1 48 l = nj n := by
          rcases y4 with ⟨-, y4⟩ | y4
          · omega
          · exact y4
        rw [if_neg (by simp [tI, q1])] at hP
        rw [if_neg (Int32.not_lt.mpr q1.1), eV, if_neg (Int32.not_le.mpr q1.2), R_in_e, bp_s, nj_l_mul, nj_add, inb_nj (by omega), gd_t (decide_eq_true (by omega)), ix_nj (by omega), R_changed_e, bn_s] at hR
        have h67 : P_cell_67 (nj i) y (some (fa l)) p = some (1, wI p (fa l + 1) i y) := by
          unfold P_cell_67
          rw [gs_s, gt_t z2.2.1, z2.2.2.1, gs_s, gt_t z2.2.2.2.1, y2, inb_nj (by omega), gd_t (decide_eq_true hi), vb_e, ix_nj (by omega)]
        by_cases q2 : -1 ≤ y ∧ y ≤ 16
        · have hP2 : P_cell (nj i) y p = some (1, wI p (fa l + 1) i y) := by
            rw [hP, P_isTask_e, bp_s, h67]
            by_cases w1 : y = -1
            · rw [if_pos w1]
            · by_cases w2 : y = 16
              · rw [if_neg w1, if_pos w2]
              · have w3 : 0 ≤ y ∧ y ≤ 15 := by grind
                rw [if_neg w1, if_neg w2, if_neg (by simp [tI, w3])]
          rw [if_neg (by simp [tI, q2])] at hR
          obtain ⟨K, C⟩ := L.cell (v := y) T hl' q6 (show i < 48 by omega)
          refine ⟨1, _, _, hP2, hR, ?_, C.mono (fun _ h => h) (fun _ h => h) (fun a ha => by rw [ha]; have := z2.1; omega), ((Ch.rfl.wI (Or.inl (by decide))).sI (by decide)).sI (by decide), rfl, rfl, Or.inr ⟨by simp [k_aI_wI_e, k_aI_wI, k_aI_wL, k_aI_wR, k_aI_sI, k_aI_sL, k_aI_sR, k_aI_nw, k_aL_wL_e, k_aL_wL, k_aL_wI, k_aL_wR, k_aL_sI, k_aL_sL, k_aL_sR, k_aL_nw, k_aR_wR_e, k_aR_wR, k_aR_wI, k_aR_wL, k_aR_sI, k_aR_sL, k_aR_sR, k_aR_nw, k_mI_sI_e, k_mI_sI, k_mI_wI, k_mI_wL, k_mI_wR, k_mI_sL, k_mI_sR, k_mI_nw, k_mL_sL_e, k_mL_sL, k_mL_wI, k_mL_wL, k_mL_wR, k_mL_sI, k_mL_sR, k_mL_nw, k_mR_sR_e, k_mR_sR, k_mR_wI, k_mR_wL, k_mR_wR, k_mR_sI, k_mR_sL, k_mR_nw, k_mT_wI, k_mT_wL, k_mT_wR, k_mT_sI, k_mT_sL, k_mT_sR, k_mT_nw, k_mN_wI, k_mN_wL, k_mN_wR, k_mN_sI, k_mN_sL, k_mN_sR, k_mN_nw, k_mC_wI, k_mC_wL, k_mC_wR, k_mC_sI, k_mC_sL, k_mC_sR, k_mC_nw, k_mS_wI, k_mS_wL, k_mS_wR, k_mS_sI, k_mS_sL, k_mS_sR, k_mS_nw, k_zF_1, k_zF_3, k_zF_11, k_zF_32, k_zF_36, k_zA_1, k_zA_3, k_zA_11, k_zA_32, k_zA_36, k_mT_fil, k_mN_fil, k_mI_fil, k_mL_fil, k_mR_fil, k_aL_fil, k_aR_fil, k_mC_fil, k_mS_fil, k_aI_fil_e, k_aI_fil, up1_ap], by simp [k_aI_wI_e, k_aI_wI, k_aI_wL, k_aI_wR, k_aI_sI, k_aI_sL, k_aI_sR, k_aI_nw, k_aL_wL_e, k_aL_wL, k_aL_wI, k_aL_wR, k_aL_sI, k_aL_sL, k_aL_sR, k_aL_nw, k_aR_wR_e, k_aR_wR, k_aR_wI, k_aR_wL, k_aR_sI, k_aR_sL, k_aR_sR, k_aR_nw, k_mI_sI_e, k_mI_sI, k_mI_wI, k_mI_wL, k_mI_wR, k_mI_sL, k_mI_sR, k_mI_nw, k_mL_sL_e, k_mL_sL, k_mL_wI, k_mL_wL, k_mL_wR, k_mL_sI, k_mL_sR, k_mL_nw, k_mR_sR_e, k_mR_sR, k_mR_wI, k_mR_wL, k_mR_wR, k_mR_sI, k_mR_sL, k_mR_nw, k_mT_wI, k_mT_wL, k_mT_wR, k_mT_sI, k_mT_sL, k_mT_sR, k_mT_nw, k_mN_wI, k_mN_wL, k_mN_wR, k_mN_sI, k_mN_sL, k_mN_sR, k_mN_nw, k_mC_wI, k_mC_wL, k_mC_wR, k_mC_sI, k_mC_sL, k_mC_sR, k_mC_nw, k_mS_wI, k_mS_wL, k_mS_wR, k_mS_sI, k_mS_sL, k_mS_sR, k_mS_nw, k_zF_1, k_zF_3, k_zF_11, k_zF_32, k_zF_36, k_zA_1, k_zA_3, k_zA_11, k_zA_32, k_zA_36, k_mT_fil, k_mN_fil, k_mI_fil, k_mL_fil, k_mR_fil, k_aL_fil, k_aR_fil, k_mC_fil, k_mS_fil, k_aI_fil_e, k_aI_fil, up1_ap]⟩⟩
          refine ⟨T.same rfl rfl, C2, ?_, ?_, ?_, ?_, e3, e4, ?_, fa, ta, ia, sa, ca, od, ?_, ?_⟩
          · rw [dat_cell]; exact W1.cell
          · rw [dat_cell]; exact fun i hi => (W2 i hi).cell q2
          · rw [dat_cell]; simp [k_aI_wI_e, k_aI_wI, k_aI_wL, k_aI_wR, k_aI_sI, k_aI_sL, k_aI_sR, k_aI_nw, k_aL_wL_e, k_aL_wL, k_aL_wI, k_aL_wR, k_aL_sI, k_aL_sL, k_aL_sR, k_aL_nw, k_aR_wR_e, k_aR_wR, k_aR_wI, k_aR_wL, k_aR_sI, k_aR_sL, k_aR_sR, k_aR_nw, k_mI_sI_e, k_mI_sI, k_mI_wI, k_mI_wL, k_mI_wR, k_mI_sL, k_mI_sR, k_mI_nw, k_mL_sL_e, k_mL_sL, k_mL_wI, k_mL_wL, k_mL_wR, k_mL_sI, k_mL_sR, k_mL_nw, k_mR_sR_e, k_mR_sR, k_mR_wI, k_mR_wL, k_mR_wR, k_mR_sI, k_mR_sL, k_mR_nw, k_mT_wI, k_mT_wL, k_mT_wR, k_mT_sI, k_mT_sL, k_mT_sR, k_mT_nw, k_mN_wI, k_mN_wL, k_mN_wR, k_mN_sI, k_mN_sL, k_mN_sR, k_mN_nw, k_mC_wI, k_mC_wL, k_mC_wR, k_mC_sI, k_mC_sL, k_mC_sR, k_mC_nw, k_mS_wI, k_mS_wL, k_mS_wR, k_mS_sI, k_mS_sL, k_mS_sR, k_mS_nw, k_zF_1, k_zF_3, k_zF_11, k_zF_32, k_zF_36, k_zA_1, k_zA_3, k_zA_11, k_zA_32, k_zA_36, k_mT_fil, k_mN_fil, k_mI_fil, k_mL_fil, k_mR_fil, k_aL_fil, k_aR_fil, k_mC_fil, k_mS_fil, k_aI_fil_e, k_aI_fil]; exact e1
          · rw [dat_cell]; simp [k_aI_wI_e, k_aI_wI, k_aI_wL, k_aI_wR, k_aI_sI, k_aI_sL, k_aI_sR, k_aI_nw, k_aL_wL_e, k_aL_wL, k_aL_wI, k_aL_wR, k_aL_sI, k_aL_sL, k_aL_sR, k_aL_nw, k_aR_wR_e, k_aR_wR, k_aR_wI, k_aR_wL, k_aR_sI, k_aR_sL, k_aR_sR, k_aR_nw, k_mI_sI_e, k_mI_sI, k_mI_wI, k_mI_wL, k_mI_wR, k_mI_sL, k_mI_sR, k_mI_nw, k_mL_sL_e, k_mL_sL, k_mL_wI, k_mL_wL, k_mL_wR, k_mL_sI, k_mL_sR, k_mL_nw, k_mR_sR_e, k_mR_sR, k_mR_wI, k_mR_wL, k_mR_wR, k_mR_sI, k_mR_sL, k_mR_nw, k_mT_wI, k_mT_wL, k_mT_wR, k_mT_sI, k_mT_sL, k_mT_sR, k_mT_nw, k_mN_wI, k_mN_wL, k_mN_wR, k_mN_sI, k_mN_sL, k_mN_sR, k_mN_nw, k_mC_wI, k_mC_wL, k_mC_wR, k_mC_sI, k_mC_sL, k_mC_sR, k_mC_nw, k_mS_wI, k_mS_wL, k_mS_wR, k_mS_sI, k_mS_sL, k_mS_sR, k_mS_nw, k_zF_1, k_zF_3, k_zF_11, k_zF_32, k_zF_36, k_zA_1, k_zA_3, k_zA_11, k_zA_32, k_zA_36, k_mT_fil, k_mN_fil, k_mI_fil, k_mL_fil, k_mR_fil, k_aL_fil, k_aR_fil, k_mC_fil, k_mS_fil, k_aI_fil_e, k_aI_fil]; exact e2
          · simp [k_aI_wI_e, k_aI_wI, k_aI_wL, k_aI_wR, k_aI_sI, k_aI_sL, k_aI_sR, k_aI_nw, k_aL_wL_e, k_aL_wL, k_aL_wI, k_aL_wR, k_aL_sI, k_aL_sL, k_aL_sR, k_aL_nw, k_aR_wR_e, k_aR_wR, k_aR_wI, k_aR_wL, k_aR_sI, k_aR_sL, k_aR_sR, k_aR_nw, k_mI_sI_e, k_mI_sI, k_mI_wI, k_mI_wL, k_mI_wR, k_mI_sL, k_mI_sR, k_mI_nw, k_mL_sL_e, k_mL_sL, k_mL_wI, k_mL_wL, k_mL_wR, k_mL_sI, k_mL_sR, k_mL_nw, k_mR_sR_e, k_mR_sR, k_mR_wI, k_mR_wL, k_mR_wR, k_mR_sI, k_mR_sL, k_mR_nw, k_mT_wI, k_mT_wL, k_mT_wR, k_mT_sI, k_mT_sL, k_mT_sR, k_mT_nw, k_mN_wI, k_mN_wL, k_mN_wR, k_mN_sI, k_mN_sL, k_mN_sR, k_mN_nw, k_mC_wI, k_mC_wL, k_mC_wR, k_mC_sI, k_mC_sL, k_mC_sR, k_mC_nw, k_mS_wI, k_mS_wL, k_mS_wR, k_mS_sI, k_mS_sL, k_mS_sR, k_mS_nw, k_zF_1, k_zF_3, k_zF_11, k_zF_32, k_zF_36, k_zA_1, k_zA_3, k_zA_11, k_zA_32, k_zA_36, k_mT_fil, k_mN_fil, k_mI_fil, k_mL_fil, k_mR_fil, k_aL_fil, k_aR_fil, k_mC_fil, k_mS_fil, k_aI_fil_e, k_aI_fil]; exact e5
          · rw [dat_cell]; exact K
          · rw [dat_cell]
            refine (hSc.Ch L.2.1 T C (by simp) (by simp) ⟨?_, fun k hk e => ?_⟩).eqD rfl (funext fun j => upC_o (by omega))
            · have := z2.1; omega
            · obtain ⟨-, -, -, -, -, -, -, -, -, -, -, -, -, -, -, -, -, t18, -⟩ := L.2.1.2.1 k hk
              rw [show ta k + 2 = fa l by omega, z2.2.1] at t18
              exact absurd t18 (by decide)
        · refine no ?_ ?_
          · rw [hP, P_isTask_e, bp_s]
            rw [if_neg (fun z => q2 (by rw [z]; decide)), if_neg (fun z => q2 (by rw [z]; decide)), if_pos]
            rw [tI_0]
            exact decide_eq_false (by grind)
          · rw [hR, if_pos (by simp [tI, q2])]
      · refine no (by rw [hP, if_pos (by simp [tI, q1])]) ?_
        rw [hR]
        by_cases w1 : x < 0
        · rw [if_pos w1]
        · rw [if_neg w1, if_pos]
          have w2 := Int32.not_lt.mp w1
          rcases y4 with ⟨y4, -⟩ | y4
          · rw [y4]; grind
          · rw [y4]; exact Int32.not_lt.mp fun z => q1 ⟨w2, z⟩
    · exact no (by rw [hP, if_neg q6]) (by rw [hR, if_neg q6])
end Ce
