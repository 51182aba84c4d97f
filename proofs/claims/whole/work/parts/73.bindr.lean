/-! Layer C: the reference binds the HALVES of a DAY -/
def RbH (D : Dt) (X : Dy) (r : Mem) (h : Nat) : Prop := aI r 60 h = tsH D X h ∧ aI r 61 h = nj (wkH D X h) ∧ aI r 62 h = boH D X h ∧ aI r 63 h = -1 ∧ aI r 64 h = jo (agH D X h) ∧ aI r 65 h = -1 ∧ aI r 66 h = 0 ∧ aI r 67 h = 0
def stR (r : Mem) (h : Nat) (a b : Int32) : Mem := wI (wI (wI (wI (wI (wI (wI (wI r 60 h a) 61 h b) 62 h (-1)) 64 h (-1)) 63 h (-1)) 65 h (-1)) 66 h 0) 67 h 0
def lkA : List Nat := [60, 61, 62, 63, 64, 65, 66, 67]
/-- what the reference needs through a DAY -/
def RX (D : Dt) (X : Dy) (who : Nat) (r : Mem) : Prop := dat r = D ∧ 82 ≤ mC r ∧ mI r 1554 0 = nj D.2.1 ∧ Bt D (xd X) (xf X) (xn X) r ∧ mI r 1612 0 = nj (xd X) ∧ mI r 1613 0 = nj (xf X) ∧ mI r 1614 0 = nj (xn X) ∧ aI r 41 who = xy X ∧ aI r 40 who = xt X ∧ mI r 1638 0 = nj (waH D X) ∧ mI r 1639 0 = weH D X
section Br
variable {r : Mem} {D : Dt} {nc : Nat} {X : Dy}
theorem RX.Ch {who : Nat} {F A : List Nat} {r' : Mem} (h : RX D X who r) (c : Ch F A nil r r') (hC : mC r' = mC r) (hF : (F.all fun f => f != 1554 && f != 1601 && f != 1612 && f != 1613 && f != 1614 && f != 1638 && f != 1639) = true) (hA : (A.all fun a => a == 50 || a == 51 || 58 < a) = true) : RX D X who r' := by
  obtain ⟨h1, h2, h3, h4, h5, h6, h7, h8, h9, h10, h11⟩ := h
  have f : ∀ f, (f = 1554 ∨ f = 1612 ∨ f = 1613 ∨ f = 1614 ∨ f = 1638 ∨ f = 1639) → mI r' f 0 = mI r f 0 := fun f hf => c.i (fun q => by
    have := List.all_eq_true.mp hF f q
    simp at this
    omega) (by omega)
  have a : ∀ a, (a = 40 ∨ a = 41) → aI r' a = aI r a := fun a ha => c.ai (fun q => by
    have := List.all_eq_true.mp hA a q
    simp at this
    omega) nil_no (by omega)
  have hF1 : (F.all fun f => f != 1554 && f != 1601) = true := by
    rw [List.all_eq_true]
    intro f q
    have := List.all_eq_true.mp hF f q
    simp at this ⊢
    omega
  have hA1 : (A.all fun a => a < 8 || a == 35 || a == 36 || (38 < a && a < 43) || 49 < a) = true := by
    rw [List.all_eq_true]
    intro f q
    have := List.all_eq_true.mp hA f q
    simp at this ⊢
    omega
  have hA2 : (A.all fun a => a < 52 || 58 < a) = true := by
    rw [List.all_eq_true]
    intro f q
    have := List.all_eq_true.mp hA f q
    simp at this ⊢
    omega
  refine ⟨(dat_Ch c h2 hF1 hA1).trans h1, by omega, ?_, h4.Ch c h2 hA2, ?_, ?_, ?_, ?_, ?_, ?_, ?_⟩
  · rw [f 1554 (by omega)]; exact h3
  · rw [f 1612 (by omega)]; exact h5
  · rw [f 1613 (by omega)]; exact h6
  · rw [f 1614 (by omega)]; exact h7
  · rw [a 41 (by omega)]; exact h8
  · rw [a 40 (by omega)]; exact h9
  · rw [f 1638 (by omega)]; exact h10
  · rw [f 1639 (by omega)]; exact h11
theorem cB_none {P : Nat → Bool} : ∀ n, (∀ l, l < n → P l = false) → cB P n = 0
  | 0, _ => rfl
  | n + 1, h => by
    show cB P n + (if P n then 1 else 0) = 0
    rw [cB_none n (fun l hl => h l (by omega)), h n (by omega)]
    rfl
theorem aw_some {h b : Nat} (e : awH D X h = some b) : boH D X h = nj b ∧ b < D.2.1 ∧ D.1 8 b = 0 ∧ inH D X b = true ∧ isTk (tsH D X h) = true := by
  unfold awH at e
  by_cases q : isTk (tsH D X h) = true ∧ cB (bH D X h) D.2.1 ≠ 0 ∧ cB (uB D (bH D X h)) D.2.1 = 1
  · rw [if_pos q] at e
    obtain ⟨b1, b2⟩ := (lB_p D.2.1).2 b e
    unfold uB bH aB at b2
    simp only [Bool.and_eq_true, decide_eq_true_eq] at b2
    refine ⟨?_, b1, b2.1.1, b2.1.2.1, q.1⟩
    unfold boH bnS
    rw [if_pos q.1, if_neg q.2.1, if_pos (show cB (fun k => bH D X h k && !unS D (bH D X h) k) D.2.1 = 1 from q.2.2)]
    show jo (lB (uB D (bH D X h)) D.2.1) = _
    rw [e]
    rfl
  · rw [if_neg q] at e
    cases e
theorem aw_no {h : Nat} (e : awH D X h = none) : boH D X h = -1 ∨ boH D X h = -2 := by
  unfold awH at e
  unfold boH bnS
  by_cases q : isTk (tsH D X h) = true
  · rw [if_pos q]
    by_cases q1 : cB (bH D X h) D.2.1 = 0
    · rw [if_pos q1]; exact Or.inl rfl
    · rw [if_neg q1]
      by_cases q2 : cB (uB D (bH D X h)) D.2.1 = 1
      · rw [if_pos ⟨q, q1, q2⟩] at e
        have := cB_none _ ((lB_p D.2.1).1 e)
        omega
      · rw [if_neg (show ¬ cB (fun k => bH D X h k && !unS D (bH D X h) k) D.2.1 = 1 from q2)]
        exact Or.inr rfl
  · rw [if_neg q]; exact Or.inl rfl
theorem ag_some {h g : Nat} (e : agH D X h = some g) : ∃ b, awH D X h = some b ∧ g < D.2.1 ∧ D.1 8 g = 3 ∧ inH D X g = true := by
  unfold agH at e
  cases c : awH D X h with
  | none => rw [c] at e; cases e
  | some b =>
    rw [c] at e
    obtain ⟨g1, g2, -⟩ := (bst_p (D := D) D.2.1).2 g e
    unfold agP at g2
    simp only [Bool.and_eq_true, decide_eq_true_eq] at g2
    exact ⟨b, rfl, g1, g2.1, g2.2.2.1⟩
theorem stR_at {h : Nat} {a b : Int32} : aI (stR r h a b) 60 h = a ∧ aI (stR r h a b) 61 h = b ∧ aI (stR r h a b) 62 h = -1 ∧ aI (stR r h a b) 63 h = -1 ∧ aI (stR r h a b) 64 h = -1 ∧ aI (stR r h a b) 65 h = -1 ∧ aI (stR r h a b) 66 h = 0 ∧ aI (stR r h a b) 67 h = 0 := by
  unfold stR
  simp [k_aI_wI_e, k_aI_wI, k_aI_wL, k_aI_wR, k_aI_sI, k_aI_sL, k_aI_sR, k_aI_nw, k_aL_wL_e, k_aL_wL, k_aL_wI, k_aL_wR, k_aL_sI, k_aL_sL, k_aL_sR, k_aL_nw, k_aR_wR_e, k_aR_wR, k_aR_wI, k_aR_wL, k_aR_sI, k_aR_sL, k_aR_sR, k_aR_nw, k_mI_sI_e, k_mI_sI, k_mI_wI, k_mI_wL, k_mI_wR, k_mI_sL, k_mI_sR, k_mI_nw, k_mL_sL_e, k_mL_sL, k_mL_wI, k_mL_wL, k_mL_wR, k_mL_sI, k_mL_sR, k_mL_nw, k_mR_sR_e, k_mR_sR, k_mR_wI, k_mR_wL, k_mR_wR, k_mR_sI, k_mR_sL, k_mR_nw, k_mT_wI, k_mT_wL, k_mT_wR, k_mT_sI, k_mT_sL, k_mT_sR, k_mT_nw, k_mN_wI, k_mN_wL, k_mN_wR, k_mN_sI, k_mN_sL, k_mN_sR, k_mN_nw, k_mC_wI, k_mC_wL, k_mC_wR, k_mC_sI, k_mC_sL, k_mC_sR, k_mC_nw, k_mS_wI, k_mS_wL, k_mS_wR, k_mS_sI, k_mS_sL, k_mS_sR, k_mS_nw, k_zF_1, k_zF_3, k_zF_11, k_zF_32, k_zF_36, k_zA_1, k_zA_3, k_zA_11, k_zA_32, k_zA_36, k_mT_fil, k_mN_fil, k_mI_fil, k_mL_fil, k_mR_fil, k_aL_fil, k_aR_fil, k_mC_fil, k_mS_fil, k_aI_fil_e, k_aI_fil, up1_ap]
theorem stR_ne {h g : Nat} {a b : Int32} (hne : g ≠ h) : ∀ x, aI (stR r h a b) x g = aI r x g := fun x => by
  unfold stR
  have w : ∀ (m : Mem) y v, aI (wI m y h v) x g = aI m x g := fun m y v => up2_ne fun z => hne z.2
  rw [w, w, w, w, w, w, w, w]
theorem stR_Ch {h : Nat} {a b : Int32} : Ch [] lkA nil r (stR r h a b) := (((((((Ch.rfl.wI (Or.inl (by decide))).wI (Or.inl (by decide))).wI (Or.inl (by decide))).wI (Or.inl (by decide))).wI (Or.inl (by decide))).wI (Or.inl (by decide))).wI (Or.inl (by decide))).wI (Or.inl (by decide))
theorem stR_mC {h : Nat} {a b : Int32} : mC (stR r h a b) = mC r := by unfold stR; simp only [k_aI_wI_e, k_aI_wI, k_aI_wL, k_aI_wR, k_aI_sI, k_aI_sL, k_aI_sR, k_aI_nw, k_aL_wL_e, k_aL_wL, k_aL_wI, k_aL_wR, k_aL_sI, k_aL_sL, k_aL_sR, k_aL_nw, k_aR_wR_e, k_aR_wR, k_aR_wI, k_aR_wL, k_aR_sI, k_aR_sL, k_aR_sR, k_aR_nw, k_mI_sI_e, k_mI_sI, k_mI_wI, k_mI_wL, k_mI_wR, k_mI_sL, k_mI_sR, k_mI_nw, k_mL_sL_e, k_mL_sL, k_mL_wI, k_mL_wL, k_mL_wR, k_mL_sI, k_mL_sR, k_mL_nw, k_mR_sR_e, k_mR_sR, k_mR_wI, k_mR_wL, k_mR_wR, k_mR_sI, k_mR_sL, k_mR_nw, k_mT_wI, k_mT_wL, k_mT_wR, k_mT_sI, k_mT_sL, k_mT_sR, k_mT_nw, k_mN_wI, k_mN_wL, k_mN_wR, k_mN_sI, k_mN_sL, k_mN_sR, k_mN_nw, k_mC_wI, k_mC_wL, k_mC_wR, k_mC_sI, k_mC_sL, k_mC_sR, k_mC_nw, k_mS_wI, k_mS_wL, k_mS_wR, k_mS_sI, k_mS_sL, k_mS_sR, k_mS_nw, k_zF_1, k_zF_3, k_zF_11, k_zF_32, k_zF_36, k_zA_1, k_zA_3, k_zA_11, k_zA_32, k_zA_36, k_mT_fil, k_mN_fil, k_mI_fil, k_mL_fil, k_mR_fil, k_aL_fil, k_aR_fil, k_mC_fil, k_mS_fil, k_aI_fil_e, k_aI_fil]
theorem RbH.eq {r' : Mem} {g : Nat} (H : RbH D X r g) (e : ∀ x, 60 ≤ x → x ≤ 67 → aI r' x g = aI r x g) : RbH D X r' g := by
  unfold RbH
  rw [e 60 (by omega) (by omega), e 61 (by omega) (by omega), e 62 (by omega) (by omega), e 63 (by omega) (by omega), e 64 (by omega) (by omega), e 65 (by omega) (by omega), e 66 (by omega) (by omega), e 67 (by omega) (by omega)]
  exact H
theorem R_looks_125_e (W : WText D nc) (Wi : WItems D nc) (hd : xd X < 140) (hf8 : xf X < 8) (hn : xn X ≤ D.2.2) {who : Nat} (hwho : who < 10) : ∀ (e h fu : Nat) (r : Mem), h + e = 48 → e < fu → RX D X who r → (∀ g, g < h → RbH D X r g) →
    ∃ r', R_looks_125 fu (nj who) (jo (rwH D X)) (nj (wkH D X h)) (nj h) r = R_looks_275 (nj who) r' ∧ (∀ g, g < 48 → RbH D X r' g) ∧ RX D X who r' ∧ Ch [1610, 1611] (50 :: 51 :: 68 :: lkA) nil r r' ∧ mC r' = mC r
  | 0, h, fu + 1, r, he, _, HX, HB => by
    refine ⟨r, ?_, by rw [show 48 = h by omega]; exact HB, HX, Ch.rfl, rfl⟩
    rw [R_looks_125.eq_2, if_pos (by rw [show (48 : Int32) = nj 48 from rfl, nj_le (by omega) (by omega)]; omega)]
  | e + 1, h, fu + 1, r, he, hf, HX, HB => by
    have h160 := W.2.1
    have h24 := W.1
    have c1 : Ch [1610, 1611] (50 :: 51 :: 68 :: lkA) nil r (stR r h (tsH D X h) (nj (wkH D X h))) := stR_Ch.mono (by simp) (by simp [lkA]) (fun _ h => h)
    have C2 := HX.2.1
    have hC1 := stR_mC (r := r) (h := h) (a := tsH D X h) (b := nj (wkH D X h))
    have X1 := HX.Ch c1 hC1 (by decide) (by decide)
    have hdone : R_doneIn (jo (rwH D X)) (nj h) r = some (tsH D X h, r) := R_doneIn_e HX.1 (fun i hi => by have := (rowS_some hi).1; omega) (by omega)
    have gh : ∀ {β : Type} (c : Option β), gd (inb (nj h) 48) c = c := fun c => by rw [inb_nj (by omega), gd_t (decide_eq_true (by omega))]
    have ih : ix (nj h) = h := ix_nj (by omega)
    have hs : wkH D X (h + 1) = wkH D X h + if isTk (tsH D X h) then 1 else 0 := rfl
    obtain ⟨s0, s1, s2, s3, s4, s5, s6, s7⟩ := stR_at (r := r) (h := h) (a := tsH D X h) (b := nj (wkH D X h))
    have keep : ∀ g, g < h → RbH D X (stR r h (tsH D X h) (nj (wkH D X h))) g := fun g hg => (HB g hg).eq (fun x _ _ => stR_ne (by omega) x)
    rw [R_looks_125.eq_2, if_neg (by rw [show (48 : Int32) = nj 48 from rfl, nj_le (by omega) (by omega)]; omega), hdone, bn_s]
    unfold R_looks_269
    simp only [gh, vb_e, ih]
    change ∃ r', bp (R_isTask (aI (stR r h (tsH D X h) (nj (wkH D X h))) 60 h)) (fun r39 => if r39 = 0 then R_looks_125 fu (nj who) (jo (rwH D X)) (nj (wkH D X h)) (nj h + 1) (stR r h (tsH D X h) (nj (wkH D X h))) else bn (R_asks (nj who) (nj h) (stR r h (tsH D X h) (nj (wkH D X h)))) _) = _ ∧ _
    rw [s0, R_isTask_e, bp_s, nj_add_l]
    generalize hm : stR r h (tsH D X h) (nj (wkH D X h)) = m at *
    cases c : isTk (tsH D X h) with
    | false =>
      rw [if_pos (by rfl)]
      rw [c] at hs
      obtain ⟨r', b1, b2, b3, b4, b5⟩ := R_looks_125_e W Wi hd hf8 hn hwho e (h + 1) fu m (by omega) (by omega) X1 (fun g hg => by
        by_cases q : g = h
        · have ea := aw_none c
          rw [q]
          unfold RbH agH boH
          rw [ea, if_neg (by rw [c]; simp)]
          exact ⟨s0, s1, s2, s3, s4, s5, s6, s7⟩
        · exact keep g (by omega))
      rw [hs] at b1
      exact ⟨r', b1, b2, b3, c1.trans b4, by omega⟩
    | true =>
      rw [if_neg (by decide)]
      rw [c] at hs
      have hs' : nj (wkH D X (h + 1)) = nj (wkH D X h) + 1 := by rw [hs, if_pos rfl, nj_add_l]
      obtain ⟨x1, x2, x3, x4, x5, x6, x7, x8, x9, x10, x11⟩ := id X1
      obtain ⟨m1, a1, a2, a3, a4, a5⟩ := R_asks_e x1 x2 h160 hd hf8 hn x5 x6 x7 hwho (show h < 48 by omega)
      rw [x8, s0, s1, x10, x11] at a2
      rw [x9] at a3
      have X2 := X1.Ch a4 a5 (by decide) (by decide)
      have H2 : HoR m1 D (vH D X h) (xt X) := ⟨X2.1, X2.2.1, a2, a3⟩
      obtain ⟨m2, b1, b2, b3⟩ := R_boundBy_e (inf := inH D X) W Wi H2 X2.2.2.1 X2.2.2.2.1.1
      have X3 := X2.Ch b2 b3 (by decide) (by decide)
      have c2 : Ch [1610, 1611] (50 :: 51 :: 68 :: lkA) nil r m2 := (c1.trans (a4.mono (by simp) (by simp) (fun _ h => h))).trans (b2.mono (by simp) (by simp) (fun _ h => h))
      have hC2 : mC m2 = mC r := by omega
      have rd : ∀ x, 60 ≤ x → x ≤ 67 → aI m2 x = aI m x := fun x q1 q2 => by rw [b2.ai (by simp; omega) nil_no (by omega), a4.ai (by simp; omega) nil_no (by omega)]
      have hbo : boH D X h = bnS D (aB D (inH D X) (vH D X h) (xt X)) := by
        unfold boH
        rw [if_pos c]
        rfl
      rw [a1, bn_s, b1, bn_s, ← hbo]
      have c3 : Ch [1610, 1611] (50 :: 51 :: 68 :: lkA) nil r (wI m2 62 h (boH D X h)) := c2.wI (Or.inl (by decide))
      have cw : Ch [] lkA nil m2 (wI m2 62 h (boH D X h)) := Ch.rfl.wI (Or.inl (by decide))
      have hC3 : mC (wI m2 62 h (boH D X h)) = mC r := by rw [k_mC_wI]; exact hC2
      have X4 := X3.Ch cw (by rw [k_mC_wI]) (by decide) (by decide)
      have e62 : aI (wI m2 62 h (boH D X h)) 62 h = boH D X h := by rw [k_aI_wI_e, up1_eq]
      have rw3 : ∀ g, g ≠ h → ∀ x, 60 ≤ x → x ≤ 67 → aI (wI m2 62 h (boH D X h)) x g = aI m x g := fun g hg x q1 q2 => by
        rw [← rd x q1 q2]
        exact up2_ne fun z => hg z.2
      have rw3' : ∀ x, 60 ≤ x → x ≤ 67 → x ≠ 62 → aI (wI m2 62 h (boH D X h)) x h = aI m x h := fun x q1 q2 q3 => by
        rw [k_aI_wI q3, rd x q1 q2]
      rw [e62]
      cases ca : awH D X h with
      | none =>
        have hneg : boH D X h < 0 := by rcases aw_no ca with z | z <;> rw [z] <;> decide
        rw [if_pos hneg]
        obtain ⟨r', d1, d2, d3, d4, d5⟩ := R_looks_125_e W Wi hd hf8 hn hwho e (h + 1) fu (wI m2 62 h (boH D X h)) (by omega) (by omega) X4 (fun g hg => by
          by_cases q : g = h
          · rw [q]
            unfold RbH agH
            rw [ca, rw3' 60 (by omega) (by omega) (by omega), rw3' 61 (by omega) (by omega) (by omega), e62, rw3' 63 (by omega) (by omega) (by omega), rw3' 64 (by omega) (by omega) (by omega), rw3' 65 (by omega) (by omega) (by omega), rw3' 66 (by omega) (by omega) (by omega), rw3' 67 (by omega) (by omega) (by omega)]
            exact ⟨s0, s1, rfl, s3, s4, s5, s6, s7⟩
          · exact (keep g (by omega)).eq (fun x q1 q2 => rw3 g q x q1 q2))
        rw [hs'] at d1
        exact ⟨r', d1, d2, d3, c3.trans d4, by omega⟩
      | some b =>
        obtain ⟨eb, hb, -⟩ := aw_some ca
        have hneg : ¬ boH D X h < 0 := by rw [eb, nj_nneg (by omega)]; exact id
        rw [if_neg hneg]
        have H4 : HoR (wI m2 62 h (boH D X h)) D (vH D X h) (xt X) := ⟨X4.1, X4.2.1, fun j hj => by rw [k_aI_wI (by omega), b2.ai (by decide) nil_no (by omega)]; exact H2.2.2.1 j hj, by rw [k_mI_wI, b2.i (by decide) (by omega)]; exact H2.2.2.2⟩
        obtain ⟨m5, d1, d2, d3⟩ := R_agreeOf_e (k := b) (inf := inH D X) W Wi H4 X4.2.2.1 X4.2.2.2.1.1
        have hag : jo (agH D X h) = jo (bst D (agP D (inH D X) (vH D X h) (xt X) b) D.2.1) := by
          unfold agH
          rw [ca]
        rw [← eb] at d1
        rw [d1, bn_s, ← hag]
        have X5 := X4.Ch d2 d3 (by decide) (by decide)
        have cw5 : Ch [] lkA nil m5 (wI m5 64 h (jo (agH D X h))) := Ch.rfl.wI (Or.inl (by decide))
        have X6 := X5.Ch cw5 (by rw [k_mC_wI]) (by decide) (by decide)
        have c6 : Ch [1610, 1611] (50 :: 51 :: 68 :: lkA) nil r (wI m5 64 h (jo (agH D X h))) := (c3.trans (d2.mono (by simp) (by simp) (fun _ h => h))).wI (Or.inl (by decide))
        have rd5 : ∀ x, 60 ≤ x → x ≤ 67 → aI m5 x = aI (wI m2 62 h (boH D X h)) x := fun x q1 q2 => d2.ai (by simp; omega) nil_no (by omega)
        have hC6 : mC (wI m5 64 h (jo (agH D X h))) = mC r := by rw [k_mC_wI]; omega
        have rw5 : ∀ x, 60 ≤ x → x ≤ 67 → x ≠ 62 → x ≠ 64 → aI (wI m5 64 h (jo (agH D X h))) x h = aI m x h := fun x q1 q2 q3 q4 => by
          rw [k_aI_wI q4, rd5 x q1 q2, rw3' x q1 q2 q3]
        obtain ⟨r', f1, f2, f3, f4, f5⟩ := R_looks_125_e W Wi hd hf8 hn hwho e (h + 1) fu (wI m5 64 h (jo (agH D X h))) (by omega) (by omega) X6 (fun g hg => by
          by_cases q : g = h
          · rw [q]
            unfold RbH
            rw [rw5 60 (by omega) (by omega) (by omega) (by omega), rw5 61 (by omega) (by omega) (by omega) (by omega), rw5 63 (by omega) (by omega) (by omega) (by omega), rw5 65 (by omega) (by omega) (by omega) (by omega), rw5 66 (by omega) (by omega) (by omega) (by omega), rw5 67 (by omega) (by omega) (by omega) (by omega), k_aI_wI_e, up1_eq, k_aI_wI (by omega), rd5 62 (by omega) (by omega), e62]
            exact ⟨s0, s1, rfl, s3, rfl, s5, s6, s7⟩
          · refine (keep g (by omega)).eq (fun x q1 q2 => ?_)
            rw [← rw3 g q x q1 q2, ← rd5 x q1 q2]
            exact up2_ne fun z => q z.2)
        rw [hs'] at f1
        exact ⟨r', f1, f2, f3, c6.trans f4, by omega⟩
end Br
