/-! Layer C: a DAY of a PERSON, HALF by HALF: what it comes to; the class's HALVES -/
/-- FIRM, DAY, known, PERSON, years, tickets -/
abbrev Dy : Type := Nat × Nat × Nat × Int32 × Int32 × Int32
def xf (X : Dy) : Nat := X.1
def xd (X : Dy) : Nat := X.2.1
def xn (X : Dy) : Nat := X.2.2.1
def xa (X : Dy) : Int32 := X.2.2.2.1
def xy (X : Dy) : Int32 := X.2.2.2.2.1
def xt (X : Dy) : Int32 := X.2.2.2.2.2
def rwH (D : Dt) (X : Dy) : Option Nat := rowS D (xa X) (nj (xd X)) (xn X)
def tsH (D : Dt) (X : Dy) (h : Nat) : Int32 := dnS D (rwH D X) h
def wkH (D : Dt) (X : Dy) (h : Nat) : Nat := tkN D (rwH D X) h
def waH (D : Dt) (X : Dy) : Nat := whN D (xa X) (xd X / 7) (xn X) (xd X % 7)
def weH (D : Dt) (X : Dy) : Int32 := wetS D (nj (xf X)) (nj (xd X)) (xn X)
def vH (D : Dt) (X : Dy) (h : Nat) : Nat → Int32 := vR D (xf X) (xd X) (xn X) (xy X) (tsH D X h) (nj (wkH D X h)) (nj (waH D X)) (weH D X) h
def inH (D : Dt) (X : Dy) : Nat → Bool := infO D (xd X) (xf X) (xn X)
def bH (D : Dt) (X : Dy) (h : Nat) : Nat → Bool := aB D (inH D X) (vH D X h) (xt X)
/-- the award of a HALF -/
def awH (D : Dt) (X : Dy) (h : Nat) : Option Nat := if isTk (tsH D X h) = true ∧ cB (bH D X h) D.2.1 ≠ 0 ∧ cB (uB D (bH D X h)) D.2.1 = 1 then lB (uB D (bH D X h)) D.2.1 else none
/-- bound, as the reference has it -/
def boH (D : Dt) (X : Dy) (h : Nat) : Int32 := if isTk (tsH D X h) = true then bnS D (bH D X h) else -1
/-- bound, as it is answered -/
def pbH (D : Dt) (X : Dy) (h : Nat) : Int32 := match awH D X h with
  | some b => D.1 12 b
  | none => boH D X h
def agH (D : Dt) (X : Dy) (h : Nat) : Option Nat := match awH D X h with
  | some b => bst D (agP D (inH D X) (vH D X h) (xt X) b) D.2.1
  | none => none
def TkH (D : Dt) (X : Dy) (p : Mem) (h : Nat) : Prop := aI p 30 h = tsH D X h ∧ aI p 31 h = nj (wkH D X h) ∧ aI p 32 h = -1 ∧ aR p 33 h = none ∧ aI p 34 h = -1 ∧ aR p 35 h = none ∧ aI p 36 h = -1 ∧ aR p 37 h = none ∧ aI p 38 h = 0
def PbH (ta : Nat → Nat) (D : Dt) (X : Dy) (p : Mem) (h : Nat) : Prop := aI p 30 h = tsH D X h ∧ aI p 31 h = nj (wkH D X h) ∧ aI p 32 h = pbH D X h ∧ aR p 33 h = (awH D X h).map ta ∧ aI p 34 h = -1 ∧ aR p 35 h = (agH D X h).map ta ∧ aI p 36 h = -1 ∧ aR p 37 h = none ∧ aI p 38 h = 0
def stT (p : Mem) (h : Nat) (a b : Int32) : Mem := wI (wR (wI (wR (wI (wR (wI (wI (wI p 30 h a) 31 h b) 32 h (-1)) 33 h none) 34 h (-1)) 35 h none) 36 h (-1)) 37 h none) 38 h 0
def tkA : List Nat := [30, 31, 32, 33, 34, 35, 36, 37, 38]
/-- variables that stay through a DAY -/
def V39 (D : Dt) (X : Dy) (p : Mem) : Prop := ∀ j, j < 12 → j ≠ 5 → j ≠ 7 → j ≠ 8 → j ≠ 9 → j ≠ 11 → aI p 39 j = vR D (xf X) (xd X) (xn X) (xy X) 0 0 0 (weH D X) 0 j
/-- whose tickets count -/
def Who (X : Dy) (p : Mem) : Prop := ∃ who, who < 10 ∧ mI p 1026 28 = nj who ∧ aI p 9 who = xt X
section Dd
variable {fa ta ia sa ca : Nat → Nat} {od : List Nat} {p : Mem} {D : Dt} {nc : Nat} {X : Dy}
theorem stT_at {h : Nat} : TkH D X (stT p h (tsH D X h) (nj (wkH D X h))) h := by
  unfold TkH stT
  simp [k_aI_wI_e, k_aI_wI, k_aI_wL, k_aI_wR, k_aI_sI, k_aI_sL, k_aI_sR, k_aI_nw, k_aL_wL_e, k_aL_wL, k_aL_wI, k_aL_wR, k_aL_sI, k_aL_sL, k_aL_sR, k_aL_nw, k_aR_wR_e, k_aR_wR, k_aR_wI, k_aR_wL, k_aR_sI, k_aR_sL, k_aR_sR, k_aR_nw, k_mI_sI_e, k_mI_sI, k_mI_wI, k_mI_wL, k_mI_wR, k_mI_sL, k_mI_sR, k_mI_nw, k_mL_sL_e, k_mL_sL, k_mL_wI, k_mL_wL, k_mL_wR, k_mL_sI, k_mL_sR, k_mL_nw, k_mR_sR_e, k_mR_sR, k_mR_wI, k_mR_wL, k_mR_wR, k_mR_sI, k_mR_sL, k_mR_nw, k_mT_wI, k_mT_wL, k_mT_wR, k_mT_sI, k_mT_sL, k_mT_sR, k_mT_nw, k_mN_wI, k_mN_wL, k_mN_wR, k_mN_sI, k_mN_sL, k_mN_sR, k_mN_nw, k_mC_wI, k_mC_wL, k_mC_wR, k_mC_sI, k_mC_sL, k_mC_sR, k_mC_nw, k_mS_wI, k_mS_wL, k_mS_wR, k_mS_sI, k_mS_sL, k_mS_sR, k_mS_nw, k_zF_1, k_zF_3, k_zF_11, k_zF_32, k_zF_36, k_zA_1, k_zA_3, k_zA_11, k_zA_32, k_zA_36, k_mT_fil, k_mN_fil, k_mI_fil, k_mL_fil, k_mR_fil, k_aL_fil, k_aR_fil, k_mC_fil, k_mS_fil, k_aI_fil_e, k_aI_fil, up1_ap]
theorem stT_ne {h g : Nat} {a b : Int32} (hne : g ≠ h) (H : TkH D X p g) : TkH D X (stT p h a b) g := by
  unfold TkH stT
  simp [k_aI_wI_e, k_aI_wI, k_aI_wL, k_aI_wR, k_aI_sI, k_aI_sL, k_aI_sR, k_aI_nw, k_aL_wL_e, k_aL_wL, k_aL_wI, k_aL_wR, k_aL_sI, k_aL_sL, k_aL_sR, k_aL_nw, k_aR_wR_e, k_aR_wR, k_aR_wI, k_aR_wL, k_aR_sI, k_aR_sL, k_aR_sR, k_aR_nw, k_mI_sI_e, k_mI_sI, k_mI_wI, k_mI_wL, k_mI_wR, k_mI_sL, k_mI_sR, k_mI_nw, k_mL_sL_e, k_mL_sL, k_mL_wI, k_mL_wL, k_mL_wR, k_mL_sI, k_mL_sR, k_mL_nw, k_mR_sR_e, k_mR_sR, k_mR_wI, k_mR_wL, k_mR_wR, k_mR_sI, k_mR_sL, k_mR_nw, k_mT_wI, k_mT_wL, k_mT_wR, k_mT_sI, k_mT_sL, k_mT_sR, k_mT_nw, k_mN_wI, k_mN_wL, k_mN_wR, k_mN_sI, k_mN_sL, k_mN_sR, k_mN_nw, k_mC_wI, k_mC_wL, k_mC_wR, k_mC_sI, k_mC_sL, k_mC_sR, k_mC_nw, k_mS_wI, k_mS_wL, k_mS_wR, k_mS_sI, k_mS_sL, k_mS_sR, k_mS_nw, k_zF_1, k_zF_3, k_zF_11, k_zF_32, k_zF_36, k_zA_1, k_zA_3, k_zA_11, k_zA_32, k_zA_36, k_mT_fil, k_mN_fil, k_mI_fil, k_mL_fil, k_mR_fil, k_aL_fil, k_aR_fil, k_mC_fil, k_mS_fil, k_aI_fil_e, k_aI_fil, up1_ap, hne]
  exact H
theorem stT_Ch {h : Nat} {a b : Int32} : Ch [] tkA nil p (stT p h a b) := ((((((((Ch.rfl.wI (Or.inl (by decide))).wI (Or.inl (by decide))).wI (Or.inl (by decide))).wR (Or.inl (by decide))).wI (Or.inl (by decide))).wR (Or.inl (by decide))).wI (Or.inl (by decide))).wR (Or.inl (by decide))).wI (Or.inl (by decide))
theorem stT_mC {h : Nat} {a b : Int32} : mC (stT p h a b) = mC p := by unfold stT; simp only [k_aI_wI_e, k_aI_wI, k_aI_wL, k_aI_wR, k_aI_sI, k_aI_sL, k_aI_sR, k_aI_nw, k_aL_wL_e, k_aL_wL, k_aL_wI, k_aL_wR, k_aL_sI, k_aL_sL, k_aL_sR, k_aL_nw, k_aR_wR_e, k_aR_wR, k_aR_wI, k_aR_wL, k_aR_sI, k_aR_sL, k_aR_sR, k_aR_nw, k_mI_sI_e, k_mI_sI, k_mI_wI, k_mI_wL, k_mI_wR, k_mI_sL, k_mI_sR, k_mI_nw, k_mL_sL_e, k_mL_sL, k_mL_wI, k_mL_wL, k_mL_wR, k_mL_sI, k_mL_sR, k_mL_nw, k_mR_sR_e, k_mR_sR, k_mR_wI, k_mR_wL, k_mR_wR, k_mR_sI, k_mR_sL, k_mR_nw, k_mT_wI, k_mT_wL, k_mT_wR, k_mT_sI, k_mT_sL, k_mT_sR, k_mT_nw, k_mN_wI, k_mN_wL, k_mN_wR, k_mN_sI, k_mN_sL, k_mN_sR, k_mN_nw, k_mC_wI, k_mC_wL, k_mC_wR, k_mC_sI, k_mC_sL, k_mC_sR, k_mC_nw, k_mS_wI, k_mS_wL, k_mS_wR, k_mS_sI, k_mS_sL, k_mS_sR, k_mS_nw, k_zF_1, k_zF_3, k_zF_11, k_zF_32, k_zF_36, k_zA_1, k_zA_3, k_zA_11, k_zA_32, k_zA_36, k_mT_fil, k_mN_fil, k_mI_fil, k_mL_fil, k_mR_fil, k_aL_fil, k_aR_fil, k_mC_fil, k_mS_fil, k_aI_fil_e, k_aI_fil]
theorem stT_mS {h : Nat} {a b : Int32} : mS (stT p h a b) = mS p := by unfold stT; simp only [k_aI_wI_e, k_aI_wI, k_aI_wL, k_aI_wR, k_aI_sI, k_aI_sL, k_aI_sR, k_aI_nw, k_aL_wL_e, k_aL_wL, k_aL_wI, k_aL_wR, k_aL_sI, k_aL_sL, k_aL_sR, k_aL_nw, k_aR_wR_e, k_aR_wR, k_aR_wI, k_aR_wL, k_aR_sI, k_aR_sL, k_aR_sR, k_aR_nw, k_mI_sI_e, k_mI_sI, k_mI_wI, k_mI_wL, k_mI_wR, k_mI_sL, k_mI_sR, k_mI_nw, k_mL_sL_e, k_mL_sL, k_mL_wI, k_mL_wL, k_mL_wR, k_mL_sI, k_mL_sR, k_mL_nw, k_mR_sR_e, k_mR_sR, k_mR_wI, k_mR_wL, k_mR_wR, k_mR_sI, k_mR_sL, k_mR_nw, k_mT_wI, k_mT_wL, k_mT_wR, k_mT_sI, k_mT_sL, k_mT_sR, k_mT_nw, k_mN_wI, k_mN_wL, k_mN_wR, k_mN_sI, k_mN_sL, k_mN_sR, k_mN_nw, k_mC_wI, k_mC_wL, k_mC_wR, k_mC_sI, k_mC_sL, k_mC_sR, k_mC_nw, k_mS_wI, k_mS_wL, k_mS_wR, k_mS_sI, k_mS_sL, k_mS_sR, k_mS_nw, k_zF_1, k_zF_3, k_zF_11, k_zF_32, k_zF_36, k_zA_1, k_zA_3, k_zA_11, k_zA_32, k_zA_36, k_mT_fil, k_mN_fil, k_mI_fil, k_mL_fil, k_mR_fil, k_aL_fil, k_aR_fil, k_mC_fil, k_mS_fil, k_aI_fil_e, k_aI_fil]
theorem Ld29.Ch {F A : List Nat} {a : Int32} {wk n : Nat} {p' : Mem} {dy : Nat → Prop} (H : Ld29 fa D a wk n p) (T : Top p) (c : Ch F A dy p p') (hF : 1026 ∉ F ∧ 1027 ∉ F) (hA : 29 ∉ A) (hd : ¬ dy 29) : Ld29 fa D a wk n p' := by
  have T1 := T.1
  exact ⟨by rw [c.i hF.1 (by omega)]; exact H.1, by rw [c.i hF.2 (by omega)]; exact H.2.1, fun q hq => by rw [c.ar hA hd (by omega)]; exact H.2.2 q hq⟩
theorem P_takeTasks_4_e (h160 : D.2.2 ≤ 160) (hd : xd X < 140) (hn : xn X ≤ D.2.2) : ∀ (e h fu : Nat) (p : Mem), h + e = 48 → e < fu → LFact fa ta p D → Top p → PL p → Ld29 fa D (xa X) (xd X / 7) (xn X) p → (∀ g, g < h → TkH D X p g) → ∃ p', P_Reckoning_takeTasks_4 fu (nj (xd X % 7)) (nj (wkH D X h)) (nj h) p = some ((), p') ∧ (∀ g, g < 48 → TkH D X p' g) ∧ Ch [] tkA nil p p' ∧ mC p' = mC p ∧ mS p' = mS p
  | 0, h, fu + 1, p, he, _, L, T, hp, H, HT => by
    refine ⟨p, ?_, by rw [show 48 = h by omega]; exact HT, Ch.rfl, rfl, rfl⟩
    rw [P_Reckoning_takeTasks_4.eq_2, if_pos (by rw [show (48 : Int32) = nj 48 from rfl, nj_le (by omega) (by omega)]; omega)]
  | e + 1, h, fu + 1, p, he, hf, L, T, hp, H, HT => by
    have c1 : Ch [] tkA nil p (stT p h (tsH D X h) (nj (wkH D X h))) := stT_Ch
    obtain ⟨p', a1, a2, a3, a4, a5⟩ := P_takeTasks_4_e h160 hd hn e (h + 1) fu (stT p h (tsH D X h) (nj (wkH D X h))) (by omega) (by omega) (L.Ch T c1 (fun f hf => List.not_mem_nil) (fun a ha => by simp [tkA]; omega) ⟨nil_no, fun _ _ => nil_no⟩) (T.Ch c1) (hp.Ch c1 (by decide)) (H.Ch T c1 ⟨List.not_mem_nil, List.not_mem_nil⟩ (by decide) nil_no) (fun g hg => by
      by_cases q : g = h
      · rw [q]; exact stT_at
      · exact stT_ne q (HT g (by omega)))
    refine ⟨p', ?_, a2, c1.trans a3, a4.trans stT_mC, a5.trans stT_mS⟩
    have hdone : P_Reckoning_doneIn (nj (xd X % 7)) (nj h) p = some (tsH D X h, p) := by
      have := P_doneIn_e L hp h160 H hn (q := xd X % 7) (h := h) (by omega) (by omega)
      rw [show 7 * (xd X / 7) + xd X % 7 = xd X by omega] at this
      exact this
    have gh : ∀ {β : Type} (c : Option β), gd (inb (nj h) 48) c = c := fun c => by rw [inb_nj (by omega), gd_t (decide_eq_true (by omega))]
    have ih : ix (nj h) = h := ix_nj (by omega)
    have et : aI (wI (wI p 30 h (tsH D X h)) 31 h (nj (wkH D X h))) 30 h = tsH D X h := by rw [k_aI_wI (by omega), k_aI_wI_e, up1_eq]
    have hs : wkH D X (h + 1) = wkH D X h + if isTk (tsH D X h) then 1 else 0 := rfl
    rw [hs] at a1
    unfold stT at a1
    rw [P_Reckoning_takeTasks_4.eq_2, if_neg (by rw [show (48 : Int32) = nj 48 from rfl, nj_le (by omega) (by omega)]; omega), hdone, bn_s]
    unfold P_Reckoning_takeTasks_47
    simp only [gh, vb_e, ih, et, P_isTask_k, bp_s, nj_add_l]
    cases c : isTk (tsH D X h) with
    | false =>
      rw [c] at a1
      rw [if_pos (by rfl)]
      exact a1
    | true =>
      rw [c] at a1
      rw [if_neg (by decide)]
      exact a1
theorem P_takeTasks_e (h160 : D.2.2 ≤ 160) (hd : xd X < 140) (hn : xn X ≤ D.2.2) (L : LFact fa ta p D) (T : Top p) (hp : PL p) (H : Ld29 fa D (xa X) (xd X / 7) (xn X) p) : ∃ p', P_Reckoning_takeTasks (nj (xd X % 7)) p = some ((), p') ∧ (∀ g, g < 48 → TkH D X p' g) ∧ Ch [] tkA nil p p' ∧ mC p' = mC p ∧ mS p' = mS p :=
  P_takeTasks_4_e h160 hd hn 48 0 FU p (by omega) (by unfold FU; omega) L T hp H (fun _ h => absurd h (by omega))
theorem vR_ind {f d n : Nat} {yrs a b c a' b' c' wet : Int32} {h h' j : Nat} (q5 : j ≠ 5) (q7 : j ≠ 7) (q8 : j ≠ 8) (q9 : j ≠ 9) : vR D f d n yrs a b c wet h j = vR D f d n yrs a' b' c' wet h' j := by
  unfold vR
  simp only [q5, q7, q8, q9, if_false]
theorem aw_none {h : Nat} (ht : isTk (tsH D X h) = false) : awH D X h = none := by
  unfold awH
  rw [if_neg (by rw [ht]; simp)]
theorem TkH.no {h : Nat} (H : TkH D X p h) (ht : isTk (tsH D X h) = false) : PbH ta D X p h := by
  obtain ⟨h1, h2, h3, h4, h5, h6, h7, h8, h9⟩ := H
  have e := aw_none ht
  unfold PbH pbH agH
  rw [e]
  refine ⟨h1, h2, ?_, h4, h5, h6, h7, h8, h9⟩
  show _ = boH D X h
  unfold boH
  rw [if_neg (by rw [ht]; simp)]
  exact h3
end Dd
