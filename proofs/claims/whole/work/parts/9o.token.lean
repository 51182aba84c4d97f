/-! Layer C: a token (spec), the class's takeToken -/
section Tk
variable (by' : Nat → Nat) (n : Nat) (wd : Nat → Int64) (j : Nat)
/-- '=' follows -/
def eqF : Bool := decide (j + 1 < n ∧ by' (j + 1) = 61)
def ltE : Nat := rnE (fun i => isLt (by' i)) (n - j) j
def dgE : Nat := rnE (fun i => isDg (by' i)) (n - j) j
def ltC : Int64 := cd64 (fun i => by' (j + i) - 96) (ltE by' n j - j)
def dgC : Int32 := cdD (fun i => by' (j + i) - 48) (dgE by' n j - j)
/-- where the token that starts at j ends -/
def tkE : Nat := if isLt (by' j) = true then ltE by' n j else if isDg (by' j) = true then dgE by' n j else j + sgN (sgK (by' j) (eqF by' n j))
/-- its kind, in the class's numbers -/
def tkK : Nat := if isLt (by' j) = true then (if ltE by' n j - j ≤ 8 then wkS wd (ltC by' n j) 40 0 else 1) else if isDg (by' j) = true then (if dgE by' n j - j ≤ 4 then 3 else 1) else sgK (by' j) (eqF by' n j)
end Tk
theorem P_takeToken_e {m : Mem} {by' : Nat → Nat} {n j t : Nat} (h : PX m by' n) (hm : mI m 646 16 = nj j) (hj : j < n) (ht : t < 501) :
    ∃ m', P_Lexer_takeToken (nj t) (nj (by' j)) m = some (nj (tkK by' n (aL m 21) j), m') ∧ Ch [646] [20] nil m m' ∧ mC m' = mC m ∧ mS m' = mS m ∧ mI m' 646 16 = nj (tkE by' n j) ∧ (∀ i, i ≠ t → aL m' 20 i = aL m 20 i) ∧
      (isLt (by' j) = true → aL m' 20 t = ltC by' n j) ∧ (isLt (by' j) = false → isDg (by' j) = true → aL m' 20 t = Int32.toInt64 (dgC by' n j)) := by
  have hn := h.1
  have hb := h.2.2 j hj
  unfold P_Lexer_takeToken tkK tkE
  rw [P_isLetter_e hb.1, bp_s]
  cases z : isLt (by' j) with
  | true =>
    rw [tI_t, if_neg (show ¬ (1 : Int32) = 0 by decide), if_pos (show true = true from rfl), if_pos (show true = true from rfl)]
    unfold P_Lexer_takeLetters
    rw [vb_e, hm]
    obtain ⟨m', i1, i2, i3, i4, i5, i6⟩ := P_takeLetters_7_e (a := j) (t := t) ht (n - j) j FU m h hm (Nat.le_refl _) (by omega) (by unfold FU; omega)
    rw [Nat.sub_self] at i1
    have i1' : P_Lexer_takeLetters_7 FU (nj t) (nj j) 0 m = _ := i1
    rw [i1', bn_s]
    refine ⟨m', rfl, i2, i3, i4, i5, fun i hi => ?_, fun _ => ?_, fun w => by cases w⟩
    · rw [i6, up1_ap, if_neg hi]
    · rw [i6, up1_ap, if_pos rfl]
      rfl
  | false =>
    rw [tI_f, if_pos (show (0 : Int32) = 0 from rfl), if_neg (show ¬ false = true by decide), if_neg (show ¬ false = true by decide), P_isDigit_e hb.1, bp_s]
    cases y : isDg (by' j) with
    | true =>
      rw [tI_t, if_neg (show ¬ (1 : Int32) = 0 by decide), if_pos (show true = true from rfl), if_pos (show true = true from rfl)]
      unfold P_Lexer_takeDigits
      rw [vb_e, hm]
      obtain ⟨m', i1, i2, i3, i4, i5, i6⟩ := P_takeDigits_7_e (a := j) (t := t) ht (n - j) j FU m h hm (Nat.le_refl _) (by omega) (by unfold FU; omega)
      rw [Nat.sub_self] at i1
      have i1' : P_Lexer_takeDigits_7 FU (nj t) (nj j) 0 m = _ := i1
      rw [i1', bn_s]
      refine ⟨m', rfl, i2, i3, i4, i5, fun i hi => ?_, (fun w => by cases w), fun _ _ => ?_⟩
      · rw [i6, up1_ap, if_neg hi]
      · rw [i6, up1_ap, if_pos rfl]
        rfl
    | false =>
      rw [tI_f, if_pos (show (0 : Int32) = 0 from rfl), if_neg (show ¬ false = true by decide), if_neg (show ¬ false = true by decide), h.2.1, hm, nj_add_l]
      have fin : ∀ q : Bool, q = eqF by' n j → ∃ m', P_Lexer_takeToken_60 (nj (by' j)) (tI q) m = some (nj (sgK (by' j) (eqF by' n j)), m') ∧ Ch [646] [20] nil m m' ∧ mC m' = mC m ∧ mS m' = mS m ∧ mI m' 646 16 = nj (j + sgN (sgK (by' j) (eqF by' n j))) ∧ (∀ i, i ≠ t → aL m' 20 i = aL m 20 i) ∧
          (false = true → aL m' 20 t = ltC by' n j) ∧ (false = false → false = true → aL m' 20 t = Int32.toInt64 (dgC by' n j)) := by
        rintro q rfl
        rw [P_takeToken_60_e hb.1 hm]
        exact ⟨_, rfl, Ch.rfl.sI (by decide), by simp only [k_aI_wI_e, k_aI_wI, k_aI_wL, k_aI_wR, k_aI_sI, k_aI_sL, k_aI_sR, k_aI_nw, k_aL_wL_e, k_aL_wL, k_aL_wI, k_aL_wR, k_aL_sI, k_aL_sL, k_aL_sR, k_aL_nw, k_aR_wR_e, k_aR_wR, k_aR_wI, k_aR_wL, k_aR_sI, k_aR_sL, k_aR_sR, k_aR_nw, k_mI_sI_e, k_mI_sI, k_mI_wI, k_mI_wL, k_mI_wR, k_mI_sL, k_mI_sR, k_mI_nw, k_mL_sL_e, k_mL_sL, k_mL_wI, k_mL_wL, k_mL_wR, k_mL_sI, k_mL_sR, k_mL_nw, k_mR_sR_e, k_mR_sR, k_mR_wI, k_mR_wL, k_mR_wR, k_mR_sI, k_mR_sL, k_mR_nw, k_mT_wI, k_mT_wL, k_mT_wR, k_mT_sI, k_mT_sL, k_mT_sR, k_mT_nw, k_mN_wI, k_mN_wL, k_mN_wR, k_mN_sI, k_mN_sL, k_mN_sR, k_mN_nw, k_mC_wI, k_mC_wL, k_mC_wR, k_mC_sI, k_mC_sL, k_mC_sR, k_mC_nw, k_mS_wI, k_mS_wL, k_mS_wR, k_mS_sI, k_mS_sL, k_mS_sR, k_mS_nw, k_zF_1, k_zF_3, k_zF_11, k_zF_32, k_zF_36, k_zA_1, k_zA_3, k_zA_11, k_zA_32, k_zA_36, k_mT_fil, k_mN_fil, k_mI_fil, k_mL_fil, k_mR_fil, k_aL_fil, k_aR_fil, k_mC_fil, k_mS_fil, k_aI_fil_e, k_aI_fil], by simp only [k_aI_wI_e, k_aI_wI, k_aI_wL, k_aI_wR, k_aI_sI, k_aI_sL, k_aI_sR, k_aI_nw, k_aL_wL_e, k_aL_wL, k_aL_wI, k_aL_wR, k_aL_sI, k_aL_sL, k_aL_sR, k_aL_nw, k_aR_wR_e, k_aR_wR, k_aR_wI, k_aR_wL, k_aR_sI, k_aR_sL, k_aR_sR, k_aR_nw, k_mI_sI_e, k_mI_sI, k_mI_wI, k_mI_wL, k_mI_wR, k_mI_sL, k_mI_sR, k_mI_nw, k_mL_sL_e, k_mL_sL, k_mL_wI, k_mL_wL, k_mL_wR, k_mL_sI, k_mL_sR, k_mL_nw, k_mR_sR_e, k_mR_sR, k_mR_wI, k_mR_wL, k_mR_wR, k_mR_sI, k_mR_sL, k_mR_nw, k_mT_wI, k_mT_wL, k_mT_wR, k_mT_sI, k_mT_sL, k_mT_sR, k_mT_nw, k_mN_wI, k_mN_wL, k_mN_wR, k_mN_sI, k_mN_sL, k_mN_sR, k_mN_nw, k_mC_wI, k_mC_wL, k_mC_wR, k_mC_sI, k_mC_sL, k_mC_sR, k_mC_nw, k_mS_wI, k_mS_wL, k_mS_wR, k_mS_sI, k_mS_sL, k_mS_sR, k_mS_nw, k_zF_1, k_zF_3, k_zF_11, k_zF_32, k_zF_36, k_zA_1, k_zA_3, k_zA_11, k_zA_32, k_zA_36, k_mT_fil, k_mN_fil, k_mI_fil, k_mL_fil, k_mR_fil, k_aL_fil, k_aR_fil, k_mC_fil, k_mS_fil, k_aI_fil_e, k_aI_fil], by rw [k_mI_sI_e, up1_ap, if_pos rfl], fun i _ => by rw [k_aL_sI], (fun w => by cases w), fun _ w => by cases w⟩
      unfold P_Lexer_takeToken_59
      by_cases u : j + 1 < n
      · rw [if_neg (by rw [nj_le (by omega) (by omega)]; omega), inb_nj (by omega), gd_t (decide_eq_true (by omega)), ix_nj (by omega), (h.2.2 (j + 1) u).2]
        have hb1 := (h.2.2 (j + 1) u).1
        have e61 : (nj (by' (j + 1)) = 61) = (by' (j + 1) = 61) := nj_eq_l (by omega) (by omega)
        by_cases w : by' (j + 1) = 61
        · rw [if_pos (e61.mpr w)]
          exact fin true (decide_eq_true ⟨u, w⟩).symm
        · rw [if_neg (fun v => w (e61.mp v))]
          exact fin false (decide_eq_false (fun v => w v.2)).symm
      · rw [if_pos (by rw [nj_le (by omega) (by omega)]; omega)]
        exact fin false (decide_eq_false (fun v => u v.1)).symm
