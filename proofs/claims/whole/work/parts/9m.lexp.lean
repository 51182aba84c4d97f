/-! Layer C: the class's lexer takes letters and digits -/
theorem cmp0 {a b : Int64} : (lg_cmp a b = 0) = (a = b) := by
  unfold lg_cmp
  apply propext
  constructor
  · intro h
    by_cases c : a > b
    · rw [if_pos c] at h
      exact absurd h (by decide)
    · rw [if_neg c] at h
      by_cases d : a = b
      · exact d
      · rw [if_neg d] at h
        exact absurd h (by decide)
  · intro h
    rw [h, if_neg (fun z => absurd z (Int64.lt_irrefl)), if_pos rfl]
/-- where a run of ok ones that starts at j ends -/
def rnE (ok : Nat → Bool) : Nat → Nat → Nat
  | 0, j => j
  | d + 1, j => if ok j = true then rnE ok d (j + 1) else j
def isLt (b : Nat) : Bool := decide (97 ≤ b ∧ b ≤ 122)
def isDg (b : Nat) : Bool := decide (48 ≤ b ∧ b ≤ 57)
theorem rnE_b {ok : Nat → Bool} : ∀ d j, j ≤ rnE ok d j ∧ rnE ok d j ≤ j + d
  | 0, j => ⟨Nat.le_refl _, Nat.le_refl _⟩
  | d + 1, j => by
    have ih := rnE_b (ok := ok) d (j + 1)
    show j ≤ (if ok j = true then rnE ok d (j + 1) else j) ∧ (if ok j = true then rnE ok d (j + 1) else j) ≤ j + (d + 1)
    split <;> omega
theorem P_isLetter_e {b : Nat} (h : b < 256) : P_Lexer_isLetter (nj b) = some (tI (isLt b)) := by
  unfold P_Lexer_isLetter isLt
  simp only [nj_lt_l (show b < 2147483648 by omega) (show (97 : Nat) < 2147483648 by omega), nj_l_lt (show b < 2147483648 by omega) (show (122 : Nat) < 2147483648 by omega)]
  by_cases c : b < 97
  · rw [if_pos c, decide_eq_false (by omega)]
    rfl
  · rw [if_neg c]
    by_cases d : 122 < b
    · rw [if_pos d, decide_eq_false (by omega)]
      rfl
    · rw [if_neg d, decide_eq_true (by omega)]
      rfl
theorem P_isDigit_e {b : Nat} (h : b < 256) : P_Lexer_isDigit (nj b) = some (tI (isDg b)) := by
  unfold P_Lexer_isDigit isDg
  simp only [nj_lt_l (show b < 2147483648 by omega) (show (48 : Nat) < 2147483648 by omega), nj_l_lt (show b < 2147483648 by omega) (show (57 : Nat) < 2147483648 by omega)]
  by_cases c : b < 48
  · rw [if_pos c, decide_eq_false (by omega)]
    rfl
  · rw [if_neg c]
    by_cases d : 57 < b
    · rw [if_pos d, decide_eq_false (by omega)]
      rfl
    · rw [if_neg d, decide_eq_true (by omega)]
      rfl
theorem R_isLetter_e {b : Nat} (h : b < 256) : R_isLetter (nj b) = some (tI (isLt b)) := P_isLetter_e h
theorem R_isDigit_e {b : Nat} (h : b < 256) : R_isDigit (nj b) = some (tI (isDg b)) := P_isDigit_e h
def cd64 (f : Nat → Nat) : Nat → Int64
  | 0 => 0
  | k + 1 => cd64 f k * 32 + nl (f k)
theorem cd64_e {f : Nat → Nat} : ∀ k, cd64 f k = nl (cdN 32 f k)
  | 0 => rfl
  | k + 1 => by
    show cd64 f k * 32 + nl (f k) = nl (cdN 32 f k * 32 + f k)
    rw [cd64_e k, show (32 : Int64) = nl 32 from rfl, nl_mul, nl_add]
theorem P_withLetter_e {x : Int64} {b : Nat} (h : 97 ≤ b) (h2 : b < 256) : P_Lexer_withLetter x (nj b) = some (x * 32 + nl (b - 96)) := by
  unfold P_Lexer_withLetter
  rw [nj_sub_l h, nj_add_l, nj_64 (by omega), show b - 97 + 1 = b - 96 by omega]
/-- which word it is: 20 + its number; 2 where it is none -/
def wkS (wd : Nat → Int64) (x : Int64) : Nat → Nat → Nat
  | 0, _ => 2
  | d + 1, i => if wd i = x then 20 + i else wkS wd x d (i + 1)
theorem P_wordKind_2_e {m : Mem} {x : Int64} : ∀ (d i fu : Nat), i + d = 40 → d < fu → P_Lexer_wordKind_2 fu x (nj i) m = some (nj (wkS (aL m 21) x d i), m)
  | 0, i, fu + 1, h, _ => by
    rw [P_Lexer_wordKind_2.eq_2, if_pos (by rw [nj_l_le (by omega) (by omega)]; omega)]
    rfl
  | d + 1, i, fu + 1, h, h2 => by
    rw [P_Lexer_wordKind_2.eq_2, if_neg (by rw [nj_l_le (by omega) (by omega)]; omega), inb_nj (by omega), gd_t (decide_eq_true (by omega)), ix_nj (by omega), vb_e, nj_add_l, P_Lexer_wordKind_22, nj_l_add]
    simp only [cmp0]
    have e : wkS (aL m 21) x (d + 1) i = if aL m 21 i = x then 20 + i else wkS (aL m 21) x d (i + 1) := rfl
    rw [e]
    by_cases z : aL m 21 i = x
    · rw [if_pos z, if_pos z]
    · rw [if_neg z, if_neg z]
      exact P_wordKind_2_e d (i + 1) fu (by omega) (by omega)
/-- what the lexer reads of the tape -/
def PX (m : Mem) (by' : Nat → Nat) (n : Nat) : Prop := n ≤ 2000 ∧ mI m 641 16 = nj n ∧ ∀ i, i < n → by' i < 256 ∧ aI m 17 i = nj (by' i)
theorem P_takeLetters_7_e {by' : Nat → Nat} {n a t : Nat} (ht : t < 501) : ∀ (d j fu : Nat) (m : Mem), PX m by' n → mI m 646 16 = nj j → a ≤ j → j + d = n → d < fu →
    ∃ m', P_Lexer_takeLetters_7 fu (nj t) (nj a) (cd64 (fun i => by' (a + i) - 96) (j - a)) m = some (nj (if rnE (fun i => isLt (by' i)) d j - a ≤ 8 then wkS (aL m 21) (cd64 (fun i => by' (a + i) - 96) (rnE (fun i => isLt (by' i)) d j - a)) 40 0 else 1), m') ∧
      Ch [646] [20] nil m m' ∧ mC m' = mC m ∧ mS m' = mS m ∧ mI m' 646 16 = nj (rnE (fun i => isLt (by' i)) d j) ∧ aL m' 20 = up1 (aL m 20) t (cd64 (fun i => by' (a + i) - 96) (rnE (fun i => isLt (by' i)) d j - a))
  | d, j, 0, m, _, _, _, _, h2 => absurd h2 (Nat.not_lt_zero d)
  | d, j, fu + 1, m, h, hm, ha, h1, h2 => by
    have hn := h.1
    have last : ∃ m', P_Lexer_takeLetters_60 (nj t) (nj a) (cd64 (fun i => by' (a + i) - 96) (j - a)) m = some (nj (if j - a ≤ 8 then wkS (aL m 21) (cd64 (fun i => by' (a + i) - 96) (j - a)) 40 0 else 1), m') ∧
        Ch [646] [20] nil m m' ∧ mC m' = mC m ∧ mS m' = mS m ∧ mI m' 646 16 = nj j ∧ aL m' 20 = up1 (aL m 20) t (cd64 (fun i => by' (a + i) - 96) (j - a)) := by
      unfold P_Lexer_takeLetters_60
      rw [inb_nj (by omega), gd_t (decide_eq_true ht), vb_e, ix_nj (by omega), k_mI_wL, hm, nj_sub ha]
      refine ⟨wL m 20 t (cd64 (fun i => by' (a + i) - 96) (j - a)), ?_, Ch.rfl.wL (Or.inl (by decide)), by simp only [k_aI_wI_e, k_aI_wI, k_aI_wL, k_aI_wR, k_aI_sI, k_aI_sL, k_aI_sR, k_aI_nw, k_aL_wL_e, k_aL_wL, k_aL_wI, k_aL_wR, k_aL_sI, k_aL_sL, k_aL_sR, k_aL_nw, k_aR_wR_e, k_aR_wR, k_aR_wI, k_aR_wL, k_aR_sI, k_aR_sL, k_aR_sR, k_aR_nw, k_mI_sI_e, k_mI_sI, k_mI_wI, k_mI_wL, k_mI_wR, k_mI_sL, k_mI_sR, k_mI_nw, k_mL_sL_e, k_mL_sL, k_mL_wI, k_mL_wL, k_mL_wR, k_mL_sI, k_mL_sR, k_mL_nw, k_mR_sR_e, k_mR_sR, k_mR_wI, k_mR_wL, k_mR_wR, k_mR_sI, k_mR_sL, k_mR_nw, k_mT_wI, k_mT_wL, k_mT_wR, k_mT_sI, k_mT_sL, k_mT_sR, k_mT_nw, k_mN_wI, k_mN_wL, k_mN_wR, k_mN_sI, k_mN_sL, k_mN_sR, k_mN_nw, k_mC_wI, k_mC_wL, k_mC_wR, k_mC_sI, k_mC_sL, k_mC_sR, k_mC_nw, k_mS_wI, k_mS_wL, k_mS_wR, k_mS_sI, k_mS_sL, k_mS_sR, k_mS_nw, k_zF_1, k_zF_3, k_zF_11, k_zF_32, k_zF_36, k_zA_1, k_zA_3, k_zA_11, k_zA_32, k_zA_36, k_mT_fil, k_mN_fil, k_mI_fil, k_mL_fil, k_mR_fil, k_aL_fil, k_aR_fil, k_mC_fil, k_mS_fil, k_aI_fil_e, k_aI_fil], by simp only [k_aI_wI_e, k_aI_wI, k_aI_wL, k_aI_wR, k_aI_sI, k_aI_sL, k_aI_sR, k_aI_nw, k_aL_wL_e, k_aL_wL, k_aL_wI, k_aL_wR, k_aL_sI, k_aL_sL, k_aL_sR, k_aL_nw, k_aR_wR_e, k_aR_wR, k_aR_wI, k_aR_wL, k_aR_sI, k_aR_sL, k_aR_sR, k_aR_nw, k_mI_sI_e, k_mI_sI, k_mI_wI, k_mI_wL, k_mI_wR, k_mI_sL, k_mI_sR, k_mI_nw, k_mL_sL_e, k_mL_sL, k_mL_wI, k_mL_wL, k_mL_wR, k_mL_sI, k_mL_sR, k_mL_nw, k_mR_sR_e, k_mR_sR, k_mR_wI, k_mR_wL, k_mR_wR, k_mR_sI, k_mR_sL, k_mR_nw, k_mT_wI, k_mT_wL, k_mT_wR, k_mT_sI, k_mT_sL, k_mT_sR, k_mT_nw, k_mN_wI, k_mN_wL, k_mN_wR, k_mN_sI, k_mN_sL, k_mN_sR, k_mN_nw, k_mC_wI, k_mC_wL, k_mC_wR, k_mC_sI, k_mC_sL, k_mC_sR, k_mC_nw, k_mS_wI, k_mS_wL, k_mS_wR, k_mS_sI, k_mS_sL, k_mS_sR, k_mS_nw, k_zF_1, k_zF_3, k_zF_11, k_zF_32, k_zF_36, k_zA_1, k_zA_3, k_zA_11, k_zA_32, k_zA_36, k_mT_fil, k_mN_fil, k_mI_fil, k_mL_fil, k_mR_fil, k_aL_fil, k_aR_fil, k_mC_fil, k_mS_fil, k_aI_fil_e, k_aI_fil], by rw [k_mI_wL]; exact hm, k_aL_wL_e⟩
      by_cases z : j - a ≤ 8
      · rw [if_pos (by rw [nj_le_l (by omega) (by omega)]; exact z), if_pos z]
        unfold P_Lexer_wordKind
        have e := P_wordKind_2_e (m := wL m 20 t (cd64 (fun i => by' (a + i) - 96) (j - a))) (x := cd64 (fun i => by' (a + i) - 96) (j - a)) 40 0 FU (by omega) (by unfold FU; omega)
        have e' : P_Lexer_wordKind_2 FU (cd64 (fun i => by' (a + i) - 96) (j - a)) 0 (wL m 20 t (cd64 (fun i => by' (a + i) - 96) (j - a))) = _ := e
        rw [e', bn_s, k_aL_wL (by omega)]
      · rw [if_neg (by rw [nj_le_l (by omega) (by omega)]; exact z), if_neg z]
        rfl
    rw [P_Lexer_takeLetters_7.eq_2, h.2.1, hm]
    cases d with
    | zero =>
      rw [if_pos (by rw [nj_le (by omega) (by omega)]; omega)]
      exact last
    | succ d =>
      have hb := h.2.2 j (by omega)
      have e : rnE (fun i => isLt (by' i)) (d + 1) j = if isLt (by' j) = true then rnE (fun i => isLt (by' i)) d (j + 1) else j := rfl
      rw [if_neg (by rw [nj_le (by omega) (by omega)]; omega), inb_nj (by omega), gd_t (decide_eq_true (by omega)), ix_nj (by omega), hb.2, P_isLetter_e hb.1, bp_s, e]
      cases z : isLt (by' j) with
      | false =>
        rw [tI_f, if_pos (show (0 : Int32) = 0 from rfl)]
        exact last
      | true =>
        have z' := of_decide_eq_true z
        rw [tI_t, if_neg (show ¬ (1 : Int32) = 0 by decide), gd_t (decide_eq_true (by omega)), P_withLetter_e z'.1 hb.1, bp_s, vb_e, nj_add_l, if_pos (show true = true from rfl)]
        obtain ⟨m', i1, i2, i3, i4, i5, i6⟩ := P_takeLetters_7_e (a := a) ht d (j + 1) fu (sI m 646 16 (nj (j + 1))) (show PX (sI m 646 16 (nj (j + 1))) by' n from ⟨hn, by rw [k_mI_sI (by omega)]; exact h.2.1, by rw [k_aI_sI]; exact h.2.2⟩) (by rw [k_mI_sI_e, up1_ap, if_pos rfl]) (by omega) (by omega) (by omega)
        have ec : cd64 (fun i => by' (a + i) - 96) (j + 1 - a) = cd64 (fun i => by' (a + i) - 96) (j - a) * 32 + nl (by' j - 96) := by
          rw [show j + 1 - a = (j - a) + 1 by omega]
          show cd64 (fun i => by' (a + i) - 96) (j - a) * 32 + nl (by' (a + (j - a)) - 96) = _
          rw [show a + (j - a) = j by omega]
        rw [ec, k_aL_sI] at i1
        rw [k_aL_sI] at i6
        exact ⟨m', i1, Ch.trans (Ch.rfl.sI (by decide)) i2, i3.trans (by simp only [k_aI_wI_e, k_aI_wI, k_aI_wL, k_aI_wR, k_aI_sI, k_aI_sL, k_aI_sR, k_aI_nw, k_aL_wL_e, k_aL_wL, k_aL_wI, k_aL_wR, k_aL_sI, k_aL_sL, k_aL_sR, k_aL_nw, k_aR_wR_e, k_aR_wR, k_aR_wI, k_aR_wL, k_aR_sI, k_aR_sL, k_aR_sR, k_aR_nw, k_mI_sI_e, k_mI_sI, k_mI_wI, k_mI_wL, k_mI_wR, k_mI_sL, k_mI_sR, k_mI_nw, k_mL_sL_e, k_mL_sL, k_mL_wI, k_mL_wL, k_mL_wR, k_mL_sI, k_mL_sR, k_mL_nw, k_mR_sR_e, k_mR_sR, k_mR_wI, k_mR_wL, k_mR_wR, k_mR_sI, k_mR_sL, k_mR_nw, k_mT_wI, k_mT_wL, k_mT_wR, k_mT_sI, k_mT_sL, k_mT_sR, k_mT_nw, k_mN_wI, k_mN_wL, k_mN_wR, k_mN_sI, k_mN_sL, k_mN_sR, k_mN_nw, k_mC_wI, k_mC_wL, k_mC_wR, k_mC_sI, k_mC_sL, k_mC_sR, k_mC_nw, k_mS_wI, k_mS_wL, k_mS_wR, k_mS_sI, k_mS_sL, k_mS_sR, k_mS_nw, k_zF_1, k_zF_3, k_zF_11, k_zF_32, k_zF_36, k_zA_1, k_zA_3, k_zA_11, k_zA_32, k_zA_36, k_mT_fil, k_mN_fil, k_mI_fil, k_mL_fil, k_mR_fil, k_aL_fil, k_aR_fil, k_mC_fil, k_mS_fil, k_aI_fil_e, k_aI_fil]), i4.trans (by simp only [k_aI_wI_e, k_aI_wI, k_aI_wL, k_aI_wR, k_aI_sI, k_aI_sL, k_aI_sR, k_aI_nw, k_aL_wL_e, k_aL_wL, k_aL_wI, k_aL_wR, k_aL_sI, k_aL_sL, k_aL_sR, k_aL_nw, k_aR_wR_e, k_aR_wR, k_aR_wI, k_aR_wL, k_aR_sI, k_aR_sL, k_aR_sR, k_aR_nw, k_mI_sI_e, k_mI_sI, k_mI_wI, k_mI_wL, k_mI_wR, k_mI_sL, k_mI_sR, k_mI_nw, k_mL_sL_e, k_mL_sL, k_mL_wI, k_mL_wL, k_mL_wR, k_mL_sI, k_mL_sR, k_mL_nw, k_mR_sR_e, k_mR_sR, k_mR_wI, k_mR_wL, k_mR_wR, k_mR_sI, k_mR_sL, k_mR_nw, k_mT_wI, k_mT_wL, k_mT_wR, k_mT_sI, k_mT_sL, k_mT_sR, k_mT_nw, k_mN_wI, k_mN_wL, k_mN_wR, k_mN_sI, k_mN_sL, k_mN_sR, k_mN_nw, k_mC_wI, k_mC_wL, k_mC_wR, k_mC_sI, k_mC_sL, k_mC_sR, k_mC_nw, k_mS_wI, k_mS_wL, k_mS_wR, k_mS_sI, k_mS_sL, k_mS_sR, k_mS_nw, k_zF_1, k_zF_3, k_zF_11, k_zF_32, k_zF_36, k_zA_1, k_zA_3, k_zA_11, k_zA_32, k_zA_36, k_mT_fil, k_mN_fil, k_mI_fil, k_mL_fil, k_mR_fil, k_aL_fil, k_aR_fil, k_mC_fil, k_mS_fil, k_aI_fil_e, k_aI_fil]), i5, i6⟩
def cdD (f : Nat → Nat) : Nat → Int32
  | 0 => 0
  | k + 1 => cdD f k * 10 + nj (f k)
theorem P_takeDigits_7_e {by' : Nat → Nat} {n a t : Nat} (ht : t < 501) : ∀ (d j fu : Nat) (m : Mem), PX m by' n → mI m 646 16 = nj j → a ≤ j → j + d = n → d < fu →
    ∃ m', P_Lexer_takeDigits_7 fu (nj t) (nj a) (cdD (fun i => by' (a + i) - 48) (j - a)) m = some (nj (if rnE (fun i => isDg (by' i)) d j - a ≤ 4 then 3 else 1), m') ∧
      Ch [646] [20] nil m m' ∧ mC m' = mC m ∧ mS m' = mS m ∧ mI m' 646 16 = nj (rnE (fun i => isDg (by' i)) d j) ∧ aL m' 20 = up1 (aL m 20) t (Int32.toInt64 (cdD (fun i => by' (a + i) - 48) (rnE (fun i => isDg (by' i)) d j - a)))
  | d, j, 0, m, _, _, _, _, h2 => absurd h2 (Nat.not_lt_zero d)
  | d, j, fu + 1, m, h, hm, ha, h1, h2 => by
    have hn := h.1
    have last : ∃ m', P_Lexer_takeDigits_64 (nj t) (nj a) (cdD (fun i => by' (a + i) - 48) (j - a)) m = some (nj (if j - a ≤ 4 then 3 else 1), m') ∧
        Ch [646] [20] nil m m' ∧ mC m' = mC m ∧ mS m' = mS m ∧ mI m' 646 16 = nj j ∧ aL m' 20 = up1 (aL m 20) t (Int32.toInt64 (cdD (fun i => by' (a + i) - 48) (j - a))) := by
      unfold P_Lexer_takeDigits_64
      rw [inb_nj (by omega), gd_t (decide_eq_true ht), vb_e, ix_nj (by omega), k_mI_wL, hm, nj_sub ha]
      refine ⟨wL m 20 t (Int32.toInt64 (cdD (fun i => by' (a + i) - 48) (j - a))), ?_, Ch.rfl.wL (Or.inl (by decide)), by simp only [k_aI_wI_e, k_aI_wI, k_aI_wL, k_aI_wR, k_aI_sI, k_aI_sL, k_aI_sR, k_aI_nw, k_aL_wL_e, k_aL_wL, k_aL_wI, k_aL_wR, k_aL_sI, k_aL_sL, k_aL_sR, k_aL_nw, k_aR_wR_e, k_aR_wR, k_aR_wI, k_aR_wL, k_aR_sI, k_aR_sL, k_aR_sR, k_aR_nw, k_mI_sI_e, k_mI_sI, k_mI_wI, k_mI_wL, k_mI_wR, k_mI_sL, k_mI_sR, k_mI_nw, k_mL_sL_e, k_mL_sL, k_mL_wI, k_mL_wL, k_mL_wR, k_mL_sI, k_mL_sR, k_mL_nw, k_mR_sR_e, k_mR_sR, k_mR_wI, k_mR_wL, k_mR_wR, k_mR_sI, k_mR_sL, k_mR_nw, k_mT_wI, k_mT_wL, k_mT_wR, k_mT_sI, k_mT_sL, k_mT_sR, k_mT_nw, k_mN_wI, k_mN_wL, k_mN_wR, k_mN_sI, k_mN_sL, k_mN_sR, k_mN_nw, k_mC_wI, k_mC_wL, k_mC_wR, k_mC_sI, k_mC_sL, k_mC_sR, k_mC_nw, k_mS_wI, k_mS_wL, k_mS_wR, k_mS_sI, k_mS_sL, k_mS_sR, k_mS_nw, k_zF_1, k_zF_3, k_zF_11, k_zF_32, k_zF_36, k_zA_1, k_zA_3, k_zA_11, k_zA_32, k_zA_36, k_mT_fil, k_mN_fil, k_mI_fil, k_mL_fil, k_mR_fil, k_aL_fil, k_aR_fil, k_mC_fil, k_mS_fil, k_aI_fil_e, k_aI_fil], by simp only [k_aI_wI_e, k_aI_wI, k_aI_wL, k_aI_wR, k_aI_sI, k_aI_sL, k_aI_sR, k_aI_nw, k_aL_wL_e, k_aL_wL, k_aL_wI, k_aL_wR, k_aL_sI, k_aL_sL, k_aL_sR, k_aL_nw, k_aR_wR_e, k_aR_wR, k_aR_wI, k_aR_wL, k_aR_sI, k_aR_sL, k_aR_sR, k_aR_nw, k_mI_sI_e, k_mI_sI, k_mI_wI, k_mI_wL, k_mI_wR, k_mI_sL, k_mI_sR, k_mI_nw, k_mL_sL_e, k_mL_sL, k_mL_wI, k_mL_wL, k_mL_wR, k_mL_sI, k_mL_sR, k_mL_nw, k_mR_sR_e, k_mR_sR, k_mR_wI, k_mR_wL, k_mR_wR, k_mR_sI, k_mR_sL, k_mR_nw, k_mT_wI, k_mT_wL, k_mT_wR, k_mT_sI, k_mT_sL, k_mT_sR, k_mT_nw, k_mN_wI, k_mN_wL, k_mN_wR, k_mN_sI, k_mN_sL, k_mN_sR, k_mN_nw, k_mC_wI, k_mC_wL, k_mC_wR, k_mC_sI, k_mC_sL, k_mC_sR, k_mC_nw, k_mS_wI, k_mS_wL, k_mS_wR, k_mS_sI, k_mS_sL, k_mS_sR, k_mS_nw, k_zF_1, k_zF_3, k_zF_11, k_zF_32, k_zF_36, k_zA_1, k_zA_3, k_zA_11, k_zA_32, k_zA_36, k_mT_fil, k_mN_fil, k_mI_fil, k_mL_fil, k_mR_fil, k_aL_fil, k_aR_fil, k_mC_fil, k_mS_fil, k_aI_fil_e, k_aI_fil], by rw [k_mI_wL]; exact hm, k_aL_wL_e⟩
      by_cases z : j - a ≤ 4
      · rw [if_pos (by rw [nj_le_l (by omega) (by omega)]; exact z), if_pos z]
        rfl
      · rw [if_neg (by rw [nj_le_l (by omega) (by omega)]; exact z), if_neg z]
        rfl
    rw [P_Lexer_takeDigits_7.eq_2, h.2.1, hm]
    cases d with
    | zero =>
      rw [if_pos (by rw [nj_le (by omega) (by omega)]; omega)]
      exact last
    | succ d =>
      have hb := h.2.2 j (by omega)
      have e : rnE (fun i => isDg (by' i)) (d + 1) j = if isDg (by' j) = true then rnE (fun i => isDg (by' i)) d (j + 1) else j := rfl
      rw [if_neg (by rw [nj_le (by omega) (by omega)]; omega), inb_nj (by omega), gd_t (decide_eq_true (by omega)), ix_nj (by omega), hb.2, P_isDigit_e hb.1, bp_s, e]
      cases z : isDg (by' j) with
      | false =>
        rw [tI_f, if_pos (show (0 : Int32) = 0 from rfl)]
        exact last
      | true =>
        have z' := of_decide_eq_true z
        rw [tI_t, if_neg (show ¬ (1 : Int32) = 0 by decide), gd_t (decide_eq_true (by omega)), vb_e, vb_e, nj_add_l, nj_sub_l z'.1, if_pos (show true = true from rfl)]
        obtain ⟨m', i1, i2, i3, i4, i5, i6⟩ := P_takeDigits_7_e (a := a) ht d (j + 1) fu (sI m 646 16 (nj (j + 1))) (show PX (sI m 646 16 (nj (j + 1))) by' n from ⟨hn, by rw [k_mI_sI (by omega)]; exact h.2.1, by rw [k_aI_sI]; exact h.2.2⟩) (by rw [k_mI_sI_e, up1_ap, if_pos rfl]) (by omega) (by omega) (by omega)
        have ec : cdD (fun i => by' (a + i) - 48) (j + 1 - a) = cdD (fun i => by' (a + i) - 48) (j - a) * 10 + nj (by' j - 48) := by
          rw [show j + 1 - a = (j - a) + 1 by omega]
          show cdD (fun i => by' (a + i) - 48) (j - a) * 10 + nj (by' (a + (j - a)) - 48) = _
          rw [show a + (j - a) = j by omega]
        rw [ec] at i1
        rw [k_aL_sI] at i6
        exact ⟨m', i1, Ch.trans (Ch.rfl.sI (by decide)) i2, i3.trans (by simp only [k_aI_wI_e, k_aI_wI, k_aI_wL, k_aI_wR, k_aI_sI, k_aI_sL, k_aI_sR, k_aI_nw, k_aL_wL_e, k_aL_wL, k_aL_wI, k_aL_wR, k_aL_sI, k_aL_sL, k_aL_sR, k_aL_nw, k_aR_wR_e, k_aR_wR, k_aR_wI, k_aR_wL, k_aR_sI, k_aR_sL, k_aR_sR, k_aR_nw, k_mI_sI_e, k_mI_sI, k_mI_wI, k_mI_wL, k_mI_wR, k_mI_sL, k_mI_sR, k_mI_nw, k_mL_sL_e, k_mL_sL, k_mL_wI, k_mL_wL, k_mL_wR, k_mL_sI, k_mL_sR, k_mL_nw, k_mR_sR_e, k_mR_sR, k_mR_wI, k_mR_wL, k_mR_wR, k_mR_sI, k_mR_sL, k_mR_nw, k_mT_wI, k_mT_wL, k_mT_wR, k_mT_sI, k_mT_sL, k_mT_sR, k_mT_nw, k_mN_wI, k_mN_wL, k_mN_wR, k_mN_sI, k_mN_sL, k_mN_sR, k_mN_nw, k_mC_wI, k_mC_wL, k_mC_wR, k_mC_sI, k_mC_sL, k_mC_sR, k_mC_nw, k_mS_wI, k_mS_wL, k_mS_wR, k_mS_sI, k_mS_sL, k_mS_sR, k_mS_nw, k_zF_1, k_zF_3, k_zF_11, k_zF_32, k_zF_36, k_zA_1, k_zA_3, k_zA_11, k_zA_32, k_zA_36, k_mT_fil, k_mN_fil, k_mI_fil, k_mL_fil, k_mR_fil, k_aL_fil, k_aR_fil, k_mC_fil, k_mS_fil, k_aI_fil_e, k_aI_fil]), i4.trans (by simp only [k_aI_wI_e, k_aI_wI, k_aI_wL, k_aI_wR, k_aI_sI, k_aI_sL, k_aI_sR, k_aI_nw, k_aL_wL_e, k_aL_wL, k_aL_wI, k_aL_wR, k_aL_sI, k_aL_sL, k_aL_sR, k_aL_nw, k_aR_wR_e, k_aR_wR, k_aR_wI, k_aR_wL, k_aR_sI, k_aR_sL, k_aR_sR, k_aR_nw, k_mI_sI_e, k_mI_sI, k_mI_wI, k_mI_wL, k_mI_wR, k_mI_sL, k_mI_sR, k_mI_nw, k_mL_sL_e, k_mL_sL, k_mL_wI, k_mL_wL, k_mL_wR, k_mL_sI, k_mL_sR, k_mL_nw, k_mR_sR_e, k_mR_sR, k_mR_wI, k_mR_wL, k_mR_wR, k_mR_sI, k_mR_sL, k_mR_nw, k_mT_wI, k_mT_wL, k_mT_wR, k_mT_sI, k_mT_sL, k_mT_sR, k_mT_nw, k_mN_wI, k_mN_wL, k_mN_wR, k_mN_sI, k_mN_sL, k_mN_sR, k_mN_nw, k_mC_wI, k_mC_wL, k_mC_wR, k_mC_sI, k_mC_sL, k_mC_sR, k_mC_nw, k_mS_wI, k_mS_wL, k_mS_wR, k_mS_sI, k_mS_sL, k_mS_sR, k_mS_nw, k_zF_1, k_zF_3, k_zF_11, k_zF_32, k_zF_36, k_zA_1, k_zA_3, k_zA_11, k_zA_32, k_zA_36, k_mT_fil, k_mN_fil, k_mI_fil, k_mL_fil, k_mR_fil, k_aL_fil, k_aR_fil, k_mC_fil, k_mS_fil, k_aI_fil_e, k_aI_fil]), i5, i6⟩
