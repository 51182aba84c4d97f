/-! Layer C: the reference cuts the text into tokens -/
/-- what the reference holds of token i -/
def TkR (m : Mem) (by' : Nat → Nat) (n : Nat) (wd : Nat → Int64) (i : Nat) : Prop :=
  aI m 3 i = nj (kM (kdT by' n wd i)) ∧ aI m 4 i = nj (psT by' n i) ∧ (psT by' n i < n → (isLt (by' (psT by' n i)) = true → aL m 6 i = nl (cdN 27 (fun q => by' (psT by' n i + q) - 96) (min (ltE by' n (psT by' n i) - psT by' n i) 8))) ∧ (isLt (by' (psT by' n i)) = false → isDg (by' (psT by' n i)) = true → aI m 5 i = cdD (fun q => by' (psT by' n i + q) - 48) (min (dgE by' n (psT by' n i) - psT by' n i) 4)))
theorem RT.Ch {m m' : Mem} {by' : Nat → Nat} {n : Nat} {F A : List Nat} (h : RT m by' n) (c : Ch F A nil m m') (h82 : 82 ≤ mC m) (hF : 1540 ∉ F) (hA : 2 ∉ A) : RT m' by' n :=
  ⟨h.1, ((c.2.2.1 1540 hF 0 (by omega)).1).trans h.2.1, by rw [(c.2.2.2 2 hA (fun z => z) (by omega)).1]; exact h.2.2⟩
theorem rnE_run {ok : Nat → Bool} : ∀ (d j i : Nat), j ≤ i → i < rnE ok d j → ok i = true
  | 0, j, i, h1, h2 => by
    have : i < j := h2
    omega
  | d + 1, j, i, h1, h2 => by
    have h2' : i < (if ok j = true then rnE ok d (j + 1) else j) := h2
    by_cases z : ok j = true
    · rw [if_pos z] at h2'
      by_cases w : i = j
      · rw [w]; exact z
      · exact rnE_run d (j + 1) i (by omega) h2'
    · rw [if_neg z] at h2'
      omega
theorem ltE_Lt {by' : Nat → Nat} {n j : Nat} : Lt (fun q => by' (j + q) - 96) (ltE by' n j - j) := fun i hi => by
  have h := rnE_run (ok := fun i => isLt (by' i)) (n - j) j (j + i) (by omega) (by unfold ltE at hi; omega)
  have := of_decide_eq_true h
  show 1 ≤ by' (j + i) - 96 ∧ by' (j + i) - 96 ≤ 26
  omega
theorem sgN_f (b : Nat) : sgN (sgK b false) = 1 := by
  unfold sgN sgK
  simp only [Bool.false_eq_true, if_false]
  rw [if_neg]
  repeat' split
  all_goals omega
theorem tkE_n {by' : Nat → Nat} {n j : Nat} (hj : j < n) : j < tkE by' n j ∧ tkE by' n j ≤ n := by
  unfold tkE ltE dgE
  have h1 := rnE_b (ok := fun i => isLt (by' i)) (n - j) j
  have h2 := rnE_b (ok := fun i => isDg (by' i)) (n - j) j
  obtain ⟨d, hd⟩ : ∃ d, n - j = d + 1 := ⟨n - j - 1, by omega⟩
  rw [hd] at h1 h2 ⊢
  by_cases z : isLt (by' j) = true
  · rw [if_pos z]
    have e : rnE (fun i => isLt (by' i)) (d + 1) j = rnE (fun i => isLt (by' i)) d (j + 1) := if_pos z
    have h3 := rnE_b (ok := fun i => isLt (by' i)) d (j + 1)
    omega
  · rw [if_neg z]
    by_cases y : isDg (by' j) = true
    · rw [if_pos y]
      have e : rnE (fun i => isDg (by' i)) (d + 1) j = rnE (fun i => isDg (by' i)) d (j + 1) := if_pos y
      have h3 := rnE_b (ok := fun i => isDg (by' i)) d (j + 1)
      omega
    · rw [if_neg y]
      by_cases u : j + 1 < n
      · unfold sgN
        split <;> omega
      · have : eqF by' n j = false := decide_eq_false (fun w => u w.1)
        rw [this]
        have := sgN_f (by' j)
        omega
theorem bkE_bl {by' : Nat → Nat} {n j : Nat} (hj : j < n) (hb : isBl (by' j) = true) : bkE by' n j = bkE by' n (j + 1) := by
  unfold bkE
  obtain ⟨d, hd⟩ : ∃ d, n - j = d + 1 := ⟨n - j - 1, by omega⟩
  rw [hd, show n - (j + 1) = d by omega]
  exact if_pos hb
theorem bkE_no {by' : Nat → Nat} {n j : Nat} (hj : j < n) (hb : isBl (by' j) = false) : bkE by' n j = j := by
  unfold bkE
  obtain ⟨d, hd⟩ : ∃ d, n - j = d + 1 := ⟨n - j - 1, by omega⟩
  rw [hd]
  exact if_neg (show ¬ isBl (by' j) = true by rw [hb]; decide)
theorem bkE_n {by' : Nat → Nat} {n : Nat} : bkE by' n n = n := by
  unfold bkE
  rw [Nat.sub_self]
  rfl
theorem lt_bl : ∀ b, b < 256 → isLt b = true → isBl b = false := by decide +kernel
theorem dg_bl : ∀ b, b < 256 → isDg b = true → isBl b = false := by decide +kernel
theorem tkW_Ch {m : Mem} {k : Nat} {x1 x2 x3 : Int32} {x4 : Int64} : Ch [1546] [3, 4, 5, 6] nil m (tkW m k x1 x2 x3 x4) :=
  ((((Ch.rfl.wI (Or.inl (by decide))).wI (Or.inl (by decide))).wI (Or.inl (by decide))).wL (Or.inl (by decide))).sI (by decide)
/-- the token just written, and those ahead -/
theorem tkW_tk {m : Mem} {by' : Nat → Nat} {n k : Nat} {wd : Nat → Int64} {x1 x3 : Int32} {x4 : Int64} (ht : ∀ i, i < k → TkR m by' n wd i) (h1 : x1 = nj (kM (kdT by' n wd k)))
    (h2 : psT by' n k < n → (isLt (by' (psT by' n k)) = true → x4 = nl (cdN 27 (fun q => by' (psT by' n k + q) - 96) (min (ltE by' n (psT by' n k) - psT by' n k) 8))) ∧ (isLt (by' (psT by' n k)) = false → isDg (by' (psT by' n k)) = true → x3 = cdD (fun q => by' (psT by' n k + q) - 48) (min (dgE by' n (psT by' n k) - psT by' n k) 4))) :
    ∀ i, i < k + 1 → TkR (tkW m k x1 (nj (psT by' n k)) x3 x4) by' n wd i := by
  intro i hi
  have e3 : aI (tkW m k x1 (nj (psT by' n k)) x3 x4) 3 i = if i = k then x1 else aI m 3 i := by
    unfold tkW
    rw [k_aI_sI, k_aI_wL, k_aI_wI (by omega), k_aI_wI (by omega), k_aI_wI_e, up1_ap]
  have e4 : aI (tkW m k x1 (nj (psT by' n k)) x3 x4) 4 i = if i = k then nj (psT by' n k) else aI m 4 i := by
    unfold tkW
    rw [k_aI_sI, k_aI_wL, k_aI_wI (by omega), k_aI_wI_e, up1_ap, k_aI_wI (by omega)]
  have e5 : aI (tkW m k x1 (nj (psT by' n k)) x3 x4) 5 i = if i = k then x3 else aI m 5 i := by
    unfold tkW
    rw [k_aI_sI, k_aI_wL, k_aI_wI_e, up1_ap, k_aI_wI (by omega), k_aI_wI (by omega)]
  have e6 : aL (tkW m k x1 (nj (psT by' n k)) x3 x4) 6 i = if i = k then x4 else aL m 6 i := by
    unfold tkW
    rw [k_aL_sI, k_aL_wL_e, up1_ap, k_aL_wI, k_aL_wI, k_aL_wI]
  unfold TkR
  rw [e3, e4, e5, e6]
  by_cases z : i = k
  · rw [if_pos z, if_pos z, if_pos z, if_pos z, z]
    exact ⟨h1, rfl, h2⟩
  · rw [if_neg z, if_neg z, if_neg z, if_neg z]
    exact ht i (by omega)
theorem tkW_mC {m : Mem} {k : Nat} {x1 x2 x3 : Int32} {x4 : Int64} : mC (tkW m k x1 x2 x3 x4) = mC m ∧ mS (tkW m k x1 x2 x3 x4) = mS m ∧ mI (tkW m k x1 x2 x3 x4) 1546 0 = nj (k + 1) ∧ aL (tkW m k x1 x2 x3 x4) 7 = aL m 7 := by
  unfold tkW
  refine ⟨by simp only [k_aI_wI_e, k_aI_wI, k_aI_wL, k_aI_wR, k_aI_sI, k_aI_sL, k_aI_sR, k_aI_nw, k_aL_wL_e, k_aL_wL, k_aL_wI, k_aL_wR, k_aL_sI, k_aL_sL, k_aL_sR, k_aL_nw, k_aR_wR_e, k_aR_wR, k_aR_wI, k_aR_wL, k_aR_sI, k_aR_sL, k_aR_sR, k_aR_nw, k_mI_sI_e, k_mI_sI, k_mI_wI, k_mI_wL, k_mI_wR, k_mI_sL, k_mI_sR, k_mI_nw, k_mL_sL_e, k_mL_sL, k_mL_wI, k_mL_wL, k_mL_wR, k_mL_sI, k_mL_sR, k_mL_nw, k_mR_sR_e, k_mR_sR, k_mR_wI, k_mR_wL, k_mR_wR, k_mR_sI, k_mR_sL, k_mR_nw, k_mT_wI, k_mT_wL, k_mT_wR, k_mT_sI, k_mT_sL, k_mT_sR, k_mT_nw, k_mN_wI, k_mN_wL, k_mN_wR, k_mN_sI, k_mN_sL, k_mN_sR, k_mN_nw, k_mC_wI, k_mC_wL, k_mC_wR, k_mC_sI, k_mC_sL, k_mC_sR, k_mC_nw, k_mS_wI, k_mS_wL, k_mS_wR, k_mS_sI, k_mS_sL, k_mS_sR, k_mS_nw, k_zF_1, k_zF_3, k_zF_11, k_zF_32, k_zF_36, k_zA_1, k_zA_3, k_zA_11, k_zA_32, k_zA_36, k_mT_fil, k_mN_fil, k_mI_fil, k_mL_fil, k_mR_fil, k_aL_fil, k_aR_fil, k_mC_fil, k_mS_fil, k_aI_fil_e, k_aI_fil], by simp only [k_aI_wI_e, k_aI_wI, k_aI_wL, k_aI_wR, k_aI_sI, k_aI_sL, k_aI_sR, k_aI_nw, k_aL_wL_e, k_aL_wL, k_aL_wI, k_aL_wR, k_aL_sI, k_aL_sL, k_aL_sR, k_aL_nw, k_aR_wR_e, k_aR_wR, k_aR_wI, k_aR_wL, k_aR_sI, k_aR_sL, k_aR_sR, k_aR_nw, k_mI_sI_e, k_mI_sI, k_mI_wI, k_mI_wL, k_mI_wR, k_mI_sL, k_mI_sR, k_mI_nw, k_mL_sL_e, k_mL_sL, k_mL_wI, k_mL_wL, k_mL_wR, k_mL_sI, k_mL_sR, k_mL_nw, k_mR_sR_e, k_mR_sR, k_mR_wI, k_mR_wL, k_mR_wR, k_mR_sI, k_mR_sL, k_mR_nw, k_mT_wI, k_mT_wL, k_mT_wR, k_mT_sI, k_mT_sL, k_mT_sR, k_mT_nw, k_mN_wI, k_mN_wL, k_mN_wR, k_mN_sI, k_mN_sL, k_mN_sR, k_mN_nw, k_mC_wI, k_mC_wL, k_mC_wR, k_mC_sI, k_mC_sL, k_mC_sR, k_mC_nw, k_mS_wI, k_mS_wL, k_mS_wR, k_mS_sI, k_mS_sL, k_mS_sR, k_mS_nw, k_zF_1, k_zF_3, k_zF_11, k_zF_32, k_zF_36, k_zA_1, k_zA_3, k_zA_11, k_zA_32, k_zA_36, k_mT_fil, k_mN_fil, k_mI_fil, k_mL_fil, k_mR_fil, k_aL_fil, k_aR_fil, k_mC_fil, k_mS_fil, k_aI_fil_e, k_aI_fil], by rw [k_mI_sI_e, up1_ap, if_pos rfl], by rw [k_aL_sI, k_aL_wL (by omega), k_aL_wI, k_aL_wI, k_aL_wI]⟩
/-- what the cut leaves -/
def CutR (m m' : Mem) (by' : Nat → Nat) (n : Nat) (wd : Nat → Int64) : Prop := Ch [1546] [3, 4, 5, 6] nil m m' ∧ mC m' = mC m ∧ mS m' = mS m ∧ ∃ T, 1 ≤ T ∧ T ≤ 501 ∧ mI m' 1546 0 = nj T ∧ (∀ i, i < T → TkR m' by' n wd i ∧ psT by' n i ≤ n) ∧ (∀ i, i + 1 < T → psT by' n i < n) ∧ (T = 501 ∨ psT by' n (T - 1) = n)
theorem R_cut_7_e {by' : Nat → Nat} {n : Nat} {wd : Nat → Int64} : ∀ (fu pos k : Nat) (m : Mem), RT m by' n → 82 ≤ mC m → KyOk wd (aL m 7) → mI m 1546 0 = nj k → pos ≤ n → bkE by' n pos = psT by' n k → k ≤ 501 → n - pos < fu → (∀ i, i < k → TkR m by' n wd i ∧ psT by' n i < n) →
    ∃ m', R_cut_7 fu (nj pos) m = some ((), m') ∧ CutR m m' by' n wd
  | 0, pos, k, m, _, _, _, _, _, _, _, h, _ => by omega
  | fu + 1, pos, k, m, h, h82, hw, hm, hp, hb, hk, hf, ht => by
    have hn := h.1
    rw [R_cut_7.eq_2, hm]
    by_cases z : k = 501
    · rw [if_pos (by rw [nj_l_lt (by omega) (by omega)]; omega)]
      exact ⟨m, rfl, Ch.rfl, rfl, rfl, k, by omega, by omega, hm, fun i hi => ⟨(ht i hi).1, by have := (ht i hi).2; omega⟩, fun i hi => (ht i (by omega)).2, Or.inl z⟩
    rw [if_neg (by rw [nj_l_lt (by omega) (by omega)]; omega), R_at_e h (by omega), bn_s, h.2.1]
    by_cases y : pos < n
    · rw [if_pos (by rw [nj_lt (by omega) (by omega)]; exact y)]
      have eb : byO by' n pos = by' pos := by unfold byO; rw [if_pos y]
      have hbb := (h.2.2 pos y).1
      rw [eb]
      -- a token taken
      have tok : ∀ (x1 x3 : Int32) (x4 : Int64), psT by' n k = pos → x1 = nj (kM (tkK by' n wd pos)) →
          ((isLt (by' pos) = true → x4 = nl (cdN 27 (fun q => by' (pos + q) - 96) (min (ltE by' n pos - pos) 8))) ∧ (isLt (by' pos) = false → isDg (by' pos) = true → x3 = cdD (fun q => by' (pos + q) - 48) (min (dgE by' n pos - pos) 4))) →
          ∃ m', R_cut_7 fu (nj (tkE by' n pos)) (tkW m k x1 (nj pos) x3 x4) = some ((), m') ∧ CutR m m' by' n wd := by
        intro x1 x3 x4 q1 q2 q3
        have c := tkW_Ch (m := m) (k := k) (x1 := x1) (x2 := nj pos) (x3 := x3) (x4 := x4)
        obtain ⟨d1, d2, d3, d4⟩ := tkW_mC (m := m) (k := k) (x1 := x1) (x2 := nj pos) (x3 := x3) (x4 := x4)
        have te := tkE_n (by' := by') y
        have kd : kdT by' n wd k = tkK by' n wd pos := by unfold kdT; rw [q1, if_pos y]
        have tk := tkW_tk (m := m) (k := k) (x1 := x1) (x3 := x3) (x4 := x4) (wd := wd) (fun i hi => (ht i hi).1) (by rw [kd]; exact q2) (by rw [q1]; exact fun _ => q3)
        rw [q1] at tk
        obtain ⟨m', a1, a2, a3, a4, a5⟩ := R_cut_7_e (wd := wd) fu (tkE by' n pos) (k + 1) (tkW m k x1 (nj pos) x3 x4) (h.Ch c h82 (by decide) (by decide)) (by omega) (by rw [d4]; exact hw) d3 te.2 (by rw [← q1]; rfl) (by omega) (by omega) (fun i hi => ⟨tk i hi, by
          by_cases w : i = k
          · rw [w, q1]; exact y
          · exact (ht i (by omega)).2⟩)
        exact ⟨m', a1, Ch.trans c a2, a3.trans d1, a4.trans d2, a5⟩
      have bl : isBl (by' pos) = true → ∃ m', R_cut_67 (fun z0 z1 => R_cut_7 fu z0 z1) (nj pos) m = some ((), m') ∧ CutR m m' by' n wd := by
        intro w
        unfold R_cut_67 R_cut_291
        rw [vb_e, nj_add_l]
        exact R_cut_7_e (wd := wd) fu (pos + 1) k m h h82 hw hm (by omega) (by rw [← hb]; exact (bkE_bl y w).symm) hk (by omega) ht
      have e9 : (nj (by' pos) = 9) = (by' pos = 9) := nj_eq_l (by omega) (by omega)
      have e10 : (nj (by' pos) = 10) = (by' pos = 10) := nj_eq_l (by omega) (by omega)
      have e13 : (nj (by' pos) = 13) = (by' pos = 13) := nj_eq_l (by omega) (by omega)
      have e32 : (nj (by' pos) = 32) = (by' pos = 32) := nj_eq_l (by omega) (by omega)
      simp only [e9, e10, e13, e32]
      by_cases w9 : by' pos = 9
      · rw [if_pos w9]; exact bl (decide_eq_true (by omega))
      by_cases w10 : by' pos = 10
      · rw [if_neg w9, if_pos w10]; exact bl (decide_eq_true (by omega))
      by_cases w13 : by' pos = 13
      · rw [if_neg w9, if_neg w10, if_pos w13]; exact bl (decide_eq_true (by omega))
      by_cases w32 : by' pos = 32
      · rw [if_neg w9, if_neg w10, if_neg w13, if_pos w32]; exact bl (decide_eq_true (by omega))
      rw [if_neg w9, if_neg w10, if_neg w13, if_neg w32, R_isLetter_e hbb, bp_s]
      have ps : psT by' n k = pos := by rw [← hb]; exact bkE_no y (decide_eq_false (by omega))
      have lE := rnE_b (ok := fun i => isLt (by' i)) (n - pos) pos
      have dE := rnE_b (ok := fun i => isDg (by' i)) (n - pos) pos
      cases u : isLt (by' pos) with
      | true =>
        rw [tI_t, if_neg (show ¬ (1 : Int32) = 0 by decide)]
        have e := R_cut_85_e (a := pos) h (k7 := fun z0 z1 => R_cut_7 fu z0 z1) (n - pos) pos FU (Nat.le_refl _) rfl (by omega) (by unfold FU; omega)
        rw [Nat.sub_self] at e
        have e' : R_cut_85 (fun z0 z1 => R_cut_7 fu z0 z1) FU (nj pos) 0 0 m = _ := e
        have tl : tkE by' n pos = ltE by' n pos := by unfold tkE; rw [if_pos u]
        rw [e', R_cut_124_e hm (by omega) (by omega)]
        have eq : pos + (rnE (fun i => isLt (by' i)) (n - pos) pos - pos) = tkE by' n pos := by rw [tl]; unfold ltE; omega
        show ∃ m', R_cut_7 fu (nj (pos + (rnE (fun i => isLt (by' i)) (n - pos) pos - pos))) _ = some ((), m') ∧ _
        rw [eq]
        refine tok _ _ _ ps ?_ ⟨fun _ => rfl, fun w => by rw [u] at w; cases w⟩
        show nj (if ltE by' n pos - pos ≤ 7 then kyL (aL m 7) (nl (cdN 27 (fun q => by' (pos + q) - 96) (min (ltE by' n pos - pos) 8))) 40 0 1 else if ltE by' n pos - pos ≤ 8 then 1 else 3) = _
        unfold tkK
        rw [if_pos u]
        by_cases v : ltE by' n pos - pos ≤ 8
        · have we := word_e hw (f := fun q => by' (pos + q) - 96) (k := ltE by' n pos - pos) ltE_Lt v
          rw [if_pos v, if_pos v, show min (ltE by' n pos - pos) 8 = ltE by' n pos - pos by omega, we]
          unfold ltC
          rw [cd64_e]
        · rw [if_neg v, if_neg v, if_neg (by omega)]
          rfl
      | false =>
        rw [tI_f, if_pos (show (0 : Int32) = 0 from rfl), R_isDigit_e hbb, bp_s]
        cases v : isDg (by' pos) with
        | true =>
          rw [tI_t, if_neg (show ¬ (1 : Int32) = 0 by decide)]
          have e := R_cut_208_e (a := pos) h (k7 := fun z0 z1 => R_cut_7 fu z0 z1) (n - pos) pos FU (Nat.le_refl _) rfl (by omega) (by unfold FU; omega)
          rw [Nat.sub_self] at e
          have e' : R_cut_208 (fun z0 z1 => R_cut_7 fu z0 z1) FU (nj pos) 0 0 m = _ := e
          have tl : tkE by' n pos = dgE by' n pos := by unfold tkE; rw [if_neg (show ¬ isLt (by' pos) = true by rw [u]; decide), if_pos v]
          rw [e', R_cut_250_e hm (by omega) (by omega)]
          have eq : pos + (rnE (fun i => isDg (by' i)) (n - pos) pos - pos) = tkE by' n pos := by rw [tl]; unfold dgE; omega
          show ∃ m', R_cut_7 fu (nj (pos + (rnE (fun i => isDg (by' i)) (n - pos) pos - pos))) _ = some ((), m') ∧ _
          rw [eq]
          refine tok _ _ _ ps ?_ ⟨(fun w => by rw [u] at w; cases w), fun _ _ => rfl⟩
          show nj (if dgE by' n pos - pos ≤ 4 then 2 else 3) = _
          unfold tkK
          rw [if_neg (show ¬ isLt (by' pos) = true by rw [u]; decide), if_pos v]
          split <;> rfl
        | false =>
          rw [tI_f, if_pos (show (0 : Int32) = 0 from rfl), nj_add_l, R_at_e h (by omega), bn_s, R_sign_e hbb (byO_lt h), R_token_e hm (by omega), bn_s, bn_s, vb_e]
          have eq : decide (byO by' n (pos + 1) = 61) = eqF by' n pos := by
            unfold eqF byO
            by_cases c : pos + 1 < n
            · rw [if_pos c]
              by_cases c2 : by' (pos + 1) = 61
              · rw [decide_eq_true c2, decide_eq_true ⟨c, c2⟩]
              · rw [decide_eq_false c2, decide_eq_false (fun w => c2 w.2)]
            · rw [if_neg c, decide_eq_false (by omega), decide_eq_false (fun w => c w.1)]
          have tl : tkE by' n pos = pos + sgN (sgK (by' pos) (eqF by' n pos)) := by unfold tkE; rw [if_neg (show ¬ isLt (by' pos) = true by rw [u]; decide), if_neg (show ¬ isDg (by' pos) = true by rw [v]; decide)]
          unfold R_cut_291
          rw [eq, nj_add, ← tl]
          refine tok _ _ _ ps ?_ ⟨(fun w => by rw [u] at w; cases w), fun _ w => by rw [v] at w; cases w⟩
          unfold tkK
          rw [if_neg (show ¬ isLt (by' pos) = true by rw [u]; decide), if_neg (show ¬ isDg (by' pos) = true by rw [v]; decide)]
    · have pn : pos = n := by omega
      rw [if_neg (by rw [nj_lt (by omega) (by omega)]; exact y)]
      unfold R_cut_31
      rw [R_token_e hm (by omega), bn_s, h.2.1]
      have ps : psT by' n k = n := by rw [← hb, pn]; exact bkE_n
      have c := tkW_Ch (m := m) (k := k) (x1 := 0) (x2 := nj n) (x3 := 0) (x4 := 0)
      obtain ⟨d1, d2, d3, d4⟩ := tkW_mC (m := m) (k := k) (x1 := 0) (x2 := nj n) (x3 := 0) (x4 := 0)
      have tk := tkW_tk (m := m) (k := k) (x1 := 0) (x3 := 0) (x4 := 0) (wd := wd) (fun i hi => (ht i hi).1) (by unfold kdT; rw [if_neg (by omega)]; rfl) (fun w => absurd w (by omega))
      rw [ps] at tk
      refine ⟨tkW m k 0 (nj n) 0 0, rfl, c, d1, d2, k + 1, by omega, by omega, d3, fun i hi => ⟨tk i hi, ?_⟩, fun i hi => (ht i (by omega)).2, Or.inr (by rw [show k + 1 - 1 = k by omega]; exact ps)⟩
      by_cases w : i = k
      · rw [w, ps]; omega
      · have := (ht i (by omega)).2
        omega
theorem R_cut_e {m : Mem} {by' : Nat → Nat} {n : Nat} {wd : Nat → Int64} (h : RT m by' n) (h82 : 82 ≤ mC m) (hw : KyOk wd (aL m 7)) : ∃ m', R_cut m = some ((), m') ∧ CutR m m' by' n wd := by
  have hn := h.1
  unfold R_cut
  rw [vb_e]
  have c : Ch [1546] [3, 4, 5, 6] nil m (sI m 1546 0 0) := Ch.rfl.sI (by decide)
  obtain ⟨m', a1, a2, a3, a4, a5⟩ := R_cut_7_e (wd := wd) FU 0 0 (sI m 1546 0 0) (h.Ch c h82 (by decide) (by decide)) (by rw [k_mC_sI]; exact h82) (by rw [k_aL_sI]; exact hw) (by rw [k_mI_sI_e, up1_ap, if_pos rfl]; rfl) (by omega) rfl (by omega) (by unfold FU; omega) (fun i hi => absurd hi (Nat.not_lt_zero i))
  exact ⟨m', a1, Ch.trans c a2, a3.trans k_mC_sI, a4.trans k_mS_sI, a5⟩
