/-! Layer C: the class's scan -/
def isBl (b : Nat) : Bool := decide (b = 32 ∨ b = 9 ∨ b = 10 ∨ b = 13)
theorem P_isBlank_e : ∀ b, b < 256 → P_Lexer_isBlank (nj b) = some (tI (isBl b)) := by decide +kernel
/-- the first place from j on that isn't blank -/
def bkE (by' : Nat → Nat) (n j : Nat) : Nat := rnE (fun i => isBl (by' i)) (n - j) j
/-- where token k starts -/
def psT (by' : Nat → Nat) (n : Nat) : Nat → Nat
  | 0 => bkE by' n 0
  | k + 1 => bkE by' n (tkE by' n (psT by' n k))
/-- its kind -/
def kdT (by' : Nat → Nat) (n : Nat) (wd : Nat → Int64) (k : Nat) : Nat := if psT by' n k < n then tkK by' n wd (psT by' n k) else 0
theorem P_scan_20_e {by' : Nat → Nat} {n : Nat} {k9 : Int32 → Int32 → Mem → Option (Unit × Mem)} {x2 : Int32} : ∀ (d j fu : Nat) (m : Mem), PX m by' n → mI m 646 16 = nj j → d = n - j → j ≤ n + 2 → d < fu →
    ∃ m', P_Lexer_scan_20 k9 fu x2 m = P_Lexer_scan_59 k9 x2 m' ∧ Ch [646] [] nil m m' ∧ mC m' = mC m ∧ mS m' = mS m ∧ mI m' 646 16 = nj (rnE (fun i => isBl (by' i)) d j)
  | 0, j, fu + 1, m, h, hm, h1, h3, _ => by
    have hn := h.1
    rw [P_Lexer_scan_20.eq_2, h.2.1, hm, if_pos (by rw [nj_le (by omega) (by omega)]; omega)]
    exact ⟨m, rfl, Ch.rfl, rfl, rfl, hm⟩
  | d + 1, j, fu + 1, m, h, hm, h1, h3, h2 => by
    have hn := h.1
    have hb := h.2.2 j (by omega)
    have e : rnE (fun i => isBl (by' i)) (d + 1) j = if isBl (by' j) = true then rnE (fun i => isBl (by' i)) d (j + 1) else j := rfl
    rw [P_Lexer_scan_20.eq_2, h.2.1, hm, if_neg (by rw [nj_le (by omega) (by omega)]; omega), inb_nj (by omega), gd_t (decide_eq_true (by omega)), ix_nj (by omega), hb.2, P_isBlank_e _ hb.1, bp_s, e]
    cases z : isBl (by' j) with
    | false =>
      rw [tI_f, if_pos (show (0 : Int32) = 0 from rfl), if_neg (show ¬ false = true by decide)]
      exact ⟨m, rfl, Ch.rfl, rfl, rfl, hm⟩
    | true =>
      rw [tI_t, if_neg (show ¬ (1 : Int32) = 0 by decide), vb_e, nj_add_l, if_pos (show true = true from rfl)]
      obtain ⟨m', i1, i2, i3, i4, i5⟩ := P_scan_20_e (k9 := k9) (x2 := x2) d (j + 1) fu (sI m 646 16 (nj (j + 1))) (show PX (sI m 646 16 (nj (j + 1))) by' n from ⟨hn, by rw [k_mI_sI (by omega)]; exact h.2.1, by rw [k_aI_sI]; exact h.2.2⟩) (by rw [k_mI_sI_e, up1_ap, if_pos rfl]) (by omega) (by omega) (by omega)
      exact ⟨m', i1, Ch.trans (Ch.rfl.sI (by decide)) i2, i3.trans (by simp only [k_aI_wI_e, k_aI_wI, k_aI_wL, k_aI_wR, k_aI_sI, k_aI_sL, k_aI_sR, k_aI_nw, k_aL_wL_e, k_aL_wL, k_aL_wI, k_aL_wR, k_aL_sI, k_aL_sL, k_aL_sR, k_aL_nw, k_aR_wR_e, k_aR_wR, k_aR_wI, k_aR_wL, k_aR_sI, k_aR_sL, k_aR_sR, k_aR_nw, k_mI_sI_e, k_mI_sI, k_mI_wI, k_mI_wL, k_mI_wR, k_mI_sL, k_mI_sR, k_mI_nw, k_mL_sL_e, k_mL_sL, k_mL_wI, k_mL_wL, k_mL_wR, k_mL_sI, k_mL_sR, k_mL_nw, k_mR_sR_e, k_mR_sR, k_mR_wI, k_mR_wL, k_mR_wR, k_mR_sI, k_mR_sL, k_mR_nw, k_mT_wI, k_mT_wL, k_mT_wR, k_mT_sI, k_mT_sL, k_mT_sR, k_mT_nw, k_mN_wI, k_mN_wL, k_mN_wR, k_mN_sI, k_mN_sL, k_mN_sR, k_mN_nw, k_mC_wI, k_mC_wL, k_mC_wR, k_mC_sI, k_mC_sL, k_mC_sR, k_mC_nw, k_mS_wI, k_mS_wL, k_mS_wR, k_mS_sI, k_mS_sL, k_mS_sR, k_mS_nw, k_zF_1, k_zF_3, k_zF_11, k_zF_32, k_zF_36, k_zA_1, k_zA_3, k_zA_11, k_zA_32, k_zA_36, k_mT_fil, k_mN_fil, k_mI_fil, k_mL_fil, k_mR_fil, k_aL_fil, k_aR_fil, k_mC_fil, k_mS_fil, k_aI_fil_e, k_aI_fil]), i4.trans (by simp only [k_aI_wI_e, k_aI_wI, k_aI_wL, k_aI_wR, k_aI_sI, k_aI_sL, k_aI_sR, k_aI_nw, k_aL_wL_e, k_aL_wL, k_aL_wI, k_aL_wR, k_aL_sI, k_aL_sL, k_aL_sR, k_aL_nw, k_aR_wR_e, k_aR_wR, k_aR_wI, k_aR_wL, k_aR_sI, k_aR_sL, k_aR_sR, k_aR_nw, k_mI_sI_e, k_mI_sI, k_mI_wI, k_mI_wL, k_mI_wR, k_mI_sL, k_mI_sR, k_mI_nw, k_mL_sL_e, k_mL_sL, k_mL_wI, k_mL_wL, k_mL_wR, k_mL_sI, k_mL_sR, k_mL_nw, k_mR_sR_e, k_mR_sR, k_mR_wI, k_mR_wL, k_mR_wR, k_mR_sI, k_mR_sL, k_mR_nw, k_mT_wI, k_mT_wL, k_mT_wR, k_mT_sI, k_mT_sL, k_mT_sR, k_mT_nw, k_mN_wI, k_mN_wL, k_mN_wR, k_mN_sI, k_mN_sL, k_mN_sR, k_mN_nw, k_mC_wI, k_mC_wL, k_mC_wR, k_mC_sI, k_mC_sL, k_mC_sR, k_mC_nw, k_mS_wI, k_mS_wL, k_mS_wR, k_mS_sI, k_mS_sL, k_mS_sR, k_mS_nw, k_zF_1, k_zF_3, k_zF_11, k_zF_32, k_zF_36, k_zA_1, k_zA_3, k_zA_11, k_zA_32, k_zA_36, k_mT_fil, k_mN_fil, k_mI_fil, k_mL_fil, k_mR_fil, k_aL_fil, k_aR_fil, k_mC_fil, k_mS_fil, k_aI_fil_e, k_aI_fil]), i5⟩
theorem tkE_b {by' : Nat → Nat} {n j : Nat} (hj : j < n) : tkE by' n j ≤ n + 2 := by
  unfold tkE ltE dgE sgN
  have h1 := rnE_b (ok := fun i => isLt (by' i)) (n - j) j
  have h2 := rnE_b (ok := fun i => isDg (by' i)) (n - j) j
  split
  · omega
  · split
    · omega
    · split <;> omega
theorem bkE_b {by' : Nat → Nat} {n j : Nat} (h : j ≤ n + 2) : bkE by' n j ≤ n + 2 := by
  have h1 := rnE_b (ok := fun i => isBl (by' i)) (n - j) j
  unfold bkE
  omega
/-- what the class holds of token i -/
def TkP (m : Mem) (by' : Nat → Nat) (n : Nat) (wd : Nat → Int64) (i : Nat) : Prop :=
  aI m 18 i = nj (kdT by' n wd i) ∧ aI m 19 i = nj (psT by' n i) ∧ (psT by' n i < n → (isLt (by' (psT by' n i)) = true → aL m 20 i = ltC by' n (psT by' n i)) ∧ (isLt (by' (psT by' n i)) = false → isDg (by' (psT by' n i)) = true → aL m 20 i = Int32.toInt64 (dgC by' n (psT by' n i))))
/-- how many tokens the class takes: up to the first that is the end or wrong, at most 501 -/
def scN (kd : Nat → Nat) : Nat → Nat → Nat
  | 0, k => k
  | d + 1, k => if kd k ≤ 1 then k + 1 else scN kd d (k + 1)
theorem wkS_b {wd : Nat → Int64} {x : Int64} : ∀ d i, i + d = 40 → wkS wd x d i < 60 ∧ 2 ≤ wkS wd x d i
  | 0, i, _ => by
    show 2 < 60 ∧ 2 ≤ 2
    omega
  | d + 1, i, h => by
    have ih := wkS_b (wd := wd) (x := x) d (i + 1) (by omega)
    show (if wd i = x then 20 + i else wkS wd x d (i + 1)) < 60 ∧ 2 ≤ (if wd i = x then 20 + i else wkS wd x d (i + 1))
    split <;> omega
theorem tkK_b {by' : Nat → Nat} {n j : Nat} {wd : Nat → Int64} (hb : by' j < 256) : tkK by' n wd j < 60 ∧ 1 ≤ tkK by' n wd j := by
  have h1 := wkS_b (wd := wd) (x := ltC by' n j) 40 0 (by omega)
  have h2 := sgK_lt (by' j) hb (eqF by' n j)
  unfold tkK
  split
  · split <;> omega
  · split
    · split <;> omega
    · omega
theorem P_scan_9_e {by' : Nat → Nat} {n : Nat} {wd : Nat → Int64} : ∀ (d k fu pos : Nat) (m : Mem), PX m by' n → 51 ≤ mC m → aL m 21 = wd → mI m 646 16 = nj pos → pos ≤ n + 2 → bkE by' n pos = psT by' n k → k + d = 501 → d < fu → (∀ i, i < k → TkP m by' n wd i) →
    ∃ m', P_Lexer_scan_9 fu 1 (nj k) m = some ((), m') ∧ Ch [646] [18, 19, 20] nil m m' ∧ mC m' = mC m ∧ mS m' = mS m ∧ ∀ i, i < scN (kdT by' n wd) d k → TkP m' by' n wd i
  | 0, k, fu + 1, pos, m, h, h60, hw, hm, hp, hb, h1, _, ht => by
    rw [P_Lexer_scan_9.eq_2, if_pos (by rw [nj_l_lt (by omega) (by omega)]; omega)]
    exact ⟨m, rfl, Ch.rfl, rfl, rfl, ht⟩
  | d + 1, k, fu + 1, pos, m, h, h60, hw, hm, hp, hb, h1, h2, ht => by
    have hn := h.1
    rw [P_Lexer_scan_9.eq_2, if_neg (by rw [nj_l_lt (by omega) (by omega)]; omega), if_neg (by decide)]
    obtain ⟨m1, a1, a2, a3, a4, a5⟩ := P_scan_20_e (k9 := fun z0 z1 z2 => P_Lexer_scan_9 fu z0 z1 z2) (x2 := nj k) (n - pos) pos FU m h hm rfl hp (by unfold FU; omega)
    rw [a1]
    have a5' : mI m1 646 16 = nj (psT by' n k) := by rw [← hb]; exact a5
    have hpb : psT by' n k ≤ n + 2 := by rw [← hb]; exact bkE_b hp
    have h1' : PX m1 by' n := ⟨hn, ((a2.2.2.1 641 (by decide) 16 (by omega)).1).trans h.2.1, by rw [(a2.2.2.2 17 (by decide) (fun z => z) (by omega)).1]; exact h.2.2⟩
    unfold P_Lexer_scan_59
    rw [inb_nj (by omega), gd_t (decide_eq_true (by omega)), vb_e, ix_nj (by omega), k_mI_wI, a5', h1'.2.1]
    have g : ∀ {β : Type} (z : Option β), gd (inb (nj k) 501) z = z := fun z => by rw [inb_nj (by omega), gd_t (decide_eq_true (by omega))]
    have hx : PX (wI m1 19 k (nj (psT by' n k))) by' n := ⟨hn, by rw [k_mI_wI]; exact h1'.2.1, by rw [k_aI_wI (by omega)]; exact h1'.2.2⟩
    have c1 : Ch [646] [18, 19, 20] nil m (wI m1 19 k (nj (psT by' n k))) := (a2.mono (by decide) (by decide) (fun _ z => z)).wI (Or.inl (by decide))
    -- the rest, once the token is taken
    have go : ∀ (m2 : Mem) (e : Nat), PX m2 by' n → Ch [646] [18, 19, 20] nil m m2 → mC m2 = mC m → mS m2 = mS m → mI m2 646 16 = nj e → e ≤ n + 2 → (psT by' n k < n → e = tkE by' n (psT by' n k)) → aL m2 21 = wd → kdT by' n wd k < 60 → (∀ i, i < k → TkP m2 by' n wd i) → aI m2 19 k = nj (psT by' n k) → (psT by' n k < n → (isLt (by' (psT by' n k)) = true → aL m2 20 k = ltC by' n (psT by' n k)) ∧ (isLt (by' (psT by' n k)) = false → isDg (by' (psT by' n k)) = true → aL m2 20 k = Int32.toInt64 (dgC by' n (psT by' n k)))) →
        ∃ m', P_Lexer_scan_103 (fun z0 z1 z2 => P_Lexer_scan_9 fu z0 z1 z2) (nj k) (nj (kdT by' n wd k)) (nj k) m2 = some ((), m') ∧ Ch [646] [18, 19, 20] nil m m' ∧ mC m' = mC m ∧ mS m' = mS m ∧ ∀ i, i < scN (kdT by' n wd) (d + 1) k → TkP m' by' n wd i := by
      intro m2 e q1 q2 q3 q4 q5 q6 q7 q8 q9 q10 q11 q12
      unfold P_Lexer_scan_103 P_Lexer_scan_127 P_Lexer_scan_128
      simp only [g, vb_e, ix_nj (show k < 2147483648 by omega), k_aI_wI_e, up1_ap, nj_add_l, if_true]
      have e0 : (nj (kdT by' n wd k) = 0) = (kdT by' n wd k = 0) := nj_eq_l (by omega) (by omega)
      have e1 : (nj (kdT by' n wd k) = 1) = (kdT by' n wd k = 1) := nj_eq_l (by omega) (by omega)
      simp only [e0, e1]
      have c3 : Ch [646] [18, 19, 20] nil m (wI m2 18 k (nj (kdT by' n wd k))) := q2.wI (Or.inl (by decide))
      have tk : ∀ i, i < k + 1 → TkP (wI m2 18 k (nj (kdT by' n wd k))) by' n wd i := by
        intro i hi
        unfold TkP
        rw [k_aI_wI_e, up1_ap, k_aI_wI (show 19 ≠ 18 by omega), k_aL_wI]
        by_cases w : i = k
        · rw [if_pos w, w]
          exact ⟨rfl, q11, q12⟩
        · rw [if_neg w]
          exact q10 i (by omega)
      have es : scN (kdT by' n wd) (d + 1) k = if kdT by' n wd k ≤ 1 then k + 1 else scN (kdT by' n wd) d (k + 1) := rfl
      have stop : kdT by' n wd k ≤ 1 → ∃ m', P_Lexer_scan_9 fu 0 (nj (k + 1)) (wI m2 18 k (nj (kdT by' n wd k))) = some ((), m') ∧ Ch [646] [18, 19, 20] nil m m' ∧ mC m' = mC m ∧ mS m' = mS m ∧ ∀ i, i < scN (kdT by' n wd) (d + 1) k → TkP m' by' n wd i := by
        intro w
        obtain ⟨fu', rfl⟩ : ∃ fu', fu = fu' + 1 := ⟨fu - 1, by omega⟩
        rw [P_Lexer_scan_9.eq_2, es, if_pos w]
        rw [if_pos (show (0 : Int32) = 0 from rfl)]
        refine ⟨_, by split <;> rfl, c3, by rw [k_mC_wI]; exact q3, by rw [k_mS_wI]; exact q4, tk⟩
      by_cases w0 : kdT by' n wd k = 0
      · rw [if_pos w0]
        exact stop (by omega)
      · rw [if_neg w0]
        by_cases w1 : kdT by' n wd k = 1
        · rw [if_pos w1]
          exact stop (by omega)
        · rw [if_neg w1, es, if_neg (by omega)]
          have hlt : psT by' n k < n := by
            by_cases y : psT by' n k < n
            · exact y
            · exact absurd (show kdT by' n wd k = 0 by unfold kdT; rw [if_neg y]) w0
          obtain ⟨m', i1, i2, i3, i4, i5⟩ := P_scan_9_e (wd := wd) d (k + 1) fu e (wI m2 18 k (nj (kdT by' n wd k))) (show PX _ by' n from ⟨hn, by rw [k_mI_wI]; exact q1.2.1, by rw [k_aI_wI (by omega)]; exact q1.2.2⟩) (by rw [k_mC_wI, q3]; exact h60) (by rw [k_aL_wI]; exact q8) (by rw [k_mI_wI]; exact q5) q6 (by rw [q7 hlt]; rfl) (by omega) (by omega) tk
          exact ⟨m', i1, Ch.trans c3 i2, i3.trans (by rw [k_mC_wI]; exact q3), i4.trans (by rw [k_mS_wI]; exact q4), i5⟩
    have old : ∀ i, i < k → TkP (wI m1 19 k (nj (psT by' n k))) by' n wd i := by
      intro i hi
      have t := ht i hi
      unfold TkP at t ⊢
      rw [k_aI_wI (show 18 ≠ 19 by omega), k_aI_wI_e, up1_ap, if_neg (by omega), k_aL_wI, (a2.2.2.2 18 (by decide) (fun z => z) (by omega)).1, (a2.2.2.2 19 (by decide) (fun z => z) (by omega)).1, (a2.2.2.2 20 (by decide) (fun z => z) (by omega)).2.1]
      exact t
    have w21 : aL (wI m1 19 k (nj (psT by' n k))) 21 = wd := by rw [k_aL_wI, (a2.2.2.2 21 (by decide) (fun z => z) (by omega)).2.1]; exact hw
    have mc1 : mC (wI m1 19 k (nj (psT by' n k))) = mC m := by rw [k_mC_wI]; exact a3
    have ms1 : mS (wI m1 19 k (nj (psT by' n k))) = mS m := by rw [k_mS_wI]; exact a4
    by_cases y : psT by' n k < n
    · have hbk := h1'.2.2 _ y
      have ek : kdT by' n wd k = tkK by' n wd (psT by' n k) := by unfold kdT; rw [if_pos y]
      rw [if_neg (by rw [nj_le (by omega) (by omega)]; omega), inb_nj (by omega), gd_t (decide_eq_true (by omega)), ix_nj (by omega), k_aI_wI (by omega), hbk.2]
      obtain ⟨m2, b1, b2, b3, b4, b5, b6, b7, b8⟩ := P_takeToken_e (t := k) hx (by rw [k_mI_wI]; exact a5') y (by omega)
      rw [b1, bn_s, w21, ← ek]
      have c2 : Ch [646] [18, 19, 20] nil m m2 := Ch.trans c1 (b2.mono (by decide) (by decide) (fun _ z => z))
      have x2 : PX m2 by' n := ⟨hn, ((b2.2.2.1 641 (by decide) 16 (by omega)).1).trans hx.2.1, by rw [(b2.2.2.2 17 (by decide) (fun z => z) (by omega)).1]; exact hx.2.2⟩
      refine go m2 _ x2 c2 (b3.trans mc1) (b4.trans ms1) b5 (tkE_b y) (fun _ => rfl) (by rw [(b2.2.2.2 21 (by decide) (fun z => z) (by omega)).2.1]; exact w21) (by rw [ek]; exact (tkK_b hbk.1).1) (fun i hi => ?_) ?_ (fun _ => ⟨b7, b8⟩)
      · have t := old i hi
        unfold TkP at t ⊢
        rw [(b2.2.2.2 18 (by decide) (fun z => z) (by omega)).1, (b2.2.2.2 19 (by decide) (fun z => z) (by omega)).1, b6 i (by omega)]
        exact t
      · rw [(b2.2.2.2 19 (by decide) (fun z => z) (by omega)).1, k_aI_wI_e, up1_ap, if_pos rfl]
    · have ek : kdT by' n wd k = 0 := by unfold kdT; rw [if_neg y]
      rw [if_pos (by rw [nj_le (by omega) (by omega)]; omega)]
      have gg := go (wI m1 19 k (nj (psT by' n k))) (psT by' n k) hx c1 mc1 ms1 (by rw [k_mI_wI]; exact a5') hpb (fun w => absurd w y) w21 (by omega) old (by rw [k_aI_wI_e, up1_ap, if_pos rfl]) (fun w => absurd w y)
      rw [ek] at gg
      exact gg
