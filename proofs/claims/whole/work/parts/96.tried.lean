/-! Layer C: tried -/
def qT : List Nat := 1158 :: 1159 :: 1160 :: qF
def loT : List Nat := 1622 :: 1623 :: 1624 :: loF
def Askt {α : Type} (nc w n : Nat) (p r : Mem) (x y : Option (α × Mem)) : Prop := ∃ v p' r', x = some (v, p') ∧ y = some (v, r') ∧ Bs nc p' r' ∧ LC (dat r') none r' ∧ Ch qT qA hi51 p p' ∧ Ch loT loB nil r r' ∧ mC p' = mC p ∧ mS p' = mS p ∧ mC r' = mC r ∧ ∃ w', w' ≤ w + n ∧ mI p' 1157 25 = nj w'
def spP (p : Mem) (o : Option Nat) (a b : Int32) : Mem := sI (sI (sR p 1158 25 o) 1159 25 a) 1160 25 b
def spR (r : Mem) (k a b : Int32) : Mem := sI (sI (sI (sI (sI r 1622 0 k) 1623 0 a) 1624 0 b) 1612 0 (-1)) 1627 0 (-1)
def spN (r : Mem) : Mem := sI (sI (sI r 1622 0 (-1)) 1612 0 (-1)) 1627 0 (-1)
section Tr
variable {fa ta ia sa ca : Nat → Nat} {od : List Nat} {p r p0 r0 : Mem} {D : Dt} {nc pe w w0 n : Nat} {sup sup' : Sup}
theorem spP_Ch {o : Option Nat} {a b : Int32} : Ch [1158, 1159, 1160] [] nil p (spP p o a b) := ((Ch.rfl.sR (by decide)).sI (by decide)).sI (by decide)
theorem spR_Ch {k a b : Int32} : Ch [1612, 1622, 1623, 1624, 1627] [] nil r (spR r k a b) := ((((Ch.rfl.sI (by decide)).sI (by decide)).sI (by decide)).sI (by decide)).sI (by decide)
theorem spN_Ch : Ch [1612, 1622, 1627] [] nil r (spN r) := ((Ch.rfl.sI (by decide)).sI (by decide)).sI (by decide)
theorem spP_mC {o : Option Nat} {a b : Int32} : mC (spP p o a b) = mC p ∧ mS (spP p o a b) = mS p := by
  unfold spP
  simp only [k_aI_wI_e, k_aI_wI, k_aI_wL, k_aI_wR, k_aI_sI, k_aI_sL, k_aI_sR, k_aI_nw, k_aL_wL_e, k_aL_wL, k_aL_wI, k_aL_wR, k_aL_sI, k_aL_sL, k_aL_sR, k_aL_nw, k_aR_wR_e, k_aR_wR, k_aR_wI, k_aR_wL, k_aR_sI, k_aR_sL, k_aR_sR, k_aR_nw, k_mI_sI_e, k_mI_sI, k_mI_wI, k_mI_wL, k_mI_wR, k_mI_sL, k_mI_sR, k_mI_nw, k_mL_sL_e, k_mL_sL, k_mL_wI, k_mL_wL, k_mL_wR, k_mL_sI, k_mL_sR, k_mL_nw, k_mR_sR_e, k_mR_sR, k_mR_wI, k_mR_wL, k_mR_wR, k_mR_sI, k_mR_sL, k_mR_nw, k_mT_wI, k_mT_wL, k_mT_wR, k_mT_sI, k_mT_sL, k_mT_sR, k_mT_nw, k_mN_wI, k_mN_wL, k_mN_wR, k_mN_sI, k_mN_sL, k_mN_sR, k_mN_nw, k_mC_wI, k_mC_wL, k_mC_wR, k_mC_sI, k_mC_sL, k_mC_sR, k_mC_nw, k_mS_wI, k_mS_wL, k_mS_wR, k_mS_sI, k_mS_sL, k_mS_sR, k_mS_nw, k_zF_1, k_zF_3, k_zF_11, k_zF_32, k_zF_36, k_zA_1, k_zA_3, k_zA_11, k_zA_32, k_zA_36, k_mT_fil, k_mN_fil, k_mI_fil, k_mL_fil, k_mR_fil, k_aL_fil, k_aR_fil, k_mC_fil, k_mS_fil, k_aI_fil_e, k_aI_fil]
  trivial
theorem PS_sup {o : Option Nat} {a b : Int32} (h : PS fa ta ia sa ca od D sup w p) (ho : o = sup'.map (fun s => ta s.1)) (hs : ∀ s, sup' = some s → s.1 < D.2.1 ∧ a = s.2.1 ∧ b = s.2.2) : PS fa ta ia sa ca od D sup' w (spP p o a b) := by
  obtain ⟨L, T, hp, S, h5, h6, h7, h8, h9⟩ := h
  have T1 := T.1
  have c : Ch [1158, 1159, 1160] [] nil p (spP p o a b) := spP_Ch
  refine ⟨L.Ch T c.dy (by decide) (by decide), T.Ch c, hp.Ch c (by decide), Stm_keep S L.2.1 T c (by decide) (fun _ _ => List.not_mem_nil), ?_, fun k hk hn => ?_, ⟨?_, fun s e => ?_⟩, ?_, ?_⟩
  · rw [c.ai List.not_mem_nil nil_no (by omega)]; exact h5
  · have lk : ta k < mC p := T.lt (by rw [(L.2.1.2.1 k hk).2.1]; decide)
    rw [c.i (by decide) lk]; exact h6 k hk hn
  · unfold spP
    rw [k_mR_sI, k_mR_sI, k_mR_sR_e, up1_eq]; exact ho
  · obtain ⟨z1, z2, z3⟩ := hs s e
    unfold spP
    rw [k_mI_sI (show 1159 ≠ 1160 by omega), k_mI_sI_e, up1_eq, k_mI_sI_e, up1_eq]
    exact ⟨z1, z2, z3⟩
  · rw [c.ai List.not_mem_nil nil_no (by omega)]; exact h8
  · rw [c.ai List.not_mem_nil nil_no (by omega), c.ai List.not_mem_nil nil_no (by omega)]; exact h9
theorem RB_sup {k : Nat} {a b : Int32} (h : RB D sup r) (hk : k < D.2.1) : RB D (some (k, a, b)) (spR r (nj k) a b) ∧ LC D (some (k, a, b)) (spR r (nj k) a b) := by
  obtain ⟨h1, h2, h3, h4, h5⟩ := h
  have c : Ch [1612, 1622, 1623, 1624, 1627] [] nil r (spR r (nj k) a b) := spR_Ch
  refine ⟨⟨(dat_Ch c h2 (by decide) (by decide)).trans h1, h2, ?_, Or.inl ?_, fun e => (by cases e), fun s e => ?_⟩, Or.inl ?_⟩
  · rw [c.i (by decide) (by omega)]; exact h3
  · unfold spR
    rw [k_mI_sI (by omega), k_mI_sI_e, up1_eq]
  · cases e
    unfold spR
    refine ⟨hk, ?_, ?_, ?_⟩
    · rw [k_mI_sI (by omega), k_mI_sI (by omega), k_mI_sI (by omega), k_mI_sI (by omega), k_mI_sI_e, up1_eq]
    · rw [k_mI_sI (by omega), k_mI_sI (by omega), k_mI_sI (by omega), k_mI_sI_e, up1_eq]
    · rw [k_mI_sI (by omega), k_mI_sI (by omega), k_mI_sI_e, up1_eq]
  · unfold spR
    rw [k_mI_sI_e, up1_eq]
theorem RB_none (h : RB D sup r) : RB D none (spN r) ∧ LC D none (spN r) := by
  obtain ⟨h1, h2, h3, h4, h5⟩ := h
  have c : Ch [1612, 1622, 1627] [] nil r (spN r) := spN_Ch
  refine ⟨⟨(dat_Ch c h2 (by decide) (by decide)).trans h1, h2, ?_, Or.inl ?_, fun _ => ?_, fun s e => (by cases e)⟩, Or.inl ?_⟩
  · rw [c.i (by decide) (by omega)]; exact h3
  · unfold spN
    rw [k_mI_sI (by omega), k_mI_sI_e, up1_eq]
  · unfold spN
    rw [k_mI_sI (by omega), k_mI_sI (by omega), k_mI_sI_e, up1_eq]
  · unfold spN
    rw [k_mI_sI_e, up1_eq]
theorem tried_out (W : WText D nc) (Wf : WFact D nc) (Wi : WItems D nc) (hn60 : nc ≤ 60) (hg : WgD D) (hpe : pe ≤ 10) {a b kn : Nat} {x1 : Int32} (hab : a ≤ b) (hb : b < 20) (hkn : kn ≤ D.2.2) (hx : x1 = -1 ∨ ∃ f, f < 8 ∧ x1 = nj f) (hw : w0 + 268800 < 2147483647) (hb0 : mI p0 386 5 = nj pe ∧ mI r0 1595 0 = nj pe ∧ 51 ≤ mC p0 ∧ 82 ≤ mC r0 ∧ LPp pe p0 r0) : ∀ (e who fu : Nat) (y : Int64) (p r : Mem), who + e = pe → e < fu → JB fa ta ia sa ca od D sup pe w0 p0 r0 (26880 * who) p r → ∃ v p1 r1, P_tried_128 fu x1 (nj a) (nj b) (nj kn) y (nj who) p = some (v, spP p1 none (-1) 0) ∧ R_tried_132 fu x1 (nj a) (nj b) (nj kn) y (nj who) r = some (v, spN r1) ∧ JB fa ta ia sa ca od D sup pe w0 p0 r0 268800 p1 r1
  | 0, who, fu + 1, y, p, r, he, _, J => by
    obtain ⟨w1, h1, hJ, c1, c2, -⟩ := id J
    refine ⟨y, p, r, ?_, ?_, J.mono (by omega)⟩
    · rw [P_tried_128.eq_2, c1.i (by decide) (by omega), hb0.1, if_pos (by rw [nj_le (by omega) (by omega)]; omega)]
      rfl
    · rw [R_tried_132.eq_2, c2.i (by decide) (by omega), hb0.2.1, if_pos (by rw [nj_le (by omega) (by omega)]; omega)]
      rfl
  | e + 1, who, fu + 1, y, p, r, he, hf, J => by
    obtain ⟨w1, h1, hJ, c1, c2, -⟩ := id J
    have L := hJ.1.1
    obtain ⟨f', hf', y1, ⟨y2, -⟩, -⟩ := hb0.2.2.2.2 who (by omega)
    have e8 : aI p 8 = aI p0 8 := c1.ai (by decide) (dyT_lo L (by omega)) (by omega)
    have e39 : aI r 39 = aI r0 39 := c2.ai (by decide) nil_no (by omega)
    have next := fun y p r (J : JB fa ta ia sa ca od D sup pe w0 p0 r0 (26880 * who + 26880) p r) => tried_out W Wf Wi hn60 hg hpe hab hb hkn hx hw hb0 e (who + 1) fu y p r (by omega) (by omega) (J.mono (by omega))
    have npe : ¬ nj pe ≤ nj who := by rw [nj_le (by omega) (by omega)]; omega
    rw [P_tried_128.eq_2, c1.i (by decide) (by omega), hb0.1, if_neg npe, R_tried_132.eq_2, c2.i (by decide) (by omega), hb0.2.1, if_neg npe]
    have inner : ∀ (hm : x1 = -1 ∨ ∃ f, f < 8 ∧ x1 = nj f ∧ aI r0 39 who = nj f), ∃ v p1 r1, P_tried_159 (fun z0 z1 z2 z3 z4 z5 z6 => P_tried_128 fu z0 z1 z2 z3 z4 z5 z6) x1 (nj a) (nj b) (nj kn) y (nj who) p = some (v, spP p1 none (-1) 0) ∧ R_tried_145 (fun z0 z1 z2 z3 z4 z5 z6 => R_tried_132 fu z0 z1 z2 z3 z4 z5 z6) FU x1 (nj a) (nj b) (nj kn) y (nj who) (nj a) r = some (v, spN r1) ∧ JB fa ta ia sa ca od D sup pe w0 p0 r0 268800 p1 r1 := fun hm => by
      have key : ∀ (e wk g : Nat) (y : Int64) (p r : Mem) (m : Nat), wk + e = b + 1 → e < g → m + 1344 * e ≤ 26880 * who + 26880 → JB fa ta ia sa ca od D sup pe w0 p0 r0 m p r → ∃ v p1 r1, P_tried_163 (fun z0 z1 z2 z3 z4 z5 z6 => P_tried_128 fu z0 z1 z2 z3 z4 z5 z6) g x1 (nj a) (nj b) (nj kn) y (nj who) (nj wk) p = some (v, spP p1 none (-1) 0) ∧ R_tried_145 (fun z0 z1 z2 z3 z4 z5 z6 => R_tried_132 fu z0 z1 z2 z3 z4 z5 z6) g x1 (nj a) (nj b) (nj kn) y (nj who) (nj wk) r = some (v, spN r1) ∧ JB fa ta ia sa ca od D sup pe w0 p0 r0 268800 p1 r1 := by
        intro e
        induction e with
        | zero =>
          intro wk g y p r m he hg' hm' J
          obtain ⟨g, rfl⟩ : ∃ f, g = f + 1 := ⟨g - 1, by omega⟩
          obtain ⟨v, p', r', a1, a2, a3⟩ := next y p r (J.mono (by omega))
          have n1 : nj b < nj wk := by rw [nj_lt (by omega) (by omega)]; omega
          refine ⟨v, p', r', ?_, ?_, a3⟩
          · rw [P_tried_163.eq_2, if_pos n1]
            unfold P_tried_195
            rw [vb_e, nj_add_l]
            exact a1
          · rw [R_tried_145.eq_2, if_pos n1]
            unfold R_tried_189
            rw [vb_e, nj_add_l]
            exact a2
        | succ e ih =>
          intro wk g y p r m he hg' hm' J
          obtain ⟨g, rfl⟩ : ∃ f, g = f + 1 := ⟨g - 1, by omega⟩
          obtain ⟨v, p1, r1, a1, a2, a3, a4⟩ := J.week W Wf Wi hn60 hg hpe (show who < pe by omega) (show wk < 20 by omega) hkn (by omega)
          have ih' := ih (wk + 1) g (y + nl v) p1 r1 (m + 1344) (by omega) (by omega) (by omega) a4
          have n1 : ¬ nj b < nj wk := by rw [nj_lt (by omega) (by omega)]; omega
          have e39 : aI r 39 = aI r0 39 := by
            obtain ⟨w1, h1, hJ, c1, c2, -⟩ := J
            exact c2.ai (by decide) nil_no (by omega)
          rw [P_tried_163.eq_2, if_neg n1, a2, bn_s, vb_e, vb_e, nj_64 (by omega), nj_add_l, R_tried_145.eq_2, if_neg n1]
          unfold R_tried_168
          rw [a3, bn_s, vb_e, vb_e, nj_add_l]
          rcases hm with hm | ⟨f, hf8, hxf, hf39⟩
          · rw [if_pos hm]
            exact ih'
          · by_cases q : x1 = -1
            · rw [if_pos q]; exact ih'
            · rw [if_neg q, inb_nj (by omega), gd_t (decide_eq_true (by omega)), ix_nj (by omega), e39, hf39, if_pos hxf.symm]
              exact ih'
      exact key (b + 1 - a) a FU y p r (26880 * who) (by omega) (by unfold FU; omega) (by omega) J
    by_cases q : x1 = -1
    · rw [if_pos q]
      exact inner (Or.inl q)
    · rcases hx with hx | ⟨f, hf8, hx⟩
      · exact absurd hx q
      · rw [if_neg q, inb_nj (by omega), gd_t (decide_eq_true (by omega)), ix_nj (by omega), e8, y1]
        by_cases q2 : f' = f
        · rw [if_pos (by rw [q2, hx])]
          exact inner (Or.inr ⟨f, hf8, hx, by rw [y2, q2]⟩)
        · have hne : ¬ nj f' = x1 := fun z => q2 ((nj_inj (by omega) (by omega)).mp (z.trans hx))
          obtain ⟨v, p1, r1, a1, a2, a3⟩ := next y p r (J.mono (by omega))
          refine ⟨v, p1, r1, ?_, ?_, a3⟩
          · rw [if_neg hne]
            unfold P_tried_195
            rw [vb_e, nj_add_l]
            exact a1
          · show R_tried_145 _ (FU - 1 + 1) _ _ _ _ _ _ _ _ = _
            rw [R_tried_145.eq_2, if_neg (by rw [nj_lt (by omega) (by omega)]; omega), if_neg q, inb_nj (by omega), gd_t (decide_eq_true (by omega)), ix_nj (by omega), e39, y2, if_neg hne]
            unfold R_tried_189
            rw [vb_e, nj_add_l]
            exact a2
theorem P_suppose_e {o : Option Nat} {a b : Int32} : P_Scene_suppose o a b p = some ((), spP p o a b) := rfl
theorem st_tried (h : Bs nc p r) (hL : LC (dat r) none r) (hw : mI p 1157 25 = nj w) (hw1 : w + 268800 < 2147483647) (x1 x2 x3 x4 x5 x6 x7 : Int32) : Askt nc w 268800 p r (P_tried x1 x2 x3 x4 x5 x6 x7 p) (R_tried x1 x2 x3 x4 x5 x6 x7 r) := by
  have W := h.1.2.2.1
  have Wf := h.1.2.2.2.1
  have h160 := W.2.1
  have h24 := W.1
  have T1 := h.1.1.1
  have C2 := h.1.2.1
  have n2 : ¬ tI true = 0 := by decide
  have no : ∀ {x y : Option (Int64 × Mem)}, x = some (-1, p) → y = some (-1, r) → Askt nc w 268800 p r x y := fun hx hy => ⟨-1, p, r, hx, hy, h, hL, Ch.rfl, Ch.rfl, rfl, rfl, rfl, w, by omega, hw⟩
  have e1584 : mI r 1584 0 = nj nc := h.1.2.2.2.2.2.2.2.2.1
  have hn60 : nc ≤ 60 := h.1.2.2.2.2.2.2.1
  have hnm : (0 ≤ x3 ∧ x3 ≤ nj nc - 1) = (0 ≤ x3 ∧ x3 < nj nc) := has_e (nj_0le (by omega)) (by rw [show (1000 : Int32) = nj 1000 from rfl, nj_le (by omega) (by omega)]; omega)
  by_cases q0 : x1 = -1 ∨ (0 ≤ x1 ∧ x1 < mI r 1592 0)
  · have hP0 : P_tried x1 x2 x3 x4 x5 x6 x7 p = P_tried_16 x1 x2 x3 x4 x5 x6 x7 p := by
      unfold P_tried
      by_cases z : x1 = -1
      · rw [if_pos z]
      · rw [if_neg z, P_hasFirm_e h.2.1, bn_s, decide_eq_true (q0.resolve_left z), if_neg n2]
    have hR0 : R_tried x1 x2 x3 x4 x5 x6 x7 r = R_tried_13 x1 x2 x3 x4 x5 x6 x7 r := by
      unfold R_tried
      by_cases z : x1 = -1
      · rw [if_pos z]
      · rw [if_neg z, R_isFirm_e, bn_s, decide_eq_true (q0.resolve_left z), if_neg n2]
    rw [hP0, hR0]
    unfold P_tried_16 R_tried_13 P_tried_28 P_tried_79 P_tried_106 R_tried_97
    rw [P_canKnow_e h.1 x7, bn_s, R_textAt_e h.1 x2, bn_s]
    obtain ⟨fa, ta, ia, sa, ca, od, pe, hpe, g1, g2, J⟩ := h.JB_ hL hw
    obtain ⟨w1, hw1', ⟨P, HB, HC, HL⟩, -⟩ := id J
    by_cases q7 : 0 ≤ x7 ∧ x7 ≤ nj (dat r).2.2
    · have ht := P_textAt_e P.1.1 h160 x2 x7 q7.2
      rw [decide_eq_true q7, if_neg n2, ht, bn_s]
      by_cases qI : isT (dat r) x2
      · obtain ⟨t, k, rfl, h2, h3, h4, h5, h6⟩ := isT_k W Wf qI
        have e45 : (dat r).1 45 (ix (nj t)) = nj k := by rw [ix_nj (by omega)]; exact h4
        have g160 : ∀ {β : Type} (c : Option β), gd (inb (nj t) 160) c = c := fun c => by rw [inb_nj (by omega), gd_t (decide_eq_true (by omega))]
        have e44 : aI r 44 (ix (nj t)) = (dat r).1 8 k := by rw [ix_nj (by omega), ← dat_44 (x := 44) (by omega)]; exact h6
        have e45r : aI r 45 (ix (nj t)) = nj k := by rw [ix_nj (by omega), ← dat_44 (x := 45) (by omega)]; exact h4
        obtain ⟨-, t2, t3, -⟩ := P.1.2.1.2.1 k h3
        rw [if_pos qI, e45, if_neg (show ¬ nj k = -1 by rw [nj_ne_m1 (by omega)]; exact id), g160, e44, ix_nj (show k < 2147483648 by omega)]
        by_cases q2 : nj t < x7
        · rw [if_pos (show nj t < x7 ∧ isT (dat r) (nj t) from ⟨q2, qI⟩), if_neg (show ¬ some (ta k) = none by simp), gs_s, gt_t t2, t3, P_isName_e h.1 x3, bn_s, P_within_e, bp_s, P_isWeek_e, bp_s, P_isWeek_e, bp_s, R_in_e, bp_s, R_in_e, bp_s, R_in_e, bp_s, R_in_e, bp_s, R_isKnown_e h.1 x7, bn_s, decide_eq_true q7, e1584]
          simp only [hnm]
          by_cases c0 : (dat r).1 8 k = 0
          · rw [if_pos c0, if_pos c0, if_neg (Int32.not_le.mpr q2)]
            by_cases q3 : 0 ≤ x3 ∧ x3 < nj nc
            · rw [decide_eq_true q3, if_neg n2, if_neg n2]
              by_cases q4 : -9999 ≤ x4 ∧ x4 ≤ 9999
              · rw [decide_eq_true q4, if_neg n2, if_neg n2]
                by_cases q5 : 0 ≤ x5 ∧ x5 ≤ 19
                · rw [decide_eq_true q5, if_neg n2, if_neg n2]
                  by_cases q6 : x5 ≤ x6 ∧ x6 ≤ 19
                  · have q6' : 0 ≤ x6 ∧ x6 ≤ 19 := ⟨Int32.le_trans q5.1 q6.1, q6.2⟩
                    rw [decide_eq_true q6, decide_eq_true q6', if_neg n2, if_neg n2, if_pos q6.1, P_suppose_e, bn_s, if_neg n2, g160, vb_e, vb_e, vb_e, e45r, R_changed_e, bn_s]
                    change Askt nc w 268800 p r (P_tried_128 FU x1 x5 x6 x7 0 0 (spP p (some (ta k)) x3 x4)) (R_tried_132 FU x1 x5 x6 x7 0 0 (spR r (nj k) x3 x4))
                    obtain ⟨a, ha, rfl⟩ := nj_in (n := 19) (by omega) q5
                    obtain ⟨b, hb, rfl⟩ := nj_in (n := 19) (by omega) q6'
                    obtain ⟨kn, hkn, rfl⟩ := nj_in (by omega) q7
                    have hab : a ≤ b := by
                      have := q6.1
                      rw [nj_le (by omega) (by omega)] at this
                      exact this
                    have hx : x1 = -1 ∨ ∃ f, f < 8 ∧ x1 = nj f := by
                      rcases q0 with z | z
                      · exact Or.inl z
                      · obtain ⟨to, fi, pe', y1, y2, y3, u1, u2, u3, u4, -⟩ := h.2.1
                        rw [u4] at z
                        obtain ⟨f, hf, rfl⟩ := nj_in' (by omega) z
                        exact Or.inr ⟨f, by omega, rfl⟩
                    have P1 : PS fa ta ia sa ca od (dat r) (some (k, x3, x4)) w1 (spP p (some (ta k)) x3 x4) := PS_sup P rfl (fun s e => by cases e; exact ⟨h3, rfl, rfl⟩)
                    obtain ⟨RB1, LC1'⟩ := RB_sup (a := x3) (b := x4) HB h3
                    have cp1 : Ch [1158, 1159, 1160] [] nil p (spP p (some (ta k)) x3 x4) := spP_Ch
                    have cr1 : Ch [1612, 1622, 1623, 1624, 1627] [] nil r (spR r (nj k) x3 x4) := spR_Ch
                    have LP1 : LPp pe (spP p (some (ta k)) x3 x4) (spR r (nj k) x3 x4) := fun who hwho => by
                      rw [cp1.ai List.not_mem_nil nil_no (by omega), cp1.ai List.not_mem_nil nil_no (by omega), cp1.ai List.not_mem_nil nil_no (by omega), cr1.ai List.not_mem_nil nil_no (by omega), cr1.ai List.not_mem_nil nil_no (by omega), cr1.ai List.not_mem_nil nil_no (by omega), cr1.i (f := 1595) (by decide) (by omega)]
                      exact HL who hwho
                    have hmp := spP_mC (p := p) (o := some (ta k)) (a := x3) (b := x4)
                    have hmr : mC (spR r (nj k) x3 x4) = mC r := by unfold spR; simp only [k_aI_wI_e, k_aI_wI, k_aI_wL, k_aI_wR, k_aI_sI, k_aI_sL, k_aI_sR, k_aI_nw, k_aL_wL_e, k_aL_wL, k_aL_wI, k_aL_wR, k_aL_sI, k_aL_sL, k_aL_sR, k_aL_nw, k_aR_wR_e, k_aR_wR, k_aR_wI, k_aR_wL, k_aR_sI, k_aR_sL, k_aR_sR, k_aR_nw, k_mI_sI_e, k_mI_sI, k_mI_wI, k_mI_wL, k_mI_wR, k_mI_sL, k_mI_sR, k_mI_nw, k_mL_sL_e, k_mL_sL, k_mL_wI, k_mL_wL, k_mL_wR, k_mL_sI, k_mL_sR, k_mL_nw, k_mR_sR_e, k_mR_sR, k_mR_wI, k_mR_wL, k_mR_wR, k_mR_sI, k_mR_sL, k_mR_nw, k_mT_wI, k_mT_wL, k_mT_wR, k_mT_sI, k_mT_sL, k_mT_sR, k_mT_nw, k_mN_wI, k_mN_wL, k_mN_wR, k_mN_sI, k_mN_sL, k_mN_sR, k_mN_nw, k_mC_wI, k_mC_wL, k_mC_wR, k_mC_sI, k_mC_sL, k_mC_sR, k_mC_nw, k_mS_wI, k_mS_wL, k_mS_wR, k_mS_sI, k_mS_sL, k_mS_sR, k_mS_nw, k_zF_1, k_zF_3, k_zF_11, k_zF_32, k_zF_36, k_zA_1, k_zA_3, k_zA_11, k_zA_32, k_zA_36, k_mT_fil, k_mN_fil, k_mI_fil, k_mL_fil, k_mR_fil, k_aL_fil, k_aR_fil, k_mC_fil, k_mS_fil, k_aI_fil_e, k_aI_fil]
                    obtain ⟨v, p1, r1, d1, d2, w2, d3, ⟨d4, d5, d6, d7⟩, d8, d9, d10, d11, d12⟩ := tried_out (w0 := w) W Wf h.2.2.2.1 hn60 h.Wg_ hpe hab (show b < 20 by omega) hkn hx hw1 ⟨by rw [cp1.i (by decide) (by omega)]; exact g1, by rw [cr1.i (by decide) (by omega)]; exact g2, by omega, by omega, LP1⟩ pe 0 FU 0 (spP p (some (ta k)) x3 x4) (spR r (nj k) x3 x4) (by omega) (by unfold FU; omega) ⟨w1, by omega, ⟨P1, RB1, LC1', LP1⟩, Ch.rfl, Ch.rfl, rfl, rfl, rfl⟩
                    have P2 : PS fa ta ia sa ca od (dat r) none w2 (spP p1 none (-1) 0) := PS_sup d4 rfl (fun s e => by cases e)
                    obtain ⟨RB2, LC2⟩ := RB_none d5
                    have cp2 : Ch [1158, 1159, 1160] [] nil p1 (spP p1 none (-1) 0) := spP_Ch
                    have cr2 : Ch [1612, 1622, 1627] [] nil r1 (spN r1) := spN_Ch
                    have cP : Ch qT qA hi51 p (spP p1 none (-1) 0) := ((cp1.mono (by decide) (by simp) (fun _ h => h.elim)).trans (d8.mono (by decide) (fun _ h => h) P1.h51)).trans (cp2.mono (by decide) (by simp) (fun _ h => h.elim))
                    have cR : Ch loT loB nil r (spN r1) := ((cr1.mono (by decide) (by simp) (fun _ h => h)).trans (d9.mono (by decide) (fun _ h => h) (fun _ h => h))).trans (cr2.mono (by decide) (by simp) (fun _ h => h))
                    have hm2 := spP_mC (p := p1) (o := none) (a := -1) (b := 0)
                    have hr2 : mC (spN r1) = mC r1 := by unfold spN; simp only [k_aI_wI_e, k_aI_wI, k_aI_wL, k_aI_wR, k_aI_sI, k_aI_sL, k_aI_sR, k_aI_nw, k_aL_wL_e, k_aL_wL, k_aL_wI, k_aL_wR, k_aL_sI, k_aL_sL, k_aL_sR, k_aL_nw, k_aR_wR_e, k_aR_wR, k_aR_wI, k_aR_wL, k_aR_sI, k_aR_sL, k_aR_sR, k_aR_nw, k_mI_sI_e, k_mI_sI, k_mI_wI, k_mI_wL, k_mI_wR, k_mI_sL, k_mI_sR, k_mI_nw, k_mL_sL_e, k_mL_sL, k_mL_wI, k_mL_wL, k_mL_wR, k_mL_sI, k_mL_sR, k_mL_nw, k_mR_sR_e, k_mR_sR, k_mR_wI, k_mR_wL, k_mR_wR, k_mR_sI, k_mR_sL, k_mR_nw, k_mT_wI, k_mT_wL, k_mT_wR, k_mT_sI, k_mT_sL, k_mT_sR, k_mT_nw, k_mN_wI, k_mN_wL, k_mN_wR, k_mN_sI, k_mN_sL, k_mN_sR, k_mN_nw, k_mC_wI, k_mC_wL, k_mC_wR, k_mC_sI, k_mC_sL, k_mC_sR, k_mC_nw, k_mS_wI, k_mS_wL, k_mS_wR, k_mS_sI, k_mS_sL, k_mS_sR, k_mS_nw, k_zF_1, k_zF_3, k_zF_11, k_zF_32, k_zF_36, k_zA_1, k_zA_3, k_zA_11, k_zA_32, k_zA_36, k_mT_fil, k_mN_fil, k_mI_fil, k_mL_fil, k_mR_fil, k_aL_fil, k_aR_fil, k_mC_fil, k_mS_fil, k_aI_fil_e, k_aI_fil]
                    have hCr : mC (spN r1) = mC r := by omega
                    obtain ⟨k1, k2⟩ := h.1.R cR hCr (by decide) (by decide) (by decide)
                    obtain ⟨-, -, W', Wf', u1, u2, u3, u4, u5, -⟩ := k1
                    refine ⟨v, spP p1 none (-1) 0, spN r1, d1, d2, ⟨⟨P2.2.1, by omega, W', Wf', u1, u2, u3, ?_, u5, fa, ta, ia, sa, ca, od, by rw [k2]; exact P2.1, ?_⟩, (h.2.1.P cP T1 (by decide) (by decide) (fun a h => h)).R cR C2 (by decide) (by decide), P2.2.2.1, by rw [k2]; exact h.2.2.2.1, by rw [k2]; exact RB2.2.2.2.1, RB2.2.2.2.2.1 rfl⟩, by rw [k2]; exact LC2, cP, cR, by omega, by omega, hCr, w2, d3, P2.2.2.2.1.1⟩
                    · rw [cP.i (by decide) (by omega)]; exact u4
                    · rw [k2]
                      exact ⟨P2.2.2.2.2.1, fun k hk hn => P2.2.2.2.2.2.1 k hk (decide_eq_false hn), fun k j hk => by rw [P2.2.2.2.1.1]; exact P2.2.2.2.1.2 k j hk, P2.2.2.2.2.2.2.1.1⟩
                  · rw [decide_eq_false q6, if_pos (show tI false = 0 by rfl)]
                    refine no ?_ rfl
                    by_cases q6' : 0 ≤ x6 ∧ x6 ≤ 19
                    · rw [decide_eq_true q6', if_neg n2, if_neg (fun z => q6 ⟨z, q6'.2⟩)]
                    · rw [decide_eq_false q6']; rfl
                · rw [decide_eq_false q5]; exact no rfl rfl
              · rw [decide_eq_false q4]; exact no rfl rfl
            · rw [decide_eq_false q3]; exact no rfl rfl
          · rw [if_neg c0, if_neg c0]; exact no rfl rfl
        · rw [if_neg (show ¬ (nj t < x7 ∧ isT (dat r) (nj t)) from fun z => q2 z.1), if_pos rfl, if_pos (Int32.not_lt.mp q2)]
          refine no rfl ?_
          by_cases c0 : (dat r).1 8 k = 0
          · rw [if_pos c0]
          · rw [if_neg c0]
      · rw [if_neg (show ¬ (x2 < x7 ∧ isT (dat r) x2) from fun z => qI z.2), if_pos rfl, if_neg qI, if_pos rfl]
        exact no rfl rfl
    · rw [decide_eq_false q7, if_pos (show tI false = 0 by rfl)]
      refine no rfl ?_
      by_cases qI : isT (dat r) x2
      · obtain ⟨t, k, rfl, h2, h3, h4, h5, h6⟩ := isT_k W Wf qI
        have e45 : (dat r).1 45 (ix (nj t)) = nj k := by rw [ix_nj (by omega)]; exact h4
        have g160 : ∀ {β : Type} (c : Option β), gd (inb (nj t) 160) c = c := fun c => by rw [inb_nj (by omega), gd_t (decide_eq_true (by omega))]
        rw [if_pos qI, e45, if_neg (show ¬ nj k = -1 by rw [nj_ne_m1 (by omega)]; exact id), g160, R_in_e, bp_s, R_in_e, bp_s, R_in_e, bp_s, R_in_e, bp_s, R_isKnown_e h.1 x7, bn_s, decide_eq_false q7]
        have all : ∀ (c1 c2 c3 c4 c5 c6 : Prop) [Decidable c1] [Decidable c2] [Decidable c3] [Decidable c4] [Decidable c5] [Decidable c6] (A : Option (Int64 × Mem)), (if c1 then (if c2 then some (-1, r) else if c3 then some (-1, r) else if c4 then some (-1, r) else if c5 then some (-1, r) else if c6 then some (-1, r) else if tI false = 0 then some (-1, r) else A) else some (-1, r)) = some ((-1 : Int64), r) := by
          intro c1 c2 c3 c4 c5 c6 _ _ _ _ _ _ A
          rw [if_pos (show tI false = 0 by rfl)]
          split <;> (try rfl)
          split <;> (try rfl)
          split <;> (try rfl)
          split <;> (try rfl)
          split <;> (try rfl)
          split <;> rfl
        exact all _ _ _ _ _ _ _
      · rw [if_neg qI, if_pos rfl]
  · have z : ¬ x1 = -1 := fun z => q0 (Or.inl z)
    have z2 : ¬ (0 ≤ x1 ∧ x1 < mI r 1592 0) := fun z => q0 (Or.inr z)
    refine no ?_ ?_
    · unfold P_tried P_tried_28
      rw [if_neg z, P_hasFirm_e h.2.1, bn_s, decide_eq_false z2, if_pos (by rfl)]
    · unfold R_tried R_tried_97
      rw [if_neg z, R_isFirm_e, bn_s, decide_eq_false z2, if_pos (by rfl)]
end Tr
