/-! Layer C: an E of an ITEM, both sides -/
theorem begin_e {p : Mem} (c : Bool) : ∃ p', P_Formula_begin (tI c) p = some ((), p') ∧ Fs p' c (if c = true then 0 else 1) 0 false [] [] ∧ Cf p p' ∧ mI p' 779 = mI p 779 := by
  unfold P_Formula_begin P_Formula_begin_15
  have fin : ∀ st : Nat, Fs (sI (sI (sI (sI (sI (sI (sI p 129 1 (tI c)) 130 1 (nj st)) 131 1 0) 132 1 0) 128 1 0) 134 1 0) 136 1 0) c st 0 false [] [] ∧ Cf p (sI (sI (sI (sI (sI (sI (sI p 129 1 (tI c)) 130 1 (nj st)) 131 1 0) 132 1 0) 128 1 0) 134 1 0) 136 1 0) ∧ mI (sI (sI (sI (sI (sI (sI (sI p 129 1 (tI c)) 130 1 (nj st)) 131 1 0) 132 1 0) 128 1 0) 134 1 0) 136 1 0) 779 = mI p 779 := by
    intro st
    refine ⟨⟨?_, ?_, ?_, ?_, ?_, ?_, (fun j v hj => by cases hj), ?_, trivial⟩, ((((((Cf.rfl.sI (by decide)).sI (by decide)).sI (by decide)).sI (by decide)).sI (by decide)).sI (by decide)).sI (by decide), ?_⟩
    · rw [k_mI_sI (by omega), k_mI_sI (by omega), k_mI_sI (by omega), k_mI_sI (by omega), k_mI_sI (by omega), k_mI_sI (by omega), k_mI_sI_e, up1_ap, if_pos rfl]
    · rw [k_mI_sI (by omega), k_mI_sI (by omega), k_mI_sI (by omega), k_mI_sI (by omega), k_mI_sI (by omega), k_mI_sI_e, up1_ap, if_pos rfl]
    · rw [k_mI_sI (by omega), k_mI_sI (by omega), k_mI_sI (by omega), k_mI_sI (by omega), k_mI_sI_e, up1_ap, if_pos rfl]; rfl
    · rw [k_mI_sI (by omega), k_mI_sI (by omega), k_mI_sI (by omega), k_mI_sI_e, up1_ap, if_pos rfl]; rfl
    · rw [k_mI_sI (by omega), k_mI_sI (by omega), k_mI_sI_e, up1_ap, if_pos rfl]
    · rw [k_mI_sI (by omega), k_mI_sI_e, up1_ap, if_pos rfl]; rfl
    · rw [k_mI_sI_e, up1_ap, if_pos rfl]; rfl
    · rw [k_mI_sI (by omega), k_mI_sI (by omega), k_mI_sI (by omega), k_mI_sI (by omega), k_mI_sI (by omega), k_mI_sI (by omega), k_mI_sI (by omega)]
  rw [gz_tI, vb_e]
  cases c with
  | false =>
    rw [tI_f, if_pos rfl]
    exact ⟨_, rfl, fin 1⟩
  | true =>
    rw [tI_t, if_neg (show ¬ (1 : Int32) = 0 by decide)]
    exact ⟨_, rfl, fin 0⟩
/-- the formula has ended: it is laid down in the ITEM -/
theorem lay_e {p0 p : Mem} {S : List Int32} {a g i t : Nat} {c : Bool} (hCf : Cf p0 p) (T : Top p0) (h2 : mT p0 2 = 32) (hn : mN p0 2 = 500) (ha : mT p0 a = 3) (h8 : mI p 128 1 = 1) (h3 : mI p 134 1 = nj S.length) (h4 : Sq (aI p 2) S) (hS : S.length < 500) (ht : mI p 779 22 = nj t) :
    ∃ p', P_Parser_takeFormula_123 (fun z0 z1 z2 z3 => P_Parser_takeFormula_10 g z0 z1 z2 z3) (some a) (tI c) (nj i) 0 p = some (1, p') ∧ Ch (262 :: 263 :: FmF) [2, 3] nil p0 p' ∧ Ci a p0 p' ∧ mR p' (if c = true then 263 else 262) a = some (mC p0) ∧ mR p' (if c = true then 262 else 263) a = mR p0 (if c = true then 262 else 263) a ∧ Arr p' (mC p0) S ∧ mC p' = mC p0 + 1 ∧ mS p' = mS p0 + S.length ∧ mI p' = mI p ∧ Top p' := by
  have T1 := T.1
  have Tp : Top p := T.Ch hCf.1
  have la : a < mC p0 := T.lt (by rw [ha]; decide)
  obtain ⟨q, a1, a2, a3, a4, a5, a6, a7, a8, a9⟩ := made_e Tp (by rw [hCf.1.t (by omega)]; exact h2) (by rw [hCf.1.n (by omega)]; exact hn) h3 h4 hS
  rw [hCf.2.1] at a1 a3 a5
  rw [hCf.2.2] at a4
  have ta : mT q a = 3 := by rw [a2.t (by rw [hCf.2.1]; exact la), hCf.1.t la]; exact ha
  have c1 : Ch (262 :: 263 :: FmF) [2, 3] nil p0 q := Ch.trans (hCf.1.mono (fun _ z => List.mem_cons_of_mem _ (List.mem_cons_of_mem _ z)) (fun _ z => z) (fun _ z => z)) (a2.mono (fun _ z => by cases z) (fun _ z => by cases z) (fun _ z => z))
  have c2 : Ci a p0 q := Ci.trans hCf.ci ⟨a2.mono (fun _ z => by cases z) (fun _ z => by cases z) (fun _ z => z), fun b _ _ f _ _ => by rw [a6, a7, a8]; exact ⟨rfl, rfl, rfl⟩⟩
  unfold P_Parser_takeFormula_123 P_Parser_takeFormula_147 P_Parser_takeFormula_165
  rw [if_pos rfl, h8, if_neg (show ¬ (1 : Int32) = 0 by decide)]
  cases c with
  | false =>
    rw [tI_f, if_pos rfl, gs_s, a1, bn_s, gt_t ta, vb_e]
    refine ⟨_, rfl, c1.sR (by decide), c2.sR (by decide), ?_, ?_, ?_, by rw [k_mC_sR]; exact a3, by rw [k_mS_sR]; exact a4, by rw [k_mI_sR]; exact a6, a9.same k_mT_sR k_mC_sR⟩
    · show mR _ 262 a = _
      rw [k_mR_sR_e, up1_ap, if_pos rfl]
    · show mR _ 263 a = mR p0 263 a
      rw [k_mR_sR (by omega), a8, hCf.1.r (by decide) la]
    · unfold Arr
      rw [k_mT_sR, k_mN_sR, k_aI_sR]
      exact a5
  | true =>
    rw [tI_t, if_neg (show ¬ (1 : Int32) = 0 by decide), gs_s, a1, bn_s, gt_t ta, vb_e]
    refine ⟨_, rfl, c1.sR (by decide), c2.sR (by decide), ?_, ?_, ?_, by rw [k_mC_sR]; exact a3, by rw [k_mS_sR]; exact a4, by rw [k_mI_sR]; exact a6, a9.same k_mT_sR k_mC_sR⟩
    · show mR _ 263 a = _
      rw [k_mR_sR_e, up1_ap, if_pos rfl]
    · show mR _ 262 a = mR p0 262 a
      rw [k_mR_sR (by omega), a8, hCf.1.r (by decide) la]
    · unfold Arr
      rw [k_mT_sR, k_mN_sR, k_aI_sR]
      exact a5
section Sj
variable {N : Nat} {kd pl : Nat → Nat} {p r : Mem} {t a c0 : Nat}
theorem Toks.ch {F A : List Nat} {p' : Mem} (h : Toks p r N kd pl) (c : Ch F A nil p p') (hp : 51 ≤ mC p) (hA : 18 ∉ A ∧ 19 ∉ A ∧ 20 ∉ A) : Toks p' r N kd pl :=
  h.keep (c.2.2.2 18 hA.1 (fun z => z) (by omega)).1 (c.2.2.2 19 hA.2.1 (fun z => z) (by omega)).1 (c.2.2.2 20 hA.2.2 (fun z => z) (by omega)).2.1 rfl rfl rfl rfl
theorem sum_j (h : Ps N kd pl p r t) (ht1 : 1 ≤ t) (hc : mI r 1581 0 = nj c0) (hc0 : c0 ≤ 12000) (ha : mT p a = 3) :
    (∃ p' r' t' L, P_Parser_takeFormula (some a) 0 p = some (1, p') ∧ R_expression r = some ((), r') ∧ Ps N kd pl p' r' t' ∧ t < t' ∧ mI r' 1581 0 = nj (c0 + L.length) ∧ L.length ≤ t' - t ∧ Seg r' c0 L ∧ wfL L 0 1 ∧ Rx c0 r r' ∧ Ch (262 :: 263 :: FmF) [2, 3] nil p p' ∧ Ci a p p' ∧ mR p' 262 a = some (mC p) ∧ mR p' 263 a = mR p 263 a ∧ Arr p' (mC p) (L.map enN) ∧ mC p' = mC p + 1 ∧ mS p' = mS p + L.length) ∨
    (∃ p' r', P_Parser_takeFormula (some a) 0 p = some (0, p') ∧ R_expression r = some ((), r') ∧ Fld p' r' ∧ Cg p p' ∧ Rx c0 r r') := by
  obtain ⟨h1, h2, h3, h4, h5, h6, h7, h8, h9, h10, h11, h12⟩ := h
  have T1 := h9.1
  have hN := h1.2.1
  unfold P_Parser_takeFormula R_expression
  obtain ⟨p1, a1, a2, a3, a4⟩ := begin_e (p := p) false
  have a1' : P_Formula_begin 0 p = some ((), p1) := a1
  have x1 : Rx c0 r (sI r 1590 0 0) := Rx.rfl.sI (by decide)
  obtain ⟨n, hn⟩ : ∃ n, FU = n + 1 := ⟨FU - 1, by unfold FU; omega⟩
  have hn' : n = 99999 := by unfold FU at hn; omega
  have e12 : R_expression_12 FU 0 1 (sI r 1590 0 0) = R_expression_23 (fun z0 z1 z2 => R_expression_12 n z0 z1 z2) FU 0 (sI r 1590 0 0) := by
    have : R_expression_12 (n + 1) 0 1 (sI r 1590 0 0) = R_expression_23 (fun z0 z1 z2 => R_expression_12 n z0 z1 z2) FU 0 (sI r 1590 0 0) := by
      rw [R_expression_12.eq_2, if_neg (show ¬ (1 : Int32) = 0 by decide), k_mI_sI (by omega), if_pos h5]
    rw [← hn] at this
    exact this
  rw [a1', bn_s, vb_e, vb_e, k_mI_sI (by omega), h6, e12]
  have out := (ex_e (N := N) (kd := kd) (pl := pl) (x1 := some a) (x2 := 0) (c := false) (cm := false) (S0 := []) (B := []) (c0 := c0) (p0 := p) (r0 := r) (t0 := t) (i0 := 0) (fun w hw => by cases hw) T1 h10 hc0 501 (Nat.le_refl _)).1 p1 (sI r 1590 0 0) t 0 1 FU FU n [] [] (by omega)
    ⟨(h1.cf a3 T1).rx x1 h10, h2, by rw [a4]; exact h3, by rw [k_mI_sI (by omega)]; exact h4, by rw [k_mI_sI (by omega)]; exact h5, a2, ⟨by rw [k_mI_sI (by omega)]; exact h6, by rw [k_mI_sI_e, up1_ap, if_pos rfl]; rfl, trivial, by rw [k_mI_sI (by omega)]; exact hc, fun j kv hj => by cases hj⟩, (fun v hv => by cases hv), trivial, by decide, rfl, by decide, by omega, by omega, Or.inr (by omega), Nat.le_refl _, a3, x1⟩ (Or.inl rfl) rfl (by unfold FU; omega) (by omega)
  rcases out with ⟨p', r', t', i', g', L, V, y1, y2, y3, q1, q2, q3, q4, q5, q6, q7, q8, q9, q10, q11, q12, q13, q14, q15, q16, q17, q18, q19⟩ | ⟨p', r', y1, y2, y3, y4, y5⟩
  · left
    simp only [List.nil_append, List.length_nil] at q7 q14
    rw [show (P_Parser_takeFormula_10 FU (some a) 0 0 p1) = P_Parser_takeFormula_10 g' (some a) 0 (nj i') p' from y1]
    obtain ⟨k1, k2, k3, k4, k5, k6, k7, k8⟩ := q1.2.2.2.2 t' q3
    obtain ⟨g, rfl⟩ : ∃ f, g' = f + 1 := ⟨g' - 1, by unfold FU at y3; omega⟩
    clear k7 k8
    obtain ⟨o1, o2, o3⟩ := stO_shut (lim := 1) (by omega) (B := []) V q9 q8
    have eE : stO 1 (V.map eW ++ []) = (V.map eW, []) := by rw [o1]; show (V.map eW ++ [], []) = _; rw [List.append_nil]
    have hlV : (V.map eW ++ []).length = V.length := by simp
    obtain ⟨m, b1, b2, b3, b4, b5, b6⟩ := g_end q7 (by rw [hlV, List.length_map]; omega) (eW_1000 q9 (fun w hw => by cases hw)) k1 (Or.inr ⟨rfl, q17, fun w => by cases w⟩) (fun w => by cases w)
    have eS : L.map enN ++ stE (stO 1 (V.map eW ++ [])).1 = (L ++ cdV V).map enN := by rw [eE, stE_V V q9 o3, List.map_append]
    rw [eS] at b3 b4
    have hlc : (cdV V).length = V.length := by unfold cdV; simp
    have hlS : ((L ++ cdV V).map enN).length = L.length + V.length := by rw [List.length_map, List.length_append, hlc]
    obtain ⟨p2, d1, d2, d3, d4, d5, d6, d7, d8, d9, d10⟩ := lay_e (c := false) (g := g) (i := i') (t := t') (a := a) (Cf.trans q18 b5) h9 h11 h12 ha b2 b3 b4 (by omega) (by rw [b6]; exact q4)
    rw [tf_it q4 (by omega) k3 q7.2.1 (by omega) (by omega) (by omega), if_pos (Or.inl rfl), b1, bn_s, y2]
    have d1' : P_Parser_takeFormula_123 (fun z0 z1 z2 z3 => P_Parser_takeFormula_10 g z0 z1 z2 z3) (some a) 0 (nj i') 0 m = some (1, p2) := d1
    rw [d1']
    have hCf := Cf.trans q18 b5
    refine ⟨p2, r', t', L ++ cdV V, rfl, rfl, ⟨(h1.ch d2 T1 (by decide)).rx q19 h10, q3, ?_, q5, q6, q10, ?_, ?_, d10, by rw [q19.2.1]; exact h10, by rw [d2.t (by omega)]; exact h11, by rw [d2.n (by omega)]; exact h12⟩, q2, q11, by rw [List.length_append, hlc]; omega, q12, q13, q19, d2, d3, d4, d5, d6, d7, by rw [d8, hlS, List.length_append, hlc]⟩
    · rw [d9, b6]; exact q4
    · rw [d2.i (by decide) (by omega)]; exact h7
    · rw [d2.i (by decide) (by omega)]; exact h8
  · right
    rw [show (P_Parser_takeFormula_10 FU (some a) 0 0 p1) = some (0, p') from y1, y2]
    exact ⟨p', r', rfl, rfl, y3, y4, y5⟩
end Sj
