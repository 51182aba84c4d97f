/-! Layer C: a token, an E, a COND of an ITEM -/
section Bt
variable {N : Nat} {kd pl : Nat → Nat} {x a i l c : Nat} {p r : Mem} {t nm : Nat}
theorem take_i (h : Pi N kd pl x p r t nm l c) (h2 : 2 ≤ kd t) :
    (∃ p' r', P_Parser_take p = some (1, p') ∧ R_next r = some ((), r') ∧ Pi N kd pl x p' r' (t + 1) nm l c ∧ Sp 0 a i l c p r p' r' t (t + 1) nm nm ∧ (∀ f, f ≠ 779 → mI p' f = mI p f) ∧ mL p' = mL p ∧ mR p' = mR p ∧ mT p' = mT p ∧ aI r' = aI r ∧ p' = sI p 779 22 (nj (t + 1)) ∧ r' = sI r 1547 0 (nj (t + 1))) ∨
    (∃ p' r', P_Parser_take p = some (0, p') ∧ R_next r = some ((), r') ∧ Bi 0 a i l c t nm p r p' r') := by
  have hk := h.kd3.1
  rcases kind_i (a := a) (i := i) h (kd t) hk (y := nj (kM (kd t))) rfl h2 with ⟨z, p', r', a1, a2, a3, a4, a5, a6, a7, a8, a9, a10⟩ | ⟨p', r', a1, a2, a3⟩
  · left
    have hT := h.tN
    unfold P_Parser_takeKind at a1
    rw [h.1.2.2.1, inb_nj (by omega), gd_t (decide_eq_true (by omega)), ix_nj (by omega), h.kd3.2.1, if_pos rfl] at a1
    obtain ⟨v, m, b1, b2⟩ := bnk a1
    have b3 : v = 1 ∧ m = p' := by
      unfold gz at b2
      split at b2
      · have := Prod.mk.inj (Option.some.inj b2)
        exact ⟨this.1, this.2⟩
      · cases b2
    rw [b3.1, b3.2] at b1
    unfold R_must at a2
    rw [h.is (kd t) hk rfl, bn_s, decide_eq_true rfl, tI_t, if_neg (show ¬ (1 : Int32) = 0 by decide)] at a2
    obtain ⟨v', m', d1, d2⟩ := bnk a2
    have d3 := some_snd d2
    subst d3
    have hr : m' = sI r 1547 0 (nj (t + 1)) := by
      have q := d1
      unfold R_next at q
      rw [h.1.2.2.2.1] at q
      have ht : t ≠ 500 := by have := a3.tN; omega
      rw [if_neg (by rw [nj_eq_l (by omega) (by omega)]; exact ht), vb_e, nj_add_l] at q
      exact (some_snd q).symm
    exact ⟨p', m', b1, d1, a3, a4, a5, a6, a7, a8, a9, a10, hr⟩
  · right
    have hT := h.tN
    unfold P_Parser_takeKind at a1
    rw [h.1.2.2.1, inb_nj (by omega), gd_t (decide_eq_true (by omega)), ix_nj (by omega), h.kd3.2.1, if_pos rfl] at a1
    obtain ⟨v, m, b1, b2⟩ := bnk a1
    have b3 : v = 0 ∧ m = p' := by
      unfold gz at b2
      split at b2
      · have := Prod.mk.inj (Option.some.inj b2)
        exact ⟨this.1, this.2⟩
      · cases b2
    rw [b3.1, b3.2] at b1
    unfold R_must at a2
    rw [h.is (kd t) hk rfl, bn_s, decide_eq_true rfl, tI_t, if_neg (show ¬ (1 : Int32) = 0 by decide)] at a2
    obtain ⟨v', m', d1, d2⟩ := bnk a2
    have d3 := some_snd d2
    subst d3
    exact ⟨p', m', b1, d1, a3⟩
theorem fl_ci {F A : List Nat} {q q' : Mem} (h : Ch F A nil q q') (hF : ∀ f, 256 ≤ f → f ≤ 268 → f ≠ 262 → f ≠ 263 → f ∉ F) {b : Nat} (hb : b < mC q) : ∀ f, 256 ≤ f → f ≤ 268 → f ≠ 262 → f ≠ 263 → mI q' f b = mI q f b ∧ mL q' f b = mL q f b := fun f f1 f2 f3 f4 => ⟨(h.2.2.1 f (hF f f1 f2 f3 f4) b hb).1, (h.2.2.1 f (hF f f1 f2 f3 f4) b hb).2.1⟩
theorem sum_i (h : Pi N kd pl x p r t nm l c) (ht : 5 ≤ t) (ha : mT p a = 3) :
    (∃ p' r' t' L, P_Parser_takeFormula (some a) 0 p = some (1, p') ∧ R_expression r = some ((), r') ∧ Pi N kd pl x p' r' t' nm l (c + L.length) ∧ Sp 1 a i l c p r p' r' t t' nm nm ∧ t < t' ∧ Seg r' c L ∧ wfL L 0 1 ∧ mR p' 262 a = some (mC p) ∧ mR p' 263 a = mR p 263 a ∧ Arr p' (mC p) (L.map enN) ∧ (∀ f, 256 ≤ f → f ≤ 268 → f ≠ 262 → f ≠ 263 → mI p' f a = mI p f a ∧ mL p' f a = mL p f a) ∧ (∀ b, b < mC p → mT p' b = mT p b) ∧ (∀ y j, 15 ≤ y → y ≤ 32 → aI r' y j = aI r y j) ∧ mI r' 1551 0 = mI r 1551 0 ∧ mC p' = mC p + 1) ∨
    (∃ p' r', P_Parser_takeFormula (some a) 0 p = some (0, p') ∧ R_expression r = some ((), r') ∧ Bi 0 a i l c t nm p r p' r') := by
  have hT := h.tN
  obtain ⟨h1, h3, h4, h5, h6, h7, h8, h9, h10, h11⟩ := h
  have h82 := h1.2.2.2.2.2.2.2.2.2.1
  have T := h1.2.2.2.2.2.2.2.2.1
  have T1 := T.1
  have la : a < mC p := T.lt (by rw [ha]; decide)
  rcases sum_j h1 (by omega) h8 (by omega) ha with ⟨p', r', t', L, a1, a2, a3, a4, a5, a6, a7, a8, a9, a10, a11, a12, a13, a14, a15, a16⟩ | ⟨p', r', a1, a2, a3, a4, a5⟩
  · left
    have hpl := h1.1.mono t' (i := t) (by omega) a3.2.1
    have e51 : mI r' 1551 0 = mI r 1551 0 := a9.1.i (by decide) (by omega)
    refine ⟨p', r', t', L, a1, a2, ⟨a3, (h3.same (a10.i (by decide) (by omega)) (a10.i (by decide) (by omega)) e51 (a9.1.i (by decide) (by omega))).mono hpl, h4.same (by omega) (a9.1.i (by decide) (by omega)) (a10.i (by decide) (by omega)) (a10.al (by decide) (fun z => z) (by omega)) (a9.1.al (by decide) (fun z => z) (by omega)) (a9.1.i (by decide) (by omega)) (a10.i (by decide) (by omega)), by rw [a9.1.i (by decide) (by omega)]; exact h5, h6, by omega, a5, by omega, by omega, h11⟩, ⟨a11, Rk.ri (Rx.rk a9 h82) h82, by omega, by omega, by omega, by omega, Nat.le_refl _, fun _ _ => by rw [a10.al (by decide) (fun z => z) (by omega)], fun _ _ => by rw [a9.1.al (by decide) (fun z => z) (by omega)], by rw [e51]; exact fun q => q⟩, a4, a7, a8, a12, a13, a14, fl_ci a10 (fun f f1 f2 f3 f4 => by unfold FmF; simp only [List.mem_cons, List.not_mem_nil, or_false]; omega) la, fun b hb => a10.t hb, fun y j y1 y2 => by rw [(a9.1.2.2.2 y (by simp only [List.mem_cons, List.not_mem_nil, or_false]; omega) (fun z => z) (by omega)).1], e51, a15⟩
  · right
    exact ⟨p', r', a1, a2, a3, a4.cz, by have := a4.2.1; omega, by have := a4.2.1; omega, by have := a4.2.2; omega, Rk.ri (Rx.rk a5 h82) h82, fun _ _ => by rw [a4.1.al (by decide) (fun z => z) (by omega)], fun _ _ => by rw [a5.1.al (by decide) (fun z => z) (by omega)]⟩
theorem cond_i (h : Pi N kd pl x p r t nm l c) (ht : 5 ≤ t) (hl1 : 3 * (l - 200 * x) + 1 ≤ t) (ha : mT p a = 3) :
    (∃ p' r' t' l' c' nt, P_Parser_takeFormula (some a) 1 p = some (1, p') ∧ R_cond r = some ((), r') ∧ Pi N kd pl x p' r' t' nm l' c' ∧ Sp 1 a i l c p r p' r' t t' nm nm ∧ t < t' ∧ l < l' ∧ c ≤ c' ∧ aI r' 29 l = 1 ∧ (∀ k, l ≤ k → k < l' → aI r' 28 k = tI (odd (nt k))) ∧ (mI r' 1551 0 = 0 → ∀ k, l ≤ k → k < l' → WLit (rwD r' x) k) ∧ Arr p' (mC p) (conS (rwD r' x) nt false false (List.range' l (l' - l))) ∧ mR p' 263 a = some (mC p) ∧ mR p' 262 a = mR p 262 a ∧ (∀ f, 256 ≤ f → f ≤ 268 → f ≠ 262 → f ≠ 263 → mI p' f a = mI p f a ∧ mL p' f a = mL p f a) ∧ (∀ b, b < mC p → mT p' b = mT p b) ∧ (∀ y j, 15 ≤ y → y ≤ 26 → aI r' y j = aI r y j) ∧ mC p' = mC p + 1 ∧ ∀ k, l ≤ k → k < l' → LB r' k c') ∨
    (∃ p' r', P_Parser_takeFormula (some a) 1 p = some (0, p') ∧ R_cond r = some ((), r') ∧ Bi 0 a i l c t nm p r p' r') := by
  have hT := h.tN
  obtain ⟨h1, h3, h4, h5, h6, h7, h8, h9, h10, h11⟩ := h
  have h82 := h1.2.2.2.2.2.2.2.2.2.1
  have T := h1.2.2.2.2.2.2.2.2.1
  have T1 := T.1
  have la : a < mC p := T.lt (by rw [ha]; decide)
  unfold P_Parser_takeFormula R_cond
  obtain ⟨p1, b1, b2, b3, b4⟩ := begin_e (p := p) true
  have b1' : P_Formula_begin 1 p = some ((), p1) := b1
  rw [b1', bn_s]
  obtain ⟨u1, u2, u3, u4, u5, u6, u7, u8, u9, u10, u11, u12⟩ := h1
  have out := cond_j (N := N) (kd := kd) (pl := pl) (a := a) (x := x) (cF := c) h11 501 true false false [] p1 r t 0 FU l c FU (by omega) (T.Ch b3.1) (by rw [b3.1.t (by omega)]; exact u11) (by rw [b3.1.n (by omega)]; exact u12) (by rw [b3.1.t la]; exact ha) h82 (u1.cf b3 T1) u2 (by rw [b4]; exact u3) u4 u5 u6 b2 (by decide) (by omega) rfl h8 (by show c ≤ c + 0; omega) (by omega) h5 h6 hl1 (h3.same (b3.1.i (by decide) (by omega)) (b3.1.i (by decide) (by omega)) rfl rfl) (by unfold FU; omega)
  rcases out with ⟨p', r', t', l', nt, v1, v2, s1, s2, s3, s4, s5, s6, s7, s8, s9, s10, ⟨c', s11, s12, s13, s13b⟩, s14, s15, s16, s17, s18, s19, s20, s21, s22, s23, s24, s25, s26⟩ | ⟨p', r', v1, v2, v3, v4, v5⟩
  · left
    have hCh : Ch (262 :: 263 :: 776 :: 777 :: FmF) [2, 3] nil p p' := Ch.trans (b3.1.mono (by decide) (fun _ z => z) (fun _ z => z)) s21
    refine ⟨p', r', t', l', c', nt, v1, v2, ⟨⟨s1, s3, s4, s5, s6, s7, by rw [hCh.i (by decide) (by omega)]; exact u7, by rw [hCh.i (by decide) (by omega)]; exact u8, s25, by rw [s26.2.1]; exact h82, by rw [hCh.t (by omega)]; exact u11, by rw [hCh.n (by omega)]; exact u12⟩, s17, h4.same (by omega) (s26.1.i (by decide) (by omega)) (hCh.i (by decide) (by omega)) (hCh.al (by decide) (fun z => z) (by omega)) (s26.1.al (by decide) (fun z => z) (by omega)) (s26.1.i (by decide) (by omega)) (hCh.i (by decide) (by omega)), s10, by omega, by omega, s11, by omega, by omega, h11⟩, ⟨Ci.trans b3.ci s22, Rk.ri s26 h82, by have := b3.2.1; omega, by have := b3.2.1; omega, by have := b3.2.2; omega, by omega, Nat.le_refl _, fun _ _ => by rw [hCh.al (by decide) (fun z => z) (by omega)], fun _ _ => by rw [s26.1.al (by decide) (fun z => z) (by omega)], fun q => (s16 q).1⟩, by omega, s8, s12, s14, s15, fun q => (s16 q).2, ?_, by rw [s19, b3.2.1], by rw [s20, b3.1.r (by decide) la], fl_ci hCh (fun f f1 f2 f3 f4 => by unfold FmF; simp only [List.mem_cons, List.not_mem_nil, or_false]; omega) la, fun b hb => hCh.t hb, fun y j y1 y2 => by rw [(s26.1.2.2.2 y (by simp only [List.mem_cons, List.not_mem_nil, or_false]; omega) (fun z => z) (by omega)).1], by rw [s23, b3.2.1], s13b⟩
    rw [b3.2.1, List.nil_append] at s18
    exact s18
  · right
    exact ⟨p', r', v1, v2, v3, Cz.trans (Ci.cz b3.ci) (cz_of v4.1 (by decide) (by decide) (by decide)), by have := b3.2.1; have := v4.2.1; omega, by have := b3.2.1; have := v4.2.1; omega, by have := b3.2.2; have := v4.2.2; omega, Rk.ri v5 h82, fun _ _ => by rw [v4.1.al (by decide) (fun z => z) (by have := b3.2.1; omega), b3.1.al (by decide) (fun z => z) (by omega)], fun _ _ => by rw [v5.1.al (by decide) (fun z => z) (by omega)]⟩
end Bt
