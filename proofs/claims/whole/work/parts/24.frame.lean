/-! Layer C: what stays of the links when other cells change -/
def Top (p : Mem) : Prop := 51 ≤ mC p ∧ ∀ a, mC p ≤ a → mT p a = 0
theorem Top.lt {p : Mem} {a : Nat} (h : Top p) (q : mT p a ≠ 0) : a < mC p := Nat.not_le.mp fun z => q (h.2 a z)
theorem Top.nw {p : Mem} {t n z : Nat} (h : Top p) : Top (nw p t n z) := by
  refine ⟨Nat.le_succ_of_le h.1, fun a ha => ?_⟩
  rw [k_mC_nw] at ha
  rw [k_mT_nw, up1_ne (by omega)]
  exact h.2 a (by omega)
theorem Top.same {p p' : Mem} (h : Top p) (h1 : mT p' = mT p) (h2 : mC p' = mC p) : Top p' := by
  unfold Top
  rw [h1, h2]
  exact h
theorem Top.Ch {F A : List Nat} {dy : Nat → Prop} {p p' : Mem} (T : Top p) (c : Ch F A dy p p') : Top p' := ⟨Nat.le_trans T.1 c.1.1, fun a ha => (c.1.2 a ha).trans (T.2 a (Nat.le_trans c.1.1 ha))⟩
section Fr
variable {F A : List Nat} {dy : Nat → Prop} {p p' : Mem} {D : Dt}
theorem Ch.i (c : Ch F A dy p p') {f a : Nat} (hf : f ∉ F) (ha : a < mC p) : mI p' f a = mI p f a := (c.2.2.1 f hf a ha).1
theorem Ch.l (c : Ch F A dy p p') {f a : Nat} (hf : f ∉ F) (ha : a < mC p) : mL p' f a = mL p f a := (c.2.2.1 f hf a ha).2.1
theorem Ch.r (c : Ch F A dy p p') {f a : Nat} (hf : f ∉ F) (ha : a < mC p) : mR p' f a = mR p f a := (c.2.2.1 f hf a ha).2.2
theorem Ch.ai (c : Ch F A dy p p') {a : Nat} (hf : a ∉ A) (hd : ¬ dy a) (ha : a < mC p) : aI p' a = aI p a := (c.2.2.2 a hf hd ha).1
theorem Ch.al (c : Ch F A dy p p') {a : Nat} (hf : a ∉ A) (hd : ¬ dy a) (ha : a < mC p) : aL p' a = aL p a := (c.2.2.2 a hf hd ha).2.1
theorem Ch.ar (c : Ch F A dy p p') {a : Nat} (hf : a ∉ A) (hd : ¬ dy a) (ha : a < mC p) : aR p' a = aR p a := (c.2.2.2 a hf hd ha).2.2
theorem Ch.t (c : Ch F A dy p p') {a : Nat} (ha : a < mC p) : mT p' a = mT p a := (c.2.1 a ha).1
theorem Ch.n (c : Ch F A dy p p') {a : Nat} (ha : a < mC p) : mN p' a = mN p a := (c.2.1 a ha).2
theorem FactAt.Ch {i a : Nat} (h : FactAt p D i a) (T : Top p) (c : Ch F A dy p p') (hF : ∀ f, f < 7 → f ∉ F) (hA : a + 1 ∉ A) (hd : ¬ dy (a + 1)) : FactAt p' D i a := by
  have l1 : a < mC p := T.lt (by rw [h.2.1]; decide)
  have l2 : a + 1 < mC p := T.lt (by rw [h.2.2.2.1]; decide)
  unfold FactAt
  rw [c.t l1, c.t l2, c.n l2, c.r (hF 5 (by omega)) l1, c.r (hF 6 (by omega)) l1, c.i (hF 0 (by omega)) l1, c.i (hF 1 (by omega)) l1, c.i (hF 2 (by omega)) l1, c.i (hF 3 (by omega)) l1, c.i (hF 4 (by omega)) l1, c.ai hA hd l2]
  exact h
theorem TextAt.Ch {ta ia : Nat → Nat} {k t : Nat} (h : TextAt ta ia p D k t) (T : Top p) (c : Ch F A dy p p') (hF : ∀ f, f ∈ [1280, 1281, 1282, 1283, 1284, 1285, 1286, 1288, 1289, 1290, 1291] → f ∉ F) (hA : t - 1 ∉ A) (hd : ¬ dy (t - 1)) : TextAt ta ia p' D k t := by
  obtain ⟨g1, g2, g3, g4, g5, g6, g7, g8, g9, g10, g11, g12, g13, g14, g15, g16, g17, g18, g19, g20, g21⟩ := h
  have l1 : t < mC p := T.lt (by rw [g2]; decide)
  have l0 : t - 1 < mC p := T.lt (by rw [g10]; decide)
  have l2 : t + 1 < mC p := T.lt (by rw [g17]; decide)
  have l3 : t + 2 < mC p := T.lt (by rw [g18]; decide)
  have l4 : t + 3 < mC p := T.lt (by rw [g19]; decide)
  have l5 : t + 4 < mC p := T.lt (by rw [g20]; decide)
  unfold TextAt
  rw [c.t l1, c.t l0, c.t l2, c.t l3, c.t l4, c.t l5, c.n l0, c.n l2, c.n l3, c.n l4, c.n l5, c.ar hA hd l0]
  rw [c.i (hF 1280 (by decide)) l1, c.i (hF 1281 (by decide)) l1, c.i (hF 1282 (by decide)) l1, c.i (hF 1283 (by decide)) l1, c.i (hF 1284 (by decide)) l1]
  rw [c.r (hF 1285 (by decide)) l1, c.r (hF 1286 (by decide)) l1, c.r (hF 1288 (by decide)) l1, c.r (hF 1289 (by decide)) l1, c.r (hF 1290 (by decide)) l1, c.r (hF 1291 (by decide)) l1]
  exact ⟨g1, g2, g3, g4, g5, g6, g7, g8, g9, g10, g11, g12, g13, g14, g15, g16, g17, g18, g19, g20, g21⟩
theorem LFact.Ch {fa ta : Nat → Nat} (h : LFact fa ta p D) (T : Top p) (c : Ch F A dy p p') (hF : ∀ f, f < 7 ∨ f = 514 → f ∉ F) (hA : ∀ a, a = 14 ∨ 51 ≤ a → a ∉ A) (hd : ¬ dy 14 ∧ ∀ i, i < D.2.2 → ¬ dy (fa i + 1)) : LFact fa ta p' D := by
  have T1 := T.1
  refine ⟨by rw [c.i (hF 514 (Or.inr rfl)) (by omega)]; exact h.1, fun i hi => ?_⟩
  obtain ⟨h1, h2, h3, h4⟩ := h.2 i hi
  have l1 : fa i < mC p := T.lt (by rw [h2.2.1]; decide)
  refine ⟨by rw [c.ar (hA 14 (Or.inl rfl)) hd.1 (by omega)]; exact h1, h2.Ch T c (fun f hf => hF f (Or.inl hf)) (hA _ (Or.inr (by have := h2.1; omega))) (hd.2 i hi), fun q => ?_, h4⟩
  rw [c.r (hF 6 (Or.inl (by omega))) l1]
  exact h3 q
theorem LText.Ch {ta ia : Nat → Nat} (h : LText ta ia p D) (T : Top p) (c : Ch F A dy p p') (hF : ∀ f, f ∈ [515, 1280, 1281, 1282, 1283, 1284, 1285, 1286, 1288, 1289, 1290, 1291] → f ∉ F) (hA : ∀ a, 50 ≤ a → a ∉ A) (hd : ∀ k, k < D.2.1 → ¬ dy (ta k - 1)) : LText ta ia p' D := by
  have T1 := T.1
  refine ⟨by rw [c.i (hF 515 (by decide)) (by omega)]; exact h.1, fun k hk => ?_, h.2.2.1, fun k hk => ?_⟩
  · have h2 := h.2.1 k hk
    exact h2.Ch T c (fun f hf => hF f (List.mem_cons_of_mem _ hf)) (hA _ (by have := h2.1; omega)) (hd k hk)
  · obtain ⟨-, -, -, -, -, -, -, -, -, -, -, -, -, -, -, -, -, -, -, g20, -⟩ := h.2.1 k hk
    rw [c.n (T.lt (by rw [g20]; decide))]
    exact h.2.2.2 k hk
theorem LOrd.Ch {ta : Nat → Nat} {od : List Nat} (h : LOrd ta od p D) (T : Top p) (c : Ch F A dy p p') (hA : 15 ∉ A) (hd : ¬ dy 15) : LOrd ta od p' D := by
  have T1 := T.1
  refine ⟨h.1, fun i k hk => ?_, h.2.2⟩
  rw [c.ar hA hd (by omega)]
  exact h.2.1 i k hk
end Fr
