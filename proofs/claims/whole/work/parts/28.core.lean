/-! Layer C: FACTS, TEXTS and ITEMS of both sides; the methods that tell a FACT -/
/-- what the class keeps between questions -/
def Sc (ta : Nat → Nat) (p : Mem) (D : Dt) : Prop := (∀ j, j < 12 → j ≠ 0 → j ≠ 2 → j ≠ 3 → j ≠ 4 → aI p 26 j = 0) ∧ (∀ k, k < D.2.1 → ¬ (D.1 8 k = 0 ∨ D.1 8 k = 3) → mI p 1292 (ta k) = 0) ∧ (∀ k j, k < D.2.1 → 0 ≤ aI p (ta k + 3) j ∧ aI p (ta k + 3) j ≤ mI p 1157 25) ∧ mR p 1158 25 = none
theorem Sc.Ch {F A : List Nat} {dy : Nat → Prop} {ta ia : Nat → Nat} {p p' : Mem} {D : Dt} (h : Sc ta p D) (L : LText ta ia p D) (T : Top p) (c : Ch F A dy p p') (hF : ∀ f, f = 1292 ∨ f = 1157 ∨ f = 1158 → f ∉ F) (hA : ∀ a, a = 26 ∨ 51 ≤ a → a ∉ A) (hd : ¬ dy 26 ∧ ∀ k, k < D.2.1 → ¬ dy (ta k + 3)) : Sc ta p' D := by
  have T1 := T.1
  obtain ⟨h1, h2, h3, h4⟩ := h
  refine ⟨fun j a b c' d e => ?_, fun k hk hn => ?_, fun k j hk => ?_, ?_⟩
  · rw [c.ai (hA 26 (Or.inl rfl)) hd.1 (by omega)]; exact h1 j a b c' d e
  · have lk : ta k < mC p := T.lt (by rw [(L.2.1 k hk).2.1]; decide)
    rw [c.i (hF 1292 (Or.inl rfl)) lk]; exact h2 k hk hn
  · obtain ⟨t1, -, -, -, -, -, -, -, -, -, -, -, -, -, -, -, -, -, t19, -⟩ := L.2.1 k hk
    have lk : ta k + 3 < mC p := T.lt (by rw [t19]; decide)
    rw [c.ai (hA _ (Or.inr (by omega))) (hd.2 k hk) lk, c.i (hF 1157 (Or.inr (Or.inl rfl))) (by omega)]; exact h3 k j hk
  · rw [c.r (hF 1158 (Or.inr (Or.inr rfl))) (by omega)]; exact h4
theorem Sc.eqD {ta : Nat → Nat} {p : Mem} {D D' : Dt} (h : Sc ta p D) (e1 : D'.2.1 = D.2.1) (e2 : D'.1 8 = D.1 8) : Sc ta p D' := by
  unfold Sc
  rw [e1, e2]
  exact h
def Core (nc : Nat) (p r : Mem) : Prop := Top p ∧ 82 ≤ mC r ∧ WText (dat r) nc ∧ WFact (dat r) nc ∧ mI r 1601 0 = nj (dat r).2.2 ∧ mI r 1554 0 = nj (dat r).2.1 ∧ nc ≤ 60 ∧ mI p 771 22 = nj nc ∧ mI r 1584 0 = nj nc ∧ ∃ (fa ta ia sa ca : Nat → Nat) (od : List Nat), Lk fa ta ia sa ca od p (dat r) ∧ Sc ta p (dat r)
section Cr
variable {nc : Nat} {p r : Mem} {D : Dt} {s a b c v : Int32} {g : Nat → Int32}
theorem WF1.ap {i : Nat} (h : WF1 D nc i) (hi : i < D.2.2) (hg : ∀ h, h < 48 → g (48 * i + h) = D.1 49 (48 * i + h)) : WF1 (apF D s a b c v g) nc i := by
  obtain ⟨k, g1, g2, g3, g4, g5, g6, g7, g8, g9⟩ := h
  unfold WF1
  rw [apF_old hi (by decide), apF_old hi (by decide), apF_old hi (by decide), apF_old hi (by decide), apF_old hi (by decide), apF_49]
  refine ⟨k, g1, g2, fun q => ?_, g4, g5, fun q => ?_, fun q => ?_, g8, fun q => ?_⟩
  · obtain ⟨j, h1, h2, h3⟩ := g3 q
    exact ⟨j, h1, h2, by rw [apF_lo (by omega)]; exact h3⟩
  · obtain ⟨x, y, h1, h2, h3, h4, h5, h6⟩ := g6 q
    exact ⟨x, y, h1, h2, h3, h4, h5, fun h hh => by rw [hg h hh]; exact h6 h hh⟩
  · obtain ⟨x, y, w, h1, h2, h3, h4, h5⟩ := g7 q
    exact ⟨x, y, w, h1, h2, h3, by rw [apF_old (by omega) (by decide)]; exact h4, h5⟩
  · obtain ⟨x, y, w, h1, h2, h3, h4, h5⟩ := g9 q
    exact ⟨x, y, w, h1, h2, h3, by rw [apF_old (by omega) (by decide)]; exact h4, h5⟩
theorem factAt_tld {fc n : Nat} {s' a' b' c' v' : Int32} (T : Top p) (hD : D.2.2 = fc) (hs : s' = s) (ha : a' = a) (h4 : s = 4 → b' = b ∧ c' = c ∧ v' = v) (h5 : s = 5 ∨ s = 9 → b' = b ∧ v' = v) (h6 : s = 6 → b' = b ∧ n ≤ 48 ∧ (v = -1 ∧ n = 0 ∨ v = nj n) ∧ ∀ h, h < n → g (48 * fc + h) = -1) (h7 : s = 7 ∨ s = 8 → c' = b ∧ v' = v) (h10 : s = 10 → b' = b ∧ v' = c) :
    FactAt (tldP p fc s' a' b' c' v' n none) (apF D s a b c v g) fc (mC p) := by
  subst hD
  have A := tldP_at (fc := D.2.2) (s := s') (a := a') (b := b') (c := c') (v := v') (n := n) (x := none) T
  obtain ⟨A1, A2, A3, A4, A5, A6, A7, A8, A9, A10, A11, A12, A13⟩ := A
  unfold FactAt
  rw [apF_44, apF_45, apF_46, apF_47, apF_48, apF_49, A1, A2, A3, A4, A5, A6, A7, A8, A9, A10]
  refine ⟨T.1, rfl, rfl, rfl, hs, fun _ => ⟨rfl, ha⟩, h4, h5, fun q => ?_, h7, h10⟩
  obtain ⟨z1, z2, z3, z4⟩ := h6 q
  exact ⟨z1, n, rfl, z2, z3, fun h hh => by rw [A11 h hh, z4 h hh]⟩
theorem Core.tell {n : Nat} {s' a' b' c' v' : Int32} {r' : Mem} (h : Core nc p r) (hf : (dat r).2.2 < 160) (h4 : 4 ≤ s) (hg : ∀ i h, i < (dat r).2.2 → h < 48 → g (48 * i + h) = (dat r).1 49 (48 * i + h))
    (hr : dat r' = apF (dat r) s a b c v g) (hr1 : mC r' = mC r) (hr2 : mI r' 1601 0 = nj ((dat r).2.2 + 1)) (hr3 : mI r' 1554 0 = mI r 1554 0) (hr4 : mI r' 1584 0 = mI r 1584 0)
    (hw : WF1 (apF (dat r) s a b c v g) nc (dat r).2.2) (hn : FactAt (tldP p (dat r).2.2 s' a' b' c' v' n none) (apF (dat r) s a b c v g) (dat r).2.2 (mC p)) : Core nc (tldP p (dat r).2.2 s' a' b' c' v' n none) r' := by
  obtain ⟨T, C2, W1, W2, e1, e2, e3, e4, e5, fa, ta, ia, sa, ca, od, L, hSc⟩ := h
  have C := tldP_Ch (p := p) (fc := (dat r).2.2) (s := s') (a := a') (b := b') (c := c') (v := v') (n := n) (x := none)
  refine ⟨tldP_Top T, by omega, by rw [hr]; exact W1.ap hf, by
    rw [hr]
    intro i hi
    by_cases q : i = (dat r).2.2
    · subst q; exact hw
    · rw [apF_f] at hi
      exact (W2 i (by omega)).ap (by omega) (hg i · (by omega)), by rw [hr, apF_f]; exact hr2, by rw [hr, apF_t, hr3]; exact e2, e3, by rw [C.i (by decide) (by have := T.1; omega)]; exact e4, by rw [hr4]; exact e5, up1 fa (dat r).2.2 (mC p), ta, ia, sa, ca, od, ?_, ?_⟩
  · rw [hr]
    exact L.tell T W1 hf hg h4 hn
  · rw [hr]
    exact (hSc.Ch L.2.1 T C (fun f hf => by simp; omega) (fun a ha => by simp; omega) ⟨nil_no, fun _ _ => nil_no⟩).eqD apF_t (funext fun j => apF_lo (by omega))
theorem Core.Chp {F A : List Nat} {p' : Mem} (h : Core nc p r) (T' : Top p') (c : Ch F A nil p p') (hF : ∀ f, (f < 7 ∨ 256 ≤ f ∧ f < 268 ∨ f ∈ [514, 515, 771, 1157, 1158, 1292, 1280, 1281, 1282, 1283, 1284, 1285, 1286, 1288, 1289, 1290, 1291]) → f ∉ F) (hA : ∀ a, a = 14 ∨ a = 15 ∨ a = 26 ∨ 50 ≤ a → a ∉ A) : Core nc p' r := by
  obtain ⟨T, C2, W1, W2, e1, e2, e3, e4, e5, fa, ta, ia, sa, ca, od, ⟨L1, L2, L3, L4, L5⟩, hSc⟩ := h
  refine ⟨T', C2, W1, W2, e1, e2, e3, by rw [c.i (hF 771 (Or.inr (Or.inr (by decide)))) (by have := T.1; omega)]; exact e4, e5, fa, ta, ia, sa, ca, od, ⟨?_, ?_, ?_, ?_, L5⟩, ?_⟩
  · exact L1.Ch T c (fun f hf => hF f (by rcases hf with z | z; exact Or.inl z; subst z; exact Or.inr (Or.inr (by decide)))) (fun a ha => hA a (by omega)) ⟨nil_no, fun _ _ => nil_no⟩
  · exact L2.Ch T c (fun f hf => hF f (Or.inr (Or.inr (by revert hf; simp; omega)))) (fun a ha => hA a (by omega)) (fun _ _ => nil_no)
  · exact L3.Ch T c (hA 15 (by omega)) nil_no
  · exact L4.Ch T c (fun f h1 h2 => hF f (Or.inr (Or.inl ⟨h1, h2⟩))) (fun a ha => hA a (by omega)) (fun _ _ _ _ => ⟨nil_no, nil_no⟩)
  · exact hSc.Ch L2 T c (fun f hf => hF f (Or.inr (Or.inr (by simp; omega)))) (fun a ha => hA a (by omega)) ⟨nil_no, fun _ _ => nil_no⟩
theorem Core.full {n : Nat} {s a b c v : Int32} (h : Core nc p r) : Core nc (iniF (nw p 1 0 7) (mC p) s a b c v n none) r :=
  h.Chp (iniF_Top h.1) iniF_Ch (fun _ _ => List.not_mem_nil) (fun _ _ => List.not_mem_nil)
end Cr
