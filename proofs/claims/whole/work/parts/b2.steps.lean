/-! Layer C: both sides within an ITEM, step by step -/
/-- both within an ITEM of TEXT x, at token t -/
def Pi (N : Nat) (kd pl : Nat → Nat) (x : Nat) (p r : Mem) (t nm l c : Nat) : Prop := Ps N kd pl p r t ∧ Lat p r (pl t) ∧ Nam pl t p r nm ∧ mI r 1580 0 = nj l ∧ 200 * x ≤ l ∧ 3 * (l - 200 * x) ≤ t ∧ mI r 1581 0 = nj c ∧ 500 * x ≤ c ∧ c ≤ 500 * x + t ∧ x ≤ 23
/-- from p r to p' r' with tokens t to t' taken: ITEM i, object a -/
def Sp (n a i l c : Nat) (p r p' r' : Mem) (t t' nm nm' : Nat) : Prop := Ci a p p' ∧ Ri i l c r r' ∧ mC p ≤ mC p' ∧ mC p' ≤ mC p + n ∧ mS p' + t ≤ mS p + t' ∧ t ≤ t' ∧ nm ≤ nm' ∧ (∀ k, k < min nm 60 → aL p' 23 k = aL p 23 k) ∧ (∀ k, k < nm → aL r' 35 k = aL r 35 k) ∧ (mI r' 1551 0 = 0 → mI r 1551 0 = 0)
/-- both have failed within an ITEM -/
def Bi (n a i l c t nm : Nat) (p r p' r' : Mem) : Prop := Fld p' r' ∧ Cz a p p' ∧ mC p ≤ mC p' ∧ mC p' ≤ mC p + n ∧ mS p' + t ≤ mS p + 501 ∧ Ri i l c r r' ∧ (∀ k, k < min nm 60 → aL p' 23 k = aL p 23 k) ∧ (∀ k, k < nm → aL r' 35 k = aL r 35 k)
theorem Sp.trans {n n' a i l c l1 c1 : Nat} {p r p1 r1 p2 r2 : Mem} {t t1 t2 nm nm1 nm2 : Nat} (h : Sp n a i l c p r p1 r1 t t1 nm nm1) (k : Sp n' a i l1 c1 p1 r1 p2 r2 t1 t2 nm1 nm2) (hl : l ≤ l1) (hc : c ≤ c1) : Sp (n + n') a i l c p r p2 r2 t t2 nm nm2 := by
  obtain ⟨a1, a2, a3, a4, a5, a6, a7, a8, a9, a10⟩ := h
  obtain ⟨b1, b2, b3, b4, b5, b6, b7, b8, b9, b10⟩ := k
  exact ⟨Ci.trans a1 b1, Ri.trans a2 (b2.mono hl hc), by omega, by omega, by omega, by omega, by omega, fun k hk => (b8 k (by omega)).trans (a8 k hk), fun k hk => (b9 k (by omega)).trans (a9 k hk), fun q => a10 (b10 q)⟩
theorem Sp.bi {n n' a i l c l1 c1 : Nat} {p r p1 r1 p2 r2 : Mem} {t t1 nm nm1 : Nat} (h : Sp n a i l c p r p1 r1 t t1 nm nm1) (k : Bi n' a i l1 c1 t1 nm1 p1 r1 p2 r2) (hl : l ≤ l1) (hc : c ≤ c1) : Bi (n + n') a i l c t nm p r p2 r2 := by
  obtain ⟨a1, a2, a3, a4, a5, a6, a7, a8, a9, a10⟩ := h
  obtain ⟨b1, b2, b3, b4, b5, b6, b7, b8⟩ := k
  exact ⟨b1, Cz.trans a1.cz b2, by omega, by omega, by omega, Ri.trans a2 (b6.mono hl hc), fun k hk => (b7 k (by omega)).trans (a8 k hk), fun k hk => (b8 k (by omega)).trans (a9 k hk)⟩
/-- the reference goes on after the failure -/
theorem Bi.on {n a i l c t nm : Nat} {p r p' r' r'' : Mem} (h : Bi n a i l c t nm p r p' r') (k : ∀ d q, Rf r' d q → Rf r'' d q) (x : Rj i r' r'') : Bi n a i l c t nm p r p' r'' := by
  obtain ⟨⟨d, q, w1, w2, w3⟩, b2, b3, b4, b5, b6, b7, b8⟩ := h
  exact ⟨⟨d, q, w1, w2, k d q w3⟩, b2, b3, b4, b5, Ri.trans b6 (x.1 l c), b7, fun k hk => by rw [x.2]; exact b8 k hk⟩
section Bs
variable {N : Nat} {kd pl : Nat → Nat} {x a i l c : Nat} {p r : Mem} {t nm : Nat}
theorem Bad.bi {p' r' : Mem} (h : Bad nm p r p' r') (h82 : 82 ≤ mC r) (ht : t ≤ 501) : Bi 0 a i l c t nm p r p' r' := ⟨h.1, h.2.1 a, by have := h.2.2.1; omega, by have := h.2.2.1; omega, by have := h.2.2.2.1; omega, h.2.2.2.2.1.ri h82, h.2.2.2.2.2.2.2.1, fun _ _ => by rw [h.2.2.2.2.2.2.2.2]⟩
theorem Pi.p82 (h : Pi N kd pl x p r t nm l c) : 82 ≤ mC r := h.1.2.2.2.2.2.2.2.2.2.1
theorem Pi.T (h : Pi N kd pl x p r t nm l c) : Top p := h.1.2.2.2.2.2.2.2.2.1
theorem Pi.tN (h : Pi N kd pl x p r t nm l c) : t < N ∧ N ≤ 501 := ⟨h.1.2.1, h.1.1.2.1⟩
theorem Pi.late (h : Pi N kd pl x p r t nm l c) : mI r 1551 0 ≠ 0 → ∃ q', q' < pl t ∧ mI r 1552 0 = nj q' := fun z => by
  obtain ⟨-, q, e1, -, e3⟩ := h.2.1.2 z
  exact ⟨q, e1, e3⟩
theorem Pi.kd3 (h : Pi N kd pl x p r t nm l c) : kd t < 60 ∧ aI p 18 t = nj (kd t) ∧ aI r 3 t = nj (kM (kd t)) := ⟨(h.1.1.2.2.2.2 t h.1.2.1).1, (h.1.1.2.2.2.2 t h.1.2.1).2.2.1, (h.1.1.2.2.2.2 t h.1.2.1).2.2.2.1⟩
/-- the reference looks at the token -/
theorem Pi.is (h : Pi N kd pl x p r t nm l c) (k' : Nat) (hk : k' < 60) {y : Int32} (hy : y = nj (kM k')) : R_is y r = some (tI (decide (kd t = k')), r) := is_r h.1.2.2.2.2.1 h.1.2.2.2.1 (by have := h.tN; omega) h.kd3.2.2 h.kd3.1 k' hk hy
theorem kind_i (h : Pi N kd pl x p r t nm l c) (k : Nat) (hk : k < 60) {y : Int32} (hy : y = nj (kM k)) (h2 : 2 ≤ k) :
    (kd t = k ∧ ∃ p' r', P_Parser_takeKind (nj k) p = some (1, p') ∧ R_must y r = some ((), r') ∧ Pi N kd pl x p' r' (t + 1) nm l c ∧ Sp 0 a i l c p r p' r' t (t + 1) nm nm ∧ (∀ f, f ≠ 779 → mI p' f = mI p f) ∧ mL p' = mL p ∧ mR p' = mR p ∧ mT p' = mT p ∧ aI r' = aI r ∧ p' = sI p 779 22 (nj (t + 1))) ∨
    (∃ p' r', P_Parser_takeKind (nj k) p = some (0, p') ∧ R_must y r = some ((), r') ∧ Bi 0 a i l c t nm p r p' r') := by
  obtain ⟨h1, h3, h4, h5, h6, h7, h8, h9, h10, h11⟩ := h
  rcases kind_j h1 k hk hy h2 with ⟨z, w, p', r', a1, a2, a3, a4, a5⟩ | ⟨p', r', a1, a2, a3⟩
  · left
    have hpl := h1.1.mono (t + 1) (i := t) (by omega) a5.2.1
    subst a3 a4
    refine ⟨z, _, _, a1, a2, ⟨a5, (h3.same (by rw [k_mI_sI (by omega)]) (by rw [k_mI_sI (by omega)]) (by rw [k_mI_sI (by omega)]) (by rw [k_mI_sI (by omega)])).mono hpl, h4.same (by omega) (by rw [k_mI_sI (by omega)]) (by rw [k_mI_sI (by omega)]) (by rw [k_aL_sI]) (by rw [k_aL_sI]) (by rw [k_mI_sI (by omega)]) (by rw [k_mI_sI (by omega)]), by rw [k_mI_sI (by omega)]; exact h5, h6, by omega, by rw [k_mI_sI (by omega)]; exact h8, h9, by omega, h11⟩, ⟨(Ct.rfl.sI (by decide)).ci, Rt.ri (Rt.rfl.sI (by decide)) h1.2.2.2.2.2.2.2.2.2.1, by rw [k_mC_sI]; omega, by rw [k_mC_sI]; omega, by rw [k_mS_sI]; omega, by omega, Nat.le_refl _, fun _ _ => by rw [k_aL_sI], fun _ _ => by rw [k_aL_sI], by rw [k_mI_sI (by omega)]; exact fun q => q⟩, fun f hf => by rw [k_mI_sI hf], k_mL_sI, k_mR_sI, k_mT_sI, k_aI_sI, rfl⟩
  · right
    exact ⟨p', r', a1, a2, (a3 nm).bi h1.2.2.2.2.2.2.2.2.2.1 (by have := h1.2.1; have := h1.1.2.1; omega)⟩
theorem int_i (h : Pi N kd pl x p r t nm l c) (lo hi : Nat) (hlo : lo < 10000) (hhi : hi < 10000) :
    (∃ v p' r', v ≤ 9999 ∧ P_Parser_takeInt (nj lo) (nj hi) p = some (1, p') ∧ R_number (nj lo) (nj hi) r = some (nj v, r') ∧ Pi N kd pl x p' r' (t + 1) nm l c ∧ Sp 0 a i l c p r p' r' t (t + 1) nm nm ∧ mI p' 780 22 = nj v ∧ (mI r' 1551 0 = 0 → lo ≤ v ∧ v ≤ hi) ∧ (∀ f, 256 ≤ f → f ≤ 268 → mI p' f = mI p f) ∧ mL p' = mL p ∧ mR p' = mR p ∧ mT p' = mT p ∧ aI r' = aI r) ∨
    (∃ v p' r', P_Parser_takeInt (nj lo) (nj hi) p = some (0, p') ∧ R_number (nj lo) (nj hi) r = some (v, r') ∧ Bi 0 a i l c t nm p r p' r' ∧ (v = 0 ∨ ∃ w, w ≤ 9999 ∧ v = nj w)) := by
  have hl := h.late
  obtain ⟨h1, h3, h4, h5, h6, h7, h8, h9, h10, h11⟩ := h
  rcases int_j h1 hl lo hi hlo hhi with ⟨v, p', r', a1, a2, a3, a4, a5, a6, a7, a8, a9, a10, a11⟩ | ⟨v, p', r', a1, a2, a3, a4⟩
  · left
    have hpl := (h1.1.2.2.2.1 t a9.2.1).2
    have oP : ∀ f, f ≠ 776 → f ≠ 777 → f ≠ 779 → f ≠ 780 → mI p' f = mI p f := by
      intro f f1 f2 f3 f4
      rw [a5, k_mI_sI f3]
      split
      · rw [k_mI_sI f4]
      · rw [ntP_o f1 f2, k_mI_sI f4]
    have oR : ∀ f, f ≠ 1551 → f ≠ 1552 → f ≠ 1547 → mI r' f = mI r f := by
      intro f f1 f2 f3
      rw [a6]
      split
      · rw [k_mI_sI f3]
      · rw [wrR_o f1 f2, k_mI_sI f3]
    have xP : aL p' = aL p ∧ mL p' = mL p ∧ mR p' = mR p ∧ mT p' = mT p ∧ mC p' = mC p ∧ mS p' = mS p := by
      rw [a5]
      split
      · exact ⟨rfl, rfl, rfl, rfl, rfl, rfl⟩
      · obtain ⟨q1, q2, q3, q4, q5, q6, q7, q8, q9⟩ := ntP_x (k := 5) (q := pl t) (m := sI p 780 22 (nj v))
        exact ⟨q4, q8, q9, q6, q1, q2⟩
    have xR : aL r' = aL r ∧ aI r' = aI r := by
      rw [a6]
      split
      · exact ⟨rfl, rfl⟩
      · obtain ⟨q1, q2, q3, q4⟩ := wrR_x (k := 5) (q := pl t) (m := sI r 1547 0 (nj (t + 1)))
        exact ⟨q4, q3⟩
    have hs : Lat (sI p 780 22 (nj v)) (sI r 1547 0 (nj (t + 1))) (pl t) := h3.same (by rw [k_mI_sI (by omega)]) (by rw [k_mI_sI (by omega)]) (by rw [k_mI_sI (by omega)]) (by rw [k_mI_sI (by omega)])
    have hLat : Lat p' r' (pl (t + 1)) ∧ (mI r' 1551 0 = 0 → (lo ≤ v ∧ v ≤ hi) ∧ mI r 1551 0 = 0) := by
      by_cases y : lo ≤ v ∧ v ≤ hi
      · rw [if_pos y] at a5 a6
        subst a5 a6
        exact ⟨(hs.same (by rw [k_mI_sI (by omega)]) (by rw [k_mI_sI (by omega)]) rfl rfl).mono (by omega), fun q => ⟨y, by rw [k_mI_sI (by omega)] at q; exact q⟩⟩
      · rw [if_neg y] at a5 a6
        subst a5 a6
        exact ⟨((hs.nt (by omega) (by omega) a11).same (by rw [k_mI_sI (by omega)]) (by rw [k_mI_sI (by omega)]) rfl rfl).mono (by omega), fun q => absurd q (wrR_ne (by omega) (by omega))⟩
    refine ⟨v, p', r', a1, a3, a4, ⟨a9, hLat.1, h4.same (by omega) (by rw [oR 1585 (by omega) (by omega) (by omega)]) (by rw [oP 771 (by omega) (by omega) (by omega) (by omega)]) (by rw [xP.1]) (by rw [xR.1]) (by rw [oR 1587 (by omega) (by omega) (by omega)]) (by rw [oP 778 (by omega) (by omega) (by omega) (by omega)]), by rw [oR 1580 (by omega) (by omega) (by omega)]; exact h5, h6, by omega, by rw [oR 1581 (by omega) (by omega) (by omega)]; exact h8, h9, by omega, h11⟩, ⟨a7.ci, a8.ri h1.2.2.2.2.2.2.2.2.2.1, by have := xP.2.2.2.2.1; omega, by have := xP.2.2.2.2.1; omega, by have := xP.2.2.2.2.2; omega, by omega, Nat.le_refl _, fun _ _ => by rw [xP.1], fun _ _ => by rw [xR.1], fun q => (hLat.2 q).2⟩, a10, fun q => (hLat.2 q).1, fun f f1 f2 => oP f (by omega) (by omega) (by omega) (by omega), xP.2.1, xP.2.2.1, xP.2.2.2.1, xR.2⟩
  · right
    exact ⟨v, p', r', a1, a2, (a3 nm).bi h1.2.2.2.2.2.2.2.2.2.1 (by have := h1.2.1; have := h1.1.2.1; omega), a4⟩
theorem name_i (h : Pi N kd pl x p r t nm l c) :
    (∃ v nm' p' r', P_Parser_takeName p = some (1, p') ∧ R_name r = some (nj v, r') ∧ Pi N kd pl x p' r' (t + 1) nm' l c ∧ Sp 0 a i l c p r p' r' t (t + 1) nm nm' ∧ v < nm' ∧ v < 600 ∧ mI p' 780 22 = (if v < 60 then nj v else -1) ∧ (∀ f b, 256 ≤ f → f ≤ 268 → b < mC p → mI p' f b = mI p f b ∧ mL p' f b = mL p f b ∧ mR p' f b = mR p f b) ∧ (∀ b, b < mC p → mT p' b = mT p b) ∧ (∀ y j, 15 ≤ y → y ≤ 34 → aI r' y j = aI r y j) ∧ mI r' 1551 0 = mI r 1551 0) ∨
    (∃ p' r', P_Parser_takeName p = some (0, p') ∧ R_name r = some (0, r') ∧ Bi 0 a i l c t nm p r p' r') := by
  obtain ⟨h1, h3, h4, h5, h6, h7, h8, h9, h10, h11⟩ := h
  have h82 := h1.2.2.2.2.2.2.2.2.2.1
  have T1 := h1.2.2.2.2.2.2.2.2.1.1
  have hN := h1.1.2.1
  have htN := h1.2.1
  rcases name_j h1 h4 with ⟨z, w, v, nm', p', r', a1, a2, a3, a4, a5, a6, a7, a8, a9, a10, a11⟩ | ⟨p', r', a1, a2, a3⟩
  · left
    have hpl := h1.1.mono (t + 1) (i := t) (by omega) a3.2.1
    have hv := a4.1
    refine ⟨v, nm', p', r', a1, a2, ⟨a3, (h3.same (a8.1.i (by decide) (by omega)) (a8.1.i (by decide) (by omega)) (a9.1.i (by decide) (by omega)) (a9.1.i (by decide) (by omega))).mono hpl, a4, by rw [a9.1.i (by decide) (by omega)]; exact h5, h6, by omega, by rw [a9.1.i (by decide) (by omega)]; exact h8, h9, by omega, h11⟩, ⟨a8.ct.ci, a9.rt.ri h82, by have := a8.2.1; omega, by have := a8.2.1; omega, by have := a8.2.2; omega, by omega, a5, a10, a11, by rw [a9.1.i (by decide) (by omega)]; exact fun q => q⟩, a6, by omega, a7, fun f b f1 f2 hb => a8.1.2.2.1 f (by simp only [List.mem_cons, List.not_mem_nil, or_false]; omega) b hb, fun b hb => a8.1.t hb, fun y j y1 y2 => by rw [(a9.1.2.2.2 y (by simp only [List.mem_cons, List.not_mem_nil, or_false]; omega) (fun z => z) (by omega)).1], a9.1.i (by decide) (by omega)⟩
  · right
    exact ⟨p', r', a1, a2, a3.bi h82 (by omega)⟩
end Bs
