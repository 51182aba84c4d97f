/-! Layer C: what a method leaves as it was; THE LAND -/
/-- from m to m' nothing old has changed but the fields F, the arrays A and those of dy -/
def Ch (F A : List Nat) (dy : Nat → Prop) (m m' : Mem) : Prop :=
  (mC m ≤ mC m' ∧ ∀ a, mC m' ≤ a → mT m' a = mT m a) ∧ (∀ a, a < mC m → mT m' a = mT m a ∧ mN m' a = mN m a) ∧
  (∀ f, f ∉ F → ∀ a, a < mC m → mI m' f a = mI m f a ∧ mL m' f a = mL m f a ∧ mR m' f a = mR m f a) ∧
  (∀ a, a ∉ A → ¬ dy a → a < mC m → aI m' a = aI m a ∧ aL m' a = aL m a ∧ aR m' a = aR m a)
def nil : Nat → Prop := fun _ => False
theorem Ch.rfl {F A : List Nat} {dy : Nat → Prop} {m : Mem} : Ch F A dy m m := ⟨⟨Nat.le_refl _, fun _ _ => by trivial⟩, fun _ _ => ⟨by trivial, by trivial⟩, fun _ _ _ _ => ⟨by trivial, by trivial, by trivial⟩, fun _ _ _ _ => ⟨by trivial, by trivial, by trivial⟩⟩
theorem Ch.trans {F A : List Nat} {dy : Nat → Prop} {m m1 m2 : Mem} (h : Ch F A dy m m1) (k : Ch F A dy m1 m2) : Ch F A dy m m2 := by
  obtain ⟨a1, b1, c1, d1⟩ := h
  obtain ⟨a2, b2, c2, d2⟩ := k
  refine ⟨⟨Nat.le_trans a1.1 a2.1, fun a ha => (a2.2 a ha).trans (a1.2 a (Nat.le_trans a2.1 ha))⟩, fun a ha => ?_, fun f hf a ha => ?_, fun a ha hd hm => ?_⟩
  · exact ⟨(b2 a (Nat.lt_of_lt_of_le ha a1.1)).1.trans (b1 a ha).1, (b2 a (Nat.lt_of_lt_of_le ha a1.1)).2.trans (b1 a ha).2⟩
  · have x := c2 f hf a (Nat.lt_of_lt_of_le ha a1.1)
    have y := c1 f hf a ha
    exact ⟨x.1.trans y.1, x.2.1.trans y.2.1, x.2.2.trans y.2.2⟩
  · have x := d2 a ha hd (Nat.lt_of_lt_of_le hm a1.1)
    have y := d1 a ha hd hm
    exact ⟨x.1.trans y.1, x.2.1.trans y.2.1, x.2.2.trans y.2.2⟩
theorem Ch.mono {F A F' A' : List Nat} {dy dy' : Nat → Prop} {m m1 : Mem} (h : Ch F A dy m m1) (hF : F ⊆ F') (hA : A ⊆ A') (hd : ∀ a, dy a → dy' a) : Ch F' A' dy' m m1 :=
  ⟨h.1, h.2.1, fun f hf => h.2.2.1 f (fun q => hf (hF q)), fun a ha hda => h.2.2.2 a (fun q => ha (hA q)) (fun q => hda (hd a q))⟩
theorem Ch.sI {F A : List Nat} {dy : Nat → Prop} {m m1 : Mem} {f a : Nat} {x : Int32} (h : Ch F A dy m m1) (hf : f ∈ F) : Ch F A dy m (sI m1 f a x) := by
  obtain ⟨a1, b1, c1, d1⟩ := h
  refine ⟨a1, b1, fun g hg b hb => ?_, d1⟩
  have hne : g ≠ f := fun q => hg (q ▸ hf)
  rw [k_mI_sI hne]
  exact c1 g hg b hb
theorem Ch.sL {F A : List Nat} {dy : Nat → Prop} {m m1 : Mem} {f a : Nat} {x : Int64} (h : Ch F A dy m m1) (hf : f ∈ F) : Ch F A dy m (sL m1 f a x) := by
  obtain ⟨a1, b1, c1, d1⟩ := h
  refine ⟨a1, b1, fun g hg b hb => ?_, d1⟩
  have hne : g ≠ f := fun q => hg (q ▸ hf)
  rw [k_mL_sL hne]
  exact c1 g hg b hb
theorem Ch.sR {F A : List Nat} {dy : Nat → Prop} {m m1 : Mem} {f a : Nat} {x : Option Nat} (h : Ch F A dy m m1) (hf : f ∈ F) : Ch F A dy m (sR m1 f a x) := by
  obtain ⟨a1, b1, c1, d1⟩ := h
  refine ⟨a1, b1, fun g hg b hb => ?_, d1⟩
  have hne : g ≠ f := fun q => hg (q ▸ hf)
  rw [k_mR_sR hne]
  exact c1 g hg b hb
theorem Ch.wI {F A : List Nat} {dy : Nat → Prop} {m m1 : Mem} {a j : Nat} {x : Int32} (h : Ch F A dy m m1) (ha : a ∈ A ∨ dy a) : Ch F A dy m (wI m1 a j x) := by
  obtain ⟨a1, b1, c1, d1⟩ := h
  refine ⟨a1, b1, c1, fun b hb hd hm => ?_⟩
  have hne : b ≠ a := by rintro rfl; exact ha.elim hb hd
  rw [k_aI_wI hne]
  exact d1 b hb hd hm
theorem Ch.wL {F A : List Nat} {dy : Nat → Prop} {m m1 : Mem} {a j : Nat} {x : Int64} (h : Ch F A dy m m1) (ha : a ∈ A ∨ dy a) : Ch F A dy m (wL m1 a j x) := by
  obtain ⟨a1, b1, c1, d1⟩ := h
  refine ⟨a1, b1, c1, fun b hb hd hm => ?_⟩
  have hne : b ≠ a := by rintro rfl; exact ha.elim hb hd
  rw [k_aL_wL hne]
  exact d1 b hb hd hm
theorem Ch.wR {F A : List Nat} {dy : Nat → Prop} {m m1 : Mem} {a j : Nat} {x : Option Nat} (h : Ch F A dy m m1) (ha : a ∈ A ∨ dy a) : Ch F A dy m (wR m1 a j x) := by
  obtain ⟨a1, b1, c1, d1⟩ := h
  refine ⟨a1, b1, c1, fun b hb hd hm => ?_⟩
  have hne : b ≠ a := by rintro rfl; exact ha.elim hb hd
  rw [k_aR_wR hne]
  exact d1 b hb hd hm
theorem Ch.nw {F A : List Nat} {dy : Nat → Prop} {m m1 : Mem} {t n z : Nat} (h : Ch F A dy m m1) : Ch F A dy m (nw m1 t n z) := by
  obtain ⟨a1, b1, c1, d1⟩ := h
  have a11 := a1.1
  refine ⟨⟨Nat.le_succ_of_le a1.1, fun a ha => ?_⟩, fun a ha => ?_, fun f hf a ha => by rw [k_mI_nw, k_mL_nw, k_mR_nw, zF_ne (by omega), zF_ne (by omega), zF_ne (by omega)]; exact c1 f hf a ha, fun a hA hd ha => by rw [k_aI_nw, k_aL_nw, k_aR_nw, zA_ne (by omega), zA_ne (by omega), zA_ne (by omega)]; exact d1 a hA hd ha⟩
  · rw [k_mC_nw] at ha
    rw [k_mT_nw, up1_ne (by omega)]
    exact a1.2 a (by omega)
  have hne : a ≠ mC m1 := by omega
  rw [k_mT_nw, k_mN_nw, up1_ne hne, up1_ne hne]
  exact b1 a ha
theorem P_within_e (x a b : Int32) : P_within x a b = some (tI (decide (a ≤ x ∧ x ≤ b))) := by
  unfold P_within tI
  grind
theorem R_in_e (x a b : Int32) : R_in x a b = some (tI (decide (a ≤ x ∧ x ≤ b))) := by
  unfold R_in tI
  grind
theorem gz_tI {β : Type} {p : Bool} {k : Option β} : gz (tI p) k = k := gz_t (by cases p <;> simp [tI])
theorem P_isTask_e (x : Int32) : P_isTask x = some (tI (decide (0 ≤ x ∧ x ≤ 15))) := by
  unfold P_isTask
  rw [P_within_e, bp_s, gz_tI]
/-- THE LAND of both sides -/
def Land (p r : Mem) : Prop := ∃ to fi pe : Nat, to ≤ 5 ∧ fi ≤ 8 ∧ pe ≤ 10 ∧ mI p 384 5 = nj to ∧ mI r 1591 0 = nj to ∧ mI p 385 5 = nj fi ∧ mI r 1592 0 = nj fi ∧ mI p 386 5 = nj pe ∧ mI r 1595 0 = nj pe ∧
  aI p 6 = aI r 37 ∧ aI p 7 = aI r 38 ∧ aI p 8 = aI r 39 ∧ aI p 9 = aI r 40 ∧ aI p 10 = aI r 41 ∧ aI p 11 = aI r 42 ∧ aI p 12 = aI r 43 ∧
  (∀ j, j < fi → ∃ k, k < to ∧ aI r 37 j = nj k) ∧ (∀ j, j < pe → ∃ k, k < fi ∧ aI r 39 j = nj k) ∧ (∀ j, j < pe → ∃ k, k ≤ 40 ∧ aI r 41 j = nj k) ∧ (∀ j, j < 4 → ∃ k, k ≤ 9 ∧ aI r 43 j = nj k) ∧ (∀ j, j < fi → ∃ k, k < 8 ∧ aI r 38 j = nj k) ∧ (∀ j, j < 16 → ∃ k, k < 256 ∧ aI r 42 j = nj k)
def LPF : List Nat := [384, 385, 386]
def LPA : List Nat := [6, 7, 8, 9, 10, 11, 12]
def LRF : List Nat := [1591, 1592, 1595]
def LRA : List Nat := [37, 38, 39, 40, 41, 42, 43]
theorem st_town {p r : Mem} (h : Land p r) : ∃ v p' r', P_town p = some (v, p') ∧ R_town r = some (v, r') ∧ Land p' r' ∧ Ch [384] [] nil p p' ∧ Ch [1591] [] nil r r' ∧ mC p' = mC p ∧ mS p' = mS p := by
  obtain ⟨to, fi, pe, h1, h2, h3, e1, e2, e3, e4, e5, e6, a1, a2, a3, a4, a5, a6, a7, b1, b2, b3, b4, b5⟩ := h
  by_cases q : to = 5
  · refine ⟨-1, p, r, ?_, ?_, ⟨to, fi, pe, h1, h2, h3, e1, e2, e3, e4, e5, e6, a1, a2, a3, a4, a5, a6, a7, b1, b2, b3, b4, b5⟩, Ch.rfl, Ch.rfl, rfl, rfl⟩
    · unfold P_town; subst q; rw [e1]; rfl
    · unfold R_town; subst q; rw [e2]; rfl
  · refine ⟨nj to, sI p 384 5 (nj (to + 1)), sI r 1591 0 (nj (to + 1)), ?_, ?_, ⟨to + 1, fi, pe, by omega, h2, h3, ?_⟩, Ch.rfl.sI (by decide), Ch.rfl.sI (by decide), rfl, rfl⟩
    · unfold P_town
      simp (disch := omega) [e1, k_aI_wI_e, k_aI_wI, k_aI_wL, k_aI_wR, k_aI_sI, k_aI_sL, k_aI_sR, k_aI_nw, k_aL_wL_e, k_aL_wL, k_aL_wI, k_aL_wR, k_aL_sI, k_aL_sL, k_aL_sR, k_aL_nw, k_aR_wR_e, k_aR_wR, k_aR_wI, k_aR_wL, k_aR_sI, k_aR_sL, k_aR_sR, k_aR_nw, k_mI_sI_e, k_mI_sI, k_mI_wI, k_mI_wL, k_mI_wR, k_mI_sL, k_mI_sR, k_mI_nw, k_mL_sL_e, k_mL_sL, k_mL_wI, k_mL_wL, k_mL_wR, k_mL_sI, k_mL_sR, k_mL_nw, k_mR_sR_e, k_mR_sR, k_mR_wI, k_mR_wL, k_mR_wR, k_mR_sI, k_mR_sL, k_mR_nw, k_mT_wI, k_mT_wL, k_mT_wR, k_mT_sI, k_mT_sL, k_mT_sR, k_mT_nw, k_mN_wI, k_mN_wL, k_mN_wR, k_mN_sI, k_mN_sL, k_mN_sR, k_mN_nw, k_mC_wI, k_mC_wL, k_mC_wR, k_mC_sI, k_mC_sL, k_mC_sR, k_mC_nw, k_mS_wI, k_mS_wL, k_mS_wR, k_mS_sI, k_mS_sL, k_mS_sR, k_mS_nw, k_zF_1, k_zF_3, k_zF_11, k_zF_32, k_zF_36, k_zA_1, k_zA_3, k_zA_11, k_zA_32, k_zA_36, k_mT_fil, k_mN_fil, k_mI_fil, k_mL_fil, k_mR_fil, k_aL_fil, k_aR_fil, k_mC_fil, k_mS_fil, k_aI_fil_e, k_aI_fil, up1_ap, vb_e, nj_add_l, nj_sub_l, nj_lt_l]
      omega
    · unfold R_town
      simp (disch := omega) [e2, k_aI_wI_e, k_aI_wI, k_aI_wL, k_aI_wR, k_aI_sI, k_aI_sL, k_aI_sR, k_aI_nw, k_aL_wL_e, k_aL_wL, k_aL_wI, k_aL_wR, k_aL_sI, k_aL_sL, k_aL_sR, k_aL_nw, k_aR_wR_e, k_aR_wR, k_aR_wI, k_aR_wL, k_aR_sI, k_aR_sL, k_aR_sR, k_aR_nw, k_mI_sI_e, k_mI_sI, k_mI_wI, k_mI_wL, k_mI_wR, k_mI_sL, k_mI_sR, k_mI_nw, k_mL_sL_e, k_mL_sL, k_mL_wI, k_mL_wL, k_mL_wR, k_mL_sI, k_mL_sR, k_mL_nw, k_mR_sR_e, k_mR_sR, k_mR_wI, k_mR_wL, k_mR_wR, k_mR_sI, k_mR_sL, k_mR_nw, k_mT_wI, k_mT_wL, k_mT_wR, k_mT_sI, k_mT_sL, k_mT_sR, k_mT_nw, k_mN_wI, k_mN_wL, k_mN_wR, k_mN_sI, k_mN_sL, k_mN_sR, k_mN_nw, k_mC_wI, k_mC_wL, k_mC_wR, k_mC_sI, k_mC_sL, k_mC_sR, k_mC_nw, k_mS_wI, k_mS_wL, k_mS_wR, k_mS_sI, k_mS_sL, k_mS_sR, k_mS_nw, k_zF_1, k_zF_3, k_zF_11, k_zF_32, k_zF_36, k_zA_1, k_zA_3, k_zA_11, k_zA_32, k_zA_36, k_mT_fil, k_mN_fil, k_mI_fil, k_mL_fil, k_mR_fil, k_aL_fil, k_aR_fil, k_mC_fil, k_mS_fil, k_aI_fil_e, k_aI_fil, up1_ap, vb_e, nj_add_l, nj_sub_l, nj_eq_l, q]
    · simp [k_aI_wI_e, k_aI_wI, k_aI_wL, k_aI_wR, k_aI_sI, k_aI_sL, k_aI_sR, k_aI_nw, k_aL_wL_e, k_aL_wL, k_aL_wI, k_aL_wR, k_aL_sI, k_aL_sL, k_aL_sR, k_aL_nw, k_aR_wR_e, k_aR_wR, k_aR_wI, k_aR_wL, k_aR_sI, k_aR_sL, k_aR_sR, k_aR_nw, k_mI_sI_e, k_mI_sI, k_mI_wI, k_mI_wL, k_mI_wR, k_mI_sL, k_mI_sR, k_mI_nw, k_mL_sL_e, k_mL_sL, k_mL_wI, k_mL_wL, k_mL_wR, k_mL_sI, k_mL_sR, k_mL_nw, k_mR_sR_e, k_mR_sR, k_mR_wI, k_mR_wL, k_mR_wR, k_mR_sI, k_mR_sL, k_mR_nw, k_mT_wI, k_mT_wL, k_mT_wR, k_mT_sI, k_mT_sL, k_mT_sR, k_mT_nw, k_mN_wI, k_mN_wL, k_mN_wR, k_mN_sI, k_mN_sL, k_mN_sR, k_mN_nw, k_mC_wI, k_mC_wL, k_mC_wR, k_mC_sI, k_mC_sL, k_mC_sR, k_mC_nw, k_mS_wI, k_mS_wL, k_mS_wR, k_mS_sI, k_mS_sL, k_mS_sR, k_mS_nw, k_zF_1, k_zF_3, k_zF_11, k_zF_32, k_zF_36, k_zA_1, k_zA_3, k_zA_11, k_zA_32, k_zA_36, k_mT_fil, k_mN_fil, k_mI_fil, k_mL_fil, k_mR_fil, k_aL_fil, k_aR_fil, k_mC_fil, k_mS_fil, k_aI_fil_e, k_aI_fil, up1_ap, e3, e4, e5, e6, a1, a2, a3, a4, a5, a6, a7]
      exact ⟨fun j hj => (b1 j hj).imp fun k hk => ⟨by omega, hk.2⟩, b2, b3, b4, b5⟩
theorem nj_0le {k : Nat} (h : k < 2147483648) : 0 ≤ nj k := Int32.zero_le_ofNat_of_lt h
theorem nj_ub {k b : Nat} (hb : b < 2147483648) (h : k ≤ b) : nj k ≤ nj b := by rw [nj_le (by omega) hb]; exact h
theorem has_e {x n : Int32} (h0 : 0 ≤ n) (h1 : n ≤ 1000) : (0 ≤ x ∧ x ≤ n - 1) = (0 ≤ x ∧ x < n) := by grind
theorem P_hasTown_e {p r : Mem} (h : Land p r) (x : Int32) : P_Land_hasTown x p = some (tI (decide (0 ≤ x ∧ x < mI r 1591 0)), p) := by
  obtain ⟨to, fi, pe, h1, h2, h3, e1, e2, -⟩ := h
  unfold P_Land_hasTown
  rw [P_within_e, bp_s, gz_tI, e1, e2]
  simp only [has_e (nj_0le (k := to) (by omega)) (nj_ub (k := to) (b := 1000) (by omega) (by omega))]
theorem P_hasFirm_e {p r : Mem} (h : Land p r) (x : Int32) : P_Land_hasFirm x p = some (tI (decide (0 ≤ x ∧ x < mI r 1592 0)), p) := by
  obtain ⟨to, fi, pe, h1, h2, h3, e1, e2, e3, e4, -⟩ := h
  unfold P_Land_hasFirm
  rw [P_within_e, bp_s, gz_tI, e3, e4]
  simp only [has_e (nj_0le (k := fi) (by omega)) (nj_ub (k := fi) (b := 1000) (by omega) (by omega))]
theorem P_hasPerson_e {p r : Mem} (h : Land p r) (x : Int32) : P_Land_hasPerson x p = some (tI (decide (0 ≤ x ∧ x < mI r 1595 0)), p) := by
  obtain ⟨to, fi, pe, h1, h2, h3, e1, e2, e3, e4, e5, e6, -⟩ := h
  unfold P_Land_hasPerson
  rw [P_within_e, bp_s, gz_tI, e5, e6]
  simp only [has_e (nj_0le (k := pe) (by omega)) (nj_ub (k := pe) (b := 1000) (by omega) (by omega))]
theorem R_isTown_e (x : Int32) (r : Mem) : R_isTown x r = some (tI (decide (0 ≤ x ∧ x < mI r 1591 0)), r) := by
  unfold R_isTown tI
  grind
theorem R_isFirm_e (x : Int32) (r : Mem) : R_isFirm x r = some (tI (decide (0 ≤ x ∧ x < mI r 1592 0)), r) := by
  unfold R_isFirm tI
  grind
theorem R_isPerson_e (x : Int32) (r : Mem) : R_isPerson x r = some (tI (decide (0 ≤ x ∧ x < mI r 1595 0)), r) := by
  unfold R_isPerson tI
  grind
theorem R_changed_e (r : Mem) : R_changed r = some ((), sI (sI r 1612 0 (-1)) 1627 0 (-1)) := rfl
theorem st_firm {p r : Mem} (h : Land p r) (x y : Int32) : ∃ v p' r', P_firm x y p = some (v, p') ∧ R_firm x y r = some (v, r') ∧ Land p' r' ∧ Ch [385] [6, 7] nil p p' ∧ Ch [1592, 1612, 1627] [37, 38] nil r r' ∧ mC p' = mC p ∧ mS p' = mS p ∧ (r' = r ∨ (mI r' 1612 0 = -1 ∧ mI r' 1627 0 = -1)) := by
  have hP := P_hasTown_e h x
  obtain ⟨to, fi, pe, h1, h2, h3, e1, e2, e3, e4, e5, e6, a1, a2, a3, a4, a5, a6, a7, b1, b2, b3, b4, b5⟩ := h
  by_cases q : (0 ≤ x ∧ x < nj to) ∧ (0 ≤ y ∧ y ≤ 7) ∧ fi < 8
  · obtain ⟨q1, q2, q3⟩ := q
    refine ⟨nj fi, sI (wI (wI p 6 fi x) 7 fi y) 385 5 (nj (fi + 1)), sI (sI (sI (wI (wI r 37 fi x) 38 fi y) 1592 0 (nj (fi + 1))) 1612 0 (-1)) 1627 0 (-1), ?_, ?_, ⟨to, fi + 1, pe, h1, by omega, h3, ?_⟩, ((Ch.rfl.wI (Or.inl (by decide))).wI (Or.inl (by decide))).sI (by decide), ((((Ch.rfl.wI (Or.inl (by decide))).wI (Or.inl (by decide))).sI (by decide)).sI (by decide)).sI (by decide), rfl, rfl, Or.inr ⟨?_, ?_⟩⟩
    · unfold P_firm
      rw [hP]
      simp (disch := omega) [P_within_e, e2, e3, q1, q2, q3, bn_s, bp_s, tI, P_Land_addFirm, k_aI_wI_e, k_aI_wI, k_aI_wL, k_aI_wR, k_aI_sI, k_aI_sL, k_aI_sR, k_aI_nw, k_aL_wL_e, k_aL_wL, k_aL_wI, k_aL_wR, k_aL_sI, k_aL_sL, k_aL_sR, k_aL_nw, k_aR_wR_e, k_aR_wR, k_aR_wI, k_aR_wL, k_aR_sI, k_aR_sL, k_aR_sR, k_aR_nw, k_mI_sI_e, k_mI_sI, k_mI_wI, k_mI_wL, k_mI_wR, k_mI_sL, k_mI_sR, k_mI_nw, k_mL_sL_e, k_mL_sL, k_mL_wI, k_mL_wL, k_mL_wR, k_mL_sI, k_mL_sR, k_mL_nw, k_mR_sR_e, k_mR_sR, k_mR_wI, k_mR_wL, k_mR_wR, k_mR_sI, k_mR_sL, k_mR_nw, k_mT_wI, k_mT_wL, k_mT_wR, k_mT_sI, k_mT_sL, k_mT_sR, k_mT_nw, k_mN_wI, k_mN_wL, k_mN_wR, k_mN_sI, k_mN_sL, k_mN_sR, k_mN_nw, k_mC_wI, k_mC_wL, k_mC_wR, k_mC_sI, k_mC_sL, k_mC_sR, k_mC_nw, k_mS_wI, k_mS_wL, k_mS_wR, k_mS_sI, k_mS_sL, k_mS_sR, k_mS_nw, k_zF_1, k_zF_3, k_zF_11, k_zF_32, k_zF_36, k_zA_1, k_zA_3, k_zA_11, k_zA_32, k_zA_36, k_mT_fil, k_mN_fil, k_mI_fil, k_mL_fil, k_mR_fil, k_aL_fil, k_aR_fil, k_mC_fil, k_mS_fil, k_aI_fil_e, k_aI_fil, up1_ap, vb_e, nj_add_l, nj_sub_l, nj_lt_l, inb_nj, gd_tt, ix_nj]
    · unfold R_firm
      simp (disch := omega) [R_isTown_e, R_in_e, R_changed_e, e2, e4, q1, q2, q3, bn_s, bp_s, tI, k_aI_wI_e, k_aI_wI, k_aI_wL, k_aI_wR, k_aI_sI, k_aI_sL, k_aI_sR, k_aI_nw, k_aL_wL_e, k_aL_wL, k_aL_wI, k_aL_wR, k_aL_sI, k_aL_sL, k_aL_sR, k_aL_nw, k_aR_wR_e, k_aR_wR, k_aR_wI, k_aR_wL, k_aR_sI, k_aR_sL, k_aR_sR, k_aR_nw, k_mI_sI_e, k_mI_sI, k_mI_wI, k_mI_wL, k_mI_wR, k_mI_sL, k_mI_sR, k_mI_nw, k_mL_sL_e, k_mL_sL, k_mL_wI, k_mL_wL, k_mL_wR, k_mL_sI, k_mL_sR, k_mL_nw, k_mR_sR_e, k_mR_sR, k_mR_wI, k_mR_wL, k_mR_wR, k_mR_sI, k_mR_sL, k_mR_nw, k_mT_wI, k_mT_wL, k_mT_wR, k_mT_sI, k_mT_sL, k_mT_sR, k_mT_nw, k_mN_wI, k_mN_wL, k_mN_wR, k_mN_sI, k_mN_sL, k_mN_sR, k_mN_nw, k_mC_wI, k_mC_wL, k_mC_wR, k_mC_sI, k_mC_sL, k_mC_sR, k_mC_nw, k_mS_wI, k_mS_wL, k_mS_wR, k_mS_sI, k_mS_sL, k_mS_sR, k_mS_nw, k_zF_1, k_zF_3, k_zF_11, k_zF_32, k_zF_36, k_zA_1, k_zA_3, k_zA_11, k_zA_32, k_zA_36, k_mT_fil, k_mN_fil, k_mI_fil, k_mL_fil, k_mR_fil, k_aL_fil, k_aR_fil, k_mC_fil, k_mS_fil, k_aI_fil_e, k_aI_fil, up1_ap, vb_e, nj_add_l, nj_sub_l, nj_lt_l, nj_eq_l, inb_nj, gd_tt, ix_nj]
      omega
    · simp [k_aI_wI_e, k_aI_wI, k_aI_wL, k_aI_wR, k_aI_sI, k_aI_sL, k_aI_sR, k_aI_nw, k_aL_wL_e, k_aL_wL, k_aL_wI, k_aL_wR, k_aL_sI, k_aL_sL, k_aL_sR, k_aL_nw, k_aR_wR_e, k_aR_wR, k_aR_wI, k_aR_wL, k_aR_sI, k_aR_sL, k_aR_sR, k_aR_nw, k_mI_sI_e, k_mI_sI, k_mI_wI, k_mI_wL, k_mI_wR, k_mI_sL, k_mI_sR, k_mI_nw, k_mL_sL_e, k_mL_sL, k_mL_wI, k_mL_wL, k_mL_wR, k_mL_sI, k_mL_sR, k_mL_nw, k_mR_sR_e, k_mR_sR, k_mR_wI, k_mR_wL, k_mR_wR, k_mR_sI, k_mR_sL, k_mR_nw, k_mT_wI, k_mT_wL, k_mT_wR, k_mT_sI, k_mT_sL, k_mT_sR, k_mT_nw, k_mN_wI, k_mN_wL, k_mN_wR, k_mN_sI, k_mN_sL, k_mN_sR, k_mN_nw, k_mC_wI, k_mC_wL, k_mC_wR, k_mC_sI, k_mC_sL, k_mC_sR, k_mC_nw, k_mS_wI, k_mS_wL, k_mS_wR, k_mS_sI, k_mS_sL, k_mS_sR, k_mS_nw, k_zF_1, k_zF_3, k_zF_11, k_zF_32, k_zF_36, k_zA_1, k_zA_3, k_zA_11, k_zA_32, k_zA_36, k_mT_fil, k_mN_fil, k_mI_fil, k_mL_fil, k_mR_fil, k_aL_fil, k_aR_fil, k_mC_fil, k_mS_fil, k_aI_fil_e, k_aI_fil, up1_ap, e1, e2, e5, e6, a1, a2, a3, a4, a5, a6, a7]
      refine ⟨fun j hj => ?_, fun j hj => (b2 j hj).imp fun k hk => ⟨by omega, hk.2⟩, b3, b4, fun j hj => ?_, b5.2⟩
      · by_cases z : j = fi
        · obtain ⟨k, hk, rfl⟩ := nj_of q1.1
          have := q1.2
          rw [nj_lt (by omega) (by omega)] at this
          exact ⟨k, this, by rw [if_pos z]⟩
        · rw [if_neg z]; exact b1 j (by omega)
      · by_cases z : j = fi
        · obtain ⟨k, hk, rfl⟩ := nj_of q2.1
          have := q2.2
          rw [nj_le_l (by omega) (by omega)] at this
          exact ⟨k, by omega, by rw [if_pos z]⟩
        · rw [if_neg z]; exact b5.1 j (by omega)
    · simp [k_aI_wI_e, k_aI_wI, k_aI_wL, k_aI_wR, k_aI_sI, k_aI_sL, k_aI_sR, k_aI_nw, k_aL_wL_e, k_aL_wL, k_aL_wI, k_aL_wR, k_aL_sI, k_aL_sL, k_aL_sR, k_aL_nw, k_aR_wR_e, k_aR_wR, k_aR_wI, k_aR_wL, k_aR_sI, k_aR_sL, k_aR_sR, k_aR_nw, k_mI_sI_e, k_mI_sI, k_mI_wI, k_mI_wL, k_mI_wR, k_mI_sL, k_mI_sR, k_mI_nw, k_mL_sL_e, k_mL_sL, k_mL_wI, k_mL_wL, k_mL_wR, k_mL_sI, k_mL_sR, k_mL_nw, k_mR_sR_e, k_mR_sR, k_mR_wI, k_mR_wL, k_mR_wR, k_mR_sI, k_mR_sL, k_mR_nw, k_mT_wI, k_mT_wL, k_mT_wR, k_mT_sI, k_mT_sL, k_mT_sR, k_mT_nw, k_mN_wI, k_mN_wL, k_mN_wR, k_mN_sI, k_mN_sL, k_mN_sR, k_mN_nw, k_mC_wI, k_mC_wL, k_mC_wR, k_mC_sI, k_mC_sL, k_mC_sR, k_mC_nw, k_mS_wI, k_mS_wL, k_mS_wR, k_mS_sI, k_mS_sL, k_mS_sR, k_mS_nw, k_zF_1, k_zF_3, k_zF_11, k_zF_32, k_zF_36, k_zA_1, k_zA_3, k_zA_11, k_zA_32, k_zA_36, k_mT_fil, k_mN_fil, k_mI_fil, k_mL_fil, k_mR_fil, k_aL_fil, k_aR_fil, k_mC_fil, k_mS_fil, k_aI_fil_e, k_aI_fil, up1_ap]
    · simp [k_aI_wI_e, k_aI_wI, k_aI_wL, k_aI_wR, k_aI_sI, k_aI_sL, k_aI_sR, k_aI_nw, k_aL_wL_e, k_aL_wL, k_aL_wI, k_aL_wR, k_aL_sI, k_aL_sL, k_aL_sR, k_aL_nw, k_aR_wR_e, k_aR_wR, k_aR_wI, k_aR_wL, k_aR_sI, k_aR_sL, k_aR_sR, k_aR_nw, k_mI_sI_e, k_mI_sI, k_mI_wI, k_mI_wL, k_mI_wR, k_mI_sL, k_mI_sR, k_mI_nw, k_mL_sL_e, k_mL_sL, k_mL_wI, k_mL_wL, k_mL_wR, k_mL_sI, k_mL_sR, k_mL_nw, k_mR_sR_e, k_mR_sR, k_mR_wI, k_mR_wL, k_mR_wR, k_mR_sI, k_mR_sL, k_mR_nw, k_mT_wI, k_mT_wL, k_mT_wR, k_mT_sI, k_mT_sL, k_mT_sR, k_mT_nw, k_mN_wI, k_mN_wL, k_mN_wR, k_mN_sI, k_mN_sL, k_mN_sR, k_mN_nw, k_mC_wI, k_mC_wL, k_mC_wR, k_mC_sI, k_mC_sL, k_mC_sR, k_mC_nw, k_mS_wI, k_mS_wL, k_mS_wR, k_mS_sI, k_mS_sL, k_mS_sR, k_mS_nw, k_zF_1, k_zF_3, k_zF_11, k_zF_32, k_zF_36, k_zA_1, k_zA_3, k_zA_11, k_zA_32, k_zA_36, k_mT_fil, k_mN_fil, k_mI_fil, k_mL_fil, k_mR_fil, k_aL_fil, k_aR_fil, k_mC_fil, k_mS_fil, k_aI_fil_e, k_aI_fil, up1_ap]
  · refine ⟨-1, p, r, ?_, ?_, ⟨to, fi, pe, h1, h2, h3, e1, e2, e3, e4, e5, e6, a1, a2, a3, a4, a5, a6, a7, b1, b2, b3, b4, b5⟩, Ch.rfl, Ch.rfl, rfl, rfl, Or.inl rfl⟩
    · unfold P_firm
      rw [hP]
      by_cases c1 : 0 ≤ x ∧ x < nj to <;> by_cases c2 : 0 ≤ y ∧ y ≤ 7 <;> by_cases c3 : fi < 8 <;> simp (disch := omega) [P_within_e, e2, e3, bn_s, bp_s, tI, P_Land_addFirm, nj_lt_l, c1, c2, c3]
      exact (q ⟨c1, c2, c3⟩).elim
    · unfold R_firm
      by_cases c3 : fi = 8
      · simp (disch := omega) [e4, nj_eq_l, c3]
      · by_cases c1 : 0 ≤ x ∧ x < nj to <;> by_cases c2 : 0 ≤ y ∧ y ≤ 7 <;> simp (disch := omega) [R_isTown_e, R_in_e, e2, e4, bn_s, bp_s, tI, nj_eq_l, c1, c2, c3]
        exact (q ⟨c1, c2, by omega⟩).elim
theorem st_person {p r : Mem} (h : Land p r) (x y z : Int32) : ∃ v p' r', P_person x y z p = some (v, p') ∧ R_person x y z r = some (v, r') ∧ Land p' r' ∧ Ch [386] [8, 9, 10] nil p p' ∧ Ch [1595] [39, 40, 41] nil r r' ∧ mC p' = mC p ∧ mS p' = mS p ∧ (∀ j, nj j < mI r 1595 0 → j < 10 → aI r' 39 j = aI r 39 j ∧ aI r' 40 j = aI r 40 j ∧ aI r' 41 j = aI r 41 j) ∧ mI r 1595 0 ≤ mI r' 1595 0 := by
  have hP := P_hasFirm_e h x
  obtain ⟨to, fi, pe, h1, h2, h3, e1, e2, e3, e4, e5, e6, a1, a2, a3, a4, a5, a6, a7, b1, b2, b3, b4, b5⟩ := h
  by_cases q : (0 ≤ x ∧ x < nj fi) ∧ (0 ≤ y ∧ y ≤ 255) ∧ (0 ≤ z ∧ z ≤ 40) ∧ pe < 10
  · obtain ⟨q1, q2, q3, q4⟩ := q
    refine ⟨nj pe, sI (wI (wI (wI p 8 pe x) 9 pe y) 10 pe z) 386 5 (nj (pe + 1)), sI (wI (wI (wI r 39 pe x) 40 pe y) 41 pe z) 1595 0 (nj (pe + 1)), ?_, ?_, ⟨to, fi, pe + 1, h1, h2, by omega, ?_⟩, (((Ch.rfl.wI (Or.inl (by decide))).wI (Or.inl (by decide))).wI (Or.inl (by decide))).sI (by decide), (((Ch.rfl.wI (Or.inl (by decide))).wI (Or.inl (by decide))).wI (Or.inl (by decide))).sI (by decide), rfl, rfl, ?_, ?_⟩
    · unfold P_person
      rw [hP]
      simp (disch := omega) [P_within_e, e4, e5, q1, q2, q3, q4, bn_s, bp_s, tI, P_Land_addPerson, k_aI_wI_e, k_aI_wI, k_aI_wL, k_aI_wR, k_aI_sI, k_aI_sL, k_aI_sR, k_aI_nw, k_aL_wL_e, k_aL_wL, k_aL_wI, k_aL_wR, k_aL_sI, k_aL_sL, k_aL_sR, k_aL_nw, k_aR_wR_e, k_aR_wR, k_aR_wI, k_aR_wL, k_aR_sI, k_aR_sL, k_aR_sR, k_aR_nw, k_mI_sI_e, k_mI_sI, k_mI_wI, k_mI_wL, k_mI_wR, k_mI_sL, k_mI_sR, k_mI_nw, k_mL_sL_e, k_mL_sL, k_mL_wI, k_mL_wL, k_mL_wR, k_mL_sI, k_mL_sR, k_mL_nw, k_mR_sR_e, k_mR_sR, k_mR_wI, k_mR_wL, k_mR_wR, k_mR_sI, k_mR_sL, k_mR_nw, k_mT_wI, k_mT_wL, k_mT_wR, k_mT_sI, k_mT_sL, k_mT_sR, k_mT_nw, k_mN_wI, k_mN_wL, k_mN_wR, k_mN_sI, k_mN_sL, k_mN_sR, k_mN_nw, k_mC_wI, k_mC_wL, k_mC_wR, k_mC_sI, k_mC_sL, k_mC_sR, k_mC_nw, k_mS_wI, k_mS_wL, k_mS_wR, k_mS_sI, k_mS_sL, k_mS_sR, k_mS_nw, k_zF_1, k_zF_3, k_zF_11, k_zF_32, k_zF_36, k_zA_1, k_zA_3, k_zA_11, k_zA_32, k_zA_36, k_mT_fil, k_mN_fil, k_mI_fil, k_mL_fil, k_mR_fil, k_aL_fil, k_aR_fil, k_mC_fil, k_mS_fil, k_aI_fil_e, k_aI_fil, up1_ap, vb_e, nj_add_l, nj_sub_l, nj_lt_l, inb_nj, gd_tt, ix_nj]
    · unfold R_person
      simp (disch := omega) [R_isFirm_e, R_in_e, e4, e6, q1, q2, q3, q4, bn_s, bp_s, tI, k_aI_wI_e, k_aI_wI, k_aI_wL, k_aI_wR, k_aI_sI, k_aI_sL, k_aI_sR, k_aI_nw, k_aL_wL_e, k_aL_wL, k_aL_wI, k_aL_wR, k_aL_sI, k_aL_sL, k_aL_sR, k_aL_nw, k_aR_wR_e, k_aR_wR, k_aR_wI, k_aR_wL, k_aR_sI, k_aR_sL, k_aR_sR, k_aR_nw, k_mI_sI_e, k_mI_sI, k_mI_wI, k_mI_wL, k_mI_wR, k_mI_sL, k_mI_sR, k_mI_nw, k_mL_sL_e, k_mL_sL, k_mL_wI, k_mL_wL, k_mL_wR, k_mL_sI, k_mL_sR, k_mL_nw, k_mR_sR_e, k_mR_sR, k_mR_wI, k_mR_wL, k_mR_wR, k_mR_sI, k_mR_sL, k_mR_nw, k_mT_wI, k_mT_wL, k_mT_wR, k_mT_sI, k_mT_sL, k_mT_sR, k_mT_nw, k_mN_wI, k_mN_wL, k_mN_wR, k_mN_sI, k_mN_sL, k_mN_sR, k_mN_nw, k_mC_wI, k_mC_wL, k_mC_wR, k_mC_sI, k_mC_sL, k_mC_sR, k_mC_nw, k_mS_wI, k_mS_wL, k_mS_wR, k_mS_sI, k_mS_sL, k_mS_sR, k_mS_nw, k_zF_1, k_zF_3, k_zF_11, k_zF_32, k_zF_36, k_zA_1, k_zA_3, k_zA_11, k_zA_32, k_zA_36, k_mT_fil, k_mN_fil, k_mI_fil, k_mL_fil, k_mR_fil, k_aL_fil, k_aR_fil, k_mC_fil, k_mS_fil, k_aI_fil_e, k_aI_fil, up1_ap, vb_e, nj_add_l, nj_sub_l, nj_lt_l, nj_eq_l, inb_nj, gd_tt, ix_nj]
      omega
    · simp [k_aI_wI_e, k_aI_wI, k_aI_wL, k_aI_wR, k_aI_sI, k_aI_sL, k_aI_sR, k_aI_nw, k_aL_wL_e, k_aL_wL, k_aL_wI, k_aL_wR, k_aL_sI, k_aL_sL, k_aL_sR, k_aL_nw, k_aR_wR_e, k_aR_wR, k_aR_wI, k_aR_wL, k_aR_sI, k_aR_sL, k_aR_sR, k_aR_nw, k_mI_sI_e, k_mI_sI, k_mI_wI, k_mI_wL, k_mI_wR, k_mI_sL, k_mI_sR, k_mI_nw, k_mL_sL_e, k_mL_sL, k_mL_wI, k_mL_wL, k_mL_wR, k_mL_sI, k_mL_sR, k_mL_nw, k_mR_sR_e, k_mR_sR, k_mR_wI, k_mR_wL, k_mR_wR, k_mR_sI, k_mR_sL, k_mR_nw, k_mT_wI, k_mT_wL, k_mT_wR, k_mT_sI, k_mT_sL, k_mT_sR, k_mT_nw, k_mN_wI, k_mN_wL, k_mN_wR, k_mN_sI, k_mN_sL, k_mN_sR, k_mN_nw, k_mC_wI, k_mC_wL, k_mC_wR, k_mC_sI, k_mC_sL, k_mC_sR, k_mC_nw, k_mS_wI, k_mS_wL, k_mS_wR, k_mS_sI, k_mS_sL, k_mS_sR, k_mS_nw, k_zF_1, k_zF_3, k_zF_11, k_zF_32, k_zF_36, k_zA_1, k_zA_3, k_zA_11, k_zA_32, k_zA_36, k_mT_fil, k_mN_fil, k_mI_fil, k_mL_fil, k_mR_fil, k_aL_fil, k_aR_fil, k_mC_fil, k_mS_fil, k_aI_fil_e, k_aI_fil, up1_ap, e1, e2, e3, e4, a1, a2, a3, a4, a5, a6, a7]
      refine ⟨b1, fun j hj => ?_, fun j hj => ?_, b4, b5⟩
      · by_cases w : j = pe
        · obtain ⟨k, hk, rfl⟩ := nj_of q1.1
          have := q1.2
          rw [nj_lt (by omega) (by omega)] at this
          exact ⟨k, this, by rw [if_pos w]⟩
        · rw [if_neg w]; exact b2 j (by omega)
      · by_cases w : j = pe
        · obtain ⟨k, hk, rfl⟩ := nj_of q3.1
          have := q3.2
          rw [nj_le_l (by omega) (by omega)] at this
          exact ⟨k, by omega, by rw [if_pos w]⟩
        · rw [if_neg w]; exact b3 j (by omega)
    · intro j hj h10
      rw [e6, nj_lt (by omega) (by omega)] at hj
      have : j ≠ pe := by omega
      simp [k_aI_wI_e, k_aI_wI, k_aI_wL, k_aI_wR, k_aI_sI, k_aI_sL, k_aI_sR, k_aI_nw, k_aL_wL_e, k_aL_wL, k_aL_wI, k_aL_wR, k_aL_sI, k_aL_sL, k_aL_sR, k_aL_nw, k_aR_wR_e, k_aR_wR, k_aR_wI, k_aR_wL, k_aR_sI, k_aR_sL, k_aR_sR, k_aR_nw, k_mI_sI_e, k_mI_sI, k_mI_wI, k_mI_wL, k_mI_wR, k_mI_sL, k_mI_sR, k_mI_nw, k_mL_sL_e, k_mL_sL, k_mL_wI, k_mL_wL, k_mL_wR, k_mL_sI, k_mL_sR, k_mL_nw, k_mR_sR_e, k_mR_sR, k_mR_wI, k_mR_wL, k_mR_wR, k_mR_sI, k_mR_sL, k_mR_nw, k_mT_wI, k_mT_wL, k_mT_wR, k_mT_sI, k_mT_sL, k_mT_sR, k_mT_nw, k_mN_wI, k_mN_wL, k_mN_wR, k_mN_sI, k_mN_sL, k_mN_sR, k_mN_nw, k_mC_wI, k_mC_wL, k_mC_wR, k_mC_sI, k_mC_sL, k_mC_sR, k_mC_nw, k_mS_wI, k_mS_wL, k_mS_wR, k_mS_sI, k_mS_sL, k_mS_sR, k_mS_nw, k_zF_1, k_zF_3, k_zF_11, k_zF_32, k_zF_36, k_zA_1, k_zA_3, k_zA_11, k_zA_32, k_zA_36, k_mT_fil, k_mN_fil, k_mI_fil, k_mL_fil, k_mR_fil, k_aL_fil, k_aR_fil, k_mC_fil, k_mS_fil, k_aI_fil_e, k_aI_fil, up1_ap, this]
    · simp (disch := omega) [k_aI_wI_e, k_aI_wI, k_aI_wL, k_aI_wR, k_aI_sI, k_aI_sL, k_aI_sR, k_aI_nw, k_aL_wL_e, k_aL_wL, k_aL_wI, k_aL_wR, k_aL_sI, k_aL_sL, k_aL_sR, k_aL_nw, k_aR_wR_e, k_aR_wR, k_aR_wI, k_aR_wL, k_aR_sI, k_aR_sL, k_aR_sR, k_aR_nw, k_mI_sI_e, k_mI_sI, k_mI_wI, k_mI_wL, k_mI_wR, k_mI_sL, k_mI_sR, k_mI_nw, k_mL_sL_e, k_mL_sL, k_mL_wI, k_mL_wL, k_mL_wR, k_mL_sI, k_mL_sR, k_mL_nw, k_mR_sR_e, k_mR_sR, k_mR_wI, k_mR_wL, k_mR_wR, k_mR_sI, k_mR_sL, k_mR_nw, k_mT_wI, k_mT_wL, k_mT_wR, k_mT_sI, k_mT_sL, k_mT_sR, k_mT_nw, k_mN_wI, k_mN_wL, k_mN_wR, k_mN_sI, k_mN_sL, k_mN_sR, k_mN_nw, k_mC_wI, k_mC_wL, k_mC_wR, k_mC_sI, k_mC_sL, k_mC_sR, k_mC_nw, k_mS_wI, k_mS_wL, k_mS_wR, k_mS_sI, k_mS_sL, k_mS_sR, k_mS_nw, k_zF_1, k_zF_3, k_zF_11, k_zF_32, k_zF_36, k_zA_1, k_zA_3, k_zA_11, k_zA_32, k_zA_36, k_mT_fil, k_mN_fil, k_mI_fil, k_mL_fil, k_mR_fil, k_aL_fil, k_aR_fil, k_mC_fil, k_mS_fil, k_aI_fil_e, k_aI_fil, up1_ap, e6, nj_le]
  · refine ⟨-1, p, r, ?_, ?_, ⟨to, fi, pe, h1, h2, h3, e1, e2, e3, e4, e5, e6, a1, a2, a3, a4, a5, a6, a7, b1, b2, b3, b4, b5⟩, Ch.rfl, Ch.rfl, rfl, rfl, fun _ _ _ => ⟨rfl, rfl, rfl⟩, Int32.le_refl _⟩
    · unfold P_person
      rw [hP]
      by_cases c1 : 0 ≤ x ∧ x < nj fi <;> by_cases c2 : 0 ≤ y ∧ y ≤ 255 <;> by_cases c3 : 0 ≤ z ∧ z ≤ 40 <;> by_cases c4 : pe < 10 <;> simp (disch := omega) [P_within_e, e4, e5, bn_s, bp_s, tI, P_Land_addPerson, nj_lt_l, c1, c2, c3, c4]
      exact (q ⟨c1, c2, c3, c4⟩).elim
    · unfold R_person
      by_cases c4 : pe = 10
      · simp (disch := omega) [e6, nj_eq_l, c4]
      · by_cases c1 : 0 ≤ x ∧ x < nj fi <;> by_cases c2 : 0 ≤ y ∧ y ≤ 255 <;> by_cases c3 : 0 ≤ z ∧ z ≤ 40 <;> simp (disch := omega) [R_isFirm_e, R_in_e, e4, e6, bn_s, bp_s, tI, nj_eq_l, c1, c2, c3, c4]
        exact (q ⟨c1, c2, c3, by omega⟩).elim
theorem st_marks {p r : Mem} (h : Land p r) (x y : Int32) : ∃ v p' r', P_marks x y p = some (v, p') ∧ R_marks x y r = some (v, r') ∧ Land p' r' ∧ Ch [] [11] nil p p' ∧ Ch [] [42] nil r r' ∧ mC p' = mC p ∧ mS p' = mS p := by
  obtain ⟨to, fi, pe, h1, h2, h3, e1, e2, e3, e4, e5, e6, a1, a2, a3, a4, a5, a6, a7, b1, b2, b3, b4, b5⟩ := h
  by_cases q : (0 ≤ x ∧ x ≤ 15) ∧ (0 ≤ y ∧ y ≤ 255)
  · obtain ⟨q1, q2⟩ := q
    obtain ⟨k, hk, rfl⟩ := nj_of q1.1
    have q3 := q1.2
    rw [nj_le_l (by omega) (by omega)] at q3
    have q4 : k < 16 := by omega
    refine ⟨1, wI p 11 k y, wI r 42 k y, ?_, ?_, ⟨to, fi, pe, h1, h2, h3, ?_⟩, Ch.rfl.wI (Or.inl (by decide)), Ch.rfl.wI (Or.inl (by decide)), rfl, rfl⟩
    · unfold P_marks
      simp (disch := omega) [P_isTask_e, P_within_e, q1, q2, bp_s, tI, vb_e, inb_nj, gd_tt, ix_nj, q4]
    · unfold R_marks
      simp (disch := omega) [R_in_e, q1, q2, bp_s, tI, vb_e, inb_nj, gd_tt, ix_nj, q4]
    · simp [k_aI_wI_e, k_aI_wI, k_aI_wL, k_aI_wR, k_aI_sI, k_aI_sL, k_aI_sR, k_aI_nw, k_aL_wL_e, k_aL_wL, k_aL_wI, k_aL_wR, k_aL_sI, k_aL_sL, k_aL_sR, k_aL_nw, k_aR_wR_e, k_aR_wR, k_aR_wI, k_aR_wL, k_aR_sI, k_aR_sL, k_aR_sR, k_aR_nw, k_mI_sI_e, k_mI_sI, k_mI_wI, k_mI_wL, k_mI_wR, k_mI_sL, k_mI_sR, k_mI_nw, k_mL_sL_e, k_mL_sL, k_mL_wI, k_mL_wL, k_mL_wR, k_mL_sI, k_mL_sR, k_mL_nw, k_mR_sR_e, k_mR_sR, k_mR_wI, k_mR_wL, k_mR_wR, k_mR_sI, k_mR_sL, k_mR_nw, k_mT_wI, k_mT_wL, k_mT_wR, k_mT_sI, k_mT_sL, k_mT_sR, k_mT_nw, k_mN_wI, k_mN_wL, k_mN_wR, k_mN_sI, k_mN_sL, k_mN_sR, k_mN_nw, k_mC_wI, k_mC_wL, k_mC_wR, k_mC_sI, k_mC_sL, k_mC_sR, k_mC_nw, k_mS_wI, k_mS_wL, k_mS_wR, k_mS_sI, k_mS_sL, k_mS_sR, k_mS_nw, k_zF_1, k_zF_3, k_zF_11, k_zF_32, k_zF_36, k_zA_1, k_zA_3, k_zA_11, k_zA_32, k_zA_36, k_mT_fil, k_mN_fil, k_mI_fil, k_mL_fil, k_mR_fil, k_aL_fil, k_aR_fil, k_mC_fil, k_mS_fil, k_aI_fil_e, k_aI_fil, up1_ap, e1, e2, e3, e4, e5, e6, a1, a2, a3, a4, a5, a6, a7]
      refine ⟨b1, b2, b3, b4, b5.1, fun j hj => ?_⟩
      by_cases w : j = k
      · obtain ⟨i, hi, rfl⟩ := nj_of q2.1
        have := q2.2
        rw [nj_le_l (by omega) (by omega)] at this
        exact ⟨i, by omega, by rw [if_pos w]⟩
      · rw [if_neg w]; exact b5.2 j hj
  · refine ⟨0, p, r, ?_, ?_, ⟨to, fi, pe, h1, h2, h3, e1, e2, e3, e4, e5, e6, a1, a2, a3, a4, a5, a6, a7, b1, b2, b3, b4, b5⟩, Ch.rfl, Ch.rfl, rfl, rfl⟩
    · unfold P_marks
      by_cases c1 : 0 ≤ x ∧ x ≤ 15 <;> by_cases c2 : 0 ≤ y ∧ y ≤ 255 <;> simp (disch := omega) [P_isTask_e, P_within_e, bp_s, tI, c1, c2]
      exact (q ⟨c1, c2⟩).elim
    · unfold R_marks
      by_cases c1 : 0 ≤ x ∧ x ≤ 15 <;> by_cases c2 : 0 ≤ y ∧ y ≤ 255 <;> simp (disch := omega) [R_in_e, bp_s, tI, c1, c2]
      exact (q ⟨c1, c2⟩).elim
theorem st_weight {p r : Mem} (h : Land p r) (x y : Int32) : ∃ v p' r', P_weight x y p = some (v, p') ∧ R_weight x y r = some (v, r') ∧ Land p' r' ∧ Ch [] [12] nil p p' ∧ Ch [1612, 1627] [43] nil r r' ∧ mC p' = mC p ∧ mS p' = mS p ∧ (r' = r ∨ (mI r' 1612 0 = -1 ∧ mI r' 1627 0 = -1)) := by
  obtain ⟨to, fi, pe, h1, h2, h3, e1, e2, e3, e4, e5, e6, a1, a2, a3, a4, a5, a6, a7, b1, b2, b3, b4, b5⟩ := h
  by_cases q : (0 ≤ x ∧ x ≤ 3) ∧ (0 ≤ y ∧ y ≤ 9)
  · obtain ⟨q1, q2⟩ := q
    obtain ⟨k, hk, rfl⟩ := nj_of q1.1
    have q3 := q1.2
    rw [nj_le_l (by omega) (by omega)] at q3
    have q4 : k < 4 := by omega
    refine ⟨1, wI p 12 k y, sI (sI (wI r 43 k y) 1612 0 (-1)) 1627 0 (-1), ?_, ?_, ⟨to, fi, pe, h1, h2, h3, ?_⟩, Ch.rfl.wI (Or.inl (by decide)), ((Ch.rfl.wI (Or.inl (by decide))).sI (by decide)).sI (by decide), rfl, rfl, Or.inr ⟨?_, ?_⟩⟩
    · unfold P_weight
      simp (disch := omega) [P_within_e, q1, q2, bp_s, tI, vb_e, inb_nj, gd_tt, ix_nj, q4]
    · unfold R_weight
      simp (disch := omega) [R_in_e, R_changed_e, q1, q2, bp_s, bn_s, tI, vb_e, inb_nj, gd_tt, ix_nj, q4]
    · simp [k_aI_wI_e, k_aI_wI, k_aI_wL, k_aI_wR, k_aI_sI, k_aI_sL, k_aI_sR, k_aI_nw, k_aL_wL_e, k_aL_wL, k_aL_wI, k_aL_wR, k_aL_sI, k_aL_sL, k_aL_sR, k_aL_nw, k_aR_wR_e, k_aR_wR, k_aR_wI, k_aR_wL, k_aR_sI, k_aR_sL, k_aR_sR, k_aR_nw, k_mI_sI_e, k_mI_sI, k_mI_wI, k_mI_wL, k_mI_wR, k_mI_sL, k_mI_sR, k_mI_nw, k_mL_sL_e, k_mL_sL, k_mL_wI, k_mL_wL, k_mL_wR, k_mL_sI, k_mL_sR, k_mL_nw, k_mR_sR_e, k_mR_sR, k_mR_wI, k_mR_wL, k_mR_wR, k_mR_sI, k_mR_sL, k_mR_nw, k_mT_wI, k_mT_wL, k_mT_wR, k_mT_sI, k_mT_sL, k_mT_sR, k_mT_nw, k_mN_wI, k_mN_wL, k_mN_wR, k_mN_sI, k_mN_sL, k_mN_sR, k_mN_nw, k_mC_wI, k_mC_wL, k_mC_wR, k_mC_sI, k_mC_sL, k_mC_sR, k_mC_nw, k_mS_wI, k_mS_wL, k_mS_wR, k_mS_sI, k_mS_sL, k_mS_sR, k_mS_nw, k_zF_1, k_zF_3, k_zF_11, k_zF_32, k_zF_36, k_zA_1, k_zA_3, k_zA_11, k_zA_32, k_zA_36, k_mT_fil, k_mN_fil, k_mI_fil, k_mL_fil, k_mR_fil, k_aL_fil, k_aR_fil, k_mC_fil, k_mS_fil, k_aI_fil_e, k_aI_fil, up1_ap, e1, e2, e3, e4, e5, e6, a1, a2, a3, a4, a5, a6, a7]
      refine ⟨b1, b2, b3, fun j hj => ?_, b5⟩
      by_cases w : j = k
      · obtain ⟨i, hi, rfl⟩ := nj_of q2.1
        have := q2.2
        rw [nj_le_l (by omega) (by omega)] at this
        exact ⟨i, by omega, by rw [if_pos w]⟩
      · rw [if_neg w]; exact b4 j hj
    · simp [k_aI_wI_e, k_aI_wI, k_aI_wL, k_aI_wR, k_aI_sI, k_aI_sL, k_aI_sR, k_aI_nw, k_aL_wL_e, k_aL_wL, k_aL_wI, k_aL_wR, k_aL_sI, k_aL_sL, k_aL_sR, k_aL_nw, k_aR_wR_e, k_aR_wR, k_aR_wI, k_aR_wL, k_aR_sI, k_aR_sL, k_aR_sR, k_aR_nw, k_mI_sI_e, k_mI_sI, k_mI_wI, k_mI_wL, k_mI_wR, k_mI_sL, k_mI_sR, k_mI_nw, k_mL_sL_e, k_mL_sL, k_mL_wI, k_mL_wL, k_mL_wR, k_mL_sI, k_mL_sR, k_mL_nw, k_mR_sR_e, k_mR_sR, k_mR_wI, k_mR_wL, k_mR_wR, k_mR_sI, k_mR_sL, k_mR_nw, k_mT_wI, k_mT_wL, k_mT_wR, k_mT_sI, k_mT_sL, k_mT_sR, k_mT_nw, k_mN_wI, k_mN_wL, k_mN_wR, k_mN_sI, k_mN_sL, k_mN_sR, k_mN_nw, k_mC_wI, k_mC_wL, k_mC_wR, k_mC_sI, k_mC_sL, k_mC_sR, k_mC_nw, k_mS_wI, k_mS_wL, k_mS_wR, k_mS_sI, k_mS_sL, k_mS_sR, k_mS_nw, k_zF_1, k_zF_3, k_zF_11, k_zF_32, k_zF_36, k_zA_1, k_zA_3, k_zA_11, k_zA_32, k_zA_36, k_mT_fil, k_mN_fil, k_mI_fil, k_mL_fil, k_mR_fil, k_aL_fil, k_aR_fil, k_mC_fil, k_mS_fil, k_aI_fil_e, k_aI_fil, up1_ap]
    · simp [k_aI_wI_e, k_aI_wI, k_aI_wL, k_aI_wR, k_aI_sI, k_aI_sL, k_aI_sR, k_aI_nw, k_aL_wL_e, k_aL_wL, k_aL_wI, k_aL_wR, k_aL_sI, k_aL_sL, k_aL_sR, k_aL_nw, k_aR_wR_e, k_aR_wR, k_aR_wI, k_aR_wL, k_aR_sI, k_aR_sL, k_aR_sR, k_aR_nw, k_mI_sI_e, k_mI_sI, k_mI_wI, k_mI_wL, k_mI_wR, k_mI_sL, k_mI_sR, k_mI_nw, k_mL_sL_e, k_mL_sL, k_mL_wI, k_mL_wL, k_mL_wR, k_mL_sI, k_mL_sR, k_mL_nw, k_mR_sR_e, k_mR_sR, k_mR_wI, k_mR_wL, k_mR_wR, k_mR_sI, k_mR_sL, k_mR_nw, k_mT_wI, k_mT_wL, k_mT_wR, k_mT_sI, k_mT_sL, k_mT_sR, k_mT_nw, k_mN_wI, k_mN_wL, k_mN_wR, k_mN_sI, k_mN_sL, k_mN_sR, k_mN_nw, k_mC_wI, k_mC_wL, k_mC_wR, k_mC_sI, k_mC_sL, k_mC_sR, k_mC_nw, k_mS_wI, k_mS_wL, k_mS_wR, k_mS_sI, k_mS_sL, k_mS_sR, k_mS_nw, k_zF_1, k_zF_3, k_zF_11, k_zF_32, k_zF_36, k_zA_1, k_zA_3, k_zA_11, k_zA_32, k_zA_36, k_mT_fil, k_mN_fil, k_mI_fil, k_mL_fil, k_mR_fil, k_aL_fil, k_aR_fil, k_mC_fil, k_mS_fil, k_aI_fil_e, k_aI_fil, up1_ap]
  · refine ⟨0, p, r, ?_, ?_, ⟨to, fi, pe, h1, h2, h3, e1, e2, e3, e4, e5, e6, a1, a2, a3, a4, a5, a6, a7, b1, b2, b3, b4, b5⟩, Ch.rfl, Ch.rfl, rfl, rfl, Or.inl rfl⟩
    · unfold P_weight
      by_cases c1 : 0 ≤ x ∧ x ≤ 3 <;> by_cases c2 : 0 ≤ y ∧ y ≤ 9 <;> simp (disch := omega) [P_within_e, bp_s, tI, c1, c2]
      exact (q ⟨c1, c2⟩).elim
    · unfold R_weight
      by_cases c1 : 0 ≤ x ∧ x ≤ 3 <;> by_cases c2 : 0 ≤ y ∧ y ≤ 9 <;> simp (disch := omega) [R_in_e, bp_s, tI, c1, c2]
      exact (q ⟨c1, c2⟩).elim
