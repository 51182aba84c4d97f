/-! Layer C: the reference's choice of a class -/
section Cs
variable {r : Mem} {D : Dt} {nc : Nat} {X : Dy} {sup : Sup} {g : Nat → Option Nat} {who : Nat}
theorem up_ifr {β : Type} {ch : Int32} {tl : Nat → Nat} {mg : Nat → Int32} {j b : Nat} {A B : β} (hch : ch = 1 ∨ ch = 2) (h48 : ∀ x, tl x ≤ 48) : (if ch = 1 then (if nj (tl b) < nj (tl j) then A else if ch = 2 then (if mg j ≤ mg b then B else A) else if nj (tl j) = nj (tl b) then (if mg j ≤ mg b then B else A) else B) else if ch = 2 then (if mg j ≤ mg b then B else A) else if nj (tl j) = nj (tl b) then (if mg j ≤ mg b then B else A) else B) = if upF ch tl mg j (some b) = true then A else B := by
  have hj := h48 j
  have hb := h48 b
  unfold upF
  simp only [decide_eq_true_eq]
  rcases hch with c | c
  · have n2 : ¬ ch = 2 := by rw [c]; decide
    simp only [n2, if_false]
    simp only [c, if_true, true_and, forall_const]
    by_cases c1 : tl b < tl j
    · have c1' : nj (tl b) < nj (tl j) := by rw [nj_lt (by omega) (by omega)]; exact c1
      rw [if_pos c1', if_pos (Or.inl c1)]
    · have c1' : ¬ nj (tl b) < nj (tl j) := by rw [nj_lt (by omega) (by omega)]; exact c1
      rw [if_neg c1']
      by_cases c2 : tl j = tl b
      · rw [if_pos (by rw [c2])]
        by_cases c3 : mg j ≤ mg b
        · rw [if_pos c3, if_neg (fun z => z.elim c1 (fun y => Int32.not_lt.mpr c3 y.2))]
        · rw [if_neg c3, if_pos (Or.inr ⟨c2, Int32.not_le.mp c3⟩)]
      · rw [if_neg (fun z => c2 ((nj_inj (by omega) (by omega)).mp z)), if_neg (fun z => z.elim c1 (fun y => c2 y.1))]
  · have n1 : ¬ ch = 1 := by rw [c]; decide
    simp only [n1, if_false]
    simp only [c, if_true]
    by_cases c3 : mg j ≤ mg b
    · rw [if_pos c3, if_neg (fun z => z.elim (fun y => absurd y.1 (by decide)) (fun y => Int32.not_lt.mpr c3 y.2))]
    · rw [if_neg c3, if_pos (Or.inr ⟨fun y => absurd y (by decide), Int32.not_le.mp c3⟩)]
theorem R_classes_158_e (W : WText D nc) (Wi : WItems D nc) (hn60 : nc ≤ 60) (hd : xd X < 140) (hf8 : xf X < 8) (hn : xn X ≤ D.2.2) {k : Nat} (hk : k < D.2.1) (hch : chQ D X k = 1 ∨ chQ D X k = 2) {x2 : Int32} : ∀ (e j fu : Nat) (r : Mem), j + e = (rowQ D X k).length → e < fu → RX D X who r → SuR D sup r → (∀ j, j < (rowQ D X k).length → aI r 69 (64 * k + j) = nj (tlH D X g k j)) →
    ∃ r', R_classes_158 fu (nj k) x2 (xy X) (jk k (chF (chQ D X k) (tlH D X g k) (mgH D X sup k) j)) (grF (mgH D X sup k) (chF (chQ D X k) (tlH D X g k) (mgH D X sup k) j)) (nj (64 * k + j)) r = R_classes_292 (nj k) x2 (jk k (chF (chQ D X k) (tlH D X g k) (mgH D X sup k) (rowQ D X k).length)) r' ∧ RX D X who r' ∧ SuR D sup r' ∧ Ch wkF (50 :: wkA) nil r r' ∧ mC r' = mC r
  | 0, j, fu + 1, r, he, _, HX, HS, h69 => by
    have h24 := W.1
    have hlen := (rowQ_W (X := X) W hd hk).len Wi hn60
    have e53 : aI r 53 k = nj (rowQ D X k).length := (HX.2.2.2.1.2.1 k hk).1
    refine ⟨r, ?_, HX, HS, Ch.rfl, rfl⟩
    rw [R_classes_158.eq_2, inb_nj (by omega), gd_t (decide_eq_true (by omega)), ix_nj (by omega), e53, nj_l_mul, nj_add, if_pos (by rw [nj_le (by omega) (by omega)]; omega), show j = (rowQ D X k).length by omega]
  | e + 1, j, fu + 1, r, he, hf, HX, HS, h69 => by
    have h24 := W.1
    have C2 := HX.2.1
    have hlen := (rowQ_W (X := X) W hd hk).len Wi hn60
    have e53 : aI r 53 k = nj (rowQ D X k).length := (HX.2.2.2.1.2.1 k hk).1
    have h48 := tl48 (D := D) (X := X) (g := g) (k := k)
    have hj := h48 j
    have gk : ∀ {β : Type} (c : Option β), gd (inb (nj k) 24) c = c := fun c => by rw [inb_nj (by omega), gd_t (decide_eq_true (by omega))]
    have gj : ∀ {β : Type} (i : Nat) (c : Option β), i < 64 → gd (inb (nj (64 * k + i)) 1536) c = c := fun i c h => by rw [inb_nj (by omega), gd_t (decide_eq_true (by omega))]
    have ij : ∀ i, i < 64 → ix (nj (64 * k + i)) = 64 * k + i := fun i h => ix_nj (by omega)
    rw [R_classes_158.eq_2, gk, ix_nj (show k < 2147483648 by omega), e53, nj_l_mul, nj_add, if_neg (by rw [nj_le (by omega) (by omega)]; omega), gj j _ (by omega), ij j (by omega), h69 j (by omega)]
    by_cases q : tlH D X g k j = 0
    · have hs : chF (chQ D X k) (tlH D X g k) (mgH D X sup k) (j + 1) = chF (chQ D X k) (tlH D X g k) (mgH D X sup k) j := by
        show (if tlH D X g k j = 0 then _ else _) = _
        rw [if_pos q]
      rw [if_pos (by rw [q]; rfl)]
      unfold R_classes_286
      simp only [vb_e, nj_add_l]
      have ih := R_classes_158_e W Wi hn60 hd hf8 hn hk hch (x2 := x2) e (j + 1) fu r (by omega) (by omega) HX HS h69
      rw [hs] at ih
      exact ih
    · have hup := chF_up (ch := chQ D X k) (mg := mgH D X sup k) q
      obtain ⟨z, hz, hz2⟩ := tl_row q
      rw [if_neg (show ¬ nj (tlH D X g k j) = 0 from fun z => q ((nj_inj (b := 0) (by omega) (by omega)).mp z))]
      obtain ⟨x1, x2', x3, x4, x5, x6, x7, x8, x9, x10, x11⟩ := id HX
      obtain ⟨r1, a1, a2, a3⟩ := R_heldMargin_e W Wi hn60 x1 x2' x3 hd hf8 hn x4 x5 x6 x7 HS.1 HS.2 hk hz hz2 (xy X)
      have a1' : R_heldMargin (nj (64 * k + j)) (xy X) r = some (mgH D X sup k j, r1) := a1
      have X1 := HX.Ch a2 a3 (by decide) (by decide)
      have S1 := HS.Ch C2 a2 (by decide)
      have h69' : ∀ j, j < (rowQ D X k).length → aI r1 69 (64 * k + j) = nj (tlH D X g k j) := fun i hi => by rw [a2.ai (by decide) nil_no (by omega)]; exact h69 i hi
      have e56 : aI r1 56 k = chQ D X k := (X1.2.2.2.1.2.1 k hk).2.2.1
      obtain ⟨r', b1, b2, b3, b4, b5⟩ := R_classes_158_e W Wi hn60 hd hf8 hn hk hch (x2 := x2) e (j + 1) fu r1 (by omega) (by omega) X1 S1 h69'
      refine ⟨r', ?_, b2, b3, a2.trans b4, by omega⟩
      rw [hup] at b1
      rw [a1', bn_s]
      unfold R_classes_229 R_classes_256 R_classes_263 R_classes_267 R_classes_268 R_classes_286
      simp only [vb_e, nj_add_l, gk, ix_nj (show k < 2147483648 by omega), e56, gj j _ (show j < 64 by omega), ij j (show j < 64 by omega), h69' j (show j < (rowQ D X k).length by omega)]
      simp only [if_true, if_neg (show ¬ (1 : Int32) = 0 by decide)]
      cases co : chF (chQ D X k) (tlH D X g k) (mgH D X sup k) j with
      | none =>
        rw [co] at b1
        rw [if_pos (by rfl)]
        exact b1
      | some b =>
        have hb := (chF_lt co).1
        rw [co] at b1
        rw [if_neg (jk_some (by omega) (by omega)), show jk k (some b) = nj (64 * k + b) from rfl, gj b _ (by omega), gj b _ (by omega), ij b (by omega), h69' b (by omega)]
        change (if chQ D X k = 1 then (if nj (tlH D X g k b) < nj (tlH D X g k j) then _ else if chQ D X k = 2 then (if mgH D X sup k j ≤ mgH D X sup k b then _ else _) else if nj (tlH D X g k j) = nj (tlH D X g k b) then (if mgH D X sup k j ≤ mgH D X sup k b then _ else _) else _) else if chQ D X k = 2 then (if mgH D X sup k j ≤ mgH D X sup k b then _ else _) else if nj (tlH D X g k j) = nj (tlH D X g k b) then (if mgH D X sup k j ≤ mgH D X sup k b then _ else _) else _) = _
        rw [up_ifr hch h48]
        by_cases u : upF (chQ D X k) (tlH D X g k) (mgH D X sup k) j (some b) = true
        · rw [if_pos u] at b1
          rw [if_pos u]
          exact b1
        · rw [if_neg u] at b1
          rw [if_neg u]
          exact b1
theorem R_classes_295_e {k : Nat} (hk : k < 24) {s : Bool} {x4 : Int32} : ∀ (e h fu : Nat) (r : Mem), h + e = 48 → e < fu → (∀ x, x < 48 → (aI r (byA s) x = nj k ↔ g x = some k)) →
    ∃ r', R_classes_295 fu (nj k) (tI s) x4 (nj h) r = some ((), r') ∧ (∀ x, x < 48 → aI r' (ouA s) x = if h ≤ x ∧ g x = some k ∧ aI r (ouA s) x ≠ -1 then x4 else aI r (ouA s) x) ∧ Ch [] [ouA s] nil r r' ∧ mC r' = mC r
  | 0, h, fu + 1, r, he, _, hA => by
    refine ⟨r, ?_, fun x hx => by rw [if_neg (fun z => by omega)], Ch.rfl, rfl⟩
    rw [R_classes_295.eq_2, if_pos (by rw [show (48 : Int32) = nj 48 from rfl, nj_le (by omega) (by omega)]; omega)]
  | e + 1, h, fu + 1, r, he, hf, hA => by
    have gh : ∀ {β : Type} (c : Option β), gd (inb (nj h) 48) c = c := fun c => by rw [inb_nj (by omega), gd_t (decide_eq_true (by omega))]
    have ih : ix (nj h) = h := ix_nj (by omega)
    have ho : ouA s = 63 ∨ ouA s = 65 := by cases s; exact Or.inl rfl; exact Or.inr rfl
    have hy : byA s = 62 ∨ byA s = 64 := by cases s; exact Or.inl rfl; exact Or.inr rfl
    have e1 : R_classes_295 (fu + 1) (nj k) (tI s) x4 (nj h) r = if aI r (byA s) h = nj k then (if aI r (ouA s) h = -1 then R_classes_295 fu (nj k) (tI s) x4 (nj (h + 1)) r else R_classes_295 fu (nj k) (tI s) x4 (nj (h + 1)) (wI r (ouA s) h x4)) else R_classes_295 fu (nj k) (tI s) x4 (nj (h + 1)) r := by
      rw [R_classes_295.eq_2, if_neg (by rw [show (48 : Int32) = nj 48 from rfl, nj_le (by omega) (by omega)]; omega)]
      unfold R_classes_323 R_classes_354 R_classes_378
      simp only [gh, ih, vb_e, nj_add_l]
      cases s <;> rfl
    have same : (¬ (g h = some k ∧ aI r (ouA s) h ≠ -1)) → ∃ r', R_classes_295 fu (nj k) (tI s) x4 (nj (h + 1)) r = some ((), r') ∧ (∀ x, x < 48 → aI r' (ouA s) x = if h ≤ x ∧ g x = some k ∧ aI r (ouA s) x ≠ -1 then x4 else aI r (ouA s) x) ∧ Ch [] [ouA s] nil r r' ∧ mC r' = mC r := fun hno => by
      obtain ⟨r', a1, a2, a3⟩ := R_classes_295_e hk (s := s) (x4 := x4) e (h + 1) fu r (by omega) (by omega) hA
      refine ⟨r', a1, fun x hx => ?_, a3⟩
      rw [a2 x hx]
      by_cases q : x = h
      · rw [if_neg (fun z => by omega), if_neg (fun z => hno (q ▸ z.2))]
      · by_cases q2 : h + 1 ≤ x ∧ g x = some k ∧ aI r (ouA s) x ≠ -1
        · rw [if_pos q2, if_pos ⟨by omega, q2.2⟩]
        · rw [if_neg q2, if_neg (fun z => q2 ⟨by omega, z.2⟩)]
    rw [e1]
    by_cases q : g h = some k
    · rw [if_pos ((hA h (by omega)).mpr q)]
      by_cases c : aI r (ouA s) h = -1
      · rw [if_pos c]
        exact same (fun z => z.2 c)
      · rw [if_neg c]
        have c1 : Ch [] [ouA s] nil r (wI r (ouA s) h x4) := Ch.rfl.wI (Or.inl (by simp))
        obtain ⟨r', a1, a2, a3, a4⟩ := R_classes_295_e hk (s := s) (x4 := x4) e (h + 1) fu (wI r (ouA s) h x4) (by omega) (by omega) (fun x hx => by rw [k_aI_wI (by omega)]; exact hA x hx)
        refine ⟨r', a1, fun x hx => ?_, c1.trans a3, by rw [a4, k_mC_wI]⟩
        rw [a2 x hx, k_aI_wI_e, up1_ap]
        by_cases y : x = h
        · rw [if_neg (fun z => by omega), if_pos y, if_pos ⟨by omega, by rw [y]; exact q, by rw [y]; exact c⟩]
        · rw [if_neg y]
          by_cases q2 : h + 1 ≤ x ∧ g x = some k ∧ aI r (ouA s) x ≠ -1
          · rw [if_pos q2, if_pos ⟨by omega, q2.2⟩]
          · rw [if_neg q2, if_neg (fun z => q2 ⟨by omega, z.2⟩)]
    · rw [if_neg (fun z => q ((hA h (by omega)).mp z))]
      exact same (fun z => q z.1)
def clA (s : Bool) : List Nat := [50, 51, 59, 69, ouA s]
theorem R_classes_e (W : WText D nc) (Wi : WItems D nc) (hn60 : nc ≤ 60) (hd : xd X < 140) (hf8 : xf X < 8) (hn : xn X ≤ D.2.2) (hG : GW D X g) {k : Nat} (hk : k < D.2.1) {s : Bool} (HX : RX D X who r) (HS : SuR D sup r) (h60 : ∀ x, x < 48 → aI r 60 x = tsH D X x) (hA : ∀ x, x < 48 → (aI r (byA s) x = nj k ↔ g x = some k)) :
    ∃ r', R_classes (nj k) (tI s) (xy X) r = some ((), r') ∧ (∀ x, x < 48 → aI r' (ouA s) x = if g x = some k then jk k (clH D X sup g x) else aI r (ouA s) x) ∧ RX D X who r' ∧ SuR D sup r' ∧ Ch wkF (clA s) nil r r' ∧ mC r' = mC r := by
  have h24 := W.1
  have C2 := HX.2.1
  have hlen := (rowQ_W (X := X) W hd hk).len Wi hn60
  have e53 : aI r 53 k = nj (rowQ D X k).length := (HX.2.2.2.1.2.1 k hk).1
  have ho : ouA s = 63 ∨ ouA s = 65 := by cases s; exact Or.inl rfl; exact Or.inr rfl
  have hy : byA s = 62 ∨ byA s = 64 := by cases s; exact Or.inl rfl; exact Or.inr rfl
  obtain ⟨r1, a1, a2, a3, a4⟩ := R_classes_6_e (show k < 24 by omega) hlen (x2 := tI s) (x3 := xy X) (rowQ D X k).length 0 FU r (by omega) (by unfold FU; omega) e53 (fun _ h => absurd h (by omega))
  have X1 := HX.Ch a3 a4 (by decide) (by decide)
  obtain ⟨r2, b1, b2, b3, b4, b5, b6⟩ := R_classes_42_e (g := g) W Wi hn60 hd hk (s := s) (x3 := xy X) (x4 := -1) 48 0 FU r1 (by omega) (by unfold FU; omega) X1 (fun x hx => by rw [a3.ai (by simp) nil_no (by omega)]; exact h60 x hx) (fun x hx => by rw [a3.ai (by simp; omega) nil_no (by omega)]; exact hA x hx) (fun j hj => by rw [a2 j hj]; rfl)
  have c2 : Ch wkF (clA s) nil r r2 := (a3.mono (by simp) (by simp [clA]) (fun _ h => h)).trans (b5.mono (by simp) (by simp [clA]) (fun _ h => h))
  have S2 := HS.Ch C2 c2 (by decide)
  have e56 : aI r2 56 k = chQ D X k := (b4.2.2.2.1.2.1 k hk).2.2.1
  have hst : R_classes (nj k) (tI s) (xy X) r = R_classes_139 (nj k) (tI s) (xy X) (-1) r2 := by
    unfold R_classes
    rw [vb_e, nj_l_mul]
    refine Eq.trans a1 ?_
    unfold R_classes_36
    exact b1
  have o1 : ∀ x, x < 48 → aI r2 (ouA s) x = if g x = some k then jk k (c0H D X g x) else aI r (ouA s) x := fun x hx => by
    rw [b3 x hx, a3.ai (by simp; omega) nil_no (by omega)]
    by_cases q : g x = some k
    · rw [if_pos q, if_pos ⟨by omega, q⟩]
    · rw [if_neg q, if_neg (fun z => q z.2)]
  by_cases c0 : chQ D X k = 0
  · refine ⟨r2, ?_, fun x hx => ?_, b4, S2, c2, by omega⟩
    · rw [hst]
      unfold R_classes_139
      rw [inb_nj (by omega), gd_t (decide_eq_true (by omega)), ix_nj (by omega), e56, if_pos c0]
    · rw [o1 x hx]
      by_cases q : g x = some k
      · rw [if_pos q, if_pos q]
        unfold clH
        rw [q]
        simp only [c0, if_true]
        cases c0H D X g x <;> rfl
      · rw [if_neg q, if_neg q]
  · have hch : chQ D X k = 1 ∨ chQ D X k = 2 := by
      rcases (bQ_ok W Wi (d := xd X) (f := xf X) (n := xn X) hk).1 with z | z
      · exact absurd z c0
      · exact z
    obtain ⟨r3, d1, d2, d3, d4, d5⟩ := R_classes_158_e (g := g) W Wi hn60 hd hf8 hn hk hch (x2 := tI s) (rowQ D X k).length 0 FU r2 (by omega) (by unfold FU; omega) b4 S2 b2
    have rb : aI r3 (byA s) = aI r (byA s) := by rw [d4.ai (by simp [wkA]; omega) nil_no (by omega), c2.ai (by simp [clA]; omega) nil_no (by omega)]
    have ro : aI r3 (ouA s) = aI r2 (ouA s) := d4.ai (by simp [wkA]; omega) nil_no (by omega)
    obtain ⟨r4, f1, f2, f3, f4⟩ := R_classes_295_e (g := g) (show k < 24 by omega) (s := s) (x4 := jk k (chF (chQ D X k) (tlH D X g k) (mgH D X sup k) (rowQ D X k).length)) 48 0 FU r3 (by omega) (by unfold FU; omega) (fun x hx => by rw [rb]; exact hA x hx)
    have c3 : Ch wkF (clA s) nil r r3 := c2.trans (d4.mono (fun _ h => h) (by simp [clA, wkA]) (fun _ h => h))
    refine ⟨r4, ?_, fun x hx => ?_, d2.Ch f3 f4 (by decide) (by simp; omega), d3.Ch d2.2.1 f3 (by decide), c3.trans (f3.mono (by simp) (by simp [clA]) (fun _ h => h)), by omega⟩
    · rw [hst]
      unfold R_classes_139
      rw [inb_nj (by omega), gd_t (decide_eq_true (by omega)), ix_nj (by omega), e56, if_neg c0, vb_e, nj_l_mul]
      refine Eq.trans d1 ?_
      unfold R_classes_292
      exact f1
    · rw [f2 x hx, ro, o1 x hx]
      by_cases q : g x = some k
      · rw [if_pos q, if_pos q]
        unfold clH
        rw [q]
        simp only [c0, if_false]
        cases c : c0H D X g x with
        | none => rw [if_neg (fun z => z.2.2 (by rfl))]
        | some j =>
          have := c0_60 W Wi hn60 hd hG c
          rw [if_pos ⟨by omega, trivial, jk_some (by omega) (by omega)⟩]
      · rw [if_neg q, if_neg q, if_neg (fun z => q z.2.1)]
end Cs
