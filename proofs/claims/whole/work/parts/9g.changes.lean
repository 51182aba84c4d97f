/-! Layer C: the reference's changes -/
def RR (m : Mem) (s : Nat) (L : List Nat) (mb tv : Nat → Nat) (ap : Nat → Nat → Bool) : Prop :=
  s ≤ 7 ∧ (∀ i, i < s → mb i < 16 ∧ aI m 77 i = nj (mb i) ∧ L.getD i 0 ≤ i ∧ aI m 78 i = nj (L.getD i 0)) ∧
  (∀ t, t < 16 → tv t < 1000 ∧ aI m 73 t = nj (tv t) ∧ ∀ b, b < 16 → (aI m 74 (16 * t + b) = 0) = (ap b t = false))
/-- what changes may write -/
def RG (m m' : Mem) : Prop := Ch [] [79] nil m m' ∧ mC m' = mC m ∧ mS m' = mS m
theorem RG.rfl {m : Mem} : RG m m := ⟨Ch.rfl, Eq.refl _, Eq.refl _⟩
theorem RG.trans {m m1 m2 : Mem} (h : RG m m1) (k : RG m1 m2) : RG m m2 := ⟨h.1.trans k.1, k.2.1.trans h.2.1, k.2.2.trans h.2.2⟩
section Rc
variable {m : Mem} {s : Nat} {L : List Nat} {mb tv : Nat → Nat} {ap : Nat → Nat → Bool}
theorem RR.le (h : RR m s L mb tv ap) : ∀ i, i < s → L.getD i 0 ≤ i := fun i hi => (h.2.1 i hi).2.2.1
theorem RR_rg {m' : Mem} (h : RR m s L mb tv ap) (h60 : 82 ≤ mC m) (k : RG m m') : RR m' s L mb tv ap := by
  obtain ⟨h1, h3, h4⟩ := h
  have e46 := (k.1.2.2.2 77 (by decide) (fun z => z) (by omega)).1
  have e47 := (k.1.2.2.2 78 (by decide) (fun z => z) (by omega)).1
  have e42 := (k.1.2.2.2 73 (by decide) (fun z => z) (by omega)).1
  have e43 := (k.1.2.2.2 74 (by decide) (fun z => z) (by omega)).1
  refine ⟨h1, ?_, ?_⟩
  · rw [e46, e47]
    exact h3
  · rw [e42, e43]
    exact h4
theorem R_changes_84_e (h : RR m s L mb tv ap) {c j : Nat} (hc : c < 8) (hj : j < s) {k14 : Int32 → Int32 → Int32 → Int32 → Int32 → Int32 → Int32 → Mem → Option (Int32 × Mem)} {x2 x3 x4 x5 x6 : Int32} : ∀ (k i fu : Nat), i + k = j → k < fu → anT L (fun a b => ap (mb a) (mb b)) c j i = false →
    R_changes_84 k14 fu (nj c) x2 x3 x4 x5 x6 (nj j) (nj i) m = if anT L (fun a b => ap (mb a) (mb b)) c j j = true then some (-1, m) else k14 (nj c) x2 x3 x4 x5 x6 (nj (j + 1)) m
  | 0, i, fu + 1, h1, _, h3 => by
    have hs := h.1
    have e : i = j := by omega
    rw [e] at h3
    rw [R_changes_84.eq_2, if_pos (by rw [nj_le (by omega) (by omega)]; omega), R_changes_136, vb_e, nj_add_l, h3, if_neg (by decide)]
  | k + 1, i, fu + 1, h1, h2, h3 => by
    have hs := h.1
    have hi := h.2.1 i (by omega)
    have hj' := h.2.1 j hj
    have ht := (h.2.2 (mb i) hi.1).2.2 (mb j) hj'.1
    have g : ∀ {β : Type} (z : Option β), gd (inb (nj i) 7) z = z := fun z => by rw [inb_nj (by omega), gd_t (decide_eq_true (by omega))]
    have g' : ∀ {β : Type} (z : Option β), gd (inb (nj j) 7) z = z := fun z => by rw [inb_nj (by omega), gd_t (decide_eq_true (by omega))]
    have g2 : ∀ {β : Type} (z : Option β), gd (inb (nj (16 * mb i + mb j)) 256) z = z := fun z => by rw [inb_nj (by omega), gd_t (decide_eq_true (by omega))]
    have ea : anT L (fun a b => ap (mb a) (mb b)) c j (i + 1) = (anT L (fun a b => ap (mb a) (mb b)) c j i || (decide (L.getD i 0 = c) && ap (mb j) (mb i))) := rfl
    rw [h3, Bool.false_or] at ea
    have ih := R_changes_84_e h hc hj (k14 := k14) (x2 := x2) (x3 := x3) (x4 := x4) (x5 := x5) (x6 := x6) k (i + 1) fu (by omega) (by omega)
    rw [R_changes_84.eq_2, if_neg (by rw [nj_le (by omega) (by omega)]; omega)]
    unfold R_changes_130
    simp only [g, g', ix_nj (show i < 2147483648 by omega), ix_nj (show j < 2147483648 by omega), hi.2.2.2, hi.2.1, hj'.2.1, nj_l_mul, nj_add, g2, vb_e, ix_nj (show 16 * mb i + mb j < 2147483648 by omega), nj_add_l]
    have ez : (nj (L.getD i 0) = nj c) = (L.getD i 0 = c) := nj_inj (by omega) (by omega)
    simp only [ez]
    by_cases z : L.getD i 0 = c
    · rw [if_pos z]
      by_cases y : ap (mb j) (mb i) = false
      · rw [if_pos (ht.mpr y)]
        exact ih (by rw [ea, y, Bool.and_false])
      · rw [if_neg (fun w => y (ht.mp w)), if_pos ((anT_iff j).mpr ⟨i, by omega, z, by simpa using y⟩)]
    · rw [if_neg z]
      exact ih (by rw [ea, decide_eq_false z, Bool.false_and])
theorem R_changes_14_e (h : RR m s L mb tv ap) {c d : Nat} (hc : c < 7) (hd : d < 1000) (htv : ∀ i, tv (mb i) < 1000) : ∀ (k j fu : Nat), j + k = s → k < fu → tnV L (fun a b => ap (mb a) (mb b)) c j = false →
    R_changes_14 fu (nj c) (nj s) (nj d) (nj (loV L (fun i => tv (mb i)) d c j)) (nj (hiV L (fun i => tv (mb i)) d c j)) (nj (nuV L c j)) (nj j) m = if tnV L (fun a b => ap (mb a) (mb b)) c s = true then some (-1, m) else R_changes_142 (nj c) (nj s) (nj (loV L (fun i => tv (mb i)) d c s)) (nj (hiV L (fun i => tv (mb i)) d c s)) (nj (nuV L c s)) m
  | 0, j, fu + 1, h1, _, h3 => by
    have e : j = s := by omega
    rw [e] at h3
    rw [R_changes_14.eq_2, if_pos (by rw [nj_le (by have := h.1; omega) (by have := h.1; omega)]; omega), e, h3, if_neg (by decide)]
  | k + 1, j, fu + 1, h1, h2, h3 => by
    have hs := h.1
    have hj := h.2.1 j (by omega)
    have ht := h.2.2 (mb j) hj.1
    have hl := loV_b (L := L) (c := c) (d := d) htv j
    have hh := hiV_b (L := L) (v := fun i => tv (mb i)) (c := c) (d := d) j
    have hn := nuV_le (L := L) (c := c) j
    have g : ∀ {β : Type} (z : Option β), gd (inb (nj j) 7) z = z := fun z => by rw [inb_nj (by omega), gd_t (decide_eq_true (by omega))]
    have g2 : ∀ {β : Type} (z : Option β), gd (inb (nj (mb j)) 16) z = z := fun z => by rw [inb_nj (by omega), gd_t (decide_eq_true (by omega))]
    have ih := R_changes_14_e h hc hd htv k (j + 1) fu (by omega) (by omega)
    have e1 : loV L (fun i => tv (mb i)) d c (j + 1) = if L.getD j 0 = c then max (loV L (fun i => tv (mb i)) d c j) (tv (mb j) - d) else loV L (fun i => tv (mb i)) d c j := rfl
    have e2 : hiV L (fun i => tv (mb i)) d c (j + 1) = if L.getD j 0 = c then min (hiV L (fun i => tv (mb i)) d c j) (tv (mb j) + d) else hiV L (fun i => tv (mb i)) d c j := rfl
    have e3 : nuV L c (j + 1) = if L.getD j 0 = c then nuV L c j + 1 else nuV L c j := rfl
    have e4 : tnV L (fun a b => ap (mb a) (mb b)) c (j + 1) = (tnV L (fun a b => ap (mb a) (mb b)) c j || (decide (L.getD j 0 = c) && anT L (fun a b => ap (mb a) (mb b)) c j j)) := rfl
    rw [h3, Bool.false_or] at e4
    rw [R_changes_14.eq_2, if_neg (by rw [nj_le (by omega) (by omega)]; omega)]
    simp only [g, ix_nj (show j < 2147483648 by omega), hj.2.2.2, hj.2.1, g2, vb_e, ix_nj (show mb j < 2147483648 by omega), ht.2.1, nj_add_l]
    have ez : (nj (L.getD j 0) = nj c) = (L.getD j 0 = c) := nj_inj (by omega) (by omega)
    simp only [ez]
    by_cases z : L.getD j 0 = c
    · rw [if_pos z]
      rw [e1, e2, e3, if_pos z, if_pos z, if_pos z] at ih
      have r66 : ∀ lo' : Nat, R_changes_66 (fun z0 z1 z2 z3 z4 z5 z6 z7 => R_changes_14 fu z0 z1 z2 z3 z4 z5 z6 z7) (nj c) (nj s) (nj d) (nj lo') (nj (hiV L (fun i => tv (mb i)) d c j)) (nj (nuV L c j + 1)) (nj j) (nj (tv (mb j))) m = if anT L (fun a b => ap (mb a) (mb b)) c j j = true then some (-1, m) else R_changes_14 fu (nj c) (nj s) (nj d) (nj lo') (nj (min (hiV L (fun i => tv (mb i)) d c j) (tv (mb j) + d))) (nj (nuV L c j + 1)) (nj (j + 1)) m := by
        intro lo'
        unfold R_changes_66 R_changes_81
        rw [nj_add, vb_e]
        by_cases y : hiV L (fun i => tv (mb i)) d c j ≤ tv (mb j) + d
        · rw [if_pos (by rw [nj_le (by omega) (by omega)]; exact y), Nat.min_eq_left y]
          exact R_changes_84_e h (by omega) (by omega) j 0 FU (by omega) (by unfold FU; omega) rfl
        · rw [if_neg (by rw [nj_le (by omega) (by omega)]; exact y), Nat.min_eq_right (by omega)]
          exact R_changes_84_e h (by omega) (by omega) j 0 FU (by omega) (by unfold FU; omega) rfl
      have r0 : (if nj (tv (mb j)) - nj d ≤ nj (loV L (fun i => tv (mb i)) d c j) then R_changes_66 (fun z0 z1 z2 z3 z4 z5 z6 z7 => R_changes_14 fu z0 z1 z2 z3 z4 z5 z6 z7) (nj c) (nj s) (nj d) (nj (loV L (fun i => tv (mb i)) d c j)) (nj (hiV L (fun i => tv (mb i)) d c j)) (nj (nuV L c j + 1)) (nj j) (nj (tv (mb j))) m else R_changes_66 (fun z0 z1 z2 z3 z4 z5 z6 z7 => R_changes_14 fu z0 z1 z2 z3 z4 z5 z6 z7) (nj c) (nj s) (nj d) (nj (tv (mb j)) - nj d) (nj (hiV L (fun i => tv (mb i)) d c j)) (nj (nuV L c j + 1)) (nj j) (nj (tv (mb j))) m) = R_changes_66 (fun z0 z1 z2 z3 z4 z5 z6 z7 => R_changes_14 fu z0 z1 z2 z3 z4 z5 z6 z7) (nj c) (nj s) (nj d) (nj (max (loV L (fun i => tv (mb i)) d c j) (tv (mb j) - d))) (nj (hiV L (fun i => tv (mb i)) d c j)) (nj (nuV L c j + 1)) (nj j) (nj (tv (mb j))) m := by
        have hj1 := jmax_sub (a := loV L (fun i => tv (mb i)) d c j) (v := tv (mb j)) (d := d) (by omega) (by omega) hd
        rw [← hj1]
        unfold jmax
        by_cases y : nj (tv (mb j)) - nj d ≤ nj (loV L (fun i => tv (mb i)) d c j)
        · rw [if_pos y, if_neg (Int32.not_lt.mpr y)]
        · rw [if_neg y, if_pos (Int32.not_le.mp y)]
      rw [r0, r66]
      by_cases y : anT L (fun a b => ap (mb a) (mb b)) c j j = true
      · rw [if_pos y]
        have t1 : ∀ n, j + 1 ≤ n → tnV L (fun a b => ap (mb a) (mb b)) c n = true := by
          intro n hn
          induction n with
          | zero => omega
          | succ n ih =>
            show (tnV L _ c n || (decide (L.getD n 0 = c) && anT L _ c n n)) = true
            by_cases w : n = j
            · rw [w, y, decide_eq_true z, Bool.and_true, Bool.or_true]
            · rw [ih (by omega), Bool.true_or]
        rw [if_pos (t1 s (by omega))]
      · rw [if_neg y]
        exact ih (by rw [e4, Bool.not_eq_true] at *; rw [y, Bool.and_false])
    · rw [if_neg z]
      unfold R_changes_136
      rw [vb_e, nj_add_l]
      rw [e1, e2, e3, if_neg z, if_neg z, if_neg z] at ih
      exact ih (by rw [e4, decide_eq_false z, Bool.false_and])
theorem R_changes_217_e (h : RR m s L mb tv ap) {c x : Nat} (hc : c < 8) (hx : x < 20000) {k165 : Int32 → Int32 → Int32 → Int32 → Int32 → Int32 → Int32 → Mem → Option (Int32 × Mem)} {x4 x5 x6 x7 x8 : Int32} : ∀ (k j fu : Nat), j + k = s → k < fu →
    R_changes_217 k165 fu (nj c) (nj s) x4 x5 x6 x7 x8 (nj x) (nj (cnV L (fun i => tv (mb i)) c x j)) (nj j) m = R_changes_260 k165 (nj c) (nj s) x4 x5 x6 x7 x8 (nj x) (nj (cnV L (fun i => tv (mb i)) c x s)) m
  | 0, j, fu + 1, h1, _ => by
    rw [R_changes_217.eq_2, if_pos (by rw [nj_le (by have := h.1; omega) (by have := h.1; omega)]; omega), show j = s by omega]
  | k + 1, j, fu + 1, h1, h2 => by
    have hs := h.1
    have hj := h.2.1 j (by omega)
    have ht := h.2.2 (mb j) hj.1
    have hl := cnV_le (L := L) (v := fun i => tv (mb i)) (c := c) (x := x) j
    have g : ∀ {β : Type} (z : Option β), gd (inb (nj j) 7) z = z := fun z => by rw [inb_nj (by omega), gd_t (decide_eq_true (by omega))]
    have g2 : ∀ {β : Type} (z : Option β), gd (inb (nj (mb j)) 16) z = z := fun z => by rw [inb_nj (by omega), gd_t (decide_eq_true (by omega))]
    have ih := R_changes_217_e h hc hx (k165 := k165) (x4 := x4) (x5 := x5) (x6 := x6) (x7 := x7) (x8 := x8) k (j + 1) fu (by omega) (by omega)
    have es : cnV L (fun i => tv (mb i)) c x (j + 1) = if L.getD j 0 = c ∧ tv (mb j) = x then cnV L (fun i => tv (mb i)) c x j + 1 else cnV L (fun i => tv (mb i)) c x j := rfl
    rw [es] at ih
    rw [R_changes_217.eq_2, if_neg (by rw [nj_le (by omega) (by omega)]; omega)]
    unfold R_changes_254
    simp only [g, ix_nj (show j < 2147483648 by omega), hj.2.2.2, hj.2.1, g2, vb_e, ix_nj (show mb j < 2147483648 by omega), ht.2.1, nj_add_l]
    have ez : (nj (L.getD j 0) = nj c) = (L.getD j 0 = c) := nj_inj (by omega) (by omega)
    have ey : (nj (tv (mb j)) = nj x) = (tv (mb j) = x) := nj_inj (by omega) (by omega)
    simp only [ez, ey]
    by_cases z : L.getD j 0 = c
    · rw [if_pos z]
      by_cases z2 : tv (mb j) = x
      · rw [if_pos z2]
        rw [if_pos ⟨z, z2⟩] at ih
        exact ih
      · rw [if_neg z2]
        rw [if_neg (fun y => z2 y.2)] at ih
        exact ih
    · rw [if_neg z]
      rw [if_neg (fun y => z y.1)] at ih
      exact ih
theorem R_changes_165_e {c lo hi nu : Nat} (hc : c < 7) (hlo : lo < 1000) (hhi : hi < 10000) (htv : ∀ i, tv (mb i) < 1000) (hnu : nu = nuV L c s) : ∀ (k j fu : Nat) (m : Mem), RR m s L mb tv ap → 82 ≤ mC m → j + k = s → k < fu →
    aI m 79 c = nj (bsV L (fun i => tv (mb i)) c s lo hi (0, lo) j).2 →
    ∃ m', R_changes_165 fu (nj c) (nj s) (nj lo) (nj hi) (nj nu) (nj (bsV L (fun i => tv (mb i)) c s lo hi (0, lo) j).1) (nj j) m = some (nj (nu - (bsV L (fun i => tv (mb i)) c s lo hi (0, lo) s).1), m') ∧ RG m m' ∧
      ∀ i, aI m' 79 i = if i = c then nj (bsV L (fun i => tv (mb i)) c s lo hi (0, lo) s).2 else aI m 79 i
  | 0, j, fu + 1, m, h, h60, h1, _, h3 => by
    have hs := h.1
    have hb := bsV_b (L := L) (v := fun i => tv (mb i)) (c := c) (s := s) (lo := lo) (hi := hi) (st := (0, lo)) (Nat.zero_le _) rfl htv hlo s
    have e : j = s := by omega
    refine ⟨m, ?_, RG.rfl, fun i => ?_⟩
    · rw [R_changes_165.eq_2, if_pos (by rw [nj_le (by omega) (by omega)]; omega), R_changes_306, e, nj_sub (by rw [hnu]; exact hb.1)]
    · rw [e] at h3
      split
      · next z => rw [z, h3]
      · rfl
  | k + 1, j, fu + 1, m, h, h60, h1, h2, h3 => by
    have hs := h.1
    have hj := h.2.1 j (by omega)
    have ht := h.2.2 (mb j) hj.1
    have hnl := nuV_le (L := L) (c := c) s
    have hb := bsV_b (L := L) (v := fun i => tv (mb i)) (c := c) (s := s) (lo := lo) (hi := hi) (st := (0, lo)) (Nat.zero_le _) rfl htv hlo j
    have g : ∀ {β : Type} (z : Option β), gd (inb (nj j) 7) z = z := fun z => by rw [inb_nj (by omega), gd_t (decide_eq_true (by omega))]
    have gc : ∀ {β : Type} (z : Option β), gd (inb (nj c) 7) z = z := fun z => by rw [inb_nj (by omega), gd_t (decide_eq_true (by omega))]
    have g2 : ∀ {β : Type} (z : Option β), gd (inb (nj (mb j)) 16) z = z := fun z => by rw [inb_nj (by omega), gd_t (decide_eq_true (by omega))]
    have ih := R_changes_165_e hc hlo hhi htv hnu k (j + 1) fu
    rw [bsV_s] at ih
    rw [R_changes_165.eq_2, if_neg (by rw [nj_le (by omega) (by omega)]; omega)]
    unfold R_changes_300
    simp only [g, ix_nj (show j < 2147483648 by omega), hj.2.2.2, hj.2.1, g2, vb_e, ix_nj (show mb j < 2147483648 by omega), ht.2.1, nj_add_l]
    have ez : (nj (L.getD j 0) = nj c) = (L.getD j 0 = c) := nj_inj (by omega) (by omega)
    simp only [ez]
    by_cases z : L.getD j 0 = c
    · rw [if_pos z, R_in_e, bp_s]
      have ew : (nj lo ≤ nj (tv (mb j)) ∧ nj (tv (mb j)) ≤ nj hi) = (lo ≤ tv (mb j) ∧ tv (mb j) ≤ hi) := by rw [nj_le (by omega) (by omega), nj_le (by omega) (by omega)]
      by_cases y : lo ≤ tv (mb j) ∧ tv (mb j) ≤ hi
      · have h217 := R_changes_217_e h (c := c) (x := tv (mb j)) (by omega) (by omega) (k165 := fun z0 z1 z2 z3 z4 z5 z6 z7 => R_changes_165 fu z0 z1 z2 z3 z4 z5 z6 z7) (x4 := nj lo) (x5 := nj hi) (x6 := nj nu) (x7 := nj (bsV L (fun i => tv (mb i)) c s lo hi (0, lo) j).1) (x8 := nj j) s 0 FU (by omega) (by unfold FU; omega)
        have h217' : R_changes_217 (fun z0 z1 z2 z3 z4 z5 z6 z7 => R_changes_165 fu z0 z1 z2 z3 z4 z5 z6 z7) FU (nj c) (nj s) (nj lo) (nj hi) (nj nu) (nj (bsV L (fun i => tv (mb i)) c s lo hi (0, lo) j).1) (nj j) (nj (tv (mb j))) 0 0 m = _ := h217
        rw [decide_eq_true (ew.mpr y), tI_t, if_neg (show ¬ (1 : Int32) = 0 by decide), h217']
        unfold R_changes_260 R_changes_288 R_changes_300
        simp only [gc, ix_nj (show c < 2147483648 by omega), vb_e, nj_add_l]
        have hcl := cnV_le (L := L) (v := fun i => tv (mb i)) (c := c) (x := tv (mb j)) s
        rw [if_pos (⟨z, y.1, y.2⟩ : L.getD j 0 = c ∧ lo ≤ (fun i => tv (mb i)) j ∧ (fun i => tv (mb i)) j ≤ hi)] at ih
        simp only [nj_lt (show cnV L (fun i => tv (mb i)) c (tv (mb j)) s < 2147483648 by omega) (show (bsV L (fun i => tv (mb i)) c s lo hi (0, lo) j).1 < 2147483648 by omega), nj_inj (show cnV L (fun i => tv (mb i)) c (tv (mb j)) s < 2147483648 by omega) (show (bsV L (fun i => tv (mb i)) c s lo hi (0, lo) j).1 < 2147483648 by omega), h3, nj_lt (show tv (mb j) < 2147483648 by omega) (show (bsV L (fun i => tv (mb i)) c s lo hi (0, lo) j).2 < 2147483648 by omega)]
        have up : btr (cnV L (fun i => tv (mb i)) c (tv (mb j)) s, tv (mb j)) (bsV L (fun i => tv (mb i)) c s lo hi (0, lo) j) = true → ∃ m', R_changes_165 fu (nj c) (nj s) (nj lo) (nj hi) (nj nu) (nj (cnV L (fun i => tv (mb i)) c (tv (mb j)) s)) (nj (j + 1)) (wI m 79 c (nj (tv (mb j)))) = some (nj (nu - (bsV L (fun i => tv (mb i)) c s lo hi (0, lo) s).1), m') ∧ RG m m' ∧ ∀ i, aI m' 79 i = if i = c then nj (bsV L (fun i => tv (mb i)) c s lo hi (0, lo) s).2 else aI m 79 i := by
          intro w
          have pg : RG m (wI m 79 c (nj (tv (mb j)))) := ⟨Ch.rfl.wI (Or.inl (by decide)), by simp only [k_aI_wI_e, k_aI_wI, k_aI_wL, k_aI_wR, k_aI_sI, k_aI_sL, k_aI_sR, k_aI_nw, k_aL_wL_e, k_aL_wL, k_aL_wI, k_aL_wR, k_aL_sI, k_aL_sL, k_aL_sR, k_aL_nw, k_aR_wR_e, k_aR_wR, k_aR_wI, k_aR_wL, k_aR_sI, k_aR_sL, k_aR_sR, k_aR_nw, k_mI_sI_e, k_mI_sI, k_mI_wI, k_mI_wL, k_mI_wR, k_mI_sL, k_mI_sR, k_mI_nw, k_mL_sL_e, k_mL_sL, k_mL_wI, k_mL_wL, k_mL_wR, k_mL_sI, k_mL_sR, k_mL_nw, k_mR_sR_e, k_mR_sR, k_mR_wI, k_mR_wL, k_mR_wR, k_mR_sI, k_mR_sL, k_mR_nw, k_mT_wI, k_mT_wL, k_mT_wR, k_mT_sI, k_mT_sL, k_mT_sR, k_mT_nw, k_mN_wI, k_mN_wL, k_mN_wR, k_mN_sI, k_mN_sL, k_mN_sR, k_mN_nw, k_mC_wI, k_mC_wL, k_mC_wR, k_mC_sI, k_mC_sL, k_mC_sR, k_mC_nw, k_mS_wI, k_mS_wL, k_mS_wR, k_mS_sI, k_mS_sL, k_mS_sR, k_mS_nw, k_zF_1, k_zF_3, k_zF_11, k_zF_32, k_zF_36, k_zA_1, k_zA_3, k_zA_11, k_zA_32, k_zA_36, k_mT_fil, k_mN_fil, k_mI_fil, k_mL_fil, k_mR_fil, k_aL_fil, k_aR_fil, k_mC_fil, k_mS_fil, k_aI_fil_e, k_aI_fil], by simp only [k_aI_wI_e, k_aI_wI, k_aI_wL, k_aI_wR, k_aI_sI, k_aI_sL, k_aI_sR, k_aI_nw, k_aL_wL_e, k_aL_wL, k_aL_wI, k_aL_wR, k_aL_sI, k_aL_sL, k_aL_sR, k_aL_nw, k_aR_wR_e, k_aR_wR, k_aR_wI, k_aR_wL, k_aR_sI, k_aR_sL, k_aR_sR, k_aR_nw, k_mI_sI_e, k_mI_sI, k_mI_wI, k_mI_wL, k_mI_wR, k_mI_sL, k_mI_sR, k_mI_nw, k_mL_sL_e, k_mL_sL, k_mL_wI, k_mL_wL, k_mL_wR, k_mL_sI, k_mL_sR, k_mL_nw, k_mR_sR_e, k_mR_sR, k_mR_wI, k_mR_wL, k_mR_wR, k_mR_sI, k_mR_sL, k_mR_nw, k_mT_wI, k_mT_wL, k_mT_wR, k_mT_sI, k_mT_sL, k_mT_sR, k_mT_nw, k_mN_wI, k_mN_wL, k_mN_wR, k_mN_sI, k_mN_sL, k_mN_sR, k_mN_nw, k_mC_wI, k_mC_wL, k_mC_wR, k_mC_sI, k_mC_sL, k_mC_sR, k_mC_nw, k_mS_wI, k_mS_wL, k_mS_wR, k_mS_sI, k_mS_sL, k_mS_sR, k_mS_nw, k_zF_1, k_zF_3, k_zF_11, k_zF_32, k_zF_36, k_zA_1, k_zA_3, k_zA_11, k_zA_32, k_zA_36, k_mT_fil, k_mN_fil, k_mI_fil, k_mL_fil, k_mR_fil, k_aL_fil, k_aR_fil, k_mC_fil, k_mS_fil, k_aI_fil_e, k_aI_fil]⟩
          rw [upV, if_pos w] at ih
          obtain ⟨m', i1, i2, i3⟩ := ih _ (RR_rg h h60 pg) (by rw [pg.2.1]; exact h60) (by omega) (by omega) (by rw [k_aI_wI_e, up1_ap, if_pos rfl])
          refine ⟨m', i1, pg.trans i2, fun i => ?_⟩
          rw [i3]
          by_cases x : i = c
          · rw [if_pos x, if_pos x]
          · rw [if_neg x, if_neg x, k_aI_wI_e, up1_ap, if_neg x]
        have no : ¬ btr (cnV L (fun i => tv (mb i)) c (tv (mb j)) s, tv (mb j)) (bsV L (fun i => tv (mb i)) c s lo hi (0, lo) j) = true → ∃ m', R_changes_165 fu (nj c) (nj s) (nj lo) (nj hi) (nj nu) (nj (bsV L (fun i => tv (mb i)) c s lo hi (0, lo) j).1) (nj (j + 1)) m = some (nj (nu - (bsV L (fun i => tv (mb i)) c s lo hi (0, lo) s).1), m') ∧ RG m m' ∧ ∀ i, aI m' 79 i = if i = c then nj (bsV L (fun i => tv (mb i)) c s lo hi (0, lo) s).2 else aI m 79 i := by
          intro w
          rw [upV, if_neg w] at ih
          exact ih m h h60 (by omega) (by omega) h3
        rw [btr_iff] at up no
        by_cases u1 : cnV L (fun i => tv (mb i)) c (tv (mb j)) s < (bsV L (fun i => tv (mb i)) c s lo hi (0, lo) j).1
        · rw [if_pos u1]
          exact no (by rintro (w | w); exact Nat.lt_asymm w u1; exact absurd w.1 (Nat.ne_of_lt u1))
        · rw [if_neg u1]
          by_cases u2 : cnV L (fun i => tv (mb i)) c (tv (mb j)) s = (bsV L (fun i => tv (mb i)) c s lo hi (0, lo) j).1
          · rw [if_pos u2]
            by_cases u3 : tv (mb j) < (bsV L (fun i => tv (mb i)) c s lo hi (0, lo) j).2
            · rw [if_pos u3]
              exact up (Or.inr ⟨u2, u3⟩)
            · rw [if_neg u3]
              exact no (by rintro (w | w); exact absurd u2 (Nat.ne_of_gt w); exact u3 w.2)
          · rw [if_neg u2]
            exact up (Or.inl (Nat.lt_of_le_of_ne (Nat.not_lt.mp u1) (fun w => u2 w.symm)))
      · rw [decide_eq_false (fun w => y (ew.mp w)), tI_f, if_pos (show (0 : Int32) = 0 from rfl)]
        rw [if_neg (fun w => y ⟨w.2.1, w.2.2⟩ : ¬ (L.getD j 0 = c ∧ lo ≤ (fun i => tv (mb i)) j ∧ (fun i => tv (mb i)) j ≤ hi))] at ih
        exact ih m h h60 (by omega) (by omega) h3
    · rw [if_neg z]
      rw [if_neg (fun w => z w.1 : ¬ (L.getD j 0 = c ∧ lo ≤ (fun i => tv (mb i)) j ∧ (fun i => tv (mb i)) j ≤ hi))] at ih
      exact ih m h h60 (by omega) (by omega) h3
end Rc
