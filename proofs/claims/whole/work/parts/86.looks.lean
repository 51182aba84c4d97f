/-! Layer C: the reference looks at a DAY -/
def jkO (o c : Option Nat) : Int32 := match o with
  | some k => jk k c
  | none => -1
/-- a HALF, worth aside -/
def RfH (D : Dt) (X : Dy) (sup : Sup) (r : Mem) (h : Nat) : Prop := aI r 60 h = tsH D X h ∧ aI r 61 h = nj (wkH D X h) ∧ aI r 62 h = boH D X h ∧ aI r 63 h = jkO (awH D X h) (clH D X sup (awH D X) h) ∧ aI r 64 h = jo (agH D X h) ∧ aI r 65 h = jkO (agH D X h) (clH D X sup (agH D X) h)
def RkH (D : Dt) (X : Dy) (sup : Sup) (r : Mem) (h : Nat) : Prop := RfH D X sup r h ∧ aI r 66 h = wA D X sup h ∧ aI r 67 h = wG D X sup h
/-- a DAY that the reference has looked at -/
def LC1 (D : Dt) (X : Dy) (who : Nat) (sup : Sup) (r : Mem) : Prop := who < 10 ∧ xa X = nj who ∧ xd X < 140 ∧ xf X < 8 ∧ xn X ≤ D.2.2 ∧ mI r 1627 0 = nj (xd X) ∧ mI r 1628 0 = nj who ∧ mI r 1629 0 = nj (xn X) ∧ (aI r 39 who = nj (xf X) ∧ nj who < mI r 1595 0) ∧ aI r 40 who = xt X ∧ aI r 41 who = xy X ∧ mI r 1638 0 = nj (waH D X) ∧ mI r 1639 0 = weH D X ∧ ∀ h, h < 48 → RkH D X sup r h
def LC (D : Dt) (sup : Sup) (r : Mem) : Prop := mI r 1627 0 = -1 ∨ ∃ X who, LC1 D X who sup r
/-- the reference between questions -/
def RB (D : Dt) (sup : Sup) (r : Mem) : Prop := dat r = D ∧ 82 ≤ mC r ∧ mI r 1554 0 = nj D.2.1 ∧ BCache D r ∧ SuR D sup r
def loF : List Nat := [1610, 1611, 1612, 1613, 1614, 1625, 1627, 1628, 1629, 1638, 1639, 1642, 1643]
def loA : List Nat := [50, 51, 52, 53, 54, 55, 56, 57, 58, 59, 60, 61, 62, 63, 64, 65, 66, 67, 68, 69, 70, 71]
section Lr
variable {r : Mem} {D : Dt} {nc : Nat} {X : Dy} {sup : Sup} {who : Nat}
theorem RfH.eq {r' : Mem} {g : Nat} (H : RfH D X sup r g) (e : ∀ x, 60 ≤ x → x ≤ 65 → aI r' x g = aI r x g) : RfH D X sup r' g := by
  unfold RfH
  rw [e 60 (by omega) (by omega), e 61 (by omega) (by omega), e 62 (by omega) (by omega), e 63 (by omega) (by omega), e 64 (by omega) (by omega), e 65 (by omega) (by omega)]
  exact H
theorem R_worthN_e {x1 x2 x3 : Int32} : R_worthBy x1 x2 x3 (-1) r = some (0, sI (sI r 1643 0 0) 1642 0 0) := by
  unfold R_worthBy
  rw [vb_e, vb_e, if_pos rfl]
/-- the worth of a HALF by what g gives it -/
theorem R_worthO_e (W : WText D nc) (Wi : WItems D nc) (hn60 : nc ≤ 60) (hd : xd X < 140) (hf8 : xf X < 8) (hn : xn X ≤ D.2.2) {g : Nat → Option Nat} (hG : GW D X g) {h k : Nat} (hwho : who < 10) (hg : g h = some k) (hh : h < 48) (HX : RX D X who r) (HS : SuR D sup r) (h60 : aI r 60 h = tsH D X h) (h61 : aI r 61 h = nj (wkH D X h)) :
    ∃ r', R_worthBy (nj who) (nj h) (nj k) (jkO (g h) (clH D X sup g h)) r = some (wOp D X sup (g h) (clH D X sup g h) h, r') ∧ RX D X who r' ∧ SuR D sup r' ∧ Ch [1610, 1611, 1625, 1642, 1643] [50, 51, 59, 70, 71] nil r r' ∧ mC r' = mC r ∧ ∀ j, clH D X sup g h = some j → mI r' 1642 0 = rtS D X sup k j ∧ CtR D (wgS D X sup k j h) r' := by
  have C2 := HX.2.1
  rw [hg]
  cases c : clH D X sup g h with
  | none =>
    have c0 : Ch [1610, 1611, 1625, 1642, 1643] [50, 51, 59, 70, 71] nil r (sI (sI r 1643 0 0) 1642 0 0) := (Ch.rfl.sI (by decide)).sI (by decide)
    have hC0 : mC (sI (sI r 1643 0 0) 1642 0 0) = mC r := by rw [k_mC_sI, k_mC_sI]
    exact ⟨_, R_worthN_e, HX.Ch c0 hC0 (by decide) (by decide), HS.Ch C2 c0 (by decide), c0, hC0, fun j e => by cases e⟩
  | some j =>
    obtain ⟨z, hz, hz2⟩ := cl_some hg c
    obtain ⟨r', a1, a2, a3, a4, a5, a6, a7⟩ := R_worthBy_e W Wi hn60 hd hf8 hn hwho (hG h k hg).1 hz hz2 hh HX HS h60 h61
    refine ⟨r', a1, a4, a5, a6, a7, fun j' e => ?_⟩
    cases e
    exact ⟨a2, a3⟩
theorem R_looks_355_e (W : WText D nc) (Wi : WItems D nc) (hn60 : nc ≤ 60) (hd : xd X < 140) (hf8 : xf X < 8) (hn : xn X ≤ D.2.2) (hwho : who < 10) : ∀ (e h fu : Nat) (r : Mem), h + e = 48 → e < fu → RX D X who r → SuR D sup r → (∀ g, g < 48 → RfH D X sup r g) → (∀ g, g < h → aI r 66 g = wA D X sup g ∧ aI r 67 g = wG D X sup g) → (∀ g, h ≤ g → g < 48 → aI r 66 g = 0 ∧ aI r 67 g = 0) →
    ∃ r', R_looks_355 fu (nj who) (nj h) r = some ((), r') ∧ RX D X who r' ∧ SuR D sup r' ∧ (∀ g, g < 48 → RkH D X sup r' g) ∧ Ch [1610, 1611, 1625, 1642, 1643] [50, 51, 59, 66, 67, 70, 71] nil r r' ∧ mC r' = mC r
  | 0, h, fu + 1, r, he, _, HX, HS, H, H1, H2 => by
    refine ⟨r, ?_, HX, HS, fun g hg => ⟨H g hg, H1 g (by omega)⟩, Ch.rfl, rfl⟩
    rw [R_looks_355.eq_2, if_pos (by rw [show (48 : Int32) = nj 48 from rfl, nj_le (by omega) (by omega)]; omega)]
  | e + 1, h, fu + 1, r, he, hf, HX, HS, H, H1, H2 => by
    have h24 := W.1
    have C2 := HX.2.1
    have gh : ∀ {β : Type} (c : Option β), gd (inb (nj h) 48) c = c := fun c => by rw [inb_nj (by omega), gd_t (decide_eq_true (by omega))]
    have ih : ix (nj h) = h := ix_nj (by omega)
    obtain ⟨f1, f2, f3, f4, f5, f6⟩ := H h (by omega)
    rw [R_looks_355.eq_2, if_neg (by rw [show (48 : Int32) = nj 48 from rfl, nj_le (by omega) (by omega)]; omega)]
    unfold R_looks_442
    simp only [gh, ih, vb_e, nj_add_l]
    rw [f3]
    cases c : awH D X h with
    | none =>
      have hneg : ¬ 0 ≤ boH D X h := by rcases aw_no c with z | z <;> rw [z] <;> decide
      rw [if_neg hneg]
      obtain ⟨y1, -, -⟩ := py_none (sup := sup) c
      have ea : wA D X sup h = 0 := by unfold wA; rw [c]; exact wOp_none
      have eg : wG D X sup h = 0 := by unfold wG; rw [y1]; exact wOp_none
      exact R_looks_355_e W Wi hn60 hd hf8 hn hwho e (h + 1) fu r (by omega) (by omega) HX HS H (fun g hg => by
        by_cases q : g = h
        · rw [q, ea, eg]; exact H2 h (by omega) (by omega)
        · exact H1 g (by omega)) (fun g h1 h2 => H2 g (by omega) h2)
    | some k =>
      obtain ⟨eb, hk, -⟩ := aw_some c
      rw [eb, if_pos (nj_0le (by omega)), f4]
      obtain ⟨r1, a1, a2, a3, a4, a5, -⟩ := R_worthO_e (sup := sup) W Wi hn60 hd hf8 hn GW_aw hwho c (show h < 48 by omega) HX HS f1 f2
      have a1' : R_worthBy (nj who) (nj h) (nj k) (jkO (awH D X h) (clH D X sup (awH D X) h)) r = some (wA D X sup h, r1) := a1
      rw [a1', bn_s]
      have r1x : ∀ x, 60 ≤ x → x ≤ 69 → aI r1 x = aI r x := fun x q1 q2 => a4.ai (by simp; omega) nil_no (by omega)
      have c2 : Ch [1610, 1611, 1625, 1642, 1643] [50, 51, 59, 66, 67, 70, 71] nil r (wI r1 66 h (wA D X sup h)) := (a4.mono (fun _ h => h) (by simp) (fun _ h => h)).wI (Or.inl (by decide))
      have hC2 : mC (wI r1 66 h (wA D X sup h)) = mC r := by rw [k_mC_wI]; exact a5
      have X2 := HX.Ch c2 hC2 (by decide) (by decide)
      have S2 := HS.Ch C2 c2 (by decide)
      have Hf2 : ∀ g, g < 48 → RfH D X sup (wI r1 66 h (wA D X sup h)) g := fun g hg => (H g hg).eq (fun x q1 q2 => by rw [k_aI_wI (by omega), r1x x q1 (by omega)])
      rw [(Hf2 h (by omega)).2.2.2.2.1]
      cases cg : agH D X h with
      | none =>
        rw [if_pos (by rfl)]
        have eg : wG D X sup h = 0 := by unfold wG; rw [cg]; exact wOp_none
        obtain ⟨r', b1, b2, b3, b4, b5, b6⟩ := R_looks_355_e W Wi hn60 hd hf8 hn hwho e (h + 1) fu (wI r1 66 h (wA D X sup h)) (by omega) (by omega) X2 S2 Hf2 (fun g hg => by
          rw [k_aI_wI_e, up1_ap, k_aI_wI (by omega), r1x 66 (by omega) (by omega), r1x 67 (by omega) (by omega)]
          by_cases q : g = h
          · rw [if_pos q, q, eg]; exact ⟨rfl, (H2 h (by omega) (by omega)).2⟩
          · rw [if_neg q]; exact H1 g (by omega)) (fun g h1 h2 => by
          rw [k_aI_wI_e, up1_ne (by omega), k_aI_wI (by omega), r1x 66 (by omega) (by omega), r1x 67 (by omega) (by omega)]
          exact H2 g (by omega) h2)
        exact ⟨r', b1, b2, b3, b4, c2.trans b5, by omega⟩
      | some l =>
        obtain ⟨-, -, hl, -⟩ := ag_some cg
        rw [if_neg (jo_some (by omega)), show jo (some l) = nj l from rfl, (Hf2 h (by omega)).2.2.2.2.2]
        obtain ⟨r3, d1, d2, d3, d4, d5, -⟩ := R_worthO_e (sup := sup) W Wi hn60 hd hf8 hn GW_ag hwho cg (show h < 48 by omega) X2 S2 (Hf2 h (by omega)).1 (Hf2 h (by omega)).2.1
        have d1' : R_worthBy (nj who) (nj h) (nj l) (jkO (agH D X h) (clH D X sup (agH D X) h)) (wI r1 66 h (wA D X sup h)) = some (wG D X sup h, r3) := d1
        rw [d1', bn_s]
        have r3x : ∀ x, 60 ≤ x → x ≤ 69 → aI r3 x = aI (wI r1 66 h (wA D X sup h)) x := fun x q1 q2 => d4.ai (by simp; omega) nil_no (by omega)
        have c4 : Ch [1610, 1611, 1625, 1642, 1643] [50, 51, 59, 66, 67, 70, 71] nil r (wI r3 67 h (wG D X sup h)) := (c2.trans (d4.mono (fun _ h => h) (by simp) (fun _ h => h))).wI (Or.inl (by decide))
        have hC4 : mC (wI r3 67 h (wG D X sup h)) = mC r := by rw [k_mC_wI]; omega
        obtain ⟨r', b1, b2, b3, b4, b5, b6⟩ := R_looks_355_e W Wi hn60 hd hf8 hn hwho e (h + 1) fu (wI r3 67 h (wG D X sup h)) (by omega) (by omega) (HX.Ch c4 hC4 (by decide) (by decide)) (HS.Ch C2 c4 (by decide)) (fun g hg => (Hf2 g hg).eq (fun x q1 q2 => by rw [k_aI_wI (by omega), r3x x q1 (by omega)])) (fun g hg => by
          rw [k_aI_wI (by omega), r3x 66 (by omega) (by omega), k_aI_wI_e, up1_ap, k_aI_wI_e, up1_ap, r3x 67 (by omega) (by omega), k_aI_wI (by omega), r1x 66 (by omega) (by omega), r1x 67 (by omega) (by omega)]
          by_cases q : g = h
          · rw [if_pos q, if_pos q, q]; exact ⟨rfl, rfl⟩
          · rw [if_neg q, if_neg q]; exact H1 g (by omega)) (fun g h1 h2 => by
          rw [k_aI_wI (by omega), r3x 66 (by omega) (by omega), k_aI_wI_e, up1_ne (by omega), k_aI_wI_e, up1_ne (by omega), r3x 67 (by omega) (by omega), k_aI_wI (by omega), r1x 66 (by omega) (by omega), r1x 67 (by omega) (by omega)]
          exact H2 g (by omega) h2)
        exact ⟨r', b1, b2, b3, b4, c4.trans b5, by omega⟩
/-- as far as the first l TEXTS have their classes -/
noncomputable def jkL (D : Dt) (X : Dy) (sup : Sup) (g : Nat → Option Nat) (l h : Nat) : Int32 := match g h with
  | some k => if k < l then jk k (clH D X sup g h) else -1
  | none => -1
theorem jkL_all {g : Nat → Option Nat} (hG : GW D X g) {h : Nat} : jkL D X sup g D.2.1 h = jkO (g h) (clH D X sup g h) := by
  unfold jkL jkO
  cases c : g h with
  | none => rfl
  | some k =>
    show (if k < D.2.1 then _ else _) = _
    rw [if_pos (hG h k c).1]
theorem jkL_step {g : Nat → Option Nat} {l h : Nat} : jkL D X sup g (l + 1) h = if g h = some l then jk l (clH D X sup g h) else jkL D X sup g l h := by
  unfold jkL
  cases c : g h with
  | none => rw [if_neg (by simp)]
  | some k =>
    show (if k < l + 1 then _ else _) = if some k = some l then _ else if k < l then _ else _
    by_cases q : k = l
    · rw [if_pos (by omega), if_pos (by rw [q]), q]
    · rw [if_neg (fun z => q (Option.some.inj z))]
      by_cases q2 : k < l
      · rw [if_pos (by omega), if_pos q2]
      · rw [if_neg (by omega), if_neg q2]
theorem R_looks_278_e (W : WText D nc) (Wi : WItems D nc) (hn60 : nc ≤ 60) (hd : xd X < 140) (hf8 : xf X < 8) (hn : xn X ≤ D.2.2) (hwho : who < 10) : ∀ (e l fu : Nat) (r : Mem), l + e = D.2.1 → e < fu → RX D X who r → SuR D sup r → (∀ h, h < 48 → aI r 60 h = tsH D X h ∧ aI r 62 h = boH D X h ∧ aI r 64 h = jo (agH D X h)) → (∀ h, h < 48 → aI r 63 h = jkL D X sup (awH D X) l h ∧ aI r 65 h = jkL D X sup (agH D X) l h) →
    ∃ r', R_looks_278 fu (nj who) (nj l) r = R_looks_352 (nj who) r' ∧ RX D X who r' ∧ SuR D sup r' ∧ (∀ h, h < 48 → aI r' 63 h = jkO (awH D X h) (clH D X sup (awH D X) h) ∧ aI r' 65 h = jkO (agH D X h) (clH D X sup (agH D X) h)) ∧ Ch wkF [50, 51, 59, 63, 65, 69] nil r r' ∧ mC r' = mC r
  | 0, l, fu + 1, r, he, _, HX, HS, H, H1 => by
    have h24 := W.1
    refine ⟨r, ?_, HX, HS, fun h hh => ?_, Ch.rfl, rfl⟩
    · rw [R_looks_278.eq_2, HX.2.2.1, if_pos (by rw [nj_le (by omega) (by omega)]; omega)]
    · have := H1 h hh
      rw [show l = D.2.1 by omega, jkL_all GW_aw, jkL_all GW_ag] at this
      exact this
  | e + 1, l, fu + 1, r, he, hf, HX, HS, H, H1 => by
    have h24 := W.1
    have C2 := HX.2.1
    have hl : l < D.2.1 := by omega
    have i52 : aI r 52 l = tI (inH D X l) := HX.2.2.2.1.1 l hl
    have skip : (∀ h, awH D X h ≠ some l) → (∀ h, agH D X h ≠ some l) → ∃ r', R_looks_278 fu (nj who) (nj (l + 1)) r = R_looks_352 (nj who) r' ∧ RX D X who r' ∧ SuR D sup r' ∧ (∀ h, h < 48 → aI r' 63 h = jkO (awH D X h) (clH D X sup (awH D X) h) ∧ aI r' 65 h = jkO (agH D X h) (clH D X sup (agH D X) h)) ∧ Ch wkF [50, 51, 59, 63, 65, 69] nil r r' ∧ mC r' = mC r := fun n1 n2 =>
      R_looks_278_e W Wi hn60 hd hf8 hn hwho e (l + 1) fu r (by omega) (by omega) HX HS H (fun h hh => by
        rw [jkL_step, jkL_step, if_neg (n1 h), if_neg (n2 h)]
        exact H1 h hh)
    rw [R_looks_278.eq_2, HX.2.2.1, if_neg (by rw [nj_le (by omega) (by omega)]; omega), inb_nj (by omega), gd_t (decide_eq_true (by omega)), ix_nj (by omega), i52, inb_nj (by omega), gd_t (decide_eq_true (by omega)), gd_t (decide_eq_true (by omega)), dat_t HX.1 (x := 8) (by omega) hl]
    unfold R_looks_318 R_looks_337 R_looks_346
    simp only [vb_e, nj_add_l, inb_nj (show l < 2147483648 by omega), gd_t (decide_eq_true (show l < 25 by omega)), ix_nj (show l < 2147483648 by omega), dat_t HX.1 (x := 8) (by omega) hl, inb_nj (show who < 2147483648 by omega), gd_t (decide_eq_true hwho), ix_nj (show who < 2147483648 by omega)]
    have e41 : aI r 41 who = xy X := HX.2.2.2.2.2.2.2.1
    rw [e41]
    cases ci : inH D X l with
    | false =>
      rw [if_pos (by rfl)]
      exact skip (fun h z => by have := (GW_aw h l z).2.1; rw [ci] at this; cases this) (fun h z => by have := (GW_ag h l z).2.1; rw [ci] at this; cases this)
    | true =>
      rw [if_neg (by decide)]
      by_cases c0 : D.1 8 l = 0
      · rw [if_pos c0, if_neg (by rw [c0]; decide)]
        have n2 : ∀ h, agH D X h ≠ some l := fun h z => by
          obtain ⟨-, -, -, q, -⟩ := ag_some z
          rw [c0] at q
          exact absurd q (by decide)
        obtain ⟨r1, a1, a2, a3, a4, a5, a6⟩ := R_classes_e (sup := sup) (s := false) W Wi hn60 hd hf8 hn GW_aw hl HX HS (fun x hx => (H x hx).1) (fun x hx => by
          show aI r 62 x = nj l ↔ _
          rw [(H x hx).2.1]
          constructor
          · intro z
            cases c : awH D X x with
            | none =>
              rcases aw_no c with y | y
              · rw [y] at z
                exact absurd z.symm (by rw [nj_ne_m1 (by omega)]; exact id)
              · rw [y] at z
                have := nj_0le (k := l) (by omega)
                rw [← z] at this
                exact absurd this (by decide)
            | some b =>
              obtain ⟨eb, hb, -⟩ := aw_some c
              rw [eb] at z
              rw [(nj_inj (by omega) (by omega)).mp z]
          · intro z
            exact (aw_some z).1)
        have a1' : R_classes (nj l) 0 (xy X) r = some ((), r1) := a1
        rw [a1', bn_s]
        have ou : ∀ x, x < 48 → aI r1 63 x = if awH D X x = some l then jk l (clH D X sup (awH D X) x) else aI r 63 x := a2
        have c1 : Ch wkF [50, 51, 59, 63, 65, 69] nil r r1 := a5.mono (fun _ h => h) (by decide) (fun _ h => h)
        have rx : ∀ x, x = 60 ∨ x = 62 ∨ x = 64 ∨ x = 65 → aI r1 x = aI r x := fun x hx => a5.ai (by unfold clA ouA; simp; omega) nil_no (by omega)
        obtain ⟨r', b1, b2, b3, b4, b5, b6⟩ := R_looks_278_e W Wi hn60 hd hf8 hn hwho e (l + 1) fu r1 (by omega) (by omega) a3 a4 (fun h hh => by rw [rx 60 (by omega), rx 62 (by omega), rx 64 (by omega)]; exact H h hh) (fun h hh => by
          rw [jkL_step, jkL_step, if_neg (n2 h), ou h hh, rx 65 (by omega), (H1 h hh).1]
          exact ⟨rfl, (H1 h hh).2⟩)
        exact ⟨r', b1, b2, b3, b4, c1.trans b5, by omega⟩
      · rw [if_neg c0]
        have n1 : ∀ h, awH D X h ≠ some l := fun h z => c0 (aw_some z).2.2.1
        by_cases c3 : D.1 8 l = 3
        · rw [if_pos c3, if_pos c3]
          obtain ⟨r1, a1, a2, a3, a4, a5, a6⟩ := R_classes_e (sup := sup) (s := true) W Wi hn60 hd hf8 hn GW_ag hl HX HS (fun x hx => (H x hx).1) (fun x hx => by
            show aI r 64 x = nj l ↔ _
            rw [(H x hx).2.2]
            constructor
            · intro z
              cases c : agH D X x with
              | none =>
                rw [c] at z
                exact absurd (show nj l = -1 from z.symm) (by rw [nj_ne_m1 (by omega)]; exact id)
              | some b =>
                obtain ⟨-, -, hb, -⟩ := ag_some c
                rw [c] at z
                rw [(nj_inj (by omega) (by omega)).mp (show nj b = nj l from z)]
            · intro z
              rw [z]
              rfl)
          have a1' : R_classes (nj l) 1 (xy X) r = some ((), r1) := a1
          rw [a1', bn_s]
          have ou : ∀ x, x < 48 → aI r1 65 x = if agH D X x = some l then jk l (clH D X sup (agH D X) x) else aI r 65 x := a2
          have c1 : Ch wkF [50, 51, 59, 63, 65, 69] nil r r1 := a5.mono (fun _ h => h) (by decide) (fun _ h => h)
          have rx : ∀ x, x = 60 ∨ x = 62 ∨ x = 64 ∨ x = 63 → aI r1 x = aI r x := fun x hx => a5.ai (by unfold clA ouA; simp; omega) nil_no (by omega)
          obtain ⟨r', b1, b2, b3, b4, b5, b6⟩ := R_looks_278_e W Wi hn60 hd hf8 hn hwho e (l + 1) fu r1 (by omega) (by omega) a3 a4 (fun h hh => by rw [rx 60 (by omega), rx 62 (by omega), rx 64 (by omega)]; exact H h hh) (fun h hh => by
            rw [jkL_step, jkL_step, if_neg (n1 h), ou h hh, rx 63 (by omega), (H1 h hh).2]
            exact ⟨(H1 h hh).1, rfl⟩)
          exact ⟨r', b1, b2, b3, b4, c1.trans b5, by omega⟩
        · rw [if_neg c3]
          exact skip n1 (fun h z => by
            obtain ⟨-, -, -, q, -⟩ := ag_some z
            exact c3 q)
end Lr
