/-! Layer C: halves -/
noncomputable def scH (D : Dt) (X : Dy) (sup : Sup) (x : Int32) (g : Nat) : Bool := if x = 0 then isTk (tsH D X g) else if x = 1 then decide (tsH D X g = -2) else if x = 2 then isTk (tsH D X g) && decide (pbH D X g = -1) else if x = 3 then isTk (tsH D X g) && decide (pbH D X g = -2) else (awH D X g).isSome && ((clH D X sup (awH D X) g).isNone && decide (jmax (wA D X sup g) (wG D X sup g) = 0))
noncomputable def csH (D : Dt) (X : Dy) (sup : Sup) (x : Int32) : Nat → Nat
  | 0 => 0
  | g + 1 => csH D X sup x g + if scH D X sup x g then 1 else 0
section Ha
variable {fa ta ia sa ca : Nat → Nat} {od : List Nat} {p r : Mem} {D : Dt} {nc w : Nat} {X : Dy} {sup : Sup}
theorem csH_le {x : Int32} : ∀ g, csH D X sup x g ≤ g
  | 0 => Nat.le_refl _
  | g + 1 => by
    have := csH_le (x := x) g
    show csH D X sup x g + (if scH D X sup x g then 1 else 0) ≤ g + 1
    split <;> omega
theorem cl_60 (W : WText D nc) (Wi : WItems D nc) (hn60 : nc ≤ 60) (hd : xd X < 140) {gg : Nat → Option Nat} (hG : GW D X gg) {h j : Nat} (e : clH D X sup gg h = some j) : j < 60 := by
  cases c : gg h with
  | none => rw [cl_none c] at e; cases e
  | some k =>
    obtain ⟨z, hz, -⟩ := cl_some c e
    have hlen := (rowQ_W (X := X) W hd (hG h k c).1).len Wi hn60
    have := get_mem hz
    omega
theorem P_isSuch_e (W : WText D nc) (Wi : WItems D nc) (hn60 : nc ≤ 60) (hd : xd X < 140) {g : Nat} (hg : g < 48) (H : PkH ta D X sup p g) (x : Int32) : P_Reckoning_isSuch (nj g) x p = some (tI (scH D X sup x g), p) := by
  obtain ⟨⟨f1, f2, f3, f4, f5, f6, f7⟩, f8, f9⟩ := H
  have gh : ∀ {β : Type} (c : Option β), gd (inb (nj g) 48) c = c := fun c => by rw [inb_nj (by omega), gd_t (decide_eq_true hg)]
  unfold P_Reckoning_isSuch scH
  simp only [gh, ix_nj (show g < 2147483648 by omega), f1, f3, f4, f5, f9, P_isTask_k, bp_s, gz_tI]
  by_cases q0 : x = 0
  · rw [if_pos q0, if_pos q0]
  · rw [if_neg q0, if_neg q0]
    by_cases q1 : x = 1
    · rw [if_pos q1, if_pos q1]
      by_cases c : tsH D X g = -2
      · rw [if_pos c, decide_eq_true c]; rfl
      · rw [if_neg c, decide_eq_false c]; rfl
    · rw [if_neg q1, if_neg q1]
      by_cases q2 : x = 2
      · rw [if_pos q2, if_pos q2]
        cases ct : isTk (tsH D X g) with
        | false => rw [if_pos (by rfl), Bool.false_and]; rfl
        | true =>
          rw [if_neg (by decide), Bool.true_and]
          by_cases c : pbH D X g = -1
          · rw [if_pos c, decide_eq_true c]; rfl
          · rw [if_neg c, decide_eq_false c]; rfl
      · rw [if_neg q2, if_neg q2]
        by_cases q3 : x = 3
        · rw [if_pos q3, if_pos q3]
          cases ct : isTk (tsH D X g) with
          | false => rw [if_pos (by rfl), Bool.false_and]; rfl
          | true =>
            rw [if_neg (by decide), Bool.true_and]
            by_cases c : pbH D X g = -2
            · rw [if_pos c, decide_eq_true c]; rfl
            · rw [if_neg c, decide_eq_false c]; rfl
        · rw [if_neg q3, if_neg q3]
          cases ca : awH D X g with
          | none => rw [if_pos (by rfl)]; rfl
          | some k =>
            rw [if_neg (by simp)]
            cases cj : clH D X sup (awH D X) g with
            | some j => rw [if_neg (jo_some (by have := cl_60 W Wi hn60 hd GW_aw cj; omega))]; rfl
            | none =>
              rw [if_pos (by rfl)]
              by_cases c : jmax (wA D X sup g) (wG D X sup g) = 0
              · rw [if_pos c, decide_eq_true c]; rfl
              · rw [if_neg c, decide_eq_false c]; rfl
theorem P_halves_57_e (W : WText D nc) (Wi : WItems D nc) (hn60 : nc ≤ 60) (hd : xd X < 140) (H : ∀ g, g < 48 → PkH ta D X sup p g) {x4 x6 : Int32} {c : Nat} (k38 : Int32 → Int32 → Int32 → Mem → Option (Int32 × Mem)) : ∀ (e g fu : Nat), g + e = 48 → e < fu → P_halves_57 k38 fu x4 (nj (c + csH D X sup x4 g)) x6 (nj g) p = k38 x4 (nj (c + csH D X sup x4 48)) (x6 + 1) p
  | 0, g, fu + 1, he, _ => by
    rw [P_halves_57.eq_2, if_pos (by rw [show (48 : Int32) = nj 48 from rfl, nj_le (by omega) (by omega)]; omega), show g = 48 by omega]
    unfold P_halves_87
    rw [vb_e]
  | e + 1, g, fu + 1, he, hf => by
    have ih := P_halves_57_e W Wi hn60 hd H (x4 := x4) (x6 := x6) (c := c) k38 e (g + 1) fu (by omega) (by omega)
    have hs : csH D X sup x4 (g + 1) = csH D X sup x4 g + if scH D X sup x4 g then 1 else 0 := rfl
    rw [P_halves_57.eq_2, if_neg (by rw [show (48 : Int32) = nj 48 from rfl, nj_le (by omega) (by omega)]; omega), P_isSuch_e W Wi hn60 hd (by omega) (H g (by omega)), bn_s]
    unfold P_halves_81
    simp only [vb_e, nj_add_l]
    rw [hs] at ih
    cases cs : scH D X sup x4 g with
    | false =>
      rw [cs] at ih
      rw [if_pos (by rfl)]
      exact ih
    | true =>
      rw [cs] at ih
      rw [if_neg (by decide)]
      exact ih
theorem pb_bo (W : WText D nc) {g : Nat} : (pbH D X g = -1) = (boH D X g = -1) ∧ (pbH D X g = -2) = (boH D X g = -2) := by
  have h160 := W.2.1
  have h24 := W.1
  unfold pbH
  cases c : awH D X g with
  | none => exact ⟨rfl, rfl⟩
  | some b =>
    obtain ⟨eb, hb, -⟩ := aw_some c
    obtain ⟨-, ⟨f, hf, e12, -⟩, -⟩ := W.2.2.1 b hb
    have n2 : ∀ x, x < 2147483648 → ¬ nj x = -2 := fun x hx z => by
      have := nj_0le hx
      rw [z] at this
      exact absurd this (by decide)
    show (D.1 12 b = -1) = _ ∧ (D.1 12 b = -2) = _
    rw [eb, e12, nj_ne_m1 (by omega), nj_ne_m1 (by omega)]
    exact ⟨rfl, propext ⟨fun z => absurd z (n2 _ (by omega)), fun z => absurd z (n2 _ (by omega))⟩⟩
theorem R_halves_54_e (W : WText D nc) (Wi : WItems D nc) (hn60 : nc ≤ 60) (hd : xd X < 140) (hv : ∀ h, 0 ≤ wA D X sup h ∧ 0 ≤ wG D X sup h) (H : ∀ g, g < 48 → RkH D X sup r g) {x1 x2 x3 x4 x6 : Int32} {c : Nat} (k31 : Int32 → Int32 → Int32 → Int32 → Int32 → Int32 → Mem → Option (Int32 × Mem)) : ∀ (e g fu : Nat), g + e = 48 → e < fu → R_halves_54 k31 fu x1 x2 x3 x4 (nj (c + csH D X sup x4 g)) x6 (nj g) r = k31 x1 x2 x3 x4 (nj (c + csH D X sup x4 48)) (x6 + 1) r
  | 0, g, fu + 1, he, _ => by
    rw [R_halves_54.eq_2, if_pos (by rw [show (48 : Int32) = nj 48 from rfl, nj_le (by omega) (by omega)]; omega), show g = 48 by omega]
    unfold R_halves_217
    rw [vb_e]
  | e + 1, g, fu + 1, he, hf => by
    have h24 := W.1
    have ih := R_halves_54_e W Wi hn60 hd hv H (x1 := x1) (x2 := x2) (x3 := x3) (x4 := x4) (x6 := x6) (c := c) k31 e (g + 1) fu (by omega) (by omega)
    have hs : csH D X sup x4 (g + 1) = csH D X sup x4 g + if scH D X sup x4 g then 1 else 0 := rfl
    have gh : ∀ {β : Type} (c : Option β), gd (inb (nj g) 48) c = c := fun c => by rw [inb_nj (by omega), gd_t (decide_eq_true (by omega))]
    have hpy := R_payerOf_e (show g < 48 by omega) (H g (by omega)) h24
    obtain ⟨⟨g1, g2, g3, g4, g5, g6⟩, g7, g8⟩ := H g (by omega)
    have e201 : R_halves_201 k31 (fun z0 z1 z2 z3 z4 z5 z6 z7 => R_halves_54 k31 fu z0 z1 z2 z3 z4 z5 z6 z7) x1 x2 x3 x4 (nj (c + csH D X sup x4 g)) x6 (nj g) (tI (scH D X sup x4 g)) r = k31 x1 x2 x3 x4 (nj (c + csH D X sup x4 48)) (x6 + 1) r := by
      unfold R_halves_201 R_halves_211
      simp only [vb_e, nj_add_l]
      rw [hs] at ih
      cases cs : scH D X sup x4 g with
      | false =>
        rw [cs] at ih
        rw [if_pos (by rfl)]
        exact ih
      | true =>
        rw [cs] at ih
        rw [if_neg (by decide)]
        exact ih
    have fin : ∀ b : Bool, scH D X sup x4 g = b → R_halves_201 k31 (fun z0 z1 z2 z3 z4 z5 z6 z7 => R_halves_54 k31 fu z0 z1 z2 z3 z4 z5 z6 z7) x1 x2 x3 x4 (nj (c + csH D X sup x4 g)) x6 (nj g) (tI b) r = k31 x1 x2 x3 x4 (nj (c + csH D X sup x4 48)) (x6 + 1) r := fun b hb => by rw [← hb]; exact e201
    rw [R_halves_54.eq_2, if_neg (by rw [show (48 : Int32) = nj 48 from rfl, nj_le (by omega) (by omega)]; omega)]
    unfold R_halves_135 R_halves_200
    simp only [gh, ix_nj (show g < 2147483648 by omega), g1, g3, g4, R_isTask_e, bp_s]
    by_cases q0 : x4 = 0
    · rw [if_pos q0]
      exact fin _ (by unfold scH; rw [if_pos q0])
    · rw [if_neg q0]
      by_cases q1 : x4 = 1
      · rw [if_pos q1]
        by_cases c' : tsH D X g = -2
        · rw [if_pos c']
          exact fin true (by unfold scH; rw [if_neg q0, if_pos q1, decide_eq_true c'])
        · rw [if_neg c']
          exact fin false (by unfold scH; rw [if_neg q0, if_pos q1, decide_eq_false c'])
      · rw [if_neg q1]
        by_cases q2 : x4 = 2
        · rw [if_pos q2]
          cases ct : isTk (tsH D X g) with
          | false =>
            rw [if_pos (by rfl)]
            exact fin false (by unfold scH; rw [if_neg q0, if_neg q1, if_pos q2, ct]; rfl)
          | true =>
            rw [if_neg (by decide)]
            by_cases c' : boH D X g = -1
            · rw [if_pos c']
              exact fin true (by unfold scH; rw [if_neg q0, if_neg q1, if_pos q2, ct, decide_eq_true (by rw [(pb_bo W).1]; exact c')]; rfl)
            · rw [if_neg c']
              exact fin false (by unfold scH; rw [if_neg q0, if_neg q1, if_pos q2, ct, decide_eq_false (by rw [(pb_bo W).1]; exact c')]; rfl)
        · rw [if_neg q2]
          by_cases q3 : x4 = 3
          · rw [if_pos q3]
            by_cases c' : boH D X g = -2
            · have ct : isTk (tsH D X g) = true := by
                cases ct : isTk (tsH D X g) with
                | true => rfl
                | false =>
                  unfold boH at c'
                  rw [if_neg (by rw [ct]; simp)] at c'
                  exact absurd c' (by decide)
              rw [if_pos c']
              exact fin true (by unfold scH; rw [if_neg q0, if_neg q1, if_neg q2, if_pos q3, ct, decide_eq_true (by rw [(pb_bo W).2]; exact c')]; rfl)
            · rw [if_neg c']
              exact fin false (by unfold scH; rw [if_neg q0, if_neg q1, if_neg q2, if_pos q3, decide_eq_false (by rw [(pb_bo W).2]; exact c'), Bool.and_false])
          · rw [if_neg q3]
            have hsc : scH D X sup x4 g = ((awH D X g).isSome && ((clH D X sup (awH D X) g).isNone && decide (jmax (wA D X sup g) (wG D X sup g) = 0))) := by unfold scH; rw [if_neg q0, if_neg q1, if_neg q2, if_neg q3]
            cases ca : awH D X g with
            | none =>
              have hneg : boH D X g < 0 := by rcases aw_no ca with z | z <;> rw [z] <;> decide
              rw [if_pos hneg]
              exact fin false (by rw [hsc, ca]; rfl)
            | some k =>
              obtain ⟨eb, hk, -⟩ := aw_some ca
              have hneg : ¬ boH D X g < 0 := by rw [eb, nj_nneg (by omega)]; exact id
              rw [if_neg hneg]
              cases cj : clH D X sup (awH D X) g with
              | some j =>
                have := cl_60 W Wi hn60 hd GW_aw cj
                rw [if_neg (show ¬ jkO (some k) (some j) = -1 from jk_some (by omega) (by omega))]
                exact fin false (by rw [hsc, ca, cj]; rfl)
              | none =>
                rw [if_pos (by rfl), hpy, bn_s]
                have h0 : (pyH D X sup g = none) = (jmax (wA D X sup g) (wG D X sup g) = 0) := by
                  have hh := hv g
                  have hj : 0 ≤ jmax (wA D X sup g) (wG D X sup g) := by unfold jmax; grind
                  unfold pyH
                  by_cases z : jmax (wA D X sup g) (wG D X sup g) ≤ 0
                  · rw [if_pos z]
                    exact propext ⟨fun _ => Int32.le_antisymm z hj, fun _ => rfl⟩
                  · rw [if_neg z]
                    refine propext ⟨fun y => ?_, fun y => absurd (by rw [y]; decide) z⟩
                    by_cases z2 : wG D X sup g ≤ wA D X sup g
                    · rw [if_pos z2, ca] at y; cases y
                    · rw [if_neg z2] at y
                      have hwg : wG D X sup g = 0 := by unfold wG; rw [y]; exact wOp_none
                      rw [hwg] at z2
                      exact absurd hh.1 z2
                by_cases z : pyH D X sup g = none
                · rw [z, if_pos (by rfl)]
                  exact fin true (by rw [hsc, ca, cj, decide_eq_true (by rw [← h0]; exact z)]; rfl)
                · cases cp : pyH D X sup g with
                  | none => exact absurd cp z
                  | some y =>
                    have hy : y < D.2.1 := by
                      obtain ⟨b, b1, b2, -⟩ := py_some cp
                      cases b with
                      | true => exact (GW_aw g y (b1 rfl).1).1
                      | false => exact (GW_ag g y (b2 rfl).1).1
                    rw [if_neg (jo_some (by omega))]
                    exact fin false (by rw [hsc, ca, cj, decide_eq_false (by rw [← h0]; exact z)]; rfl)
theorem halves_out (W : WText D nc) (Wf : WFact D nc) (Wi : WItems D nc) (hn60 : nc ≤ 60) (hg : WgD D) (hf8 : xf X < 8) (hn : xn X ≤ D.2.2) {wk who : Nat} (hwk : wk < 20) (hwho : who < 10) (ea : xa X = nj who) (hw : w + 1344 < 2147483647) {x4 : Int32} : ∀ (e q fu : Nat) (p r : Mem) (w1 c : Nat), q + e = 7 → e < fu → c ≤ 48 * q → PS fa ta ia sa ca od D sup w1 p → w1 ≤ w + 192 * q → LdW fa D X wk p → RB D sup r → LC D sup r → (aI r 39 who = nj (xf X) ∧ nj who < mI r 1595 0) → aI r 40 who = xt X → aI r 41 who = xy X →
    ∃ v p' r' w', P_halves_38 fu x4 (nj c) (nj q) p = some (v, p') ∧ R_halves_31 fu (nj who) (nj wk) (nj (xn X)) x4 (nj c) (nj (7 * wk + q)) r = some (v, r') ∧ PS fa ta ia sa ca od D sup w' p' ∧ w' ≤ w + 1344 ∧ RB D sup r' ∧ LC D sup r' ∧ Ch rkF rkA (dyT ta D.2.1) p p' ∧ Ch loF loA nil r r' ∧ mC p' = mC p ∧ mS p' = mS p ∧ mC r' = mC r
  | 0, q, fu + 1, p, r, w1, c, he, _, hc, P, hw1, HL, HB, HC, e39, e40, e41 => by
    refine ⟨nj c, p, r, w1, ?_, ?_, P, by omega, HB, HC, Ch.rfl, Ch.rfl, rfl, rfl, rfl⟩
    · rw [P_halves_38.eq_2, if_pos (by rw [show (7 : Int32) = nj 7 from rfl, nj_le (by omega) (by omega)]; omega)]
    · rw [R_halves_31.eq_2, show (7 : Int32) * nj wk + 7 = nj (7 * wk + 7) by rw [show (7 : Int32) = nj 7 from rfl, nj_mul, nj_add], if_pos (by rw [nj_le (by omega) (by omega)]; omega)]
  | e + 1, q, fu + 1, p, r, w1, c, he, hf, hc, P, hw1, HL, HB, HC, e39, e40, e41 => by
    have C2 := HB.2.1
    have hd : xd (XQ X wk q) < 140 := by show 7 * wk + q < 140; omega
    obtain ⟨p1, w2, a1, a2, a3, a4, a5, a6, a7, a8⟩ := P_reckon_e (X := XQ X wk q) W Wf Wi hn60 hd hf8 hn (by omega) P (HL.X_ (by omega))
    have a1' : P_Reckoning_reckon (nj q) p = some ((), p1) := by
      have e7 : xd (XQ X wk q) % 7 = q := by show (7 * wk + q) % 7 = q; omega
      rw [e7] at a1
      exact a1
    obtain ⟨r1, b1, b2, b3, b4, b5, b6⟩ := R_looks_e (X := XQ X wk q) W Wf Wi hn60 ⟨hwho, ea, hd, hf8, hn, e39, e40, e41⟩ HB HC
    have b1' : R_looks (nj who) (nj (7 * wk + q)) (nj (xn X)) r = some ((), r1) := b1
    have hvN := fun h => vN_e (X := XQ X wk q) (sup := sup) W Wf Wi hn60 hg hd hn h
    have hle := csH_le (D := D) (X := XQ X wk q) (sup := sup) (x := x4) 48
    have rx : ∀ a, a = 39 ∨ a = 40 ∨ a = 41 → aI r1 a = aI r a := fun a ha => b5.ai (by unfold loA; simp; omega) nil_no (by omega)
    obtain ⟨v, p', r', w', d1, d2, d3, d4, d5, d6, d7, d8, d9, d10, d11⟩ := halves_out W Wf Wi hn60 hg hf8 hn hwk hwho ea hw (x4 := x4) e (q + 1) fu p1 r1 w2 (c + csH D (XQ X wk q) sup x4 48) (by omega) (by omega) (by omega) a2 (by omega) (HL.Ch P.2.1 a6 (by decide) (by decide) P.h51) b3 (Or.inr ⟨_, _, b4⟩) ⟨by rw [rx 39 (by omega)]; exact e39.1, by rw [b5.i (by decide) (by omega)]; exact e39.2⟩ (by rw [rx 40 (by omega)]; exact e40) (by rw [rx 41 (by omega)]; exact e41)
    refine ⟨v, p', r', w', ?_, ?_, d3, d4, d5, d6, a6.trans d7, b5.trans d8, by omega, by omega, by omega⟩
    · rw [P_halves_38.eq_2, if_neg (by rw [show (7 : Int32) = nj 7 from rfl, nj_le (by omega) (by omega)]; omega), a1', bn_s]
      have := P_halves_57_e (X := XQ X wk q) (sup := sup) W Wi hn60 hd a4 (x4 := x4) (x6 := nj q) (c := c) (fun z0 z1 z2 z3 => P_halves_38 fu z0 z1 z2 z3) 48 0 FU (by omega) (by unfold FU; omega)
      refine Eq.trans this ?_
      show P_halves_38 fu _ _ _ _ = _
      rw [nj_add_l]
      exact d1
    · rw [R_halves_31.eq_2, show (7 : Int32) * nj wk + 7 = nj (7 * wk + 7) by rw [show (7 : Int32) = nj 7 from rfl, nj_mul, nj_add], if_neg (by rw [nj_le (by omega) (by omega)]; omega), b1', bn_s]
      have := R_halves_54_e (X := XQ X wk q) (sup := sup) W Wi hn60 hd (fun h => (hvN h).2.2) b4.2.2.2.2.2.2.2.2.2.2.2.2.2 (x1 := nj who) (x2 := nj wk) (x3 := nj (xn X)) (x4 := x4) (x6 := nj (7 * wk + q)) (c := c) (fun z0 z1 z2 z3 z4 z5 z6 => R_halves_31 fu z0 z1 z2 z3 z4 z5 z6) 48 0 FU (by omega) (by unfold FU; omega)
      refine Eq.trans this ?_
      show R_halves_31 fu _ _ _ _ _ _ _ = _
      rw [nj_add_l]
      exact d2
theorem st_halves (h : Bs nc p r) (hL : LC (dat r) none r) (hw : mI p 1157 25 = nj w) (hw1 : w + 1344 < 2147483647) (x1 x2 x3 x4 : Int32) : Askm nc w 1344 p r (P_halves x1 x2 x3 x4 p) (R_halves x1 x2 x3 x4 r) := by
  have W := h.1.2.2.1
  have Wf := h.1.2.2.2.1
  have h160 := W.2.1
  have T1 := h.1.1.1
  have e1 := P_isWeekOf_e h x1 x2 x3
  have e2 := R_isWeek_e h x1 x2 x3
  have n2 : ¬ tI true = 0 := by decide
  unfold P_halves R_halves
  rw [e1, e2, bn_s, bn_s, P_within_e, bp_s, R_in_e, bp_s]
  by_cases q : (0 ≤ x1 ∧ x1 < mI r 1595 0) ∧ (0 ≤ x2 ∧ x2 ≤ 19) ∧ (0 ≤ x3 ∧ x3 ≤ nj (dat r).2.2)
  · rw [decide_eq_true q, if_neg n2, if_neg n2]
    by_cases q4 : 0 ≤ x4 ∧ x4 ≤ 4
    · rw [decide_eq_true q4, if_neg n2, if_neg n2]
      obtain ⟨c1, c2, c3⟩ := q
      obtain ⟨who, f, rfl, hwho, hf, e39, y1, y2, y3⟩ := ask_X h c1
      obtain ⟨wk, hwk, rfl⟩ := nj_in (n := 19) (by omega) c2
      obtain ⟨kn, hkn, rfl⟩ := nj_in (by omega) c3
      obtain ⟨fa, ta, ia, sa, ca, od, P⟩ := h.PS_ hw
      obtain ⟨p1, a1, a2, a3, a4, a5, a6⟩ := P_load_e P.1.1 P.2.1 P.2.2.1 Wf h160 (a := nj who) (wk := wk) (by omega) hkn
      have P1 := P.Ch a4 (by decide) (by decide) (by decide)
      have HL : LdW fa (dat r) (f, 0, kn, nj who, aI r 41 who, aI r 40 who) wk p1 := ⟨a2, a3, who, hwho, rfl, by rw [a4.ai (by decide) nil_no (by omega)]; exact y1, by rw [a4.ai (by decide) nil_no (by omega)]; exact y2, by rw [a4.ai (by decide) nil_no (by omega)]; exact y3⟩
      obtain ⟨v, p', r', w', b1, b2, b3, b4, b5, b6, b7, b8, b9, b10, b11⟩ := halves_out (X := (f, 0, kn, nj who, aI r 41 who, aI r 40 who)) W Wf h.2.2.2.1 h.1.2.2.2.2.2.2.1 h.Wg_ hf hkn (show wk < 20 by omega) hwho rfl hw1 (x4 := x4) 7 0 FU p1 r w 0 (by omega) (by unfold FU; omega) (by omega) P1 (by omega) HL h.RB_ hL e39 rfl rfl
      have cP : Ch qF qA hi51 p p' := (a4.mono (by decide) (by decide) (fun _ h => h.elim)).trans (b7.mono (by decide) (by decide) P.h51)
      have cR : Ch loF loB nil r r' := b8.mono (fun _ h => h) (by unfold loB; simp) (fun _ h => h)
      obtain ⟨B, e⟩ := Bs_of2 h b3 cP b5 cR b11
      refine ⟨v, p', r', ?_, ?_, B, by rw [e]; exact b6, cP, cR, by omega, by omega, b11, w', b4, b3.2.2.2.1.1⟩
      · rw [a1, bn_s]
        exact b1
      · rw [vb_e, nj_l_mul]
        exact b2
    · rw [decide_eq_false q4]
      exact Askm.no (v := -1) h hL hw rfl rfl
  · rw [decide_eq_false q]
    exact Askm.no (v := -1) h hL hw rfl rfl
end Ha
