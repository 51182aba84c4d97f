/-! Layer C: payer, worth, rate, counted -/
section Pr
variable {fa ta ia sa ca : Nat → Nat} {od : List Nat} {p r : Mem} {nc w : Nat} {D : Dt} {X : Dy} {sup : Sup}
theorem jmax_le0 (a b : Int32) : (jmax a b ≤ 0) = (¬ 0 < a ∧ ¬ 0 < b) := by
  unfold jmax
  grind
theorem R_payerOf_e {g : Nat} (hg : g < 48) (H : RkH D X sup r g) (h24 : D.2.1 ≤ 24) : R_payerOf (nj g) r = some (jo (pyH D X sup g), r) := by
  obtain ⟨⟨g1, g2, g3, g4, g5, g6⟩, g7, g8⟩ := H
  have gh : ∀ {β : Type} (c : Option β), gd (inb (nj g) 48) c = c := fun c => by rw [inb_nj (by omega), gd_t (decide_eq_true hg)]
  have ig : ix (nj g) = g := ix_nj (by omega)
  unfold R_payerOf R_payerOf_29
  simp only [gh, ig, g3, g5, g7, g8]
  cases c : awH D X g with
  | none =>
    have hneg : boH D X g < 0 := by rcases aw_no c with z | z <;> rw [z] <;> decide
    rw [if_pos hneg, (py_none (sup := sup) c).2.1]
    rfl
  | some k =>
    obtain ⟨eb, hk, -⟩ := aw_some c
    have hneg : ¬ boH D X g < 0 := by rw [eb, nj_nneg (by omega)]; exact id
    have e1 : pyH D X sup g = if ¬ 0 < wA D X sup g ∧ ¬ 0 < wG D X sup g then none else if wG D X sup g ≤ wA D X sup g then some k else agH D X g := by
      unfold pyH
      simp only [jmax_le0, c]
    rw [if_neg hneg, eb, e1]
    by_cases q1 : 0 < wA D X sup g
    · have n : ¬ (¬ 0 < wA D X sup g ∧ ¬ 0 < wG D X sup g) := fun z => z.1 q1
      rw [if_pos q1, if_neg n]
      by_cases q3 : wG D X sup g ≤ wA D X sup g
      · rw [if_pos q3, if_pos q3]; rfl
      · rw [if_neg q3, if_neg q3]
    · rw [if_neg q1]
      by_cases q2 : 0 < wG D X sup g
      · have n : ¬ (¬ 0 < wA D X sup g ∧ ¬ 0 < wG D X sup g) := fun z => z.2 q2
        rw [if_pos q2, if_neg n]
        by_cases q3 : wG D X sup g ≤ wA D X sup g
        · rw [if_pos q3, if_pos q3]; rfl
        · rw [if_neg q3, if_neg q3]
      · have n : ¬ 0 < wA D X sup g ∧ ¬ 0 < wG D X sup g := ⟨q1, q2⟩
        rw [if_neg q2, if_pos n]; rfl
theorem R_worthOf_e {g : Nat} (hg : g < 48) (H : RkH D X sup r g) : R_worthOf (nj g) r = some (jmax (wA D X sup g) (wG D X sup g), r) := by
  obtain ⟨-, g7, g8⟩ := H
  have gh : ∀ {β : Type} (c : Option β), gd (inb (nj g) 48) c = c := fun c => by rw [inb_nj (by omega), gd_t (decide_eq_true hg)]
  have ig : ix (nj g) = g := ix_nj (by omega)
  unfold R_worthOf
  simp only [gh, ig, g7, g8]
  unfold jmax
  by_cases q : wG D X sup g ≤ wA D X sup g
  · rw [if_pos q, if_neg (Int32.not_lt.mpr q)]
  · rw [if_neg q, if_pos (Int32.not_le.mp q)]
theorem py_some {g k : Nat} (e : pyH D X sup g = some k) : ∃ b, (b = true → awH D X g = some k ∧ 0 < wA D X sup g) ∧ (b = false → agH D X g = some k ∧ 0 < wG D X sup g) ∧ ∃ k0, awH D X g = some k0 ∧ (b = true ↔ k = k0) := by
  cases c : awH D X g with
  | none => rw [(py_none (sup := sup) c).2.1] at e; cases e
  | some k0 =>
    unfold pyH at e
    by_cases q : jmax (wA D X sup g) (wG D X sup g) ≤ 0
    · rw [if_pos q] at e; cases e
    · rw [if_neg q] at e
      rw [jmax_le0] at q
      by_cases q3 : wG D X sup g ≤ wA D X sup g
      · rw [if_pos q3, c] at e
        cases e
        refine ⟨true, fun _ => ⟨rfl, ?_⟩, fun z => (by cases z), k, rfl, ⟨fun _ => rfl, fun _ => rfl⟩⟩
        grind
      · rw [if_neg q3] at e
        refine ⟨false, fun z => (by cases z), fun _ => ⟨e, ?_⟩, k0, rfl, ⟨fun z => (by cases z), fun z => ?_⟩⟩
        · grind
        · obtain ⟨-, -, -, h3, -⟩ := ag_some e
          obtain ⟨-, -, h0, -⟩ := aw_some c
          rw [z, h0] at h3
          exact absurd h3 (by decide)
theorem st_payer (h : Bs nc p r) (hL : LC (dat r) none r) (hw : mI p 1157 25 = nj w) (hw1 : w + 192 < 2147483647) (x1 x2 x3 x4 : Int32) : Askl nc w 192 p r (P_payer x1 x2 x3 x4 p) (R_payer x1 x2 x3 x4 r) := by
  have h24 := h.1.2.2.1.1
  rcases half_e h hL hw hw1 x1 x2 x3 x4 with ⟨a1, a2⟩ | ⟨X, who, g, p', r', rfl, rfl, rfl, rfl, hg, a1, a2, a3, J⟩
  · refine Askl.no (v := -1) h hL hw ?_ ?_
    · unfold P_payer
      rw [a1, bn_s, if_pos rfl]
    · unfold R_payer
      rw [a2, bn_s, if_pos rfl]
  · obtain ⟨fa, ta, ia, sa, ca, od, w', j1, j2, j3, j4, j5, j6, j7, j8, j9, j10, j11, j12, j13⟩ := id J
    have hk := j8.2.2.2.2.2.2.2.2.2.2.2.2.2 g hg
    have gh : ∀ {β : Type} (c : Option β), gd (inb (nj g) 48) c = c := fun c => by rw [inb_nj (by omega), gd_t (decide_eq_true hg)]
    have ig : ix (nj g) = g := ix_nj (by omega)
    have n1 : ¬ ((1 : Int32) = 0) := by decide
    have hp := R_payerOf_e hg hk h24
    have e37 := (j3 g hg).2.1
    have hP : P_payer (nj who) (nj (xd X)) (nj g) (nj (xn X)) p = if (pyH (dat r) X none g).map ta = none then some (-1, p') else gs ((pyH (dat r) X none g).map ta) fun a8 => gt p' a8 11 <| some (mI p' 1281 a8, p') := by
      unfold P_payer
      rw [a1, bn_s, if_neg n1, gh, ig, e37]
    have hR : R_payer (nj who) (nj (xd X)) (nj g) (nj (xn X)) r = if jo (pyH (dat r) X none g) = -1 then some (-1, r') else gd (inb (jo (pyH (dat r) X none g)) 25) <| some (aI r' 12 (ix (jo (pyH (dat r) X none g))), r') := by
      unfold R_payer
      rw [a2, bn_s, if_neg n1, a3, bn_s, hp, bn_s]
    rw [hP, hR]
    cases c : pyH (dat r) X none g with
    | none => exact J.ask (v := -1) h (by rw [if_pos (by rfl)]) (by rw [if_pos (by rfl)])
    | some k =>
      obtain ⟨b, b1, b2, -⟩ := py_some c
      have hkk : k < (dat r).2.1 := by
        cases b with
        | true => exact (GW_aw g k (b1 rfl).1).1
        | false => exact (GW_ag g k (b2 rfl).1).1
      obtain ⟨-, t2, -, t4, -⟩ := j1.1.2.1.2.1 k hkk
      refine J.ask (v := (dat r).1 12 k) h ?_ ?_
      · show (if some (ta k) = none then _ else gs (some (ta k)) _) = _
        rw [if_neg (by simp), gs_s, gt_t t2, t4]
      · rw [if_neg (jo_some (by omega)), show jo (some k) = nj k from rfl, inb_nj (by omega), gd_t (decide_eq_true (by omega)), ix_nj (by omega), dat_t j7.1 (x := 12) (by omega) hkk]
theorem st_worth (h : Bs nc p r) (hL : LC (dat r) none r) (hw : mI p 1157 25 = nj w) (hw1 : w + 192 < 2147483647) (x1 x2 x3 x4 : Int32) : Askl nc w 192 p r (P_worth x1 x2 x3 x4 p) (R_worth x1 x2 x3 x4 r) := by
  rcases half_e h hL hw hw1 x1 x2 x3 x4 with ⟨a1, a2⟩ | ⟨X, who, g, p', r', rfl, rfl, rfl, rfl, hg, a1, a2, a3, J⟩
  · refine Askl.no (v := 0) h hL hw ?_ ?_
    · unfold P_worth
      rw [a1, bn_s, if_pos rfl]
    · unfold R_worth
      rw [a2, bn_s, if_pos rfl]
  · obtain ⟨fa, ta, ia, sa, ca, od, w', j1, j2, j3, j4, j5, j6, j7, j8, j9, j10, j11, j12, j13⟩ := id J
    have n1 : ¬ ((1 : Int32) = 0) := by decide
    refine J.ask (v := jmax (wA (dat r) X none g) (wG (dat r) X none g)) h ?_ ?_
    · unfold P_worth
      rw [a1, bn_s, if_neg n1, inb_nj (by omega), gd_t (decide_eq_true hg), ix_nj (by omega), (j3 g hg).2.2]
    · unfold R_worth
      rw [a2, bn_s, if_neg n1, a3, bn_s, R_worthOf_e hg (j8.2.2.2.2.2.2.2.2.2.2.2.2.2 g hg), bn_s]
theorem wOp_pos {o c : Option Nat} {k h : Nat} (ho : o = some k) (hp : 0 < wOp D X sup o c h) : ∃ j, c = some j := by
  cases c with
  | some j => exact ⟨j, rfl⟩
  | none =>
    rw [ho] at hp
    have : wOp D X sup (some k) none h = 0 := rfl
    rw [this] at hp
    exact absurd hp (by decide)
/-- the payer's reckoning, once more -/
theorem repeat_e (W : WText D nc) (Wi : WItems D nc) (hn60 : nc ≤ 60) (hd : xd X < 140) {g k : Nat} (hg : g < 48) (hw : w < 2147483647) (P : PD fa ta ia sa ca od D X sup w p) (hV : V39 D X p) (hWho : Who X p) (h32 : mI p 1032 28 = nj (waH D X)) (H : PkH ta D X sup p g) (hpy : pyH D X sup g = some k) :
    ∃ p' w' S, P_Reckoning_repeat (nj g) p = some ((), p') ∧ PD fa ta ia sa ca od D X sup w' p' ∧ w' ≤ w + 1 ∧ Ch [1041, 1043, 1157] [4, 39, 40] (dy3 ta D.2.1) p p' ∧ mC p' = mC p ∧ mS p' = mS p ∧ CtP D S p' ∧ S.2.2.length ≤ 60 ∧ ∃ j, S = wgS D X sup k j g ∧ mI p' 1041 28 = rtS D X sup k j ∧ ((awH D X g = some k ∧ clH D X sup (awH D X) g = some j ∧ 0 < wA D X sup g) ∨ (awH D X g ≠ some k ∧ agH D X g = some k ∧ clH D X sup (agH D X) g = some j ∧ 0 < wG D X sup g)) := by
  have gh : ∀ {β : Type} (c : Option β), gd (inb (nj g) 48) c = c := fun c => by rw [inb_nj (by omega), gd_t (decide_eq_true hg)]
  have ig : ix (nj g) = g := ix_nj (by omega)
  obtain ⟨⟨f1, f2, f3, f4, f5, f6, f7⟩, f8, f9⟩ := H
  obtain ⟨b, b1, b2, k0, hk0, hb⟩ := py_some hpy
  have hl60 : ∀ j, (wgS D X sup k j g).2.2.length ≤ 60 := fun j => by
    have hkk : k < D.2.1 := by
      cases b with
      | true => exact (GW_aw g k (b1 rfl).1).1
      | false => exact (GW_ag g k (b2 rfl).1).1
    have hlen := (rowQ_W (X := X) W hd hkk).len Wi hn60
    have := wFd_len (D := D) (vs := vW D X sup k j g) (tk := xt X) (rowQ D X k) (100, 0, [])
    show ((rowQ D X k).foldl (wSt D (vW D X sup k j g) (xt X)) (100, 0, [])).2.2.length ≤ 60
    simp at this
    omega
  cases b with
  | true =>
    obtain ⟨y1, y2⟩ := b1 rfl
    obtain ⟨j, hj⟩ := wOp_pos y1 y2
    obtain ⟨p', w', a1, a2, a3, a4, a5, a6, a7, a8⟩ := P_worthO_e W Wi hn60 hd GW_aw hg hw P hV hWho h32 f1 f2
    obtain ⟨z1, z2⟩ := a8 k j y1 hj
    refine ⟨p', w', wgS D X sup k j g, ?_, a2, a3, a5, a6, a7, z2, hl60 j, j, rfl, z1, Or.inl ⟨y1, hj, y2⟩⟩
    unfold P_Reckoning_repeat P_Reckoning_repeat_20 P_Reckoning_repeat_47
    simp only [gh, ig]
    rw [f8, f4, hpy, y1, if_pos rfl, if_neg (by decide), f5]
    rw [y1] at a1
    rw [a1, bn_s]
  | false =>
    obtain ⟨y1, y2⟩ := b2 rfl
    have hne : k ≠ k0 := fun z => by have := hb.mpr z; cases this
    obtain ⟨j, hj⟩ := wOp_pos y1 y2
    obtain ⟨p', w', a1, a2, a3, a4, a5, a6, a7, a8⟩ := P_worthO_e W Wi hn60 hd GW_ag hg hw P hV hWho h32 f1 f2
    obtain ⟨z1, z2⟩ := a8 k j y1 hj
    refine ⟨p', w', wgS D X sup k j g, ?_, a2, a3, a5, a6, a7, z2, hl60 j, j, rfl, z1, Or.inr ⟨by rw [hk0]; exact fun z => hne (Option.some.inj z).symm, y1, hj, y2⟩⟩
    unfold P_Reckoning_repeat P_Reckoning_repeat_20 P_Reckoning_repeat_47
    simp only [gh, ig]
    have hn : ¬ Option.map ta (some k) = Option.map ta (some k0) := fun z => hne (ta_inj P.1 (GW_ag g k y1).1 (GW_aw g k0 hk0).1 (Option.some.inj z))
    rw [f8, f4, hpy, hk0, if_neg hn, if_pos trivial, f7]
    rw [y1] at a1
    rw [a1, bn_s]
/-- the reference's, once more -/
theorem again_e (W : WText D nc) (Wf : WFact D nc) (Wi : WItems D nc) (hn60 : nc ≤ 60) {who g k : Nat} {r0 : Mem} (hg : g < 48) (hH : R_isHalf (nj who) (nj (xd X)) (nj g) (nj (xn X)) r0 = some (1, r0)) (hl : R_looks (nj who) (nj (xd X)) (nj (xn X)) r0 = some ((), r)) (HX : RX D X who r) (HB : RB D sup r) (HC : LC1 D X who sup r) (hpy : pyH D X sup g = some k) {j : Nat} (hj : (awH D X g = some k ∧ clH D X sup (awH D X) g = some j ∧ 0 < wA D X sup g) ∨ (awH D X g ≠ some k ∧ agH D X g = some k ∧ clH D X sup (agH D X) g = some j ∧ 0 < wG D X sup g)) :
    ∃ r', R_again (nj who) (nj (xd X)) (nj g) (nj (xn X)) r0 = some (1, r') ∧ mI r' 1642 0 = rtS D X sup k j ∧ CtR D (wgS D X sup k j g) r' ∧ RB D sup r' ∧ LC1 D X who sup r' ∧ Ch loF loA nil r r' ∧ mC r' = mC r := by
  have h24 := W.1
  have C2 := HB.2.1
  obtain ⟨hwho, ea, hd, hf8, hn, c1, c2, c3, e39, e40, e41, c4, c5, hk48⟩ := id HC
  have gh : ∀ {β : Type} (c : Option β), gd (inb (nj g) 48) c = c := fun c => by rw [inb_nj (by omega), gd_t (decide_eq_true hg)]
  have ig : ix (nj g) = g := ix_nj (by omega)
  have n1 : ¬ ((1 : Int32) = 0) := by decide
  obtain ⟨r1, b1, b2, b3, b4, b5, b6, b7, b8⟩ := HB.Bt_ W Wf Wi hn60 hd hf8 hn
  have L1 := HC.Ch C2 b7 (by decide) (by decide)
  obtain ⟨-, -, -, -, -, -, -, -, e39', e40', e41', c4', c5', hk48'⟩ := id L1
  have X1 : RX D X who r1 := ⟨b6.1, b6.2.1, b6.2.2.1, b2, b3, b4, b5, e41', e40', c4', c5'⟩
  obtain ⟨⟨g1, g2, g3, g4, g5, g6⟩, g7, g8⟩ := hk48' g hg
  have hkd : k < D.2.1 := by
    rcases hj with z | z
    · exact (GW_aw g k z.1).1
    · exact (GW_ag g k z.2.1).1
  have hst : R_again (nj who) (nj (xd X)) (nj g) (nj (xn X)) r0 = if nj k = boH D X g then R_again_81 (jkO (awH D X g) (clH D X sup (awH D X) g)) (nj k) (nj g) (nj who) r1 else R_again_81 (jkO (agH D X g) (clH D X sup (agH D X) g)) (nj k) (nj g) (nj who) r1 := by
    unfold R_again
    rw [hH, bn_s, if_neg n1, hl, bn_s, R_payerOf_e hg (hk48 g hg) h24, bn_s, hpy, if_neg (jo_some (by omega)), inb_nj (by omega), gd_t (decide_eq_true hwho), ix_nj (by omega), e39.1, b1, bn_s, gh, gh, gh, ig, g3, g4, g6]
    rfl
  rw [hst]
  rcases hj with ⟨z1, z2, z3⟩ | ⟨z1, z2, z3, z4⟩
  · obtain ⟨r', a1, a2, a3, a4, a5, a6⟩ := R_worthO_e (sup := sup) W Wi hn60 hd hf8 hn GW_aw hwho z1 hg X1 b6.2.2.2.2 g1 g2
    obtain ⟨y1, y2⟩ := a6 j z2
    refine ⟨r', ?_, y1, y2, b6.Ch_ a4 a5 (by decide) (by decide), L1.Ch b6.2.1 a4 (by decide) (by decide), (b7.mono (by decide) (by decide) (fun _ h => h)).trans (a4.mono (by decide) (by decide) (fun _ h => h)), by omega⟩
    rw [if_pos (aw_some z1).1.symm]
    unfold R_again_81
    rw [a1, bn_s, if_neg (show ¬ wOp D X sup (awH D X g) (clH D X sup (awH D X) g) g ≤ 0 from Int32.not_le.mpr z3)]
  · obtain ⟨r', a1, a2, a3, a4, a5, a6⟩ := R_worthO_e (sup := sup) W Wi hn60 hd hf8 hn GW_ag hwho z2 hg X1 b6.2.2.2.2 g1 g2
    obtain ⟨y1, y2⟩ := a6 j z3
    refine ⟨r', ?_, y1, y2, b6.Ch_ a4 a5 (by decide) (by decide), L1.Ch b6.2.1 a4 (by decide) (by decide), (b7.mono (by decide) (by decide) (fun _ h => h)).trans (a4.mono (by decide) (by decide) (fun _ h => h)), by omega⟩
    have hne : ¬ nj k = boH D X g := fun z => by
      obtain ⟨b, hb, -⟩ := ag_some z2
      obtain ⟨eb, hbd, -⟩ := aw_some hb
      rw [eb] at z
      exact z1 (by rw [hb, (nj_inj (by omega) (by omega)).mp z])
    rw [if_neg hne]
    unfold R_again_81
    rw [a1, bn_s, if_neg (show ¬ wOp D X sup (agH D X g) (clH D X sup (agH D X) g) g ≤ 0 from Int32.not_le.mpr z4)]
/-- no payer: nothing is reckoned again -/
theorem again_no (h24 : D.2.1 ≤ 24) {who g : Nat} {r0 : Mem} (hg : g < 48) (hH : R_isHalf (nj who) (nj (xd X)) (nj g) (nj (xn X)) r0 = some (1, r0)) (hl : R_looks (nj who) (nj (xd X)) (nj (xn X)) r0 = some ((), r)) (HC : LC1 D X who sup r) (hpy : pyH D X sup g = none) : R_again (nj who) (nj (xd X)) (nj g) (nj (xn X)) r0 = some (0, r) := by
  have n1 : ¬ ((1 : Int32) = 0) := by decide
  unfold R_again
  rw [hH, bn_s, if_neg n1, hl, bn_s, R_payerOf_e hg (HC.2.2.2.2.2.2.2.2.2.2.2.2.2 g hg) h24, bn_s, hpy, if_pos (by rfl)]
/-- both reckon a payer again -/
theorem both_again (h : Bs nc p r) {who g : Nat} {p' r' : Mem} (hw1 : w + 193 < 2147483647) (hg : g < 48) (hH : R_isHalf (nj who) (nj (xd X)) (nj g) (nj (xn X)) r = some (1, r)) (hl : R_looks (nj who) (nj (xd X)) (nj (xn X)) r = some ((), r')) (J : DayJ nc w p r X who p' r') {k : Nat} (hpy : pyH (dat r) X none g = some k) :
    ∃ p'' r'' S, P_Reckoning_repeat (nj g) p' = some ((), p'') ∧ R_again (nj who) (nj (xd X)) (nj g) (nj (xn X)) r = some (1, r'') ∧ mI p'' 1041 28 = mI r'' 1642 0 ∧ CtP (dat r) S p'' ∧ CtR (dat r) S r'' ∧ S.2.2.length ≤ 60 ∧ Bs nc p'' r'' ∧ LC (dat r'') none r'' ∧ Ch qF qA hi51 p p'' ∧ Ch loF loA nil r r'' ∧ mC p'' = mC p ∧ mS p'' = mS p ∧ mC r'' = mC r ∧ ∃ w', w' ≤ w + 193 ∧ mI p'' 1157 25 = nj w' := by
  have W := h.1.2.2.1
  have Wf := h.1.2.2.2.1
  have hn60 : nc ≤ 60 := h.1.2.2.2.2.2.2.1
  have Wi := h.2.2.2.1
  obtain ⟨fa, ta, ia, sa, ca, od, w', j1, j2, j3, j4, j5, j6, j7, j8, j9, j10, j11, j12, j13⟩ := id J
  have hd : xd X < 140 := j8.2.2.1
  have ht : isTk (tsH (dat r) X g) = true := by
    obtain ⟨b, -, -, k0, hk0, -⟩ := py_some hpy
    exact (aw_some hk0).2.2.2.2
  obtain ⟨P', V', e32⟩ := j4 (tk_ne hg ht)
  have hWho : Who X p' := by
    obtain ⟨l1, l2, who', l3, l4, l5, l6, l7⟩ := j5
    exact ⟨who', l3, by rw [l1.1, l4], l6⟩
  obtain ⟨p'', w'', S, a1, a2, a3, a4, a5, a6, a7, a8, j, a9, a10, a11⟩ := repeat_e W Wi hn60 hd hg (by omega) P' V' hWho e32 (j3 g hg) hpy
  obtain ⟨r'', b1, b2, b3, b4, b5, b6, b7⟩ := again_e W Wf Wi hn60 hg hH hl j6 j7 j8 hpy a11
  have h51 : ∀ a, dy3 ta (dat r).2.1 a → 51 ≤ a := fun a ⟨l, hl, e⟩ => by have := (P'.1.2.1.2.1 l hl).1; omega
  have cp : Ch qF qA hi51 p p'' := j9.trans (a4.mono (by decide) (by decide) h51)
  have cr : Ch loF loA nil r r'' := j10.trans b6
  have n26 : ¬ dy3 ta (dat r).2.1 26 := fun q => by have := h51 26 q; omega
  have T1 := j1.2.1.1
  have P'' := j1.of a2 (a4.mono (fun _ h => h) (fun _ h => h) (fun a ⟨k, hk, e⟩ => ⟨k, hk, by omega⟩)) (by decide) (fun i q1 q2 q3 q4 q5 => by rw [a4.ai (by decide) n26 (by omega)]; exact j1.2.2.2.2.1 i q1 q2 q3 q4 q5)
  obtain ⟨B, e⟩ := Bs_of h P'' cp b4 cr (by omega)
  refine ⟨p'', r'', S, a1, b1, by rw [a10, b2], a7, by rw [a9]; exact b3, a8, B, by rw [e]; exact Or.inr ⟨X, who, b5⟩, cp, cr, by omega, by omega, by omega, w'', by omega, a2.2.2.2.1.1⟩
theorem Askl.mono {n m : Nat} {x y : Option (Int32 × Mem)} (h : Askl nc w n p r x y) (hm : n ≤ m) : Askl nc w m p r x y := by
  obtain ⟨v, p', r', h1, h2, h3, h4, h5, h6, h7, h8, h9, w', h10, h11⟩ := h
  exact ⟨v, p', r', h1, h2, h3, h4, h5, h6, h7, h8, h9, w', by omega, h11⟩
theorem st_rate (h : Bs nc p r) (hL : LC (dat r) none r) (hw : mI p 1157 25 = nj w) (hw1 : w + 193 < 2147483647) (x1 x2 x3 x4 : Int32) : Askl nc w 193 p r (P_rate x1 x2 x3 x4 p) (R_rate x1 x2 x3 x4 r) := by
  have h24 := h.1.2.2.1.1
  rcases half_e h hL hw (by omega) x1 x2 x3 x4 with ⟨a1, a2⟩ | ⟨X, who, g, p', r', rfl, rfl, rfl, rfl, hg, a1, a2, a3, J⟩
  · refine Askl.no (v := -1) h hL hw ?_ ?_
    · unfold P_rate
      rw [a1, bn_s, if_pos rfl]
    · unfold R_rate R_again
      rw [a2, bn_s, if_pos rfl, bn_s, if_pos rfl]
  · obtain ⟨fa, ta, ia, sa, ca, od, w', j1, j2, j3, j4, j5, j6, j7, j8, j9, j10, j11, j12, j13⟩ := id J
    have n1 : ¬ ((1 : Int32) = 0) := by decide
    have e37 := (j3 g hg).2.1
    have hP : P_rate (nj who) (nj (xd X)) (nj g) (nj (xn X)) p = if (pyH (dat r) X none g).map ta = none then some (-1, p') else bn (P_Reckoning_repeat (nj g) p') fun _ m9 => some (mI m9 1041 28, m9) := by
      unfold P_rate
      rw [a1, bn_s, if_neg n1, inb_nj (by omega), gd_t (decide_eq_true hg), ix_nj (by omega), e37]
    cases c : pyH (dat r) X none g with
    | none =>
      refine (J.ask (v := -1) h ?_ ?_).mono (by omega)
      · rw [hP, c, if_pos (by rfl)]
      · unfold R_rate
        rw [again_no h24 hg a2 a3 j8 c, bn_s, if_pos rfl]
    | some k =>
      obtain ⟨p'', r'', S, b1, b2, b3, b4, b5, b6, b7, b8, b9, b10, b11, b12, b13, b14⟩ := both_again h hw1 hg a2 a3 J c
      refine ⟨mI r'' 1642 0, p'', r'', ?_, ?_, b7, b8, b9, b10, b11, b12, b13, b14⟩
      · rw [hP, c, if_neg (by simp), b1, bn_s, b3]
      · unfold R_rate
        rw [b2, bn_s, if_neg n1]
theorem st_counted (h : Bs nc p r) (hL : LC (dat r) none r) (hw : mI p 1157 25 = nj w) (hw1 : w + 193 < 2147483647) (x1 x2 x3 x4 x5 : Int32) : Askl nc w 193 p r (P_counted x1 x2 x3 x4 x5 p) (R_counted x1 x2 x3 x4 x5 r) := by
  have h24 := h.1.2.2.1.1
  rcases half_e h hL hw (by omega) x1 x2 x3 x5 with ⟨a1, a2⟩ | ⟨X, who, g, p', r', rfl, rfl, rfl, rfl, hg, a1, a2, a3, J⟩
  · refine Askl.no (v := -1) h hL hw ?_ ?_
    · unfold P_counted
      rw [a1, bn_s, if_pos rfl]
    · unfold R_counted R_again
      rw [a2, bn_s, if_pos rfl, bn_s, if_pos rfl]
  · obtain ⟨fa, ta, ia, sa, ca, od, w', j1, j2, j3, j4, j5, j6, j7, j8, j9, j10, j11, j12, j13⟩ := id J
    have n1 : ¬ ((1 : Int32) = 0) := by decide
    have n2 : ¬ tI true = 0 := by decide
    have e37 := (j3 g hg).2.1
    have hP : P_counted (nj who) (nj (xd X)) (nj g) x4 (nj (xn X)) p = if (pyH (dat r) X none g).map ta = none then some (-1, p') else bn (P_Reckoning_repeat (nj g) p') fun _ m9 => bp (P_within x4 0 (mI m9 1043 28 - 1)) fun r12 => if r12 = 0 then some (-1, m9) else gd (inb x4 60) <| some (aI m9 40 (ix x4), m9) := by
      unfold P_counted
      rw [a1, bn_s, if_neg n1, inb_nj (by omega), gd_t (decide_eq_true hg), ix_nj (by omega), e37]
    cases c : pyH (dat r) X none g with
    | none =>
      refine (J.ask (v := -1) h ?_ ?_).mono (by omega)
      · rw [hP, c, if_pos (by rfl)]
      · unfold R_counted
        rw [again_no h24 hg a2 a3 j8 c, bn_s, if_pos rfl]
    | some k =>
      obtain ⟨p'', r'', S, b1, b2, b3, b4, b5, b6, b7, b8, b9, b10, b11, b12, b13, b14⟩ := both_again h hw1 hg a2 a3 J c
      by_cases q : 0 ≤ x4 ∧ x4 ≤ nj S.2.2.length - 1
      · have q' : 0 ≤ x4 ∧ x4 < nj S.2.2.length := by
          have : (0 : Int32) ≤ nj S.2.2.length := nj_0le (by omega)
          refine ⟨q.1, ?_⟩
          have := q.2
          grind
        obtain ⟨i, hi, rfl⟩ := nj_in' (by omega) q'
        have hci : S.2.2[i]? = some S.2.2[i] := List.getElem?_eq_getElem hi
        refine ⟨(dat r).1 16 S.2.2[i], p'', r'', ?_, ?_, b7, b8, b9, b10, b11, b12, b13, b14⟩
        · rw [hP, c, if_neg (by simp), b1, bn_s, b4.1, P_within_e, bp_s, decide_eq_true q, if_neg n2, inb_nj (by omega), gd_t (decide_eq_true (by omega)), ix_nj (by omega), b4.2 i _ hci]
        · unfold R_counted
          rw [b2, bn_s, if_neg n1, b5.1, R_in_e, bp_s, decide_eq_true q, if_neg n2, inb_nj (by omega), gd_t (decide_eq_true (by omega)), ix_nj (by omega), (b5.2 i _ hci).2]
      · refine ⟨-1, p'', r'', ?_, ?_, b7, b8, b9, b10, b11, b12, b13, b14⟩
        · rw [hP, c, if_neg (by simp), b1, bn_s, b4.1, P_within_e, bp_s, decide_eq_false q, if_pos (by rfl)]
        · unfold R_counted
          rw [b2, bn_s, if_neg n1, b5.1, R_in_e, bp_s, decide_eq_false q, if_pos (by rfl)]
end Pr
