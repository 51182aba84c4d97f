/-! Layer C: loads and extras -/
section Eq
variable {D D' : Dt}
theorem segS_27 (h : ∀ y, 27 ≤ y → y ≤ 34 → D'.1 y = D.1 y) (a b : Nat) : segS D' a b = segS D a b := by
  unfold segS
  rw [h 33 (by omega) (by omega), h 34 (by omega) (by omega)]
theorem litS_27 (h : ∀ y, 27 ≤ y → y ≤ 34 → D'.1 y = D.1 y) (nt : Nat → Nat) (l : Nat) : litS D' nt l = litS D nt l := by
  unfold litS
  simp only [segS_27 h, h 27 (by omega) (by omega), h 30 (by omega) (by omega), h 31 (by omega) (by omega), h 32 (by omega) (by omega), h 34 (by omega) (by omega)]
theorem conS_27 (h : ∀ y, 27 ≤ y → y ≤ 34 → D'.1 y = D.1 y) {nt : Nat → Nat} : ∀ (pa po : Bool) (l : List Nat), conS D' nt pa po l = conS D nt pa po l
  | _, _, [] => rfl
  | pa, po, [k] => by
    unfold conS
    rw [litS_27 h]
  | pa, po, k :: k2 :: l => by
    unfold conS
    rw [litS_27 h, h 29 (by omega) (by omega), conS_27 h false true (k2 :: l), conS_27 h true po (k2 :: l)]
theorem wfC_27 (h : ∀ y, 27 ≤ y → y ≤ 34 → D'.1 y = D.1 y) : ∀ (n c d : Nat), wfC D' c n d = wfC D c n d
  | 0, _, _ => rfl
  | n + 1, c, d => by
    unfold wfC
    rw [h 33 (by omega) (by omega), h 34 (by omega) (by omega), wfC_27 h n, wfC_27 h n]
theorem WLit_27 (h : ∀ y, 27 ≤ y → y ≤ 34 → D'.1 y = D.1 y) (h2 : D'.2.1 = D.2.1) (l : Nat) : WLit D' l = WLit D l := by
  unfold WLit
  simp only [h 27 (by omega) (by omega), h 28 (by omega) (by omega), h 29 (by omega) (by omega), h 30 (by omega) (by omega), h 31 (by omega) (by omega), h 32 (by omega) (by omega), h 34 (by omega) (by omega), h2, wfC_27 h]
end Eq
section Il
variable {N : Nat} {kd pl : Nat → Nat} {x a i l c : Nat} {p r : Mem} {t nm : Nat}
/-- what the parts behind a load's E leave: its COND, its bars -/
def LdC (N : Nat) (kd pl : Nat → Nat) (x a i l c : Nat) (p r : Mem) (t nm : Nat) (p' r' : Mem) (t' nm' l' c' ca k : Nat) (nt : Nat → Nat) : Prop :=
  Pi N kd pl x p' r' t' nm' l' c' ∧ Sp 1 a i l c p r p' r' t t' nm nm' ∧ l ≤ l' ∧ c ≤ c' ∧ (l < l' → aI r' 29 l = 1) ∧ (∀ k, l ≤ k → k < l' → aI r' 28 k = tI (odd (nt k))) ∧ (mI r' 1551 0 = 0 → ∀ k, l ≤ k → k < l' → WLit (rwD r' x) k) ∧ mR p' 263 a = some ca ∧ (51 ≤ ca ∧ a < ca) ∧ Arr p' ca (conS (rwD r' x) nt false false (List.range' l (l' - l))) ∧ mR p' 262 a = mR p 262 a ∧ Bb a i nm' k p' r' ∧ (∀ f, 256 ≤ f → f ≤ 268 → f ≠ 262 → f ≠ 263 → mI p' f a = mI p f a) ∧ (∀ b, b < mC p → mT p' b = mT p b) ∧ (∀ y j, 15 ≤ y → y ≤ 24 → aI r' y j = aI r y j) ∧ ∀ k, l ≤ k → k < l' → LB r' k c'
theorem bars_i (h : Pi N kd pl x p r t nm l c) (hi : i < 750) (ha : mT p a = 3) (hB : Bb a i nm 0 p r) :
    (∃ p' r' t' nm' k', P_Parser_takeBody_222 (some a) p = some (1, p') ∧ R_tellLoad_61 FU (nj i) r = some ((), r') ∧ Pi N kd pl x p' r' t' nm' l c ∧ Sp 0 a i l c p r p' r' t t' nm nm' ∧ Bb a i nm' k' p' r' ∧ (∀ f, 256 ≤ f → f ≤ 268 → mI p' f a = mI p f a ∧ (f ≠ 264 → mL p' f a = mL p f a) ∧ mR p' f a = mR p f a) ∧ (∀ b, b < mC p → mT p' b = mT p b) ∧ (∀ y j, 15 ≤ y → y ≤ 34 → y ≠ 25 → y ≠ 26 → aI r' y j = aI r y j)) ∨
    (∃ p' r', P_Parser_takeBody_222 (some a) p = some (0, p') ∧ R_tellLoad_61 FU (nj i) r = some ((), r') ∧ Bi 0 a i l c t nm p r p' r') := by
  unfold P_Parser_takeBody_222 P_Parser_takeBars
  rcases bars_j (N := N) (kd := kd) (pl := pl) (x := x) (a := a) (l := l) (c := c) hi 4 0 p r t nm FU FU (by omega) h ha hB (by unfold FU; omega) (by unfold FU; omega) with ⟨p', r', t', nm', k', b1, b2⟩ | ⟨p', r', b1, b2, b3⟩
  · left
    have b1' : P_Parser_takeBars_2 FU (some a) 0 p = _ := b1
    rw [b1', bn_s, if_neg (show ¬ (1 : Int32) = 0 by decide)]
    exact ⟨p', r', t', nm', k', rfl, b2⟩
  · right
    have b1' : P_Parser_takeBars_2 FU (some a) 0 p = _ := b1
    rw [b1', bn_s, if_pos rfl]
    exact ⟨p', r', rfl, b2, b3⟩
/-- the COND, if there is one, and the bars -/
theorem ldc_j (h : Pi N kd pl x p r t nm l c) (ht : 5 ≤ t) (hi : i < 750) (ha : mT p a = 3) (hB : Bb a i nm 0 p r) {ca0 : Nat} (hc1 : mR p 263 a = some ca0) (hc2 : 51 ≤ ca0 ∧ a < ca0) (hc3 : Arr p ca0 []) :
    (∃ p' r' t' nm' l' c' ca k nt, (gd (inb (mI p 779 22) 501) (if aI p 18 (ix (mI p 779 22)) = 47 then bn (P_Parser_take p) fun r65 m66 => if r65 = 0 then some (0, m66) else bn (P_Parser_takeFormula (some a) 1 m66) fun r70 m71 => if r70 = 0 then some (0, m71) else P_Parser_takeBody_222 (some a) m71 else P_Parser_takeBody_222 (some a) p)) = some (1, p') ∧ (bn (R_is 27 r) fun r25 m26 => if r25 = 0 then R_tellLoad_61 FU (nj i) m26 else bn (R_next m26) fun _ m31 => bn (R_cond m31) fun _ m35 => R_tellLoad_61 FU (nj i) m35) = some ((), r') ∧ LdC N kd pl x a i l c p r t nm p' r' t' nm' l' c' ca k nt) ∨
    (∃ p' r', (gd (inb (mI p 779 22) 501) (if aI p 18 (ix (mI p 779 22)) = 47 then bn (P_Parser_take p) fun r65 m66 => if r65 = 0 then some (0, m66) else bn (P_Parser_takeFormula (some a) 1 m66) fun r70 m71 => if r70 = 0 then some (0, m71) else P_Parser_takeBody_222 (some a) m71 else P_Parser_takeBody_222 (some a) p)) = some (0, p') ∧ (bn (R_is 27 r) fun r25 m26 => if r25 = 0 then R_tellLoad_61 FU (nj i) m26 else bn (R_next m26) fun _ m31 => bn (R_cond m31) fun _ m35 => R_tellLoad_61 FU (nj i) m35) = some ((), r') ∧ Bi 1 a i l c t nm p r p' r') := by
  have hT := h.tN
  have T := h.T
  have la : a < mC p := T.lt (by rw [ha]; decide)
  have e47 : (nj (kd t) = 47) = (kd t = 47) := nj_eq_l (by have := h.kd3.1; omega) (by omega)
  obtain ⟨nF, hnF⟩ : ∃ n, FU = n + 1 := ⟨FU - 1, by unfold FU; omega⟩
  rw [h.1.2.2.1, inb_nj (by omega), gd_t (decide_eq_true (by omega)), ix_nj (by omega), h.kd3.2.1, h.is 47 (by omega) (y := 27) rfl, bn_s]
  by_cases z : kd t = 47
  · rw [if_pos (e47.mpr z), decide_eq_true z, tI_t, if_neg (show ¬ (1 : Int32) = 0 by decide)]
    rcases take_i (a := a) (i := i) h (by omega) with ⟨p1, r1, d1, d2, d3, d4, d5, d6, d7, d8, d9, d10, d11⟩ | ⟨p1, r1, d1, d2, d3⟩
    · rw [d1, bn_s, if_neg (show ¬ (1 : Int32) = 0 by decide), d2, bn_s]
      have ec1 : mC p1 = mC p := by rw [d10, k_mC_sI]
      rcases cond_i (a := a) (i := i) d3 (by omega) (by have := h.2.2.2.2.2.1; omega) (by rw [d8]; exact ha) with ⟨p2, r2, t2, l2, c2, nt, f1, f2, f3, f4, f5, f6, f7, f8, f9, f10, f11, f12, f13, f14, f15, f16, f17⟩ | ⟨p2, r2, f1, f2, f3⟩
      · rw [f1, bn_s, if_neg (show ¬ (1 : Int32) = 0 by decide), f2, bn_s]
        rw [ec1] at f11 f12 f15 f17
        have hB2 : Bb a i nm 0 p2 r2 := by
          refine ⟨by omega, by rw [f16 25 i (by omega) (by omega), d9]; exact hB.2.1, (fun b hb => absurd hb (Nat.not_lt_zero b)), fun hn u hu => ?_⟩
          rw [(f14 264 (by omega) (by omega) (by omega) (by omega)).2, d6]
          refine ⟨fun w => ?_, (fun ⟨b, hb, _⟩ => absurd hb (Nat.not_lt_zero b))⟩
          obtain ⟨b, hb, -⟩ := (hB.2.2.2 hn u hu).mp w
          exact absurd hb (Nat.not_lt_zero b)
        have ha2 : mT p2 a = 3 := by rw [f15 a la, d8]; exact ha
        have la2 : a < mC p2 := by omega
        rcases bars_i (a := a) (i := i) f3 hi ha2 hB2 with ⟨p3, r3, t3, nm3, k3, g1, g2, g3, g4, g5, g6, g7, g8⟩ | ⟨p3, r3, g1, g2, g3⟩
        · left
          have e27 : ∀ y, 27 ≤ y → y ≤ 34 → (rwD r3 x).1 y = (rwD r2 x).1 y := fun y y1 y2 => funext fun j => g8 y j (by omega) y2 (by omega) (by omega)
          have hSS : Sp 1 a i l c p r p3 r3 t t3 nm nm3 := Sp.trans (n := 0) (n' := 1) d4 (Sp.trans (n := 1) (n' := 0) f4 g4 (by omega) f7) (Nat.le_refl _) (Nat.le_refl _)
          refine ⟨p3, r3, t3, nm3, l2, c2, mC p, k3, nt, g1, g2, g3, hSS, by omega, f7, fun _ => by rw [g8 29 l (by omega) (by omega) (by omega) (by omega)]; exact f8, fun q q1 q2 => by rw [g8 28 q (by omega) (by omega) (by omega) (by omega)]; exact f9 q q1 q2, fun w q q1 q2 => ?_, by rw [(g6 263 (by omega) (by omega)).2.2]; exact f12, ⟨T.1, la⟩, ?_, by rw [(g6 262 (by omega) (by omega)).2.2, f13, d7], g5, fun q q1 q2 q3 q4 => by rw [(g6 q q1 q2).1, (f14 q q1 q2 q3 q4).1, d5 q (by omega)], fun b hb => by rw [g7 b (by omega), f15 b hb, d8], fun y j y1 y2 => by rw [g8 y j y1 (by omega) (by omega) (by omega), f16 y j y1 (by omega), d9], fun q q1 q2 => (f17.2 q q1 q2).st (fun y y1 y2 => g8 y q (by omega) (by omega) (by omega) (by omega)) (Nat.le_refl _) (f17.2 q q1 q2).1⟩
          · rw [WLit_27 e27 rfl]
            exact f10 (g4.2.2.2.2.2.2.2.2.2 w) q q1 q2
          · rw [conS_27 e27]
            exact f11.Ch f3.T g4.1.1 (by have := T.1; simp only [List.mem_cons, List.not_mem_nil, or_false]; omega) (fun z => z)
        · right
          exact ⟨p3, r3, g1, g2, Sp.bi (n := 0) (n' := 1) d4 (Sp.bi (n := 1) (n' := 0) f4 g3 (by omega) f7) (Nat.le_refl _) (Nat.le_refl _)⟩
      · right
        obtain ⟨r'', g1, g2⟩ := f3.go (F := fun m => R_tellLoad_61 FU (nj i) m) d3.p82 (fun d q hq _ => by
          rw [hnF, e61_f hq]
          exact ⟨_, rfl, hq, Rj.rfl⟩)
        rw [f1, bn_s, if_pos rfl, f2, bn_s]
        have g3 := Sp.bi (n := 0) (n' := 0) d4 g2 (Nat.le_refl _) (Nat.le_refl _)
        exact ⟨p2, r'', rfl, g1, g3.1, g3.2.1, g3.2.2.1, by have := g3.2.2.2.1; omega, g3.2.2.2.2⟩
    · right
      obtain ⟨r'', g1, g2⟩ := d3.go (F := fun m => bn (R_cond m) fun _ m35 => R_tellLoad_61 FU (nj i) m35) h.p82 (fun d q hq _ => by
        rw [cond_f hq, bn_s, hnF, e61_f hq]
        exact ⟨_, rfl, hq, Rj.rfl⟩)
      rw [d1, bn_s, if_pos rfl, d2, bn_s]
      exact ⟨p1, r'', rfl, g1, g2.1, g2.2.1, g2.2.2.1, by have := g2.2.2.2.1; omega, g2.2.2.2.2⟩
  · rw [if_neg (fun w => z (e47.mp w)), decide_eq_false z, tI_f, if_pos rfl]
    rcases bars_i (a := a) (i := i) h hi ha hB with ⟨p3, r3, t3, nm3, k3, g1, g2, g3, g4, g5, g6, g7, g8⟩ | ⟨p3, r3, g1, g2, g3⟩
    · left
      refine ⟨p3, r3, t3, nm3, l, c, ca0, k3, fun _ => 0, g1, g2, g3, ?_, Nat.le_refl _, Nat.le_refl _, (fun q => by omega), (fun q q1 q2 => by omega), (fun w q q1 q2 => by omega), by rw [(g6 263 (by omega) (by omega)).2.2]; exact hc1, hc2, ?_, (g6 262 (by omega) (by omega)).2.2, g5, fun q q1 q2 q3 q4 => (g6 q q1 q2).1, g7, fun y j y1 y2 => g8 y j y1 (by omega) (by omega) (by omega), (fun q q1 q2 => by omega)⟩
      · obtain ⟨s1, s2, s3, s4, s5⟩ := g4
        exact ⟨s1, s2, s3, by omega, s5⟩
      · rw [Nat.sub_self]
        exact hc3.Ch T g4.1.1 (by simp only [List.mem_cons, List.not_mem_nil, or_false]; omega) (fun z => z)
    · right
      exact ⟨p3, r3, g1, g2, g3.1, g3.2.1, g3.2.2.1, by have := g3.2.2.2.1; omega, g3.2.2.2.2⟩
end Il
