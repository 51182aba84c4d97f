/-! Layer C: least, wet, claims, payments -/
/-- the least wage of a basket: the first g goods -/
def leS (D : Dt) (t : Int32) (q n : Nat) : Nat → Int32
  | 0 => 0
  | g + 1 => leS D t q n g + D.1 43 g * rP D t (nj g) n (q + 1)
def wetS (D : Dt) (f d : Int32) : Nat → Int32
  | 0 => 0
  | n + 1 => if D.1 44 n = 5 ∧ D.1 45 n = f ∧ D.1 46 n = d then D.1 48 n else wetS D f d n
def payS (D : Dt) (a w : Int32) : Nat → Int32
  | 0 => 0
  | n + 1 => payS D a w n + (if D.1 44 n = 9 ∧ D.1 45 n = a ∧ D.1 46 n = w then D.1 48 n else 0)
section Sd
variable {nc : Nat} {p r : Mem} {D : Dt} {fa ta : Nat → Nat}
theorem dat_43 {j : Nat} : (dat r).1 43 j = aI r 43 j := by
  have : msk (ix (mI r 1554 0)) 43 j = true := by unfold msk; simp
  show (if msk (ix (mI r 1554 0)) 43 j = true then aI r 43 j else 0) = _
  rw [if_pos this]
theorem R_leastOf_6_e (hD : dat r = D) {t : Int32} {q n : Nat} (hn : n ≤ 160) (hq : q ≤ 3) : ∀ (d g fu : Nat), g + d = 4 → d < fu → R_leastOf_6 fu t (nj q) (nj n) (leS D t q n g) (nj g) r = some (leS D t q n 4, r)
  | 0, g, fu + 1, hg, _ => by
    rw [R_leastOf_6.eq_2]
    simp (disch := omega) only [nj_l_le]
    rw [if_pos (by omega), show g = 4 by omega]
  | d + 1, g, fu + 1, hg, hf => by
    rw [R_leastOf_6.eq_2]
    simp (disch := omega) only [nj_l_le, inb_nj, ix_nj]
    rw [if_neg (by omega), gd_t (decide_eq_true (by omega)), R_priceOf_e hD hn hq, bn_s, vb_e, vb_e, ← dat_43, hD, nj_add_l]
    exact R_leastOf_6_e hD hn hq d (g + 1) fu (by omega) (by omega)
theorem R_leastOf_e (hD : dat r = D) {t : Int32} {q n : Nat} (hn : n ≤ 160) (hq : q ≤ 3) : R_leastOf t (nj q) (nj n) r = some (leS D t q n 4, r) := by
  unfold R_leastOf
  exact R_leastOf_6_e hD hn hq 4 0 FU (by omega) (by unfold FU; omega)
theorem P_basket_6_e (L : LFact fa ta p D) (W : WFact D nc) (h160 : D.2.2 ≤ 160) (hw : ∀ j, j < 4 → aI p 12 j = D.1 43 j) (ht : mT p 12 = 32) (hN : mN p 12 = 4) {t : Int32} {q n : Nat} (hn : n ≤ D.2.2) (hq : q ≤ 3) : ∀ (d g fu : Nat), g + d = 4 → d < fu → P_Ledger_basket_6 fu t (nj q) (nj n) (some 12) (leS D t q n g) (nj g) p = some (leS D t q n 4, p)
  | 0, g, fu + 1, hg, _ => by
    rw [P_Ledger_basket_6.eq_2, gs_s, gt_t ht, hN]
    simp (disch := omega) only [show Int32.ofNat 4 = nj 4 from rfl, nj_le]
    rw [if_pos (by omega), show g = 4 by omega]
  | d + 1, g, fu + 1, hg, hf => by
    rw [P_Ledger_basket_6.eq_2, gs_s, gt_t ht, hN]
    simp (disch := omega) only [show Int32.ofNat 4 = nj 4 from rfl, nj_le, inb_nj, ix_nj]
    rw [if_neg (by omega), gd_t (decide_eq_true (by omega)), P_lastPrice_e L W h160 hn hq, bn_s, vb_e, vb_e, hw g (by omega), nj_add_l]
    exact P_basket_6_e L W h160 hw ht hN hn hq d (g + 1) fu (by omega) (by omega)
theorem P_basket_e (L : LFact fa ta p D) (W : WFact D nc) (h160 : D.2.2 ≤ 160) (hw : ∀ j, j < 4 → aI p 12 j = D.1 43 j) (hp : PL p) {t : Int32} {q n : Nat} (hn : n ≤ D.2.2) (hq : q ≤ 3) : P_Ledger_basket t (nj q) (nj n) (some 12) p = some (leS D t q n 4, p) := by
  unfold P_Ledger_basket
  exact P_basket_6_e L W h160 hw (PC_12 hp).1 (PC_12 hp).2 hn hq 4 0 FU (by omega) (by unfold FU; omega)
theorem P_canKnow_e (h : Core nc p r) (x : Int32) : P_Ledger_canKnow x p = some (tI (decide (0 ≤ x ∧ x ≤ nj (dat r).2.2)), p) := by
  unfold P_Ledger_canKnow
  rw [P_within_e, bp_s, gz_tI, h.fc]
theorem R_isKnown_e (h : Core nc p r) (x : Int32) : R_isKnown x r = some (tI (decide (0 ≤ x ∧ x ≤ nj (dat r).2.2)), r) := by
  unfold R_isKnown
  rw [h.rfc]
  unfold tI
  grind
theorem st_priced (h : Core nc p r) (Ld : Land p r) (x y z w : Int32) : ∃ v, P_priced x y z w p = some (v, p) ∧ R_priced x y z w r = some (v, r) := by
  have hP := P_hasTown_e Ld x
  have h160 := h.f160
  have k1 := P_canKnow_e h w
  have k2 := R_isKnown_e h w
  obtain ⟨T, C2, W1, W2, e1, e2, e3, e4, e5, fa, ta, ia, sa, ca, od, L, hSc⟩ := id h
  by_cases q : (0 ≤ x ∧ x < mI r 1591 0) ∧ (0 ≤ y ∧ y ≤ 3) ∧ (0 ≤ z ∧ z ≤ 3) ∧ (0 ≤ w ∧ w ≤ nj (dat r).2.2)
  · obtain ⟨c1, c2, c3, c4⟩ := q
    obtain ⟨a, ha, rfl⟩ := nj_in (n := 3) (by omega) c2
    obtain ⟨b, hb, rfl⟩ := nj_in (by omega) c4
    refine ⟨rP (dat r) x z b (a + 1), ?_, ?_⟩
    · unfold P_priced
      simp [hP, P_isQuarter_e, P_within_e, k1, bn_s, bp_s, tI, c1, c2, c3, c4, P_lastPrice_e L.1 W2 h160 hb ha]
    · unfold R_priced
      simp [R_isTown_e, R_in_e, k2, bn_s, bp_s, tI, c1, c2, c3, c4, R_priceOf_e rfl (show b ≤ 160 by omega) ha]
  · refine ⟨-1, ?_, ?_⟩
    · unfold P_priced
      by_cases c1 : 0 ≤ x ∧ x < mI r 1591 0 <;> by_cases c2 : 0 ≤ y ∧ y ≤ 3 <;> by_cases c3 : 0 ≤ z ∧ z ≤ 3 <;> by_cases c4 : 0 ≤ w ∧ w ≤ nj (dat r).2.2 <;> simp [hP, P_isQuarter_e, P_within_e, k1, bn_s, bp_s, tI, c1, c2, c3, c4]
      exact (q ⟨c1, c2, c3, c4⟩).elim
    · unfold R_priced
      by_cases c1 : 0 ≤ x ∧ x < mI r 1591 0 <;> by_cases c2 : 0 ≤ y ∧ y ≤ 3 <;> by_cases c3 : 0 ≤ z ∧ z ≤ 3 <;> by_cases c4 : 0 ≤ w ∧ w ≤ nj (dat r).2.2 <;> simp [R_isTown_e, R_in_e, k2, bn_s, bp_s, tI, c1, c2, c3, c4]
      exact (q ⟨c1, c2, c3, c4⟩).elim
theorem Land.wgt (Ld : Land p r) : ∀ j, j < 4 → aI p 12 j = (dat r).1 43 j := by
  obtain ⟨to, fi, pe, h1, h2, h3, g1, g2, g3, g4, g5, g6, a1, a2, a3, a4, a5, a6, a7, -⟩ := Ld
  intro j _
  rw [dat_43, a7]
theorem st_least (h : Core nc p r) (Ld : Land p r) (hp : PL p) (x y w : Int32) : ∃ v, P_least x y w p = some (v, p) ∧ R_least x y w r = some (v, r) := by
  have hP := P_hasTown_e Ld x
  have h160 := h.f160
  have k1 := P_canKnow_e h w
  have k2 := R_isKnown_e h w
  obtain ⟨T, C2, W1, W2, e1, e2, e3, e4, e5, fa, ta, ia, sa, ca, od, L, hSc⟩ := id h
  by_cases q : (0 ≤ x ∧ x < mI r 1591 0) ∧ (0 ≤ y ∧ y ≤ 3) ∧ (0 ≤ w ∧ w ≤ nj (dat r).2.2)
  · obtain ⟨c1, c2, c4⟩ := q
    obtain ⟨a, ha, rfl⟩ := nj_in (n := 3) (by omega) c2
    obtain ⟨b, hb, rfl⟩ := nj_in (by omega) c4
    refine ⟨leS (dat r) x a b 4, ?_, ?_⟩
    · unfold P_least
      simp [hP, P_isQuarter_e, k1, bn_s, bp_s, tI, c1, c2, c4, P_basket_e L.1 W2 h160 Ld.wgt hp hb ha]
    · unfold R_least
      simp [R_isTown_e, R_in_e, k2, bn_s, bp_s, tI, c1, c2, c4, R_leastOf_e rfl (show b ≤ 160 by omega) ha]
  · refine ⟨-1, ?_, ?_⟩
    · unfold P_least
      by_cases c1 : 0 ≤ x ∧ x < mI r 1591 0 <;> by_cases c2 : 0 ≤ y ∧ y ≤ 3 <;> by_cases c4 : 0 ≤ w ∧ w ≤ nj (dat r).2.2 <;> simp [hP, P_isQuarter_e, k1, bn_s, bp_s, tI, c1, c2, c4]
      exact (q ⟨c1, c2, c4⟩).elim
    · unfold R_least
      by_cases c1 : 0 ≤ x ∧ x < mI r 1591 0 <;> by_cases c2 : 0 ≤ y ∧ y ≤ 3 <;> by_cases c4 : 0 ≤ w ∧ w ≤ nj (dat r).2.2 <;> simp [R_isTown_e, R_in_e, k2, bn_s, bp_s, tI, c1, c2, c4]
      exact (q ⟨c1, c2, c4⟩).elim
theorem R_wetOf_5_e (hD : dat r = D) {x1 x2 : Int32} : ∀ (j fu : Nat), j < fu → j ≤ 160 → R_wetOf_5 fu x1 x2 (nj j - 1) r = some (wetS D x1 x2 j, r)
  | 0, fu + 1, _, _ => by
    rw [R_wetOf_5.eq_2, nj_0m1, if_pos (by decide)]
    rfl
  | j + 1, fu + 1, h, h160 => by
    have ih := R_wetOf_5_e hD (x1 := x1) (x2 := x2) j fu (by omega) (by omega)
    have e51 : R_wetOf_51 (fun z0 z1 z2 z3 => R_wetOf_5 fu z0 z1 z2 z3) x1 x2 (nj j) r = R_wetOf_5 fu x1 x2 (nj j - 1) r := by
      unfold R_wetOf_51
      rw [vb_e, nj_am1]
    have e43 : R_wetOf_43 (nj j) r = some (D.1 48 j, r) := by
      unfold R_wetOf_43
      rw [inb_nj (by omega), gd_t (decide_eq_true (by omega)), ix_nj (by omega), ← hD, dat_44 (by omega)]
    rw [R_wetOf_5.eq_2, nj_pred, e51, e43, ih]
    simp (disch := omega) only [nj_nneg, if_false, inb_nj, ix_nj]
    rw [gd_t (decide_eq_true (by omega)), gd_t (decide_eq_true (by omega)), gd_t (decide_eq_true (by omega)), ← dat_44 (r := r) (x := 44) (by omega), ← dat_44 (r := r) (x := 45) (by omega), ← dat_44 (r := r) (x := 46) (by omega), hD]
    have hl : wetS D x1 x2 (j + 1) = if D.1 44 j = 5 ∧ D.1 45 j = x1 ∧ D.1 46 j = x2 then D.1 48 j else wetS D x1 x2 j := rfl
    rw [hl]
    by_cases c1 : D.1 44 j = 5 <;> by_cases c2 : D.1 45 j = x1 <;> by_cases c3 : D.1 46 j = x2 <;> simp only [c1, c2, c3, if_true, if_false, and_self, and_true, true_and, and_false, false_and]
theorem R_wetOf_e (hD : dat r = D) {x1 x2 : Int32} {n : Nat} (hn : n ≤ 160) : R_wetOf x1 x2 (nj n) r = some (wetS D x1 x2 n, r) := by
  unfold R_wetOf
  rw [vb_e]
  exact R_wetOf_5_e hD n FU (by unfold FU; omega) hn
theorem P_lastWet_6_e (L : LFact fa ta p D) (h160 : D.2.2 ≤ 160) {x1 x2 : Int32} {n : Nat} (hn : n ≤ D.2.2) : ∀ (d i fu : Nat), i + d = n → d < fu → P_Ledger_lastWet_6 fu x1 x2 (nj n) (wetS D x1 x2 i) (nj i) p = some (wetS D x1 x2 n, p)
  | 0, i, fu + 1, hi, _ => by
    rw [P_Ledger_lastWet_6.eq_2]
    simp (disch := omega) only [nj_le]
    rw [if_pos (by omega), show i = n by omega]
  | d + 1, i, fu + 1, hi, hf => by
    have ih := P_lastWet_6_e L h160 (x1 := x1) (x2 := x2) hn d (i + 1) fu (by omega) (by omega)
    obtain ⟨z1, z2, -⟩ := L.2 i (by omega)
    have e80 : ∀ a, P_Ledger_lastWet_66 (fun z0 z1 z2 z3 z4 z5 => P_Ledger_lastWet_6 fu z0 z1 z2 z3 z4 z5) x1 x2 (nj n) a (nj i) p = P_Ledger_lastWet_6 fu x1 x2 (nj n) a (nj (i + 1)) p := fun a => by
      unfold P_Ledger_lastWet_66
      rw [vb_e, nj_add_l]
    rw [P_Ledger_lastWet_6.eq_2]
    simp (disch := omega) only [nj_le, inb_nj, ix_nj, e80, z1, gs_s, gt_t z2.2.1, vb_e]
    rw [if_neg (by omega), gd_t (decide_eq_true (by omega)), gd_t (decide_eq_true (by omega)), gd_t (decide_eq_true (by omega)), gd_t (decide_eq_true (by omega)), z2.2.2.2.2.1]
    have hstep : wetS D x1 x2 (i + 1) = if D.1 44 i = 5 ∧ D.1 45 i = x1 ∧ D.1 46 i = x2 then D.1 48 i else wetS D x1 x2 i := rfl
    rw [hstep] at ih
    by_cases c1 : D.1 44 i = 5
    · obtain ⟨y2, y4⟩ := z2.2.2.2.2.2.2.2.1 (Or.inl c1)
      have y1 := (z2.2.2.2.2.2.1 (by rw [c1]; decide)).2
      rw [y1, y2, y4]
      by_cases c2 : D.1 45 i = x1 <;> by_cases c3 : D.1 46 i = x2 <;> simp only [c1, c2, c3, if_true, if_false, and_self, and_true, true_and, and_false, false_and] at ih ⊢ <;> exact ih
    · rw [if_neg c1]
      rw [if_neg (fun z => c1 z.1)] at ih
      exact ih
theorem P_lastWet_e (L : LFact fa ta p D) (h160 : D.2.2 ≤ 160) {x1 x2 : Int32} {n : Nat} (hn : n ≤ D.2.2) : P_Ledger_lastWet x1 x2 (nj n) p = some (wetS D x1 x2 n, p) := by
  unfold P_Ledger_lastWet
  exact P_lastWet_6_e L h160 hn n 0 FU (by omega) (by unfold FU; omega)
theorem P_lastClaim_6_e (L : LFact fa ta p D) (h160 : D.2.2 ≤ 160) {s x1 x2 : Int32} (hs : s = 7 ∨ s = 8) : ∀ (d i fu : Nat), i + d = D.2.2 → d < fu → P_Ledger_lastClaim_6 fu s x1 x2 (claimS D s x1 x2 i) (nj i) p = some (claimS D s x1 x2 D.2.2, p)
  | 0, i, fu + 1, hi, _ => by
    rw [P_Ledger_lastClaim_6.eq_2, L.1]
    simp (disch := omega) only [nj_le]
    rw [if_pos (by omega), show i = D.2.2 by omega]
  | d + 1, i, fu + 1, hi, hf => by
    have ih := P_lastClaim_6_e L h160 (x1 := x1) (x2 := x2) hs d (i + 1) fu (by omega) (by omega)
    obtain ⟨z1, z2, -⟩ := L.2 i (by omega)
    have e80 : ∀ a, P_Ledger_lastClaim_69 (fun z0 z1 z2 z3 z4 z5 => P_Ledger_lastClaim_6 fu z0 z1 z2 z3 z4 z5) s x1 x2 a (nj i) p = P_Ledger_lastClaim_6 fu s x1 x2 a (nj (i + 1)) p := fun a => by
      unfold P_Ledger_lastClaim_69
      rw [vb_e, nj_add_l]
    rw [P_Ledger_lastClaim_6.eq_2, L.1]
    simp (disch := omega) only [nj_le, inb_nj, ix_nj, e80, z1, gs_s, gt_t z2.2.1, vb_e]
    rw [if_neg (by omega), gd_t (decide_eq_true (by omega)), gd_t (decide_eq_true (by omega)), gd_t (decide_eq_true (by omega)), gd_t (decide_eq_true (by omega)), z2.2.2.2.2.1]
    have hstep : claimS D s x1 x2 (i + 1) = if D.1 44 i = s ∧ D.1 45 i = x1 ∧ D.1 46 i = x2 then D.1 48 i else claimS D s x1 x2 i := rfl
    rw [hstep] at ih
    by_cases c1 : D.1 44 i = s
    · obtain ⟨y2, y4⟩ := z2.2.2.2.2.2.2.2.2.2.1 (by rw [c1]; exact hs)
      have y1 := (z2.2.2.2.2.2.1 (by rw [c1]; rcases hs with rfl | rfl <;> decide)).2
      rw [y1, y2, y4]
      by_cases c2 : D.1 45 i = x1 <;> by_cases c3 : D.1 46 i = x2 <;> simp only [c1, c2, c3, if_true, if_false, and_self, and_true, true_and, and_false, false_and] at ih ⊢ <;> exact ih
    · rw [if_neg c1]
      rw [if_neg (fun z => c1 z.1)] at ih
      exact ih
theorem P_lastClaim_e (L : LFact fa ta p D) (h160 : D.2.2 ≤ 160) {s x1 x2 : Int32} (hs : s = 7 ∨ s = 8) : P_Ledger_lastClaim s x1 x2 p = some (claimS D s x1 x2 D.2.2, p) := by
  unfold P_Ledger_lastClaim
  exact P_lastClaim_6_e L h160 hs D.2.2 0 FU (by omega) (by unfold FU; omega)
theorem P_payments_6_e (L : LFact fa ta p D) (h160 : D.2.2 ≤ 160) {x1 x2 : Int32} {n : Nat} (hn : n ≤ D.2.2) : ∀ (d i fu : Nat), i + d = n → d < fu → P_Ledger_payments_6 fu x1 x2 (nj n) (payS D x1 x2 i) (nj i) p = some (payS D x1 x2 n, p)
  | 0, i, fu + 1, hi, _ => by
    rw [P_Ledger_payments_6.eq_2]
    simp (disch := omega) only [nj_le]
    rw [if_pos (by omega), show i = n by omega]
  | d + 1, i, fu + 1, hi, hf => by
    have ih := P_payments_6_e L h160 (x1 := x1) (x2 := x2) hn d (i + 1) fu (by omega) (by omega)
    obtain ⟨z1, z2, -⟩ := L.2 i (by omega)
    have e80 : ∀ a, P_Ledger_payments_70 (fun z0 z1 z2 z3 z4 z5 => P_Ledger_payments_6 fu z0 z1 z2 z3 z4 z5) x1 x2 (nj n) a (nj i) p = P_Ledger_payments_6 fu x1 x2 (nj n) a (nj (i + 1)) p := fun a => by
      unfold P_Ledger_payments_70
      rw [vb_e, nj_add_l]
    rw [P_Ledger_payments_6.eq_2]
    simp (disch := omega) only [nj_le, inb_nj, ix_nj, e80, z1, gs_s, gt_t z2.2.1, vb_e]
    rw [if_neg (by omega), gd_t (decide_eq_true (by omega)), gd_t (decide_eq_true (by omega)), gd_t (decide_eq_true (by omega)), gd_t (decide_eq_true (by omega)), z2.2.2.2.2.1]
    have hstep : payS D x1 x2 (i + 1) = payS D x1 x2 i + (if D.1 44 i = 9 ∧ D.1 45 i = x1 ∧ D.1 46 i = x2 then D.1 48 i else 0) := rfl
    rw [hstep] at ih
    by_cases c1 : D.1 44 i = 9
    · obtain ⟨y2, y4⟩ := z2.2.2.2.2.2.2.2.1 (Or.inr c1)
      have y1 := (z2.2.2.2.2.2.1 (by rw [c1]; decide)).2
      rw [y1, y2, y4]
      by_cases c2 : D.1 45 i = x1 <;> by_cases c3 : D.1 46 i = x2 <;> simp only [c1, c2, c3, if_true, if_false, and_self, and_true, true_and, and_false, false_and, Int32.add_zero] at ih ⊢ <;> exact ih
    · rw [if_neg c1]
      rw [if_neg (fun z => c1 z.1), Int32.add_zero] at ih
      exact ih
theorem P_payments_e (L : LFact fa ta p D) (h160 : D.2.2 ≤ 160) {x1 x2 : Int32} {n : Nat} (hn : n ≤ D.2.2) : P_Ledger_payments x1 x2 (nj n) p = some (payS D x1 x2 n, p) := by
  unfold P_Ledger_payments
  exact P_payments_6_e L h160 hn n 0 FU (by omega) (by unfold FU; omega)
end Sd
