/-! Layer C: conditions -/
def WLit (D : Dt) (l : Nat) : Prop := (D.1 28 l = 0 ∨ D.1 28 l = 1) ∧ (D.1 29 l = 0 ∨ D.1 29 l = 1) ∧ ((D.1 27 l = 4 ∧ ∃ c v, c < 500 * D.2.1 ∧ v < 8 ∧ D.1 30 l = nj c ∧ D.1 34 c = nj v) ∨ (∃ s a b e, s < 4 ∧ D.1 27 l = nj s ∧ a ≤ b ∧ b ≤ e ∧ e ≤ 500 * D.2.1 ∧ D.1 30 l = nj a ∧ D.1 31 l = nj b ∧ D.1 32 l = nj e ∧ wfC D a (b - a) 0 ∧ wfC D b (e - b) 0))
def cmpS (s a b : Int32) : Bool := if s = 0 then decide (a = b) else if s = 1 then decide (a ≠ b) else if s = 2 then decide (a < b) else decide (a ≤ b)
def rawT (D : Dt) (vs : Nat → Int32) (tk : Int32) (l : Nat) : Bool := if D.1 27 l = 4 then decide ((tk >>> (D.1 34 (ix (D.1 30 l)) &&& 31)) &&& 1 = 1) else !(brkS D vs (ix (D.1 30 l)) (ix (D.1 31 l)) || brkS D vs (ix (D.1 31 l)) (ix (D.1 32 l))) && cmpS (D.1 27 l) (valS D vs (ix (D.1 30 l)) (ix (D.1 31 l))) (valS D vs (ix (D.1 31 l)) (ix (D.1 32 l)))
def litT (D : Dt) (vs : Nat → Int32) (tk : Int32) (l : Nat) : Bool := rawT D vs tk l != decide (D.1 28 l = 1)
theorem and1 (x : Int32) : x &&& 1 = tI (x.toBitVec.getLsbD 0) := by
  apply Int32.toBitVec.inj
  show x.toBitVec &&& 1#32 = _
  rw [BitVec.and_one_eq_setWidth_ofBool_getLsbD]
  cases x.toBitVec.getLsbD 0 <;> rfl
theorem tI_1 (p : Bool) : (tI p = 1) = (p = true) := by cases p <;> simp [tI]
theorem tI_bit (x : Int32) : x &&& 1 = tI (decide (x &&& 1 = 1)) := by
  rw [and1]
  cases x.toBitVec.getLsbD 0 <;> rfl
section Cd
variable {r : Mem} {D : Dt} {vs : Nat → Int32} {tk : Int32}
theorem dat_27 (hD : dat r = D) {x c : Nat} (hx : 27 ≤ x ∧ x ≤ 32) (hc : c < 200 * D.2.1) : aI r x c = D.1 x c := by
  subst hD
  have : msk (ix (mI r 1554 0)) x c = true := by
    have : (dat r).2.1 = ix (mI r 1554 0) := rfl
    unfold msk
    grind
  show _ = (if msk (ix (mI r 1554 0)) x c = true then aI r x c else 0)
  rw [if_pos this]
theorem dat_15 (hD : dat r = D) {x c : Nat} (hx : 15 ≤ x ∧ x ≤ 25) (hc : c < 30 * D.2.1) : aI r x c = D.1 x c := by
  subst hD
  have : msk (ix (mI r 1554 0)) x c = true := by
    have : (dat r).2.1 = ix (mI r 1554 0) := rfl
    unfold msk
    grind
  show _ = (if msk (ix (mI r 1554 0)) x c = true then aI r x c else 0)
  rw [if_pos this]
theorem dat_Ch51 {r' : Mem} (hD : dat r = D) (hC : 82 ≤ mC r) (c : Ch [1610] [51] nil r r') : dat r' = D := by rw [← hD]; exact dat_Ch c hC (by decide) (by decide)
theorem R_isTrue_199_e (hD : dat r = D) (h24 : D.2.1 ≤ 24) {l : Nat} (hl : l < 200 * D.2.1) (h28 : D.1 28 l = 0 ∨ D.1 28 l = 1) (y : Bool) : R_isTrue_199 (nj l) (tI y) r = some (tI (y != decide (D.1 28 l = 1)), r) := by
  unfold R_isTrue_199
  rw [inb_nj (by omega), gd_t (decide_eq_true (by omega)), ix_nj (by omega), dat_27 hD (by omega) hl]
  rcases h28 with h | h <;> rw [h] <;> cases y <;> rfl
theorem R_isTrue_e (hD : dat r = D) (h24 : D.2.1 ≤ 24) {l : Nat} (hl : l < 200 * D.2.1) (hw : WLit D l) (hv : ∀ j, j < 12 → aI r 50 j = vs j) (htk : mI r 1611 0 = tk) (hC : 82 ≤ mC r) : ∃ r', R_isTrue (nj l) r = some (tI (litT D vs tk l), r') ∧ Ch [1610] [51] nil r r' ∧ mC r' = mC r := by
  obtain ⟨h28, h29, hw⟩ := hw
  have e27 := dat_27 hD (x := 27) (by omega) hl
  have e30 := dat_27 hD (x := 30) (by omega) hl
  have e31 := dat_27 hD (x := 31) (by omega) hl
  have g0 : ∀ {β : Type} (k : Option β), gd (inb (nj l) 5000) k = k := fun k => by rw [inb_nj (by omega), gd_t (decide_eq_true (by omega))]
  have il : ix (nj l) = l := ix_nj (by omega)
  unfold R_isTrue
  simp only [g0, il, e27, e30, e31]
  rcases hw with ⟨h4, c, v, hc, hv8, e1, e2⟩ | ⟨s, a, b, e, hs, e1, hab, hbe, he, ea, eb, ee, w1, w2⟩
  · have hic : ix (nj c) = c := ix_nj (by omega)
    refine ⟨r, ?_, Ch.rfl, rfl⟩
    rw [if_pos h4, e1, inb_nj (by omega), gd_t (decide_eq_true (by omega)), hic, dat_33 hD (Or.inr rfl) hc, htk]
    unfold litT rawT
    rw [if_pos h4, e1, hic]
    by_cases q : (tk >>> (D.1 34 c &&& 31)) &&& 1 = 1
    · rw [if_pos q, decide_eq_true q]
      exact R_isTrue_199_e hD h24 hl h28 true
    · rw [if_neg q, decide_eq_false q]
      exact R_isTrue_199_e hD h24 hl h28 false
  · rw [if_neg (by rw [e1, nj_eq_l (by omega) (by omega)]; omega), ea, eb]
    obtain ⟨r1, t1, t2, t3, t4⟩ := R_termOf_e (vs := vs) h24 (show b ≤ 500 * D.2.1 by omega) hab hD hv hC w1
    have hD1 := dat_Ch51 hD hC t2
    rw [t1, bn_s, vb_e, dat_27 hD1 (x := 31) (by omega) hl, dat_27 hD1 (x := 32) (by omega) hl, eb, ee]
    obtain ⟨r2, u1, u2, u3, u4⟩ := R_termOf_e (vs := vs) (r := r1) h24 he hbe hD1 (fun j hj => by rw [t2.ai (by decide) nil_no (by omega)]; exact hv j hj) (by omega) w2
    have hD2 := dat_Ch51 hD1 (by omega) u2
    rw [u1, bn_s, t4, u4]
    refine ⟨r2, ?_, t2.trans u2, u3.trans t3⟩
    have ia : ix (nj a) = a := ix_nj (by omega)
    have ib : ix (nj b) = b := ix_nj (by omega)
    have ie : ix (nj e) = e := ix_nj (by omega)
    have n4 : ¬ D.1 27 l = 4 := by rw [e1, nj_eq_l (by omega) (by omega)]; omega
    have eT : litT D vs tk l = ((!(brkS D vs a b || brkS D vs b e) && cmpS (D.1 27 l) (valS D vs a b) (valS D vs b e)) != decide (D.1 28 l = 1)) := by
      unfold litT rawT
      rw [if_neg n4, ea, eb, ee, ia, ib, ie]
    have g2 : ∀ {β : Type} (k : Option β), gd (inb (nj l) 5000) k = k := fun k => by rw [inb_nj (by omega), gd_t (decide_eq_true (by omega))]
    have f183 : ∀ z y : Bool, R_isTrue_183 (nj l) (tI z) (tI y) r2 = some (tI ((!z && y) != decide (D.1 28 l = 1)), r2) := by
      intro z y
      unfold R_isTrue_183
      cases y with
      | false =>
        rw [if_pos (show tI false = 0 from rfl), show (!z && false) = false by simp]
        exact R_isTrue_199_e hD2 h24 hl h28 false
      | true =>
        rw [if_neg (by decide)]
        cases z with
        | false => rw [if_pos (show tI false = 0 from rfl)]; exact R_isTrue_199_e hD2 h24 hl h28 true
        | true => rw [if_neg (by decide)]; exact R_isTrue_199_e hD2 h24 hl h28 false
    have f99 : ∀ z : Bool, R_isTrue_99 (nj l) (valS D vs a b) (valS D vs b e) (tI z) r2 = some (tI ((!z && cmpS (D.1 27 l) (valS D vs a b) (valS D vs b e)) != decide (D.1 28 l = 1)), r2) := by
      intro z
      unfold R_isTrue_99
      simp only [g2, il, dat_27 hD2 (x := 27) (by omega) hl]
      rw [← f183]
      unfold cmpS
      by_cases c0 : D.1 27 l = 0
      · rw [if_pos c0, if_pos c0]
        by_cases q : valS D vs a b = valS D vs b e
        · rw [if_pos q, decide_eq_true q]; rfl
        · rw [if_neg q, decide_eq_false q]; rfl
      · by_cases c1 : D.1 27 l = 1
        · rw [if_neg c0, if_neg c0, if_pos c1, if_pos c1]
          by_cases q : valS D vs a b = valS D vs b e
          · rw [if_pos q, decide_eq_false (fun z => z q)]; rfl
          · rw [if_neg q, decide_eq_true q]; rfl
        · by_cases c2 : D.1 27 l = 2
          · rw [if_neg c0, if_neg c0, if_neg c1, if_neg c1, if_pos c2, if_pos c2]
            by_cases q : valS D vs b e ≤ valS D vs a b
            · rw [if_pos q, decide_eq_false (Int32.not_lt.mpr q)]; rfl
            · rw [if_neg q, decide_eq_true (Int32.not_le.mp q)]; rfl
          · rw [if_neg c0, if_neg c0, if_neg c1, if_neg c1, if_neg c2, if_neg c2]
            by_cases q : valS D vs b e < valS D vs a b
            · rw [if_pos q, decide_eq_false (Int32.not_le.mpr q)]; rfl
            · rw [if_neg q, decide_eq_true (Int32.not_lt.mp q)]; rfl
    rw [eT]
    cases h1 : brkS D vs a b with
    | true =>
      rw [if_neg (by decide)]
      exact f99 true
    | false =>
      rw [if_pos (show tI false = 0 from rfl)]
      cases h2 : brkS D vs b e with
      | true => rw [if_neg (by decide)]; exact f99 true
      | false => rw [if_pos (show tI false = 0 from rfl)]; exact f99 false
/-- the reference's walk over literals -/
def rH (D : Dt) (vs : Nat → Int32) (tk : Int32) : Bool → List Nat → Bool
  | all, [] => all
  | all, l :: r => if D.1 29 l = 1 ∧ all = true then true else rH D vs tk ((decide (D.1 29 l = 1) || all) && litT D vs tk l) r
/-- the class's: the and that waits, the or that waits -/
def pH (D : Dt) (vs : Nat → Int32) (tk : Int32) : Bool → Bool → List Nat → Bool
  | _, o, [] => o
  | a, o, [l] => o || (a && litT D vs tk l)
  | a, o, l :: l2 :: r => if D.1 29 l2 = 1 then pH D vs tk true (o || (a && litT D vs tk l)) (l2 :: r) else pH D vs tk (a && litT D vs tk l) o (l2 :: r)
def holdS (D : Dt) (vs : Nat → Int32) (tk : Int32) (i : Nat) : Bool := if D.1 23 i = D.1 24 i then true else rH D vs tk false (List.range' (ix (D.1 23 i)) (ix (D.1 24 i) - ix (D.1 23 i)))
theorem pH_t : ∀ (a : Bool) (l : List Nat), pH D vs tk a true l = true
  | _, [] => rfl
  | _, [_] => rfl
  | a, l :: l2 :: r => by
    unfold pH
    by_cases q : D.1 29 l2 = 1
    · rw [if_pos q, Bool.true_or]; exact pH_t true (l2 :: r)
    · rw [if_neg q]; exact pH_t _ (l2 :: r)
theorem pH_rH (a : Bool) (l : Nat) (r : List Nat) : pH D vs tk a false (l :: r) = rH D vs tk (a && litT D vs tk l) r := by
  induction r generalizing a l with
  | nil => simp [pH, rH]
  | cons l2 r ih =>
    unfold pH rH
    rw [Bool.false_or]
    by_cases q : D.1 29 l2 = 1
    · rw [if_pos q]
      cases h : (a && litT D vs tk l) with
      | true => rw [if_pos ⟨q, rfl⟩]; exact pH_t true (l2 :: r)
      | false => rw [if_neg (by simp), ih, decide_eq_true q]; rfl
    · rw [if_neg q, if_neg (fun z => q z.1), ih, decide_eq_false q]; rfl
theorem R_holds_26_e (h24 : D.2.1 ≤ 24) {i e : Nat} (hi : i < 30 * D.2.1) (he : D.1 24 i = nj e) (heb : e ≤ 200 * D.2.1) : ∀ (n l fu : Nat) (all : Bool) (r : Mem), dat r = D → (∀ j, j < 12 → aI r 50 j = vs j) → mI r 1611 0 = tk → 82 ≤ mC r → l + n = e → n < fu → (∀ j, l ≤ j → j < e → WLit D j) →
    ∃ r', R_holds_26 fu (nj i) (tI all) (nj l) r = some (tI (rH D vs tk all (List.range' l n)), r') ∧ Ch [1610] [51] nil r r' ∧ mC r' = mC r
  | 0, l, fu + 1, all, r, hD, hv, ht, hC, hl, _, _ => by
    refine ⟨r, ?_, Ch.rfl, rfl⟩
    rw [R_holds_26.eq_2, inb_nj (by omega), gd_t (decide_eq_true (by omega)), ix_nj (by omega), dat_15 hD (by omega) hi, he, if_pos (by rw [nj_le (by omega) (by omega)]; omega), gz_tI]
    rfl
  | n + 1, l, fu + 1, all, r, hD, hv, ht, hC, hl, hf, hw => by
    have W := hw l (by omega) (by omega)
    have K : ∀ (x : Bool) (r1 : Mem), Ch [1610] [51] nil r r1 → mC r1 = mC r → ∃ r', R_holds_79 (fun z0 z1 z2 z3 => R_holds_26 fu z0 z1 z2 z3) (nj i) (nj l) (tI x) r1 = some (tI (rH D vs tk x (List.range' (l + 1) n)), r') ∧ Ch [1610] [51] nil r r' ∧ mC r' = mC r := by
      intro x r1 c1 c2
      obtain ⟨r', e1, e2, e3⟩ := R_holds_26_e h24 hi he heb n (l + 1) fu x r1 (dat_Ch51 hD hC c1) (fun j hj => by rw [c1.ai (by decide) nil_no (by omega)]; exact hv j hj) (by rw [c1.i (by decide) (by omega)]; exact ht) (by omega) (by omega) (by omega) (fun j h1 h2 => hw j (by omega) h2)
      refine ⟨r', ?_, c1.trans e2, e3.trans c2⟩
      unfold R_holds_79
      rw [vb_e, nj_add_l]
      exact e1
    have K62 : ∀ x : Bool, ∃ r', R_holds_62 (fun z0 z1 z2 z3 => R_holds_26 fu z0 z1 z2 z3) (nj i) (tI x) (nj l) r = some (tI (rH D vs tk (x && litT D vs tk l) (List.range' (l + 1) n)), r') ∧ Ch [1610] [51] nil r r' ∧ mC r' = mC r := by
      intro x
      unfold R_holds_62
      cases x with
      | false => rw [if_pos (show tI false = 0 from rfl)]; exact K false r Ch.rfl rfl
      | true =>
        rw [if_neg (by decide)]
        obtain ⟨r1, e1, e2, e3⟩ := R_isTrue_e hD h24 (show l < 200 * D.2.1 by omega) W hv ht hC
        rw [e1, bn_s]
        cases h : litT D vs tk l with
        | false => rw [if_pos (show tI false = 0 from rfl)]; exact K false r1 e2 e3
        | true => rw [if_neg (by decide)]; exact K true r1 e2 e3
    have e29 := dat_27 hD (x := 29) (c := l) (by omega) (by omega)
    have g5 : ∀ {β : Type} (k : Option β), gd (inb (nj l) 5000) k = k := fun k => by rw [inb_nj (by omega), gd_t (decide_eq_true (by omega))]
    have il : ix (nj l) = l := ix_nj (by omega)
    have hr : rH D vs tk all (List.range' l (n + 1)) = if D.1 29 l = 1 ∧ all = true then true else rH D vs tk ((decide (D.1 29 l = 1) || all) && litT D vs tk l) (List.range' (l + 1) n) := rfl
    rw [hr, R_holds_26.eq_2, inb_nj (by omega), gd_t (decide_eq_true (by omega)), ix_nj (by omega), dat_15 hD (by omega) hi, he, if_neg (by rw [nj_le (by omega) (by omega)]; omega)]
    unfold R_holds_51
    simp only [g5, il, e29]
    rcases W.2.1 with h | h
    · rw [h, if_pos rfl, if_pos rfl, if_neg (fun z => absurd z.1 (by decide)), decide_eq_false (by decide), Bool.false_or]
      exact K62 all
    · rw [h]
      simp only [show ((1 : Int32) = 0) = False from eq_false (by decide), if_false]
      cases all with
      | false =>
        rw [if_pos (show tI false = 0 from rfl), if_neg (show ¬ (True ∧ false = true) by simp)]
        exact K62 true
      | true =>
        rw [if_neg (show ¬ tI true = 0 by decide), if_pos (show True ∧ true = true from ⟨trivial, rfl⟩)]
        exact ⟨r, rfl, Ch.rfl, rfl⟩
theorem R_holds_e (hD : dat r = D) (h24 : D.2.1 ≤ 24) {i a e : Nat} (hi : i < 30 * D.2.1) (ha : D.1 23 i = nj a) (he : D.1 24 i = nj e) (hae : a ≤ e) (heb : e ≤ 200 * D.2.1) (hw : ∀ j, a ≤ j → j < e → WLit D j) (hv : ∀ j, j < 12 → aI r 50 j = vs j) (ht : mI r 1611 0 = tk) (hC : 82 ≤ mC r) : ∃ r', R_holds (nj i) r = some (tI (holdS D vs tk i), r') ∧ Ch [1610] [51] nil r r' ∧ mC r' = mC r := by
  unfold R_holds holdS
  rw [inb_nj (by omega), gd_t (decide_eq_true (by omega)), gd_t (decide_eq_true (by omega)), gd_t (decide_eq_true (by omega)), ix_nj (by omega), dat_15 hD (by omega) hi, dat_15 hD (by omega) hi, ha, he]
  by_cases q : nj a = nj e
  · rw [if_pos q, if_pos q]; exact ⟨r, rfl, Ch.rfl, rfl⟩
  · rw [if_neg q, if_neg q, vb_e, ix_nj (by omega), ix_nj (by omega)]
    exact R_holds_26_e h24 hi he heb (e - a) a FU false r hD hv ht hC (by omega) (by unfold FU; omega) hw
end Cd
section Ce
variable {D : Dt} {vs : Nat → Int32} {tk : Int32}
theorem pSo_cmp {s : Nat} (hs : s < 4) (a b : Int32) : pSo (nj (s + 10)) a b = cmpS (nj s) a b := by
  have : s = 0 ∨ s = 1 ∨ s = 2 ∨ s = 3 := by omega
  rcases this with rfl | rfl | rfl | rfl <;> rfl
theorem fold_not (x : Bool) (rest : List Int32) : ∀ q : Nat, (List.replicate q (580000 : Int32)).foldl (pStep vs tk) (tI x :: rest, false) = (tI (x != decide (q % 2 = 1)) :: rest, false)
  | 0 => by cases x <;> rfl
  | q + 1 => by
    have hs : ∀ y : Bool, pStep vs tk (tI y :: rest, false) 580000 = (tI (!y) :: rest, false) := fun y => by
      unfold pStep
      rw [if_neg (by decide), if_pos (by decide)]
      cases y <;> rfl
    rw [List.replicate_succ', List.foldl_append, fold_not x rest q, List.foldl_cons, List.foldl_nil, hs]
    congr 3
    rcases Nat.mod_two_eq_zero_or_one q with h | h
    · rw [h, show (q + 1) % 2 = 1 by omega]; cases x <;> rfl
    · rw [h, show (q + 1) % 2 = 0 by omega]; cases x <;> rfl
theorem step_tk {v : Nat} (hv : v < 8) {rest : List Int32} (hr : rest.length ≤ 30) : pStep vs tk (rest, false) (590000 + nj v) = (tI (decide ((tk >>> (nj v &&& 31)) &&& 1 = 1)) :: rest, false) := by
  have e0 : (590000 : Int32) + nj v = nj (590000 + v) := nj_l_add v 590000
  have e1 : kd (590000 + nj v) = 59 := by
    rw [e0, kd_nj (by omega), show (590000 + v) / 10000 = 59 by omega]
    rfl
  have e2 : nm (590000 + nj v) = nj v := by
    rw [e0, nm_nj (by omega), show (590000 + v) % 10000 = v by omega]
  unfold pStep
  rw [e1, e2, if_pos (Or.inr (Or.inr rfl)), if_pos (by show rest.length < 64; omega)]
  unfold pOpd
  rw [if_neg (by decide), if_pos rfl, ← tI_bit]
theorem step_cmp {s : Nat} (hs : s < 4) (x y : Int32) (rest : List Int32) (z : Bool) : pStep vs tk (y :: x :: rest, z) ((nj s + 10) * 10000) = (tI (!z && cmpS (nj s) x y) :: rest, false) := by
  have hk : kd ((nj s + 10) * 10000) = nj (s + 10) := by
    rw [nj_add_l, show nj (s + 10) * 10000 = nj ((s + 10) * 10000) from nj_mul _ _, kd_nj (by omega), show (s + 10) * 10000 / 10000 = s + 10 by omega]
  unfold pStep
  rw [hk, if_neg (by
          rintro (h | h | h)
          · rw [nj_eq_l (by omega) (by omega)] at h; omega
          · rw [nj_l_le (by omega) (by omega)] at h; omega
          · rw [nj_eq_l (by omega) (by omega)] at h; omega), if_neg (by rw [nj_eq_l (by omega) (by omega)]; omega)]
  show (if 10 ≤ nj (s + 10) ∧ nj (s + 10) ≤ 13 then (tI (!(z || decide (nj (s + 10) = 9 ∧ y = 0)) && pSo (nj (s + 10)) x y) :: rest, false) else _) = _
  rw [if_pos (by rw [nj_l_le (by omega) (by omega), nj_le_l (by omega) (by omega)]; omega), decide_eq_false (by rw [nj_eq_l (by omega) (by omega)]; omega), Bool.or_false, pSo_cmp hs]
theorem fold_lit {nt : Nat → Nat} {l : Nat} (hw : WLit D l) (h24 : D.2.1 ≤ 24) (hn : D.1 28 l = tI (decide (nt l % 2 = 1))) {rest : List Int32} (hr : rest.length ≤ 30) : (litS D nt l).foldl (pStep vs tk) (rest, false) = (tI (litT D vs tk l) :: rest, false) := by
  have e28 : decide (D.1 28 l = 1) = decide (nt l % 2 = 1) := by
    rw [hn]
    cases decide (nt l % 2 = 1) <;> rfl
  have key : (if D.1 27 l = 4 then [590000 + D.1 34 (ix (D.1 30 l))] else segS D (ix (D.1 30 l)) (ix (D.1 31 l)) ++ segS D (ix (D.1 31 l)) (ix (D.1 32 l)) ++ [(D.1 27 l + 10) * 10000]).foldl (pStep vs tk) (rest, false) = (tI (rawT D vs tk l) :: rest, false) → (litS D nt l).foldl (pStep vs tk) (rest, false) = (tI (litT D vs tk l) :: rest, false) := fun hk => by
    unfold litS litT
    rw [List.foldl_append, hk, fold_not, e28]
  refine key ?_
  unfold rawT
  obtain ⟨-, -, ⟨h4, c, v, hc, hv8, e1, e2⟩ | ⟨s, a, b, e, hs, e1, hab, hbe, he, ea, eb, ee, w1, w2⟩⟩ := hw
  · rw [if_pos h4, if_pos h4, e1, ix_nj (by omega), e2, List.foldl_cons, List.foldl_nil]
    exact step_tk hv8 hr
  · have n4 : ¬ D.1 27 l = 4 := by rw [e1, nj_eq_l (by omega) (by omega)]; omega
    rw [if_neg n4, if_neg n4, ea, eb, ee, ix_nj (by omega), ix_nj (by omega), ix_nj (by omega), List.foldl_append, List.foldl_append]
    obtain ⟨x, z, i1, i2, -⟩ := fold_seg (vs := vs) (tk := tk) (b - a) a [] rest false w1 (by omega)
    rw [segS_sg, segS_sg, show (rest, false) = (([] : List Int32) ++ rest, false) from rfl, i1]
    obtain ⟨y, z', j1, j2, j3⟩ := fold_seg (vs := vs) (tk := tk) (e - b) b [] (x :: rest) z w2 (by simp; omega)
    rw [show (x :: rest, z) = (([] : List Int32) ++ x :: rest, z) from rfl, j1, List.foldl_cons, List.foldl_nil, e1, step_cmp hs]
    unfold brkS valS
    rcases i2 rfl with ⟨h1, h2⟩ | ⟨h1, h2⟩
    · rcases j2 h2 with ⟨k1, k2⟩ | ⟨k1, k2⟩
      · rw [h1, k1, k2]; rfl
      · rw [h1, k1, k2]
        simp only [Option.isNone_none, Option.isNone_some, Bool.or_true, Bool.not_true, Bool.false_and]
    · rw [h1, j3 h2]
      simp only [Option.isNone_none, Bool.true_or, Bool.not_true, Bool.false_and]
theorem conS_ne {nt : Nat → Nat} {pa po : Bool} {l : Nat} {r : List Nat} : conS D nt pa po (l :: r) = litS D nt l ++ (conS D nt pa po (l :: r)).drop (litS D nt l).length := by
  cases r with
  | nil => unfold conS; rw [List.drop_left]
  | cons l2 r => unfold conS; rw [List.drop_left]
theorem step_and (x y : Bool) (rest : List Int32) : pStep vs tk (tI x :: tI y :: rest, false) 570000 = (tI (y && x) :: rest, false) := by
  unfold pStep
  rw [if_neg (by decide), if_neg (by decide)]
  cases x <;> cases y <;> rfl
theorem step_or (x y : Bool) (rest : List Int32) : pStep vs tk (tI x :: tI y :: rest, false) 560000 = (tI (y || x) :: rest, false) := by
  unfold pStep
  rw [if_neg (by decide), if_neg (by decide)]
  cases x <;> cases y <;> rfl
theorem fold_con (h24 : D.2.1 ≤ 24) {nt : Nat → Nat} : ∀ (ls : List Nat) (pa po a o : Bool), ls ≠ [] → (∀ l, l ∈ ls → WLit D l ∧ D.1 28 l = tI (decide (nt l % 2 = 1))) → (pa = false → a = true) → (po = false → o = false) →
    (conS D nt pa po ls).foldl (pStep vs tk) ((if pa then [tI a] else []) ++ (if po then [tI o] else []), false) = ([tI (pH D vs tk a o ls)], false)
  | [], _, _, _, _, h, _, _, _ => absurd rfl h
  | [l], pa, po, a, o, _, hl, ha, ho => by
    obtain ⟨w1, w2⟩ := hl l (by simp)
    unfold conS pH
    rw [List.foldl_append, fold_lit w1 h24 w2 (by cases pa <;> cases po <;> simp)]
    cases pa <;> cases po
    · rw [ha rfl, ho rfl]; simp
    · rw [ha rfl]; simp [step_or]
    · rw [ho rfl]; simp [step_and]
    · simp [step_and, step_or]
  | l :: l2 :: r, pa, po, a, o, _, hl, ha, ho => by
    obtain ⟨w1, w2⟩ := hl l (by simp)
    have hl' : ∀ x, x ∈ l2 :: r → WLit D x ∧ D.1 28 x = tI (decide (nt x % 2 = 1)) := fun x hx => hl x (List.mem_cons_of_mem _ hx)
    unfold conS pH
    rw [List.foldl_append, fold_lit w1 h24 w2 (by cases pa <;> cases po <;> simp), List.foldl_append]
    have A : (if pa = true then ([570000] : List Int32) else []).foldl (pStep vs tk) (tI (litT D vs tk l) :: ((if pa = true then [tI a] else []) ++ (if po = true then [tI o] else [])), false) = (tI (a && litT D vs tk l) :: (if po = true then [tI o] else []), false) := by
      cases pa
      · rw [ha rfl]; simp
      · simp [step_and]
    rw [A]
    by_cases q : D.1 29 l2 = 1
    · rw [if_pos q, if_pos q, List.foldl_append]
      have B : (if po = true then ([560000] : List Int32) else []).foldl (pStep vs tk) (tI (a && litT D vs tk l) :: (if po = true then [tI o] else []), false) = ([tI (o || (a && litT D vs tk l))], false) := by
        cases po
        · rw [ho rfl]; simp
        · simp [step_or]
      rw [B]
      have := fold_con h24 (l2 :: r) false true true (o || (a && litT D vs tk l)) (by simp) hl' (fun _ => rfl) (fun h => absurd h (by simp))
      simpa using this
    · rw [if_neg q, if_neg q]
      have := fold_con h24 (l2 :: r) true po (a && litT D vs tk l) o (by simp) hl' (fun h => absurd h (by simp)) ho
      simpa using this
/-- the class's condition is the reference's -/
theorem cond_eq (h24 : D.2.1 ≤ 24) {nt : Nat → Nat} {a e : Nat} (hae : a < e) (hw : ∀ l, a ≤ l → l < e → WLit D l) (hn : ∀ l, a ≤ l → l < e → D.1 28 l = tI (decide (nt l % 2 = 1))) (h1 : D.1 29 a = 1) : pEnd ((conS D nt false false (List.range' a (e - a))).foldl (pStep vs tk) ([], false)) = tI (rH D vs tk false (List.range' a (e - a))) := by
  obtain ⟨n, hn'⟩ : ∃ n, e - a = n + 1 := ⟨e - a - 1, by omega⟩
  have hm : ∀ l, l ∈ List.range' a (e - a) → a ≤ l ∧ l < e := fun l hl => by
    have := List.mem_range'_1.mp hl
    omega
  have := fold_con (vs := vs) (tk := tk) h24 (List.range' a (e - a)) false false true false (by rw [hn']; simp [List.range'_succ]) (fun l hl => ⟨hw l (hm l hl).1 (hm l hl).2, hn l (hm l hl).1 (hm l hl).2⟩) (fun _ => rfl) (fun _ => rfl)
  rw [show (([] : List Int32), false) = ((if false = true then [tI true] else []) ++ (if false = true then [tI false] else []), false) from rfl, this, hn', List.range'_succ, pH_rH]
  have e1 : rH D vs tk false (a :: List.range' (a + 1) n) = if D.1 29 a = 1 ∧ false = true then true else rH D vs tk ((decide (D.1 29 a = 1) || false) && litT D vs tk a) (List.range' (a + 1) n) := rfl
  rw [e1, if_neg (by simp), decide_eq_true h1]
  rfl
end Ce
