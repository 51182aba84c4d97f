/-! Layer C: force, fate and item -/
/-- what holds of both between calls, tape and reckoning aside -/
def Bs (nc : Nat) (p r : Mem) : Prop := Core nc p r ∧ Land p r ∧ PL p ∧ WItems (dat r) nc ∧ BCache (dat r) r ∧ mI r 1622 0 = -1
/-- the class, once a DAY at a FIRM is opened -/
def OpQ (ta ia : Nat → Nat) (D : Dt) (d f n : Nat) (p : Mem) : Prop :=
  (∀ k, k < D.2.1 → mI p 1287 (ta k) = tI (infO D d f n k)) ∧ (∀ k, k < D.2.1 → infO D d f n k = true → isW D k = true → RowsP ta ia p k ((bQ D d f n).1 k)) ∧
  ∀ k j, k < D.2.1 → j < ix (D.1 14 k) → infO D d f n k = true → (isW D k = true ∨ isV D (infO D d f n) k = true) → mI p 268 (ia (30 * k + j)) = (bQ D d f n).2 (30 * k + j)
section Fe
variable {fa ta ia sa ca : Nat → Nat} {od : List Nat} {p r : Mem} {nc : Nat}
theorem Land.P {F A : List Nat} {dy : Nat → Prop} {p' : Mem} (h : Land p r) (c : Ch F A dy p p') (hC : 51 ≤ mC p) (hF : (F.all fun f => f != 384 && f != 385 && f != 386) = true) (hA : (A.all fun a => a < 6 || 12 < a) = true) (hd : ∀ a, dy a → 51 ≤ a) : Land p' r := by
  obtain ⟨to, fi, pe, h1, h2, h3, g1, g2, g3, g4, g5, g6, a1, a2, a3, a4, a5, a6, a7, h4⟩ := h
  have e : ∀ f, (f = 384 ∨ f = 385 ∨ f = 386) → mI p' f 5 = mI p f 5 := fun f hf => c.i (fun q => by
    have := List.all_eq_true.mp hF f q
    simp at this
    omega) (by omega)
  have e2 : ∀ a, 6 ≤ a → a ≤ 12 → aI p' a = aI p a := fun a q1 q2 => c.ai (fun q => by
    have := List.all_eq_true.mp hA a q
    simp at this
    omega) (fun q => by have := hd a q; omega) (by omega)
  refine ⟨to, fi, pe, h1, h2, h3, ?_, g2, ?_, g4, ?_, g6, ?_, ?_, ?_, ?_, ?_, ?_, ?_, h4⟩
  · rw [e 384 (by omega)]; exact g1
  · rw [e 385 (by omega)]; exact g3
  · rw [e 386 (by omega)]; exact g5
  · rw [e2 6 (by omega) (by omega)]; exact a1
  · rw [e2 7 (by omega) (by omega)]; exact a2
  · rw [e2 8 (by omega) (by omega)]; exact a3
  · rw [e2 9 (by omega) (by omega)]; exact a4
  · rw [e2 10 (by omega) (by omega)]; exact a5
  · rw [e2 11 (by omega) (by omega)]; exact a6
  · rw [e2 12 (by omega) (by omega)]; exact a7
theorem Land.R {F A : List Nat} {r' : Mem} (h : Land p r) (c : Ch F A nil r r') (hC : 82 ≤ mC r) (hF : (F.all fun f => f != 1591 && f != 1592 && f != 1595) = true) (hA : (A.all fun a => a < 37 || 43 < a) = true) : Land p r' := by
  have e : ∀ f, (f = 1591 ∨ f = 1592 ∨ f = 1595) → mI r' f 0 = mI r f 0 := fun f hf => c.i (fun q => by
    have := List.all_eq_true.mp hF f q
    simp at this
    omega) (by omega)
  have e2 : ∀ a, 37 ≤ a → a ≤ 43 → aI r' a = aI r a := fun a q1 q2 => c.ai (fun q => by
    have := List.all_eq_true.mp hA a q
    simp at this
    omega) nil_no (by omega)
  unfold Land
  rw [e 1591 (by omega), e 1592 (by omega), e 1595 (by omega), e2 37 (by omega) (by omega), e2 38 (by omega) (by omega), e2 39 (by omega) (by omega), e2 40 (by omega) (by omega), e2 41 (by omega) (by omega), e2 42 (by omega) (by omega), e2 43 (by omega) (by omega)]
  exact h
theorem dy2_51 {D : Dt} (L : LText ta ia p D) {a : Nat} (h : dy2 ta D.2.1 a) : 51 ≤ a := by
  obtain ⟨k, hk, h⟩ := h
  have := (L.2.1 k hk).1
  omega
theorem open_e (h : Bs nc p r) (L : Lk fa ta ia sa ca od p (dat r)) (hSc : Sc ta p (dat r)) {f d n : Nat} (hf : f < 8) (hd : d < 140) (hn : n ≤ (dat r).2.2) (yrs : Int32) :
    ∃ p', P_Scene_open (nj f) (nj d) (nj n) yrs p = some ((), p') ∧ OpQ ta ia (dat r) d f n p' ∧ (∀ j, j < 12 → aI p' 27 j = vS (dat r) f d n yrs j) ∧ Bs nc p' r ∧ Lk fa ta ia sa ca od p' (dat r) ∧ Sc ta p' (dat r) ∧ Ch opF opA (dy2 ta (dat r).2.1) p p' ∧ mC p' = mC p ∧ mS p' = mS p := by
  obtain ⟨⟨T, C2, W, Wf, e1, e2, hn60, e4, e5, -⟩, Ld, hp, Wi, hB⟩ := h
  have T1 := T.1
  have h6 : ∀ j, j < 8 → aI p 6 j = (dat r).1 37 j ∧ aI p 7 j = (dat r).1 38 j := fun j _ => by
    obtain ⟨to, fi, pe, h1, h2, h3, g1, g2, g3, g4, g5, g6, a1, a2, -⟩ := Ld
    rw [a1, a2, dat_37 rfl (Or.inl rfl), dat_37 rfl (Or.inr rfl)]
    exact ⟨rfl, rfl⟩
  obtain ⟨p', o1, o2, o3, o4, o5, o6, o7, o8⟩ := P_open_e L T hp W Wf Wi hn60 Ld.wgt h6 hSc.1 hf hd hn yrs
  have hb : bS (dat r) (vS (dat r) f d n 0) (infO (dat r) d f n) od = bQ (dat r) d f n := bS_bQ W hd L.2.2.1.2.2.1 L.2.2.1.2.2.2
  have h51 := fun a => dy2_51 (a := a) L.2.1
  have L' : Lk fa ta ia sa ca od p' (dat r) := L.Ch T (o5.mono (fun _ h => h) (fun _ h => h) (fun a ⟨k, hk, h⟩ => ⟨k, hk, by omega⟩)) (by decide) (by decide)
  have hS' : Sc ta p' (dat r) := by
    refine ⟨fun j a b c d e => ?_, fun k hk hw => ?_, fun k j hk => ?_, ?_⟩
    · rw [o3 j a]
      unfold vS
      rw [if_neg b, if_neg c, if_neg d, if_neg e]
      by_cases q : j = 1
      · rw [if_pos q]
      · rw [if_neg q]
    · rw [o8 k hk (by unfold isW; exact decide_eq_false hw)]
      exact hSc.2.1 k hk hw
    · have t := L.2.1.2.1 k hk
      obtain ⟨t1, -, -, -, -, -, -, -, -, -, -, -, -, -, -, -, -, -, t19, -⟩ := t
      have lk : ta k + 3 < mC p := T.lt (by rw [t19]; decide)
      have nd : ¬ dy2 ta (dat r).2.1 (ta k + 3) := by
        rintro ⟨l, hl, e⟩
        obtain ⟨-, -, -, -, -, -, -, -, -, -, -, -, -, -, -, -, u17, u18, -⟩ := L.2.1.2.1 l hl
        rcases e with e | e
        · rw [e, u17] at t19; exact absurd t19 (by decide)
        · rw [e, u18] at t19; exact absurd t19 (by decide)
      rw [o5.ai (by unfold opA; simp; omega) nd lk, o5.i (by decide) (by omega)]
      exact hSc.2.2.1 k j hk
    · rw [o5.r (by decide) (by omega)]
      exact hSc.2.2.2
  refine ⟨p', o1, ?_, o4, ⟨⟨T.Ch o5, C2, W, Wf, e1, e2, hn60, ?_, e5, fa, ta, ia, sa, ca, od, L', hS'⟩, Ld.P o5 (by omega) (by decide) (by decide) h51, hp.Ch o5 (by decide), Wi, hB⟩, L', hS', o5, o6, o7⟩
  · unfold Opened at o2
    unfold OpQ
    rw [← hb]
    exact o2
  · rw [o5.i (by decide) (by omega)]; exact e4
/-- a TEXT is asked about, at a DAY and a FIRM -/
def Askd (nc : Nat) (p r : Mem) (x1 x2 x3 x4 : Int32) : Prop := ∃ t k d f n, x1 = nj t ∧ x2 = nj d ∧ x3 = nj f ∧ x4 = nj n ∧ t < n ∧ k < (dat r).2.1 ∧ d < 140 ∧ f < 8 ∧ n ≤ (dat r).2.2 ∧ (dat r).1 45 t = nj k ∧ (dat r).1 12 k = nj t ∧ (dat r).1 44 t = (dat r).1 8 k ∧ R_isAsked x1 x2 x3 x4 r = some (1, r) ∧
  ∃ fa ta ia sa ca od p', P_opened x1 x2 x3 x4 p = some (some (ta k), p') ∧ OpQ ta ia (dat r) d f n p' ∧ Bs nc p' r ∧ Lk fa ta ia sa ca od p' (dat r) ∧ Ch opF opA (fun a => 51 ≤ a) p p' ∧ mC p' = mC p ∧ mS p' = mS p ∧ Sc ta p' (dat r) ∧ ∀ j, j < 12 → aI p' 27 j = vS (dat r) f d n 0 j
theorem opened_e (h : Bs nc p r) (x1 x2 x3 x4 : Int32) : (P_opened x1 x2 x3 x4 p = some (none, p) ∧ R_isAsked x1 x2 x3 x4 r = some (0, r)) ∨ Askd nc p r x1 x2 x3 x4 := by
  have hc := h.1
  have Ld := h.2.1
  have h160 := hc.f160
  have k1 := P_canKnow_e hc x4
  have k2 := R_isKnown_e hc x4
  have rt := R_textAt_e hc x1
  obtain ⟨T, C2, W1, W2, e1, e2, e3, e4, e5, fa, ta, ia, sa, ca, od, L, hSc⟩ := id hc
  have hfi : ∃ fi, fi ≤ 8 ∧ mI r 1592 0 = nj fi := by
    obtain ⟨to, fi, pe, h1, h2, h3, g1, g2, g3, g4, -⟩ := Ld
    exact ⟨fi, h2, g4⟩
  obtain ⟨fi, hfi8, efi⟩ := hfi
  have n1 : ¬ tI true = 0 := by decide
  by_cases q : isT (dat r) x1 ∧ (0 ≤ x2 ∧ x2 ≤ 139) ∧ (0 ≤ x3 ∧ x3 < mI r 1592 0) ∧ (0 ≤ x4 ∧ x4 ≤ nj (dat r).2.2) ∧ x1 < x4
  · obtain ⟨c1, c2, c3, c4, c5⟩ := q
    obtain ⟨t, k, rfl, h2, h3, h4, h5, h6⟩ := isT_k W1 W2 c1
    obtain ⟨d, hd, rfl⟩ := nj_in (n := 139) (by omega) c2
    rw [efi] at c3
    obtain ⟨f, hf, rfl⟩ := nj_in' (by omega) c3
    obtain ⟨n, hn, rfl⟩ := nj_in (by omega) c4
    rw [nj_lt (by omega) (by omega)] at c5
    obtain ⟨p', o1, o2, o3, o4, o5, o6, o7, o8, o9⟩ := open_e h L hSc (show f < 8 by omega) (show d < 140 by omega) hn 0
    refine Or.inr ⟨t, k, d, f, n, rfl, rfl, rfl, rfl, c5, h3, by omega, by omega, hn, h4, h5, h6, ?_, fa, ta, ia, sa, ca, od, p', ?_, o2, o4, o5, o7.mono (fun _ h => h) (fun _ h => h) (fun a h => dy2_51 L.2.1 h), o8, o9, o6, o3⟩
    · unfold R_isAsked
      rw [rt, bn_s, if_pos c1, ix_nj (by omega), h4, if_neg (by rw [nj_ne_m1 (by have := W1.1; omega)]; exact id), R_in_e, bp_s, R_isFirm_e, bn_s, k2, bn_s, efi, decide_eq_true c2, decide_eq_true c3, decide_eq_true c4, if_neg n1, if_neg n1, if_neg n1, if_neg (by rw [nj_le (by omega) (by omega)]; omega)]
    · unfold P_opened
      rw [P_isDay_e, bp_s, P_hasFirm_e Ld, bn_s, k1, bn_s, efi, decide_eq_true c2, decide_eq_true c3, decide_eq_true c4, if_neg n1, if_neg n1, if_neg n1]
      have hlt : nj t < nj n := by rw [nj_lt (by omega) (by omega)]; exact c5
      have ht : P_Ledger_textAt (nj t) (nj n) p = some (some (ta k), p) := by rw [P_textAt_e L.1 h160 _ _ c4.2, if_pos ⟨hlt, c1⟩, ix_nj (by omega), h4, ix_nj (by have := W1.1; omega)]
      rw [ht, bn_s, if_neg (by simp), o1, bn_s]
  · refine Or.inl ⟨?_, ?_⟩
    · unfold P_opened
      rw [P_isDay_e, bp_s, P_hasFirm_e Ld, bn_s, k1, bn_s]
      by_cases c2 : 0 ≤ x2 ∧ x2 ≤ 139
      · rw [decide_eq_true c2, if_neg n1]
        by_cases c3 : 0 ≤ x3 ∧ x3 < mI r 1592 0
        · rw [decide_eq_true c3, if_neg n1]
          by_cases c4 : 0 ≤ x4 ∧ x4 ≤ nj (dat r).2.2
          · have ht : P_Ledger_textAt x1 x4 p = some (none, p) := by rw [P_textAt_e L.1 h160 _ _ c4.2, if_neg (fun z => q ⟨z.2, c2, c3, c4, z.1⟩)]
            rw [decide_eq_true c4, if_neg n1, ht, bn_s, if_pos rfl]
          · rw [decide_eq_false c4]; rfl
        · rw [decide_eq_false c3]; rfl
      · rw [decide_eq_false c2]; rfl
    · unfold R_isAsked
      rw [rt, bn_s, R_in_e, bp_s, R_isFirm_e, bn_s, k2, bn_s]
      by_cases c1 : isT (dat r) x1
      · obtain ⟨t, k, rfl, h2, h3, h4, h5, h6⟩ := isT_k W1 W2 c1
        rw [if_pos c1, ix_nj (by omega), h4, if_neg (by rw [nj_ne_m1 (by have := W1.1; omega)]; exact id)]
        by_cases c2 : 0 ≤ x2 ∧ x2 ≤ 139
        · rw [decide_eq_true c2, if_neg n1]
          by_cases c3 : 0 ≤ x3 ∧ x3 < mI r 1592 0
          · rw [decide_eq_true c3, if_neg n1]
            by_cases c4 : 0 ≤ x4 ∧ x4 ≤ nj (dat r).2.2
            · rw [decide_eq_true c4, if_neg n1, if_pos (Int32.not_lt.mp fun z => q ⟨c1, c2, c3, c4, z⟩)]
            · rw [decide_eq_false c4]; rfl
          · rw [decide_eq_false c3]; rfl
        · rw [decide_eq_false c2]; rfl
      · rw [if_neg c1, if_pos rfl]
/-- a question that leaves both as they were, but for what is remembered -/
def Askq (nc : Nat) (p r : Mem) (x y : Option (Int32 × Mem)) : Prop := ∃ v p' r', x = some (v, p') ∧ y = some (v, r') ∧ Bs nc p' r' ∧ Ch opF opA (fun a => 51 ≤ a) p p' ∧ Ch [1610, 1612, 1613, 1614] [50, 51, 52, 53, 54, 55, 56, 57, 58] nil r r' ∧ mC p' = mC p ∧ mS p' = mS p ∧ mC r' = mC r
theorem Askq.no {x y : Option (Int32 × Mem)} {v : Int32} (h : Bs nc p r) (hx : x = some (v, p)) (hy : y = some (v, r)) : Askq nc p r x y := ⟨v, p, r, hx, hy, h, Ch.rfl, Ch.rfl, rfl, rfl, rfl⟩
theorem st_force (h : Bs nc p r) (x1 x2 x3 x4 : Int32) : Askq nc p r (P_force x1 x2 x3 x4 p) (R_force x1 x2 x3 x4 r) := by
  rcases opened_e h x1 x2 x3 x4 with ⟨hp, hr⟩ | ⟨t, k, d, f, n, rfl, rfl, rfl, rfl, htn, hk, hd, hf, hn, h45, h12, h44, hr, fa, ta, ia, sa, ca, od, p', hp, hO, hB, L, c, c1, c2, hS, -⟩
  · refine Askq.no (v := -1) h ?_ ?_
    · unfold P_force
      rw [hp, bn_s, if_pos rfl]
    · unfold R_force
      rw [hr, bn_s, if_pos rfl]
  · have h160 := h.1.f160
    have n1 : ¬ ((1 : Int32) = 0) := by decide
    refine ⟨tI (infO (dat r) d f n k), p', r, ?_, ?_, hB, c, Ch.rfl, c1, c2, rfl⟩
    · unfold P_force
      rw [hp, bn_s, if_neg (by simp), gs_s, gt_t (L.2.1.2.1 k hk).2.1, hO.1 k hk]
      cases infO (dat r) d f n k <;> rfl
    · unfold R_force
      rw [hr, bn_s, if_neg n1, inb_nj (by omega), gd_t (decide_eq_true (by omega)), ix_nj (by omega)]
      have e : aI r 45 t = nj k := by rw [← dat_44 (x := 45) (by omega)]; exact h45
      rw [e, R_isIn_e rfl h.1.2.2.1 h.1.2.2.2.1 hk hn, bn_s]
      show (if tI (infO (dat r) d f n k) = 0 then _ else _) = _
      cases infO (dat r) d f n k <;> rfl
theorem Core.R {F A : List Nat} {r' : Mem} (h : Core nc p r) (c : Ch F A nil r r') (hC : mC r' = mC r) (hF : (F.all fun f => f != 1554 && f != 1601) = true) (hF2 : 1584 ∉ F) (hA : (A.all fun a => a < 8 || a == 35 || a == 36 || (38 < a && a < 43) || 49 < a) = true) : Core nc p r' ∧ dat r' = dat r := by
  obtain ⟨T, C2, W1, W2, e1, e2, e3, e4, e5, h5⟩ := h
  have hD : dat r' = dat r := dat_Ch c C2 hF hA
  have e : ∀ f, (f = 1554 ∨ f = 1601) → mI r' f 0 = mI r f 0 := fun f hf => c.i (fun q => by
    have := List.all_eq_true.mp hF f q
    simp at this
    omega) (by omega)
  refine ⟨?_, hD⟩
  unfold Core
  rw [hD, e 1554 (by omega), e 1601 (by omega), c.i hF2 (by omega), hC]
  exact ⟨T, C2, W1, W2, e1, e2, e3, e4, e5, h5⟩
/-- builds leaves what holds -/
theorem builds_e (h : Bs nc p r) {d f n : Nat} (hd : d < 140) (hf : f < 8) (hn : n ≤ (dat r).2.2) : ∃ r', R_builds (nj d) (nj f) (nj n) r = some ((), r') ∧ Bt (dat r) d f n r' ∧ Bs nc p r' ∧ dat r' = dat r ∧ Ch [1610, 1612, 1613, 1614] [50, 51, 52, 53, 54, 55, 56, 57, 58] nil r r' ∧ mC r' = mC r ∧ mI r' 1612 0 = nj d ∧ mI r' 1613 0 = nj f ∧ mI r' 1614 0 = nj n := by
  obtain ⟨hc, Ld, hp, Wi, hB, hT⟩ := h
  obtain ⟨r', b1, b2, b3, b4, b5, b6, b7⟩ := R_builds_e hB rfl hc.2.1 hc.2.2.2.2.2.1 hc.2.2.1 hc.2.2.2.1 Wi hc.2.2.2.2.2.2.1 hd hf hn
  obtain ⟨k1, k2⟩ := hc.R b6 b7 (by decide) (by decide) (by decide)
  refine ⟨r', b1, b2, ⟨k1, Ld.R b6 hc.2.1 (by decide) (by decide), hp, by rw [k2]; exact Wi, ?_, by rw [b6.i (by decide) (by have := hc.2.1; omega)]; exact hT⟩, k2, b6, b7, b3, b4, b5⟩
  rw [k2]
  exact Or.inr ⟨d, f, n, hd, hf, hn, b3, b4, b5, b2⟩
theorem P_fate_64_e {D : Dt} (L : Lk fa ta ia sa ca od p D) {k j : Nat} (hk : k < D.2.1) (hj : j < ix (D.1 14 k)) (h30 : j < 30) : P_fate_64 (nj j) (some (ta k)) p = some (mI p 268 (ia (30 * k + j)), p) := by
  obtain ⟨-, t2, -, -, -, -, -, -, t9, t10, t11, t12, -⟩ := L.2.1.2.1 k hk
  unfold P_fate_64
  rw [gs_s, gt_t t2, t9, gs_s, gt_t t10, inb_nj (by omega), t11, gd_t (decide_eq_true hj), ix_nj (by omega), t12 j hj, gs_s, gt_t (L.2.2.2.1 k j hk hj).2.1]
theorem st_fate (h : Bs nc p r) (x1 x2 x3 x4 x5 : Int32) : Askq nc p r (P_fate x1 x2 x3 x4 x5 p) (R_fate x1 x2 x3 x4 x5 r) := by
  rcases opened_e h x1 x3 x4 x5 with ⟨hp, hr⟩ | ⟨t, k, d, f, n, rfl, rfl, rfl, rfl, htn, hk, hd, hf, hn, h45, h12, h44, hr, fa, ta, ia, sa, ca, od, p', hp, hO, hB, L, c, c1, c2, hS, -⟩
  · refine Askq.no (v := -1) h ?_ ?_
    · unfold P_fate
      rw [hp, bn_s, if_pos rfl]
    · unfold R_fate
      rw [hr, bn_s, if_pos rfl]
  · have h160 := h.1.f160
    have W := h.1.2.2.1
    have h24 := W.1
    have n1 : ¬ ((1 : Int32) = 0) := by decide
    have n2 : ¬ tI true = 0 := by decide
    have e : aI r 45 (ix (nj t)) = nj k := by rw [ix_nj (by omega), ← dat_44 (x := 45) (by omega)]; exact h45
    obtain ⟨-, -, -, -, -, -, ⟨pa, hpa, h13, -⟩, N, hN, h14⟩ := W.2.2.1 k hk
    have e14 : aI r 14 k = nj N := by rw [dat_t rfl (by omega) hk]; exact h14
    have g1 : ∀ {β : Type} (c : Option β), gd (inb (nj t) 160) c = c := fun c => by rw [inb_nj (by omega), gd_t (decide_eq_true (by omega))]
    obtain ⟨-, t2, -, -, -, -, -, t8, t9, t10, t11, t12, -⟩ := L.2.1.2.1 k hk
    have iN : ix ((dat r).1 14 k) = N := by rw [h14, ix_nj (by omega)]
    have eN : Int32.ofNat (mN p' (ta k - 1)) = nj N := by rw [t11, iN]; rfl
    by_cases q : 0 ≤ x2 ∧ x2 ≤ nj N - 1
    · have q' : 0 ≤ x2 ∧ x2 < nj N := by
        have : (0 : Int32) ≤ nj N := Int32.not_lt.mp (by rw [nj_nneg (by omega)]; exact id)
        refine ⟨q.1, ?_⟩
        have := q.2
        grind
      obtain ⟨j, hj, rfl⟩ := nj_in' (by omega) q'
      obtain ⟨r', b1, b2, b3, b4, b5, b6, -⟩ := builds_e hB hd hf hn
      have hv := Bt_fate W hd b2 hk (j := j) (by omega)
      refine ⟨aI r' 58 (30 * k + j), p', r', ?_, ?_, b3, c, b5, c1, c2, b6⟩
      · unfold P_fate
        rw [hp, bn_s, if_neg (by simp), gs_s, gt_t t2, t9, gs_s, gt_t t10, eN, P_within_e, bp_s, decide_eq_true q, if_neg n2, hO.1 k hk, hv]
        cases hi : infO (dat r) d f n k with
        | false => rfl
        | true =>
          rw [if_neg n2, P_changes_e L W hk, bn_s]
          cases hw : isW (dat r) k with
          | true =>
            show P_fate_64 _ _ _ = _
            rw [P_fate_64_e L hk (by omega) (by omega), hO.2.2 k j hk (by omega) hi (Or.inl hw)]
            rfl
          | false =>
            have n8 : ¬ (dat r).1 8 k = 0 := fun z => by
              unfold isW at hw
              exact (of_decide_eq_false hw) (Or.inl z)
            rw [Bool.not_false, if_neg n2, gt_t t2, t8, if_neg n8, gs_s, h13, ix_nj (by omega), gt_t (L.2.1.2.1 pa (by omega)).2.1, hO.1 pa (by omega)]
            unfold pf
            rw [h13, ix_nj (by omega)]
            cases hv : infO (dat r) d f n pa with
            | false => rfl
            | true =>
              rw [if_neg n2, P_fate_64_e L hk (by omega) (by omega), hO.2.2 k j hk (by omega) hi (Or.inr (by unfold isV; rw [hi, hw, h13, ix_nj (by omega), hv]; rfl))]
              rfl
      · unfold R_fate
        have e' : aI r' 45 (ix (nj t)) = nj k := by rw [ix_nj (by omega), ← dat_44 (x := 45) (by omega), b4]; exact h45
        rw [hr, bn_s, if_neg n1, g1, e, inb_nj (by omega), gd_t (decide_eq_true (by omega)), ix_nj (show k < 2147483648 by omega), e14, R_in_e, bp_s, decide_eq_true q, if_neg n2, b1, bn_s, g1, e']
        have e30 : 30 * nj k + nj j = nj (30 * k + j) := by rw [show (30 : Int32) = nj 30 from rfl, nj_mul, nj_add]
        rw [e30, inb_nj (by omega), gd_t (decide_eq_true (by omega)), ix_nj (by omega)]
    · refine ⟨-1, p', r, ?_, ?_, hB, c, Ch.rfl, c1, c2, rfl⟩
      · unfold P_fate
        rw [hp, bn_s, if_neg (by simp), gs_s, gt_t t2, t9, gs_s, gt_t t10, eN, P_within_e, bp_s, decide_eq_false q]
        rfl
      · unfold R_fate
        rw [hr, bn_s, if_neg n1, g1, e, inb_nj (by omega), gd_t (decide_eq_true (by omega)), ix_nj (show k < 2147483648 by omega), e14, R_in_e, bp_s, decide_eq_false q]
        rfl
theorem bQ_W {D : Dt} (W : WText D nc) {d f n k : Nat} (hd : d < 140) (hk : k < D.2.1) : WRow D ((bQ D d f n).1 k).1 := bL_W W _ (fun t ht => (lst_mem ht (by omega)).1) hk
theorem isI_30 {D : Dt} (W : WText D nc) {i : Nat} (h : isI D i) : i / 30 < D.2.1 ∧ i % 30 < ix (D.1 14 (i / 30)) ∧ i < 720 := by
  obtain ⟨k, j, h1, h2, rfl⟩ := h
  have h24 := W.1
  obtain ⟨-, -, -, -, -, -, -, N, hN, h14⟩ := W.2.2.1 k h1
  have iN : ix (D.1 14 k) = N := by rw [h14, ix_nj (by omega)]
  have e1 : (30 * k + j) / 30 = k := by omega
  have e2 : (30 * k + j) % 30 = j := by omega
  rw [e1, e2]
  exact ⟨h1, h2, by omega⟩
theorem st_item (h : Bs nc p r) (x1 x2 x3 x4 x5 x6 : Int32) : Askq nc p r (P_item x1 x2 x3 x4 x5 x6 p) (R_item x1 x2 x3 x4 x5 x6 r) := by
  rcases opened_e h x1 x2 x3 x5 with ⟨hp, hr⟩ | ⟨t, k, d, f, n, rfl, rfl, rfl, rfl, htn, hk, hd, hf, hn, h45, h12, h44, hr, fa, ta, ia, sa, ca, od, p', hp, hO, hB, L, c, c1, c2, hS, -⟩
  · refine Askq.no (v := -1) h ?_ ?_
    · unfold P_item
      rw [hp, bn_s, if_pos rfl]
    · unfold R_item R_isWhole
      rw [hr, bn_s, if_pos rfl, bn_s, if_pos rfl]
  · have h160 := h.1.f160
    have W := h.1.2.2.1
    have hn60 : nc ≤ 60 := h.1.2.2.2.2.2.2.1
    have Wi := h.2.2.2.1
    have h24 := W.1
    have n1 : ¬ ((1 : Int32) = 0) := by decide
    have n2 : ¬ tI true = 0 := by decide
    have e4 : aI r 44 (ix (nj t)) = (dat r).1 8 k := by rw [ix_nj (by omega), ← dat_44 (x := 44) (by omega)]; exact h44
    have g1 : ∀ {β : Type} (c : Option β), gd (inb (nj t) 160) c = c := fun c => by rw [inb_nj (by omega), gd_t (decide_eq_true (by omega))]
    have g2 : ∀ {β : Type} (c : Option β), gd (inb (nj k) 24) c = c := fun c => by rw [inb_nj (by omega), gd_t (decide_eq_true (by omega))]
    have ik : ix (nj k) = k := ix_nj (by omega)
    have t0 := L.2.1.2.1 k hk
    obtain ⟨-, t2, -, -, -, -, -, t8, t9, t10, t11, t12, t13, t14, t15, t16, t17, t18, t19, t20, t21⟩ := t0
    by_cases hw : (dat r).1 8 k = 0 ∨ (dat r).1 8 k = 3
    · obtain ⟨r', b1, b2, b3, b4, b5, b6, -⟩ := builds_e hB hd hf hn
      have e5 : aI r' 45 (ix (nj t)) = nj k := by rw [ix_nj (by omega), ← dat_44 (x := 45) (by omega), b4]; exact h45
      have hwh : R_isWhole (nj t) (nj d) (nj f) (nj n) r = some (tI (infO (dat r) d f n k), r') := by
        have h33 : R_isWhole_33 (nj t) (nj d) (nj f) (nj n) r = some (tI (infO (dat r) d f n k), r') := by
          unfold R_isWhole_33
          rw [b1, bn_s, g1, e5, g2, ik, b2.1 k hk, gz_tI]
        unfold R_isWhole
        rw [hr, bn_s, if_neg n1, g1, e4, g1, h33]
        rcases hw with hw | hw <;> rw [hw] <;> rfl
      have hisW : isW (dat r) k = true := decide_eq_true hw
      cases hi : infO (dat r) d f n k with
      | false =>
        refine ⟨-1, p', r', ?_, ?_, b3, c, b5, c1, c2, b6⟩
        · unfold P_item
          rw [hp, bn_s, if_neg (by simp), gs_s, gt_t t2, hO.1 k hk, hi]
          rfl
        · unfold R_item
          rw [hwh, bn_s, hi]
          rfl
      | true =>
        obtain ⟨p1, p2, p3, p4⟩ := hO.2.1 k hk hi hisW
        obtain ⟨q1, q2, q3, q4⟩ := b2.2.1 k hk
        have hR : WRow (dat r) ((bQ (dat r) d f n).1 k).1 := bQ_W W hd hk
        have hlen := hR.len Wi hn60
        change aI r' 53 k = nj ((bQ (dat r) d f n).1 k).1.length at q1
        change ∀ (j : Nat) (q : Row), ((bQ (dat r) d f n).1 k).1[j]? = some q → _ at q2
        generalize ((bQ (dat r) d f n).1 k).1 = Q at *
        by_cases q : 0 ≤ x4 ∧ x4 ≤ nj Q.length - 1
        · have q' : 0 ≤ x4 ∧ x4 < nj Q.length := by
            have : (0 : Int32) ≤ nj Q.length := Int32.not_lt.mp (by rw [nj_nneg (by omega)]; exact id)
            refine ⟨q.1, ?_⟩
            have := q.2
            grind
          obtain ⟨j, hj, rfl⟩ := nj_in' (by omega) q'
          have hQ : Q[j]? = some Q[j] := List.getElem?_eq_getElem hj
          generalize hz : Q[j] = z at hQ
          obtain ⟨zi, z2, -⟩ := hR.1 z (List.mem_of_getElem? hQ)
          obtain ⟨y1, y2, y3⟩ := isI_30 W zi
          have hI := L.2.2.2.1 (z.1 / 30) (z.1 % 30) y1 y2
          have ez : 30 * (z.1 / 30) + z.1 % 30 = z.1 := by omega
          rw [ez] at hI
          obtain ⟨-, i2, i3, i4, i5, -⟩ := hI
          obtain ⟨r1, r2⟩ := q2 j z hQ
          obtain ⟨r3, r4⟩ := p2 j z hQ
          have hd' : ∀ x, 15 ≤ x → x ≤ 25 → aI r' x z.1 = (dat r).1 x z.1 := fun x a b => dat_15 b4 ⟨a, b⟩ (by omega)
          have e12 : aI r' 12 (z.1 / 30) = (dat r).1 12 (z.1 / 30) := dat_t b4 (by omega) y1
          have e64 : 64 * nj k + nj j = nj (64 * k + j) := by rw [show (64 : Int32) = nj 64 from rfl, nj_mul, nj_add]
          have e30 : nj z.1 / 30 = nj (z.1 / 30) := nj_div (b := 30) (by omega) (by omega)
          refine ⟨if x6 = 0 then (dat r).1 15 z.1 - (if (dat r).1 15 z.1 = 2 then 2 else 3) else if x6 = 1 then (dat r).1 16 z.1 else if x6 = 2 then (dat r).1 12 (z.1 / 30) else -1, p', r', ?_, ?_, b3, c, b5, c1, c2, b6⟩
          · unfold P_item
            rw [hp, bn_s, if_neg (by simp), gs_s, gt_t t2, hO.1 k hk, hi, if_neg n2, p1, P_within_e, bp_s, decide_eq_true q, if_neg n2, t13, gs_s, gt_t t17, (t21 hw).1, inb_nj (by omega), gd_t (decide_eq_true (by omega)), ix_nj (by omega), r3]
            simp only [gs_s, gt_t i2, i3, i4, i5]
            rcases z2 with z2 | z2 | z2 <;> rw [z2] <;> by_cases c0 : x6 = 0 <;> by_cases c1 : x6 = 1 <;> by_cases c2 : x6 = 2 <;> simp [c0, c1, c2]
          · unfold R_item
            rw [hwh, bn_s, hi, if_neg n2, g1, e5, g2, ik, q1, R_in_e, bp_s, decide_eq_true q, if_neg n2, g1, e64, inb_nj (by omega), gd_t (decide_eq_true (by omega)), ix_nj (by omega), r1, vb_e]
            simp only [inb_nj (show z.1 < 2147483648 by omega), gd_t (decide_eq_true (show z.1 < 750 by omega)), ix_nj (show z.1 < 2147483648 by omega), hd' 15 (by omega) (by omega), hd' 16 (by omega) (by omega), e30, inb_nj (show z.1 / 30 < 2147483648 by omega), gd_t (decide_eq_true (show z.1 / 30 < 25 by omega)), ix_nj (show z.1 / 30 < 2147483648 by omega), e12]
            rcases z2 with z2 | z2 | z2 <;> rw [z2] <;> by_cases c0 : x6 = 0 <;> by_cases c1 : x6 = 1 <;> by_cases c2 : x6 = 2 <;> simp [c0, c1, c2]
        · refine ⟨-1, p', r', ?_, ?_, b3, c, b5, c1, c2, b6⟩
          · unfold P_item
            rw [hp, bn_s, if_neg (by simp), gs_s, gt_t t2, hO.1 k hk, hi, if_neg n2, p1, P_within_e, bp_s, decide_eq_false q]
            rfl
          · unfold R_item
            rw [hwh, bn_s, hi, if_neg n2, g1, e5, g2, ik, q1, R_in_e, bp_s, decide_eq_false q]
            rfl
    · refine ⟨-1, p', r, ?_, ?_, hB, c, Ch.rfl, c1, c2, rfl⟩
      · unfold P_item
        rw [hp, bn_s, if_neg (by simp), gs_s, gt_t t2, hS.2.1 k hk hw, P_within_e, bp_s]
        have : ¬ (0 ≤ x4 ∧ x4 ≤ (0 : Int32) - 1) := by grind
        rw [decide_eq_false this]
        by_cases q : mI p' 1287 (ta k) = 0
        · rw [if_pos q]
        · rw [if_neg q]; rfl
      · unfold R_item R_isWhole
        rw [hr, bn_s, if_neg n1, g1, e4, if_neg (fun z => hw (Or.inl z)), g1, if_neg (fun z => hw (Or.inr z)), bn_s, if_pos rfl]
end Fe
