/-! Layer C: the links over questions; what is in force, in the class -/
/-- fields that links speak of -/
def lkF : List Nat := [0, 1, 2, 3, 4, 5, 6, 256, 257, 258, 259, 260, 261, 262, 263, 264, 265, 266, 267, 514, 515, 1280, 1281, 1282, 1283, 1284, 1285, 1286, 1288, 1289, 1290, 1291]
section Lc
variable {fa ta ia sa ca : Nat → Nat} {od : List Nat} {p p' : Mem} {D : Dt} {F A : List Nat}
theorem dyT_fact (L : Lk fa ta ia sa ca od p D) {i : Nat} (hi : i < D.2.2) : ¬ dyT ta D.2.1 (fa i + 1) := by
  rintro ⟨k, hk, h⟩
  have A := (L.1.2 i hi).2.1.2.1
  have B := L.2.1.2.1 k hk
  obtain ⟨-, b2, -, -, -, -, -, -, -, -, -, -, -, -, -, -, b17, b18, b19, -⟩ := B
  rcases h with h | h | h | h
  · rw [show fa i = ta k by omega, b2] at A; exact absurd A (by decide)
  · rw [show fa i = ta k + 1 by omega, b17] at A; exact absurd A (by decide)
  · rw [show fa i = ta k + 2 by omega, b18] at A; exact absurd A (by decide)
  · rw [show fa i = ta k + 3 by omega, b19] at A; exact absurd A (by decide)
theorem dyT_items (L : Lk fa ta ia sa ca od p D) {l : Nat} (hl : l < D.2.1) : ¬ dyT ta D.2.1 (ta l - 1) := by
  rintro ⟨k, hk, h⟩
  obtain ⟨a1, a2, -, -, -, -, -, -, -, a10, -⟩ := L.2.1.2.1 l hl
  obtain ⟨-, b2, -, -, -, -, -, -, -, -, -, -, -, -, -, -, b17, b18, b19, b20, -⟩ := L.2.1.2.1 k hk
  rcases h with h | h | h | h
  · rw [show ta l = ta k + 2 by omega, b18] at a2; exact absurd a2 (by decide)
  · rw [show ta l = ta k + 3 by omega, b19] at a2; exact absurd a2 (by decide)
  · rw [h, b19] at a10; exact absurd a10 (by decide)
  · rw [h, b20] at a10; exact absurd a10 (by decide)
theorem dyT_lo (L : Lk fa ta ia sa ca od p D) {a : Nat} (ha : a ≤ 51) : ¬ dyT ta D.2.1 a := by
  rintro ⟨k, hk, h⟩
  have := (L.2.1.2.1 k hk).1
  omega
theorem Lk.Ch (L : Lk fa ta ia sa ca od p D) (T : Top p) (c : Ch F A (dyT ta D.2.1) p p') (hF : (F.all fun f => !lkF.contains f) = true) (hA : (A.all fun a => a < 50 && a != 14 && a != 15) = true) : Lk fa ta ia sa ca od p' D := by
  have hF' : ∀ f, f ∈ lkF → f ∉ F := fun f h1 h2 => by
    have := List.all_eq_true.mp hF f h2
    simp at this
    exact this h1
  have hA' : ∀ a, a = 14 ∨ a = 15 ∨ 50 ≤ a → a ∉ A := fun a h1 h2 => by
    have := List.all_eq_true.mp hA a h2
    simp at this
    omega
  obtain ⟨L1, L2, L3, L4, L5⟩ := id L
  refine ⟨?_, ?_, ?_, ?_, L5⟩
  · exact L1.Ch T c (fun f hf => hF' f (by unfold lkF; simp; omega)) (fun a ha => hA' a (by omega)) ⟨dyT_lo L (by omega), fun i hi => dyT_fact L hi⟩
  · exact L2.Ch T c (fun f hf => hF' f (by unfold lkF; simp at hf ⊢; omega)) (fun a ha => hA' a (by omega)) (fun k hk => dyT_items L hk)
  · exact L3.Ch T c (hA' 15 (by omega)) (dyT_lo L (by omega))
  · exact L4.Ch T c (fun f h1 h2 => hF' f (by unfold lkF; simp; omega)) (fun a ha => hA' a (by omega)) (fun k j hk hj => ⟨(L5.1 k j hk hj).1, (L5.1 k j hk hj).2.1⟩)
theorem Ch.dy {q : Nat → Prop} (c : Ch F A nil p p') : Ch F A q p p' := c.mono (fun _ h => h) (fun _ h => h) (fun _ h => absurd h nil_no)
variable {nc : Nat}
/-- as in force, but for STAYS -/
def inB (D : Dt) (k : Nat) (d f : Int32) (n : Nat) : Bool := decide (D.1 12 k < nj n) && decide (D.1 11 k ≤ d) && (decide (D.1 10 k = -1) || decide (D.1 10 k = f))
theorem od_get (L : Lk fa ta ia sa ca od p D) {i : Nat} (hi : i < D.2.1) : ∃ k, od[i]? = some k ∧ k < D.2.1 ∧ aR p 15 i = some (ta k) := by
  have hl : i < od.length := by rw [L.2.2.1.1]; exact hi
  refine ⟨od[i], List.getElem?_eq_getElem hl, (L.2.2.1.2.2.1 _).mp (List.getElem_mem hl), L.2.2.1.2.1 i _ (List.getElem?_eq_getElem hl)⟩
theorem ta_inj (L : Lk fa ta ia sa ca od p D) {k l : Nat} (hk : k < D.2.1) (hl : l < D.2.1) (h : ta k = ta l) : k = l := L.2.1.2.2.1 k l hk hl h
theorem P_setInForce_76_e (W : WText D nc) (Fw : WFact D nc) {n : Nat} {d f : Int32} (hn : n ≤ D.2.2) : ∀ (e j fu : Nat) (p : Mem), j + e = n → e < fu → Lk fa ta ia sa ca od p D → Top p → (∀ k, k < D.2.1 → mI p 1287 (ta k) = tI (inB D k d f n && !stB D (D.1 12 k) d j)) →
    ∃ p', P_Ledger_setInForce_76 fu d (nj n) (nj j) p = some ((), p') ∧ (∀ k, k < D.2.1 → mI p' 1287 (ta k) = tI (inB D k d f n && !stB D (D.1 12 k) d n)) ∧ Ch [1287] [] nil p p' ∧ mC p' = mC p ∧ mS p' = mS p
  | 0, j, fu + 1, p, hj, _, L, T, hI => by
    have h160 := W.2.1
    refine ⟨p, ?_, by rw [show n = j by omega]; rw [show n = j by omega] at hI; exact hI, Ch.rfl, rfl, rfl⟩
    rw [P_Ledger_setInForce_76.eq_2, if_pos (by rw [nj_le (by omega) (by omega)]; omega)]
  | e + 1, j, fu + 1, p, hj, hf, L, T, hI => by
    have h160 := W.2.1
    have h24 := W.1
    obtain ⟨z1, z2, -⟩ := L.1.2 j (by omega)
    obtain ⟨s, s1, s2, -, -, -, -, -, -, s10⟩ := Fw j (by omega)
    have K : ∀ p1, Ch [1287] [] nil p p1 → mC p1 = mC p → mS p1 = mS p → Lk fa ta ia sa ca od p1 D → Top p1 → (∀ k, k < D.2.1 → mI p1 1287 (ta k) = tI (inB D k d f n && !stB D (D.1 12 k) d (j + 1))) → ∃ p', P_Ledger_setInForce_154 (fun z0 z1 z2 z3 => P_Ledger_setInForce_76 fu z0 z1 z2 z3) d (nj n) (nj j) p1 = some ((), p') ∧ (∀ k, k < D.2.1 → mI p' 1287 (ta k) = tI (inB D k d f n && !stB D (D.1 12 k) d n)) ∧ Ch [1287] [] nil p p' ∧ mC p' = mC p ∧ mS p' = mS p := by
      intro p1 c1 c2 c3 L1 T1 hI1
      obtain ⟨p', e1, e2, e3, e4, e5⟩ := P_setInForce_76_e W Fw hn e (j + 1) fu p1 (by omega) (by omega) L1 T1 hI1
      refine ⟨p', ?_, e2, c1.trans e3, e4.trans c2, e5.trans c3⟩
      unfold P_Ledger_setInForce_154
      rw [vb_e, nj_add_l]
      exact e1
    have g1 : ∀ {β : Type} (c : Option β), gd (inb (nj j) 160) c = c := fun c => by rw [inb_nj (by omega), gd_t (decide_eq_true (by omega))]
    rw [P_Ledger_setInForce_76.eq_2, if_neg (by rw [nj_le (by omega) (by omega)]; omega)]
    simp only [g1, ix_nj (show j < 2147483648 by omega), z1, gs_s, gt_t z2.2.1]
    rw [z2.2.2.2.2.1]
    by_cases c10 : D.1 44 j = 10
    · have s10' : s = 10 := by
        rw [s2, nj_eq_l (by omega) (by omega)] at c10
        exact c10
      obtain ⟨a, b, c, a1, a2, a3, a4, a5, a6, a7⟩ := s10 s10'
      obtain ⟨y2, y4⟩ := z2.2.2.2.2.2.2.2.2.2.2 c10
      have y1 := (z2.2.2.2.2.2.1 (by rw [c10]; decide)).2
      have hw : (D.1 46 j ≤ d ∧ d ≤ D.1 47 j - 1) = (D.1 46 j ≤ d ∧ d < D.1 47 j) := by
        have h1 := nj_l_lt (a := c) (k := 0) (by omega) (show (0 : Nat) < 2147483648 by omega)
        have h2 : (0 : Int32) < D.1 47 j := by rw [a7, h1]; show 0 < c; omega
        grind
      rw [if_pos c10, P_within_e, bp_s, y2, y4, y1]
      simp only [hw]
      by_cases cw : D.1 46 j ≤ d ∧ d < D.1 47 j
      · rw [decide_eq_true cw, if_neg (by decide)]
        have hT : isT D (nj a) := ⟨nj_0le (by omega), by rw [nj_lt (by omega) (by omega)]; omega, by rw [ix_nj (by omega)]; exact a4⟩
        have hP := P_textAt_e L.1 h160 (nj a) (nj n) (by rw [nj_le (by omega) (by omega)]; exact hn)
        obtain ⟨s', t1, t2, t3, -⟩ := Fw a (by omega)
        have ht4 : s' < 4 := by
          rw [t2, nj_lt_l (by omega) (by omega)] at a4
          exact a4
        obtain ⟨ka, k1, k2, k3⟩ := t3 ht4
        rw [a5, hP, if_pos ⟨by rw [nj_lt (by omega) (by omega)]; omega, hT⟩, bn_s, if_neg (by simp), ix_nj (by omega), k2, ix_nj (by omega), gs_s, gt_t (L.2.1.2.1 ka k1).2.1, vb_e]
        have cS : Ch [1287] [] nil p (sI p 1287 (ta ka) 0) := Ch.rfl.sI (by decide)
        refine K _ cS rfl rfl (L.Ch T cS.dy (by decide) (by decide)) (T.same rfl rfl) fun k hk => ?_
        rw [k_mI_sI_e, up1_ap]
        by_cases ck : ta k = ta ka
        · have hkk := ta_inj L hk k1 ck
          subst hkk
          rw [if_pos rfl]
          have : stB D (D.1 12 k) d (j + 1) = true := stB_t.mpr ⟨j, by omega, c10, by rw [a5, k3], cw⟩
          rw [this]
          simp [tI]
        · rw [if_neg ck, hI k hk]
          have : stB D (D.1 12 k) d (j + 1) = stB D (D.1 12 k) d j := by
            show (decide _ || _) = _
            rw [decide_eq_false, Bool.false_or]
            rintro ⟨-, w2, -⟩
            apply ck
            obtain ⟨-, ⟨tf, q1, q2, q3, q4⟩, -⟩ := W.2.2.1 k hk
            rw [a5, q2, nj_inj (by omega) (by omega)] at w2
            subst w2
            rw [k2, nj_inj (by omega) (by omega)] at q4
            rw [q4]
          rw [this]
      · rw [decide_eq_false cw, if_pos (show tI false = 0 from rfl)]
        refine K p Ch.rfl rfl rfl L T fun k hk => ?_
        rw [hI k hk]
        have : stB D (D.1 12 k) d (j + 1) = stB D (D.1 12 k) d j := by
          show (decide _ || _) = _
          rw [decide_eq_false (fun z => cw z.2.2), Bool.false_or]
        rw [this]
    · rw [if_neg c10]
      refine K p Ch.rfl rfl rfl L T fun k hk => ?_
      rw [hI k hk]
      have : stB D (D.1 12 k) d (j + 1) = stB D (D.1 12 k) d j := by
        show (decide _ || _) = _
        rw [decide_eq_false (fun z => c10 z.1), Bool.false_or]
      rw [this]
theorem P_setInForce_3_e (W : WText D nc) (Fw : WFact D nc) {n : Nat} {d f : Int32} (hn : n ≤ D.2.2) : ∀ (e i fu : Nat) (p : Mem), i + e = D.2.1 → e < fu → Lk fa ta ia sa ca od p D → Top p → (∀ x k, od[x]? = some k → x < i → mI p 1287 (ta k) = tI (inB D k d f n)) →
    ∃ p', P_Ledger_setInForce_3 fu f d (nj n) (nj i) p = some ((), p') ∧ (∀ k, k < D.2.1 → mI p' 1287 (ta k) = tI (inF D k d f n)) ∧ Ch [1287] [] nil p p' ∧ mC p' = mC p ∧ mS p' = mS p
  | 0, i, fu + 1, p, hi, _, L, T, hI => by
    have h160 := W.2.1
    have h24 := W.1
    obtain ⟨p', e1, e2, e3, e4, e5⟩ := P_setInForce_76_e (d := d) (f := f) W Fw hn n 0 FU p (by omega) (by unfold FU; omega) L T (fun k hk => by
      obtain ⟨x, hx, e⟩ := List.getElem_of_mem ((L.2.2.1.2.2.1 k).mpr hk)
      rw [hI x k (by rw [List.getElem?_eq_getElem hx, e]) (by rw [L.2.2.1.1] at hx; omega)]
      simp [stB])
    refine ⟨p', ?_, e2, e3, e4, e5⟩
    rw [P_Ledger_setInForce_3.eq_2, L.2.1.1, if_pos (by rw [nj_le (by omega) (by omega)]; omega)]
    exact e1
  | e + 1, i, fu + 1, p, hi, hf, L, T, hI => by
    have h160 := W.2.1
    have h24 := W.1
    obtain ⟨k, ek, hk, ea⟩ := od_get L (show i < D.2.1 by omega)
    have A := L.2.1.2.1 k hk
    have K : ∀ y : Bool, y = inB D k d f n → ∃ p', P_Ledger_setInForce_64 (fun z0 z1 z2 z3 z4 => P_Ledger_setInForce_3 fu z0 z1 z2 z3 z4) f d (nj n) (nj i) (tI y) (some (ta k)) p = some ((), p') ∧ (∀ k, k < D.2.1 → mI p' 1287 (ta k) = tI (inF D k d f n)) ∧ Ch [1287] [] nil p p' ∧ mC p' = mC p ∧ mS p' = mS p := by
      intro y hy
      have cS : Ch [1287] [] nil p (sI p 1287 (ta k) (tI y)) := Ch.rfl.sI (by decide)
      obtain ⟨p', e1, e2, e3, e4, e5⟩ := P_setInForce_3_e (d := d) (f := f) W Fw hn e (i + 1) fu (sI p 1287 (ta k) (tI y)) (by omega) (by omega) (L.Ch T cS.dy (by decide) (by decide)) (T.same rfl rfl) (fun x l hl hx => by
        rw [k_mI_sI_e, up1_ap]
        by_cases cl : ta l = ta k
        · have hlD : l < D.2.1 := (L.2.2.1.2.2.1 l).mp (List.mem_of_getElem? hl)
          have := ta_inj L hlD hk cl
          subst this
          rw [if_pos rfl, hy]
        · rw [if_neg cl]
          refine hI x l hl ?_
          by_cases cx : x = i
          · subst cx
            rw [ek] at hl
            cases hl
            exact absurd rfl cl
          · omega)
      refine ⟨p', ?_, e2, cS.trans e3, by rw [e4, k_mC_sI], by rw [e5, k_mS_sI]⟩
      unfold P_Ledger_setInForce_64
      rw [gs_s, gt_t A.2.1, gz_tI, vb_e, vb_e, nj_add_l]
      exact e1
    rw [P_Ledger_setInForce_3.eq_2, L.2.1.1, if_neg (by rw [nj_le (by omega) (by omega)]; omega), inb_nj (by omega), gd_t (decide_eq_true (by omega)), ix_nj (by omega), ea, gs_s, gt_t A.2.1, A.2.2.2.1, A.2.2.2.2.2.2.1, A.2.2.2.2.2.1]
    unfold P_Ledger_setInForce_59 P_Ledger_setInForce_63
    by_cases c1 : nj n ≤ D.1 12 k
    · rw [if_pos c1]; exact K false (by unfold inB; rw [decide_eq_false (Int32.not_lt.mpr c1)]; rfl)
    · rw [if_neg c1]
      by_cases c2 : d < D.1 11 k
      · rw [if_pos c2]; exact K false (by unfold inB; rw [decide_eq_false (Int32.not_le.mpr c2)]; simp)
      · rw [if_neg c2]
        by_cases c3 : D.1 10 k = -1
        · rw [if_pos c3]; exact K true (by unfold inB; rw [decide_eq_true (Int32.not_le.mp c1), decide_eq_true (Int32.not_lt.mp c2), decide_eq_true c3]; rfl)
        · rw [if_neg c3]
          by_cases c4 : D.1 10 k = f
          · rw [if_pos c4]; exact K true (by unfold inB; rw [decide_eq_true (Int32.not_le.mp c1), decide_eq_true (Int32.not_lt.mp c2), decide_eq_true c4]; simp)
          · rw [if_neg c4]; exact K false (by unfold inB; rw [decide_eq_false c3, decide_eq_false c4]; simp)
theorem P_setInForce_e (W : WText D nc) (Fw : WFact D nc) {n : Nat} {d f : Int32} (hn : n ≤ D.2.2) (L : Lk fa ta ia sa ca od p D) (T : Top p) : ∃ p', P_Ledger_setInForce f d (nj n) p = some ((), p') ∧ (∀ k, k < D.2.1 → mI p' 1287 (ta k) = tI (inF D k d f n)) ∧ Ch [1287] [] nil p p' ∧ mC p' = mC p ∧ mS p' = mS p := by
  unfold P_Ledger_setInForce
  exact P_setInForce_3_e W Fw hn D.2.1 0 FU p (by omega) (by have := W.1; unfold FU; omega) L T (fun _ _ _ h => absurd h (by omega))
end Lc
