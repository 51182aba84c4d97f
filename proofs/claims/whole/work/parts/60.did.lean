/-! Layer C: did -/
def rowS (D : Dt) (a d : Int32) : Nat → Option Nat
  | 0 => none
  | n + 1 => if D.1 44 n = 6 ∧ D.1 45 n = a ∧ D.1 46 n = d then some n else rowS D a d n
def dnS (D : Dt) (o : Option Nat) (h : Nat) : Int32 := match o with
  | none => -1
  | some i => if nj h < D.1 48 i then D.1 49 (48 * i + h) else -2
section Di
variable {fa ta ia sa ca : Nat → Nat} {od : List Nat} {p r : Mem} {D : Dt} {nc : Nat}
theorem rowS_some {a d : Int32} : ∀ {n i : Nat}, rowS D a d n = some i → i < n ∧ D.1 44 i = 6 ∧ D.1 45 i = a ∧ D.1 46 i = d
  | 0, i, h => by cases h
  | n + 1, i, h => by
    unfold rowS at h
    by_cases c : D.1 44 n = 6 ∧ D.1 45 n = a ∧ D.1 46 n = d
    · rw [if_pos c] at h
      cases h
      exact ⟨by omega, c⟩
    · rw [if_neg c] at h
      have := rowS_some h
      exact ⟨by omega, this.2⟩
theorem R_rowFact_5_e (hD : dat r = D) {x1 x2 : Int32} : ∀ (j fu : Nat), j < fu → j ≤ 160 → R_rowFact_5 fu x1 x2 (nj j - 1) r = some (jo (rowS D x1 x2 j), r)
  | 0, fu + 1, _, _ => by
    rw [R_rowFact_5.eq_2, nj_0m1, if_pos (by decide)]
    rfl
  | j + 1, fu + 1, h, h160 => by
    have ih := R_rowFact_5_e hD (x1 := x1) (x2 := x2) j fu (by omega) (by omega)
    have e51 : R_rowFact_47 (fun z0 z1 z2 z3 => R_rowFact_5 fu z0 z1 z2 z3) x1 x2 (nj j) r = R_rowFact_5 fu x1 x2 (nj j - 1) r := by
      unfold R_rowFact_47
      rw [vb_e, nj_am1]
    rw [R_rowFact_5.eq_2, nj_pred, e51, ih]
    simp (disch := omega) only [nj_nneg, if_false, inb_nj, ix_nj]
    rw [gd_t (decide_eq_true (by omega)), gd_t (decide_eq_true (by omega)), gd_t (decide_eq_true (by omega)), ← dat_44 (r := r) (x := 44) (by omega), ← dat_44 (r := r) (x := 45) (by omega), ← dat_44 (r := r) (x := 46) (by omega), hD]
    have hl : rowS D x1 x2 (j + 1) = if D.1 44 j = 6 ∧ D.1 45 j = x1 ∧ D.1 46 j = x2 then some j else rowS D x1 x2 j := rfl
    rw [hl]
    by_cases c1 : D.1 44 j = 6 <;> by_cases c2 : D.1 45 j = x1 <;> by_cases c3 : D.1 46 j = x2 <;> simp only [c1, c2, c3, if_true, if_false, and_self, and_true, true_and, and_false, false_and] <;> rfl
theorem R_rowFact_e (hD : dat r = D) {x1 x2 : Int32} {n : Nat} (hn : n ≤ 160) : R_rowFact x1 x2 (nj n) r = some (jo (rowS D x1 x2 n), r) := by
  unfold R_rowFact
  rw [vb_e]
  exact R_rowFact_5_e hD n FU (by unfold FU; omega) hn
theorem R_doneIn_e (hD : dat r = D) {o : Option Nat} {h : Nat} (ho : ∀ i, o = some i → i < 160) (hh : h < 48) : R_doneIn (jo o) (nj h) r = some (dnS D o h, r) := by
  unfold R_doneIn
  cases o with
  | none => rw [if_pos (by rfl)]; rfl
  | some i =>
    have hi := ho i rfl
    show (if nj i = -1 then _ else gd (inb (nj i) 160) (if nj h < aI r 48 (ix (nj i)) then gd (inb (48 * nj i + nj h) 7680) (some (aI r 49 (ix (48 * nj i + nj h)), r)) else some (-2, r))) = _
    have e48 : 48 * nj i + nj h = nj (48 * i + h) := by rw [show (48 : Int32) = nj 48 from rfl, nj_mul, nj_add]
    rw [if_neg (by rw [nj_ne_m1 (by omega)]; exact id), inb_nj (by omega), gd_t (decide_eq_true (by omega)), ix_nj (by omega), e48, inb_nj (by omega), gd_t (decide_eq_true (by omega)), ix_nj (by omega), ← dat_44 (r := r) (x := 48) (by omega), ← dat_44 (r := r) (x := 49) (by omega), hD]
    unfold dnS
    by_cases c : nj h < D.1 48 i
    · rw [if_pos c]; simp only [c, if_true]
    · rw [if_neg c]; simp only [c, if_false]
def ldF : List Nat := [1026, 1027, 1028]
/-- rows of a week, the class's -/
def Ld29 (fa : Nat → Nat) (D : Dt) (a : Int32) (wk i : Nat) (p : Mem) : Prop := mI p 1026 28 = a ∧ mI p 1027 28 = nj wk ∧ ∀ q, q < 7 → aR p 29 q = (rowS D a (nj (7 * wk + q)) i).map fa
theorem P_load_42_e (Wf : WFact D nc) (h160 : D.2.2 ≤ 160) {a : Int32} {wk n : Nat} (hw : wk < 20) (hn : n ≤ D.2.2) : ∀ (e i fu : Nat) (p : Mem), i + e = n → e < fu → LFact fa ta p D → Top p → PL p → Ld29 fa D a wk i p →
    ∃ p', P_Reckoning_load_42 fu (nj n) (nj i) p = some ((), p') ∧ Ld29 fa D a wk n p' ∧ Ch [] [29] nil p p' ∧ mC p' = mC p ∧ mS p' = mS p
  | 0, i, fu + 1, p, hi, _, L, T, hp, H => by
    refine ⟨p, ?_, by rw [show n = i by omega]; exact H, Ch.rfl, rfl, rfl⟩
    rw [P_Reckoning_load_42.eq_2, if_pos (by rw [nj_le (by omega) (by omega)]; omega)]
  | e + 1, i, fu + 1, p, hi, hf, L, T, hp, H => by
    have T1 := T.1
    obtain ⟨z1, z2, -⟩ := L.2 i (by omega)
    have e112 : ∀ m, P_Reckoning_load_112 (fun z0 z1 z2 => P_Reckoning_load_42 fu z0 z1 z2) (nj n) (nj i) m = P_Reckoning_load_42 fu (nj n) (nj (i + 1)) m := fun m => by
      unfold P_Reckoning_load_112
      rw [vb_e, nj_add_l]
    have hstep : ∀ d, rowS D a d (i + 1) = if D.1 44 i = 6 ∧ D.1 45 i = a ∧ D.1 46 i = d then some i else rowS D a d i := fun _ => rfl
    rw [P_Reckoning_load_42.eq_2, if_neg (by rw [nj_le (by omega) (by omega)]; omega), inb_nj (by omega), gd_t (decide_eq_true (by omega)), ix_nj (by omega), z1, gs_s, gt_t z2.2.1, z2.2.2.2.2.1]
    simp only [e112]
    by_cases c1 : D.1 44 i = 6
    · obtain ⟨y2, -⟩ := z2.2.2.2.2.2.2.2.2.1 c1
      have y1 := (z2.2.2.2.2.2.1 (by rw [c1]; decide)).2
      obtain ⟨s, s1, s2, -, -, -, s6, -⟩ := Wf i (by omega)
      have s3 : s = 6 := (nj_inj (b := 6) (by omega) (by omega)).mp (s2.symm.trans c1)
      obtain ⟨a', b, -, hb, -, eb, -⟩ := s6 s3
      have d7 : nj b / 7 = nj (b / 7) := nj_div (b := 7) (by omega) (by omega)
      have m7 : nj b - nj (b / 7) * 7 = nj (b % 7) := by rw [show (7 : Int32) = nj 7 from rfl, nj_mul, nj_sub (by omega)]; congr 1; omega
      rw [if_pos c1, y1, y2, H.1, H.2.1, eb, d7, m7]
      by_cases c2 : D.1 45 i = a
      · rw [if_pos c2]
        by_cases c3 : b / 7 = wk
        · rw [if_pos (by rw [c3]), inb_nj (by omega), gd_t (decide_eq_true (by omega)), vb_e, ix_nj (by omega)]
          have cc : Ch [] [29] nil p (wR p 29 (b % 7) (some (fa i))) := Ch.rfl.wR (Or.inl (by decide))
          obtain ⟨p', a1, a2, a3, a4, a5⟩ := P_load_42_e (a := a) Wf h160 hw hn e (i + 1) fu (wR p 29 (b % 7) (some (fa i))) (by omega) (by omega) (L.Ch T cc (fun _ _ => List.not_mem_nil) (fun a ha => by simp; omega) ⟨nil_no, fun _ _ => nil_no⟩) (T.Ch cc) (hp.Ch cc (by decide)) ⟨by rw [k_mI_wR]; exact H.1, by rw [k_mI_wR]; exact H.2.1, fun q hq => by
            rw [k_aR_wR_e, up1_ap, hstep, eb]
            by_cases c4 : q = b % 7
            · rw [if_pos c4, if_pos ⟨c1, c2, by congr 1; omega⟩]; rfl
            · rw [if_neg c4, if_neg (fun z => c4 (by have := (nj_inj (by omega) (by omega)).mp z.2.2; omega))]
              exact H.2.2 q hq⟩
          exact ⟨p', a1, a2, cc.trans a3, by rw [a4, k_mC_wR], by rw [a5, k_mS_wR]⟩
        · rw [if_neg (fun z => c3 ((nj_inj (by omega) (by omega)).mp z))]
          exact P_load_42_e (a := a) Wf h160 hw hn e (i + 1) fu p (by omega) (by omega) L T hp ⟨H.1, H.2.1, fun q hq => by
            rw [hstep, eb, if_neg (fun z => c3 (by have := (nj_inj (by omega) (by omega)).mp z.2.2; omega))]
            exact H.2.2 q hq⟩
      · rw [if_neg c2]
        exact P_load_42_e (a := a) Wf h160 hw hn e (i + 1) fu p (by omega) (by omega) L T hp ⟨H.1, H.2.1, fun q hq => by
          rw [hstep, if_neg (fun z => c2 z.2.1)]
          exact H.2.2 q hq⟩
    · rw [if_neg c1]
      exact P_load_42_e (a := a) Wf h160 hw hn e (i + 1) fu p (by omega) (by omega) L T hp ⟨H.1, H.2.1, fun q hq => by
        rw [hstep, if_neg (fun z => c1 z.1)]
        exact H.2.2 q hq⟩
theorem P_load_18_e {x3 : Int32} : ∀ (e i fu : Nat) (p : Mem), i + e = 7 → e < fu → (∀ q, q < i → aR p 29 q = none) → ∃ p', P_Reckoning_load_18 fu x3 (nj i) p = P_Reckoning_load_39 x3 p' ∧ (∀ q, q < 7 → aR p' 29 q = none) ∧ Ch [] [29] nil p p' ∧ mC p' = mC p ∧ mS p' = mS p
  | 0, i, fu + 1, p, hi, _, H => by
    refine ⟨p, ?_, by rw [show 7 = i by omega]; exact H, Ch.rfl, rfl, rfl⟩
    rw [P_Reckoning_load_18.eq_2, if_pos (by rw [show (7 : Int32) = nj 7 from rfl, nj_le (by omega) (by omega)]; omega)]
  | e + 1, i, fu + 1, p, hi, hf, H => by
    obtain ⟨p', a1, a2, a3, a4, a5⟩ := P_load_18_e (x3 := x3) e (i + 1) fu (wR p 29 i none) (by omega) (by omega) (fun q hq => by
      rw [k_aR_wR_e, up1_ap]
      by_cases c : q = i
      · rw [if_pos c]
      · rw [if_neg c]; exact H q (by omega))
    have cc : Ch [] [29] nil p (wR p 29 i none) := Ch.rfl.wR (Or.inl (by decide))
    refine ⟨p', ?_, a2, cc.trans a3, by rw [a4, k_mC_wR], by rw [a5, k_mS_wR]⟩
    rw [P_Reckoning_load_18.eq_2, if_neg (by rw [show (7 : Int32) = nj 7 from rfl, nj_le (by omega) (by omega)]; omega), inb_nj (by omega), gd_t (decide_eq_true (by omega)), vb_e, vb_e, nj_add_l, ix_nj (by omega), a1]
theorem P_load_e (L : LFact fa ta p D) (T : Top p) (hp : PL p) (Wf : WFact D nc) (h160 : D.2.2 ≤ 160) {a : Int32} {wk n : Nat} (hw : wk < 20) (hn : n ≤ D.2.2) : ∃ p', P_Reckoning_load a (nj wk) (nj n) p = some ((), p') ∧ Ld29 fa D a wk n p' ∧ mI p' 1028 28 = nj n ∧ Ch ldF [29] nil p p' ∧ mC p' = mC p ∧ mS p' = mS p := by
  have T1 := T.1
  have c0 : Ch ldF [29] nil p (sI (sI (sI p 1026 28 a) 1027 28 (nj wk)) 1028 28 (nj n)) := ((Ch.rfl.sI (by decide)).sI (by decide)).sI (by decide)
  obtain ⟨p1, a1, a2, a3, a4, a5⟩ := P_load_18_e (x3 := nj n) 7 0 FU (sI (sI (sI p 1026 28 a) 1027 28 (nj wk)) 1028 28 (nj n)) (by omega) (by unfold FU; omega) (fun _ h => absurd h (by omega))
  have c1 : Ch ldF [29] nil p p1 := c0.trans (a3.mono (by simp) (fun _ h => h) (fun _ h => h))
  have f : ∀ g, mI p1 g 28 = mI (sI (sI (sI p 1026 28 a) 1027 28 (nj wk)) 1028 28 (nj n)) g 28 := fun g => a3.i List.not_mem_nil (by show 28 < mC p; omega)
  obtain ⟨p', b1, b2, b3, b4, b5⟩ := P_load_42_e (fa := fa) (ta := ta) (a := a) Wf h160 hw hn n 0 FU p1 (by omega) (by unfold FU; omega) (L.Ch T c1 (fun f hf => by simp [ldF]; omega) (fun a ha => by simp; omega) ⟨nil_no, fun _ _ => nil_no⟩) (T.Ch c1) (hp.Ch c1 (by decide)) ⟨by rw [f, k_mI_sI (by omega), k_mI_sI (by omega), k_mI_sI_e, up1_eq], by rw [f, k_mI_sI (by omega), k_mI_sI_e, up1_eq], fun q hq => a2 q hq⟩
  refine ⟨p', ?_, b2, ?_, c1.trans (b3.mono (by simp) (fun _ h => h) (fun _ h => h)), by rw [b4, a4]; rfl, by rw [b5, a5]; rfl⟩
  · unfold P_Reckoning_load
    rw [vb_e, vb_e, vb_e]
    refine Eq.trans a1 ?_
    exact b1
  · rw [b3.i List.not_mem_nil (by rw [a4]; show 28 < mC p; omega), f, k_mI_sI_e, up1_eq]
theorem P_doneIn_e (L : LFact fa ta p D) (hp : PL p) (h160 : D.2.2 ≤ 160) {a : Int32} {wk n q h : Nat} (H : Ld29 fa D a wk n p) (hn : n ≤ D.2.2) (hq : q < 7) (hh : h < 48) : P_Reckoning_doneIn (nj q) (nj h) p = some (dnS D (rowS D a (nj (7 * wk + q)) n) h, p) := by
  unfold P_Reckoning_doneIn
  rw [inb_nj (by omega), gd_t (decide_eq_true hq), ix_nj (by omega), H.2.2 q hq]
  cases c : rowS D a (nj (7 * wk + q)) n with
  | none => rfl
  | some i =>
    obtain ⟨c1, c2, -⟩ := rowS_some c
    obtain ⟨-, z2, -⟩ := L.2 i (by omega)
    obtain ⟨-, n', y1, y2, y3, y4⟩ := z2.2.2.2.2.2.2.2.2.1 c2
    show (if some (fa i) = none then _ else gs (some (fa i)) _) = _
    rw [if_neg (by simp), gs_s, gt_t z2.2.1, z2.2.2.1, gs_s, gt_t z2.2.2.2.1, y1, gs_s, gt_t z2.2.2.2.1]
    show (if nj n' ≤ nj h then _ else _) = _
    unfold dnS
    by_cases d : n' ≤ h
    · rw [if_pos (by rw [nj_le (by omega) (by omega)]; exact d)]
      have : ¬ nj h < D.1 48 i := by
        rcases y3 with ⟨e, -⟩ | e
        · rw [e]
          have : (0 : Int32) ≤ nj h := Int32.not_lt.mp (by rw [nj_nneg (by omega)]; exact id)
          grind
        · rw [e, nj_lt (by omega) (by omega)]; omega
      simp only [this, if_false]
    · rw [if_neg (by rw [nj_le (by omega) (by omega)]; exact d)]
      have e : D.1 48 i = nj n' := by
        rcases y3 with ⟨-, e⟩ | e
        · omega
        · exact e
      have : nj h < D.1 48 i := by rw [e, nj_lt (by omega) (by omega)]; omega
      simp only [this, if_true]
      rw [y1, inb_nj (by omega), gd_t (decide_eq_true (by omega)), ix_nj (by omega), y4 h (by omega)]
theorem Bs.Chp {F A : List Nat} {p' : Mem} (h : Bs nc p r) (c : Ch F A nil p p') (hF : (F.all fun f => 1026 ≤ f && f < 1157) = true) (hF2 : (F.all fun f => !(P_refs.any fun q => q.1 == f)) = true) (hA : (A.all fun a => 28 < a && a < 50) = true) : Bs nc p' r := by
  obtain ⟨hc, Ld, hp, h4⟩ := h
  have hF' : ∀ f, f ∈ F → 1026 ≤ f ∧ f < 1157 := fun f q => by
    have := List.all_eq_true.mp hF f q
    simp at this
    omega
  have hA' : ∀ a, a ∈ A → 28 < a ∧ a < 50 := fun f q => by
    have := List.all_eq_true.mp hA f q
    simp at this
    omega
  refine ⟨hc.Chp (hc.1.Ch c) c (fun f hf q => ?_) (fun a ha q => by have := hA' a q; omega), Ld.P c hc.1.1 ?_ ?_ (fun _ h => h.elim), hp.Ch c hF2, h4⟩
  · have := hF' f q
    simp at hf
    omega
  · rw [List.all_eq_true]
    intro f q
    have := hF' f q
    simp
    omega
  · rw [List.all_eq_true]
    intro f q
    have := hA' f q
    simp
    omega
theorem st_did (h : Bs nc p r) (x1 x2 x3 x4 : Int32) : ∃ v p', P_did x1 x2 x3 x4 p = some (v, p') ∧ R_did x1 x2 x3 x4 r = some (v, r) ∧ Bs nc p' r ∧ Ch ldF [29] nil p p' ∧ mC p' = mC p ∧ mS p' = mS p := by
  have hc := h.1
  have Ld := h.2.1
  have h160 := hc.f160
  have k1 := P_canKnow_e hc x4
  have k2 := R_isKnown_e hc x4
  have n1 : ¬ tI true = 0 := by decide
  have n2 : ¬ (1 : Int32) = 0 := by decide
  obtain ⟨T, C2, W1, W2, e1, e2, e3, e4, e5, fa, ta, ia, sa, ca, od, L, hSc⟩ := id hc
  by_cases q : (0 ≤ x1 ∧ x1 < mI r 1595 0) ∧ (0 ≤ x2 ∧ x2 ≤ 139) ∧ (0 ≤ x3 ∧ x3 ≤ 47) ∧ (0 ≤ x4 ∧ x4 ≤ nj (dat r).2.2)
  · obtain ⟨c1, c2, c3, c4⟩ := q
    obtain ⟨d, hd, rfl⟩ := nj_in (n := 139) (by omega) c2
    obtain ⟨t, ht, rfl⟩ := nj_in (n := 47) (by omega) c3
    obtain ⟨n, hn, rfl⟩ := nj_in (by omega) c4
    have d7 : nj d / 7 = nj (d / 7) := nj_div (b := 7) (by omega) (by omega)
    have m7 : nj d - nj (d / 7) * 7 = nj (d % 7) := by rw [show (7 : Int32) = nj 7 from rfl, nj_mul, nj_sub (by omega)]; congr 1; omega
    have hdm : 7 * (d / 7) + d % 7 = d := by omega
    obtain ⟨p', a1, a2, a3, a4, a5, a6⟩ := P_load_e L.1 T h.2.2.1 W2 h160 (a := x1) (wk := d / 7) (by omega) hn
    have B1 := h.Chp a4 (by decide) (by decide) (by decide)
    have L1 := L.1.Ch T a4 (fun f hf => by simp [ldF]; omega) (fun a ha => by simp; omega) ⟨nil_no, fun _ _ => nil_no⟩
    have hdone := P_doneIn_e L1 B1.2.2.1 h160 a2 hn (q := d % 7) (h := t) (by omega) (by omega)
    rw [hdm] at hdone
    refine ⟨dnS (dat r) (rowS (dat r) x1 (nj d) n) t, p', ?_, ?_, B1, a4, a5, a6⟩
    · unfold P_did P_isHalfOf
      rw [P_hasPerson_e Ld, bn_s, decide_eq_true c1, if_neg n1, P_isDay_e, bp_s, decide_eq_true c2, if_neg n1, P_within_e, bp_s, decide_eq_true c3, if_neg n1, k1, bn_s, decide_eq_true c4, if_neg n1, bn_s, if_neg n2, d7, a1, bn_s, m7, hdone, bn_s]
    · unfold R_did
      rw [R_isPerson_e, bn_s, decide_eq_true c1, if_neg n1, R_in_e, bp_s, decide_eq_true c2, if_neg n1, R_in_e, bp_s, decide_eq_true c3, if_neg n1, k2, bn_s, decide_eq_true c4, if_neg n1, R_rowFact_e rfl (by omega), bn_s, R_doneIn_e rfl (fun i hi => by have := (rowS_some hi).1; omega) (by omega), bn_s]
  · refine ⟨-3, p, ?_, ?_, h, Ch.rfl, rfl, rfl⟩
    · unfold P_did P_isHalfOf
      by_cases c1 : 0 ≤ x1 ∧ x1 < mI r 1595 0 <;> by_cases c2 : 0 ≤ x2 ∧ x2 ≤ 139 <;> by_cases c3 : 0 ≤ x3 ∧ x3 ≤ 47 <;> by_cases c4 : 0 ≤ x4 ∧ x4 ≤ nj (dat r).2.2 <;> simp [P_hasPerson_e Ld, P_isDay_e, P_within_e, k1, bn_s, bp_s, tI, c1, c2, c3, c4]
      exact (q ⟨c1, c2, c3, c4⟩).elim
    · unfold R_did
      by_cases c1 : 0 ≤ x1 ∧ x1 < mI r 1595 0 <;> by_cases c2 : 0 ≤ x2 ∧ x2 ≤ 139 <;> by_cases c3 : 0 ≤ x3 ∧ x3 ≤ 47 <;> by_cases c4 : 0 ≤ x4 ∧ x4 ≤ nj (dat r).2.2 <;> simp [R_isPerson_e, R_in_e, k2, bn_s, bp_s, tI, c1, c2, c3, c4]
      exact (q ⟨c1, c2, c3, c4⟩).elim
end Di
