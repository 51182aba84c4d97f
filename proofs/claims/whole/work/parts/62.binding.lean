/-! Layer C: which TEXTS bind a HALF -/
/-- some BINDS of the ITEMS from j on holds -/
def bdR (D : Dt) (vs : Nat → Int32) (tk : Int32) (k : Nat) : Nat → Nat → Bool
  | 0, _ => false
  | e + 1, j => (decide (D.1 15 (30 * k + j) = 0) && holdS D vs tk (30 * k + j)) || bdR D vs tk k e (j + 1)
def bdS (D : Dt) (vs : Nat → Int32) (tk : Int32) (k : Nat) : Bool := bdR D vs tk k (ix (D.1 14 k)) 0
/-- k is over the award of that NAME, by its ITEMS from j on -/
def ovR (D : Dt) (nm : Int32) (k : Nat) : Nat → Nat → Bool
  | 0, _ => false
  | e + 1, j => (decide (D.1 15 (30 * k + j) = 1) && decide (D.1 16 (30 * k + j) = nm)) || ovR D nm k e (j + 1)
def ovS (D : Dt) (nm : Int32) (k : Nat) : Bool := ovR D nm k (ix (D.1 14 k)) 0
/-- what the class needs to ask a condition -/
def HoP (p : Mem) (vs : Nat → Int32) (tk : Int32) : Prop := (∀ j, j < 12 → aI p 39 j = vs j) ∧ ∃ who, who < 10 ∧ mI p 1026 28 = nj who ∧ aI p 9 who = tk
section Bi
variable {fa ta ia sa ca : Nat → Nat} {od : List Nat} {p r : Mem} {D : Dt} {nc : Nat} {vs : Nat → Int32} {tk : Int32}
theorem HoP.Ch {A : List Nat} {dy : Nat → Prop} {F : List Nat} {p' : Mem} (h : HoP p vs tk) (T : Top p) (c : Ch F A dy p p') (hF : 1026 ∉ F) (hA : 39 ∉ A ∧ 9 ∉ A) (hd : ¬ dy 39 ∧ ¬ dy 9) : HoP p' vs tk := by
  have T1 := T.1
  obtain ⟨h1, who, h2, h3, h4⟩ := h
  exact ⟨fun j hj => by rw [c.ai hA.1 hd.1 (by omega)]; exact h1 j hj, who, h2, by rw [c.i hF (by omega)]; exact h3, by rw [c.ai hA.2 hd.2 (by omega)]; exact h4⟩
theorem P_holds_e (L : Lk fa ta ia sa ca od p D) (hp : PL p) (W : WText D nc) (Wi : WItems D nc) {k j : Nat} (hk : k < D.2.1) (hj : j < ix (D.1 14 k)) (h0 : D.1 15 (30 * k + j) = 0) (H : HoP p vs tk) : ∃ p', P_Reckoning_holds (some (ia (30 * k + j))) p = some (tI (holdS D vs tk (30 * k + j)), p') ∧ Ch [] [4] nil p p' ∧ mC p' = mC p ∧ mS p' = mS p := by
  obtain ⟨h1, who, h2, h3, h4⟩ := H
  obtain ⟨s, s1, s2, -, -, -, -, -, -, -, -, ⟨a, e, q1, q2, q3, q4, q5, q6, q7⟩, -⟩ := Wi k j hk hj
  have h24 := W.1
  have s0 : s = 0 := (nj_inj (b := 0) (by omega) (by omega)).mp (s2.symm.trans h0)
  obtain ⟨-, i2, -, -, -, -, -, -, i9, -, i11, -, -, -, i15, -⟩ := L.2.2.2.1 k j hk hj
  obtain ⟨nt, n1, n2⟩ := i15 (Or.inl h0)
  rw [q3, q4, ix_nj (by omega), ix_nj (by omega)] at n1 n2
  obtain ⟨p', a1, a2, a3, a4⟩ := P_result_e (vs := vs) (va := 39) (tk := tk) i11 (by omega) n2 (PC_39 hp).1 (PC_39 hp).2 h1
  rw [cond_eq h24 (q5 s0) q7 n1 (q6 (q5 s0))] at a1
  refine ⟨p', ?_, a2, a3, a4⟩
  have hh : holdS D vs tk (30 * k + j) = rH D vs tk false (List.range' a (e - a)) := by
    unfold holdS
    rw [q3, q4, ix_nj (by omega), ix_nj (by omega), if_neg (fun z => by have := (nj_inj (by omega) (by omega)).mp z; have := q5 s0; omega)]
  unfold P_Reckoning_holds
  rw [gs_s, gt_t i2, h3, inb_nj (by omega), gd_t (decide_eq_true h2), ix_nj (by omega), h4, i9, a1, bn_s, hh]
  cases rH D vs tk false (List.range' a (e - a)) <;> rfl
theorem P_someBinds_2_e (W : WText D nc) (Wi : WItems D nc) {k N : Nat} (hk : k < D.2.1) (h14 : D.1 14 k = nj N) (hN : N ≤ 30) : ∀ (e j fu : Nat) (p : Mem), j + e = N → e < fu → Lk fa ta ia sa ca od p D → Top p → PL p → HoP p vs tk → ∃ p', P_Reckoning_someBindsHolds_2 fu (some (ta k)) (nj j) p = some (tI (bdR D vs tk k e j), p') ∧ Ch [] [4] nil p p' ∧ mC p' = mC p ∧ mS p' = mS p
  | 0, j, fu + 1, p, he, _, L, T, hp, H => by
    obtain ⟨-, t2, -, -, -, -, -, -, t9, t10, t11, t12, -⟩ := L.2.1.2.1 k hk
    have iN : ix (D.1 14 k) = N := by rw [h14, ix_nj (by omega)]
    refine ⟨p, ?_, Ch.rfl, rfl, rfl⟩
    rw [P_Reckoning_someBindsHolds_2.eq_2, gs_s, gt_t t2, t9, gs_s, gt_t t10, t11, iN]
    show (if nj N ≤ nj j then _ else _) = _
    rw [if_pos (by rw [nj_le (by omega) (by omega)]; omega)]
    rfl
  | e + 1, j, fu + 1, p, he, hf, L, T, hp, H => by
    obtain ⟨-, t2, -, -, -, -, -, -, t9, t10, t11, t12, -⟩ := L.2.1.2.1 k hk
    have iN : ix (D.1 14 k) = N := by rw [h14, ix_nj (by omega)]
    have hj : j < ix (D.1 14 k) := by omega
    have I := L.2.2.2.1 k j hk hj
    obtain ⟨s, s1, s2, -⟩ := Wi k j hk hj
    rw [P_Reckoning_someBindsHolds_2.eq_2, gs_s, gt_t t2, t9, gs_s, gt_t t10, gs_s, gt_t t10, t11, iN]
    show ∃ p', (if nj N ≤ nj j then _ else gd (inb (nj j) N) _) = _ ∧ _
    rw [if_neg (by rw [nj_le (by omega) (by omega)]; omega), inb_nj (by omega), gd_t (decide_eq_true (by omega)), ix_nj (by omega), t12 j hj, gs_s, gt_t I.2.1, I.2.2.1, s2, nj_add_l]
    have hs : bdR D vs tk k (e + 1) j = ((decide (D.1 15 (30 * k + j) = 0) && holdS D vs tk (30 * k + j)) || bdR D vs tk k e (j + 1)) := rfl
    rw [hs]
    unfold P_Reckoning_someBindsHolds_37
    rw [vb_e, nj_add_l]
    by_cases c0 : s = 0
    · subst c0
      rw [if_pos (by rfl)]
      have h0 : D.1 15 (30 * k + j) = 0 := s2
      obtain ⟨p1, a1, a2, a3, a4⟩ := P_holds_e L hp W Wi hk hj h0 H
      rw [a1, bn_s, decide_eq_true h0, Bool.true_and]
      cases c : holdS D vs tk (30 * k + j) with
      | true => exact ⟨p1, rfl, a2, a3, a4⟩
      | false =>
        have T' := T.Ch a2
        obtain ⟨p', b1, b2, b3, b4⟩ := P_someBinds_2_e W Wi hk h14 hN e (j + 1) fu p1 (by omega) (by omega) (L.Ch T (a2.mono (fun _ h => h) (fun _ h => h) (fun _ h => h.elim)) (by decide) (by decide)) T' (hp.Ch a2 (by decide)) (H.Ch T a2 List.not_mem_nil (by decide) ⟨nil_no, nil_no⟩)
        refine ⟨p', ?_, a2.trans b2, by omega, by omega⟩
        rw [if_pos (by rfl), Bool.false_or, vb_e]
        exact b1
    · have h0 : ¬ D.1 15 (30 * k + j) = 0 := fun z => c0 ((nj_inj (b := 0) (by omega) (by omega)).mp (s2.symm.trans z))
      rw [if_neg (fun z => c0 (by have := (nj_inj (a := s + 32) (b := 32) (by omega) (by omega)).mp z; omega)), decide_eq_false h0, Bool.false_and, Bool.false_or]
      exact P_someBinds_2_e W Wi hk h14 hN e (j + 1) fu p (by omega) (by omega) L T hp H
theorem P_someBinds_e (L : Lk fa ta ia sa ca od p D) (T : Top p) (hp : PL p) (W : WText D nc) (Wi : WItems D nc) {k : Nat} (hk : k < D.2.1) (H : HoP p vs tk) : ∃ p', P_Reckoning_someBindsHolds (some (ta k)) p = some (tI (bdS D vs tk k), p') ∧ Ch [] [4] nil p p' ∧ mC p' = mC p ∧ mS p' = mS p := by
  obtain ⟨-, -, -, -, -, -, -, N, hN, h14⟩ := W.2.2.1 k hk
  unfold P_Reckoning_someBindsHolds bdS
  rw [h14, ix_nj (by omega)]
  exact P_someBinds_2_e W Wi hk h14 hN N 0 FU p (by omega) (by unfold FU; omega) L T hp H
theorem P_isOver_2_e (L : Lk fa ta ia sa ca od p D) (Wi : WItems D nc) {k N : Nat} (hk : k < D.2.1) (h14 : D.1 14 k = nj N) (hN : N ≤ 30) {nm : Int32} : ∀ (e j fu : Nat), j + e = N → e < fu → P_Text_isOver_2 fu (ta k) nm (nj j) p = some (tI (ovR D nm k e j), p)
  | 0, j, fu + 1, he, _ => by
    obtain ⟨-, t2, -, -, -, -, -, -, t9, t10, t11, t12, -⟩ := L.2.1.2.1 k hk
    have iN : ix (D.1 14 k) = N := by rw [h14, ix_nj (by omega)]
    rw [P_Text_isOver_2.eq_2, t9, gs_s, gt_t t10, t11, iN]
    show (if nj N ≤ nj j then _ else _) = _
    rw [if_pos (by rw [nj_le (by omega) (by omega)]; omega)]
    rfl
  | e + 1, j, fu + 1, he, hf => by
    have ih := P_isOver_2_e L Wi hk h14 hN (nm := nm) e (j + 1) fu (by omega) (by omega)
    obtain ⟨-, t2, -, -, -, -, -, -, t9, t10, t11, t12, -⟩ := L.2.1.2.1 k hk
    have iN : ix (D.1 14 k) = N := by rw [h14, ix_nj (by omega)]
    have hj : j < ix (D.1 14 k) := by omega
    have I := L.2.2.2.1 k j hk hj
    obtain ⟨s, s1, s2, -⟩ := Wi k j hk hj
    have g : ∀ {β : Type} (c : Option β), gd (inb (nj j) N) c = c := fun c => by rw [inb_nj (by omega), gd_t (decide_eq_true (by omega))]
    rw [P_Text_isOver_2.eq_2, t9]
    simp only [gs_s, gt_t t10, t11, iN, g, ix_nj (show j < 2147483648 by omega), t12 j hj, gt_t I.2.1, I.2.2.1, I.2.2.2.2.1]
    show (if nj N ≤ nj j then _ else _) = _
    rw [if_neg (by rw [nj_le (by omega) (by omega)]; omega), s2, nj_add_l]
    unfold P_Text_isOver_40
    rw [vb_e, nj_add_l]
    have hs : ovR D nm k (e + 1) j = ((decide (D.1 15 (30 * k + j) = 1) && decide (D.1 16 (30 * k + j) = nm)) || ovR D nm k e (j + 1)) := rfl
    rw [hs]
    by_cases c0 : s = 1
    · subst c0
      rw [if_pos (by rfl), decide_eq_true (show D.1 15 (30 * k + j) = 1 from s2), Bool.true_and]
      by_cases c1 : D.1 16 (30 * k + j) = nm
      · rw [if_pos c1, decide_eq_true c1]; rfl
      · rw [if_neg c1, decide_eq_false c1, Bool.false_or]; exact ih
    · have h0 : ¬ D.1 15 (30 * k + j) = 1 := fun z => c0 ((nj_inj (b := 1) (by omega) (by omega)).mp (s2.symm.trans z))
      rw [if_neg (fun z => c0 (by have := (nj_inj (a := s + 32) (b := 33) (by omega) (by omega)).mp z; omega)), decide_eq_false h0, Bool.false_and, Bool.false_or]
      exact ih
theorem P_isOver_e (L : Lk fa ta ia sa ca od p D) (W : WText D nc) (Wi : WItems D nc) {k : Nat} (hk : k < D.2.1) (nm : Int32) : P_Text_isOver (ta k) nm p = some (tI (ovS D nm k), p) := by
  obtain ⟨-, -, -, -, -, -, -, N, hN, h14⟩ := W.2.2.1 k hk
  unfold P_Text_isOver ovS
  rw [h14, ix_nj (by omega)]
  exact P_isOver_2_e L Wi hk h14 hN N 0 FU (by omega) (by unfold FU; omega)
/-- what the reference needs to ask a condition -/
def HoR (r : Mem) (D : Dt) (vs : Nat → Int32) (tk : Int32) : Prop := dat r = D ∧ 82 ≤ mC r ∧ (∀ j, j < 12 → aI r 50 j = vs j) ∧ mI r 1611 0 = tk
theorem HoR.Ch {r' : Mem} (h : HoR r D vs tk) (c : Ch [1610] [51] nil r r') (hC : mC r' = mC r) : HoR r' D vs tk := by
  obtain ⟨h1, h2, h3, h4⟩ := h
  exact ⟨(dat_Ch c h2 (by decide) (by decide)).trans h1, by omega, fun j hj => by rw [c.ai (by decide) nil_no (by omega)]; exact h3 j hj, by rw [c.i (by decide) (by omega)]; exact h4⟩
theorem R_isBinding_5_e (W : WText D nc) (Wi : WItems D nc) {k N : Nat} (hk : k < D.2.1) (h14 : D.1 14 k = nj N) (hN : N ≤ 30) : ∀ (e j fu : Nat) (r : Mem), j + e = N → e < fu → HoR r D vs tk → ∃ r', R_isBinding_5 fu (nj k) (nj (30 * k + j)) r = some (tI (bdR D vs tk k e j), r') ∧ Ch [1610] [51] nil r r' ∧ mC r' = mC r
  | 0, j, fu + 1, r, he, _, H => by
    have h24 := W.1
    refine ⟨r, ?_, Ch.rfl, rfl⟩
    have e30 : 30 * nj k + nj N = nj (30 * k + N) := by rw [show (30 : Int32) = nj 30 from rfl, nj_mul, nj_add]
    rw [R_isBinding_5.eq_2, inb_nj (by omega), gd_t (decide_eq_true (by omega)), ix_nj (by omega), dat_t H.1 (by omega) hk, h14, e30, if_pos (by rw [nj_le (by omega) (by omega)]; omega)]
    rfl
  | e + 1, j, fu + 1, r, he, hf, H => by
    have h24 := W.1
    have hj : j < ix (D.1 14 k) := by rw [h14, ix_nj (by omega)]; omega
    obtain ⟨s, s1, s2, -, -, -, -, -, -, -, -, ⟨a, e', q1, q2, q3, q4, q5, q6, q7⟩, -⟩ := Wi k j hk hj
    have e30 : 30 * nj k + nj N = nj (30 * k + N) := by rw [show (30 : Int32) = nj 30 from rfl, nj_mul, nj_add]
    rw [R_isBinding_5.eq_2, inb_nj (by omega), gd_t (decide_eq_true (by omega)), ix_nj (by omega), dat_t H.1 (by omega) hk, h14, e30, if_neg (by rw [nj_le (by omega) (by omega)]; omega), inb_nj (by omega), gd_t (decide_eq_true (by omega)), ix_nj (by omega), dat_15 H.1 (x := 15) (by omega) (by omega)]
    have hs : bdR D vs tk k (e + 1) j = ((decide (D.1 15 (30 * k + j) = 0) && holdS D vs tk (30 * k + j)) || bdR D vs tk k e (j + 1)) := rfl
    rw [hs]
    unfold R_isBinding_39
    simp only [vb_e, nj_add_l]
    by_cases h0 : D.1 15 (30 * k + j) = 0
    · rw [if_pos h0, decide_eq_true h0, Bool.true_and]
      obtain ⟨r1, a1, a2, a3⟩ := R_holds_e H.1 h24 (by omega) q3 q4 q1 q2 q7 H.2.2.1 H.2.2.2 H.2.1
      rw [a1, bn_s]
      cases c : holdS D vs tk (30 * k + j) with
      | true => exact ⟨r1, rfl, a2, a3⟩
      | false =>
        obtain ⟨r', b1, b2, b3⟩ := R_isBinding_5_e W Wi hk h14 hN e (j + 1) fu r1 (by omega) (by omega) (H.Ch a2 a3)
        refine ⟨r', ?_, a2.trans b2, by omega⟩
        rw [if_pos (by rfl), Bool.false_or]
        exact b1
    · rw [if_neg h0, decide_eq_false h0, Bool.false_and, Bool.false_or]
      exact R_isBinding_5_e W Wi hk h14 hN e (j + 1) fu r (by omega) (by omega) H
theorem R_isBinding_e (W : WText D nc) (Wi : WItems D nc) {k : Nat} (hk : k < D.2.1) (H : HoR r D vs tk) : ∃ r', R_isBinding (nj k) r = some (tI (bdS D vs tk k), r') ∧ Ch [1610] [51] nil r r' ∧ mC r' = mC r := by
  have h24 := W.1
  obtain ⟨-, -, -, -, -, -, -, N, hN, h14⟩ := W.2.2.1 k hk
  unfold R_isBinding bdS
  have e30 : 30 * nj k = nj (30 * k) := by rw [show (30 : Int32) = nj 30 from rfl, nj_mul]
  rw [h14, ix_nj (by omega), vb_e, e30]
  exact R_isBinding_5_e W Wi hk h14 hN N 0 FU r (by omega) (by unfold FU; omega) H
end Bi
