/-! Layer C: terms: reckoned by the reference -/
def evOp (k a b : Int32) : Int32 := if k = 2 then a + b else if k = 3 then a - b else if k = 4 then a * b else a / b
/-- n codes from c on, over a pile; none: a division by 0 -/
def runV (D : Dt) (vs : Nat → Int32) : List Int32 → Nat → Nat → Option (List Int32)
  | st, _, 0 => some st
  | st, c, n + 1 => if D.1 33 c = 0 then runV D vs (D.1 34 c :: st) (c + 1) n else if D.1 33 c = 1 then runV D vs (vs (ix (D.1 34 c)) :: st) (c + 1) n else match st with
    | b :: a :: st' => if D.1 33 c = 5 ∧ b = 0 then none else runV D vs (evOp (D.1 33 c) a b :: st') (c + 1) n
    | _ => none
/-- n codes from c on are whole: they leave one number, and never pile up more than 20 -/
def wfC (D : Dt) : Nat → Nat → Nat → Prop
  | _, 0, d => d = 1
  | c, n + 1, d => d ≤ 20 ∧ ((D.1 33 c = 0 ∧ (∃ v, v ≤ 9999 ∧ D.1 34 c = nj v) ∧ wfC D (c + 1) n (d + 1)) ∨ (D.1 33 c = 1 ∧ (∃ v, v < 12 ∧ D.1 34 c = nj v) ∧ wfC D (c + 1) n (d + 1)) ∨ ((∃ k, 2 ≤ k ∧ k ≤ 5 ∧ D.1 33 c = nj k) ∧ 2 ≤ d ∧ wfC D (c + 1) n (d - 1)))
/-- the pile stands in the row -/
def Stk (f : Nat → Int32) : List Int32 → Prop
  | [] => True
  | v :: st => f st.length = v ∧ Stk f st
theorem Stk.up {f : Nat → Int32} {v : Int32} : ∀ {st : List Int32} {j : Nat}, Stk f st → st.length ≤ j → Stk (up1 f j v) st
  | [], _, _, _ => trivial
  | w :: st, j, h, hj => by
    have : (w :: st).length = st.length + 1 := rfl
    exact ⟨by rw [up1_ne (by omega)]; exact h.1, Stk.up h.2 (by omega)⟩
theorem Stk.push {f : Nat → Int32} {v : Int32} {st : List Int32} (h : Stk f st) : Stk (up1 f st.length v) (v :: st) := ⟨up1_eq, h.up (Nat.le_refl _)⟩
/-- the value of the codes from a up to b; 0 with a division by 0 -/
def valS (D : Dt) (vs : Nat → Int32) (a b : Nat) : Int32 := match runV D vs [] a (b - a) with
  | some (v :: _) => v
  | _ => 0
def brkS (D : Dt) (vs : Nat → Int32) (a b : Nat) : Bool := (runV D vs [] a (b - a)).isNone
section Tm
variable {r : Mem} {D : Dt} {vs : Nat → Int32}
theorem dat_33 (hD : dat r = D) {x c : Nat} (hx : x = 33 ∨ x = 34) (hc : c < 500 * D.2.1) : aI r x c = D.1 x c := by
  subst hD
  have : msk (ix (mI r 1554 0)) x c = true := by
    have : (dat r).2.1 = ix (mI r 1554 0) := rfl
    unfold msk
    grind
  show _ = (if msk (ix (mI r 1554 0)) x c = true then aI r x c else 0)
  rw [if_pos this]
theorem R_termOf_10_e (h24 : D.2.1 ≤ 24) {b : Nat} (hb : b ≤ 500 * D.2.1) : ∀ (n c fu : Nat) (st : List Int32) (r : Mem), dat r = D → (∀ j, j < 12 → aI r 50 j = vs j) → 82 ≤ mC r → c + n = b → n < fu → wfC D c n st.length → Stk (aI r 51) st →
    ∃ v r', R_termOf_10 fu (nj b) (nj st.length) (nj c) r = some (v, r') ∧ Ch [1610] [51] nil r r' ∧ mC r' = mC r ∧ ((runV D vs st c n = some [v] ∧ mI r' 1610 0 = mI r 1610 0) ∨ (runV D vs st c n = none ∧ v = 0 ∧ mI r' 1610 0 = 1))
  | 0, c, fu + 1, st, r, hD, hv, hC, hc, _, hw, hs => by
    rw [R_termOf_10.eq_2]
    simp (disch := omega) only [nj_le]
    rw [if_pos (by omega)]
    unfold R_termOf_170
    have hl : st.length = 1 := hw
    obtain ⟨v, rfl⟩ := List.length_eq_one_iff.mp hl
    refine ⟨v, r, ?_, Ch.rfl, rfl, Or.inl ⟨rfl, rfl⟩⟩
    rw [inb_lit (by omega), gd_t (by decide), ix_lit (by omega)]
    show some (aI r 51 0, r) = _
    rw [show aI r 51 0 = v from hs.1]
  | n + 1, c, fu + 1, st, r, hD, hv, hC, hc, hf, hw, hs => by
    obtain ⟨hd, hw⟩ := hw
    have ec := dat_33 hD (x := 33) (c := c) (Or.inl rfl) (by omega)
    have ei := dat_33 hD (x := 34) (c := c) (Or.inr rfl) (by omega)
    have dD : ∀ (f : Nat) (x : Int32), dat (wI r 51 f x) = D := fun f x => by
      rw [← hD]
      exact dat_Ch (F := []) (A := [51]) (Ch.rfl.wI (Or.inl (by decide))) hC (by decide) (by decide)
    have push : ∀ x : Int32, wfC D (c + 1) n (st.length + 1) → ∃ v r', R_termOf_63 (fun z0 z1 z2 z3 => R_termOf_10 fu z0 z1 z2 z3) (nj b) (nj st.length) (nj c) x (nj st.length) r = some (v, r') ∧ Ch [1610] [51] nil r r' ∧ mC r' = mC r ∧ ((runV D vs (x :: st) (c + 1) n = some [v] ∧ mI r' 1610 0 = mI r 1610 0) ∨ (runV D vs (x :: st) (c + 1) n = none ∧ v = 0 ∧ mI r' 1610 0 = 1)) := fun x hx => by
      obtain ⟨v, r', e1, e2, e3, e4⟩ := R_termOf_10_e h24 hb n (c + 1) fu (x :: st) (wI r 51 st.length x) (dD _ _) (fun j hj => by rw [k_aI_wI (by omega)]; exact hv j hj) (by rw [k_mC_wI]; exact hC) (by omega) (by omega) hx (by rw [k_aI_wI_e]; exact hs.push)
      refine ⟨v, r', ?_, (Ch.rfl.wI (Or.inl (by decide))).trans e2, by rw [e3, k_mC_wI], by rw [k_mI_wI] at e4; exact e4⟩
      unfold R_termOf_63 R_termOf_164
      rw [inb_nj (by omega), gd_t (decide_eq_true (by omega)), vb_e, vb_e, vb_e, ix_nj (by omega), nj_add_l, nj_add_l]
      exact e1
    rw [R_termOf_10.eq_2]
    simp (disch := omega) only [nj_le, inb_nj, ix_nj, vb_e, ec, ei]
    rw [if_neg (by omega), gd_t (decide_eq_true (by omega)), gd_t (decide_eq_true (by omega)), gd_t (decide_eq_true (by omega))]
    rcases hw with ⟨k1, -, hw⟩ | ⟨k1, ⟨w, w1, w2⟩, hw⟩ | ⟨⟨k, k1, k2, k3⟩, hd2, hw⟩
    · have hr : runV D vs st c (n + 1) = runV D vs (D.1 34 c :: st) (c + 1) n := if_pos k1
      rw [hr, if_neg (by rw [k1]; decide), if_pos k1]
      exact push _ hw
    · have hr : runV D vs st c (n + 1) = runV D vs (vs (ix (D.1 34 c)) :: st) (c + 1) n := by
        show (if _ then _ else if _ then _ else _) = _
        rw [if_neg (by rw [k1]; decide), if_pos k1]
      rw [hr, if_neg (by rw [k1]; decide), if_neg (by rw [k1]; decide), w2, inb_nj (by omega), gd_t (decide_eq_true w1), ix_nj (by omega), hv w w1]
      exact push _ hw
    · obtain ⟨y, x, st', rfl⟩ : ∃ y x st', st = y :: x :: st' := by
        match st, hd2 with
        | y :: x :: st', _ => exact ⟨y, x, st', rfl⟩
      have hl : (y :: x :: st').length = st'.length + 2 := rfl
      have s1 : aI r 51 (st'.length + 1) = y := hs.1
      have s2 : aI r 51 st'.length = x := hs.2.1
      have s3 : Stk (aI r 51) st' := hs.2.2
      have e2 : (2 : Int32) ≤ D.1 33 c := by rw [k3, nj_l_le (by omega) (by omega)]; exact k1
      rw [if_pos e2, hl, nj_m1 (by omega), show st'.length + 2 - 1 = st'.length + 1 by omega, nj_pred]
      simp (disch := omega) only [inb_nj, ix_nj]
      rw [gd_t (decide_eq_true (by omega)), gd_t (decide_eq_true (by omega)), s1, s2]
      have n0 : ¬ D.1 33 c = 0 := by rw [k3, nj_eq_l (by omega) (by omega)]; omega
      have n1 : ¬ D.1 33 c = 1 := by rw [k3, nj_eq_l (by omega) (by omega)]; omega
      have hr : runV D vs (y :: x :: st') c (n + 1) = if D.1 33 c = 5 ∧ y = 0 then none else runV D vs (evOp (D.1 33 c) x y :: st') (c + 1) n := by
        show (if _ then _ else if _ then _ else _) = _
        rw [if_neg n0, if_neg n1]
      rw [hr]
      have join : ∀ z : Int32, z = evOp (D.1 33 c) x y → ∃ v r', R_termOf_163 (fun z0 z1 z2 z3 => R_termOf_10 fu z0 z1 z2 z3) (nj b) (nj (st'.length + 1)) (nj c) z (nj (st'.length + 1) - 1) r = some (v, r') ∧ Ch [1610] [51] nil r r' ∧ mC r' = mC r ∧ ((runV D vs (evOp (D.1 33 c) x y :: st') (c + 1) n = some [v] ∧ mI r' 1610 0 = mI r 1610 0) ∨ (runV D vs (evOp (D.1 33 c) x y :: st') (c + 1) n = none ∧ v = 0 ∧ mI r' 1610 0 = 1)) := fun z hz => by
        subst hz
        obtain ⟨v, r', e1, e2, e3, e4⟩ := R_termOf_10_e h24 hb n (c + 1) fu (evOp (D.1 33 c) x y :: st') (wI r 51 st'.length (evOp (D.1 33 c) x y)) (dD _ _) (fun j hj => by rw [k_aI_wI (by omega)]; exact hv j hj) (by rw [k_mC_wI]; exact hC) (by omega) (by omega) (by rw [hl] at hw; exact hw) (by rw [k_aI_wI_e]; exact s3.push)
        refine ⟨v, r', ?_, (Ch.rfl.wI (Or.inl (by decide))).trans e2, by rw [e3, k_mC_wI], by rw [k_mI_wI] at e4; exact e4⟩
        unfold R_termOf_163 R_termOf_164
        rw [nj_pred, inb_nj (by omega), gd_t (decide_eq_true (by omega)), vb_e, vb_e, ix_nj (by omega), nj_add_l]
        exact e1
      have J : ¬ (D.1 33 c = 5 ∧ y = 0) → ∃ v r', R_termOf_109 (fun z0 z1 z2 z3 => R_termOf_10 fu z0 z1 z2 z3) (nj b) (nj (st'.length + 1)) (nj c) (D.1 33 c) x y r = some (v, r') ∧ Ch [1610] [51] nil r r' ∧ mC r' = mC r ∧ ((runV D vs (evOp (D.1 33 c) x y :: st') (c + 1) n = some [v] ∧ mI r' 1610 0 = mI r 1610 0) ∨ (runV D vs (evOp (D.1 33 c) x y :: st') (c + 1) n = none ∧ v = 0 ∧ mI r' 1610 0 = 1)) := fun hn => by
        unfold R_termOf_109
        by_cases c2 : D.1 33 c = 2
        · rw [if_pos c2]; exact join _ (by unfold evOp; rw [if_pos c2])
        · by_cases c3 : D.1 33 c = 3
          · rw [if_neg c2, if_pos c3]; exact join _ (by unfold evOp; rw [if_neg c2, if_pos c3])
          · by_cases c4 : D.1 33 c = 4
            · rw [if_neg c2, if_neg c3, if_pos c4]; exact join _ (by unfold evOp; rw [if_neg c2, if_neg c3, if_pos c4])
            · have c5 : D.1 33 c = 5 := by
                rw [k3] at c2 c3 c4 ⊢
                rw [nj_eq_l (by omega) (by omega)] at c2 c3 c4 ⊢
                omega
              rw [if_neg c2, if_neg c3, if_neg c4, gn_t (fun z => hn ⟨c5, z⟩)]
              exact join _ (by unfold evOp; rw [if_neg c2, if_neg c3, if_neg c4])
      by_cases c5 : D.1 33 c = 5
      · by_cases c0 : y = 0
        · rw [if_pos c5, if_pos c0, if_pos (⟨c5, c0⟩ : D.1 33 c = 5 ∧ y = 0)]
          refine ⟨0, sI r 1610 0 1, rfl, Ch.rfl.sI (by decide), rfl, Or.inr ⟨rfl, rfl, ?_⟩⟩
          rw [k_mI_sI_e]; exact up1_eq
        · rw [if_pos c5, if_neg c0, if_neg (fun z : D.1 33 c = 5 ∧ y = 0 => c0 z.2)]
          exact J (fun z => c0 z.2)
      · rw [if_neg c5, if_neg (fun z : D.1 33 c = 5 ∧ y = 0 => c5 z.1)]
        exact J (fun z => c5 z.1)
theorem R_termOf_e (h24 : D.2.1 ≤ 24) {a b : Nat} (hb : b ≤ 500 * D.2.1) (hab : a ≤ b) (hD : dat r = D) (hv : ∀ j, j < 12 → aI r 50 j = vs j) (hC : 82 ≤ mC r) (hw : wfC D a (b - a) 0) : ∃ r', R_termOf (nj a) (nj b) r = some (valS D vs a b, r') ∧ Ch [1610] [51] nil r r' ∧ mC r' = mC r ∧ mI r' 1610 0 = tI (brkS D vs a b) := by
  have C0 : Ch [1610] [51] nil r (sI r 1610 0 0) := Ch.rfl.sI (by decide)
  have hD' : dat (sI r 1610 0 0) = D := by rw [← hD]; exact dat_Ch C0 hC (by decide) (by decide)
  obtain ⟨v, r', e1, e2, e3, e4⟩ := R_termOf_10_e (vs := vs) h24 hb (b - a) a FU [] (sI r 1610 0 0) hD' hv hC (by omega) (by unfold FU; omega) hw trivial
  refine ⟨r', ?_, C0.trans e2, by rw [e3, k_mC_sI], ?_⟩
  · unfold R_termOf
    rw [vb_e]
    refine Eq.trans e1 ?_
    unfold valS
    rcases e4 with ⟨e4, -⟩ | ⟨e4, e5, -⟩
    · rw [e4]
    · rw [e4, e5]
  · unfold brkS
    rcases e4 with ⟨e4, e5⟩ | ⟨e4, -, e5⟩
    · rw [e4, e5, k_mI_sI_e, up1_eq]; rfl
    · rw [e4, e5]; rfl
end Tm
