/-! Layer C: the reference's stands and adds -/
/-- VARS of a FIRM on a DAY as known by n -/
def vS (D : Dt) (f d n : Nat) (yrs : Int32) : Nat → Int32 := fun j => if j = 0 then leS D (D.1 37 f) (d / 35) n 4 else if j = 1 then yrs else if j = 2 then D.1 38 f else if j = 3 then D.1 37 f else if j = 4 then nj f else 0
section As
variable {r : Mem} {D : Dt}
theorem dat_t (hD : dat r = D) {x y : Nat} (hx : 8 ≤ x ∧ x ≤ 14) (hy : y < D.2.1) : aI r x y = D.1 x y := by
  rw [← hD]
  have : msk (ix (mI r 1554 0)) x y = true := by
    have : D.2.1 = ix (mI r 1554 0) := by rw [← hD]; rfl
    unfold msk
    grind
  show _ = (if msk (ix (mI r 1554 0)) x y = true then aI r x y else 0)
  rw [if_pos this]
theorem dat_37 (hD : dat r = D) {x y : Nat} (hx : x = 37 ∨ x = 38) : aI r x y = D.1 x y := by
  rw [← hD]
  have : msk (ix (mI r 1554 0)) x y = true := by
    unfold msk
    grind
  show _ = (if msk (ix (mI r 1554 0)) x y = true then aI r x y else 0)
  rw [if_pos this]
theorem R_stands_3_e {x1 x2 x3 : Int32} : ∀ (d j fu : Nat) (r : Mem), j + d = 12 → d < fu → R_stands_3 fu x1 x2 x3 (nj j) r = R_stands_24 x1 x2 x3 (fil r 50 j 12 0)
  | 0, j, fu + 1, r, hj, _ => by
    rw [R_stands_3.eq_2]
    simp (disch := omega) only [nj_l_le]
    rw [if_pos (by omega), show j = 12 by omega, fil_nil]
  | d + 1, j, fu + 1, r, hj, hf => by
    rw [R_stands_3.eq_2]
    simp (disch := omega) only [nj_l_le, inb_nj, ix_nj, vb_e, nj_add_l]
    rw [if_neg (by omega), gd_t (decide_eq_true (by omega)), R_stands_3_e d (j + 1) fu (wI r 50 j 0) (by omega) (by omega), fil_step (by omega)]
theorem R_stands_e (hD : dat r = D) (hC : 82 ≤ mC r) (h160 : D.2.2 ≤ 160) {d f n : Nat} (hd : d < 140) (hf : f < 8) (hn : n ≤ D.2.2) : ∃ r', R_stands (nj d) (nj f) (nj n) r = some ((), r') ∧ (∀ j, j < 12 → aI r' 50 j = vS D f d n 0 j) ∧ Ch [] [50] nil r r' ∧ mC r' = mC r := by
  unfold R_stands
  rw [show (0 : Int32) = nj 0 from rfl, R_stands_3_e 12 0 FU r (by omega) (by unfold FU; omega)]
  have c0 : Ch [] [50] nil r (fil r 50 0 12 0) := ch_fil Ch.rfl (Or.inl (by decide))
  have hD0 : dat (fil r 50 0 12 0) = D := by rw [← hD]; exact dat_Ch c0 hC (by decide) (by decide)
  have e37 : aI (fil r 50 0 12 0) 37 f = D.1 37 f := dat_37 hD0 (Or.inl rfl)
  have e38 : aI (fil r 50 0 12 0) 38 f = D.1 38 f := dat_37 hD0 (Or.inr rfl)
  have e35 : nj d / 35 = nj (d / 35) := nj_div (b := 35) (by omega) (by omega)
  refine ⟨wI (wI (wI (wI (fil r 50 0 12 0) 50 0 (leS D (D.1 37 f) (d / 35) n 4)) 50 2 (D.1 38 f)) 50 3 (D.1 37 f)) 50 4 (nj f), ?_, fun j hj => ?_, (((c0.wI (Or.inl (by decide))).wI (Or.inl (by decide))).wI (Or.inl (by decide))).wI (Or.inl (by decide)), ?_⟩
  · unfold R_stands_24
    have g8 : ∀ {β : Type} (c : Option β), gd (inb (nj f) 8) c = c := fun c => by rw [inb_nj (by omega), gd_t (decide_eq_true hf)]
    simp only [g8, ix_nj (show f < 2147483648 by omega), e35]
    rw [R_leastOf_e hD0 (by omega) (by omega), bn_s, e37]
    simp only [inb_lit (show (0 : Nat) < 2147483648 by omega), inb_lit (show (2 : Nat) < 2147483648 by omega), inb_lit (show (3 : Nat) < 2147483648 by omega), inb_lit (show (4 : Nat) < 2147483648 by omega), ix_lit (show (0 : Nat) < 2147483648 by omega), ix_lit (show (2 : Nat) < 2147483648 by omega), ix_lit (show (3 : Nat) < 2147483648 by omega), ix_lit (show (4 : Nat) < 2147483648 by omega), vb_e]
    rw [gd_t (by decide), gd_t (by decide), gd_t (by decide), gd_t (by decide)]
    simp only [k_aI_wI (show 37 ≠ 50 by omega), k_aI_wI (show 38 ≠ 50 by omega), e37, e38]
  · rw [k_aI_wI_e, k_aI_wI_e, k_aI_wI_e, k_aI_wI_e, k_aI_fil_e]
    simp only [up1_ap]
    unfold vS
    by_cases j4 : j = 4
    · subst j4; rfl
    · by_cases j3 : j = 3
      · subst j3; rfl
      · by_cases j2 : j = 2
        · subst j2; rfl
        · by_cases j0 : j = 0
          · subst j0; rfl
          · rw [if_neg j4, if_neg j3, if_neg j2, if_neg j0, if_pos (by omega), if_neg j0, if_neg j2, if_neg j3, if_neg j4]
            by_cases j1 : j = 1
            · rw [if_pos j1]; rfl
            · rw [if_neg j1]
  · rw [k_mC_wI, k_mC_wI, k_mC_wI, k_mC_wI, k_mC_fil]
variable {vs : Nat → Int32} {k of : Nat}
/-- one ITEM is done -/
theorem R_adds_step (hD : dat r = D) (hC : 82 ≤ mC r) (h24 : D.2.1 ≤ 24) (h160 : D.2.2 ≤ 160) {nc n f j fu : Nat} {S : RS} (hn60 : nc ≤ 60) (W : WItems D nc) (h30 : ∀ k, k < D.2.1 → ix (D.1 14 k) ≤ 30) (hk : k < D.2.1) (hof : of < D.2.1) (hj : j < ix (D.1 14 of)) (h13 : D.1 8 of = 1 ∨ D.1 8 of = 2 → D.1 13 of = nj k) (h12 : D.1 12 of = nj f) (hfn : f ≤ n) (hn : n ≤ D.2.2) (hs8 : D.1 8 of = 0 ∨ D.1 8 of = 1 ∨ D.1 8 of = 2 ∨ D.1 8 of = 3) (hv : D.1 8 of = 1 ∨ D.1 8 of = 2 → ∀ j, j < 12 → aI r 50 j = vs j)
    (hR : RowsR r k S) (hW : WRow D S.1) (h58 : aI r 58 (30 * of + j) = 0) :
    ∃ r', R_adds_6 (fu + 1) (nj k) (nj of) (nj n) (nj (30 * of + j)) r = R_adds_6 fu (nj k) (nj of) (nj n) (nj (30 * of + (j + 1))) r' ∧ RowsR r' k (apI D vs of (30 * of + j) S).1 ∧ aI r' 58 (30 * of + j) = (apI D vs of (30 * of + j) S).2 ∧ (∀ x, x ≠ 30 * of + j → aI r' 58 x = aI r 58 x) ∧ RKeep k of r r' := by
  have h30o := h30 of hof
  have hi : 30 * of + j < 30 * D.2.1 := by omega
  obtain ⟨s, w1, w2, w3, w4, w5, w6, w7, w8, w9, w10, w11, w12⟩ := W of j hof hj
  have hlen := hW.len W hn60
  have hqi : ∀ q, q ∈ S.1 → q.1 < 30 * D.2.1 := fun q hq => isI_lt h24 h30 (hW.1 q hq).1
  have e15 : aI r 15 (30 * of + j) = D.1 15 (30 * of + j) := dat_15 hD (by omega) hi
  have e16 : aI r 16 (30 * of + j) = D.1 16 (30 * of + j) := dat_15 hD (by omega) hi
  have e17 : aI r 17 (30 * of + j) = D.1 17 (30 * of + j) := dat_15 hD (by omega) hi
  have e14 : aI r 14 of = nj (ix (D.1 14 of)) := by
    rw [dat_t hD (by omega) hof, nj_ix]
    by_cases q : D.1 14 of < 0
    · exfalso
      have : ix (D.1 14 of) = 0 := Int32.toNatClampNeg_eq_zero_iff.mpr (by grind)
      omega
    · exact Int32.not_lt.mp q
  have gx : ∀ {β : Type} (c : Option β), gd (inb (nj (30 * of + j)) 750) c = c := fun c => by rw [inb_nj (by omega), gd_t (decide_eq_true (by omega))]
  have gy : ∀ {β : Type} (c : Option β), gd (inb (nj (30 * of + j)) 720) c = c := fun c => by rw [inb_nj (by omega), gd_t (decide_eq_true (by omega))]
  have gk : ∀ {β : Type} (c : Option β), gd (inb (nj k) 24) c = c := fun c => by rw [inb_nj (by omega), gd_t (decide_eq_true (by omega))]
  have ii : ix (nj (30 * of + j)) = 30 * of + j := ix_nj (by omega)
  have ik : ix (nj k) = k := ix_nj (by omega)
  have e260 : ∀ r', R_adds_260 (fun z0 z1 z2 z3 z4 => R_adds_6 fu z0 z1 z2 z3 z4) (nj k) (nj of) (nj n) (nj (30 * of + j)) r' = R_adds_6 fu (nj k) (nj of) (nj n) (nj (30 * of + (j + 1))) r' := fun r' => by
    unfold R_adds_260
    rw [vb_e, nj_add_l, Nat.add_assoc]
  have e113 : ∀ x r', x < 64 → R_adds_113 (fun z0 z1 z2 z3 z4 => R_adds_6 fu z0 z1 z2 z3 z4) (nj k) (nj of) (nj n) (nj (30 * of + j)) (nj (64 * k + x)) r' = R_adds_6 fu (nj k) (nj of) (nj n) (nj (30 * of + (j + 1))) (wI (wI r' 54 (64 * k + x) (nj (30 * of + j))) 55 (64 * k + x) (-1)) := fun x r' hx => by
    have g15 : ∀ {β : Type} (c : Option β), gd (inb (nj (64 * k + x)) 1536) c = c := fun c => by rw [inb_nj (by omega), gd_t (decide_eq_true (by omega))]
    unfold R_adds_113
    simp only [g15, vb_e, ix_nj (show 64 * k + x < 2147483648 by omega), e260]
  have hrow := R_rowOf_e (nm := D.1 16 (30 * of + j)) hD (show k < 24 by omega) hR (by omega) hqi h24
  have hs9 : ∀ c : Int32, (D.1 15 (30 * of + j) = c) = (nj s = c) := fun c => by rw [w2]
  rw [R_adds_6.eq_2, inb_nj (by omega), gd_t (decide_eq_true (by omega)), ix_nj (by omega), e14, nj_l_mul, nj_add, if_neg (by rw [nj_le (by omega) (by omega)]; omega)]
  simp only [gx, gy, gk, ii, ik, e16]
  rw [hrow, bn_s]
  simp only [e15, e17, e260, vb_e]
  -- how a class, load or extra comes to stand
  have PUT : D.1 15 (30 * of + j) = 2 ∨ D.1 15 (30 * of + j) = 4 ∨ D.1 15 (30 * of + j) = 5 → ∃ r', (if jk k (fnd D (D.1 16 (30 * of + j)) S.1 0) = -1 then R_adds_113 (fun z0 z1 z2 z3 z4 => R_adds_6 fu z0 z1 z2 z3 z4) (nj k) (nj of) (nj n) (nj (30 * of + j)) ((64 * nj k) + (aI r 53 k)) (wI r 53 k ((aI r 53 k) + 1)) else R_adds_113 (fun z0 z1 z2 z3 z4 => R_adds_6 fu z0 z1 z2 z3 z4) (nj k) (nj of) (nj n) (nj (30 * of + j)) (jk k (fnd D (D.1 16 (30 * of + j)) S.1 0)) r) = R_adds_6 fu (nj k) (nj of) (nj n) (nj (30 * of + (j + 1))) r' ∧ RowsR r' k (apI D vs of (30 * of + j) S).1 ∧ aI r' 58 (30 * of + j) = (apI D vs of (30 * of + j) S).2 ∧ (∀ x, x ≠ 30 * of + j → aI r' 58 x = aI r 58 x) ∧ RKeep k of r r' := by
    intro hc
    have eA : apI D vs of (30 * of + j) S = ((match fnd D (D.1 16 (30 * of + j)) S.1 0 with
      | some j' => (S.1.set j' (30 * of + j, none), S.2)
      | none => (S.1 ++ [(30 * of + j, none)], S.2)), 0) := by
      unfold apI
      rw [if_pos hc]
      cases fnd D (D.1 16 (30 * of + j)) S.1 0 <;> rfl
    rw [eA]
    cases c : fnd D (D.1 16 (30 * of + j)) S.1 0 with
    | some x =>
      obtain ⟨-, q, hq, -⟩ := fnd_some c
      rw [Nat.sub_zero] at hq
      have hx := get_mem hq
      rw [show jk k (some x) = nj (64 * k + x) from rfl, if_neg (by rw [nj_ne_m1 (by omega)]; simp), e113 x r (by omega)]
      refine ⟨_, rfl, ⟨?_, fun y q' hy => ?_, ?_, ?_⟩, ?_, fun y _ => ?_, ⟨(Ch.rfl.wI (Or.inl (by simp))).wI (Or.inl (by simp)), by rw [k_mC_wI, k_mC_wI], fun y hy => ?_, fun y hy => ?_, fun y hy => ?_⟩⟩
      · rw [k_aI_wI (by omega), k_aI_wI (by omega)]
        show _ = nj (S.1.set x _).length
        rw [List.length_set]; exact hR.1
      · rw [k_aI_wI_e, k_aI_wI (show 54 ≠ 55 by omega), k_aI_wI_e, k_aI_wI (show 55 ≠ 54 by omega), up1_ap, up1_ap]
        have hy' : (S.1.set x (30 * of + j, none))[y]? = some q' := hy
        rw [List.getElem?_set] at hy'
        by_cases cy : x = y
        · rw [if_pos cy, if_pos hx] at hy'
          cases hy'
          rw [if_pos (by omega), if_pos (by omega)]
          exact ⟨rfl, rfl⟩
        · rw [if_neg cy] at hy'
          rw [if_neg (by omega), if_neg (by omega)]
          exact hR.2.1 y q' hy'
      · rw [k_aI_wI (by omega), k_aI_wI (by omega)]; exact hR.2.2.1
      · rw [k_aI_wI (by omega), k_aI_wI (by omega)]; exact hR.2.2.2
      · rw [k_aI_wI (by omega), k_aI_wI (by omega)]; exact h58
      · rw [k_aI_wI (by omega), k_aI_wI (by omega)]
      · rw [k_aI_wI (by omega), k_aI_wI (by omega), k_aI_wI (by omega), k_aI_wI (by omega), k_aI_wI (by omega), k_aI_wI (by omega)]; exact ⟨rfl, rfl, rfl⟩
      · rw [k_aI_wI_e, k_aI_wI (show 54 ≠ 55 by omega), k_aI_wI_e, k_aI_wI (show 55 ≠ 54 by omega), up1_ne (by omega), up1_ne (by omega)]; exact ⟨rfl, rfl⟩
      · rw [k_aI_wI (by omega), k_aI_wI (by omega)]
    | none =>
      rw [show jk k none = -1 from rfl, if_pos rfl, hR.1, nj_l_mul, nj_add, nj_add_l, e113 S.1.length _ (by omega)]
      refine ⟨_, rfl, ⟨?_, fun y q' hy => ?_, ?_, ?_⟩, ?_, fun y _ => ?_, ⟨((Ch.rfl.wI (Or.inl (by simp))).wI (Or.inl (by simp))).wI (Or.inl (by simp)), by rw [k_mC_wI, k_mC_wI, k_mC_wI], fun y hy => ?_, fun y hy => ?_, fun y hy => ?_⟩⟩
      · rw [k_aI_wI (by omega), k_aI_wI (by omega), k_aI_wI_e, up1_eq]
        show _ = nj (S.1 ++ [_]).length
        rw [List.length_append]; rfl
      · rw [k_aI_wI_e, k_aI_wI (show 54 ≠ 55 by omega), k_aI_wI_e, k_aI_wI (show 54 ≠ 53 by omega), k_aI_wI (show 55 ≠ 54 by omega), k_aI_wI (show 55 ≠ 53 by omega), up1_ap, up1_ap]
        have hy' : (S.1 ++ [(30 * of + j, none)])[y]? = some q' := hy
        by_cases cy : y = S.1.length
        · subst cy
          rw [List.getElem?_append_right (Nat.le_refl _), Nat.sub_self] at hy'
          cases hy'
          rw [if_pos rfl, if_pos rfl]
          exact ⟨rfl, rfl⟩
        · have hyl : y < (S.1 ++ [(30 * of + j, none)]).length := get_mem hy'
          rw [List.length_append] at hyl
          have hyl' : y < S.1.length := by
            have : ([(30 * of + j, (none : Option Nat))]).length = 1 := rfl
            omega
          rw [List.getElem?_append_left hyl'] at hy'
          rw [if_neg (by omega), if_neg (by omega)]
          exact hR.2.1 y q' hy'
      · rw [k_aI_wI (by omega), k_aI_wI (by omega), k_aI_wI (by omega)]; exact hR.2.2.1
      · rw [k_aI_wI (by omega), k_aI_wI (by omega), k_aI_wI (by omega)]; exact hR.2.2.2
      · rw [k_aI_wI (by omega), k_aI_wI (by omega), k_aI_wI (by omega)]; exact h58
      · rw [k_aI_wI (by omega), k_aI_wI (by omega), k_aI_wI (by omega)]
      · rw [k_aI_wI (show 53 ≠ 55 by omega), k_aI_wI (show 53 ≠ 54 by omega), k_aI_wI_e, up1_ne hy, k_aI_wI (by omega), k_aI_wI (by omega), k_aI_wI (by omega), k_aI_wI (by omega), k_aI_wI (by omega), k_aI_wI (by omega)]; exact ⟨rfl, rfl, rfl⟩
      · rw [k_aI_wI_e, k_aI_wI (show 54 ≠ 55 by omega), k_aI_wI_e, k_aI_wI (show 54 ≠ 53 by omega), k_aI_wI (show 55 ≠ 54 by omega), k_aI_wI (show 55 ≠ 53 by omega), up1_ne (by omega), up1_ne (by omega)]; exact ⟨rfl, rfl⟩
      · rw [k_aI_wI (by omega), k_aI_wI (by omega), k_aI_wI (by omega)]
  -- a fate is set, the rows stay
  have FATE : ∀ (x : Int32) (r1 : Mem), Ch [1610] [51] nil r r1 → mC r1 = mC r → RowsR (wI r1 58 (30 * of + j) x) k S ∧ aI (wI r1 58 (30 * of + j) x) 58 (30 * of + j) = x ∧ (∀ y, y ≠ 30 * of + j → aI (wI r1 58 (30 * of + j) x) 58 y = aI r 58 y) ∧ RKeep k of r (wI r1 58 (30 * of + j) x) := by
    intro x r1 c1 c2
    have e : ∀ a, a ≠ 51 → a < 82 → aI r1 a = aI r a := fun a h1 h2 => c1.ai (by simp; exact h1) nil_no (by omega)
    refine ⟨⟨?_, fun y q hy => ?_, ?_, ?_⟩, ?_, fun y hy => ?_, ⟨(c1.mono (fun _ h => h) (by simp) (fun _ h => h)).wI (Or.inl (by simp)), by rw [k_mC_wI]; exact c2, fun y hy => ?_, fun y hy => ?_, fun y hy => ?_⟩⟩
    · rw [k_aI_wI (by omega), e 53 (by omega) (by omega)]; exact hR.1
    · rw [k_aI_wI (by omega), k_aI_wI (by omega), e 54 (by omega) (by omega), e 55 (by omega) (by omega)]; exact hR.2.1 y q hy
    · rw [k_aI_wI (by omega), e 56 (by omega) (by omega)]; exact hR.2.2.1
    · rw [k_aI_wI (by omega), e 57 (by omega) (by omega)]; exact hR.2.2.2
    · rw [k_aI_wI_e, up1_eq]
    · rw [k_aI_wI_e, up1_ne hy, e 58 (by omega) (by omega)]
    · rw [k_aI_wI (by omega), k_aI_wI (by omega), k_aI_wI (by omega), e 53 (by omega) (by omega), e 56 (by omega) (by omega), e 57 (by omega) (by omega)]; exact ⟨rfl, rfl, rfl⟩
    · rw [k_aI_wI (by omega), k_aI_wI (by omega), e 54 (by omega) (by omega), e 55 (by omega) (by omega)]; exact ⟨rfl, rfl⟩
    · rw [k_aI_wI_e, up1_ne (by omega), e 58 (by omega) (by omega)]
  by_cases c2 : D.1 15 (30 * of + j) = 2
  · rw [if_pos c2]; exact PUT (Or.inl c2)
  rw [if_neg c2]
  by_cases c3 : D.1 15 (30 * of + j) = 3
  · have eA : apI D vs of (30 * of + j) S = ((S.1, D.1 17 (30 * of + j), S.2.2), 0) := by
      unfold apI
      rw [if_neg (by rintro (h | h | h) <;> (rw [c3] at h; exact absurd h (by decide))), if_pos c3]
    rw [if_pos c3, eA]
    refine ⟨_, rfl, ⟨?_, fun y q hy => ?_, ?_, ?_⟩, ?_, fun y _ => ?_, ⟨Ch.rfl.wI (Or.inl (by simp)), by rw [k_mC_wI], fun y hy => ?_, fun y hy => ?_, fun y hy => ?_⟩⟩
    · rw [k_aI_wI (by omega)]; exact hR.1
    · rw [k_aI_wI (by omega), k_aI_wI (by omega)]; exact hR.2.1 y q hy
    · rw [k_aI_wI_e, up1_eq]
    · rw [k_aI_wI (by omega)]; exact hR.2.2.2
    · rw [k_aI_wI (by omega)]; exact h58
    · rw [k_aI_wI (by omega)]
    · rw [k_aI_wI_e, up1_ne hy, k_aI_wI (by omega), k_aI_wI (by omega)]; exact ⟨rfl, rfl, rfl⟩
    · rw [k_aI_wI (by omega), k_aI_wI (by omega)]; exact ⟨rfl, rfl⟩
    · rw [k_aI_wI (by omega)]
  rw [if_neg c3]
  by_cases c4 : D.1 15 (30 * of + j) = 4
  · rw [if_pos c4]; exact PUT (Or.inr (Or.inl c4))
  rw [if_neg c4]
  by_cases c5 : D.1 15 (30 * of + j) = 5
  · rw [if_pos c5]; exact PUT (Or.inr (Or.inr c5))
  rw [if_neg c5]
  have n245 : ¬ (D.1 15 (30 * of + j) = 2 ∨ D.1 15 (30 * of + j) = 4 ∨ D.1 15 (30 * of + j) = 5) := by rintro (h | h | h); exact c2 h; exact c4 h; exact c5 h
  by_cases c6 : D.1 15 (30 * of + j) = 6
  · have eA : apI D vs of (30 * of + j) S = ((S.1, S.2.1, D.1 17 (30 * of + j)), 0) := by
      unfold apI
      rw [if_neg n245, if_neg c3, if_pos c6]
    rw [if_pos c6, eA]
    refine ⟨_, rfl, ⟨?_, fun y q hy => ?_, ?_, ?_⟩, ?_, fun y _ => ?_, ⟨Ch.rfl.wI (Or.inl (by simp)), by rw [k_mC_wI], fun y hy => ?_, fun y hy => ?_, fun y hy => ?_⟩⟩
    · rw [k_aI_wI (by omega)]; exact hR.1
    · rw [k_aI_wI (by omega), k_aI_wI (by omega)]; exact hR.2.1 y q hy
    · rw [k_aI_wI (by omega)]; exact hR.2.2.1
    · rw [k_aI_wI_e, up1_eq]
    · rw [k_aI_wI (by omega)]; exact h58
    · rw [k_aI_wI (by omega)]
    · rw [k_aI_wI (by omega), k_aI_wI (by omega), k_aI_wI_e, up1_ne hy]; exact ⟨rfl, rfl, rfl⟩
    · rw [k_aI_wI (by omega), k_aI_wI (by omega)]; exact ⟨rfl, rfl⟩
    · rw [k_aI_wI (by omega)]
  rw [if_neg c6]
  by_cases c7 : D.1 15 (30 * of + j) = 7
  · have eA : apI D vs of (30 * of + j) S = (match fnd D (D.1 16 (30 * of + j)) S.1 0 with
      | some j => ((S.1.eraseIdx j, S.2), 0)
      | none => (S, 2)) := by
      unfold apI
      rw [if_neg n245, if_neg c3, if_neg c6, if_pos c7]
      cases fnd D (D.1 16 (30 * of + j)) S.1 0 <;> rfl
    rw [if_pos c7, eA]
    cases c : fnd D (D.1 16 (30 * of + j)) S.1 0 with
    | some x =>
      obtain ⟨-, q, hq, -⟩ := fnd_some c
      rw [Nat.sub_zero] at hq
      obtain ⟨r', g1, g2, g3⟩ := R_goes_e (show k < 24 by omega) hC hR (by omega) (get_mem hq)
      have hx := get_mem hq
      rw [show jk k (some x) = nj (64 * k + x) from rfl, if_neg (by rw [nj_ne_m1 (by omega)]; simp), g1, bn_s]
      have e58 : aI r' 58 = aI r 58 := by
        funext y
        by_cases hy : 30 * of ≤ y ∧ y < 30 * of + 30
        · exact (g3 (of + 1)).2.2.2.2 y (by omega)
        · exact (g3 of).2.2.2.2 y hy
      exact ⟨r', rfl, g2, by rw [e58]; exact h58, fun y _ => by rw [e58], g3 of⟩
    | none =>
      rw [show jk k none = -1 from rfl, if_pos rfl]
      obtain ⟨f1, f2, f3, f4⟩ := FATE 2 r Ch.rfl rfl
      exact ⟨_, rfl, f1, f2, f3, f4⟩
  rw [if_neg c7]
  by_cases c8 : D.1 15 (30 * of + j) = 8
  · rw [if_pos c8]
    have s8 : s = 8 := by
      rw [w2, nj_eq_l (by omega) (by omega)] at c8
      exact c8
    have hv' : D.1 8 of = 1 ∨ D.1 8 of = 2 := by
      rcases hs8 with h | h | h | h
      · have := w3 (Or.inl h); omega
      · exact Or.inl h
      · exact Or.inr h
      · have := w3 (Or.inr h); omega
    obtain ⟨a, b, hab, hbb, ea, eb, hwf⟩ := w10 (by omega)
    have eA : apI D vs of (30 * of + j) S = (match fnd D (D.1 16 (30 * of + j)) S.1 0 with
      | some j' => if isC D S.1 j' = true then (if jmin (logS D of (30 * of + j)) (ansS D of (30 * of + j)) ≤ valS D vs (ix (D.1 21 (30 * of + j))) (ix (D.1 22 (30 * of + j))) ∧ valS D vs (ix (D.1 21 (30 * of + j))) (ix (D.1 22 (30 * of + j))) ≤ jmax (logS D of (30 * of + j)) (ansS D of (30 * of + j)) ∧ logS D of (30 * of + j) ≠ -1 ∧ ansS D of (30 * of + j) ≠ -1 then ((mgA S.1 j' (30 * of + j), S.2), 0) else (S, 3)) else (S, 2)
      | none => (S, 2)) := by
      unfold apI
      rw [if_neg n245, if_neg c3, if_neg c6, if_neg c7, if_pos c8]
      cases fnd D (D.1 16 (30 * of + j)) S.1 0 <;> rfl
    have e214 : R_adds_214 (fun z0 z1 z2 z3 z4 => R_adds_6 fu z0 z1 z2 z3 z4) (nj k) (nj of) (nj n) (nj (30 * of + j)) r = R_adds_6 fu (nj k) (nj of) (nj n) (nj (30 * of + (j + 1))) (wI r 58 (30 * of + j) 2) := by
      unfold R_adds_214
      rw [gy, vb_e, ii, e260]
    rw [eA]
    cases c : fnd D (D.1 16 (30 * of + j)) S.1 0 with
    | none =>
      rw [show jk k none = -1 from rfl, if_pos rfl, e214]
      obtain ⟨f1, f2, f3, f4⟩ := FATE 2 r Ch.rfl rfl
      exact ⟨_, rfl, f1, f2, f3, f4⟩
    | some x =>
      obtain ⟨-, q, hq, -⟩ := fnd_some c
      rw [Nat.sub_zero] at hq
      have hx := get_mem hq
      have hqx := hqi q (List.mem_of_getElem? hq)
      have eC : (isC D S.1 x = true) = (D.1 15 q.1 = 2) := by
        unfold isC
        rw [hq]
        exact propext decide_eq_true_iff
      have g15 : ∀ {β : Type} (c : Option β), gd (inb (nj (64 * k + x)) 1536) c = c := fun c => by rw [inb_nj (by omega), gd_t (decide_eq_true (by omega))]
      rw [show jk k (some x) = nj (64 * k + x) from rfl, if_neg (by rw [nj_ne_m1 (by omega)]; simp)]
      simp only [g15, ix_nj (show 64 * k + x < 2147483648 by omega)]
      rw [(hR.2.1 x q hq).1, inb_nj (by omega), gd_t (decide_eq_true (by omega)), ix_nj (by omega), dat_15 hD (by omega) hqx, e214]
      by_cases d : D.1 15 q.1 = 2
      · obtain ⟨r1, t1, t2, t3⟩ := R_isAmbit_e (vs := vs) hD h24 h160 hC hk hof hi h12 hfn hn (h13 hv') ea eb hab hbb hwf (hv hv')
        rw [if_pos d, t1, bn_s]
        show ∃ r', _ ∧ RowsR r' k (if isC D S.1 x = true then _ else _ : RS × Int32).1 ∧ _ = (if isC D S.1 x = true then _ else _ : RS × Int32).2 ∧ _
        rw [if_pos (show isC D S.1 x = true by rw [eC]; exact d)]
        by_cases am : jmin (logS D of (30 * of + j)) (ansS D of (30 * of + j)) ≤ valS D vs (ix (D.1 21 (30 * of + j))) (ix (D.1 22 (30 * of + j))) ∧ valS D vs (ix (D.1 21 (30 * of + j))) (ix (D.1 22 (30 * of + j))) ≤ jmax (logS D of (30 * of + j)) (ansS D of (30 * of + j)) ∧ logS D of (30 * of + j) ≠ -1 ∧ ansS D of (30 * of + j) ≠ -1
        · rw [if_pos am, decide_eq_true am, if_neg (by decide)]
          have e : ∀ a, a ≠ 51 → a < 82 → aI r1 a = aI r a := fun a h1 h2 => t2.ai (by simp; exact h1) nil_no (by omega)
          refine ⟨_, rfl, ⟨?_, fun y q' hy => ?_, ?_, ?_⟩, ?_, fun y _ => ?_, ⟨(t2.mono (fun _ h => h) (by simp) (fun _ h => h)).wI (Or.inl (by simp)), by rw [k_mC_wI]; exact t3, fun y hy => ?_, fun y hy => ?_, fun y hy => ?_⟩⟩
          · rw [k_aI_wI (by omega), e 53 (by omega) (by omega)]
            show _ = nj (mgA S.1 x (30 * of + j)).length
            unfold mgA
            rw [hq]
            show _ = nj (S.1.set x _).length
            rw [List.length_set]; exact hR.1
          · rw [k_aI_wI (by omega), k_aI_wI_e, e 54 (by omega) (by omega), e 55 (by omega) (by omega), up1_ap]
            have hy' : (mgA S.1 x (30 * of + j))[y]? = some q' := hy
            unfold mgA at hy'
            rw [hq] at hy'
            have hy2 : (S.1.set x (q.1, some (30 * of + j)))[y]? = some q' := hy'
            rw [List.getElem?_set] at hy2
            by_cases cy : x = y
            · rw [if_pos cy, if_pos hx] at hy2
              cases hy2
              rw [if_pos (by omega), ← cy]
              exact ⟨(hR.2.1 x q hq).1, rfl⟩
            · rw [if_neg cy] at hy2
              rw [if_neg (by omega)]
              exact hR.2.1 y q' hy2
          · rw [k_aI_wI (by omega), e 56 (by omega) (by omega)]; exact hR.2.2.1
          · rw [k_aI_wI (by omega), e 57 (by omega) (by omega)]; exact hR.2.2.2
          · rw [k_aI_wI (by omega), e 58 (by omega) (by omega)]; exact h58
          · rw [k_aI_wI (by omega), e 58 (by omega) (by omega)]
          · rw [k_aI_wI (by omega), k_aI_wI (by omega), k_aI_wI (by omega), e 53 (by omega) (by omega), e 56 (by omega) (by omega), e 57 (by omega) (by omega)]; exact ⟨rfl, rfl, rfl⟩
          · rw [k_aI_wI (by omega), k_aI_wI_e, e 54 (by omega) (by omega), e 55 (by omega) (by omega), up1_ne (by omega)]; exact ⟨rfl, rfl⟩
          · rw [k_aI_wI (by omega), e 58 (by omega) (by omega)]
        · rw [if_neg am, decide_eq_false am, if_pos (show tI false = 0 from rfl)]
          obtain ⟨f1, f2, f3, f4⟩ := FATE 3 r1 t2 t3
          exact ⟨_, rfl, f1, f2, f3, f4⟩
      · rw [if_neg d]
        show ∃ r', _ ∧ RowsR r' k (if isC D S.1 x = true then _ else _ : RS × Int32).1 ∧ _ = (if isC D S.1 x = true then _ else _ : RS × Int32).2 ∧ _
        rw [if_neg (show ¬ isC D S.1 x = true by rw [eC]; exact d)]
        obtain ⟨f1, f2, f3, f4⟩ := FATE 2 r Ch.rfl rfl
        exact ⟨_, rfl, f1, f2, f3, f4⟩
  rw [if_neg c8]
  have eA : apI D vs of (30 * of + j) S = (S, 0) := by
    unfold apI
    rw [if_neg n245, if_neg c3, if_neg c6, if_neg c7, if_neg c8]
  rw [eA]
  exact ⟨r, rfl, hR, h58, fun _ _ => rfl, RKeep.rfl⟩
end As
