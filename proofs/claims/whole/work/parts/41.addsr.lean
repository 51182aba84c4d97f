/-! Layer C: rows in the reference's arrays -/
def RowsR (r : Mem) (k : Nat) (S : RS) : Prop := aI r 53 k = nj S.1.length ∧ (∀ (j : Nat) (q : Row), S.1[j]? = some q → aI r 54 (64 * k + j) = nj q.1 ∧ aI r 55 (64 * k + j) = jo q.2) ∧ aI r 56 k = S.2.1 ∧ aI r 57 k = S.2.2
def RKeep (k of : Nat) (r r' : Mem) : Prop := Ch [1610] [51, 53, 54, 55, 56, 57, 58] nil r r' ∧ mC r' = mC r ∧ (∀ x, x ≠ k → aI r' 53 x = aI r 53 x ∧ aI r' 56 x = aI r 56 x ∧ aI r' 57 x = aI r 57 x) ∧ (∀ x, ¬ (64 * k ≤ x ∧ x < 64 * k + 64) → aI r' 54 x = aI r 54 x ∧ aI r' 55 x = aI r 55 x) ∧ ∀ x, ¬ (30 * of ≤ x ∧ x < 30 * of + 30) → aI r' 58 x = aI r 58 x
theorem RKeep.rfl {k of : Nat} {r : Mem} : RKeep k of r r := ⟨Ch.rfl, by trivial, fun _ _ => ⟨by trivial, by trivial, by trivial⟩, fun _ _ => ⟨by trivial, by trivial⟩, fun _ _ => by trivial⟩
theorem RKeep.trans {k of : Nat} {r r1 r2 : Mem} (h : RKeep k of r r1) (g : RKeep k of r1 r2) : RKeep k of r r2 := by
  obtain ⟨a1, a2, a3, a4, a5⟩ := h
  obtain ⟨b1, b2, b3, b4, b5⟩ := g
  refine ⟨a1.trans b1, b2.trans a2, fun x hx => ?_, fun x hx => ?_, fun x hx => ?_⟩
  · have := a3 x hx
    have := b3 x hx
    grind
  · have := a4 x hx
    have := b4 x hx
    grind
  · rw [b5 x hx, a5 x hx]
section Ad
variable {r : Mem} {D : Dt} {k : Nat} {S : RS} {nm : Int32}
theorem dat_keep {of : Nat} {r' : Mem} (hD : dat r = D) (hC : 82 ≤ mC r) (c : RKeep k of r r') : dat r' = D := by rw [← hD]; exact dat_Ch c.1 hC (by decide) (by decide)
theorem get_mem {L : List Row} {j : Nat} {q : Row} (h : L[j]? = some q) : j < L.length := (List.getElem?_eq_some_iff.mp h).1
theorem R_rowOf_5_e (hD : dat r = D) (hk : k < 24) (hR : RowsR r k S) (hl : S.1.length ≤ 64) (hi : ∀ q, q ∈ S.1 → q.1 < 30 * D.2.1) (h24 : D.2.1 ≤ 24) : ∀ (d j fu : Nat), j + d = S.1.length → d < fu → R_rowOf_5 fu (nj k) nm (nj (64 * k + j)) r = some (jk k (fnd D nm (S.1.drop j) j), r)
  | 0, j, fu + 1, hj, _ => by
    rw [R_rowOf_5.eq_2, inb_nj (by omega), gd_t (decide_eq_true hk), ix_nj (by omega), hR.1, nj_l_mul, nj_add, if_pos (by rw [nj_le (by omega) (by omega)]; omega), List.drop_of_length_le (by omega)]
    rfl
  | d + 1, j, fu + 1, hj, hf => by
    have ih := R_rowOf_5_e hD hk hR hl hi h24 d (j + 1) fu (by omega) (by omega)
    obtain ⟨q, hq⟩ : ∃ q, S.1[j]? = some q := ⟨S.1[j]'(by omega), List.getElem?_eq_getElem (by omega)⟩
    have hqi := hi q (List.mem_of_getElem? hq)
    have hdr : S.1.drop j = q :: S.1.drop (j + 1) := by
      rw [List.drop_eq_getElem_cons (show j < S.1.length by omega)]
      rw [List.getElem?_eq_getElem (show j < S.1.length by omega)] at hq
      rw [Option.some.inj hq]
    rw [R_rowOf_5.eq_2, inb_nj (by omega), gd_t (decide_eq_true hk), ix_nj (by omega), hR.1, nj_l_mul, nj_add, if_neg (by rw [nj_le (by omega) (by omega)]; omega), inb_nj (by omega), gd_t (decide_eq_true (by omega)), ix_nj (by omega), (hR.2.1 j q hq).1, inb_nj (by omega), gd_t (decide_eq_true (by omega)), ix_nj (by omega), dat_15 hD (by omega) hqi, vb_e, nj_add_l, hdr]
    unfold fnd
    by_cases c : D.1 16 q.1 = nm
    · rw [if_pos c, if_pos c]; rfl
    · rw [if_neg c, if_neg c]; exact ih
theorem R_rowOf_e (hD : dat r = D) (hk : k < 24) (hR : RowsR r k S) (hl : S.1.length ≤ 64) (hi : ∀ q, q ∈ S.1 → q.1 < 30 * D.2.1) (h24 : D.2.1 ≤ 24) : R_rowOf (nj k) nm r = some (jk k (fnd D nm S.1 0), r) := by
  unfold R_rowOf
  rw [vb_e, nj_l_mul]
  exact R_rowOf_5_e hD hk hR hl hi h24 S.1.length 0 FU (by omega) (by unfold FU; omega)
/-- the rows behind i move one up -/
theorem R_goes_2_e (hk : k < 24) {L : List Row} {i : Nat} (hl : L.length ≤ 64) (hi : i < L.length) : ∀ (d j fu : Nat) (r : Mem), i ≤ j → j + 1 + d = L.length → d < fu → 82 ≤ mC r → aI r 53 k = nj L.length →
    (∀ x q, (L.eraseIdx i)[x]? = some q → x < j → aI r 54 (64 * k + x) = nj q.1 ∧ aI r 55 (64 * k + x) = jo q.2) → (∀ x q, L[x]? = some q → j ≤ x → aI r 54 (64 * k + x) = nj q.1 ∧ aI r 55 (64 * k + x) = jo q.2) →
    ∃ r', R_goes_2 fu (nj k) (nj (64 * k + j)) r = some ((), r') ∧ aI r' 53 k = nj (L.length - 1) ∧ (∀ x q, (L.eraseIdx i)[x]? = some q → aI r' 54 (64 * k + x) = nj q.1 ∧ aI r' 55 (64 * k + x) = jo q.2) ∧ aI r' 56 = aI r 56 ∧ aI r' 57 = aI r 57 ∧ ∀ of, RKeep k of r r'
  | 0, j, fu + 1, r, hij, hj, _, hC, h53, hE, hL => by
    refine ⟨wI r 53 k (nj (L.length - 1)), ?_, ?_, ?_, ?_, ?_, ?_⟩
    · rw [R_goes_2.eq_2, inb_nj (by omega), gd_t (decide_eq_true hk), ix_nj (by omega), h53, nj_l_mul, nj_add, nj_add_l, if_pos (by rw [nj_le (by omega) (by omega)]; omega)]
      unfold R_goes_53
      rw [inb_nj (by omega), gd_t (decide_eq_true hk), gd_t (decide_eq_true hk), ix_nj (by omega), h53, vb_e, nj_sub_l (by omega)]
    · rw [k_aI_wI_e]; exact up1_eq
    · intro x q hx
      have : x < (L.eraseIdx i).length := get_mem hx
      rw [List.length_eraseIdx, if_pos hi] at this
      rw [k_aI_wI (by omega), k_aI_wI (by omega)]
      exact hE x q hx (by omega)
    · rw [k_aI_wI (by omega)]
    · rw [k_aI_wI (by omega)]
    · intro of
      refine ⟨Ch.rfl.wI (Or.inl (by simp)), by rw [k_mC_wI], fun x hx => ?_, fun x hx => ?_, fun x hx => ?_⟩
      · rw [k_aI_wI_e, up1_ne hx, k_aI_wI (by omega), k_aI_wI (by omega)]
        exact ⟨rfl, rfl, rfl⟩
      · rw [k_aI_wI (by omega), k_aI_wI (by omega)]
        exact ⟨rfl, rfl⟩
      · rw [k_aI_wI (by omega)]
  | d + 1, j, fu + 1, r, hij, hj, hf, hC, h53, hE, hL => by
    obtain ⟨q, hq⟩ : ∃ q, L[j + 1]? = some q := ⟨L[j + 1]'(by omega), List.getElem?_eq_getElem (by omega)⟩
    obtain ⟨e1, e2⟩ := hL (j + 1) q hq (by omega)
    have hEj : (L.eraseIdx i)[j]? = some q := by rw [List.getElem?_eraseIdx_of_ge hij]; exact hq
    obtain ⟨r', f1, f2, f3, f4, f5, f6⟩ := R_goes_2_e hk hl hi d (j + 1) fu (wI (wI r 54 (64 * k + j) (nj q.1)) 55 (64 * k + j) (jo q.2)) (by omega) (by omega) (by omega) (by rw [k_mC_wI, k_mC_wI]; exact hC) (by rw [k_aI_wI (by omega), k_aI_wI (by omega)]; exact h53) (fun x y hx hxj => by
      rw [k_aI_wI_e, k_aI_wI (show 54 ≠ 55 by omega), k_aI_wI_e, k_aI_wI (show 55 ≠ 54 by omega), up1_ap, up1_ap]
      by_cases c : x = j
      · subst c
        rw [hEj] at hx
        cases hx
        rw [if_pos rfl, if_pos rfl]
        exact ⟨rfl, rfl⟩
      · rw [if_neg (by omega), if_neg (by omega)]
        exact hE x y hx (by omega)) (fun x y hx hxj => by
      rw [k_aI_wI_e, k_aI_wI (show 54 ≠ 55 by omega), k_aI_wI_e, k_aI_wI (show 55 ≠ 54 by omega), up1_ne (by omega), up1_ne (by omega)]
      exact hL x y hx (by omega))
    refine ⟨r', ?_, f2, f3, by rw [f4, k_aI_wI (by omega), k_aI_wI (by omega)], by rw [f5, k_aI_wI (by omega), k_aI_wI (by omega)], fun of => ?_⟩
    · have g : ∀ {β : Type} (x : Nat) (c : Option β), x < 64 → gd (inb (nj (64 * k + x)) 1536) c = c := fun x c hx => by rw [inb_nj (by omega), gd_t (decide_eq_true (by omega))]
      rw [R_goes_2.eq_2, inb_nj (by omega), gd_t (decide_eq_true hk), ix_nj (by omega), h53, nj_l_mul, nj_add, nj_add_l, if_neg (by rw [nj_le (by omega) (by omega)]; omega)]
      rw [show 64 * k + j + 1 = 64 * k + (j + 1) by omega]
      simp only [g j _ (by omega), g (j + 1) _ (by omega), vb_e, ix_nj (show 64 * k + j < 2147483648 by omega), ix_nj (show 64 * k + (j + 1) < 2147483648 by omega)]
      rw [e1, k_aI_wI (show 55 ≠ 54 by omega), e2]
      exact f1
    · refine RKeep.trans (r1 := wI (wI r 54 (64 * k + j) (nj q.1)) 55 (64 * k + j) (jo q.2)) ⟨(Ch.rfl.wI (Or.inl (by simp))).wI (Or.inl (by simp)), by rw [k_mC_wI, k_mC_wI], fun x hx => ?_, fun x hx => ?_, fun x hx => ?_⟩ (f6 of)
      · rw [k_aI_wI (by omega), k_aI_wI (by omega), k_aI_wI (by omega), k_aI_wI (by omega), k_aI_wI (by omega), k_aI_wI (by omega)]
        exact ⟨rfl, rfl, rfl⟩
      · rw [k_aI_wI_e, k_aI_wI (show 54 ≠ 55 by omega), k_aI_wI_e, k_aI_wI (show 55 ≠ 54 by omega), up1_ne (by omega), up1_ne (by omega)]
        exact ⟨rfl, rfl⟩
      · rw [k_aI_wI (by omega), k_aI_wI (by omega)]
theorem R_goes_e (hk : k < 24) (hC : 82 ≤ mC r) (hR : RowsR r k S) (hl : S.1.length ≤ 64) {i : Nat} (hi : i < S.1.length) : ∃ r', R_goes (nj k) (nj (64 * k + i)) r = some ((), r') ∧ RowsR r' k (S.1.eraseIdx i, S.2) ∧ ∀ of, RKeep k of r r' := by
  obtain ⟨r', f1, f2, f3, f4, f5, f6⟩ := R_goes_2_e hk hl hi (S.1.length - 1 - i) i FU r (Nat.le_refl _) (by omega) (by unfold FU; omega) hC hR.1 (fun x q hx hxi => by
    rw [List.getElem?_eraseIdx_of_lt hxi] at hx
    exact hR.2.1 x q hx) (fun x q hx _ => hR.2.1 x q hx)
  refine ⟨r', f1, ⟨?_, f3, ?_, ?_⟩, f6⟩
  · rw [f2]
    show _ = nj (S.1.eraseIdx i).length
    rw [List.length_eraseIdx, if_pos hi]
  · rw [f4]; exact hR.2.2.1
  · rw [f5]; exact hR.2.2.2
/-- claims are counted on both sides alike -/
theorem R_isAmbit_9_e (hD : dat r = D) (h24 : D.2.1 ≤ 24) (h160 : D.2.2 ≤ 160) {of i n f : Nat} (hk : k < D.2.1) (hof : of < D.2.1) (hi : i < 30 * D.2.1) (hf : D.1 12 of = nj f) (hfn : f ≤ n) (hn : n ≤ D.2.2) : ∀ (d j fu : Nat), j + d = f → d < fu →
    R_isAmbit_9 fu (nj k) (nj of) (nj i) (nj n) (claimS D 7 (D.1 12 k) (D.1 16 i) j) (claimS D 8 (D.1 12 k) (D.1 16 i) j) (nj j) r = R_isAmbit_125 (nj i) (claimS D 7 (D.1 12 k) (D.1 16 i) f) (claimS D 8 (D.1 12 k) (D.1 16 i) f) r
  | 0, j, fu + 1, hj, _ => by
    have e12 : aI r 12 of = nj f := by rw [← hf, ← hD]; exact (by
      have : msk (ix (mI r 1554 0)) 12 of = true := by
        have : D.2.1 = ix (mI r 1554 0) := by rw [← hD]; rfl
        unfold msk; grind
      show _ = (if msk (ix (mI r 1554 0)) 12 of = true then aI r 12 of else 0)
      rw [if_pos this])
    rw [R_isAmbit_9.eq_2, inb_nj (by omega), gd_t (decide_eq_true (by omega)), ix_nj (by omega), e12, if_pos (by rw [nj_le (by omega) (by omega)]; omega), show j = f by omega]
  | d + 1, j, fu + 1, hj, hfu => by
    have ih := R_isAmbit_9_e hD h24 h160 hk hof hi hf hfn hn d (j + 1) fu (by omega) (by omega)
    have em : ∀ x y, 8 ≤ x → x ≤ 14 → y < D.2.1 → aI r x y = D.1 x y := fun x y h1 h2 hy => by
      rw [← hD]
      have : msk (ix (mI r 1554 0)) x y = true := by
        have : D.2.1 = ix (mI r 1554 0) := by rw [← hD]; rfl
        unfold msk; grind
      show _ = (if msk (ix (mI r 1554 0)) x y = true then aI r x y else 0)
      rw [if_pos this]
    have e44 : ∀ x, 44 ≤ x ∧ x ≤ 49 → aI r x j = D.1 x j := fun x hx => by rw [← hD, dat_44 hx]
    have g1 : ∀ {β : Type} (c : Option β), gd (inb (nj j) 160) c = c := fun c => by rw [inb_nj (by omega), gd_t (decide_eq_true (by omega))]
    have g2 : ∀ {β : Type} (c : Option β), gd (inb (nj k) 25) c = c := fun c => by rw [inb_nj (by omega), gd_t (decide_eq_true (by omega))]
    have g3 : ∀ {β : Type} (c : Option β), gd (inb (nj i) 750) c = c := fun c => by rw [inb_nj (by omega), gd_t (decide_eq_true (by omega))]
    have e119 : ∀ a b, R_isAmbit_119 (fun z0 z1 z2 z3 z4 z5 z6 z7 => R_isAmbit_9 fu z0 z1 z2 z3 z4 z5 z6 z7) (nj k) (nj of) (nj i) (nj n) a b (nj j) r = R_isAmbit_9 fu (nj k) (nj of) (nj i) (nj n) a b (nj (j + 1)) r := fun a b => by
      unfold R_isAmbit_119
      rw [vb_e, nj_add_l]
    have h7 : claimS D 7 (D.1 12 k) (D.1 16 i) (j + 1) = if D.1 44 j = 7 ∧ D.1 45 j = D.1 12 k ∧ D.1 46 j = D.1 16 i then D.1 48 j else claimS D 7 (D.1 12 k) (D.1 16 i) j := rfl
    have h8 : claimS D 8 (D.1 12 k) (D.1 16 i) (j + 1) = if D.1 44 j = 8 ∧ D.1 45 j = D.1 12 k ∧ D.1 46 j = D.1 16 i then D.1 48 j else claimS D 8 (D.1 12 k) (D.1 16 i) j := rfl
    rw [h7, h8] at ih
    rw [R_isAmbit_9.eq_2, inb_nj (by omega), gd_t (decide_eq_true (by omega)), ix_nj (by omega), em 12 of (by omega) (by omega) hof, hf, if_neg (by rw [nj_le (by omega) (by omega)]; omega), if_neg (by rw [nj_le (by omega) (by omega)]; omega)]
    unfold R_isAmbit_51
    simp only [g1, g2, g3, e119, vb_e, ix_nj (show j < 2147483648 by omega), ix_nj (show k < 2147483648 by omega), ix_nj (show i < 2147483648 by omega), e44 44 (by omega), e44 45 (by omega), e44 46 (by omega), e44 48 (by omega), em 12 k (by omega) (by omega) hk, dat_15 hD (x := 16) (by omega) hi]
    by_cases c7 : D.1 44 j = 7
    · have n8 : ¬ D.1 44 j = 8 := by rw [c7]; decide
      rw [if_pos c7, if_pos c7]
      by_cases c1 : D.1 45 j = D.1 12 k
      · rw [if_pos c1]
        by_cases c2 : D.1 46 j = D.1 16 i
        · rw [if_pos c2]
          rw [if_pos ⟨c7, c1, c2⟩, if_neg (fun z => n8 z.1)] at ih
          exact ih
        · rw [if_neg c2]
          rw [if_neg (fun z => c2 z.2.2), if_neg (fun z => n8 z.1)] at ih
          exact ih
      · rw [if_neg c1]
        rw [if_neg (fun z => c1 z.2.1), if_neg (fun z => n8 z.1)] at ih
        exact ih
    · rw [if_neg c7, if_neg c7]
      rw [if_neg (fun z => c7 z.1)] at ih
      by_cases c8 : D.1 44 j = 8
      · rw [if_pos c8]
        by_cases c1 : D.1 45 j = D.1 12 k
        · rw [if_pos c1]
          by_cases c2 : D.1 46 j = D.1 16 i
          · rw [if_pos c2]
            rw [if_pos ⟨c8, c1, c2⟩] at ih
            exact ih
          · rw [if_neg c2]
            rw [if_neg (fun z => c2 z.2.2)] at ih
            exact ih
        · rw [if_neg c1]
          rw [if_neg (fun z => c1 z.2.1)] at ih
          exact ih
      · rw [if_neg c8]
        rw [if_neg (fun z => c8 z.1)] at ih
        exact ih
theorem R_isAmbit_e {vs : Nat → Int32} (hD : dat r = D) (h24 : D.2.1 ≤ 24) (h160 : D.2.2 ≤ 160) (hC : 82 ≤ mC r) {of i n f a b : Nat} (hk : k < D.2.1) (hof : of < D.2.1) (hi : i < 30 * D.2.1) (hf : D.1 12 of = nj f) (hfn : f ≤ n) (hn : n ≤ D.2.2) (h13 : D.1 13 of = nj k) (ha : D.1 21 i = nj a) (hb : D.1 22 i = nj b) (hab : a ≤ b) (hbb : b ≤ 500 * D.2.1) (hw : wfC D a (b - a) 0) (hv : ∀ j, j < 12 → aI r 50 j = vs j) :
    ∃ r', R_isAmbit (nj k) (nj of) (nj i) (nj n) r = some (tI (decide (jmin (logS D of i) (ansS D of i) ≤ valS D vs (ix (D.1 21 i)) (ix (D.1 22 i)) ∧ valS D vs (ix (D.1 21 i)) (ix (D.1 22 i)) ≤ jmax (logS D of i) (ansS D of i) ∧ logS D of i ≠ -1 ∧ ansS D of i ≠ -1)), r') ∧ Ch [1610] [51] nil r r' ∧ mC r' = mC r := by
  have eL : claimS D 7 (D.1 12 k) (D.1 16 i) f = logS D of i := by
    unfold logS
    rw [h13, ix_nj (by omega), hf, ix_nj (by omega)]
  have eA : claimS D 8 (D.1 12 k) (D.1 16 i) f = ansS D of i := by
    unfold ansS
    rw [h13, ix_nj (by omega), hf, ix_nj (by omega)]
  unfold R_isAmbit
  have h0 := R_isAmbit_9_e (k := k) hD h24 h160 hk hof hi hf hfn hn f 0 FU (by omega) (by unfold FU; omega)
  have h0' : R_isAmbit_9 FU (nj k) (nj of) (nj i) (nj n) (-1) (-1) 0 r = R_isAmbit_125 (nj i) (claimS D 7 (D.1 12 k) (D.1 16 i) f) (claimS D 8 (D.1 12 k) (D.1 16 i) f) r := h0
  rw [h0', eL, eA]
  unfold R_isAmbit_125
  obtain ⟨r', t1, t2, t3, -⟩ := R_termOf_e (vs := vs) h24 hbb hab hD hv hC hw
  rw [inb_nj (by omega), gd_t (decide_eq_true (by omega)), gd_t (decide_eq_true (by omega)), ix_nj (by omega), dat_15 hD (by omega) hi, dat_15 hD (by omega) hi, ha, hb, t1, bn_s, ix_nj (by omega), ix_nj (by omega)]
  refine ⟨r', ?_, t2, t3⟩
  have f173 : ∀ x y : Int32, R_isAmbit_173 (logS D of i) (ansS D of i) (valS D vs a b) x y r' = some (tI (decide (x ≤ valS D vs a b ∧ valS D vs a b ≤ y ∧ logS D of i ≠ -1 ∧ ansS D of i ≠ -1)), r') := by
    intro x y
    unfold R_isAmbit_173
    by_cases c1 : logS D of i = -1
    · rw [if_pos c1, decide_eq_false (fun z => z.2.2.1 c1)]; rfl
    · rw [if_neg c1]
      by_cases c2 : ansS D of i = -1
      · rw [if_pos c2, decide_eq_false (fun z => z.2.2.2 c2)]; rfl
      · rw [if_neg c2, R_in_e, bp_s]
        by_cases c3 : x ≤ valS D vs a b ∧ valS D vs a b ≤ y
        · rw [decide_eq_true c3, if_neg (by decide), decide_eq_true ⟨c3.1, c3.2, c1, c2⟩]; rfl
        · rw [decide_eq_false c3, if_pos (show tI false = 0 from rfl), decide_eq_false (fun z => c3 ⟨z.1, z.2.1⟩)]; rfl
  unfold R_isAmbit_157 jmin jmax
  by_cases c : ansS D of i ≤ logS D of i
  · rw [if_pos c, if_pos c, f173]
    by_cases c' : ansS D of i < logS D of i
    · rw [if_pos c', if_neg (Int32.not_lt.mpr c)]
    · have : ansS D of i = logS D of i := by grind
      rw [this, if_neg Int32.lt_irrefl]
  · have c' := Int32.not_le.mp c
    rw [if_neg c, if_neg c, f173, if_neg (by grind), if_pos c']
end Ad
