/-! Layer C: steps, reckoned by the class -/
def kd (w : Int32) : Int32 := w / 10000
def nm (w : Int32) : Int32 := w - w / 10000 * 10000
def pSo (k a b : Int32) : Bool := if k = 10 then decide (a = b) else if k = 11 then decide (a ≠ b) else if k = 12 then decide (a < b) else decide (a ≤ b)
def pJo (k a b : Int32) : Int32 := if k = 6 then a + b else if k = 7 then a - b else if k = 8 then a * b else if k = 9 then (if b = 0 then 0 else a / b) else if k = 57 then a &&& b else a ||| b
def pOpd (vs : Nat → Int32) (tk k v : Int32) : Int32 := if k = 3 then v else if k = 59 then (tk >>> (v &&& 31)) &&& 1 else vs (ix (k - 20))
abbrev isO (k : Int32) : Prop := k = 3 ∨ (20 ≤ k ∧ k ≤ 31) ∨ k = 59
def pStep (vs : Nat → Int32) (tk : Int32) (s : List Int32 × Bool) (w : Int32) : List Int32 × Bool :=
  if isO (kd w) then (if s.1.length < 64 then (pOpd vs tk (kd w) (nm w) :: s.1, s.2) else s)
  else if kd w = 58 then (match s.1 with
    | a :: st => ((1 - a) :: st, s.2)
    | [] => s)
  else match s.1 with
    | b :: a :: st => if 10 ≤ kd w ∧ kd w ≤ 13 then (tI (!(s.2 || decide (kd w = 9 ∧ b = 0)) && pSo (kd w) a b) :: st, false) else (pJo (kd w) a b :: st, s.2 || decide (kd w = 9 ∧ b = 0))
    | _ => s
/-- the end: the lowest number of the pile -/
def pEnd (s : List Int32 × Bool) : Int32 := if s.2 then 0 else match s.1.getLast? with
  | some v => v
  | none => 0
theorem Stk.bot {f : Nat → Int32} : ∀ {st : List Int32} {v : Int32}, Stk f st → st.getLast? = some v → f 0 = v
  | [], _, _, h => by simp at h
  | [w], v, hs, h => by
    simp at h
    rw [← h]
    exact hs.1
  | w :: x :: st, v, hs, h => by
    rw [List.getLast?_cons_cons] at h
    exact Stk.bot hs.2 h
section Rs
variable {p : Mem} {vs : Nat → Int32} {tk : Int32} {o va : Nat}
theorem P_isSo_e (k a b : Int32) : P_Formula_isSo k a b = some (tI (pSo k a b)) := by
  unfold P_Formula_isSo pSo tI
  grind
theorem P_joined_e (k a b : Int32) : P_Formula_joined k a b = some (pJo k a b) := by
  unfold P_Formula_joined pJo
  by_cases c1 : k = 6
  · rw [if_pos c1, if_pos c1]
  · by_cases c2 : k = 7
    · rw [if_neg c1, if_neg c1, if_pos c2, if_pos c2]
    · by_cases c3 : k = 8
      · rw [if_neg c1, if_neg c1, if_neg c2, if_neg c2, if_pos c3, if_pos c3]
      · by_cases c4 : k = 9
        · rw [if_neg c1, if_neg c1, if_neg c2, if_neg c2, if_neg c3, if_neg c3, if_pos c4, if_pos c4]
          by_cases c5 : b = 0
          · rw [if_pos c5, if_pos c5]
          · rw [if_neg c5, if_neg c5, gn_t c5]
        · by_cases c6 : k = 57
          · rw [if_neg c1, if_neg c1, if_neg c2, if_neg c2, if_neg c3, if_neg c3, if_neg c4, if_neg c4, if_pos c6, if_pos c6]
          · rw [if_neg c1, if_neg c1, if_neg c2, if_neg c2, if_neg c3, if_neg c3, if_neg c4, if_neg c4, if_neg c6, if_neg c6]
theorem P_operand_e (ht : mT p va = 32) (hN : mN p va = 12) (hv : ∀ j, j < 12 → aI p va j = vs j) {k v : Int32} (hk : isO k) : P_Formula_operand k v (some va) tk p = some (pOpd vs tk k v, p) := by
  unfold P_Formula_operand pOpd
  by_cases c1 : k = 3
  · rw [if_pos c1, if_pos c1]
  · by_cases c2 : k = 59
    · rw [if_neg c1, if_neg c1, if_pos c2, if_pos c2]
    · have c3 : 20 ≤ k ∧ k ≤ 31 := by rcases hk with h | h | h; exact absurd h c1; exact h; exact absurd h c2
      obtain ⟨j, hj, e⟩ : ∃ j, j < 12 ∧ k - 20 = nj j := by
        obtain ⟨i, hi, rfl⟩ := nj_of (show 0 ≤ k by grind)
        rw [nj_l_le (by omega) (by omega), nj_le_l (by omega) (by omega)] at c3
        exact ⟨i - 20, by omega, nj_sub_l (by omega)⟩
      rw [if_neg c1, if_neg c1, if_neg c2, if_neg c2, vb_e, e, gs_s, gt_t ht, hN, inb_nj (by omega), gd_t (decide_eq_true hj), ix_nj (by omega), hv j hj]
      rw [if_neg (by rw [nj_nneg (by omega)]; simp), if_neg (by rw [show Int32.ofNat 12 = nj 12 from rfl, nj_le (by omega) (by omega)]; omega)]
/-- one step of the class -/
theorem P_result_9_e (ho : 51 ≤ o) (hva : va ≠ 4) : ∀ (l : List Int32) (i fu : Nat) (st : List Int32) (bz : Bool) (p : Mem), mT p o = 32 → mN p o = i + l.length → i + l.length ≤ 1000 → (∀ j v, l[j]? = some v → aI p o (i + j) = v) → mT p va = 32 → mN p va = 12 → (∀ j, j < 12 → aI p va j = vs j) → l.length < fu → st.length ≤ 64 → Stk (aI p 4) st →
    ∃ p', P_Formula_result_9 fu (some o) (some va) tk (nj st.length) (tI bz) (nj i) p = some (pEnd (l.foldl (pStep vs tk) (st, bz)), p') ∧ Ch [] [4] nil p p' ∧ mC p' = mC p ∧ mS p' = mS p
  | [], i, fu + 1, st, bz, p, h1, h2, h3, h4, h5, h6, h7, _, h64, hs => by
    refine ⟨p, ?_, Ch.rfl, rfl, rfl⟩
    rw [P_Formula_result_9.eq_2, gs_s, gt_t h1, h2]
    have : (i + ([] : List Int32).length) = i := rfl
    rw [if_pos (by rw [this]; exact Int32.le_refl _)]
    unfold P_Formula_result_263 pEnd
    show _ = some (if bz = true then 0 else _, p)
    cases bz with
    | true => rfl
    | false =>
      rw [if_pos (show tI false = 0 from rfl)]
      show _ = some (match st.getLast? with | some v => v | none => 0, p)
      cases st with
      | nil => rfl
      | cons w st =>
        have hl : (w :: st).length ≤ 64 := h64
        rw [if_neg (by rw [nj_eq_l (by omega) (by omega)]; simp), inb_lit (by omega), gd_t (by decide), ix_lit (by omega)]
        show some (aI p 4 0, p) = some (match (w :: st).getLast? with | some v => v | none => 0, p)
        obtain ⟨v, hv⟩ : ∃ v, (w :: st).getLast? = some v := ⟨_, List.getLast?_eq_some_getLast (by simp)⟩
        rw [hv, Stk.bot hs hv]
  | w :: l, i, fu + 1, st, bz, p, h1, h2, h3, h4, h5, h6, h7, hf, h64, hs => by
    have hlen : (w :: l).length = l.length + 1 := rfl
    have ew : aI p o i = w := h4 0 w rfl
    rw [hlen] at h2 h3 hf
    have K : ∀ (st' : List Int32) (bz' : Bool) (q : Mem), Ch [] [4] nil p q → mC q = mC p → mS q = mS p → mT q = mT p → mN q = mN p → (∀ b, b ≠ 4 → aI q b = aI p b) → st'.length ≤ 64 → Stk (aI q 4) st' → pStep vs tk (st, bz) w = (st', bz') →
        ∃ p', P_Formula_result_257 (fun z0 z1 z2 z3 z4 z5 z6 => P_Formula_result_9 fu z0 z1 z2 z3 z4 z5 z6) (some o) (some va) tk (nj st'.length) (tI bz') (nj i) q = some (pEnd ((w :: l).foldl (pStep vs tk) (st, bz)), p') ∧ Ch [] [4] nil p p' ∧ mC p' = mC p ∧ mS p' = mS p := by
      intro st' bz' q hq1 hq2 hq3 hq4 hq5 hq6 hl hst hp
      obtain ⟨p', e1, e2, e3, e4⟩ := P_result_9_e ho hva l (i + 1) fu st' bz' q (by rw [hq4]; exact h1) (by rw [hq5, h2]; omega) (by omega) (fun j v hj => by
        rw [hq6 o (by omega), show i + 1 + j = i + (j + 1) by omega]
        exact h4 (j + 1) v hj) (by rw [hq4]; exact h5) (by rw [hq5]; exact h6) (fun j hj => by rw [hq6 va hva]; exact h7 j hj) (by omega) hl hst
      refine ⟨p', ?_, hq1.trans e2, e3.trans hq2, e4.trans hq3⟩
      unfold P_Formula_result_257
      rw [vb_e, nj_add_l, List.foldl_cons, hp]
      exact e1
    have KW : ∀ (st' : List Int32) (bz' : Bool) (x : Int32) (b : Nat), st'.length ≤ 64 → Stk (aI (wI p 4 b x) 4) st' → pStep vs tk (st, bz) w = (st', bz') →
        ∃ p', P_Formula_result_257 (fun z0 z1 z2 z3 z4 z5 z6 => P_Formula_result_9 fu z0 z1 z2 z3 z4 z5 z6) (some o) (some va) tk (nj st'.length) (tI bz') (nj i) (wI p 4 b x) = some (pEnd ((w :: l).foldl (pStep vs tk) (st, bz)), p') ∧ Ch [] [4] nil p p' ∧ mC p' = mC p ∧ mS p' = mS p := fun st' bz' x b hl hst hp =>
      K st' bz' (wI p 4 b x) (Ch.rfl.wI (Or.inl (by decide))) k_mC_wI k_mS_wI k_mT_wI k_mN_wI (fun c hc => k_aI_wI hc) hl hst hp
    have K0 := K st bz p Ch.rfl rfl rfl rfl rfl (fun _ _ => rfl) h64 hs
    have O : isO (kd w) → ∃ p', P_Formula_result_53 (fun z0 z1 z2 z3 z4 z5 z6 => P_Formula_result_9 fu z0 z1 z2 z3 z4 z5 z6) (some o) (some va) tk (nj st.length) (tI bz) (nj i) (kd w) p = some (pEnd ((w :: l).foldl (pStep vs tk) (st, bz)), p') ∧ Ch [] [4] nil p p' ∧ mC p' = mC p ∧ mS p' = mS p := by
      intro hO
      unfold P_Formula_result_53
      by_cases q : st.length < 64
      · simp only [nj_l_le (show st.length < 2147483648 by omega) (show (64 : Nat) < 2147483648 by omega)]
        rw [if_neg (by omega), gs_s, gt_t h1, inb_nj (by omega), gd_t (decide_eq_true (by omega)), ix_nj (by omega), ew]
        show ∃ p', (bn (P_Formula_operand (kd w) (nm w) (some va) tk p) _) = _ ∧ _
        rw [P_operand_e h5 h6 h7 hO, bn_s, inb_nj (by omega), gd_t (decide_eq_true q), vb_e, ix_nj (by omega), vb_e, nj_add_l]
        exact KW (pOpd vs tk (kd w) (nm w) :: st) bz _ _ (by show st.length + 1 ≤ 64; omega) (by rw [k_aI_wI_e]; exact hs.push) (by unfold pStep; rw [if_pos hO, if_pos q])
      · simp only [nj_l_le (show st.length < 2147483648 by omega) (show (64 : Nat) < 2147483648 by omega)]
        rw [if_pos (by omega)]
        exact K0 (by unfold pStep; rw [if_pos hO, if_neg q])
    have Q : ¬ (kd w = 3 ∨ (20 ≤ kd w ∧ kd w ≤ 31)) → ∃ p', P_Formula_result_46 (fun z0 z1 z2 z3 z4 z5 z6 => P_Formula_result_9 fu z0 z1 z2 z3 z4 z5 z6) (some o) (some va) tk (nj st.length) (tI bz) (nj i) (kd w) p = some (pEnd ((w :: l).foldl (pStep vs tk) (st, bz)), p') ∧ Ch [] [4] nil p p' ∧ mC p' = mC p ∧ mS p' = mS p := by
      intro hO
      unfold P_Formula_result_46
      by_cases c59 : kd w = 59
      · rw [if_pos c59]; exact O (Or.inr (Or.inr c59))
      · have hO' : ¬ isO (kd w) := by rintro (h | h | h); exact hO (Or.inl h); exact hO (Or.inr h); exact c59 h
        rw [if_neg c59]
        by_cases c58 : kd w = 58
        · rw [if_pos c58]
          cases st with
          | nil =>
            rw [if_pos (by decide)]
            exact K0 (by unfold pStep; rw [if_neg hO', if_pos c58])
          | cons a st' =>
            have hl : (a :: st').length = st'.length + 1 := rfl
            rw [hl] at h64 ⊢
            rw [if_neg (by rw [nj_le_l (by omega) (by omega)]; omega), nj_pred, inb_nj (by omega), gd_t (decide_eq_true (by omega)), gd_t (decide_eq_true (by omega)), vb_e, ix_nj (by omega), show aI p 4 st'.length = a from hs.1]
            exact KW ((1 - a) :: st') bz _ _ (by show st'.length + 1 ≤ 64; omega) (by rw [k_aI_wI_e]; exact hs.2.push) (by unfold pStep; rw [if_neg hO', if_pos c58])
        · rw [if_neg c58]
          match st, h64, hs, K0, KW with
          | [], h64, hs, K0, KW =>
            rw [if_pos (by decide)]
            exact K0 (by unfold pStep; rw [if_neg hO', if_neg c58])
          | [a], h64, hs, K0, KW =>
            rw [if_pos (show nj [a].length ≤ 1 from (by decide : nj 1 ≤ 1))]
            exact K0 (by unfold pStep; rw [if_neg hO', if_neg c58])
          | b :: a :: st', h64, hs, K0, KW =>
            have hl : (b :: a :: st').length = st'.length + 2 := rfl
            rw [hl] at h64 ⊢
            have s1 : aI p 4 (st'.length + 1) = b := hs.1
            have s2 : aI p 4 st'.length = a := hs.2.1
            have hs3 : Stk (aI p 4) st' := hs.2.2
            rw [if_neg (by rw [nj_le_l (by omega) (by omega)]; omega), vb_e, nj_pred', inb_nj (by omega), gd_t (decide_eq_true (by omega)), ix_nj (by omega), s1]
            have F : ∀ z : Bool, z = (bz || decide (kd w = 9 ∧ b = 0)) → ∃ p', P_Formula_result_162 (fun z0 z1 z2 z3 z4 z5 z6 => P_Formula_result_9 fu z0 z1 z2 z3 z4 z5 z6) (some o) (some va) tk (nj (st'.length + 1)) (nj i) (kd w) (tI z) p = some (pEnd ((w :: l).foldl (pStep vs tk) (b :: a :: st', bz)), p') ∧ Ch [] [4] nil p p' ∧ mC p' = mC p ∧ mS p' = mS p := by
              intro z hz
              have J : ¬ (10 ≤ kd w ∧ kd w ≤ 13) → ∃ p', P_Formula_result_227 (fun z0 z1 z2 z3 z4 z5 z6 => P_Formula_result_9 fu z0 z1 z2 z3 z4 z5 z6) (some o) (some va) tk (nj (st'.length + 1)) (tI z) (nj i) (kd w) p = some (pEnd ((w :: l).foldl (pStep vs tk) (b :: a :: st', bz)), p') ∧ Ch [] [4] nil p p' ∧ mC p' = mC p ∧ mS p' = mS p := by
                intro hc
                unfold P_Formula_result_227
                rw [nj_pred, inb_nj (by omega), gd_t (decide_eq_true (by omega)), inb_nj (by omega), gd_t (decide_eq_true (by omega)), ix_nj (by omega), ix_nj (by omega), s1, s2, P_joined_e, bp_s, gd_t (decide_eq_true (by omega)), vb_e]
                exact KW (pJo (kd w) a b :: st') z _ _ (by show st'.length + 1 ≤ 64; omega) (by rw [k_aI_wI_e]; exact hs3.push) (by unfold pStep; rw [if_neg hO', if_neg c58]; show (if _ then _ else _) = _; rw [if_neg hc, hz])
              unfold P_Formula_result_162
              by_cases c1 : kd w < 10
              · rw [if_pos c1]; exact J (fun h => absurd h.1 (Int32.not_le.mpr c1))
              · rw [if_neg c1]
                by_cases c2 : 13 < kd w
                · rw [if_pos c2]; exact J (fun h => absurd h.2 (Int32.not_le.mpr c2))
                · rw [if_neg c2]
                  have hc : 10 ≤ kd w ∧ kd w ≤ 13 := ⟨Int32.not_lt.mp c1, Int32.not_lt.mp c2⟩
                  have W : ∀ y : Bool, y = (!z && pSo (kd w) a b) → ∃ p', P_Formula_result_220 (fun z0 z1 z2 z3 z4 z5 z6 => P_Formula_result_9 fu z0 z1 z2 z3 z4 z5 z6) (some o) (some va) tk (nj (st'.length + 1)) (nj i) (tI y) (nj st'.length) p = some (pEnd ((w :: l).foldl (pStep vs tk) (b :: a :: st', bz)), p') ∧ Ch [] [4] nil p p' ∧ mC p' = mC p ∧ mS p' = mS p := by
                    intro y hy
                    unfold P_Formula_result_220
                    rw [inb_nj (by omega), gd_t (decide_eq_true (by omega)), vb_e, ix_nj (by omega)]
                    exact KW (tI y :: st') false _ _ (by show st'.length + 1 ≤ 64; omega) (by rw [k_aI_wI_e]; exact hs3.push) (by unfold pStep; rw [if_neg hO', if_neg c58]; show (if _ then _ else _) = _; rw [if_pos hc, hy, hz])
                  cases z with
                  | true =>
                    rw [if_neg (by decide), nj_pred]
                    exact W false (by simp)
                  | false =>
                    rw [if_pos (show tI false = 0 from rfl), nj_pred, inb_nj (by omega), gd_t (decide_eq_true (by omega)), inb_nj (by omega), gd_t (decide_eq_true (by omega)), ix_nj (by omega), ix_nj (by omega), s1, s2, P_isSo_e, bp_s]
                    cases hso : pSo (kd w) a b with
                    | true =>
                      rw [if_neg (by decide)]
                      exact W true (by simp [hso])
                    | false =>
                      rw [if_pos (show tI false = 0 from rfl)]
                      exact W false (by simp [hso])
            cases bz with
            | true =>
              rw [if_neg (by decide)]
              exact F true (by simp)
            | false =>
              rw [if_pos (show tI false = 0 from rfl)]
              by_cases c9 : kd w = 9
              · rw [if_pos c9]
                by_cases c0 : b = 0
                · rw [if_pos c0]; exact F true (by simp [c9, c0])
                · rw [if_neg c0]; exact F false (by simp [c0])
              · rw [if_neg c9]; exact F false (by simp [c9])
    rw [P_Formula_result_9.eq_2, gs_s, gt_t h1, h2, if_neg (by rw [show Int32.ofNat (i + (l.length + 1)) = nj (i + (l.length + 1)) from rfl, nj_le (by omega) (by omega)]; omega), inb_nj (by omega), gd_t (decide_eq_true (by omega)), ix_nj (by omega), ew, vb_e]
    show ∃ p', (if kd w = 3 then _ else if kd w < 20 then _ else if kd w ≤ 31 then _ else _) = _ ∧ _
    by_cases c1 : kd w = 3
    · rw [if_pos c1]; exact O (Or.inl c1)
    · rw [if_neg c1]
      by_cases c2 : kd w < 20
      · rw [if_pos c2]; exact Q (by rintro (h | h); exact c1 h; exact absurd h.1 (Int32.not_le.mpr c2))
      · rw [if_neg c2]
        by_cases c3 : kd w ≤ 31
        · rw [if_pos c3]; exact O (Or.inr (Or.inl ⟨Int32.not_lt.mp c2, c3⟩))
        · rw [if_neg c3]; exact Q (by rintro (h | h); exact c1 h; exact c3 h.2)
theorem P_result_e {l : List Int32} (ho : 51 ≤ o) (hva : va ≠ 4) (hA : Arr p o l) (h5 : mT p va = 32) (h6 : mN p va = 12) (h7 : ∀ j, j < 12 → aI p va j = vs j) : ∃ p', P_Formula_result (some o) (some va) tk p = some (pEnd (l.foldl (pStep vs tk) ([], false)), p') ∧ Ch [] [4] nil p p' ∧ mC p' = mC p ∧ mS p' = mS p := by
  unfold P_Formula_result
  exact P_result_9_e ho hva l 0 FU [] false p hA.1 (by rw [hA.2.1]; omega) (by have := hA.2.2.1; omega) (fun j v hj => by rw [Nat.zero_add]; exact hA.2.2.2 j v hj) h5 h6 h7 (by have := hA.2.2.1; unfold FU; omega) (by simp) trivial
end Rs
