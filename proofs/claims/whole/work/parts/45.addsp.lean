/-! Layer C: rows of an award or agree, in the class -/
def RowsP (ta ia : Nat → Nat) (p : Mem) (k : Nat) (S : RS) : Prop := mI p 1292 (ta k) = nj S.1.length ∧ (∀ (j : Nat) (q : Row), S.1[j]? = some q → aR p (ta k + 1) j = some (ia q.1) ∧ aR p (ta k + 2) j = some (ia (q.2.getD q.1))) ∧ mI p 1293 (ta k) = S.2.1 + 51 ∧ mI p 1294 (ta k) = S.2.2
/-- an ITEM's work changes the rows of k alone -/
def FK (ta : Nat → Nat) (k : Nat) (p p' : Mem) : Prop := Ch [1292, 1293, 1294] [4] (fun a => a = ta k + 1 ∨ a = ta k + 2) p p' ∧ mC p' = mC p ∧ mS p' = mS p ∧ ∀ x, x < mC p → x ≠ ta k → mI p' 1292 x = mI p 1292 x ∧ mI p' 1293 x = mI p 1293 x ∧ mI p' 1294 x = mI p 1294 x
section Ap
variable {fa ta ia sa ca : Nat → Nat} {od : List Nat} {p : Mem} {D : Dt} {nc k : Nat} {S : RS}
theorem FK.rfl : FK ta k p p := ⟨Ch.rfl, by trivial, by trivial, fun _ _ _ => ⟨by trivial, by trivial, by trivial⟩⟩
theorem FK.trans {p1 p2 : Mem} (h : FK ta k p p1) (g : FK ta k p1 p2) : FK ta k p p2 := by
  obtain ⟨a1, a2, a3, a4⟩ := h
  obtain ⟨b1, b2, b3, b4⟩ := g
  refine ⟨a1.trans b1, b2.trans a2, b3.trans a3, fun x hm hx => ?_⟩
  have := a4 x hm hx
  have := b4 x (by omega) hx
  grind
theorem FK.tp {p' : Mem} (h : FK ta k p p') (T : Top p) : Top p' := T.Ch h.1
theorem FK.lk {p' : Mem} (h : FK ta k p p') (L : Lk fa ta ia sa ca od p D) (T : Top p) (hk : k < D.2.1) : Lk fa ta ia sa ca od p' D :=
  L.Ch T (h.1.mono (fun _ h => h) (fun _ h => h) (fun a ha => ⟨k, hk, by omega⟩)) (by decide) (by decide)
theorem itemAt_of (L : Lk fa ta ia sa ca od p D) {i : Nat} (h : isI D i) : ∃ k', ItemAt p D k' i (ia i) (sa i) (ca i) := by
  obtain ⟨k', j, h1, h2, rfl⟩ := h
  exact ⟨k', L.2.2.2.1 k' j h1 h2⟩
theorem P_entryOf_2_e (L : Lk fa ta ia sa ca od p D) (hk : k < D.2.1) (h60 : D.1 8 k = 0 ∨ D.1 8 k = 3) (hR : RowsP ta ia p k S) (hW : WRow D S.1) (hl : S.1.length ≤ 60) {nm : Int32} : ∀ (d j fu : Nat), j + d = S.1.length → d < fu → P_Text_entryOf_2 fu (ta k) nm (nj j) p = some (jo (fnd D nm (S.1.drop j) j), p)
  | 0, j, fu + 1, hj, _ => by
    rw [P_Text_entryOf_2.eq_2, hR.1, if_pos (by rw [nj_le (by omega) (by omega)]; omega), List.drop_of_length_le (by omega)]
    rfl
  | d + 1, j, fu + 1, hj, hf => by
    have ih := P_entryOf_2_e L hk h60 hR hW hl (nm := nm) d (j + 1) fu (by omega) (by omega)
    obtain ⟨q, hq⟩ : ∃ q, S.1[j]? = some q := ⟨S.1[j]'(by omega), List.getElem?_eq_getElem (by omega)⟩
    have hdr : S.1.drop j = q :: S.1.drop (j + 1) := by
      rw [List.drop_eq_getElem_cons (show j < S.1.length by omega)]
      rw [List.getElem?_eq_getElem (show j < S.1.length by omega)] at hq
      rw [Option.some.inj hq]
    obtain ⟨-, -, -, -, -, -, -, -, -, -, -, -, t13, t14, -, -, t17, t18, -, -, t21⟩ := L.2.1.2.1 k hk
    obtain ⟨k', I⟩ := itemAt_of L (hW.1 q (List.mem_of_getElem? hq)).1
    rw [P_Text_entryOf_2.eq_2, hR.1, if_neg (by rw [nj_le (by omega) (by omega)]; omega), t13, gs_s, gt_t t17, (t21 h60).1, inb_nj (by omega), gd_t (decide_eq_true (by omega)), ix_nj (by omega), (hR.2.1 j q hq).1, gs_s, gt_t I.2.1, I.2.2.2.2.1, vb_e, nj_add_l, hdr]
    unfold fnd
    by_cases c : D.1 16 q.1 = nm
    · rw [if_pos c, if_pos c]; rfl
    · rw [if_neg c, if_neg c]; exact ih
theorem P_entryOf_e (L : Lk fa ta ia sa ca od p D) (hk : k < D.2.1) (h60 : D.1 8 k = 0 ∨ D.1 8 k = 3) (hR : RowsP ta ia p k S) (hW : WRow D S.1) (hl : S.1.length ≤ 60) (nm : Int32) : P_Text_entryOf (ta k) nm p = some (jo (fnd D nm S.1 0), p) := by
  unfold P_Text_entryOf
  exact P_entryOf_2_e L hk h60 hR hW hl S.1.length 0 FU (by omega) (by unfold FU; omega)
theorem jo_none : (jo none = -1) = True := eq_true rfl
theorem jo_some {i : Nat} (h : i < 2147483648) : ¬ jo (some i) = -1 := by
  show ¬ nj i = -1
  rw [nj_ne_m1 h]
  simp
theorem P_put_41_e (L : Lk fa ta ia sa ca od p D) (hk : k < D.2.1) (h60 : D.1 8 k = 0 ∨ D.1 8 k = 3) {i x : Nat} (hi : mT p (ia i) = 3) (hx : x < 60) : P_Text_put_41 (ta k) (some (ia i)) (nj x) p = some ((), wR (wR p (ta k + 1) x (some (ia i))) (ta k + 2) x (some (ia i))) := by
  obtain ⟨-, -, -, -, -, -, -, -, -, -, -, -, t13, t14, -, -, t17, t18, -, -, t21⟩ := L.2.1.2.1 k hk
  unfold P_Text_put_41
  rw [if_neg (by rw [nj_ne_m1 (by omega)]; simp), t13, gs_s, gt_t t17, (t21 h60).1, inb_nj (by omega), gd_t (decide_eq_true hx), go_s hi, vb_e, ix_nj (by omega), k_mR_wR, t14, gs_s, gt_t (by rw [k_mT_wR]; exact t18), k_mN_wR, (t21 h60).2.1, inb_nj (by omega), gd_t (decide_eq_true hx), go_s (by rw [k_mT_wR]; exact hi), vb_e]
theorem P_put_e (L : Lk fa ta ia sa ca od p D) (T : Top p) (W : WItems D nc) (hn60 : nc ≤ 60) (hk : k < D.2.1) (h60 : D.1 8 k = 0 ∨ D.1 8 k = 3) (hR : RowsP ta ia p k S) (hW : WRow D S.1) {i : Nat} (hi : isI D i) (hs : D.1 15 i = 2 ∨ D.1 15 i = 4 ∨ D.1 15 i = 5) :
    ∃ p', P_Text_put (ta k) (some (ia i)) p = some ((), p') ∧ RowsP ta ia p' k (match fnd D (D.1 16 i) S.1 0 with
      | some j => (S.1.set j (i, none), S.2)
      | none => (S.1 ++ [(i, none)], S.2)) ∧ FK ta k p p' := by
  have hl := hW.len W hn60
  obtain ⟨k', I⟩ := itemAt_of L hi
  obtain ⟨-, t2, -, -, -, -, -, -, -, -, -, -, t13, t14, -, -, t17, t18, -, -, t21⟩ := L.2.1.2.1 k hk
  have hput := hW.put hi hs
  unfold P_Text_put
  rw [gs_s, gt_t I.2.1, I.2.2.2.2.1, P_entryOf_e L hk h60 hR hW hl, bn_s]
  cases c : fnd D (D.1 16 i) S.1 0 with
  | some x =>
    obtain ⟨-, q, hq, -⟩ := fnd_some c
    rw [Nat.sub_zero] at hq
    have hx := get_mem hq
    rw [if_neg (jo_some (by omega)), gt_t t2, show jo (some x) = nj x from rfl, P_put_41_e L hk h60 I.2.1 (by omega)]
    refine ⟨_, rfl, ⟨?_, fun y q' hy => ?_, ?_, ?_⟩, ⟨(Ch.rfl.wR (Or.inr (Or.inl rfl))).wR (Or.inr (Or.inr rfl)), rfl, rfl, fun _ _ _ => ⟨rfl, rfl, rfl⟩⟩⟩
    · rw [k_mI_wR, k_mI_wR]
      show _ = nj (S.1.set x _).length
      rw [List.length_set]; exact hR.1
    · rw [k_aR_wR_e, k_aR_wR (show ta k + 1 ≠ ta k + 2 by omega), k_aR_wR_e, k_aR_wR (show ta k + 2 ≠ ta k + 1 by omega), up1_ap, up1_ap]
      have hy' : (S.1.set x (i, none))[y]? = some q' := hy
      rw [List.getElem?_set] at hy'
      by_cases cy : x = y
      · rw [if_pos cy, if_pos hx] at hy'
        cases hy'
        rw [if_pos cy.symm, if_pos cy.symm]
        exact ⟨rfl, rfl⟩
      · rw [if_neg cy] at hy'
        rw [if_neg (fun z => cy z.symm), if_neg (fun z => cy z.symm)]
        exact hR.2.1 y q' hy'
    · rw [k_mI_wR, k_mI_wR]; exact hR.2.2.1
    · rw [k_mI_wR, k_mI_wR]; exact hR.2.2.2
  | none =>
    rw [c] at hput
    have hlen : (S.1 ++ [((i, none) : Row)]).length ≤ 60 := WRow.len hput W hn60
    rw [List.length_append] at hlen
    have hl1 : S.1.length < 60 := by
      have : ([((i, none) : Row)]).length = 1 := rfl
      omega
    have cS : Ch [1292, 1293, 1294] [4] (fun a => a = ta k + 1 ∨ a = ta k + 2) p (sI p 1292 (ta k) (nj (S.1.length + 1))) := Ch.rfl.sI (by decide)
    have F1 : FK ta k p (sI p 1292 (ta k) (nj (S.1.length + 1))) := ⟨cS, rfl, rfl, fun x _ hx => ⟨by rw [k_mI_sI_e, up1_ne hx], by rw [k_mI_sI (by omega)], by rw [k_mI_sI (by omega)]⟩⟩
    rw [if_pos (show jo none = -1 from rfl), gt_t t2, t13, gs_s, gt_t t17, (t21 h60).1, hR.1, if_neg (by rw [show Int32.ofNat 60 = nj 60 from rfl, nj_le (by omega) (by omega)]; omega), vb_e, vb_e, nj_add_l, P_put_41_e (F1.lk L T hk) hk h60 (by rw [k_mT_sI]; exact I.2.1) hl1]
    refine ⟨_, rfl, ⟨?_, fun y q' hy => ?_, ?_, ?_⟩, F1.trans ⟨(Ch.rfl.wR (Or.inr (Or.inl rfl))).wR (Or.inr (Or.inr rfl)), rfl, rfl, fun _ _ _ => ⟨rfl, rfl, rfl⟩⟩⟩
    · rw [k_mI_wR, k_mI_wR, k_mI_sI_e, up1_eq]
      show _ = nj (S.1 ++ [_]).length
      rw [List.length_append]; rfl
    · rw [k_aR_wR_e, k_aR_wR (show ta k + 1 ≠ ta k + 2 by omega), k_aR_wR_e, k_aR_wR (show ta k + 2 ≠ ta k + 1 by omega), up1_ap, up1_ap, k_aR_sI]
      have hy' : (S.1 ++ [((i, none) : Row)])[y]? = some q' := hy
      by_cases cy : y = S.1.length
      · subst cy
        rw [List.getElem?_append_right (Nat.le_refl _), Nat.sub_self] at hy'
        cases hy'
        rw [if_pos rfl, if_pos rfl]
        exact ⟨rfl, rfl⟩
      · have hyl : y < (S.1 ++ [((i, none) : Row)]).length := get_mem hy'
        rw [List.length_append] at hyl
        have hyl' : y < S.1.length := by
          have : ([((i, none) : Row)]).length = 1 := rfl
          omega
        rw [List.getElem?_append_left hyl'] at hy'
        rw [if_neg cy, if_neg cy]
        exact hR.2.1 y q' hy'
    · rw [k_mI_wR, k_mI_wR, k_mI_sI (by omega)]; exact hR.2.2.1
    · rw [k_mI_wR, k_mI_wR, k_mI_sI (by omega)]; exact hR.2.2.2
/-- the rows behind i move one up -/
theorem P_drop_25_e (hk : k < D.2.1) (h60 : D.1 8 k = 0 ∨ D.1 8 k = 3) {L0 : List Row} {i : Nat} (hW : WRow D L0) (hl : L0.length ≤ 60) (hi : i < L0.length) : ∀ (d j fu : Nat) (p : Mem), Lk fa ta ia sa ca od p D → Top p → i ≤ j → j + d + 1 = L0.length → d < fu → mI p 1292 (ta k) = nj (L0.length - 1) →
    (∀ (x : Nat) (q : Row), (L0.eraseIdx i)[x]? = some q → x < j → aR p (ta k + 1) x = some (ia q.1) ∧ aR p (ta k + 2) x = some (ia (q.2.getD q.1))) → (∀ (x : Nat) (q : Row), L0[x]? = some q → j ≤ x → aR p (ta k + 1) x = some (ia q.1) ∧ aR p (ta k + 2) x = some (ia (q.2.getD q.1))) →
    ∃ p', P_Text_drop_25 fu (ta k) (nj j) p = some (1, p') ∧ (∀ (x : Nat) (q : Row), (L0.eraseIdx i)[x]? = some q → aR p' (ta k + 1) x = some (ia q.1) ∧ aR p' (ta k + 2) x = some (ia (q.2.getD q.1))) ∧ mI p' = mI p ∧ FK ta k p p'
  | 0, j, fu + 1, p, L, T, hij, hj, _, h92, hE, hL => by
    refine ⟨p, ?_, fun x q hx => hE x q hx ?_, rfl, FK.rfl⟩
    · rw [P_Text_drop_25.eq_2, h92, if_pos (by rw [nj_le (by omega) (by omega)]; omega)]
    · have : x < (L0.eraseIdx i).length := get_mem hx
      rw [List.length_eraseIdx, if_pos hi] at this
      omega
  | d + 1, j, fu + 1, p, L, T, hij, hj, hf, h92, hE, hL => by
    obtain ⟨q, hq⟩ : ∃ q, L0[j + 1]? = some q := ⟨L0[j + 1]'(by omega), List.getElem?_eq_getElem (by omega)⟩
    obtain ⟨e1, e2⟩ := hL (j + 1) q hq (by omega)
    have hqm := hW.1 q (List.mem_of_getElem? hq)
    obtain ⟨k1, I1⟩ := itemAt_of L hqm.1
    have hI2 : mT p (ia (q.2.getD q.1)) = 3 := by
      cases c : q.2 with
      | none => exact I1.2.1
      | some m =>
        obtain ⟨k2, I2⟩ := itemAt_of L (hqm.2.2 m c).1
        exact I2.2.1
    obtain ⟨-, t2, -, -, -, -, -, -, -, -, -, -, t13, t14, -, -, t17, t18, -, -, t21⟩ := L.2.1.2.1 k hk
    have hEj : (L0.eraseIdx i)[j]? = some q := by rw [List.getElem?_eraseIdx_of_ge hij]; exact hq
    have F1 : FK ta k p (wR (wR p (ta k + 1) j (some (ia q.1))) (ta k + 2) j (some (ia (q.2.getD q.1)))) := ⟨(Ch.rfl.wR (Or.inr (Or.inl rfl))).wR (Or.inr (Or.inr rfl)), rfl, rfl, fun _ _ _ => ⟨rfl, rfl, rfl⟩⟩
    obtain ⟨p', f1, f3, f4, f6⟩ := P_drop_25_e hk h60 hW hl hi d (j + 1) fu (wR (wR p (ta k + 1) j (some (ia q.1))) (ta k + 2) j (some (ia (q.2.getD q.1)))) (F1.lk L T hk) (T.same rfl rfl) (by omega) (by omega) (by omega) (by rw [k_mI_wR, k_mI_wR]; exact h92) (fun x y hx hxj => by
      rw [k_aR_wR_e, k_aR_wR (show ta k + 1 ≠ ta k + 2 by omega), k_aR_wR_e, k_aR_wR (show ta k + 2 ≠ ta k + 1 by omega), up1_ap, up1_ap]
      by_cases c : x = j
      · subst c
        rw [hEj] at hx
        cases hx
        rw [if_pos rfl, if_pos rfl]
        exact ⟨rfl, rfl⟩
      · rw [if_neg c, if_neg c]
        exact hE x y hx (by omega)) (fun x y hx hxj => by
      rw [k_aR_wR_e, k_aR_wR (show ta k + 1 ≠ ta k + 2 by omega), k_aR_wR_e, k_aR_wR (show ta k + 2 ≠ ta k + 1 by omega), up1_ne (by omega), up1_ne (by omega)]
      exact hL x y hx (by omega))
    refine ⟨p', ?_, f3, by rw [f4, k_mI_wR, k_mI_wR], F1.trans f6⟩
    rw [P_Text_drop_25.eq_2, h92, if_neg (by rw [nj_le (by omega) (by omega)]; omega), t13, gs_s, gs_s, gt_t t17, (t21 h60).1, nj_add_l, inb_nj (by omega), gd_t (decide_eq_true (by omega)), gt_t t17, inb_nj (by omega), gd_t (decide_eq_true (by omega)), ix_nj (by omega), e1, go_s I1.2.1, vb_e, ix_nj (by omega), k_mR_wR, t14, gs_s, gs_s, gt_t (by rw [k_mT_wR]; exact t18), k_mN_wR, (t21 h60).2.1, inb_nj (by omega), gd_t (decide_eq_true (by omega)), gt_t (by rw [k_mT_wR]; exact t18), inb_nj (by omega), gd_t (decide_eq_true (by omega)), k_aR_wR (show ta k + 2 ≠ ta k + 1 by omega), e2, go_s (by rw [k_mT_wR]; exact hI2), vb_e, vb_e]
    exact f1
theorem P_drop_e (L : Lk fa ta ia sa ca od p D) (T : Top p) (hk : k < D.2.1) (h60 : D.1 8 k = 0 ∨ D.1 8 k = 3) (hR : RowsP ta ia p k S) (hW : WRow D S.1) (hl : S.1.length ≤ 60) (nm : Int32) :
    ∃ p', P_Text_drop (ta k) nm p = some (tI (fnd D nm S.1 0).isSome, p') ∧ RowsP ta ia p' k (match fnd D nm S.1 0 with
      | some j => (S.1.eraseIdx j, S.2)
      | none => S) ∧ FK ta k p p' := by
  obtain ⟨-, t2, -⟩ := L.2.1.2.1 k hk
  unfold P_Text_drop
  rw [P_entryOf_e L hk h60 hR hW hl, bn_s]
  cases c : fnd D nm S.1 0 with
  | none =>
    rw [if_pos (show jo none = -1 from rfl)]
    exact ⟨p, rfl, hR, FK.rfl⟩
  | some x =>
    obtain ⟨-, q, hq, -⟩ := fnd_some c
    rw [Nat.sub_zero] at hq
    have hx := get_mem hq
    have F1 : FK ta k p (sI p 1292 (ta k) (nj (S.1.length - 1))) := ⟨Ch.rfl.sI (by decide), rfl, rfl, fun x _ hx => ⟨by rw [k_mI_sI_e, up1_ne hx], by rw [k_mI_sI (by omega)], by rw [k_mI_sI (by omega)]⟩⟩
    obtain ⟨p', f1, f3, f4, f6⟩ := P_drop_25_e hk h60 hW hl hx (S.1.length - 1 - x) x FU (sI p 1292 (ta k) (nj (S.1.length - 1))) (F1.lk L T hk) (T.same rfl rfl) (Nat.le_refl _) (by omega) (by unfold FU; omega) (by rw [k_mI_sI_e, up1_eq]) (fun y q' hy hyx => by
      rw [List.getElem?_eraseIdx_of_lt hyx] at hy
      exact hR.2.1 y q' hy) (fun y q' hy _ => hR.2.1 y q' hy)
    rw [if_neg (jo_some (by omega)), gt_t t2, hR.1, vb_e, nj_sub_l (by omega), show jo (some x) = nj x from rfl]
    refine ⟨p', f1, ⟨?_, f3, ?_, ?_⟩, F1.trans f6⟩
    · rw [f4, k_mI_sI_e, up1_eq]
      show _ = nj (S.1.eraseIdx x).length
      rw [List.length_eraseIdx, if_pos hx]
    · rw [f4, k_mI_sI (by omega)]; exact hR.2.2.1
    · rw [f4, k_mI_sI (by omega)]; exact hR.2.2.2
theorem P_classEntry_e (L : Lk fa ta ia sa ca od p D) (hk : k < D.2.1) (h60 : D.1 8 k = 0 ∨ D.1 8 k = 3) (hR : RowsP ta ia p k S) (hW : WRow D S.1) (hl : S.1.length ≤ 60) (nm : Int32) : P_Text_classEntry (ta k) nm p = some (jo (match fnd D nm S.1 0 with
      | some j => if isC D S.1 j = true then some j else none
      | none => none), p) := by
  obtain ⟨-, t2, -, -, -, -, -, -, -, -, -, -, t13, t14, -, -, t17, t18, -, -, t21⟩ := L.2.1.2.1 k hk
  unfold P_Text_classEntry
  rw [P_entryOf_e L hk h60 hR hW hl, bn_s]
  cases c : fnd D nm S.1 0 with
  | none =>
    rw [if_pos (show jo none = -1 from rfl)]
    rfl
  | some x =>
    obtain ⟨-, q, hq, -⟩ := fnd_some c
    rw [Nat.sub_zero] at hq
    have hx := get_mem hq
    have hqm := hW.1 q (List.mem_of_getElem? hq)
    obtain ⟨k1, I1⟩ := itemAt_of L hqm.1
    have eC : (isC D S.1 x = true) = (D.1 15 q.1 = 2) := by
      unfold isC
      rw [hq]
      exact propext decide_eq_true_iff
    have e34 : (D.1 15 q.1 + 32 = 34) = (D.1 15 q.1 = 2) := propext (by grind)
    rw [if_neg (jo_some (by omega)), gt_t t2, t13, gs_s, gt_t t17, (t21 h60).1, show jo (some x) = nj x from rfl, inb_nj (by omega), gd_t (decide_eq_true (by omega)), ix_nj (by omega), (hR.2.1 x q hq).1, gs_s, gt_t I1.2.1, I1.2.2.1]
    show _ = some (jo (if isC D S.1 x = true then some x else none), p)
    by_cases d : D.1 15 q.1 = 2
    · rw [if_pos (by rw [e34]; exact d), if_pos (by rw [eC]; exact d)]; rfl
    · rw [if_neg (by rw [e34]; exact d), if_neg (by rw [eC]; exact d)]; rfl
end Ap
