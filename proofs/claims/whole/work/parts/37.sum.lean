/-! Layer C: both sides reckon a term alike -/
def sg (D : Dt) (c n : Nat) : List Int32 := (List.range' c n).map fun c => encC (D.1 33 c) (D.1 34 c)
theorem sg_succ (D : Dt) (c n : Nat) : sg D c (n + 1) = encC (D.1 33 c) (D.1 34 c) :: sg D (c + 1) n := rfl
theorem segS_sg (D : Dt) (a b : Nat) : segS D a b = sg D a (b - a) := rfl
theorem nj_div {a b : Nat} (ha : a < 2147483648) (hb : b < 2147483648) : nj a / nj b = nj (a / b) := (Int32.ofNat_div ha hb).symm
theorem kd_nj {a : Nat} (ha : a < 2147483648) : kd (nj a) = nj (a / 10000) := nj_div (b := 10000) ha (by omega)
theorem nm_nj {a : Nat} (ha : a < 2147483648) : nm (nj a) = nj (a % 10000) := by
  unfold nm
  rw [show nj a / 10000 = nj (a / 10000) from kd_nj ha, show nj (a / 10000) * 10000 = nj (a / 10000 * 10000) from nj_mul _ _, nj_sub (by omega)]
  congr 1
  omega
theorem enc_0 {v : Nat} (hv : v ≤ 9999) : kd (encC 0 (nj v)) = 3 ∧ nm (encC 0 (nj v)) = nj v := by
  have : encC 0 (nj v) = nj (30000 + v) := by
    unfold encC
    rw [if_pos rfl, nj_l_add]
  rw [this, kd_nj (by omega), nm_nj (by omega), show (30000 + v) / 10000 = 3 by omega, show (30000 + v) % 10000 = v by omega]
  exact ⟨rfl, rfl⟩
theorem enc_1 {v : Nat} (hv : v < 12) : kd (encC 1 (nj v)) = nj (20 + v) := by
  have : encC 1 (nj v) = nj ((20 + v) * 10000) := by
    unfold encC
    rw [if_neg (by decide), if_pos rfl, nj_l_add]
    exact nj_mul _ _
  rw [this, kd_nj (by omega), show (20 + v) * 10000 / 10000 = 20 + v by omega]
theorem enc_2 {k : Nat} {v : Int32} (h1 : 2 ≤ k) (h2 : k ≤ 5) : kd (encC (nj k) v) = nj (k + 4) := by
  have : encC (nj k) v = nj ((k + 4) * 10000) := by
    unfold encC
    rw [if_neg (by rw [nj_eq_l (by omega) (by omega)]; omega), if_neg (by rw [nj_eq_l (by omega) (by omega)]; omega), nj_add_l]
    exact nj_mul _ _
  rw [this, kd_nj (by omega), show (k + 4) * 10000 / 10000 = k + 4 by omega]
theorem pJo_ev {k : Nat} (h1 : 2 ≤ k) (h2 : k ≤ 5) {a b : Int32} (hz : ¬ (nj k = 5 ∧ b = 0)) : pJo (nj (k + 4)) a b = evOp (nj k) a b := by
  have : k = 2 ∨ k = 3 ∨ k = 4 ∨ k = 5 := by omega
  rcases this with rfl | rfl | rfl | rfl
  · rfl
  · rfl
  · rfl
  · have hb : b ≠ 0 := fun h => hz ⟨rfl, h⟩
    show (if b = 0 then 0 else a / b) = a / b
    rw [if_neg hb]
section Sm
variable {D : Dt} {vs : Nat → Int32} {tk : Int32}
theorem fold_seg : ∀ (n c : Nat) (st rest : List Int32) (bz : Bool), wfC D c n st.length → rest.length ≤ 40 →
    ∃ w z, (sg D c n).foldl (pStep vs tk) (st ++ rest, bz) = (w :: rest, z) ∧ (bz = false → (runV D vs st c n = some [w] ∧ z = false) ∨ (runV D vs st c n = none ∧ z = true)) ∧ (bz = true → z = true)
  | 0, c, st, rest, bz, hw, hr => by
    obtain ⟨v, rfl⟩ := List.length_eq_one_iff.mp (show st.length = 1 from hw)
    exact ⟨v, bz, rfl, fun h => Or.inl ⟨rfl, h⟩, fun h => h⟩
  | n + 1, c, st, rest, bz, hw, hr => by
    obtain ⟨hd, hw⟩ := hw
    rw [sg_succ, List.foldl_cons]
    have hlen : (st ++ rest).length < 64 := by rw [List.length_append]; omega
    rcases hw with ⟨k1, ⟨v, v1, v2⟩, hw⟩ | ⟨k1, ⟨v, v1, v2⟩, hw⟩ | ⟨⟨k, k1, k2, k3⟩, hd2, hw⟩
    · have hs : pStep vs tk (st ++ rest, bz) (encC (D.1 33 c) (D.1 34 c)) = ((D.1 34 c :: st) ++ rest, bz) := by
        unfold pStep
        rw [k1, v2, (enc_0 v1).1, (enc_0 v1).2, if_pos (Or.inl rfl), if_pos hlen]
        rfl
      have hr' : runV D vs st c (n + 1) = runV D vs (D.1 34 c :: st) (c + 1) n := if_pos k1
      rw [hs, hr']
      exact fold_seg n (c + 1) (D.1 34 c :: st) rest bz hw hr
    · have hs : pStep vs tk (st ++ rest, bz) (encC (D.1 33 c) (D.1 34 c)) = ((vs (ix (D.1 34 c)) :: st) ++ rest, bz) := by
        unfold pStep
        rw [k1, v2, enc_1 v1, if_pos (Or.inr (Or.inl ⟨by rw [nj_l_le (by omega) (by omega)]; omega, by rw [nj_le_l (by omega) (by omega)]; omega⟩)), if_pos hlen]
        unfold pOpd
        rw [if_neg (by rw [nj_eq_l (by omega) (by omega)]; omega), if_neg (by rw [nj_eq_l (by omega) (by omega)]; omega), nj_sub_l (by omega), show 20 + v - 20 = v by omega]
        rfl
      have hr' : runV D vs st c (n + 1) = runV D vs (vs (ix (D.1 34 c)) :: st) (c + 1) n := by
        show (if _ then _ else if _ then _ else _) = _
        rw [if_neg (by rw [k1]; decide), if_pos k1]
      rw [hs, hr']
      exact fold_seg n (c + 1) (vs (ix (D.1 34 c)) :: st) rest bz hw hr
    · obtain ⟨y, x, st', rfl⟩ : ∃ y x st', st = y :: x :: st' := by
        match st, hd2 with
        | y :: x :: st', _ => exact ⟨y, x, st', rfl⟩
      have n0 : ¬ D.1 33 c = 0 := by rw [k3, nj_eq_l (by omega) (by omega)]; omega
      have n1 : ¬ D.1 33 c = 1 := by rw [k3, nj_eq_l (by omega) (by omega)]; omega
      have hr' : runV D vs (y :: x :: st') c (n + 1) = if D.1 33 c = 5 ∧ y = 0 then none else runV D vs (evOp (D.1 33 c) x y :: st') (c + 1) n := by
        show (if _ then _ else if _ then _ else _) = _
        rw [if_neg n0, if_neg n1]
      have hs : pStep vs tk ((y :: x :: st') ++ rest, bz) (encC (D.1 33 c) (D.1 34 c)) = ((pJo (nj (k + 4)) x y :: st') ++ rest, bz || decide (nj (k + 4) = 9 ∧ y = 0)) := by
        unfold pStep
        rw [k3, enc_2 k1 k2, if_neg (by
          rintro (h | h | h)
          · rw [nj_eq_l (by omega) (by omega)] at h; omega
          · rw [nj_l_le (by omega) (by omega)] at h; omega
          · rw [nj_eq_l (by omega) (by omega)] at h; omega), if_neg (by rw [nj_eq_l (by omega) (by omega)]; omega)]
        show (if 10 ≤ nj (k + 4) ∧ nj (k + 4) ≤ 13 then _ else _) = _
        rw [if_neg (by rw [nj_l_le (by omega) (by omega)]; omega)]
        rfl
      have e9 : decide (nj (k + 4) = 9 ∧ y = 0) = decide (D.1 33 c = 5 ∧ y = 0) := by
        rw [decide_eq_decide, k3, nj_eq_l (by omega) (by omega), nj_eq_l (by omega) (by omega)]
        constructor <;> (rintro ⟨h1, h2⟩; exact ⟨by omega, h2⟩)
      rw [hs, hr', e9]
      have hw' : wfC D (c + 1) n (pJo (nj (k + 4)) x y :: st').length := hw
      obtain ⟨w, z, i1, i2, i3⟩ := fold_seg n (c + 1) (pJo (nj (k + 4)) x y :: st') rest (bz || decide (D.1 33 c = 5 ∧ y = 0)) hw' hr
      refine ⟨w, z, i1, fun hb => ?_, fun hb => i3 (by rw [hb]; rfl)⟩
      subst hb
      by_cases q : D.1 33 c = 5 ∧ y = 0
      · rw [if_pos q]
        exact Or.inr ⟨rfl, i3 (by simp [q])⟩
      · rw [if_neg q]
        rw [pJo_ev k1 k2 (by rw [← k3]; exact q)] at i2
        rw [k3]
        exact i2 (by simp [q])
/-- the class's value of a term is the reference's -/
theorem sum_eq {a b : Nat} (hw : wfC D a (b - a) 0) : pEnd ((segS D a b).foldl (pStep vs tk) ([], false)) = valS D vs a b := by
  obtain ⟨w, z, i1, i2, -⟩ := fold_seg (vs := vs) (tk := tk) (b - a) a [] [] false hw (by simp)
  rw [segS_sg, show (([] : List Int32), false) = (([] : List Int32) ++ [], false) from rfl, i1]
  unfold valS pEnd
  rcases i2 rfl with ⟨h1, h2⟩ | ⟨h1, h2⟩
  · rw [h1, h2]; rfl
  · rw [h1, h2]; rfl
end Sm
