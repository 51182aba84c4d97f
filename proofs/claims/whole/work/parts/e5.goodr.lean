/-! Layer C: a good TEXT, the reference's side -/
/-- what the reference leaves -/
def FinR (r r' : Mem) (x fc s0 nm : Nat) : Prop := mI r' 1553 0 = -1 ∧ mI r' 1584 0 = nj nm ∧ mI r' 1554 0 = nj (x + 1) ∧ mI r' 1601 0 = nj (fc + 1) ∧ mI r' 1612 0 = -1 ∧ mI r' 1627 0 = -1 ∧ Ch [1553, 1584, 1554, 1601, 1612, 1627] [12, 13, 44, 45, 46, 47, 48] nil r r' ∧ mC r' = mC r ∧ mS r' = mS r ∧ (∀ a j, a ≤ 43 → (a ≠ 12 ∧ a ≠ 13 ∨ j ≠ x) → aI r' a j = aI r a j) ∧ (∀ a j, 44 ≤ a → (a = 49 ∨ 50 ≤ a ∨ j ≠ fc) → aI r' a j = aI r a j) ∧ aI r' 12 x = nj fc ∧ aI r' 13 x = (if s0 = 0 then nj x else aI r 13 x) ∧ aI r' 44 fc = nj s0 ∧ aI r' 45 fc = nj x
theorem good_r {r : Mem} {x fc s0 nm : Nat} (h49 : mI r 1549 0 = 0) (h51 : mI r 1551 0 = 0) (h87 : mI r 1587 0 = -1) (h88 : mI r 1588 0 = nj x) (h85 : mI r 1585 0 = nj nm) (h54 : mI r 1554 0 = nj x) (h01 : mI r 1601 0 = nj fc) (hx : x ≤ 23) (hfc : fc < 160) (hs : s0 < 4) (h8 : aI r 8 x = nj s0) : ∃ r', R_read_168 r = some (0, r') ∧ FinR r r' x fc s0 nm := by
  have e0 : (nj s0 = 0) = (s0 = 0) := nj_eq_l (by omega) (by omega)
  have hix : ix (nj x) = x := ix_nj (by omega)
  have gx : inb (nj x) 25 = true := by rw [inb_nj (by omega)]; exact decide_eq_true (by omega)
  unfold R_read_168 R_read_200 R_read_230
  rw [if_pos h49, if_pos h51, if_pos h87, if_pos (show mI r 1549 0 ≤ 0 by rw [h49]; decide), if_pos (show mI r 1551 0 ≤ 0 by rw [h51]; decide), vb_e]
  have o : ∀ f, f ≠ 1553 → mI (sI r 1553 0 (-1)) f = mI r f := fun f hf => k_mI_sI hf
  rw [o 1549 (by omega), o 1551 (by omega), if_pos (show mI r 1549 0 ≤ 0 by rw [h49]; decide), if_pos (show mI r 1551 0 ≤ 0 by rw [h51]; decide), o 1585 (by omega), h85, vb_e]
  have o2 : ∀ f, f ≠ 1553 → f ≠ 1584 → mI (sI (sI r 1553 0 (-1)) 1584 0 (nj nm)) f = mI r f := fun f f1 f2 => by rw [k_mI_sI f2, k_mI_sI f1]
  rw [o2 1588 (by omega) (by omega), o2 1601 (by omega) (by omega), h88, h01, gd_t gx, vb_e, k_mI_wI, o2 1588 (by omega) (by omega), h88, gd_t gx, hix, k_aI_wI (show 8 ≠ 12 by omega), k_aI_sI, k_aI_sI, h8, gd_t gx, vb_e]
  have body : ∀ q : Mem, (∀ f, f ≠ 1553 → f ≠ 1584 → mI q f = mI r f) → mI q 1553 0 = -1 → mI q 1584 0 = nj nm → Ch [1553, 1584] [12, 13] nil r q → mC q = mC r → mS q = mS r → (∀ a j, (a ≠ 12 ∧ a ≠ 13 ∨ j ≠ x) → aI q a j = aI r a j) → aI q 12 x = nj fc → aI q 13 x = (if s0 = 0 then nj x else aI r 13 x) → ∃ r', R_read_303 q = some (0, r') ∧ FinR r r' x fc s0 nm := by
    intro q q1 q2 q3 q4 q5 q6 q7 q8 q9
    have e8 : aI (sI q 1554 0 (nj (x + 1))) 8 x = nj s0 := by rw [k_aI_sI, q7 8 x (Or.inl (by omega))]; exact h8
    have e01 : mI (sI q 1554 0 (nj (x + 1))) 1601 0 = nj fc := by rw [k_mI_sI (by omega), q1 1601 (by omega) (by omega)]; exact h01
    have e88 : mI (sI q 1554 0 (nj (x + 1))) 1588 0 = nj x := by rw [k_mI_sI (by omega), q1 1588 (by omega) (by omega)]; exact h88
    unfold R_read_303
    rw [q1 1554 (by omega) (by omega), h54, nj_add_l, vb_e, e88, gd_t gx, hix, e8, R_fact_e e01 hfc, bn_s]
    obtain ⟨t1, t2, t3, t4⟩ := tldR_f (r := sI q 1554 0 (nj (x + 1))) (fc := fc) (s := nj s0) (a := nj x) (b := 0) (c := 0) (v := 0)
    have C := tldR_Ch (r := sI q 1554 0 (nj (x + 1))) (fc := fc) (s := nj s0) (a := nj x) (b := 0) (c := 0) (v := 0)
    have of : ∀ f, f ≠ 1601 → f ≠ 1612 → f ≠ 1627 → mI (tldR (sI q 1554 0 (nj (x + 1))) fc (nj s0) (nj x) 0 0 0) f = mI (sI q 1554 0 (nj (x + 1))) f := fun f f1 f2 f3 => by
      unfold tldR
      rw [k_mI_sI f3, k_mI_sI f2, k_mI_sI f1, k_mI_wI, k_mI_wI, k_mI_wI, k_mI_wI, k_mI_wI]
    have oa : ∀ a j, (a < 44 ∨ 48 < a ∨ j ≠ fc) → aI (tldR (sI q 1554 0 (nj (x + 1))) fc (nj s0) (nj x) 0 0 0) a j = aI q a j := fun a j h => by
      unfold tldR
      rw [k_aI_sI, k_aI_sI, k_aI_sI, wI_lo (by omega), wI_lo (by omega), wI_lo (by omega), wI_lo (by omega), wI_lo (by omega), k_aI_sI]
    have e44 : aI (tldR (sI q 1554 0 (nj (x + 1))) fc (nj s0) (nj x) 0 0 0) 44 fc = nj s0 := by
      unfold tldR
      rw [k_aI_sI, k_aI_sI, k_aI_sI, k_aI_wI (by omega), k_aI_wI (by omega), k_aI_wI (by omega), k_aI_wI (by omega), k_aI_wI_e, up1_ap, if_pos rfl]
    have e45 : aI (tldR (sI q 1554 0 (nj (x + 1))) fc (nj s0) (nj x) 0 0 0) 45 fc = nj x := by
      unfold tldR
      rw [k_aI_sI, k_aI_sI, k_aI_sI, k_aI_wI (by omega), k_aI_wI (by omega), k_aI_wI (by omega), k_aI_wI_e, up1_ap, if_pos rfl]
    have eS : mS (tldR (sI q 1554 0 (nj (x + 1))) fc (nj s0) (nj x) 0 0 0) = mS q := by
      unfold tldR
      simp only [k_aI_wI_e, k_aI_wI, k_aI_wL, k_aI_wR, k_aI_sI, k_aI_sL, k_aI_sR, k_aI_nw, k_aL_wL_e, k_aL_wL, k_aL_wI, k_aL_wR, k_aL_sI, k_aL_sL, k_aL_sR, k_aL_nw, k_aR_wR_e, k_aR_wR, k_aR_wI, k_aR_wL, k_aR_sI, k_aR_sL, k_aR_sR, k_aR_nw, k_mI_sI_e, k_mI_sI, k_mI_wI, k_mI_wL, k_mI_wR, k_mI_sL, k_mI_sR, k_mI_nw, k_mL_sL_e, k_mL_sL, k_mL_wI, k_mL_wL, k_mL_wR, k_mL_sI, k_mL_sR, k_mL_nw, k_mR_sR_e, k_mR_sR, k_mR_wI, k_mR_wL, k_mR_wR, k_mR_sI, k_mR_sL, k_mR_nw, k_mT_wI, k_mT_wL, k_mT_wR, k_mT_sI, k_mT_sL, k_mT_sR, k_mT_nw, k_mN_wI, k_mN_wL, k_mN_wR, k_mN_sI, k_mN_sL, k_mN_sR, k_mN_nw, k_mC_wI, k_mC_wL, k_mC_wR, k_mC_sI, k_mC_sL, k_mC_sR, k_mC_nw, k_mS_wI, k_mS_wL, k_mS_wR, k_mS_sI, k_mS_sL, k_mS_sR, k_mS_nw, k_zF_1, k_zF_3, k_zF_11, k_zF_32, k_zF_36, k_zA_1, k_zA_3, k_zA_11, k_zA_32, k_zA_36, k_mT_fil, k_mN_fil, k_mI_fil, k_mL_fil, k_mR_fil, k_aL_fil, k_aR_fil, k_mC_fil, k_mS_fil, k_aI_fil_e, k_aI_fil]
    generalize tldR (sI q 1554 0 (nj (x + 1))) fc (nj s0) (nj x) 0 0 0 = r' at *
    refine ⟨r', rfl, ?_, ?_, ?_, t1, t2, t3, Ch.trans (Ch.trans (q4.mono (by decide) (by decide) (fun _ w => w)) ((Ch.rfl.sI (by decide)))) (C.mono (by decide) (by decide) (fun _ w => w)), ?_, by rw [eS]; exact q6, fun a j h1 h2 => by rw [oa a j (Or.inl (by omega))]; exact q7 a j h2, fun a j h1 h2 => ?_, by rw [oa 12 x (Or.inl (by omega))]; exact q8, by rw [oa 13 x (Or.inl (by omega))]; exact q9, e44, e45⟩
    · rw [of 1553 (by omega) (by omega) (by omega), k_mI_sI (by omega)]; exact q2
    · rw [of 1584 (by omega) (by omega) (by omega), k_mI_sI (by omega)]; exact q3
    · rw [of 1554 (by omega) (by omega) (by omega), k_mI_sI_e, up1_ap, if_pos rfl]
    · rw [t4, k_mC_sI]; exact q5
    · rw [oa a j (by omega)]; exact q7 a j (Or.inl (by omega))
  have eI : ∀ q : Mem, mI q = mI (sI (sI r 1553 0 (-1)) 1584 0 (nj nm)) → (∀ f, f ≠ 1553 → f ≠ 1584 → mI q f = mI r f) ∧ mI q 1553 0 = -1 ∧ mI q 1584 0 = nj nm := fun q hq => by
    rw [hq]
    exact ⟨o2, by rw [k_mI_sI (by omega), k_mI_sI_e, up1_ap, if_pos rfl], by rw [k_mI_sI_e, up1_ap, if_pos rfl]⟩
  have C12 : Ch [1553, 1584] [12, 13] nil r (wI (sI (sI r 1553 0 (-1)) 1584 0 (nj nm)) 12 x (nj fc)) := ((Ch.rfl.sI (by decide)).sI (by decide)).wI (Or.inl (by decide))
  by_cases z : s0 = 0
  · rw [if_pos (e0.mpr z)]
    obtain ⟨i1, i2, i3⟩ := eI (wI (wI (sI (sI r 1553 0 (-1)) 1584 0 (nj nm)) 12 x (nj fc)) 13 x (nj x)) (by rw [k_mI_wI, k_mI_wI])
    refine body _ i1 i2 i3 (C12.wI (Or.inl (by decide))) (by rw [k_mC_wI, k_mC_wI, k_mC_sI, k_mC_sI]) (by rw [k_mS_wI, k_mS_wI, k_mS_sI, k_mS_sI]) (fun a j h => by rw [wI_lo (by omega), wI_lo (by omega), k_aI_sI, k_aI_sI]) (by rw [k_aI_wI (by omega), k_aI_wI_e, up1_ap, if_pos rfl]) (by rw [k_aI_wI_e, up1_ap, if_pos rfl, if_pos z])
  · rw [if_neg (fun w => z (e0.mp w))]
    obtain ⟨i1, i2, i3⟩ := eI (wI (sI (sI r 1553 0 (-1)) 1584 0 (nj nm)) 12 x (nj fc)) (by rw [k_mI_wI])
    refine body _ i1 i2 i3 C12 (by rw [k_mC_wI, k_mC_sI, k_mC_sI]) (by rw [k_mS_wI, k_mS_sI, k_mS_sI]) (fun a j h => by rw [wI_lo (by omega), k_aI_sI, k_aI_sI]) (by rw [k_aI_wI_e, up1_ap, if_pos rfl]) (by rw [k_aI_wI (by omega), k_aI_sI, k_aI_sI, if_neg z])
theorem msk_mono {x a j : Nat} (h : msk x a j = true) : msk (x + 1) a j = true := by
  unfold msk at h ⊢
  by_cases h8 : a < 8
  · rw [if_pos h8] at h; cases h
  · rw [if_neg h8] at h ⊢
    by_cases h14 : a ≤ 14
    · rw [if_pos h14] at h ⊢
      exact decide_eq_true (by have := of_decide_eq_true h; omega)
    · rw [if_neg h14] at h ⊢
      by_cases h25 : a ≤ 25
      · rw [if_pos h25] at h ⊢
        exact decide_eq_true (by have := of_decide_eq_true h; omega)
      · rw [if_neg h25] at h ⊢
        by_cases h26 : a = 26
        · rw [if_pos h26] at h ⊢
          exact decide_eq_true (by have := of_decide_eq_true h; omega)
        · rw [if_neg h26] at h ⊢
          by_cases h32 : a ≤ 32
          · rw [if_pos h32] at h ⊢
            exact decide_eq_true (by have := of_decide_eq_true h; omega)
          · rw [if_neg h32] at h ⊢
            by_cases h34 : a ≤ 34
            · rw [if_pos h34] at h ⊢
              exact decide_eq_true (by have := of_decide_eq_true h; omega)
            · rw [if_neg h34] at h ⊢
              exact h
theorem msk_x {x a : Nat} (h : msk x a x = true) (h1 : 8 ≤ a) (h2 : a ≤ 14) : False := by
  unfold msk at h
  rw [if_neg (by omega), if_pos h2] at h
  have := of_decide_eq_true h
  omega
theorem msk_f {x a j : Nat} (h1 : 44 ≤ a) (h2 : a ≤ 49) : msk x a j = true := by
  unfold msk
  rw [if_neg (by omega), if_neg (by omega), if_neg (by omega), if_neg (by omega), if_neg (by omega), if_neg (by omega)]
  exact decide_eq_true (by omega)
theorem dat_at {r : Mem} {x a j : Nat} (h : mI r 1554 0 = nj x) (hx : x ≤ 24) (hm : msk x a j = true) : (dat r).1 a j = aI r a j := by
  show (if msk (ix (mI r 1554 0)) a j = true then aI r a j else 0) = _
  rw [h, ix_nj (by omega), if_pos hm]
/-- the new data -/
theorem good_d {r0 r r' : Mem} {x fc s0 nm : Nat} (hx : x ≤ 23) (hfc : fc < 160) (h54 : mI r0 1554 0 = nj x) (h01 : mI r0 1601 0 = nj fc) (hk : ∀ a j, msk x a j = true → aI r a j = aI r0 a j) (F : FinR r r' x fc s0 nm) : Nx (dat r0) (dat r') x fc ∧ Rw r (dat r') x ∧ (dat r').1 12 x = nj fc ∧ (dat r').1 13 x = (if s0 = 0 then nj x else aI r 13 x) ∧ (dat r').1 44 fc = nj s0 ∧ (dat r').1 45 fc = nj x := by
  obtain ⟨f1, f2, f3, f4, f5, f6, f7, f8, f9, f10, f11, f12, f13, f14, f15⟩ := F
  have dN : ∀ a j, msk (x + 1) a j = true → (dat r').1 a j = aI r' a j := fun a j hm => dat_at f3 (by omega) hm
  have dO : ∀ a j, msk x a j = true → (dat r0).1 a j = aI r0 a j := fun a j hm => dat_at h54 (by omega) hm
  refine ⟨⟨by show ix (mI r0 1554 0) = x; rw [h54, ix_nj (by omega)], by show ix (mI r' 1554 0) = x + 1; rw [f3, ix_nj (by omega)], by show ix (mI r0 1601 0) = fc; rw [h01, ix_nj (by omega)], by show ix (mI r' 1601 0) = fc + 1; rw [f4, ix_nj (by omega)], fun a j ha hm => ?_, fun a j h1 h2 h3 => ?_, hx, hfc⟩, ⟨by show ix (mI r' 1554 0) = x + 1; rw [f3, ix_nj (by omega)], hx, fun a j h1 h2 h3 hm => ?_⟩, ?_, ?_, ?_, ?_⟩
  · rw [dN a j (msk_mono hm), dO a j hm, f10 a j (by omega) ?_, hk a j hm]
    by_cases z : a = 12 ∨ a = 13
    · right
      rintro rfl
      exact msk_x hm (by omega) (by omega)
    · left; omega
  · rw [dN a j (msk_f h1 h2), dO a j (msk_f h1 h2), f11 a j h1 (by omega), hk a j (msk_f h1 h2)]
  · rw [dN a j hm, f10 a j (by omega) (Or.inl ⟨h2, h3⟩)]
  · rw [dN 12 x (msk_t (by omega) (by omega) (by omega))]; exact f12
  · rw [dN 13 x (msk_t (by omega) (by omega) (by omega))]; exact f13
  · rw [dN 44 fc (msk_f (by omega) (by omega))]; exact f14
  · rw [dN 45 fc (msk_f (by omega) (by omega))]; exact f15
