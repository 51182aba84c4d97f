/-! Layer C: the reference's next parting and its loop over them -/
def RJ (m m' : Mem) : Prop := Ch [] [78] nil m m' ∧ mC m' = mC m ∧ mS m' = mS m
def RK (m m' : Mem) : Prop := Ch [] [78, 79, 80, 81] nil m m' ∧ mC m' = mC m ∧ mS m' = mS m
theorem RK.rfl {m : Mem} : RK m m := ⟨Ch.rfl, Eq.refl _, Eq.refl _⟩
theorem RK.trans {m m1 m2 : Mem} (h : RK m m1) (k : RK m1 m2) : RK m m2 := ⟨h.1.trans k.1, k.2.1.trans h.2.1, k.2.2.trans h.2.2⟩
theorem RH.rk {m m' : Mem} (h : RH m m') : RK m m' := ⟨h.1.mono (by decide) (by decide) (fun _ z => z), h.2⟩
theorem RJ.rk {m m' : Mem} (h : RJ m m') : RK m m' := ⟨h.1.mono (by decide) (by decide) (fun _ z => z), h.2⟩
section Nr
variable {m : Mem} {s : Nat} {L : List Nat} {mb tv : Nat → Nat} {ap : Nat → Nat → Bool}
theorem BQ_rj {m' : Mem} {B : BW} {x5 x6 : Int32} (h : BQ x5 x6 m s B) (h60 : 82 ≤ mC m) (k : RJ m m') : BQ x5 x6 m' s B := by
  have e49 := (k.1.2.2.2 80 (by decide) (fun z => z) (by omega)).1
  have e50 := (k.1.2.2.2 81 (by decide) (fun z => z) (by omega)).1
  cases B with
  | none => exact h
  | some b =>
    unfold BQ at h ⊢
    rw [e49, e50]
    exact h
theorem R_nextParting_71_e (hs : s ≤ 7) : ∀ (k j fu : Nat) (m : Mem), j + k = s → k < fu → ∃ m', R_nextParting_71 fu (nj s) (nj j) m = some (1, m') ∧ RJ m m' ∧ ∀ i, aI m' 78 i = if j ≤ i ∧ i < s then nj 0 else aI m 78 i
  | 0, j, fu + 1, m, h1, _ => by
    rw [R_nextParting_71.eq_2, if_pos (by rw [nj_le (by omega) (by omega)]; omega)]
    exact ⟨m, rfl, ⟨Ch.rfl, rfl, rfl⟩, fun i => by rw [if_neg (by omega)]⟩
  | k + 1, j, fu + 1, m, h1, h2 => by
    rw [R_nextParting_71.eq_2, if_neg (by rw [nj_le (by omega) (by omega)]; omega), inb_nj (by omega), gd_t (decide_eq_true (by omega)), vb_e, vb_e, nj_add_l, ix_nj (by omega)]
    obtain ⟨m', i1, i2, i3⟩ := R_nextParting_71_e hs k (j + 1) fu (wI m 78 j 0) (by omega) (by omega)
    refine ⟨m', i1, ⟨Ch.trans (Ch.rfl.wI (Or.inl (by decide))) i2.1, i2.2.1.trans (by simp only [k_aI_wI_e, k_aI_wI, k_aI_wL, k_aI_wR, k_aI_sI, k_aI_sL, k_aI_sR, k_aI_nw, k_aL_wL_e, k_aL_wL, k_aL_wI, k_aL_wR, k_aL_sI, k_aL_sL, k_aL_sR, k_aL_nw, k_aR_wR_e, k_aR_wR, k_aR_wI, k_aR_wL, k_aR_sI, k_aR_sL, k_aR_sR, k_aR_nw, k_mI_sI_e, k_mI_sI, k_mI_wI, k_mI_wL, k_mI_wR, k_mI_sL, k_mI_sR, k_mI_nw, k_mL_sL_e, k_mL_sL, k_mL_wI, k_mL_wL, k_mL_wR, k_mL_sI, k_mL_sR, k_mL_nw, k_mR_sR_e, k_mR_sR, k_mR_wI, k_mR_wL, k_mR_wR, k_mR_sI, k_mR_sL, k_mR_nw, k_mT_wI, k_mT_wL, k_mT_wR, k_mT_sI, k_mT_sL, k_mT_sR, k_mT_nw, k_mN_wI, k_mN_wL, k_mN_wR, k_mN_sI, k_mN_sL, k_mN_sR, k_mN_nw, k_mC_wI, k_mC_wL, k_mC_wR, k_mC_sI, k_mC_sL, k_mC_sR, k_mC_nw, k_mS_wI, k_mS_wL, k_mS_wR, k_mS_sI, k_mS_sL, k_mS_sR, k_mS_nw, k_zF_1, k_zF_3, k_zF_11, k_zF_32, k_zF_36, k_zA_1, k_zA_3, k_zA_11, k_zA_32, k_zA_36, k_mT_fil, k_mN_fil, k_mI_fil, k_mL_fil, k_mR_fil, k_aL_fil, k_aR_fil, k_mC_fil, k_mS_fil, k_aI_fil_e, k_aI_fil]), i2.2.2.trans (by simp only [k_aI_wI_e, k_aI_wI, k_aI_wL, k_aI_wR, k_aI_sI, k_aI_sL, k_aI_sR, k_aI_nw, k_aL_wL_e, k_aL_wL, k_aL_wI, k_aL_wR, k_aL_sI, k_aL_sL, k_aL_sR, k_aL_nw, k_aR_wR_e, k_aR_wR, k_aR_wI, k_aR_wL, k_aR_sI, k_aR_sL, k_aR_sR, k_aR_nw, k_mI_sI_e, k_mI_sI, k_mI_wI, k_mI_wL, k_mI_wR, k_mI_sL, k_mI_sR, k_mI_nw, k_mL_sL_e, k_mL_sL, k_mL_wI, k_mL_wL, k_mL_wR, k_mL_sI, k_mL_sR, k_mL_nw, k_mR_sR_e, k_mR_sR, k_mR_wI, k_mR_wL, k_mR_wR, k_mR_sI, k_mR_sL, k_mR_nw, k_mT_wI, k_mT_wL, k_mT_wR, k_mT_sI, k_mT_sL, k_mT_sR, k_mT_nw, k_mN_wI, k_mN_wL, k_mN_wR, k_mN_sI, k_mN_sL, k_mN_sR, k_mN_nw, k_mC_wI, k_mC_wL, k_mC_wR, k_mC_sI, k_mC_sL, k_mC_sR, k_mC_nw, k_mS_wI, k_mS_wL, k_mS_wR, k_mS_sI, k_mS_sL, k_mS_sR, k_mS_nw, k_zF_1, k_zF_3, k_zF_11, k_zF_32, k_zF_36, k_zA_1, k_zA_3, k_zA_11, k_zA_32, k_zA_36, k_mT_fil, k_mN_fil, k_mI_fil, k_mL_fil, k_mR_fil, k_aL_fil, k_aR_fil, k_mC_fil, k_mS_fil, k_aI_fil_e, k_aI_fil])⟩, fun i => ?_⟩
    rw [i3, k_aI_wI_e, up1_ap]
    by_cases z : i = j
    · rw [if_neg (by omega), if_pos z, if_pos (by omega)]
      rfl
    · by_cases y : j + 1 ≤ i ∧ i < s
      · rw [if_pos y, if_pos (by omega)]
      · rw [if_neg y, if_neg z, if_neg (by omega)]
theorem R_nextParting_13_e (h : RR m s L mb tv ap) {n : Nat} (hn : n < s) {k4 : Int32 → Int32 → Mem → Option (Int32 × Mem)} {x1 : Int32} : ∀ (k j fu : Nat), j + k = n → k < fu → R_nextParting_13 k4 fu x1 (nj n) (nj (mxL L j)) (nj j) m = R_nextParting_46 k4 x1 (nj n) (nj (mxL L n)) m
  | 0, j, fu + 1, h1, _ => by
    rw [R_nextParting_13.eq_2, if_pos (by rw [nj_le (by have := h.1; omega) (by have := h.1; omega)]; omega), show j = n by omega]
  | k + 1, j, fu + 1, h1, h2 => by
    have hs := h.1
    have hj := h.2.1 j (by omega)
    have hm := mxL_le h.le j (by omega)
    have ih := R_nextParting_13_e h hn (k4 := k4) (x1 := x1) k (j + 1) fu (by omega) (by omega)
    have e : mxL L (j + 1) = max (mxL L j) (L.getD j 0 + 1) := rfl
    have g : ∀ {β : Type} (z : Option β), gd (inb (nj j) 7) z = z := fun z => by rw [inb_nj (by omega), gd_t (decide_eq_true (by omega))]
    have ez : (nj (L.getD j 0) < nj (mxL L j)) = (L.getD j 0 < mxL L j) := nj_lt (by omega) (by omega)
    rw [R_nextParting_13.eq_2, if_neg (by rw [nj_le (by omega) (by omega)]; omega)]
    unfold R_nextParting_40
    simp only [g, ix_nj (show j < 2147483648 by omega), hj.2.2.2, vb_e, nj_add_l, ez]
    by_cases z : L.getD j 0 < mxL L j
    · rw [if_pos z]
      rw [e, Nat.max_eq_left (by omega)] at ih
      exact ih
    · rw [if_neg z]
      rw [e, Nat.max_eq_right (by omega)] at ih
      exact ih
theorem R_nextParting_4_e (h : RR m s L mb tv ap) (h60 : 82 ≤ mC m) : ∀ (j fu : Nat), j < s → j < fu →
    (nxA s L j = none ∧ R_nextParting_4 fu (nj s) (nj j) m = some (0, m)) ∨ ∃ L' m', nxA s L j = some L' ∧ R_nextParting_4 fu (nj s) (nj j) m = some (1, m') ∧ RJ m m' ∧ RR m' s L' mb tv ap
  | 0, fu + 1, _, _ => by
    left
    rw [R_nextParting_4.eq_2, if_pos (by decide)]
    exact ⟨rfl, rfl⟩
  | j + 1, fu + 1, h1, h2 => by
    have hs := h.1
    have hm := mxL_le h.le (j + 1) (by omega)
    have hj := h.2.1 (j + 1) h1
    have e : nxA s L (j + 1) = if mxL L (j + 1) ≤ L.getD (j + 1) 0 then nxA s L j else some (bmp s L (j + 1)) := rfl
    have ey : (nj (mxL L (j + 1)) ≤ nj (L.getD (j + 1) 0)) = (mxL L (j + 1) ≤ L.getD (j + 1) 0) := nj_le (by omega) (by omega)
    have e13 : R_nextParting_13 (fun z0 z1 z2 => R_nextParting_4 fu z0 z1 z2) FU (nj s) (nj (j + 1)) 0 0 m = R_nextParting_46 (fun z0 z1 z2 => R_nextParting_4 fu z0 z1 z2) (nj s) (nj (j + 1)) (nj (mxL L (j + 1))) m := R_nextParting_13_e h h1 (j + 1) 0 FU (by omega) (by unfold FU; omega)
    rw [R_nextParting_4.eq_2, if_neg (by rw [nj_le_l (by omega) (by omega)]; omega), e13]
    unfold R_nextParting_46
    rw [inb_nj (by omega), gd_t (decide_eq_true (by omega)), ix_nj (by omega), hj.2.2.2, vb_e, nj_m1 (by omega), e]
    simp only [ey]
    by_cases z : mxL L (j + 1) ≤ L.getD (j + 1) 0
    · rw [if_pos z, if_pos z]
      exact R_nextParting_4_e h h60 j fu (by omega) (by omega)
    · rw [if_neg z, if_neg z]
      right
      unfold R_nextParting_56
      rw [inb_nj (by omega), gd_t (decide_eq_true (by omega)), gd_t (decide_eq_true (by omega)), vb_e, vb_e, ix_nj (by omega), hj.2.2.2, nj_add_l, nj_add_l]
      obtain ⟨m', i1, i2, i3⟩ := R_nextParting_71_e hs (s - (j + 1 + 1)) (j + 1 + 1) FU (wI m 78 (j + 1) (nj (L.getD (j + 1) 0 + 1))) (by omega) (by unfold FU; omega)
      have pj : RJ m m' := ⟨Ch.trans (Ch.rfl.wI (Or.inl (by decide))) i2.1, i2.2.1.trans (by simp only [k_aI_wI_e, k_aI_wI, k_aI_wL, k_aI_wR, k_aI_sI, k_aI_sL, k_aI_sR, k_aI_nw, k_aL_wL_e, k_aL_wL, k_aL_wI, k_aL_wR, k_aL_sI, k_aL_sL, k_aL_sR, k_aL_nw, k_aR_wR_e, k_aR_wR, k_aR_wI, k_aR_wL, k_aR_sI, k_aR_sL, k_aR_sR, k_aR_nw, k_mI_sI_e, k_mI_sI, k_mI_wI, k_mI_wL, k_mI_wR, k_mI_sL, k_mI_sR, k_mI_nw, k_mL_sL_e, k_mL_sL, k_mL_wI, k_mL_wL, k_mL_wR, k_mL_sI, k_mL_sR, k_mL_nw, k_mR_sR_e, k_mR_sR, k_mR_wI, k_mR_wL, k_mR_wR, k_mR_sI, k_mR_sL, k_mR_nw, k_mT_wI, k_mT_wL, k_mT_wR, k_mT_sI, k_mT_sL, k_mT_sR, k_mT_nw, k_mN_wI, k_mN_wL, k_mN_wR, k_mN_sI, k_mN_sL, k_mN_sR, k_mN_nw, k_mC_wI, k_mC_wL, k_mC_wR, k_mC_sI, k_mC_sL, k_mC_sR, k_mC_nw, k_mS_wI, k_mS_wL, k_mS_wR, k_mS_sI, k_mS_sL, k_mS_sR, k_mS_nw, k_zF_1, k_zF_3, k_zF_11, k_zF_32, k_zF_36, k_zA_1, k_zA_3, k_zA_11, k_zA_32, k_zA_36, k_mT_fil, k_mN_fil, k_mI_fil, k_mL_fil, k_mR_fil, k_aL_fil, k_aR_fil, k_mC_fil, k_mS_fil, k_aI_fil_e, k_aI_fil]), i2.2.2.trans (by simp only [k_aI_wI_e, k_aI_wI, k_aI_wL, k_aI_wR, k_aI_sI, k_aI_sL, k_aI_sR, k_aI_nw, k_aL_wL_e, k_aL_wL, k_aL_wI, k_aL_wR, k_aL_sI, k_aL_sL, k_aL_sR, k_aL_nw, k_aR_wR_e, k_aR_wR, k_aR_wI, k_aR_wL, k_aR_sI, k_aR_sL, k_aR_sR, k_aR_nw, k_mI_sI_e, k_mI_sI, k_mI_wI, k_mI_wL, k_mI_wR, k_mI_sL, k_mI_sR, k_mI_nw, k_mL_sL_e, k_mL_sL, k_mL_wI, k_mL_wL, k_mL_wR, k_mL_sI, k_mL_sR, k_mL_nw, k_mR_sR_e, k_mR_sR, k_mR_wI, k_mR_wL, k_mR_wR, k_mR_sI, k_mR_sL, k_mR_nw, k_mT_wI, k_mT_wL, k_mT_wR, k_mT_sI, k_mT_sL, k_mT_sR, k_mT_nw, k_mN_wI, k_mN_wL, k_mN_wR, k_mN_sI, k_mN_sL, k_mN_sR, k_mN_nw, k_mC_wI, k_mC_wL, k_mC_wR, k_mC_sI, k_mC_sL, k_mC_sR, k_mC_nw, k_mS_wI, k_mS_wL, k_mS_wR, k_mS_sI, k_mS_sL, k_mS_sR, k_mS_nw, k_zF_1, k_zF_3, k_zF_11, k_zF_32, k_zF_36, k_zA_1, k_zA_3, k_zA_11, k_zA_32, k_zA_36, k_mT_fil, k_mN_fil, k_mI_fil, k_mL_fil, k_mR_fil, k_aL_fil, k_aR_fil, k_mC_fil, k_mS_fil, k_aI_fil_e, k_aI_fil])⟩
      have e46 := (pj.1.2.2.2 77 (by decide) (fun z => z) (by omega)).1
      have e42 := (pj.1.2.2.2 73 (by decide) (fun z => z) (by omega)).1
      have e43 := (pj.1.2.2.2 74 (by decide) (fun z => z) (by omega)).1
      refine ⟨_, m', rfl, i1, pj, hs, fun i hi => ?_, ?_⟩
      · have hi' := h.2.1 i hi
        rw [e46, bmp_at hi, i3, k_aI_wI_e, up1_ap]
        refine ⟨hi'.1, hi'.2.1, ?_, ?_⟩
        · by_cases c1 : i < j + 1
          · rw [if_pos c1]
            exact hi'.2.2.1
          · rw [if_neg c1]
            by_cases c2 : i = j + 1
            · rw [if_pos c2, c2]
              omega
            · rw [if_neg c2]
              omega
        · by_cases c1 : i < j + 1
          · rw [if_pos c1, if_neg (by omega), if_neg (by omega)]
            exact hi'.2.2.2
          · rw [if_neg c1]
            by_cases c2 : i = j + 1
            · rw [if_neg (by omega), if_pos c2, if_pos c2, c2]
            · rw [if_pos (show j + 1 + 1 ≤ i ∧ i < s by omega), if_neg c2]
      · rw [e42, e43]
        exact h.2.2
theorem R_nextParting_e (h : RR m s L mb tv ap) (h60 : 82 ≤ mC m) (h0 : 0 < s) :
    (nxA s L (s - 1) = none ∧ R_nextParting (nj s) m = some (0, m)) ∨ ∃ L' m', nxA s L (s - 1) = some L' ∧ R_nextParting (nj s) m = some (1, m') ∧ RJ m m' ∧ RR m' s L' mb tv ap := by
  have hs := h.1
  unfold R_nextParting
  rw [vb_e, nj_sub_l (by omega)]
  exact R_nextParting_4_e h h60 (s - 1) FU (by omega) (by unfold FU; omega)
end Nr
section Dr
variable {s : Nat} {mb tv : Nat → Nat} {ap : Nat → Nat → Bool}
theorem R_parting_119_e {k d : Nat} (hd : d < 1000) (hk : k < 100) (htv : ∀ i, tv (mb i) < 1000) (h0 : 0 < s) : ∀ (n fu : Nat) (L : List Nat) (B : BW) (x5 x6 : Int32) (m : Mem), endsIn s n L = true → n < fu → RR m s L mb tv ap → 82 ≤ mC m → BQ x5 x6 m s B →
    ∃ m' L' y5 y6, R_parting_119 fu (nj k) (nj d) (nj s) x5 x6 1 m = R_parting_330 (nj s) y5 m' ∧ RK m m' ∧ RR m' s L' mb tv ap ∧ BQ y5 y6 m' s (ways s (fun i => tv (mb i)) (fun a b => ap (mb a) (mb b)) d k n L B)
  | 0, fu, L, B, x5, x6, m, he, _, _, _, _ => by cases he
  | n + 1, fu + 1, L, B, x5, x6, m, he, h2, h, h60, hB => by
    have hs := h.1
    rw [R_parting_119.eq_2, if_neg (by decide)]
    obtain ⟨m1, y5, y6, a1, a2, a3⟩ := R_weigh_e (k119 := fun z0 z1 z2 z3 z4 z5 z6 => R_parting_119 fu z0 z1 z2 z3 z4 z5 z6) hd hk htv h h60 hB
    rw [a1]
    unfold R_parting_319
    have p1 := RR_rh h h60 a2
    have c1 : 82 ≤ mC m1 := by rw [a2.2.1]; exact h60
    have e : ways s (fun i => tv (mb i)) (fun a b => ap (mb a) (mb b)) d k (n + 1) L B = match nxA s L (s - 1) with
      | none => wgh L (fun i => tv (mb i)) (fun a b => ap (mb a) (mb b)) d s k B
      | some L' => ways s (fun i => tv (mb i)) (fun a b => ap (mb a) (mb b)) d k n L' (wgh L (fun i => tv (mb i)) (fun a b => ap (mb a) (mb b)) d s k B) := rfl
    have e2 : endsIn s (n + 1) L = match nxA s L (s - 1) with
      | none => true
      | some L' => endsIn s n L' := rfl
    rcases R_nextParting_e p1 c1 h0 with ⟨z1, z2⟩ | ⟨L', m2, z1, z2, z3, z4⟩
    · rw [z2, bn_s]
      rw [z1] at e e2
      refine ⟨m1, L, y5, y6, ?_, a2.rk, p1, by rw [e]; exact a3⟩
      obtain ⟨fu', rfl⟩ : ∃ fu', fu = fu' + 1 := ⟨fu - 1, by omega⟩
      show R_parting_119 (fu' + 1) (nj k) (nj d) (nj s) y5 y6 0 m1 = _
      rw [R_parting_119.eq_2, if_pos rfl]
    · rw [z2, bn_s]
      rw [z1] at e e2
      rw [e2] at he
      obtain ⟨m', L2, w5, w6, i1, i2, i3, i4⟩ := R_parting_119_e hd hk htv h0 n fu L' _ y5 y6 m2 he (by omega) z4 (by rw [z3.2.1]; exact c1) (BQ_rj a3 c1 z3)
      exact ⟨m', L2, w5, w6, i1, (a2.rk.trans z3.rk).trans i2, i3, by rw [e]; exact i4⟩
end Dr
