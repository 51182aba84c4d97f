/-! Layer C: the class's nextWay and its loop over the ways -/
theorem bmp_at {s : Nat} {L : List Nat} {i j : Nat} (h : j < s) : (bmp s L i).getD j 0 = if j < i then L.getD j 0 else if j = i then L.getD j 0 + 1 else 0 := by
  unfold bmp
  rw [List.getD_eq_getElem?_getD, List.getElem?_map, List.getElem?_range h]
  rfl
/-- what nextWay may write -/
def PJ (m m' : Mem) : Prop := Ch [] [47] nil m m' ∧ mC m' = mC m ∧ mS m' = mS m
/-- what divide's loop may write -/
def PK (m m' : Mem) : Prop := Ch [906, 907] [47, 48, 49, 50] nil m m' ∧ mC m' = mC m ∧ mS m' = mS m
theorem PK.rfl {m : Mem} : PK m m := ⟨Ch.rfl, Eq.refl _, Eq.refl _⟩
theorem PK.trans {m m1 m2 : Mem} (h : PK m m1) (k : PK m1 m2) : PK m m2 := ⟨h.1.trans k.1, k.2.1.trans h.2.1, k.2.2.trans h.2.2⟩
theorem PH.pk {m m' : Mem} (h : PH m m') : PK m m' := ⟨h.1.mono (by decide) (by decide) (fun _ z => z), h.2⟩
theorem PJ.pk {m m' : Mem} (h : PJ m m') : PK m m' := ⟨h.1.mono (by decide) (by decide) (fun _ z => z), h.2⟩
section Nw
variable {m : Mem} {s : Nat} {L : List Nat} {mb tv : Nat → Nat} {ap : Nat → Nat → Bool}
theorem BR_pj {m' : Mem} {B : BW} (h : BR m s B) (h60 : 51 ≤ mC m) (k : PJ m m') : BR m' s B := by
  have e49 := (k.1.2.2.2 49 (by decide) (fun z => z) (by omega)).1
  have e50 := (k.1.2.2.2 50 (by decide) (fun z => z) (by omega)).1
  have e6 := (k.1.2.2.1 906 (by decide) 41 (by omega)).1
  have e7 := (k.1.2.2.1 907 (by decide) 41 (by omega)).1
  cases B with
  | none =>
    show mI m' 906 41 = -1
    rw [e6]
    exact h
  | some b =>
    unfold BR at h ⊢
    rw [e49, e50, e6, e7]
    exact h
theorem PNs_pk {m' : Mem} (h : PNs m) (h60 : 51 ≤ mC m) (k : PK m m') : PNs m' := by
  unfold PNs
  rw [(k.1.2.1 47 (by omega)).2, (k.1.2.1 48 (by omega)).2, (k.1.2.1 49 (by omega)).2, (k.1.2.1 50 (by omega)).2]
  exact h
theorem P_nextWay_39_e (hs : s ≤ 7) : ∀ (k j fu : Nat) (m : Mem), mI m 901 41 = nj s → j + k = s → k < fu → ∃ m', P_Parting_nextWay_39 fu (nj j) m = some (1, m') ∧ PJ m m' ∧ ∀ i, aI m' 47 i = if j ≤ i ∧ i < s then nj 0 else aI m 47 i
  | 0, j, fu + 1, m, h, h1, _ => by
    rw [P_Parting_nextWay_39.eq_2, h, if_pos (by rw [nj_le (by omega) (by omega)]; omega)]
    exact ⟨m, rfl, ⟨Ch.rfl, rfl, rfl⟩, fun i => by rw [if_neg (by omega)]⟩
  | k + 1, j, fu + 1, m, h, h1, h2 => by
    rw [P_Parting_nextWay_39.eq_2, h, if_neg (by rw [nj_le (by omega) (by omega)]; omega), inb_nj (by omega), gd_t (decide_eq_true (by omega)), vb_e, vb_e, nj_add_l, ix_nj (by omega)]
    obtain ⟨m', i1, i2, i3⟩ := P_nextWay_39_e hs k (j + 1) fu (wI m 47 j 0) (by rw [k_mI_wI]; exact h) (by omega) (by omega)
    refine ⟨m', i1, ⟨Ch.trans (Ch.rfl.wI (Or.inl (by decide))) i2.1, i2.2.1.trans (by simp only [k_aI_wI_e, k_aI_wI, k_aI_wL, k_aI_wR, k_aI_sI, k_aI_sL, k_aI_sR, k_aI_nw, k_aL_wL_e, k_aL_wL, k_aL_wI, k_aL_wR, k_aL_sI, k_aL_sL, k_aL_sR, k_aL_nw, k_aR_wR_e, k_aR_wR, k_aR_wI, k_aR_wL, k_aR_sI, k_aR_sL, k_aR_sR, k_aR_nw, k_mI_sI_e, k_mI_sI, k_mI_wI, k_mI_wL, k_mI_wR, k_mI_sL, k_mI_sR, k_mI_nw, k_mL_sL_e, k_mL_sL, k_mL_wI, k_mL_wL, k_mL_wR, k_mL_sI, k_mL_sR, k_mL_nw, k_mR_sR_e, k_mR_sR, k_mR_wI, k_mR_wL, k_mR_wR, k_mR_sI, k_mR_sL, k_mR_nw, k_mT_wI, k_mT_wL, k_mT_wR, k_mT_sI, k_mT_sL, k_mT_sR, k_mT_nw, k_mN_wI, k_mN_wL, k_mN_wR, k_mN_sI, k_mN_sL, k_mN_sR, k_mN_nw, k_mC_wI, k_mC_wL, k_mC_wR, k_mC_sI, k_mC_sL, k_mC_sR, k_mC_nw, k_mS_wI, k_mS_wL, k_mS_wR, k_mS_sI, k_mS_sL, k_mS_sR, k_mS_nw, k_zF_1, k_zF_3, k_zF_11, k_zF_32, k_zF_36, k_zA_1, k_zA_3, k_zA_11, k_zA_32, k_zA_36, k_mT_fil, k_mN_fil, k_mI_fil, k_mL_fil, k_mR_fil, k_aL_fil, k_aR_fil, k_mC_fil, k_mS_fil, k_aI_fil_e, k_aI_fil]), i2.2.2.trans (by simp only [k_aI_wI_e, k_aI_wI, k_aI_wL, k_aI_wR, k_aI_sI, k_aI_sL, k_aI_sR, k_aI_nw, k_aL_wL_e, k_aL_wL, k_aL_wI, k_aL_wR, k_aL_sI, k_aL_sL, k_aL_sR, k_aL_nw, k_aR_wR_e, k_aR_wR, k_aR_wI, k_aR_wL, k_aR_sI, k_aR_sL, k_aR_sR, k_aR_nw, k_mI_sI_e, k_mI_sI, k_mI_wI, k_mI_wL, k_mI_wR, k_mI_sL, k_mI_sR, k_mI_nw, k_mL_sL_e, k_mL_sL, k_mL_wI, k_mL_wL, k_mL_wR, k_mL_sI, k_mL_sR, k_mL_nw, k_mR_sR_e, k_mR_sR, k_mR_wI, k_mR_wL, k_mR_wR, k_mR_sI, k_mR_sL, k_mR_nw, k_mT_wI, k_mT_wL, k_mT_wR, k_mT_sI, k_mT_sL, k_mT_sR, k_mT_nw, k_mN_wI, k_mN_wL, k_mN_wR, k_mN_sI, k_mN_sL, k_mN_sR, k_mN_nw, k_mC_wI, k_mC_wL, k_mC_wR, k_mC_sI, k_mC_sL, k_mC_sR, k_mC_nw, k_mS_wI, k_mS_wL, k_mS_wR, k_mS_sI, k_mS_sL, k_mS_sR, k_mS_nw, k_zF_1, k_zF_3, k_zF_11, k_zF_32, k_zF_36, k_zA_1, k_zA_3, k_zA_11, k_zA_32, k_zA_36, k_mT_fil, k_mN_fil, k_mI_fil, k_mL_fil, k_mR_fil, k_aL_fil, k_aR_fil, k_mC_fil, k_mS_fil, k_aI_fil_e, k_aI_fil])⟩, fun i => ?_⟩
    rw [i3, k_aI_wI_e, up1_ap]
    by_cases z : i = j
    · rw [if_neg (by omega), if_pos z, if_pos (by omega)]
      rfl
    · by_cases y : j + 1 ≤ i ∧ i < s
      · rw [if_pos y, if_pos (by omega)]
      · rw [if_neg y, if_neg z, if_neg (by omega)]
theorem P_nextWay_7_e (h : PR m s L mb tv ap) (h60 : 51 ≤ mC m) : ∀ (j fu : Nat), j < s → j < fu →
    (nxA s L j = none ∧ P_Parting_nextWay_7 fu (nj j) m = some (0, m)) ∨ ∃ L' m', nxA s L j = some L' ∧ P_Parting_nextWay_7 fu (nj j) m = some (1, m') ∧ PJ m m' ∧ PR m' s L' mb tv ap
  | 0, fu + 1, _, _ => by
    left
    rw [P_Parting_nextWay_7.eq_2, if_pos (by decide)]
    exact ⟨rfl, rfl⟩
  | j + 1, fu + 1, h1, h2 => by
    have hs := h.1
    have hm := mxL_le h.le (j + 1) (by omega)
    have hj := h.2.2.1 (j + 1) h1
    have e : nxA s L (j + 1) = if mxL L (j + 1) ≤ L.getD (j + 1) 0 then nxA s L j else some (bmp s L (j + 1)) := rfl
    have ey : (nj (mxL L (j + 1)) ≤ nj (L.getD (j + 1) 0)) = (mxL L (j + 1) ≤ L.getD (j + 1) 0) := nj_le (by omega) (by omega)
    rw [P_Parting_nextWay_7.eq_2, if_neg (by rw [nj_le_l (by omega) (by omega)]; omega), inb_nj (by omega), gd_t (decide_eq_true (by omega)), P_groupsAmong_e h (by omega), bn_s, ix_nj (by omega), hj.2.2.2, vb_e, nj_m1 (by omega), e]
    simp only [ey]
    by_cases z : mxL L (j + 1) ≤ L.getD (j + 1) 0
    · rw [if_pos z, if_pos z]
      exact P_nextWay_7_e h h60 j fu (by omega) (by omega)
    · rw [if_neg z, if_neg z]
      right
      unfold P_Parting_nextWay_25
      rw [inb_nj (by omega), gd_t (decide_eq_true (by omega)), gd_t (decide_eq_true (by omega)), vb_e, vb_e, ix_nj (by omega), hj.2.2.2, nj_add_l, nj_add_l]
      obtain ⟨m', i1, i2, i3⟩ := P_nextWay_39_e hs (s - (j + 1 + 1)) (j + 1 + 1) FU (wI m 47 (j + 1) (nj (L.getD (j + 1) 0 + 1))) (by rw [k_mI_wI]; exact h.2.1) (by omega) (by unfold FU; omega)
      have pj : PJ m m' := ⟨Ch.trans (Ch.rfl.wI (Or.inl (by decide))) i2.1, i2.2.1.trans (by simp only [k_aI_wI_e, k_aI_wI, k_aI_wL, k_aI_wR, k_aI_sI, k_aI_sL, k_aI_sR, k_aI_nw, k_aL_wL_e, k_aL_wL, k_aL_wI, k_aL_wR, k_aL_sI, k_aL_sL, k_aL_sR, k_aL_nw, k_aR_wR_e, k_aR_wR, k_aR_wI, k_aR_wL, k_aR_sI, k_aR_sL, k_aR_sR, k_aR_nw, k_mI_sI_e, k_mI_sI, k_mI_wI, k_mI_wL, k_mI_wR, k_mI_sL, k_mI_sR, k_mI_nw, k_mL_sL_e, k_mL_sL, k_mL_wI, k_mL_wL, k_mL_wR, k_mL_sI, k_mL_sR, k_mL_nw, k_mR_sR_e, k_mR_sR, k_mR_wI, k_mR_wL, k_mR_wR, k_mR_sI, k_mR_sL, k_mR_nw, k_mT_wI, k_mT_wL, k_mT_wR, k_mT_sI, k_mT_sL, k_mT_sR, k_mT_nw, k_mN_wI, k_mN_wL, k_mN_wR, k_mN_sI, k_mN_sL, k_mN_sR, k_mN_nw, k_mC_wI, k_mC_wL, k_mC_wR, k_mC_sI, k_mC_sL, k_mC_sR, k_mC_nw, k_mS_wI, k_mS_wL, k_mS_wR, k_mS_sI, k_mS_sL, k_mS_sR, k_mS_nw, k_zF_1, k_zF_3, k_zF_11, k_zF_32, k_zF_36, k_zA_1, k_zA_3, k_zA_11, k_zA_32, k_zA_36, k_mT_fil, k_mN_fil, k_mI_fil, k_mL_fil, k_mR_fil, k_aL_fil, k_aR_fil, k_mC_fil, k_mS_fil, k_aI_fil_e, k_aI_fil]), i2.2.2.trans (by simp only [k_aI_wI_e, k_aI_wI, k_aI_wL, k_aI_wR, k_aI_sI, k_aI_sL, k_aI_sR, k_aI_nw, k_aL_wL_e, k_aL_wL, k_aL_wI, k_aL_wR, k_aL_sI, k_aL_sL, k_aL_sR, k_aL_nw, k_aR_wR_e, k_aR_wR, k_aR_wI, k_aR_wL, k_aR_sI, k_aR_sL, k_aR_sR, k_aR_nw, k_mI_sI_e, k_mI_sI, k_mI_wI, k_mI_wL, k_mI_wR, k_mI_sL, k_mI_sR, k_mI_nw, k_mL_sL_e, k_mL_sL, k_mL_wI, k_mL_wL, k_mL_wR, k_mL_sI, k_mL_sR, k_mL_nw, k_mR_sR_e, k_mR_sR, k_mR_wI, k_mR_wL, k_mR_wR, k_mR_sI, k_mR_sL, k_mR_nw, k_mT_wI, k_mT_wL, k_mT_wR, k_mT_sI, k_mT_sL, k_mT_sR, k_mT_nw, k_mN_wI, k_mN_wL, k_mN_wR, k_mN_sI, k_mN_sL, k_mN_sR, k_mN_nw, k_mC_wI, k_mC_wL, k_mC_wR, k_mC_sI, k_mC_sL, k_mC_sR, k_mC_nw, k_mS_wI, k_mS_wL, k_mS_wR, k_mS_sI, k_mS_sL, k_mS_sR, k_mS_nw, k_zF_1, k_zF_3, k_zF_11, k_zF_32, k_zF_36, k_zA_1, k_zA_3, k_zA_11, k_zA_32, k_zA_36, k_mT_fil, k_mN_fil, k_mI_fil, k_mL_fil, k_mR_fil, k_aL_fil, k_aR_fil, k_mC_fil, k_mS_fil, k_aI_fil_e, k_aI_fil])⟩
      have e46 := (pj.1.2.2.2 46 (by decide) (fun z => z) (by omega)).1
      have e42 := (pj.1.2.2.2 42 (by decide) (fun z => z) (by omega)).1
      have e43 := (pj.1.2.2.2 43 (by decide) (fun z => z) (by omega)).1
      refine ⟨_, m', rfl, i1, pj, hs, ((pj.1.2.2.1 901 (by decide) 41 (by omega)).1).trans h.2.1, fun i hi => ?_, ?_⟩
      · have hi' := h.2.2.1 i hi
        rw [e46, bmp_at hi, i3, k_aI_wI_e, up1_ap]
        refine ⟨hi'.1, hi'.2.1, ?_, ?_⟩
        · by_cases c1 : i < j + 1
          · rw [if_pos c1]
            exact hi'.2.2.1
          · rw [if_neg c1]
            by_cases c2 : i = j + 1
            · rw [if_pos c2, c2]
              omega
            · rw [if_neg c2]
              omega
        · by_cases c1 : i < j + 1
          · rw [if_pos c1, if_neg (by omega), if_neg (by omega)]
            exact hi'.2.2.2
          · rw [if_neg c1]
            by_cases c2 : i = j + 1
            · rw [if_neg (by omega), if_pos c2, if_pos c2, c2]
            · rw [if_pos (show j + 1 + 1 ≤ i ∧ i < s by omega), if_neg c2]
      · rw [e42, e43]
        exact h.2.2.2
theorem P_nextWay_e (h : PR m s L mb tv ap) (h60 : 51 ≤ mC m) (h0 : 0 < s) :
    (nxA s L (s - 1) = none ∧ P_Parting_nextWay m = some (0, m)) ∨ ∃ L' m', nxA s L (s - 1) = some L' ∧ P_Parting_nextWay m = some (1, m') ∧ PJ m m' ∧ PR m' s L' mb tv ap := by
  have hs := h.1
  unfold P_Parting_nextWay
  rw [vb_e, h.2.1, nj_sub_l (by omega)]
  exact P_nextWay_7_e h h60 (s - 1) FU (by omega) (by unfold FU; omega)
end Nw
/-- the best of the ways from L on -/
def ways (s : Nat) (v : Nat → Nat) (q : Nat → Nat → Bool) (d k : Nat) : Nat → List Nat → BW → BW
  | 0, _, B => B
  | n + 1, L, B => match nxA s L (s - 1) with
    | none => wgh L v q d s k B
    | some L' => ways s v q d k n L' (wgh L v q d s k B)
section Dv
variable {s : Nat} {mb tv : Nat → Nat} {ap : Nat → Nat → Bool}
theorem P_divide_27_e {k d : Nat} (hd : d < 1000) (hk : k < 100) (htv : ∀ i, tv (mb i) < 1000) (h0 : 0 < s) : ∀ (n x fu : Nat) (L : List Nat) (B : BW) (m : Mem), endsIn s n L = true → x + n ≤ 877 → n < fu → PR m s L mb tv ap → 51 ≤ mC m → PNs m → BR m s B →
    ∃ m' L', P_Parting_divide_27 fu (nj k) (nj d) 1 (nj x) m = P_Parting_divide_58 m' ∧ PK m m' ∧ PR m' s L' mb tv ap ∧ BR m' s (ways s (fun i => tv (mb i)) (fun a b => ap (mb a) (mb b)) d k n L B)
  | 0, x, fu, L, B, m, he, _, _, _, _, _, _ => by cases he
  | n + 1, x, fu + 1, L, B, m, he, h1, h2, h, h60, hN, hB => by
    have hs := h.1
    rw [P_Parting_divide_27.eq_2, if_neg (by rw [nj_l_le (by omega) (by omega)]; omega), if_neg (by decide)]
    obtain ⟨m1, a1, a2, a3⟩ := P_weigh_e hd hk htv h h60 hN hB
    rw [a1, bn_s]
    have p1 := PR_ph h h60 a2
    have c1 : 51 ≤ mC m1 := by rw [a2.2.1]; exact h60
    have e : ways s (fun i => tv (mb i)) (fun a b => ap (mb a) (mb b)) d k (n + 1) L B = match nxA s L (s - 1) with
      | none => wgh L (fun i => tv (mb i)) (fun a b => ap (mb a) (mb b)) d s k B
      | some L' => ways s (fun i => tv (mb i)) (fun a b => ap (mb a) (mb b)) d k n L' (wgh L (fun i => tv (mb i)) (fun a b => ap (mb a) (mb b)) d s k B) := rfl
    have e2 : endsIn s (n + 1) L = match nxA s L (s - 1) with
      | none => true
      | some L' => endsIn s n L' := rfl
    rcases P_nextWay_e p1 c1 h0 with ⟨z1, z2⟩ | ⟨L', m2, z1, z2, z3, z4⟩
    · rw [z2, bn_s, vb_e]
      rw [z1] at e e2
      refine ⟨m1, L, ?_, a2.pk, p1, by rw [e]; exact a3⟩
      obtain ⟨fu', rfl⟩ : ∃ fu', fu = fu' + 1 := ⟨fu - 1, by omega⟩
      rw [P_Parting_divide_27.eq_2]
      rw [if_pos (show (0 : Int32) = 0 from rfl)]
      split <;> rfl
    · rw [z2, bn_s, vb_e, nj_add_l]
      rw [z1] at e e2
      rw [e2] at he
      obtain ⟨m', L2, i1, i2, i3, i4⟩ := P_divide_27_e hd hk htv h0 n (x + 1) fu L' _ m2 he (by omega) (by omega) z4 (by rw [z3.2.1]; exact c1) (PNs_pk (PNs_ph hN h60 a2) c1 z3.pk) (BR_pj a3 c1 z3)
      exact ⟨m', L2, i1, (a2.pk.trans z3.pk).trans i2, i3, by rw [e]; exact i4⟩
end Dv
