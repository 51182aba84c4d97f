/-! Layer C: the reference weighs a way -/
section Rw
variable {m : Mem} {s : Nat} {L : List Nat} {mb tv : Nat → Nat} {ap : Nat → Nat → Bool}
theorem R_changes_e (h : RR m s L mb tv ap) (h60 : 82 ≤ mC m) {c d : Nat} (hc : c < 7) (hd : d < 1000) (htv : ∀ i, tv (mb i) < 1000) :
    (seV L (fun i => tv (mb i)) (fun a b => ap (mb a) (mb b)) d c s = none ∧ R_changes (nj c) (nj s) (nj d) m = some (-1, m)) ∨
    ∃ x m', seV L (fun i => tv (mb i)) (fun a b => ap (mb a) (mb b)) d c s = some x ∧ x.1 ≤ s ∧ R_changes (nj c) (nj s) (nj d) m = some (nj x.1, m') ∧ RG m m' ∧ ∀ i, aI m' 79 i = if i = c then nj x.2 else aI m 79 i := by
  have hs := h.1
  have hl := loV_b (L := L) (c := c) (d := d) htv s
  have hh := hiV_b (L := L) (v := fun i => tv (mb i)) (c := c) (d := d) s
  have hn := nuV_le (L := L) (c := c) s
  have e : R_changes (nj c) (nj s) (nj d) m = if tnV L (fun a b => ap (mb a) (mb b)) c s = true then some (-1, m) else R_changes_142 (nj c) (nj s) (nj (loV L (fun i => tv (mb i)) d c s)) (nj (hiV L (fun i => tv (mb i)) d c s)) (nj (nuV L c s)) m := by
    unfold R_changes
    exact R_changes_14_e h hc hd htv s 0 FU (by omega) (by unfold FU; omega) rfl
  rw [e]
  by_cases hto : tnV L (fun a b => ap (mb a) (mb b)) c s = true
  · left
    rw [if_pos hto]
    refine ⟨?_, by trivial⟩
    unfold seV
    rw [if_pos (Or.inl hto)]
  · rw [if_neg hto]
    unfold R_changes_142
    by_cases z : loV L (fun i => tv (mb i)) d c s ≤ hiV L (fun i => tv (mb i)) d c s
    · right
      rw [if_pos (by rw [nj_le (by omega) (by omega)]; exact z), inb_nj (by omega), gd_t (decide_eq_true hc), vb_e, ix_nj (by omega)]
      have pg : RG m (wI m 79 c (nj (loV L (fun i => tv (mb i)) d c s))) := ⟨Ch.rfl.wI (Or.inl (by decide)), by simp only [k_aI_wI_e, k_aI_wI, k_aI_wL, k_aI_wR, k_aI_sI, k_aI_sL, k_aI_sR, k_aI_nw, k_aL_wL_e, k_aL_wL, k_aL_wI, k_aL_wR, k_aL_sI, k_aL_sL, k_aL_sR, k_aL_nw, k_aR_wR_e, k_aR_wR, k_aR_wI, k_aR_wL, k_aR_sI, k_aR_sL, k_aR_sR, k_aR_nw, k_mI_sI_e, k_mI_sI, k_mI_wI, k_mI_wL, k_mI_wR, k_mI_sL, k_mI_sR, k_mI_nw, k_mL_sL_e, k_mL_sL, k_mL_wI, k_mL_wL, k_mL_wR, k_mL_sI, k_mL_sR, k_mL_nw, k_mR_sR_e, k_mR_sR, k_mR_wI, k_mR_wL, k_mR_wR, k_mR_sI, k_mR_sL, k_mR_nw, k_mT_wI, k_mT_wL, k_mT_wR, k_mT_sI, k_mT_sL, k_mT_sR, k_mT_nw, k_mN_wI, k_mN_wL, k_mN_wR, k_mN_sI, k_mN_sL, k_mN_sR, k_mN_nw, k_mC_wI, k_mC_wL, k_mC_wR, k_mC_sI, k_mC_sL, k_mC_sR, k_mC_nw, k_mS_wI, k_mS_wL, k_mS_wR, k_mS_sI, k_mS_sL, k_mS_sR, k_mS_nw, k_zF_1, k_zF_3, k_zF_11, k_zF_32, k_zF_36, k_zA_1, k_zA_3, k_zA_11, k_zA_32, k_zA_36, k_mT_fil, k_mN_fil, k_mI_fil, k_mL_fil, k_mR_fil, k_aL_fil, k_aR_fil, k_mC_fil, k_mS_fil, k_aI_fil_e, k_aI_fil], by simp only [k_aI_wI_e, k_aI_wI, k_aI_wL, k_aI_wR, k_aI_sI, k_aI_sL, k_aI_sR, k_aI_nw, k_aL_wL_e, k_aL_wL, k_aL_wI, k_aL_wR, k_aL_sI, k_aL_sL, k_aL_sR, k_aL_nw, k_aR_wR_e, k_aR_wR, k_aR_wI, k_aR_wL, k_aR_sI, k_aR_sL, k_aR_sR, k_aR_nw, k_mI_sI_e, k_mI_sI, k_mI_wI, k_mI_wL, k_mI_wR, k_mI_sL, k_mI_sR, k_mI_nw, k_mL_sL_e, k_mL_sL, k_mL_wI, k_mL_wL, k_mL_wR, k_mL_sI, k_mL_sR, k_mL_nw, k_mR_sR_e, k_mR_sR, k_mR_wI, k_mR_wL, k_mR_wR, k_mR_sI, k_mR_sL, k_mR_nw, k_mT_wI, k_mT_wL, k_mT_wR, k_mT_sI, k_mT_sL, k_mT_sR, k_mT_nw, k_mN_wI, k_mN_wL, k_mN_wR, k_mN_sI, k_mN_sL, k_mN_sR, k_mN_nw, k_mC_wI, k_mC_wL, k_mC_wR, k_mC_sI, k_mC_sL, k_mC_sR, k_mC_nw, k_mS_wI, k_mS_wL, k_mS_wR, k_mS_sI, k_mS_sL, k_mS_sR, k_mS_nw, k_zF_1, k_zF_3, k_zF_11, k_zF_32, k_zF_36, k_zA_1, k_zA_3, k_zA_11, k_zA_32, k_zA_36, k_mT_fil, k_mN_fil, k_mI_fil, k_mL_fil, k_mR_fil, k_aL_fil, k_aR_fil, k_mC_fil, k_mS_fil, k_aI_fil_e, k_aI_fil]⟩
      have h' := RR_rg h h60 pg
      obtain ⟨m', i1, i2, i3⟩ := R_changes_165_e (hi := hiV L (fun i => tv (mb i)) d c s) hc hl hh htv rfl s 0 FU _ h' (by rw [pg.2.1]; exact h60) (by omega) (by unfold FU; omega) (by rw [k_aI_wI_e, up1_ap, if_pos rfl]; rfl)
      refine ⟨(nuV L c s - (bsV L (fun i => tv (mb i)) c s (loV L (fun i => tv (mb i)) d c s) (hiV L (fun i => tv (mb i)) d c s) (0, loV L (fun i => tv (mb i)) d c s) s).1, (bsV L (fun i => tv (mb i)) c s (loV L (fun i => tv (mb i)) d c s) (hiV L (fun i => tv (mb i)) d c s) (0, loV L (fun i => tv (mb i)) d c s) s).2), m', ?_, ?_, i1, pg.trans i2, fun i => ?_⟩
      · unfold seV
        rw [if_neg (by rintro (w | w); exact hto w; omega)]
      · exact Nat.le_trans (Nat.sub_le _ _) hn
      · rw [i3]
        by_cases y : i = c
        · rw [if_pos y, if_pos y]
        · rw [if_neg y, if_neg y, k_aI_wI_e, up1_ap, if_neg y]
    · left
      rw [if_neg (by rw [nj_le (by omega) (by omega)]; exact z)]
      refine ⟨?_, by trivial⟩
      unfold seV
      rw [if_pos (Or.inr (by omega))]
end Rw
def rtO : Option Nat → Int32
  | none => -1
  | some t => nj t
def BQ (x5 x6 : Int32) (m : Mem) (s : Nat) : BW → Prop
  | none => x5 = -1
  | some b => b.1 < 100 ∧ x5 = nj b.1 ∧ b.2.1 < 100 ∧ x6 = nj b.2.1 ∧ ∀ i, i < s → b.2.2.1 i < 7 ∧ aI m 80 i = nj (b.2.2.1 i) ∧ aI m 81 i = nj (b.2.2.2 i)
/-- what a weighing may write -/
def RH (m m' : Mem) : Prop := Ch [] [79, 80, 81] nil m m' ∧ mC m' = mC m ∧ mS m' = mS m
theorem RH.rfl {m : Mem} : RH m m := ⟨Ch.rfl, Eq.refl _, Eq.refl _⟩
theorem RH.trans {m m1 m2 : Mem} (h : RH m m1) (k : RH m1 m2) : RH m m2 := ⟨h.1.trans k.1, k.2.1.trans h.2.1, k.2.2.trans h.2.2⟩
theorem RG.rh {m m' : Mem} (h : RG m m') : RH m m' := ⟨h.1.mono (by decide) (by decide) (fun _ z => z), h.2⟩
section Rx
variable {m : Mem} {s : Nat} {L : List Nat} {mb tv : Nat → Nat} {ap : Nat → Nat → Bool} {k119 : Int32 → Int32 → Int32 → Int32 → Int32 → Int32 → Mem → Option (Int32 × Mem)} {x2 x5 x6 : Int32}
theorem RR_rh {m' : Mem} (h : RR m s L mb tv ap) (h60 : 82 ≤ mC m) (k : RH m m') : RR m' s L mb tv ap := by
  obtain ⟨h1, h3, h4⟩ := h
  have e46 := (k.1.2.2.2 77 (by decide) (fun z => z) (by omega)).1
  have e47 := (k.1.2.2.2 78 (by decide) (fun z => z) (by omega)).1
  have e42 := (k.1.2.2.2 73 (by decide) (fun z => z) (by omega)).1
  have e43 := (k.1.2.2.2 74 (by decide) (fun z => z) (by omega)).1
  refine ⟨h1, ?_, ?_⟩
  · rw [e46, e47]
    exact h3
  · rw [e42, e43]
    exact h4
theorem BQ_rg {m' : Mem} {B : BW} (h : BQ x5 x6 m s B) (h60 : 82 ≤ mC m) (k : RG m m') : BQ x5 x6 m' s B := by
  have e49 := (k.1.2.2.2 80 (by decide) (fun z => z) (by omega)).1
  have e50 := (k.1.2.2.2 81 (by decide) (fun z => z) (by omega)).1
  cases B with
  | none => exact h
  | some b =>
    unfold BQ at h ⊢
    rw [e49, e50]
    exact h
theorem R_parting_182_e {d : Nat} (hd : d < 1000) (htv : ∀ i, tv (mb i) < 1000) : ∀ (k j fu t : Nat) (m : Mem), RR m s L mb tv ap → 82 ≤ mC m → j + k = mxL L s → k < fu →
    toV L (fun i => tv (mb i)) (fun a b => ap (mb a) (mb b)) d s j = some t → t ≤ 7 * j → (∀ c, c < j → aI m 79 c = nj (vaV L (fun i => tv (mb i)) (fun a b => ap (mb a) (mb b)) d s c)) →
    ∃ m', R_parting_182 k119 fu x2 (nj d) (nj s) x5 x6 (nj (mxL L s)) (nj t) (nj j) m = R_parting_229 k119 x2 (nj d) (nj s) x5 x6 (nj (mxL L s)) (rtO (toV L (fun i => tv (mb i)) (fun a b => ap (mb a) (mb b)) d s (mxL L s))) m' ∧ RG m m' ∧
      ∀ t, toV L (fun i => tv (mb i)) (fun a b => ap (mb a) (mb b)) d s (mxL L s) = some t → t < 100 ∧ ∀ c, c < mxL L s → aI m' 79 c = nj (vaV L (fun i => tv (mb i)) (fun a b => ap (mb a) (mb b)) d s c)
  | 0, j, fu + 1, t, m, h, h60, h1, _, h3, h4, h5 => by
    have hs := h.1
    have hm := mxL_le h.le s (Nat.le_refl _)
    have e : j = mxL L s := by omega
    rw [R_parting_182.eq_2, if_pos (by rw [nj_le (by omega) (by omega)]; omega), ← e, h3]
    exact ⟨m, rfl, RG.rfl, fun t' z => by cases z; exact ⟨by omega, h5⟩⟩
  | k + 1, j, fu + 1, t, m, h, h60, h1, h2, h3, h4, h5 => by
    have hs := h.1
    have hm := mxL_le h.le s (Nat.le_refl _)
    have e : toV L (fun i => tv (mb i)) (fun a b => ap (mb a) (mb b)) d s (j + 1) = match toV L (fun i => tv (mb i)) (fun a b => ap (mb a) (mb b)) d s j, seV L (fun i => tv (mb i)) (fun a b => ap (mb a) (mb b)) d j s with
        | some t, some x => some (t + x.1)
        | _, _ => none := rfl
    rw [h3] at e
    rw [R_parting_182.eq_2, if_neg (by rw [nj_le (by omega) (by omega)]; omega), if_neg (by rw [nj_ne_m1 (by omega)]; exact fun w => w)]
    unfold R_parting_221
    rcases R_changes_e h h60 (c := j) (by omega) hd htv with ⟨z1, z2⟩ | ⟨x, m1, z1, z2, z3, z4, z5⟩
    · rw [z2, bn_s, if_pos rfl, vb_e, nj_add_l]
      rw [z1] at e
      rw [toV_no e (mxL L s) (by omega)]
      refine ⟨m, ?_, RG.rfl, fun t' z => by cases z⟩
      obtain ⟨fu', rfl⟩ : ∃ fu', fu = fu' + 1 := ⟨fu - 1, by omega⟩
      show R_parting_182 k119 (fu' + 1) x2 (nj d) (nj s) x5 x6 (nj (mxL L s)) (-1) (nj (j + 1)) m = _
      rw [R_parting_182.eq_2, if_pos (show (-1 : Int32) = -1 from rfl)]
      split <;> rfl
    · rw [z3, bn_s, if_neg (by rw [nj_ne_m1 (by omega)]; exact fun w => w), vb_e, nj_add, nj_add_l]
      rw [z1] at e
      obtain ⟨m', i1, i2, i3⟩ := R_parting_182_e hd htv k (j + 1) fu (t + x.1) m1 (RR_rg h h60 z4) (by rw [z4.2.1]; exact h60) (by omega) (by omega) e (by omega) (fun c hc => by
        rw [z5]
        by_cases w : c = j
        · rw [if_pos w, w]
          unfold vaV
          rw [z1]
        · rw [if_neg w]
          exact h5 c (by omega))
      exact ⟨m', i1, z4.trans i2, i3⟩
theorem R_parting_130_e (h : RR m s L mb tv ap) {x3 : Int32} : ∀ (k j fu : Nat), j + k = s → k < fu → R_parting_130 k119 fu x2 x3 (nj s) x5 x6 (nj (mxL L j)) (nj j) m = R_parting_166 k119 x2 x3 (nj s) x5 x6 (nj (mxL L s)) m
  | 0, j, fu + 1, h1, _ => by
    rw [R_parting_130.eq_2, if_pos (by rw [nj_le (by have := h.1; omega) (by have := h.1; omega)]; omega), show j = s by omega]
  | k + 1, j, fu + 1, h1, h2 => by
    have hs := h.1
    have hj := h.2.1 j (by omega)
    have hm := mxL_le h.le j (by omega)
    have ih := R_parting_130_e h (x3 := x3) k (j + 1) fu (by omega) (by omega)
    have e : mxL L (j + 1) = max (mxL L j) (L.getD j 0 + 1) := rfl
    have g : ∀ {β : Type} (z : Option β), gd (inb (nj j) 7) z = z := fun z => by rw [inb_nj (by omega), gd_t (decide_eq_true (by omega))]
    have ez : (nj (L.getD j 0) < nj (mxL L j)) = (L.getD j 0 < mxL L j) := nj_lt (by omega) (by omega)
    rw [R_parting_130.eq_2, if_neg (by rw [nj_le (by omega) (by omega)]; omega)]
    unfold R_parting_160
    simp only [g, ix_nj (show j < 2147483648 by omega), hj.2.2.2, vb_e, nj_add_l, ez]
    by_cases z : L.getD j 0 < mxL L j
    · rw [if_pos z]
      rw [e, Nat.max_eq_left (by omega)] at ih
      exact ih
    · rw [if_neg z]
      rw [e, Nat.max_eq_right (by omega)] at ih
      exact ih
theorem R_parting_273_e {x3 : Int32} {va : Nat → Nat} : ∀ (k j fu : Nat) (m : Mem), RR m s L mb tv ap → 82 ≤ mC m → (∀ i, i < s → aI m 79 (L.getD i 0) = nj (va (L.getD i 0))) → j + k = s → k < fu →
    ∃ m', R_parting_273 k119 fu x2 x3 (nj s) x5 x6 (nj j) m = R_parting_319 k119 x2 x3 (nj s) x5 x6 m' ∧ RH m m' ∧ ∀ i, aI m' 80 i = (if j ≤ i ∧ i < s then nj (L.getD i 0) else aI m 80 i) ∧ aI m' 81 i = (if j ≤ i ∧ i < s then nj (va (L.getD i 0)) else aI m 81 i)
  | 0, j, fu + 1, m, h, h60, hv, h1, _ => by
    rw [R_parting_273.eq_2, if_pos (by rw [nj_le (by have := h.1; omega) (by have := h.1; omega)]; omega)]
    exact ⟨m, rfl, RH.rfl, fun i => ⟨by rw [if_neg (by omega)], by rw [if_neg (by omega)]⟩⟩
  | k + 1, j, fu + 1, m, h, h60, hv, h1, h2 => by
    have hs := h.1
    have hj := h.2.1 j (by omega)
    have g : ∀ {β : Type} (z : Option β), gd (inb (nj j) 7) z = z := fun z => by rw [inb_nj (by omega), gd_t (decide_eq_true (by omega))]
    have g3 : ∀ {β : Type} (z : Option β), gd (inb (nj (L.getD j 0)) 7) z = z := fun z => by rw [inb_nj (by omega), gd_t (decide_eq_true (by omega))]
    rw [R_parting_273.eq_2, if_neg (by rw [nj_le (by omega) (by omega)]; omega), g, g, vb_e, g, ix_nj (show j < 2147483648 by omega), k_aI_wI (by omega), k_aI_wI (by omega), hj.2.2.2, g3, g, vb_e, vb_e, ix_nj (by omega), hv j (by omega), nj_add_l]
    have rh : RH m (wI (wI m 80 j (nj (L.getD j 0))) 81 j (nj (va (L.getD j 0)))) := ⟨(Ch.rfl.wI (Or.inl (by decide))).wI (Or.inl (by decide)), by simp only [k_aI_wI_e, k_aI_wI, k_aI_wL, k_aI_wR, k_aI_sI, k_aI_sL, k_aI_sR, k_aI_nw, k_aL_wL_e, k_aL_wL, k_aL_wI, k_aL_wR, k_aL_sI, k_aL_sL, k_aL_sR, k_aL_nw, k_aR_wR_e, k_aR_wR, k_aR_wI, k_aR_wL, k_aR_sI, k_aR_sL, k_aR_sR, k_aR_nw, k_mI_sI_e, k_mI_sI, k_mI_wI, k_mI_wL, k_mI_wR, k_mI_sL, k_mI_sR, k_mI_nw, k_mL_sL_e, k_mL_sL, k_mL_wI, k_mL_wL, k_mL_wR, k_mL_sI, k_mL_sR, k_mL_nw, k_mR_sR_e, k_mR_sR, k_mR_wI, k_mR_wL, k_mR_wR, k_mR_sI, k_mR_sL, k_mR_nw, k_mT_wI, k_mT_wL, k_mT_wR, k_mT_sI, k_mT_sL, k_mT_sR, k_mT_nw, k_mN_wI, k_mN_wL, k_mN_wR, k_mN_sI, k_mN_sL, k_mN_sR, k_mN_nw, k_mC_wI, k_mC_wL, k_mC_wR, k_mC_sI, k_mC_sL, k_mC_sR, k_mC_nw, k_mS_wI, k_mS_wL, k_mS_wR, k_mS_sI, k_mS_sL, k_mS_sR, k_mS_nw, k_zF_1, k_zF_3, k_zF_11, k_zF_32, k_zF_36, k_zA_1, k_zA_3, k_zA_11, k_zA_32, k_zA_36, k_mT_fil, k_mN_fil, k_mI_fil, k_mL_fil, k_mR_fil, k_aL_fil, k_aR_fil, k_mC_fil, k_mS_fil, k_aI_fil_e, k_aI_fil], by simp only [k_aI_wI_e, k_aI_wI, k_aI_wL, k_aI_wR, k_aI_sI, k_aI_sL, k_aI_sR, k_aI_nw, k_aL_wL_e, k_aL_wL, k_aL_wI, k_aL_wR, k_aL_sI, k_aL_sL, k_aL_sR, k_aL_nw, k_aR_wR_e, k_aR_wR, k_aR_wI, k_aR_wL, k_aR_sI, k_aR_sL, k_aR_sR, k_aR_nw, k_mI_sI_e, k_mI_sI, k_mI_wI, k_mI_wL, k_mI_wR, k_mI_sL, k_mI_sR, k_mI_nw, k_mL_sL_e, k_mL_sL, k_mL_wI, k_mL_wL, k_mL_wR, k_mL_sI, k_mL_sR, k_mL_nw, k_mR_sR_e, k_mR_sR, k_mR_wI, k_mR_wL, k_mR_wR, k_mR_sI, k_mR_sL, k_mR_nw, k_mT_wI, k_mT_wL, k_mT_wR, k_mT_sI, k_mT_sL, k_mT_sR, k_mT_nw, k_mN_wI, k_mN_wL, k_mN_wR, k_mN_sI, k_mN_sL, k_mN_sR, k_mN_nw, k_mC_wI, k_mC_wL, k_mC_wR, k_mC_sI, k_mC_sL, k_mC_sR, k_mC_nw, k_mS_wI, k_mS_wL, k_mS_wR, k_mS_sI, k_mS_sL, k_mS_sR, k_mS_nw, k_zF_1, k_zF_3, k_zF_11, k_zF_32, k_zF_36, k_zA_1, k_zA_3, k_zA_11, k_zA_32, k_zA_36, k_mT_fil, k_mN_fil, k_mI_fil, k_mL_fil, k_mR_fil, k_aL_fil, k_aR_fil, k_mC_fil, k_mS_fil, k_aI_fil_e, k_aI_fil]⟩
    obtain ⟨m', i1, i2, i3⟩ := R_parting_273_e (x3 := x3) k (j + 1) fu _ (RR_rh h h60 rh) (by rw [rh.2.1]; exact h60) (by rw [k_aI_wI (by omega), k_aI_wI (by omega)]; exact hv) (by omega) (by omega)
    refine ⟨m', i1, rh.trans i2, fun i => ?_⟩
    have z := i3 i
    rw [k_aI_wI (show 80 ≠ 81 by omega), k_aI_wI_e, up1_ap, k_aI_wI_e, up1_ap, k_aI_wI (show 81 ≠ 80 by omega)] at z
    rw [z.1, z.2]
    by_cases w : i = j
    · have n1 : ¬ (j + 1 ≤ i ∧ i < s) := by omega
      have n2 : j ≤ i ∧ i < s := by omega
      rw [if_neg n1, if_neg n1, if_pos w, if_pos w, if_pos n2, if_pos n2, w]
      exact ⟨rfl, rfl⟩
    · by_cases y : j + 1 ≤ i ∧ i < s
      · have n2 : j ≤ i ∧ i < s := by omega
        rw [if_pos y, if_pos y, if_pos n2, if_pos n2]
        exact ⟨rfl, rfl⟩
      · have n2 : ¬ (j ≤ i ∧ i < s) := by omega
        rw [if_neg y, if_neg y, if_neg w, if_neg w, if_neg n2, if_neg n2]
        exact ⟨rfl, rfl⟩
theorem R_weigh_e {k d : Nat} {B : BW} (hd : d < 1000) (hk : k < 100) (htv : ∀ i, tv (mb i) < 1000) (h : RR m s L mb tv ap) (h60 : 82 ≤ mC m) (hB : BQ x5 x6 m s B) :
    ∃ m' y5 y6, R_parting_130 k119 FU (nj k) (nj d) (nj s) x5 x6 0 0 m = R_parting_319 k119 (nj k) (nj d) (nj s) y5 y6 m' ∧ RH m m' ∧ BQ y5 y6 m' s (wgh L (fun i => tv (mb i)) (fun a b => ap (mb a) (mb b)) d s k B) := by
  have hs := h.1
  have hm := mxL_le h.le s (Nat.le_refl _)
  have e0 : R_parting_130 k119 FU (nj k) (nj d) (nj s) x5 x6 0 0 m = R_parting_166 k119 (nj k) (nj d) (nj s) x5 x6 (nj (mxL L s)) m := R_parting_130_e h s 0 FU (by omega) (by unfold FU; omega)
  rw [e0]
  unfold R_parting_166 R_parting_177 wgh
  by_cases z : mxL L s ≤ k
  · rw [if_pos (by rw [nj_le (by omega) (by omega)]; exact z), if_pos z]
    obtain ⟨m1, a1, a2, a3⟩ := R_parting_182_e (k119 := k119) (x2 := nj k) (x5 := x5) (x6 := x6) hd htv (mxL L s) 0 FU 0 m h h60 (by omega) (by unfold FU; omega) rfl (Nat.le_refl _) (fun c hc => absurd hc (Nat.not_lt_zero c))
    have a1' : R_parting_182 k119 FU (nj k) (nj d) (nj s) x5 x6 (nj (mxL L s)) 0 0 m = _ := a1
    rw [a1']
    have hB1 := BQ_rg hB h60 a2
    have h60' : 82 ≤ mC m1 := by rw [a2.2.1]; exact h60
    have h1 := RR_rg h h60 a2
    unfold R_parting_229
    cases c : toV L (fun i => tv (mb i)) (fun a b => ap (mb a) (mb b)) d s (mxL L s) with
    | none =>
      rw [if_pos (show rtO none = -1 from rfl)]
      exact ⟨m1, x5, x6, rfl, a2.rh, hB1⟩
    | some t =>
      obtain ⟨ht, hv⟩ := a3 t c
      rw [show rtO (some t) = nj t from rfl]
      rw [if_neg (by rw [nj_ne_m1 (by omega)]; exact fun w => w)]
      have yes : ∃ m' y5 y6, R_parting_262 k119 (nj k) (nj d) (nj s) (nj (mxL L s)) (nj t) m1 = R_parting_319 k119 (nj k) (nj d) (nj s) y5 y6 m' ∧ RH m m' ∧ BQ y5 y6 m' s (some (t, mxL L s, fun i => L.getD i 0, fun i => vaV L (fun i => tv (mb i)) (fun a b => ap (mb a) (mb b)) d s (L.getD i 0))) := by
        unfold R_parting_262
        obtain ⟨m2, i1, i2, i3⟩ := R_parting_273_e (k119 := k119) (x2 := nj k) (x5 := nj t) (x6 := nj (mxL L s)) (x3 := nj d) (va := vaV L (fun i => tv (mb i)) (fun a b => ap (mb a) (mb b)) d s) s 0 FU m1 h1 h60' (fun i hi => hv _ (mxL_gt s i hi)) (by omega) (by unfold FU; omega)
        refine ⟨m2, _, _, i1, a2.rh.trans i2, ht, rfl, by show mxL L s < 100; omega, rfl, fun i hi => ⟨?_, ?_, ?_⟩⟩
        · have := h.le i hi
          show L.getD i 0 < 7
          omega
        · rw [(i3 i).1, if_pos ⟨Nat.zero_le _, hi⟩]
        · rw [(i3 i).2, if_pos ⟨Nat.zero_le _, hi⟩]
      cases B with
      | none =>
        rw [if_pos (show x5 = -1 from hB)]
        show ∃ m' y5 y6, _ ∧ RH m m' ∧ BQ y5 y6 m' s (if bet t (mxL L s) none = true then _ else none)
        rw [if_pos (show bet t (mxL L s) none = true from rfl)]
        exact yes
      | some b =>
        obtain ⟨b1, b2, b3, b4, b5⟩ := id hB1
        have eb : (bet t (mxL L s) (some b) = true) = (t < b.1 ∨ (t = b.1 ∧ mxL L s < b.2.1)) := by
          show ((decide (t < b.1) || (decide (t = b.1) && decide (mxL L s < b.2.1))) = true) = _
          rw [Bool.or_eq_true, Bool.and_eq_true, decide_eq_true_eq, decide_eq_true_eq, decide_eq_true_eq]
        show ∃ m' y5 y6, _ ∧ RH m m' ∧ BQ y5 y6 m' s (if bet t (mxL L s) (some b) = true then (some (t, mxL L s, fun i => L.getD i 0, fun i => vaV L (fun i => tv (mb i)) (fun a b => ap (mb a) (mb b)) d s (L.getD i 0)) : BW) else some b)
        have no : ¬ bet t (mxL L s) (some b) = true → ∃ m' y5 y6, R_parting_319 k119 (nj k) (nj d) (nj s) x5 x6 m1 = R_parting_319 k119 (nj k) (nj d) (nj s) y5 y6 m' ∧ RH m m' ∧ BQ y5 y6 m' s (if bet t (mxL L s) (some b) = true then (some (t, mxL L s, fun i => L.getD i 0, fun i => vaV L (fun i => tv (mb i)) (fun a b => ap (mb a) (mb b)) d s (L.getD i 0)) : BW) else some b) := fun w => by
          rw [if_neg w]
          exact ⟨m1, x5, x6, rfl, a2.rh, hB1⟩
        have ok : bet t (mxL L s) (some b) = true → ∃ m' y5 y6, R_parting_262 k119 (nj k) (nj d) (nj s) (nj (mxL L s)) (nj t) m1 = R_parting_319 k119 (nj k) (nj d) (nj s) y5 y6 m' ∧ RH m m' ∧ BQ y5 y6 m' s (if bet t (mxL L s) (some b) = true then (some (t, mxL L s, fun i => L.getD i 0, fun i => vaV L (fun i => tv (mb i)) (fun a b => ap (mb a) (mb b)) d s (L.getD i 0)) : BW) else some b) := fun w => by
          rw [if_pos w]
          exact yes
        have q0 : ¬ x5 = -1 := by rw [b2, nj_ne_m1 (by omega)]; exact fun w => w
        have q1 : (nj t < x5) = (t < b.1) := by rw [b2]; exact nj_lt (by omega) (by omega)
        have q2 : (nj t = x5) = (t = b.1) := by rw [b2]; exact nj_inj (by omega) (by omega)
        have q3 : (x6 ≤ nj (mxL L s)) = (b.2.1 ≤ mxL L s) := by rw [b4]; exact nj_le (by omega) (by omega)
        rw [if_neg q0]
        by_cases u1 : t < b.1
        · rw [if_pos (show nj t < x5 from q1.mpr u1)]
          exact ok (eb.mpr (Or.inl u1))
        · rw [if_neg (show ¬ nj t < x5 from fun w => u1 (q1.mp w))]
          by_cases u2 : t = b.1
          · rw [if_pos (show nj t = x5 from q2.mpr u2)]
            by_cases u3 : b.2.1 ≤ mxL L s
            · rw [if_pos (q3.mpr u3)]
              exact no (by rw [eb]; omega)
            · rw [if_neg (fun w => u3 (q3.mp w))]
              exact ok (by rw [eb]; omega)
          · rw [if_neg (show ¬ nj t = x5 from fun w => u2 (q2.mp w))]
            exact no (by rw [eb]; omega)
  · rw [if_neg (by rw [nj_le (by omega) (by omega)]; exact z), if_neg z]
    refine ⟨m, x5, x6, ?_, RH.rfl, hB⟩
    have e1 : ∀ fu, R_parting_182 k119 (fu + 1) (nj k) (nj d) (nj s) x5 x6 (nj (mxL L s)) (-1) 0 m = R_parting_319 k119 (nj k) (nj d) (nj s) x5 x6 m := by
      intro fu
      rw [R_parting_182.eq_2, if_pos (show (-1 : Int32) = -1 from rfl)]
      unfold R_parting_229
      rw [if_pos (show (-1 : Int32) = -1 from rfl)]
      split <;> rfl
    exact e1 _
end Rx
