/-! Layer C: the class's weigh -/
theorem jmax_sub {a v d : Nat} (ha : a < 10000) (hv : v < 1000) (hd : d < 1000) : jmax (nj a) (nj v - nj d) = nj (max a (v - d)) := by
  by_cases q : d ≤ v
  · rw [nj_sub q, jmax_nj (by omega) (by omega)]
  · have e : (nj v - nj d).toInt = (v : Int) - (d : Int) := by rw [Int32.toInt_sub, nj_int (by omega), nj_int (by omega), Int.bmod_eq_of_le (by omega) (by omega)]
    unfold jmax
    rw [if_neg (by rw [Int32.lt_iff_toInt_lt, e, nj_int (by omega)]; omega), show max a (v - d) = a by omega]
section Sw
variable (L : List Nat) (v : Nat → Nat) (q : Nat → Nat → Bool) (d s : Nat)
/-- TASKS changed in the first n groups -/
def toV : Nat → Option Nat
  | 0 => some 0
  | n + 1 => match toV n, seV L v q d n s with
    | some t, some x => some (t + x.1)
    | _, _ => none
def vaV (c : Nat) : Nat := match seV L v q d c s with
  | some x => x.2
  | none => 0
/-- the best way so far: TASKS changed, groups, group of each, value of each -/
abbrev BW := Option (Nat × Nat × (Nat → Nat) × (Nat → Nat))
def bet (t g : Nat) : BW → Bool
  | none => true
  | some b => decide (t < b.1) || (decide (t = b.1) && decide (g < b.2.1))
def wgh (k : Nat) (B : BW) : BW :=
  if mxL L s ≤ k then match toV L v q d s (mxL L s) with
    | none => B
    | some t => if bet t (mxL L s) B = true then some (t, mxL L s, fun i => L.getD i 0, fun i => vaV L v q d s (L.getD i 0)) else B
  else B
end Sw
def BR (m : Mem) (s : Nat) : BW → Prop
  | none => mI m 906 41 = -1
  | some b => b.1 < 100 ∧ mI m 906 41 = nj b.1 ∧ b.2.1 < 100 ∧ mI m 907 41 = nj b.2.1 ∧ ∀ i, i < s → b.2.2.1 i < 7 ∧ aI m 49 i = nj (b.2.2.1 i) ∧ aI m 50 (b.2.2.1 i) = nj (b.2.2.2 i)
def PNs (m : Mem) : Prop := mN m 47 = 7 ∧ mN m 48 = 7 ∧ mN m 49 = 7 ∧ mN m 50 = 7
/-- what weigh may write -/
def PH (m m' : Mem) : Prop := Ch [906, 907] [48, 49, 50] nil m m' ∧ mC m' = mC m ∧ mS m' = mS m
theorem PH.rfl {m : Mem} : PH m m := ⟨Ch.rfl, Eq.refl _, Eq.refl _⟩
theorem PH.trans {m m1 m2 : Mem} (h : PH m m1) (k : PH m1 m2) : PH m m2 := ⟨h.1.trans k.1, k.2.1.trans h.2.1, k.2.2.trans h.2.2⟩
theorem PG.ph {m m' : Mem} (h : PG m m') : PH m m' := ⟨h.1.mono (by decide) (by decide) (fun _ z => z), h.2⟩
section We
variable {m : Mem} {s : Nat} {L : List Nat} {mb tv : Nat → Nat} {ap : Nat → Nat → Bool}
theorem PR_ph {m' : Mem} (h : PR m s L mb tv ap) (h60 : 51 ≤ mC m) (k : PH m m') : PR m' s L mb tv ap := by
  obtain ⟨h1, h2, h3, h4⟩ := h
  have e46 := (k.1.2.2.2 46 (by decide) (fun z => z) (by omega)).1
  have e47 := (k.1.2.2.2 47 (by decide) (fun z => z) (by omega)).1
  have e42 := (k.1.2.2.2 42 (by decide) (fun z => z) (by omega)).1
  have e43 := (k.1.2.2.2 43 (by decide) (fun z => z) (by omega)).1
  refine ⟨h1, ((k.1.2.2.1 901 (by decide) 41 (by omega)).1).trans h2, ?_, ?_⟩
  · rw [e46, e47]
    exact h3
  · rw [e42, e43]
    exact h4
theorem PNs_ph {m' : Mem} (h : PNs m) (h60 : 51 ≤ mC m) (k : PH m m') : PNs m' := by
  unfold PNs
  rw [(k.1.2.1 47 (by omega)).2, (k.1.2.1 48 (by omega)).2, (k.1.2.1 49 (by omega)).2, (k.1.2.1 50 (by omega)).2]
  exact h
theorem BR_pg {m' : Mem} {B : BW} (h : BR m s B) (h60 : 51 ≤ mC m) (k : PG m m') : BR m' s B := by
  have e49 := (k.1.2.2.2 49 (by decide) (fun z => z) (by omega)).1
  have e50 := (k.1.2.2.2 50 (by decide) (fun z => z) (by omega)).1
  have e6 := (k.1.2.2.1 906 (by decide) 41 (by omega)).1
  have e7 := (k.1.2.2.1 907 (by decide) 41 (by omega)).1
  cases B with
  | none =>
    show mI m' 906 41 = -1
    rw [e6]
    exact h
  | some b =>
    unfold BR at h ⊢
    rw [e49, e50, e6, e7]
    exact h
theorem P_settle_13_e (h : PR m s L mb tv ap) (h60 : 51 ≤ mC m) {c d : Nat} (hc : c < 7) (hd : d < 1000) (htv : ∀ i, tv (mb i) < 1000) : ∀ (k j fu : Nat), j + k = s → k < fu →
    P_Parting_settle_13 fu (nj c) (nj d) (nj (loV L (fun i => tv (mb i)) d c j)) (nj (hiV L (fun i => tv (mb i)) d c j)) (nj (nuV L c j)) (nj j) m = P_Parting_settle_82 (nj c) (nj (loV L (fun i => tv (mb i)) d c s)) (nj (hiV L (fun i => tv (mb i)) d c s)) (nj (nuV L c s)) m
  | 0, j, fu + 1, h1, _ => by
    rw [P_Parting_settle_13.eq_2, h.2.1, if_pos (by rw [nj_le (by have := h.1; omega) (by have := h.1; omega)]; omega), show j = s by omega]
  | k + 1, j, fu + 1, h1, h2 => by
    have hs := h.1
    have hj := h.2.2.1 j (by omega)
    have ht := h.2.2.2 (mb j) hj.1
    have hl := loV_b (L := L) (c := c) (d := d) htv j
    have hh := hiV_b (L := L) (v := fun i => tv (mb i)) (c := c) (d := d) j
    have hn := nuV_le (L := L) (c := c) j
    have g : ∀ {β : Type} (z : Option β), gd (inb (nj j) 7) z = z := fun z => by rw [inb_nj (by omega), gd_t (decide_eq_true (by omega))]
    have g2 : ∀ {β : Type} (z : Option β), gd (inb (nj (mb j)) 16) z = z := fun z => by rw [inb_nj (by omega), gd_t (decide_eq_true (by omega))]
    have ih := P_settle_13_e h h60 hc hd htv k (j + 1) fu (by omega) (by omega)
    have e1 : loV L (fun i => tv (mb i)) d c (j + 1) = if L.getD j 0 = c then max (loV L (fun i => tv (mb i)) d c j) (tv (mb j) - d) else loV L (fun i => tv (mb i)) d c j := rfl
    have e2 : hiV L (fun i => tv (mb i)) d c (j + 1) = if L.getD j 0 = c then min (hiV L (fun i => tv (mb i)) d c j) (tv (mb j) + d) else hiV L (fun i => tv (mb i)) d c j := rfl
    have e3 : nuV L c (j + 1) = if L.getD j 0 = c then nuV L c j + 1 else nuV L c j := rfl
    rw [e1, e2, e3] at ih
    rw [P_Parting_settle_13.eq_2, h.2.1, if_neg (by rw [nj_le (by omega) (by omega)]; omega)]
    unfold P_Parting_settle_76
    simp only [g, ix_nj (show j < 2147483648 by omega), hj.2.2.2, hj.2.1, g2, vb_e, ix_nj (show mb j < 2147483648 by omega), ht.2.1, nj_add_l, nj_add]
    have ez : (nj (L.getD j 0) = nj c) = (L.getD j 0 = c) := nj_inj (by omega) (by omega)
    simp only [ez]
    rw [jmax_sub (by omega) (by omega) hd, jmin_nj (by omega) (by omega)]
    by_cases z : L.getD j 0 = c
    · rw [if_pos z]
      rw [if_pos z, if_pos z, if_pos z] at ih
      exact ih
    · rw [if_neg z]
      rw [if_neg z, if_neg z, if_neg z] at ih
      exact ih
theorem P_settle_e (h : PR m s L mb tv ap) (h60 : 51 ≤ mC m) {c d : Nat} (hc : c < 7) (hd : d < 1000) (htv : ∀ i, tv (mb i) < 1000) (hto : tnV L (fun a b => ap (mb a) (mb b)) c s = false) :
    (seV L (fun i => tv (mb i)) (fun a b => ap (mb a) (mb b)) d c s = none ∧ P_Parting_settle (nj c) (nj d) m = some (-1, m)) ∨
    ∃ x m', seV L (fun i => tv (mb i)) (fun a b => ap (mb a) (mb b)) d c s = some x ∧ x.1 ≤ s ∧ P_Parting_settle (nj c) (nj d) m = some (nj x.1, m') ∧ PG m m' ∧ ∀ i, aI m' 48 i = if i = c then nj x.2 else aI m 48 i := by
  have hs := h.1
  have hl := loV_b (L := L) (c := c) (d := d) htv s
  have hh := hiV_b (L := L) (v := fun i => tv (mb i)) (c := c) (d := d) s
  have hn := nuV_le (L := L) (c := c) s
  have e : P_Parting_settle (nj c) (nj d) m = P_Parting_settle_82 (nj c) (nj (loV L (fun i => tv (mb i)) d c s)) (nj (hiV L (fun i => tv (mb i)) d c s)) (nj (nuV L c s)) m := by
    unfold P_Parting_settle
    exact P_settle_13_e h h60 hc hd htv s 0 FU (by omega) (by unfold FU; omega)
  rw [e]
  unfold P_Parting_settle_82
  by_cases z : loV L (fun i => tv (mb i)) d c s ≤ hiV L (fun i => tv (mb i)) d c s
  · right
    rw [if_pos (by rw [nj_le (by omega) (by omega)]; exact z), inb_nj (by omega), gd_t (decide_eq_true hc), vb_e, ix_nj (by omega)]
    have pg : PG m (wI m 48 c (nj (loV L (fun i => tv (mb i)) d c s))) := ⟨Ch.rfl.wI (Or.inl (by decide)), by simp only [k_aI_wI_e, k_aI_wI, k_aI_wL, k_aI_wR, k_aI_sI, k_aI_sL, k_aI_sR, k_aI_nw, k_aL_wL_e, k_aL_wL, k_aL_wI, k_aL_wR, k_aL_sI, k_aL_sL, k_aL_sR, k_aL_nw, k_aR_wR_e, k_aR_wR, k_aR_wI, k_aR_wL, k_aR_sI, k_aR_sL, k_aR_sR, k_aR_nw, k_mI_sI_e, k_mI_sI, k_mI_wI, k_mI_wL, k_mI_wR, k_mI_sL, k_mI_sR, k_mI_nw, k_mL_sL_e, k_mL_sL, k_mL_wI, k_mL_wL, k_mL_wR, k_mL_sI, k_mL_sR, k_mL_nw, k_mR_sR_e, k_mR_sR, k_mR_wI, k_mR_wL, k_mR_wR, k_mR_sI, k_mR_sL, k_mR_nw, k_mT_wI, k_mT_wL, k_mT_wR, k_mT_sI, k_mT_sL, k_mT_sR, k_mT_nw, k_mN_wI, k_mN_wL, k_mN_wR, k_mN_sI, k_mN_sL, k_mN_sR, k_mN_nw, k_mC_wI, k_mC_wL, k_mC_wR, k_mC_sI, k_mC_sL, k_mC_sR, k_mC_nw, k_mS_wI, k_mS_wL, k_mS_wR, k_mS_sI, k_mS_sL, k_mS_sR, k_mS_nw, k_zF_1, k_zF_3, k_zF_11, k_zF_32, k_zF_36, k_zA_1, k_zA_3, k_zA_11, k_zA_32, k_zA_36, k_mT_fil, k_mN_fil, k_mI_fil, k_mL_fil, k_mR_fil, k_aL_fil, k_aR_fil, k_mC_fil, k_mS_fil, k_aI_fil_e, k_aI_fil], by simp only [k_aI_wI_e, k_aI_wI, k_aI_wL, k_aI_wR, k_aI_sI, k_aI_sL, k_aI_sR, k_aI_nw, k_aL_wL_e, k_aL_wL, k_aL_wI, k_aL_wR, k_aL_sI, k_aL_sL, k_aL_sR, k_aL_nw, k_aR_wR_e, k_aR_wR, k_aR_wI, k_aR_wL, k_aR_sI, k_aR_sL, k_aR_sR, k_aR_nw, k_mI_sI_e, k_mI_sI, k_mI_wI, k_mI_wL, k_mI_wR, k_mI_sL, k_mI_sR, k_mI_nw, k_mL_sL_e, k_mL_sL, k_mL_wI, k_mL_wL, k_mL_wR, k_mL_sI, k_mL_sR, k_mL_nw, k_mR_sR_e, k_mR_sR, k_mR_wI, k_mR_wL, k_mR_wR, k_mR_sI, k_mR_sL, k_mR_nw, k_mT_wI, k_mT_wL, k_mT_wR, k_mT_sI, k_mT_sL, k_mT_sR, k_mT_nw, k_mN_wI, k_mN_wL, k_mN_wR, k_mN_sI, k_mN_sL, k_mN_sR, k_mN_nw, k_mC_wI, k_mC_wL, k_mC_wR, k_mC_sI, k_mC_sL, k_mC_sR, k_mC_nw, k_mS_wI, k_mS_wL, k_mS_wR, k_mS_sI, k_mS_sL, k_mS_sR, k_mS_nw, k_zF_1, k_zF_3, k_zF_11, k_zF_32, k_zF_36, k_zA_1, k_zA_3, k_zA_11, k_zA_32, k_zA_36, k_mT_fil, k_mN_fil, k_mI_fil, k_mL_fil, k_mR_fil, k_aL_fil, k_aR_fil, k_mC_fil, k_mS_fil, k_aI_fil_e, k_aI_fil]⟩
    have h' := PR_pg h h60 pg
    rw [P_withValue_e h' (by omega) (by omega), bn_s]
    obtain ⟨m', i1, i2, i3⟩ := P_settle_108_e (hi := hiV L (fun i => tv (mb i)) d c s) hc hl hh htv rfl s 0 FU _ h' (by rw [pg.2.1]; exact h60) (by omega) (by unfold FU; omega) (by rw [k_aI_wI_e, up1_ap, if_pos rfl]; rfl)
    refine ⟨(nuV L c s - (bsV L (fun i => tv (mb i)) c s (loV L (fun i => tv (mb i)) d c s) (hiV L (fun i => tv (mb i)) d c s) (0, loV L (fun i => tv (mb i)) d c s) s).1, (bsV L (fun i => tv (mb i)) c s (loV L (fun i => tv (mb i)) d c s) (hiV L (fun i => tv (mb i)) d c s) (0, loV L (fun i => tv (mb i)) d c s) s).2), m', ?_, ?_, i1.trans ?_, pg.trans i2, fun i => ?_⟩
    · unfold seV
      rw [if_neg (by rw [hto]; rintro (w | w); cases w; omega)]
    · exact Nat.le_trans (Nat.sub_le _ _) hn
    · rw [bs_one z]
    · rw [i3, bs_one z]
      by_cases y : i = c
      · rw [if_pos y, if_pos y]
      · rw [if_neg y, if_neg y, k_aI_wI_e, up1_ap, if_neg y]
  · left
    rw [if_neg (by rw [nj_le (by omega) (by omega)]; exact z)]
    refine ⟨?_, by trivial⟩
    unfold seV
    rw [if_pos (Or.inr (by omega))]
end We
