/-! Layer C: the class's settle -/
def upV (s x : Nat × Nat) : Nat × Nat := if btr x s = true then x else s
theorem btr_iff (a b : Nat × Nat) : (btr a b = true) = (b.1 < a.1 ∨ (a.1 = b.1 ∧ a.2 < b.2)) := by
  unfold btr
  rw [Bool.or_eq_true, Bool.and_eq_true, decide_eq_true_eq, decide_eq_true_eq, decide_eq_true_eq]
theorem upV_comm (r a b : Nat × Nat) : upV (upV r a) b = upV (upV r b) a := by
  obtain ⟨r1, r2⟩ := r
  obtain ⟨a1, a2⟩ := a
  obtain ⟨b1, b2⟩ := b
  unfold upV
  simp only [btr_iff]
  grind
theorem upV_no {s x y : Nat × Nat} (h : ¬ btr x s = true) : ¬ btr x (upV s y) = true := by
  obtain ⟨r1, r2⟩ := s
  obtain ⟨a1, a2⟩ := x
  obtain ⟨b1, b2⟩ := y
  unfold upV
  simp only [btr_iff] at *
  grind
theorem upV_self {s x : Nat × Nat} : ¬ btr x (upV s x) = true := by
  obtain ⟨r1, r2⟩ := s
  obtain ⟨a1, a2⟩ := x
  unfold upV
  simp only [btr_iff] at *
  grind
section Bs1
variable {L : List Nat} {v : Nat → Nat} {c s lo hi : Nat}
theorem bsV_s (st : Nat × Nat) (n : Nat) : bsV L v c s lo hi st (n + 1) = if L.getD n 0 = c ∧ lo ≤ v n ∧ v n ≤ hi then upV (bsV L v c s lo hi st n) (cnV L v c (v n) s, v n) else bsV L v c s lo hi st n := by
  show (if L.getD n 0 = c ∧ lo ≤ v n ∧ v n ≤ hi ∧ btr (cnV L v c (v n) s, v n) (bsV L v c s lo hi st n) = true then (cnV L v c (v n) s, v n) else bsV L v c s lo hi st n) = _
  unfold upV
  by_cases z : L.getD n 0 = c ∧ lo ≤ v n ∧ v n ≤ hi
  · rw [if_pos z]
    by_cases y : btr (cnV L v c (v n) s, v n) (bsV L v c s lo hi st n) = true
    · rw [if_pos y, if_pos ⟨z.1, z.2.1, z.2.2, y⟩]
    · rw [if_neg y, if_neg (fun w => y w.2.2.2)]
  · rw [if_neg z, if_neg (fun w => z ⟨w.1, w.2.1, w.2.2.1⟩)]
theorem cnV_pos {x : Nat} : ∀ n, 0 < cnV L v c x n → ∃ i, i < n ∧ L.getD i 0 = c ∧ v i = x
  | 0, h => absurd h (Nat.lt_irrefl 0)
  | n + 1, h => by
    have e : cnV L v c x (n + 1) = if L.getD n 0 = c ∧ v n = x then cnV L v c x n + 1 else cnV L v c x n := rfl
    by_cases z : L.getD n 0 = c ∧ v n = x
    · exact ⟨n, by omega, z⟩
    · rw [e, if_neg z] at h
      obtain ⟨i, h1, h2⟩ := cnV_pos n h
      exact ⟨i, by omega, h2⟩
theorem bsV_up : ∀ n, bsV L v c s lo hi (cnV L v c lo s, lo) n = upV (bsV L v c s lo hi (0, lo) n) (cnV L v c lo s, lo)
  | 0 => by
    show (cnV L v c lo s, lo) = upV (0, lo) (cnV L v c lo s, lo)
    unfold upV
    simp only [btr_iff]
    by_cases z : cnV L v c lo s = 0
    · rw [z]
      split <;> rfl
    · rw [if_pos (Or.inl (by show 0 < cnV L v c lo s; omega))]
  | n + 1 => by
    rw [bsV_s, bsV_s, bsV_up n]
    by_cases z : L.getD n 0 = c ∧ lo ≤ v n ∧ v n ≤ hi
    · rw [if_pos z, if_pos z, upV_comm]
    · rw [if_neg z, if_neg z]
theorem bsV_n0 : ∀ n, ¬ btr (0, lo) (bsV L v c s lo hi (0, lo) n) = true
  | 0 => by
    show ¬ btr (0, lo) (0, lo) = true
    rw [btr_iff]
    omega
  | n + 1 => by
    rw [bsV_s]
    split
    · exact upV_no (bsV_n0 n)
    · exact bsV_n0 n
theorem bsV_n1 {i : Nat} (h1 : L.getD i 0 = c) (h2 : v i = lo) (h3 : lo ≤ hi) : ∀ n, i < n → ¬ btr (cnV L v c lo s, lo) (bsV L v c s lo hi (0, lo) n) = true
  | 0, h => absurd h (Nat.not_lt_zero i)
  | n + 1, h => by
    rw [bsV_s]
    by_cases y : i = n
    · rw [if_pos (by rw [← y]; exact ⟨h1, by omega, by omega⟩), ← y, h2]
      exact upV_self
    · have ih := bsV_n1 h1 h2 h3 n (by omega)
      split
      · exact upV_no ih
      · exact ih
theorem bs_one (h : lo ≤ hi) : bsV L v c s lo hi (cnV L v c lo s, lo) s = bsV L v c s lo hi (0, lo) s := by
  rw [bsV_up, upV, if_neg]
  by_cases z : cnV L v c lo s = 0
  · rw [z]
    exact bsV_n0 s
  · obtain ⟨i, h1, h2, h3⟩ := cnV_pos s (Nat.pos_of_ne_zero z)
    exact bsV_n1 h2 h3 h s h1
theorem cnV_nu {x : Nat} : ∀ n, cnV L v c x n ≤ nuV L c n
  | 0 => Nat.le_refl _
  | n + 1 => by
    have ih := cnV_nu (x := x) n
    show (if L.getD n 0 = c ∧ v n = x then cnV L v c x n + 1 else cnV L v c x n) ≤ (if L.getD n 0 = c then nuV L c n + 1 else nuV L c n)
    by_cases z : L.getD n 0 = c
    · rw [if_pos z]
      split <;> omega
    · rw [if_neg z, if_neg (fun y => z y.1)]
      exact ih
theorem nuV_le : ∀ n, nuV L c n ≤ n
  | 0 => Nat.le_refl _
  | n + 1 => by
    have ih := nuV_le n
    show (if L.getD n 0 = c then nuV L c n + 1 else nuV L c n) ≤ n + 1
    split <;> omega
theorem bsV_b {st : Nat × Nat} (h1 : st.1 ≤ nuV L c s) (h2 : st.2 = lo) (hv : ∀ i, v i < 1000) (hl : lo < 1000) : ∀ n, (bsV L v c s lo hi st n).1 ≤ nuV L c s ∧ (bsV L v c s lo hi st n).2 < 1000
  | 0 => ⟨h1, by rw [show bsV L v c s lo hi st 0 = st from rfl, h2]; exact hl⟩
  | n + 1 => by
    have ih := bsV_b h1 h2 hv hl n
    rw [bsV_s]
    by_cases z : L.getD n 0 = c ∧ lo ≤ v n ∧ v n ≤ hi
    · rw [if_pos z]
      unfold upV
      split
      · exact ⟨cnV_nu s, hv n⟩
      · exact ih
    · rw [if_neg z]
      exact ih
theorem loV_b {d : Nat} (hv : ∀ i, v i < 1000) : ∀ n, loV L v d c n < 1000
  | 0 => by show 0 < 1000; omega
  | n + 1 => by
    have ih := loV_b (d := d) hv n
    have := hv n
    show (if L.getD n 0 = c then max (loV L v d c n) (v n - d) else loV L v d c n) < 1000
    split <;> omega
theorem hiV_b {d : Nat} : ∀ n, hiV L v d c n < 10000
  | 0 => by show 9999 < 10000; omega
  | n + 1 => by
    have ih := hiV_b (d := d) n
    show (if L.getD n 0 = c then min (hiV L v d c n) (v n + d) else hiV L v d c n) < 10000
    split <;> omega
end Bs1
/-- what settle may write: group values -/
def PG (m m' : Mem) : Prop := Ch [] [48] nil m m' ∧ mC m' = mC m ∧ mS m' = mS m
theorem PG.rfl {m : Mem} : PG m m := ⟨Ch.rfl, Eq.refl _, Eq.refl _⟩
theorem PG.trans {m m1 m2 : Mem} (h : PG m m1) (k : PG m1 m2) : PG m m2 := ⟨h.1.trans k.1, k.2.1.trans h.2.1, k.2.2.trans h.2.2⟩
section Se
variable {m : Mem} {s : Nat} {L : List Nat} {mb tv : Nat → Nat} {ap : Nat → Nat → Bool}
theorem PR_pg {m' : Mem} (h : PR m s L mb tv ap) (h60 : 51 ≤ mC m) (k : PG m m') : PR m' s L mb tv ap := by
  obtain ⟨h1, h2, h3, h4⟩ := h
  have e46 := (k.1.2.2.2 46 (by decide) (fun z => z) (by omega)).1
  have e47 := (k.1.2.2.2 47 (by decide) (fun z => z) (by omega)).1
  have e42 := (k.1.2.2.2 42 (by decide) (fun z => z) (by omega)).1
  have e43 := (k.1.2.2.2 43 (by decide) (fun z => z) (by omega)).1
  refine ⟨h1, ((k.1.2.2.1 901 (by decide) 41 (by omega)).1).trans h2, ?_, ?_⟩
  · rw [e46, e47]
    exact h3
  · rw [e42, e43]
    exact h4
theorem P_settle_108_e {c lo hi nu : Nat} (hc : c < 7) (hlo : lo < 1000) (hhi : hi < 10000) (htv : ∀ i, tv (mb i) < 1000) (hnu : nu = nuV L c s) : ∀ (k j fu : Nat) (m : Mem), PR m s L mb tv ap → 51 ≤ mC m → j + k = s → k < fu →
    aI m 48 c = nj (bsV L (fun i => tv (mb i)) c s lo hi (cnV L (fun i => tv (mb i)) c lo s, lo) j).2 →
    ∃ m', P_Parting_settle_108 fu (nj c) (nj lo) (nj hi) (nj nu) (nj (bsV L (fun i => tv (mb i)) c s lo hi (cnV L (fun i => tv (mb i)) c lo s, lo) j).1) (nj j) m = some (nj (nu - (bsV L (fun i => tv (mb i)) c s lo hi (cnV L (fun i => tv (mb i)) c lo s, lo) s).1), m') ∧ PG m m' ∧
      ∀ i, aI m' 48 i = if i = c then nj (bsV L (fun i => tv (mb i)) c s lo hi (cnV L (fun i => tv (mb i)) c lo s, lo) s).2 else aI m 48 i
  | 0, j, fu + 1, m, h, h60, h1, _, h3 => by
    have hs := h.1
    have hb := bsV_b (L := L) (v := fun i => tv (mb i)) (c := c) (s := s) (lo := lo) (hi := hi) (st := (cnV L (fun i => tv (mb i)) c lo s, lo)) (cnV_nu s) rfl htv hlo s
    have e : j = s := by omega
    refine ⟨m, ?_, PG.rfl, fun i => ?_⟩
    · rw [P_Parting_settle_108.eq_2, h.2.1, if_pos (by rw [nj_le (by omega) (by omega)]; omega), P_Parting_settle_205, e, nj_sub (by rw [hnu]; exact hb.1)]
    · rw [e] at h3
      split
      · next z => rw [z, h3]
      · rfl
  | k + 1, j, fu + 1, m, h, h60, h1, h2, h3 => by
    have hs := h.1
    have hj := h.2.2.1 j (by omega)
    have ht := h.2.2.2 (mb j) hj.1
    have hnl := nuV_le (L := L) (c := c) s
    have hb := bsV_b (L := L) (v := fun i => tv (mb i)) (c := c) (s := s) (lo := lo) (hi := hi) (st := (cnV L (fun i => tv (mb i)) c lo s, lo)) (cnV_nu s) rfl htv hlo j
    have g : ∀ {β : Type} (z : Option β), gd (inb (nj j) 7) z = z := fun z => by rw [inb_nj (by omega), gd_t (decide_eq_true (by omega))]
    have gc : ∀ {β : Type} (z : Option β), gd (inb (nj c) 7) z = z := fun z => by rw [inb_nj (by omega), gd_t (decide_eq_true (by omega))]
    have g2 : ∀ {β : Type} (z : Option β), gd (inb (nj (mb j)) 16) z = z := fun z => by rw [inb_nj (by omega), gd_t (decide_eq_true (by omega))]
    have ih := P_settle_108_e hc hlo hhi htv hnu k (j + 1) fu
    rw [bsV_s] at ih
    rw [P_Parting_settle_108.eq_2, h.2.1, if_neg (by rw [nj_le (by omega) (by omega)]; omega)]
    unfold P_Parting_settle_187 P_Parting_settle_199
    simp only [g, ix_nj (show j < 2147483648 by omega), hj.2.2.2, hj.2.1, g2, vb_e, ix_nj (show mb j < 2147483648 by omega), ht.2.1, nj_add_l, gc, ix_nj (show c < 2147483648 by omega)]
    have ez : (nj (L.getD j 0) = nj c) = (L.getD j 0 = c) := nj_inj (by omega) (by omega)
    simp only [ez]
    by_cases z : L.getD j 0 = c
    · rw [if_pos z, P_within_e, bp_s]
      have ew : (nj lo ≤ nj (tv (mb j)) ∧ nj (tv (mb j)) ≤ nj hi) = (lo ≤ tv (mb j) ∧ tv (mb j) ≤ hi) := by rw [nj_le (by omega) (by omega), nj_le (by omega) (by omega)]
      by_cases y : lo ≤ tv (mb j) ∧ tv (mb j) ≤ hi
      · rw [decide_eq_true (ew.mpr y), tI_t, if_neg (show ¬ (1 : Int32) = 0 by decide), P_withValue_e h (by omega) (by omega), bn_s]
        have hcl := cnV_le (L := L) (v := fun i => tv (mb i)) (c := c) (x := tv (mb j)) s
        rw [if_pos (⟨z, y.1, y.2⟩ : L.getD j 0 = c ∧ lo ≤ (fun i => tv (mb i)) j ∧ (fun i => tv (mb i)) j ≤ hi)] at ih
        have e1 : ∀ a b : Nat, a < 100 → b < 100 → (nj a < nj b) = (a < b) := fun a b ha hb => nj_lt (by omega) (by omega)
        simp only [nj_lt (show (bsV L (fun i => tv (mb i)) c s lo hi (cnV L (fun i => tv (mb i)) c lo s, lo) j).1 < 2147483648 by omega) (show cnV L (fun i => tv (mb i)) c (tv (mb j)) s < 2147483648 by omega), nj_inj (show cnV L (fun i => tv (mb i)) c (tv (mb j)) s < 2147483648 by omega) (show (bsV L (fun i => tv (mb i)) c s lo hi (cnV L (fun i => tv (mb i)) c lo s, lo) j).1 < 2147483648 by omega), h3, nj_le (show (bsV L (fun i => tv (mb i)) c s lo hi (cnV L (fun i => tv (mb i)) c lo s, lo) j).2 < 2147483648 by omega) (show tv (mb j) < 2147483648 by omega)]
        have up : btr (cnV L (fun i => tv (mb i)) c (tv (mb j)) s, tv (mb j)) (bsV L (fun i => tv (mb i)) c s lo hi (cnV L (fun i => tv (mb i)) c lo s, lo) j) = true → ∃ m', P_Parting_settle_108 fu (nj c) (nj lo) (nj hi) (nj nu) (nj (cnV L (fun i => tv (mb i)) c (tv (mb j)) s)) (nj (j + 1)) (wI m 48 c (nj (tv (mb j)))) = some (nj (nu - (bsV L (fun i => tv (mb i)) c s lo hi (cnV L (fun i => tv (mb i)) c lo s, lo) s).1), m') ∧ PG m m' ∧ ∀ i, aI m' 48 i = if i = c then nj (bsV L (fun i => tv (mb i)) c s lo hi (cnV L (fun i => tv (mb i)) c lo s, lo) s).2 else aI m 48 i := by
          intro w
          have pg : PG m (wI m 48 c (nj (tv (mb j)))) := ⟨Ch.rfl.wI (Or.inl (by decide)), by simp only [k_aI_wI_e, k_aI_wI, k_aI_wL, k_aI_wR, k_aI_sI, k_aI_sL, k_aI_sR, k_aI_nw, k_aL_wL_e, k_aL_wL, k_aL_wI, k_aL_wR, k_aL_sI, k_aL_sL, k_aL_sR, k_aL_nw, k_aR_wR_e, k_aR_wR, k_aR_wI, k_aR_wL, k_aR_sI, k_aR_sL, k_aR_sR, k_aR_nw, k_mI_sI_e, k_mI_sI, k_mI_wI, k_mI_wL, k_mI_wR, k_mI_sL, k_mI_sR, k_mI_nw, k_mL_sL_e, k_mL_sL, k_mL_wI, k_mL_wL, k_mL_wR, k_mL_sI, k_mL_sR, k_mL_nw, k_mR_sR_e, k_mR_sR, k_mR_wI, k_mR_wL, k_mR_wR, k_mR_sI, k_mR_sL, k_mR_nw, k_mT_wI, k_mT_wL, k_mT_wR, k_mT_sI, k_mT_sL, k_mT_sR, k_mT_nw, k_mN_wI, k_mN_wL, k_mN_wR, k_mN_sI, k_mN_sL, k_mN_sR, k_mN_nw, k_mC_wI, k_mC_wL, k_mC_wR, k_mC_sI, k_mC_sL, k_mC_sR, k_mC_nw, k_mS_wI, k_mS_wL, k_mS_wR, k_mS_sI, k_mS_sL, k_mS_sR, k_mS_nw, k_zF_1, k_zF_3, k_zF_11, k_zF_32, k_zF_36, k_zA_1, k_zA_3, k_zA_11, k_zA_32, k_zA_36, k_mT_fil, k_mN_fil, k_mI_fil, k_mL_fil, k_mR_fil, k_aL_fil, k_aR_fil, k_mC_fil, k_mS_fil, k_aI_fil_e, k_aI_fil], by simp only [k_aI_wI_e, k_aI_wI, k_aI_wL, k_aI_wR, k_aI_sI, k_aI_sL, k_aI_sR, k_aI_nw, k_aL_wL_e, k_aL_wL, k_aL_wI, k_aL_wR, k_aL_sI, k_aL_sL, k_aL_sR, k_aL_nw, k_aR_wR_e, k_aR_wR, k_aR_wI, k_aR_wL, k_aR_sI, k_aR_sL, k_aR_sR, k_aR_nw, k_mI_sI_e, k_mI_sI, k_mI_wI, k_mI_wL, k_mI_wR, k_mI_sL, k_mI_sR, k_mI_nw, k_mL_sL_e, k_mL_sL, k_mL_wI, k_mL_wL, k_mL_wR, k_mL_sI, k_mL_sR, k_mL_nw, k_mR_sR_e, k_mR_sR, k_mR_wI, k_mR_wL, k_mR_wR, k_mR_sI, k_mR_sL, k_mR_nw, k_mT_wI, k_mT_wL, k_mT_wR, k_mT_sI, k_mT_sL, k_mT_sR, k_mT_nw, k_mN_wI, k_mN_wL, k_mN_wR, k_mN_sI, k_mN_sL, k_mN_sR, k_mN_nw, k_mC_wI, k_mC_wL, k_mC_wR, k_mC_sI, k_mC_sL, k_mC_sR, k_mC_nw, k_mS_wI, k_mS_wL, k_mS_wR, k_mS_sI, k_mS_sL, k_mS_sR, k_mS_nw, k_zF_1, k_zF_3, k_zF_11, k_zF_32, k_zF_36, k_zA_1, k_zA_3, k_zA_11, k_zA_32, k_zA_36, k_mT_fil, k_mN_fil, k_mI_fil, k_mL_fil, k_mR_fil, k_aL_fil, k_aR_fil, k_mC_fil, k_mS_fil, k_aI_fil_e, k_aI_fil]⟩
          rw [upV, if_pos w] at ih
          obtain ⟨m', i1, i2, i3⟩ := ih _ (PR_pg h h60 pg) (by rw [pg.2.1]; exact h60) (by omega) (by omega) (by rw [k_aI_wI_e, up1_ap, if_pos rfl])
          refine ⟨m', i1, pg.trans i2, fun i => ?_⟩
          rw [i3]
          by_cases x : i = c
          · rw [if_pos x, if_pos x]
          · rw [if_neg x, if_neg x, k_aI_wI_e, up1_ap, if_neg x]
        have no : ¬ btr (cnV L (fun i => tv (mb i)) c (tv (mb j)) s, tv (mb j)) (bsV L (fun i => tv (mb i)) c s lo hi (cnV L (fun i => tv (mb i)) c lo s, lo) j) = true → ∃ m', P_Parting_settle_108 fu (nj c) (nj lo) (nj hi) (nj nu) (nj (bsV L (fun i => tv (mb i)) c s lo hi (cnV L (fun i => tv (mb i)) c lo s, lo) j).1) (nj (j + 1)) m = some (nj (nu - (bsV L (fun i => tv (mb i)) c s lo hi (cnV L (fun i => tv (mb i)) c lo s, lo) s).1), m') ∧ PG m m' ∧ ∀ i, aI m' 48 i = if i = c then nj (bsV L (fun i => tv (mb i)) c s lo hi (cnV L (fun i => tv (mb i)) c lo s, lo) s).2 else aI m 48 i := by
          intro w
          rw [upV, if_neg w] at ih
          exact ih m h h60 (by omega) (by omega) h3
        rw [btr_iff] at up no
        by_cases u1 : (bsV L (fun i => tv (mb i)) c s lo hi (cnV L (fun i => tv (mb i)) c lo s, lo) j).1 < cnV L (fun i => tv (mb i)) c (tv (mb j)) s
        · rw [if_pos u1]
          exact up (Or.inl u1)
        · rw [if_neg u1]
          by_cases u2 : cnV L (fun i => tv (mb i)) c (tv (mb j)) s = (bsV L (fun i => tv (mb i)) c s lo hi (cnV L (fun i => tv (mb i)) c lo s, lo) j).1
          · rw [if_pos u2]
            by_cases u3 : (bsV L (fun i => tv (mb i)) c s lo hi (cnV L (fun i => tv (mb i)) c lo s, lo) j).2 ≤ tv (mb j)
            · rw [if_pos u3]
              exact no (by rintro (w | w); exact u1 w; exact absurd w.2 (Nat.not_lt.mpr u3))
            · rw [if_neg u3]
              exact up (Or.inr ⟨u2, Nat.not_le.mp u3⟩)
          · rw [if_neg u2]
            exact no (by rintro (w | w); exact u1 w; exact u2 w.1)
      · rw [decide_eq_false (fun w => y (ew.mp w)), tI_f, if_pos (show (0 : Int32) = 0 from rfl)]
        rw [if_neg (fun w => y ⟨w.2.1, w.2.2⟩ : ¬ (L.getD j 0 = c ∧ lo ≤ (fun i => tv (mb i)) j ∧ (fun i => tv (mb i)) j ≤ hi))] at ih
        exact ih m h h60 (by omega) (by omega) h3
    · rw [if_neg z]
      rw [if_neg (fun w => z w.1 : ¬ (L.getD j 0 = c ∧ lo ≤ (fun i => tv (mb i)) j ∧ (fun i => tv (mb i)) j ≤ hi))] at ih
      exact ih m h h60 (by omega) (by omega) h3
end Se
