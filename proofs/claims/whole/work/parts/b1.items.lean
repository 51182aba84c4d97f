/-! Layer C: what taking an ITEM may change; the reference goes on after a failure -/
def RiF : List Nat := [1547, 1548, 1549, 1550, 1551, 1552, 1580, 1581, 1585, 1587, 1590]
def RiA : List Nat := [15, 16, 17, 18, 19, 20, 21, 22, 23, 24, 25, 26, 27, 28, 29, 30, 31, 32, 33, 34, 35, 36]
/-- ITEM i is written; lits below l, codes below c stay, other ITEMS too -/
def Ri (i l c : Nat) (r r' : Mem) : Prop := Ch RiF RiA nil r r' ∧ mC r' = mC r ∧ mS r' = mS r ∧ (∀ j, j < c → aI r' 33 j = aI r 33 j ∧ aI r' 34 j = aI r 34 j) ∧ (∀ j, j < l → ∀ x, 27 ≤ x → x ≤ 32 → aI r' x j = aI r x j) ∧ (∀ y j, 15 ≤ y → y ≤ 25 → j ≠ i → aI r' y j = aI r y j) ∧ ∀ j, j < 4 * i → aI r' 26 j = aI r 26 j
def Rj (i : Nat) (r r' : Mem) : Prop := (∀ l c, Ri i l c r r') ∧ aL r' 35 = aL r 35
section Ri
variable {i l c : Nat} {r r1 r2 : Mem}
theorem Ri.rfl : Ri i l c r r := ⟨Ch.rfl, by trivial, by trivial, fun _ _ => ⟨by trivial, by trivial⟩, fun _ _ _ _ _ => by trivial, fun _ _ _ _ _ => by trivial, fun _ _ => by trivial⟩
theorem Ri.trans (h : Ri i l c r r1) (k : Ri i l c r1 r2) : Ri i l c r r2 := by
  obtain ⟨a1, a2, a3, a4, a5, a6, a7⟩ := h
  obtain ⟨b1, b2, b3, b4, b5, b6, b7⟩ := k
  exact ⟨Ch.trans a1 b1, b2.trans a2, b3.trans a3, fun j hj => ⟨(b4 j hj).1.trans (a4 j hj).1, (b4 j hj).2.trans (a4 j hj).2⟩, fun j hj x h1 h2 => (b5 j hj x h1 h2).trans (a5 j hj x h1 h2), fun y j h1 h2 h3 => (b6 y j h1 h2 h3).trans (a6 y j h1 h2 h3), fun j hj => (b7 j hj).trans (a7 j hj)⟩
theorem Ri.mono {l' c' : Nat} (h : Ri i l c r r1) (hl : l' ≤ l) (hc : c' ≤ c) : Ri i l' c' r r1 := ⟨h.1, h.2.1, h.2.2.1, fun j hj => h.2.2.2.1 j (by omega), fun j hj => h.2.2.2.2.1 j (by omega), h.2.2.2.2.2⟩
theorem Rk.ri (h : Rk l c r r1) (h82 : 82 ≤ mC r) : Ri i l c r r1 := ⟨h.1.mono (by decide) (by decide) (fun _ z => z), h.2.1, h.2.2.1, h.2.2.2.1, h.2.2.2.2, fun y j h1 h2 _ => by rw [(h.1.2.2.2 y (by simp only [List.mem_cons, List.not_mem_nil, or_false]; omega) (fun z => z) (by omega)).1], fun j _ => by rw [(h.1.2.2.2 26 (by decide) (fun z => z) (by omega)).1]⟩
theorem Rt.ri (h : Rt r r1) (h82 : 82 ≤ mC r) : Ri i l c r r1 := ⟨h.1.mono (by decide) (by decide) (fun _ z => z), h.2.1, h.2.2, fun j _ => by rw [(h.1.2.2.2 33 (by decide) (fun z => z) (by omega)).1, (h.1.2.2.2 34 (by decide) (fun z => z) (by omega)).1]; exact ⟨by trivial, by trivial⟩, fun j _ x h1 h2 => by rw [(h.1.2.2.2 x (by simp only [List.mem_cons, List.not_mem_nil, or_false]; omega) (fun z => z) (by omega)).1], fun y j h1 h2 _ => by rw [(h.1.2.2.2 y (by simp only [List.mem_cons, List.not_mem_nil, or_false]; omega) (fun z => z) (by omega)).1], fun j _ => by rw [(h.1.2.2.2 26 (by decide) (fun z => z) (by omega)).1]⟩
theorem Ri.wI {y : Nat} {v : Int32} (h : Ri i l c r r1) (h1 : 15 ≤ y) (h2 : y ≤ 25) : Ri i l c r (wI r1 y i v) := by
  refine ⟨h.1.wI (Or.inl (by unfold RiA; simp only [List.mem_cons, List.not_mem_nil, or_false]; omega)), h.2.1, h.2.2.1, fun j hj => ?_, fun j hj x q1 q2 => ?_, fun z j q1 q2 q3 => ?_, fun j hj => ?_⟩
  · rw [wI_lo (by omega), wI_lo (by omega)]; exact h.2.2.2.1 j hj
  · rw [wI_lo (by omega)]; exact h.2.2.2.2.1 j hj x q1 q2
  · rw [wI_lo (by omega)]; exact h.2.2.2.2.2.1 z j q1 q2 q3
  · rw [wI_lo (by omega)]; exact h.2.2.2.2.2.2 j hj
theorem ri_w26 {j : Nat} {v : Int32} (h : Ri i l c r r1) (hj : 4 * i ≤ j) : Ri i l c r (wI r1 26 j v) := by
  refine ⟨h.1.wI (Or.inl (by decide)), h.2.1, h.2.2.1, fun k hk => ?_, fun k hk x q1 q2 => ?_, fun z k q1 q2 q3 => ?_, fun k hk => ?_⟩
  · rw [wI_lo (by omega), wI_lo (by omega)]; exact h.2.2.2.1 k hk
  · rw [wI_lo (by omega)]; exact h.2.2.2.2.1 k hk x q1 q2
  · rw [wI_lo (by omega)]; exact h.2.2.2.2.2.1 z k q1 q2 q3
  · rw [wI_lo (by omega)]; exact h.2.2.2.2.2.2 k hk
theorem Rx.rj (h : ∀ C, Rx C r r1) (h82 : 82 ≤ mC r) : Rj i r r1 := ⟨fun l c => Rk.ri (Rx.rk (h c) h82) h82, (h 0).1.al (by decide) (fun z => z) (by omega)⟩
theorem Rj.trans (h : Rj i r r1) (k : Rj i r1 r2) : Rj i r r2 := ⟨fun l c => Ri.trans (h.1 l c) (k.1 l c), k.2.trans h.2⟩
theorem Rj.rfl : Rj i r r := ⟨fun _ _ => Ri.rfl, by trivial⟩
theorem Rj.wI {y : Nat} {v : Int32} (h : Rj i r r1) (h1 : 15 ≤ y) (h2 : y ≤ 25) : Rj i r (wI r1 y i v) := ⟨fun l c => (h.1 l c).wI h1 h2, h.2⟩
theorem Rf.wI {y j q d : Nat} {v : Int32} (h : Rf r d q) : Rf (wI r y j v) d q := ⟨h.1, h.2.1, h.2.2.1, h.2.2.2⟩
end Ri
section Fi
variable {r : Mem} {i d q : Nat}
theorem e159_f (h : Rf r d q) (hi : i < 750) (h82 : 82 ≤ mC r) : ∃ r', R_tellClass_159 (nj i) r = some ((), r') ∧ Rf r' d q ∧ Rj i r r' := by
  unfold R_tellClass_159
  rw [inb_nj (by omega), gd_t (decide_eq_true hi), vb_e, ix_nj (by omega)]
  obtain ⟨r1, a1, a2, a3, -⟩ := expr_f (h.wI (y := 21) (j := i) (v := mI r 1581 0))
  rw [a1, bn_s, gd_t (decide_eq_true hi), vb_e]
  exact ⟨_, rfl, a2.wI, (Rj.trans ((Rj.rfl).wI (by omega) (by omega)) (Rx.rj a3 h82)).wI (by omega) (by omega)⟩
theorem e99_f (h : Rf r d q) (hi : i < 750) (h82 : 82 ≤ mC r) : ∃ r', R_tellClass_99 (nj i) r = some ((), r') ∧ Rf r' d q ∧ Rj i r r' := by
  unfold R_tellClass_99
  rw [is_f h, bn_s, inb_nj (by omega), gd_t (decide_eq_true hi), gz_t (Or.inl rfl), vb_e, ix_nj (by omega)]
  have h1 : Rf (wI r 18 i 0) d q := h.wI
  obtain ⟨r', a1, a2, a3⟩ := e159_f h1 hi h82
  rw [is_f h1, bn_s, if_pos rfl, must_f h1, bn_s, a1]
  exact ⟨r', rfl, a2, Rj.trans (Rj.rfl.wI (by omega) (by omega)) a3⟩
theorem e20_f {fu : Nat} {x2 x3 : Int32} (h : Rf r d q) (hi : i < 750) (h82 : 82 ≤ mC r) : ∃ r', R_tellClass_20 (fu + 1) (nj i) x2 x3 r = some ((), r') ∧ Rf r' d q ∧ Rj i r r' := by
  rw [R_tellClass_20.eq_2, if_neg h.ne.1]
  obtain ⟨r', a1, a2, a3⟩ := e99_f h hi h82
  rw [a1]
  exact ⟨r', by split <;> rfl, a2, a3⟩
theorem tellClass_f (h : Rf r d q) (hi : i < 750) (h82 : 82 ≤ mC r) : ∃ r', R_tellClass (nj i) r = some ((), r') ∧ Rf r' d q ∧ Rj i r r' := by
  unfold R_tellClass
  rw [name_f h, bn_s, inb_nj (by omega), gd_t (decide_eq_true hi), vb_e, ix_nj (by omega)]
  have h1 : Rf (wI r 16 i 0) d q := h.wI
  obtain ⟨n, hn⟩ : ∃ n, FU = n + 1 := ⟨FU - 1, by unfold FU; omega⟩
  obtain ⟨r', a1, a2, a3⟩ := e20_f (fu := n) (x2 := 0) (x3 := 1) h1 hi h82
  rw [must_f h1, bn_s, hn, a1]
  exact ⟨r', rfl, a2, Rj.trans (Rj.rfl.wI (by omega) (by omega)) a3⟩
theorem e61_f {fu : Nat} (h : Rf r d q) : R_tellLoad_61 (fu + 1) (nj i) r = some ((), r) := by
  rw [R_tellLoad_61.eq_2, is_f h, bn_s, if_pos rfl]
theorem tellLoad2_f (h : Rf r d q) (hi : i < 750) (h82 : 82 ≤ mC r) : ∃ r', (vb (wI r 23 i (mI r 1580 0)) fun m24 => bn (R_is 27 m24) fun r25 m26 => if r25 = 0 then R_tellLoad_61 FU (nj i) m26 else bn (R_next m26) fun _ m31 => bn (R_cond m31) fun _ m35 => R_tellLoad_61 FU (nj i) m35) = some ((), r') ∧ Rf r' d q ∧ Rj i r r' := by
  have h1 : Rf (wI r 23 i (mI r 1580 0)) d q := h.wI
  obtain ⟨n, hn⟩ : ∃ n, FU = n + 1 := ⟨FU - 1, by unfold FU; omega⟩
  rw [vb_e, is_f h1, bn_s, if_pos rfl, hn, e61_f h1]
  exact ⟨_, rfl, h1, Rj.rfl.wI (by omega) (by omega)⟩
theorem tellLoad_f (h : Rf r d q) (hi : i < 750) (h82 : 82 ≤ mC r) : ∃ r', R_tellLoad (nj i) r = some ((), r') ∧ Rf r' d q ∧ Rj i r r' := by
  unfold R_tellLoad
  have g : ∀ {β : Type} (z : Option β), gd (inb (nj i) 750) z = z := fun z => by rw [inb_nj (by omega), gd_t (decide_eq_true hi)]
  rw [name_f h, bn_s, g, vb_e, g, vb_e, ix_nj (by omega)]
  obtain ⟨r1, a1, a2, a3, -⟩ := expr_f (((h.wI (y := 16) (j := i) (v := 0))).wI (y := 21) (j := i) (v := mI (wI r 16 i 0) 1581 0))
  have h821 : 82 ≤ mC r1 := by rw [(a3 0).2.1]; exact h82
  obtain ⟨r2, b1, b2, b3⟩ := tellLoad2_f (a2.wI (y := 22) (j := i) (v := mI r1 1581 0)) hi h821
  rw [a1, bn_s, g, vb_e, g, b1]
  exact ⟨r2, rfl, b2, Rj.trans ((Rj.trans ((Rj.rfl.wI (by omega) (by omega)).wI (by omega) (by omega)) (Rx.rj a3 h82)).wI (by omega) (by omega)) b3⟩
theorem e501_f (h : Rf r d q) (hi : i < 750) : ∃ r', R_tellItem_501 (nj i) r = some ((), r') ∧ Rf r' d q ∧ Rj i r r' := by
  unfold R_tellItem_501
  have h1 : Rf (wI r 24 i (mI r 1580 0)) d q := h.wI
  rw [must_f h, bn_s, inb_nj (by omega), gd_t (decide_eq_true hi), vb_e, ix_nj (by omega), if_neg h1.ne.1]
  exact ⟨_, rfl, h1, Rj.rfl.wI (by omega) (by omega)⟩
theorem cond_f (h : Rf r d q) : R_cond r = some ((), r) := by
  unfold R_cond
  obtain ⟨n, hn⟩ : ∃ n, FU = n + 1 := ⟨FU - 1, by unfold FU; omega⟩
  rw [hn, R_cond_4.eq_2, if_neg (show ¬ (1 : Int32) = 0 by decide), if_neg h.ne.1]
end Fi
