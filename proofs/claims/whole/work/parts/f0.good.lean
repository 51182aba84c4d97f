/-! Layer C: a good TEXT, both sides -/
theorem Hc.mv {D : Dt} {x s0 v : Nat} {p r p' r' : Mem} (h : Hc D x s0 v p r) (e1 : ∀ f, 783 ≤ f → f ≤ 786 → mI p' f 22 = mI p f 22) (e2 : ∀ y, 8 ≤ y → y ≤ 13 → aI r' y = aI r y) (e3 : mI r' 1551 0 = 0 → mI r 1551 0 = 0) : Hc D x s0 v p' r' := by
  obtain ⟨h1, h2, h3, h4, h5, h6, h7, h8, h9, h10, h11⟩ := h
  unfold Hc
  rw [e1 783 (by omega) (by omega), e1 784 (by omega) (by omega), e1 785 (by omega) (by omega), e1 786 (by omega) (by omega), e2 8 (by omega) (by omega), e2 9 (by omega) (by omega), e2 10 (by omega) (by omega), e2 11 (by omega) (by omega), e2 13 (by omega) (by omega)]
  exact ⟨h1, h2, h3, h4, h5, h6, fun z => h7 (e3 z), h8, fun z => h9 (e3 z), h10, fun z => h11 (e3 z)⟩
section Gd
variable {p r b m : Mem} {nc N x fc s0 v k t nm l c : Nat} {kd pl it sA cA : Nat → Nat}
theorem read_good (C : Core nc p r) (Wi : WItems (dat r) nc) (hw0 : 0 ≤ mI p 1157 25) (hx : (dat r).2.1 = x) (hfc : (dat r).2.2 = fc) (hx2 : x ≤ 23) (h160 : fc < 160) (Rp : Rdp p b) (Rr : Rdr x r m) (hnm : nc ≤ nm) (hnm60 : nm ≤ 60) (hlp : Lp N kd pl x fc s0 (mC p) k b m t nm l c it sA cA) (hv : v < nm) (Hd : Hc (dat r) x s0 v b m) (h51 : mI m 1551 0 = 0) :
    ∃ p' r', P_read_60 1 b = some (0, p') ∧ R_read_168 m = some (0, r') ∧ Core nm p' r' ∧ WItems (dat r') nm ∧ mI p' 641 16 = 0 ∧ mI p' 1415 0 = -1 ∧ mI r' 1553 0 = -1 ∧ mI r' 1612 0 = -1 ∧ mI r' 1627 0 = -1 ∧ Ch [266, 267, 641, 1415, 514, 515] [14, 15] nil b p' ∧ mC p' ≤ mC b + 8 ∧ mS p' ≤ mS b + 300 ∧ Ch [1553, 1584, 1554, 1601, 1612, 1627] [12, 13, 44, 45, 46, 47, 48] nil m r' ∧ mC r' = mC m ∧ mS r' = mS m := by
  obtain ⟨T, h82, W, Wf, e1, e2, hn60, e4, e5, fa, ta, ia, sa, ca, od, L, hSc⟩ := C
  have O := L.old0 T
  have cp := Rp.ch
  obtain ⟨cr, hmC, hmS⟩ := Rr.ch
  have T1 := T.1
  have Tb := T.Ch cp
  have Tb1 := Tb.1
  have Lb := Rp.lk T L
  have Sb := Rp.sc T L hSc
  obtain ⟨hPi, ht5, hk30, h88, h14, hs0, h8, h783, h514, h782, hb0, hI, inj⟩ := hlp
  obtain ⟨-, g8, g784, g9, g785, g10a, g10b, g786, g11, g13, gaw⟩ := Hd
  have hT := hPi.tN
  obtain ⟨-, -, -, -, h49, -, h773, h774, -, m82, -, -⟩ := hPi.1
  obtain ⟨n1, n2, n3, n4, n5, -⟩ := hPi.2.2.1
  obtain ⟨h87, h778⟩ := n5 hnm60
  have h776 : mI b 776 22 = 0 := by rw [hPi.2.1.1]; exact h51
  obtain ⟨-, -, -, -, hl1, hl2, -, hc1, hc2, -⟩ := hPi
  have e54 : mI m 1554 0 = nj x := by rw [cr.i (by decide) (by omega), e2, hx]
  have e01 : mI m 1601 0 = nj fc := by rw [cr.i (by decide) (by omega), e1, hfc]
  have e54r : mI r 1554 0 = nj x := by rw [e2, hx]
  have e01r : mI r 1601 0 = nj fc := by rw [e1, hfc]
  obtain ⟨a0, as⟩ := gaw h51
  -- the award
  obtain ⟨aw, w1, w2, w3⟩ : ∃ aw, aw ≤ x ∧ (s0 = 0 → aw = x) ∧ (s0 ≠ 0 → aw < x ∧ awd (dat r) (nj v) = some aw) := by
    by_cases z : s0 = 0
    · exact ⟨x, Nat.le_refl _, fun _ => rfl, fun w => absurd z w⟩
    · obtain ⟨q, hq⟩ := as z
      have := ((awd_iff W).mp hq).1
      exact ⟨q, by omega, fun w => absurd w z, fun _ => ⟨by omega, hq⟩⟩
  obtain ⟨o, ho⟩ : ∃ o : Option Nat, o = if s0 = 0 then none else (awd (dat r) (nj v)).map ta := ⟨_, rfl⟩
  have ho' : o = if s0 = 0 then none else some (ta aw) := by
    rw [ho]
    by_cases z : s0 = 0
    · rw [if_pos z, if_pos z]
    · rw [if_neg z, if_neg z, (w3 z).2]
      rfl
  have hIt : ∀ j, j < k → aR b 24 j = some (it j) ∧ mT b (it j) = 3 := fun j hj => by
    obtain ⟨⟨y1, ⟨lo, hi, cc, s, G, -⟩, -⟩, -⟩ := hI j hj
    exact ⟨y1, G.1.2.2.2.1⟩
  obtain ⟨i0, p', a1, F, a3, a4⟩ := good_p (x := x) (v := v) (it := it) Tb Lb W hx hx2 hfc h160 hk30 h782 hIt inj hs0 h783 h514 (by rw [g784, if_pos (by omega)]) (fun j hj => ⟨(hI j hj).1.2.2.2.1, (hI j hj).1.2.2.2.2⟩) ho h773 h774 h776 h778
  obtain ⟨r', b1, FR⟩ := good_r h49 h51 h87 h88 n2 e54 e01 hx2 h160 hs0 h8
  obtain ⟨Nn, R, q12, q13, q44, q45⟩ := good_d hx2 h160 e54r e01r (fun a j hm => Rr.k h82 hm) FR
  have hR : ∀ y, 8 ≤ y → y ≤ 14 → y ≠ 12 → y ≠ 13 → (dat r').1 y x = aI m y x := fun y y1 y2 y3 y4 => R.2.2 y x (by omega) y3 y4 (msk_t y1 y2 (by omega))
  have e8 : (dat r').1 8 x = nj s0 := by rw [hR 8 (by omega) (by omega) (by omega) (by omega)]; exact h8
  have e9 : (dat r').1 9 x = nj v := by rw [hR 9 (by omega) (by omega) (by omega) (by omega)]; exact g9
  have e10 : mI b 785 22 = (dat r').1 10 x := by rw [hR 10 (by omega) (by omega) (by omega) (by omega)]; exact g785
  have e11 : mI b 786 22 = (dat r').1 11 x := by rw [hR 11 (by omega) (by omega) (by omega) (by omega)]; exact g786
  have hNt : Nt (dat r) (dat r') x fc k s0 v aw nm := by
    refine ⟨Nn, hs0, e8, e9, hv, hnm60, fun z => ?_, fun z => ?_, ?_, q12, ?_, w1, ?_, ?_, w2, fun z => (w3 z).1, ?_, hk30, q44, q45, fun z q hq h0 h1 => ?_⟩
    · rw [hR 10 (by omega) (by omega) (by omega) (by omega)]; exact g10a z
    · rw [hR 10 (by omega) (by omega) (by omega) (by omega)]; exact g10b h51 z
    · rw [hR 11 (by omega) (by omega) (by omega) (by omega)]; exact g11 h51
    · rw [q13]
      by_cases z : s0 = 0
      · rw [if_pos z, w2 z]
      · rw [if_neg z, g13]
        rcases lst_awd (nm := nj v) W with ⟨l1, l2⟩ | ⟨q, l1, l2, l3⟩
        · rw [l2] at w3
          exact absurd (w3 z).2 (by simp)
        · rw [hx] at l2
          rw [l2]
          have := (w3 z).2
          rw [l3] at this
          rw [Option.some.inj this]
    · by_cases z : s0 = 0
      · rw [w2 z, e8, z]; rfl
      · rw [Nn.to (by omega) (by omega) (w3 z).1]
        exact ((awd_iff W).mp (w3 z).2).2.1
    · by_cases z : s0 = 0
      · rw [w2 z]; exact e9
      · rw [Nn.to (by omega) (by omega) (w3 z).1]
        exact ((awd_iff W).mp (w3 z).2).2.2
    · rw [hR 14 (by omega) (by omega) (by omega) (by omega)]; exact h14
    · exact awd_none (a0 z) (by omega) h0 h1
  have NI : Nit b m x fc s0 k nm (mC p) it sA cA := fun j hj => by
    obtain ⟨⟨y1, ⟨lo, hi, cc, s, G, y2, y3, y4, y5⟩, y6, y7, y8⟩, y9, y10, y11⟩ := hI j hj
    exact ⟨⟨lo, hi, cc, s, G, by omega, by omega, y4, (y5 h51).1, (y5 h51).2⟩, y6, y9, y10, y11⟩
  obtain ⟨LI, WI⟩ := litem_new hNt Tb Lb W Wi hnm F ho' O NI h51 R
  have LF := lfact_new hNt Tb Lb Wf F
  have LT := ltext_new hNt Tb Lb W F ho' e10 e11
  have LO := lord_new hNt Lb W F e11
  have LS := lsep_new hNt Tb Lb W inj O hb0 NI
  have SC := sc_new hNt Tb Lb Sb F (by rw [cp.i (by decide) (by omega)]; exact hw0)
  have WT := hNt.wtext W hnm
  have WF := hNt.wfact Wf hnm
  obtain ⟨⟨CC, T', c8, cS⟩, -⟩ := F
  obtain ⟨f1, f2, f3, f4, f5, f6, f7, f8, f9, -⟩ := FR
  refine ⟨p', r', a1, b1, ⟨T', by omega, WT, WF, ?_, ?_, hnm60, ?_, f2, _, _, _, _, _, _, ⟨LF, LT, LO, LI, LS⟩, SC⟩, WI, a3, a4, f1, f5, f6, CC, by omega, cS, f7, f8, f9⟩
  · rw [f4, Nn.2.2.2.1]
  · rw [f3, Nn.2.1]
  · rw [CC.i (by decide) (by omega), n3, Nat.min_eq_left hnm60]
end Gd
