/-! Layer C: a NAME taken, both sides -/
def Cn (p p' : Mem) : Prop := Ch [771, 778, 779, 780] [23] nil p p' ∧ mC p' = mC p ∧ mS p' = mS p
def Rn (r r' : Mem) : Prop := Ch [1547, 1585, 1587] [35] nil r r' ∧ mC r' = mC r ∧ mS r' = mS r
theorem Cn.ct {p p' : Mem} (h : Cn p p') : Ct p p' := ⟨h.1.mono (by decide) (fun _ z => z) (fun _ z => z), h.2.1, h.2.2⟩
theorem Rn.rt {r r' : Mem} (h : Rn r r') : Rt r r' := ⟨h.1.mono (by decide) (fun _ z => z) (fun _ z => z), h.2.1, h.2.2⟩
theorem name_j {N : Nat} {kd pl : Nat → Nat} {p r : Mem} {t nm : Nat} (h : Ps N kd pl p r t) (hn : Nam pl t p r nm) :
    (kd t = 2 ∧ t < 500 ∧ ∃ v nm' p' r', P_Parser_takeName p = some (1, p') ∧ R_name r = some (nj v, r') ∧ Ps N kd pl p' r' (t + 1) ∧ Nam pl (t + 1) p' r' nm' ∧ nm ≤ nm' ∧ v < nm' ∧ mI p' 780 22 = (if v < 60 then nj v else -1) ∧ Cn p p' ∧ Rn r r' ∧ (∀ k, k < min nm 60 → aL p' 23 k = aL p 23 k) ∧ (∀ k, k < nm → aL r' 35 k = aL r 35 k)) ∨
    (∃ p' r', P_Parser_takeName p = some (0, p') ∧ R_name r = some (0, r') ∧ Bad nm p r p' r') := by
  have hh := h
  obtain ⟨a1, a2, a3, a4, a5, a6, a7, a8, a9, a10, a11, a12⟩ := h
  obtain ⟨n1, n2, n3, n4, n5, n6⟩ := hn
  have hN := a1.2.1
  have T1 := a9.1
  obtain ⟨k1, k2, k3, k4, k5, k6, k7, k8⟩ := a1.2.2.2.2 t a2
  clear k8
  have ek : (nj (kd t) = 2) = (kd t = 2) := nj_eq_l (by omega) (by omega)
  unfold P_Parser_takeName R_name
  rw [vb_e, a3, inb_nj (by omega), gd_t (decide_eq_true (by omega)), gd_t (decide_eq_true (by omega)), ix_nj (by omega), k3, a4]
  have eis := is_r a5 a4 (by omega) k4 k1 2 (by omega) (x := 1) rfl
  by_cases z : kd t = 2
  · have nm2 := k7 z
    clear k7
    rw [if_pos (ek.mpr z)]
    unfold P_Parser_numberOf
    have eN : P_Parser_numberOf_2 FU (aL p 20 t) 0 p = some (if fsA (aL p 23) (aL p 20 t) (min nm 60) 0 < min nm 60 then nj (fsA (aL p 23) (aL p 20 t) (min nm 60) 0) else -1, p) := numberOf_e (by omega) n3 (min nm 60) 0 FU (by omega) (by unfold FU; omega)
    rw [eN, bn_s, vb_e]
    obtain ⟨f1, f2, f3, f4⟩ := fsA_b (f := aL p 23) (y := aL p 20 t) (min nm 60) 0
    obtain ⟨g1, g2, g3, g4⟩ := fsA_b (f := aL r 35) (y := aL r 6 t) nm 0
    have eq : ∀ k, k < min nm 60 → (aL p 23 k = aL p 20 t) = (aL r 35 k = aL r 6 t) := fun k hk => Nm2_eq (n4 k hk) nm2
    generalize fsA (aL p 23) (aL p 20 t) (min nm 60) 0 = w at *
    have hmust : (t < 500 → R_must 1 r = some ((), sI r 1547 0 (nj (t + 1)))) ∧ (t = 500 → ∃ r', R_must 1 r = some ((), r') ∧ Rf r' 2 (pl t) ∧ Rt r r' ∧ mI r' 1581 = mI r 1581 ∧ mI r' 1580 = mI r 1580 ∧ aL r' 35 = aL r 35) := by
      obtain ⟨m1, m2⟩ := next_r a5 a4 (by omega) k6
      unfold R_must
      rw [eis, bn_s, decide_eq_true z, tI_t, if_neg (show ¬ (1 : Int32) = 0 by decide)]
      refine ⟨fun q => by rw [m1 q, bn_s], fun q => ?_⟩
      obtain ⟨r', d1, d2, d3⟩ := m2 q
      rw [d1, bn_s]
      exact ⟨r', rfl, d2, next_t d1, next_o d1 (by omega) (by omega) (by omega), next_o d1 (by omega) (by omega) (by omega), (d3 0).1.al (by decide) (fun z => z) (by omega)⟩
    have e21 : R_name_21 FU (nj t) 0 (sI r 1547 0 (nj (t + 1))) = if fsA (aL r 35) (aL r 6 t) nm 0 < nm then some (nj (fsA (aL r 35) (aL r 6 t) nm 0), sI r 1547 0 (nj (t + 1))) else R_name_53 (nj t) (sI r 1547 0 (nj (t + 1))) :=
      R_name_21_e (m := sI r 1547 0 (nj (t + 1))) (n := nm) (by omega) (by omega) (by rw [k_mI_sI (by omega)]; exact n2) nm 0 FU (by omega) (by unfold FU; omega)
    generalize fsA (aL r 35) (aL r 6 t) nm 0 = y at *
    have h0' : mI (sI r 1547 0 (nj (t + 1))) 1549 0 ≤ 0 := by rw [k_mI_sI (by omega), a5]; decide
    -- what is left once the class has its number
    have fin : ∀ (q : Mem) (v nm' : Nat) (r2 : Mem), Cn p q → mI q 779 22 = nj t → mI q 780 22 = (if v < 60 then nj v else -1) → (if y < nm then some (nj y, sI r 1547 0 (nj (t + 1))) else R_name_53 (nj t) (sI r 1547 0 (nj (t + 1)))) = some (nj v, r2) → Rn r r2 → mI r2 1547 0 = nj (t + 1) → nm ≤ nm' → v < nm' →
        Nam pl (t + 1) q r2 nm' → (∀ k, k < min nm 60 → aL q 23 k = aL p 23 k) → (∀ k, k < nm → aL r2 35 k = aL r 35 k) →
        (kd t = 2 ∧ t < 500 ∧ ∃ v nm' p' r', P_Parser_takeName_133 q = some (1, p') ∧ (bn (R_must 1 r) fun _ m3 => if mI m3 1549 0 ≤ 0 then R_name_21 FU (nj t) 0 m3 else some (0, m3)) = some (nj v, r') ∧ Ps N kd pl p' r' (t + 1) ∧ Nam pl (t + 1) p' r' nm' ∧ nm ≤ nm' ∧ v < nm' ∧ mI p' 780 22 = (if v < 60 then nj v else -1) ∧ Cn p p' ∧ Rn r r' ∧ (∀ k, k < min nm 60 → aL p' 23 k = aL p 23 k) ∧ (∀ k, k < nm → aL r' 35 k = aL r 35 k)) ∨
        (∃ p' r', P_Parser_takeName_133 q = some (0, p') ∧ (bn (R_must 1 r) fun _ m3 => if mI m3 1549 0 ≤ 0 then R_name_21 FU (nj t) 0 m3 else some (0, m3)) = some (0, r') ∧ Bad nm p r p' r') := by
      intro q v nm' r2 c1 c2 c3 c4 c5 c6 c7 c8 c9 c10 c11
      obtain ⟨t1, t2⟩ := take_e c2 (show t ≤ 500 by omega)
      unfold P_Parser_takeName_133
      by_cases u : t < 500
      · left
        have hnx := a1.nxt a2 (by omega) u
        rw [t1 u, bn_s, gz_t (Or.inr rfl), hmust.1 u, bn_s, if_pos h0', e21]
        have cc : Cn p (sI q 779 22 (nj (t + 1))) := ⟨c1.1.sI (by decide), c1.2.1, c1.2.2⟩
        exact ⟨z, u, v, nm', _, r2, rfl, c4, hh.step cc.ct c5.rt hnx (by rw [k_mI_sI_e, up1_ap, if_pos rfl]) c6 (by rw [c5.1.i (by decide) (by omega)]; exact a5), c9.same (Nat.le_refl _) rfl (by rw [k_mI_sI (by omega)]) (by rw [k_aL_sI]) rfl rfl (by rw [k_mI_sI (by omega)]), c7, c8, by rw [k_mI_sI (by omega)]; exact c3, cc, c5, by rw [k_aL_sI]; exact c10, c11⟩
      · right
        obtain ⟨p', b1, b2⟩ := t2 (by omega)
        obtain ⟨r', d1, d2, d3, d4, d5, d6⟩ := hmust.2 (by omega)
        rw [b1, bn_s, gz_t (Or.inl rfl), d1, bn_s, if_neg d2.ne.2.1]
        exact ⟨p', r', rfl, rfl, bad_of hh c1.ct b2 d2 d3 d4 d5 c10 d6⟩
    have r1n : Rn r (sI r 1547 0 (nj (t + 1))) := ⟨Ch.rfl.sI (by decide), rfl, rfl⟩
    have e80 : ∀ x : Int32, mI (sI p 780 22 x) 780 22 = x := fun x => by rw [k_mI_sI_e, up1_ap, if_pos rfl]
    rw [e80]
    by_cases c : w < min nm 60
    · have yw : y = w := by
        have q1 : aL r 35 w = aL r 6 t := (eq w c).mp (f3 (by omega))
        by_cases q2 : y < w
        · exact absurd ((eq y (by omega)).mpr (g3 (by omega))) (f4 y (by omega) q2)
        · by_cases q3 : w < y
          · exact absurd q1 (g4 w (by omega) q3)
          · omega
      rw [if_pos c, if_neg (by rw [nj_ne_m1 (by omega)]; exact fun q => q)]
      unfold P_Parser_takeName_101
      rw [e80, if_neg (by rw [nj_ne_m1 (by omega)]; exact fun q => q)]
      exact fin (sI p 780 22 (nj w)) w nm (sI r 1547 0 (nj (t + 1))) ⟨Ch.rfl.sI (by decide), rfl, rfl⟩ (by rw [k_mI_sI (by omega)]; exact a3) (by rw [e80, if_pos (by omega)]) (by rw [if_pos (by omega), yw]) r1n (by rw [k_mI_sI_e, up1_ap, if_pos rfl]) (Nat.le_refl _) (by omega)
        (Nam.same ⟨n1, n2, n3, n4, n5, n6⟩ (by omega) (by rw [k_mI_sI (by omega)]) (by rw [k_mI_sI (by omega)]) (by rw [k_aL_sI]) (by rw [k_aL_sI]) (by rw [k_mI_sI (by omega)]) (by rw [k_mI_sI (by omega)])) (fun _ _ => by rw [k_aL_sI]) (fun _ _ => by rw [k_aL_sI])
    · have yw : min nm 60 ≤ y := by
        by_cases q2 : y < min nm 60
        · exact absurd ((eq y q2).mpr (g3 (by omega))) (f4 y (by omega) (by omega))
        · omega
      rw [if_neg c, if_pos rfl, k_mI_sI (by omega), n3]
      have e75 : ∀ m : Mem, mI m 1585 0 = nj nm → R_name_75 (nj t) m = some (nj nm, sI (wL m 35 nm (aL m 6 t)) 1585 0 (nj (nm + 1))) := by
        intro m m1
        unfold R_name_75
        rw [inb_nj (by omega), gd_t (decide_eq_true (by omega)), m1, inb_nj (by omega), gd_t (decide_eq_true (by omega)), vb_e, vb_e, k_mI_wL, m1, nj_add_l, k_mI_sI_e, up1_ap, if_pos rfl, nj_sub_l (by omega), ix_nj (by omega), ix_nj (by omega)]
        rfl
      by_cases c6 : nm < 60
      · have em : min nm 60 = nm := by omega
        have n3' : mI p 771 22 = nj nm := by rw [n3, em]
        rw [show nj (min nm 60) = nj nm by rw [em], if_neg (by rw [nj_l_le (by omega) (by omega)]; omega), k_mI_sI (by omega), a3, inb_nj (by omega), gd_t (decide_eq_true (by omega)), inb_nj (by omega), gd_t (decide_eq_true (by omega)), vb_e, vb_e, vb_e, ix_nj (by omega), ix_nj (by omega), k_aL_sI]
        have e53 : R_name_53 (nj t) (sI r 1547 0 (nj (t + 1))) = some (nj nm, sI (wL (sI r 1547 0 (nj (t + 1))) 35 nm (aL r 6 t)) 1585 0 (nj (nm + 1))) := by
          unfold R_name_53
          rw [k_mI_sI (by omega), n2, if_neg (by rw [nj_eq_l (by omega) (by omega)]; omega)]
          exact e75 _ (by rw [k_mI_sI (by omega)]; exact n2)
        have e71 : ∀ (X : Mem), mI X 771 22 = nj nm → sI (sI X 780 22 (mI X 771 22)) 771 22 (mI (sI X 780 22 (mI X 771 22)) 771 22 + 1) = sI (sI X 780 22 (nj nm)) 771 22 (nj (nm + 1)) := fun X hX => by rw [hX, k_mI_sI (by omega), hX, nj_add_l]
        rw [e71 _ (by rw [k_mI_wL, k_mI_sI (by omega)]; exact n3')]
        refine fin (sI (sI (wL (sI p 780 22 (-1)) 23 nm (aL p 20 t)) 780 22 (nj nm)) 771 22 (nj (nm + 1))) nm (nm + 1) (sI (wL (sI r 1547 0 (nj (t + 1))) 35 nm (aL r 6 t)) 1585 0 (nj (nm + 1))) ⟨(((Ch.rfl.sI (by decide)).wL (Or.inl (by decide))).sI (by decide)).sI (by decide), rfl, rfl⟩ (by rw [k_mI_sI (by omega), k_mI_sI (by omega), k_mI_wL, k_mI_sI (by omega)]; exact a3) (by rw [k_mI_sI (by omega), k_mI_sI_e, up1_ap, if_pos rfl, if_pos c6]) (by rw [if_neg (by omega)]; exact e53) ⟨((Ch.rfl.sI (by decide)).wL (Or.inl (by decide))).sI (by decide), rfl, rfl⟩ (by rw [k_mI_sI (by omega), k_mI_wL, k_mI_sI_e, up1_ap, if_pos rfl]) (by omega) (by omega) ⟨by omega, by rw [k_mI_sI_e, up1_ap, if_pos rfl], by rw [k_mI_sI_e, up1_ap, if_pos rfl, show min (nm + 1) 60 = nm + 1 by omega], fun k hk => ?_, fun _ => ?_, fun q => by omega⟩ (fun k hk => ?_) (fun k hk => ?_)
        · rw [k_aL_sI, k_aL_sI, k_aL_wL_e, up1_ap, k_aL_sI, k_aL_sI, k_aL_wL_e, up1_ap, k_aL_sI]
          by_cases e : k = nm
          · rw [if_pos e, if_pos e]; exact nm2
          · rw [if_neg e, if_neg e]; exact n4 k (by omega)
        · obtain ⟨q1, q2⟩ := n5 (by omega)
          exact ⟨by rw [k_mI_sI (by omega), k_mI_wL, k_mI_sI (by omega)]; exact q1, by rw [k_mI_sI (by omega), k_mI_sI (by omega), k_mI_wL, k_mI_sI (by omega)]; exact q2⟩
        · rw [k_aL_sI, k_aL_sI, k_aL_wL_e, up1_ap, if_neg (by omega), k_aL_sI]
        · rw [k_aL_sI, k_aL_wL_e, up1_ap, if_neg (by omega), k_aL_sI]
      · have em : min nm 60 = 60 := by omega
        rw [show nj (min nm 60) = nj 60 by rw [em], if_pos (show (60 : Int32) ≤ nj 60 by decide)]
        unfold P_Parser_takeName_101
        rw [e80, if_pos rfl, k_mI_sI (by omega), k_mI_sI (by omega), a3, inb_nj (by omega), gd_t (decide_eq_true (by omega)), vb_e, ix_nj (by omega), k_aI_sI, k5]
        by_cases c61 : nm = 60
        · have q5 := n5 (by omega)
          rw [if_pos q5.2]
          have e53 : R_name_53 (nj t) (sI r 1547 0 (nj (t + 1))) = some (nj nm, sI (wL (sI (sI r 1547 0 (nj (t + 1))) 1587 0 (nj t)) 35 nm (aL r 6 t)) 1585 0 (nj (nm + 1))) := by
            unfold R_name_53
            rw [k_mI_sI (by omega), n2, if_pos (by rw [nj_eq_l (by omega) (by omega)]; exact c61), k_mI_sI (by omega), if_pos q5.1, vb_e]
            exact e75 _ (by rw [k_mI_sI (by omega), k_mI_sI (by omega)]; exact n2)
          refine fin (sI (sI p 780 22 (-1)) 778 22 (nj (pl t))) nm (nm + 1) (sI (wL (sI (sI r 1547 0 (nj (t + 1))) 1587 0 (nj t)) 35 nm (aL r 6 t)) 1585 0 (nj (nm + 1))) ⟨(Ch.rfl.sI (by decide)).sI (by decide), rfl, rfl⟩ (by rw [k_mI_sI (by omega), k_mI_sI (by omega)]; exact a3) (by rw [k_mI_sI (by omega), e80, if_neg (by omega)]) (by rw [if_neg (by omega)]; exact e53) ⟨(((Ch.rfl.sI (by decide)).sI (by decide)).wL (Or.inl (by decide))).sI (by decide), rfl, rfl⟩ (by rw [k_mI_sI (by omega), k_mI_wL, k_mI_sI (by omega), k_mI_sI_e, up1_ap, if_pos rfl]) (by omega) (by omega) ⟨by omega, by rw [k_mI_sI_e, up1_ap, if_pos rfl], by rw [k_mI_sI (by omega), k_mI_sI (by omega), show min (nm + 1) 60 = min nm 60 by omega]; exact n3, fun k hk => ?_, fun q => by omega, fun _ => ⟨t, by omega, by rw [k_mI_sI (by omega), k_mI_wL, k_mI_sI_e, up1_ap, if_pos rfl], by rw [k_mI_sI_e, up1_ap, if_pos rfl]⟩⟩ (fun k hk => by rw [k_aL_sI, k_aL_sI]) (fun k hk => ?_)
          · rw [k_aL_sI, k_aL_sI, k_aL_sI, k_aL_wL_e, up1_ap, if_neg (by omega), k_aL_sI, k_aL_sI]
            exact n4 k (by omega)
          · rw [k_aL_sI, k_aL_wL_e, up1_ap, if_neg (by omega), k_aL_sI, k_aL_sI]
        · obtain ⟨kk, m1, m2, m3⟩ := n6 (by omega)
          have m4 := (a1.2.2.2.2 kk (by omega)).2.1
          rw [if_neg (by rw [m3, nj_ne_m1 (by omega)]; exact fun q => q)]
          by_cases yn : y < nm
          · exact fin (sI p 780 22 (-1)) y nm (sI r 1547 0 (nj (t + 1))) ⟨Ch.rfl.sI (by decide), rfl, rfl⟩ (by rw [k_mI_sI (by omega)]; exact a3) (by rw [e80, if_neg (by omega)]) (by rw [if_pos yn]) r1n (by rw [k_mI_sI_e, up1_ap, if_pos rfl]) (Nat.le_refl _) yn
              (Nam.same ⟨n1, n2, n3, n4, n5, n6⟩ (by omega) (by rw [k_mI_sI (by omega)]) (by rw [k_mI_sI (by omega)]) (by rw [k_aL_sI]) (by rw [k_aL_sI]) (by rw [k_mI_sI (by omega)]) (by rw [k_mI_sI (by omega)])) (fun _ _ => by rw [k_aL_sI]) (fun _ _ => by rw [k_aL_sI])
          · have e53 : R_name_53 (nj t) (sI r 1547 0 (nj (t + 1))) = some (nj nm, sI (wL (sI r 1547 0 (nj (t + 1))) 35 nm (aL r 6 t)) 1585 0 (nj (nm + 1))) := by
              unfold R_name_53
              rw [k_mI_sI (by omega), n2, if_neg (by rw [nj_eq_l (by omega) (by omega)]; omega)]
              exact e75 _ (by rw [k_mI_sI (by omega)]; exact n2)
            refine fin (sI p 780 22 (-1)) nm (nm + 1) (sI (wL (sI r 1547 0 (nj (t + 1))) 35 nm (aL r 6 t)) 1585 0 (nj (nm + 1))) ⟨Ch.rfl.sI (by decide), rfl, rfl⟩ (by rw [k_mI_sI (by omega)]; exact a3) (by rw [e80, if_neg (by omega)]) (by rw [if_neg yn]; exact e53) ⟨((Ch.rfl.sI (by decide)).wL (Or.inl (by decide))).sI (by decide), rfl, rfl⟩ (by rw [k_mI_sI (by omega), k_mI_wL, k_mI_sI_e, up1_ap, if_pos rfl]) (by omega) (by omega) ⟨by omega, by rw [k_mI_sI_e, up1_ap, if_pos rfl], by rw [k_mI_sI (by omega), show min (nm + 1) 60 = min nm 60 by omega]; exact n3, fun k hk => ?_, fun q => by omega, fun _ => ⟨kk, by omega, by rw [k_mI_sI (by omega), k_mI_wL, k_mI_sI (by omega)]; exact m2, by rw [k_mI_sI (by omega)]; exact m3⟩⟩ (fun k hk => by rw [k_aL_sI]) (fun k hk => ?_)
            · rw [k_aL_sI, k_aL_sI, k_aL_wL_e, up1_ap, if_neg (by omega), k_aL_sI]
              exact n4 k (by omega)
            · rw [k_aL_sI, k_aL_wL_e, up1_ap, if_neg (by omega), k_aL_sI]
  · right
    clear k7
    obtain ⟨p', b1, b2⟩ := fail_e 1 a3 (show t ≤ 500 by omega)
    obtain ⟨r', d1, d2, d3⟩ := fail_r (c := 1) a5 a4 (by omega) k6 (Or.inl rfl)
    have b1' : P_Parser_fail 1 p = _ := b1
    have d1' : R_fail 1 r = _ := d1
    unfold R_must
    rw [if_neg (fun w => z (ek.mp w)), b1', bn_s, gz_t (Or.inl rfl), eis, bn_s, decide_eq_false z, tI_f, if_pos rfl, d1', bn_s, bn_s, if_neg d2.ne.2.1]
    exact ⟨p', r', rfl, rfl, bad_of hh Ct.rfl b2 d2 (fail_t (q := 0) d1) (fail_o d1 (by omega) (by omega)) (fail_o d1 (by omega) (by omega)) (fun _ _ => rfl) (by rw [(d3 0).1.al (by decide) (fun z => z) (by omega)])⟩
